/-! The class's calls without a loop (written by a program). -/
def StOK (v : Int32) : Prop := v = nI (nat v) ∧ nat v < 4
def FrOK (h : Hp) (c : CS) (f : Nat) : Prop := hpL h (21, f) = nat (c 20 f 1) ∧ c 20 f 1 = nI (nat (c 20 f 1))
theorem nat_lt (v : Int32) : nat v < 2147483648 := by
  by_cases q : 0 ≤ v
  · obtain ⟨k, hk, rfl⟩ := i32_pos q
    rw [nat_nI hk]
    exact hk
  · have : v.toInt < 0 := by
      have := Int32.not_le.mp q
      exact Int32.lt_iff_toInt_lt.mp this
    show v.toInt.toNat < 2147483648
    omega
theorem rfx {v : Int32} (h0 : ¬ -1 < v) (h1 : -6 ≤ v) : -v = nI (nat (-v)) ∧ nat (-v) < 7 := by
  have a0 := Int32.le_iff_toInt_le.mp (Int32.not_lt.mp h0)
  have a1 := Int32.le_iff_toInt_le.mp h1
  have a0' : v.toInt ≤ -1 := a0
  have a1' : -6 ≤ v.toInt := a1
  have : v.toInt = -1 ∨ v.toInt = -2 ∨ v.toInt = -3 ∨ v.toInt = -4 ∨ v.toInt = -5 ∨ v.toInt = -6 := by omega
  rcases this with z | z | z | z | z | z
  · have e : v = -1 := Int32.toInt_inj.mp z
    subst e; exact ⟨by decide, by decide⟩
  · have e : v = -2 := Int32.toInt_inj.mp z
    subst e; exact ⟨by decide, by decide⟩
  · have e : v = -3 := Int32.toInt_inj.mp z
    subst e; exact ⟨by decide, by decide⟩
  · have e : v = -4 := Int32.toInt_inj.mp z
    subst e; exact ⟨by decide, by decide⟩
  · have e : v = -5 := Int32.toInt_inj.mp z
    subst e; exact ⟨by decide, by decide⟩
  · have e : v = -6 := Int32.toInt_inj.mp z
    subst e; exact ⟨by decide, by decide⟩
def refX (c : CS) (k : Nat) : CS := uC c 6 0 k (c 6 0 k + 1)
theorem x5_refuse_1 (X : Nat × (Nat → Int32)) {h : Hp} {nl nf np : Nat} (hw : WF h nl nf np) (c : CS) : wp X 79 0 [some (vR (some (0, 0))), some (vI (-1))] [] (pX h c) (fun r h' => r = some (vI (-1)) ∧ h' = pX h (refX c 1)) := by
  refine w_pu rfl rfl ?_
  refine w_cst (v := (-1)) rfl rfl rfl ?_
  refine w_gt rfl (fun c0 => ?_) (fun c0 => ?_)
  · exact absurd c0 (by decide)
  · refine w_pu rfl rfl ?_
    refine w_cst (v := (-6)) rfl rfl rfl ?_
    refine w_lt rfl (fun c1 => ?_) (fun c1 => ?_)
    · exact absurd c1 (by decide)
    · refine w_pu rfl rfl ?_
      refine x_gR 6 hw rfl rfl rfl rfl Nat.one_pos ?_
      refine w_pu rfl rfl ?_
      refine w_pu rfl rfl ?_
      refine w_pu rfl rfl ?_
      refine x_ai 1 7 hw rfl rfl rfl (by decide) Nat.one_pos (by first | rfl | simp only [ix_lits, nI_mul, nI_add]) (by show 1 < 7; omega) ?_
      refine w_cst (v := 1) rfl rfl rfl ?_
      refine w_pu rfl rfl ?_
      refine x_si 1 7 hw rfl rfl rfl (by decide) Nat.one_pos (by first | rfl | simp only [ix_lits, nI_mul, nI_add]) (by show 1 < 7; omega) ?_
      refine w_pu rfl rfl ?_
      refine w_rt rfl rfl trivial ?_
      exact ⟨rfl, rfl⟩
theorem x5_refuse_2 (X : Nat × (Nat → Int32)) {h : Hp} {nl nf np : Nat} (hw : WF h nl nf np) (c : CS) : wp X 79 0 [some (vR (some (0, 0))), some (vI (-2))] [] (pX h c) (fun r h' => r = some (vI (-2)) ∧ h' = pX h (refX c 2)) := by
  refine w_pu rfl rfl ?_
  refine w_cst (v := (-1)) rfl rfl rfl ?_
  refine w_gt rfl (fun c0 => ?_) (fun c0 => ?_)
  · exact absurd c0 (by decide)
  · refine w_pu rfl rfl ?_
    refine w_cst (v := (-6)) rfl rfl rfl ?_
    refine w_lt rfl (fun c1 => ?_) (fun c1 => ?_)
    · exact absurd c1 (by decide)
    · refine w_pu rfl rfl ?_
      refine x_gR 6 hw rfl rfl rfl rfl Nat.one_pos ?_
      refine w_pu rfl rfl ?_
      refine w_pu rfl rfl ?_
      refine w_pu rfl rfl ?_
      refine x_ai 2 7 hw rfl rfl rfl (by decide) Nat.one_pos (by first | rfl | simp only [ix_lits, nI_mul, nI_add]) (by show 2 < 7; omega) ?_
      refine w_cst (v := 1) rfl rfl rfl ?_
      refine w_pu rfl rfl ?_
      refine x_si 2 7 hw rfl rfl rfl (by decide) Nat.one_pos (by first | rfl | simp only [ix_lits, nI_mul, nI_add]) (by show 2 < 7; omega) ?_
      refine w_pu rfl rfl ?_
      refine w_rt rfl rfl trivial ?_
      exact ⟨rfl, rfl⟩
theorem x5_refuse_3 (X : Nat × (Nat → Int32)) {h : Hp} {nl nf np : Nat} (hw : WF h nl nf np) (c : CS) : wp X 79 0 [some (vR (some (0, 0))), some (vI (-3))] [] (pX h c) (fun r h' => r = some (vI (-3)) ∧ h' = pX h (refX c 3)) := by
  refine w_pu rfl rfl ?_
  refine w_cst (v := (-1)) rfl rfl rfl ?_
  refine w_gt rfl (fun c0 => ?_) (fun c0 => ?_)
  · exact absurd c0 (by decide)
  · refine w_pu rfl rfl ?_
    refine w_cst (v := (-6)) rfl rfl rfl ?_
    refine w_lt rfl (fun c1 => ?_) (fun c1 => ?_)
    · exact absurd c1 (by decide)
    · refine w_pu rfl rfl ?_
      refine x_gR 6 hw rfl rfl rfl rfl Nat.one_pos ?_
      refine w_pu rfl rfl ?_
      refine w_pu rfl rfl ?_
      refine w_pu rfl rfl ?_
      refine x_ai 3 7 hw rfl rfl rfl (by decide) Nat.one_pos (by first | rfl | simp only [ix_lits, nI_mul, nI_add]) (by show 3 < 7; omega) ?_
      refine w_cst (v := 1) rfl rfl rfl ?_
      refine w_pu rfl rfl ?_
      refine x_si 3 7 hw rfl rfl rfl (by decide) Nat.one_pos (by first | rfl | simp only [ix_lits, nI_mul, nI_add]) (by show 3 < 7; omega) ?_
      refine w_pu rfl rfl ?_
      refine w_rt rfl rfl trivial ?_
      exact ⟨rfl, rfl⟩
theorem x5_refuse_4 (X : Nat × (Nat → Int32)) {h : Hp} {nl nf np : Nat} (hw : WF h nl nf np) (c : CS) : wp X 79 0 [some (vR (some (0, 0))), some (vI (-4))] [] (pX h c) (fun r h' => r = some (vI (-4)) ∧ h' = pX h (refX c 4)) := by
  refine w_pu rfl rfl ?_
  refine w_cst (v := (-1)) rfl rfl rfl ?_
  refine w_gt rfl (fun c0 => ?_) (fun c0 => ?_)
  · exact absurd c0 (by decide)
  · refine w_pu rfl rfl ?_
    refine w_cst (v := (-6)) rfl rfl rfl ?_
    refine w_lt rfl (fun c1 => ?_) (fun c1 => ?_)
    · exact absurd c1 (by decide)
    · refine w_pu rfl rfl ?_
      refine x_gR 6 hw rfl rfl rfl rfl Nat.one_pos ?_
      refine w_pu rfl rfl ?_
      refine w_pu rfl rfl ?_
      refine w_pu rfl rfl ?_
      refine x_ai 4 7 hw rfl rfl rfl (by decide) Nat.one_pos (by first | rfl | simp only [ix_lits, nI_mul, nI_add]) (by show 4 < 7; omega) ?_
      refine w_cst (v := 1) rfl rfl rfl ?_
      refine w_pu rfl rfl ?_
      refine x_si 4 7 hw rfl rfl rfl (by decide) Nat.one_pos (by first | rfl | simp only [ix_lits, nI_mul, nI_add]) (by show 4 < 7; omega) ?_
      refine w_pu rfl rfl ?_
      refine w_rt rfl rfl trivial ?_
      exact ⟨rfl, rfl⟩
theorem x5_refuse_5 (X : Nat × (Nat → Int32)) {h : Hp} {nl nf np : Nat} (hw : WF h nl nf np) (c : CS) : wp X 79 0 [some (vR (some (0, 0))), some (vI (-5))] [] (pX h c) (fun r h' => r = some (vI (-5)) ∧ h' = pX h (refX c 5)) := by
  refine w_pu rfl rfl ?_
  refine w_cst (v := (-1)) rfl rfl rfl ?_
  refine w_gt rfl (fun c0 => ?_) (fun c0 => ?_)
  · exact absurd c0 (by decide)
  · refine w_pu rfl rfl ?_
    refine w_cst (v := (-6)) rfl rfl rfl ?_
    refine w_lt rfl (fun c1 => ?_) (fun c1 => ?_)
    · exact absurd c1 (by decide)
    · refine w_pu rfl rfl ?_
      refine x_gR 6 hw rfl rfl rfl rfl Nat.one_pos ?_
      refine w_pu rfl rfl ?_
      refine w_pu rfl rfl ?_
      refine w_pu rfl rfl ?_
      refine x_ai 5 7 hw rfl rfl rfl (by decide) Nat.one_pos (by first | rfl | simp only [ix_lits, nI_mul, nI_add]) (by show 5 < 7; omega) ?_
      refine w_cst (v := 1) rfl rfl rfl ?_
      refine w_pu rfl rfl ?_
      refine x_si 5 7 hw rfl rfl rfl (by decide) Nat.one_pos (by first | rfl | simp only [ix_lits, nI_mul, nI_add]) (by show 5 < 7; omega) ?_
      refine w_pu rfl rfl ?_
      refine w_rt rfl rfl trivial ?_
      exact ⟨rfl, rfl⟩
theorem x5_refuse_6 (X : Nat × (Nat → Int32)) {h : Hp} {nl nf np : Nat} (hw : WF h nl nf np) (c : CS) : wp X 79 0 [some (vR (some (0, 0))), some (vI (-6))] [] (pX h c) (fun r h' => r = some (vI (-6)) ∧ h' = pX h (refX c 6)) := by
  refine w_pu rfl rfl ?_
  refine w_cst (v := (-1)) rfl rfl rfl ?_
  refine w_gt rfl (fun c0 => ?_) (fun c0 => ?_)
  · exact absurd c0 (by decide)
  · refine w_pu rfl rfl ?_
    refine w_cst (v := (-6)) rfl rfl rfl ?_
    refine w_lt rfl (fun c1 => ?_) (fun c1 => ?_)
    · exact absurd c1 (by decide)
    · refine w_pu rfl rfl ?_
      refine x_gR 6 hw rfl rfl rfl rfl Nat.one_pos ?_
      refine w_pu rfl rfl ?_
      refine w_pu rfl rfl ?_
      refine w_pu rfl rfl ?_
      refine x_ai 6 7 hw rfl rfl rfl (by decide) Nat.one_pos (by first | rfl | simp only [ix_lits, nI_mul, nI_add]) (by show 6 < 7; omega) ?_
      refine w_cst (v := 1) rfl rfl rfl ?_
      refine w_pu rfl rfl ?_
      refine x_si 6 7 hw rfl rfl rfl (by decide) Nat.one_pos (by first | rfl | simp only [ix_lits, nI_mul, nI_add]) (by show 6 < 7; omega) ?_
      refine w_pu rfl rfl ?_
      refine w_rt rfl rfl trivial ?_
      exact ⟨rfl, rfl⟩
def x5_creditLeftF (c : CS)  : Int32 := ((c 0 0 14) - (c 0 0 15))
theorem x5_creditLeft (X : Nat × (Nat → Int32)) {h : Hp} {nl nf np : Nat} (hw : WF h nl nf np) (c : CS)    : wp X 80 0 [some (vR (some (0, 0)))] [] (pX h c) (fun r h' => r = some (vI (x5_creditLeftF c )) ∧ h' = pX h c) := by
  have h4 := hw.2.2.2.2.2.2.1
  have h5 := hw.2.2.2.2.2.2.2.1
  have h3 := hw.2.2.2.2.2.2.2.2
  refine w_pu rfl rfl ?_
  refine x_g hw rfl rfl rfl (by decide) Nat.one_pos ?_
  refine w_pu rfl rfl ?_
  refine x_g hw rfl rfl rfl (by decide) Nat.one_pos ?_
  refine w_pu rfl rfl ?_
  refine w_rt rfl rfl trivial ?_
  exact ⟨by rw [x5_creditLeftF], rfl⟩
def x5_creditF (c : CS)  : Int32 := (x5_creditLeftF c )
theorem x5_credit (X : Nat × (Nat → Int32)) {h : Hp} {nl nf np : Nat} (hw : WF h nl nf np) (c : CS)    : wp X 71 0 [some (vR (some (0, 0)))] [] (pX h c) (fun r h' => r = some (vI (x5_creditF c )) ∧ h' = pX h c) := by
  have h4 := hw.2.2.2.2.2.2.1
  have h5 := hw.2.2.2.2.2.2.2.1
  have h3 := hw.2.2.2.2.2.2.2.2
  refine w_pu rfl rfl ?_
  refine w_cp (vI (x5_creditLeftF c )) rfl rfl (by decide) (Nat.le_of_ble_eq_true rfl) rfl (Nat.le_of_ble_eq_true rfl) (Nat.le_of_ble_eq_true rfl) ⟨wl hw Nat.one_pos, rfl⟩ rfl (x5_creditLeft X hw c   ) ?_
  refine w_rt rfl rfl trivial ?_
  exact ⟨by rw [x5_creditF], rfl⟩
def x5_cutF (c : CS) (n : Int32) : Int32 × CS := (if 1 ≤ n then (if n ≤ 250 then (c 0 0 13, (uC c 0 0 13 n)) else ((-6), refX c 6)) else ((-4), refX c 4))
theorem x5_cut (X : Nat × (Nat → Int32)) {h : Hp} {nl nf np : Nat} (hw : WF h nl nf np) (c : CS) (n : Int32)   : wp X 41 0 [some (vR (some (0, 0))), some (vI n), none] [] (pX h c) (fun r h' => r = some (vI (x5_cutF c n).1) ∧ h' = pX h (x5_cutF c n).2) := by
  have h4 := hw.2.2.2.2.2.2.1
  have h5 := hw.2.2.2.2.2.2.2.1
  have h3 := hw.2.2.2.2.2.2.2.2
  refine w_pu rfl rfl ?_
  refine w_cst (v := 1) rfl rfl rfl ?_
  refine w_ge rfl (fun c0 => ?_) (fun c0 => ?_)
  · refine w_pu rfl rfl ?_
    refine w_cst (v := 250) rfl rfl rfl ?_
    refine w_le rfl (fun c1 => ?_) (fun c1 => ?_)
    · refine w_pu rfl rfl ?_
      refine x_g hw rfl rfl rfl (by decide) Nat.one_pos ?_
      refine w_pu rfl rfl ?_
      refine w_pu rfl rfl ?_
      refine w_pu rfl rfl ?_
      refine x_p hw rfl rfl rfl (by decide) Nat.one_pos ?_
      refine w_pu rfl rfl ?_
      refine w_rt rfl rfl trivial ?_
      exact ⟨by rw [x5_cutF, if_pos c0, if_pos c1], by rw [x5_cutF, if_pos c0, if_pos c1]⟩
    · refine w_pu rfl rfl ?_
      refine w_cst (v := (-6)) rfl rfl rfl ?_
      refine w_cgE (vI (-6)) (pX h (refX c 6)) rfl rfl (by decide) (Nat.le_of_ble_eq_true rfl) rfl (Nat.le_of_ble_eq_true rfl) (Nat.le_of_ble_eq_true rfl) ⟨wl hw Nat.one_pos, rfl⟩ rfl (x5_refuse_6 X hw c) ?_
      refine w_rt rfl rfl trivial ?_
      exact ⟨by rw [x5_cutF, if_pos c0, if_neg c1], by rw [x5_cutF, if_pos c0, if_neg c1]⟩
  · refine w_pu rfl rfl ?_
    refine w_cst (v := (-4)) rfl rfl rfl ?_
    refine w_cgE (vI (-4)) (pX h (refX c 4)) rfl rfl (by decide) (Nat.le_of_ble_eq_true rfl) rfl (Nat.le_of_ble_eq_true rfl) (Nat.le_of_ble_eq_true rfl) ⟨wl hw Nat.one_pos, rfl⟩ rfl (x5_refuse_4 X hw c) ?_
    refine w_rt rfl rfl trivial ?_
    exact ⟨by rw [x5_cutF, if_neg c0], by rw [x5_cutF, if_neg c0]⟩
def x5_roomF (c : CS) (n : Int32) : Int32 × CS := (if 4000 ≤ n then (if n ≤ 20000 then (c 0 0 14, (uC c 0 0 14 n)) else ((-6), refX c 6)) else ((-4), refX c 4))
theorem x5_room (X : Nat × (Nat → Int32)) {h : Hp} {nl nf np : Nat} (hw : WF h nl nf np) (c : CS) (n : Int32)   : wp X 42 0 [some (vR (some (0, 0))), some (vI n), none] [] (pX h c) (fun r h' => r = some (vI (x5_roomF c n).1) ∧ h' = pX h (x5_roomF c n).2) := by
  have h4 := hw.2.2.2.2.2.2.1
  have h5 := hw.2.2.2.2.2.2.2.1
  have h3 := hw.2.2.2.2.2.2.2.2
  refine w_pu rfl rfl ?_
  refine w_cst (v := 4000) rfl rfl rfl ?_
  refine w_ge rfl (fun c0 => ?_) (fun c0 => ?_)
  · refine w_pu rfl rfl ?_
    refine w_cst (v := 20000) rfl rfl rfl ?_
    refine w_le rfl (fun c1 => ?_) (fun c1 => ?_)
    · refine w_pu rfl rfl ?_
      refine x_g hw rfl rfl rfl (by decide) Nat.one_pos ?_
      refine w_pu rfl rfl ?_
      refine w_pu rfl rfl ?_
      refine w_pu rfl rfl ?_
      refine x_p hw rfl rfl rfl (by decide) Nat.one_pos ?_
      refine w_pu rfl rfl ?_
      refine w_rt rfl rfl trivial ?_
      exact ⟨by rw [x5_roomF, if_pos c0, if_pos c1], by rw [x5_roomF, if_pos c0, if_pos c1]⟩
    · refine w_pu rfl rfl ?_
      refine w_cst (v := (-6)) rfl rfl rfl ?_
      refine w_cgE (vI (-6)) (pX h (refX c 6)) rfl rfl (by decide) (Nat.le_of_ble_eq_true rfl) rfl (Nat.le_of_ble_eq_true rfl) (Nat.le_of_ble_eq_true rfl) ⟨wl hw Nat.one_pos, rfl⟩ rfl (x5_refuse_6 X hw c) ?_
      refine w_rt rfl rfl trivial ?_
      exact ⟨by rw [x5_roomF, if_pos c0, if_neg c1], by rw [x5_roomF, if_pos c0, if_neg c1]⟩
  · refine w_pu rfl rfl ?_
    refine w_cst (v := (-4)) rfl rfl rfl ?_
    refine w_cgE (vI (-4)) (pX h (refX c 4)) rfl rfl (by decide) (Nat.le_of_ble_eq_true rfl) rfl (Nat.le_of_ble_eq_true rfl) (Nat.le_of_ble_eq_true rfl) ⟨wl hw Nat.one_pos, rfl⟩ rfl (x5_refuse_4 X hw c) ?_
    refine w_rt rfl rfl trivial ?_
    exact ⟨by rw [x5_roomF, if_neg c0], by rw [x5_roomF, if_neg c0]⟩
theorem i32_am1 (x : Int32) : x + (-1) = x - 1 := (Int32.sub_eq_add_neg x 1).symm
theorem one_T {v : Int32} (h : 1 ≤ v) : ¬ v = 0 := fun z => by
  rw [z] at h
  exact absurd h (by decide)
theorem one_F {v : Int32} {t : Nat} (e : v = nI t) (ht : t ≤ 4000) (h : ¬ 1 ≤ v) : v = 0 := by
  rcases Nat.eq_zero_or_pos t with z | z
  · rw [e, z]
    rfl
  · exact absurd (by rw [e]; exact nI_le (a := 1) z (by omega)) h
theorem x5_cis (X : Nat × (Nat → Int32)) (h : Hp) (c : CS) (k : Nat) (v : Int32) (hk : k < 4) (l0 : 0 < hpC h 0) (l4 : 0 < hpC h 4) (n4 : hpL h (4, 0) = 4) (r4 : hpR h (0, 0) 10 = some (4, 0)) : wp X 134 0 [some (vR (some (0, 0))), some (vI (nI k)), some (vI v)] [] (pX h c) (fun r h' => r = none ∧ h' = pX h (uC c 4 0 k (c 4 0 k + v))) := by
  have gr : ∀ (pc ix len : Nat) (L : Ls) (st : St) (Q : Option Vl → Hp → Prop), cd 134 pc = some (.getfield ix, len, 5, 10) → wp X 134 (pc + len) L (vR (some (4, 0)) :: st) (pX h c) Q → wp X 134 pc L (vR (some (0, 0)) :: st) (pX h c) Q := fun pc ix len L st Q hc q => w_op hc (h1 := pX h c) (st' := vR (some (4, 0)) :: st) (C := live (pX h c) (0, 0) ∧ kd 0 = 5 ∧ hpR (pX h c) (0, 0) 10 = some (4, 0)) (by rfl) ⟨l0, rfl, r4⟩ q
  refine w_pu rfl rfl ?_
  refine w_lt0 rfl (fun c0 => ?_) (fun c0 => ?_)
  · exact absurd (nI_pos' (by omega)) (Int32.not_le.mpr c0)
  refine w_pu rfl rfl ?_
  refine w_pu rfl rfl ?_
  refine gr _ _ _ _ _ _ rfl ?_
  refine w_op rfl (st' := vI (Int32.ofNat (hpL (pX h c) (4, 0))) :: _) rfl ⟨l4, by decide⟩ ?_
  rw [show hpL (pX h c) (4, 0) = 4 from n4]
  refine w_ge rfl (fun c1 => ?_) (fun c1 => ?_)
  · exact absurd ((nI_leI (a := 4) (b := k) (by omega) (by omega)).mp c1) (by omega)
  refine w_pu rfl rfl ?_
  refine gr _ _ _ _ _ _ rfl ?_
  refine w_pu rfl rfl ?_
  refine w_pu rfl rfl ?_
  refine w_ai (N := 4) k rfl l4 rfl n4 (by decide) rfl hk ?_
  refine w_top (c 4 0 k) (pX_at h c (by decide) 0 k) ?_
  refine w_pu rfl rfl ?_
  refine w_pu rfl rfl ?_
  refine w_si (N := 4) k rfl l4 rfl n4 (by decide) rfl hk ?_
  rw [pX_set h c (by decide)]
  exact w_rt rfl rfl trivial ⟨rfl, rfl⟩
theorem x5_countInState (X : Nat × (Nat → Int32)) {h : Hp} {nl nf np : Nat} (hw : WF h nl nf np) (c : CS) (k : Nat) (v : Int32) (hk : k < 4) : wp X 134 0 [some (vR (some (0, 0))), some (vI (nI k)), some (vI v)] [] (pX h c) (fun r h' => r = none ∧ h' = pX h (uC c 4 0 k (c 4 0 k + v))) :=
  x5_cis X h c k v hk (wl hw Nat.one_pos) (by rw [show hpC h 4 = 1 from hw.1 4]; exact Nat.one_pos) (wn (t := 4) (i := 0) hw Nat.one_pos (by decide)) (wr (t := 0) (i := 0) hw Nat.one_pos rfl)
def x5_becomeF (c : CS) (p : Nat) (z : Nat) : CS := (uC (uC (uC c 4 0 (nat (c 18 p 5)) ((c 4 0 (nat (c 18 p 5))) - 1)) 4 0 z (((uC c 4 0 (nat (c 18 p 5)) ((c 4 0 (nat (c 18 p 5))) - 1)) 4 0 z) + 1)) 18 p 5 (nI z))
theorem x5_become (X : Nat × (Nat → Int32)) {h : Hp} {nl nf np : Nat} (hw : WF h nl nf np) (c : CS) (p : Nat) (z : Nat) (hp : p < np) (hs : StOK (c 18 p 5)) (hz : z < 4) : wp X 57 0 [some (vR (some (0, 0))), some (vR (some (18, p))), some (vI (nI z))] [] (pX h c) (fun r h' => r = none ∧ h' = pX h (x5_becomeF c p z)) := by
  refine w_pu rfl rfl ?_
  refine w_pu rfl rfl ?_
  refine x_g hw rfl rfl rfl (by decide) hp ?_
  refine w_top (nI (nat (c 18 p 5))) hs.1 ?_
  refine w_cst (v := (-1)) rfl rfl rfl ?_
  refine w_cvE (pX h (uC c 4 0 (nat (c 18 p 5)) (c 4 0 (nat (c 18 p 5)) + (-1)))) rfl rfl (by decide) (Nat.le_of_ble_eq_true rfl) rfl (Nat.le_of_ble_eq_true rfl) (Nat.le_of_ble_eq_true rfl) ⟨wl hw Nat.one_pos, rfl⟩ rfl (x5_countInState X hw c (nat (c 18 p 5)) (-1) hs.2) ?_
  rw [i32_am1]
  refine w_pu rfl rfl ?_
  refine w_pu rfl rfl ?_
  refine w_cst (v := 1) rfl rfl rfl ?_
  refine w_cvE (pX h (uC (uC c 4 0 (nat (c 18 p 5)) ((c 4 0 (nat (c 18 p 5))) - 1)) 4 0 z (((uC c 4 0 (nat (c 18 p 5)) ((c 4 0 (nat (c 18 p 5))) - 1)) 4 0 z) + 1))) rfl rfl (by decide) (Nat.le_of_ble_eq_true rfl) rfl (Nat.le_of_ble_eq_true rfl) (Nat.le_of_ble_eq_true rfl) ⟨wl hw Nat.one_pos, rfl⟩ rfl (x5_countInState X hw (uC c 4 0 (nat (c 18 p 5)) ((c 4 0 (nat (c 18 p 5))) - 1)) z 1 hz) ?_
  refine w_pu rfl rfl ?_
  refine w_pu rfl rfl ?_
  refine x_p hw rfl rfl rfl (by decide) hp ?_
  refine w_rt rfl rfl trivial ?_
  exact ⟨rfl, by rw [x5_becomeF]⟩
def x5_piecesOfF (c : CS) (n : Int32) : Int32 := (if 1 ≤ (c 0 0 13) then (((n + (c 0 0 13)) - 1) / (c 0 0 13)) else 0)
theorem x5_piecesOf (X : Nat × (Nat → Int32)) {h : Hp} {nl nf np : Nat} (hw : WF h nl nf np) (c : CS) (n : Int32)   : wp X 133 0 [some (vR (some (0, 0))), some (vI n)] [] (pX h c) (fun r h' => r = some (vI (x5_piecesOfF c n)) ∧ h' = pX h c) := by
  have h4 := hw.2.2.2.2.2.2.1
  have h5 := hw.2.2.2.2.2.2.2.1
  have h3 := hw.2.2.2.2.2.2.2.2
  refine w_pu rfl rfl ?_
  refine x_g hw rfl rfl rfl (by decide) Nat.one_pos ?_
  refine w_cst (v := 1) rfl rfl rfl ?_
  refine w_ge rfl (fun c0 => ?_) (fun c0 => ?_)
  · refine w_pu rfl rfl ?_
    refine w_pu rfl rfl ?_
    refine x_g hw rfl rfl rfl (by decide) Nat.one_pos ?_
    refine w_pu rfl rfl ?_
    refine w_cst (v := 1) rfl rfl rfl ?_
    refine w_pu rfl rfl ?_
    refine w_pu rfl rfl ?_
    refine x_g hw rfl rfl rfl (by decide) Nat.one_pos ?_
    refine w_op rfl rfl (by exact fun z => absurd (by rw [z] at c0; exact c0) (by decide : ¬ (1 : Int32) ≤ 0)) ?_
    refine w_rt rfl rfl trivial ?_
    exact ⟨by rw [x5_piecesOfF, if_pos c0], rfl⟩
  · refine w_cst (v := 0) rfl rfl rfl ?_
    refine w_go rfl ?_
    refine w_rt rfl rfl trivial ?_
    exact ⟨by rw [x5_piecesOfF, if_neg c0], rfl⟩
theorem x5_become_0 (c : CS) (p z i k : Nat) : x5_becomeF c p z 0 i k = c 0 i k := by
  unfold x5_becomeF
  rw [uC_t _ _ _ _ _ _ (by decide), uC_t _ _ _ _ _ _ (by decide), uC_t _ _ _ _ _ _ (by decide)]
def x5_isBetterF (c : CS) (l : Nat) (m : Nat) (p : Nat) : Int32 := (if (x2_lossesOnF c p (c 7 l 0)) = (x2_lossesOnF c p (c 7 m 0)) then (if (x1_ticksToSendF c l (c 18 p 1)) = (x1_ticksToSendF c m (c 18 p 1)) then (if (c 7 m 13) ≤ (c 7 l 13) then 0 else 1) else (if (x1_ticksToSendF c m (c 18 p 1)) ≤ (x1_ticksToSendF c l (c 18 p 1)) then 0 else 1)) else (if (x2_lossesOnF c p (c 7 m 0)) ≤ (x2_lossesOnF c p (c 7 l 0)) then 0 else 1))
theorem x5_isBetter (X : Nat × (Nat → Int32)) {h : Hp} {nl nf np : Nat} (hw : WF h nl nf np) (c : CS) (l : Nat) (m : Nat) (p : Nat) (hl : l < nl) (hm : m < nl) (hp : p < np)  : wp X 47 0 [some (vR (some (7, l))), some (vR (some (7, m))), some (vR (some (18, p))), none, none, none, none] [] (pX h c) (fun r h' => r = some (vI (x5_isBetterF c l m p)) ∧ h' = pX h c) := by
  have h4 := hw.2.2.2.2.2.2.1
  have h5 := hw.2.2.2.2.2.2.2.1
  have h3 := hw.2.2.2.2.2.2.2.2
  refine w_pu rfl rfl ?_
  refine w_pu rfl rfl ?_
  refine x_g hw rfl rfl rfl (by decide) hl ?_
  refine w_cp (vI (x2_lossesOnF c p (c 7 l 0))) rfl rfl (by decide) (Nat.le_of_ble_eq_true rfl) rfl (Nat.le_of_ble_eq_true rfl) (Nat.le_of_ble_eq_true rfl) ⟨wl hw hp, rfl⟩ rfl (x2_lossesOn X hw c p (c 7 l 0) hp ) ?_
  refine w_pu rfl rfl ?_
  refine w_pu rfl rfl ?_
  refine w_pu rfl rfl ?_
  refine x_g hw rfl rfl rfl (by decide) hm ?_
  refine w_cp (vI (x2_lossesOnF c p (c 7 m 0))) rfl rfl (by decide) (Nat.le_of_ble_eq_true rfl) rfl (Nat.le_of_ble_eq_true rfl) (Nat.le_of_ble_eq_true rfl) ⟨wl hw hp, rfl⟩ rfl (x2_lossesOn X hw c p (c 7 m 0) hp ) ?_
  refine w_pu rfl rfl ?_
  refine w_pu rfl rfl ?_
  refine w_pu rfl rfl ?_
  refine w_eq rfl (fun c0 => ?_) (fun c0 => ?_)
  · refine w_pu rfl rfl ?_
    refine w_pu rfl rfl ?_
    refine x_g hw rfl rfl rfl (by decide) hp ?_
    refine w_cp (vI (x1_ticksToSendF c l (c 18 p 1))) rfl rfl (by decide) (Nat.le_of_ble_eq_true rfl) rfl (Nat.le_of_ble_eq_true rfl) (Nat.le_of_ble_eq_true rfl) ⟨wl hw hl, rfl⟩ rfl (x1_ticksToSend X hw c l (c 18 p 1) hl ) ?_
    refine w_pu rfl rfl ?_
    refine w_pu rfl rfl ?_
    refine w_pu rfl rfl ?_
    refine x_g hw rfl rfl rfl (by decide) hp ?_
    refine w_cp (vI (x1_ticksToSendF c m (c 18 p 1))) rfl rfl (by decide) (Nat.le_of_ble_eq_true rfl) rfl (Nat.le_of_ble_eq_true rfl) (Nat.le_of_ble_eq_true rfl) ⟨wl hw hm, rfl⟩ rfl (x1_ticksToSend X hw c m (c 18 p 1) hm ) ?_
    refine w_pu rfl rfl ?_
    refine w_pu rfl rfl ?_
    refine w_pu rfl rfl ?_
    refine w_eq rfl (fun c1 => ?_) (fun c1 => ?_)
    · refine w_pu rfl rfl ?_
      refine x_g hw rfl rfl rfl (by decide) hl ?_
      refine w_pu rfl rfl ?_
      refine x_g hw rfl rfl rfl (by decide) hm ?_
      refine w_ge rfl (fun c2 => ?_) (fun c2 => ?_)
      · refine w_cst (v := 0) rfl rfl rfl ?_
        refine w_rt rfl rfl (by first | exact Or.inl rfl | exact Or.inr rfl) ?_
        exact ⟨by rw [x5_isBetterF, if_pos c0, if_pos c1, if_pos c2], rfl⟩
      · refine w_cst (v := 1) rfl rfl rfl ?_
        refine w_go rfl ?_
        refine w_rt rfl rfl (by first | exact Or.inl rfl | exact Or.inr rfl) ?_
        exact ⟨by rw [x5_isBetterF, if_pos c0, if_pos c1, if_neg c2], rfl⟩
    · refine w_pu rfl rfl ?_
      refine w_pu rfl rfl ?_
      refine w_ge rfl (fun c3 => ?_) (fun c3 => ?_)
      · refine w_cst (v := 0) rfl rfl rfl ?_
        refine w_rt rfl rfl (by first | exact Or.inl rfl | exact Or.inr rfl) ?_
        exact ⟨by rw [x5_isBetterF, if_pos c0, if_neg c1, if_pos c3], rfl⟩
      · refine w_cst (v := 1) rfl rfl rfl ?_
        refine w_go rfl ?_
        refine w_rt rfl rfl (by first | exact Or.inl rfl | exact Or.inr rfl) ?_
        exact ⟨by rw [x5_isBetterF, if_pos c0, if_neg c1, if_neg c3], rfl⟩
  · refine w_pu rfl rfl ?_
    refine w_pu rfl rfl ?_
    refine w_ge rfl (fun c4 => ?_) (fun c4 => ?_)
    · refine w_cst (v := 0) rfl rfl rfl ?_
      refine w_rt rfl rfl (by first | exact Or.inl rfl | exact Or.inr rfl) ?_
      exact ⟨by rw [x5_isBetterF, if_neg c0, if_pos c4], rfl⟩
    · refine w_cst (v := 1) rfl rfl rfl ?_
      refine w_go rfl ?_
      refine w_rt rfl rfl (by first | exact Or.inl rfl | exact Or.inr rfl) ?_
      exact ⟨by rw [x5_isBetterF, if_neg c0, if_neg c4], rfl⟩
def x5_layOnF (c : CS) (l : Nat) (n : Int32) (p : Nat) : CS := (x3_addF (uC (uC (x5_becomeF c p 1) 18 p 6 (((x5_becomeF c p 1) 18 p 6) + 1)) 18 p 7 ((x5_becomeF c p 1) 7 l 0)) l n ((x5_becomeF c p 1) 18 p 1))
theorem x5_layOn (X : Nat × (Nat → Int32)) {h : Hp} {nl nf np : Nat} (hw : WF h nl nf np) (c : CS) (l : Nat) (n : Int32) (p : Nat) (hl : l < nl) (hp : p < np) (hst : ∀ p, p < np → StOK (c 18 p 5)) : wp X 48 0 [some (vR (some (0, 0))), some (vR (some (7, l))), some (vI n), some (vR (some (18, p)))] [] (pX h c) (fun r h' => r = none ∧ h' = pX h (x5_layOnF c l n p)) := by
  have h4 := hw.2.2.2.2.2.2.1
  have h5 := hw.2.2.2.2.2.2.2.1
  have h3 := hw.2.2.2.2.2.2.2.2
  refine w_pu rfl rfl ?_
  refine w_pu rfl rfl ?_
  refine w_cst (v := 1) rfl rfl rfl ?_
  refine w_cvE (pX h (x5_becomeF c p 1)) rfl rfl (by decide) (Nat.le_of_ble_eq_true rfl) rfl (Nat.le_of_ble_eq_true rfl) (Nat.le_of_ble_eq_true rfl) ⟨wl hw Nat.one_pos, rfl⟩ rfl (x5_become X hw c p 1 hp (hst p hp) (by decide)) ?_
  refine w_pu rfl rfl ?_
  refine w_pu rfl rfl ?_
  refine x_g hw rfl rfl rfl (by decide) hp ?_
  refine w_cst (v := 1) rfl rfl rfl ?_
  refine w_pu rfl rfl ?_
  refine x_p hw rfl rfl rfl (by decide) hp ?_
  refine w_pu rfl rfl ?_
  refine w_pu rfl rfl ?_
  refine x_g hw rfl rfl rfl (by decide) hl ?_
  refine w_top ((x5_becomeF c p 1) 7 l 0) (by rw [uC_t _ _ _ _ _ _ (by decide)]) ?_
  refine x_p hw rfl rfl rfl (by decide) hp ?_
  refine w_pu rfl rfl ?_
  refine x_gR 10 hw rfl rfl rfl rfl hl ?_
  refine w_pu rfl rfl ?_
  refine w_pu rfl rfl ?_
  refine x_g hw rfl rfl rfl (by decide) hp ?_
  refine w_top ((x5_becomeF c p 1) 18 p 1) (by rw [uC_k _ _ _ _ _ _ (by decide), uC_k _ _ _ _ _ _ (by decide)]) ?_
  refine w_cvE (pX h (x3_addF (uC (uC (x5_becomeF c p 1) 18 p 6 (((x5_becomeF c p 1) 18 p 6) + 1)) 18 p 7 ((x5_becomeF c p 1) 7 l 0)) l n ((x5_becomeF c p 1) 18 p 1))) rfl rfl (by decide) (Nat.le_of_ble_eq_true rfl) rfl (Nat.le_of_ble_eq_true rfl) (Nat.le_of_ble_eq_true rfl) ⟨wl hw hl, rfl⟩ rfl (x3_add X hw (uC (uC (x5_becomeF c p 1) 18 p 6 (((x5_becomeF c p 1) 18 p 6) + 1)) 18 p 7 ((x5_becomeF c p 1) 7 l 0)) l n ((x5_becomeF c p 1) 18 p 1) hl ) ?_
  refine w_rt rfl rfl trivial ?_
  exact ⟨rfl, by rw [x5_layOnF]⟩
def x5_loseOnF (c : CS) (np : Nat) (l : Nat) (n : Int32) : CS := (match lnO np n with
  | none => c
  | some kn => (if (c 18 kn 5) = 1 then (if (c 18 kn 7) = (c 7 l 0) then (uC (x2_addLossOnF (x5_becomeF c kn 2) kn ((x5_becomeF c kn 2) 7 l 0)) 7 l 14 (((x2_addLossOnF (x5_becomeF c kn 2) kn ((x5_becomeF c kn 2) 7 l 0)) 7 l 14) + 1)) else c) else c))
theorem x5_loseOnF_0 {c : CS} {np : Nat} {l : Nat} {n : Int32} (en : lnO np n = none) : x5_loseOnF c np l n = c := by
  unfold x5_loseOnF
  rw [en]
theorem x5_loseOnF_1 {c : CS} {np : Nat} {l : Nat} {n : Int32} {kn : Nat} (en : lnO np n = some kn) : x5_loseOnF c np l n = (if (c 18 kn 5) = 1 then (if (c 18 kn 7) = (c 7 l 0) then (uC (x2_addLossOnF (x5_becomeF c kn 2) kn ((x5_becomeF c kn 2) 7 l 0)) 7 l 14 (((x2_addLossOnF (x5_becomeF c kn 2) kn ((x5_becomeF c kn 2) 7 l 0)) 7 l 14) + 1)) else c) else c) := by
  unfold x5_loseOnF
  rw [en]
theorem x5_loseOn (X : Nat × (Nat → Int32)) {h : Hp} {nl nf np : Nat} (hw : WF h nl nf np) (c : CS) (l : Nat) (n : Int32) (hl : l < nl) (hnp : c 0 0 8 = nI np) (hst : ∀ p, p < np → StOK (c 18 p 5)) : wp X 54 0 [some (vR (some (0, 0))), some (vR (some (7, l))), some (vI n), none] [] (pX h c) (fun r h' => r = none ∧ h' = pX h (x5_loseOnF c np l n)) := by
  have h4 := hw.2.2.2.2.2.2.1
  have h5 := hw.2.2.2.2.2.2.2.1
  have h3 := hw.2.2.2.2.2.2.2.2
  cases en : lnO np n with
  | none =>
    refine w_pu rfl rfl ?_
    refine w_pu rfl rfl ?_
    refine w_cp (vR (lnR 18 (lnO np n))) rfl rfl (by decide) (Nat.le_of_ble_eq_true rfl) rfl (Nat.le_of_ble_eq_true rfl) (Nat.le_of_ble_eq_true rfl) ⟨wl hw Nat.one_pos, rfl⟩ rfl (x5_pieceAt X hw c hnp n) ?_
    refine w_topR none (by rw [en]; rfl) ?_
    refine w_pu rfl rfl ?_
    refine w_pu rfl rfl ?_
    refine w_nuN rfl ?_
    refine w_rt rfl rfl trivial ?_
    exact ⟨rfl, by rw [x5_loseOnF_0 en]⟩
  | some kn =>
    obtain ⟨rfl, hkn⟩ := lnO_some en
    refine w_pu rfl rfl ?_
    refine w_pu rfl rfl ?_
    refine w_cp (vR (lnR 18 (lnO np (nI kn)))) rfl rfl (by decide) (Nat.le_of_ble_eq_true rfl) rfl (Nat.le_of_ble_eq_true rfl) (Nat.le_of_ble_eq_true rfl) ⟨wl hw Nat.one_pos, rfl⟩ rfl (x5_pieceAt X hw c hnp (nI kn)) ?_
    refine w_topR (some (18, kn)) (by rw [en]; rfl) ?_
    refine w_pu rfl rfl ?_
    refine w_pu rfl rfl ?_
    refine w_nu rfl ?_
    refine w_pu rfl rfl ?_
    refine x_g hw rfl rfl rfl (by decide) hkn ?_
    refine w_cst (v := 1) rfl rfl rfl ?_
    refine w_ne rfl (fun c0 => ?_) (fun c0 => ?_)
    · refine w_rt rfl rfl trivial ?_
      exact ⟨rfl, by rw [x5_loseOnF_1 en, if_neg c0]⟩
    · refine w_pu rfl rfl ?_
      refine x_g hw rfl rfl rfl (by decide) hkn ?_
      refine w_pu rfl rfl ?_
      refine x_g hw rfl rfl rfl (by decide) hl ?_
      refine w_eq rfl (fun c1 => ?_) (fun c1 => ?_)
      · refine w_pu rfl rfl ?_
        refine w_pu rfl rfl ?_
        refine w_cst (v := 2) rfl rfl rfl ?_
        refine w_cvE (pX h (x5_becomeF c kn 2)) rfl rfl (by decide) (Nat.le_of_ble_eq_true rfl) rfl (Nat.le_of_ble_eq_true rfl) (Nat.le_of_ble_eq_true rfl) ⟨wl hw Nat.one_pos, rfl⟩ rfl (x5_become X hw c kn 2 hkn (hst kn hkn) (by decide)) ?_
        refine w_pu rfl rfl ?_
        refine w_pu rfl rfl ?_
        refine x_g hw rfl rfl rfl (by decide) hl ?_
        refine w_cvE (pX h (x2_addLossOnF (x5_becomeF c kn 2) kn ((x5_becomeF c kn 2) 7 l 0))) rfl rfl (by decide) (Nat.le_of_ble_eq_true rfl) rfl (Nat.le_of_ble_eq_true rfl) (Nat.le_of_ble_eq_true rfl) ⟨wl hw hkn, rfl⟩ rfl (x2_addLossOn X hw (x5_becomeF c kn 2) kn ((x5_becomeF c kn 2) 7 l 0) hkn ) ?_
        refine w_pu rfl rfl ?_
        refine w_pu rfl rfl ?_
        refine x_g hw rfl rfl rfl (by decide) hl ?_
        refine w_cst (v := 1) rfl rfl rfl ?_
        refine w_pu rfl rfl ?_
        refine x_p hw rfl rfl rfl (by decide) hl ?_
        refine w_rt rfl rfl trivial ?_
        exact ⟨rfl, by rw [x5_loseOnF_1 en, if_pos c0, if_pos c1]⟩
      · refine w_rt rfl rfl trivial ?_
        exact ⟨rfl, by rw [x5_loseOnF_1 en, if_pos c0, if_neg c1]⟩
def x5_arriveF (c : CS) (nf : Nat) (np : Nat) (n : Int32) : CS := (match lnO np n with
  | none => c
  | some kn => (match lnO nf ((x5_becomeF c kn 3) 18 kn 0) with
  | none => (if (c 18 kn 5) = 3 then c else (x5_becomeF c kn 3))
  | some kg => (if (c 18 kn 5) = 3 then c else (uC (x5_becomeF c kn 3) 20 kg 4 (((x5_becomeF c kn 3) 20 kg 4) + 1)))))
theorem x5_arriveF_0 {c : CS} {nf : Nat} {np : Nat} {n : Int32} (en : lnO np n = none) : x5_arriveF c nf np n = c := by
  unfold x5_arriveF
  rw [en]
theorem x5_arriveF_1 {c : CS} {nf : Nat} {np : Nat} {n : Int32} {kn : Nat} (en : lnO np n = some kn) (eg : lnO nf ((x5_becomeF c kn 3) 18 kn 0) = none) : x5_arriveF c nf np n = (if (c 18 kn 5) = 3 then c else (x5_becomeF c kn 3)) := by
  unfold x5_arriveF
  rw [en]; dsimp only; rw [eg]
theorem x5_arriveF_2 {c : CS} {nf : Nat} {np : Nat} {n : Int32} {kn : Nat} {kg : Nat} (en : lnO np n = some kn) (eg : lnO nf ((x5_becomeF c kn 3) 18 kn 0) = some kg) : x5_arriveF c nf np n = (if (c 18 kn 5) = 3 then c else (uC (x5_becomeF c kn 3) 20 kg 4 (((x5_becomeF c kn 3) 20 kg 4) + 1))) := by
  unfold x5_arriveF
  rw [en]; dsimp only; rw [eg]
theorem x5_arrive (X : Nat × (Nat → Int32)) {h : Hp} {nl nf np : Nat} (hw : WF h nl nf np) (c : CS) (n : Int32)  (hnp : c 0 0 8 = nI np) (hst : ∀ p, p < np → StOK (c 18 p 5)) (hnf : c 0 0 3 = nI nf) : wp X 52 0 [some (vR (some (0, 0))), some (vI n), none, none] [] (pX h c) (fun r h' => r = none ∧ h' = pX h (x5_arriveF c nf np n)) := by
  have h4 := hw.2.2.2.2.2.2.1
  have h5 := hw.2.2.2.2.2.2.2.1
  have h3 := hw.2.2.2.2.2.2.2.2
  cases en : lnO np n with
  | none =>
    refine w_pu rfl rfl ?_
    refine w_pu rfl rfl ?_
    refine w_cp (vR (lnR 18 (lnO np n))) rfl rfl (by decide) (Nat.le_of_ble_eq_true rfl) rfl (Nat.le_of_ble_eq_true rfl) (Nat.le_of_ble_eq_true rfl) ⟨wl hw Nat.one_pos, rfl⟩ rfl (x5_pieceAt X hw c hnp n) ?_
    refine w_topR none (by rw [en]; rfl) ?_
    refine w_pu rfl rfl ?_
    refine w_pu rfl rfl ?_
    refine w_nuN rfl ?_
    refine w_rt rfl rfl trivial ?_
    exact ⟨rfl, by rw [x5_arriveF_0 en]⟩
  | some kn =>
    obtain ⟨rfl, hkn⟩ := lnO_some en
    cases eg : lnO nf ((x5_becomeF c kn 3) 18 kn 0) with
    | none =>
      refine w_pu rfl rfl ?_
      refine w_pu rfl rfl ?_
      refine w_cp (vR (lnR 18 (lnO np (nI kn)))) rfl rfl (by decide) (Nat.le_of_ble_eq_true rfl) rfl (Nat.le_of_ble_eq_true rfl) (Nat.le_of_ble_eq_true rfl) ⟨wl hw Nat.one_pos, rfl⟩ rfl (x5_pieceAt X hw c hnp (nI kn)) ?_
      refine w_topR (some (18, kn)) (by rw [en]; rfl) ?_
      refine w_pu rfl rfl ?_
      refine w_pu rfl rfl ?_
      refine w_nu rfl ?_
      refine w_pu rfl rfl ?_
      refine x_g hw rfl rfl rfl (by decide) hkn ?_
      refine w_cst (v := 3) rfl rfl rfl ?_
      refine w_ne rfl (fun c0 => ?_) (fun c0 => ?_)
      · refine w_pu rfl rfl ?_
        refine w_pu rfl rfl ?_
        refine w_cst (v := 3) rfl rfl rfl ?_
        refine w_cvE (pX h (x5_becomeF c kn 3)) rfl rfl (by decide) (Nat.le_of_ble_eq_true rfl) rfl (Nat.le_of_ble_eq_true rfl) (Nat.le_of_ble_eq_true rfl) ⟨wl hw Nat.one_pos, rfl⟩ rfl (x5_become X hw c kn 3 hkn (hst kn hkn) (by decide)) ?_
        refine w_pu rfl rfl ?_
        refine w_pu rfl rfl ?_
        refine x_g hw rfl rfl rfl (by decide) hkn ?_
        refine w_cp (vR (lnR 20 (lnO nf ((x5_becomeF c kn 3) 18 kn 0)))) rfl rfl (by decide) (Nat.le_of_ble_eq_true rfl) rfl (Nat.le_of_ble_eq_true rfl) (Nat.le_of_ble_eq_true rfl) ⟨wl hw Nat.one_pos, rfl⟩ rfl (x5_frameAt X hw (x5_becomeF c kn 3) (by rw [x5_become_0]; exact hnf) ((x5_becomeF c kn 3) 18 kn 0)) ?_
        refine w_topR none (by rw [eg]; rfl) ?_
        refine w_pu rfl rfl ?_
        refine w_pu rfl rfl ?_
        refine w_nuN rfl ?_
        refine w_rt rfl rfl trivial ?_
        exact ⟨rfl, by rw [x5_arriveF_1 en eg, if_neg c0]⟩
      · refine w_rt rfl rfl trivial ?_
        exact ⟨rfl, by rw [x5_arriveF_1 en eg, if_pos c0]⟩
    | some kg =>
      obtain ⟨vg, hkg⟩ := lnO_some eg
      refine w_pu rfl rfl ?_
      refine w_pu rfl rfl ?_
      refine w_cp (vR (lnR 18 (lnO np (nI kn)))) rfl rfl (by decide) (Nat.le_of_ble_eq_true rfl) rfl (Nat.le_of_ble_eq_true rfl) (Nat.le_of_ble_eq_true rfl) ⟨wl hw Nat.one_pos, rfl⟩ rfl (x5_pieceAt X hw c hnp (nI kn)) ?_
      refine w_topR (some (18, kn)) (by rw [en]; rfl) ?_
      refine w_pu rfl rfl ?_
      refine w_pu rfl rfl ?_
      refine w_nu rfl ?_
      refine w_pu rfl rfl ?_
      refine x_g hw rfl rfl rfl (by decide) hkn ?_
      refine w_cst (v := 3) rfl rfl rfl ?_
      refine w_ne rfl (fun c0 => ?_) (fun c0 => ?_)
      · refine w_pu rfl rfl ?_
        refine w_pu rfl rfl ?_
        refine w_cst (v := 3) rfl rfl rfl ?_
        refine w_cvE (pX h (x5_becomeF c kn 3)) rfl rfl (by decide) (Nat.le_of_ble_eq_true rfl) rfl (Nat.le_of_ble_eq_true rfl) (Nat.le_of_ble_eq_true rfl) ⟨wl hw Nat.one_pos, rfl⟩ rfl (x5_become X hw c kn 3 hkn (hst kn hkn) (by decide)) ?_
        refine w_pu rfl rfl ?_
        refine w_pu rfl rfl ?_
        refine x_g hw rfl rfl rfl (by decide) hkn ?_
        refine w_cp (vR (lnR 20 (lnO nf ((x5_becomeF c kn 3) 18 kn 0)))) rfl rfl (by decide) (Nat.le_of_ble_eq_true rfl) rfl (Nat.le_of_ble_eq_true rfl) (Nat.le_of_ble_eq_true rfl) ⟨wl hw Nat.one_pos, rfl⟩ rfl (x5_frameAt X hw (x5_becomeF c kn 3) (by rw [x5_become_0]; exact hnf) ((x5_becomeF c kn 3) 18 kn 0)) ?_
        refine w_topR (some (20, kg)) (by rw [eg]; rfl) ?_
        refine w_pu rfl rfl ?_
        refine w_pu rfl rfl ?_
        refine w_nu rfl ?_
        refine w_pu rfl rfl ?_
        refine w_pu rfl rfl ?_
        refine x_g hw rfl rfl rfl (by decide) hkg ?_
        refine w_cst (v := 1) rfl rfl rfl ?_
        refine w_pu rfl rfl ?_
        refine x_p hw rfl rfl rfl (by decide) hkg ?_
        refine w_rt rfl rfl trivial ?_
        exact ⟨rfl, by rw [x5_arriveF_2 en eg, if_neg c0]⟩
      · refine w_rt rfl rfl trivial ?_
        exact ⟨rfl, by rw [x5_arriveF_2 en eg, if_pos c0]⟩
def x5_leaseF (c : CS) (nl : Nat) (l : Int32) (a : Int32) (s : Int32) : Int32 × CS := (match lnO nl l with
  | none => ((-1), refX c 1)
  | some kl => (if (c 7 kl 1) = 3 then (if a < 250 then ((-4), refX c 4) else (if 1 ≤ s then (if 20000 < a then ((-6), refX c 6) else (if s ≤ 20 then (1, (uC (uC c 7 kl 9 a) 7 kl 10 s)) else ((-6), refX c 6))) else ((-4), refX c 4))) else ((-2), refX c 2)))
theorem x5_leaseF_0 {c : CS} {nl : Nat} {l : Int32} {a : Int32} {s : Int32} (el : lnO nl l = none) : x5_leaseF c nl l a s = ((-1), refX c 1) := by
  unfold x5_leaseF
  rw [el]
theorem x5_leaseF_1 {c : CS} {nl : Nat} {l : Int32} {a : Int32} {s : Int32} {kl : Nat} (el : lnO nl l = some kl) : x5_leaseF c nl l a s = (if (c 7 kl 1) = 3 then (if a < 250 then ((-4), refX c 4) else (if 1 ≤ s then (if 20000 < a then ((-6), refX c 6) else (if s ≤ 20 then (1, (uC (uC c 7 kl 9 a) 7 kl 10 s)) else ((-6), refX c 6))) else ((-4), refX c 4))) else ((-2), refX c 2)) := by
  unfold x5_leaseF
  rw [el]
theorem x5_lease (X : Nat × (Nat → Int32)) {h : Hp} {nl nf np : Nat} (hw : WF h nl nf np) (c : CS) (l : Int32) (a : Int32) (s : Int32)  (hnl : c 0 0 1 = nI nl) : wp X 36 0 [some (vR (some (0, 0))), some (vI l), some (vI a), some (vI s), none] [] (pX h c) (fun r h' => r = some (vI (x5_leaseF c nl l a s).1) ∧ h' = pX h (x5_leaseF c nl l a s).2) := by
  have h4 := hw.2.2.2.2.2.2.1
  have h5 := hw.2.2.2.2.2.2.2.1
  have h3 := hw.2.2.2.2.2.2.2.2
  cases el : lnO nl l with
  | none =>
    refine w_pu rfl rfl ?_
    refine w_pu rfl rfl ?_
    refine w_cp (vR (lnR 7 (lnO nl l))) rfl rfl (by decide) (Nat.le_of_ble_eq_true rfl) rfl (Nat.le_of_ble_eq_true rfl) (Nat.le_of_ble_eq_true rfl) ⟨wl hw Nat.one_pos, rfl⟩ rfl (x5_lineAt X hw c hnl l) ?_
    refine w_topR none (by rw [el]; rfl) ?_
    refine w_pu rfl rfl ?_
    refine w_pu rfl rfl ?_
    refine w_nnN rfl ?_
    refine w_pu rfl rfl ?_
    refine w_cst (v := (-1)) rfl rfl rfl ?_
    refine w_cgE (vI (-1)) (pX h (refX c 1)) rfl rfl (by decide) (Nat.le_of_ble_eq_true rfl) rfl (Nat.le_of_ble_eq_true rfl) (Nat.le_of_ble_eq_true rfl) ⟨wl hw Nat.one_pos, rfl⟩ rfl (x5_refuse_1 X hw c) ?_
    refine w_rt rfl rfl trivial ?_
    exact ⟨by rw [x5_leaseF_0 el], by rw [x5_leaseF_0 el]⟩
  | some kl =>
    obtain ⟨rfl, hkl⟩ := lnO_some el
    refine w_pu rfl rfl ?_
    refine w_pu rfl rfl ?_
    refine w_cp (vR (lnR 7 (lnO nl (nI kl)))) rfl rfl (by decide) (Nat.le_of_ble_eq_true rfl) rfl (Nat.le_of_ble_eq_true rfl) (Nat.le_of_ble_eq_true rfl) ⟨wl hw Nat.one_pos, rfl⟩ rfl (x5_lineAt X hw c hnl (nI kl)) ?_
    refine w_topR (some (7, kl)) (by rw [el]; rfl) ?_
    refine w_pu rfl rfl ?_
    refine w_pu rfl rfl ?_
    refine w_nn rfl ?_
    refine w_pu rfl rfl ?_
    refine x_g hw rfl rfl rfl (by decide) hkl ?_
    refine w_cst (v := 3) rfl rfl rfl ?_
    refine w_eq rfl (fun c0 => ?_) (fun c0 => ?_)
    · refine w_pu rfl rfl ?_
      refine w_cst (v := 250) rfl rfl rfl ?_
      refine w_lt rfl (fun c1 => ?_) (fun c1 => ?_)
      · refine w_pu rfl rfl ?_
        refine w_cst (v := (-4)) rfl rfl rfl ?_
        refine w_cgE (vI (-4)) (pX h (refX c 4)) rfl rfl (by decide) (Nat.le_of_ble_eq_true rfl) rfl (Nat.le_of_ble_eq_true rfl) (Nat.le_of_ble_eq_true rfl) ⟨wl hw Nat.one_pos, rfl⟩ rfl (x5_refuse_4 X hw c) ?_
        refine w_rt rfl rfl trivial ?_
        exact ⟨by rw [x5_leaseF_1 el, if_pos c0, if_pos c1], by rw [x5_leaseF_1 el, if_pos c0, if_pos c1]⟩
      · refine w_pu rfl rfl ?_
        refine w_cst (v := 1) rfl rfl rfl ?_
        refine w_ge rfl (fun c2 => ?_) (fun c2 => ?_)
        · refine w_pu rfl rfl ?_
          refine w_cst (v := 20000) rfl rfl rfl ?_
          refine w_gt rfl (fun c3 => ?_) (fun c3 => ?_)
          · refine w_pu rfl rfl ?_
            refine w_cst (v := (-6)) rfl rfl rfl ?_
            refine w_cgE (vI (-6)) (pX h (refX c 6)) rfl rfl (by decide) (Nat.le_of_ble_eq_true rfl) rfl (Nat.le_of_ble_eq_true rfl) (Nat.le_of_ble_eq_true rfl) ⟨wl hw Nat.one_pos, rfl⟩ rfl (x5_refuse_6 X hw c) ?_
            refine w_rt rfl rfl trivial ?_
            exact ⟨by rw [x5_leaseF_1 el, if_pos c0, if_neg c1, if_pos c2, if_pos c3], by rw [x5_leaseF_1 el, if_pos c0, if_neg c1, if_pos c2, if_pos c3]⟩
          · refine w_pu rfl rfl ?_
            refine w_cst (v := 20) rfl rfl rfl ?_
            refine w_le rfl (fun c4 => ?_) (fun c4 => ?_)
            · refine w_pu rfl rfl ?_
              refine w_pu rfl rfl ?_
              refine x_p hw rfl rfl rfl (by decide) hkl ?_
              refine w_pu rfl rfl ?_
              refine w_pu rfl rfl ?_
              refine x_p hw rfl rfl rfl (by decide) hkl ?_
              refine w_cst (v := 1) rfl rfl rfl ?_
              refine w_rt rfl rfl trivial ?_
              exact ⟨by rw [x5_leaseF_1 el, if_pos c0, if_neg c1, if_pos c2, if_neg c3, if_pos c4], by rw [x5_leaseF_1 el, if_pos c0, if_neg c1, if_pos c2, if_neg c3, if_pos c4]⟩
            · refine w_pu rfl rfl ?_
              refine w_cst (v := (-6)) rfl rfl rfl ?_
              refine w_cgE (vI (-6)) (pX h (refX c 6)) rfl rfl (by decide) (Nat.le_of_ble_eq_true rfl) rfl (Nat.le_of_ble_eq_true rfl) (Nat.le_of_ble_eq_true rfl) ⟨wl hw Nat.one_pos, rfl⟩ rfl (x5_refuse_6 X hw c) ?_
              refine w_rt rfl rfl trivial ?_
              exact ⟨by rw [x5_leaseF_1 el, if_pos c0, if_neg c1, if_pos c2, if_neg c3, if_neg c4], by rw [x5_leaseF_1 el, if_pos c0, if_neg c1, if_pos c2, if_neg c3, if_neg c4]⟩
        · refine w_pu rfl rfl ?_
          refine w_cst (v := (-4)) rfl rfl rfl ?_
          refine w_cgE (vI (-4)) (pX h (refX c 4)) rfl rfl (by decide) (Nat.le_of_ble_eq_true rfl) rfl (Nat.le_of_ble_eq_true rfl) (Nat.le_of_ble_eq_true rfl) ⟨wl hw Nat.one_pos, rfl⟩ rfl (x5_refuse_4 X hw c) ?_
          refine w_rt rfl rfl trivial ?_
          exact ⟨by rw [x5_leaseF_1 el, if_pos c0, if_neg c1, if_neg c2], by rw [x5_leaseF_1 el, if_pos c0, if_neg c1, if_neg c2]⟩
    · refine w_pu rfl rfl ?_
      refine w_cst (v := (-2)) rfl rfl rfl ?_
      refine w_cgE (vI (-2)) (pX h (refX c 2)) rfl rfl (by decide) (Nat.le_of_ble_eq_true rfl) rfl (Nat.le_of_ble_eq_true rfl) (Nat.le_of_ble_eq_true rfl) ⟨wl hw Nat.one_pos, rfl⟩ rfl (x5_refuse_2 X hw c) ?_
      refine w_rt rfl rfl trivial ?_
      exact ⟨by rw [x5_leaseF_1 el, if_neg c0], by rw [x5_leaseF_1 el, if_neg c0]⟩
def x5_riseF (c : CS) (nl : Nat) (l : Int32) : Int32 × CS := (match lnO nl l with
  | none => ((-1), refX c 1)
  | some kl => (if (c 7 kl 8) = 0 then (1, (uC c 7 kl 8 1)) else ((-5), refX c 5)))
theorem x5_riseF_0 {c : CS} {nl : Nat} {l : Int32} (el : lnO nl l = none) : x5_riseF c nl l = ((-1), refX c 1) := by
  unfold x5_riseF
  rw [el]
theorem x5_riseF_1 {c : CS} {nl : Nat} {l : Int32} {kl : Nat} (el : lnO nl l = some kl) : x5_riseF c nl l = (if (c 7 kl 8) = 0 then (1, (uC c 7 kl 8 1)) else ((-5), refX c 5)) := by
  unfold x5_riseF
  rw [el]
theorem x5_rise (X : Nat × (Nat → Int32)) {h : Hp} {nl nf np : Nat} (hw : WF h nl nf np) (c : CS) (l : Int32)  (hnl : c 0 0 1 = nI nl) : wp X 61 0 [some (vR (some (0, 0))), some (vI l), none] [] (pX h c) (fun r h' => r = some (vI (x5_riseF c nl l).1) ∧ h' = pX h (x5_riseF c nl l).2) := by
  have h4 := hw.2.2.2.2.2.2.1
  have h5 := hw.2.2.2.2.2.2.2.1
  have h3 := hw.2.2.2.2.2.2.2.2
  cases el : lnO nl l with
  | none =>
    refine w_pu rfl rfl ?_
    refine w_pu rfl rfl ?_
    refine w_cp (vR (lnR 7 (lnO nl l))) rfl rfl (by decide) (Nat.le_of_ble_eq_true rfl) rfl (Nat.le_of_ble_eq_true rfl) (Nat.le_of_ble_eq_true rfl) ⟨wl hw Nat.one_pos, rfl⟩ rfl (x5_lineAt X hw c hnl l) ?_
    refine w_topR none (by rw [el]; rfl) ?_
    refine w_pu rfl rfl ?_
    refine w_pu rfl rfl ?_
    refine w_nnN rfl ?_
    refine w_pu rfl rfl ?_
    refine w_cst (v := (-1)) rfl rfl rfl ?_
    refine w_cgE (vI (-1)) (pX h (refX c 1)) rfl rfl (by decide) (Nat.le_of_ble_eq_true rfl) rfl (Nat.le_of_ble_eq_true rfl) (Nat.le_of_ble_eq_true rfl) ⟨wl hw Nat.one_pos, rfl⟩ rfl (x5_refuse_1 X hw c) ?_
    refine w_rt rfl rfl trivial ?_
    exact ⟨by rw [x5_riseF_0 el], by rw [x5_riseF_0 el]⟩
  | some kl =>
    obtain ⟨rfl, hkl⟩ := lnO_some el
    refine w_pu rfl rfl ?_
    refine w_pu rfl rfl ?_
    refine w_cp (vR (lnR 7 (lnO nl (nI kl)))) rfl rfl (by decide) (Nat.le_of_ble_eq_true rfl) rfl (Nat.le_of_ble_eq_true rfl) (Nat.le_of_ble_eq_true rfl) ⟨wl hw Nat.one_pos, rfl⟩ rfl (x5_lineAt X hw c hnl (nI kl)) ?_
    refine w_topR (some (7, kl)) (by rw [el]; rfl) ?_
    refine w_pu rfl rfl ?_
    refine w_pu rfl rfl ?_
    refine w_nn rfl ?_
    refine w_pu rfl rfl ?_
    refine x_g hw rfl rfl rfl (by decide) hkl ?_
    refine w_eq0 rfl (fun c0 => ?_) (fun c0 => ?_)
    · refine w_pu rfl rfl ?_
      refine w_cst (v := 1) rfl rfl rfl ?_
      refine x_pB hw rfl rfl rfl (by decide) hkl (by first | exact Or.inl rfl | exact Or.inr rfl) ?_
      refine w_cst (v := 1) rfl rfl rfl ?_
      refine w_rt rfl rfl trivial ?_
      exact ⟨by rw [x5_riseF_1 el, if_pos c0], by rw [x5_riseF_1 el, if_pos c0]⟩
    · refine w_pu rfl rfl ?_
      refine w_cst (v := (-5)) rfl rfl rfl ?_
      refine w_cgE (vI (-5)) (pX h (refX c 5)) rfl rfl (by decide) (Nat.le_of_ble_eq_true rfl) rfl (Nat.le_of_ble_eq_true rfl) (Nat.le_of_ble_eq_true rfl) ⟨wl hw Nat.one_pos, rfl⟩ rfl (x5_refuse_5 X hw c) ?_
      refine w_rt rfl rfl trivial ?_
      exact ⟨by rw [x5_riseF_1 el, if_neg c0], by rw [x5_riseF_1 el, if_neg c0]⟩
def x5_lineF (c : CS) (nl : Nat) (l : Int32) (a : Int32) : Int32 := (match lnO nl l with
  | none => (-9)
  | some kl => (if a = 0 then c 7 kl 1 else if a = 1 then c 7 kl 2 else if a = 2 then c 7 kl 3 else if a = 3 then (if (c 7 kl 8) = 0 then 0 else 1) else if a = 4 then c 10 kl 3 else if a = 5 then c 10 kl 4 else if a = 6 then c 13 kl 5 else if a = 7 then c 7 kl 11 else if a = 8 then c 7 kl 12 else if a = 9 then c 7 kl 13 else if a = 10 then c 7 kl 14 else if a = 11 then c 7 kl 15 else if a = 12 then c 7 kl 16 else if a = 13 then c 7 kl 9 else if a = 14 then c 7 kl 10 else (-9)))
theorem x5_lineF_0 {c : CS} {nl : Nat} {l : Int32} {a : Int32} (el : lnO nl l = none) : x5_lineF c nl l a = (-9) := by
  unfold x5_lineF
  rw [el]
theorem x5_lineF_1 {c : CS} {nl : Nat} {l : Int32} {a : Int32} {kl : Nat} (el : lnO nl l = some kl) : x5_lineF c nl l a = (if a = 0 then c 7 kl 1 else if a = 1 then c 7 kl 2 else if a = 2 then c 7 kl 3 else if a = 3 then (if (c 7 kl 8) = 0 then 0 else 1) else if a = 4 then c 10 kl 3 else if a = 5 then c 10 kl 4 else if a = 6 then c 13 kl 5 else if a = 7 then c 7 kl 11 else if a = 8 then c 7 kl 12 else if a = 9 then c 7 kl 13 else if a = 10 then c 7 kl 14 else if a = 11 then c 7 kl 15 else if a = 12 then c 7 kl 16 else if a = 13 then c 7 kl 9 else if a = 14 then c 7 kl 10 else (-9)) := by
  unfold x5_lineF
  rw [el]
theorem x5_line (X : Nat × (Nat → Int32)) {h : Hp} {nl nf np : Nat} (hw : WF h nl nf np) (c : CS) (l : Int32) (a : Int32)  (hnl : c 0 0 1 = nI nl) : wp X 62 0 [some (vR (some (0, 0))), some (vI l), some (vI a), none] [] (pX h c) (fun r h' => r = some (vI (x5_lineF c nl l a)) ∧ h' = pX h c) := by
  have h4 := hw.2.2.2.2.2.2.1
  have h5 := hw.2.2.2.2.2.2.2.1
  have h3 := hw.2.2.2.2.2.2.2.2
  cases el : lnO nl l with
  | none =>
    refine w_pu rfl rfl ?_
    refine w_pu rfl rfl ?_
    refine w_cp (vR (lnR 7 (lnO nl l))) rfl rfl (by decide) (Nat.le_of_ble_eq_true rfl) rfl (Nat.le_of_ble_eq_true rfl) (Nat.le_of_ble_eq_true rfl) ⟨wl hw Nat.one_pos, rfl⟩ rfl (x5_lineAt X hw c hnl l) ?_
    refine w_topR none (by rw [el]; rfl) ?_
    refine w_pu rfl rfl ?_
    refine w_pu rfl rfl ?_
    refine w_nnN rfl ?_
    refine w_cst (v := (-9)) rfl rfl rfl ?_
    refine w_rt rfl rfl trivial ?_
    exact ⟨by rw [x5_lineF_0 el], rfl⟩
  | some kl =>
    obtain ⟨rfl, hkl⟩ := lnO_some el
    refine w_pu rfl rfl ?_
    refine w_pu rfl rfl ?_
    refine w_cp (vR (lnR 7 (lnO nl (nI kl)))) rfl rfl (by decide) (Nat.le_of_ble_eq_true rfl) rfl (Nat.le_of_ble_eq_true rfl) (Nat.le_of_ble_eq_true rfl) ⟨wl hw Nat.one_pos, rfl⟩ rfl (x5_lineAt X hw c hnl (nI kl)) ?_
    refine w_topR (some (7, kl)) (by rw [el]; rfl) ?_
    refine w_pu rfl rfl ?_
    refine w_pu rfl rfl ?_
    refine w_nn rfl ?_
    refine w_pu rfl rfl ?_
    by_cases q0 : a = 0
    · refine w_top 0 q0 ?_
      refine w_sw (t := 88) rfl rfl ?_
      refine w_pu rfl rfl ?_
      refine x_g hw rfl rfl rfl (by decide) hkl ?_
      refine w_rt rfl rfl trivial ?_
      exact ⟨by rw [x5_lineF_1 el, if_pos q0], rfl⟩
    by_cases q1 : a = 1
    · refine w_top 1 q1 ?_
      refine w_sw (t := 93) rfl rfl ?_
      refine w_pu rfl rfl ?_
      refine x_g hw rfl rfl rfl (by decide) hkl ?_
      refine w_rt rfl rfl trivial ?_
      exact ⟨by rw [x5_lineF_1 el, if_neg q0, if_pos q1], rfl⟩
    by_cases q2 : a = 2
    · refine w_top 2 q2 ?_
      refine w_sw (t := 98) rfl rfl ?_
      refine w_pu rfl rfl ?_
      refine x_g hw rfl rfl rfl (by decide) hkl ?_
      refine w_rt rfl rfl trivial ?_
      exact ⟨by rw [x5_lineF_1 el, if_neg q0, if_neg q1, if_pos q2], rfl⟩
    by_cases q3 : a = 3
    · refine w_top 3 q3 ?_
      refine w_sw (t := 103) rfl rfl ?_
      refine w_pu rfl rfl ?_
      refine x_g hw rfl rfl rfl (by decide) hkl ?_
      refine w_eq0 rfl (fun c0 => ?_) (fun c0 => ?_)
      · refine w_cst (v := 0) rfl rfl rfl ?_
        refine w_rt rfl rfl trivial ?_
        exact ⟨by rw [x5_lineF_1 el, if_neg q0, if_neg q1, if_neg q2, if_pos q3, if_pos c0], rfl⟩
      · refine w_cst (v := 1) rfl rfl rfl ?_
        refine w_go rfl ?_
        refine w_rt rfl rfl trivial ?_
        exact ⟨by rw [x5_lineF_1 el, if_neg q0, if_neg q1, if_neg q2, if_pos q3, if_neg c0], rfl⟩
    by_cases q4 : a = 4
    · refine w_top 4 q4 ?_
      refine w_sw (t := 116) rfl rfl ?_
      refine w_pu rfl rfl ?_
      refine x_gR 10 hw rfl rfl rfl rfl hkl ?_
      refine x_g hw rfl rfl rfl (by decide) hkl ?_
      refine w_rt rfl rfl trivial ?_
      exact ⟨by rw [x5_lineF_1 el, if_neg q0, if_neg q1, if_neg q2, if_neg q3, if_pos q4], rfl⟩
    by_cases q5 : a = 5
    · refine w_top 5 q5 ?_
      refine w_sw (t := 124) rfl rfl ?_
      refine w_pu rfl rfl ?_
      refine x_gR 10 hw rfl rfl rfl rfl hkl ?_
      refine x_g hw rfl rfl rfl (by decide) hkl ?_
      refine w_rt rfl rfl trivial ?_
      exact ⟨by rw [x5_lineF_1 el, if_neg q0, if_neg q1, if_neg q2, if_neg q3, if_neg q4, if_pos q5], rfl⟩
    by_cases q6 : a = 6
    · refine w_top 6 q6 ?_
      refine w_sw (t := 132) rfl rfl ?_
      refine w_pu rfl rfl ?_
      refine x_gR 13 hw rfl rfl rfl rfl hkl ?_
      refine x_g hw rfl rfl rfl (by decide) hkl ?_
      refine w_rt rfl rfl trivial ?_
      exact ⟨by rw [x5_lineF_1 el, if_neg q0, if_neg q1, if_neg q2, if_neg q3, if_neg q4, if_neg q5, if_pos q6], rfl⟩
    by_cases q7 : a = 7
    · refine w_top 7 q7 ?_
      refine w_sw (t := 140) rfl rfl ?_
      refine w_pu rfl rfl ?_
      refine x_g hw rfl rfl rfl (by decide) hkl ?_
      refine w_rt rfl rfl trivial ?_
      exact ⟨by rw [x5_lineF_1 el, if_neg q0, if_neg q1, if_neg q2, if_neg q3, if_neg q4, if_neg q5, if_neg q6, if_pos q7], rfl⟩
    by_cases q8 : a = 8
    · refine w_top 8 q8 ?_
      refine w_sw (t := 145) rfl rfl ?_
      refine w_pu rfl rfl ?_
      refine x_g hw rfl rfl rfl (by decide) hkl ?_
      refine w_rt rfl rfl trivial ?_
      exact ⟨by rw [x5_lineF_1 el, if_neg q0, if_neg q1, if_neg q2, if_neg q3, if_neg q4, if_neg q5, if_neg q6, if_neg q7, if_pos q8], rfl⟩
    by_cases q9 : a = 9
    · refine w_top 9 q9 ?_
      refine w_sw (t := 150) rfl rfl ?_
      refine w_pu rfl rfl ?_
      refine x_g hw rfl rfl rfl (by decide) hkl ?_
      refine w_rt rfl rfl trivial ?_
      exact ⟨by rw [x5_lineF_1 el, if_neg q0, if_neg q1, if_neg q2, if_neg q3, if_neg q4, if_neg q5, if_neg q6, if_neg q7, if_neg q8, if_pos q9], rfl⟩
    by_cases q10 : a = 10
    · refine w_top 10 q10 ?_
      refine w_sw (t := 155) rfl rfl ?_
      refine w_pu rfl rfl ?_
      refine x_g hw rfl rfl rfl (by decide) hkl ?_
      refine w_rt rfl rfl trivial ?_
      exact ⟨by rw [x5_lineF_1 el, if_neg q0, if_neg q1, if_neg q2, if_neg q3, if_neg q4, if_neg q5, if_neg q6, if_neg q7, if_neg q8, if_neg q9, if_pos q10], rfl⟩
    by_cases q11 : a = 11
    · refine w_top 11 q11 ?_
      refine w_sw (t := 160) rfl rfl ?_
      refine w_pu rfl rfl ?_
      refine x_g hw rfl rfl rfl (by decide) hkl ?_
      refine w_rt rfl rfl trivial ?_
      exact ⟨by rw [x5_lineF_1 el, if_neg q0, if_neg q1, if_neg q2, if_neg q3, if_neg q4, if_neg q5, if_neg q6, if_neg q7, if_neg q8, if_neg q9, if_neg q10, if_pos q11], rfl⟩
    by_cases q12 : a = 12
    · refine w_top 12 q12 ?_
      refine w_sw (t := 165) rfl rfl ?_
      refine w_pu rfl rfl ?_
      refine x_g hw rfl rfl rfl (by decide) hkl ?_
      refine w_rt rfl rfl trivial ?_
      exact ⟨by rw [x5_lineF_1 el, if_neg q0, if_neg q1, if_neg q2, if_neg q3, if_neg q4, if_neg q5, if_neg q6, if_neg q7, if_neg q8, if_neg q9, if_neg q10, if_neg q11, if_pos q12], rfl⟩
    by_cases q13 : a = 13
    · refine w_top 13 q13 ?_
      refine w_sw (t := 170) rfl rfl ?_
      refine w_pu rfl rfl ?_
      refine x_g hw rfl rfl rfl (by decide) hkl ?_
      refine w_rt rfl rfl trivial ?_
      exact ⟨by rw [x5_lineF_1 el, if_neg q0, if_neg q1, if_neg q2, if_neg q3, if_neg q4, if_neg q5, if_neg q6, if_neg q7, if_neg q8, if_neg q9, if_neg q10, if_neg q11, if_neg q12, if_pos q13], rfl⟩
    by_cases q14 : a = 14
    · refine w_top 14 q14 ?_
      refine w_sw (t := 175) rfl rfl ?_
      refine w_pu rfl rfl ?_
      refine x_g hw rfl rfl rfl (by decide) hkl ?_
      refine w_rt rfl rfl trivial ?_
      exact ⟨by rw [x5_lineF_1 el, if_neg q0, if_neg q1, if_neg q2, if_neg q3, if_neg q4, if_neg q5, if_neg q6, if_neg q7, if_neg q8, if_neg q9, if_neg q10, if_neg q11, if_neg q12, if_neg q13, if_pos q14], rfl⟩
    refine w_sw (t := 180) rfl (sw_out (by decide) rfl ?_) ?_
    · intro k k1
      match k, k1 with
      | 0, _ => exact q0
      | 1, _ => exact q1
      | 2, _ => exact q2
      | 3, _ => exact q3
      | 4, _ => exact q4
      | 5, _ => exact q5
      | 6, _ => exact q6
      | 7, _ => exact q7
      | 8, _ => exact q8
      | 9, _ => exact q9
      | 10, _ => exact q10
      | 11, _ => exact q11
      | 12, _ => exact q12
      | 13, _ => exact q13
      | 14, _ => exact q14
      | k + 15, k1 => exact absurd k1 (by omega)
    refine w_cst (v := (-9)) rfl rfl rfl ?_
    refine w_rt rfl rfl trivial ?_
    exact ⟨by rw [x5_lineF_1 el, if_neg q0, if_neg q1, if_neg q2, if_neg q3, if_neg q4, if_neg q5, if_neg q6, if_neg q7, if_neg q8, if_neg q9, if_neg q10, if_neg q11, if_neg q12, if_neg q13, if_neg q14], rfl⟩
def x5_pieceF (c : CS) (np : Nat) (p : Int32) (a : Int32) : Int32 := (match lnO np p with
  | none => (-9)
  | some kp => (if a = 0 then c 18 kp 5 else if a = 1 then c 18 kp 0 else if a = 2 then c 18 kp 1 else if a = 3 then c 18 kp 6 else if a = 4 then c 18 kp 7 else if a = 5 then (if (c 18 kp 2) = 0 then 0 else 1) else if a = 6 then c 18 kp 3 else (-9)))
theorem x5_pieceF_0 {c : CS} {np : Nat} {p : Int32} {a : Int32} (ep : lnO np p = none) : x5_pieceF c np p a = (-9) := by
  unfold x5_pieceF
  rw [ep]
theorem x5_pieceF_1 {c : CS} {np : Nat} {p : Int32} {a : Int32} {kp : Nat} (ep : lnO np p = some kp) : x5_pieceF c np p a = (if a = 0 then c 18 kp 5 else if a = 1 then c 18 kp 0 else if a = 2 then c 18 kp 1 else if a = 3 then c 18 kp 6 else if a = 4 then c 18 kp 7 else if a = 5 then (if (c 18 kp 2) = 0 then 0 else 1) else if a = 6 then c 18 kp 3 else (-9)) := by
  unfold x5_pieceF
  rw [ep]
theorem x5_piece (X : Nat × (Nat → Int32)) {h : Hp} {nl nf np : Nat} (hw : WF h nl nf np) (c : CS) (p : Int32) (a : Int32)  (hnp : c 0 0 8 = nI np) : wp X 63 0 [some (vR (some (0, 0))), some (vI p), some (vI a), none] [] (pX h c) (fun r h' => r = some (vI (x5_pieceF c np p a)) ∧ h' = pX h c) := by
  have h4 := hw.2.2.2.2.2.2.1
  have h5 := hw.2.2.2.2.2.2.2.1
  have h3 := hw.2.2.2.2.2.2.2.2
  cases ep : lnO np p with
  | none =>
    refine w_pu rfl rfl ?_
    refine w_pu rfl rfl ?_
    refine w_cp (vR (lnR 18 (lnO np p))) rfl rfl (by decide) (Nat.le_of_ble_eq_true rfl) rfl (Nat.le_of_ble_eq_true rfl) (Nat.le_of_ble_eq_true rfl) ⟨wl hw Nat.one_pos, rfl⟩ rfl (x5_pieceAt X hw c hnp p) ?_
    refine w_topR none (by rw [ep]; rfl) ?_
    refine w_pu rfl rfl ?_
    refine w_pu rfl rfl ?_
    refine w_nnN rfl ?_
    refine w_cst (v := (-9)) rfl rfl rfl ?_
    refine w_rt rfl rfl trivial ?_
    exact ⟨by rw [x5_pieceF_0 ep], rfl⟩
  | some kp =>
    obtain ⟨rfl, hkp⟩ := lnO_some ep
    refine w_pu rfl rfl ?_
    refine w_pu rfl rfl ?_
    refine w_cp (vR (lnR 18 (lnO np (nI kp)))) rfl rfl (by decide) (Nat.le_of_ble_eq_true rfl) rfl (Nat.le_of_ble_eq_true rfl) (Nat.le_of_ble_eq_true rfl) ⟨wl hw Nat.one_pos, rfl⟩ rfl (x5_pieceAt X hw c hnp (nI kp)) ?_
    refine w_topR (some (18, kp)) (by rw [ep]; rfl) ?_
    refine w_pu rfl rfl ?_
    refine w_pu rfl rfl ?_
    refine w_nn rfl ?_
    refine w_pu rfl rfl ?_
    by_cases q0 : a = 0
    · refine w_top 0 q0 ?_
      refine w_sw (t := 56) rfl rfl ?_
      refine w_pu rfl rfl ?_
      refine x_g hw rfl rfl rfl (by decide) hkp ?_
      refine w_rt rfl rfl trivial ?_
      exact ⟨by rw [x5_pieceF_1 ep, if_pos q0], rfl⟩
    by_cases q1 : a = 1
    · refine w_top 1 q1 ?_
      refine w_sw (t := 61) rfl rfl ?_
      refine w_pu rfl rfl ?_
      refine x_g hw rfl rfl rfl (by decide) hkp ?_
      refine w_rt rfl rfl trivial ?_
      exact ⟨by rw [x5_pieceF_1 ep, if_neg q0, if_pos q1], rfl⟩
    by_cases q2 : a = 2
    · refine w_top 2 q2 ?_
      refine w_sw (t := 66) rfl rfl ?_
      refine w_pu rfl rfl ?_
      refine x_g hw rfl rfl rfl (by decide) hkp ?_
      refine w_rt rfl rfl trivial ?_
      exact ⟨by rw [x5_pieceF_1 ep, if_neg q0, if_neg q1, if_pos q2], rfl⟩
    by_cases q3 : a = 3
    · refine w_top 3 q3 ?_
      refine w_sw (t := 71) rfl rfl ?_
      refine w_pu rfl rfl ?_
      refine x_g hw rfl rfl rfl (by decide) hkp ?_
      refine w_rt rfl rfl trivial ?_
      exact ⟨by rw [x5_pieceF_1 ep, if_neg q0, if_neg q1, if_neg q2, if_pos q3], rfl⟩
    by_cases q4 : a = 4
    · refine w_top 4 q4 ?_
      refine w_sw (t := 76) rfl rfl ?_
      refine w_pu rfl rfl ?_
      refine x_g hw rfl rfl rfl (by decide) hkp ?_
      refine w_rt rfl rfl trivial ?_
      exact ⟨by rw [x5_pieceF_1 ep, if_neg q0, if_neg q1, if_neg q2, if_neg q3, if_pos q4], rfl⟩
    by_cases q5 : a = 5
    · refine w_top 5 q5 ?_
      refine w_sw (t := 81) rfl rfl ?_
      refine w_pu rfl rfl ?_
      refine x_g hw rfl rfl rfl (by decide) hkp ?_
      refine w_eq0 rfl (fun c0 => ?_) (fun c0 => ?_)
      · refine w_cst (v := 0) rfl rfl rfl ?_
        refine w_rt rfl rfl trivial ?_
        exact ⟨by rw [x5_pieceF_1 ep, if_neg q0, if_neg q1, if_neg q2, if_neg q3, if_neg q4, if_pos q5, if_pos c0], rfl⟩
      · refine w_cst (v := 1) rfl rfl rfl ?_
        refine w_go rfl ?_
        refine w_rt rfl rfl trivial ?_
        exact ⟨by rw [x5_pieceF_1 ep, if_neg q0, if_neg q1, if_neg q2, if_neg q3, if_neg q4, if_pos q5, if_neg c0], rfl⟩
    by_cases q6 : a = 6
    · refine w_top 6 q6 ?_
      refine w_sw (t := 94) rfl rfl ?_
      refine w_pu rfl rfl ?_
      refine x_g hw rfl rfl rfl (by decide) hkp ?_
      refine w_rt rfl rfl trivial ?_
      exact ⟨by rw [x5_pieceF_1 ep, if_neg q0, if_neg q1, if_neg q2, if_neg q3, if_neg q4, if_neg q5, if_pos q6], rfl⟩
    refine w_sw (t := 99) rfl (sw_out (by decide) rfl ?_) ?_
    · intro k k1
      match k, k1 with
      | 0, _ => exact q0
      | 1, _ => exact q1
      | 2, _ => exact q2
      | 3, _ => exact q3
      | 4, _ => exact q4
      | 5, _ => exact q5
      | 6, _ => exact q6
      | k + 7, k1 => exact absurd k1 (by omega)
    refine w_cst (v := (-9)) rfl rfl rfl ?_
    refine w_rt rfl rfl trivial ?_
    exact ⟨by rw [x5_pieceF_1 ep, if_neg q0, if_neg q1, if_neg q2, if_neg q3, if_neg q4, if_neg q5, if_neg q6], rfl⟩
def x5_lostOnF (c : CS) (nl : Nat) (np : Nat) (p : Int32) (l : Int32) : Int32 := (match lnO np p with
  | none => (-9)
  | some kp => (match lnO nl l with
  | none => (-9)
  | some kl => (x2_lossesOnF c kp (nI kl))))
theorem x5_lostOnF_0 {c : CS} {nl : Nat} {np : Nat} {p : Int32} {l : Int32} (ep : lnO np p = none) : x5_lostOnF c nl np p l = (-9) := by
  unfold x5_lostOnF
  rw [ep]
theorem x5_lostOnF_1 {c : CS} {nl : Nat} {np : Nat} {p : Int32} {l : Int32} {kp : Nat} (ep : lnO np p = some kp) (el : lnO nl l = none) : x5_lostOnF c nl np p l = (-9) := by
  unfold x5_lostOnF
  rw [ep]; dsimp only; rw [el]
theorem x5_lostOnF_2 {c : CS} {nl : Nat} {np : Nat} {p : Int32} {l : Int32} {kp : Nat} {kl : Nat} (ep : lnO np p = some kp) (el : lnO nl l = some kl) : x5_lostOnF c nl np p l = (x2_lossesOnF c kp (nI kl)) := by
  unfold x5_lostOnF
  rw [ep]; dsimp only; rw [el]
theorem x5_lostOn (X : Nat × (Nat → Int32)) {h : Hp} {nl nf np : Nat} (hw : WF h nl nf np) (c : CS) (p : Int32) (l : Int32)  (hnl : c 0 0 1 = nI nl) (hnp : c 0 0 8 = nI np) : wp X 64 0 [some (vR (some (0, 0))), some (vI p), some (vI l), none] [] (pX h c) (fun r h' => r = some (vI (x5_lostOnF c nl np p l)) ∧ h' = pX h c) := by
  have h4 := hw.2.2.2.2.2.2.1
  have h5 := hw.2.2.2.2.2.2.2.1
  have h3 := hw.2.2.2.2.2.2.2.2
  cases ep : lnO np p with
  | none =>
    refine w_pu rfl rfl ?_
    refine w_pu rfl rfl ?_
    refine w_cp (vR (lnR 18 (lnO np p))) rfl rfl (by decide) (Nat.le_of_ble_eq_true rfl) rfl (Nat.le_of_ble_eq_true rfl) (Nat.le_of_ble_eq_true rfl) ⟨wl hw Nat.one_pos, rfl⟩ rfl (x5_pieceAt X hw c hnp p) ?_
    refine w_topR none (by rw [ep]; rfl) ?_
    refine w_pu rfl rfl ?_
    refine w_pu rfl rfl ?_
    refine w_nuN rfl ?_
    refine w_cst (v := (-9)) rfl rfl rfl ?_
    refine w_rt rfl rfl trivial ?_
    exact ⟨by rw [x5_lostOnF_0 ep], rfl⟩
  | some kp =>
    obtain ⟨rfl, hkp⟩ := lnO_some ep
    cases el : lnO nl l with
    | none =>
      refine w_pu rfl rfl ?_
      refine w_pu rfl rfl ?_
      refine w_cp (vR (lnR 18 (lnO np (nI kp)))) rfl rfl (by decide) (Nat.le_of_ble_eq_true rfl) rfl (Nat.le_of_ble_eq_true rfl) (Nat.le_of_ble_eq_true rfl) ⟨wl hw Nat.one_pos, rfl⟩ rfl (x5_pieceAt X hw c hnp (nI kp)) ?_
      refine w_topR (some (18, kp)) (by rw [ep]; rfl) ?_
      refine w_pu rfl rfl ?_
      refine w_pu rfl rfl ?_
      refine w_nu rfl ?_
      refine w_pu rfl rfl ?_
      refine w_pu rfl rfl ?_
      refine w_cp (vR (lnR 7 (lnO nl l))) rfl rfl (by decide) (Nat.le_of_ble_eq_true rfl) rfl (Nat.le_of_ble_eq_true rfl) (Nat.le_of_ble_eq_true rfl) ⟨wl hw Nat.one_pos, rfl⟩ rfl (x5_lineAt X hw c hnl l) ?_
      refine w_topR none (by rw [el]; rfl) ?_
      refine w_nnN rfl ?_
      refine w_cst (v := (-9)) rfl rfl rfl ?_
      refine w_rt rfl rfl trivial ?_
      exact ⟨by rw [x5_lostOnF_1 ep el], rfl⟩
    | some kl =>
      obtain ⟨rfl, hkl⟩ := lnO_some el
      refine w_pu rfl rfl ?_
      refine w_pu rfl rfl ?_
      refine w_cp (vR (lnR 18 (lnO np (nI kp)))) rfl rfl (by decide) (Nat.le_of_ble_eq_true rfl) rfl (Nat.le_of_ble_eq_true rfl) (Nat.le_of_ble_eq_true rfl) ⟨wl hw Nat.one_pos, rfl⟩ rfl (x5_pieceAt X hw c hnp (nI kp)) ?_
      refine w_topR (some (18, kp)) (by rw [ep]; rfl) ?_
      refine w_pu rfl rfl ?_
      refine w_pu rfl rfl ?_
      refine w_nu rfl ?_
      refine w_pu rfl rfl ?_
      refine w_pu rfl rfl ?_
      refine w_cp (vR (lnR 7 (lnO nl (nI kl)))) rfl rfl (by decide) (Nat.le_of_ble_eq_true rfl) rfl (Nat.le_of_ble_eq_true rfl) (Nat.le_of_ble_eq_true rfl) ⟨wl hw Nat.one_pos, rfl⟩ rfl (x5_lineAt X hw c hnl (nI kl)) ?_
      refine w_topR (some (7, kl)) (by rw [el]; rfl) ?_
      refine w_nn rfl ?_
      refine w_pu rfl rfl ?_
      refine w_pu rfl rfl ?_
      refine w_cp (vI (x2_lossesOnF c kp (nI kl))) rfl rfl (by decide) (Nat.le_of_ble_eq_true rfl) rfl (Nat.le_of_ble_eq_true rfl) (Nat.le_of_ble_eq_true rfl) ⟨wl hw hkp, rfl⟩ rfl (x2_lossesOn X hw c kp (nI kl) hkp ) ?_
      refine w_rt rfl rfl trivial ?_
      exact ⟨by rw [x5_lostOnF_2 ep el], rfl⟩
def x5_queuedF (c : CS) (nl : Nat) (l : Int32) (k : Int32) : Int32 := (match lnO nl l with
  | none => (-9)
  | some kl => (if k < 0 then (-9) else (if k < (c 10 kl 3) then (x3_numberOfF c kl k) else (-9))))
theorem x5_queuedF_0 {c : CS} {nl : Nat} {l : Int32} {k : Int32} (el : lnO nl l = none) : x5_queuedF c nl l k = (-9) := by
  unfold x5_queuedF
  rw [el]
theorem x5_queuedF_1 {c : CS} {nl : Nat} {l : Int32} {k : Int32} {kl : Nat} (el : lnO nl l = some kl) : x5_queuedF c nl l k = (if k < 0 then (-9) else (if k < (c 10 kl 3) then (x3_numberOfF c kl k) else (-9))) := by
  unfold x5_queuedF
  rw [el]
theorem x5_queued (X : Nat × (Nat → Int32)) {h : Hp} {nl nf np : Nat} (hw : WF h nl nf np) (c : CS) (l : Int32) (k : Int32)  (hnl : c 0 0 1 = nI nl) : wp X 65 0 [some (vR (some (0, 0))), some (vI l), some (vI k), none] [] (pX h c) (fun r h' => r = some (vI (x5_queuedF c nl l k)) ∧ h' = pX h c) := by
  have h4 := hw.2.2.2.2.2.2.1
  have h5 := hw.2.2.2.2.2.2.2.1
  have h3 := hw.2.2.2.2.2.2.2.2
  cases el : lnO nl l with
  | none =>
    refine w_pu rfl rfl ?_
    refine w_pu rfl rfl ?_
    refine w_cp (vR (lnR 7 (lnO nl l))) rfl rfl (by decide) (Nat.le_of_ble_eq_true rfl) rfl (Nat.le_of_ble_eq_true rfl) (Nat.le_of_ble_eq_true rfl) ⟨wl hw Nat.one_pos, rfl⟩ rfl (x5_lineAt X hw c hnl l) ?_
    refine w_topR none (by rw [el]; rfl) ?_
    refine w_pu rfl rfl ?_
    refine w_pu rfl rfl ?_
    refine w_nuN rfl ?_
    refine w_cst (v := (-9)) rfl rfl rfl ?_
    refine w_rt rfl rfl trivial ?_
    exact ⟨by rw [x5_queuedF_0 el], rfl⟩
  | some kl =>
    obtain ⟨rfl, hkl⟩ := lnO_some el
    refine w_pu rfl rfl ?_
    refine w_pu rfl rfl ?_
    refine w_cp (vR (lnR 7 (lnO nl (nI kl)))) rfl rfl (by decide) (Nat.le_of_ble_eq_true rfl) rfl (Nat.le_of_ble_eq_true rfl) (Nat.le_of_ble_eq_true rfl) ⟨wl hw Nat.one_pos, rfl⟩ rfl (x5_lineAt X hw c hnl (nI kl)) ?_
    refine w_topR (some (7, kl)) (by rw [el]; rfl) ?_
    refine w_pu rfl rfl ?_
    refine w_pu rfl rfl ?_
    refine w_nu rfl ?_
    refine w_pu rfl rfl ?_
    refine w_lt0 rfl (fun c0 => ?_) (fun c0 => ?_)
    · refine w_cst (v := (-9)) rfl rfl rfl ?_
      refine w_rt rfl rfl trivial ?_
      exact ⟨by rw [x5_queuedF_1 el, if_pos c0], rfl⟩
    · refine w_pu rfl rfl ?_
      refine w_pu rfl rfl ?_
      refine x_gR 10 hw rfl rfl rfl rfl hkl ?_
      refine x_g hw rfl rfl rfl (by decide) hkl ?_
      refine w_lt rfl (fun c1 => ?_) (fun c1 => ?_)
      · refine w_pu rfl rfl ?_
        refine x_gR 10 hw rfl rfl rfl rfl hkl ?_
        refine w_pu rfl rfl ?_
        refine w_cp (vI (x3_numberOfF c kl k)) rfl rfl (by decide) (Nat.le_of_ble_eq_true rfl) rfl (Nat.le_of_ble_eq_true rfl) (Nat.le_of_ble_eq_true rfl) ⟨wl hw hkl, rfl⟩ rfl (x3_numberOf X hw c kl k hkl ) ?_
        refine w_rt rfl rfl trivial ?_
        exact ⟨by rw [x5_queuedF_1 el, if_neg c0, if_pos c1], rfl⟩
      · refine w_cst (v := (-9)) rfl rfl rfl ?_
        refine w_rt rfl rfl trivial ?_
        exact ⟨by rw [x5_queuedF_1 el, if_neg c0, if_neg c1], rfl⟩
def x5_underF (c : CS) (nl : Nat) (l : Int32) (k : Int32) (a : Int32) : Int32 := (match lnO nl l with
  | none => (-9)
  | some kl => (if k < 0 then (-9) else (if k < (c 13 kl 5) then (if a = 0 then (x4_numberOfF c kl k) else if a = 1 then (x4_countOfF c kl k) else if a = 2 then (x4_comingOfF c kl k) else if a = 3 then (x4_marksOfF c kl k) else (-9)) else (-9))))
theorem x5_underF_0 {c : CS} {nl : Nat} {l : Int32} {k : Int32} {a : Int32} (el : lnO nl l = none) : x5_underF c nl l k a = (-9) := by
  unfold x5_underF
  rw [el]
theorem x5_underF_1 {c : CS} {nl : Nat} {l : Int32} {k : Int32} {a : Int32} {kl : Nat} (el : lnO nl l = some kl) : x5_underF c nl l k a = (if k < 0 then (-9) else (if k < (c 13 kl 5) then (if a = 0 then (x4_numberOfF c kl k) else if a = 1 then (x4_countOfF c kl k) else if a = 2 then (x4_comingOfF c kl k) else if a = 3 then (x4_marksOfF c kl k) else (-9)) else (-9))) := by
  unfold x5_underF
  rw [el]
theorem x5_under (X : Nat × (Nat → Int32)) {h : Hp} {nl nf np : Nat} (hw : WF h nl nf np) (c : CS) (l : Int32) (k : Int32) (a : Int32)  (hnl : c 0 0 1 = nI nl) : wp X 66 0 [some (vR (some (0, 0))), some (vI l), some (vI k), some (vI a), none] [] (pX h c) (fun r h' => r = some (vI (x5_underF c nl l k a)) ∧ h' = pX h c) := by
  have h4 := hw.2.2.2.2.2.2.1
  have h5 := hw.2.2.2.2.2.2.2.1
  have h3 := hw.2.2.2.2.2.2.2.2
  cases el : lnO nl l with
  | none =>
    refine w_pu rfl rfl ?_
    refine w_pu rfl rfl ?_
    refine w_cp (vR (lnR 7 (lnO nl l))) rfl rfl (by decide) (Nat.le_of_ble_eq_true rfl) rfl (Nat.le_of_ble_eq_true rfl) (Nat.le_of_ble_eq_true rfl) ⟨wl hw Nat.one_pos, rfl⟩ rfl (x5_lineAt X hw c hnl l) ?_
    refine w_topR none (by rw [el]; rfl) ?_
    refine w_pu rfl rfl ?_
    refine w_pu rfl rfl ?_
    refine w_nuN rfl ?_
    refine w_cst (v := (-9)) rfl rfl rfl ?_
    refine w_rt rfl rfl trivial ?_
    exact ⟨by rw [x5_underF_0 el], rfl⟩
  | some kl =>
    obtain ⟨rfl, hkl⟩ := lnO_some el
    refine w_pu rfl rfl ?_
    refine w_pu rfl rfl ?_
    refine w_cp (vR (lnR 7 (lnO nl (nI kl)))) rfl rfl (by decide) (Nat.le_of_ble_eq_true rfl) rfl (Nat.le_of_ble_eq_true rfl) (Nat.le_of_ble_eq_true rfl) ⟨wl hw Nat.one_pos, rfl⟩ rfl (x5_lineAt X hw c hnl (nI kl)) ?_
    refine w_topR (some (7, kl)) (by rw [el]; rfl) ?_
    refine w_pu rfl rfl ?_
    refine w_pu rfl rfl ?_
    refine w_nu rfl ?_
    refine w_pu rfl rfl ?_
    refine w_lt0 rfl (fun c0 => ?_) (fun c0 => ?_)
    · refine w_cst (v := (-9)) rfl rfl rfl ?_
      refine w_rt rfl rfl trivial ?_
      exact ⟨by rw [x5_underF_1 el, if_pos c0], rfl⟩
    · refine w_pu rfl rfl ?_
      refine w_pu rfl rfl ?_
      refine x_gR 13 hw rfl rfl rfl rfl hkl ?_
      refine x_g hw rfl rfl rfl (by decide) hkl ?_
      refine w_lt rfl (fun c1 => ?_) (fun c1 => ?_)
      · refine w_pu rfl rfl ?_
        by_cases q0 : a = 0
        · refine w_top 0 q0 ?_
          refine w_sw (t := 64) rfl rfl ?_
          refine w_pu rfl rfl ?_
          refine x_gR 13 hw rfl rfl rfl rfl hkl ?_
          refine w_pu rfl rfl ?_
          refine w_cp (vI (x4_numberOfF c kl k)) rfl rfl (by decide) (Nat.le_of_ble_eq_true rfl) rfl (Nat.le_of_ble_eq_true rfl) (Nat.le_of_ble_eq_true rfl) ⟨wl hw hkl, rfl⟩ rfl (x4_numberOf X hw c kl k hkl ) ?_
          refine w_rt rfl rfl trivial ?_
          exact ⟨by rw [x5_underF_1 el, if_neg c0, if_pos c1, if_pos q0], rfl⟩
        by_cases q1 : a = 1
        · refine w_top 1 q1 ?_
          refine w_sw (t := 74) rfl rfl ?_
          refine w_pu rfl rfl ?_
          refine x_gR 13 hw rfl rfl rfl rfl hkl ?_
          refine w_pu rfl rfl ?_
          refine w_cp (vI (x4_countOfF c kl k)) rfl rfl (by decide) (Nat.le_of_ble_eq_true rfl) rfl (Nat.le_of_ble_eq_true rfl) (Nat.le_of_ble_eq_true rfl) ⟨wl hw hkl, rfl⟩ rfl (x4_countOf X hw c kl k hkl ) ?_
          refine w_rt rfl rfl trivial ?_
          exact ⟨by rw [x5_underF_1 el, if_neg c0, if_pos c1, if_neg q0, if_pos q1], rfl⟩
        by_cases q2 : a = 2
        · refine w_top 2 q2 ?_
          refine w_sw (t := 84) rfl rfl ?_
          refine w_pu rfl rfl ?_
          refine x_gR 13 hw rfl rfl rfl rfl hkl ?_
          refine w_pu rfl rfl ?_
          refine w_cp (vI (x4_comingOfF c kl k)) rfl rfl (by decide) (Nat.le_of_ble_eq_true rfl) rfl (Nat.le_of_ble_eq_true rfl) (Nat.le_of_ble_eq_true rfl) ⟨wl hw hkl, rfl⟩ rfl (x4_comingOf X hw c kl k hkl ) ?_
          refine w_rt rfl rfl trivial ?_
          exact ⟨by rw [x5_underF_1 el, if_neg c0, if_pos c1, if_neg q0, if_neg q1, if_pos q2], rfl⟩
        by_cases q3 : a = 3
        · refine w_top 3 q3 ?_
          refine w_sw (t := 94) rfl rfl ?_
          refine w_pu rfl rfl ?_
          refine x_gR 13 hw rfl rfl rfl rfl hkl ?_
          refine w_pu rfl rfl ?_
          refine w_cp (vI (x4_marksOfF c kl k)) rfl rfl (by decide) (Nat.le_of_ble_eq_true rfl) rfl (Nat.le_of_ble_eq_true rfl) (Nat.le_of_ble_eq_true rfl) ⟨wl hw hkl, rfl⟩ rfl (x4_marksOf X hw c kl k hkl ) ?_
          refine w_rt rfl rfl trivial ?_
          exact ⟨by rw [x5_underF_1 el, if_neg c0, if_pos c1, if_neg q0, if_neg q1, if_neg q2, if_pos q3], rfl⟩
        refine w_sw (t := 104) rfl (sw_out (by decide) rfl ?_) ?_
        · intro k k1
          match k, k1 with
          | 0, _ => exact q0
          | 1, _ => exact q1
          | 2, _ => exact q2
          | 3, _ => exact q3
          | k + 4, k1 => exact absurd k1 (by omega)
        refine w_cst (v := (-9)) rfl rfl rfl ?_
        refine w_rt rfl rfl trivial ?_
        exact ⟨by rw [x5_underF_1 el, if_neg c0, if_pos c1, if_neg q0, if_neg q1, if_neg q2, if_neg q3], rfl⟩
      · refine w_cst (v := (-9)) rfl rfl rfl ?_
        refine w_rt rfl rfl trivial ?_
        exact ⟨by rw [x5_underF_1 el, if_neg c0, if_neg c1], rfl⟩
def x0_byteAtF (c : CS) (f : Nat) (i : Int32) : Int32 := (if i < 0 then 0 else (if i < (c 20 f 1) then ((c 21 f (nat i)) &&& 255) else 0))
theorem x0_byteAt (X : Nat × (Nat → Int32)) {h : Hp} {nl nf np : Nat} (hw : WF h nl nf np) (c : CS) (f : Nat) (i : Int32) (hf : f < nf) (hF : FrOK h c f) : wp X 1 0 [some (vR (some (20, f))), some (vI i)] [] (pX h c) (fun r h' => r = some (vI (x0_byteAtF c f i)) ∧ h' = pX h c) := by
  have h4 := hw.2.2.2.2.2.2.1
  have h5 := hw.2.2.2.2.2.2.2.1
  have h3 := hw.2.2.2.2.2.2.2.2
  refine w_pu rfl rfl ?_
  refine w_lt0 rfl (fun c0 => ?_) (fun c0 => ?_)
  · refine w_cst (v := 0) rfl rfl rfl ?_
    refine w_go rfl ?_
    refine w_rt rfl rfl trivial ?_
    exact ⟨by rw [x0_byteAtF, if_pos c0], rfl⟩
  · refine w_pu rfl rfl ?_
    refine w_pu rfl rfl ?_
    refine x_gR 21 hw rfl rfl rfl rfl hf ?_
    refine x_lenL (nat (c 20 f 1)) hw rfl (by decide) hF.1 hf ?_
    refine w_top (c 20 f 1) hF.2.symm ?_
    refine w_lt rfl (fun c1 => ?_) (fun c1 => ?_)
    · obtain ⟨e1, e2⟩ := rng (m := nat (c 20 f 1)) c0 (by rw [← hF.2]; exact c1) (nat_lt _)
      refine w_pu rfl rfl ?_
      refine x_gR 21 hw rfl rfl rfl rfl hf ?_
      refine w_pu rfl rfl ?_
      refine x_abL (nat i) (nat (c 20 f 1)) hw rfl rfl hF.1 (nat_lt _) (by decide) hf e1 (by show (nat i) < (nat (c 20 f 1)); omega) ?_
      refine w_cst (v := 255) rfl rfl rfl ?_
      refine w_pu rfl rfl ?_
      refine w_rt rfl rfl trivial ?_
      exact ⟨by rw [x0_byteAtF, if_neg c0, if_pos c1], rfl⟩
    · refine w_cst (v := 0) rfl rfl rfl ?_
      refine w_go rfl ?_
      refine w_rt rfl rfl trivial ?_
      exact ⟨by rw [x0_byteAtF, if_neg c0, if_neg c1], rfl⟩
def x5_gotF (c : CS) (nf : Nat) (f : Int32) (i : Int32) : Int32 × CS := (match lnO nf f with
  | none => ((-1), refX c 1)
  | some kf => (if (c 0 0 4) ≤ (nI kf) then ((-3), refX c 3) else (if ((c 0 0 4) - 20) ≤ (nI kf) then (if i = (-1) then (c 20 kf 1, c) else (if i < 0 then ((-3), refX c 3) else (if i < (c 20 kf 1) then ((x0_byteAtF c kf i), c) else ((-3), refX c 3)))) else ((-3), refX c 3))))
theorem x5_gotF_0 {c : CS} {nf : Nat} {f : Int32} {i : Int32} (ef : lnO nf f = none) : x5_gotF c nf f i = ((-1), refX c 1) := by
  unfold x5_gotF
  rw [ef]
theorem x5_gotF_1 {c : CS} {nf : Nat} {f : Int32} {i : Int32} {kf : Nat} (ef : lnO nf f = some kf) : x5_gotF c nf f i = (if (c 0 0 4) ≤ (nI kf) then ((-3), refX c 3) else (if ((c 0 0 4) - 20) ≤ (nI kf) then (if i = (-1) then (c 20 kf 1, c) else (if i < 0 then ((-3), refX c 3) else (if i < (c 20 kf 1) then ((x0_byteAtF c kf i), c) else ((-3), refX c 3)))) else ((-3), refX c 3))) := by
  unfold x5_gotF
  rw [ef]
theorem x5_got (X : Nat × (Nat → Int32)) {h : Hp} {nl nf np : Nat} (hw : WF h nl nf np) (c : CS) (f : Int32) (i : Int32)  (hnf : c 0 0 3 = nI nf) (hF : ∀ f, f < nf → FrOK h c f) : wp X 69 0 [some (vR (some (0, 0))), some (vI f), some (vI i), none] [] (pX h c) (fun r h' => r = some (vI (x5_gotF c nf f i).1) ∧ h' = pX h (x5_gotF c nf f i).2) := by
  have h4 := hw.2.2.2.2.2.2.1
  have h5 := hw.2.2.2.2.2.2.2.1
  have h3 := hw.2.2.2.2.2.2.2.2
  cases ef : lnO nf f with
  | none =>
    refine w_pu rfl rfl ?_
    refine w_pu rfl rfl ?_
    refine w_cp (vR (lnR 20 (lnO nf f))) rfl rfl (by decide) (Nat.le_of_ble_eq_true rfl) rfl (Nat.le_of_ble_eq_true rfl) (Nat.le_of_ble_eq_true rfl) ⟨wl hw Nat.one_pos, rfl⟩ rfl (x5_frameAt X hw c hnf f) ?_
    refine w_topR none (by rw [ef]; rfl) ?_
    refine w_pu rfl rfl ?_
    refine w_pu rfl rfl ?_
    refine w_nnN rfl ?_
    refine w_pu rfl rfl ?_
    refine w_cst (v := (-1)) rfl rfl rfl ?_
    refine w_cgE (vI (-1)) (pX h (refX c 1)) rfl rfl (by decide) (Nat.le_of_ble_eq_true rfl) rfl (Nat.le_of_ble_eq_true rfl) (Nat.le_of_ble_eq_true rfl) ⟨wl hw Nat.one_pos, rfl⟩ rfl (x5_refuse_1 X hw c) ?_
    refine w_rt rfl rfl trivial ?_
    exact ⟨by rw [x5_gotF_0 ef], by rw [x5_gotF_0 ef]⟩
  | some kf =>
    obtain ⟨rfl, hkf⟩ := lnO_some ef
    refine w_pu rfl rfl ?_
    refine w_pu rfl rfl ?_
    refine w_cp (vR (lnR 20 (lnO nf (nI kf)))) rfl rfl (by decide) (Nat.le_of_ble_eq_true rfl) rfl (Nat.le_of_ble_eq_true rfl) (Nat.le_of_ble_eq_true rfl) ⟨wl hw Nat.one_pos, rfl⟩ rfl (x5_frameAt X hw c hnf (nI kf)) ?_
    refine w_topR (some (20, kf)) (by rw [ef]; rfl) ?_
    refine w_pu rfl rfl ?_
    refine w_pu rfl rfl ?_
    refine w_nn rfl ?_
    refine w_pu rfl rfl ?_
    refine w_pu rfl rfl ?_
    refine x_g hw rfl rfl rfl (by decide) Nat.one_pos ?_
    refine w_ge rfl (fun c0 => ?_) (fun c0 => ?_)
    · refine w_pu rfl rfl ?_
      refine w_cst (v := (-3)) rfl rfl rfl ?_
      refine w_cgE (vI (-3)) (pX h (refX c 3)) rfl rfl (by decide) (Nat.le_of_ble_eq_true rfl) rfl (Nat.le_of_ble_eq_true rfl) (Nat.le_of_ble_eq_true rfl) ⟨wl hw Nat.one_pos, rfl⟩ rfl (x5_refuse_3 X hw c) ?_
      refine w_rt rfl rfl trivial ?_
      exact ⟨by rw [x5_gotF_1 ef, if_pos c0], by rw [x5_gotF_1 ef, if_pos c0]⟩
    · refine w_pu rfl rfl ?_
      refine w_pu rfl rfl ?_
      refine x_g hw rfl rfl rfl (by decide) Nat.one_pos ?_
      refine w_cst (v := 20) rfl rfl rfl ?_
      refine w_pu rfl rfl ?_
      refine w_ge rfl (fun c1 => ?_) (fun c1 => ?_)
      · refine w_pu rfl rfl ?_
        refine w_cst (v := (-1)) rfl rfl rfl ?_
        refine w_ne rfl (fun c2 => ?_) (fun c2 => ?_)
        · refine w_pu rfl rfl ?_
          refine w_lt0 rfl (fun c3 => ?_) (fun c3 => ?_)
          · refine w_pu rfl rfl ?_
            refine w_cst (v := (-3)) rfl rfl rfl ?_
            refine w_cgE (vI (-3)) (pX h (refX c 3)) rfl rfl (by decide) (Nat.le_of_ble_eq_true rfl) rfl (Nat.le_of_ble_eq_true rfl) (Nat.le_of_ble_eq_true rfl) ⟨wl hw Nat.one_pos, rfl⟩ rfl (x5_refuse_3 X hw c) ?_
            refine w_rt rfl rfl trivial ?_
            exact ⟨by rw [x5_gotF_1 ef, if_neg c0, if_pos c1, if_neg c2, if_pos c3], by rw [x5_gotF_1 ef, if_neg c0, if_pos c1, if_neg c2, if_pos c3]⟩
          · refine w_pu rfl rfl ?_
            refine w_pu rfl rfl ?_
            refine x_g hw rfl rfl rfl (by decide) hkf ?_
            refine w_lt rfl (fun c4 => ?_) (fun c4 => ?_)
            · refine w_pu rfl rfl ?_
              refine w_pu rfl rfl ?_
              refine w_cp (vI (x0_byteAtF c kf i)) rfl rfl (by decide) (Nat.le_of_ble_eq_true rfl) rfl (Nat.le_of_ble_eq_true rfl) (Nat.le_of_ble_eq_true rfl) ⟨wl hw hkf, rfl⟩ rfl (x0_byteAt X hw c kf i hkf (hF kf hkf)) ?_
              refine w_rt rfl rfl trivial ?_
              exact ⟨by rw [x5_gotF_1 ef, if_neg c0, if_pos c1, if_neg c2, if_neg c3, if_pos c4], by rw [x5_gotF_1 ef, if_neg c0, if_pos c1, if_neg c2, if_neg c3, if_pos c4]⟩
            · refine w_pu rfl rfl ?_
              refine w_cst (v := (-3)) rfl rfl rfl ?_
              refine w_cgE (vI (-3)) (pX h (refX c 3)) rfl rfl (by decide) (Nat.le_of_ble_eq_true rfl) rfl (Nat.le_of_ble_eq_true rfl) (Nat.le_of_ble_eq_true rfl) ⟨wl hw Nat.one_pos, rfl⟩ rfl (x5_refuse_3 X hw c) ?_
              refine w_rt rfl rfl trivial ?_
              exact ⟨by rw [x5_gotF_1 ef, if_neg c0, if_pos c1, if_neg c2, if_neg c3, if_neg c4], by rw [x5_gotF_1 ef, if_neg c0, if_pos c1, if_neg c2, if_neg c3, if_neg c4]⟩
        · refine w_pu rfl rfl ?_
          refine x_g hw rfl rfl rfl (by decide) hkf ?_
          refine w_rt rfl rfl trivial ?_
          exact ⟨by rw [x5_gotF_1 ef, if_neg c0, if_pos c1, if_pos c2], by rw [x5_gotF_1 ef, if_neg c0, if_pos c1, if_pos c2]⟩
      · refine w_pu rfl rfl ?_
        refine w_cst (v := (-3)) rfl rfl rfl ?_
        refine w_cgE (vI (-3)) (pX h (refX c 3)) rfl rfl (by decide) (Nat.le_of_ble_eq_true rfl) rfl (Nat.le_of_ble_eq_true rfl) (Nat.le_of_ble_eq_true rfl) ⟨wl hw Nat.one_pos, rfl⟩ rfl (x5_refuse_3 X hw c) ?_
        refine w_rt rfl rfl trivial ?_
        exact ⟨by rw [x5_gotF_1 ef, if_neg c0, if_neg c1], by rw [x5_gotF_1 ef, if_neg c0, if_neg c1]⟩
def x5_frameOfF (c : CS) (nf : Nat) (f : Int32) (a : Int32) : Int32 := (match lnO nf f with
  | none => (-9)
  | some kf => (if a = 0 then c 20 kf 1 else if a = 1 then c 20 kf 2 else if a = 2 then c 20 kf 3 else if a = 3 then c 20 kf 4 else if a = 4 then c 20 kf 5 else (-9)))
theorem x5_frameOfF_0 {c : CS} {nf : Nat} {f : Int32} {a : Int32} (ef : lnO nf f = none) : x5_frameOfF c nf f a = (-9) := by
  unfold x5_frameOfF
  rw [ef]
theorem x5_frameOfF_1 {c : CS} {nf : Nat} {f : Int32} {a : Int32} {kf : Nat} (ef : lnO nf f = some kf) : x5_frameOfF c nf f a = (if a = 0 then c 20 kf 1 else if a = 1 then c 20 kf 2 else if a = 2 then c 20 kf 3 else if a = 3 then c 20 kf 4 else if a = 4 then c 20 kf 5 else (-9)) := by
  unfold x5_frameOfF
  rw [ef]
theorem x5_frameOf (X : Nat × (Nat → Int32)) {h : Hp} {nl nf np : Nat} (hw : WF h nl nf np) (c : CS) (f : Int32) (a : Int32)  (hnf : c 0 0 3 = nI nf) : wp X 70 0 [some (vR (some (0, 0))), some (vI f), some (vI a), none] [] (pX h c) (fun r h' => r = some (vI (x5_frameOfF c nf f a)) ∧ h' = pX h c) := by
  have h4 := hw.2.2.2.2.2.2.1
  have h5 := hw.2.2.2.2.2.2.2.1
  have h3 := hw.2.2.2.2.2.2.2.2
  cases ef : lnO nf f with
  | none =>
    refine w_pu rfl rfl ?_
    refine w_pu rfl rfl ?_
    refine w_cp (vR (lnR 20 (lnO nf f))) rfl rfl (by decide) (Nat.le_of_ble_eq_true rfl) rfl (Nat.le_of_ble_eq_true rfl) (Nat.le_of_ble_eq_true rfl) ⟨wl hw Nat.one_pos, rfl⟩ rfl (x5_frameAt X hw c hnf f) ?_
    refine w_topR none (by rw [ef]; rfl) ?_
    refine w_pu rfl rfl ?_
    refine w_pu rfl rfl ?_
    refine w_nnN rfl ?_
    refine w_cst (v := (-9)) rfl rfl rfl ?_
    refine w_rt rfl rfl trivial ?_
    exact ⟨by rw [x5_frameOfF_0 ef], rfl⟩
  | some kf =>
    obtain ⟨rfl, hkf⟩ := lnO_some ef
    refine w_pu rfl rfl ?_
    refine w_pu rfl rfl ?_
    refine w_cp (vR (lnR 20 (lnO nf (nI kf)))) rfl rfl (by decide) (Nat.le_of_ble_eq_true rfl) rfl (Nat.le_of_ble_eq_true rfl) (Nat.le_of_ble_eq_true rfl) ⟨wl hw Nat.one_pos, rfl⟩ rfl (x5_frameAt X hw c hnf (nI kf)) ?_
    refine w_topR (some (20, kf)) (by rw [ef]; rfl) ?_
    refine w_pu rfl rfl ?_
    refine w_pu rfl rfl ?_
    refine w_nn rfl ?_
    refine w_pu rfl rfl ?_
    by_cases q0 : a = 0
    · refine w_top 0 q0 ?_
      refine w_sw (t := 48) rfl rfl ?_
      refine w_pu rfl rfl ?_
      refine x_g hw rfl rfl rfl (by decide) hkf ?_
      refine w_rt rfl rfl trivial ?_
      exact ⟨by rw [x5_frameOfF_1 ef, if_pos q0], rfl⟩
    by_cases q1 : a = 1
    · refine w_top 1 q1 ?_
      refine w_sw (t := 53) rfl rfl ?_
      refine w_pu rfl rfl ?_
      refine x_g hw rfl rfl rfl (by decide) hkf ?_
      refine w_rt rfl rfl trivial ?_
      exact ⟨by rw [x5_frameOfF_1 ef, if_neg q0, if_pos q1], rfl⟩
    by_cases q2 : a = 2
    · refine w_top 2 q2 ?_
      refine w_sw (t := 58) rfl rfl ?_
      refine w_pu rfl rfl ?_
      refine x_g hw rfl rfl rfl (by decide) hkf ?_
      refine w_rt rfl rfl trivial ?_
      exact ⟨by rw [x5_frameOfF_1 ef, if_neg q0, if_neg q1, if_pos q2], rfl⟩
    by_cases q3 : a = 3
    · refine w_top 3 q3 ?_
      refine w_sw (t := 63) rfl rfl ?_
      refine w_pu rfl rfl ?_
      refine x_g hw rfl rfl rfl (by decide) hkf ?_
      refine w_rt rfl rfl trivial ?_
      exact ⟨by rw [x5_frameOfF_1 ef, if_neg q0, if_neg q1, if_neg q2, if_pos q3], rfl⟩
    by_cases q4 : a = 4
    · refine w_top 4 q4 ?_
      refine w_sw (t := 68) rfl rfl ?_
      refine w_pu rfl rfl ?_
      refine x_g hw rfl rfl rfl (by decide) hkf ?_
      refine w_rt rfl rfl trivial ?_
      exact ⟨by rw [x5_frameOfF_1 ef, if_neg q0, if_neg q1, if_neg q2, if_neg q3, if_pos q4], rfl⟩
    refine w_sw (t := 73) rfl (sw_out (by decide) rfl ?_) ?_
    · intro k k1
      match k, k1 with
      | 0, _ => exact q0
      | 1, _ => exact q1
      | 2, _ => exact q2
      | 3, _ => exact q3
      | 4, _ => exact q4
      | k + 5, k1 => exact absurd k1 (by omega)
    refine w_cst (v := (-9)) rfl rfl rfl ?_
    refine w_rt rfl rfl trivial ?_
    exact ⟨by rw [x5_frameOfF_1 ef, if_neg q0, if_neg q1, if_neg q2, if_neg q3, if_neg q4], rfl⟩
def x5_witnessOfF (c : CS) (np : Nat) (n : Int32) : Int32 := (match lnO np n with
  | none => (-9)
  | some kn => ((100 * (c 18 kn 6)) + (c 18 kn 7)))
theorem x5_witnessOfF_0 {c : CS} {np : Nat} {n : Int32} (en : lnO np n = none) : x5_witnessOfF c np n = (-9) := by
  unfold x5_witnessOfF
  rw [en]
theorem x5_witnessOfF_1 {c : CS} {np : Nat} {n : Int32} {kn : Nat} (en : lnO np n = some kn) : x5_witnessOfF c np n = ((100 * (c 18 kn 6)) + (c 18 kn 7)) := by
  unfold x5_witnessOfF
  rw [en]
theorem x5_witnessOf (X : Nat × (Nat → Int32)) {h : Hp} {nl nf np : Nat} (hw : WF h nl nf np) (c : CS) (n : Int32)  (hnp : c 0 0 8 = nI np) : wp X 75 0 [some (vR (some (0, 0))), some (vI n), none] [] (pX h c) (fun r h' => r = some (vI (x5_witnessOfF c np n)) ∧ h' = pX h c) := by
  have h4 := hw.2.2.2.2.2.2.1
  have h5 := hw.2.2.2.2.2.2.2.1
  have h3 := hw.2.2.2.2.2.2.2.2
  cases en : lnO np n with
  | none =>
    refine w_pu rfl rfl ?_
    refine w_pu rfl rfl ?_
    refine w_cp (vR (lnR 18 (lnO np n))) rfl rfl (by decide) (Nat.le_of_ble_eq_true rfl) rfl (Nat.le_of_ble_eq_true rfl) (Nat.le_of_ble_eq_true rfl) ⟨wl hw Nat.one_pos, rfl⟩ rfl (x5_pieceAt X hw c hnp n) ?_
    refine w_topR none (by rw [en]; rfl) ?_
    refine w_pu rfl rfl ?_
    refine w_pu rfl rfl ?_
    refine w_nnN rfl ?_
    refine w_cst (v := (-9)) rfl rfl rfl ?_
    refine w_go rfl ?_
    refine w_rt rfl rfl trivial ?_
    exact ⟨by rw [x5_witnessOfF_0 en], rfl⟩
  | some kn =>
    obtain ⟨rfl, hkn⟩ := lnO_some en
    refine w_pu rfl rfl ?_
    refine w_pu rfl rfl ?_
    refine w_cp (vR (lnR 18 (lnO np (nI kn)))) rfl rfl (by decide) (Nat.le_of_ble_eq_true rfl) rfl (Nat.le_of_ble_eq_true rfl) (Nat.le_of_ble_eq_true rfl) ⟨wl hw Nat.one_pos, rfl⟩ rfl (x5_pieceAt X hw c hnp (nI kn)) ?_
    refine w_topR (some (18, kn)) (by rw [en]; rfl) ?_
    refine w_pu rfl rfl ?_
    refine w_pu rfl rfl ?_
    refine w_nn rfl ?_
    refine w_cst (v := 100) rfl rfl rfl ?_
    refine w_pu rfl rfl ?_
    refine x_g hw rfl rfl rfl (by decide) hkn ?_
    refine w_pu rfl rfl ?_
    refine w_pu rfl rfl ?_
    refine x_g hw rfl rfl rfl (by decide) hkn ?_
    refine w_pu rfl rfl ?_
    refine w_rt rfl rfl trivial ?_
    exact ⟨by rw [x5_witnessOfF_1 en], rfl⟩
def x5_witnessF (c : CS) (nf : Nat) (np : Nat) (f : Int32) (k : Int32) : Int32 := (match lnO nf f with
  | none => (-9)
  | some kf => (if (c 0 0 4) ≤ (nI kf) then (-9) else (if k < 0 then (-9) else (if k < (c 20 kf 3) then (x5_witnessOfF c np ((c 20 kf 2) + k)) else (-9)))))
theorem x5_witnessF_0 {c : CS} {nf : Nat} {np : Nat} {f : Int32} {k : Int32} (ef : lnO nf f = none) : x5_witnessF c nf np f k = (-9) := by
  unfold x5_witnessF
  rw [ef]
theorem x5_witnessF_1 {c : CS} {nf : Nat} {np : Nat} {f : Int32} {k : Int32} {kf : Nat} (ef : lnO nf f = some kf) : x5_witnessF c nf np f k = (if (c 0 0 4) ≤ (nI kf) then (-9) else (if k < 0 then (-9) else (if k < (c 20 kf 3) then (x5_witnessOfF c np ((c 20 kf 2) + k)) else (-9)))) := by
  unfold x5_witnessF
  rw [ef]
theorem x5_witness (X : Nat × (Nat → Int32)) {h : Hp} {nl nf np : Nat} (hw : WF h nl nf np) (c : CS) (f : Int32) (k : Int32)  (hnf : c 0 0 3 = nI nf) (hnp : c 0 0 8 = nI np) : wp X 73 0 [some (vR (some (0, 0))), some (vI f), some (vI k), none] [] (pX h c) (fun r h' => r = some (vI (x5_witnessF c nf np f k)) ∧ h' = pX h c) := by
  have h4 := hw.2.2.2.2.2.2.1
  have h5 := hw.2.2.2.2.2.2.2.1
  have h3 := hw.2.2.2.2.2.2.2.2
  cases ef : lnO nf f with
  | none =>
    refine w_pu rfl rfl ?_
    refine w_pu rfl rfl ?_
    refine w_cp (vR (lnR 20 (lnO nf f))) rfl rfl (by decide) (Nat.le_of_ble_eq_true rfl) rfl (Nat.le_of_ble_eq_true rfl) (Nat.le_of_ble_eq_true rfl) ⟨wl hw Nat.one_pos, rfl⟩ rfl (x5_frameAt X hw c hnf f) ?_
    refine w_topR none (by rw [ef]; rfl) ?_
    refine w_pu rfl rfl ?_
    refine w_pu rfl rfl ?_
    refine w_nuN rfl ?_
    refine w_cst (v := (-9)) rfl rfl rfl ?_
    refine w_rt rfl rfl trivial ?_
    exact ⟨by rw [x5_witnessF_0 ef], rfl⟩
  | some kf =>
    obtain ⟨rfl, hkf⟩ := lnO_some ef
    refine w_pu rfl rfl ?_
    refine w_pu rfl rfl ?_
    refine w_cp (vR (lnR 20 (lnO nf (nI kf)))) rfl rfl (by decide) (Nat.le_of_ble_eq_true rfl) rfl (Nat.le_of_ble_eq_true rfl) (Nat.le_of_ble_eq_true rfl) ⟨wl hw Nat.one_pos, rfl⟩ rfl (x5_frameAt X hw c hnf (nI kf)) ?_
    refine w_topR (some (20, kf)) (by rw [ef]; rfl) ?_
    refine w_pu rfl rfl ?_
    refine w_pu rfl rfl ?_
    refine w_nu rfl ?_
    refine w_pu rfl rfl ?_
    refine w_pu rfl rfl ?_
    refine x_g hw rfl rfl rfl (by decide) Nat.one_pos ?_
    refine w_ge rfl (fun c0 => ?_) (fun c0 => ?_)
    · refine w_cst (v := (-9)) rfl rfl rfl ?_
      refine w_rt rfl rfl trivial ?_
      exact ⟨by rw [x5_witnessF_1 ef, if_pos c0], rfl⟩
    · refine w_pu rfl rfl ?_
      refine w_lt0 rfl (fun c1 => ?_) (fun c1 => ?_)
      · refine w_cst (v := (-9)) rfl rfl rfl ?_
        refine w_rt rfl rfl trivial ?_
        exact ⟨by rw [x5_witnessF_1 ef, if_neg c0, if_pos c1], rfl⟩
      · refine w_pu rfl rfl ?_
        refine w_pu rfl rfl ?_
        refine x_g hw rfl rfl rfl (by decide) hkf ?_
        refine w_lt rfl (fun c2 => ?_) (fun c2 => ?_)
        · refine w_pu rfl rfl ?_
          refine w_pu rfl rfl ?_
          refine x_g hw rfl rfl rfl (by decide) hkf ?_
          refine w_pu rfl rfl ?_
          refine w_pu rfl rfl ?_
          refine w_cp (vI (x5_witnessOfF c np ((c 20 kf 2) + k))) rfl rfl (by decide) (Nat.le_of_ble_eq_true rfl) rfl (Nat.le_of_ble_eq_true rfl) (Nat.le_of_ble_eq_true rfl) ⟨wl hw Nat.one_pos, rfl⟩ rfl (x5_witnessOf X hw c ((c 20 kf 2) + k)  hnp) ?_
          refine w_rt rfl rfl trivial ?_
          exact ⟨by rw [x5_witnessF_1 ef, if_neg c0, if_neg c1, if_pos c2], rfl⟩
        · refine w_cst (v := (-9)) rfl rfl rfl ?_
          refine w_rt rfl rfl trivial ?_
          exact ⟨by rw [x5_witnessF_1 ef, if_neg c0, if_neg c1, if_neg c2], rfl⟩
def x5_refusalsOfF (c : CS) (v : Int32) : Int32 := (if (-1) < v then (-9) else (if (-6) ≤ v then c 6 0 (nat (-v)) else (-9)))
theorem x5_refusalsOf (X : Nat × (Nat → Int32)) {h : Hp} {nl nf np : Nat} (hw : WF h nl nf np) (c : CS) (v : Int32)   : wp X 78 0 [some (vR (some (0, 0))), some (vI v)] [] (pX h c) (fun r h' => r = some (vI (x5_refusalsOfF c v)) ∧ h' = pX h c) := by
  have h4 := hw.2.2.2.2.2.2.1
  have h5 := hw.2.2.2.2.2.2.2.1
  have h3 := hw.2.2.2.2.2.2.2.2
  refine w_pu rfl rfl ?_
  refine w_cst (v := (-1)) rfl rfl rfl ?_
  refine w_gt rfl (fun c0 => ?_) (fun c0 => ?_)
  · refine w_cst (v := (-9)) rfl rfl rfl ?_
    refine w_rt rfl rfl trivial ?_
    exact ⟨by rw [x5_refusalsOfF, if_pos c0], rfl⟩
  · refine w_pu rfl rfl ?_
    refine w_cst (v := (-6)) rfl rfl rfl ?_
    refine w_ge rfl (fun c1 => ?_) (fun c1 => ?_)
    · obtain ⟨e1, e2⟩ := rfx c0 c1
      refine w_pu rfl rfl ?_
      refine x_gR 6 hw rfl rfl rfl rfl Nat.one_pos ?_
      refine w_pu rfl rfl ?_
      refine w_pu rfl rfl ?_
      refine x_ai (nat (-v)) 7 hw rfl rfl rfl (by decide) Nat.one_pos e1 (by show (nat (-v)) < 7; omega) ?_
      refine w_rt rfl rfl trivial ?_
      exact ⟨by rw [x5_refusalsOfF, if_neg c0, if_pos c1], rfl⟩
    · refine w_cst (v := (-9)) rfl rfl rfl ?_
      refine w_rt rfl rfl trivial ?_
      exact ⟨by rw [x5_refusalsOfF, if_neg c0, if_neg c1], rfl⟩
