/-! The class's other calls with loops. -/
def byC (w : Int64) (k : Nat) : Int32 := ((w.toUInt64 >>> ((8 * nI k).toInt64.toUInt64 &&& Int64.toUInt64 63)).toInt64.toInt32.toInt8.toInt32).toInt8.toInt32
def tyC (w : Int64) : Nat → CS → CS
  | 0, c => c
  | k + 1, c => tyC w k (uC (uC c 5 0 (nat (c 0 0 12)) (byC w k)) 0 0 12 (c 0 0 12 + 1))
def x5_typeF (c : CS) (w : Int64) (n : Int32) : Int32 × CS := if 1 ≤ n then (if n ≤ 8 then (if c 0 0 12 + n ≤ 4000 then (tyC w (nat n) c 0 0 12, tyC w (nat n) c) else (-6, refX c 6)) else (-6, refX c 6)) else (-4, refX c 4)
theorem x5_type (X : Nat × (Nat → Int32)) {h : Hp} {nl nf np : Nat} (hw : WF h nl nf np) (c : CS) (t : Nat) (ht : c 0 0 12 = nI t) (ht2 : t ≤ 4000) (w : Int64) (n : Int32) : wp X 37 0 [some (vR (some (0, 0))), some (vL w), none, some (vI n), none] [] (pX h c) (fun r h' => r = some (vI (x5_typeF c w n).1) ∧ h' = pX h (x5_typeF c w n).2) := by
  have loop : ∀ k t (a : CS), a 0 0 12 = nI t → t + k ≤ 4000 → wp X 37 42 [some (vR (some (0, 0))), some (vL w), none, some (vI n), some (vI (nI k - 1))] [] (pX h a) (fun r h' => r = some (vI (tyC w k a 0 0 12)) ∧ h' = pX h (tyC w k a)) := by
    intro k
    induction k with
    | zero =>
      intro t a e hk
      rw [tyC]
      refine w_pu rfl rfl ?_
      refine w_lt0 rfl (fun c0 => ?_) (fun c0 => ?_)
      · refine w_pu rfl rfl ?_
        refine x_g hw rfl rfl rfl (by decide) Nat.one_pos ?_
        refine w_rt rfl rfl trivial ?_
        exact ⟨rfl, rfl⟩
      · exact absurd (by decide) c0
    | succ k ih =>
      intro t a e hk
      have et : nat (a 0 0 12) = t := by rw [e, nat_nI (by omega)]
      rw [nI_pred, tyC, et]
      refine w_pu rfl rfl ?_
      refine w_lt0 rfl (fun c0 => ?_) (fun c0 => ?_)
      · exact absurd c0 (nI_pos (by omega))
      · refine w_pu rfl rfl ?_
        refine x_gR 5 hw rfl rfl rfl rfl Nat.one_pos ?_
        refine w_pu rfl rfl ?_
        refine x_g hw rfl rfl rfl (by decide) Nat.one_pos ?_
        refine w_pu rfl rfl ?_
        refine w_cst (v := 8) rfl rfl rfl ?_
        refine w_pu rfl rfl ?_
        refine w_pu rfl rfl ?_
        refine w_pu rfl rfl ?_
        refine w_pu rfl rfl ?_
        refine w_pu rfl rfl ?_
        refine x_sb t 4000 hw rfl rfl rfl (by decide) Nat.one_pos (by first | rfl | simp only [ix_lits, nI_mul, nI_add, e]) (by show t < 4000; omega) ?_
        refine w_pu rfl rfl ?_
        refine w_pu rfl rfl ?_
        refine x_g hw rfl rfl rfl (by decide) Nat.one_pos ?_
        refine w_top (a 0 0 12) (by rw [uC_t _ _ _ _ _ _ (by decide)]) ?_
        refine w_cst (v := 1) rfl rfl rfl ?_
        refine w_pu rfl rfl ?_
        refine x_p hw rfl rfl rfl (by decide) Nat.one_pos ?_
        refine w_dec rfl rfl rfl ?_
        refine w_go rfl ?_
        exact ih (t + 1) _ (by rw [uC_eq, e, nI_1]) (by omega)
  refine w_pu rfl rfl ?_
  refine w_cst (v := 1) rfl rfl rfl ?_
  refine w_ge rfl (fun c0 => ?_) (fun c0 => ?_)
  · refine w_pu rfl rfl ?_
    refine w_cst (v := 8) rfl rfl rfl ?_
    refine w_gt rfl (fun c1 => ?_) (fun c1 => ?_)
    · refine w_pu rfl rfl ?_
      refine w_cst (v := (-6)) rfl rfl rfl ?_
      refine w_cgE (vI (-6)) (pX h (refX c 6)) rfl rfl (by decide) (Nat.le_of_ble_eq_true rfl) rfl (Nat.le_of_ble_eq_true rfl) (Nat.le_of_ble_eq_true rfl) ⟨wl hw Nat.one_pos, rfl⟩ rfl (x5_refuse_6 X hw c) ?_
      refine w_rt rfl rfl trivial ?_
      exact ⟨by rw [x5_typeF, if_pos c0, if_neg (Int32.not_le.mpr c1)], by rw [x5_typeF, if_pos c0, if_neg (Int32.not_le.mpr c1)]⟩
    · refine w_pu rfl rfl ?_
      refine x_g hw rfl rfl rfl (by decide) Nat.one_pos ?_
      refine w_pu rfl rfl ?_
      refine w_pu rfl rfl ?_
      refine w_cst (v := 4000) rfl rfl rfl ?_
      refine w_le rfl (fun c2 => ?_) (fun c2 => ?_)
      · refine w_pu rfl rfl ?_
        refine w_cst (v := 1) rfl rfl rfl ?_
        refine w_pu rfl rfl ?_
        refine w_pu rfl rfl ?_
        obtain ⟨m, hm, rfl⟩ := i32_pos (Int32.le_trans (by decide) c0)
        have hm2 : m ≤ 8 := (nI_leI hm (by omega)).mp (Int32.not_lt.mp c1)
        have hm3 : t + m ≤ 4000 := by
          rw [ht, nI_add] at c2
          exact (nI_leI (by omega) (by omega)).mp c2
        rw [x5_typeF, if_pos c0, if_pos (Int32.not_lt.mp c1), if_pos c2, nat_nI hm]
        exact loop m t c ht hm3
      · refine w_pu rfl rfl ?_
        refine w_cst (v := (-6)) rfl rfl rfl ?_
        refine w_cgE (vI (-6)) (pX h (refX c 6)) rfl rfl (by decide) (Nat.le_of_ble_eq_true rfl) rfl (Nat.le_of_ble_eq_true rfl) (Nat.le_of_ble_eq_true rfl) ⟨wl hw Nat.one_pos, rfl⟩ rfl (x5_refuse_6 X hw c) ?_
        refine w_rt rfl rfl trivial ?_
        exact ⟨by rw [x5_typeF, if_pos c0, if_pos (Int32.not_lt.mp c1), if_neg c2], by rw [x5_typeF, if_pos c0, if_pos (Int32.not_lt.mp c1), if_neg c2]⟩
  · refine w_pu rfl rfl ?_
    refine w_cst (v := (-4)) rfl rfl rfl ?_
    refine w_cgE (vI (-4)) (pX h (refX c 4)) rfl rfl (by decide) (Nat.le_of_ble_eq_true rfl) rfl (Nat.le_of_ble_eq_true rfl) (Nat.le_of_ble_eq_true rfl) ⟨wl hw Nat.one_pos, rfl⟩ rfl (x5_refuse_4 X hw c) ?_
    refine w_rt rfl rfl trivial ?_
    exact ⟨by rw [x5_typeF, if_neg c0], by rw [x5_typeF, if_neg c0]⟩
def grC (t : Nat) : Nat → Nat → CS → CS
  | 0, _, c => c
  | d + 1, k, c => grC t d (k + 1) (uC c 5 0 k (c 5 0 (k - t)).toInt8.toInt32)
def x5_growF (c : CS) (n : Int32) : Int32 × CS := if c 0 0 12 = 0 then (-3, refX c 3) else if c 0 0 12 ≤ n then (if n ≤ 4000 then (c 0 0 12, uC (grC (nat (c 0 0 12)) (nat n - nat (c 0 0 12)) (nat (c 0 0 12)) c) 0 0 12 n) else (-6, refX c 6)) else (-4, refX c 4)
theorem x5_grow (X : Nat × (Nat → Int32)) {h : Hp} {nl nf np : Nat} (hw : WF h nl nf np) (c : CS) (t : Nat) (ht : c 0 0 12 = nI t) (ht2 : t ≤ 4000) (n : Int32) : wp X 38 0 [some (vR (some (0, 0))), some (vI n), none, none] [] (pX h c) (fun r h' => r = some (vI (x5_growF c n).1) ∧ h' = pX h (x5_growF c n).2) := by
  have loop : ∀ d k (a : CS), n = nI (k + d) → t ≤ k → k + d ≤ 4000 → wp X 38 45 [some (vR (some (0, 0))), some (vI n), some (vI (nI t)), some (vI (nI k))] [] (pX h a) (fun r h' => r = some (vI (nI t)) ∧ h' = pX h (uC (grC t d k a) 0 0 12 n)) := by
    intro d
    induction d with
    | zero =>
      intro k a hn hk hk2
      rw [grC]
      refine w_pu rfl rfl ?_
      refine w_pu rfl rfl ?_
      refine w_ge rfl (fun c0 => ?_) (fun c0 => ?_)
      · refine w_pu rfl rfl ?_
        refine w_pu rfl rfl ?_
        refine x_p hw rfl rfl rfl (by decide) Nat.one_pos ?_
        refine w_pu rfl rfl ?_
        refine w_rt rfl rfl trivial ?_
        exact ⟨rfl, rfl⟩
      · exact absurd (by rw [hn]; exact nI_le (by omega) (by omega)) c0
    | succ d ih =>
      intro k a hn hk hk2
      rw [grC]
      refine w_pu rfl rfl ?_
      refine w_pu rfl rfl ?_
      refine w_ge rfl (fun c0 => ?_) (fun c0 => ?_)
      · exact absurd (by rw [hn] at c0; exact c0) (nI_ge (by omega) (by omega))
      · refine w_pu rfl rfl ?_
        refine x_gR 5 hw rfl rfl rfl rfl Nat.one_pos ?_
        refine w_pu rfl rfl ?_
        refine w_pu rfl rfl ?_
        refine x_gR 5 hw rfl rfl rfl rfl Nat.one_pos ?_
        refine w_pu rfl rfl ?_
        refine w_pu rfl rfl ?_
        refine w_pu rfl rfl ?_
        refine x_ab (k - t) 4000 hw rfl rfl rfl (by decide) Nat.one_pos (nI_sub hk) (by show (k - t) < 4000; omega) ?_
        refine x_sb k 4000 hw rfl rfl rfl (by decide) Nat.one_pos (by first | rfl | simp only [ix_lits, nI_mul, nI_add]) (by show k < 4000; omega) ?_
        refine w_i1 rfl rfl rfl ?_
        refine w_go rfl ?_
        exact ih (k + 1) _ (by rw [hn]; congr 1; omega) (by omega) (by omega)
  refine w_pu rfl rfl ?_
  refine x_g hw rfl rfl rfl (by decide) Nat.one_pos ?_
  refine w_pu rfl rfl ?_
  refine w_pu rfl rfl ?_
  refine w_cst (v := 1) rfl rfl rfl ?_
  refine w_ge rfl (fun c0 => ?_) (fun c0 => ?_)
  · have d0 := one_T c0
    refine w_pu rfl rfl ?_
    refine w_pu rfl rfl ?_
    refine w_ge rfl (fun c1 => ?_) (fun c1 => ?_)
    · refine w_pu rfl rfl ?_
      refine w_cst (v := 4000) rfl rfl rfl ?_
      refine w_le rfl (fun c2 => ?_) (fun c2 => ?_)
      · refine w_pu rfl rfl ?_
        refine w_pu rfl rfl ?_
        rw [x5_growF, if_neg d0, if_pos c1, if_pos c2]
        rw [ht] at c1 ⊢
        obtain ⟨m, hm, rfl⟩ := i32_pos (Int32.le_trans (nI_pos' (by omega)) c1)
        have h1 := (nI_leI (by omega) hm).mp c1
        have h2 := (nI_leI (b := 4000) hm (by omega)).mp c2
        rw [nat_nI hm, nat_nI (by omega)]
        exact loop (m - t) t c (by congr 1; omega) (Nat.le_refl _) (by omega)
      · refine w_pu rfl rfl ?_
        refine w_cst (v := (-6)) rfl rfl rfl ?_
        refine w_cgE (vI (-6)) (pX h (refX c 6)) rfl rfl (by decide) (Nat.le_of_ble_eq_true rfl) rfl (Nat.le_of_ble_eq_true rfl) (Nat.le_of_ble_eq_true rfl) ⟨wl hw Nat.one_pos, rfl⟩ rfl (x5_refuse_6 X hw c) ?_
        refine w_rt rfl rfl trivial ?_
        exact ⟨by rw [x5_growF, if_neg d0, if_pos c1, if_neg c2], by rw [x5_growF, if_neg d0, if_pos c1, if_neg c2]⟩
    · refine w_pu rfl rfl ?_
      refine w_cst (v := (-4)) rfl rfl rfl ?_
      refine w_cgE (vI (-4)) (pX h (refX c 4)) rfl rfl (by decide) (Nat.le_of_ble_eq_true rfl) rfl (Nat.le_of_ble_eq_true rfl) (Nat.le_of_ble_eq_true rfl) ⟨wl hw Nat.one_pos, rfl⟩ rfl (x5_refuse_4 X hw c) ?_
      refine w_rt rfl rfl trivial ?_
      exact ⟨by rw [x5_growF, if_neg d0, if_neg c1], by rw [x5_growF, if_neg d0, if_neg c1]⟩
  · have d0 := one_F ht ht2 c0
    refine w_pu rfl rfl ?_
    refine w_cst (v := (-3)) rfl rfl rfl ?_
    refine w_cgE (vI (-3)) (pX h (refX c 3)) rfl rfl (by decide) (Nat.le_of_ble_eq_true rfl) rfl (Nat.le_of_ble_eq_true rfl) (Nat.le_of_ble_eq_true rfl) ⟨wl hw Nat.one_pos, rfl⟩ rfl (x5_refuse_3 X hw c) ?_
    refine w_rt rfl rfl trivial ?_
    exact ⟨by rw [x5_growF, if_pos d0], by rw [x5_growF, if_pos d0]⟩
def x5_loseF (c : CS) (nl : Nat) (l : Int32) : Int32 × CS := (match lnO nl l with
  | none => ((-1), refX c 1)
  | some kl => (if (c 7 kl 1) = 2 then (if 0 ≤ (fwC c kl 1 (dI 0 (c 13 kl 5)) 0) then (if (x4_numberOfF (x4_markF c kl (fwC c kl 1 (dI 0 (c 13 kl 5)) 0) 1) kl (fwC c kl 1 (dI 0 (c 13 kl 5)) 0)) = (-2) then ((-9), (x4_markF c kl (fwC c kl 1 (dI 0 (c 13 kl 5)) 0) 1)) else ((x4_numberOfF (x4_markF c kl (fwC c kl 1 (dI 0 (c 13 kl 5)) 0) 1) kl (fwC c kl 1 (dI 0 (c 13 kl 5)) 0)), (x4_markF c kl (fwC c kl 1 (dI 0 (c 13 kl 5)) 0) 1))) else ((-5), refX c 5)) else (if (c 7 kl 1) = 3 then (if 0 ≤ (fwC c kl 1 (dI 0 (c 13 kl 5)) 0) then (if (x4_numberOfF (x4_markF c kl (fwC c kl 1 (dI 0 (c 13 kl 5)) 0) 1) kl (fwC c kl 1 (dI 0 (c 13 kl 5)) 0)) = (-2) then ((-9), (x4_markF c kl (fwC c kl 1 (dI 0 (c 13 kl 5)) 0) 1)) else ((x4_numberOfF (x4_markF c kl (fwC c kl 1 (dI 0 (c 13 kl 5)) 0) 1) kl (fwC c kl 1 (dI 0 (c 13 kl 5)) 0)), (x4_markF c kl (fwC c kl 1 (dI 0 (c 13 kl 5)) 0) 1))) else ((-5), refX c 5)) else ((-2), refX c 2))))
theorem x5_loseF_0 {c : CS} {nl : Nat} {l : Int32} (el : lnO nl l = none) : x5_loseF c nl l = ((-1), refX c 1) := by
  unfold x5_loseF
  rw [el]
theorem x5_loseF_1 {c : CS} {nl : Nat} {l : Int32} {kl : Nat} (el : lnO nl l = some kl) : x5_loseF c nl l = (if (c 7 kl 1) = 2 then (if 0 ≤ (fwC c kl 1 (dI 0 (c 13 kl 5)) 0) then (if (x4_numberOfF (x4_markF c kl (fwC c kl 1 (dI 0 (c 13 kl 5)) 0) 1) kl (fwC c kl 1 (dI 0 (c 13 kl 5)) 0)) = (-2) then ((-9), (x4_markF c kl (fwC c kl 1 (dI 0 (c 13 kl 5)) 0) 1)) else ((x4_numberOfF (x4_markF c kl (fwC c kl 1 (dI 0 (c 13 kl 5)) 0) 1) kl (fwC c kl 1 (dI 0 (c 13 kl 5)) 0)), (x4_markF c kl (fwC c kl 1 (dI 0 (c 13 kl 5)) 0) 1))) else ((-5), refX c 5)) else (if (c 7 kl 1) = 3 then (if 0 ≤ (fwC c kl 1 (dI 0 (c 13 kl 5)) 0) then (if (x4_numberOfF (x4_markF c kl (fwC c kl 1 (dI 0 (c 13 kl 5)) 0) 1) kl (fwC c kl 1 (dI 0 (c 13 kl 5)) 0)) = (-2) then ((-9), (x4_markF c kl (fwC c kl 1 (dI 0 (c 13 kl 5)) 0) 1)) else ((x4_numberOfF (x4_markF c kl (fwC c kl 1 (dI 0 (c 13 kl 5)) 0) 1) kl (fwC c kl 1 (dI 0 (c 13 kl 5)) 0)), (x4_markF c kl (fwC c kl 1 (dI 0 (c 13 kl 5)) 0) 1))) else ((-5), refX c 5)) else ((-2), refX c 2))) := by
  unfold x5_loseF
  rw [el]
theorem x5_lose (X : Nat × (Nat → Int32)) {h : Hp} {nl nf np : Nat} (hw : WF h nl nf np) (c : CS) (l : Int32)  (hnl : c 0 0 1 = nI nl) : wp X 58 0 [some (vR (some (0, 0))), some (vI l), none, none, none] [] (pX h c) (fun r h' => r = some (vI (x5_loseF c nl l).1) ∧ h' = pX h (x5_loseF c nl l).2) := by
  have h4 := hw.2.2.2.2.2.2.1
  have h5 := hw.2.2.2.2.2.2.2.1
  have h3 := hw.2.2.2.2.2.2.2.2
  cases el : lnO nl l with
  | none =>
    refine w_pu rfl rfl ?_
    refine w_pu rfl rfl ?_
    refine w_cp (vR (lnR 7 (lnO nl l))) rfl rfl (by decide) (Nat.le_of_ble_eq_true rfl) rfl (Nat.le_of_ble_eq_true rfl) (Nat.le_of_ble_eq_true rfl) ⟨wl hw Nat.one_pos, rfl⟩ rfl (x5_lineAt X hw c hnl l) ?_
    refine w_topR none (by rw [el]; rfl) ?_
    refine w_pu rfl rfl ?_
    refine w_pu rfl rfl ?_
    refine w_nnN rfl ?_
    refine w_pu rfl rfl ?_
    refine w_cst (v := (-1)) rfl rfl rfl ?_
    refine w_cgE (vI (-1)) (pX h (refX c 1)) rfl rfl (by decide) (Nat.le_of_ble_eq_true rfl) rfl (Nat.le_of_ble_eq_true rfl) (Nat.le_of_ble_eq_true rfl) ⟨wl hw Nat.one_pos, rfl⟩ rfl (x5_refuse_1 X hw c) ?_
    refine w_rt rfl rfl trivial ?_
    exact ⟨by rw [x5_loseF_0 el], by rw [x5_loseF_0 el]⟩
  | some kl =>
    obtain ⟨rfl, hkl⟩ := lnO_some el
    refine w_pu rfl rfl ?_
    refine w_pu rfl rfl ?_
    refine w_cp (vR (lnR 7 (lnO nl (nI kl)))) rfl rfl (by decide) (Nat.le_of_ble_eq_true rfl) rfl (Nat.le_of_ble_eq_true rfl) (Nat.le_of_ble_eq_true rfl) ⟨wl hw Nat.one_pos, rfl⟩ rfl (x5_lineAt X hw c hnl (nI kl)) ?_
    refine w_topR (some (7, kl)) (by rw [el]; rfl) ?_
    refine w_pu rfl rfl ?_
    refine w_pu rfl rfl ?_
    refine w_nn rfl ?_
    refine w_pu rfl rfl ?_
    refine x_g hw rfl rfl rfl (by decide) hkl ?_
    refine w_cst (v := 2) rfl rfl rfl ?_
    refine w_eq rfl (fun c0 => ?_) (fun c0 => ?_)
    · refine w_pu rfl rfl ?_
      refine x_gR 13 hw rfl rfl rfl rfl hkl ?_
      refine w_cst (v := 1) rfl rfl rfl ?_
      refine w_cp (vI (fwC c kl 1 (dI 0 (c 13 kl 5)) 0)) rfl rfl (by decide) (Nat.le_of_ble_eq_true rfl) rfl (Nat.le_of_ble_eq_true rfl) (Nat.le_of_ble_eq_true rfl) ⟨wl hw hkl, rfl⟩ rfl (x4_firstWithout X hw c kl 1 hkl) ?_
      refine w_pu rfl rfl ?_
      refine w_pu rfl rfl ?_
      refine w_ge0 rfl (fun c1 => ?_) (fun c1 => ?_)
      · refine w_pu rfl rfl ?_
        refine x_gR 13 hw rfl rfl rfl rfl hkl ?_
        refine w_pu rfl rfl ?_
        refine w_cst (v := 1) rfl rfl rfl ?_
        refine w_cvE (pX h (x4_markF c kl (fwC c kl 1 (dI 0 (c 13 kl 5)) 0) 1)) rfl rfl (by decide) (Nat.le_of_ble_eq_true rfl) rfl (Nat.le_of_ble_eq_true rfl) (Nat.le_of_ble_eq_true rfl) ⟨wl hw hkl, rfl⟩ rfl (x4_mark X hw c kl (fwC c kl 1 (dI 0 (c 13 kl 5)) 0) 1 hkl ) ?_
        refine w_pu rfl rfl ?_
        refine x_gR 13 hw rfl rfl rfl rfl hkl ?_
        refine w_pu rfl rfl ?_
        refine w_cp (vI (x4_numberOfF (x4_markF c kl (fwC c kl 1 (dI 0 (c 13 kl 5)) 0) 1) kl (fwC c kl 1 (dI 0 (c 13 kl 5)) 0))) rfl rfl (by decide) (Nat.le_of_ble_eq_true rfl) rfl (Nat.le_of_ble_eq_true rfl) (Nat.le_of_ble_eq_true rfl) ⟨wl hw hkl, rfl⟩ rfl (x4_numberOf X hw (x4_markF c kl (fwC c kl 1 (dI 0 (c 13 kl 5)) 0) 1) kl (fwC c kl 1 (dI 0 (c 13 kl 5)) 0) hkl ) ?_
        refine w_pu rfl rfl ?_
        refine w_pu rfl rfl ?_
        refine w_cst (v := (-2)) rfl rfl rfl ?_
        refine w_ne rfl (fun c2 => ?_) (fun c2 => ?_)
        · refine w_pu rfl rfl ?_
          refine w_rt rfl rfl trivial ?_
          exact ⟨by rw [x5_loseF_1 el, if_pos c0, if_pos c1, if_neg c2], by rw [x5_loseF_1 el, if_pos c0, if_pos c1, if_neg c2]⟩
        · refine w_cst (v := (-9)) rfl rfl rfl ?_
          refine w_go rfl ?_
          refine w_rt rfl rfl trivial ?_
          exact ⟨by rw [x5_loseF_1 el, if_pos c0, if_pos c1, if_pos c2], by rw [x5_loseF_1 el, if_pos c0, if_pos c1, if_pos c2]⟩
      · refine w_pu rfl rfl ?_
        refine w_cst (v := (-5)) rfl rfl rfl ?_
        refine w_cgE (vI (-5)) (pX h (refX c 5)) rfl rfl (by decide) (Nat.le_of_ble_eq_true rfl) rfl (Nat.le_of_ble_eq_true rfl) (Nat.le_of_ble_eq_true rfl) ⟨wl hw Nat.one_pos, rfl⟩ rfl (x5_refuse_5 X hw c) ?_
        refine w_rt rfl rfl trivial ?_
        exact ⟨by rw [x5_loseF_1 el, if_pos c0, if_neg c1], by rw [x5_loseF_1 el, if_pos c0, if_neg c1]⟩
    · refine w_pu rfl rfl ?_
      refine x_g hw rfl rfl rfl (by decide) hkl ?_
      refine w_cst (v := 3) rfl rfl rfl ?_
      refine w_eq rfl (fun c3 => ?_) (fun c3 => ?_)
      · refine w_pu rfl rfl ?_
        refine x_gR 13 hw rfl rfl rfl rfl hkl ?_
        refine w_cst (v := 1) rfl rfl rfl ?_
        refine w_cp (vI (fwC c kl 1 (dI 0 (c 13 kl 5)) 0)) rfl rfl (by decide) (Nat.le_of_ble_eq_true rfl) rfl (Nat.le_of_ble_eq_true rfl) (Nat.le_of_ble_eq_true rfl) ⟨wl hw hkl, rfl⟩ rfl (x4_firstWithout X hw c kl 1 hkl) ?_
        refine w_pu rfl rfl ?_
        refine w_pu rfl rfl ?_
        refine w_ge0 rfl (fun c4 => ?_) (fun c4 => ?_)
        · refine w_pu rfl rfl ?_
          refine x_gR 13 hw rfl rfl rfl rfl hkl ?_
          refine w_pu rfl rfl ?_
          refine w_cst (v := 1) rfl rfl rfl ?_
          refine w_cvE (pX h (x4_markF c kl (fwC c kl 1 (dI 0 (c 13 kl 5)) 0) 1)) rfl rfl (by decide) (Nat.le_of_ble_eq_true rfl) rfl (Nat.le_of_ble_eq_true rfl) (Nat.le_of_ble_eq_true rfl) ⟨wl hw hkl, rfl⟩ rfl (x4_mark X hw c kl (fwC c kl 1 (dI 0 (c 13 kl 5)) 0) 1 hkl ) ?_
          refine w_pu rfl rfl ?_
          refine x_gR 13 hw rfl rfl rfl rfl hkl ?_
          refine w_pu rfl rfl ?_
          refine w_cp (vI (x4_numberOfF (x4_markF c kl (fwC c kl 1 (dI 0 (c 13 kl 5)) 0) 1) kl (fwC c kl 1 (dI 0 (c 13 kl 5)) 0))) rfl rfl (by decide) (Nat.le_of_ble_eq_true rfl) rfl (Nat.le_of_ble_eq_true rfl) (Nat.le_of_ble_eq_true rfl) ⟨wl hw hkl, rfl⟩ rfl (x4_numberOf X hw (x4_markF c kl (fwC c kl 1 (dI 0 (c 13 kl 5)) 0) 1) kl (fwC c kl 1 (dI 0 (c 13 kl 5)) 0) hkl ) ?_
          refine w_pu rfl rfl ?_
          refine w_pu rfl rfl ?_
          refine w_cst (v := (-2)) rfl rfl rfl ?_
          refine w_ne rfl (fun c5 => ?_) (fun c5 => ?_)
          · refine w_pu rfl rfl ?_
            refine w_rt rfl rfl trivial ?_
            exact ⟨by rw [x5_loseF_1 el, if_neg c0, if_pos c3, if_pos c4, if_neg c5], by rw [x5_loseF_1 el, if_neg c0, if_pos c3, if_pos c4, if_neg c5]⟩
          · refine w_cst (v := (-9)) rfl rfl rfl ?_
            refine w_go rfl ?_
            refine w_rt rfl rfl trivial ?_
            exact ⟨by rw [x5_loseF_1 el, if_neg c0, if_pos c3, if_pos c4, if_pos c5], by rw [x5_loseF_1 el, if_neg c0, if_pos c3, if_pos c4, if_pos c5]⟩
        · refine w_pu rfl rfl ?_
          refine w_cst (v := (-5)) rfl rfl rfl ?_
          refine w_cgE (vI (-5)) (pX h (refX c 5)) rfl rfl (by decide) (Nat.le_of_ble_eq_true rfl) rfl (Nat.le_of_ble_eq_true rfl) (Nat.le_of_ble_eq_true rfl) ⟨wl hw Nat.one_pos, rfl⟩ rfl (x5_refuse_5 X hw c) ?_
          refine w_rt rfl rfl trivial ?_
          exact ⟨by rw [x5_loseF_1 el, if_neg c0, if_pos c3, if_neg c4], by rw [x5_loseF_1 el, if_neg c0, if_pos c3, if_neg c4]⟩
      · refine w_pu rfl rfl ?_
        refine w_cst (v := (-2)) rfl rfl rfl ?_
        refine w_cgE (vI (-2)) (pX h (refX c 2)) rfl rfl (by decide) (Nat.le_of_ble_eq_true rfl) rfl (Nat.le_of_ble_eq_true rfl) (Nat.le_of_ble_eq_true rfl) ⟨wl hw Nat.one_pos, rfl⟩ rfl (x5_refuse_2 X hw c) ?_
        refine w_rt rfl rfl trivial ?_
        exact ⟨by rw [x5_loseF_1 el, if_neg c0, if_neg c3], by rw [x5_loseF_1 el, if_neg c0, if_neg c3]⟩
def x5_bendF (c : CS) (nl : Nat) (np : Nat) (l : Int32) (i : Int32) (m : Int32) : Int32 × CS := (match lnO nl l with
  | none => ((-1), refX c 1)
  | some kl => (match lnO np (x4_numberOfF c kl (fwC c kl 3 (dI 0 (c 13 kl 5)) 0)) with
  | none => (if 1 ≤ m then (if m ≤ 255 then (if 0 ≤ (fwC c kl 3 (dI 0 (c 13 kl 5)) 0) then ((-2), refX c 2) else ((-5), refX c 5)) else ((-6), refX c 6)) else ((-4), refX c 4))
  | some kn => (if 1 ≤ m then (if m ≤ 255 then (if 0 ≤ (fwC c kl 3 (dI 0 (c 13 kl 5)) 0) then (if i < 0 then ((-3), refX c 3) else (if i < (c 18 kn 1) then ((x4_numberOfF c kl (fwC c kl 3 (dI 0 (c 13 kl 5)) 0)), (x4_markF c kl (fwC c kl 3 (dI 0 (c 13 kl 5)) 0) 2)) else ((-3), refX c 3))) else ((-5), refX c 5)) else ((-6), refX c 6)) else ((-4), refX c 4))))
theorem x5_bendF_0 {c : CS} {nl : Nat} {np : Nat} {l : Int32} {i : Int32} {m : Int32} (el : lnO nl l = none) : x5_bendF c nl np l i m = ((-1), refX c 1) := by
  unfold x5_bendF
  rw [el]
theorem x5_bendF_1 {c : CS} {nl : Nat} {np : Nat} {l : Int32} {i : Int32} {m : Int32} {kl : Nat} (el : lnO nl l = some kl) (en : lnO np (x4_numberOfF c kl (fwC c kl 3 (dI 0 (c 13 kl 5)) 0)) = none) : x5_bendF c nl np l i m = (if 1 ≤ m then (if m ≤ 255 then (if 0 ≤ (fwC c kl 3 (dI 0 (c 13 kl 5)) 0) then ((-2), refX c 2) else ((-5), refX c 5)) else ((-6), refX c 6)) else ((-4), refX c 4)) := by
  unfold x5_bendF
  rw [el]; dsimp only; rw [en]
theorem x5_bendF_2 {c : CS} {nl : Nat} {np : Nat} {l : Int32} {i : Int32} {m : Int32} {kl : Nat} {kn : Nat} (el : lnO nl l = some kl) (en : lnO np (x4_numberOfF c kl (fwC c kl 3 (dI 0 (c 13 kl 5)) 0)) = some kn) : x5_bendF c nl np l i m = (if 1 ≤ m then (if m ≤ 255 then (if 0 ≤ (fwC c kl 3 (dI 0 (c 13 kl 5)) 0) then (if i < 0 then ((-3), refX c 3) else (if i < (c 18 kn 1) then ((x4_numberOfF c kl (fwC c kl 3 (dI 0 (c 13 kl 5)) 0)), (x4_markF c kl (fwC c kl 3 (dI 0 (c 13 kl 5)) 0) 2)) else ((-3), refX c 3))) else ((-5), refX c 5)) else ((-6), refX c 6)) else ((-4), refX c 4)) := by
  unfold x5_bendF
  rw [el]; dsimp only; rw [en]
theorem x5_bend (X : Nat × (Nat → Int32)) {h : Hp} {nl nf np : Nat} (hw : WF h nl nf np) (c : CS) (l : Int32) (i : Int32) (m : Int32)  (hnl : c 0 0 1 = nI nl) (hnp : c 0 0 8 = nI np) : wp X 59 0 [some (vR (some (0, 0))), some (vI l), some (vI i), some (vI m), none, none, none, none] [] (pX h c) (fun r h' => r = some (vI (x5_bendF c nl np l i m).1) ∧ h' = pX h (x5_bendF c nl np l i m).2) := by
  have h4 := hw.2.2.2.2.2.2.1
  have h5 := hw.2.2.2.2.2.2.2.1
  have h3 := hw.2.2.2.2.2.2.2.2
  cases el : lnO nl l with
  | none =>
    refine w_pu rfl rfl ?_
    refine w_pu rfl rfl ?_
    refine w_cp (vR (lnR 7 (lnO nl l))) rfl rfl (by decide) (Nat.le_of_ble_eq_true rfl) rfl (Nat.le_of_ble_eq_true rfl) (Nat.le_of_ble_eq_true rfl) ⟨wl hw Nat.one_pos, rfl⟩ rfl (x5_lineAt X hw c hnl l) ?_
    refine w_topR none (by rw [el]; rfl) ?_
    refine w_pu rfl rfl ?_
    refine w_pu rfl rfl ?_
    refine w_nnN rfl ?_
    refine w_pu rfl rfl ?_
    refine w_cst (v := (-1)) rfl rfl rfl ?_
    refine w_cgE (vI (-1)) (pX h (refX c 1)) rfl rfl (by decide) (Nat.le_of_ble_eq_true rfl) rfl (Nat.le_of_ble_eq_true rfl) (Nat.le_of_ble_eq_true rfl) ⟨wl hw Nat.one_pos, rfl⟩ rfl (x5_refuse_1 X hw c) ?_
    refine w_rt rfl rfl trivial ?_
    exact ⟨by rw [x5_bendF_0 el], by rw [x5_bendF_0 el]⟩
  | some kl =>
    obtain ⟨rfl, hkl⟩ := lnO_some el
    cases en : lnO np (x4_numberOfF c kl (fwC c kl 3 (dI 0 (c 13 kl 5)) 0)) with
    | none =>
      refine w_pu rfl rfl ?_
      refine w_pu rfl rfl ?_
      refine w_cp (vR (lnR 7 (lnO nl (nI kl)))) rfl rfl (by decide) (Nat.le_of_ble_eq_true rfl) rfl (Nat.le_of_ble_eq_true rfl) (Nat.le_of_ble_eq_true rfl) ⟨wl hw Nat.one_pos, rfl⟩ rfl (x5_lineAt X hw c hnl (nI kl)) ?_
      refine w_topR (some (7, kl)) (by rw [el]; rfl) ?_
      refine w_pu rfl rfl ?_
      refine w_pu rfl rfl ?_
      refine w_nn rfl ?_
      refine w_pu rfl rfl ?_
      refine w_cst (v := 1) rfl rfl rfl ?_
      refine w_ge rfl (fun c0 => ?_) (fun c0 => ?_)
      · refine w_pu rfl rfl ?_
        refine w_cst (v := 255) rfl rfl rfl ?_
        refine w_le rfl (fun c1 => ?_) (fun c1 => ?_)
        · refine w_pu rfl rfl ?_
          refine x_gR 13 hw rfl rfl rfl rfl hkl ?_
          refine w_cst (v := 3) rfl rfl rfl ?_
          refine w_cp (vI (fwC c kl 3 (dI 0 (c 13 kl 5)) 0)) rfl rfl (by decide) (Nat.le_of_ble_eq_true rfl) rfl (Nat.le_of_ble_eq_true rfl) (Nat.le_of_ble_eq_true rfl) ⟨wl hw hkl, rfl⟩ rfl (x4_firstWithout X hw c kl 3 hkl) ?_
          refine w_pu rfl rfl ?_
          refine w_pu rfl rfl ?_
          refine w_ge0 rfl (fun c2 => ?_) (fun c2 => ?_)
          · refine w_pu rfl rfl ?_
            refine x_gR 13 hw rfl rfl rfl rfl hkl ?_
            refine w_pu rfl rfl ?_
            refine w_cp (vI (x4_numberOfF c kl (fwC c kl 3 (dI 0 (c 13 kl 5)) 0))) rfl rfl (by decide) (Nat.le_of_ble_eq_true rfl) rfl (Nat.le_of_ble_eq_true rfl) (Nat.le_of_ble_eq_true rfl) ⟨wl hw hkl, rfl⟩ rfl (x4_numberOf X hw c kl (fwC c kl 3 (dI 0 (c 13 kl 5)) 0) hkl ) ?_
            refine w_pu rfl rfl ?_
            refine w_pu rfl rfl ?_
            refine w_pu rfl rfl ?_
            refine w_cp (vR (lnR 18 (lnO np (x4_numberOfF c kl (fwC c kl 3 (dI 0 (c 13 kl 5)) 0))))) rfl rfl (by decide) (Nat.le_of_ble_eq_true rfl) rfl (Nat.le_of_ble_eq_true rfl) (Nat.le_of_ble_eq_true rfl) ⟨wl hw Nat.one_pos, rfl⟩ rfl (x5_pieceAt X hw c hnp (x4_numberOfF c kl (fwC c kl 3 (dI 0 (c 13 kl 5)) 0))) ?_
            refine w_topR none (by rw [en]; rfl) ?_
            refine w_pu rfl rfl ?_
            refine w_pu rfl rfl ?_
            refine w_nnN rfl ?_
            refine w_pu rfl rfl ?_
            refine w_cst (v := (-2)) rfl rfl rfl ?_
            refine w_cgE (vI (-2)) (pX h (refX c 2)) rfl rfl (by decide) (Nat.le_of_ble_eq_true rfl) rfl (Nat.le_of_ble_eq_true rfl) (Nat.le_of_ble_eq_true rfl) ⟨wl hw Nat.one_pos, rfl⟩ rfl (x5_refuse_2 X hw c) ?_
            refine w_rt rfl rfl trivial ?_
            exact ⟨by rw [x5_bendF_1 el en, if_pos c0, if_pos c1, if_pos c2], by rw [x5_bendF_1 el en, if_pos c0, if_pos c1, if_pos c2]⟩
          · refine w_pu rfl rfl ?_
            refine w_cst (v := (-5)) rfl rfl rfl ?_
            refine w_cgE (vI (-5)) (pX h (refX c 5)) rfl rfl (by decide) (Nat.le_of_ble_eq_true rfl) rfl (Nat.le_of_ble_eq_true rfl) (Nat.le_of_ble_eq_true rfl) ⟨wl hw Nat.one_pos, rfl⟩ rfl (x5_refuse_5 X hw c) ?_
            refine w_rt rfl rfl trivial ?_
            exact ⟨by rw [x5_bendF_1 el en, if_pos c0, if_pos c1, if_neg c2], by rw [x5_bendF_1 el en, if_pos c0, if_pos c1, if_neg c2]⟩
        · refine w_pu rfl rfl ?_
          refine w_cst (v := (-6)) rfl rfl rfl ?_
          refine w_cgE (vI (-6)) (pX h (refX c 6)) rfl rfl (by decide) (Nat.le_of_ble_eq_true rfl) rfl (Nat.le_of_ble_eq_true rfl) (Nat.le_of_ble_eq_true rfl) ⟨wl hw Nat.one_pos, rfl⟩ rfl (x5_refuse_6 X hw c) ?_
          refine w_rt rfl rfl trivial ?_
          exact ⟨by rw [x5_bendF_1 el en, if_pos c0, if_neg c1], by rw [x5_bendF_1 el en, if_pos c0, if_neg c1]⟩
      · refine w_pu rfl rfl ?_
        refine w_cst (v := (-4)) rfl rfl rfl ?_
        refine w_cgE (vI (-4)) (pX h (refX c 4)) rfl rfl (by decide) (Nat.le_of_ble_eq_true rfl) rfl (Nat.le_of_ble_eq_true rfl) (Nat.le_of_ble_eq_true rfl) ⟨wl hw Nat.one_pos, rfl⟩ rfl (x5_refuse_4 X hw c) ?_
        refine w_rt rfl rfl trivial ?_
        exact ⟨by rw [x5_bendF_1 el en, if_neg c0], by rw [x5_bendF_1 el en, if_neg c0]⟩
    | some kn =>
      obtain ⟨vn, hkn⟩ := lnO_some en
      refine w_pu rfl rfl ?_
      refine w_pu rfl rfl ?_
      refine w_cp (vR (lnR 7 (lnO nl (nI kl)))) rfl rfl (by decide) (Nat.le_of_ble_eq_true rfl) rfl (Nat.le_of_ble_eq_true rfl) (Nat.le_of_ble_eq_true rfl) ⟨wl hw Nat.one_pos, rfl⟩ rfl (x5_lineAt X hw c hnl (nI kl)) ?_
      refine w_topR (some (7, kl)) (by rw [el]; rfl) ?_
      refine w_pu rfl rfl ?_
      refine w_pu rfl rfl ?_
      refine w_nn rfl ?_
      refine w_pu rfl rfl ?_
      refine w_cst (v := 1) rfl rfl rfl ?_
      refine w_ge rfl (fun c0 => ?_) (fun c0 => ?_)
      · refine w_pu rfl rfl ?_
        refine w_cst (v := 255) rfl rfl rfl ?_
        refine w_le rfl (fun c1 => ?_) (fun c1 => ?_)
        · refine w_pu rfl rfl ?_
          refine x_gR 13 hw rfl rfl rfl rfl hkl ?_
          refine w_cst (v := 3) rfl rfl rfl ?_
          refine w_cp (vI (fwC c kl 3 (dI 0 (c 13 kl 5)) 0)) rfl rfl (by decide) (Nat.le_of_ble_eq_true rfl) rfl (Nat.le_of_ble_eq_true rfl) (Nat.le_of_ble_eq_true rfl) ⟨wl hw hkl, rfl⟩ rfl (x4_firstWithout X hw c kl 3 hkl) ?_
          refine w_pu rfl rfl ?_
          refine w_pu rfl rfl ?_
          refine w_ge0 rfl (fun c2 => ?_) (fun c2 => ?_)
          · refine w_pu rfl rfl ?_
            refine x_gR 13 hw rfl rfl rfl rfl hkl ?_
            refine w_pu rfl rfl ?_
            refine w_cp (vI (x4_numberOfF c kl (fwC c kl 3 (dI 0 (c 13 kl 5)) 0))) rfl rfl (by decide) (Nat.le_of_ble_eq_true rfl) rfl (Nat.le_of_ble_eq_true rfl) (Nat.le_of_ble_eq_true rfl) ⟨wl hw hkl, rfl⟩ rfl (x4_numberOf X hw c kl (fwC c kl 3 (dI 0 (c 13 kl 5)) 0) hkl ) ?_
            refine w_pu rfl rfl ?_
            refine w_pu rfl rfl ?_
            refine w_pu rfl rfl ?_
            refine w_cp (vR (lnR 18 (lnO np (x4_numberOfF c kl (fwC c kl 3 (dI 0 (c 13 kl 5)) 0))))) rfl rfl (by decide) (Nat.le_of_ble_eq_true rfl) rfl (Nat.le_of_ble_eq_true rfl) (Nat.le_of_ble_eq_true rfl) ⟨wl hw Nat.one_pos, rfl⟩ rfl (x5_pieceAt X hw c hnp (x4_numberOfF c kl (fwC c kl 3 (dI 0 (c 13 kl 5)) 0))) ?_
            refine w_topR (some (18, kn)) (by rw [en]; rfl) ?_
            refine w_pu rfl rfl ?_
            refine w_pu rfl rfl ?_
            refine w_nn rfl ?_
            refine w_pu rfl rfl ?_
            refine w_lt0 rfl (fun c3 => ?_) (fun c3 => ?_)
            · refine w_pu rfl rfl ?_
              refine w_cst (v := (-3)) rfl rfl rfl ?_
              refine w_cgE (vI (-3)) (pX h (refX c 3)) rfl rfl (by decide) (Nat.le_of_ble_eq_true rfl) rfl (Nat.le_of_ble_eq_true rfl) (Nat.le_of_ble_eq_true rfl) ⟨wl hw Nat.one_pos, rfl⟩ rfl (x5_refuse_3 X hw c) ?_
              refine w_rt rfl rfl trivial ?_
              exact ⟨by rw [x5_bendF_2 el en, if_pos c0, if_pos c1, if_pos c2, if_pos c3], by rw [x5_bendF_2 el en, if_pos c0, if_pos c1, if_pos c2, if_pos c3]⟩
            · refine w_pu rfl rfl ?_
              refine w_pu rfl rfl ?_
              refine x_g hw rfl rfl rfl (by decide) hkn ?_
              refine w_lt rfl (fun c4 => ?_) (fun c4 => ?_)
              · refine w_pu rfl rfl ?_
                refine x_gR 13 hw rfl rfl rfl rfl hkl ?_
                refine w_pu rfl rfl ?_
                refine w_cst (v := 2) rfl rfl rfl ?_
                refine w_cvE (pX h (x4_markF c kl (fwC c kl 3 (dI 0 (c 13 kl 5)) 0) 2)) rfl rfl (by decide) (Nat.le_of_ble_eq_true rfl) rfl (Nat.le_of_ble_eq_true rfl) (Nat.le_of_ble_eq_true rfl) ⟨wl hw hkl, rfl⟩ rfl (x4_mark X hw c kl (fwC c kl 3 (dI 0 (c 13 kl 5)) 0) 2 hkl ) ?_
                refine w_pu rfl rfl ?_
                refine w_rt rfl rfl trivial ?_
                exact ⟨by rw [x5_bendF_2 el en, if_pos c0, if_pos c1, if_pos c2, if_neg c3, if_pos c4], by rw [x5_bendF_2 el en, if_pos c0, if_pos c1, if_pos c2, if_neg c3, if_pos c4]⟩
              · refine w_pu rfl rfl ?_
                refine w_cst (v := (-3)) rfl rfl rfl ?_
                refine w_cgE (vI (-3)) (pX h (refX c 3)) rfl rfl (by decide) (Nat.le_of_ble_eq_true rfl) rfl (Nat.le_of_ble_eq_true rfl) (Nat.le_of_ble_eq_true rfl) ⟨wl hw Nat.one_pos, rfl⟩ rfl (x5_refuse_3 X hw c) ?_
                refine w_rt rfl rfl trivial ?_
                exact ⟨by rw [x5_bendF_2 el en, if_pos c0, if_pos c1, if_pos c2, if_neg c3, if_neg c4], by rw [x5_bendF_2 el en, if_pos c0, if_pos c1, if_pos c2, if_neg c3, if_neg c4]⟩
          · refine w_pu rfl rfl ?_
            refine w_cst (v := (-5)) rfl rfl rfl ?_
            refine w_cgE (vI (-5)) (pX h (refX c 5)) rfl rfl (by decide) (Nat.le_of_ble_eq_true rfl) rfl (Nat.le_of_ble_eq_true rfl) (Nat.le_of_ble_eq_true rfl) ⟨wl hw Nat.one_pos, rfl⟩ rfl (x5_refuse_5 X hw c) ?_
            refine w_rt rfl rfl trivial ?_
            exact ⟨by rw [x5_bendF_2 el en, if_pos c0, if_pos c1, if_neg c2], by rw [x5_bendF_2 el en, if_pos c0, if_pos c1, if_neg c2]⟩
        · refine w_pu rfl rfl ?_
          refine w_cst (v := (-6)) rfl rfl rfl ?_
          refine w_cgE (vI (-6)) (pX h (refX c 6)) rfl rfl (by decide) (Nat.le_of_ble_eq_true rfl) rfl (Nat.le_of_ble_eq_true rfl) (Nat.le_of_ble_eq_true rfl) ⟨wl hw Nat.one_pos, rfl⟩ rfl (x5_refuse_6 X hw c) ?_
          refine w_rt rfl rfl trivial ?_
          exact ⟨by rw [x5_bendF_2 el en, if_pos c0, if_neg c1], by rw [x5_bendF_2 el en, if_pos c0, if_neg c1]⟩
      · refine w_pu rfl rfl ?_
        refine w_cst (v := (-4)) rfl rfl rfl ?_
        refine w_cgE (vI (-4)) (pX h (refX c 4)) rfl rfl (by decide) (Nat.le_of_ble_eq_true rfl) rfl (Nat.le_of_ble_eq_true rfl) (Nat.le_of_ble_eq_true rfl) ⟨wl hw Nat.one_pos, rfl⟩ rfl (x5_refuse_4 X hw c) ?_
        refine w_rt rfl rfl trivial ?_
        exact ⟨by rw [x5_bendF_2 el en, if_neg c0], by rw [x5_bendF_2 el en, if_neg c0]⟩
theorem x5_loseOn_t (c : CS) (np l : Nat) (n : Int32) {t : Nat} (i k : Nat) (h : ¬ t = 4 ∧ ¬ t = 18 ∧ ¬ t = 19 ∧ ¬ t = 7) : x5_loseOnF c np l n t i k = c t i k := by
  have e : ∀ p z, x5_becomeF c p z t i k = c t i k := by
    intro p z
    unfold x5_becomeF
    rw [uC_t _ _ _ _ _ _ h.2.1, uC_t _ _ _ _ _ _ h.1, uC_t _ _ _ _ _ _ h.1]
  unfold x5_loseOnF
  cases en : lnO np n with
  | none => rfl
  | some kn =>
    dsimp only
    by_cases q1 : c 18 kn 5 = 1
    · rw [if_pos q1]
      by_cases q2 : c 18 kn 7 = c 7 l 0
      · rw [if_pos q2, uC_t _ _ _ _ _ _ h.2.2.2]
        unfold x2_addLossOnF
        by_cases q3 : x5_becomeF c kn 2 7 l 0 < 0
        · rw [if_pos q3]
          exact e _ _
        · rw [if_neg q3]
          split
          · exact e _ _
          · rw [uC_t _ _ _ _ _ _ h.2.2.1]
            exact e _ _
      · rw [if_neg q2]
    · rw [if_neg q1]
def qlC (np l : Nat) : Nat → Int32 → CS → CS
  | 0, _, c => c
  | d + 1, v, c => qlC np l d (v + 1) (x5_loseOnF c np l (x3_numberOfF c l v))
theorem qlC_K {nl nf np l : Nat} : ∀ d v (c : CS), KC nl nf np c → KC nl nf np (qlC np l d v c)
  | 0, _, _, hK => hK
  | d + 1, v, c, hK => by
    rw [qlC]
    exact qlC_K d _ _ (x5_loseOn_K hK _ _)
def fdC (np k : Nat) (a : CS) : CS := x1_goDownF (luC np k (dI (a 7 k 12) (a 7 k 11)) (a 7 k 12) a) k
def faC (np k : Nat) (c : CS) : CS := fdC np k (qlC np k (dI 0 (c 10 k 3)) 0 c)
def x5_fallF (nl np : Nat) (c : CS) (l : Int32) : Int32 × CS := match lnO nl l with
  | none => (-1, refX c 1)
  | some k => if c 7 k 8 = 0 then (-5, refX c 5) else (faC np k c 7 k 14 - c 7 k 14, faC np k c)
theorem x5_fall (X : Nat × (Nat → Int32)) {h : Hp} {nl nf np : Nat} (hw : WF h nl nf np) (c : CS) (hK : KC nl nf np c) (l : Int32) : wp X 60 0 [some (vR (some (0, 0))), some (vI l), none, none, none] [] (pX h c) (fun r h' => r = some (vI (x5_fallF nl np c l).1) ∧ h' = pX h (x5_fallF nl np c l).2) := by
  have ⟨hnl, hnf, hnp, hst⟩ := hK
  cases e : lnO nl l with
  | none =>
    have eF : x5_fallF nl np c l = (-1, refX c 1) := by rw [x5_fallF, e]
    rw [eF]
    refine w_pu rfl rfl ?_
    refine w_pu rfl rfl ?_
    refine w_cp (vR (lnR 7 (lnO nl l))) rfl rfl (by decide) (Nat.le_of_ble_eq_true rfl) rfl (Nat.le_of_ble_eq_true rfl) (Nat.le_of_ble_eq_true rfl) ⟨wl hw Nat.one_pos, rfl⟩ rfl (x5_lineAt X hw c hnl l) ?_
    refine w_topR none (by rw [e]; rfl) ?_
    refine w_pu rfl rfl ?_
    refine w_pu rfl rfl ?_
    refine w_nnN rfl ?_
    refine w_pu rfl rfl ?_
    refine w_cst (v := (-1)) rfl rfl rfl ?_
    refine w_cgE (vI (-1)) (pX h (refX c 1)) rfl rfl (by decide) (Nat.le_of_ble_eq_true rfl) rfl (Nat.le_of_ble_eq_true rfl) (Nat.le_of_ble_eq_true rfl) ⟨wl hw Nat.one_pos, rfl⟩ rfl (x5_refuse_1 X hw c) ?_
    refine w_rt rfl rfl trivial ?_
    exact ⟨rfl, rfl⟩
  | some k =>
    obtain ⟨rfl, hk⟩ := lnO_some e
    rw [x5_fallF, e]
    dsimp only
    have loop : ∀ d v (a : CS), dI v (a 10 k 3) = d → KC nl nf np a → wp X 60 38 [some (vR (some (0, 0))), some (vI (nI k)), some (vR (some (7, k))), some (vI (c 7 k 14)), some (vI v)] [] (pX h a) (fun r h' => r = some (vI (fdC np k (qlC np k d v a) 7 k 14 - c 7 k 14)) ∧ h' = pX h (fdC np k (qlC np k d v a))) := by
      intro d
      induction d with
      | zero =>
        intro v a hd hK
        rw [qlC, fdC]
        refine w_pu rfl rfl ?_
        refine w_pu rfl rfl ?_
        refine x_gR 10 hw rfl rfl rfl rfl hk ?_
        refine x_g hw rfl rfl rfl (by decide) hk ?_
        refine w_ge rfl (fun c0 => ?_) (fun c0 => ?_)
        · refine w_pu rfl rfl ?_
          refine w_pu rfl rfl ?_
          refine w_pu rfl rfl ?_
          refine x_g hw rfl rfl rfl (by decide) hk ?_
          refine w_cvE (pX h (luC np k (dI (a 7 k 12) (a 7 k 11)) (a 7 k 12) a)) rfl rfl (by decide) (Nat.le_of_ble_eq_true rfl) rfl (Nat.le_of_ble_eq_true rfl) (Nat.le_of_ble_eq_true rfl) ⟨wl hw Nat.one_pos, rfl⟩ rfl (x5_loseUpTo X hw a hK k (a 7 k 11) hk) ?_
          refine w_pu rfl rfl ?_
          refine w_cvE (pX h (x1_goDownF (luC np k (dI (a 7 k 12) (a 7 k 11)) (a 7 k 12) a) k)) rfl rfl (by decide) (Nat.le_of_ble_eq_true rfl) rfl (Nat.le_of_ble_eq_true rfl) (Nat.le_of_ble_eq_true rfl) ⟨wl hw hk, rfl⟩ rfl (x1_goDown X hw (luC np k (dI (a 7 k 12) (a 7 k 11)) (a 7 k 12) a) k hk ) ?_
          refine w_pu rfl rfl ?_
          refine x_g hw rfl rfl rfl (by decide) hk ?_
          refine w_pu rfl rfl ?_
          refine w_pu rfl rfl ?_
          refine w_rt rfl rfl trivial ?_
          exact ⟨rfl, rfl⟩
        · exact absurd (dI_0 hd) c0
      | succ d ih =>
        intro v a hd hK
        obtain ⟨d1, d2⟩ := dI_s hd
        have ⟨hnl, hnf, hnp, hst⟩ := hK
        rw [qlC]
        refine w_pu rfl rfl ?_
        refine w_pu rfl rfl ?_
        refine x_gR 10 hw rfl rfl rfl rfl hk ?_
        refine x_g hw rfl rfl rfl (by decide) hk ?_
        refine w_ge rfl (fun c0 => ?_) (fun c0 => ?_)
        · exact absurd d1 (Int32.not_lt.mpr c0)
        · refine w_pu rfl rfl ?_
          refine w_pu rfl rfl ?_
          refine w_pu rfl rfl ?_
          refine x_gR 10 hw rfl rfl rfl rfl hk ?_
          refine w_pu rfl rfl ?_
          refine w_cp (vI (x3_numberOfF a k v)) rfl rfl (by decide) (Nat.le_of_ble_eq_true rfl) rfl (Nat.le_of_ble_eq_true rfl) (Nat.le_of_ble_eq_true rfl) ⟨wl hw hk, rfl⟩ rfl (x3_numberOf X hw a k v hk ) ?_
          refine w_cvE (pX h (x5_loseOnF a np k (x3_numberOfF a k v))) rfl rfl (by decide) (Nat.le_of_ble_eq_true rfl) rfl (Nat.le_of_ble_eq_true rfl) (Nat.le_of_ble_eq_true rfl) ⟨wl hw Nat.one_pos, rfl⟩ rfl (x5_loseOn X hw a k (x3_numberOfF a k v) hk hnp hst) ?_
          refine w_inc (v := 1) rfl rfl rfl rfl ?_
          refine w_go rfl ?_
          exact ih _ _ (by rw [x5_loseOn_t _ _ _ _ _ _ (by decide)]; exact d2) (x5_loseOn_K hK _ _)
    refine w_pu rfl rfl ?_
    refine w_pu rfl rfl ?_
    refine w_cp (vR (lnR 7 (lnO nl (nI k)))) rfl rfl (by decide) (Nat.le_of_ble_eq_true rfl) rfl (Nat.le_of_ble_eq_true rfl) (Nat.le_of_ble_eq_true rfl) ⟨wl hw Nat.one_pos, rfl⟩ rfl (x5_lineAt X hw c hnl (nI k)) ?_
    refine w_topR (some (7, k)) (by rw [e]; rfl) ?_
    refine w_pu rfl rfl ?_
    refine w_pu rfl rfl ?_
    refine w_nn rfl ?_
    refine w_pu rfl rfl ?_
    refine x_g hw rfl rfl rfl (by decide) hk ?_
    refine w_ne0 rfl (fun c0 => ?_) (fun c0 => ?_)
    · refine w_pu rfl rfl ?_
      refine x_g hw rfl rfl rfl (by decide) hk ?_
      refine w_pu rfl rfl ?_
      refine w_cst (v := 0) rfl rfl rfl ?_
      refine w_pu rfl rfl ?_
      rw [if_neg c0]
      exact loop _ 0 c rfl hK
    · refine w_pu rfl rfl ?_
      refine w_cst (v := (-5)) rfl rfl rfl ?_
      refine w_cgE (vI (-5)) (pX h (refX c 5)) rfl rfl (by decide) (Nat.le_of_ble_eq_true rfl) rfl (Nat.le_of_ble_eq_true rfl) (Nat.le_of_ble_eq_true rfl) ⟨wl hw Nat.one_pos, rfl⟩ rfl (x5_refuse_5 X hw c) ?_
      refine w_rt rfl rfl trivial ?_
      rw [if_pos c0]
      exact ⟨rfl, rfl⟩
def lpC (c : CS) (np : Nat) (i : Int32) : Nat → Int32 → Int32 → Int32
  | 0, _, _ => -9
  | d + 1, v, m => match lnO np v with
    | none => lpC c np i d (v + 1) m
    | some p => if c 18 p 5 = 2 then (if m = i then v else lpC c np i d (v + 1) (m + 1)) else lpC c np i d (v + 1) m
theorem x5_lostPieceAt (X : Nat × (Nat → Int32)) {h : Hp} {nl nf np : Nat} (hw : WF h nl nf np) (c : CS) (hnp : c 0 0 8 = nI np) (i : Int32) : wp X 68 0 [some (vR (some (0, 0))), some (vI i), none, none, none] [] (pX h c) (fun r h' => r = some (vI (lpC c np i (dI (c 0 0 5) (c 0 0 9)) (c 0 0 5) 0)) ∧ h' = pX h c) := by
  have loop : ∀ d v m (x : Option Vl), dI v (c 0 0 9) = d → wp X 68 7 [some (vR (some (0, 0))), some (vI i), some (vI m), some (vI v), x] [] (pX h c) (fun r h' => r = some (vI (lpC c np i d v m)) ∧ h' = pX h c) := by
    intro d
    induction d with
    | zero =>
      intro v m x hd
      rw [lpC]
      refine w_pu rfl rfl ?_
      refine w_pu rfl rfl ?_
      refine x_g hw rfl rfl rfl (by decide) Nat.one_pos ?_
      refine w_ge rfl (fun c0 => ?_) (fun c0 => ?_)
      · refine w_cst (v := (-9)) rfl rfl rfl ?_
        refine w_rt rfl rfl trivial ?_
        exact ⟨rfl, rfl⟩
      · exact absurd (dI_0 hd) c0
    | succ d ih =>
      intro v m x hd
      obtain ⟨d1, d2⟩ := dI_s hd
      rw [lpC]
      cases e : lnO np v with
      | none =>
        refine w_pu rfl rfl ?_
        refine w_pu rfl rfl ?_
        refine x_g hw rfl rfl rfl (by decide) Nat.one_pos ?_
        refine w_ge rfl (fun c0 => ?_) (fun c0 => ?_)
        · exact absurd d1 (Int32.not_lt.mpr c0)
        · refine w_pu rfl rfl ?_
          refine w_pu rfl rfl ?_
          refine w_cp (vR (lnR 18 (lnO np v))) rfl rfl (by decide) (Nat.le_of_ble_eq_true rfl) rfl (Nat.le_of_ble_eq_true rfl) (Nat.le_of_ble_eq_true rfl) ⟨wl hw Nat.one_pos, rfl⟩ rfl (x5_pieceAt X hw c hnp v) ?_
          refine w_topR none (by rw [e]; rfl) ?_
          refine w_pu rfl rfl ?_
          refine w_pu rfl rfl ?_
          refine w_nuN rfl ?_
          refine w_inc (v := 1) rfl rfl rfl rfl ?_
          refine w_go rfl ?_
          exact ih _ _ _ d2
      | some p =>
        obtain ⟨rfl, hp⟩ := lnO_some e
        dsimp only
        refine w_pu rfl rfl ?_
        refine w_pu rfl rfl ?_
        refine x_g hw rfl rfl rfl (by decide) Nat.one_pos ?_
        refine w_ge rfl (fun c0 => ?_) (fun c0 => ?_)
        · exact absurd d1 (Int32.not_lt.mpr c0)
        · refine w_pu rfl rfl ?_
          refine w_pu rfl rfl ?_
          refine w_cp (vR (lnR 18 (lnO np (nI p)))) rfl rfl (by decide) (Nat.le_of_ble_eq_true rfl) rfl (Nat.le_of_ble_eq_true rfl) (Nat.le_of_ble_eq_true rfl) ⟨wl hw Nat.one_pos, rfl⟩ rfl (x5_pieceAt X hw c hnp (nI p)) ?_
          refine w_topR (some (18, p)) (by rw [e]; rfl) ?_
          refine w_pu rfl rfl ?_
          refine w_pu rfl rfl ?_
          refine w_nu rfl ?_
          refine w_pu rfl rfl ?_
          refine x_g hw rfl rfl rfl (by decide) hp ?_
          refine w_cst (v := 2) rfl rfl rfl ?_
          refine w_ne rfl (fun c1 => ?_) (fun c1 => ?_)
          · refine w_inc (v := 1) rfl rfl rfl rfl ?_
            refine w_go rfl ?_
            rw [if_neg c1]
            exact ih _ _ _ d2
          · refine w_pu rfl rfl ?_
            refine w_pu rfl rfl ?_
            refine w_ne rfl (fun c2 => ?_) (fun c2 => ?_)
            · refine w_inc (v := 1) rfl rfl rfl rfl ?_
              refine w_inc (v := 1) rfl rfl rfl rfl ?_
              refine w_go rfl ?_
              rw [if_pos c1, if_neg c2]
              exact ih _ _ _ d2
            · refine w_pu rfl rfl ?_
              refine w_rt rfl rfl trivial ?_
              rw [if_pos c1, if_pos c2]
              exact ⟨rfl, rfl⟩
  refine w_cst (v := 0) rfl rfl rfl ?_
  refine w_pu rfl rfl ?_
  refine w_pu rfl rfl ?_
  refine x_g hw rfl rfl rfl (by decide) Nat.one_pos ?_
  refine w_pu rfl rfl ?_
  exact loop _ _ _ _ rfl
def x5_waitsF (c : CS) (np : Nat) (k : Int32) : Int32 := (if k < 0 then (-9) else (if k < ((c 4 0 2) + (c 4 0 0)) then (if k < (c 4 0 2) then (lpC c np k (dI (c 0 0 5) (c 0 0 9)) (c 0 0 5) 0) else (((c 0 0 9) + k) - (c 4 0 2))) else (-9)))
theorem x5_waits (X : Nat × (Nat → Int32)) {h : Hp} {nl nf np : Nat} (hw : WF h nl nf np) (c : CS) (k : Int32)  (hnp : c 0 0 8 = nI np) : wp X 67 0 [some (vR (some (0, 0))), some (vI k)] [] (pX h c) (fun r h' => r = some (vI (x5_waitsF c np k)) ∧ h' = pX h c) := by
  have h4 := hw.2.2.2.2.2.2.1
  have h5 := hw.2.2.2.2.2.2.2.1
  have h3 := hw.2.2.2.2.2.2.2.2
  refine w_pu rfl rfl ?_
  refine w_lt0 rfl (fun c0 => ?_) (fun c0 => ?_)
  · refine w_cst (v := (-9)) rfl rfl rfl ?_
    refine w_rt rfl rfl trivial ?_
    exact ⟨by rw [x5_waitsF, if_pos c0], rfl⟩
  · refine w_pu rfl rfl ?_
    refine w_pu rfl rfl ?_
    refine x_gR 4 hw rfl rfl rfl rfl Nat.one_pos ?_
    refine w_cst (v := 2) rfl rfl rfl ?_
    refine x_ai 2 4 hw rfl rfl rfl (by decide) Nat.one_pos (by first | rfl | simp only [ix_lits, nI_mul, nI_add]) (by show 2 < 4; omega) ?_
    refine w_pu rfl rfl ?_
    refine x_gR 4 hw rfl rfl rfl rfl Nat.one_pos ?_
    refine w_cst (v := 0) rfl rfl rfl ?_
    refine x_ai 0 4 hw rfl rfl rfl (by decide) Nat.one_pos (by first | rfl | simp only [ix_lits, nI_mul, nI_add]) (by show 0 < 4; omega) ?_
    refine w_pu rfl rfl ?_
    refine w_lt rfl (fun c1 => ?_) (fun c1 => ?_)
    · refine w_pu rfl rfl ?_
      refine w_pu rfl rfl ?_
      refine x_gR 4 hw rfl rfl rfl rfl Nat.one_pos ?_
      refine w_cst (v := 2) rfl rfl rfl ?_
      refine x_ai 2 4 hw rfl rfl rfl (by decide) Nat.one_pos (by first | rfl | simp only [ix_lits, nI_mul, nI_add]) (by show 2 < 4; omega) ?_
      refine w_lt rfl (fun c2 => ?_) (fun c2 => ?_)
      · refine w_pu rfl rfl ?_
        refine w_pu rfl rfl ?_
        refine w_cp (vI (lpC c np k (dI (c 0 0 5) (c 0 0 9)) (c 0 0 5) 0)) rfl rfl (by decide) (Nat.le_of_ble_eq_true rfl) rfl (Nat.le_of_ble_eq_true rfl) (Nat.le_of_ble_eq_true rfl) ⟨wl hw Nat.one_pos, rfl⟩ rfl (x5_lostPieceAt X hw c hnp k) ?_
        refine w_rt rfl rfl trivial ?_
        exact ⟨by rw [x5_waitsF, if_neg c0, if_pos c1, if_pos c2], rfl⟩
      · refine w_pu rfl rfl ?_
        refine x_g hw rfl rfl rfl (by decide) Nat.one_pos ?_
        refine w_pu rfl rfl ?_
        refine w_pu rfl rfl ?_
        refine w_pu rfl rfl ?_
        refine x_gR 4 hw rfl rfl rfl rfl Nat.one_pos ?_
        refine w_cst (v := 2) rfl rfl rfl ?_
        refine x_ai 2 4 hw rfl rfl rfl (by decide) Nat.one_pos (by first | rfl | simp only [ix_lits, nI_mul, nI_add]) (by show 2 < 4; omega) ?_
        refine w_pu rfl rfl ?_
        refine w_rt rfl rfl trivial ?_
        exact ⟨by rw [x5_waitsF, if_neg c0, if_pos c1, if_neg c2], rfl⟩
    · refine w_cst (v := (-9)) rfl rfl rfl ?_
      refine w_rt rfl rfl trivial ?_
      exact ⟨by rw [x5_waitsF, if_neg c0, if_neg c1], rfl⟩
def skC (c : CS) (np : Nat) : Nat → Int32 → Int32 → Int32 → Int32
  | 0, _, g, m => if g = -9 then 0 else g - m
  | d + 1, v, g, m => match lnO np v with
    | none => if m = -9 then skC c np d (v + 1) g v else skC c np d (v + 1) g m
    | some p => if c 18 p 5 = 3 then skC c np d (v + 1) v m else if m = -9 then skC c np d (v + 1) g v else skC c np d (v + 1) g m
theorem x5_skew (X : Nat × (Nat → Int32)) {h : Hp} {nl nf np : Nat} (hw : WF h nl nf np) (c : CS) (hnp : c 0 0 8 = nI np) : wp X 72 0 [some (vR (some (0, 0))), none, none, none, none] [] (pX h c) (fun r h' => r = some (vI (skC c np (dI (c 0 0 5) (nI np)) (c 0 0 5) (-9) (-9))) ∧ h' = pX h c) := by
  have loop : ∀ d v g m (x : Option Vl), dI v (nI np) = d → wp X 72 11 [some (vR (some (0, 0))), some (vI g), some (vI m), some (vI v), x] [] (pX h c) (fun r h' => r = some (vI (skC c np d v g m)) ∧ h' = pX h c) := by
    intro d
    induction d with
    | zero =>
      intro v g m x hd
      rw [skC]
      refine w_pu rfl rfl ?_
      refine w_pu rfl rfl ?_
      refine x_g hw rfl rfl rfl (by decide) Nat.one_pos ?_
      refine w_top (nI np) (hnp) ?_
      refine w_ge rfl (fun c0 => ?_) (fun c0 => ?_)
      · refine w_pu rfl rfl ?_
        refine w_cst (v := (-9)) rfl rfl rfl ?_
        refine w_ne rfl (fun c1 => ?_) (fun c1 => ?_)
        · refine w_pu rfl rfl ?_
          refine w_pu rfl rfl ?_
          refine w_pu rfl rfl ?_
          refine w_rt rfl rfl trivial ?_
          exact ⟨by rw [if_neg c1], rfl⟩
        · refine w_cst (v := 0) rfl rfl rfl ?_
          refine w_go rfl ?_
          refine w_rt rfl rfl trivial ?_
          exact ⟨by rw [if_pos c1], rfl⟩
      · exact absurd (dI_0 hd) c0
    | succ d ih =>
      intro v g m x hd
      obtain ⟨d1, d2⟩ := dI_s hd
      rw [skC]
      cases e : lnO np v with
      | none =>
        refine w_pu rfl rfl ?_
        refine w_pu rfl rfl ?_
        refine x_g hw rfl rfl rfl (by decide) Nat.one_pos ?_
        refine w_top (nI np) (hnp) ?_
        refine w_ge rfl (fun c0 => ?_) (fun c0 => ?_)
        · exact absurd d1 (Int32.not_lt.mpr c0)
        · refine w_pu rfl rfl ?_
          refine w_pu rfl rfl ?_
          refine w_cp (vR (lnR 18 (lnO np v))) rfl rfl (by decide) (Nat.le_of_ble_eq_true rfl) rfl (Nat.le_of_ble_eq_true rfl) (Nat.le_of_ble_eq_true rfl) ⟨wl hw Nat.one_pos, rfl⟩ rfl (x5_pieceAt X hw c hnp v) ?_
          refine w_topR none (by rw [e]; rfl) ?_
          refine w_pu rfl rfl ?_
          refine w_pu rfl rfl ?_
          refine w_nuN rfl ?_
          refine w_pu rfl rfl ?_
          refine w_cst (v := (-9)) rfl rfl rfl ?_
          refine w_ne rfl (fun c1 => ?_) (fun c1 => ?_)
          · refine w_inc (v := 1) rfl rfl rfl rfl ?_
            refine w_go rfl ?_
            dsimp only
            rw [if_neg c1]
            exact ih _ _ _ _ d2
          · refine w_pu rfl rfl ?_
            refine w_pu rfl rfl ?_
            refine w_inc (v := 1) rfl rfl rfl rfl ?_
            refine w_go rfl ?_
            dsimp only
            rw [if_pos c1]
            exact ih _ _ _ _ d2
      | some p =>
        obtain ⟨rfl, hp⟩ := lnO_some e
        refine w_pu rfl rfl ?_
        refine w_pu rfl rfl ?_
        refine x_g hw rfl rfl rfl (by decide) Nat.one_pos ?_
        refine w_top (nI np) (hnp) ?_
        refine w_ge rfl (fun c0 => ?_) (fun c0 => ?_)
        · exact absurd d1 (Int32.not_lt.mpr c0)
        · refine w_pu rfl rfl ?_
          refine w_pu rfl rfl ?_
          refine w_cp (vR (lnR 18 (lnO np (nI p)))) rfl rfl (by decide) (Nat.le_of_ble_eq_true rfl) rfl (Nat.le_of_ble_eq_true rfl) (Nat.le_of_ble_eq_true rfl) ⟨wl hw Nat.one_pos, rfl⟩ rfl (x5_pieceAt X hw c hnp (nI p)) ?_
          refine w_topR (some (18, p)) (by rw [e]; rfl) ?_
          refine w_pu rfl rfl ?_
          refine w_pu rfl rfl ?_
          refine w_nu rfl ?_
          refine w_pu rfl rfl ?_
          refine x_g hw rfl rfl rfl (by decide) hp ?_
          refine w_cst (v := 3) rfl rfl rfl ?_
          refine w_ne rfl (fun c1 => ?_) (fun c1 => ?_)
          · refine w_pu rfl rfl ?_
            refine w_cst (v := (-9)) rfl rfl rfl ?_
            refine w_ne rfl (fun c2 => ?_) (fun c2 => ?_)
            · refine w_inc (v := 1) rfl rfl rfl rfl ?_
              refine w_go rfl ?_
              dsimp only
              rw [if_neg c1, if_neg c2]
              exact ih _ _ _ _ d2
            · refine w_pu rfl rfl ?_
              refine w_pu rfl rfl ?_
              refine w_inc (v := 1) rfl rfl rfl rfl ?_
              refine w_go rfl ?_
              dsimp only
              rw [if_neg c1, if_pos c2]
              exact ih _ _ _ _ d2
          · refine w_pu rfl rfl ?_
            refine w_pu rfl rfl ?_
            refine w_go rfl ?_
            refine w_inc (v := 1) rfl rfl rfl rfl ?_
            refine w_go rfl ?_
            dsimp only
            rw [if_pos c1]
            exact ih _ _ _ _ d2
  refine w_cst (v := (-9)) rfl rfl rfl ?_
  refine w_pu rfl rfl ?_
  refine w_cst (v := (-9)) rfl rfl rfl ?_
  refine w_pu rfl rfl ?_
  refine w_pu rfl rfl ?_
  refine x_g hw rfl rfl rfl (by decide) Nat.one_pos ?_
  refine w_pu rfl rfl ?_
  exact loop _ _ _ _ _ rfl
def ckC (c : CS) (np f : Nat) : Nat → Int32 → Int32 → Int32
  | 0, _, s => s
  | d + 1, v, s => ckC c np f d (v + 1) (31 * s + x5_witnessOfF c np (c 20 f 2 + v))
def x5_checkF (c : CS) (nf np : Nat) (f s : Int32) : Int32 := match lnO nf f with
  | none => 0
  | some k => if f < c 0 0 4 then (if ckC c np k (dI 0 (c 20 k 3)) 0 0 = s then 1 else 0) else 0
theorem x5_check (X : Nat × (Nat → Int32)) {h : Hp} {nl nf np : Nat} (hw : WF h nl nf np) (c : CS) (hnp : c 0 0 8 = nI np) (hnf : c 0 0 3 = nI nf) (f s : Int32) : wp X 74 0 [some (vR (some (0, 0))), some (vI f), some (vI s), none, none, none] [] (pX h c) (fun r h' => r = some (vI (x5_checkF c nf np f s)) ∧ h' = pX h c) := by
  cases e : lnO nf f with
  | none =>
    have eF : x5_checkF c nf np f s = 0 := by rw [x5_checkF, e]
    rw [eF]
    refine w_pu rfl rfl ?_
    refine w_pu rfl rfl ?_
    refine w_cp (vR (lnR 20 (lnO nf f))) rfl rfl (by decide) (Nat.le_of_ble_eq_true rfl) rfl (Nat.le_of_ble_eq_true rfl) (Nat.le_of_ble_eq_true rfl) ⟨wl hw Nat.one_pos, rfl⟩ rfl (x5_frameAt X hw c hnf f) ?_
    refine w_topR none (by rw [e]; rfl) ?_
    refine w_pu rfl rfl ?_
    refine w_pu rfl rfl ?_
    refine w_nuN rfl ?_
    refine w_cst (v := 0) rfl rfl rfl ?_
    refine w_rt rfl rfl (by first | exact Or.inl rfl | exact Or.inr rfl) ?_
    exact ⟨rfl, rfl⟩
  | some k =>
    obtain ⟨rfl, hk⟩ := lnO_some e
    rw [x5_checkF, e]
    dsimp only
    have loop : ∀ d v a, dI v (c 20 k 3) = d → wp X 74 26 [some (vR (some (0, 0))), some (vI (nI k)), some (vI s), some (vR (some (20, k))), some (vI a), some (vI v)] [] (pX h c) (fun r h' => r = some (vI (if ckC c np k d v a = s then 1 else 0)) ∧ h' = pX h c) := by
      intro d
      induction d with
      | zero =>
        intro v a hd
        rw [ckC]
        refine w_pu rfl rfl ?_
        refine w_pu rfl rfl ?_
        refine x_g hw rfl rfl rfl (by decide) hk ?_
        refine w_ge rfl (fun c0 => ?_) (fun c0 => ?_)
        · refine w_pu rfl rfl ?_
          refine w_pu rfl rfl ?_
          refine w_ne rfl (fun c1 => ?_) (fun c1 => ?_)
          · refine w_cst (v := 0) rfl rfl rfl ?_
            refine w_rt rfl rfl (by first | exact Or.inl rfl | exact Or.inr rfl) ?_
            exact ⟨by rw [if_neg c1], rfl⟩
          · refine w_cst (v := 1) rfl rfl rfl ?_
            refine w_go rfl ?_
            refine w_rt rfl rfl (by first | exact Or.inl rfl | exact Or.inr rfl) ?_
            exact ⟨by rw [if_pos c1], rfl⟩
        · exact absurd (dI_0 hd) c0
      | succ d ih =>
        intro v a hd
        obtain ⟨d1, d2⟩ := dI_s hd
        rw [ckC]
        refine w_pu rfl rfl ?_
        refine w_pu rfl rfl ?_
        refine x_g hw rfl rfl rfl (by decide) hk ?_
        refine w_ge rfl (fun c0 => ?_) (fun c0 => ?_)
        · exact absurd d1 (Int32.not_lt.mpr c0)
        · refine w_cst (v := 31) rfl rfl rfl ?_
          refine w_pu rfl rfl ?_
          refine w_pu rfl rfl ?_
          refine w_pu rfl rfl ?_
          refine w_pu rfl rfl ?_
          refine x_g hw rfl rfl rfl (by decide) hk ?_
          refine w_pu rfl rfl ?_
          refine w_pu rfl rfl ?_
          refine w_cp (vI (x5_witnessOfF c np ((c 20 k 2) + v))) rfl rfl (by decide) (Nat.le_of_ble_eq_true rfl) rfl (Nat.le_of_ble_eq_true rfl) (Nat.le_of_ble_eq_true rfl) ⟨wl hw Nat.one_pos, rfl⟩ rfl (x5_witnessOf X hw c ((c 20 k 2) + v)  hnp) ?_
          refine w_pu rfl rfl ?_
          refine w_pu rfl rfl ?_
          refine w_inc (v := 1) rfl rfl rfl rfl ?_
          refine w_go rfl ?_
          exact ih _ _ d2
    refine w_pu rfl rfl ?_
    refine w_pu rfl rfl ?_
    refine w_cp (vR (lnR 20 (lnO nf (nI k)))) rfl rfl (by decide) (Nat.le_of_ble_eq_true rfl) rfl (Nat.le_of_ble_eq_true rfl) (Nat.le_of_ble_eq_true rfl) ⟨wl hw Nat.one_pos, rfl⟩ rfl (x5_frameAt X hw c hnf (nI k)) ?_
    refine w_topR (some (20, k)) (by rw [e]; rfl) ?_
    refine w_pu rfl rfl ?_
    refine w_pu rfl rfl ?_
    refine w_nu rfl ?_
    refine w_pu rfl rfl ?_
    refine w_pu rfl rfl ?_
    refine x_g hw rfl rfl rfl (by decide) Nat.one_pos ?_
    refine w_lt rfl (fun c0 => ?_) (fun c0 => ?_)
    · refine w_cst (v := 0) rfl rfl rfl ?_
      refine w_pu rfl rfl ?_
      refine w_cst (v := 0) rfl rfl rfl ?_
      refine w_pu rfl rfl ?_
      rw [if_pos c0]
      exact loop _ 0 0 rfl
    · refine w_cst (v := 0) rfl rfl rfl ?_
      refine w_rt rfl rfl (by first | exact Or.inl rfl | exact Or.inr rfl) ?_
      exact ⟨by rw [if_neg c0], rfl⟩
def aeC (c : CS) : Nat → Int32
  | 0 => 0
  | n + 1 => aeC c n + c 7 n 15
theorem x5_allEmptiesLaid (X : Nat × (Nat → Int32)) {h : Hp} {nl nf np : Nat} (hw : WF h nl nf np) (c : CS) (hnl : c 0 0 1 = nI nl) : wp X 77 0 [some (vR (some (0, 0))), none, none, none] [] (pX h c) (fun r h' => r = some (vI (aeC c nl)) ∧ h' = pX h c) := by
  have h4 := hw.2.2.2.2.2.2.1
  have loop : ∀ d k (x : Option Vl), k + d = nl → wp X 77 4 [some (vR (some (0, 0))), some (vI (aeC c k)), some (vI (nI k)), x] [] (pX h c) (fun r h' => r = some (vI (aeC c nl)) ∧ h' = pX h c) := by
    intro d
    induction d with
    | zero =>
      intro k x hk
      refine w_pu rfl rfl ?_
      refine w_pu rfl rfl ?_
      refine x_g hw rfl rfl rfl (by decide) Nat.one_pos ?_
      refine w_ge rfl (fun c0 => ?_) (fun c0 => ?_)
      · refine w_pu rfl rfl ?_
        refine w_rt rfl rfl trivial ?_
        exact ⟨by rw [show k = nl by omega], rfl⟩
      · exact absurd (by rw [hnl]; exact nI_le (by omega) (by omega)) c0
    | succ d ih =>
      intro k x hk
      have hkl : k < nl := by omega
      refine w_pu rfl rfl ?_
      refine w_pu rfl rfl ?_
      refine x_g hw rfl rfl rfl (by decide) Nat.one_pos ?_
      refine w_ge rfl (fun c0 => ?_) (fun c0 => ?_)
      · exact absurd (by rw [hnl] at c0; exact c0) (nI_ge (by omega) (by omega))
      · refine w_pu rfl rfl ?_
        refine w_pu rfl rfl ?_
        refine w_cp (vR (lnR 7 (lnO nl (nI k)))) rfl rfl (by decide) (Nat.le_of_ble_eq_true rfl) rfl (Nat.le_of_ble_eq_true rfl) (Nat.le_of_ble_eq_true rfl) ⟨wl hw Nat.one_pos, rfl⟩ rfl (x5_lineAt X hw c hnl (nI k)) ?_
        refine w_topR (some (7, k)) (by rw [lnO_nI (by omega) (by omega)]; rfl) ?_
        refine w_pu rfl rfl ?_
        refine w_pu rfl rfl ?_
        refine w_nu rfl ?_
        refine w_pu rfl rfl ?_
        refine w_pu rfl rfl ?_
        refine x_g hw rfl rfl rfl (by decide) hkl ?_
        refine w_pu rfl rfl ?_
        refine w_pu rfl rfl ?_
        refine w_i1 rfl rfl rfl ?_
        refine w_go rfl ?_
        exact ih (k + 1) _ (by omega)
  refine w_cst (v := 0) rfl rfl rfl ?_
  refine w_pu rfl rfl ?_
  refine w_cst (v := 0) rfl rfl rfl ?_
  refine w_pu rfl rfl ?_
  exact loop nl 0 _ (by omega)
def x5_statusF (c : CS) (nl : Nat) (a : Int32) : Int32 := (if a = 0 then c 0 0 16 else if a = 1 then c 0 0 1 else if a = 2 then c 0 0 3 else if a = 3 then c 0 0 4 else if a = 4 then c 0 0 8 else if a = 5 then c 4 0 3 else if a = 6 then c 4 0 2 else if a = 7 then c 4 0 0 else if a = 8 then c 0 0 12 else if a = 9 then c 0 0 6 else if a = 10 then c 0 0 13 else if a = 11 then c 0 0 14 else if a = 12 then (aeC c nl) else (x5_refusalsOfF c (20 - a)))
theorem x5_status (X : Nat × (Nat → Int32)) {h : Hp} {nl nf np : Nat} (hw : WF h nl nf np) (c : CS) (a : Int32)  (hnl : c 0 0 1 = nI nl) : wp X 76 0 [some (vR (some (0, 0))), some (vI a)] [] (pX h c) (fun r h' => r = some (vI (x5_statusF c nl a)) ∧ h' = pX h c) := by
  have h4 := hw.2.2.2.2.2.2.1
  have h5 := hw.2.2.2.2.2.2.2.1
  have h3 := hw.2.2.2.2.2.2.2.2
  refine w_pu rfl rfl ?_
  by_cases q0 : a = 0
  · refine w_top 0 q0 ?_
    refine w_sw (t := 68) rfl rfl ?_
    refine w_pu rfl rfl ?_
    refine x_g hw rfl rfl rfl (by decide) Nat.one_pos ?_
    refine w_rt rfl rfl trivial ?_
    exact ⟨by rw [x5_statusF, if_pos q0], rfl⟩
  by_cases q1 : a = 1
  · refine w_top 1 q1 ?_
    refine w_sw (t := 73) rfl rfl ?_
    refine w_pu rfl rfl ?_
    refine x_g hw rfl rfl rfl (by decide) Nat.one_pos ?_
    refine w_rt rfl rfl trivial ?_
    exact ⟨by rw [x5_statusF, if_neg q0, if_pos q1], rfl⟩
  by_cases q2 : a = 2
  · refine w_top 2 q2 ?_
    refine w_sw (t := 78) rfl rfl ?_
    refine w_pu rfl rfl ?_
    refine x_g hw rfl rfl rfl (by decide) Nat.one_pos ?_
    refine w_rt rfl rfl trivial ?_
    exact ⟨by rw [x5_statusF, if_neg q0, if_neg q1, if_pos q2], rfl⟩
  by_cases q3 : a = 3
  · refine w_top 3 q3 ?_
    refine w_sw (t := 83) rfl rfl ?_
    refine w_pu rfl rfl ?_
    refine x_g hw rfl rfl rfl (by decide) Nat.one_pos ?_
    refine w_rt rfl rfl trivial ?_
    exact ⟨by rw [x5_statusF, if_neg q0, if_neg q1, if_neg q2, if_pos q3], rfl⟩
  by_cases q4 : a = 4
  · refine w_top 4 q4 ?_
    refine w_sw (t := 88) rfl rfl ?_
    refine w_pu rfl rfl ?_
    refine x_g hw rfl rfl rfl (by decide) Nat.one_pos ?_
    refine w_rt rfl rfl trivial ?_
    exact ⟨by rw [x5_statusF, if_neg q0, if_neg q1, if_neg q2, if_neg q3, if_pos q4], rfl⟩
  by_cases q5 : a = 5
  · refine w_top 5 q5 ?_
    refine w_sw (t := 93) rfl rfl ?_
    refine w_pu rfl rfl ?_
    refine x_gR 4 hw rfl rfl rfl rfl Nat.one_pos ?_
    refine w_cst (v := 3) rfl rfl rfl ?_
    refine x_ai 3 4 hw rfl rfl rfl (by decide) Nat.one_pos (by first | rfl | simp only [ix_lits, nI_mul, nI_add]) (by show 3 < 4; omega) ?_
    refine w_rt rfl rfl trivial ?_
    exact ⟨by rw [x5_statusF, if_neg q0, if_neg q1, if_neg q2, if_neg q3, if_neg q4, if_pos q5], rfl⟩
  by_cases q6 : a = 6
  · refine w_top 6 q6 ?_
    refine w_sw (t := 100) rfl rfl ?_
    refine w_pu rfl rfl ?_
    refine x_gR 4 hw rfl rfl rfl rfl Nat.one_pos ?_
    refine w_cst (v := 2) rfl rfl rfl ?_
    refine x_ai 2 4 hw rfl rfl rfl (by decide) Nat.one_pos (by first | rfl | simp only [ix_lits, nI_mul, nI_add]) (by show 2 < 4; omega) ?_
    refine w_rt rfl rfl trivial ?_
    exact ⟨by rw [x5_statusF, if_neg q0, if_neg q1, if_neg q2, if_neg q3, if_neg q4, if_neg q5, if_pos q6], rfl⟩
  by_cases q7 : a = 7
  · refine w_top 7 q7 ?_
    refine w_sw (t := 107) rfl rfl ?_
    refine w_pu rfl rfl ?_
    refine x_gR 4 hw rfl rfl rfl rfl Nat.one_pos ?_
    refine w_cst (v := 0) rfl rfl rfl ?_
    refine x_ai 0 4 hw rfl rfl rfl (by decide) Nat.one_pos (by first | rfl | simp only [ix_lits, nI_mul, nI_add]) (by show 0 < 4; omega) ?_
    refine w_rt rfl rfl trivial ?_
    exact ⟨by rw [x5_statusF, if_neg q0, if_neg q1, if_neg q2, if_neg q3, if_neg q4, if_neg q5, if_neg q6, if_pos q7], rfl⟩
  by_cases q8 : a = 8
  · refine w_top 8 q8 ?_
    refine w_sw (t := 114) rfl rfl ?_
    refine w_pu rfl rfl ?_
    refine x_g hw rfl rfl rfl (by decide) Nat.one_pos ?_
    refine w_rt rfl rfl trivial ?_
    exact ⟨by rw [x5_statusF, if_neg q0, if_neg q1, if_neg q2, if_neg q3, if_neg q4, if_neg q5, if_neg q6, if_neg q7, if_pos q8], rfl⟩
  by_cases q9 : a = 9
  · refine w_top 9 q9 ?_
    refine w_sw (t := 119) rfl rfl ?_
    refine w_pu rfl rfl ?_
    refine x_g hw rfl rfl rfl (by decide) Nat.one_pos ?_
    refine w_rt rfl rfl trivial ?_
    exact ⟨by rw [x5_statusF, if_neg q0, if_neg q1, if_neg q2, if_neg q3, if_neg q4, if_neg q5, if_neg q6, if_neg q7, if_neg q8, if_pos q9], rfl⟩
  by_cases q10 : a = 10
  · refine w_top 10 q10 ?_
    refine w_sw (t := 124) rfl rfl ?_
    refine w_pu rfl rfl ?_
    refine x_g hw rfl rfl rfl (by decide) Nat.one_pos ?_
    refine w_rt rfl rfl trivial ?_
    exact ⟨by rw [x5_statusF, if_neg q0, if_neg q1, if_neg q2, if_neg q3, if_neg q4, if_neg q5, if_neg q6, if_neg q7, if_neg q8, if_neg q9, if_pos q10], rfl⟩
  by_cases q11 : a = 11
  · refine w_top 11 q11 ?_
    refine w_sw (t := 129) rfl rfl ?_
    refine w_pu rfl rfl ?_
    refine x_g hw rfl rfl rfl (by decide) Nat.one_pos ?_
    refine w_rt rfl rfl trivial ?_
    exact ⟨by rw [x5_statusF, if_neg q0, if_neg q1, if_neg q2, if_neg q3, if_neg q4, if_neg q5, if_neg q6, if_neg q7, if_neg q8, if_neg q9, if_neg q10, if_pos q11], rfl⟩
  by_cases q12 : a = 12
  · refine w_top 12 q12 ?_
    refine w_sw (t := 134) rfl rfl ?_
    refine w_pu rfl rfl ?_
    refine w_cp (vI (aeC c nl)) rfl rfl (by decide) (Nat.le_of_ble_eq_true rfl) rfl (Nat.le_of_ble_eq_true rfl) (Nat.le_of_ble_eq_true rfl) ⟨wl hw Nat.one_pos, rfl⟩ rfl (x5_allEmptiesLaid X hw c hnl) ?_
    refine w_rt rfl rfl trivial ?_
    exact ⟨by rw [x5_statusF, if_neg q0, if_neg q1, if_neg q2, if_neg q3, if_neg q4, if_neg q5, if_neg q6, if_neg q7, if_neg q8, if_neg q9, if_neg q10, if_neg q11, if_pos q12], rfl⟩
  refine w_sw (t := 139) rfl (sw_out (by decide) rfl ?_) ?_
  · intro k k1
    match k, k1 with
    | 0, _ => exact q0
    | 1, _ => exact q1
    | 2, _ => exact q2
    | 3, _ => exact q3
    | 4, _ => exact q4
    | 5, _ => exact q5
    | 6, _ => exact q6
    | 7, _ => exact q7
    | 8, _ => exact q8
    | 9, _ => exact q9
    | 10, _ => exact q10
    | 11, _ => exact q11
    | 12, _ => exact q12
    | k + 13, k1 => exact absurd k1 (by omega)
  refine w_pu rfl rfl ?_
  refine w_cst (v := 20) rfl rfl rfl ?_
  refine w_pu rfl rfl ?_
  refine w_pu rfl rfl ?_
  refine w_cp (vI (x5_refusalsOfF c (20 - a))) rfl rfl (by decide) (Nat.le_of_ble_eq_true rfl) rfl (Nat.le_of_ble_eq_true rfl) (Nat.le_of_ble_eq_true rfl) ⟨wl hw Nat.one_pos, rfl⟩ rfl (x5_refusalsOf X hw c (20 - a)  ) ?_
  refine w_rt rfl rfl trivial ?_
  exact ⟨by rw [x5_statusF, if_neg q0, if_neg q1, if_neg q2, if_neg q3, if_neg q4, if_neg q5, if_neg q6, if_neg q7, if_neg q8, if_neg q9, if_neg q10, if_neg q11, if_neg q12], rfl⟩
