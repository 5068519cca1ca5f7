/-! The reference's other calls: those without a loop (written by a program). -/
def lnO (n : Nat) (v : Int32) : Option Nat := if 0 ≤ v ∧ nat v < n then some (nat v) else none
theorem lnO_some {n : Nat} {v : Int32} {k : Nat} (h : lnO n v = some k) : v = nI k ∧ k < n := by
  unfold lnO at h
  split at h
  · next q =>
    cases h
    obtain ⟨m, hm, rfl⟩ := i32_pos q.1
    rw [nat_nI hm]
    exact ⟨rfl, by have := q.2; rwa [nat_nI hm] at this⟩
  · cases h
theorem lnO_nI {n k : Nat} (hk : k < n) (hn : n ≤ 2147483648) : lnO n (nI k) = some k := by
  unfold lnO
  rw [nat_nI (by omega), if_pos ⟨nI_pos' (by omega), hk⟩]
theorem inF_lnO {n : Nat} (v : Int32) (hn : n < 2147483648) : inF v 0 (nI n - 1) = bI (lnO n v).isSome := by
  unfold inF lnO
  by_cases h0 : 0 ≤ v
  · obtain ⟨m, hm, rfl⟩ := i32_pos h0
    rw [nat_nI hm]
    rcases Nat.eq_zero_or_pos n with z | z
    · subst z
      rw [if_neg (fun q => absurd (Int32.le_trans q.1 q.2) (by decide)), if_neg (fun q => absurd q.2 (by omega))]
      rfl
    · rw [show nI n - 1 = nI (n - 1) from nI_sub (b := 1) z]
      by_cases hmn : m < n
      · rw [if_pos ⟨h0, nI_le (by omega) (by omega)⟩, if_pos ⟨h0, hmn⟩]
        rfl
      · rw [if_neg (fun q => hmn (by have := (nI_leI hm (by omega)).mp q.2; omega)), if_neg (fun q => hmn q.2)]
        rfl
  · rw [if_neg (fun q => h0 q.1), if_neg (fun q => h0 q.1)]
    rfl
/-- a number beyond a table that begins at 0 -/
theorem sw_out {pc : Nat} {d hi : Int} {offs : Array Int} {x : Int32} {t : Nat} (h1 : 0 ≤ hi ∧ hi < 2147483647) (ht : ((pc : Int) + d).toNat = t) (h : ∀ k : Nat, k < hi.toNat + 1 → ¬ x = nI k) : swt pc (.tableswitch d 0 hi offs) x = some t := by
  unfold swt
  dsimp only
  rw [if_pos, ht]
  by_cases z : x.toInt < 0
  · exact Or.inl z
  · right
    by_cases w : hi < x.toInt
    · exact w
    · exfalso
      refine h x.toInt.toNat (by omega) (Int32.toInt_inj.mp ?_)
      rw [nI_toInt (by omega)]
      omega
def cutF (nl nf np : Nat) (s : SS) (n : Int32) : Int32 × SS := (if 1 ≤ n then (if n ≤ 250 then (s 0 43, (uS s 0 43 n)) else ((-6), refuseF s 6)) else ((-4), refuseF s 4))
theorem mX_cut (X : Nat × (Nat → Int32)) {h : Hp} {nl nf np : Nat} (hw : WF h nl nf np) (s : SS)  (n : Int32) : wp X 93 0 [TM, some (vI n), none] [] (pS h s) (fun r h' => r = some (vI (cutF nl nf np s n).1) ∧ h' = pS h (cutF nl nf np s n).2) := by
  have h3 := hw.2.2.2.2.2.2.2.2
  have h4 := hw.2.2.2.2.2.2.1
  have h5 := hw.2.2.2.2.2.2.2.1
  refine w_pu rfl rfl ?_
  refine w_cst (v := 1) rfl rfl rfl ?_
  refine w_ge rfl (fun c0 => ?_) (fun c0 => ?_)
  · refine w_pu rfl rfl ?_
    refine w_cst (v := 250) rfl rfl rfl ?_
    refine w_le rfl (fun c1 => ?_) (fun c1 => ?_)
    · refine w_pu rfl rfl ?_
      refine m_g hw rfl rfl ?_
      refine w_pu rfl rfl ?_
      refine w_pu rfl rfl ?_
      refine w_pu rfl rfl ?_
      refine m_p hw rfl rfl ?_
      refine w_pu rfl rfl ?_
      refine w_rt rfl rfl trivial ?_
      exact ⟨by rw [cutF, if_pos c0, if_pos c1], by rw [cutF, if_pos c0, if_pos c1]⟩
    · refine w_pu rfl rfl ?_
      refine w_cst (v := (-6)) rfl rfl rfl ?_
      refine w_cgE (vI (-6)) (pS h (refuseF s 6)) rfl rfl (by decide) (Nat.le_of_ble_eq_true rfl) rfl (Nat.le_of_ble_eq_true rfl) (Nat.le_of_ble_eq_true rfl) ⟨wM hw 0 (by omega), rfl⟩ rfl (mX_refuse X hw s (-6) 6 (by decide) (by decide)) ?_
      refine w_rt rfl rfl trivial ?_
      exact ⟨by rw [cutF, if_pos c0, if_neg c1], by rw [cutF, if_pos c0, if_neg c1]⟩
  · refine w_pu rfl rfl ?_
    refine w_cst (v := (-4)) rfl rfl rfl ?_
    refine w_cgE (vI (-4)) (pS h (refuseF s 4)) rfl rfl (by decide) (Nat.le_of_ble_eq_true rfl) rfl (Nat.le_of_ble_eq_true rfl) (Nat.le_of_ble_eq_true rfl) ⟨wM hw 0 (by omega), rfl⟩ rfl (mX_refuse X hw s (-4) 4 (by decide) (by decide)) ?_
    refine w_rt rfl rfl trivial ?_
    exact ⟨by rw [cutF, if_neg c0], by rw [cutF, if_neg c0]⟩
def roomF (nl nf np : Nat) (s : SS) (n : Int32) : Int32 × SS := (if 4000 ≤ n then (if n ≤ 20000 then (s 0 44, (uS s 0 44 n)) else ((-6), refuseF s 6)) else ((-4), refuseF s 4))
theorem mX_room (X : Nat × (Nat → Int32)) {h : Hp} {nl nf np : Nat} (hw : WF h nl nf np) (s : SS)  (n : Int32) : wp X 94 0 [TM, some (vI n), none] [] (pS h s) (fun r h' => r = some (vI (roomF nl nf np s n).1) ∧ h' = pS h (roomF nl nf np s n).2) := by
  have h3 := hw.2.2.2.2.2.2.2.2
  have h4 := hw.2.2.2.2.2.2.1
  have h5 := hw.2.2.2.2.2.2.2.1
  refine w_pu rfl rfl ?_
  refine w_cst (v := 4000) rfl rfl rfl ?_
  refine w_ge rfl (fun c0 => ?_) (fun c0 => ?_)
  · refine w_pu rfl rfl ?_
    refine w_cst (v := 20000) rfl rfl rfl ?_
    refine w_le rfl (fun c1 => ?_) (fun c1 => ?_)
    · refine w_pu rfl rfl ?_
      refine m_g hw rfl rfl ?_
      refine w_pu rfl rfl ?_
      refine w_pu rfl rfl ?_
      refine w_pu rfl rfl ?_
      refine m_p hw rfl rfl ?_
      refine w_pu rfl rfl ?_
      refine w_rt rfl rfl trivial ?_
      exact ⟨by rw [roomF, if_pos c0, if_pos c1], by rw [roomF, if_pos c0, if_pos c1]⟩
    · refine w_pu rfl rfl ?_
      refine w_cst (v := (-6)) rfl rfl rfl ?_
      refine w_cgE (vI (-6)) (pS h (refuseF s 6)) rfl rfl (by decide) (Nat.le_of_ble_eq_true rfl) rfl (Nat.le_of_ble_eq_true rfl) (Nat.le_of_ble_eq_true rfl) ⟨wM hw 0 (by omega), rfl⟩ rfl (mX_refuse X hw s (-6) 6 (by decide) (by decide)) ?_
      refine w_rt rfl rfl trivial ?_
      exact ⟨by rw [roomF, if_pos c0, if_neg c1], by rw [roomF, if_pos c0, if_neg c1]⟩
  · refine w_pu rfl rfl ?_
    refine w_cst (v := (-4)) rfl rfl rfl ?_
    refine w_cgE (vI (-4)) (pS h (refuseF s 4)) rfl rfl (by decide) (Nat.le_of_ble_eq_true rfl) rfl (Nat.le_of_ble_eq_true rfl) (Nat.le_of_ble_eq_true rfl) ⟨wM hw 0 (by omega), rfl⟩ rfl (mX_refuse X hw s (-4) 4 (by decide) (by decide)) ?_
    refine w_rt rfl rfl trivial ?_
    exact ⟨by rw [roomF, if_neg c0], by rw [roomF, if_neg c0]⟩
def riseF (nl nf np : Nat) (s : SS) (l : Int32) : Int32 × SS := (match lnO nl l with
  | none => ((-1), refuseF s 1)
  | some kl => (if (s 4 kl) = 0 then (1, (uS s 4 kl 1)) else ((-5), refuseF s 5)))
theorem riseF_0 {nl nf np : Nat} {s : SS} {l : Int32} (el : lnO nl l = none) : riseF nl nf np s l = ((-1), refuseF s 1) := by
  unfold riseF
  rw [el]
theorem riseF_1 {nl nf np : Nat} {s : SS} {l : Int32} {kl : Nat} (el : lnO nl l = some kl) : riseF nl nf np s l = (if (s 4 kl) = 0 then (1, (uS s 4 kl 1)) else ((-5), refuseF s 5)) := by
  unfold riseF
  rw [el]
theorem mX_rise (X : Nat × (Nat → Int32)) {h : Hp} {nl nf np : Nat} (hw : WF h nl nf np) (s : SS) (hnl : s 0 0 = nI nl) (l : Int32) : wp X 116 0 [TM, some (vI l)] [] (pS h s) (fun r h' => r = some (vI (riseF nl nf np s l).1) ∧ h' = pS h (riseF nl nf np s l).2) := by
  have h3 := hw.2.2.2.2.2.2.2.2
  have h4 := hw.2.2.2.2.2.2.1
  have h5 := hw.2.2.2.2.2.2.2.1
  cases el : lnO nl l with
  | none =>
    refine w_pu rfl rfl ?_
    refine w_pu rfl rfl ?_
    refine w_cp (vI (inF l 0 (s 0 0 - 1))) rfl rfl (by decide) (Nat.le_of_ble_eq_true rfl) rfl (Nat.le_of_ble_eq_true rfl) (Nat.le_of_ble_eq_true rfl) ⟨wM hw 0 (by omega), rfl⟩ rfl (mX_isLine X hw s l) ?_
    refine w_top 0 (by rw [hnl, inF_lnO _ (by omega), el]; rfl) ?_
    refine w_ne0 rfl (fun c0 => ?_) (fun c0 => ?_)
    · exact absurd c0 (by decide)
    · refine w_pu rfl rfl ?_
      refine w_cst (v := (-1)) rfl rfl rfl ?_
      refine w_cgE (vI (-1)) (pS h (refuseF s 1)) rfl rfl (by decide) (Nat.le_of_ble_eq_true rfl) rfl (Nat.le_of_ble_eq_true rfl) (Nat.le_of_ble_eq_true rfl) ⟨wM hw 0 (by omega), rfl⟩ rfl (mX_refuse X hw s (-1) 1 (by decide) (by decide)) ?_
      refine w_rt rfl rfl trivial ?_
      exact ⟨by rw [riseF_0 el], by rw [riseF_0 el]⟩
  | some kl =>
    obtain ⟨rfl, hkl⟩ := lnO_some el
    refine w_pu rfl rfl ?_
    refine w_pu rfl rfl ?_
    refine w_cp (vI (inF (nI kl) 0 (s 0 0 - 1))) rfl rfl (by decide) (Nat.le_of_ble_eq_true rfl) rfl (Nat.le_of_ble_eq_true rfl) (Nat.le_of_ble_eq_true rfl) ⟨wM hw 0 (by omega), rfl⟩ rfl (mX_isLine X hw s (nI kl)) ?_
    refine w_top 1 (by rw [hnl, inF_lnO _ (by omega), el]; rfl) ?_
    refine w_ne0 rfl (fun c0 => ?_) (fun c0 => ?_)
    · refine w_pu rfl rfl ?_
      refine m_gR 4 hw rfl rfl rfl ?_
      refine w_pu rfl rfl ?_
      refine m_ab 4 kl hw rfl (Or.inr ⟨rfl, rfl⟩) (by omega) (by first | rfl | simp only [ix_lits, nI_mul, nI_add]) (by show kl < 8; omega) ?_
      refine w_eq0 rfl (fun c1 => ?_) (fun c1 => ?_)
      · refine w_pu rfl rfl ?_
        refine m_gR 4 hw rfl rfl rfl ?_
        refine w_pu rfl rfl ?_
        refine w_cst (v := 1) rfl rfl rfl ?_
        refine m_sz 4 kl hw rfl rfl (by omega) (by first | rfl | simp only [ix_lits, nI_mul, nI_add]) (by show kl < 8; omega) (by first | exact Or.inl rfl | exact Or.inr rfl) ?_
        refine w_cst (v := 1) rfl rfl rfl ?_
        refine w_rt rfl rfl trivial ?_
        exact ⟨by rw [riseF_1 el, if_pos c1], by rw [riseF_1 el, if_pos c1]⟩
      · refine w_pu rfl rfl ?_
        refine w_cst (v := (-5)) rfl rfl rfl ?_
        refine w_cgE (vI (-5)) (pS h (refuseF s 5)) rfl rfl (by decide) (Nat.le_of_ble_eq_true rfl) rfl (Nat.le_of_ble_eq_true rfl) (Nat.le_of_ble_eq_true rfl) ⟨wM hw 0 (by omega), rfl⟩ rfl (mX_refuse X hw s (-5) 5 (by decide) (by decide)) ?_
        refine w_rt rfl rfl trivial ?_
        exact ⟨by rw [riseF_1 el, if_neg c1], by rw [riseF_1 el, if_neg c1]⟩
    · exact absurd c0 (by decide)
def leaseF (nl nf np : Nat) (s : SS) (l a p : Int32) : Int32 × SS := (match lnO nl l with
  | none => ((-1), refuseF s 1)
  | some kl => (if (s 1 kl) = 3 then (if a < 250 then ((-4), refuseF s 4) else (if 1 ≤ p then (if 20000 < a then ((-6), refuseF s 6) else (if p ≤ 20 then (1, (uS (uS s 5 kl a) 6 kl p)) else ((-6), refuseF s 6))) else ((-4), refuseF s 4))) else ((-2), refuseF s 2)))
theorem leaseF_0 {nl nf np : Nat} {s : SS} {l a p : Int32} (el : lnO nl l = none) : leaseF nl nf np s l a p = ((-1), refuseF s 1) := by
  unfold leaseF
  rw [el]
theorem leaseF_1 {nl nf np : Nat} {s : SS} {l a p : Int32} {kl : Nat} (el : lnO nl l = some kl) : leaseF nl nf np s l a p = (if (s 1 kl) = 3 then (if a < 250 then ((-4), refuseF s 4) else (if 1 ≤ p then (if 20000 < a then ((-6), refuseF s 6) else (if p ≤ 20 then (1, (uS (uS s 5 kl a) 6 kl p)) else ((-6), refuseF s 6))) else ((-4), refuseF s 4))) else ((-2), refuseF s 2)) := by
  unfold leaseF
  rw [el]
theorem mX_lease (X : Nat × (Nat → Int32)) {h : Hp} {nl nf np : Nat} (hw : WF h nl nf np) (s : SS) (hnl : s 0 0 = nI nl) (l a p : Int32) : wp X 89 0 [TM, some (vI l), some (vI a), some (vI p)] [] (pS h s) (fun r h' => r = some (vI (leaseF nl nf np s l a p).1) ∧ h' = pS h (leaseF nl nf np s l a p).2) := by
  have h3 := hw.2.2.2.2.2.2.2.2
  have h4 := hw.2.2.2.2.2.2.1
  have h5 := hw.2.2.2.2.2.2.2.1
  cases el : lnO nl l with
  | none =>
    refine w_pu rfl rfl ?_
    refine w_pu rfl rfl ?_
    refine w_cp (vI (inF l 0 (s 0 0 - 1))) rfl rfl (by decide) (Nat.le_of_ble_eq_true rfl) rfl (Nat.le_of_ble_eq_true rfl) (Nat.le_of_ble_eq_true rfl) ⟨wM hw 0 (by omega), rfl⟩ rfl (mX_isLine X hw s l) ?_
    refine w_top 0 (by rw [hnl, inF_lnO _ (by omega), el]; rfl) ?_
    refine w_ne0 rfl (fun c0 => ?_) (fun c0 => ?_)
    · exact absurd c0 (by decide)
    · refine w_pu rfl rfl ?_
      refine w_cst (v := (-1)) rfl rfl rfl ?_
      refine w_cgE (vI (-1)) (pS h (refuseF s 1)) rfl rfl (by decide) (Nat.le_of_ble_eq_true rfl) rfl (Nat.le_of_ble_eq_true rfl) (Nat.le_of_ble_eq_true rfl) ⟨wM hw 0 (by omega), rfl⟩ rfl (mX_refuse X hw s (-1) 1 (by decide) (by decide)) ?_
      refine w_rt rfl rfl trivial ?_
      exact ⟨by rw [leaseF_0 el], by rw [leaseF_0 el]⟩
  | some kl =>
    obtain ⟨rfl, hkl⟩ := lnO_some el
    refine w_pu rfl rfl ?_
    refine w_pu rfl rfl ?_
    refine w_cp (vI (inF (nI kl) 0 (s 0 0 - 1))) rfl rfl (by decide) (Nat.le_of_ble_eq_true rfl) rfl (Nat.le_of_ble_eq_true rfl) (Nat.le_of_ble_eq_true rfl) ⟨wM hw 0 (by omega), rfl⟩ rfl (mX_isLine X hw s (nI kl)) ?_
    refine w_top 1 (by rw [hnl, inF_lnO _ (by omega), el]; rfl) ?_
    refine w_ne0 rfl (fun c0 => ?_) (fun c0 => ?_)
    · refine w_pu rfl rfl ?_
      refine m_gR 1 hw rfl rfl rfl ?_
      refine w_pu rfl rfl ?_
      refine m_ai 1 kl hw rfl rfl (by omega) (by first | rfl | simp only [ix_lits, nI_mul, nI_add]) (by show kl < 8; omega) ?_
      refine w_cst (v := 3) rfl rfl rfl ?_
      refine w_eq rfl (fun c1 => ?_) (fun c1 => ?_)
      · refine w_pu rfl rfl ?_
        refine w_cst (v := 250) rfl rfl rfl ?_
        refine w_lt rfl (fun c2 => ?_) (fun c2 => ?_)
        · refine w_pu rfl rfl ?_
          refine w_cst (v := (-4)) rfl rfl rfl ?_
          refine w_cgE (vI (-4)) (pS h (refuseF s 4)) rfl rfl (by decide) (Nat.le_of_ble_eq_true rfl) rfl (Nat.le_of_ble_eq_true rfl) (Nat.le_of_ble_eq_true rfl) ⟨wM hw 0 (by omega), rfl⟩ rfl (mX_refuse X hw s (-4) 4 (by decide) (by decide)) ?_
          refine w_rt rfl rfl trivial ?_
          exact ⟨by rw [leaseF_1 el, if_pos c1, if_pos c2], by rw [leaseF_1 el, if_pos c1, if_pos c2]⟩
        · refine w_pu rfl rfl ?_
          refine w_cst (v := 1) rfl rfl rfl ?_
          refine w_ge rfl (fun c3 => ?_) (fun c3 => ?_)
          · refine w_pu rfl rfl ?_
            refine w_cst (v := 20000) rfl rfl rfl ?_
            refine w_gt rfl (fun c4 => ?_) (fun c4 => ?_)
            · refine w_pu rfl rfl ?_
              refine w_cst (v := (-6)) rfl rfl rfl ?_
              refine w_cgE (vI (-6)) (pS h (refuseF s 6)) rfl rfl (by decide) (Nat.le_of_ble_eq_true rfl) rfl (Nat.le_of_ble_eq_true rfl) (Nat.le_of_ble_eq_true rfl) ⟨wM hw 0 (by omega), rfl⟩ rfl (mX_refuse X hw s (-6) 6 (by decide) (by decide)) ?_
              refine w_rt rfl rfl trivial ?_
              exact ⟨by rw [leaseF_1 el, if_pos c1, if_neg c2, if_pos c3, if_pos c4], by rw [leaseF_1 el, if_pos c1, if_neg c2, if_pos c3, if_pos c4]⟩
            · refine w_pu rfl rfl ?_
              refine w_cst (v := 20) rfl rfl rfl ?_
              refine w_le rfl (fun c5 => ?_) (fun c5 => ?_)
              · refine w_pu rfl rfl ?_
                refine m_gR 5 hw rfl rfl rfl ?_
                refine w_pu rfl rfl ?_
                refine w_pu rfl rfl ?_
                refine m_si 5 kl hw rfl rfl (by omega) (by first | rfl | simp only [ix_lits, nI_mul, nI_add]) (by show kl < 8; omega) ?_
                refine w_pu rfl rfl ?_
                refine m_gR 6 hw rfl rfl rfl ?_
                refine w_pu rfl rfl ?_
                refine w_pu rfl rfl ?_
                refine m_si 6 kl hw rfl rfl (by omega) (by first | rfl | simp only [ix_lits, nI_mul, nI_add]) (by show kl < 8; omega) ?_
                refine w_cst (v := 1) rfl rfl rfl ?_
                refine w_rt rfl rfl trivial ?_
                exact ⟨by rw [leaseF_1 el, if_pos c1, if_neg c2, if_pos c3, if_neg c4, if_pos c5], by rw [leaseF_1 el, if_pos c1, if_neg c2, if_pos c3, if_neg c4, if_pos c5]⟩
              · refine w_pu rfl rfl ?_
                refine w_cst (v := (-6)) rfl rfl rfl ?_
                refine w_cgE (vI (-6)) (pS h (refuseF s 6)) rfl rfl (by decide) (Nat.le_of_ble_eq_true rfl) rfl (Nat.le_of_ble_eq_true rfl) (Nat.le_of_ble_eq_true rfl) ⟨wM hw 0 (by omega), rfl⟩ rfl (mX_refuse X hw s (-6) 6 (by decide) (by decide)) ?_
                refine w_rt rfl rfl trivial ?_
                exact ⟨by rw [leaseF_1 el, if_pos c1, if_neg c2, if_pos c3, if_neg c4, if_neg c5], by rw [leaseF_1 el, if_pos c1, if_neg c2, if_pos c3, if_neg c4, if_neg c5]⟩
          · refine w_pu rfl rfl ?_
            refine w_cst (v := (-4)) rfl rfl rfl ?_
            refine w_cgE (vI (-4)) (pS h (refuseF s 4)) rfl rfl (by decide) (Nat.le_of_ble_eq_true rfl) rfl (Nat.le_of_ble_eq_true rfl) (Nat.le_of_ble_eq_true rfl) ⟨wM hw 0 (by omega), rfl⟩ rfl (mX_refuse X hw s (-4) 4 (by decide) (by decide)) ?_
            refine w_rt rfl rfl trivial ?_
            exact ⟨by rw [leaseF_1 el, if_pos c1, if_neg c2, if_neg c3], by rw [leaseF_1 el, if_pos c1, if_neg c2, if_neg c3]⟩
      · refine w_pu rfl rfl ?_
        refine w_cst (v := (-2)) rfl rfl rfl ?_
        refine w_cgE (vI (-2)) (pS h (refuseF s 2)) rfl rfl (by decide) (Nat.le_of_ble_eq_true rfl) rfl (Nat.le_of_ble_eq_true rfl) (Nat.le_of_ble_eq_true rfl) ⟨wM hw 0 (by omega), rfl⟩ rfl (mX_refuse X hw s (-2) 2 (by decide) (by decide)) ?_
        refine w_rt rfl rfl trivial ?_
        exact ⟨by rw [leaseF_1 el, if_neg c1], by rw [leaseF_1 el, if_neg c1]⟩
    · exact absurd c0 (by decide)
def lostOnF (nl nf np : Nat) (s : SS) (p l : Int32) : Int32 × SS := (match lnO np p with
  | none => ((-9), s)
  | some kp => (match lnO nl l with
  | none => ((-9), s)
  | some kl => (s 30 ((8 * kp) + kl), s)))
theorem lostOnF_0 {nl nf np : Nat} {s : SS} {p l : Int32} (ep : lnO np p = none) : lostOnF nl nf np s p l = ((-9), s) := by
  unfold lostOnF
  rw [ep]
theorem lostOnF_1 {nl nf np : Nat} {s : SS} {p l : Int32} {kp : Nat} (ep : lnO np p = some kp) (el : lnO nl l = none) : lostOnF nl nf np s p l = ((-9), s) := by
  unfold lostOnF
  rw [ep]; dsimp only; rw [el]
theorem lostOnF_2 {nl nf np : Nat} {s : SS} {p l : Int32} {kp : Nat} {kl : Nat} (ep : lnO np p = some kp) (el : lnO nl l = some kl) : lostOnF nl nf np s p l = (s 30 ((8 * kp) + kl), s) := by
  unfold lostOnF
  rw [ep]; dsimp only; rw [el]
theorem mX_lostOn (X : Nat × (Nat → Int32)) {h : Hp} {nl nf np : Nat} (hw : WF h nl nf np) (s : SS) (hnl : s 0 0 = nI nl) (hnp : s 0 23 = nI np) (p l : Int32) : wp X 120 0 [TM, some (vI p), some (vI l)] [] (pS h s) (fun r h' => r = some (vI (lostOnF nl nf np s p l).1) ∧ h' = pS h (lostOnF nl nf np s p l).2) := by
  have h3 := hw.2.2.2.2.2.2.2.2
  have h4 := hw.2.2.2.2.2.2.1
  have h5 := hw.2.2.2.2.2.2.2.1
  cases ep : lnO np p with
  | none =>
    refine w_pu rfl rfl ?_
    refine w_pu rfl rfl ?_
    refine w_cp (vI (inF p 0 (s 0 23 - 1))) rfl rfl (by decide) (Nat.le_of_ble_eq_true rfl) rfl (Nat.le_of_ble_eq_true rfl) (Nat.le_of_ble_eq_true rfl) ⟨wM hw 0 (by omega), rfl⟩ rfl (mX_isPiece X hw s p) ?_
    refine w_top 0 (by rw [hnp, inF_lnO _ (by omega), ep]; rfl) ?_
    refine w_eq0 rfl (fun c0 => ?_) (fun c0 => ?_)
    · refine w_cst (v := (-9)) rfl rfl rfl ?_
      refine w_rt rfl rfl trivial ?_
      exact ⟨by rw [lostOnF_0 ep], by rw [lostOnF_0 ep]⟩
    · exact absurd c0 (by decide)
  | some kp =>
    obtain ⟨rfl, hkp⟩ := lnO_some ep
    cases el : lnO nl l with
    | none =>
      refine w_pu rfl rfl ?_
      refine w_pu rfl rfl ?_
      refine w_cp (vI (inF (nI kp) 0 (s 0 23 - 1))) rfl rfl (by decide) (Nat.le_of_ble_eq_true rfl) rfl (Nat.le_of_ble_eq_true rfl) (Nat.le_of_ble_eq_true rfl) ⟨wM hw 0 (by omega), rfl⟩ rfl (mX_isPiece X hw s (nI kp)) ?_
      refine w_top 1 (by rw [hnp, inF_lnO _ (by omega), ep]; rfl) ?_
      refine w_eq0 rfl (fun c0 => ?_) (fun c0 => ?_)
      · exact absurd c0 (by decide)
      · refine w_pu rfl rfl ?_
        refine w_pu rfl rfl ?_
        refine w_cp (vI (inF l 0 (s 0 0 - 1))) rfl rfl (by decide) (Nat.le_of_ble_eq_true rfl) rfl (Nat.le_of_ble_eq_true rfl) (Nat.le_of_ble_eq_true rfl) ⟨wM hw 0 (by omega), rfl⟩ rfl (mX_isLine X hw s l) ?_
        refine w_top 0 (by rw [hnl, inF_lnO _ (by omega), el]; rfl) ?_
        refine w_eq0 rfl (fun c1 => ?_) (fun c1 => ?_)
        · refine w_cst (v := (-9)) rfl rfl rfl ?_
          refine w_rt rfl rfl trivial ?_
          exact ⟨by rw [lostOnF_1 ep el], by rw [lostOnF_1 ep el]⟩
        · exact absurd c1 (by decide)
    | some kl =>
      obtain ⟨rfl, hkl⟩ := lnO_some el
      refine w_pu rfl rfl ?_
      refine w_pu rfl rfl ?_
      refine w_cp (vI (inF (nI kp) 0 (s 0 23 - 1))) rfl rfl (by decide) (Nat.le_of_ble_eq_true rfl) rfl (Nat.le_of_ble_eq_true rfl) (Nat.le_of_ble_eq_true rfl) ⟨wM hw 0 (by omega), rfl⟩ rfl (mX_isPiece X hw s (nI kp)) ?_
      refine w_top 1 (by rw [hnp, inF_lnO _ (by omega), ep]; rfl) ?_
      refine w_eq0 rfl (fun c0 => ?_) (fun c0 => ?_)
      · exact absurd c0 (by decide)
      · refine w_pu rfl rfl ?_
        refine w_pu rfl rfl ?_
        refine w_cp (vI (inF (nI kl) 0 (s 0 0 - 1))) rfl rfl (by decide) (Nat.le_of_ble_eq_true rfl) rfl (Nat.le_of_ble_eq_true rfl) (Nat.le_of_ble_eq_true rfl) ⟨wM hw 0 (by omega), rfl⟩ rfl (mX_isLine X hw s (nI kl)) ?_
        refine w_top 1 (by rw [hnl, inF_lnO _ (by omega), el]; rfl) ?_
        refine w_eq0 rfl (fun c1 => ?_) (fun c1 => ?_)
        · exact absurd c1 (by decide)
        · refine w_pu rfl rfl ?_
          refine m_gR 30 hw rfl rfl rfl ?_
          refine w_cst (v := 8) rfl rfl rfl ?_
          refine w_pu rfl rfl ?_
          refine w_pu rfl rfl ?_
          refine w_pu rfl rfl ?_
          refine w_pu rfl rfl ?_
          refine m_ai 30 ((8 * kp) + kl) hw rfl rfl (by omega) (by first | rfl | simp only [ix_lits, nI_mul, nI_add]) (by show ((8 * kp) + kl) < 24000; omega) ?_
          refine w_go rfl ?_
          refine w_rt rfl rfl trivial ?_
          exact ⟨by rw [lostOnF_2 ep el], by rw [lostOnF_2 ep el]⟩
def lineF (nl nf np : Nat) (s : SS) (l a : Int32) : Int32 × SS := (match lnO nl l with
  | none => ((-9), s)
  | some kl => (if a = 0 then (s 1 kl, s) else if a = 1 then (s 2 kl, s) else if a = 2 then (s 3 kl, s) else if a = 3 then (if (s 4 kl) = 0 then (0, s) else (1, s)) else if a = 4 then (s 8 kl, s) else if a = 5 then (wsum s kl (nat (s 8 kl)), s) else if a = 6 then (s 15 kl, s) else if a = 7 then (s 16 kl, s) else if a = 8 then (s 17 kl, s) else if a = 9 then (s 18 kl, s) else if a = 10 then (s 19 kl, s) else if a = 11 then (s 20 kl, s) else if a = 12 then (s 21 kl, s) else if a = 13 then (s 5 kl, s) else if a = 14 then (s 6 kl, s) else ((-9), s)))
theorem lineF_0 {nl nf np : Nat} {s : SS} {l a : Int32} (el : lnO nl l = none) : lineF nl nf np s l a = ((-9), s) := by
  unfold lineF
  rw [el]
theorem lineF_1 {nl nf np : Nat} {s : SS} {l a : Int32} {kl : Nat} (el : lnO nl l = some kl) : lineF nl nf np s l a = (if a = 0 then (s 1 kl, s) else if a = 1 then (s 2 kl, s) else if a = 2 then (s 3 kl, s) else if a = 3 then (if (s 4 kl) = 0 then (0, s) else (1, s)) else if a = 4 then (s 8 kl, s) else if a = 5 then (wsum s kl (nat (s 8 kl)), s) else if a = 6 then (s 15 kl, s) else if a = 7 then (s 16 kl, s) else if a = 8 then (s 17 kl, s) else if a = 9 then (s 18 kl, s) else if a = 10 then (s 19 kl, s) else if a = 11 then (s 20 kl, s) else if a = 12 then (s 21 kl, s) else if a = 13 then (s 5 kl, s) else if a = 14 then (s 6 kl, s) else ((-9), s)) := by
  unfold lineF
  rw [el]
theorem mX_line (X : Nat × (Nat → Int32)) {h : Hp} {nl nf np : Nat} (hw : WF h nl nf np) (s : SS) (hnl : s 0 0 = nI nl) (hq : ∀ l, l < nl → ∃ q, s 8 l = nI q ∧ q ≤ 40 ∧ ∀ k, k < q → okp np (s 7 (41 * l + k))) (l a : Int32) : wp X 117 0 [TM, some (vI l), some (vI a)] [] (pS h s) (fun r h' => r = some (vI (lineF nl nf np s l a).1) ∧ h' = pS h (lineF nl nf np s l a).2) := by
  have h3 := hw.2.2.2.2.2.2.2.2
  have h4 := hw.2.2.2.2.2.2.1
  have h5 := hw.2.2.2.2.2.2.2.1
  cases el : lnO nl l with
  | none =>
    refine w_pu rfl rfl ?_
    refine w_pu rfl rfl ?_
    refine w_cp (vI (inF l 0 (s 0 0 - 1))) rfl rfl (by decide) (Nat.le_of_ble_eq_true rfl) rfl (Nat.le_of_ble_eq_true rfl) (Nat.le_of_ble_eq_true rfl) ⟨wM hw 0 (by omega), rfl⟩ rfl (mX_isLine X hw s l) ?_
    refine w_top 0 (by rw [hnl, inF_lnO _ (by omega), el]; rfl) ?_
    refine w_ne0 rfl (fun c0 => ?_) (fun c0 => ?_)
    · exact absurd c0 (by decide)
    · refine w_cst (v := (-9)) rfl rfl rfl ?_
      refine w_rt rfl rfl trivial ?_
      exact ⟨by rw [lineF_0 el], by rw [lineF_0 el]⟩
  | some kl =>
    obtain ⟨rfl, hkl⟩ := lnO_some el
    obtain ⟨q, z1, z2, z3⟩ := hq kl hkl
    refine w_pu rfl rfl ?_
    refine w_pu rfl rfl ?_
    refine w_cp (vI (inF (nI kl) 0 (s 0 0 - 1))) rfl rfl (by decide) (Nat.le_of_ble_eq_true rfl) rfl (Nat.le_of_ble_eq_true rfl) (Nat.le_of_ble_eq_true rfl) ⟨wM hw 0 (by omega), rfl⟩ rfl (mX_isLine X hw s (nI kl)) ?_
    refine w_top 1 (by rw [hnl, inF_lnO _ (by omega), el]; rfl) ?_
    refine w_ne0 rfl (fun c0 => ?_) (fun c0 => ?_)
    · refine w_pu rfl rfl ?_
      by_cases q0 : a = 0
      · refine w_top 0 q0 ?_
        refine w_sw (t := 88) rfl rfl ?_
        refine w_pu rfl rfl ?_
        refine m_gR 1 hw rfl rfl rfl ?_
        refine w_pu rfl rfl ?_
        refine m_ai 1 kl hw rfl rfl (by omega) (by first | rfl | simp only [ix_lits, nI_mul, nI_add]) (by show kl < 8; omega) ?_
        refine w_rt rfl rfl trivial ?_
        exact ⟨by rw [lineF_1 el, if_pos q0], by rw [lineF_1 el, if_pos q0]⟩
      by_cases q1 : a = 1
      · refine w_top 1 q1 ?_
        refine w_sw (t := 95) rfl rfl ?_
        refine w_pu rfl rfl ?_
        refine m_gR 2 hw rfl rfl rfl ?_
        refine w_pu rfl rfl ?_
        refine m_ai 2 kl hw rfl rfl (by omega) (by first | rfl | simp only [ix_lits, nI_mul, nI_add]) (by show kl < 8; omega) ?_
        refine w_rt rfl rfl trivial ?_
        exact ⟨by rw [lineF_1 el, if_neg q0, if_pos q1], by rw [lineF_1 el, if_neg q0, if_pos q1]⟩
      by_cases q2 : a = 2
      · refine w_top 2 q2 ?_
        refine w_sw (t := 102) rfl rfl ?_
        refine w_pu rfl rfl ?_
        refine m_gR 3 hw rfl rfl rfl ?_
        refine w_pu rfl rfl ?_
        refine m_ai 3 kl hw rfl rfl (by omega) (by first | rfl | simp only [ix_lits, nI_mul, nI_add]) (by show kl < 8; omega) ?_
        refine w_rt rfl rfl trivial ?_
        exact ⟨by rw [lineF_1 el, if_neg q0, if_neg q1, if_pos q2], by rw [lineF_1 el, if_neg q0, if_neg q1, if_pos q2]⟩
      by_cases q3 : a = 3
      · refine w_top 3 q3 ?_
        refine w_sw (t := 109) rfl rfl ?_
        refine w_pu rfl rfl ?_
        refine m_gR 4 hw rfl rfl rfl ?_
        refine w_pu rfl rfl ?_
        refine m_ab 4 kl hw rfl (Or.inr ⟨rfl, rfl⟩) (by omega) (by first | rfl | simp only [ix_lits, nI_mul, nI_add]) (by show kl < 8; omega) ?_
        refine w_eq0 rfl (fun c1 => ?_) (fun c1 => ?_)
        · refine w_cst (v := 0) rfl rfl rfl ?_
          refine w_rt rfl rfl trivial ?_
          exact ⟨by rw [lineF_1 el, if_neg q0, if_neg q1, if_neg q2, if_pos q3, if_pos c1], by rw [lineF_1 el, if_neg q0, if_neg q1, if_neg q2, if_pos q3, if_pos c1]⟩
        · refine w_cst (v := 1) rfl rfl rfl ?_
          refine w_go rfl ?_
          refine w_rt rfl rfl trivial ?_
          exact ⟨by rw [lineF_1 el, if_neg q0, if_neg q1, if_neg q2, if_pos q3, if_neg c1], by rw [lineF_1 el, if_neg q0, if_neg q1, if_neg q2, if_pos q3, if_neg c1]⟩
      by_cases q4 : a = 4
      · refine w_top 4 q4 ?_
        refine w_sw (t := 124) rfl rfl ?_
        refine w_pu rfl rfl ?_
        refine m_gR 8 hw rfl rfl rfl ?_
        refine w_pu rfl rfl ?_
        refine m_ai 8 kl hw rfl rfl (by omega) (by first | rfl | simp only [ix_lits, nI_mul, nI_add]) (by show kl < 8; omega) ?_
        refine w_rt rfl rfl trivial ?_
        exact ⟨by rw [lineF_1 el, if_neg q0, if_neg q1, if_neg q2, if_neg q3, if_pos q4], by rw [lineF_1 el, if_neg q0, if_neg q1, if_neg q2, if_neg q3, if_pos q4]⟩
      by_cases q5 : a = 5
      · refine w_top 5 q5 ?_
        refine w_sw (t := 131) rfl rfl ?_
        refine w_pu rfl rfl ?_
        refine w_pu rfl rfl ?_
        refine w_cp (vI (wsum s kl q)) rfl rfl (by decide) (Nat.le_of_ble_eq_true rfl) rfl (Nat.le_of_ble_eq_true rfl) (Nat.le_of_ble_eq_true rfl) ⟨wM hw 0 (by omega), rfl⟩ rfl (mX_waiting X hw s kl q hkl z1 z2 z3) ?_
        refine w_top (wsum s kl (nat (s 8 kl))) (by rw [z1, nat_nI (by omega)]) ?_
        refine w_rt rfl rfl trivial ?_
        exact ⟨by rw [lineF_1 el, if_neg q0, if_neg q1, if_neg q2, if_neg q3, if_neg q4, if_pos q5], by rw [lineF_1 el, if_neg q0, if_neg q1, if_neg q2, if_neg q3, if_neg q4, if_pos q5]⟩
      by_cases q6 : a = 6
      · refine w_top 6 q6 ?_
        refine w_sw (t := 137) rfl rfl ?_
        refine w_pu rfl rfl ?_
        refine m_gR 15 hw rfl rfl rfl ?_
        refine w_pu rfl rfl ?_
        refine m_ai 15 kl hw rfl rfl (by omega) (by first | rfl | simp only [ix_lits, nI_mul, nI_add]) (by show kl < 8; omega) ?_
        refine w_rt rfl rfl trivial ?_
        exact ⟨by rw [lineF_1 el, if_neg q0, if_neg q1, if_neg q2, if_neg q3, if_neg q4, if_neg q5, if_pos q6], by rw [lineF_1 el, if_neg q0, if_neg q1, if_neg q2, if_neg q3, if_neg q4, if_neg q5, if_pos q6]⟩
      by_cases q7 : a = 7
      · refine w_top 7 q7 ?_
        refine w_sw (t := 144) rfl rfl ?_
        refine w_pu rfl rfl ?_
        refine m_gR 16 hw rfl rfl rfl ?_
        refine w_pu rfl rfl ?_
        refine m_ai 16 kl hw rfl rfl (by omega) (by first | rfl | simp only [ix_lits, nI_mul, nI_add]) (by show kl < 8; omega) ?_
        refine w_rt rfl rfl trivial ?_
        exact ⟨by rw [lineF_1 el, if_neg q0, if_neg q1, if_neg q2, if_neg q3, if_neg q4, if_neg q5, if_neg q6, if_pos q7], by rw [lineF_1 el, if_neg q0, if_neg q1, if_neg q2, if_neg q3, if_neg q4, if_neg q5, if_neg q6, if_pos q7]⟩
      by_cases q8 : a = 8
      · refine w_top 8 q8 ?_
        refine w_sw (t := 151) rfl rfl ?_
        refine w_pu rfl rfl ?_
        refine m_gR 17 hw rfl rfl rfl ?_
        refine w_pu rfl rfl ?_
        refine m_ai 17 kl hw rfl rfl (by omega) (by first | rfl | simp only [ix_lits, nI_mul, nI_add]) (by show kl < 8; omega) ?_
        refine w_rt rfl rfl trivial ?_
        exact ⟨by rw [lineF_1 el, if_neg q0, if_neg q1, if_neg q2, if_neg q3, if_neg q4, if_neg q5, if_neg q6, if_neg q7, if_pos q8], by rw [lineF_1 el, if_neg q0, if_neg q1, if_neg q2, if_neg q3, if_neg q4, if_neg q5, if_neg q6, if_neg q7, if_pos q8]⟩
      by_cases q9 : a = 9
      · refine w_top 9 q9 ?_
        refine w_sw (t := 158) rfl rfl ?_
        refine w_pu rfl rfl ?_
        refine m_gR 18 hw rfl rfl rfl ?_
        refine w_pu rfl rfl ?_
        refine m_ai 18 kl hw rfl rfl (by omega) (by first | rfl | simp only [ix_lits, nI_mul, nI_add]) (by show kl < 8; omega) ?_
        refine w_rt rfl rfl trivial ?_
        exact ⟨by rw [lineF_1 el, if_neg q0, if_neg q1, if_neg q2, if_neg q3, if_neg q4, if_neg q5, if_neg q6, if_neg q7, if_neg q8, if_pos q9], by rw [lineF_1 el, if_neg q0, if_neg q1, if_neg q2, if_neg q3, if_neg q4, if_neg q5, if_neg q6, if_neg q7, if_neg q8, if_pos q9]⟩
      by_cases q10 : a = 10
      · refine w_top 10 q10 ?_
        refine w_sw (t := 165) rfl rfl ?_
        refine w_pu rfl rfl ?_
        refine m_gR 19 hw rfl rfl rfl ?_
        refine w_pu rfl rfl ?_
        refine m_ai 19 kl hw rfl rfl (by omega) (by first | rfl | simp only [ix_lits, nI_mul, nI_add]) (by show kl < 8; omega) ?_
        refine w_rt rfl rfl trivial ?_
        exact ⟨by rw [lineF_1 el, if_neg q0, if_neg q1, if_neg q2, if_neg q3, if_neg q4, if_neg q5, if_neg q6, if_neg q7, if_neg q8, if_neg q9, if_pos q10], by rw [lineF_1 el, if_neg q0, if_neg q1, if_neg q2, if_neg q3, if_neg q4, if_neg q5, if_neg q6, if_neg q7, if_neg q8, if_neg q9, if_pos q10]⟩
      by_cases q11 : a = 11
      · refine w_top 11 q11 ?_
        refine w_sw (t := 172) rfl rfl ?_
        refine w_pu rfl rfl ?_
        refine m_gR 20 hw rfl rfl rfl ?_
        refine w_pu rfl rfl ?_
        refine m_ai 20 kl hw rfl rfl (by omega) (by first | rfl | simp only [ix_lits, nI_mul, nI_add]) (by show kl < 8; omega) ?_
        refine w_rt rfl rfl trivial ?_
        exact ⟨by rw [lineF_1 el, if_neg q0, if_neg q1, if_neg q2, if_neg q3, if_neg q4, if_neg q5, if_neg q6, if_neg q7, if_neg q8, if_neg q9, if_neg q10, if_pos q11], by rw [lineF_1 el, if_neg q0, if_neg q1, if_neg q2, if_neg q3, if_neg q4, if_neg q5, if_neg q6, if_neg q7, if_neg q8, if_neg q9, if_neg q10, if_pos q11]⟩
      by_cases q12 : a = 12
      · refine w_top 12 q12 ?_
        refine w_sw (t := 179) rfl rfl ?_
        refine w_pu rfl rfl ?_
        refine m_gR 21 hw rfl rfl rfl ?_
        refine w_pu rfl rfl ?_
        refine m_ai 21 kl hw rfl rfl (by omega) (by first | rfl | simp only [ix_lits, nI_mul, nI_add]) (by show kl < 8; omega) ?_
        refine w_rt rfl rfl trivial ?_
        exact ⟨by rw [lineF_1 el, if_neg q0, if_neg q1, if_neg q2, if_neg q3, if_neg q4, if_neg q5, if_neg q6, if_neg q7, if_neg q8, if_neg q9, if_neg q10, if_neg q11, if_pos q12], by rw [lineF_1 el, if_neg q0, if_neg q1, if_neg q2, if_neg q3, if_neg q4, if_neg q5, if_neg q6, if_neg q7, if_neg q8, if_neg q9, if_neg q10, if_neg q11, if_pos q12]⟩
      by_cases q13 : a = 13
      · refine w_top 13 q13 ?_
        refine w_sw (t := 186) rfl rfl ?_
        refine w_pu rfl rfl ?_
        refine m_gR 5 hw rfl rfl rfl ?_
        refine w_pu rfl rfl ?_
        refine m_ai 5 kl hw rfl rfl (by omega) (by first | rfl | simp only [ix_lits, nI_mul, nI_add]) (by show kl < 8; omega) ?_
        refine w_rt rfl rfl trivial ?_
        exact ⟨by rw [lineF_1 el, if_neg q0, if_neg q1, if_neg q2, if_neg q3, if_neg q4, if_neg q5, if_neg q6, if_neg q7, if_neg q8, if_neg q9, if_neg q10, if_neg q11, if_neg q12, if_pos q13], by rw [lineF_1 el, if_neg q0, if_neg q1, if_neg q2, if_neg q3, if_neg q4, if_neg q5, if_neg q6, if_neg q7, if_neg q8, if_neg q9, if_neg q10, if_neg q11, if_neg q12, if_pos q13]⟩
      by_cases q14 : a = 14
      · refine w_top 14 q14 ?_
        refine w_sw (t := 193) rfl rfl ?_
        refine w_pu rfl rfl ?_
        refine m_gR 6 hw rfl rfl rfl ?_
        refine w_pu rfl rfl ?_
        refine m_ai 6 kl hw rfl rfl (by omega) (by first | rfl | simp only [ix_lits, nI_mul, nI_add]) (by show kl < 8; omega) ?_
        refine w_rt rfl rfl trivial ?_
        exact ⟨by rw [lineF_1 el, if_neg q0, if_neg q1, if_neg q2, if_neg q3, if_neg q4, if_neg q5, if_neg q6, if_neg q7, if_neg q8, if_neg q9, if_neg q10, if_neg q11, if_neg q12, if_neg q13, if_pos q14], by rw [lineF_1 el, if_neg q0, if_neg q1, if_neg q2, if_neg q3, if_neg q4, if_neg q5, if_neg q6, if_neg q7, if_neg q8, if_neg q9, if_neg q10, if_neg q11, if_neg q12, if_neg q13, if_pos q14]⟩
      refine w_sw (t := 200) rfl (sw_out (by decide) rfl ?_) ?_
      · intro k k1
        match k, k1 with
        | 0, _ => exact q0
        | 1, _ => exact q1
        | 2, _ => exact q2
        | 3, _ => exact q3
        | 4, _ => exact q4
        | 5, _ => exact q5
        | 6, _ => exact q6
        | 7, _ => exact q7
        | 8, _ => exact q8
        | 9, _ => exact q9
        | 10, _ => exact q10
        | 11, _ => exact q11
        | 12, _ => exact q12
        | 13, _ => exact q13
        | 14, _ => exact q14
        | k + 15, k1 => exact absurd k1 (by omega)
      refine w_cst (v := (-9)) rfl rfl rfl ?_
      refine w_rt rfl rfl trivial ?_
      exact ⟨by rw [lineF_1 el, if_neg q0, if_neg q1, if_neg q2, if_neg q3, if_neg q4, if_neg q5, if_neg q6, if_neg q7, if_neg q8, if_neg q9, if_neg q10, if_neg q11, if_neg q12, if_neg q13, if_neg q14], by rw [lineF_1 el, if_neg q0, if_neg q1, if_neg q2, if_neg q3, if_neg q4, if_neg q5, if_neg q6, if_neg q7, if_neg q8, if_neg q9, if_neg q10, if_neg q11, if_neg q12, if_neg q13, if_neg q14]⟩
    · exact absurd c0 (by decide)
def queuedF (nl nf np : Nat) (s : SS) (l k : Int32) : Int32 × SS := (match lnO nl l with
  | none => ((-9), s)
  | some kl => (match lnO (nat (s 8 kl)) k with
  | none => ((-9), s)
  | some kk => (s 7 ((41 * kl) + kk), s)))
theorem queuedF_0 {nl nf np : Nat} {s : SS} {l k : Int32} (el : lnO nl l = none) : queuedF nl nf np s l k = ((-9), s) := by
  unfold queuedF
  rw [el]
theorem queuedF_1 {nl nf np : Nat} {s : SS} {l k : Int32} {kl : Nat} (el : lnO nl l = some kl) (ek : lnO (nat (s 8 kl)) k = none) : queuedF nl nf np s l k = ((-9), s) := by
  unfold queuedF
  rw [el]; dsimp only; rw [ek]
theorem queuedF_2 {nl nf np : Nat} {s : SS} {l k : Int32} {kl : Nat} {kk : Nat} (el : lnO nl l = some kl) (ek : lnO (nat (s 8 kl)) k = some kk) : queuedF nl nf np s l k = (s 7 ((41 * kl) + kk), s) := by
  unfold queuedF
  rw [el]; dsimp only; rw [ek]
theorem mX_queued (X : Nat × (Nat → Int32)) {h : Hp} {nl nf np : Nat} (hw : WF h nl nf np) (s : SS) (hnl : s 0 0 = nI nl) (hq : ∀ l, l < nl → ∃ q, s 8 l = nI q ∧ q ≤ 40 ∧ ∀ k, k < q → okp np (s 7 (41 * l + k))) (l k : Int32) : wp X 121 0 [TM, some (vI l), some (vI k)] [] (pS h s) (fun r h' => r = some (vI (queuedF nl nf np s l k).1) ∧ h' = pS h (queuedF nl nf np s l k).2) := by
  have h3 := hw.2.2.2.2.2.2.2.2
  have h4 := hw.2.2.2.2.2.2.1
  have h5 := hw.2.2.2.2.2.2.2.1
  cases el : lnO nl l with
  | none =>
    refine w_pu rfl rfl ?_
    refine w_pu rfl rfl ?_
    refine w_cp (vI (inF l 0 (s 0 0 - 1))) rfl rfl (by decide) (Nat.le_of_ble_eq_true rfl) rfl (Nat.le_of_ble_eq_true rfl) (Nat.le_of_ble_eq_true rfl) ⟨wM hw 0 (by omega), rfl⟩ rfl (mX_isLine X hw s l) ?_
    refine w_top 0 (by rw [hnl, inF_lnO _ (by omega), el]; rfl) ?_
    refine w_eq0 rfl (fun c0 => ?_) (fun c0 => ?_)
    · refine w_cst (v := (-9)) rfl rfl rfl ?_
      refine w_rt rfl rfl trivial ?_
      exact ⟨by rw [queuedF_0 el], by rw [queuedF_0 el]⟩
    · exact absurd c0 (by decide)
  | some kl =>
    obtain ⟨rfl, hkl⟩ := lnO_some el
    obtain ⟨q, z1, z2, z3⟩ := hq kl hkl
    cases ek : lnO (nat (s 8 kl)) k with
    | none =>
      refine w_pu rfl rfl ?_
      refine w_pu rfl rfl ?_
      refine w_cp (vI (inF (nI kl) 0 (s 0 0 - 1))) rfl rfl (by decide) (Nat.le_of_ble_eq_true rfl) rfl (Nat.le_of_ble_eq_true rfl) (Nat.le_of_ble_eq_true rfl) ⟨wM hw 0 (by omega), rfl⟩ rfl (mX_isLine X hw s (nI kl)) ?_
      refine w_top 1 (by rw [hnl, inF_lnO _ (by omega), el]; rfl) ?_
      refine w_eq0 rfl (fun c0 => ?_) (fun c0 => ?_)
      · exact absurd c0 (by decide)
      · refine w_pu rfl rfl ?_
        refine w_cst (v := 0) rfl rfl rfl ?_
        refine w_pu rfl rfl ?_
        refine m_gR 8 hw rfl rfl rfl ?_
        refine w_pu rfl rfl ?_
        refine m_ai 8 kl hw rfl rfl (by omega) (by first | rfl | simp only [ix_lits, nI_mul, nI_add]) (by show kl < 8; omega) ?_
        refine w_cst (v := 1) rfl rfl rfl ?_
        refine w_pu rfl rfl ?_
        refine w_cp (vI (inF k 0 ((s 8 kl) - 1))) rfl rfl (by decide) (Nat.le_of_ble_eq_true rfl) rfl (Nat.le_of_ble_eq_true rfl) (Nat.le_of_ble_eq_true rfl) trivial rfl (mX_in X _ k 0 ((s 8 kl) - 1)) ?_
        refine w_top 0 (by rw [show s 8 kl - 1 = nI (nat (s 8 kl)) - 1 by rw [z1, nat_nI (by omega)], inF_lnO _ (by rw [z1, nat_nI (by omega)]; omega), ek]; rfl) ?_
        refine w_eq0 rfl (fun c1 => ?_) (fun c1 => ?_)
        · refine w_cst (v := (-9)) rfl rfl rfl ?_
          refine w_rt rfl rfl trivial ?_
          exact ⟨by rw [queuedF_1 el ek], by rw [queuedF_1 el ek]⟩
        · exact absurd c1 (by decide)
    | some kk =>
      obtain ⟨rfl, hkk⟩ := lnO_some ek
      rw [z1, nat_nI (by omega)] at hkk
      refine w_pu rfl rfl ?_
      refine w_pu rfl rfl ?_
      refine w_cp (vI (inF (nI kl) 0 (s 0 0 - 1))) rfl rfl (by decide) (Nat.le_of_ble_eq_true rfl) rfl (Nat.le_of_ble_eq_true rfl) (Nat.le_of_ble_eq_true rfl) ⟨wM hw 0 (by omega), rfl⟩ rfl (mX_isLine X hw s (nI kl)) ?_
      refine w_top 1 (by rw [hnl, inF_lnO _ (by omega), el]; rfl) ?_
      refine w_eq0 rfl (fun c0 => ?_) (fun c0 => ?_)
      · exact absurd c0 (by decide)
      · refine w_pu rfl rfl ?_
        refine w_cst (v := 0) rfl rfl rfl ?_
        refine w_pu rfl rfl ?_
        refine m_gR 8 hw rfl rfl rfl ?_
        refine w_pu rfl rfl ?_
        refine m_ai 8 kl hw rfl rfl (by omega) (by first | rfl | simp only [ix_lits, nI_mul, nI_add]) (by show kl < 8; omega) ?_
        refine w_cst (v := 1) rfl rfl rfl ?_
        refine w_pu rfl rfl ?_
        refine w_cp (vI (inF (nI kk) 0 ((s 8 kl) - 1))) rfl rfl (by decide) (Nat.le_of_ble_eq_true rfl) rfl (Nat.le_of_ble_eq_true rfl) (Nat.le_of_ble_eq_true rfl) trivial rfl (mX_in X _ (nI kk) 0 ((s 8 kl) - 1)) ?_
        refine w_top 1 (by rw [show s 8 kl - 1 = nI (nat (s 8 kl)) - 1 by rw [z1, nat_nI (by omega)], inF_lnO _ (by rw [z1, nat_nI (by omega)]; omega), ek]; rfl) ?_
        refine w_eq0 rfl (fun c1 => ?_) (fun c1 => ?_)
        · exact absurd c1 (by decide)
        · refine w_pu rfl rfl ?_
          refine m_gR 7 hw rfl rfl rfl ?_
          refine w_cst (v := 41) rfl rfl rfl ?_
          refine w_pu rfl rfl ?_
          refine w_pu rfl rfl ?_
          refine w_pu rfl rfl ?_
          refine w_pu rfl rfl ?_
          refine m_ai 7 ((41 * kl) + kk) hw rfl rfl (by omega) (by first | rfl | simp only [ix_lits, nI_mul, nI_add]) (by show ((41 * kl) + kk) < 328; omega) ?_
          refine w_go rfl ?_
          refine w_rt rfl rfl trivial ?_
          exact ⟨by rw [queuedF_2 el ek], by rw [queuedF_2 el ek]⟩
def underF (nl nf np : Nat) (s : SS) (l k a : Int32) : Int32 × SS := (match lnO nl l with
  | none => ((-9), s)
  | some kl => (match lnO (nat (s 15 kl)) k with
  | none => ((-9), s)
  | some kk => (if (inF a 0 3) = 0 then ((-9), s) else (if a = 0 then (s 10 ((200 * kl) + ((nat (s 14 kl) + kk) % 200)), s) else (if a = 1 then (s 11 ((200 * kl) + ((nat (s 14 kl) + kk) % 200)), s) else (if a = 2 then (s 12 ((200 * kl) + ((nat (s 14 kl) + kk) % 200)), s) else (s 13 ((200 * kl) + ((nat (s 14 kl) + kk) % 200)), s)))))))
theorem underF_0 {nl nf np : Nat} {s : SS} {l k a : Int32} (el : lnO nl l = none) : underF nl nf np s l k a = ((-9), s) := by
  unfold underF
  rw [el]
theorem underF_1 {nl nf np : Nat} {s : SS} {l k a : Int32} {kl : Nat} (el : lnO nl l = some kl) (ek : lnO (nat (s 15 kl)) k = none) : underF nl nf np s l k a = ((-9), s) := by
  unfold underF
  rw [el]; dsimp only; rw [ek]
theorem underF_2 {nl nf np : Nat} {s : SS} {l k a : Int32} {kl : Nat} {kk : Nat} (el : lnO nl l = some kl) (ek : lnO (nat (s 15 kl)) k = some kk) : underF nl nf np s l k a = (if (inF a 0 3) = 0 then ((-9), s) else (if a = 0 then (s 10 ((200 * kl) + ((nat (s 14 kl) + kk) % 200)), s) else (if a = 1 then (s 11 ((200 * kl) + ((nat (s 14 kl) + kk) % 200)), s) else (if a = 2 then (s 12 ((200 * kl) + ((nat (s 14 kl) + kk) % 200)), s) else (s 13 ((200 * kl) + ((nat (s 14 kl) + kk) % 200)), s))))) := by
  unfold underF
  rw [el]; dsimp only; rw [ek]
theorem mX_under (X : Nat × (Nat → Int32)) {h : Hp} {nl nf np : Nat} (hw : WF h nl nf np) (s : SS) (hnl : s 0 0 = nI nl) (hu : ∀ l, l < nl → ∃ u f, s 15 l = nI u ∧ u ≤ 200 ∧ s 14 l = nI f ∧ f < 200) (l k a : Int32) : wp X 122 0 [TM, some (vI l), some (vI k), some (vI a), none] [] (pS h s) (fun r h' => r = some (vI (underF nl nf np s l k a).1) ∧ h' = pS h (underF nl nf np s l k a).2) := by
  have h3 := hw.2.2.2.2.2.2.2.2
  have h4 := hw.2.2.2.2.2.2.1
  have h5 := hw.2.2.2.2.2.2.2.1
  cases el : lnO nl l with
  | none =>
    refine w_pu rfl rfl ?_
    refine w_pu rfl rfl ?_
    refine w_cp (vI (inF l 0 (s 0 0 - 1))) rfl rfl (by decide) (Nat.le_of_ble_eq_true rfl) rfl (Nat.le_of_ble_eq_true rfl) (Nat.le_of_ble_eq_true rfl) ⟨wM hw 0 (by omega), rfl⟩ rfl (mX_isLine X hw s l) ?_
    refine w_top 0 (by rw [hnl, inF_lnO _ (by omega), el]; rfl) ?_
    refine w_eq0 rfl (fun c0 => ?_) (fun c0 => ?_)
    · refine w_cst (v := (-9)) rfl rfl rfl ?_
      refine w_rt rfl rfl trivial ?_
      exact ⟨by rw [underF_0 el], by rw [underF_0 el]⟩
    · exact absurd c0 (by decide)
  | some kl =>
    obtain ⟨rfl, hkl⟩ := lnO_some el
    obtain ⟨u, f, u1, u2, f1, f2⟩ := hu kl hkl
    have ef : nat (s 14 kl) = f := by rw [f1, nat_nI (by omega)]
    cases ek : lnO (nat (s 15 kl)) k with
    | none =>
      refine w_pu rfl rfl ?_
      refine w_pu rfl rfl ?_
      refine w_cp (vI (inF (nI kl) 0 (s 0 0 - 1))) rfl rfl (by decide) (Nat.le_of_ble_eq_true rfl) rfl (Nat.le_of_ble_eq_true rfl) (Nat.le_of_ble_eq_true rfl) ⟨wM hw 0 (by omega), rfl⟩ rfl (mX_isLine X hw s (nI kl)) ?_
      refine w_top 1 (by rw [hnl, inF_lnO _ (by omega), el]; rfl) ?_
      refine w_eq0 rfl (fun c0 => ?_) (fun c0 => ?_)
      · exact absurd c0 (by decide)
      · refine w_pu rfl rfl ?_
        refine w_cst (v := 0) rfl rfl rfl ?_
        refine w_pu rfl rfl ?_
        refine m_gR 15 hw rfl rfl rfl ?_
        refine w_pu rfl rfl ?_
        refine m_ai 15 kl hw rfl rfl (by omega) (by first | rfl | simp only [ix_lits, nI_mul, nI_add]) (by show kl < 8; omega) ?_
        refine w_cst (v := 1) rfl rfl rfl ?_
        refine w_pu rfl rfl ?_
        refine w_cp (vI (inF k 0 ((s 15 kl) - 1))) rfl rfl (by decide) (Nat.le_of_ble_eq_true rfl) rfl (Nat.le_of_ble_eq_true rfl) (Nat.le_of_ble_eq_true rfl) trivial rfl (mX_in X _ k 0 ((s 15 kl) - 1)) ?_
        refine w_top 0 (by rw [show s 15 kl - 1 = nI (nat (s 15 kl)) - 1 by rw [u1, nat_nI (by omega)], inF_lnO _ (by rw [u1, nat_nI (by omega)]; omega), ek]; rfl) ?_
        refine w_eq0 rfl (fun c1 => ?_) (fun c1 => ?_)
        · refine w_cst (v := (-9)) rfl rfl rfl ?_
          refine w_rt rfl rfl trivial ?_
          exact ⟨by rw [underF_1 el ek], by rw [underF_1 el ek]⟩
        · exact absurd c1 (by decide)
    | some kk =>
      obtain ⟨rfl, hkk⟩ := lnO_some ek
      rw [u1, nat_nI (by omega)] at hkk
      refine w_pu rfl rfl ?_
      refine w_pu rfl rfl ?_
      refine w_cp (vI (inF (nI kl) 0 (s 0 0 - 1))) rfl rfl (by decide) (Nat.le_of_ble_eq_true rfl) rfl (Nat.le_of_ble_eq_true rfl) (Nat.le_of_ble_eq_true rfl) ⟨wM hw 0 (by omega), rfl⟩ rfl (mX_isLine X hw s (nI kl)) ?_
      refine w_top 1 (by rw [hnl, inF_lnO _ (by omega), el]; rfl) ?_
      refine w_eq0 rfl (fun c0 => ?_) (fun c0 => ?_)
      · exact absurd c0 (by decide)
      · refine w_pu rfl rfl ?_
        refine w_cst (v := 0) rfl rfl rfl ?_
        refine w_pu rfl rfl ?_
        refine m_gR 15 hw rfl rfl rfl ?_
        refine w_pu rfl rfl ?_
        refine m_ai 15 kl hw rfl rfl (by omega) (by first | rfl | simp only [ix_lits, nI_mul, nI_add]) (by show kl < 8; omega) ?_
        refine w_cst (v := 1) rfl rfl rfl ?_
        refine w_pu rfl rfl ?_
        refine w_cp (vI (inF (nI kk) 0 ((s 15 kl) - 1))) rfl rfl (by decide) (Nat.le_of_ble_eq_true rfl) rfl (Nat.le_of_ble_eq_true rfl) (Nat.le_of_ble_eq_true rfl) trivial rfl (mX_in X _ (nI kk) 0 ((s 15 kl) - 1)) ?_
        refine w_top 1 (by rw [show s 15 kl - 1 = nI (nat (s 15 kl)) - 1 by rw [u1, nat_nI (by omega)], inF_lnO _ (by rw [u1, nat_nI (by omega)]; omega), ek]; rfl) ?_
        refine w_eq0 rfl (fun c1 => ?_) (fun c1 => ?_)
        · exact absurd c1 (by decide)
        · refine w_pu rfl rfl ?_
          refine w_cst (v := 0) rfl rfl rfl ?_
          refine w_cst (v := 3) rfl rfl rfl ?_
          refine w_cp (vI (inF a 0 3)) rfl rfl (by decide) (Nat.le_of_ble_eq_true rfl) rfl (Nat.le_of_ble_eq_true rfl) (Nat.le_of_ble_eq_true rfl) trivial rfl (mX_in X _ a 0 3) ?_
          refine w_ne0 rfl (fun c2 => ?_) (fun c2 => ?_)
          · refine w_cst (v := 200) rfl rfl rfl ?_
            refine w_pu rfl rfl ?_
            refine w_pu rfl rfl ?_
            refine w_pu rfl rfl ?_
            refine m_gR 14 hw rfl rfl rfl ?_
            refine w_pu rfl rfl ?_
            refine m_ai 14 kl hw rfl rfl (by omega) (by first | rfl | simp only [ix_lits, nI_mul, nI_add]) (by show kl < 8; omega) ?_
            refine w_pu rfl rfl ?_
            refine w_pu rfl rfl ?_
            refine w_cst (v := 200) rfl rfl rfl ?_
            refine w_op rfl rfl (by decide) ?_
            refine w_top (nI ((nat (s 14 kl) + kk) % 200)) (by rw [ef, f1, nI_add]; exact pk_rem (d := 200) (by omega) (by omega) (by omega)) ?_
            refine w_pu rfl rfl ?_
            refine w_pu rfl rfl ?_
            refine w_pu rfl rfl ?_
            refine w_ne0 rfl (fun c3 => ?_) (fun c3 => ?_)
            · refine w_pu rfl rfl ?_
              refine w_cst (v := 1) rfl rfl rfl ?_
              refine w_ne rfl (fun c4 => ?_) (fun c4 => ?_)
              · refine w_pu rfl rfl ?_
                refine w_cst (v := 2) rfl rfl rfl ?_
                refine w_ne rfl (fun c5 => ?_) (fun c5 => ?_)
                · refine w_pu rfl rfl ?_
                  refine m_gR 13 hw rfl rfl rfl ?_
                  refine w_pu rfl rfl ?_
                  refine m_ai 13 ((200 * kl) + ((nat (s 14 kl) + kk) % 200)) hw rfl rfl (by omega) (by first | rfl | simp only [ix_lits, nI_mul, nI_add]) (by show ((200 * kl) + ((nat (s 14 kl) + kk) % 200)) < 1600; omega) ?_
                  refine w_rt rfl rfl trivial ?_
                  exact ⟨by rw [underF_2 el ek, if_neg c2, if_neg c3, if_neg c4, if_neg c5], by rw [underF_2 el ek, if_neg c2, if_neg c3, if_neg c4, if_neg c5]⟩
                · refine w_pu rfl rfl ?_
                  refine m_gR 12 hw rfl rfl rfl ?_
                  refine w_pu rfl rfl ?_
                  refine m_ai 12 ((200 * kl) + ((nat (s 14 kl) + kk) % 200)) hw rfl rfl (by omega) (by first | rfl | simp only [ix_lits, nI_mul, nI_add]) (by show ((200 * kl) + ((nat (s 14 kl) + kk) % 200)) < 1600; omega) ?_
                  refine w_go rfl ?_
                  refine w_rt rfl rfl trivial ?_
                  exact ⟨by rw [underF_2 el ek, if_neg c2, if_neg c3, if_neg c4, if_pos c5], by rw [underF_2 el ek, if_neg c2, if_neg c3, if_neg c4, if_pos c5]⟩
              · refine w_pu rfl rfl ?_
                refine m_gR 11 hw rfl rfl rfl ?_
                refine w_pu rfl rfl ?_
                refine m_ai 11 ((200 * kl) + ((nat (s 14 kl) + kk) % 200)) hw rfl rfl (by omega) (by first | rfl | simp only [ix_lits, nI_mul, nI_add]) (by show ((200 * kl) + ((nat (s 14 kl) + kk) % 200)) < 1600; omega) ?_
                refine w_go rfl ?_
                refine w_rt rfl rfl trivial ?_
                exact ⟨by rw [underF_2 el ek, if_neg c2, if_neg c3, if_pos c4], by rw [underF_2 el ek, if_neg c2, if_neg c3, if_pos c4]⟩
            · refine w_pu rfl rfl ?_
              refine m_gR 10 hw rfl rfl rfl ?_
              refine w_pu rfl rfl ?_
              refine m_ai 10 ((200 * kl) + ((nat (s 14 kl) + kk) % 200)) hw rfl rfl (by omega) (by first | rfl | simp only [ix_lits, nI_mul, nI_add]) (by show ((200 * kl) + ((nat (s 14 kl) + kk) % 200)) < 1600; omega) ?_
              refine w_go rfl ?_
              refine w_rt rfl rfl trivial ?_
              exact ⟨by rw [underF_2 el ek, if_neg c2, if_pos c3], by rw [underF_2 el ek, if_neg c2, if_pos c3]⟩
          · refine w_cst (v := (-9)) rfl rfl rfl ?_
            refine w_rt rfl rfl trivial ?_
            exact ⟨by rw [underF_2 el ek, if_pos c2], by rw [underF_2 el ek, if_pos c2]⟩
def witnessF (nl nf np : Nat) (s : SS) (f k : Int32) : Int32 × SS := (match lnO nf f with
  | none => ((-9), s)
  | some kf => (if (s 0 33) ≤ (nI kf) then ((-9), s) else (if (inF k 0 ((s 33 kf) - 1)) = 0 then ((-9), s) else (((100 * (s 27 ((nat (s 32 kf)) + (nat k)))) + (s 28 ((nat (s 32 kf)) + (nat k)))), s))))
theorem witnessF_0 {nl nf np : Nat} {s : SS} {f k : Int32} (ef : lnO nf f = none) : witnessF nl nf np s f k = ((-9), s) := by
  unfold witnessF
  rw [ef]
theorem witnessF_1 {nl nf np : Nat} {s : SS} {f k : Int32} {kf : Nat} (ef : lnO nf f = some kf) : witnessF nl nf np s f k = (if (s 0 33) ≤ (nI kf) then ((-9), s) else (if (inF k 0 ((s 33 kf) - 1)) = 0 then ((-9), s) else (((100 * (s 27 ((nat (s 32 kf)) + (nat k)))) + (s 28 ((nat (s 32 kf)) + (nat k)))), s))) := by
  unfold witnessF
  rw [ef]
theorem mX_witness (X : Nat × (Nat → Int32)) {h : Hp} {nl nf np : Nat} (hw : WF h nl nf np) (s : SS) (hnf : s 0 32 = nI nf) (hfr : ∀ f, f < nf → ∃ a r, s 32 f = nI a ∧ s 33 f = nI r ∧ a + r ≤ np) (f k : Int32) : wp X 128 0 [TM, some (vI f), some (vI k), none] [] (pS h s) (fun r h' => r = some (vI (witnessF nl nf np s f k).1) ∧ h' = pS h (witnessF nl nf np s f k).2) := by
  have h3 := hw.2.2.2.2.2.2.2.2
  have h4 := hw.2.2.2.2.2.2.1
  have h5 := hw.2.2.2.2.2.2.2.1
  cases ef : lnO nf f with
  | none =>
    refine w_pu rfl rfl ?_
    refine w_pu rfl rfl ?_
    refine w_cp (vI (inF f 0 (s 0 32 - 1))) rfl rfl (by decide) (Nat.le_of_ble_eq_true rfl) rfl (Nat.le_of_ble_eq_true rfl) (Nat.le_of_ble_eq_true rfl) ⟨wM hw 0 (by omega), rfl⟩ rfl (mX_isFrame X hw s f) ?_
    refine w_top 0 (by rw [hnf, inF_lnO _ (by omega), ef]; rfl) ?_
    refine w_eq0 rfl (fun c0 => ?_) (fun c0 => ?_)
    · refine w_cst (v := (-9)) rfl rfl rfl ?_
      refine w_rt rfl rfl trivial ?_
      exact ⟨by rw [witnessF_0 ef], by rw [witnessF_0 ef]⟩
    · exact absurd c0 (by decide)
  | some kf =>
    obtain ⟨rfl, hkf⟩ := lnO_some ef
    obtain ⟨a, r, a1, a2, a3⟩ := hfr kf hkf
    refine w_pu rfl rfl ?_
    refine w_pu rfl rfl ?_
    refine w_cp (vI (inF (nI kf) 0 (s 0 32 - 1))) rfl rfl (by decide) (Nat.le_of_ble_eq_true rfl) rfl (Nat.le_of_ble_eq_true rfl) (Nat.le_of_ble_eq_true rfl) ⟨wM hw 0 (by omega), rfl⟩ rfl (mX_isFrame X hw s (nI kf)) ?_
    refine w_top 1 (by rw [hnf, inF_lnO _ (by omega), ef]; rfl) ?_
    refine w_eq0 rfl (fun c0 => ?_) (fun c0 => ?_)
    · exact absurd c0 (by decide)
    · refine w_pu rfl rfl ?_
      refine w_pu rfl rfl ?_
      refine m_g hw rfl rfl ?_
      refine w_ge rfl (fun c1 => ?_) (fun c1 => ?_)
      · refine w_cst (v := (-9)) rfl rfl rfl ?_
        refine w_rt rfl rfl trivial ?_
        exact ⟨by rw [witnessF_1 ef, if_pos c1], by rw [witnessF_1 ef, if_pos c1]⟩
      · refine w_pu rfl rfl ?_
        refine w_cst (v := 0) rfl rfl rfl ?_
        refine w_pu rfl rfl ?_
        refine m_gR 33 hw rfl rfl rfl ?_
        refine w_pu rfl rfl ?_
        refine m_ai 33 kf hw rfl rfl (by omega) (by first | rfl | simp only [ix_lits, nI_mul, nI_add]) (by show kf < 300; omega) ?_
        refine w_cst (v := 1) rfl rfl rfl ?_
        refine w_pu rfl rfl ?_
        refine w_cp (vI (inF k 0 ((s 33 kf) - 1))) rfl rfl (by decide) (Nat.le_of_ble_eq_true rfl) rfl (Nat.le_of_ble_eq_true rfl) (Nat.le_of_ble_eq_true rfl) trivial rfl (mX_in X _ k 0 ((s 33 kf) - 1)) ?_
        refine w_ne0 rfl (fun c2 => ?_) (fun c2 => ?_)
        · have hk := inF_1 c2
          obtain ⟨kk, hk1, hk2⟩ := i32_pos hk.1
          have hk4 : kk < r := by
            have := hk.2
            rw [hk2, a2] at this
            rcases Nat.eq_zero_or_pos r with z | z
            · rw [z] at this; exact absurd (Int32.le_trans (nI_pos' (by omega)) this) (by decide)
            · rw [show nI r - 1 = nI (r - 1) from nI_sub (b := 1) z] at this
              have := (nI_leI (by omega) (by omega)).mp this
              omega
          have ek : nat k = kk := by rw [hk2, nat_nI (by omega)]
          have ea : nat (s 32 kf) = a := by rw [a1, nat_nI (by omega)]
          refine w_pu rfl rfl ?_
          refine m_gR 32 hw rfl rfl rfl ?_
          refine w_pu rfl rfl ?_
          refine m_ai 32 kf hw rfl rfl (by omega) (by first | rfl | simp only [ix_lits, nI_mul, nI_add]) (by show kf < 300; omega) ?_
          refine w_pu rfl rfl ?_
          refine w_pu rfl rfl ?_
          refine w_pu rfl rfl ?_
          refine w_cst (v := 100) rfl rfl rfl ?_
          refine w_pu rfl rfl ?_
          refine m_gR 27 hw rfl rfl rfl ?_
          refine w_pu rfl rfl ?_
          refine m_ai 27 ((nat (s 32 kf)) + (nat k)) hw rfl rfl (by omega) (by rw [ek, ea, a1, hk2, nI_add]) (by show ((nat (s 32 kf)) + (nat k)) < 3000; omega) ?_
          refine w_pu rfl rfl ?_
          refine w_pu rfl rfl ?_
          refine m_gR 28 hw rfl rfl rfl ?_
          refine w_pu rfl rfl ?_
          refine m_ai 28 ((nat (s 32 kf)) + (nat k)) hw rfl rfl (by omega) (by rw [ek, ea, a1, hk2, nI_add]) (by show ((nat (s 32 kf)) + (nat k)) < 3000; omega) ?_
          refine w_pu rfl rfl ?_
          refine w_rt rfl rfl trivial ?_
          exact ⟨by rw [witnessF_1 ef, if_neg c1, if_neg c2], by rw [witnessF_1 ef, if_neg c1, if_neg c2]⟩
        · refine w_cst (v := (-9)) rfl rfl rfl ?_
          refine w_rt rfl rfl trivial ?_
          exact ⟨by rw [witnessF_1 ef, if_neg c1, if_pos c2], by rw [witnessF_1 ef, if_neg c1, if_pos c2]⟩
def gotF (nl nf np : Nat) (s : SS) (f i : Int32) : Int32 × SS := (match lnO nf f with
  | none => ((-1), refuseF s 1)
  | some kf => (if (s 0 33) ≤ (nI kf) then ((-3), refuseF s 3) else (if (nI kf) < ((s 0 33) - 20) then ((-3), refuseF s 3) else (if (inF i (-1) ((s 31 kf) - 1)) = 0 then ((-3), refuseF s 3) else (if 0 ≤ i then (((s 36 ((nat (s 35 kf)) + (nat i))) &&& 255), s) else (s 31 kf, s))))))
theorem gotF_0 {nl nf np : Nat} {s : SS} {f i : Int32} (ef : lnO nf f = none) : gotF nl nf np s f i = ((-1), refuseF s 1) := by
  unfold gotF
  rw [ef]
theorem gotF_1 {nl nf np : Nat} {s : SS} {f i : Int32} {kf : Nat} (ef : lnO nf f = some kf) : gotF nl nf np s f i = (if (s 0 33) ≤ (nI kf) then ((-3), refuseF s 3) else (if (nI kf) < ((s 0 33) - 20) then ((-3), refuseF s 3) else (if (inF i (-1) ((s 31 kf) - 1)) = 0 then ((-3), refuseF s 3) else (if 0 ≤ i then (((s 36 ((nat (s 35 kf)) + (nat i))) &&& 255), s) else (s 31 kf, s))))) := by
  unfold gotF
  rw [ef]
theorem mX_got (X : Nat × (Nat → Int32)) {h : Hp} {nl nf np : Nat} (hw : WF h nl nf np) (s : SS) (hnf : s 0 32 = nI nf) (hfr : ∀ f, f < nf → ∃ b n, s 35 f = nI b ∧ s 31 f = nI n ∧ b + n ≤ 1200000) (f i : Int32) : wp X 125 0 [TM, some (vI f), some (vI i)] [] (pS h s) (fun r h' => r = some (vI (gotF nl nf np s f i).1) ∧ h' = pS h (gotF nl nf np s f i).2) := by
  have h3 := hw.2.2.2.2.2.2.2.2
  have h4 := hw.2.2.2.2.2.2.1
  have h5 := hw.2.2.2.2.2.2.2.1
  cases ef : lnO nf f with
  | none =>
    refine w_pu rfl rfl ?_
    refine w_pu rfl rfl ?_
    refine w_cp (vI (inF f 0 (s 0 32 - 1))) rfl rfl (by decide) (Nat.le_of_ble_eq_true rfl) rfl (Nat.le_of_ble_eq_true rfl) (Nat.le_of_ble_eq_true rfl) ⟨wM hw 0 (by omega), rfl⟩ rfl (mX_isFrame X hw s f) ?_
    refine w_top 0 (by rw [hnf, inF_lnO _ (by omega), ef]; rfl) ?_
    refine w_ne0 rfl (fun c0 => ?_) (fun c0 => ?_)
    · exact absurd c0 (by decide)
    · refine w_pu rfl rfl ?_
      refine w_cst (v := (-1)) rfl rfl rfl ?_
      refine w_cgE (vI (-1)) (pS h (refuseF s 1)) rfl rfl (by decide) (Nat.le_of_ble_eq_true rfl) rfl (Nat.le_of_ble_eq_true rfl) (Nat.le_of_ble_eq_true rfl) ⟨wM hw 0 (by omega), rfl⟩ rfl (mX_refuse X hw s (-1) 1 (by decide) (by decide)) ?_
      refine w_rt rfl rfl trivial ?_
      exact ⟨by rw [gotF_0 ef], by rw [gotF_0 ef]⟩
  | some kf =>
    obtain ⟨rfl, hkf⟩ := lnO_some ef
    obtain ⟨b, n, a1, a2, a3⟩ := hfr kf hkf
    have eb : nat (s 35 kf) = b := by rw [a1, nat_nI (by omega)]
    refine w_pu rfl rfl ?_
    refine w_pu rfl rfl ?_
    refine w_cp (vI (inF (nI kf) 0 (s 0 32 - 1))) rfl rfl (by decide) (Nat.le_of_ble_eq_true rfl) rfl (Nat.le_of_ble_eq_true rfl) (Nat.le_of_ble_eq_true rfl) ⟨wM hw 0 (by omega), rfl⟩ rfl (mX_isFrame X hw s (nI kf)) ?_
    refine w_top 1 (by rw [hnf, inF_lnO _ (by omega), ef]; rfl) ?_
    refine w_ne0 rfl (fun c0 => ?_) (fun c0 => ?_)
    · refine w_pu rfl rfl ?_
      refine w_pu rfl rfl ?_
      refine m_g hw rfl rfl ?_
      refine w_ge rfl (fun c1 => ?_) (fun c1 => ?_)
      · refine w_pu rfl rfl ?_
        refine w_cst (v := (-3)) rfl rfl rfl ?_
        refine w_cgE (vI (-3)) (pS h (refuseF s 3)) rfl rfl (by decide) (Nat.le_of_ble_eq_true rfl) rfl (Nat.le_of_ble_eq_true rfl) (Nat.le_of_ble_eq_true rfl) ⟨wM hw 0 (by omega), rfl⟩ rfl (mX_refuse X hw s (-3) 3 (by decide) (by decide)) ?_
        refine w_rt rfl rfl trivial ?_
        exact ⟨by rw [gotF_1 ef, if_pos c1], by rw [gotF_1 ef, if_pos c1]⟩
      · refine w_pu rfl rfl ?_
        refine w_pu rfl rfl ?_
        refine m_g hw rfl rfl ?_
        refine w_cst (v := 20) rfl rfl rfl ?_
        refine w_pu rfl rfl ?_
        refine w_lt rfl (fun c2 => ?_) (fun c2 => ?_)
        · refine w_pu rfl rfl ?_
          refine w_cst (v := (-3)) rfl rfl rfl ?_
          refine w_cgE (vI (-3)) (pS h (refuseF s 3)) rfl rfl (by decide) (Nat.le_of_ble_eq_true rfl) rfl (Nat.le_of_ble_eq_true rfl) (Nat.le_of_ble_eq_true rfl) ⟨wM hw 0 (by omega), rfl⟩ rfl (mX_refuse X hw s (-3) 3 (by decide) (by decide)) ?_
          refine w_rt rfl rfl trivial ?_
          exact ⟨by rw [gotF_1 ef, if_neg c1, if_pos c2], by rw [gotF_1 ef, if_neg c1, if_pos c2]⟩
        · refine w_pu rfl rfl ?_
          refine w_cst (v := (-1)) rfl rfl rfl ?_
          refine w_pu rfl rfl ?_
          refine m_gR 31 hw rfl rfl rfl ?_
          refine w_pu rfl rfl ?_
          refine m_ai 31 kf hw rfl rfl (by omega) (by first | rfl | simp only [ix_lits, nI_mul, nI_add]) (by show kf < 300; omega) ?_
          refine w_cst (v := 1) rfl rfl rfl ?_
          refine w_pu rfl rfl ?_
          refine w_cp (vI (inF i (-1) ((s 31 kf) - 1))) rfl rfl (by decide) (Nat.le_of_ble_eq_true rfl) rfl (Nat.le_of_ble_eq_true rfl) (Nat.le_of_ble_eq_true rfl) trivial rfl (mX_in X _ i (-1) ((s 31 kf) - 1)) ?_
          refine w_ne0 rfl (fun c3 => ?_) (fun c3 => ?_)
          · refine w_pu rfl rfl ?_
            refine w_ge0 rfl (fun c4 => ?_) (fun c4 => ?_)
            · have hk := inF_1 c3
              obtain ⟨kk, hk1, hk2⟩ := i32_pos c4
              have hk4 : kk < n := by
                have := hk.2
                rw [hk2, a2] at this
                rcases Nat.eq_zero_or_pos n with z | z
                · rw [z] at this; exact absurd (Int32.le_trans (nI_pos' (by omega)) this) (by decide)
                · rw [show nI n - 1 = nI (n - 1) from nI_sub (b := 1) z] at this
                  have := (nI_leI (by omega) (by omega)).mp this
                  omega
              have ek : nat i = kk := by rw [hk2, nat_nI (by omega)]
              refine w_pu rfl rfl ?_
              refine m_gR 36 hw rfl rfl rfl ?_
              refine w_pu rfl rfl ?_
              refine m_gR 35 hw rfl rfl rfl ?_
              refine w_pu rfl rfl ?_
              refine m_ai 35 kf hw rfl rfl (by omega) (by first | rfl | simp only [ix_lits, nI_mul, nI_add]) (by show kf < 300; omega) ?_
              refine w_pu rfl rfl ?_
              refine w_pu rfl rfl ?_
              refine m_ab 36 ((nat (s 35 kf)) + (nat i)) hw rfl (Or.inl ⟨rfl, rfl⟩) (by omega) (by rw [ek, eb, a1, hk2, nI_add]) (by show ((nat (s 35 kf)) + (nat i)) < 1200000; omega) ?_
              refine w_cst (v := 255) rfl rfl rfl ?_
              refine w_pu rfl rfl ?_
              refine w_rt rfl rfl trivial ?_
              exact ⟨by rw [gotF_1 ef, if_neg c1, if_neg c2, if_neg c3, if_pos c4], by rw [gotF_1 ef, if_neg c1, if_neg c2, if_neg c3, if_pos c4]⟩
            · refine w_pu rfl rfl ?_
              refine m_gR 31 hw rfl rfl rfl ?_
              refine w_pu rfl rfl ?_
              refine m_ai 31 kf hw rfl rfl (by omega) (by first | rfl | simp only [ix_lits, nI_mul, nI_add]) (by show kf < 300; omega) ?_
              refine w_go rfl ?_
              refine w_rt rfl rfl trivial ?_
              exact ⟨by rw [gotF_1 ef, if_neg c1, if_neg c2, if_neg c3, if_neg c4], by rw [gotF_1 ef, if_neg c1, if_neg c2, if_neg c3, if_neg c4]⟩
          · refine w_pu rfl rfl ?_
            refine w_cst (v := (-3)) rfl rfl rfl ?_
            refine w_cgE (vI (-3)) (pS h (refuseF s 3)) rfl rfl (by decide) (Nat.le_of_ble_eq_true rfl) rfl (Nat.le_of_ble_eq_true rfl) (Nat.le_of_ble_eq_true rfl) ⟨wM hw 0 (by omega), rfl⟩ rfl (mX_refuse X hw s (-3) 3 (by decide) (by decide)) ?_
            refine w_rt rfl rfl trivial ?_
            exact ⟨by rw [gotF_1 ef, if_neg c1, if_neg c2, if_pos c3], by rw [gotF_1 ef, if_neg c1, if_neg c2, if_pos c3]⟩
    · exact absurd c0 (by decide)
