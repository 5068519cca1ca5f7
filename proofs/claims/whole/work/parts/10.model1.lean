/-! The reference's methods, in the words of its own numbers: what is asked most often. -/
theorem ix_lits : (0 : Int32) = nI 0 ∧ (1 : Int32) = nI 1 ∧ (8 : Int32) = nI 8 ∧ (20 : Int32) = nI 20 ∧ (40 : Int32) = nI 40 ∧ (41 : Int32) = nI 41 ∧ (200 : Int32) = nI 200 := ⟨rfl, rfl, rfl, rfl, rfl, rfl, rfl⟩
abbrev TM : Option Vl := some (vR (some (22, 0)))

theorem nI_neg {n : Nat} (h : n < 2147483648) (v : Int32) (hv : v < 0) : ¬ nI n = v := by
  intro q
  rw [← q] at hv
  exact nI_pos h hv
theorem nI_nem2 {n : Nat} (h : n < 2147483648) : ¬ nI n = -2 := nI_neg h _ (by decide)
theorem nI_nem9 {n : Nat} (h : n < 2147483648) : ¬ nI n = -9 := nI_neg h _ (by decide)
def bI (b : Bool) : Int32 := if b = true then 1 else 0
theorem bI_0 {b : Bool} (h : bI b = 0) : b = false := by
  cases b
  · rfl
  · cases h
theorem bI_1 {b : Bool} (h : ¬ bI b = 0) : b = true := by
  cases b
  · exact absurd rfl h
  · rfl
theorem mX_in (X : Nat × (Nat → Int32)) (h : Hp) (v lo hi : Int32) : wp X 85 0 [some (vI v), some (vI lo), some (vI hi)] [] h (fun r h' => r = some (vI (inF v lo hi)) ∧ h' = h) := by
  refine w_pu rfl rfl ?_
  refine w_pu rfl rfl ?_
  refine w_lt rfl (fun c0 => ?_) (fun c0 => ?_)
  · refine w_cst (v := 0) rfl rfl rfl ?_
    refine w_rt rfl rfl (by first | exact Or.inl rfl | exact Or.inr rfl) ?_
    exact ⟨by rw [inF, if_neg (fun q => Int32.not_lt.mpr q.1 c0)], rfl⟩
  · refine w_pu rfl rfl ?_
    refine w_pu rfl rfl ?_
    refine w_gt rfl (fun c1 => ?_) (fun c1 => ?_)
    · refine w_cst (v := 0) rfl rfl rfl ?_
      refine w_rt rfl rfl (by first | exact Or.inl rfl | exact Or.inr rfl) ?_
      exact ⟨by rw [inF, if_neg (fun q => Int32.not_lt.mpr q.2 c1)], rfl⟩
    · refine w_cst (v := 1) rfl rfl rfl ?_
      refine w_go rfl ?_
      refine w_rt rfl rfl (by first | exact Or.inl rfl | exact Or.inr rfl) ?_
      exact ⟨by rw [inF, if_pos ⟨Int32.not_lt.mp c0, Int32.not_lt.mp c1⟩], rfl⟩
theorem mX_refuse (X : Nat × (Nat → Int32)) {h : Hp} {nl nf np : Nat} (hw : WF h nl nf np) (s : SS) (v : Int32) (k : Nat) (hk : -v = nI k) (hk2 : k < 7) : wp X 86 0 [TM, some (vI v)] [] (pS h s) (fun r h' => r = some (vI v) ∧ h' = pS h (uS s 38 k (s 38 k + 1))) := by
  refine w_pu rfl rfl ?_
  refine m_gR 38 hw rfl rfl rfl ?_
  refine w_pu rfl rfl ?_
  refine w_pu rfl rfl ?_
  refine w_pu rfl rfl ?_
  refine m_ai 38 k hw rfl rfl (by omega) (by first | rfl | simp only [ix_lits, nI_mul, nI_add, hk]) (by show k < 7; omega) ?_
  refine w_cst (v := 1) rfl rfl rfl ?_
  refine w_pu rfl rfl ?_
  refine m_si 38 k hw rfl rfl (by omega) (by first | rfl | simp only [ix_lits, nI_mul, nI_add, hk]) (by show k < 7; omega) ?_
  refine w_pu rfl rfl ?_
  refine w_rt rfl rfl trivial ?_
  exact ⟨rfl, rfl⟩
theorem mX_isLine (X : Nat × (Nat → Int32)) {h : Hp} {nl nf np : Nat} (hw : WF h nl nf np) (s : SS) (v : Int32) : wp X 87 0 [TM, some (vI v)] [] (pS h s) (fun r h' => r = some (vI (inF v 0 (s 0 0 - 1))) ∧ h' = pS h s) := by
  refine w_pu rfl rfl ?_
  refine w_cst (v := 0) rfl rfl rfl ?_
  refine w_pu rfl rfl ?_
  refine m_g hw rfl rfl ?_
  refine w_cst (v := 1) rfl rfl rfl ?_
  refine w_pu rfl rfl ?_
  refine w_cp (vI (inF v 0 ((s 0 0) - 1))) rfl rfl (by decide) (Nat.le_of_ble_eq_true rfl) rfl (Nat.le_of_ble_eq_true rfl) (Nat.le_of_ble_eq_true rfl) trivial rfl (mX_in X _ v 0 ((s 0 0) - 1)) ?_
  refine w_rt rfl rfl (by unfold inF; split; exact Or.inr rfl; exact Or.inl rfl) ?_
  exact ⟨rfl, rfl⟩
theorem mX_isPiece (X : Nat × (Nat → Int32)) {h : Hp} {nl nf np : Nat} (hw : WF h nl nf np) (s : SS) (v : Int32) : wp X 118 0 [TM, some (vI v)] [] (pS h s) (fun r h' => r = some (vI (inF v 0 (s 0 23 - 1))) ∧ h' = pS h s) := by
  refine w_pu rfl rfl ?_
  refine w_cst (v := 0) rfl rfl rfl ?_
  refine w_pu rfl rfl ?_
  refine m_g hw rfl rfl ?_
  refine w_cst (v := 1) rfl rfl rfl ?_
  refine w_pu rfl rfl ?_
  refine w_cp (vI (inF v 0 ((s 0 23) - 1))) rfl rfl (by decide) (Nat.le_of_ble_eq_true rfl) rfl (Nat.le_of_ble_eq_true rfl) (Nat.le_of_ble_eq_true rfl) trivial rfl (mX_in X _ v 0 ((s 0 23) - 1)) ?_
  refine w_rt rfl rfl (by unfold inF; split; exact Or.inr rfl; exact Or.inl rfl) ?_
  exact ⟨rfl, rfl⟩
theorem mX_isFrame (X : Nat × (Nat → Int32)) {h : Hp} {nl nf np : Nat} (hw : WF h nl nf np) (s : SS) (v : Int32) : wp X 124 0 [TM, some (vI v)] [] (pS h s) (fun r h' => r = some (vI (inF v 0 (s 0 32 - 1))) ∧ h' = pS h s) := by
  refine w_pu rfl rfl ?_
  refine w_cst (v := 0) rfl rfl rfl ?_
  refine w_pu rfl rfl ?_
  refine m_g hw rfl rfl ?_
  refine w_cst (v := 1) rfl rfl rfl ?_
  refine w_pu rfl rfl ?_
  refine w_cp (vI (inF v 0 ((s 0 32) - 1))) rfl rfl (by decide) (Nat.le_of_ble_eq_true rfl) rfl (Nat.le_of_ble_eq_true rfl) (Nat.le_of_ble_eq_true rfl) trivial rfl (mX_in X _ v 0 ((s 0 32) - 1)) ?_
  refine w_rt rfl rfl (by unfold inF; split; exact Or.inr rfl; exact Or.inl rfl) ?_
  exact ⟨rfl, rfl⟩
theorem mX_sizeOf (X : Nat × (Nat → Int32)) {h : Hp} {nl nf np : Nat} (hw : WF h nl nf np) (s : SS) (v : Int32) (hv : okp np v) : wp X 97 0 [TM, some (vI v)] [] (pS h s) (fun r h' => r = some (vI (szo s v)) ∧ h' = pS h s) := by
  have h3 := hw.2.2.2.2.2.2.2.2
  refine w_pu rfl rfl ?_
  refine w_cst (v := (-2)) rfl rfl rfl ?_
  refine w_ne rfl (fun c0 => ?_) (fun c0 => ?_)
  · obtain ⟨k, hk, rfl⟩ := hv.resolve_left c0
    refine w_pu rfl rfl ?_
    refine m_gR 26 hw rfl rfl rfl ?_
    refine w_pu rfl rfl ?_
    refine m_ai 26 k hw rfl rfl (by omega) (by first | rfl | simp only [ix_lits, nI_mul, nI_add]) (by show k < 3000; omega) ?_
    refine w_rt rfl rfl trivial ?_
    exact ⟨by rw [szo, if_neg c0, nat_nI (by omega)], rfl⟩
  · refine w_cst (v := 1) rfl rfl rfl ?_
    refine w_go rfl ?_
    refine w_rt rfl rfl trivial ?_
    exact ⟨by rw [szo, if_pos c0], rfl⟩
theorem mX_waiting (X : Nat × (Nat → Int32)) {h : Hp} {nl nf np : Nat} (hw : WF h nl nf np) (s : SS) (l q : Nat) (hl : l < nl) (hq1 : s 8 l = nI q) (hq2 : q ≤ 40) (hq : ∀ k, k < q → okp np (s 7 (41 * l + k))) : wp X 98 0 [TM, some (vI (nI l)), none, none] [] (pS h s) (fun r h' => r = some (vI (wsum s l q)) ∧ h' = pS h s) := by
  have h3 := hw.2.2.2.2.2.2.1
  have loop : ∀ d k, k + d = q → wp X 98 10 [TM, some (vI (nI l)), some (vI (wsum s l k)), some (vI (nI k))] [] (pS h s) (fun r h' => r = some (vI (wsum s l q)) ∧ h' = pS h s) := by
    intro d
    induction d with
    | zero =>
      intro k hk
      refine w_pu rfl rfl ?_
      refine w_pu rfl rfl ?_
      refine m_gR 8 hw rfl rfl rfl ?_
      refine w_pu rfl rfl ?_
      refine m_ai 8 l hw rfl rfl (by omega) (by first | rfl | simp only [ix_lits, nI_mul, nI_add, hq1]) (by show l < 8; omega) ?_
      refine w_ge rfl (fun c0 => ?_) (fun c0 => ?_)
      · refine w_pu rfl rfl ?_
        refine w_rt rfl rfl trivial ?_
        exact ⟨by rw [show k = q by omega], rfl⟩
      · exact absurd (by rw [hq1]; exact nI_le (by omega) (by omega)) c0
    | succ d ih =>
      intro k hk
      refine w_pu rfl rfl ?_
      refine w_pu rfl rfl ?_
      refine m_gR 8 hw rfl rfl rfl ?_
      refine w_pu rfl rfl ?_
      refine m_ai 8 l hw rfl rfl (by omega) (by first | rfl | simp only [ix_lits, nI_mul, nI_add, hq1]) (by show l < 8; omega) ?_
      refine w_ge rfl (fun c0 => ?_) (fun c0 => ?_)
      · exact absurd (by rw [hq1] at c0; exact c0) (nI_ge (by omega) (by omega))
      · refine w_pu rfl rfl ?_
        refine w_pu rfl rfl ?_
        refine w_pu rfl rfl ?_
        refine m_gR 7 hw rfl rfl rfl ?_
        refine w_cst (v := 41) rfl rfl rfl ?_
        refine w_pu rfl rfl ?_
        refine w_pu rfl rfl ?_
        refine w_pu rfl rfl ?_
        refine w_pu rfl rfl ?_
        refine m_ai 7 ((41 * l) + k) hw rfl rfl (by omega) (by first | rfl | simp only [ix_lits, nI_mul, nI_add, hq1]) (by show ((41 * l) + k) < 328; omega) ?_
        refine w_cp (vI (szo s (s 7 ((41 * l) + k)))) rfl rfl (by decide) (Nat.le_of_ble_eq_true rfl) rfl (Nat.le_of_ble_eq_true rfl) (Nat.le_of_ble_eq_true rfl) ⟨wM hw 0 (by omega), rfl⟩ rfl (mX_sizeOf X hw s (s 7 ((41 * l) + k)) (by first | exact hq _ (by omega) | assumption)) ?_
        refine w_pu rfl rfl ?_
        refine w_pu rfl rfl ?_
        refine w_i1 rfl rfl rfl ?_
        refine w_go rfl ?_
        exact ih (k + 1) (by omega)
  refine w_pu rfl rfl ?_
  refine m_gR 9 hw rfl rfl rfl ?_
  refine w_pu rfl rfl ?_
  refine m_ai 9 l hw rfl rfl (by omega) (by first | rfl | simp only [ix_lits, nI_mul, nI_add]) (by show l < 8; omega) ?_
  refine w_pu rfl rfl ?_
  refine w_pu rfl rfl ?_
  refine w_cst (v := 0) rfl rfl rfl ?_
  refine w_pu rfl rfl ?_
  exact loop q 0 (by omega)
theorem mX_lose (X : Nat × (Nat → Int32)) {h : Hp} {nl nf np : Nat} (hw : WF h nl nf np) (s : SS) (p l : Nat) (hp : p < np) (hl : l < 8) : wp X 99 0 [TM, some (vI (nI p)), some (vI (nI l))] [] (pS h s) (fun r h' => r = none ∧ h' = pS h (loseF s p l)) := by
  have h3 := hw.2.2.2.2.2.2.2.2
  refine w_pu rfl rfl ?_
  refine m_gR 23 hw rfl rfl rfl ?_
  refine w_pu rfl rfl ?_
  refine w_cst (v := 2) rfl rfl rfl ?_
  refine m_si 23 p hw rfl rfl (by omega) (by first | rfl | simp only [ix_lits, nI_mul, nI_add]) (by show p < 3000; omega) ?_
  refine w_pu rfl rfl ?_
  refine m_gR 30 hw rfl rfl rfl ?_
  refine w_cst (v := 8) rfl rfl rfl ?_
  refine w_pu rfl rfl ?_
  refine w_pu rfl rfl ?_
  refine w_pu rfl rfl ?_
  refine w_pu rfl rfl ?_
  refine w_pu rfl rfl ?_
  refine m_ai 30 ((8 * p) + l) hw rfl rfl (by omega) (by first | rfl | simp only [ix_lits, nI_mul, nI_add]) (by show ((8 * p) + l) < 24000; omega) ?_
  refine w_top (s 30 ((8 * p) + l)) rfl ?_
  refine w_cst (v := 1) rfl rfl rfl ?_
  refine w_pu rfl rfl ?_
  refine m_si 30 ((8 * p) + l) hw rfl rfl (by omega) (by first | rfl | simp only [ix_lits, nI_mul, nI_add]) (by show ((8 * p) + l) < 24000; omega) ?_
  refine w_pu rfl rfl ?_
  refine m_gR 19 hw rfl rfl rfl ?_
  refine w_pu rfl rfl ?_
  refine w_pu rfl rfl ?_
  refine m_ai 19 l hw rfl rfl (by omega) (by first | rfl | simp only [ix_lits, nI_mul, nI_add]) (by show l < 8; omega) ?_
  refine w_top (s 19 l) rfl ?_
  refine w_cst (v := 1) rfl rfl rfl ?_
  refine w_pu rfl rfl ?_
  refine m_si 19 l hw rfl rfl (by omega) (by first | rfl | simp only [ix_lits, nI_mul, nI_add]) (by show l < 8; omega) ?_
  refine w_rt rfl rfl trivial ?_
  exact ⟨rfl, rfl⟩
theorem mX_layOn (X : Nat × (Nat → Int32)) {h : Hp} {nl nf np : Nat} (hw : WF h nl nf np) (s : SS) (p l q : Nat) (hp : p < np) (hl : l < nl) (hq1 : s 8 l = nI q) (hq2 : q ≤ 40) : wp X 102 0 [TM, some (vI (nI p)), some (vI (nI l))] [] (pS h s) (fun r h' => r = none ∧ h' = pS h (layOnF s p l)) := by
  have h3 := hw.2.2.2.2.2.2.2.2
  have h4 := hw.2.2.2.2.2.2.1
  refine w_pu rfl rfl ?_
  refine m_gR 7 hw rfl rfl rfl ?_
  refine w_cst (v := 41) rfl rfl rfl ?_
  refine w_pu rfl rfl ?_
  refine w_pu rfl rfl ?_
  refine w_pu rfl rfl ?_
  refine m_gR 8 hw rfl rfl rfl ?_
  refine w_pu rfl rfl ?_
  refine m_ai 8 l hw rfl rfl (by omega) (by first | rfl | simp only [ix_lits, nI_mul, nI_add, hq1]) (by show l < 8; omega) ?_
  refine w_pu rfl rfl ?_
  refine w_pu rfl rfl ?_
  refine m_si 7 ((41 * l) + q) hw rfl rfl (by omega) (by first | rfl | simp only [ix_lits, nI_mul, nI_add, hq1]) (by show ((41 * l) + q) < 328; omega) ?_
  refine w_pu rfl rfl ?_
  refine m_gR 8 hw rfl rfl rfl ?_
  refine w_pu rfl rfl ?_
  refine w_pu rfl rfl ?_
  refine m_ai 8 l hw rfl rfl (by omega) (by first | rfl | simp only [ix_lits, nI_mul, nI_add, hq1]) (by show l < 8; omega) ?_
  refine w_top (s 8 l) rfl ?_
  refine w_cst (v := 1) rfl rfl rfl ?_
  refine w_pu rfl rfl ?_
  refine m_si 8 l hw rfl rfl (by omega) (by first | rfl | simp only [ix_lits, nI_mul, nI_add, hq1]) (by show l < 8; omega) ?_
  refine w_pu rfl rfl ?_
  refine w_cst (v := (-2)) rfl rfl rfl ?_
  refine w_ne rfl (fun c0 => ?_) (fun c0 => ?_)
  · refine w_pu rfl rfl ?_
    refine m_gR 23 hw rfl rfl rfl ?_
    refine w_pu rfl rfl ?_
    refine w_cst (v := 1) rfl rfl rfl ?_
    refine m_si 23 p hw rfl rfl (by omega) (by first | rfl | simp only [ix_lits, nI_mul, nI_add, hq1]) (by show p < 3000; omega) ?_
    refine w_pu rfl rfl ?_
    refine m_gR 28 hw rfl rfl rfl ?_
    refine w_pu rfl rfl ?_
    refine w_pu rfl rfl ?_
    refine m_si 28 p hw rfl rfl (by omega) (by first | rfl | simp only [ix_lits, nI_mul, nI_add, hq1]) (by show p < 3000; omega) ?_
    refine w_pu rfl rfl ?_
    refine m_gR 29 hw rfl rfl rfl ?_
    refine w_pu rfl rfl ?_
    refine w_cst (v := (-1)) rfl rfl rfl ?_
    refine m_si 29 p hw rfl rfl (by omega) (by first | rfl | simp only [ix_lits, nI_mul, nI_add, hq1]) (by show p < 3000; omega) ?_
    refine w_pu rfl rfl ?_
    refine m_gR 27 hw rfl rfl rfl ?_
    refine w_pu rfl rfl ?_
    refine w_pu rfl rfl ?_
    refine m_ai 27 p hw rfl rfl (by omega) (by first | rfl | simp only [ix_lits, nI_mul, nI_add, hq1]) (by show p < 3000; omega) ?_
    refine w_top (s 27 p) rfl ?_
    refine w_cst (v := 1) rfl rfl rfl ?_
    refine w_pu rfl rfl ?_
    refine m_si 27 p hw rfl rfl (by omega) (by first | rfl | simp only [ix_lits, nI_mul, nI_add, hq1]) (by show p < 3000; omega) ?_
    refine w_rt rfl rfl trivial ?_
    refine ⟨rfl, ?_⟩
    unfold layOnF layF
    rw [hq1, nat_nI (by omega)]
  · exact absurd c0 (nI_nem2 (by omega))
theorem mX_layE (X : Nat × (Nat → Int32)) {h : Hp} {nl nf np : Nat} (hw : WF h nl nf np) (s : SS) (l q : Nat) (hl : l < nl) (hq1 : s 8 l = nI q) (hq2 : q ≤ 40) : wp X 102 0 [TM, some (vI (-2)), some (vI (nI l))] [] (pS h s) (fun r h' => r = none ∧ h' = pS h (layEF s l)) := by
  have h3 := hw.2.2.2.2.2.2.2.2
  have h4 := hw.2.2.2.2.2.2.1
  refine w_pu rfl rfl ?_
  refine m_gR 7 hw rfl rfl rfl ?_
  refine w_cst (v := 41) rfl rfl rfl ?_
  refine w_pu rfl rfl ?_
  refine w_pu rfl rfl ?_
  refine w_pu rfl rfl ?_
  refine m_gR 8 hw rfl rfl rfl ?_
  refine w_pu rfl rfl ?_
  refine m_ai 8 l hw rfl rfl (by omega) (by first | rfl | simp only [ix_lits, nI_mul, nI_add, hq1]) (by show l < 8; omega) ?_
  refine w_pu rfl rfl ?_
  refine w_pu rfl rfl ?_
  refine m_si 7 ((41 * l) + q) hw rfl rfl (by omega) (by first | rfl | simp only [ix_lits, nI_mul, nI_add, hq1]) (by show ((41 * l) + q) < 328; omega) ?_
  refine w_pu rfl rfl ?_
  refine m_gR 8 hw rfl rfl rfl ?_
  refine w_pu rfl rfl ?_
  refine w_pu rfl rfl ?_
  refine m_ai 8 l hw rfl rfl (by omega) (by first | rfl | simp only [ix_lits, nI_mul, nI_add, hq1]) (by show l < 8; omega) ?_
  refine w_top (s 8 l) rfl ?_
  refine w_cst (v := 1) rfl rfl rfl ?_
  refine w_pu rfl rfl ?_
  refine m_si 8 l hw rfl rfl (by omega) (by first | rfl | simp only [ix_lits, nI_mul, nI_add, hq1]) (by show l < 8; omega) ?_
  refine w_pu rfl rfl ?_
  refine w_cst (v := (-2)) rfl rfl rfl ?_
  refine w_ne rfl (fun c0 => ?_) (fun c0 => ?_)
  · exact absurd rfl c0
  · refine w_pu rfl rfl ?_
    refine m_gR 20 hw rfl rfl rfl ?_
    refine w_pu rfl rfl ?_
    refine w_pu rfl rfl ?_
    refine m_ai 20 l hw rfl rfl (by omega) (by first | rfl | simp only [ix_lits, nI_mul, nI_add, hq1]) (by show l < 8; omega) ?_
    refine w_top (s 20 l) rfl ?_
    refine w_cst (v := 1) rfl rfl rfl ?_
    refine w_pu rfl rfl ?_
    refine m_si 20 l hw rfl rfl (by omega) (by first | rfl | simp only [ix_lits, nI_mul, nI_add, hq1]) (by show l < 8; omega) ?_
    refine w_rt rfl rfl trivial ?_
    refine ⟨rfl, ?_⟩
    unfold layEF layF
    rw [hq1, nat_nI (by omega)]
theorem mX_isBetter_some (X : Nat × (Nat → Int32)) {h : Hp} {nl nf np : Nat} (hw : WF h nl nf np) (s : SS) (hq : ∀ l, l < nl → ∃ q, s 8 l = nI q ∧ q ≤ 40 ∧ ∀ k, k < q → okp np (s 7 (41 * l + k))) (hsp : ∀ l, l < nl → ¬ s 2 l = 0) (p l m : Nat) (hp : p < np) (hl : l < nl) (hm : m < nl) : wp X 100 0 [TM, some (vI (nI p)), some (vI (nI l)), some (vI (nI m)), none, none] [] (pS h s) (fun r h' => r = some (vI (bI (betterF s p l m))) ∧ h' = pS h s) := by
  have h3 := hw.2.2.2.2.2.2.2.2
  have h4 := hw.2.2.2.2.2.2.1
  obtain ⟨ql, l1, l2, l3⟩ := hq l hl
  obtain ⟨qm, m1, m2, m3⟩ := hq m hm
  have el : ticksF s p l = (wsum s l ql + s 26 p + s 2 l - 1) / s 2 l := by
    unfold ticksF
    rw [l1, nat_nI (by omega)]
  have em : ticksF s p m = (wsum s m qm + s 26 p + s 2 m - 1) / s 2 m := by
    unfold ticksF
    rw [m1, nat_nI (by omega)]
  refine w_pu rfl rfl ?_
  refine w_cst (v := (-9)) rfl rfl rfl ?_
  refine w_ne rfl (fun c0 => ?_) (fun c0 => ?_)
  · refine w_pu rfl rfl ?_
    refine m_gR 23 hw rfl rfl rfl ?_
    refine w_pu rfl rfl ?_
    refine m_ai 23 p hw rfl rfl (by omega) (by first | rfl | simp only [ix_lits, nI_mul, nI_add]) (by show p < 3000; omega) ?_
    refine w_cst (v := 2) rfl rfl rfl ?_
    refine w_ne rfl (fun c1 => ?_) (fun c1 => ?_)
    · refine w_pu rfl rfl ?_
      refine w_pu rfl rfl ?_
      refine w_cp (vI (wsum s l ql)) rfl rfl (by decide) (Nat.le_of_ble_eq_true rfl) rfl (Nat.le_of_ble_eq_true rfl) (Nat.le_of_ble_eq_true rfl) ⟨wM hw 0 (by omega), rfl⟩ rfl (mX_waiting X hw s l ql hl l1 l2 l3) ?_
      refine w_pu rfl rfl ?_
      refine m_gR 26 hw rfl rfl rfl ?_
      refine w_pu rfl rfl ?_
      refine m_ai 26 p hw rfl rfl (by omega) (by first | rfl | simp only [ix_lits, nI_mul, nI_add]) (by show p < 3000; omega) ?_
      refine w_pu rfl rfl ?_
      refine w_pu rfl rfl ?_
      refine m_gR 2 hw rfl rfl rfl ?_
      refine w_pu rfl rfl ?_
      refine m_ai 2 l hw rfl rfl (by omega) (by first | rfl | simp only [ix_lits, nI_mul, nI_add]) (by show l < 8; omega) ?_
      refine w_pu rfl rfl ?_
      refine w_cst (v := 1) rfl rfl rfl ?_
      refine w_pu rfl rfl ?_
      refine w_pu rfl rfl ?_
      refine m_gR 2 hw rfl rfl rfl ?_
      refine w_pu rfl rfl ?_
      refine m_ai 2 l hw rfl rfl (by omega) (by first | rfl | simp only [ix_lits, nI_mul, nI_add]) (by show l < 8; omega) ?_
      refine w_op rfl rfl (by exact hsp _ (by assumption)) ?_
      refine w_top (ticksF s p l) el.symm ?_
      refine w_pu rfl rfl ?_
      refine w_pu rfl rfl ?_
      refine w_pu rfl rfl ?_
      refine w_cp (vI (wsum s m qm)) rfl rfl (by decide) (Nat.le_of_ble_eq_true rfl) rfl (Nat.le_of_ble_eq_true rfl) (Nat.le_of_ble_eq_true rfl) ⟨wM hw 0 (by omega), rfl⟩ rfl (mX_waiting X hw s m qm hm m1 m2 m3) ?_
      refine w_pu rfl rfl ?_
      refine m_gR 26 hw rfl rfl rfl ?_
      refine w_pu rfl rfl ?_
      refine m_ai 26 p hw rfl rfl (by omega) (by first | rfl | simp only [ix_lits, nI_mul, nI_add]) (by show p < 3000; omega) ?_
      refine w_pu rfl rfl ?_
      refine w_pu rfl rfl ?_
      refine m_gR 2 hw rfl rfl rfl ?_
      refine w_pu rfl rfl ?_
      refine m_ai 2 m hw rfl rfl (by omega) (by first | rfl | simp only [ix_lits, nI_mul, nI_add]) (by show m < 8; omega) ?_
      refine w_pu rfl rfl ?_
      refine w_cst (v := 1) rfl rfl rfl ?_
      refine w_pu rfl rfl ?_
      refine w_pu rfl rfl ?_
      refine m_gR 2 hw rfl rfl rfl ?_
      refine w_pu rfl rfl ?_
      refine m_ai 2 m hw rfl rfl (by omega) (by first | rfl | simp only [ix_lits, nI_mul, nI_add]) (by show m < 8; omega) ?_
      refine w_op rfl rfl (by exact hsp _ (by assumption)) ?_
      refine w_top (ticksF s p m) em.symm ?_
      refine w_pu rfl rfl ?_
      refine w_pu rfl rfl ?_
      refine w_pu rfl rfl ?_
      refine w_eq rfl (fun c2 => ?_) (fun c2 => ?_)
      · refine w_pu rfl rfl ?_
        refine m_gR 18 hw rfl rfl rfl ?_
        refine w_pu rfl rfl ?_
        refine m_ai 18 l hw rfl rfl (by omega) (by first | rfl | simp only [ix_lits, nI_mul, nI_add]) (by show l < 8; omega) ?_
        refine w_pu rfl rfl ?_
        refine m_gR 18 hw rfl rfl rfl ?_
        refine w_pu rfl rfl ?_
        refine m_ai 18 m hw rfl rfl (by omega) (by first | rfl | simp only [ix_lits, nI_mul, nI_add]) (by show m < 8; omega) ?_
        refine w_ge rfl (fun c3 => ?_) (fun c3 => ?_)
        · refine w_cst (v := 0) rfl rfl rfl ?_
          refine w_rt rfl rfl (by first | exact Or.inl rfl | exact Or.inr rfl) ?_
          exact ⟨by rw [betterF, if_neg (fun q => c1 q.1), if_pos c2, decide_eq_false (Int32.not_lt.mpr c3)]; rfl, rfl⟩
        · refine w_cst (v := 1) rfl rfl rfl ?_
          refine w_go rfl ?_
          refine w_rt rfl rfl (by first | exact Or.inl rfl | exact Or.inr rfl) ?_
          exact ⟨by rw [betterF, if_neg (fun q => c1 q.1), if_pos c2, decide_eq_true (Int32.not_le.mp c3)]; rfl, rfl⟩
      · refine w_pu rfl rfl ?_
        refine w_pu rfl rfl ?_
        refine w_ge rfl (fun c4 => ?_) (fun c4 => ?_)
        · refine w_cst (v := 0) rfl rfl rfl ?_
          refine w_go rfl ?_
          refine w_rt rfl rfl (by first | exact Or.inl rfl | exact Or.inr rfl) ?_
          exact ⟨by rw [betterF, if_neg (fun q => c1 q.1), if_neg c2, decide_eq_false (Int32.not_lt.mpr c4)]; rfl, rfl⟩
        · refine w_cst (v := 1) rfl rfl rfl ?_
          refine w_go rfl ?_
          refine w_rt rfl rfl (by first | exact Or.inl rfl | exact Or.inr rfl) ?_
          exact ⟨by rw [betterF, if_neg (fun q => c1 q.1), if_neg c2, decide_eq_true (Int32.not_le.mp c4)]; rfl, rfl⟩
    · refine w_pu rfl rfl ?_
      refine m_gR 30 hw rfl rfl rfl ?_
      refine w_cst (v := 8) rfl rfl rfl ?_
      refine w_pu rfl rfl ?_
      refine w_pu rfl rfl ?_
      refine w_pu rfl rfl ?_
      refine w_pu rfl rfl ?_
      refine m_ai 30 ((8 * p) + l) hw rfl rfl (by omega) (by first | rfl | simp only [ix_lits, nI_mul, nI_add]) (by show ((8 * p) + l) < 24000; omega) ?_
      refine w_pu rfl rfl ?_
      refine m_gR 30 hw rfl rfl rfl ?_
      refine w_cst (v := 8) rfl rfl rfl ?_
      refine w_pu rfl rfl ?_
      refine w_pu rfl rfl ?_
      refine w_pu rfl rfl ?_
      refine w_pu rfl rfl ?_
      refine m_ai 30 ((8 * p) + m) hw rfl rfl (by omega) (by first | rfl | simp only [ix_lits, nI_mul, nI_add]) (by show ((8 * p) + m) < 24000; omega) ?_
      refine w_eq rfl (fun c5 => ?_) (fun c5 => ?_)
      · refine w_pu rfl rfl ?_
        refine w_pu rfl rfl ?_
        refine w_cp (vI (wsum s l ql)) rfl rfl (by decide) (Nat.le_of_ble_eq_true rfl) rfl (Nat.le_of_ble_eq_true rfl) (Nat.le_of_ble_eq_true rfl) ⟨wM hw 0 (by omega), rfl⟩ rfl (mX_waiting X hw s l ql hl l1 l2 l3) ?_
        refine w_pu rfl rfl ?_
        refine m_gR 26 hw rfl rfl rfl ?_
        refine w_pu rfl rfl ?_
        refine m_ai 26 p hw rfl rfl (by omega) (by first | rfl | simp only [ix_lits, nI_mul, nI_add]) (by show p < 3000; omega) ?_
        refine w_pu rfl rfl ?_
        refine w_pu rfl rfl ?_
        refine m_gR 2 hw rfl rfl rfl ?_
        refine w_pu rfl rfl ?_
        refine m_ai 2 l hw rfl rfl (by omega) (by first | rfl | simp only [ix_lits, nI_mul, nI_add]) (by show l < 8; omega) ?_
        refine w_pu rfl rfl ?_
        refine w_cst (v := 1) rfl rfl rfl ?_
        refine w_pu rfl rfl ?_
        refine w_pu rfl rfl ?_
        refine m_gR 2 hw rfl rfl rfl ?_
        refine w_pu rfl rfl ?_
        refine m_ai 2 l hw rfl rfl (by omega) (by first | rfl | simp only [ix_lits, nI_mul, nI_add]) (by show l < 8; omega) ?_
        refine w_op rfl rfl (by exact hsp _ (by assumption)) ?_
        refine w_top (ticksF s p l) el.symm ?_
        refine w_pu rfl rfl ?_
        refine w_pu rfl rfl ?_
        refine w_pu rfl rfl ?_
        refine w_cp (vI (wsum s m qm)) rfl rfl (by decide) (Nat.le_of_ble_eq_true rfl) rfl (Nat.le_of_ble_eq_true rfl) (Nat.le_of_ble_eq_true rfl) ⟨wM hw 0 (by omega), rfl⟩ rfl (mX_waiting X hw s m qm hm m1 m2 m3) ?_
        refine w_pu rfl rfl ?_
        refine m_gR 26 hw rfl rfl rfl ?_
        refine w_pu rfl rfl ?_
        refine m_ai 26 p hw rfl rfl (by omega) (by first | rfl | simp only [ix_lits, nI_mul, nI_add]) (by show p < 3000; omega) ?_
        refine w_pu rfl rfl ?_
        refine w_pu rfl rfl ?_
        refine m_gR 2 hw rfl rfl rfl ?_
        refine w_pu rfl rfl ?_
        refine m_ai 2 m hw rfl rfl (by omega) (by first | rfl | simp only [ix_lits, nI_mul, nI_add]) (by show m < 8; omega) ?_
        refine w_pu rfl rfl ?_
        refine w_cst (v := 1) rfl rfl rfl ?_
        refine w_pu rfl rfl ?_
        refine w_pu rfl rfl ?_
        refine m_gR 2 hw rfl rfl rfl ?_
        refine w_pu rfl rfl ?_
        refine m_ai 2 m hw rfl rfl (by omega) (by first | rfl | simp only [ix_lits, nI_mul, nI_add]) (by show m < 8; omega) ?_
        refine w_op rfl rfl (by exact hsp _ (by assumption)) ?_
        refine w_top (ticksF s p m) em.symm ?_
        refine w_pu rfl rfl ?_
        refine w_pu rfl rfl ?_
        refine w_pu rfl rfl ?_
        refine w_eq rfl (fun c6 => ?_) (fun c6 => ?_)
        · refine w_pu rfl rfl ?_
          refine m_gR 18 hw rfl rfl rfl ?_
          refine w_pu rfl rfl ?_
          refine m_ai 18 l hw rfl rfl (by omega) (by first | rfl | simp only [ix_lits, nI_mul, nI_add]) (by show l < 8; omega) ?_
          refine w_pu rfl rfl ?_
          refine m_gR 18 hw rfl rfl rfl ?_
          refine w_pu rfl rfl ?_
          refine m_ai 18 m hw rfl rfl (by omega) (by first | rfl | simp only [ix_lits, nI_mul, nI_add]) (by show m < 8; omega) ?_
          refine w_ge rfl (fun c7 => ?_) (fun c7 => ?_)
          · refine w_cst (v := 0) rfl rfl rfl ?_
            refine w_rt rfl rfl (by first | exact Or.inl rfl | exact Or.inr rfl) ?_
            exact ⟨by rw [betterF, if_neg (fun q => q.2 c5), if_pos c6, decide_eq_false (Int32.not_lt.mpr c7)]; rfl, rfl⟩
          · refine w_cst (v := 1) rfl rfl rfl ?_
            refine w_go rfl ?_
            refine w_rt rfl rfl (by first | exact Or.inl rfl | exact Or.inr rfl) ?_
            exact ⟨by rw [betterF, if_neg (fun q => q.2 c5), if_pos c6, decide_eq_true (Int32.not_le.mp c7)]; rfl, rfl⟩
        · refine w_pu rfl rfl ?_
          refine w_pu rfl rfl ?_
          refine w_ge rfl (fun c8 => ?_) (fun c8 => ?_)
          · refine w_cst (v := 0) rfl rfl rfl ?_
            refine w_go rfl ?_
            refine w_rt rfl rfl (by first | exact Or.inl rfl | exact Or.inr rfl) ?_
            exact ⟨by rw [betterF, if_neg (fun q => q.2 c5), if_neg c6, decide_eq_false (Int32.not_lt.mpr c8)]; rfl, rfl⟩
          · refine w_cst (v := 1) rfl rfl rfl ?_
            refine w_go rfl ?_
            refine w_rt rfl rfl (by first | exact Or.inl rfl | exact Or.inr rfl) ?_
            exact ⟨by rw [betterF, if_neg (fun q => q.2 c5), if_neg c6, decide_eq_true (Int32.not_le.mp c8)]; rfl, rfl⟩
      · refine w_pu rfl rfl ?_
        refine m_gR 30 hw rfl rfl rfl ?_
        refine w_cst (v := 8) rfl rfl rfl ?_
        refine w_pu rfl rfl ?_
        refine w_pu rfl rfl ?_
        refine w_pu rfl rfl ?_
        refine w_pu rfl rfl ?_
        refine m_ai 30 ((8 * p) + l) hw rfl rfl (by omega) (by first | rfl | simp only [ix_lits, nI_mul, nI_add]) (by show ((8 * p) + l) < 24000; omega) ?_
        refine w_pu rfl rfl ?_
        refine m_gR 30 hw rfl rfl rfl ?_
        refine w_cst (v := 8) rfl rfl rfl ?_
        refine w_pu rfl rfl ?_
        refine w_pu rfl rfl ?_
        refine w_pu rfl rfl ?_
        refine w_pu rfl rfl ?_
        refine m_ai 30 ((8 * p) + m) hw rfl rfl (by omega) (by first | rfl | simp only [ix_lits, nI_mul, nI_add]) (by show ((8 * p) + m) < 24000; omega) ?_
        refine w_ge rfl (fun c9 => ?_) (fun c9 => ?_)
        · refine w_cst (v := 0) rfl rfl rfl ?_
          refine w_rt rfl rfl (by first | exact Or.inl rfl | exact Or.inr rfl) ?_
          exact ⟨by rw [betterF, if_pos ⟨c1, c5⟩, decide_eq_false (Int32.not_lt.mpr c9)]; rfl, rfl⟩
        · refine w_cst (v := 1) rfl rfl rfl ?_
          refine w_go rfl ?_
          refine w_rt rfl rfl (by first | exact Or.inl rfl | exact Or.inr rfl) ?_
          exact ⟨by rw [betterF, if_pos ⟨c1, c5⟩, decide_eq_true (Int32.not_le.mp c9)]; rfl, rfl⟩
  · exact absurd c0 (nI_nem9 (by omega))
theorem mX_isBetter (X : Nat × (Nat → Int32)) {h : Hp} {nl nf np : Nat} (hw : WF h nl nf np) (s : SS) (hq : ∀ l, l < nl → ∃ q, s 8 l = nI q ∧ q ≤ 40 ∧ ∀ k, k < q → okp np (s 7 (41 * l + k))) (hsp : ∀ l, l < nl → ¬ s 2 l = 0) (p l : Nat) (o : Option Nat) (hp : p < np) (hl : l < nl) (ho : ∀ m, o = some m → m < nl) : wp X 100 0 [TM, some (vI (nI p)), some (vI (nI l)), some (vI (enc o)), none, none] [] (pS h s) (fun r h' => r = some (vI (bI (betterO s p l o))) ∧ h' = pS h s) := by
  cases o with
  | some m => exact mX_isBetter_some X hw s hq hsp p l m hp hl (ho m rfl)
  | none =>
    show wp X 100 0 [TM, some (vI (nI p)), some (vI (nI l)), some (vI (-9)), none, none] [] (pS h s) _
    refine w_pu rfl rfl ?_
    refine w_cst (v := (-9)) rfl rfl rfl ?_
    refine w_ne rfl (fun c0 => ?_) (fun c0 => ?_)
    · exact absurd rfl c0
    · refine w_cst (v := 1) rfl rfl rfl ?_
      refine w_rt rfl rfl (by first | exact Or.inl rfl | exact Or.inr rfl) ?_
      exact ⟨rfl, rfl⟩
theorem blF_lt (s : SS) (p : Nat) : ∀ n m, blF s p n = some m → m < n
  | 0, m, q => by cases q
  | n + 1, m, q => by
    rw [blF] at q
    split at q
    · cases q
      exact Nat.lt_succ_self n
    · exact Nat.lt_succ_of_lt (blF_lt s p n m q)
theorem mX_bestLine (X : Nat × (Nat → Int32)) {h : Hp} {nl nf np : Nat} (hw : WF h nl nf np) (s : SS) (hn : s 0 0 = nI nl) (hq : ∀ l, l < nl → ∃ q, s 8 l = nI q ∧ q ≤ 40 ∧ ∀ k, k < q → okp np (s 7 (41 * l + k))) (hsp : ∀ l, l < nl → ¬ s 2 l = 0) (p : Nat) (hp : p < np) : wp X 101 0 [TM, some (vI (nI p)), none, none] [] (pS h s) (fun r h' => r = some (vI (enc (blF s p nl))) ∧ h' = pS h s) := by
  have h4 := hw.2.2.2.2.2.2.1
  have loop : ∀ d k, k + d = nl → wp X 101 5 [TM, some (vI (nI p)), some (vI (enc (blF s p k))), some (vI (nI k))] [] (pS h s) (fun r h' => r = some (vI (enc (blF s p nl))) ∧ h' = pS h s) := by
    intro d
    induction d with
    | zero =>
      intro k hk
      refine w_pu rfl rfl ?_
      refine w_pu rfl rfl ?_
      refine m_g hw rfl rfl ?_
      refine w_ge rfl (fun c0 => ?_) (fun c0 => ?_)
      · refine w_pu rfl rfl ?_
        refine w_rt rfl rfl trivial ?_
        exact ⟨by rw [show k = nl by omega], rfl⟩
      · exact absurd (by rw [hn]; exact nI_le (by omega) (by omega)) c0
    | succ d ih =>
      intro k hk
      refine w_pu rfl rfl ?_
      refine w_pu rfl rfl ?_
      refine m_g hw rfl rfl ?_
      refine w_ge rfl (fun c0 => ?_) (fun c0 => ?_)
      · exact absurd (by rw [hn] at c0; exact c0) (nI_ge (by omega) (by omega))
      · refine w_pu rfl rfl ?_
        refine m_gR 4 hw rfl rfl rfl ?_
        refine w_pu rfl rfl ?_
        refine m_ab 4 k hw rfl (Or.inr ⟨rfl, rfl⟩) (by omega) (by first | rfl | simp only [ix_lits, nI_mul, nI_add]) (by show k < 8; omega) ?_
        refine w_eq0 rfl (fun c1 => ?_) (fun c1 => ?_)
        · refine w_i1 rfl rfl rfl ?_
          refine w_go rfl ?_
          refine w_loc [TM, some (vI (nI p)), some (vI (enc (blF s p (k + 1)))), some (vI (nI (k + 1)))] (by rw [blF, if_neg (fun q => q.1 c1)]; rfl) ?_
          exact ih (k + 1) (by omega)
        · refine w_pu rfl rfl ?_
          refine m_gR 8 hw rfl rfl rfl ?_
          refine w_pu rfl rfl ?_
          refine m_ai 8 k hw rfl rfl (by omega) (by first | rfl | simp only [ix_lits, nI_mul, nI_add]) (by show k < 8; omega) ?_
          refine w_cst (v := 40) rfl rfl rfl ?_
          refine w_ge rfl (fun c2 => ?_) (fun c2 => ?_)
          · refine w_i1 rfl rfl rfl ?_
            refine w_go rfl ?_
            refine w_loc [TM, some (vI (nI p)), some (vI (enc (blF s p (k + 1)))), some (vI (nI (k + 1)))] (by rw [blF, if_neg (fun q => Int32.not_lt.mpr c2 q.2.1)]; rfl) ?_
            exact ih (k + 1) (by omega)
          · refine w_pu rfl rfl ?_
            refine w_pu rfl rfl ?_
            refine w_pu rfl rfl ?_
            refine w_pu rfl rfl ?_
            refine w_cp (vI (bI (betterO s p k (blF s p k)))) rfl rfl (by decide) (Nat.le_of_ble_eq_true rfl) rfl (Nat.le_of_ble_eq_true rfl) (Nat.le_of_ble_eq_true rfl) ⟨wM hw 0 (by omega), rfl⟩ rfl (mX_isBetter X hw s hq hsp p k (blF s p k) hp (by omega) (fun m q => Nat.lt_of_lt_of_le (blF_lt s p k m q) (by omega))) ?_
            refine w_eq0 rfl (fun c3 => ?_) (fun c3 => ?_)
            · refine w_i1 rfl rfl rfl ?_
              refine w_go rfl ?_
              refine w_loc [TM, some (vI (nI p)), some (vI (enc (blF s p (k + 1)))), some (vI (nI (k + 1)))] (by rw [blF, if_neg (fun q => absurd q.2.2 (by rw [bI_0 c3]; decide))]; rfl) ?_
              exact ih (k + 1) (by omega)
            · refine w_pu rfl rfl ?_
              refine w_pu rfl rfl ?_
              refine w_i1 rfl rfl rfl ?_
              refine w_go rfl ?_
              refine w_loc [TM, some (vI (nI p)), some (vI (enc (blF s p (k + 1)))), some (vI (nI (k + 1)))] (by rw [blF, if_pos ⟨c1, Int32.not_le.mp c2, bI_1 c3⟩]; rfl) ?_
              exact ih (k + 1) (by omega)
  refine w_cst (v := (-9)) rfl rfl rfl ?_
  refine w_pu rfl rfl ?_
  refine w_cst (v := 0) rfl rfl rfl ?_
  refine w_pu rfl rfl ?_
  exact loop nl 0 (by omega)
