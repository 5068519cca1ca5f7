/-! The reference's methods, in the words of its own numbers: what is asked most often. -/
theorem ix_lits : (0 : Int32) = nI 0 ∧ (1 : Int32) = nI 1 ∧ (8 : Int32) = nI 8 ∧ (20 : Int32) = nI 20 ∧ (40 : Int32) = nI 40 ∧ (41 : Int32) = nI 41 ∧ (200 : Int32) = nI 200 := ⟨rfl, rfl, rfl, rfl, rfl, rfl, rfl⟩
abbrev TM : Option Vl := some (vR (some (22, 0)))
def inF (v lo hi : Int32) : Int32 := if lo ≤ v ∧ v ≤ hi then 1 else 0
def szo (s : SS) (p : Int32) : Int32 := if p = -2 then 1 else s 26 (nat p)
/-- a piece's number, or an EMPTY -/
def okp (np : Nat) (p : Int32) : Prop := p = -2 ∨ ∃ k, k < np ∧ p = nI k
def wsum (s : SS) (l : Nat) : Nat → Int32
  | 0 => -(s 9 l)
  | n + 1 => wsum s l n + szo s (s 7 (41 * l + n))
theorem i32_le {a b : Int32} : ¬ a < b ↔ b ≤ a := Int32.not_lt

theorem mX_in (X : Nat × (Nat → Int32)) (h : Hp) (v lo hi : Int32) : wp X 85 0 [some (vI v), some (vI lo), some (vI hi)] [] h (fun r h' => r = some (vI (inF v lo hi)) ∧ h' = h) := by
  refine w_pu rfl rfl ?_
  refine w_pu rfl rfl ?_
  refine w_lt rfl (fun c0 => ?_) (fun c0 => ?_)
  · refine w_cst (v := 0) rfl rfl rfl ?_
    refine w_rt rfl rfl (by first | exact Or.inl rfl | exact Or.inr rfl) ?_
    exact ⟨by rw [inF, if_neg (fun q => Int32.not_lt.mpr q.1 c0)], rfl⟩
  · refine w_pu rfl rfl ?_
    refine w_pu rfl rfl ?_
    refine w_gt rfl (fun c1 => ?_) (fun c1 => ?_)
    · refine w_cst (v := 0) rfl rfl rfl ?_
      refine w_rt rfl rfl (by first | exact Or.inl rfl | exact Or.inr rfl) ?_
      exact ⟨by rw [inF, if_neg (fun q => Int32.not_lt.mpr q.2 c1)], rfl⟩
    · refine w_cst (v := 1) rfl rfl rfl ?_
      refine w_go rfl ?_
      refine w_rt rfl rfl (by first | exact Or.inl rfl | exact Or.inr rfl) ?_
      exact ⟨by rw [inF, if_pos ⟨Int32.not_lt.mp c0, Int32.not_lt.mp c1⟩], rfl⟩
theorem mX_refuse (X : Nat × (Nat → Int32)) {h : Hp} {nl nf np : Nat} (hw : WF h nl nf np) (s : SS) (v : Int32) (k : Nat) (hk : -v = nI k) (hk2 : k < 7) : wp X 86 0 [TM, some (vI v)] [] (pS h s) (fun r h' => r = some (vI v) ∧ h' = pS h (uS s 38 k (s 38 k + 1))) := by
  refine w_pu rfl rfl ?_
  refine m_gR 38 hw rfl rfl rfl ?_
  refine w_pu rfl rfl ?_
  refine w_pu rfl rfl ?_
  refine w_pu rfl rfl ?_
  refine m_ai 38 k hw rfl rfl (by omega) (by first | rfl | simp only [ix_lits, nI_mul, nI_add, hk]) (by show k < 7; omega) ?_
  refine w_cst (v := 1) rfl rfl rfl ?_
  refine w_pu rfl rfl ?_
  refine m_si 38 k hw rfl rfl (by omega) (by first | rfl | simp only [ix_lits, nI_mul, nI_add, hk]) (by show k < 7; omega) ?_
  refine w_pu rfl rfl ?_
  refine w_rt rfl rfl trivial ?_
  exact ⟨rfl, rfl⟩
theorem mX_isLine (X : Nat × (Nat → Int32)) {h : Hp} {nl nf np : Nat} (hw : WF h nl nf np) (s : SS) (v : Int32) : wp X 87 0 [TM, some (vI v)] [] (pS h s) (fun r h' => r = some (vI (inF v 0 (s 0 0 - 1))) ∧ h' = pS h s) := by
  refine w_pu rfl rfl ?_
  refine w_cst (v := 0) rfl rfl rfl ?_
  refine w_pu rfl rfl ?_
  refine m_g hw rfl rfl ?_
  refine w_cst (v := 1) rfl rfl rfl ?_
  refine w_pu rfl rfl ?_
  refine w_cp (vI (inF v 0 ((s 0 0) - 1))) rfl rfl (by decide) (Nat.le_of_ble_eq_true rfl) rfl (Nat.le_of_ble_eq_true rfl) (Nat.le_of_ble_eq_true rfl) trivial rfl (mX_in X _ v 0 ((s 0 0) - 1)) ?_
  refine w_rt rfl rfl (by unfold inF; split; exact Or.inr rfl; exact Or.inl rfl) ?_
  exact ⟨rfl, rfl⟩
theorem mX_isPiece (X : Nat × (Nat → Int32)) {h : Hp} {nl nf np : Nat} (hw : WF h nl nf np) (s : SS) (v : Int32) : wp X 118 0 [TM, some (vI v)] [] (pS h s) (fun r h' => r = some (vI (inF v 0 (s 0 23 - 1))) ∧ h' = pS h s) := by
  refine w_pu rfl rfl ?_
  refine w_cst (v := 0) rfl rfl rfl ?_
  refine w_pu rfl rfl ?_
  refine m_g hw rfl rfl ?_
  refine w_cst (v := 1) rfl rfl rfl ?_
  refine w_pu rfl rfl ?_
  refine w_cp (vI (inF v 0 ((s 0 23) - 1))) rfl rfl (by decide) (Nat.le_of_ble_eq_true rfl) rfl (Nat.le_of_ble_eq_true rfl) (Nat.le_of_ble_eq_true rfl) trivial rfl (mX_in X _ v 0 ((s 0 23) - 1)) ?_
  refine w_rt rfl rfl (by unfold inF; split; exact Or.inr rfl; exact Or.inl rfl) ?_
  exact ⟨rfl, rfl⟩
theorem mX_isFrame (X : Nat × (Nat → Int32)) {h : Hp} {nl nf np : Nat} (hw : WF h nl nf np) (s : SS) (v : Int32) : wp X 124 0 [TM, some (vI v)] [] (pS h s) (fun r h' => r = some (vI (inF v 0 (s 0 32 - 1))) ∧ h' = pS h s) := by
  refine w_pu rfl rfl ?_
  refine w_cst (v := 0) rfl rfl rfl ?_
  refine w_pu rfl rfl ?_
  refine m_g hw rfl rfl ?_
  refine w_cst (v := 1) rfl rfl rfl ?_
  refine w_pu rfl rfl ?_
  refine w_cp (vI (inF v 0 ((s 0 32) - 1))) rfl rfl (by decide) (Nat.le_of_ble_eq_true rfl) rfl (Nat.le_of_ble_eq_true rfl) (Nat.le_of_ble_eq_true rfl) trivial rfl (mX_in X _ v 0 ((s 0 32) - 1)) ?_
  refine w_rt rfl rfl (by unfold inF; split; exact Or.inr rfl; exact Or.inl rfl) ?_
  exact ⟨rfl, rfl⟩
theorem mX_sizeOf (X : Nat × (Nat → Int32)) {h : Hp} {nl nf np : Nat} (hw : WF h nl nf np) (s : SS) (v : Int32) (hv : okp np v) : wp X 97 0 [TM, some (vI v)] [] (pS h s) (fun r h' => r = some (vI (szo s v)) ∧ h' = pS h s) := by
  have h3 := hw.2.2.2.2.2.2.2.2
  refine w_pu rfl rfl ?_
  refine w_cst (v := (-2)) rfl rfl rfl ?_
  refine w_ne rfl (fun c0 => ?_) (fun c0 => ?_)
  · obtain ⟨k, hk, rfl⟩ := hv.resolve_left c0
    refine w_pu rfl rfl ?_
    refine m_gR 26 hw rfl rfl rfl ?_
    refine w_pu rfl rfl ?_
    refine m_ai 26 k hw rfl rfl (by omega) (by first | rfl | simp only [ix_lits, nI_mul, nI_add]) (by show k < 3000; omega) ?_
    refine w_rt rfl rfl trivial ?_
    exact ⟨by rw [szo, if_neg c0, nat_nI (by omega)], rfl⟩
  · refine w_cst (v := 1) rfl rfl rfl ?_
    refine w_go rfl ?_
    refine w_rt rfl rfl trivial ?_
    exact ⟨by rw [szo, if_pos c0], rfl⟩
theorem mX_waiting (X : Nat × (Nat → Int32)) {h : Hp} {nl nf np : Nat} (hw : WF h nl nf np) (s : SS) (l q : Nat) (hl : l < nl) (hq1 : s 8 l = nI q) (hq2 : q ≤ 40) (hq : ∀ k, k < q → okp np (s 7 (41 * l + k))) : wp X 98 0 [TM, some (vI (nI l)), none, none] [] (pS h s) (fun r h' => r = some (vI (wsum s l q)) ∧ h' = pS h s) := by
  have h3 := hw.2.2.2.2.2.2.1
  have loop : ∀ d k, k + d = q → wp X 98 10 [TM, some (vI (nI l)), some (vI (wsum s l k)), some (vI (nI k))] [] (pS h s) (fun r h' => r = some (vI (wsum s l q)) ∧ h' = pS h s) := by
    intro d
    induction d with
    | zero =>
      intro k hk
      refine w_pu rfl rfl ?_
      refine w_pu rfl rfl ?_
      refine m_gR 8 hw rfl rfl rfl ?_
      refine w_pu rfl rfl ?_
      refine m_ai 8 l hw rfl rfl (by omega) (by first | rfl | simp only [ix_lits, nI_mul, nI_add, hq1]) (by show l < 8; omega) ?_
      refine w_ge rfl (fun c0 => ?_) (fun c0 => ?_)
      · refine w_pu rfl rfl ?_
        refine w_rt rfl rfl trivial ?_
        exact ⟨by rw [show k = q by omega], rfl⟩
      · exact absurd (by rw [hq1]; exact nI_le (by omega) (by omega)) c0
    | succ d ih =>
      intro k hk
      refine w_pu rfl rfl ?_
      refine w_pu rfl rfl ?_
      refine m_gR 8 hw rfl rfl rfl ?_
      refine w_pu rfl rfl ?_
      refine m_ai 8 l hw rfl rfl (by omega) (by first | rfl | simp only [ix_lits, nI_mul, nI_add, hq1]) (by show l < 8; omega) ?_
      refine w_ge rfl (fun c0 => ?_) (fun c0 => ?_)
      · exact absurd (by rw [hq1] at c0; exact c0) (nI_ge (by omega) (by omega))
      · refine w_pu rfl rfl ?_
        refine w_pu rfl rfl ?_
        refine w_pu rfl rfl ?_
        refine m_gR 7 hw rfl rfl rfl ?_
        refine w_cst (v := 41) rfl rfl rfl ?_
        refine w_pu rfl rfl ?_
        refine w_pu rfl rfl ?_
        refine w_pu rfl rfl ?_
        refine w_pu rfl rfl ?_
        refine m_ai 7 ((41 * l) + k) hw rfl rfl (by omega) (by first | rfl | simp only [ix_lits, nI_mul, nI_add, hq1]) (by show ((41 * l) + k) < 328; omega) ?_
        refine w_cp (vI (szo s (s 7 ((41 * l) + k)))) rfl rfl (by decide) (Nat.le_of_ble_eq_true rfl) rfl (Nat.le_of_ble_eq_true rfl) (Nat.le_of_ble_eq_true rfl) ⟨wM hw 0 (by omega), rfl⟩ rfl (mX_sizeOf X hw s (s 7 ((41 * l) + k)) (by first | exact hq _ (by omega) | assumption)) ?_
        refine w_pu rfl rfl ?_
        refine w_pu rfl rfl ?_
        refine w_i1 rfl rfl rfl ?_
        refine w_go rfl ?_
        exact ih (k + 1) (by omega)
  refine w_pu rfl rfl ?_
  refine m_gR 9 hw rfl rfl rfl ?_
  refine w_pu rfl rfl ?_
  refine m_ai 9 l hw rfl rfl (by omega) (by first | rfl | simp only [ix_lits, nI_mul, nI_add]) (by show l < 8; omega) ?_
  refine w_pu rfl rfl ?_
  refine w_pu rfl rfl ?_
  refine w_cst (v := 0) rfl rfl rfl ?_
  refine w_pu rfl rfl ?_
  exact loop q 0 (by omega)
