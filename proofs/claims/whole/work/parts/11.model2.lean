/-! The reference's tick. -/
theorem mX_credit (X : Nat × (Nat → Int32)) {h : Hp} {nl nf np : Nat} (hw : WF h nl nf np) (s : SS) (hn : s 0 23 = nI np) : wp X 96 0 [TM, none, none] [] (pS h s) (fun r h' => r = some (vI (credF s np)) ∧ h' = pS h s) := by
  have h3 := hw.2.2.2.2.2.2.2.2
  have loop : ∀ d k, k + d = np → wp X 96 7 [TM, some (vI (credF s k)), some (vI (nI k))] [] (pS h s) (fun r h' => r = some (vI (credF s np)) ∧ h' = pS h s) := by
    intro d
    induction d with
    | zero =>
      intro k hk
      refine w_pu rfl rfl ?_
      refine w_pu rfl rfl ?_
      refine m_g hw rfl rfl ?_
      refine w_ge rfl (fun c0 => ?_) (fun c0 => ?_)
      · refine w_pu rfl rfl ?_
        refine w_rt rfl rfl trivial ?_
        exact ⟨by rw [show k = np by omega], rfl⟩
      · exact absurd (by rw [hn]; exact nI_le (by omega) (by omega)) c0
    | succ d ih =>
      intro k hk
      refine w_pu rfl rfl ?_
      refine w_pu rfl rfl ?_
      refine m_g hw rfl rfl ?_
      refine w_ge rfl (fun c0 => ?_) (fun c0 => ?_)
      · exact absurd (by rw [hn] at c0; exact c0) (nI_ge (by omega) (by omega))
      · refine w_pu rfl rfl ?_
        refine w_pu rfl rfl ?_
        refine m_gR 23 hw rfl rfl rfl ?_
        refine w_pu rfl rfl ?_
        refine m_ai 23 k hw rfl rfl (by omega) (by first | rfl | simp only [ix_lits, nI_mul, nI_add]) (by show k < 3000; omega) ?_
        refine w_eq0 rfl (fun c1 => ?_) (fun c1 => ?_)
        · refine w_cst (v := 0) rfl rfl rfl ?_
          refine w_pu rfl rfl ?_
          refine w_pu rfl rfl ?_
          refine w_i1 rfl rfl rfl ?_
          refine w_go rfl ?_
          refine w_loc [TM, some (vI (credF s (k + 1))), some (vI (nI (k + 1)))] (by rw [credF, if_neg (fun q => q.1 c1)]; rfl) ?_
          exact ih (k + 1) (by omega)
        · refine w_pu rfl rfl ?_
          refine m_gR 24 hw rfl rfl rfl ?_
          refine w_pu rfl rfl ?_
          refine m_ai 24 k hw rfl rfl (by omega) (by first | rfl | simp only [ix_lits, nI_mul, nI_add]) (by show k < 3000; omega) ?_
          refine w_pu rfl rfl ?_
          refine m_g hw rfl rfl ?_
          refine w_lt rfl (fun c2 => ?_) (fun c2 => ?_)
          · refine w_cst (v := 0) rfl rfl rfl ?_
            refine w_pu rfl rfl ?_
            refine w_pu rfl rfl ?_
            refine w_i1 rfl rfl rfl ?_
            refine w_go rfl ?_
            refine w_loc [TM, some (vI (credF s (k + 1))), some (vI (nI (k + 1)))] (by rw [credF, if_neg (fun q => Int32.not_lt.mpr q.2 c2)]; rfl) ?_
            exact ih (k + 1) (by omega)
          · refine w_pu rfl rfl ?_
            refine m_gR 26 hw rfl rfl rfl ?_
            refine w_pu rfl rfl ?_
            refine m_ai 26 k hw rfl rfl (by omega) (by first | rfl | simp only [ix_lits, nI_mul, nI_add]) (by show k < 3000; omega) ?_
            refine w_go rfl ?_
            refine w_pu rfl rfl ?_
            refine w_pu rfl rfl ?_
            refine w_i1 rfl rfl rfl ?_
            refine w_go rfl ?_
            refine w_loc [TM, some (vI (credF s (k + 1))), some (vI (nI (k + 1)))] (by rw [credF, if_pos ⟨c1, Int32.not_lt.mp c2⟩]; rfl) ?_
            exact ih (k + 1) (by omega)
  refine w_pu rfl rfl ?_
  refine m_g hw rfl rfl ?_
  refine w_pu rfl rfl ?_
  refine w_cst (v := 0) rfl rfl rfl ?_
  refine w_pu rfl rfl ?_
  exact loop np 0 (by omega)
def finL (nl np d : Nat) (s : SS) : SS := match layL nl np d s with
  | (t, true) => t
  | (t, false) => layN nl np np (credF t np) t
theorem mX_laying (X : Nat × (Nat → Int32)) {h : Hp} {nl nf np : Nat} (hw : WF h nl nf np) (J : SS → Prop) (hJ : ∀ t, J t → t 0 0 = nI nl ∧ t 0 23 = nI np ∧ (∀ l, l < nl → ∃ q, t 8 l = nI q ∧ q ≤ 40 ∧ ∀ k, k < q → okp np (t 7 (41 * l + k))) ∧ (∀ l, l < nl → ¬ t 2 l = 0)) (hL : ∀ t p l, J t → p < np → (t 23 p = 2 ∨ t 23 p = 0) → blF t p nl = some l → J (layOnF t p l)) (s : SS) (hs : J s) : wp X 103 0 [TM, none, none, none] [] (pS h s) (fun r h' => r = none ∧ h' = pS h (layingF nl np s)) := by
  have h3 := hw.2.2.2.2.2.2.2.2
  have h4 := hw.2.2.2.2.2.2.1
  have loop2 : ∀ d k left (s : SS) (x : Option Vl), k + d = np → J s → wp X 103 52 [TM, some (vI left), some (vI (nI k)), x] [] (pS h s) (fun r h' => r = none ∧ h' = pS h (layN nl np d left s)) := by
    intro d
    induction d with
    | zero =>
      intro k left s x hk hs
      obtain ⟨j1, j2, j3, j4⟩ := hJ s hs
      refine w_pu rfl rfl ?_
      refine w_pu rfl rfl ?_
      refine m_g hw rfl rfl ?_
      refine w_ge rfl (fun c0 => ?_) (fun c0 => ?_)
      · refine w_rt rfl rfl trivial ?_
        exact ⟨rfl, rfl⟩
      · exact absurd (by rw [j2]; exact nI_le (by omega) (by omega)) c0
    | succ d ih =>
      intro k left s x hk hs
      obtain ⟨j1, j2, j3, j4⟩ := hJ s hs
      have ek : np - (d + 1) = k := by omega
      refine w_pu rfl rfl ?_
      refine w_pu rfl rfl ?_
      refine m_g hw rfl rfl ?_
      refine w_ge rfl (fun c0 => ?_) (fun c0 => ?_)
      · exact absurd (by rw [j2] at c0; exact c0) (nI_ge (by omega) (by omega))
      · refine w_pu rfl rfl ?_
        refine m_gR 23 hw rfl rfl rfl ?_
        refine w_pu rfl rfl ?_
        refine m_ai 23 k hw rfl rfl (by omega) (by first | rfl | simp only [ix_lits, nI_mul, nI_add]) (by show k < 3000; omega) ?_
        refine w_eq0 rfl (fun c1 => ?_) (fun c1 => ?_)
        · refine w_pu rfl rfl ?_
          refine w_pu rfl rfl ?_
          refine w_cp (vI (enc (blF s k nl))) rfl rfl (by decide) (Nat.le_of_ble_eq_true rfl) rfl (Nat.le_of_ble_eq_true rfl) (Nat.le_of_ble_eq_true rfl) ⟨wM hw 0 (by omega), rfl⟩ rfl (mX_bestLine X hw s j1 j3 j4 k (by omega)) ?_
          cases hb : blF s k nl with
          | none =>
            refine w_pu rfl rfl ?_
            refine w_pu rfl rfl ?_
            refine w_cst (v := (-9)) rfl rfl rfl ?_
            refine w_eq rfl (fun c10 => ?_) (fun c10 => ?_)
            · refine w_rt rfl rfl trivial ?_
              exact ⟨rfl, by rw [layN, ek, if_pos c1, hb]⟩
            · exact absurd rfl c10
          | some l =>
            have hl := blF_lt s k nl l hb
            obtain ⟨q, q1, q2, -⟩ := j3 l hl
            refine w_pu rfl rfl ?_
            refine w_pu rfl rfl ?_
            refine w_cst (v := (-9)) rfl rfl rfl ?_
            refine w_eq rfl (fun c20 => ?_) (fun c20 => ?_)
            · exact absurd c20 (nI_nem9 (by omega))
            · refine w_pu rfl rfl ?_
              refine m_gR 26 hw rfl rfl rfl ?_
              refine w_pu rfl rfl ?_
              refine m_ai 26 k hw rfl rfl (by omega) (by first | rfl | simp only [ix_lits, nI_mul, nI_add]) (by show k < 3000; omega) ?_
              refine w_pu rfl rfl ?_
              refine w_le rfl (fun c21 => ?_) (fun c21 => ?_)
              · refine w_pu rfl rfl ?_
                refine w_pu rfl rfl ?_
                refine w_pu rfl rfl ?_
                refine w_cvE (pS h (layOnF s k l)) rfl rfl (by decide) (Nat.le_of_ble_eq_true rfl) rfl (Nat.le_of_ble_eq_true rfl) (Nat.le_of_ble_eq_true rfl) ⟨wM hw 0 (by omega), rfl⟩ rfl (mX_layOn X hw s k l q (by omega) hl q1 q2) ?_
                refine w_pu rfl rfl ?_
                refine w_pu rfl rfl ?_
                refine m_gR 26 hw rfl rfl rfl ?_
                refine w_pu rfl rfl ?_
                refine m_ai 26 k hw rfl rfl (by omega) (by first | rfl | simp only [ix_lits, nI_mul, nI_add]) (by show k < 3000; omega) ?_
                refine w_pu rfl rfl ?_
                refine w_pu rfl rfl ?_
                refine w_i1 rfl rfl rfl ?_
                refine w_go rfl ?_
                rw [layN, ek, if_pos c1, hb]
                dsimp only
                rw [if_neg (Int32.not_lt.mpr c21)]
                exact ih (k + 1) _ _ _ (by omega) (hL s k l hs (by omega) (Or.inr c1) hb)
              · refine w_rt rfl rfl trivial ?_
                exact ⟨rfl, by rw [layN, ek, if_pos c1, hb]; dsimp only; rw [if_pos (Int32.not_le.mp c21)]⟩
        · refine w_go rfl ?_
          refine w_i1 rfl rfl rfl ?_
          refine w_go rfl ?_
          rw [layN, ek, if_neg c1]
          exact ih (k + 1) _ _ _ (by omega) hs
  have loop1 : ∀ d k (s : SS) (x : Option Vl), k + d = np → J s → wp X 103 2 [TM, some (vI (nI k)), x, none] [] (pS h s) (fun r h' => r = none ∧ h' = pS h (finL nl np d s)) := by
    intro d
    induction d with
    | zero =>
      intro k s x hk hs
      obtain ⟨j1, j2, j3, j4⟩ := hJ s hs
      refine w_pu rfl rfl ?_
      refine w_pu rfl rfl ?_
      refine m_g hw rfl rfl ?_
      refine w_ge rfl (fun c0 => ?_) (fun c0 => ?_)
      · refine w_pu rfl rfl ?_
        refine w_cp (vI (credF s np)) rfl rfl (by decide) (Nat.le_of_ble_eq_true rfl) rfl (Nat.le_of_ble_eq_true rfl) (Nat.le_of_ble_eq_true rfl) ⟨wM hw 0 (by omega), rfl⟩ rfl (mX_credit X hw s j2) ?_
        refine w_pu rfl rfl ?_
        refine w_cst (v := 0) rfl rfl rfl ?_
        refine w_pu rfl rfl ?_
        exact loop2 np 0 _ s _ (by omega) hs
      · exact absurd (by rw [j2]; exact nI_le (by omega) (by omega)) c0
    | succ d ih =>
      intro k s x hk hs
      obtain ⟨j1, j2, j3, j4⟩ := hJ s hs
      have ek : np - (d + 1) = k := by omega
      refine w_pu rfl rfl ?_
      refine w_pu rfl rfl ?_
      refine m_g hw rfl rfl ?_
      refine w_ge rfl (fun c0 => ?_) (fun c0 => ?_)
      · exact absurd (by rw [j2] at c0; exact c0) (nI_ge (by omega) (by omega))
      · refine w_pu rfl rfl ?_
        refine m_gR 23 hw rfl rfl rfl ?_
        refine w_pu rfl rfl ?_
        refine m_ai 23 k hw rfl rfl (by omega) (by first | rfl | simp only [ix_lits, nI_mul, nI_add]) (by show k < 3000; omega) ?_
        refine w_cst (v := 2) rfl rfl rfl ?_
        refine w_ne rfl (fun c1 => ?_) (fun c1 => ?_)
        · refine w_i1 rfl rfl rfl ?_
          refine w_go rfl ?_
          rw [finL, layL, ek, if_neg c1]
          exact ih (k + 1) _ _ (by omega) hs
        · refine w_pu rfl rfl ?_
          refine w_pu rfl rfl ?_
          refine w_cp (vI (enc (blF s k nl))) rfl rfl (by decide) (Nat.le_of_ble_eq_true rfl) rfl (Nat.le_of_ble_eq_true rfl) (Nat.le_of_ble_eq_true rfl) ⟨wM hw 0 (by omega), rfl⟩ rfl (mX_bestLine X hw s j1 j3 j4 k (by omega)) ?_
          cases hb : blF s k nl with
          | none =>
            refine w_pu rfl rfl ?_
            refine w_pu rfl rfl ?_
            refine w_cst (v := (-9)) rfl rfl rfl ?_
            refine w_ne rfl (fun c10 => ?_) (fun c10 => ?_)
            · exact absurd rfl c10
            · refine w_rt rfl rfl trivial ?_
              exact ⟨rfl, by rw [finL, layL, ek, if_pos c1, hb]⟩
          | some l =>
            have hl := blF_lt s k nl l hb
            obtain ⟨q, q1, q2, -⟩ := j3 l hl
            refine w_pu rfl rfl ?_
            refine w_pu rfl rfl ?_
            refine w_cst (v := (-9)) rfl rfl rfl ?_
            refine w_ne rfl (fun c20 => ?_) (fun c20 => ?_)
            · refine w_pu rfl rfl ?_
              refine w_pu rfl rfl ?_
              refine w_pu rfl rfl ?_
              refine w_cvE (pS h (layOnF s k l)) rfl rfl (by decide) (Nat.le_of_ble_eq_true rfl) rfl (Nat.le_of_ble_eq_true rfl) (Nat.le_of_ble_eq_true rfl) ⟨wM hw 0 (by omega), rfl⟩ rfl (mX_layOn X hw s k l q (by omega) hl q1 q2) ?_
              refine w_i1 rfl rfl rfl ?_
              refine w_go rfl ?_
              rw [finL, layL, ek, if_pos c1, hb]
              exact ih (k + 1) _ _ (by omega) (hL s k l hs (by omega) (Or.inl c1) hb)
            · exact absurd c20 (nI_nem9 (by omega))
  refine w_cst (v := 0) rfl rfl rfl ?_
  refine w_pu rfl rfl ?_
  exact loop1 np 0 s _ (by omega) hs
theorem mX_allowed (X : Nat × (Nat → Int32)) {h : Hp} {nl nf np : Nat} (hw : WF h nl nf np) (s : SS) (l t sp : Nat) (hl : l < nl) (ht : s 0 45 = nI t) (ht2 : t ≤ 20000) (hs1 : s 6 l = nI sp) (hs2 : sp ≤ 20) : wp X 104 0 [TM, some (vI (nI l)), none, none] [] (pS h s) (fun r h' => r = some (vI (allowedF s l t)) ∧ h' = pS h s) := by
  have h4 := hw.2.2.2.2.2.2.1
  have em : min (nat (s 6 l)) t - 1 = min sp t - 1 := by rw [hs1, nat_nI (by omega)]
  have loop : ∀ d k, k + d = min sp t - 1 → s 1 l = 3 → wp X 104 26 [TM, some (vI (nI l)), some (vI (alw s l t k)), some (vI (nI (k + 1)))] [] (pS h s) (fun r h' => r = some (vI (allowedF s l t)) ∧ h' = pS h s) := by
    intro d
    induction d with
    | zero =>
      intro k hk hkd
      have ek : min sp t - 1 = k := by omega
      refine w_pu rfl rfl ?_
      refine w_pu rfl rfl ?_
      refine m_gR 6 hw rfl rfl rfl ?_
      refine w_pu rfl rfl ?_
      refine m_ai 6 l hw rfl rfl (by omega) (by first | rfl | simp only [ix_lits, nI_mul, nI_add]) (by show l < 8; omega) ?_
      refine w_ge rfl (fun c0 => ?_) (fun c0 => ?_)
      · refine w_pu rfl rfl ?_
        refine w_ge0 rfl (fun c1 => ?_) (fun c1 => ?_)
        · refine w_pu rfl rfl ?_
          refine w_pu rfl rfl ?_
          refine m_gR 2 hw rfl rfl rfl ?_
          refine w_pu rfl rfl ?_
          refine m_ai 2 l hw rfl rfl (by omega) (by first | rfl | simp only [ix_lits, nI_mul, nI_add]) (by show l < 8; omega) ?_
          refine w_ge rfl (fun c2 => ?_) (fun c2 => ?_)
          · refine w_pu rfl rfl ?_
            refine m_gR 2 hw rfl rfl rfl ?_
            refine w_pu rfl rfl ?_
            refine m_ai 2 l hw rfl rfl (by omega) (by first | rfl | simp only [ix_lits, nI_mul, nI_add]) (by show l < 8; omega) ?_
            refine w_rt rfl rfl trivial ?_
            exact ⟨by rw [allowedF, if_pos hkd, em, ek, if_neg (Int32.not_lt.mpr c1), if_neg (Int32.not_lt.mpr c2)], rfl⟩
          · refine w_pu rfl rfl ?_
            refine w_go rfl ?_
            refine w_rt rfl rfl trivial ?_
            exact ⟨by rw [allowedF, if_pos hkd, em, ek, if_neg (Int32.not_lt.mpr c1), if_pos (Int32.not_le.mp c2)], rfl⟩
        · refine w_cst (v := 0) rfl rfl rfl ?_
          refine w_go rfl ?_
          refine w_rt rfl rfl trivial ?_
          exact ⟨by rw [allowedF, if_pos hkd, em, ek, if_pos (Int32.not_le.mp c1)], rfl⟩
      · refine w_pu rfl rfl ?_
        refine w_pu rfl rfl ?_
        refine m_g hw rfl rfl ?_
        refine w_ge rfl (fun c3 => ?_) (fun c3 => ?_)
        · refine w_pu rfl rfl ?_
          refine w_ge0 rfl (fun c4 => ?_) (fun c4 => ?_)
          · refine w_pu rfl rfl ?_
            refine w_pu rfl rfl ?_
            refine m_gR 2 hw rfl rfl rfl ?_
            refine w_pu rfl rfl ?_
            refine m_ai 2 l hw rfl rfl (by omega) (by first | rfl | simp only [ix_lits, nI_mul, nI_add]) (by show l < 8; omega) ?_
            refine w_ge rfl (fun c5 => ?_) (fun c5 => ?_)
            · refine w_pu rfl rfl ?_
              refine m_gR 2 hw rfl rfl rfl ?_
              refine w_pu rfl rfl ?_
              refine m_ai 2 l hw rfl rfl (by omega) (by first | rfl | simp only [ix_lits, nI_mul, nI_add]) (by show l < 8; omega) ?_
              refine w_rt rfl rfl trivial ?_
              exact ⟨by rw [allowedF, if_pos hkd, em, ek, if_neg (Int32.not_lt.mpr c4), if_neg (Int32.not_lt.mpr c5)], rfl⟩
            · refine w_pu rfl rfl ?_
              refine w_go rfl ?_
              refine w_rt rfl rfl trivial ?_
              exact ⟨by rw [allowedF, if_pos hkd, em, ek, if_neg (Int32.not_lt.mpr c4), if_pos (Int32.not_le.mp c5)], rfl⟩
          · refine w_cst (v := 0) rfl rfl rfl ?_
            refine w_go rfl ?_
            refine w_rt rfl rfl trivial ?_
            exact ⟨by rw [allowedF, if_pos hkd, em, ek, if_pos (Int32.not_le.mp c4)], rfl⟩
        · have a0 : ¬ sp ≤ k + 1 := fun q => c0 (by rw [hs1]; exact nI_le q (by omega))
          have a1 : ¬ t ≤ k + 1 := fun q => c3 (by rw [ht]; exact nI_le q (by omega))
          refine w_pu rfl rfl ?_
          refine w_pu rfl rfl ?_
          refine m_gR 22 hw rfl rfl rfl ?_
          refine w_cst (v := 20) rfl rfl rfl ?_
          refine w_pu rfl rfl ?_
          refine w_pu rfl rfl ?_
          refine w_pu rfl rfl ?_
          refine m_g hw rfl rfl ?_
          refine w_pu rfl rfl ?_
          refine w_pu rfl rfl ?_
          refine w_cst (v := 20) rfl rfl rfl ?_
          refine w_op rfl rfl (by decide) ?_
          refine w_top (nI ((t - (k + 1)) % 20)) (by rw [ht, nI_sub (by omega)]; exact pk_rem (d := 20) (by omega) (by omega) (by omega)) ?_
          refine w_pu rfl rfl ?_
          refine m_ai 22 ((20 * l) + ((t - (k + 1)) % 20)) hw rfl rfl (by omega) (by first | rfl | simp only [ix_lits, nI_mul, nI_add]) (by show ((20 * l) + ((t - (k + 1)) % 20)) < 160; omega) ?_
          refine w_pu rfl rfl ?_
          refine w_pu rfl rfl ?_
          refine w_i1 rfl rfl rfl ?_
          refine w_go rfl ?_
          exact absurd hk (by omega)
    | succ d ih =>
      intro k hk hkd
      refine w_pu rfl rfl ?_
      refine w_pu rfl rfl ?_
      refine m_gR 6 hw rfl rfl rfl ?_
      refine w_pu rfl rfl ?_
      refine m_ai 6 l hw rfl rfl (by omega) (by first | rfl | simp only [ix_lits, nI_mul, nI_add]) (by show l < 8; omega) ?_
      refine w_ge rfl (fun c0 => ?_) (fun c0 => ?_)
      · exact absurd (by rw [hs1] at c0; exact c0) (nI_ge (by omega) (by omega))
      · refine w_pu rfl rfl ?_
        refine w_pu rfl rfl ?_
        refine m_g hw rfl rfl ?_
        refine w_ge rfl (fun c1 => ?_) (fun c1 => ?_)
        · exact absurd (by rw [ht] at c1; exact c1) (nI_ge (by omega) (by omega))
        · have a0 : ¬ sp ≤ k + 1 := fun q => c0 (by rw [hs1]; exact nI_le q (by omega))
          have a1 : ¬ t ≤ k + 1 := fun q => c1 (by rw [ht]; exact nI_le q (by omega))
          refine w_pu rfl rfl ?_
          refine w_pu rfl rfl ?_
          refine m_gR 22 hw rfl rfl rfl ?_
          refine w_cst (v := 20) rfl rfl rfl ?_
          refine w_pu rfl rfl ?_
          refine w_pu rfl rfl ?_
          refine w_pu rfl rfl ?_
          refine m_g hw rfl rfl ?_
          refine w_pu rfl rfl ?_
          refine w_pu rfl rfl ?_
          refine w_cst (v := 20) rfl rfl rfl ?_
          refine w_op rfl rfl (by decide) ?_
          refine w_top (nI ((t - (k + 1)) % 20)) (by rw [ht, nI_sub (by omega)]; exact pk_rem (d := 20) (by omega) (by omega) (by omega)) ?_
          refine w_pu rfl rfl ?_
          refine m_ai 22 ((20 * l) + ((t - (k + 1)) % 20)) hw rfl rfl (by omega) (by first | rfl | simp only [ix_lits, nI_mul, nI_add]) (by show ((20 * l) + ((t - (k + 1)) % 20)) < 160; omega) ?_
          refine w_pu rfl rfl ?_
          refine w_pu rfl rfl ?_
          refine w_i1 rfl rfl rfl ?_
          refine w_go rfl ?_
          exact ih (k + 1) (by omega) hkd
  refine w_pu rfl rfl ?_
  refine m_gR 1 hw rfl rfl rfl ?_
  refine w_pu rfl rfl ?_
  refine m_ai 1 l hw rfl rfl (by omega) (by first | rfl | simp only [ix_lits, nI_mul, nI_add]) (by show l < 8; omega) ?_
  refine w_cst (v := 3) rfl rfl rfl ?_
  refine w_eq rfl (fun c0 => ?_) (fun c0 => ?_)
  · refine w_pu rfl rfl ?_
    refine m_gR 5 hw rfl rfl rfl ?_
    refine w_pu rfl rfl ?_
    refine m_ai 5 l hw rfl rfl (by omega) (by first | rfl | simp only [ix_lits, nI_mul, nI_add]) (by show l < 8; omega) ?_
    refine w_pu rfl rfl ?_
    refine w_cst (v := 1) rfl rfl rfl ?_
    refine w_pu rfl rfl ?_
    exact loop (min sp t - 1) 0 (by omega) c0
  · refine w_pu rfl rfl ?_
    refine m_gR 2 hw rfl rfl rfl ?_
    refine w_pu rfl rfl ?_
    refine m_ai 2 l hw rfl rfl (by omega) (by first | rfl | simp only [ix_lits, nI_mul, nI_add]) (by show l < 8; omega) ?_
    refine w_rt rfl rfl trivial ?_
    exact ⟨by rw [allowedF, if_neg c0], rfl⟩
theorem shF_step (s : SS) (l k : Nat) : uS (shF s l k) 7 (41 * l + k) (shF s l k 7 (41 * l + k + 1)) = shF s l (k + 1) := by
  funext j i
  unfold uS shF
  by_cases hj : j = 7
  · subst hj
    by_cases h1 : i = 41 * l + k
    · subst h1
      rw [if_pos ⟨rfl, rfl⟩, if_neg (by omega), if_pos ⟨rfl, by omega, by omega⟩]
    · rw [if_neg (fun q => h1 q.2)]
      by_cases h2 : 41 * l ≤ i ∧ i < 41 * l + k
      · rw [if_pos ⟨rfl, h2⟩, if_pos ⟨rfl, h2.1, by omega⟩]
      · rw [if_neg (fun q => h2 q.2), if_neg (fun q => h2 ⟨q.2.1, by omega⟩)]
  · rw [if_neg (fun q => hj q.1), if_neg (fun q => hj q.1), if_neg (fun q => hj q.1)]
theorem shF_0 (s : SS) (l : Nat) : shF s l 0 = s := by
  funext j i
  unfold shF
  rw [if_neg (by omega)]
theorem shF_j (s : SS) (l n : Nat) {j : Nat} (i : Nat) (hj : ¬ j = 7) : shF s l n j i = s j i := if_neg (fun q => hj q.1)
theorem mX_sendFirst (X : Nat × (Nat → Int32)) {h : Hp} {nl nf np : Nat} (hw : WF h nl nf np) (s : SS) (l q f u : Nat) (hl : l < nl) (hq1 : s 8 l = nI q) (hq0 : 1 ≤ q) (hq2 : q ≤ 40) (hf : s 14 l = nI f) (hf2 : f < 200) (hu : s 15 l = nI u) (hu2 : u < 200) (hp : okp np (s 7 (41 * l))) : wp X 105 0 [TM, some (vI (nI l)), none, none] [] (pS h s) (fun r h' => r = none ∧ h' = pS h (sFF s l)) := by
  have h4 := hw.2.2.2.2.2.2.1
  have h3 := hw.2.2.2.2.2.2.2.2
  have loop : ∀ d k (a : SS), k + d = q - 1 → a = shF (uS s 8 l (s 8 l - 1)) l k → wp X 105 22 [TM, some (vI (nI l)), some (vI (s 7 (41 * l))), some (vI (nI k))] [] (pS h a) (fun r h' => r = none ∧ h' = pS h (sFF s l)) := by
    intro d
    induction d with
    | zero =>
      intro k a hk ha
      have ek : k = q - 1 := by omega
      have a8 : a 8 l = nI (q - 1) := by
        rw [ha, shF_j _ _ _ _ (by decide), uS_eq, hq1]
        exact nI_sub (b := 1) hq0
      have a14 : a 14 l = nI f := by rw [ha, shF_j _ _ _ _ (by decide), uS_j _ _ _ (by decide), hf]
      have a15 : a 15 l = nI u := by rw [ha, shF_j _ _ _ _ (by decide), uS_j _ _ _ (by decide), hu]
      have a16 : a 16 l = s 16 l := by rw [ha, shF_j _ _ _ _ (by decide), uS_j _ _ _ (by decide)]
      have a45 : a 0 45 = s 0 45 := by rw [ha, shF_j _ _ _ _ (by decide), uS_j _ _ _ (by decide)]
      have a3 : a 3 l = s 3 l := by rw [ha, shF_j _ _ _ _ (by decide), uS_j _ _ _ (by decide)]
      have ew : wayF s l = 200 * l + (f + u) % 200 := by
        unfold wayF
        rw [hf, hu, nat_nI (by omega), nat_nI (by omega)]
      refine w_pu rfl rfl ?_
      refine w_pu rfl rfl ?_
      refine m_gR 8 hw rfl rfl rfl ?_
      refine w_pu rfl rfl ?_
      refine m_ai 8 l hw rfl rfl (by omega) (by first | rfl | simp only [ix_lits, nI_mul, nI_add]) (by show l < 8; omega) ?_
      refine w_ge rfl (fun c0 => ?_) (fun c0 => ?_)
      · refine w_pu rfl rfl ?_
        refine m_gR 9 hw rfl rfl rfl ?_
        refine w_pu rfl rfl ?_
        refine w_cst (v := 0) rfl rfl rfl ?_
        refine m_si 9 l hw rfl rfl (by omega) (by first | rfl | simp only [ix_lits, nI_mul, nI_add]) (by show l < 8; omega) ?_
        refine w_cst (v := 200) rfl rfl rfl ?_
        refine w_pu rfl rfl ?_
        refine w_pu rfl rfl ?_
        refine w_pu rfl rfl ?_
        refine m_gR 14 hw rfl rfl rfl ?_
        refine w_pu rfl rfl ?_
        refine m_ai 14 l hw rfl rfl (by omega) (by first | rfl | simp only [ix_lits, nI_mul, nI_add]) (by show l < 8; omega) ?_
        refine w_top (a 14 l) rfl ?_
        refine w_pu rfl rfl ?_
        refine m_gR 15 hw rfl rfl rfl ?_
        refine w_pu rfl rfl ?_
        refine m_ai 15 l hw rfl rfl (by omega) (by first | rfl | simp only [ix_lits, nI_mul, nI_add]) (by show l < 8; omega) ?_
        refine w_top (a 15 l) rfl ?_
        refine w_pu rfl rfl ?_
        refine w_cst (v := 200) rfl rfl rfl ?_
        refine w_op rfl rfl (by decide) ?_
        refine w_top (nI ((f + u) % 200)) (by rw [a14, a15, nI_add]; exact pk_rem (d := 200) (by omega) (by omega) (by omega)) ?_
        refine w_pu rfl rfl ?_
        refine w_pu rfl rfl ?_
        refine w_pu rfl rfl ?_
        refine m_gR 15 hw rfl rfl rfl ?_
        refine w_pu rfl rfl ?_
        refine w_pu rfl rfl ?_
        refine m_ai 15 l hw rfl rfl (by omega) (by first | rfl | simp only [ix_lits, nI_mul, nI_add]) (by show l < 8; omega) ?_
        refine w_top (a 15 l) rfl ?_
        refine w_cst (v := 1) rfl rfl rfl ?_
        refine w_pu rfl rfl ?_
        refine m_si 15 l hw rfl rfl (by omega) (by first | rfl | simp only [ix_lits, nI_mul, nI_add]) (by show l < 8; omega) ?_
        refine w_pu rfl rfl ?_
        refine m_gR 10 hw rfl rfl rfl ?_
        refine w_pu rfl rfl ?_
        refine w_pu rfl rfl ?_
        refine m_si 10 ((200 * l) + ((f + u) % 200)) hw rfl rfl (by omega) (by first | rfl | simp only [ix_lits, nI_mul, nI_add]) (by show ((200 * l) + ((f + u) % 200)) < 1600; omega) ?_
        refine w_pu rfl rfl ?_
        refine m_gR 11 hw rfl rfl rfl ?_
        refine w_pu rfl rfl ?_
        refine w_pu rfl rfl ?_
        refine m_gR 16 hw rfl rfl rfl ?_
        refine w_pu rfl rfl ?_
        refine m_ai 16 l hw rfl rfl (by omega) (by first | rfl | simp only [ix_lits, nI_mul, nI_add]) (by show l < 8; omega) ?_
        refine w_top (a 16 l) rfl ?_
        refine m_si 11 ((200 * l) + ((f + u) % 200)) hw rfl rfl (by omega) (by first | rfl | simp only [ix_lits, nI_mul, nI_add]) (by show ((200 * l) + ((f + u) % 200)) < 1600; omega) ?_
        refine w_pu rfl rfl ?_
        refine m_gR 12 hw rfl rfl rfl ?_
        refine w_pu rfl rfl ?_
        refine w_pu rfl rfl ?_
        refine m_g hw rfl rfl ?_
        refine w_top (a 0 45) rfl ?_
        refine w_pu rfl rfl ?_
        refine m_gR 3 hw rfl rfl rfl ?_
        refine w_pu rfl rfl ?_
        refine m_ai 3 l hw rfl rfl (by omega) (by first | rfl | simp only [ix_lits, nI_mul, nI_add]) (by show l < 8; omega) ?_
        refine w_top (a 3 l) rfl ?_
        refine w_pu rfl rfl ?_
        refine m_si 12 ((200 * l) + ((f + u) % 200)) hw rfl rfl (by omega) (by first | rfl | simp only [ix_lits, nI_mul, nI_add]) (by show ((200 * l) + ((f + u) % 200)) < 1600; omega) ?_
        refine w_pu rfl rfl ?_
        refine m_gR 13 hw rfl rfl rfl ?_
        refine w_pu rfl rfl ?_
        refine w_cst (v := 0) rfl rfl rfl ?_
        refine m_si 13 ((200 * l) + ((f + u) % 200)) hw rfl rfl (by omega) (by first | rfl | simp only [ix_lits, nI_mul, nI_add]) (by show ((200 * l) + ((f + u) % 200)) < 1600; omega) ?_
        refine w_pu rfl rfl ?_
        refine w_cst (v := (-2)) rfl rfl rfl ?_
        refine w_eq rfl (fun c1 => ?_) (fun c1 => ?_)
        · refine w_pu rfl rfl ?_
          refine m_gR 16 hw rfl rfl rfl ?_
          refine w_pu rfl rfl ?_
          refine w_pu rfl rfl ?_
          refine m_ai 16 l hw rfl rfl (by omega) (by first | rfl | simp only [ix_lits, nI_mul, nI_add]) (by show l < 8; omega) ?_
          refine w_top (a 16 l) rfl ?_
          refine w_cst (v := 1) rfl rfl rfl ?_
          refine w_pu rfl rfl ?_
          refine m_si 16 l hw rfl rfl (by omega) (by first | rfl | simp only [ix_lits, nI_mul, nI_add]) (by show l < 8; omega) ?_
          refine w_rt rfl rfl trivial ?_
          refine ⟨rfl, ?_⟩
          unfold sFF
          dsimp only
          rw [ew, hq1, nat_nI (by omega), ← ek, a16, a45, a3, a15, hu]
          rw [if_pos c1, ha, hq1]
        · obtain ⟨pk, hpk1, hpk⟩ := hp.resolve_left c1
          refine w_pu rfl rfl ?_
          refine m_gR 29 hw rfl rfl rfl ?_
          refine w_pu rfl rfl ?_
          refine w_pu rfl rfl ?_
          refine m_gR 16 hw rfl rfl rfl ?_
          refine w_pu rfl rfl ?_
          refine m_ai 16 l hw rfl rfl (by omega) (by first | rfl | simp only [ix_lits, nI_mul, nI_add]) (by show l < 8; omega) ?_
          refine w_top (a 16 l) rfl ?_
          refine m_si 29 pk hw rfl rfl (by omega) (by first | rfl | simp only [ix_lits, nI_mul, nI_add, hpk]) (by show pk < 3000; omega) ?_
          refine w_pu rfl rfl ?_
          refine m_gR 16 hw rfl rfl rfl ?_
          refine w_pu rfl rfl ?_
          refine w_pu rfl rfl ?_
          refine m_ai 16 l hw rfl rfl (by omega) (by first | rfl | simp only [ix_lits, nI_mul, nI_add]) (by show l < 8; omega) ?_
          refine w_top (a 16 l) rfl ?_
          refine w_cst (v := 1) rfl rfl rfl ?_
          refine w_pu rfl rfl ?_
          refine m_si 16 l hw rfl rfl (by omega) (by first | rfl | simp only [ix_lits, nI_mul, nI_add]) (by show l < 8; omega) ?_
          refine w_rt rfl rfl trivial ?_
          refine ⟨rfl, ?_⟩
          unfold sFF
          dsimp only
          rw [ew, hq1, nat_nI (by omega), ← ek, a16, a45, a3, a15, hu]
          rw [if_neg (by rw [hpk]; exact nI_nem2 (by omega)), ha, hq1, hpk, nat_nI (by omega)]
      · exact absurd (by rw [a8]; exact nI_le (by omega) (by omega)) c0
    | succ d ih =>
      intro k a hk ha
      have a8 : a 8 l = nI (q - 1) := by
        rw [ha, shF_j _ _ _ _ (by decide), uS_eq, hq1]
        exact nI_sub (b := 1) hq0
      refine w_pu rfl rfl ?_
      refine w_pu rfl rfl ?_
      refine m_gR 8 hw rfl rfl rfl ?_
      refine w_pu rfl rfl ?_
      refine m_ai 8 l hw rfl rfl (by omega) (by first | rfl | simp only [ix_lits, nI_mul, nI_add]) (by show l < 8; omega) ?_
      refine w_ge rfl (fun c0 => ?_) (fun c0 => ?_)
      · exact absurd (by rw [a8] at c0; exact c0) (nI_ge (by omega) (by omega))
      · refine w_pu rfl rfl ?_
        refine m_gR 7 hw rfl rfl rfl ?_
        refine w_cst (v := 41) rfl rfl rfl ?_
        refine w_pu rfl rfl ?_
        refine w_pu rfl rfl ?_
        refine w_pu rfl rfl ?_
        refine w_pu rfl rfl ?_
        refine w_pu rfl rfl ?_
        refine m_gR 7 hw rfl rfl rfl ?_
        refine w_cst (v := 41) rfl rfl rfl ?_
        refine w_pu rfl rfl ?_
        refine w_pu rfl rfl ?_
        refine w_pu rfl rfl ?_
        refine w_pu rfl rfl ?_
        refine w_cst (v := 1) rfl rfl rfl ?_
        refine w_pu rfl rfl ?_
        refine m_ai 7 (((41 * l) + k) + 1) hw rfl rfl (by omega) (by first | rfl | simp only [ix_lits, nI_mul, nI_add]) (by show (((41 * l) + k) + 1) < 328; omega) ?_
        refine m_si 7 ((41 * l) + k) hw rfl rfl (by omega) (by first | rfl | simp only [ix_lits, nI_mul, nI_add]) (by show ((41 * l) + k) < 328; omega) ?_
        refine w_i1 rfl rfl rfl ?_
        refine w_go rfl ?_
        exact ih (k + 1) _ (by omega) (by rw [← shF_step, ← ha])
  refine w_pu rfl rfl ?_
  refine m_gR 7 hw rfl rfl rfl ?_
  refine w_cst (v := 41) rfl rfl rfl ?_
  refine w_pu rfl rfl ?_
  refine w_pu rfl rfl ?_
  refine m_ai 7 (41 * l) hw rfl rfl (by omega) (by first | rfl | simp only [ix_lits, nI_mul, nI_add]) (by show (41 * l) < 328; omega) ?_
  refine w_pu rfl rfl ?_
  refine w_pu rfl rfl ?_
  refine m_gR 8 hw rfl rfl rfl ?_
  refine w_pu rfl rfl ?_
  refine w_pu rfl rfl ?_
  refine m_ai 8 l hw rfl rfl (by omega) (by first | rfl | simp only [ix_lits, nI_mul, nI_add]) (by show l < 8; omega) ?_
  refine w_cst (v := 1) rfl rfl rfl ?_
  refine w_pu rfl rfl ?_
  refine m_si 8 l hw rfl rfl (by omega) (by first | rfl | simp only [ix_lits, nI_mul, nI_add]) (by show l < 8; omega) ?_
  refine w_cst (v := 0) rfl rfl rfl ?_
  refine w_pu rfl rfl ?_
  exact loop (q - 1) 0 _ (by omega) (by rw [shF_0])
