/-! The reference's other calls, fourth part. -/
def fallG (np : Nat) (s : SS) (k : Nat) (a : SS × Int32) : Int32 × SS := (a.2, uS (uS (uS (uS a.1 17 k (a.1 16 k)) 8 k 0) 15 k 0) 9 k 0)
def fallF (nl np : Nat) (s : SS) (l : Int32) : Int32 × SS := match lnO nl l with
  | none => (-1, refuseF s 1)
  | some k => if s 4 k = 0 then (-5, refuseF s 5) else fallG np s k (flF k np (uS s 4 k 0))
theorem mX_fall (X : Nat × (Nat → Int32)) {h : Hp} {nl nf np : Nat} (hw : WF h nl nf np) (s : SS) (hnl : s 0 0 = nI nl) (hnp : s 0 23 = nI np) (l : Int32) : wp X 115 0 [TM, some (vI l), none, none] [] (pS h s) (fun r h' => r = some (vI (fallF nl np s l).1) ∧ h' = pS h (fallF nl np s l).2) := by
  have h3 := hw.2.2.2.2.2.2.2.2
  have h4 := hw.2.2.2.2.2.2.1
  cases el : lnO nl l with
  | none =>
    have eF : fallF nl np s l = (-1, refuseF s 1) := by rw [fallF, el]
    rw [eF]
    refine w_pu rfl rfl ?_
    refine w_pu rfl rfl ?_
    refine w_cp (vI (inF l 0 (s 0 0 - 1))) rfl rfl (by decide) (Nat.le_of_ble_eq_true rfl) rfl (Nat.le_of_ble_eq_true rfl) (Nat.le_of_ble_eq_true rfl) ⟨wM hw 0 (by omega), rfl⟩ rfl (mX_isLine X hw s l) ?_
    refine w_top 0 (by rw [hnl, inF_lnO _ (by omega), el]; rfl) ?_
    refine w_ne0 rfl (fun c0 => ?_) (fun c0 => ?_)
    · exact absurd c0 (by decide)
    · refine w_pu rfl rfl ?_
      refine w_cst (v := (-1)) rfl rfl rfl ?_
      refine w_cgE (vI (-1)) (pS h (refuseF s 1)) rfl rfl (by decide) (Nat.le_of_ble_eq_true rfl) rfl (Nat.le_of_ble_eq_true rfl) (Nat.le_of_ble_eq_true rfl) ⟨wM hw 0 (by omega), rfl⟩ rfl (mX_refuse X hw s (-1) 1 (by decide) (by decide)) ?_
      refine w_rt rfl rfl trivial ?_
      exact ⟨rfl, rfl⟩
  | some k =>
    obtain ⟨rfl, hk⟩ := lnO_some el
    rw [fallF, el]
    dsimp only
    have loop : ∀ d q (a : SS × Int32), q + d = np → flF k q (uS s 4 k 0) = a → wp X 115 41 [TM, some (vI (nI k)), some (vI a.2), some (vI (nI q))] [] (pS h a.1) (fun r h' => r = some (vI (fallG np s k (flF k np (uS s 4 k 0))).1) ∧ h' = pS h (fallG np s k (flF k np (uS s 4 k 0))).2) := by
      intro d
      induction d with
      | zero =>
        intro q a hq ha
        have e23 : a.1 0 23 = nI np := by rw [← ha, flF_j _ _ _ (by decide)]; exact hnp
        have eq : q = np := by omega
        subst eq
        rw [ha]
        refine w_pu rfl rfl ?_
        refine w_pu rfl rfl ?_
        refine m_g hw rfl rfl ?_
        refine w_ge rfl (fun c0 => ?_) (fun c0 => ?_)
        · refine w_pu rfl rfl ?_
          refine m_gR 17 hw rfl rfl rfl ?_
          refine w_pu rfl rfl ?_
          refine w_pu rfl rfl ?_
          refine m_gR 16 hw rfl rfl rfl ?_
          refine w_pu rfl rfl ?_
          refine m_ai 16 k hw rfl rfl (by omega) (by first | rfl | simp only [ix_lits, nI_mul, nI_add]) (by show k < 8; omega) ?_
          refine m_si 17 k hw rfl rfl (by omega) (by first | rfl | simp only [ix_lits, nI_mul, nI_add]) (by show k < 8; omega) ?_
          refine w_pu rfl rfl ?_
          refine m_gR 8 hw rfl rfl rfl ?_
          refine w_pu rfl rfl ?_
          refine w_cst (v := 0) rfl rfl rfl ?_
          refine m_si 8 k hw rfl rfl (by omega) (by first | rfl | simp only [ix_lits, nI_mul, nI_add]) (by show k < 8; omega) ?_
          refine w_pu rfl rfl ?_
          refine m_gR 15 hw rfl rfl rfl ?_
          refine w_pu rfl rfl ?_
          refine w_cst (v := 0) rfl rfl rfl ?_
          refine m_si 15 k hw rfl rfl (by omega) (by first | rfl | simp only [ix_lits, nI_mul, nI_add]) (by show k < 8; omega) ?_
          refine w_pu rfl rfl ?_
          refine m_gR 9 hw rfl rfl rfl ?_
          refine w_pu rfl rfl ?_
          refine w_cst (v := 0) rfl rfl rfl ?_
          refine m_si 9 k hw rfl rfl (by omega) (by first | rfl | simp only [ix_lits, nI_mul, nI_add]) (by show k < 8; omega) ?_
          refine w_pu rfl rfl ?_
          refine w_rt rfl rfl trivial ?_
          exact ⟨rfl, rfl⟩
        · exact absurd (by rw [e23]; exact nI_le (by omega) (by omega)) c0
      | succ d ih =>
        intro q a hq ha
        have e23 : a.1 0 23 = nI np := by rw [← ha, flF_j _ _ _ (by decide)]; exact hnp
        refine w_pu rfl rfl ?_
        refine w_pu rfl rfl ?_
        refine m_g hw rfl rfl ?_
        refine w_ge rfl (fun c0 => ?_) (fun c0 => ?_)
        · exact absurd (by rw [e23] at c0; exact c0) (nI_ge (by omega) (by omega))
        · refine w_pu rfl rfl ?_
          refine m_gR 23 hw rfl rfl rfl ?_
          refine w_pu rfl rfl ?_
          refine m_ai 23 q hw rfl rfl (by omega) (by first | rfl | simp only [ix_lits, nI_mul, nI_add]) (by show q < 3000; omega) ?_
          refine w_cst (v := 1) rfl rfl rfl ?_
          refine w_ne rfl (fun c1 => ?_) (fun c1 => ?_)
          · refine w_i1 rfl rfl rfl ?_
            refine w_go rfl ?_
            exact ih (q + 1) a (by omega) (by rw [flF, ha, if_neg (fun z => c1 z.1)])
          · refine w_pu rfl rfl ?_
            refine m_gR 28 hw rfl rfl rfl ?_
            refine w_pu rfl rfl ?_
            refine m_ai 28 q hw rfl rfl (by omega) (by first | rfl | simp only [ix_lits, nI_mul, nI_add]) (by show q < 3000; omega) ?_
            refine w_pu rfl rfl ?_
            refine w_ne rfl (fun c2 => ?_) (fun c2 => ?_)
            · refine w_i1 rfl rfl rfl ?_
              refine w_go rfl ?_
              exact ih (q + 1) a (by omega) (by rw [flF, ha, if_neg (fun z => c2 z.2)])
            · refine w_pu rfl rfl ?_
              refine w_pu rfl rfl ?_
              refine w_pu rfl rfl ?_
              refine w_cvE (pS h (loseF a.1 q k)) rfl rfl (by decide) (Nat.le_of_ble_eq_true rfl) rfl (Nat.le_of_ble_eq_true rfl) (Nat.le_of_ble_eq_true rfl) ⟨wM hw 0 (by omega), rfl⟩ rfl (mX_lose X hw a.1 q k (by omega) (by omega)) ?_
              refine w_inc (v := 1) rfl rfl rfl rfl ?_
              refine w_i1 rfl rfl rfl ?_
              refine w_go rfl ?_
              exact ih (q + 1) (loseF a.1 q k, a.2 + 1) (by omega) (by rw [flF, ha, if_pos ⟨c1, c2⟩])
    refine w_pu rfl rfl ?_
    refine w_pu rfl rfl ?_
    refine w_cp (vI (inF (nI k) 0 (s 0 0 - 1))) rfl rfl (by decide) (Nat.le_of_ble_eq_true rfl) rfl (Nat.le_of_ble_eq_true rfl) (Nat.le_of_ble_eq_true rfl) ⟨wM hw 0 (by omega), rfl⟩ rfl (mX_isLine X hw s (nI k)) ?_
    refine w_top 1 (by rw [hnl, inF_lnO _ (by omega), el]; rfl) ?_
    refine w_ne0 rfl (fun c0 => ?_) (fun c0 => ?_)
    · refine w_pu rfl rfl ?_
      refine m_gR 4 hw rfl rfl rfl ?_
      refine w_pu rfl rfl ?_
      refine m_ab 4 k hw rfl (Or.inr ⟨rfl, rfl⟩) (by omega) (by first | rfl | simp only [ix_lits, nI_mul, nI_add]) (by show k < 8; omega) ?_
      refine w_ne0 rfl (fun c1 => ?_) (fun c1 => ?_)
      · refine w_pu rfl rfl ?_
        refine m_gR 4 hw rfl rfl rfl ?_
        refine w_pu rfl rfl ?_
        refine w_cst (v := 0) rfl rfl rfl ?_
        refine m_sz 4 k hw rfl rfl (by omega) (by first | rfl | simp only [ix_lits, nI_mul, nI_add]) (by show k < 8; omega) (by first | exact Or.inl rfl | exact Or.inr rfl) ?_
        refine w_cst (v := 0) rfl rfl rfl ?_
        refine w_pu rfl rfl ?_
        refine w_cst (v := 0) rfl rfl rfl ?_
        refine w_pu rfl rfl ?_
        rw [if_neg c1]
        exact loop np 0 (uS s 4 k 0, 0) (by omega) (by rw [flF])
      · refine w_pu rfl rfl ?_
        refine w_cst (v := (-5)) rfl rfl rfl ?_
        refine w_cgE (vI (-5)) (pS h (refuseF s 5)) rfl rfl (by decide) (Nat.le_of_ble_eq_true rfl) rfl (Nat.le_of_ble_eq_true rfl) (Nat.le_of_ble_eq_true rfl) ⟨wM hw 0 (by omega), rfl⟩ rfl (mX_refuse X hw s (-5) 5 (by decide) (by decide)) ?_
        refine w_rt rfl rfl trivial ?_
        rw [if_pos c1]
        exact ⟨rfl, rfl⟩
    · exact absurd c0 (by decide)
def pieceF (nl nf np : Nat) (s : SS) (p a : Int32) : Int32 × SS := (match lnO np p with
  | none => ((-9), s)
  | some kp => (if a = 0 then (s 23 kp, s) else if a = 1 then (s 24 kp, s) else if a = 2 then (s 26 kp, s) else if a = 3 then (s 27 kp, s) else if a = 4 then (s 28 kp, s) else if a = 5 then (if (nI kp) = (((s 32 (nat (s 24 kp))) + (s 33 (nat (s 24 kp)))) - 1) then (1, s) else (0, s)) else if a = 6 then (sumF s (nat (s 25 kp)) (nat (s 26 kp)), s) else ((-9), s)))
theorem pieceF_0 {nl nf np : Nat} {s : SS} {p a : Int32} (ep : lnO np p = none) : pieceF nl nf np s p a = ((-9), s) := by
  unfold pieceF
  rw [ep]
theorem pieceF_1 {nl nf np : Nat} {s : SS} {p a : Int32} {kp : Nat} (ep : lnO np p = some kp) : pieceF nl nf np s p a = (if a = 0 then (s 23 kp, s) else if a = 1 then (s 24 kp, s) else if a = 2 then (s 26 kp, s) else if a = 3 then (s 27 kp, s) else if a = 4 then (s 28 kp, s) else if a = 5 then (if (nI kp) = (((s 32 (nat (s 24 kp))) + (s 33 (nat (s 24 kp)))) - 1) then (1, s) else (0, s)) else if a = 6 then (sumF s (nat (s 25 kp)) (nat (s 26 kp)), s) else ((-9), s)) := by
  unfold pieceF
  rw [ep]
theorem mX_piece (X : Nat × (Nat → Int32)) {h : Hp} {nl nf np : Nat} (hw : WF h nl nf np) (s : SS) (hnp : s 0 23 = nI np) (hpc : ∀ p, p < np → ∃ f a z, s 24 p = nI f ∧ f < nf ∧ s 25 p = nI a ∧ s 26 p = nI z ∧ a + z ≤ 1200000) (p a : Int32) : wp X 119 0 [TM, some (vI p), some (vI a)] [] (pS h s) (fun r h' => r = some (vI (pieceF nl nf np s p a).1) ∧ h' = pS h (pieceF nl nf np s p a).2) := by
  have h3 := hw.2.2.2.2.2.2.2.2
  have h4 := hw.2.2.2.2.2.2.1
  have h5 := hw.2.2.2.2.2.2.2.1
  cases ep : lnO np p with
  | none =>
    refine w_pu rfl rfl ?_
    refine w_pu rfl rfl ?_
    refine w_cp (vI (inF p 0 (s 0 23 - 1))) rfl rfl (by decide) (Nat.le_of_ble_eq_true rfl) rfl (Nat.le_of_ble_eq_true rfl) (Nat.le_of_ble_eq_true rfl) ⟨wM hw 0 (by omega), rfl⟩ rfl (mX_isPiece X hw s p) ?_
    refine w_top 0 (by rw [hnp, inF_lnO _ (by omega), ep]; rfl) ?_
    refine w_ne0 rfl (fun c0 => ?_) (fun c0 => ?_)
    · exact absurd c0 (by decide)
    · refine w_cst (v := (-9)) rfl rfl rfl ?_
      refine w_rt rfl rfl trivial ?_
      exact ⟨by rw [pieceF_0 ep], by rw [pieceF_0 ep]⟩
  | some kp =>
    obtain ⟨rfl, hkp⟩ := lnO_some ep
    obtain ⟨pf, pa, pz, g1, g2, g3, g4, g5⟩ := hpc kp hkp
    have eg : nat (s 24 kp) = pf := by rw [g1, nat_nI (by omega)]
    refine w_pu rfl rfl ?_
    refine w_pu rfl rfl ?_
    refine w_cp (vI (inF (nI kp) 0 (s 0 23 - 1))) rfl rfl (by decide) (Nat.le_of_ble_eq_true rfl) rfl (Nat.le_of_ble_eq_true rfl) (Nat.le_of_ble_eq_true rfl) ⟨wM hw 0 (by omega), rfl⟩ rfl (mX_isPiece X hw s (nI kp)) ?_
    refine w_top 1 (by rw [hnp, inF_lnO _ (by omega), ep]; rfl) ?_
    refine w_ne0 rfl (fun c0 => ?_) (fun c0 => ?_)
    · refine w_pu rfl rfl ?_
      by_cases q0 : a = 0
      · refine w_top 0 q0 ?_
        refine w_sw (t := 56) rfl rfl ?_
        refine w_pu rfl rfl ?_
        refine m_gR 23 hw rfl rfl rfl ?_
        refine w_pu rfl rfl ?_
        refine m_ai 23 kp hw rfl rfl (by omega) (by first | rfl | simp only [ix_lits, nI_mul, nI_add]) (by show kp < 3000; omega) ?_
        refine w_rt rfl rfl trivial ?_
        exact ⟨by rw [pieceF_1 ep, if_pos q0], by rw [pieceF_1 ep, if_pos q0]⟩
      by_cases q1 : a = 1
      · refine w_top 1 q1 ?_
        refine w_sw (t := 63) rfl rfl ?_
        refine w_pu rfl rfl ?_
        refine m_gR 24 hw rfl rfl rfl ?_
        refine w_pu rfl rfl ?_
        refine m_ai 24 kp hw rfl rfl (by omega) (by first | rfl | simp only [ix_lits, nI_mul, nI_add]) (by show kp < 3000; omega) ?_
        refine w_rt rfl rfl trivial ?_
        exact ⟨by rw [pieceF_1 ep, if_neg q0, if_pos q1], by rw [pieceF_1 ep, if_neg q0, if_pos q1]⟩
      by_cases q2 : a = 2
      · refine w_top 2 q2 ?_
        refine w_sw (t := 70) rfl rfl ?_
        refine w_pu rfl rfl ?_
        refine m_gR 26 hw rfl rfl rfl ?_
        refine w_pu rfl rfl ?_
        refine m_ai 26 kp hw rfl rfl (by omega) (by first | rfl | simp only [ix_lits, nI_mul, nI_add]) (by show kp < 3000; omega) ?_
        refine w_rt rfl rfl trivial ?_
        exact ⟨by rw [pieceF_1 ep, if_neg q0, if_neg q1, if_pos q2], by rw [pieceF_1 ep, if_neg q0, if_neg q1, if_pos q2]⟩
      by_cases q3 : a = 3
      · refine w_top 3 q3 ?_
        refine w_sw (t := 77) rfl rfl ?_
        refine w_pu rfl rfl ?_
        refine m_gR 27 hw rfl rfl rfl ?_
        refine w_pu rfl rfl ?_
        refine m_ai 27 kp hw rfl rfl (by omega) (by first | rfl | simp only [ix_lits, nI_mul, nI_add]) (by show kp < 3000; omega) ?_
        refine w_rt rfl rfl trivial ?_
        exact ⟨by rw [pieceF_1 ep, if_neg q0, if_neg q1, if_neg q2, if_pos q3], by rw [pieceF_1 ep, if_neg q0, if_neg q1, if_neg q2, if_pos q3]⟩
      by_cases q4 : a = 4
      · refine w_top 4 q4 ?_
        refine w_sw (t := 84) rfl rfl ?_
        refine w_pu rfl rfl ?_
        refine m_gR 28 hw rfl rfl rfl ?_
        refine w_pu rfl rfl ?_
        refine m_ai 28 kp hw rfl rfl (by omega) (by first | rfl | simp only [ix_lits, nI_mul, nI_add]) (by show kp < 3000; omega) ?_
        refine w_rt rfl rfl trivial ?_
        exact ⟨by rw [pieceF_1 ep, if_neg q0, if_neg q1, if_neg q2, if_neg q3, if_pos q4], by rw [pieceF_1 ep, if_neg q0, if_neg q1, if_neg q2, if_neg q3, if_pos q4]⟩
      by_cases q5 : a = 5
      · refine w_top 5 q5 ?_
        refine w_sw (t := 91) rfl rfl ?_
        refine w_pu rfl rfl ?_
        refine w_pu rfl rfl ?_
        refine m_gR 32 hw rfl rfl rfl ?_
        refine w_pu rfl rfl ?_
        refine m_gR 24 hw rfl rfl rfl ?_
        refine w_pu rfl rfl ?_
        refine m_ai 24 kp hw rfl rfl (by omega) (by first | rfl | simp only [ix_lits, nI_mul, nI_add]) (by show kp < 3000; omega) ?_
        refine m_ai 32 (nat (s 24 kp)) hw rfl rfl (by omega) (by rw [eg, g1]) (by show (nat (s 24 kp)) < 300; omega) ?_
        refine w_pu rfl rfl ?_
        refine m_gR 33 hw rfl rfl rfl ?_
        refine w_pu rfl rfl ?_
        refine m_gR 24 hw rfl rfl rfl ?_
        refine w_pu rfl rfl ?_
        refine m_ai 24 kp hw rfl rfl (by omega) (by first | rfl | simp only [ix_lits, nI_mul, nI_add]) (by show kp < 3000; omega) ?_
        refine m_ai 33 (nat (s 24 kp)) hw rfl rfl (by omega) (by rw [eg, g1]) (by show (nat (s 24 kp)) < 300; omega) ?_
        refine w_pu rfl rfl ?_
        refine w_cst (v := 1) rfl rfl rfl ?_
        refine w_pu rfl rfl ?_
        refine w_ne rfl (fun c1 => ?_) (fun c1 => ?_)
        · refine w_cst (v := 0) rfl rfl rfl ?_
          refine w_rt rfl rfl trivial ?_
          exact ⟨by rw [pieceF_1 ep, if_neg q0, if_neg q1, if_neg q2, if_neg q3, if_neg q4, if_pos q5, if_neg c1], by rw [pieceF_1 ep, if_neg q0, if_neg q1, if_neg q2, if_neg q3, if_neg q4, if_pos q5, if_neg c1]⟩
        · refine w_cst (v := 1) rfl rfl rfl ?_
          refine w_go rfl ?_
          refine w_rt rfl rfl trivial ?_
          exact ⟨by rw [pieceF_1 ep, if_neg q0, if_neg q1, if_neg q2, if_neg q3, if_neg q4, if_pos q5, if_pos c1], by rw [pieceF_1 ep, if_neg q0, if_neg q1, if_neg q2, if_neg q3, if_neg q4, if_pos q5, if_pos c1]⟩
      by_cases q6 : a = 6
      · refine w_top 6 q6 ?_
        refine w_sw (t := 126) rfl rfl ?_
        refine w_pu rfl rfl ?_
        refine w_pu rfl rfl ?_
        refine w_cp (vI (sumF s pa pz)) rfl rfl (by decide) (Nat.le_of_ble_eq_true rfl) rfl (Nat.le_of_ble_eq_true rfl) (Nat.le_of_ble_eq_true rfl) ⟨wM hw 0 (by omega), rfl⟩ rfl (mX_sumOf X hw s kp pa pz hkp g3 g4 g5) ?_
        refine w_top (sumF s (nat (s 25 kp)) (nat (s 26 kp))) (by rw [g3, g4, nat_nI (by omega), nat_nI (by omega)]) ?_
        refine w_rt rfl rfl trivial ?_
        exact ⟨by rw [pieceF_1 ep, if_neg q0, if_neg q1, if_neg q2, if_neg q3, if_neg q4, if_neg q5, if_pos q6], by rw [pieceF_1 ep, if_neg q0, if_neg q1, if_neg q2, if_neg q3, if_neg q4, if_neg q5, if_pos q6]⟩
      refine w_sw (t := 132) rfl (sw_out (by decide) rfl ?_) ?_
      · intro k k1
        match k, k1 with
        | 0, _ => exact q0
        | 1, _ => exact q1
        | 2, _ => exact q2
        | 3, _ => exact q3
        | 4, _ => exact q4
        | 5, _ => exact q5
        | 6, _ => exact q6
        | k + 7, k1 => exact absurd k1 (by omega)
      refine w_cst (v := (-9)) rfl rfl rfl ?_
      refine w_rt rfl rfl trivial ?_
      exact ⟨by rw [pieceF_1 ep, if_neg q0, if_neg q1, if_neg q2, if_neg q3, if_neg q4, if_neg q5, if_neg q6], by rw [pieceF_1 ep, if_neg q0, if_neg q1, if_neg q2, if_neg q3, if_neg q4, if_neg q5, if_neg q6]⟩
    · exact absurd c0 (by decide)
def frameOfF (nf : Nat) (s : SS) (f a : Int32) : Int32 := match lnO nf f with
  | none => -9
  | some k => if a = 0 then s 31 k else if a = 1 then s 32 k else if a = 2 then s 33 k else if a = 3 then cntTF s (nat (s 32 k)) (nat (s 33 k)) else if a = 4 then s 34 k else -9
theorem mX_frameOf (X : Nat × (Nat → Int32)) {h : Hp} {nl nf np : Nat} (hw : WF h nl nf np) (s : SS) (hnf : s 0 32 = nI nf) (hfr : ∀ f, f < nf → ∃ a r, s 32 f = nI a ∧ s 33 f = nI r ∧ a + r ≤ np) (f b : Int32) : wp X 126 0 [TM, some (vI f), some (vI b), none, none] [] (pS h s) (fun r h' => r = some (vI (frameOfF nf s f b)) ∧ h' = pS h s) := by
  have h3 := hw.2.2.2.2.2.2.2.2
  have h5 := hw.2.2.2.2.2.2.2.1
  cases el : lnO nf f with
  | none =>
    have eF : frameOfF nf s f b = -9 := by rw [frameOfF, el]
    rw [eF]
    refine w_pu rfl rfl ?_
    refine w_pu rfl rfl ?_
    refine w_cp (vI (inF f 0 (s 0 32 - 1))) rfl rfl (by decide) (Nat.le_of_ble_eq_true rfl) rfl (Nat.le_of_ble_eq_true rfl) (Nat.le_of_ble_eq_true rfl) ⟨wM hw 0 (by omega), rfl⟩ rfl (mX_isFrame X hw s f) ?_
    refine w_top 0 (by rw [hnf, inF_lnO _ (by omega), el]; rfl) ?_
    refine w_ne0 rfl (fun c0 => ?_) (fun c0 => ?_)
    · exact absurd c0 (by decide)
    · refine w_cst (v := (-9)) rfl rfl rfl ?_
      refine w_rt rfl rfl trivial ?_
      exact ⟨rfl, rfl⟩
  | some k =>
    obtain ⟨rfl, hk⟩ := lnO_some el
    obtain ⟨a, r, a1, a2, a3⟩ := hfr k hk
    rw [frameOfF, el]
    dsimp only
    have loop : ∀ d q, q + d = r → wp X 126 16 [TM, some (vI (nI k)), some (vI b), some (vI (cntTF s a q)), some (vI (nI q))] [] (pS h s) (fun r h' => r = some (vI (if b = 0 then s 31 k else if b = 1 then s 32 k else if b = 2 then s 33 k else if b = 3 then cntTF s (nat (s 32 k)) (nat (s 33 k)) else if b = 4 then s 34 k else -9)) ∧ h' = pS h s) := by
      intro d
      induction d with
      | zero =>
        intro q hq
        have eq : q = r := by omega
        subst eq
        rw [show nat (s 32 k) = a by rw [a1, nat_nI (by omega)], show nat (s 33 k) = q by rw [a2, nat_nI (by omega)]]
        refine w_pu rfl rfl ?_
        refine w_pu rfl rfl ?_
        refine m_gR 33 hw rfl rfl rfl ?_
        refine w_pu rfl rfl ?_
        refine m_ai 33 k hw rfl rfl (by omega) (by first | rfl | simp only [ix_lits, nI_mul, nI_add]) (by show k < 300; omega) ?_
        refine w_ge rfl (fun c0 => ?_) (fun c0 => ?_)
        · refine w_pu rfl rfl ?_
          refine w_ne0 rfl (fun c1 => ?_) (fun c1 => ?_)
          · refine w_pu rfl rfl ?_
            refine w_cst (v := 1) rfl rfl rfl ?_
            refine w_ne rfl (fun c2 => ?_) (fun c2 => ?_)
            · refine w_pu rfl rfl ?_
              refine w_cst (v := 2) rfl rfl rfl ?_
              refine w_ne rfl (fun c3 => ?_) (fun c3 => ?_)
              · refine w_pu rfl rfl ?_
                refine w_cst (v := 3) rfl rfl rfl ?_
                refine w_ne rfl (fun c4 => ?_) (fun c4 => ?_)
                · refine w_pu rfl rfl ?_
                  refine w_cst (v := 4) rfl rfl rfl ?_
                  refine w_ne rfl (fun c5 => ?_) (fun c5 => ?_)
                  · refine w_cst (v := (-9)) rfl rfl rfl ?_
                    refine w_rt rfl rfl trivial ?_
                    exact ⟨by rw [if_neg c1, if_neg c2, if_neg c3, if_neg c4, if_neg c5], rfl⟩
                  · refine w_pu rfl rfl ?_
                    refine m_gR 34 hw rfl rfl rfl ?_
                    refine w_pu rfl rfl ?_
                    refine m_ai 34 k hw rfl rfl (by omega) (by first | rfl | simp only [ix_lits, nI_mul, nI_add]) (by show k < 300; omega) ?_
                    refine w_go rfl ?_
                    refine w_rt rfl rfl trivial ?_
                    exact ⟨by rw [if_neg c1, if_neg c2, if_neg c3, if_neg c4, if_pos c5], rfl⟩
                · refine w_pu rfl rfl ?_
                  refine w_go rfl ?_
                  refine w_rt rfl rfl trivial ?_
                  exact ⟨by rw [if_neg c1, if_neg c2, if_neg c3, if_pos c4], rfl⟩
              · refine w_pu rfl rfl ?_
                refine m_gR 33 hw rfl rfl rfl ?_
                refine w_pu rfl rfl ?_
                refine m_ai 33 k hw rfl rfl (by omega) (by first | rfl | simp only [ix_lits, nI_mul, nI_add]) (by show k < 300; omega) ?_
                refine w_go rfl ?_
                refine w_rt rfl rfl trivial ?_
                exact ⟨by rw [if_neg c1, if_neg c2, if_pos c3], rfl⟩
            · refine w_pu rfl rfl ?_
              refine m_gR 32 hw rfl rfl rfl ?_
              refine w_pu rfl rfl ?_
              refine m_ai 32 k hw rfl rfl (by omega) (by first | rfl | simp only [ix_lits, nI_mul, nI_add]) (by show k < 300; omega) ?_
              refine w_go rfl ?_
              refine w_rt rfl rfl trivial ?_
              exact ⟨by rw [if_neg c1, if_pos c2], rfl⟩
          · refine w_pu rfl rfl ?_
            refine m_gR 31 hw rfl rfl rfl ?_
            refine w_pu rfl rfl ?_
            refine m_ai 31 k hw rfl rfl (by omega) (by first | rfl | simp only [ix_lits, nI_mul, nI_add]) (by show k < 300; omega) ?_
            refine w_go rfl ?_
            refine w_rt rfl rfl trivial ?_
            exact ⟨by rw [if_pos c1], rfl⟩
        · exact absurd (by rw [a2]; exact nI_le (by omega) (by omega)) c0
      | succ d ih =>
        intro q hq
        refine w_pu rfl rfl ?_
        refine w_pu rfl rfl ?_
        refine m_gR 33 hw rfl rfl rfl ?_
        refine w_pu rfl rfl ?_
        refine m_ai 33 k hw rfl rfl (by omega) (by first | rfl | simp only [ix_lits, nI_mul, nI_add, a1]) (by show k < 300; omega) ?_
        refine w_ge rfl (fun c0 => ?_) (fun c0 => ?_)
        · exact absurd (by rw [a2] at c0; exact c0) (nI_ge (by omega) (by omega))
        · refine w_pu rfl rfl ?_
          refine w_pu rfl rfl ?_
          refine m_gR 23 hw rfl rfl rfl ?_
          refine w_pu rfl rfl ?_
          refine m_gR 32 hw rfl rfl rfl ?_
          refine w_pu rfl rfl ?_
          refine m_ai 32 k hw rfl rfl (by omega) (by first | rfl | simp only [ix_lits, nI_mul, nI_add, a1]) (by show k < 300; omega) ?_
          refine w_pu rfl rfl ?_
          refine w_pu rfl rfl ?_
          refine m_ai 23 (a + q) hw rfl rfl (by omega) (by first | rfl | simp only [ix_lits, nI_mul, nI_add, a1]) (by show (a + q) < 3000; omega) ?_
          refine w_cst (v := 3) rfl rfl rfl ?_
          refine w_ne rfl (fun c1 => ?_) (fun c1 => ?_)
          · refine w_cst (v := 0) rfl rfl rfl ?_
            refine w_pu rfl rfl ?_
            refine w_pu rfl rfl ?_
            refine w_i1 rfl rfl rfl ?_
            refine w_go rfl ?_
            refine w_loc [TM, some (vI (nI k)), some (vI b), some (vI (cntTF s a (q + 1))), some (vI (nI (q + 1)))] (by rw [cntTF, if_neg c1]; rfl) ?_
            exact ih (q + 1) (by omega)
          · refine w_cst (v := 1) rfl rfl rfl ?_
            refine w_go rfl ?_
            refine w_pu rfl rfl ?_
            refine w_pu rfl rfl ?_
            refine w_i1 rfl rfl rfl ?_
            refine w_go rfl ?_
            refine w_loc [TM, some (vI (nI k)), some (vI b), some (vI (cntTF s a (q + 1))), some (vI (nI (q + 1)))] (by rw [cntTF, if_pos c1]; rfl) ?_
            exact ih (q + 1) (by omega)
    refine w_pu rfl rfl ?_
    refine w_pu rfl rfl ?_
    refine w_cp (vI (inF (nI k) 0 (s 0 32 - 1))) rfl rfl (by decide) (Nat.le_of_ble_eq_true rfl) rfl (Nat.le_of_ble_eq_true rfl) (Nat.le_of_ble_eq_true rfl) ⟨wM hw 0 (by omega), rfl⟩ rfl (mX_isFrame X hw s (nI k)) ?_
    refine w_top 1 (by rw [hnf, inF_lnO _ (by omega), el]; rfl) ?_
    refine w_ne0 rfl (fun c0 => ?_) (fun c0 => ?_)
    · refine w_cst (v := 0) rfl rfl rfl ?_
      refine w_pu rfl rfl ?_
      refine w_cst (v := 0) rfl rfl rfl ?_
      refine w_pu rfl rfl ?_
      exact loop r 0 (by omega)
    · exact absurd c0 (by decide)
theorem witnessF_2 (nl nf np : Nat) (s : SS) (f k : Int32) : (witnessF nl nf np s f k).2 = s := by
  unfold witnessF
  split
  · rfl
  · split
    · rfl
    · split <;> rfl
def chkF (nl nf np : Nat) (s : SS) (f : Nat) : Nat → Int32
  | 0 => 0
  | k + 1 => 31 * chkF nl nf np s f k + (witnessF nl nf np s (nI f) (nI k)).1
def checkF (nl nf np : Nat) (s : SS) (f v : Int32) : Int32 := match lnO nf f with
  | none => 0
  | some k => if f < s 0 33 then (if chkF nl nf np s k (nat (s 33 k)) = v then 1 else 0) else 0
theorem mX_check (X : Nat × (Nat → Int32)) {h : Hp} {nl nf np : Nat} (hw : WF h nl nf np) (s : SS) (hnf : s 0 32 = nI nf) (hfr : ∀ f, f < nf → ∃ a r, s 32 f = nI a ∧ s 33 f = nI r ∧ a + r ≤ np) (f v : Int32) : wp X 129 0 [TM, some (vI f), some (vI v), none, none] [] (pS h s) (fun r h' => r = some (vI (checkF nl nf np s f v)) ∧ h' = pS h s) := by
  have h3 := hw.2.2.2.2.2.2.2.2
  have h5 := hw.2.2.2.2.2.2.2.1
  cases el : lnO nf f with
  | none =>
    have eF : checkF nl nf np s f v = 0 := by rw [checkF, el]
    rw [eF]
    refine w_pu rfl rfl ?_
    refine w_pu rfl rfl ?_
    refine w_cp (vI (inF f 0 (s 0 32 - 1))) rfl rfl (by decide) (Nat.le_of_ble_eq_true rfl) rfl (Nat.le_of_ble_eq_true rfl) (Nat.le_of_ble_eq_true rfl) ⟨wM hw 0 (by omega), rfl⟩ rfl (mX_isFrame X hw s f) ?_
    refine w_top 0 (by rw [hnf, inF_lnO _ (by omega), el]; rfl) ?_
    refine w_eq0 rfl (fun c0 => ?_) (fun c0 => ?_)
    · refine w_cst (v := 0) rfl rfl rfl ?_
      refine w_rt rfl rfl (by first | exact Or.inl rfl | exact Or.inr rfl) ?_
      exact ⟨rfl, rfl⟩
    · exact absurd c0 (by decide)
  | some k =>
    obtain ⟨rfl, hk⟩ := lnO_some el
    obtain ⟨a, r, a1, a2, a3⟩ := hfr k hk
    rw [checkF, el]
    dsimp only
    have loop : ∀ d q, q + d = r → wp X 129 23 [TM, some (vI (nI k)), some (vI v), some (vI (chkF nl nf np s k q)), some (vI (nI q))] [] (pS h s) (fun r h' => r = some (vI (if chkF nl nf np s k (nat (s 33 k)) = v then 1 else 0)) ∧ h' = pS h s) := by
      intro d
      induction d with
      | zero =>
        intro q hq
        have eq : q = r := by omega
        subst eq
        rw [show nat (s 33 k) = q by rw [a2, nat_nI (by omega)]]
        refine w_pu rfl rfl ?_
        refine w_pu rfl rfl ?_
        refine m_gR 33 hw rfl rfl rfl ?_
        refine w_pu rfl rfl ?_
        refine m_ai 33 k hw rfl rfl (by omega) (by first | rfl | simp only [ix_lits, nI_mul, nI_add]) (by show k < 300; omega) ?_
        refine w_ge rfl (fun c0 => ?_) (fun c0 => ?_)
        · refine w_pu rfl rfl ?_
          refine w_pu rfl rfl ?_
          refine w_ne rfl (fun c1 => ?_) (fun c1 => ?_)
          · refine w_cst (v := 0) rfl rfl rfl ?_
            refine w_rt rfl rfl (by first | exact Or.inl rfl | exact Or.inr rfl) ?_
            exact ⟨by rw [if_neg c1], rfl⟩
          · refine w_cst (v := 1) rfl rfl rfl ?_
            refine w_go rfl ?_
            refine w_rt rfl rfl (by first | exact Or.inl rfl | exact Or.inr rfl) ?_
            exact ⟨by rw [if_pos c1], rfl⟩
        · exact absurd (by rw [a2]; exact nI_le (by omega) (by omega)) c0
      | succ d ih =>
        intro q hq
        refine w_pu rfl rfl ?_
        refine w_pu rfl rfl ?_
        refine m_gR 33 hw rfl rfl rfl ?_
        refine w_pu rfl rfl ?_
        refine m_ai 33 k hw rfl rfl (by omega) (by first | rfl | simp only [ix_lits, nI_mul, nI_add]) (by show k < 300; omega) ?_
        refine w_ge rfl (fun c0 => ?_) (fun c0 => ?_)
        · exact absurd (by rw [a2] at c0; exact c0) (nI_ge (by omega) (by omega))
        · refine w_cst (v := 31) rfl rfl rfl ?_
          refine w_pu rfl rfl ?_
          refine w_pu rfl rfl ?_
          refine w_pu rfl rfl ?_
          refine w_pu rfl rfl ?_
          refine w_pu rfl rfl ?_
          refine w_cp (vI ((witnessF nl nf np s (nI k) (nI q)).1)) rfl rfl (by decide) (Nat.le_of_ble_eq_true rfl) rfl (Nat.le_of_ble_eq_true rfl) (Nat.le_of_ble_eq_true rfl) ⟨wM hw 0 (by omega), rfl⟩ rfl (w_mono (mX_witness X hw s hnf hfr (nI k) (nI q)) (fun r h1 z => ⟨z.1, by rw [z.2, witnessF_2]⟩)) ?_
          refine w_pu rfl rfl ?_
          refine w_pu rfl rfl ?_
          refine w_i1 rfl rfl rfl ?_
          refine w_go rfl ?_
          refine w_loc [TM, some (vI (nI k)), some (vI v), some (vI (chkF nl nf np s k (q + 1))), some (vI (nI (q + 1)))] (by rw [chkF]; rfl) ?_
          exact ih (q + 1) (by omega)
    refine w_pu rfl rfl ?_
    refine w_pu rfl rfl ?_
    refine w_cp (vI (inF (nI k) 0 (s 0 32 - 1))) rfl rfl (by decide) (Nat.le_of_ble_eq_true rfl) rfl (Nat.le_of_ble_eq_true rfl) (Nat.le_of_ble_eq_true rfl) ⟨wM hw 0 (by omega), rfl⟩ rfl (mX_isFrame X hw s (nI k)) ?_
    refine w_top 1 (by rw [hnf, inF_lnO _ (by omega), el]; rfl) ?_
    refine w_eq0 rfl (fun c0 => ?_) (fun c0 => ?_)
    · exact absurd c0 (by decide)
    · refine w_pu rfl rfl ?_
      refine w_pu rfl rfl ?_
      refine m_g hw rfl rfl ?_
      refine w_lt rfl (fun c1 => ?_) (fun c1 => ?_)
      · refine w_cst (v := 0) rfl rfl rfl ?_
        refine w_pu rfl rfl ?_
        refine w_cst (v := 0) rfl rfl rfl ?_
        refine w_pu rfl rfl ?_
        rw [if_pos c1]
        exact loop r 0 (by omega)
      · refine w_cst (v := 0) rfl rfl rfl ?_
        refine w_rt rfl rfl (by first | exact Or.inl rfl | exact Or.inr rfl) ?_
        exact ⟨by rw [if_neg c1], rfl⟩
theorem inF_21 {a : Int32} (h : ¬ inF a 21 26 = 0) : ∃ m, 1 ≤ m ∧ m ≤ 6 ∧ a - 20 = nI m := by
  unfold inF at h
  split at h
  · next q =>
    obtain ⟨k, hk, rfl⟩ := i32_pos (Int32.le_trans (by decide) q.1)
    have h1 := (nI_leI (a := 21) (b := k) (by omega) hk).mp q.1
    have h2 := (nI_leI (a := k) (b := 26) hk (by omega)).mp q.2
    exact ⟨k - 20, by omega, by omega, nI_sub (b := 20) (by omega)⟩
  · exact absurd rfl h
def statusF (nl nf np : Nat) (s : SS) (a : Int32) : Int32 := if a = 0 then s 0 45 else if a = 1 then s 0 0 else if a = 2 then s 0 32 else if a = 3 then s 0 33 else if a = 4 then s 0 23 else if a = 5 then manyF s 3 np else if a = 6 then manyF s 2 np else if a = 7 then manyF s 0 np else if a = 8 then s 0 42 else if a = 9 then bsumF s (nat (s 0 33)) else if a = 10 then s 0 43 else if a = 11 then s 0 44 else if a = 12 then esumF s nl else if inF a 21 26 = 0 then -9 else s 38 (nat (a - 20))
theorem mX_status (X : Nat × (Nat → Int32)) {h : Hp} {nl nf np : Nat} (hw : WF h nl nf np) (s : SS) (hnl : s 0 0 = nI nl) (hnp : s 0 23 = nI np) (g : Nat) (hg : s 0 33 = nI g) (hg2 : g ≤ 300) (a : Int32) : wp X 131 0 [TM, some (vI a), none, none] [] (pS h s) (fun r h' => r = some (vI (statusF nl nf np s a)) ∧ h' = pS h s) := by
  have h3 := hw.2.2.2.2.2.2.2.2
  have h4 := hw.2.2.2.2.2.2.1
  have h5 := hw.2.2.2.2.2.2.2.1
  have loop9 : ∀ d q, q + d = g → wp X 131 118 [TM, some (vI a), some (vI (bsumF s q)), some (vI (nI q))] [] (pS h s) (fun r h' => r = some (vI (bsumF s (nat (s 0 33)))) ∧ h' = pS h s) := by
    rw [show nat (s 0 33) = g by rw [hg, nat_nI (by omega)]]
    intro d
    induction d with
    | zero =>
      intro q hq
      have eq : q = g := by omega
      subst eq
      refine w_pu rfl rfl ?_
      refine w_pu rfl rfl ?_
      refine m_g hw rfl rfl ?_
      refine w_ge rfl (fun c0 => ?_) (fun c0 => ?_)
      · refine w_pu rfl rfl ?_
        refine w_rt rfl rfl trivial ?_
        exact ⟨rfl, rfl⟩
      · exact absurd (by rw [hg]; exact nI_le (by omega) (by omega)) c0
    | succ d ih =>
      intro q hq
      refine w_pu rfl rfl ?_
      refine w_pu rfl rfl ?_
      refine m_g hw rfl rfl ?_
      refine w_ge rfl (fun c0 => ?_) (fun c0 => ?_)
      · exact absurd (by rw [hg] at c0; exact c0) (nI_ge (by omega) (by omega))
      · refine w_pu rfl rfl ?_
        refine w_pu rfl rfl ?_
        refine m_gR 31 hw rfl rfl rfl ?_
        refine w_pu rfl rfl ?_
        refine m_ai 31 q hw rfl rfl (by omega) (by first | rfl | simp only [ix_lits, nI_mul, nI_add]) (by show q < 300; omega) ?_
        refine w_pu rfl rfl ?_
        refine w_pu rfl rfl ?_
        refine w_i1 rfl rfl rfl ?_
        refine w_go rfl ?_
        exact ih (q + 1) (by omega)
  have loop12 : ∀ d q, q + d = nl → wp X 131 155 [TM, some (vI a), some (vI (esumF s q)), some (vI (nI q))] [] (pS h s) (fun r h' => r = some (vI (esumF s nl)) ∧ h' = pS h s) := by
    intro d
    induction d with
    | zero =>
      intro q hq
      have eq : q = nl := by omega
      subst eq
      refine w_pu rfl rfl ?_
      refine w_pu rfl rfl ?_
      refine m_g hw rfl rfl ?_
      refine w_ge rfl (fun c0 => ?_) (fun c0 => ?_)
      · refine w_pu rfl rfl ?_
        refine w_rt rfl rfl trivial ?_
        exact ⟨rfl, rfl⟩
      · exact absurd (by rw [hnl]; exact nI_le (by omega) (by omega)) c0
    | succ d ih =>
      intro q hq
      refine w_pu rfl rfl ?_
      refine w_pu rfl rfl ?_
      refine m_g hw rfl rfl ?_
      refine w_ge rfl (fun c0 => ?_) (fun c0 => ?_)
      · exact absurd (by rw [hnl] at c0; exact c0) (nI_ge (by omega) (by omega))
      · refine w_pu rfl rfl ?_
        refine w_pu rfl rfl ?_
        refine m_gR 20 hw rfl rfl rfl ?_
        refine w_pu rfl rfl ?_
        refine m_ai 20 q hw rfl rfl (by omega) (by first | rfl | simp only [ix_lits, nI_mul, nI_add]) (by show q < 8; omega) ?_
        refine w_pu rfl rfl ?_
        refine w_pu rfl rfl ?_
        refine w_i1 rfl rfl rfl ?_
        refine w_go rfl ?_
        exact ih (q + 1) (by omega)
  refine w_cst (v := 0) rfl rfl rfl ?_
  refine w_pu rfl rfl ?_
  refine w_pu rfl rfl ?_
  by_cases q0 : a = 0
  · refine w_top 0 q0 ?_
    refine w_sw (t := 68) rfl rfl ?_
    refine w_pu rfl rfl ?_
    refine m_g hw rfl rfl ?_
    refine w_rt rfl rfl trivial ?_
    exact ⟨by rw [statusF, if_pos q0], rfl⟩
  by_cases q1 : a = 1
  · refine w_top 1 q1 ?_
    refine w_sw (t := 73) rfl rfl ?_
    refine w_pu rfl rfl ?_
    refine m_g hw rfl rfl ?_
    refine w_rt rfl rfl trivial ?_
    exact ⟨by rw [statusF, if_neg q0, if_pos q1], rfl⟩
  by_cases q2 : a = 2
  · refine w_top 2 q2 ?_
    refine w_sw (t := 78) rfl rfl ?_
    refine w_pu rfl rfl ?_
    refine m_g hw rfl rfl ?_
    refine w_rt rfl rfl trivial ?_
    exact ⟨by rw [statusF, if_neg q0, if_neg q1, if_pos q2], rfl⟩
  by_cases q3 : a = 3
  · refine w_top 3 q3 ?_
    refine w_sw (t := 83) rfl rfl ?_
    refine w_pu rfl rfl ?_
    refine m_g hw rfl rfl ?_
    refine w_rt rfl rfl trivial ?_
    exact ⟨by rw [statusF, if_neg q0, if_neg q1, if_neg q2, if_pos q3], rfl⟩
  by_cases q4 : a = 4
  · refine w_top 4 q4 ?_
    refine w_sw (t := 88) rfl rfl ?_
    refine w_pu rfl rfl ?_
    refine m_g hw rfl rfl ?_
    refine w_rt rfl rfl trivial ?_
    exact ⟨by rw [statusF, if_neg q0, if_neg q1, if_neg q2, if_neg q3, if_pos q4], rfl⟩
  by_cases q5 : a = 5
  · refine w_top 5 q5 ?_
    refine w_sw (t := 93) rfl rfl ?_
    refine w_pu rfl rfl ?_
    refine w_cst (v := 3) rfl rfl rfl ?_
    refine w_cp (vI (manyF s 3 np)) rfl rfl (by decide) (Nat.le_of_ble_eq_true rfl) rfl (Nat.le_of_ble_eq_true rfl) (Nat.le_of_ble_eq_true rfl) ⟨wM hw 0 (by omega), rfl⟩ rfl (mX_many X hw s hnp 3) ?_
    refine w_rt rfl rfl trivial ?_
    exact ⟨by rw [statusF, if_neg q0, if_neg q1, if_neg q2, if_neg q3, if_neg q4, if_pos q5], rfl⟩
  by_cases q6 : a = 6
  · refine w_top 6 q6 ?_
    refine w_sw (t := 99) rfl rfl ?_
    refine w_pu rfl rfl ?_
    refine w_cst (v := 2) rfl rfl rfl ?_
    refine w_cp (vI (manyF s 2 np)) rfl rfl (by decide) (Nat.le_of_ble_eq_true rfl) rfl (Nat.le_of_ble_eq_true rfl) (Nat.le_of_ble_eq_true rfl) ⟨wM hw 0 (by omega), rfl⟩ rfl (mX_many X hw s hnp 2) ?_
    refine w_rt rfl rfl trivial ?_
    exact ⟨by rw [statusF, if_neg q0, if_neg q1, if_neg q2, if_neg q3, if_neg q4, if_neg q5, if_pos q6], rfl⟩
  by_cases q7 : a = 7
  · refine w_top 7 q7 ?_
    refine w_sw (t := 105) rfl rfl ?_
    refine w_pu rfl rfl ?_
    refine w_cst (v := 0) rfl rfl rfl ?_
    refine w_cp (vI (manyF s 0 np)) rfl rfl (by decide) (Nat.le_of_ble_eq_true rfl) rfl (Nat.le_of_ble_eq_true rfl) (Nat.le_of_ble_eq_true rfl) ⟨wM hw 0 (by omega), rfl⟩ rfl (mX_many X hw s hnp 0) ?_
    refine w_rt rfl rfl trivial ?_
    exact ⟨by rw [statusF, if_neg q0, if_neg q1, if_neg q2, if_neg q3, if_neg q4, if_neg q5, if_neg q6, if_pos q7], rfl⟩
  by_cases q8 : a = 8
  · refine w_top 8 q8 ?_
    refine w_sw (t := 111) rfl rfl ?_
    refine w_pu rfl rfl ?_
    refine m_g hw rfl rfl ?_
    refine w_rt rfl rfl trivial ?_
    exact ⟨by rw [statusF, if_neg q0, if_neg q1, if_neg q2, if_neg q3, if_neg q4, if_neg q5, if_neg q6, if_neg q7, if_pos q8], rfl⟩
  by_cases q9 : a = 9
  · refine w_top 9 q9 ?_
    refine w_sw (t := 116) rfl rfl ?_
    refine w_cst (v := 0) rfl rfl rfl ?_
    refine w_pu rfl rfl ?_
    rw [statusF, if_neg q0, if_neg q1, if_neg q2, if_neg q3, if_neg q4, if_neg q5, if_neg q6, if_neg q7, if_neg q8, if_pos q9]
    exact loop9 g 0 (by omega)
  by_cases q10 : a = 10
  · refine w_top 10 q10 ?_
    refine w_sw (t := 143) rfl rfl ?_
    refine w_pu rfl rfl ?_
    refine m_g hw rfl rfl ?_
    refine w_rt rfl rfl trivial ?_
    exact ⟨by rw [statusF, if_neg q0, if_neg q1, if_neg q2, if_neg q3, if_neg q4, if_neg q5, if_neg q6, if_neg q7, if_neg q8, if_neg q9, if_pos q10], rfl⟩
  by_cases q11 : a = 11
  · refine w_top 11 q11 ?_
    refine w_sw (t := 148) rfl rfl ?_
    refine w_pu rfl rfl ?_
    refine m_g hw rfl rfl ?_
    refine w_rt rfl rfl trivial ?_
    exact ⟨by rw [statusF, if_neg q0, if_neg q1, if_neg q2, if_neg q3, if_neg q4, if_neg q5, if_neg q6, if_neg q7, if_neg q8, if_neg q9, if_neg q10, if_pos q11], rfl⟩
  by_cases q12 : a = 12
  · refine w_top 12 q12 ?_
    refine w_sw (t := 153) rfl rfl ?_
    refine w_cst (v := 0) rfl rfl rfl ?_
    refine w_pu rfl rfl ?_
    rw [statusF, if_neg q0, if_neg q1, if_neg q2, if_neg q3, if_neg q4, if_neg q5, if_neg q6, if_neg q7, if_neg q8, if_neg q9, if_neg q10, if_neg q11, if_pos q12]
    exact loop12 nl 0 (by omega)
  refine w_sw (t := 180) rfl (sw_out (by decide) rfl ?_) ?_
  · intro k k1
    match k, k1 with
    | 0, _ => exact q0
    | 1, _ => exact q1
    | 2, _ => exact q2
    | 3, _ => exact q3
    | 4, _ => exact q4
    | 5, _ => exact q5
    | 6, _ => exact q6
    | 7, _ => exact q7
    | 8, _ => exact q8
    | 9, _ => exact q9
    | 10, _ => exact q10
    | 11, _ => exact q11
    | 12, _ => exact q12
    | k + 13, k1 => exact absurd k1 (by omega)
  refine w_pu rfl rfl ?_
  refine w_cst (v := 21) rfl rfl rfl ?_
  refine w_cst (v := 26) rfl rfl rfl ?_
  refine w_cp (vI (inF a 21 26)) rfl rfl (by decide) (Nat.le_of_ble_eq_true rfl) rfl (Nat.le_of_ble_eq_true rfl) (Nat.le_of_ble_eq_true rfl) trivial rfl (mX_in X _ a 21 26) ?_
  refine w_eq0 rfl (fun c0 => ?_) (fun c0 => ?_)
  · refine w_cst (v := (-9)) rfl rfl rfl ?_
    refine w_rt rfl rfl trivial ?_
    exact ⟨by rw [statusF, if_neg q0, if_neg q1, if_neg q2, if_neg q3, if_neg q4, if_neg q5, if_neg q6, if_neg q7, if_neg q8, if_neg q9, if_neg q10, if_neg q11, if_neg q12, if_pos c0], rfl⟩
  · obtain ⟨m, hm1, hm2, hm3⟩ := inF_21 c0
    have em : nat (a - 20) = m := by rw [hm3, nat_nI (by omega)]
    refine w_pu rfl rfl ?_
    refine m_gR 38 hw rfl rfl rfl ?_
    refine w_pu rfl rfl ?_
    refine w_cst (v := 20) rfl rfl rfl ?_
    refine w_pu rfl rfl ?_
    refine m_ai 38 (nat (a - 20)) hw rfl rfl (by omega) (by rw [em]; exact hm3) (by show (nat (a - 20)) < 7; omega) ?_
    refine w_go rfl ?_
    refine w_rt rfl rfl trivial ?_
    exact ⟨by rw [statusF, if_neg q0, if_neg q1, if_neg q2, if_neg q3, if_neg q4, if_neg q5, if_neg q6, if_neg q7, if_neg q8, if_neg q9, if_neg q10, if_neg q11, if_neg q12, if_neg c0], rfl⟩
