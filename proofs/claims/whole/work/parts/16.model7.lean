/-! The reference's other calls, third part. -/
def wayK (s : SS) (l j : Nat) : Nat := 200 * l + (nat (s 14 l) + j) % 200
theorem wayK_lt {s : SS} {l j nl : Nat} (hl : l < nl) (h8 : nl ≤ 8) : wayK s l j < 1600 := by
  unfold wayK
  omega
def loseOpF (nl nf np : Nat) (s : SS) (l : Int32) : Int32 × SS := (match lnO nl l with
  | none => ((-1), refuseF s 1)
  | some kl => (match fnO s kl 1 with
  | none => (if (s 1 kl) = 0 then ((-2), refuseF s 2) else (if (s 1 kl) = 1 then ((-2), refuseF s 2) else ((-5), refuseF s 5)))
  | some kj => (if (s 1 kl) = 0 then ((-2), refuseF s 2) else (if (s 1 kl) = 1 then ((-2), refuseF s 2) else (if (nI (wayK s kl kj)) = (-9) then ((-5), refuseF s 5) else (if (s 10 (wayK s kl kj)) = (-2) then ((-9), (uS s 13 (wayK s kl kj) ((s 13 (wayK s kl kj)) ||| 1))) else (s 10 (wayK s kl kj), (uS s 13 (wayK s kl kj) ((s 13 (wayK s kl kj)) ||| 1)))))))))
theorem loseOpF_0 {nl nf np : Nat} {s : SS} {l : Int32} (el : lnO nl l = none) : loseOpF nl nf np s l = ((-1), refuseF s 1) := by
  unfold loseOpF
  rw [el]
theorem loseOpF_1 {nl nf np : Nat} {s : SS} {l : Int32} {kl : Nat} (el : lnO nl l = some kl) (ej : fnO s kl 1 = none) : loseOpF nl nf np s l = (if (s 1 kl) = 0 then ((-2), refuseF s 2) else (if (s 1 kl) = 1 then ((-2), refuseF s 2) else ((-5), refuseF s 5))) := by
  unfold loseOpF
  rw [el]; dsimp only; rw [ej]
theorem loseOpF_2 {nl nf np : Nat} {s : SS} {l : Int32} {kl : Nat} {kj : Nat} (el : lnO nl l = some kl) (ej : fnO s kl 1 = some kj) : loseOpF nl nf np s l = (if (s 1 kl) = 0 then ((-2), refuseF s 2) else (if (s 1 kl) = 1 then ((-2), refuseF s 2) else (if (nI (wayK s kl kj)) = (-9) then ((-5), refuseF s 5) else (if (s 10 (wayK s kl kj)) = (-2) then ((-9), (uS s 13 (wayK s kl kj) ((s 13 (wayK s kl kj)) ||| 1))) else (s 10 (wayK s kl kj), (uS s 13 (wayK s kl kj) ((s 13 (wayK s kl kj)) ||| 1))))))) := by
  unfold loseOpF
  rw [el]; dsimp only; rw [ej]
theorem mX_loseOp (X : Nat × (Nat → Int32)) {h : Hp} {nl nf np : Nat} (hw : WF h nl nf np) (s : SS) (hnl : s 0 0 = nI nl) (hu : ∀ l, l < nl → ∃ u f, s 15 l = nI u ∧ u ≤ 200 ∧ s 14 l = nI f ∧ f < 200) (l : Int32) : wp X 113 0 [TM, some (vI l), none] [] (pS h s) (fun r h' => r = some (vI (loseOpF nl nf np s l).1) ∧ h' = pS h (loseOpF nl nf np s l).2) := by
  have h3 := hw.2.2.2.2.2.2.2.2
  have h4 := hw.2.2.2.2.2.2.1
  have h5 := hw.2.2.2.2.2.2.2.1
  cases el : lnO nl l with
  | none =>
    refine w_pu rfl rfl ?_
    refine w_pu rfl rfl ?_
    refine w_cp (vI (inF l 0 (s 0 0 - 1))) rfl rfl (by decide) (Nat.le_of_ble_eq_true rfl) rfl (Nat.le_of_ble_eq_true rfl) (Nat.le_of_ble_eq_true rfl) ⟨wM hw 0 (by omega), rfl⟩ rfl (mX_isLine X hw s l) ?_
    refine w_top 0 (by rw [hnl, inF_lnO _ (by omega), el]; rfl) ?_
    refine w_ne0 rfl (fun c0 => ?_) (fun c0 => ?_)
    · exact absurd c0 (by decide)
    · refine w_pu rfl rfl ?_
      refine w_cst (v := (-1)) rfl rfl rfl ?_
      refine w_cgE (vI (-1)) (pS h (refuseF s 1)) rfl rfl (by decide) (Nat.le_of_ble_eq_true rfl) rfl (Nat.le_of_ble_eq_true rfl) (Nat.le_of_ble_eq_true rfl) ⟨wM hw 0 (by omega), rfl⟩ rfl (mX_refuse X hw s (-1) 1 (by decide) (by decide)) ?_
      refine w_rt rfl rfl trivial ?_
      exact ⟨by rw [loseOpF_0 el], by rw [loseOpF_0 el]⟩
  | some kl =>
    obtain ⟨rfl, hkl⟩ := lnO_some el
    obtain ⟨u, f, u1, u2, f1, f2⟩ := hu kl hkl
    cases ej : fnO s kl 1 with
    | none =>
      refine w_pu rfl rfl ?_
      refine w_pu rfl rfl ?_
      refine w_cp (vI (inF (nI kl) 0 (s 0 0 - 1))) rfl rfl (by decide) (Nat.le_of_ble_eq_true rfl) rfl (Nat.le_of_ble_eq_true rfl) (Nat.le_of_ble_eq_true rfl) ⟨wM hw 0 (by omega), rfl⟩ rfl (mX_isLine X hw s (nI kl)) ?_
      refine w_top 1 (by rw [hnl, inF_lnO _ (by omega), el]; rfl) ?_
      refine w_ne0 rfl (fun c0 => ?_) (fun c0 => ?_)
      · refine w_pu rfl rfl ?_
        refine m_gR 1 hw rfl rfl rfl ?_
        refine w_pu rfl rfl ?_
        refine m_ai 1 kl hw rfl rfl (by omega) (by first | rfl | simp only [ix_lits, nI_mul, nI_add]) (by show kl < 8; omega) ?_
        refine w_eq0 rfl (fun c1 => ?_) (fun c1 => ?_)
        · refine w_pu rfl rfl ?_
          refine w_cst (v := (-2)) rfl rfl rfl ?_
          refine w_cgE (vI (-2)) (pS h (refuseF s 2)) rfl rfl (by decide) (Nat.le_of_ble_eq_true rfl) rfl (Nat.le_of_ble_eq_true rfl) (Nat.le_of_ble_eq_true rfl) ⟨wM hw 0 (by omega), rfl⟩ rfl (mX_refuse X hw s (-2) 2 (by decide) (by decide)) ?_
          refine w_rt rfl rfl trivial ?_
          exact ⟨by rw [loseOpF_1 el ej, if_pos c1], by rw [loseOpF_1 el ej, if_pos c1]⟩
        · refine w_pu rfl rfl ?_
          refine m_gR 1 hw rfl rfl rfl ?_
          refine w_pu rfl rfl ?_
          refine m_ai 1 kl hw rfl rfl (by omega) (by first | rfl | simp only [ix_lits, nI_mul, nI_add]) (by show kl < 8; omega) ?_
          refine w_cst (v := 1) rfl rfl rfl ?_
          refine w_ne rfl (fun c2 => ?_) (fun c2 => ?_)
          · refine w_pu rfl rfl ?_
            refine w_pu rfl rfl ?_
            refine w_cst (v := 1) rfl rfl rfl ?_
            refine w_cp (vI (encW s kl (fnO s kl 1))) rfl rfl (by decide) (Nat.le_of_ble_eq_true rfl) rfl (Nat.le_of_ble_eq_true rfl) (Nat.le_of_ble_eq_true rfl) ⟨wM hw 0 (by omega), rfl⟩ rfl (mX_firstNot X hw s kl u f 1 hkl u1 u2 f1 f2) ?_
            refine w_top (-9) (by rw [ej]; rfl) ?_
            refine w_pu rfl rfl ?_
            refine w_pu rfl rfl ?_
            refine w_cst (v := (-9)) rfl rfl rfl ?_
            refine w_ne rfl (fun c3 => ?_) (fun c3 => ?_)
            · exact absurd c3 (by decide)
            · refine w_pu rfl rfl ?_
              refine w_cst (v := (-5)) rfl rfl rfl ?_
              refine w_cgE (vI (-5)) (pS h (refuseF s 5)) rfl rfl (by decide) (Nat.le_of_ble_eq_true rfl) rfl (Nat.le_of_ble_eq_true rfl) (Nat.le_of_ble_eq_true rfl) ⟨wM hw 0 (by omega), rfl⟩ rfl (mX_refuse X hw s (-5) 5 (by decide) (by decide)) ?_
              refine w_rt rfl rfl trivial ?_
              exact ⟨by rw [loseOpF_1 el ej, if_neg c1, if_neg c2], by rw [loseOpF_1 el ej, if_neg c1, if_neg c2]⟩
          · refine w_pu rfl rfl ?_
            refine w_cst (v := (-2)) rfl rfl rfl ?_
            refine w_cgE (vI (-2)) (pS h (refuseF s 2)) rfl rfl (by decide) (Nat.le_of_ble_eq_true rfl) rfl (Nat.le_of_ble_eq_true rfl) (Nat.le_of_ble_eq_true rfl) ⟨wM hw 0 (by omega), rfl⟩ rfl (mX_refuse X hw s (-2) 2 (by decide) (by decide)) ?_
            refine w_rt rfl rfl trivial ?_
            exact ⟨by rw [loseOpF_1 el ej, if_neg c1, if_pos c2], by rw [loseOpF_1 el ej, if_neg c1, if_pos c2]⟩
      · exact absurd c0 (by decide)
    | some kj =>
      have hwk : wayK s kl kj < 1600 := wayK_lt hkl h4
      refine w_pu rfl rfl ?_
      refine w_pu rfl rfl ?_
      refine w_cp (vI (inF (nI kl) 0 (s 0 0 - 1))) rfl rfl (by decide) (Nat.le_of_ble_eq_true rfl) rfl (Nat.le_of_ble_eq_true rfl) (Nat.le_of_ble_eq_true rfl) ⟨wM hw 0 (by omega), rfl⟩ rfl (mX_isLine X hw s (nI kl)) ?_
      refine w_top 1 (by rw [hnl, inF_lnO _ (by omega), el]; rfl) ?_
      refine w_ne0 rfl (fun c0 => ?_) (fun c0 => ?_)
      · refine w_pu rfl rfl ?_
        refine m_gR 1 hw rfl rfl rfl ?_
        refine w_pu rfl rfl ?_
        refine m_ai 1 kl hw rfl rfl (by omega) (by first | rfl | simp only [ix_lits, nI_mul, nI_add]) (by show kl < 8; omega) ?_
        refine w_eq0 rfl (fun c1 => ?_) (fun c1 => ?_)
        · refine w_pu rfl rfl ?_
          refine w_cst (v := (-2)) rfl rfl rfl ?_
          refine w_cgE (vI (-2)) (pS h (refuseF s 2)) rfl rfl (by decide) (Nat.le_of_ble_eq_true rfl) rfl (Nat.le_of_ble_eq_true rfl) (Nat.le_of_ble_eq_true rfl) ⟨wM hw 0 (by omega), rfl⟩ rfl (mX_refuse X hw s (-2) 2 (by decide) (by decide)) ?_
          refine w_rt rfl rfl trivial ?_
          exact ⟨by rw [loseOpF_2 el ej, if_pos c1], by rw [loseOpF_2 el ej, if_pos c1]⟩
        · refine w_pu rfl rfl ?_
          refine m_gR 1 hw rfl rfl rfl ?_
          refine w_pu rfl rfl ?_
          refine m_ai 1 kl hw rfl rfl (by omega) (by first | rfl | simp only [ix_lits, nI_mul, nI_add]) (by show kl < 8; omega) ?_
          refine w_cst (v := 1) rfl rfl rfl ?_
          refine w_ne rfl (fun c2 => ?_) (fun c2 => ?_)
          · refine w_pu rfl rfl ?_
            refine w_pu rfl rfl ?_
            refine w_cst (v := 1) rfl rfl rfl ?_
            refine w_cp (vI (encW s kl (fnO s kl 1))) rfl rfl (by decide) (Nat.le_of_ble_eq_true rfl) rfl (Nat.le_of_ble_eq_true rfl) (Nat.le_of_ble_eq_true rfl) ⟨wM hw 0 (by omega), rfl⟩ rfl (mX_firstNot X hw s kl u f 1 hkl u1 u2 f1 f2) ?_
            refine w_top (nI (wayK s kl kj)) (by rw [ej]; rfl) ?_
            refine w_pu rfl rfl ?_
            refine w_pu rfl rfl ?_
            refine w_cst (v := (-9)) rfl rfl rfl ?_
            refine w_ne rfl (fun c3 => ?_) (fun c3 => ?_)
            · refine w_pu rfl rfl ?_
              refine m_gR 13 hw rfl rfl rfl ?_
              refine w_pu rfl rfl ?_
              refine w_pu rfl rfl ?_
              refine m_ai 13 (wayK s kl kj) hw rfl rfl (by omega) (by first | rfl | simp only [ix_lits, nI_mul, nI_add]) (by show (wayK s kl kj) < 1600; omega) ?_
              refine w_cst (v := 1) rfl rfl rfl ?_
              refine w_pu rfl rfl ?_
              refine m_si 13 (wayK s kl kj) hw rfl rfl (by omega) (by first | rfl | simp only [ix_lits, nI_mul, nI_add]) (by show (wayK s kl kj) < 1600; omega) ?_
              refine w_pu rfl rfl ?_
              refine m_gR 10 hw rfl rfl rfl ?_
              refine w_pu rfl rfl ?_
              refine m_ai 10 (wayK s kl kj) hw rfl rfl (by omega) (by first | rfl | simp only [ix_lits, nI_mul, nI_add]) (by show (wayK s kl kj) < 1600; omega) ?_
              refine w_top (s 10 (wayK s kl kj)) rfl ?_
              refine w_cst (v := (-2)) rfl rfl rfl ?_
              refine w_ne rfl (fun c4 => ?_) (fun c4 => ?_)
              · refine w_pu rfl rfl ?_
                refine m_gR 10 hw rfl rfl rfl ?_
                refine w_pu rfl rfl ?_
                refine m_ai 10 (wayK s kl kj) hw rfl rfl (by omega) (by first | rfl | simp only [ix_lits, nI_mul, nI_add]) (by show (wayK s kl kj) < 1600; omega) ?_
                refine w_top (s 10 (wayK s kl kj)) rfl ?_
                refine w_rt rfl rfl trivial ?_
                exact ⟨by rw [loseOpF_2 el ej, if_neg c1, if_neg c2, if_neg c3, if_neg c4], by rw [loseOpF_2 el ej, if_neg c1, if_neg c2, if_neg c3, if_neg c4]⟩
              · refine w_cst (v := (-9)) rfl rfl rfl ?_
                refine w_go rfl ?_
                refine w_rt rfl rfl trivial ?_
                exact ⟨by rw [loseOpF_2 el ej, if_neg c1, if_neg c2, if_neg c3, if_pos c4], by rw [loseOpF_2 el ej, if_neg c1, if_neg c2, if_neg c3, if_pos c4]⟩
            · exact absurd c3 (nI_nem9 (by have := wayK_lt (s := s) (j := kj) hkl h4; omega))
          · refine w_pu rfl rfl ?_
            refine w_cst (v := (-2)) rfl rfl rfl ?_
            refine w_cgE (vI (-2)) (pS h (refuseF s 2)) rfl rfl (by decide) (Nat.le_of_ble_eq_true rfl) rfl (Nat.le_of_ble_eq_true rfl) (Nat.le_of_ble_eq_true rfl) ⟨wM hw 0 (by omega), rfl⟩ rfl (mX_refuse X hw s (-2) 2 (by decide) (by decide)) ?_
            refine w_rt rfl rfl trivial ?_
            exact ⟨by rw [loseOpF_2 el ej, if_neg c1, if_pos c2], by rw [loseOpF_2 el ej, if_neg c1, if_pos c2]⟩
      · exact absurd c0 (by decide)
def bendG (np : Nat) (s : SS) (i : Int32) (w : Nat) : Int32 × SS := if s 10 w = -2 then (-2, refuseF s 2) else if inF i 0 (s 26 (nat (s 10 w)) - 1) = 0 then (-3, refuseF s 3) else (s 10 w, uS s 13 w (s 13 w ||| 2))
def bendF (nl np : Nat) (s : SS) (l i m : Int32) : Int32 × SS := match lnO nl l with
  | none => (-1, refuseF s 1)
  | some k => if 1 ≤ m then (if m ≤ 255 then (match fnO s k 3 with
      | none => (-5, refuseF s 5)
      | some j => bendG np s i (wayK s k j)) else (-6, refuseF s 6)) else (-4, refuseF s 4)
theorem mX_bend (X : Nat × (Nat → Int32)) {h : Hp} {nl nf np : Nat} (hw : WF h nl nf np) (s : SS) (hnl : s 0 0 = nI nl) (hu : ∀ l, l < nl → ∃ u f, s 15 l = nI u ∧ u ≤ 200 ∧ s 14 l = nI f ∧ f < 200) (hup : ∀ l j, l < nl → fnO s l 3 = some j → okp np (s 10 (wayK s l j))) (l i m : Int32) : wp X 114 0 [TM, some (vI l), some (vI i), some (vI m), none] [] (pS h s) (fun r h' => r = some (vI (bendF nl np s l i m).1) ∧ h' = pS h (bendF nl np s l i m).2) := by
  have h3 := hw.2.2.2.2.2.2.2.2
  have h4 := hw.2.2.2.2.2.2.1
  cases el : lnO nl l with
  | none =>
    have eF : bendF nl np s l i m = (-1, refuseF s 1) := by rw [bendF, el]
    rw [eF]
    refine w_pu rfl rfl ?_
    refine w_pu rfl rfl ?_
    refine w_cp (vI (inF l 0 (s 0 0 - 1))) rfl rfl (by decide) (Nat.le_of_ble_eq_true rfl) rfl (Nat.le_of_ble_eq_true rfl) (Nat.le_of_ble_eq_true rfl) ⟨wM hw 0 (by omega), rfl⟩ rfl (mX_isLine X hw s l) ?_
    refine w_top 0 (by rw [hnl, inF_lnO _ (by omega), el]; rfl) ?_
    refine w_ne0 rfl (fun c0 => ?_) (fun c0 => ?_)
    · exact absurd c0 (by decide)
    · refine w_pu rfl rfl ?_
      refine w_cst (v := (-1)) rfl rfl rfl ?_
      refine w_cgE (vI (-1)) (pS h (refuseF s 1)) rfl rfl (by decide) (Nat.le_of_ble_eq_true rfl) rfl (Nat.le_of_ble_eq_true rfl) (Nat.le_of_ble_eq_true rfl) ⟨wM hw 0 (by omega), rfl⟩ rfl (mX_refuse X hw s (-1) 1 (by decide) (by decide)) ?_
      refine w_rt rfl rfl trivial ?_
      exact ⟨rfl, rfl⟩
  | some k =>
    obtain ⟨rfl, hk⟩ := lnO_some el
    obtain ⟨u, f, u1, u2, f1, f2⟩ := hu k hk
    rw [bendF, el]
    dsimp only
    refine w_pu rfl rfl ?_
    refine w_pu rfl rfl ?_
    refine w_cp (vI (inF (nI k) 0 (s 0 0 - 1))) rfl rfl (by decide) (Nat.le_of_ble_eq_true rfl) rfl (Nat.le_of_ble_eq_true rfl) (Nat.le_of_ble_eq_true rfl) ⟨wM hw 0 (by omega), rfl⟩ rfl (mX_isLine X hw s (nI k)) ?_
    refine w_top 1 (by rw [hnl, inF_lnO _ (by omega), el]; rfl) ?_
    refine w_ne0 rfl (fun c0 => ?_) (fun c0 => ?_)
    · refine w_pu rfl rfl ?_
      refine w_cst (v := 1) rfl rfl rfl ?_
      refine w_ge rfl (fun c1 => ?_) (fun c1 => ?_)
      · refine w_pu rfl rfl ?_
        refine w_cst (v := 255) rfl rfl rfl ?_
        refine w_le rfl (fun c2 => ?_) (fun c2 => ?_)
        · refine w_pu rfl rfl ?_
          refine w_pu rfl rfl ?_
          refine w_cst (v := 3) rfl rfl rfl ?_
          refine w_cp (vI (encW s k (fnO s k 3))) rfl rfl (by decide) (Nat.le_of_ble_eq_true rfl) rfl (Nat.le_of_ble_eq_true rfl) (Nat.le_of_ble_eq_true rfl) ⟨wM hw 0 (by omega), rfl⟩ rfl (mX_firstNot X hw s k u f 3 hk u1 u2 f1 f2) ?_
          rw [if_pos c1, if_pos c2]
          cases ej : fnO s k 3 with
          | none =>
            refine w_top (-9) (by rfl) ?_
            refine w_pu rfl rfl ?_
            refine w_pu rfl rfl ?_
            refine w_cst (v := (-9)) rfl rfl rfl ?_
            refine w_ne rfl (fun c10 => ?_) (fun c10 => ?_)
            · exact absurd c10 (by decide)
            · refine w_pu rfl rfl ?_
              refine w_cst (v := (-5)) rfl rfl rfl ?_
              refine w_cgE (vI (-5)) (pS h (refuseF s 5)) rfl rfl (by decide) (Nat.le_of_ble_eq_true rfl) rfl (Nat.le_of_ble_eq_true rfl) (Nat.le_of_ble_eq_true rfl) ⟨wM hw 0 (by omega), rfl⟩ rfl (mX_refuse X hw s (-5) 5 (by decide) (by decide)) ?_
              refine w_rt rfl rfl trivial ?_
              exact ⟨rfl, rfl⟩
          | some j =>
            have hwk : wayK s k j < 1600 := wayK_lt hk h4
            dsimp only
            generalize hgw : wayK s k j = w at hwk
            have hpp : okp np (s 10 w) := by rw [← hgw]; exact hup k j hk ej
            refine w_top (nI w) (by rw [← hgw]; rfl) ?_
            refine w_pu rfl rfl ?_
            refine w_pu rfl rfl ?_
            refine w_cst (v := (-9)) rfl rfl rfl ?_
            refine w_ne rfl (fun c10 => ?_) (fun c10 => ?_)
            · refine w_pu rfl rfl ?_
              refine m_gR 10 hw rfl rfl rfl ?_
              refine w_pu rfl rfl ?_
              refine m_ai 10 w hw rfl rfl (by omega) (by first | rfl | simp only [ix_lits, nI_mul, nI_add, hp2]) (by show w < 1600; omega) ?_
              refine w_cst (v := (-2)) rfl rfl rfl ?_
              refine w_ne rfl (fun c11 => ?_) (fun c11 => ?_)
              · obtain ⟨p, hp1, hp2⟩ := hpp.resolve_left c11
                refine w_pu rfl rfl ?_
                refine w_cst (v := 0) rfl rfl rfl ?_
                refine w_pu rfl rfl ?_
                refine m_gR 26 hw rfl rfl rfl ?_
                refine w_pu rfl rfl ?_
                refine m_gR 10 hw rfl rfl rfl ?_
                refine w_pu rfl rfl ?_
                refine m_ai 10 w hw rfl rfl (by omega) (by first | rfl | simp only [ix_lits, nI_mul, nI_add, hp2]) (by show w < 1600; omega) ?_
                refine m_ai 26 p hw rfl rfl (by omega) (by first | rfl | simp only [ix_lits, nI_mul, nI_add, hp2]) (by show p < 3000; omega) ?_
                refine w_cst (v := 1) rfl rfl rfl ?_
                refine w_pu rfl rfl ?_
                refine w_cp (vI (inF i 0 ((s 26 p) - 1))) rfl rfl (by decide) (Nat.le_of_ble_eq_true rfl) rfl (Nat.le_of_ble_eq_true rfl) (Nat.le_of_ble_eq_true rfl) trivial rfl (mX_in X _ i 0 ((s 26 p) - 1)) ?_
                refine w_ne0 rfl (fun c12 => ?_) (fun c12 => ?_)
                · refine w_pu rfl rfl ?_
                  refine m_gR 13 hw rfl rfl rfl ?_
                  refine w_pu rfl rfl ?_
                  refine w_pu rfl rfl ?_
                  refine m_ai 13 w hw rfl rfl (by omega) (by first | rfl | simp only [ix_lits, nI_mul, nI_add, hp2]) (by show w < 1600; omega) ?_
                  refine w_cst (v := 2) rfl rfl rfl ?_
                  refine w_pu rfl rfl ?_
                  refine m_si 13 w hw rfl rfl (by omega) (by first | rfl | simp only [ix_lits, nI_mul, nI_add, hp2]) (by show w < 1600; omega) ?_
                  refine w_pu rfl rfl ?_
                  refine m_gR 10 hw rfl rfl rfl ?_
                  refine w_pu rfl rfl ?_
                  refine m_ai 10 w hw rfl rfl (by omega) (by first | rfl | simp only [ix_lits, nI_mul, nI_add, hp2]) (by show w < 1600; omega) ?_
                  refine w_top (s 10 w) rfl ?_
                  refine w_rt rfl rfl trivial ?_
                  rw [bendG, if_neg c11, hp2, nat_nI (by omega), if_neg c12]
                  exact ⟨rfl, rfl⟩
                · refine w_pu rfl rfl ?_
                  refine w_cst (v := (-3)) rfl rfl rfl ?_
                  refine w_cgE (vI (-3)) (pS h (refuseF s 3)) rfl rfl (by decide) (Nat.le_of_ble_eq_true rfl) rfl (Nat.le_of_ble_eq_true rfl) (Nat.le_of_ble_eq_true rfl) ⟨wM hw 0 (by omega), rfl⟩ rfl (mX_refuse X hw s (-3) 3 (by decide) (by decide)) ?_
                  refine w_rt rfl rfl trivial ?_
                  rw [bendG, if_neg c11, hp2, nat_nI (by omega)]
                  rw [if_pos c12]
                  exact ⟨rfl, rfl⟩
              · refine w_pu rfl rfl ?_
                refine w_cst (v := (-2)) rfl rfl rfl ?_
                refine w_cgE (vI (-2)) (pS h (refuseF s 2)) rfl rfl (by decide) (Nat.le_of_ble_eq_true rfl) rfl (Nat.le_of_ble_eq_true rfl) (Nat.le_of_ble_eq_true rfl) ⟨wM hw 0 (by omega), rfl⟩ rfl (mX_refuse X hw s (-2) 2 (by decide) (by decide)) ?_
                refine w_rt rfl rfl trivial ?_
                rw [bendG, if_pos c11]
                exact ⟨rfl, rfl⟩
            · exact absurd c10 (nI_nem9 (by omega))
        · refine w_pu rfl rfl ?_
          refine w_cst (v := (-6)) rfl rfl rfl ?_
          refine w_cgE (vI (-6)) (pS h (refuseF s 6)) rfl rfl (by decide) (Nat.le_of_ble_eq_true rfl) rfl (Nat.le_of_ble_eq_true rfl) (Nat.le_of_ble_eq_true rfl) ⟨wM hw 0 (by omega), rfl⟩ rfl (mX_refuse X hw s (-6) 6 (by decide) (by decide)) ?_
          refine w_rt rfl rfl trivial ?_
          rw [if_pos c1, if_neg c2]
          exact ⟨rfl, rfl⟩
      · refine w_pu rfl rfl ?_
        refine w_cst (v := (-4)) rfl rfl rfl ?_
        refine w_cgE (vI (-4)) (pS h (refuseF s 4)) rfl rfl (by decide) (Nat.le_of_ble_eq_true rfl) rfl (Nat.le_of_ble_eq_true rfl) (Nat.le_of_ble_eq_true rfl) ⟨wM hw 0 (by omega), rfl⟩ rfl (mX_refuse X hw s (-4) 4 (by decide) (by decide)) ?_
        refine w_rt rfl rfl trivial ?_
        rw [if_neg c1]
        exact ⟨rfl, rfl⟩
    · exact absurd c0 (by decide)
