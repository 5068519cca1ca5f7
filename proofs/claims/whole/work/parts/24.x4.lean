/-! The class's tick. -/
def lfC (c : CS) (p : Nat) : Nat → Option Nat
  | 0 => none
  | n + 1 => if x1_takesMoreF c n = 0 then lfC c p n else match lfC c p n with
    | none => some n
    | some m => if x5_isBetterF c n m p = 0 then some m else some n
theorem lfC_lt (c : CS) (p : Nat) : ∀ n l, lfC c p n = some l → l < n
  | 0, _, h => by cases h
  | n + 1, l, h => by
    rw [lfC] at h
    split at h
    · have := lfC_lt c p n l h
      omega
    · split at h
      · cases h
        omega
      · next m q =>
        have := lfC_lt c p n m q
        split at h
        · cases h
          omega
        · cases h
          omega
theorem x5_lineFor (X : Nat × (Nat → Int32)) {h : Hp} {nl nf np : Nat} (hw : WF h nl nf np) (c : CS) (hK : KC nl nf np c) (p : Nat) (hp : p < np) : wp X 46 0 [some (vR (some (0, 0))), some (vR (some (18, p))), none, none, none] [] (pX h c) (fun r h' => r = some (vR (lnR 7 (lfC c p nl))) ∧ h' = pX h c) := by
  have ⟨hnl, hnf, hnp, hst⟩ := hK
  have h4 := hw.2.2.2.2.2.2.1
  have loop : ∀ d k (x : Option Vl), k + d = nl → wp X 46 4 [some (vR (some (0, 0))), some (vR (some (18, p))), some (vR (lnR 7 (lfC c p k))), some (vI (nI k)), x] [] (pX h c) (fun r h' => r = some (vR (lnR 7 (lfC c p nl))) ∧ h' = pX h c) := by
    intro d
    induction d with
    | zero =>
      intro k x hk
      refine w_pu rfl rfl ?_
      refine w_pu rfl rfl ?_
      refine x_g hw rfl rfl rfl (by decide) Nat.one_pos ?_
      refine w_ge rfl (fun c0 => ?_) (fun c0 => ?_)
      · refine w_pu rfl rfl ?_
        refine w_rt rfl rfl trivial ?_
        exact ⟨by rw [show k = nl by omega], rfl⟩
      · exact absurd (by rw [hnl]; exact nI_le (by omega) (by omega)) c0
    | succ d ih =>
      intro k x hk
      have hkl : k < nl := by omega
      have ih := fun y => ih (k + 1) y (by omega)
      rw [lfC] at ih
      cases hb : lfC c p k with
      | none =>
        refine w_loc [some (vR (some (0, 0))), some (vR (some (18, p))), some (vR none), some (vI (nI k)), x] rfl ?_
        refine w_pu rfl rfl ?_
        refine w_pu rfl rfl ?_
        refine x_g hw rfl rfl rfl (by decide) Nat.one_pos ?_
        refine w_ge rfl (fun c0 => ?_) (fun c0 => ?_)
        · exact absurd (by rw [hnl] at c0; exact c0) (nI_ge (by omega) (by omega))
        · refine w_pu rfl rfl ?_
          refine w_pu rfl rfl ?_
          refine w_cp (vR (lnR 7 (lnO nl (nI k)))) rfl rfl (by decide) (Nat.le_of_ble_eq_true rfl) rfl (Nat.le_of_ble_eq_true rfl) (Nat.le_of_ble_eq_true rfl) ⟨wl hw Nat.one_pos, rfl⟩ rfl (x5_lineAt X hw c hnl (nI k)) ?_
          refine w_topR (some (7, k)) (by rw [lnO_nI (by omega) (by omega)]; rfl) ?_
          refine w_pu rfl rfl ?_
          refine w_pu rfl rfl ?_
          refine w_nu rfl ?_
          refine w_pu rfl rfl ?_
          refine w_cp (vI (x1_takesMoreF c k)) rfl rfl (by decide) (Nat.le_of_ble_eq_true rfl) rfl (Nat.le_of_ble_eq_true rfl) (Nat.le_of_ble_eq_true rfl) ⟨wl hw hkl, rfl⟩ rfl (x1_takesMore X hw c k hkl ) ?_
          refine w_eq0 rfl (fun c1 => ?_) (fun c1 => ?_)
          · refine w_i1 rfl rfl rfl ?_
            refine w_go rfl ?_
            have ih := ih (some (vR (some (7, k))))
            rw [if_pos c1, hb] at ih
            exact ih
          · refine w_pu rfl rfl ?_
            refine w_nuN rfl ?_
            refine w_pu rfl rfl ?_
            refine w_pu rfl rfl ?_
            refine w_i1 rfl rfl rfl ?_
            refine w_go rfl ?_
            have ih := ih (some (vR (some (7, k))))
            rw [if_neg c1, hb] at ih
            exact ih
      | some m =>
        have hm : m < nl := Nat.lt_trans (lfC_lt c p k m hb) hkl
        refine w_loc [some (vR (some (0, 0))), some (vR (some (18, p))), some (vR (some (7, m))), some (vI (nI k)), x] rfl ?_
        refine w_pu rfl rfl ?_
        refine w_pu rfl rfl ?_
        refine x_g hw rfl rfl rfl (by decide) Nat.one_pos ?_
        refine w_ge rfl (fun c0 => ?_) (fun c0 => ?_)
        · exact absurd (by rw [hnl] at c0; exact c0) (nI_ge (by omega) (by omega))
        · refine w_pu rfl rfl ?_
          refine w_pu rfl rfl ?_
          refine w_cp (vR (lnR 7 (lnO nl (nI k)))) rfl rfl (by decide) (Nat.le_of_ble_eq_true rfl) rfl (Nat.le_of_ble_eq_true rfl) (Nat.le_of_ble_eq_true rfl) ⟨wl hw Nat.one_pos, rfl⟩ rfl (x5_lineAt X hw c hnl (nI k)) ?_
          refine w_topR (some (7, k)) (by rw [lnO_nI (by omega) (by omega)]; rfl) ?_
          refine w_pu rfl rfl ?_
          refine w_pu rfl rfl ?_
          refine w_nu rfl ?_
          refine w_pu rfl rfl ?_
          refine w_cp (vI (x1_takesMoreF c k)) rfl rfl (by decide) (Nat.le_of_ble_eq_true rfl) rfl (Nat.le_of_ble_eq_true rfl) (Nat.le_of_ble_eq_true rfl) ⟨wl hw hkl, rfl⟩ rfl (x1_takesMore X hw c k hkl ) ?_
          refine w_eq0 rfl (fun c1 => ?_) (fun c1 => ?_)
          · refine w_i1 rfl rfl rfl ?_
            refine w_go rfl ?_
            have ih := ih (some (vR (some (7, k))))
            rw [if_pos c1, hb] at ih
            exact ih
          · refine w_pu rfl rfl ?_
            refine w_nu rfl ?_
            refine w_pu rfl rfl ?_
            refine w_pu rfl rfl ?_
            refine w_pu rfl rfl ?_
            refine w_cp (vI (x5_isBetterF c k m p)) rfl rfl (by decide) (Nat.le_of_ble_eq_true rfl) rfl (Nat.le_of_ble_eq_true rfl) (Nat.le_of_ble_eq_true rfl) trivial rfl (x5_isBetter X hw c k m p hkl hm hp ) ?_
            refine w_eq0 rfl (fun c2 => ?_) (fun c2 => ?_)
            · refine w_i1 rfl rfl rfl ?_
              refine w_go rfl ?_
              have ih := ih (some (vR (some (7, k))))
              rw [if_neg c1, hb] at ih
              dsimp only at ih
              rw [if_pos c2] at ih
              exact ih
            · refine w_pu rfl rfl ?_
              refine w_pu rfl rfl ?_
              refine w_i1 rfl rfl rfl ?_
              refine w_go rfl ?_
              have ih := ih (some (vR (some (7, k))))
              rw [if_neg c1, hb] at ih
              dsimp only at ih
              rw [if_neg c2] at ih
              exact ih
  refine w_pu rfl rfl ?_
  refine w_pu rfl rfl ?_
  refine w_cst (v := 0) rfl rfl rfl ?_
  refine w_pu rfl rfl ?_
  exact loop nl 0 _ (by omega)
def llC (nl np : Nat) : Nat → Int32 → CS → CS
  | 0, _, c => c
  | d + 1, v, c => if 0 < c 4 0 2 then (match lnO np v with
      | none => llC nl np d (v + 1) c
      | some p => if c 18 p 5 = 2 then (match lfC c p nl with
          | none => c
          | some l => llC nl np d (v + 1) (x5_layOnF c l v p)) else llC nl np d (v + 1) c) else c
theorem x5_layLost (X : Nat × (Nat → Int32)) {h : Hp} {nl nf np : Nat} (hw : WF h nl nf np) (c : CS) (hK : KC nl nf np c) : wp X 44 0 [some (vR (some (0, 0))), none, none, none] [] (pX h c) (fun r h' => r = none ∧ h' = pX h (llC nl np (dI (c 0 0 5) (c 0 0 9)) (c 0 0 5) c)) := by
  have loop : ∀ d v c (x y : Option Vl), dI v (c 0 0 9) = d → KC nl nf np c → wp X 44 5 [some (vR (some (0, 0))), some (vI v), x, y] [] (pX h c) (fun r h' => r = none ∧ h' = pX h (llC nl np d v c)) := by
    intro d
    induction d with
    | zero =>
      intro v c x y hd hK
      rw [llC]
      refine w_pu rfl rfl ?_
      refine w_pu rfl rfl ?_
      refine x_g hw rfl rfl rfl (by decide) Nat.one_pos ?_
      refine w_ge rfl (fun c0 => ?_) (fun c0 => ?_)
      · refine w_rt rfl rfl trivial ?_
        exact ⟨rfl, rfl⟩
      · exact absurd (dI_0 hd) c0
    | succ d ih =>
      intro v c x y hd hK
      obtain ⟨d1, d2⟩ := dI_s hd
      have ⟨hnl, hnf, hnp, hst⟩ := hK
      rw [llC]
      cases e : lnO np v with
      | none =>
        refine w_pu rfl rfl ?_
        refine w_pu rfl rfl ?_
        refine x_g hw rfl rfl rfl (by decide) Nat.one_pos ?_
        refine w_ge rfl (fun c0 => ?_) (fun c0 => ?_)
        · exact absurd d1 (Int32.not_lt.mpr c0)
        · refine w_pu rfl rfl ?_
          refine x_gR 4 hw rfl rfl rfl rfl Nat.one_pos ?_
          refine w_cst (v := 2) rfl rfl rfl ?_
          refine x_ai 2 4 hw rfl rfl rfl (by decide) Nat.one_pos (by first | rfl | simp only [ix_lits, nI_mul, nI_add]) (by show 2 < 4; omega) ?_
          refine w_le0 rfl (fun c1 => ?_) (fun c1 => ?_)
          · refine w_rt rfl rfl trivial ?_
            rw [if_neg (Int32.not_lt.mpr c1)]
            exact ⟨rfl, rfl⟩
          · refine w_pu rfl rfl ?_
            refine w_pu rfl rfl ?_
            refine w_cp (vR (lnR 18 (lnO np v))) rfl rfl (by decide) (Nat.le_of_ble_eq_true rfl) rfl (Nat.le_of_ble_eq_true rfl) (Nat.le_of_ble_eq_true rfl) ⟨wl hw Nat.one_pos, rfl⟩ rfl (x5_pieceAt X hw c hnp v) ?_
            refine w_topR none (by rw [e]; rfl) ?_
            refine w_pu rfl rfl ?_
            refine w_pu rfl rfl ?_
            refine w_nuN rfl ?_
            refine w_inc (v := 1) rfl rfl rfl rfl ?_
            refine w_go rfl ?_
            rw [if_pos (Int32.not_le.mp c1)]
            exact ih _ _ _ _ d2 hK
      | some p =>
        obtain ⟨rfl, hp⟩ := lnO_some e
        refine w_pu rfl rfl ?_
        refine w_pu rfl rfl ?_
        refine x_g hw rfl rfl rfl (by decide) Nat.one_pos ?_
        refine w_ge rfl (fun c0 => ?_) (fun c0 => ?_)
        · exact absurd d1 (Int32.not_lt.mpr c0)
        · refine w_pu rfl rfl ?_
          refine x_gR 4 hw rfl rfl rfl rfl Nat.one_pos ?_
          refine w_cst (v := 2) rfl rfl rfl ?_
          refine x_ai 2 4 hw rfl rfl rfl (by decide) Nat.one_pos (by first | rfl | simp only [ix_lits, nI_mul, nI_add]) (by show 2 < 4; omega) ?_
          refine w_le0 rfl (fun c1 => ?_) (fun c1 => ?_)
          · refine w_rt rfl rfl trivial ?_
            rw [if_neg (Int32.not_lt.mpr c1)]
            exact ⟨rfl, rfl⟩
          · refine w_pu rfl rfl ?_
            refine w_pu rfl rfl ?_
            refine w_cp (vR (lnR 18 (lnO np (nI p)))) rfl rfl (by decide) (Nat.le_of_ble_eq_true rfl) rfl (Nat.le_of_ble_eq_true rfl) (Nat.le_of_ble_eq_true rfl) ⟨wl hw Nat.one_pos, rfl⟩ rfl (x5_pieceAt X hw c hnp (nI p)) ?_
            refine w_topR (some (18, p)) (by rw [e]; rfl) ?_
            refine w_pu rfl rfl ?_
            refine w_pu rfl rfl ?_
            refine w_nu rfl ?_
            refine w_pu rfl rfl ?_
            refine x_g hw rfl rfl rfl (by decide) hp ?_
            refine w_cst (v := 2) rfl rfl rfl ?_
            refine w_ne rfl (fun c2 => ?_) (fun c2 => ?_)
            · refine w_inc (v := 1) rfl rfl rfl rfl ?_
              refine w_go rfl ?_
              rw [if_pos (Int32.not_le.mp c1)]
              dsimp only
              rw [if_neg c2]
              exact ih _ _ _ _ d2 hK
            · refine w_pu rfl rfl ?_
              refine w_pu rfl rfl ?_
              refine w_cp (vR (lnR 7 (lfC c p nl))) rfl rfl (by decide) (Nat.le_of_ble_eq_true rfl) rfl (Nat.le_of_ble_eq_true rfl) (Nat.le_of_ble_eq_true rfl) ⟨wl hw Nat.one_pos, rfl⟩ rfl (x5_lineFor X hw c hK p hp) ?_
              rw [if_pos (Int32.not_le.mp c1)]
              dsimp only
              rw [if_pos c2]
              cases hb : lfC c p nl with
              | none =>
                refine w_topR none rfl ?_
                refine w_pu rfl rfl ?_
                refine w_pu rfl rfl ?_
                refine w_nnN rfl ?_
                refine w_rt rfl rfl trivial ?_
                exact ⟨rfl, rfl⟩
              | some l =>
                have hl := lfC_lt c p nl l hb
                refine w_topR (some (7, l)) rfl ?_
                refine w_pu rfl rfl ?_
                refine w_pu rfl rfl ?_
                refine w_nn rfl ?_
                refine w_pu rfl rfl ?_
                refine w_pu rfl rfl ?_
                refine w_pu rfl rfl ?_
                refine w_pu rfl rfl ?_
                refine w_cvE (pX h (x5_layOnF c l (nI p) p)) rfl rfl (by decide) (Nat.le_of_ble_eq_true rfl) rfl (Nat.le_of_ble_eq_true rfl) (Nat.le_of_ble_eq_true rfl) ⟨wl hw Nat.one_pos, rfl⟩ rfl (x5_layOn X hw c l (nI p) p hl hp hst) ?_
                refine w_inc (v := 1) rfl rfl rfl rfl ?_
                refine w_go rfl ?_
                exact ih _ _ _ _ (by rw [x5_layOn_0]; exact d2) (x5_layOn_K hK _ _ _)
  refine w_pu rfl rfl ?_
  refine x_g hw rfl rfl rfl (by decide) Nat.one_pos ?_
  refine w_pu rfl rfl ?_
  exact loop _ _ c _ _ rfl hK
def lwC (nl np : Nat) : Nat → Int32 → CS → CS
  | 0, _, c => c
  | d + 1, v, c => match lnO np v with
      | none => c
      | some p => if x5_creditLeftF c < c 18 p 1 then c else (match lfC c p nl with
          | none => c
          | some l => lwC nl np d (v + 1) (x5_layOnF (uC (uC c 0 0 15 (c 0 0 15 + c 18 p 1)) 0 0 9 (v + 1)) l v p))
theorem x5_layNew (X : Nat × (Nat → Int32)) {h : Hp} {nl nf np : Nat} (hw : WF h nl nf np) (c : CS) (hK : KC nl nf np c) : wp X 45 0 [some (vR (some (0, 0))), none, none, none] [] (pX h c) (fun r h' => r = none ∧ h' = pX h (lwC nl np (dI (c 0 0 9) (nI np)) (c 0 0 9) c)) := by
  have loop : ∀ d v c (x y : Option Vl), dI v (nI np) = d → KC nl nf np c → wp X 45 5 [some (vR (some (0, 0))), some (vI v), x, y] [] (pX h c) (fun r h' => r = none ∧ h' = pX h (lwC nl np d v c)) := by
    intro d
    induction d with
    | zero =>
      intro v c x y hd hK
      have ⟨hnl, hnf, hnp, hst⟩ := hK
      rw [lwC]
      refine w_pu rfl rfl ?_
      refine w_pu rfl rfl ?_
      refine x_g hw rfl rfl rfl (by decide) Nat.one_pos ?_
      refine w_top (nI np) (hnp) ?_
      refine w_ge rfl (fun c0 => ?_) (fun c0 => ?_)
      · refine w_rt rfl rfl trivial ?_
        exact ⟨rfl, rfl⟩
      · exact absurd (dI_0 hd) c0
    | succ d ih =>
      intro v c x y hd hK
      obtain ⟨d1, d2⟩ := dI_s hd
      have ⟨hnl, hnf, hnp, hst⟩ := hK
      rw [lwC]
      cases e : lnO np v with
      | none =>
        refine w_pu rfl rfl ?_
        refine w_pu rfl rfl ?_
        refine x_g hw rfl rfl rfl (by decide) Nat.one_pos ?_
        refine w_top (nI np) (hnp) ?_
        refine w_ge rfl (fun c0 => ?_) (fun c0 => ?_)
        · exact absurd d1 (Int32.not_lt.mpr c0)
        · refine w_pu rfl rfl ?_
          refine w_pu rfl rfl ?_
          refine w_cp (vR (lnR 18 (lnO np v))) rfl rfl (by decide) (Nat.le_of_ble_eq_true rfl) rfl (Nat.le_of_ble_eq_true rfl) (Nat.le_of_ble_eq_true rfl) ⟨wl hw Nat.one_pos, rfl⟩ rfl (x5_pieceAt X hw c hnp v) ?_
          refine w_topR none (by rw [e]; rfl) ?_
          refine w_pu rfl rfl ?_
          refine w_pu rfl rfl ?_
          refine w_nuN rfl ?_
          refine w_rt rfl rfl trivial ?_
          exact ⟨rfl, rfl⟩
      | some p =>
        obtain ⟨rfl, hp⟩ := lnO_some e
        dsimp only
        refine w_pu rfl rfl ?_
        refine w_pu rfl rfl ?_
        refine x_g hw rfl rfl rfl (by decide) Nat.one_pos ?_
        refine w_top (nI np) (hnp) ?_
        refine w_ge rfl (fun c0 => ?_) (fun c0 => ?_)
        · exact absurd d1 (Int32.not_lt.mpr c0)
        · refine w_pu rfl rfl ?_
          refine w_pu rfl rfl ?_
          refine w_cp (vR (lnR 18 (lnO np (nI p)))) rfl rfl (by decide) (Nat.le_of_ble_eq_true rfl) rfl (Nat.le_of_ble_eq_true rfl) (Nat.le_of_ble_eq_true rfl) ⟨wl hw Nat.one_pos, rfl⟩ rfl (x5_pieceAt X hw c hnp (nI p)) ?_
          refine w_topR (some (18, p)) (by rw [e]; rfl) ?_
          refine w_pu rfl rfl ?_
          refine w_pu rfl rfl ?_
          refine w_nu rfl ?_
          refine w_pu rfl rfl ?_
          refine x_g hw rfl rfl rfl (by decide) hp ?_
          refine w_pu rfl rfl ?_
          refine w_cp (vI (x5_creditLeftF c )) rfl rfl (by decide) (Nat.le_of_ble_eq_true rfl) rfl (Nat.le_of_ble_eq_true rfl) (Nat.le_of_ble_eq_true rfl) ⟨wl hw Nat.one_pos, rfl⟩ rfl (x5_creditLeft X hw c   ) ?_
          refine w_le rfl (fun c1 => ?_) (fun c1 => ?_)
          · refine w_pu rfl rfl ?_
            refine w_pu rfl rfl ?_
            refine w_cp (vR (lnR 7 (lfC c p nl))) rfl rfl (by decide) (Nat.le_of_ble_eq_true rfl) rfl (Nat.le_of_ble_eq_true rfl) (Nat.le_of_ble_eq_true rfl) ⟨wl hw Nat.one_pos, rfl⟩ rfl (x5_lineFor X hw c hK p hp) ?_
            rw [if_neg (Int32.not_lt.mpr c1)]
            cases hb : lfC c p nl with
            | none =>
              refine w_topR none rfl ?_
              refine w_pu rfl rfl ?_
              refine w_pu rfl rfl ?_
              refine w_nnN rfl ?_
              refine w_rt rfl rfl trivial ?_
              exact ⟨rfl, rfl⟩
            | some l =>
              have hl := lfC_lt c p nl l hb
              refine w_topR (some (7, l)) rfl ?_
              have hK2 : KC nl nf np (uC (uC c 0 0 15 (c 0 0 15 + c 18 p 1)) 0 0 9 (nI p + 1)) := KC_u (KC_u hK _ _ (by decide) (fun z => absurd z (by decide))) _ _ (by decide) (fun z => absurd z (by decide))
              have hst := hK2.2.2.2
              refine w_pu rfl rfl ?_
              refine w_pu rfl rfl ?_
              refine w_nn rfl ?_
              refine w_pu rfl rfl ?_
              refine w_pu rfl rfl ?_
              refine x_g hw rfl rfl rfl (by decide) Nat.one_pos ?_
              refine w_pu rfl rfl ?_
              refine x_g hw rfl rfl rfl (by decide) hp ?_
              refine w_pu rfl rfl ?_
              refine x_p hw rfl rfl rfl (by decide) Nat.one_pos ?_
              refine w_pu rfl rfl ?_
              refine w_pu rfl rfl ?_
              refine w_cst (v := 1) rfl rfl rfl ?_
              refine w_pu rfl rfl ?_
              refine x_p hw rfl rfl rfl (by decide) Nat.one_pos ?_
              refine w_pu rfl rfl ?_
              refine w_pu rfl rfl ?_
              refine w_pu rfl rfl ?_
              refine w_pu rfl rfl ?_
              refine w_cvE (pX h (x5_layOnF (uC (uC c 0 0 15 ((c 0 0 15) + (c 18 p 1))) 0 0 9 ((nI p) + 1)) l (nI p) p)) rfl rfl (by decide) (Nat.le_of_ble_eq_true rfl) rfl (Nat.le_of_ble_eq_true rfl) (Nat.le_of_ble_eq_true rfl) ⟨wl hw Nat.one_pos, rfl⟩ rfl (x5_layOn X hw (uC (uC c 0 0 15 ((c 0 0 15) + (c 18 p 1))) 0 0 9 ((nI p) + 1)) l (nI p) p hl hp hst) ?_
              refine w_inc (v := 1) rfl rfl rfl rfl ?_
              refine w_go rfl ?_
              exact ih _ _ _ _ d2 (x5_layOn_K hK2 _ _ _)
          · refine w_rt rfl rfl trivial ?_
            rw [if_pos (Int32.not_le.mp c1)]
            exact ⟨rfl, rfl⟩
  refine w_pu rfl rfl ?_
  refine x_g hw rfl rfl rfl (by decide) Nat.one_pos ?_
  refine w_pu rfl rfl ?_
  exact loop _ _ c _ _ rfl hK
theorem llC_K {nl nf np : Nat} : ∀ d v (c : CS), KC nl nf np c → KC nl nf np (llC nl np d v c)
  | 0, _, _, hK => hK
  | d + 1, v, c, hK => by
    rw [llC]
    split
    · split
      · exact llC_K d _ _ hK
      · split
        · split
          · exact hK
          · exact llC_K d _ _ (x5_layOn_K hK _ _ _)
        · exact llC_K d _ _ hK
    · exact hK
theorem lwC_K {nl nf np : Nat} : ∀ d v (c : CS), KC nl nf np c → KC nl nf np (lwC nl np d v c)
  | 0, _, _, hK => hK
  | d + 1, v, c, hK => by
    rw [lwC]
    split
    · exact hK
    · split
      · exact hK
      · split
        · exact hK
        · exact lwC_K d _ _ (x5_layOn_K (KC_u (KC_u hK _ _ (by decide) (fun z => absurd z (by decide))) _ _ (by decide) (fun z => absurd z (by decide))) _ _ _)
def soC : Nat → CS → CS
  | 0, c => c
  | n + 1, c => saC (soC n c) n (soC n c 0 0 16)
theorem soC_K {nl nf np : Nat} {c : CS} (hK : KC nl nf np c) : ∀ n, KC nl nf np (soC n c)
  | 0 => hK
  | n + 1 => by
    rw [soC]
    exact saC_K (soC_K hK n) _ _
theorem x5_sendOnLines (X : Nat × (Nat → Int32)) {h : Hp} {nl nf np : Nat} (hw : WF h nl nf np) (c : CS) (hK : KC nl nf np c) : wp X 49 0 [some (vR (some (0, 0))), none, none] [] (pX h c) (fun r h' => r = none ∧ h' = pX h (soC nl c)) := by
  have h4 := hw.2.2.2.2.2.2.1
  have loop : ∀ d k (x : Option Vl), k + d = nl → wp X 49 2 [some (vR (some (0, 0))), some (vI (nI k)), x] [] (pX h (soC k c)) (fun r h' => r = none ∧ h' = pX h (soC nl c)) := by
    intro d
    induction d with
    | zero =>
      intro k x hk
      have hnl := (soC_K hK k).1
      have ek : k = nl := by omega
      subst ek
      generalize ha : soC k c = a at hnl ⊢
      refine w_pu rfl rfl ?_
      refine w_pu rfl rfl ?_
      refine x_g hw rfl rfl rfl (by decide) Nat.one_pos ?_
      refine w_ge rfl (fun c0 => ?_) (fun c0 => ?_)
      · refine w_rt rfl rfl trivial ?_
        exact ⟨rfl, by rw [← ha]⟩
      · exact absurd (by rw [hnl]; exact nI_le (by omega) (by omega)) c0
    | succ d ih =>
      intro k x hk
      have hK2 := soC_K hK k
      have hnl := hK2.1
      have hkl : k < nl := by omega
      have ih := fun y => ih (k + 1) y (by omega)
      rw [soC] at ih
      generalize ha : soC k c = a at hnl ih hK2 ⊢
      have ⟨_, hnf, hnp, hst⟩ := hK2
      refine w_pu rfl rfl ?_
      refine w_pu rfl rfl ?_
      refine x_g hw rfl rfl rfl (by decide) Nat.one_pos ?_
      refine w_ge rfl (fun c0 => ?_) (fun c0 => ?_)
      · exact absurd (by rw [hnl] at c0; exact c0) (nI_ge (by omega) (by omega))
      · refine w_pu rfl rfl ?_
        refine w_pu rfl rfl ?_
        refine w_cp (vR (lnR 7 (lnO nl (nI k)))) rfl rfl (by decide) (Nat.le_of_ble_eq_true rfl) rfl (Nat.le_of_ble_eq_true rfl) (Nat.le_of_ble_eq_true rfl) ⟨wl hw Nat.one_pos, rfl⟩ rfl (x5_lineAt X hw a hnl (nI k)) ?_
        refine w_topR (some (7, k)) (by rw [lnO_nI (by omega) (by omega)]; rfl) ?_
        refine w_pu rfl rfl ?_
        refine w_pu rfl rfl ?_
        refine w_nu rfl ?_
        refine w_pu rfl rfl ?_
        refine w_pu rfl rfl ?_
        refine x_g hw rfl rfl rfl (by decide) Nat.one_pos ?_
        refine w_cvE (pX h (saC a k (a 0 0 16))) rfl rfl (by decide) (Nat.le_of_ble_eq_true rfl) rfl (Nat.le_of_ble_eq_true rfl) (Nat.le_of_ble_eq_true rfl) ⟨wl hw hkl, rfl⟩ rfl (x1_sendAt X hw a k (a 0 0 16) hkl) ?_
        refine w_i1 rfl rfl rfl ?_
        refine w_go rfl ?_
        exact ih _
  refine w_cst (v := 0) rfl rfl rfl ?_
  refine w_pu rfl rfl ?_
  exact loop nl 0 _ (by omega)
def rlC : Nat → CS → CS
  | 0, c => c
  | n + 1, c => if x1_restsUnheardF (rlC n c) n = 0 then rlC n c else uC (x3_addF (rlC n c) n (-2) 1) 7 n 15 ((x3_addF (rlC n c) n (-2) 1) 7 n 15 + 1)
theorem rlC_K {nl nf np : Nat} {c : CS} (hK : KC nl nf np c) : ∀ n, KC nl nf np (rlC n c)
  | 0 => hK
  | n + 1 => by
    rw [rlC]
    split
    · exact rlC_K hK n
    · exact KC_t (x3_add_K (rlC_K hK n) _ _ _) _ _ _ (by decide)
theorem x5_restLines (X : Nat × (Nat → Int32)) {h : Hp} {nl nf np : Nat} (hw : WF h nl nf np) (c : CS) (hK : KC nl nf np c) : wp X 56 0 [some (vR (some (0, 0))), none, none] [] (pX h c) (fun r h' => r = none ∧ h' = pX h (rlC nl c)) := by
  have h4 := hw.2.2.2.2.2.2.1
  have loop : ∀ d k (x : Option Vl), k + d = nl → wp X 56 2 [some (vR (some (0, 0))), some (vI (nI k)), x] [] (pX h (rlC k c)) (fun r h' => r = none ∧ h' = pX h (rlC nl c)) := by
    intro d
    induction d with
    | zero =>
      intro k x hk
      have hnl := (rlC_K hK k).1
      have ek : k = nl := by omega
      subst ek
      generalize ha : rlC k c = a at hnl ⊢
      refine w_pu rfl rfl ?_
      refine w_pu rfl rfl ?_
      refine x_g hw rfl rfl rfl (by decide) Nat.one_pos ?_
      refine w_ge rfl (fun c0 => ?_) (fun c0 => ?_)
      · refine w_rt rfl rfl trivial ?_
        exact ⟨rfl, by rw [← ha]⟩
      · exact absurd (by rw [hnl]; exact nI_le (by omega) (by omega)) c0
    | succ d ih =>
      intro k x hk
      have hK2 := rlC_K hK k
      have hnl := hK2.1
      have hkl : k < nl := by omega
      have ih := fun y => ih (k + 1) y (by omega)
      rw [rlC] at ih
      generalize ha : rlC k c = a at hnl ih hK2 ⊢
      have ⟨_, hnf, hnp, hst⟩ := hK2
      refine w_pu rfl rfl ?_
      refine w_pu rfl rfl ?_
      refine x_g hw rfl rfl rfl (by decide) Nat.one_pos ?_
      refine w_ge rfl (fun c0 => ?_) (fun c0 => ?_)
      · exact absurd (by rw [hnl] at c0; exact c0) (nI_ge (by omega) (by omega))
      · refine w_pu rfl rfl ?_
        refine w_pu rfl rfl ?_
        refine w_cp (vR (lnR 7 (lnO nl (nI k)))) rfl rfl (by decide) (Nat.le_of_ble_eq_true rfl) rfl (Nat.le_of_ble_eq_true rfl) (Nat.le_of_ble_eq_true rfl) ⟨wl hw Nat.one_pos, rfl⟩ rfl (x5_lineAt X hw a hnl (nI k)) ?_
        refine w_topR (some (7, k)) (by rw [lnO_nI (by omega) (by omega)]; rfl) ?_
        refine w_pu rfl rfl ?_
        refine w_pu rfl rfl ?_
        refine w_nu rfl ?_
        refine w_pu rfl rfl ?_
        refine w_cp (vI (x1_restsUnheardF a k)) rfl rfl (by decide) (Nat.le_of_ble_eq_true rfl) rfl (Nat.le_of_ble_eq_true rfl) (Nat.le_of_ble_eq_true rfl) ⟨wl hw hkl, rfl⟩ rfl (x1_restsUnheard X hw a k hkl ) ?_
        refine w_eq0 rfl (fun c1 => ?_) (fun c1 => ?_)
        · refine w_i1 rfl rfl rfl ?_
          refine w_go rfl ?_
          have ih := ih (some (vR (some (7, k))))
          rw [if_pos c1] at ih
          exact ih
        · refine w_pu rfl rfl ?_
          refine x_gR 10 hw rfl rfl rfl rfl hkl ?_
          refine w_cst (v := (-2)) rfl rfl rfl ?_
          refine w_cst (v := 1) rfl rfl rfl ?_
          refine w_cvE (pX h (x3_addF a k (-2) 1)) rfl rfl (by decide) (Nat.le_of_ble_eq_true rfl) rfl (Nat.le_of_ble_eq_true rfl) (Nat.le_of_ble_eq_true rfl) ⟨wl hw hkl, rfl⟩ rfl (x3_add X hw a k (-2) 1 hkl ) ?_
          refine w_pu rfl rfl ?_
          refine w_pu rfl rfl ?_
          refine x_g hw rfl rfl rfl (by decide) hkl ?_
          refine w_cst (v := 1) rfl rfl rfl ?_
          refine w_pu rfl rfl ?_
          refine x_p hw rfl rfl rfl (by decide) hkl ?_
          refine w_i1 rfl rfl rfl ?_
          refine w_go rfl ?_
          have ih := ih (some (vR (some (7, k))))
          rw [if_neg c1] at ih
          exact ih
  refine w_cst (v := 0) rfl rfl rfl ?_
  refine w_pu rfl rfl ?_
  exact loop nl 0 _ (by omega)
