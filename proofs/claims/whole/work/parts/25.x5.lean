/-! The class's tick, second part. -/
def luC (np l : Nat) : Nat → Int32 → CS → CS
  | 0, _, c => c
  | d + 1, v, c => luC np l d (v + 1) (x5_loseOnF c np l (x1_sentWithF c l v))
theorem luC_K {nl nf np l : Nat} : ∀ d v (c : CS), KC nl nf np c → KC nl nf np (luC np l d v c)
  | 0, _, _, hK => hK
  | d + 1, v, c, hK => by
    rw [luC]
    exact luC_K d _ _ (x5_loseOn_K hK _ _)
theorem x5_loseUpTo (X : Nat × (Nat → Int32)) {h : Hp} {nl nf np : Nat} (hw : WF h nl nf np) (c : CS) (hK : KC nl nf np c) (l : Nat) (n : Int32) (hl : l < nl) : wp X 53 0 [some (vR (some (0, 0))), some (vR (some (7, l))), some (vI n), none] [] (pX h c) (fun r h' => r = none ∧ h' = pX h (luC np l (dI (c 7 l 12) n) (c 7 l 12) c)) := by
  have loop : ∀ d v (c : CS), dI v n = d → KC nl nf np c → wp X 53 5 [some (vR (some (0, 0))), some (vR (some (7, l))), some (vI n), some (vI v)] [] (pX h c) (fun r h' => r = none ∧ h' = pX h (luC np l d v c)) := by
    intro d
    induction d with
    | zero =>
      intro v c hd hK
      rw [luC]
      refine w_pu rfl rfl ?_
      refine w_pu rfl rfl ?_
      refine w_ge rfl (fun c0 => ?_) (fun c0 => ?_)
      · refine w_rt rfl rfl trivial ?_
        exact ⟨rfl, rfl⟩
      · exact absurd (dI_0 hd) c0
    | succ d ih =>
      intro v c hd hK
      obtain ⟨d1, d2⟩ := dI_s hd
      have ⟨hnl, hnf, hnp, hst⟩ := hK
      rw [luC]
      refine w_pu rfl rfl ?_
      refine w_pu rfl rfl ?_
      refine w_ge rfl (fun c0 => ?_) (fun c0 => ?_)
      · exact absurd d1 (Int32.not_lt.mpr c0)
      · refine w_pu rfl rfl ?_
        refine w_pu rfl rfl ?_
        refine w_pu rfl rfl ?_
        refine w_pu rfl rfl ?_
        refine w_cp (vI (x1_sentWithF c l v)) rfl rfl (by decide) (Nat.le_of_ble_eq_true rfl) rfl (Nat.le_of_ble_eq_true rfl) (Nat.le_of_ble_eq_true rfl) ⟨wl hw hl, rfl⟩ rfl (x1_sentWith X hw c l v hl ) ?_
        refine w_cvE (pX h (x5_loseOnF c np l (x1_sentWithF c l v))) rfl rfl (by decide) (Nat.le_of_ble_eq_true rfl) rfl (Nat.le_of_ble_eq_true rfl) (Nat.le_of_ble_eq_true rfl) ⟨wl hw Nat.one_pos, rfl⟩ rfl (x5_loseOn X hw c l (x1_sentWithF c l v) hl hnp hst) ?_
        refine w_inc (v := 1) rfl rfl rfl rfl ?_
        refine w_go rfl ?_
        exact ih _ _ d2 (x5_loseOn_K hK _ _)
  refine w_pu rfl rfl ?_
  refine x_g hw rfl rfl rfl (by decide) hl ?_
  refine w_pu rfl rfl ?_
  exact loop _ _ c rfl hK
def tfS (c : CS) (nf np l : Nat) : CS :=
  if x4_marksOfF c l 0 &&& 1 = 0 then (if x4_marksOfF c l 0 &&& 2 = 0 then x5_arriveF (uC (luC np l (dI ((x4_dropFirstF c l) 7 l 12) (x4_countOfF c l 0)) ((x4_dropFirstF c l) 7 l 12) (x4_dropFirstF c l)) 7 l 12 (x4_countOfF c l 0 + 1)) nf np (x4_numberOfF c l 0)
    else uC (x4_dropFirstF c l) 7 l 16 ((x4_dropFirstF c l) 7 l 16 + 1)) else x4_dropFirstF c l
theorem tfS_K {nl nf np : Nat} {c : CS} (hK : KC nl nf np c) (l : Nat) : KC nl nf np (tfS c nf np l) := by
  unfold tfS
  split
  · split
    · exact x5_arrive_K (KC_t (luC_K _ _ _ (x4_dropFirst_K hK l)) _ _ _ (by decide)) _
    · exact KC_t (x4_dropFirst_K hK l) _ _ _ (by decide)
  · exact x4_dropFirst_K hK l
def tfC (nf np l : Nat) : Nat → CS → CS
  | 0, c => c
  | d + 1, c => if x4_hasComeAtF c l (c 0 0 16) = 0 then c else tfC nf np l d (tfS c nf np l)
theorem tfC_K {nl nf np l : Nat} : ∀ d (c : CS), KC nl nf np c → KC nl nf np (tfC nf np l d c)
  | 0, _, hK => hK
  | d + 1, c, hK => by
    rw [tfC]
    split
    · exact hK
    · exact tfC_K d _ (tfS_K hK l)
/-- the frames' bytes are as long as they say -/
def FC (h : Hp) (nf : Nat) (c : CS) : Prop := ∀ f, f < nf → FrOK h c f
theorem x5_takeFrom (X : Nat × (Nat → Int32)) {h : Hp} {nl nf np : Nat} (hw : WF h nl nf np) (c : CS) (hK : KC nl nf np c) (l : Nat) (hl : l < nl) : wp X 51 0 [some (vR (some (0, 0))), some (vR (some (7, l))), none, none, none, none, none] [] (pX h c) (fun r h' => r = none ∧ h' = pX h (tfC nf np l 200 c)) := by
  have loop : ∀ d k (c : CS) (x4 x5 x6 : Option Vl), k + d = 200 → KC nl nf np c → wp X 51 7 [some (vR (some (0, 0))), some (vR (some (7, l))), some (vR (some (13, l))), some (vI (nI k)), x4, x5, x6] [] (pX h c) (fun r h' => r = none ∧ h' = pX h (tfC nf np l d c)) := by
    intro d
    induction d with
    | zero =>
      intro k c x4 x5 x6 hk hK
      rw [tfC]
      refine w_pu rfl rfl ?_
      refine w_cst (v := 200) rfl rfl rfl ?_
      refine w_ge rfl (fun c0 => ?_) (fun c0 => ?_)
      · refine w_rt rfl rfl trivial ?_
        exact ⟨rfl, rfl⟩
      · exact absurd (nI_le (a := 200) (by omega) (by omega)) c0
    | succ d ih =>
      intro k c x4 x5 x6 hk hK
      have ⟨hnl, hnf, hnp, hst⟩ := hK
      have hK1 := x4_dropFirst_K hK l
      have hK2 : KC nl nf np (uC (luC np l (dI ((x4_dropFirstF c l) 7 l 12) (x4_countOfF c l 0)) ((x4_dropFirstF c l) 7 l 12) (x4_dropFirstF c l)) 7 l 12 (x4_countOfF c l 0 + 1)) := KC_t (luC_K _ _ _ hK1) _ _ _ (by decide)
      have hKS := tfS_K hK l
      rw [tfC]
      refine w_pu rfl rfl ?_
      refine w_cst (v := 200) rfl rfl rfl ?_
      refine w_ge rfl (fun c0 => ?_) (fun c0 => ?_)
      · exact absurd c0 (nI_ge (b := 200) (by omega) (by omega))
      · refine w_pu rfl rfl ?_
        refine w_pu rfl rfl ?_
        refine x_g hw rfl rfl rfl (by decide) Nat.one_pos ?_
        refine w_cp (vI (x4_hasComeAtF c l (c 0 0 16))) rfl rfl (by decide) (Nat.le_of_ble_eq_true rfl) rfl (Nat.le_of_ble_eq_true rfl) (Nat.le_of_ble_eq_true rfl) ⟨wl hw hl, rfl⟩ rfl (x4_hasComeAt X hw c l (c 0 0 16) hl ) ?_
        refine w_eq0 rfl (fun c1 => ?_) (fun c1 => ?_)
        · refine w_rt rfl rfl trivial ?_
          rw [if_pos c1]
          exact ⟨rfl, rfl⟩
        · refine w_pu rfl rfl ?_
          refine w_cst (v := 0) rfl rfl rfl ?_
          refine w_cp (vI (x4_numberOfF c l 0)) rfl rfl (by decide) (Nat.le_of_ble_eq_true rfl) rfl (Nat.le_of_ble_eq_true rfl) (Nat.le_of_ble_eq_true rfl) ⟨wl hw hl, rfl⟩ rfl (x4_numberOf X hw c l 0 hl ) ?_
          refine w_pu rfl rfl ?_
          refine w_pu rfl rfl ?_
          refine w_cst (v := 0) rfl rfl rfl ?_
          refine w_cp (vI (x4_countOfF c l 0)) rfl rfl (by decide) (Nat.le_of_ble_eq_true rfl) rfl (Nat.le_of_ble_eq_true rfl) (Nat.le_of_ble_eq_true rfl) ⟨wl hw hl, rfl⟩ rfl (x4_countOf X hw c l 0 hl ) ?_
          refine w_pu rfl rfl ?_
          refine w_pu rfl rfl ?_
          refine w_cst (v := 0) rfl rfl rfl ?_
          refine w_cp (vI (x4_marksOfF c l 0)) rfl rfl (by decide) (Nat.le_of_ble_eq_true rfl) rfl (Nat.le_of_ble_eq_true rfl) (Nat.le_of_ble_eq_true rfl) ⟨wl hw hl, rfl⟩ rfl (x4_marksOf X hw c l 0 hl ) ?_
          refine w_pu rfl rfl ?_
          refine w_pu rfl rfl ?_
          refine w_cvE (pX h (x4_dropFirstF c l)) rfl rfl (by decide) (Nat.le_of_ble_eq_true rfl) rfl (Nat.le_of_ble_eq_true rfl) (Nat.le_of_ble_eq_true rfl) ⟨wl hw hl, rfl⟩ rfl (x4_dropFirst X hw c l hl ) ?_
          refine w_pu rfl rfl ?_
          refine w_cst (v := 1) rfl rfl rfl ?_
          refine w_pu rfl rfl ?_
          refine w_eq0 rfl (fun c2 => ?_) (fun c2 => ?_)
          · refine w_pu rfl rfl ?_
            refine w_cst (v := 2) rfl rfl rfl ?_
            refine w_pu rfl rfl ?_
            refine w_eq0 rfl (fun c3 => ?_) (fun c3 => ?_)
            · refine w_pu rfl rfl ?_
              refine w_pu rfl rfl ?_
              refine w_pu rfl rfl ?_
              refine w_cvE (pX h (luC np l (dI ((x4_dropFirstF c l) 7 l 12) (x4_countOfF c l 0)) ((x4_dropFirstF c l) 7 l 12) (x4_dropFirstF c l))) rfl rfl (by decide) (Nat.le_of_ble_eq_true rfl) rfl (Nat.le_of_ble_eq_true rfl) (Nat.le_of_ble_eq_true rfl) ⟨wl hw Nat.one_pos, rfl⟩ rfl (x5_loseUpTo X hw (x4_dropFirstF c l) hK1 l (x4_countOfF c l 0) hl) ?_
              refine w_pu rfl rfl ?_
              refine w_pu rfl rfl ?_
              refine w_cst (v := 1) rfl rfl rfl ?_
              refine w_pu rfl rfl ?_
              refine x_p hw rfl rfl rfl (by decide) hl ?_
              refine w_pu rfl rfl ?_
              refine w_pu rfl rfl ?_
              refine w_cvE (pX h (x5_arriveF (uC (luC np l (dI ((x4_dropFirstF c l) 7 l 12) (x4_countOfF c l 0)) ((x4_dropFirstF c l) 7 l 12) (x4_dropFirstF c l)) 7 l 12 (x4_countOfF c l 0 + 1)) nf np (x4_numberOfF c l 0))) rfl rfl (by decide) (Nat.le_of_ble_eq_true rfl) rfl (Nat.le_of_ble_eq_true rfl) (Nat.le_of_ble_eq_true rfl) ⟨wl hw Nat.one_pos, rfl⟩ rfl (x5_arrive X hw (uC (luC np l (dI ((x4_dropFirstF c l) 7 l 12) (x4_countOfF c l 0)) ((x4_dropFirstF c l) 7 l 12) (x4_dropFirstF c l)) 7 l 12 (x4_countOfF c l 0 + 1)) (x4_numberOfF c l 0) hK2.2.2.1 hK2.2.2.2 hK2.2.1) ?_
              refine w_i1 rfl rfl rfl ?_
              refine w_go rfl ?_
              rw [if_neg c1]
              rw [tfS, if_pos c2, if_pos c3] at hKS ⊢
              exact ih (k + 1) _ _ _ _ (by omega) hKS
            · refine w_pu rfl rfl ?_
              refine w_pu rfl rfl ?_
              refine x_g hw rfl rfl rfl (by decide) hl ?_
              refine w_cst (v := 1) rfl rfl rfl ?_
              refine w_pu rfl rfl ?_
              refine x_p hw rfl rfl rfl (by decide) hl ?_
              refine w_go rfl ?_
              refine w_i1 rfl rfl rfl ?_
              refine w_go rfl ?_
              rw [if_neg c1]
              rw [tfS, if_pos c2, if_neg c3] at hKS ⊢
              exact ih (k + 1) _ _ _ _ (by omega) hKS
          · refine w_go rfl ?_
            refine w_i1 rfl rfl rfl ?_
            refine w_go rfl ?_
            rw [if_neg c1]
            rw [tfS, if_neg c2] at hKS ⊢
            exact ih (k + 1) _ _ _ _ (by omega) hKS
  refine w_pu rfl rfl ?_
  refine x_gR 13 hw rfl rfl rfl rfl hl ?_
  refine w_pu rfl rfl ?_
  refine w_cst (v := 0) rfl rfl rfl ?_
  refine w_pu rfl rfl ?_
  exact loop 200 0 c _ _ _ rfl hK
def gvC (nf : Nat) : Nat → Int32 → CS → CS
  | 0, _, c => c
  | d + 1, v, c => match lnO nf v with
      | none => c
      | some f => if c 20 f 4 < c 20 f 3 then c else gvC nf d (v + 1) (uC (uC (uC (uC (uC c 20 f 5 (c 0 0 16)) 0 0 4 (v + 1)) 0 0 5 (c 0 0 5 + c 20 f 3)) 0 0 6 (c 0 0 6 + c 20 f 1)) 0 0 15 (c 0 0 15 - c 20 f 1))
theorem gv_K {nl nf np : Nat} {c : CS} (hK : KC nl nf np c) (f : Nat) (a b d e g : Int32) : KC nl nf np (uC (uC (uC (uC (uC c 20 f 5 a) 0 0 4 b) 0 0 5 d) 0 0 6 e) 0 0 15 g) := KC_u (KC_u (KC_u (KC_u (KC_t hK _ _ _ (by decide)) _ _ (by decide) (fun z => absurd z (by decide))) _ _ (by decide) (fun z => absurd z (by decide))) _ _ (by decide) (fun z => absurd z (by decide))) _ _ (by decide) (fun z => absurd z (by decide))
theorem gvC_K {nl nf np : Nat} : ∀ d v (c : CS), KC nl nf np c → KC nl nf np (gvC nf d v c)
  | 0, _, _, hK => hK
  | d + 1, v, c, hK => by
    rw [gvC]
    split
    · exact hK
    · split
      · exact hK
      · exact gvC_K d _ _ (gv_K hK _ _ _ _ _ _)
theorem x5_giveFrames (X : Nat × (Nat → Int32)) {h : Hp} {nl nf np : Nat} (hw : WF h nl nf np) (c : CS) (hK : KC nl nf np c) : wp X 55 0 [some (vR (some (0, 0))), none, none] [] (pX h c) (fun r h' => r = none ∧ h' = pX h (gvC nf (dI (c 0 0 4) (nI nf)) (c 0 0 4) c)) := by
  have loop : ∀ d v (c : CS) (x : Option Vl), dI v (nI nf) = d → KC nl nf np c → wp X 55 5 [some (vR (some (0, 0))), some (vI v), x] [] (pX h c) (fun r h' => r = none ∧ h' = pX h (gvC nf d v c)) := by
    intro d
    induction d with
    | zero =>
      intro v c x hd hK
      have ⟨hnl, hnf, hnp, hst⟩ := hK
      rw [gvC]
      refine w_pu rfl rfl ?_
      refine w_pu rfl rfl ?_
      refine x_g hw rfl rfl rfl (by decide) Nat.one_pos ?_
      refine w_top (nI nf) (hnf) ?_
      refine w_ge rfl (fun c0 => ?_) (fun c0 => ?_)
      · refine w_rt rfl rfl trivial ?_
        exact ⟨rfl, rfl⟩
      · exact absurd (dI_0 hd) c0
    | succ d ih =>
      intro v c x hd hK
      obtain ⟨d1, d2⟩ := dI_s hd
      have ⟨hnl, hnf, hnp, hst⟩ := hK
      rw [gvC]
      cases e : lnO nf v with
      | none =>
        refine w_pu rfl rfl ?_
        refine w_pu rfl rfl ?_
        refine x_g hw rfl rfl rfl (by decide) Nat.one_pos ?_
        refine w_top (nI nf) (hnf) ?_
        refine w_ge rfl (fun c0 => ?_) (fun c0 => ?_)
        · exact absurd d1 (Int32.not_lt.mpr c0)
        · refine w_pu rfl rfl ?_
          refine w_pu rfl rfl ?_
          refine w_cp (vR (lnR 20 (lnO nf v))) rfl rfl (by decide) (Nat.le_of_ble_eq_true rfl) rfl (Nat.le_of_ble_eq_true rfl) (Nat.le_of_ble_eq_true rfl) ⟨wl hw Nat.one_pos, rfl⟩ rfl (x5_frameAt X hw c hnf v) ?_
          refine w_topR none (by rw [e]; rfl) ?_
          refine w_pu rfl rfl ?_
          refine w_pu rfl rfl ?_
          refine w_nuN rfl ?_
          refine w_rt rfl rfl trivial ?_
          exact ⟨rfl, rfl⟩
      | some f =>
        obtain ⟨rfl, hf⟩ := lnO_some e
        dsimp only
        refine w_pu rfl rfl ?_
        refine w_pu rfl rfl ?_
        refine x_g hw rfl rfl rfl (by decide) Nat.one_pos ?_
        refine w_top (nI nf) (hnf) ?_
        refine w_ge rfl (fun c0 => ?_) (fun c0 => ?_)
        · exact absurd d1 (Int32.not_lt.mpr c0)
        · refine w_pu rfl rfl ?_
          refine w_pu rfl rfl ?_
          refine w_cp (vR (lnR 20 (lnO nf (nI f)))) rfl rfl (by decide) (Nat.le_of_ble_eq_true rfl) rfl (Nat.le_of_ble_eq_true rfl) (Nat.le_of_ble_eq_true rfl) ⟨wl hw Nat.one_pos, rfl⟩ rfl (x5_frameAt X hw c hnf (nI f)) ?_
          refine w_topR (some (20, f)) (by rw [e]; rfl) ?_
          refine w_pu rfl rfl ?_
          refine w_pu rfl rfl ?_
          refine w_nu rfl ?_
          refine w_pu rfl rfl ?_
          refine x_g hw rfl rfl rfl (by decide) hf ?_
          refine w_pu rfl rfl ?_
          refine x_g hw rfl rfl rfl (by decide) hf ?_
          refine w_ge rfl (fun c1 => ?_) (fun c1 => ?_)
          · refine w_pu rfl rfl ?_
            refine w_pu rfl rfl ?_
            refine x_g hw rfl rfl rfl (by decide) Nat.one_pos ?_
            refine x_p hw rfl rfl rfl (by decide) hf ?_
            refine w_pu rfl rfl ?_
            refine w_pu rfl rfl ?_
            refine w_cst (v := 1) rfl rfl rfl ?_
            refine w_pu rfl rfl ?_
            refine x_p hw rfl rfl rfl (by decide) Nat.one_pos ?_
            refine w_pu rfl rfl ?_
            refine w_pu rfl rfl ?_
            refine x_g hw rfl rfl rfl (by decide) Nat.one_pos ?_
            refine w_top (c 0 0 5) (by rw [uC_k _ _ _ _ _ _ (by decide), uC_t _ _ _ _ _ _ (by decide)]) ?_
            refine w_pu rfl rfl ?_
            refine x_g hw rfl rfl rfl (by decide) hf ?_
            refine w_top (c 20 f 3) (by rw [uC_t _ _ _ _ _ _ (by decide), uC_k _ _ _ _ _ _ (by decide)]) ?_
            refine w_pu rfl rfl ?_
            refine x_p hw rfl rfl rfl (by decide) Nat.one_pos ?_
            refine w_pu rfl rfl ?_
            refine w_pu rfl rfl ?_
            refine x_g hw rfl rfl rfl (by decide) Nat.one_pos ?_
            refine w_top (c 0 0 6) (by rw [uC_k _ _ _ _ _ _ (by decide), uC_k _ _ _ _ _ _ (by decide), uC_t _ _ _ _ _ _ (by decide)]) ?_
            refine w_pu rfl rfl ?_
            refine x_g hw rfl rfl rfl (by decide) hf ?_
            refine w_top (c 20 f 1) (by rw [uC_t _ _ _ _ _ _ (by decide), uC_t _ _ _ _ _ _ (by decide), uC_k _ _ _ _ _ _ (by decide)]) ?_
            refine w_pu rfl rfl ?_
            refine x_p hw rfl rfl rfl (by decide) Nat.one_pos ?_
            refine w_pu rfl rfl ?_
            refine w_pu rfl rfl ?_
            refine x_g hw rfl rfl rfl (by decide) Nat.one_pos ?_
            refine w_top (c 0 0 15) (by rw [uC_k _ _ _ _ _ _ (by decide), uC_k _ _ _ _ _ _ (by decide), uC_k _ _ _ _ _ _ (by decide), uC_t _ _ _ _ _ _ (by decide)]) ?_
            refine w_pu rfl rfl ?_
            refine x_g hw rfl rfl rfl (by decide) hf ?_
            refine w_top (c 20 f 1) (by rw [uC_t _ _ _ _ _ _ (by decide), uC_t _ _ _ _ _ _ (by decide), uC_t _ _ _ _ _ _ (by decide), uC_k _ _ _ _ _ _ (by decide)]) ?_
            refine w_pu rfl rfl ?_
            refine x_p hw rfl rfl rfl (by decide) Nat.one_pos ?_
            refine w_inc (v := 1) rfl rfl rfl rfl ?_
            refine w_go rfl ?_
            rw [if_neg (Int32.not_lt.mpr c1)]
            exact ih _ _ _ d2 (gv_K hK _ _ _ _ _ _)
          · refine w_rt rfl rfl trivial ?_
            rw [if_pos (Int32.not_le.mp c1)]
            exact ⟨rfl, rfl⟩
  refine w_pu rfl rfl ?_
  refine x_g hw rfl rfl rfl (by decide) Nat.one_pos ?_
  refine w_pu rfl rfl ?_
  exact loop _ _ c _ rfl hK
def twC (nf np : Nat) : Nat → CS → CS
  | 0, c => c
  | n + 1, c => tfC nf np n 200 (twC nf np n c)
theorem twC_K {nl nf np : Nat} {c : CS} (hK : KC nl nf np c) : ∀ n, KC nl nf np (twC nf np n c)
  | 0 => hK
  | n + 1 => by
    rw [twC]
    exact tfC_K _ _ (twC_K hK n)
def gwC (nl nf np : Nat) (c : CS) : CS := gvC nf (dI (twC nf np nl c 0 0 4) (nI nf)) (twC nf np nl c 0 0 4) (twC nf np nl c)
theorem x5_takeWhatComes (X : Nat × (Nat → Int32)) {h : Hp} {nl nf np : Nat} (hw : WF h nl nf np) (c : CS) (hK : KC nl nf np c) : wp X 50 0 [some (vR (some (0, 0))), none, none] [] (pX h c) (fun r h' => r = none ∧ h' = pX h (gwC nl nf np c)) := by
  have h4 := hw.2.2.2.2.2.2.1
  have loop : ∀ d k (x : Option Vl), k + d = nl → wp X 50 2 [some (vR (some (0, 0))), some (vI (nI k)), x] [] (pX h (twC nf np k c)) (fun r h' => r = none ∧ h' = pX h (gwC nl nf np c)) := by
    intro d
    induction d with
    | zero =>
      intro k x hk
      have hnl := (twC_K hK k).1
      have ek : k = nl := by omega
      subst ek
      generalize ha : twC nf np k c = a at hnl ⊢
      refine w_pu rfl rfl ?_
      refine w_pu rfl rfl ?_
      refine x_g hw rfl rfl rfl (by decide) Nat.one_pos ?_
      refine w_ge rfl (fun c0 => ?_) (fun c0 => ?_)
      · refine w_pu rfl rfl ?_
        refine w_cvE (pX h (gvC nf (dI (a 0 0 4) (nI nf)) (a 0 0 4) a)) rfl rfl (by decide) (Nat.le_of_ble_eq_true rfl) rfl (Nat.le_of_ble_eq_true rfl) (Nat.le_of_ble_eq_true rfl) ⟨wl hw Nat.one_pos, rfl⟩ rfl (x5_giveFrames X hw a (by rw [← ha]; exact twC_K hK _)) ?_
        refine w_rt rfl rfl trivial ?_
        exact ⟨rfl, by rw [gwC, ← ha]⟩
      · exact absurd (by rw [hnl]; exact nI_le (by omega) (by omega)) c0
    | succ d ih =>
      intro k x hk
      have hK2 := twC_K hK k
      have hnl := hK2.1
      have hkl : k < nl := by omega
      have ih := fun y => ih (k + 1) y (by omega)
      rw [twC] at ih
      generalize ha : twC nf np k c = a at hnl ih hK2 ⊢
      have ⟨_, hnf, hnp, hst⟩ := hK2
      refine w_pu rfl rfl ?_
      refine w_pu rfl rfl ?_
      refine x_g hw rfl rfl rfl (by decide) Nat.one_pos ?_
      refine w_ge rfl (fun c0 => ?_) (fun c0 => ?_)
      · exact absurd (by rw [hnl] at c0; exact c0) (nI_ge (by omega) (by omega))
      · refine w_pu rfl rfl ?_
        refine w_pu rfl rfl ?_
        refine w_cp (vR (lnR 7 (lnO nl (nI k)))) rfl rfl (by decide) (Nat.le_of_ble_eq_true rfl) rfl (Nat.le_of_ble_eq_true rfl) (Nat.le_of_ble_eq_true rfl) ⟨wl hw Nat.one_pos, rfl⟩ rfl (x5_lineAt X hw a hnl (nI k)) ?_
        refine w_topR (some (7, k)) (by rw [lnO_nI (by omega) (by omega)]; rfl) ?_
        refine w_pu rfl rfl ?_
        refine w_pu rfl rfl ?_
        refine w_nu rfl ?_
        refine w_pu rfl rfl ?_
        refine w_pu rfl rfl ?_
        refine w_cvE (pX h (tfC nf np k 200 a)) rfl rfl (by decide) (Nat.le_of_ble_eq_true rfl) rfl (Nat.le_of_ble_eq_true rfl) (Nat.le_of_ble_eq_true rfl) ⟨wl hw Nat.one_pos, rfl⟩ rfl (x5_takeFrom X hw a hK2 k hkl) ?_
        refine w_i1 rfl rfl rfl ?_
        refine w_go rfl ?_
        exact ih _
  refine w_cst (v := 0) rfl rfl rfl ?_
  refine w_pu rfl rfl ?_
  exact loop nl 0 _ (by omega)
def stC (nl nf np : Nat) (c : CS) : CS :=
  let c1 := uC c 0 0 16 (c 0 0 16 + 1)
  let c2 := llC nl np (dI (c1 0 0 5) (c1 0 0 9)) (c1 0 0 5) c1
  let c3 := lwC nl np (dI (c2 0 0 9) (nI np)) (c2 0 0 9) c2
  rlC nl (gwC nl nf np (soC nl c3))
def tkC (nl nf np : Nat) : Nat → CS → CS
  | 0, c => c
  | n + 1, c => stC nl nf np (tkC nl nf np n c)
theorem gwC_K {nl nf np : Nat} {c : CS} (hK : KC nl nf np c) : KC nl nf np (gwC nl nf np c) := gvC_K _ _ _ (twC_K hK nl)
theorem stC_K {nl nf np : Nat} {c : CS} (hK : KC nl nf np c) : KC nl nf np (stC nl nf np c) :=
  rlC_K (gwC_K (soC_K (lwC_K _ _ _ (llC_K _ _ _ (KC_u hK _ _ (by decide) (fun z => absurd z (by decide))))) nl)) nl
theorem tkC_K {nl nf np : Nat} {c : CS} (hK : KC nl nf np c) : ∀ n, KC nl nf np (tkC nl nf np n c)
  | 0 => hK
  | n + 1 => by
    rw [tkC]
    exact stC_K (tkC_K hK n)
def x5_tickF (nl nf np : Nat) (c : CS) (n : Int32) : Int32 × CS := if 1 ≤ n then (if n ≤ 100 then (if c 0 0 16 + n ≤ 20000 then (tkC nl nf np (nat n) c 0 0 4 - c 0 0 4, tkC nl nf np (nat n) c) else (-6, refX c 6)) else (-6, refX c 6)) else (-4, refX c 4)
theorem x5_tick (X : Nat × (Nat → Int32)) {h : Hp} {nl nf np : Nat} (hw : WF h nl nf np) (c : CS) (hK : KC nl nf np c) (n : Int32) : wp X 43 0 [some (vR (some (0, 0))), some (vI n), none, none] [] (pX h c) (fun r h' => r = some (vI (x5_tickF nl nf np c n).1) ∧ h' = pX h (x5_tickF nl nf np c n).2) := by
  have loop : ∀ m d k, n = nI m → m ≤ 100 → k + d = m → wp X 43 44 [some (vR (some (0, 0))), some (vI n), some (vI (c 0 0 4)), some (vI (nI k))] [] (pX h (tkC nl nf np k c)) (fun r h' => r = some (vI (tkC nl nf np m c 0 0 4 - c 0 0 4)) ∧ h' = pX h (tkC nl nf np m c)) := by
    intro m d
    induction d with
    | zero =>
      intro k hn hm hk
      have ek : k = m := by omega
      subst ek
      refine w_pu rfl rfl ?_
      refine w_pu rfl rfl ?_
      refine w_ge rfl (fun c0 => ?_) (fun c0 => ?_)
      · refine w_pu rfl rfl ?_
        refine x_g hw rfl rfl rfl (by decide) Nat.one_pos ?_
        refine w_pu rfl rfl ?_
        refine w_pu rfl rfl ?_
        refine w_rt rfl rfl trivial ?_
        exact ⟨rfl, rfl⟩
      · exact absurd (by rw [hn]; exact nI_le (by omega) (by omega)) c0
    | succ d ih =>
      intro k hn hm hk
      have hK2 := tkC_K hK k
      have ih := ih (k + 1) hn hm (by omega)
      rw [tkC] at ih
      generalize ha : tkC nl nf np k c = a at hK2 ih ⊢
      have hK3 : KC nl nf np (uC a 0 0 16 (a 0 0 16 + 1)) := KC_u hK2 _ _ (by decide) (fun z => absurd z (by decide))
      generalize h1 : uC a 0 0 16 (a 0 0 16 + 1) = c1 at hK3
      have hK4 : KC nl nf np (llC nl np (dI (c1 0 0 5) (c1 0 0 9)) (c1 0 0 5) c1) := llC_K _ _ _ hK3
      generalize h2 : llC nl np (dI (c1 0 0 5) (c1 0 0 9)) (c1 0 0 5) c1 = c2 at hK4
      have hK5 : KC nl nf np (lwC nl np (dI (c2 0 0 9) (nI np)) (c2 0 0 9) c2) := lwC_K _ _ _ hK4
      generalize h3 : lwC nl np (dI (c2 0 0 9) (nI np)) (c2 0 0 9) c2 = c3 at hK5
      have hK6 : KC nl nf np (soC nl c3) := soC_K hK5 nl
      have hK7 : KC nl nf np (gwC nl nf np (soC nl c3)) := gwC_K hK6
      have es : stC nl nf np a = rlC nl (gwC nl nf np (soC nl c3)) := by
        rw [← h3, ← h2, ← h1, stC]
      rw [es] at ih
      refine w_pu rfl rfl ?_
      refine w_pu rfl rfl ?_
      refine w_ge rfl (fun c0 => ?_) (fun c0 => ?_)
      · exact absurd (by rw [hn] at c0; exact c0) (nI_ge (by omega) (by omega))
      · refine w_pu rfl rfl ?_
        refine w_pu rfl rfl ?_
        refine x_g hw rfl rfl rfl (by decide) Nat.one_pos ?_
        refine w_cst (v := 1) rfl rfl rfl ?_
        refine w_pu rfl rfl ?_
        refine x_p hw rfl rfl rfl (by decide) Nat.one_pos ?_
        refine w_hp (pX h c1) (by rw [h1]) ?_
        refine w_pu rfl rfl ?_
        refine w_cvE (pX h c2) rfl rfl (by decide) (Nat.le_of_ble_eq_true rfl) rfl (Nat.le_of_ble_eq_true rfl) (Nat.le_of_ble_eq_true rfl) ⟨wl hw Nat.one_pos, rfl⟩ rfl ((by rw [← h2]; exact x5_layLost X hw c1 hK3)) ?_
        refine w_pu rfl rfl ?_
        refine w_cvE (pX h c3) rfl rfl (by decide) (Nat.le_of_ble_eq_true rfl) rfl (Nat.le_of_ble_eq_true rfl) (Nat.le_of_ble_eq_true rfl) ⟨wl hw Nat.one_pos, rfl⟩ rfl ((by rw [← h3]; exact x5_layNew X hw c2 hK4)) ?_
        refine w_pu rfl rfl ?_
        refine w_cvE (pX h (soC nl c3)) rfl rfl (by decide) (Nat.le_of_ble_eq_true rfl) rfl (Nat.le_of_ble_eq_true rfl) (Nat.le_of_ble_eq_true rfl) ⟨wl hw Nat.one_pos, rfl⟩ rfl (x5_sendOnLines X hw c3 hK5) ?_
        refine w_pu rfl rfl ?_
        refine w_cvE (pX h (gwC nl nf np (soC nl c3))) rfl rfl (by decide) (Nat.le_of_ble_eq_true rfl) rfl (Nat.le_of_ble_eq_true rfl) (Nat.le_of_ble_eq_true rfl) ⟨wl hw Nat.one_pos, rfl⟩ rfl (x5_takeWhatComes X hw (soC nl c3) hK6) ?_
        refine w_pu rfl rfl ?_
        refine w_cvE (pX h (rlC nl (gwC nl nf np (soC nl c3)))) rfl rfl (by decide) (Nat.le_of_ble_eq_true rfl) rfl (Nat.le_of_ble_eq_true rfl) (Nat.le_of_ble_eq_true rfl) ⟨wl hw Nat.one_pos, rfl⟩ rfl (x5_restLines X hw (gwC nl nf np (soC nl c3)) hK7) ?_
        refine w_i1 rfl rfl rfl ?_
        refine w_go rfl ?_
        exact ih
  refine w_pu rfl rfl ?_
  refine w_cst (v := 1) rfl rfl rfl ?_
  refine w_ge rfl (fun c0 => ?_) (fun c0 => ?_)
  · refine w_pu rfl rfl ?_
    refine w_cst (v := 100) rfl rfl rfl ?_
    refine w_gt rfl (fun c1 => ?_) (fun c1 => ?_)
    · refine w_pu rfl rfl ?_
      refine w_cst (v := (-6)) rfl rfl rfl ?_
      refine w_cgE (vI (-6)) (pX h (refX c 6)) rfl rfl (by decide) (Nat.le_of_ble_eq_true rfl) rfl (Nat.le_of_ble_eq_true rfl) (Nat.le_of_ble_eq_true rfl) ⟨wl hw Nat.one_pos, rfl⟩ rfl (x5_refuse_6 X hw c) ?_
      refine w_rt rfl rfl trivial ?_
      exact ⟨by rw [x5_tickF, if_pos c0, if_neg (Int32.not_le.mpr c1)], by rw [x5_tickF, if_pos c0, if_neg (Int32.not_le.mpr c1)]⟩
    · refine w_pu rfl rfl ?_
      refine x_g hw rfl rfl rfl (by decide) Nat.one_pos ?_
      refine w_pu rfl rfl ?_
      refine w_pu rfl rfl ?_
      refine w_cst (v := 20000) rfl rfl rfl ?_
      refine w_le rfl (fun c2 => ?_) (fun c2 => ?_)
      · refine w_pu rfl rfl ?_
        refine x_g hw rfl rfl rfl (by decide) Nat.one_pos ?_
        refine w_pu rfl rfl ?_
        refine w_cst (v := 0) rfl rfl rfl ?_
        refine w_pu rfl rfl ?_
        obtain ⟨m, hm, rfl⟩ := i32_pos (Int32.le_trans (by decide) c0)
        have hm2 : m ≤ 100 := (nI_leI hm (by omega)).mp (Int32.not_lt.mp c1)
        rw [x5_tickF, if_pos c0, if_pos (Int32.not_lt.mp c1), if_pos c2, nat_nI hm]
        exact loop m m 0 rfl hm2 (by omega)
      · refine w_pu rfl rfl ?_
        refine w_cst (v := (-6)) rfl rfl rfl ?_
        refine w_cgE (vI (-6)) (pX h (refX c 6)) rfl rfl (by decide) (Nat.le_of_ble_eq_true rfl) rfl (Nat.le_of_ble_eq_true rfl) (Nat.le_of_ble_eq_true rfl) ⟨wl hw Nat.one_pos, rfl⟩ rfl (x5_refuse_6 X hw c) ?_
        refine w_rt rfl rfl trivial ?_
        exact ⟨by rw [x5_tickF, if_pos c0, if_pos (Int32.not_lt.mp c1), if_neg c2], by rw [x5_tickF, if_pos c0, if_pos (Int32.not_lt.mp c1), if_neg c2]⟩
  · refine w_pu rfl rfl ?_
    refine w_cst (v := (-4)) rfl rfl rfl ?_
    refine w_cgE (vI (-4)) (pX h (refX c 4)) rfl rfl (by decide) (Nat.le_of_ble_eq_true rfl) rfl (Nat.le_of_ble_eq_true rfl) (Nat.le_of_ble_eq_true rfl) ⟨wl hw Nat.one_pos, rfl⟩ rfl (x5_refuse_4 X hw c) ?_
    refine w_rt rfl rfl trivial ?_
    exact ⟨by rw [x5_tickF, if_neg c0], by rw [x5_tickF, if_neg c0]⟩
