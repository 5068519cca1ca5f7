/-! The class's frame. -/
def frR (c : CS) (n : Int32) : Int32 := if c 0 0 12 = 0 then -3 else if (300 ≤ c 0 0 3 ∨ 3000 < c 0 0 8 + n) ∨ 100 ≤ c 0 0 3 - c 0 0 4 then -6 else 0
/-- the heap and the numbers when the frame f stands, its pieces not yet -/
def frH0 (h : Hp) (f t : Nat) : Hp := setR (FH (newC (newC h 20 0 6) 21 t t) f) (2, 0) f (some (20, f))
def FRH (h : Hp) (f p n t : Nat) : Hp := PHf n p (frH0 h f t)
def FRC (c2 : CS) (f p n t : Nat) : CS := uC (uC (PCf f n p 0 (FCc c2 f t (nI p) (nI n))) 0 0 3 (nI f + 1)) 0 0 12 0
theorem PCf_o (f : Nat) {t i' j : Nat} : ∀ d p k (c : CS), (¬ t = 0 ∧ ¬ t = 4 ∧ ¬ (p ≤ i' ∧ 18 ≤ t ∧ t ≤ 19)) → PCf f d p k c t i' j = c t i' j
  | 0, _, _, _, _ => rfl
  | d + 1, p, k, c, q => by
    rw [PCf, PCf_o f d (p + 1) (k + 1) _ ⟨q.1, q.2.1, fun z => q.2.2 ⟨by omega, z.2⟩⟩]
    exact pcC_o _ _ _ _ ⟨q.1, q.2.1, fun z => q.2.2 ⟨by omega, z.2⟩⟩
theorem PCf_0 (f : Nat) {i' j : Nat} (hj : ¬ j = 8) : ∀ d p k (c : CS), PCf f d p k c 0 i' j = c 0 i' j
  | 0, _, _, _ => rfl
  | d + 1, p, k, c => by
    rw [PCf, PCf_0 f hj d (p + 1) (k + 1) _]
    exact pcC_0 _ _ _ _ hj
theorem PHf_0 : ∀ d p (h : Hp), hpC (PHf d p h) 0 = hpC h 0
  | 0, _, _ => rfl
  | d + 1, p, h => by
    rw [PHf, PHf_0 d, psH, PH]
    simp (config := {decide := true}) only [hC_R, hC_new, reduceIte]
theorem x5_frame (X : Nat × (Nat → Int32)) {h : Hp} {nl nf np : Nat} (hw : WF h nl nf np) (c : CS) (hnf : c 0 0 3 = nI nf) (hnp : c 0 0 8 = nI np) (t q n : Nat) (ht : c 0 0 12 = nI t) (ht2 : t ≤ 4000) (hc : c 0 0 13 = nI q) (hc1 : 1 ≤ q) (hc2 : q ≤ 250) (hn : (t + q - 1) / q = n) (hn2 : n ≤ 4000) : wp X 39 0 [some (vR (some (0, 0))), none, none, none, none] [] (pX h c) (fun r h' =>
    (frR c (nI n) = -3 ∧ r = some (vI (-3)) ∧ h' = pX h (refX c 3)) ∨ (frR c (nI n) = -6 ∧ r = some (vI (-6)) ∧ h' = pX h (refX c 6)) ∨
    (frR c (nI n) = 0 ∧ r = some (vI (nI nf)) ∧ nf < 300 ∧ np + n ≤ 3000 ∧ ∃ c2, Eo 21 21 nf (zC c 20 nf) c2 ∧ (∀ k, k < t → c2 21 nf k = c 5 0 k) ∧ h' = pX (FRH h nf np n t) (FRC c2 nf np n t))) := by
  have h5 := hw.2.2.2.2.2.2.2.1
  have h3 := hw.2.2.2.2.2.2.2.2
  have po : x5_piecesOfF c (c 0 0 12) = nI n := by
    rw [x5_piecesOfF, if_pos (by rw [hc]; exact nI_le (a := 1) hc1 (by omega)), ht, hc, nI_add, show nI (t + q) - 1 = nI (t + q - 1) from nI_sub (b := 1) (by omega), pk_div (by omega) (by omega) (by omega), hn]
  have g0 : hpC h 0 = 1 := hw.1 0
  have g2 : hpC h 2 = 1 := hw.1 2
  have g3 : hpC h 3 = 1 := hw.1 3
  have g4 : hpC h 4 = 1 := hw.1 4
  have g5 : hpC h 5 = 1 := hw.1 5
  have g18 : hpC h 18 = np := hw.1 18
  have g19 : hpC h 19 = np := hw.1 19
  have g20 : hpC h 20 = nf := hw.1 20
  have g21 : hpC h 21 = nf := hw.1 21
  have gl2 : hpL h (2, 0) = 300 := wn (t := 2) (i := 0) hw Nat.one_pos (by decide)
  have gl3 : hpL h (3, 0) = 3000 := wn (t := 3) (i := 0) hw Nat.one_pos (by decide)
  have gl4 : hpL h (4, 0) = 4 := wn (t := 4) (i := 0) hw Nat.one_pos (by decide)
  have gl5 : hpL h (5, 0) = 4000 := wn (t := 5) (i := 0) hw Nat.one_pos (by decide)
  have gr2 : hpR h (0, 0) 2 = some (2, 0) := wr (t := 0) (i := 0) hw Nat.one_pos rfl
  have gr7 : hpR h (0, 0) 7 = some (3, 0) := wr (t := 0) (i := 0) hw Nat.one_pos rfl
  have gr10 : hpR h (0, 0) 10 = some (4, 0) := wr (t := 0) (i := 0) hw Nat.one_pos rfl
  have gr11 : hpR h (0, 0) 11 = some (5, 0) := wr (t := 0) (i := 0) hw Nat.one_pos rfl
  refine w_pu rfl rfl ?_
  refine x_g hw rfl rfl rfl (by decide) Nat.one_pos ?_
  refine w_pu rfl rfl ?_
  refine w_pu rfl rfl ?_
  refine w_cst (v := 1) rfl rfl rfl ?_
  refine w_ge rfl (fun c0 => ?_) (fun c0 => ?_)
  · have d0 := one_T c0
    refine w_pu rfl rfl ?_
    refine w_pu rfl rfl ?_
    refine w_cp (vI (x5_piecesOfF c (c 0 0 12))) rfl rfl (by decide) (Nat.le_of_ble_eq_true rfl) rfl (Nat.le_of_ble_eq_true rfl) (Nat.le_of_ble_eq_true rfl) ⟨wl hw Nat.one_pos, rfl⟩ rfl (x5_piecesOf X hw c (c 0 0 12)) ?_
    refine w_top (nI n) po ?_
    refine w_pu rfl rfl ?_
    refine w_pu rfl rfl ?_
    refine x_g hw rfl rfl rfl (by decide) Nat.one_pos ?_
    refine w_cst (v := 300) rfl rfl rfl ?_
    refine w_ge rfl (fun c1 => ?_) (fun c1 => ?_)
    · refine w_cst (v := 1) rfl rfl rfl ?_
      refine w_go rfl ?_
      refine w_pu rfl rfl ?_
      refine w_pu rfl rfl ?_
      refine w_ne0 rfl (fun c2 => ?_) (fun c2 => ?_)
      · refine w_pu rfl rfl ?_
        refine w_cst (v := (-6)) rfl rfl rfl ?_
        refine w_cgE (vI (-6)) (pX h (refX c 6)) rfl rfl (by decide) (Nat.le_of_ble_eq_true rfl) rfl (Nat.le_of_ble_eq_true rfl) (Nat.le_of_ble_eq_true rfl) ⟨wl hw Nat.one_pos, rfl⟩ rfl (x5_refuse_6 X hw c) ?_
        refine w_rt rfl rfl trivial ?_
        exact Or.inr (Or.inl ⟨by rw [frR, if_neg d0, if_pos (Or.inl (Or.inl c1))], rfl, rfl⟩)
      · exact absurd c2 (by decide)
    · refine w_pu rfl rfl ?_
      refine x_g hw rfl rfl rfl (by decide) Nat.one_pos ?_
      refine w_pu rfl rfl ?_
      refine w_pu rfl rfl ?_
      refine w_cst (v := 3000) rfl rfl rfl ?_
      refine w_le rfl (fun c3 => ?_) (fun c3 => ?_)
      · refine w_cst (v := 0) rfl rfl rfl ?_
        refine w_pu rfl rfl ?_
        refine w_pu rfl rfl ?_
        refine w_ne0 rfl (fun c4 => ?_) (fun c4 => ?_)
        · exact absurd c4 (by decide)
        · refine w_pu rfl rfl ?_
          refine x_g hw rfl rfl rfl (by decide) Nat.one_pos ?_
          refine w_pu rfl rfl ?_
          refine x_g hw rfl rfl rfl (by decide) Nat.one_pos ?_
          refine w_pu rfl rfl ?_
          refine w_cst (v := 100) rfl rfl rfl ?_
          refine w_lt rfl (fun c5 => ?_) (fun c5 => ?_)
          · have hf3 : nf < 300 := by
              have := Int32.not_le.mp c1
              rw [hnf] at this
              rcases Nat.lt_or_ge nf 300 with z | z
              · exact z
              · exact absurd (nI_le (a := 300) z (by omega)) (Int32.not_le.mpr this)
            have hpn : np + n ≤ 3000 := by
              have := c3
              rw [hnp, nI_add] at this
              exact (nI_leI (b := 3000) (by omega) (by omega)).mp this
            have hR : frR c (nI n) = 0 := by
              rw [frR, if_neg d0, if_neg]
              rintro ((z | z) | z)
              · exact c1 z
              · exact Int32.not_lt.mpr c3 z
              · exact Int32.not_lt.mpr z c5
            refine y_new 20 nf 6 rfl (by decide) g20 rfl ?_
            refine w_pu rfl rfl ?_
            refine w_pu rfl rfl ?_
            refine y_gR 5 rfl rfl rfl rfl (by simp (config := {decide := true}) only [hC_R, hC_pX, hL_pX, hC_new, hL_R, hL_new, hR_R, hR_new, Prod.mk.injEq, reduceIte, and_true, true_and, and_false, false_and, FH, g0, g2, g3, g4, g5, g18, g19, g20, g21, gl2, gl3, gl4, gl5, gr2, gr7, gr10, gr11]) (by simp (config := {decide := true}) only [hC_R, hC_pX, hL_pX, hC_new, hL_R, hL_new, hR_R, hR_new, Prod.mk.injEq, reduceIte, and_true, true_and, and_false, false_and, FH, g0, g2, g3, g4, g5, g18, g19, g20, g21, gl2, gl3, gl4, gl5, gr2, gr7, gr10, gr11]) ?_
            refine w_pu rfl rfl ?_
            refine w_top (nI t) ht ?_
            refine w_ca rfl rfl (by decide) (Nat.le_of_ble_eq_true rfl) rfl (Nat.le_of_ble_eq_true rfl) (Nat.le_of_ble_eq_true rfl) trivial (y_copyOf X (newC h 20 0 6) (zC c 20 nf) nf t (by simp (config := {decide := true}) only [hC_R, hC_pX, hL_pX, hC_new, hL_R, hL_new, hR_R, hR_new, Prod.mk.injEq, reduceIte, and_true, true_and, and_false, false_and, FH, g0, g2, g3, g4, g5, g18, g19, g20, g21, gl2, gl3, gl4, gl5, gr2, gr7, gr10, gr11]) (by simp (config := {decide := true}) only [hC_R, hC_pX, hL_pX, hC_new, hL_R, hL_new, hR_R, hR_new, Prod.mk.injEq, reduceIte, and_true, true_and, and_false, false_and, FH, g0, g2, g3, g4, g5, g18, g19, g20, g21, gl2, gl3, gl4, gl5, gr2, gr7, gr10, gr11]) (by simp (config := {decide := true}) only [hC_R, hC_pX, hL_pX, hC_new, hL_R, hL_new, hR_R, hR_new, Prod.mk.injEq, reduceIte, and_true, true_and, and_false, false_and, FH, g0, g2, g3, g4, g5, g18, g19, g20, g21, gl2, gl3, gl4, gl5, gr2, gr7, gr10, gr11]) ht2) (fun r1 h1 z => ?_)
            obtain ⟨rfl, c2, rfl, hE, hb⟩ := z
            have e3 : c2 0 0 3 = nI nf := by rw [hE 0 0 3 (fun z => absurd z.2.1 (by decide)), zC_ne _ _ (fun z => absurd z.1 (by decide))]; exact hnf
            have e8 : c2 0 0 8 = nI np := by rw [hE 0 0 8 (fun z => absurd z.2.1 (by decide)), zC_ne _ _ (fun z => absurd z.1 (by decide))]; exact hnp
            have e4 : (FCc c2 nf t (nI np) (nI n)) 0 0 3 = nI nf := by rw [FCc, uC_t _ _ _ _ _ _ (by decide), uC_t _ _ _ _ _ _ (by decide), uC_t _ _ _ _ _ _ (by decide), uC_t _ _ _ _ _ _ (by decide)]; exact e3
            have HC : CutOK (frH0 h nf t) (FCc c2 nf t (nI np) (nI n)) nf np n := by
              unfold frH0 FH
              refine ⟨?_, ?_, ?_, ?_, ?_, ?_, ?_, ?_, ?_, ⟨?_, ?_, ?_, ?_, ?_⟩, ?_, ?_⟩
              all_goals try simp (config := {decide := true}) only [hC_R, hC_new, hL_R, hL_new, hR_R, hR_new, Prod.mk.injEq, reduceIte, and_true, true_and, and_false, false_and, g0, g2, g3, g4, g5, g18, g19, g20, g21, gl2, gl3, gl4, gl5, gr2, gr7, gr10, gr11]
              · omega
              · omega
              · rw [FCc, uC_k _ _ _ _ _ _ (by decide), uC_k _ _ _ _ _ _ (by decide), uC_k _ _ _ _ _ _ (by decide), uC_eq, nat_nI (by omega)]
              · rw [FCc, uC_k _ _ _ _ _ _ (by decide), uC_k _ _ _ _ _ _ (by decide), uC_k _ _ _ _ _ _ (by decide), uC_eq, nat_nI (by omega)]
              · rw [FCc, uC_t _ _ _ _ _ _ (by decide), uC_t _ _ _ _ _ _ (by decide), uC_t _ _ _ _ _ _ (by decide), uC_t _ _ _ _ _ _ (by decide)]; exact e8
              · rw [FCc, uC_k _ _ _ _ _ _ (by decide), uC_eq]
            have hF0 : hpC (FRH h nf np n t) 0 = 1 := by rw [FRH, PHf_0, frH0, FH]; simp (config := {decide := true}) only [hC_R, hC_new, reduceIte, g0]
            refine w_pu rfl rfl ?_
            refine y_g rfl rfl rfl (by decide) (by (try simp (config := {decide := true}) only [hC_R, hC_pX, hL_pX, hC_new, hL_R, hL_new, hR_R, hR_new, Prod.mk.injEq, reduceIte, and_true, true_and, and_false, false_and, g0, g2, g3, g4, g5, g18, g19, g20, g21, gl2, gl3, gl4, gl5, FH]); first | done | omega) ?_
            refine w_top (nI np) (e8) ?_
            refine w_pu rfl rfl ?_
            refine w_cvE (pX (FH (newC (newC h 20 0 6) 21 t t) nf) (FCc c2 nf t (nI np) (nI n))) rfl rfl (by decide) (Nat.le_of_ble_eq_true rfl) rfl (Nat.le_of_ble_eq_true rfl) (Nat.le_of_ble_eq_true rfl) ⟨(by show _ < hpC _ _; (try simp (config := {decide := true}) only [hC_R, hC_pX, hL_pX, hC_new, hL_R, hL_new, hR_R, hR_new, Prod.mk.injEq, reduceIte, and_true, true_and, and_false, false_and, g0, g2, g3, g4, g5, g18, g19, g20, g21, gl2, gl3, gl4, gl5, FH]); first | done | omega), rfl⟩ rfl (y0_init X (newC (newC h 20 0 6) 21 t t) c2 nf t (nI np) (nI n) (by (try simp (config := {decide := true}) only [hC_R, hC_pX, hL_pX, hC_new, hL_R, hL_new, hR_R, hR_new, Prod.mk.injEq, reduceIte, and_true, true_and, and_false, false_and, g0, g2, g3, g4, g5, g18, g19, g20, g21, gl2, gl3, gl4, gl5, FH]); first | done | omega) (by (try simp (config := {decide := true}) only [hC_R, hC_pX, hL_pX, hC_new, hL_R, hL_new, hR_R, hR_new, Prod.mk.injEq, reduceIte, and_true, true_and, and_false, false_and, g0, g2, g3, g4, g5, g18, g19, g20, g21, gl2, gl3, gl4, gl5, FH]); first | done | omega) (by (try simp (config := {decide := true}) only [hC_R, hC_pX, hL_pX, hC_new, hL_R, hL_new, hR_R, hR_new, Prod.mk.injEq, reduceIte, and_true, true_and, and_false, false_and, g0, g2, g3, g4, g5, g18, g19, g20, g21, gl2, gl3, gl4, gl5, FH]); first | done | omega)) ?_
            refine w_pu rfl rfl ?_
            refine w_pu rfl rfl ?_
            refine y_gR 2 rfl rfl rfl rfl (by (try simp (config := {decide := true}) only [hC_R, hC_pX, hL_pX, hC_new, hL_R, hL_new, hR_R, hR_new, Prod.mk.injEq, reduceIte, and_true, true_and, and_false, false_and, g0, g2, g3, g4, g5, g18, g19, g20, g21, gl2, gl3, gl4, gl5, FH]); first | done | omega) (by simp (config := {decide := true}) only [hC_R, hC_pX, hL_pX, hC_new, hL_R, hL_new, hR_R, hR_new, Prod.mk.injEq, reduceIte, and_true, true_and, and_false, false_and, FH, g0, g2, g3, g4, g5, g18, g19, g20, g21, gl2, gl3, gl4, gl5, gr2, gr7, gr10, gr11]) ?_
            refine w_pu rfl rfl ?_
            refine y_g rfl rfl rfl (by decide) (by (try simp (config := {decide := true}) only [hC_R, hC_pX, hL_pX, hC_new, hL_R, hL_new, hR_R, hR_new, Prod.mk.injEq, reduceIte, and_true, true_and, and_false, false_and, g0, g2, g3, g4, g5, g18, g19, g20, g21, gl2, gl3, gl4, gl5, FH]); first | done | omega) ?_
            refine w_top (nI nf) (e4) ?_
            refine w_pu rfl rfl ?_
            refine y_aR (N := 300) nf rfl (by (try simp (config := {decide := true}) only [hC_R, hC_pX, hL_pX, hC_new, hL_R, hL_new, hR_R, hR_new, Prod.mk.injEq, reduceIte, and_true, true_and, and_false, false_and, g0, g2, g3, g4, g5, g18, g19, g20, g21, gl2, gl3, gl4, gl5, FH]); first | done | omega) rfl (by exact (by decide : kd 20 < 10)) (by (try simp (config := {decide := true}) only [hC_R, hC_pX, hL_pX, hC_new, hL_R, hL_new, hR_R, hR_new, Prod.mk.injEq, reduceIte, and_true, true_and, and_false, false_and, g0, g2, g3, g4, g5, g18, g19, g20, g21, gl2, gl3, gl4, gl5, FH]); first | done | omega) (by (try simp (config := {decide := true}) only [hC_R, hC_pX, hL_pX, hC_new, hL_R, hL_new, hR_R, hR_new, Prod.mk.injEq, reduceIte, and_true, true_and, and_false, false_and, g0, g2, g3, g4, g5, g18, g19, g20, g21, gl2, gl3, gl4, gl5, FH]); first | done | omega) (by decide) rfl hf3 ?_
            refine w_pu rfl rfl ?_
            refine w_pu rfl rfl ?_
            refine w_cvE (pX (FRH h nf np n t) (PCf nf n np 0 (FCc c2 nf t (nI np) (nI n)))) rfl rfl (by decide) (Nat.le_of_ble_eq_true rfl) rfl (Nat.le_of_ble_eq_true rfl) (Nat.le_of_ble_eq_true rfl) ⟨HC.1, rfl⟩ rfl (w_cst (v := 0) rfl rfl rfl (w_pu rfl rfl (y5_cut X nf n (by omega) n 0 np (frH0 h nf t) (FCc c2 nf t (nI np) (nI n)) none none none HC (by omega) hpn))) ?_
            refine w_pu rfl rfl ?_
            refine w_pu rfl rfl ?_
            refine y_g rfl rfl rfl (by decide) (by (try simp (config := {decide := true}) only [hC_R, hC_pX, hL_pX, hC_new, hL_R, hL_new, hR_R, hR_new, Prod.mk.injEq, reduceIte, and_true, true_and, and_false, false_and, hF0]); first | done | omega) ?_
            refine w_top (nI nf) (by rw [PCf_0 _ (by decide)]; exact e4) ?_
            refine w_cst (v := 1) rfl rfl rfl ?_
            refine w_pu rfl rfl ?_
            refine y_p rfl rfl rfl (by decide) (by (try simp (config := {decide := true}) only [hC_R, hC_pX, hL_pX, hC_new, hL_R, hL_new, hR_R, hR_new, Prod.mk.injEq, reduceIte, and_true, true_and, and_false, false_and, hF0]); first | done | omega) ?_
            refine w_pu rfl rfl ?_
            refine w_cst (v := 0) rfl rfl rfl ?_
            refine y_p rfl rfl rfl (by decide) (by (try simp (config := {decide := true}) only [hC_R, hC_pX, hL_pX, hC_new, hL_R, hL_new, hR_R, hR_new, Prod.mk.injEq, reduceIte, and_true, true_and, and_false, false_and, hF0]); first | done | omega) ?_
            refine w_pu rfl rfl ?_
            refine y_g rfl rfl rfl (by decide) (by (try simp (config := {decide := true}) only [hC_R, hC_pX, hL_pX, hC_new, hL_R, hL_new, hR_R, hR_new, Prod.mk.injEq, reduceIte, and_true, true_and, and_false, false_and, hF0]); first | done | omega) ?_
            refine w_top (((nI nf) + 1)) (by rw [uC_k _ _ _ _ _ _ (by decide), uC_eq]) ?_
            refine w_cst (v := 1) rfl rfl rfl ?_
            refine w_pu rfl rfl ?_
            refine w_rt rfl rfl trivial ?_
            rw [show nI nf + 1 - 1 = nI nf from Int32.add_sub_cancel _ _]
            refine Or.inr (Or.inr ⟨hR, rfl, hf3, hpn, c2, hE, fun k hk => ?_, rfl⟩)
            rw [hb k hk, zC_ne _ _ (fun z => absurd z.1 (by decide))]
          · refine w_pu rfl rfl ?_
            refine w_cst (v := (-6)) rfl rfl rfl ?_
            refine w_cgE (vI (-6)) (pX h (refX c 6)) rfl rfl (by decide) (Nat.le_of_ble_eq_true rfl) rfl (Nat.le_of_ble_eq_true rfl) (Nat.le_of_ble_eq_true rfl) ⟨wl hw Nat.one_pos, rfl⟩ rfl (x5_refuse_6 X hw c) ?_
            refine w_rt rfl rfl trivial ?_
            exact Or.inr (Or.inl ⟨by rw [frR, if_neg d0, if_pos (Or.inr (Int32.not_lt.mp c5))], rfl, rfl⟩)
      · refine w_cst (v := 1) rfl rfl rfl ?_
        refine w_go rfl ?_
        refine w_pu rfl rfl ?_
        refine w_pu rfl rfl ?_
        refine w_ne0 rfl (fun c6 => ?_) (fun c6 => ?_)
        · refine w_pu rfl rfl ?_
          refine w_cst (v := (-6)) rfl rfl rfl ?_
          refine w_cgE (vI (-6)) (pX h (refX c 6)) rfl rfl (by decide) (Nat.le_of_ble_eq_true rfl) rfl (Nat.le_of_ble_eq_true rfl) (Nat.le_of_ble_eq_true rfl) ⟨wl hw Nat.one_pos, rfl⟩ rfl (x5_refuse_6 X hw c) ?_
          refine w_rt rfl rfl trivial ?_
          exact Or.inr (Or.inl ⟨by rw [frR, if_neg d0, if_pos (Or.inl (Or.inr (Int32.not_le.mp c3)))], rfl, rfl⟩)
        · exact absurd c6 (by decide)
  · have d0 := one_F ht ht2 c0
    refine w_pu rfl rfl ?_
    refine w_cst (v := (-3)) rfl rfl rfl ?_
    refine w_cgE (vI (-3)) (pX h (refX c 3)) rfl rfl (by decide) (Nat.le_of_ble_eq_true rfl) rfl (Nat.le_of_ble_eq_true rfl) (Nat.le_of_ble_eq_true rfl) ⟨wl hw Nat.one_pos, rfl⟩ rfl (x5_refuse_3 X hw c) ?_
    refine w_rt rfl rfl trivial ?_
    exact Or.inl ⟨by rw [frR, if_pos d0], rfl, rfl⟩
