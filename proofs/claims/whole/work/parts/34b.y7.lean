theorem WF_piece {h : Hp} {nl nf np : Nat} (hw : WF h nl nf np) (hp : np < 3000) : WF (psH h np) nl nf (np + 1) := by
  have g18 : hpC h 18 = np := hw.1 18
  have g19 : hpC h 19 = np := hw.1 19
  have hC : ∀ t, hpC (psH h np) t = cntOf nl nf (np + 1) t := by
    intro t
    have ho := hw.1 t
    unfold psH PH
    by_cases e18 : t = 18
    · subst e18
      simp (config := {decide := true}) only [hC_R, hC_new, hL_R, hL_new, hR_R, hR_new, Prod.mk.injEq, reduceIte, and_true, true_and, and_false, false_and, g18, g19]
      rfl
    by_cases e19 : t = 19
    · subst e19
      simp (config := {decide := true}) only [hC_R, hC_new, hL_R, hL_new, hR_R, hR_new, Prod.mk.injEq, reduceIte, and_true, true_and, and_false, false_and, g18, g19]
      rfl
    simp only [hC_R, hC_new, e18, e19, if_false]
    rw [ho]
    unfold cntOf
    by_cases q : t < 7
    · rw [if_pos q, if_pos q]
    · rw [if_neg q, if_neg q]
      by_cases q2 : t < 18
      · rw [if_pos q2, if_pos q2]
      · have q3 : ¬ t < 20 := by omega
        rw [if_neg q2, if_neg q2, if_neg q3, if_neg q3]
  have hE : Xt h (PH (newC h 18 0 8) np) := by
    unfold PH
    refine Xt_R ?_ _ _ (by omega)
    refine Xt_n ?_ _ _ (by simp (config := {decide := true}) only [hC_R, hC_new, reduceIte, g18, g19]; first | done | omega)
    refine Xt_n ?_ _ _ (by omega)
    exact Xt_r h
  refine WF_mk hw hC (fun t i hi => ?_) (fun t i q hi => ?_) (fun k hk => ?_) (fun k hk => ?_) (fun k hk => ?_) ⟨hw.2.2.2.2.2.2.1, hw.2.2.2.2.2.2.2.1, by omega⟩
  · refine ⟨(hE t i hi).1, fun z k => ?_⟩
    show hpR (setR (PH (newC h 18 0 8) np) (3, 0) np (some (18, np))) (t, i) k = _
    rw [hR_R, if_neg (fun y => z (by have y := y.1; rw [Prod.mk.injEq] at y; omega))]
    exact (hE t i hi).2 k
  · have ht : 18 ≤ t ∧ t ≤ 19 ∧ i = np := by
      rw [hC t] at hi
      rw [hw.1 t] at q
      unfold cntOf at hi q
      by_cases a1 : t < 7
      · rw [if_pos a1] at hi q
        omega
      · rw [if_neg a1] at hi q
        by_cases a2 : t < 18
        · rw [if_pos a2] at hi q
          omega
        · rw [if_neg a2] at hi q
          by_cases a3 : t < 20
          · rw [if_pos a3] at hi q
            omega
          · rw [if_neg a3] at hi q
            omega
    obtain ⟨t1, t2, rfl⟩ := ht
    have ht : t = 18 ∨ t = 19 := by omega
    clear hC hE hi q t1 t2
    unfold psH PH
    rcases ht with rfl | rfl
    · refine ⟨fun k hf => ?_, fun z => absurd rfl z⟩
      rcases fty2 k hf with rfl
      simp (config := {decide := true}) only [hC_R, hC_new, hL_R, hL_new, hR_R, hR_new, Prod.mk.injEq, reduceIte, and_true, true_and, and_false, false_and, g18, g19]
      first | done | rfl
    · refine ⟨fun k hf => absurd hf (ftyA (by decide)), fun z => ?_⟩
      simp (config := {decide := true}) only [hC_R, hC_new, hL_R, hL_new, hR_R, hR_new, Prod.mk.injEq, reduceIte, and_true, true_and, and_false, false_and, g18, g19]
      first | done | rfl
  · show hpR (setR (PH (newC h 18 0 8) np) (3, 0) np (some (18, np))) (1, 0) k = _
    rw [hR_R, if_neg (fun z => by have z := z.1; rw [Prod.mk.injEq] at z; exact absurd z.1 (by decide)), (hE 1 0 (by rw [hw.1]; exact Nat.one_pos)).2]
    exact hw.2.2.2.1 k hk
  · show hpR (setR (PH (newC h 18 0 8) np) (3, 0) np (some (18, np))) (2, 0) k = _
    rw [hR_R, if_neg (fun z => by have z := z.1; rw [Prod.mk.injEq] at z; exact absurd z.1 (by decide)), (hE 2 0 (by rw [hw.1]; exact Nat.one_pos)).2]
    exact hw.2.2.2.2.1 k hk
  · show hpR (setR (PH (newC h 18 0 8) np) (3, 0) np (some (18, np))) (3, 0) k = _
    rw [hR_R]
    by_cases q : k = np
    · rw [if_pos ⟨rfl, q⟩, q]
    · rw [if_neg (fun z => q z.2), (hE 3 0 (by rw [hw.1]; exact Nat.one_pos)).2]
      exact hw.2.2.2.2.2.1 k (by omega)
theorem WF_frame0 {h : Hp} {nl nf np : Nat} (hw : WF h nl nf np) (hf : nf < 300) (n : Nat) : WF (frH0 h nf n) nl (nf + 1) np := by
  have g20 : hpC h 20 = nf := hw.1 20
  have g21 : hpC h 21 = nf := hw.1 21
  have hC : ∀ t, hpC (frH0 h nf n) t = cntOf nl (nf + 1) np t := by
    intro t
    have ho := hw.1 t
    unfold frH0 FH
    by_cases e20 : t = 20
    · subst e20
      simp (config := {decide := true}) only [hC_R, hC_new, hL_R, hL_new, hR_R, hR_new, Prod.mk.injEq, reduceIte, and_true, true_and, and_false, false_and, g20, g21]
      rfl
    by_cases e21 : t = 21
    · subst e21
      simp (config := {decide := true}) only [hC_R, hC_new, hL_R, hL_new, hR_R, hR_new, Prod.mk.injEq, reduceIte, and_true, true_and, and_false, false_and, g20, g21]
      rfl
    simp only [hC_R, hC_new, e20, e21, if_false]
    rw [ho]
    unfold cntOf
    by_cases q : t < 7
    · rw [if_pos q, if_pos q]
    · rw [if_neg q, if_neg q]
      by_cases q2 : t < 18
      · rw [if_pos q2, if_pos q2]
      · rw [if_neg q2, if_neg q2]
        by_cases q3 : t < 20
        · rw [if_pos q3, if_pos q3]
        · have q4 : ¬ t < 22 := by omega
          rw [if_neg q3, if_neg q3, if_neg q4, if_neg q4]
  have hE : Xt h (FH (newC (newC h 20 0 6) 21 n n) nf) := by
    unfold FH
    refine Xt_R ?_ _ _ (by omega)
    refine Xt_n ?_ _ _ (by simp (config := {decide := true}) only [hC_R, hC_new, reduceIte, g20, g21]; first | done | omega)
    refine Xt_n ?_ _ _ (by omega)
    exact Xt_r h
  refine WF_mk hw hC (fun t i hi => ?_) (fun t i q hi => ?_) (fun k hk => ?_) (fun k hk => ?_) (fun k hk => ?_) ⟨hw.2.2.2.2.2.2.1, by omega, hw.2.2.2.2.2.2.2.2⟩
  · refine ⟨(hE t i hi).1, fun z k => ?_⟩
    show hpR (setR (FH (newC (newC h 20 0 6) 21 n n) nf) (2, 0) nf (some (20, nf))) (t, i) k = _
    rw [hR_R, if_neg (fun y => z (by have y := y.1; rw [Prod.mk.injEq] at y; omega))]
    exact (hE t i hi).2 k
  · have ht : 20 ≤ t ∧ t ≤ 21 ∧ i = nf := by
      rw [hC t] at hi
      rw [hw.1 t] at q
      unfold cntOf at hi q
      by_cases a1 : t < 7
      · rw [if_pos a1] at hi q
        omega
      · rw [if_neg a1] at hi q
        by_cases a2 : t < 18
        · rw [if_pos a2] at hi q
          omega
        · rw [if_neg a2] at hi q
          by_cases a3 : t < 20
          · rw [if_pos a3] at hi q
            omega
          · rw [if_neg a3] at hi q
            by_cases a4 : t < 22
            · rw [if_pos a4] at hi q
              omega
            · rw [if_neg a4] at hi q
              omega
    obtain ⟨t1, t2, rfl⟩ := ht
    have ht : t = 20 ∨ t = 21 := by omega
    clear hC hE hi q t1 t2
    unfold frH0 FH
    rcases ht with rfl | rfl
    · refine ⟨fun k hf => ?_, fun z => absurd rfl z⟩
      rcases fty0 k hf with rfl
      simp (config := {decide := true}) only [hC_R, hC_new, hL_R, hL_new, hR_R, hR_new, Prod.mk.injEq, reduceIte, and_true, true_and, and_false, false_and, g20, g21]
      first | done | rfl
    · exact ⟨fun k hf => absurd hf (ftyA (by decide)), fun z => absurd rfl z⟩
  · show hpR (setR (FH (newC (newC h 20 0 6) 21 n n) nf) (2, 0) nf (some (20, nf))) (1, 0) k = _
    rw [hR_R, if_neg (fun z => by have z := z.1; rw [Prod.mk.injEq] at z; exact absurd z.1 (by decide)), (hE 1 0 (by rw [hw.1]; exact Nat.one_pos)).2]
    exact hw.2.2.2.1 k hk
  · show hpR (setR (FH (newC (newC h 20 0 6) 21 n n) nf) (2, 0) nf (some (20, nf))) (2, 0) k = _
    rw [hR_R]
    by_cases q : k = nf
    · rw [if_pos ⟨rfl, q⟩, q]
    · rw [if_neg (fun z => q z.2), (hE 2 0 (by rw [hw.1]; exact Nat.one_pos)).2]
      exact hw.2.2.2.2.1 k (by omega)
  · show hpR (setR (FH (newC (newC h 20 0 6) 21 n n) nf) (2, 0) nf (some (20, nf))) (3, 0) k = _
    rw [hR_R, if_neg (fun z => by have z := z.1; rw [Prod.mk.injEq] at z; exact absurd z.1 (by decide)), (hE 3 0 (by rw [hw.1]; exact Nat.one_pos)).2]
    exact hw.2.2.2.2.2.1 k hk
theorem psH_a (h : Hp) (i : Nat) : hpN (psH h i) = hpN h + 2 ∧ hpS (psH h i) = hpS h + 16 ∧ gS (psH h i) = gS h ∧ ∀ f, hpL (psH h i) (21, f) = hpL h (21, f) := by
  unfold psH PH
  refine ⟨?_, ?_, ?_, fun f => ?_⟩
  · simp only [hN_new, hN_R]
  · simp only [hS_new, hS_R]
  · simp (config := {decide := true}) only [gS_R, gS_new]
  · simp (config := {decide := true}) only [hL_R, hL_new, Prod.mk.injEq, reduceIte, false_and]
theorem PHf_a : ∀ d p (h : Hp), hpN (PHf d p h) = hpN h + 2 * d ∧ hpS (PHf d p h) = hpS h + 16 * d ∧ gS (PHf d p h) = gS h ∧ ∀ f, hpL (PHf d p h) (21, f) = hpL h (21, f)
  | 0, _, _ => ⟨rfl, rfl, rfl, fun _ => rfl⟩
  | d + 1, p, h => by
    rw [PHf]
    obtain ⟨a1, a2, a3, a4⟩ := PHf_a d (p + 1) (psH h p)
    obtain ⟨b1, b2, b3, b4⟩ := psH_a h p
    exact ⟨by omega, by omega, by rw [a3, b3], fun f => by rw [a4, b4]⟩
theorem PHf_W {nl nf : Nat} : ∀ d p (h : Hp), WF h nl nf p → p + d ≤ 3000 → WF (PHf d p h) nl nf (p + d)
  | 0, _, _, hw, _ => hw
  | d + 1, p, h, hw, q => by
    rw [PHf, show p + (d + 1) = p + 1 + d by omega]
    exact PHf_W d (p + 1) (psH h p) (WF_piece hw (by omega)) (by omega)
theorem WF_frame {h : Hp} {nl nf np n : Nat} (hw : WF h nl nf np) (hf : nf < 300) (hn : np + n ≤ 3000) (t : Nat) : WF (FRH h nf np n t) nl (nf + 1) (np + n) := PHf_W n np (frH0 h nf t) (WF_frame0 hw hf t) hn
theorem FRH_a {h : Hp} {nl nf np : Nat} (hw : WF h nl nf np) (n t : Nat) : hpN (FRH h nf np n t) = hpN h + 2 + 2 * n ∧ hpS (FRH h nf np n t) = hpS h + 6 + t + 16 * n ∧ gS (FRH h nf np n t) = gS h ∧ (∀ f, f < nf → hpL (FRH h nf np n t) (21, f) = hpL h (21, f)) ∧ hpL (FRH h nf np n t) (21, nf) = t := by
  have g20 : hpC h 20 = nf := hw.1 20
  have g21 : hpC h 21 = nf := hw.1 21
  unfold FRH
  obtain ⟨a1, a2, a3, a4⟩ := PHf_a n np (frH0 h nf t)
  refine ⟨?_, ?_, ?_, fun f hf => ?_, ?_⟩
  · rw [a1, frH0, FH]
    simp only [hN_new, hN_R]
  · rw [a2, frH0, FH]
    simp only [hS_new, hS_R]
  · rw [a3, frH0, FH]
    simp (config := {decide := true}) only [gS_R, gS_new]
  · rw [a4, frH0, FH]
    simp (config := {decide := true}) only [hL_R, hL_new, hC_new, Prod.mk.injEq, reduceIte, false_and, true_and, g21]
    rw [if_neg (by omega)]
  · rw [a4, frH0, FH]
    simp (config := {decide := true}) only [hL_R, hL_new, hC_new, Prod.mk.injEq, reduceIte, false_and, true_and, g21]
