/-! The new heaps stand as they should. -/
theorem fty1 : ∀ k, fty 1 k = 2 → k = 4 ∨ k = 5 ∨ k = 6 ∨ k = 7 := by
  intro k h
  rcases Nat.lt_or_ge k 17 with z | z
  · have : ∀ k, k < 17 → fty 1 k = 2 → k = 4 ∨ k = 5 ∨ k = 6 ∨ k = 7 := by decide
    exact this k z h
  · exact absurd h (by
      show ¬ ((mc_fty.getD 1 []).getD k 9) = 2
      rw [List.getD_eq_getElem?_getD, List.getElem?_eq_none (by show 17 ≤ k; exact z)]
      decide)
theorem fty2 : ∀ k, fty 2 k = 2 → k = 4 := by
  intro k h
  rcases Nat.lt_or_ge k 8 with z | z
  · have : ∀ k, k < 8 → fty 2 k = 2 → k = 4 := by decide
    exact this k z h
  · exact absurd h (by
      show ¬ ((mc_fty.getD 2 []).getD k 9) = 2
      rw [List.getD_eq_getElem?_getD, List.getElem?_eq_none (by show 8 ≤ k; exact z)]
      decide)
theorem fty0 : ∀ k, fty 0 k = 2 → k = 0 := by
  intro k h
  rcases Nat.lt_or_ge k 6 with z | z
  · have : ∀ k, k < 6 → fty 0 k = 2 → k = 0 := by decide
    exact this k z h
  · exact absurd h (by
      show ¬ ((mc_fty.getD 0 []).getD k 9) = 2
      rw [List.getD_eq_getElem?_getD, List.getElem?_eq_none (by show 6 ≤ k; exact z)]
      decide)
theorem fty3 : ∀ k, fty 3 k = 2 → k = 0 ∨ k = 1 := by
  intro k h
  rcases Nat.lt_or_ge k 6 with z | z
  · have : ∀ k, k < 6 → fty 3 k = 2 → k = 0 ∨ k = 1 := by decide
    exact this k z h
  · exact absurd h (by
      show ¬ ((mc_fty.getD 3 []).getD k 9) = 2
      rw [List.getD_eq_getElem?_getD, List.getElem?_eq_none (by show 6 ≤ k; exact z)]
      decide)
theorem fty4 : ∀ k, fty 4 k = 2 → k = 0 ∨ k = 1 ∨ k = 2 ∨ k = 3 := by
  intro k h
  rcases Nat.lt_or_ge k 6 with z | z
  · have : ∀ k, k < 6 → fty 4 k = 2 → k = 0 ∨ k = 1 ∨ k = 2 ∨ k = 3 := by decide
    exact this k z h
  · exact absurd h (by
      show ¬ ((mc_fty.getD 4 []).getD k 9) = 2
      rw [List.getD_eq_getElem?_getD, List.getElem?_eq_none (by show 6 ≤ k; exact z)]
      decide)
theorem ftyA {a k : Nat} (h : 7 ≤ a) : ¬ fty a k = 2 := by
  unfold fty
  rw [List.getD_eq_getElem?_getD (l := mc_fty), List.getElem?_eq_none (by show 7 ≤ a; exact h)]
  show ¬ ([] : List Nat).getD k 9 = 2
  simp
/-- all of the old stands, but for the rows of references -/
def Xt (h h' : Hp) : Prop := ∀ t i, i < hpC h t → hpL h' (t, i) = hpL h (t, i) ∧ ∀ k, hpR h' (t, i) k = hpR h (t, i) k
theorem Xt_r (h : Hp) : Xt h h := fun _ _ _ => ⟨rfl, fun _ => rfl⟩
theorem Xt_n {h g : Hp} (e : Xt h g) {t : Nat} (n s : Nat) (q : hpC h t ≤ hpC g t) : Xt h (newC g t n s) := fun t' i hi => by
  have q2 : ¬ (t', i) = (t, hpC g t) := fun z => by
    rw [Prod.mk.injEq] at z
    obtain ⟨rfl, rfl⟩ := z
    omega
  refine ⟨?_, fun k => ?_⟩
  · rw [hL_new, if_neg q2]; exact (e t' i hi).1
  · rw [hR_new, if_neg q2]; exact (e t' i hi).2 k
theorem Xt_R {h g : Hp} (e : Xt h g) {t j : Nat} (k : Nat) (v : Option Nm) (q : hpC h t ≤ j) : Xt h (setR g (t, j) k v) := fun t' i hi => by
  refine ⟨(e t' i hi).1, fun k' => ?_⟩
  rw [hR_R, if_neg (fun z => by
    have z := z.1
    rw [Prod.mk.injEq] at z
    obtain ⟨rfl, rfl⟩ := z
    omega)]
  exact (e t' i hi).2 k'
theorem WF_mk {h h' : Hp} {nl nf np nl' nf' np' : Nat} (hw : WF h nl nf np) (hC : ∀ t, hpC h' t = cntOf nl' nf' np' t)
    (hE : ∀ t i, i < hpC h t → hpL h' (t, i) = hpL h (t, i) ∧ (¬ (1 ≤ t ∧ t ≤ 3) → ∀ k, hpR h' (t, i) k = hpR h (t, i) k))
    (hN : ∀ t i, ¬ i < hpC h t → i < hpC h' t → (∀ k, fty (kd t) k = 2 → hpR h' (t, i) k = some (srf (kd t) k, i)) ∧ (slen t ≠ 0 → hpL h' (t, i) = slen t))
    (h1 : ∀ k, k < nl' → hpR h' (1, 0) k = some (7, k)) (h2 : ∀ k, k < nf' → hpR h' (2, 0) k = some (20, k)) (h3 : ∀ k, k < np' → hpR h' (3, 0) k = some (18, k)) (b : nl' ≤ 8 ∧ nf' ≤ 300 ∧ np' ≤ 3000) : WF h' nl' nf' np' := by
  refine ⟨hC, fun t i k hi hf => ?_, fun t i hi hs => ?_, h1, h2, h3, b⟩
  · by_cases q : i < hpC h t
    · by_cases q2 : 1 ≤ t ∧ t ≤ 3
      · refine absurd hf (ftyA ?_)
        have : t = 1 ∨ t = 2 ∨ t = 3 := by omega
        rcases this with rfl | rfl | rfl <;> decide
      · rw [(hE t i q).2 q2 k]
        exact hw.2.1 t i k q hf
    · exact (hN t i q hi).1 k hf
  · by_cases q : i < hpC h t
    · rw [(hE t i q).1]
      exact hw.2.2.1 t i q hs
    · exact (hN t i q hi).2 hs
theorem WF_open {h : Hp} {nl nf np : Nat} (hw : WF h nl nf np) (hl : nl < 8) : WF (OH h nl) (nl + 1) nf np := by
  have g7 : hpC h 7 = nl := hw.1 7
  have g8 : hpC h 8 = nl := hw.1 8
  have g9 : hpC h 9 = nl := hw.1 9
  have g10 : hpC h 10 = nl := hw.1 10
  have g11 : hpC h 11 = nl := hw.1 11
  have g12 : hpC h 12 = nl := hw.1 12
  have g13 : hpC h 13 = nl := hw.1 13
  have g14 : hpC h 14 = nl := hw.1 14
  have g15 : hpC h 15 = nl := hw.1 15
  have g16 : hpC h 16 = nl := hw.1 16
  have g17 : hpC h 17 = nl := hw.1 17
  have hC : ∀ t, hpC (OH h nl) t = cntOf (nl + 1) nf np t := by
    intro t
    have ho := hw.1 t
    unfold OH LH UH QH
    by_cases e7 : t = 7
    · subst e7
      simp (config := {decide := true}) only [hC_R, hC_new, hL_R, hL_new, hR_R, hR_new, Prod.mk.injEq, reduceIte, and_true, true_and, and_false, false_and, g7, g8, g9, g10, g11, g12, g13, g14, g15, g16, g17]
      rfl
    by_cases e8 : t = 8
    · subst e8
      simp (config := {decide := true}) only [hC_R, hC_new, hL_R, hL_new, hR_R, hR_new, Prod.mk.injEq, reduceIte, and_true, true_and, and_false, false_and, g7, g8, g9, g10, g11, g12, g13, g14, g15, g16, g17]
      rfl
    by_cases e9 : t = 9
    · subst e9
      simp (config := {decide := true}) only [hC_R, hC_new, hL_R, hL_new, hR_R, hR_new, Prod.mk.injEq, reduceIte, and_true, true_and, and_false, false_and, g7, g8, g9, g10, g11, g12, g13, g14, g15, g16, g17]
      rfl
    by_cases e10 : t = 10
    · subst e10
      simp (config := {decide := true}) only [hC_R, hC_new, hL_R, hL_new, hR_R, hR_new, Prod.mk.injEq, reduceIte, and_true, true_and, and_false, false_and, g7, g8, g9, g10, g11, g12, g13, g14, g15, g16, g17]
      rfl
    by_cases e11 : t = 11
    · subst e11
      simp (config := {decide := true}) only [hC_R, hC_new, hL_R, hL_new, hR_R, hR_new, Prod.mk.injEq, reduceIte, and_true, true_and, and_false, false_and, g7, g8, g9, g10, g11, g12, g13, g14, g15, g16, g17]
      rfl
    by_cases e12 : t = 12
    · subst e12
      simp (config := {decide := true}) only [hC_R, hC_new, hL_R, hL_new, hR_R, hR_new, Prod.mk.injEq, reduceIte, and_true, true_and, and_false, false_and, g7, g8, g9, g10, g11, g12, g13, g14, g15, g16, g17]
      rfl
    by_cases e13 : t = 13
    · subst e13
      simp (config := {decide := true}) only [hC_R, hC_new, hL_R, hL_new, hR_R, hR_new, Prod.mk.injEq, reduceIte, and_true, true_and, and_false, false_and, g7, g8, g9, g10, g11, g12, g13, g14, g15, g16, g17]
      rfl
    by_cases e14 : t = 14
    · subst e14
      simp (config := {decide := true}) only [hC_R, hC_new, hL_R, hL_new, hR_R, hR_new, Prod.mk.injEq, reduceIte, and_true, true_and, and_false, false_and, g7, g8, g9, g10, g11, g12, g13, g14, g15, g16, g17]
      rfl
    by_cases e15 : t = 15
    · subst e15
      simp (config := {decide := true}) only [hC_R, hC_new, hL_R, hL_new, hR_R, hR_new, Prod.mk.injEq, reduceIte, and_true, true_and, and_false, false_and, g7, g8, g9, g10, g11, g12, g13, g14, g15, g16, g17]
      rfl
    by_cases e16 : t = 16
    · subst e16
      simp (config := {decide := true}) only [hC_R, hC_new, hL_R, hL_new, hR_R, hR_new, Prod.mk.injEq, reduceIte, and_true, true_and, and_false, false_and, g7, g8, g9, g10, g11, g12, g13, g14, g15, g16, g17]
      rfl
    by_cases e17 : t = 17
    · subst e17
      simp (config := {decide := true}) only [hC_R, hC_new, hL_R, hL_new, hR_R, hR_new, Prod.mk.injEq, reduceIte, and_true, true_and, and_false, false_and, g7, g8, g9, g10, g11, g12, g13, g14, g15, g16, g17]
      rfl
    simp only [hC_R, hC_new, e7, e8, e9, e10, e11, e12, e13, e14, e15, e16, e17, if_false]
    rw [ho]
    unfold cntOf
    by_cases q : t < 7
    · rw [if_pos q, if_pos q]
    · have q2 : ¬ t < 18 := by omega
      rw [if_neg q, if_neg q, if_neg q2, if_neg q2]
  have hE : Xt h (LH (newC h 7 0 17) nl) := by
    unfold LH UH QH
    refine Xt_R ?_ _ _ (by omega)
    refine Xt_n ?_ _ _ (by simp (config := {decide := true}) only [hC_R, hC_new, reduceIte, g7, g8, g9, g10, g11, g12, g13, g14, g15, g16, g17]; first | done | omega)
    refine Xt_R ?_ _ _ (by omega)
    refine Xt_n ?_ _ _ (by simp (config := {decide := true}) only [hC_R, hC_new, reduceIte, g7, g8, g9, g10, g11, g12, g13, g14, g15, g16, g17]; first | done | omega)
    refine Xt_R ?_ _ _ (by omega)
    refine Xt_R ?_ _ _ (by omega)
    refine Xt_n ?_ _ _ (by simp (config := {decide := true}) only [hC_R, hC_new, reduceIte, g7, g8, g9, g10, g11, g12, g13, g14, g15, g16, g17]; first | done | omega)
    refine Xt_R ?_ _ _ (by omega)
    refine Xt_n ?_ _ _ (by simp (config := {decide := true}) only [hC_R, hC_new, reduceIte, g7, g8, g9, g10, g11, g12, g13, g14, g15, g16, g17]; first | done | omega)
    refine Xt_R ?_ _ _ (by omega)
    refine Xt_n ?_ _ _ (by simp (config := {decide := true}) only [hC_R, hC_new, reduceIte, g7, g8, g9, g10, g11, g12, g13, g14, g15, g16, g17]; first | done | omega)
    refine Xt_R ?_ _ _ (by omega)
    refine Xt_n ?_ _ _ (by simp (config := {decide := true}) only [hC_R, hC_new, reduceIte, g7, g8, g9, g10, g11, g12, g13, g14, g15, g16, g17]; first | done | omega)
    refine Xt_n ?_ _ _ (by simp (config := {decide := true}) only [hC_R, hC_new, reduceIte, g7, g8, g9, g10, g11, g12, g13, g14, g15, g16, g17]; first | done | omega)
    refine Xt_R ?_ _ _ (by omega)
    refine Xt_R ?_ _ _ (by omega)
    refine Xt_n ?_ _ _ (by simp (config := {decide := true}) only [hC_R, hC_new, reduceIte, g7, g8, g9, g10, g11, g12, g13, g14, g15, g16, g17]; first | done | omega)
    refine Xt_R ?_ _ _ (by omega)
    refine Xt_n ?_ _ _ (by simp (config := {decide := true}) only [hC_R, hC_new, reduceIte, g7, g8, g9, g10, g11, g12, g13, g14, g15, g16, g17]; first | done | omega)
    refine Xt_n ?_ _ _ (by simp (config := {decide := true}) only [hC_R, hC_new, reduceIte, g7, g8, g9, g10, g11, g12, g13, g14, g15, g16, g17]; first | done | omega)
    refine Xt_n ?_ _ _ (by simp (config := {decide := true}) only [hC_R, hC_new, reduceIte, g7, g8, g9, g10, g11, g12, g13, g14, g15, g16, g17]; first | done | omega)
    exact Xt_r h
  refine WF_mk hw hC (fun t i hi => ?_) (fun t i q hi => ?_) (fun k hk => ?_) (fun k hk => ?_) (fun k hk => ?_) ⟨by omega, hw.2.2.2.2.2.2.2⟩
  · refine ⟨(hE t i hi).1, fun z k => ?_⟩
    show hpR (setR (LH (newC h 7 0 17) nl) (1, 0) nl (some (7, nl))) (t, i) k = _
    rw [hR_R, if_neg (fun y => z (by have y := y.1; rw [Prod.mk.injEq] at y; omega))]
    exact (hE t i hi).2 k
  · have ht : 7 ≤ t ∧ t ≤ 17 ∧ i = nl := by
      rw [hC t] at hi
      rw [hw.1 t] at q
      unfold cntOf at hi q
      by_cases a1 : t < 7
      · rw [if_pos a1] at hi q
        omega
      · rw [if_neg a1] at hi q
        by_cases a2 : t < 18
        · rw [if_pos a2] at hi q
          omega
        · rw [if_neg a2] at hi q
          omega
    obtain ⟨t1, t2, rfl⟩ := ht
    have ht : t = 7 ∨ t = 8 ∨ t = 9 ∨ t = 10 ∨ t = 11 ∨ t = 12 ∨ t = 13 ∨ t = 14 ∨ t = 15 ∨ t = 16 ∨ t = 17 := by omega
    clear hC hE hi q t1 t2
    unfold OH LH UH QH
    rcases ht with rfl | rfl | rfl | rfl | rfl | rfl | rfl | rfl | rfl | rfl | rfl
    · refine ⟨fun k hf => ?_, fun z => absurd rfl z⟩
      rcases fty1 k hf with rfl | rfl | rfl | rfl
      · simp (config := {decide := true}) only [hC_R, hC_new, hL_R, hL_new, hR_R, hR_new, Prod.mk.injEq, reduceIte, and_true, true_and, and_false, false_and, g7, g8, g9, g10, g11, g12, g13, g14, g15, g16, g17]; first | done | rfl
      · simp (config := {decide := true}) only [hC_R, hC_new, hL_R, hL_new, hR_R, hR_new, Prod.mk.injEq, reduceIte, and_true, true_and, and_false, false_and, g7, g8, g9, g10, g11, g12, g13, g14, g15, g16, g17]; first | done | rfl
      · simp (config := {decide := true}) only [hC_R, hC_new, hL_R, hL_new, hR_R, hR_new, Prod.mk.injEq, reduceIte, and_true, true_and, and_false, false_and, g7, g8, g9, g10, g11, g12, g13, g14, g15, g16, g17]; first | done | rfl
      · simp (config := {decide := true}) only [hC_R, hC_new, hL_R, hL_new, hR_R, hR_new, Prod.mk.injEq, reduceIte, and_true, true_and, and_false, false_and, g7, g8, g9, g10, g11, g12, g13, g14, g15, g16, g17]; first | done | rfl
    · refine ⟨fun k hf => ?_, fun z => ?_⟩
      · exact absurd hf (ftyA (by decide))
      · simp (config := {decide := true}) only [hC_R, hC_new, hL_R, hL_new, hR_R, hR_new, Prod.mk.injEq, reduceIte, and_true, true_and, and_false, false_and, g7, g8, g9, g10, g11, g12, g13, g14, g15, g16, g17]; first | done | rfl
    · refine ⟨fun k hf => ?_, fun z => ?_⟩
      · exact absurd hf (ftyA (by decide))
      · simp (config := {decide := true}) only [hC_R, hC_new, hL_R, hL_new, hR_R, hR_new, Prod.mk.injEq, reduceIte, and_true, true_and, and_false, false_and, g7, g8, g9, g10, g11, g12, g13, g14, g15, g16, g17]; first | done | rfl
    · refine ⟨fun k hf => ?_, fun z => absurd rfl z⟩
      rcases fty3 k hf with rfl | rfl
      · simp (config := {decide := true}) only [hC_R, hC_new, hL_R, hL_new, hR_R, hR_new, Prod.mk.injEq, reduceIte, and_true, true_and, and_false, false_and, g7, g8, g9, g10, g11, g12, g13, g14, g15, g16, g17]; first | done | rfl
      · simp (config := {decide := true}) only [hC_R, hC_new, hL_R, hL_new, hR_R, hR_new, Prod.mk.injEq, reduceIte, and_true, true_and, and_false, false_and, g7, g8, g9, g10, g11, g12, g13, g14, g15, g16, g17]; first | done | rfl
    · refine ⟨fun k hf => ?_, fun z => ?_⟩
      · exact absurd hf (ftyA (by decide))
      · simp (config := {decide := true}) only [hC_R, hC_new, hL_R, hL_new, hR_R, hR_new, Prod.mk.injEq, reduceIte, and_true, true_and, and_false, false_and, g7, g8, g9, g10, g11, g12, g13, g14, g15, g16, g17]; first | done | rfl
    · refine ⟨fun k hf => ?_, fun z => ?_⟩
      · exact absurd hf (ftyA (by decide))
      · simp (config := {decide := true}) only [hC_R, hC_new, hL_R, hL_new, hR_R, hR_new, Prod.mk.injEq, reduceIte, and_true, true_and, and_false, false_and, g7, g8, g9, g10, g11, g12, g13, g14, g15, g16, g17]; first | done | rfl
    · refine ⟨fun k hf => ?_, fun z => absurd rfl z⟩
      rcases fty4 k hf with rfl | rfl | rfl | rfl
      · simp (config := {decide := true}) only [hC_R, hC_new, hL_R, hL_new, hR_R, hR_new, Prod.mk.injEq, reduceIte, and_true, true_and, and_false, false_and, g7, g8, g9, g10, g11, g12, g13, g14, g15, g16, g17]; first | done | rfl
      · simp (config := {decide := true}) only [hC_R, hC_new, hL_R, hL_new, hR_R, hR_new, Prod.mk.injEq, reduceIte, and_true, true_and, and_false, false_and, g7, g8, g9, g10, g11, g12, g13, g14, g15, g16, g17]; first | done | rfl
      · simp (config := {decide := true}) only [hC_R, hC_new, hL_R, hL_new, hR_R, hR_new, Prod.mk.injEq, reduceIte, and_true, true_and, and_false, false_and, g7, g8, g9, g10, g11, g12, g13, g14, g15, g16, g17]; first | done | rfl
      · simp (config := {decide := true}) only [hC_R, hC_new, hL_R, hL_new, hR_R, hR_new, Prod.mk.injEq, reduceIte, and_true, true_and, and_false, false_and, g7, g8, g9, g10, g11, g12, g13, g14, g15, g16, g17]; first | done | rfl
    · refine ⟨fun k hf => ?_, fun z => ?_⟩
      · exact absurd hf (ftyA (by decide))
      · simp (config := {decide := true}) only [hC_R, hC_new, hL_R, hL_new, hR_R, hR_new, Prod.mk.injEq, reduceIte, and_true, true_and, and_false, false_and, g7, g8, g9, g10, g11, g12, g13, g14, g15, g16, g17]; first | done | rfl
    · refine ⟨fun k hf => ?_, fun z => ?_⟩
      · exact absurd hf (ftyA (by decide))
      · simp (config := {decide := true}) only [hC_R, hC_new, hL_R, hL_new, hR_R, hR_new, Prod.mk.injEq, reduceIte, and_true, true_and, and_false, false_and, g7, g8, g9, g10, g11, g12, g13, g14, g15, g16, g17]; first | done | rfl
    · refine ⟨fun k hf => ?_, fun z => ?_⟩
      · exact absurd hf (ftyA (by decide))
      · simp (config := {decide := true}) only [hC_R, hC_new, hL_R, hL_new, hR_R, hR_new, Prod.mk.injEq, reduceIte, and_true, true_and, and_false, false_and, g7, g8, g9, g10, g11, g12, g13, g14, g15, g16, g17]; first | done | rfl
    · refine ⟨fun k hf => ?_, fun z => ?_⟩
      · exact absurd hf (ftyA (by decide))
      · simp (config := {decide := true}) only [hC_R, hC_new, hL_R, hL_new, hR_R, hR_new, Prod.mk.injEq, reduceIte, and_true, true_and, and_false, false_and, g7, g8, g9, g10, g11, g12, g13, g14, g15, g16, g17]; first | done | rfl
  · show hpR (setR (LH (newC h 7 0 17) nl) (1, 0) nl (some (7, nl))) (1, 0) k = _
    rw [hR_R]
    by_cases q : k = nl
    · rw [if_pos ⟨rfl, q⟩, q]
    · rw [if_neg (fun z => q z.2), (hE 1 0 (by rw [hw.1]; exact Nat.one_pos)).2]
      exact hw.2.2.2.1 k (by omega)
  · show hpR (setR (LH (newC h 7 0 17) nl) (1, 0) nl (some (7, nl))) (2, 0) k = _
    rw [hR_R, if_neg (fun z => by have z := z.1; rw [Prod.mk.injEq] at z; exact absurd z.1 (by decide)), (hE 2 0 (by rw [hw.1]; exact Nat.one_pos)).2]
    exact hw.2.2.2.2.1 k hk
  · show hpR (setR (LH (newC h 7 0 17) nl) (1, 0) nl (some (7, nl))) (3, 0) k = _
    rw [hR_R, if_neg (fun z => by have z := z.1; rw [Prod.mk.injEq] at z; exact absurd z.1 (by decide)), (hE 3 0 (by rw [hw.1]; exact Nat.one_pos)).2]
    exact hw.2.2.2.2.2.1 k hk
theorem OH_N (h : Hp) (i : Nat) : hpN (OH h i) = hpN h + 11 := by
  unfold OH LH UH QH
  simp only [hN_new, hN_R]
theorem OH_S (h : Hp) (i : Nat) : hpS (OH h i) = hpS h + 2237 := by
  unfold OH LH UH QH
  simp only [hS_new, hS_R]
theorem OH_g (h : Hp) (i : Nat) : gS (OH h i) = gS h := by
  unfold OH LH UH QH
  simp (config := {decide := true}) only [gS_R, gS_new]
theorem OH_L {h : Hp} {nl nf np f : Nat} (hw : WF h nl nf np) (hf : f < nf) : hpL (OH h nl) (21, f) = hpL h (21, f) := by
  unfold OH LH UH QH
  simp (config := {decide := true}) only [hL_R, hL_new, Prod.mk.injEq, reduceIte, false_and]
