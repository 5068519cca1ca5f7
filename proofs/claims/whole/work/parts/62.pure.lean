/-! The pure part: frame(). -/
theorem cl_frame {nl nf np n : Nat} {A B : Nat → Nat} {c : CS} {s : SS} (h : IVC nl nf np n A B c s) : ∃ t q m, s 0 42 = nI t ∧ t ≤ 4000 ∧ s 0 43 = nI q ∧ 1 ≤ q ∧ q ≤ 250 ∧ (t + q - 1) / q = m ∧ m ≤ 4000 ∧ c 0 0 12 = nI t ∧ c 0 0 13 = nI q ∧ s 0 40 = nI (B nf) ∧ B nf ≤ 4000 * nf ∧
    (frR c (nI m) = -3 → (frameF s).1 = -3 ∧ IVC nl nf np (n + 1) A B (refX c 3) (frameF s).2) ∧
    (frR c (nI m) = -6 → (frameF s).1 = -6 ∧ IVC nl nf np (n + 1) A B (refX c 6) (frameF s).2) ∧
    (frR c (nI m) = 0 → nf < 300 → np + m ≤ 3000 → (frameF s).1 = nI nf ∧ ∀ c2, Eo 21 21 nf (zC c 20 nf) c2 → (∀ k, k < t → c2 21 nf k = c 5 0 k) → IVC nl (nf + 1) (np + m) (n + 1) (exN A (nf + 1) (np + m)) (exN B (nf + 1) (B nf + t)) (FRC c2 nf np m t) (frameF s).2) := by
  have h0 := h
  obtain ⟨T, fn, g, h⟩ := h
  obtain ⟨b1, ⟨t, b2, b2'⟩, b3, ⟨q, b4, q1, q2⟩, b5, b6, b7⟩ := h.1.2.2.2.2.2.2.2.2
  obtain ⟨g1, g2, g3, g4, g5, g6, g7, g8⟩ := h.1.2.2.2.2.2.2.1
  have hnf := h.1.1.1.1
  have hnp := IV_np h
  have hg := h.1.2.2.2.2.2.1.1
  generalize hm : (t + q - 1) / q = m
  have mt : m ≤ t := by
    by_cases w : t = 0
    · subst w
      rw [← hm, Nat.div_eq_of_lt (by omega)]
      exact Nat.le_refl _
    · exact (cut_n hm q1 (by omega)).2.1
  refine ⟨t, q, m, b2, b2', b4, q1, q2, hm, by omega, b1.trans b2, b3.trans b4, h.1.1.1.2.2.2.2.2, FX_B h.1.1 nf (Nat.le_refl _), ?_⟩
  unfold frR frameF
  rw [b1, b2, b4, g2.1, g2.2, g3.1, g3.2, g6.1, g6.2, nat_nI (by omega), nat_nI (by omega), nat_nI (by omega), nat_nI (by omega), hm, h.1.1.1.2.2.2.2.2, nat_nI (by have := FX_B h.1.1 nf (Nat.le_refl _); omega)]
  by_cases w : nI t = 0
  · rw [if_pos w, if_pos w]
    exact ⟨fun _ => ⟨rfl, IVC_ref h0 3⟩, fun z => absurd z (by decide), fun z => absurd z (by decide)⟩
  · rw [if_neg w, if_neg w]
    have t1 : 1 ≤ t := Nat.pos_of_ne_zero (fun z => w (by rw [z]; rfl))
    have iff1 : ((300 ≤ nI nf ∨ 3000 < nI np + nI m) ∨ 100 ≤ nI nf - nI g) ↔ (nI nf = 300 ∨ 3000 < nI np + nI m ∨ 100 ≤ nI nf - nI g) := by
      have : (300 : Int32) ≤ nI nf ↔ nI nf = 300 := by
        constructor
        · intro z
          have := (nI_leI (a := 300) (by omega) (by omega)).mp z
          rw [show nf = 300 by omega]
          rfl
        · intro z
          rw [z]
          exact Int32.le_refl _
      rw [this, or_assoc]
    by_cases y : (300 ≤ nI nf ∨ 3000 < nI np + nI m) ∨ 100 ≤ nI nf - nI g
    · rw [if_pos y, if_pos (iff1.mp y)]
      exact ⟨fun z => absurd z (by decide), fun _ => ⟨rfl, IVC_ref h0 6⟩, fun z => absurd z (by decide)⟩
    · rw [if_neg y, if_neg (fun z => y (iff1.mpr z))]
      refine ⟨fun z => absurd z (by decide), fun z => absurd z (by decide), fun _ f1 f2 => ⟨rfl, fun c2 e1 e2 => ⟨T, fn, g, ?_⟩⟩⟩
      exact IV_n (IV_frame h b2 t1 b2' b4 q1 q2 hm f1 f2 e1 e2)
