/-! The pure part: pieces on lines; the steps of a line in both numbers. -/
def On (s : SS) (l p : Nat) : Prop := s 23 p = 1 ∧ s 28 p = nI l
/-- the queue's pieces (from kq on) and those sent with counts from w on are those that are LAID on the line -/
def CPl (s : SS) (np l kq q : Nat) (Q : Nat → Int32) (w cnt : Nat) (R : Nat → Int32) : Prop :=
  (∀ k, kq ≤ k → k < q → Q k = -2 ∨ ∃ p, p < np ∧ Q k = nI p ∧ On s l p ∧ s 29 p = -1) ∧
  (∀ i j, kq ≤ i → i < j → j < q → Q i = Q j → Q i = -2) ∧
  (∀ i, w ≤ i → i < cnt → R i = -2 ∨ ∃ p, p < np ∧ R i = nI p ∧ On s l p ∧ s 29 p = nI i) ∧
  (∀ p, p < np → On s l p → (s 29 p = -1 ∧ ∃ k, kq ≤ k ∧ k < q ∧ Q k = nI p) ∨ ∃ i, w ≤ i ∧ i < cnt ∧ s 29 p = nI i ∧ R i = nI p)
theorem CP_c {s s' : SS} {np l kq q : Nat} {Q : Nat → Int32} {w cnt : Nat} {R : Nat → Int32} (h : CPl s np l kq q Q w cnt R) (h1 : ∀ p, p < np → (On s' l p ↔ On s l p)) (h2 : ∀ p, p < np → On s l p → s' 29 p = s 29 p) : CPl s' np l kq q Q w cnt R := by
  obtain ⟨a1, a2, a3, a4⟩ := h
  refine ⟨fun k k1 k2 => ?_, a2, fun i i1 i2 => ?_, fun p p1 p2 => ?_⟩
  · rcases a1 k k1 k2 with z | ⟨p, p1, p2, p3, p4⟩
    · exact Or.inl z
    · exact Or.inr ⟨p, p1, p2, (h1 p p1).mpr p3, (h2 p p1 p3).trans p4⟩
  · rcases a3 i i1 i2 with z | ⟨p, p1, p2, p3, p4⟩
    · exact Or.inl z
    · exact Or.inr ⟨p, p1, p2, (h1 p p1).mpr p3, (h2 p p1 p3).trans p4⟩
  · have p3 := (h1 p p1).mp p2
    rw [h2 p p1 p3]
    exact a4 p p1 p3
theorem nI_inj {a b : Nat} (ha : a < 2147483648) (hb : b < 2147483648) (h : nI a = nI b) : a = b := (nI_eq ha hb).mp h
theorem CP_add {s s' : SS} {np l q : Nat} {Q : Nat → Int32} {w cnt : Nat} {R : Nat → Int32} (h : CPl s np l 0 q Q w cnt R) (p : Nat) (hp : p < np) (hn : np ≤ 3000) (h0 : ¬ On s l p) (h1 : ∀ p', p' < np → ¬ p' = p → (On s' l p' ↔ On s l p') ∧ s' 29 p' = s 29 p') (h2 : On s' l p) (h3 : s' 29 p = -1) : CPl s' np l 0 (q + 1) (exN Q q (nI p)) w cnt R := by
  obtain ⟨a1, a2, a3, a4⟩ := h
  refine ⟨fun k k1 k2 => ?_, fun i j i1 i2 i3 i4 => ?_, fun i i1 i2 => ?_, fun p' p1 p2 => ?_⟩
  · by_cases z : k = q
    · rw [z, exN_e]
      exact Or.inr ⟨p, hp, rfl, h2, h3⟩
    · rw [exN_n _ _ z]
      rcases a1 k k1 (by omega) with z | ⟨p', p1, p2, p3, p4⟩
      · exact Or.inl z
      · have ne : ¬ p' = p := fun e => h0 (e ▸ p3)
        exact Or.inr ⟨p', p1, p2, (h1 p' p1 ne).1.mpr p3, (h1 p' p1 ne).2.trans p4⟩
  · rw [exN_n _ _ (by omega)] at i4 ⊢
    by_cases z : j = q
    · rw [z, exN_e] at i4
      rcases a1 i i1 (by omega) with z | ⟨p', p1, p2, p3, p4⟩
      · exact z
      · have : p' = p := nI_inj (by omega) (by omega) (p2.symm.trans i4)
        exact absurd (this ▸ p3) h0
    · rw [exN_n _ _ z] at i4
      exact a2 i j i1 i2 (by omega) i4
  · rcases a3 i i1 i2 with z | ⟨p', p1, p2, p3, p4⟩
    · exact Or.inl z
    · have ne : ¬ p' = p := fun e => h0 (e ▸ p3)
      exact Or.inr ⟨p', p1, p2, (h1 p' p1 ne).1.mpr p3, (h1 p' p1 ne).2.trans p4⟩
  · by_cases z : p' = p
    · rw [z]
      exact Or.inl ⟨h3, q, Nat.zero_le _, by omega, exN_e _ _ _⟩
    · have p3 := (h1 p' p1 z).1.mp p2
      rw [(h1 p' p1 z).2]
      rcases a4 p' p1 p3 with ⟨b1, k, b2, b3, b4⟩ | b
      · exact Or.inl ⟨b1, k, b2, by omega, by rw [exN_n _ _ (by omega)]; exact b4⟩
      · exact Or.inr b
theorem CP_addE {s : SS} {np l q : Nat} {Q : Nat → Int32} {w cnt : Nat} {R : Nat → Int32} (h : CPl s np l 0 q Q w cnt R) : CPl s np l 0 (q + 1) (exN Q q (-2)) w cnt R := by
  obtain ⟨a1, a2, a3, a4⟩ := h
  refine ⟨fun k k1 k2 => ?_, fun i j i1 i2 i3 i4 => ?_, a3, fun p' p1 p2 => ?_⟩
  · by_cases z : k = q
    · rw [z, exN_e]
      exact Or.inl rfl
    · rw [exN_n _ _ z]
      exact a1 k k1 (by omega)
  · rw [exN_n _ _ (by omega)] at i4 ⊢
    by_cases z : j = q
    · rw [z, exN_e] at i4
      exact i4
    · rw [exN_n _ _ z] at i4
      exact a2 i j i1 i2 (by omega) i4
  · rcases a4 p' p1 p2 with ⟨b1, k, b2, b3, b4⟩ | b
    · exact Or.inl ⟨b1, k, b2, by omega, by rw [exN_n _ _ (by omega)]; exact b4⟩
    · exact Or.inr b
theorem CP_send {s s' : SS} {np l q : Nat} {Q : Nat → Int32} {w cnt : Nat} {R : Nat → Int32} (h : CPl s np l 0 (q + 1) Q w cnt R) (hn : np ≤ 3000) (hw : w ≤ cnt) (hc : cnt < 2147483648) (h1 : ∀ p, p < np → (On s' l p ↔ On s l p) ∧ (¬ Q 0 = nI p → s' 29 p = s 29 p) ∧ (Q 0 = nI p → s' 29 p = nI cnt)) : CPl s' np l 0 q (fun k => Q (k + 1)) w (cnt + 1) (exN R cnt (Q 0)) := by
  obtain ⟨a1, a2, a3, a4⟩ := h
  refine ⟨fun k k1 k2 => ?_, fun i j i1 i2 i3 i4 => a2 (i + 1) (j + 1) (by omega) (by omega) (by omega) i4, fun i i1 i2 => ?_, fun p p1 p2 => ?_⟩
  · rcases a1 (k + 1) (by omega) (by omega) with z | ⟨p, p1, p2, p3, p4⟩
    · exact Or.inl z
    · have ne : ¬ Q 0 = nI p := fun e => by
        have := a2 0 (k + 1) (by omega) (by omega) (by omega) (e.trans p2.symm)
        rw [e] at this
        exact nI_nem2 (by omega) this
      exact Or.inr ⟨p, p1, p2, (h1 p p1).1.mpr p3, ((h1 p p1).2.1 ne).trans p4⟩
  · by_cases z : i = cnt
    · rw [z, exN_e]
      rcases a1 0 (by omega) (by omega) with z | ⟨p, p1, p2, p3, p4⟩
      · exact Or.inl z
      · exact Or.inr ⟨p, p1, p2, (h1 p p1).1.mpr p3, (h1 p p1).2.2 p2⟩
    · rw [exN_n _ _ z]
      rcases a3 i i1 (by omega) with z | ⟨p, p1, p2, p3, p4⟩
      · exact Or.inl z
      · have ne : ¬ Q 0 = nI p := fun e => by
          rcases a1 0 (by omega) (by omega) with z | ⟨p', q1, q2, q3, q4⟩
          · rw [e] at z
            exact nI_nem2 (by omega) z
          · have : p' = p := nI_inj (by omega) (by omega) (q2.symm.trans e)
            rw [this, p4] at q4
            revert q4
            have : ¬ nI i < 0 := nI_pos (by omega)
            intro q4
            rw [q4] at this
            exact this (by decide)
        exact Or.inr ⟨p, p1, p2, (h1 p p1).1.mpr p3, ((h1 p p1).2.1 ne).trans p4⟩
  · have p3 := (h1 p p1).1.mp p2
    by_cases z : Q 0 = nI p
    · exact Or.inr ⟨cnt, hw, by omega, (h1 p p1).2.2 z, by rw [exN_e]; exact z⟩
    · rw [(h1 p p1).2.1 z]
      rcases a4 p p1 p3 with ⟨b1, k, b2, b3, b4⟩ | ⟨i, b1, b2, b3, b4⟩
      · cases k with
        | zero => exact absurd b4 z
        | succ k => exact Or.inl ⟨b1, k, by omega, by omega, b4⟩
      · exact Or.inr ⟨i, b1, by omega, b3, by rw [exN_n _ _ (by omega)]; exact b4⟩
/-- an EMPTY goes out of the window -/
theorem CP_outE {s : SS} {np l kq q : Nat} {Q : Nat → Int32} {w cnt : Nat} {R : Nat → Int32} (h : CPl s np l kq q Q w cnt R) (hn : np ≤ 3000) (hw : w < cnt) (hE : R w = -2) : CPl s np l kq q Q (w + 1) cnt R := by
  obtain ⟨a1, a2, a3, a4⟩ := h
  refine ⟨a1, a2, fun i i1 i2 => a3 i (by omega) i2, fun p p1 p2 => ?_⟩
  rcases a4 p p1 p2 with b | ⟨i, b1, b2, b3, b4⟩
  · exact Or.inl b
  · refine Or.inr ⟨i, ?_, b2, b3, b4⟩
    rcases Nat.lt_or_eq_of_le b1 with z | z
    · exact z
    · rw [← z, hE] at b4
      exact absurd b4.symm (nI_nem2 (by omega))
/-- a piece goes out of the window -/
theorem CP_out {s s' : SS} {np l kq q : Nat} {Q : Nat → Int32} {w cnt : Nat} {R : Nat → Int32} (h : CPl s np l kq q Q w cnt R) (hn : np ≤ 3000) (hw : w < cnt) (hc : cnt < 2147483648) {p : Nat} (hp : p < np) (hE : R w = nI p) (h1 : ∀ p', p' < np → ¬ p' = p → (On s' l p' ↔ On s l p') ∧ s' 29 p' = s 29 p') (h2 : ¬ On s' l p) : CPl s' np l kq q Q (w + 1) cnt R := by
  obtain ⟨a1, a2, a3, a4⟩ := h
  have hp29 : s 29 p = nI w := by
    rcases a3 w (by omega) hw with z | ⟨p', p1, p2, p3, p4⟩
    · rw [hE] at z
      exact absurd z (nI_nem2 (by omega))
    · have : p' = p := nI_inj (by omega) (by omega) (p2.symm.trans hE)
      rw [← this]
      exact p4
  have m1 : ∀ i, i < 2147483648 → ¬ nI i = -1 := fun i hi => nI_neg hi _ (by decide)
  refine ⟨fun k k1 k2 => ?_, a2, fun i i1 i2 => ?_, fun p' p1 p2 => ?_⟩
  · rcases a1 k k1 k2 with z | ⟨p', p1, p2, p3, p4⟩
    · exact Or.inl z
    · have ne : ¬ p' = p := fun e => by
        rw [e, hp29] at p4
        exact m1 w (by omega) p4
      exact Or.inr ⟨p', p1, p2, (h1 p' p1 ne).1.mpr p3, (h1 p' p1 ne).2.trans p4⟩
  · rcases a3 i (by omega) i2 with z | ⟨p', p1, p2, p3, p4⟩
    · exact Or.inl z
    · have ne : ¬ p' = p := fun e => by
        rw [e, hp29] at p4
        have := nI_inj (by omega) (by omega) p4
        omega
      exact Or.inr ⟨p', p1, p2, (h1 p' p1 ne).1.mpr p3, (h1 p' p1 ne).2.trans p4⟩
  · have ne : ¬ p' = p := fun e => h2 (e ▸ p2)
    have p3 := (h1 p' p1 ne).1.mp p2
    rw [(h1 p' p1 ne).2]
    rcases a4 p' p1 p3 with b | ⟨i, b1, b2, b3, b4⟩
    · exact Or.inl b
    · refine Or.inr ⟨i, ?_, b2, b3, b4⟩
      rcases Nat.lt_or_eq_of_le b1 with z | z
      · exact z
      · rw [← z, hE] at b4
        exact absurd (nI_inj (by omega) (by omega) b4.symm) ne
theorem CP_qoutE {s : SS} {np l kq q : Nat} {Q : Nat → Int32} {w cnt : Nat} {R : Nat → Int32} (h : CPl s np l kq q Q w cnt R) (hn : np ≤ 3000) (hE : Q kq = -2) : CPl s np l (kq + 1) q Q w cnt R := by
  obtain ⟨a1, a2, a3, a4⟩ := h
  refine ⟨fun k k1 k2 => a1 k (by omega) k2, fun i j i1 => a2 i j (by omega), a3, fun p p1 p2 => ?_⟩
  rcases a4 p p1 p2 with ⟨b0, k, b1, b2, b3⟩ | b
  · refine Or.inl ⟨b0, k, ?_, b2, b3⟩
    rcases Nat.lt_or_eq_of_le b1 with z | z
    · exact z
    · rw [← z, hE] at b3
      exact absurd b3.symm (nI_nem2 (by omega))
  · exact Or.inr b
theorem CP_qout {s s' : SS} {np l kq q : Nat} {Q : Nat → Int32} {w cnt : Nat} {R : Nat → Int32} (h : CPl s np l kq q Q w cnt R) (hn : np ≤ 3000) (hw : kq < q) (hc : cnt < 2147483648) {p : Nat} (hp : p < np) (hE : Q kq = nI p) (h1 : ∀ p', p' < np → ¬ p' = p → (On s' l p' ↔ On s l p') ∧ s' 29 p' = s 29 p') (h2 : ¬ On s' l p) : CPl s' np l (kq + 1) q Q w cnt R := by
  obtain ⟨a1, a2, a3, a4⟩ := h
  have hp29 : s 29 p = -1 := by
    rcases a1 kq (by omega) hw with z | ⟨p', p1, p2, p3, p4⟩
    · rw [hE] at z
      exact absurd z (nI_nem2 (by omega))
    · have : p' = p := nI_inj (by omega) (by omega) (p2.symm.trans hE)
      rw [← this]
      exact p4
  have m1 : ∀ i, i < 2147483648 → ¬ nI i = -1 := fun i hi => nI_neg hi _ (by decide)
  refine ⟨fun k k1 k2 => ?_, fun i j i1 => a2 i j (by omega), fun i i1 i2 => ?_, fun p' p1 p2 => ?_⟩
  · rcases a1 k (by omega) k2 with z | ⟨p', p1, p2, p3, p4⟩
    · exact Or.inl z
    · have ne : ¬ p' = p := fun e => by
        rw [e] at p2
        have := a2 kq k (by omega) (by omega) k2 (hE.trans p2.symm)
        rw [hE] at this
        exact nI_nem2 (by omega) this
      exact Or.inr ⟨p', p1, p2, (h1 p' p1 ne).1.mpr p3, (h1 p' p1 ne).2.trans p4⟩
  · rcases a3 i (by omega) i2 with z | ⟨p', p1, p2, p3, p4⟩
    · exact Or.inl z
    · have ne : ¬ p' = p := fun e => by
        rw [e, hp29] at p4
        exact m1 i (by omega) p4.symm
      exact Or.inr ⟨p', p1, p2, (h1 p' p1 ne).1.mpr p3, (h1 p' p1 ne).2.trans p4⟩
  · have ne : ¬ p' = p := fun e => h2 (e ▸ p2)
    have p3 := (h1 p' p1 ne).1.mp p2
    rw [(h1 p' p1 ne).2]
    rcases a4 p' p1 p3 with ⟨b0, k, b1, b2, b3⟩ | b
    · refine Or.inl ⟨b0, k, ?_, b2, b3⟩
      rcases Nat.lt_or_eq_of_le b1 with z | z
      · exact z
      · rw [← z, hE] at b3
        exact absurd (nI_inj (by omega) (by omega) b3.symm) ne
    · exact Or.inr b
/-- nothing is left on it -/
theorem CP_none {s : SS} {np l q : Nat} {Q : Nat → Int32} {cnt : Nat} {R : Nat → Int32} (h : CPl s np l q q Q cnt cnt R) : ∀ p, p < np → ¬ On s l p := by
  obtain ⟨a1, a2, a3, a4⟩ := h
  intro p p1 p2
  rcases a4 p p1 p2 with ⟨b0, k, b1, b2, b3⟩ | ⟨i, b1, b2, b3⟩
  · omega
  · omega
theorem CP_no {s : SS} {np l : Nat} (Q : Nat → Int32) (cnt : Nat) (R : Nat → Int32) (h : ∀ p, p < np → ¬ On s l p) : CPl s np l 0 0 Q cnt cnt R :=
  ⟨fun k k1 k2 => absurd k2 (by omega), fun i j i1 i2 i3 => absurd i3 (by omega), fun i i1 i2 => absurd i2 (by omega), fun p p1 p2 => absurd p2 (h p p1)⟩
/-! The steps in both numbers. -/
theorem S1 (s : SS) (l : Nat) {j : Nat} (h : wid j = 1) : Sl s l j 0 = s j l := by
  rw [Sl_at s l (by omega), h, Nat.one_mul, Nat.add_zero]
theorem S7 (s : SS) (l k : Nat) (h : k < 41) : Sl s l 7 k = s 7 (41 * l + k) := Sl_at s l (j := 7) h
theorem SW (s : SS) (l : Nat) {j k : Nat} (h : wid j = 200) (hk : k < 200) : Sl s l j k = s j (200 * l + k) := by
  rw [Sl_at s l (by omega), h]
theorem SL22 (s : SS) (l k : Nat) (h : k < 20) : Sl s l 22 k = s 22 (20 * l + k) := Sl_at s l (j := 22) h
theorem Sl_own1 (s : SS) (l : Nat) {j : Nat} (v : Int32) (h : wid j = 1) : Sl (uS s j l v) l = uL (Sl s l) j 0 v := Sl_own s l (k := 0) l v (by omega) (by rw [h]; omega)
theorem Sl_own7 (s : SS) (l k : Nat) (v : Int32) (h : k < 41) : Sl (uS s 7 (41 * l + k) v) l = uL (Sl s l) 7 k v := Sl_own s l (j := 7) _ v h rfl
theorem Sl_ownW (s : SS) (l : Nat) {j k : Nat} (v : Int32) (hj : wid j = 200) (h : k < 200) : Sl (uS s j (200 * l + k) v) l = uL (Sl s l) j k v := Sl_own s l _ v (by omega) (by rw [hj])
theorem Sl_own22 (s : SS) (l k : Nat) (v : Int32) (h : k < 20) : Sl (uS s 22 (20 * l + k) v) l = uL (Sl s l) 22 k v := Sl_own s l (j := 22) _ v h rfl
theorem Cl_add (c : CS) (l : Nat) (n z : Int32) : Cl (x3_addF c l n z) l = qaC (Cl c l) n z := by
  unfold x3_addF
  rw [Cl_own _ _ _ _ (by decide), Cl_own _ _ _ _ (by decide), Cl_own _ _ _ _ (by decide), Cl_own _ _ _ _ (by decide)]
  rfl
theorem Cl_send (c : CS) (l : Nat) (t : Int32) : Cl (x1_sendFirstF c l t) l = sfC (Cl c l) t := by
  unfold x1_sendFirstF x4_addF x3_dropFirstF
  simp only [Cl_own _ _ _ _ (show 7 ≤ 7 ∧ 7 ≤ 17 by decide), Cl_own _ _ _ _ (show 7 ≤ 8 ∧ 8 ≤ 17 by decide), Cl_own _ _ _ _ (show 7 ≤ 10 ∧ 10 ≤ 17 by decide), Cl_own _ _ _ _ (show 7 ≤ 13 ∧ 13 ≤ 17 by decide), Cl_own _ _ _ _ (show 7 ≤ 14 ∧ 14 ≤ 17 by decide), Cl_own _ _ _ _ (show 7 ≤ 15 ∧ 15 ≤ 17 by decide), Cl_own _ _ _ _ (show 7 ≤ 16 ∧ 16 ≤ 17 by decide), Cl_own _ _ _ _ (show 7 ≤ 17 ∧ 17 ≤ 17 by decide)]
  rfl
theorem Cl_take (c : CS) (l : Nat) (t m : Int32) : Cl (sbG c l t m) l = qtC (Cl c l) m := by
  unfold sbG x3_takeFromFirstF
  rw [Cl_own _ _ _ _ (by decide), Cl_own _ _ _ _ (by decide), Cl_own _ _ _ _ (by decide)]
  rfl
theorem Cl_udrop (c : CS) (l : Nat) : Cl (x4_dropFirstF c l) l = udC (Cl c l) := by
  unfold x4_dropFirstF
  rw [Cl_own _ _ _ _ (by decide), Cl_own _ _ _ _ (by decide)]
  rfl
theorem Cl_mark (c : CS) (l k : Nat) (m : Int32) : Cl (x4_markF c l (nI k) m) l = umC (Cl c l) k m := by
  unfold x4_markF
  rw [Cl_own _ _ _ _ (by decide)]
  rfl
theorem Cl_down (c : CS) (l : Nat) : Cl (x1_goDownF c l) l = dnC (Cl c l) := by
  unfold x1_goDownF x4_clearF x3_clearF
  have e : (uC (uC (uC (uC (uC c 7 l 8 0) 10 l 3 0) 10 l 4 0) 10 l 5 0) 13 l 5 0) 7 l 11 = c 7 l 11 := by
    rw [uC_t _ _ _ _ _ _ (by decide), uC_t _ _ _ _ _ _ (by decide), uC_t _ _ _ _ _ _ (by decide), uC_t _ _ _ _ _ _ (by decide), uC_k _ _ _ _ _ _ (by decide)]
  rw [e, Cl_own _ _ _ _ (by decide), Cl_own _ _ _ _ (by decide), Cl_own _ _ _ _ (by decide), Cl_own _ _ _ _ (by decide), Cl_own _ _ _ _ (by decide), Cl_own _ _ _ _ (by decide)]
  rfl
theorem Sl_add (s : SS) (l : Nat) (v : Int32) (h : nat (s 8 l) < 41) : Sl (layF s v l) l = qaS (Sl s l) v := by
  unfold layF qaS
  rw [Sl_own1 _ _ _ (by decide), Sl_own7 _ _ _ _ h, S1 _ _ (by decide)]
theorem Sl_sh (s : SS) (l n : Nat) (h : n < 41) : Sl (shF s l n) l = shL (Sl s l) n := by
  funext j k
  by_cases w : j = 7 ∧ k < n
  · obtain ⟨rfl, w⟩ := w
    rw [S7 _ _ _ (by omega)]
    have e1 : shF s l n 7 (41 * l + k) = s 7 (41 * l + k + 1) := if_pos ⟨rfl, by omega, by omega⟩
    have e2 : shL (Sl s l) n 7 k = Sl s l 7 (k + 1) := if_pos ⟨rfl, w⟩
    rw [e1, e2, S7 _ _ _ (by omega), Nat.add_assoc]
  · have e2 : shL (Sl s l) n j k = Sl s l j k := if_neg w
    rw [e2]
    by_cases a : k < wid j
    · rw [Sl_at _ _ a, Sl_at _ _ a]
      refine if_neg (fun z => ?_)
      obtain ⟨rfl, z⟩ := z
      have e7 : wid 7 * l = 41 * l := rfl
      rw [e7] at z
      omega
    · unfold Sl
      rw [if_neg a, if_neg a]
theorem Sl_take (s : SS) (l t : Nat) (m : Int32) : Sl (uS (uS (uS s 9 l (s 9 l + m)) 18 l (s 18 l + m)) 22 (20 * l + t % 20) (s 22 (20 * l + t % 20) + m)) l = qtS (Sl s l) t m := by
  unfold qtS
  rw [Sl_own22 _ _ _ _ (Nat.mod_lt _ (by decide)), Sl_own1 _ _ _ (by decide), Sl_own1 _ _ _ (by decide), S1 _ _ (by decide), S1 _ _ (by decide), SL22 _ _ _ (Nat.mod_lt _ (by decide))]
theorem Sl_send (s : SS) (l : Nat) (h : nat (s 8 l) ≤ 40) : Sl (sFF s l) l = sfS (Sl s l) (s 0 45) := by
  have hk : (nat (s 14 l) + nat (s 15 l)) % 200 < 200 := Nat.mod_lt _ (by decide)
  have gen : ∀ x : SS, Sl (uS x 16 l (s 16 l + 1)) l = uL (Sl x l) 16 0 (s 16 l + 1) := fun x => Sl_own1 _ _ _ (by decide)
  unfold sFF sfS
  dsimp only
  rw [gen]
  have e : ∀ (b : SS) (p : Int32) (v : Int32), Sl (if p = -2 then b else uS b 29 (nat p) v) l = Sl b l := by
    intro b p v
    split
    · rfl
    · exact Sl_no _ _ _ _ (by decide)
  rw [e]
  unfold wayF
  rw [Sl_ownW _ _ _ (by decide) hk, Sl_ownW _ _ _ (by decide) hk, Sl_ownW _ _ _ (by decide) hk, Sl_ownW _ _ _ (by decide) hk, Sl_own1 _ _ _ (by decide), Sl_own1 _ _ _ (by decide), Sl_sh _ _ _ (by omega), Sl_own1 _ _ _ (by decide)]
  rw [S7 s l 0 (by decide), S1 s l (j := 8) (by decide), S1 s l (j := 14) (by decide), S1 s l (j := 15) (by decide), S1 s l (j := 16) (by decide), S1 s l (j := 3) (by decide)]
  rfl
theorem Sl_udrop (s : SS) (l : Nat) : Sl (uS (uS s 14 l (nI ((nat (s 14 l) + 1) % 200))) 15 l (s 15 l - 1)) l = udS (Sl s l) := by
  unfold udS
  rw [Sl_own1 _ _ _ (by decide), Sl_own1 _ _ _ (by decide), S1 _ _ (by decide), S1 _ _ (by decide)]
theorem Sl_mark (s : SS) (l k : Nat) (m : Int32) : Sl (uS s 13 (wayK s l k) (s 13 (wayK s l k) ||| m)) l = umS (Sl s l) k m := by
  have hk : (nat (s 14 l) + k) % 200 < 200 := Nat.mod_lt _ (by decide)
  unfold umS wayK
  rw [Sl_ownW _ _ _ (by decide) hk, S1 _ _ (by decide), SW _ _ (by decide) hk]
theorem Sl_down (s : SS) (l : Nat) : Sl (uS (uS (uS (uS s 17 l (s 16 l)) 8 l 0) 15 l 0) 9 l 0) l = dnS (Sl s l) := by
  unfold dnS
  rw [Sl_own1 _ _ _ (by decide), Sl_own1 _ _ _ (by decide), Sl_own1 _ _ _ (by decide), Sl_own1 _ _ _ (by decide), S1 _ _ (by decide)]
