/-! The pure part: questions. -/
theorem nF_0 {v lo hi : Int32} (h : ¬ (lo ≤ v ∧ v ≤ hi)) : inF v lo hi = 0 := if_neg h
theorem nF_1 {v lo hi : Int32} (h : lo ≤ v ∧ v ≤ hi) : ¬ inF v lo hi = 0 := by
  unfold inF
  rw [if_pos h]
  decide
theorem i32_neg_or (v : Int32) : v < 0 ∨ ∃ m, m < 2147483648 ∧ v = nI m := by
  by_cases w : v < 0
  · exact Or.inl w
  · exact Or.inr (i32_pos (Int32.not_lt.mp w))
theorem cl_credit {nl nf np n : Nat} {A B : Nat → Nat} {c : CS} {s : SS} (h : IVC nl nf np n A B c s) : x5_creditF c = credF s np := by
  obtain ⟨T, fn, g, h⟩ := h
  exact h.1.2.2.2.2.2.2.2.1

theorem cl_line {nl nf np n : Nat} {A B : Nat → Nat} {c : CS} {s : SS} (h : IVC nl nf np n A B c s) (v a : Int32) : x5_lineF c nl v a = (lineF nl nf np s v a).1 ∧ (lineF nl nf np s v a).2 = s := by
  cases e : lnO nl v with
  | none =>
    unfold x5_lineF lineF
    rw [e]
    exact ⟨rfl, rfl⟩
  | some l =>
    obtain ⟨ev, hl⟩ := lnO_some e
    obtain ⟨T, fn, g, h⟩ := h
    obtain ⟨e1, e2, e3, e4, e5, e6, e7, e8, e9, e10, e11, e12, e13, e14, e15, e16⟩ := IV_all h hl
    rw [x5_lineF_1 e]
    unfold lineF
    rw [e, e1, e2, e3, e4, e5, e6, e7, e8, e9, e10, e11, e12, e13, e14, e15]
    dsimp only
    by_cases w0 : a = 0
    · rw [if_pos w0, if_pos w0]
      exact ⟨rfl, rfl⟩
    rw [if_neg w0, if_neg w0]
    by_cases w1 : a = 1
    · rw [if_pos w1, if_pos w1]
      exact ⟨rfl, rfl⟩
    rw [if_neg w1, if_neg w1]
    by_cases w2 : a = 2
    · rw [if_pos w2, if_pos w2]
      exact ⟨rfl, rfl⟩
    rw [if_neg w2, if_neg w2]
    by_cases w3 : a = 3
    · rw [if_pos w3, if_pos w3]
      by_cases y : s 4 l = 0
      · rw [if_pos y, if_pos y]
        exact ⟨rfl, rfl⟩
      · rw [if_neg y, if_neg y]
        exact ⟨rfl, rfl⟩
    rw [if_neg w3, if_neg w3]
    by_cases w4 : a = 4
    · rw [if_pos w4, if_pos w4]
      exact ⟨rfl, rfl⟩
    rw [if_neg w4, if_neg w4]
    by_cases w5 : a = 5
    · rw [if_pos w5, if_pos w5]
      exact ⟨rfl, rfl⟩
    rw [if_neg w5, if_neg w5]
    by_cases w6 : a = 6
    · rw [if_pos w6, if_pos w6]
      exact ⟨rfl, rfl⟩
    rw [if_neg w6, if_neg w6]
    by_cases w7 : a = 7
    · rw [if_pos w7, if_pos w7]
      exact ⟨rfl, rfl⟩
    rw [if_neg w7, if_neg w7]
    by_cases w8 : a = 8
    · rw [if_pos w8, if_pos w8]
      exact ⟨rfl, rfl⟩
    rw [if_neg w8, if_neg w8]
    by_cases w9 : a = 9
    · rw [if_pos w9, if_pos w9]
      exact ⟨rfl, rfl⟩
    rw [if_neg w9, if_neg w9]
    by_cases w10 : a = 10
    · rw [if_pos w10, if_pos w10]
      exact ⟨rfl, rfl⟩
    rw [if_neg w10, if_neg w10]
    by_cases w11 : a = 11
    · rw [if_pos w11, if_pos w11]
      exact ⟨rfl, rfl⟩
    rw [if_neg w11, if_neg w11]
    by_cases w12 : a = 12
    · rw [if_pos w12, if_pos w12]
      exact ⟨rfl, rfl⟩
    rw [if_neg w12, if_neg w12]
    by_cases w13 : a = 13
    · rw [if_pos w13, if_pos w13]
      exact ⟨rfl, rfl⟩
    rw [if_neg w13, if_neg w13]
    by_cases w14 : a = 14
    · rw [if_pos w14, if_pos w14]
      exact ⟨rfl, rfl⟩
    rw [if_neg w14, if_neg w14]
    exact ⟨rfl, rfl⟩
theorem cl_piece {nl nf np n : Nat} {A B : Nat → Nat} {c : CS} {s : SS} (h : IVC nl nf np n A B c s) (v a : Int32) : x5_pieceF c np v a = (pieceF nl nf np s v a).1 ∧ (pieceF nl nf np s v a).2 = s := by
  cases e : lnO np v with
  | none =>
    unfold x5_pieceF pieceF
    rw [e]
    exact ⟨rfl, rfl⟩
  | some p =>
    obtain ⟨ev, hp⟩ := lnO_some e
    obtain ⟨T, fn, g, h⟩ := h
    have hnp := IV_np h
    have hnf := h.1.1.1.1
    obtain ⟨b1, b2, b3, b4, b5, b6⟩ := h.1.2.1 p hp
    obtain ⟨d1, d2, x, z, d3, d4, d5, d6, d7, d8⟩ := h.1.1.2.2 p hp
    obtain ⟨f, f1, f2, f3⟩ := frOf (A := A) p nf h.1.1.1.2.2.1 (by rw [h.1.1.1.2.2.2.1]; exact hp)
    obtain ⟨a1, a2, a3, a4, a5, a6, a7, a8, a9, a10, a11, a12, a13⟩ := h.1.1.2.1 f f1
    obtain ⟨y1, y2⟩ := a13 p f2 f3
    have hB := FX_B h.1.1 nf (Nat.le_refl _)
    have hAn : A (f + 1) ≤ np := by
      have := A_mono (A := A) (nf := nf) (fun f hf => (h.1.1.2.1 f hf).1) (f + 1) nf f1 (Nat.le_refl _)
      rw [h.1.1.1.2.2.2.1] at this
      exact this
    rw [x5_pieceF_1 e]
    unfold pieceF
    rw [e]
    dsimp only
    rw [b1, b2, b3, d1, d2, y2, d8, y1, d3, nat_nI (show x < 2147483648 by omega), d4, nat_nI (show z < 2147483648 by omega), nat_nI (show f < 2147483648 by omega), a4, a5, nI_add, show A f + (A (f + 1) - A f) = A (f + 1) by omega, show nI (A (f + 1)) - 1 = nI (A (f + 1) - 1) from nI_sub (b := 1) (by omega)]
    by_cases w0 : a = 0
    · rw [if_pos w0, if_pos w0]
      exact ⟨rfl, rfl⟩
    rw [if_neg w0, if_neg w0]
    by_cases w1 : a = 1
    · rw [if_pos w1, if_pos w1]
      exact ⟨rfl, rfl⟩
    rw [if_neg w1, if_neg w1]
    by_cases w2 : a = 2
    · rw [if_pos w2, if_pos w2]
      exact ⟨rfl, rfl⟩
    rw [if_neg w2, if_neg w2]
    by_cases w3 : a = 3
    · rw [if_pos w3, if_pos w3]
      exact ⟨rfl, rfl⟩
    rw [if_neg w3, if_neg w3]
    by_cases w4 : a = 4
    · rw [if_pos w4, if_pos w4]
      exact ⟨rfl, rfl⟩
    rw [if_neg w4, if_neg w4]
    by_cases w5 : a = 5
    · rw [if_pos w5, if_pos w5]
      by_cases y : p + 1 = A (f + 1)
      · rw [if_pos y, if_pos (show nI p = nI (A (f + 1) - 1) by rw [← y]; rfl)]
        exact ⟨rfl, rfl⟩
      · rw [if_neg y, if_neg (show ¬ nI p = nI (A (f + 1) - 1) from fun u => y (by have := nI_inj (by omega) (by omega) u; omega))]
        exact ⟨rfl, rfl⟩
    rw [if_neg w5, if_neg w5]
    by_cases w6 : a = 6
    · rw [if_pos w6, if_pos w6]
      exact ⟨rfl, rfl⟩
    rw [if_neg w6, if_neg w6]
    exact ⟨rfl, rfl⟩
theorem cl_lostOn {nl nf np n : Nat} {A B : Nat → Nat} {c : CS} {s : SS} (h : IVC nl nf np n A B c s) (v a : Int32) : x5_lostOnF c nl np v a = (lostOnF nl nf np s v a).1 ∧ (lostOnF nl nf np s v a).2 = s := by
  unfold x5_lostOnF lostOnF
  cases e : lnO np v with
  | none => exact ⟨rfl, rfl⟩
  | some p =>
    cases e2 : lnO nl a with
    | none => exact ⟨rfl, rfl⟩
    | some l =>
      obtain ⟨ev, hp⟩ := lnO_some e
      obtain ⟨ea, hl⟩ := lnO_some e2
      obtain ⟨T, fn, g, h⟩ := h
      have hnl := IV_nl h
      refine ⟨?_, rfl⟩
      show x2_lossesOnF c p (nI l) = s 30 (8 * p + l)
      unfold x2_lossesOnF
      rw [if_neg (nI_pos (by omega)), if_pos (nI_lt (by omega) (by decide)), nat_nI (by omega)]
      exact (h.1.2.1 p hp).2.2.2.1 l (by omega)
theorem cl_queued {nl nf np n : Nat} {A B : Nat → Nat} {c : CS} {s : SS} (h : IVC nl nf np n A B c s) (v a : Int32) : x5_queuedF c nl v a = (queuedF nl nf np s v a).1 ∧ (queuedF nl nf np s v a).2 = s := by
  unfold x5_queuedF queuedF
  cases e : lnO nl v with
  | none => exact ⟨rfl, rfl⟩
  | some l =>
    obtain ⟨ev, hl⟩ := lnO_some e
    obtain ⟨T, fn, g, h⟩ := h
    obtain ⟨q, hd, so, u, f, uh, cnt, sn, Q, R, M, D, ⟨a1, a2, a3, a4, a5, a6, a7⟩, hb⟩ := h.2.1 l hl
    have e8 : s 8 l = nI q := by rw [← a3.1, S1 _ _ (by decide)]
    have hq := a3.2.1
    have c3 : c 10 l 3 = nI q := a3.2.2.2.2.2.1
    have c2 : c 10 l 2 = nI hd := a3.2.2.2.1
    have hh := a3.2.2.2.2.1
    show (if a < 0 then (-9 : Int32) else if a < c 10 l 3 then x3_numberOfF c l a else -9) = (match lnO (nat (s 8 l)) a with
      | none => ((-9 : Int32), s)
      | some kk => (s 7 (41 * l + kk), s)).1 ∧ (match lnO (nat (s 8 l)) a with
      | none => ((-9 : Int32), s)
      | some kk => (s 7 (41 * l + kk), s)).2 = s
    rw [e8, nat_nI (by omega), c3]
    rcases i32_neg_or a with w | ⟨m, m1, m2⟩
    · rw [if_pos w, lnO_neg w]
      exact ⟨rfl, rfl⟩
    · subst m2
      rw [if_neg (nI_pos m1)]
      by_cases w2 : m < q
      · rw [if_pos (nI_lt w2 (by omega)), lnO_nI w2 (by omega)]
        refine ⟨?_, rfl⟩
        unfold x3_numberOfF
        rw [c2, an63 (by omega)]
        show c 11 l ((hd + m) % 64) = s 7 (41 * l + m)
        rw [← S7 s l m (by omega), (a3.2.2.2.2.2.2.2.2.1 m w2).1]
        exact (a3.2.2.2.2.2.2.2.2.1 m w2).2.1
      · rw [if_neg (fun z => w2 ((nI_ltI m1 (by omega)).mp z)), lnO_big (by omega) (nI_le (by omega) m1)]
        exact ⟨rfl, rfl⟩
theorem cl_under {nl nf np n : Nat} {A B : Nat → Nat} {c : CS} {s : SS} (h : IVC nl nf np n A B c s) (v k a : Int32) : x5_underF c nl v k a = (underF nl nf np s v k a).1 ∧ (underF nl nf np s v k a).2 = s := by
  unfold x5_underF underF
  cases e : lnO nl v with
  | none => exact ⟨rfl, rfl⟩
  | some l =>
    obtain ⟨ev, hl⟩ := lnO_some e
    obtain ⟨T, fn, g, h⟩ := h
    obtain ⟨q, hd, so, u, f, uh, cnt, sn, Q, R, M, D, ⟨a1, a2, a3, a4, a5, a6, a7⟩, hb⟩ := h.2.1 l hl
    have e15 : s 15 l = nI u := by rw [← a4.1, S1 _ _ (by decide)]
    have hu := a4.2.1
    have ef : s 14 l = nI f := by rw [← a4.2.2.1, S1 _ _ (by decide)]
    have hf := a4.2.2.2.1
    have euh : c 13 l 4 = nI uh := a4.2.2.2.2.1
    have huh := a4.2.2.2.2.2.1
    have c5 : c 13 l 5 = nI u := a4.2.2.2.2.2.2.1
    dsimp only
    rw [e15, nat_nI (by omega), c5]
    rcases i32_neg_or k with w | ⟨m, m1, m2⟩
    · rw [if_pos w, lnO_neg w]
      exact ⟨rfl, rfl⟩
    · subst m2
      rw [if_neg (nI_pos m1)]
      by_cases w2 : m < u
      · rw [if_pos (nI_lt w2 (by omega)), lnO_nI w2 (by omega)]
        obtain ⟨⟨r1, r2, r3, r4⟩, r5, r6, r7, r8⟩ := a4.2.2.2.2.2.2.2.2.2.2.1 m w2
        have hk : (f + m) % 200 < 200 := Nat.mod_lt _ (by decide)
        rw [SW _ _ (by decide) hk] at r1 r2 r3 r4
        unfold x4_numberOfF x4_countOfF x4_comingOfF x4_marksOfF
        rw [euh, an255 (by omega), ef, nat_nI (by omega)]
        dsimp only
        rw [r1, r2, r3, r4]
        by_cases y0 : a = 0
        · subst y0
          rw [if_neg (nF_1 (by decide))]
          exact ⟨r5, rfl⟩
        by_cases y1 : a = 1
        · subst y1
          rw [if_neg (nF_1 (by decide))]
          exact ⟨r6, rfl⟩
        by_cases y2 : a = 2
        · subst y2
          rw [if_neg (nF_1 (by decide))]
          exact ⟨r7, rfl⟩
        by_cases y3 : a = 3
        · subst y3
          rw [if_neg (nF_1 (by decide))]
          exact ⟨r8, rfl⟩
        · rw [if_neg y0, if_neg y1, if_neg y2, if_neg y3, if_pos]
          · exact ⟨rfl, rfl⟩
          · refine nF_0 (fun z => ?_)
            obtain ⟨b, b1, b2⟩ := i32_pos z.1
            subst b2
            have b3 := (nI_leI (b := 3) b1 (by decide)).mp z.2
            match b, b3 with
            | 0, _ => exact y0 rfl
            | 1, _ => exact y1 rfl
            | 2, _ => exact y2 rfl
            | 3, _ => exact y3 rfl
      · rw [if_neg (fun z => w2 ((nI_ltI m1 (by omega)).mp z)), lnO_big (by omega) (nI_le (by omega) m1)]
        exact ⟨rfl, rfl⟩
/-- the last number below a count -/
theorem le_pred {k : Int32} {r : Nat} (hr : r < 2147483648) (h0 : 0 < r) : (0 ≤ k ∧ k ≤ nI r - 1) ↔ ∃ m, m < r ∧ k = nI m := by
  rw [show nI r - 1 = nI (r - 1) from nI_sub (b := 1) h0]
  constructor
  · rintro ⟨h1, h2⟩
    obtain ⟨m, m1, m2⟩ := i32_pos h1
    subst m2
    have := (nI_leI m1 (by omega)).mp h2
    exact ⟨m, by omega, rfl⟩
  · rintro ⟨m, m1, rfl⟩
    exact ⟨nI_pos' (by omega), nI_le (by omega) (by omega)⟩
theorem IV_fr {nl nf np T fn g n : Nat} {A B lo tl : Nat → Nat} {c : CS} {s : SS} (h : IV nl nf np T fn g n A B lo tl c s) {f : Nat} (hf : f < nf) : A (f + 1) ≤ np ∧ np ≤ 3000 ∧ nf ≤ 300 ∧ g ≤ nf := by
  have := A_mono (A := A) (nf := nf) (fun f hf => (h.1.1.2.1 f hf).1) (f + 1) nf hf (Nat.le_refl _)
  rw [h.1.1.1.2.2.2.1] at this
  exact ⟨this, IV_np h, h.1.1.1.1, (IV_gl h).2.2.2.2.2⟩
theorem wit_in {nl nf np T fn g n : Nat} {A B lo tl : Nat → Nat} {c : CS} {s : SS} (h : IV nl nf np T fn g n A B lo tl c s) {f m : Nat} (hf : f < nf) (hm : m < A (f + 1) - A f) : x5_witnessOfF c np (c 20 f 2 + nI m) = 100 * s 27 (nat (s 32 f) + m) + s 28 (nat (s 32 f) + m) := by
  obtain ⟨a1, a2, a3, a4, a5, a6, a7, a8, a9, a10, a11, a12, a13⟩ := h.1.1.2.1 f hf
  obtain ⟨i1, i2, i3, i4⟩ := IV_fr h hf
  rw [a9, a4, nI_add, x5_witnessOfF_1 (lnO_nI (show A f + m < np by omega) (by omega)), nat_nI (by omega)]
  obtain ⟨b1, b2, b3, b4⟩ := h.1.2.1 (A f + m) (by omega)
  rw [b2, b3]
theorem cl_witness {nl nf np n : Nat} {A B : Nat → Nat} {c : CS} {s : SS} (h : IVC nl nf np n A B c s) (v k : Int32) : x5_witnessF c nf np v k = (witnessF nl nf np s v k).1 ∧ (witnessF nl nf np s v k).2 = s := by
  cases e : lnO nf v with
  | none =>
    unfold x5_witnessF witnessF
    rw [e]
    exact ⟨rfl, rfl⟩
  | some f =>
    obtain ⟨ev, hf⟩ := lnO_some e
    obtain ⟨T, fn, g, h⟩ := h
    obtain ⟨a1, a2, a3, a4, a5, a6, a7, a8, a9, a10, a11, a12, a13⟩ := h.1.1.2.1 f hf
    obtain ⟨i1, i2, i3, i4⟩ := IV_fr h hf
    rw [x5_witnessF_1 e]
    unfold witnessF
    rw [e, h.1.2.2.2.2.2.2.1.2.2.1.1, (IV_gl h).2.2.2.1]
    dsimp only
    by_cases w : nI g ≤ nI f
    · rw [if_pos w, if_pos w]
      exact ⟨rfl, rfl⟩
    · rw [if_neg w, if_neg w, a10, a5]
      by_cases y : 0 ≤ k ∧ k ≤ nI (A (f + 1) - A f) - 1
      · rw [if_neg (nF_1 y)]
        obtain ⟨m, m1, rfl⟩ := (le_pred (by omega) (by omega)).mp y
        rw [if_neg (nI_pos (by omega)), if_pos (nI_lt m1 (by omega)), wit_in h hf m1, nat_nI (show m < 2147483648 by omega)]
        exact ⟨rfl, rfl⟩
      · rw [if_pos (nF_0 y)]
        refine ⟨?_, rfl⟩
        by_cases y1 : k < 0
        · rw [if_pos y1]
        · rw [if_neg y1, if_neg (fun z => y ?_)]
          obtain ⟨m, m1, m2⟩ := i32_pos (Int32.not_lt.mp y1)
          subst m2
          exact (le_pred (by omega) (by omega)).mpr ⟨m, (nI_ltI m1 (by omega)).mp z, rfl⟩
theorem ck_eq {nl nf np T fn g n : Nat} {A B lo tl : Nat → Nat} {c : CS} {s : SS} (h : IV nl nf np T fn g n A B lo tl c s) {f : Nat} (hf : f < nf) (hg : f < g) : ∀ d j, j + d ≤ A (f + 1) - A f → ckC c np f d (nI j) (chkF nl nf np s f j) = chkF nl nf np s f (j + d)
  | 0, j, _ => rfl
  | d + 1, j, hj => by
    obtain ⟨a1, a2, a3, a4, a5, a6, a7, a8, a9, a10, a11, a12, a13⟩ := h.1.1.2.1 f hf
    obtain ⟨i1, i2, i3, i4⟩ := IV_fr h hf
    have e1 : (witnessF nl nf np s (nI f) (nI j)).1 = x5_witnessOfF c np (c 20 f 2 + nI j) := by
      rw [wit_in h hf (show j < A (f + 1) - A f by omega)]
      unfold witnessF
      rw [lnO_nI hf (by omega), (IV_gl h).2.2.2.1]
      dsimp only
      rw [if_neg (nI_ge hg (by omega)), a5, if_neg (nF_1 ((le_pred (by omega) (by omega)).mpr ⟨j, by omega, rfl⟩)), nat_nI (show j < 2147483648 by omega)]
    have e2 : chkF nl nf np s f (j + 1) = 31 * chkF nl nf np s f j + x5_witnessOfF c np (c 20 f 2 + nI j) := by rw [chkF, e1]
    rw [ckC, nI_1, ← e2, ck_eq h hf hg d (j + 1) (by omega), show j + 1 + d = j + (d + 1) by omega]
theorem cl_check {nl nf np n : Nat} {A B : Nat → Nat} {c : CS} {s : SS} (h : IVC nl nf np n A B c s) (v x : Int32) : x5_checkF c nf np v x = checkF nl nf np s v x := by
  unfold x5_checkF checkF
  cases e : lnO nf v with
  | none => rfl
  | some f =>
    obtain ⟨ev, hf⟩ := lnO_some e
    obtain ⟨T, fn, g, h⟩ := h
    obtain ⟨a1, a2, a3, a4, a5, a6, a7, a8, a9, a10, a11, a12, a13⟩ := h.1.1.2.1 f hf
    obtain ⟨i1, i2, i3, i4⟩ := IV_fr h hf
    dsimp only
    rw [h.1.2.2.2.2.2.2.1.2.2.1.1, (IV_gl h).2.2.2.1, a10, a5, ev, show (0 : Int32) = nI 0 from rfl, dI_ii (by omega) (by omega), nat_nI (by omega)]
    by_cases w : nI f < nI g
    · rw [if_pos w, if_pos w]
      have hg := (nI_ltI (by omega) (by omega)).mp w
      have := ck_eq h hf hg (A (f + 1) - A f - 0) 0 (by omega)
      rw [show chkF nl nf np s f 0 = nI 0 from rfl, show 0 + (A (f + 1) - A f - 0) = A (f + 1) - A f by omega] at this
      rw [this]
    · rw [if_neg w, if_neg w]
theorem cl_frameOf {nl nf np n : Nat} {A B : Nat → Nat} {c : CS} {s : SS} (h : IVC nl nf np n A B c s) (v a : Int32) : x5_frameOfF c nf v a = frameOfF nf s v a := by
  cases e : lnO nf v with
  | none =>
    unfold x5_frameOfF frameOfF
    rw [e]
  | some f =>
    obtain ⟨ev, hf⟩ := lnO_some e
    obtain ⟨T, fn, g, h⟩ := h
    obtain ⟨a1, a2, a3, a4, a5, a6, a7, a8, a9, a10, a11, a12, a13⟩ := h.1.1.2.1 f hf
    obtain ⟨i1, i2, i3, i4⟩ := IV_fr h hf
    obtain ⟨t1, t2⟩ := h.1.2.2.2.2.1 f hf
    rw [x5_frameOfF_1 e]
    unfold frameOfF
    rw [e, a8, a9, a10, t1, t2]
    dsimp only
    rw [a4, a5, nat_nI (by omega), nat_nI (by omega)]
theorem cl_got {nl nf np n : Nat} {A B : Nat → Nat} {c : CS} {s : SS} (h : IVC nl nf np n A B c s) (v i : Int32) : (x5_gotF c nf v i).1 = (gotF nl nf np s v i).1 ∧ IVC nl nf np (n + 1) A B (x5_gotF c nf v i).2 (gotF nl nf np s v i).2 := by
  cases e : lnO nf v with
  | none =>
    unfold x5_gotF gotF
    rw [e]
    exact ⟨rfl, IVC_ref h 1⟩
  | some f =>
    obtain ⟨ev, hf⟩ := lnO_some e
    have h0 := h
    obtain ⟨T, fn, g, h⟩ := h
    obtain ⟨a1, a2, a3, a4, a5, a6, a7, a8, a9, a10, a11, a12, a13⟩ := h.1.1.2.1 f hf
    obtain ⟨i1, i2, i3, i4⟩ := IV_fr h hf
    rw [x5_gotF_1 e]
    unfold gotF
    rw [e, h.1.2.2.2.2.2.2.1.2.2.1.1, (IV_gl h).2.2.2.1, a8]
    dsimp only
    by_cases w1 : nI g ≤ nI f
    · rw [if_pos w1, if_pos w1]
      exact ⟨rfl, IVC_ref h0 3⟩
    · rw [if_neg w1, if_neg w1]
      by_cases w2 : nI g - 20 ≤ nI f
      · rw [if_pos w2, if_neg (Int32.not_lt.mpr w2)]
        by_cases w3 : i = -1
        · subst w3
          have y : (-1 : Int32) ≤ -1 ∧ (-1 : Int32) ≤ s 31 f - 1 := by
            refine ⟨by decide, ?_⟩
            rw [a7, show nI (B (f + 1) - B f) - 1 = nI (B (f + 1) - B f - 1) from nI_sub (b := 1) (by omega)]
            exact Int32.le_trans (by decide : (-1 : Int32) ≤ 0) (nI_pos' (by omega))
          rw [if_pos rfl, if_neg (nF_1 y), if_neg (by decide)]
          exact ⟨rfl, IVC_n h0⟩
        · rw [if_neg w3]
          rcases i32_neg_or i with w4 | ⟨m, m1, m2⟩
          · rw [if_pos w4, if_pos]
            · exact ⟨rfl, IVC_ref h0 3⟩
            · refine nF_0 (fun z => w3 ?_)
              have z1 : i.toInt < 0 := Int32.lt_iff_toInt_lt.mp w4
              have z2 : (-1 : Int) ≤ i.toInt := Int32.le_iff_toInt_le.mp z.1
              exact Int32.toInt_inj.mp (by
                have : i.toInt = -1 := by omega
                rw [this]
                rfl)
          · subst m2
            rw [if_neg (nI_pos m1), a7]
            by_cases w5 : m < B (f + 1) - B f
            · rw [if_pos (nI_lt w5 (by omega)), if_neg (nF_1 ⟨Int32.le_trans (by decide : (-1 : Int32) ≤ 0) (nI_pos' m1), ((le_pred (by omega) (by omega)).mpr ⟨m, w5, rfl⟩).2⟩), if_pos (nI_pos' m1), nat_nI m1]
              refine ⟨?_, IVC_n h0⟩
              unfold x0_byteAtF
              rw [if_neg (nI_pos m1), a8, a7, if_pos (nI_lt w5 (by omega)), nat_nI m1, a11 m w5, a6, nat_nI]
              have : ∀ k, k ≤ nf → B k ≤ 4000 * k := by
                intro k
                induction k with
                | zero => intro _; rw [h.1.1.1.2.2.2.2.1]; exact Nat.zero_le _
                | succ k ih =>
                  intro hk
                  have := ih (by omega)
                  have := (h.1.1.2.1 k (by omega)).2.2.1
                  omega
              have := this f (by omega)
              omega
            · rw [if_neg (fun z => w5 ((nI_ltI m1 (by omega)).mp z)), if_pos]
              · exact ⟨rfl, IVC_ref h0 3⟩
              · refine nF_0 (fun z => w5 ?_)
                obtain ⟨m', q1, q2⟩ := (le_pred (r := B (f + 1) - B f) (by omega) (by omega)).mp ⟨nI_pos' m1, z.2⟩
                have := nI_inj m1 (by omega) q2
                omega
      · rw [if_neg w2, if_pos (Int32.not_le.mp w2)]
        exact ⟨rfl, IVC_ref h0 3⟩
theorem bsum_eq {nf np : Nat} {A B : Nat → Nat} {c : CS} {s : SS} (h : FXo nf np A B c s) : ∀ k, k ≤ nf → bsumF s k = nI (B k)
  | 0, _ => by
    rw [bsumF, h.1.2.2.2.2.1]
    rfl
  | k + 1, hk => by
    obtain ⟨a1, a2, a3, a4, a5, a6, a7, a8⟩ := h.2.1 k (by omega)
    rw [bsumF, bsum_eq h k (by omega), a7, nI_add, show B k + (B (k + 1) - B k) = B (k + 1) by omega]
theorem esum_eq {nl nf np T fn g n : Nat} {A B lo tl : Nat → Nat} {c : CS} {s : SS} (h : IV nl nf np T fn g n A B lo tl c s) : ∀ k, k ≤ nl → aeC c k = esumF s k
  | 0, _ => rfl
  | k + 1, hk => by
    rw [aeC, esumF, esum_eq h k (by omega), (IV_all h (show k < nl by omega)).2.2.2.2.2.2.2.2.2.2.1]
theorem sub20 (a : Int32) : (20 - a).toInt = 20 - a.toInt ∨ (20 - a).toInt = 20 - a.toInt - 4294967296 := by
  have h1 := Int32.toInt_sub 20 a
  have h2 := a.le_toInt
  have h3 := a.toInt_lt
  have h20 : (20 : Int32).toInt = 20 := rfl
  rw [h20] at h1
  have h4 := Int.bmod_def (20 - a.toInt) (2 ^ 32)
  rw [← h1] at h4
  split at h4 <;> omega
theorem cl_status {nl nf np n : Nat} {A B : Nat → Nat} {c : CS} {s : SS} (h : IVC nl nf np n A B c s) (a : Int32) : x5_statusF c nl a = statusF nl nf np s a := by
  obtain ⟨T, fn, g, h⟩ := h
  have hg := (IV_gl h).2.2.2.2.2
  have hnf := h.1.1.1.1
  obtain ⟨b1, b2, b3, b4, b5, b6, b7⟩ := h.1.2.2.2.2.2.2.2.2
  obtain ⟨g1, g2, g3, g4, g5, g6, g7, g8⟩ := h.1.2.2.2.2.2.2.1
  have hN := h.1.2.2.1
  unfold x5_statusF statusF
  rw [g1.1, g1.2.1, g2.1, g2.2, g3.1, g3.2, g5, g6.1, g6.2, g8.1, g8.2.1, b1, b3, b5, hN 3 (by decide), hN 2 (by decide), hN 0 (by decide), esum_eq h nl (Nat.le_refl _), nat_nI (show g < 2147483648 by omega), bsum_eq h.1.1 g hg]
  have key : x5_refusalsOfF c (20 - a) = if inF a 21 26 = 0 then -9 else s 38 (nat (a - 20)) := by
    unfold x5_refusalsOfF
    by_cases y : 21 ≤ a ∧ a ≤ 26
    · rw [if_neg (nF_1 y)]
      obtain ⟨m, m1, m2⟩ := i32_pos (Int32.le_trans (by decide : (0 : Int32) ≤ 21) y.1)
      subst m2
      have z1 := (nI_leI (a := 21) (by omega) m1).mp y.1
      have z2 := (nI_leI (b := 26) m1 (by omega)).mp y.2
      have hm : m = 21 ∨ m = 22 ∨ m = 23 ∨ m = 24 ∨ m = 25 ∨ m = 26 := by omega
      rcases hm with rfl | rfl | rfl | rfl | rfl | rfl
      · exact b7 1 (by decide)
      · exact b7 2 (by decide)
      · exact b7 3 (by decide)
      · exact b7 4 (by decide)
      · exact b7 5 (by decide)
      · exact b7 6 (by decide)
    · rw [if_pos (nF_0 y)]
      by_cases y1 : (-1 : Int32) < 20 - a
      · rw [if_pos y1]
      · rw [if_neg y1]
        by_cases y2 : (-6 : Int32) ≤ 20 - a
        · exfalso
          refine y ?_
          have z1 : (20 - a).toInt ≤ -1 := Int32.le_iff_toInt_le.mp (Int32.not_lt.mp y1)
          have z2 : (-6 : Int) ≤ (20 - a).toInt := Int32.le_iff_toInt_le.mp y2
          have h2 := a.le_toInt
          have h3 := a.toInt_lt
          refine ⟨Int32.le_iff_toInt_le.mpr ?_, Int32.le_iff_toInt_le.mpr ?_⟩
          · show (21 : Int) ≤ a.toInt
            rcases sub20 a with q | q <;> omega
          · show a.toInt ≤ 26
            rcases sub20 a with q | q <;> omega
        · rw [if_neg y2]
  rw [key]
  rfl
