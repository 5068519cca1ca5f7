/-! The pure part: coming on all lines; giving; resting. -/
theorem tf_loop {nl nf np T fn g n : Nat} {A B lo tl : Nat → Nat} {l : Nat} (hl : l < nl) (hlo : lo l = T) (ht : tl l ≤ 20000) : ∀ d (c : CS) (s : SS), IV nl nf np T fn g n A B lo tl c s → (∃ u, s 15 l = nI u ∧ u ≤ d ∧ u ≤ 200) → IV nl nf np T fn g n A B (exN lo l (T + 1)) tl (tfC nf np l d c) (cmF np l (d + 1) s) := by
  have stop : ∀ (c : CS) (s : SS), IV nl nf np T fn g n A B lo tl c s → (∀ u, s 15 l = nI (u + 1) → u < 200 → ¬ s 12 (200 * l + nat (s 14 l)) = nI T) → IV nl nf np T fn g n A B (exN lo l (T + 1)) tl c s := by
    intro c s h hD
    refine IV_LF (tl' := tl) h hl (LF_refl l c s) ?_ (fun l' ne => ⟨exN_n _ _ ne, rfl⟩)
    rw [exN_e]
    obtain ⟨q, hd, so, u, f, uh, cnt, sn, Q, R, M, D, ⟨a1, a2, a3, a4, a5, a6, a7⟩, hb⟩ := h.2.1 l hl
    refine ⟨q, hd, so, u, f, uh, cnt, sn, Q, R, M, D, ⟨a1, a2, a3, ?_, a5, a6, a7⟩, hb⟩
    rw [hlo] at a4
    refine LU_lo a4 (fun u0 => ?_)
    have ef : s 14 l = nI f := by rw [← a4.2.2.1, S1 _ _ (by decide)]
    have e15 : s 15 l = nI u := by rw [← a4.1, S1 _ _ (by decide)]
    have hf := a4.2.2.2.1
    have hu := a4.2.1
    obtain ⟨⟨r1, r2, r3, r4⟩, _⟩ := a4.2.2.2.2.2.2.2.2.2.2.1 0 u0
    obtain ⟨d, d1, d2, d3, d4⟩ := a4.2.2.2.2.2.2.2.2.2.2.2.2.1
    have hcu := a4.2.2.2.2.2.2.2.2.1
    rw [Nat.add_zero, Nat.add_zero, show f % 200 = f by omega, SW _ _ (by decide) hf] at r3
    have := hD (u - 1) (by rw [e15, show u - 1 + 1 = u by omega]) (by omega)
    rw [ef, nat_nI (by omega), r3] at this
    have h1 := (d4 (cnt - u) (Nat.le_refl _) (by omega)).1
    have h2 : ¬ D (cnt - u) = T := fun z => this (by rw [z])
    omega
  intro d
  induction d with
  | zero =>
    intro c s h ⟨u, u1, u2, u3⟩
    rw [tfC, cmF_s, if_neg]
    · exact stop c s h (fun v hv hv2 => by
        have := nI_inj (by omega) (by omega) (u1.symm.trans hv)
        omega)
    · rw [u1, show u = 0 by omega]
      exact fun z => absurd z.1 (by decide)
  | succ d ih =>
    intro c s h ⟨u, u1, u2, u3⟩
    have e16 := h.1.2.2.2.2.2.2.1.2.2.2.2.2.2.2.1
    have e45 := h.1.2.2.2.2.2.2.1.2.2.2.2.2.2.2.2.1
    have hT := h.1.2.2.2.2.2.2.1.2.2.2.2.2.2.2.2.2
    rw [tfC, cmF_s, e16, e45, u1]
    unfold x4_hasComeAtF
    obtain ⟨q, hd, so, u', f, uh, cnt, sn, Q, R, M, D, ⟨a1, a2, a3, a4, a5, a6, a7⟩, hb⟩ := h.2.1 l hl
    have e15 : s 15 l = nI u' := by rw [← a4.1, S1 _ _ (by decide)]
    have hu := a4.2.1
    have eu : u' = u := nI_inj (by omega) (by omega) (e15.symm.trans u1)
    subst eu
    have c5 : c 13 l 5 = nI u' := a4.2.2.2.2.2.2.1
    rw [c5]
    by_cases w : u' = 0
    · rw [w, if_pos (show nI 0 ≤ 0 by decide), if_pos rfl, if_neg (fun z => absurd z.1 (by decide))]
      exact stop c s h (fun v hv hv2 => by
        have := nI_inj (by omega) (by omega) (u1.symm.trans hv)
        omega)
    · rw [if_neg (nI_nle (by omega) (by omega))]
      have ef : s 14 l = nI f := by rw [← a4.2.2.1, S1 _ _ (by decide)]
      have hf := a4.2.2.2.1
      have euh : c 13 l 4 = nI uh := a4.2.2.2.2.1
      have huh := a4.2.2.2.2.2.1
      have hcu := a4.2.2.2.2.2.2.2.2.1
      obtain ⟨⟨r1, r2, r3, r4⟩, r5, r6, r7, r8⟩ := a4.2.2.2.2.2.2.2.2.2.2.1 0 (by omega)
      obtain ⟨d0, d1, d2, d3, d4⟩ := a4.2.2.2.2.2.2.2.2.2.2.2.2.1
      rw [Nat.add_zero, Nat.add_zero, show f % 200 = f by omega, SW _ _ (by decide) hf] at r3
      rw [Nat.add_zero, Nat.add_zero, show uh % 256 = uh by omega] at r7
      have ei : nat ((c 13 l 4 + 0) &&& 255) = uh := by
        rw [euh, show (0 : Int32) = nI 0 from rfl, an255 (by omega)]
        omega
      have eD : x4_comingOfF c l 0 = nI (D (cnt - u')) := by
        unfold x4_comingOfF
        rw [ei]
        exact r7
      obtain ⟨D1, D2, D3⟩ := d4 (cnt - u') (Nat.le_refl _) (by omega)
      rw [hlo] at D1
      rw [eD, ef, nat_nI (by omega), r3]
      by_cases w2 : nI T < nI (D (cnt - u'))
      · rw [if_pos w2, if_pos rfl, if_neg]
        · refine stop c s h (fun v hv hv2 z => ?_)
          rw [ef, nat_nI (by omega), r3] at z
          rw [z] at w2
          exact Int32.lt_irrefl w2
        · rintro ⟨z1, z2⟩
          rw [z2] at w2
          exact Int32.lt_irrefl w2
      · have eT : D (cnt - u') = T := by
          have : ¬ T < D (cnt - u') := fun y => w2 (nI_lt y (by omega))
          omega
        rw [if_neg w2, if_neg (by decide), if_pos (show 0 < nI u' ∧ nI (D (cnt - u')) = nI T from ⟨nI_lt (a := 0) (by omega) (by omega), by rw [eT]⟩)]
        obtain ⟨s1, s2⟩ := tf_step h hl (u := u' - 1) (by rw [u1, show u' - 1 + 1 = u' by omega]) (by omega) ht
        exact ih _ _ s1 ⟨u' - 1, s2, by omega, by omega⟩
theorem IV_u {nl nf np T fn g n : Nat} {A B lo tl : Nat → Nat} {c : CS} {s : SS} (h : IV nl nf np T fn g n A B lo tl c s) {l : Nat} (hl : l < nl) : ∃ u, s 15 l = nI u ∧ u ≤ 200 ∧ u ≤ 200 := by
  obtain ⟨q, hd, so, u, f, uh, cnt, sn, Q, R, M, D, ⟨a1, a2, a3, a4, a5, a6, a7⟩, hb⟩ := h.2.1 l hl
  exact ⟨u, by rw [← a4.1, S1 _ _ (by decide)], a4.2.1, a4.2.1⟩
/-- coming on the first k lines -/
theorem tw_stage {nl nf np T fn g n : Nat} {A B : Nat → Nat} {c : CS} {s : SS} (h : IV nl nf np T fn g n A B (fun _ => T) (fun _ => T) c s) : ∀ k, k ≤ nl → IV nl nf np T fn g n A B (fun l => if l < k then T + 1 else T) (fun _ => T) (twC nf np k c) (onL (fun l => cmF np l 201) k s)
  | 0, _ => h
  | k + 1, hk => by
    have ih := tw_stage h k (by omega)
    have hT := h.1.2.2.2.2.2.2.1.2.2.2.2.2.2.2.2.2
    rw [twC, onL]
    refine IV_fc (tf_loop (l := k) hk (show (if k < k then T + 1 else T) = T from if_neg (by omega)) hT 200 _ _ ih (IV_u ih hk)) (fun l hl => ⟨?_, rfl⟩)
    show (if l < k + 1 then T + 1 else T) = exN (fun l => if l < k then T + 1 else T) k (T + 1) l
    by_cases w : l = k
    · rw [w, exN_e, if_pos (by omega)]
    · rw [exN_n _ _ w]
      by_cases w2 : l < k
      · rw [if_pos w2, if_pos (by omega)]
      · rw [if_neg w2, if_neg (by omega)]
/-! Giving. -/
theorem cntTF_n {s : SS} (a : Nat) : ∀ n, ∃ m, m ≤ n ∧ cntTF s a n = nI m ∧ (m = n ↔ allT s a n = true) ∧ (allT s a n = true → ∀ q, a ≤ q → q < a + n → s 23 q = 3)
  | 0 => ⟨0, Nat.le_refl _, rfl, ⟨fun _ => rfl, fun _ => rfl⟩, fun _ q q1 q2 => by omega⟩
  | n + 1 => by
    obtain ⟨m, m1, m2, m3, m4⟩ := cntTF_n (s := s) a n
    rw [cntTF, allT, m2]
    by_cases w : s 23 (a + n) = 3
    · rw [if_pos w, decide_eq_true w, Bool.and_true]
      refine ⟨m + 1, by omega, nI_1 m, ⟨fun z => m3.mp (by omega), fun z => by rw [m3.mpr z]⟩, fun z q q1 q2 => ?_⟩
      by_cases e : q = a + n
      · rw [e]
        exact w
      · exact m4 z q q1 (by omega)
    · rw [if_neg w, decide_eq_false w, Bool.and_false]
      exact ⟨m, by omega, Int32.add_zero _, ⟨fun z => by omega, fun z => by cases z⟩, fun z => by cases z⟩
def gvCs (c : CS) (f : Nat) : CS := uC (uC (uC (uC (uC c 20 f 5 (c 0 0 16)) 0 0 4 (nI f + 1)) 0 0 5 (c 0 0 5 + c 20 f 3)) 0 0 6 (c 0 0 6 + c 20 f 1)) 0 0 15 (c 0 0 15 - c 20 f 1)
def gvSs (s : SS) (f : Nat) : SS := uS (uS s 34 f (s 0 45)) 0 33 (nI f + 1)
theorem credF_gv {nf np g : Nat} {A B : Nat → Nat} {c : CS} {s : SS} (h : FXo nf np A B c s) (hg : g < nf) (h33 : s 0 33 = nI g) (h3 : ∀ q, A g ≤ q → q < A (g + 1) → s 23 q = 3) : ∀ n, n ≤ np → credF (gvSs s g) n = credF s n + sumZ s (A g) (min n (A (g + 1)) - A g)
  | 0, _ => by
    rw [show min 0 (A (g + 1)) - A g = 0 by omega, sumZ, credF, credF]
    rw [Int32.add_zero]
    rfl
  | n + 1, hn => by
    have hnf := h.1.1
    rw [credF, credF, credF_gv h hg h33 h3 n (by omega)]
    have r23 : gvSs s g 23 = s 23 := rfl
    have r24 : gvSs s g 24 = s 24 := rfl
    have r26 : gvSs s g 26 = s 26 := rfl
    have r33 : gvSs s g 0 33 = nI g + 1 := uS_eq _ _ _ _
    rw [r23, r24, r26, r33, h33, nI_1]
    obtain ⟨f, f1, f2, f3⟩ := frOf (A := A) n nf h.1.2.2.1 (by rw [h.1.2.2.2.1]; omega)
    have e24 := ((h.2.1 f f1).2.2.2.2.2.2.2.2.2.2.2.2 n f2 f3).1
    have hA : ∀ f, f < nf → A f < A (f + 1) := fun f hf => (h.2.1 f hf).1
    rw [e24]
    by_cases w : f = g
    · subst w
      rw [if_neg (show ¬ (¬ s 23 n = 0 ∧ nI (f + 1) ≤ nI f) from fun z => nI_ge (by omega) (by omega) z.2), if_pos (show ¬ s 23 n = 0 ∧ nI f ≤ nI f from ⟨(thr_ne _ (h3 n f2 f3)).1, Int32.le_refl _⟩), show min (n + 1) (A (f + 1)) - A f = (n - A f) + 1 by omega, sumZ, show min n (A (f + 1)) - A f = n - A f by omega, show A f + (n - A f) = n by omega]
      generalize sumZ s (A f) (n - A f) = x
      grind
    · have e : min (n + 1) (A (g + 1)) - A g = min n (A (g + 1)) - A g := by
        rcases Nat.lt_or_ge f g with y | y
        · have := A_mono hA (f + 1) g y (by omega)
          omega
        · have := A_mono hA (g + 1) f (by omega) (by omega)
          omega
      have e2 : (¬ s 23 n = 0 ∧ nI (g + 1) ≤ nI f) ↔ (¬ s 23 n = 0 ∧ nI g ≤ nI f) := by
        rw [nI_leI (by omega) (by omega), nI_leI (by omega) (by omega)]
        exact ⟨fun z => ⟨z.1, by omega⟩, fun z => ⟨z.1, by omega⟩⟩
      rw [e]
      by_cases y : ¬ s 23 n = 0 ∧ nI g ≤ nI f
      · rw [if_pos y, if_pos (e2.mpr y)]
        generalize sumZ s (A g) (min n (A (g + 1)) - A g) = x
        grind
      · rw [if_neg y, if_neg (fun z => y (e2.mp z))]
        generalize sumZ s (A g) (min n (A (g + 1)) - A g) = x
        grind
theorem IV_give {nl nf np T fn g n : Nat} {A B lo tl : Nat → Nat} {c : CS} {s : SS} (h : IV nl nf np T fn g n A B lo tl c s) (hg : g < nf) (h3 : ∀ q, A g ≤ q → q < A (g + 1) → s 23 q = 3) : IV nl nf np T fn (g + 1) n A B lo tl (gvCs c g) (gvSs s g) := by
  obtain ⟨⟨a1, a2, a3, a4, a5, a6, a7, a8, a9⟩, hL, hZ⟩ := h
  have hnf := a1.1.1
  have hA : ∀ f, f < nf → A f < A (f + 1) := fun f hf => (a1.2.1 f hf).1
  obtain ⟨b1, b2, b3, b4, b5, b6, b7, b8, b9, b10, b11, b12, b13⟩ := a1.2.1 g hg
  obtain ⟨g1, g2, g3, g4, g5, g6, g7, g8, g9, g10⟩ := a7
  have t20 : ∀ f k, gvCs c g 20 f k = if f = g ∧ k = 5 then c 0 0 16 else c 20 f k := by
    intro f k
    unfold gvCs
    rw [uC_t _ _ _ _ _ _ (by decide), uC_t _ _ _ _ _ _ (by decide), uC_t _ _ _ _ _ _ (by decide), uC_t _ _ _ _ _ _ (by decide)]
    by_cases w : f = g ∧ k = 5
    · rw [if_pos w, w.1, w.2, uC_eq]
    · rw [if_neg w, uC_ne _ _ (fun z => w z.2)]
  have hAn : A (g + 1) ≤ np := by
    have := A_mono hA (g + 1) nf hg (Nat.le_refl _)
    rw [a1.1.2.2.2.1] at this
    exact this
  refine ⟨⟨?_, a2, ?_, a4, ?_, ⟨hg, fun p hp => ?_⟩, ⟨g1, g2, ⟨?_, ?_⟩, ?_, ?_, g6, g7, g8, g9, g10⟩, ?_, a9⟩, fun l hl => ?_, fun l l1 l2 j hj k => by unfold gvSs; rw [Sl_no _ _ _ _ (by decide), Sl_no _ _ _ _ (by decide)]; exact hZ l l1 l2 j hj k⟩
  · refine FX_c a1 (fun _ _ _ => rfl) (fun f k hk => ?_) rfl rfl rfl rfl rfl rfl rfl rfl rfl rfl
    rw [t20, if_neg (by omega)]
  · intro j hj
    rw [manyF_c (s := s) (s' := gvSs s g) rfl]
    exact a3 j hj
  · intro f hf
    rw [cntTF_c (s := s) (s' := gvSs s g) _ _ (fun q _ _ => Iff.rfl), t20, if_neg (fun z => absurd z.2 (by decide)), t20]
    refine ⟨(a5 f hf).1, ?_⟩
    by_cases w : f = g
    · subst w
      rw [if_pos ⟨rfl, rfl⟩, g8, ← g9]
      unfold gvSs
      rw [uS_j _ _ _ (by decide), uS_eq]
    · rw [if_neg (fun z => w z.1)]
      have e34 : gvSs s g 34 f = s 34 f := by
        unfold gvSs
        rw [uS_j _ _ _ (by decide), uS_k _ _ _ w]
      rw [e34]
      exact (a5 f hf).2
  · by_cases w : p < A g
    · exact a6.2 p w
    · exact h3 p (by omega) hp
  · show nI g + 1 = nI (g + 1)
    exact nI_1 g
  · show nI g + 1 = nI (g + 1)
    exact nI_1 g
  · show c 0 0 5 + c 20 g 3 = nI (A (g + 1))
    rw [g4, b10, b5, nI_add, show A g + (A (g + 1) - A g) = A (g + 1) by omega]
  · show c 0 0 6 + c 20 g 1 = nI (B (g + 1))
    rw [g5, b8, b7, nI_add, show B g + (B (g + 1) - B g) = B (g + 1) by omega]
  · show c 0 0 14 - (c 0 0 15 - c 20 g 1) = credF (gvSs s g) np
    rw [credF_gv a1 hg g3.2 h3 np (Nat.le_refl _), ← a8, show min np (A (g + 1)) - A g = A (g + 1) - A g by omega, b12, b8]
    grind
  · have e1 : Cl (gvCs c g) l = Cl c l := by
      unfold gvCs
      rw [Cl_no _ _ _ _ _ (by decide), Cl_no _ _ _ _ _ (by decide), Cl_no _ _ _ _ _ (by decide), Cl_no _ _ _ _ _ (by decide), Cl_no _ _ _ _ _ (by decide)]
    have e2 : Sl (gvSs s g) l = Sl s l := by
      unfold gvSs
      rw [Sl_no _ _ _ _ (by decide), Sl_no _ _ _ _ (by decide)]
    rw [e1, e2]
    exact LI_c (hL l hl) rfl (fun _ _ => Iff.rfl) (fun _ _ _ => rfl)
theorem gv_stage {nl nf np T fn n : Nat} {A B lo tl : Nat → Nat} (e : Nat) : ∀ d g (c : CS) (s : SS), g + d = nf → IV nl nf np T fn g n A B lo tl c s → ∃ g', IV nl nf np T fn g' n A B lo tl (gvC nf d (nI g) c) (gvF (d + e + 1) s)
  | 0, g, c, s, hg, h => by
    have g3 := h.1.2.2.2.2.2.2.1.2.2.1.2
    have g2 := h.1.2.2.2.2.2.2.1.2.1.2
    refine ⟨g, ?_⟩
    rw [gvC, gvF, g3, g2, if_neg]
    · exact h
    · rw [show g = nf by omega]
      exact fun z => Int32.lt_irrefl z.1
  | d + 1, g, c, s, hg, h => by
    have hnf := h.1.1.1.1
    have hnp := IV_np h
    have g3 := h.1.2.2.2.2.2.2.1.2.2.1.2
    have g2 := h.1.2.2.2.2.2.2.1.2.1.2
    obtain ⟨b1, b2, b3, b4, b5, b6, b7, b8, b9, b10, b11, b12, b13⟩ := h.1.1.2.1 g (by omega)
    have hA : ∀ f, f < nf → A f < A (f + 1) := fun f hf => (h.1.1.2.1 f hf).1
    have hAn : A (g + 1) ≤ np := by
      have := A_mono hA (g + 1) nf (by omega) (Nat.le_refl _)
      rw [h.1.1.1.2.2.2.1] at this
      exact this
    obtain ⟨m, m1, m2, m3, m4⟩ := cntTF_n (s := s) (A g) (A (g + 1) - A g)
    have e4 := (h.1.2.2.2.2.1 g (by omega)).1
    rw [gvC, lnO_nI (show g < nf by omega) (by omega), show d + 1 + e + 1 = (d + e + 1) + 1 by omega, gvF, g3, g2, nat_nI (by omega)]
    show ∃ g', IV nl nf np T fn g' n A B lo tl (if c 20 g 4 < c 20 g 3 then c else gvC nf d (nI g + 1) (gvCs c g)) (if nI g < nI nf ∧ wholeF s g = true then gvF (d + e + 1) (gvSs s g) else s)
    unfold wholeF
    rw [e4, m2, b10, b4, b5, nat_nI (by omega), nat_nI (by omega)]
    by_cases w : allT s (A g) (A (g + 1) - A g) = true
    · have := m3.mpr w
      rw [this, if_neg Int32.lt_irrefl, if_pos ⟨nI_lt (by omega) (by omega), w⟩, nI_1]
      exact gv_stage e d (g + 1) _ _ (by omega) (IV_give h (by omega) (fun q q1 q2 => m4 w q q1 (by omega)))
    · have ne : ¬ m = A (g + 1) - A g := fun z => w (m3.mp z)
      rw [if_pos (nI_lt (by omega) (by omega)), if_neg (fun z => w z.2)]
      exact ⟨g, h⟩
/-! Resting. -/
theorem rl_one {nl nf np T fn g n : Nat} {A B lo tl : Nat → Nat} {c : CS} {s : SS} (h : IV nl nf np T fn g n A B lo tl c s) {l : Nat} (hl : l < nl) : IV nl nf np T fn g n A B lo tl (if x1_restsUnheardF c l = 0 then c else uC (x3_addF c l (-2) 1) 7 l 15 ((x3_addF c l (-2) 1) 7 l 15 + 1)) (restF l s) := by
  obtain ⟨q, hd, so, u, f, uh, cnt, sn, Q, R, M, D, ⟨a1, a2, a3, a4, a5, a6, a7⟩, hb⟩ := h.2.1 l hl
  have e4 : c 7 l 8 = s 4 l := a2.2.2.2.1.trans (S1 _ _ (by decide))
  have e8 : s 8 l = nI q := by rw [← a3.1, S1 _ _ (by decide)]
  have e3 : c 10 l 3 = s 8 l := by rw [e8]; exact a3.2.2.2.2.2.1
  have e15 : s 15 l = nI u := by rw [← a4.1, S1 _ _ (by decide)]
  have e5 : c 13 l 5 = s 15 l := by rw [e15]; exact a4.2.2.2.2.2.2.1
  have e11 : c 7 l 11 = s 16 l := a2.2.2.2.2.2.2.1.trans (S1 _ _ (by decide))
  have e12 : c 7 l 12 = s 17 l := a2.2.2.2.2.2.2.2.1.trans (S1 _ _ (by decide))
  unfold x1_restsUnheardF restF
  rw [e4, e3, e5, e11, e12]
  by_cases w1 : s 4 l = 0
  · rw [if_pos w1, if_pos rfl, if_neg (fun z => z.1 w1)]
    exact h
  · rw [if_neg w1]
    by_cases w2 : s 8 l = 0
    · rw [if_pos w2]
      by_cases w3 : s 15 l = 0
      · rw [if_pos w3]
        by_cases w4 : s 16 l ≤ s 17 l
        · rw [if_pos w4, if_pos rfl, if_neg (fun z => Int32.not_lt.mpr w4 z.2.2.2)]
          exact h
        · rw [if_neg w4, if_neg (by decide), if_pos ⟨w1, w2, w3, Int32.not_le.mp w4⟩]
          have q0 : q = 0 := by
            have hq := a3.2.1
            exact nI_inj (by omega) (by decide) (e8.symm.trans w2)
          have n8 : nat (s 8 l) < 41 := by rw [w2]; decide
          unfold layEF
          refine IV_LF (lo' := lo) (tl' := tl) h hl (LF_1 (LF_uC (LF_add (LF_1 (LF_uS (k := nat (s 8 l)) (LF_refl l c s) (j := 7) _ n8 (by decide) rfl) 8 _ (by decide) (by decide)) (-2) 1) _ _ (by decide)) 20 _ (by decide) (by decide)) ?_ (fun _ _ => ⟨rfl, rfl⟩)
          rw [Cl_own _ _ _ _ (by decide), Sl_own1 _ _ _ (by decide), Cl_add, Sl_add _ _ _ n8]
          refine ⟨q + 1, hd, so, u, f, uh, cnt, sn, exN Q q (-2), R, M, D, ⟨a1, ?_, ?_, a4, a5, a6, ?_⟩, hb⟩
          · obtain ⟨c1', c2', c3', c4', c5', c6', c7', c8', c9', c10', c11, c12, c13⟩ := a2
            refine ⟨c1', c2', c3', c4', c5', c6', c7', c8', c9', c10', ?_, c12, c13⟩
            show c 7 l 15 + 1 = s 20 l + 1
            rw [← S1 s l (j := 20) (by decide), ← c11]
            rfl
          · exact LQ_add a3 (by omega) (-2) (a := 1) rfl (by decide) (by decide)
          · exact CP_c (CP_addE a7) (fun _ _ => Iff.rfl) (fun _ _ _ => rfl)
      · rw [if_neg w3, if_pos rfl, if_neg (fun z => w3 z.2.2.1)]
        exact h
    · rw [if_neg w2, if_pos rfl, if_neg (fun z => w2 z.2.1)]
      exact h
theorem rl_stage {nl nf np T fn g n : Nat} {A B lo tl : Nat → Nat} {c : CS} {s : SS} (h : IV nl nf np T fn g n A B lo tl c s) : ∀ k, k ≤ nl → IV nl nf np T fn g n A B lo tl (rlC k c) (onL restF k s)
  | 0, _ => h
  | k + 1, hk => by
    rw [rlC, onL]
    exact rl_one (rl_stage h k (by omega)) hk
