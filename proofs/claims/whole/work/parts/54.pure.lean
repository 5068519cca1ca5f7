/-! The pure part: calls that change little. -/
def IVC (nl nf np n : Nat) (A B : Nat → Nat) (c : CS) (s : SS) : Prop := ∃ T fn g, IV nl nf np T fn g n A B (fun _ => T + 1) (fun _ => T) c s
theorem IV_n {nl nf np T fn g n : Nat} {A B lo tl : Nat → Nat} {c : CS} {s : SS} (h : IV nl nf np T fn g n A B lo tl c s) : IV nl nf np T fn g (n + 1) A B lo tl c s := by
  refine ⟨h.1, fun l hl => ?_, h.2.2⟩
  obtain ⟨q, hd, so, u, f, uh, cnt, sn, Q, R, M, D, a, hb⟩ := h.2.1 l hl
  exact ⟨q, hd, so, u, f, uh, cnt, sn, Q, R, M, D, a, by omega⟩
theorem IVC_n {nl nf np n : Nat} {A B : Nat → Nat} {c : CS} {s : SS} (h : IVC nl nf np n A B c s) : IVC nl nf np (n + 1) A B c s := by
  obtain ⟨T, fn, g, h⟩ := h
  exact ⟨T, fn, g, IV_n h⟩
theorem Cl_tags {c c' : CS} (h : ∀ t, 7 ≤ t → t ≤ 17 → c' t = c t) (l : Nat) : Cl c' l = Cl c l := by
  funext t k
  unfold Cl
  by_cases w : 7 ≤ t ∧ t ≤ 17
  · rw [if_pos w, if_pos w, h t w.1 w.2]
  · rw [if_neg w, if_neg w]
theorem wid_0 {j : Nat} (h : ¬ (1 ≤ j ∧ j ≤ 22)) : wid j = 0 := by
  unfold wid
  rw [if_neg (by omega), if_neg (by omega), if_neg (by omega), if_neg (by omega)]
theorem Sl_rows {s s' : SS} (h : ∀ j, 1 ≤ j → j ≤ 22 → s' j = s j) (l : Nat) : Sl s' l = Sl s l := by
  funext j k
  unfold Sl
  by_cases w : 1 ≤ j ∧ j ≤ 22
  · rw [h j w.1 w.2]
  · rw [wid_0 w, if_neg (by omega), if_neg (by omega)]
theorem credF_b {s s' : SS} (h1 : s' 23 = s 23) (h2 : s' 24 = s 24) (h3 : s' 26 = s 26) (h4 : s' 0 33 = s 0 33) : ∀ n, credF s' n = credF s n + (s' 0 44 - s 0 44)
  | 0 => by
    rw [credF, credF]
    grind
  | n + 1 => by
    rw [credF, credF, credF_b h1 h2 h3 h4 n, h1, h2, h3, h4]
    generalize (if ¬ s 23 n = 0 ∧ s 0 33 ≤ s 24 n then s 26 n else 0) = x
    grind
/-- the tray, CUT, ROOM and the refusals -/
theorem IV_c2 {nl nf np T fn g n : Nat} {A B lo tl : Nat → Nat} {c c' : CS} {s s' : SS} (h : IV nl nf np T fn g n A B lo tl c s) (h1 : ∀ t, ¬ t = 0 → ¬ t = 5 → ¬ t = 6 → c' t = c t) (h2 : ∀ k, ¬ k = 12 → ¬ k = 13 → ¬ k = 14 → c' 0 0 k = c 0 0 k) (h3 : ∀ j, ¬ j = 0 → ¬ j = 37 → ¬ j = 38 → s' j = s j) (h4 : ∀ k, ¬ k = 42 → ¬ k = 43 → ¬ k = 44 → s' 0 k = s 0 k) (h5 : c' 0 0 14 - c 0 0 14 = s' 0 44 - s 0 44) (hT : TR c' s') : IV nl nf np T fn g n A B lo tl c' s' := by
  obtain ⟨⟨a1, a2, a3, a4, a5, a6, a7, a8, a9⟩, hL, hZ⟩ := h
  have k1 := h1 18 (by decide) (by decide) (by decide)
  have k2 := h1 20 (by decide) (by decide) (by decide)
  have r23 := h3 23 (by decide) (by decide) (by decide)
  have r24 := h3 24 (by decide) (by decide) (by decide)
  have r26 := h3 26 (by decide) (by decide) (by decide)
  have eC := Cl_tags (c := c) (c' := c') (fun t t1 t2 => h1 t (by omega) (by omega) (by omega))
  have eS := Sl_rows (s := s) (s' := s') (fun j j1 j2 => h3 j (by omega) (by omega) (by omega))
  have r0 : ∀ j, ¬ j = 0 → ¬ j = 37 → ¬ j = 38 → s' j = s j := h3
  refine ⟨⟨FX_c a1 (fun p k _ => by rw [k1]) (fun f k _ => by rw [k2]) (h1 21 (by decide) (by decide) (by decide)) r24 (h3 _ (by decide) (by decide) (by decide)) r26 (h3 _ (by decide) (by decide) (by decide)) (h3 _ (by decide) (by decide) (by decide)) (h3 _ (by decide) (by decide) (by decide)) (h3 _ (by decide) (by decide) (by decide)) (h3 _ (by decide) (by decide) (by decide)) (h4 40 (by decide) (by decide) (by decide)), ?_, ?_, ?_, ?_, ?_, ?_, ?_, hT⟩, fun l hl => ?_, fun l l1 l2 j hj k => by rw [eS]; exact hZ l l1 l2 j hj k⟩
  · unfold DY
    rw [k1, h1 19 (by decide) (by decide) (by decide), r23, h3 27 (by decide) (by decide) (by decide), h3 28 (by decide) (by decide) (by decide), h3 30 (by decide) (by decide) (by decide)]
    exact a2
  · intro j hj
    rw [manyF_c r23, h1 4 (by decide) (by decide) (by decide)]
    exact a3 j hj
  · unfold NW
    rw [r23, h3 30 (by decide) (by decide) (by decide), h3 27 (by decide) (by decide) (by decide)]
    exact a4
  · exact TH_c a5 (fun q => by rw [r23]) k2 (h3 34 (by decide) (by decide) (by decide))
  · unfold GV
    rw [r23]
    exact a6
  · unfold GL
    rw [h2 1 (by decide) (by decide) (by decide), h2 3 (by decide) (by decide) (by decide), h2 4 (by decide) (by decide) (by decide), h2 5 (by decide) (by decide) (by decide), h2 6 (by decide) (by decide) (by decide), h2 8 (by decide) (by decide) (by decide), h2 9 (by decide) (by decide) (by decide), h2 16 (by decide) (by decide) (by decide), h4 0 (by decide) (by decide) (by decide), h4 32 (by decide) (by decide) (by decide), h4 33 (by decide) (by decide) (by decide), h4 23 (by decide) (by decide) (by decide), h4 45 (by decide) (by decide) (by decide)]
    exact a7
  · unfold CR
    rw [credF_b r23 r24 r26 (h4 33 (by decide) (by decide) (by decide)), ← a8, ← h5, h2 15 (by decide) (by decide) (by decide)]
    grind
  · rw [eC, eS]
    exact LI_c (hL l hl) r26 (fun p _ => by
      unfold On
      rw [r23, h3 28 (by decide) (by decide) (by decide)]) (fun p _ _ => by rw [h3 29 (by decide) (by decide) (by decide)])
theorem uC_0 (c : CS) {t : Nat} (i k : Nat) (v : Int32) {t' : Nat} (h : ¬ t' = t) : uC c t i k v t' = c t' := by
  funext i' k'
  exact uC_t _ _ _ _ _ _ h
theorem uS_0 (s : SS) {j : Nat} (k : Nat) (v : Int32) {j' : Nat} (h : ¬ j' = j) : uS s j k v j' = s j' := by
  funext k'
  exact uS_j _ _ _ h
theorem IV_ref {nl nf np T fn g n : Nat} {A B lo tl : Nat → Nat} {c : CS} {s : SS} (h : IV nl nf np T fn g n A B lo tl c s) (k : Nat) : IV nl nf np T fn g n A B lo tl (refX c k) (refuseF s k) := by
  have hT := h.1.2.2.2.2.2.2.2.2
  refine IV_c2 h (fun t t0 t5 t6 => uC_0 _ _ _ _ t6) (fun j _ _ _ => rfl) (fun j j0 j1 j2 => uS_0 _ _ _ j2) (fun j _ _ _ => rfl) ?_ ?_
  · show c 0 0 14 - c 0 0 14 = s 0 44 - s 0 44
    rw [Int32.sub_self, Int32.sub_self]
  · obtain ⟨b1, b2, b3, b4, b5, b6, b7⟩ := hT
    refine ⟨b1, b2, b3, b4, b5, b6, fun j hj => ?_⟩
    unfold refX refuseF
    by_cases w : j = k
    · subst w
      rw [uC_eq, uS_eq, b7 j hj]
    · rw [uC_k _ _ _ _ _ _ w, uS_k _ _ _ w, b7 j hj]
theorem IVC_ref {nl nf np n : Nat} {A B : Nat → Nat} {c : CS} {s : SS} (h : IVC nl nf np n A B c s) (k : Nat) : IVC nl nf np (n + 1) A B (refX c k) (refuseF s k) := by
  obtain ⟨T, fn, g, h⟩ := h
  exact ⟨T, fn, g, IV_n (IV_ref h k)⟩
theorem cl_cut {nl nf np n : Nat} {A B : Nat → Nat} {c : CS} {s : SS} (h : IVC nl nf np n A B c s) (v : Int32) : (x5_cutF c v).1 = (cutF nl nf np s v).1 ∧ IVC nl nf np (n + 1) A B (x5_cutF c v).2 (cutF nl nf np s v).2 := by
  unfold x5_cutF cutF
  by_cases w1 : 1 ≤ v
  · rw [if_pos w1, if_pos w1]
    by_cases w2 : v ≤ 250
    · rw [if_pos w2, if_pos w2]
      obtain ⟨T, fn, g, h⟩ := h
      obtain ⟨b1, b2, b3, b4, b5, b6, b7⟩ := h.1.2.2.2.2.2.2.2.2
      refine ⟨b3, T, fn, g, IV_n (IV_c2 h (fun t t0 t5 t6 => uC_0 _ _ _ _ t0) (fun j _ j1 _ => uC_k _ _ _ _ _ _ j1) (fun j j0 j1 j2 => uS_0 _ _ _ j0) (fun j _ j1 _ => uS_k _ _ _ j1) ?_ ?_)⟩
      · show c 0 0 14 - c 0 0 14 = s 0 44 - s 0 44
        rw [Int32.sub_self, Int32.sub_self]
      · refine ⟨b1, b2, ?_, ?_, b5, b6, b7⟩
        · show uC c 0 0 13 v 0 0 13 = uS s 0 43 v 0 43
          rw [uC_eq, uS_eq]
        · obtain ⟨m, m1, m2⟩ := i32_pos (Int32.le_trans (by decide) w1)
          subst m2
          show ∃ z, uS s 0 43 (nI m) 0 43 = nI z ∧ 1 ≤ z ∧ z ≤ 250
          rw [uS_eq]
          exact ⟨m, rfl, (nI_leI (a := 1) (by omega) m1).mp w1, (nI_leI (b := 250) m1 (by omega)).mp w2⟩
    · rw [if_neg w2, if_neg w2]
      exact ⟨rfl, IVC_ref h 6⟩
  · rw [if_neg w1, if_neg w1]
    exact ⟨rfl, IVC_ref h 4⟩
theorem cl_room {nl nf np n : Nat} {A B : Nat → Nat} {c : CS} {s : SS} (h : IVC nl nf np n A B c s) (v : Int32) : (x5_roomF c v).1 = (roomF nl nf np s v).1 ∧ IVC nl nf np (n + 1) A B (x5_roomF c v).2 (roomF nl nf np s v).2 := by
  unfold x5_roomF roomF
  by_cases w1 : 4000 ≤ v
  · rw [if_pos w1, if_pos w1]
    by_cases w2 : v ≤ 20000
    · rw [if_pos w2, if_pos w2]
      obtain ⟨T, fn, g, h⟩ := h
      obtain ⟨b1, b2, b3, b4, b5, b6, b7⟩ := h.1.2.2.2.2.2.2.2.2
      refine ⟨b5, T, fn, g, IV_n (IV_c2 h (fun t t0 t5 t6 => uC_0 _ _ _ _ t0) (fun j _ _ j1 => uC_k _ _ _ _ _ _ j1) (fun j j0 j1 j2 => uS_0 _ _ _ j0) (fun j _ _ j1 => uS_k _ _ _ j1) ?_ ?_)⟩
      · show uC c 0 0 14 v 0 0 14 - c 0 0 14 = uS s 0 44 v 0 44 - s 0 44
        rw [uC_eq, uS_eq, b5]
      · refine ⟨b1, b2, b3, b4, ?_, b6, b7⟩
        show uC c 0 0 14 v 0 0 14 = uS s 0 44 v 0 44
        rw [uC_eq, uS_eq]
    · rw [if_neg w2, if_neg w2]
      exact ⟨rfl, IVC_ref h 6⟩
  · rw [if_neg w1, if_neg w1]
    exact ⟨rfl, IVC_ref h 4⟩
/-- all that a line says of itself -/
theorem IV_all {nl nf np T fn g n : Nat} {A B lo tl : Nat → Nat} {c : CS} {s : SS} (h : IV nl nf np T fn g n A B lo tl c s) {l : Nat} (hl : l < nl) : c 7 l 1 = s 1 l ∧ c 7 l 2 = s 2 l ∧ c 7 l 3 = s 3 l ∧ c 7 l 8 = s 4 l ∧ c 7 l 9 = s 5 l ∧ c 7 l 10 = s 6 l ∧ c 7 l 11 = s 16 l ∧ c 7 l 12 = s 17 l ∧ c 7 l 13 = s 18 l ∧ c 7 l 14 = s 19 l ∧ c 7 l 15 = s 20 l ∧ c 7 l 16 = s 21 l ∧ c 10 l 3 = s 8 l ∧ c 10 l 4 = wsum s l (nat (s 8 l)) ∧ c 13 l 5 = s 15 l ∧ (s 4 l = 0 ∨ s 4 l = 1) := by
  obtain ⟨e1, e2, e3, e4, e5, e6⟩ := IV_ln h hl
  obtain ⟨q, hd, so, u, f, uh, cnt, sn, Q, R, M, D, ⟨a1, a2, a3, a4, a5, a6, a7⟩, hb⟩ := h.2.1 l hl
  obtain ⟨b1, b2, b3, b4, b5, b6, b7, b8, b9, b10, b11, b12, b13, b14⟩ := a2
  have e15 : s 15 l = nI u := by rw [← a4.1, S1 _ _ (by decide)]
  refine ⟨b1.trans (S1 _ _ (by decide)), e3, b3.trans (S1 _ _ (by decide)), e1, b5.trans (S1 _ _ (by decide)), b6.trans (S1 _ _ (by decide)), b7.trans (S1 _ _ (by decide)), b8.trans (S1 _ _ (by decide)), e5, b10.trans (S1 _ _ (by decide)), b11.trans (S1 _ _ (by decide)), b12.trans (S1 _ _ (by decide)), e2, e4, ?_, ?_⟩
  · rw [e15]
    exact a4.2.2.2.2.2.2.1
  · rw [← S1 s l (j := 4) (by decide)]
    exact b13.1
theorem cl_rise {nl nf np n : Nat} {A B : Nat → Nat} {c : CS} {s : SS} (h : IVC nl nf np n A B c s) (v : Int32) : (x5_riseF c nl v).1 = (riseF nl nf np s v).1 ∧ IVC nl nf np (n + 1) A B (x5_riseF c nl v).2 (riseF nl nf np s v).2 := by
  unfold x5_riseF riseF
  cases e : lnO nl v with
  | none => exact ⟨rfl, IVC_ref h 1⟩
  | some l =>
    obtain ⟨ev, hl⟩ := lnO_some e
    have h0 := h
    obtain ⟨T, fn, g, h⟩ := h
    show (if c 7 l 8 = 0 then ((1 : Int32), uC c 7 l 8 1) else (-5, refX c 5)).1 = (if s 4 l = 0 then ((1 : Int32), uS s 4 l 1) else (-5, refuseF s 5)).1 ∧ IVC nl nf np (n + 1) A B (if c 7 l 8 = 0 then ((1 : Int32), uC c 7 l 8 1) else (-5, refX c 5)).2 (if s 4 l = 0 then ((1 : Int32), uS s 4 l 1) else (-5, refuseF s 5)).2
    rw [(IV_all h hl).2.2.2.1]
    by_cases w : s 4 l = 0
    · rw [if_pos w, if_pos w]
      refine ⟨rfl, T, fn, g, IV_n (IV_LF (lo' := fun _ => T + 1) (tl' := fun _ => T) h hl (LF_1 (LF_uC (LF_refl l c s) _ _ (by decide)) 4 _ (by decide) (by decide)) ?_ (fun _ _ => ⟨rfl, rfl⟩))⟩
      rw [Cl_own _ _ _ _ (by decide), Sl_own1 _ _ _ (by decide)]
      obtain ⟨q, hd, so, u, f, uh, cnt, sn, Q, R, M, D, ⟨a1, a2, a3, a4, a5, a6, a7⟩, hb⟩ := h.2.1 l hl
      refine ⟨q, hd, so, u, f, uh, cnt, sn, Q, R, M, D, ⟨a1, ?_, a3, a4, a5, a6, CP_c a7 (fun _ _ => Iff.rfl) (fun _ _ _ => rfl)⟩, hb⟩
      obtain ⟨b1, b2, b3, b4, b5, b6, b7, b8, b9, b10, b11, b12, b13, b14⟩ := a2
      exact ⟨b1, b2, b3, rfl, b5, b6, b7, b8, b9, b10, b11, b12, ⟨Or.inr rfl, b13.2⟩, b14⟩
    · rw [if_neg w, if_neg w]
      exact ⟨rfl, IVC_ref h0 5⟩
theorem cl_lease {nl nf np n : Nat} {A B : Nat → Nat} {c : CS} {s : SS} (h : IVC nl nf np n A B c s) (v a p : Int32) : (x5_leaseF c nl v a p).1 = (leaseF nl nf np s v a p).1 ∧ IVC nl nf np (n + 1) A B (x5_leaseF c nl v a p).2 (leaseF nl nf np s v a p).2 := by
  cases e : lnO nl v with
  | none =>
    unfold x5_leaseF leaseF
    rw [e]
    exact ⟨rfl, IVC_ref h 1⟩
  | some l =>
    obtain ⟨ev, hl⟩ := lnO_some e
    have h0 := h
    obtain ⟨T, fn, g, h⟩ := h
    rw [x5_leaseF_1 e]
    unfold leaseF
    rw [e, (IV_all h hl).1]
    dsimp only
    by_cases w1 : s 1 l = 3
    · rw [if_pos w1, if_pos w1]
      by_cases w2 : a < 250
      · rw [if_pos w2, if_pos w2]
        exact ⟨rfl, IVC_ref h0 4⟩
      · rw [if_neg w2, if_neg w2]
        by_cases w3 : 1 ≤ p
        · rw [if_pos w3, if_pos w3]
          by_cases w4 : 20000 < a
          · rw [if_pos w4, if_pos w4]
            exact ⟨rfl, IVC_ref h0 6⟩
          · rw [if_neg w4, if_neg w4]
            by_cases w5 : p ≤ 20
            · rw [if_pos w5, if_pos w5]
              refine ⟨rfl, T, fn, g, IV_n (IV_LF (lo' := fun _ => T + 1) (tl' := fun _ => T) h hl (LF_1 (LF_1 (LF_uC (LF_uC (LF_refl l c s) _ _ (by decide)) _ _ (by decide)) 5 _ (by decide) (by decide)) 6 _ (by decide) (by decide)) ?_ (fun _ _ => ⟨rfl, rfl⟩))⟩
              rw [Cl_own _ _ _ _ (by decide), Cl_own _ _ _ _ (by decide), Sl_own1 _ _ _ (by decide), Sl_own1 _ _ _ (by decide)]
              obtain ⟨q, hd, so, u, f, uh, cnt, sn, Q, R, M, D, ⟨a1, a2, a3, a4, a5, a6, a7⟩, hb⟩ := h.2.1 l hl
              refine ⟨q, hd, so, u, f, uh, cnt, sn, Q, R, M, D, ⟨a1, ?_, a3, a4, a5, a6, CP_c a7 (fun _ _ => Iff.rfl) (fun _ _ _ => rfl)⟩, hb⟩
              obtain ⟨b1, b2, b3, b4, b5, b6, b7, b8, b9, b10, b11, b12, b13, b14, b15⟩ := a2
              obtain ⟨m, m1, m2⟩ := i32_pos (Int32.le_trans (by decide) w3)
              subst m2
              exact ⟨b1, b2, b3, b4, rfl, rfl, b7, b8, b9, b10, b11, b12, b13, b14, m, rfl, (nI_leI (b := 20) m1 (by omega)).mp w5⟩
            · rw [if_neg w5, if_neg w5]
              exact ⟨rfl, IVC_ref h0 6⟩
        · rw [if_neg w3, if_neg w3]
          exact ⟨rfl, IVC_ref h0 4⟩
    · rw [if_neg w1, if_neg w1]
      exact ⟨rfl, IVC_ref h0 2⟩
theorem cl_tick {nl nf np n : Nat} {A B : Nat → Nat} {c : CS} {s : SS} (h : IVC nl nf np n A B c s) (hn : n ≤ 800) (v : Int32) : ∃ t, s 0 45 = nI t ∧ t ≤ 20000 ∧ (∀ m, v = nI m → 1 ≤ m → m ≤ 100 → t + m ≤ 20000 → ∀ k, k < m → StepOK nl nf np (t + k + 1) (tickF nl nf np t k s)) ∧ ∀ x s', ((v < 1 ∧ x = -4 ∧ s' = refuseF s 4) ∨ (¬ v < 1 ∧ (100 < v ∨ 20000 < s 0 45 + v) ∧ x = -6 ∧ s' = refuseF s 6) ∨ (∃ m, v = nI m ∧ 1 ≤ m ∧ m ≤ 100 ∧ t + m ≤ 20000 ∧ x = tickF nl nf np t m s 0 33 - s 0 33 ∧ s' = tickF nl nf np t m s)) → (x5_tickF nl nf np c v).1 = x ∧ IVC nl nf np (n + 1) A B (x5_tickF nl nf np c v).2 s' := by
  have h0 := h
  obtain ⟨T, fn, g, h⟩ := h
  have e16 := h.1.2.2.2.2.2.2.1.2.2.2.2.2.2.2.1
  have e45 := h.1.2.2.2.2.2.2.1.2.2.2.2.2.2.2.2.1
  have hT := h.1.2.2.2.2.2.2.1.2.2.2.2.2.2.2.2.2
  refine ⟨T, e45, hT, fun m _ _ _ hm k hk => (tk_stage h hn m hm).2 k hk, fun x s' hx => ?_⟩
  unfold x5_tickF
  rw [e16]
  rw [e45] at hx
  rcases hx with ⟨w, rfl, rfl⟩ | ⟨w, w2, rfl, rfl⟩ | ⟨m, rfl, m1, m2, m3, rfl, rfl⟩
  · rw [if_neg (Int32.not_le.mpr w)]
    exact ⟨rfl, IVC_ref h0 4⟩
  · rw [if_pos (Int32.not_lt.mp w)]
    by_cases y : v ≤ 100
    · rw [if_pos y]
      rcases w2 with w2 | w2
      · exact absurd y (Int32.not_le.mpr w2)
      · rw [if_neg (Int32.not_le.mpr w2)]
        exact ⟨rfl, IVC_ref h0 6⟩
    · rw [if_neg y]
      exact ⟨rfl, IVC_ref h0 6⟩
  · rw [if_pos (show (1 : Int32) ≤ nI m from nI_le (a := 1) m1 (by omega)), if_pos (show nI m ≤ 100 from nI_le (b := 100) m2 (by omega)), nI_add, if_pos (show nI (T + m) ≤ 20000 from nI_le (b := 20000) m3 (by omega)), nat_nI (by omega)]
    obtain ⟨fn', g', h'⟩ := (tk_stage h hn m m3).1
    refine ⟨?_, T + m, fn', g', IV_n h'⟩
    show tkC nl nf np m c 0 0 4 - c 0 0 4 = _
    rw [h'.1.2.2.2.2.2.2.1.2.2.1.1, (IV_gl h').2.2.2.1, h.1.2.2.2.2.2.2.1.2.2.1.1, (IV_gl h).2.2.2.1]
