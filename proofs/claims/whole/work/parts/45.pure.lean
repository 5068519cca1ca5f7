/-! The pure part: the whole invariant; laying. -/
def LIw (T lo K tl np l : Nat) (C S : LN) (s : SS) (q hd so u f uh cnt sn kq w : Nat) (Q R M : Nat → Int32) (D : Nat → Nat) : Prop :=
  C 7 0 = nI l ∧ LA C S ∧ LQv C S (s 26) q hd so Q ∧ LUv C S T lo K u f uh cnt w R M D ∧ S 17 0 = nI sn ∧ LGv C S tl ∧ CPl s np l kq q Q w cnt R
def LI (T lo tl n np l : Nat) (C S : LN) (s : SS) : Prop := ∃ (q hd so u f uh cnt sn : Nat) (Q R M : Nat → Int32) (D : Nat → Nat), LIw T lo (41 * tl) tl np l C S s q hd so u f uh cnt sn 0 sn Q R M D ∧ cnt - sn + mkN M (cnt - u) u ≤ u + n
/-- lines that are not yet opened -/
def ZR (nl : Nat) (s : SS) : Prop := ∀ l, nl ≤ l → l < 8 → ∀ j, 7 ≤ j → ∀ k, Sl s l j k = 0
def IV (nl nf np T fn g n : Nat) (A B lo tl : Nat → Nat) (c : CS) (s : SS) : Prop := NL nl nf np T fn g A B c s ∧ (∀ l, l < nl → LI T (lo l) (tl l) n np l (Cl c l) (Sl s l) s) ∧ ZR nl s
theorem LIw_c {T lo K tl np l : Nat} {C S : LN} {s s' : SS} {q hd so u f uh cnt sn kq w : Nat} {Q R M : Nat → Int32} {D : Nat → Nat} (h : LIw T lo K tl np l C S s q hd so u f uh cnt sn kq w Q R M D) (h0 : s' 26 = s 26) (h1 : ∀ p, p < np → (On s' l p ↔ On s l p)) (h2 : ∀ p, p < np → On s l p → s' 29 p = s 29 p) : LIw T lo K tl np l C S s' q hd so u f uh cnt sn kq w Q R M D := by
  obtain ⟨a1, a2, a3, a4, a5, a6, a7⟩ := h
  exact ⟨a1, a2, by rw [h0]; exact a3, a4, a5, a6, CP_c a7 h1 h2⟩
theorem LI_c {T lo tl n np l : Nat} {C S : LN} {s s' : SS} (h : LI T lo tl n np l C S s) (h0 : s' 26 = s 26) (h1 : ∀ p, p < np → (On s' l p ↔ On s l p)) (h2 : ∀ p, p < np → On s l p → s' 29 p = s 29 p) : LI T lo tl n np l C S s' := by
  obtain ⟨q, hd, so, u, f, uh, cnt, sn, Q, R, M, D, a, b⟩ := h
  exact ⟨q, hd, so, u, f, uh, cnt, sn, Q, R, M, D, LIw_c a h0 h1 h2, b⟩
theorem Cl_bec (c : CS) (p z l : Nat) : Cl (x5_becomeF c p z) l = Cl c l := by
  unfold x5_becomeF
  rw [Cl_no _ _ _ _ _ (by decide), Cl_no _ _ _ _ _ (by decide), Cl_no _ _ _ _ _ (by decide)]
theorem Cl_lay (c : CS) (l : Nat) (n : Int32) (p : Nat) : Cl (x5_layOnF c l n p) l = qaC (Cl c l) n (c 18 p 1) := by
  unfold x5_layOnF
  rw [Cl_add, Cl_no _ _ _ _ _ (by decide), Cl_no _ _ _ _ _ (by decide), Cl_bec, bec18, if_neg (fun z => absurd z.2 (by decide))]
theorem Cl_addO (c : CS) {l l' : Nat} (n z : Int32) (h : ¬ l' = l) : Cl (x3_addF c l n z) l' = Cl c l' := by
  unfold x3_addF
  rw [Cl_i _ _ _ _ h, Cl_i _ _ _ _ h, Cl_i _ _ _ _ h, Cl_i _ _ _ _ h]
theorem Cl_layO (c : CS) {l l' : Nat} (n : Int32) (p : Nat) (h : ¬ l' = l) : Cl (x5_layOnF c l n p) l' = Cl c l' := by
  unfold x5_layOnF
  rw [Cl_addO _ _ _ h, Cl_no _ _ _ _ _ (by decide), Cl_no _ _ _ _ _ (by decide), Cl_bec]
theorem Sl_lay (s : SS) (p l : Nat) (h : nat (s 8 l) < 41) : Sl (layOnF s p l) l = qaS (Sl s l) (nI p) := by
  unfold layOnF
  rw [Sl_no _ _ _ _ (by decide), Sl_no _ _ _ _ (by decide), Sl_no _ _ _ _ (by decide), Sl_no _ _ _ _ (by decide), Sl_add _ _ _ h]
theorem Sl_i1 (s : SS) {l m j : Nat} (v : Int32) (hj : wid j = 1) (h : ¬ l = m) : Sl (uS s j m v) l = Sl s l := Sl_i s (k := 0) m v h (by omega) (by rw [hj]; omega)
theorem Sl_addO (s : SS) {l l' : Nat} (v : Int32) (h : nat (s 8 l) < 41) (hl : ¬ l' = l) : Sl (layF s v l) l' = Sl s l' := by
  unfold layF
  rw [Sl_i1 _ _ (by decide) hl]
  exact Sl_i s (j := 7) (k := nat (s 8 l)) _ _ hl h rfl
theorem Sl_layO (s : SS) (p : Nat) {l l' : Nat} (h : nat (s 8 l) < 41) (hl : ¬ l' = l) : Sl (layOnF s p l) l' = Sl s l' := by
  unfold layOnF
  rw [Sl_no _ _ _ _ (by decide), Sl_no _ _ _ _ (by decide), Sl_no _ _ _ _ (by decide), Sl_no _ _ _ _ (by decide), Sl_addO _ _ h hl]
theorem szr_nI (z : Nat → Int32) {p : Nat} (hp : p < 2147483648) : szr z (nI p) = z p := by
  unfold szr
  rw [if_neg (nI_nem2 hp), nat_nI hp]
/-- a piece that is on no line is laid -/
theorem LN_lay {nl np T n : Nat} {lo tl : Nat → Nat} {c c2 : CS} {s : SS} (h : ∀ l, l < nl → LI T (lo l) (tl l) n np l (Cl c l) (Sl s l) s) (p l z : Nat) (hp : p < np) (hn : np ≤ 3000) (hl : l < nl) (hl8 : nl ≤ 8) (h1 : ¬ s 23 p = 1) (hz : s 26 p = nI z) (z1 : 1 ≤ z) (z2 : z ≤ 250) (ht : s 8 l < 40) (hc : ∀ l', Cl c2 l' = Cl c l') (hc2 : c2 18 p 1 = s 26 p) : ∀ l', l' < nl → LI T (lo l') (tl l') n np l' (Cl (x5_layOnF c2 l (nI p) p) l') (Sl (layOnF s p l) l') (layOnF s p l) := by
  obtain ⟨q0, hd0, so0, u0, f0, uh0, cnt0, sn0, Q0, R0, M0, D0, ⟨a1, a2, a3, a4, a5, a6, a7⟩, b⟩ := h l hl
  have e8 : s 8 l = nI q0 := by rw [← a3.1, S1 _ _ (by decide)]
  have hq : q0 < 40 := by
    rw [e8] at ht
    exact (nI_ltI (by have := a3.2.1; omega) (by decide)).mp ht
  have n8 : nat (s 8 l) < 41 := by rw [e8, nat_nI (by omega)]; omega
  intro l' hl'
  by_cases w : l' = l
  · subst w
    rw [Cl_lay, Sl_lay _ _ _ n8, hc, hc2, ← szr_nI (s 26) (show p < 2147483648 by omega)]
    refine ⟨q0 + 1, hd0, so0, u0, f0, uh0, cnt0, sn0, exN Q0 q0 (nI p), R0, M0, D0, ⟨a1, a2, ?_, a4, a5, a6, ?_⟩, b⟩
    · rw [lay_S _ _ _ (j := 26) (by decide)]
      exact LQ_add a3 hq (nI p) ((szr_nI _ (by omega)).trans hz) z1 z2
    · obtain ⟨e1, e2, e3, e4⟩ := lay_Sp s p l'
      refine CP_add a7 p hp hn (fun y => h1 y.1) (fun p' hp' ne => ?_) ⟨e1, e3⟩ e4
      obtain ⟨d1, d2, d3, d4⟩ := lay_Sq s p l' ne
      unfold On
      rw [d1, d3, d4]
      exact ⟨Iff.rfl, rfl⟩
  · rw [Cl_layO _ _ _ w, Sl_layO _ _ n8 w, hc]
    refine LI_c (h l' hl') (lay_S _ _ _ (by decide)) (fun p' hp' => ?_) (fun p' hp' ho => ?_)
    · by_cases e : p' = p
      · rw [e]
        obtain ⟨e1, e2, e3, e4⟩ := lay_Sp s p l
        refine ⟨fun y => ?_, fun y => absurd y.1 h1⟩
        have := y.2
        rw [e3] at this
        exact absurd (nI_inj (by omega) (by omega) this).symm w
      · obtain ⟨d1, d2, d3, d4⟩ := lay_Sq s p l e
        unfold On
        rw [d1, d3]
    · have ne : ¬ p' = p := fun e => h1 (e ▸ ho.1)
      exact (lay_Sq s p l ne).2.2.2
theorem IV_sz {nl nf np T fn g n : Nat} {A B lo tl : Nat → Nat} {c : CS} {s : SS} (h : IV nl nf np T fn g n A B lo tl c s) {p : Nat} (hp : p < np) : c 18 p 1 = s 26 p ∧ ∃ z, s 26 p = nI z ∧ 1 ≤ z ∧ z ≤ 250 := by
  obtain ⟨b1, b2, a, z, b3, b4, b5, b6, b7, b8⟩ := h.1.1.2.2 p hp
  exact ⟨b2, z, b4, b5, b6⟩
theorem IV_l0 {nl nf np T fn g n : Nat} {A B lo tl : Nat → Nat} {c : CS} {s : SS} (h : IV nl nf np T fn g n A B lo tl c s) {l : Nat} (hl : l < nl) : c 7 l 0 = nI l := by
  obtain ⟨q0, hd0, so0, u0, f0, uh0, cnt0, sn0, Q0, R0, M0, D0, ⟨a1, a2⟩, b⟩ := h.2.1 l hl
  exact a1
theorem IV_np {nl nf np T fn g n : Nat} {A B lo tl : Nat → Nat} {c : CS} {s : SS} (h : IV nl nf np T fn g n A B lo tl c s) : np ≤ 3000 := h.1.1.1.2.1
theorem IV_nl {nl nf np T fn g n : Nat} {A B lo tl : Nat → Nat} {c : CS} {s : SS} (h : IV nl nf np T fn g n A B lo tl c s) : nl ≤ 8 := h.1.2.2.2.2.2.2.1.1.2.2
theorem ZR_lay {nl nf np T fn g n : Nat} {A B lo tl : Nat → Nat} {c : CS} {s : SS} (h : IV nl nf np T fn g n A B lo tl c s) (p : Nat) {l : Nat} (hl : l < nl) : ZR nl (layOnF s p l) := by
  obtain ⟨q0, hd0, so0, u0, f0, uh0, cnt0, sn0, Q0, R0, M0, D0, ⟨a1, a2, a3, a4⟩, b⟩ := h.2.1 l hl
  have e8 : s 8 l = nI q0 := by rw [← a3.1, S1 _ _ (by decide)]
  have hq := a3.2.1
  intro l' l1 l2 j hj k
  rw [Sl_layO _ _ (by rw [e8, nat_nI (by omega)]; omega) (by omega)]
  exact h.2.2 l' l1 l2 j hj k
theorem IV_lay {nl nf np T fn g n : Nat} {A B lo tl : Nat → Nat} {c : CS} {s : SS} (h : IV nl nf np T fn g n A B lo tl c s) (p l : Nat) (hp : p < np) (hl : l < nl) (h2 : s 23 p = 2) (ht : s 8 l < 40) : IV nl nf np T fn g n A B lo tl (x5_layOnF c l (nI p) p) (layOnF s p l) := by
  obtain ⟨e1, z, e2, e3, e4⟩ := IV_sz h hp
  exact ⟨NL_lay h.1 p l hp hl (IV_l0 h hl) h2, LN_lay h.2.1 p l z hp (IV_np h) hl (IV_nl h) (two_ne _ h2).2.1 e2 e3 e4 ht (fun _ => rfl) e1, ZR_lay h p hl⟩
theorem IV_layN {nl nf np T fn g n : Nat} {A B lo tl : Nat → Nat} {c : CS} {s : SS} (h : IV nl nf np T fn g n A B lo tl c s) (l : Nat) (hp : fn < np) (hl : l < nl) (ht : s 8 l < 40) : IV nl nf np T (fn + 1) g n A B lo tl (x5_layOnF (uC (uC c 0 0 15 (c 0 0 15 + c 18 fn 1)) 0 0 9 (nI fn + 1)) l (nI fn) fn) (layOnF s fn l) := by
  obtain ⟨e1, z, e2, e3, e4⟩ := IV_sz h hp
  have h2 : s 23 fn = 0 := (h.1.2.2.2.1.2.1 fn hp).mpr (Nat.le_refl _)
  refine ⟨NL_layN h.1 l hp hl (IV_l0 h hl), LN_lay h.2.1 fn l z hp (IV_np h) hl (IV_nl h) (nul_ne _ h2).2.1 e2 e3 e4 ht (fun l' => ?_) ?_, ZR_lay h fn hl⟩
  · rw [Cl_no _ _ _ _ _ (by decide), Cl_no _ _ _ _ _ (by decide)]
  · rw [uC_t _ _ _ _ _ _ (by decide), uC_t _ _ _ _ _ _ (by decide)]
    exact e1
/-! Which line. -/
theorem wsum_Q {s : SS} {l : Nat} : ∀ n, wsum s l n = sumN (fun k => szr (s 26) (s 7 (41 * l + k))) n - s 9 l
  | 0 => by
    rw [wsum, sumN, Int32.zero_sub]
  | n + 1 => by
    rw [wsum, sumN, wsum_Q n]
    show _ + szr (s 26) (s 7 (41 * l + n)) = _
    generalize szr (s 26) (s 7 (41 * l + n)) = x
    grind
/-- what laying asks of a line -/
theorem IV_ln {nl nf np T fn g n : Nat} {A B lo tl : Nat → Nat} {c : CS} {s : SS} (h : IV nl nf np T fn g n A B lo tl c s) {l : Nat} (hl : l < nl) : c 7 l 8 = s 4 l ∧ c 10 l 3 = s 8 l ∧ c 7 l 2 = s 2 l ∧ c 10 l 4 = wsum s l (nat (s 8 l)) ∧ c 7 l 13 = s 18 l ∧ (∃ a, s 2 l = nI a ∧ 1 ≤ a ∧ a ≤ 1000) := by
  obtain ⟨q, hd, so, u, f, uh, cnt, sn, Q, R, M, D, ⟨a1, a2, a3, a4, a5, a6, a7⟩, b⟩ := h.2.1 l hl
  obtain ⟨b1, b2, b3, b4, b5, b6, b7, b8, b9, b10⟩ := a2
  obtain ⟨d1, d2, d3, d4, d5, d6, d7, d8, d9, d10, d11⟩ := a3
  have e8 : s 8 l = nI q := by rw [← d1, S1 _ _ (by decide)]
  have e9 : s 9 l = nI so := by rw [← d3, S1 _ _ (by decide)]
  refine ⟨b4.trans (S1 _ _ (by decide)), by rw [e8]; exact d6, b2.trans (S1 _ _ (by decide)), ?_, b9.trans (S1 _ _ (by decide)), by rw [← S1 s l (j := 2) (by decide)]; exact b10.2.2.2.2.1⟩
  rw [e8, nat_nI (by omega), wsum_Q, e9]
  refine d8.trans ?_
  rw [sumN_c q (f := fun k => szr (s 26) (Q k)) (g := fun k => szr (s 26) (s 7 (41 * l + k)))]
  intro k hk
  rw [← (d9 k hk).1, S7 _ _ _ (by omega)]
theorem better_eq {nl nf np T fn g n : Nat} {A B lo tl : Nat → Nat} {c : CS} {s : SS} (h : IV nl nf np T fn g n A B lo tl c s) {p l m : Nat} (hp : p < np) (hl : l < nl) (hm : m < nl) (h2 : s 23 p = 2 ∨ s 23 p = 0) : x5_isBetterF c l m p = if betterF s p l m = true then 1 else 0 := by
  have hnl := IV_nl h
  have los : ∀ k, k < nl → x2_lossesOnF c p (c 7 k 0) = s 30 (8 * p + k) := fun k hk => by
    rw [IV_l0 h hk]
    unfold x2_lossesOnF
    rw [if_neg (nI_pos (by omega)), if_pos (nI_lt (by omega) (by decide)), nat_nI (by omega)]
    exact (h.1.2.1 p hp).2.2.2.1 k (by omega)
  have tic : ∀ k, k < nl → x1_ticksToSendF c k (c 18 p 1) = ticksF s p k := fun k hk => by
    obtain ⟨e1, e2, e3, e4, e5, a, e6, e7, e8⟩ := IV_ln h hk
    unfold x1_ticksToSendF ticksF
    rw [e3, e4, (IV_sz h hp).1, if_pos (by rw [e6]; exact nI_le (a := 1) e7 (by omega))]
  have car : ∀ k, k < nl → c 7 k 13 = s 18 k := fun k hk => (IV_ln h hk).2.2.2.2.1
  unfold x5_isBetterF betterF
  rw [los l hl, los m hm, tic l hl, tic m hm, car l hl, car m hm]
  have key : ∀ x y : Int32, (if y ≤ x then (0 : Int32) else 1) = if decide (x < y) = true then 1 else 0 := by
    intro x y
    by_cases w : y ≤ x
    · rw [if_pos w, if_neg (fun z => absurd (of_decide_eq_true z) (Int32.not_lt.mpr w))]
    · rw [if_neg w, if_pos (decide_eq_true (Int32.not_le.mp w))]
  have rest : (if ticksF s p l = ticksF s p m then if s 18 m ≤ s 18 l then (0 : Int32) else 1 else if ticksF s p m ≤ ticksF s p l then 0 else 1) = if (if ticksF s p l = ticksF s p m then decide (s 18 l < s 18 m) else decide (ticksF s p l < ticksF s p m)) = true then 1 else 0 := by
    by_cases w : ticksF s p l = ticksF s p m
    · rw [if_pos w, if_pos w, key]
    · rw [if_neg w, if_neg w, key]
  rcases h2 with h2 | h2
  · by_cases w : s 30 (8 * p + l) = s 30 (8 * p + m)
    · rw [if_pos w, if_neg (show ¬ (s 23 p = 2 ∧ ¬ s 30 (8 * p + l) = s 30 (8 * p + m)) from fun z => z.2 w), rest]
    · rw [if_neg w, if_pos (show s 23 p = 2 ∧ ¬ s 30 (8 * p + l) = s 30 (8 * p + m) from ⟨h2, w⟩), key]
  · have hz := (h.1.2.2.2.1.2.2 p ((h.1.2.2.2.1.2.1 p hp).mp h2)).2
    rw [hz l (by omega), hz m (by omega), if_pos rfl, if_neg (show ¬ (s 23 p = 2 ∧ ¬ (0 : Int32) = 0) from fun z => z.2 rfl), rest]
theorem lf_eq {nl nf np T fn g n : Nat} {A B lo tl : Nat → Nat} {c : CS} {s : SS} (h : IV nl nf np T fn g n A B lo tl c s) {p : Nat} (hp : p < np) (h2 : s 23 p = 2 ∨ s 23 p = 0) : ∀ k, k ≤ nl → lfC c p k = blF s p k
  | 0, _ => rfl
  | k + 1, hk => by
    rw [lfC, blF, lf_eq h hp h2 k (by omega)]
    obtain ⟨e1, e2, e3⟩ := IV_ln h (show k < nl by omega)
    unfold x1_takesMoreF
    rw [e1, e2]
    by_cases w1 : s 4 k = 0
    · rw [if_pos w1, if_pos rfl, if_neg (fun z => z.1 w1)]
    · rw [if_neg w1]
      by_cases w2 : (40 : Int32) ≤ s 8 k
      · rw [if_pos w2, if_pos rfl, if_neg (fun z => Int32.not_lt.mpr w2 z.2.1)]
      · rw [if_neg w2, if_neg (by decide)]
        have w3 := Int32.not_le.mp w2
        cases e : blF s p k with
        | none => 
          rw [if_pos ⟨w1, w3, rfl⟩]
        | some m =>
          have hm : m < nl := by
            have : lfC c p k = some m := (lf_eq h hp h2 k (by omega)).trans e
            have := lfC_lt c p k m this
            omega
          show (if x5_isBetterF c k m p = 0 then some m else some k) = _
          rw [better_eq h hp (by omega) hm h2]
          show _ = if ¬ s 4 k = 0 ∧ s 8 k < 40 ∧ betterF s p k m = true then some k else some m
          by_cases w4 : betterF s p k m = true
          · rw [if_pos w4, if_neg (by decide), if_pos ⟨w1, w3, w4⟩]
          · rw [if_neg w4, if_pos rfl, if_neg (fun z => w4 z.2.2)]
theorem bl_lt {nl nf np T fn g n : Nat} {A B lo tl : Nat → Nat} {c : CS} {s : SS} (h : IV nl nf np T fn g n A B lo tl c s) {p l : Nat} (hp : p < np) (h2 : s 23 p = 2 ∨ s 23 p = 0) (e : blF s p nl = some l) : l < nl := lfC_lt c p nl l ((lf_eq h hp h2 nl (Nat.le_refl _)).trans e)
theorem bl_q {s : SS} {p l : Nat} : ∀ k, blF s p k = some l → s 8 l < 40
  | 0, e => by cases e
  | k + 1, e => by
    rw [blF] at e
    split at e
    · next z =>
      cases e
      exact z.2.1
    · exact bl_q k e
def NoLn (nl : Nat) (s : SS) : Prop := ∀ l, l < nl → ¬ (¬ s 4 l = 0 ∧ s 8 l < 40)
theorem bl_none {s : SS} {p : Nat} : ∀ k, blF s p k = none → NoLn k s
  | 0, _ => fun l hl => absurd hl (by omega)
  | k + 1, e => by
    rw [blF] at e
    split at e
    · cases e
    · next z =>
      intro l hl
      by_cases w : l = k
      · subst w
        intro y
        refine z ⟨y.1, y.2, ?_⟩
        rw [e]
        rfl
      · exact bl_none k e l (by omega)
theorem none_bl {s : SS} (p : Nat) : ∀ k, NoLn k s → blF s p k = none
  | 0, _ => rfl
  | k + 1, h => by
    rw [blF, none_bl p k (fun l hl => h l (by omega)), if_neg (fun z => h k (by omega) ⟨z.1, z.2.1⟩)]
