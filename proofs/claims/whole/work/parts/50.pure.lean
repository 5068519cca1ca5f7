/-! The pure part: losing, by counts and by pieces. -/
theorem lose19 (s : SS) (p l i : Nat) : loseF s p l 19 i = if i = l then s 19 l + 1 else s 19 i := by
  unfold loseF
  by_cases w : i = l
  · rw [if_pos w, w, uS_eq]
  · rw [if_neg w, uS_k _ _ _ w]
    rfl
theorem lose_com (s : SS) {p q l : Nat} (h : ¬ p = q) : loseF (loseF s p l) q l = loseF (loseF s q l) p l := by
  funext j k
  by_cases w1 : j = 23
  · subst w1
    rw [lose23, lose23, lose23, lose23]
    by_cases a : k = p
    · by_cases b : k = q
      · omega
      · rw [if_neg b, if_pos a, if_pos a]
    · by_cases b : k = q
      · rw [if_pos b, if_neg a, if_pos b]
      · rw [if_neg b, if_neg a, if_neg a, if_neg b]
  · by_cases w2 : j = 30
    · subst w2
      rw [lose30, lose30, lose30, lose30, lose30, lose30]
      have n1 : ¬ 8 * q + l = 8 * p + l := by omega
      have n2 : ¬ 8 * p + l = 8 * q + l := by omega
      rw [if_neg n1, if_neg n2]
      by_cases a : k = 8 * p + l
      · rw [if_neg (show ¬ k = 8 * q + l by omega), if_pos a, if_pos a]
      · by_cases b : k = 8 * q + l
        · rw [if_pos b, if_neg a, if_pos b]
        · rw [if_neg b, if_neg a, if_neg a, if_neg b]
    · by_cases w3 : j = 19
      · subst w3
        rw [lose19, lose19, lose19, lose19, lose19, lose19]
      · rw [lose_S _ _ _ ⟨w3, w1, w2⟩, lose_S _ _ _ ⟨w3, w1, w2⟩, lose_S _ _ _ ⟨w3, w1, w2⟩, lose_S _ _ _ ⟨w3, w1, w2⟩]
def gF (H : SS → Nat → Bool) (l : Nat) : Nat → SS → SS
  | 0, s => s
  | q + 1, s => if H (gF H l q s) q = true then loseF (gF H l q s) q l else gF H l q s
/-- H looks at the piece itself alone, and at none that was lost -/
def HP (H : SS → Nat → Bool) (l : Nat) : Prop := (∀ s p q, ¬ q = p → H (loseF s p l) q = H s q) ∧ ∀ s p, H (loseF s p l) p = false
theorem gF_row {H : SS → Nat → Bool} {l : Nat} (h : HP H l) (s : SS) (q : Nat) : ∀ n, n ≤ q → H (gF H l n s) q = H s q
  | 0, _ => rfl
  | n + 1, hn => by
    rw [gF]
    split
    · rw [h.1 _ _ _ (by omega), gF_row h s q n (by omega)]
    · exact gF_row h s q n (by omega)
theorem gF_com {H : SS → Nat → Bool} {l : Nat} (h : HP H l) (s : SS) (p : Nat) : ∀ n, n ≤ p → gF H l n (loseF s p l) = loseF (gF H l n s) p l
  | 0, _ => rfl
  | n + 1, hn => by
    rw [gF, gF, gF_com h s p n (by omega), h.1 _ _ _ (show ¬ n = p by omega)]
    by_cases w : H (gF H l n s) n = true
    · rw [if_pos w, if_pos w, lose_com _ (show ¬ p = n by omega)]
    · rw [if_neg w, if_neg w]
theorem gF_hit {H : SS → Nat → Bool} {l : Nat} (h : HP H l) (s : SS) {p : Nat} (hp : H s p = true) : ∀ n, p < n → gF H l n s = gF H l n (loseF s p l)
  | 0, hn => by omega
  | n + 1, hn => by
    by_cases w : p = n
    · subst w
      rw [gF, gF, gF_com h s p p (Nat.le_refl _), gF_row h s p p (Nat.le_refl _), if_pos hp, h.2, if_neg (by decide)]
    · rw [gF, gF, gF_hit h s hp n (by omega)]
theorem gF_none {H : SS → Nat → Bool} {l : Nat} {s : SS} : ∀ n, (∀ q, q < n → H s q = false) → gF H l n s = s
  | 0, _ => rfl
  | n + 1, h => by
    rw [gF, gF_none n (fun q hq => h q (by omega)), h n (by omega), if_neg (by decide)]
theorem lsF_g (l : Nat) (c : Int32) (s : SS) : ∀ n, lsF l c n s = gF (fun s q => hitF s l q c) l n s
  | 0 => rfl
  | n + 1 => by rw [lsF, gF, lsF_g l c s n]
def onB (l : Nat) : SS → Nat → Bool := fun s q => decide (s 23 q = 1 ∧ s 28 q = nI l)
theorem flF_g (l : Nat) (s : SS) : ∀ n, (flF l n s).1 = gF (onB l) l n s
  | 0 => rfl
  | n + 1 => by
    rw [flF, gF, ← flF_g l s n]
    by_cases w : (flF l n s).1 23 n = 1 ∧ (flF l n s).1 28 n = nI l
    · rw [if_pos w, if_pos (show onB l (flF l n s).1 n = true from decide_eq_true w)]
    · rw [if_neg w, if_neg (show ¬ onB l (flF l n s).1 n = true from fun z => w (of_decide_eq_true z))]
theorem flF_n (l : Nat) (s : SS) : ∀ n, (flF l n s).2 = (flF l n s).1 19 l - s 19 l
  | 0 => by
    show (0 : Int32) = s 19 l - s 19 l
    rw [Int32.sub_self]
  | n + 1 => by
    rw [flF]
    split
    · show (flF l n s).2 + 1 = loseF (flF l n s).1 n l 19 l - s 19 l
      rw [flF_n l s n, lose19, if_pos rfl]
      generalize (flF l n s).1 19 l = x
      grind
    · exact flF_n l s n
theorem hit_HP (l : Nat) (c : Int32) : HP (fun s q => hitF s l q c) l := by
  refine ⟨fun s p q hq => ?_, fun s p => ?_⟩
  · show hitF (loseF s p l) l q c = hitF s l q c
    unfold hitF
    rw [lose23, if_neg hq, lose_S _ _ _ (j := 28) (by decide), lose_S _ _ _ (j := 17) (by decide), lose_S _ _ _ (j := 29) (by decide)]
  · show hitF (loseF s p l) l p c = false
    unfold hitF
    rw [lose23, if_pos rfl]
    rfl
theorem on_HP (l : Nat) : HP (onB l) l := by
  refine ⟨fun s p q hq => ?_, fun s p => ?_⟩
  · unfold onB
    rw [lose23, if_neg hq, lose_S _ _ _ (j := 28) (by decide)]
  · unfold onB
    rw [lose23, if_pos rfl]
    exact decide_eq_false (fun z => absurd z.1 (by decide))
/-- what losing leaves of the line -/
def LO (nl nf np T fn g : Nat) (A B : Nat → Nat) (l : Nat) (c0 : CS) (s0 : SS) (c : CS) (s : SS) : Prop :=
  NL nl nf np T fn g A B c s ∧ (∀ l', ¬ l' = l → Cl c l' = Cl c0 l' ∧ Sl s l' = Sl s0 l') ∧ (∃ x, Cl c l = uL (Cl c0 l) 7 14 x ∧ Sl s l = uL (Sl s0 l) 19 0 x) ∧ s 26 = s0 26 ∧ s 29 = s0 29 ∧ s 28 = s0 28 ∧ (∀ l' p, l' < 8 → ¬ l' = l → (On s l' p ↔ On s0 l' p))
theorem uL_uL (f : LN) (j k : Nat) (a b : Int32) : uL (uL f j k a) j k b = uL f j k b := by
  funext j' k'
  unfold uL
  by_cases w : j' = j ∧ k' = k
  · rw [if_pos w, if_pos w]
  · rw [if_neg w, if_neg w, if_neg w]
theorem uL_self (f : LN) (j k : Nat) : uL f j k (f j k) = f := by
  funext j' k'
  unfold uL
  by_cases w : j' = j ∧ k' = k
  · rw [if_pos w, w.1, w.2]
  · rw [if_neg w]
theorem LO_refl {nl nf np T fn g : Nat} {A B : Nat → Nat} {l : Nat} {c0 : CS} {s0 : SS} (h : NL nl nf np T fn g A B c0 s0) (h14 : c0 7 l 14 = s0 19 l) : LO nl nf np T fn g A B l c0 s0 c0 s0 := by
  refine ⟨h, fun _ _ => ⟨rfl, rfl⟩, ⟨s0 19 l, ?_, ?_⟩, rfl, rfl, rfl, fun _ _ _ _ => Iff.rfl⟩
  · rw [← h14]
    exact (uL_self _ _ _).symm
  · rw [← S1 s0 l (j := 19) (by decide)]
    exact (uL_self _ _ _).symm
theorem Cl_lo (c : CS) (l p : Nat) : Cl (loC c l p) l = uL (Cl c l) 7 14 (c 7 l 14 + 1) := by
  unfold loC
  rw [Cl_own _ _ _ _ (by decide), Cl_no _ _ _ _ _ (by decide), Cl_bec]
theorem Cl_loO (c : CS) {l l' : Nat} (p : Nat) (h : ¬ l' = l) : Cl (loC c l p) l' = Cl c l' := by
  unfold loC
  rw [Cl_i _ _ _ _ h, Cl_no _ _ _ _ _ (by decide), Cl_bec]
theorem Sl_lo (s : SS) (p l : Nat) : Sl (loseF s p l) l = uL (Sl s l) 19 0 (s 19 l + 1) := by
  unfold loseF
  rw [Sl_own1 _ _ _ (by decide), Sl_no _ _ _ _ (by decide), Sl_no _ _ _ _ (by decide)]
theorem Sl_loO (s : SS) (p : Nat) {l l' : Nat} (h : ¬ l' = l) : Sl (loseF s p l) l' = Sl s l' := by
  unfold loseF
  rw [Sl_i1 _ _ (by decide) h, Sl_no _ _ _ _ (by decide), Sl_no _ _ _ _ (by decide)]
theorem LO_lose {nl nf np T fn g : Nat} {A B : Nat → Nat} {l : Nat} {c0 c : CS} {s0 s : SS} (h : LO nl nf np T fn g A B l c0 s0 c s) {p : Nat} (hp : p < np) (hl : l < nl) (h0 : c0 7 l 0 = nI l) (ho : On s l p) : x5_loseOnF c np l (nI p) = loC c l p ∧ LO nl nf np T fn g A B l c0 s0 (loC c l p) (loseF s p l) := by
  obtain ⟨a1, a2, ⟨x, a3, a4⟩, a5, a6, a7, a8⟩ := h
  have hl8 : nl ≤ 8 := a1.2.2.2.2.2.2.1.1.2.2
  have hnp := a1.1.1.2.1
  obtain ⟨b1, b2, b3, b4, b5, b6⟩ := a1.2.1 p hp
  have e14 : c 7 l 14 = x := by
    have : Cl c l 7 14 = x := by rw [a3, uL_eq]
    exact this
  have e19 : s 19 l = x := by
    rw [← S1 s l (j := 19) (by decide), a4, uL_eq]
  have e0 : c 7 l 0 = nI l := by
    have : Cl c l 7 0 = c0 7 l 0 := by
      rw [a3]
      rfl
    exact this.trans h0
  refine ⟨loseOn_eq hp hnp (by omega) e0 (b1.trans ho.1) (b3.trans ho.2), NL_lose a1 p l hp (by omega) ho.1, fun l' w => ?_, ⟨x + 1, ?_, ?_⟩, ?_, ?_, ?_, fun l' p' hl' w => ?_⟩
  · rw [Cl_loO _ _ w, Sl_loO _ _ w]
    exact a2 l' w
  · rw [Cl_lo, a3, uL_uL, e14]
  · rw [Sl_lo, a4, uL_uL, e19]
  · rw [lose_S _ _ _ (by decide), a5]
  · rw [lose_S _ _ _ (by decide), a6]
  · rw [lose_S _ _ _ (by decide), a7]
  · rw [← a8 l' p' hl' w]
    unfold On
    rw [lose23, lose_S _ _ _ (j := 28) (by decide)]
    by_cases e : p' = p
    · rw [if_pos e, e]
      refine ⟨fun z => absurd z.1 (by decide), fun z => ?_⟩
      exact absurd (nI_inj (by omega) (by omega) (z.2.symm.trans ho.2)) w
    · rw [if_neg e]
theorem lose_On (s : SS) (p l : Nat) : (∀ p', ¬ p' = p → (On (loseF s p l) l p' ↔ On s l p') ∧ loseF s p l 29 p' = s 29 p') ∧ ¬ On (loseF s p l) l p := by
  refine ⟨fun p' e => ⟨?_, by rw [lose_S _ _ _ (by decide)]⟩, fun z => ?_⟩
  · unfold On
    rw [lose23, if_neg e, lose_S _ _ _ (j := 28) (by decide)]
  · have := z.1
    rw [lose23, if_pos rfl] at this
    exact absurd this (by decide)
/-- losing by counts -/
theorem lu_loop {nl nf np T fn g : Nat} {A B : Nat → Nat} {l kq q cnt : Nat} {Q R : Nat → Int32} {c0 : CS} {s0 : SS} {H : SS → Nat → Bool} (hl : l < nl) (hc : cnt < 2147483648) (h0 : c0 7 l 0 = nI l) (hH : HP H l) : ∀ d w (c : CS) (s : SS), w + d ≤ cnt → LO nl nf np T fn g A B l c0 s0 c s → CPl s np l kq q Q w cnt R → (∀ i, w ≤ i → i < cnt → Cl c0 l 8 (i % 1024) = R i) → (∀ s' p, s' 29 = s0 29 → Sl s' l 17 0 = Sl s0 l 17 0 → On s' l p → (∃ i, w ≤ i ∧ i < w + d ∧ s' 29 p = nI i) → H s' p = true) →
    ∃ s', LO nl nf np T fn g A B l c0 s0 (luC np l d (nI w) c) s' ∧ CPl s' np l kq q Q (w + d) cnt R ∧ gF H l np s = gF H l np s'
  | 0, w, c, s, hw, h, hP, hR, hh => ⟨s, h, hP, rfl⟩
  | d + 1, w, c, s, hw, h, hP, hR, hh => by
    have hnp := h.1.1.1.2.1
    obtain ⟨x, e1, e2⟩ := h.2.2.1
    have es : x1_sentWithF c l (nI w) = R w := by
      unfold x1_sentWithF
      rw [an1023 (by omega), ← hR w (Nat.le_refl _) (by omega)]
      have : Cl c l 8 (w % 1024) = Cl c0 l 8 (w % 1024) := by
        rw [e1]
        rfl
      exact this
    rw [luC, es, nI_1, show w + (d + 1) = w + 1 + d by omega]
    rcases hP.2.2.1 w (Nat.le_refl _) (by omega) with z | ⟨p, p1, p2, p3, p4⟩
    · rw [z, loseOn_E]
      exact lu_loop hl hc h0 hH d (w + 1) c s (by omega) h (CP_outE hP hnp (by omega) z) (fun i i1 i2 => hR i (by omega) i2) (fun s' p y1 y2 y3 ⟨i, i1, i2, i3⟩ => hh s' p y1 y2 y3 ⟨i, by omega, by omega, i3⟩)
    · obtain ⟨r1, r2⟩ := LO_lose h p1 hl h0 p3
      obtain ⟨o1, o2⟩ := lose_On s p l
      rw [p2, r1]
      obtain ⟨s', g1, g2, g3⟩ := lu_loop hl hc h0 hH d (w + 1) _ _ (by omega) r2 (CP_out hP hnp (by omega) hc p1 p2 (fun p' _ ne => o1 p' ne) o2) (fun i i1 i2 => hR i (by omega) i2) (fun s' p y1 y2 y3 ⟨i, i1, i2, i3⟩ => hh s' p y1 y2 y3 ⟨i, by omega, by omega, i3⟩)
      refine ⟨s', g1, g2, ?_⟩
      rw [gF_hit hH s (hh s p h.2.2.2.2.1 (by rw [e2]; rfl) p3 ⟨w, Nat.le_refl _, by omega, p4⟩) np p1]
      exact g3
/-- losing the queue -/
theorem ql_loop {nl nf np T fn g : Nat} {A B : Nat → Nat} {l q w cnt hd : Nat} {Q R : Nat → Int32} {c0 : CS} {s0 : SS} (hl : l < nl) (hc : cnt < 2147483648) (h0 : c0 7 l 0 = nI l) (hhd : hd < 64) (hq40 : q ≤ 40) (h2 : c0 10 l 2 = nI hd) (hQ : ∀ k, k < q → c0 11 l ((hd + k) % 64) = Q k) : ∀ d kq (c : CS) (s : SS), kq + d = q → LO nl nf np T fn g A B l c0 s0 c s → CPl s np l kq q Q w cnt R →
    ∃ s', LO nl nf np T fn g A B l c0 s0 (qlC np l d (nI kq) c) s' ∧ CPl s' np l q q Q w cnt R ∧ gF (onB l) l np s = gF (onB l) l np s'
  | 0, kq, c, s, hk, h, hP => ⟨s, h, by rw [Nat.add_zero] at hk; rw [hk] at hP; exact hP, rfl⟩
  | d + 1, kq, c, s, hk, h, hP => by
    have hnp := h.1.1.1.2.1
    obtain ⟨x, e1, e2⟩ := h.2.2.1
    have e2' : c 10 l 2 = nI hd := by
      have : Cl c l 10 2 = Cl c0 l 10 2 := by
        rw [e1]
        rfl
      exact this.trans h2
    have es : x3_numberOfF c l (nI kq) = Q kq := by
      unfold x3_numberOfF
      rw [e2', an63 (by omega), ← hQ kq (by omega)]
      have : Cl c l 11 ((hd + kq) % 64) = Cl c0 l 11 ((hd + kq) % 64) := by
        rw [e1]
        rfl
      exact this
    rw [qlC, es, nI_1]
    rcases hP.1 kq (Nat.le_refl _) (by omega) with z | ⟨p, p1, p2, p3, p4⟩
    · rw [z, loseOn_E]
      exact ql_loop hl hc h0 hhd hq40 h2 hQ d (kq + 1) c s (by omega) h (CP_qoutE hP hnp z)
    · obtain ⟨r1, r2⟩ := LO_lose h p1 hl h0 p3
      obtain ⟨o1, o2⟩ := lose_On s p l
      rw [p2, r1]
      obtain ⟨s', g1, g2, g3⟩ := ql_loop hl hc h0 hhd hq40 h2 hQ d (kq + 1) _ _ (by omega) r2 (CP_qout hP hnp (by omega) hc p1 p2 (fun p' _ ne => o1 p' ne) o2)
      refine ⟨s', g1, g2, ?_⟩
      rw [gF_hit (on_HP l) s (decide_eq_true p3) np p1]
      exact g3
