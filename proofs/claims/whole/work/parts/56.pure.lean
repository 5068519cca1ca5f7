/-! The pure part: waits, skew; what befalls a line. -/
theorem wt_skip {s : SS} {v : Int32} {np : Nat} {x : Int32} (hx : ¬ x < 0) : ∀ d j, j + d ≤ np → (∀ q, j ≤ q → q < j + d → ¬ s 23 q = v) → wtF s v np (np - j) x = wtF s v np (np - (j + d)) x
  | 0, j, _, _ => rfl
  | d + 1, j, hj, h => by
    rw [show np - j = (np - (j + 1)) + 1 by omega, wtF, show np - (np - (j + 1) + 1) = j by omega, if_neg (h j (Nat.le_refl _) (by omega)), Int32.sub_zero, if_neg hx, wt_skip hx d (j + 1) (by omega) (fun q q1 q2 => h q (by omega) (by omega)), show j + 1 + d = j + (d + 1) by omega]
/-- how many of the pieces from j on stand so -/
def ctN (s : SS) (v : Int32) (j : Nat) : Nat → Nat
  | 0 => 0
  | d + 1 => (if s 23 j = v then 1 else 0) + ctN s v (j + 1) d
theorem ctN_le (s : SS) (v : Int32) : ∀ d j, ctN s v j d ≤ d
  | 0, _ => Nat.le_refl _
  | d + 1, j => by
    have := ctN_le s v d (j + 1)
    rw [ctN]
    split <;> omega
theorem manyF_ct {s : SS} {v : Int32} {np : Nat} : ∀ d j, j + d = np → manyF s v j + nI (ctN s v j d) = manyF s v np
  | 0, j, h => by
    rw [show j = np by omega]
    exact Int32.add_zero _
  | d + 1, j, h => by
    have := manyF_ct (s := s) (v := v) (np := np) d (j + 1) (by omega)
    rw [← this, ctN, manyF]
    by_cases w : s 23 j = v
    · rw [if_pos w, if_pos w, ← nI_add]
      show _ + ((1 : Int32) + _) = _
      generalize manyF s v j = x
      generalize nI (ctN s v (j + 1) d) = y
      grind
    · rw [if_neg w, if_neg w, Nat.zero_add, Int32.add_zero]
theorem wt_main {s : SS} {v : Int32} {np : Nat} : ∀ d j x, j + d = np → x < 2147483648 → (x < ctN s v j d → ∃ p, wtF s v np d (nI x) = .inl p) ∧ (ctN s v j d ≤ x → wtF s v np d (nI x) = .inr (nI (x - ctN s v j d)))
  | 0, j, x, _, _ => ⟨fun z => absurd z (by rw [ctN]; omega), fun _ => by rw [wtF, ctN, Nat.sub_zero]⟩
  | d + 1, j, x, h, hx => by
    rw [wtF, show np - (d + 1) = j by omega, ctN]
    by_cases w : s 23 j = v
    · rw [if_pos w, if_pos w]
      cases x with
      | zero =>
        refine ⟨fun _ => ⟨j, ?_⟩, fun z => absurd z (by omega)⟩
        rw [if_pos (by decide)]
      | succ x =>
        rw [nI_pred, if_neg (nI_pos (by omega))]
        obtain ⟨i1, i2⟩ := wt_main (s := s) (v := v) (np := np) d (j + 1) x (by omega) (by omega)
        refine ⟨fun z => i1 (by omega), fun z => ?_⟩
        rw [i2 (by omega), show x + 1 - (1 + ctN s v (j + 1) d) = x - ctN s v (j + 1) d by omega]
    · rw [if_neg w, if_neg w, Int32.sub_zero, if_neg (nI_pos hx), Nat.zero_add]
      exact wt_main d (j + 1) x (by omega) hx
theorem wt_all {s : SS} {v : Int32} {np : Nat} : ∀ d j x, j + d = np → x < 2147483648 → (∀ q, j ≤ q → q < np → s 23 q = v) → wtF s v np d (nI x) = if x < d then .inl (j + x) else .inr (nI (x - d))
  | 0, j, x, _, _, _ => by rw [wtF, if_neg (by omega), Nat.sub_zero]
  | d + 1, j, x, h, hx, ha => by
    rw [wtF, show np - (d + 1) = j by omega, if_pos (ha j (Nat.le_refl _) (by omega))]
    cases x with
    | zero => rw [if_pos (by decide), if_pos (by omega), Nat.add_zero]
    | succ x =>
      rw [nI_pred, if_neg (nI_pos (by omega)), wt_all d (j + 1) x (by omega) (by omega) (fun q q1 q2 => ha q (by omega) q2)]
      by_cases w : x < d
      · rw [if_pos w, if_pos (by omega), show j + 1 + x = j + (x + 1) by omega]
      · rw [if_neg w, if_neg (by omega), show x + 1 - (d + 1) = x - d by omega]
def wA (r : Nat ⊕ Int32) : Int32 := match r with
  | .inl p => nI p
  | .inr _ => -9
theorem lp_eq {nl nf np T fn g n : Nat} {A B lo tl : Nat → Nat} {c : CS} {s : SS} (h : IV nl nf np T fn g n A B lo tl c s) (k : Nat) (hk : k < 2147483648) : ∀ d j m, j + d = fn → m ≤ k → lpC c np (nI k) d (nI j) (nI m) = wA (wtF s 2 np (np - j) (nI (k - m)))
  | 0, j, m, hj, hm => by
    have hfn := h.1.2.2.2.1.1
    rw [lpC, wt_skip (nI_pos (by omega)) (np - j) j (by omega) (fun q q1 q2 z => ?_), show np - (j + (np - j)) = 0 by omega, wtF]
    · rfl
    · have := (h.1.2.2.2.1.2.1 q (by omega)).mpr (by omega)
      rw [this] at z
      exact absurd z (by decide)
  | d + 1, j, m, hj, hm => by
    have hfn := h.1.2.2.2.1.1
    have hnp := IV_np h
    rw [lpC, lnO_nI (show j < np by omega) (by omega), show np - j = (np - (j + 1)) + 1 by omega, wtF, show np - (np - (j + 1) + 1) = j by omega]
    show (if c 18 j 5 = 2 then (if nI m = nI k then nI j else lpC c np (nI k) d (nI j + 1) (nI m + 1)) else lpC c np (nI k) d (nI j + 1) (nI m)) = _
    rw [(h.1.2.1 j (by omega)).1, nI_1, nI_1]
    by_cases w : s 23 j = 2
    · rw [if_pos w, if_pos w]
      by_cases e : m = k
      · subst e
        rw [if_pos rfl, Nat.sub_self, if_pos (by decide)]
        rfl
      · rw [if_neg (fun z => e (nI_inj (by omega) hk z)), show k - m = (k - (m + 1)) + 1 by omega, nI_pred, if_neg (nI_pos (by omega))]
        exact lp_eq h k hk d (j + 1) (m + 1) (by omega) (by omega)
    · rw [if_neg w, if_neg w, Int32.sub_zero, if_neg (nI_pos (by omega))]
      exact lp_eq h k hk d (j + 1) m (by omega) hm
theorem IV_A {nl nf np T fn g n : Nat} {A B lo tl : Nat → Nat} {c : CS} {s : SS} (h : IV nl nf np T fn g n A B lo tl c s) : A g ≤ fn ∧ fn ≤ np ∧ np ≤ 3000 ∧ c 0 0 5 = nI (A g) ∧ c 0 0 9 = nI fn := by
  have hGV := h.1.2.2.2.2.2.1
  have hfn := h.1.2.2.2.1.1
  refine ⟨Nat.le_of_not_lt (fun z => ?_), hfn, IV_np h, h.1.2.2.2.2.2.2.1.2.2.2.1, h.1.2.2.2.2.2.2.1.2.2.2.2.2.2.1⟩
  have hAn : A g ≤ np := by
    have := A_mono (A := A) (nf := nf) (fun f hf => (h.1.1.2.1 f hf).1) g nf hGV.1 (Nat.le_refl _)
    rw [h.1.1.1.2.2.2.1] at this
    exact this
  have z1 := hGV.2 fn z
  have z2 := (h.1.2.2.2.1.2.1 fn (by omega)).mpr (Nat.le_refl _)
  rw [z1] at z2
  exact absurd z2 (by decide)
theorem cl_waits {nl nf np n : Nat} {A B : Nat → Nat} {c : CS} {s : SS} (h : IVC nl nf np n A B c s) (i : Int32) : x5_waitsF c np i = waitsF np s i := by
  obtain ⟨T, fn, g, h⟩ := h
  obtain ⟨p1, p2, p3, p4, p5⟩ := IV_A h
  have hGV := h.1.2.2.2.2.2.1
  unfold x5_waitsF waitsF
  rcases i32_neg_or i with w | ⟨k, k1, k2⟩
  · rw [if_pos w, if_pos w]
  · subst k2
    rw [if_neg (nI_pos k1), if_neg (nI_pos k1)]
    have m2 := manyF_ct (s := s) (v := 2) (np := np) np 0 (by omega)
    have m0 := manyF_ct (s := s) (v := 0) (np := np) np 0 (by omega)
    rw [show manyF s 2 0 = 0 from rfl, Int32.zero_add] at m2
    rw [show manyF s 0 0 = 0 from rfl, Int32.zero_add] at m0
    have l2 := ctN_le s 2 np 0
    have l0 := ctN_le s 0 np 0
    have e2 : c 4 0 2 = nI (ctN s 2 0 np) := (h.1.2.2.1 2 (by decide)).trans m2.symm
    have e0 : c 4 0 0 = nI (ctN s 0 0 np) := (h.1.2.2.1 0 (by decide)).trans m0.symm
    obtain ⟨i1, i2⟩ := wt_main (s := s) (v := 2) (np := np) np 0 k (by omega) k1
    rw [e2, e0, nI_add, p4, p5, dI_ii (by omega) (by omega)]
    -- how many are NEW
    have hNW : ∀ x, x < 2147483648 → wtF s 0 np np (nI x) = if x < np - fn then .inl (fn + x) else .inr (nI (x - (np - fn))) := by
      intro x hx
      have := wt_skip (s := s) (v := 0) (np := np) (x := nI x) (nI_pos hx) fn 0 (by omega) (fun q _ q2 z => by
        have := (h.1.2.2.2.1.2.1 q (by omega)).mp z
        omega)
      rw [Nat.sub_zero, Nat.zero_add] at this
      rw [this]
      exact wt_all (np - fn) fn x (by omega) hx (fun q q1 q2 => (h.1.2.2.2.1.2.1 q q2).mpr q1)
    have c0 : ctN s 0 0 np = np - fn := by
      have a1 := (wt_main (s := s) (v := 0) (np := np) np 0 (np - fn) (by omega) (by omega))
      have a2 := hNW (np - fn) (by omega)
      rw [if_neg (by omega)] at a2
      rcases Nat.lt_trichotomy (ctN s 0 0 np) (np - fn) with y | y | y
      · have a3 := a1.2 (by omega)
        rw [a2, Nat.sub_self] at a3
        have a4 : nI 0 = nI (np - fn - ctN s 0 0 np) := by
          injection a3
        have := nI_inj (by omega) (by omega) a4
        omega
      · exact y
      · obtain ⟨p, a3⟩ := a1.1 y
        rw [a2] at a3
        cases a3
    by_cases w1 : k < ctN s 2 0 np
    · rw [if_pos (nI_lt (by omega) (by omega)), if_pos (nI_lt w1 (by omega))]
      obtain ⟨p, q1⟩ := i1 w1
      have := lp_eq h k k1 (fn - A g) (A g) 0 (by omega) (by omega)
      rw [show (0 : Int32) = nI 0 from rfl, this, Nat.sub_zero]
      have sk := wt_skip (s := s) (v := 2) (np := np) (x := nI k) (nI_pos k1) (A g) 0 (by omega) (fun q _ q2 z => by
        have := hGV.2 q (by omega)
        rw [z] at this
        exact absurd this (by decide))
      rw [Nat.sub_zero, Nat.zero_add] at sk
      rw [← sk, q1]
      rfl
    · rw [i2 (by omega)]
      show _ = wA (wtF s 0 np np (nI (k - ctN s 2 0 np)))
      rw [hNW _ (by omega)]
      by_cases w2 : k < ctN s 2 0 np + ctN s 0 0 np
      · rw [if_pos (nI_lt w2 (by omega)), if_neg (fun z => w1 ((nI_ltI k1 (by omega)).mp z)), if_pos (by omega)]
        show _ = nI (fn + (k - ctN s 2 0 np))
        rw [nI_add, nI_sub (by omega), show fn + k - ctN s 2 0 np = fn + (k - ctN s 2 0 np) by omega]
      · rw [if_neg (fun z => w2 ((nI_ltI k1 (by omega)).mp z)), if_neg (by omega)]
        rfl
/-! The skew. -/
def skD (s : SS) (np : Nat) : Nat → Int32 × Int32
  | 0 => (-9, -9)
  | d + 1 => (if (skD s np d).1 = -9 ∧ s 23 (np - (d + 1)) = 3 then nI (np - (d + 1)) else (skD s np d).1, if s 23 (np - (d + 1)) = 3 then (skD s np d).2 else nI (np - (d + 1)))
theorem skC_D {nl nf np T fn g n : Nat} {A B lo tl : Nat → Nat} {c : CS} {s : SS} (h : IV nl nf np T fn g n A B lo tl c s) : ∀ d j (ga ma : Int32), j + d = np → skC c np d (nI j) ga ma = (if (if (skD s np d).1 = -9 then ga else (skD s np d).1) = -9 then 0 else (if (skD s np d).1 = -9 then ga else (skD s np d).1) - (if ma = -9 then (skD s np d).2 else ma))
  | 0, j, ga, ma, _ => by
    rw [skC, skD]
    by_cases w : ma = -9
    · rw [if_pos rfl, if_pos w, w]
    · rw [if_pos rfl, if_neg w]
  | d + 1, j, ga, ma, hj => by
    have hnp := IV_np h
    have n9 := nI_nem9 (n := j) (by omega)
    rw [skC, lnO_nI (show j < np by omega) (by omega)]
    show (if c 18 j 5 = 3 then skC c np d (nI j + 1) (nI j) ma else if ma = -9 then skC c np d (nI j + 1) ga (nI j) else skC c np d (nI j + 1) ga ma) = _
    rw [(h.1.2.1 j (by omega)).1, nI_1, skD, show np - (d + 1) = j by omega, skC_D h d (j + 1) _ _ (by omega), skC_D h d (j + 1) _ _ (by omega), skC_D h d (j + 1) _ _ (by omega)]
    dsimp only
    generalize (skD s np d).1 = x
    generalize (skD s np d).2 = y
    by_cases w : s 23 j = 3
    · rw [if_pos w, if_pos w]
      by_cases w1 : x = -9
      · simp [w1, w, n9]
      · simp [w1, w]
    · rw [if_neg w, if_neg w]
      by_cases w2 : ma = -9
      · simp [w2, w, n9]
      · simp [w2, w]
theorem skF_D {nl nf np T fn g n : Nat} {A B lo tl : Nat → Nat} {c : CS} {s : SS} (h : IV nl nf np T fn g n A B lo tl c s) : ∀ d, d ≤ np - A g → skF s np (-9) (-9) = skF s (np - d) (skD s np d).1 (skD s np d).2
  | 0, _ => rfl
  | d + 1, hd => by
    obtain ⟨i1, i2, i3, i4, i5⟩ := IV_A h
    rw [skF_D h d (by omega), show np - d = (np - (d + 1)) + 1 by omega, skF, skD]
    have e : (s 0 33 ≤ s 24 (np - (d + 1))) := by
      obtain ⟨f, f1, f2, f3⟩ := frOf (A := A) (np - (d + 1)) nf h.1.1.1.2.2.1 (by rw [h.1.1.1.2.2.2.1]; omega)
      have hnf := h.1.1.1.1
      have hg := (IV_gl h).2.2.2.2.2
      rw [(IV_gl h).2.2.2.1, ((h.1.1.2.1 f f1).2.2.2.2.2.2.2.2.2.2.2.2 (np - (d + 1)) f2 f3).1]
      refine nI_le (Nat.le_of_not_lt (fun z => ?_)) (by omega)
      have := A_mono (A := A) (nf := nf) (fun f hf => (h.1.1.2.1 f hf).1) (f + 1) g z hg
      omega
    by_cases w : (skD s np d).1 = -9 ∧ s 23 (np - (d + 1)) = 3
    · rw [if_pos ⟨w.1, w.2, e⟩, if_pos w]
    · rw [if_neg (fun z => w ⟨z.1, z.2.1⟩), if_neg w]
theorem skF_end {nl nf np T fn g n : Nat} {A B lo tl : Nat → Nat} {c : CS} {s : SS} (h : IV nl nf np T fn g n A B lo tl c s) (m l : Int32) : ∀ d, d ≤ A g → skF s d m l = if m = -9 then 0 else m - l
  | 0, _ => rfl
  | d + 1, hd => by
    obtain ⟨i1, i2, i3, i4, i5⟩ := IV_A h
    have h3 := h.1.2.2.2.2.2.1.2 d hd
    have e : ¬ (s 0 33 ≤ s 24 d) := by
      obtain ⟨f, f1, f2, f3⟩ := frOf (A := A) d nf h.1.1.1.2.2.1 (by rw [h.1.1.1.2.2.2.1]; omega)
      have hnf := h.1.1.1.1
      have hg := (IV_gl h).2.2.2.2.2
      rw [(IV_gl h).2.2.2.1, ((h.1.1.2.1 f f1).2.2.2.2.2.2.2.2.2.2.2.2 d f2 f3).1]
      refine nI_ge (Nat.lt_of_not_le (fun z => ?_)) (by omega)
      have := A_mono (A := A) (nf := nf) (fun f hf => (h.1.1.2.1 f hf).1) g f z (by omega)
      omega
    rw [skF, if_neg (fun z => e z.2.2), if_pos h3]
    exact skF_end h m l d (by omega)
theorem cl_skew {nl nf np n : Nat} {A B : Nat → Nat} {c : CS} {s : SS} (h : IVC nl nf np n A B c s) : skC c np (dI (c 0 0 5) (nI np)) (c 0 0 5) (-9) (-9) = skF s np (-9) (-9) := by
  obtain ⟨T, fn, g, h⟩ := h
  obtain ⟨i1, i2, i3, i4, i5⟩ := IV_A h
  rw [i4, dI_ii (by omega) (by omega), skC_D h (np - A g) (A g) _ _ (by omega), skF_D h (np - A g) (Nat.le_refl _), show np - (np - A g) = A g by omega, skF_end h _ _ (A g) (Nat.le_refl _)]
  generalize (skD s np (np - A g)).1 = x
  generalize (skD s np (np - A g)).2 = y
  by_cases w : x = -9
  · rw [if_pos w, if_pos rfl, if_pos w]
  · rw [if_neg w, if_neg w, if_pos rfl, if_neg w]
