/-! The pure part: laying, whole. -/
theorem layL_skip {nl np : Nat} {s : SS} : ∀ d, d ≤ np → (∀ q, np - d ≤ q → q < np → ¬ s 23 q = 2) → layL nl np d s = (s, false)
  | 0, _, _ => rfl
  | d + 1, hd, h => by
    rw [layL, if_neg (h _ (Nat.le_refl _) (by omega)), layL_skip d (by omega) (fun q q1 q2 => h q (by omega) q2)]
theorem layL_pre {nl np : Nat} {s : SS} : ∀ i, i ≤ np → (∀ q, q < i → ¬ s 23 q = 2) → layL nl np np s = layL nl np (np - i) s
  | 0, _, _ => rfl
  | i + 1, hi, h => by
    rw [layL_pre i (by omega) (fun q hq => h q (by omega)), show np - i = (np - (i + 1)) + 1 by omega, layL, show np - (np - (i + 1) + 1) = i by omega, if_neg (h i (by omega))]
theorem layN_pre {nl np : Nat} {s : SS} (left : Int32) : ∀ i, i ≤ np → (∀ q, q < i → ¬ s 23 q = 0) → layN nl np np left s = layN nl np (np - i) left s
  | 0, _, _ => rfl
  | i + 1, hi, h => by
    rw [layN_pre left i (by omega) (fun q hq => h q (by omega)), show np - i = (np - (i + 1)) + 1 by omega, layN, show np - (np - (i + 1) + 1) = i by omega, if_neg (h i (by omega))]
/-- the number of pieces that stand so -/
theorem manyF_n {s : SS} (v : Int32) : ∀ n, ∃ m, m ≤ n ∧ manyF s v n = nI m ∧ (m = 0 → ∀ q, q < n → ¬ s 23 q = v)
  | 0 => ⟨0, Nat.le_refl _, rfl, fun _ q hq => absurd hq (by omega)⟩
  | n + 1 => by
    obtain ⟨m, m1, m2, m3⟩ := manyF_n (s := s) v n
    rw [manyF, m2]
    by_cases w : s 23 n = v
    · rw [if_pos w]
      exact ⟨m + 1, by omega, nI_1 m, fun z => by omega⟩
    · rw [if_neg w]
      refine ⟨m, by omega, Int32.add_zero _, fun z q hq => ?_⟩
      by_cases e : q = n
      · rw [e]
        exact w
      · exact m3 z q (by omega)
theorem noLost {np : Nat} {c : CS} {s : SS} (h : CN np c s) (hn : np ≤ 3000) (h0 : ¬ 0 < c 4 0 2) : ∀ q, q < np → ¬ s 23 q = 2 := by
  obtain ⟨m, m1, m2, m3⟩ := manyF_n (s := s) 2 np
  have e := h 2 (by decide)
  rw [show nI 2 = (2 : Int32) from rfl, m2] at e
  refine m3 (Nat.eq_zero_of_not_pos (fun z => h0 ?_))
  rw [e]
  exact nI_lt (a := 0) z (by omega)
theorem lay_lost {nl nf np T fn g n : Nat} {A B lo tl : Nat → Nat} : ∀ d i (c : CS) (s : SS), i + d = fn → IV nl nf np T fn g n A B lo tl c s → ∃ s' b, layL nl np (np - i) s = (s', b) ∧ IV nl nf np T fn g n A B lo tl (llC nl np d (nI i) c) s' ∧ (b = true → NoLn nl s')
  | 0, i, c, s, hi, h => by
    refine ⟨s, false, layL_skip _ (by omega) (fun q q1 q2 z => ?_), h, fun z => by cases z⟩
    have := h.1.2.2.2.1.1
    have := (h.1.2.2.2.1.2.1 q q2).mpr (by omega)
    rw [this] at z
    exact absurd z (by decide)
  | d + 1, i, c, s, hi, h => by
    have hfn := h.1.2.2.2.1.1
    have hnp := IV_np h
    rw [llC]
    by_cases w : 0 < c 4 0 2
    · rw [if_pos w, lnO_nI (show i < np by omega) (by omega)]
      show ∃ s' b, _ ∧ IV nl nf np T fn g n A B lo tl (if c 18 i 5 = 2 then (match lfC c i nl with
          | none => c
          | some l => llC nl np d (nI i + 1) (x5_layOnF c l (nI i) i)) else llC nl np d (nI i + 1) c) s' ∧ _
      rw [(h.1.2.1 i (by omega)).1, show np - i = (np - (i + 1)) + 1 by omega, layL, show np - (np - (i + 1) + 1) = i by omega, nI_1]
      by_cases w2 : s 23 i = 2
      · rw [if_pos w2, if_pos w2, lf_eq h (by omega) (Or.inl w2) nl (Nat.le_refl _)]
        cases e : blF s i nl with
        | none => exact ⟨s, true, rfl, h, fun _ => bl_none nl e⟩
        | some l => exact lay_lost d (i + 1) _ _ (by omega) (IV_lay h i l (by omega) (bl_lt h (by omega) (Or.inl w2) e) w2 (bl_q nl e))
      · rw [if_neg w2, if_neg w2]
        exact lay_lost d (i + 1) c s (by omega) h
    · rw [if_neg w]
      exact ⟨s, false, layL_skip _ (by omega) (fun q q1 q2 => noLost h.1.2.2.1 hnp w q q2), h, fun z => by cases z⟩
theorem lw_none {nl nf np T fn g n : Nat} {A B lo tl : Nat → Nat} {c : CS} {s : SS} (h : IV nl nf np T fn g n A B lo tl c s) (hN : NoLn nl s) : ∀ d, fn + d = np → lwC nl np d (nI fn) c = c
  | 0, _ => rfl
  | d + 1, hd => by
    have hnp := IV_np h
    have h2 : s 23 fn = 0 := (h.1.2.2.2.1.2.1 fn (by omega)).mpr (Nat.le_refl _)
    rw [lwC, lnO_nI (show fn < np by omega) (by omega)]
    show (if x5_creditLeftF c < c 18 fn 1 then c else (match lfC c fn nl with
          | none => c
          | some l => lwC nl np d (nI fn + 1) (x5_layOnF (uC (uC c 0 0 15 (c 0 0 15 + c 18 fn 1)) 0 0 9 (nI fn + 1)) l (nI fn) fn))) = c
    rw [lf_eq h (by omega) (Or.inr h2) nl (Nat.le_refl _), none_bl fn nl hN]
    split <;> rfl
theorem lay_new {nl nf np T g n : Nat} {A B lo tl : Nat → Nat} : ∀ d fn (c : CS) (s : SS), fn + d = np → IV nl nf np T fn g n A B lo tl c s → ∃ fn', IV nl nf np T fn' g n A B lo tl (lwC nl np d (nI fn) c) (layN nl np d (credF s np) s)
  | 0, fn, c, s, hd, h => ⟨fn, h⟩
  | d + 1, fn, c, s, hd, h => by
    have hnp := IV_np h
    have h2 : s 23 fn = 0 := (h.1.2.2.2.1.2.1 fn (by omega)).mpr (Nat.le_refl _)
    rw [lwC, lnO_nI (show fn < np by omega) (by omega), layN, show np - (d + 1) = fn by omega, if_pos h2]
    show ∃ fn', IV nl nf np T fn' g n A B lo tl (if x5_creditLeftF c < c 18 fn 1 then c else (match lfC c fn nl with
          | none => c
          | some l => lwC nl np d (nI fn + 1) (x5_layOnF (uC (uC c 0 0 15 (c 0 0 15 + c 18 fn 1)) 0 0 9 (nI fn + 1)) l (nI fn) fn))) _
    have ec : x5_creditLeftF c = credF s np := h.1.2.2.2.2.2.2.2.1
    have ez := (IV_sz h (show fn < np by omega)).1
    rw [lf_eq h (by omega) (Or.inr h2) nl (Nat.le_refl _), ec, ez, nI_1]
    cases e : blF s fn nl with
    | none =>
      refine ⟨fn, ?_⟩
      show IV nl nf np T fn g n A B lo tl (if credF s np < s 26 fn then c else c) s
      split <;> exact h
    | some l =>
      show ∃ fn', IV nl nf np T fn' g n A B lo tl (if credF s np < s 26 fn then c else lwC nl np d (nI (fn + 1)) (x5_layOnF (uC (uC c 0 0 15 (c 0 0 15 + s 26 fn)) 0 0 9 (nI (fn + 1))) l (nI fn) fn)) (if credF s np < s 26 fn then s else layN nl np d (credF s np - s 26 fn) (layOnF s fn l))
      by_cases w : credF s np < s 26 fn
      · rw [if_pos w, if_pos w]
        exact ⟨fn, h⟩
      · rw [if_neg w, if_neg w]
        have hl := bl_lt h (show fn < np by omega) (Or.inr h2) e
        have hN := IV_layN h l (by omega) hl (bl_q nl e)
        rw [ez, nI_1] at hN
        obtain ⟨f, f1, f2, f3, f4, f5⟩ := fr_ge h.1.1 h.1.2.2.2.2.2.1 (show fn < np by omega) (nul_ne _ h2).1
        have hnf := h.1.1.1.1
        have hg := h.1.2.2.2.2.2.2.1.2.2.1.2
        have ecr : credF (layOnF s fn l) np = credF s np - s 26 fn := by
          rw [credF_up (p := fn) (fun q hq => (lay_Sq s fn l hq).1) h2 (one_ne _ (lay_Sp s fn l).1).1 (by rw [f5, hg]; exact nI_le f2 (by omega)) (lay_S _ _ _ (by decide)) (lay_S _ _ _ (by decide)) (lay_S _ _ _ (by decide)), if_pos (by omega)]
        rw [← ecr]
        exact lay_new d (fn + 1) _ _ (by omega) hN
/-- the time's step -/
theorem IV_time {nl nf np T fn g n : Nat} {A B lo tl : Nat → Nat} {c : CS} {s : SS} (h : IV nl nf np T fn g n A B lo tl c s) (hT : T < 20000) : IV nl nf np (T + 1) fn g n A B lo tl (uC c 0 0 16 (c 0 0 16 + 1)) (uS s 0 45 (nI (T + 1))) := by
  obtain ⟨⟨a1, a2, a3, a4, a5, a6, a7, a8, a9⟩, hL, hZ⟩ := h
  obtain ⟨b1, b2, b3, b4, b5, b6, b7, b8, b9, b10⟩ := a7
  refine ⟨⟨FX_c a1 (fun _ _ _ => rfl) (fun _ _ _ => rfl) rfl rfl rfl rfl rfl rfl rfl rfl rfl rfl, a2, ?_, a4, ?_, a6, ⟨b1, b2, b3, b4, b5, b6, b7, ?_, ?_, by omega⟩, ?_, a9⟩, fun l hl => ?_, fun l l1 l2 j hj k => by rw [Sl_no _ _ _ _ (by decide)]; exact hZ l l1 l2 j hj k⟩
  · intro j hj
    rw [manyF_c (s := s) (s' := uS s 0 45 (nI (T + 1))) rfl]
    exact a3 j hj
  · exact TH_c a5 (fun q => Iff.rfl) rfl rfl
  · rw [uC_eq, b8, nI_1]
  · exact uS_eq _ _ _ _
  · have : ∀ m, credF (uS s 0 45 (nI (T + 1))) m = credF s m := by
      intro m
      induction m with
      | zero => rfl
      | succ m ih =>
        rw [credF, credF, ih]
        rfl
    show c 0 0 14 - c 0 0 15 = _
    rw [this]
    exact a8
  · rw [Cl_no _ _ _ _ _ (by decide), Sl_no _ _ _ _ (by decide)]
    obtain ⟨q, hd, so, u, f, uh, cnt, sn, Q, R, M, D, ⟨d1, d2, d3, d4, d5, d6, d7⟩, d8⟩ := hL l hl
    exact ⟨q, hd, so, u, f, uh, cnt, sn, Q, R, M, D, ⟨d1, d2, d3, LU_T d4 (Nat.le_succ _), d5, d6, d7⟩, d8⟩
theorem dI_ii {a b : Nat} (ha : a < 2147483648) (hb : b < 2147483648) : dI (nI a) (nI b) = b - a := dI_nI ha hb
/-- laying -/
theorem IV_laying {nl nf np T fn g n : Nat} {A B lo tl : Nat → Nat} {c : CS} {s : SS} (h : IV nl nf np T fn g n A B lo tl c s) : ∃ fn', IV nl nf np T fn' g n A B lo tl (lwC nl np (dI ((llC nl np (dI (c 0 0 5) (c 0 0 9)) (c 0 0 5) c) 0 0 9) (nI np)) ((llC nl np (dI (c 0 0 5) (c 0 0 9)) (c 0 0 5) c) 0 0 9) (llC nl np (dI (c 0 0 5) (c 0 0 9)) (c 0 0 5) c)) (layingF nl np s) := by
  have hnp := IV_np h
  have hfn := h.1.2.2.2.1.1
  have hGL := h.1.2.2.2.2.2.2.1
  have hGV := h.1.2.2.2.2.2.1
  have e5 : c 0 0 5 = nI (A g) := hGL.2.2.2.1
  have e9 : c 0 0 9 = nI fn := hGL.2.2.2.2.2.2.1
  have hAn : A g ≤ np := by
    have := A_mono (A := A) (nf := nf) (fun f hf => (h.1.1.2.1 f hf).1) g nf hGV.1 (Nat.le_refl _)
    rw [h.1.1.1.2.2.2.1] at this
    exact this
  have hA : A g ≤ fn := by
    refine Nat.le_of_not_lt (fun z => ?_)
    have z1 := hGV.2 fn z
    have z2 := (h.1.2.2.2.1.2.1 fn (by omega)).mpr (Nat.le_refl _)
    rw [z1] at z2
    exact absurd z2 (by decide)
  rw [e5, e9, dI_ii (by omega) (by omega)]
  obtain ⟨s', b, r1, r2, r3⟩ := lay_lost (fn - A g) (A g) c s (by omega) h
  rw [← layL_pre (A g) hAn (fun q hq z => by
    have := hGV.2 q hq
    rw [z] at this
    exact absurd this (by decide))] at r1
  generalize llC nl np (fn - A g) (nI (A g)) c = c2 at r2 ⊢
  have e9' : c2 0 0 9 = nI fn := r2.1.2.2.2.2.2.2.1.2.2.2.2.2.2.1
  rw [e9', dI_ii (by omega) (by omega), layingF, r1]
  cases b with
  | true =>
    refine ⟨fn, ?_⟩
    rw [lw_none r2 (r3 rfl) (np - fn) (by omega)]
    exact r2
  | false =>
    show ∃ fn', IV nl nf np T fn' g n A B lo tl _ (layN nl np np (credF s' np) s')
    rw [layN_pre (credF s' np) fn hfn (fun q hq z => by
      have := (r2.1.2.2.2.1.2.1 q (by omega)).mp z
      omega)]
    exact lay_new (np - fn) fn c2 s' (by omega) r2
