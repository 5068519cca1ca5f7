/-! The pure part: a tick. -/
theorem IV_hq {nl nf np T fn g n : Nat} {A B lo tl : Nat → Nat} {c : CS} {s : SS} (h : IV nl nf np T fn g n A B lo tl c s) : ∀ l, l < nl → ∃ q, s 8 l = nI q ∧ q ≤ 40 ∧ ∀ k, k < q → okp np (s 7 (41 * l + k)) := by
  intro l hl
  obtain ⟨q, hd, so, u, f, uh, cnt, sn, Q, R, M, D, ⟨a1, a2, a3, a4, a5, a6, a7⟩, hb⟩ := h.2.1 l hl
  have hq := a3.2.1
  refine ⟨q, by rw [← a3.1, S1 _ _ (by decide)], hq, fun k hk => ?_⟩
  rw [← S7 s l k (by omega), (a3.2.2.2.2.2.2.2.2.1 k hk).1]
  rcases a7.1 k (by omega) hk with z | ⟨p, p1, p2, _⟩
  · exact Or.inl z
  · exact Or.inr ⟨p, p1, p2⟩
theorem IV_hsp {nl nf np T fn g n : Nat} {A B lo tl : Nat → Nat} {c : CS} {s : SS} (h : IV nl nf np T fn g n A B lo tl c s) : ∀ l, l < nl → ¬ s 2 l = 0 := by
  intro l hl z
  obtain ⟨a, a1, a2, a3⟩ := (IV_ln h hl).2.2.2.2.2
  rw [a1] at z
  exact nI_ne0 (by omega) (by omega) z
theorem IV_hu {nl nf np T fn g n : Nat} {A B lo tl : Nat → Nat} {c : CS} {s : SS} (h : IV nl nf np T fn g n A B lo tl c s) : ∀ l, l < nl → ∃ u f, s 15 l = nI u ∧ u ≤ 200 ∧ s 14 l = nI f ∧ f < 200 := by
  intro l hl
  obtain ⟨q, hd, so, u, f, uh, cnt, sn, Q, R, M, D, ⟨a1, a2, a3, a4, a5, a6, a7⟩, hb⟩ := h.2.1 l hl
  exact ⟨u, f, by rw [← a4.1, S1 _ _ (by decide)], a4.2.1, by rw [← a4.2.2.1, S1 _ _ (by decide)], a4.2.2.2.1⟩
theorem IV_CM {nl nf np T fn g n : Nat} {A B lo tl : Nat → Nat} {c : CS} {s : SS} (h : IV nl nf np T fn g n A B lo tl c s) {l : Nat} (hl : l < nl) : CM s l np := by
  obtain ⟨q, hd, so, u, f, uh, cnt, sn, Q, R, M, D, ⟨a1, a2, a3, a4, a5, a6, a7⟩, hb⟩ := h.2.1 l hl
  refine ⟨u, f, by rw [← a4.1, S1 _ _ (by decide)], a4.2.1, by rw [← a4.2.2.1, S1 _ _ (by decide)], a4.2.2.2.1, fun k hk => ?_⟩
  have hcu := a4.2.2.2.2.2.2.2.2.1
  rw [← SW s l (j := 10) (by decide) (Nat.mod_lt _ (by decide)), (a4.2.2.2.2.2.2.2.2.2.2.1 k hk).1.1]
  rcases a7.2.2.1 (cnt - u + k) (by omega) (by omega) with z | ⟨p, p1, p2, _⟩
  · exact Or.inl z
  · exact Or.inr ⟨p, p1, p2⟩
theorem IV_LQ {nl nf np T fn g n : Nat} {A B lo tl : Nat → Nat} {c : CS} {s : SS} (h : IV nl nf np T fn g n A B lo tl c s) {l : Nat} (hl : l < nl) : LQ s l np := by
  obtain ⟨u, f, e1, e2, e3, e4⟩ := IV_hu h l hl
  exact ⟨IV_hq h l hl, ⟨u, e1, e2⟩, f, e3, e4⟩
theorem IV_sp {nl nf np T fn g n : Nat} {A B lo tl : Nat → Nat} {c : CS} {s : SS} (h : IV nl nf np T fn g n A B lo tl c s) {l : Nat} (hl : l < nl) : ∃ sp, s 6 l = nI sp ∧ sp ≤ 20 := by
  obtain ⟨q, hd, so, u, f, uh, cnt, sn, Q, R, M, D, ⟨a1, a2, a3, a4, a5, a6, a7⟩, hb⟩ := h.2.1 l hl
  obtain ⟨b1, b2, b3, b4, b5, b6, b7, b8, b9, b10, b11, b12, b13, b14, sp, b17, b18⟩ := a2
  rw [S1 _ _ (by decide)] at b17
  exact ⟨sp, b17, b18⟩
theorem IV_FR {nl nf np T fn g n : Nat} {A B lo tl : Nat → Nat} {c : CS} {s : SS} (h : IV nl nf np T fn g n A B lo tl c s) : FR s nf np := by
  intro f hf
  obtain ⟨b1, b2, b3, b4, b5, b6⟩ := h.1.1.2.1 f hf
  refine ⟨A f, A (f + 1) - A f, b4, b5, ?_⟩
  have := A_mono (A := A) (nf := nf) (fun f hf => (h.1.1.2.1 f hf).1) (f + 1) nf hf (Nat.le_refl _)
  rw [h.1.1.1.2.2.2.1] at this
  omega
theorem IV_KC {nl nf np T fn g n : Nat} {A B lo tl : Nat → Nat} {c : CS} {s : SS} (h : IV nl nf np T fn g n A B lo tl c s) : KC nl nf np c := by
  obtain ⟨g1, g2, g3, g4, g5, g6, g7⟩ := h.1.2.2.2.2.2.2.1
  refine ⟨g1.1, g2.1, g6.1, fun p hp => ?_⟩
  obtain ⟨b1, b2, b3, b4, ⟨z, b5, b6⟩, b7⟩ := h.1.2.1 p hp
  unfold StOK
  rw [b1, b5, nat_nI (by omega)]
  exact ⟨rfl, b6⟩
def Jq (nl np : Nat) (t : SS) : Prop := t 0 0 = nI nl ∧ t 0 23 = nI np ∧ (∀ l, l < nl → ∃ q, t 8 l = nI q ∧ q ≤ 40 ∧ ∀ k, k < q → okp np (t 7 (41 * l + k))) ∧ (∀ l, l < nl → ¬ t 2 l = 0)
theorem Jq_lay {nl np : Nat} (t : SS) (p l : Nat) (h : Jq nl np t) (hp : p < np) (e : blF t p nl = some l) : Jq nl np (layOnF t p l) := by
  obtain ⟨h1, h2, h3, h4⟩ := h
  have hl := blF_lt t p nl l e
  have hb := bl_q nl e
  obtain ⟨q, q1, q2, q3⟩ := h3 l hl
  have q4 : q < 40 := by
    rw [q1] at hb
    exact (nI_ltI (by omega) (by decide)).mp hb
  have e0 : layOnF t p l 0 = t 0 := lay_S _ _ _ (by decide)
  have e2 : layOnF t p l 2 = t 2 := lay_S _ _ _ (by decide)
  have e7 : ∀ i, layOnF t p l 7 i = if i = 41 * l + q then nI p else t 7 i := by
    intro i
    unfold layOnF layF
    rw [uS_j _ _ _ (by decide), uS_j _ _ _ (by decide), uS_j _ _ _ (by decide), uS_j _ _ _ (by decide), uS_j _ _ _ (by decide), q1, nat_nI (by omega)]
    by_cases w : i = 41 * l + q
    · rw [if_pos w, w, uS_eq]
    · rw [if_neg w, uS_k _ _ _ w]
  have e8 : ∀ i, layOnF t p l 8 i = if i = l then nI (q + 1) else t 8 i := by
    intro i
    unfold layOnF layF
    rw [uS_j _ _ _ (by decide), uS_j _ _ _ (by decide), uS_j _ _ _ (by decide), uS_j _ _ _ (by decide)]
    by_cases w : i = l
    · rw [if_pos w, w, uS_eq, q1, nI_1]
    · rw [if_neg w, uS_k _ _ _ w, uS_j _ _ _ (by decide)]
  refine ⟨by rw [e0]; exact h1, by rw [e0]; exact h2, fun l' hl' => ?_, fun l' hl' => by rw [e2]; exact h4 l' hl'⟩
  rw [e8]
  by_cases w : l' = l
  · subst w
    rw [if_pos rfl]
    refine ⟨q + 1, rfl, by omega, fun k hk => ?_⟩
    rw [e7]
    by_cases y : k = q
    · rw [if_pos (by omega)]
      exact Or.inr ⟨p, hp, rfl⟩
    · rw [if_neg (by omega)]
      exact q3 k (by omega)
  · rw [if_neg w]
    obtain ⟨q', y1, y2, y3⟩ := h3 l' hl'
    refine ⟨q', y1, y2, fun k hk => ?_⟩
    rw [e7, if_neg (by omega)]
    exact y3 k hk
theorem IV_gl {nl nf np T fn g n : Nat} {A B lo tl : Nat → Nat} {c : CS} {s : SS} (h : IV nl nf np T fn g n A B lo tl c s) : s 0 0 = nI nl ∧ s 0 23 = nI np ∧ s 0 32 = nI nf ∧ s 0 33 = nI g ∧ s 0 45 = nI T ∧ g ≤ nf := by
  obtain ⟨g1, g2, g3, g4, g5, g6, g7, g8⟩ := h.1.2.2.2.2.2.2.1
  exact ⟨g1.2.1, g6.2, g2.2, g3.2, g8.2.1, h.1.2.2.2.2.2.1.1⟩
/-- one tick -/
theorem st_stage {nl nf np T fn g n : Nat} {A B : Nat → Nat} {c : CS} {s : SS} (h : IV nl nf np T fn g n A B (fun _ => T + 1) (fun _ => T) c s) (hT : T < 20000) (hn : n ≤ 800) : (∃ fn' g', IV nl nf np (T + 1) fn' g' n A B (fun _ => T + 2) (fun _ => T + 1) (stC nl nf np c) (stepF nl nf np (T + 1) s)) ∧ StepOK nl nf np (T + 1) s := by
  have h1 := IV_time h hT
  obtain ⟨fn', h2⟩ := IV_laying h1
  generalize hc3 : lwC nl np (dI ((llC nl np (dI ((uC c 0 0 16 (c 0 0 16 + 1)) 0 0 5) ((uC c 0 0 16 (c 0 0 16 + 1)) 0 0 9)) ((uC c 0 0 16 (c 0 0 16 + 1)) 0 0 5) (uC c 0 0 16 (c 0 0 16 + 1))) 0 0 9) (nI np)) ((llC nl np (dI ((uC c 0 0 16 (c 0 0 16 + 1)) 0 0 5) ((uC c 0 0 16 (c 0 0 16 + 1)) 0 0 9)) ((uC c 0 0 16 (c 0 0 16 + 1)) 0 0 5) (uC c 0 0 16 (c 0 0 16 + 1))) 0 0 9) (llC nl np (dI ((uC c 0 0 16 (c 0 0 16 + 1)) 0 0 5) ((uC c 0 0 16 (c 0 0 16 + 1)) 0 0 9)) ((uC c 0 0 16 (c 0 0 16 + 1)) 0 0 5) (uC c 0 0 16 (c 0 0 16 + 1))) = c3 at h2
  have eC : stC nl nf np c = rlC nl (gwC nl nf np (soC nl c3)) := by
    rw [← hc3]
    rfl
  have h3 : ∀ k, k ≤ nl → IV nl nf np (T + 1) fn' g n A B (fun _ => T + 1) (fun l => if l < k then T + 1 else T) (soC k c3) (st3 nl np (T + 1) s k) := so_stage (by omega) hn h2
  have h3' : IV nl nf np (T + 1) fn' g n A B (fun _ => T + 1) (fun _ => T + 1) (soC nl c3) (st3 nl np (T + 1) s nl) := IV_fc (h3 nl (Nat.le_refl _)) (fun l hl => ⟨rfl, (if_pos hl).symm⟩)
  have h4 : ∀ k, k ≤ nl → IV nl nf np (T + 1) fn' g n A B (fun l => if l < k then T + 1 + 1 else T + 1) (fun _ => T + 1) (twC nf np k (soC nl c3)) (st4 nl np (T + 1) s k) := tw_stage h3'
  have h4' : IV nl nf np (T + 1) fn' g n A B (fun _ => T + 2) (fun _ => T + 1) (twC nf np nl (soC nl c3)) (st4 nl np (T + 1) s nl) := IV_fc (h4 nl (Nat.le_refl _)) (fun l hl => ⟨(if_pos hl).symm, rfl⟩)
  have hg := (IV_gl h4').2.2.2.2.2
  have hnf := h4'.1.1.1.1
  obtain ⟨g', h5⟩ := gv_stage g (nf - g) g _ _ (by omega) h4'
  have e4 : twC nf np nl (soC nl c3) 0 0 4 = nI g := h4'.1.2.2.2.2.2.2.1.2.2.1.1
  have h5' : IV nl nf np (T + 1) fn' g' n A B (fun _ => T + 2) (fun _ => T + 1) (gwC nl nf np (soC nl c3)) (st5 nl nf np (T + 1) s) := by
    unfold gwC
    rw [e4, dI_ii (by omega) (by omega), ← st5_eq, show nf + 1 = nf - g + g + 1 by omega]
    exact h5
  have h6 : ∀ k, k ≤ nl → IV nl nf np (T + 1) fn' g' n A B (fun _ => T + 2) (fun _ => T + 1) (rlC k (gwC nl nf np (soC nl c3))) (st6 nl nf np (T + 1) s k) := rl_stage h5'
  refine ⟨⟨fn', g', ?_⟩, ?_, by omega, ⟨Jq nl np, fun t ht => ht, fun t p l hJ hp _ e => Jq_lay t p l hJ hp e, ?_⟩, fun k hk => ?_, fun k hk => ?_, ?_, fun k hk => ?_⟩
  · rw [eC, stepF_st]
    exact h6 nl (Nat.le_refl _)
  · rw [(IV_gl h).2.2.2.2.1, nI_1]
  · exact ⟨(IV_gl h1).1, (IV_gl h1).2.1, IV_hq h1, IV_hsp h1⟩
  · have := h3 k hk
    exact ⟨(IV_gl this).1, (IV_gl this).2.2.2.2.1, fun hl => ⟨IV_sp this hl, IV_LQ this hl⟩⟩
  · have := h4 k hk
    exact ⟨(IV_gl this).1, (IV_gl this).2.1, fun hl => IV_CM this hl⟩
  · exact ⟨g, (IV_gl h4').2.2.2.1, hg, (IV_gl h4').2.2.1, IV_FR h4'⟩
  · have := h6 k hk
    refine ⟨(IV_gl this).1, fun hl => ?_⟩
    obtain ⟨q, q1, q2, q3⟩ := IV_hq this k hl
    exact ⟨q, q1, q2⟩
theorem tk_stage {nl nf np T fn g n : Nat} {A B : Nat → Nat} {c : CS} {s : SS} (h : IV nl nf np T fn g n A B (fun _ => T + 1) (fun _ => T) c s) (hn : n ≤ 800) : ∀ m, T + m ≤ 20000 → (∃ fn' g', IV nl nf np (T + m) fn' g' n A B (fun _ => T + m + 1) (fun _ => T + m) (tkC nl nf np m c) (tickF nl nf np T m s)) ∧ ∀ k, k < m → StepOK nl nf np (T + k + 1) (tickF nl nf np T k s)
  | 0, _ => ⟨⟨fn, g, h⟩, fun k hk => absurd hk (by omega)⟩
  | m + 1, hm => by
    obtain ⟨⟨fn', g', ih⟩, ih2⟩ := tk_stage h hn m (by omega)
    obtain ⟨h1, h2⟩ := st_stage ih (by omega) hn
    refine ⟨?_, fun k hk => ?_⟩
    · rw [tkC, tickF_s]
      exact h1
    · by_cases w : k = m
      · rw [w]
        exact h2
      · exact ih2 k (by omega)
