/-! The pure part: what is no line's own. -/
def sumZ (s : SS) (a : Nat) : Nat → Int32
  | 0 => 0
  | k + 1 => sumZ s a k + s 26 (a + k)
/-- frames and pieces as they were cut -/
def FXo (nf np : Nat) (A B : Nat → Nat) (c : CS) (s : SS) : Prop :=
  (nf ≤ 300 ∧ np ≤ 3000 ∧ A 0 = 0 ∧ A nf = np ∧ B 0 = 0 ∧ s 0 40 = nI (B nf)) ∧
  (∀ f, f < nf → A f < A (f + 1) ∧ B f < B (f + 1) ∧ B (f + 1) ≤ B f + 4000 ∧ s 32 f = nI (A f) ∧ s 33 f = nI (A (f + 1) - A f) ∧ s 35 f = nI (B f) ∧ s 31 f = nI (B (f + 1) - B f) ∧ c 20 f 1 = s 31 f ∧ c 20 f 2 = s 32 f ∧ c 20 f 3 = s 33 f ∧ (∀ k, k < B (f + 1) - B f → c 21 f k = s 36 (B f + k)) ∧ sumZ s (A f) (A (f + 1) - A f) = s 31 f ∧ (∀ p, A f ≤ p → p < A (f + 1) → s 24 p = nI f ∧ c 18 p 2 = (if p + 1 = A (f + 1) then 1 else 0))) ∧
  (∀ p, p < np → c 18 p 0 = s 24 p ∧ c 18 p 1 = s 26 p ∧ ∃ a z, s 25 p = nI a ∧ s 26 p = nI z ∧ 1 ≤ z ∧ z ≤ 250 ∧ a + z ≤ B nf ∧ c 18 p 3 = sumF s a z)
/-- how pieces stand -/
def DY (nl np : Nat) (c : CS) (s : SS) : Prop := ∀ p, p < np → c 18 p 5 = s 23 p ∧ c 18 p 6 = s 27 p ∧ c 18 p 7 = s 28 p ∧ (∀ k, k < 8 → c 19 p k = s 30 (8 * p + k)) ∧ (∃ z, s 23 p = nI z ∧ z < 4) ∧ (s 23 p = 1 → ∃ l, l < nl ∧ s 28 p = nI l)
def CN (np : Nat) (c : CS) (s : SS) : Prop := ∀ j, j < 4 → c 4 0 j = manyF s (nI j) np
def NW (fn np : Nat) (s : SS) : Prop := fn ≤ np ∧ (∀ p, p < np → (s 23 p = 0 ↔ fn ≤ p)) ∧ ∀ p, fn ≤ p → s 27 p = 0 ∧ ∀ k, k < 8 → s 30 (8 * p + k) = 0
def TH (nf : Nat) (A : Nat → Nat) (c : CS) (s : SS) : Prop := ∀ f, f < nf → c 20 f 4 = cntTF s (A f) (A (f + 1) - A f) ∧ c 20 f 5 = s 34 f
def GV (g nf : Nat) (A : Nat → Nat) (s : SS) : Prop := g ≤ nf ∧ ∀ p, p < A g → s 23 p = 3
def GL (nl nf np T fn g : Nat) (A B : Nat → Nat) (c : CS) (s : SS) : Prop := (c 0 0 1 = nI nl ∧ s 0 0 = nI nl ∧ nl ≤ 8) ∧ (c 0 0 3 = nI nf ∧ s 0 32 = nI nf) ∧ (c 0 0 4 = nI g ∧ s 0 33 = nI g) ∧ c 0 0 5 = nI (A g) ∧ c 0 0 6 = nI (B g) ∧ (c 0 0 8 = nI np ∧ s 0 23 = nI np) ∧ c 0 0 9 = nI fn ∧ (c 0 0 16 = nI T ∧ s 0 45 = nI T ∧ T ≤ 20000)
def CR (np : Nat) (c : CS) (s : SS) : Prop := c 0 0 14 - c 0 0 15 = credF s np
def TR (c : CS) (s : SS) : Prop := c 0 0 12 = s 0 42 ∧ (∃ t, s 0 42 = nI t ∧ t ≤ 4000) ∧ c 0 0 13 = s 0 43 ∧ (∃ z, s 0 43 = nI z ∧ 1 ≤ z ∧ z ≤ 250) ∧ c 0 0 14 = s 0 44 ∧ (∀ k, k < 4000 → c 5 0 k = s 37 k ∧ (s 37 k).toInt8.toInt32 = s 37 k) ∧ (∀ k, k < 7 → c 6 0 k = s 38 k)
theorem sumZ_c {s s' : SS} (h : s' 26 = s 26) (a : Nat) : ∀ n, sumZ s' a n = sumZ s a n
  | 0 => rfl
  | n + 1 => by rw [sumZ, sumZ, sumZ_c h a n, h]
theorem sumF_c {s s' : SS} (h : s' 36 = s 36) (a : Nat) : ∀ n, sumF s' a n = sumF s a n
  | 0 => rfl
  | n + 1 => by rw [sumF, sumF, sumF_c h a n, h]
theorem FX_c {nf np : Nat} {A B : Nat → Nat} {c c' : CS} {s s' : SS} (h : FXo nf np A B c s) (h1 : ∀ p k, k < 4 → c' 18 p k = c 18 p k) (h2 : ∀ f k, k < 4 → c' 20 f k = c 20 f k) (h3 : c' 21 = c 21) (h4 : s' 24 = s 24) (h5 : s' 25 = s 25) (h6 : s' 26 = s 26) (h7 : s' 31 = s 31) (h8 : s' 32 = s 32) (h9 : s' 33 = s 33) (h10 : s' 35 = s 35) (h11 : s' 36 = s 36) (h12 : s' 0 40 = s 0 40) : FXo nf np A B c' s' := by
  obtain ⟨a1, a2, a3⟩ := h
  unfold FXo
  rw [h4, h5, h6, h7, h8, h9, h10, h11, h12, h3]
  refine ⟨a1, fun f hf => ?_, fun p hp => ?_⟩
  · rw [h2 f 1 (by decide), h2 f 2 (by decide), h2 f 3 (by decide), sumZ_c h6]
    obtain ⟨b1, b2, b3, b4, b5, b6, b7, b8, b9, b10, b11, b12, b13⟩ := a2 f hf
    refine ⟨b1, b2, b3, b4, b5, b6, b7, b8, b9, b10, b11, b12, fun p p1 p2 => ?_⟩
    rw [h1 p 2 (by decide)]
    exact b13 p p1 p2
  · rw [h1 p 0 (by decide), h1 p 1 (by decide), h1 p 3 (by decide)]
    obtain ⟨b1, b2, a, z, b3, b4, b5, b6, b7, b8⟩ := a3 p hp
    exact ⟨b1, b2, a, z, b3, b4, b5, b6, b7, by rw [sumF_c h11]; exact b8⟩
theorem FX_B {nf np : Nat} {A B : Nat → Nat} {c : CS} {s : SS} (h : FXo nf np A B c s) : ∀ k, k ≤ nf → B k ≤ 4000 * k
  | 0, _ => by
    rw [h.1.2.2.2.2.1]
    exact Nat.zero_le _
  | k + 1, hk => by
    have := FX_B h k (by omega)
    have := (h.2.1 k (by omega)).2.2.1
    omega
/-- the frame of a piece -/
theorem frOf {A : Nat → Nat} (p : Nat) : ∀ nf, A 0 = 0 → p < A nf → ∃ f, f < nf ∧ A f ≤ p ∧ p < A (f + 1)
  | 0, h0, h => by omega
  | n + 1, h0, h => by
    by_cases w : p < A n
    · obtain ⟨f, f1, f2⟩ := frOf p n h0 w
      exact ⟨f, by omega, f2⟩
    · exact ⟨n, by omega, by omega, h⟩
theorem A_mono {A : Nat → Nat} {nf : Nat} (h : ∀ f, f < nf → A f < A (f + 1)) : ∀ a b, a ≤ b → b ≤ nf → A a ≤ A b := by
  intro a b
  induction b with
  | zero =>
    intro h1 h2
    rw [show a = 0 by omega]
    exact Nat.le_refl _
  | succ b ih =>
    intro h1 h2
    by_cases w : a = b + 1
    · rw [w]
      exact Nat.le_refl _
    · have := ih (by omega) (by omega)
      have := h b (by omega)
      omega
theorem DY_up {nl np : Nat} {c c' : CS} {s s' : SS} (h : DY nl np c s) (p : Nat) (h1 : ∀ q, ¬ q = p → c' 18 q 5 = c 18 q 5 ∧ c' 18 q 6 = c 18 q 6 ∧ c' 18 q 7 = c 18 q 7 ∧ (∀ k, k < 8 → c' 19 q k = c 19 q k) ∧ s' 23 q = s 23 q ∧ s' 27 q = s 27 q ∧ s' 28 q = s 28 q ∧ (∀ k, k < 8 → s' 30 (8 * q + k) = s 30 (8 * q + k))) (h2 : p < np → c' 18 p 5 = s' 23 p ∧ c' 18 p 6 = s' 27 p ∧ c' 18 p 7 = s' 28 p ∧ (∀ k, k < 8 → c' 19 p k = s' 30 (8 * p + k)) ∧ (∃ z, s' 23 p = nI z ∧ z < 4) ∧ (s' 23 p = 1 → ∃ l, l < nl ∧ s' 28 p = nI l)) : DY nl np c' s' := by
  intro q hq
  by_cases w : q = p
  · subst w
    exact h2 hq
  · obtain ⟨a1, a2, a3, a4, a5, a6, a7, a8⟩ := h1 q w
    obtain ⟨b1, b2, b3, b4, b5, b6⟩ := h q hq
    rw [a1, a2, a3, a5, a6, a7]
    exact ⟨b1, b2, b3, fun k hk => by rw [a4 k hk, a8 k hk]; exact b4 k hk, b5, b6⟩
theorem manyF_up {s s' : SS} {p : Nat} (v : Int32) (h1 : ∀ q, ¬ q = p → s' 23 q = s 23 q) : ∀ n, manyF s' v n = if p < n then manyF s v n - (if s 23 p = v then 1 else 0) + (if s' 23 p = v then 1 else 0) else manyF s v n
  | 0 => by
    rw [if_neg (show ¬ p < 0 by omega)]
    rfl
  | n + 1 => by
    rw [manyF, manyF_up v h1 n, manyF]
    by_cases w : p = n
    · subst w
      rw [if_neg (show ¬ p < p by omega), if_pos (show p < p + 1 by omega)]
      generalize (if s 23 p = v then (1 : Int32) else 0) = x
      generalize (if s' 23 p = v then (1 : Int32) else 0) = y
      grind
    · rw [h1 n (fun z => w z.symm)]
      generalize (if s 23 p = v then (1 : Int32) else 0) = x
      generalize (if s' 23 p = v then (1 : Int32) else 0) = y
      generalize (if s 23 n = v then (1 : Int32) else 0) = u
      by_cases w2 : p < n
      · rw [if_pos w2, if_pos (show p < n + 1 by omega)]
        grind
      · rw [if_neg w2, if_neg (show ¬ p < n + 1 by omega)]
theorem manyF_c {s s' : SS} (h : s' 23 = s 23) (v : Int32) : ∀ n, manyF s' v n = manyF s v n
  | 0 => rfl
  | n + 1 => by rw [manyF, manyF, manyF_c h v n, h]
theorem CN_up {nl np : Nat} {c c' : CS} {s s' : SS} (h : CN np c s) (hd : DY nl np c s) {p z : Nat} (hp : p < np) (hz : z < 4) (h1 : ∀ q, ¬ q = p → s' 23 q = s 23 q) (h2 : s' 23 p = nI z) (h3 : ∀ j, c' 4 0 j = x5_becomeF c p z 4 0 j) : CN np c' s' := by
  intro j hj
  obtain ⟨a1, a2, a3, a4, ⟨o, a5, a6⟩, a7⟩ := hd p hp
  rw [manyF_up (nI j) h1 np, if_pos hp, h3, ← h j hj, h2, a5]
  unfold x5_becomeF
  rw [uC_t _ _ _ _ _ _ (by decide), a1, a5, nat_nI (by omega)]
  by_cases w1 : j = z
  · subst w1
    rw [uC_eq, if_pos rfl]
    by_cases w2 : j = o
    · subst w2
      rw [uC_eq, if_pos rfl]
    · rw [uC_k _ _ _ _ _ _ w2, if_neg (fun e => w2 (nI_inj (by omega) (by omega) e).symm)]
      grind
  · rw [uC_k _ _ _ _ _ _ w1, if_neg (show ¬ nI z = nI j from fun e => w1 (nI_inj (by omega) (by omega) e).symm)]
    by_cases w2 : j = o
    · subst w2
      rw [uC_eq, if_pos rfl]
      grind
    · rw [uC_k _ _ _ _ _ _ w2, if_neg (fun e => w2 (nI_inj (by omega) (by omega) e).symm)]
      grind
theorem NW_up {fn np : Nat} {s s' : SS} (h : NW fn np s) {p : Nat} (hp : p < np) (h1 : ∀ q, ¬ q = p → s' 23 q = s 23 q ∧ s' 27 q = s 27 q ∧ ∀ k, k < 8 → s' 30 (8 * q + k) = s 30 (8 * q + k)) (h2 : ¬ s 23 p = 0) (h3 : ¬ s' 23 p = 0) : NW fn np s' := by
  obtain ⟨a1, a2, a3⟩ := h
  refine ⟨a1, fun q hq => ?_, fun q hq => ?_⟩
  · by_cases w : q = p
    · subst w
      exact ⟨fun z => absurd z h3, fun z => absurd ((a2 q hq).mpr z) h2⟩
    · rw [(h1 q w).1]
      exact a2 q hq
  · have ne : ¬ q = p := fun e => h2 ((a2 p hp).mpr (e ▸ hq))
    obtain ⟨b1, b2, b3⟩ := h1 q ne
    obtain ⟨d1, d2⟩ := a3 q hq
    exact ⟨b2.trans d1, fun k hk => (b3 k hk).trans (d2 k hk)⟩
theorem NW_new {fn np : Nat} {s s' : SS} (h : NW fn np s) (hf : fn < np) (h1 : ∀ q, ¬ q = fn → s' 23 q = s 23 q ∧ s' 27 q = s 27 q ∧ ∀ k, k < 8 → s' 30 (8 * q + k) = s 30 (8 * q + k)) (h3 : ¬ s' 23 fn = 0) : NW (fn + 1) np s' := by
  obtain ⟨a1, a2, a3⟩ := h
  refine ⟨hf, fun q hq => ?_, fun q hq => ?_⟩
  · by_cases w : q = fn
    · subst w
      exact ⟨fun z => absurd z h3, fun z => by omega⟩
    · rw [(h1 q w).1, a2 q hq]
      omega
  · obtain ⟨b1, b2, b3⟩ := h1 q (by omega)
    obtain ⟨d1, d2⟩ := a3 q (by omega)
    exact ⟨b2.trans d1, fun k hk => (b3 k hk).trans (d2 k hk)⟩
theorem cntTF_c {s s' : SS} (a : Nat) : ∀ n, (∀ q, a ≤ q → q < a + n → (s' 23 q = 3 ↔ s 23 q = 3)) → cntTF s' a n = cntTF s a n
  | 0, _ => rfl
  | n + 1, h => by
    rw [cntTF, cntTF, cntTF_c a n (fun q h1 h2 => h q h1 (by omega))]
    by_cases w : s 23 (a + n) = 3
    · rw [if_pos w, if_pos ((h (a + n) (by omega) (by omega)).mpr w)]
    · rw [if_neg w, if_neg (fun z => w ((h (a + n) (by omega) (by omega)).mp z))]
theorem cntTF_up {s s' : SS} {p : Nat} (h1 : ∀ q, ¬ q = p → s' 23 q = s 23 q) (h2 : ¬ s 23 p = 3) (h3 : s' 23 p = 3) (a : Nat) : ∀ n, a ≤ p → p < a + n → cntTF s' a n = cntTF s a n + 1
  | 0, _, _ => by omega
  | n + 1, ha, hp => by
    rw [cntTF, cntTF]
    by_cases w : p = a + n
    · rw [← w, if_pos h3, if_neg h2, cntTF_c a n (fun q q1 q2 => by rw [h1 q (by omega)])]
      grind
    · rw [cntTF_up h1 h2 h3 a n ha (by omega), h1 (a + n) (by omega)]
      generalize (if s 23 (a + n) = 3 then (1 : Int32) else 0) = x
      grind
theorem TH_c {nf : Nat} {A : Nat → Nat} {c c' : CS} {s s' : SS} (h : TH nf A c s) (h1 : ∀ q, s' 23 q = 3 ↔ s 23 q = 3) (h2 : c' 20 = c 20) (h3 : s' 34 = s 34) : TH nf A c' s' := by
  intro f hf
  rw [cntTF_c _ _ (fun q _ _ => h1 q), h2, h3]
  exact h f hf
theorem TH_up {nf : Nat} {A : Nat → Nat} {c c' : CS} {s s' : SS} (h : TH nf A c s) (hA : ∀ f, f < nf → A f < A (f + 1)) {p f : Nat} (hf : f < nf) (p1 : A f ≤ p) (p2 : p < A (f + 1)) (h1 : ∀ q, ¬ q = p → s' 23 q = s 23 q) (h2 : ¬ s 23 p = 3) (h3 : s' 23 p = 3) (h4 : ∀ f', ¬ f' = f → c' 20 f' 4 = c 20 f' 4) (h5 : c' 20 f 4 = c 20 f 4 + 1) (h6 : ∀ f', c' 20 f' 5 = c 20 f' 5) (h7 : s' 34 = s 34) : TH nf A c' s' := by
  intro f' hf'
  rw [h6, h7]
  refine ⟨?_, (h f' hf').2⟩
  by_cases w : f' = f
  · subst w
    rw [h5, (h f' hf').1, cntTF_up h1 h2 h3 _ _ p1 (by omega)]
  · rw [h4 f' w, (h f' hf').1, cntTF_c]
    intro q q1 q2
    have ne : ¬ q = p := fun e => by
      rcases Nat.lt_or_ge f' f with z | z
      · have := A_mono hA (f' + 1) f z (by omega)
        have := hA f' hf'
        omega
      · have := A_mono hA (f + 1) f' (by omega) (by omega)
        omega
    rw [h1 q ne]
theorem GV_up {g nf : Nat} {A : Nat → Nat} {s s' : SS} (h : GV g nf A s) {p : Nat} (h1 : ∀ q, ¬ q = p → s' 23 q = s 23 q) (h2 : ¬ s 23 p = 3) : GV g nf A s' :=
  ⟨h.1, fun q hq => by
    have ne : ¬ q = p := fun e => h2 (e ▸ h.2 q hq)
    rw [h1 q ne]
    exact h.2 q hq⟩
theorem GL_c {nl nf np T fn g : Nat} {A B : Nat → Nat} {c c' : CS} {s s' : SS} (h : GL nl nf np T fn g A B c s) (h1 : c' 0 = c 0) (h2 : s' 0 = s 0) : GL nl nf np T fn g A B c' s' := by
  unfold GL
  rw [h1, h2]
  exact h
theorem credF_c {s s' : SS} (h1 : ∀ q, s' 23 q = 0 ↔ s 23 q = 0) (h2 : s' 24 = s 24) (h3 : s' 26 = s 26) (h4 : s' 0 = s 0) : ∀ n, credF s' n = credF s n
  | 0 => by rw [credF, credF, h4]
  | n + 1 => by
    rw [credF, credF, credF_c h1 h2 h3 h4 n, h2, h3, h4]
    by_cases w : s 23 n = 0
    · rw [if_neg (show ¬ (¬ s' 23 n = 0 ∧ s 0 33 ≤ s 24 n) from fun z => z.1 ((h1 n).mpr w)), if_neg (show ¬ (¬ s 23 n = 0 ∧ s 0 33 ≤ s 24 n) from fun z => z.1 w)]
    · by_cases w2 : s 0 33 ≤ s 24 n
      · rw [if_pos (show ¬ s' 23 n = 0 ∧ s 0 33 ≤ s 24 n from ⟨fun z => w ((h1 n).mp z), w2⟩), if_pos (show ¬ s 23 n = 0 ∧ s 0 33 ≤ s 24 n from ⟨w, w2⟩)]
      · rw [if_neg (fun z => w2 z.2), if_neg (fun z => w2 z.2)]
theorem credF_up {s s' : SS} {p : Nat} (h1 : ∀ q, ¬ q = p → s' 23 q = s 23 q) (h0 : s 23 p = 0) (hp : ¬ s' 23 p = 0) (hg : s 0 33 ≤ s 24 p) (h2 : s' 24 = s 24) (h3 : s' 26 = s 26) (h4 : s' 0 = s 0) : ∀ n, credF s' n = if p < n then credF s n - s 26 p else credF s n
  | 0 => by rw [credF, credF, h4, if_neg (by omega)]
  | n + 1 => by
    rw [credF, credF_up h1 h0 hp hg h2 h3 h4 n, h2, h3, h4, credF]
    by_cases w : p = n
    · subst w
      rw [if_neg (show ¬ p < p by omega), if_pos (show p < p + 1 by omega), if_pos (show ¬ s' 23 p = 0 ∧ s 0 33 ≤ s 24 p from ⟨hp, hg⟩), if_neg (show ¬ (¬ s 23 p = 0 ∧ s 0 33 ≤ s 24 p) from fun z => z.1 h0)]
      grind
    · rw [h1 n (fun z => w z.symm)]
      generalize (if ¬ s 23 n = 0 ∧ s 0 33 ≤ s 24 n then s 26 n else 0) = x
      by_cases w2 : p < n
      · rw [if_pos w2, if_pos (show p < n + 1 by omega)]
        grind
      · rw [if_neg w2, if_neg (show ¬ p < n + 1 by omega)]
theorem CR_c {np : Nat} {c c' : CS} {s s' : SS} (h : CR np c s) (h0 : c' 0 = c 0) (h1 : ∀ q, s' 23 q = 0 ↔ s 23 q = 0) (h2 : s' 24 = s 24) (h3 : s' 26 = s 26) (h4 : s' 0 = s 0) : CR np c' s' := by
  unfold CR
  rw [h0, credF_c h1 h2 h3 h4]
  exact h
theorem TR_c {c c' : CS} {s s' : SS} (h : TR c s) (h0 : c' 0 = c 0) (h1 : c' 5 = c 5) (h2 : c' 6 = c 6) (h3 : s' 0 = s 0) (h4 : s' 37 = s 37) (h5 : s' 38 = s 38) : TR c' s' := by
  unfold TR
  rw [h0, h1, h2, h3, h4, h5]
  exact h
/-- all of it -/
def NL (nl nf np T fn g : Nat) (A B : Nat → Nat) (c : CS) (s : SS) : Prop := FXo nf np A B c s ∧ DY nl np c s ∧ CN np c s ∧ NW fn np s ∧ TH nf A c s ∧ GV g nf A s ∧ GL nl nf np T fn g A B c s ∧ CR np c s ∧ TR c s
/-- it reads nothing of the lines -/
theorem NL_c {nl nf np T fn g : Nat} {A B : Nat → Nat} {c c' : CS} {s s' : SS} (h : NL nl nf np T fn g A B c s) (h1 : ∀ t, t < 7 ∨ 17 < t → c' t = c t) (h2 : ∀ j, j = 0 ∨ 22 < j → ¬ j = 29 → s' j = s j) : NL nl nf np T fn g A B c' s' := by
  obtain ⟨a1, a2, a3, a4, a5, a6, a7, a8, a9⟩ := h
  have e23 := h2 23 (by decide) (by decide)
  have e24 := h2 24 (by decide) (by decide)
  have e26 := h2 26 (by decide) (by decide)
  have e0 := h2 0 (by decide) (by decide)
  have c0 := h1 0 (by decide)
  refine ⟨FX_c a1 (fun p k _ => by rw [h1 18 (by decide)]) (fun p k _ => by rw [h1 20 (by decide)]) (h1 21 (by decide)) e24 (h2 25 (by decide) (by decide)) e26 (h2 31 (by decide) (by decide)) (h2 32 (by decide) (by decide)) (h2 33 (by decide) (by decide)) (h2 35 (by decide) (by decide)) (h2 36 (by decide) (by decide)) (by rw [e0]), ?_, ?_, ?_, TH_c a5 (fun q => by rw [e23]) (h1 20 (by decide)) (h2 34 (by decide) (by decide)), ?_, GL_c a7 c0 e0, CR_c a8 c0 (fun q => by rw [e23]) e24 e26 e0, TR_c a9 c0 (h1 5 (by decide)) (h1 6 (by decide)) e0 (h2 37 (by decide) (by decide)) (h2 38 (by decide) (by decide))⟩
  · unfold DY
    rw [e23, h1 18 (by decide), h1 19 (by decide), h2 27 (by decide) (by decide), h2 28 (by decide) (by decide), h2 30 (by decide) (by decide)]
    exact a2
  · intro j hj
    rw [manyF_c e23, h1 4 (by decide)]
    exact a3 j hj
  · unfold NW
    rw [e23, h2 30 (by decide) (by decide), h2 27 (by decide) (by decide)]
    exact a4
  · unfold GV
    rw [e23]
    exact a6
