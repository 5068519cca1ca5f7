/-! The pure part: a new frame. -/
/-- what the cutting reads -/
def PB (c : CS) (f q t n : Nat) (Y : Nat → Int32) : Prop := c 0 0 3 = nI f ∧ c 0 0 13 = nI q ∧ c 20 f 1 = nI t ∧ c 20 f 3 = nI n ∧ ∀ i, i < t → c 21 f i = Y i
theorem PB_pc {c : CS} {f q t n : Nat} {Y : Nat → Int32} (h : PB c f q t n Y) (p : Nat) (v : Int32) : PB (pcC c f p v) f q t n Y := by
  obtain ⟨h1, h2, h3, h4, h5⟩ := h
  refine ⟨?_, ?_, ?_, ?_, fun i hi => ?_⟩
  · rw [pcC_0 _ _ _ _ (by decide)]
    exact h1
  · rw [pcC_0 _ _ _ _ (by decide)]
    exact h2
  · rw [pcC_o _ _ _ _ ⟨by decide, by decide, by omega⟩]
    exact h3
  · rw [pcC_o _ _ _ _ ⟨by decide, by decide, by omega⟩]
    exact h4
  · rw [pcC_o _ _ _ _ ⟨by decide, by decide, by omega⟩]
    exact h5 i hi
/-- the sum of z bytes from a on -/
def sumY (Y : Nat → Int32) (a : Nat) : Nat → Int32
  | 0 => 0
  | k + 1 => sumY Y a k + (Y (a + k) &&& 255) * (nI k + 1)
theorem sumC_Y {c : CS} {f t : Nat} {Y : Nat → Int32} (h1 : c 20 f 1 = nI t) (ht : t ≤ 4000) (h5 : ∀ i, i < t → c 21 f i = Y i) (a : Nat) : ∀ d v, a + v + d ≤ t → sumC c f (nI a) d (nI v) (sumY Y a v) = sumY Y a (v + d)
  | 0, v, _ => rfl
  | d + 1, v, hv => by
    rw [sumC, nI_1]
    have e : x0_byteAtF c f (nI a + nI v) = Y (a + v) &&& 255 := by
      unfold x0_byteAtF
      rw [nI_add, if_neg (nI_pos (by omega)), h1, if_pos (nI_lt (by omega) (by omega)), nat_nI (by omega), h5 (a + v) (by omega)]
    rw [e]
    have := sumC_Y h1 ht h5 a d (v + 1) (by omega)
    rw [sumY, nI_1] at this
    rw [this, show v + 1 + d = v + (d + 1) by omega]
theorem sumF_Y {s : SS} {Y : Nat → Int32} {b : Nat} (a : Nat) : ∀ z, (∀ i, i < z → s 36 (b + (a + i)) = Y (a + i)) → sumF s (b + a) z = sumY Y a z
  | 0, _ => rfl
  | z + 1, h => by
    rw [sumF, sumY, sumF_Y a z (fun i hi => h i (by omega)), Nat.add_assoc, h z (by omega)]
/-- how many bytes the k-th piece has -/
def zK (t q k : Nat) : Nat := if t - k * q < q then t - k * q else q
/-- what the class writes of the k-th piece -/
def PV (c : CS) (p f q t n k : Nat) (Y : Nat → Int32) : Prop := c 18 p 0 = nI f ∧ c 18 p 1 = nI (zK t q k) ∧ c 18 p 2 = (if k + 1 = n then 1 else 0) ∧ c 18 p 3 = sumY Y (k * q) (zK t q k) ∧ c 18 p 5 = 0 ∧ c 18 p 6 = 0 ∧ c 18 p 7 = -9 ∧ ∀ j, c 19 p j = 0
theorem pc_at {c : CS} {f q t n k : Nat} {Y : Nat → Int32} (h : PB c f q t n Y) (ht : t ≤ 4000) (hq1 : 1 ≤ q) (hq : q ≤ 250) (hn : n ≤ 4000) (hk : k < n) (hkt : k * q < t) (p : Nat) : PV (pcC c f p (nI k)) p f q t n k Y := by
  obtain ⟨h1, h2, h3, h4, h5⟩ := h
  have es : szC c f (nI k) = nI (zK t q k) := by
    unfold szC zK
    rw [h3, h2, nI_mul, nI_sub (by omega)]
    by_cases w : t - k * q < q
    · rw [if_pos w, if_pos (nI_lt w (by omega))]
    · rw [if_neg w, if_neg (nI_nlt (by omega) (by omega))]
  have hz : zK t q k ≤ t - k * q := by
    unfold zK
    split <;> omega
  have e18 : ∀ x, pcC c f p (nI k) 18 p x = PC (zC c 18 p) p (c 0 0 3) (szC c f (nI k)) (if nI k = c 20 f 3 - 1 then 1 else 0) (sumC (zC c 18 p) f (nI k * c 0 0 13) (dI 0 (szC c f (nI k))) 0 0) 18 p x := fun x => by
    unfold pcC
    rw [uC_t _ _ _ _ _ _ (by decide), uC_t _ _ _ _ _ _ (by decide)]
  have e19 : ∀ x, pcC c f p (nI k) 19 p x = PC (zC c 18 p) p (c 0 0 3) (szC c f (nI k)) (if nI k = c 20 f 3 - 1 then 1 else 0) (sumC (zC c 18 p) f (nI k * c 0 0 13) (dI 0 (szC c f (nI k))) 0 0) 19 p x := fun x => by
    unfold pcC
    rw [uC_t _ _ _ _ _ _ (by decide), uC_t _ _ _ _ _ _ (by decide)]
  have esum : sumC (zC c 18 p) f (nI k * c 0 0 13) (dI 0 (szC c f (nI k))) 0 0 = sumY Y (k * q) (zK t q k) := by
    rw [h2, nI_mul, es, show (0 : Int32) = nI 0 from rfl, dI_ii (by omega) (by omega), Nat.sub_zero]
    have := sumC_Y (c := zC c 18 p) (f := f) (t := t) (Y := Y) (by rw [zC_ne _ _ (fun z => absurd z.1 (by decide))]; exact h3) ht (fun i hi => by rw [zC_ne _ _ (fun z => absurd z.1 (by decide))]; exact h5 i hi) (k * q) (zK t q k) 0 (by omega)
    rw [Nat.zero_add] at this
    exact this
  have elast : (if nI k = c 20 f 3 - 1 then (1 : Int32) else 0) = if k + 1 = n then 1 else 0 := by
    rw [h4, show nI n - 1 = nI (n - 1) from nI_sub (b := 1) (by omega)]
    by_cases w : k + 1 = n
    · rw [if_pos w, if_pos (by rw [← w]; rfl)]
    · rw [if_neg w, if_neg (fun z => w (by have := nI_inj (by omega) (by omega) z; omega))]
  unfold PV
  rw [e18, e18, e18, e18, e18, e18, e18, esum, es, elast, h1]
  refine ⟨?_, ?_, ?_, ?_, ?_, ?_, ?_, fun j => ?_⟩
  · unfold PC
    rw [uC_k _ _ _ _ _ _ (by decide), uC_k _ _ _ _ _ _ (by decide), zC_ne _ _ (fun z => absurd z.1 (by decide)), uC_k _ _ _ _ _ _ (by decide), uC_k _ _ _ _ _ _ (by decide), uC_k _ _ _ _ _ _ (by decide), uC_eq]
  · unfold PC
    rw [uC_k _ _ _ _ _ _ (by decide), uC_k _ _ _ _ _ _ (by decide), zC_ne _ _ (fun z => absurd z.1 (by decide)), uC_k _ _ _ _ _ _ (by decide), uC_k _ _ _ _ _ _ (by decide), uC_eq]
  · unfold PC
    rw [uC_k _ _ _ _ _ _ (by decide), uC_k _ _ _ _ _ _ (by decide), zC_ne _ _ (fun z => absurd z.1 (by decide)), uC_k _ _ _ _ _ _ (by decide), uC_eq]
  · unfold PC
    rw [uC_k _ _ _ _ _ _ (by decide), uC_k _ _ _ _ _ _ (by decide), zC_ne _ _ (fun z => absurd z.1 (by decide)), uC_eq]
  · unfold PC
    rw [uC_k _ _ _ _ _ _ (by decide), uC_eq]
  · unfold PC
    rw [uC_k _ _ _ _ _ _ (by decide), uC_k _ _ _ _ _ _ (by decide), zC_ne _ _ (fun z => absurd z.1 (by decide)), uC_k _ _ _ _ _ _ (by decide), uC_k _ _ _ _ _ _ (by decide), uC_k _ _ _ _ _ _ (by decide), uC_k _ _ _ _ _ _ (by decide), zC_eq]
  · unfold PC
    rw [uC_eq]
  · rw [e19]
    unfold PC
    rw [uC_t _ _ _ _ _ _ (by decide), uC_t _ _ _ _ _ _ (by decide), zC_eq]
theorem PCf_at {f q t n : Nat} {Y : Nat → Int32} (ht : t ≤ 4000) (hq1 : 1 ≤ q) (hq : q ≤ 250) (hn : n ≤ 4000) (hkt : ∀ k, k < n → k * q < t) : ∀ d p k (c : CS), PB c f q t n Y → k + d ≤ n → ∀ j, j < d → PV (PCf f d p k c) (p + j) f q t n (k + j) Y
  | 0, p, k, c, _, _ => fun j hj => absurd hj (by omega)
  | d + 1, p, k, c, h, hk => by
    intro j hj
    rw [PCf]
    cases j with
    | zero =>
      have := pc_at h ht hq1 hq hn (show k < n by omega) (hkt k (by omega)) p
      unfold PV at this ⊢
      have o : ∀ t x, 18 ≤ t → t ≤ 19 → PCf f d (p + 1) (k + 1) (pcC c f p (nI k)) t (p + 0) x = pcC c f p (nI k) t p x := fun t x h1 h2 => PCf_o f d (p + 1) (k + 1) _ ⟨by omega, by omega, by omega⟩
      rw [o 18 _ (by decide) (by decide), o 18 _ (by decide) (by decide), o 18 _ (by decide) (by decide), o 18 _ (by decide) (by decide), o 18 _ (by decide) (by decide), o 18 _ (by decide) (by decide), o 18 _ (by decide) (by decide)]
      refine ⟨this.1, this.2.1, this.2.2.1, this.2.2.2.1, this.2.2.2.2.1, this.2.2.2.2.2.1, this.2.2.2.2.2.2.1, fun j => ?_⟩
      rw [o 19 _ (by decide) (by decide)]
      exact this.2.2.2.2.2.2.2 j
    | succ j =>
      have := PCf_at ht hq1 hq hn hkt d (p + 1) (k + 1) _ (PB_pc h p (nI k)) (by omega) j (by omega)
      rw [show p + (j + 1) = p + 1 + j by omega, show k + (j + 1) = k + 1 + j by omega]
      exact this
theorem PCf_8 {f : Nat} : ∀ d p k (c : CS), c 0 0 8 = nI p → PCf f d p k c 0 0 8 = nI (p + d)
  | 0, p, k, c, h => h
  | d + 1, p, k, c, h => by
    have e : pcC c f p (nI k) 0 0 8 = nI (p + 1) := by
      unfold pcC
      rw [uC_t _ _ _ _ _ _ (by decide), uC_eq, nI_1]
    rw [PCf, PCf_8 d (p + 1) (k + 1) _ e, show p + 1 + d = p + (d + 1) by omega]
theorem PCf_4 {f : Nat} : ∀ d p k (c : CS) j, PCf f d p k c 4 0 j = if j = 0 then c 4 0 0 + nI d else c 4 0 j
  | 0, p, k, c, j => by
    show c 4 0 j = if j = 0 then c 4 0 0 + 0 else c 4 0 j
    by_cases w : j = 0
    · rw [if_pos w, w, Int32.add_zero]
    · rw [if_neg w]
  | d + 1, p, k, c, j => by
    have e : ∀ j, pcC c f p (nI k) 4 0 j = if j = 0 then c 4 0 0 + 1 else c 4 0 j := by
      intro j
      unfold pcC
      by_cases w : j = 0
      · rw [if_pos w, w, uC_eq]
      · rw [if_neg w, uC_k _ _ _ _ _ _ w, uC_t _ _ _ _ _ _ (by decide)]
        rfl
    rw [PCf, PCf_4 d (p + 1) (k + 1) _ j, e, e, if_pos rfl]
    by_cases w : j = 0
    · rw [if_pos w, if_pos w, ← nI_1]
      generalize nI d = x
      generalize c 4 0 0 = y
      grind
    · rw [if_neg w, if_neg w, if_neg w]
/-! The reference's side. -/
theorem pcF_at {f p n b q t : Nat} (s : SS) (h40 : s 0 40 = nI b) (h43 : s 0 43 = nI q) (h42 : s 0 42 = nI t) : ∀ k j, (pcF f p n k s 23 j = if p ≤ j ∧ j < p + k then 0 else s 23 j) ∧ (pcF f p n k s 24 j = if p ≤ j ∧ j < p + k then nI f else s 24 j) ∧ (pcF f p n k s 25 j = if p ≤ j ∧ j < p + k then nI b + nI (j - p) * nI q else s 25 j) ∧ (pcF f p n k s 26 j = if p ≤ j ∧ j < p + k then (if nI (j - p) < nI n - 1 then nI q else nI t - nI (j - p) * nI q) else s 26 j) ∧ (pcF f p n k s 28 j = if p ≤ j ∧ j < p + k then -9 else s 28 j) ∧ (pcF f p n k s 29 j = if p ≤ j ∧ j < p + k then -1 else s 29 j)
  | 0, j => by
    have w : ¬ (p ≤ j ∧ j < p + 0) := by omega
    rw [if_neg w, if_neg w, if_neg w, if_neg w, if_neg w, if_neg w]
    exact ⟨rfl, rfl, rfl, rfl, rfl, rfl⟩
  | k + 1, j => by
    obtain ⟨i1, i2, i3, i4, i5, i6⟩ := pcF_at s h40 h43 h42 k j
    have e40 : pcF f p n k s 0 40 = nI b := (pcF_j f p n s 40 (by decide) (by decide) k).trans h40
    have e43 : pcF f p n k s 0 43 = nI q := (pcF_j f p n s 43 (by decide) (by decide) k).trans h43
    have e42 : pcF f p n k s 0 42 = nI t := (pcF_j f p n s 42 (by decide) (by decide) k).trans h42
    rw [pcF]
    rw [e40, e43, e42]
    by_cases w : j = p + k
    · have w2 : p ≤ j ∧ j < p + (k + 1) := by omega
      rw [if_pos w2, if_pos w2, if_pos w2, if_pos w2, if_pos w2, if_pos w2, show j - p = k by omega, w]
      refine ⟨?_, ?_, ?_, ?_, ?_, ?_⟩
      · rw [uS_j _ _ _ (by decide), uS_j _ _ _ (by decide), uS_j _ _ _ (by decide), uS_j _ _ _ (by decide), uS_j _ _ _ (by decide), uS_eq]
      · rw [uS_j _ _ _ (by decide), uS_j _ _ _ (by decide), uS_j _ _ _ (by decide), uS_j _ _ _ (by decide), uS_eq]
      · rw [uS_j _ _ _ (by decide), uS_j _ _ _ (by decide), uS_j _ _ _ (by decide), uS_eq]
      · rw [uS_j _ _ _ (by decide), uS_j _ _ _ (by decide), uS_eq]
      · rw [uS_j _ _ _ (by decide), uS_eq]
      · rw [uS_eq]
    · have w2 : (p ≤ j ∧ j < p + (k + 1)) ↔ (p ≤ j ∧ j < p + k) := by omega
      have cv : ∀ x y : Int32, (if p ≤ j ∧ j < p + (k + 1) then x else y) = if p ≤ j ∧ j < p + k then x else y := fun x y => by
        by_cases z : p ≤ j ∧ j < p + k
        · rw [if_pos z, if_pos (w2.mpr z)]
        · rw [if_neg z, if_neg (fun u => z (w2.mp u))]
      rw [cv, cv, cv, cv, cv, cv, ← i1, ← i2, ← i3, ← i4, ← i5, ← i6]
      refine ⟨?_, ?_, ?_, ?_, ?_, ?_⟩
      · rw [uS_j _ _ _ (by decide), uS_j _ _ _ (by decide), uS_j _ _ _ (by decide), uS_j _ _ _ (by decide), uS_j _ _ _ (by decide), uS_k _ _ _ w, uS_j _ _ _ (by decide)]
      · rw [uS_j _ _ _ (by decide), uS_j _ _ _ (by decide), uS_j _ _ _ (by decide), uS_j _ _ _ (by decide), uS_k _ _ _ w, uS_j _ _ _ (by decide), uS_j _ _ _ (by decide)]
      · rw [uS_j _ _ _ (by decide), uS_j _ _ _ (by decide), uS_j _ _ _ (by decide), uS_k _ _ _ w, uS_j _ _ _ (by decide), uS_j _ _ _ (by decide), uS_j _ _ _ (by decide)]
      · rw [uS_j _ _ _ (by decide), uS_j _ _ _ (by decide), uS_k _ _ _ w, uS_j _ _ _ (by decide), uS_j _ _ _ (by decide), uS_j _ _ _ (by decide), uS_j _ _ _ (by decide)]
      · rw [uS_j _ _ _ (by decide), uS_k _ _ _ w, uS_j _ _ _ (by decide), uS_j _ _ _ (by decide), uS_j _ _ _ (by decide), uS_j _ _ _ (by decide), uS_j _ _ _ (by decide)]
      · rw [uS_k _ _ _ w, uS_j _ _ _ (by decide), uS_j _ _ _ (by decide), uS_j _ _ _ (by decide), uS_j _ _ _ (by decide), uS_j _ _ _ (by decide), uS_j _ _ _ (by decide)]
theorem btF_36 (b : Nat) (s : SS) : ∀ k j, btF b k s 36 j = if b ≤ j ∧ j < b + k then (s 37 (j - b)).toInt8.toInt32 else s 36 j
  | 0, j => by
    rw [if_neg (by omega)]
    rfl
  | k + 1, j => by
    rw [btF]
    rw [uS_j _ _ _ (by decide), btF_j b s k (by decide) (fun z => absurd z.1 (by decide)) k]
    by_cases w : j = b + k
    · rw [w, uS_eq, if_pos (by omega), show b + k - b = k by omega]
    · rw [uS_k _ _ _ w, btF_36 b s k j]
      by_cases z : b ≤ j ∧ j < b + k
      · rw [if_pos z, if_pos (by omega)]
      · rw [if_neg z, if_neg (by omega)]
