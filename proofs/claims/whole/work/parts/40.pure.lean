/-! The pure part: one line's own numbers, on both sides. -/
abbrev LN : Type := Nat → Nat → Int32
def uL (f : LN) (j k : Nat) (v : Int32) : LN := fun j' k' => if j' = j ∧ k' = k then v else f j' k'
theorem uL_eq (f : LN) (j k : Nat) (v : Int32) : uL f j k v j k = v := if_pos ⟨rfl, rfl⟩
theorem uL_ne (f : LN) {j k : Nat} (v : Int32) {j' k' : Nat} (q : ¬ (j' = j ∧ k' = k)) : uL f j k v j' k' = f j' k' := if_neg q
theorem uL_j (f : LN) {j : Nat} (k : Nat) (v : Int32) {j' : Nat} (k' : Nat) (q : ¬ j' = j) : uL f j k v j' k' = f j' k' := if_neg (fun z => q z.1)
theorem uL_k (f : LN) (j : Nat) {k : Nat} (v : Int32) (j' : Nat) {k' : Nat} (q : ¬ k' = k) : uL f j k v j' k' = f j' k' := if_neg (fun z => q z.2)
/-- the class's line l -/
def Cl (c : CS) (l : Nat) : LN := fun t k => if 7 ≤ t ∧ t ≤ 17 then c t l k else 0
/-- how many places a row of the reference keeps for each line, 0 where it keeps none -/
def wid (j : Nat) : Nat := if j = 7 then 41 else if 10 ≤ j ∧ j ≤ 13 then 200 else if j = 22 then 20 else if 1 ≤ j ∧ j ≤ 21 then 1 else 0
/-- the reference's line l -/
def Sl (s : SS) (l : Nat) : LN := fun j k => if k < wid j then s j (wid j * l + k) else 0
theorem Cl_at (c : CS) (l : Nat) {t : Nat} (k : Nat) (h : 7 ≤ t ∧ t ≤ 17) : Cl c l t k = c t l k := if_pos h
theorem Sl_at (s : SS) (l : Nat) {j k : Nat} (h : k < wid j) : Sl s l j k = s j (wid j * l + k) := if_pos h
theorem Cl_own (c : CS) (l : Nat) {t : Nat} (k : Nat) (v : Int32) (h : 7 ≤ t ∧ t ≤ 17) : Cl (uC c t l k v) l = uL (Cl c l) t k v := by
  funext t' k'
  unfold Cl uC uL
  dsimp only
  by_cases q : t' = t ∧ k' = k
  · rw [if_pos q, if_pos (by omega), if_pos ⟨q.1, rfl, q.2⟩]
  · rw [if_neg q]
    by_cases w : 7 ≤ t' ∧ t' ≤ 17
    · rw [if_pos w, if_pos w, if_neg (fun z => q ⟨z.1, z.2.2⟩)]
    · rw [if_neg w, if_neg w]
theorem Cl_oth (c : CS) {l t i : Nat} (k : Nat) (v : Int32) (h : ¬ (l = i ∧ 7 ≤ t ∧ t ≤ 17)) : Cl (uC c t i k v) l = Cl c l := by
  funext t' k'
  unfold Cl uC
  by_cases q : 7 ≤ t' ∧ t' ≤ 17
  · rw [if_pos q, if_pos q, if_neg (fun z => h ⟨z.2.1, by omega⟩)]
  · rw [if_neg q, if_neg q]
theorem Sl_own (s : SS) (l : Nat) {j k : Nat} (i : Nat) (v : Int32) (h : k < wid j) (hi : i = wid j * l + k) : Sl (uS s j i v) l = uL (Sl s l) j k v := by
  subst hi
  funext j' k'
  unfold Sl uS uL
  dsimp only
  by_cases q : j' = j ∧ k' = k
  · obtain ⟨rfl, rfl⟩ := q
    rw [if_pos h, if_pos ⟨rfl, rfl⟩, if_pos ⟨rfl, rfl⟩]
  · rw [if_neg q]
    by_cases w : k' < wid j'
    · rw [if_pos w, if_pos w]
      refine if_neg (fun z => q ⟨z.1, ?_⟩)
      obtain ⟨rfl, z⟩ := z
      omega
    · rw [if_neg w, if_neg w]
theorem Sl_oth (s : SS) {l j i : Nat} (v : Int32) (h : ¬ (wid j * l ≤ i ∧ i < wid j * l + wid j)) : Sl (uS s j i v) l = Sl s l := by
  funext j' k'
  unfold Sl uS
  by_cases w : k' < wid j'
  · rw [if_pos w, if_pos w]
    refine if_neg (fun z => ?_)
    obtain ⟨rfl, z⟩ := z
    omega
  · rw [if_neg w, if_neg w]
/-- a row that keeps nothing for lines -/
theorem Sl_no (s : SS) (l : Nat) {j : Nat} (i : Nat) (v : Int32) (h : wid j = 0) : Sl (uS s j i v) l = Sl s l := Sl_oth s v (by omega)
theorem Cl_no (c : CS) (l : Nat) {t : Nat} (i k : Nat) (v : Int32) (h : ¬ (7 ≤ t ∧ t ≤ 17)) : Cl (uC c t i k v) l = Cl c l := Cl_oth c k v (fun z => h z.2)
theorem Cl_i (c : CS) {l i : Nat} (t k : Nat) (v : Int32) (h : ¬ l = i) : Cl (uC c t i k v) l = Cl c l := Cl_oth c k v (fun z => h z.1)
/-- another line's place -/
theorem Sl_i (s : SS) {l m j k : Nat} (i : Nat) (v : Int32) (h : ¬ l = m) (hk : k < wid j) (hi : i = wid j * m + k) : Sl (uS s j i v) l = Sl s l := by
  subst hi
  refine Sl_oth s v (fun z => h ?_)
  rcases Nat.lt_trichotomy l m with q | q | q
  · have := Nat.mul_le_mul_left (wid j) (show l + 1 ≤ m from q)
    rw [Nat.mul_add, Nat.mul_one] at this
    omega
  · exact q
  · have := Nat.mul_le_mul_left (wid j) (show m + 1 ≤ l from q)
    rw [Nat.mul_add, Nat.mul_one] at this
    omega
def szr (z : Nat → Int32) (p : Int32) : Int32 := if p = -2 then 1 else z (nat p)
def sumN (f : Nat → Int32) : Nat → Int32
  | 0 => 0
  | n + 1 => sumN f n + f n
theorem sumN_c {f g : Nat → Int32} : ∀ n, (∀ k, k < n → f k = g k) → sumN f n = sumN g n
  | 0, _ => rfl
  | n + 1, h => by
    rw [sumN, sumN, sumN_c n (fun k hk => h k (by omega)), h n (by omega)]
theorem sumN_1 (f : Nat → Int32) : ∀ n, sumN f (n + 1) = f 0 + sumN (fun k => f (k + 1)) n
  | 0 => by rw [sumN, sumN, sumN, Int32.zero_add, Int32.add_zero]
  | n + 1 => by
    rw [sumN, sumN_1 f n, sumN, Int32.add_assoc]
/-- marks that are not 0, of n from the a-th on -/
def mkN (M : Nat → Int32) (a : Nat) : Nat → Nat
  | 0 => 0
  | n + 1 => mkN M a n + (if M (a + n) = 0 then 0 else 1)
theorem mkN_c {M N : Nat → Int32} (a : Nat) : ∀ n, (∀ k, k < n → M (a + k) = N (a + k)) → mkN M a n = mkN N a n
  | 0, _ => rfl
  | n + 1, h => by
    rw [mkN, mkN, mkN_c a n (fun k hk => h k (by omega)), h n (by omega)]
theorem mkN_le (M : Nat → Int32) (a : Nat) : ∀ n, mkN M a n ≤ n
  | 0 => Nat.le_refl 0
  | n + 1 => by
    have := mkN_le M a n
    rw [mkN]
    split <;> omega
theorem mkN_1 (M : Nat → Int32) (a : Nat) : ∀ n, mkN M a (n + 1) = (if M a = 0 then 0 else 1) + mkN M (a + 1) n
  | 0 => by
    rw [mkN, mkN, mkN, Nat.add_zero, Nat.zero_add, Nat.add_zero]
  | n + 1 => by
    rw [mkN, mkN_1 M a n, mkN, show a + (n + 1) = a + 1 + n by omega, Nat.add_assoc]
/-- what a line says of itself -/
def LA (C S : LN) : Prop := C 7 1 = S 1 0 ∧ C 7 2 = S 2 0 ∧ C 7 3 = S 3 0 ∧ C 7 8 = S 4 0 ∧ C 7 9 = S 5 0 ∧ C 7 10 = S 6 0 ∧ C 7 11 = S 16 0 ∧ C 7 12 = S 17 0 ∧ C 7 13 = S 18 0 ∧ C 7 14 = S 19 0 ∧ C 7 15 = S 20 0 ∧ C 7 16 = S 21 0 ∧ ((S 4 0 = 0 ∨ S 4 0 = 1) ∧ ∃ a, S 1 0 = nI a ∧ a ≤ 3) ∧ (∃ a, S 2 0 = nI a ∧ 1 ≤ a ∧ a ≤ 1000) ∧ (∃ a, S 6 0 = nI a ∧ a ≤ 20)
/-- its queue -/
def LQv (C S : LN) (z : Nat → Int32) (q hd so : Nat) (Q : Nat → Int32) : Prop := S 8 0 = nI q ∧ q ≤ 40 ∧ S 9 0 = nI so ∧ C 10 2 = nI hd ∧ hd < 64 ∧ C 10 3 = nI q ∧ C 10 5 = nI so ∧ C 10 4 = sumN (fun k => szr z (Q k)) q - nI so ∧ (∀ k, k < q → S 7 k = Q k ∧ C 11 ((hd + k) % 64) = Q k ∧ C 12 ((hd + k) % 64) = szr z (Q k)) ∧ (∀ k, k < q → ∃ a, szr z (Q k) = nI a ∧ 1 ≤ a ∧ a ≤ 250) ∧ (so = 0 ∨ 0 < q ∧ ∃ a, szr z (Q 0) = nI a ∧ so < a ∧ a ≤ 250)
/-- what is under way; R by counts: what was sent (from sn on), D: when it comes, M: marks -/
def LUv (C S : LN) (T lo K u f uh cnt sn : Nat) (R M : Nat → Int32) (D : Nat → Nat) : Prop := S 15 0 = nI u ∧ u ≤ 200 ∧ S 14 0 = nI f ∧ f < 200 ∧ C 13 4 = nI uh ∧ uh < 256 ∧ C 13 5 = nI u ∧ S 16 0 = nI cnt ∧ sn + u ≤ cnt ∧ cnt ≤ K ∧
  (∀ k, k < u → (S 10 ((f + k) % 200) = R (cnt - u + k) ∧ S 11 ((f + k) % 200) = nI (cnt - u + k) ∧ S 12 ((f + k) % 200) = nI (D (cnt - u + k)) ∧ S 13 ((f + k) % 200) = M (cnt - u + k)) ∧ C 14 ((uh + k) % 256) = R (cnt - u + k) ∧ C 15 ((uh + k) % 256) = nI (cnt - u + k) ∧ C 16 ((uh + k) % 256) = nI (D (cnt - u + k)) ∧ C 17 ((uh + k) % 256) = M (cnt - u + k)) ∧
  (∀ i, sn ≤ i → i < cnt → C 8 (i % 1024) = R i) ∧
  (∃ d, S 3 0 = nI d ∧ 1 ≤ d ∧ d ≤ 40 ∧ ∀ i, cnt - u ≤ i → i < cnt → lo ≤ D i ∧ D i ≤ T + d ∧ (i + 1 < cnt → D i ≤ D (i + 1))) ∧
  (∀ i, cnt - u ≤ i → i < cnt → ∃ m, M i = nI m ∧ m ≤ 3)
/-- the log of its last ticks -/
def LGv (C S : LN) (tl : Nat) : Prop := (∀ t, 1 ≤ t → t ≤ tl → tl < t + 19 → C 9 (t % 32) = S 22 (t % 20)) ∧ (∀ j, j < 32 → tl < j → C 9 j = 0) ∧ (tl < 32 → C 9 0 = 0)
