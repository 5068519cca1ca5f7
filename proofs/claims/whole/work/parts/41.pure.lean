/-! The pure part: what a line does, on its own numbers. -/
theorem an63 {a b : Nat} (h : a + b < 2147483648) : nat ((nI a + nI b) &&& 63) = (a + b) % 64 := by
  rw [nI_add, pk_andN (by omega) 6 rfl, nat_nI (by omega)]
theorem an255 {a b : Nat} (h : a + b < 2147483648) : nat ((nI a + nI b) &&& 255) = (a + b) % 256 := by
  rw [nI_add, pk_andN (by omega) 8 rfl, nat_nI (by omega)]
theorem an1023 {a : Nat} (h : a < 2147483648) : nat (nI a &&& 1023) = a % 1024 := by
  rw [pk_andN (by omega) 10 rfl, nat_nI (by omega)]
theorem an31 {a : Nat} (h : a < 2147483648) : nat (nI a &&& 31) = a % 32 := by
  rw [pk_andN (by omega) 5 rfl, nat_nI (by omega)]
/-- one place is another one -/
def exN {A : Type} (Q : Nat → A) (q : Nat) (v : A) : Nat → A := fun k => if k = q then v else Q k
theorem exN_e {A : Type} (Q : Nat → A) (q : Nat) (v : A) : exN Q q v q = v := if_pos rfl
theorem exN_n {A : Type} (Q : Nat → A) {q : Nat} (v : A) {k : Nat} (h : ¬ k = q) : exN Q q v k = Q k := if_neg h
/-- behind the queue -/
def qaC (C : LN) (n z : Int32) : LN := uL (uL (uL (uL C 11 (nat ((C 10 2 + C 10 3) &&& 63)) n) 12 (nat ((C 10 2 + C 10 3) &&& 63)) z) 10 3 (C 10 3 + 1)) 10 4 (C 10 4 + z)
def qaS (S : LN) (v : Int32) : LN := uL (uL S 7 (nat (S 8 0)) v) 8 0 (S 8 0 + 1)
theorem LQ_add {C S : LN} {z : Nat → Int32} {q hd so : Nat} {Q : Nat → Int32} (h : LQv C S z q hd so Q) (hq : q < 40) (v : Int32) {a : Nat} (hv : szr z v = nI a) (h1 : 1 ≤ a) (h2 : a ≤ 250) : LQv (qaC C v (szr z v)) (qaS S v) z (q + 1) hd so (exN Q q v) := by
  obtain ⟨a1, a2, a3, a4, a5, a6, a7, a8, a9, a10, a11⟩ := h
  have e : nat ((C 10 2 + C 10 3) &&& 63) = (hd + q) % 64 := by rw [a4, a6, an63 (by omega)]
  have eq : nat (S 8 0) = q := by rw [a1, nat_nI (by omega)]
  unfold qaC qaS
  rw [e, eq]
  refine ⟨?_, by omega, a3, a4, a5, ?_, a7, ?_, ?_, ?_, ?_⟩
  · show S 8 0 + 1 = _
    rw [a1, nI_1]
  · show C 10 3 + 1 = _
    rw [a6, nI_1]
  · show C 10 4 + szr z v = _
    rw [a8, sumN, exN_e, sumN_c q (f := fun k => szr z (exN Q q v k)) (g := fun k => szr z (Q k)) (fun k hk => by rw [exN_n _ _ (by omega)])]
    grind
  · intro k hk
    show uL S 7 q v 7 k = _ ∧ uL C 11 ((hd + q) % 64) v 11 ((hd + k) % 64) = _ ∧ uL C 12 ((hd + q) % 64) (szr z v) 12 ((hd + k) % 64) = _
    by_cases w : k = q
    · subst w
      rw [uL_eq, uL_eq, uL_eq, exN_e]
      exact ⟨rfl, rfl, rfl⟩
    · rw [uL_k _ _ _ _ w, uL_k _ _ _ _ (by omega), uL_k _ _ _ _ (by omega), exN_n _ _ w]
      exact a9 k (by omega)
  · intro k hk
    by_cases w : k = q
    · rw [w, exN_e]
      exact ⟨a, hv, h1, h2⟩
    · rw [exN_n _ _ w]
      exact a10 k (by omega)
  · rcases a11 with w | ⟨w, b, w2, w3⟩
    · exact Or.inl w
    · refine Or.inr ⟨by omega, b, ?_, w3⟩
      rw [exN_n _ _ (by omega)]
      exact w2
/-- a part of the first one goes -/
def qtC (C : LN) (m : Int32) : LN := uL (uL (uL C 10 5 (C 10 5 + m)) 10 4 (C 10 4 - m)) 7 13 (C 7 13 + m)
def qtS (S : LN) (t : Nat) (m : Int32) : LN := uL (uL (uL S 9 0 (S 9 0 + m)) 18 0 (S 18 0 + m)) 22 (t % 20) (S 22 (t % 20) + m)
theorem LQ_take {C S : LN} {z : Nat → Int32} {q hd so : Nat} {Q : Nat → Int32} (h : LQv C S z q hd so Q) (hq : 0 < q) {a : Nat} (ha : szr z (Q 0) = nI a) (ha2 : a ≤ 250) (t m : Nat) (hm : so + m < a) : LQv (qtC C (nI m)) (qtS S t (nI m)) z q hd (so + m) Q := by
  obtain ⟨a1, a2, a3, a4, a5, a6, a7, a8, a9, a10, a11⟩ := h
  refine ⟨a1, a2, ?_, a4, a5, a6, ?_, ?_, ?_, a10, Or.inr ⟨hq, a, ha, hm, ha2⟩⟩
  · show S 9 0 + nI m = _
    rw [a3, nI_add]
  · show C 10 5 + nI m = _
    rw [a7, nI_add]
  · show C 10 4 - nI m = _
    rw [a8, ← nI_add]
    grind
  · intro k hk
    exact a9 k hk
theorem LA_take {C S : LN} (h : LA C S) (t : Nat) (m : Int32) : LA (qtC C m) (qtS S t m) := by
  obtain ⟨a1, a2, a3, a4, a5, a6, a7, a8, a9, a10⟩ := h
  refine ⟨a1, a2, a3, a4, a5, a6, a7, a8, ?_, a10⟩
  show C 7 13 + m = S 18 0 + m
  rw [a9]
/-- the first one is sent -/
def sfC (C : LN) (t : Int32) : LN :=
  uL (uL (uL (uL (uL (uL (uL (uL (uL (uL C 10 2 ((C 10 2 + 1) &&& 63)) 10 3 (C 10 3 - 1)) 10 5 0) 14 (nat ((C 13 4 + C 13 5) &&& 255)) (C 11 (nat ((C 10 2 + 0) &&& 63)))) 15 (nat ((C 13 4 + C 13 5) &&& 255)) (C 7 11)) 16 (nat ((C 13 4 + C 13 5) &&& 255)) (t + C 7 3)) 17 (nat ((C 13 4 + C 13 5) &&& 255)) 0) 13 5 (C 13 5 + 1)) 8 (nat (C 7 11 &&& 1023)) (C 11 (nat ((C 10 2 + 0) &&& 63)))) 7 11 (C 7 11 + 1)
def shL (S : LN) (n : Nat) : LN := fun j k => if j = 7 ∧ k < n then S 7 (k + 1) else S j k
def sfS (S : LN) (t : Int32) : LN :=
  let w := (nat (S 14 0) + nat (S 15 0)) % 200
  uL (uL (uL (uL (uL (uL (uL (shL (uL S 8 0 (S 8 0 - 1)) (nat (S 8 0) - 1)) 9 0 0) 15 0 (S 15 0 + 1)) 10 w (S 7 0)) 11 w (S 16 0)) 12 w (t + S 3 0)) 13 w 0) 16 0 (S 16 0 + 1)
theorem LQ_send {C S : LN} {z : Nat → Int32} {q hd so : Nat} {Q : Nat → Int32} (h : LQv C S z (q + 1) hd so Q) {a : Nat} (ha : szr z (Q 0) = nI a) (hso : so ≤ a) (t : Nat) (t1 : Int32) : LQv (sfC (qtC C (nI (a - so))) t1) (sfS (qtS S t (nI (a - so))) t1) z q ((hd + 1) % 64) 0 (fun k => Q (k + 1)) := by
  obtain ⟨a1, a2, a3, a4, a5, a6, a7, a8, a9, a10, a11⟩ := h
  have e : (C 10 2 + 1) &&& 63 = nI ((hd + 1) % 64) := by
    rw [a4, nI_1, pk_andN (by omega) 6 rfl]
  refine ⟨?_, by omega, rfl, ?_, Nat.mod_lt _ (by decide), ?_, rfl, ?_, ?_, fun k hk => a10 (k + 1) (by omega), Or.inl rfl⟩
  · show S 8 0 - 1 = _
    rw [a1, nI_pred]
  · exact e
  · show C 10 3 - 1 = _
    rw [a6, nI_pred]
  · show C 10 4 - nI (a - so) = _
    rw [a8, sumN_1, ha, ← nI_sub hso, nI_0]
    grind
  · intro k hk
    have eS : sfS (qtS S t (nI (a - so))) t1 7 k = shL (uL (qtS S t (nI (a - so))) 8 0 (S 8 0 - 1)) (nat (S 8 0) - 1) 7 k := rfl
    have eC1 : ∀ i, sfC (qtC C (nI (a - so))) t1 11 i = C 11 i := fun _ => rfl
    have eC2 : ∀ i, sfC (qtC C (nI (a - so))) t1 12 i = C 12 i := fun _ => rfl
    have e8 : nat (S 8 0) = q + 1 := by rw [a1, nat_nI (by omega)]
    rw [eS, eC1, eC2, shL, if_pos ⟨rfl, by omega⟩]
    obtain ⟨b1, b2, b3⟩ := a9 (k + 1) (by omega)
    rw [show (hd + (k + 1)) % 64 = ((hd + 1) % 64 + k) % 64 by omega] at b2 b3
    exact ⟨b1, b2, b3⟩
theorem LA_send {C S : LN} (h : LA C S) (t : Int32) : LA (sfC C t) (sfS S t) := by
  obtain ⟨a1, a2, a3, a4, a5, a6, a7, a10⟩ := h
  refine ⟨a1, a2, a3, a4, a5, a6, ?_, a10⟩
  show C 7 11 + 1 = S 16 0 + 1
  rw [a7]
/-- what is sent stands behind what is under way -/
theorem LU_send {C S : LN} {T lo K hd u f uh cnt sn : Nat} {Q R M : Nat → Int32} {D : Nat → Nat} (h : LUv C S T lo K u f uh cnt sn R M D) (a4 : C 10 2 = nI hd) (a5 : hd < 64) (a9 : C 11 ((hd + 0) % 64) = Q 0) (e5 : S 7 0 = Q 0) (hA : LA C S) (hu : u < 200) (hw : cnt - sn < 1024) (hT : lo ≤ T + 1) (hT2 : T ≤ 20000) (hK : K < 2147483647) : ∃ d, S 3 0 = nI d ∧ LUv (sfC C (nI T)) (sfS S (nI T)) T lo (K + 1) (u + 1) f uh (cnt + 1) sn (exN R cnt (Q 0)) (exN M cnt 0) (exN D cnt (T + d)) := by
  obtain ⟨b1, b2, b3, b4, b5, b6, b7, b8, b9, b10, b11, b12, ⟨d, d1, d2, d3, d4⟩, b14⟩ := h
  have e1 : (nat (S 14 0) + nat (S 15 0)) % 200 = (f + u) % 200 := by rw [b3, b1, nat_nI (by omega), nat_nI (by omega)]
  have e2 : nat ((C 13 4 + C 13 5) &&& 255) = (uh + u) % 256 := by rw [b5, b7, an255 (by omega)]
  have e3 : nat (C 7 11 &&& 1023) = cnt % 1024 := by rw [hA.2.2.2.2.2.2.1, b8, an1023 (by omega)]
  have e4 : C 11 (nat ((C 10 2 + 0) &&& 63)) = Q 0 := by
    rw [a4, show (0 : Int32) = nI 0 from rfl, an63 (by omega)]
    exact a9
  have eh : C 7 11 = nI cnt := hA.2.2.2.2.2.2.1.trans b8
  have ed : nI T + C 7 3 = nI (T + d) := by rw [hA.2.2.1, d1, nI_add]
  have ed2 : nI T + S 3 0 = nI (T + d) := by rw [d1, nI_add]
  refine ⟨d, d1, ?_⟩
  unfold sfC sfS
  rw [e1, e2, e3, e4, e5, eh, ed, ed2, b8]
  refine ⟨?_, by omega, b3, b4, b5, b6, ?_, ?_, by omega, by omega, ?_, ?_, ⟨d, d1, d2, d3, ?_⟩, ?_⟩
  · show S 15 0 + 1 = _
    rw [b1, nI_1]
  · show C 13 5 + 1 = _
    rw [b7, nI_1]
  · show nI cnt + 1 = _
    rw [nI_1]
  · intro k hk
    rw [show cnt + 1 - (u + 1) + k = cnt - u + k by omega]
    by_cases w : k = u
    · subst w
      rw [show cnt - k + k = cnt by omega, exN_e, exN_e, exN_e]
      refine ⟨⟨?_, ?_, ?_, ?_⟩, ?_, ?_, ?_, ?_⟩
      · exact uL_eq _ _ _ _
      · exact uL_eq _ _ _ _
      · exact uL_eq _ _ _ _
      · exact uL_eq _ _ _ _
      · exact uL_eq _ _ _ _
      · exact uL_eq _ _ _ _
      · exact uL_eq _ _ _ _
      · exact uL_eq _ _ _ _
    · have w1 : ¬ (f + k) % 200 = (f + u) % 200 := by omega
      have w2 : ¬ (uh + k) % 256 = (uh + u) % 256 := by omega
      rw [exN_n _ _ (by omega), exN_n _ _ (by omega), exN_n _ _ (by omega)]
      obtain ⟨⟨c1, c2, c3, c4⟩, c5, c6, c7, c8⟩ := b11 k (by omega)
      refine ⟨⟨?_, ?_, ?_, ?_⟩, ?_, ?_, ?_, ?_⟩
      · exact (uL_k _ _ _ _ w1).trans c1
      · exact (uL_k _ _ _ _ w1).trans c2
      · exact (uL_k _ _ _ _ w1).trans c3
      · exact (uL_k _ _ _ _ w1).trans c4
      · exact (uL_k _ _ _ _ w2).trans c5
      · exact (uL_k _ _ _ _ w2).trans c6
      · exact (uL_k _ _ _ _ w2).trans c7
      · exact (uL_k _ _ _ _ w2).trans c8
  · intro i h1 h2
    by_cases w : i = cnt
    · subst w
      rw [exN_e]
      exact uL_eq _ _ _ _
    · rw [exN_n _ _ w]
      exact (uL_j _ _ _ _ (by decide)).trans ((uL_k _ _ _ _ (by omega)).trans (b12 i h1 (by omega)))
  · intro i h1 h2
    by_cases w : i = cnt
    · rw [w, exN_e]
      exact ⟨by omega, by omega, fun z => by omega⟩
    · obtain ⟨c1, c2, c3⟩ := d4 i (by omega) (by omega)
      rw [exN_n _ _ w]
      refine ⟨c1, c2, fun z => ?_⟩
      by_cases w2 : i + 1 = cnt
      · rw [w2, exN_e]
        exact c2
      · rw [exN_n _ _ w2]
        exact c3 (by omega)
  · intro i h1 h2
    by_cases w : i = cnt
    · rw [w, exN_e]
      exact ⟨0, rfl, by omega⟩
    · rw [exN_n _ _ w]
      exact b14 i (by omega) (by omega)
/-- the first one under way is taken -/
def udC (C : LN) : LN := uL (uL C 13 4 ((C 13 4 + 1) &&& 255)) 13 5 (C 13 5 - 1)
def udS (S : LN) : LN := uL (uL S 14 0 (nI ((nat (S 14 0) + 1) % 200))) 15 0 (S 15 0 - 1)
theorem LU_drop {C S : LN} {T lo K u f uh cnt sn : Nat} {R M : Nat → Int32} {D : Nat → Nat} (h : LUv C S T lo K (u + 1) f uh cnt sn R M D) : LUv (udC C) (udS S) T lo K u ((f + 1) % 200) ((uh + 1) % 256) cnt sn R M D := by
  obtain ⟨b1, b2, b3, b4, b5, b6, b7, b8, b9, b10, b11, b12, ⟨d, d1, d2, d3, d4⟩, b14⟩ := h
  refine ⟨?_, by omega, ?_, Nat.mod_lt _ (by decide), ?_, Nat.mod_lt _ (by decide), ?_, b8, by omega, b10, ?_, b12, ⟨d, d1, d2, d3, fun i h1 h2 => d4 i (by omega) h2⟩, fun i h1 h2 => b14 i (by omega) h2⟩
  · show S 15 0 - 1 = _
    rw [b1, nI_pred]
  · show nI ((nat (S 14 0) + 1) % 200) = _
    rw [b3, nat_nI (by omega)]
  · show (C 13 4 + 1) &&& 255 = _
    rw [b5, nI_1, pk_andN (by omega) 8 rfl]
  · show C 13 5 - 1 = _
    rw [b7, nI_pred]
  · intro k hk
    have := b11 (k + 1) (by omega)
    rw [show (f + (k + 1)) % 200 = ((f + 1) % 200 + k) % 200 by omega, show (uh + (k + 1)) % 256 = ((uh + 1) % 256 + k) % 256 by omega, show cnt - (u + 1) + (k + 1) = cnt - u + k by omega] at this
    exact this
/-- all that is under way comes later -/
theorem LU_lo {C S : LN} {T lo K u f uh cnt sn : Nat} {R M : Nat → Int32} {D : Nat → Nat} (h : LUv C S T lo K u f uh cnt sn R M D) (h0 : 0 < u → lo < D (cnt - u)) : LUv C S T (lo + 1) K u f uh cnt sn R M D := by
  obtain ⟨b1, b2, b3, b4, b5, b6, b7, b8, b9, b10, b11, b12, ⟨d, d1, d2, d3, d4⟩, b14⟩ := h
  refine ⟨b1, b2, b3, b4, b5, b6, b7, b8, b9, b10, b11, b12, ⟨d, d1, d2, d3, ?_⟩, b14⟩
  have : ∀ j, cnt - u + j < cnt → lo < D (cnt - u + j) := by
    intro j
    induction j with
    | zero => exact fun z => h0 (by omega)
    | succ j ih =>
      intro z
      have := ih (by omega)
      have := (d4 (cnt - u + j) (by omega) (by omega)).2.2 (by omega)
      rw [show cnt - u + j + 1 = cnt - u + (j + 1) by omega] at this
      omega
  intro i h1 h2
  have := this (i - (cnt - u)) (by omega)
  rw [show cnt - u + (i - (cnt - u)) = i by omega] at this
  exact ⟨this, (d4 i h1 h2).2⟩
theorem LU_sn {C S : LN} {T lo K u f uh cnt sn sn2 : Nat} {R M : Nat → Int32} {D : Nat → Nat} (h : LUv C S T lo K u f uh cnt sn R M D) (h1 : sn ≤ sn2) (h2 : sn2 + u ≤ cnt) : LUv C S T lo K u f uh cnt sn2 R M D := by
  obtain ⟨b1, b2, b3, b4, b5, b6, b7, b8, b9, b10, b11, b12, b13, b14⟩ := h
  exact ⟨b1, b2, b3, b4, b5, b6, b7, b8, h2, b10, b11, fun i z => b12 i (by omega), b13, b14⟩
theorem LU_K {C S : LN} {T lo K K2 u f uh cnt sn : Nat} {R M : Nat → Int32} {D : Nat → Nat} (h : LUv C S T lo K u f uh cnt sn R M D) (h1 : cnt ≤ K2) : LUv C S T lo K2 u f uh cnt sn R M D := by
  obtain ⟨b1, b2, b3, b4, b5, b6, b7, b8, b9, b10, b11, b12, b13, b14⟩ := h
  exact ⟨b1, b2, b3, b4, b5, b6, b7, b8, b9, h1, b11, b12, b13, b14⟩
theorem LU_T {C S : LN} {T T2 lo K u f uh cnt sn : Nat} {R M : Nat → Int32} {D : Nat → Nat} (h : LUv C S T lo K u f uh cnt sn R M D) (hT : T ≤ T2) : LUv C S T2 lo K u f uh cnt sn R M D := by
  obtain ⟨b1, b2, b3, b4, b5, b6, b7, b8, b9, b10, b11, b12, ⟨d, d1, d2, d3, d4⟩, b14⟩ := h
  exact ⟨b1, b2, b3, b4, b5, b6, b7, b8, b9, b10, b11, b12, ⟨d, d1, d2, d3, fun i h1 h2 => ⟨(d4 i h1 h2).1, by have := (d4 i h1 h2).2.1; omega, (d4 i h1 h2).2.2⟩⟩, b14⟩
/-- a mark -/
def umC (C : LN) (k : Nat) (m : Int32) : LN := uL C 17 (nat ((C 13 4 + nI k) &&& 255)) (C 17 (nat ((C 13 4 + nI k) &&& 255)) ||| m)
def umS (S : LN) (k : Nat) (m : Int32) : LN := uL S 13 ((nat (S 14 0) + k) % 200) (S 13 ((nat (S 14 0) + k) % 200) ||| m)
theorem or_le3d : ∀ a, a < 4 → ∀ b, b < 4 → nI a ||| nI b = nI (nat (nI a ||| nI b)) ∧ nat (nI a ||| nI b) ≤ 3 := by decide
theorem or_le3 (a : Nat) (ha : a < 4) (b : Nat) (hb : b < 4) : ∃ m, nI a ||| nI b = nI m ∧ m ≤ 3 := ⟨_, or_le3d a ha b hb⟩
theorem or_ne0 : ∀ a, a < 4 → ∀ b, b < 4 → nI a ||| nI b = 0 → nI a = 0 := by decide
theorem LU_mark {C S : LN} {T lo K u f uh cnt sn : Nat} {R M : Nat → Int32} {D : Nat → Nat} (h : LUv C S T lo K u f uh cnt sn R M D) (k b : Nat) (hk : k < u) (hb : b < 4) : LUv (umC C k (nI b)) (umS S k (nI b)) T lo K u f uh cnt sn R (exN M (cnt - u + k) (M (cnt - u + k) ||| nI b)) D := by
  obtain ⟨b1, b2, b3, b4, b5, b6, b7, b8, b9, b10, b11, b12, b13, b14⟩ := h
  have e1 : (nat (S 14 0) + k) % 200 = (f + k) % 200 := by rw [b3, nat_nI (by omega)]
  have e2 : nat ((C 13 4 + nI k) &&& 255) = (uh + k) % 256 := by rw [b5, an255 (by omega)]
  unfold umC umS
  rw [e1, e2]
  refine ⟨b1, b2, b3, b4, b5, b6, b7, b8, b9, b10, ?_, b12, b13, ?_⟩
  · intro j hj
    obtain ⟨⟨c1, c2, c3, c4⟩, c5, c6, c7, c8⟩ := b11 j hj
    by_cases w : j = k
    · subst w
      rw [exN_e]
      refine ⟨⟨c1, c2, c3, ?_⟩, c5, c6, c7, ?_⟩
      · rw [uL_eq, c4]
      · rw [uL_eq, c8]
    · rw [exN_n _ _ (by omega)]
      exact ⟨⟨c1, c2, c3, (uL_k _ _ _ _ (by omega)).trans c4⟩, c5, c6, c7, (uL_k _ _ _ _ (by omega)).trans c8⟩
  · intro i h1 h2
    obtain ⟨m, m1, m2⟩ := b14 i h1 h2
    by_cases w : i = cnt - u + k
    · rw [w] at m1
      rw [w, exN_e, m1]
      exact or_le3 m (by omega) b hb
    · rw [exN_n _ _ w]
      exact ⟨m, m1, m2⟩
/-- the marks' number grows by one at most -/
theorem mk01 (v : Int32) : (if v = 0 then 0 else 1) ≤ 1 := by
  split <;> omega
theorem mkN_mark0 {M : Nat → Int32} {j : Nat} {v : Int32} (a : Nat) : ∀ n, j < a ∨ a + n ≤ j → mkN (exN M j v) a n = mkN M a n
  | 0, _ => rfl
  | n + 1, h => by
    rw [mkN, mkN, mkN_mark0 a n (by omega), exN_n _ _ (by omega)]
theorem mkN_mark {M : Nat → Int32} {j : Nat} {v : Int32} (a : Nat) : ∀ n, mkN (exN M j v) a n ≤ mkN M a n + 1
  | 0 => Nat.zero_le _
  | n + 1 => by
    have := mkN_mark (M := M) (j := j) (v := v) a n
    rw [mkN, mkN]
    by_cases w : a + n = j
    · rw [mkN_mark0 a n (by omega)]
      have := mk01 (exN M j v (a + n))
      omega
    · rw [exN_n _ _ w]
      omega
/-- in the log -/
theorem LG_step {C S : LN} {tl : Nat} (h : LGv C S tl) (v : Int32) (hv : S 22 ((tl + 1) % 20) = v) : LGv (uL C 9 ((tl + 1) % 32) v) S (tl + 1) := by
  obtain ⟨h1, h2, h3⟩ := h
  refine ⟨fun t t1 t2 t3 => ?_, fun j j1 j2 => ?_, fun j => ?_⟩
  · by_cases w : t = tl + 1
    · rw [w, uL_eq, hv]
    · rw [uL_k _ _ _ _ (by omega)]
      exact h1 t t1 (by omega) (by omega)
  · rw [uL_k _ _ _ _ (by omega)]
    exact h2 j j1 (by omega)
  · rw [uL_k _ _ _ _ (by omega)]
    exact h3 (by omega)
theorem LG_S {C S : LN} {tl : Nat} (h : LGv C S tl) (v : Int32) : LGv C (uL S 22 ((tl + 1) % 20) v) tl := by
  obtain ⟨h1, h2, h3⟩ := h
  refine ⟨fun t t1 t2 t3 => ?_, h2, h3⟩
  rw [uL_k _ _ _ _ (by omega)]
  exact h1 t t1 t2 t3
/-- the line goes down -/
def dnC (C : LN) : LN := uL (uL (uL (uL (uL (uL C 7 8 0) 10 3 0) 10 4 0) 10 5 0) 13 5 0) 7 12 (C 7 11)
def dnS (S : LN) : LN := uL (uL (uL (uL S 17 0 (S 16 0)) 8 0 0) 15 0 0) 9 0 0
theorem LQ_down {C S : LN} {z : Nat → Int32} {q hd so : Nat} {Q : Nat → Int32} (h : LQv C S z q hd so Q) : LQv (dnC C) (dnS S) z 0 hd 0 Q := by
  obtain ⟨a1, a2, a3, a4, a5, a6, a7, a8, a9, a10, a11⟩ := h
  exact ⟨rfl, by omega, rfl, a4, a5, rfl, rfl, (show (0 : Int32) = 0 - nI 0 by decide), fun k hk => absurd hk (by omega), fun k hk => absurd hk (by omega), Or.inl rfl⟩
theorem LU_down {C S : LN} {T lo K u f uh cnt sn : Nat} {R M : Nat → Int32} {D : Nat → Nat} (h : LUv C S T lo K u f uh cnt sn R M D) : LUv (dnC C) (dnS S) T lo K 0 f uh cnt cnt R M D := by
  obtain ⟨b1, b2, b3, b4, b5, b6, b7, b8, b9, b10, b11, b12, ⟨d, d1, d2, d3, d4⟩, b14⟩ := h
  exact ⟨rfl, by omega, b3, b4, b5, b6, rfl, b8, by omega, b10, fun k hk => absurd hk (by omega), fun i h1 h2 => absurd h1 (by omega), ⟨d, d1, d2, d3, fun i h1 h2 => absurd h1 (by omega)⟩, fun i h1 h2 => absurd h1 (by omega)⟩
