/-! The pure part: sending on all lines. -/
theorem bfC_sum {c : CS} {l : Nat} {t : Int32} : ∀ d a acc, bfC c l t d (nI a) acc = acc - sumN (fun k => c 9 l (nat (t - nI (a + k) &&& 31))) d
  | 0, a, acc => by
    rw [bfC, sumN, Int32.sub_zero]
  | d + 1, a, acc => by
    rw [bfC, nI_1, bfC_sum d (a + 1), sumN_1, Nat.add_zero, sumN_c (f := fun k => c 9 l (nat (t - nI (a + 1 + k) &&& 31))) (g := fun k => c 9 l (nat (t - nI (a + (k + 1)) &&& 31))) d (fun k _ => by rw [show a + 1 + k = a + (k + 1) by omega])]
    generalize sumN (fun k => c 9 l (nat (t - nI (a + (k + 1)) &&& 31))) d = x
    generalize c 9 l (nat (t - nI a &&& 31)) = y
    grind
theorem alw_sum {s : SS} {l t : Nat} : ∀ k, alw s l t k = s 5 l - sumN (fun k => s 22 (20 * l + (t - (k + 1)) % 20)) k
  | 0 => by
    rw [alw, sumN, Int32.sub_zero]
  | k + 1 => by
    rw [alw, sumN, alw_sum k]
    generalize sumN (fun k => s 22 (20 * l + (t - (k + 1)) % 20)) k = x
    generalize s 22 (20 * l + (t - (k + 1)) % 20) = y
    grind
theorem sumN_z {f : Nat → Int32} {a : Nat} : ∀ n, a ≤ n → (∀ k, a ≤ k → k < n → f k = 0) → sumN f n = sumN f a
  | 0, h, _ => by rw [show a = 0 by omega]
  | n + 1, h, h0 => by
    by_cases w : a = n + 1
    · rw [w]
    · rw [sumN, h0 n (by omega) (by omega), Int32.add_zero, sumN_z n (by omega) (fun k k1 k2 => h0 k k1 (by omega))]
/-- a time before the first one, in the log's places -/
theorem an31_neg {a b : Nat} (ha : a < 2147483648) (h : a < b) (h2 : b ≤ a + 31) : nat (nI a - nI b &&& 31) = a + 32 - b := by
  have e : nI a - nI b = nI (a + 4294967296 - b) := by
    have e1 : nI (a + 4294967296) = nI a := by
      rw [← nI_add, show nI 4294967296 = 0 from by decide, Int32.add_zero]
    have e2 : nI (a + 4294967296 - b) + nI b = nI a := by rw [nI_add, show a + 4294967296 - b + b = a + 4294967296 by omega, e1]
    rw [← e2]
    generalize nI (a + 4294967296 - b) = x
    generalize nI b = y
    grind
  rw [e, pk_andN (by omega) 5 rfl, nat_nI (by omega)]
  omega
theorem an31_pos {a b : Nat} (ha : a < 2147483648) (h : b ≤ a) : nat (nI a - nI b &&& 31) = (a - b) % 32 := by
  rw [nI_sub h, an31 (by omega)]
theorem log_eq {c : CS} {s : SS} {l tl sp : Nat} (hL : LGv (Cl c l) (Sl s l) tl) (ht : tl + 1 ≤ 20000) (hs : sp ≤ 20) : sumN (fun k => c 9 l (nat (nI (tl + 1) - nI (1 + k) &&& 31))) (sp - 1) = sumN (fun k => s 22 (20 * l + (tl + 1 - (k + 1)) % 20)) (min sp (tl + 1) - 1) := by
  obtain ⟨h1, h2, h3⟩ := hL
  rw [sumN_z (a := min sp (tl + 1) - 1) (sp - 1) (by omega)]
  · refine sumN_c _ (fun k hk => ?_)
    rw [an31_pos (by omega) (by omega)]
    have := h1 (tl - k) (by omega) (by omega) (by omega)
    rw [SL22 _ _ _ (Nat.mod_lt _ (by decide))] at this
    rw [show tl + 1 - (1 + k) = tl - k by omega, show tl + 1 - (k + 1) = tl - k by omega]
    exact this
  · intro k k1 k2
    by_cases w : tl + 1 = 1 + k
    · rw [an31_pos (by omega) (by omega), show (tl + 1 - (1 + k)) % 32 = 0 by omega]
      exact h3 (by omega)
    · rw [an31_neg (by omega) (by omega) (by omega)]
      exact h2 _ (by omega) (by omega)
theorem bytes_eq {nl nf np T fn g n : Nat} {A B lo tl : Nat → Nat} {c : CS} {s : SS} (h : IV nl nf np T fn g n A B lo tl c s) {l : Nat} (hl : l < nl) (ht : T = tl l + 1) (v : Int32) : ∃ sp, s 6 l = nI sp ∧ sp ≤ 20 ∧ (allowedF (uS s 22 (20 * l + T % 20) v) l T = bytesC c l (nI T) ∨ (¬ 0 < bytesC c l (nI T) ∧ ¬ 0 < allowedF (uS s 22 (20 * l + T % 20) v) l T)) := by
  obtain ⟨q, hd, so, u, f, uh, cnt, sn, Q, R, M, D, ⟨a1, a2, a3, a4, a5, a6, a7⟩, b⟩ := h.2.1 l hl
  have hT := h.1.2.2.2.2.2.2.1.2.2.2.2.2.2.2.2.2
  obtain ⟨b1, b2, b3, b4, b5, b6, b7, b8, b9, b10, b11, b12, b13, ⟨a, b14, b15, b16⟩, sp, b17, b18⟩ := a2
  rw [S1 _ _ (by decide)] at b17 b14
  refine ⟨sp, b17, b18, ?_⟩
  have e1 : c 7 l 1 = s 1 l := b1.trans (S1 _ _ (by decide))
  have e2 : c 7 l 2 = s 2 l := b2.trans (S1 _ _ (by decide))
  have e5 : c 7 l 9 = s 5 l := b5.trans (S1 _ _ (by decide))
  have e6 : c 7 l 10 = s 6 l := b6.trans (S1 _ _ (by decide))
  have a6' : LGv (Cl c l) (Sl (uS s 22 (20 * l + T % 20) v) l) (tl l) := by
    rw [Sl_own22 _ _ _ _ (Nat.mod_lt _ (by decide)), ht]
    exact LG_S a6 v
  generalize hs1 : uS s 22 (20 * l + T % 20) v = s1
  rw [hs1] at a6'
  have k1 : s1 1 l = s 1 l := by rw [← hs1, uS_j _ _ _ (by decide)]
  have k2 : s1 2 l = s 2 l := by rw [← hs1, uS_j _ _ _ (by decide)]
  have k5 : s1 5 l = s 5 l := by rw [← hs1, uS_j _ _ _ (by decide)]
  have k6 : s1 6 l = s 6 l := by rw [← hs1, uS_j _ _ _ (by decide)]
  unfold bytesC allowedF
  rw [e1, e2, e5, e6, k1, k2, k6, b17, nat_nI (by omega), show (1 : Int32) = nI 1 from rfl, dI_ii (by omega) (by omega), bfC_sum, alw_sum, k5, ht, log_eq a6' (by omega) b18]
  generalize s 5 l - sumN (fun k => s1 22 (20 * l + (tl l + 1 - (k + 1)) % 20)) (min sp (tl l + 1) - 1) = x
  by_cases w : s 1 l = 3
  · rw [if_pos w, if_pos w]
    by_cases w1 : x < 0
    · right
      have w2 : x < s 2 l := by
        rw [b14]
        exact Int32.lt_of_lt_of_le w1 (nI_pos' (by omega))
      rw [if_pos w2, if_pos w1]
      exact ⟨Int32.not_lt.mpr (Int32.le_of_lt w1), by decide⟩
    · left
      rw [if_neg w1]
  · rw [if_neg w, if_neg w]
    exact Or.inl rfl
theorem snd_stop (s : SS) (t l n : Nat) {left : Int32} (h : ¬ 0 < left) : sndF t l (n + 1) left s = s := by
  rw [sndF, if_neg (fun z => h z.1)]
theorem sa_stage {nl nf np T fn g n : Nat} {A B lo tl : Nat → Nat} {c : CS} {s : SS} (h : IV nl nf np T fn g n A B lo tl c s) {l : Nat} (hl : l < nl) (ht : T = tl l + 1) (hlo : lo l ≤ T + 1) (hn : n ≤ 800) : IV nl nf np T fn g n A B lo (exN tl l T) (saC c l (c 0 0 16)) (sendingF T l s) := by
  have hnp := IV_np h
  have hT := h.1.2.2.2.2.2.2.1.2.2.2.2.2.2.2.2.2
  have e16 := h.1.2.2.2.2.2.2.1.2.2.2.2.2.2.2.1
  have e45 := h.1.2.2.2.2.2.2.1.2.2.2.2.2.2.2.2.1
  obtain ⟨q, hd, so, u, f, uh, cnt, sn, Q, R, M, D, ⟨a1, a2, a3, a4, a5, a6, a7⟩, hb⟩ := h.2.1 l hl
  have e4 : c 7 l 8 = s 4 l := a2.2.2.2.1.trans (S1 _ _ (by decide))
  obtain ⟨sp, s1, s2, s3⟩ := bytes_eq h hl ht 0
  have n1 : ∀ l', ¬ l' = l → lo l' = lo l' ∧ exN tl l T l' = tl l' := fun l' q => ⟨rfl, exN_n _ _ q⟩
  have m20 : (tl l + 1) % 20 < 20 := Nat.mod_lt _ (by decide)
  unfold saC sendingF
  rw [e16, e4, an31 (by omega)]
  have z22 : uS s 22 (20 * l + T % 20) 0 22 (20 * l + T % 20) = 0 := uS_eq _ _ _ _
  have F0 : LF l c s c (uS s 22 (20 * l + T % 20) 0) := LF_22 (LF_refl l c s) _ _ (Nat.mod_lt _ (by decide))
  have L0 : LIw T (lo l) (41 * tl l) (tl l) np l (Cl c l) (Sl (uS s 22 (20 * l + T % 20) 0) l) (uS s 22 (20 * l + T % 20) 0) q hd so u f uh cnt sn 0 sn Q R M D := by
    rw [Sl_own22 _ _ _ _ (Nat.mod_lt _ (by decide))]
    refine ⟨a1, a2, a3, a4, a5, ?_, CP_c a7 (fun _ _ => Iff.rfl) (fun _ _ _ => rfl)⟩
    rw [ht]
    exact LG_S a6 0
  by_cases w : s 4 l = 0
  · rw [if_pos w, if_pos w]
    refine IV_LF (lo' := lo) h hl (LF_uC F0 _ _ (by decide)) ?_ n1
    rw [exN_e, Cl_own _ _ _ _ (by decide)]
    obtain ⟨b1, b2, b3, b4, b5, b6, b7⟩ := L0
    refine ⟨q, hd, so, u, f, uh, cnt, sn, Q, R, M, D, ⟨b1, b2, b3, LU_K b4 (by have := b4.2.2.2.2.2.2.2.2.2.1; omega), b5, ?_, b7⟩, hb⟩
    rw [ht] at b6 ⊢
    refine LG_step b6 _ ?_
    rw [SL22 _ _ _ m20, uS_eq, Int32.sub_self]
  · rw [if_neg w, if_neg w]
    have goal : ∀ (c' : CS) (s' : SS), LF l c (uS s 22 (20 * l + T % 20) 0) c' s' → c' 7 l 13 - s' 22 (20 * l + T % 20) = c 7 l 13 - uS s 22 (20 * l + T % 20) 0 22 (20 * l + T % 20) → (∃ (q' hd' so' u' f' uh' cnt' sn' : Nat) (Q' R' M' : Nat → Int32) (D' : Nat → Nat), LIw T (lo l) (41 * tl l + 40) (tl l) np l (Cl c' l) (Sl s' l) s' q' hd' so' u' f' uh' cnt' sn' 0 sn' Q' R' M' D' ∧ cnt' - sn' + mkN M' (cnt' - u') u' ≤ u' + n) → IV nl nf np T fn g n A B lo (exN tl l T) (uC c' 9 l (T % 32) (c' 7 l 13 - c 7 l 13)) s' := by
      rintro c' s' g1 g2 ⟨q', hd', so', u', f', uh', cnt', sn', Q', R', M', D', ⟨b1, b2, b3, b4, b5, b6, b7⟩, hb'⟩
      refine IV_LF (lo' := lo) h hl (LF_uC (LF_tr F0 g1) _ _ (by decide)) ?_ n1
      rw [exN_e, Cl_own _ _ _ _ (by decide)]
      refine ⟨q', hd', so', u', f', uh', cnt', sn', Q', R', M', D', ⟨b1, b2, b3, LU_K b4 (by have := b4.2.2.2.2.2.2.2.2.2.1; omega), b5, ?_, b7⟩, hb'⟩
      rw [z22, Int32.sub_zero] at g2
      rw [ht] at g2 ⊢
      refine LG_step b6 _ ?_
      rw [SL22 _ _ _ m20, ← g2]
      generalize s' 22 (20 * l + (tl l + 1) % 20) = x
      grind
    have trv : ∃ (q' hd' so' u' f' uh' cnt' sn' : Nat) (Q' R' M' : Nat → Int32) (D' : Nat → Nat), LIw T (lo l) (41 * tl l + 40) (tl l) np l (Cl c l) (Sl (uS s 22 (20 * l + T % 20) 0) l) (uS s 22 (20 * l + T % 20) 0) q' hd' so' u' f' uh' cnt' sn' 0 sn' Q' R' M' D' ∧ cnt' - sn' + mkN M' (cnt' - u') u' ≤ u' + n := by
      obtain ⟨b1, b2, b3, b4, b5, b6, b7⟩ := L0
      exact ⟨q, hd, so, u, f, uh, cnt, sn, Q, R, M, D, ⟨b1, b2, b3, LU_K b4 (by have := b4.2.2.2.2.2.2.2.2.2.1; omega), b5, b6, b7⟩, hb⟩
    rcases s3 with s3 | ⟨s3, s4⟩
    · rw [s3]
      have e45' : uS s 22 (20 * l + T % 20) 0 0 45 = nI (tl l + 1) := by
        rw [← ht]
        exact e45
      rw [ht] at L0 e45' ⊢
      obtain ⟨r1, r2, r3⟩ := snd_loop (n := n) (by omega) (by omega) hnp hn 40 (bytesC c l (nI (tl l + 1))) c _ q hd so u f uh cnt sn (41 * tl l) Q R M D (by omega) a3.2.1 e45' L0 hb
      rw [ht] at goal
      exact goal _ _ r1 r2 r3
    · rw [sb_stop _ _ _ _ _ s3, snd_stop _ _ _ _ s4]
      exact goal _ _ (LF_refl _ _ _) rfl trv
theorem IV_fc {nl nf np T fn g n : Nat} {A B lo tl lo' tl' : Nat → Nat} {c : CS} {s : SS} (h : IV nl nf np T fn g n A B lo tl c s) (h1 : ∀ l, l < nl → lo' l = lo l ∧ tl' l = tl l) : IV nl nf np T fn g n A B lo' tl' c s := ⟨h.1, fun l hl => by
  rw [(h1 l hl).1, (h1 l hl).2]
  exact h.2.1 l hl, h.2.2⟩
/-- sending on the first k lines -/
theorem so_stage {nl nf np T fn g n : Nat} {A B : Nat → Nat} {c : CS} {s : SS} (hT : 1 ≤ T) (hn : n ≤ 800) (h : IV nl nf np T fn g n A B (fun _ => T) (fun _ => T - 1) c s) : ∀ k, k ≤ nl → IV nl nf np T fn g n A B (fun _ => T) (fun l => if l < k then T else T - 1) (soC k c) (onL (sendingF T) k s)
  | 0, _ => h
  | k + 1, hk => by
    have ih := so_stage hT hn h k (by omega)
    rw [soC, onL]
    refine IV_fc (sa_stage ih (l := k) hk ?_ (Nat.le_succ _) hn) (fun l hl => ⟨rfl, ?_⟩)
    · show T = (if k < k then T else T - 1) + 1
      rw [if_neg (by omega)]
      omega
    · show (if l < k + 1 then T else T - 1) = exN (fun l => if l < k then T else T - 1) k T l
      by_cases w : l = k
      · rw [w, exN_e, if_pos (by omega)]
      · rw [exN_n _ _ w]
        by_cases w2 : l < k
        · rw [if_pos w2, if_pos (by omega)]
        · rw [if_neg w2, if_neg (by omega)]
