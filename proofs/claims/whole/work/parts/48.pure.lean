/-! The pure part: sending, whole. -/
theorem szr_ge1 {z : Nat → Int32} {q : Nat} {Q : Nat → Int32} (h : ∀ k, k < q → ∃ a, szr z (Q k) = nI a ∧ 1 ≤ a ∧ a ≤ 250) (hq : 0 < q) : ∃ a, szr z (Q 0) = nI a ∧ 1 ≤ a ∧ a ≤ 250 := h 0 hq
theorem sb_stop (c : CS) (l : Nat) (t : Int32) : ∀ d (left : Int32), ¬ 0 < left → sbC l t d left c = c
  | 0, _, _ => rfl
  | d + 1, left, h => by rw [sbC, if_neg h]
theorem mkN_push {M : Nat → Int32} (cnt u : Nat) (h : u ≤ cnt) : mkN (exN M cnt 0) (cnt + 1 - (u + 1)) (u + 1) = mkN M (cnt - u) u := by
  rw [show cnt + 1 - (u + 1) = cnt - u by omega, mkN, show cnt - u + u = cnt by omega, exN_e, if_pos rfl, Nat.add_zero]
  exact mkN_c _ _ (fun k hk => exN_n _ _ (by omega))
theorem snd_loop {lo tl np l n : Nat} (hT : lo ≤ tl + 2) (hT2 : tl + 1 ≤ 20000) (hn : np ≤ 3000) (hN : n ≤ 800) : ∀ (d : Nat) (left : Int32) (c : CS) (s : SS) (q hd so u f uh cnt sn K : Nat) (Q R M : Nat → Int32) (D : Nat → Nat), K + d < 2147483647 → q ≤ d → s 0 45 = nI (tl + 1) → LIw (tl + 1) lo K tl np l (Cl c l) (Sl s l) s q hd so u f uh cnt sn 0 sn Q R M D → cnt - sn + mkN M (cnt - u) u ≤ u + n →
    LF l c s (sbC l (nI (tl + 1)) d left c) (sndF (tl + 1) l (d + 1) left s) ∧ sbC l (nI (tl + 1)) d left c 7 l 13 - sndF (tl + 1) l (d + 1) left s 22 (20 * l + (tl + 1) % 20) = c 7 l 13 - s 22 (20 * l + (tl + 1) % 20) ∧ ∃ (q' hd' so' u' f' uh' cnt' sn' : Nat) (Q' R' M' : Nat → Int32) (D' : Nat → Nat), LIw (tl + 1) lo (K + d) tl np l (Cl (sbC l (nI (tl + 1)) d left c) l) (Sl (sndF (tl + 1) l (d + 1) left s) l) (sndF (tl + 1) l (d + 1) left s) q' hd' so' u' f' uh' cnt' sn' 0 sn' Q' R' M' D' ∧ cnt' - sn' + mkN M' (cnt' - u') u' ≤ u' + n
  | 0, left, c, s, q, hd, so, u, f, uh, cnt, sn, K, Q, R, M, D, hK, hq, h45, h, hb => by
    have e8 : s 8 l = nI q := by rw [← h.2.2.1.1, S1 _ _ (by decide)]
    have e : sndF (tl + 1) l (0 + 1) left s = s := by
      rw [sndF, if_neg]
      rintro ⟨z1, z2, z3⟩
      rw [e8, show q = 0 by omega] at z2
      exact absurd z2 (by decide)
    rw [e, sbC]
    exact ⟨LF_refl _ _ _, rfl, q, hd, so, u, f, uh, cnt, sn, Q, R, M, D, h, hb⟩
  | d + 1, left, c, s, q, hd, so, u, f, uh, cnt, sn, K, Q, R, M, D, hK, hq, h45, h, hb => by
    have hI := h
    obtain ⟨a1, a2, a3, a4, a5, a6, a7⟩ := h
    have e8 : s 8 l = nI q := by rw [← a3.1, S1 _ _ (by decide)]
    have e9 : s 9 l = nI so := by rw [← a3.2.2.1, S1 _ _ (by decide)]
    have e15 : s 15 l = nI u := by rw [← a4.1, S1 _ _ (by decide)]
    have e1 : c 7 l 1 = s 1 l := a2.1.trans (S1 _ _ (by decide))
    have c3 : c 10 l 3 = nI q := a3.2.2.2.2.2.1
    have c2 : c 10 l 2 = nI hd := a3.2.2.2.1
    have c5 : c 10 l 5 = nI so := a3.2.2.2.2.2.2.1
    have cu : c 13 l 5 = nI u := a4.2.2.2.2.2.2.1
    have hu := a4.2.1
    have hq40 := a3.2.1
    have hh := a3.2.2.2.2.1
    have hK2 : LIw (tl + 1) lo (K + (d + 1)) tl np l (Cl c l) (Sl s l) s q hd so u f uh cnt sn 0 sn Q R M D := ⟨a1, a2, a3, LU_K a4 (by have := a4.2.2.2.2.2.2.2.2.2.1; omega), a5, a6, a7⟩
    have stop : LF l c s c s ∧ c 7 l 13 - s 22 (20 * l + (tl + 1) % 20) = c 7 l 13 - s 22 (20 * l + (tl + 1) % 20) ∧ ∃ (q' hd' so' u' f' uh' cnt' sn' : Nat) (Q' R' M' : Nat → Int32) (D' : Nat → Nat), LIw (tl + 1) lo (K + (d + 1)) tl np l (Cl c l) (Sl s l) s q' hd' so' u' f' uh' cnt' sn' 0 sn' Q' R' M' D' ∧ cnt' - sn' + mkN M' (cnt' - u') u' ≤ u' + n :=
      ⟨LF_refl _ _ _, rfl, q, hd, so, u, f, uh, cnt, sn, Q, R, M, D, hK2, hb⟩
    rw [sbC, sndF]
    by_cases w0 : 0 < left
    · rw [if_pos w0]
      by_cases w1 : c 10 l 3 = 0 ∨ 200 ≤ c 13 l 5
      · rw [if_pos w1, if_neg]
        · exact stop
        · rintro ⟨z1, z2, z3⟩
          rcases w1 with w1 | w1
          · rw [c3] at w1
            rw [e8, w1] at z2
            exact absurd z2 (by decide)
          · rw [cu] at w1
            rw [e15] at z3
            exact absurd w1 (Int32.not_le.mpr z3)
      · rw [if_neg w1]
        have q0 : 0 < q := Nat.pos_of_ne_zero (fun z => w1 (Or.inl (by rw [c3, z]; rfl)))
        have u0 : u < 200 := Nat.lt_of_not_le (fun z => w1 (Or.inr (by rw [cu]; exact nI_le (a := 200) z (by omega))))
        obtain ⟨a, s1, s2, s3⟩ := a3.2.2.2.2.2.2.2.2.2.1 0 q0
        have so1 : so < a := by
          rcases a3.2.2.2.2.2.2.2.2.2.2 with z | ⟨z, a', z2, z3, z4⟩
          · omega
          · have := nI_inj (by omega) (by omega) (s1.symm.trans z2)
            omega
        have q9 := a3.2.2.2.2.2.2.2.2.1 0 q0
        have e7 : s 7 (41 * l) = Q 0 := by
          rw [← q9.1, S7 _ _ _ (by decide), Nat.add_zero]
        have er : x3_restOfFirstF c l = nI (a - so) := by
          unfold x3_restOfFirstF
          rw [c2, pk_andN (by omega) 6 rfl, nat_nI (by omega), c5, ← nI_sub (by omega), ← s1]
          have := q9.2.2
          rw [show (hd + 0) % 64 = hd % 2 ^ 6 by omega] at this
          exact congrArg (· - nI so) this
        have es : szo s (s 7 (41 * l)) - s 9 l = nI (a - so) := by
          rw [e7, e9, ← nI_sub (by omega), ← s1]
          rfl
        rw [if_pos (show 0 < left ∧ 0 < s 8 l ∧ s 15 l < 200 from ⟨w0, by rw [e8]; exact nI_lt (a := 0) q0 (by omega), by rw [e15]; exact nI_lt (b := 200) u0 (by decide)⟩), er, es, e1]
        by_cases w2 : s 1 l = 0 ∧ left < nI (a - so)
        · rw [if_pos w2, if_pos w2]
          exact stop
        · rw [if_neg w2, if_neg w2]
          by_cases w3 : nI (a - so) ≤ left
          · have em : minI (nI (a - so)) left = nI (a - so) := if_neg (Int32.not_lt.mpr w3)
            rw [em, if_pos rfl, if_pos w3]
            obtain ⟨q1, rfl⟩ : ∃ q1, q = q1 + 1 := ⟨q - 1, by omega⟩
            obtain ⟨D', hS⟩ := LIw_send hI s1 (by omega) u0 (by omega) hT hT2 (by omega) hn h45
            have hp : s 7 (41 * l) = -2 ∨ On s l (nat (s 7 (41 * l))) := by
              rw [e7]
              rcases a7.1 0 (by omega) (by omega) with y | ⟨p', p1, p2, p3, p4⟩
              · exact Or.inl y
              · right
                rw [p2, nat_nI (by omega)]
                exact p3
            have hF1 : LF l c s (x1_sendFirstF (sbG c l (nI (tl + 1)) (nI (a - so))) l (nI (tl + 1))) (sFF (tkS s l (tl + 1) (nI (a - so))) l) := by
              refine LF_tr (LF_sendF (LF_G (LF_tk (LF_refl l c s) (tl + 1) (nI (a - so))) _ _) _) (LF_sFF (LF_refl l _ _) ?_ ?_)
              · show nat (s 8 l) ≤ 41
                rw [e8, nat_nI (by omega)]
                omega
              · rcases hp with y | y
                · exact Or.inl y
                · exact Or.inr y
            have hcu := a4.2.2.2.2.2.2.2.2.1
            have hrec := snd_loop hT hT2 hn hN d (left - nI (a - so)) (x1_sendFirstF (sbG c l (nI (tl + 1)) (nI (a - so))) l (nI (tl + 1))) (sFF (tkS s l (tl + 1) (nI (a - so))) l) q1 _ _ (u + 1) f uh (cnt + 1) sn (K + 1) _ _ _ D' (by omega) (by omega) ((hF1.2.2.1 0 (by decide) (by decide) ▸ h45 : _)) hS (by rw [mkN_push _ _ (by omega)]; omega)
            obtain ⟨r1, r2, r3⟩ := hrec
            refine ⟨LF_tr hF1 r1, r2.trans ?_, ?_⟩
            · rw [sFF_j _ _ _ (by decide)]
              have x1 : x1_sendFirstF (sbG c l (nI (tl + 1)) (nI (a - so))) l (nI (tl + 1)) 7 l 13 = c 7 l 13 + nI (a - so) := by
                have : Cl (x1_sendFirstF (sbG c l (nI (tl + 1)) (nI (a - so))) l (nI (tl + 1))) l 7 13 = c 7 l 13 + nI (a - so) := by
                  rw [Cl_send, Cl_take]
                  rfl
                exact this
              have x2 : tkS s l (tl + 1) (nI (a - so)) 22 (20 * l + (tl + 1) % 20) = s 22 (20 * l + (tl + 1) % 20) + nI (a - so) := uS_eq _ _ _ _
              rw [x1, x2]
              grind
            · rw [show K + 1 + d = K + (d + 1) by omega] at r3
              exact r3
          · have w4 := Int32.not_le.mp w3
            have em : minI (nI (a - so)) left = left := if_pos w4
            have ne : ¬ left = nI (a - so) := fun z => by
              rw [z] at w4
              exact Int32.lt_irrefl w4
            rw [em, if_neg ne, if_neg w3, show left - left = 0 from Int32.sub_self _, sb_stop _ _ _ d 0 (by decide)]
            obtain ⟨m, m1, m2⟩ := i32_pos (Int32.le_of_lt w0)
            subst m2
            have hm : m < a - so := (nI_ltI m1 (by omega)).mp w4
            refine ⟨LF_G (LF_tk (LF_refl l c s) (tl + 1) (nI m)) _ _, ?_, q, hd, so + m, u, f, uh, cnt, sn, Q, R, M, D, LIw_take hK2 q0 s1 s3 _ m (by omega), hb⟩
            have x1 : sbG c l (nI (tl + 1)) (nI m) 7 l 13 = c 7 l 13 + nI m := uC_eq _ _ _ _ _
            have x2 : tkS s l (tl + 1) (nI m) 22 (20 * l + (tl + 1) % 20) = s 22 (20 * l + (tl + 1) % 20) + nI m := uS_eq _ _ _ _
            show sbG c l (nI (tl + 1)) (nI m) 7 l 13 - tkS s l (tl + 1) (nI m) 22 (20 * l + (tl + 1) % 20) = _
            rw [x1, x2]
            grind
    · rw [if_neg w0, if_neg (fun z => w0 z.1)]
      exact stop
