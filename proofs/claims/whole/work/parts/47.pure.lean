/-! The pure part: sending. -/
/-- what a line's own step leaves as it is -/
def LF (l : Nat) (c0 : CS) (s0 : SS) (c : CS) (s : SS) : Prop := (∀ t, t < 7 ∨ 17 < t → c t = c0 t) ∧ (∀ l', ¬ l' = l → Cl c l' = Cl c0 l') ∧ (∀ j, j = 0 ∨ 22 < j → ¬ j = 29 → s j = s0 j) ∧ (∀ l', ¬ l' = l → Sl s l' = Sl s0 l') ∧ (∀ p, ¬ On s0 l p → s 29 p = s0 29 p)
theorem LF_refl (l : Nat) (c : CS) (s : SS) : LF l c s c s := ⟨fun _ _ => rfl, fun _ _ => rfl, fun _ _ _ => rfl, fun _ _ => rfl, fun _ _ => rfl⟩
theorem LF_On {l : Nat} {c0 c : CS} {s0 s : SS} (h : LF l c0 s0 c s) (l' p : Nat) : On s l' p ↔ On s0 l' p := by
  unfold On
  rw [h.2.2.1 23 (by decide) (by decide), h.2.2.1 28 (by decide) (by decide)]
theorem LF_tr {l : Nat} {c0 c1 c2 : CS} {s0 s1 s2 : SS} (h1 : LF l c0 s0 c1 s1) (h2 : LF l c1 s1 c2 s2) : LF l c0 s0 c2 s2 :=
  ⟨fun t ht => (h2.1 t ht).trans (h1.1 t ht), fun l' q => (h2.2.1 l' q).trans (h1.2.1 l' q), fun j q r => (h2.2.2.1 j q r).trans (h1.2.2.1 j q r), fun l' q => (h2.2.2.2.1 l' q).trans (h1.2.2.2.1 l' q), fun p q => (h2.2.2.2.2 p (fun z => q ((LF_On h1 l p).mp z))).trans (h1.2.2.2.2 p q)⟩
theorem IV_LF {nl nf np T fn g n : Nat} {A B lo tl lo' tl' : Nat → Nat} {c0 c : CS} {s0 s : SS} (h : IV nl nf np T fn g n A B lo tl c0 s0) {l : Nat} (hl : l < nl) (hf : LF l c0 s0 c s) (hI : LI T (lo' l) (tl' l) n np l (Cl c l) (Sl s l) s) (h1 : ∀ l', ¬ l' = l → lo' l' = lo l' ∧ tl' l' = tl l') : IV nl nf np T fn g n A B lo' tl' c s := by
  have hnl := IV_nl h
  refine ⟨NL_c h.1 hf.1 hf.2.2.1, fun l' hl' => ?_, fun l' l1 l2 j hj k => by rw [hf.2.2.2.1 l' (by omega)]; exact h.2.2 l' l1 l2 j hj k⟩
  by_cases w : l' = l
  · subst w
    exact hI
  · rw [(h1 l' w).1, (h1 l' w).2, hf.2.1 l' w, hf.2.2.2.1 l' w]
    refine LI_c (h.2.1 l' hl') (hf.2.2.1 26 (by decide) (by decide)) (fun p _ => LF_On hf l' p) (fun p _ ho => hf.2.2.2.2 p (fun z => w ?_))
    exact nI_inj (by omega) (by omega) (ho.2.symm.trans z.2)
/-- places of the class's line -/
theorem LF_uC {l : Nat} {c0 c : CS} {s0 s : SS} (h : LF l c0 s0 c s) {t : Nat} (k : Nat) (v : Int32) (ht : 7 ≤ t ∧ t ≤ 17) : LF l c0 s0 (uC c t l k v) s := by
  refine ⟨fun t' ht' => ?_, fun l' q => ?_, h.2.2⟩
  · rw [← h.1 t' ht']
    funext i k'
    exact uC_t _ _ _ _ _ _ (by omega)
  · rw [Cl_i _ _ _ _ q, h.2.1 l' q]
/-- places of the reference's line -/
theorem LF_uS {l : Nat} {c0 c : CS} {s0 s : SS} (h : LF l c0 s0 c s) {j i : Nat} (k : Nat) (v : Int32) (hk : k < wid j) (hj : 0 < j ∧ j ≤ 22) (hi : i = wid j * l + k) : LF l c0 s0 c (uS s j i v) := by
  refine ⟨h.1, h.2.1, fun j' q r => ?_, fun l' q => ?_, fun p q => ?_⟩
  · rw [← h.2.2.1 j' q r]
    funext k'
    exact uS_j _ _ _ (by omega)
  · rw [Sl_i s i v q hk hi, h.2.2.2.1 l' q]
  · rw [uS_j _ _ _ (by omega)]
    exact h.2.2.2.2 p q
theorem LF_1 {l : Nat} {c0 c : CS} {s0 s : SS} (h : LF l c0 s0 c s) (j : Nat) (v : Int32) (hw : wid j = 1) (hj : 0 < j ∧ j ≤ 22) : LF l c0 s0 c (uS s j l v) := LF_uS h 0 v (by omega) hj (by rw [hw]; omega)
theorem LF_W {l : Nat} {c0 c : CS} {s0 s : SS} (h : LF l c0 s0 c s) (j k : Nat) (v : Int32) (hw : wid j = 200) (hj : 0 < j ∧ j ≤ 22) (hk : k < 200) : LF l c0 s0 c (uS s j (200 * l + k) v) := LF_uS h k v (by omega) hj (by rw [hw])
theorem LF_22 {l : Nat} {c0 c : CS} {s0 s : SS} (h : LF l c0 s0 c s) (k : Nat) (v : Int32) (hk : k < 20) : LF l c0 s0 c (uS s 22 (20 * l + k) v) := LF_uS (j := 22) h k v hk (by decide) rfl
theorem LF_29 {l : Nat} {c0 c : CS} {s0 s : SS} (h : LF l c0 s0 c s) (p : Nat) (v : Int32) (hp : On s0 l p) : LF l c0 s0 c (uS s 29 p v) := by
  refine ⟨h.1, h.2.1, fun j' q r => ?_, fun l' q => ?_, fun p' q => ?_⟩
  · rw [← h.2.2.1 j' q r]
    funext k'
    exact uS_j _ _ _ r
  · rw [Sl_no _ _ _ _ (by decide), h.2.2.2.1 l' q]
  · have ne : ¬ p' = p := fun e => q (e ▸ hp)
    rw [uS_k _ _ _ ne]
    exact h.2.2.2.2 p' q
theorem LF_sh {l : Nat} {c0 c : CS} {s0 s : SS} (h : LF l c0 s0 c s) (n : Nat) (hn : n ≤ 41) : LF l c0 s0 c (shF s l n) := by
  refine ⟨h.1, h.2.1, fun j' q r => ?_, fun l' q => ?_, fun p' q => ?_⟩
  · rw [← h.2.2.1 j' q r]
    funext k'
    exact shF_j _ _ _ _ (by omega)
  · rw [← h.2.2.2.1 l' q]
    funext j k
    by_cases a : k < wid j
    · rw [Sl_at _ _ a, Sl_at _ _ a]
      refine if_neg (fun z => q ?_)
      obtain ⟨rfl, z⟩ := z
      have e7 : wid 7 * l' = 41 * l' := rfl
      have e8 : wid 7 = 41 := rfl
      rw [e7] at z
      rw [e8] at a
      omega
    · unfold Sl
      rw [if_neg a, if_neg a]
  · rw [shF_j _ _ _ _ (by decide)]
    exact h.2.2.2.2 p' q
theorem LF_sFF {l : Nat} {c0 c : CS} {s0 s : SS} (h : LF l c0 s0 c s) (h8 : nat (s 8 l) ≤ 41) (hp : s 7 (41 * l) = -2 ∨ On s0 l (nat (s 7 (41 * l)))) : LF l c0 s0 c (sFF s l) := by
  have hk : (nat (s 14 l) + nat (s 15 l)) % 200 < 200 := Nat.mod_lt _ (by decide)
  unfold sFF
  refine LF_1 ?_ 16 _ (by decide) (by decide)
  have b : LF l c0 s0 c (uS (uS (uS (uS (uS (uS (shF (uS s 8 l (s 8 l - 1)) l (nat (s 8 l) - 1)) 9 l 0) 15 l (s 15 l + 1)) 10 (wayF s l) (s 7 (41 * l))) 11 (wayF s l) (s 16 l)) 12 (wayF s l) (s 0 45 + s 3 l)) 13 (wayF s l) 0) :=
    LF_W (LF_W (LF_W (LF_W (LF_1 (LF_1 (LF_sh (LF_1 h 8 _ (by decide) (by decide)) _ (by omega)) 9 _ (by decide) (by decide)) 15 _ (by decide) (by decide)) 10 _ _ (by decide) (by decide) hk) 11 _ _ (by decide) (by decide) hk) 12 _ _ (by decide) (by decide) hk) 13 _ _ (by decide) (by decide) hk
  by_cases w : s 7 (41 * l) = -2
  · rw [if_pos w]
    exact b
  · rw [if_neg w]
    rcases hp with z | z
    · exact absurd z w
    · exact LF_29 b _ _ z
theorem sFF_29 (s : SS) (l p : Nat) : sFF s l 29 p = if s 7 (41 * l) = -2 then s 29 p else if p = nat (s 7 (41 * l)) then s 16 l else s 29 p := by
  unfold sFF
  rw [uS_j _ _ _ (by decide)]
  by_cases w : s 7 (41 * l) = -2
  · rw [if_pos w, if_pos w, uS_j _ _ _ (by decide), uS_j _ _ _ (by decide), uS_j _ _ _ (by decide), uS_j _ _ _ (by decide), uS_j _ _ _ (by decide), uS_j _ _ _ (by decide), shF_j _ _ _ _ (by decide), uS_j _ _ _ (by decide)]
  · rw [if_neg w, if_neg w]
    by_cases e : p = nat (s 7 (41 * l))
    · rw [if_pos e, e, uS_eq]
    · rw [if_neg e, uS_k _ _ _ e, uS_j _ _ _ (by decide), uS_j _ _ _ (by decide), uS_j _ _ _ (by decide), uS_j _ _ _ (by decide), uS_j _ _ _ (by decide), uS_j _ _ _ (by decide), shF_j _ _ _ _ (by decide), uS_j _ _ _ (by decide)]
/-- the class's own steps -/
theorem LF_add {l : Nat} {c0 c : CS} {s0 s : SS} (h : LF l c0 s0 c s) (n z : Int32) : LF l c0 s0 (x3_addF c l n z) s := LF_uC (LF_uC (LF_uC (LF_uC h _ _ (by decide)) _ _ (by decide)) _ _ (by decide)) _ _ (by decide)
theorem LF_G {l : Nat} {c0 c : CS} {s0 s : SS} (h : LF l c0 s0 c s) (t m : Int32) : LF l c0 s0 (sbG c l t m) s := LF_uC (LF_uC (LF_uC h _ _ (by decide)) _ _ (by decide)) _ _ (by decide)
theorem LF_sendF {l : Nat} {c0 c : CS} {s0 s : SS} (h : LF l c0 s0 c s) (t : Int32) : LF l c0 s0 (x1_sendFirstF c l t) s := LF_uC (LF_uC (LF_uC (LF_uC (LF_uC (LF_uC (LF_uC (LF_uC (LF_uC (LF_uC h _ _ (by decide)) _ _ (by decide)) _ _ (by decide)) _ _ (by decide)) _ _ (by decide)) _ _ (by decide)) _ _ (by decide)) _ _ (by decide)) _ _ (by decide)) _ _ (by decide)
theorem LF_udrop {l : Nat} {c0 c : CS} {s0 s : SS} (h : LF l c0 s0 c s) : LF l c0 s0 (x4_dropFirstF c l) s := LF_uC (LF_uC h _ _ (by decide)) _ _ (by decide)
/-- the reference takes bytes of the first one -/
def tkS (s : SS) (l t : Nat) (m : Int32) : SS := uS (uS (uS s 9 l (s 9 l + m)) 18 l (s 18 l + m)) 22 (20 * l + t % 20) (s 22 (20 * l + t % 20) + m)
theorem LF_tk {l : Nat} {c0 c : CS} {s0 s : SS} (h : LF l c0 s0 c s) (t : Nat) (m : Int32) : LF l c0 s0 c (tkS s l t m) := LF_22 (LF_1 (LF_1 h 9 _ (by decide) (by decide)) 18 _ (by decide) (by decide)) _ _ (Nat.mod_lt _ (by decide))
theorem LIw_take {lo K tl np l : Nat} {c : CS} {s : SS} {q hd so u f uh cnt sn : Nat} {Q R M : Nat → Int32} {D : Nat → Nat} (h : LIw (tl + 1) lo K tl np l (Cl c l) (Sl s l) s q hd so u f uh cnt sn 0 sn Q R M D) (hq : 0 < q) {a : Nat} (ha : szr (s 26) (Q 0) = nI a) (ha2 : a ≤ 250) (t : Int32) (m : Nat) (hm : so + m < a) : LIw (tl + 1) lo K tl np l (Cl (sbG c l t (nI m)) l) (Sl (tkS s l (tl + 1) (nI m)) l) (tkS s l (tl + 1) (nI m)) q hd (so + m) u f uh cnt sn 0 sn Q R M D := by
  obtain ⟨a1, a2, a3, a4, a5, a6, a7⟩ := h
  rw [Cl_take]
  unfold tkS
  rw [Sl_take]
  exact ⟨a1, LA_take a2 _ _, LQ_take a3 hq ha ha2 _ _ hm, a4, a5, LG_S (S := uL (uL (Sl s l) 9 0 (Sl s l 9 0 + nI m)) 18 0 (Sl s l 18 0 + nI m)) a6 _, CP_c a7 (fun _ _ => Iff.rfl) (fun _ _ _ => rfl)⟩
theorem LIw_send {lo K tl np l : Nat} {c : CS} {s : SS} {q hd so u f uh cnt sn : Nat} {Q R M : Nat → Int32} {D : Nat → Nat} (h : LIw (tl + 1) lo K tl np l (Cl c l) (Sl s l) s (q + 1) hd so u f uh cnt sn 0 sn Q R M D) {a : Nat} (ha : szr (s 26) (Q 0) = nI a) (hso : so ≤ a) (hu : u < 200) (hw : cnt - sn < 1024) (hT : lo ≤ tl + 2) (hT2 : tl + 1 ≤ 20000) (hK : K < 2147483647) (hn : np ≤ 3000) (h45 : s 0 45 = nI (tl + 1)) : ∃ D', LIw (tl + 1) lo (K + 1) tl np l (Cl (x1_sendFirstF (sbG c l (nI (tl + 1)) (nI (a - so))) l (nI (tl + 1))) l) (Sl (sFF (tkS s l (tl + 1) (nI (a - so))) l) l) (sFF (tkS s l (tl + 1) (nI (a - so))) l) q ((hd + 1) % 64) 0 (u + 1) f uh (cnt + 1) sn 0 sn (fun k => Q (k + 1)) (exN R cnt (Q 0)) (exN M cnt 0) D' := by
  obtain ⟨a1, a2, a3, a4, a5, a6, a7⟩ := h
  have e8 : s 8 l = nI (q + 1) := by rw [← a3.1, S1 _ _ (by decide)]
  have hq40 := a3.2.1
  have e7 : s 7 (41 * l) = Q 0 := by
    rw [← (a3.2.2.2.2.2.2.2.2.1 0 (by omega)).1, S7 _ _ _ (by decide), Nat.add_zero]
  have e16 : s 16 l = nI cnt := by rw [← a4.2.2.2.2.2.2.2.1, S1 _ _ (by decide)]
  have hcK := a4.2.2.2.2.2.2.2.2.2.1
  have e1 : Cl (x1_sendFirstF (sbG c l (nI (tl + 1)) (nI (a - so))) l (nI (tl + 1))) l = sfC (qtC (Cl c l) (nI (a - so))) (nI (tl + 1)) := by rw [Cl_send, Cl_take]
  have t8 : tkS s l (tl + 1) (nI (a - so)) 8 l = s 8 l := rfl
  have t7 : tkS s l (tl + 1) (nI (a - so)) 7 (41 * l) = s 7 (41 * l) := rfl
  have t16 : tkS s l (tl + 1) (nI (a - so)) 16 l = s 16 l := rfl
  have t0 : tkS s l (tl + 1) (nI (a - so)) 0 45 = s 0 45 := rfl
  have t29 : tkS s l (tl + 1) (nI (a - so)) 29 = s 29 := rfl
  have e2 : Sl (sFF (tkS s l (tl + 1) (nI (a - so))) l) l = sfS (qtS (Sl s l) (tl + 1) (nI (a - so))) (nI (tl + 1)) := by
    rw [Sl_send _ _ (by rw [t8, e8, nat_nI (by omega)]; omega), t0, h45]
    unfold tkS
    rw [Sl_take]
  have q9 := a3.2.2.2.2.2.2.2.2.1 0 (by omega)
  obtain ⟨d, d1, d2⟩ := LU_send (C := qtC (Cl c l) (nI (a - so))) (S := qtS (Sl s l) (tl + 1) (nI (a - so))) a4 (hd := hd) (Q := Q) a3.2.2.2.1 a3.2.2.2.2.1 q9.2.1 q9.1 (LA_take a2 _ _) hu hw (by omega) hT2 hK
  refine ⟨exN D cnt (tl + 1 + d), ?_⟩
  rw [e1, e2]
  refine ⟨a1, LA_send (LA_take a2 _ _) _, ?_, d2, a5, ?_, ?_⟩
  · have e26 : sFF (tkS s l (tl + 1) (nI (a - so))) l 26 = s 26 := by
      funext p
      rw [sFF_j _ _ _ (by decide)]
      rfl
    rw [e26]
    exact LQ_send a3 ha hso _ _
  · exact LG_S (S := uL (uL (Sl s l) 9 0 (Sl s l 9 0 + nI (a - so))) 18 0 (Sl s l 18 0 + nI (a - so))) a6 _
  · refine CP_send a7 hn (by have := a4.2.2.2.2.2.2.2.2.1; omega) (by omega) (fun p hp => ?_)
    have o1 : On (sFF (tkS s l (tl + 1) (nI (a - so))) l) l p ↔ On s l p := by
      unfold On
      rw [sFF_j _ _ _ (by decide), sFF_j _ _ _ (by decide)]
      exact Iff.rfl
    refine ⟨o1, fun z => ?_, fun z => ?_⟩
    · rw [sFF_29, t7, t16, t29, e7]
      rcases a7.1 0 (by omega) (by omega) with y | ⟨p', p1, p2, p3, p4⟩
      · rw [if_pos y]
      · rw [p2, nat_nI (by omega), if_neg (nI_nem2 (by omega)), if_neg (fun e => z (by rw [p2, e]))]
    · rw [sFF_29, t7, t16, e7, z, if_neg (nI_nem2 (by omega)), nat_nI (by omega), if_pos rfl, e16]
