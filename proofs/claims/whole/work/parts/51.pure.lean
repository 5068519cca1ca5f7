/-! The pure part: coming. -/
def udR (s : SS) (l : Nat) : SS := uS (uS s 14 l (nI ((nat (s 14 l) + 1) % 200))) 15 l (s 15 l - 1)
def tfR (np l : Nat) (s : SS) : SS :=
  if s 13 (200 * l + nat (s 14 l)) &&& 1 = 1 then udR s l
  else if 1 < s 13 (200 * l + nat (s 14 l)) then uS (udR s l) 21 l (udR s l 21 l + 1)
  else comesF np l (s 10 (200 * l + nat (s 14 l))) (s 11 (200 * l + nat (s 14 l))) (udR s l)
theorem cmF_s (np l n : Nat) (s : SS) : cmF np l (n + 1) s = if 0 < s 15 l ∧ s 12 (200 * l + nat (s 14 l)) = s 0 45 then cmF np l n (tfR np l s) else s := by
  rw [cmF]
  by_cases w : 0 < s 15 l ∧ s 12 (200 * l + nat (s 14 l)) = s 0 45
  · rw [if_pos w, if_pos w]
    unfold tfR
    by_cases w1 : s 13 (200 * l + nat (s 14 l)) &&& 1 = 1
    · rw [if_pos w1, if_pos w1]
      rfl
    · rw [if_neg w1, if_neg w1]
      by_cases w2 : 1 < s 13 (200 * l + nat (s 14 l))
      · rw [if_pos w2, if_pos w2]
        rfl
      · rw [if_neg w2, if_neg w2]
        rfl
  · rw [if_neg w, if_neg w]
theorem LF_udR {l : Nat} {c0 c : CS} {s0 s : SS} (h : LF l c0 s0 c s) : LF l c0 s0 c (udR s l) := LF_1 (LF_1 h 14 _ (by decide) (by decide)) 15 _ (by decide) (by decide)
/-- the end of a step that touched the line l and its pieces -/
theorem IV_fin {nl nf np T fn g n : Nat} {A B lo tl lo' tl' : Nat → Nat} {c0 c : CS} {s0 s : SS} (h : IV nl nf np T fn g n A B lo tl c0 s0) {l : Nat} (hl : l < nl) (hN : NL nl nf np T fn g A B c s) (hI : LI T (lo' l) (tl' l) n np l (Cl c l) (Sl s l) s) (h1 : ∀ l', ¬ l' = l → lo' l' = lo l' ∧ tl' l' = tl l') (h2 : ∀ l', ¬ l' = l → Cl c l' = Cl c0 l' ∧ Sl s l' = Sl s0 l') (h3 : s 26 = s0 26) (h4 : ∀ l' p, l' < 8 → p < np → ¬ l' = l → (On s l' p ↔ On s0 l' p)) (h5 : ∀ p, ¬ On s0 l p → s 29 p = s0 29 p) : IV nl nf np T fn g n A B lo' tl' c s := by
  have hnl := IV_nl h
  refine ⟨hN, fun l' hl' => ?_, fun l' l1 l2 j hj k => by rw [(h2 l' (by omega)).2]; exact h.2.2 l' l1 l2 j hj k⟩
  by_cases w : l' = l
  · subst w
    exact hI
  · rw [(h1 l' w).1, (h1 l' w).2, (h2 l' w).1, (h2 l' w).2]
    refine LI_c (h.2.1 l' hl') h3 (fun p hp => h4 l' p (by omega) hp w) (fun p _ ho => h5 p (fun z => w ?_))
    exact nI_inj (by omega) (by omega) (ho.2.symm.trans z.2)
theorem Cl_ar (c : CS) (p f l : Nat) : Cl (arC c p f) l = Cl c l := by
  unfold arC
  rw [Cl_no _ _ _ _ _ (by decide), Cl_bec]
theorem mk_and : ∀ m, m ≤ 3 → ((nI m &&& 1 = 0 ∨ nI m &&& 1 = 1) ∧ (nI m &&& 1 = 0 → (nI m = 0 ∨ nI m = 2)) ∧ (nI m &&& 1 = 1 → ¬ nI m = 0)) := by
  intro m hm
  match m, hm with
  | 0, _ => decide
  | 1, _ => decide
  | 2, _ => decide
  | 3, _ => decide
  | m + 4, h => omega
/-- none is hit -/
theorem noHit {s : SS} {np l q cc cnt : Nat} {Q R : Nat → Int32} (hc : cnt < 2147483648) (hP : CPl s np l 0 q Q cc cnt R) {sn : Nat} (hs : s 17 l = nI sn) (hsn : sn < 2147483648) (hcc : cc < 2147483648) : ∀ p, p < np → hitF s l p (nI cc) = false := by
  intro p hp
  cases e : hitF s l p (nI cc) with
  | false => rfl
  | true =>
    unfold hitF at e
    rw [Bool.and_eq_true, Bool.and_eq_true, Bool.and_eq_true] at e
    obtain ⟨e1, e2, e3, e4⟩ := e
    have e1 := of_decide_eq_true e1
    have e2 := of_decide_eq_true e2
    have e3 := of_decide_eq_true e3
    have e4 := of_decide_eq_true e4
    rcases hP.2.2.2 p hp ⟨e1, e2⟩ with ⟨z, _⟩ | ⟨i, i1, i2, i3, i4⟩
    · rw [z, hs] at e3
      have := nI_pos (n := sn) (by omega)
      exact absurd (Int32.lt_of_le_of_lt e3 (by decide : (-1 : Int32) < 0)) this
    · rw [i3] at e4
      by_cases w : cc = 0
      · rw [w] at e4
        exact absurd (Int32.lt_of_le_of_lt e4 (by decide : nI 0 - 1 < 0)) (nI_pos (by omega))
      · rw [show nI cc - 1 = nI (cc - 1) from nI_sub (b := 1) (by omega)] at e4
        have := (nI_leI (by omega) (by omega)).mp e4
        omega
theorem hit_ok {s : SS} {l p sn i cc : Nat} (hs : s 17 l = nI sn) (ho : On s l p) (h29 : s 29 p = nI i) (h1 : sn ≤ i) (h2 : i < cc) (hc : cc < 2147483648) : hitF s l p (nI cc) = true := by
  unfold hitF
  rw [decide_eq_true ho.1, decide_eq_true ho.2, hs, h29, decide_eq_true (nI_le h1 (by omega)), show nI cc - 1 = nI (cc - 1) from nI_sub (b := 1) (by omega), decide_eq_true (nI_le (show i ≤ cc - 1 by omega) (by omega))]
  rfl
theorem tf_step {nl nf np T fn g n : Nat} {A B lo tl : Nat → Nat} {c : CS} {s : SS} (h : IV nl nf np T fn g n A B lo tl c s) {l u : Nat} (hl : l < nl) (hu : s 15 l = nI (u + 1)) (hu2 : u < 200) (ht20 : tl l ≤ 20000) : IV nl nf np T fn g n A B lo tl (tfS c nf np l) (tfR np l s) ∧ tfR np l s 15 l = nI u := by
  have hnp := IV_np h
  have hnl := IV_nl h
  obtain ⟨q, hd, so, u0, f, uh, cnt, sn, Q, R, M, D, ⟨a1, a2, a3, a4, a5, a6, a7⟩, hb⟩ := h.2.1 l hl
  have eu : u0 = u + 1 := by
    have := a4.1
    rw [S1 _ _ (by decide), hu] at this
    exact (nI_inj (by omega) (by have := a4.2.1; omega) this).symm
  subst eu
  have ef : s 14 l = nI f := by rw [← a4.2.2.1, S1 _ _ (by decide)]
  have hf := a4.2.2.2.1
  have euh : c 13 l 4 = nI uh := a4.2.2.2.2.1
  have huh := a4.2.2.2.2.2.1
  have hcu := a4.2.2.2.2.2.2.2.2.1
  have hcK := a4.2.2.2.2.2.2.2.2.2.1
  obtain ⟨⟨r1, r2, r3, r4⟩, r5, r6, r7, r8⟩ := a4.2.2.2.2.2.2.2.2.2.2.1 0 (by omega)
  rw [Nat.add_zero, Nat.add_zero, show f % 200 = f by omega, SW _ _ (by decide) hf] at r1 r2 r3 r4
  rw [Nat.add_zero, Nat.add_zero, show uh % 256 = uh by omega] at r5 r6 r7 r8
  have en : nat (s 14 l) = f := by rw [ef, nat_nI (by omega)]
  have ei : nat ((c 13 l 4 + 0) &&& 255) = uh := by
    rw [euh, show (0 : Int32) = nI 0 from rfl, an255 (by omega)]
    omega
  have eM : x4_marksOfF c l 0 = M (cnt - (u + 1)) := by
    unfold x4_marksOfF
    rw [ei]
    exact r8
  have eC : x4_countOfF c l 0 = nI (cnt - (u + 1)) := by
    unfold x4_countOfF
    rw [ei]
    exact r6
  have eN : x4_numberOfF c l 0 = R (cnt - (u + 1)) := by
    unfold x4_numberOfF
    rw [ei]
    exact r5
  have b4 := LU_drop a4
  have F1 : LF l c s (x4_dropFirstF c l) (udR s l) := LF_udR (LF_udrop (LF_refl l c s))
  have eCl : Cl (x4_dropFirstF c l) l = udC (Cl c l) := Cl_udrop c l
  have eSl : Sl (udR s l) l = udS (Sl s l) := Sl_udrop s l
  have e15 : udR s l 15 l = nI u := by
    unfold udR
    rw [uS_eq, hu, nI_pred]
  have hmk := mkN_1 M (cnt - (u + 1)) u
  rw [show cnt - (u + 1) + 1 = cnt - u by omega] at hmk
  obtain ⟨m, m1, m2⟩ := a4.2.2.2.2.2.2.2.2.2.2.2.2.2 (cnt - (u + 1)) (Nat.le_refl _) (by omega)
  obtain ⟨k1, k2, k3⟩ := mk_and m m2
  rw [← m1] at k1 k2 k3
  unfold tfS tfR
  rw [en, eM, eC, eN, r1, r2, r4]
  rcases k1 with k1 | k1
  · rw [if_pos k1, if_neg (show ¬ M (cnt - (u + 1)) &&& 1 = 1 by rw [k1]; decide)]
    rcases k2 k1 with z | z
    · rw [z, if_pos (by decide), if_neg (by decide)]
      rw [z, if_pos rfl] at hmk
      generalize hcc : cnt - (u + 1) = cc at *
      have hN1 : NL nl nf np T fn g A B (x4_dropFirstF c l) (udR s l) := NL_c h.1 F1.1 F1.2.2.1
      generalize hc1 : x4_dropFirstF c l = c1 at *
      generalize hs1 : udR s l = s1 at *
      have x0 : c1 7 l 0 = nI l := by
        have : Cl c1 l 7 0 = Cl c l 7 0 := by
          rw [eCl]
          rfl
        exact this.trans a1
      have x12 : c1 7 l 12 = nI sn := by
        have : Cl c1 l 7 12 = Cl c l 7 12 := by
          rw [eCl]
          rfl
        exact this.trans (a2.2.2.2.2.2.2.2.1.trans a5)
      have x14 : c1 7 l 14 = s1 19 l := by
        have e1 : Cl c1 l 7 14 = Cl c l 7 14 := by
          rw [eCl]
          rfl
        have e2 : Sl s1 l 19 0 = Sl s l 19 0 := by
          rw [eSl]
          rfl
        rw [← S1 s1 l (j := 19) (by decide), e2]
        exact e1.trans a2.2.2.2.2.2.2.2.2.2.1
      have y17 : Sl s1 l 17 0 = nI sn := by
        rw [eSl]
        exact a5
      have y17' : s1 17 l = nI sn := by rw [← y17, S1 _ _ (by decide)]
      have P1 : CPl s1 np l 0 q Q sn cnt R := CP_c a7 (fun p _ => LF_On F1 l p) (fun p _ _ => by rw [← hs1]; rfl)
      rw [x12, dI_ii (by omega) (by omega)]
      obtain ⟨s2, g1, g2, g3⟩ := lu_loop (H := fun s q => hitF s l q (nI cc)) (R := R) (Q := Q) (q := q) (kq := 0) (cnt := cnt) hl (by omega) x0 (hit_HP l (nI cc)) (cc - sn) sn c1 s1 (by omega) (LO_refl hN1 x14) P1 (fun i i1 i2 => by
        rw [eCl]
        exact a4.2.2.2.2.2.2.2.2.2.2.2.1 i i1 i2) (fun s' p z1 z2 z3 ⟨i, i1, i2, i3⟩ => by
        refine hit_ok (sn := sn) ?_ z3 i3 i1 (by omega) (by omega)
        rw [← S1 s' l (j := 17) (by decide), z2, y17])
      rw [show sn + (cc - sn) = cc by omega] at g2
      obtain ⟨gN, gO, ⟨x, gx1, gx2⟩, g26, g29, g28, gOn⟩ := g1
      have y2 : s2 17 l = nI sn := by
        rw [← S1 s2 l (j := 17) (by decide), gx2]
        exact y17
      have els : lsF l (nI cc) np s1 = s2 := by
        rw [lsF_g, g3, gF_none]
        exact noHit (by omega) g2 y2 (by omega) (by omega)
      have eif : (if s1 17 l < nI cc then lsF l (nI cc) np s1 else s1) = s2 := by
        by_cases w : s1 17 l < nI cc
        · rw [if_pos w, els]
        · rw [if_neg w, ← els, lsF_g, gF_none]
          rw [y17'] at w
          have hw2 : sn = cc := by
            have := Nat.le_of_not_lt (fun y => w (nI_lt y (by omega)))
            omega
          rw [← hw2]
          exact noHit (by omega) P1 y17' (by omega) (by omega)
      unfold comesF
      dsimp only
      rw [eif, nI_1]
      generalize hc2 : luC np l (cc - sn) (nI sn) c1 = c2 at *
      have F2 : LF l c2 s2 (uC c2 7 l 12 (nI (cc + 1))) (uS s2 17 l (nI (cc + 1))) := LF_1 (LF_uC (LF_refl l c2 s2) _ _ (by decide)) 17 _ (by decide) (by decide)
      have hN3 : NL nl nf np T fn g A B (uC c2 7 l 12 (nI (cc + 1))) (uS s2 17 l (nI (cc + 1))) := NL_c gN F2.1 F2.2.2.1
      have eC3 : Cl (uC c2 7 l 12 (nI (cc + 1))) l = uL (uL (udC (Cl c l)) 7 14 x) 7 12 (nI (cc + 1)) := by
        rw [Cl_own _ _ _ _ (by decide), gx1, eCl]
      have eS3 : Sl (uS s2 17 l (nI (cc + 1))) l = uL (uL (udS (Sl s l)) 19 0 x) 17 0 (nI (cc + 1)) := by
        rw [Sl_own1 _ _ _ (by decide), gx2, eSl]
      have P3 : CPl (uS s2 17 l (nI (cc + 1))) np l 0 q Q cc cnt R := CP_c g2 (fun p _ => LF_On F2 l p) (fun p _ _ => rfl)
      have o26 : s2 26 = s 26 := by rw [g26, ← hs1]; rfl
      have o29 : s2 29 = s 29 := by rw [g29, ← hs1]; rfl
      have oOn : ∀ l' p, l' < 8 → ¬ l' = l → (On s2 l' p ↔ On s l' p) := fun l' p h8 ne => (gOn l' p h8 ne).trans (LF_On F1 l' p)
      have oth : ∀ l', ¬ l' = l → Cl (uC c2 7 l 12 (nI (cc + 1))) l' = Cl c l' ∧ Sl (uS s2 17 l (nI (cc + 1))) l' = Sl s l' := fun l' ne => ⟨(F2.2.1 l' ne).trans ((gO l' ne).1.trans (F1.2.1 l' ne)), (F2.2.2.2.1 l' ne).trans ((gO l' ne).2.trans (F1.2.2.2.1 l' ne))⟩
      have mkI : ∀ (s4 : SS), s4 26 = s 26 → CPl s4 np l 0 q Q (cc + 1) cnt R → LI T (lo l) (tl l) n np l (uL (uL (udC (Cl c l)) 7 14 x) 7 12 (nI (cc + 1))) (uL (uL (udS (Sl s l)) 19 0 x) 17 0 (nI (cc + 1))) s4 := by
        intro s4 e26 hP4
        refine ⟨q, hd, so, u, _, _, cnt, cc + 1, Q, R, M, D, ⟨a1, ?_, ?_, LU_sn b4 (by omega) (by omega), rfl, a6, hP4⟩, by omega⟩
        · obtain ⟨c1', c2', c3', c4', c5', c6', c7', c8', c9', c10', c11⟩ := a2
          exact ⟨c1', c2', c3', c4', c5', c6', c7', rfl, c9', rfl, c11⟩
        · rw [e26]
          exact a3
      have R15 : ∀ s4 : SS, s4 15 = s2 15 → s4 15 l = nI u := by
        intro s4 e4
        rw [e4, ← S1 s2 l (j := 15) (by decide), gx2, ← e15, ← S1 s1 l (j := 15) (by decide)]
        rfl
      rcases P3.2.2.1 cc (Nat.le_refl _) (by omega) with w | ⟨p, p1, p2, p3, p4⟩
      · rw [w, arrive_E, if_pos rfl]
        refine ⟨IV_fin (lo' := lo) (tl' := tl) h hl hN3 ?_ (fun _ _ => ⟨rfl, rfl⟩) oth o26 (fun l' p h8 _ ne => oOn l' p h8 ne) (fun p _ => congrFun o29 p), R15 _ rfl⟩
        rw [eC3, eS3]
        exact mkI _ o26 (CP_outE P3 hnp (by omega) w)
      · rw [p2, if_neg (nI_nem2 (by omega)), nat_nI (by omega)]
        obtain ⟨hN4, fr, efr⟩ := NL_arr hN3 p p1 p3.1
        have o3 : ∀ p', ¬ p' = p → (On (uS (uS s2 17 l (nI (cc + 1))) 23 p 3) l p' ↔ On (uS s2 17 l (nI (cc + 1))) l p') ∧ uS (uS s2 17 l (nI (cc + 1))) 23 p 3 29 p' = uS s2 17 l (nI (cc + 1)) 29 p' := fun p' ne => by
          unfold On
          rw [uS_k _ _ _ ne, uS_j _ _ _ (show ¬ 28 = 23 by decide), uS_j _ _ _ (show ¬ 29 = 23 by decide)]
          exact ⟨Iff.rfl, rfl⟩
        have o4 : ¬ On (uS (uS s2 17 l (nI (cc + 1))) 23 p 3) l p := fun y => by
          have := y.1
          rw [uS_eq] at this
          exact absurd this (by decide)
        refine ⟨IV_fin (lo' := lo) (tl' := tl) h hl hN4 ?_ (fun _ _ => ⟨rfl, rfl⟩) (fun l' ne => ?_) o26 (fun l' p' h8 _ ne => ?_) (fun p _ => congrFun o29 p), R15 _ rfl⟩
        · rw [efr, Cl_ar, Sl_no _ _ _ _ (by decide), eC3, eS3]
          exact mkI _ o26 (CP_out P3 hnp (by omega) (by omega) p1 p2 (fun p' _ ne => o3 p' ne) o4)
        · rw [efr, Cl_ar, Sl_no _ _ _ _ (by decide)]
          exact oth l' ne
        · rw [← oOn l' p' h8 ne]
          unfold On
          rw [uS_j _ _ _ (show ¬ 28 = 23 by decide)]
          by_cases e : p' = p
          · rw [e, uS_eq]
            refine ⟨fun y => absurd y.1 (by decide), fun y => absurd ?_ ne⟩
            exact nI_inj (by omega) (by omega) (y.2.symm.trans p3.2)
          · rw [uS_k _ _ _ e]
            exact Iff.rfl
    · rw [z, if_neg (by decide), if_pos (by decide)]
      rw [z, if_neg (by decide)] at hmk
      refine ⟨IV_LF (lo' := lo) (tl' := tl) h hl (LF_1 (LF_uC F1 _ _ (by decide)) 21 _ (by decide) (by decide)) ?_ (fun _ _ => ⟨rfl, rfl⟩), ?_⟩
      · rw [Cl_own _ _ _ _ (by decide), Sl_own1 _ _ _ (by decide), eCl, eSl]
        refine ⟨q, hd, so, u, _, _, cnt, sn, Q, R, M, D, ⟨a1, ?_, a3, b4, a5, a6, CP_c a7 (fun p _ => LF_On F1 l p) (fun p _ _ => rfl)⟩, by omega⟩
        obtain ⟨c1', c2', c3', c4', c5', c6', c7', c8', c9', c10', c11, c12, c13⟩ := a2
        refine ⟨c1', c2', c3', c4', c5', c6', c7', c8', c9', c10', c11, ?_, c13⟩
        show (x4_dropFirstF c l) 7 l 16 + 1 = udR s l 21 l + 1
        have e1 : Cl (x4_dropFirstF c l) l 7 16 = Cl c l 7 16 := by
          rw [eCl]
          rfl
        have e2 : udR s l 21 l = Sl s l 21 0 := by
          rw [S1 _ _ (by decide)]
          rfl
        rw [e2, ← c12]
        exact congrArg (· + 1) e1
      · rw [uS_j _ _ _ (by decide)]
        exact e15
  · rw [if_neg (show ¬ M (cnt - (u + 1)) &&& 1 = 0 by rw [k1]; decide), if_pos k1]
    rw [if_neg (k3 k1)] at hmk
    refine ⟨IV_LF (lo' := lo) (tl' := tl) h hl F1 ?_ (fun _ _ => ⟨rfl, rfl⟩), e15⟩
    rw [eCl, eSl]
    exact ⟨q, hd, so, u, _, _, cnt, sn, Q, R, M, D, ⟨a1, a2, a3, b4, a5, a6, CP_c a7 (fun p _ => LF_On F1 l p) (fun p _ _ => rfl)⟩, by omega⟩
