/-! The pure part: what befalls a line. -/
def oN (o : Option Nat) : Int32 := match o with
  | none => -1
  | some k => nI k
theorem fnF_b {s : SS} {l : Nat} {how : Int32} {f : Nat} : ∀ d k j, fnF s l how f d k = some j → k ≤ j ∧ j < k + d
  | 0, k, j, h => by cases h
  | d + 1, k, j, h => by
    rw [fnF] at h
    split at h
    · cases h
      omega
    · have := fnF_b d (k + 1) j h
      omega
/-- what is under way, in both numbers -/
theorem IV_uw {nl nf np T fn g n : Nat} {A B lo tl : Nat → Nat} {c : CS} {s : SS} (h : IV nl nf np T fn g n A B lo tl c s) {l : Nat} (hl : l < nl) : ∃ u f uh, s 15 l = nI u ∧ u ≤ 200 ∧ s 14 l = nI f ∧ f < 200 ∧ c 13 l 4 = nI uh ∧ uh < 256 ∧ c 13 l 5 = nI u ∧ ∀ k, k < u → c 17 l ((uh + k) % 256) = s 13 (200 * l + (f + k) % 200) ∧ c 14 l ((uh + k) % 256) = s 10 (200 * l + (f + k) % 200) ∧ (s 10 (200 * l + (f + k) % 200) = -2 ∨ ∃ p, p < np ∧ s 10 (200 * l + (f + k) % 200) = nI p) := by
  obtain ⟨q, hd, so, u, f, uh, cnt, sn, Q, R, M, D, ⟨a1, a2, a3, a4, a5, a6, a7⟩, hb⟩ := h.2.1 l hl
  have hcu := a4.2.2.2.2.2.2.2.2.1
  refine ⟨u, f, uh, by rw [← a4.1, S1 _ _ (by decide)], a4.2.1, by rw [← a4.2.2.1, S1 _ _ (by decide)], a4.2.2.2.1, a4.2.2.2.2.1, a4.2.2.2.2.2.1, a4.2.2.2.2.2.2.1, fun k hk => ?_⟩
  obtain ⟨⟨r1, r2, r3, r4⟩, r5, r6, r7, r8⟩ := a4.2.2.2.2.2.2.2.2.2.2.1 k hk
  have hm : (f + k) % 200 < 200 := Nat.mod_lt _ (by decide)
  rw [SW _ _ (by decide) hm] at r1 r4
  rw [r1, r4]
  refine ⟨r8, r5, ?_⟩
  rcases a7.2.2.1 (cnt - u + k) (by omega) (by omega) with z | ⟨p, p1, p2, _⟩
  · exact Or.inl z
  · exact Or.inr ⟨p, p1, p2⟩
theorem fw_eq {c : CS} {s : SS} {l u f uh : Nat} {m : Int32} (hu : u ≤ 200) (huh : uh < 256) (e4 : c 13 l 4 = nI uh) (hk : ∀ k, k < u → c 17 l ((uh + k) % 256) = s 13 (200 * l + (f + k) % 200)) : ∀ d j, j + d = u → fwC c l m d (nI j) = oN (fnF s l m f d j)
  | 0, j, _ => rfl
  | d + 1, j, hj => by
    rw [fwC, fnF, nI_1]
    have e : x4_marksOfF c l (nI j) = s 13 (200 * l + (f + j) % 200) := by
      unfold x4_marksOfF
      rw [e4, an255 (by omega)]
      exact hk j (by omega)
    rw [e]
    by_cases w : s 13 (200 * l + (f + j) % 200) &&& m = 0
    · rw [if_pos w, if_pos w]
      rfl
    · rw [if_neg w, if_neg w]
      exact fw_eq hu huh e4 hk d (j + 1) (by omega)
theorem LF_mark {l : Nat} {c0 c : CS} {s0 s : SS} (h : LF l c0 s0 c s) (k m : Int32) : LF l c0 s0 (x4_markF c l k m) s := LF_uC h _ _ (by decide)
theorem IV_mark {nl nf np T fn g n : Nat} {A B lo tl : Nat → Nat} {c : CS} {s : SS} (h : IV nl nf np T fn g n A B lo tl c s) {l : Nat} (hl : l < nl) {k b u : Nat} (hu : s 15 l = nI u) (hu2 : u ≤ 200) (hk : k < u) (hb : b < 4) : IV nl nf np T fn g (n + 1) A B lo tl (x4_markF c l (nI k) (nI b)) (uS s 13 (wayK s l k) (s 13 (wayK s l k) ||| nI b)) := by
  refine IV_LF (lo' := lo) (tl' := tl) (IV_n h) hl (LF_W (LF_mark (LF_refl l c s) (nI k) (nI b)) 13 _ _ (by decide) (by decide) (Nat.mod_lt _ (by decide))) ?_ (fun _ _ => ⟨rfl, rfl⟩)
  rw [Cl_mark, Sl_mark]
  obtain ⟨q, hd, so, u', f, uh, cnt, sn, Q, R, M, D, ⟨a1, a2, a3, a4, a5, a6, a7⟩, hbd⟩ := h.2.1 l hl
  have e15 : s 15 l = nI u' := by rw [← a4.1, S1 _ _ (by decide)]
  have eu : u' = u := nI_inj (by have := a4.2.1; omega) (by omega) (e15.symm.trans hu)
  subst eu
  refine ⟨q, hd, so, u', f, uh, cnt, sn, Q, R, _, D, ⟨a1, a2, a3, LU_mark a4 k b hk hb, a5, a6, CP_c a7 (fun _ _ => Iff.rfl) (fun _ _ _ => rfl)⟩, ?_⟩
  have := mkN_mark (M := M) (j := cnt - u' + k) (v := M (cnt - u' + k) ||| nI b) (cnt - u') u'
  omega
theorem IV_kind {nl nf np T fn g n : Nat} {A B lo tl : Nat → Nat} {c : CS} {s : SS} (h : IV nl nf np T fn g n A B lo tl c s) {l : Nat} (hl : l < nl) : ∃ a, s 1 l = nI a ∧ a ≤ 3 := by
  obtain ⟨q, hd, so, u, f, uh, cnt, sn, Q, R, M, D, ⟨a1, a2, a3, a4, a5, a6, a7⟩, hb⟩ := h.2.1 l hl
  rw [← S1 s l (j := 1) (by decide)]
  exact a2.2.2.2.2.2.2.2.2.2.2.2.2.1.2
/-- what the class answers, once it found the first one -/
def loseX (c : CS) (l : Nat) (o : Option Nat) : Int32 × CS := match o with
  | none => (-5, refX c 5)
  | some k => if x4_numberOfF (x4_markF c l (nI k) 1) l (nI k) = -2 then (-9, x4_markF c l (nI k) 1) else (x4_numberOfF (x4_markF c l (nI k) 1) l (nI k), x4_markF c l (nI k) 1)
theorem loseX_eq (c : CS) (l : Nat) (o : Option Nat) (ho : ∀ k, o = some k → k < 200) : (if 0 ≤ oN o then (if x4_numberOfF (x4_markF c l (oN o) 1) l (oN o) = -2 then ((-9 : Int32), x4_markF c l (oN o) 1) else (x4_numberOfF (x4_markF c l (oN o) 1) l (oN o), x4_markF c l (oN o) 1)) else (-5, refX c 5)) = loseX c l o := by
  cases o with
  | none => rfl
  | some k =>
    have := ho k rfl
    exact if_pos (nI_pos' (by omega))
theorem lose_x {nl nf np n : Nat} {A B : Nat → Nat} {c : CS} {s : SS} (h : IVC nl nf np n A B c s) {l : Nat} (hl : l < nl) : (loseX c l (fnO s l 1)).1 = (match fnO s l 1 with
    | none => ((-5 : Int32), refuseF s 5)
    | some kj => if nI (wayK s l kj) = -9 then (-5, refuseF s 5) else if s 10 (wayK s l kj) = -2 then (-9, uS s 13 (wayK s l kj) (s 13 (wayK s l kj) ||| 1)) else (s 10 (wayK s l kj), uS s 13 (wayK s l kj) (s 13 (wayK s l kj) ||| 1))).1 ∧ IVC nl nf np (n + 1) A B (loseX c l (fnO s l 1)).2 (match fnO s l 1 with
    | none => ((-5 : Int32), refuseF s 5)
    | some kj => if nI (wayK s l kj) = -9 then (-5, refuseF s 5) else if s 10 (wayK s l kj) = -2 then (-9, uS s 13 (wayK s l kj) (s 13 (wayK s l kj) ||| 1)) else (s 10 (wayK s l kj), uS s 13 (wayK s l kj) (s 13 (wayK s l kj) ||| 1))).2 := by
  cases e : fnO s l 1 with
  | none => exact ⟨rfl, IVC_ref h 5⟩
  | some k =>
    obtain ⟨T, fn, g, h⟩ := h
    obtain ⟨u, f, uh, e1, e2, e3, e4, e5, e6, e7, e8⟩ := IV_uw h hl
    have hnl := IV_nl h
    have hk : k < u := by
      unfold fnO at e
      have := fnF_b _ _ _ e
      rw [e1, nat_nI (by omega)] at this
      omega
    obtain ⟨r1, r2, r3⟩ := e8 k hk
    have ew : wayK s l k = 200 * l + (f + k) % 200 := by
      unfold wayK
      rw [e3, nat_nI (by omega)]
    have en : x4_numberOfF (x4_markF c l (nI k) 1) l (nI k) = s 10 (wayK s l k) := by
      have : x4_numberOfF (x4_markF c l (nI k) 1) l (nI k) = x4_numberOfF c l (nI k) := rfl
      rw [this, ew, ← r2]
      unfold x4_numberOfF
      rw [e5, an255 (by omega)]
    have hI := IV_mark (b := 1) h hl e1 e2 hk (by decide)
    show (if x4_numberOfF (x4_markF c l (nI k) 1) l (nI k) = -2 then ((-9 : Int32), x4_markF c l (nI k) 1) else (x4_numberOfF (x4_markF c l (nI k) 1) l (nI k), x4_markF c l (nI k) 1)).1 = (if nI (wayK s l k) = -9 then ((-5 : Int32), refuseF s 5) else if s 10 (wayK s l k) = -2 then (-9, uS s 13 (wayK s l k) (s 13 (wayK s l k) ||| 1)) else (s 10 (wayK s l k), uS s 13 (wayK s l k) (s 13 (wayK s l k) ||| 1))).1 ∧ IVC nl nf np (n + 1) A B (if x4_numberOfF (x4_markF c l (nI k) 1) l (nI k) = -2 then ((-9 : Int32), x4_markF c l (nI k) 1) else (x4_numberOfF (x4_markF c l (nI k) 1) l (nI k), x4_markF c l (nI k) 1)).2 (if nI (wayK s l k) = -9 then ((-5 : Int32), refuseF s 5) else if s 10 (wayK s l k) = -2 then (-9, uS s 13 (wayK s l k) (s 13 (wayK s l k) ||| 1)) else (s 10 (wayK s l k), uS s 13 (wayK s l k) (s 13 (wayK s l k) ||| 1))).2
    rw [en, if_neg (show ¬ nI (wayK s l k) = -9 from nI_nem9 (by rw [ew]; omega))]
    by_cases w : s 10 (wayK s l k) = -2
    · rw [if_pos w, if_pos w]
      exact ⟨rfl, T, fn, g, hI⟩
    · rw [if_neg w, if_neg w]
      exact ⟨rfl, T, fn, g, hI⟩
theorem cl_lose {nl nf np n : Nat} {A B : Nat → Nat} {c : CS} {s : SS} (h : IVC nl nf np n A B c s) (v : Int32) : (x5_loseF c nl v).1 = (loseOpF nl nf np s v).1 ∧ IVC nl nf np (n + 1) A B (x5_loseF c nl v).2 (loseOpF nl nf np s v).2 := by
  cases e : lnO nl v with
  | none =>
    unfold x5_loseF loseOpF
    rw [e]
    exact ⟨rfl, IVC_ref h 1⟩
  | some l =>
    obtain ⟨ev, hl⟩ := lnO_some e
    have h0 := h
    obtain ⟨T, fn, g, h⟩ := h
    obtain ⟨u, f, uh, e1, e2, e3, e4, e5, e6, e7, e8⟩ := IV_uw h hl
    obtain ⟨a, k1, k2⟩ := IV_kind h hl
    have ek : c 7 l 1 = nI a := (IV_all h hl).1.trans k1
    have ef : fwC c l 1 (dI 0 (c 13 l 5)) 0 = oN (fnO s l 1) := by
      rw [e7, show (0 : Int32) = nI 0 from rfl, dI_ii (by omega) (by omega)]
      unfold fnO
      rw [e1, e3, nat_nI (by omega), nat_nI (by omega)]
      exact fw_eq e2 e6 e5 (fun k hk => (e8 k hk).1) u 0 (by omega)
    have ho : ∀ k, fnO s l 1 = some k → k < 200 := fun k hk => by
      unfold fnO at hk
      have := fnF_b _ _ _ hk
      rw [e1, nat_nI (by omega)] at this
      omega
    have hx := lose_x h0 hl
    unfold x5_loseF loseOpF
    rw [e]
    dsimp only
    rw [ef, ek, k1]
    match a, k2 with
    | 0, _ =>
      rw [if_neg (by decide), if_neg (by decide), if_pos (show nI 0 = 0 from rfl)]
      cases e9 : fnO s l 1 with
      | none => exact ⟨rfl, IVC_ref h0 2⟩
      | some j => exact ⟨rfl, IVC_ref h0 2⟩
    | 1, _ =>
      rw [if_neg (by decide), if_neg (by decide), if_neg (show ¬ nI 1 = 0 by decide), if_pos (show nI 1 = 1 from rfl)]
      cases e9 : fnO s l 1 with
      | none => exact ⟨rfl, IVC_ref h0 2⟩
      | some j => exact ⟨rfl, IVC_ref h0 2⟩
    | 2, _ =>
      rw [if_pos (show nI 2 = 2 from rfl), if_neg (show ¬ nI 2 = 0 by decide), if_neg (show ¬ nI 2 = 1 by decide), loseX_eq _ _ _ ho]
      exact hx
    | 3, _ =>
      rw [if_neg (show ¬ nI 3 = 2 by decide), if_pos (show nI 3 = 3 from rfl), if_neg (show ¬ nI 3 = 0 by decide), if_neg (show ¬ nI 3 = 1 by decide), loseX_eq _ _ _ ho]
      exact hx
    | a + 4, k => exact absurd k (by omega)
theorem cl_bend {nl nf np n : Nat} {A B : Nat → Nat} {c : CS} {s : SS} (h : IVC nl nf np n A B c s) (v i m : Int32) : (x5_bendF c nl np v i m).1 = (bendF nl np s v i m).1 ∧ IVC nl nf np (n + 1) A B (x5_bendF c nl np v i m).2 (bendF nl np s v i m).2 := by
  cases e : lnO nl v with
  | none =>
    unfold x5_bendF bendF
    rw [e]
    exact ⟨rfl, IVC_ref h 1⟩
  | some l =>
    obtain ⟨ev, hl⟩ := lnO_some e
    have h0 := h
    obtain ⟨T, fn, g, h⟩ := h
    obtain ⟨u, f, uh, e1, e2, e3, e4, e5, e6, e7, e8⟩ := IV_uw h hl
    have hnp := IV_np h
    have ef : fwC c l 3 (dI 0 (c 13 l 5)) 0 = oN (fnO s l 3) := by
      rw [e7, show (0 : Int32) = nI 0 from rfl, dI_ii (by omega) (by omega)]
      unfold fnO
      rw [e1, e3, nat_nI (by omega), nat_nI (by omega)]
      exact fw_eq e2 e6 e5 (fun k hk => (e8 k hk).1) u 0 (by omega)
    unfold x5_bendF bendF
    rw [e]
    dsimp only
    rw [ef]
    by_cases w1 : 1 ≤ m
    · by_cases w2 : m ≤ 255
      · cases e9 : fnO s l 3 with
        | none =>
          have t : ¬ (0 : Int32) ≤ oN none := by decide
          cases e10 : lnO np (x4_numberOfF c l (oN none)) with
          | none =>
            dsimp only
            rw [if_pos w1, if_pos w1, if_pos w2, if_pos w2, if_neg t]
            exact ⟨rfl, IVC_ref h0 5⟩
          | some p =>
            dsimp only
            rw [if_pos w1, if_pos w1, if_pos w2, if_pos w2, if_neg t]
            exact ⟨rfl, IVC_ref h0 5⟩
        | some k =>
          have hk : k < u := by
            unfold fnO at e9
            have := fnF_b _ _ _ e9
            rw [e1, nat_nI (by omega)] at this
            omega
          have t : (0 : Int32) ≤ oN (some k) := nI_pos' (by omega)
          obtain ⟨r1, r2, r3⟩ := e8 k hk
          have ew : wayK s l k = 200 * l + (f + k) % 200 := by
            unfold wayK
            rw [e3, nat_nI (by omega)]
          have en : x4_numberOfF c l (oN (some k)) = s 10 (wayK s l k) := by
            rw [ew, ← r2]
            show x4_numberOfF c l (nI k) = _
            unfold x4_numberOfF
            rw [e5, an255 (by omega)]
          rw [en]
          dsimp only
          unfold bendG
          rw [← ew] at r3
          rcases r3 with y | ⟨p, p1, p2⟩
          · rw [y, lnO_neg (by decide)]
            dsimp only
            rw [if_pos w1, if_pos w1, if_pos w2, if_pos w2, if_pos t, if_pos rfl]
            exact ⟨rfl, IVC_ref h0 2⟩
          · obtain ⟨z1, z, z2, z3, z4⟩ := IV_sz h p1
            rw [p2, lnO_nI p1 (by omega), nat_nI (show p < 2147483648 by omega)]
            dsimp only
            rw [if_pos w1, if_pos w1, if_pos w2, if_pos w2, if_pos t, if_neg (nI_nem2 (n := p) (by omega)), z1, z2]
            by_cases y : 0 ≤ i ∧ i ≤ nI z - 1
            · rw [if_neg (nF_1 y)]
              obtain ⟨j, j1, rfl⟩ := (le_pred (by omega) (by omega)).mp y
              rw [if_neg (nI_pos (by omega)), if_pos (nI_lt j1 (by omega))]
              exact ⟨rfl, T, fn, g, IV_mark (b := 2) h hl e1 e2 hk (by decide)⟩
            · rw [if_pos (nF_0 y)]
              rcases i32_neg_or i with x | ⟨j, j1, j2⟩
              · rw [if_pos x]
                exact ⟨rfl, IVC_ref h0 3⟩
              · subst j2
                rw [if_neg (nI_pos j1), if_neg (fun x => y ((le_pred (by omega) (by omega)).mpr ⟨j, (nI_ltI j1 (by omega)).mp x, rfl⟩))]
                exact ⟨rfl, IVC_ref h0 3⟩
      · cases e10 : lnO np (x4_numberOfF c l (oN (fnO s l 3))) with
        | none =>
          dsimp only
          rw [if_pos w1, if_pos w1, if_neg w2, if_neg w2]
          exact ⟨rfl, IVC_ref h0 6⟩
        | some p =>
          dsimp only
          rw [if_pos w1, if_pos w1, if_neg w2, if_neg w2]
          exact ⟨rfl, IVC_ref h0 6⟩
    · cases e10 : lnO np (x4_numberOfF c l (oN (fnO s l 3))) with
      | none =>
        dsimp only
        rw [if_neg w1, if_neg w1]
        exact ⟨rfl, IVC_ref h0 4⟩
      | some p =>
        dsimp only
        rw [if_neg w1, if_neg w1]
        exact ⟨rfl, IVC_ref h0 4⟩
theorem cl_fall {nl nf np n : Nat} {A B : Nat → Nat} {c : CS} {s : SS} (h : IVC nl nf np n A B c s) (v : Int32) : (x5_fallF nl np c v).1 = (fallF nl np s v).1 ∧ IVC nl nf np (n + 1) A B (x5_fallF nl np c v).2 (fallF nl np s v).2 := by
  cases e : lnO nl v with
  | none =>
    unfold x5_fallF fallF
    rw [e]
    exact ⟨rfl, IVC_ref h 1⟩
  | some l =>
    obtain ⟨ev, hl⟩ := lnO_some e
    have h0 := h
    obtain ⟨T, fn, g, h⟩ := h
    have hnp := IV_np h
    have hT := h.1.2.2.2.2.2.2.1.2.2.2.2.2.2.2.2.2
    unfold x5_fallF fallF
    rw [e]
    dsimp only
    rw [(IV_all h hl).2.2.2.1]
    by_cases w : s 4 l = 0
    · rw [if_pos w, if_pos w]
      exact ⟨rfl, IVC_ref h0 5⟩
    · rw [if_neg w, if_neg w]
      obtain ⟨q, hd, so, u, f, uh, cnt, sn, Q, R, M, D, ⟨a1, a2, a3, a4, a5, a6, a7⟩, hb⟩ := h.2.1 l hl
      have c3 : c 10 l 3 = nI q := a3.2.2.2.2.2.1
      have c2 : c 10 l 2 = nI hd := a3.2.2.2.1
      have hh := a3.2.2.2.2.1
      have hq := a3.2.1
      have hcu := a4.2.2.2.2.2.2.2.2.1
      have hcK := a4.2.2.2.2.2.2.2.2.2.1
      have hcK' : cnt ≤ 41 * T := hcK
      have F1 : LF l c s c (uS s 4 l 0) := LF_1 (LF_refl l c s) 4 _ (by decide) (by decide)
      have N1 : NL nl nf np T fn g A B c (uS s 4 l 0) := NL_c h.1 F1.1 F1.2.2.1
      have eS1 : Sl (uS s 4 l 0) l = uL (Sl s l) 4 0 0 := Sl_own1 _ _ _ (by decide)
      have e19 : uS s 4 l 0 19 l = s 19 l := rfl
      have e14 : c 7 l 14 = s 19 l := (IV_all h hl).2.2.2.2.2.2.2.2.2.1
      have P1 : CPl (uS s 4 l 0) np l 0 q Q sn cnt R := CP_c a7 (fun _ _ => Iff.rfl) (fun _ _ _ => rfl)
      obtain ⟨s2, g1, g2, g3⟩ := ql_loop (R := R) (Q := Q) (w := sn) (cnt := cnt) hl (by omega) a1 hh hq c2 (fun k hk => (a3.2.2.2.2.2.2.2.2.1 k hk).2.1) q 0 c (uS s 4 l 0) (by omega) (LO_refl N1 (e14.trans e19.symm)) P1
      have eqd : dI 0 (c 10 l 3) = q := by
        rw [c3, show (0 : Int32) = nI 0 from rfl, dI_ii (by omega) (by omega), Nat.sub_zero]
      unfold faC
      rw [eqd]
      have g1 : LO nl nf np T fn g A B l c (uS s 4 l 0) (qlC np l q 0 c) s2 := g1
      generalize qlC np l q 0 c = c2' at g1 ⊢
      have e12 : c2' 7 l 12 = nI sn := by
        obtain ⟨x, y1, y2⟩ := g1.2.2.1
        have : Cl c2' l 7 12 = Cl c l 7 12 := by
          rw [y1]
          rfl
        exact this.trans (a2.2.2.2.2.2.2.2.1.trans a5)
      have e11 : c2' 7 l 11 = nI cnt := by
        obtain ⟨x, y1, y2⟩ := g1.2.2.1
        have : Cl c2' l 7 11 = Cl c l 7 11 := by
          rw [y1]
          rfl
        exact this.trans (a2.2.2.2.2.2.2.1.trans a4.2.2.2.2.2.2.2.1)
      unfold fdC
      rw [e12, e11, dI_ii (by omega) (by omega)]
      obtain ⟨s3, g4, g5, g6⟩ := lu_loop (H := onB l) (R := R) (Q := Q) (q := q) (kq := q) (cnt := cnt) hl (by omega) a1 (on_HP l) (cnt - sn) sn c2' s2 (by omega) g1 g2 (fun i i1 i2 => a4.2.2.2.2.2.2.2.2.2.2.2.1 i i1 i2) (fun s' p _ _ z3 _ => decide_eq_true z3)
      rw [show sn + (cnt - sn) = cnt by omega] at g5
      have none3 := CP_none g5
      have ef : (flF l np (uS s 4 l 0)).1 = s3 := by
        rw [flF_g, g3, g6, gF_none]
        intro q' hq'
        exact decide_eq_false (none3 q' hq')
      have en := flF_n l (uS s 4 l 0) np
      generalize luC np l (cnt - sn) (nI sn) c2' = c3' at g4 ⊢
      obtain ⟨gN, gO, ⟨x, gx1, gx2⟩, g26, g29, g28, gOn⟩ := g4
      unfold fallG
      rw [en, ef, e19]
      dsimp only
      have F4 : LF l c3' s3 (x1_goDownF c3' l) (uS (uS (uS (uS s3 17 l (s3 16 l)) 8 l 0) 15 l 0) 9 l 0) := LF_1 (LF_1 (LF_1 (LF_1 (LF_uC (LF_uC (LF_uC (LF_uC (LF_uC (LF_uC (LF_refl l c3' s3) _ _ (by decide)) _ _ (by decide)) _ _ (by decide)) _ _ (by decide)) _ _ (by decide)) _ _ (by decide)) 17 _ (by decide) (by decide)) 8 _ (by decide) (by decide)) 15 _ (by decide) (by decide)) 9 _ (by decide) (by decide)
      have eC4 : Cl (x1_goDownF c3' l) l = dnC (uL (Cl c l) 7 14 x) := by rw [Cl_down, gx1]
      have eS4 : Sl (uS (uS (uS (uS s3 17 l (s3 16 l)) 8 l 0) 15 l 0) 9 l 0) l = dnS (uL (uL (Sl s l) 4 0 0) 19 0 x) := by rw [Sl_down, gx2, eS1]
      refine ⟨?_, T, fn, g, IV_fin (lo' := fun _ => T + 1) (tl' := fun _ => T) (IV_n h) hl (NL_c gN F4.1 F4.2.2.1) ?_ (fun _ _ => ⟨rfl, rfl⟩) (fun l' ne => ⟨(F4.2.1 l' ne).trans (gO l' ne).1, (F4.2.2.2.1 l' ne).trans ((gO l' ne).2.trans (F1.2.2.2.1 l' ne))⟩) g26 (fun l' p h8 _ ne => (gOn l' p h8 ne)) (fun p _ => congrFun g29 p)⟩
      · have y1 : x1_goDownF c3' l 7 l 14 = x := by
          have : Cl (x1_goDownF c3' l) l 7 14 = x := by
            rw [eC4]
            rfl
          exact this
        have y2 : s3 19 l = x := by
          rw [← S1 s3 l (j := 19) (by decide), gx2, uL_eq]
        rw [y1, y2, e14]
      · rw [eC4, eS4]
        refine ⟨0, hd, 0, 0, f, uh, cnt, cnt, Q, R, M, D, ⟨a1, ?_, LQ_down (C := uL (Cl c l) 7 14 x) (S := uL (uL (Sl s l) 4 0 0) 19 0 x) (q := q) (so := so) ?_, LU_down (C := uL (Cl c l) 7 14 x) (S := uL (uL (Sl s l) 4 0 0) 19 0 x) a4, a4.2.2.2.2.2.2.2.1, a6, CP_no _ _ _ none3⟩, ?_⟩
        · obtain ⟨b1, b2, b3, b4, b5, b6, b7, b8, b9, b10, b11, b12, b13, b14⟩ := a2
          exact ⟨b1, b2, b3, rfl, b5, b6, b7, b7, b9, rfl, b11, b12, ⟨Or.inl rfl, b13.2⟩, b14⟩
        · show LQv (uL (Cl c l) 7 14 x) (uL (uL (Sl s l) 4 0 0) 19 0 x) (s3 26) q hd so Q
          rw [g26]
          exact a3
        · rw [mkN]
          omega
