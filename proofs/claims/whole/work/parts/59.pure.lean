/-! The pure part: a new line. -/
def zL (f : LN) (t : Nat) : LN := fun t' k' => if t' = t then 0 else f t' k'
theorem Cl_z (c : CS) (t i : Nat) : Cl (zC c t i) i = zL (Cl c i) t := by
  funext t' k'
  unfold Cl zC zL
  dsimp only
  by_cases w : 7 ≤ t' ∧ t' ≤ 17
  · rw [if_pos w, if_pos w]
    by_cases e : t' = t
    · rw [if_pos ⟨e, rfl⟩, if_pos e]
    · rw [if_neg (fun z => e z.1), if_neg e]
  · rw [if_neg w, if_neg w]
    split <;> rfl
/-- the new line's own numbers on the class's side -/
def nlC (C : LN) (n k s d x y : Int32) : LN := uL (uL (uL (zL (zL (zL (zL (zL (zL (zL (zL (zL (zL (uL (uL (uL (uL (zL C 7) 7 0 n) 7 1 k) 7 2 s) 7 3 d) 10) 11) 12) 13) 14) 15) 16) 17) 8) 9) 7 8 1) 7 9 x) 7 10 y
theorem Cl_OC (c : CS) (i : Nat) (k s d : Int32) : Cl (OC c i k s d) i = nlC (Cl c i) (nI i) k s d (if k = 3 then 1000 else 0) (if k = 3 then 4 else 0) := by
  unfold OC LC UC QC
  rw [Cl_no _ _ _ _ _ (by decide)]
  by_cases w : k = 3
  · rw [if_pos w, if_pos w, if_pos w, if_pos w]
    simp only [Cl_own _ _ _ _ (show 7 ≤ 7 ∧ 7 ≤ 17 by decide), Cl_z]
    rfl
  · rw [if_neg w, if_neg w, if_neg w, if_neg w]
    simp only [Cl_own _ _ _ _ (show 7 ≤ 7 ∧ 7 ≤ 17 by decide), Cl_z]
    rfl
theorem OC_o (c : CS) (i : Nat) (k s d : Int32) {t i' k' : Nat} (h : ¬ (i' = i ∧ 7 ≤ t ∧ t ≤ 17)) (h2 : ¬ (t = 0 ∧ i' = 0 ∧ k' = 1)) : OC c i k s d t i' k' = c t i' k' := by
  unfold OC
  rw [uC_ne _ _ h2]
  exact LC_o (Eo_z (by decide) (Eo_r 7 17 i c)) (nI i) k s d t i' k' h
theorem OC_1 (c : CS) (i : Nat) (k s d : Int32) : OC c i k s d 0 0 1 = nI i + 1 := uC_eq _ _ _ _ _
/-- the same on the reference's -/
def opS (s : SS) (nl : Nat) (k v d x y : Int32) : SS := uS (uS (uS (uS (uS (uS (uS s 0 0 (nI nl + 1)) 1 nl k) 2 nl v) 3 nl d) 4 nl 1) 5 nl x) 6 nl y
theorem Sl_op (s : SS) (nl : Nat) (k v d x y : Int32) : Sl (opS s nl k v d x y) nl = uL (uL (uL (uL (uL (uL (Sl s nl) 1 0 k) 2 0 v) 3 0 d) 4 0 1) 5 0 x) 6 0 y := by
  unfold opS
  rw [Sl_own1 _ _ _ (by decide), Sl_own1 _ _ _ (by decide), Sl_own1 _ _ _ (by decide), Sl_own1 _ _ _ (by decide), Sl_own1 _ _ _ (by decide), Sl_own1 _ _ _ (by decide), Sl_no _ _ _ _ (by decide)]
theorem Sl_opO (s : SS) {nl l : Nat} (k v d x y : Int32) (h : ¬ l = nl) : Sl (opS s nl k v d x y) l = Sl s l := by
  unfold opS
  rw [Sl_i1 _ _ (by decide) h, Sl_i1 _ _ (by decide) h, Sl_i1 _ _ (by decide) h, Sl_i1 _ _ (by decide) h, Sl_i1 _ _ (by decide) h, Sl_i1 _ _ (by decide) h, Sl_no _ _ _ _ (by decide)]
theorem op_j (s : SS) (nl : Nat) (k v d x y : Int32) {j : Nat} (h : 6 < j) : opS s nl k v d x y j = s j := by
  unfold opS
  rw [uS_0 _ _ _ (by omega), uS_0 _ _ _ (by omega), uS_0 _ _ _ (by omega), uS_0 _ _ _ (by omega), uS_0 _ _ _ (by omega), uS_0 _ _ _ (by omega), uS_0 _ _ _ (by omega)]
theorem op_0 (s : SS) (nl : Nat) (k v d x y : Int32) {j : Nat} (h : ¬ j = 0) : opS s nl k v d x y 0 j = s 0 j := by
  unfold opS
  rw [uS_j _ _ _ (by decide), uS_j _ _ _ (by decide), uS_j _ _ _ (by decide), uS_j _ _ _ (by decide), uS_j _ _ _ (by decide), uS_j _ _ _ (by decide), uS_k _ _ _ h]
theorem op_00 (s : SS) (nl : Nat) (k v d x y : Int32) : opS s nl k v d x y 0 0 = nI nl + 1 := by
  unfold opS
  rw [uS_j _ _ _ (by decide), uS_j _ _ _ (by decide), uS_j _ _ _ (by decide), uS_j _ _ _ (by decide), uS_j _ _ _ (by decide), uS_j _ _ _ (by decide), uS_eq]
theorem IV_open {nl nf np T fn g n : Nat} {A B : Nat → Nat} {c : CS} {s : SS} (h : IV nl nf np T fn g n A B (fun _ => T + 1) (fun _ => T) c s) (h8 : nl < 8) (a sp dd : Nat) (ha : a ≤ 3) (hs1 : 1 ≤ sp) (hs2 : sp ≤ 1000) (hd1 : 1 ≤ dd) (hd2 : dd ≤ 40) : IV (nl + 1) nf np T fn g n A B (fun _ => T + 1) (fun _ => T) (OC c nl (nI a) (nI sp) (nI dd)) (opS s nl (nI a) (nI sp) (nI dd) (if nI a = 3 then 1000 else 0) (if nI a = 3 then 4 else 0)) := by
  obtain ⟨⟨a1, a2, a3, a4, a5, a6, a7, a8, a9⟩, hL, hZ⟩ := h
  have hnp := a1.1.2.1
  generalize hc' : OC c nl (nI a) (nI sp) (nI dd) = c'
  generalize hs' : opS s nl (nI a) (nI sp) (nI dd) (if nI a = 3 then 1000 else 0) (if nI a = 3 then 4 else 0) = s'
  have ct : ∀ t, t < 7 ∨ 17 < t → ¬ t = 0 → c' t = c t := fun t ht t0 => by
    funext i k
    rw [← hc']
    exact OC_o c nl _ _ _ (by omega) (by omega)
  have c0 : ∀ k, ¬ k = 1 → c' 0 0 k = c 0 0 k := fun k hk => by
    rw [← hc']
    exact OC_o c nl _ _ _ (by omega) (by omega)
  have c1 : c' 0 0 1 = nI (nl + 1) := by rw [← hc', OC_1, nI_1]
  have sj : ∀ j, 6 < j → s' j = s j := fun j hj => by
    rw [← hs']
    exact op_j _ _ _ _ _ _ _ hj
  have s0 : ∀ j, ¬ j = 0 → s' 0 j = s 0 j := fun j hj => by
    rw [← hs']
    exact op_0 _ _ _ _ _ _ _ hj
  have s00 : s' 0 0 = nI (nl + 1) := by rw [← hs', op_00, nI_1]
  have r23 := sj 23 (by decide)
  refine ⟨⟨FX_c a1 (fun p k _ => by rw [ct 18 (by decide) (by decide)]) (fun f k _ => by rw [ct 20 (by decide) (by decide)]) (ct 21 (by decide) (by decide)) (sj _ (by decide)) (sj _ (by decide)) (sj _ (by decide)) (sj _ (by decide)) (sj _ (by decide)) (sj _ (by decide)) (sj _ (by decide)) (sj _ (by decide)) (s0 40 (by decide)), ?_, ?_, ?_, TH_c a5 (fun q => by rw [r23]) (ct 20 (by decide) (by decide)) (sj 34 (by decide)), ?_, ?_, ?_, ?_⟩, fun l hl => ?_, fun l l1 l2 j hj k => ?_⟩
  · unfold DY
    rw [ct 18 (by decide) (by decide), ct 19 (by decide) (by decide), r23, sj 27 (by decide), sj 28 (by decide), sj 30 (by decide)]
    intro p hp
    obtain ⟨b1, b2, b3, b4, b5, b6⟩ := a2 p hp
    refine ⟨b1, b2, b3, b4, b5, fun z => ?_⟩
    obtain ⟨l, l1, l2⟩ := b6 z
    exact ⟨l, by omega, l2⟩
  · intro j hj
    rw [manyF_c r23, ct 4 (by decide) (by decide)]
    exact a3 j hj
  · unfold NW
    rw [r23, sj 30 (by decide), sj 27 (by decide)]
    exact a4
  · unfold GV
    rw [r23]
    exact a6
  · unfold GL
    rw [c1, s00, c0 3 (by decide), c0 4 (by decide), c0 5 (by decide), c0 6 (by decide), c0 8 (by decide), c0 9 (by decide), c0 16 (by decide), s0 32 (by decide), s0 33 (by decide), s0 23 (by decide), s0 45 (by decide)]
    exact ⟨⟨rfl, rfl, h8⟩, a7.2⟩
  · unfold CR
    rw [credF_b r23 (sj 24 (by decide)) (sj 26 (by decide)) (s0 33 (by decide)), c0 14 (by decide), c0 15 (by decide), s0 44 (by decide), Int32.sub_self, Int32.add_zero]
    exact a8
  · unfold TR
    rw [c0 12 (by decide), c0 13 (by decide), c0 14 (by decide), s0 42 (by decide), s0 43 (by decide), s0 44 (by decide), ct 5 (by decide) (by decide), ct 6 (by decide) (by decide), sj 37 (by decide), sj 38 (by decide)]
    exact a9
  · have hOn : ∀ l p, On s' l p ↔ On s l p := fun l p => by
      unfold On
      rw [r23, sj 28 (by decide)]
    by_cases w : l = nl
    · subst w
      have eC : Cl c' l = nlC (Cl c l) (nI l) (nI a) (nI sp) (nI dd) (if nI a = 3 then 1000 else 0) (if nI a = 3 then 4 else 0) := by rw [← hc', Cl_OC]
      have eS : Sl s' l = uL (uL (uL (uL (uL (uL (Sl s l) 1 0 (nI a)) 2 0 (nI sp)) 3 0 (nI dd)) 4 0 1) 5 0 (if nI a = 3 then 1000 else 0)) 6 0 (if nI a = 3 then 4 else 0) := by rw [← hs', Sl_op]
      have Z : ∀ j, 7 ≤ j → ∀ k, Sl s l j k = 0 := hZ l (Nat.le_refl _) h8
      have hno : ∀ p, p < np → ¬ On s' l p := fun p hp z => by
        obtain ⟨y1, y2⟩ := (hOn l p).mp z
        obtain ⟨k, k1, k2⟩ := (a2 p hp).2.2.2.2.2 y1
        have := nI_inj (by omega) (by omega) (k2.symm.trans y2)
        omega
      rw [eC, eS]
      generalize hx : (if nI a = 3 then (1000 : Int32) else 0) = x
      have hy : ∃ b, (if nI a = 3 then (4 : Int32) else 0) = nI b ∧ b ≤ 20 := by
        by_cases y : nI a = 3
        · rw [if_pos y]
          exact ⟨4, rfl, by decide⟩
        · rw [if_neg y]
          exact ⟨0, rfl, by decide⟩
      generalize (if nI a = 3 then (4 : Int32) else 0) = y at hy ⊢
      refine ⟨0, 0, 0, 0, 0, 0, 0, 0, fun _ => 0, fun _ => 0, fun _ => 0, fun _ => 0, ⟨rfl, ?_, ?_, ?_, Z 17 (by decide) 0, ?_, CP_no _ _ _ hno⟩, ?_⟩
      · exact ⟨rfl, rfl, rfl, rfl, rfl, rfl, (Z 16 (by decide) 0).symm, (Z 17 (by decide) 0).symm, (Z 18 (by decide) 0).symm, (Z 19 (by decide) 0).symm, (Z 20 (by decide) 0).symm, (Z 21 (by decide) 0).symm, ⟨Or.inr rfl, a, rfl, ha⟩, ⟨sp, rfl, hs1, hs2⟩, hy⟩
      · exact ⟨Z 8 (by decide) 0, by decide, Z 9 (by decide) 0, rfl, by decide, rfl, rfl, (show (0 : Int32) = 0 - nI 0 by decide), fun k hk => absurd hk (by omega), fun k hk => absurd hk (by omega), Or.inl rfl⟩
      · exact ⟨Z 15 (by decide) 0, by decide, Z 14 (by decide) 0, by decide, rfl, by decide, rfl, Z 16 (by decide) 0, by decide, Nat.zero_le _, fun k hk => absurd hk (by omega), fun i _ hi => absurd hi (by omega), ⟨dd, rfl, hd1, hd2, fun i _ hi => absurd hi (by omega)⟩, fun i _ hi => absurd hi (by omega)⟩
      · refine ⟨fun t _ _ _ => ?_, fun j _ _ => rfl, fun _ => rfl⟩
        exact (Z 22 (by decide) (t % 20)).symm
      · rw [mkN]
        omega
    · have eC : Cl c' l = Cl c l := by
        funext t k
        unfold Cl
        by_cases y : 7 ≤ t ∧ t ≤ 17
        · rw [if_pos y, if_pos y, ← hc']
          exact OC_o c nl _ _ _ (fun z => w z.1) (by omega)
        · rw [if_neg y, if_neg y]
      have eS : Sl s' l = Sl s l := by
        rw [← hs']
        exact Sl_opO _ _ _ _ _ _ w
      rw [eC, eS]
      exact LI_c (hL l (by omega)) (sj 26 (by decide)) (fun p _ => hOn l p) (fun p _ _ => by rw [sj 29 (by decide)])
  · rw [← hs', Sl_opO _ _ _ _ _ _ (by omega)]
    exact hZ l (by omega) l2 j hj k
theorem cl_open {nl nf np n : Nat} {A B : Nat → Nat} {c : CS} {s : SS} (h : IVC nl nf np n A B c s) (k v d : Int32) : (x5_openF nl c k v d).1 = (openF nl nf np s k v d).1 ∧ (((x5_openF nl c k v d).2.2 = false ∧ IVC nl nf np (n + 1) A B (x5_openF nl c k v d).2.1 (openF nl nf np s k v d).2) ∨ ((x5_openF nl c k v d).2.2 = true ∧ nl < 8 ∧ IVC (nl + 1) nf np (n + 1) A B (x5_openF nl c k v d).2.1 (openF nl nf np s k v d).2)) := by
  have h0 := h
  obtain ⟨T, fn, g, h⟩ := h
  have hnl := IV_nl h
  have e00 := (IV_gl h).1
  have hR : ∀ x, IVC nl nf np (n + 1) A B (refX c x) (refuseF s x) := fun x => IVC_ref h0 x
  -- the end of both
  have fin : ∀ a, k = nI a → a ≤ 3 → 1 ≤ v → 1 ≤ d → ¬ 1000 < v → ¬ 40 < d → nl < 8 → IVC (nl + 1) nf np (n + 1) A B (OC c nl k v d) (opS s nl k v d (if k = 3 then 1000 else 0) (if k = 3 then 4 else 0)) := by
    intro a ha ha3 v1 d1 v2 d2 h8
    obtain ⟨sp, sp1, sp2⟩ := i32_pos (Int32.le_trans (by decide) v1)
    obtain ⟨dd, dd1, dd2⟩ := i32_pos (Int32.le_trans (by decide) d1)
    subst ha sp2 dd2
    exact ⟨T, fn, g, IV_n (IV_open h h8 a sp dd ha3 ((nI_leI (a := 1) (by omega) sp1).mp v1) ((nI_leI (b := 1000) sp1 (by omega)).mp (Int32.not_lt.mp v2)) ((nI_leI (a := 1) (by omega) dd1).mp d1) ((nI_leI (b := 40) dd1 (by omega)).mp (Int32.not_lt.mp d2)))⟩
  have R : ∀ (a : Nat), k = nI a → a ≤ 3 → 1 ≤ v → (if 1 ≤ d then (if 1000 < v then ((-6 : Int32), refX c 6, false) else (if 40 < d then ((-6), refX c 6, false) else (if (nI nl) < 8 then (nI nl, OC c nl k v d, true) else ((-6), refX c 6, false)))) else ((-4), refX c 4, false)).1 = (if 1 ≤ d then (if 1000 < v then ((-6 : Int32), refuseF s 6) else (if 40 < d then ((-6), refuseF s 6) else (if s 0 0 = 8 then ((-6), refuseF s 6) else (nI nl, opS s nl k v d (if k = 3 then 1000 else 0) (if k = 3 then 4 else 0))))) else ((-4), refuseF s 4)).1 ∧ ((((if 1 ≤ d then (if 1000 < v then ((-6 : Int32), refX c 6, false) else (if 40 < d then ((-6), refX c 6, false) else (if (nI nl) < 8 then (nI nl, OC c nl k v d, true) else ((-6), refX c 6, false)))) else ((-4), refX c 4, false)).2.2 = false ∧ IVC nl nf np (n + 1) A B (if 1 ≤ d then (if 1000 < v then ((-6 : Int32), refX c 6, false) else (if 40 < d then ((-6), refX c 6, false) else (if (nI nl) < 8 then (nI nl, OC c nl k v d, true) else ((-6), refX c 6, false)))) else ((-4), refX c 4, false)).2.1 (if 1 ≤ d then (if 1000 < v then ((-6 : Int32), refuseF s 6) else (if 40 < d then ((-6), refuseF s 6) else (if s 0 0 = 8 then ((-6), refuseF s 6) else (nI nl, opS s nl k v d (if k = 3 then 1000 else 0) (if k = 3 then 4 else 0))))) else ((-4), refuseF s 4)).2) ∨ ((if 1 ≤ d then (if 1000 < v then ((-6 : Int32), refX c 6, false) else (if 40 < d then ((-6), refX c 6, false) else (if (nI nl) < 8 then (nI nl, OC c nl k v d, true) else ((-6), refX c 6, false)))) else ((-4), refX c 4, false)).2.2 = true ∧ nl < 8 ∧ IVC (nl + 1) nf np (n + 1) A B (if 1 ≤ d then (if 1000 < v then ((-6 : Int32), refX c 6, false) else (if 40 < d then ((-6), refX c 6, false) else (if (nI nl) < 8 then (nI nl, OC c nl k v d, true) else ((-6), refX c 6, false)))) else ((-4), refX c 4, false)).2.1 (if 1 ≤ d then (if 1000 < v then ((-6 : Int32), refuseF s 6) else (if 40 < d then ((-6), refuseF s 6) else (if s 0 0 = 8 then ((-6), refuseF s 6) else (nI nl, opS s nl k v d (if k = 3 then 1000 else 0) (if k = 3 then 4 else 0))))) else ((-4), refuseF s 4)).2))) := by
    intro a ha ha3 v1
    by_cases w1 : 1 ≤ d
    · rw [if_pos w1, if_pos w1]
      by_cases w2 : 1000 < v
      · rw [if_pos w2, if_pos w2]
        exact ⟨rfl, Or.inl ⟨rfl, hR 6⟩⟩
      · rw [if_neg w2, if_neg w2]
        by_cases w3 : 40 < d
        · rw [if_pos w3, if_pos w3]
          exact ⟨rfl, Or.inl ⟨rfl, hR 6⟩⟩
        · rw [if_neg w3, if_neg w3, e00]
          by_cases w4 : nI nl < 8
          · have h8 : nl < 8 := (nI_ltI (b := 8) (by omega) (by omega)).mp w4
            rw [if_pos w4, if_neg (fun z => by
              rw [z] at w4
              exact Int32.lt_irrefl w4)]
            exact ⟨rfl, Or.inr ⟨rfl, h8, fin a ha ha3 v1 w1 w2 w3 h8⟩⟩
          · have h8 : nl = 8 := by
              have : ¬ nl < 8 := fun z => w4 (nI_lt (b := 8) z (by omega))
              omega
            rw [if_neg w4, if_pos (by rw [h8]; rfl)]
            exact ⟨rfl, Or.inl ⟨rfl, hR 6⟩⟩
    · rw [if_neg w1, if_neg w1]
      exact ⟨rfl, Or.inl ⟨rfl, hR 4⟩⟩
  have eop : (if k = 3 then (if k = 3 then (s 0 0, (uS (uS (uS (uS (uS (uS (uS s 0 0 ((s 0 0) + 1)) 1 (nat (s 0 0)) k) 2 (nat (s 0 0)) v) 3 (nat (s 0 0)) d) 4 (nat (s 0 0)) 1) 5 (nat (s 0 0)) 1000) 6 (nat (s 0 0)) 4)) else (s 0 0, (uS (uS (uS (uS (uS (uS (uS s 0 0 ((s 0 0) + 1)) 1 (nat (s 0 0)) k) 2 (nat (s 0 0)) v) 3 (nat (s 0 0)) d) 4 (nat (s 0 0)) 1) 5 (nat (s 0 0)) 1000) 6 (nat (s 0 0)) 0))) else (if k = 3 then (s 0 0, (uS (uS (uS (uS (uS (uS (uS s 0 0 ((s 0 0) + 1)) 1 (nat (s 0 0)) k) 2 (nat (s 0 0)) v) 3 (nat (s 0 0)) d) 4 (nat (s 0 0)) 1) 5 (nat (s 0 0)) 0) 6 (nat (s 0 0)) 4)) else (s 0 0, (uS (uS (uS (uS (uS (uS (uS s 0 0 ((s 0 0) + 1)) 1 (nat (s 0 0)) k) 2 (nat (s 0 0)) v) 3 (nat (s 0 0)) d) 4 (nat (s 0 0)) 1) 5 (nat (s 0 0)) 0) 6 (nat (s 0 0)) 0)))) = (nI nl, opS s nl k v d (if k = 3 then 1000 else 0) (if k = 3 then 4 else 0)) := by
    rw [e00, nat_nI (by omega)]
    unfold opS
    by_cases w : k = 3
    · rw [if_pos w, if_pos w, if_pos w, if_pos w]
    · rw [if_neg w, if_neg w, if_neg w, if_neg w]
  unfold x5_openF openF
  rw [eop]
  by_cases k0 : k < 0
  · rw [if_pos k0, if_pos (nF_0 (fun z => Int32.not_lt.mpr z.1 k0))]
    exact ⟨rfl, Or.inl ⟨rfl, hR 2⟩⟩
  · rw [if_neg k0]
    by_cases k3 : k ≤ 3
    · rw [if_pos k3, if_neg (nF_1 ⟨Int32.not_lt.mp k0, k3⟩)]
      obtain ⟨a, a1, a2⟩ := i32_pos (Int32.not_lt.mp k0)
      have a3 : a ≤ 3 := by
        rw [a2] at k3
        exact (nI_leI (b := 3) a1 (by omega)).mp k3
      by_cases kz : k = 0
      · rw [if_pos kz, if_pos kz]
        by_cases v1 : v < 250
        · rw [if_pos v1, if_pos v1]
          exact ⟨rfl, Or.inl ⟨rfl, hR 4⟩⟩
        · rw [if_neg v1, if_neg v1]
          exact R a a2 a3 (Int32.le_trans (by decide) (Int32.not_lt.mp v1))
      · rw [if_neg kz, if_neg kz]
        by_cases v1 : v < 1
        · rw [if_pos v1, if_pos v1]
          exact ⟨rfl, Or.inl ⟨rfl, hR 4⟩⟩
        · rw [if_neg v1, if_neg v1]
          exact R a a2 a3 (Int32.not_lt.mp v1)
    · rw [if_neg k3, if_pos (nF_0 (fun z => k3 z.2))]
      exact ⟨rfl, Or.inl ⟨rfl, hR 2⟩⟩
