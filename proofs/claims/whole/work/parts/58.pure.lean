/-! The pure part: the tray. -/
theorem shr8 (v : BitVec 64) (n : Nat) (h : n ≤ 56) : (v >>> n).setWidth 8 = (v.sshiftRight n).setWidth 8 := by
  apply BitVec.eq_of_getLsbD_eq
  intro i hi
  rw [BitVec.getLsbD_setWidth, BitVec.getLsbD_setWidth, BitVec.getLsbD_ushiftRight, BitVec.getLsbD_sshiftRight]
  have h1 : ¬ (64 ≤ i) := by omega
  have h2 : n + i < 64 := by omega
  simp [h1, h2]
theorem by_eq (w : Int64) (k : Nat) (hk : k < 8) : byC w k = byF w k := by
  unfold byC byF
  congr 3
  rw [Int64.toInt8_toInt32, Int64.toInt8_toInt32]
  apply Int8.toBitVec_inj.mp
  have e1 : ∀ a b : UInt64, (a >>> b).toInt64.toBitVec = a.toBitVec >>> (b.toBitVec % 64).toNat := fun a b => rfl
  have e2 : ∀ a b : Int64, (a >>> b).toBitVec = a.toBitVec.sshiftRight (b.toBitVec.smod 64).toNat := fun a b => rfl
  have e3 : ∀ x : Int64, x.toInt8.toBitVec = x.toBitVec.setWidth 8 := fun x => by
    rw [Int64.toBitVec_toInt8]
    exact BitVec.signExtend_eq_setWidth_of_le _ (by decide)
  rw [e3, e3, e1, e2]
  match k, hk with
  | 0, _ => exact shr8 w.toBitVec 0 (by decide)
  | 1, _ => exact shr8 w.toBitVec 8 (by decide)
  | 2, _ => exact shr8 w.toBitVec 16 (by decide)
  | 3, _ => exact shr8 w.toBitVec 24 (by decide)
  | 4, _ => exact shr8 w.toBitVec 32 (by decide)
  | 5, _ => exact shr8 w.toBitVec 40 (by decide)
  | 6, _ => exact shr8 w.toBitVec 48 (by decide)
  | 7, _ => exact shr8 w.toBitVec 56 (by decide)
  | k + 8, h => omega
theorem byt (x : Int8) : x.toInt32.toInt8.toInt32 = x.toInt32 := by rw [Int8.toInt8_toInt32]
theorem ty_loop {nl nf np T fn g n : Nat} {A B lo tl : Nat → Nat} (w : Int64) : ∀ k t (c : CS) (s : SS), IV nl nf np T fn g n A B lo tl c s → s 0 42 = nI t → t + k ≤ 4000 → k ≤ 8 → IV nl nf np T fn g n A B lo tl (tyC w k c) (tyF w k s)
  | 0, t, c, s, h, _, _, _ => h
  | k + 1, t, c, s, h, ht, hk, hk8 => by
    obtain ⟨b1, b2, b3, b4, b5, b6, b7⟩ := h.1.2.2.2.2.2.2.2.2
    have ec : c 0 0 12 = nI t := b1.trans ht
    rw [tyC, tyF, ec, ht, nat_nI (by omega), by_eq w k (by omega), nI_1]
    refine ty_loop w k (t + 1) _ _ (IV_c2 h (fun a a0 a5 a6 => ?_) (fun j j1 _ _ => ?_) (fun j j0 j1 j2 => ?_) (fun j j1 _ _ => ?_) ?_ ?_) (uS_eq _ _ _ _) (by omega) (by omega)
    · rw [uC_0 _ _ _ _ a0, uC_0 _ _ _ _ a5]
    · rw [uC_k _ _ _ _ _ _ j1, uC_t _ _ _ _ _ _ (by decide)]
    · rw [uS_0 _ _ _ j0, uS_0 _ _ _ j1]
    · rw [uS_k _ _ _ j1, uS_j _ _ _ (by decide)]
    · show c 0 0 14 - c 0 0 14 = s 0 44 - s 0 44
      rw [Int32.sub_self, Int32.sub_self]
    · refine ⟨?_, ⟨t + 1, uS_eq _ _ _ _, by omega⟩, b3, b4, b5, fun j hj => ?_, b7⟩
      · rw [uC_eq, uS_eq]
      · rw [uC_t _ _ _ _ _ _ (by decide), uS_j _ _ _ (by decide)]
        by_cases e : j = t
        · rw [e, uC_eq, uS_eq]
          exact ⟨rfl, byt _⟩
        · rw [uC_k _ _ _ _ _ _ e, uS_k _ _ _ e]
          exact b6 j hj
theorem cl_type {nl nf np n : Nat} {A B : Nat → Nat} {c : CS} {s : SS} (h : IVC nl nf np n A B c s) (w : Int64) (v : Int32) : (x5_typeF c w v).1 = (typeF s w v).1 ∧ IVC nl nf np (n + 1) A B (x5_typeF c w v).2 (typeF s w v).2 := by
  have h0 := h
  obtain ⟨T, fn, g, h⟩ := h
  obtain ⟨b1, ⟨t, b2, b2'⟩, b3, b4, b5, b6, b7⟩ := h.1.2.2.2.2.2.2.2.2
  unfold x5_typeF typeF
  rw [b1]
  by_cases w1 : 1 ≤ v
  · rw [if_pos w1, if_pos w1]
    by_cases w2 : v ≤ 8
    · rw [if_pos w2, if_pos w2]
      by_cases w3 : s 0 42 + v ≤ 4000
      · rw [if_pos w3, if_pos w3]
        obtain ⟨m, m1, m2⟩ := i32_pos (Int32.le_trans (by decide) w1)
        subst m2
        have m8 := (nI_leI (b := 8) m1 (by omega)).mp w2
        rw [b2, nI_add] at w3
        have m9 := (nI_leI (b := 4000) (by omega) (by omega)).mp w3
        rw [nat_nI m1]
        have hI := ty_loop w m t c s h b2 m9 m8
        exact ⟨hI.1.2.2.2.2.2.2.2.2.1, T, fn, g, IV_n hI⟩
      · rw [if_neg w3, if_neg w3]
        exact ⟨rfl, IVC_ref h0 6⟩
    · rw [if_neg w2, if_neg w2]
      exact ⟨rfl, IVC_ref h0 6⟩
  · rw [if_neg w1, if_neg w1]
    exact ⟨rfl, IVC_ref h0 4⟩
theorem gr_loop {t : Nat} (ht : 1 ≤ t) : ∀ d k (c : CS) (s : SS), (∀ j, j < 4000 → c 5 0 j = s 37 j ∧ (s 37 j).toInt8.toInt32 = s 37 j) → s 0 42 = nI k → t ≤ k → k + d ≤ 4000 → (∀ j, j < 4000 → grC t d k c 5 0 j = gwF t d s 37 j ∧ (gwF t d s 37 j).toInt8.toInt32 = gwF t d s 37 j) ∧ gwF t d s 0 42 = nI (k + d) ∧ (∀ a, ¬ a = 5 → grC t d k c a = c a) ∧ (∀ j, ¬ j = 0 → ¬ j = 37 → gwF t d s j = s j) ∧ (∀ j, ¬ j = 42 → gwF t d s 0 j = s 0 j)
  | 0, k, c, s, h, hk, _, _ => ⟨h, hk, fun _ _ => rfl, fun _ _ _ => rfl, fun _ _ => rfl⟩
  | d + 1, k, c, s, h, hk, htk, hd => by
    rw [grC, gwF, hk, nat_nI (by omega), nI_1]
    have hq : ∀ j, j < 4000 → uC c 5 0 k (c 5 0 (k - t)).toInt8.toInt32 5 0 j = uS (uS s 37 k (s 37 (k - t)).toInt8.toInt32) 0 42 (nI (k + 1)) 37 j ∧ (uS (uS s 37 k (s 37 (k - t)).toInt8.toInt32) 0 42 (nI (k + 1)) 37 j).toInt8.toInt32 = uS (uS s 37 k (s 37 (k - t)).toInt8.toInt32) 0 42 (nI (k + 1)) 37 j := by
      intro j hj
      rw [uS_j _ _ _ (by decide)]
      by_cases e : j = k
      · rw [e, uC_eq, uS_eq, (h (k - t) (by omega)).1]
        exact ⟨rfl, byt _⟩
      · rw [uC_k _ _ _ _ _ _ e, uS_k _ _ _ e]
        exact h j hj
    obtain ⟨r1, r2, r3, r4, r5⟩ := gr_loop ht d (k + 1) _ _ hq (uS_eq _ _ _ _) (by omega) (by omega)
    refine ⟨r1, by rw [r2, show k + 1 + d = k + (d + 1) by omega], fun a ha => (r3 a ha).trans (uC_0 _ _ _ _ ha), fun j j0 j1 => (r4 j j0 j1).trans ?_, fun j j1 => (r5 j j1).trans ?_⟩
    · rw [uS_0 _ _ _ j0, uS_0 _ _ _ j1]
    · rw [uS_k _ _ _ j1, uS_j _ _ _ (by decide)]
theorem cl_grow {nl nf np n : Nat} {A B : Nat → Nat} {c : CS} {s : SS} (h : IVC nl nf np n A B c s) (v : Int32) : (x5_growF c v).1 = (growF s v).1 ∧ IVC nl nf np (n + 1) A B (x5_growF c v).2 (growF s v).2 := by
  have h0 := h
  obtain ⟨T, fn, g, h⟩ := h
  obtain ⟨b1, ⟨t, b2, b2'⟩, b3, b4, b5, b6, b7⟩ := h.1.2.2.2.2.2.2.2.2
  unfold x5_growF growF
  rw [b1]
  by_cases w1 : s 0 42 = 0
  · rw [if_pos w1, if_pos w1]
    exact ⟨rfl, IVC_ref h0 3⟩
  · rw [if_neg w1, if_neg w1]
    by_cases w2 : s 0 42 ≤ v
    · rw [if_pos w2, if_pos w2]
      by_cases w3 : v ≤ 4000
      · rw [if_pos w3, if_pos w3]
        refine ⟨rfl, T, fn, g, ?_⟩
        have t1 : 1 ≤ t := Nat.pos_of_ne_zero (fun z => w1 (by rw [b2, z]; rfl))
        rw [b2] at w2
        obtain ⟨m, m1, m2⟩ := i32_pos (Int32.le_trans (nI_pos' (show t < 2 ^ 31 by omega)) w2)
        subst m2
        have m8 := (nI_leI (b := 4000) m1 (by omega)).mp w3
        have m9 := (nI_leI (by omega) m1).mp w2
        rw [b2, nat_nI m1, nat_nI (by omega)]
        obtain ⟨r1, r2, r3, r4, r5⟩ := gr_loop t1 (m - t) t c s b6 b2 (Nat.le_refl _) (by omega)
        show IV nl nf np T fn g (n + 1) A B (fun _ => T + 1) (fun _ => T) (uC (grC t (m - t) t c) 0 0 12 (nI m)) (gwF t (m - t) s)
        refine IV_n (IV_c2 h (fun a a0 a5 a6 => (uC_0 _ _ _ _ a0).trans (r3 a a5)) (fun j j1 _ _ => ?_) (fun j j0 j1 j2 => r4 j j0 j1) (fun j j1 _ _ => r5 j j1) ?_ ?_)
        · show uC (grC t (m - t) t c) 0 0 12 (nI m) 0 0 j = c 0 0 j
          rw [uC_k _ _ _ _ _ _ j1, r3 0 (by decide)]
        · show uC (grC t (m - t) t c) 0 0 12 (nI m) 0 0 14 - c 0 0 14 = gwF t (m - t) s 0 44 - s 0 44
          rw [uC_k _ _ _ _ _ _ (by decide), r3 0 (by decide), r5 44 (by decide), Int32.sub_self, Int32.sub_self]
        · have e13 : grC t (m - t) t c 0 = c 0 := r3 0 (by decide)
          have e6 : grC t (m - t) t c 6 = c 6 := r3 6 (by decide)
          refine ⟨?_, ⟨m, by rw [r2, show t + (m - t) = m by omega], m8⟩, ?_, ?_, ?_, fun j hj => ?_, fun j hj => ?_⟩
          · show uC (grC t (m - t) t c) 0 0 12 (nI m) 0 0 12 = _
            rw [uC_eq, r2, show t + (m - t) = m by omega]
          · show grC t (m - t) t c 0 0 13 = _
            rw [e13, r5 43 (by decide)]
            exact b3
          · rw [r5 43 (by decide)]
            exact b4
          · show grC t (m - t) t c 0 0 14 = _
            rw [e13, r5 44 (by decide)]
            exact b5
          · exact r1 j hj
          · show grC t (m - t) t c 6 0 j = _
            rw [e6, r4 38 (by decide) (by decide)]
            exact b7 j hj
      · rw [if_neg w3, if_neg w3]
        exact ⟨rfl, IVC_ref h0 6⟩
    · rw [if_neg w2, if_neg w2]
      exact ⟨rfl, IVC_ref h0 4⟩
