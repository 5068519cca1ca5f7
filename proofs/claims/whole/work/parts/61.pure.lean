/-! The pure part: a new frame, whole. -/
theorem sumF_l {s s' : SS} (a : Nat) : ∀ z, (∀ i, i < z → s' 36 (a + i) = s 36 (a + i)) → sumF s' a z = sumF s a z
  | 0, _ => rfl
  | z + 1, h => by rw [sumF, sumF, sumF_l a z (fun i hi => h i (by omega)), h z (by omega)]
theorem sumZ_l {s s' : SS} (a : Nat) : ∀ z, (∀ i, i < z → s' 26 (a + i) = s 26 (a + i)) → sumZ s' a z = sumZ s a z
  | 0, _ => rfl
  | z + 1, h => by rw [sumZ, sumZ, sumZ_l a z (fun i hi => h i (by omega)), h z (by omega)]
theorem LQ_z {C S : LN} {z z' : Nat → Int32} {q hd so : Nat} {Q : Nat → Int32} (h : LQv C S z q hd so Q) (hz : ∀ k, k < q → szr z' (Q k) = szr z (Q k)) : LQv C S z' q hd so Q := by
  obtain ⟨a1, a2, a3, a4, a5, a6, a7, a8, a9, a10, a11⟩ := h
  refine ⟨a1, a2, a3, a4, a5, a6, a7, ?_, fun k hk => ?_, fun k hk => ?_, ?_⟩
  · rw [a8, sumN_c q (f := fun k => szr z (Q k)) (g := fun k => szr z' (Q k)) (fun k hk => (hz k hk).symm)]
  · rw [hz k hk]
    exact a9 k hk
  · rw [hz k hk]
    exact a10 k hk
  · rcases a11 with y | ⟨y, a, y2, y3⟩
    · exact Or.inl y
    · exact Or.inr ⟨y, a, by rw [hz 0 y]; exact y2, y3⟩
/-- the division that frame() makes -/
theorem cut_n {t q n : Nat} (hn : (t + q - 1) / q = n) (h1 : 1 ≤ q) (ht : 1 ≤ t) : 1 ≤ n ∧ n ≤ t ∧ t ≤ n * q ∧ ∀ k, k < n → k * q < t := by
  have e1 := Nat.div_add_mod (t + q - 1) q
  have e2 := Nat.mod_lt (t + q - 1) (show q > 0 by omega)
  rw [hn, Nat.mul_comm] at e1
  have n1 : 1 ≤ n := by
    refine Nat.pos_of_ne_zero (fun z => ?_)
    rw [z] at e1
    omega
  have key : ∀ k, k < n → k * q < t := by
    intro k hk
    have := Nat.mul_le_mul_right q (show k + 1 ≤ n by omega)
    rw [Nat.add_mul, Nat.one_mul] at this
    omega
  refine ⟨n1, ?_, by omega, key⟩
  have := key (n - 1) (by omega)
  have h3 := Nat.mul_le_mul_left (n - 1) h1
  rw [Nat.mul_one] at h3
  omega
theorem manyF_fr {s s' : SS} {np : Nat} (v : Int32) (h1 : ∀ p, p < np → s' 23 p = s 23 p) : ∀ n, (∀ p, np ≤ p → p < np + n → s' 23 p = 0) → manyF s' v (np + n) = manyF s v np + (if v = 0 then nI n else 0)
  | 0, _ => by
    have : ∀ k, k ≤ np → manyF s' v k = manyF s v k := by
      intro k
      induction k with
      | zero => exact fun _ => rfl
      | succ k ih =>
        intro hk
        rw [manyF, manyF, ih (by omega), h1 k (by omega)]
    show manyF s' v np = _
    rw [this np (Nat.le_refl _)]
    split
    · exact (Int32.add_zero _).symm
    · exact (Int32.add_zero _).symm
  | n + 1, h => by
    rw [← Nat.add_assoc, manyF, manyF_fr v h1 n (fun p p1 p2 => h p p1 (by omega)), h (np + n) (by omega) (by omega)]
    by_cases w : v = 0
    · rw [if_pos w, if_pos w, w, if_pos rfl, ← nI_1]
      generalize manyF s 0 np = x
      generalize nI n = y
      grind
    · rw [if_neg w, if_neg w, if_neg (fun z => w z.symm)]
      generalize manyF s v np = x
      grind
theorem credF_fr {s s' : SS} {np : Nat} (h1 : ∀ p, p < np → s' 23 p = s 23 p ∧ s' 24 p = s 24 p ∧ s' 26 p = s 26 p) (h33 : s' 0 33 = s 0 33) (h44 : s' 0 44 = s 0 44) : ∀ n, (∀ p, np ≤ p → p < np + n → s' 23 p = 0) → credF s' (np + n) = credF s np
  | 0, _ => by
    have : ∀ k, k ≤ np → credF s' k = credF s k := by
      intro k
      induction k with
      | zero =>
        intro _
        rw [credF, credF, h44]
      | succ k ih =>
        intro hk
        obtain ⟨e1, e2, e3⟩ := h1 k (by omega)
        rw [credF, credF, ih (by omega), e1, e2, e3, h33]
    exact this np (Nat.le_refl _)
  | n + 1, h => by
    rw [← Nat.add_assoc, credF, credF_fr h1 h33 h44 n (fun p p1 p2 => h p p1 (by omega)), if_neg (fun z => z.1 (h (np + n) (by omega) (by omega))), Int32.sub_zero]
theorem cntTF_0 {s : SS} {a : Nat} : ∀ n, (∀ p, a ≤ p → p < a + n → s 23 p = 0) → cntTF s a n = 0
  | 0, _ => rfl
  | n + 1, h => by
    rw [cntTF, cntTF_0 n (fun p p1 p2 => h p p1 (by omega)), h (a + n) (by omega) (by omega), if_neg (by decide), Int32.add_zero]
/-- the size of the k-th piece, as the reference has it -/
theorem zK_eq {t q n k : Nat} (h1 : 1 ≤ q) (hq : q ≤ 250) (ht : t ≤ 4000) (hn : n ≤ 4000) (hk : k < n) (hnq : t ≤ n * q) (hkt : ∀ k, k < n → k * q < t) : (if nI k < nI n - 1 then nI q else nI t - nI k * nI q) = nI (zK t q k) := by
  have k0 := hkt k hk
  rw [show nI n - 1 = nI (n - 1) from nI_sub (b := 1) (by omega), nI_mul, nI_sub (by omega)]
  unfold zK
  by_cases w : k < n - 1
  · have := hkt (k + 1) (by omega)
    rw [Nat.add_mul, Nat.one_mul] at this
    rw [if_pos (nI_lt w (by omega)), if_neg (by omega)]
  · have e : n = k + 1 := by omega
    rw [e, Nat.add_mul, Nat.one_mul] at hnq
    rw [if_neg (nI_nlt (by omega) (by omega))]
    by_cases y : t - k * q < q
    · rw [if_pos y]
    · rw [if_neg y, show t - k * q = q by omega]
theorem sumZ_fr {s : SS} {np t q n : Nat} (hkt : ∀ k, k < n → k * q < t) (h : ∀ k, k < n → s 26 (np + k) = nI (zK t q k)) : ∀ j, j ≤ n → sumZ s np j = nI (min (j * q) t)
  | 0, _ => by
    rw [Nat.zero_mul, Nat.zero_min]
    rfl
  | j + 1, hj => by
    have k0 := hkt j (by omega)
    rw [sumZ, sumZ_fr hkt h j (by omega), h j (by omega), nI_add, Nat.add_mul, Nat.one_mul]
    unfold zK
    by_cases y : t - j * q < q
    · rw [if_pos y, show min (j * q) t + (t - j * q) = min (j * q + q) t by omega]
    · rw [if_neg y, show min (j * q) t + q = min (j * q + q) t by omega]
theorem IV_frame {nl nf np T fn g n : Nat} {A B : Nat → Nat} {c c2 : CS} {s : SS} {t q m : Nat} (h : IV nl nf np T fn g n A B (fun _ => T + 1) (fun _ => T) c s) (ht : s 0 42 = nI t) (t1 : 1 ≤ t) (t2 : t ≤ 4000) (hq : s 0 43 = nI q) (q1 : 1 ≤ q) (q2 : q ≤ 250) (hm : (t + q - 1) / q = m) (hf : nf < 300) (hp : np + m ≤ 3000) (hE : Eo 21 21 nf (zC c 20 nf) c2) (hY : ∀ k, k < t → c2 21 nf k = c 5 0 k) : IV nl (nf + 1) (np + m) T fn g n (exN A (nf + 1) (np + m)) (exN B (nf + 1) (B nf + t)) (fun _ => T + 1) (fun _ => T) (FRC c2 nf np m t) (uS (frH s nf np m (B nf) t) 0 42 0) := by
  obtain ⟨⟨a1, a2, a3, a4, a5, a6, a7, a8, a9⟩, hL, hZ⟩ := h
  have hBn := FX_B a1 nf (Nat.le_refl _)
  obtain ⟨m1, mt, mq, mk⟩ := cut_n hm q1 t1
  have hAn : A nf = np := a1.1.2.2.2.1
  have hA : ∀ f, f < nf → A f < A (f + 1) := fun f hf => (a1.2.1 f hf).1
  have hB : ∀ f, f < nf → B f < B (f + 1) := fun f hf => (a1.2.1 f hf).2.1
  -- the class's side
  have z2 : ∀ t i k, ¬ (i = nf ∧ t = 21) → ¬ (t = 20 ∧ i = nf) → c2 t i k = c t i k := fun t i k w w2 => (hE t i k (fun z => w ⟨z.1, by omega⟩)).trans (zC_ne _ _ w2)
  have z20 : ∀ k, c2 20 nf k = 0 := fun k => (hE 20 nf k (fun z => by omega)).trans (zC_eq _ _ _ _)
  generalize hcF : FCc c2 nf t (nI np) (nI m) = cF
  have f_t : ∀ t i k, ¬ (t = 20 ∧ i = nf) → cF t i k = c2 t i k := fun t' i k w => by
    rw [← hcF]
    unfold FCc
    rw [uC_ne _ _ (fun z => w ⟨z.1, z.2.1⟩), uC_ne _ _ (fun z => w ⟨z.1, z.2.1⟩), uC_ne _ _ (fun z => w ⟨z.1, z.2.1⟩), uC_ne _ _ (fun z => w ⟨z.1, z.2.1⟩)]
  have f1 : cF 20 nf 1 = nI t := by
    rw [← hcF]
    unfold FCc
    rw [uC_k _ _ _ _ _ _ (by decide), uC_k _ _ _ _ _ _ (by decide), uC_k _ _ _ _ _ _ (by decide), uC_eq]
  have f2 : cF 20 nf 2 = nI np := by
    rw [← hcF]
    unfold FCc
    rw [uC_k _ _ _ _ _ _ (by decide), uC_k _ _ _ _ _ _ (by decide), uC_eq]
  have f3 : cF 20 nf 3 = nI m := by
    rw [← hcF]
    unfold FCc
    rw [uC_k _ _ _ _ _ _ (by decide), uC_eq]
  have f4 : cF 20 nf 4 = 0 := by
    rw [← hcF]
    unfold FCc
    rw [uC_k _ _ _ _ _ _ (by decide), uC_k _ _ _ _ _ _ (by decide), uC_k _ _ _ _ _ _ (by decide), uC_k _ _ _ _ _ _ (by decide)]
    exact z20 4
  have f5 : cF 20 nf 5 = -9 := by
    rw [← hcF]
    unfold FCc
    rw [uC_eq]
  have f00 : ∀ k, cF 0 0 k = c 0 0 k := fun k => (f_t 0 0 k (by omega)).trans (z2 0 0 k (by omega) (by omega))
  have hPB : PB cF nf q t m (fun i => s 37 i) := by
    refine ⟨(f00 3).trans a7.2.1.1, (f00 13).trans (a9.2.2.1.trans hq), f1, f3, fun i hi => ?_⟩
    rw [f_t 21 nf i (by omega), hY i hi]
    exact (a9.2.2.2.2.2.1 i (by omega)).1
  have hPV := PCf_at t2 q1 q2 (show m ≤ 4000 by omega) mk m np 0 cF hPB (by omega)
  generalize hcP : PCf nf m np 0 cF = cP at hPV
  have P_o : ∀ {t i k}, (¬ t = 0 ∧ ¬ t = 4 ∧ ¬ (np ≤ i ∧ 18 ≤ t ∧ t ≤ 19)) → cP t i k = cF t i k := fun w => by
    rw [← hcP]
    exact PCf_o nf m np 0 cF w
  have P_0 : ∀ k, ¬ k = 8 → cP 0 0 k = c 0 0 k := fun k w => by
    rw [← hcP, PCf_0 nf w]
    exact f00 k
  have P_8 : cP 0 0 8 = nI (np + m) := by
    rw [← hcP]
    exact PCf_8 m np 0 cF ((f00 8).trans a7.2.2.2.2.2.1.1)
  have P_4 : ∀ j, cP 4 0 j = if j = 0 then c 4 0 0 + nI m else c 4 0 j := fun j => by
    rw [← hcP, PCf_4]
    have e : ∀ j, cF 4 0 j = c 4 0 j := fun j => (f_t 4 0 j (by omega)).trans (z2 4 0 j (by omega) (by omega))
    rw [e, e]
  have eFRC : FRC c2 nf np m t = uC (uC cP 0 0 3 (nI nf + 1)) 0 0 12 0 := by
    unfold FRC
    rw [hcF, hcP]
  rw [eFRC]
  generalize hc3 : uC (uC cP 0 0 3 (nI nf + 1)) 0 0 12 0 = c3
  have C_t : ∀ {t}, ¬ t = 0 → c3 t = cP t := fun {t} w => by
    rw [← hc3, uC_0 _ _ _ _ w, uC_0 _ _ _ _ w]
  have C_0 : ∀ k, ¬ k = 3 → ¬ k = 8 → ¬ k = 12 → c3 0 0 k = c 0 0 k := fun k w w2 w3 => by
    rw [← hc3, uC_k _ _ _ _ _ _ w3, uC_k _ _ _ _ _ _ w]
    exact P_0 k w2
  have C_3 : c3 0 0 3 = nI (nf + 1) := by rw [← hc3, uC_k _ _ _ _ _ _ (by decide), uC_eq, nI_1]
  have C_8 : c3 0 0 8 = nI (np + m) := by
    rw [← hc3, uC_k _ _ _ _ _ _ (by decide), uC_k _ _ _ _ _ _ (by decide)]
    exact P_8
  have C_12 : c3 0 0 12 = 0 := by rw [← hc3, uC_eq]
  have old : ∀ t i k, ¬ t = 0 → ¬ t = 4 → ¬ (np ≤ i ∧ 18 ≤ t ∧ t ≤ 19) → ¬ (t = 20 ∧ i = nf) → ¬ (i = nf ∧ t = 21) → c3 t i k = c t i k := fun t i k w0 w4 w18 w20 w21 => by
    rw [C_t w0, P_o ⟨w0, w4, w18⟩, f_t t i k w20, z2 t i k w21 w20]
  have new20 : ∀ k, c3 20 nf k = cF 20 nf k := fun k => by
    rw [C_t (by decide), P_o ⟨by decide, by decide, by omega⟩]
  have new21 : ∀ k, k < t → c3 21 nf k = s 37 k := fun k hk => by
    rw [C_t (by decide), P_o ⟨by decide, by decide, by omega⟩, f_t 21 nf k (by omega), hY k hk]
    exact (a9.2.2.2.2.2.1 k (by omega)).1
  -- the reference's side
  have h40 : s 0 40 = nI (B nf) := a1.1.2.2.2.2.2
  have g40 : frG s nf (nI m) 0 40 = nI (B nf) := h40
  have g43 : frG s nf (nI m) 0 43 = nI q := hq
  have g42 : frG s nf (nI m) 0 42 = nI t := ht
  have pat := pcF_at (f := nf) (p := np) (n := m) (frG s nf (nI m)) g40 g43 g42 m
  unfold frH
  generalize hs2 : pcF nf np m m (frG s nf (nI m)) = s2 at pat
  have s2j : ∀ {j x}, (¬ j = 23 ∧ ¬ j = 24 ∧ ¬ j = 25 ∧ ¬ j = 26 ∧ ¬ j = 28 ∧ ¬ j = 29) → ¬ (j = 0 ∧ x = 23) → s2 j x = frG s nf (nI m) j x := fun w w2 => by
    rw [← hs2]
    exact pcF_j nf np m _ _ w w2 m
  have s2_23 : s2 0 23 = nI (np + m) := by
    rw [← hs2]
    exact pcF_23 nf np m (frG s nf (nI m)) (show frG s nf (nI m) 0 23 = nI np from a7.2.2.2.2.2.1.2) m
  have s2_40 : s2 0 40 = nI (B nf) := (s2j (by decide) (by decide)).trans g40
  have b36 := btF_36 (B nf) s2 t
  have b40 := btF_40 (B nf) s2 s2_40 t
  have bj : ∀ {j x}, ¬ j = 36 → ¬ (j = 0 ∧ x = 40) → btF (B nf) t s2 j x = s2 j x := fun w w2 => btF_j (B nf) s2 _ w w2 t
  generalize btF (B nf) t s2 = s3 at b36 b40 bj
  have U0 : ∀ {j}, ¬ j = 0 → uS s3 0 42 0 j = s3 j := fun w => uS_0 _ _ _ w
  have Uk : ∀ {k}, ¬ k = 42 → uS s3 0 42 0 0 k = s3 0 k := fun w => uS_k _ _ _ w
  have U42 : uS s3 0 42 0 0 42 = 0 := uS_eq _ _ _ _
  generalize uS s3 0 42 0 = s4 at U0 Uk U42
  -- rows
  have rj : ∀ {j}, (¬ j = 0 ∧ ¬ j = 36 ∧ ¬ j = 23 ∧ ¬ j = 24 ∧ ¬ j = 25 ∧ ¬ j = 26 ∧ ¬ j = 28 ∧ ¬ j = 29) → ∀ x, s4 j x = frG s nf (nI m) j x := fun {j} w x => by
    rw [U0 w.1, bj w.2.1 (fun z => w.1 z.1), s2j w.2.2 (fun z => w.1 z.1)]
  have r1 : ∀ {j}, (¬ j = 0 ∧ ¬ j = 36 ∧ ¬ j = 23 ∧ ¬ j = 24 ∧ ¬ j = 25 ∧ ¬ j = 26 ∧ ¬ j = 28 ∧ ¬ j = 29) → ¬ (31 ≤ j ∧ j ≤ 35) → s4 j = s j := fun {j} w w2 => by
    funext x
    rw [rj w x]
    unfold frG
    rw [uS_j _ _ _ (by omega), uS_j _ _ _ (by omega), uS_j _ _ _ (by omega), uS_j _ _ _ (by omega), uS_j _ _ _ (by omega), uS_j _ _ _ (by omega)]
  have rp : ∀ {j x}, ¬ j = 0 → ¬ j = 36 → s4 j x = s2 j x := fun {j x} w w2 => by rw [U0 w, bj w2 (fun z => w z.1)]
  have gp : ∀ {j}, 36 < j ∨ (0 < j ∧ j < 31) → frG s nf (nI m) j = s j := fun {j} w => by
    unfold frG
    rw [uS_0 _ _ _ (by omega), uS_0 _ _ _ (by omega), uS_0 _ _ _ (by omega), uS_0 _ _ _ (by omega), uS_0 _ _ _ (by omega), uS_0 _ _ _ (by omega)]
  have g00 : ∀ {k}, ¬ k = 32 → frG s nf (nI m) 0 k = s 0 k := fun {k} w => by
    unfold frG
    rw [uS_j _ _ _ (by decide), uS_j _ _ _ (by decide), uS_j _ _ _ (by decide), uS_j _ _ _ (by decide), uS_j _ _ _ (by decide), uS_k _ _ _ w]
  have r00 : ∀ {k}, ¬ k = 42 → ¬ k = 40 → ¬ k = 23 → ¬ k = 32 → s4 0 k = s 0 k := fun {k} w w2 w3 w4 => by
    rw [Uk w, bj (by decide) (fun z => w2 z.2), s2j (by decide) (fun z => w3 z.2), g00 w4]
  have r32 : s4 0 32 = nI (nf + 1) := by
    rw [Uk (by decide), bj (by decide) (by decide), s2j (by decide) (by decide)]
    show s 0 32 + 1 = _
    rw [a7.2.1.2, nI_1]
  have r23' : s4 0 23 = nI (np + m) := by
    rw [Uk (by decide), bj (by decide) (by decide)]
    exact s2_23
  have r40 : s4 0 40 = nI (B nf + t) := by
    rw [Uk (by decide)]
    exact b40
  have o23 : ∀ p, p < np → s4 23 p = s 23 p := fun p w => by
    rw [rp (by decide) (by decide), (pat p).1, if_neg (by omega), gp (by decide)]
  have o24 : ∀ p, p < np → s4 24 p = s 24 p := fun p w => by
    rw [rp (by decide) (by decide), (pat p).2.1, if_neg (by omega), gp (by decide)]
  have o25 : ∀ p, p < np → s4 25 p = s 25 p := fun p w => by
    rw [rp (by decide) (by decide), (pat p).2.2.1, if_neg (by omega), gp (by decide)]
  have o26 : ∀ p, p < np → s4 26 p = s 26 p := fun p w => by
    rw [rp (by decide) (by decide), (pat p).2.2.2.1, if_neg (by omega), gp (by decide)]
  have o28 : ∀ p, p < np → s4 28 p = s 28 p := fun p w => by
    rw [rp (by decide) (by decide), (pat p).2.2.2.2.1, if_neg (by omega), gp (by decide)]
  have o29 : ∀ p, p < np → s4 29 p = s 29 p := fun p w => by
    rw [rp (by decide) (by decide), (pat p).2.2.2.2.2, if_neg (by omega), gp (by decide)]
  have n23 : ∀ p, np ≤ p → p < np + m → s4 23 p = 0 := fun p w w2 => by
    rw [rp (by decide) (by decide), (pat p).1, if_pos ⟨w, w2⟩]
  have n24 : ∀ p, np ≤ p → p < np + m → s4 24 p = nI nf := fun p w w2 => by
    rw [rp (by decide) (by decide), (pat p).2.1, if_pos ⟨w, w2⟩]
  have n25 : ∀ k, k < m → s4 25 (np + k) = nI (B nf + k * q) := fun k w => by
    rw [rp (by decide) (by decide), (pat (np + k)).2.2.1, if_pos (by omega), show np + k - np = k by omega, nI_mul, nI_add]
  have n26 : ∀ k, k < m → s4 26 (np + k) = nI (zK t q k) := fun k w => by
    rw [rp (by decide) (by decide), (pat (np + k)).2.2.2.1, if_pos (by omega), show np + k - np = k by omega]
    exact zK_eq q1 q2 t2 (by omega) w mq mk
  have n28 : ∀ p, np ≤ p → p < np + m → s4 28 p = -9 := fun p w w2 => by
    rw [rp (by decide) (by decide), (pat p).2.2.2.2.1, if_pos ⟨w, w2⟩]
  have r27 : s4 27 = s 27 := r1 (by decide) (by decide)
  have r30 : s4 30 = s 30 := r1 (by decide) (by decide)
  have r37 : s4 37 = s 37 := r1 (by decide) (by decide)
  have o36 : ∀ i, i < B nf → s4 36 i = s 36 i := fun i w => by
    rw [U0 (by decide), b36, if_neg (by omega), s2j (by decide) (by omega)]
    rfl
  have n36 : ∀ i, i < t → s4 36 (B nf + i) = s 37 i := fun i w => by
    rw [U0 (by decide), b36, if_pos (by omega), show B nf + i - B nf = i by omega, s2j (by decide) (by omega), gp (by decide)]
    exact (a9.2.2.2.2.2.1 i (by omega)).2
  have fr : ∀ (j : Nat) (v : Int32), (j = 31 ∧ v = nI t) ∨ (j = 32 ∧ v = nI np) ∨ (j = 33 ∧ v = nI m) ∨ (j = 34 ∧ v = -9) ∨ (j = 35 ∧ v = nI (B nf)) → (∀ f, ¬ f = nf → s4 j f = s j f) ∧ s4 j nf = v := by
    rintro j v (⟨rfl, rfl⟩ | ⟨rfl, rfl⟩ | ⟨rfl, rfl⟩ | ⟨rfl, rfl⟩ | ⟨rfl, rfl⟩)
    · refine ⟨fun f w => ?_, ?_⟩
      · rw [rj (by decide)]
        unfold frG
        rw [uS_j _ _ _ (by decide), uS_j _ _ _ (by decide), uS_j _ _ _ (by decide), uS_j _ _ _ (by decide), uS_k _ _ _ w, uS_j _ _ _ (by decide)]
      · rw [rj (by decide)]
        unfold frG
        rw [uS_j _ _ _ (by decide), uS_j _ _ _ (by decide), uS_j _ _ _ (by decide), uS_j _ _ _ (by decide), uS_eq]
        exact ht
    · refine ⟨fun f w => ?_, ?_⟩
      · rw [rj (by decide)]
        unfold frG
        rw [uS_j _ _ _ (by decide), uS_j _ _ _ (by decide), uS_j _ _ _ (by decide), uS_k _ _ _ w, uS_j _ _ _ (by decide), uS_j _ _ _ (by decide)]
      · rw [rj (by decide)]
        unfold frG
        rw [uS_j _ _ _ (by decide), uS_j _ _ _ (by decide), uS_j _ _ _ (by decide), uS_eq]
        exact a7.2.2.2.2.2.1.2
    · refine ⟨fun f w => ?_, ?_⟩
      · rw [rj (by decide)]
        unfold frG
        rw [uS_j _ _ _ (by decide), uS_j _ _ _ (by decide), uS_k _ _ _ w, uS_j _ _ _ (by decide), uS_j _ _ _ (by decide), uS_j _ _ _ (by decide)]
      · rw [rj (by decide)]
        unfold frG
        rw [uS_j _ _ _ (by decide), uS_j _ _ _ (by decide), uS_eq]
    · refine ⟨fun f w => ?_, ?_⟩
      · rw [rj (by decide)]
        unfold frG
        rw [uS_j _ _ _ (by decide), uS_k _ _ _ w, uS_j _ _ _ (by decide), uS_j _ _ _ (by decide), uS_j _ _ _ (by decide), uS_j _ _ _ (by decide)]
      · rw [rj (by decide)]
        unfold frG
        rw [uS_j _ _ _ (by decide), uS_eq]
    · refine ⟨fun f w => ?_, ?_⟩
      · rw [rj (by decide)]
        unfold frG
        rw [uS_k _ _ _ w, uS_j _ _ _ (by decide), uS_j _ _ _ (by decide), uS_j _ _ _ (by decide), uS_j _ _ _ (by decide), uS_j _ _ _ (by decide)]
      · rw [rj (by decide)]
        unfold frG
        rw [uS_eq]
        exact h40
  obtain ⟨o31, n31⟩ := fr 31 _ (Or.inl ⟨rfl, rfl⟩)
  obtain ⟨o32, n32⟩ := fr 32 _ (Or.inr (Or.inl ⟨rfl, rfl⟩))
  obtain ⟨o33, n33⟩ := fr 33 _ (Or.inr (Or.inr (Or.inl ⟨rfl, rfl⟩)))
  obtain ⟨o34, n34⟩ := fr 34 _ (Or.inr (Or.inr (Or.inr (Or.inl ⟨rfl, rfl⟩))))
  obtain ⟨o35, n35⟩ := fr 35 _ (Or.inr (Or.inr (Or.inr (Or.inr ⟨rfl, rfl⟩))))
  -- where frames begin
  have A_o : ∀ f, f ≤ nf → exN A (nf + 1) (np + m) f = A f := fun f w => exN_n _ _ (by omega)
  have B_o : ∀ f, f ≤ nf → exN B (nf + 1) (B nf + t) f = B f := fun f w => exN_n _ _ (by omega)
  have A_n : exN A (nf + 1) (np + m) (nf + 1) = np + m := exN_e _ _ _
  have B_n : exN B (nf + 1) (B nf + t) (nf + 1) = B nf + t := exN_e _ _ _
  have Ale : ∀ f, f < nf → A (f + 1) ≤ np := fun f w => by
    have := A_mono hA (f + 1) nf w (Nat.le_refl _)
    omega
  have Ble : ∀ f, f < nf → B (f + 1) ≤ B nf := fun f w => A_mono hB (f + 1) nf w (Nat.le_refl _)
  have hOn : ∀ l p, p < np → (On s4 l p ↔ On s l p) := fun l p w => by
    unfold On
    rw [o23 p w, o28 p w]
  have eS := Sl_rows (s := s) (s' := s4) (fun j j1 j2 => r1 (by omega) (by omega))
  refine ⟨⟨?_, ?_, ?_, ?_, ?_, ?_, ?_, ?_, ?_⟩, fun l hl => ?_, fun l l1 l2 j hj k => by rw [eS]; exact hZ l l1 l2 j hj k⟩
  · -- frames and pieces
    refine ⟨⟨by omega, by omega, by rw [A_o 0 (by omega)]; exact a1.1.2.2.1, A_n, by rw [B_o 0 (by omega)]; exact a1.1.2.2.2.2.1, by rw [B_n]; exact r40⟩, fun f hf2 => ?_, fun p hp2 => ?_⟩
    · by_cases w : f = nf
      · subst w
        rw [A_o f (Nat.le_refl _), A_n, B_o f (Nat.le_refl _), B_n, hAn, n31, n32, n33, n35, new20, new20, new20, f1, f2, f3]
        refine ⟨by omega, by omega, by omega, rfl, by rw [show np + m - np = m by omega], rfl, by rw [show B f + t - B f = t by omega], rfl, rfl, rfl, fun k hk => ?_, ?_, fun p p1 p2 => ?_⟩
        · rw [new21 k (by omega), n36 k (by omega)]
        · rw [show np + m - np = m by omega, sumZ_fr mk n26 m (Nat.le_refl _), show min (m * q) t = t by omega]
        · obtain ⟨k, rfl⟩ : ∃ k, p = np + k := ⟨p - np, by omega⟩
          have pv := (hPV k (by omega)).2.2.1
          rw [Nat.zero_add] at pv
          rw [n24 _ p1 p2, C_t (by decide), pv]
          refine ⟨rfl, ?_⟩
          by_cases y : k + 1 = m
          · rw [if_pos y, if_pos (by omega)]
          · rw [if_neg y, if_neg (by omega)]
      · have hf3 : f < nf := by omega
        obtain ⟨b1, b2, b3, b4, b5, b6, b7, b8, b9, b10, b11, b12, b13⟩ := a1.2.1 f hf3
        rw [A_o f (by omega), A_o (f + 1) (by omega), B_o f (by omega), B_o (f + 1) (by omega), o31 f w, o32 f w, o33 f w, o35 f w, old 20 f 1 (by decide) (by decide) (by omega) (by omega) (by omega), old 20 f 2 (by decide) (by decide) (by omega) (by omega) (by omega), old 20 f 3 (by decide) (by decide) (by omega) (by omega) (by omega)]
        have := Ale f hf3
        have := Ble f hf3
        refine ⟨b1, b2, b3, b4, b5, b6, b7, b8, b9, b10, fun k hk => ?_, ?_, fun p p1 p2 => ?_⟩
        · rw [old 21 f k (by decide) (by decide) (by omega) (by omega) (by omega), o36 _ (by omega)]
          exact b11 k hk
        · rw [sumZ_l _ _ (fun i hi => o26 _ (by omega))]
          exact b12
        · rw [o24 p (by omega), old 18 p 2 (by decide) (by decide) (by omega) (by omega) (by omega)]
          exact b13 p p1 p2
    · rw [B_n]
      by_cases w : p < np
      · obtain ⟨b1, b2, a, z, b3, b4, b5, b6, b7, b8⟩ := a1.2.2 p w
        rw [old 18 p 0 (by decide) (by decide) (by omega) (by omega) (by omega), old 18 p 1 (by decide) (by decide) (by omega) (by omega) (by omega), old 18 p 3 (by decide) (by decide) (by omega) (by omega) (by omega), o24 p w, o25 p w, o26 p w]
        refine ⟨b1, b2, a, z, b3, b4, b5, b6, by omega, ?_⟩
        rw [sumF_l a z (fun i hi => o36 _ (by omega))]
        exact b8
      · obtain ⟨k, rfl⟩ : ∃ k, p = np + k := ⟨p - np, by omega⟩
        have k1 : k < m := by omega
        obtain ⟨v0, v1, v2, v3, v5, v6, v7, v19⟩ := hPV k k1
        rw [Nat.zero_add] at v1 v3
        have kk := mk k k1
        have hz : zK t q k ≤ t - k * q ∧ 1 ≤ zK t q k ∧ zK t q k ≤ 250 := by
          unfold zK
          split <;> omega
        rw [C_t (by decide), v0, v1, v3, n24 _ (by omega) (by omega), n25 k k1, n26 k k1]
        refine ⟨rfl, rfl, B nf + k * q, zK t q k, rfl, rfl, hz.2.1, hz.2.2, by omega, ?_⟩
        rw [sumF_Y (Y := fun i => s 37 i) (k * q) (zK t q k) (fun i hi => n36 _ (by omega))]
  · -- how pieces stand
    intro p hp2
    by_cases w : p < np
    · obtain ⟨b1, b2, b3, b4, b5, b6⟩ := a2 p w
      rw [old 18 p 5 (by decide) (by decide) (by omega) (by omega) (by omega), old 18 p 6 (by decide) (by decide) (by omega) (by omega) (by omega), old 18 p 7 (by decide) (by decide) (by omega) (by omega) (by omega), o23 p w, o28 p w, r27, r30]
      exact ⟨b1, b2, b3, fun k hk => by rw [old 19 p k (by decide) (by decide) (by omega) (by omega) (by omega)]; exact b4 k hk, b5, b6⟩
    · obtain ⟨k, rfl⟩ : ∃ k, p = np + k := ⟨p - np, by omega⟩
      have k1 : k < m := by omega
      obtain ⟨v0, v1, v2, v3, v5, v6, v7, v19⟩ := hPV k k1
      obtain ⟨w1, w2⟩ := a4.2.2 (np + k) (by have := a4.1; omega)
      rw [C_t (by decide), C_t (by decide), v5, v6, v7, n23 _ (by omega) (by omega), n28 _ (by omega) (by omega), r27, r30, w1]
      exact ⟨rfl, rfl, rfl, fun j hj => by rw [v19, w2 j hj], ⟨0, rfl, by decide⟩, fun z => absurd z (by decide)⟩
  · -- how many of each
    intro j hj
    rw [C_t (by decide), P_4, manyF_fr (nI j) o23 m n23, ← a3 j hj]
    by_cases w : j = 0
    · rw [if_pos w, w, if_pos (show nI 0 = 0 from rfl)]
    · rw [if_neg w, if_neg (nI_ne0 (by omega) (by omega)), Int32.add_zero]
  · -- NEW ones
    refine ⟨by have := a4.1; omega, fun p hp2 => ?_, fun p hp2 => ?_⟩
    · by_cases w : p < np
      · rw [o23 p w]
        exact a4.2.1 p w
      · rw [n23 p (by omega) hp2]
        exact ⟨fun _ => by have := a4.1; omega, fun _ => rfl⟩
    · rw [r27, r30]
      exact a4.2.2 p hp2
  · -- THERE ones
    intro f hf2
    by_cases w : f = nf
    · subst w
      rw [A_o f (Nat.le_refl _), A_n, hAn, new20, new20, f4, f5, n34, show np + m - np = m by omega, cntTF_0 m n23]
      exact ⟨rfl, rfl⟩
    · have hf3 : f < nf := by omega
      have := Ale f hf3
      rw [A_o f (by omega), A_o (f + 1) (by omega), old 20 f 4 (by decide) (by decide) (by omega) (by omega) (by omega), old 20 f 5 (by decide) (by decide) (by omega) (by omega) (by omega), o34 f w, cntTF_c (s := s) _ _ (fun q q1 q2 => by rw [o23 q (by omega)])]
      exact a5 f hf3
  · -- given ones
    have hg := a6.1
    refine ⟨by omega, fun p hp2 => ?_⟩
    rw [A_o g hg] at hp2
    have := A_mono hA g nf hg (Nat.le_refl _)
    rw [o23 p (by omega)]
    exact a6.2 p hp2
  · -- the rest
    have hg := a6.1
    unfold GL
    rw [C_0 1 (by decide) (by decide) (by decide), C_3, C_0 4 (by decide) (by decide) (by decide), C_0 5 (by decide) (by decide) (by decide), C_0 6 (by decide) (by decide) (by decide), C_8, C_0 9 (by decide) (by decide) (by decide), C_0 16 (by decide) (by decide) (by decide), r00 (k := 0) (by decide) (by decide) (by decide) (by decide), r32, r00 (k := 33) (by decide) (by decide) (by decide) (by decide), r23', r00 (k := 45) (by decide) (by decide) (by decide) (by decide), A_o g hg, B_o g hg]
    obtain ⟨b1, b2, b3, b4, b5, b6, b7, b8⟩ := a7
    exact ⟨b1, ⟨rfl, rfl⟩, b3, b4, b5, ⟨rfl, rfl⟩, b7, b8⟩
  · unfold CR
    rw [credF_fr (s := s) (fun p w => ⟨o23 p w, o24 p w, o26 p w⟩) (r00 (k := 33) (by decide) (by decide) (by decide) (by decide)) (r00 (k := 44) (by decide) (by decide) (by decide) (by decide)) m n23, C_0 14 (by decide) (by decide) (by decide), C_0 15 (by decide) (by decide) (by decide)]
    exact a8
  · obtain ⟨b1, b2, b3, b4, b5, b6, b7⟩ := a9
    refine ⟨by rw [C_12, U42], ⟨0, by rw [U42]; rfl, by decide⟩, ?_, ?_, ?_, fun k hk => ?_, fun k hk => ?_⟩
    · rw [C_0 13 (by decide) (by decide) (by decide), r00 (k := 43) (by decide) (by decide) (by decide) (by decide)]
      exact b3
    · rw [r00 (k := 43) (by decide) (by decide) (by decide) (by decide)]
      exact b4
    · rw [C_0 14 (by decide) (by decide) (by decide), r00 (k := 44) (by decide) (by decide) (by decide) (by decide)]
      exact b5
    · rw [old 5 0 k (by decide) (by decide) (by omega) (by omega) (by omega), r37]
      exact b6 k hk
    · rw [old 6 0 k (by decide) (by decide) (by omega) (by omega) (by omega), r1 (j := 38) (by decide) (by decide)]
      exact b7 k hk
  · have eC : Cl c3 l = Cl c l := Cl_tags (c := c) (c' := c3) (fun t' w1 w2 => by
      funext i k
      exact old t' i k (by omega) (by omega) (by omega) (by omega) (by omega)) l
    rw [eC, eS]
    obtain ⟨q', hd, so, u, f, uh, cnt, sn, Q, R, M, D, ⟨d1, d2, d3, d4, d5, d6, d7⟩, d8⟩ := hL l hl
    refine ⟨q', hd, so, u, f, uh, cnt, sn, Q, R, M, D, ⟨d1, d2, ?_, d4, d5, d6, ?_⟩, d8⟩
    · refine LQ_z d3 (fun k hk => ?_)
      rcases d7.1 k (by omega) hk with z | ⟨p, p1, p2, _⟩
      · rw [z]
        rfl
      · rw [p2, szr_nI _ (by omega), szr_nI _ (by omega), o26 p p1]
    · obtain ⟨e1, e2, e3, e4⟩ := d7
      refine ⟨fun k k1 k2 => ?_, e2, fun i i1 i2 => ?_, fun p p1 p2 => ?_⟩
      · rcases e1 k k1 k2 with z | ⟨p, p1, p2, p3, p4⟩
        · exact Or.inl z
        · exact Or.inr ⟨p, by omega, p2, (hOn l p p1).mpr p3, (o29 p p1).trans p4⟩
      · rcases e3 i i1 i2 with z | ⟨p, p1, p2, p3, p4⟩
        · exact Or.inl z
        · exact Or.inr ⟨p, by omega, p2, (hOn l p p1).mpr p3, (o29 p p1).trans p4⟩
      · by_cases w : p < np
        · rw [o29 p w]
          exact e4 p w ((hOn l p w).mp p2)
        · have := p2.1
          rw [n23 p (by omega) p1] at this
          exact absurd this (by decide)
