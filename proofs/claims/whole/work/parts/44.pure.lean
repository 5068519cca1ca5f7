/-! The pure part: a piece is laid, lost, there. -/
theorem bec18 (c : CS) (p z q k : Nat) : x5_becomeF c p z 18 q k = if q = p ∧ k = 5 then nI z else c 18 q k := by
  unfold x5_becomeF
  by_cases w : q = p ∧ k = 5
  · rw [if_pos w, w.1, w.2, uC_eq]
  · rw [if_neg w, uC_ne _ _ (fun e => w e.2), uC_t _ _ _ _ _ _ (by decide), uC_t _ _ _ _ _ _ (by decide)]
theorem bec_t (c : CS) (p z : Nat) {t : Nat} (h1 : ¬ t = 4) (h2 : ¬ t = 18) (i k : Nat) : x5_becomeF c p z t i k = c t i k := by
  unfold x5_becomeF
  rw [uC_t _ _ _ _ _ _ h2, uC_t _ _ _ _ _ _ h1, uC_t _ _ _ _ _ _ h1]
theorem lay18 (c : CS) (l : Nat) (n : Int32) (p q k : Nat) : x5_layOnF c l n p 18 q k = if q = p ∧ k = 5 then 1 else if q = p ∧ k = 6 then c 18 p 6 + 1 else if q = p ∧ k = 7 then c 7 l 0 else c 18 q k := by
  unfold x5_layOnF x3_addF
  rw [uC_t _ _ _ _ _ _ (by decide), uC_t _ _ _ _ _ _ (by decide), uC_t _ _ _ _ _ _ (by decide), uC_t _ _ _ _ _ _ (by decide)]
  have e7 : x5_becomeF c p 1 7 l 0 = c 7 l 0 := bec_t c p 1 (by decide) (by decide) _ _
  have e6 : x5_becomeF c p 1 18 p 6 = c 18 p 6 := by rw [bec18, if_neg (fun z => absurd z.2 (by decide))]
  rw [e7, e6]
  by_cases w1 : q = p ∧ k = 5
  · rw [if_pos w1, w1.1, w1.2, uC_k _ _ _ _ _ _ (by decide), uC_k _ _ _ _ _ _ (by decide), bec18, if_pos ⟨rfl, rfl⟩]
    rfl
  · rw [if_neg w1]
    by_cases w2 : q = p ∧ k = 6
    · rw [if_pos w2, w2.1, w2.2, uC_k _ _ _ _ _ _ (by decide), uC_eq]
    · rw [if_neg w2]
      by_cases w3 : q = p ∧ k = 7
      · rw [if_pos w3, w3.1, w3.2, uC_eq]
      · rw [if_neg w3, uC_ne _ _ (fun e => w3 e.2), uC_ne _ _ (fun e => w2 e.2), bec18, if_neg w1]
/-- what a piece's laying leaves as it is -/
theorem lay_t (c : CS) (l : Nat) (n : Int32) (p : Nat) {t : Nat} (h : ¬ t = 4 ∧ ¬ t = 10 ∧ ¬ t = 11 ∧ ¬ t = 12 ∧ ¬ t = 18) : x5_layOnF c l n p t = c t := by
  funext i k
  unfold x5_layOnF x3_addF
  rw [uC_t _ _ _ _ _ _ h.2.1, uC_t _ _ _ _ _ _ h.2.1, uC_t _ _ _ _ _ _ h.2.2.2.1, uC_t _ _ _ _ _ _ h.2.2.1, uC_t _ _ _ _ _ _ h.2.2.2.2, uC_t _ _ _ _ _ _ h.2.2.2.2, bec_t _ _ _ h.1 h.2.2.2.2]
theorem lay_4 (c : CS) (l : Nat) (n : Int32) (p j : Nat) : x5_layOnF c l n p 4 0 j = x5_becomeF c p 1 4 0 j := rfl
theorem lay_S (s : SS) (p l : Nat) {j : Nat} (h : ¬ j = 7 ∧ ¬ j = 8 ∧ ¬ j = 23 ∧ ¬ j = 27 ∧ ¬ j = 28 ∧ ¬ j = 29) : layOnF s p l j = s j := by
  funext k
  unfold layOnF layF
  rw [uS_j _ _ _ h.2.2.2.1, uS_j _ _ _ h.2.2.2.2.2, uS_j _ _ _ h.2.2.2.2.1, uS_j _ _ _ h.2.2.1, uS_j _ _ _ h.2.1, uS_j _ _ _ h.1]
theorem lay_Sq (s : SS) (p l : Nat) {q : Nat} (h : ¬ q = p) : layOnF s p l 23 q = s 23 q ∧ layOnF s p l 27 q = s 27 q ∧ layOnF s p l 28 q = s 28 q ∧ layOnF s p l 29 q = s 29 q := by
  unfold layOnF layF
  refine ⟨?_, ?_, ?_, ?_⟩
  · rw [uS_j _ _ _ (by decide), uS_j _ _ _ (by decide), uS_j _ _ _ (by decide), uS_k _ _ _ h, uS_j _ _ _ (by decide), uS_j _ _ _ (by decide)]
  · rw [uS_k _ _ _ h, uS_j _ _ _ (by decide), uS_j _ _ _ (by decide), uS_j _ _ _ (by decide), uS_j _ _ _ (by decide), uS_j _ _ _ (by decide)]
  · rw [uS_j _ _ _ (by decide), uS_j _ _ _ (by decide), uS_k _ _ _ h, uS_j _ _ _ (by decide), uS_j _ _ _ (by decide), uS_j _ _ _ (by decide)]
  · rw [uS_j _ _ _ (by decide), uS_k _ _ _ h, uS_j _ _ _ (by decide), uS_j _ _ _ (by decide), uS_j _ _ _ (by decide), uS_j _ _ _ (by decide)]
theorem lay_Sp (s : SS) (p l : Nat) : layOnF s p l 23 p = 1 ∧ layOnF s p l 27 p = s 27 p + 1 ∧ layOnF s p l 28 p = nI l ∧ layOnF s p l 29 p = -1 := by
  unfold layOnF layF
  refine ⟨?_, ?_, ?_, ?_⟩
  · rw [uS_j _ _ _ (by decide), uS_j _ _ _ (by decide), uS_j _ _ _ (by decide), uS_eq]
  · rw [uS_eq]
  · rw [uS_j _ _ _ (by decide), uS_j _ _ _ (by decide), uS_eq]
  · rw [uS_j _ _ _ (by decide), uS_eq]
theorem DY_lay {nl np : Nat} {c : CS} {s : SS} (h : DY nl np c s) (p l : Nat) (n : Int32) (hl : l < nl) (h0 : c 7 l 0 = nI l) : DY nl np (x5_layOnF c l n p) (layOnF s p l) := by
  refine DY_up h p (fun q hq => ?_) (fun hp => ?_)
  · obtain ⟨a1, a2, a3, a4⟩ := lay_Sq s p l hq
    refine ⟨?_, ?_, ?_, fun k _ => by rw [lay_t _ _ _ _ (by decide)], a1, a2, a3, fun k _ => by rw [lay_S _ _ _ (by decide)]⟩
    · rw [lay18, if_neg (fun z => hq z.1), if_neg (fun z => hq z.1), if_neg (fun z => hq z.1)]
    · rw [lay18, if_neg (fun z => hq z.1), if_neg (fun z => hq z.1), if_neg (fun z => hq z.1)]
    · rw [lay18, if_neg (fun z => hq z.1), if_neg (fun z => hq z.1), if_neg (fun z => hq z.1)]
  · obtain ⟨a1, a2, a3, a4⟩ := lay_Sp s p l
    obtain ⟨b1, b2, b3, b4, b5, b6⟩ := h p hp
    rw [a1, a2, a3]
    refine ⟨?_, ?_, ?_, fun k hk => by rw [lay_t _ _ _ _ (by decide), lay_S _ _ _ (by decide)]; exact b4 k hk, ⟨1, rfl, by decide⟩, fun _ => ⟨l, hl, rfl⟩⟩
    · rw [lay18, if_pos ⟨rfl, rfl⟩]
    · rw [lay18, if_neg (fun z => absurd z.2 (by decide)), if_pos ⟨rfl, rfl⟩, b2]
    · rw [lay18, if_neg (fun z => absurd z.2 (by decide)), if_neg (fun z => absurd z.2 (by decide)), if_pos ⟨rfl, rfl⟩, h0]
theorem FX_lay {nf np : Nat} {A B : Nat → Nat} {c : CS} {s : SS} (h : FXo nf np A B c s) (p l : Nat) (n : Int32) : FXo nf np A B (x5_layOnF c l n p) (layOnF s p l) := by
  refine FX_c h (fun q k hk => ?_) (fun f k _ => by rw [lay_t _ _ _ _ (by decide)]) (lay_t _ _ _ _ (by decide)) (lay_S _ _ _ (by decide)) (lay_S _ _ _ (by decide)) (lay_S _ _ _ (by decide)) (lay_S _ _ _ (by decide)) (lay_S _ _ _ (by decide)) (lay_S _ _ _ (by decide)) (lay_S _ _ _ (by decide)) (lay_S _ _ _ (by decide)) (by rw [lay_S _ _ _ (by decide)])
  rw [lay18, if_neg (by omega), if_neg (by omega), if_neg (by omega)]
theorem one_ne (v : Int32) (h : v = 1) : ¬ v = 0 ∧ ¬ v = 2 ∧ ¬ v = 3 := by
  subst h
  decide
theorem two_ne (v : Int32) (h : v = 2) : ¬ v = 0 ∧ ¬ v = 1 ∧ ¬ v = 3 := by
  subst h
  decide
theorem thr_ne (v : Int32) (h : v = 3) : ¬ v = 0 ∧ ¬ v = 1 ∧ ¬ v = 2 := by
  subst h
  decide
theorem nul_ne (v : Int32) (h : v = 0) : ¬ v = 3 ∧ ¬ v = 1 ∧ ¬ v = 2 := by
  subst h
  decide
theorem NL_lay {nl nf np T fn g : Nat} {A B : Nat → Nat} {c : CS} {s : SS} (h : NL nl nf np T fn g A B c s) (p l : Nat) (hp : p < np) (hl : l < nl) (h0 : c 7 l 0 = nI l) (h2 : s 23 p = 2) : NL nl nf np T fn g A B (x5_layOnF c l (nI p) p) (layOnF s p l) := by
  obtain ⟨a1, a2, a3, a4, a5, a6, a7, a8, a9⟩ := h
  have e1 := (lay_Sp s p l).1
  have eq : ∀ q, ¬ q = p → layOnF s p l 23 q = s 23 q := fun q hq => (lay_Sq s p l hq).1
  have ev : ∀ v : Int32, ¬ v = 1 → ¬ v = 2 → ∀ q, layOnF s p l 23 q = v ↔ s 23 q = v := by
    intro v v1 v2 q
    by_cases w : q = p
    · rw [w, e1, h2]
      exact ⟨fun z => absurd z.symm v1, fun z => absurd z.symm v2⟩
    · rw [eq q w]
  have e0 : layOnF s p l 0 = s 0 := lay_S _ _ _ (by decide)
  have c0 : x5_layOnF c l (nI p) p 0 = c 0 := lay_t _ _ _ _ (by decide)
  refine ⟨FX_lay a1 p l _, DY_lay a2 p l _ hl h0, CN_up a3 a2 hp (z := 1) (by decide) eq e1 (fun j => lay_4 _ _ _ _ _), NW_up a4 (p := p) hp (fun q hq => ⟨eq q hq, (lay_Sq s p l hq).2.1, fun k _ => by rw [lay_S _ _ _ (by decide)]⟩) (two_ne _ h2).1 (one_ne _ e1).1, TH_c a5 (ev 3 (by decide) (by decide)) (lay_t _ _ _ _ (by decide)) (lay_S _ _ _ (by decide)), GV_up a6 eq (two_ne _ h2).2.2, GL_c a7 c0 e0, CR_c a8 c0 (ev 0 (by decide) (by decide)) (lay_S _ _ _ (by decide)) (lay_S _ _ _ (by decide)) e0, TR_c a9 c0 (lay_t _ _ _ _ (by decide)) (lay_t _ _ _ _ (by decide)) e0 (lay_S _ _ _ (by decide)) (lay_S _ _ _ (by decide))⟩
/-- the frame of a piece that isn't below the given ones -/
theorem fr_ge {nf np g : Nat} {A B : Nat → Nat} {c : CS} {s : SS} (h : FXo nf np A B c s) (hg : GV g nf A s) {p : Nat} (hp : p < np) (h3 : ¬ s 23 p = 3) : ∃ f, f < nf ∧ g ≤ f ∧ A f ≤ p ∧ p < A (f + 1) ∧ s 24 p = nI f := by
  obtain ⟨⟨b1, b2, b3, b4, b5, b6⟩, b7, b8⟩ := h
  obtain ⟨f, f1, f2, f3⟩ := frOf (A := A) p nf b3 (by omega)
  refine ⟨f, f1, ?_, f2, f3, ((b7 f f1).2.2.2.2.2.2.2.2.2.2.2.2 p f2 f3).1⟩
  refine Nat.le_of_not_lt (fun z => h3 (hg.2 p ?_))
  have := A_mono (A := A) (nf := nf) (fun f hf => (b7 f hf).1) (f + 1) g (by omega) hg.1
  omega
theorem NL_layN {nl nf np T fn g : Nat} {A B : Nat → Nat} {c : CS} {s : SS} (h : NL nl nf np T fn g A B c s) (l : Nat) (hp : fn < np) (hl : l < nl) (h0 : c 7 l 0 = nI l) : NL nl nf np T (fn + 1) g A B (x5_layOnF (uC (uC c 0 0 15 (c 0 0 15 + c 18 fn 1)) 0 0 9 (nI fn + 1)) l (nI fn) fn) (layOnF s fn l) := by
  obtain ⟨a1, a2, a3, a4, a5, a6, a7, a8, a9⟩ := h
  have h2 : s 23 fn = 0 := (a4.2.1 fn hp).mpr (Nat.le_refl _)
  have e1 := (lay_Sp s fn l).1
  have eq : ∀ q, ¬ q = fn → layOnF s fn l 23 q = s 23 q := fun q hq => (lay_Sq s fn l hq).1
  have ev : ∀ v : Int32, ¬ v = 1 → ¬ v = 0 → ∀ q, layOnF s fn l 23 q = v ↔ s 23 q = v := by
    intro v v1 v2 q
    by_cases w : q = fn
    · rw [w, e1, h2]
      exact ⟨fun z => absurd z.symm v1, fun z => absurd z.symm v2⟩
    · rw [eq q w]
  have e0 : layOnF s fn l 0 = s 0 := lay_S _ _ _ (by decide)
  obtain ⟨f, f1, f2, f3, f4, f5⟩ := fr_ge a1 a6 hp (nul_ne _ h2).1
  have hnp := a1.1.2.1
  have hnf := a1.1.1
  generalize hc1 : uC (uC c 0 0 15 (c 0 0 15 + c 18 fn 1)) 0 0 9 (nI fn + 1) = c1
  have t1 : ∀ t, ¬ t = 0 → c1 t = c t := fun t ht => by
    funext i k
    rw [← hc1, uC_t _ _ _ _ _ _ ht, uC_t _ _ _ _ _ _ ht]
  have k1 : ∀ k, ¬ k = 9 → ¬ k = 15 → c1 0 0 k = c 0 0 k := fun k hk hk2 => by
    rw [← hc1, uC_k _ _ _ _ _ _ hk, uC_k _ _ _ _ _ _ hk2]
  have a1' : FXo nf np A B c1 s := FX_c a1 (fun q k _ => by rw [t1 18 (by decide)]) (fun q k _ => by rw [t1 20 (by decide)]) (t1 21 (by decide)) rfl rfl rfl rfl rfl rfl rfl rfl rfl
  have a2' : DY nl np c1 s := by
    unfold DY
    rw [t1 18 (by decide), t1 19 (by decide)]
    exact a2
  have a3' : CN np c1 s := by
    unfold CN
    rw [t1 4 (by decide)]
    exact a3
  have c0 : x5_layOnF c1 l (nI fn) fn 0 = c1 0 := lay_t _ _ _ _ (by decide)
  refine ⟨FX_lay a1' fn l _, DY_lay a2' fn l _ hl (by rw [t1 7 (by decide)]; exact h0), CN_up a3' a2' hp (z := 1) (by decide) eq e1 (fun j => lay_4 _ _ _ _ _), NW_new a4 hp (fun q hq => ⟨eq q hq, (lay_Sq s fn l hq).2.1, fun k _ => by rw [lay_S _ _ _ (by decide)]⟩) (one_ne _ e1).1, TH_c a5 (ev 3 (by decide) (by decide)) ((lay_t _ _ _ _ (by decide)).trans (t1 20 (by decide))) (lay_S _ _ _ (by decide)), GV_up a6 eq (nul_ne _ h2).1, ?_, ?_, ?_⟩
  · unfold GL
    rw [c0, e0, k1 1 (by decide) (by decide), k1 3 (by decide) (by decide), k1 4 (by decide) (by decide), k1 5 (by decide) (by decide), k1 6 (by decide) (by decide), k1 8 (by decide) (by decide), k1 16 (by decide) (by decide)]
    obtain ⟨b1, b2, b3, b4, b5, b6, b7, b8⟩ := a7
    refine ⟨b1, b2, b3, b4, b5, b6, ?_, b8⟩
    rw [← hc1, uC_eq, nI_1]
  · unfold CR
    rw [c0, credF_up eq h2 (one_ne _ e1).1 (by rw [f5, a7.2.2.1.2]; exact nI_le f2 (by omega)) (lay_S _ _ _ (by decide)) (lay_S _ _ _ (by decide)) e0, if_pos hp, ← a8, k1 14 (by decide) (by decide)]
    have : c1 0 0 15 = c 0 0 15 + s 26 fn := by
      rw [← hc1, uC_k _ _ _ _ _ _ (by decide), uC_eq, (a1.2.2 fn hp).2.1]
    rw [this]
    grind
  · unfold TR
    rw [c0, e0, k1 12 (by decide) (by decide), k1 13 (by decide) (by decide), k1 14 (by decide) (by decide), show x5_layOnF c1 l (nI fn) fn 5 = c 5 from (lay_t _ _ _ _ (by decide)).trans (t1 5 (by decide)), show x5_layOnF c1 l (nI fn) fn 6 = c 6 from (lay_t _ _ _ _ (by decide)).trans (t1 6 (by decide)), lay_S _ _ _ (by decide), lay_S _ _ _ (by decide)]
    exact a9
/-- a piece is lost -/
def loC (c : CS) (l p : Nat) : CS := uC (uC (x5_becomeF c p 2) 19 p l (c 19 p l + 1)) 7 l 14 (c 7 l 14 + 1)
theorem loseOn_eq {c : CS} {np l p : Nat} (hp : p < np) (hn : np ≤ 3000) (hl : l < 8) (h0 : c 7 l 0 = nI l) (h5 : c 18 p 5 = 1) (h7 : c 18 p 7 = nI l) : x5_loseOnF c np l (nI p) = loC c l p := by
  rw [x5_loseOnF_1 (lnO_nI hp (by omega)), if_pos h5, if_pos (h7.trans h0.symm)]
  unfold x2_addLossOnF loC
  rw [bec_t c p 2 (by decide) (by decide), h0, if_neg (nI_pos (by omega)), if_neg (nI_ge (by omega) (by omega)), nat_nI (by omega), bec_t c p 2 (by decide) (by decide), uC_t _ _ _ _ _ _ (by decide), bec_t c p 2 (by decide) (by decide)]
theorem loseOn_E (c : CS) (np l : Nat) : x5_loseOnF c np l (-2) = c := x5_loseOnF_0 (lnO_neg (by decide))
theorem lo_t (c : CS) (l p : Nat) {t : Nat} (h : ¬ t = 4 ∧ ¬ t = 7 ∧ ¬ t = 18 ∧ ¬ t = 19) : loC c l p t = c t := by
  funext i k
  unfold loC
  rw [uC_t _ _ _ _ _ _ h.2.1, uC_t _ _ _ _ _ _ h.2.2.2, bec_t _ _ _ h.1 h.2.2.1]
theorem lo18 (c : CS) (l p q k : Nat) : loC c l p 18 q k = if q = p ∧ k = 5 then 2 else c 18 q k := by
  unfold loC
  rw [uC_t _ _ _ _ _ _ (by decide), uC_t _ _ _ _ _ _ (by decide), bec18]
  rfl
theorem lo19 (c : CS) (l p q k : Nat) : loC c l p 19 q k = if q = p ∧ k = l then c 19 p l + 1 else c 19 q k := by
  unfold loC
  rw [uC_t _ _ _ _ _ _ (by decide)]
  by_cases w : q = p ∧ k = l
  · rw [if_pos w, w.1, w.2, uC_eq]
  · rw [if_neg w, uC_ne _ _ (fun e => w e.2), bec_t _ _ _ (by decide) (by decide)]
theorem lose_S (s : SS) (p l : Nat) {j : Nat} (h : ¬ j = 19 ∧ ¬ j = 23 ∧ ¬ j = 30) : loseF s p l j = s j := by
  funext k
  unfold loseF
  rw [uS_j _ _ _ h.1, uS_j _ _ _ h.2.2, uS_j _ _ _ h.2.1]
theorem lose23 (s : SS) (p l q : Nat) : loseF s p l 23 q = if q = p then 2 else s 23 q := by
  unfold loseF
  rw [uS_j _ _ _ (by decide), uS_j _ _ _ (by decide)]
  by_cases w : q = p
  · rw [if_pos w, w, uS_eq]
  · rw [if_neg w, uS_k _ _ _ w]
theorem lose30 (s : SS) (p l i : Nat) : loseF s p l 30 i = if i = 8 * p + l then s 30 (8 * p + l) + 1 else s 30 i := by
  unfold loseF
  rw [uS_j _ _ _ (by decide)]
  by_cases w : i = 8 * p + l
  · rw [if_pos w, w, uS_eq]
  · rw [if_neg w, uS_k _ _ _ w, uS_j _ _ _ (by decide)]
theorem NL_lose {nl nf np T fn g : Nat} {A B : Nat → Nat} {c : CS} {s : SS} (h : NL nl nf np T fn g A B c s) (p l : Nat) (hp : p < np) (hl : l < 8) (h2 : s 23 p = 1) : NL nl nf np T fn g A B (loC c l p) (loseF s p l) := by
  obtain ⟨a1, a2, a3, a4, a5, a6, a7, a8, a9⟩ := h
  have e1 : loseF s p l 23 p = 2 := by rw [lose23, if_pos rfl]
  have eq : ∀ q, ¬ q = p → loseF s p l 23 q = s 23 q := fun q hq => by rw [lose23, if_neg hq]
  have ev : ∀ v : Int32, ¬ v = 1 → ¬ v = 2 → ∀ q, loseF s p l 23 q = v ↔ s 23 q = v := by
    intro v v1 v2 q
    by_cases w : q = p
    · rw [w, e1, h2]
      exact ⟨fun z => absurd z.symm v2, fun z => absurd z.symm v1⟩
    · rw [eq q w]
  have e0 : loseF s p l 0 = s 0 := lose_S _ _ _ (by decide)
  have c0 : loC c l p 0 = c 0 := lo_t _ _ _ (by decide)
  have q30 : ∀ q, ¬ q = p → ∀ k, k < 8 → loseF s p l 30 (8 * q + k) = s 30 (8 * q + k) := fun q hq k hk => by
    rw [lose30, if_neg (by omega)]
  refine ⟨?_, ?_, CN_up a3 a2 hp (z := 2) (by decide) eq e1 (fun j => rfl), NW_up a4 (p := p) hp (fun q hq => ⟨eq q hq, by rw [lose_S _ _ _ (by decide)], q30 q hq⟩) (one_ne _ h2).1 (two_ne _ e1).1, TH_c a5 (ev 3 (by decide) (by decide)) (lo_t _ _ _ (by decide)) (lose_S _ _ _ (by decide)), GV_up a6 eq (one_ne _ h2).2.2, GL_c a7 c0 e0, CR_c a8 c0 (ev 0 (by decide) (by decide)) (lose_S _ _ _ (by decide)) (lose_S _ _ _ (by decide)) e0, TR_c a9 c0 (lo_t _ _ _ (by decide)) (lo_t _ _ _ (by decide)) e0 (lose_S _ _ _ (by decide)) (lose_S _ _ _ (by decide))⟩
  · refine FX_c a1 (fun q k hk => ?_) (fun f k _ => by rw [lo_t _ _ _ (by decide)]) (lo_t _ _ _ (by decide)) (lose_S _ _ _ (by decide)) (lose_S _ _ _ (by decide)) (lose_S _ _ _ (by decide)) (lose_S _ _ _ (by decide)) (lose_S _ _ _ (by decide)) (lose_S _ _ _ (by decide)) (lose_S _ _ _ (by decide)) (lose_S _ _ _ (by decide)) (by rw [lose_S _ _ _ (by decide)])
    rw [lo18, if_neg (by omega)]
  · refine DY_up a2 p (fun q hq => ?_) (fun _ => ?_)
    · refine ⟨?_, ?_, ?_, fun k _ => ?_, eq q hq, by rw [lose_S _ _ _ (by decide)], by rw [lose_S _ _ _ (by decide)], q30 q hq⟩
      · rw [lo18, if_neg (fun z => hq z.1)]
      · rw [lo18, if_neg (fun z => hq z.1)]
      · rw [lo18, if_neg (fun z => hq z.1)]
      · rw [lo19, if_neg (fun z => hq z.1)]
    · obtain ⟨b1, b2, b3, b4, b5, b6⟩ := a2 p hp
      rw [e1, lose_S _ _ _ (by decide), lose_S _ _ _ (by decide)]
      refine ⟨?_, ?_, ?_, fun k hk => ?_, ⟨2, rfl, by decide⟩, fun z => absurd z (by decide)⟩
      · rw [lo18, if_pos ⟨rfl, rfl⟩]
      · rw [lo18, if_neg (fun z => absurd z.2 (by decide))]
        exact b2
      · rw [lo18, if_neg (fun z => absurd z.2 (by decide))]
        exact b3
      · rw [lo19, lose30]
        by_cases w : k = l
        · rw [if_pos ⟨rfl, w⟩, if_pos (by omega), b4 l hl]
        · rw [if_neg (fun z => w z.2), if_neg (by omega)]
          exact b4 k hk
/-- a piece is there -/
def arC (c : CS) (p f : Nat) : CS := uC (x5_becomeF c p 3) 20 f 4 (c 20 f 4 + 1)
theorem arrive_eq {c : CS} {nf np p f : Nat} (hp : p < np) (hn : np ≤ 3000) (hf : f < nf) (hnf : nf ≤ 300) (h5 : ¬ c 18 p 5 = 3) (h0 : c 18 p 0 = nI f) : x5_arriveF c nf np (nI p) = arC c p f := by
  have e : x5_becomeF c p 3 18 p 0 = nI f := by rw [bec18, if_neg (fun z => absurd z.2 (by decide)), h0]
  rw [x5_arriveF_2 (lnO_nI hp (by omega)) (by rw [e]; exact lnO_nI hf (by omega)), if_neg h5]
  unfold arC
  rw [bec_t _ _ _ (by decide) (by decide)]
theorem arrive_E (c : CS) (nf np : Nat) : x5_arriveF c nf np (-2) = c := x5_arriveF_0 (lnO_neg (by decide))
theorem ar_t (c : CS) (p f : Nat) {t : Nat} (h : ¬ t = 4 ∧ ¬ t = 18 ∧ ¬ t = 20) : arC c p f t = c t := by
  funext i k
  unfold arC
  rw [uC_t _ _ _ _ _ _ h.2.2, bec_t _ _ _ h.1 h.2.1]
theorem ar18 (c : CS) (p f q k : Nat) : arC c p f 18 q k = if q = p ∧ k = 5 then 3 else c 18 q k := by
  unfold arC
  rw [uC_t _ _ _ _ _ _ (by decide), bec18]
  rfl
theorem ar20 (c : CS) (p f i k : Nat) : arC c p f 20 i k = if i = f ∧ k = 4 then c 20 f 4 + 1 else c 20 i k := by
  unfold arC
  by_cases w : i = f ∧ k = 4
  · rw [if_pos w, w.1, w.2, uC_eq]
  · rw [if_neg w, uC_ne _ _ (fun e => w e.2), bec_t _ _ _ (by decide) (by decide)]
theorem NL_arr {nl nf np T fn g : Nat} {A B : Nat → Nat} {c : CS} {s : SS} (h : NL nl nf np T fn g A B c s) (p : Nat) (hp : p < np) (h2 : s 23 p = 1) : NL nl nf np T fn g A B (x5_arriveF c nf np (nI p)) (uS s 23 p 3) ∧ ∃ f, x5_arriveF c nf np (nI p) = arC c p f := by
  obtain ⟨a1, a2, a3, a4, a5, a6, a7, a8, a9⟩ := h
  obtain ⟨f, f1, f2, f3, f4, f5⟩ := fr_ge a1 a6 hp (one_ne _ h2).2.2
  have hA : ∀ f, f < nf → A f < A (f + 1) := fun f hf => (a1.2.1 f hf).1
  have hnp := a1.1.2.1
  have hnf := a1.1.1
  obtain ⟨b1, b2, b3, b4, b5, b6⟩ := a2 p hp
  rw [arrive_eq hp hnp f1 hnf (by rw [b1, h2]; decide) ((a1.2.2 p hp).1.trans f5)]
  refine ⟨?_, f, rfl⟩
  have e1 : uS s 23 p 3 23 p = 3 := uS_eq _ _ _ _
  have eq : ∀ q, ¬ q = p → uS s 23 p 3 23 q = s 23 q := fun q hq => uS_k _ _ _ hq
  have ej : ∀ j, ¬ j = 23 → uS s 23 p 3 j = s j := fun j hj => by
    funext k
    exact uS_j _ _ _ hj
  have e0 : uS s 23 p 3 0 = s 0 := ej 0 (by decide)
  have c0 : arC c p f 0 = c 0 := ar_t _ _ _ (by decide)
  have ev : ∀ q, uS s 23 p 3 23 q = 0 ↔ s 23 q = 0 := by
    intro q
    by_cases w : q = p
    · rw [w, e1, h2]
      exact ⟨fun z => absurd z (by decide), fun z => absurd z (by decide)⟩
    · rw [eq q w]
  refine ⟨?_, ?_, CN_up a3 a2 hp (z := 3) (by decide) eq e1 (fun j => rfl), NW_up a4 (p := p) hp (fun q hq => ⟨eq q hq, by rw [ej 27 (by decide)], fun k _ => by rw [ej 30 (by decide)]⟩) (one_ne _ h2).1 (thr_ne _ e1).1, TH_up a5 hA f1 f3 f4 eq (one_ne _ h2).2.2 e1 (fun f' hf' => by rw [ar20, if_neg (fun z => hf' z.1)]) (by rw [ar20, if_pos ⟨rfl, rfl⟩]) (fun f' => by rw [ar20, if_neg (fun z => absurd z.2 (by decide))]) (ej 34 (by decide)), GV_up a6 eq (one_ne _ h2).2.2, GL_c a7 c0 e0, CR_c a8 c0 ev (ej 24 (by decide)) (ej 26 (by decide)) e0, TR_c a9 c0 (ar_t _ _ _ (by decide)) (ar_t _ _ _ (by decide)) e0 (ej 37 (by decide)) (ej 38 (by decide))⟩
  · refine FX_c a1 (fun q k hk => ?_) (fun f' k hk => ?_) (ar_t _ _ _ (by decide)) (ej _ (by decide)) (ej _ (by decide)) (ej _ (by decide)) (ej _ (by decide)) (ej _ (by decide)) (ej _ (by decide)) (ej _ (by decide)) (ej _ (by decide)) (by rw [ej _ (by decide)])
    · rw [ar18, if_neg (by omega)]
    · rw [ar20, if_neg (by omega)]
  · refine DY_up a2 p (fun q hq => ?_) (fun _ => ?_)
    · refine ⟨?_, ?_, ?_, fun k _ => by rw [ar_t _ _ _ (by decide)], eq q hq, by rw [ej _ (by decide)], by rw [ej _ (by decide)], fun k _ => by rw [ej _ (by decide)]⟩
      · rw [ar18, if_neg (fun z => hq z.1)]
      · rw [ar18, if_neg (fun z => hq z.1)]
      · rw [ar18, if_neg (fun z => hq z.1)]
    · rw [e1, ej 27 (by decide), ej 28 (by decide), ej 30 (by decide), ar_t _ _ _ (t := 19) (by decide)]
      refine ⟨?_, ?_, ?_, b4, ⟨3, rfl, by decide⟩, fun z => absurd z (by decide)⟩
      · rw [ar18, if_pos ⟨rfl, rfl⟩]
      · rw [ar18, if_neg (fun z => absurd z.2 (by decide))]
        exact b2
      · rw [ar18, if_neg (fun z => absurd z.2 (by decide))]
        exact b3
