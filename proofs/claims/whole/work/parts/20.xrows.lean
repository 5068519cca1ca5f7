/-! The class's own numbers: c t i k, the k-th place of the i-th cell of the tag t (t below 22). -/
abbrev CS : Type := Nat → Nat → Nat → Int32
def gX (h : Hp) : CS := fun t i k => hpI h (t, i) k
def pX (h : Hp) (c : CS) : Hp := (h.1, h.2.1, fun n k => if n.1 < 22 then c n.1 n.2 k else h.2.2.1 n k, h.2.2.2)
def uC (c : CS) (t i k : Nat) (v : Int32) : CS := fun t' i' k' => if t' = t ∧ i' = i ∧ k' = k then v else c t' i' k'
theorem pX_at (h : Hp) (c : CS) {t : Nat} (ht : t < 22) (i k : Nat) : hpI (pX h c) (t, i) k = c t i k := if_pos ht
theorem pX_gX (h : Hp) : pX h (gX h) = h := by
  obtain ⟨a, b, c, d⟩ := h
  show (a, b, _, d) = (a, b, c, d)
  congr 3
  funext n k
  by_cases q : n.1 < 22
  · rw [if_pos q]
    rfl
  · rw [if_neg q]
theorem pX_pX (h : Hp) (c d : CS) : pX (pX h c) d = pX h d := by
  obtain ⟨a, b, e, f⟩ := h
  show (a, b, _, f) = (a, b, _, f)
  congr 3
  funext n k
  by_cases q : n.1 < 22
  · rw [if_pos q, if_pos q]
  · rw [if_neg q, if_neg q]
    exact if_neg q
theorem pX_set (h : Hp) (c : CS) {t : Nat} (ht : t < 22) (i k : Nat) (v : Int32) : setI (pX h c) (t, i) k v = pX h (uC c t i k v) := by
  obtain ⟨a, b, e, f⟩ := h
  show (a, b, _, f) = (a, b, _, f)
  congr 3
  funext n k'
  obtain ⟨n1, n2⟩ := n
  show (if (n1, n2) = (t, i) ∧ k' = k then v else if n1 < 22 then c n1 n2 k' else e (n1, n2) k') = if n1 < 22 then uC c t i k v n1 n2 k' else e (n1, n2) k'
  unfold uC
  have eq : ((n1, n2) = (t, i) ∧ k' = k) ↔ (n1 = t ∧ n2 = i ∧ k' = k) := by
    rw [Prod.mk.injEq]
    exact and_assoc
  by_cases q : n1 = t ∧ n2 = i ∧ k' = k
  · rw [if_pos (eq.mpr q), if_pos (by rw [q.1]; exact ht), if_pos q]
  · rw [if_neg (fun z => q (eq.mp z)), if_neg q]
theorem gS_pX (h : Hp) (c : CS) : gS (pX h c) = gS h := by
  funext j k
  show (if 22 + j < 22 then _ else hpI h (22 + j, 0) k) = hpI h (22 + j, 0) k
  exact if_neg (by omega)
theorem uC_eq (c : CS) (t i k : Nat) (v : Int32) : uC c t i k v t i k = v := if_pos ⟨rfl, rfl, rfl⟩
theorem uC_ne (c : CS) {t i k : Nat} (v : Int32) {t' i' k' : Nat} (q : ¬ (t' = t ∧ i' = i ∧ k' = k)) : uC c t i k v t' i' k' = c t' i' k' := if_neg q
theorem uC_t (c : CS) {t : Nat} (i k : Nat) (v : Int32) {t' : Nat} (i' k' : Nat) (q : ¬ t' = t) : uC c t i k v t' i' k' = c t' i' k' := if_neg (fun z => q z.1)
theorem uC_i (c : CS) (t : Nat) {i : Nat} (k : Nat) (v : Int32) (t' : Nat) {i' : Nat} (k' : Nat) (q : ¬ i' = i) : uC c t i k v t' i' k' = c t' i' k' := if_neg (fun z => q z.2.1)
theorem uC_k (c : CS) (t i : Nat) {k : Nat} (v : Int32) (t' i' : Nat) {k' : Nat} (q : ¬ k' = k) : uC c t i k v t' i' k' = c t' i' k' := if_neg (fun z => q z.2.2)
theorem msk {m : Int32} (e : Nat) (x : Int32) (hm : m.toBitVec.toNat = 2 ^ e - 1) (he : e ≤ 12) : x &&& m = nI (nat (x &&& m)) ∧ nat (x &&& m) < 2 ^ e := by
  obtain ⟨j, hj, q⟩ := pk_andE x e hm
  have : (2 : Nat) ^ e ≤ 2 ^ 12 := Nat.pow_le_pow_right (by decide) he
  rw [q, nat_nI (by omega)]
  exact ⟨rfl, hj⟩
section XR
variable {X : Nat × (Nat → Int32)} {y pc : Nat} {L : Ls} {st : St} {h : Hp} {c : CS} {Q : Option Vl → Hp → Prop} {len a b : Nat} {nl nf np : Nat}
theorem x_g {t i ix : Nat} (hw : WF h nl nf np) (hc : cd y pc = some (.getfield ix, len, a, b)) (hk : kd t = a) (hf : Nat.beq (fty a b) 2 = false) (ht : t < 22) (hi : i < cntOf nl nf np t) (k : wp X y (pc + len) L (vI (c t i b) :: st) (pX h c) Q) : wp X y pc L (vR (some (t, i)) :: st) (pX h c) Q := by
  refine w_op hc (h1 := pX h c) (st' := vI (hpI (pX h c) (t, i) b) :: st) (C := live (pX h c) (t, i) ∧ kd t = a) ?_ ⟨wl hw hi, hk⟩ ?_
  · unfold op
    dsimp only
    generalize fty a b = v at hf ⊢
    match v, hf with
    | 0, _ => rfl
    | 1, _ => rfl
    | 2, q => cases q
    | n + 3, _ => rfl
  · rw [pX_at h c ht]
    exact k
theorem x_gR {t i ix : Nat} (tgt : Nat) (hw : WF h nl nf np) (hc : cd y pc = some (.getfield ix, len, a, b)) (hk : kd t = a) (hf : fty a b = 2) (hj : srf a b = tgt) (hi : i < cntOf nl nf np t) (k : wp X y (pc + len) L (vR (some (tgt, i)) :: st) (pX h c) Q) : wp X y pc L (vR (some (t, i)) :: st) (pX h c) Q := by
  subst hk hj
  refine w_op hc (h1 := pX h c) (st' := vR (some (srf (kd t) b, i)) :: st) (C := live (pX h c) (t, i) ∧ kd t = kd t ∧ hpR (pX h c) (t, i) b = some (srf (kd t) b, i)) ?_ ⟨wl hw hi, rfl, wr hw hi hf⟩ k
  unfold op
  dsimp only
  rw [hf]
  rfl
theorem x_p {t i ix : Nat} {v : Int32} (hw : WF h nl nf np) (hc : cd y pc = some (.putfield ix, len, a, b)) (hk : kd t = a) (hf : fty a b = 0) (ht : t < 22) (hi : i < cntOf nl nf np t) (k : wp X y (pc + len) L st (pX h (uC c t i b v)) Q) : wp X y pc L (vI v :: vR (some (t, i)) :: st) (pX h c) Q := by
  refine w_op hc (st' := st) (h1 := setI (pX h c) (t, i) b v) (C := live (pX h c) (t, i) ∧ kd t = a) ?_ ⟨wl hw hi, hk⟩ ?_
  · unfold op
    dsimp only
    rw [hf]
    rfl
  · rw [pX_set h c ht]
    exact k
theorem x_pB {t i ix : Nat} {v : Int32} (hw : WF h nl nf np) (hc : cd y pc = some (.putfield ix, len, a, b)) (hk : kd t = a) (hf : fty a b = 1) (ht : t < 22) (hi : i < cntOf nl nf np t) (hv : v = 0 ∨ v = 1) (k : wp X y (pc + len) L st (pX h (uC c t i b v)) Q) : wp X y pc L (vI v :: vR (some (t, i)) :: st) (pX h c) Q := by
  refine w_op hc (st' := st) (h1 := setI (pX h c) (t, i) b v) (C := live (pX h c) (t, i) ∧ kd t = a ∧ (v = 0 ∨ v = 1)) ?_ ⟨wl hw hi, hk, hv⟩ ?_
  · unfold op
    dsimp only
    rw [hf]
    rfl
  · rw [pX_set h c ht]
    exact k
theorem x_ai {t i : Nat} {x : Int32} (k N : Nat) (hw : WF h nl nf np) (hc : cd y pc = some (.iaload, len, 0, b)) (hk : kd t = 100) (hN : slen t = N) (ht : t < 22) (hi : i < cntOf nl nf np t) (hx : x = nI k) (hkl : k < N) (kk : wp X y (pc + len) L (vI (c t i k) :: st) (pX h c) Q) : wp X y pc L (vI x :: vR (some (t, i)) :: st) (pX h c) Q := by
  subst hN
  refine w_ai k hc (wl hw hi) hk (wn hw hi (by omega)) (slen_lt _) hx hkl ?_
  rw [pX_at h c ht]
  exact kk
theorem x_ab {t i : Nat} {x : Int32} (k N : Nat) (hw : WF h nl nf np) (hc : cd y pc = some (.baload, len, 0, b)) (hk : kd t = 101) (hN : slen t = N) (ht : t < 22) (hi : i < cntOf nl nf np t) (hx : x = nI k) (hkl : k < N) (kk : wp X y (pc + len) L (vI (c t i k) :: st) (pX h c) Q) : wp X y pc L (vI x :: vR (some (t, i)) :: st) (pX h c) Q := by
  subst hN
  refine w_ab k hc (wl hw hi) (Or.inl ⟨rfl, hk⟩) (wn hw hi (by omega)) (slen_lt _) hx hkl ?_
  rw [pX_at h c ht]
  exact kk
theorem x_abL {t i : Nat} {x : Int32} (k N : Nat) (hw : WF h nl nf np) (hc : cd y pc = some (.baload, len, 0, b)) (hk : kd t = 101) (hN : hpL h (t, i) = N) (hN2 : N < 2147483648) (ht : t < 22) (hi : i < cntOf nl nf np t) (hx : x = nI k) (hkl : k < N) (kk : wp X y (pc + len) L (vI (c t i k) :: st) (pX h c) Q) : wp X y pc L (vI x :: vR (some (t, i)) :: st) (pX h c) Q := by
  refine w_ab k hc (wl hw hi) (Or.inl ⟨rfl, hk⟩) hN hN2 hx hkl ?_
  rw [pX_at h c ht]
  exact kk
theorem x_si {t i : Nat} {x v : Int32} (k N : Nat) (hw : WF h nl nf np) (hc : cd y pc = some (.iastore, len, a, b)) (hk : kd t = 100) (hN : slen t = N) (ht : t < 22) (hi : i < cntOf nl nf np t) (hx : x = nI k) (hkl : k < N) (kk : wp X y (pc + len) L st (pX h (uC c t i k v)) Q) : wp X y pc L (vI v :: vI x :: vR (some (t, i)) :: st) (pX h c) Q := by
  subst hN
  refine w_si k hc (wl hw hi) hk (wn hw hi (by omega)) (slen_lt _) hx hkl ?_
  rw [pX_set h c ht]
  exact kk
theorem x_sb {t i : Nat} {x v : Int32} (k N : Nat) (hw : WF h nl nf np) (hc : cd y pc = some (.bastore, len, 0, b)) (hk : kd t = 101) (hN : slen t = N) (ht : t < 22) (hi : i < cntOf nl nf np t) (hx : x = nI k) (hkl : k < N) (kk : wp X y (pc + len) L st (pX h (uC c t i k v.toInt8.toInt32)) Q) : wp X y pc L (vI v :: vI x :: vR (some (t, i)) :: st) (pX h c) Q := by
  subst hN
  refine w_sb k hc (wl hw hi) hk (wn hw hi (by omega)) (slen_lt _) hx hkl ?_
  rw [pX_set h c ht]
  exact kk
theorem x_len {t i : Nat} (N : Nat) (hw : WF h nl nf np) (hc : cd y pc = some (.arraylength, len, 0, b)) (hk : 100 ≤ kd t) (hN : slen t = N) (hN0 : 0 < N) (hi : i < cntOf nl nf np t) (k : wp X y (pc + len) L (vI (nI N) :: st) (pX h c) Q) : wp X y pc L (vR (some (t, i)) :: st) (pX h c) Q := by
  refine w_op hc (st' := vI (Int32.ofNat (hpL (pX h c) (t, i))) :: st) rfl ⟨wl hw hi, hk⟩ ?_
  rw [show hpL (pX h c) (t, i) = N by rw [← hN]; exact wn hw hi (by omega)]
  exact k
theorem x_lenL {t i : Nat} (N : Nat) (hw : WF h nl nf np) (hc : cd y pc = some (.arraylength, len, 0, b)) (hk : 100 ≤ kd t) (hN : hpL h (t, i) = N) (hi : i < cntOf nl nf np t) (k : wp X y (pc + len) L (vI (nI N) :: st) (pX h c) Q) : wp X y pc L (vR (some (t, i)) :: st) (pX h c) Q := by
  refine w_op hc (st' := vI (Int32.ofNat (hpL (pX h c) (t, i))) :: st) rfl ⟨wl hw hi, hk⟩ ?_
  rw [show hpL (pX h c) (t, i) = N from hN]
  exact k
theorem x_aR {t : Nat} {x : Int32} (k tgt N : Nat) (hw : WF h nl nf np) (hc : cd y pc = some (.aaload, len, a, b)) (he : ety t = tgt) (hk : kd t = 110 + kd tgt) (hk2 : kd tgt < 10) (hN : slen t = N) (hi : 0 < cntOf nl nf np t) (hx : x = nI k) (hkl : k < N) (hr : hpR h (t, 0) k = some (tgt, k)) (kk : wp X y (pc + len) L (vR (some (tgt, k)) :: st) (pX h c) Q) : wp X y pc L (vI x :: vR (some (t, 0)) :: st) (pX h c) Q := by
  subst hN he
  exact w_aq k (ety t) hc rfl (wl hw hi) hk hk2 (wn hw hi (by omega)) (slen_lt _) hx hkl hr kk
end XR
