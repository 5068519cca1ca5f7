/-! Making cells. -/
def zC (c : CS) (t i : Nat) : CS := fun t' i' k' => if t' = t ∧ i' = i then 0 else c t' i' k'
theorem zC_ne (c : CS) {t i t' i' : Nat} (k : Nat) (q : ¬ (t' = t ∧ i' = i)) : zC c t i t' i' k = c t' i' k := if_neg q
theorem zC_eq (c : CS) (t i k : Nat) : zC c t i t i k = 0 := if_pos ⟨rfl, rfl⟩
theorem pX_new (h : Hp) (c : CS) {t : Nat} (ht : t < 22) (n s : Nat) : newC (pX h c) t n s = pX (newC h t n s) (zC c t (hpC h t)) := by
  obtain ⟨a, b, e, f⟩ := h
  show (_, _, _, _) = (_, _, _, _)
  congr 3
  funext n' k'
  obtain ⟨n1, n2⟩ := n'
  show (if (n1, n2) = (t, a t) then 0 else if n1 < 22 then c n1 n2 k' else e (n1, n2) k') = if n1 < 22 then (if n1 = t ∧ n2 = a t then 0 else c n1 n2 k') else (if (n1, n2) = (t, a t) then 0 else e (n1, n2) k')
  by_cases q : n1 = t ∧ n2 = a t
  · obtain ⟨rfl, rfl⟩ := q
    rw [if_pos rfl, if_pos ht, if_pos ⟨rfl, rfl⟩]
  · have q2 : ¬ (n1, n2) = (t, a t) := fun z => by
      rw [Prod.mk.injEq] at z
      exact q z
    rw [if_neg q2, if_neg q, if_neg q2]
theorem pX_setR (h : Hp) (c : CS) (n : Nm) (k : Nat) (v : Option Nm) : setR (pX h c) n k v = pX (setR h n k v) c := rfl
theorem hC_new (h : Hp) (t n s t' : Nat) : hpC (newC h t n s) t' = if t' = t then hpC h t + 1 else hpC h t' := rfl
theorem hC_e (h : Hp) (t n s : Nat) : hpC (newC h t n s) t = hpC h t + 1 := if_pos rfl
theorem hC_n (h : Hp) {t n s t' : Nat} (q : ¬ t' = t) : hpC (newC h t n s) t' = hpC h t' := if_neg q
theorem hC_R (h : Hp) (n : Nm) (k : Nat) (v : Option Nm) (t : Nat) : hpC (setR h n k v) t = hpC h t := rfl
theorem hL_new (h : Hp) (t n s : Nat) (m : Nm) : hpL (newC h t n s) m = if m = (t, hpC h t) then n else hpL h m := rfl
theorem hL_R (h : Hp) (n : Nm) (k : Nat) (v : Option Nm) (m : Nm) : hpL (setR h n k v) m = hpL h m := rfl
theorem hR_new (h : Hp) (t n s : Nat) (m : Nm) (k : Nat) : hpR (newC h t n s) m k = if m = (t, hpC h t) then none else hpR h m k := rfl
theorem hR_R (h : Hp) (n : Nm) (k : Nat) (v : Option Nm) (m : Nm) (k' : Nat) : hpR (setR h n k v) m k' = if m = n ∧ k' = k then v else hpR h m k' := rfl
theorem hN_new (h : Hp) (t n s : Nat) : hpN (newC h t n s) = hpN h + 1 := rfl
theorem hS_new (h : Hp) (t n s : Nat) : hpS (newC h t n s) = hpS h + s := rfl
theorem hN_R (h : Hp) (n : Nm) (k : Nat) (v : Option Nm) : hpN (setR h n k v) = hpN h := rfl
theorem hS_R (h : Hp) (n : Nm) (k : Nat) (v : Option Nm) : hpS (setR h n k v) = hpS h := rfl
theorem gS_new (h : Hp) {t : Nat} (ht : t < 22) (n s : Nat) : gS (newC h t n s) = gS h := by
  funext j k
  show (if (22 + j, 0) = (t, h.1 t) then 0 else hpI h (22 + j, 0) k) = hpI h (22 + j, 0) k
  refine if_neg (fun z => ?_)
  rw [Prod.mk.injEq] at z
  omega
theorem gS_R (h : Hp) (n : Nm) (k : Nat) (v : Option Nm) : gS (setR h n k v) = gS h := rfl
section YR
variable {X : Nat × (Nat → Int32)} {y pc : Nat} {L : Ls} {st : St} {h : Hp} {c : CS} {Q : Option Vl → Hp → Prop} {len a b : Nat}
theorem y_p {t i ix : Nat} {v : Int32} (hc : cd y pc = some (.putfield ix, len, a, b)) (hk : kd t = a) (hf : fty a b = 0) (ht : t < 22) (hi : i < hpC h t) (k : wp X y (pc + len) L st (pX h (uC c t i b v)) Q) : wp X y pc L (vI v :: vR (some (t, i)) :: st) (pX h c) Q := by
  refine w_op hc (st' := st) (h1 := setI (pX h c) (t, i) b v) (C := live (pX h c) (t, i) ∧ kd t = a) ?_ ⟨hi, hk⟩ ?_
  · unfold op
    dsimp only
    rw [hf]
    rfl
  · rw [pX_set h c ht]
    exact k
theorem y_pB {t i ix : Nat} {v : Int32} (hc : cd y pc = some (.putfield ix, len, a, b)) (hk : kd t = a) (hf : fty a b = 1) (ht : t < 22) (hi : i < hpC h t) (hv : v = 0 ∨ v = 1) (k : wp X y (pc + len) L st (pX h (uC c t i b v)) Q) : wp X y pc L (vI v :: vR (some (t, i)) :: st) (pX h c) Q := by
  refine w_op hc (st' := st) (h1 := setI (pX h c) (t, i) b v) (C := live (pX h c) (t, i) ∧ kd t = a ∧ (v = 0 ∨ v = 1)) ?_ ⟨hi, hk, hv⟩ ?_
  · unfold op
    dsimp only
    rw [hf]
    rfl
  · rw [pX_set h c ht]
    exact k
theorem y_pR {t i ix : Nat} {m : Nm} (hc : cd y pc = some (.putfield ix, len, a, b)) (hk : kd t = a) (hf : fty a b = 2) (hi : i < hpC h t) (hm : m.2 < hpC h m.1) (k : wp X y (pc + len) L st (pX (setR h (t, i) b (some m)) c) Q) : wp X y pc L (vR (some m) :: vR (some (t, i)) :: st) (pX h c) Q := by
  refine w_op hc (st' := st) (h1 := setR (pX h c) (t, i) b (some m)) (C := live (pX h c) (t, i) ∧ kd t = a ∧ live (pX h c) m) ?_ ⟨hi, hk, hm⟩ k
  unfold op
  dsimp only
  rw [hf]
  rfl
theorem y_na {ty : ClassFile.ArrayType} {n : Int32} (N t i : Nat) (hc : cd y pc = some (.newarray ty, len, t, b)) (ht : t < 22) (hi : hpC h t = i) (hn : n = nI N) (hN : N ≤ 2000000) (k : wp X y (pc + len) L (vR (some (t, i)) :: st) (pX (newC h t N N) (zC c t i)) Q) : wp X y pc L (vI n :: st) (pX h c) Q := by
  subst hi hn
  refine w_op hc (st' := vR (some (t, hpC h t)) :: st) (h1 := newC (pX h c) t (nat (nI N)) (nat (nI N))) rfl ⟨nI_pos (by omega), by rw [nat_nI (by omega)]; exact hN⟩ ?_
  rw [nat_nI (by omega), pX_new h c ht]
  exact k
theorem y_new {ix : Nat} (t i sz : Nat) (hc : cd y pc = some (.new ix, len, t, b)) (ht : t < 22) (hi : hpC h t = i) (hs : nfl b = sz) (k : wp X y (pc + len) L (vR (some (t, i)) :: st) (pX (newC h t 0 sz) (zC c t i)) Q) : wp X y pc L st (pX h c) Q := by
  subst hi hs
  refine w_op hc (st' := vR (some (t, hpC h t)) :: st) (h1 := newC (pX h c) t 0 (nfl b)) rfl trivial ?_
  rw [pX_new h c ht]
  exact k
theorem y_obj {ix : Nat} {n : Nm} (hc : cd y pc = some (.invokespecial ix, len, 1000, b)) (hs : catS st ≤ 8) (k : wp X y (pc + len) L st (pX h c) Q) : wp X y pc L (vR (some n) :: st) (pX h c) Q := w_op hc (st' := st) rfl hs k
/-- a reference into a row of references that stands -/
theorem y_aR {t N : Nat} {x : Int32} {m : Nm} (j : Nat) (hc : cd y pc = some (.aastore, len, a, b)) (hi : 0 < hpC h t) (hk : kd t = 110 + kd m.1) (hk2 : kd m.1 < 10) (hm : m.2 < hpC h m.1) (hN : hpL h (t, 0) = N) (hN2 : N < 2147483648) (hx : x = nI j) (hj : j < N) (k : wp X y (pc + len) L st (pX (setR h (t, 0) j (some m)) c) Q) : wp X y pc L (vR (some m) :: vI x :: vR (some (t, 0)) :: st) (pX h c) Q := w_sq (h := pX h c) j hc hi hk hk2 hm hN hN2 hx hj k
/-- the same, by what stands -/
theorem y_g {t i ix : Nat} (hc : cd y pc = some (.getfield ix, len, a, b)) (hk : kd t = a) (hf : Nat.beq (fty a b) 2 = false) (ht : t < 22) (hi : i < hpC h t) (k : wp X y (pc + len) L (vI (c t i b) :: st) (pX h c) Q) : wp X y pc L (vR (some (t, i)) :: st) (pX h c) Q := by
  refine w_op hc (h1 := pX h c) (st' := vI (hpI (pX h c) (t, i) b) :: st) (C := live (pX h c) (t, i) ∧ kd t = a) ?_ ⟨hi, hk⟩ ?_
  · unfold op
    dsimp only
    generalize fty a b = v at hf ⊢
    match v, hf with
    | 0, _ => rfl
    | 1, _ => rfl
    | 2, q => cases q
    | n + 3, _ => rfl
  · rw [pX_at h c ht]
    exact k
theorem y_gR {t i ix : Nat} (tgt : Nat) (hc : cd y pc = some (.getfield ix, len, a, b)) (hk : kd t = a) (hf : fty a b = 2) (hj : srf a b = tgt) (hi : i < hpC h t) (hr : hpR h (t, i) b = some (tgt, i)) (k : wp X y (pc + len) L (vR (some (tgt, i)) :: st) (pX h c) Q) : wp X y pc L (vR (some (t, i)) :: st) (pX h c) Q := by
  subst hk hj
  refine w_op hc (h1 := pX h c) (st' := vR (some (srf (kd t) b, i)) :: st) (C := live (pX h c) (t, i) ∧ kd t = kd t ∧ hpR (pX h c) (t, i) b = some (srf (kd t) b, i)) ?_ ⟨hi, rfl, hr⟩ k
  unfold op
  dsimp only
  rw [hf]
  rfl
theorem y_len {t i : Nat} (N : Nat) (hc : cd y pc = some (.arraylength, len, 0, b)) (hk : 100 ≤ kd t) (hN : hpL h (t, i) = N) (hi : i < hpC h t) (k : wp X y (pc + len) L (vI (nI N) :: st) (pX h c) Q) : wp X y pc L (vR (some (t, i)) :: st) (pX h c) Q := by
  refine w_op hc (st' := vI (Int32.ofNat (hpL (pX h c) (t, i))) :: st) rfl ⟨hi, hk⟩ ?_
  rw [show hpL (pX h c) (t, i) = N from hN]
  exact k
theorem y_ab {t i : Nat} {x : Int32} (k N : Nat) (hc : cd y pc = some (.baload, len, 0, b)) (hk : kd t = 101) (hN : hpL h (t, i) = N) (hN2 : N < 2147483648) (ht : t < 22) (hi : i < hpC h t) (hx : x = nI k) (hkl : k < N) (kk : wp X y (pc + len) L (vI (c t i k) :: st) (pX h c) Q) : wp X y pc L (vI x :: vR (some (t, i)) :: st) (pX h c) Q := by
  refine w_ab k hc hi (Or.inl ⟨rfl, hk⟩) hN hN2 hx hkl ?_
  rw [pX_at h c ht]
  exact kk
end YR
