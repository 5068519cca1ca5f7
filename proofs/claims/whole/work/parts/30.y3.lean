/-! Frames and pieces made: copyOf, the constructor, sums by what stands. -/
def fC (c : CS) (t i : Nat) (f : Nat → Int32) : CS := fun t' i' k' => if t' = t ∧ i' = i then f k' else c t' i' k'
theorem pX_setF (h : Hp) (c : CS) {t : Nat} (ht : t < 22) (i : Nat) (f : Nat → Int32) : setF (pX h c) (t, i) f = pX h (fC c t i f) := by
  obtain ⟨a, b, e, g⟩ := h
  refine Prod.ext rfl (Prod.ext rfl (Prod.ext ?_ rfl))
  funext n' k'
  obtain ⟨n1, n2⟩ := n'
  show (if (n1, n2) = (t, i) then f k' else if n1 < 22 then c n1 n2 k' else e (n1, n2) k') = if n1 < 22 then (if n1 = t ∧ n2 = i then f k' else c n1 n2 k') else e (n1, n2) k'
  by_cases q : n1 = t ∧ n2 = i
  · obtain ⟨rfl, rfl⟩ := q
    rw [if_pos rfl, if_pos ht, if_pos ⟨rfl, rfl⟩]
  · have q2 : ¬ (n1, n2) = (t, i) := fun z => by
      rw [Prod.mk.injEq] at z
      exact q z
    rw [if_neg q2, if_neg q]
theorem Eo_f {a b i : Nat} {c c' : CS} {t : Nat} (f : Nat → Int32) (h : a ≤ t ∧ t ≤ b) (e : Eo a b i c c') : Eo a b i c (fC c' t i f) := fun t' i' k' q => by
  show (if t' = t ∧ i' = i then f k' else c' t' i' k') = c t' i' k'
  rw [if_neg (fun z => q ⟨z.2, by omega⟩)]
  exact e t' i' k' q
theorem y_copyOf (X : Nat × (Nat → Int32)) (h : Hp) (c : CS) (i t : Nat) (h5 : 0 < hpC h 5) (hl : hpL h (5, 0) = 4000) (h21 : hpC h 21 = i) (ht : t ≤ 4000) : wp X 132 0 [some (vR (some (5, 0))), some (vI (nI t)), none] [] (pX h c) (fun r h' => r = some (vR (some (21, i))) ∧ ∃ c', h' = pX (newC h 21 t t) c' ∧ Eo 21 21 i c c' ∧ ∀ k, k < t → c' 21 i k = c 5 0 k) := by
  have hl' : hpL (pX h c) (5, 0) = 4000 := hl
  refine w_pu rfl rfl ?_
  refine w_pu rfl rfl ?_
  refine y_len 4000 rfl (by decide) hl h5 ?_
  refine w_ne rfl (fun c0 => ?_) (fun c0 => ?_)
  · refine w_pu rfl rfl ?_
    refine y_na t 21 i rfl (by decide) h21 rfl (by omega) ?_
    refine w_pu rfl rfl ?_
    refine w_pu rfl rfl ?_
    refine w_cst (v := 0) rfl rfl rfl ?_
    refine w_pu rfl rfl ?_
    refine w_cst (v := 0) rfl rfl rfl ?_
    refine w_pu rfl rfl ?_
    refine y_len 4000 rfl (by decide) (by rw [hL_new, if_neg (fun z => by rw [Prod.mk.injEq] at z; exact absurd z.1 (by decide))]; exact hl) (by rw [hC_n _ (by decide)]; exact h5) ?_
    refine w_pu rfl rfl ?_
    refine w_op rfl rfl (Nat.le_of_ble_eq_true rfl) ?_
    refine w_top (nI t) ?_ ?_
    · split
      · rfl
      · next q => exact absurd (by rw [show t = 4000 by have := (nI_leI (a := 4000) (b := t) (by omega) (by omega)).mp (Int32.not_lt.mp q); omega]) c0
    refine w_op rfl rfl ⟨Nat.le_of_ble_eq_true rfl, ?_, ?_, rfl, rfl, by decide, by decide, nI_pos (by omega), ?_, ?_⟩ ?_
    · show 0 < hpC (newC h 21 t t) 5
      rw [hC_n _ (by decide)]
      exact h5
    · show i < hpC (newC h 21 t t) 21
      rw [hC_e, h21]
      omega
    · rw [nat_nI (by omega)]
      show 0 + t ≤ hpL (newC h 21 t t) (5, 0)
      rw [hL_new, if_neg (fun z => by rw [Prod.mk.injEq] at z; exact absurd z.1 (by decide)), hl]
      omega
    · rw [nat_nI (by omega)]
      show 0 + t ≤ hpL (newC h 21 t t) (21, i)
      rw [hL_new, if_pos (by rw [h21])]
      omega
    rw [pX_setF _ _ (by decide)]
    refine w_pu rfl rfl ?_
    refine w_rt rfl rfl trivial ⟨rfl, _, rfl, Eo_f _ (by decide) (Eo_z (by decide) (Eo_r _ _ _ _)), fun k hk => ?_⟩
    show (if 21 = 21 ∧ i = i then _ else _) = _
    rw [if_pos ⟨rfl, rfl⟩]
    have hb : nat 0 ≤ k ∧ k < nat 0 + nat (nI t) := ⟨Nat.zero_le _, by rw [nat_nI (by omega)]; show k < 0 + t; omega⟩
    dsimp only
    rw [if_pos hb]
    show hpI (pX (newC h 21 t t) (zC c 21 i)) (5, 0) (0 + (k - 0)) = _
    rw [pX_at _ _ (by decide), Nat.zero_add, Nat.sub_zero, zC_ne _ _ (fun z => absurd z.1 (by decide))]
  · have et : t = 4000 := by
      have := congrArg nat c0
      rwa [nat_nI (by omega), show nat (nI 4000) = 4000 from rfl] at this
    subst et
    refine w_pu rfl rfl ?_
    refine w_op rfl rfl ⟨Nat.le_of_ble_eq_true rfl, h5, rfl⟩ ?_
    rw [hl', pX_new _ _ (by decide), show hpC (pX h c) 21 = i from h21, h21, pX_setF _ _ (by decide)]
    refine w_op rfl rfl ⟨?_, rfl⟩ ?_
    · show i < hpC (newC h 21 4000 4000) 21
      rw [hC_e, h21]
      omega
    refine w_rt rfl rfl trivial ⟨rfl, _, rfl, Eo_f _ (by decide) (Eo_z (by decide) (Eo_r _ _ _ _)), fun k hk => ?_⟩
    show (if 21 = 21 ∧ i = i then _ else _) = _
    rw [if_pos ⟨rfl, rfl⟩]
    exact pX_at h c (by decide) 0 k
def FH (h : Hp) (i : Nat) : Hp := setR h (20, i) 0 (some (21, i))
def FCc (c : CS) (i t : Nat) (p r : Int32) : CS := uC (uC (uC (uC c 20 i 1 (nI t)) 20 i 2 p) 20 i 3 r) 20 i 5 (-9)
theorem y0_init (X : Nat × (Nat → Int32)) (h : Hp) (c : CS) (i t : Nat) (p r : Int32) (h20 : i < hpC h 20) (h21 : i < hpC h 21) (hl : hpL h (21, i) = t) : wp X 0 0 [some (vR (some (20, i))), some (vR (some (21, i))), some (vI p), some (vI r)] [] (pX h c) (fun r' h' => r' = none ∧ h' = pX (FH h i) (FCc c i t p r)) := by
  refine w_pu rfl rfl ?_
  refine y_obj rfl (Nat.le_of_ble_eq_true rfl) ?_
  refine w_pu rfl rfl ?_
  refine w_pu rfl rfl ?_
  refine y_pR rfl rfl rfl (by (try simp (config := {decide := true}) only [hC_R, hC_pX, hL_pX, hC_new, hL_R, hL_new, hR_R, hR_new, Prod.mk.injEq, reduceIte, and_true, true_and, and_false, false_and, hl]); first | done | omega) (by (try simp (config := {decide := true}) only [hC_R, hC_pX, hL_pX, hC_new, hL_R, hL_new, hR_R, hR_new, Prod.mk.injEq, reduceIte, and_true, true_and, and_false, false_and, hl]); first | done | omega) ?_
  refine w_pu rfl rfl ?_
  refine w_pu rfl rfl ?_
  refine y_len t rfl (by decide) (by (try simp (config := {decide := true}) only [hC_R, hC_pX, hL_pX, hC_new, hL_R, hL_new, hR_R, hR_new, Prod.mk.injEq, reduceIte, and_true, true_and, and_false, false_and, hl]); first | done | omega) (by (try simp (config := {decide := true}) only [hC_R, hC_pX, hL_pX, hC_new, hL_R, hL_new, hR_R, hR_new, Prod.mk.injEq, reduceIte, and_true, true_and, and_false, false_and, hl]); first | done | omega) ?_
  refine y_p rfl rfl rfl (by decide) (by (try simp (config := {decide := true}) only [hC_R, hC_pX, hL_pX, hC_new, hL_R, hL_new, hR_R, hR_new, Prod.mk.injEq, reduceIte, and_true, true_and, and_false, false_and, hl]); first | done | omega) ?_
  refine w_pu rfl rfl ?_
  refine w_pu rfl rfl ?_
  refine y_p rfl rfl rfl (by decide) (by (try simp (config := {decide := true}) only [hC_R, hC_pX, hL_pX, hC_new, hL_R, hL_new, hR_R, hR_new, Prod.mk.injEq, reduceIte, and_true, true_and, and_false, false_and, hl]); first | done | omega) ?_
  refine w_pu rfl rfl ?_
  refine w_pu rfl rfl ?_
  refine y_p rfl rfl rfl (by decide) (by (try simp (config := {decide := true}) only [hC_R, hC_pX, hL_pX, hC_new, hL_R, hL_new, hR_R, hR_new, Prod.mk.injEq, reduceIte, and_true, true_and, and_false, false_and, hl]); first | done | omega) ?_
  refine w_pu rfl rfl ?_
  refine w_cst (v := (-9)) rfl rfl rfl ?_
  refine y_p rfl rfl rfl (by decide) (by (try simp (config := {decide := true}) only [hC_R, hC_pX, hL_pX, hC_new, hL_R, hL_new, hR_R, hR_new, Prod.mk.injEq, reduceIte, and_true, true_and, and_false, false_and, hl]); first | done | omega) ?_
  refine w_rt rfl rfl trivial ?_
  exact ⟨rfl, rfl⟩
def FrS (h : Hp) (c : CS) (f : Nat) : Prop := f < hpC h 20 ∧ f < hpC h 21 ∧ hpR h (20, f) 0 = some (21, f) ∧ FrOK h c f
theorem y0_byteAt (X : Nat × (Nat → Int32)) (h : Hp) (c : CS) (f : Nat) (i : Int32) (hS : FrS h c f) : wp X 1 0 [some (vR (some (20, f))), some (vI i)] [] (pX h c) (fun r h' => r = some (vI (x0_byteAtF c f i)) ∧ h' = pX h c) := by
  obtain ⟨s1, s2, s3, hF⟩ := hS
  refine w_pu rfl rfl ?_
  refine w_lt0 rfl (fun c0 => ?_) (fun c0 => ?_)
  · refine w_cst (v := 0) rfl rfl rfl ?_
    refine w_go rfl ?_
    refine w_rt rfl rfl trivial ?_
    exact ⟨by rw [x0_byteAtF, if_pos c0], rfl⟩
  · refine w_pu rfl rfl ?_
    refine w_pu rfl rfl ?_
    refine y_gR 21 rfl rfl rfl rfl (by (try simp (config := {decide := true}) only [hC_R, hC_pX, hL_pX, hC_new, hL_R, hL_new, hR_R, hR_new, Prod.mk.injEq, reduceIte, and_true, true_and, and_false, false_and, and_self]); first | done | omega) s3 ?_
    refine y_len (nat (c 20 f 1)) rfl (by decide) hF.1 s2 ?_
    refine w_top (c 20 f 1) hF.2.symm ?_
    refine w_lt rfl (fun c1 => ?_) (fun c1 => ?_)
    · obtain ⟨e1, e2⟩ := rng (m := nat (c 20 f 1)) c0 (by rw [← hF.2]; exact c1) (nat_lt _)
      refine w_pu rfl rfl ?_
      refine y_gR 21 rfl rfl rfl rfl (by (try simp (config := {decide := true}) only [hC_R, hC_pX, hL_pX, hC_new, hL_R, hL_new, hR_R, hR_new, Prod.mk.injEq, reduceIte, and_true, true_and, and_false, false_and, and_self]); first | done | omega) s3 ?_
      refine w_pu rfl rfl ?_
      refine y_ab (nat i) (nat (c 20 f 1)) rfl rfl hF.1 (nat_lt _) (by decide) s2 e1 e2 ?_
      refine w_cst (v := 255) rfl rfl rfl ?_
      refine w_pu rfl rfl ?_
      refine w_rt rfl rfl trivial ?_
      exact ⟨by rw [x0_byteAtF, if_neg c0, if_pos c1], rfl⟩
    · refine w_cst (v := 0) rfl rfl rfl ?_
      refine w_go rfl ?_
      refine w_rt rfl rfl trivial ?_
      exact ⟨by rw [x0_byteAtF, if_neg c0, if_neg c1], rfl⟩
theorem y0_sumOf (X : Nat × (Nat → Int32)) (h : Hp) (c : CS) (f : Nat) (a n : Int32) (hS : FrS h c f) : wp X 2 0 [some (vR (some (20, f))), some (vI a), some (vI n), none, none] [] (pX h c) (fun r h' => r = some (vI (sumC c f a (dI 0 n) 0 0)) ∧ h' = pX h c) := by
  have loop : ∀ d v s, dI v n = d → wp X 2 5 [some (vR (some (20, f))), some (vI a), some (vI n), some (vI s), some (vI v)] [] (pX h c) (fun r h' => r = some (vI (sumC c f a d v s)) ∧ h' = pX h c) := by
    intro d
    induction d with
    | zero =>
      intro v s hd
      rw [sumC]
      refine w_pu rfl rfl ?_
      refine w_pu rfl rfl ?_
      refine w_ge rfl (fun c0 => ?_) (fun c0 => ?_)
      · refine w_pu rfl rfl ?_
        refine w_rt rfl rfl trivial ?_
        exact ⟨rfl, rfl⟩
      · exact absurd (dI_0 hd) c0
    | succ d ih =>
      intro v s hd
      obtain ⟨d1, d2⟩ := dI_s hd
      rw [sumC]
      refine w_pu rfl rfl ?_
      refine w_pu rfl rfl ?_
      refine w_ge rfl (fun c0 => ?_) (fun c0 => ?_)
      · exact absurd d1 (Int32.not_lt.mpr c0)
      · refine w_pu rfl rfl ?_
        refine w_pu rfl rfl ?_
        refine w_pu rfl rfl ?_
        refine w_pu rfl rfl ?_
        refine w_pu rfl rfl ?_
        refine w_cp (vI (x0_byteAtF c f (a + v))) rfl rfl (by decide) (Nat.le_of_ble_eq_true rfl) rfl (Nat.le_of_ble_eq_true rfl) (Nat.le_of_ble_eq_true rfl) ⟨hS.1, rfl⟩ rfl (y0_byteAt X h c f (a + v) hS) ?_
        refine w_pu rfl rfl ?_
        refine w_cst (v := 1) rfl rfl rfl ?_
        refine w_pu rfl rfl ?_
        refine w_pu rfl rfl ?_
        refine w_pu rfl rfl ?_
        refine w_pu rfl rfl ?_
        refine w_inc (v := 1) rfl rfl rfl rfl ?_
        refine w_go rfl ?_
        exact ih _ _ d2
  refine w_cst (v := 0) rfl rfl rfl ?_
  refine w_pu rfl rfl ?_
  refine w_cst (v := 0) rfl rfl rfl ?_
  refine w_pu rfl rfl ?_
  exact loop _ 0 0 rfl
