/-! The first heap. -/
def h0 : Hp := (fun _ => 0, fun _ => 0, fun _ _ => 0, fun _ _ => none, 0, 0)
def hB : Hp := BH (newC h0 0 0 18)
def hI : Hp := MH (newC hB 22 0 47)
def BigC (h : Hp) : Prop := ∀ t, 61 ≤ t → hpC h t = 0
theorem Big_n {h : Hp} {t : Nat} (n s : Nat) (q : t < 61) (b : BigC h) : BigC (newC h t n s) := fun t' z => by
  rw [hC_n _ (by omega)]
  exact b t' z
def IsI (h : Hp) (f : Nm → Nat → Int32) : Prop := ∀ m k, hpI h m k = f m k
theorem Is_n {h : Hp} {f : Nm → Nat → Int32} {t : Nat} (n s : Nat) (q : ∀ i k, f (t, i) k = 0) (b : IsI h f) : IsI (newC h t n s) f := fun m k => by
  rw [hI_new]
  split
  · next z =>
    rw [z, q]
  · exact b m k
theorem Is_R {h : Hp} {f : Nm → Nat → Int32} (n : Nm) (k : Nat) (v : Option Nm) (b : IsI h f) : IsI (setR h n k v) f := b
theorem Is_I {h : Hp} {f : Nm → Nat → Int32} (n : Nm) (k : Nat) (v : Int32) (b : IsI h f) : IsI (setI h n k v) (fun m k' => if m = n ∧ k' = k then v else f m k') := fun m k' => by
  rw [hI_I]
  by_cases q : m = n ∧ k' = k
  · rw [if_pos q]
    exact (if_pos q).symm
  · rw [if_neg q]
    exact (b m k').trans (if_neg q).symm
def f1 : Nm → Nat → Int32 := fun _ _ => 0
def f2 : Nm → Nat → Int32 := fun m k' => if m = (0, 0) ∧ k' = 13 then 250 else f1 m k'
def f3 : Nm → Nat → Int32 := fun m k' => if m = (0, 0) ∧ k' = 14 then 8000 else f2 m k'
def f4 : Nm → Nat → Int32 := fun m k' => if m = (22, 0) ∧ k' = 43 then 250 else f3 m k'
def f5 : Nm → Nat → Int32 := fun m k' => if m = (22, 0) ∧ k' = 44 then 8000 else f4 m k'
theorem f3_n {t : Nat} (q : ¬ t = 0) (i k : Nat) : f3 (t, i) k = 0 := by
  unfold f3 f2
  rw [if_neg (fun z => by have z := z.1; rw [Prod.mk.injEq] at z; exact q z.1), if_neg (fun z => by have z := z.1; rw [Prod.mk.injEq] at z; exact q z.1)]
  rfl
theorem f5_n {t : Nat} (q : ¬ t = 0) (q2 : ¬ t = 22) (i k : Nat) : f5 (t, i) k = 0 := by
  unfold f5 f4
  rw [if_neg (fun z => by have z := z.1; rw [Prod.mk.injEq] at z; exact q2 z.1), if_neg (fun z => by have z := z.1; rw [Prod.mk.injEq] at z; exact q2 z.1)]
  exact f3_n q i k
theorem hI_Big : BigC hI := by
  unfold hI MH hB BH
  refine (show ∀ h : Hp, BigC h → BigC (setR h _ _ _) from fun h b => b) _ ?_
  refine Big_n _ _ (by decide) ?_
  refine (show ∀ h : Hp, BigC h → BigC (setI h _ _ _) from fun h b => b) _ ?_
  refine (show ∀ h : Hp, BigC h → BigC (setI h _ _ _) from fun h b => b) _ ?_
  refine (show ∀ h : Hp, BigC h → BigC (setR h _ _ _) from fun h b => b) _ ?_
  refine Big_n _ _ (by decide) ?_
  refine (show ∀ h : Hp, BigC h → BigC (setR h _ _ _) from fun h b => b) _ ?_
  refine Big_n _ _ (by decide) ?_
  refine (show ∀ h : Hp, BigC h → BigC (setR h _ _ _) from fun h b => b) _ ?_
  refine Big_n _ _ (by decide) ?_
  refine (show ∀ h : Hp, BigC h → BigC (setR h _ _ _) from fun h b => b) _ ?_
  refine Big_n _ _ (by decide) ?_
  refine (show ∀ h : Hp, BigC h → BigC (setR h _ _ _) from fun h b => b) _ ?_
  refine Big_n _ _ (by decide) ?_
  refine (show ∀ h : Hp, BigC h → BigC (setR h _ _ _) from fun h b => b) _ ?_
  refine Big_n _ _ (by decide) ?_
  refine (show ∀ h : Hp, BigC h → BigC (setR h _ _ _) from fun h b => b) _ ?_
  refine Big_n _ _ (by decide) ?_
  refine (show ∀ h : Hp, BigC h → BigC (setR h _ _ _) from fun h b => b) _ ?_
  refine Big_n _ _ (by decide) ?_
  refine (show ∀ h : Hp, BigC h → BigC (setR h _ _ _) from fun h b => b) _ ?_
  refine Big_n _ _ (by decide) ?_
  refine (show ∀ h : Hp, BigC h → BigC (setR h _ _ _) from fun h b => b) _ ?_
  refine Big_n _ _ (by decide) ?_
  refine (show ∀ h : Hp, BigC h → BigC (setR h _ _ _) from fun h b => b) _ ?_
  refine Big_n _ _ (by decide) ?_
  refine (show ∀ h : Hp, BigC h → BigC (setR h _ _ _) from fun h b => b) _ ?_
  refine Big_n _ _ (by decide) ?_
  refine (show ∀ h : Hp, BigC h → BigC (setR h _ _ _) from fun h b => b) _ ?_
  refine Big_n _ _ (by decide) ?_
  refine (show ∀ h : Hp, BigC h → BigC (setR h _ _ _) from fun h b => b) _ ?_
  refine Big_n _ _ (by decide) ?_
  refine (show ∀ h : Hp, BigC h → BigC (setR h _ _ _) from fun h b => b) _ ?_
  refine Big_n _ _ (by decide) ?_
  refine (show ∀ h : Hp, BigC h → BigC (setR h _ _ _) from fun h b => b) _ ?_
  refine Big_n _ _ (by decide) ?_
  refine (show ∀ h : Hp, BigC h → BigC (setR h _ _ _) from fun h b => b) _ ?_
  refine Big_n _ _ (by decide) ?_
  refine (show ∀ h : Hp, BigC h → BigC (setR h _ _ _) from fun h b => b) _ ?_
  refine Big_n _ _ (by decide) ?_
  refine (show ∀ h : Hp, BigC h → BigC (setR h _ _ _) from fun h b => b) _ ?_
  refine Big_n _ _ (by decide) ?_
  refine (show ∀ h : Hp, BigC h → BigC (setR h _ _ _) from fun h b => b) _ ?_
  refine Big_n _ _ (by decide) ?_
  refine (show ∀ h : Hp, BigC h → BigC (setR h _ _ _) from fun h b => b) _ ?_
  refine Big_n _ _ (by decide) ?_
  refine (show ∀ h : Hp, BigC h → BigC (setR h _ _ _) from fun h b => b) _ ?_
  refine Big_n _ _ (by decide) ?_
  refine (show ∀ h : Hp, BigC h → BigC (setR h _ _ _) from fun h b => b) _ ?_
  refine Big_n _ _ (by decide) ?_
  refine (show ∀ h : Hp, BigC h → BigC (setR h _ _ _) from fun h b => b) _ ?_
  refine Big_n _ _ (by decide) ?_
  refine (show ∀ h : Hp, BigC h → BigC (setR h _ _ _) from fun h b => b) _ ?_
  refine Big_n _ _ (by decide) ?_
  refine (show ∀ h : Hp, BigC h → BigC (setR h _ _ _) from fun h b => b) _ ?_
  refine Big_n _ _ (by decide) ?_
  refine (show ∀ h : Hp, BigC h → BigC (setR h _ _ _) from fun h b => b) _ ?_
  refine Big_n _ _ (by decide) ?_
  refine (show ∀ h : Hp, BigC h → BigC (setR h _ _ _) from fun h b => b) _ ?_
  refine Big_n _ _ (by decide) ?_
  refine (show ∀ h : Hp, BigC h → BigC (setR h _ _ _) from fun h b => b) _ ?_
  refine Big_n _ _ (by decide) ?_
  refine (show ∀ h : Hp, BigC h → BigC (setR h _ _ _) from fun h b => b) _ ?_
  refine Big_n _ _ (by decide) ?_
  refine (show ∀ h : Hp, BigC h → BigC (setR h _ _ _) from fun h b => b) _ ?_
  refine Big_n _ _ (by decide) ?_
  refine (show ∀ h : Hp, BigC h → BigC (setR h _ _ _) from fun h b => b) _ ?_
  refine Big_n _ _ (by decide) ?_
  refine (show ∀ h : Hp, BigC h → BigC (setR h _ _ _) from fun h b => b) _ ?_
  refine Big_n _ _ (by decide) ?_
  refine (show ∀ h : Hp, BigC h → BigC (setR h _ _ _) from fun h b => b) _ ?_
  refine Big_n _ _ (by decide) ?_
  refine (show ∀ h : Hp, BigC h → BigC (setR h _ _ _) from fun h b => b) _ ?_
  refine Big_n _ _ (by decide) ?_
  refine (show ∀ h : Hp, BigC h → BigC (setR h _ _ _) from fun h b => b) _ ?_
  refine Big_n _ _ (by decide) ?_
  refine (show ∀ h : Hp, BigC h → BigC (setR h _ _ _) from fun h b => b) _ ?_
  refine Big_n _ _ (by decide) ?_
  refine Big_n _ _ (by decide) ?_
  refine (show ∀ h : Hp, BigC h → BigC (setR h _ _ _) from fun h b => b) _ ?_
  refine Big_n _ _ (by decide) ?_
  refine (show ∀ h : Hp, BigC h → BigC (setI h _ _ _) from fun h b => b) _ ?_
  refine (show ∀ h : Hp, BigC h → BigC (setI h _ _ _) from fun h b => b) _ ?_
  refine (show ∀ h : Hp, BigC h → BigC (setR h _ _ _) from fun h b => b) _ ?_
  refine Big_n _ _ (by decide) ?_
  refine (show ∀ h : Hp, BigC h → BigC (setR h _ _ _) from fun h b => b) _ ?_
  refine Big_n _ _ (by decide) ?_
  refine (show ∀ h : Hp, BigC h → BigC (setR h _ _ _) from fun h b => b) _ ?_
  refine Big_n _ _ (by decide) ?_
  refine (show ∀ h : Hp, BigC h → BigC (setR h _ _ _) from fun h b => b) _ ?_
  refine Big_n _ _ (by decide) ?_
  refine (show ∀ h : Hp, BigC h → BigC (setR h _ _ _) from fun h b => b) _ ?_
  refine Big_n _ _ (by decide) ?_
  refine Big_n _ _ (by decide) ?_
  exact fun t _ => rfl
theorem hI_I5 : IsI hI f5 := by
  unfold hI MH hB BH
  refine Is_R _ _ _ ?_
  refine Is_n _ _ (f5_n (by decide) (by decide)) ?_
  refine Is_I (f := f4) _ _ _ ?_
  refine Is_I (f := f3) _ _ _ ?_
  refine Is_R _ _ _ ?_
  refine Is_n _ _ (f3_n (by decide)) ?_
  refine Is_R _ _ _ ?_
  refine Is_n _ _ (f3_n (by decide)) ?_
  refine Is_R _ _ _ ?_
  refine Is_n _ _ (f3_n (by decide)) ?_
  refine Is_R _ _ _ ?_
  refine Is_n _ _ (f3_n (by decide)) ?_
  refine Is_R _ _ _ ?_
  refine Is_n _ _ (f3_n (by decide)) ?_
  refine Is_R _ _ _ ?_
  refine Is_n _ _ (f3_n (by decide)) ?_
  refine Is_R _ _ _ ?_
  refine Is_n _ _ (f3_n (by decide)) ?_
  refine Is_R _ _ _ ?_
  refine Is_n _ _ (f3_n (by decide)) ?_
  refine Is_R _ _ _ ?_
  refine Is_n _ _ (f3_n (by decide)) ?_
  refine Is_R _ _ _ ?_
  refine Is_n _ _ (f3_n (by decide)) ?_
  refine Is_R _ _ _ ?_
  refine Is_n _ _ (f3_n (by decide)) ?_
  refine Is_R _ _ _ ?_
  refine Is_n _ _ (f3_n (by decide)) ?_
  refine Is_R _ _ _ ?_
  refine Is_n _ _ (f3_n (by decide)) ?_
  refine Is_R _ _ _ ?_
  refine Is_n _ _ (f3_n (by decide)) ?_
  refine Is_R _ _ _ ?_
  refine Is_n _ _ (f3_n (by decide)) ?_
  refine Is_R _ _ _ ?_
  refine Is_n _ _ (f3_n (by decide)) ?_
  refine Is_R _ _ _ ?_
  refine Is_n _ _ (f3_n (by decide)) ?_
  refine Is_R _ _ _ ?_
  refine Is_n _ _ (f3_n (by decide)) ?_
  refine Is_R _ _ _ ?_
  refine Is_n _ _ (f3_n (by decide)) ?_
  refine Is_R _ _ _ ?_
  refine Is_n _ _ (f3_n (by decide)) ?_
  refine Is_R _ _ _ ?_
  refine Is_n _ _ (f3_n (by decide)) ?_
  refine Is_R _ _ _ ?_
  refine Is_n _ _ (f3_n (by decide)) ?_
  refine Is_R _ _ _ ?_
  refine Is_n _ _ (f3_n (by decide)) ?_
  refine Is_R _ _ _ ?_
  refine Is_n _ _ (f3_n (by decide)) ?_
  refine Is_R _ _ _ ?_
  refine Is_n _ _ (f3_n (by decide)) ?_
  refine Is_R _ _ _ ?_
  refine Is_n _ _ (f3_n (by decide)) ?_
  refine Is_R _ _ _ ?_
  refine Is_n _ _ (f3_n (by decide)) ?_
  refine Is_R _ _ _ ?_
  refine Is_n _ _ (f3_n (by decide)) ?_
  refine Is_R _ _ _ ?_
  refine Is_n _ _ (f3_n (by decide)) ?_
  refine Is_R _ _ _ ?_
  refine Is_n _ _ (f3_n (by decide)) ?_
  refine Is_R _ _ _ ?_
  refine Is_n _ _ (f3_n (by decide)) ?_
  refine Is_R _ _ _ ?_
  refine Is_n _ _ (f3_n (by decide)) ?_
  refine Is_R _ _ _ ?_
  refine Is_n _ _ (f3_n (by decide)) ?_
  refine Is_R _ _ _ ?_
  refine Is_n _ _ (f3_n (by decide)) ?_
  refine Is_R _ _ _ ?_
  refine Is_n _ _ (f3_n (by decide)) ?_
  refine Is_R _ _ _ ?_
  refine Is_n _ _ (f3_n (by decide)) ?_
  refine Is_R _ _ _ ?_
  refine Is_n _ _ (f3_n (by decide)) ?_
  refine Is_n _ _ (f3_n (by decide)) ?_
  refine Is_R _ _ _ ?_
  refine Is_n _ _ (f3_n (by decide)) ?_
  refine Is_I (f := f2) _ _ _ ?_
  refine Is_I (f := f1) _ _ _ ?_
  refine Is_R _ _ _ ?_
  refine Is_n _ _ (fun _ _ => rfl) ?_
  refine Is_R _ _ _ ?_
  refine Is_n _ _ (fun _ _ => rfl) ?_
  refine Is_R _ _ _ ?_
  refine Is_n _ _ (fun _ _ => rfl) ?_
  refine Is_R _ _ _ ?_
  refine Is_n _ _ (fun _ _ => rfl) ?_
  refine Is_R _ _ _ ?_
  refine Is_n _ _ (fun _ _ => rfl) ?_
  refine Is_n _ _ (fun _ _ => rfl) ?_
  exact fun _ _ => rfl
theorem hI_C (t : Nat) : hpC hI t = cntOf 0 0 0 t := by
  rcases Nat.lt_or_ge t 61 with z | z
  · have : ∀ t, t < 61 → hpC hI t = cntOf 0 0 0 t := by decide +kernel
    exact this t z
  · rw [hI_Big t z]
    have a1 : ¬ t < 7 := by omega
    have a2 : ¬ t < 18 := by omega
    have a3 : ¬ t < 20 := by omega
    have a4 : ¬ t < 22 := by omega
    have a5 : ¬ t < 61 := by omega
    unfold cntOf
    rw [if_neg a1, if_neg a2, if_neg a3, if_neg a4, if_neg a5]
theorem hI_W : WF hI 0 0 0 := by
  refine ⟨hI_C, fun t i k hi hf => ?_, fun t i hi hs => ?_, fun k hk => absurd hk (by omega), fun k hk => absurd hk (by omega), fun k hk => absurd hk (by omega), by decide, by decide, by decide⟩
  · rw [hI_C] at hi
    have ht : t < 61 := by
      rcases Nat.lt_or_ge t 61 with z | z
      · exact z
      · rw [← hI_C, hI_Big t z] at hi
        omega
    have h1 : ∀ t, t < 61 → 0 < cntOf 0 0 0 t → cntOf 0 0 0 t = 1 ∧ (t = 0 ∨ t = 22 ∨ 7 ≤ kd t) := by decide +kernel
    obtain ⟨c1, c2⟩ := h1 t ht (by omega)
    have ei : i = 0 := by omega
    subst ei
    rcases c2 with rfl | rfl | c2
    · have hk : k < 18 := by
        rcases Nat.lt_or_ge k 18 with z | z
        · exact z
        · exact absurd hf (by
            show ¬ ((mc_fty.getD 5 []).getD k 9) = 2
            rw [List.getD_eq_getElem?_getD, List.getElem?_eq_none (by show 18 ≤ k; exact z)]
            decide)
      have h2 : ∀ k, k < 18 → fty 5 k = 2 → hpR hI (0, 0) k = some (srf 5 k, 0) := by decide +kernel
      exact h2 k hk hf
    · have hk : k < 47 := by
        rcases Nat.lt_or_ge k 47 with z | z
        · exact z
        · exact absurd hf (by
            show ¬ ((mc_fty.getD 6 []).getD k 9) = 2
            rw [List.getD_eq_getElem?_getD, List.getElem?_eq_none (by show 47 ≤ k; exact z)]
            decide)
      have h2 : ∀ k, k < 47 → fty 6 k = 2 → hpR hI (22, 0) k = some (srf 6 k, 0) := by decide +kernel
      exact h2 k hk hf
    · exact absurd hf (ftyA c2)
  · rw [hI_C] at hi
    have ht : t < 61 := by
      rcases Nat.lt_or_ge t 61 with z | z
      · exact z
      · rw [← hI_C, hI_Big t z] at hi
        omega
    have h1 : ∀ t, t < 61 → 0 < cntOf 0 0 0 t → cntOf 0 0 0 t = 1 ∧ (slen t ≠ 0 → hpL hI (t, 0) = slen t) := by decide +kernel
    obtain ⟨c1, c2⟩ := h1 t ht (by omega)
    have ei : i = 0 := by omega
    subst ei
    exact c2 hs
theorem hI_N : hpN hI = 46 := rfl
theorem hI_S : hpS hI ≤ 1300000 := by decide +kernel
theorem hI_s (j k : Nat) : gS hI j k = if j = 0 ∧ k = 43 then 250 else if j = 0 ∧ k = 44 then 8000 else 0 := by
  show hpI hI (22 + j, 0) k = _
  rw [hI_I5, f5, f4, f3_n (by omega)]
  by_cases q : j = 0
  · subst q
    by_cases q1 : k = 43
    · subst q1
      rfl
    · by_cases q2 : k = 44
      · subst q2
        rfl
      · rw [if_neg (fun z => q2 z.2), if_neg (fun z => q1 z.2), if_neg (fun z => q1 z.2), if_neg (fun z => q2 z.2)]
  · have n1 : ¬ (22 + j, 0) = (22, 0) := fun z => by
      rw [Prod.mk.injEq] at z
      omega
    rw [if_neg (fun z => n1 z.1), if_neg (fun z => n1 z.1), if_neg (fun z => q z.1), if_neg (fun z => q z.1)]
theorem hI_c (t i k : Nat) (ht : t < 22) : gX hI t i k = if t = 0 ∧ i = 0 ∧ k = 13 then 250 else if t = 0 ∧ i = 0 ∧ k = 14 then 8000 else 0 := by
  show hpI hI (t, i) k = _
  have n1 : ¬ (t, i) = (22, 0) := fun z => by
    rw [Prod.mk.injEq] at z
    omega
  rw [hI_I5, f5, f4, if_neg (fun z => n1 z.1), if_neg (fun z => n1 z.1), f3, f2]
  by_cases q : t = 0 ∧ i = 0
  · obtain ⟨rfl, rfl⟩ := q
    by_cases q1 : k = 13
    · subst q1
      rfl
    · by_cases q2 : k = 14
      · subst q2
        rfl
      · rw [if_neg (fun z => q2 z.2), if_neg (fun z => q1 z.2), if_neg (fun z => q1 z.2.2), if_neg (fun z => q2 z.2.2)]
        rfl
  · have n2 : ¬ (t, i) = (0, 0) := fun z => by
      rw [Prod.mk.injEq] at z
      exact q z
    rw [if_neg (fun z => n2 z.1), if_neg (fun z => n2 z.1), if_neg (fun z => q ⟨z.1, z.2.1⟩), if_neg (fun z => q ⟨z.1, z.2.1⟩)]
    rfl
