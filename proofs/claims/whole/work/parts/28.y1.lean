/-! The constructors of the class's parts. -/
theorem hC_pX (h : Hp) (c : CS) (t : Nat) : hpC (pX h c) t = hpC h t := rfl
theorem hL_pX (h : Hp) (c : CS) (m : Nm) : hpL (pX h c) m = hpL h m := rfl
def QH (h : Hp) (i : Nat) : Hp := (setR (newC (setR (newC h 11 64 64) (10, i) 0 (some (11, i))) 12 64 64) (10, i) 1 (some (12, i)))
def QC (c : CS) (i : Nat)  : CS := (zC (zC c 11 i) 12 i)
theorem y3_init (X : Nat × (Nat → Int32)) (h : Hp) (c : CS) (i : Nat)  (h10 : i < hpC h 10) (h11 : hpC h 11 = i) (h12 : hpC h 12 = i) : wp X 16 0 [some (vR (some (10, i)))] [] (pX h c) (fun r h' => r = none ∧ h' = pX (QH h i) (QC c i )) := by
  refine w_pu rfl rfl ?_
  refine y_obj rfl (Nat.le_of_ble_eq_true rfl) ?_
  refine w_pu rfl rfl ?_
  refine w_cst (v := 64) rfl rfl rfl ?_
  refine y_na 64 11 i rfl (by decide) (by (try simp (config := {decide := true}) only [hC_R, hC_pX, hL_pX, hC_new, hL_R, hL_new, hR_R, hR_new, Prod.mk.injEq, reduceIte, and_true, true_and, and_false, false_and, h11, h12]); first | done | omega) rfl (by decide) ?_
  refine y_pR rfl rfl rfl (by (try simp (config := {decide := true}) only [hC_R, hC_pX, hL_pX, hC_new, hL_R, hL_new, hR_R, hR_new, Prod.mk.injEq, reduceIte, and_true, true_and, and_false, false_and, h11, h12]); first | done | omega) (by (try simp (config := {decide := true}) only [hC_R, hC_pX, hL_pX, hC_new, hL_R, hL_new, hR_R, hR_new, Prod.mk.injEq, reduceIte, and_true, true_and, and_false, false_and, h11, h12]); first | done | omega) ?_
  refine w_pu rfl rfl ?_
  refine w_cst (v := 64) rfl rfl rfl ?_
  refine y_na 64 12 i rfl (by decide) (by (try simp (config := {decide := true}) only [hC_R, hC_pX, hL_pX, hC_new, hL_R, hL_new, hR_R, hR_new, Prod.mk.injEq, reduceIte, and_true, true_and, and_false, false_and, h11, h12]); first | done | omega) rfl (by decide) ?_
  refine y_pR rfl rfl rfl (by (try simp (config := {decide := true}) only [hC_R, hC_pX, hL_pX, hC_new, hL_R, hL_new, hR_R, hR_new, Prod.mk.injEq, reduceIte, and_true, true_and, and_false, false_and, h11, h12]); first | done | omega) (by (try simp (config := {decide := true}) only [hC_R, hC_pX, hL_pX, hC_new, hL_R, hL_new, hR_R, hR_new, Prod.mk.injEq, reduceIte, and_true, true_and, and_false, false_and, h11, h12]); first | done | omega) ?_
  refine w_rt rfl rfl trivial ?_
  exact ⟨rfl, rfl⟩
def UH (h : Hp) (i : Nat) : Hp := (setR (newC (setR (newC (setR (newC (setR (newC h 14 256 256) (13, i) 0 (some (14, i))) 15 256 256) (13, i) 1 (some (15, i))) 16 256 256) (13, i) 2 (some (16, i))) 17 256 256) (13, i) 3 (some (17, i)))
def UC (c : CS) (i : Nat)  : CS := (zC (zC (zC (zC c 14 i) 15 i) 16 i) 17 i)
theorem y4_init (X : Nat × (Nat → Int32)) (h : Hp) (c : CS) (i : Nat)  (h13 : i < hpC h 13) (h14 : hpC h 14 = i) (h15 : hpC h 15 = i) (h16 : hpC h 16 = i) (h17 : hpC h 17 = i) : wp X 23 0 [some (vR (some (13, i)))] [] (pX h c) (fun r h' => r = none ∧ h' = pX (UH h i) (UC c i )) := by
  refine w_pu rfl rfl ?_
  refine y_obj rfl (Nat.le_of_ble_eq_true rfl) ?_
  refine w_pu rfl rfl ?_
  refine w_cst (v := 256) rfl rfl rfl ?_
  refine y_na 256 14 i rfl (by decide) (by (try simp (config := {decide := true}) only [hC_R, hC_pX, hL_pX, hC_new, hL_R, hL_new, hR_R, hR_new, Prod.mk.injEq, reduceIte, and_true, true_and, and_false, false_and, h14, h15, h16, h17]); first | done | omega) rfl (by decide) ?_
  refine y_pR rfl rfl rfl (by (try simp (config := {decide := true}) only [hC_R, hC_pX, hL_pX, hC_new, hL_R, hL_new, hR_R, hR_new, Prod.mk.injEq, reduceIte, and_true, true_and, and_false, false_and, h14, h15, h16, h17]); first | done | omega) (by (try simp (config := {decide := true}) only [hC_R, hC_pX, hL_pX, hC_new, hL_R, hL_new, hR_R, hR_new, Prod.mk.injEq, reduceIte, and_true, true_and, and_false, false_and, h14, h15, h16, h17]); first | done | omega) ?_
  refine w_pu rfl rfl ?_
  refine w_cst (v := 256) rfl rfl rfl ?_
  refine y_na 256 15 i rfl (by decide) (by (try simp (config := {decide := true}) only [hC_R, hC_pX, hL_pX, hC_new, hL_R, hL_new, hR_R, hR_new, Prod.mk.injEq, reduceIte, and_true, true_and, and_false, false_and, h14, h15, h16, h17]); first | done | omega) rfl (by decide) ?_
  refine y_pR rfl rfl rfl (by (try simp (config := {decide := true}) only [hC_R, hC_pX, hL_pX, hC_new, hL_R, hL_new, hR_R, hR_new, Prod.mk.injEq, reduceIte, and_true, true_and, and_false, false_and, h14, h15, h16, h17]); first | done | omega) (by (try simp (config := {decide := true}) only [hC_R, hC_pX, hL_pX, hC_new, hL_R, hL_new, hR_R, hR_new, Prod.mk.injEq, reduceIte, and_true, true_and, and_false, false_and, h14, h15, h16, h17]); first | done | omega) ?_
  refine w_pu rfl rfl ?_
  refine w_cst (v := 256) rfl rfl rfl ?_
  refine y_na 256 16 i rfl (by decide) (by (try simp (config := {decide := true}) only [hC_R, hC_pX, hL_pX, hC_new, hL_R, hL_new, hR_R, hR_new, Prod.mk.injEq, reduceIte, and_true, true_and, and_false, false_and, h14, h15, h16, h17]); first | done | omega) rfl (by decide) ?_
  refine y_pR rfl rfl rfl (by (try simp (config := {decide := true}) only [hC_R, hC_pX, hL_pX, hC_new, hL_R, hL_new, hR_R, hR_new, Prod.mk.injEq, reduceIte, and_true, true_and, and_false, false_and, h14, h15, h16, h17]); first | done | omega) (by (try simp (config := {decide := true}) only [hC_R, hC_pX, hL_pX, hC_new, hL_R, hL_new, hR_R, hR_new, Prod.mk.injEq, reduceIte, and_true, true_and, and_false, false_and, h14, h15, h16, h17]); first | done | omega) ?_
  refine w_pu rfl rfl ?_
  refine w_cst (v := 256) rfl rfl rfl ?_
  refine y_na 256 17 i rfl (by decide) (by (try simp (config := {decide := true}) only [hC_R, hC_pX, hL_pX, hC_new, hL_R, hL_new, hR_R, hR_new, Prod.mk.injEq, reduceIte, and_true, true_and, and_false, false_and, h14, h15, h16, h17]); first | done | omega) rfl (by decide) ?_
  refine y_pR rfl rfl rfl (by (try simp (config := {decide := true}) only [hC_R, hC_pX, hL_pX, hC_new, hL_R, hL_new, hR_R, hR_new, Prod.mk.injEq, reduceIte, and_true, true_and, and_false, false_and, h14, h15, h16, h17]); first | done | omega) (by (try simp (config := {decide := true}) only [hC_R, hC_pX, hL_pX, hC_new, hL_R, hL_new, hR_R, hR_new, Prod.mk.injEq, reduceIte, and_true, true_and, and_false, false_and, h14, h15, h16, h17]); first | done | omega) ?_
  refine w_rt rfl rfl trivial ?_
  exact ⟨rfl, rfl⟩
def LH (h : Hp) (i : Nat) : Hp := (setR (newC (setR (newC (setR (UH (newC (setR (QH (newC h 10 0 6) i) (7, i) 4 (some (10, i))) 13 0 6) i) (7, i) 5 (some (13, i))) 8 1024 1024) (7, i) 6 (some (8, i))) 9 32 32) (7, i) 7 (some (9, i)))
def LC (c : CS) (i : Nat) (n : Int32) (k : Int32) (s : Int32) (d : Int32) : CS := (if k = 3 then (if k = 3 then (uC (uC (uC (zC (zC (UC (zC (QC (zC (uC (uC (uC (uC c 7 i 0 n) 7 i 1 k) 7 i 2 s) 7 i 3 d) 10 i) i) 13 i) i) 8 i) 9 i) 7 i 8 1) 7 i 9 1000) 7 i 10 4) else (uC (uC (uC (zC (zC (UC (zC (QC (zC (uC (uC (uC (uC c 7 i 0 n) 7 i 1 k) 7 i 2 s) 7 i 3 d) 10 i) i) 13 i) i) 8 i) 9 i) 7 i 8 1) 7 i 9 1000) 7 i 10 0)) else (if k = 3 then (uC (uC (uC (zC (zC (UC (zC (QC (zC (uC (uC (uC (uC c 7 i 0 n) 7 i 1 k) 7 i 2 s) 7 i 3 d) 10 i) i) 13 i) i) 8 i) 9 i) 7 i 8 1) 7 i 9 0) 7 i 10 4) else (uC (uC (uC (zC (zC (UC (zC (QC (zC (uC (uC (uC (uC c 7 i 0 n) 7 i 1 k) 7 i 2 s) 7 i 3 d) 10 i) i) 13 i) i) 8 i) 9 i) 7 i 8 1) 7 i 9 0) 7 i 10 0)))
theorem y1_init (X : Nat × (Nat → Int32)) (h : Hp) (c : CS) (i : Nat) (n : Int32) (k : Int32) (s : Int32) (d : Int32) (h7 : i < hpC h 7) (h8 : hpC h 8 = i) (h9 : hpC h 9 = i) (h10 : hpC h 10 = i) (h11 : hpC h 11 = i) (h12 : hpC h 12 = i) (h13 : hpC h 13 = i) (h14 : hpC h 14 = i) (h15 : hpC h 15 = i) (h16 : hpC h 16 = i) (h17 : hpC h 17 = i) : wp X 3 0 [some (vR (some (7, i))), some (vI n), some (vI k), some (vI s), some (vI d)] [] (pX h c) (fun r h' => r = none ∧ h' = pX (LH h i) (LC c i n k s d)) := by
  refine w_pu rfl rfl ?_
  refine y_obj rfl (Nat.le_of_ble_eq_true rfl) ?_
  refine w_pu rfl rfl ?_
  refine w_pu rfl rfl ?_
  refine y_p rfl rfl rfl (by decide) (by (try simp (config := {decide := true}) only [hC_R, hC_pX, hL_pX, hC_new, hL_R, hL_new, hR_R, hR_new, Prod.mk.injEq, reduceIte, and_true, true_and, and_false, false_and, h8, h9, h10, h11, h12, h13, h14, h15, h16, h17, QH, UH]); first | done | omega) ?_
  refine w_pu rfl rfl ?_
  refine w_pu rfl rfl ?_
  refine y_p rfl rfl rfl (by decide) (by (try simp (config := {decide := true}) only [hC_R, hC_pX, hL_pX, hC_new, hL_R, hL_new, hR_R, hR_new, Prod.mk.injEq, reduceIte, and_true, true_and, and_false, false_and, h8, h9, h10, h11, h12, h13, h14, h15, h16, h17, QH, UH]); first | done | omega) ?_
  refine w_pu rfl rfl ?_
  refine w_pu rfl rfl ?_
  refine y_p rfl rfl rfl (by decide) (by (try simp (config := {decide := true}) only [hC_R, hC_pX, hL_pX, hC_new, hL_R, hL_new, hR_R, hR_new, Prod.mk.injEq, reduceIte, and_true, true_and, and_false, false_and, h8, h9, h10, h11, h12, h13, h14, h15, h16, h17, QH, UH]); first | done | omega) ?_
  refine w_pu rfl rfl ?_
  refine w_pu rfl rfl ?_
  refine y_p rfl rfl rfl (by decide) (by (try simp (config := {decide := true}) only [hC_R, hC_pX, hL_pX, hC_new, hL_R, hL_new, hR_R, hR_new, Prod.mk.injEq, reduceIte, and_true, true_and, and_false, false_and, h8, h9, h10, h11, h12, h13, h14, h15, h16, h17, QH, UH]); first | done | omega) ?_
  refine w_pu rfl rfl ?_
  refine y_new 10 i 6 rfl (by decide) (by (try simp (config := {decide := true}) only [hC_R, hC_pX, hL_pX, hC_new, hL_R, hL_new, hR_R, hR_new, Prod.mk.injEq, reduceIte, and_true, true_and, and_false, false_and, h8, h9, h10, h11, h12, h13, h14, h15, h16, h17, QH, UH]); first | done | omega) rfl ?_
  refine w_pu rfl rfl ?_
  refine w_cvE (pX (QH (newC h 10 0 6) i) (QC (zC (uC (uC (uC (uC c 7 i 0 n) 7 i 1 k) 7 i 2 s) 7 i 3 d) 10 i) i)) rfl rfl (by decide) (Nat.le_of_ble_eq_true rfl) rfl (Nat.le_of_ble_eq_true rfl) (Nat.le_of_ble_eq_true rfl) ⟨(by show _ < hpC _ _; (try simp (config := {decide := true}) only [hC_R, hC_pX, hL_pX, hC_new, hL_R, hL_new, hR_R, hR_new, Prod.mk.injEq, reduceIte, and_true, true_and, and_false, false_and, h8, h9, h10, h11, h12, h13, h14, h15, h16, h17, QH, UH]); first | done | omega), rfl⟩ rfl (y3_init X (newC h 10 0 6) (zC (uC (uC (uC (uC c 7 i 0 n) 7 i 1 k) 7 i 2 s) 7 i 3 d) 10 i) i (by (try simp (config := {decide := true}) only [hC_R, hC_pX, hL_pX, hC_new, hL_R, hL_new, hR_R, hR_new, Prod.mk.injEq, reduceIte, and_true, true_and, and_false, false_and, h8, h9, h10, h11, h12, h13, h14, h15, h16, h17, QH, UH]); first | done | omega) (by (try simp (config := {decide := true}) only [hC_R, hC_pX, hL_pX, hC_new, hL_R, hL_new, hR_R, hR_new, Prod.mk.injEq, reduceIte, and_true, true_and, and_false, false_and, h8, h9, h10, h11, h12, h13, h14, h15, h16, h17, QH, UH]); first | done | omega) (by (try simp (config := {decide := true}) only [hC_R, hC_pX, hL_pX, hC_new, hL_R, hL_new, hR_R, hR_new, Prod.mk.injEq, reduceIte, and_true, true_and, and_false, false_and, h8, h9, h10, h11, h12, h13, h14, h15, h16, h17, QH, UH]); first | done | omega)) ?_
  refine y_pR rfl rfl rfl (by (try simp (config := {decide := true}) only [hC_R, hC_pX, hL_pX, hC_new, hL_R, hL_new, hR_R, hR_new, Prod.mk.injEq, reduceIte, and_true, true_and, and_false, false_and, h8, h9, h10, h11, h12, h13, h14, h15, h16, h17, QH, UH]); first | done | omega) (by (try simp (config := {decide := true}) only [hC_R, hC_pX, hL_pX, hC_new, hL_R, hL_new, hR_R, hR_new, Prod.mk.injEq, reduceIte, and_true, true_and, and_false, false_and, h8, h9, h10, h11, h12, h13, h14, h15, h16, h17, QH, UH]); first | done | omega) ?_
  refine w_pu rfl rfl ?_
  refine y_new 13 i 6 rfl (by decide) (by (try simp (config := {decide := true}) only [hC_R, hC_pX, hL_pX, hC_new, hL_R, hL_new, hR_R, hR_new, Prod.mk.injEq, reduceIte, and_true, true_and, and_false, false_and, h8, h9, h10, h11, h12, h13, h14, h15, h16, h17, QH, UH]); first | done | omega) rfl ?_
  refine w_pu rfl rfl ?_
  refine w_cvE (pX (UH (newC (setR (QH (newC h 10 0 6) i) (7, i) 4 (some (10, i))) 13 0 6) i) (UC (zC (QC (zC (uC (uC (uC (uC c 7 i 0 n) 7 i 1 k) 7 i 2 s) 7 i 3 d) 10 i) i) 13 i) i)) rfl rfl (by decide) (Nat.le_of_ble_eq_true rfl) rfl (Nat.le_of_ble_eq_true rfl) (Nat.le_of_ble_eq_true rfl) ⟨(by show _ < hpC _ _; (try simp (config := {decide := true}) only [hC_R, hC_pX, hL_pX, hC_new, hL_R, hL_new, hR_R, hR_new, Prod.mk.injEq, reduceIte, and_true, true_and, and_false, false_and, h8, h9, h10, h11, h12, h13, h14, h15, h16, h17, QH, UH]); first | done | omega), rfl⟩ rfl (y4_init X (newC (setR (QH (newC h 10 0 6) i) (7, i) 4 (some (10, i))) 13 0 6) (zC (QC (zC (uC (uC (uC (uC c 7 i 0 n) 7 i 1 k) 7 i 2 s) 7 i 3 d) 10 i) i) 13 i) i (by (try simp (config := {decide := true}) only [hC_R, hC_pX, hL_pX, hC_new, hL_R, hL_new, hR_R, hR_new, Prod.mk.injEq, reduceIte, and_true, true_and, and_false, false_and, h8, h9, h10, h11, h12, h13, h14, h15, h16, h17, QH, UH]); first | done | omega) (by (try simp (config := {decide := true}) only [hC_R, hC_pX, hL_pX, hC_new, hL_R, hL_new, hR_R, hR_new, Prod.mk.injEq, reduceIte, and_true, true_and, and_false, false_and, h8, h9, h10, h11, h12, h13, h14, h15, h16, h17, QH, UH]); first | done | omega) (by (try simp (config := {decide := true}) only [hC_R, hC_pX, hL_pX, hC_new, hL_R, hL_new, hR_R, hR_new, Prod.mk.injEq, reduceIte, and_true, true_and, and_false, false_and, h8, h9, h10, h11, h12, h13, h14, h15, h16, h17, QH, UH]); first | done | omega) (by (try simp (config := {decide := true}) only [hC_R, hC_pX, hL_pX, hC_new, hL_R, hL_new, hR_R, hR_new, Prod.mk.injEq, reduceIte, and_true, true_and, and_false, false_and, h8, h9, h10, h11, h12, h13, h14, h15, h16, h17, QH, UH]); first | done | omega) (by (try simp (config := {decide := true}) only [hC_R, hC_pX, hL_pX, hC_new, hL_R, hL_new, hR_R, hR_new, Prod.mk.injEq, reduceIte, and_true, true_and, and_false, false_and, h8, h9, h10, h11, h12, h13, h14, h15, h16, h17, QH, UH]); first | done | omega)) ?_
  refine y_pR rfl rfl rfl (by (try simp (config := {decide := true}) only [hC_R, hC_pX, hL_pX, hC_new, hL_R, hL_new, hR_R, hR_new, Prod.mk.injEq, reduceIte, and_true, true_and, and_false, false_and, h8, h9, h10, h11, h12, h13, h14, h15, h16, h17, QH, UH]); first | done | omega) (by (try simp (config := {decide := true}) only [hC_R, hC_pX, hL_pX, hC_new, hL_R, hL_new, hR_R, hR_new, Prod.mk.injEq, reduceIte, and_true, true_and, and_false, false_and, h8, h9, h10, h11, h12, h13, h14, h15, h16, h17, QH, UH]); first | done | omega) ?_
  refine w_pu rfl rfl ?_
  refine w_cst (v := 1024) rfl rfl rfl ?_
  refine y_na 1024 8 i rfl (by decide) (by (try simp (config := {decide := true}) only [hC_R, hC_pX, hL_pX, hC_new, hL_R, hL_new, hR_R, hR_new, Prod.mk.injEq, reduceIte, and_true, true_and, and_false, false_and, h8, h9, h10, h11, h12, h13, h14, h15, h16, h17, QH, UH]); first | done | omega) rfl (by decide) ?_
  refine y_pR rfl rfl rfl (by (try simp (config := {decide := true}) only [hC_R, hC_pX, hL_pX, hC_new, hL_R, hL_new, hR_R, hR_new, Prod.mk.injEq, reduceIte, and_true, true_and, and_false, false_and, h8, h9, h10, h11, h12, h13, h14, h15, h16, h17, QH, UH]); first | done | omega) (by (try simp (config := {decide := true}) only [hC_R, hC_pX, hL_pX, hC_new, hL_R, hL_new, hR_R, hR_new, Prod.mk.injEq, reduceIte, and_true, true_and, and_false, false_and, h8, h9, h10, h11, h12, h13, h14, h15, h16, h17, QH, UH]); first | done | omega) ?_
  refine w_pu rfl rfl ?_
  refine w_cst (v := 32) rfl rfl rfl ?_
  refine y_na 32 9 i rfl (by decide) (by (try simp (config := {decide := true}) only [hC_R, hC_pX, hL_pX, hC_new, hL_R, hL_new, hR_R, hR_new, Prod.mk.injEq, reduceIte, and_true, true_and, and_false, false_and, h8, h9, h10, h11, h12, h13, h14, h15, h16, h17, QH, UH]); first | done | omega) rfl (by decide) ?_
  refine y_pR rfl rfl rfl (by (try simp (config := {decide := true}) only [hC_R, hC_pX, hL_pX, hC_new, hL_R, hL_new, hR_R, hR_new, Prod.mk.injEq, reduceIte, and_true, true_and, and_false, false_and, h8, h9, h10, h11, h12, h13, h14, h15, h16, h17, QH, UH]); first | done | omega) (by (try simp (config := {decide := true}) only [hC_R, hC_pX, hL_pX, hC_new, hL_R, hL_new, hR_R, hR_new, Prod.mk.injEq, reduceIte, and_true, true_and, and_false, false_and, h8, h9, h10, h11, h12, h13, h14, h15, h16, h17, QH, UH]); first | done | omega) ?_
  refine w_pu rfl rfl ?_
  refine w_cst (v := 1) rfl rfl rfl ?_
  refine y_pB rfl rfl rfl (by decide) (by (try simp (config := {decide := true}) only [hC_R, hC_pX, hL_pX, hC_new, hL_R, hL_new, hR_R, hR_new, Prod.mk.injEq, reduceIte, and_true, true_and, and_false, false_and, h8, h9, h10, h11, h12, h13, h14, h15, h16, h17, QH, UH]); first | done | omega) (by first | exact Or.inl rfl | exact Or.inr rfl) ?_
  refine w_pu rfl rfl ?_
  refine w_pu rfl rfl ?_
  refine w_cst (v := 3) rfl rfl rfl ?_
  refine w_ne rfl (fun c0 => ?_) (fun c0 => ?_)
  · refine w_cst (v := 0) rfl rfl rfl ?_
    refine y_p rfl rfl rfl (by decide) (by (try simp (config := {decide := true}) only [hC_R, hC_pX, hL_pX, hC_new, hL_R, hL_new, hR_R, hR_new, Prod.mk.injEq, reduceIte, and_true, true_and, and_false, false_and, h8, h9, h10, h11, h12, h13, h14, h15, h16, h17, QH, UH]); first | done | omega) ?_
    refine w_pu rfl rfl ?_
    refine w_pu rfl rfl ?_
    refine w_cst (v := 3) rfl rfl rfl ?_
    refine w_ne rfl (fun c1 => ?_) (fun c1 => ?_)
    · refine w_cst (v := 0) rfl rfl rfl ?_
      refine y_p rfl rfl rfl (by decide) (by (try simp (config := {decide := true}) only [hC_R, hC_pX, hL_pX, hC_new, hL_R, hL_new, hR_R, hR_new, Prod.mk.injEq, reduceIte, and_true, true_and, and_false, false_and, h8, h9, h10, h11, h12, h13, h14, h15, h16, h17, QH, UH]); first | done | omega) ?_
      refine w_rt rfl rfl trivial ?_
      exact ⟨rfl, by rw [LC, if_neg c0, if_neg c1]; rfl⟩
    · refine w_cst (v := 4) rfl rfl rfl ?_
      refine w_go rfl ?_
      refine y_p rfl rfl rfl (by decide) (by (try simp (config := {decide := true}) only [hC_R, hC_pX, hL_pX, hC_new, hL_R, hL_new, hR_R, hR_new, Prod.mk.injEq, reduceIte, and_true, true_and, and_false, false_and, h8, h9, h10, h11, h12, h13, h14, h15, h16, h17, QH, UH]); first | done | omega) ?_
      refine w_rt rfl rfl trivial ?_
      exact ⟨rfl, by rw [LC, if_neg c0, if_pos c1]; rfl⟩
  · refine w_cst (v := 1000) rfl rfl rfl ?_
    refine w_go rfl ?_
    refine y_p rfl rfl rfl (by decide) (by (try simp (config := {decide := true}) only [hC_R, hC_pX, hL_pX, hC_new, hL_R, hL_new, hR_R, hR_new, Prod.mk.injEq, reduceIte, and_true, true_and, and_false, false_and, h8, h9, h10, h11, h12, h13, h14, h15, h16, h17, QH, UH]); first | done | omega) ?_
    refine w_pu rfl rfl ?_
    refine w_pu rfl rfl ?_
    refine w_cst (v := 3) rfl rfl rfl ?_
    refine w_ne rfl (fun c2 => ?_) (fun c2 => ?_)
    · refine w_cst (v := 0) rfl rfl rfl ?_
      refine y_p rfl rfl rfl (by decide) (by (try simp (config := {decide := true}) only [hC_R, hC_pX, hL_pX, hC_new, hL_R, hL_new, hR_R, hR_new, Prod.mk.injEq, reduceIte, and_true, true_and, and_false, false_and, h8, h9, h10, h11, h12, h13, h14, h15, h16, h17, QH, UH]); first | done | omega) ?_
      refine w_rt rfl rfl trivial ?_
      exact ⟨rfl, by rw [LC, if_pos c0, if_neg c2]; rfl⟩
    · refine w_cst (v := 4) rfl rfl rfl ?_
      refine w_go rfl ?_
      refine y_p rfl rfl rfl (by decide) (by (try simp (config := {decide := true}) only [hC_R, hC_pX, hL_pX, hC_new, hL_R, hL_new, hR_R, hR_new, Prod.mk.injEq, reduceIte, and_true, true_and, and_false, false_and, h8, h9, h10, h11, h12, h13, h14, h15, h16, h17, QH, UH]); first | done | omega) ?_
      refine w_rt rfl rfl trivial ?_
      exact ⟨rfl, by rw [LC, if_pos c0, if_pos c2]; rfl⟩
def PH (h : Hp) (i : Nat) : Hp := (setR (newC h 19 8 8) (18, i) 4 (some (19, i)))
def PC (c : CS) (i : Nat) (f : Int32) (z : Int32) (b : Int32) (m : Int32) : CS := (uC (uC (zC (uC (uC (uC (uC c 18 i 0 f) 18 i 1 z) 18 i 2 b) 18 i 3 m) 19 i) 18 i 5 0) 18 i 7 (-9))
theorem y2_init (X : Nat × (Nat → Int32)) (h : Hp) (c : CS) (i : Nat) (f : Int32) (z : Int32) (b : Int32) (m : Int32) (h18 : i < hpC h 18) (h19 : hpC h 19 = i) (hb : b = 0 ∨ b = 1) : wp X 13 0 [some (vR (some (18, i))), some (vI f), some (vI z), some (vI b), some (vI m)] [] (pX h c) (fun r h' => r = none ∧ h' = pX (PH h i) (PC c i f z b m)) := by
  refine w_pu rfl rfl ?_
  refine y_obj rfl (Nat.le_of_ble_eq_true rfl) ?_
  refine w_pu rfl rfl ?_
  refine w_pu rfl rfl ?_
  refine y_p rfl rfl rfl (by decide) (by (try simp (config := {decide := true}) only [hC_R, hC_pX, hL_pX, hC_new, hL_R, hL_new, hR_R, hR_new, Prod.mk.injEq, reduceIte, and_true, true_and, and_false, false_and, h19, hb]); first | done | omega) ?_
  refine w_pu rfl rfl ?_
  refine w_pu rfl rfl ?_
  refine y_p rfl rfl rfl (by decide) (by (try simp (config := {decide := true}) only [hC_R, hC_pX, hL_pX, hC_new, hL_R, hL_new, hR_R, hR_new, Prod.mk.injEq, reduceIte, and_true, true_and, and_false, false_and, h19, hb]); first | done | omega) ?_
  refine w_pu rfl rfl ?_
  refine w_pu rfl rfl ?_
  refine y_pB rfl rfl rfl (by decide) (by (try simp (config := {decide := true}) only [hC_R, hC_pX, hL_pX, hC_new, hL_R, hL_new, hR_R, hR_new, Prod.mk.injEq, reduceIte, and_true, true_and, and_false, false_and, h19, hb]); first | done | omega) hb ?_
  refine w_pu rfl rfl ?_
  refine w_pu rfl rfl ?_
  refine y_p rfl rfl rfl (by decide) (by (try simp (config := {decide := true}) only [hC_R, hC_pX, hL_pX, hC_new, hL_R, hL_new, hR_R, hR_new, Prod.mk.injEq, reduceIte, and_true, true_and, and_false, false_and, h19, hb]); first | done | omega) ?_
  refine w_pu rfl rfl ?_
  refine w_cst (v := 8) rfl rfl rfl ?_
  refine y_na 8 19 i rfl (by decide) (by (try simp (config := {decide := true}) only [hC_R, hC_pX, hL_pX, hC_new, hL_R, hL_new, hR_R, hR_new, Prod.mk.injEq, reduceIte, and_true, true_and, and_false, false_and, h19, hb]); first | done | omega) rfl (by decide) ?_
  refine y_pR rfl rfl rfl (by (try simp (config := {decide := true}) only [hC_R, hC_pX, hL_pX, hC_new, hL_R, hL_new, hR_R, hR_new, Prod.mk.injEq, reduceIte, and_true, true_and, and_false, false_and, h19, hb]); first | done | omega) (by (try simp (config := {decide := true}) only [hC_R, hC_pX, hL_pX, hC_new, hL_R, hL_new, hR_R, hR_new, Prod.mk.injEq, reduceIte, and_true, true_and, and_false, false_and, h19, hb]); first | done | omega) ?_
  refine w_pu rfl rfl ?_
  refine w_cst (v := 0) rfl rfl rfl ?_
  refine y_p rfl rfl rfl (by decide) (by (try simp (config := {decide := true}) only [hC_R, hC_pX, hL_pX, hC_new, hL_R, hL_new, hR_R, hR_new, Prod.mk.injEq, reduceIte, and_true, true_and, and_false, false_and, h19, hb]); first | done | omega) ?_
  refine w_pu rfl rfl ?_
  refine w_cst (v := (-9)) rfl rfl rfl ?_
  refine y_p rfl rfl rfl (by decide) (by (try simp (config := {decide := true}) only [hC_R, hC_pX, hL_pX, hC_new, hL_R, hL_new, hR_R, hR_new, Prod.mk.injEq, reduceIte, and_true, true_and, and_false, false_and, h19, hb]); first | done | omega) ?_
  refine w_rt rfl rfl trivial ?_
  exact ⟨rfl, rfl⟩
