/-! cutIntoPieces, frame. -/
def szC (a : CS) (f : Nat) (v : Int32) : Int32 := if a 20 f 1 - v * a 0 0 13 < a 0 0 13 then a 20 f 1 - v * a 0 0 13 else a 0 0 13
def pcC (a : CS) (f i : Nat) (v : Int32) : CS := uC (uC (PC (zC a 18 i) i (a 0 0 3) (szC a f v) (if v = a 20 f 3 - 1 then 1 else 0) (sumC (zC a 18 i) f (v * a 0 0 13) (dI 0 (szC a f v)) 0 0)) 0 0 8 (nI i + 1)) 4 0 0 (a 4 0 0 + 1)
def psH (h : Hp) (i : Nat) : Hp := setR (PH (newC h 18 0 8) i) (3, 0) i (some (18, i))
def PHf : Nat → Nat → Hp → Hp
  | 0, _, h => h
  | d + 1, p, h => PHf d (p + 1) (psH h p)
def PCf (f : Nat) : Nat → Nat → Nat → CS → CS
  | 0, _, _, c => c
  | d + 1, p, k, c => PCf f d (p + 1) (k + 1) (pcC c f p (nI k))
def CutOK (h : Hp) (c : CS) (f p n : Nat) : Prop := 0 < hpC h 0 ∧ 0 < hpC h 3 ∧ 0 < hpC h 4 ∧ hpL h (3, 0) = 3000 ∧ hpL h (4, 0) = 4 ∧ hpR h (0, 0) 7 = some (3, 0) ∧ hpR h (0, 0) 10 = some (4, 0) ∧ hpC h 18 = p ∧ hpC h 19 = p ∧ FrS h c f ∧ c 0 0 8 = nI p ∧ c 20 f 3 = nI n
theorem PC_o {i : Nat} {c c' : CS} (e : Eo 18 19 i c c') (f z b m : Int32) : Eo 18 19 i c (PC c' i f z b m) := Eo_u _ _ (by decide) (Eo_u _ _ (by decide) (Eo_z (by decide) (Eo_u _ _ (by decide) (Eo_u _ _ (by decide) (Eo_u _ _ (by decide) (Eo_u _ _ (by decide) e))))))
theorem pcC_o (c : CS) (f i : Nat) (v : Int32) {t i' k : Nat} (h : ¬ t = 0 ∧ ¬ t = 4 ∧ ¬ (i' = i ∧ 18 ≤ t ∧ t ≤ 19)) : pcC c f i v t i' k = c t i' k := by
  unfold pcC
  rw [uC_t _ _ _ _ _ _ h.2.1, uC_t _ _ _ _ _ _ h.1]
  exact PC_o (Eo_z (by decide) (Eo_r 18 19 i c)) _ _ _ _ t i' k h.2.2
theorem pcC_0 (c : CS) (f i : Nat) (v : Int32) {i' k : Nat} (h : ¬ k = 8) : pcC c f i v 0 i' k = c 0 i' k := by
  unfold pcC
  rw [uC_t _ _ _ _ _ _ (by decide), uC_k _ _ _ _ _ _ h]
  exact PC_o (Eo_z (by decide) (Eo_r 18 19 i c)) _ _ _ _ 0 i' k (fun z => absurd z.2.1 (by decide))
theorem Cut_S {h : Hp} {c : CS} {f p : Nat} (S : FrS h c f) : FrS (newC h 18 0 8) (zC c 18 p) f := by
  obtain ⟨s1, s2, s3, s4, s5⟩ := S
  refine ⟨?_, ?_, ?_, ?_, ?_⟩
  · rw [hC_n _ (by decide)]; exact s1
  · rw [hC_n _ (by decide)]; exact s2
  · rw [hR_new, if_neg (fun z => by rw [Prod.mk.injEq] at z; exact absurd z.1 (by decide))]; exact s3
  · rw [hL_new, if_neg (fun z => by rw [Prod.mk.injEq] at z; exact absurd z.1 (by decide)), zC_ne _ _ (fun z => absurd z.1 (by decide))]; exact s4
  · rw [zC_ne _ _ (fun z => absurd z.1 (by decide))]; exact s5
theorem CutOK_s {h : Hp} {c : CS} {f p n : Nat} (v : Int32) (H : CutOK h c f p n) : CutOK (psH h p) (pcC c f p v) f (p + 1) n := by
  obtain ⟨a1, a2, a3, a4, a5, a6, a7, a8, a9, ⟨s1, s2, s3, s4, s5⟩, b1, b2⟩ := H
  unfold psH PH
  refine ⟨?_, ?_, ?_, ?_, ?_, ?_, ?_, ?_, ?_, ⟨?_, ?_, ?_, ?_, ?_⟩, ?_, ?_⟩
  all_goals try simp (config := {decide := true}) only [hC_R, hC_new, hL_R, hL_new, hR_R, hR_new, Prod.mk.injEq, reduceIte, and_true, true_and, and_false, false_and, a1, a2, a3, a4, a5, a6, a7, a8, a9, s1, s2, s3]
  · rw [pcC_o _ _ _ _ ⟨by decide, by decide, fun z => absurd z.2 (by decide)⟩]
    exact s4
  · rw [pcC_o _ _ _ _ ⟨by decide, by decide, fun z => absurd z.2 (by decide)⟩]
    exact s5
  · unfold pcC
    rw [uC_t _ _ _ _ _ _ (by decide), uC_eq, nI_1]
  · rw [pcC_o _ _ _ _ ⟨by decide, by decide, fun z => absurd z.2 (by decide)⟩]
    exact b2
theorem y5_cut (X : Nat × (Nat → Int32)) (f n : Nat) (hn : n ≤ 3000) : ∀ d k p (h : Hp) (c : CS) (x3 x4 x5 : Option Vl), CutOK h c f p n → k + d = n → p + d ≤ 3000 → wp X 40 2 [some (vR (some (0, 0))), some (vR (some (20, f))), some (vI (nI k)), x3, x4, x5] [] (pX h c) (fun r h' => r = none ∧ h' = pX (PHf d p h) (PCf f d p k c)) := by
  intro d
  induction d with
  | zero =>
    intro k p h c x3 x4 x5 H hk hp
    have HH := H
    obtain ⟨a1, a2, a3, a4, a5, a6, a7, a8, a9, S, b1, b2⟩ := H
    obtain ⟨s1, s2, s3, sF⟩ := S
    rw [PHf, PCf]
    refine w_pu rfl rfl ?_
    refine w_pu rfl rfl ?_
    refine y_g rfl rfl rfl (by decide) (by (try simp (config := {decide := true}) only [hC_R, hC_pX, hL_pX, hC_new, hL_R, hL_new, hR_R, hR_new, Prod.mk.injEq, reduceIte, and_true, true_and, and_false, false_and, a8, a9, a4, a5, PH]); first | done | omega) ?_
    refine w_top (nI n) (b2) ?_
    refine w_ge rfl (fun c0 => ?_) (fun c0 => ?_)
    · refine w_rt rfl rfl trivial ?_
      exact ⟨rfl, rfl⟩
    · exact absurd (nI_le (by omega) (by omega)) c0
  | succ d ih =>
    intro k p h c x3 x4 x5 H hk hp
    have HH := CutOK_s (nI k) H
    obtain ⟨a1, a2, a3, a4, a5, a6, a7, a8, a9, HS, b1, b2⟩ := H
    obtain ⟨s1, s2, s3, sF⟩ := HS
    have HS : FrS h c f := ⟨s1, s2, s3, sF⟩
    have ih := fun x y z => ih (k + 1) (p + 1) (psH h p) (pcC c f p (nI k)) x y z HH (by omega) (by omega)
    rw [PHf, PCf]
    refine w_pu rfl rfl ?_
    refine w_pu rfl rfl ?_
    refine y_g rfl rfl rfl (by decide) (by (try simp (config := {decide := true}) only [hC_R, hC_pX, hL_pX, hC_new, hL_R, hL_new, hR_R, hR_new, Prod.mk.injEq, reduceIte, and_true, true_and, and_false, false_and, a8, a9, a4, a5, PH]); first | done | omega) ?_
    refine w_ge rfl (fun c0 => ?_) (fun c0 => ?_)
    · exact absurd (by rw [b2] at c0; exact c0) (nI_ge (by omega) (by omega))
    · refine w_pu rfl rfl ?_
      refine w_pu rfl rfl ?_
      refine y_g rfl rfl rfl (by decide) (by (try simp (config := {decide := true}) only [hC_R, hC_pX, hL_pX, hC_new, hL_R, hL_new, hR_R, hR_new, Prod.mk.injEq, reduceIte, and_true, true_and, and_false, false_and, a8, a9, a4, a5, PH]); first | done | omega) ?_
      refine w_pu rfl rfl ?_
      refine w_pu rfl rfl ?_
      refine w_pu rfl rfl ?_
      refine y_g rfl rfl rfl (by decide) (by (try simp (config := {decide := true}) only [hC_R, hC_pX, hL_pX, hC_new, hL_R, hL_new, hR_R, hR_new, Prod.mk.injEq, reduceIte, and_true, true_and, and_false, false_and, a8, a9, a4, a5, PH]); first | done | omega) ?_
      refine w_pu rfl rfl ?_
      refine y_g rfl rfl rfl (by decide) (by (try simp (config := {decide := true}) only [hC_R, hC_pX, hL_pX, hC_new, hL_R, hL_new, hR_R, hR_new, Prod.mk.injEq, reduceIte, and_true, true_and, and_false, false_and, a8, a9, a4, a5, PH]); first | done | omega) ?_
      refine w_pu rfl rfl ?_
      refine w_pu rfl rfl ?_
      refine w_op rfl rfl (Nat.le_of_ble_eq_true rfl) ?_
      refine w_top ((szC c f (nI k))) (rfl) ?_
      refine w_pu rfl rfl ?_
      refine w_pu rfl rfl ?_
      refine w_pu rfl rfl ?_
      refine y_g rfl rfl rfl (by decide) (by (try simp (config := {decide := true}) only [hC_R, hC_pX, hL_pX, hC_new, hL_R, hL_new, hR_R, hR_new, Prod.mk.injEq, reduceIte, and_true, true_and, and_false, false_and, a8, a9, a4, a5, PH]); first | done | omega) ?_
      refine w_cst (v := 1) rfl rfl rfl ?_
      refine w_pu rfl rfl ?_
      refine w_ne rfl (fun c1 => ?_) (fun c1 => ?_)
      · refine w_cst (v := 0) rfl rfl rfl ?_
        refine w_pu rfl rfl ?_
        refine w_pu rfl rfl ?_
        refine y_gR 3 rfl rfl rfl rfl (by (try simp (config := {decide := true}) only [hC_R, hC_pX, hL_pX, hC_new, hL_R, hL_new, hR_R, hR_new, Prod.mk.injEq, reduceIte, and_true, true_and, and_false, false_and, a8, a9, a4, a5, PH]); first | done | omega) (by simp (config := {decide := true}) only [hC_R, hC_new, hL_R, hL_new, hR_R, hR_new, Prod.mk.injEq, reduceIte, and_true, true_and, and_false, false_and, PH, a6]) ?_
        refine w_pu rfl rfl ?_
        refine y_g rfl rfl rfl (by decide) (by (try simp (config := {decide := true}) only [hC_R, hC_pX, hL_pX, hC_new, hL_R, hL_new, hR_R, hR_new, Prod.mk.injEq, reduceIte, and_true, true_and, and_false, false_and, a8, a9, a4, a5, PH]); first | done | omega) ?_
        refine w_top (nI p) (b1) ?_
        refine y_new 18 p 8 rfl (by decide) (by (try simp (config := {decide := true}) only [hC_R, hC_pX, hL_pX, hC_new, hL_R, hL_new, hR_R, hR_new, Prod.mk.injEq, reduceIte, and_true, true_and, and_false, false_and, a8, a9, a4, a5, PH]); first | done | omega) rfl ?_
        refine w_pu rfl rfl ?_
        refine w_pu rfl rfl ?_
        refine y_g rfl rfl rfl (by decide) (by (try simp (config := {decide := true}) only [hC_R, hC_pX, hL_pX, hC_new, hL_R, hL_new, hR_R, hR_new, Prod.mk.injEq, reduceIte, and_true, true_and, and_false, false_and, a8, a9, a4, a5, PH]); first | done | omega) ?_
        refine w_top (c 0 0 3) (by rw [zC_ne _ _ (fun z => absurd z.1 (by decide))]) ?_
        refine w_pu rfl rfl ?_
        refine w_pu rfl rfl ?_
        refine w_pu rfl rfl ?_
        refine w_pu rfl rfl ?_
        refine w_pu rfl rfl ?_
        refine w_cp (vI (sumC (zC c 18 p) f ((nI k) * (c 0 0 13)) (dI 0 (szC c f (nI k))) 0 0)) rfl rfl (by decide) (Nat.le_of_ble_eq_true rfl) rfl (Nat.le_of_ble_eq_true rfl) (Nat.le_of_ble_eq_true rfl) ⟨(Cut_S (p := p) HS).1, rfl⟩ rfl (y0_sumOf X (newC h 18 0 8) (zC c 18 p) f ((nI k) * (c 0 0 13)) (szC c f (nI k)) (Cut_S (p := p) HS)) ?_
        refine w_cvE (pX (PH (newC h 18 0 8) p) (PC (zC c 18 p) p (c 0 0 3) (szC c f (nI k)) 0 (sumC (zC c 18 p) f ((nI k) * (c 0 0 13)) (dI 0 (szC c f (nI k))) 0 0))) rfl rfl (by decide) (Nat.le_of_ble_eq_true rfl) rfl (Nat.le_of_ble_eq_true rfl) (Nat.le_of_ble_eq_true rfl) ⟨(by show _ < hpC _ _; (try simp (config := {decide := true}) only [hC_R, hC_pX, hL_pX, hC_new, hL_R, hL_new, hR_R, hR_new, Prod.mk.injEq, reduceIte, and_true, true_and, and_false, false_and, a8, a9, a4, a5, PH]); first | done | omega), rfl⟩ rfl (y2_init X (newC h 18 0 8) (zC c 18 p) p (c 0 0 3) (szC c f (nI k)) 0 (sumC (zC c 18 p) f ((nI k) * (c 0 0 13)) (dI 0 (szC c f (nI k))) 0 0) (by (try simp (config := {decide := true}) only [hC_R, hC_pX, hL_pX, hC_new, hL_R, hL_new, hR_R, hR_new, Prod.mk.injEq, reduceIte, and_true, true_and, and_false, false_and, a8, a9, a4, a5, PH]); first | done | omega) (by (try simp (config := {decide := true}) only [hC_R, hC_pX, hL_pX, hC_new, hL_R, hL_new, hR_R, hR_new, Prod.mk.injEq, reduceIte, and_true, true_and, and_false, false_and, a8, a9, a4, a5, PH]); first | done | omega) (by first | exact Or.inl rfl | exact Or.inr rfl)) ?_
        refine y_aR (N := 3000) p rfl (by (try simp (config := {decide := true}) only [hC_R, hC_pX, hL_pX, hC_new, hL_R, hL_new, hR_R, hR_new, Prod.mk.injEq, reduceIte, and_true, true_and, and_false, false_and, a8, a9, a4, a5, PH]); first | done | omega) rfl (by exact (by decide : kd 18 < 10)) (by (try simp (config := {decide := true}) only [hC_R, hC_pX, hL_pX, hC_new, hL_R, hL_new, hR_R, hR_new, Prod.mk.injEq, reduceIte, and_true, true_and, and_false, false_and, a8, a9, a4, a5, PH]); first | done | omega) (by (try simp (config := {decide := true}) only [hC_R, hC_pX, hL_pX, hC_new, hL_R, hL_new, hR_R, hR_new, Prod.mk.injEq, reduceIte, and_true, true_and, and_false, false_and, a8, a9, a4, a5, PH]); first | done | omega) (by decide) rfl (by omega) ?_
        refine w_pu rfl rfl ?_
        refine w_pu rfl rfl ?_
        refine y_g rfl rfl rfl (by decide) (by (try simp (config := {decide := true}) only [hC_R, hC_pX, hL_pX, hC_new, hL_R, hL_new, hR_R, hR_new, Prod.mk.injEq, reduceIte, and_true, true_and, and_false, false_and, a8, a9, a4, a5, PH]); first | done | omega) ?_
        refine w_top (nI p) (by rw [PC_o (Eo_z (by decide) (Eo_r 18 19 p c)) _ _ _ _ 0 0 8 (fun z => absurd z.2.1 (by decide))]; exact b1) ?_
        refine w_cst (v := 1) rfl rfl rfl ?_
        refine w_pu rfl rfl ?_
        refine y_p rfl rfl rfl (by decide) (by (try simp (config := {decide := true}) only [hC_R, hC_pX, hL_pX, hC_new, hL_R, hL_new, hR_R, hR_new, Prod.mk.injEq, reduceIte, and_true, true_and, and_false, false_and, a8, a9, a4, a5, PH]); first | done | omega) ?_
        refine w_pu rfl rfl ?_
        refine w_cst (v := 0) rfl rfl rfl ?_
        refine w_cst (v := 1) rfl rfl rfl ?_
        refine w_cvE (pX (setR (PH (newC h 18 0 8) p) (3, 0) p (some (18, p))) (uC (uC (PC (zC c 18 p) p (c 0 0 3) (szC c f (nI k)) 0 (sumC (zC c 18 p) f ((nI k) * (c 0 0 13)) (dI 0 (szC c f (nI k))) 0 0)) 0 0 8 ((nI p) + 1)) 4 0 0 (c 4 0 0 + 1))) rfl rfl (by decide) (Nat.le_of_ble_eq_true rfl) rfl (Nat.le_of_ble_eq_true rfl) (Nat.le_of_ble_eq_true rfl) ⟨(by show _ < hpC _ _; (try simp (config := {decide := true}) only [hC_R, hC_pX, hL_pX, hC_new, hL_R, hL_new, hR_R, hR_new, Prod.mk.injEq, reduceIte, and_true, true_and, and_false, false_and, a8, a9, a4, a5, PH]); first | done | omega), rfl⟩ rfl (by have qc := x5_cis X (setR (PH (newC h 18 0 8) p) (3, 0) p (some (18, p))) (uC (PC (zC c 18 p) p (c 0 0 3) (szC c f (nI k)) 0 (sumC (zC c 18 p) f ((nI k) * (c 0 0 13)) (dI 0 (szC c f (nI k))) 0 0)) 0 0 8 ((nI p) + 1)) 0 1 (by decide) (by (try simp (config := {decide := true}) only [hC_R, hC_pX, hL_pX, hC_new, hL_R, hL_new, hR_R, hR_new, Prod.mk.injEq, reduceIte, and_true, true_and, and_false, false_and, a8, a9, a4, a5, PH]); first | done | omega) (by (try simp (config := {decide := true}) only [hC_R, hC_pX, hL_pX, hC_new, hL_R, hL_new, hR_R, hR_new, Prod.mk.injEq, reduceIte, and_true, true_and, and_false, false_and, a8, a9, a4, a5, PH]); first | done | omega) (by (try simp (config := {decide := true}) only [hC_R, hC_pX, hL_pX, hC_new, hL_R, hL_new, hR_R, hR_new, Prod.mk.injEq, reduceIte, and_true, true_and, and_false, false_and, a8, a9, a4, a5, PH]); first | done | omega) (by simp (config := {decide := true}) only [hC_R, hC_new, hL_R, hL_new, hR_R, hR_new, Prod.mk.injEq, reduceIte, and_true, true_and, and_false, false_and, PH, a7]); rw [show (uC (PC (zC c 18 p) p (c 0 0 3) (szC c f (nI k)) 0 (sumC (zC c 18 p) f ((nI k) * (c 0 0 13)) (dI 0 (szC c f (nI k))) 0 0)) 0 0 8 ((nI p) + 1)) 4 0 0 = c 4 0 0 by rw [uC_t _ _ _ _ _ _ (by decide), PC_o (Eo_z (by decide) (Eo_r 18 19 p c)) _ _ _ _ 4 0 0 (fun z => absurd z.2.1 (by decide))]] at qc; exact qc) ?_
        refine w_i1 rfl rfl rfl ?_
        refine w_go rfl ?_
        rw [pcC, if_neg c1] at ih ⊢
        exact ih _ _ _
      · refine w_cst (v := 1) rfl rfl rfl ?_
        refine w_go rfl ?_
        refine w_pu rfl rfl ?_
        refine w_pu rfl rfl ?_
        refine y_gR 3 rfl rfl rfl rfl (by (try simp (config := {decide := true}) only [hC_R, hC_pX, hL_pX, hC_new, hL_R, hL_new, hR_R, hR_new, Prod.mk.injEq, reduceIte, and_true, true_and, and_false, false_and, a8, a9, a4, a5, PH]); first | done | omega) (by simp (config := {decide := true}) only [hC_R, hC_new, hL_R, hL_new, hR_R, hR_new, Prod.mk.injEq, reduceIte, and_true, true_and, and_false, false_and, PH, a6]) ?_
        refine w_pu rfl rfl ?_
        refine y_g rfl rfl rfl (by decide) (by (try simp (config := {decide := true}) only [hC_R, hC_pX, hL_pX, hC_new, hL_R, hL_new, hR_R, hR_new, Prod.mk.injEq, reduceIte, and_true, true_and, and_false, false_and, a8, a9, a4, a5, PH]); first | done | omega) ?_
        refine w_top (nI p) (b1) ?_
        refine y_new 18 p 8 rfl (by decide) (by (try simp (config := {decide := true}) only [hC_R, hC_pX, hL_pX, hC_new, hL_R, hL_new, hR_R, hR_new, Prod.mk.injEq, reduceIte, and_true, true_and, and_false, false_and, a8, a9, a4, a5, PH]); first | done | omega) rfl ?_
        refine w_pu rfl rfl ?_
        refine w_pu rfl rfl ?_
        refine y_g rfl rfl rfl (by decide) (by (try simp (config := {decide := true}) only [hC_R, hC_pX, hL_pX, hC_new, hL_R, hL_new, hR_R, hR_new, Prod.mk.injEq, reduceIte, and_true, true_and, and_false, false_and, a8, a9, a4, a5, PH]); first | done | omega) ?_
        refine w_top (c 0 0 3) (by rw [zC_ne _ _ (fun z => absurd z.1 (by decide))]) ?_
        refine w_pu rfl rfl ?_
        refine w_pu rfl rfl ?_
        refine w_pu rfl rfl ?_
        refine w_pu rfl rfl ?_
        refine w_pu rfl rfl ?_
        refine w_cp (vI (sumC (zC c 18 p) f ((nI k) * (c 0 0 13)) (dI 0 (szC c f (nI k))) 0 0)) rfl rfl (by decide) (Nat.le_of_ble_eq_true rfl) rfl (Nat.le_of_ble_eq_true rfl) (Nat.le_of_ble_eq_true rfl) ⟨(Cut_S (p := p) HS).1, rfl⟩ rfl (y0_sumOf X (newC h 18 0 8) (zC c 18 p) f ((nI k) * (c 0 0 13)) (szC c f (nI k)) (Cut_S (p := p) HS)) ?_
        refine w_cvE (pX (PH (newC h 18 0 8) p) (PC (zC c 18 p) p (c 0 0 3) (szC c f (nI k)) 1 (sumC (zC c 18 p) f ((nI k) * (c 0 0 13)) (dI 0 (szC c f (nI k))) 0 0))) rfl rfl (by decide) (Nat.le_of_ble_eq_true rfl) rfl (Nat.le_of_ble_eq_true rfl) (Nat.le_of_ble_eq_true rfl) ⟨(by show _ < hpC _ _; (try simp (config := {decide := true}) only [hC_R, hC_pX, hL_pX, hC_new, hL_R, hL_new, hR_R, hR_new, Prod.mk.injEq, reduceIte, and_true, true_and, and_false, false_and, a8, a9, a4, a5, PH]); first | done | omega), rfl⟩ rfl (y2_init X (newC h 18 0 8) (zC c 18 p) p (c 0 0 3) (szC c f (nI k)) 1 (sumC (zC c 18 p) f ((nI k) * (c 0 0 13)) (dI 0 (szC c f (nI k))) 0 0) (by (try simp (config := {decide := true}) only [hC_R, hC_pX, hL_pX, hC_new, hL_R, hL_new, hR_R, hR_new, Prod.mk.injEq, reduceIte, and_true, true_and, and_false, false_and, a8, a9, a4, a5, PH]); first | done | omega) (by (try simp (config := {decide := true}) only [hC_R, hC_pX, hL_pX, hC_new, hL_R, hL_new, hR_R, hR_new, Prod.mk.injEq, reduceIte, and_true, true_and, and_false, false_and, a8, a9, a4, a5, PH]); first | done | omega) (by first | exact Or.inl rfl | exact Or.inr rfl)) ?_
        refine y_aR (N := 3000) p rfl (by (try simp (config := {decide := true}) only [hC_R, hC_pX, hL_pX, hC_new, hL_R, hL_new, hR_R, hR_new, Prod.mk.injEq, reduceIte, and_true, true_and, and_false, false_and, a8, a9, a4, a5, PH]); first | done | omega) rfl (by exact (by decide : kd 18 < 10)) (by (try simp (config := {decide := true}) only [hC_R, hC_pX, hL_pX, hC_new, hL_R, hL_new, hR_R, hR_new, Prod.mk.injEq, reduceIte, and_true, true_and, and_false, false_and, a8, a9, a4, a5, PH]); first | done | omega) (by (try simp (config := {decide := true}) only [hC_R, hC_pX, hL_pX, hC_new, hL_R, hL_new, hR_R, hR_new, Prod.mk.injEq, reduceIte, and_true, true_and, and_false, false_and, a8, a9, a4, a5, PH]); first | done | omega) (by decide) rfl (by omega) ?_
        refine w_pu rfl rfl ?_
        refine w_pu rfl rfl ?_
        refine y_g rfl rfl rfl (by decide) (by (try simp (config := {decide := true}) only [hC_R, hC_pX, hL_pX, hC_new, hL_R, hL_new, hR_R, hR_new, Prod.mk.injEq, reduceIte, and_true, true_and, and_false, false_and, a8, a9, a4, a5, PH]); first | done | omega) ?_
        refine w_top (nI p) (by rw [PC_o (Eo_z (by decide) (Eo_r 18 19 p c)) _ _ _ _ 0 0 8 (fun z => absurd z.2.1 (by decide))]; exact b1) ?_
        refine w_cst (v := 1) rfl rfl rfl ?_
        refine w_pu rfl rfl ?_
        refine y_p rfl rfl rfl (by decide) (by (try simp (config := {decide := true}) only [hC_R, hC_pX, hL_pX, hC_new, hL_R, hL_new, hR_R, hR_new, Prod.mk.injEq, reduceIte, and_true, true_and, and_false, false_and, a8, a9, a4, a5, PH]); first | done | omega) ?_
        refine w_pu rfl rfl ?_
        refine w_cst (v := 0) rfl rfl rfl ?_
        refine w_cst (v := 1) rfl rfl rfl ?_
        refine w_cvE (pX (setR (PH (newC h 18 0 8) p) (3, 0) p (some (18, p))) (uC (uC (PC (zC c 18 p) p (c 0 0 3) (szC c f (nI k)) 1 (sumC (zC c 18 p) f ((nI k) * (c 0 0 13)) (dI 0 (szC c f (nI k))) 0 0)) 0 0 8 ((nI p) + 1)) 4 0 0 (c 4 0 0 + 1))) rfl rfl (by decide) (Nat.le_of_ble_eq_true rfl) rfl (Nat.le_of_ble_eq_true rfl) (Nat.le_of_ble_eq_true rfl) ⟨(by show _ < hpC _ _; (try simp (config := {decide := true}) only [hC_R, hC_pX, hL_pX, hC_new, hL_R, hL_new, hR_R, hR_new, Prod.mk.injEq, reduceIte, and_true, true_and, and_false, false_and, a8, a9, a4, a5, PH]); first | done | omega), rfl⟩ rfl (by have qc := x5_cis X (setR (PH (newC h 18 0 8) p) (3, 0) p (some (18, p))) (uC (PC (zC c 18 p) p (c 0 0 3) (szC c f (nI k)) 1 (sumC (zC c 18 p) f ((nI k) * (c 0 0 13)) (dI 0 (szC c f (nI k))) 0 0)) 0 0 8 ((nI p) + 1)) 0 1 (by decide) (by (try simp (config := {decide := true}) only [hC_R, hC_pX, hL_pX, hC_new, hL_R, hL_new, hR_R, hR_new, Prod.mk.injEq, reduceIte, and_true, true_and, and_false, false_and, a8, a9, a4, a5, PH]); first | done | omega) (by (try simp (config := {decide := true}) only [hC_R, hC_pX, hL_pX, hC_new, hL_R, hL_new, hR_R, hR_new, Prod.mk.injEq, reduceIte, and_true, true_and, and_false, false_and, a8, a9, a4, a5, PH]); first | done | omega) (by (try simp (config := {decide := true}) only [hC_R, hC_pX, hL_pX, hC_new, hL_R, hL_new, hR_R, hR_new, Prod.mk.injEq, reduceIte, and_true, true_and, and_false, false_and, a8, a9, a4, a5, PH]); first | done | omega) (by simp (config := {decide := true}) only [hC_R, hC_new, hL_R, hL_new, hR_R, hR_new, Prod.mk.injEq, reduceIte, and_true, true_and, and_false, false_and, PH, a7]); rw [show (uC (PC (zC c 18 p) p (c 0 0 3) (szC c f (nI k)) 1 (sumC (zC c 18 p) f ((nI k) * (c 0 0 13)) (dI 0 (szC c f (nI k))) 0 0)) 0 0 8 ((nI p) + 1)) 4 0 0 = c 4 0 0 by rw [uC_t _ _ _ _ _ _ (by decide), PC_o (Eo_z (by decide) (Eo_r 18 19 p c)) _ _ _ _ 4 0 0 (fun z => absurd z.2.1 (by decide))]] at qc; exact qc) ?_
        refine w_i1 rfl rfl rfl ?_
        refine w_go rfl ?_
        rw [pcC, if_pos c1] at ih ⊢
        exact ih _ _ _
