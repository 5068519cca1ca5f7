/-! The class's open. -/
/-- alike but for the line i's own cells -/
def Eo (a b i : Nat) (c c' : CS) : Prop := ∀ t i' k, ¬ (i' = i ∧ a ≤ t ∧ t ≤ b) → c' t i' k = c t i' k
theorem Eo_r (a b i : Nat) (c : CS) : Eo a b i c c := fun _ _ _ _ => rfl
theorem Eo_u {a b i : Nat} {c c' : CS} {t : Nat} (k : Nat) (v : Int32) (h : a ≤ t ∧ t ≤ b) (e : Eo a b i c c') : Eo a b i c (uC c' t i k v) := fun t' i' k' q => by
  rw [uC_ne _ _ (fun z => q ⟨z.2.1, by omega⟩)]
  exact e t' i' k' q
theorem Eo_z {a b i : Nat} {c c' : CS} {t : Nat} (h : a ≤ t ∧ t ≤ b) (e : Eo a b i c c') : Eo a b i c (zC c' t i) := fun t' i' k' q => by
  rw [zC_ne _ _ (fun z => q ⟨z.2, by omega⟩)]
  exact e t' i' k' q
theorem QC_o {i : Nat} {c c' : CS} (e : Eo 7 17 i c c') : Eo 7 17 i c (QC c' i) := Eo_z (by decide) (Eo_z (by decide) e)
theorem UC_o {i : Nat} {c c' : CS} (e : Eo 7 17 i c c') : Eo 7 17 i c (UC c' i) := Eo_z (by decide) (Eo_z (by decide) (Eo_z (by decide) (Eo_z (by decide) e)))
theorem LC_o {i : Nat} {c c' : CS} (e : Eo 7 17 i c c') (n k s d : Int32) : Eo 7 17 i c (LC c' i n k s d) := by
  unfold LC
  have e1 : Eo 7 17 i c (zC (uC (uC (uC (uC c' 7 i 0 n) 7 i 1 k) 7 i 2 s) 7 i 3 d) 10 i) := Eo_z (by decide) (Eo_u _ _ (by decide) (Eo_u _ _ (by decide) (Eo_u _ _ (by decide) (Eo_u _ _ (by decide) e))))
  have e2 := Eo_u (t := 7) 8 1 (by decide) (Eo_z (t := 9) (by decide) (Eo_z (t := 8) (by decide) (UC_o (Eo_z (t := 13) (by decide) (QC_o e1)))))
  by_cases q : k = 3
  · rw [if_pos q, if_pos q]
    exact Eo_u _ _ (by decide) (Eo_u _ _ (by decide) e2)
  · rw [if_neg q, if_neg q]
    exact Eo_u _ _ (by decide) (Eo_u _ _ (by decide) e2)
def OH (h : Hp) (i : Nat) : Hp := setR (LH (newC h 7 0 17) i) (1, 0) i (some (7, i))
def OC (c : CS) (i : Nat) (k s d : Int32) : CS := uC (LC (zC c 7 i) i (nI i) k s d) 0 0 1 (nI i + 1)
theorem LC_0 (c : CS) (i : Nat) (n k s d : Int32) (k' : Nat) : LC (zC c 7 i) i n k s d 0 0 k' = c 0 0 k' := LC_o (Eo_z (by decide) (Eo_r 7 17 i c)) n k s d 0 0 k' (fun z => absurd z.2.1 (by decide))
def x5_openF (nl : Nat) (c : CS) (k s d : Int32) : Int32 × CS × Bool := (if k < 0 then ((-2), refX c 2, false) else (if k ≤ 3 then (if k = 0 then (if s < 250 then ((-4), refX c 4, false) else (if 1 ≤ d then (if 1000 < s then ((-6), refX c 6, false) else (if 40 < d then ((-6), refX c 6, false) else (if (nI nl) < 8 then (nI nl, OC c nl k s d, true) else ((-6), refX c 6, false)))) else ((-4), refX c 4, false))) else (if s < 1 then ((-4), refX c 4, false) else (if 1 ≤ d then (if 1000 < s then ((-6), refX c 6, false) else (if 40 < d then ((-6), refX c 6, false) else (if (nI nl) < 8 then (nI nl, OC c nl k s d, true) else ((-6), refX c 6, false)))) else ((-4), refX c 4, false)))) else ((-2), refX c 2, false)))
theorem x5_open (X : Nat × (Nat → Int32)) {h : Hp} {nl nf np : Nat} (hw : WF h nl nf np) (c : CS) (hnl : c 0 0 1 = nI nl) (k s d : Int32) : wp X 35 0 [some (vR (some (0, 0))), some (vI k), some (vI s), some (vI d), none] [] (pX h c) (fun r h' => r = some (vI (x5_openF nl c k s d).1) ∧ h' = pX (if (x5_openF nl c k s d).2.2 = true then OH h nl else h) (x5_openF nl c k s d).2.1 ∧ ((x5_openF nl c k s d).2.2 = true → nl < 8)) := by
  have h4 := hw.2.2.2.2.2.2.1
  have g0 : hpC h 0 = 1 := hw.1 0
  have g1 : hpC h 1 = 1 := hw.1 1
  have g7 : hpC h 7 = nl := hw.1 7
  have g8 : hpC h 8 = nl := hw.1 8
  have g9 : hpC h 9 = nl := hw.1 9
  have g10 : hpC h 10 = nl := hw.1 10
  have g11 : hpC h 11 = nl := hw.1 11
  have g12 : hpC h 12 = nl := hw.1 12
  have g13 : hpC h 13 = nl := hw.1 13
  have g14 : hpC h 14 = nl := hw.1 14
  have g15 : hpC h 15 = nl := hw.1 15
  have g16 : hpC h 16 = nl := hw.1 16
  have g17 : hpC h 17 = nl := hw.1 17
  have gl : hpL h (1, 0) = 8 := wn (t := 1) (i := 0) hw Nat.one_pos (by decide)
  refine w_pu rfl rfl ?_
  refine w_lt0 rfl (fun c0 => ?_) (fun c0 => ?_)
  · refine w_pu rfl rfl ?_
    refine w_cst (v := (-2)) rfl rfl rfl ?_
    refine w_cgE (vI (-2)) (pX h (refX c 2)) rfl rfl (by decide) (Nat.le_of_ble_eq_true rfl) rfl (Nat.le_of_ble_eq_true rfl) (Nat.le_of_ble_eq_true rfl) ⟨wl hw Nat.one_pos, rfl⟩ rfl (x5_refuse_2 X hw c) ?_
    refine w_rt rfl rfl trivial ?_
    rw [x5_openF, if_pos c0]
    exact ⟨rfl, rfl, fun z => by cases z⟩
  · refine w_pu rfl rfl ?_
    refine w_cst (v := 3) rfl rfl rfl ?_
    refine w_le rfl (fun c1 => ?_) (fun c1 => ?_)
    · refine w_pu rfl rfl ?_
      refine w_ne0 rfl (fun c2 => ?_) (fun c2 => ?_)
      · refine w_cst (v := 1) rfl rfl rfl ?_
        refine w_pu rfl rfl ?_
        refine w_pu rfl rfl ?_
        refine w_pu rfl rfl ?_
        refine w_lt rfl (fun c3 => ?_) (fun c3 => ?_)
        · refine w_pu rfl rfl ?_
          refine w_cst (v := (-4)) rfl rfl rfl ?_
          refine w_cgE (vI (-4)) (pX h (refX c 4)) rfl rfl (by decide) (Nat.le_of_ble_eq_true rfl) rfl (Nat.le_of_ble_eq_true rfl) (Nat.le_of_ble_eq_true rfl) ⟨wl hw Nat.one_pos, rfl⟩ rfl (x5_refuse_4 X hw c) ?_
          refine w_rt rfl rfl trivial ?_
          rw [x5_openF, if_neg c0, if_pos c1, if_neg c2, if_pos c3]
          exact ⟨rfl, rfl, fun z => by cases z⟩
        · refine w_pu rfl rfl ?_
          refine w_cst (v := 1) rfl rfl rfl ?_
          refine w_ge rfl (fun c4 => ?_) (fun c4 => ?_)
          · refine w_pu rfl rfl ?_
            refine w_cst (v := 1000) rfl rfl rfl ?_
            refine w_gt rfl (fun c5 => ?_) (fun c5 => ?_)
            · refine w_pu rfl rfl ?_
              refine w_cst (v := (-6)) rfl rfl rfl ?_
              refine w_cgE (vI (-6)) (pX h (refX c 6)) rfl rfl (by decide) (Nat.le_of_ble_eq_true rfl) rfl (Nat.le_of_ble_eq_true rfl) (Nat.le_of_ble_eq_true rfl) ⟨wl hw Nat.one_pos, rfl⟩ rfl (x5_refuse_6 X hw c) ?_
              refine w_rt rfl rfl trivial ?_
              rw [x5_openF, if_neg c0, if_pos c1, if_neg c2, if_neg c3, if_pos c4, if_pos c5]
              exact ⟨rfl, rfl, fun z => by cases z⟩
            · refine w_pu rfl rfl ?_
              refine w_cst (v := 40) rfl rfl rfl ?_
              refine w_gt rfl (fun c6 => ?_) (fun c6 => ?_)
              · refine w_pu rfl rfl ?_
                refine w_cst (v := (-6)) rfl rfl rfl ?_
                refine w_cgE (vI (-6)) (pX h (refX c 6)) rfl rfl (by decide) (Nat.le_of_ble_eq_true rfl) rfl (Nat.le_of_ble_eq_true rfl) (Nat.le_of_ble_eq_true rfl) ⟨wl hw Nat.one_pos, rfl⟩ rfl (x5_refuse_6 X hw c) ?_
                refine w_rt rfl rfl trivial ?_
                rw [x5_openF, if_neg c0, if_pos c1, if_neg c2, if_neg c3, if_pos c4, if_neg c5, if_pos c6]
                exact ⟨rfl, rfl, fun z => by cases z⟩
              · refine w_pu rfl rfl ?_
                refine x_g hw rfl rfl rfl (by decide) Nat.one_pos ?_
                refine w_top (nI nl) (hnl) ?_
                refine w_cst (v := 8) rfl rfl rfl ?_
                refine w_lt rfl (fun c7 => ?_) (fun c7 => ?_)
                · have hn8 : nl < 8 := by
                    have := Int32.not_le.mpr c7
                    rcases Nat.lt_or_ge nl 8 with z | z
                    · exact z
                    · exact absurd (nI_le (a := 8) z (by omega)) this
                  rw [x5_openF, if_neg c0, if_pos c1, if_neg c2, if_neg c3, if_pos c4, if_neg c5, if_neg c6, if_pos c7]
                  refine w_pu rfl rfl ?_
                  refine y_gR 1 rfl rfl rfl rfl (by (try simp (config := {decide := true}) only [hC_R, hC_pX, hL_pX, hC_new, hL_R, hL_new, hR_R, hR_new, Prod.mk.injEq, reduceIte, and_true, true_and, and_false, false_and, g0, g1, g7, g8, g9, g10, g11, g12, g13, g14, g15, g16, g17, gl, LH, QH, UH]); first | done | omega) (wr (t := 0) (i := 0) hw Nat.one_pos rfl) ?_
                  refine w_pu rfl rfl ?_
                  refine y_g rfl rfl rfl (by decide) (by (try simp (config := {decide := true}) only [hC_R, hC_pX, hL_pX, hC_new, hL_R, hL_new, hR_R, hR_new, Prod.mk.injEq, reduceIte, and_true, true_and, and_false, false_and, g0, g1, g7, g8, g9, g10, g11, g12, g13, g14, g15, g16, g17, gl, LH, QH, UH]); first | done | omega) ?_
                  refine w_top (nI nl) (hnl) ?_
                  refine y_new 7 nl 17 rfl (by decide) (by (try simp (config := {decide := true}) only [hC_R, hC_pX, hL_pX, hC_new, hL_R, hL_new, hR_R, hR_new, Prod.mk.injEq, reduceIte, and_true, true_and, and_false, false_and, g0, g1, g7, g8, g9, g10, g11, g12, g13, g14, g15, g16, g17, gl, LH, QH, UH]); first | done | omega) rfl ?_
                  refine w_pu rfl rfl ?_
                  refine w_pu rfl rfl ?_
                  refine y_g rfl rfl rfl (by decide) (by (try simp (config := {decide := true}) only [hC_R, hC_pX, hL_pX, hC_new, hL_R, hL_new, hR_R, hR_new, Prod.mk.injEq, reduceIte, and_true, true_and, and_false, false_and, g0, g1, g7, g8, g9, g10, g11, g12, g13, g14, g15, g16, g17, gl, LH, QH, UH]); first | done | omega) ?_
                  refine w_top (nI nl) (by rw [zC_ne _ _ (fun z => absurd z.1 (by decide))]; exact hnl) ?_
                  refine w_pu rfl rfl ?_
                  refine w_pu rfl rfl ?_
                  refine w_pu rfl rfl ?_
                  refine w_cvE (pX (LH (newC h 7 0 17) nl) (LC (zC c 7 nl) nl (nI nl) k s d)) rfl rfl (by decide) (Nat.le_of_ble_eq_true rfl) rfl (Nat.le_of_ble_eq_true rfl) (Nat.le_of_ble_eq_true rfl) ⟨(by show _ < hpC _ _; (try simp (config := {decide := true}) only [hC_R, hC_pX, hL_pX, hC_new, hL_R, hL_new, hR_R, hR_new, Prod.mk.injEq, reduceIte, and_true, true_and, and_false, false_and, g0, g1, g7, g8, g9, g10, g11, g12, g13, g14, g15, g16, g17, gl, LH, QH, UH]); first | done | omega), rfl⟩ rfl (y1_init X (newC h 7 0 17) (zC c 7 nl) nl (nI nl) k s d (by (try simp (config := {decide := true}) only [hC_R, hC_pX, hL_pX, hC_new, hL_R, hL_new, hR_R, hR_new, Prod.mk.injEq, reduceIte, and_true, true_and, and_false, false_and, g0, g1, g7, g8, g9, g10, g11, g12, g13, g14, g15, g16, g17, gl, LH, QH, UH]); first | done | omega) (by (try simp (config := {decide := true}) only [hC_R, hC_pX, hL_pX, hC_new, hL_R, hL_new, hR_R, hR_new, Prod.mk.injEq, reduceIte, and_true, true_and, and_false, false_and, g0, g1, g7, g8, g9, g10, g11, g12, g13, g14, g15, g16, g17, gl, LH, QH, UH]); first | done | omega) (by (try simp (config := {decide := true}) only [hC_R, hC_pX, hL_pX, hC_new, hL_R, hL_new, hR_R, hR_new, Prod.mk.injEq, reduceIte, and_true, true_and, and_false, false_and, g0, g1, g7, g8, g9, g10, g11, g12, g13, g14, g15, g16, g17, gl, LH, QH, UH]); first | done | omega) (by (try simp (config := {decide := true}) only [hC_R, hC_pX, hL_pX, hC_new, hL_R, hL_new, hR_R, hR_new, Prod.mk.injEq, reduceIte, and_true, true_and, and_false, false_and, g0, g1, g7, g8, g9, g10, g11, g12, g13, g14, g15, g16, g17, gl, LH, QH, UH]); first | done | omega) (by (try simp (config := {decide := true}) only [hC_R, hC_pX, hL_pX, hC_new, hL_R, hL_new, hR_R, hR_new, Prod.mk.injEq, reduceIte, and_true, true_and, and_false, false_and, g0, g1, g7, g8, g9, g10, g11, g12, g13, g14, g15, g16, g17, gl, LH, QH, UH]); first | done | omega) (by (try simp (config := {decide := true}) only [hC_R, hC_pX, hL_pX, hC_new, hL_R, hL_new, hR_R, hR_new, Prod.mk.injEq, reduceIte, and_true, true_and, and_false, false_and, g0, g1, g7, g8, g9, g10, g11, g12, g13, g14, g15, g16, g17, gl, LH, QH, UH]); first | done | omega) (by (try simp (config := {decide := true}) only [hC_R, hC_pX, hL_pX, hC_new, hL_R, hL_new, hR_R, hR_new, Prod.mk.injEq, reduceIte, and_true, true_and, and_false, false_and, g0, g1, g7, g8, g9, g10, g11, g12, g13, g14, g15, g16, g17, gl, LH, QH, UH]); first | done | omega) (by (try simp (config := {decide := true}) only [hC_R, hC_pX, hL_pX, hC_new, hL_R, hL_new, hR_R, hR_new, Prod.mk.injEq, reduceIte, and_true, true_and, and_false, false_and, g0, g1, g7, g8, g9, g10, g11, g12, g13, g14, g15, g16, g17, gl, LH, QH, UH]); first | done | omega) (by (try simp (config := {decide := true}) only [hC_R, hC_pX, hL_pX, hC_new, hL_R, hL_new, hR_R, hR_new, Prod.mk.injEq, reduceIte, and_true, true_and, and_false, false_and, g0, g1, g7, g8, g9, g10, g11, g12, g13, g14, g15, g16, g17, gl, LH, QH, UH]); first | done | omega) (by (try simp (config := {decide := true}) only [hC_R, hC_pX, hL_pX, hC_new, hL_R, hL_new, hR_R, hR_new, Prod.mk.injEq, reduceIte, and_true, true_and, and_false, false_and, g0, g1, g7, g8, g9, g10, g11, g12, g13, g14, g15, g16, g17, gl, LH, QH, UH]); first | done | omega) (by (try simp (config := {decide := true}) only [hC_R, hC_pX, hL_pX, hC_new, hL_R, hL_new, hR_R, hR_new, Prod.mk.injEq, reduceIte, and_true, true_and, and_false, false_and, g0, g1, g7, g8, g9, g10, g11, g12, g13, g14, g15, g16, g17, gl, LH, QH, UH]); first | done | omega)) ?_
                  refine y_aR nl rfl (by (try simp (config := {decide := true}) only [hC_R, hC_pX, hL_pX, hC_new, hL_R, hL_new, hR_R, hR_new, Prod.mk.injEq, reduceIte, and_true, true_and, and_false, false_and, g0, g1, g7, g8, g9, g10, g11, g12, g13, g14, g15, g16, g17, gl, LH, QH, UH]); first | done | omega) rfl (by exact (by decide : kd 7 < 10)) (by (try simp (config := {decide := true}) only [hC_R, hC_pX, hL_pX, hC_new, hL_R, hL_new, hR_R, hR_new, Prod.mk.injEq, reduceIte, and_true, true_and, and_false, false_and, g0, g1, g7, g8, g9, g10, g11, g12, g13, g14, g15, g16, g17, gl, LH, QH, UH]); first | done | omega) (by exact gl) (by decide) rfl hn8 ?_
                  refine w_pu rfl rfl ?_
                  refine w_pu rfl rfl ?_
                  refine y_g rfl rfl rfl (by decide) (by (try simp (config := {decide := true}) only [hC_R, hC_pX, hL_pX, hC_new, hL_R, hL_new, hR_R, hR_new, Prod.mk.injEq, reduceIte, and_true, true_and, and_false, false_and, g0, g1, g7, g8, g9, g10, g11, g12, g13, g14, g15, g16, g17, gl, LH, QH, UH]); first | done | omega) ?_
                  refine w_top (nI nl) (by rw [LC_0]; exact hnl) ?_
                  refine w_cst (v := 1) rfl rfl rfl ?_
                  refine w_pu rfl rfl ?_
                  refine y_p rfl rfl rfl (by decide) (by (try simp (config := {decide := true}) only [hC_R, hC_pX, hL_pX, hC_new, hL_R, hL_new, hR_R, hR_new, Prod.mk.injEq, reduceIte, and_true, true_and, and_false, false_and, g0, g1, g7, g8, g9, g10, g11, g12, g13, g14, g15, g16, g17, gl, LH, QH, UH]); first | done | omega) ?_
                  refine w_pu rfl rfl ?_
                  refine y_g rfl rfl rfl (by decide) (by (try simp (config := {decide := true}) only [hC_R, hC_pX, hL_pX, hC_new, hL_R, hL_new, hR_R, hR_new, Prod.mk.injEq, reduceIte, and_true, true_and, and_false, false_and, g0, g1, g7, g8, g9, g10, g11, g12, g13, g14, g15, g16, g17, gl, LH, QH, UH]); first | done | omega) ?_
                  refine w_top (((nI nl) + 1)) (by rw [uC_eq]) ?_
                  refine w_cst (v := 1) rfl rfl rfl ?_
                  refine w_pu rfl rfl ?_
                  refine w_rt rfl rfl trivial ?_
                  refine ⟨?_, rfl, fun _ => hn8⟩
                  rw [show nI nl + 1 - 1 = nI nl from Int32.add_sub_cancel _ _]
                · refine w_pu rfl rfl ?_
                  refine w_cst (v := (-6)) rfl rfl rfl ?_
                  refine w_cgE (vI (-6)) (pX h (refX c 6)) rfl rfl (by decide) (Nat.le_of_ble_eq_true rfl) rfl (Nat.le_of_ble_eq_true rfl) (Nat.le_of_ble_eq_true rfl) ⟨wl hw Nat.one_pos, rfl⟩ rfl (x5_refuse_6 X hw c) ?_
                  refine w_rt rfl rfl trivial ?_
                  rw [x5_openF, if_neg c0, if_pos c1, if_neg c2, if_neg c3, if_pos c4, if_neg c5, if_neg c6, if_neg c7]
                  exact ⟨rfl, rfl, fun z => by cases z⟩
          · refine w_pu rfl rfl ?_
            refine w_cst (v := (-4)) rfl rfl rfl ?_
            refine w_cgE (vI (-4)) (pX h (refX c 4)) rfl rfl (by decide) (Nat.le_of_ble_eq_true rfl) rfl (Nat.le_of_ble_eq_true rfl) (Nat.le_of_ble_eq_true rfl) ⟨wl hw Nat.one_pos, rfl⟩ rfl (x5_refuse_4 X hw c) ?_
            refine w_rt rfl rfl trivial ?_
            rw [x5_openF, if_neg c0, if_pos c1, if_neg c2, if_neg c3, if_neg c4]
            exact ⟨rfl, rfl, fun z => by cases z⟩
      · refine w_cst (v := 250) rfl rfl rfl ?_
        refine w_go rfl ?_
        refine w_pu rfl rfl ?_
        refine w_pu rfl rfl ?_
        refine w_pu rfl rfl ?_
        refine w_lt rfl (fun c8 => ?_) (fun c8 => ?_)
        · refine w_pu rfl rfl ?_
          refine w_cst (v := (-4)) rfl rfl rfl ?_
          refine w_cgE (vI (-4)) (pX h (refX c 4)) rfl rfl (by decide) (Nat.le_of_ble_eq_true rfl) rfl (Nat.le_of_ble_eq_true rfl) (Nat.le_of_ble_eq_true rfl) ⟨wl hw Nat.one_pos, rfl⟩ rfl (x5_refuse_4 X hw c) ?_
          refine w_rt rfl rfl trivial ?_
          rw [x5_openF, if_neg c0, if_pos c1, if_pos c2, if_pos c8]
          exact ⟨rfl, rfl, fun z => by cases z⟩
        · refine w_pu rfl rfl ?_
          refine w_cst (v := 1) rfl rfl rfl ?_
          refine w_ge rfl (fun c9 => ?_) (fun c9 => ?_)
          · refine w_pu rfl rfl ?_
            refine w_cst (v := 1000) rfl rfl rfl ?_
            refine w_gt rfl (fun c10 => ?_) (fun c10 => ?_)
            · refine w_pu rfl rfl ?_
              refine w_cst (v := (-6)) rfl rfl rfl ?_
              refine w_cgE (vI (-6)) (pX h (refX c 6)) rfl rfl (by decide) (Nat.le_of_ble_eq_true rfl) rfl (Nat.le_of_ble_eq_true rfl) (Nat.le_of_ble_eq_true rfl) ⟨wl hw Nat.one_pos, rfl⟩ rfl (x5_refuse_6 X hw c) ?_
              refine w_rt rfl rfl trivial ?_
              rw [x5_openF, if_neg c0, if_pos c1, if_pos c2, if_neg c8, if_pos c9, if_pos c10]
              exact ⟨rfl, rfl, fun z => by cases z⟩
            · refine w_pu rfl rfl ?_
              refine w_cst (v := 40) rfl rfl rfl ?_
              refine w_gt rfl (fun c11 => ?_) (fun c11 => ?_)
              · refine w_pu rfl rfl ?_
                refine w_cst (v := (-6)) rfl rfl rfl ?_
                refine w_cgE (vI (-6)) (pX h (refX c 6)) rfl rfl (by decide) (Nat.le_of_ble_eq_true rfl) rfl (Nat.le_of_ble_eq_true rfl) (Nat.le_of_ble_eq_true rfl) ⟨wl hw Nat.one_pos, rfl⟩ rfl (x5_refuse_6 X hw c) ?_
                refine w_rt rfl rfl trivial ?_
                rw [x5_openF, if_neg c0, if_pos c1, if_pos c2, if_neg c8, if_pos c9, if_neg c10, if_pos c11]
                exact ⟨rfl, rfl, fun z => by cases z⟩
              · refine w_pu rfl rfl ?_
                refine x_g hw rfl rfl rfl (by decide) Nat.one_pos ?_
                refine w_top (nI nl) (hnl) ?_
                refine w_cst (v := 8) rfl rfl rfl ?_
                refine w_lt rfl (fun c12 => ?_) (fun c12 => ?_)
                · have hn8 : nl < 8 := by
                    have := Int32.not_le.mpr c12
                    rcases Nat.lt_or_ge nl 8 with z | z
                    · exact z
                    · exact absurd (nI_le (a := 8) z (by omega)) this
                  rw [x5_openF, if_neg c0, if_pos c1, if_pos c2, if_neg c8, if_pos c9, if_neg c10, if_neg c11, if_pos c12]
                  refine w_pu rfl rfl ?_
                  refine y_gR 1 rfl rfl rfl rfl (by (try simp (config := {decide := true}) only [hC_R, hC_pX, hL_pX, hC_new, hL_R, hL_new, hR_R, hR_new, Prod.mk.injEq, reduceIte, and_true, true_and, and_false, false_and, g0, g1, g7, g8, g9, g10, g11, g12, g13, g14, g15, g16, g17, gl, LH, QH, UH]); first | done | omega) (wr (t := 0) (i := 0) hw Nat.one_pos rfl) ?_
                  refine w_pu rfl rfl ?_
                  refine y_g rfl rfl rfl (by decide) (by (try simp (config := {decide := true}) only [hC_R, hC_pX, hL_pX, hC_new, hL_R, hL_new, hR_R, hR_new, Prod.mk.injEq, reduceIte, and_true, true_and, and_false, false_and, g0, g1, g7, g8, g9, g10, g11, g12, g13, g14, g15, g16, g17, gl, LH, QH, UH]); first | done | omega) ?_
                  refine w_top (nI nl) (hnl) ?_
                  refine y_new 7 nl 17 rfl (by decide) (by (try simp (config := {decide := true}) only [hC_R, hC_pX, hL_pX, hC_new, hL_R, hL_new, hR_R, hR_new, Prod.mk.injEq, reduceIte, and_true, true_and, and_false, false_and, g0, g1, g7, g8, g9, g10, g11, g12, g13, g14, g15, g16, g17, gl, LH, QH, UH]); first | done | omega) rfl ?_
                  refine w_pu rfl rfl ?_
                  refine w_pu rfl rfl ?_
                  refine y_g rfl rfl rfl (by decide) (by (try simp (config := {decide := true}) only [hC_R, hC_pX, hL_pX, hC_new, hL_R, hL_new, hR_R, hR_new, Prod.mk.injEq, reduceIte, and_true, true_and, and_false, false_and, g0, g1, g7, g8, g9, g10, g11, g12, g13, g14, g15, g16, g17, gl, LH, QH, UH]); first | done | omega) ?_
                  refine w_top (nI nl) (by rw [zC_ne _ _ (fun z => absurd z.1 (by decide))]; exact hnl) ?_
                  refine w_pu rfl rfl ?_
                  refine w_pu rfl rfl ?_
                  refine w_pu rfl rfl ?_
                  refine w_cvE (pX (LH (newC h 7 0 17) nl) (LC (zC c 7 nl) nl (nI nl) k s d)) rfl rfl (by decide) (Nat.le_of_ble_eq_true rfl) rfl (Nat.le_of_ble_eq_true rfl) (Nat.le_of_ble_eq_true rfl) ⟨(by show _ < hpC _ _; (try simp (config := {decide := true}) only [hC_R, hC_pX, hL_pX, hC_new, hL_R, hL_new, hR_R, hR_new, Prod.mk.injEq, reduceIte, and_true, true_and, and_false, false_and, g0, g1, g7, g8, g9, g10, g11, g12, g13, g14, g15, g16, g17, gl, LH, QH, UH]); first | done | omega), rfl⟩ rfl (y1_init X (newC h 7 0 17) (zC c 7 nl) nl (nI nl) k s d (by (try simp (config := {decide := true}) only [hC_R, hC_pX, hL_pX, hC_new, hL_R, hL_new, hR_R, hR_new, Prod.mk.injEq, reduceIte, and_true, true_and, and_false, false_and, g0, g1, g7, g8, g9, g10, g11, g12, g13, g14, g15, g16, g17, gl, LH, QH, UH]); first | done | omega) (by (try simp (config := {decide := true}) only [hC_R, hC_pX, hL_pX, hC_new, hL_R, hL_new, hR_R, hR_new, Prod.mk.injEq, reduceIte, and_true, true_and, and_false, false_and, g0, g1, g7, g8, g9, g10, g11, g12, g13, g14, g15, g16, g17, gl, LH, QH, UH]); first | done | omega) (by (try simp (config := {decide := true}) only [hC_R, hC_pX, hL_pX, hC_new, hL_R, hL_new, hR_R, hR_new, Prod.mk.injEq, reduceIte, and_true, true_and, and_false, false_and, g0, g1, g7, g8, g9, g10, g11, g12, g13, g14, g15, g16, g17, gl, LH, QH, UH]); first | done | omega) (by (try simp (config := {decide := true}) only [hC_R, hC_pX, hL_pX, hC_new, hL_R, hL_new, hR_R, hR_new, Prod.mk.injEq, reduceIte, and_true, true_and, and_false, false_and, g0, g1, g7, g8, g9, g10, g11, g12, g13, g14, g15, g16, g17, gl, LH, QH, UH]); first | done | omega) (by (try simp (config := {decide := true}) only [hC_R, hC_pX, hL_pX, hC_new, hL_R, hL_new, hR_R, hR_new, Prod.mk.injEq, reduceIte, and_true, true_and, and_false, false_and, g0, g1, g7, g8, g9, g10, g11, g12, g13, g14, g15, g16, g17, gl, LH, QH, UH]); first | done | omega) (by (try simp (config := {decide := true}) only [hC_R, hC_pX, hL_pX, hC_new, hL_R, hL_new, hR_R, hR_new, Prod.mk.injEq, reduceIte, and_true, true_and, and_false, false_and, g0, g1, g7, g8, g9, g10, g11, g12, g13, g14, g15, g16, g17, gl, LH, QH, UH]); first | done | omega) (by (try simp (config := {decide := true}) only [hC_R, hC_pX, hL_pX, hC_new, hL_R, hL_new, hR_R, hR_new, Prod.mk.injEq, reduceIte, and_true, true_and, and_false, false_and, g0, g1, g7, g8, g9, g10, g11, g12, g13, g14, g15, g16, g17, gl, LH, QH, UH]); first | done | omega) (by (try simp (config := {decide := true}) only [hC_R, hC_pX, hL_pX, hC_new, hL_R, hL_new, hR_R, hR_new, Prod.mk.injEq, reduceIte, and_true, true_and, and_false, false_and, g0, g1, g7, g8, g9, g10, g11, g12, g13, g14, g15, g16, g17, gl, LH, QH, UH]); first | done | omega) (by (try simp (config := {decide := true}) only [hC_R, hC_pX, hL_pX, hC_new, hL_R, hL_new, hR_R, hR_new, Prod.mk.injEq, reduceIte, and_true, true_and, and_false, false_and, g0, g1, g7, g8, g9, g10, g11, g12, g13, g14, g15, g16, g17, gl, LH, QH, UH]); first | done | omega) (by (try simp (config := {decide := true}) only [hC_R, hC_pX, hL_pX, hC_new, hL_R, hL_new, hR_R, hR_new, Prod.mk.injEq, reduceIte, and_true, true_and, and_false, false_and, g0, g1, g7, g8, g9, g10, g11, g12, g13, g14, g15, g16, g17, gl, LH, QH, UH]); first | done | omega) (by (try simp (config := {decide := true}) only [hC_R, hC_pX, hL_pX, hC_new, hL_R, hL_new, hR_R, hR_new, Prod.mk.injEq, reduceIte, and_true, true_and, and_false, false_and, g0, g1, g7, g8, g9, g10, g11, g12, g13, g14, g15, g16, g17, gl, LH, QH, UH]); first | done | omega)) ?_
                  refine y_aR nl rfl (by (try simp (config := {decide := true}) only [hC_R, hC_pX, hL_pX, hC_new, hL_R, hL_new, hR_R, hR_new, Prod.mk.injEq, reduceIte, and_true, true_and, and_false, false_and, g0, g1, g7, g8, g9, g10, g11, g12, g13, g14, g15, g16, g17, gl, LH, QH, UH]); first | done | omega) rfl (by exact (by decide : kd 7 < 10)) (by (try simp (config := {decide := true}) only [hC_R, hC_pX, hL_pX, hC_new, hL_R, hL_new, hR_R, hR_new, Prod.mk.injEq, reduceIte, and_true, true_and, and_false, false_and, g0, g1, g7, g8, g9, g10, g11, g12, g13, g14, g15, g16, g17, gl, LH, QH, UH]); first | done | omega) (by exact gl) (by decide) rfl hn8 ?_
                  refine w_pu rfl rfl ?_
                  refine w_pu rfl rfl ?_
                  refine y_g rfl rfl rfl (by decide) (by (try simp (config := {decide := true}) only [hC_R, hC_pX, hL_pX, hC_new, hL_R, hL_new, hR_R, hR_new, Prod.mk.injEq, reduceIte, and_true, true_and, and_false, false_and, g0, g1, g7, g8, g9, g10, g11, g12, g13, g14, g15, g16, g17, gl, LH, QH, UH]); first | done | omega) ?_
                  refine w_top (nI nl) (by rw [LC_0]; exact hnl) ?_
                  refine w_cst (v := 1) rfl rfl rfl ?_
                  refine w_pu rfl rfl ?_
                  refine y_p rfl rfl rfl (by decide) (by (try simp (config := {decide := true}) only [hC_R, hC_pX, hL_pX, hC_new, hL_R, hL_new, hR_R, hR_new, Prod.mk.injEq, reduceIte, and_true, true_and, and_false, false_and, g0, g1, g7, g8, g9, g10, g11, g12, g13, g14, g15, g16, g17, gl, LH, QH, UH]); first | done | omega) ?_
                  refine w_pu rfl rfl ?_
                  refine y_g rfl rfl rfl (by decide) (by (try simp (config := {decide := true}) only [hC_R, hC_pX, hL_pX, hC_new, hL_R, hL_new, hR_R, hR_new, Prod.mk.injEq, reduceIte, and_true, true_and, and_false, false_and, g0, g1, g7, g8, g9, g10, g11, g12, g13, g14, g15, g16, g17, gl, LH, QH, UH]); first | done | omega) ?_
                  refine w_top (((nI nl) + 1)) (by rw [uC_eq]) ?_
                  refine w_cst (v := 1) rfl rfl rfl ?_
                  refine w_pu rfl rfl ?_
                  refine w_rt rfl rfl trivial ?_
                  refine ⟨?_, rfl, fun _ => hn8⟩
                  rw [show nI nl + 1 - 1 = nI nl from Int32.add_sub_cancel _ _]
                · refine w_pu rfl rfl ?_
                  refine w_cst (v := (-6)) rfl rfl rfl ?_
                  refine w_cgE (vI (-6)) (pX h (refX c 6)) rfl rfl (by decide) (Nat.le_of_ble_eq_true rfl) rfl (Nat.le_of_ble_eq_true rfl) (Nat.le_of_ble_eq_true rfl) ⟨wl hw Nat.one_pos, rfl⟩ rfl (x5_refuse_6 X hw c) ?_
                  refine w_rt rfl rfl trivial ?_
                  rw [x5_openF, if_neg c0, if_pos c1, if_pos c2, if_neg c8, if_pos c9, if_neg c10, if_neg c11, if_neg c12]
                  exact ⟨rfl, rfl, fun z => by cases z⟩
          · refine w_pu rfl rfl ?_
            refine w_cst (v := (-4)) rfl rfl rfl ?_
            refine w_cgE (vI (-4)) (pX h (refX c 4)) rfl rfl (by decide) (Nat.le_of_ble_eq_true rfl) rfl (Nat.le_of_ble_eq_true rfl) (Nat.le_of_ble_eq_true rfl) ⟨wl hw Nat.one_pos, rfl⟩ rfl (x5_refuse_4 X hw c) ?_
            refine w_rt rfl rfl trivial ?_
            rw [x5_openF, if_neg c0, if_pos c1, if_pos c2, if_neg c8, if_neg c9]
            exact ⟨rfl, rfl, fun z => by cases z⟩
    · refine w_pu rfl rfl ?_
      refine w_cst (v := (-2)) rfl rfl rfl ?_
      refine w_cgE (vI (-2)) (pX h (refX c 2)) rfl rfl (by decide) (Nat.le_of_ble_eq_true rfl) rfl (Nat.le_of_ble_eq_true rfl) (Nat.le_of_ble_eq_true rfl) ⟨wl hw Nat.one_pos, rfl⟩ rfl (x5_refuse_2 X hw c) ?_
      refine w_rt rfl rfl trivial ?_
      rw [x5_openF, if_neg c0, if_neg c1]
      exact ⟨rfl, rfl, fun z => by cases z⟩
