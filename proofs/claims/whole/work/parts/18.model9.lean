/-! The reference's making calls: open, type, grow, frame. -/
theorem ne_lt {m k : Nat} {x : Int32} (hx : x = nI m) (hm : m ≤ k) (h : ¬ x = nI k) : m < k := by
  rcases Nat.lt_or_ge m k with z | z
  · exact z
  · exact absurd (by rw [hx, show m = k by omega]) h
def openF (nl nf np : Nat) (s : SS) (k v d : Int32) : Int32 × SS := (if (inF k 0 3) = 0 then ((-2), refuseF s 2) else (if k = 0 then (if v < 250 then ((-4), refuseF s 4) else (if 1 ≤ d then (if 1000 < v then ((-6), refuseF s 6) else (if 40 < d then ((-6), refuseF s 6) else (if (s 0 0) = 8 then ((-6), refuseF s 6) else (if k = 3 then (if k = 3 then (s 0 0, (uS (uS (uS (uS (uS (uS (uS s 0 0 ((s 0 0) + 1)) 1 (nat (s 0 0)) k) 2 (nat (s 0 0)) v) 3 (nat (s 0 0)) d) 4 (nat (s 0 0)) 1) 5 (nat (s 0 0)) 1000) 6 (nat (s 0 0)) 4)) else (s 0 0, (uS (uS (uS (uS (uS (uS (uS s 0 0 ((s 0 0) + 1)) 1 (nat (s 0 0)) k) 2 (nat (s 0 0)) v) 3 (nat (s 0 0)) d) 4 (nat (s 0 0)) 1) 5 (nat (s 0 0)) 1000) 6 (nat (s 0 0)) 0))) else (if k = 3 then (s 0 0, (uS (uS (uS (uS (uS (uS (uS s 0 0 ((s 0 0) + 1)) 1 (nat (s 0 0)) k) 2 (nat (s 0 0)) v) 3 (nat (s 0 0)) d) 4 (nat (s 0 0)) 1) 5 (nat (s 0 0)) 0) 6 (nat (s 0 0)) 4)) else (s 0 0, (uS (uS (uS (uS (uS (uS (uS s 0 0 ((s 0 0) + 1)) 1 (nat (s 0 0)) k) 2 (nat (s 0 0)) v) 3 (nat (s 0 0)) d) 4 (nat (s 0 0)) 1) 5 (nat (s 0 0)) 0) 6 (nat (s 0 0)) 0))))))) else ((-4), refuseF s 4))) else (if v < 1 then ((-4), refuseF s 4) else (if 1 ≤ d then (if 1000 < v then ((-6), refuseF s 6) else (if 40 < d then ((-6), refuseF s 6) else (if (s 0 0) = 8 then ((-6), refuseF s 6) else (if k = 3 then (if k = 3 then (s 0 0, (uS (uS (uS (uS (uS (uS (uS s 0 0 ((s 0 0) + 1)) 1 (nat (s 0 0)) k) 2 (nat (s 0 0)) v) 3 (nat (s 0 0)) d) 4 (nat (s 0 0)) 1) 5 (nat (s 0 0)) 1000) 6 (nat (s 0 0)) 4)) else (s 0 0, (uS (uS (uS (uS (uS (uS (uS s 0 0 ((s 0 0) + 1)) 1 (nat (s 0 0)) k) 2 (nat (s 0 0)) v) 3 (nat (s 0 0)) d) 4 (nat (s 0 0)) 1) 5 (nat (s 0 0)) 1000) 6 (nat (s 0 0)) 0))) else (if k = 3 then (s 0 0, (uS (uS (uS (uS (uS (uS (uS s 0 0 ((s 0 0) + 1)) 1 (nat (s 0 0)) k) 2 (nat (s 0 0)) v) 3 (nat (s 0 0)) d) 4 (nat (s 0 0)) 1) 5 (nat (s 0 0)) 0) 6 (nat (s 0 0)) 4)) else (s 0 0, (uS (uS (uS (uS (uS (uS (uS s 0 0 ((s 0 0) + 1)) 1 (nat (s 0 0)) k) 2 (nat (s 0 0)) v) 3 (nat (s 0 0)) d) 4 (nat (s 0 0)) 1) 5 (nat (s 0 0)) 0) 6 (nat (s 0 0)) 0))))))) else ((-4), refuseF s 4)))))
theorem mX_open (X : Nat × (Nat → Int32)) {h : Hp} {nl nf np : Nat} (hw : WF h nl nf np) (s : SS)  {m : Nat} (hm : s 0 0 = nI m) (hm8 : m ≤ 8) (k v d : Int32) : wp X 88 0 [TM, some (vI k), some (vI v), some (vI d), none] [] (pS h s) (fun r h' => r = some (vI (openF nl nf np s k v d).1) ∧ h' = pS h (openF nl nf np s k v d).2) := by
  have h3 := hw.2.2.2.2.2.2.2.2
  have h4 := hw.2.2.2.2.2.2.1
  have h5 := hw.2.2.2.2.2.2.2.1
  have em : nat (s 0 0) = m := by rw [hm, nat_nI (by omega)]
  refine w_pu rfl rfl ?_
  refine w_cst (v := 0) rfl rfl rfl ?_
  refine w_cst (v := 3) rfl rfl rfl ?_
  refine w_cp (vI (inF k 0 3)) rfl rfl (by decide) (Nat.le_of_ble_eq_true rfl) rfl (Nat.le_of_ble_eq_true rfl) (Nat.le_of_ble_eq_true rfl) trivial rfl (mX_in X _ k 0 3) ?_
  refine w_ne0 rfl (fun c0 => ?_) (fun c0 => ?_)
  · refine w_pu rfl rfl ?_
    refine w_pu rfl rfl ?_
    refine w_ne0 rfl (fun c1 => ?_) (fun c1 => ?_)
    · refine w_cst (v := 1) rfl rfl rfl ?_
      refine w_lt rfl (fun c2 => ?_) (fun c2 => ?_)
      · refine w_pu rfl rfl ?_
        refine w_cst (v := (-4)) rfl rfl rfl ?_
        refine w_cgE (vI (-4)) (pS h (refuseF s 4)) rfl rfl (by decide) (Nat.le_of_ble_eq_true rfl) rfl (Nat.le_of_ble_eq_true rfl) (Nat.le_of_ble_eq_true rfl) ⟨wM hw 0 (by omega), rfl⟩ rfl (mX_refuse X hw s (-4) 4 (by decide) (by decide)) ?_
        refine w_rt rfl rfl trivial ?_
        exact ⟨by rw [openF, if_neg c0, if_neg c1, if_pos c2], by rw [openF, if_neg c0, if_neg c1, if_pos c2]⟩
      · refine w_pu rfl rfl ?_
        refine w_cst (v := 1) rfl rfl rfl ?_
        refine w_ge rfl (fun c3 => ?_) (fun c3 => ?_)
        · refine w_pu rfl rfl ?_
          refine w_cst (v := 1000) rfl rfl rfl ?_
          refine w_gt rfl (fun c4 => ?_) (fun c4 => ?_)
          · refine w_pu rfl rfl ?_
            refine w_cst (v := (-6)) rfl rfl rfl ?_
            refine w_cgE (vI (-6)) (pS h (refuseF s 6)) rfl rfl (by decide) (Nat.le_of_ble_eq_true rfl) rfl (Nat.le_of_ble_eq_true rfl) (Nat.le_of_ble_eq_true rfl) ⟨wM hw 0 (by omega), rfl⟩ rfl (mX_refuse X hw s (-6) 6 (by decide) (by decide)) ?_
            refine w_rt rfl rfl trivial ?_
            exact ⟨by rw [openF, if_neg c0, if_neg c1, if_neg c2, if_pos c3, if_pos c4], by rw [openF, if_neg c0, if_neg c1, if_neg c2, if_pos c3, if_pos c4]⟩
          · refine w_pu rfl rfl ?_
            refine w_cst (v := 40) rfl rfl rfl ?_
            refine w_gt rfl (fun c5 => ?_) (fun c5 => ?_)
            · refine w_pu rfl rfl ?_
              refine w_cst (v := (-6)) rfl rfl rfl ?_
              refine w_cgE (vI (-6)) (pS h (refuseF s 6)) rfl rfl (by decide) (Nat.le_of_ble_eq_true rfl) rfl (Nat.le_of_ble_eq_true rfl) (Nat.le_of_ble_eq_true rfl) ⟨wM hw 0 (by omega), rfl⟩ rfl (mX_refuse X hw s (-6) 6 (by decide) (by decide)) ?_
              refine w_rt rfl rfl trivial ?_
              exact ⟨by rw [openF, if_neg c0, if_neg c1, if_neg c2, if_pos c3, if_neg c4, if_pos c5], by rw [openF, if_neg c0, if_neg c1, if_neg c2, if_pos c3, if_neg c4, if_pos c5]⟩
            · refine w_pu rfl rfl ?_
              refine m_g hw rfl rfl ?_
              refine w_cst (v := 8) rfl rfl rfl ?_
              refine w_ne rfl (fun c6 => ?_) (fun c6 => ?_)
              · have hmm := ne_lt (k := 8) hm hm8 c6
                refine w_pu rfl rfl ?_
                refine m_g hw rfl rfl ?_
                refine w_pu rfl rfl ?_
                refine w_pu rfl rfl ?_
                refine w_pu rfl rfl ?_
                refine m_g hw rfl rfl ?_
                refine w_cst (v := 1) rfl rfl rfl ?_
                refine w_pu rfl rfl ?_
                refine m_p hw rfl rfl ?_
                refine w_pu rfl rfl ?_
                refine m_gR 1 hw rfl rfl rfl ?_
                refine w_pu rfl rfl ?_
                refine w_pu rfl rfl ?_
                refine m_si 1 (nat (s 0 0)) hw rfl rfl (by omega) (by rw [em]; exact hm) (by show (nat (s 0 0)) < 8; omega) ?_
                refine w_pu rfl rfl ?_
                refine m_gR 2 hw rfl rfl rfl ?_
                refine w_pu rfl rfl ?_
                refine w_pu rfl rfl ?_
                refine m_si 2 (nat (s 0 0)) hw rfl rfl (by omega) (by rw [em]; exact hm) (by show (nat (s 0 0)) < 8; omega) ?_
                refine w_pu rfl rfl ?_
                refine m_gR 3 hw rfl rfl rfl ?_
                refine w_pu rfl rfl ?_
                refine w_pu rfl rfl ?_
                refine m_si 3 (nat (s 0 0)) hw rfl rfl (by omega) (by rw [em]; exact hm) (by show (nat (s 0 0)) < 8; omega) ?_
                refine w_pu rfl rfl ?_
                refine m_gR 4 hw rfl rfl rfl ?_
                refine w_pu rfl rfl ?_
                refine w_cst (v := 1) rfl rfl rfl ?_
                refine m_sz 4 (nat (s 0 0)) hw rfl rfl (by omega) (by rw [em]; exact hm) (by show (nat (s 0 0)) < 8; omega) (by first | exact Or.inl rfl | exact Or.inr rfl) ?_
                refine w_pu rfl rfl ?_
                refine m_gR 5 hw rfl rfl rfl ?_
                refine w_pu rfl rfl ?_
                refine w_pu rfl rfl ?_
                refine w_cst (v := 3) rfl rfl rfl ?_
                refine w_ne rfl (fun c7 => ?_) (fun c7 => ?_)
                · refine w_cst (v := 0) rfl rfl rfl ?_
                  refine m_si 5 (nat (s 0 0)) hw rfl rfl (by omega) (by rw [em]; exact hm) (by show (nat (s 0 0)) < 8; omega) ?_
                  refine w_pu rfl rfl ?_
                  refine m_gR 6 hw rfl rfl rfl ?_
                  refine w_pu rfl rfl ?_
                  refine w_pu rfl rfl ?_
                  refine w_cst (v := 3) rfl rfl rfl ?_
                  refine w_ne rfl (fun c8 => ?_) (fun c8 => ?_)
                  · refine w_cst (v := 0) rfl rfl rfl ?_
                    refine m_si 6 (nat (s 0 0)) hw rfl rfl (by omega) (by rw [em]; exact hm) (by show (nat (s 0 0)) < 8; omega) ?_
                    refine w_pu rfl rfl ?_
                    refine w_rt rfl rfl trivial ?_
                    exact ⟨by rw [openF, if_neg c0, if_neg c1, if_neg c2, if_pos c3, if_neg c4, if_neg c5, if_neg c6, if_neg c7, if_neg c8], by rw [openF, if_neg c0, if_neg c1, if_neg c2, if_pos c3, if_neg c4, if_neg c5, if_neg c6, if_neg c7, if_neg c8]⟩
                  · refine w_cst (v := 4) rfl rfl rfl ?_
                    refine w_go rfl ?_
                    refine m_si 6 (nat (s 0 0)) hw rfl rfl (by omega) (by rw [em]; exact hm) (by show (nat (s 0 0)) < 8; omega) ?_
                    refine w_pu rfl rfl ?_
                    refine w_rt rfl rfl trivial ?_
                    exact ⟨by rw [openF, if_neg c0, if_neg c1, if_neg c2, if_pos c3, if_neg c4, if_neg c5, if_neg c6, if_neg c7, if_pos c8], by rw [openF, if_neg c0, if_neg c1, if_neg c2, if_pos c3, if_neg c4, if_neg c5, if_neg c6, if_neg c7, if_pos c8]⟩
                · refine w_cst (v := 1000) rfl rfl rfl ?_
                  refine w_go rfl ?_
                  refine m_si 5 (nat (s 0 0)) hw rfl rfl (by omega) (by rw [em]; exact hm) (by show (nat (s 0 0)) < 8; omega) ?_
                  refine w_pu rfl rfl ?_
                  refine m_gR 6 hw rfl rfl rfl ?_
                  refine w_pu rfl rfl ?_
                  refine w_pu rfl rfl ?_
                  refine w_cst (v := 3) rfl rfl rfl ?_
                  refine w_ne rfl (fun c9 => ?_) (fun c9 => ?_)
                  · refine w_cst (v := 0) rfl rfl rfl ?_
                    refine m_si 6 (nat (s 0 0)) hw rfl rfl (by omega) (by rw [em]; exact hm) (by show (nat (s 0 0)) < 8; omega) ?_
                    refine w_pu rfl rfl ?_
                    refine w_rt rfl rfl trivial ?_
                    exact ⟨by rw [openF, if_neg c0, if_neg c1, if_neg c2, if_pos c3, if_neg c4, if_neg c5, if_neg c6, if_pos c7, if_neg c9], by rw [openF, if_neg c0, if_neg c1, if_neg c2, if_pos c3, if_neg c4, if_neg c5, if_neg c6, if_pos c7, if_neg c9]⟩
                  · refine w_cst (v := 4) rfl rfl rfl ?_
                    refine w_go rfl ?_
                    refine m_si 6 (nat (s 0 0)) hw rfl rfl (by omega) (by rw [em]; exact hm) (by show (nat (s 0 0)) < 8; omega) ?_
                    refine w_pu rfl rfl ?_
                    refine w_rt rfl rfl trivial ?_
                    exact ⟨by rw [openF, if_neg c0, if_neg c1, if_neg c2, if_pos c3, if_neg c4, if_neg c5, if_neg c6, if_pos c7, if_pos c9], by rw [openF, if_neg c0, if_neg c1, if_neg c2, if_pos c3, if_neg c4, if_neg c5, if_neg c6, if_pos c7, if_pos c9]⟩
              · refine w_pu rfl rfl ?_
                refine w_cst (v := (-6)) rfl rfl rfl ?_
                refine w_cgE (vI (-6)) (pS h (refuseF s 6)) rfl rfl (by decide) (Nat.le_of_ble_eq_true rfl) rfl (Nat.le_of_ble_eq_true rfl) (Nat.le_of_ble_eq_true rfl) ⟨wM hw 0 (by omega), rfl⟩ rfl (mX_refuse X hw s (-6) 6 (by decide) (by decide)) ?_
                refine w_rt rfl rfl trivial ?_
                exact ⟨by rw [openF, if_neg c0, if_neg c1, if_neg c2, if_pos c3, if_neg c4, if_neg c5, if_pos c6], by rw [openF, if_neg c0, if_neg c1, if_neg c2, if_pos c3, if_neg c4, if_neg c5, if_pos c6]⟩
        · refine w_pu rfl rfl ?_
          refine w_cst (v := (-4)) rfl rfl rfl ?_
          refine w_cgE (vI (-4)) (pS h (refuseF s 4)) rfl rfl (by decide) (Nat.le_of_ble_eq_true rfl) rfl (Nat.le_of_ble_eq_true rfl) (Nat.le_of_ble_eq_true rfl) ⟨wM hw 0 (by omega), rfl⟩ rfl (mX_refuse X hw s (-4) 4 (by decide) (by decide)) ?_
          refine w_rt rfl rfl trivial ?_
          exact ⟨by rw [openF, if_neg c0, if_neg c1, if_neg c2, if_neg c3], by rw [openF, if_neg c0, if_neg c1, if_neg c2, if_neg c3]⟩
    · refine w_cst (v := 250) rfl rfl rfl ?_
      refine w_go rfl ?_
      refine w_lt rfl (fun c10 => ?_) (fun c10 => ?_)
      · refine w_pu rfl rfl ?_
        refine w_cst (v := (-4)) rfl rfl rfl ?_
        refine w_cgE (vI (-4)) (pS h (refuseF s 4)) rfl rfl (by decide) (Nat.le_of_ble_eq_true rfl) rfl (Nat.le_of_ble_eq_true rfl) (Nat.le_of_ble_eq_true rfl) ⟨wM hw 0 (by omega), rfl⟩ rfl (mX_refuse X hw s (-4) 4 (by decide) (by decide)) ?_
        refine w_rt rfl rfl trivial ?_
        exact ⟨by rw [openF, if_neg c0, if_pos c1, if_pos c10], by rw [openF, if_neg c0, if_pos c1, if_pos c10]⟩
      · refine w_pu rfl rfl ?_
        refine w_cst (v := 1) rfl rfl rfl ?_
        refine w_ge rfl (fun c11 => ?_) (fun c11 => ?_)
        · refine w_pu rfl rfl ?_
          refine w_cst (v := 1000) rfl rfl rfl ?_
          refine w_gt rfl (fun c12 => ?_) (fun c12 => ?_)
          · refine w_pu rfl rfl ?_
            refine w_cst (v := (-6)) rfl rfl rfl ?_
            refine w_cgE (vI (-6)) (pS h (refuseF s 6)) rfl rfl (by decide) (Nat.le_of_ble_eq_true rfl) rfl (Nat.le_of_ble_eq_true rfl) (Nat.le_of_ble_eq_true rfl) ⟨wM hw 0 (by omega), rfl⟩ rfl (mX_refuse X hw s (-6) 6 (by decide) (by decide)) ?_
            refine w_rt rfl rfl trivial ?_
            exact ⟨by rw [openF, if_neg c0, if_pos c1, if_neg c10, if_pos c11, if_pos c12], by rw [openF, if_neg c0, if_pos c1, if_neg c10, if_pos c11, if_pos c12]⟩
          · refine w_pu rfl rfl ?_
            refine w_cst (v := 40) rfl rfl rfl ?_
            refine w_gt rfl (fun c13 => ?_) (fun c13 => ?_)
            · refine w_pu rfl rfl ?_
              refine w_cst (v := (-6)) rfl rfl rfl ?_
              refine w_cgE (vI (-6)) (pS h (refuseF s 6)) rfl rfl (by decide) (Nat.le_of_ble_eq_true rfl) rfl (Nat.le_of_ble_eq_true rfl) (Nat.le_of_ble_eq_true rfl) ⟨wM hw 0 (by omega), rfl⟩ rfl (mX_refuse X hw s (-6) 6 (by decide) (by decide)) ?_
              refine w_rt rfl rfl trivial ?_
              exact ⟨by rw [openF, if_neg c0, if_pos c1, if_neg c10, if_pos c11, if_neg c12, if_pos c13], by rw [openF, if_neg c0, if_pos c1, if_neg c10, if_pos c11, if_neg c12, if_pos c13]⟩
            · refine w_pu rfl rfl ?_
              refine m_g hw rfl rfl ?_
              refine w_cst (v := 8) rfl rfl rfl ?_
              refine w_ne rfl (fun c14 => ?_) (fun c14 => ?_)
              · have hmm := ne_lt (k := 8) hm hm8 c14
                refine w_pu rfl rfl ?_
                refine m_g hw rfl rfl ?_
                refine w_pu rfl rfl ?_
                refine w_pu rfl rfl ?_
                refine w_pu rfl rfl ?_
                refine m_g hw rfl rfl ?_
                refine w_cst (v := 1) rfl rfl rfl ?_
                refine w_pu rfl rfl ?_
                refine m_p hw rfl rfl ?_
                refine w_pu rfl rfl ?_
                refine m_gR 1 hw rfl rfl rfl ?_
                refine w_pu rfl rfl ?_
                refine w_pu rfl rfl ?_
                refine m_si 1 (nat (s 0 0)) hw rfl rfl (by omega) (by rw [em]; exact hm) (by show (nat (s 0 0)) < 8; omega) ?_
                refine w_pu rfl rfl ?_
                refine m_gR 2 hw rfl rfl rfl ?_
                refine w_pu rfl rfl ?_
                refine w_pu rfl rfl ?_
                refine m_si 2 (nat (s 0 0)) hw rfl rfl (by omega) (by rw [em]; exact hm) (by show (nat (s 0 0)) < 8; omega) ?_
                refine w_pu rfl rfl ?_
                refine m_gR 3 hw rfl rfl rfl ?_
                refine w_pu rfl rfl ?_
                refine w_pu rfl rfl ?_
                refine m_si 3 (nat (s 0 0)) hw rfl rfl (by omega) (by rw [em]; exact hm) (by show (nat (s 0 0)) < 8; omega) ?_
                refine w_pu rfl rfl ?_
                refine m_gR 4 hw rfl rfl rfl ?_
                refine w_pu rfl rfl ?_
                refine w_cst (v := 1) rfl rfl rfl ?_
                refine m_sz 4 (nat (s 0 0)) hw rfl rfl (by omega) (by rw [em]; exact hm) (by show (nat (s 0 0)) < 8; omega) (by first | exact Or.inl rfl | exact Or.inr rfl) ?_
                refine w_pu rfl rfl ?_
                refine m_gR 5 hw rfl rfl rfl ?_
                refine w_pu rfl rfl ?_
                refine w_pu rfl rfl ?_
                refine w_cst (v := 3) rfl rfl rfl ?_
                refine w_ne rfl (fun c15 => ?_) (fun c15 => ?_)
                · refine w_cst (v := 0) rfl rfl rfl ?_
                  refine m_si 5 (nat (s 0 0)) hw rfl rfl (by omega) (by rw [em]; exact hm) (by show (nat (s 0 0)) < 8; omega) ?_
                  refine w_pu rfl rfl ?_
                  refine m_gR 6 hw rfl rfl rfl ?_
                  refine w_pu rfl rfl ?_
                  refine w_pu rfl rfl ?_
                  refine w_cst (v := 3) rfl rfl rfl ?_
                  refine w_ne rfl (fun c16 => ?_) (fun c16 => ?_)
                  · refine w_cst (v := 0) rfl rfl rfl ?_
                    refine m_si 6 (nat (s 0 0)) hw rfl rfl (by omega) (by rw [em]; exact hm) (by show (nat (s 0 0)) < 8; omega) ?_
                    refine w_pu rfl rfl ?_
                    refine w_rt rfl rfl trivial ?_
                    exact ⟨by rw [openF, if_neg c0, if_pos c1, if_neg c10, if_pos c11, if_neg c12, if_neg c13, if_neg c14, if_neg c15, if_neg c16], by rw [openF, if_neg c0, if_pos c1, if_neg c10, if_pos c11, if_neg c12, if_neg c13, if_neg c14, if_neg c15, if_neg c16]⟩
                  · refine w_cst (v := 4) rfl rfl rfl ?_
                    refine w_go rfl ?_
                    refine m_si 6 (nat (s 0 0)) hw rfl rfl (by omega) (by rw [em]; exact hm) (by show (nat (s 0 0)) < 8; omega) ?_
                    refine w_pu rfl rfl ?_
                    refine w_rt rfl rfl trivial ?_
                    exact ⟨by rw [openF, if_neg c0, if_pos c1, if_neg c10, if_pos c11, if_neg c12, if_neg c13, if_neg c14, if_neg c15, if_pos c16], by rw [openF, if_neg c0, if_pos c1, if_neg c10, if_pos c11, if_neg c12, if_neg c13, if_neg c14, if_neg c15, if_pos c16]⟩
                · refine w_cst (v := 1000) rfl rfl rfl ?_
                  refine w_go rfl ?_
                  refine m_si 5 (nat (s 0 0)) hw rfl rfl (by omega) (by rw [em]; exact hm) (by show (nat (s 0 0)) < 8; omega) ?_
                  refine w_pu rfl rfl ?_
                  refine m_gR 6 hw rfl rfl rfl ?_
                  refine w_pu rfl rfl ?_
                  refine w_pu rfl rfl ?_
                  refine w_cst (v := 3) rfl rfl rfl ?_
                  refine w_ne rfl (fun c17 => ?_) (fun c17 => ?_)
                  · refine w_cst (v := 0) rfl rfl rfl ?_
                    refine m_si 6 (nat (s 0 0)) hw rfl rfl (by omega) (by rw [em]; exact hm) (by show (nat (s 0 0)) < 8; omega) ?_
                    refine w_pu rfl rfl ?_
                    refine w_rt rfl rfl trivial ?_
                    exact ⟨by rw [openF, if_neg c0, if_pos c1, if_neg c10, if_pos c11, if_neg c12, if_neg c13, if_neg c14, if_pos c15, if_neg c17], by rw [openF, if_neg c0, if_pos c1, if_neg c10, if_pos c11, if_neg c12, if_neg c13, if_neg c14, if_pos c15, if_neg c17]⟩
                  · refine w_cst (v := 4) rfl rfl rfl ?_
                    refine w_go rfl ?_
                    refine m_si 6 (nat (s 0 0)) hw rfl rfl (by omega) (by rw [em]; exact hm) (by show (nat (s 0 0)) < 8; omega) ?_
                    refine w_pu rfl rfl ?_
                    refine w_rt rfl rfl trivial ?_
                    exact ⟨by rw [openF, if_neg c0, if_pos c1, if_neg c10, if_pos c11, if_neg c12, if_neg c13, if_neg c14, if_pos c15, if_pos c17], by rw [openF, if_neg c0, if_pos c1, if_neg c10, if_pos c11, if_neg c12, if_neg c13, if_neg c14, if_pos c15, if_pos c17]⟩
              · refine w_pu rfl rfl ?_
                refine w_cst (v := (-6)) rfl rfl rfl ?_
                refine w_cgE (vI (-6)) (pS h (refuseF s 6)) rfl rfl (by decide) (Nat.le_of_ble_eq_true rfl) rfl (Nat.le_of_ble_eq_true rfl) (Nat.le_of_ble_eq_true rfl) ⟨wM hw 0 (by omega), rfl⟩ rfl (mX_refuse X hw s (-6) 6 (by decide) (by decide)) ?_
                refine w_rt rfl rfl trivial ?_
                exact ⟨by rw [openF, if_neg c0, if_pos c1, if_neg c10, if_pos c11, if_neg c12, if_neg c13, if_pos c14], by rw [openF, if_neg c0, if_pos c1, if_neg c10, if_pos c11, if_neg c12, if_neg c13, if_pos c14]⟩
        · refine w_pu rfl rfl ?_
          refine w_cst (v := (-4)) rfl rfl rfl ?_
          refine w_cgE (vI (-4)) (pS h (refuseF s 4)) rfl rfl (by decide) (Nat.le_of_ble_eq_true rfl) rfl (Nat.le_of_ble_eq_true rfl) (Nat.le_of_ble_eq_true rfl) ⟨wM hw 0 (by omega), rfl⟩ rfl (mX_refuse X hw s (-4) 4 (by decide) (by decide)) ?_
          refine w_rt rfl rfl trivial ?_
          exact ⟨by rw [openF, if_neg c0, if_pos c1, if_neg c10, if_neg c11], by rw [openF, if_neg c0, if_pos c1, if_neg c10, if_neg c11]⟩
  · refine w_pu rfl rfl ?_
    refine w_cst (v := (-2)) rfl rfl rfl ?_
    refine w_cgE (vI (-2)) (pS h (refuseF s 2)) rfl rfl (by decide) (Nat.le_of_ble_eq_true rfl) rfl (Nat.le_of_ble_eq_true rfl) (Nat.le_of_ble_eq_true rfl) ⟨wM hw 0 (by omega), rfl⟩ rfl (mX_refuse X hw s (-2) 2 (by decide) (by decide)) ?_
    refine w_rt rfl rfl trivial ?_
    exact ⟨by rw [openF, if_pos c0], by rw [openF, if_pos c0]⟩
def byF (w : Int64) (k : Nat) : Int32 := ((w >>> ((8 * nI k).toInt64 &&& 63)).toInt32.toInt8.toInt32).toInt8.toInt32
def tyF (w : Int64) : Nat → SS → SS
  | 0, s => s
  | k + 1, s => tyF w k (uS (uS s 37 (nat (s 0 42)) (byF w k)) 0 42 (s 0 42 + 1))
def typeF (s : SS) (w : Int64) (n : Int32) : Int32 × SS := if 1 ≤ n then (if n ≤ 8 then (if s 0 42 + n ≤ 4000 then (tyF w (nat n) s 0 42, tyF w (nat n) s) else (-6, refuseF s 6)) else (-6, refuseF s 6)) else (-4, refuseF s 4)
theorem mX_type (X : Nat × (Nat → Int32)) {h : Hp} {nl nf np : Nat} (hw : WF h nl nf np) (s : SS) (t : Nat) (ht : s 0 42 = nI t) (ht2 : t ≤ 4000) (w : Int64) (n : Int32) : wp X 90 0 [TM, some (vL w), none, some (vI n), none] [] (pS h s) (fun r h' => r = some (vI (typeF s w n).1) ∧ h' = pS h (typeF s w n).2) := by
  have loop : ∀ k t (a : SS), a 0 42 = nI t → t + k ≤ 4000 → wp X 90 42 [TM, some (vL w), none, some (vI n), some (vI (nI k - 1))] [] (pS h a) (fun r h' => r = some (vI (tyF w k a 0 42)) ∧ h' = pS h (tyF w k a)) := by
    intro k
    induction k with
    | zero =>
      intro t a e hk
      rw [tyF]
      refine w_pu rfl rfl ?_
      refine w_lt0 rfl (fun c0 => ?_) (fun c0 => ?_)
      · refine w_pu rfl rfl ?_
        refine m_g hw rfl rfl ?_
        refine w_rt rfl rfl trivial ?_
        exact ⟨rfl, rfl⟩
      · exact absurd (by decide) c0
    | succ k ih =>
      intro t a e hk
      have et : nat (a 0 42) = t := by rw [e, nat_nI (by omega)]
      rw [nI_pred, tyF, et]
      refine w_pu rfl rfl ?_
      refine w_lt0 rfl (fun c0 => ?_) (fun c0 => ?_)
      · exact absurd c0 (nI_pos (by omega))
      · refine w_pu rfl rfl ?_
        refine m_gR 37 hw rfl rfl rfl ?_
        refine w_pu rfl rfl ?_
        refine m_g hw rfl rfl ?_
        refine w_pu rfl rfl ?_
        refine w_cst (v := 8) rfl rfl rfl ?_
        refine w_pu rfl rfl ?_
        refine w_pu rfl rfl ?_
        refine w_pu rfl rfl ?_
        refine w_pu rfl rfl ?_
        refine w_pu rfl rfl ?_
        refine m_sb 37 t hw rfl rfl (by omega) (by first | rfl | simp only [ix_lits, nI_mul, nI_add, e]) (by show t < 4000; omega) ?_
        refine w_pu rfl rfl ?_
        refine w_pu rfl rfl ?_
        refine m_g hw rfl rfl ?_
        refine w_top (a 0 42) rfl ?_
        refine w_cst (v := 1) rfl rfl rfl ?_
        refine w_pu rfl rfl ?_
        refine m_p hw rfl rfl ?_
        refine w_dec rfl rfl rfl ?_
        refine w_go rfl ?_
        exact ih (t + 1) _ (by rw [uS_eq, e, nI_1]) (by omega)
  refine w_pu rfl rfl ?_
  refine w_cst (v := 1) rfl rfl rfl ?_
  refine w_ge rfl (fun c0 => ?_) (fun c0 => ?_)
  · refine w_pu rfl rfl ?_
    refine w_cst (v := 8) rfl rfl rfl ?_
    refine w_gt rfl (fun c1 => ?_) (fun c1 => ?_)
    · refine w_pu rfl rfl ?_
      refine w_cst (v := (-6)) rfl rfl rfl ?_
      refine w_cgE (vI (-6)) (pS h (refuseF s 6)) rfl rfl (by decide) (Nat.le_of_ble_eq_true rfl) rfl (Nat.le_of_ble_eq_true rfl) (Nat.le_of_ble_eq_true rfl) ⟨wM hw 0 (by omega), rfl⟩ rfl (mX_refuse X hw s (-6) 6 (by decide) (by decide)) ?_
      refine w_rt rfl rfl trivial ?_
      exact ⟨by rw [typeF, if_pos c0, if_neg (Int32.not_le.mpr c1)], by rw [typeF, if_pos c0, if_neg (Int32.not_le.mpr c1)]⟩
    · refine w_pu rfl rfl ?_
      refine m_g hw rfl rfl ?_
      refine w_pu rfl rfl ?_
      refine w_pu rfl rfl ?_
      refine w_cst (v := 4000) rfl rfl rfl ?_
      refine w_le rfl (fun c2 => ?_) (fun c2 => ?_)
      · refine w_pu rfl rfl ?_
        refine w_cst (v := 1) rfl rfl rfl ?_
        refine w_pu rfl rfl ?_
        refine w_pu rfl rfl ?_
        obtain ⟨m, hm, rfl⟩ := i32_pos (Int32.le_trans (by decide) c0)
        have hm2 : m ≤ 8 := (nI_leI hm (by omega)).mp (Int32.not_lt.mp c1)
        have hm3 : t + m ≤ 4000 := by
          rw [ht, nI_add] at c2
          exact (nI_leI (by omega) (by omega)).mp c2
        rw [typeF, if_pos c0, if_pos (Int32.not_lt.mp c1), if_pos (by rw [ht, nI_add]; exact nI_le (b := 4000) hm3 (by omega)), nat_nI hm]
        exact loop m t s ht hm3
      · refine w_pu rfl rfl ?_
        refine w_cst (v := (-6)) rfl rfl rfl ?_
        refine w_cgE (vI (-6)) (pS h (refuseF s 6)) rfl rfl (by decide) (Nat.le_of_ble_eq_true rfl) rfl (Nat.le_of_ble_eq_true rfl) (Nat.le_of_ble_eq_true rfl) ⟨wM hw 0 (by omega), rfl⟩ rfl (mX_refuse X hw s (-6) 6 (by decide) (by decide)) ?_
        refine w_rt rfl rfl trivial ?_
        exact ⟨by rw [typeF, if_pos c0, if_pos (Int32.not_lt.mp c1), if_neg c2], by rw [typeF, if_pos c0, if_pos (Int32.not_lt.mp c1), if_neg c2]⟩
  · refine w_pu rfl rfl ?_
    refine w_cst (v := (-4)) rfl rfl rfl ?_
    refine w_cgE (vI (-4)) (pS h (refuseF s 4)) rfl rfl (by decide) (Nat.le_of_ble_eq_true rfl) rfl (Nat.le_of_ble_eq_true rfl) (Nat.le_of_ble_eq_true rfl) ⟨wM hw 0 (by omega), rfl⟩ rfl (mX_refuse X hw s (-4) 4 (by decide) (by decide)) ?_
    refine w_rt rfl rfl trivial ?_
    exact ⟨by rw [typeF, if_neg c0], by rw [typeF, if_neg c0]⟩
def gwF (had : Nat) : Nat → SS → SS
  | 0, s => s
  | d + 1, s => gwF had d (uS (uS s 37 (nat (s 0 42)) (s 37 (nat (s 0 42) - had)).toInt8.toInt32) 0 42 (s 0 42 + 1))
def growF (s : SS) (n : Int32) : Int32 × SS := if s 0 42 = 0 then (-3, refuseF s 3) else if s 0 42 ≤ n then (if n ≤ 4000 then (s 0 42, gwF (nat (s 0 42)) (nat n - nat (s 0 42)) s) else (-6, refuseF s 6)) else (-4, refuseF s 4)
theorem mX_grow (X : Nat × (Nat → Int32)) {h : Hp} {nl nf np : Nat} (hw : WF h nl nf np) (s : SS) (t : Nat) (ht : s 0 42 = nI t) (ht2 : t ≤ 4000) (n : Int32) : wp X 91 0 [TM, some (vI n), none] [] (pS h s) (fun r h' => r = some (vI (growF s n).1) ∧ h' = pS h (growF s n).2) := by
  have loop : ∀ d k (a : SS), a 0 42 = nI k → n = nI (k + d) → t ≤ k → k + d ≤ 4000 → wp X 91 48 [TM, some (vI n), some (vI (nI t))] [] (pS h a) (fun r h' => r = some (vI (nI t)) ∧ h' = pS h (gwF t d a)) := by
    intro d
    induction d with
    | zero =>
      intro k a e hn hk hk2
      rw [gwF]
      refine w_pu rfl rfl ?_
      refine m_g hw rfl rfl ?_
      refine w_pu rfl rfl ?_
      refine w_ge rfl (fun c0 => ?_) (fun c0 => ?_)
      · refine w_pu rfl rfl ?_
        refine w_rt rfl rfl trivial ?_
        exact ⟨rfl, rfl⟩
      · exact absurd (by rw [e, hn]; exact nI_le (by omega) (by omega)) c0
    | succ d ih =>
      intro k a e hn hk hk2
      have et : nat (a 0 42) = k := by rw [e, nat_nI (by omega)]
      rw [gwF, et]
      refine w_pu rfl rfl ?_
      refine m_g hw rfl rfl ?_
      refine w_pu rfl rfl ?_
      refine w_ge rfl (fun c0 => ?_) (fun c0 => ?_)
      · exact absurd (by rw [e, hn] at c0; exact c0) (nI_ge (by omega) (by omega))
      · refine w_pu rfl rfl ?_
        refine m_gR 37 hw rfl rfl rfl ?_
        refine w_pu rfl rfl ?_
        refine m_g hw rfl rfl ?_
        refine w_pu rfl rfl ?_
        refine m_gR 37 hw rfl rfl rfl ?_
        refine w_pu rfl rfl ?_
        refine m_g hw rfl rfl ?_
        refine w_pu rfl rfl ?_
        refine w_pu rfl rfl ?_
        refine m_ab 37 (k - t) hw rfl (Or.inl ⟨rfl, rfl⟩) (by omega) (by rw [e]; exact nI_sub hk) (by show (k - t) < 4000; omega) ?_
        refine m_sb 37 k hw rfl rfl (by omega) (by first | rfl | simp only [ix_lits, nI_mul, nI_add, e]) (by show k < 4000; omega) ?_
        refine w_pu rfl rfl ?_
        refine w_pu rfl rfl ?_
        refine m_g hw rfl rfl ?_
        refine w_top (a 0 42) rfl ?_
        refine w_cst (v := 1) rfl rfl rfl ?_
        refine w_pu rfl rfl ?_
        refine m_p hw rfl rfl ?_
        refine w_go rfl ?_
        exact ih (k + 1) _ (by rw [uS_eq, e, nI_1]) (by rw [hn]; congr 1; omega) (by omega) (by omega)
  refine w_pu rfl rfl ?_
  refine m_g hw rfl rfl ?_
  refine w_ne0 rfl (fun c0 => ?_) (fun c0 => ?_)
  · refine w_pu rfl rfl ?_
    refine w_pu rfl rfl ?_
    refine m_g hw rfl rfl ?_
    refine w_ge rfl (fun c1 => ?_) (fun c1 => ?_)
    · refine w_pu rfl rfl ?_
      refine w_cst (v := 4000) rfl rfl rfl ?_
      refine w_le rfl (fun c2 => ?_) (fun c2 => ?_)
      · refine w_pu rfl rfl ?_
        refine m_g hw rfl rfl ?_
        refine w_pu rfl rfl ?_
        rw [growF, if_neg c0, if_pos c1, if_pos c2]
        rw [ht] at c1 ⊢
        obtain ⟨m, hm, rfl⟩ := i32_pos (Int32.le_trans (nI_pos' (by omega)) c1)
        have h1 := (nI_leI (by omega) hm).mp c1
        have h2 := (nI_leI (b := 4000) hm (by omega)).mp c2
        rw [nat_nI hm, nat_nI (by omega)]
        exact loop (m - t) t s ht (by congr 1; omega) (Nat.le_refl _) (by omega)
      · refine w_pu rfl rfl ?_
        refine w_cst (v := (-6)) rfl rfl rfl ?_
        refine w_cgE (vI (-6)) (pS h (refuseF s 6)) rfl rfl (by decide) (Nat.le_of_ble_eq_true rfl) rfl (Nat.le_of_ble_eq_true rfl) (Nat.le_of_ble_eq_true rfl) ⟨wM hw 0 (by omega), rfl⟩ rfl (mX_refuse X hw s (-6) 6 (by decide) (by decide)) ?_
        refine w_rt rfl rfl trivial ?_
        exact ⟨by rw [growF, if_neg c0, if_pos c1, if_neg c2], by rw [growF, if_neg c0, if_pos c1, if_neg c2]⟩
    · refine w_pu rfl rfl ?_
      refine w_cst (v := (-4)) rfl rfl rfl ?_
      refine w_cgE (vI (-4)) (pS h (refuseF s 4)) rfl rfl (by decide) (Nat.le_of_ble_eq_true rfl) rfl (Nat.le_of_ble_eq_true rfl) (Nat.le_of_ble_eq_true rfl) ⟨wM hw 0 (by omega), rfl⟩ rfl (mX_refuse X hw s (-4) 4 (by decide) (by decide)) ?_
      refine w_rt rfl rfl trivial ?_
      exact ⟨by rw [growF, if_neg c0, if_neg c1], by rw [growF, if_neg c0, if_neg c1]⟩
  · refine w_pu rfl rfl ?_
    refine w_cst (v := (-3)) rfl rfl rfl ?_
    refine w_cgE (vI (-3)) (pS h (refuseF s 3)) rfl rfl (by decide) (Nat.le_of_ble_eq_true rfl) rfl (Nat.le_of_ble_eq_true rfl) (Nat.le_of_ble_eq_true rfl) ⟨wM hw 0 (by omega), rfl⟩ rfl (mX_refuse X hw s (-3) 3 (by decide) (by decide)) ?_
    refine w_rt rfl rfl trivial ?_
    exact ⟨by rw [growF, if_pos c0], by rw [growF, if_pos c0]⟩
