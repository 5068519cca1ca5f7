/-! The reference's tick, second half. -/
def LQ (s : SS) (l np : Nat) : Prop := (∃ q, s 8 l = nI q ∧ q ≤ 40 ∧ ∀ k, k < q → okp np (s 7 (41 * l + k))) ∧ (∃ u, s 15 l = nI u ∧ u ≤ 200) ∧ ∃ f, s 14 l = nI f ∧ f < 200
theorem LQ_congr {s t : SS} {l np : Nat} (h7 : ∀ i, t 7 i = s 7 i) (h8 : t 8 l = s 8 l) (h15 : t 15 l = s 15 l) (h14 : t 14 l = s 14 l) (h : LQ s l np) : LQ t l np := by
  obtain ⟨⟨q, a, b, c⟩, ⟨u, d, e⟩, f, g, i⟩ := h
  exact ⟨⟨q, h8.trans a, b, fun k hk => by rw [h7]; exact c k hk⟩, ⟨u, h15.trans d, e⟩, f, h14.trans g, i⟩
theorem sFF_j (s : SS) (l : Nat) {j : Nat} (k : Nat) (hj : ¬ j = 7 ∧ ¬ j = 8 ∧ ¬ j = 9 ∧ ¬ j = 10 ∧ ¬ j = 11 ∧ ¬ j = 12 ∧ ¬ j = 13 ∧ ¬ j = 15 ∧ ¬ j = 16 ∧ ¬ j = 29) : sFF s l j k = s j k := by
  obtain ⟨h1, h2, h3, h4, h5, h6, h7, h8, h9, h10⟩ := hj
  unfold sFF
  split <;> simp only [uS_j _ _ _ h1, uS_j _ _ _ h2, uS_j _ _ _ h3, uS_j _ _ _ h4, uS_j _ _ _ h5, uS_j _ _ _ h6, uS_j _ _ _ h7, uS_j _ _ _ h8, uS_j _ _ _ h9, uS_j _ _ _ h10, shF_j _ _ _ _ h1]
theorem sFF_8 (s : SS) (l : Nat) : sFF s l 8 l = s 8 l - 1 := by
  unfold sFF
  split <;> rw [uS_j _ _ _ (by decide)]
  · rw [uS_j _ _ _ (by decide), uS_j _ _ _ (by decide), uS_j _ _ _ (by decide), uS_j _ _ _ (by decide), uS_j _ _ _ (by decide), uS_j _ _ _ (by decide), shF_j _ _ _ _ (by decide), uS_eq]
  · rw [uS_j _ _ _ (by decide), uS_j _ _ _ (by decide), uS_j _ _ _ (by decide), uS_j _ _ _ (by decide), uS_j _ _ _ (by decide), uS_j _ _ _ (by decide), uS_j _ _ _ (by decide), shF_j _ _ _ _ (by decide), uS_eq]
theorem sFF_15 (s : SS) (l : Nat) : sFF s l 15 l = s 15 l + 1 := by
  unfold sFF
  split <;> rw [uS_j _ _ _ (by decide)]
  · rw [uS_j _ _ _ (by decide), uS_j _ _ _ (by decide), uS_j _ _ _ (by decide), uS_j _ _ _ (by decide), uS_eq]
  · rw [uS_j _ _ _ (by decide), uS_j _ _ _ (by decide), uS_j _ _ _ (by decide), uS_j _ _ _ (by decide), uS_j _ _ _ (by decide), uS_eq]
theorem sFF_7 (s : SS) (l i : Nat) : sFF s l 7 i = if 41 * l ≤ i ∧ i < 41 * l + (nat (s 8 l) - 1) then s 7 (i + 1) else s 7 i := by
  unfold sFF
  split <;> rw [uS_j _ _ _ (by decide)]
  · rw [uS_j _ _ _ (by decide), uS_j _ _ _ (by decide), uS_j _ _ _ (by decide), uS_j _ _ _ (by decide), uS_j _ _ _ (by decide), uS_j _ _ _ (by decide)]
    unfold shF
    by_cases q : 41 * l ≤ i ∧ i < 41 * l + (nat (s 8 l) - 1)
    · rw [if_pos ⟨rfl, q⟩, if_pos q, uS_j _ _ _ (by decide)]
    · rw [if_neg (fun z => q z.2), if_neg q, uS_j _ _ _ (by decide)]
  · rw [uS_j _ _ _ (by decide), uS_j _ _ _ (by decide), uS_j _ _ _ (by decide), uS_j _ _ _ (by decide), uS_j _ _ _ (by decide), uS_j _ _ _ (by decide), uS_j _ _ _ (by decide)]
    unfold shF
    by_cases q : 41 * l ≤ i ∧ i < 41 * l + (nat (s 8 l) - 1)
    · rw [if_pos ⟨rfl, q⟩, if_pos q, uS_j _ _ _ (by decide)]
    · rw [if_neg (fun z => q z.2), if_neg q, uS_j _ _ _ (by decide)]
theorem LQ_sFF {s : SS} {l np q u : Nat} (hq : s 8 l = nI q) (hq1 : 1 ≤ q) (hq4 : q ≤ 40) (hu : s 15 l = nI u) (hu1 : u < 200) (h : LQ s l np) : LQ (sFF s l) l np := by
  obtain ⟨⟨q', a, b, c⟩, -, f, g, i⟩ := h
  have e : q' = q := by
    exact (nI_eq (by omega) (by omega)).mp (a.symm.trans hq)
  subst e
  refine ⟨⟨q' - 1, ?_, by omega, fun k hk => ?_⟩, ⟨u + 1, by rw [sFF_15, hu, nI_1], by omega⟩, f, ?_, i⟩
  · rw [sFF_8, hq]
    exact nI_sub (b := 1) hq1
  · rw [sFF_7, hq, nat_nI (by omega), if_pos ⟨by omega, by omega⟩]
    exact c (k + 1) (by omega)
  · rw [sFF_j _ _ _ (by decide)]
    exact g
theorem mX_sending (X : Nat × (Nat → Int32)) {h : Hp} {nl nf np : Nat} (hw : WF h nl nf np) (s : SS) (l t sp : Nat) (hl : l < nl) (ht : s 0 45 = nI t) (ht2 : t ≤ 20000) (hs1 : s 6 l = nI sp) (hs2 : sp ≤ 20) (hLQ : LQ s l np) : wp X 106 0 [TM, some (vI (nI l)), none, none, none] [] (pS h s) (fun r h' => r = none ∧ h' = pS h (sendingF t l s)) := by
  have h4 := hw.2.2.2.2.2.2.1
  have h3 := hw.2.2.2.2.2.2.2.2
  have out : ∀ (s : SS) (left : Int32) (x y : Option Vl), ¬ 0 < left → wp X 106 34 [TM, some (vI (nI l)), some (vI left), x, y] [] (pS h s) (fun r h' => r = none ∧ h' = pS h s) := by
    intro s left x y hleft
    refine w_pu rfl rfl ?_
    refine w_le0 rfl (fun c0 => ?_) (fun c0 => ?_)
    · refine w_rt rfl rfl trivial ?_
      exact ⟨rfl, rfl⟩
    · exact absurd (Int32.not_le.mp c0) hleft
  have loop : ∀ n left (s : SS) (x y : Option Vl) (q : Nat), s 8 l = nI q → q ≤ 40 → q + 1 ≤ n → s 0 45 = nI t → LQ s l np → wp X 106 34 [TM, some (vI (nI l)), some (vI left), x, y] [] (pS h s) (fun r h' => r = none ∧ h' = pS h (sndF t l n left s)) := by
    intro n
    induction n with
    | zero => intro left s x y q hq hq40 hn; exact absurd hn (by omega)
    | succ n ih =>
      intro left s x y q hq hq40 hn ht hLQ
      obtain ⟨⟨q', q1, q2, q3⟩, ⟨u, u1, u2⟩, f, f1, f2⟩ := id hLQ
      have eq : q' = q := (nI_eq (by omega) (by omega)).mp (q1.symm.trans hq)
      subst eq
      refine w_pu rfl rfl ?_
      refine w_le0 rfl (fun c0 => ?_) (fun c0 => ?_)
      · refine w_rt rfl rfl trivial ?_
        exact ⟨rfl, by rw [sndF, if_neg (fun z => Int32.not_lt.mpr c0 z.1)]⟩
      · refine w_pu rfl rfl ?_
        refine m_gR 8 hw rfl rfl rfl ?_
        refine w_pu rfl rfl ?_
        refine m_ai 8 l hw rfl rfl (by omega) (by first | rfl | simp only [ix_lits, nI_mul, nI_add]) (by show l < 8; omega) ?_
        refine w_le0 rfl (fun c1 => ?_) (fun c1 => ?_)
        · refine w_rt rfl rfl trivial ?_
          exact ⟨rfl, by rw [sndF, if_neg (fun z => Int32.not_lt.mpr c1 z.2.1)]⟩
        · have hq0 : 1 ≤ q' := by
            rcases Nat.eq_zero_or_pos q' with z | z
            · exact absurd (by rw [hq, z]; decide) c1
            · exact z
          refine w_pu rfl rfl ?_
          refine m_gR 15 hw rfl rfl rfl ?_
          refine w_pu rfl rfl ?_
          refine m_ai 15 l hw rfl rfl (by omega) (by first | rfl | simp only [ix_lits, nI_mul, nI_add]) (by show l < 8; omega) ?_
          refine w_cst (v := 200) rfl rfl rfl ?_
          refine w_ge rfl (fun c2 => ?_) (fun c2 => ?_)
          · refine w_rt rfl rfl trivial ?_
            exact ⟨rfl, by rw [sndF, if_neg (fun z => Int32.not_lt.mpr c2 z.2.2)]⟩
          · have hu0 : u < 200 := by
              rcases Nat.lt_or_ge u 200 with z | z
              · exact z
              · exact absurd (by rw [u1]; exact nI_le z (by omega)) c2
            refine w_pu rfl rfl ?_
            refine w_pu rfl rfl ?_
            refine m_gR 7 hw rfl rfl rfl ?_
            refine w_cst (v := 41) rfl rfl rfl ?_
            refine w_pu rfl rfl ?_
            refine w_pu rfl rfl ?_
            refine m_ai 7 (41 * l) hw rfl rfl (by omega) (by first | rfl | simp only [ix_lits, nI_mul, nI_add]) (by show (41 * l) < 328; omega) ?_
            refine w_cp (vI (szo s (s 7 (41 * l)))) rfl rfl (by decide) (Nat.le_of_ble_eq_true rfl) rfl (Nat.le_of_ble_eq_true rfl) (Nat.le_of_ble_eq_true rfl) ⟨wM hw 0 (by omega), rfl⟩ rfl (mX_sizeOf X hw s (s 7 (41 * l)) (by have := q3 0 (by omega); rw [Nat.add_zero] at this; exact this)) ?_
            refine w_pu rfl rfl ?_
            refine m_gR 9 hw rfl rfl rfl ?_
            refine w_pu rfl rfl ?_
            refine m_ai 9 l hw rfl rfl (by omega) (by first | rfl | simp only [ix_lits, nI_mul, nI_add]) (by show l < 8; omega) ?_
            refine w_pu rfl rfl ?_
            refine w_pu rfl rfl ?_
            refine w_pu rfl rfl ?_
            refine m_gR 1 hw rfl rfl rfl ?_
            refine w_pu rfl rfl ?_
            refine m_ai 1 l hw rfl rfl (by omega) (by first | rfl | simp only [ix_lits, nI_mul, nI_add]) (by show l < 8; omega) ?_
            refine w_ne0 rfl (fun c3 => ?_) (fun c3 => ?_)
            · refine w_pu rfl rfl ?_
              refine w_pu rfl rfl ?_
              refine w_ge rfl (fun c4 => ?_) (fun c4 => ?_)
              · refine w_pu rfl rfl ?_
                refine w_pu rfl rfl ?_
                refine w_pu rfl rfl ?_
                refine m_gR 9 hw rfl rfl rfl ?_
                refine w_pu rfl rfl ?_
                refine w_pu rfl rfl ?_
                refine m_ai 9 l hw rfl rfl (by omega) (by first | rfl | simp only [ix_lits, nI_mul, nI_add]) (by show l < 8; omega) ?_
                refine w_pu rfl rfl ?_
                refine w_pu rfl rfl ?_
                refine m_si 9 l hw rfl rfl (by omega) (by first | rfl | simp only [ix_lits, nI_mul, nI_add]) (by show l < 8; omega) ?_
                refine w_pu rfl rfl ?_
                refine w_pu rfl rfl ?_
                refine w_pu rfl rfl ?_
                refine w_pu rfl rfl ?_
                refine w_pu rfl rfl ?_
                refine m_gR 18 hw rfl rfl rfl ?_
                refine w_pu rfl rfl ?_
                refine w_pu rfl rfl ?_
                refine m_ai 18 l hw rfl rfl (by omega) (by first | rfl | simp only [ix_lits, nI_mul, nI_add]) (by show l < 8; omega) ?_
                refine w_top (s 18 l) rfl ?_
                refine w_pu rfl rfl ?_
                refine w_pu rfl rfl ?_
                refine m_si 18 l hw rfl rfl (by omega) (by first | rfl | simp only [ix_lits, nI_mul, nI_add]) (by show l < 8; omega) ?_
                refine w_pu rfl rfl ?_
                refine m_gR 22 hw rfl rfl rfl ?_
                refine w_cst (v := 20) rfl rfl rfl ?_
                refine w_pu rfl rfl ?_
                refine w_pu rfl rfl ?_
                refine w_pu rfl rfl ?_
                refine m_g hw rfl rfl ?_
                refine w_top (s 0 45) rfl ?_
                refine w_cst (v := 20) rfl rfl rfl ?_
                refine w_op rfl rfl (by decide) ?_
                refine w_top (nI (t % 20)) (by rw [ht]; exact pk_rem (d := 20) (by omega) (by omega) (by omega)) ?_
                refine w_pu rfl rfl ?_
                refine w_pu rfl rfl ?_
                refine m_ai 22 ((20 * l) + (t % 20)) hw rfl rfl (by omega) (by first | rfl | simp only [ix_lits, nI_mul, nI_add]) (by show ((20 * l) + (t % 20)) < 160; omega) ?_
                refine w_top (s 22 ((20 * l) + (t % 20))) rfl ?_
                refine w_pu rfl rfl ?_
                refine w_pu rfl rfl ?_
                refine m_si 22 ((20 * l) + (t % 20)) hw rfl rfl (by omega) (by first | rfl | simp only [ix_lits, nI_mul, nI_add]) (by show ((20 * l) + (t % 20)) < 160; omega) ?_
                refine w_pu rfl rfl ?_
                refine w_pu rfl rfl ?_
                refine w_ne rfl (fun c5 => ?_) (fun c5 => ?_)
                · refine w_go rfl ?_
                  rw [sndF, if_pos ⟨Int32.not_le.mp c0, Int32.not_le.mp c1, Int32.not_le.mp c2⟩, if_neg (fun z => c3 z.1), if_neg (fun z => c5 (Int32.le_antisymm c4 z))]
                  exact out _ _ _ _ (by rw [Int32.sub_self]; decide)
                · refine w_pu rfl rfl ?_
                  refine w_pu rfl rfl ?_
                  refine w_cvE (pS h (sFF (uS (uS (uS s 9 l ((s 9 l) + left)) 18 l ((s 18 l) + left)) 22 ((20 * l) + (t % 20)) ((s 22 ((20 * l) + (t % 20))) + left)) l)) rfl rfl (by decide) (Nat.le_of_ble_eq_true rfl) rfl (Nat.le_of_ble_eq_true rfl) (Nat.le_of_ble_eq_true rfl) ⟨wM hw 0 (by omega), rfl⟩ rfl (mX_sendFirst X hw (uS (uS (uS s 9 l ((s 9 l) + left)) 18 l ((s 18 l) + left)) 22 ((20 * l) + (t % 20)) ((s 22 ((20 * l) + (t % 20))) + left)) l q' f u hl hq (by omega) q2 f1 f2 u1 (by omega) (by have := q3 0 (by omega); rw [Nat.add_zero] at this; exact this)) ?_
                  refine w_go rfl ?_
                  have e9 := c5
                  rw [sndF, if_pos ⟨Int32.not_le.mp c0, Int32.not_le.mp c1, Int32.not_le.mp c2⟩, if_neg (fun z => c3 z.1), if_pos (by rw [← e9]; exact Int32.le_refl _), ← e9]
                  exact ih _ _ _ _ (q' - 1) (by rw [sFF_8]; show s 8 l - 1 = _; rw [hq]; exact nI_sub (b := 1) (by omega)) (by omega) (by omega) (by rw [sFF_j _ _ _ (by decide)]; exact ht) (LQ_sFF (q := q') (u := u) hq (by omega) q2 u1 (by omega) (LQ_congr (fun _ => rfl) rfl rfl rfl hLQ))
              · refine w_pu rfl rfl ?_
                refine w_go rfl ?_
                refine w_pu rfl rfl ?_
                refine w_pu rfl rfl ?_
                refine m_gR 9 hw rfl rfl rfl ?_
                refine w_pu rfl rfl ?_
                refine w_pu rfl rfl ?_
                refine m_ai 9 l hw rfl rfl (by omega) (by first | rfl | simp only [ix_lits, nI_mul, nI_add]) (by show l < 8; omega) ?_
                refine w_pu rfl rfl ?_
                refine w_pu rfl rfl ?_
                refine m_si 9 l hw rfl rfl (by omega) (by first | rfl | simp only [ix_lits, nI_mul, nI_add]) (by show l < 8; omega) ?_
                refine w_pu rfl rfl ?_
                refine w_pu rfl rfl ?_
                refine w_pu rfl rfl ?_
                refine w_pu rfl rfl ?_
                refine w_pu rfl rfl ?_
                refine m_gR 18 hw rfl rfl rfl ?_
                refine w_pu rfl rfl ?_
                refine w_pu rfl rfl ?_
                refine m_ai 18 l hw rfl rfl (by omega) (by first | rfl | simp only [ix_lits, nI_mul, nI_add]) (by show l < 8; omega) ?_
                refine w_top (s 18 l) rfl ?_
                refine w_pu rfl rfl ?_
                refine w_pu rfl rfl ?_
                refine m_si 18 l hw rfl rfl (by omega) (by first | rfl | simp only [ix_lits, nI_mul, nI_add]) (by show l < 8; omega) ?_
                refine w_pu rfl rfl ?_
                refine m_gR 22 hw rfl rfl rfl ?_
                refine w_cst (v := 20) rfl rfl rfl ?_
                refine w_pu rfl rfl ?_
                refine w_pu rfl rfl ?_
                refine w_pu rfl rfl ?_
                refine m_g hw rfl rfl ?_
                refine w_top (s 0 45) rfl ?_
                refine w_cst (v := 20) rfl rfl rfl ?_
                refine w_op rfl rfl (by decide) ?_
                refine w_top (nI (t % 20)) (by rw [ht]; exact pk_rem (d := 20) (by omega) (by omega) (by omega)) ?_
                refine w_pu rfl rfl ?_
                refine w_pu rfl rfl ?_
                refine m_ai 22 ((20 * l) + (t % 20)) hw rfl rfl (by omega) (by first | rfl | simp only [ix_lits, nI_mul, nI_add]) (by show ((20 * l) + (t % 20)) < 160; omega) ?_
                refine w_top (s 22 ((20 * l) + (t % 20))) rfl ?_
                refine w_pu rfl rfl ?_
                refine w_pu rfl rfl ?_
                refine m_si 22 ((20 * l) + (t % 20)) hw rfl rfl (by omega) (by first | rfl | simp only [ix_lits, nI_mul, nI_add]) (by show ((20 * l) + (t % 20)) < 160; omega) ?_
                refine w_pu rfl rfl ?_
                refine w_pu rfl rfl ?_
                refine w_ne rfl (fun c6 => ?_) (fun c6 => ?_)
                · exact absurd rfl c6
                · refine w_pu rfl rfl ?_
                  refine w_pu rfl rfl ?_
                  refine w_cvE (pS h (sFF (uS (uS (uS s 9 l ((s 9 l) + ((szo s (s 7 (41 * l))) - (s 9 l)))) 18 l ((s 18 l) + ((szo s (s 7 (41 * l))) - (s 9 l)))) 22 ((20 * l) + (t % 20)) ((s 22 ((20 * l) + (t % 20))) + ((szo s (s 7 (41 * l))) - (s 9 l)))) l)) rfl rfl (by decide) (Nat.le_of_ble_eq_true rfl) rfl (Nat.le_of_ble_eq_true rfl) (Nat.le_of_ble_eq_true rfl) ⟨wM hw 0 (by omega), rfl⟩ rfl (mX_sendFirst X hw (uS (uS (uS s 9 l ((s 9 l) + ((szo s (s 7 (41 * l))) - (s 9 l)))) 18 l ((s 18 l) + ((szo s (s 7 (41 * l))) - (s 9 l)))) 22 ((20 * l) + (t % 20)) ((s 22 ((20 * l) + (t % 20))) + ((szo s (s 7 (41 * l))) - (s 9 l)))) l q' f u hl hq (by omega) q2 f1 f2 u1 (by omega) (by have := q3 0 (by omega); rw [Nat.add_zero] at this; exact this)) ?_
                  refine w_go rfl ?_
                  rw [sndF, if_pos ⟨Int32.not_le.mp c0, Int32.not_le.mp c1, Int32.not_le.mp c2⟩, if_neg (fun z => c3 z.1), if_pos (by exact Int32.le_of_lt (Int32.not_le.mp c4))]
                  exact ih _ _ _ _ (q' - 1) (by rw [sFF_8]; show s 8 l - 1 = _; rw [hq]; exact nI_sub (b := 1) (by omega)) (by omega) (by omega) (by rw [sFF_j _ _ _ (by decide)]; exact ht) (LQ_sFF (q := q') (u := u) hq (by omega) q2 u1 (by omega) (LQ_congr (fun _ => rfl) rfl rfl rfl hLQ))
            · refine w_pu rfl rfl ?_
              refine w_pu rfl rfl ?_
              refine w_le rfl (fun c7 => ?_) (fun c7 => ?_)
              · refine w_pu rfl rfl ?_
                refine w_pu rfl rfl ?_
                refine w_ge rfl (fun c8 => ?_) (fun c8 => ?_)
                · refine w_pu rfl rfl ?_
                  refine w_pu rfl rfl ?_
                  refine w_pu rfl rfl ?_
                  refine m_gR 9 hw rfl rfl rfl ?_
                  refine w_pu rfl rfl ?_
                  refine w_pu rfl rfl ?_
                  refine m_ai 9 l hw rfl rfl (by omega) (by first | rfl | simp only [ix_lits, nI_mul, nI_add]) (by show l < 8; omega) ?_
                  refine w_pu rfl rfl ?_
                  refine w_pu rfl rfl ?_
                  refine m_si 9 l hw rfl rfl (by omega) (by first | rfl | simp only [ix_lits, nI_mul, nI_add]) (by show l < 8; omega) ?_
                  refine w_pu rfl rfl ?_
                  refine w_pu rfl rfl ?_
                  refine w_pu rfl rfl ?_
                  refine w_pu rfl rfl ?_
                  refine w_pu rfl rfl ?_
                  refine m_gR 18 hw rfl rfl rfl ?_
                  refine w_pu rfl rfl ?_
                  refine w_pu rfl rfl ?_
                  refine m_ai 18 l hw rfl rfl (by omega) (by first | rfl | simp only [ix_lits, nI_mul, nI_add]) (by show l < 8; omega) ?_
                  refine w_top (s 18 l) rfl ?_
                  refine w_pu rfl rfl ?_
                  refine w_pu rfl rfl ?_
                  refine m_si 18 l hw rfl rfl (by omega) (by first | rfl | simp only [ix_lits, nI_mul, nI_add]) (by show l < 8; omega) ?_
                  refine w_pu rfl rfl ?_
                  refine m_gR 22 hw rfl rfl rfl ?_
                  refine w_cst (v := 20) rfl rfl rfl ?_
                  refine w_pu rfl rfl ?_
                  refine w_pu rfl rfl ?_
                  refine w_pu rfl rfl ?_
                  refine m_g hw rfl rfl ?_
                  refine w_top (s 0 45) rfl ?_
                  refine w_cst (v := 20) rfl rfl rfl ?_
                  refine w_op rfl rfl (by decide) ?_
                  refine w_top (nI (t % 20)) (by rw [ht]; exact pk_rem (d := 20) (by omega) (by omega) (by omega)) ?_
                  refine w_pu rfl rfl ?_
                  refine w_pu rfl rfl ?_
                  refine m_ai 22 ((20 * l) + (t % 20)) hw rfl rfl (by omega) (by first | rfl | simp only [ix_lits, nI_mul, nI_add]) (by show ((20 * l) + (t % 20)) < 160; omega) ?_
                  refine w_top (s 22 ((20 * l) + (t % 20))) rfl ?_
                  refine w_pu rfl rfl ?_
                  refine w_pu rfl rfl ?_
                  refine m_si 22 ((20 * l) + (t % 20)) hw rfl rfl (by omega) (by first | rfl | simp only [ix_lits, nI_mul, nI_add]) (by show ((20 * l) + (t % 20)) < 160; omega) ?_
                  refine w_pu rfl rfl ?_
                  refine w_pu rfl rfl ?_
                  refine w_ne rfl (fun c9 => ?_) (fun c9 => ?_)
                  · refine w_go rfl ?_
                    rw [sndF, if_pos ⟨Int32.not_le.mp c0, Int32.not_le.mp c1, Int32.not_le.mp c2⟩, if_neg (fun z => Int32.not_lt.mpr c7 z.2), if_neg (fun z => c9 (Int32.le_antisymm c8 z))]
                    exact out _ _ _ _ (by rw [Int32.sub_self]; decide)
                  · refine w_pu rfl rfl ?_
                    refine w_pu rfl rfl ?_
                    refine w_cvE (pS h (sFF (uS (uS (uS s 9 l ((s 9 l) + left)) 18 l ((s 18 l) + left)) 22 ((20 * l) + (t % 20)) ((s 22 ((20 * l) + (t % 20))) + left)) l)) rfl rfl (by decide) (Nat.le_of_ble_eq_true rfl) rfl (Nat.le_of_ble_eq_true rfl) (Nat.le_of_ble_eq_true rfl) ⟨wM hw 0 (by omega), rfl⟩ rfl (mX_sendFirst X hw (uS (uS (uS s 9 l ((s 9 l) + left)) 18 l ((s 18 l) + left)) 22 ((20 * l) + (t % 20)) ((s 22 ((20 * l) + (t % 20))) + left)) l q' f u hl hq (by omega) q2 f1 f2 u1 (by omega) (by have := q3 0 (by omega); rw [Nat.add_zero] at this; exact this)) ?_
                    refine w_go rfl ?_
                    have e9 := c9
                    rw [sndF, if_pos ⟨Int32.not_le.mp c0, Int32.not_le.mp c1, Int32.not_le.mp c2⟩, if_neg (fun z => Int32.not_lt.mpr c7 z.2), if_pos (by rw [← e9]; exact Int32.le_refl _), ← e9]
                    exact ih _ _ _ _ (q' - 1) (by rw [sFF_8]; show s 8 l - 1 = _; rw [hq]; exact nI_sub (b := 1) (by omega)) (by omega) (by omega) (by rw [sFF_j _ _ _ (by decide)]; exact ht) (LQ_sFF (q := q') (u := u) hq (by omega) q2 u1 (by omega) (LQ_congr (fun _ => rfl) rfl rfl rfl hLQ))
                · refine w_pu rfl rfl ?_
                  refine w_go rfl ?_
                  refine w_pu rfl rfl ?_
                  refine w_pu rfl rfl ?_
                  refine m_gR 9 hw rfl rfl rfl ?_
                  refine w_pu rfl rfl ?_
                  refine w_pu rfl rfl ?_
                  refine m_ai 9 l hw rfl rfl (by omega) (by first | rfl | simp only [ix_lits, nI_mul, nI_add]) (by show l < 8; omega) ?_
                  refine w_pu rfl rfl ?_
                  refine w_pu rfl rfl ?_
                  refine m_si 9 l hw rfl rfl (by omega) (by first | rfl | simp only [ix_lits, nI_mul, nI_add]) (by show l < 8; omega) ?_
                  refine w_pu rfl rfl ?_
                  refine w_pu rfl rfl ?_
                  refine w_pu rfl rfl ?_
                  refine w_pu rfl rfl ?_
                  refine w_pu rfl rfl ?_
                  refine m_gR 18 hw rfl rfl rfl ?_
                  refine w_pu rfl rfl ?_
                  refine w_pu rfl rfl ?_
                  refine m_ai 18 l hw rfl rfl (by omega) (by first | rfl | simp only [ix_lits, nI_mul, nI_add]) (by show l < 8; omega) ?_
                  refine w_top (s 18 l) rfl ?_
                  refine w_pu rfl rfl ?_
                  refine w_pu rfl rfl ?_
                  refine m_si 18 l hw rfl rfl (by omega) (by first | rfl | simp only [ix_lits, nI_mul, nI_add]) (by show l < 8; omega) ?_
                  refine w_pu rfl rfl ?_
                  refine m_gR 22 hw rfl rfl rfl ?_
                  refine w_cst (v := 20) rfl rfl rfl ?_
                  refine w_pu rfl rfl ?_
                  refine w_pu rfl rfl ?_
                  refine w_pu rfl rfl ?_
                  refine m_g hw rfl rfl ?_
                  refine w_top (s 0 45) rfl ?_
                  refine w_cst (v := 20) rfl rfl rfl ?_
                  refine w_op rfl rfl (by decide) ?_
                  refine w_top (nI (t % 20)) (by rw [ht]; exact pk_rem (d := 20) (by omega) (by omega) (by omega)) ?_
                  refine w_pu rfl rfl ?_
                  refine w_pu rfl rfl ?_
                  refine m_ai 22 ((20 * l) + (t % 20)) hw rfl rfl (by omega) (by first | rfl | simp only [ix_lits, nI_mul, nI_add]) (by show ((20 * l) + (t % 20)) < 160; omega) ?_
                  refine w_top (s 22 ((20 * l) + (t % 20))) rfl ?_
                  refine w_pu rfl rfl ?_
                  refine w_pu rfl rfl ?_
                  refine m_si 22 ((20 * l) + (t % 20)) hw rfl rfl (by omega) (by first | rfl | simp only [ix_lits, nI_mul, nI_add]) (by show ((20 * l) + (t % 20)) < 160; omega) ?_
                  refine w_pu rfl rfl ?_
                  refine w_pu rfl rfl ?_
                  refine w_ne rfl (fun c10 => ?_) (fun c10 => ?_)
                  · exact absurd rfl c10
                  · refine w_pu rfl rfl ?_
                    refine w_pu rfl rfl ?_
                    refine w_cvE (pS h (sFF (uS (uS (uS s 9 l ((s 9 l) + ((szo s (s 7 (41 * l))) - (s 9 l)))) 18 l ((s 18 l) + ((szo s (s 7 (41 * l))) - (s 9 l)))) 22 ((20 * l) + (t % 20)) ((s 22 ((20 * l) + (t % 20))) + ((szo s (s 7 (41 * l))) - (s 9 l)))) l)) rfl rfl (by decide) (Nat.le_of_ble_eq_true rfl) rfl (Nat.le_of_ble_eq_true rfl) (Nat.le_of_ble_eq_true rfl) ⟨wM hw 0 (by omega), rfl⟩ rfl (mX_sendFirst X hw (uS (uS (uS s 9 l ((s 9 l) + ((szo s (s 7 (41 * l))) - (s 9 l)))) 18 l ((s 18 l) + ((szo s (s 7 (41 * l))) - (s 9 l)))) 22 ((20 * l) + (t % 20)) ((s 22 ((20 * l) + (t % 20))) + ((szo s (s 7 (41 * l))) - (s 9 l)))) l q' f u hl hq (by omega) q2 f1 f2 u1 (by omega) (by have := q3 0 (by omega); rw [Nat.add_zero] at this; exact this)) ?_
                    refine w_go rfl ?_
                    rw [sndF, if_pos ⟨Int32.not_le.mp c0, Int32.not_le.mp c1, Int32.not_le.mp c2⟩, if_neg (fun z => Int32.not_lt.mpr c7 z.2), if_pos (by exact Int32.le_of_lt (Int32.not_le.mp c8))]
                    exact ih _ _ _ _ (q' - 1) (by rw [sFF_8]; show s 8 l - 1 = _; rw [hq]; exact nI_sub (b := 1) (by omega)) (by omega) (by omega) (by rw [sFF_j _ _ _ (by decide)]; exact ht) (LQ_sFF (q := q') (u := u) hq (by omega) q2 u1 (by omega) (LQ_congr (fun _ => rfl) rfl rfl rfl hLQ))
              · refine w_rt rfl rfl trivial ?_
                exact ⟨rfl, by rw [sndF, if_pos ⟨Int32.not_le.mp c0, Int32.not_le.mp c1, Int32.not_le.mp c2⟩, if_pos ⟨c3, Int32.not_le.mp c7⟩]⟩
  refine w_pu rfl rfl ?_
  refine m_gR 22 hw rfl rfl rfl ?_
  refine w_cst (v := 20) rfl rfl rfl ?_
  refine w_pu rfl rfl ?_
  refine w_pu rfl rfl ?_
  refine w_pu rfl rfl ?_
  refine m_g hw rfl rfl ?_
  refine w_cst (v := 20) rfl rfl rfl ?_
  refine w_op rfl rfl (by decide) ?_
  refine w_top (nI (t % 20)) (by rw [ht]; exact pk_rem (d := 20) (by omega) (by omega) (by omega)) ?_
  refine w_pu rfl rfl ?_
  refine w_cst (v := 0) rfl rfl rfl ?_
  refine m_si 22 ((20 * l) + (t % 20)) hw rfl rfl (by omega) (by first | rfl | simp only [ix_lits, nI_mul, nI_add]) (by show ((20 * l) + (t % 20)) < 160; omega) ?_
  refine w_pu rfl rfl ?_
  refine m_gR 4 hw rfl rfl rfl ?_
  refine w_pu rfl rfl ?_
  refine m_ab 4 l hw rfl (Or.inr ⟨rfl, rfl⟩) (by omega) (by first | rfl | simp only [ix_lits, nI_mul, nI_add]) (by show l < 8; omega) ?_
  refine w_top (s 4 l) rfl ?_
  refine w_ne0 rfl (fun c0 => ?_) (fun c0 => ?_)
  · refine w_pu rfl rfl ?_
    refine w_pu rfl rfl ?_
    refine w_cp (vI (allowedF (uS s 22 ((20 * l) + (t % 20)) 0) l t)) rfl rfl (by decide) (Nat.le_of_ble_eq_true rfl) rfl (Nat.le_of_ble_eq_true rfl) (Nat.le_of_ble_eq_true rfl) ⟨wM hw 0 (by omega), rfl⟩ rfl (mX_allowed X hw (uS s 22 ((20 * l) + (t % 20)) 0) l t sp hl ht ht2 hs1 hs2) ?_
    refine w_pu rfl rfl ?_
    obtain ⟨⟨q, q1, q2, q3⟩, -⟩ := id hLQ
    rw [sendingF, if_neg c0]
    exact loop 41 _ _ _ _ q q1 q2 (by omega) ht (LQ_congr (fun _ => rfl) rfl rfl rfl hLQ)
  · refine w_rt rfl rfl trivial ?_
    exact ⟨rfl, by rw [sendingF, if_pos c0]⟩
theorem loseF_j (s : SS) (p l : Nat) {j : Nat} (k : Nat) (hj : ¬ j = 23 ∧ ¬ j = 30 ∧ ¬ j = 19) : loseF s p l j k = s j k := by
  unfold loseF
  rw [uS_j _ _ _ hj.2.2, uS_j _ _ _ hj.2.1, uS_j _ _ _ hj.1]
theorem lsF_j (l : Nat) (c : Int32) (s : SS) {j : Nat} (k : Nat) (hj : ¬ j = 23 ∧ ¬ j = 30 ∧ ¬ j = 19) : ∀ n, lsF l c n s j k = s j k
  | 0 => rfl
  | n + 1 => by
    rw [lsF]
    split
    · rw [loseF_j _ _ _ _ hj, lsF_j l c s k hj n]
    · exact lsF_j l c s k hj n
theorem comesF_j (np l : Nat) (v c : Int32) (s : SS) {j : Nat} (k : Nat) (hj : ¬ j = 23 ∧ ¬ j = 30 ∧ ¬ j = 19 ∧ ¬ j = 17) : comesF np l v c s j k = s j k := by
  have e : (uS (if s 17 l < c then lsF l c np s else s) 17 l (c + 1)) j k = s j k := by
    rw [uS_j _ _ _ hj.2.2.2]
    split
    · exact lsF_j l c s k ⟨hj.1, hj.2.1, hj.2.2.1⟩ np
    · rfl
  unfold comesF
  split
  · exact e
  · rw [uS_j _ _ _ hj.1]
    exact e
theorem inF_0 {v lo hi : Int32} (h : inF v lo hi = 0) : ¬ (lo ≤ v ∧ v ≤ hi) := by
  intro q
  rw [inF, if_pos q] at h
  cases h
theorem inF_1 {v lo hi : Int32} (h : ¬ inF v lo hi = 0) : lo ≤ v ∧ v ≤ hi := by
  by_cases q : lo ≤ v ∧ v ≤ hi
  · exact q
  · rw [inF, if_neg q] at h
    exact absurd rfl h
theorem hitF_iff {s : SS} {l q : Nat} {c : Int32} : hitF s l q c = true ↔ s 23 q = 1 ∧ s 28 q = nI l ∧ s 17 l ≤ s 29 q ∧ s 29 q ≤ c - 1 := by
  unfold hitF
  simp only [Bool.and_eq_true, decide_eq_true_eq]
theorem mX_comes (X : Nat × (Nat → Int32)) {h : Hp} {nl nf np : Nat} (hw : WF h nl nf np) (s : SS) (l : Nat) (v c : Int32) (hl : l < nl) (hn : s 0 23 = nI np) (hv : okp np v) : wp X 108 0 [TM, some (vI (nI l)), some (vI v), some (vI c), none] [] (pS h s) (fun r h' => r = none ∧ h' = pS h (comesF np l v c s)) := by
  have h4 := hw.2.2.2.2.2.2.1
  have h3 := hw.2.2.2.2.2.2.2.2
  have tail : ∀ (a : SS) (x : Option Vl), a = (if s 17 l < c then lsF l c np s else s) → wp X 108 79 [TM, some (vI (nI l)), some (vI v), some (vI c), x] [] (pS h a) (fun r h' => r = none ∧ h' = pS h (comesF np l v c s)) := by
    intro a x ha
    have e : comesF np l v c s = if v = -2 then uS a 17 l (c + 1) else uS (uS a 17 l (c + 1)) 23 (nat v) 3 := by
      unfold comesF
      rw [← ha]
    refine w_pu rfl rfl ?_
    refine m_gR 17 hw rfl rfl rfl ?_
    refine w_pu rfl rfl ?_
    refine w_pu rfl rfl ?_
    refine w_cst (v := 1) rfl rfl rfl ?_
    refine w_pu rfl rfl ?_
    refine m_si 17 l hw rfl rfl (by omega) (by first | rfl | exact hk | simp only [ix_lits, nI_mul, nI_add]) (by show l < 8; omega) ?_
    refine w_pu rfl rfl ?_
    refine w_cst (v := (-2)) rfl rfl rfl ?_
    refine w_eq rfl (fun c0 => ?_) (fun c0 => ?_)
    · refine w_rt rfl rfl trivial ?_
      exact ⟨rfl, by rw [e, if_pos c0]⟩
    · obtain ⟨k, hk1, hk⟩ := hv.resolve_left c0
      refine w_pu rfl rfl ?_
      refine m_gR 23 hw rfl rfl rfl ?_
      refine w_pu rfl rfl ?_
      refine w_cst (v := 3) rfl rfl rfl ?_
      refine m_si 23 k hw rfl rfl (by omega) (by first | rfl | exact hk | simp only [ix_lits, nI_mul, nI_add]) (by show k < 3000; omega) ?_
      refine w_rt rfl rfl trivial ?_
      exact ⟨rfl, by rw [e, if_neg c0, hk, nat_nI (by omega)]⟩
  by_cases hsc : s 17 l < c
  · have loop : ∀ d k (a : SS), k + d = np → a = lsF l c k s → wp X 108 3 [TM, some (vI (nI l)), some (vI v), some (vI c), some (vI (nI k))] [] (pS h a) (fun r h' => r = none ∧ h' = pS h (comesF np l v c s)) := by
      intro d
      induction d with
      | zero =>
        intro k a hk ha
        have a0 : a 0 23 = nI np := by rw [ha, lsF_j _ _ _ _ (by decide), hn]
        refine w_pu rfl rfl ?_
        refine w_pu rfl rfl ?_
        refine m_g hw rfl rfl ?_
        refine w_ge rfl (fun c0 => ?_) (fun c0 => ?_)
        · exact tail a _ (by rw [if_pos hsc, ha, show k = np by omega])
        · exact absurd (by rw [a0]; exact nI_le (by omega) (by omega)) c0
      | succ d ih =>
        intro k a hk ha
        have a0 : a 0 23 = nI np := by rw [ha, lsF_j _ _ _ _ (by decide), hn]
        have a17 : a 17 l = s 17 l := by rw [ha, lsF_j _ _ _ _ (by decide)]
        refine w_pu rfl rfl ?_
        refine w_pu rfl rfl ?_
        refine m_g hw rfl rfl ?_
        refine w_ge rfl (fun c0 => ?_) (fun c0 => ?_)
        · exact absurd (by rw [a0] at c0; exact c0) (nI_ge (by omega) (by omega))
        · refine w_pu rfl rfl ?_
          refine m_gR 17 hw rfl rfl rfl ?_
          refine w_pu rfl rfl ?_
          refine m_ai 17 l hw rfl rfl (by omega) (by first | rfl | simp only [ix_lits, nI_mul, nI_add]) (by show l < 8; omega) ?_
          refine w_pu rfl rfl ?_
          refine w_ge rfl (fun c1 => ?_) (fun c1 => ?_)
          · exact absurd (by rw [a17] at c1; exact c1) (Int32.not_le.mpr hsc)
          · refine w_pu rfl rfl ?_
            refine m_gR 23 hw rfl rfl rfl ?_
            refine w_pu rfl rfl ?_
            refine m_ai 23 k hw rfl rfl (by omega) (by first | rfl | simp only [ix_lits, nI_mul, nI_add]) (by show k < 3000; omega) ?_
            refine w_cst (v := 1) rfl rfl rfl ?_
            refine w_ne rfl (fun c2 => ?_) (fun c2 => ?_)
            · refine w_i1 rfl rfl rfl ?_
              refine w_go rfl ?_
              exact ih (k + 1) a (by omega) (by rw [lsF, ← ha, if_neg (fun z => c2 (hitF_iff.mp z).1)])
            · refine w_pu rfl rfl ?_
              refine m_gR 28 hw rfl rfl rfl ?_
              refine w_pu rfl rfl ?_
              refine m_ai 28 k hw rfl rfl (by omega) (by first | rfl | simp only [ix_lits, nI_mul, nI_add]) (by show k < 3000; omega) ?_
              refine w_pu rfl rfl ?_
              refine w_ne rfl (fun c3 => ?_) (fun c3 => ?_)
              · refine w_i1 rfl rfl rfl ?_
                refine w_go rfl ?_
                exact ih (k + 1) a (by omega) (by rw [lsF, ← ha, if_neg (fun z => c3 (hitF_iff.mp z).2.1)])
              · refine w_pu rfl rfl ?_
                refine m_gR 29 hw rfl rfl rfl ?_
                refine w_pu rfl rfl ?_
                refine m_ai 29 k hw rfl rfl (by omega) (by first | rfl | simp only [ix_lits, nI_mul, nI_add]) (by show k < 3000; omega) ?_
                refine w_pu rfl rfl ?_
                refine m_gR 17 hw rfl rfl rfl ?_
                refine w_pu rfl rfl ?_
                refine m_ai 17 l hw rfl rfl (by omega) (by first | rfl | simp only [ix_lits, nI_mul, nI_add]) (by show l < 8; omega) ?_
                refine w_pu rfl rfl ?_
                refine w_cst (v := 1) rfl rfl rfl ?_
                refine w_pu rfl rfl ?_
                refine w_cp (vI (inF (a 29 k) (a 17 l) (c - 1))) rfl rfl (by decide) (Nat.le_of_ble_eq_true rfl) rfl (Nat.le_of_ble_eq_true rfl) (Nat.le_of_ble_eq_true rfl) trivial rfl (mX_in X _ (a 29 k) (a 17 l) (c - 1)) ?_
                refine w_eq0 rfl (fun c4 => ?_) (fun c4 => ?_)
                · refine w_i1 rfl rfl rfl ?_
                  refine w_go rfl ?_
                  exact ih (k + 1) a (by omega) (by rw [lsF, ← ha, if_neg (fun z => inF_0 c4 (hitF_iff.mp z).2.2)])
                · refine w_pu rfl rfl ?_
                  refine w_pu rfl rfl ?_
                  refine w_pu rfl rfl ?_
                  refine w_cvE (pS h (loseF a k l)) rfl rfl (by decide) (Nat.le_of_ble_eq_true rfl) rfl (Nat.le_of_ble_eq_true rfl) (Nat.le_of_ble_eq_true rfl) ⟨wM hw 0 (by omega), rfl⟩ rfl (mX_lose X hw a k l (by omega) (by omega)) ?_
                  refine w_i1 rfl rfl rfl ?_
                  refine w_go rfl ?_
                  exact ih (k + 1) _ (by omega) (by rw [lsF, ← ha, if_pos (hitF_iff.mpr ⟨c2, c3, inF_1 c4⟩)])
    refine w_cst (v := 0) rfl rfl rfl ?_
    refine w_pu rfl rfl ?_
    exact loop np 0 s (by omega) rfl
  · refine w_cst (v := 0) rfl rfl rfl ?_
    refine w_pu rfl rfl ?_
    refine w_pu rfl rfl ?_
    refine w_pu rfl rfl ?_
    refine m_g hw rfl rfl ?_
    refine w_ge rfl (fun c0 => ?_) (fun c0 => ?_)
    · exact tail s _ (by rw [if_neg hsc])
    · refine w_pu rfl rfl ?_
      refine m_gR 17 hw rfl rfl rfl ?_
      refine w_pu rfl rfl ?_
      refine m_ai 17 l hw rfl rfl (by omega) (by first | rfl | simp only [ix_lits, nI_mul, nI_add]) (by show l < 8; omega) ?_
      refine w_pu rfl rfl ?_
      refine w_ge rfl (fun c1 => ?_) (fun c1 => ?_)
      · exact tail s _ (by rw [if_neg hsc])
      · exact absurd (Int32.not_le.mp c1) hsc
theorem uS_at2 {s : SS} {j k : Nat} {v w : Int32} {j2 k2 : Nat} (hj : ¬ j = j2) : uS (uS s j k v) j2 k2 w j k = v := by
  rw [uS_j _ _ _ hj, uS_eq]
def CM (s : SS) (l np : Nat) : Prop := ∃ u f, s 15 l = nI u ∧ u ≤ 200 ∧ s 14 l = nI f ∧ f < 200 ∧ ∀ k, k < u → okp np (s 10 (200 * l + (f + k) % 200))
theorem mX_coming (X : Nat × (Nat → Int32)) {h : Hp} {nl nf np : Nat} (hw : WF h nl nf np) (s : SS) (l : Nat) (hl : l < nl) (hn : s 0 23 = nI np) (hCM : CM s l np) : wp X 107 0 [TM, some (vI (nI l)), none] [] (pS h s) (fun r h' => r = none ∧ h' = pS h (cmF np l 201 s)) := by
  have h4 := hw.2.2.2.2.2.2.1
  have h3 := hw.2.2.2.2.2.2.2.2
  have loop : ∀ n (s : SS) (x : Option Vl) (u f : Nat), s 0 23 = nI np → s 15 l = nI u → u ≤ 200 → u + 1 ≤ n → s 14 l = nI f → f < 200 → (∀ k, k < u → okp np (s 10 (200 * l + (f + k) % 200))) → wp X 107 0 [TM, some (vI (nI l)), x] [] (pS h s) (fun r h' => r = none ∧ h' = pS h (cmF np l n s)) := by
    intro n
    induction n with
    | zero => intro s x u f hn hu hu2 hun; exact absurd hun (by omega)
    | succ n ih =>
      intro s x u f hn hu hu2 hun hf hf2 hk
      have ef : nat (s 14 l) = f := by rw [hf, nat_nI (by omega)]
      refine w_pu rfl rfl ?_
      refine m_gR 15 hw rfl rfl rfl ?_
      refine w_pu rfl rfl ?_
      refine m_ai 15 l hw rfl rfl (by omega) (by first | rfl | simp only [ix_lits, nI_mul, nI_add, hf]) (by show l < 8; omega) ?_
      refine w_le0 rfl (fun c0 => ?_) (fun c0 => ?_)
      · refine w_rt rfl rfl trivial ?_
        exact ⟨rfl, by rw [cmF, if_neg (fun z => Int32.not_lt.mpr c0 z.1)]⟩
      · have hu0 : 1 ≤ u := by
          rcases Nat.eq_zero_or_pos u with z | z
          · exact absurd (by rw [hu, z]; decide) c0
          · exact z
        refine w_pu rfl rfl ?_
        refine m_gR 12 hw rfl rfl rfl ?_
        refine w_cst (v := 200) rfl rfl rfl ?_
        refine w_pu rfl rfl ?_
        refine w_pu rfl rfl ?_
        refine w_pu rfl rfl ?_
        refine m_gR 14 hw rfl rfl rfl ?_
        refine w_pu rfl rfl ?_
        refine m_ai 14 l hw rfl rfl (by omega) (by first | rfl | simp only [ix_lits, nI_mul, nI_add, hf]) (by show l < 8; omega) ?_
        refine w_pu rfl rfl ?_
        refine m_ai 12 ((200 * l) + f) hw rfl rfl (by omega) (by first | rfl | simp only [ix_lits, nI_mul, nI_add, hf]) (by show ((200 * l) + f) < 1600; omega) ?_
        refine w_pu rfl rfl ?_
        refine m_g hw rfl rfl ?_
        refine w_ne rfl (fun c1 => ?_) (fun c1 => ?_)
        · refine w_rt rfl rfl trivial ?_
          exact ⟨rfl, by rw [cmF, if_neg (fun z => c1 (by rw [← ef]; exact z.2))]⟩
        · refine w_cst (v := 200) rfl rfl rfl ?_
          refine w_pu rfl rfl ?_
          refine w_pu rfl rfl ?_
          refine w_pu rfl rfl ?_
          refine m_gR 14 hw rfl rfl rfl ?_
          refine w_pu rfl rfl ?_
          refine m_ai 14 l hw rfl rfl (by omega) (by first | rfl | simp only [ix_lits, nI_mul, nI_add, hf]) (by show l < 8; omega) ?_
          refine w_pu rfl rfl ?_
          refine w_pu rfl rfl ?_
          refine w_pu rfl rfl ?_
          refine m_gR 14 hw rfl rfl rfl ?_
          refine w_pu rfl rfl ?_
          refine w_pu rfl rfl ?_
          refine m_gR 14 hw rfl rfl rfl ?_
          refine w_pu rfl rfl ?_
          refine m_ai 14 l hw rfl rfl (by omega) (by first | rfl | simp only [ix_lits, nI_mul, nI_add, hf]) (by show l < 8; omega) ?_
          refine w_cst (v := 1) rfl rfl rfl ?_
          refine w_pu rfl rfl ?_
          refine w_cst (v := 200) rfl rfl rfl ?_
          refine w_op rfl rfl (by decide) ?_
          refine w_top (nI ((f + 1) % 200)) (by rw [hf, nI_1]; exact pk_rem (d := 200) (by omega) (by omega) (by omega)) ?_
          refine m_si 14 l hw rfl rfl (by omega) (by first | rfl | simp only [ix_lits, nI_mul, nI_add, hf]) (by show l < 8; omega) ?_
          refine w_pu rfl rfl ?_
          refine m_gR 15 hw rfl rfl rfl ?_
          refine w_pu rfl rfl ?_
          refine w_pu rfl rfl ?_
          refine m_ai 15 l hw rfl rfl (by omega) (by first | rfl | simp only [ix_lits, nI_mul, nI_add, hf]) (by show l < 8; omega) ?_
          refine w_top (s 15 l) rfl ?_
          refine w_cst (v := 1) rfl rfl rfl ?_
          refine w_pu rfl rfl ?_
          refine m_si 15 l hw rfl rfl (by omega) (by first | rfl | simp only [ix_lits, nI_mul, nI_add, hf]) (by show l < 8; omega) ?_
          refine w_pu rfl rfl ?_
          refine m_gR 13 hw rfl rfl rfl ?_
          refine w_pu rfl rfl ?_
          refine m_ai 13 ((200 * l) + f) hw rfl rfl (by omega) (by first | rfl | simp only [ix_lits, nI_mul, nI_add, hf]) (by show ((200 * l) + f) < 1600; omega) ?_
          refine w_top (s 13 ((200 * l) + f)) rfl ?_
          refine w_cst (v := 1) rfl rfl rfl ?_
          refine w_pu rfl rfl ?_
          refine w_cst (v := 1) rfl rfl rfl ?_
          refine w_ne rfl (fun c2 => ?_) (fun c2 => ?_)
          · refine w_pu rfl rfl ?_
            refine m_gR 13 hw rfl rfl rfl ?_
            refine w_pu rfl rfl ?_
            refine m_ai 13 ((200 * l) + f) hw rfl rfl (by omega) (by first | rfl | simp only [ix_lits, nI_mul, nI_add, hf]) (by show ((200 * l) + f) < 1600; omega) ?_
            refine w_top (s 13 ((200 * l) + f)) rfl ?_
            refine w_cst (v := 1) rfl rfl rfl ?_
            refine w_le rfl (fun c3 => ?_) (fun c3 => ?_)
            · refine w_pu rfl rfl ?_
              refine w_pu rfl rfl ?_
              refine w_pu rfl rfl ?_
              refine m_gR 10 hw rfl rfl rfl ?_
              refine w_pu rfl rfl ?_
              refine m_ai 10 ((200 * l) + f) hw rfl rfl (by omega) (by first | rfl | simp only [ix_lits, nI_mul, nI_add, hf]) (by show ((200 * l) + f) < 1600; omega) ?_
              refine w_top (s 10 ((200 * l) + f)) rfl ?_
              refine w_pu rfl rfl ?_
              refine m_gR 11 hw rfl rfl rfl ?_
              refine w_pu rfl rfl ?_
              refine m_ai 11 ((200 * l) + f) hw rfl rfl (by omega) (by first | rfl | simp only [ix_lits, nI_mul, nI_add, hf]) (by show ((200 * l) + f) < 1600; omega) ?_
              refine w_top (s 11 ((200 * l) + f)) rfl ?_
              refine w_cvE (pS h (comesF np l (s 10 ((200 * l) + f)) (s 11 ((200 * l) + f)) (uS (uS s 14 l (nI ((f + 1) % 200))) 15 l ((s 15 l) - 1)))) rfl rfl (by decide) (Nat.le_of_ble_eq_true rfl) rfl (Nat.le_of_ble_eq_true rfl) (Nat.le_of_ble_eq_true rfl) ⟨wM hw 0 (by omega), rfl⟩ rfl (mX_comes X hw (uS (uS s 14 l (nI ((f + 1) % 200))) 15 l ((s 15 l) - 1)) l (s 10 ((200 * l) + f)) (s 11 ((200 * l) + f)) hl hn (by have := hk 0 (by omega); rw [Nat.add_zero, Nat.mod_eq_of_lt hf2] at this; exact this)) ?_
              refine w_go rfl ?_
              rw [cmF, if_pos ⟨Int32.not_le.mp c0, by rw [ef]; exact c1⟩, ef, if_neg c2, if_neg (Int32.not_lt.mpr c3)]
              refine ih _ _ (u - 1) ((f + 1) % 200) (by rw [comesF_j _ _ _ _ _ _ (by decide)]; exact hn) (by rw [comesF_j _ _ _ _ _ _ (by decide)]; rw [uS_eq, hu]; exact nI_sub (b := 1) hu0) (by omega) (by omega) (by rw [comesF_j _ _ _ _ _ _ (by decide)]; exact uS_at2 (by omega)) (Nat.mod_lt _ (by omega)) (fun k hk2 => ?_)
              have h9 := hk (k + 1) (by omega)
              rw [show (f + (k + 1)) % 200 = ((f + 1) % 200 + k) % 200 by omega] at h9
              rw [comesF_j _ _ _ _ _ _ (by decide)]
              exact h9
            · refine w_pu rfl rfl ?_
              refine m_gR 21 hw rfl rfl rfl ?_
              refine w_pu rfl rfl ?_
              refine w_pu rfl rfl ?_
              refine m_ai 21 l hw rfl rfl (by omega) (by first | rfl | simp only [ix_lits, nI_mul, nI_add, hf]) (by show l < 8; omega) ?_
              refine w_top (s 21 l) rfl ?_
              refine w_cst (v := 1) rfl rfl rfl ?_
              refine w_pu rfl rfl ?_
              refine m_si 21 l hw rfl rfl (by omega) (by first | rfl | simp only [ix_lits, nI_mul, nI_add, hf]) (by show l < 8; omega) ?_
              refine w_go rfl ?_
              rw [cmF, if_pos ⟨Int32.not_le.mp c0, by rw [ef]; exact c1⟩, ef, if_neg c2, if_pos (Int32.not_le.mp c3)]
              refine ih _ _ (u - 1) ((f + 1) % 200) hn (by rw [uS_j _ _ _ (by decide), uS_eq, hu]; exact nI_sub (b := 1) hu0) (by omega) (by omega) (by rw [uS_j _ _ _ (by decide)]; exact uS_at2 (by omega)) (Nat.mod_lt _ (by omega)) (fun k hk2 => ?_)
              have h9 := hk (k + 1) (by omega)
              rw [show (f + (k + 1)) % 200 = ((f + 1) % 200 + k) % 200 by omega] at h9
              exact h9
          · refine w_go rfl ?_
            rw [cmF, if_pos ⟨Int32.not_le.mp c0, by rw [ef]; exact c1⟩, ef, if_pos c2]
            refine ih _ _ (u - 1) ((f + 1) % 200) hn (by rw [uS_eq, hu]; exact nI_sub (b := 1) hu0) (by omega) (by omega) (uS_at2 (by omega)) (Nat.mod_lt _ (by omega)) (fun k hk2 => ?_)
            have h9 := hk (k + 1) (by omega)
            rw [show (f + (k + 1)) % 200 = ((f + 1) % 200 + k) % 200 by omega] at h9
            exact h9
  obtain ⟨u, f, a1, a2, a3, a4, a5⟩ := hCM
  exact loop 201 s _ u f hn a1 a2 (by omega) a3 a4 a5
theorem bI_01 (b : Bool) : bI b = 0 ∨ bI b = 1 := by
  cases b
  · exact Or.inl rfl
  · exact Or.inr rfl
theorem mX_isWhole (X : Nat × (Nat → Int32)) {h : Hp} {nl nf np : Nat} (hw : WF h nl nf np) (s : SS) (f a r : Nat) (hf : f < nf) (ha : s 32 f = nI a) (hr : s 33 f = nI r) (har : a + r ≤ np) : wp X 109 0 [TM, some (vI (nI f)), none, none] [] (pS h s) (fun r h' => r = some (vI (bI (wholeF s f))) ∧ h' = pS h s) := by
  have h3 := hw.2.2.2.2.2.2.2.2
  have h5 := hw.2.2.2.2.2.2.2.1
  have ew : wholeF s f = allT s a r := by rw [wholeF, ha, hr, nat_nI (by omega), nat_nI (by omega)]
  rw [ew]
  have loop : ∀ d k, k + d = r → wp X 109 4 [TM, some (vI (nI f)), some (vI (bI (allT s a k))), some (vI (nI k))] [] (pS h s) (fun r' h' => r' = some (vI (bI (allT s a r))) ∧ h' = pS h s) := by
    intro d
    induction d with
    | zero =>
      intro k hk
      refine w_pu rfl rfl ?_
      refine w_pu rfl rfl ?_
      refine m_gR 33 hw rfl rfl rfl ?_
      refine w_pu rfl rfl ?_
      refine m_ai 33 f hw rfl rfl (by omega) (by first | rfl | simp only [ix_lits, nI_mul, nI_add]) (by show f < 300; omega) ?_
      refine w_ge rfl (fun c0 => ?_) (fun c0 => ?_)
      · refine w_pu rfl rfl ?_
        refine w_rt rfl rfl (by exact bI_01 _) ?_
        exact ⟨by rw [show k = r by omega], rfl⟩
      · exact absurd (by rw [hr]; exact nI_le (by omega) (by omega)) c0
    | succ d ih =>
      intro k hk
      refine w_pu rfl rfl ?_
      refine w_pu rfl rfl ?_
      refine m_gR 33 hw rfl rfl rfl ?_
      refine w_pu rfl rfl ?_
      refine m_ai 33 f hw rfl rfl (by omega) (by first | rfl | simp only [ix_lits, nI_mul, nI_add, ha]) (by show f < 300; omega) ?_
      refine w_ge rfl (fun c0 => ?_) (fun c0 => ?_)
      · exact absurd (by rw [hr] at c0; exact c0) (nI_ge (by omega) (by omega))
      · refine w_pu rfl rfl ?_
        refine w_eq0 rfl (fun c1 => ?_) (fun c1 => ?_)
        · refine w_cst (v := 0) rfl rfl rfl ?_
          refine w_pu rfl rfl ?_
          refine w_i1 rfl rfl rfl ?_
          refine w_go rfl ?_
          refine w_loc [TM, some (vI (nI f)), some (vI (bI (allT s a (k + 1)))), some (vI (nI (k + 1)))] (by rw [allT, bI_0 c1, Bool.false_and]; rfl) ?_
          exact ih (k + 1) (by omega)
        · refine w_pu rfl rfl ?_
          refine m_gR 23 hw rfl rfl rfl ?_
          refine w_pu rfl rfl ?_
          refine m_gR 32 hw rfl rfl rfl ?_
          refine w_pu rfl rfl ?_
          refine m_ai 32 f hw rfl rfl (by omega) (by first | rfl | simp only [ix_lits, nI_mul, nI_add, ha]) (by show f < 300; omega) ?_
          refine w_pu rfl rfl ?_
          refine w_pu rfl rfl ?_
          refine m_ai 23 (a + k) hw rfl rfl (by omega) (by first | rfl | simp only [ix_lits, nI_mul, nI_add, ha]) (by show (a + k) < 3000; omega) ?_
          refine w_cst (v := 3) rfl rfl rfl ?_
          refine w_ne rfl (fun c2 => ?_) (fun c2 => ?_)
          · refine w_cst (v := 0) rfl rfl rfl ?_
            refine w_pu rfl rfl ?_
            refine w_i1 rfl rfl rfl ?_
            refine w_go rfl ?_
            refine w_loc [TM, some (vI (nI f)), some (vI (bI (allT s a (k + 1)))), some (vI (nI (k + 1)))] (by rw [allT, decide_eq_false c2, Bool.and_false]; rfl) ?_
            exact ih (k + 1) (by omega)
          · refine w_cst (v := 1) rfl rfl rfl ?_
            refine w_go rfl ?_
            refine w_pu rfl rfl ?_
            refine w_i1 rfl rfl rfl ?_
            refine w_go rfl ?_
            refine w_loc [TM, some (vI (nI f)), some (vI (bI (allT s a (k + 1)))), some (vI (nI (k + 1)))] (by rw [allT, bI_1 c1, decide_eq_true c2]; rfl) ?_
            exact ih (k + 1) (by omega)
  refine w_cst (v := 1) rfl rfl rfl ?_
  refine w_pu rfl rfl ?_
  refine w_cst (v := 0) rfl rfl rfl ?_
  refine w_pu rfl rfl ?_
  exact loop r 0 (by omega)
