/-! The reference's tick, as a whole. -/
def FR (s : SS) (nf np : Nat) : Prop := ∀ f, f < nf → ∃ a r, s 32 f = nI a ∧ s 33 f = nI r ∧ a + r ≤ np
def st2 (nl np t : Nat) (s : SS) : SS := layingF nl np (uS s 0 45 (nI t))
def st3 (nl np t : Nat) (s : SS) (l : Nat) : SS := onL (sendingF t) l (st2 nl np t s)
def st4 (nl np t : Nat) (s : SS) (l : Nat) : SS := onL (fun l => cmF np l 201) l (st3 nl np t s nl)
def st5 (nl nf np t : Nat) (s : SS) : SS := gvF (nf + 1) (st4 nl np t s nl)
def st6 (nl nf np t : Nat) (s : SS) (l : Nat) : SS := onL restF l (st5 nl nf np t s)
theorem st2_eq (nl np t : Nat) (s : SS) : st2 nl np t s = layingF nl np (uS s 0 45 (nI t)) := by rw [st2]
theorem st3_0 (nl np t : Nat) (s : SS) : st3 nl np t s 0 = st2 nl np t s := by rw [st3, onL]
theorem st3_s (nl np t : Nat) (s : SS) (l : Nat) : st3 nl np t s (l + 1) = sendingF t l (st3 nl np t s l) := by rw [st3, st3, onL]
theorem st4_0 (nl np t : Nat) (s : SS) : st4 nl np t s 0 = st3 nl np t s nl := by rw [st4, onL]
theorem st4_s (nl np t : Nat) (s : SS) (l : Nat) : st4 nl np t s (l + 1) = cmF np l 201 (st4 nl np t s l) := by rw [st4, st4, onL]
theorem st5_eq (nl nf np t : Nat) (s : SS) : gvF (nf + 1) (st4 nl np t s nl) = st5 nl nf np t s := by rw [st5]
theorem st6_0 (nl nf np t : Nat) (s : SS) : st6 nl nf np t s 0 = st5 nl nf np t s := by rw [st6, onL]
theorem st6_s (nl nf np t : Nat) (s : SS) (l : Nat) : st6 nl nf np t s (l + 1) = restF l (st6 nl nf np t s l) := by rw [st6, st6, onL]
theorem stepF_st (nl nf np t : Nat) (s : SS) : stepF nl nf np t s = st6 nl nf np t s nl := by rw [stepF, st6, st5, st4, st3, st2]
theorem tickF_s (nl nf np t n : Nat) (s : SS) : tickF nl nf np t (n + 1) s = stepF nl nf np (t + n + 1) (tickF nl nf np t n s) := by rw [tickF]
/-- what a tick needs that no index leaves its row -/
def StepOK (nl nf np t : Nat) (s : SS) : Prop := s 0 45 + 1 = nI t ∧ t ≤ 20000 ∧
  (∃ J : SS → Prop, (∀ t, J t → t 0 0 = nI nl ∧ t 0 23 = nI np ∧ (∀ l, l < nl → ∃ q, t 8 l = nI q ∧ q ≤ 40 ∧ ∀ k, k < q → okp np (t 7 (41 * l + k))) ∧ (∀ l, l < nl → ¬ t 2 l = 0)) ∧ (∀ t p l, J t → p < np → (t 23 p = 2 ∨ t 23 p = 0) → blF t p nl = some l → J (layOnF t p l)) ∧ J (uS s 0 45 (nI t))) ∧
  (∀ l, l ≤ nl → st3 nl np t s l 0 0 = nI nl ∧ st3 nl np t s l 0 45 = nI t ∧ (l < nl → (∃ sp, st3 nl np t s l 6 l = nI sp ∧ sp ≤ 20) ∧ LQ (st3 nl np t s l) l np)) ∧
  (∀ l, l ≤ nl → st4 nl np t s l 0 0 = nI nl ∧ st4 nl np t s l 0 23 = nI np ∧ (l < nl → CM (st4 nl np t s l) l np)) ∧
  (∃ g, st4 nl np t s nl 0 33 = nI g ∧ g ≤ nf ∧ st4 nl np t s nl 0 32 = nI nf ∧ FR (st4 nl np t s nl) nf np) ∧
  (∀ l, l ≤ nl → st6 nl nf np t s l 0 0 = nI nl ∧ (l < nl → ∃ q, st6 nl nf np t s l 8 l = nI q ∧ q ≤ 40))
theorem mX_step (X : Nat × (Nat → Int32)) {h : Hp} {nl nf np : Nat} (hw : WF h nl nf np) (s : SS) (t : Nat) (ok : StepOK nl nf np t s) : wp X 110 0 [TM, none] [] (pS h s) (fun r h' => r = none ∧ h' = pS h (stepF nl nf np t s)) := by
  have h4 := hw.2.2.2.2.2.2.1
  have h5 := hw.2.2.2.2.2.2.2.1
  have h3 := hw.2.2.2.2.2.2.2.2
  obtain ⟨ht, ht2, ⟨J, J1, J2, J3⟩, hS, hC, ⟨g, g1, g2, g3, g4⟩, hR⟩ := ok
  have rest : ∀ d l, l + d = nl → wp X 110 106 [TM, some (vI (nI l))] [] (pS h (st6 nl nf np t s l)) (fun r h' => r = none ∧ h' = pS h (stepF nl nf np t s)) := by
    intro d
    induction d with
    | zero =>
      intro l hl
      obtain ⟨r1, -⟩ := hR l (by omega)
      generalize ha : st6 nl nf np t s l = a at r1 ⊢
      refine w_pu rfl rfl ?_
      refine w_pu rfl rfl ?_
      refine m_g hw rfl rfl ?_
      refine w_ge rfl (fun c0 => ?_) (fun c0 => ?_)
      · refine w_rt rfl rfl trivial ?_
        exact ⟨rfl, by rw [stepF_st, ← ha, show l = nl by omega]⟩
      · exact absurd (by rw [r1]; exact nI_le (by omega) (by omega)) c0
    | succ d ih =>
      intro l hl
      obtain ⟨r1, r2⟩ := hR l (by omega)
      obtain ⟨q, q1, q2⟩ := r2 (by omega)
      have ih := ih (l + 1) (by omega)
      rw [st6_s] at ih
      generalize ha : st6 nl nf np t s l = a at r1 q1 ih ⊢
      refine w_pu rfl rfl ?_
      refine w_pu rfl rfl ?_
      refine m_g hw rfl rfl ?_
      refine w_ge rfl (fun c0 => ?_) (fun c0 => ?_)
      · exact absurd (by rw [r1] at c0; exact c0) (nI_ge (by omega) (by omega))
      · refine w_pu rfl rfl ?_
        refine m_gR 4 hw rfl rfl rfl ?_
        refine w_pu rfl rfl ?_
        refine m_ab 4 l hw rfl (Or.inr ⟨rfl, rfl⟩) (by omega) (by first | rfl | simp only [ix_lits, nI_mul, nI_add]) (by show l < 8; omega) ?_
        refine w_eq0 rfl (fun c1 => ?_) (fun c1 => ?_)
        · refine w_i1 rfl rfl rfl ?_
          refine w_go rfl ?_
          rw [restF, if_neg (fun z => z.1 c1)] at ih
          exact ih
        · refine w_pu rfl rfl ?_
          refine m_gR 8 hw rfl rfl rfl ?_
          refine w_pu rfl rfl ?_
          refine m_ai 8 l hw rfl rfl (by omega) (by first | rfl | simp only [ix_lits, nI_mul, nI_add]) (by show l < 8; omega) ?_
          refine w_ne0 rfl (fun c2 => ?_) (fun c2 => ?_)
          · refine w_i1 rfl rfl rfl ?_
            refine w_go rfl ?_
            rw [restF, if_neg (fun z => c2 z.2.1)] at ih
            exact ih
          · refine w_pu rfl rfl ?_
            refine m_gR 15 hw rfl rfl rfl ?_
            refine w_pu rfl rfl ?_
            refine m_ai 15 l hw rfl rfl (by omega) (by first | rfl | simp only [ix_lits, nI_mul, nI_add]) (by show l < 8; omega) ?_
            refine w_ne0 rfl (fun c3 => ?_) (fun c3 => ?_)
            · refine w_i1 rfl rfl rfl ?_
              refine w_go rfl ?_
              rw [restF, if_neg (fun z => c3 z.2.2.1)] at ih
              exact ih
            · refine w_pu rfl rfl ?_
              refine m_gR 17 hw rfl rfl rfl ?_
              refine w_pu rfl rfl ?_
              refine m_ai 17 l hw rfl rfl (by omega) (by first | rfl | simp only [ix_lits, nI_mul, nI_add]) (by show l < 8; omega) ?_
              refine w_pu rfl rfl ?_
              refine m_gR 16 hw rfl rfl rfl ?_
              refine w_pu rfl rfl ?_
              refine m_ai 16 l hw rfl rfl (by omega) (by first | rfl | simp only [ix_lits, nI_mul, nI_add]) (by show l < 8; omega) ?_
              refine w_ge rfl (fun c4 => ?_) (fun c4 => ?_)
              · refine w_i1 rfl rfl rfl ?_
                refine w_go rfl ?_
                rw [restF, if_neg (fun z => Int32.not_lt.mpr c4 z.2.2.2)] at ih
                exact ih
              · refine w_pu rfl rfl ?_
                refine w_cst (v := (-2)) rfl rfl rfl ?_
                refine w_pu rfl rfl ?_
                refine w_cvE (pS h (layEF a l)) rfl rfl (by decide) (Nat.le_of_ble_eq_true rfl) rfl (Nat.le_of_ble_eq_true rfl) (Nat.le_of_ble_eq_true rfl) ⟨wM hw 0 (by omega), rfl⟩ rfl (mX_layE X hw a l q (by omega) q1 q2) ?_
                refine w_i1 rfl rfl rfl ?_
                refine w_go rfl ?_
                rw [restF, if_pos ⟨c1, c2, c3, Int32.not_le.mp c4⟩] at ih
                exact ih
  have give : ∀ n g (s4 : SS) (x : Option Vl), s4 0 33 = nI g → g ≤ nf → nf + 1 ≤ g + n → s4 0 32 = nI nf → FR s4 nf np → gvF n s4 = st5 nl nf np t s → wp X 110 56 [TM, x] [] (pS h s4) (fun r h' => r = none ∧ h' = pS h (stepF nl nf np t s)) := by
    intro n
    induction n with
    | zero => intro g s4 x h1 h2 hn; exact absurd hn (by omega)
    | succ n ih =>
      intro g s4 x e33 hg hn e32 hF e5
      have eg : nat (s4 0 33) = g := by rw [e33, nat_nI (by omega)]
      refine w_pu rfl rfl ?_
      refine m_g hw rfl rfl ?_
      refine w_pu rfl rfl ?_
      refine m_g hw rfl rfl ?_
      refine w_ge rfl (fun c0 => ?_) (fun c0 => ?_)
      · refine w_cst (v := 0) rfl rfl rfl ?_
        refine w_pu rfl rfl ?_
        have e6 : s4 = st6 nl nf np t s 0 := by
          rw [st6_0, ← e5, gvF, if_neg (fun z => Int32.not_lt.mpr c0 z.1)]
        rw [e6]
        exact rest nl 0 (by omega)
      · have hgf : g < nf := by
          rcases Nat.lt_or_ge g nf with z | z
          · exact z
          · exact absurd (by rw [e33, e32]; exact nI_le z (by omega)) c0
        refine w_pu rfl rfl ?_
        refine w_pu rfl rfl ?_
        refine m_g hw rfl rfl ?_
        refine w_top (nI g) e33 ?_
        refine w_cp (vI (bI (wholeF s4 g))) rfl rfl (by decide) (Nat.le_of_ble_eq_true rfl) rfl (Nat.le_of_ble_eq_true rfl) (Nat.le_of_ble_eq_true rfl) ⟨wM hw 0 (by omega), rfl⟩ rfl (mX_isWhole X hw s4 g _ _ hgf (hF g hgf).choose_spec.choose_spec.1 (hF g hgf).choose_spec.choose_spec.2.1 (hF g hgf).choose_spec.choose_spec.2.2) ?_
        refine w_eq0 rfl (fun c1 => ?_) (fun c1 => ?_)
        · refine w_cst (v := 0) rfl rfl rfl ?_
          refine w_pu rfl rfl ?_
          have e6 : s4 = st6 nl nf np t s 0 := by
            rw [st6_0, ← e5, gvF, if_neg (fun z => by have := bI_0 c1; rw [← eg, z.2] at this; cases this)]
          rw [e6]
          exact rest nl 0 (by omega)
        · refine w_pu rfl rfl ?_
          refine m_gR 34 hw rfl rfl rfl ?_
          refine w_pu rfl rfl ?_
          refine m_g hw rfl rfl ?_
          refine w_pu rfl rfl ?_
          refine m_g hw rfl rfl ?_
          refine m_si 34 g hw rfl rfl (by omega) (by first | rfl | simp only [ix_lits, nI_mul, nI_add, e33]) (by show g < 300; omega) ?_
          refine w_pu rfl rfl ?_
          refine w_pu rfl rfl ?_
          refine m_g hw rfl rfl ?_
          refine w_top (s4 0 33) rfl ?_
          refine w_cst (v := 1) rfl rfl rfl ?_
          refine w_pu rfl rfl ?_
          refine m_p hw rfl rfl ?_
          refine w_go rfl ?_
          refine ih (g + 1) _ _ ?_ (by omega) (by omega) e32 hF ?_
          · rw [uS_eq, e33, nI_1]
          · rw [← e5, gvF, if_pos ⟨Int32.not_le.mp c0, by rw [eg]; exact bI_1 c1⟩, eg]
  have com : ∀ d l, l + d = nl → wp X 110 37 [TM, some (vI (nI l))] [] (pS h (st4 nl np t s l)) (fun r h' => r = none ∧ h' = pS h (stepF nl nf np t s)) := by
    intro d
    induction d with
    | zero =>
      intro l hl
      have el : l = nl := by omega
      subst el
      obtain ⟨r1, -⟩ := hC l (by omega)
      have gv := fun x => give (nf + 1) g (st4 l np t s l) x g1 g2 (by omega) g3 g4 (st5_eq l nf np t s)
      generalize ha : st4 l np t s l = a at r1 gv ⊢
      refine w_pu rfl rfl ?_
      refine w_pu rfl rfl ?_
      refine m_g hw rfl rfl ?_
      refine w_ge rfl (fun c0 => ?_) (fun c0 => ?_)
      · exact gv _
      · exact absurd (by rw [r1]; exact Int32.le_refl _) c0
    | succ d ih =>
      intro l hl
      obtain ⟨r1, r2, r3⟩ := hC l (by omega)
      have r3 := r3 (by omega)
      have ih := ih (l + 1) (by omega)
      rw [st4_s] at ih
      generalize ha : st4 nl np t s l = a at r1 r2 r3 ih ⊢
      refine w_pu rfl rfl ?_
      refine w_pu rfl rfl ?_
      refine m_g hw rfl rfl ?_
      refine w_ge rfl (fun c0 => ?_) (fun c0 => ?_)
      · exact absurd (by rw [r1] at c0; exact c0) (nI_ge (by omega) (by omega))
      · refine w_pu rfl rfl ?_
        refine w_pu rfl rfl ?_
        refine w_cvE (pS h (cmF np l 201 a)) rfl rfl (by decide) (Nat.le_of_ble_eq_true rfl) rfl (Nat.le_of_ble_eq_true rfl) (Nat.le_of_ble_eq_true rfl) ⟨wM hw 0 (by omega), rfl⟩ rfl (mX_coming X hw a l (by omega) r2 r3) ?_
        refine w_i1 rfl rfl rfl ?_
        refine w_go rfl ?_
        exact ih
  have snd : ∀ d l, l + d = nl → wp X 110 16 [TM, some (vI (nI l))] [] (pS h (st3 nl np t s l)) (fun r h' => r = none ∧ h' = pS h (stepF nl nf np t s)) := by
    intro d
    induction d with
    | zero =>
      intro l hl
      have el : l = nl := by omega
      subst el
      obtain ⟨r1, -⟩ := hS l (by omega)
      have cm : wp X 110 37 [TM, some (vI (nI 0))] [] (pS h (st3 l np t s l)) (fun r h' => r = none ∧ h' = pS h (stepF l nf np t s)) := by
        rw [← st4_0]
        exact com l 0 (by omega)
      generalize ha : st3 l np t s l = a at r1 cm ⊢
      refine w_pu rfl rfl ?_
      refine w_pu rfl rfl ?_
      refine m_g hw rfl rfl ?_
      refine w_ge rfl (fun c0 => ?_) (fun c0 => ?_)
      · refine w_cst (v := 0) rfl rfl rfl ?_
        refine w_pu rfl rfl ?_
        exact cm
      · exact absurd (by rw [r1]; exact Int32.le_refl _) c0
    | succ d ih =>
      intro l hl
      obtain ⟨r1, r2, r3⟩ := hS l (by omega)
      obtain ⟨⟨sp, r3, r4⟩, r5⟩ := r3 (by omega)
      have ih := ih (l + 1) (by omega)
      rw [st3_s] at ih
      generalize ha : st3 nl np t s l = a at r1 r2 r3 r5 ih ⊢
      refine w_pu rfl rfl ?_
      refine w_pu rfl rfl ?_
      refine m_g hw rfl rfl ?_
      refine w_ge rfl (fun c0 => ?_) (fun c0 => ?_)
      · exact absurd (by rw [r1] at c0; exact c0) (nI_ge (by omega) (by omega))
      · refine w_pu rfl rfl ?_
        refine w_pu rfl rfl ?_
        refine w_cvE (pS h (sendingF t l a)) rfl rfl (by decide) (Nat.le_of_ble_eq_true rfl) rfl (Nat.le_of_ble_eq_true rfl) (Nat.le_of_ble_eq_true rfl) ⟨wM hw 0 (by omega), rfl⟩ rfl (mX_sending X hw a l t sp (by omega) r2 ht2 r3 r4 r5) ?_
        refine w_i1 rfl rfl rfl ?_
        refine w_go rfl ?_
        exact ih
  refine w_pu rfl rfl ?_
  refine w_pu rfl rfl ?_
  refine m_g hw rfl rfl ?_
  refine w_cst (v := 1) rfl rfl rfl ?_
  refine w_pu rfl rfl ?_
  refine m_p hw rfl rfl ?_
  refine w_pu rfl rfl ?_
  refine w_cvE (pS h (st2 nl np t s)) rfl rfl (by decide) (Nat.le_of_ble_eq_true rfl) rfl (Nat.le_of_ble_eq_true rfl) (Nat.le_of_ble_eq_true rfl) ⟨wM hw 0 (by omega), rfl⟩ rfl (by rw [ht, st2_eq]; exact mX_laying X hw J J1 J2 _ J3) ?_
  refine w_cst (v := 0) rfl rfl rfl ?_
  refine w_pu rfl rfl ?_
  rw [← st3_0]
  exact snd nl 0 (by omega)
theorem i32_pos {n : Int32} (h : 0 ≤ n) : ∃ m, m < 2147483648 ∧ n = nI m := by
  have h1 : (0 : Int) ≤ n.toInt := by simpa using Int32.le_iff_toInt_le.mp h
  have h2 := Int32.toInt_lt n
  refine ⟨n.toInt.toNat, by omega, Int32.toInt_inj.mp ?_⟩
  rw [nI_toInt (by omega)]
  omega
theorem mX_tick (X : Nat × (Nat → Int32)) {h : Hp} {nl nf np : Nat} (hw : WF h nl nf np) (s : SS) (n : Int32) (t : Nat) (ht : s 0 45 = nI t) (ht2 : t ≤ 20000) (ok : ∀ m, n = nI m → 1 ≤ m → m ≤ 100 → t + m ≤ 20000 → ∀ k, k < m → StepOK nl nf np (t + k + 1) (tickF nl nf np t k s)) : wp X 111 0 [TM, some (vI n), none, none] [] (pS h s) (fun r h' => ∃ v, r = some (vI v) ∧ ((n < 1 ∧ v = -4 ∧ h' = pS h (refuseF s 4)) ∨ (¬ n < 1 ∧ (100 < n ∨ 20000 < s 0 45 + n) ∧ v = -6 ∧ h' = pS h (refuseF s 6)) ∨ (∃ m, n = nI m ∧ 1 ≤ m ∧ m ≤ 100 ∧ t + m ≤ 20000 ∧ v = tickF nl nf np t m s 0 33 - s 0 33 ∧ h' = pS h (tickF nl nf np t m s)))) := by
  have key : ∀ c1 : 1 ≤ n, ¬ 100 < n → s 0 45 + n ≤ 20000 → ∃ m, n = nI m ∧ 1 ≤ m ∧ m ≤ 100 ∧ t + m ≤ 20000 := by
    intro c1 c2 c3
    obtain ⟨m, hm, rfl⟩ := i32_pos (n := n) (Int32.le_trans (by decide) c1)
    have a1 : 1 ≤ m := (nI_leI (a := 1) (by omega) hm).mp c1
    have a2 : m ≤ 100 := (nI_leI (b := 100) hm (by omega)).mp (Int32.not_lt.mp c2)
    rw [ht, nI_add] at c3
    exact ⟨m, rfl, a1, a2, (nI_leI (b := 20000) (by omega) (by omega)).mp c3⟩
  have loop : ∀ m, n = nI m → 1 ≤ m → m ≤ 100 → t + m ≤ 20000 → ∀ d k, k + d = m → wp X 111 44 [TM, some (vI (nI m)), some (vI (s 0 33)), some (vI (nI k))] [] (pS h (tickF nl nf np t k s)) (fun r h' => r = some (vI (tickF nl nf np t m s 0 33 - s 0 33)) ∧ h' = pS h (tickF nl nf np t m s)) := by
    intro m hm hm1 hm2 hm3 d
    induction d with
    | zero =>
      intro k hk
      rw [show k = m by omega]
      generalize tickF nl nf np t m s = a
      refine w_pu rfl rfl ?_
      refine w_pu rfl rfl ?_
      refine w_ge rfl (fun c0 => ?_) (fun c0 => ?_)
      · refine w_pu rfl rfl ?_
        refine m_g hw rfl rfl ?_
        refine w_pu rfl rfl ?_
        refine w_pu rfl rfl ?_
        refine w_rt rfl rfl trivial ?_
        exact ⟨rfl, rfl⟩
      · exact absurd (Int32.le_refl _) c0
    | succ d ih =>
      intro k hk
      have ih := ih (k + 1) (by omega)
      rw [tickF_s] at ih
      have okk := ok m hm hm1 hm2 hm3 k (by omega)
      generalize tickF nl nf np t k s = a at ih okk ⊢
      refine w_pu rfl rfl ?_
      refine w_pu rfl rfl ?_
      refine w_ge rfl (fun c0 => ?_) (fun c0 => ?_)
      · exact absurd c0 (nI_ge (by omega) (by omega))
      · refine w_pu rfl rfl ?_
        refine w_cvE (pS h (stepF nl nf np (t + k + 1) a)) rfl rfl (by decide) (Nat.le_of_ble_eq_true rfl) rfl (Nat.le_of_ble_eq_true rfl) (Nat.le_of_ble_eq_true rfl) ⟨wM hw 0 (by omega), rfl⟩ rfl (mX_step X hw a (t + k + 1) okk) ?_
        refine w_i1 rfl rfl rfl ?_
        refine w_go rfl ?_
        exact ih
  refine w_pu rfl rfl ?_
  refine w_cst (v := 1) rfl rfl rfl ?_
  refine w_ge rfl (fun c0 => ?_) (fun c0 => ?_)
  · refine w_pu rfl rfl ?_
    refine w_cst (v := 100) rfl rfl rfl ?_
    refine w_gt rfl (fun c1 => ?_) (fun c1 => ?_)
    · refine w_pu rfl rfl ?_
      refine w_cst (v := (-6)) rfl rfl rfl ?_
      refine w_cgE (vI (-6)) (pS h (refuseF s 6)) rfl rfl (by decide) (Nat.le_of_ble_eq_true rfl) rfl (Nat.le_of_ble_eq_true rfl) (Nat.le_of_ble_eq_true rfl) ⟨wM hw 0 (by omega), rfl⟩ rfl (mX_refuse X hw s (-6) 6 (by decide) (by decide)) ?_
      refine w_rt rfl rfl trivial ?_
      exact ⟨_, rfl, Or.inr (Or.inl ⟨Int32.not_lt.mpr c0, Or.inl c1, rfl, rfl⟩)⟩
    · refine w_pu rfl rfl ?_
      refine m_g hw rfl rfl ?_
      refine w_pu rfl rfl ?_
      refine w_pu rfl rfl ?_
      refine w_cst (v := 20000) rfl rfl rfl ?_
      refine w_le rfl (fun c2 => ?_) (fun c2 => ?_)
      · refine w_pu rfl rfl ?_
        refine m_g hw rfl rfl ?_
        refine w_pu rfl rfl ?_
        refine w_cst (v := 0) rfl rfl rfl ?_
        refine w_pu rfl rfl ?_
        obtain ⟨m, rfl, m1, m2, m3⟩ := key c0 c1 c2
        exact w_mono (loop m rfl m1 m2 m3 m 0 (by omega)) (fun r h' q => ⟨_, q.1, Or.inr (Or.inr ⟨m, rfl, m1, m2, m3, rfl, q.2⟩)⟩)
      · refine w_pu rfl rfl ?_
        refine w_cst (v := (-6)) rfl rfl rfl ?_
        refine w_cgE (vI (-6)) (pS h (refuseF s 6)) rfl rfl (by decide) (Nat.le_of_ble_eq_true rfl) rfl (Nat.le_of_ble_eq_true rfl) (Nat.le_of_ble_eq_true rfl) ⟨wM hw 0 (by omega), rfl⟩ rfl (mX_refuse X hw s (-6) 6 (by decide) (by decide)) ?_
        refine w_rt rfl rfl trivial ?_
        exact ⟨_, rfl, Or.inr (Or.inl ⟨Int32.not_lt.mpr c0, Or.inr (Int32.not_le.mp c2), rfl, rfl⟩)⟩
  · refine w_pu rfl rfl ?_
    refine w_cst (v := (-4)) rfl rfl rfl ?_
    refine w_cgE (vI (-4)) (pS h (refuseF s 4)) rfl rfl (by decide) (Nat.le_of_ble_eq_true rfl) rfl (Nat.le_of_ble_eq_true rfl) (Nat.le_of_ble_eq_true rfl) ⟨wM hw 0 (by omega), rfl⟩ rfl (mX_refuse X hw s (-4) 4 (by decide) (by decide)) ?_
    refine w_rt rfl rfl trivial ?_
    exact ⟨_, rfl, Or.inl ⟨Int32.not_le.mp c0, rfl, rfl⟩⟩
