/-! The reference's frame. -/
/-- the pieces of the new frame, one after another -/
def pcF (f p n : Nat) : Nat → SS → SS
  | 0, s => s
  | k + 1, s => let a := pcF f p n k s
    uS (uS (uS (uS (uS (uS (uS a 0 23 (a 0 23 + 1)) 23 (p + k) 0) 24 (p + k) (nI f)) 25 (p + k) (a 0 40 + nI k * a 0 43)) 26 (p + k) (if nI k < nI n - 1 then a 0 43 else a 0 42 - nI k * a 0 43)) 28 (p + k) (-9)) 29 (p + k) (-1)
/-- its bytes -/
def btF (b : Nat) : Nat → SS → SS
  | 0, s => s
  | k + 1, s => let a := btF b k s
    uS (uS a 36 (b + k) (a 37 k).toInt8.toInt32) 0 40 (a 0 40 + 1)
def frG (s : SS) (f : Nat) (n : Int32) : SS := uS (uS (uS (uS (uS (uS s 0 32 (s 0 32 + 1)) 31 f (s 0 42)) 32 f (s 0 23)) 33 f n) 34 f (-9)) 35 f (s 0 40)
def frH (s : SS) (f p n b t : Nat) : SS := btF b t (pcF f p n n (frG s f (nI n)))
def frameF (s : SS) : Int32 × SS := if s 0 42 = 0 then (-3, refuseF s 3) else
  if s 0 32 = 300 ∨ 3000 < s 0 23 + nI ((nat (s 0 42) + nat (s 0 43) - 1) / nat (s 0 43)) ∨ 100 ≤ s 0 32 - s 0 33 then (-6, refuseF s 6)
  else (s 0 32, uS (frH s (nat (s 0 32)) (nat (s 0 23)) ((nat (s 0 42) + nat (s 0 43) - 1) / nat (s 0 43)) (nat (s 0 40)) (nat (s 0 42))) 0 42 0)
theorem pcF_j (f p n : Nat) (s : SS) {j : Nat} (x : Nat) (hj : ¬ j = 23 ∧ ¬ j = 24 ∧ ¬ j = 25 ∧ ¬ j = 26 ∧ ¬ j = 28 ∧ ¬ j = 29) (h0 : ¬ (j = 0 ∧ x = 23)) : ∀ k, pcF f p n k s j x = s j x
  | 0 => rfl
  | k + 1 => by
    rw [pcF]
    rw [uS_j _ _ _ hj.2.2.2.2.2, uS_j _ _ _ hj.2.2.2.2.1, uS_j _ _ _ hj.2.2.2.1, uS_j _ _ _ hj.2.2.1, uS_j _ _ _ hj.2.1, uS_j _ _ _ hj.1, uS_ne _ _ h0]
    exact pcF_j f p n s x hj h0 k
theorem pcF_23 (f p n : Nat) (s : SS) (hp : s 0 23 = nI p) : ∀ k, pcF f p n k s 0 23 = nI (p + k)
  | 0 => hp
  | k + 1 => by
    rw [pcF]
    rw [uS_j _ _ _ (by decide), uS_j _ _ _ (by decide), uS_j _ _ _ (by decide), uS_j _ _ _ (by decide), uS_j _ _ _ (by decide), uS_j _ _ _ (by decide), uS_eq, pcF_23 f p n s hp k, nI_1]
    rfl
theorem btF_j (b : Nat) (s : SS) {j : Nat} (x : Nat) (hj : ¬ j = 36) (h0 : ¬ (j = 0 ∧ x = 40)) : ∀ k, btF b k s j x = s j x
  | 0 => rfl
  | k + 1 => by
    rw [btF]
    rw [uS_ne _ _ h0, uS_j _ _ _ hj]
    exact btF_j b s x hj h0 k
theorem btF_40 (b : Nat) (s : SS) (hb : s 0 40 = nI b) : ∀ k, btF b k s 0 40 = nI (b + k)
  | 0 => hb
  | k + 1 => by
    rw [btF]
    rw [uS_eq, btF_40 b s hb k, nI_1]
    rfl
theorem mX_frame (X : Nat × (Nat → Int32)) {h : Hp} {nl nf np : Nat} (hw : WF h nl nf np) (s : SS) (f p t c b : Nat) (hf : s 0 32 = nI f) (hf2 : f ≤ 300) (hp : s 0 23 = nI p) (hp2 : p ≤ 3000) (ht : s 0 42 = nI t) (ht2 : t ≤ 4000) (hc : s 0 43 = nI c) (hc2 : c ≤ 250) (hc1 : 1 ≤ c) (hb : s 0 40 = nI b) (hb2 : b ≤ 4000 * f) : wp X 92 0 [TM, none, none, none, none] [] (pS h s) (fun r h' => r = some (vI (frameF s).1) ∧ h' = pS h (frameF s).2) := by
  have et : nat (s 0 42) = t := by rw [ht, nat_nI (by omega)]
  have ec : nat (s 0 43) = c := by rw [hc, nat_nI (by omega)]
  have ef : nat (s 0 32) = f := by rw [hf, nat_nI (by omega)]
  have ep : nat (s 0 23) = p := by rw [hp, nat_nI (by omega)]
  have eb : nat (s 0 40) = b := by rw [hb, nat_nI (by omega)]
  have hn2 : (t + c - 1) / c ≤ t := by
    rcases Nat.eq_zero_or_pos t with z | z
    · rw [z, Nat.div_eq_of_lt (by omega)]
      exact Nat.le_refl 0
    · have h1 : t + c - 1 ≤ t * c := by
        have := Nat.mul_le_mul_left t hc1
        have h2 : (t - 1) * 1 ≤ (t - 1) * c := Nat.mul_le_mul_left (t - 1) hc1
        have h3 : t * c = (t - 1) * c + c := by rw [← Nat.succ_mul]; congr 1; omega
        omega
      have h2 := Nat.div_le_div_right (c := c) h1
      rwa [Nat.mul_div_cancel t hc1] at h2
  generalize hn : (t + c - 1) / c = n at hn2
  have loop2 : ∀ d k (a : SS) (x : Option Vl), k + d = t → btF b k (pcF f p n n (frG s f (nI n))) = a → f < 300 → wp X 92 248 [TM, some (vI (nI n)), some (vI (nI f)), some (vI (nI k)), x] [] (pS h a) (fun r h' => r = some (vI (nI f)) ∧ h' = pS h (uS (frH s f p n b t) 0 42 0)) := by
    intro d
    induction d with
    | zero =>
      intro k a x hk ha hf3
      have e42 : a 0 42 = nI t := by rw [← ha, btF_j _ _ _ (by decide) (by decide), pcF_j _ _ _ _ _ (by decide) (by decide)]; exact ht
      refine w_pu rfl rfl ?_
      refine w_pu rfl rfl ?_
      refine m_g hw rfl rfl ?_
      refine w_ge rfl (fun c0 => ?_) (fun c0 => ?_)
      · refine w_pu rfl rfl ?_
        refine w_cst (v := 0) rfl rfl rfl ?_
        refine m_p hw rfl rfl ?_
        refine w_pu rfl rfl ?_
        refine w_rt rfl rfl trivial ?_
        have e : a = frH s f p n b t := by rw [frH, ← ha, show k = t by omega]
        exact ⟨rfl, by rw [e]⟩
      · exact absurd (by rw [e42]; exact nI_le (by omega) (by omega)) c0
    | succ d ih =>
      intro k a x hk ha hf3
      have e42 : a 0 42 = nI t := by rw [← ha, btF_j _ _ _ (by decide) (by decide), pcF_j _ _ _ _ _ (by decide) (by decide)]; exact ht
      have e40 : a 0 40 = nI (b + k) := by rw [← ha]; exact btF_40 b _ (by rw [pcF_j _ _ _ _ _ (by decide) (by decide)]; exact hb) k
      refine w_pu rfl rfl ?_
      refine w_pu rfl rfl ?_
      refine m_g hw rfl rfl ?_
      refine w_ge rfl (fun c0 => ?_) (fun c0 => ?_)
      · exact absurd (by rw [e42] at c0; exact c0) (nI_ge (by omega) (by omega))
      · refine w_pu rfl rfl ?_
        refine m_gR 36 hw rfl rfl rfl ?_
        refine w_pu rfl rfl ?_
        refine m_g hw rfl rfl ?_
        refine w_pu rfl rfl ?_
        refine m_gR 37 hw rfl rfl rfl ?_
        refine w_pu rfl rfl ?_
        refine m_ab 37 k hw rfl (Or.inl ⟨rfl, rfl⟩) (by omega) (by first | rfl | simp only [ix_lits, nI_mul, nI_add, e40]) (by show k < 4000; omega) ?_
        refine m_sb 36 (b + k) hw rfl rfl (by omega) (by first | rfl | simp only [ix_lits, nI_mul, nI_add, e40]) (by show (b + k) < 1200000; omega) ?_
        refine w_pu rfl rfl ?_
        refine w_pu rfl rfl ?_
        refine m_g hw rfl rfl ?_
        refine w_top (a 0 40) rfl ?_
        refine w_cst (v := 1) rfl rfl rfl ?_
        refine w_pu rfl rfl ?_
        refine m_p hw rfl rfl ?_
        refine w_i1 rfl rfl rfl ?_
        refine w_go rfl ?_
        exact ih (k + 1) _ _ (by omega) (by rw [btF, ha]) hf3
  have loop1 : ∀ d k (a : SS) (x : Option Vl), k + d = n → pcF f p n k (frG s f (nI n)) = a → f < 300 → p + n ≤ 3000 → wp X 92 136 [TM, some (vI (nI n)), some (vI (nI f)), some (vI (nI k)), x] [] (pS h a) (fun r h' => r = some (vI (nI f)) ∧ h' = pS h (uS (frH s f p n b t) 0 42 0)) := by
    intro d
    induction d with
    | zero =>
      intro k a x hk ha hf3 hpn
      refine w_pu rfl rfl ?_
      refine w_pu rfl rfl ?_
      refine w_ge rfl (fun c0 => ?_) (fun c0 => ?_)
      · refine w_cst (v := 0) rfl rfl rfl ?_
        refine w_pu rfl rfl ?_
        exact loop2 t 0 a x (by omega) (by rw [btF, ← ha, show k = n by omega]) hf3
      · exact absurd (nI_le (by omega) (by omega)) c0
    | succ d ih =>
      intro k a x hk ha hf3 hpn
      have e23 : a 0 23 = nI (p + k) := by rw [← ha]; exact pcF_23 f p n (frG s f (nI n)) hp k
      refine w_pu rfl rfl ?_
      refine w_pu rfl rfl ?_
      refine w_ge rfl (fun c0 => ?_) (fun c0 => ?_)
      · exact absurd c0 (nI_ge (by omega) (by omega))
      · refine w_pu rfl rfl ?_
        refine m_g hw rfl rfl ?_
        refine w_pu rfl rfl ?_
        refine w_pu rfl rfl ?_
        refine w_pu rfl rfl ?_
        refine m_g hw rfl rfl ?_
        refine w_cst (v := 1) rfl rfl rfl ?_
        refine w_pu rfl rfl ?_
        refine m_p hw rfl rfl ?_
        refine w_pu rfl rfl ?_
        refine m_gR 23 hw rfl rfl rfl ?_
        refine w_pu rfl rfl ?_
        refine w_cst (v := 0) rfl rfl rfl ?_
        refine m_si 23 (p + k) hw rfl rfl (by omega) (by first | rfl | simp only [ix_lits, nI_mul, nI_add, e23]) (by show (p + k) < 3000; omega) ?_
        refine w_pu rfl rfl ?_
        refine m_gR 24 hw rfl rfl rfl ?_
        refine w_pu rfl rfl ?_
        refine w_pu rfl rfl ?_
        refine m_si 24 (p + k) hw rfl rfl (by omega) (by first | rfl | simp only [ix_lits, nI_mul, nI_add, e23]) (by show (p + k) < 3000; omega) ?_
        refine w_pu rfl rfl ?_
        refine m_gR 25 hw rfl rfl rfl ?_
        refine w_pu rfl rfl ?_
        refine w_pu rfl rfl ?_
        refine m_g hw rfl rfl ?_
        refine w_top (a 0 40) rfl ?_
        refine w_pu rfl rfl ?_
        refine w_pu rfl rfl ?_
        refine m_g hw rfl rfl ?_
        refine w_top (a 0 43) rfl ?_
        refine w_pu rfl rfl ?_
        refine w_pu rfl rfl ?_
        refine m_si 25 (p + k) hw rfl rfl (by omega) (by first | rfl | simp only [ix_lits, nI_mul, nI_add, e23]) (by show (p + k) < 3000; omega) ?_
        refine w_pu rfl rfl ?_
        refine m_gR 26 hw rfl rfl rfl ?_
        refine w_pu rfl rfl ?_
        refine w_pu rfl rfl ?_
        refine w_pu rfl rfl ?_
        refine w_cst (v := 1) rfl rfl rfl ?_
        refine w_pu rfl rfl ?_
        refine w_ge rfl (fun c1 => ?_) (fun c1 => ?_)
        · refine w_pu rfl rfl ?_
          refine m_g hw rfl rfl ?_
          refine w_top (a 0 42) rfl ?_
          refine w_pu rfl rfl ?_
          refine w_pu rfl rfl ?_
          refine m_g hw rfl rfl ?_
          refine w_top (a 0 43) rfl ?_
          refine w_pu rfl rfl ?_
          refine w_pu rfl rfl ?_
          refine m_si 26 (p + k) hw rfl rfl (by omega) (by first | rfl | simp only [ix_lits, nI_mul, nI_add, e23]) (by show (p + k) < 3000; omega) ?_
          refine w_pu rfl rfl ?_
          refine m_gR 28 hw rfl rfl rfl ?_
          refine w_pu rfl rfl ?_
          refine w_cst (v := (-9)) rfl rfl rfl ?_
          refine m_si 28 (p + k) hw rfl rfl (by omega) (by first | rfl | simp only [ix_lits, nI_mul, nI_add, e23]) (by show (p + k) < 3000; omega) ?_
          refine w_pu rfl rfl ?_
          refine m_gR 29 hw rfl rfl rfl ?_
          refine w_pu rfl rfl ?_
          refine w_cst (v := (-1)) rfl rfl rfl ?_
          refine m_si 29 (p + k) hw rfl rfl (by omega) (by first | rfl | simp only [ix_lits, nI_mul, nI_add, e23]) (by show (p + k) < 3000; omega) ?_
          refine w_i1 rfl rfl rfl ?_
          refine w_go rfl ?_
          exact ih (k + 1) _ _ (by omega) (by rw [pcF, ha]; rw [if_neg (Int32.not_lt.mpr c1)]) hf3 hpn
        · refine w_pu rfl rfl ?_
          refine m_g hw rfl rfl ?_
          refine w_top (a 0 43) rfl ?_
          refine w_go rfl ?_
          refine m_si 26 (p + k) hw rfl rfl (by omega) (by first | rfl | simp only [ix_lits, nI_mul, nI_add, e23]) (by show (p + k) < 3000; omega) ?_
          refine w_pu rfl rfl ?_
          refine m_gR 28 hw rfl rfl rfl ?_
          refine w_pu rfl rfl ?_
          refine w_cst (v := (-9)) rfl rfl rfl ?_
          refine m_si 28 (p + k) hw rfl rfl (by omega) (by first | rfl | simp only [ix_lits, nI_mul, nI_add, e23]) (by show (p + k) < 3000; omega) ?_
          refine w_pu rfl rfl ?_
          refine m_gR 29 hw rfl rfl rfl ?_
          refine w_pu rfl rfl ?_
          refine w_cst (v := (-1)) rfl rfl rfl ?_
          refine m_si 29 (p + k) hw rfl rfl (by omega) (by first | rfl | simp only [ix_lits, nI_mul, nI_add, e23]) (by show (p + k) < 3000; omega) ?_
          refine w_i1 rfl rfl rfl ?_
          refine w_go rfl ?_
          exact ih (k + 1) _ _ (by omega) (by rw [pcF, ha]; rw [if_pos (Int32.not_le.mp c1)]) hf3 hpn
  refine w_pu rfl rfl ?_
  refine m_g hw rfl rfl ?_
  refine w_ne0 rfl (fun c0 => ?_) (fun c0 => ?_)
  · refine w_pu rfl rfl ?_
    refine m_g hw rfl rfl ?_
    refine w_pu rfl rfl ?_
    refine m_g hw rfl rfl ?_
    refine w_pu rfl rfl ?_
    refine w_cst (v := 1) rfl rfl rfl ?_
    refine w_pu rfl rfl ?_
    refine w_pu rfl rfl ?_
    refine m_g hw rfl rfl ?_
    refine w_op rfl rfl (by rw [hc]; exact fun z => absurd (by have := congrArg nat z; rwa [nat_nI (by omega), show nat 0 = 0 from rfl] at this : c = 0) (by omega)) ?_
    refine w_top (nI n) (by rw [ht, hc, nI_add, show nI (t + c) - 1 = nI (t + c - 1) from nI_sub (b := 1) (by omega), pk_div (by omega) (by omega) (by omega), hn]) ?_
    refine w_pu rfl rfl ?_
    refine w_pu rfl rfl ?_
    refine m_g hw rfl rfl ?_
    refine w_cst (v := 300) rfl rfl rfl ?_
    refine w_eq rfl (fun c1 => ?_) (fun c1 => ?_)
    · refine w_pu rfl rfl ?_
      refine w_cst (v := (-6)) rfl rfl rfl ?_
      refine w_cgE (vI (-6)) (pS h (refuseF s 6)) rfl rfl (by decide) (Nat.le_of_ble_eq_true rfl) rfl (Nat.le_of_ble_eq_true rfl) (Nat.le_of_ble_eq_true rfl) ⟨wM hw 0 (by omega), rfl⟩ rfl (mX_refuse X hw s (-6) 6 (by decide) (by decide)) ?_
      refine w_rt rfl rfl trivial ?_
      have hH : s 0 32 = 300 ∨ 3000 < s 0 23 + nI n ∨ 100 ≤ s 0 32 - s 0 33 := Or.inl c1
      exact ⟨by rw [frameF, if_neg c0, et, ec, hn, if_pos hH], by rw [frameF, if_neg c0, et, ec, hn, if_pos hH]⟩
    · refine w_pu rfl rfl ?_
      refine m_g hw rfl rfl ?_
      refine w_pu rfl rfl ?_
      refine w_pu rfl rfl ?_
      refine w_cst (v := 3000) rfl rfl rfl ?_
      refine w_gt rfl (fun c2 => ?_) (fun c2 => ?_)
      · refine w_pu rfl rfl ?_
        refine w_cst (v := (-6)) rfl rfl rfl ?_
        refine w_cgE (vI (-6)) (pS h (refuseF s 6)) rfl rfl (by decide) (Nat.le_of_ble_eq_true rfl) rfl (Nat.le_of_ble_eq_true rfl) (Nat.le_of_ble_eq_true rfl) ⟨wM hw 0 (by omega), rfl⟩ rfl (mX_refuse X hw s (-6) 6 (by decide) (by decide)) ?_
        refine w_rt rfl rfl trivial ?_
        have hH : s 0 32 = 300 ∨ 3000 < s 0 23 + nI n ∨ 100 ≤ s 0 32 - s 0 33 := Or.inr (Or.inl c2)
        exact ⟨by rw [frameF, if_neg c0, et, ec, hn, if_pos hH], by rw [frameF, if_neg c0, et, ec, hn, if_pos hH]⟩
      · refine w_pu rfl rfl ?_
        refine m_g hw rfl rfl ?_
        refine w_pu rfl rfl ?_
        refine m_g hw rfl rfl ?_
        refine w_pu rfl rfl ?_
        refine w_cst (v := 100) rfl rfl rfl ?_
        refine w_lt rfl (fun c3 => ?_) (fun c3 => ?_)
        · have hf3 : f < 300 := ne_lt hf hf2 c1
          refine w_pu rfl rfl ?_
          refine m_g hw rfl rfl ?_
          refine w_pu rfl rfl ?_
          refine w_pu rfl rfl ?_
          refine w_pu rfl rfl ?_
          refine m_g hw rfl rfl ?_
          refine w_cst (v := 1) rfl rfl rfl ?_
          refine w_pu rfl rfl ?_
          refine m_p hw rfl rfl ?_
          refine w_pu rfl rfl ?_
          refine m_gR 31 hw rfl rfl rfl ?_
          refine w_pu rfl rfl ?_
          refine w_pu rfl rfl ?_
          refine m_g hw rfl rfl ?_
          refine w_top (s 0 42) rfl ?_
          refine m_si 31 f hw rfl rfl (by omega) (by first | rfl | simp only [ix_lits, nI_mul, nI_add, hf]) (by show f < 300; omega) ?_
          refine w_pu rfl rfl ?_
          refine m_gR 32 hw rfl rfl rfl ?_
          refine w_pu rfl rfl ?_
          refine w_pu rfl rfl ?_
          refine m_g hw rfl rfl ?_
          refine w_top (s 0 23) rfl ?_
          refine m_si 32 f hw rfl rfl (by omega) (by first | rfl | simp only [ix_lits, nI_mul, nI_add, hf]) (by show f < 300; omega) ?_
          refine w_pu rfl rfl ?_
          refine m_gR 33 hw rfl rfl rfl ?_
          refine w_pu rfl rfl ?_
          refine w_pu rfl rfl ?_
          refine m_si 33 f hw rfl rfl (by omega) (by first | rfl | simp only [ix_lits, nI_mul, nI_add, hf]) (by show f < 300; omega) ?_
          refine w_pu rfl rfl ?_
          refine m_gR 34 hw rfl rfl rfl ?_
          refine w_pu rfl rfl ?_
          refine w_cst (v := (-9)) rfl rfl rfl ?_
          refine m_si 34 f hw rfl rfl (by omega) (by first | rfl | simp only [ix_lits, nI_mul, nI_add, hf]) (by show f < 300; omega) ?_
          refine w_pu rfl rfl ?_
          refine m_gR 35 hw rfl rfl rfl ?_
          refine w_pu rfl rfl ?_
          refine w_pu rfl rfl ?_
          refine m_g hw rfl rfl ?_
          refine w_top (s 0 40) rfl ?_
          refine m_si 35 f hw rfl rfl (by omega) (by first | rfl | simp only [ix_lits, nI_mul, nI_add, hf]) (by show f < 300; omega) ?_
          refine w_cst (v := 0) rfl rfl rfl ?_
          refine w_pu rfl rfl ?_
          have hf3 : f < 300 := ne_lt hf hf2 c1
          have hpn : p + n ≤ 3000 := by
            have := Int32.not_lt.mp c2
            rw [hp, nI_add] at this
            exact (nI_leI (b := 3000) (by omega) (by omega)).mp this
          have hH : ¬ (s 0 32 = 300 ∨ 3000 < s 0 23 + nI n ∨ 100 ≤ s 0 32 - s 0 33) := by
            rintro (z | z | z)
            · exact c1 z
            · exact c2 z
            · exact Int32.not_lt.mpr z c3
          rw [frameF, if_neg c0, et, ec, hn, if_neg hH, ef, ep, eb]
          dsimp only
          rw [hf]
          have key := loop1 n 0 (frG s f (nI n)) none (by omega) (by rw [pcF]) hf3 hpn
          rw [frG, hf] at key
          exact key
        · refine w_pu rfl rfl ?_
          refine w_cst (v := (-6)) rfl rfl rfl ?_
          refine w_cgE (vI (-6)) (pS h (refuseF s 6)) rfl rfl (by decide) (Nat.le_of_ble_eq_true rfl) rfl (Nat.le_of_ble_eq_true rfl) (Nat.le_of_ble_eq_true rfl) ⟨wM hw 0 (by omega), rfl⟩ rfl (mX_refuse X hw s (-6) 6 (by decide) (by decide)) ?_
          refine w_rt rfl rfl trivial ?_
          have hH : s 0 32 = 300 ∨ 3000 < s 0 23 + nI n ∨ 100 ≤ s 0 32 - s 0 33 := Or.inr (Or.inr (Int32.not_lt.mp c3))
          exact ⟨by rw [frameF, if_neg c0, et, ec, hn, if_pos hH], by rw [frameF, if_neg c0, et, ec, hn, if_pos hH]⟩
  · refine w_pu rfl rfl ?_
    refine w_cst (v := (-3)) rfl rfl rfl ?_
    refine w_cgE (vI (-3)) (pS h (refuseF s 3)) rfl rfl (by decide) (Nat.le_of_ble_eq_true rfl) rfl (Nat.le_of_ble_eq_true rfl) (Nat.le_of_ble_eq_true rfl) ⟨wM hw 0 (by omega), rfl⟩ rfl (mX_refuse X hw s (-3) 3 (by decide) (by decide)) ?_
    refine w_rt rfl rfl trivial ?_
    exact ⟨by rw [frameF, if_pos c0], by rw [frameF, if_pos c0]⟩
