/-! The class's loops. -/
def dI (a b : Int32) : Nat := (b.toInt - a.toInt).toNat
theorem dI_ge {a b : Int32} (h : b ≤ a) : dI a b = 0 := by
  have := Int32.le_iff_toInt_le.mp h
  unfold dI
  omega
theorem i32_succ {a b : Int32} (h : a < b) : (a + 1).toInt = a.toInt + 1 := by
  have h1 := Int32.lt_iff_toInt_lt.mp h
  have h2 := b.toInt_lt
  have h3 := a.le_toInt
  rw [Int32.toInt_add]
  show (a.toInt + 1).bmod (2 ^ 32) = a.toInt + 1
  rw [Int.bmod_eq_of_le (by omega) (by omega)]
theorem dI_lt {a b : Int32} (h : a < b) : dI a b = dI (a + 1) b + 1 := by
  have h1 := Int32.lt_iff_toInt_lt.mp h
  have h2 := i32_succ h
  unfold dI
  omega
theorem dI_0 {a b : Int32} (h : dI a b = 0) : b ≤ a := by
  rw [Int32.le_iff_toInt_le]
  unfold dI at h
  omega
theorem dI_s {a b : Int32} {d : Nat} (h : dI a b = d + 1) : a < b ∧ dI (a + 1) b = d := by
  have h1 : a < b := by
    rw [Int32.lt_iff_toInt_lt]
    unfold dI at h
    omega
  refine ⟨h1, ?_⟩
  have := dI_lt h1
  omega
theorem dI_nI {a b : Nat} (ha : a < 2147483648) (hb : b < 2147483648) : dI (nI a) (nI b) = b - a := by
  unfold dI
  rw [nI_toInt ha, nI_toInt hb]
  omega
/-- what stays as it is: the numbers of lines, frames, pieces; a piece's state is one of four -/
def KC (nl nf np : Nat) (c : CS) : Prop := c 0 0 1 = nI nl ∧ c 0 0 3 = nI nf ∧ c 0 0 8 = nI np ∧ ∀ p, p < np → StOK (c 18 p 5)
theorem KC_u {nl nf np : Nat} {c : CS} (hK : KC nl nf np c) {t k : Nat} (i : Nat) (v : Int32) (h1 : ¬ (t = 0 ∧ (k = 1 ∨ k = 3 ∨ k = 8))) (h2 : t = 18 → k = 5 → StOK v) : KC nl nf np (uC c t i k v) := by
  obtain ⟨a, b, d, e⟩ := hK
  refine ⟨?_, ?_, ?_, fun p hp => ?_⟩
  · rw [uC_ne _ _ (fun z => h1 ⟨z.1.symm, Or.inl z.2.2.symm⟩)]; exact a
  · rw [uC_ne _ _ (fun z => h1 ⟨z.1.symm, Or.inr (Or.inl z.2.2.symm)⟩)]; exact b
  · rw [uC_ne _ _ (fun z => h1 ⟨z.1.symm, Or.inr (Or.inr z.2.2.symm)⟩)]; exact d
  · unfold uC
    split
    · next z => exact h2 z.1.symm z.2.2.symm
    · exact e p hp
theorem KC_t {nl nf np : Nat} {c : CS} (hK : KC nl nf np c) {t : Nat} (i k : Nat) (v : Int32) (h : ¬ t = 0 ∧ ¬ t = 18) : KC nl nf np (uC c t i k v) := KC_u hK i v (fun z => h.1 z.1) (fun z => absurd z h.2)
theorem StOK_nI {z : Nat} (h : z < 4) : StOK (nI z) := ⟨by rw [nat_nI (by omega)], by rw [nat_nI (by omega)]; exact h⟩
theorem x3_add_K {nl nf np : Nat} {c : CS} (hK : KC nl nf np c) (l : Nat) (n : Int32) (z : Int32) : KC nl nf np (x3_addF c l n z) := by
  unfold x3_addF
  exact (KC_t (KC_t (KC_t (KC_t hK _ _ _ (by decide)) _ _ _ (by decide)) _ _ _ (by decide)) _ _ _ (by decide))
theorem x3_takeFromFirst_K {nl nf np : Nat} {c : CS} (hK : KC nl nf np c) (l : Nat) (m : Int32) : KC nl nf np (x3_takeFromFirstF c l m) := by
  unfold x3_takeFromFirstF
  exact (KC_t (KC_t hK _ _ _ (by decide)) _ _ _ (by decide))
theorem x3_dropFirst_K {nl nf np : Nat} {c : CS} (hK : KC nl nf np c) (l : Nat) : KC nl nf np (x3_dropFirstF c l) := by
  unfold x3_dropFirstF
  exact (KC_t (KC_t (KC_t hK _ _ _ (by decide)) _ _ _ (by decide)) _ _ _ (by decide))
theorem x3_clear_K {nl nf np : Nat} {c : CS} (hK : KC nl nf np c) (l : Nat) : KC nl nf np (x3_clearF c l) := by
  unfold x3_clearF
  exact (KC_t (KC_t (KC_t hK _ _ _ (by decide)) _ _ _ (by decide)) _ _ _ (by decide))
theorem x4_add_K {nl nf np : Nat} {c : CS} (hK : KC nl nf np c) (l : Nat) (n : Int32) (k : Int32) (t : Int32) : KC nl nf np (x4_addF c l n k t) := by
  unfold x4_addF
  exact (KC_t (KC_t (KC_t (KC_t (KC_t hK _ _ _ (by decide)) _ _ _ (by decide)) _ _ _ (by decide)) _ _ _ (by decide)) _ _ _ (by decide))
theorem x4_dropFirst_K {nl nf np : Nat} {c : CS} (hK : KC nl nf np c) (l : Nat) : KC nl nf np (x4_dropFirstF c l) := by
  unfold x4_dropFirstF
  exact (KC_t (KC_t hK _ _ _ (by decide)) _ _ _ (by decide))
theorem x4_mark_K {nl nf np : Nat} {c : CS} (hK : KC nl nf np c) (l : Nat) (k : Int32) (m : Int32) : KC nl nf np (x4_markF c l k m) := by
  unfold x4_markF
  exact (KC_t hK _ _ _ (by decide))
theorem x4_clear_K {nl nf np : Nat} {c : CS} (hK : KC nl nf np c) (l : Nat) : KC nl nf np (x4_clearF c l) := by
  unfold x4_clearF
  exact (KC_t hK _ _ _ (by decide))
theorem x1_sendFirst_K {nl nf np : Nat} {c : CS} (hK : KC nl nf np c) (l : Nat) (t : Int32) : KC nl nf np (x1_sendFirstF c l t) := by
  unfold x1_sendFirstF
  exact KC_t (KC_t (x4_add_K (x3_dropFirst_K hK l) l _ _ _) _ _ _ (by decide)) _ _ _ (by decide)
theorem x1_goDown_K {nl nf np : Nat} {c : CS} (hK : KC nl nf np c) (l : Nat) : KC nl nf np (x1_goDownF c l) := by
  unfold x1_goDownF
  exact KC_t (x4_clear_K (x3_clear_K (KC_t hK _ _ _ (by decide)) l) l) _ _ _ (by decide)
theorem x5_become_K {nl nf np : Nat} {c : CS} (hK : KC nl nf np c) (p z : Nat) (hz : z < 4) : KC nl nf np (x5_becomeF c p z) := by
  unfold x5_becomeF
  exact KC_u (KC_t (KC_t hK _ _ _ (by decide)) _ _ _ (by decide)) _ _ (by decide) (fun _ _ => StOK_nI hz)
theorem x2_addLossOn_K {nl nf np : Nat} {c : CS} (hK : KC nl nf np c) (p : Nat) (n : Int32) : KC nl nf np (x2_addLossOnF c p n) := by
  unfold x2_addLossOnF
  split
  · exact hK
  · split
    · exact hK
    · exact KC_t hK _ _ _ (by decide)
theorem x5_layOn_K {nl nf np : Nat} {c : CS} (hK : KC nl nf np c) (l : Nat) (n : Int32) (p : Nat) : KC nl nf np (x5_layOnF c l n p) := by
  unfold x5_layOnF
  exact x3_add_K (KC_u (KC_u (x5_become_K hK p 1 (by decide)) _ _ (by decide) (fun _ z => absurd z (by decide))) _ _ (by decide) (fun _ z => absurd z (by decide))) _ _ _
theorem x5_loseOn_K {nl nf np : Nat} {c : CS} (hK : KC nl nf np c) (l : Nat) (n : Int32) : KC nl nf np (x5_loseOnF c np l n) := by
  unfold x5_loseOnF
  split
  · exact hK
  · split
    · split
      · exact KC_u (x2_addLossOn_K (x5_become_K hK _ 2 (by decide)) _ _) _ _ (by decide) (fun z => absurd z (by decide))
      · exact hK
    · exact hK
theorem x5_arrive_K {nl nf np : Nat} {c : CS} (hK : KC nl nf np c) (n : Int32) : KC nl nf np (x5_arriveF c nf np n) := by
  unfold x5_arriveF
  split
  · exact hK
  · split
    · split
      · exact hK
      · exact x5_become_K hK _ 3 (by decide)
    · split
      · exact hK
      · exact KC_u (x5_become_K hK _ 3 (by decide)) _ _ (by decide) (fun z => absurd z (by decide))
theorem x5_layOn_0 (c : CS) (l : Nat) (n : Int32) (p i k : Nat) : x5_layOnF c l n p 0 i k = c 0 i k := by
  unfold x5_layOnF x3_addF
  rw [uC_t _ _ _ _ _ _ (by decide), uC_t _ _ _ _ _ _ (by decide), uC_t _ _ _ _ _ _ (by decide), uC_t _ _ _ _ _ _ (by decide), uC_t _ _ _ _ _ _ (by decide), uC_t _ _ _ _ _ _ (by decide), x5_become_0]
def sumC (c : CS) (f : Nat) (a : Int32) : Nat → Int32 → Int32 → Int32
  | 0, _, s => s
  | d + 1, v, s => sumC c f a d (v + 1) (s + x0_byteAtF c f (a + v) * (v + 1))
theorem x0_sumOf (X : Nat × (Nat → Int32)) {h : Hp} {nl nf np : Nat} (hw : WF h nl nf np) (c : CS) (f : Nat) (a n : Int32) (hf : f < nf) (hFf : FrOK h c f) : wp X 2 0 [some (vR (some (20, f))), some (vI a), some (vI n), none, none] [] (pX h c) (fun r h' => r = some (vI (sumC c f a (dI 0 n) 0 0)) ∧ h' = pX h c) := by
  have loop : ∀ d v s, dI v n = d → wp X 2 5 [some (vR (some (20, f))), some (vI a), some (vI n), some (vI s), some (vI v)] [] (pX h c) (fun r h' => r = some (vI (sumC c f a d v s)) ∧ h' = pX h c) := by
    intro d
    induction d with
    | zero =>
      intro v s hd
      rw [sumC]
      refine w_pu rfl rfl ?_
      refine w_pu rfl rfl ?_
      refine w_ge rfl (fun c0 => ?_) (fun c0 => ?_)
      · refine w_pu rfl rfl ?_
        refine w_rt rfl rfl trivial ?_
        exact ⟨rfl, rfl⟩
      · exact absurd (dI_0 hd) c0
    | succ d ih =>
      intro v s hd
      obtain ⟨d1, d2⟩ := dI_s hd
      rw [sumC]
      refine w_pu rfl rfl ?_
      refine w_pu rfl rfl ?_
      refine w_ge rfl (fun c0 => ?_) (fun c0 => ?_)
      · exact absurd d1 (Int32.not_lt.mpr c0)
      · refine w_pu rfl rfl ?_
        refine w_pu rfl rfl ?_
        refine w_pu rfl rfl ?_
        refine w_pu rfl rfl ?_
        refine w_pu rfl rfl ?_
        refine w_cp (vI (x0_byteAtF c f (a + v))) rfl rfl (by decide) (Nat.le_of_ble_eq_true rfl) rfl (Nat.le_of_ble_eq_true rfl) (Nat.le_of_ble_eq_true rfl) ⟨wl hw hf, rfl⟩ rfl (x0_byteAt X hw c f (a + v) hf hFf) ?_
        refine w_pu rfl rfl ?_
        refine w_cst (v := 1) rfl rfl rfl ?_
        refine w_pu rfl rfl ?_
        refine w_pu rfl rfl ?_
        refine w_pu rfl rfl ?_
        refine w_pu rfl rfl ?_
        refine w_inc (v := 1) rfl rfl rfl rfl ?_
        refine w_go rfl ?_
        exact ih _ _ d2
  refine w_cst (v := 0) rfl rfl rfl ?_
  refine w_pu rfl rfl ?_
  refine w_cst (v := 0) rfl rfl rfl ?_
  refine w_pu rfl rfl ?_
  exact loop _ 0 0 rfl
def bfC (c : CS) (l : Nat) (t : Int32) : Nat → Int32 → Int32 → Int32
  | 0, _, s => s
  | d + 1, v, s => bfC c l t d (v + 1) (s - c 9 l (nat (t - v &&& 31)))
def bytesC (c : CS) (l : Nat) (t : Int32) : Int32 := if c 7 l 1 = 3 then (if bfC c l t (dI 1 (c 7 l 10)) 1 (c 7 l 9) < c 7 l 2 then bfC c l t (dI 1 (c 7 l 10)) 1 (c 7 l 9) else c 7 l 2) else c 7 l 2
theorem x1_bytesFor (X : Nat × (Nat → Int32)) {h : Hp} {nl nf np : Nat} (hw : WF h nl nf np) (c : CS) (l : Nat) (t : Int32) (hl : l < nl) : wp X 9 0 [some (vR (some (7, l))), some (vI t), none, none] [] (pX h c) (fun r h' => r = some (vI (bytesC c l t)) ∧ h' = pX h c) := by
  have loop : ∀ d v s, dI v (c 7 l 10) = d → wp X 9 20 [some (vR (some (7, l))), some (vI t), some (vI s), some (vI v)] [] (pX h c) (fun r h' => r = some (vI (if bfC c l t d v s < c 7 l 2 then bfC c l t d v s else c 7 l 2)) ∧ h' = pX h c) := by
    intro d
    induction d with
    | zero =>
      intro v s hd
      rw [bfC]
      refine w_pu rfl rfl ?_
      refine w_pu rfl rfl ?_
      refine x_g hw rfl rfl rfl (by decide) hl ?_
      refine w_ge rfl (fun c0 => ?_) (fun c0 => ?_)
      · refine w_pu rfl rfl ?_
        refine x_g hw rfl rfl rfl (by decide) hl ?_
        refine w_pu rfl rfl ?_
        refine w_op rfl rfl (Nat.le_of_ble_eq_true rfl) ?_
        refine w_rt rfl rfl trivial ?_
        exact ⟨rfl, rfl⟩
      · exact absurd (dI_0 hd) c0
    | succ d ih =>
      intro v s hd
      obtain ⟨d1, d2⟩ := dI_s hd
      rw [bfC]
      refine w_pu rfl rfl ?_
      refine w_pu rfl rfl ?_
      refine x_g hw rfl rfl rfl (by decide) hl ?_
      refine w_ge rfl (fun c0 => ?_) (fun c0 => ?_)
      · exact absurd d1 (Int32.not_lt.mpr c0)
      · refine w_pu rfl rfl ?_
        refine w_pu rfl rfl ?_
        refine x_gR 9 hw rfl rfl rfl rfl hl ?_
        refine w_pu rfl rfl ?_
        refine w_pu rfl rfl ?_
        refine w_pu rfl rfl ?_
        refine w_cst (v := 31) rfl rfl rfl ?_
        refine w_pu rfl rfl ?_
        refine x_ai (nat ((t - v) &&& 31)) 32 hw rfl rfl rfl (by decide) hl (msk (m := 31) 5 _ rfl (by decide)).1 (Nat.lt_of_lt_of_le (msk (m := 31) 5 _ rfl (by decide)).2 (by decide)) ?_
        refine w_pu rfl rfl ?_
        refine w_pu rfl rfl ?_
        refine w_inc (v := 1) rfl rfl rfl rfl ?_
        refine w_go rfl ?_
        exact ih _ _ d2
  refine w_pu rfl rfl ?_
  refine x_g hw rfl rfl rfl (by decide) hl ?_
  refine w_cst (v := 3) rfl rfl rfl ?_
  refine w_eq rfl (fun c0 => ?_) (fun c0 => ?_)
  · refine w_pu rfl rfl ?_
    refine x_g hw rfl rfl rfl (by decide) hl ?_
    refine w_pu rfl rfl ?_
    refine w_cst (v := 1) rfl rfl rfl ?_
    refine w_pu rfl rfl ?_
    rw [bytesC, if_pos c0]
    exact loop _ 1 _ rfl
  · refine w_pu rfl rfl ?_
    refine x_g hw rfl rfl rfl (by decide) hl ?_
    refine w_rt rfl rfl trivial ?_
    exact ⟨by rw [bytesC, if_neg c0], rfl⟩
def sbG (c : CS) (l : Nat) (t m : Int32) : CS := uC (x3_takeFromFirstF c l m) 7 l 13 (c 7 l 13 + m)
def minI (x y : Int32) : Int32 := if y < x then y else x
def sbC (l : Nat) (t : Int32) : Nat → Int32 → CS → CS
  | 0, _, c => c
  | d + 1, left, c => if 0 < left then
      (if c 10 l 3 = 0 ∨ 200 ≤ c 13 l 5 then c
       else if c 7 l 1 = 0 ∧ left < x3_restOfFirstF c l then c
       else sbC l t d (left - minI (x3_restOfFirstF c l) left) (if minI (x3_restOfFirstF c l) left = x3_restOfFirstF c l then x1_sendFirstF (sbG c l t (minI (x3_restOfFirstF c l) left)) l t else sbG c l t (minI (x3_restOfFirstF c l) left)))
    else c
theorem x3_take_7 (c : CS) (l : Nat) (m : Int32) (i k : Nat) : x3_takeFromFirstF c l m 7 i k = c 7 i k := by
  unfold x3_takeFromFirstF
  rw [uC_t _ _ _ _ _ _ (by decide), uC_t _ _ _ _ _ _ (by decide)]
theorem x1_sendBytes (X : Nat × (Nat → Int32)) {h : Hp} {nl nf np : Nat} (hw : WF h nl nf np) (c : CS) (l : Nat) (n t : Int32) (hl : l < nl) : wp X 10 0 [some (vR (some (7, l))), some (vI n), some (vI t), none, none, none, none] [] (pX h c) (fun r h' => r = none ∧ h' = pX h (sbC l t 40 n c)) := by
  have loop : ∀ d k n1 (c : CS) (x5 x6 : Option Vl), k + d = 40 → wp X 10 5 [some (vR (some (7, l))), some (vI n), some (vI t), some (vI n1), some (vI (nI k)), x5, x6] [] (pX h c) (fun r h' => r = none ∧ h' = pX h (sbC l t d n1 c)) := by
    intro d
    induction d with
    | zero =>
      intro k n1 c x5 x6 hk
      rw [sbC]
      refine w_pu rfl rfl ?_
      refine w_cst (v := 40) rfl rfl rfl ?_
      refine w_ge rfl (fun c0 => ?_) (fun c0 => ?_)
      · refine w_rt rfl rfl trivial ?_
        exact ⟨rfl, rfl⟩
      · exact absurd (nI_le (a := 40) (by omega) (by omega)) c0
    | succ d ih =>
      intro k n1 c x5 x6 hk
      rw [sbC]
      refine w_pu rfl rfl ?_
      refine w_cst (v := 40) rfl rfl rfl ?_
      refine w_ge rfl (fun c0 => ?_) (fun c0 => ?_)
      · exact absurd c0 (nI_ge (b := 40) (by omega) (by omega))
      · refine w_pu rfl rfl ?_
        refine w_le0 rfl (fun c1 => ?_) (fun c1 => ?_)
        · refine w_rt rfl rfl trivial ?_
          rw [if_neg (Int32.not_lt.mpr c1)]
          exact ⟨rfl, rfl⟩
        · refine w_pu rfl rfl ?_
          refine x_gR 10 hw rfl rfl rfl rfl hl ?_
          refine x_g hw rfl rfl rfl (by decide) hl ?_
          refine w_eq0 rfl (fun c2 => ?_) (fun c2 => ?_)
          · refine w_rt rfl rfl trivial ?_
            rw [if_pos (Int32.not_le.mp c1), if_pos (Or.inl c2)]
            exact ⟨rfl, rfl⟩
          · refine w_pu rfl rfl ?_
            refine x_gR 13 hw rfl rfl rfl rfl hl ?_
            refine x_g hw rfl rfl rfl (by decide) hl ?_
            refine w_cst (v := 200) rfl rfl rfl ?_
            refine w_lt rfl (fun c3 => ?_) (fun c3 => ?_)
            · refine w_pu rfl rfl ?_
              refine x_gR 10 hw rfl rfl rfl rfl hl ?_
              refine w_cp (vI (x3_restOfFirstF c l)) rfl rfl (by decide) (Nat.le_of_ble_eq_true rfl) rfl (Nat.le_of_ble_eq_true rfl) (Nat.le_of_ble_eq_true rfl) ⟨wl hw hl, rfl⟩ rfl (x3_restOfFirst X hw c l hl ) ?_
              refine w_pu rfl rfl ?_
              refine w_pu rfl rfl ?_
              refine x_g hw rfl rfl rfl (by decide) hl ?_
              refine w_ne0 rfl (fun c4 => ?_) (fun c4 => ?_)
              · refine w_pu rfl rfl ?_
                refine w_pu rfl rfl ?_
                refine w_op rfl rfl (Nat.le_of_ble_eq_true rfl) ?_
                refine w_top (minI (x3_restOfFirstF c l) n1) (rfl) ?_
                refine w_pu rfl rfl ?_
                refine w_pu rfl rfl ?_
                refine x_gR 10 hw rfl rfl rfl rfl hl ?_
                refine w_pu rfl rfl ?_
                refine w_cvE (pX h (x3_takeFromFirstF c l (minI (x3_restOfFirstF c l) n1))) rfl rfl (by decide) (Nat.le_of_ble_eq_true rfl) rfl (Nat.le_of_ble_eq_true rfl) (Nat.le_of_ble_eq_true rfl) ⟨wl hw hl, rfl⟩ rfl (x3_takeFromFirst X hw c l (minI (x3_restOfFirstF c l) n1) hl) ?_
                refine w_pu rfl rfl ?_
                refine w_pu rfl rfl ?_
                refine x_g hw rfl rfl rfl (by decide) hl ?_
                refine w_top (c 7 l 13) (x3_take_7 _ _ _ _ _) ?_
                refine w_pu rfl rfl ?_
                refine w_pu rfl rfl ?_
                refine x_p hw rfl rfl rfl (by decide) hl ?_
                refine w_pu rfl rfl ?_
                refine w_pu rfl rfl ?_
                refine w_pu rfl rfl ?_
                refine w_pu rfl rfl ?_
                refine w_pu rfl rfl ?_
                refine w_pu rfl rfl ?_
                refine w_ne rfl (fun c5 => ?_) (fun c5 => ?_)
                · refine w_i1 rfl rfl rfl ?_
                  refine w_go rfl ?_
                  rw [if_pos (Int32.not_le.mp c1), if_neg (fun z => z.elim c2 (fun z => Int32.not_lt.mpr z c3)), if_neg (fun z => c4 z.1), if_neg c5]
                  exact ih (k + 1) _ _ _ _ (by omega)
                · refine w_pu rfl rfl ?_
                  refine w_pu rfl rfl ?_
                  refine w_cvE (pX h (x1_sendFirstF (sbG c l t (minI (x3_restOfFirstF c l) n1)) l t)) rfl rfl (by decide) (Nat.le_of_ble_eq_true rfl) rfl (Nat.le_of_ble_eq_true rfl) (Nat.le_of_ble_eq_true rfl) ⟨wl hw hl, rfl⟩ rfl (x1_sendFirst X hw (sbG c l t (minI (x3_restOfFirstF c l) n1)) l t hl) ?_
                  refine w_i1 rfl rfl rfl ?_
                  refine w_go rfl ?_
                  rw [if_pos (Int32.not_le.mp c1), if_neg (fun z => z.elim c2 (fun z => Int32.not_lt.mpr z c3)), if_neg (fun z => c4 z.1), if_pos c5]
                  exact ih (k + 1) _ _ _ _ (by omega)
              · refine w_pu rfl rfl ?_
                refine w_pu rfl rfl ?_
                refine w_le rfl (fun c6 => ?_) (fun c6 => ?_)
                · refine w_pu rfl rfl ?_
                  refine w_pu rfl rfl ?_
                  refine w_op rfl rfl (Nat.le_of_ble_eq_true rfl) ?_
                  refine w_top (minI (x3_restOfFirstF c l) n1) (rfl) ?_
                  refine w_pu rfl rfl ?_
                  refine w_pu rfl rfl ?_
                  refine x_gR 10 hw rfl rfl rfl rfl hl ?_
                  refine w_pu rfl rfl ?_
                  refine w_cvE (pX h (x3_takeFromFirstF c l (minI (x3_restOfFirstF c l) n1))) rfl rfl (by decide) (Nat.le_of_ble_eq_true rfl) rfl (Nat.le_of_ble_eq_true rfl) (Nat.le_of_ble_eq_true rfl) ⟨wl hw hl, rfl⟩ rfl (x3_takeFromFirst X hw c l (minI (x3_restOfFirstF c l) n1) hl) ?_
                  refine w_pu rfl rfl ?_
                  refine w_pu rfl rfl ?_
                  refine x_g hw rfl rfl rfl (by decide) hl ?_
                  refine w_top (c 7 l 13) (x3_take_7 _ _ _ _ _) ?_
                  refine w_pu rfl rfl ?_
                  refine w_pu rfl rfl ?_
                  refine x_p hw rfl rfl rfl (by decide) hl ?_
                  refine w_pu rfl rfl ?_
                  refine w_pu rfl rfl ?_
                  refine w_pu rfl rfl ?_
                  refine w_pu rfl rfl ?_
                  refine w_pu rfl rfl ?_
                  refine w_pu rfl rfl ?_
                  refine w_ne rfl (fun c7 => ?_) (fun c7 => ?_)
                  · refine w_i1 rfl rfl rfl ?_
                    refine w_go rfl ?_
                    rw [if_pos (Int32.not_le.mp c1), if_neg (fun z => z.elim c2 (fun z => Int32.not_lt.mpr z c3)), if_neg (fun z => Int32.not_lt.mpr c6 z.2), if_neg c7]
                    exact ih (k + 1) _ _ _ _ (by omega)
                  · refine w_pu rfl rfl ?_
                    refine w_pu rfl rfl ?_
                    refine w_cvE (pX h (x1_sendFirstF (sbG c l t (minI (x3_restOfFirstF c l) n1)) l t)) rfl rfl (by decide) (Nat.le_of_ble_eq_true rfl) rfl (Nat.le_of_ble_eq_true rfl) (Nat.le_of_ble_eq_true rfl) ⟨wl hw hl, rfl⟩ rfl (x1_sendFirst X hw (sbG c l t (minI (x3_restOfFirstF c l) n1)) l t hl) ?_
                    refine w_i1 rfl rfl rfl ?_
                    refine w_go rfl ?_
                    rw [if_pos (Int32.not_le.mp c1), if_neg (fun z => z.elim c2 (fun z => Int32.not_lt.mpr z c3)), if_neg (fun z => Int32.not_lt.mpr c6 z.2), if_pos c7]
                    exact ih (k + 1) _ _ _ _ (by omega)
                · refine w_rt rfl rfl trivial ?_
                  rw [if_pos (Int32.not_le.mp c1), if_neg (fun z => z.elim c2 (fun z => Int32.not_lt.mpr z c3)), if_pos ⟨c4, Int32.not_le.mp c6⟩]
                  exact ⟨rfl, rfl⟩
            · refine w_rt rfl rfl trivial ?_
              rw [if_pos (Int32.not_le.mp c1), if_pos (Or.inr (Int32.not_lt.mp c3))]
              exact ⟨rfl, rfl⟩
  refine w_pu rfl rfl ?_
  refine w_pu rfl rfl ?_
  refine w_cst (v := 0) rfl rfl rfl ?_
  refine w_pu rfl rfl ?_
  exact loop 40 0 _ _ _ _ rfl
theorem sbC_K {nl nf np : Nat} (l : Nat) (t : Int32) : ∀ d n (c : CS), KC nl nf np c → KC nl nf np (sbC l t d n c)
  | 0, _, _, hK => hK
  | d + 1, n, c, hK => by
    rw [sbC]
    have hG : ∀ m, KC nl nf np (sbG c l t m) := fun m => KC_u (x3_takeFromFirst_K hK l m) _ _ (by decide) (fun z => absurd z (by decide))
    split
    · split
      · exact hK
      · split
        · exact hK
        · refine sbC_K l t d _ _ ?_
          split
          · exact x1_sendFirst_K (hG _) l t
          · exact hG _
    · exact hK
def saC (c : CS) (l : Nat) (t : Int32) : CS := if c 7 l 8 = 0 then uC c 9 l (nat (t &&& 31)) (c 7 l 13 - c 7 l 13) else uC (sbC l t 40 (bytesC c l t) c) 9 l (nat (t &&& 31)) (sbC l t 40 (bytesC c l t) c 7 l 13 - c 7 l 13)
theorem saC_K {nl nf np : Nat} {c : CS} (hK : KC nl nf np c) (l : Nat) (t : Int32) : KC nl nf np (saC c l t) := by
  unfold saC
  split
  · exact KC_t hK _ _ _ (by decide)
  · exact KC_t (sbC_K l t _ _ _ hK) _ _ _ (by decide)
theorem x1_sendAt (X : Nat × (Nat → Int32)) {h : Hp} {nl nf np : Nat} (hw : WF h nl nf np) (c : CS) (l : Nat) (t : Int32) (hl : l < nl) : wp X 8 0 [some (vR (some (7, l))), some (vI t), none] [] (pX h c) (fun r h' => r = none ∧ h' = pX h (saC c l t)) := by
  refine w_pu rfl rfl ?_
  refine x_g hw rfl rfl rfl (by decide) hl ?_
  refine w_pu rfl rfl ?_
  refine w_pu rfl rfl ?_
  refine x_g hw rfl rfl rfl (by decide) hl ?_
  refine w_eq0 rfl (fun c0 => ?_) (fun c0 => ?_)
  · refine w_pu rfl rfl ?_
    refine x_gR 9 hw rfl rfl rfl rfl hl ?_
    refine w_pu rfl rfl ?_
    refine w_cst (v := 31) rfl rfl rfl ?_
    refine w_pu rfl rfl ?_
    refine w_pu rfl rfl ?_
    refine x_g hw rfl rfl rfl (by decide) hl ?_
    refine w_pu rfl rfl ?_
    refine w_pu rfl rfl ?_
    refine x_si (nat (t &&& 31)) 32 hw rfl rfl rfl (by decide) hl (msk (m := 31) 5 _ rfl (by decide)).1 (Nat.lt_of_lt_of_le (msk (m := 31) 5 _ rfl (by decide)).2 (by decide)) ?_
    refine w_rt rfl rfl trivial ?_
    exact ⟨rfl, by rw [saC, if_pos c0]⟩
  · refine w_pu rfl rfl ?_
    refine w_pu rfl rfl ?_
    refine w_pu rfl rfl ?_
    refine w_cp (vI (bytesC c l t)) rfl rfl (by decide) (Nat.le_of_ble_eq_true rfl) rfl (Nat.le_of_ble_eq_true rfl) (Nat.le_of_ble_eq_true rfl) ⟨wl hw hl, rfl⟩ rfl (x1_bytesFor X hw c l t hl) ?_
    refine w_pu rfl rfl ?_
    refine w_cvE (pX h (sbC l t 40 (bytesC c l t) c)) rfl rfl (by decide) (Nat.le_of_ble_eq_true rfl) rfl (Nat.le_of_ble_eq_true rfl) (Nat.le_of_ble_eq_true rfl) ⟨wl hw hl, rfl⟩ rfl (x1_sendBytes X hw c l (bytesC c l t) t hl) ?_
    refine w_pu rfl rfl ?_
    refine x_gR 9 hw rfl rfl rfl rfl hl ?_
    refine w_pu rfl rfl ?_
    refine w_cst (v := 31) rfl rfl rfl ?_
    refine w_pu rfl rfl ?_
    refine w_pu rfl rfl ?_
    refine x_g hw rfl rfl rfl (by decide) hl ?_
    refine w_pu rfl rfl ?_
    refine w_pu rfl rfl ?_
    refine x_si (nat (t &&& 31)) 32 hw rfl rfl rfl (by decide) hl (msk (m := 31) 5 _ rfl (by decide)).1 (Nat.lt_of_lt_of_le (msk (m := 31) 5 _ rfl (by decide)).2 (by decide)) ?_
    refine w_rt rfl rfl trivial ?_
    exact ⟨rfl, by rw [saC, if_neg c0]⟩
def fwC (c : CS) (l : Nat) (m : Int32) : Nat → Int32 → Int32
  | 0, _ => -1
  | d + 1, v => if x4_marksOfF c l v &&& m = 0 then v else fwC c l m d (v + 1)
theorem x4_firstWithout (X : Nat × (Nat → Int32)) {h : Hp} {nl nf np : Nat} (hw : WF h nl nf np) (c : CS) (l : Nat) (m : Int32) (hl : l < nl) : wp X 31 0 [some (vR (some (13, l))), some (vI m), none] [] (pX h c) (fun r h' => r = some (vI (fwC c l m (dI 0 (c 13 l 5)) 0)) ∧ h' = pX h c) := by
  have loop : ∀ d v, dI v (c 13 l 5) = d → wp X 31 2 [some (vR (some (13, l))), some (vI m), some (vI v)] [] (pX h c) (fun r h' => r = some (vI (fwC c l m d v)) ∧ h' = pX h c) := by
    intro d
    induction d with
    | zero =>
      intro v hd
      rw [fwC]
      refine w_pu rfl rfl ?_
      refine w_pu rfl rfl ?_
      refine x_g hw rfl rfl rfl (by decide) hl ?_
      refine w_ge rfl (fun c0 => ?_) (fun c0 => ?_)
      · refine w_cst (v := (-1)) rfl rfl rfl ?_
        refine w_rt rfl rfl trivial ?_
        exact ⟨rfl, rfl⟩
      · exact absurd (dI_0 hd) c0
    | succ d ih =>
      intro v hd
      obtain ⟨d1, d2⟩ := dI_s hd
      rw [fwC]
      refine w_pu rfl rfl ?_
      refine w_pu rfl rfl ?_
      refine x_g hw rfl rfl rfl (by decide) hl ?_
      refine w_ge rfl (fun c0 => ?_) (fun c0 => ?_)
      · exact absurd d1 (Int32.not_lt.mpr c0)
      · refine w_pu rfl rfl ?_
        refine w_pu rfl rfl ?_
        refine w_cp (vI (x4_marksOfF c l v)) rfl rfl (by decide) (Nat.le_of_ble_eq_true rfl) rfl (Nat.le_of_ble_eq_true rfl) (Nat.le_of_ble_eq_true rfl) ⟨wl hw hl, rfl⟩ rfl (x4_marksOf X hw c l v hl ) ?_
        refine w_pu rfl rfl ?_
        refine w_pu rfl rfl ?_
        refine w_ne0 rfl (fun c1 => ?_) (fun c1 => ?_)
        · refine w_inc (v := 1) rfl rfl rfl rfl ?_
          refine w_go rfl ?_
          rw [if_neg c1]
          exact ih _ d2
        · refine w_pu rfl rfl ?_
          refine w_rt rfl rfl trivial ?_
          exact ⟨by rw [if_pos c1], rfl⟩
  refine w_cst (v := 0) rfl rfl rfl ?_
  refine w_pu rfl rfl ?_
  exact loop _ 0 rfl
