/-! The class's small methods (written by a program). -/
theorem w_topR {X : Nat × (Nat → Int32)} {y pc : Nat} {L : Ls} {st : St} {h : Hp} {Q : Option Vl → Hp → Prop} {x : Option Nm} (v : Option Nm) (hv : x = v) (k : wp X y pc L (vR v :: st) h Q) : wp X y pc L (vR x :: st) h Q := by
  subst hv
  exact k
theorem rng {n : Int32} {m : Nat} (h0 : ¬ n < 0) (h1 : n < nI m) (hm : m < 2147483648) : n = nI (nat n) ∧ nat n < m := by
  obtain ⟨k, hk, rfl⟩ := i32_pos (Int32.not_lt.mp h0)
  rw [nat_nI hk]
  refine ⟨rfl, ?_⟩
  rcases Nat.lt_or_ge k m with z | z
  · exact z
  · exact absurd h1 (Int32.not_lt.mpr (nI_le z (by omega)))
def lnR (t : Nat) (o : Option Nat) : Option Nm := match o with
  | none => none
  | some k => some (t, k)
theorem lnO_neg {n : Nat} {v : Int32} (h : v < 0) : lnO n v = none := if_neg (fun z => Int32.not_lt.mpr z.1 h)
theorem lnO_big {n : Nat} {v : Int32} (hn : n < 2147483648) (h : nI n ≤ v) : lnO n v = none := by
  obtain ⟨k, hk, rfl⟩ := i32_pos (Int32.le_trans (nI_pos' hn) h)
  refine if_neg (fun z => ?_)
  rw [nat_nI hk] at z
  have := (nI_leI hn hk).mp h
  exact absurd z.2 (by omega)
theorem lnO_in {n : Nat} {v : Int32} (hn : n < 2147483648) (h0 : ¬ v < 0) (h : v < nI n) : lnO n v = some (nat v) ∧ v = nI (nat v) ∧ nat v < n := by
  obtain ⟨e, hk⟩ := rng h0 h hn
  exact ⟨if_pos ⟨Int32.not_lt.mp h0, hk⟩, e, hk⟩
theorem x5_lineAt (X : Nat × (Nat → Int32)) {h : Hp} {nl nf np : Nat} (hw : WF h nl nf np) (c : CS) (hn : c 0 0 1 = nI nl) (v : Int32) : wp X 81 0 [some (vR (some (0, 0))), some (vI v)] [] (pX h c) (fun r h' => r = some (vR (lnR 7 (lnO nl v))) ∧ h' = pX h c) := by
  have h4 := hw.2.2.2.2.2.2.1
  have h5 := hw.2.2.2.2.2.2.2.1
  have h3 := hw.2.2.2.2.2.2.2.2
  refine w_pu rfl rfl ?_
  refine w_lt0 rfl (fun c0 => ?_) (fun c0 => ?_)
  · refine w_pu rfl rfl ?_
    refine w_go rfl ?_
    refine w_rt rfl rfl trivial ?_
    exact ⟨by rw [lnO_neg c0]; rfl, rfl⟩
  · refine w_pu rfl rfl ?_
    refine w_pu rfl rfl ?_
    refine x_g hw rfl rfl rfl (by decide) Nat.one_pos ?_
    refine w_lt rfl (fun c1 => ?_) (fun c1 => ?_)
    · obtain ⟨e1, e2, e3⟩ := lnO_in (n := nl) (v := v) (by omega) c0 (by rw [← hn]; exact c1)
      refine w_pu rfl rfl ?_
      refine x_gR 1 hw rfl rfl rfl rfl Nat.one_pos ?_
      refine w_pu rfl rfl ?_
      refine x_aR (nat v) 7 8 hw rfl rfl rfl (by decide) rfl Nat.one_pos e2 (by show (nat v) < 8; omega) (hw.2.2.2.1 _ e3) ?_
      refine w_rt rfl rfl trivial ?_
      exact ⟨by rw [e1]; rfl, rfl⟩
    · refine w_pu rfl rfl ?_
      refine w_go rfl ?_
      refine w_rt rfl rfl trivial ?_
      exact ⟨by rw [lnO_big (by omega) (by rw [← hn]; exact Int32.not_lt.mp c1)]; rfl, rfl⟩
theorem x5_frameAt (X : Nat × (Nat → Int32)) {h : Hp} {nl nf np : Nat} (hw : WF h nl nf np) (c : CS) (hn : c 0 0 3 = nI nf) (v : Int32) : wp X 82 0 [some (vR (some (0, 0))), some (vI v)] [] (pX h c) (fun r h' => r = some (vR (lnR 20 (lnO nf v))) ∧ h' = pX h c) := by
  have h4 := hw.2.2.2.2.2.2.1
  have h5 := hw.2.2.2.2.2.2.2.1
  have h3 := hw.2.2.2.2.2.2.2.2
  refine w_pu rfl rfl ?_
  refine w_lt0 rfl (fun c0 => ?_) (fun c0 => ?_)
  · refine w_pu rfl rfl ?_
    refine w_go rfl ?_
    refine w_rt rfl rfl trivial ?_
    exact ⟨by rw [lnO_neg c0]; rfl, rfl⟩
  · refine w_pu rfl rfl ?_
    refine w_pu rfl rfl ?_
    refine x_g hw rfl rfl rfl (by decide) Nat.one_pos ?_
    refine w_lt rfl (fun c1 => ?_) (fun c1 => ?_)
    · obtain ⟨e1, e2, e3⟩ := lnO_in (n := nf) (v := v) (by omega) c0 (by rw [← hn]; exact c1)
      refine w_pu rfl rfl ?_
      refine x_gR 2 hw rfl rfl rfl rfl Nat.one_pos ?_
      refine w_pu rfl rfl ?_
      refine x_aR (nat v) 20 300 hw rfl rfl rfl (by decide) rfl Nat.one_pos e2 (by show (nat v) < 300; omega) (hw.2.2.2.2.1 _ e3) ?_
      refine w_rt rfl rfl trivial ?_
      exact ⟨by rw [e1]; rfl, rfl⟩
    · refine w_pu rfl rfl ?_
      refine w_go rfl ?_
      refine w_rt rfl rfl trivial ?_
      exact ⟨by rw [lnO_big (by omega) (by rw [← hn]; exact Int32.not_lt.mp c1)]; rfl, rfl⟩
theorem x5_pieceAt (X : Nat × (Nat → Int32)) {h : Hp} {nl nf np : Nat} (hw : WF h nl nf np) (c : CS) (hn : c 0 0 8 = nI np) (v : Int32) : wp X 83 0 [some (vR (some (0, 0))), some (vI v)] [] (pX h c) (fun r h' => r = some (vR (lnR 18 (lnO np v))) ∧ h' = pX h c) := by
  have h4 := hw.2.2.2.2.2.2.1
  have h5 := hw.2.2.2.2.2.2.2.1
  have h3 := hw.2.2.2.2.2.2.2.2
  refine w_pu rfl rfl ?_
  refine w_lt0 rfl (fun c0 => ?_) (fun c0 => ?_)
  · refine w_pu rfl rfl ?_
    refine w_go rfl ?_
    refine w_rt rfl rfl trivial ?_
    exact ⟨by rw [lnO_neg c0]; rfl, rfl⟩
  · refine w_pu rfl rfl ?_
    refine w_pu rfl rfl ?_
    refine x_g hw rfl rfl rfl (by decide) Nat.one_pos ?_
    refine w_lt rfl (fun c1 => ?_) (fun c1 => ?_)
    · obtain ⟨e1, e2, e3⟩ := lnO_in (n := np) (v := v) (by omega) c0 (by rw [← hn]; exact c1)
      refine w_pu rfl rfl ?_
      refine x_gR 3 hw rfl rfl rfl rfl Nat.one_pos ?_
      refine w_pu rfl rfl ?_
      refine x_aR (nat v) 18 3000 hw rfl rfl rfl (by decide) rfl Nat.one_pos e2 (by show (nat v) < 3000; omega) (hw.2.2.2.2.2.1 _ e3) ?_
      refine w_rt rfl rfl trivial ?_
      exact ⟨by rw [e1]; rfl, rfl⟩
    · refine w_pu rfl rfl ?_
      refine w_go rfl ?_
      refine w_rt rfl rfl trivial ?_
      exact ⟨by rw [lnO_big (by omega) (by rw [← hn]; exact Int32.not_lt.mp c1)]; rfl, rfl⟩
def x3_numberOfF (c : CS) (l : Nat) (k : Int32) : Int32 := c 11 l (nat (((c 10 l 2) + k) &&& 63))
theorem x3_numberOf (X : Nat × (Nat → Int32)) {h : Hp} {nl nf np : Nat} (hw : WF h nl nf np) (c : CS) (l : Nat) (k : Int32) (hl : l < nl)  : wp X 17 0 [some (vR (some (10, l))), some (vI k)] [] (pX h c) (fun r h' => r = some (vI (x3_numberOfF c l k)) ∧ h' = pX h c) := by
  have h4 := hw.2.2.2.2.2.2.1
  have h5 := hw.2.2.2.2.2.2.2.1
  have h3 := hw.2.2.2.2.2.2.2.2
  refine w_pu rfl rfl ?_
  refine x_gR 11 hw rfl rfl rfl rfl hl ?_
  refine w_pu rfl rfl ?_
  refine x_g hw rfl rfl rfl (by decide) hl ?_
  refine w_pu rfl rfl ?_
  refine w_pu rfl rfl ?_
  refine w_cst (v := 63) rfl rfl rfl ?_
  refine w_pu rfl rfl ?_
  refine x_ai (nat (((c 10 l 2) + k) &&& 63)) 64 hw rfl rfl rfl (by decide) hl (msk (m := 63) 6 _ rfl (by decide)).1 (Nat.lt_of_lt_of_le (msk (m := 63) 6 _ rfl (by decide)).2 (by decide)) ?_
  refine w_rt rfl rfl trivial ?_
  exact ⟨by rw [x3_numberOfF], rfl⟩
def x3_addF (c : CS) (l : Nat) (n : Int32) (z : Int32) : CS := (uC (uC (uC (uC c 11 l (nat (((c 10 l 2) + (c 10 l 3)) &&& 63)) n) 12 l (nat (((c 10 l 2) + (c 10 l 3)) &&& 63)) z) 10 l 3 ((c 10 l 3) + 1)) 10 l 4 ((c 10 l 4) + z))
theorem x3_add (X : Nat × (Nat → Int32)) {h : Hp} {nl nf np : Nat} (hw : WF h nl nf np) (c : CS) (l : Nat) (n : Int32) (z : Int32) (hl : l < nl)  : wp X 18 0 [some (vR (some (10, l))), some (vI n), some (vI z), none] [] (pX h c) (fun r h' => r = none ∧ h' = pX h (x3_addF c l n z)) := by
  have h4 := hw.2.2.2.2.2.2.1
  have h5 := hw.2.2.2.2.2.2.2.1
  have h3 := hw.2.2.2.2.2.2.2.2
  refine w_pu rfl rfl ?_
  refine x_g hw rfl rfl rfl (by decide) hl ?_
  refine w_pu rfl rfl ?_
  refine x_g hw rfl rfl rfl (by decide) hl ?_
  refine w_pu rfl rfl ?_
  refine w_cst (v := 63) rfl rfl rfl ?_
  refine w_pu rfl rfl ?_
  refine w_pu rfl rfl ?_
  refine w_pu rfl rfl ?_
  refine x_gR 11 hw rfl rfl rfl rfl hl ?_
  refine w_pu rfl rfl ?_
  refine w_pu rfl rfl ?_
  refine x_si (nat (((c 10 l 2) + (c 10 l 3)) &&& 63)) 64 hw rfl rfl rfl (by decide) hl (msk (m := 63) 6 _ rfl (by decide)).1 (Nat.lt_of_lt_of_le (msk (m := 63) 6 _ rfl (by decide)).2 (by decide)) ?_
  refine w_pu rfl rfl ?_
  refine x_gR 12 hw rfl rfl rfl rfl hl ?_
  refine w_pu rfl rfl ?_
  refine w_pu rfl rfl ?_
  refine x_si (nat (((c 10 l 2) + (c 10 l 3)) &&& 63)) 64 hw rfl rfl rfl (by decide) hl (msk (m := 63) 6 _ rfl (by decide)).1 (Nat.lt_of_lt_of_le (msk (m := 63) 6 _ rfl (by decide)).2 (by decide)) ?_
  refine w_pu rfl rfl ?_
  refine w_pu rfl rfl ?_
  refine x_g hw rfl rfl rfl (by decide) hl ?_
  refine w_top (c 10 l 3) (by rw [uC_t _ _ _ _ _ _ (by decide), uC_t _ _ _ _ _ _ (by decide)]) ?_
  refine w_cst (v := 1) rfl rfl rfl ?_
  refine w_pu rfl rfl ?_
  refine x_p hw rfl rfl rfl (by decide) hl ?_
  refine w_pu rfl rfl ?_
  refine w_pu rfl rfl ?_
  refine x_g hw rfl rfl rfl (by decide) hl ?_
  refine w_top (c 10 l 4) (by rw [uC_k _ _ _ _ _ _ (by decide), uC_t _ _ _ _ _ _ (by decide), uC_t _ _ _ _ _ _ (by decide)]) ?_
  refine w_pu rfl rfl ?_
  refine w_pu rfl rfl ?_
  refine x_p hw rfl rfl rfl (by decide) hl ?_
  refine w_rt rfl rfl trivial ?_
  exact ⟨rfl, by rw [x3_addF]⟩
def x3_restOfFirstF (c : CS) (l : Nat) : Int32 := ((c 12 l (nat ((c 10 l 2) &&& 63))) - (c 10 l 5))
theorem x3_restOfFirst (X : Nat × (Nat → Int32)) {h : Hp} {nl nf np : Nat} (hw : WF h nl nf np) (c : CS) (l : Nat) (hl : l < nl)  : wp X 19 0 [some (vR (some (10, l)))] [] (pX h c) (fun r h' => r = some (vI (x3_restOfFirstF c l)) ∧ h' = pX h c) := by
  have h4 := hw.2.2.2.2.2.2.1
  have h5 := hw.2.2.2.2.2.2.2.1
  have h3 := hw.2.2.2.2.2.2.2.2
  refine w_pu rfl rfl ?_
  refine x_gR 12 hw rfl rfl rfl rfl hl ?_
  refine w_pu rfl rfl ?_
  refine x_g hw rfl rfl rfl (by decide) hl ?_
  refine w_cst (v := 63) rfl rfl rfl ?_
  refine w_pu rfl rfl ?_
  refine x_ai (nat ((c 10 l 2) &&& 63)) 64 hw rfl rfl rfl (by decide) hl (msk (m := 63) 6 _ rfl (by decide)).1 (Nat.lt_of_lt_of_le (msk (m := 63) 6 _ rfl (by decide)).2 (by decide)) ?_
  refine w_pu rfl rfl ?_
  refine x_g hw rfl rfl rfl (by decide) hl ?_
  refine w_pu rfl rfl ?_
  refine w_rt rfl rfl trivial ?_
  exact ⟨by rw [x3_restOfFirstF], rfl⟩
def x3_takeFromFirstF (c : CS) (l : Nat) (m : Int32) : CS := (uC (uC c 10 l 5 ((c 10 l 5) + m)) 10 l 4 ((c 10 l 4) - m))
theorem x3_takeFromFirst (X : Nat × (Nat → Int32)) {h : Hp} {nl nf np : Nat} (hw : WF h nl nf np) (c : CS) (l : Nat) (m : Int32) (hl : l < nl)  : wp X 20 0 [some (vR (some (10, l))), some (vI m)] [] (pX h c) (fun r h' => r = none ∧ h' = pX h (x3_takeFromFirstF c l m)) := by
  have h4 := hw.2.2.2.2.2.2.1
  have h5 := hw.2.2.2.2.2.2.2.1
  have h3 := hw.2.2.2.2.2.2.2.2
  refine w_pu rfl rfl ?_
  refine w_pu rfl rfl ?_
  refine x_g hw rfl rfl rfl (by decide) hl ?_
  refine w_pu rfl rfl ?_
  refine w_pu rfl rfl ?_
  refine x_p hw rfl rfl rfl (by decide) hl ?_
  refine w_pu rfl rfl ?_
  refine w_pu rfl rfl ?_
  refine x_g hw rfl rfl rfl (by decide) hl ?_
  refine w_top (c 10 l 4) (by rw [uC_k _ _ _ _ _ _ (by decide)]) ?_
  refine w_pu rfl rfl ?_
  refine w_pu rfl rfl ?_
  refine x_p hw rfl rfl rfl (by decide) hl ?_
  refine w_rt rfl rfl trivial ?_
  exact ⟨rfl, by rw [x3_takeFromFirstF]⟩
def x3_dropFirstF (c : CS) (l : Nat) : CS := (uC (uC (uC c 10 l 2 (((c 10 l 2) + 1) &&& 63)) 10 l 3 ((c 10 l 3) - 1)) 10 l 5 0)
theorem x3_dropFirst (X : Nat × (Nat → Int32)) {h : Hp} {nl nf np : Nat} (hw : WF h nl nf np) (c : CS) (l : Nat) (hl : l < nl)  : wp X 21 0 [some (vR (some (10, l)))] [] (pX h c) (fun r h' => r = none ∧ h' = pX h (x3_dropFirstF c l)) := by
  have h4 := hw.2.2.2.2.2.2.1
  have h5 := hw.2.2.2.2.2.2.2.1
  have h3 := hw.2.2.2.2.2.2.2.2
  refine w_pu rfl rfl ?_
  refine w_pu rfl rfl ?_
  refine x_g hw rfl rfl rfl (by decide) hl ?_
  refine w_cst (v := 1) rfl rfl rfl ?_
  refine w_pu rfl rfl ?_
  refine w_cst (v := 63) rfl rfl rfl ?_
  refine w_pu rfl rfl ?_
  refine x_p hw rfl rfl rfl (by decide) hl ?_
  refine w_pu rfl rfl ?_
  refine w_pu rfl rfl ?_
  refine x_g hw rfl rfl rfl (by decide) hl ?_
  refine w_top (c 10 l 3) (by rw [uC_k _ _ _ _ _ _ (by decide)]) ?_
  refine w_cst (v := 1) rfl rfl rfl ?_
  refine w_pu rfl rfl ?_
  refine x_p hw rfl rfl rfl (by decide) hl ?_
  refine w_pu rfl rfl ?_
  refine w_cst (v := 0) rfl rfl rfl ?_
  refine x_p hw rfl rfl rfl (by decide) hl ?_
  refine w_rt rfl rfl trivial ?_
  exact ⟨rfl, by rw [x3_dropFirstF]⟩
def x3_clearF (c : CS) (l : Nat) : CS := (uC (uC (uC c 10 l 3 0) 10 l 4 0) 10 l 5 0)
theorem x3_clear (X : Nat × (Nat → Int32)) {h : Hp} {nl nf np : Nat} (hw : WF h nl nf np) (c : CS) (l : Nat) (hl : l < nl)  : wp X 22 0 [some (vR (some (10, l)))] [] (pX h c) (fun r h' => r = none ∧ h' = pX h (x3_clearF c l)) := by
  have h4 := hw.2.2.2.2.2.2.1
  have h5 := hw.2.2.2.2.2.2.2.1
  have h3 := hw.2.2.2.2.2.2.2.2
  refine w_pu rfl rfl ?_
  refine w_cst (v := 0) rfl rfl rfl ?_
  refine x_p hw rfl rfl rfl (by decide) hl ?_
  refine w_pu rfl rfl ?_
  refine w_cst (v := 0) rfl rfl rfl ?_
  refine x_p hw rfl rfl rfl (by decide) hl ?_
  refine w_pu rfl rfl ?_
  refine w_cst (v := 0) rfl rfl rfl ?_
  refine x_p hw rfl rfl rfl (by decide) hl ?_
  refine w_rt rfl rfl trivial ?_
  exact ⟨rfl, by rw [x3_clearF]⟩
def x4_numberOfF (c : CS) (l : Nat) (k : Int32) : Int32 := c 14 l (nat (((c 13 l 4) + k) &&& 255))
theorem x4_numberOf (X : Nat × (Nat → Int32)) {h : Hp} {nl nf np : Nat} (hw : WF h nl nf np) (c : CS) (l : Nat) (k : Int32) (hl : l < nl)  : wp X 24 0 [some (vR (some (13, l))), some (vI k)] [] (pX h c) (fun r h' => r = some (vI (x4_numberOfF c l k)) ∧ h' = pX h c) := by
  have h4 := hw.2.2.2.2.2.2.1
  have h5 := hw.2.2.2.2.2.2.2.1
  have h3 := hw.2.2.2.2.2.2.2.2
  refine w_pu rfl rfl ?_
  refine x_gR 14 hw rfl rfl rfl rfl hl ?_
  refine w_pu rfl rfl ?_
  refine x_g hw rfl rfl rfl (by decide) hl ?_
  refine w_pu rfl rfl ?_
  refine w_pu rfl rfl ?_
  refine w_cst (v := 255) rfl rfl rfl ?_
  refine w_pu rfl rfl ?_
  refine x_ai (nat (((c 13 l 4) + k) &&& 255)) 256 hw rfl rfl rfl (by decide) hl (msk (m := 255) 8 _ rfl (by decide)).1 (Nat.lt_of_lt_of_le (msk (m := 255) 8 _ rfl (by decide)).2 (by decide)) ?_
  refine w_rt rfl rfl trivial ?_
  exact ⟨by rw [x4_numberOfF], rfl⟩
def x4_countOfF (c : CS) (l : Nat) (k : Int32) : Int32 := c 15 l (nat (((c 13 l 4) + k) &&& 255))
theorem x4_countOf (X : Nat × (Nat → Int32)) {h : Hp} {nl nf np : Nat} (hw : WF h nl nf np) (c : CS) (l : Nat) (k : Int32) (hl : l < nl)  : wp X 25 0 [some (vR (some (13, l))), some (vI k)] [] (pX h c) (fun r h' => r = some (vI (x4_countOfF c l k)) ∧ h' = pX h c) := by
  have h4 := hw.2.2.2.2.2.2.1
  have h5 := hw.2.2.2.2.2.2.2.1
  have h3 := hw.2.2.2.2.2.2.2.2
  refine w_pu rfl rfl ?_
  refine x_gR 15 hw rfl rfl rfl rfl hl ?_
  refine w_pu rfl rfl ?_
  refine x_g hw rfl rfl rfl (by decide) hl ?_
  refine w_pu rfl rfl ?_
  refine w_pu rfl rfl ?_
  refine w_cst (v := 255) rfl rfl rfl ?_
  refine w_pu rfl rfl ?_
  refine x_ai (nat (((c 13 l 4) + k) &&& 255)) 256 hw rfl rfl rfl (by decide) hl (msk (m := 255) 8 _ rfl (by decide)).1 (Nat.lt_of_lt_of_le (msk (m := 255) 8 _ rfl (by decide)).2 (by decide)) ?_
  refine w_rt rfl rfl trivial ?_
  exact ⟨by rw [x4_countOfF], rfl⟩
def x4_comingOfF (c : CS) (l : Nat) (k : Int32) : Int32 := c 16 l (nat (((c 13 l 4) + k) &&& 255))
theorem x4_comingOf (X : Nat × (Nat → Int32)) {h : Hp} {nl nf np : Nat} (hw : WF h nl nf np) (c : CS) (l : Nat) (k : Int32) (hl : l < nl)  : wp X 26 0 [some (vR (some (13, l))), some (vI k)] [] (pX h c) (fun r h' => r = some (vI (x4_comingOfF c l k)) ∧ h' = pX h c) := by
  have h4 := hw.2.2.2.2.2.2.1
  have h5 := hw.2.2.2.2.2.2.2.1
  have h3 := hw.2.2.2.2.2.2.2.2
  refine w_pu rfl rfl ?_
  refine x_gR 16 hw rfl rfl rfl rfl hl ?_
  refine w_pu rfl rfl ?_
  refine x_g hw rfl rfl rfl (by decide) hl ?_
  refine w_pu rfl rfl ?_
  refine w_pu rfl rfl ?_
  refine w_cst (v := 255) rfl rfl rfl ?_
  refine w_pu rfl rfl ?_
  refine x_ai (nat (((c 13 l 4) + k) &&& 255)) 256 hw rfl rfl rfl (by decide) hl (msk (m := 255) 8 _ rfl (by decide)).1 (Nat.lt_of_lt_of_le (msk (m := 255) 8 _ rfl (by decide)).2 (by decide)) ?_
  refine w_rt rfl rfl trivial ?_
  exact ⟨by rw [x4_comingOfF], rfl⟩
def x4_marksOfF (c : CS) (l : Nat) (k : Int32) : Int32 := c 17 l (nat (((c 13 l 4) + k) &&& 255))
theorem x4_marksOf (X : Nat × (Nat → Int32)) {h : Hp} {nl nf np : Nat} (hw : WF h nl nf np) (c : CS) (l : Nat) (k : Int32) (hl : l < nl)  : wp X 27 0 [some (vR (some (13, l))), some (vI k)] [] (pX h c) (fun r h' => r = some (vI (x4_marksOfF c l k)) ∧ h' = pX h c) := by
  have h4 := hw.2.2.2.2.2.2.1
  have h5 := hw.2.2.2.2.2.2.2.1
  have h3 := hw.2.2.2.2.2.2.2.2
  refine w_pu rfl rfl ?_
  refine x_gR 17 hw rfl rfl rfl rfl hl ?_
  refine w_pu rfl rfl ?_
  refine x_g hw rfl rfl rfl (by decide) hl ?_
  refine w_pu rfl rfl ?_
  refine w_pu rfl rfl ?_
  refine w_cst (v := 255) rfl rfl rfl ?_
  refine w_pu rfl rfl ?_
  refine x_ai (nat (((c 13 l 4) + k) &&& 255)) 256 hw rfl rfl rfl (by decide) hl (msk (m := 255) 8 _ rfl (by decide)).1 (Nat.lt_of_lt_of_le (msk (m := 255) 8 _ rfl (by decide)).2 (by decide)) ?_
  refine w_rt rfl rfl trivial ?_
  exact ⟨by rw [x4_marksOfF], rfl⟩
def x4_addF (c : CS) (l : Nat) (n : Int32) (k : Int32) (t : Int32) : CS := (uC (uC (uC (uC (uC c 14 l (nat (((c 13 l 4) + (c 13 l 5)) &&& 255)) n) 15 l (nat (((c 13 l 4) + (c 13 l 5)) &&& 255)) k) 16 l (nat (((c 13 l 4) + (c 13 l 5)) &&& 255)) t) 17 l (nat (((c 13 l 4) + (c 13 l 5)) &&& 255)) 0) 13 l 5 ((c 13 l 5) + 1))
theorem x4_add (X : Nat × (Nat → Int32)) {h : Hp} {nl nf np : Nat} (hw : WF h nl nf np) (c : CS) (l : Nat) (n : Int32) (k : Int32) (t : Int32) (hl : l < nl)  : wp X 28 0 [some (vR (some (13, l))), some (vI n), some (vI k), some (vI t), none] [] (pX h c) (fun r h' => r = none ∧ h' = pX h (x4_addF c l n k t)) := by
  have h4 := hw.2.2.2.2.2.2.1
  have h5 := hw.2.2.2.2.2.2.2.1
  have h3 := hw.2.2.2.2.2.2.2.2
  refine w_pu rfl rfl ?_
  refine x_g hw rfl rfl rfl (by decide) hl ?_
  refine w_pu rfl rfl ?_
  refine x_g hw rfl rfl rfl (by decide) hl ?_
  refine w_pu rfl rfl ?_
  refine w_cst (v := 255) rfl rfl rfl ?_
  refine w_pu rfl rfl ?_
  refine w_pu rfl rfl ?_
  refine w_pu rfl rfl ?_
  refine x_gR 14 hw rfl rfl rfl rfl hl ?_
  refine w_pu rfl rfl ?_
  refine w_pu rfl rfl ?_
  refine x_si (nat (((c 13 l 4) + (c 13 l 5)) &&& 255)) 256 hw rfl rfl rfl (by decide) hl (msk (m := 255) 8 _ rfl (by decide)).1 (Nat.lt_of_lt_of_le (msk (m := 255) 8 _ rfl (by decide)).2 (by decide)) ?_
  refine w_pu rfl rfl ?_
  refine x_gR 15 hw rfl rfl rfl rfl hl ?_
  refine w_pu rfl rfl ?_
  refine w_pu rfl rfl ?_
  refine x_si (nat (((c 13 l 4) + (c 13 l 5)) &&& 255)) 256 hw rfl rfl rfl (by decide) hl (msk (m := 255) 8 _ rfl (by decide)).1 (Nat.lt_of_lt_of_le (msk (m := 255) 8 _ rfl (by decide)).2 (by decide)) ?_
  refine w_pu rfl rfl ?_
  refine x_gR 16 hw rfl rfl rfl rfl hl ?_
  refine w_pu rfl rfl ?_
  refine w_pu rfl rfl ?_
  refine x_si (nat (((c 13 l 4) + (c 13 l 5)) &&& 255)) 256 hw rfl rfl rfl (by decide) hl (msk (m := 255) 8 _ rfl (by decide)).1 (Nat.lt_of_lt_of_le (msk (m := 255) 8 _ rfl (by decide)).2 (by decide)) ?_
  refine w_pu rfl rfl ?_
  refine x_gR 17 hw rfl rfl rfl rfl hl ?_
  refine w_pu rfl rfl ?_
  refine w_cst (v := 0) rfl rfl rfl ?_
  refine x_si (nat (((c 13 l 4) + (c 13 l 5)) &&& 255)) 256 hw rfl rfl rfl (by decide) hl (msk (m := 255) 8 _ rfl (by decide)).1 (Nat.lt_of_lt_of_le (msk (m := 255) 8 _ rfl (by decide)).2 (by decide)) ?_
  refine w_pu rfl rfl ?_
  refine w_pu rfl rfl ?_
  refine x_g hw rfl rfl rfl (by decide) hl ?_
  refine w_top (c 13 l 5) (by rw [uC_t _ _ _ _ _ _ (by decide), uC_t _ _ _ _ _ _ (by decide), uC_t _ _ _ _ _ _ (by decide), uC_t _ _ _ _ _ _ (by decide)]) ?_
  refine w_cst (v := 1) rfl rfl rfl ?_
  refine w_pu rfl rfl ?_
  refine x_p hw rfl rfl rfl (by decide) hl ?_
  refine w_rt rfl rfl trivial ?_
  exact ⟨rfl, by rw [x4_addF]⟩
def x4_hasComeAtF (c : CS) (l : Nat) (t : Int32) : Int32 := (if (c 13 l 5) ≤ 0 then 0 else (if t < (x4_comingOfF c l 0) then 0 else 1))
theorem x4_hasComeAt (X : Nat × (Nat → Int32)) {h : Hp} {nl nf np : Nat} (hw : WF h nl nf np) (c : CS) (l : Nat) (t : Int32) (hl : l < nl)  : wp X 29 0 [some (vR (some (13, l))), some (vI t)] [] (pX h c) (fun r h' => r = some (vI (x4_hasComeAtF c l t)) ∧ h' = pX h c) := by
  have h4 := hw.2.2.2.2.2.2.1
  have h5 := hw.2.2.2.2.2.2.2.1
  have h3 := hw.2.2.2.2.2.2.2.2
  refine w_pu rfl rfl ?_
  refine x_g hw rfl rfl rfl (by decide) hl ?_
  refine w_le0 rfl (fun c0 => ?_) (fun c0 => ?_)
  · refine w_cst (v := 0) rfl rfl rfl ?_
    refine w_rt rfl rfl (by first | exact Or.inl rfl | exact Or.inr rfl) ?_
    exact ⟨by rw [x4_hasComeAtF, if_pos c0], rfl⟩
  · refine w_pu rfl rfl ?_
    refine w_cst (v := 0) rfl rfl rfl ?_
    refine w_cp (vI (x4_comingOfF c l 0)) rfl rfl (by decide) (Nat.le_of_ble_eq_true rfl) rfl (Nat.le_of_ble_eq_true rfl) (Nat.le_of_ble_eq_true rfl) ⟨wl hw hl, rfl⟩ rfl (x4_comingOf X hw c l 0 hl ) ?_
    refine w_pu rfl rfl ?_
    refine w_gt rfl (fun c1 => ?_) (fun c1 => ?_)
    · refine w_cst (v := 0) rfl rfl rfl ?_
      refine w_rt rfl rfl (by first | exact Or.inl rfl | exact Or.inr rfl) ?_
      exact ⟨by rw [x4_hasComeAtF, if_neg c0, if_pos c1], rfl⟩
    · refine w_cst (v := 1) rfl rfl rfl ?_
      refine w_go rfl ?_
      refine w_rt rfl rfl (by first | exact Or.inl rfl | exact Or.inr rfl) ?_
      exact ⟨by rw [x4_hasComeAtF, if_neg c0, if_neg c1], rfl⟩
def x4_dropFirstF (c : CS) (l : Nat) : CS := (uC (uC c 13 l 4 (((c 13 l 4) + 1) &&& 255)) 13 l 5 ((c 13 l 5) - 1))
theorem x4_dropFirst (X : Nat × (Nat → Int32)) {h : Hp} {nl nf np : Nat} (hw : WF h nl nf np) (c : CS) (l : Nat) (hl : l < nl)  : wp X 30 0 [some (vR (some (13, l)))] [] (pX h c) (fun r h' => r = none ∧ h' = pX h (x4_dropFirstF c l)) := by
  have h4 := hw.2.2.2.2.2.2.1
  have h5 := hw.2.2.2.2.2.2.2.1
  have h3 := hw.2.2.2.2.2.2.2.2
  refine w_pu rfl rfl ?_
  refine w_pu rfl rfl ?_
  refine x_g hw rfl rfl rfl (by decide) hl ?_
  refine w_cst (v := 1) rfl rfl rfl ?_
  refine w_pu rfl rfl ?_
  refine w_cst (v := 255) rfl rfl rfl ?_
  refine w_pu rfl rfl ?_
  refine x_p hw rfl rfl rfl (by decide) hl ?_
  refine w_pu rfl rfl ?_
  refine w_pu rfl rfl ?_
  refine x_g hw rfl rfl rfl (by decide) hl ?_
  refine w_top (c 13 l 5) (by rw [uC_k _ _ _ _ _ _ (by decide)]) ?_
  refine w_cst (v := 1) rfl rfl rfl ?_
  refine w_pu rfl rfl ?_
  refine x_p hw rfl rfl rfl (by decide) hl ?_
  refine w_rt rfl rfl trivial ?_
  exact ⟨rfl, by rw [x4_dropFirstF]⟩
def x4_markF (c : CS) (l : Nat) (k : Int32) (m : Int32) : CS := (uC c 17 l (nat (((c 13 l 4) + k) &&& 255)) ((c 17 l (nat (((c 13 l 4) + k) &&& 255))) ||| m))
theorem x4_mark (X : Nat × (Nat → Int32)) {h : Hp} {nl nf np : Nat} (hw : WF h nl nf np) (c : CS) (l : Nat) (k : Int32) (m : Int32) (hl : l < nl)  : wp X 32 0 [some (vR (some (13, l))), some (vI k), some (vI m), none] [] (pX h c) (fun r h' => r = none ∧ h' = pX h (x4_markF c l k m)) := by
  have h4 := hw.2.2.2.2.2.2.1
  have h5 := hw.2.2.2.2.2.2.2.1
  have h3 := hw.2.2.2.2.2.2.2.2
  refine w_pu rfl rfl ?_
  refine x_g hw rfl rfl rfl (by decide) hl ?_
  refine w_pu rfl rfl ?_
  refine w_pu rfl rfl ?_
  refine w_cst (v := 255) rfl rfl rfl ?_
  refine w_pu rfl rfl ?_
  refine w_pu rfl rfl ?_
  refine w_pu rfl rfl ?_
  refine x_gR 17 hw rfl rfl rfl rfl hl ?_
  refine w_pu rfl rfl ?_
  refine w_pu rfl rfl ?_
  refine x_gR 17 hw rfl rfl rfl rfl hl ?_
  refine w_pu rfl rfl ?_
  refine x_ai (nat (((c 13 l 4) + k) &&& 255)) 256 hw rfl rfl rfl (by decide) hl (msk (m := 255) 8 _ rfl (by decide)).1 (Nat.lt_of_lt_of_le (msk (m := 255) 8 _ rfl (by decide)).2 (by decide)) ?_
  refine w_pu rfl rfl ?_
  refine w_pu rfl rfl ?_
  refine x_si (nat (((c 13 l 4) + k) &&& 255)) 256 hw rfl rfl rfl (by decide) hl (msk (m := 255) 8 _ rfl (by decide)).1 (Nat.lt_of_lt_of_le (msk (m := 255) 8 _ rfl (by decide)).2 (by decide)) ?_
  refine w_rt rfl rfl trivial ?_
  exact ⟨rfl, by rw [x4_markF]⟩
def x4_clearF (c : CS) (l : Nat) : CS := (uC c 13 l 5 0)
theorem x4_clear (X : Nat × (Nat → Int32)) {h : Hp} {nl nf np : Nat} (hw : WF h nl nf np) (c : CS) (l : Nat) (hl : l < nl)  : wp X 33 0 [some (vR (some (13, l)))] [] (pX h c) (fun r h' => r = none ∧ h' = pX h (x4_clearF c l)) := by
  have h4 := hw.2.2.2.2.2.2.1
  have h5 := hw.2.2.2.2.2.2.2.1
  have h3 := hw.2.2.2.2.2.2.2.2
  refine w_pu rfl rfl ?_
  refine w_cst (v := 0) rfl rfl rfl ?_
  refine x_p hw rfl rfl rfl (by decide) hl ?_
  refine w_rt rfl rfl trivial ?_
  exact ⟨rfl, by rw [x4_clearF]⟩
def x2_lossesOnF (c : CS) (p : Nat) (n : Int32) : Int32 := (if n < 0 then 0 else (if n < (nI 8) then c 19 p (nat n) else 0))
theorem x2_lossesOn (X : Nat × (Nat → Int32)) {h : Hp} {nl nf np : Nat} (hw : WF h nl nf np) (c : CS) (p : Nat) (n : Int32) (hp : p < np)  : wp X 14 0 [some (vR (some (18, p))), some (vI n)] [] (pX h c) (fun r h' => r = some (vI (x2_lossesOnF c p n)) ∧ h' = pX h c) := by
  have h4 := hw.2.2.2.2.2.2.1
  have h5 := hw.2.2.2.2.2.2.2.1
  have h3 := hw.2.2.2.2.2.2.2.2
  refine w_pu rfl rfl ?_
  refine w_lt0 rfl (fun c0 => ?_) (fun c0 => ?_)
  · refine w_cst (v := 0) rfl rfl rfl ?_
    refine w_go rfl ?_
    refine w_rt rfl rfl trivial ?_
    exact ⟨by rw [x2_lossesOnF, if_pos c0], rfl⟩
  · refine w_pu rfl rfl ?_
    refine w_pu rfl rfl ?_
    refine x_gR 19 hw rfl rfl rfl rfl hp ?_
    refine x_len 8 hw rfl (by decide) rfl (by decide) hp ?_
    refine w_lt rfl (fun c1 => ?_) (fun c1 => ?_)
    · obtain ⟨n1, n2⟩ := rng (m := 8) c0 c1 (by decide)
      refine w_pu rfl rfl ?_
      refine x_gR 19 hw rfl rfl rfl rfl hp ?_
      refine w_pu rfl rfl ?_
      refine x_ai (nat n) 8 hw rfl rfl rfl (by decide) hp n1 (by show (nat n) < 8; omega) ?_
      refine w_rt rfl rfl trivial ?_
      exact ⟨by rw [x2_lossesOnF, if_neg c0, if_pos c1], rfl⟩
    · refine w_cst (v := 0) rfl rfl rfl ?_
      refine w_go rfl ?_
      refine w_rt rfl rfl trivial ?_
      exact ⟨by rw [x2_lossesOnF, if_neg c0, if_neg c1], rfl⟩
def x2_addLossOnF (c : CS) (p : Nat) (n : Int32) : CS := (if n < 0 then c else (if (nI 8) ≤ n then c else (uC c 19 p (nat n) ((c 19 p (nat n)) + 1))))
theorem x2_addLossOn (X : Nat × (Nat → Int32)) {h : Hp} {nl nf np : Nat} (hw : WF h nl nf np) (c : CS) (p : Nat) (n : Int32) (hp : p < np)  : wp X 15 0 [some (vR (some (18, p))), some (vI n)] [] (pX h c) (fun r h' => r = none ∧ h' = pX h (x2_addLossOnF c p n)) := by
  have h4 := hw.2.2.2.2.2.2.1
  have h5 := hw.2.2.2.2.2.2.2.1
  have h3 := hw.2.2.2.2.2.2.2.2
  refine w_pu rfl rfl ?_
  refine w_lt0 rfl (fun c0 => ?_) (fun c0 => ?_)
  · refine w_rt rfl rfl trivial ?_
    exact ⟨rfl, by rw [x2_addLossOnF, if_pos c0]⟩
  · refine w_pu rfl rfl ?_
    refine w_pu rfl rfl ?_
    refine x_gR 19 hw rfl rfl rfl rfl hp ?_
    refine x_len 8 hw rfl (by decide) rfl (by decide) hp ?_
    refine w_ge rfl (fun c1 => ?_) (fun c1 => ?_)
    · refine w_rt rfl rfl trivial ?_
      exact ⟨rfl, by rw [x2_addLossOnF, if_neg c0, if_pos c1]⟩
    · obtain ⟨n1, n2⟩ := rng (m := 8) c0 (Int32.not_le.mp c1) (by decide)
      refine w_pu rfl rfl ?_
      refine x_gR 19 hw rfl rfl rfl rfl hp ?_
      refine w_pu rfl rfl ?_
      refine w_pu rfl rfl ?_
      refine x_ai (nat n) 8 hw rfl rfl rfl (by decide) hp n1 (by show (nat n) < 8; omega) ?_
      refine w_cst (v := 1) rfl rfl rfl ?_
      refine w_pu rfl rfl ?_
      refine x_si (nat n) 8 hw rfl rfl rfl (by decide) hp n1 (by show (nat n) < 8; omega) ?_
      refine w_rt rfl rfl trivial ?_
      exact ⟨rfl, by rw [x2_addLossOnF, if_neg c0, if_neg c1]⟩
def x1_takesMoreF (c : CS) (l : Nat) : Int32 := (if (c 7 l 8) = 0 then 0 else (if 40 ≤ (c 10 l 3) then 0 else 1))
theorem x1_takesMore (X : Nat × (Nat → Int32)) {h : Hp} {nl nf np : Nat} (hw : WF h nl nf np) (c : CS) (l : Nat) (hl : l < nl)  : wp X 4 0 [some (vR (some (7, l)))] [] (pX h c) (fun r h' => r = some (vI (x1_takesMoreF c l)) ∧ h' = pX h c) := by
  have h4 := hw.2.2.2.2.2.2.1
  have h5 := hw.2.2.2.2.2.2.2.1
  have h3 := hw.2.2.2.2.2.2.2.2
  refine w_pu rfl rfl ?_
  refine x_g hw rfl rfl rfl (by decide) hl ?_
  refine w_eq0 rfl (fun c0 => ?_) (fun c0 => ?_)
  · refine w_cst (v := 0) rfl rfl rfl ?_
    refine w_rt rfl rfl (by first | exact Or.inl rfl | exact Or.inr rfl) ?_
    exact ⟨by rw [x1_takesMoreF, if_pos c0], rfl⟩
  · refine w_pu rfl rfl ?_
    refine x_gR 10 hw rfl rfl rfl rfl hl ?_
    refine x_g hw rfl rfl rfl (by decide) hl ?_
    refine w_cst (v := 40) rfl rfl rfl ?_
    refine w_ge rfl (fun c1 => ?_) (fun c1 => ?_)
    · refine w_cst (v := 0) rfl rfl rfl ?_
      refine w_rt rfl rfl (by first | exact Or.inl rfl | exact Or.inr rfl) ?_
      exact ⟨by rw [x1_takesMoreF, if_neg c0, if_pos c1], rfl⟩
    · refine w_cst (v := 1) rfl rfl rfl ?_
      refine w_go rfl ?_
      refine w_rt rfl rfl (by first | exact Or.inl rfl | exact Or.inr rfl) ?_
      exact ⟨by rw [x1_takesMoreF, if_neg c0, if_neg c1], rfl⟩
def x1_restsUnheardF (c : CS) (l : Nat) : Int32 := (if (c 7 l 8) = 0 then 0 else (if (c 10 l 3) = 0 then (if (c 13 l 5) = 0 then (if (c 7 l 11) ≤ (c 7 l 12) then 0 else 1) else 0) else 0))
theorem x1_restsUnheard (X : Nat × (Nat → Int32)) {h : Hp} {nl nf np : Nat} (hw : WF h nl nf np) (c : CS) (l : Nat) (hl : l < nl)  : wp X 5 0 [some (vR (some (7, l)))] [] (pX h c) (fun r h' => r = some (vI (x1_restsUnheardF c l)) ∧ h' = pX h c) := by
  have h4 := hw.2.2.2.2.2.2.1
  have h5 := hw.2.2.2.2.2.2.2.1
  have h3 := hw.2.2.2.2.2.2.2.2
  refine w_pu rfl rfl ?_
  refine x_g hw rfl rfl rfl (by decide) hl ?_
  refine w_eq0 rfl (fun c0 => ?_) (fun c0 => ?_)
  · refine w_cst (v := 0) rfl rfl rfl ?_
    refine w_rt rfl rfl (by first | exact Or.inl rfl | exact Or.inr rfl) ?_
    exact ⟨by rw [x1_restsUnheardF, if_pos c0], rfl⟩
  · refine w_pu rfl rfl ?_
    refine x_gR 10 hw rfl rfl rfl rfl hl ?_
    refine x_g hw rfl rfl rfl (by decide) hl ?_
    refine w_ne0 rfl (fun c1 => ?_) (fun c1 => ?_)
    · refine w_cst (v := 0) rfl rfl rfl ?_
      refine w_rt rfl rfl (by first | exact Or.inl rfl | exact Or.inr rfl) ?_
      exact ⟨by rw [x1_restsUnheardF, if_neg c0, if_neg c1], rfl⟩
    · refine w_pu rfl rfl ?_
      refine x_gR 13 hw rfl rfl rfl rfl hl ?_
      refine x_g hw rfl rfl rfl (by decide) hl ?_
      refine w_ne0 rfl (fun c2 => ?_) (fun c2 => ?_)
      · refine w_cst (v := 0) rfl rfl rfl ?_
        refine w_rt rfl rfl (by first | exact Or.inl rfl | exact Or.inr rfl) ?_
        exact ⟨by rw [x1_restsUnheardF, if_neg c0, if_pos c1, if_neg c2], rfl⟩
      · refine w_pu rfl rfl ?_
        refine x_g hw rfl rfl rfl (by decide) hl ?_
        refine w_pu rfl rfl ?_
        refine x_g hw rfl rfl rfl (by decide) hl ?_
        refine w_ge rfl (fun c3 => ?_) (fun c3 => ?_)
        · refine w_cst (v := 0) rfl rfl rfl ?_
          refine w_rt rfl rfl (by first | exact Or.inl rfl | exact Or.inr rfl) ?_
          exact ⟨by rw [x1_restsUnheardF, if_neg c0, if_pos c1, if_pos c2, if_pos c3], rfl⟩
        · refine w_cst (v := 1) rfl rfl rfl ?_
          refine w_go rfl ?_
          refine w_rt rfl rfl (by first | exact Or.inl rfl | exact Or.inr rfl) ?_
          exact ⟨by rw [x1_restsUnheardF, if_neg c0, if_pos c1, if_pos c2, if_neg c3], rfl⟩
def x1_ticksToSendF (c : CS) (l : Nat) (z : Int32) : Int32 := (if 1 ≤ (c 7 l 2) then (((((c 10 l 4) + z) + (c 7 l 2)) - 1) / (c 7 l 2)) else 0)
theorem x1_ticksToSend (X : Nat × (Nat → Int32)) {h : Hp} {nl nf np : Nat} (hw : WF h nl nf np) (c : CS) (l : Nat) (z : Int32) (hl : l < nl)  : wp X 6 0 [some (vR (some (7, l))), some (vI z)] [] (pX h c) (fun r h' => r = some (vI (x1_ticksToSendF c l z)) ∧ h' = pX h c) := by
  have h4 := hw.2.2.2.2.2.2.1
  have h5 := hw.2.2.2.2.2.2.2.1
  have h3 := hw.2.2.2.2.2.2.2.2
  refine w_pu rfl rfl ?_
  refine x_g hw rfl rfl rfl (by decide) hl ?_
  refine w_cst (v := 1) rfl rfl rfl ?_
  refine w_ge rfl (fun c0 => ?_) (fun c0 => ?_)
  · refine w_pu rfl rfl ?_
    refine x_gR 10 hw rfl rfl rfl rfl hl ?_
    refine x_g hw rfl rfl rfl (by decide) hl ?_
    refine w_pu rfl rfl ?_
    refine w_pu rfl rfl ?_
    refine w_pu rfl rfl ?_
    refine x_g hw rfl rfl rfl (by decide) hl ?_
    refine w_pu rfl rfl ?_
    refine w_cst (v := 1) rfl rfl rfl ?_
    refine w_pu rfl rfl ?_
    refine w_pu rfl rfl ?_
    refine x_g hw rfl rfl rfl (by decide) hl ?_
    refine w_op rfl rfl (by exact fun z => absurd (by rw [z] at c0; exact c0) (by decide : ¬ (1 : Int32) ≤ 0)) ?_
    refine w_rt rfl rfl trivial ?_
    exact ⟨by rw [x1_ticksToSendF, if_pos c0], rfl⟩
  · refine w_cst (v := 0) rfl rfl rfl ?_
    refine w_go rfl ?_
    refine w_rt rfl rfl trivial ?_
    exact ⟨by rw [x1_ticksToSendF, if_neg c0], rfl⟩
def x1_sentWithF (c : CS) (l : Nat) (k : Int32) : Int32 := c 8 l (nat (k &&& 1023))
theorem x1_sentWith (X : Nat × (Nat → Int32)) {h : Hp} {nl nf np : Nat} (hw : WF h nl nf np) (c : CS) (l : Nat) (k : Int32) (hl : l < nl)  : wp X 7 0 [some (vR (some (7, l))), some (vI k)] [] (pX h c) (fun r h' => r = some (vI (x1_sentWithF c l k)) ∧ h' = pX h c) := by
  have h4 := hw.2.2.2.2.2.2.1
  have h5 := hw.2.2.2.2.2.2.2.1
  have h3 := hw.2.2.2.2.2.2.2.2
  refine w_pu rfl rfl ?_
  refine x_gR 8 hw rfl rfl rfl rfl hl ?_
  refine w_pu rfl rfl ?_
  refine w_cst (v := 1023) rfl rfl rfl ?_
  refine w_pu rfl rfl ?_
  refine x_ai (nat (k &&& 1023)) 1024 hw rfl rfl rfl (by decide) hl (msk (m := 1023) 10 _ rfl (by decide)).1 (Nat.lt_of_lt_of_le (msk (m := 1023) 10 _ rfl (by decide)).2 (by decide)) ?_
  refine w_rt rfl rfl trivial ?_
  exact ⟨by rw [x1_sentWithF], rfl⟩
def x1_sendFirstF (c : CS) (l : Nat) (t : Int32) : CS := (uC (uC (x4_addF (x3_dropFirstF c l) l (x3_numberOfF c l 0) ((x3_dropFirstF c l) 7 l 11) (t + ((x3_dropFirstF c l) 7 l 3))) 8 l (nat (((x4_addF (x3_dropFirstF c l) l (x3_numberOfF c l 0) ((x3_dropFirstF c l) 7 l 11) (t + ((x3_dropFirstF c l) 7 l 3))) 7 l 11) &&& 1023)) (x3_numberOfF c l 0)) 7 l 11 (((x4_addF (x3_dropFirstF c l) l (x3_numberOfF c l 0) ((x3_dropFirstF c l) 7 l 11) (t + ((x3_dropFirstF c l) 7 l 3))) 7 l 11) + 1))
theorem x1_sendFirst (X : Nat × (Nat → Int32)) {h : Hp} {nl nf np : Nat} (hw : WF h nl nf np) (c : CS) (l : Nat) (t : Int32) (hl : l < nl)  : wp X 11 0 [some (vR (some (7, l))), some (vI t), none] [] (pX h c) (fun r h' => r = none ∧ h' = pX h (x1_sendFirstF c l t)) := by
  have h4 := hw.2.2.2.2.2.2.1
  have h5 := hw.2.2.2.2.2.2.2.1
  have h3 := hw.2.2.2.2.2.2.2.2
  refine w_pu rfl rfl ?_
  refine x_gR 10 hw rfl rfl rfl rfl hl ?_
  refine w_cst (v := 0) rfl rfl rfl ?_
  refine w_cp (vI (x3_numberOfF c l 0)) rfl rfl (by decide) (Nat.le_of_ble_eq_true rfl) rfl (Nat.le_of_ble_eq_true rfl) (Nat.le_of_ble_eq_true rfl) ⟨wl hw hl, rfl⟩ rfl (x3_numberOf X hw c l 0 hl ) ?_
  refine w_pu rfl rfl ?_
  refine w_pu rfl rfl ?_
  refine x_gR 10 hw rfl rfl rfl rfl hl ?_
  refine w_cvE (pX h (x3_dropFirstF c l)) rfl rfl (by decide) (Nat.le_of_ble_eq_true rfl) rfl (Nat.le_of_ble_eq_true rfl) (Nat.le_of_ble_eq_true rfl) ⟨wl hw hl, rfl⟩ rfl (x3_dropFirst X hw c l hl ) ?_
  refine w_pu rfl rfl ?_
  refine x_gR 13 hw rfl rfl rfl rfl hl ?_
  refine w_pu rfl rfl ?_
  refine w_pu rfl rfl ?_
  refine x_g hw rfl rfl rfl (by decide) hl ?_
  refine w_pu rfl rfl ?_
  refine w_pu rfl rfl ?_
  refine x_g hw rfl rfl rfl (by decide) hl ?_
  refine w_pu rfl rfl ?_
  refine w_cvE (pX h (x4_addF (x3_dropFirstF c l) l (x3_numberOfF c l 0) ((x3_dropFirstF c l) 7 l 11) (t + ((x3_dropFirstF c l) 7 l 3)))) rfl rfl (by decide) (Nat.le_of_ble_eq_true rfl) rfl (Nat.le_of_ble_eq_true rfl) (Nat.le_of_ble_eq_true rfl) ⟨wl hw hl, rfl⟩ rfl (x4_add X hw (x3_dropFirstF c l) l (x3_numberOfF c l 0) ((x3_dropFirstF c l) 7 l 11) (t + ((x3_dropFirstF c l) 7 l 3)) hl ) ?_
  refine w_pu rfl rfl ?_
  refine x_gR 8 hw rfl rfl rfl rfl hl ?_
  refine w_pu rfl rfl ?_
  refine x_g hw rfl rfl rfl (by decide) hl ?_
  refine w_cst (v := 1023) rfl rfl rfl ?_
  refine w_pu rfl rfl ?_
  refine w_pu rfl rfl ?_
  refine x_si (nat (((x4_addF (x3_dropFirstF c l) l (x3_numberOfF c l 0) ((x3_dropFirstF c l) 7 l 11) (t + ((x3_dropFirstF c l) 7 l 3))) 7 l 11) &&& 1023)) 1024 hw rfl rfl rfl (by decide) hl (msk (m := 1023) 10 _ rfl (by decide)).1 (Nat.lt_of_lt_of_le (msk (m := 1023) 10 _ rfl (by decide)).2 (by decide)) ?_
  refine w_pu rfl rfl ?_
  refine w_pu rfl rfl ?_
  refine x_g hw rfl rfl rfl (by decide) hl ?_
  refine w_top ((x4_addF (x3_dropFirstF c l) l (x3_numberOfF c l 0) ((x3_dropFirstF c l) 7 l 11) (t + ((x3_dropFirstF c l) 7 l 3))) 7 l 11) (by rw [uC_t _ _ _ _ _ _ (by decide)]) ?_
  refine w_cst (v := 1) rfl rfl rfl ?_
  refine w_pu rfl rfl ?_
  refine x_p hw rfl rfl rfl (by decide) hl ?_
  refine w_rt rfl rfl trivial ?_
  exact ⟨rfl, by rw [x1_sendFirstF]⟩
def x1_goDownF (c : CS) (l : Nat) : CS := (uC (x4_clearF (x3_clearF (uC c 7 l 8 0) l) l) 7 l 12 ((x4_clearF (x3_clearF (uC c 7 l 8 0) l) l) 7 l 11))
theorem x1_goDown (X : Nat × (Nat → Int32)) {h : Hp} {nl nf np : Nat} (hw : WF h nl nf np) (c : CS) (l : Nat) (hl : l < nl)  : wp X 12 0 [some (vR (some (7, l)))] [] (pX h c) (fun r h' => r = none ∧ h' = pX h (x1_goDownF c l)) := by
  have h4 := hw.2.2.2.2.2.2.1
  have h5 := hw.2.2.2.2.2.2.2.1
  have h3 := hw.2.2.2.2.2.2.2.2
  refine w_pu rfl rfl ?_
  refine w_cst (v := 0) rfl rfl rfl ?_
  refine x_pB hw rfl rfl rfl (by decide) hl (by first | exact Or.inl rfl | exact Or.inr rfl) ?_
  refine w_pu rfl rfl ?_
  refine x_gR 10 hw rfl rfl rfl rfl hl ?_
  refine w_cvE (pX h (x3_clearF (uC c 7 l 8 0) l)) rfl rfl (by decide) (Nat.le_of_ble_eq_true rfl) rfl (Nat.le_of_ble_eq_true rfl) (Nat.le_of_ble_eq_true rfl) ⟨wl hw hl, rfl⟩ rfl (x3_clear X hw (uC c 7 l 8 0) l hl ) ?_
  refine w_pu rfl rfl ?_
  refine x_gR 13 hw rfl rfl rfl rfl hl ?_
  refine w_cvE (pX h (x4_clearF (x3_clearF (uC c 7 l 8 0) l) l)) rfl rfl (by decide) (Nat.le_of_ble_eq_true rfl) rfl (Nat.le_of_ble_eq_true rfl) (Nat.le_of_ble_eq_true rfl) ⟨wl hw hl, rfl⟩ rfl (x4_clear X hw (x3_clearF (uC c 7 l 8 0) l) l hl ) ?_
  refine w_pu rfl rfl ?_
  refine w_pu rfl rfl ?_
  refine x_g hw rfl rfl rfl (by decide) hl ?_
  refine x_p hw rfl rfl rfl (by decide) hl ?_
  refine w_rt rfl rfl trivial ?_
  exact ⟨rfl, by rw [x1_goDownF]⟩
