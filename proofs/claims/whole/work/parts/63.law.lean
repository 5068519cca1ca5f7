/-! The law: what holds between its rounds; a call on both sides. -/
theorem pX_pS (h : Hp) (s : SS) (c : CS) : pX (pS h s) c = pS (pX h c) s := by
  obtain ⟨a, b, e, f⟩ := h
  show (a, b, _, f) = (a, b, _, f)
  congr 3
  funext n k
  by_cases w : n.1 < 22
  · rw [if_pos w]
    have w2 : ¬ (22 ≤ n.1 ∧ n.2 = 0) := by omega
    rw [if_neg w2]
    exact (if_pos w).symm
  · rw [if_neg w]
    by_cases w2 : 22 ≤ n.1 ∧ n.2 = 0
    · rw [if_pos w2]
      exact if_pos w2
    · rw [if_neg w2]
      refine (if_neg w2).trans ?_
      exact (if_neg w).symm
def LW (H : Hp) (j : Nat) : Prop := ∃ (c : CS) (nl nf np : Nat) (A B : Nat → Nat), pX H c = H ∧ WF H nl nf np ∧ IVC nl nf np j A B c (gS H) ∧ (∀ f, f < nf → hpL H (21, f) = B (f + 1) - B f) ∧ hpN H ≤ 46 + 11 * nl + 2 * nf + 2 * np ∧ hpS H ≤ 1300000 + 2237 * nl + 4006 * nf + 16 * np
def PR (X : Nat × (Nat → Int32)) (a b : Nat) (Ea Eb : Ls) (H : Hp) (j : Nat) : Prop := ∃ v H1 H2, wp X a 0 Ea [] H (fun r h' => r = some (vI v) ∧ h' = H1) ∧ wp X b 0 Eb [] H1 (fun r h' => r = some (vI v) ∧ h' = H2) ∧ live H1 (22, 0) ∧ LW H2 (j + 1)
theorem LW_0 {H : Hp} {j : Nat} (h : LW H j) : live H (0, 0) := by
  obtain ⟨c, nl, nf, np, A, B, hx, hw, hI, hF, hN, hS⟩ := h
  exact wl hw Nat.one_pos
theorem LW_n {H : Hp} {j : Nat} (h : LW H j) : LW H (j + 1) := by
  obtain ⟨c, nl, nf, np, A, B, hx, hw, hI, hF, hN, hS⟩ := h
  exact ⟨c, nl, nf, np, A, B, hx, hw, IVC_n hI, hF, hN, hS⟩
/-- its rooms -/
theorem LW_r {H : Hp} {j : Nat} (h : LW H j) : hpN H ≤ 190474 ∧ hpS H ≤ 8530828 := by
  obtain ⟨c, nl, nf, np, A, B, hx, hw, ⟨T, fn, g, hI⟩, hF, hN, hS⟩ := h
  have := IV_nl hI
  have := IV_np hI
  have := hI.1.1.1.1
  omega
theorem wp_ex {X : Nat × (Nat → Int32)} {y pc : Nat} {L : Ls} {st : St} {h : Hp} {Q : Option Vl → Hp → Prop} (k : wp X y pc L st h Q) : ∃ r h', Q r h' ∧ wp X y pc L st h (fun r2 h2 => r2 = r ∧ h2 = h') := by
  obtain ⟨r, h', e, q⟩ := k
  exact ⟨r, h', q, r, h', e, rfl, rfl⟩
/-- another heap H0 (with the same numbers of the reference), the class's numbers c', the reference's s' -/
theorem pair_mk {X : Nat × (Nat → Int32)} {a b : Nat} {Ea Eb : Ls} {H H0 : Hp} {j nl nf np : Nat} {A B : Nat → Nat} {c : CS} (hx : pX H c = H) (hw : WF H0 nl nf np) (hg : gS H0 = gS H) (hF : ∀ f, f < nf → hpL H0 (21, f) = B (f + 1) - B f) (hN : hpN H0 ≤ 46 + 11 * nl + 2 * nf + 2 * np) (hS : hpS H0 ≤ 1300000 + 2237 * nl + 4006 * nf + 16 * np) (v : Int32) (c' : CS) (s' : SS) (h1 : wp X a 0 Ea [] (pX H c) (fun r h' => r = some (vI v) ∧ h' = pX H0 c')) (h2 : wp X b 0 Eb [] (pS (pX H0 c') (gS H)) (fun r h' => r = some (vI v) ∧ h' = pS (pX H0 c') s')) (hI : IVC nl nf np (j + 1) A B c' s') : PR X a b Ea Eb H j := by
  have e1 : pS (pX H0 c') (gS H) = pX H0 c' := by
    have := pS_gS (pX H0 c')
    rw [gS_pX, hg] at this
    exact this
  rw [hx] at h1
  rw [e1] at h2
  refine ⟨v, pX H0 c', pS (pX H0 c') s', h1, h2, ?_, c', nl, nf, np, A, B, ?_, hw, ?_, hF, hN, hS⟩
  · have hw' : WF (pX H0 c') nl nf np := hw
    exact wl hw' Nat.one_pos
  · rw [pX_pS, pX_pX]
  · rw [gS_pS]
    exact hI
theorem fnO_ok {nl nf np T fn g n : Nat} {A B lo tl : Nat → Nat} {c : CS} {s : SS} (h : IV nl nf np T fn g n A B lo tl c s) : ∀ l j, l < nl → fnO s l 3 = some j → okp np (s 10 (wayK s l j)) := by
  intro l j hl e
  obtain ⟨u, f, uh, e1, e2, e3, e4, e5, e6, e7, e8⟩ := IV_uw h hl
  have hk : j < u := by
    unfold fnO at e
    have := fnF_b _ _ _ e
    rw [e1, nat_nI (by omega)] at this
    omega
  unfold wayK
  rw [e3, nat_nI (by omega)]
  exact (e8 j hk).2.2
theorem IV_pc {nl nf np T fn g n : Nat} {A B lo tl : Nat → Nat} {c : CS} {s : SS} (h : IV nl nf np T fn g n A B lo tl c s) : ∀ p, p < np → ∃ f a z, s 24 p = nI f ∧ f < nf ∧ s 25 p = nI a ∧ s 26 p = nI z ∧ a + z ≤ 1200000 := by
  intro p hp
  obtain ⟨b1, b2, a, z, b3, b4, b5, b6, b7, b8⟩ := h.1.1.2.2 p hp
  obtain ⟨f, f1, f2, f3⟩ := frOf (A := A) p nf h.1.1.1.2.2.1 (by rw [h.1.1.1.2.2.2.1]; exact hp)
  have hB := FX_B h.1.1 nf (Nat.le_refl _)
  have hnf := h.1.1.1.1
  exact ⟨f, a, z, ((h.1.1.2.1 f f1).2.2.2.2.2.2.2.2.2.2.2.2 p f2 f3).1, f1, b3, b4, by omega⟩
theorem IV_fb {nl nf np T fn g n : Nat} {A B lo tl : Nat → Nat} {c : CS} {s : SS} (h : IV nl nf np T fn g n A B lo tl c s) : ∀ f, f < nf → ∃ b n, s 35 f = nI b ∧ s 31 f = nI n ∧ b + n ≤ 1200000 := by
  intro f hf
  obtain ⟨b1, b2, b3, b4, b5, b6, b7, b8⟩ := h.1.1.2.1 f hf
  have hB := FX_B h.1.1 (f + 1) hf
  have hnf := h.1.1.1.1
  exact ⟨B f, B (f + 1) - B f, b6, b7, by omega⟩
theorem IV_FC {nl nf np T fn g n : Nat} {A B lo tl : Nat → Nat} {c : CS} {s : SS} {H : Hp} (h : IV nl nf np T fn g n A B lo tl c s) (hF : ∀ f, f < nf → hpL H (21, f) = B (f + 1) - B f) : ∀ f, f < nf → FrOK H c f := by
  intro f hf
  obtain ⟨b1, b2, b3, b4, b5, b6, b7, b8, b9⟩ := h.1.1.2.1 f hf
  unfold FrOK
  rw [b8, b7, nat_nI (by omega)]
  exact ⟨hF f hf, rfl⟩
theorem pr_lease (X : Nat × (Nat → Int32)) {H : Hp} {j : Nat} (h : LW H j) (hj : j ≤ 600) (v a p : Int32) : PR X 36 89 [some (vR (some (0, 0))), some (vI v), some (vI a), some (vI p), none] [TM, some (vI v), some (vI a), some (vI p)] H j := by
  obtain ⟨c, nl, nf, np, A, B, hx, hw, hI, hF, hN, hS⟩ := h
  obtain ⟨T, fn, g, hi⟩ := id hI
  obtain ⟨g1, g2, g3, g4, g5, g6, g7, g8⟩ := hi.1.2.2.2.2.2.2.1
  obtain ⟨e1, e2⟩ := cl_lease hI v a p
  have hm := mX_lease X (h := pX H (x5_leaseF c nl v a p).2) (nl := nl) (nf := nf) (np := np) hw (gS H) g1.2.1 v a p
  rw [← e1] at hm
  exact pair_mk hx hw rfl hF hN hS _ _ _ (x5_lease X hw c v a p g1.1) hm e2
theorem pr_grow (X : Nat × (Nat → Int32)) {H : Hp} {j : Nat} (h : LW H j) (hj : j ≤ 600) (v : Int32) : PR X 38 91 [some (vR (some (0, 0))), some (vI v), none, none] [TM, some (vI v), none] H j := by
  obtain ⟨c, nl, nf, np, A, B, hx, hw, hI, hF, hN, hS⟩ := h
  obtain ⟨T, fn, g, hi⟩ := id hI
  obtain ⟨g1, g2, g3, g4, g5, g6, g7, g8⟩ := hi.1.2.2.2.2.2.2.1
  obtain ⟨b1, ⟨t, b2, b2b⟩, b3⟩ := hi.1.2.2.2.2.2.2.2.2
  obtain ⟨e1, e2⟩ := cl_grow hI v
  have hm := mX_grow X (h := pX H (x5_growF c v).2) (nl := nl) (nf := nf) (np := np) hw (gS H) t b2 b2b v
  rw [← e1] at hm
  exact pair_mk hx hw rfl hF hN hS _ _ _ (x5_grow X hw c t (b1.trans b2) b2b v) hm e2
theorem pr_cut (X : Nat × (Nat → Int32)) {H : Hp} {j : Nat} (h : LW H j) (hj : j ≤ 600) (v : Int32) : PR X 41 93 [some (vR (some (0, 0))), some (vI v), none] [TM, some (vI v), none] H j := by
  obtain ⟨c, nl, nf, np, A, B, hx, hw, hI, hF, hN, hS⟩ := h
  obtain ⟨T, fn, g, hi⟩ := id hI
  obtain ⟨g1, g2, g3, g4, g5, g6, g7, g8⟩ := hi.1.2.2.2.2.2.2.1
  obtain ⟨e1, e2⟩ := cl_cut hI v
  have hm := mX_cut X (h := pX H (x5_cutF c v).2) (nl := nl) (nf := nf) (np := np) hw (gS H) v
  rw [← e1] at hm
  exact pair_mk hx hw rfl hF hN hS _ _ _ (x5_cut X hw c v) hm e2
theorem pr_room (X : Nat × (Nat → Int32)) {H : Hp} {j : Nat} (h : LW H j) (hj : j ≤ 600) (v : Int32) : PR X 42 94 [some (vR (some (0, 0))), some (vI v), none] [TM, some (vI v), none] H j := by
  obtain ⟨c, nl, nf, np, A, B, hx, hw, hI, hF, hN, hS⟩ := h
  obtain ⟨T, fn, g, hi⟩ := id hI
  obtain ⟨g1, g2, g3, g4, g5, g6, g7, g8⟩ := hi.1.2.2.2.2.2.2.1
  obtain ⟨e1, e2⟩ := cl_room hI v
  have hm := mX_room X (h := pX H (x5_roomF c v).2) (nl := nl) (nf := nf) (np := np) hw (gS H) v
  rw [← e1] at hm
  exact pair_mk hx hw rfl hF hN hS _ _ _ (x5_room X hw c v) hm e2
theorem pr_lose (X : Nat × (Nat → Int32)) {H : Hp} {j : Nat} (h : LW H j) (hj : j ≤ 600) (v : Int32) : PR X 58 113 [some (vR (some (0, 0))), some (vI v), none, none, none] [TM, some (vI v), none] H j := by
  obtain ⟨c, nl, nf, np, A, B, hx, hw, hI, hF, hN, hS⟩ := h
  obtain ⟨T, fn, g, hi⟩ := id hI
  obtain ⟨g1, g2, g3, g4, g5, g6, g7, g8⟩ := hi.1.2.2.2.2.2.2.1
  obtain ⟨e1, e2⟩ := cl_lose hI v
  have hm := mX_loseOp X (h := pX H (x5_loseF c nl v).2) (nl := nl) (nf := nf) (np := np) hw (gS H) g1.2.1 (IV_hu hi) v
  rw [← e1] at hm
  exact pair_mk hx hw rfl hF hN hS _ _ _ (x5_lose X hw c v g1.1) hm e2
theorem pr_bend (X : Nat × (Nat → Int32)) {H : Hp} {j : Nat} (h : LW H j) (hj : j ≤ 600) (v i m : Int32) : PR X 59 114 [some (vR (some (0, 0))), some (vI v), some (vI i), some (vI m), none, none, none, none] [TM, some (vI v), some (vI i), some (vI m), none] H j := by
  obtain ⟨c, nl, nf, np, A, B, hx, hw, hI, hF, hN, hS⟩ := h
  obtain ⟨T, fn, g, hi⟩ := id hI
  obtain ⟨g1, g2, g3, g4, g5, g6, g7, g8⟩ := hi.1.2.2.2.2.2.2.1
  obtain ⟨e1, e2⟩ := cl_bend hI v i m
  have hm := mX_bend X (h := pX H (x5_bendF c nl np v i m).2) (nl := nl) (nf := nf) (np := np) hw (gS H) g1.2.1 (IV_hu hi) (fnO_ok hi) v i m
  rw [← e1] at hm
  exact pair_mk hx hw rfl hF hN hS _ _ _ (x5_bend X hw c v i m g1.1 g6.1) hm e2
theorem pr_fall (X : Nat × (Nat → Int32)) {H : Hp} {j : Nat} (h : LW H j) (hj : j ≤ 600) (v : Int32) : PR X 60 115 [some (vR (some (0, 0))), some (vI v), none, none, none] [TM, some (vI v), none, none] H j := by
  obtain ⟨c, nl, nf, np, A, B, hx, hw, hI, hF, hN, hS⟩ := h
  obtain ⟨T, fn, g, hi⟩ := id hI
  obtain ⟨g1, g2, g3, g4, g5, g6, g7, g8⟩ := hi.1.2.2.2.2.2.2.1
  obtain ⟨e1, e2⟩ := cl_fall hI v
  have hm := mX_fall X (h := pX H (x5_fallF nl np c v).2) (nl := nl) (nf := nf) (np := np) hw (gS H) g1.2.1 g6.2 v
  rw [← e1] at hm
  exact pair_mk hx hw rfl hF hN hS _ _ _ (x5_fall X hw c (IV_KC hi) v) hm e2
theorem pr_rise (X : Nat × (Nat → Int32)) {H : Hp} {j : Nat} (h : LW H j) (hj : j ≤ 600) (v : Int32) : PR X 61 116 [some (vR (some (0, 0))), some (vI v), none] [TM, some (vI v)] H j := by
  obtain ⟨c, nl, nf, np, A, B, hx, hw, hI, hF, hN, hS⟩ := h
  obtain ⟨T, fn, g, hi⟩ := id hI
  obtain ⟨g1, g2, g3, g4, g5, g6, g7, g8⟩ := hi.1.2.2.2.2.2.2.1
  obtain ⟨e1, e2⟩ := cl_rise hI v
  have hm := mX_rise X (h := pX H (x5_riseF c nl v).2) (nl := nl) (nf := nf) (np := np) hw (gS H) g1.2.1 v
  rw [← e1] at hm
  exact pair_mk hx hw rfl hF hN hS _ _ _ (x5_rise X hw c v g1.1) hm e2
theorem pr_line (X : Nat × (Nat → Int32)) {H : Hp} {j : Nat} (h : LW H j) (hj : j ≤ 600) (v a : Int32) : PR X 62 117 [some (vR (some (0, 0))), some (vI v), some (vI a), none] [TM, some (vI v), some (vI a)] H j := by
  obtain ⟨c, nl, nf, np, A, B, hx, hw, hI, hF, hN, hS⟩ := h
  obtain ⟨T, fn, g, hi⟩ := id hI
  obtain ⟨g1, g2, g3, g4, g5, g6, g7, g8⟩ := hi.1.2.2.2.2.2.2.1
  obtain ⟨e1, e2⟩ := cl_line hI v a
  have hm := mX_line X (h := pX H c) (nl := nl) (nf := nf) (np := np) hw (gS H) g1.2.1 (IV_hq hi) v a
  rw [← e1, e2] at hm
  exact pair_mk hx hw rfl hF hN hS _ _ _ (x5_line X hw c v a g1.1) hm (IVC_n hI)
theorem pr_piece (X : Nat × (Nat → Int32)) {H : Hp} {j : Nat} (h : LW H j) (hj : j ≤ 600) (v a : Int32) : PR X 63 119 [some (vR (some (0, 0))), some (vI v), some (vI a), none] [TM, some (vI v), some (vI a)] H j := by
  obtain ⟨c, nl, nf, np, A, B, hx, hw, hI, hF, hN, hS⟩ := h
  obtain ⟨T, fn, g, hi⟩ := id hI
  obtain ⟨g1, g2, g3, g4, g5, g6, g7, g8⟩ := hi.1.2.2.2.2.2.2.1
  obtain ⟨e1, e2⟩ := cl_piece hI v a
  have hm := mX_piece X (h := pX H c) (nl := nl) (nf := nf) (np := np) hw (gS H) g6.2 (IV_pc hi) v a
  rw [← e1, e2] at hm
  exact pair_mk hx hw rfl hF hN hS _ _ _ (x5_piece X hw c v a g6.1) hm (IVC_n hI)
theorem pr_lostOn (X : Nat × (Nat → Int32)) {H : Hp} {j : Nat} (h : LW H j) (hj : j ≤ 600) (v a : Int32) : PR X 64 120 [some (vR (some (0, 0))), some (vI v), some (vI a), none] [TM, some (vI v), some (vI a)] H j := by
  obtain ⟨c, nl, nf, np, A, B, hx, hw, hI, hF, hN, hS⟩ := h
  obtain ⟨T, fn, g, hi⟩ := id hI
  obtain ⟨g1, g2, g3, g4, g5, g6, g7, g8⟩ := hi.1.2.2.2.2.2.2.1
  obtain ⟨e1, e2⟩ := cl_lostOn hI v a
  have hm := mX_lostOn X (h := pX H c) (nl := nl) (nf := nf) (np := np) hw (gS H) g1.2.1 g6.2 v a
  rw [← e1, e2] at hm
  exact pair_mk hx hw rfl hF hN hS _ _ _ (x5_lostOn X hw c v a g1.1 g6.1) hm (IVC_n hI)
theorem pr_queued (X : Nat × (Nat → Int32)) {H : Hp} {j : Nat} (h : LW H j) (hj : j ≤ 600) (v a : Int32) : PR X 65 121 [some (vR (some (0, 0))), some (vI v), some (vI a), none] [TM, some (vI v), some (vI a)] H j := by
  obtain ⟨c, nl, nf, np, A, B, hx, hw, hI, hF, hN, hS⟩ := h
  obtain ⟨T, fn, g, hi⟩ := id hI
  obtain ⟨g1, g2, g3, g4, g5, g6, g7, g8⟩ := hi.1.2.2.2.2.2.2.1
  obtain ⟨e1, e2⟩ := cl_queued hI v a
  have hm := mX_queued X (h := pX H c) (nl := nl) (nf := nf) (np := np) hw (gS H) g1.2.1 (IV_hq hi) v a
  rw [← e1, e2] at hm
  exact pair_mk hx hw rfl hF hN hS _ _ _ (x5_queued X hw c v a g1.1) hm (IVC_n hI)
theorem pr_under (X : Nat × (Nat → Int32)) {H : Hp} {j : Nat} (h : LW H j) (hj : j ≤ 600) (v k a : Int32) : PR X 66 122 [some (vR (some (0, 0))), some (vI v), some (vI k), some (vI a), none] [TM, some (vI v), some (vI k), some (vI a), none] H j := by
  obtain ⟨c, nl, nf, np, A, B, hx, hw, hI, hF, hN, hS⟩ := h
  obtain ⟨T, fn, g, hi⟩ := id hI
  obtain ⟨g1, g2, g3, g4, g5, g6, g7, g8⟩ := hi.1.2.2.2.2.2.2.1
  obtain ⟨e1, e2⟩ := cl_under hI v k a
  have hm := mX_under X (h := pX H c) (nl := nl) (nf := nf) (np := np) hw (gS H) g1.2.1 (IV_hu hi) v k a
  rw [← e1, e2] at hm
  exact pair_mk hx hw rfl hF hN hS _ _ _ (x5_under X hw c v k a g1.1) hm (IVC_n hI)
theorem pr_waits (X : Nat × (Nat → Int32)) {H : Hp} {j : Nat} (h : LW H j) (hj : j ≤ 600) (v : Int32) : PR X 67 123 [some (vR (some (0, 0))), some (vI v)] [TM, some (vI v), none, none] H j := by
  obtain ⟨c, nl, nf, np, A, B, hx, hw, hI, hF, hN, hS⟩ := h
  obtain ⟨T, fn, g, hi⟩ := id hI
  obtain ⟨g1, g2, g3, g4, g5, g6, g7, g8⟩ := hi.1.2.2.2.2.2.2.1
  have e1 := cl_waits hI v
  have hm := mX_waits X (h := pX H c) (nl := nl) (nf := nf) (np := np) hw (gS H) g6.2 v
  rw [← e1] at hm
  exact pair_mk hx hw rfl hF hN hS _ _ _ (x5_waits X hw c v g6.1) hm (IVC_n hI)
theorem pr_got (X : Nat × (Nat → Int32)) {H : Hp} {j : Nat} (h : LW H j) (hj : j ≤ 600) (v a : Int32) : PR X 69 125 [some (vR (some (0, 0))), some (vI v), some (vI a), none] [TM, some (vI v), some (vI a)] H j := by
  obtain ⟨c, nl, nf, np, A, B, hx, hw, hI, hF, hN, hS⟩ := h
  obtain ⟨T, fn, g, hi⟩ := id hI
  obtain ⟨g1, g2, g3, g4, g5, g6, g7, g8⟩ := hi.1.2.2.2.2.2.2.1
  obtain ⟨e1, e2⟩ := cl_got hI v a
  have hm := mX_got X (h := pX H (x5_gotF c nf v a).2) (nl := nl) (nf := nf) (np := np) hw (gS H) g2.2 (IV_fb hi) v a
  rw [← e1] at hm
  exact pair_mk hx hw rfl hF hN hS _ _ _ (x5_got X hw c v a g2.1 (IV_FC hi hF)) hm e2
theorem pr_frameOf (X : Nat × (Nat → Int32)) {H : Hp} {j : Nat} (h : LW H j) (hj : j ≤ 600) (v a : Int32) : PR X 70 126 [some (vR (some (0, 0))), some (vI v), some (vI a), none] [TM, some (vI v), some (vI a), none, none] H j := by
  obtain ⟨c, nl, nf, np, A, B, hx, hw, hI, hF, hN, hS⟩ := h
  obtain ⟨T, fn, g, hi⟩ := id hI
  obtain ⟨g1, g2, g3, g4, g5, g6, g7, g8⟩ := hi.1.2.2.2.2.2.2.1
  have e1 := cl_frameOf hI v a
  have hm := mX_frameOf X (h := pX H c) (nl := nl) (nf := nf) (np := np) hw (gS H) g2.2 (IV_FR hi) v a
  rw [← e1] at hm
  exact pair_mk hx hw rfl hF hN hS _ _ _ (x5_frameOf X hw c v a g2.1) hm (IVC_n hI)
theorem pr_credit (X : Nat × (Nat → Int32)) {H : Hp} {j : Nat} (h : LW H j) (hj : j ≤ 600) : PR X 71 96 [some (vR (some (0, 0)))] [TM, none, none] H j := by
  obtain ⟨c, nl, nf, np, A, B, hx, hw, hI, hF, hN, hS⟩ := h
  obtain ⟨T, fn, g, hi⟩ := id hI
  obtain ⟨g1, g2, g3, g4, g5, g6, g7, g8⟩ := hi.1.2.2.2.2.2.2.1
  have e1 := cl_credit hI 
  have hm := mX_credit X (h := pX H c) (nl := nl) (nf := nf) (np := np) hw (gS H) g6.2
  rw [← e1] at hm
  exact pair_mk hx hw rfl hF hN hS _ _ _ (x5_credit X hw c ) hm (IVC_n hI)
theorem pr_skew (X : Nat × (Nat → Int32)) {H : Hp} {j : Nat} (h : LW H j) (hj : j ≤ 600) : PR X 72 127 [some (vR (some (0, 0))), none, none, none, none] [TM, none, none, none] H j := by
  obtain ⟨c, nl, nf, np, A, B, hx, hw, hI, hF, hN, hS⟩ := h
  obtain ⟨T, fn, g, hi⟩ := id hI
  obtain ⟨g1, g2, g3, g4, g5, g6, g7, g8⟩ := hi.1.2.2.2.2.2.2.1
  have e1 := cl_skew hI 
  have hm := mX_skew X (h := pX H c) (nl := nl) (nf := nf) (np := np) hw (gS H) g6.2
  rw [← e1] at hm
  exact pair_mk hx hw rfl hF hN hS _ _ _ (x5_skew X hw c g6.1) hm (IVC_n hI)
theorem pr_witness (X : Nat × (Nat → Int32)) {H : Hp} {j : Nat} (h : LW H j) (hj : j ≤ 600) (v k : Int32) : PR X 73 128 [some (vR (some (0, 0))), some (vI v), some (vI k), none] [TM, some (vI v), some (vI k), none] H j := by
  obtain ⟨c, nl, nf, np, A, B, hx, hw, hI, hF, hN, hS⟩ := h
  obtain ⟨T, fn, g, hi⟩ := id hI
  obtain ⟨g1, g2, g3, g4, g5, g6, g7, g8⟩ := hi.1.2.2.2.2.2.2.1
  obtain ⟨e1, e2⟩ := cl_witness hI v k
  have hm := mX_witness X (h := pX H c) (nl := nl) (nf := nf) (np := np) hw (gS H) g2.2 (IV_FR hi) v k
  rw [← e1, e2] at hm
  exact pair_mk hx hw rfl hF hN hS _ _ _ (x5_witness X hw c v k g2.1 g6.1) hm (IVC_n hI)
theorem pr_check (X : Nat × (Nat → Int32)) {H : Hp} {j : Nat} (h : LW H j) (hj : j ≤ 600) (v x : Int32) : PR X 74 129 [some (vR (some (0, 0))), some (vI v), some (vI x), none, none, none] [TM, some (vI v), some (vI x), none, none] H j := by
  obtain ⟨c, nl, nf, np, A, B, hx, hw, hI, hF, hN, hS⟩ := h
  obtain ⟨T, fn, g, hi⟩ := id hI
  obtain ⟨g1, g2, g3, g4, g5, g6, g7, g8⟩ := hi.1.2.2.2.2.2.2.1
  have e1 := cl_check hI v x
  have hm := mX_check X (h := pX H c) (nl := nl) (nf := nf) (np := np) hw (gS H) g2.2 (IV_FR hi) v x
  rw [← e1] at hm
  exact pair_mk hx hw rfl hF hN hS _ _ _ (x5_check X hw c g6.1 g2.1 v x) hm (IVC_n hI)
theorem pr_status (X : Nat × (Nat → Int32)) {H : Hp} {j : Nat} (h : LW H j) (hj : j ≤ 600) (a : Int32) : PR X 76 131 [some (vR (some (0, 0))), some (vI a)] [TM, some (vI a), none, none] H j := by
  obtain ⟨c, nl, nf, np, A, B, hx, hw, hI, hF, hN, hS⟩ := h
  obtain ⟨T, fn, g, hi⟩ := id hI
  obtain ⟨g1, g2, g3, g4, g5, g6, g7, g8⟩ := hi.1.2.2.2.2.2.2.1
  have e1 := cl_status hI a
  have hm := mX_status X (h := pX H c) (nl := nl) (nf := nf) (np := np) hw (gS H) g1.2.1 g6.2 g g3.2 (by have := hi.1.2.2.2.2.2.1.1; have := hi.1.1.1.1; omega) a
  rw [← e1] at hm
  exact pair_mk hx hw rfl hF hN hS _ _ _ (x5_status X hw c a g1.1) hm (IVC_n hI)
theorem pr_type (X : Nat × (Nat → Int32)) {H : Hp} {j : Nat} (h : LW H j) (hj : j ≤ 600) (w : Int64) (v : Int32) : PR X 37 90 [some (vR (some (0, 0))), some (vL w), none, some (vI v), none] [TM, some (vL w), none, some (vI v), none] H j := by
  obtain ⟨c, nl, nf, np, A, B, hx, hw, hI, hF, hN, hS⟩ := h
  obtain ⟨T, fn, g, hi⟩ := id hI
  obtain ⟨b1, ⟨t, b2, b2b⟩, b3⟩ := hi.1.2.2.2.2.2.2.2.2
  obtain ⟨e1, e2⟩ := cl_type hI w v
  have hm := mX_type X (h := pX H (x5_typeF c w v).2) (nl := nl) (nf := nf) (np := np) hw (gS H) t b2 b2b w v
  rw [← e1] at hm
  exact pair_mk hx hw rfl hF hN hS _ _ _ (x5_type X hw c t (b1.trans b2) b2b w v) hm e2
theorem pr_tick (X : Nat × (Nat → Int32)) {H : Hp} {j : Nat} (h : LW H j) (hj : j ≤ 600) (v : Int32) : PR X 43 111 [some (vR (some (0, 0))), some (vI v), none, none] [TM, some (vI v), none, none] H j := by
  obtain ⟨c, nl, nf, np, A, B, hx, hw, hI, hF, hN, hS⟩ := h
  obtain ⟨T, fn, g, hi⟩ := id hI
  obtain ⟨t, e1, e2, e3, e4⟩ := cl_tick hI (by omega) v
  have hm := mX_tick X (h := pX H (x5_tickF nl nf np c v).2) (nl := nl) (nf := nf) (np := np) hw (gS H) v t e1 e2 e3
  obtain ⟨r, h', ⟨x, rx, q⟩, hm⟩ := wp_ex hm
  have : ∃ s', h' = pS (pX H (x5_tickF nl nf np c v).2) s' ∧ (x5_tickF nl nf np c v).1 = x ∧ IVC nl nf np (j + 1) A B (x5_tickF nl nf np c v).2 s' := by
    rcases q with ⟨q1, q2, q3⟩ | ⟨q1, q2, q3, q4⟩ | ⟨m, q1, q2, q3, q4, q5, q6⟩
    · obtain ⟨y1, y2⟩ := e4 x (refuseF (gS H) 4) (Or.inl ⟨q1, q2, rfl⟩)
      exact ⟨_, q3, y1, y2⟩
    · obtain ⟨y1, y2⟩ := e4 x (refuseF (gS H) 6) (Or.inr (Or.inl ⟨q1, q2, q3, rfl⟩))
      exact ⟨_, q4, y1, y2⟩
    · obtain ⟨y1, y2⟩ := e4 x (tickF nl nf np t m (gS H)) (Or.inr (Or.inr ⟨m, q1, q2, q3, q4, q5, rfl⟩))
      exact ⟨_, q6, y1, y2⟩
  obtain ⟨s', y1, y2, y3⟩ := this
  rw [rx, y1, ← y2] at hm
  exact pair_mk hx hw rfl hF hN hS _ _ _ (x5_tick X hw c (IV_KC hi) v) hm y3
theorem pr_open (X : Nat × (Nat → Int32)) {H : Hp} {j : Nat} (h : LW H j) (hj : j ≤ 600) (k v d : Int32) : PR X 35 88 [some (vR (some (0, 0))), some (vI k), some (vI v), some (vI d), none] [TM, some (vI k), some (vI v), some (vI d), none] H j := by
  obtain ⟨c, nl, nf, np, A, B, hx, hw, hI, hF, hN, hS⟩ := h
  obtain ⟨T, fn, g, hi⟩ := id hI
  obtain ⟨g1, g2, g3, g4, g5, g6, g7, g8⟩ := hi.1.2.2.2.2.2.2.1
  obtain ⟨e1, e2⟩ := cl_open hI k v d
  have hc := x5_open X hw c g1.1 k v d
  rcases e2 with ⟨e2, e3⟩ | ⟨e2, e3, e4⟩
  · rw [e2] at hc
    have hm := mX_open X (h := pX H (x5_openF nl c k v d).2.1) (nl := nl) (nf := nf) (np := np) hw (gS H) g1.2.1 g1.2.2 k v d
    rw [← e1] at hm
    exact pair_mk hx hw rfl hF hN hS _ _ _ (w_mono hc (fun r h' q => ⟨q.1, q.2.1⟩)) hm e3
  · rw [e2] at hc
    have hw' := WF_open hw e3
    have hm := mX_open X (h := pX (OH H nl) (x5_openF nl c k v d).2.1) (nl := nl + 1) (nf := nf) (np := np) hw' (gS H) g1.2.1 g1.2.2 k v d
    have e5 : openF (nl + 1) nf np (gS H) k v d = openF nl nf np (gS H) k v d := rfl
    rw [e5, ← e1] at hm
    refine pair_mk hx hw' (OH_g H nl) (fun f hf => ?_) ?_ ?_ _ _ _ (w_mono hc (fun r h' q => ⟨q.1, q.2.1⟩)) hm e4
    · rw [OH_L hw hf]
      exact hF f hf
    · rw [OH_N]
      omega
    · rw [OH_S]
      omega
theorem pr_frame (X : Nat × (Nat → Int32)) {H : Hp} {j : Nat} (h : LW H j) (hj : j ≤ 600) : PR X 39 92 [some (vR (some (0, 0))), none, none, none, none] [TM, none, none, none, none] H j := by
  obtain ⟨c, nl, nf, np, A, B, hx, hw, hI, hF, hN, hS⟩ := h
  obtain ⟨T, fn, g, hi⟩ := id hI
  obtain ⟨g1, g2, g3, g4, g5, g6, g7, g8⟩ := hi.1.2.2.2.2.2.2.1
  obtain ⟨t, q, m, f1, f2, f3, f4, f5, f6, f7, f8, f9, f10, f11, r3, r6, r0⟩ := cl_frame hI
  have hc := x5_frame X hw c g2.1 g6.1 t q m f8 f2 f9 f4 f5 f6 f7
  have hnp := IV_np hi
  have hnf := hi.1.1.1.1
  obtain ⟨r, h', hq, hc⟩ := wp_ex hc
  rcases hq with ⟨q1, q2, q3⟩ | ⟨q1, q2, q3⟩ | ⟨q1, q2, q3, q4, c2, q5, q6, q7⟩
  · obtain ⟨y1, y2⟩ := r3 q1
    have hm := mX_frame X (h := pX H (refX c 3)) (nl := nl) (nf := nf) (np := np) hw (gS H) nf np t q (B nf) g2.2 hnf g6.2 hnp f1 f2 f3 f5 f4 f10 f11
    rw [y1] at hm
    rw [q2, q3] at hc
    exact pair_mk hx hw rfl hF hN hS _ _ _ hc hm y2
  · obtain ⟨y1, y2⟩ := r6 q1
    have hm := mX_frame X (h := pX H (refX c 6)) (nl := nl) (nf := nf) (np := np) hw (gS H) nf np t q (B nf) g2.2 hnf g6.2 hnp f1 f2 f3 f5 f4 f10 f11
    rw [y1] at hm
    rw [q2, q3] at hc
    exact pair_mk hx hw rfl hF hN hS _ _ _ hc hm y2
  · obtain ⟨y1, y2⟩ := r0 q1 q3 q4
    have hw' := WF_frame hw q3 q4 t
    have y3 := y2 c2 q5 q6
    obtain ⟨z1, z2, z3, z4, z5⟩ := FRH_a hw m t
    have hm := mX_frame X (h := pX (FRH H nf np m t) (FRC c2 nf np m t)) (nl := nl) (nf := nf + 1) (np := np + m) hw' (gS H) nf np t q (B nf) g2.2 hnf g6.2 hnp f1 f2 f3 f5 f4 f10 f11
    rw [y1] at hm
    rw [q2, q7] at hc
    refine pair_mk hx hw' z3 (fun f hf => ?_) (by rw [z1]; omega) (by rw [z2]; omega) _ _ _ hc hm y3
    by_cases w : f = nf
    · subst w
      rw [z5, exN_e, exN_n _ _ (by omega)]
      omega
    · rw [z4 f (by omega), exN_n _ _ (by omega), exN_n _ _ (by omega)]
      exact hF f (by omega)
