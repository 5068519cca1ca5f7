/-! The reference's state as numbers: s 0 k its own ints, s j k the k-th place of its row j (the cell (22 + j, 0)). -/
abbrev SS : Type := Nat → Nat → Int32
def gS (h : Hp) : SS := fun j k => hpI h (22 + j, 0) k
def pS (h : Hp) (s : SS) : Hp := (h.1, h.2.1, fun n k => if 22 ≤ n.1 ∧ n.2 = 0 then s (n.1 - 22) k else h.2.2.1 n k, h.2.2.2)
def uS (s : SS) (j k : Nat) (v : Int32) : SS := fun j' k' => if j' = j ∧ k' = k then v else s j' k'
theorem pS_at (h : Hp) (s : SS) (j k : Nat) : hpI (pS h s) (22 + j, 0) k = s j k := by
  show (if 22 ≤ 22 + j ∧ 0 = 0 then s (22 + j - 22) k else _) = _
  rw [if_pos ⟨by omega, rfl⟩, Nat.add_sub_cancel_left]
theorem gS_pS (h : Hp) (s : SS) : gS (pS h s) = s := by
  funext j k
  exact pS_at h s j k
theorem pS_gS (h : Hp) : pS h (gS h) = h := by
  obtain ⟨a, b, c, d⟩ := h
  show (a, b, _, d) = (a, b, c, d)
  congr 3
  funext n k
  by_cases q : 22 ≤ n.1 ∧ n.2 = 0
  · rw [if_pos q]
    show c (22 + (n.1 - 22), 0) k = c n k
    congr 1
    obtain ⟨n1, n2⟩ := n
    obtain ⟨q1, q2⟩ := q
    dsimp only at q1 q2
    subst q2
    rw [show 22 + (n1 - 22) = n1 by omega]
  · rw [if_neg q]
theorem pS_set (h : Hp) (s : SS) (j k : Nat) (v : Int32) : setI (pS h s) (22 + j, 0) k v = pS h (uS s j k v) := by
  obtain ⟨a, b, c, d⟩ := h
  show (a, b, _, d) = (a, b, _, d)
  congr 3
  funext n k'
  obtain ⟨n1, n2⟩ := n
  show (if (n1, n2) = (22 + j, 0) ∧ k' = k then v else if 22 ≤ n1 ∧ n2 = 0 then s (n1 - 22) k' else c (n1, n2) k') = if 22 ≤ n1 ∧ n2 = 0 then uS s j k v (n1 - 22) k' else c (n1, n2) k'
  by_cases q : 22 ≤ n1 ∧ n2 = 0
  · rw [if_pos q, if_pos q]
    unfold uS
    obtain ⟨q1, q2⟩ := q
    subst q2
    have e : ((n1, 0) = (22 + j, 0) ∧ k' = k) ↔ (n1 - 22 = j ∧ k' = k) := by
      rw [Prod.mk.injEq]
      constructor
      · rintro ⟨⟨z, -⟩, w⟩
        exact ⟨by omega, w⟩
      · rintro ⟨z, w⟩
        exact ⟨⟨by omega, rfl⟩, w⟩
    by_cases z : n1 - 22 = j ∧ k' = k
    · rw [if_pos (e.mpr z), if_pos z]
    · rw [if_neg (fun w => z (e.mp w)), if_neg z]
  · rw [if_neg q, if_neg q, if_neg]
    rintro ⟨z, -⟩
    rw [Prod.mk.injEq] at z
    exact q ⟨by omega, z.2⟩
theorem pS_pS (h : Hp) (s t : SS) : pS (pS h s) t = pS h t := by
  obtain ⟨a, b, c, d⟩ := h
  show (a, b, _, d) = (a, b, _, d)
  congr 3
  funext n k
  by_cases q : 22 ≤ n.1 ∧ n.2 = 0
  · rw [if_pos q, if_pos q]
  · rw [if_neg q, if_neg q]
    exact if_neg q
theorem uS_eq (s : SS) (j k : Nat) (v : Int32) : uS s j k v j k = v := if_pos ⟨rfl, rfl⟩
theorem uS_ne (s : SS) {j k : Nat} (v : Int32) {j' k' : Nat} (q : ¬ (j' = j ∧ k' = k)) : uS s j k v j' k' = s j' k' := if_neg q
theorem uS_j (s : SS) {j k : Nat} (v : Int32) {j' : Nat} (k' : Nat) (q : ¬ j' = j) : uS s j k v j' k' = s j' k' := if_neg (fun z => q z.1)
theorem uS_k (s : SS) {j k : Nat} (v : Int32) (j' : Nat) {k' : Nat} (q : ¬ k' = k) : uS s j k v j' k' = s j' k' := if_neg (fun z => q z.2)
theorem nI_mul (a b : Nat) : nI a * nI b = nI (a * b) := by
  unfold nI
  exact (Int32.ofNat_mul a b).symm
theorem nI_sub {a b : Nat} (h : b ≤ a) : nI a - nI b = nI (a - b) := by
  have e : nI a = nI (a - b) + nI b := by rw [nI_add, Nat.sub_add_cancel h]
  rw [e, Int32.add_sub_cancel]
section MR
variable {X : Nat × (Nat → Int32)} {y pc : Nat} {L : Ls} {st : St} {h : Hp} {s : SS} {Q : Option Vl → Hp → Prop} {ins : Instr} {len a b : Nat} {nl nf np : Nat}
theorem wM (hw : WF h nl nf np) (j : Nat) (hj : j < 39) : live (pS h s) (22 + j, 0) := by
  show 0 < hpC h (22 + j)
  rw [hw.1]
  unfold cntOf
  rw [if_neg (by omega), if_neg (by omega), if_neg (by omega), if_neg (by omega), if_pos (by omega)]
  exact Nat.one_pos
theorem m_g {ix : Nat} (hw : WF h nl nf np) (hc : cd y pc = some (.getfield ix, len, 6, b)) (hf : fty 6 b = 0) (k : wp X y (pc + len) L (vI (s 0 b) :: st) (pS h s) Q) : wp X y pc L (vR (some (22, 0)) :: st) (pS h s) Q := by
  refine w_op hc (h1 := pS h s) (st' := vI (hpI (pS h s) (22, 0) b) :: st) (C := live (pS h s) (22, 0) ∧ kd 22 = 6) ?_ ⟨wM hw 0 (by omega), rfl⟩ ?_
  · unfold op
    dsimp only
    rw [hf]
    rfl
  · rw [show hpI (pS h s) (22, 0) b = s 0 b from pS_at h s 0 b]
    exact k
theorem m_gR {ix : Nat} (j : Nat) (hw : WF h nl nf np) (hc : cd y pc = some (.getfield ix, len, 6, b)) (hf : fty 6 b = 2) (hj : srf 6 b = 22 + j) (k : wp X y (pc + len) L (vR (some (22 + j, 0)) :: st) (pS h s) Q) : wp X y pc L (vR (some (22, 0)) :: st) (pS h s) Q := by
  refine w_op hc (h1 := pS h s) (st' := vR (some (srf 6 b, 0)) :: st) (C := live (pS h s) (22, 0) ∧ kd 22 = 6 ∧ hpR (pS h s) (22, 0) b = some (srf 6 b, 0)) ?_ ⟨wM hw 0 (by omega), rfl, ?_⟩ ?_
  · unfold op
    dsimp only
    rw [hf]
    rfl
  · exact wr (t := 22) (i := 0) hw Nat.one_pos hf
  · rw [hj]
    exact k
theorem m_p {ix : Nat} {v : Int32} (hw : WF h nl nf np) (hc : cd y pc = some (.putfield ix, len, 6, b)) (hf : fty 6 b = 0) (k : wp X y (pc + len) L st (pS h (uS s 0 b v)) Q) : wp X y pc L (vI v :: vR (some (22, 0)) :: st) (pS h s) Q := by
  refine w_op hc (st' := st) (h1 := setI (pS h s) (22, 0) b v) (C := live (pS h s) (22, 0) ∧ kd 22 = 6) ?_ ⟨wM hw 0 (by omega), rfl⟩ ?_
  · unfold op
    dsimp only
    rw [hf]
    rfl
  · rw [show setI (pS h s) (22, 0) b v = pS h (uS s 0 b v) from pS_set h s 0 b v]
    exact k
theorem wMN (hw : WF h nl nf np) (j : Nat) (hj : j < 39) (hs : slen (22 + j) ≠ 0) : hpL (pS h s) (22 + j, 0) = slen (22 + j) := by
  refine wn (t := 22 + j) (i := 0) hw ?_ hs
  unfold cntOf
  rw [if_neg (by omega), if_neg (by omega), if_neg (by omega), if_neg (by omega), if_pos (by omega)]
  exact Nat.one_pos
theorem slen_lt (t : Nat) : slen t < 2147483648 := by
  unfold slen
  rw [List.getD_eq_getElem?_getD]
  cases q : mc_len[t]? with
  | none => exact Nat.le_of_ble_eq_true rfl
  | some x =>
    have : mc_len.all (fun x => Nat.blt x 2147483648) = true := by decide +kernel
    exact Nat.le_of_ble_eq_true (List.all_eq_true.mp this x (List.mem_of_getElem? q))
theorem m_ai {x : Int32} (j k : Nat) (hw : WF h nl nf np) (hc : cd y pc = some (.iaload, len, 0, b)) (hk : kd (22 + j) = 100) (hj : j < 39) (hx : x = nI k) (hkl : k < slen (22 + j)) (kk : wp X y (pc + len) L (vI (s j k) :: st) (pS h s) Q) : wp X y pc L (vI x :: vR (some (22 + j, 0)) :: st) (pS h s) Q := by
  refine w_ai k hc (wM hw j hj) hk (wMN hw j hj (by omega)) (slen_lt _) hx hkl ?_
  rw [pS_at]
  exact kk
theorem m_ab {x : Int32} (j k : Nat) (hw : WF h nl nf np) (hc : cd y pc = some (.baload, len, a, b)) (hk : a = 0 ∧ kd (22 + j) = 101 ∨ a = 1 ∧ kd (22 + j) = 102) (hj : j < 39) (hx : x = nI k) (hkl : k < slen (22 + j)) (kk : wp X y (pc + len) L (vI (s j k) :: st) (pS h s) Q) : wp X y pc L (vI x :: vR (some (22 + j, 0)) :: st) (pS h s) Q := by
  refine w_ab k hc (wM hw j hj) hk (wMN hw j hj (by omega)) (slen_lt _) hx hkl ?_
  rw [pS_at]
  exact kk
theorem m_si {x v : Int32} (j k : Nat) (hw : WF h nl nf np) (hc : cd y pc = some (.iastore, len, a, b)) (hk : kd (22 + j) = 100) (hj : j < 39) (hx : x = nI k) (hkl : k < slen (22 + j)) (kk : wp X y (pc + len) L st (pS h (uS s j k v)) Q) : wp X y pc L (vI v :: vI x :: vR (some (22 + j, 0)) :: st) (pS h s) Q := by
  refine w_si k hc (wM hw j hj) hk (wMN hw j hj (by omega)) (slen_lt _) hx hkl ?_
  rw [pS_set]
  exact kk
theorem m_sb {x v : Int32} (j k : Nat) (hw : WF h nl nf np) (hc : cd y pc = some (.bastore, len, 0, b)) (hk : kd (22 + j) = 101) (hj : j < 39) (hx : x = nI k) (hkl : k < slen (22 + j)) (kk : wp X y (pc + len) L st (pS h (uS s j k v.toInt8.toInt32)) Q) : wp X y pc L (vI v :: vI x :: vR (some (22 + j, 0)) :: st) (pS h s) Q := by
  refine w_sb k hc (wM hw j hj) hk (wMN hw j hj (by omega)) (slen_lt _) hx hkl ?_
  rw [pS_set]
  exact kk
theorem m_sz {x v : Int32} (j k : Nat) (hw : WF h nl nf np) (hc : cd y pc = some (.bastore, len, 1, b)) (hk : kd (22 + j) = 102) (hj : j < 39) (hx : x = nI k) (hkl : k < slen (22 + j)) (hv : v = 0 ∨ v = 1) (kk : wp X y (pc + len) L st (pS h (uS s j k v)) Q) : wp X y pc L (vI v :: vI x :: vR (some (22 + j, 0)) :: st) (pS h s) Q := by
  refine w_sz k hc (wM hw j hj) hk (wMN hw j hj (by omega)) (slen_lt _) hx hkl hv ?_
  rw [pS_set]
  exact kk
theorem w_top {x : Int32} (v : Int32) (hv : x = v) (k : wp X y pc L (vI v :: st) h Q) : wp X y pc L (vI x :: st) h Q := by
  subst hv
  exact k
/-- the row of locals in another form -/
theorem w_loc (L' : Ls) (hL : L = L') (k : wp X y pc L' st h Q) : wp X y pc L st h Q := by
  subst hL
  exact k
theorem w_hp (h' : Hp) (hh : h = h') (k : wp X y pc L st h' Q) : wp X y pc L st h Q := by
  subst hh
  exact k
/-- a counter goes on by one -/
theorem w_i1 {i k : Nat} (hc : cd y pc = some (.iinc i 1, len, a, b)) (hl : L[i]? = some (some (vI (nI k)))) (hs : (decide (i < L.length) && okst L i) = true) (kk : wp X y (pc + len) (L.set i (some (vI (nI (k + 1))))) st h Q) : wp X y pc L st h Q := by
  refine w_inc (v := 1) hc hl hs rfl ?_
  rw [nI_1]
  exact kk
end MR
