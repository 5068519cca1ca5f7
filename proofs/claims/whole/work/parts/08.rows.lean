/-! Rows by which the small machine's methods are walked. -/
def slen (t : Nat) : Nat := mc_len.getD t 0
def cntOf (nl nf np t : Nat) : Nat := if t < 7 then 1 else if t < 18 then nl else if t < 20 then np else if t < 22 then nf else if t < 61 then 1 else 0
/-- what stands: so many lines, frames, pieces; every reference leads where it should; every row has its length -/
def WF (h : Hp) (nl nf np : Nat) : Prop := (∀ t, hpC h t = cntOf nl nf np t) ∧ (∀ t i k, i < hpC h t → fty (kd t) k = 2 → hpR h (t, i) k = some (srf (kd t) k, i)) ∧ (∀ t i, i < hpC h t → slen t ≠ 0 → hpL h (t, i) = slen t) ∧ (∀ k, k < nl → hpR h (1, 0) k = some (7, k)) ∧ (∀ k, k < nf → hpR h (2, 0) k = some (20, k)) ∧ (∀ k, k < np → hpR h (3, 0) k = some (18, k)) ∧ nl ≤ 8 ∧ nf ≤ 300 ∧ np ≤ 3000
theorem wl {h : Hp} {nl nf np t i : Nat} (hw : WF h nl nf np) (hi : i < cntOf nl nf np t) : live h (t, i) := by
  show i < hpC h t
  rw [hw.1]
  exact hi
theorem wr {h : Hp} {nl nf np t i k : Nat} (hw : WF h nl nf np) (hi : i < cntOf nl nf np t) (hf : fty (kd t) k = 2) : hpR h (t, i) k = some (srf (kd t) k, i) := hw.2.1 t i k (wl hw hi) hf
theorem wn {h : Hp} {nl nf np t i : Nat} (hw : WF h nl nf np) (hi : i < cntOf nl nf np t) (hs : slen t ≠ 0) : hpL h (t, i) = slen t := hw.2.2.1 t i (wl hw hi) hs
theorem nat_nI {k : Nat} (hk : k < 2147483648) : nat (nI k) = k := nI_clamp hk
theorem inb_nI {k n : Nat} (hk : k < n) (hn : n < 2147483648) : inb (nI k) n := ⟨nI_pos (by omega), by rw [nI_clamp (by omega)]; exact hk⟩
section WR
variable {X : Nat × (Nat → Int32)} {y pc : Nat} {L : Ls} {st : St} {h : Hp} {Q : Option Vl → Hp → Prop} {ins : Instr} {len a b : Nat}
theorem w_gI {t i ix : Nat} (hc : cd y pc = some (.getfield ix, len, a, b)) (ho : op X (.getfield ix) a b (vR (some (t, i)) :: st) h = some (vI (hpI h (t, i) b) :: st, h, live h (t, i) ∧ kd t = a)) (hl : live h (t, i)) (hk : kd t = a) (k : wp X y (pc + len) L (vI (hpI h (t, i) b) :: st) h Q) : wp X y pc L (vR (some (t, i)) :: st) h Q := w_op hc ho ⟨hl, hk⟩ k
/-- an int field whose value is known -/
theorem w_gV {t i ix : Nat} (v : Int32) (hc : cd y pc = some (.getfield ix, len, a, b)) (ho : op X (.getfield ix) a b (vR (some (t, i)) :: st) h = some (vI (hpI h (t, i) b) :: st, h, live h (t, i) ∧ kd t = a)) (hl : live h (t, i)) (hk : kd t = a) (hv : hpI h (t, i) b = v) (k : wp X y (pc + len) L (vI v :: st) h Q) : wp X y pc L (vR (some (t, i)) :: st) h Q := by
  subst hv
  exact w_op hc ho ⟨hl, hk⟩ k
theorem w_gR {t i ix : Nat} (tgt : Nat) (hc : cd y pc = some (.getfield ix, len, a, b)) (ho : op X (.getfield ix) a b (vR (some (t, i)) :: st) h = some (vR (some (tgt, i)) :: st, h, live h (t, i) ∧ kd t = a ∧ hpR h (t, i) b = some (tgt, i))) (hl : live h (t, i)) (hk : kd t = a) (hr : hpR h (t, i) b = some (tgt, i)) (k : wp X y (pc + len) L (vR (some (tgt, i)) :: st) h Q) : wp X y pc L (vR (some (t, i)) :: st) h Q := w_op hc ho ⟨hl, hk, hr⟩ k
theorem w_pI {t i ix : Nat} {v : Int32} (hc : cd y pc = some (.putfield ix, len, a, b)) (ho : op X (.putfield ix) a b (vI v :: vR (some (t, i)) :: st) h = some (st, setI h (t, i) b v, live h (t, i) ∧ kd t = a)) (hl : live h (t, i)) (hk : kd t = a) (k : wp X y (pc + len) L st (setI h (t, i) b v) Q) : wp X y pc L (vI v :: vR (some (t, i)) :: st) h Q := w_op hc ho ⟨hl, hk⟩ k
theorem w_pB {t i ix : Nat} {v : Int32} (hc : cd y pc = some (.putfield ix, len, a, b)) (ho : op X (.putfield ix) a b (vI v :: vR (some (t, i)) :: st) h = some (st, setI h (t, i) b v, live h (t, i) ∧ kd t = a ∧ (v = 0 ∨ v = 1))) (hl : live h (t, i)) (hk : kd t = a) (hv : v = 0 ∨ v = 1) (k : wp X y (pc + len) L st (setI h (t, i) b v) Q) : wp X y pc L (vI v :: vR (some (t, i)) :: st) h Q := w_op hc ho ⟨hl, hk, hv⟩ k
theorem w_pR {t i ix : Nat} {m : Nm} (hc : cd y pc = some (.putfield ix, len, a, b)) (ho : op X (.putfield ix) a b (vR (some m) :: vR (some (t, i)) :: st) h = some (st, setR h (t, i) b (some m), live h (t, i) ∧ kd t = a ∧ live h m)) (hl : live h (t, i)) (hk : kd t = a) (hm : live h m) (k : wp X y (pc + len) L st (setR h (t, i) b (some m)) Q) : wp X y pc L (vR (some m) :: vR (some (t, i)) :: st) h Q := w_op hc ho ⟨hl, hk, hm⟩ k
/-- an int out of a row, at a place that is told as a number -/
theorem w_ai {t i N : Nat} {x : Int32} (j : Nat) (hc : cd y pc = some (.iaload, len, 0, b)) (hl : live h (t, i)) (hk : kd t = 100) (hN : hpL h (t, i) = N) (hN2 : N < 2147483648) (hx : x = nI j) (hj : j < N) (k : wp X y (pc + len) L (vI (hpI h (t, i) j) :: st) h Q) : wp X y pc L (vI x :: vR (some (t, i)) :: st) h Q := by
  subst hx hN
  refine w_op hc (st' := vI (hpI h (t, i) (nat (nI j))) :: st) rfl ⟨hl, hk, inb_nI hj hN2⟩ ?_
  rw [nat_nI (by omega)]
  exact k
theorem w_ab {t i N : Nat} {x : Int32} (j : Nat) (hc : cd y pc = some (.baload, len, a, b)) (hl : live h (t, i)) (hk : a = 0 ∧ kd t = 101 ∨ a = 1 ∧ kd t = 102) (hN : hpL h (t, i) = N) (hN2 : N < 2147483648) (hx : x = nI j) (hj : j < N) (k : wp X y (pc + len) L (vI (hpI h (t, i) j) :: st) h Q) : wp X y pc L (vI x :: vR (some (t, i)) :: st) h Q := by
  subst hx hN
  rcases hk with ⟨rfl, hk⟩ | ⟨rfl, hk⟩
  · refine w_op hc (st' := vI (hpI h (t, i) (nat (nI j))) :: st) rfl ⟨hl, hk, inb_nI hj hN2⟩ ?_
    rw [nat_nI (by omega)]
    exact k
  · refine w_op hc (st' := vI (hpI h (t, i) (nat (nI j))) :: st) rfl ⟨hl, hk, inb_nI hj hN2⟩ ?_
    rw [nat_nI (by omega)]
    exact k
theorem w_aq {t i N : Nat} {x : Int32} (j tgt : Nat) (hc : cd y pc = some (.aaload, len, a, b)) (he : ety t = tgt) (hl : live h (t, i)) (hk : kd t = 110 + kd (ety t)) (hk2 : kd (ety t) < 10) (hN : hpL h (t, i) = N) (hN2 : N < 2147483648) (hx : x = nI j) (hj : j < N) (hr : hpR h (t, i) j = some (tgt, j)) (k : wp X y (pc + len) L (vR (some (tgt, j)) :: st) h Q) : wp X y pc L (vI x :: vR (some (t, i)) :: st) h Q := by
  subst hx hN he
  refine w_op hc (st' := vR (some (ety t, nat (nI j))) :: st) rfl ⟨hl, hk, hk2, inb_nI hj hN2, ?_⟩ ?_
  · rw [nat_nI (by omega)]
    exact hr
  · rw [nat_nI (by omega)]
    exact k
theorem w_si {t i N : Nat} {x v : Int32} (j : Nat) (hc : cd y pc = some (.iastore, len, a, b)) (hl : live h (t, i)) (hk : kd t = 100) (hN : hpL h (t, i) = N) (hN2 : N < 2147483648) (hx : x = nI j) (hj : j < N) (k : wp X y (pc + len) L st (setI h (t, i) j v) Q) : wp X y pc L (vI v :: vI x :: vR (some (t, i)) :: st) h Q := by
  subst hx hN
  refine w_op hc (h1 := setI h (t, i) (nat (nI j)) v) rfl ⟨hl, hk, inb_nI hj hN2⟩ ?_
  rw [nat_nI (by omega)]
  exact k
theorem w_sb {t i N : Nat} {x v : Int32} (j : Nat) (hc : cd y pc = some (.bastore, len, 0, b)) (hl : live h (t, i)) (hk : kd t = 101) (hN : hpL h (t, i) = N) (hN2 : N < 2147483648) (hx : x = nI j) (hj : j < N) (k : wp X y (pc + len) L st (setI h (t, i) j v.toInt8.toInt32) Q) : wp X y pc L (vI v :: vI x :: vR (some (t, i)) :: st) h Q := by
  subst hx hN
  refine w_op hc (h1 := setI h (t, i) (nat (nI j)) v.toInt8.toInt32) rfl ⟨hl, hk, inb_nI hj hN2⟩ ?_
  rw [nat_nI (by omega)]
  exact k
theorem w_sz {t i N : Nat} {x v : Int32} (j : Nat) (hc : cd y pc = some (.bastore, len, 1, b)) (hl : live h (t, i)) (hk : kd t = 102) (hN : hpL h (t, i) = N) (hN2 : N < 2147483648) (hx : x = nI j) (hj : j < N) (hv : v = 0 ∨ v = 1) (k : wp X y (pc + len) L st (setI h (t, i) j v) Q) : wp X y pc L (vI v :: vI x :: vR (some (t, i)) :: st) h Q := by
  subst hx hN
  refine w_op hc (h1 := setI h (t, i) (nat (nI j)) v) rfl ⟨hl, hk, inb_nI hj hN2, hv⟩ ?_
  rw [nat_nI (by omega)]
  exact k
theorem w_sq {t i N : Nat} {x : Int32} {m : Nm} (j : Nat) (hc : cd y pc = some (.aastore, len, a, b)) (hl : live h (t, i)) (hk : kd t = 110 + kd m.1) (hk2 : kd m.1 < 10) (hm : live h m) (hN : hpL h (t, i) = N) (hN2 : N < 2147483648) (hx : x = nI j) (hj : j < N) (k : wp X y (pc + len) L st (setR h (t, i) j (some m)) Q) : wp X y pc L (vR (some m) :: vI x :: vR (some (t, i)) :: st) h Q := by
  subst hx hN
  refine w_op hc (h1 := setR h (t, i) (nat (nI j)) (some m)) rfl ⟨hl, hk, hk2, hm, inb_nI hj hN2⟩ ?_
  rw [nat_nI (by omega)]
  exact k
/-- a script's int -/
theorem w_sc {x : Int32} (j : Nat) (hc : cd y pc = some (.iaload, len, 1, b)) (hX : X.1 < 2147483648) (hx : x = nI j) (hj : j < X.1) (k : wp X y (pc + len) L (vI (X.2 j) :: st) h Q) : wp X y pc L (vI x :: vR (some (98, 0)) :: st) h Q := by
  subst hx
  refine w_op hc (st' := vI (X.2 (nat (nI j))) :: st) rfl ⟨rfl, inb_nI hj hX⟩ ?_
  rw [nat_nI (by omega)]
  exact k
theorem w_eq {x z : Int32} {off : Int} (hc : cd y pc = some (.if_icmp .eq off, 3, a, b)) (k1 : x = z → wp X y a L st h Q) (k2 : ¬ x = z → wp X y (pc + 3) L st h Q) : wp X y pc L (vI z :: vI x :: st) h Q := w_br hc rfl k1 k2
theorem w_ne {x z : Int32} {off : Int} (hc : cd y pc = some (.if_icmp .ne off, 3, a, b)) (k1 : ¬ x = z → wp X y a L st h Q) (k2 : x = z → wp X y (pc + 3) L st h Q) : wp X y pc L (vI z :: vI x :: st) h Q := w_br hc rfl k1 (fun q => k2 (Decidable.not_not.mp q))
theorem w_lt {x z : Int32} {off : Int} (hc : cd y pc = some (.if_icmp .lt off, 3, a, b)) (k1 : x < z → wp X y a L st h Q) (k2 : ¬ x < z → wp X y (pc + 3) L st h Q) : wp X y pc L (vI z :: vI x :: st) h Q := w_br hc rfl k1 k2
theorem w_ge {x z : Int32} {off : Int} (hc : cd y pc = some (.if_icmp .ge off, 3, a, b)) (k1 : z ≤ x → wp X y a L st h Q) (k2 : ¬ z ≤ x → wp X y (pc + 3) L st h Q) : wp X y pc L (vI z :: vI x :: st) h Q := w_br hc rfl k1 k2
theorem w_gt {x z : Int32} {off : Int} (hc : cd y pc = some (.if_icmp .gt off, 3, a, b)) (k1 : z < x → wp X y a L st h Q) (k2 : ¬ z < x → wp X y (pc + 3) L st h Q) : wp X y pc L (vI z :: vI x :: st) h Q := w_br hc rfl k1 k2
theorem w_le {x z : Int32} {off : Int} (hc : cd y pc = some (.if_icmp .le off, 3, a, b)) (k1 : x ≤ z → wp X y a L st h Q) (k2 : ¬ x ≤ z → wp X y (pc + 3) L st h Q) : wp X y pc L (vI z :: vI x :: st) h Q := w_br hc rfl k1 k2
theorem w_eq0 {x : Int32} {off : Int} (hc : cd y pc = some (.ifCond .eq off, 3, a, b)) (k1 : x = 0 → wp X y a L st h Q) (k2 : ¬ x = 0 → wp X y (pc + 3) L st h Q) : wp X y pc L (vI x :: st) h Q := w_br hc rfl k1 k2
theorem w_ne0 {x : Int32} {off : Int} (hc : cd y pc = some (.ifCond .ne off, 3, a, b)) (k1 : ¬ x = 0 → wp X y a L st h Q) (k2 : x = 0 → wp X y (pc + 3) L st h Q) : wp X y pc L (vI x :: st) h Q := w_br hc rfl k1 (fun q => k2 (Decidable.not_not.mp q))
theorem w_lt0 {x : Int32} {off : Int} (hc : cd y pc = some (.ifCond .lt off, 3, a, b)) (k1 : x < 0 → wp X y a L st h Q) (k2 : ¬ x < 0 → wp X y (pc + 3) L st h Q) : wp X y pc L (vI x :: st) h Q := w_br hc rfl k1 k2
theorem w_ge0 {x : Int32} {off : Int} (hc : cd y pc = some (.ifCond .ge off, 3, a, b)) (k1 : 0 ≤ x → wp X y a L st h Q) (k2 : ¬ 0 ≤ x → wp X y (pc + 3) L st h Q) : wp X y pc L (vI x :: st) h Q := w_br hc rfl k1 k2
theorem w_gt0 {x : Int32} {off : Int} (hc : cd y pc = some (.ifCond .gt off, 3, a, b)) (k1 : 0 < x → wp X y a L st h Q) (k2 : ¬ 0 < x → wp X y (pc + 3) L st h Q) : wp X y pc L (vI x :: st) h Q := w_br hc rfl k1 k2
theorem w_le0 {x : Int32} {off : Int} (hc : cd y pc = some (.ifCond .le off, 3, a, b)) (k1 : x ≤ 0 → wp X y a L st h Q) (k2 : ¬ x ≤ 0 → wp X y (pc + 3) L st h Q) : wp X y pc L (vI x :: st) h Q := w_br hc rfl k1 k2
/-- a reference that isn't null -/
theorem w_nn {n : Nm} {off : Int} (hc : cd y pc = some (.ifnonnull off, 3, a, b)) (k : wp X y a L st h Q) : wp X y pc L (vR (some n) :: st) h Q := w_br hc rfl (fun _ => k) (fun q => absurd (by simp) q)
theorem w_nnN {off : Int} (hc : cd y pc = some (.ifnonnull off, 3, a, b)) (k : wp X y (pc + 3) L st h Q) : wp X y pc L (vR none :: st) h Q := w_br hc rfl (fun q => absurd rfl q) (fun _ => k)
theorem w_nu {n : Nm} {off : Int} (hc : cd y pc = some (.ifnull off, 3, a, b)) (k : wp X y (pc + 3) L st h Q) : wp X y pc L (vR (some n) :: st) h Q := w_br hc rfl (fun q => absurd q (by simp)) (fun _ => k)
theorem w_nuN {off : Int} (hc : cd y pc = some (.ifnull off, 3, a, b)) (k : wp X y a L st h Q) : wp X y pc L (vR none :: st) h Q := w_br hc rfl (fun _ => k) (fun q => absurd rfl q)
/-- a call that answers v -/
theorem w_cg {args : List Vl} {st' : St} {P : Hp → Prop} (v : Vl) {E : Ls} (hc : cd y pc = some (ins, 3, a, b)) (hi : isInv ins = true) (ha : a < 135) (hb : b ≤ st.length) (hsp : spl b st = (args, st')) (hw : catS st' ≤ 8) (hsl : (spr args).length ≤ mlo a) (hro : rok h ins a args) (he : ent (mlo a) args = E) (hs : wp X a 0 E [] h (fun r h' => r = some v ∧ P h')) (k : ∀ h', P h' → wp X y (pc + 3) L (v :: st') h' Q) : wp X y pc L st h Q := by
  subst he
  refine w_ca hc hi ha hb hsp hw hsl hro hs (fun r1 h1 q => ?_)
  obtain ⟨rfl, q⟩ := q
  exact k h1 q
/-- a call that answers v and changes nothing -/
theorem w_cp {args : List Vl} {st' : St} (v : Vl) {E : Ls} (hc : cd y pc = some (ins, 3, a, b)) (hi : isInv ins = true) (ha : a < 135) (hb : b ≤ st.length) (hsp : spl b st = (args, st')) (hw : catS st' ≤ 8) (hsl : (spr args).length ≤ mlo a) (hro : rok h ins a args) (he : ent (mlo a) args = E) (hs : wp X a 0 E [] h (fun r h' => r = some v ∧ h' = h)) (k : wp X y (pc + 3) L (v :: st') h Q) : wp X y pc L st h Q :=
  w_cg v hc hi ha hb hsp hw hsl hro he hs (fun h' q => by rw [q]; exact k)
/-- a call that answers nothing -/
theorem w_cv {args : List Vl} {st' : St} {P : Hp → Prop} {E : Ls} (hc : cd y pc = some (ins, 3, a, b)) (hi : isInv ins = true) (ha : a < 135) (hb : b ≤ st.length) (hsp : spl b st = (args, st')) (hw : catS st' ≤ 8) (hsl : (spr args).length ≤ mlo a) (hro : rok h ins a args) (he : ent (mlo a) args = E) (hs : wp X a 0 E [] h (fun r h' => r = none ∧ P h')) (k : ∀ h', P h' → wp X y (pc + 3) L st' h' Q) : wp X y pc L st h Q := by
  subst he
  refine w_ca hc hi ha hb hsp hw hsl hro hs (fun r1 h1 q => ?_)
  obtain ⟨rfl, q⟩ := q
  exact k h1 q
end WR
section WE
variable {X : Nat × (Nat → Int32)} {y pc : Nat} {L : Ls} {st : St} {h : Hp} {Q : Option Vl → Hp → Prop} {ins : Instr} {len a b : Nat}
/-- a call that answers v, and the heap is H1 then -/
theorem w_cgE {args : List Vl} {st' : St} (v : Vl) (H1 : Hp) {E : Ls} (hc : cd y pc = some (ins, 3, a, b)) (hi : isInv ins = true) (ha : a < 135) (hb : b ≤ st.length) (hsp : spl b st = (args, st')) (hw : catS st' ≤ 8) (hsl : (spr args).length ≤ mlo a) (hro : rok h ins a args) (he : ent (mlo a) args = E) (hs : wp X a 0 E [] h (fun r h' => r = some v ∧ h' = H1)) (k : wp X y (pc + 3) L (v :: st') H1 Q) : wp X y pc L st h Q :=
  w_cg v hc hi ha hb hsp hw hsl hro he hs (fun h' q => by rw [q]; exact k)
/-- a call that answers nothing, and the heap is H1 then -/
theorem w_cvE {args : List Vl} {st' : St} (H1 : Hp) {E : Ls} (hc : cd y pc = some (ins, 3, a, b)) (hi : isInv ins = true) (ha : a < 135) (hb : b ≤ st.length) (hsp : spl b st = (args, st')) (hw : catS st' ≤ 8) (hsl : (spr args).length ≤ mlo a) (hro : rok h ins a args) (he : ent (mlo a) args = E) (hs : wp X a 0 E [] h (fun r h' => r = none ∧ h' = H1)) (k : wp X y (pc + 3) L st' H1 Q) : wp X y pc L st h Q :=
  w_cv hc hi ha hb hsp hw hsl hro he hs (fun h' q => by rw [q]; exact k)
end WE
