/-! Branches, switches, returns, calls. -/
theorem so_bT (X : Nat × (Nat → Int32)) (D : va_G) (l : Launch) : RbT (PW X D l) := by
  intro y pc L st h r h' ins a b st' C hc hp hC kn
  obtain ⟨hd, hw⟩ := cd_ok hc
  refine ⟨kn.1, kn.2.1, ?_⟩
  intro p e R s m args below meth c A Z F hf hlo H locs cells slots ad ca nms tys ls hW hS hSC hL hLn hoL hoS hcs hss K
  have kk := fun hoS' => kn.2.2 p e R s m args below meth c A Z F hf hlo H locs cells slots ad ca nms tys ls hW hS hSC hL hLn hoL hoS' hcs hss K
  obtain ⟨hx, hb, hml, hown, hts, -, hA, -⟩ := F
  unfold br at hp
  split at hp
  · rename_i ins0 st0 cnd off z x st1
    cases hp
    have k2 := kk (okS_t (okS_t hoS))
    cases cnd
    · exact lv_icmp_eq hx hb hd hw (fun _ => k2) (fun q => absurd hC q)
    · exact lv_icmp_ne hx hb hd hw (fun _ => k2) (fun q => absurd q hC)
    · exact lv_icmp_lt hx hb hd hw (fun _ => k2) (fun q => absurd hC q)
    · exact lv_icmp_ge hx hb hd hw (fun _ => k2) (fun q => absurd hC q)
    · exact lv_icmp_gt hx hb hd hw (fun _ => k2) (fun q => absurd hC q)
    · exact lv_icmp_le hx hb hd hw (fun _ => k2) (fun q => absurd hC q)
  · rename_i ins0 st0 cnd off x st1
    cases hp
    have k2 := kk (okS_t hoS)
    cases cnd
    · exact lv_if_eq hx hb hd hw (fun _ => k2) (fun q => absurd hC q)
    · exact lv_if_ne hx hb hd hw (fun _ => k2) (fun q => absurd q hC)
    · exact lv_if_lt hx hb hd hw (fun _ => k2) (fun q => absurd hC q)
    · exact lv_if_ge hx hb hd hw (fun _ => k2) (fun q => absurd hC q)
    · exact lv_if_gt hx hb hd hw (fun _ => k2) (fun q => absurd hC q)
    · exact lv_if_le hx hb hd hw (fun _ => k2) (fun q => absurd hC q)
  · rename_i ins0 st0 off o st1
    cases hp
    have k2 := kk (okS_t hoS)
    cases o with
    | none => exact lv_ifnullN hx hb hd hw k2
    | some n => exact absurd hC (by simp)
  · rename_i ins0 st0 off o st1
    cases hp
    have k2 := kk (okS_t hoS)
    cases o with
    | none => exact absurd rfl hC
    | some n => exact lv_ifnonnull hx hb hd hw k2
  · rename_i ins0 st0 off
    cases hp
    exact lv_goto hx hb hd hw (kk hoS)
  · cases hp
theorem so_bF (X : Nat × (Nat → Int32)) (D : va_G) (l : Launch) : RbF (PW X D l) := by
  intro y pc L st h r h' ins a b st' C hc hp hC kn
  obtain ⟨hd, hw⟩ := cd_ok hc
  refine ⟨kn.1, kn.2.1, ?_⟩
  intro p e R s m args below meth c A Z F hf hlo H locs cells slots ad ca nms tys ls hW hS hSC hL hLn hoL hoS hcs hss K
  have kk := fun hoS' => kn.2.2 p e R s m args below meth c A Z F hf hlo H locs cells slots ad ca nms tys ls hW hS hSC hL hLn hoL hoS' hcs hss K
  obtain ⟨hx, hb, hml, hown, hts, -, hA, -⟩ := F
  unfold br at hp
  split at hp
  · rename_i ins0 st0 cnd off z x st1
    cases hp
    have k2 := kk (okS_t (okS_t hoS))
    cases cnd
    · exact lv_icmp_eq hx hb hd hw (fun q => absurd q hC) (fun _ => k2)
    · exact lv_icmp_ne hx hb hd hw (fun q => absurd q hC) (fun _ => k2)
    · exact lv_icmp_lt hx hb hd hw (fun q => absurd q hC) (fun _ => k2)
    · exact lv_icmp_ge hx hb hd hw (fun q => absurd q hC) (fun _ => k2)
    · exact lv_icmp_gt hx hb hd hw (fun q => absurd q hC) (fun _ => k2)
    · exact lv_icmp_le hx hb hd hw (fun q => absurd q hC) (fun _ => k2)
  · rename_i ins0 st0 cnd off x st1
    cases hp
    have k2 := kk (okS_t hoS)
    cases cnd
    · exact lv_if_eq hx hb hd hw (fun q => absurd q hC) (fun _ => k2)
    · exact lv_if_ne hx hb hd hw (fun q => absurd q hC) (fun _ => k2)
    · exact lv_if_lt hx hb hd hw (fun q => absurd q hC) (fun _ => k2)
    · exact lv_if_ge hx hb hd hw (fun q => absurd q hC) (fun _ => k2)
    · exact lv_if_gt hx hb hd hw (fun q => absurd q hC) (fun _ => k2)
    · exact lv_if_le hx hb hd hw (fun q => absurd q hC) (fun _ => k2)
  · rename_i ins0 st0 off o st1
    cases hp
    have k2 := kk (okS_t hoS)
    cases o with
    | none => exact absurd rfl hC
    | some n => exact lv_ifnull hx hb hd k2
  · rename_i ins0 st0 off o st1
    cases hp
    have k2 := kk (okS_t hoS)
    cases o with
    | none => exact lv_ifnonnullN hx hb hd k2
    | some n => exact absurd (by simp) hC
  · cases hp
    exact absurd trivial hC
  · cases hp
theorem so_sw (X : Nat × (Nat → Int32)) (D : va_G) (l : Launch) : Rsw (PW X D l) := by
  intro y pc L st h r h' ins len a b x t hc hp kn
  obtain ⟨hd, hw⟩ := cd_ok hc
  refine ⟨kn.1, kn.2.1, ?_⟩
  intro p e R s m args below meth c A Z F hf hlo H locs cells slots ad ca nms tys ls hW hS hSC hL hLn hoL hoS hcs hss K
  have kk := kn.2.2 p e R s m args below meth c A Z F hf hlo H locs cells slots ad ca nms tys ls hW hS hSC hL hLn hoL (okS_t hoS) hcs hss K
  obtain ⟨hx, hb, hml, hown, hts, -, hA, -⟩ := F
  unfold swt at hp
  split at hp
  · rename_i ins0 d lo hi offs
    obtain ⟨hw1, hw2⟩ := (hw : 0 ≤ (pc : Int) + d ∧ offs.toList.all (fun o => decide (0 ≤ (pc : Int) + o)) = true)
    split at hp
    · next q =>
      cases hp
      exact lv_tableOut hx hb hd q (Int.toNat_of_nonneg hw1).symm kk
    · next q =>
      obtain ⟨off, ho, rfl⟩ := Option.map_eq_some_iff.mp hp
      have hm : 0 ≤ (pc : Int) + off := by
        have := List.all_eq_true.mp hw2 off (Array.mem_toList_iff.mpr (Array.mem_of_getElem? ho))
        simpa using this
      exact lv_tableIn hx hb hd (fun z => q (Or.inl z)) (fun z => q (Or.inr z)) ho (Int.toNat_of_nonneg hm).symm kk
  · cases hp
theorem rt_st {ins : Instr} {a : Nat} {st : St} {r : Option Vl} {C : Prop} (hp : rt ins a st = some (r, C)) : st = r.toList := by
  unfold rt at hp
  split at hp
  · split at hp <;> cases hp <;> rfl
  · cases hp
    rfl
  · cases hp
    rfl
  · cases hp
theorem so_rt (X : Nat × (Nat → Int32)) (D : va_G) (l : Launch) : Rrt (PW X D l) := by
  intro y pc L st h r ins len a b C hc hp hC
  refine ⟨Nat.le_refl _, Nat.le_refl _, ?_⟩
  intro p e R s m args below meth c A Z F hf hlo H locs cells slots ad ca nms tys ls hW hS hSC hL hLn hoL hoS hcs hss K
  have e1 := rt_st hp
  have k := K pc ls H locs ad ca nms tys ⟨ins, len, a, b, st, C, hc, hp, hC⟩ hW hS (Ext_rf nms ad) (fun v hv => hoS v (by rw [e1, hv]; exact List.mem_singleton.mpr rfl)) hL.1
  rw [Nat.sub_self, Nat.sub_self, Nat.add_zero, Nat.add_zero] at k
  rw [e1]
  exact k
/-- what a method's contract says of its end -/
def Qm (D : va_G) (r1 : Option Vl) (h h1 : Hp) (ad : Nm → Nat) (ca : Nm → ClassId) (nms : List Nm) (sz : Nat) : Array Value → State → Outcome → State → Prop := fun _ st0 oc t =>
  (∃ (ad1 : Nm → Nat) (ca1 : Nm → ClassId) (nms1 : List Nm) (tys1 : List (ClassId × FieldType)), oc = .returned (r1.map (rl ad1)) ∧ Ext nms nms1 ad ad1 ∧ (∀ v, r1 = some v → okV nms1 v) ∧ va_P D vwCl (wso h1 ad1 ca1 nms1) t.heap ∧ va_D (va_A (wso h ad ca nms) sz) (wso h1 ad1 ca1 nms1) ∧ va_K D vwCl tys1 t ∧ (∀ n, n ∈ nms1 ↔ live h1 n) ∧ (∀ n ∈ nms1, 100 ≤ kd n.1 → ∃ t0 : Nat, tys1[t0]? = some (ca1 n, tyA (kd n.1))) ∧ (∀ n k m, hpR h1 n k = some m → m ∈ nms1) ∧ (∀ n, kd n.1 = 101 → ∀ j, fits .byte (.int (hpI h1 n j)) = true)) ∧ va_F (va_A (wso h ad ca nms) sz) st0 t
def Bm (D : va_G) (h : Hp) (ad : Nm → Nat) (ca : Nm → ClassId) (nms : List Nm) (tys : List (ClassId × FieldType)) (sz : Nat) : State → Prop := fun U => U.heap.size = sz ∧ va_P D vwCl (wso h ad ca nms) U.heap ∧ va_K D vwCl tys U ∧ va_D (fun _ => True) (wso h ad ca nms) ∧ Wx U
theorem Wx_moved {u U : State} (hvm : u.WarmedH U.vm) (h : Wx u) : Wx U := ⟨fun c hc => va_AO.moved hvm.alike (h.1 c hc), va_Nw.warmC hvm h.2⟩
theorem met_of {X : Nat × (Nat → Int32)} {D : va_G} {l : Launch} {a : Nat} {as : List Vl} {h : Hp} {r1 : Option Vl} {h1 : Hp} (k1 : PW X D l a 0 (ent (mlo a) as) [] h r1 h1) (ha : a ≠ 135) (hpl : plainName (yNm a).cls = true) (hcl : (yNm a).cls = yOw a) (hni : yIn a = true → (yNm a).name = "<init>") (hsp : (spr as).length ≤ mlo a)
    {ad : Nm → Nat} {ca : Nm → ClassId} {nms : List Nm} {tys : List (ClassId × FieldType)} (sz : Nat) (w4 : ∀ n, n ∈ nms ↔ live h n) (w5 : ∀ n ∈ nms, 100 ≤ kd n.1 → ∃ t0 : Nat, tys[t0]? = some (ca n, tyA (kd n.1))) (w6 : ∀ n k m, hpR h n k = some m → m ∈ nms) (w7 : ∀ n, kd n.1 = 101 → ∀ j, fits .byte (.int (hpI h n j)) = true) (hos : okS nms as) :
    Met l (yNm a) (wsy a) ({ frames := yRk a, cells := hpN h1 - hpN h, slots := hpS h1 - hpS h, locals := yLo a }) (va_Pc (as.map (rl ad)) (Bm D h ad ca nms tys sz)) (Qm D r1 h h1 ad ca nms sz) (hpN h1 - hpN h) (hpS h1 - hpS h) (va_A (wso h ad ca nms) sz) := by
  refine Met.ofW (cc := yBy a) (maxL := mlo a) (ret := yRt a) hpl rfl ?_
  intro p e s m args below meth c s₁ B hml hv
  obtain ⟨rfl, hsz, hP, hK, hD0, hWx⟩ := hv
  have hx := B.exec
  have hb := B.bytes
  have hr := B.returns
  have hts := atoms_spec (ws := wsy a) B.pre
  have hown : s.vm.findClass (yNm a).cls = some m.cls := findClass_of_methodNamed B.named
  have hlocks := B.notSynchronized
  have hnm := (name_of_methodNamed B.named B.method).1
  subst hsz
  have hD := hD0.self (sz := s.heap.size)
  rw [lg_entry_eq]
  refine k1.2.2 p e _ s m _ below meth c (va_A (wso h ad ca nms) s.heap.size) _ ⟨hx, hb, hml, by rw [← hcl]; exact hown, fun w hw => hts w (List.mem_cons_of_mem _ hw), fun hi => by rw [hnm]; exact hni hi, fun q hq => Or.inr hq, hWx⟩ (Nat.le_refl _) (Nat.le_refl _) s.heap [] 0 0 ad ca nms tys _ ⟨hP, hD, hK, w4, w5, w6, w7⟩ va_S.rf (fun q => absurd q ha) (LR_entry ad hsp) (ent_len hsp) (ent_ok hos) (fun v hv => by cases hv) (by rw [Nat.zero_add]; exact Nat.le_refl _) (by rw [Nat.zero_add]; exact Nat.le_refl _) ?_
  intro pc1 ls1 H1 locs1 ad1 ca1 nms1 tys1 hRT hW1 hS1 hE hok hls
  obtain ⟨ins, len, a', b', st, C, hc, hp, hC⟩ := hRT
  obtain ⟨hd, hw⟩ := cd_ok hc
  rw [Nat.zero_add, Nat.zero_add]
  have hq : ∀ t : State, t.heap = H1 → s.WarmedH t.vm → Qm D r1 h h1 ad ca nms s.heap.size (as.map (rl ad)).toArray s (.returned (r1.map (rl ad1))) t := by
    intro t ht hwm
    obtain ⟨x1, x2, x3, x4, x5, x6, x7⟩ := hW1
    exact ⟨⟨ad1, ca1, nms1, tys1, rfl, hE, hok, by rw [ht]; exact x1, x2, va_K.moved hwm.alike x3, x4, x5, x6, x7⟩, hS1.F ht⟩
  unfold rt at hp
  split at hp
  · rename_i ins0 st0 x
    split at hp
    · cases hp
      obtain ⟨rfl, hrt⟩ := (hw : len = 1 ∧ ((_ ∧ yRt a = some .int) ∨ (_ ∧ yRt a = some .boolean)))
      rcases hrt with ⟨-, hrt⟩ | ⟨q, -⟩
      · exact W.iret (v := x) hx hb (by rw [hr, hrt]) hq hS1.2.2 hd
      · cases q
    · next q =>
      cases hp
      obtain ⟨rfl, hrt⟩ := (hw : len = 1 ∧ ((a' = 0 ∧ yRt a = some .int) ∨ (a' = 1 ∧ yRt a = some .boolean)))
      rcases hrt with ⟨z, -⟩ | ⟨-, hrt⟩
      · exact absurd z q
      · exact W.zret (v := x) (ty := .boolean) hx hb (by rw [hr, hrt]) (nar_bool hC).1 hq hS1.2.2 hd
  · rename_i ins0 st0 o
    cases hp
    obtain ⟨rfl, t, hrt, hrr⟩ := (hw : len = 1 ∧ ∃ t, yRt a = some t ∧ ((∃ n, t = .object n) ∨ ∃ t2, t = .array t2))
    refine W.aret (rt := t) hx hb (by rw [hr, hrt]) hrr ?_ hq hS1.2.2 hd
    cases o with
    | none => exact Or.inl rfl
    | some n => exact Or.inr ⟨ad1 n, rfl⟩
  · cases hp
    obtain ⟨rfl, hrt⟩ := (hw : len = 1 ∧ yRt a = none)
    exact W.vret hx hb (by rw [hr, hrt]) hq hS1.2.2 hd
  · cases hp
theorem spl_eq (b : Nat) (st : St) : st = (spl b st).1.reverse ++ (spl b st).2 := by
  unfold spl
  rw [List.reverse_reverse, List.take_append_drop]
theorem so_ca (X : Nat × (Nat → Int32)) (D : va_G) (l : Launch) : Rca (PW X D l) := by
  intro y pc L st h r h' ins a b r1 h1 hc hi ha hbl hcat hspr hrok k1 k2
  obtain ⟨hd, hw⟩ := cd_ok hc
  refine ⟨Nat.le_trans k1.1 k2.1, Nat.le_trans k1.2.1 k2.2.1, ?_⟩
  intro p e R s m args below meth c A Z F hf hlo H locs cells slots ad ca nms tys ls hW hS hSC hL hLn hoL hoS hcs hss K
  have kk := k2.2.2 p e R s m args below meth c A Z F hf hlo
  obtain ⟨hx, hb, hml, hown, hts, hin, hA, hwx⟩ := F
  have m1 := k1.1
  have m2 := k1.2.1
  have m3 := k2.1
  have m4 := k2.2.1
  have hst := spl_eq b st
  have hlen : (spl b st).1.length = b := by
    unfold spl
    rw [List.length_reverse, List.length_take]
    omega
  generalize hg1 : (spl b st).1 = as at *
  generalize hg2 : (spl b st).2 = rest at *
  have hoa : okS nms as := fun v hv => hoS v (by rw [hst]; exact List.mem_append_left _ (List.mem_reverse.mpr hv))
  have hor : okS nms rest := fun v hv => hoS v (by rw [hst]; exact List.mem_append_right _ hv)
  obtain ⟨w1, w2, w3, w4, w5, w6, w7⟩ := hW
  have hroom : 2 * (F0 m pc ls (st.map (rl ad))).monitorRoom + ((rest.map (rl ad)).map fun v => v.category).sum ≤ 8 := lv_room (by rw [rl_cats]; exact hcat)
  have hcf : CallFix p m c (yBy y) (mlo y) s args bw (yOw y) := ⟨hx, hb, hml, hown, hts⟩
  have blind : FrameBlind (va_Pc (as.map (rl ad)) (Bm D h ad ca nms tys H.size)) := fun a0 U g mk q => by
    obtain ⟨q0, q1, qP, qK, qD, qW⟩ := q
    exact ⟨q0, q1, qP, va_K.moved (u := U) (U := U.calling g mk a0) (Vm.Alike.refl U.vm) qK, qD, fun c hc => va_AO.moved (u := U) (U := U.calling g mk a0) (Vm.Alike.refl U.vm) (qW.1 c hc), va_Nw.same (u := U) (U := U.calling g mk a0) rfl rfl qW.2⟩
  have pre : ∀ U : State, U.heap = H → s.WarmedH U.vm → va_Pc (as.map (rl ad)) (Bm D h ad ca nms tys H.size) (as.map (rl ad)).toArray U := fun U hU hWm =>
    ⟨rfl, by rw [hU], by rw [hU]; exact w1, va_K.moved hWm.alike w3, w2.weaken (fun _ _ _ _ => trivial), Wx_moved hWm hwx⟩
  -- behind the call
  have fin : va_Run p l e R s m args below meth c H locs cells slots (hpN h1 - hpN h) (hpS h1 - hpS h) (F0 m pc ls (st.map (rl ad))) (rest.map (rl ad)) (Qm D r1 h h1 ad ca nms H.size (as.map (rl ad)).toArray) (va_A (wso h ad ca nms) H.size) → W p l e R s m args below meth c H locs cells slots Z (F0 m pc ls (st.map (rl ad))) := by
    intro hr T hT XX
    obtain ⟨v, st₀, t, T', LL, h0, X', hLL, e1, e2, ⟨⟨ad1, ca1, nms1, tys1, hv, hE, hok, x1, x2, x3, x4, x5, x6, x7⟩, hz, hkp⟩, stp⟩ := hr T hT XX
    cases hv
    rw [h0] at hz hkp
    have hAA : ∀ q : Nat, va_A (wso h ad ca nms) H.size q → A q := by
      intro q hq
      rcases hq with ⟨k, ee, hq⟩ | hq
      · exact w2.2 k (q, ee) hq
      · exact hA q (Nat.le_trans hS.1 hq)
    have hS2 : va_S A s.heap t.heap (locs ++ LL) := by
      refine ⟨Nat.le_trans hS.1 hz, fun q g1 g2 => ?_, fun q hq => ?_⟩
      · rw [hkp q (Nat.lt_of_lt_of_le g1 hS.1) (fun z => g2 (hAA q z))]
        exact hS.2.1 q g1 g2
      · rcases List.mem_append.mp hq with g | g
        · exact hS.2.2 q g
        · exact hAA _ (hLL q g)
    have hvm : s.vm.Alike t.vm := by
      rw [← e2]
      exact X'.warmed.alike
    have ec : cells + (hpN h1 - hpN h) + (hpN h' - hpN h1) = cells + (hpN h' - hpN h) := by omega
    have es : slots + (hpS h1 - hpS h) + (hpS h' - hpS h1) = slots + (hpS h' - hpS h) := by omega
    have hor1 : okS nms1 (r1.toList ++ rest) := by
      intro v hv
      rcases List.mem_append.mp hv with g | g
      · cases r1 with
        | none => cases g
        | some v1 =>
          rw [List.mem_singleton.mp g]
          exact hok v1 rfl
      · exact okV_ext hE (hor v g)
    have kf := kk t.heap (locs ++ LL) (cells + (hpN h1 - hpN h)) (slots + (hpS h1 - hpS h)) ad1 ca1 nms1 tys1 ls ⟨x1, x2.weaken (fun k q _ g => hAA q.1 g), va_K.moved hvm.symm x3, x4, x5, x6, x7⟩ hS2 (fun hy => by rw [hE.2 (98, 0) (Or.inr rfl)]; exact hSC hy) (LR_ext hE hoL hL) hLn (fun v hv => okV_ext hE (hoL v hv)) hor1 (by rw [ec]; exact hcs) (by rw [es]; exact hss) (by
      intro pc1 ls1 H1 locs1 ad2 ca2 nms2 tys2 g1 g2 g3 g4 g5 g6
      rw [ec, es]
      exact K pc1 ls1 H1 locs1 ad2 ca2 nms2 tys2 g1 g2 g3 (Ext_tr hE g4) g5 g6)
    have est : (r1.map (rl ad1)).toList ++ rest.map (rl ad) = (r1.toList ++ rest).map (rl ad1) := by
      rw [List.map_append, rls_ext hE hor]
      cases r1 <;> rfl
    obtain ⟨t2, a1, b1⟩ := kf T' e1 X'
    refine ⟨t2, stp t2 ?_, b1⟩
    rw [est]
    exact a1
  have hfit : cells + (hpN h1 - hpN h) ≤ R.cells ∧ slots + (hpS h1 - hpS h) ≤ R.slots := ⟨by omega, by omega⟩
  have common : ∀ (i np : Nat), okv y i a np → CallB R s args (yOw y) i (yNm a) (yBy a) (mlo a) (yRt a) (wsy a) ({ frames := yRk a, cells := hpN h1 - hpN h, slots := hpS h1 - hpS h, locals := yLo a }) (hpN h1 - hpN h) (hpS h1 - hpS h) np ∧ Met l (yNm a) (wsy a) ({ frames := yRk a, cells := hpN h1 - hpN h, slots := hpS h1 - hpS h, locals := yLo a }) (va_Pc (as.map (rl ad)) (Bm D h ad ca nms tys H.size)) (Qm D r1 h h1 ad ca nms H.size) (hpN h1 - hpN h) (hpS h1 - hpS h) (va_A (wso h ad ca nms) H.size) := by
    intro i np ho
    obtain ⟨o1, o2, o3, o4, o5, o6, o7, o8, o9⟩ := ho
    refine ⟨callB_of np hts (fun w hw => ?_) rfl rfl rfl (hts _ (bw_of o2)) (hts _ (bw_of o1)) o4 ⟨Nat.le_trans o5 hf, Nat.le_trans o6 hlo⟩, met_of k1 (by omega) o7 o8 o9 hspr H.size w4 w5 w6 w7 hoa⟩
    rcases List.mem_cons.mp hw with g | g
    · rw [g]
      exact ⟨bw_of o3, bw_good (bw_of o3)⟩
    · exact ⟨g, bw_good g⟩
  cases ins <;> first | (cases hi; done) | skip
  · -- special
    rename_i i
    obtain ⟨-, hw, -⟩ := (hw : 3 = 3 ∧ (a < 1000 → okv y i a (b - 1) ∧ 1 ≤ b ∧ iw (.instanceMethod (yNm a)) ∧ (yNm a).name = "<init>" ∧ yRt a = none ∧ (yNm a).cls = cnm (mow a)) ∧ _)
    obtain ⟨ho, hb1, hk1, hk2, hk3, hk4⟩ := hw (by omega)
    obtain ⟨hcb, hM⟩ := common i (b - 1) ho
    rw [hk3] at hcb
    match as, hrok with
    | [], hrok => exact absurd hrok (by intro q; exact q)
    | .inl _ :: _, hrok => exact absurd hrok (by intro q; exact q)
    | .inr (.inl _) :: _, hrok => exact absurd hrok (by intro q; exact q)
    | .inr (.inr none) :: _, hrok => exact absurd hrok (by intro q; exact q)
    | .inr (.inr (some n)) :: as1, hrok =>
      refine fin (va_runI (As := as1.map (rl ad)) (b := ad n) hcf hM ⟨hcb, hk2, hts _ (bw_of hk1)⟩ ⟨blind, pre⟩ rfl ?_ (by show ls.size = _; exact hL.1) ?_ hroom hd hfit)
      · rw [List.length_map]
        rw [List.length_cons] at hlen
        omega
      · show st.map (rl ad) = _
        rw [hst]
        simp only [List.reverse_cons, List.map_append, List.map_reverse, List.append_assoc, List.map_cons, List.map_nil]
        rfl
  · -- static
    rename_i i
    obtain ⟨-, hw, -⟩ := (hw : 3 = 3 ∧ (a < 1000 → okv y i a b ∧ iw (.static (yNm a))) ∧ _)
    obtain ⟨ho, hk1⟩ := hw (by omega)
    obtain ⟨hcb, hM⟩ := common i b ho
    refine fin (va_runS (As := as.map (rl ad)) hcf hM ⟨hcb, hts _ (bw_of hk1)⟩ ⟨blind, pre⟩ rfl (by rw [List.length_map]; exact hlen) (by show ls.size = _; exact hL.1) ?_ hroom hd hfit)
    show st.map (rl ad) = _
    rw [hst, List.map_append, List.map_reverse]
  · -- virtual
    rename_i i
    obtain ⟨-, hw, -⟩ := (hw : 3 = 3 ∧ (a < 1000 → okv y i a (b - 1) ∧ 1 ≤ b ∧ iw (.instanceMethod (yNm a)) ∧ iw (.selects (yNm a).cls (yNm a) (yNm a)) ∧ (yNm a).cls = cnm (mow a) ∧ mow a < 7) ∧ _)
    obtain ⟨ho, hb1, hk1, hk2, hk3, hk4⟩ := hw (by omega)
    obtain ⟨hcb, hM⟩ := common i (b - 1) ho
    match as, hrok with
    | [], hrok => exact absurd hrok (by intro q; exact q)
    | .inl _ :: _, hrok => exact absurd hrok (by intro q; exact q)
    | .inr (.inl _) :: _, hrok => exact absurd hrok (by intro q; exact q)
    | .inr (.inr none) :: _, hrok => exact absurd hrok (by intro q; exact q)
    | .inr (.inr (some n)) :: as1, hrok =>
      obtain ⟨hl, hkd⟩ := (hrok : live h n ∧ kd n.1 = mow a)
      obtain ⟨q0, hq⟩ := List.getElem?_of_mem ((w4 n).mpr hl)
      have he := wso_at (h := h) (ad := ad) (ca := ca) hq
      rw [cell_obj hkd hk4] at he
      have hrecv := va_recv w3 w1 (cl_at _ hk4) he
      refine fin (va_runV (As := as1.map (rl ad)) (b := ad n) (C := (yNm a).cls) hcf hM ⟨hcb, hts _ (bw_of hk1), hts _ (bw_of hk2)⟩ ⟨blind, by rw [hk3]; exact hrecv, pre⟩ rfl ?_ (by show ls.size = _; exact hL.1) ?_ hroom hd hfit)
      · rw [List.length_map]
        rw [List.length_cons] at hlen
        omega
      · show st.map (rl ad) = _
        rw [hst]
        simp only [List.reverse_cons, List.map_append, List.map_reverse, List.append_assoc, List.map_cons, List.map_nil]
        rfl
/-- every run of the small machine is one of the real machine -/
theorem so_all (X : Nat × (Nat → Int32)) (D : va_G) (l : Launch) : Clo X (PW X D l) := ⟨so_pu X D l, so_op X D l, so_bT X D l, so_bF X D l, so_sw X D l, so_ca X D l, so_rt X D l⟩
theorem so_ev {X : Nat × (Nat → Int32)} {y pc : Nat} {L : Ls} {st : St} {h : Hp} {r : Option Vl} {h' : Hp} (hE : Ev X y pc L st h r h') (D : va_G) (l : Launch) : PW X D l y pc L st h r h' := hE _ (so_all X D l)
