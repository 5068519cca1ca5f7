/-! The small machine's rules hold of the real one. -/
def Wx (s : State) : Prop := (∀ c, c < 3 → va_AO (cnm c) s) ∧ va_Nw (.castable "[B" "java/lang/Cloneable") s
def Fx (y : Nat) (p : Program) (s : State) (m : MethodId) (args : Array Value) (meth : Method) (c : Code) (A : Nat → Prop) : Prop :=
  p.tables.exec = Jvm.exec ∧ c.code = yBy y ∧ c.maxLocals = mlo y ∧ s.vm.findClass (yOw y) = some m.cls ∧ (∀ w ∈ bw, w.before args s = true) ∧ (yIn y = true → meth.name = "<init>") ∧ (∀ q : Nat, s.heap.size ≤ q → A q) ∧ Wx s
def SC (X : Nat × (Nat → Int32)) (y : Nat) (ad : Nm → Nat) (s : State) (A : Nat → Prop) : Prop := y = 135 → va_X (ad (98, 0)) X.1 X.2 s s.heap ∧ ad (98, 0) < s.heap.size ∧ ¬ A (ad (98, 0))
def RT (y pc : Nat) (r : Option Vl) : Prop := ∃ (ins : Instr) (len a b : Nat) (st : St) (C : Prop), cd y pc = some (ins, len, a, b) ∧ rt ins a st = some (r, C) ∧ C
def PW (X : Nat × (Nat → Int32)) (D : va_G) (l : Launch) : MP := fun y pc L st h r h' => hpN h ≤ hpN h' ∧ hpS h ≤ hpS h' ∧
  ∀ (p : Program) (e : Env) (R : Room) (s : State) (m : MethodId) (args : Array Value) (below : List Frame) (meth : Method) (c : Code) (A : Nat → Prop) (Z : State → Prop), Fx y p s m args meth c A → yRk y ≤ R.frames → yLo y ≤ R.locals →
  ∀ (H : Heap) (locs : List Loc) (cells slots : Nat) (ad : Nm → Nat) (ca : Nm → ClassId) (nms : List Nm) (tys : List (ClassId × FieldType)) (ls : Array Slot), Wd D A s ad ca nms tys h H → va_S A s.heap H locs → SC X y ad s A → LR ad L ls (mlo y) → L.length = mlo y → okL nms L → okS nms st → cells + (hpN h' - hpN h) ≤ R.cells → slots + (hpS h' - hpS h) ≤ R.slots →
  (∀ (pc1 : Nat) (ls1 : Array Slot) (H1 : Heap) (locs1 : List Loc) (ad1 : Nm → Nat) (ca1 : Nm → ClassId) (nms1 : List Nm) (tys1 : List (ClassId × FieldType)), RT y pc1 r → Wd D A s ad1 ca1 nms1 tys1 h' H1 → va_S A s.heap H1 locs1 → Ext nms nms1 ad ad1 → (∀ v, r = some v → okV nms1 v) → ls1.size = mlo y → W p l e R s m args below meth c H1 locs1 (cells + (hpN h' - hpN h)) (slots + (hpS h' - hpS h)) Z (F0 m pc1 ls1 (r.toList.map (rl ad1)))) →
  W p l e R s m args below meth c H locs cells slots Z (F0 m pc ls (st.map (rl ad)))
theorem okV_I {nms : List Nm} {x : Int32} : okV nms (.inl x) := fun n e => by cases e
theorem okV_L {nms : List Nm} {x : Int64} : okV nms (.inr (.inl x)) := fun n e => by cases e
theorem okV_N {nms : List Nm} : okV nms (.inr (.inr none)) := fun n e => by cases e
theorem okV_R {nms : List Nm} {n : Nm} (h : n ∈ nms) : okV nms (.inr (.inr (some n))) := fun n' e => by cases e; exact Or.inl h
theorem okS_c {nms : List Nm} {v : Vl} {st : St} (h1 : okV nms v) (h2 : okS nms st) : okS nms (v :: st) := fun w hw => by
  rcases List.mem_cons.mp hw with h | h
  · rw [h]; exact h1
  · exact h2 w h
theorem okS_t {nms : List Nm} {v : Vl} {st : St} (h : okS nms (v :: st)) : okS nms st := fun w hw => h w (List.mem_cons_of_mem _ hw)
theorem okS_h {nms : List Nm} {v : Vl} {st : St} (h : okS nms (v :: st)) : okV nms v := h v List.mem_cons_self
theorem okL_set {nms : List Nm} {v : Vl} {L : Ls} {i : Nat} (h1 : okV nms v) (h2 : okL nms L) : okL nms (L.set i (some v)) := fun w hw => by
  rcases List.mem_or_eq_of_mem_set hw with h | h
  · exact h2 w h
  · cases h; exact h1
theorem sto_of {L : Ls} {i : Nat} {v : Vl} {st : St} {L' : Ls} {st' : St} (h : sto L i v st = some (L', st')) : i < L.length ∧ okst L i = true ∧ L' = L.set i (some v) ∧ st' = st := by
  unfold sto at h
  split at h
  · next q =>
    simp only [Bool.and_eq_true, decide_eq_true_eq] at q
    cases h
    exact ⟨q.1, q.2, rfl, rfl⟩
  · cases h
theorem ldI_of {L : Ls} {i : Nat} {st : St} {L' : Ls} {st' : St} (h : ldI L i st = some (L', st')) : ∃ x : Int32, L[i]? = some (some (.inl x)) ∧ L' = L ∧ st' = .inl x :: st := by
  unfold ldI at h
  split at h
  · next x q => cases h; exact ⟨x, q, rfl, rfl⟩
  · cases h
theorem ldL_of {L : Ls} {i : Nat} {st : St} {L' : Ls} {st' : St} (h : ldL L i st = some (L', st')) : ∃ x : Int64, L[i]? = some (some (.inr (.inl x))) ∧ L' = L ∧ st' = .inr (.inl x) :: st := by
  unfold ldL at h
  split at h
  · next x q => cases h; exact ⟨x, q, rfl, rfl⟩
  · cases h
theorem ldR_of {L : Ls} {i : Nat} {st : St} {L' : Ls} {st' : St} (h : ldR L i st = some (L', st')) : ∃ x : Option Nm, L[i]? = some (some (.inr (.inr x))) ∧ L' = L ∧ st' = .inr (.inr x) :: st := by
  unfold ldR at h
  split at h
  · next x q => cases h; exact ⟨x, q, rfl, rfl⟩
  · cases h
theorem so_pu (X : Nat × (Nat → Int32)) (D : va_G) (l : Launch) : Rpu (PW X D l) := by
  intro y pc L st h r h' ins len a b L' st' hc hp kn
  obtain ⟨hd, hw⟩ := cd_ok hc
  refine ⟨kn.1, kn.2.1, ?_⟩
  intro p e R s m args below meth c A Z F hf hlo H locs cells slots ad ca nms tys ls hW hS hSC hL hLn hoL hoS hcs hss K
  have kk := fun ls' hL' hLn' hoL' hoS' => kn.2.2 p e R s m args below meth c A Z F hf hlo H locs cells slots ad ca nms tys ls' hW hS hSC hL' hLn' hoL' hoS' hcs hss K
  obtain ⟨hx, hb, hml, hown, hts, -, hA, -⟩ := F
  unfold pu at hp
  split at hp
  · rename_i ins0 st0 k
    obtain rfl : len = 1 := hw
    obtain ⟨x, hl, rfl, rfl⟩ := ldI_of hp
    exact lv_iload_n hx hb hd rfl (hL.2.2 _ _ hl) (kk ls hL hLn hoL (okS_c okV_I hoS))
  · rename_i ins0 st0 k
    obtain rfl : len = 2 := hw
    obtain ⟨x, hl, rfl, rfl⟩ := ldI_of hp
    exact lv_iload hx hb hd (hL.2.2 _ _ hl) (kk ls hL hLn hoL (okS_c okV_I hoS))
  · rename_i ins0 st0 k
    obtain rfl : len = 1 := hw
    obtain ⟨x, hl, rfl, rfl⟩ := ldL_of hp
    exact lv_lload_n hx hb hd rfl (hL.2.2 _ _ hl) (kk ls hL hLn hoL (okS_c okV_L hoS))
  · rename_i ins0 st0 k
    obtain rfl : len = 1 := hw
    obtain ⟨x, hl, rfl, rfl⟩ := ldR_of hp
    cases x with
    | none => exact lv_aload_nN hx hb hd rfl (hL.2.2 _ _ hl) (kk ls hL hLn hoL (okS_c okV_N hoS))
    | some n => exact lv_aload_n hx hb hd rfl (hL.2.2 _ _ hl) (kk ls hL hLn hoL (okS_c (hoL _ (List.mem_of_getElem? hl)) hoS))
  · rename_i ins0 st0 k
    obtain rfl : len = 2 := hw
    obtain ⟨x, hl, rfl, rfl⟩ := ldR_of hp
    cases x with
    | none => exact lv_aloadN hx hb hd (hL.2.2 _ _ hl) (kk ls hL hLn hoL (okS_c okV_N hoS))
    | some n => exact lv_aload hx hb hd (hL.2.2 _ _ hl) (kk ls hL hLn hoL (okS_c (hoL _ (List.mem_of_getElem? hl)) hoS))
  · rename_i ins0 st0 k x st1
    obtain rfl : len = 1 := hw
    obtain ⟨hi, ho, rfl, rfl⟩ := sto_of hp
    exact lv_istore_n hx hb hd rfl (LR_has hL) (by omega) rfl (fun ls' hl' => kk ls' (LR_store ho hl') (by rw [List.length_set]; exact hLn) (okL_set okV_I hoL) (okS_t hoS))
  · rename_i ins0 st0 k x st1
    obtain rfl : len = 2 := hw
    obtain ⟨hi, ho, rfl, rfl⟩ := sto_of hp
    exact lv_istore hx hb hd (LR_has hL) (by omega) rfl (fun ls' hl' => kk ls' (LR_store ho hl') (by rw [List.length_set]; exact hLn) (okL_set okV_I hoL) (okS_t hoS))
  · rename_i ins0 st0 k x st1
    obtain rfl : len = 1 := hw
    obtain ⟨hi, ho, rfl, rfl⟩ := sto_of hp
    cases x with
    | none => exact lv_astore_nN hx hb hd rfl (LR_has hL) (by omega) rfl (fun ls' hl' => kk ls' (LR_store ho hl') (by rw [List.length_set]; exact hLn) (okL_set okV_N hoL) (okS_t hoS))
    | some n => exact lv_astore_n hx hb hd rfl (LR_has hL) (by omega) rfl (fun ls' hl' => kk ls' (LR_store ho hl') (by rw [List.length_set]; exact hLn) (okL_set (okS_h hoS) hoL) (okS_t hoS))
  · rename_i ins0 st0 k x st1
    obtain rfl : len = 2 := hw
    obtain ⟨hi, ho, rfl, rfl⟩ := sto_of hp
    cases x with
    | none => exact lv_astoreN hx hb hd (LR_has hL) (by omega) rfl (fun ls' hl' => kk ls' (LR_store ho hl') (by rw [List.length_set]; exact hLn) (okL_set okV_N hoL) (okS_t hoS))
    | some n => exact lv_astore hx hb hd (LR_has hL) (by omega) rfl (fun ls' hl' => kk ls' (LR_store ho hl') (by rw [List.length_set]; exact hLn) (okL_set (okS_h hoS) hoL) (okS_t hoS))
  · rename_i ins0 st0 k n
    obtain rfl : len = 3 := hw
    split at hp
    · next x q =>
      obtain ⟨hi, ho, rfl, rfl⟩ := sto_of hp
      obtain ⟨j, hj⟩ := List.getElem?_of_mem (lpr_mem ad L 0 _ _ q)
      rw [Nat.zero_add] at hj
      exact lv_iinc hx hb hd (LR_has hL) hj rfl (by omega) rfl (fun ls' hl' => kk ls' (LR_store ho hl') (by rw [List.length_set]; exact hLn) (okL_set okV_I hoL) hoS)
    · cases hp
  · rename_i ins0 st0 n
    cases hp
    obtain rfl : len = 1 := hw
    exact lv_iconst hx hb hd rfl (kk ls hL hLn hoL (okS_c okV_I hoS))
  · rename_i ins0 st0 n
    cases hp
    obtain rfl : len = 2 := hw
    exact lv_bipush hx hb hd rfl (kk ls hL hLn hoL (okS_c okV_I hoS))
  · rename_i ins0 st0 n
    cases hp
    obtain rfl : len = 3 := hw
    exact lv_sipush hx hb hd rfl (kk ls hL hLn hoL (okS_c okV_I hoS))
  · rename_i ins0 st0 i
    cases hp
    obtain ⟨rfl, hk⟩ := (hw : len = 2 ∧ iw (.constant (yOw y) i (Int32.ofNat a)))
    exact lv_ldc hx hb hown (hts _ (bw_of hk)) hd (kk ls hL hLn hoL (okS_c okV_I hoS))
  · rename_i ins0 st0 i
    cases hp
    obtain ⟨rfl, hk⟩ := (hw : len = 3 ∧ iw (.constantLong (yOw y) i (Int64.ofNat a)))
    exact lv_ldc2 hx hb hown (hts _ (bw_of hk)) hd (kk ls hL hLn hoL (okS_c okV_L hoS))
  · rename_i ins0 st0
    cases hp
    obtain rfl : len = 1 := hw
    exact lv_null hx hb hd (kk ls hL hLn hoL (okS_c okV_N hoS))
  · rename_i ins0 st0 z x st1
    cases hp
    obtain rfl : len = 1 := hw
    exact lv_iadd hx hb hd (kk ls hL hLn hoL (okS_c okV_I (okS_t (okS_t hoS))))
  · rename_i ins0 st0 z x st1
    cases hp
    obtain rfl : len = 1 := hw
    exact lv_isub hx hb hd (kk ls hL hLn hoL (okS_c okV_I (okS_t (okS_t hoS))))
  · rename_i ins0 st0 z x st1
    cases hp
    obtain rfl : len = 1 := hw
    exact lv_imul hx hb hd (kk ls hL hLn hoL (okS_c okV_I (okS_t (okS_t hoS))))
  · rename_i ins0 st0 z x st1
    cases hp
    obtain rfl : len = 1 := hw
    exact lv_iand hx hb hd (kk ls hL hLn hoL (okS_c okV_I (okS_t (okS_t hoS))))
  · rename_i ins0 st0 z x st1
    cases hp
    obtain rfl : len = 1 := hw
    exact lv_ior hx hb hd (kk ls hL hLn hoL (okS_c okV_I (okS_t (okS_t hoS))))
  · rename_i ins0 st0 x st1
    cases hp
    obtain rfl : len = 1 := hw
    exact lv_ineg hx hb hd (kk ls hL hLn hoL (okS_c okV_I (okS_t hoS)))
  · rename_i ins0 st0 x st1
    cases hp
    obtain rfl : len = 1 := hw
    exact lv_i2l hx hb hd rfl (kk ls hL hLn hoL (okS_c okV_L (okS_t hoS)))
  · rename_i ins0 st0 x st1
    cases hp
    obtain rfl : len = 1 := hw
    exact lv_l2i hx hb hd rfl (kk ls hL hLn hoL (okS_c okV_I (okS_t hoS)))
  · rename_i ins0 st0 x st1
    cases hp
    obtain rfl : len = 1 := hw
    exact lv_i2b hx hb hd rfl (kk ls hL hLn hoL (okS_c okV_I (okS_t hoS)))
  · rename_i ins0 st0 z x st1
    cases hp
    obtain rfl : len = 1 := hw
    exact lv_land hx hb hd (kk ls hL hLn hoL (okS_c okV_L (okS_t (okS_t hoS))))
  · rename_i ins0 st0 z x st1
    cases hp
    obtain rfl : len = 1 := hw
    exact lv_lor hx hb hd (kk ls hL hLn hoL (okS_c okV_L (okS_t (okS_t hoS))))
  · rename_i ins0 st0 z x st1
    cases hp
    obtain rfl : len = 1 := hw
    exact lv_lshl hx hb hd rfl (kk ls hL hLn hoL (okS_c okV_L (okS_t (okS_t hoS))))
  · rename_i ins0 st0 z x st1
    cases hp
    obtain rfl : len = 1 := hw
    exact lv_lshr hx hb hd rfl (kk ls hL hLn hoL (okS_c okV_L (okS_t (okS_t hoS))))
  · rename_i ins0 st0 z x st1
    cases hp
    obtain rfl : len = 1 := hw
    exact lv_lushr hx hb hd rfl (kk ls hL hLn hoL (okS_c okV_L (okS_t (okS_t hoS))))
  · rename_i ins0 st0 v st1
    split at hp
    · next q =>
      cases hp
      obtain rfl : len = 1 := hw
      exact lv_dup hx hb hd (by rw [rl_cat, if_pos q]) (kk ls hL hLn hoL (okS_c (okS_h hoS) hoS))
    · cases hp
  · rename_i ins0 st0 v w st1
    split at hp
    · next q =>
      cases hp
      simp only [Bool.and_eq_true] at q
      obtain rfl : len = 1 := hw
      exact lv_dup2_11 hx hb hd (by rw [rl_cat, if_pos q.1]) (by rw [rl_cat, if_pos q.2]) (kk ls hL hLn hoL (okS_c (okS_h hoS) (okS_c (okS_h (okS_t hoS)) hoS)))
    · cases hp
  · cases hp
