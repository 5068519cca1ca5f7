/-! The rule of what needs the heap. -/
theorem hpC_new (h : Hp) (t n z t' : Nat) : hpC (newC h t n z) t' = if t' = t then hpC h t + 1 else hpC h t' := rfl
theorem new_ne (h : Hp) (t n z : Nat) (x : Nm) (hx : x ≠ (t, hpC h t)) : hpL (newC h t n z) x = hpL h x ∧ hpI (newC h t n z) x = hpI h x ∧ hpR (newC h t n z) x = hpR h x := by
  refine ⟨if_neg hx, ?_, ?_⟩
  · funext k
    exact if_neg hx
  · funext k
    exact if_neg hx
theorem new_L (h : Hp) (t n z : Nat) : hpL (newC h t n z) (t, hpC h t) = n := if_pos rfl
theorem new_I (h : Hp) (t n z : Nat) : hpI (newC h t n z) (t, hpC h t) = fun _ => 0 := by
  funext k
  exact if_pos rfl
theorem new_R (h : Hp) (t n z : Nat) (k : Nat) : hpR (newC h t n z) (t, hpC h t) k = none := if_pos rfl
theorem kd_le (t : Nat) (ht : 99 ≤ t) : kd t = 99 := by
  unfold kd
  rw [List.getD_eq_getElem?_getD, List.getElem?_eq_none (by show 99 ≤ t; exact ht)]
  rfl
theorem kd_lt7 (t : Nat) (h : kd t < 10) : kd t < 7 := by
  have key : ∀ t, t < 99 → kd t < 10 → kd t < 7 := by decide +kernel
  rcases Nat.lt_or_ge t 99 with q | q
  · exact key t q h
  · rw [kd_le t q] at h
    omega
theorem tyk_0 {t : FieldType} (h : tyk t = 0) : t = .int := by cases t <;> first | rfl | cases h
theorem tyk_1 {t : FieldType} (h : tyk t = 1) : t = .boolean := by cases t <;> first | rfl | cases h
theorem tyk_2 {t : FieldType} (h : tyk t = 2) : (∃ n, t = .object n) ∨ ∃ t2, t = .array t2 := by
  cases t <;> first | exact Or.inl ⟨_, rfl⟩ | exact Or.inr ⟨_, rfl⟩ | cases h
theorem nar_bool {x : Int32} (h : x = 0 ∨ x = 1) : narrow .boolean (.int x) = .int x ∧ fits .boolean (.int x) = true := by
  rcases h with rfl | rfl <;> exact ⟨by decide, by decide⟩
theorem inb_vp {i : Int32} {n : Nat} (h : inb i n) : vp_in i n := fun q => q.elim h.1 (fun z => Nat.not_lt.mpr z h.2)
theorem fits_byte8 (x : Int32) : fits .byte (.int x.toInt8.toInt32) = true := by
  have h1 := Int8.toInt_toInt32 x.toInt8
  have h2 := Int8.le_toInt x.toInt8
  have h3 := Int8.toInt_le x.toInt8
  simp only [fits, Bool.and_eq_true, decide_eq_true_eq, Int32.le_iff_toInt_le]
  rw [h1]
  exact ⟨h2, h3⟩
theorem op_mono {X : Nat × (Nat → Int32)} {ins : Instr} {a b : Nat} {st : St} {h : Hp} {st' : St} {h1 : Hp} {C : Prop} (hp : op X ins a b st h = some (st', h1, C)) : hpN h ≤ hpN h1 ∧ hpS h ≤ hpS h1 := by
  unfold op at hp
  split at hp <;> (try split at hp) <;> (try split at hp) <;> first | (cases hp; exact ⟨Nat.le_refl _, Nat.le_refl _⟩) | (cases hp; exact ⟨Nat.le_succ _, Nat.le_add_right _ _⟩) | cases hp
set_option maxHeartbeats 4000000 in
theorem so_op (X : Nat × (Nat → Int32)) (D : va_G) (l : Launch) : Rop X (PW X D l) := by
  intro y pc L st h r h' ins len a b st' h1 C hc hp hC kn
  obtain ⟨hd, hw⟩ := cd_ok hc
  have hmo := op_mono hp
  refine ⟨Nat.le_trans hmo.1 kn.1, Nat.le_trans hmo.2 kn.2.1, ?_⟩
  intro p e R s m args below meth c A Z F hf hlo H locs cells slots ad ca nms tys ls hW hS hSC hL hLn hoL hoS hcs hss K
  have kk := kn.2.2 p e R s m args below meth c A Z F hf hlo
  obtain ⟨hx, hbb, hml, hown, hts, hin, hA, hwx⟩ := F
  have kn1 := kn.1
  have kn2 := kn.2.1
  clear kn
  have w1 := hW.1
  have w2 := hW.2.1
  have w3 := hW.2.2.1
  have w4 := hW.2.2.2.1
  have w5 := hW.2.2.2.2.1
  have w6 := hW.2.2.2.2.2.1
  have w7 := hW.2.2.2.2.2.2
  -- going on after a new cell
  have alloc : ∀ (t q len2 : Nat) (cA : ClassId) (h2 : Hp) (H1 : Heap) (locs1 : List Loc) (ee : va_E) (tys1 : List (ClassId × FieldType)) (st2 : St) (pc2 : Nat), kd t ≠ 98 → hpN h2 = hpN h + 1 → hpS h2 = hpS h + len2 → hpN h2 ≤ hpN h' → hpS h2 ≤ hpS h' → (∀ t', hpC h2 t' = if t' = t then hpC h t + 1 else hpC h t') → (∀ n, n ≠ (t, hpC h t) → hpL h2 n = hpL h n ∧ hpI h2 n = hpI h n ∧ hpR h2 n = hpR h n) → (∀ k, hpR h2 (t, hpC h t) k = none) → (kd t = 101 → ∀ j, fits .byte (.int (hpI h2 (t, hpC h t) j)) = true) →
      ee = cell h2 (upn ad (t, hpC h t) q) (upn ca (t, hpC h t) cA) (t, hpC h t) → va_P D vwCl (wso h ad ca nms ++ [(q, ee)]) H1 → va_D A (wso h ad ca nms ++ [(q, ee)]) → va_K D vwCl tys1 s → (∀ (t0 : Nat) (x : ClassId × FieldType), tys[t0]? = some x → tys1[t0]? = some x) → (100 ≤ kd t → ∃ t0 : Nat, tys1[t0]? = some (cA, tyA (kd t))) → va_S A s.heap H1 locs1 → okS nms st2 →
      (∀ (H : Heap) (locs : List Loc) (cells slots : Nat) (ad : Nm → Nat) (ca : Nm → ClassId) (nms : List Nm) (tys : List (ClassId × FieldType)) (ls : Array Slot), Wd D A s ad ca nms tys h2 H → va_S A s.heap H locs → SC X y ad s A → LR ad L ls (mlo y) → L.length = mlo y → okL nms L → okS nms (.inr (.inr (some (t, hpC h t))) :: st2) → cells + (hpN h' - hpN h2) ≤ R.cells → slots + (hpS h' - hpS h2) ≤ R.slots → (∀ (pc1 : Nat) (ls1 : Array Slot) (H1 : Heap) (locs1 : List Loc) (ad1 : Nm → Nat) (ca1 : Nm → ClassId) (nms1 : List Nm) (tys1 : List (ClassId × FieldType)), RT y pc1 r → Wd D A s ad1 ca1 nms1 tys1 h' H1 → va_S A s.heap H1 locs1 → Ext nms nms1 ad ad1 → (∀ v, r = some v → okV nms1 v) → ls1.size = mlo y → W p l e R s m args below meth c H1 locs1 (cells + (hpN h' - hpN h2)) (slots + (hpS h' - hpS h2)) Z (F0 m pc1 ls1 (r.toList.map (rl ad1)))) → W p l e R s m args below meth c H locs cells slots Z (F0 m pc2 ls (List.map (rl ad) (.inr (.inr (some (t, hpC h t))) :: st2)))) →
      W p l e R s m args below meth c H1 locs1 (cells + 1) (slots + len2) Z (F0 m pc2 ls (.ref q :: List.map (rl ad) st2)) := by
    intro t q len2 cA h2 H1 locs1 ee tys1 st2 pc2 hk98 hN2 hS2 hN3 hS3 hC2 ho hr0 hb he hP1 hD1 hK1 ht1 ht2 hSS hst2 go
    have hW2 := Wd_new hW hC2 ho hr0 hb he hP1 hD1 hK1 ht1 ht2
    have hn0 : (t, hpC h t) ∉ nms := fun q => Nat.lt_irrefl _ ((w4 _).mp q)
    have hn1 : (t, hpC h t) ≠ (98, 0) := fun q => hk98 (by rw [(Prod.mk.inj q).1]; rfl)
    have hE : Ext nms (nms ++ [(t, hpC h t)]) ad (upn ad (t, hpC h t) q) := Ext_new hn0 hn1
    have est : (Value.ref q :: List.map (rl ad) st2) = List.map (rl (upn ad (t, hpC h t) q)) (.inr (.inr (some (t, hpC h t))) :: st2) := by
      rw [List.map_cons, rls_ext hE hst2]
      congr 1
      show Value.ref q = va_rf ((some (t, hpC h t)).map (upn ad (t, hpC h t) q))
      simp only [Option.map_some, upn_eq]
      rfl
    have ec : cells + 1 + (hpN h' - hpN h2) = cells + (hpN h' - hpN h) := by omega
    have es : slots + len2 + (hpS h' - hpS h2) = slots + (hpS h' - hpS h) := by omega
    rw [est]
    refine go H1 locs1 (cells + 1) (slots + len2) _ _ _ _ ls hW2 hSS (fun hy => ?_) (LR_ext hE hoL hL) hLn (fun v hv => okV_ext hE (hoL v hv)) ?_ (by rw [ec]; exact hcs) (by rw [es]; exact hss) ?_
    · rw [hE.2 (98, 0) (Or.inr rfl)]
      exact hSC hy
    · exact okS_c (fun n e => by cases e; exact Or.inl (List.mem_append_right _ (List.mem_singleton.mpr rfl))) (fun v hv => okV_ext hE (hst2 v hv))
    · intro pc1 ls1 H1 locs1 ad1 ca1 nms1 tys1 g1 g2 g3 g4 g5 g6
      rw [ec, es]
      exact K pc1 ls1 H1 locs1 ad1 ca1 nms1 tys1 g1 g2 g3 (Ext_tr hE g4) g5 g6
  unfold op at hp
  split at hp
  · -- getfield
    rename_i ins0 st0 i n st1
    obtain ⟨rfl, ha7, hbn, hk⟩ := (hw : len = 3 ∧ a < 7 ∧ b < nfl a ∧ iw (.fieldLink (yOw y) i (clT a b).1 (clT a b).2.1 (clT a b).2.2.1))
    split at hp
    · next q =>
      cases hp
      obtain ⟨hl, hkd, hr⟩ := hC
      obtain ⟨q0, hq⟩ := List.getElem?_of_mem ((w4 n).mpr hl)
      have he := wso_at (h := h) (ad := ad) (ca := ca) hq
      rw [cell_obj hkd ha7] at he
      refine va_get (ref := (clT a b).1) (T := clT a) (N := nfl a) (Ts := bw) hx hbb hts (hinC a ha7) hown w3 w1 q0 he (cl_at a ha7) b hbn (hts _ (bw_of hk)) (fun _ z => z) (v := rl ad (.inr (.inr (some (srf a b, n.2))))) ?_ hd ?_
      · rw [List.getElem?_map, List.getElem?_range hbn]
        show some (fval h ad n a b) = _
        unfold fval
        rw [q, hr]
        rfl
      · exact kk H locs cells slots ad ca nms tys ls hW hS hSC hL hLn hoL (okS_c (okV_R (w6 n b _ hr)) (okS_t hoS)) hcs hss K
    · next q =>
      cases hp
      obtain ⟨hl, hkd⟩ := hC
      obtain ⟨q0, hq⟩ := List.getElem?_of_mem ((w4 n).mpr hl)
      have he := wso_at (h := h) (ad := ad) (ca := ca) hq
      rw [cell_obj hkd ha7] at he
      refine va_get (ref := (clT a b).1) (T := clT a) (N := nfl a) (Ts := bw) hx hbb hts (hinC a ha7) hown w3 w1 q0 he (cl_at a ha7) b hbn (hts _ (bw_of hk)) (fun _ z => z) (v := .int (hpI h n b)) ?_ hd ?_
      · rw [List.getElem?_map, List.getElem?_range hbn]
        show some (fval h ad n a b) = _
        unfold fval
        split
        · next z => exact absurd z q
        · rfl
      · exact kk H locs cells slots ad ca nms tys ls hW hS hSC hL hLn hoL (okS_c okV_I (okS_t hoS)) hcs hss K
  · -- putfield of an int
    rename_i ins0 st0 i x n st1
    obtain ⟨rfl, ha7, hbn, hk, hfin⟩ := (hw : len = 3 ∧ a < 7 ∧ b < nfl a ∧ iw (.fieldLink (yOw y) i (clT a b).1 (clT a b).2.1 (clT a b).2.2.1) ∧ ((clT a b).2.2.2 = false ∨ ((clT a b).2.2.2 = true ∧ yIn y = true ∧ (clT a b).1 = yOw y)))
    have go : live h n → kd n.1 = a → fty a b ≠ 2 → narrow (clY a b) (.int x) = .int x → fits (clY a b) (.int x) = true → st' = st1 → h1 = setI h n b x → W p l e R s m args below meth c H locs cells slots Z (F0 m pc ls (List.map (rl ad) (.inl x :: .inr (.inr (some n)) :: st1))) := by
      intro hl hkd hf2 hnar hfit e1 e2
      subst e1 e2
      obtain ⟨q0, hq⟩ := List.getElem?_of_mem ((w4 n).mpr hl)
      have he := wso_at (h := h) (ad := ad) (ca := ca) hq
      rw [cell_obj hkd ha7] at he
      have hset := wso_set (h := h) (h2 := setI h n b x) w2 hq (cell_setI_obj (h := h) (ad := ad) (ca := ca) (v := x) hkd ha7 hf2) (fun n' hn' => cell_setI_ne hn')
      have hlen : b < ((List.range (nfl a)).map (fun k => fval h ad n a k)).length := by simpa using hbn
      have go2 : ∀ (H1 : Heap) (locs1 : List Loc), va_P D vwCl ((wso h ad ca nms).set q0 (ad n, .inr (a, ((List.range (nfl a)).map (fun k => fval h ad n a k)).set b (.int x)))) H1 → va_D A ((wso h ad ca nms).set q0 (ad n, .inr (a, ((List.range (nfl a)).map (fun k => fval h ad n a k)).set b (.int x)))) → va_S A s.heap H1 locs1 → W p l e R s m args below meth c H1 locs1 cells slots Z (F0 m (pc + 3) ls (List.map (rl ad) st')) := by
        intro H1 locs1 g1 g2 g3
        rw [hset] at g1 g2
        exact kk H1 locs1 cells slots ad ca nms tys ls (Wd_I hW g1 g2 (fun z => by omega)) g3 hSC hL hLn hoL (okS_t (okS_t hoS)) hcs hss K
      rcases hfin with hfin | ⟨hfin, hini, hdecl⟩
      · exact va_put (ref := (clT a b).1) (T := clT a) (N := nfl a) (Ts := bw) hx hbb hts (hinC a ha7) (clY a) (clY_ok a ha7) (clN_ok a ha7) hown w3 w1 w2 hS q0 he (cl_at a ha7) b hbn (hts _ (bw_of hk)) (fun _ z => z) hfin (clY_ok a ha7 b hbn) hnar hfit hlen hd go2
      · exact va_putF (ref := (clT a b).1) (T := clT a) (N := nfl a) (Ts := bw) hx hbb hts (hinC a ha7) (clY a) (clY_ok a ha7) (clN_ok a ha7) hown w3 w1 w2 hS q0 he (cl_at a ha7) b hbn (hts _ (bw_of hk)) (fun _ z => z) hfin (hin hini) hdecl (clY_ok a ha7 b hbn) hnar hfit hlen hd go2
    have ht := tyk_ok a ha7 b hbn
    split at hp
    · next q =>
      cases hp
      rw [q] at ht
      exact go hC.1 hC.2 (by rw [q]; decide) (by rw [tyk_0 ht]; rfl) (by rw [tyk_0 ht]; rfl) rfl rfl
    · next q =>
      cases hp
      rw [q] at ht
      exact go hC.1 hC.2.1 (by rw [q]; decide) (by rw [tyk_1 ht]; exact (nar_bool hC.2.2).1) (by rw [tyk_1 ht]; exact (nar_bool hC.2.2).2) rfl rfl
    · cases hp
  · -- putfield of a reference
    rename_i ins0 st0 i v n st1
    obtain ⟨rfl, ha7, hbn, hk, hfin⟩ := (hw : len = 3 ∧ a < 7 ∧ b < nfl a ∧ iw (.fieldLink (yOw y) i (clT a b).1 (clT a b).2.1 (clT a b).2.2.1) ∧ ((clT a b).2.2.2 = false ∨ ((clT a b).2.2.2 = true ∧ yIn y = true ∧ (clT a b).1 = yOw y)))
    have ht := tyk_ok a ha7 b hbn
    split at hp
    · next q =>
      cases hp
      rw [q] at ht
      obtain ⟨hl, hkd, hlv⟩ := hC
      obtain ⟨q0, hq⟩ := List.getElem?_of_mem ((w4 n).mpr hl)
      have he := wso_at (h := h) (ad := ad) (ca := ca) hq
      rw [cell_obj hkd ha7] at he
      have hset := wso_set (h := h) (h2 := setR h n b (some v)) w2 hq (cell_setR_obj (h := h) (ad := ad) (ca := ca) (m := v) hkd ha7 q) (fun n' hn' => cell_setR_ne hn')
      have hlen : b < ((List.range (nfl a)).map (fun k => fval h ad n a k)).length := by simpa using hbn
      have hnar : narrow (clY a b) (.ref (ad v)) = .ref (ad v) := by
        rcases tyk_2 ht with ⟨z, e⟩ | ⟨z, e⟩ <;> rw [e] <;> rfl
      have hfit : fits (clY a b) (.ref (ad v)) = true := by
        rcases tyk_2 ht with ⟨z, e⟩ | ⟨z, e⟩ <;> rw [e] <;> rfl
      have go2 : ∀ (H1 : Heap) (locs1 : List Loc), va_P D vwCl ((wso h ad ca nms).set q0 (ad n, .inr (a, ((List.range (nfl a)).map (fun k => fval h ad n a k)).set b (.ref (ad v))))) H1 → va_D A ((wso h ad ca nms).set q0 (ad n, .inr (a, ((List.range (nfl a)).map (fun k => fval h ad n a k)).set b (.ref (ad v))))) → va_S A s.heap H1 locs1 → W p l e R s m args below meth c H1 locs1 cells slots Z (F0 m (pc + 3) ls (List.map (rl ad) st')) := by
        intro H1 locs1 g1 g2 g3
        rw [hset] at g1 g2
        exact kk H1 locs1 cells slots ad ca nms tys ls (Wd_R hW ((w4 v).mpr hlv) g1 g2) g3 hSC hL hLn hoL (okS_t (okS_t hoS)) hcs hss K
      rcases hfin with hfin | ⟨hfin, hini, hdecl⟩
      · exact va_put (ref := (clT a b).1) (T := clT a) (N := nfl a) (Ts := bw) hx hbb hts (hinC a ha7) (clY a) (clY_ok a ha7) (clN_ok a ha7) hown w3 w1 w2 hS q0 he (cl_at a ha7) b hbn (hts _ (bw_of hk)) (fun _ z => z) hfin (clY_ok a ha7 b hbn) hnar hfit hlen hd go2
      · exact va_putF (ref := (clT a b).1) (T := clT a) (N := nfl a) (Ts := bw) hx hbb hts (hinC a ha7) (clY a) (clY_ok a ha7) (clN_ok a ha7) hown w3 w1 w2 hS q0 he (cl_at a ha7) b hbn (hts _ (bw_of hk)) (fun _ z => z) hfin (hin hini) hdecl (clY_ok a ha7 b hbn) hnar hfit hlen hd go2
    · cases hp
  · -- iaload
    rename_i ins0 st0 i n st1
    obtain ⟨rfl, ha⟩ := (hw : len = 1 ∧ (a = 0 ∨ y = 135))
    split at hp
    · cases hp
      obtain ⟨hl, hkd, hi⟩ := hC
      obtain ⟨q0, hq⟩ := List.getElem?_of_mem ((w4 n).mpr hl)
      have he := wso_at (h := h) (ad := ad) (ca := ca) hq
      rw [cell_int (by omega) (by omega)] at he
      obtain ⟨t0, ht⟩ := w5 n ((w4 n).mpr hl) (by omega)
      rw [hkd] at ht
      exact va_iald hx hbb w3 w1 q0 t0 he ht (inb_vp hi) hd (kk H locs cells slots ad ca nms tys ls hW hS hSC hL hLn hoL (okS_c okV_I (okS_t (okS_t hoS))) hcs hss K)
    · next q =>
      cases hp
      obtain ⟨rfl, hi⟩ := hC
      obtain ⟨g1, g2, g3⟩ := hSC (ha.resolve_left q)
      exact va_sld hx hbb g1 g2 g3 hS (inb_vp hi) hd (kk H locs cells slots ad ca nms tys ls hW hS hSC hL hLn hoL (okS_c okV_I (okS_t (okS_t hoS))) hcs hss K)
  · -- baload
    rename_i ins0 st0 i n st1
    obtain rfl : len = 1 := hw
    split at hp
    · cases hp
      obtain ⟨hl, hkd, hi⟩ := hC
      obtain ⟨q0, hq⟩ := List.getElem?_of_mem ((w4 n).mpr hl)
      have he := wso_at (h := h) (ad := ad) (ca := ca) hq
      rw [cell_int (by omega) (by omega)] at he
      obtain ⟨t0, ht⟩ := w5 n ((w4 n).mpr hl) (by omega)
      rw [hkd] at ht
      exact va_bald hx hbb w3 w1 q0 t0 he ht (inb_vp hi) hd (kk H locs cells slots ad ca nms tys ls hW hS hSC hL hLn hoL (okS_c okV_I (okS_t (okS_t hoS))) hcs hss K)
    · cases hp
      obtain ⟨hl, hkd, hi⟩ := hC
      obtain ⟨q0, hq⟩ := List.getElem?_of_mem ((w4 n).mpr hl)
      have he := wso_at (h := h) (ad := ad) (ca := ca) hq
      rw [cell_int (by omega) (by omega)] at he
      obtain ⟨t0, ht⟩ := w5 n ((w4 n).mpr hl) (by omega)
      rw [hkd] at ht
      exact va_zald hx hbb w3 w1 q0 t0 he ht (inb_vp hi) hd (kk H locs cells slots ad ca nms tys ls hW hS hSC hL hLn hoL (okS_c okV_I (okS_t (okS_t hoS))) hcs hss K)
  · -- aaload
    rename_i ins0 st0 i n st1
    obtain rfl : len = 1 := hw
    cases hp
    obtain ⟨hl, hkd, hk10, hi, hr⟩ := hC
    obtain ⟨q0, hq⟩ := List.getElem?_of_mem ((w4 n).mpr hl)
    have he := wso_at (h := h) (ad := ad) (ca := ca) hq
    rw [cell_ref (by omega)] at he
    obtain ⟨t0, ht⟩ := w5 n ((w4 n).mpr hl) (by omega)
    have hty : tyA (kd n.1) = .object (cnm (kd (ety n.1))) := by
      unfold tyA
      rw [if_neg (by omega), if_neg (by omega), if_neg (by omega), show kd n.1 - 110 = kd (ety n.1) by omega]
    rw [hty] at ht
    refine va_aldq hx hbb w3 w1 q0 t0 he ht (inb_vp hi) hd ?_
    have ev : va_rf ((fun j => (hpR h n j).map ad) i.toNatClampNeg) = rl ad (.inr (.inr (some (ety n.1, nat i)))) := by
      show va_rf ((hpR h n (nat i)).map ad) = _
      rw [hr]
      rfl
    rw [ev]
    exact kk H locs cells slots ad ca nms tys ls hW hS hSC hL hLn hoL (okS_c (okV_R (w6 n _ _ hr)) (okS_t (okS_t hoS))) hcs hss K
  · -- iastore
    rename_i ins0 st0 x i n st1
    obtain rfl : len = 1 := hw
    cases hp
    obtain ⟨hl, hkd, hi⟩ := hC
    obtain ⟨q0, hq⟩ := List.getElem?_of_mem ((w4 n).mpr hl)
    have he := wso_at (h := h) (ad := ad) (ca := ca) hq
    rw [cell_int (by omega) (by omega)] at he
    obtain ⟨t0, ht⟩ := w5 n ((w4 n).mpr hl) (by omega)
    rw [hkd] at ht
    have hset := wso_set (h := h) (h2 := setI h n (nat i) x) w2 hq (cell_setI_arr (h := h) (ad := ad) (ca := ca) (v := x) (by omega) (by omega)) (fun n' hn' => cell_setI_ne hn')
    refine va_iast hx hbb w3 w1 w2 hS q0 t0 he ht (inb_vp hi) hd (fun H1 locs1 g1 g2 g3 => ?_)
    have g1 : va_P D vwCl ((wso h ad ca nms).set q0 (ad n, .inl (ca n, hpL h n, .inl (upd (hpI h n) (nat i) x)))) H1 := g1
    have g2 : va_D A ((wso h ad ca nms).set q0 (ad n, .inl (ca n, hpL h n, .inl (upd (hpI h n) (nat i) x)))) := g2
    rw [hset] at g1 g2
    exact kk H1 locs1 cells slots ad ca nms tys ls (Wd_I hW g1 g2 (fun z => by omega)) g3 hSC hL hLn hoL (okS_t (okS_t (okS_t hoS))) hcs hss K
  · -- bastore
    rename_i ins0 st0 x i n st1
    obtain rfl : len = 1 := hw
    split at hp
    · cases hp
      obtain ⟨hl, hkd, hi⟩ := hC
      obtain ⟨q0, hq⟩ := List.getElem?_of_mem ((w4 n).mpr hl)
      have he := wso_at (h := h) (ad := ad) (ca := ca) hq
      rw [cell_int (by omega) (by omega)] at he
      obtain ⟨t0, ht⟩ := w5 n ((w4 n).mpr hl) (by omega)
      rw [hkd] at ht
      have hset := wso_set (h := h) (h2 := setI h n (nat i) x.toInt8.toInt32) w2 hq (cell_setI_arr (h := h) (ad := ad) (ca := ca) (v := x.toInt8.toInt32) (by omega) (by omega)) (fun n' hn' => cell_setI_ne hn')
      refine va_bast hx hbb w3 w1 w2 hS q0 t0 he ht (inb_vp hi) hd (fun H1 locs1 g1 g2 g3 => ?_)
      rw [vp_nar_byte] at g1 g2
      have g1 : va_P D vwCl ((wso h ad ca nms).set q0 (ad n, .inl (ca n, hpL h n, .inl (upd (hpI h n) (nat i) x.toInt8.toInt32)))) H1 := g1
      have g2 : va_D A ((wso h ad ca nms).set q0 (ad n, .inl (ca n, hpL h n, .inl (upd (hpI h n) (nat i) x.toInt8.toInt32)))) := g2
      rw [hset] at g1 g2
      exact kk H1 locs1 cells slots ad ca nms tys ls (Wd_I hW g1 g2 (fun _ => fits_byte8 x)) g3 hSC hL hLn hoL (okS_t (okS_t (okS_t hoS))) hcs hss K
    · cases hp
      obtain ⟨hl, hkd, hi, hx01⟩ := hC
      obtain ⟨q0, hq⟩ := List.getElem?_of_mem ((w4 n).mpr hl)
      have he := wso_at (h := h) (ad := ad) (ca := ca) hq
      rw [cell_int (by omega) (by omega)] at he
      obtain ⟨t0, ht⟩ := w5 n ((w4 n).mpr hl) (by omega)
      rw [hkd] at ht
      have hset := wso_set (h := h) (h2 := setI h n (nat i) x) w2 hq (cell_setI_arr (h := h) (ad := ad) (ca := ca) (v := x) (by omega) (by omega)) (fun n' hn' => cell_setI_ne hn')
      refine va_zast hx hbb w3 w1 w2 hS q0 t0 he ht (inb_vp hi) hd (fun H1 locs1 g1 g2 g3 => ?_)
      have ez : vp_nar .boolean x = x := by
        unfold vp_nar
        rw [(nar_bool hx01).1]
      rw [ez] at g1 g2
      have g1 : va_P D vwCl ((wso h ad ca nms).set q0 (ad n, .inl (ca n, hpL h n, .inl (upd (hpI h n) (nat i) x)))) H1 := g1
      have g2 : va_D A ((wso h ad ca nms).set q0 (ad n, .inl (ca n, hpL h n, .inl (upd (hpI h n) (nat i) x)))) := g2
      rw [hset] at g1 g2
      exact kk H1 locs1 cells slots ad ca nms tys ls (Wd_I hW g1 g2 (fun z => by omega)) g3 hSC hL hLn hoL (okS_t (okS_t (okS_t hoS))) hcs hss K
  · -- aastore
    rename_i ins0 st0 v i n st1
    obtain rfl : len = 1 := hw
    cases hp
    obtain ⟨hl, hkd, hk10, hlv, hi⟩ := hC
    have hk7 := kd_lt7 _ hk10
    obtain ⟨q0, hq⟩ := List.getElem?_of_mem ((w4 n).mpr hl)
    have he := wso_at (h := h) (ad := ad) (ca := ca) hq
    rw [cell_ref (by omega)] at he
    obtain ⟨qk, hqk⟩ := List.getElem?_of_mem ((w4 v).mpr hlv)
    have hev := wso_at (h := h) (ad := ad) (ca := ca) hqk
    rw [cell_obj rfl hk7] at hev
    obtain ⟨t0, ht⟩ := w5 n ((w4 n).mpr hl) (by omega)
    have hty : tyA (kd n.1) = .object (cnm (kd v.1)) := by
      unfold tyA
      rw [if_neg (by omega), if_neg (by omega), if_neg (by omega), show kd n.1 - 110 = kd v.1 by omega]
    rw [hty] at ht
    have hset := wso_set (h := h) (h2 := setR h n (nat i) (some v)) w2 hq (cell_setR_arr (h := h) (ad := ad) (ca := ca) (m := v) (by omega)) (fun n' hn' => cell_setR_ne hn')
    refine va_astq (r := (cnm (kd v.1), clT (kd v.1), nfl (kd v.1))) hx hbb w3 w1 w2 hS q0 t0 qk (kd v.1) he ht hev (cl_at _ hk7) (inb_vp hi) hd (fun H1 locs1 g1 g2 g3 => ?_)
    have g1 : va_P D vwCl ((wso h ad ca nms).set q0 (ad n, .inl (ca n, hpL h n, .inr (.inr (.inr (.inr (va_up (fun j => (hpR h n j).map ad) (nat i) (some (ad v))))))))) H1 := g1
    have g2 : va_D A ((wso h ad ca nms).set q0 (ad n, .inl (ca n, hpL h n, .inr (.inr (.inr (.inr (va_up (fun j => (hpR h n j).map ad) (nat i) (some (ad v))))))))) := g2
    rw [hset] at g1 g2
    exact kk H1 locs1 cells slots ad ca nms tys ls (Wd_R hW ((w4 v).mpr hlv) g1 g2) g3 hSC hL hLn hoL (okS_t (okS_t (okS_t hoS))) hcs hss K
  · -- arraylength
    rename_i ins0 st0 n st1
    obtain ⟨rfl, ha⟩ := (hw : len = 1 ∧ (a = 0 ∨ y = 135))
    split at hp
    · cases hp
      obtain ⟨hl, hkd⟩ := hC
      obtain ⟨q0, hq⟩ := List.getElem?_of_mem ((w4 n).mpr hl)
      have he := wso_at (h := h) (ad := ad) (ca := ca) hq
      obtain ⟨t0, ht⟩ := w5 n ((w4 n).mpr hl) hkd
      by_cases h110 : kd n.1 < 110
      · rw [cell_int hkd h110] at he
        exact va_alen hx hbb w3 w1 q0 t0 he ht rfl hd (kk H locs cells slots ad ca nms tys ls hW hS hSC hL hLn hoL (okS_c okV_I (okS_t hoS)) hcs hss K)
      · rw [cell_ref (by omega)] at he
        exact va_alen hx hbb w3 w1 q0 t0 he ht rfl hd (kk H locs cells slots ad ca nms tys ls hW hS hSC hL hLn hoL (okS_c okV_I (okS_t hoS)) hcs hss K)
    · next q =>
      cases hp
      obtain rfl := hC
      obtain ⟨g1, g2, g3⟩ := hSC (ha.resolve_left q)
      exact va_slen hx hbb g1 g2 g3 hS hd (kk H locs cells slots ad ca nms tys ls hW hS hSC hL hLn hoL (okS_c okV_I (okS_t hoS)) hcs hss K)
  · -- idiv
    rename_i ins0 st0 z x st1
    obtain rfl : len = 1 := hw
    cases hp
    exact lv_idiv hx hbb hd hC (kk H locs cells slots ad ca nms tys ls hW hS hSC hL hLn hoL (okS_c okV_I (okS_t (okS_t hoS))) hcs hss K)
  · -- irem
    rename_i ins0 st0 z x st1
    obtain rfl : len = 1 := hw
    cases hp
    exact lv_irem hx hbb hd hC (kk H locs cells slots ad ca nms tys ls hW hS hSC hL hLn hoL (okS_c okV_I (okS_t (okS_t hoS))) hcs hss K)
  · -- newarray
    rename_i ins0 st0 ty0 n st1
    obtain ⟨rfl, hk, hkt⟩ := (hw : len = 2 ∧ iw (.arrayClass (newarray.typeOf ty0)) ∧ ((kd a = 100 ∧ ty0 = .int) ∨ (kd a = 101 ∧ ty0 = .byte) ∨ (kd a = 102 ∧ ty0 = .boolean)))
    cases hp
    obtain ⟨hn0, hn2⟩ := hC
    have hc1 : cells + 1 ≤ R.cells := by
      have : hpN h + 1 ≤ hpN h' := kn1
      omega
    have hs1 : slots + nat n ≤ R.slots := by
      have : hpS h + nat n ≤ hpS h' := kn2
      omega
    have hgo : ∀ (q : Nat) (cA : ClassId) (H1 : Heap), 100 ≤ kd a → kd a < 110 → va_K D vwCl (tys ++ [(cA, tyA (kd a))]) s → va_P D vwCl (wso h ad ca nms ++ [(q, .inl (cA, nat n, .inl (fun _ => 0)))]) H1 → va_D A (wso h ad ca nms ++ [(q, .inl (cA, nat n, .inl (fun _ => 0)))]) → va_S A s.heap H1 locs → W p l e R s m args below meth c H1 locs (cells + 1) (slots + nat n) Z (F0 m (pc + 2) ls (.ref q :: List.map (rl ad) st1)) := by
      intro q cA H1 hk1 hk2 g1 g2 g3 g4
      refine alloc a q (nat n) cA (newC h a (nat n) (nat n)) H1 locs _ _ st1 (pc + 2) (by omega) rfl rfl kn1 kn2 (hpC_new h a _ _) (new_ne h a _ _) (new_R h a _ _) (fun _ j => by rw [new_I]; rfl) ?_ g2 g3 g1 (fun t0 x hx => ?_) (fun _ => ⟨tys.length, ?_⟩) g4 (okS_t hoS) kk
      · rw [cell_int (n := (a, hpC h a)) hk1 hk2, new_L, new_I, upn_eq]
      · rw [List.getElem?_append_left (List.getElem?_eq_some_iff.mp hx).1]
        exact hx
      · rw [List.getElem?_append_right (Nat.le_refl _), Nat.sub_self]
        rfl
    rcases hkt with ⟨hka, rfl⟩ | ⟨hka, rfl⟩ | ⟨hka, rfl⟩
    · refine va_newa (ty := .int) (a0 := (nat n, .inl (fun _ => 0))) hx hbb (hts _ (bw_of hk)) rfl w3 w1 w2 hS hA (fun _ => rfl) hn0 rfl (by show nat n * 4 ≤ _; omega) hc1 hs1 hd (fun q cA H1 g1 g2 g3 g4 => hgo q cA H1 (by omega) (by omega) (by rw [hka]; exact g1) g2 g3 g4)
    · refine va_newa (ty := .byte) (a0 := (nat n, .inl (fun _ => 0))) hx hbb (hts _ (bw_of hk)) rfl w3 w1 w2 hS hA (fun _ => rfl) hn0 rfl (by show nat n * 1 ≤ _; omega) hc1 hs1 hd (fun q cA H1 g1 g2 g3 g4 => hgo q cA H1 (by omega) (by omega) (by rw [hka]; exact g1) g2 g3 g4)
    · refine va_newa (ty := .boolean) (a0 := (nat n, .inl (fun _ => 0))) hx hbb (hts _ (bw_of hk)) rfl w3 w1 w2 hS hA (fun _ => rfl) hn0 rfl (by show nat n * 1 ≤ _; omega) hc1 hs1 hd (fun q cA H1 g1 g2 g3 g4 => hgo q cA H1 (by omega) (by omega) (by rw [hka]; exact g1) g2 g3 g4)
  · -- anewarray
    rename_i ins0 st0 i n st1
    obtain ⟨rfl, hk3, hka, hk⟩ := (hw : len = 3 ∧ kd (ety a) < 3 ∧ kd a = 110 + kd (ety a) ∧ iw (.classLink (yOw y) i (cnm (kd (ety a)))))
    cases hp
    obtain ⟨hn0, hn2⟩ := hC
    have hc1 : cells + 1 ≤ R.cells := by
      have : hpN h + 1 ≤ hpN h' := kn1
      omega
    have hs1 : slots + nat n ≤ R.slots := by
      have : hpS h + nat n ≤ hpS h' := kn2
      omega
    have hty : tyA (kd a) = .object (cnm (kd (ety a))) := by
      unfold tyA
      rw [if_neg (by omega), if_neg (by omega), if_neg (by omega), show kd a - 110 = kd (ety a) by omega]
    refine va_newq hx hbb hown (hts _ (bw_of hk)) (hwx.1 _ hk3) w3 w1 w2 hS hA hn0 rfl (by show nat n * 4 ≤ _; omega) hc1 hs1 hd (fun q cA H1 g1 g2 g3 g4 => ?_)
    refine alloc a q (nat n) cA (newC h a (nat n) (nat n)) H1 locs _ _ st1 (pc + 3) (by omega) rfl rfl kn1 kn2 (hpC_new h a _ _) (new_ne h a _ _) (new_R h a _ _) (fun z => by omega) ?_ g2 g3 g1 (fun t0 x hx => ?_) (fun _ => ⟨tys.length, ?_⟩) g4 (okS_t hoS) kk
    · rw [cell_ref (n := (a, hpC h a)) (by show 110 ≤ kd a; omega), new_L, upn_eq]
      simp only [new_R, Option.map_none]
      rfl
    · rw [List.getElem?_append_left (List.getElem?_eq_some_iff.mp hx).1]
      exact hx
    · rw [List.getElem?_append_right (Nat.le_refl _), Nat.sub_self, hty]
      rfl
  · -- new
    rename_i ins0 st0 i
    obtain ⟨rfl, hka, hb7, hk1, hk2, hk3⟩ := (hw : len = 3 ∧ kd a = b ∧ b < 7 ∧ iw (.classLink (yOw y) i (cnm b)) ∧ iw (.instantiable (cnm b) (nfl b)) ∧ iw (.initialized (cnm b)))
    cases hp
    have hc1 : cells + 1 ≤ R.cells := by
      have : hpN h + 1 ≤ hpN h' := kn1
      omega
    have hs1 : slots + nfl b ≤ R.slots := by
      have : hpS h + nfl b ≤ hpS h' := kn2
      omega
    have hfs : ∀ j, j < nfl b → defaultValue (clY b j) = vp_V ((List.range (nfl b)).map (fun k => if fty b k = 2 then Value.null else Value.int 0)) j := by
      intro j hj
      have ht := tyk_ok b hb7 j hj
      unfold vp_V
      rw [List.getD_eq_getElem?_getD, List.getElem?_map, List.getElem?_range hj]
      show defaultValue (clY b j) = (if fty b j = 2 then Value.null else Value.int 0)
      have hft : ∀ c, c < 7 → ∀ k, k < nfl c → fty c k = 0 ∨ fty c k = 1 ∨ fty c k = 2 := by decide +kernel
      rcases hft b hb7 j hj with q | q | q
      · rw [q] at ht ⊢
        rw [tyk_0 ht]
        rfl
      · rw [q] at ht ⊢
        rw [tyk_1 ht]
        rfl
      · rw [q] at ht ⊢
        rcases tyk_2 ht with ⟨z, e⟩ | ⟨z, e⟩ <;> rw [e] <;> rfl
    refine va_new (C := cnm b) (T := clT b) (N := nfl b) (Ts := bw) (ci := b) hx hbb hts (hinC b hb7) (clY b) (clY_ok b hb7) hown (hts _ (bw_of hk1)) (hts _ (bw_of hk2)) (hts _ (bw_of hk3)) w3 w1 w2 hS hA (cl_at b hb7) hfs hc1 hs1 hd (fun q H1 g2 g3 g4 => ?_)
    refine alloc a q (nfl b) 0 (newC h a 0 (nfl b)) H1 locs _ tys st (pc + 3) (by omega) rfl rfl kn1 kn2 (hpC_new h a _ _) (new_ne h a _ _) (new_R h a _ _) (fun z => by omega) ?_ g2 g3 w3 (fun t0 x hx => hx) (fun z => by omega) g4 hoS kk
    rw [cell_obj (n := (a, hpC h a)) hka hb7]
    congr 2
    apply List.map_congr_left
    intro k hk
    unfold fval
    rw [new_R, new_I]
    by_cases z : fty b k = 2
    · rw [if_pos z, z]
      rfl
    · rw [if_neg z]
      split
      · next z2 => exact absurd z2 z
      · rfl
  · -- Object.<init>
    rename_i ins0 st0 i n st1
    obtain ⟨rfl, -, hk⟩ := (hw : len = 3 ∧ _ ∧ (a = 1000 → iw (.methodLink (yOw y) i objectInit) ∧ iw (.instanceMethod objectInit) ∧ iw (.code objectInit ⟨#[0xb1]⟩ 1 none) ∧ 1 ≤ yRk y ∧ 20 ≤ yLo y))
    split at hp
    · cases hp
      obtain ⟨k1, k2, k3, k4, k5⟩ := hk rfl
      have hcat := rl_cats ad st'
      refine W.objInit hx hbb hown (hts _ (bw_of k1)) (hts _ (bw_of k2)) (hts _ (bw_of k3)) rfl (by show ls.size = _; rw [hL.1, hml]) rfl hd (by omega) (by show 2 * 0 + _ + 12 ≤ _; omega) ?_
      refine W.eq (g2 := F0 m (pc + 3) ls (List.map (rl ad) st')) rfl ?_
      exact kk H locs cells slots ad ca nms tys ls hW hS hSC hL hLn hoL (okS_t hoS) hcs hss K
    · cases hp
  · -- static calls of the library
    rename_i ins0 st0 i z x st1
    obtain ⟨rfl, -, hk1, hk2⟩ := (hw : len = 3 ∧ _ ∧ (a = 1001 → iw (.methodLink (yOw y) i Lib.Math.min.name) ∧ iw (.static Lib.Math.min.name) ∧ iw (.initialized "java/lang/Math") ∧ iw (.code Lib.Math.min.name Lib.Math.min.code 2 (some .int)) ∧ 1 ≤ yRk y ∧ 21 ≤ yLo y) ∧ (a = 1002 → iw (.methodLink (yOw y) i arraycopyName) ∧ iw (.native arraycopyName) ∧ iw (.static arraycopyName) ∧ iw (.initialized "java/lang/System") ∧ 1 ≤ yRk y ∧ 26 ≤ yLo y))
    split at hp
    · cases hp
      obtain ⟨k1, k2, k3, k4, k5, k6⟩ := hk1 rfl
      have hcat := rl_cats ad st1
      exact va_mmin hx hbb (by rw [hL.1, hml]) hown (hts _ (bw_of k1)) (hts _ (bw_of k2)) (hts _ (bw_of k3)) (hts _ (bw_of k4)) (by omega) (by omega) (by omega) (by omega) hd (kk H locs cells slots ad ca nms tys ls hW hS hSC hL hLn hoL (okS_c okV_I (okS_t (okS_t hoS))) hcs hss K)
    · split at hp
      · next d sp s0 st2 =>
        cases hp
        obtain ⟨k1, k2, k3, k4, k5, k6⟩ := hk2 rfl
        have hcat := rl_cats ad st'
        obtain ⟨c8, hl0, hl1, hkd0, hkd1, q1, q2, q3, q4, q5⟩ := hC
        obtain ⟨q0, hq0⟩ := List.getElem?_of_mem ((w4 s0).mpr hl0)
        have he0 := wso_at (h := h) (ad := ad) (ca := ca) hq0
        rw [cell_int (by omega) (by omega)] at he0
        obtain ⟨qd, hqd⟩ := List.getElem?_of_mem ((w4 d).mpr hl1)
        have hed := wso_at (h := h) (ad := ad) (ca := ca) hqd
        rw [cell_int (by omega) (by omega)] at hed
        obtain ⟨t0, ht0⟩ := w5 s0 ((w4 s0).mpr hl0) (by omega)
        rw [hkd0] at ht0
        obtain ⟨t1, ht1⟩ := w5 d ((w4 d).mpr hl1) (by omega)
        rw [hkd1] at ht1
        have hnw : nativeFrameWords "java/lang/System" "arraycopy" 5 = 7 := by decide +kernel
        have hset := wso_set (h := h) (h2 := setF h d (fun k => if nat x ≤ k ∧ k < nat x + nat z then hpI h s0 (nat sp + (k - nat x)) else hpI h d k)) w2 hqd (cell_setF_arr (h := h) (ad := ad) (ca := ca) (f := fun k => if nat x ≤ k ∧ k < nat x + nat z then hpI h s0 (nat sp + (k - nat x)) else hpI h d k) (by omega) (by omega)) (fun n' hn' => cell_setF_ne hn')
        refine va_copyi hx hbb (by rw [hL.1, hml]) hown (hts _ (bw_of k1)) (hts _ (bw_of k2)) (hts _ (bw_of k3)) (hts _ (bw_of k4)) w3 w1 w2 hS q0 qd t0 t1 he0 hed ht0 ht1 rfl q1 q2 q3 q4 q5 (fun i _ => w7 s0 hkd0 _) (by omega) (by rw [hnw]; omega) hd (fun H1 locs1 g1 g2 g3 => ?_)
        have g1 : va_P D vwCl ((wso h ad ca nms).set qd (ad d, .inl (ca d, hpL h d, .inl (fun k => if nat x ≤ k ∧ k < nat x + nat z then hpI h s0 (nat sp + (k - nat x)) else hpI h d k)))) H1 := g1
        have g2 : va_D A ((wso h ad ca nms).set qd (ad d, .inl (ca d, hpL h d, .inl (fun k => if nat x ≤ k ∧ k < nat x + nat z then hpI h s0 (nat sp + (k - nat x)) else hpI h d k)))) := g2
        rw [hset] at g1 g2
        refine kk H1 locs1 cells slots ad ca nms tys ls (Wd_F hW g1 g2 (fun _ j => ?_)) g3 hSC hL hLn hoL (okS_t (okS_t (okS_t (okS_t (okS_t hoS))))) hcs hss K
        split
        · exact w7 s0 hkd0 _
        · exact w7 d hkd1 _
      · cases hp
    · cases hp
  · -- clone
    rename_i ins0 st0 i s0 st1
    obtain ⟨rfl, -, hk⟩ := (hw : len = 3 ∧ _ ∧ (a = 1003 → kd b = 101 ∧ iw (.methodLink (yOw y) i ⟨"[B", "clone", "()Ljava/lang/Object;"⟩) ∧ iw (.sameMethod "[B" "java/lang/Object" "clone" "()Ljava/lang/Object;") ∧ iw (.native ⟨"java/lang/Object", "clone", "()Ljava/lang/Object;"⟩) ∧ iw (.instanceMethod ⟨"java/lang/Object", "clone", "()Ljava/lang/Object;"⟩) ∧ iw (.selects "[B" ⟨"[B", "clone", "()Ljava/lang/Object;"⟩ ⟨"java/lang/Object", "clone", "()Ljava/lang/Object;"⟩) ∧ 1 ≤ yRk y ∧ 22 ≤ yLo y))
    split at hp
    · cases hp
      obtain ⟨kb, k1, k2, k3, k4, k5, k6, k7⟩ := hk rfl
      have hcat := rl_cats ad st1
      obtain ⟨c8, hl0, hkd0⟩ := hC
      obtain ⟨q0, hq0⟩ := List.getElem?_of_mem ((w4 s0).mpr hl0)
      have he0 := wso_at (h := h) (ad := ad) (ca := ca) hq0
      rw [cell_int (by omega) (by omega)] at he0
      obtain ⟨t0, ht0⟩ := w5 s0 ((w4 s0).mpr hl0) (by omega)
      rw [hkd0] at ht0
      have hc1 : cells + 1 ≤ R.cells := by
        have : hpN h + 1 ≤ hpN h' := kn1
        omega
      have hs1 : slots + hpL h s0 ≤ R.slots := by
        have : hpS h + hpL h s0 ≤ hpS h' := kn2
        omega
      have hs0 : s0 ≠ (b, hpC h b) := by
        rintro rfl
        exact Nat.lt_irrefl _ hl0
      refine va_clone (ad := "[B") hx hbb (by rw [hL.1, hml]) hown (hts _ (bw_of k1)) (hts _ (bw_of k2)) (hts _ (bw_of k3)) (hts _ (bw_of k4)) (hts _ (bw_of k5)) hwx.2 w3 w1 w2 hS hA q0 t0 he0 ht0 (va_nm_byte (w3.2 t0 _ ht0).2) ?_ (by omega) (by omega) hc1 hs1 hd (fun q H1 g1 g2 g3 g4 => ?_)
      · intro j v hv
        rw [vp_cell_i] at hv
        exact va_fit (fun j _ => w7 s0 hkd0 j) j v hv
      · refine alloc b q (hpL h s0) (ca s0) (setF (newC h b (hpL h s0) (hpL h s0)) (b, hpC h b) (hpI h s0)) H1 locs _ _ st1 (pc + 3) (by omega) rfl rfl kn1 kn2 (hpC_new h b (hpL h s0) (hpL h s0)) (fun n hn => ?_) (new_R h b (hpL h s0) (hpL h s0)) (fun _ j => ?_) ?_ g2 g3 g1 (fun t0 x hx => ?_) (fun _ => ⟨tys.length, ?_⟩) g4 (okS_t hoS) kk
        · obtain ⟨n1, n2, n3⟩ := new_ne h b (hpL h s0) (hpL h s0) n hn
          refine ⟨n1, ?_, n3⟩
          funext j
          rw [hpI_setF, if_neg hn, n2]
        · rw [hpI_setF, if_pos rfl]
          exact w7 s0 hkd0 j
        · have e1 : hpI (setF (newC h b (hpL h s0) (hpL h s0)) (b, hpC h b) (hpI h s0)) (b, hpC h b) = hpI h s0 := by
            funext j
            rw [hpI_setF, if_pos rfl]
          have e2 : hpL (setF (newC h b (hpL h s0) (hpL h s0)) (b, hpC h b) (hpI h s0)) (b, hpC h b) = hpL h s0 := new_L h b (hpL h s0) (hpL h s0)
          rw [cell_int (n := (b, hpC h b)) (by show 100 ≤ kd b; omega) (by show kd b < 110; omega), e1, e2, upn_eq]
        · rw [List.getElem?_append_left (List.getElem?_eq_some_iff.mp hx).1]
          exact hx
        · rw [List.getElem?_append_right (Nat.le_refl _), Nat.sub_self, kb]
          rfl
    · cases hp
  · -- checkcast
    rename_i ins0 st0 i n st1
    obtain ⟨rfl, hk⟩ := (hw : len = 3 ∧ iw (.classLink (yOw y) i "[B"))
    cases hp
    obtain ⟨hl, hkd⟩ := hC
    obtain ⟨q0, hq⟩ := List.getElem?_of_mem ((w4 n).mpr hl)
    have he := wso_at (h := h) (ad := ad) (ca := ca) hq
    rw [cell_int (by omega) (by omega)] at he
    obtain ⟨t0, ht⟩ := w5 n ((w4 n).mpr hl) (by omega)
    rw [hkd] at ht
    exact va_castA hx hbb hown (hts _ (bw_of hk)) w1 q0 he (va_nm_byte (w3.2 t0 _ ht).2) hd (kk H locs cells slots ad ca nms tys ls hW hS hSC hL hLn hoL hoS hcs hss K)
  · cases hp
