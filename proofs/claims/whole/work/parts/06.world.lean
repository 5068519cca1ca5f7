/-! Our small heap as a world of the kit's. -/
def bw : List Cond := lw_tbl.filter goodWord
theorem bw_of {w : Cond} (h : iw w) : w ∈ bw := List.mem_filter.mpr h
theorem bw_good {w : Cond} (h : w ∈ bw) : (w.onTables && w.keeps) = true ∨ ∃ ty, w = .arrayClass ty := good_of_word (List.mem_filter.mp h).2
def wsy (y : Nat) : List Cond := .code (yNm y) (yBy y) (mlo y) (yRt y) :: bw
set_option maxRecDepth 100000 in
theorem hin_0 : ∀ w ∈ u_ws RX0 TX0 6, w ∈ lw_tbl ∧ goodWord w = true := by decide +kernel
set_option maxRecDepth 100000 in
theorem hin_1 : ∀ w ∈ u_ws RX1 TX1 17, w ∈ lw_tbl ∧ goodWord w = true := by decide +kernel
set_option maxRecDepth 100000 in
theorem hin_2 : ∀ w ∈ u_ws RX2 TX2 8, w ∈ lw_tbl ∧ goodWord w = true := by decide +kernel
set_option maxRecDepth 100000 in
theorem hin_3 : ∀ w ∈ u_ws RX3 TX3 6, w ∈ lw_tbl ∧ goodWord w = true := by decide +kernel
set_option maxRecDepth 100000 in
theorem hin_4 : ∀ w ∈ u_ws RX4 TX4 6, w ∈ lw_tbl ∧ goodWord w = true := by decide +kernel
set_option maxRecDepth 100000 in
theorem hin_5 : ∀ w ∈ u_ws RX5 TX5 18, w ∈ lw_tbl ∧ goodWord w = true := by decide +kernel
set_option maxRecDepth 100000 in
theorem hin_6 : ∀ w ∈ u_ws RX6 TX6 47, w ∈ lw_tbl ∧ goodWord w = true := by decide +kernel
theorem hinC (c : Nat) (hc : c < 7) (w : Cond) (hw : w ∈ u_ws (cnm c) (clT c) (nfl c)) : w ∈ bw := by
  apply bw_of
  match c, hc, hw with
  | 0, _, hw => exact hin_0 w hw
  | 1, _, hw => exact hin_1 w hw
  | 2, _, hw => exact hin_2 w hw
  | 3, _, hw => exact hin_3 w hw
  | 4, _, hw => exact hin_4 w hw
  | 5, _, hw => exact hin_5 w hw
  | 6, _, hw => exact hin_6 w hw
  | n + 7, h, _ => exact absurd h (by omega)
theorem cl_at (c : Nat) (hc : c < 7) : vwCl[c]? = some (cnm c, clT c, nfl c) := by
  match c, hc with
  | 0, _ => rfl
  | 1, _ => rfl
  | 2, _ => rfl
  | 3, _ => rfl
  | 4, _ => rfl
  | 5, _ => rfl
  | 6, _ => rfl
  | n + 7, h => exact absurd h (by omega)
theorem clY_ok (c : Nat) (hc : c < 7) : ∀ k, k < nfl c → parseFieldDescriptor (clT c k).2.2.1 = some (clY c k) := by
  match c, hc with
  | 0, _ => exact tyX0_ok
  | 1, _ => exact tyX1_ok
  | 2, _ => exact tyX2_ok
  | 3, _ => exact tyX3_ok
  | 4, _ => exact tyX4_ok
  | 5, _ => exact tyX5_ok
  | 6, _ => exact tyX6_ok
  | n + 7, h => exact absurd h (by omega)
theorem clN_ok (c : Nat) (hc : c < 7) : ∀ a, a < nfl c → ∀ b, b < nfl c → a ≠ b → (clT c a).2.1 ≠ (clT c b).2.1 := by
  match c, hc with
  | 0, _ => exact nmX0
  | 1, _ => exact nmX1
  | 2, _ => exact nmX2
  | 3, _ => exact nmX3
  | 4, _ => exact nmX4
  | 5, _ => exact nmX5
  | 6, _ => exact nmX6
  | n + 7, h => exact absurd h (by omega)
def tyk : FieldType → Nat
  | .int => 0
  | .boolean => 1
  | .object _ => 2
  | .array _ => 2
  | _ => 3
theorem tyk_ok : ∀ c, c < 7 → ∀ k, k < nfl c → tyk (clY c k) = fty c k := by decide +kernel
-- the code table
theorem all_at : ∀ (cs : List (List (Option Ent))) (y0 y : Nat) (c : List (Option Ent)), allP y0 cs → cs[y]? = some c → dck (yBy (y0 + y)) 0 c = true ∧ okl (y0 + y) 0 c
  | [], _, _, _, _, h => by simp at h
  | c0 :: cs, y0, 0, c, hp, h => by
    rw [List.getElem?_cons_zero] at h
    cases h
    exact hp.1
  | c0 :: cs, y0, y + 1, c, hp, h => by
    rw [List.getElem?_cons_succ] at h
    have := all_at cs (y0 + 1) y c hp.2 h
    rwa [show y0 + 1 + y = y0 + (y + 1) by omega] at this
theorem dck_at (b : ByteArray) : ∀ (l : List (Option Ent)) (pc i : Nat) (e : Ent), dck b pc l = true → l[i]? = some (some e) → decode b (pc + i) = .ok (e.1, e.2.1)
  | [], _, _, _, _, h => by simp at h
  | none :: l, pc, 0, e, _, h => by
    rw [List.getElem?_cons_zero] at h
    cases h
  | some e0 :: l, pc, 0, e, hp, h => by
    rw [List.getElem?_cons_zero] at h
    cases h
    simp only [dck, Bool.and_eq_true] at hp
    have h1 := hp.1
    rw [Nat.add_zero]
    cases hd : decode b pc with
    | ok q =>
      rw [hd] at h1
      simp only [Bool.and_eq_true, decide_eq_true_eq] at h1
      rw [← h1.1, ← h1.2]
    | error z =>
      rw [hd] at h1
      cases h1
  | none :: l, pc, i + 1, e, hp, h => by
    rw [List.getElem?_cons_succ] at h
    have := dck_at b l (pc + 1) i e hp h
    rwa [show pc + 1 + i = pc + (i + 1) by omega] at this
  | some e0 :: l, pc, i + 1, e, hp, h => by
    rw [List.getElem?_cons_succ] at h
    simp only [dck, Bool.and_eq_true] at hp
    have := dck_at b l (pc + 1) i e hp.2 h
    rwa [show pc + 1 + i = pc + (i + 1) by omega] at this
theorem okl_at (y : Nat) : ∀ (l : List (Option Ent)) (pc i : Nat) (e : Ent), okl y pc l → l[i]? = some (some e) → okw y (pc + i) e.1 e.2.1 e.2.2.1 e.2.2.2
  | [], _, _, _, _, h => by simp at h
  | none :: l, pc, 0, e, _, h => by
    rw [List.getElem?_cons_zero] at h
    cases h
  | some e0 :: l, pc, 0, e, hp, h => by
    rw [List.getElem?_cons_zero] at h
    cases h
    exact hp.1
  | none :: l, pc, i + 1, e, hp, h => by
    rw [List.getElem?_cons_succ] at h
    have := okl_at y l (pc + 1) i e hp h
    rwa [show pc + 1 + i = pc + (i + 1) by omega] at this
  | some e0 :: l, pc, i + 1, e, hp, h => by
    rw [List.getElem?_cons_succ] at h
    have := okl_at y l (pc + 1) i e hp.2 h
    rwa [show pc + 1 + i = pc + (i + 1) by omega] at this
theorem cd_ok {y pc : Nat} {ins : Instr} {len a b : Nat} (h : cd y pc = some (ins, len, a, b)) : decode (yBy y) pc = .ok (ins, len) ∧ okw y pc ins len a b := by
  unfold cd at h
  cases hy : mc_progs[y]? with
  | none => rw [hy] at h; cases h
  | some c =>
    rw [hy] at h
    dsimp only at h
    cases hc : c[pc]? with
    | none => rw [hc] at h; cases h
    | some e =>
      rw [hc] at h
      dsimp only at h
      subst h
      have h1 := all_at mc_progs 0 y c all_ok hy
      rw [Nat.zero_add] at h1
      have h2 := dck_at _ c 0 pc _ h1.1 hc
      have h3 := okl_at y c 0 pc _ h1.2 hc
      rw [Nat.zero_add] at h2 h3
      exact ⟨h2, h3⟩
-- cells
def fval (h : Hp) (ad : Nm → Nat) (n : Nm) (c k : Nat) : Value := match fty c k with
  | 2 => va_rf ((hpR h n k).map ad)
  | _ => .int (hpI h n k)
def cell (h : Hp) (ad : Nm → Nat) (ca : Nm → ClassId) (n : Nm) : va_E :=
  if kd n.1 < 10 then .inr (kd n.1, (List.range (nfl (kd n.1))).map (fun k => fval h ad n (kd n.1) k))
  else if kd n.1 < 110 then .inl (ca n, hpL h n, .inl (hpI h n))
  else .inl (ca n, hpL h n, .inr (.inr (.inr (.inr (fun j => (hpR h n j).map ad)))))
def wso (h : Hp) (ad : Nm → Nat) (ca : Nm → ClassId) (nms : List Nm) : va_W := nms.map (fun n => (ad n, cell h ad ca n))
def rl (ad : Nm → Nat) (v : Vl) : Value := match v with
  | .inl x => .int x
  | .inr (.inl x) => .long x
  | .inr (.inr o) => va_rf (o.map ad)
def tyA (k : Nat) : FieldType := if k = 100 then .int else if k = 101 then .byte else if k = 102 then .boolean else .object (cnm (k - 110))
def okN (nms : List Nm) (n : Nm) : Prop := n ∈ nms ∨ n = (98, 0)
def okV (nms : List Nm) (v : Vl) : Prop := ∀ n, v = vR (some n) → okN nms n
def okS (nms : List Nm) (st : St) : Prop := ∀ v ∈ st, okV nms v
def okL (nms : List Nm) (L : Ls) : Prop := ∀ v, some v ∈ L → okV nms v
def Wd (D : va_G) (A : Nat → Prop) (s : State) (ad : Nm → Nat) (ca : Nm → ClassId) (nms : List Nm) (tys : List (ClassId × FieldType)) (h : Hp) (H : Heap) : Prop :=
  va_P D vwCl (wso h ad ca nms) H ∧ va_D A (wso h ad ca nms) ∧ va_K D vwCl tys s ∧ (∀ n, n ∈ nms ↔ live h n) ∧ (∀ n ∈ nms, 100 ≤ kd n.1 → ∃ t0 : Nat, tys[t0]? = some (ca n, tyA (kd n.1))) ∧ (∀ n k m, hpR h n k = some m → m ∈ nms) ∧ (∀ n, kd n.1 = 101 → ∀ j, fits .byte (.int (hpI h n j)) = true)
theorem hpI_setI (h : Hp) (n : Nm) (k : Nat) (v : Int32) (n' : Nm) (k' : Nat) : hpI (setI h n k v) n' k' = if n' = n ∧ k' = k then v else hpI h n' k' := rfl
theorem hpR_setR (h : Hp) (n : Nm) (k : Nat) (v : Option Nm) (n' : Nm) (k' : Nat) : hpR (setR h n k v) n' k' = if n' = n ∧ k' = k then v else hpR h n' k' := rfl
theorem hpI_setF (h : Hp) (n : Nm) (f : Nat → Int32) (n' : Nm) (k' : Nat) : hpI (setF h n f) n' k' = if n' = n then f k' else hpI h n' k' := rfl
theorem wso_at {h : Hp} {ad : Nm → Nat} {ca : Nm → ClassId} {nms : List Nm} {q0 : Nat} {n : Nm} (hq : nms[q0]? = some n) : (wso h ad ca nms)[q0]? = some (ad n, cell h ad ca n) := by
  unfold wso
  rw [List.getElem?_map, hq]
  rfl
theorem wso_set {A : Nat → Prop} {h h2 : Hp} {ad : Nm → Nat} {ca : Nm → ClassId} {nms : List Nm} {q0 : Nat} {n : Nm} {e : va_E} (hD : va_D A (wso h ad ca nms)) (hq : nms[q0]? = some n) (he : e = cell h2 ad ca n) (ho : ∀ n', n' ≠ n → cell h2 ad ca n' = cell h ad ca n') : (wso h ad ca nms).set q0 (ad n, e) = wso h2 ad ca nms := by
  have hlen : q0 < (wso h ad ca nms).length := (List.getElem?_eq_some_iff.mp (wso_at (h := h) (ad := ad) (ca := ca) hq)).1
  apply List.ext_getElem?
  intro j
  by_cases hj : j = q0
  · subst hj
    rw [List.getElem?_set_self hlen, wso_at hq, he]
  · rw [List.getElem?_set_ne (Ne.symm hj)]
    cases hjn : nms[j]? with
    | none =>
      unfold wso
      rw [List.getElem?_map, List.getElem?_map, hjn]
      rfl
    | some n' =>
      have hne : n' ≠ n := by
        rintro rfl
        exact hj (hD.1 j q0 _ _ (wso_at hjn) (wso_at hq) rfl)
      rw [wso_at hjn, wso_at hjn, ho n' hne]
theorem cell_setI_ne {h : Hp} {ad : Nm → Nat} {ca : Nm → ClassId} {n n' : Nm} {k : Nat} {v : Int32} (hne : n' ≠ n) : cell (setI h n k v) ad ca n' = cell h ad ca n' := by
  have e : hpI (setI h n k v) n' = hpI h n' := by
    funext j
    rw [hpI_setI, if_neg (fun q => hne q.1)]
  unfold cell fval
  rw [e]
  rfl
theorem cell_setF_ne {h : Hp} {ad : Nm → Nat} {ca : Nm → ClassId} {n n' : Nm} {f : Nat → Int32} (hne : n' ≠ n) : cell (setF h n f) ad ca n' = cell h ad ca n' := by
  have e : hpI (setF h n f) n' = hpI h n' := by
    funext j
    rw [hpI_setF, if_neg hne]
  unfold cell fval
  rw [e]
  rfl
theorem cell_setR_ne {h : Hp} {ad : Nm → Nat} {ca : Nm → ClassId} {n n' : Nm} {k : Nat} {v : Option Nm} (hne : n' ≠ n) : cell (setR h n k v) ad ca n' = cell h ad ca n' := by
  have e : hpR (setR h n k v) n' = hpR h n' := by
    funext j
    rw [hpR_setR, if_neg (fun q => hne q.1)]
  unfold cell fval
  rw [e]
  rfl
theorem rng_set (N k : Nat) (f g : Nat → Value) (hg : ∀ j, j ≠ k → g j = f j) : ((List.range N).map f).set k (g k) = (List.range N).map g := by
  apply List.ext_getElem?
  intro j
  by_cases hj : j = k
  · subst hj
    by_cases hl : j < N
    · rw [List.getElem?_set_self (by simpa using hl)]
      simp [hl]
    · rw [List.getElem?_eq_none (by simpa using hl), List.getElem?_eq_none (by simpa using hl)]
  · rw [List.getElem?_set_ne (Ne.symm hj), List.getElem?_map, List.getElem?_map]
    cases hr : (List.range N)[j]? with
    | none => rfl
    | some x =>
      have : x = j := by
        have := List.getElem?_eq_some_iff.mp hr
        simpa using this.2.symm
      subst this
      simp only [Option.map_some]
      rw [hg x hj]
theorem cell_obj {h : Hp} {ad : Nm → Nat} {ca : Nm → ClassId} {n : Nm} {c : Nat} (hk : kd n.1 = c) (hc : c < 7) : cell h ad ca n = .inr (c, (List.range (nfl c)).map (fun k => fval h ad n c k)) := by
  unfold cell
  rw [hk, if_pos (by omega)]
theorem cell_int {h : Hp} {ad : Nm → Nat} {ca : Nm → ClassId} {n : Nm} (h1 : 100 ≤ kd n.1) (h2 : kd n.1 < 110) : cell h ad ca n = .inl (ca n, hpL h n, .inl (hpI h n)) := by
  unfold cell
  rw [if_neg (by omega), if_pos h2]
theorem cell_ref {h : Hp} {ad : Nm → Nat} {ca : Nm → ClassId} {n : Nm} (h1 : 110 ≤ kd n.1) : cell h ad ca n = .inl (ca n, hpL h n, .inr (.inr (.inr (.inr (fun j => (hpR h n j).map ad))))) := by
  unfold cell
  rw [if_neg (by omega), if_neg (by omega)]
theorem cell_setI_obj {h : Hp} {ad : Nm → Nat} {ca : Nm → ClassId} {n : Nm} {c k : Nat} {v : Int32} (hk : kd n.1 = c) (hc : c < 7) (hf : fty c k ≠ 2) : (.inr (c, ((List.range (nfl c)).map (fun k => fval h ad n c k)).set k (.int v)) : va_E) = cell (setI h n k v) ad ca n := by
  rw [cell_obj hk hc]
  have e : Value.int v = (fun j => fval (setI h n k v) ad n c j) k := by
    show _ = fval _ _ _ _ _
    unfold fval
    split
    · next q => exact absurd q hf
    · rw [hpI_setI, if_pos ⟨rfl, rfl⟩]
  rw [e, rng_set]
  intro j hj
  show fval _ _ _ _ _ = fval _ _ _ _ _
  unfold fval
  rw [hpI_setI, if_neg (fun q => hj q.2)]
  rfl
theorem cell_setR_obj {h : Hp} {ad : Nm → Nat} {ca : Nm → ClassId} {n m : Nm} {c k : Nat} (hk : kd n.1 = c) (hc : c < 7) (hf : fty c k = 2) : (.inr (c, ((List.range (nfl c)).map (fun k => fval h ad n c k)).set k (.ref (ad m))) : va_E) = cell (setR h n k (some m)) ad ca n := by
  rw [cell_obj hk hc]
  have e : Value.ref (ad m) = (fun j => fval (setR h n k (some m)) ad n c j) k := by
    show _ = fval _ _ _ _ _
    unfold fval
    rw [hf]
    show _ = va_rf _
    rw [hpR_setR, if_pos ⟨rfl, rfl⟩]
    rfl
  rw [e, rng_set]
  intro j hj
  show fval _ _ _ _ _ = fval _ _ _ _ _
  unfold fval
  rw [hpR_setR, if_neg (fun q => hj q.2)]
  rfl
theorem cell_setI_arr {h : Hp} {ad : Nm → Nat} {ca : Nm → ClassId} {n : Nm} {k : Nat} {v : Int32} (h1 : 100 ≤ kd n.1) (h2 : kd n.1 < 110) : (.inl (ca n, hpL h n, .inl (upd (hpI h n) k v)) : va_E) = cell (setI h n k v) ad ca n := by
  rw [cell_int h1 h2]
  have e : upd (hpI h n) k v = hpI (setI h n k v) n := by
    funext j
    rw [hpI_setI]
    unfold upd
    by_cases hj : j = k
    · rw [if_pos hj, if_pos ⟨rfl, hj⟩]
    · rw [if_neg hj, if_neg (fun q => hj q.2)]
  rw [e]
  rfl
theorem cell_setF_arr {h : Hp} {ad : Nm → Nat} {ca : Nm → ClassId} {n : Nm} {f : Nat → Int32} (h1 : 100 ≤ kd n.1) (h2 : kd n.1 < 110) : (.inl (ca n, hpL h n, .inl f) : va_E) = cell (setF h n f) ad ca n := by
  rw [cell_int h1 h2]
  have e : f = hpI (setF h n f) n := by
    funext j
    rw [hpI_setF, if_pos rfl]
  rw [← e]
  rfl
theorem cell_setR_arr {h : Hp} {ad : Nm → Nat} {ca : Nm → ClassId} {n m : Nm} {k : Nat} (h1 : 110 ≤ kd n.1) : (.inl (ca n, hpL h n, .inr (.inr (.inr (.inr (va_up (fun j => (hpR h n j).map ad) k (some (ad m))))))) : va_E) = cell (setR h n k (some m)) ad ca n := by
  rw [cell_ref h1]
  have e : va_up (fun j => (hpR h n j).map ad) k (some (ad m)) = (fun j => (hpR (setR h n k (some m)) n j).map ad) := by
    funext j
    rw [hpR_setR]
    unfold va_up
    by_cases hj : j = k
    · rw [if_pos hj, if_pos ⟨rfl, hj⟩]
      rfl
    · rw [if_neg hj, if_neg (fun q => hj q.2)]
  rw [e]
  rfl
theorem Wd_I {D : va_G} {A : Nat → Prop} {s : State} {ad : Nm → Nat} {ca : Nm → ClassId} {nms : List Nm} {tys : List (ClassId × FieldType)} {h : Hp} {H H1 : Heap} {n : Nm} {k : Nat} {v : Int32} (hW : Wd D A s ad ca nms tys h H) (hP : va_P D vwCl (wso (setI h n k v) ad ca nms) H1) (hD : va_D A (wso (setI h n k v) ad ca nms)) (hb : kd n.1 = 101 → fits .byte (.int v) = true) : Wd D A s ad ca nms tys (setI h n k v) H1 := by
  obtain ⟨w1, w2, w3, w4, w5, w6, w7⟩ := hW
  refine ⟨hP, hD, w3, w4, w5, w6, fun n' hn j => ?_⟩
  rw [hpI_setI]
  split
  · next q => exact hb (by rw [← q.1]; exact hn)
  · exact w7 n' hn j
theorem Wd_F {D : va_G} {A : Nat → Prop} {s : State} {ad : Nm → Nat} {ca : Nm → ClassId} {nms : List Nm} {tys : List (ClassId × FieldType)} {h : Hp} {H H1 : Heap} {n : Nm} {f : Nat → Int32} (hW : Wd D A s ad ca nms tys h H) (hP : va_P D vwCl (wso (setF h n f) ad ca nms) H1) (hD : va_D A (wso (setF h n f) ad ca nms)) (hb : kd n.1 = 101 → ∀ j, fits .byte (.int (f j)) = true) : Wd D A s ad ca nms tys (setF h n f) H1 := by
  obtain ⟨w1, w2, w3, w4, w5, w6, w7⟩ := hW
  refine ⟨hP, hD, w3, w4, w5, w6, fun n' hn j => ?_⟩
  rw [hpI_setF]
  split
  · next q => exact hb (by rw [← q]; exact hn) j
  · exact w7 n' hn j
theorem Wd_R {D : va_G} {A : Nat → Prop} {s : State} {ad : Nm → Nat} {ca : Nm → ClassId} {nms : List Nm} {tys : List (ClassId × FieldType)} {h : Hp} {H H1 : Heap} {n m : Nm} {k : Nat} (hW : Wd D A s ad ca nms tys h H) (hm : m ∈ nms) (hP : va_P D vwCl (wso (setR h n k (some m)) ad ca nms) H1) (hD : va_D A (wso (setR h n k (some m)) ad ca nms)) : Wd D A s ad ca nms tys (setR h n k (some m)) H1 := by
  obtain ⟨w1, w2, w3, w4, w5, w6, w7⟩ := hW
  refine ⟨hP, hD, w3, w4, w5, fun n' k' m' hm' => ?_, w7⟩
  rw [hpR_setR] at hm'
  split at hm'
  · cases hm'
    exact hm
  · exact w6 n' k' m' hm'
def upn {α : Type} (f : Nm → α) (n0 : Nm) (v : α) : Nm → α := fun n => if n = n0 then v else f n
theorem upn_eq {α : Type} (f : Nm → α) (n0 : Nm) (v : α) : upn f n0 v n0 = v := if_pos rfl
theorem upn_ne {α : Type} (f : Nm → α) {n n0 : Nm} (v : α) (h : n ≠ n0) : upn f n0 v n = f n := if_neg h
theorem Wd_new {D : va_G} {A : Nat → Prop} {s : State} {ad : Nm → Nat} {ca : Nm → ClassId} {nms : List Nm} {tys tys1 : List (ClassId × FieldType)} {h h2 : Hp} {H H1 : Heap} {t q : Nat} {cA : ClassId} {e : va_E} (hW : Wd D A s ad ca nms tys h H)
    (hC2 : ∀ t', hpC h2 t' = if t' = t then hpC h t + 1 else hpC h t') (ho : ∀ n, n ≠ (t, hpC h t) → hpL h2 n = hpL h n ∧ hpI h2 n = hpI h n ∧ hpR h2 n = hpR h n) (hr0 : ∀ k, hpR h2 (t, hpC h t) k = none) (hb : kd t = 101 → ∀ j, fits .byte (.int (hpI h2 (t, hpC h t) j)) = true)
    (he : e = cell h2 (upn ad (t, hpC h t) q) (upn ca (t, hpC h t) cA) (t, hpC h t)) (hP1 : va_P D vwCl (wso h ad ca nms ++ [(q, e)]) H1) (hD1 : va_D A (wso h ad ca nms ++ [(q, e)])) (hK1 : va_K D vwCl tys1 s) (ht1 : ∀ (t0 : Nat) (x : ClassId × FieldType), tys[t0]? = some x → tys1[t0]? = some x) (ht2 : 100 ≤ kd t → ∃ t0 : Nat, tys1[t0]? = some (cA, tyA (kd t))) :
    Wd D A s (upn ad (t, hpC h t) q) (upn ca (t, hpC h t) cA) (nms ++ [(t, hpC h t)]) tys1 h2 H1 := by
  obtain ⟨w1, w2, w3, w4, w5, w6, w7⟩ := hW
  have hn0 : (t, hpC h t) ∉ nms := fun q => Nat.lt_irrefl _ ((w4 _).mp q)
  have hne : ∀ n, n ∈ nms → n ≠ (t, hpC h t) := fun n hn q => hn0 (q ▸ hn)
  have hcell : ∀ n, n ∈ nms → cell h2 (upn ad (t, hpC h t) q) (upn ca (t, hpC h t) cA) n = cell h ad ca n := by
    intro n hn
    obtain ⟨o1, o2, o3⟩ := ho n (hne n hn)
    have hm : ∀ k, (hpR h n k).map (upn ad (t, hpC h t) q) = (hpR h n k).map ad := by
      intro k
      cases hk : hpR h n k with
      | none => rfl
      | some m => simp only [Option.map_some, upn_ne ad q (hne m (w6 n k m hk))]
    unfold cell fval
    rw [o1, o2, o3, upn_ne ca cA (hne n hn)]
    simp only [hm]
  have hws : wso h2 (upn ad (t, hpC h t) q) (upn ca (t, hpC h t) cA) (nms ++ [(t, hpC h t)]) = wso h ad ca nms ++ [(q, e)] := by
    unfold wso
    rw [List.map_append]
    congr 1
    · apply List.map_congr_left
      intro n hn
      rw [hcell n hn, upn_ne ad q (hne n hn)]
    · rw [he]
      simp only [List.map_cons, List.map_nil, upn_eq]
  refine ⟨by rw [hws]; exact hP1, by rw [hws]; exact hD1, hK1, fun n => ?_, fun n hn hk => ?_, fun n k m hm => ?_, fun n hn j => ?_⟩
  · rw [List.mem_append, List.mem_singleton, w4 n]
    unfold live
    rw [hC2]
    obtain ⟨n1, n2⟩ := n
    by_cases ht : n1 = t
    · subst ht
      rw [if_pos rfl, Prod.mk.injEq]
      show n2 < hpC h n1 ∨ n1 = n1 ∧ n2 = hpC h n1 ↔ n2 < hpC h n1 + 1
      constructor
      · rintro (q | ⟨-, q⟩) <;> omega
      · intro q
        rcases Nat.lt_or_ge n2 (hpC h n1) with z | z
        · exact Or.inl z
        · exact Or.inr ⟨rfl, by omega⟩
    · rw [if_neg ht, Prod.mk.injEq]
      exact ⟨fun z => z.elim id (fun z => absurd z.1 ht), Or.inl⟩
  · rcases List.mem_append.mp hn with hn | hn
    · obtain ⟨t0, h0⟩ := w5 n hn hk
      exact ⟨t0, by rw [upn_ne ca cA (hne n hn)]; exact ht1 _ _ h0⟩
    · rw [List.mem_singleton] at hn
      subst hn
      rw [upn_eq]
      exact ht2 hk
  · by_cases hn : n = (t, hpC h t)
    · subst hn
      rw [hr0] at hm
      cases hm
    · rw [(ho n hn).2.2] at hm
      exact List.mem_append_left _ (w6 n k m hm)
  · by_cases hn2 : n = (t, hpC h t)
    · subst hn2
      exact hb hn j
    · rw [(ho n hn2).2.1]
      exact w7 n hn j
-- locals and stack
def Ext (nms nms1 : List Nm) (ad ad1 : Nm → Nat) : Prop := (∀ n, n ∈ nms → n ∈ nms1) ∧ ∀ n, okN nms n → ad1 n = ad n
theorem Ext_rf (nms : List Nm) (ad : Nm → Nat) : Ext nms nms ad ad := ⟨fun _ h => h, fun _ _ => rfl⟩
theorem Ext_tr {n1 n2 n3 : List Nm} {a1 a2 a3 : Nm → Nat} (h1 : Ext n1 n2 a1 a2) (h2 : Ext n2 n3 a2 a3) : Ext n1 n3 a1 a3 := by
  refine ⟨fun n h => h2.1 n (h1.1 n h), fun n h => ?_⟩
  rw [h2.2 n (h.imp (h1.1 n) id), h1.2 n h]
theorem okV_ext {n1 n2 : List Nm} {a1 a2 : Nm → Nat} (h1 : Ext n1 n2 a1 a2) {v : Vl} (h : okV n1 v) : okV n2 v := fun n e => (h n e).imp (h1.1 n) id
theorem rl_ext {n1 n2 : List Nm} {a1 a2 : Nm → Nat} (h1 : Ext n1 n2 a1 a2) {v : Vl} (h : okV n1 v) : rl a2 v = rl a1 v := by
  rcases v with x | x | o
  · rfl
  · rfl
  · cases o with
    | none => rfl
    | some n =>
      show va_rf ((some n).map a2) = va_rf ((some n).map a1)
      simp only [Option.map_some, h1.2 n (h n rfl)]
theorem rls_ext {n1 n2 : List Nm} {a1 a2 : Nm → Nat} (h1 : Ext n1 n2 a1 a2) {st : St} (h : okS n1 st) : st.map (rl a2) = st.map (rl a1) := List.map_congr_left fun v hv => rl_ext h1 (h v hv)
theorem Ext_new {nms : List Nm} {ad : Nm → Nat} {n0 : Nm} {q : Nat} (h0 : n0 ∉ nms) (h1 : n0 ≠ (98, 0)) : Ext nms (nms ++ [n0]) ad (upn ad n0 q) := by
  refine ⟨fun n h => List.mem_append_left _ h, fun n h => ?_⟩
  apply upn_ne
  rintro rfl
  exact h.elim h0 h1
theorem rl_cat (ad : Nm → Nat) (v : Vl) : (rl ad v).category = if cat1 v = true then 1 else 2 := by
  rcases v with x | x | o
  · rfl
  · rfl
  · cases o <;> rfl
theorem rl_cats (ad : Nm → Nat) : ∀ st : St, ((st.map (rl ad)).map fun v => v.category).sum = catS st
  | [] => rfl
  | v :: st => by
    simp only [List.map_cons, List.sum_cons, catS, rl_cats ad st, rl_cat]
def LR (ad : Nm → Nat) (L : Ls) (ls : Array Slot) (nL : Nat) : Prop := ls.size = nL ∧ lv_wf ls ∧ ∀ (i : Nat) (v : Vl), L[i]? = some (some v) → ls[i]? = some (.val (rl ad v))
def lpr (ad : Nm → Nat) : Nat → Ls → List (Nat × Value)
  | _, [] => []
  | i, none :: L => lpr ad (i + 1) L
  | i, some v :: L => (i, rl ad v) :: lpr ad (i + 1) L
theorem lpr_mem (ad : Nm → Nat) : ∀ (L : Ls) (j i : Nat) (v : Vl), L[i]? = some (some v) → (j + i, rl ad v) ∈ lpr ad j L
  | [], _, _, _, h => by simp at h
  | none :: L, j, 0, v, h => by
    rw [List.getElem?_cons_zero] at h
    cases h
  | some w :: L, j, 0, v, h => by
    rw [List.getElem?_cons_zero] at h
    cases h
    exact List.mem_cons_self
  | none :: L, j, i + 1, v, h => by
    rw [List.getElem?_cons_succ] at h
    have := lpr_mem ad L (j + 1) i v h
    rwa [show j + 1 + i = j + (i + 1) by omega] at this
  | some w :: L, j, i + 1, v, h => by
    rw [List.getElem?_cons_succ] at h
    have := lpr_mem ad L (j + 1) i v h
    rw [show j + 1 + i = j + (i + 1) by omega] at this
    exact List.mem_cons_of_mem _ this
theorem lpr_of (ad : Nm → Nat) : ∀ (L : Ls) (j : Nat) (q : Nat × Value), q ∈ lpr ad j L → ∃ (i : Nat) (v : Vl), L[i]? = some (some v) ∧ q = (j + i, rl ad v)
  | [], _, _, h => by cases h
  | none :: L, j, q, h => by
    obtain ⟨i, v, h1, h2⟩ := lpr_of ad L (j + 1) q h
    exact ⟨i + 1, v, by rw [List.getElem?_cons_succ]; exact h1, by rw [h2, show j + 1 + i = j + (i + 1) by omega]⟩
  | some w :: L, j, q, h => by
    rcases List.mem_cons.mp h with h | h
    · exact ⟨0, w, rfl, h⟩
    · obtain ⟨i, v, h1, h2⟩ := lpr_of ad L (j + 1) q h
      exact ⟨i + 1, v, by rw [List.getElem?_cons_succ]; exact h1, by rw [h2, show j + 1 + i = j + (i + 1) by omega]⟩
theorem LR_has {ad : Nm → Nat} {L : Ls} {ls : Array Slot} {nL : Nat} (h : LR ad L ls nL) : lv_has ls nL (lpr ad 0 L) := by
  refine ⟨h.1, h.2.1, fun q hq => ?_⟩
  obtain ⟨i, v, h1, h2⟩ := lpr_of ad L 0 q hq
  rw [h2, Nat.zero_add]
  exact h.2.2 i v h1
theorem LR_ext {n1 n2 : List Nm} {a1 a2 : Nm → Nat} {L : Ls} {ls : Array Slot} {nL : Nat} (h1 : Ext n1 n2 a1 a2) (ho : okL n1 L) (h : LR a1 L ls nL) : LR a2 L ls nL := by
  refine ⟨h.1, h.2.1, fun i v hv => ?_⟩
  rw [rl_ext h1 (ho v (List.mem_of_getElem? hv))]
  exact h.2.2 i v hv
theorem okst_cat {ad : Nm → Nat} {L : Ls} {i j : Nat} {w : Vl} (ho : okst L i = true) (hj : j + 1 = i) (hw : L[j]? = some (some w)) : ¬ (rl ad w).category = 2 := by
  subst hj
  unfold okst at ho
  dsimp only at ho
  rw [hw] at ho
  rcases w with x | x | o
  · intro q; cases q
  · cases ho
  · cases o <;> (intro q; cases q)
theorem LR_store {ad : Nm → Nat} {L : Ls} {ls' : Array Slot} {nL i : Nat} {v : Vl} (ho : okst L i = true) (h' : lv_has ls' nL ((i, rl ad v) :: (lpr ad 0 L).filter (fun q => !(q.1 == i) && !(q.1 + 1 == i && q.2.category == 2)))) : LR ad (L.set i (some v)) ls' nL := by
  refine ⟨h'.1, h'.2.1, fun j w hj => ?_⟩
  by_cases e : j = i
  · subst e
    have hl : j < L.length := by
      have := (List.getElem?_eq_some_iff.mp hj).1
      simpa using this
    rw [List.getElem?_set_self hl] at hj
    cases hj
    exact h'.2.2 (j, rl ad v) List.mem_cons_self
  · rw [List.getElem?_set_ne (Ne.symm e)] at hj
    have hm := lpr_mem ad L 0 j w hj
    rw [Nat.zero_add] at hm
    refine h'.2.2 (j, rl ad w) (List.mem_cons_of_mem _ (List.mem_filter.mpr ⟨hm, ?_⟩))
    simp only [Bool.and_eq_true, Bool.not_eq_true', beq_eq_false_iff_ne, ne_eq, Bool.and_eq_false_iff]
    refine ⟨e, ?_⟩
    by_cases q : j + 1 = i
    · exact Or.inr (okst_cat ho q hj)
    · exact Or.inl q
theorem spr_cons (v : Vl) (vs : List Vl) : spr (v :: vs) = if cat1 v = true then some v :: spr vs else some v :: none :: spr vs := rfl
theorem spr_len (ad : Nm → Nat) : ∀ args : List Vl, (lg_sl (args.map (rl ad))).length = (spr args).length
  | [] => rfl
  | v :: vs => by
    have ih := spr_len ad vs
    unfold lg_sl at ih ⊢
    rw [List.map_cons, List.flatMap_cons, List.length_append, ih, rl_cat]
    rw [spr_cons]
    by_cases h : cat1 v = true
    · rw [if_pos h, if_pos h, if_neg (by decide)]
      simp only [List.length_cons, List.length_nil]
      omega
    · rw [if_neg h, if_neg h, if_pos rfl]
      simp only [List.length_cons, List.length_nil]
      omega
theorem spr_at (ad : Nm → Nat) : ∀ (args : List Vl) (j i : Nat) (v : Vl), (spr args)[i]? = some (some v) → (j + i, rl ad v) ∈ lv_args j (args.map (rl ad))
  | [], _, _, _, h => by simp [spr] at h
  | w :: vs, j, i, v, h => by
    rw [List.map_cons]
    unfold lv_args
    rw [rl_cat]
    unfold spr at h
    by_cases hc : cat1 w = true
    · rw [if_pos hc] at h ⊢
      rw [if_neg (by decide)]
      cases i with
      | zero =>
        rw [List.getElem?_cons_zero] at h
        cases h
        exact List.mem_cons_self
      | succ i =>
        rw [List.getElem?_cons_succ] at h
        have := spr_at ad vs (j + 1) i v h
        rw [show j + 1 + i = j + (i + 1) by omega] at this
        exact List.mem_cons_of_mem _ this
    · rw [if_neg hc] at h ⊢
      rw [if_pos rfl]
      match i, h with
      | 0, h =>
        rw [List.getElem?_cons_zero] at h
        cases h
        exact List.mem_cons_self
      | 1, h =>
        rw [List.getElem?_cons_succ, List.getElem?_cons_zero] at h
        cases h
      | i + 2, h =>
        rw [List.getElem?_cons_succ, List.getElem?_cons_succ] at h
        have := spr_at ad vs (j + 2) i v h
        rw [show j + 2 + i = j + (i + 2) by omega] at this
        exact List.mem_cons_of_mem _ this
theorem ent_at {n : Nat} {args : List Vl} {i : Nat} {v : Vl} (h : (ent n args)[i]? = some (some v)) : (spr args)[i]? = some (some v) := by
  unfold ent at h
  by_cases hl : i < (spr args).length
  · rwa [List.getElem?_append_left hl] at h
  · rw [List.getElem?_append_right (by omega)] at h
    have := List.mem_of_getElem? h
    rw [List.mem_replicate] at this
    cases this.2
theorem ent_len {n : Nat} {args : List Vl} (h : (spr args).length ≤ n) : (ent n args).length = n := by
  unfold ent
  rw [List.length_append, List.length_replicate]
  omega
theorem spr_ok {nms : List Nm} : ∀ (args : List Vl), okS nms args → okL nms (spr args)
  | [], _ => fun v h => by cases h
  | w :: vs, ho => by
    have ih := spr_ok vs (fun v hv => ho v (List.mem_cons_of_mem _ hv))
    intro v hv
    unfold spr at hv
    by_cases hc : cat1 w = true
    · rw [if_pos hc] at hv
      rcases List.mem_cons.mp hv with h | h
      · cases h
        exact ho _ List.mem_cons_self
      · exact ih v h
    · rw [if_neg hc] at hv
      rcases List.mem_cons.mp hv with h | h
      · cases h
        exact ho _ List.mem_cons_self
      · rcases List.mem_cons.mp h with h | h
        · cases h
        · exact ih v h
theorem ent_ok {nms : List Nm} {n : Nat} {args : List Vl} (ho : okS nms args) : okL nms (ent n args) := by
  intro v hv
  unfold ent at hv
  rcases List.mem_append.mp hv with h | h
  · exact spr_ok args ho v h
  · rw [List.mem_replicate] at h
    cases h.2
theorem LR_entry (ad : Nm → Nat) {args : List Vl} {n : Nat} (h : (spr args).length ≤ n) : LR ad (ent n args) ((lg_sl (args.map (rl ad)) ++ List.replicate (n - (lg_sl (args.map (rl ad))).length) Slot.unset).toArray) n := by
  have h1 := lv_entry (args.map (rl ad)) (n := n) (by rw [spr_len]; exact h)
  refine ⟨h1.1, h1.2.1, fun i v hv => ?_⟩
  have := spr_at ad args 0 i v (ent_at hv)
  rw [Nat.zero_add] at this
  exact h1.2.2 _ this
