/-! Our small heap as a world of the kit's. -/
def bw : List Cond := lw_tbl.filter goodWord
theorem bw_of {w : Cond} (h : iw w) : w ∈ bw := List.mem_filter.mpr h
theorem bw_good {w : Cond} (h : w ∈ bw) : (w.onTables && w.keeps) = true ∨ ∃ ty, w = .arrayClass ty := good_of_word (List.mem_filter.mp h).2
def wsy (y : Nat) : List Cond := .code (yNm y) (yBy y) (mlo y) (yRt y) :: bw
set_option maxRecDepth 100000 in
theorem hin_0 : ∀ w ∈ u_ws RX0 TX0 6, w ∈ lw_tbl ∧ goodWord w = true := by decide +kernel
set_option maxRecDepth 100000 in
theorem hin_1 : ∀ w ∈ u_ws RX1 TX1 17, w ∈ lw_tbl ∧ goodWord w = true := by decide +kernel
set_option maxRecDepth 100000 in
theorem hin_2 : ∀ w ∈ u_ws RX2 TX2 8, w ∈ lw_tbl ∧ goodWord w = true := by decide +kernel
set_option maxRecDepth 100000 in
theorem hin_3 : ∀ w ∈ u_ws RX3 TX3 6, w ∈ lw_tbl ∧ goodWord w = true := by decide +kernel
set_option maxRecDepth 100000 in
theorem hin_4 : ∀ w ∈ u_ws RX4 TX4 6, w ∈ lw_tbl ∧ goodWord w = true := by decide +kernel
set_option maxRecDepth 100000 in
theorem hin_5 : ∀ w ∈ u_ws RX5 TX5 18, w ∈ lw_tbl ∧ goodWord w = true := by decide +kernel
set_option maxRecDepth 100000 in
theorem hin_6 : ∀ w ∈ u_ws RX6 TX6 47, w ∈ lw_tbl ∧ goodWord w = true := by decide +kernel
theorem hinC (c : Nat) (hc : c < 7) (w : Cond) (hw : w ∈ u_ws (cnm c) (clT c) (nfl c)) : w ∈ bw := by
  apply bw_of
  match c, hc, hw with
  | 0, _, hw => exact hin_0 w hw
  | 1, _, hw => exact hin_1 w hw
  | 2, _, hw => exact hin_2 w hw
  | 3, _, hw => exact hin_3 w hw
  | 4, _, hw => exact hin_4 w hw
  | 5, _, hw => exact hin_5 w hw
  | 6, _, hw => exact hin_6 w hw
  | n + 7, h, _ => exact absurd h (by omega)
theorem cl_at (c : Nat) (hc : c < 7) : vwCl[c]? = some (cnm c, clT c, nfl c) := by
  match c, hc with
  | 0, _ => rfl
  | 1, _ => rfl
  | 2, _ => rfl
  | 3, _ => rfl
  | 4, _ => rfl
  | 5, _ => rfl
  | 6, _ => rfl
  | n + 7, h => exact absurd h (by omega)
theorem clY_ok (c : Nat) (hc : c < 7) : ∀ k, k < nfl c → parseFieldDescriptor (clT c k).2.2.1 = some (clY c k) := by
  match c, hc with
  | 0, _ => exact tyX0_ok
  | 1, _ => exact tyX1_ok
  | 2, _ => exact tyX2_ok
  | 3, _ => exact tyX3_ok
  | 4, _ => exact tyX4_ok
  | 5, _ => exact tyX5_ok
  | 6, _ => exact tyX6_ok
  | n + 7, h => exact absurd h (by omega)
theorem clN_ok (c : Nat) (hc : c < 7) : ∀ a, a < nfl c → ∀ b, b < nfl c → a ≠ b → (clT c a).2.1 ≠ (clT c b).2.1 := by
  match c, hc with
  | 0, _ => exact nmX0
  | 1, _ => exact nmX1
  | 2, _ => exact nmX2
  | 3, _ => exact nmX3
  | 4, _ => exact nmX4
  | 5, _ => exact nmX5
  | 6, _ => exact nmX6
  | n + 7, h => exact absurd h (by omega)
def tyk : FieldType → Nat
  | .int => 0
  | .boolean => 1
  | .object _ => 2
  | .array _ => 2
  | _ => 3
theorem tyk_ok : ∀ c, c < 7 → ∀ k, k < nfl c → tyk (clY c k) = fty c k := by decide +kernel
-- the code table
theorem all_at : ∀ (cs : List (List (Option Ent))) (y0 y : Nat) (c : List (Option Ent)), allP y0 cs → cs[y]? = some c → dck (yBy (y0 + y)) 0 c = true ∧ okl (y0 + y) 0 c
  | [], _, _, _, _, h => by simp at h
  | c0 :: cs, y0, 0, c, hp, h => by
    rw [List.getElem?_cons_zero] at h
    cases h
    exact hp.1
  | c0 :: cs, y0, y + 1, c, hp, h => by
    rw [List.getElem?_cons_succ] at h
    have := all_at cs (y0 + 1) y c hp.2 h
    rwa [show y0 + 1 + y = y0 + (y + 1) by omega] at this
theorem dck_at (b : ByteArray) : ∀ (l : List (Option Ent)) (pc i : Nat) (e : Ent), dck b pc l = true → l[i]? = some (some e) → decode b (pc + i) = .ok (e.1, e.2.1)
  | [], _, _, _, _, h => by simp at h
  | none :: l, pc, 0, e, _, h => by
    rw [List.getElem?_cons_zero] at h
    cases h
  | some e0 :: l, pc, 0, e, hp, h => by
    rw [List.getElem?_cons_zero] at h
    cases h
    simp only [dck, Bool.and_eq_true] at hp
    have h1 := hp.1
    rw [Nat.add_zero]
    cases hd : decode b pc with
    | ok q =>
      rw [hd] at h1
      simp only [Bool.and_eq_true, decide_eq_true_eq] at h1
      rw [← h1.1, ← h1.2]
    | error z =>
      rw [hd] at h1
      cases h1
  | none :: l, pc, i + 1, e, hp, h => by
    rw [List.getElem?_cons_succ] at h
    have := dck_at b l (pc + 1) i e hp h
    rwa [show pc + 1 + i = pc + (i + 1) by omega] at this
  | some e0 :: l, pc, i + 1, e, hp, h => by
    rw [List.getElem?_cons_succ] at h
    simp only [dck, Bool.and_eq_true] at hp
    have := dck_at b l (pc + 1) i e hp.2 h
    rwa [show pc + 1 + i = pc + (i + 1) by omega] at this
theorem okl_at (y : Nat) : ∀ (l : List (Option Ent)) (pc i : Nat) (e : Ent), okl y pc l → l[i]? = some (some e) → okw y (pc + i) e.1 e.2.1 e.2.2.1 e.2.2.2
  | [], _, _, _, _, h => by simp at h
  | none :: l, pc, 0, e, _, h => by
    rw [List.getElem?_cons_zero] at h
    cases h
  | some e0 :: l, pc, 0, e, hp, h => by
    rw [List.getElem?_cons_zero] at h
    cases h
    exact hp.1
  | none :: l, pc, i + 1, e, hp, h => by
    rw [List.getElem?_cons_succ] at h
    have := okl_at y l (pc + 1) i e hp h
    rwa [show pc + 1 + i = pc + (i + 1) by omega] at this
  | some e0 :: l, pc, i + 1, e, hp, h => by
    rw [List.getElem?_cons_succ] at h
    have := okl_at y l (pc + 1) i e hp.2 h
    rwa [show pc + 1 + i = pc + (i + 1) by omega] at this
theorem cd_ok {y pc : Nat} {ins : Instr} {len a b : Nat} (h : cd y pc = some (ins, len, a, b)) : decode (yBy y) pc = .ok (ins, len) ∧ okw y pc ins len a b := by
  unfold cd at h
  cases hy : mc_progs[y]? with
  | none => rw [hy] at h; cases h
  | some c =>
    rw [hy] at h
    dsimp only at h
    cases hc : c[pc]? with
    | none => rw [hc] at h; cases h
    | some e =>
      rw [hc] at h
      dsimp only at h
      subst h
      have h1 := all_at mc_progs 0 y c all_ok hy
      rw [Nat.zero_add] at h1
      have h2 := dck_at _ c 0 pc _ h1.1 hc
      have h3 := okl_at y c 0 pc _ h1.2 hc
      rw [Nat.zero_add] at h2 h3
      exact ⟨h2, h3⟩
-- cells
def fval (h : Hp) (ad : Nm → Nat) (n : Nm) (c k : Nat) : Value := match fty c k with
  | 2 => va_rf ((hpR h n k).map ad)
  | _ => .int (hpI h n k)
def cell (h : Hp) (ad : Nm → Nat) (ca : Nm → ClassId) (n : Nm) : va_E :=
  if kd n.1 < 10 then .inr (kd n.1, (List.range (nfl (kd n.1))).map (fun k => fval h ad n (kd n.1) k))
  else if kd n.1 < 110 then .inl (ca n, hpL h n, .inl (hpI h n))
  else .inl (ca n, hpL h n, .inr (.inr (.inr (.inr (fun j => (hpR h n j).map ad)))))
def wso (h : Hp) (ad : Nm → Nat) (ca : Nm → ClassId) (nms : List Nm) : va_W := nms.map (fun n => (ad n, cell h ad ca n))
def rl (ad : Nm → Nat) (v : Vl) : Value := match v with
  | .inl x => .int x
  | .inr (.inl x) => .long x
  | .inr (.inr o) => va_rf (o.map ad)
def tyA (k : Nat) : FieldType := if k = 100 then .int else if k = 101 then .byte else if k = 102 then .boolean else .object (cnm (k - 110))
def okN (nms : List Nm) (n : Nm) : Prop := n ∈ nms ∨ n = (98, 0)
def okV (nms : List Nm) (v : Vl) : Prop := ∀ n, v = vR (some n) → okN nms n
def okS (nms : List Nm) (st : St) : Prop := ∀ v ∈ st, okV nms v
def okL (nms : List Nm) (L : Ls) : Prop := ∀ v, some v ∈ L → okV nms v
def Wd (D : va_G) (A : Nat → Prop) (s : State) (ad : Nm → Nat) (ca : Nm → ClassId) (nms : List Nm) (tys : List (ClassId × FieldType)) (h : Hp) (H : Heap) : Prop :=
  va_P D vwCl (wso h ad ca nms) H ∧ va_D A (wso h ad ca nms) ∧ va_K D vwCl tys s ∧ (∀ n, n ∈ nms ↔ live h n) ∧ (∀ n ∈ nms, 100 ≤ kd n.1 → ∃ t0 : Nat, tys[t0]? = some (ca n, tyA (kd n.1))) ∧ (∀ n k m, hpR h n k = some m → m ∈ nms) ∧ (∀ n, kd n.1 = 101 → ∀ j, fits .byte (.int (hpI h n j)) = true)
theorem hpI_setI (h : Hp) (n : Nm) (k : Nat) (v : Int32) (n' : Nm) (k' : Nat) : hpI (setI h n k v) n' k' = if n' = n ∧ k' = k then v else hpI h n' k' := rfl
theorem hpR_setR (h : Hp) (n : Nm) (k : Nat) (v : Option Nm) (n' : Nm) (k' : Nat) : hpR (setR h n k v) n' k' = if n' = n ∧ k' = k then v else hpR h n' k' := rfl
theorem hpI_setF (h : Hp) (n : Nm) (f : Nat → Int32) (n' : Nm) (k' : Nat) : hpI (setF h n f) n' k' = if n' = n then f k' else hpI h n' k' := rfl
theorem wso_at {h : Hp} {ad : Nm → Nat} {ca : Nm → ClassId} {nms : List Nm} {q0 : Nat} {n : Nm} (hq : nms[q0]? = some n) : (wso h ad ca nms)[q0]? = some (ad n, cell h ad ca n) := by
  unfold wso
  rw [List.getElem?_map, hq]
  rfl
theorem wso_set {A : Nat → Prop} {h h2 : Hp} {ad : Nm → Nat} {ca : Nm → ClassId} {nms : List Nm} {q0 : Nat} {n : Nm} {e : va_E} (hD : va_D A (wso h ad ca nms)) (hq : nms[q0]? = some n) (he : e = cell h2 ad ca n) (ho : ∀ n', n' ≠ n → cell h2 ad ca n' = cell h ad ca n') : (wso h ad ca nms).set q0 (ad n, e) = wso h2 ad ca nms := by
  have hlen : q0 < (wso h ad ca nms).length := (List.getElem?_eq_some_iff.mp (wso_at (h := h) (ad := ad) (ca := ca) hq)).1
  apply List.ext_getElem?
  intro j
  by_cases hj : j = q0
  · subst hj
    rw [List.getElem?_set_self hlen, wso_at hq, he]
  · rw [List.getElem?_set_ne (Ne.symm hj)]
    cases hjn : nms[j]? with
    | none =>
      unfold wso
      rw [List.getElem?_map, List.getElem?_map, hjn]
    | some n' =>
      have hne : n' ≠ n := by
        rintro rfl
        exact hj (hD.1 j q0 _ _ (wso_at hjn) (wso_at hq) rfl)
      rw [wso_at hjn, wso_at hjn, ho n' hne]
theorem cell_setI_ne {h : Hp} {ad : Nm → Nat} {ca : Nm → ClassId} {n n' : Nm} {k : Nat} {v : Int32} (hne : n' ≠ n) : cell (setI h n k v) ad ca n' = cell h ad ca n' := by
  have e : hpI (setI h n k v) n' = hpI h n' := by
    funext j
    rw [hpI_setI, if_neg (fun q => hne q.1)]
  unfold cell fval
  rw [e]
  rfl
theorem cell_setF_ne {h : Hp} {ad : Nm → Nat} {ca : Nm → ClassId} {n n' : Nm} {f : Nat → Int32} (hne : n' ≠ n) : cell (setF h n f) ad ca n' = cell h ad ca n' := by
  have e : hpI (setF h n f) n' = hpI h n' := by
    funext j
    rw [hpI_setF, if_neg hne]
  unfold cell fval
  rw [e]
  rfl
theorem cell_setR_ne {h : Hp} {ad : Nm → Nat} {ca : Nm → ClassId} {n n' : Nm} {k : Nat} {v : Option Nm} (hne : n' ≠ n) : cell (setR h n k v) ad ca n' = cell h ad ca n' := by
  have e : hpR (setR h n k v) n' = hpR h n' := by
    funext j
    rw [hpR_setR, if_neg (fun q => hne q.1)]
  unfold cell fval
  rw [e]
  rfl
theorem rng_set (N k : Nat) (f g : Nat → Value) (hg : ∀ j, j ≠ k → g j = f j) : ((List.range N).map f).set k (g k) = (List.range N).map g := by
  apply List.ext_getElem?
  intro j
  by_cases hj : j = k
  · subst hj
    by_cases hl : j < N
    · rw [List.getElem?_set_self (by simpa using hl)]
      simp [hl]
    · rw [List.getElem?_eq_none (by simpa using hl), List.getElem?_eq_none (by simpa using hl)]
  · rw [List.getElem?_set_ne (Ne.symm hj), List.getElem?_map, List.getElem?_map]
    cases hr : (List.range N)[j]? with
    | none => rfl
    | some x =>
      have : x = j := by
        have := List.getElem?_eq_some_iff.mp hr
        simpa using this.2.symm
      subst this
      simp only [Option.map_some]
      rw [hg x hj]
theorem cell_obj {h : Hp} {ad : Nm → Nat} {ca : Nm → ClassId} {n : Nm} {c : Nat} (hk : kd n.1 = c) (hc : c < 7) : cell h ad ca n = .inr (c, (List.range (nfl c)).map (fun k => fval h ad n c k)) := by
  unfold cell
  rw [hk, if_pos (by omega)]
theorem cell_int {h : Hp} {ad : Nm → Nat} {ca : Nm → ClassId} {n : Nm} (h1 : 100 ≤ kd n.1) (h2 : kd n.1 < 110) : cell h ad ca n = .inl (ca n, hpL h n, .inl (hpI h n)) := by
  unfold cell
  rw [if_neg (by omega), if_pos h2]
theorem cell_ref {h : Hp} {ad : Nm → Nat} {ca : Nm → ClassId} {n : Nm} (h1 : 110 ≤ kd n.1) : cell h ad ca n = .inl (ca n, hpL h n, .inr (.inr (.inr (.inr (fun j => (hpR h n j).map ad))))) := by
  unfold cell
  rw [if_neg (by omega), if_neg (by omega)]
theorem cell_setI_obj {h : Hp} {ad : Nm → Nat} {ca : Nm → ClassId} {n : Nm} {c k : Nat} {v : Int32} (hk : kd n.1 = c) (hc : c < 7) (hf : fty c k ≠ 2) : (.inr (c, ((List.range (nfl c)).map (fun k => fval h ad n c k)).set k (.int v)) : va_E) = cell (setI h n k v) ad ca n := by
  rw [cell_obj hk hc]
  have e : Value.int v = (fun j => fval (setI h n k v) ad n c j) k := by
    show _ = fval _ _ _ _ _
    unfold fval
    split
    · next q => exact absurd q hf
    · rw [hpI_setI, if_pos ⟨rfl, rfl⟩]
  rw [e, rng_set]
  intro j hj
  show fval _ _ _ _ _ = fval _ _ _ _ _
  unfold fval
  rw [hpI_setI, if_neg (fun q => hj q.2)]
  rfl
theorem cell_setR_obj {h : Hp} {ad : Nm → Nat} {ca : Nm → ClassId} {n m : Nm} {c k : Nat} (hk : kd n.1 = c) (hc : c < 7) (hf : fty c k = 2) : (.inr (c, ((List.range (nfl c)).map (fun k => fval h ad n c k)).set k (.ref (ad m))) : va_E) = cell (setR h n k (some m)) ad ca n := by
  rw [cell_obj hk hc]
  have e : Value.ref (ad m) = (fun j => fval (setR h n k (some m)) ad n c j) k := by
    show _ = fval _ _ _ _ _
    unfold fval
    rw [hf]
    dsimp only
    rw [hpR_setR, if_pos ⟨rfl, rfl⟩]
    rfl
  rw [e, rng_set]
  intro j hj
  show fval _ _ _ _ _ = fval _ _ _ _ _
  unfold fval
  rw [hpR_setR, if_neg (fun q => hj q.2)]
  rfl
theorem cell_setI_arr {h : Hp} {ad : Nm → Nat} {ca : Nm → ClassId} {n : Nm} {k : Nat} {v : Int32} (h1 : 100 ≤ kd n.1) (h2 : kd n.1 < 110) : (.inl (ca n, hpL h n, .inl (upd (hpI h n) k v)) : va_E) = cell (setI h n k v) ad ca n := by
  rw [cell_int h1 h2]
  have e : upd (hpI h n) k v = hpI (setI h n k v) n := by
    funext j
    rw [hpI_setI]
    unfold upd
    by_cases hj : j = k
    · rw [if_pos hj, if_pos ⟨rfl, hj⟩]
    · rw [if_neg hj, if_neg (fun q => hj q.2)]
  rw [e]
  rfl
theorem cell_setF_arr {h : Hp} {ad : Nm → Nat} {ca : Nm → ClassId} {n : Nm} {f : Nat → Int32} (h1 : 100 ≤ kd n.1) (h2 : kd n.1 < 110) : (.inl (ca n, hpL h n, .inl f) : va_E) = cell (setF h n f) ad ca n := by
  rw [cell_int h1 h2]
  have e : f = hpI (setF h n f) n := by
    funext j
    rw [hpI_setF, if_pos rfl]
  rw [← e]
  rfl
theorem cell_setR_arr {h : Hp} {ad : Nm → Nat} {ca : Nm → ClassId} {n m : Nm} {k : Nat} (h1 : 110 ≤ kd n.1) : (.inl (ca n, hpL h n, .inr (.inr (.inr (.inr (va_up (fun j => (hpR h n j).map ad) k (some (ad m))))))) : va_E) = cell (setR h n k (some m)) ad ca n := by
  rw [cell_ref h1]
  have e : va_up (fun j => (hpR h n j).map ad) k (some (ad m)) = (fun j => (hpR (setR h n k (some m)) n j).map ad) := by
    funext j
    rw [hpR_setR]
    unfold va_up
    by_cases hj : j = k
    · rw [if_pos hj, if_pos ⟨rfl, hj⟩]
      rfl
    · rw [if_neg hj, if_neg (fun q => hj q.2)]
  rw [e]
  rfl
