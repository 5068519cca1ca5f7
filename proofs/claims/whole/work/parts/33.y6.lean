/-! The two constructors. -/
theorem hC_I (h : Hp) (n : Nm) (k : Nat) (v : Int32) (t : Nat) : hpC (setI h n k v) t = hpC h t := rfl
theorem hL_I (h : Hp) (n : Nm) (k : Nat) (v : Int32) (m : Nm) : hpL (setI h n k v) m = hpL h m := rfl
theorem hR_I (h : Hp) (n : Nm) (k : Nat) (v : Int32) (m : Nm) (k' : Nat) : hpR (setI h n k v) m k' = hpR h m k' := rfl
theorem hI_I (h : Hp) (n : Nm) (k : Nat) (v : Int32) (m : Nm) (k' : Nat) : hpI (setI h n k v) m k' = if m = n ∧ k' = k then v else hpI h m k' := rfl
theorem hI_R (h : Hp) (n : Nm) (k : Nat) (v : Option Nm) (m : Nm) (k' : Nat) : hpI (setR h n k v) m k' = hpI h m k' := rfl
theorem hI_new (h : Hp) (t n s : Nat) (m : Nm) (k : Nat) : hpI (newC h t n s) m k = if m = (t, hpC h t) then 0 else hpI h m k := rfl
theorem hN_I (h : Hp) (n : Nm) (k : Nat) (v : Int32) : hpN (setI h n k v) = hpN h := rfl
theorem hS_I (h : Hp) (n : Nm) (k : Nat) (v : Int32) : hpS (setI h n k v) = hpS h := rfl
section ZR
variable {X : Nat × (Nat → Int32)} {y pc : Nat} {L : Ls} {st : St} {h : Hp} {Q : Option Vl → Hp → Prop} {len a b : Nat}
theorem z_p {t i ix : Nat} {v : Int32} (hc : cd y pc = some (.putfield ix, len, a, b)) (hk : kd t = a) (hf : fty a b = 0) (hi : i < hpC h t) (k : wp X y (pc + len) L st (setI h (t, i) b v) Q) : wp X y pc L (vI v :: vR (some (t, i)) :: st) h Q := by
  refine w_op hc (st' := st) (h1 := setI h (t, i) b v) (C := live h (t, i) ∧ kd t = a) ?_ ⟨hi, hk⟩ k
  unfold op
  dsimp only
  rw [hf]
  rfl
theorem z_pR {t i ix : Nat} {m : Nm} (hc : cd y pc = some (.putfield ix, len, a, b)) (hk : kd t = a) (hf : fty a b = 2) (hi : i < hpC h t) (hm : m.2 < hpC h m.1) (k : wp X y (pc + len) L st (setR h (t, i) b (some m)) Q) : wp X y pc L (vR (some m) :: vR (some (t, i)) :: st) h Q := by
  refine w_op hc (st' := st) (h1 := setR h (t, i) b (some m)) (C := live h (t, i) ∧ kd t = a ∧ live h m) ?_ ⟨hi, hk, hm⟩ k
  unfold op
  dsimp only
  rw [hf]
  rfl
theorem z_na {ty : ClassFile.ArrayType} {n : Int32} (N t : Nat) (hc : cd y pc = some (.newarray ty, len, t, b)) (hi : hpC h t = 0) (hn : n = nI N) (hN : N ≤ 2000000) (k : wp X y (pc + len) L (vR (some (t, 0)) :: st) (newC h t N N) Q) : wp X y pc L (vI n :: st) h Q := by
  subst hn
  refine w_op hc (st' := vR (some (t, hpC h t)) :: st) (h1 := newC h t (nat (nI N)) (nat (nI N))) rfl ⟨nI_pos (by omega), by rw [nat_nI (by omega)]; exact hN⟩ ?_
  rw [nat_nI (by omega), hi]
  exact k
theorem z_nq {ix : Nat} {n : Int32} (N t : Nat) (hc : cd y pc = some (.anewarray ix, len, t, b)) (hi : hpC h t = 0) (hn : n = nI N) (hN : N ≤ 2000000) (k : wp X y (pc + len) L (vR (some (t, 0)) :: st) (newC h t N N) Q) : wp X y pc L (vI n :: st) h Q := by
  subst hn
  refine w_op hc (st' := vR (some (t, hpC h t)) :: st) (h1 := newC h t (nat (nI N)) (nat (nI N))) rfl ⟨nI_pos (by omega), by rw [nat_nI (by omega)]; exact hN⟩ ?_
  rw [nat_nI (by omega), hi]
  exact k
theorem z_new {ix : Nat} (t sz : Nat) (hc : cd y pc = some (.new ix, len, t, b)) (hi : hpC h t = 0) (hs : nfl b = sz) (k : wp X y (pc + len) L (vR (some (t, 0)) :: st) (newC h t 0 sz) Q) : wp X y pc L st h Q := by
  subst hs
  refine w_op hc (st' := vR (some (t, hpC h t)) :: st) (h1 := newC h t 0 (nfl b)) rfl trivial ?_
  rw [hi]
  exact k
theorem z_obj {ix : Nat} {n : Nm} (hc : cd y pc = some (.invokespecial ix, len, 1000, b)) (hs : catS st ≤ 8) (k : wp X y (pc + len) L st h Q) : wp X y pc L (vR (some n) :: st) h Q := w_op hc (st' := st) rfl hs k
end ZR
def BH (h : Hp) : Hp := (setR (newC (setI (setI (setR (newC (setR (newC (setR (newC (setR (newC (setR (newC h 1 8 8) (0, 0) 0 (some (1, 0))) 2 300 300) (0, 0) 2 (some (2, 0))) 3 3000 3000) (0, 0) 7 (some (3, 0))) 4 4 4) (0, 0) 10 (some (4, 0))) 5 4000 4000) (0, 0) 11 (some (5, 0))) (0, 0) 13 250) (0, 0) 14 8000) 6 7 7) (0, 0) 17 (some (6, 0)))
theorem z5_init (X : Nat × (Nat → Int32)) (h : Hp) (g : 0 < hpC h 0) (g1 : hpC h 1 = 0) (g2 : hpC h 2 = 0) (g3 : hpC h 3 = 0) (g4 : hpC h 4 = 0) (g5 : hpC h 5 = 0) (g6 : hpC h 6 = 0) : wp X 34 0 [some (vR (some (0, 0)))] [] h (fun r h' => r = none ∧ h' = BH h) := by
  refine w_pu rfl rfl ?_
  refine z_obj rfl (Nat.le_of_ble_eq_true rfl) ?_
  refine w_pu rfl rfl ?_
  refine w_cst (v := 8) rfl rfl rfl ?_
  refine z_nq 8 1 rfl g1 rfl (by decide) ?_
  refine z_pR rfl rfl rfl g (Nat.succ_pos _) ?_
  refine w_pu rfl rfl ?_
  refine w_cst (v := 300) rfl rfl rfl ?_
  refine z_nq 300 2 rfl g2 rfl (by decide) ?_
  refine z_pR rfl rfl rfl g (Nat.succ_pos _) ?_
  refine w_pu rfl rfl ?_
  refine w_cst (v := 3000) rfl rfl rfl ?_
  refine z_nq 3000 3 rfl g3 rfl (by decide) ?_
  refine z_pR rfl rfl rfl g (Nat.succ_pos _) ?_
  refine w_pu rfl rfl ?_
  refine w_cst (v := 4) rfl rfl rfl ?_
  refine z_na 4 4 rfl g4 rfl (by decide) ?_
  refine z_pR rfl rfl rfl g (Nat.succ_pos _) ?_
  refine w_pu rfl rfl ?_
  refine w_cst (v := 4000) rfl rfl rfl ?_
  refine z_na 4000 5 rfl g5 rfl (by decide) ?_
  refine z_pR rfl rfl rfl g (Nat.succ_pos _) ?_
  refine w_pu rfl rfl ?_
  refine w_cst (v := 250) rfl rfl rfl ?_
  refine z_p rfl rfl rfl g ?_
  refine w_pu rfl rfl ?_
  refine w_cst (v := 8000) rfl rfl rfl ?_
  refine z_p rfl rfl rfl g ?_
  refine w_pu rfl rfl ?_
  refine w_cst (v := 7) rfl rfl rfl ?_
  refine z_na 7 6 rfl g6 rfl (by decide) ?_
  refine z_pR rfl rfl rfl g (Nat.succ_pos _) ?_
  refine w_rt rfl rfl trivial ?_
  exact ⟨rfl, rfl⟩
def MH (h : Hp) : Hp := (setR (newC (setI (setI (setR (newC (setR (newC (setR (newC (setR (newC (setR (newC (setR (newC (setR (newC (setR (newC (setR (newC (setR (newC (setR (newC (setR (newC (setR (newC (setR (newC (setR (newC (setR (newC (setR (newC (setR (newC (setR (newC (setR (newC (setR (newC (setR (newC (setR (newC (setR (newC (setR (newC (setR (newC (setR (newC (setR (newC (setR (newC (setR (newC (setR (newC (setR (newC (setR (newC (setR (newC (setR (newC (setR (newC (setR (newC h 23 8 8) (22, 0) 1 (some (23, 0))) 24 8 8) (22, 0) 2 (some (24, 0))) 25 8 8) (22, 0) 3 (some (25, 0))) 26 8 8) (22, 0) 4 (some (26, 0))) 27 8 8) (22, 0) 5 (some (27, 0))) 28 8 8) (22, 0) 6 (some (28, 0))) 29 328 328) (22, 0) 7 (some (29, 0))) 30 8 8) (22, 0) 8 (some (30, 0))) 31 8 8) (22, 0) 9 (some (31, 0))) 32 1600 1600) (22, 0) 10 (some (32, 0))) 33 1600 1600) (22, 0) 11 (some (33, 0))) 34 1600 1600) (22, 0) 12 (some (34, 0))) 35 1600 1600) (22, 0) 13 (some (35, 0))) 36 8 8) (22, 0) 14 (some (36, 0))) 37 8 8) (22, 0) 15 (some (37, 0))) 38 8 8) (22, 0) 16 (some (38, 0))) 39 8 8) (22, 0) 17 (some (39, 0))) 40 8 8) (22, 0) 18 (some (40, 0))) 41 8 8) (22, 0) 19 (some (41, 0))) 42 8 8) (22, 0) 20 (some (42, 0))) 43 8 8) (22, 0) 21 (some (43, 0))) 44 160 160) (22, 0) 22 (some (44, 0))) 45 3000 3000) (22, 0) 24 (some (45, 0))) 46 3000 3000) (22, 0) 25 (some (46, 0))) 47 3000 3000) (22, 0) 26 (some (47, 0))) 48 3000 3000) (22, 0) 27 (some (48, 0))) 49 3000 3000) (22, 0) 28 (some (49, 0))) 50 3000 3000) (22, 0) 29 (some (50, 0))) 51 3000 3000) (22, 0) 30 (some (51, 0))) 52 24000 24000) (22, 0) 31 (some (52, 0))) 53 300 300) (22, 0) 34 (some (53, 0))) 54 300 300) (22, 0) 35 (some (54, 0))) 55 300 300) (22, 0) 36 (some (55, 0))) 56 300 300) (22, 0) 37 (some (56, 0))) 57 300 300) (22, 0) 38 (some (57, 0))) 58 1200000 1200000) (22, 0) 39 (some (58, 0))) 59 4000 4000) (22, 0) 41 (some (59, 0))) (22, 0) 43 250) (22, 0) 44 8000) 60 7 7) (22, 0) 46 (some (60, 0)))
theorem z6_init (X : Nat × (Nat → Int32)) (h : Hp) (g : 0 < hpC h 22) (g23 : hpC h 23 = 0) (g24 : hpC h 24 = 0) (g25 : hpC h 25 = 0) (g26 : hpC h 26 = 0) (g27 : hpC h 27 = 0) (g28 : hpC h 28 = 0) (g29 : hpC h 29 = 0) (g30 : hpC h 30 = 0) (g31 : hpC h 31 = 0) (g32 : hpC h 32 = 0) (g33 : hpC h 33 = 0) (g34 : hpC h 34 = 0) (g35 : hpC h 35 = 0) (g36 : hpC h 36 = 0) (g37 : hpC h 37 = 0) (g38 : hpC h 38 = 0) (g39 : hpC h 39 = 0) (g40 : hpC h 40 = 0) (g41 : hpC h 41 = 0) (g42 : hpC h 42 = 0) (g43 : hpC h 43 = 0) (g44 : hpC h 44 = 0) (g45 : hpC h 45 = 0) (g46 : hpC h 46 = 0) (g47 : hpC h 47 = 0) (g48 : hpC h 48 = 0) (g49 : hpC h 49 = 0) (g50 : hpC h 50 = 0) (g51 : hpC h 51 = 0) (g52 : hpC h 52 = 0) (g53 : hpC h 53 = 0) (g54 : hpC h 54 = 0) (g55 : hpC h 55 = 0) (g56 : hpC h 56 = 0) (g57 : hpC h 57 = 0) (g58 : hpC h 58 = 0) (g59 : hpC h 59 = 0) (g60 : hpC h 60 = 0) : wp X 84 0 [some (vR (some (22, 0)))] [] h (fun r h' => r = none ∧ h' = MH h) := by
  refine w_pu rfl rfl ?_
  refine z_obj rfl (Nat.le_of_ble_eq_true rfl) ?_
  refine w_pu rfl rfl ?_
  refine w_cst (v := 8) rfl rfl rfl ?_
  refine z_na 8 23 rfl g23 rfl (by decide) ?_
  refine z_pR rfl rfl rfl g (Nat.succ_pos _) ?_
  refine w_pu rfl rfl ?_
  refine w_cst (v := 8) rfl rfl rfl ?_
  refine z_na 8 24 rfl g24 rfl (by decide) ?_
  refine z_pR rfl rfl rfl g (Nat.succ_pos _) ?_
  refine w_pu rfl rfl ?_
  refine w_cst (v := 8) rfl rfl rfl ?_
  refine z_na 8 25 rfl g25 rfl (by decide) ?_
  refine z_pR rfl rfl rfl g (Nat.succ_pos _) ?_
  refine w_pu rfl rfl ?_
  refine w_cst (v := 8) rfl rfl rfl ?_
  refine z_na 8 26 rfl g26 rfl (by decide) ?_
  refine z_pR rfl rfl rfl g (Nat.succ_pos _) ?_
  refine w_pu rfl rfl ?_
  refine w_cst (v := 8) rfl rfl rfl ?_
  refine z_na 8 27 rfl g27 rfl (by decide) ?_
  refine z_pR rfl rfl rfl g (Nat.succ_pos _) ?_
  refine w_pu rfl rfl ?_
  refine w_cst (v := 8) rfl rfl rfl ?_
  refine z_na 8 28 rfl g28 rfl (by decide) ?_
  refine z_pR rfl rfl rfl g (Nat.succ_pos _) ?_
  refine w_pu rfl rfl ?_
  refine w_cst (v := 328) rfl rfl rfl ?_
  refine z_na 328 29 rfl g29 rfl (by decide) ?_
  refine z_pR rfl rfl rfl g (Nat.succ_pos _) ?_
  refine w_pu rfl rfl ?_
  refine w_cst (v := 8) rfl rfl rfl ?_
  refine z_na 8 30 rfl g30 rfl (by decide) ?_
  refine z_pR rfl rfl rfl g (Nat.succ_pos _) ?_
  refine w_pu rfl rfl ?_
  refine w_cst (v := 8) rfl rfl rfl ?_
  refine z_na 8 31 rfl g31 rfl (by decide) ?_
  refine z_pR rfl rfl rfl g (Nat.succ_pos _) ?_
  refine w_pu rfl rfl ?_
  refine w_cst (v := 1600) rfl rfl rfl ?_
  refine z_na 1600 32 rfl g32 rfl (by decide) ?_
  refine z_pR rfl rfl rfl g (Nat.succ_pos _) ?_
  refine w_pu rfl rfl ?_
  refine w_cst (v := 1600) rfl rfl rfl ?_
  refine z_na 1600 33 rfl g33 rfl (by decide) ?_
  refine z_pR rfl rfl rfl g (Nat.succ_pos _) ?_
  refine w_pu rfl rfl ?_
  refine w_cst (v := 1600) rfl rfl rfl ?_
  refine z_na 1600 34 rfl g34 rfl (by decide) ?_
  refine z_pR rfl rfl rfl g (Nat.succ_pos _) ?_
  refine w_pu rfl rfl ?_
  refine w_cst (v := 1600) rfl rfl rfl ?_
  refine z_na 1600 35 rfl g35 rfl (by decide) ?_
  refine z_pR rfl rfl rfl g (Nat.succ_pos _) ?_
  refine w_pu rfl rfl ?_
  refine w_cst (v := 8) rfl rfl rfl ?_
  refine z_na 8 36 rfl g36 rfl (by decide) ?_
  refine z_pR rfl rfl rfl g (Nat.succ_pos _) ?_
  refine w_pu rfl rfl ?_
  refine w_cst (v := 8) rfl rfl rfl ?_
  refine z_na 8 37 rfl g37 rfl (by decide) ?_
  refine z_pR rfl rfl rfl g (Nat.succ_pos _) ?_
  refine w_pu rfl rfl ?_
  refine w_cst (v := 8) rfl rfl rfl ?_
  refine z_na 8 38 rfl g38 rfl (by decide) ?_
  refine z_pR rfl rfl rfl g (Nat.succ_pos _) ?_
  refine w_pu rfl rfl ?_
  refine w_cst (v := 8) rfl rfl rfl ?_
  refine z_na 8 39 rfl g39 rfl (by decide) ?_
  refine z_pR rfl rfl rfl g (Nat.succ_pos _) ?_
  refine w_pu rfl rfl ?_
  refine w_cst (v := 8) rfl rfl rfl ?_
  refine z_na 8 40 rfl g40 rfl (by decide) ?_
  refine z_pR rfl rfl rfl g (Nat.succ_pos _) ?_
  refine w_pu rfl rfl ?_
  refine w_cst (v := 8) rfl rfl rfl ?_
  refine z_na 8 41 rfl g41 rfl (by decide) ?_
  refine z_pR rfl rfl rfl g (Nat.succ_pos _) ?_
  refine w_pu rfl rfl ?_
  refine w_cst (v := 8) rfl rfl rfl ?_
  refine z_na 8 42 rfl g42 rfl (by decide) ?_
  refine z_pR rfl rfl rfl g (Nat.succ_pos _) ?_
  refine w_pu rfl rfl ?_
  refine w_cst (v := 8) rfl rfl rfl ?_
  refine z_na 8 43 rfl g43 rfl (by decide) ?_
  refine z_pR rfl rfl rfl g (Nat.succ_pos _) ?_
  refine w_pu rfl rfl ?_
  refine w_cst (v := 160) rfl rfl rfl ?_
  refine z_na 160 44 rfl g44 rfl (by decide) ?_
  refine z_pR rfl rfl rfl g (Nat.succ_pos _) ?_
  refine w_pu rfl rfl ?_
  refine w_cst (v := 3000) rfl rfl rfl ?_
  refine z_na 3000 45 rfl g45 rfl (by decide) ?_
  refine z_pR rfl rfl rfl g (Nat.succ_pos _) ?_
  refine w_pu rfl rfl ?_
  refine w_cst (v := 3000) rfl rfl rfl ?_
  refine z_na 3000 46 rfl g46 rfl (by decide) ?_
  refine z_pR rfl rfl rfl g (Nat.succ_pos _) ?_
  refine w_pu rfl rfl ?_
  refine w_cst (v := 3000) rfl rfl rfl ?_
  refine z_na 3000 47 rfl g47 rfl (by decide) ?_
  refine z_pR rfl rfl rfl g (Nat.succ_pos _) ?_
  refine w_pu rfl rfl ?_
  refine w_cst (v := 3000) rfl rfl rfl ?_
  refine z_na 3000 48 rfl g48 rfl (by decide) ?_
  refine z_pR rfl rfl rfl g (Nat.succ_pos _) ?_
  refine w_pu rfl rfl ?_
  refine w_cst (v := 3000) rfl rfl rfl ?_
  refine z_na 3000 49 rfl g49 rfl (by decide) ?_
  refine z_pR rfl rfl rfl g (Nat.succ_pos _) ?_
  refine w_pu rfl rfl ?_
  refine w_cst (v := 3000) rfl rfl rfl ?_
  refine z_na 3000 50 rfl g50 rfl (by decide) ?_
  refine z_pR rfl rfl rfl g (Nat.succ_pos _) ?_
  refine w_pu rfl rfl ?_
  refine w_cst (v := 3000) rfl rfl rfl ?_
  refine z_na 3000 51 rfl g51 rfl (by decide) ?_
  refine z_pR rfl rfl rfl g (Nat.succ_pos _) ?_
  refine w_pu rfl rfl ?_
  refine w_cst (v := 24000) rfl rfl rfl ?_
  refine z_na 24000 52 rfl g52 rfl (by decide) ?_
  refine z_pR rfl rfl rfl g (Nat.succ_pos _) ?_
  refine w_pu rfl rfl ?_
  refine w_cst (v := 300) rfl rfl rfl ?_
  refine z_na 300 53 rfl g53 rfl (by decide) ?_
  refine z_pR rfl rfl rfl g (Nat.succ_pos _) ?_
  refine w_pu rfl rfl ?_
  refine w_cst (v := 300) rfl rfl rfl ?_
  refine z_na 300 54 rfl g54 rfl (by decide) ?_
  refine z_pR rfl rfl rfl g (Nat.succ_pos _) ?_
  refine w_pu rfl rfl ?_
  refine w_cst (v := 300) rfl rfl rfl ?_
  refine z_na 300 55 rfl g55 rfl (by decide) ?_
  refine z_pR rfl rfl rfl g (Nat.succ_pos _) ?_
  refine w_pu rfl rfl ?_
  refine w_cst (v := 300) rfl rfl rfl ?_
  refine z_na 300 56 rfl g56 rfl (by decide) ?_
  refine z_pR rfl rfl rfl g (Nat.succ_pos _) ?_
  refine w_pu rfl rfl ?_
  refine w_cst (v := 300) rfl rfl rfl ?_
  refine z_na 300 57 rfl g57 rfl (by decide) ?_
  refine z_pR rfl rfl rfl g (Nat.succ_pos _) ?_
  refine w_pu rfl rfl ?_
  refine w_cst (v := 1200000) rfl rfl rfl ?_
  refine z_na 1200000 58 rfl g58 rfl (by decide) ?_
  refine z_pR rfl rfl rfl g (Nat.succ_pos _) ?_
  refine w_pu rfl rfl ?_
  refine w_cst (v := 4000) rfl rfl rfl ?_
  refine z_na 4000 59 rfl g59 rfl (by decide) ?_
  refine z_pR rfl rfl rfl g (Nat.succ_pos _) ?_
  refine w_pu rfl rfl ?_
  refine w_cst (v := 250) rfl rfl rfl ?_
  refine z_p rfl rfl rfl g ?_
  refine w_pu rfl rfl ?_
  refine w_cst (v := 8000) rfl rfl rfl ?_
  refine z_p rfl rfl rfl g ?_
  refine w_pu rfl rfl ?_
  refine w_cst (v := 7) rfl rfl rfl ?_
  refine z_na 7 60 rfl g60 rfl (by decide) ?_
  refine z_pR rfl rfl rfl g (Nat.succ_pos _) ?_
  refine w_rt rfl rfl trivial ?_
  exact ⟨rfl, rfl⟩
