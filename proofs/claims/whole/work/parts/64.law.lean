/-! The law: its cases. -/
set_option maxRecDepth 20000 in
theorem lcs_open (L : Nat) (xs : Nat → Int32) (hL : L ≤ 2048) {H : Hp} {j : Nat} {Q : Option Vl → Hp → Prop} (h : LW H j) (hj : 4 * j + 4 ≤ L) (next : ∀ H', LW H' (j + 1) → wp (L, xs) 135 893 [some (vR (some (98, 0))), some (vR (some (0, 0))), some (vR (some (22, 0))), some (vI (nI (4 * j)))] [] H' Q) : wp (L, xs) 135 148 [some (vR (some (98, 0))), some (vR (some (0, 0))), some (vR (some (22, 0))), some (vI (nI (4 * j)))] [] H Q := by
  obtain ⟨v, H1, H2, h1, h2, h3, h4⟩ := pr_open (L, xs) h (by omega) (xs (4 * j + 1)) (xs (4 * j + 2)) (xs (4 * j + 3))
  refine w_pu rfl rfl ?_
  refine w_pu rfl rfl ?_
  refine w_pu rfl rfl ?_
  refine w_cst (v := 1) rfl rfl rfl ?_
  refine w_pu rfl rfl ?_
  refine w_sc (4 * j + 1) rfl (by show L < 2147483648; omega) (nI_add (4 * j) 1) (by show 4 * j + 1 < L; omega) ?_
  refine w_pu rfl rfl ?_
  refine w_pu rfl rfl ?_
  refine w_cst (v := 2) rfl rfl rfl ?_
  refine w_pu rfl rfl ?_
  refine w_sc (4 * j + 2) rfl (by show L < 2147483648; omega) (nI_add (4 * j) 2) (by show 4 * j + 2 < L; omega) ?_
  refine w_pu rfl rfl ?_
  refine w_pu rfl rfl ?_
  refine w_cst (v := 3) rfl rfl rfl ?_
  refine w_pu rfl rfl ?_
  refine w_sc (4 * j + 3) rfl (by show L < 2147483648; omega) (nI_add (4 * j) 3) (by show 4 * j + 3 < L; omega) ?_
  refine w_cgE (vI v) H1 rfl rfl (by decide) (Nat.le_of_ble_eq_true rfl) rfl (Nat.le_of_ble_eq_true rfl) (Nat.le_of_ble_eq_true rfl) ⟨LW_0 h, rfl⟩ rfl h1 ?_
  refine w_pu rfl rfl ?_
  refine w_pu rfl rfl ?_
  refine w_pu rfl rfl ?_
  refine w_cst (v := 1) rfl rfl rfl ?_
  refine w_pu rfl rfl ?_
  refine w_sc (4 * j + 1) rfl (by show L < 2147483648; omega) (nI_add (4 * j) 1) (by show 4 * j + 1 < L; omega) ?_
  refine w_pu rfl rfl ?_
  refine w_pu rfl rfl ?_
  refine w_cst (v := 2) rfl rfl rfl ?_
  refine w_pu rfl rfl ?_
  refine w_sc (4 * j + 2) rfl (by show L < 2147483648; omega) (nI_add (4 * j) 2) (by show 4 * j + 2 < L; omega) ?_
  refine w_pu rfl rfl ?_
  refine w_pu rfl rfl ?_
  refine w_cst (v := 3) rfl rfl rfl ?_
  refine w_pu rfl rfl ?_
  refine w_sc (4 * j + 3) rfl (by show L < 2147483648; omega) (nI_add (4 * j) 3) (by show 4 * j + 3 < L; omega) ?_
  refine w_cgE (vI v) H2 rfl rfl (by decide) (Nat.le_of_ble_eq_true rfl) rfl (Nat.le_of_ble_eq_true rfl) (Nat.le_of_ble_eq_true rfl) ⟨h3, rfl⟩ rfl h2 ?_
  refine w_eq rfl (fun _ => next _ h4) (fun e => absurd rfl e)
set_option maxRecDepth 20000 in
theorem lcs_lease (L : Nat) (xs : Nat → Int32) (hL : L ≤ 2048) {H : Hp} {j : Nat} {Q : Option Vl → Hp → Prop} (h : LW H j) (hj : 4 * j + 4 ≤ L) (next : ∀ H', LW H' (j + 1) → wp (L, xs) 135 893 [some (vR (some (98, 0))), some (vR (some (0, 0))), some (vR (some (22, 0))), some (vI (nI (4 * j)))] [] H' Q) : wp (L, xs) 135 191 [some (vR (some (98, 0))), some (vR (some (0, 0))), some (vR (some (22, 0))), some (vI (nI (4 * j)))] [] H Q := by
  obtain ⟨v, H1, H2, h1, h2, h3, h4⟩ := pr_lease (L, xs) h (by omega) (xs (4 * j + 1)) (xs (4 * j + 2)) (xs (4 * j + 3))
  refine w_pu rfl rfl ?_
  refine w_pu rfl rfl ?_
  refine w_pu rfl rfl ?_
  refine w_cst (v := 1) rfl rfl rfl ?_
  refine w_pu rfl rfl ?_
  refine w_sc (4 * j + 1) rfl (by show L < 2147483648; omega) (nI_add (4 * j) 1) (by show 4 * j + 1 < L; omega) ?_
  refine w_pu rfl rfl ?_
  refine w_pu rfl rfl ?_
  refine w_cst (v := 2) rfl rfl rfl ?_
  refine w_pu rfl rfl ?_
  refine w_sc (4 * j + 2) rfl (by show L < 2147483648; omega) (nI_add (4 * j) 2) (by show 4 * j + 2 < L; omega) ?_
  refine w_pu rfl rfl ?_
  refine w_pu rfl rfl ?_
  refine w_cst (v := 3) rfl rfl rfl ?_
  refine w_pu rfl rfl ?_
  refine w_sc (4 * j + 3) rfl (by show L < 2147483648; omega) (nI_add (4 * j) 3) (by show 4 * j + 3 < L; omega) ?_
  refine w_cgE (vI v) H1 rfl rfl (by decide) (Nat.le_of_ble_eq_true rfl) rfl (Nat.le_of_ble_eq_true rfl) (Nat.le_of_ble_eq_true rfl) ⟨LW_0 h, rfl⟩ rfl h1 ?_
  refine w_pu rfl rfl ?_
  refine w_pu rfl rfl ?_
  refine w_pu rfl rfl ?_
  refine w_cst (v := 1) rfl rfl rfl ?_
  refine w_pu rfl rfl ?_
  refine w_sc (4 * j + 1) rfl (by show L < 2147483648; omega) (nI_add (4 * j) 1) (by show 4 * j + 1 < L; omega) ?_
  refine w_pu rfl rfl ?_
  refine w_pu rfl rfl ?_
  refine w_cst (v := 2) rfl rfl rfl ?_
  refine w_pu rfl rfl ?_
  refine w_sc (4 * j + 2) rfl (by show L < 2147483648; omega) (nI_add (4 * j) 2) (by show 4 * j + 2 < L; omega) ?_
  refine w_pu rfl rfl ?_
  refine w_pu rfl rfl ?_
  refine w_cst (v := 3) rfl rfl rfl ?_
  refine w_pu rfl rfl ?_
  refine w_sc (4 * j + 3) rfl (by show L < 2147483648; omega) (nI_add (4 * j) 3) (by show 4 * j + 3 < L; omega) ?_
  refine w_cgE (vI v) H2 rfl rfl (by decide) (Nat.le_of_ble_eq_true rfl) rfl (Nat.le_of_ble_eq_true rfl) (Nat.le_of_ble_eq_true rfl) ⟨h3, rfl⟩ rfl h2 ?_
  refine w_eq rfl (fun _ => next _ h4) (fun e => absurd rfl e)
set_option maxRecDepth 20000 in
theorem lcs_type (L : Nat) (xs : Nat → Int32) (hL : L ≤ 2048) {H : Hp} {j : Nat} {Q : Option Vl → Hp → Prop} (h : LW H j) (hj : 4 * j + 4 ≤ L) (next : ∀ H', LW H' (j + 1) → wp (L, xs) 135 893 [some (vR (some (98, 0))), some (vR (some (0, 0))), some (vR (some (22, 0))), some (vI (nI (4 * j)))] [] H' Q) : wp (L, xs) 135 234 [some (vR (some (98, 0))), some (vR (some (0, 0))), some (vR (some (22, 0))), some (vI (nI (4 * j)))] [] H Q := by
  obtain ⟨v, H1, H2, h1, h2, h3, h4⟩ := pr_type (L, xs) h (by omega) ((((xs (4 * j + 1)).toInt64 <<< ((32 : Int32).toInt64 &&& 63)) ||| ((xs (4 * j + 2)).toInt64 &&& Int64.ofNat 4294967295))) (xs (4 * j + 3))
  refine w_pu rfl rfl ?_
  refine w_pu rfl rfl ?_
  refine w_pu rfl rfl ?_
  refine w_cst (v := 1) rfl rfl rfl ?_
  refine w_pu rfl rfl ?_
  refine w_sc (4 * j + 1) rfl (by show L < 2147483648; omega) (nI_add (4 * j) 1) (by show 4 * j + 1 < L; omega) ?_
  refine w_pu rfl rfl ?_
  refine w_cst (v := 32) rfl rfl rfl ?_
  refine w_pu rfl rfl ?_
  refine w_pu rfl rfl ?_
  refine w_pu rfl rfl ?_
  refine w_cst (v := 2) rfl rfl rfl ?_
  refine w_pu rfl rfl ?_
  refine w_sc (4 * j + 2) rfl (by show L < 2147483648; omega) (nI_add (4 * j) 2) (by show 4 * j + 2 < L; omega) ?_
  refine w_pu rfl rfl ?_
  refine w_pu rfl rfl ?_
  refine w_pu rfl rfl ?_
  refine w_pu rfl rfl ?_
  refine w_pu rfl rfl ?_
  refine w_pu rfl rfl ?_
  refine w_cst (v := 3) rfl rfl rfl ?_
  refine w_pu rfl rfl ?_
  refine w_sc (4 * j + 3) rfl (by show L < 2147483648; omega) (nI_add (4 * j) 3) (by show 4 * j + 3 < L; omega) ?_
  refine w_cgE (vI v) H1 rfl rfl (by decide) (Nat.le_of_ble_eq_true rfl) rfl (Nat.le_of_ble_eq_true rfl) (Nat.le_of_ble_eq_true rfl) ⟨LW_0 h, rfl⟩ rfl h1 ?_
  refine w_pu rfl rfl ?_
  refine w_pu rfl rfl ?_
  refine w_pu rfl rfl ?_
  refine w_cst (v := 1) rfl rfl rfl ?_
  refine w_pu rfl rfl ?_
  refine w_sc (4 * j + 1) rfl (by show L < 2147483648; omega) (nI_add (4 * j) 1) (by show 4 * j + 1 < L; omega) ?_
  refine w_pu rfl rfl ?_
  refine w_cst (v := 32) rfl rfl rfl ?_
  refine w_pu rfl rfl ?_
  refine w_pu rfl rfl ?_
  refine w_pu rfl rfl ?_
  refine w_cst (v := 2) rfl rfl rfl ?_
  refine w_pu rfl rfl ?_
  refine w_sc (4 * j + 2) rfl (by show L < 2147483648; omega) (nI_add (4 * j) 2) (by show 4 * j + 2 < L; omega) ?_
  refine w_pu rfl rfl ?_
  refine w_pu rfl rfl ?_
  refine w_pu rfl rfl ?_
  refine w_pu rfl rfl ?_
  refine w_pu rfl rfl ?_
  refine w_pu rfl rfl ?_
  refine w_cst (v := 3) rfl rfl rfl ?_
  refine w_pu rfl rfl ?_
  refine w_sc (4 * j + 3) rfl (by show L < 2147483648; omega) (nI_add (4 * j) 3) (by show 4 * j + 3 < L; omega) ?_
  refine w_cgE (vI v) H2 rfl rfl (by decide) (Nat.le_of_ble_eq_true rfl) rfl (Nat.le_of_ble_eq_true rfl) (Nat.le_of_ble_eq_true rfl) ⟨h3, rfl⟩ rfl h2 ?_
  refine w_eq rfl (fun _ => next _ h4) (fun e => absurd rfl e)
set_option maxRecDepth 20000 in
theorem lcs_grow (L : Nat) (xs : Nat → Int32) (hL : L ≤ 2048) {H : Hp} {j : Nat} {Q : Option Vl → Hp → Prop} (h : LW H j) (hj : 4 * j + 4 ≤ L) (next : ∀ H', LW H' (j + 1) → wp (L, xs) 135 893 [some (vR (some (98, 0))), some (vR (some (0, 0))), some (vR (some (22, 0))), some (vI (nI (4 * j)))] [] H' Q) : wp (L, xs) 135 297 [some (vR (some (98, 0))), some (vR (some (0, 0))), some (vR (some (22, 0))), some (vI (nI (4 * j)))] [] H Q := by
  obtain ⟨v, H1, H2, h1, h2, h3, h4⟩ := pr_grow (L, xs) h (by omega) (xs (4 * j + 1))
  refine w_pu rfl rfl ?_
  refine w_pu rfl rfl ?_
  refine w_pu rfl rfl ?_
  refine w_cst (v := 1) rfl rfl rfl ?_
  refine w_pu rfl rfl ?_
  refine w_sc (4 * j + 1) rfl (by show L < 2147483648; omega) (nI_add (4 * j) 1) (by show 4 * j + 1 < L; omega) ?_
  refine w_cgE (vI v) H1 rfl rfl (by decide) (Nat.le_of_ble_eq_true rfl) rfl (Nat.le_of_ble_eq_true rfl) (Nat.le_of_ble_eq_true rfl) ⟨LW_0 h, rfl⟩ rfl h1 ?_
  refine w_pu rfl rfl ?_
  refine w_pu rfl rfl ?_
  refine w_pu rfl rfl ?_
  refine w_cst (v := 1) rfl rfl rfl ?_
  refine w_pu rfl rfl ?_
  refine w_sc (4 * j + 1) rfl (by show L < 2147483648; omega) (nI_add (4 * j) 1) (by show 4 * j + 1 < L; omega) ?_
  refine w_cgE (vI v) H2 rfl rfl (by decide) (Nat.le_of_ble_eq_true rfl) rfl (Nat.le_of_ble_eq_true rfl) (Nat.le_of_ble_eq_true rfl) ⟨h3, rfl⟩ rfl h2 ?_
  refine w_eq rfl (fun _ => next _ h4) (fun e => absurd rfl e)
set_option maxRecDepth 20000 in
theorem lcs_frame (L : Nat) (xs : Nat → Int32) (hL : L ≤ 2048) {H : Hp} {j : Nat} {Q : Option Vl → Hp → Prop} (h : LW H j) (hj : 4 * j + 4 ≤ L) (next : ∀ H', LW H' (j + 1) → wp (L, xs) 135 893 [some (vR (some (98, 0))), some (vR (some (0, 0))), some (vR (some (22, 0))), some (vI (nI (4 * j)))] [] H' Q) : wp (L, xs) 135 320 [some (vR (some (98, 0))), some (vR (some (0, 0))), some (vR (some (22, 0))), some (vI (nI (4 * j)))] [] H Q := by
  obtain ⟨v, H1, H2, h1, h2, h3, h4⟩ := pr_frame (L, xs) h (by omega) 
  refine w_pu rfl rfl ?_
  refine w_cgE (vI v) H1 rfl rfl (by decide) (Nat.le_of_ble_eq_true rfl) rfl (Nat.le_of_ble_eq_true rfl) (Nat.le_of_ble_eq_true rfl) ⟨LW_0 h, rfl⟩ rfl h1 ?_
  refine w_pu rfl rfl ?_
  refine w_cgE (vI v) H2 rfl rfl (by decide) (Nat.le_of_ble_eq_true rfl) rfl (Nat.le_of_ble_eq_true rfl) (Nat.le_of_ble_eq_true rfl) ⟨h3, rfl⟩ rfl h2 ?_
  refine w_eq rfl (fun _ => next _ h4) (fun e => absurd rfl e)
set_option maxRecDepth 20000 in
theorem lcs_cut (L : Nat) (xs : Nat → Int32) (hL : L ≤ 2048) {H : Hp} {j : Nat} {Q : Option Vl → Hp → Prop} (h : LW H j) (hj : 4 * j + 4 ≤ L) (next : ∀ H', LW H' (j + 1) → wp (L, xs) 135 893 [some (vR (some (98, 0))), some (vR (some (0, 0))), some (vR (some (22, 0))), some (vI (nI (4 * j)))] [] H' Q) : wp (L, xs) 135 333 [some (vR (some (98, 0))), some (vR (some (0, 0))), some (vR (some (22, 0))), some (vI (nI (4 * j)))] [] H Q := by
  obtain ⟨v, H1, H2, h1, h2, h3, h4⟩ := pr_cut (L, xs) h (by omega) (xs (4 * j + 1))
  refine w_pu rfl rfl ?_
  refine w_pu rfl rfl ?_
  refine w_pu rfl rfl ?_
  refine w_cst (v := 1) rfl rfl rfl ?_
  refine w_pu rfl rfl ?_
  refine w_sc (4 * j + 1) rfl (by show L < 2147483648; omega) (nI_add (4 * j) 1) (by show 4 * j + 1 < L; omega) ?_
  refine w_cgE (vI v) H1 rfl rfl (by decide) (Nat.le_of_ble_eq_true rfl) rfl (Nat.le_of_ble_eq_true rfl) (Nat.le_of_ble_eq_true rfl) ⟨LW_0 h, rfl⟩ rfl h1 ?_
  refine w_pu rfl rfl ?_
  refine w_pu rfl rfl ?_
  refine w_pu rfl rfl ?_
  refine w_cst (v := 1) rfl rfl rfl ?_
  refine w_pu rfl rfl ?_
  refine w_sc (4 * j + 1) rfl (by show L < 2147483648; omega) (nI_add (4 * j) 1) (by show 4 * j + 1 < L; omega) ?_
  refine w_cgE (vI v) H2 rfl rfl (by decide) (Nat.le_of_ble_eq_true rfl) rfl (Nat.le_of_ble_eq_true rfl) (Nat.le_of_ble_eq_true rfl) ⟨h3, rfl⟩ rfl h2 ?_
  refine w_eq rfl (fun _ => next _ h4) (fun e => absurd rfl e)
set_option maxRecDepth 20000 in
theorem lcs_room (L : Nat) (xs : Nat → Int32) (hL : L ≤ 2048) {H : Hp} {j : Nat} {Q : Option Vl → Hp → Prop} (h : LW H j) (hj : 4 * j + 4 ≤ L) (next : ∀ H', LW H' (j + 1) → wp (L, xs) 135 893 [some (vR (some (98, 0))), some (vR (some (0, 0))), some (vR (some (22, 0))), some (vI (nI (4 * j)))] [] H' Q) : wp (L, xs) 135 356 [some (vR (some (98, 0))), some (vR (some (0, 0))), some (vR (some (22, 0))), some (vI (nI (4 * j)))] [] H Q := by
  obtain ⟨v, H1, H2, h1, h2, h3, h4⟩ := pr_room (L, xs) h (by omega) (xs (4 * j + 1))
  refine w_pu rfl rfl ?_
  refine w_pu rfl rfl ?_
  refine w_pu rfl rfl ?_
  refine w_cst (v := 1) rfl rfl rfl ?_
  refine w_pu rfl rfl ?_
  refine w_sc (4 * j + 1) rfl (by show L < 2147483648; omega) (nI_add (4 * j) 1) (by show 4 * j + 1 < L; omega) ?_
  refine w_cgE (vI v) H1 rfl rfl (by decide) (Nat.le_of_ble_eq_true rfl) rfl (Nat.le_of_ble_eq_true rfl) (Nat.le_of_ble_eq_true rfl) ⟨LW_0 h, rfl⟩ rfl h1 ?_
  refine w_pu rfl rfl ?_
  refine w_pu rfl rfl ?_
  refine w_pu rfl rfl ?_
  refine w_cst (v := 1) rfl rfl rfl ?_
  refine w_pu rfl rfl ?_
  refine w_sc (4 * j + 1) rfl (by show L < 2147483648; omega) (nI_add (4 * j) 1) (by show 4 * j + 1 < L; omega) ?_
  refine w_cgE (vI v) H2 rfl rfl (by decide) (Nat.le_of_ble_eq_true rfl) rfl (Nat.le_of_ble_eq_true rfl) (Nat.le_of_ble_eq_true rfl) ⟨h3, rfl⟩ rfl h2 ?_
  refine w_eq rfl (fun _ => next _ h4) (fun e => absurd rfl e)
set_option maxRecDepth 20000 in
theorem lcs_tick (L : Nat) (xs : Nat → Int32) (hL : L ≤ 2048) {H : Hp} {j : Nat} {Q : Option Vl → Hp → Prop} (h : LW H j) (hj : 4 * j + 4 ≤ L) (next : ∀ H', LW H' (j + 1) → wp (L, xs) 135 893 [some (vR (some (98, 0))), some (vR (some (0, 0))), some (vR (some (22, 0))), some (vI (nI (4 * j)))] [] H' Q) : wp (L, xs) 135 379 [some (vR (some (98, 0))), some (vR (some (0, 0))), some (vR (some (22, 0))), some (vI (nI (4 * j)))] [] H Q := by
  obtain ⟨v, H1, H2, h1, h2, h3, h4⟩ := pr_tick (L, xs) h (by omega) (xs (4 * j + 1))
  refine w_pu rfl rfl ?_
  refine w_pu rfl rfl ?_
  refine w_pu rfl rfl ?_
  refine w_cst (v := 1) rfl rfl rfl ?_
  refine w_pu rfl rfl ?_
  refine w_sc (4 * j + 1) rfl (by show L < 2147483648; omega) (nI_add (4 * j) 1) (by show 4 * j + 1 < L; omega) ?_
  refine w_cgE (vI v) H1 rfl rfl (by decide) (Nat.le_of_ble_eq_true rfl) rfl (Nat.le_of_ble_eq_true rfl) (Nat.le_of_ble_eq_true rfl) ⟨LW_0 h, rfl⟩ rfl h1 ?_
  refine w_pu rfl rfl ?_
  refine w_pu rfl rfl ?_
  refine w_pu rfl rfl ?_
  refine w_cst (v := 1) rfl rfl rfl ?_
  refine w_pu rfl rfl ?_
  refine w_sc (4 * j + 1) rfl (by show L < 2147483648; omega) (nI_add (4 * j) 1) (by show 4 * j + 1 < L; omega) ?_
  refine w_cgE (vI v) H2 rfl rfl (by decide) (Nat.le_of_ble_eq_true rfl) rfl (Nat.le_of_ble_eq_true rfl) (Nat.le_of_ble_eq_true rfl) ⟨h3, rfl⟩ rfl h2 ?_
  refine w_eq rfl (fun _ => next _ h4) (fun e => absurd rfl e)
set_option maxRecDepth 20000 in
theorem lcs_lose (L : Nat) (xs : Nat → Int32) (hL : L ≤ 2048) {H : Hp} {j : Nat} {Q : Option Vl → Hp → Prop} (h : LW H j) (hj : 4 * j + 4 ≤ L) (next : ∀ H', LW H' (j + 1) → wp (L, xs) 135 893 [some (vR (some (98, 0))), some (vR (some (0, 0))), some (vR (some (22, 0))), some (vI (nI (4 * j)))] [] H' Q) : wp (L, xs) 135 402 [some (vR (some (98, 0))), some (vR (some (0, 0))), some (vR (some (22, 0))), some (vI (nI (4 * j)))] [] H Q := by
  obtain ⟨v, H1, H2, h1, h2, h3, h4⟩ := pr_lose (L, xs) h (by omega) (xs (4 * j + 1))
  refine w_pu rfl rfl ?_
  refine w_pu rfl rfl ?_
  refine w_pu rfl rfl ?_
  refine w_cst (v := 1) rfl rfl rfl ?_
  refine w_pu rfl rfl ?_
  refine w_sc (4 * j + 1) rfl (by show L < 2147483648; omega) (nI_add (4 * j) 1) (by show 4 * j + 1 < L; omega) ?_
  refine w_cgE (vI v) H1 rfl rfl (by decide) (Nat.le_of_ble_eq_true rfl) rfl (Nat.le_of_ble_eq_true rfl) (Nat.le_of_ble_eq_true rfl) ⟨LW_0 h, rfl⟩ rfl h1 ?_
  refine w_pu rfl rfl ?_
  refine w_pu rfl rfl ?_
  refine w_pu rfl rfl ?_
  refine w_cst (v := 1) rfl rfl rfl ?_
  refine w_pu rfl rfl ?_
  refine w_sc (4 * j + 1) rfl (by show L < 2147483648; omega) (nI_add (4 * j) 1) (by show 4 * j + 1 < L; omega) ?_
  refine w_cgE (vI v) H2 rfl rfl (by decide) (Nat.le_of_ble_eq_true rfl) rfl (Nat.le_of_ble_eq_true rfl) (Nat.le_of_ble_eq_true rfl) ⟨h3, rfl⟩ rfl h2 ?_
  refine w_eq rfl (fun _ => next _ h4) (fun e => absurd rfl e)
set_option maxRecDepth 20000 in
theorem lcs_bend (L : Nat) (xs : Nat → Int32) (hL : L ≤ 2048) {H : Hp} {j : Nat} {Q : Option Vl → Hp → Prop} (h : LW H j) (hj : 4 * j + 4 ≤ L) (next : ∀ H', LW H' (j + 1) → wp (L, xs) 135 893 [some (vR (some (98, 0))), some (vR (some (0, 0))), some (vR (some (22, 0))), some (vI (nI (4 * j)))] [] H' Q) : wp (L, xs) 135 425 [some (vR (some (98, 0))), some (vR (some (0, 0))), some (vR (some (22, 0))), some (vI (nI (4 * j)))] [] H Q := by
  obtain ⟨v, H1, H2, h1, h2, h3, h4⟩ := pr_bend (L, xs) h (by omega) (xs (4 * j + 1)) (xs (4 * j + 2)) (xs (4 * j + 3))
  refine w_pu rfl rfl ?_
  refine w_pu rfl rfl ?_
  refine w_pu rfl rfl ?_
  refine w_cst (v := 1) rfl rfl rfl ?_
  refine w_pu rfl rfl ?_
  refine w_sc (4 * j + 1) rfl (by show L < 2147483648; omega) (nI_add (4 * j) 1) (by show 4 * j + 1 < L; omega) ?_
  refine w_pu rfl rfl ?_
  refine w_pu rfl rfl ?_
  refine w_cst (v := 2) rfl rfl rfl ?_
  refine w_pu rfl rfl ?_
  refine w_sc (4 * j + 2) rfl (by show L < 2147483648; omega) (nI_add (4 * j) 2) (by show 4 * j + 2 < L; omega) ?_
  refine w_pu rfl rfl ?_
  refine w_pu rfl rfl ?_
  refine w_cst (v := 3) rfl rfl rfl ?_
  refine w_pu rfl rfl ?_
  refine w_sc (4 * j + 3) rfl (by show L < 2147483648; omega) (nI_add (4 * j) 3) (by show 4 * j + 3 < L; omega) ?_
  refine w_cgE (vI v) H1 rfl rfl (by decide) (Nat.le_of_ble_eq_true rfl) rfl (Nat.le_of_ble_eq_true rfl) (Nat.le_of_ble_eq_true rfl) ⟨LW_0 h, rfl⟩ rfl h1 ?_
  refine w_pu rfl rfl ?_
  refine w_pu rfl rfl ?_
  refine w_pu rfl rfl ?_
  refine w_cst (v := 1) rfl rfl rfl ?_
  refine w_pu rfl rfl ?_
  refine w_sc (4 * j + 1) rfl (by show L < 2147483648; omega) (nI_add (4 * j) 1) (by show 4 * j + 1 < L; omega) ?_
  refine w_pu rfl rfl ?_
  refine w_pu rfl rfl ?_
  refine w_cst (v := 2) rfl rfl rfl ?_
  refine w_pu rfl rfl ?_
  refine w_sc (4 * j + 2) rfl (by show L < 2147483648; omega) (nI_add (4 * j) 2) (by show 4 * j + 2 < L; omega) ?_
  refine w_pu rfl rfl ?_
  refine w_pu rfl rfl ?_
  refine w_cst (v := 3) rfl rfl rfl ?_
  refine w_pu rfl rfl ?_
  refine w_sc (4 * j + 3) rfl (by show L < 2147483648; omega) (nI_add (4 * j) 3) (by show 4 * j + 3 < L; omega) ?_
  refine w_cgE (vI v) H2 rfl rfl (by decide) (Nat.le_of_ble_eq_true rfl) rfl (Nat.le_of_ble_eq_true rfl) (Nat.le_of_ble_eq_true rfl) ⟨h3, rfl⟩ rfl h2 ?_
  refine w_eq rfl (fun _ => next _ h4) (fun e => absurd rfl e)
set_option maxRecDepth 20000 in
theorem lcs_fall (L : Nat) (xs : Nat → Int32) (hL : L ≤ 2048) {H : Hp} {j : Nat} {Q : Option Vl → Hp → Prop} (h : LW H j) (hj : 4 * j + 4 ≤ L) (next : ∀ H', LW H' (j + 1) → wp (L, xs) 135 893 [some (vR (some (98, 0))), some (vR (some (0, 0))), some (vR (some (22, 0))), some (vI (nI (4 * j)))] [] H' Q) : wp (L, xs) 135 468 [some (vR (some (98, 0))), some (vR (some (0, 0))), some (vR (some (22, 0))), some (vI (nI (4 * j)))] [] H Q := by
  obtain ⟨v, H1, H2, h1, h2, h3, h4⟩ := pr_fall (L, xs) h (by omega) (xs (4 * j + 1))
  refine w_pu rfl rfl ?_
  refine w_pu rfl rfl ?_
  refine w_pu rfl rfl ?_
  refine w_cst (v := 1) rfl rfl rfl ?_
  refine w_pu rfl rfl ?_
  refine w_sc (4 * j + 1) rfl (by show L < 2147483648; omega) (nI_add (4 * j) 1) (by show 4 * j + 1 < L; omega) ?_
  refine w_cgE (vI v) H1 rfl rfl (by decide) (Nat.le_of_ble_eq_true rfl) rfl (Nat.le_of_ble_eq_true rfl) (Nat.le_of_ble_eq_true rfl) ⟨LW_0 h, rfl⟩ rfl h1 ?_
  refine w_pu rfl rfl ?_
  refine w_pu rfl rfl ?_
  refine w_pu rfl rfl ?_
  refine w_cst (v := 1) rfl rfl rfl ?_
  refine w_pu rfl rfl ?_
  refine w_sc (4 * j + 1) rfl (by show L < 2147483648; omega) (nI_add (4 * j) 1) (by show 4 * j + 1 < L; omega) ?_
  refine w_cgE (vI v) H2 rfl rfl (by decide) (Nat.le_of_ble_eq_true rfl) rfl (Nat.le_of_ble_eq_true rfl) (Nat.le_of_ble_eq_true rfl) ⟨h3, rfl⟩ rfl h2 ?_
  refine w_eq rfl (fun _ => next _ h4) (fun e => absurd rfl e)
set_option maxRecDepth 20000 in
theorem lcs_rise (L : Nat) (xs : Nat → Int32) (hL : L ≤ 2048) {H : Hp} {j : Nat} {Q : Option Vl → Hp → Prop} (h : LW H j) (hj : 4 * j + 4 ≤ L) (next : ∀ H', LW H' (j + 1) → wp (L, xs) 135 893 [some (vR (some (98, 0))), some (vR (some (0, 0))), some (vR (some (22, 0))), some (vI (nI (4 * j)))] [] H' Q) : wp (L, xs) 135 491 [some (vR (some (98, 0))), some (vR (some (0, 0))), some (vR (some (22, 0))), some (vI (nI (4 * j)))] [] H Q := by
  obtain ⟨v, H1, H2, h1, h2, h3, h4⟩ := pr_rise (L, xs) h (by omega) (xs (4 * j + 1))
  refine w_pu rfl rfl ?_
  refine w_pu rfl rfl ?_
  refine w_pu rfl rfl ?_
  refine w_cst (v := 1) rfl rfl rfl ?_
  refine w_pu rfl rfl ?_
  refine w_sc (4 * j + 1) rfl (by show L < 2147483648; omega) (nI_add (4 * j) 1) (by show 4 * j + 1 < L; omega) ?_
  refine w_cgE (vI v) H1 rfl rfl (by decide) (Nat.le_of_ble_eq_true rfl) rfl (Nat.le_of_ble_eq_true rfl) (Nat.le_of_ble_eq_true rfl) ⟨LW_0 h, rfl⟩ rfl h1 ?_
  refine w_pu rfl rfl ?_
  refine w_pu rfl rfl ?_
  refine w_pu rfl rfl ?_
  refine w_cst (v := 1) rfl rfl rfl ?_
  refine w_pu rfl rfl ?_
  refine w_sc (4 * j + 1) rfl (by show L < 2147483648; omega) (nI_add (4 * j) 1) (by show 4 * j + 1 < L; omega) ?_
  refine w_cgE (vI v) H2 rfl rfl (by decide) (Nat.le_of_ble_eq_true rfl) rfl (Nat.le_of_ble_eq_true rfl) (Nat.le_of_ble_eq_true rfl) ⟨h3, rfl⟩ rfl h2 ?_
  refine w_eq rfl (fun _ => next _ h4) (fun e => absurd rfl e)
set_option maxRecDepth 20000 in
theorem lcs_line (L : Nat) (xs : Nat → Int32) (hL : L ≤ 2048) {H : Hp} {j : Nat} {Q : Option Vl → Hp → Prop} (h : LW H j) (hj : 4 * j + 4 ≤ L) (next : ∀ H', LW H' (j + 1) → wp (L, xs) 135 893 [some (vR (some (98, 0))), some (vR (some (0, 0))), some (vR (some (22, 0))), some (vI (nI (4 * j)))] [] H' Q) : wp (L, xs) 135 514 [some (vR (some (98, 0))), some (vR (some (0, 0))), some (vR (some (22, 0))), some (vI (nI (4 * j)))] [] H Q := by
  obtain ⟨v, H1, H2, h1, h2, h3, h4⟩ := pr_line (L, xs) h (by omega) (xs (4 * j + 1)) (xs (4 * j + 2))
  refine w_pu rfl rfl ?_
  refine w_pu rfl rfl ?_
  refine w_pu rfl rfl ?_
  refine w_cst (v := 1) rfl rfl rfl ?_
  refine w_pu rfl rfl ?_
  refine w_sc (4 * j + 1) rfl (by show L < 2147483648; omega) (nI_add (4 * j) 1) (by show 4 * j + 1 < L; omega) ?_
  refine w_pu rfl rfl ?_
  refine w_pu rfl rfl ?_
  refine w_cst (v := 2) rfl rfl rfl ?_
  refine w_pu rfl rfl ?_
  refine w_sc (4 * j + 2) rfl (by show L < 2147483648; omega) (nI_add (4 * j) 2) (by show 4 * j + 2 < L; omega) ?_
  refine w_cgE (vI v) H1 rfl rfl (by decide) (Nat.le_of_ble_eq_true rfl) rfl (Nat.le_of_ble_eq_true rfl) (Nat.le_of_ble_eq_true rfl) ⟨LW_0 h, rfl⟩ rfl h1 ?_
  refine w_pu rfl rfl ?_
  refine w_pu rfl rfl ?_
  refine w_pu rfl rfl ?_
  refine w_cst (v := 1) rfl rfl rfl ?_
  refine w_pu rfl rfl ?_
  refine w_sc (4 * j + 1) rfl (by show L < 2147483648; omega) (nI_add (4 * j) 1) (by show 4 * j + 1 < L; omega) ?_
  refine w_pu rfl rfl ?_
  refine w_pu rfl rfl ?_
  refine w_cst (v := 2) rfl rfl rfl ?_
  refine w_pu rfl rfl ?_
  refine w_sc (4 * j + 2) rfl (by show L < 2147483648; omega) (nI_add (4 * j) 2) (by show 4 * j + 2 < L; omega) ?_
  refine w_cgE (vI v) H2 rfl rfl (by decide) (Nat.le_of_ble_eq_true rfl) rfl (Nat.le_of_ble_eq_true rfl) (Nat.le_of_ble_eq_true rfl) ⟨h3, rfl⟩ rfl h2 ?_
  refine w_eq rfl (fun _ => next _ h4) (fun e => absurd rfl e)
set_option maxRecDepth 20000 in
theorem lcs_piece (L : Nat) (xs : Nat → Int32) (hL : L ≤ 2048) {H : Hp} {j : Nat} {Q : Option Vl → Hp → Prop} (h : LW H j) (hj : 4 * j + 4 ≤ L) (next : ∀ H', LW H' (j + 1) → wp (L, xs) 135 893 [some (vR (some (98, 0))), some (vR (some (0, 0))), some (vR (some (22, 0))), some (vI (nI (4 * j)))] [] H' Q) : wp (L, xs) 135 547 [some (vR (some (98, 0))), some (vR (some (0, 0))), some (vR (some (22, 0))), some (vI (nI (4 * j)))] [] H Q := by
  obtain ⟨v, H1, H2, h1, h2, h3, h4⟩ := pr_piece (L, xs) h (by omega) (xs (4 * j + 1)) (xs (4 * j + 2))
  refine w_pu rfl rfl ?_
  refine w_pu rfl rfl ?_
  refine w_pu rfl rfl ?_
  refine w_cst (v := 1) rfl rfl rfl ?_
  refine w_pu rfl rfl ?_
  refine w_sc (4 * j + 1) rfl (by show L < 2147483648; omega) (nI_add (4 * j) 1) (by show 4 * j + 1 < L; omega) ?_
  refine w_pu rfl rfl ?_
  refine w_pu rfl rfl ?_
  refine w_cst (v := 2) rfl rfl rfl ?_
  refine w_pu rfl rfl ?_
  refine w_sc (4 * j + 2) rfl (by show L < 2147483648; omega) (nI_add (4 * j) 2) (by show 4 * j + 2 < L; omega) ?_
  refine w_cgE (vI v) H1 rfl rfl (by decide) (Nat.le_of_ble_eq_true rfl) rfl (Nat.le_of_ble_eq_true rfl) (Nat.le_of_ble_eq_true rfl) ⟨LW_0 h, rfl⟩ rfl h1 ?_
  refine w_pu rfl rfl ?_
  refine w_pu rfl rfl ?_
  refine w_pu rfl rfl ?_
  refine w_cst (v := 1) rfl rfl rfl ?_
  refine w_pu rfl rfl ?_
  refine w_sc (4 * j + 1) rfl (by show L < 2147483648; omega) (nI_add (4 * j) 1) (by show 4 * j + 1 < L; omega) ?_
  refine w_pu rfl rfl ?_
  refine w_pu rfl rfl ?_
  refine w_cst (v := 2) rfl rfl rfl ?_
  refine w_pu rfl rfl ?_
  refine w_sc (4 * j + 2) rfl (by show L < 2147483648; omega) (nI_add (4 * j) 2) (by show 4 * j + 2 < L; omega) ?_
  refine w_cgE (vI v) H2 rfl rfl (by decide) (Nat.le_of_ble_eq_true rfl) rfl (Nat.le_of_ble_eq_true rfl) (Nat.le_of_ble_eq_true rfl) ⟨h3, rfl⟩ rfl h2 ?_
  refine w_eq rfl (fun _ => next _ h4) (fun e => absurd rfl e)
set_option maxRecDepth 20000 in
theorem lcs_lostOn (L : Nat) (xs : Nat → Int32) (hL : L ≤ 2048) {H : Hp} {j : Nat} {Q : Option Vl → Hp → Prop} (h : LW H j) (hj : 4 * j + 4 ≤ L) (next : ∀ H', LW H' (j + 1) → wp (L, xs) 135 893 [some (vR (some (98, 0))), some (vR (some (0, 0))), some (vR (some (22, 0))), some (vI (nI (4 * j)))] [] H' Q) : wp (L, xs) 135 580 [some (vR (some (98, 0))), some (vR (some (0, 0))), some (vR (some (22, 0))), some (vI (nI (4 * j)))] [] H Q := by
  obtain ⟨v, H1, H2, h1, h2, h3, h4⟩ := pr_lostOn (L, xs) h (by omega) (xs (4 * j + 1)) (xs (4 * j + 2))
  refine w_pu rfl rfl ?_
  refine w_pu rfl rfl ?_
  refine w_pu rfl rfl ?_
  refine w_cst (v := 1) rfl rfl rfl ?_
  refine w_pu rfl rfl ?_
  refine w_sc (4 * j + 1) rfl (by show L < 2147483648; omega) (nI_add (4 * j) 1) (by show 4 * j + 1 < L; omega) ?_
  refine w_pu rfl rfl ?_
  refine w_pu rfl rfl ?_
  refine w_cst (v := 2) rfl rfl rfl ?_
  refine w_pu rfl rfl ?_
  refine w_sc (4 * j + 2) rfl (by show L < 2147483648; omega) (nI_add (4 * j) 2) (by show 4 * j + 2 < L; omega) ?_
  refine w_cgE (vI v) H1 rfl rfl (by decide) (Nat.le_of_ble_eq_true rfl) rfl (Nat.le_of_ble_eq_true rfl) (Nat.le_of_ble_eq_true rfl) ⟨LW_0 h, rfl⟩ rfl h1 ?_
  refine w_pu rfl rfl ?_
  refine w_pu rfl rfl ?_
  refine w_pu rfl rfl ?_
  refine w_cst (v := 1) rfl rfl rfl ?_
  refine w_pu rfl rfl ?_
  refine w_sc (4 * j + 1) rfl (by show L < 2147483648; omega) (nI_add (4 * j) 1) (by show 4 * j + 1 < L; omega) ?_
  refine w_pu rfl rfl ?_
  refine w_pu rfl rfl ?_
  refine w_cst (v := 2) rfl rfl rfl ?_
  refine w_pu rfl rfl ?_
  refine w_sc (4 * j + 2) rfl (by show L < 2147483648; omega) (nI_add (4 * j) 2) (by show 4 * j + 2 < L; omega) ?_
  refine w_cgE (vI v) H2 rfl rfl (by decide) (Nat.le_of_ble_eq_true rfl) rfl (Nat.le_of_ble_eq_true rfl) (Nat.le_of_ble_eq_true rfl) ⟨h3, rfl⟩ rfl h2 ?_
  refine w_eq rfl (fun _ => next _ h4) (fun e => absurd rfl e)
set_option maxRecDepth 20000 in
theorem lcs_queued (L : Nat) (xs : Nat → Int32) (hL : L ≤ 2048) {H : Hp} {j : Nat} {Q : Option Vl → Hp → Prop} (h : LW H j) (hj : 4 * j + 4 ≤ L) (next : ∀ H', LW H' (j + 1) → wp (L, xs) 135 893 [some (vR (some (98, 0))), some (vR (some (0, 0))), some (vR (some (22, 0))), some (vI (nI (4 * j)))] [] H' Q) : wp (L, xs) 135 613 [some (vR (some (98, 0))), some (vR (some (0, 0))), some (vR (some (22, 0))), some (vI (nI (4 * j)))] [] H Q := by
  obtain ⟨v, H1, H2, h1, h2, h3, h4⟩ := pr_queued (L, xs) h (by omega) (xs (4 * j + 1)) (xs (4 * j + 2))
  refine w_pu rfl rfl ?_
  refine w_pu rfl rfl ?_
  refine w_pu rfl rfl ?_
  refine w_cst (v := 1) rfl rfl rfl ?_
  refine w_pu rfl rfl ?_
  refine w_sc (4 * j + 1) rfl (by show L < 2147483648; omega) (nI_add (4 * j) 1) (by show 4 * j + 1 < L; omega) ?_
  refine w_pu rfl rfl ?_
  refine w_pu rfl rfl ?_
  refine w_cst (v := 2) rfl rfl rfl ?_
  refine w_pu rfl rfl ?_
  refine w_sc (4 * j + 2) rfl (by show L < 2147483648; omega) (nI_add (4 * j) 2) (by show 4 * j + 2 < L; omega) ?_
  refine w_cgE (vI v) H1 rfl rfl (by decide) (Nat.le_of_ble_eq_true rfl) rfl (Nat.le_of_ble_eq_true rfl) (Nat.le_of_ble_eq_true rfl) ⟨LW_0 h, rfl⟩ rfl h1 ?_
  refine w_pu rfl rfl ?_
  refine w_pu rfl rfl ?_
  refine w_pu rfl rfl ?_
  refine w_cst (v := 1) rfl rfl rfl ?_
  refine w_pu rfl rfl ?_
  refine w_sc (4 * j + 1) rfl (by show L < 2147483648; omega) (nI_add (4 * j) 1) (by show 4 * j + 1 < L; omega) ?_
  refine w_pu rfl rfl ?_
  refine w_pu rfl rfl ?_
  refine w_cst (v := 2) rfl rfl rfl ?_
  refine w_pu rfl rfl ?_
  refine w_sc (4 * j + 2) rfl (by show L < 2147483648; omega) (nI_add (4 * j) 2) (by show 4 * j + 2 < L; omega) ?_
  refine w_cgE (vI v) H2 rfl rfl (by decide) (Nat.le_of_ble_eq_true rfl) rfl (Nat.le_of_ble_eq_true rfl) (Nat.le_of_ble_eq_true rfl) ⟨h3, rfl⟩ rfl h2 ?_
  refine w_eq rfl (fun _ => next _ h4) (fun e => absurd rfl e)
set_option maxRecDepth 20000 in
theorem lcs_under (L : Nat) (xs : Nat → Int32) (hL : L ≤ 2048) {H : Hp} {j : Nat} {Q : Option Vl → Hp → Prop} (h : LW H j) (hj : 4 * j + 4 ≤ L) (next : ∀ H', LW H' (j + 1) → wp (L, xs) 135 893 [some (vR (some (98, 0))), some (vR (some (0, 0))), some (vR (some (22, 0))), some (vI (nI (4 * j)))] [] H' Q) : wp (L, xs) 135 646 [some (vR (some (98, 0))), some (vR (some (0, 0))), some (vR (some (22, 0))), some (vI (nI (4 * j)))] [] H Q := by
  obtain ⟨v, H1, H2, h1, h2, h3, h4⟩ := pr_under (L, xs) h (by omega) (xs (4 * j + 1)) (xs (4 * j + 2)) (xs (4 * j + 3))
  refine w_pu rfl rfl ?_
  refine w_pu rfl rfl ?_
  refine w_pu rfl rfl ?_
  refine w_cst (v := 1) rfl rfl rfl ?_
  refine w_pu rfl rfl ?_
  refine w_sc (4 * j + 1) rfl (by show L < 2147483648; omega) (nI_add (4 * j) 1) (by show 4 * j + 1 < L; omega) ?_
  refine w_pu rfl rfl ?_
  refine w_pu rfl rfl ?_
  refine w_cst (v := 2) rfl rfl rfl ?_
  refine w_pu rfl rfl ?_
  refine w_sc (4 * j + 2) rfl (by show L < 2147483648; omega) (nI_add (4 * j) 2) (by show 4 * j + 2 < L; omega) ?_
  refine w_pu rfl rfl ?_
  refine w_pu rfl rfl ?_
  refine w_cst (v := 3) rfl rfl rfl ?_
  refine w_pu rfl rfl ?_
  refine w_sc (4 * j + 3) rfl (by show L < 2147483648; omega) (nI_add (4 * j) 3) (by show 4 * j + 3 < L; omega) ?_
  refine w_cgE (vI v) H1 rfl rfl (by decide) (Nat.le_of_ble_eq_true rfl) rfl (Nat.le_of_ble_eq_true rfl) (Nat.le_of_ble_eq_true rfl) ⟨LW_0 h, rfl⟩ rfl h1 ?_
  refine w_pu rfl rfl ?_
  refine w_pu rfl rfl ?_
  refine w_pu rfl rfl ?_
  refine w_cst (v := 1) rfl rfl rfl ?_
  refine w_pu rfl rfl ?_
  refine w_sc (4 * j + 1) rfl (by show L < 2147483648; omega) (nI_add (4 * j) 1) (by show 4 * j + 1 < L; omega) ?_
  refine w_pu rfl rfl ?_
  refine w_pu rfl rfl ?_
  refine w_cst (v := 2) rfl rfl rfl ?_
  refine w_pu rfl rfl ?_
  refine w_sc (4 * j + 2) rfl (by show L < 2147483648; omega) (nI_add (4 * j) 2) (by show 4 * j + 2 < L; omega) ?_
  refine w_pu rfl rfl ?_
  refine w_pu rfl rfl ?_
  refine w_cst (v := 3) rfl rfl rfl ?_
  refine w_pu rfl rfl ?_
  refine w_sc (4 * j + 3) rfl (by show L < 2147483648; omega) (nI_add (4 * j) 3) (by show 4 * j + 3 < L; omega) ?_
  refine w_cgE (vI v) H2 rfl rfl (by decide) (Nat.le_of_ble_eq_true rfl) rfl (Nat.le_of_ble_eq_true rfl) (Nat.le_of_ble_eq_true rfl) ⟨h3, rfl⟩ rfl h2 ?_
  refine w_eq rfl (fun _ => next _ h4) (fun e => absurd rfl e)
set_option maxRecDepth 20000 in
theorem lcs_waits (L : Nat) (xs : Nat → Int32) (hL : L ≤ 2048) {H : Hp} {j : Nat} {Q : Option Vl → Hp → Prop} (h : LW H j) (hj : 4 * j + 4 ≤ L) (next : ∀ H', LW H' (j + 1) → wp (L, xs) 135 893 [some (vR (some (98, 0))), some (vR (some (0, 0))), some (vR (some (22, 0))), some (vI (nI (4 * j)))] [] H' Q) : wp (L, xs) 135 689 [some (vR (some (98, 0))), some (vR (some (0, 0))), some (vR (some (22, 0))), some (vI (nI (4 * j)))] [] H Q := by
  obtain ⟨v, H1, H2, h1, h2, h3, h4⟩ := pr_waits (L, xs) h (by omega) (xs (4 * j + 1))
  refine w_pu rfl rfl ?_
  refine w_pu rfl rfl ?_
  refine w_pu rfl rfl ?_
  refine w_cst (v := 1) rfl rfl rfl ?_
  refine w_pu rfl rfl ?_
  refine w_sc (4 * j + 1) rfl (by show L < 2147483648; omega) (nI_add (4 * j) 1) (by show 4 * j + 1 < L; omega) ?_
  refine w_cgE (vI v) H1 rfl rfl (by decide) (Nat.le_of_ble_eq_true rfl) rfl (Nat.le_of_ble_eq_true rfl) (Nat.le_of_ble_eq_true rfl) ⟨LW_0 h, rfl⟩ rfl h1 ?_
  refine w_pu rfl rfl ?_
  refine w_pu rfl rfl ?_
  refine w_pu rfl rfl ?_
  refine w_cst (v := 1) rfl rfl rfl ?_
  refine w_pu rfl rfl ?_
  refine w_sc (4 * j + 1) rfl (by show L < 2147483648; omega) (nI_add (4 * j) 1) (by show 4 * j + 1 < L; omega) ?_
  refine w_cgE (vI v) H2 rfl rfl (by decide) (Nat.le_of_ble_eq_true rfl) rfl (Nat.le_of_ble_eq_true rfl) (Nat.le_of_ble_eq_true rfl) ⟨h3, rfl⟩ rfl h2 ?_
  refine w_eq rfl (fun _ => next _ h4) (fun e => absurd rfl e)
set_option maxRecDepth 20000 in
theorem lcs_got (L : Nat) (xs : Nat → Int32) (hL : L ≤ 2048) {H : Hp} {j : Nat} {Q : Option Vl → Hp → Prop} (h : LW H j) (hj : 4 * j + 4 ≤ L) (next : ∀ H', LW H' (j + 1) → wp (L, xs) 135 893 [some (vR (some (98, 0))), some (vR (some (0, 0))), some (vR (some (22, 0))), some (vI (nI (4 * j)))] [] H' Q) : wp (L, xs) 135 712 [some (vR (some (98, 0))), some (vR (some (0, 0))), some (vR (some (22, 0))), some (vI (nI (4 * j)))] [] H Q := by
  obtain ⟨v, H1, H2, h1, h2, h3, h4⟩ := pr_got (L, xs) h (by omega) (xs (4 * j + 1)) (xs (4 * j + 2))
  refine w_pu rfl rfl ?_
  refine w_pu rfl rfl ?_
  refine w_pu rfl rfl ?_
  refine w_cst (v := 1) rfl rfl rfl ?_
  refine w_pu rfl rfl ?_
  refine w_sc (4 * j + 1) rfl (by show L < 2147483648; omega) (nI_add (4 * j) 1) (by show 4 * j + 1 < L; omega) ?_
  refine w_pu rfl rfl ?_
  refine w_pu rfl rfl ?_
  refine w_cst (v := 2) rfl rfl rfl ?_
  refine w_pu rfl rfl ?_
  refine w_sc (4 * j + 2) rfl (by show L < 2147483648; omega) (nI_add (4 * j) 2) (by show 4 * j + 2 < L; omega) ?_
  refine w_cgE (vI v) H1 rfl rfl (by decide) (Nat.le_of_ble_eq_true rfl) rfl (Nat.le_of_ble_eq_true rfl) (Nat.le_of_ble_eq_true rfl) ⟨LW_0 h, rfl⟩ rfl h1 ?_
  refine w_pu rfl rfl ?_
  refine w_pu rfl rfl ?_
  refine w_pu rfl rfl ?_
  refine w_cst (v := 1) rfl rfl rfl ?_
  refine w_pu rfl rfl ?_
  refine w_sc (4 * j + 1) rfl (by show L < 2147483648; omega) (nI_add (4 * j) 1) (by show 4 * j + 1 < L; omega) ?_
  refine w_pu rfl rfl ?_
  refine w_pu rfl rfl ?_
  refine w_cst (v := 2) rfl rfl rfl ?_
  refine w_pu rfl rfl ?_
  refine w_sc (4 * j + 2) rfl (by show L < 2147483648; omega) (nI_add (4 * j) 2) (by show 4 * j + 2 < L; omega) ?_
  refine w_cgE (vI v) H2 rfl rfl (by decide) (Nat.le_of_ble_eq_true rfl) rfl (Nat.le_of_ble_eq_true rfl) (Nat.le_of_ble_eq_true rfl) ⟨h3, rfl⟩ rfl h2 ?_
  refine w_eq rfl (fun _ => next _ h4) (fun e => absurd rfl e)
set_option maxRecDepth 20000 in
theorem lcs_frameOf (L : Nat) (xs : Nat → Int32) (hL : L ≤ 2048) {H : Hp} {j : Nat} {Q : Option Vl → Hp → Prop} (h : LW H j) (hj : 4 * j + 4 ≤ L) (next : ∀ H', LW H' (j + 1) → wp (L, xs) 135 893 [some (vR (some (98, 0))), some (vR (some (0, 0))), some (vR (some (22, 0))), some (vI (nI (4 * j)))] [] H' Q) : wp (L, xs) 135 745 [some (vR (some (98, 0))), some (vR (some (0, 0))), some (vR (some (22, 0))), some (vI (nI (4 * j)))] [] H Q := by
  obtain ⟨v, H1, H2, h1, h2, h3, h4⟩ := pr_frameOf (L, xs) h (by omega) (xs (4 * j + 1)) (xs (4 * j + 2))
  refine w_pu rfl rfl ?_
  refine w_pu rfl rfl ?_
  refine w_pu rfl rfl ?_
  refine w_cst (v := 1) rfl rfl rfl ?_
  refine w_pu rfl rfl ?_
  refine w_sc (4 * j + 1) rfl (by show L < 2147483648; omega) (nI_add (4 * j) 1) (by show 4 * j + 1 < L; omega) ?_
  refine w_pu rfl rfl ?_
  refine w_pu rfl rfl ?_
  refine w_cst (v := 2) rfl rfl rfl ?_
  refine w_pu rfl rfl ?_
  refine w_sc (4 * j + 2) rfl (by show L < 2147483648; omega) (nI_add (4 * j) 2) (by show 4 * j + 2 < L; omega) ?_
  refine w_cgE (vI v) H1 rfl rfl (by decide) (Nat.le_of_ble_eq_true rfl) rfl (Nat.le_of_ble_eq_true rfl) (Nat.le_of_ble_eq_true rfl) ⟨LW_0 h, rfl⟩ rfl h1 ?_
  refine w_pu rfl rfl ?_
  refine w_pu rfl rfl ?_
  refine w_pu rfl rfl ?_
  refine w_cst (v := 1) rfl rfl rfl ?_
  refine w_pu rfl rfl ?_
  refine w_sc (4 * j + 1) rfl (by show L < 2147483648; omega) (nI_add (4 * j) 1) (by show 4 * j + 1 < L; omega) ?_
  refine w_pu rfl rfl ?_
  refine w_pu rfl rfl ?_
  refine w_cst (v := 2) rfl rfl rfl ?_
  refine w_pu rfl rfl ?_
  refine w_sc (4 * j + 2) rfl (by show L < 2147483648; omega) (nI_add (4 * j) 2) (by show 4 * j + 2 < L; omega) ?_
  refine w_cgE (vI v) H2 rfl rfl (by decide) (Nat.le_of_ble_eq_true rfl) rfl (Nat.le_of_ble_eq_true rfl) (Nat.le_of_ble_eq_true rfl) ⟨h3, rfl⟩ rfl h2 ?_
  refine w_eq rfl (fun _ => next _ h4) (fun e => absurd rfl e)
set_option maxRecDepth 20000 in
theorem lcs_credit (L : Nat) (xs : Nat → Int32) (hL : L ≤ 2048) {H : Hp} {j : Nat} {Q : Option Vl → Hp → Prop} (h : LW H j) (hj : 4 * j + 4 ≤ L) (next : ∀ H', LW H' (j + 1) → wp (L, xs) 135 893 [some (vR (some (98, 0))), some (vR (some (0, 0))), some (vR (some (22, 0))), some (vI (nI (4 * j)))] [] H' Q) : wp (L, xs) 135 778 [some (vR (some (98, 0))), some (vR (some (0, 0))), some (vR (some (22, 0))), some (vI (nI (4 * j)))] [] H Q := by
  obtain ⟨v, H1, H2, h1, h2, h3, h4⟩ := pr_credit (L, xs) h (by omega) 
  refine w_pu rfl rfl ?_
  refine w_cgE (vI v) H1 rfl rfl (by decide) (Nat.le_of_ble_eq_true rfl) rfl (Nat.le_of_ble_eq_true rfl) (Nat.le_of_ble_eq_true rfl) ⟨LW_0 h, rfl⟩ rfl h1 ?_
  refine w_pu rfl rfl ?_
  refine w_cgE (vI v) H2 rfl rfl (by decide) (Nat.le_of_ble_eq_true rfl) rfl (Nat.le_of_ble_eq_true rfl) (Nat.le_of_ble_eq_true rfl) ⟨h3, rfl⟩ rfl h2 ?_
  refine w_eq rfl (fun _ => next _ h4) (fun e => absurd rfl e)
set_option maxRecDepth 20000 in
theorem lcs_skew (L : Nat) (xs : Nat → Int32) (hL : L ≤ 2048) {H : Hp} {j : Nat} {Q : Option Vl → Hp → Prop} (h : LW H j) (hj : 4 * j + 4 ≤ L) (next : ∀ H', LW H' (j + 1) → wp (L, xs) 135 893 [some (vR (some (98, 0))), some (vR (some (0, 0))), some (vR (some (22, 0))), some (vI (nI (4 * j)))] [] H' Q) : wp (L, xs) 135 791 [some (vR (some (98, 0))), some (vR (some (0, 0))), some (vR (some (22, 0))), some (vI (nI (4 * j)))] [] H Q := by
  obtain ⟨v, H1, H2, h1, h2, h3, h4⟩ := pr_skew (L, xs) h (by omega) 
  refine w_pu rfl rfl ?_
  refine w_cgE (vI v) H1 rfl rfl (by decide) (Nat.le_of_ble_eq_true rfl) rfl (Nat.le_of_ble_eq_true rfl) (Nat.le_of_ble_eq_true rfl) ⟨LW_0 h, rfl⟩ rfl h1 ?_
  refine w_pu rfl rfl ?_
  refine w_cgE (vI v) H2 rfl rfl (by decide) (Nat.le_of_ble_eq_true rfl) rfl (Nat.le_of_ble_eq_true rfl) (Nat.le_of_ble_eq_true rfl) ⟨h3, rfl⟩ rfl h2 ?_
  refine w_eq rfl (fun _ => next _ h4) (fun e => absurd rfl e)
set_option maxRecDepth 20000 in
theorem lcs_witness (L : Nat) (xs : Nat → Int32) (hL : L ≤ 2048) {H : Hp} {j : Nat} {Q : Option Vl → Hp → Prop} (h : LW H j) (hj : 4 * j + 4 ≤ L) (next : ∀ H', LW H' (j + 1) → wp (L, xs) 135 893 [some (vR (some (98, 0))), some (vR (some (0, 0))), some (vR (some (22, 0))), some (vI (nI (4 * j)))] [] H' Q) : wp (L, xs) 135 804 [some (vR (some (98, 0))), some (vR (some (0, 0))), some (vR (some (22, 0))), some (vI (nI (4 * j)))] [] H Q := by
  obtain ⟨v, H1, H2, h1, h2, h3, h4⟩ := pr_witness (L, xs) h (by omega) (xs (4 * j + 1)) (xs (4 * j + 2))
  refine w_pu rfl rfl ?_
  refine w_pu rfl rfl ?_
  refine w_pu rfl rfl ?_
  refine w_cst (v := 1) rfl rfl rfl ?_
  refine w_pu rfl rfl ?_
  refine w_sc (4 * j + 1) rfl (by show L < 2147483648; omega) (nI_add (4 * j) 1) (by show 4 * j + 1 < L; omega) ?_
  refine w_pu rfl rfl ?_
  refine w_pu rfl rfl ?_
  refine w_cst (v := 2) rfl rfl rfl ?_
  refine w_pu rfl rfl ?_
  refine w_sc (4 * j + 2) rfl (by show L < 2147483648; omega) (nI_add (4 * j) 2) (by show 4 * j + 2 < L; omega) ?_
  refine w_cgE (vI v) H1 rfl rfl (by decide) (Nat.le_of_ble_eq_true rfl) rfl (Nat.le_of_ble_eq_true rfl) (Nat.le_of_ble_eq_true rfl) ⟨LW_0 h, rfl⟩ rfl h1 ?_
  refine w_pu rfl rfl ?_
  refine w_pu rfl rfl ?_
  refine w_pu rfl rfl ?_
  refine w_cst (v := 1) rfl rfl rfl ?_
  refine w_pu rfl rfl ?_
  refine w_sc (4 * j + 1) rfl (by show L < 2147483648; omega) (nI_add (4 * j) 1) (by show 4 * j + 1 < L; omega) ?_
  refine w_pu rfl rfl ?_
  refine w_pu rfl rfl ?_
  refine w_cst (v := 2) rfl rfl rfl ?_
  refine w_pu rfl rfl ?_
  refine w_sc (4 * j + 2) rfl (by show L < 2147483648; omega) (nI_add (4 * j) 2) (by show 4 * j + 2 < L; omega) ?_
  refine w_cgE (vI v) H2 rfl rfl (by decide) (Nat.le_of_ble_eq_true rfl) rfl (Nat.le_of_ble_eq_true rfl) (Nat.le_of_ble_eq_true rfl) ⟨h3, rfl⟩ rfl h2 ?_
  refine w_eq rfl (fun _ => next _ h4) (fun e => absurd rfl e)
set_option maxRecDepth 20000 in
theorem lcs_check (L : Nat) (xs : Nat → Int32) (hL : L ≤ 2048) {H : Hp} {j : Nat} {Q : Option Vl → Hp → Prop} (h : LW H j) (hj : 4 * j + 4 ≤ L) (next : ∀ H', LW H' (j + 1) → wp (L, xs) 135 893 [some (vR (some (98, 0))), some (vR (some (0, 0))), some (vR (some (22, 0))), some (vI (nI (4 * j)))] [] H' Q) : wp (L, xs) 135 837 [some (vR (some (98, 0))), some (vR (some (0, 0))), some (vR (some (22, 0))), some (vI (nI (4 * j)))] [] H Q := by
  obtain ⟨v, H1, H2, h1, h2, h3, h4⟩ := pr_check (L, xs) h (by omega) (xs (4 * j + 1)) (xs (4 * j + 2))
  refine w_pu rfl rfl ?_
  refine w_pu rfl rfl ?_
  refine w_pu rfl rfl ?_
  refine w_cst (v := 1) rfl rfl rfl ?_
  refine w_pu rfl rfl ?_
  refine w_sc (4 * j + 1) rfl (by show L < 2147483648; omega) (nI_add (4 * j) 1) (by show 4 * j + 1 < L; omega) ?_
  refine w_pu rfl rfl ?_
  refine w_pu rfl rfl ?_
  refine w_cst (v := 2) rfl rfl rfl ?_
  refine w_pu rfl rfl ?_
  refine w_sc (4 * j + 2) rfl (by show L < 2147483648; omega) (nI_add (4 * j) 2) (by show 4 * j + 2 < L; omega) ?_
  refine w_cgE (vI v) H1 rfl rfl (by decide) (Nat.le_of_ble_eq_true rfl) rfl (Nat.le_of_ble_eq_true rfl) (Nat.le_of_ble_eq_true rfl) ⟨LW_0 h, rfl⟩ rfl h1 ?_
  refine w_pu rfl rfl ?_
  refine w_pu rfl rfl ?_
  refine w_pu rfl rfl ?_
  refine w_cst (v := 1) rfl rfl rfl ?_
  refine w_pu rfl rfl ?_
  refine w_sc (4 * j + 1) rfl (by show L < 2147483648; omega) (nI_add (4 * j) 1) (by show 4 * j + 1 < L; omega) ?_
  refine w_pu rfl rfl ?_
  refine w_pu rfl rfl ?_
  refine w_cst (v := 2) rfl rfl rfl ?_
  refine w_pu rfl rfl ?_
  refine w_sc (4 * j + 2) rfl (by show L < 2147483648; omega) (nI_add (4 * j) 2) (by show 4 * j + 2 < L; omega) ?_
  refine w_cgE (vI v) H2 rfl rfl (by decide) (Nat.le_of_ble_eq_true rfl) rfl (Nat.le_of_ble_eq_true rfl) (Nat.le_of_ble_eq_true rfl) ⟨h3, rfl⟩ rfl h2 ?_
  refine w_eq rfl (fun _ => next _ h4) (fun e => absurd rfl e)
set_option maxRecDepth 20000 in
theorem lcs_status (L : Nat) (xs : Nat → Int32) (hL : L ≤ 2048) {H : Hp} {j : Nat} {Q : Option Vl → Hp → Prop} (h : LW H j) (hj : 4 * j + 4 ≤ L) (next : ∀ H', LW H' (j + 1) → wp (L, xs) 135 893 [some (vR (some (98, 0))), some (vR (some (0, 0))), some (vR (some (22, 0))), some (vI (nI (4 * j)))] [] H' Q) : wp (L, xs) 135 870 [some (vR (some (98, 0))), some (vR (some (0, 0))), some (vR (some (22, 0))), some (vI (nI (4 * j)))] [] H Q := by
  obtain ⟨v, H1, H2, h1, h2, h3, h4⟩ := pr_status (L, xs) h (by omega) (xs (4 * j + 1))
  refine w_pu rfl rfl ?_
  refine w_pu rfl rfl ?_
  refine w_pu rfl rfl ?_
  refine w_cst (v := 1) rfl rfl rfl ?_
  refine w_pu rfl rfl ?_
  refine w_sc (4 * j + 1) rfl (by show L < 2147483648; omega) (nI_add (4 * j) 1) (by show 4 * j + 1 < L; omega) ?_
  refine w_cgE (vI v) H1 rfl rfl (by decide) (Nat.le_of_ble_eq_true rfl) rfl (Nat.le_of_ble_eq_true rfl) (Nat.le_of_ble_eq_true rfl) ⟨LW_0 h, rfl⟩ rfl h1 ?_
  refine w_pu rfl rfl ?_
  refine w_pu rfl rfl ?_
  refine w_pu rfl rfl ?_
  refine w_cst (v := 1) rfl rfl rfl ?_
  refine w_pu rfl rfl ?_
  refine w_sc (4 * j + 1) rfl (by show L < 2147483648; omega) (nI_add (4 * j) 1) (by show 4 * j + 1 < L; omega) ?_
  refine w_cgE (vI v) H2 rfl rfl (by decide) (Nat.le_of_ble_eq_true rfl) rfl (Nat.le_of_ble_eq_true rfl) (Nat.le_of_ble_eq_true rfl) ⟨h3, rfl⟩ rfl h2 ?_
  refine w_eq rfl (fun _ => next _ h4) (fun e => absurd rfl e)
set_option maxRecDepth 20000 in
theorem law_case (L : Nat) (xs : Nat → Int32) (hL : L ≤ 2048) {H : Hp} {j : Nat} {Q : Option Vl → Hp → Prop} (h : LW H j) (hj : 4 * j + 4 ≤ L) (next : ∀ H', LW H' (j + 1) → wp (L, xs) 135 893 [some (vR (some (98, 0))), some (vR (some (0, 0))), some (vR (some (22, 0))), some (vI (nI (4 * j)))] [] H' Q) (k : Nat) (hk : k < 32) : wp (L, xs) 135 32 [some (vR (some (98, 0))), some (vR (some (0, 0))), some (vR (some (22, 0))), some (vI (nI (4 * j)))] [vI (nI k)] H Q := by
  match k, hk with
  | 0, _ => exact w_sw (t := 148) rfl rfl (lcs_open L xs hL h hj next)
  | 1, _ => exact w_sw (t := 191) rfl rfl (lcs_lease L xs hL h hj next)
  | 2, _ => exact w_sw (t := 234) rfl rfl (lcs_type L xs hL h hj next)
  | 3, _ => exact w_sw (t := 297) rfl rfl (lcs_grow L xs hL h hj next)
  | 4, _ => exact w_sw (t := 320) rfl rfl (lcs_frame L xs hL h hj next)
  | 5, _ => exact w_sw (t := 333) rfl rfl (lcs_cut L xs hL h hj next)
  | 6, _ => exact w_sw (t := 356) rfl rfl (lcs_room L xs hL h hj next)
  | 7, _ => exact w_sw (t := 379) rfl rfl (lcs_tick L xs hL h hj next)
  | 8, _ => exact w_sw (t := 402) rfl rfl (lcs_lose L xs hL h hj next)
  | 9, _ => exact w_sw (t := 425) rfl rfl (lcs_bend L xs hL h hj next)
  | 10, _ => exact w_sw (t := 468) rfl rfl (lcs_fall L xs hL h hj next)
  | 11, _ => exact w_sw (t := 491) rfl rfl (lcs_rise L xs hL h hj next)
  | 12, _ => exact w_sw (t := 514) rfl rfl (lcs_line L xs hL h hj next)
  | 13, _ => exact w_sw (t := 547) rfl rfl (lcs_piece L xs hL h hj next)
  | 14, _ => exact w_sw (t := 580) rfl rfl (lcs_lostOn L xs hL h hj next)
  | 15, _ => exact w_sw (t := 613) rfl rfl (lcs_queued L xs hL h hj next)
  | 16, _ => exact w_sw (t := 646) rfl rfl (lcs_under L xs hL h hj next)
  | 17, _ => exact w_sw (t := 689) rfl rfl (lcs_waits L xs hL h hj next)
  | 18, _ => exact w_sw (t := 712) rfl rfl (lcs_got L xs hL h hj next)
  | 19, _ => exact w_sw (t := 745) rfl rfl (lcs_frameOf L xs hL h hj next)
  | 20, _ => exact w_sw (t := 778) rfl rfl (lcs_credit L xs hL h hj next)
  | 21, _ => exact w_sw (t := 791) rfl rfl (lcs_skew L xs hL h hj next)
  | 22, _ => exact w_sw (t := 804) rfl rfl (lcs_witness L xs hL h hj next)
  | 23, _ => exact w_sw (t := 837) rfl rfl (lcs_check L xs hL h hj next)
  | 24, _ => exact w_sw (t := 870) rfl rfl (lcs_status L xs hL h hj next)
  | 25, _ => exact w_sw (t := 893) rfl rfl (next H (LW_n h))
  | 26, _ => exact w_sw (t := 893) rfl rfl (next H (LW_n h))
  | 27, _ => exact w_sw (t := 893) rfl rfl (next H (LW_n h))
  | 28, _ => exact w_sw (t := 893) rfl rfl (next H (LW_n h))
  | 29, _ => exact w_sw (t := 893) rfl rfl (next H (LW_n h))
  | 30, _ => exact w_sw (t := 893) rfl rfl (next H (LW_n h))
  | 31, _ => exact w_sw (t := 893) rfl rfl (next H (LW_n h))
  | k + 32, q => exact absurd q (by omega)
set_option maxRecDepth 20000 in
theorem law_loop (L : Nat) (xs : Nat → Int32) (hL : L ≤ 2048) : ∀ d j (H : Hp), j + d = L / 4 → LW H j → wp (L, xs) 135 18 [some (vR (some (98, 0))), some (vR (some (0, 0))), some (vR (some (22, 0))), some (vI (nI (4 * j)))] [] H (fun r h' => r = some (vI 1) ∧ hpN h' ≤ 190474 ∧ hpS h' ≤ 8530828) := by
  intro d
  induction d with
  | zero =>
    intro j H hd h
    refine w_pu rfl rfl ?_
    refine w_pu rfl rfl ?_
    refine w_op rfl rfl rfl ?_
    refine w_cst (v := 4) rfl rfl rfl ?_
    refine w_pu rfl rfl ?_
    refine w_gt rfl (fun c0 => ?_) (fun c0 => ?_)
    · refine w_cst (v := 1) rfl rfl rfl ?_
      refine w_rt rfl rfl (Or.inr rfl) ?_
      exact ⟨rfl, LW_r h⟩
    · refine absurd ?_ c0
      show nI L - 4 < nI (4 * j)
      by_cases w : 4 ≤ L
      · rw [show nI L - 4 = nI (L - 4) from nI_sub (b := 4) w]
        exact nI_lt (by omega) (by omega)
      · have : L = 0 ∨ L = 1 ∨ L = 2 ∨ L = 3 := by omega
        rw [show j = 0 by omega]
        rcases this with rfl | rfl | rfl | rfl <;> decide
  | succ d ih =>
    intro j H hd h
    have hj : 4 * j + 4 ≤ L := by omega
    refine w_pu rfl rfl ?_
    refine w_pu rfl rfl ?_
    refine w_op rfl rfl rfl ?_
    refine w_cst (v := 4) rfl rfl rfl ?_
    refine w_pu rfl rfl ?_
    refine w_gt rfl (fun c0 => ?_) (fun c0 => ?_)
    · refine absurd c0 ?_
      show ¬ nI L - 4 < nI (4 * j)
      rw [show nI L - 4 = nI (L - 4) from nI_sub (b := 4) (by omega)]
      exact nI_nlt (by omega) (by omega)
    · refine w_pu rfl rfl ?_
      refine w_pu rfl rfl ?_
      refine w_sc (4 * j) rfl (by show L < 2147483648; omega) rfl (by show 4 * j < L; omega) ?_
      refine w_cst (v := 31) rfl rfl rfl ?_
      refine w_pu rfl rfl ?_
      obtain ⟨k, k1, k2⟩ := pk_andE (xs (4 * j)) (m := 31) 5 rfl
      refine w_top (nI k) k2 ?_
      refine law_case L xs hL h hj (fun H' h' => ?_) k k1
      refine w_inc (v := 4) rfl rfl rfl rfl ?_
      refine w_go rfl ?_
      have := ih (j + 1) H' (by omega) h'
      rw [show 4 * (j + 1) = 4 * j + 4 by omega, ← nI_add] at this
      exact this
