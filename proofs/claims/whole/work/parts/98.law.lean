/-! The law, over the small machine. -/
theorem LW_I : LW hI 0 := by
  have hs : ∀ j k, gS hI j k = if j = 0 ∧ k = 43 then 250 else if j = 0 ∧ k = 44 then 8000 else 0 := hI_s
  have hc : ∀ t i k, t < 22 → gX hI t i k = if t = 0 ∧ i = 0 ∧ k = 13 then 250 else if t = 0 ∧ i = 0 ∧ k = 14 then 8000 else 0 := hI_c
  have hj : ∀ j k, ¬ j = 0 → gS hI j k = 0 := fun j k w => by
    rw [hs, if_neg (fun z => w z.1), if_neg (fun z => w z.1)]
  have h0 : ∀ k, ¬ k = 43 → ¬ k = 44 → gS hI 0 k = 0 := fun k w w2 => by
    rw [hs, if_neg (fun z => w z.2), if_neg (fun z => w2 z.2)]
  have ht : ∀ t i k, t < 22 → ¬ t = 0 → gX hI t i k = 0 := fun t i k w w2 => by
    rw [hc t i k w, if_neg (fun z => w2 z.1), if_neg (fun z => w2 z.1)]
  have c0 : ∀ k, ¬ k = 13 → ¬ k = 14 → gX hI 0 0 k = 0 := fun k w w2 => by
    rw [hc 0 0 k (by decide), if_neg (fun z => w z.2.2), if_neg (fun z => w2 z.2.2)]
  have c13 : gX hI 0 0 13 = 250 := by rw [hc 0 0 13 (by decide), if_pos ⟨rfl, rfl, rfl⟩]
  have c14 : gX hI 0 0 14 = 8000 := by rw [hc 0 0 14 (by decide), if_neg (fun z => absurd z.2.2 (by decide)), if_pos ⟨rfl, rfl, rfl⟩]
  have s43 : gS hI 0 43 = 250 := by rw [hs, if_pos ⟨rfl, rfl⟩]
  have s44 : gS hI 0 44 = 8000 := by rw [hs, if_neg (fun z => absurd z.2 (by decide)), if_pos ⟨rfl, rfl⟩]
  refine ⟨gX hI, 0, 0, 0, fun _ => 0, fun _ => 0, pX_gX hI, hI_W, ⟨0, 0, 0, ⟨⟨⟨by decide, by decide, rfl, rfl, rfl, h0 40 (by decide) (by decide)⟩, fun f hf => absurd hf (by omega), fun p hp => absurd hp (by omega)⟩, fun p hp => absurd hp (by omega), fun j hj4 => ht 4 0 j (by decide) (by decide), ⟨Nat.le_refl _, fun p hp => absurd hp (by omega), fun p _ => ⟨hj 27 p (by decide), fun k _ => hj 30 _ (by decide)⟩⟩, fun f hf => absurd hf (by omega), ⟨Nat.le_refl _, fun p hp => absurd hp (Nat.not_lt_zero p)⟩, ?_, ?_, ?_⟩, fun l hl => absurd hl (by omega), fun l _ _ j hj7 k => ?_⟩, fun f hf => absurd hf (by omega), by rw [hI_N]; decide, hI_S⟩
  · exact ⟨⟨c0 1 (by decide) (by decide), h0 0 (by decide) (by decide), by decide⟩, ⟨c0 3 (by decide) (by decide), h0 32 (by decide) (by decide)⟩, ⟨c0 4 (by decide) (by decide), h0 33 (by decide) (by decide)⟩, c0 5 (by decide) (by decide), c0 6 (by decide) (by decide), ⟨c0 8 (by decide) (by decide), h0 23 (by decide) (by decide)⟩, c0 9 (by decide) (by decide), ⟨c0 16 (by decide) (by decide), h0 45 (by decide) (by decide), by decide⟩⟩
  · show gX hI 0 0 14 - gX hI 0 0 15 = gS hI 0 44
    rw [c14, c0 15 (by decide) (by decide), s44]
    decide
  · refine ⟨by rw [c0 12 (by decide) (by decide), h0 42 (by decide) (by decide)], ⟨0, h0 42 (by decide) (by decide), by decide⟩, by rw [c13, s43], ⟨250, s43, by decide, by decide⟩, by rw [c14, s44], fun k _ => ?_, fun k _ => ?_⟩
    · rw [ht 5 0 k (by decide) (by decide), hj 37 k (by decide)]
      exact ⟨rfl, by decide⟩
    · rw [ht 6 0 k (by decide) (by decide), hj 38 k (by decide)]
  · unfold Sl
    split
    · exact hj j _ (by omega)
    · rfl
theorem law_ok (L : Nat) (xs : Nat → Int32) (hL : L ≤ 2048) : ∃ h' : Hp, Ev (L, xs) 135 0 (ent 4 [vR (some (98, 0))]) [] h0 (some (vI 1)) h' ∧ hpN h' ≤ 190474 ∧ hpS h' ≤ 8530828 := by
  have walk : wp (L, xs) 135 0 [some (vR (some (98, 0))), none, none, none] [] h0 (fun r h' => r = some (vI 1) ∧ hpN h' ≤ 190474 ∧ hpS h' ≤ 8530828) := by
    refine z_new 0 18 rfl rfl rfl ?_
    refine w_pu rfl rfl ?_
    refine w_cvE hB rfl rfl (by decide) (Nat.le_of_ble_eq_true rfl) rfl (Nat.le_of_ble_eq_true rfl) (Nat.le_of_ble_eq_true rfl) ⟨Nat.one_pos, rfl⟩ rfl (z5_init (L, xs) (newC h0 0 0 18) Nat.one_pos rfl rfl rfl rfl rfl rfl) ?_
    refine w_pu rfl rfl ?_
    refine z_new 22 47 rfl rfl rfl ?_
    refine w_pu rfl rfl ?_
    refine w_cvE hI rfl rfl (by decide) (Nat.le_of_ble_eq_true rfl) rfl (Nat.le_of_ble_eq_true rfl) (Nat.le_of_ble_eq_true rfl) ⟨Nat.one_pos, rfl⟩ rfl (z6_init (L, xs) (newC hB 22 0 47) Nat.one_pos rfl rfl rfl rfl rfl rfl rfl rfl rfl rfl rfl rfl rfl rfl rfl rfl rfl rfl rfl rfl rfl rfl rfl rfl rfl rfl rfl rfl rfl rfl rfl rfl rfl rfl rfl rfl rfl rfl) ?_
    refine w_pu rfl rfl ?_
    refine w_cst (v := 0) rfl rfl rfl ?_
    refine w_pu rfl rfl ?_
    exact law_loop L xs hL (L / 4) 0 hI (by omega) LW_I
  obtain ⟨r, h', e, rfl, n, q⟩ := walk
  exact ⟨h', e, n, q⟩
