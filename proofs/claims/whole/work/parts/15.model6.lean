/-! The reference's other calls: those with a loop. -/
def sumF (s : SS) (a : Nat) : Nat → Int32
  | 0 => 0
  | k + 1 => sumF s a k + (s 36 (a + k) &&& 255) * (nI k + 1)
def manyF (s : SS) (v : Int32) : Nat → Int32
  | 0 => 0
  | n + 1 => manyF s v n + (if s 23 n = v then 1 else 0)
def bsumF (s : SS) : Nat → Int32
  | 0 => 0
  | n + 1 => bsumF s n + s 31 n
def esumF (s : SS) : Nat → Int32
  | 0 => 0
  | n + 1 => esumF s n + s 20 n
def cntTF (s : SS) (a : Nat) : Nat → Int32
  | 0 => 0
  | k + 1 => cntTF s a k + (if s 23 (a + k) = 3 then 1 else 0)
/-- the first of the last d pieces at which the count falls below 0 -/
def wtF (s : SS) (v : Int32) (np : Nat) : Nat → Int32 → Nat ⊕ Int32
  | 0, n => .inr n
  | d + 1, n => if n - (if s 23 (np - (d + 1)) = v then 1 else 0) < 0 then .inl (np - (d + 1)) else wtF s v np d (n - (if s 23 (np - (d + 1)) = v then 1 else 0))
def waitsF (np : Nat) (s : SS) (i : Int32) : Int32 := if i < 0 then -9 else match wtF s 2 np np i with
  | .inl p => nI p
  | .inr n => (match wtF s 0 np np n with
    | .inl p => nI p
    | .inr _ => -9)
def skF (s : SS) : Nat → Int32 → Int32 → Int32
  | 0, m, l => if m = -9 then 0 else m - l
  | n + 1, m, l => skF s n (if m = -9 ∧ s 23 n = 3 ∧ s 0 33 ≤ s 24 n then nI n else m) (if s 23 n = 3 then l else nI n)
def fnF (s : SS) (l : Nat) (how : Int32) (f : Nat) : Nat → Nat → Option Nat
  | 0, _ => none
  | d + 1, k => if s 13 (200 * l + (f + k) % 200) &&& how = 0 then some k else fnF s l how f d (k + 1)
def flF (l : Nat) : Nat → SS → SS × Int32
  | 0, s => (s, 0)
  | q + 1, s => if (flF l q s).1 23 q = 1 ∧ (flF l q s).1 28 q = nI l then (loseF (flF l q s).1 q l, (flF l q s).2 + 1) else flF l q s
theorem flF_j (l : Nat) (s : SS) {j : Nat} (k : Nat) (hj : ¬ j = 23 ∧ ¬ j = 30 ∧ ¬ j = 19) : ∀ n, (flF l n s).1 j k = s j k
  | 0 => rfl
  | n + 1 => by
    rw [flF]
    split
    · dsimp only
      rw [loseF_j _ _ _ _ hj, flF_j l s k hj n]
    · exact flF_j l s k hj n
theorem mX_sumOf (X : Nat × (Nat → Int32)) {h : Hp} {nl nf np : Nat} (hw : WF h nl nf np) (s : SS) (p a z : Nat) (hp : p < np) (ha : s 25 p = nI a) (hz : s 26 p = nI z) (haz : a + z ≤ 1200000) : wp X 95 0 [TM, some (vI (nI p)), none, none] [] (pS h s) (fun r h' => r = some (vI (sumF s a z)) ∧ h' = pS h s) := by
  have h3 := hw.2.2.2.2.2.2.2.2
  have loop : ∀ d k, k + d = z → wp X 95 4 [TM, some (vI (nI p)), some (vI (sumF s a k)), some (vI (nI k))] [] (pS h s) (fun r h' => r = some (vI (sumF s a z)) ∧ h' = pS h s) := by
    intro d
    induction d with
    | zero =>
      intro k hk
      refine w_pu rfl rfl ?_
      refine w_pu rfl rfl ?_
      refine m_gR 26 hw rfl rfl rfl ?_
      refine w_pu rfl rfl ?_
      refine m_ai 26 p hw rfl rfl (by omega) (by first | rfl | simp only [ix_lits, nI_mul, nI_add]) (by show p < 3000; omega) ?_
      refine w_ge rfl (fun c0 => ?_) (fun c0 => ?_)
      · refine w_pu rfl rfl ?_
        refine w_rt rfl rfl trivial ?_
        exact ⟨by rw [show k = z by omega], rfl⟩
      · exact absurd (by rw [hz]; exact nI_le (by omega) (by omega)) c0
    | succ d ih =>
      intro k hk
      refine w_pu rfl rfl ?_
      refine w_pu rfl rfl ?_
      refine m_gR 26 hw rfl rfl rfl ?_
      refine w_pu rfl rfl ?_
      refine m_ai 26 p hw rfl rfl (by omega) (by first | rfl | simp only [ix_lits, nI_mul, nI_add, ha]) (by show p < 3000; omega) ?_
      refine w_ge rfl (fun c0 => ?_) (fun c0 => ?_)
      · exact absurd (by rw [hz] at c0; exact c0) (nI_ge (by omega) (by omega))
      · refine w_pu rfl rfl ?_
        refine w_pu rfl rfl ?_
        refine m_gR 36 hw rfl rfl rfl ?_
        refine w_pu rfl rfl ?_
        refine m_gR 25 hw rfl rfl rfl ?_
        refine w_pu rfl rfl ?_
        refine m_ai 25 p hw rfl rfl (by omega) (by first | rfl | simp only [ix_lits, nI_mul, nI_add, ha]) (by show p < 3000; omega) ?_
        refine w_pu rfl rfl ?_
        refine w_pu rfl rfl ?_
        refine m_ab 36 (a + k) hw rfl (Or.inl ⟨rfl, rfl⟩) (by omega) (by first | rfl | simp only [ix_lits, nI_mul, nI_add, ha]) (by show (a + k) < 1200000; omega) ?_
        refine w_cst (v := 255) rfl rfl rfl ?_
        refine w_pu rfl rfl ?_
        refine w_pu rfl rfl ?_
        refine w_cst (v := 1) rfl rfl rfl ?_
        refine w_pu rfl rfl ?_
        refine w_pu rfl rfl ?_
        refine w_pu rfl rfl ?_
        refine w_pu rfl rfl ?_
        refine w_i1 rfl rfl rfl ?_
        refine w_go rfl ?_
        exact ih (k + 1) (by omega)
  refine w_cst (v := 0) rfl rfl rfl ?_
  refine w_pu rfl rfl ?_
  refine w_cst (v := 0) rfl rfl rfl ?_
  refine w_pu rfl rfl ?_
  exact loop z 0 (by omega)
theorem mX_many (X : Nat × (Nat → Int32)) {h : Hp} {nl nf np : Nat} (hw : WF h nl nf np) (s : SS) (hn : s 0 23 = nI np) (v : Int32) : wp X 130 0 [TM, some (vI v), none, none] [] (pS h s) (fun r h' => r = some (vI (manyF s v np)) ∧ h' = pS h s) := by
  have h3 := hw.2.2.2.2.2.2.2.2
  have loop : ∀ d k, k + d = np → wp X 130 4 [TM, some (vI v), some (vI (manyF s v k)), some (vI (nI k))] [] (pS h s) (fun r h' => r = some (vI (manyF s v np)) ∧ h' = pS h s) := by
    intro d
    induction d with
    | zero =>
      intro k hk
      refine w_pu rfl rfl ?_
      refine w_pu rfl rfl ?_
      refine m_g hw rfl rfl ?_
      refine w_ge rfl (fun c0 => ?_) (fun c0 => ?_)
      · refine w_pu rfl rfl ?_
        refine w_rt rfl rfl trivial ?_
        exact ⟨by rw [show k = np by omega], rfl⟩
      · exact absurd (by rw [hn]; exact nI_le (by omega) (by omega)) c0
    | succ d ih =>
      intro k hk
      refine w_pu rfl rfl ?_
      refine w_pu rfl rfl ?_
      refine m_g hw rfl rfl ?_
      refine w_ge rfl (fun c0 => ?_) (fun c0 => ?_)
      · exact absurd (by rw [hn] at c0; exact c0) (nI_ge (by omega) (by omega))
      · refine w_pu rfl rfl ?_
        refine w_pu rfl rfl ?_
        refine m_gR 23 hw rfl rfl rfl ?_
        refine w_pu rfl rfl ?_
        refine m_ai 23 k hw rfl rfl (by omega) (by first | rfl | simp only [ix_lits, nI_mul, nI_add]) (by show k < 3000; omega) ?_
        refine w_pu rfl rfl ?_
        refine w_ne rfl (fun c1 => ?_) (fun c1 => ?_)
        · refine w_cst (v := 0) rfl rfl rfl ?_
          refine w_pu rfl rfl ?_
          refine w_pu rfl rfl ?_
          refine w_i1 rfl rfl rfl ?_
          refine w_go rfl ?_
          refine w_loc [TM, some (vI v), some (vI (manyF s v (k + 1))), some (vI (nI (k + 1)))] (by rw [manyF, if_neg c1]; rfl) ?_
          exact ih (k + 1) (by omega)
        · refine w_cst (v := 1) rfl rfl rfl ?_
          refine w_go rfl ?_
          refine w_pu rfl rfl ?_
          refine w_pu rfl rfl ?_
          refine w_i1 rfl rfl rfl ?_
          refine w_go rfl ?_
          refine w_loc [TM, some (vI v), some (vI (manyF s v (k + 1))), some (vI (nI (k + 1)))] (by rw [manyF, if_pos c1]; rfl) ?_
          exact ih (k + 1) (by omega)
  refine w_cst (v := 0) rfl rfl rfl ?_
  refine w_pu rfl rfl ?_
  refine w_cst (v := 0) rfl rfl rfl ?_
  refine w_pu rfl rfl ?_
  exact loop np 0 (by omega)
theorem mX_waits (X : Nat × (Nat → Int32)) {h : Hp} {nl nf np : Nat} (hw : WF h nl nf np) (s : SS) (hn : s 0 23 = nI np) (i : Int32) : wp X 123 0 [TM, some (vI i), none, none] [] (pS h s) (fun r h' => r = some (vI (waitsF np s i)) ∧ h' = pS h s) := by
  have h3 := hw.2.2.2.2.2.2.2.2
  have loop2 : ∀ d k n, ¬ i < 0 → k + d = np → wp X 123 48 [TM, some (vI i), some (vI n), some (vI (nI k))] [] (pS h s) (fun r h' => r = some (vI (match wtF s 0 np d n with | .inl p => nI p | .inr _ => -9)) ∧ h' = pS h s) := by
    intro d
    induction d with
    | zero =>
      intro k n hi hk
      refine w_pu rfl rfl ?_
      refine w_pu rfl rfl ?_
      refine m_g hw rfl rfl ?_
      refine w_ge rfl (fun c0 => ?_) (fun c0 => ?_)
      · refine w_cst (v := (-9)) rfl rfl rfl ?_
        refine w_rt rfl rfl trivial ?_
        exact ⟨rfl, rfl⟩
      · exact absurd (by rw [hn]; exact nI_le (by omega) (by omega)) c0
    | succ d ih =>
      intro k n hi hk
      have ek : np - (d + 1) = k := by omega
      rw [wtF, ek]
      refine w_pu rfl rfl ?_
      refine w_pu rfl rfl ?_
      refine m_g hw rfl rfl ?_
      refine w_ge rfl (fun c0 => ?_) (fun c0 => ?_)
      · exact absurd (by rw [hn] at c0; exact c0) (nI_ge (by omega) (by omega))
      · refine w_pu rfl rfl ?_
        refine w_lt0 rfl (fun c1 => ?_) (fun c1 => ?_)
        · exact absurd c1 hi
        · refine w_pu rfl rfl ?_
          refine w_pu rfl rfl ?_
          refine m_gR 23 hw rfl rfl rfl ?_
          refine w_pu rfl rfl ?_
          refine m_ai 23 k hw rfl rfl (by omega) (by first | rfl | simp only [ix_lits, nI_mul, nI_add]) (by show k < 3000; omega) ?_
          refine w_ne0 rfl (fun c2 => ?_) (fun c2 => ?_)
          · refine w_cst (v := 0) rfl rfl rfl ?_
            refine w_pu rfl rfl ?_
            refine w_pu rfl rfl ?_
            refine w_pu rfl rfl ?_
            refine w_ge0 rfl (fun c3 => ?_) (fun c3 => ?_)
            · refine w_i1 rfl rfl rfl ?_
              refine w_go rfl ?_
              rw [if_neg c2, if_neg (Int32.not_lt.mpr c3)]
              exact ih (k + 1) _ hi (by omega)
            · refine w_pu rfl rfl ?_
              refine w_rt rfl rfl trivial ?_
              exact ⟨by rw [if_neg c2, if_pos (Int32.not_le.mp c3)], rfl⟩
          · refine w_cst (v := 1) rfl rfl rfl ?_
            refine w_go rfl ?_
            refine w_pu rfl rfl ?_
            refine w_pu rfl rfl ?_
            refine w_pu rfl rfl ?_
            refine w_ge0 rfl (fun c4 => ?_) (fun c4 => ?_)
            · refine w_i1 rfl rfl rfl ?_
              refine w_go rfl ?_
              rw [if_pos c2, if_neg (Int32.not_lt.mpr c4)]
              exact ih (k + 1) _ hi (by omega)
            · refine w_pu rfl rfl ?_
              refine w_rt rfl rfl trivial ?_
              exact ⟨by rw [if_pos c2, if_pos (Int32.not_le.mp c4)], rfl⟩
  have loop1 : ∀ d k n, ¬ i < 0 → k + d = np → wp X 123 4 [TM, some (vI i), some (vI n), some (vI (nI k))] [] (pS h s) (fun r h' => r = some (vI (match wtF s 2 np d n with | .inl p => nI p | .inr n => (match wtF s 0 np np n with | .inl p => nI p | .inr _ => -9))) ∧ h' = pS h s) := by
    intro d
    induction d with
    | zero =>
      intro k n hi hk
      refine w_pu rfl rfl ?_
      refine w_pu rfl rfl ?_
      refine m_g hw rfl rfl ?_
      refine w_ge rfl (fun c0 => ?_) (fun c0 => ?_)
      · refine w_cst (v := 0) rfl rfl rfl ?_
        refine w_pu rfl rfl ?_
        exact loop2 np 0 n hi (by omega)
      · exact absurd (by rw [hn]; exact nI_le (by omega) (by omega)) c0
    | succ d ih =>
      intro k n hi hk
      have ek : np - (d + 1) = k := by omega
      rw [wtF, ek]
      refine w_pu rfl rfl ?_
      refine w_pu rfl rfl ?_
      refine m_g hw rfl rfl ?_
      refine w_ge rfl (fun c0 => ?_) (fun c0 => ?_)
      · exact absurd (by rw [hn] at c0; exact c0) (nI_ge (by omega) (by omega))
      · refine w_pu rfl rfl ?_
        refine w_lt0 rfl (fun c1 => ?_) (fun c1 => ?_)
        · exact absurd c1 hi
        · refine w_pu rfl rfl ?_
          refine w_pu rfl rfl ?_
          refine m_gR 23 hw rfl rfl rfl ?_
          refine w_pu rfl rfl ?_
          refine m_ai 23 k hw rfl rfl (by omega) (by first | rfl | simp only [ix_lits, nI_mul, nI_add]) (by show k < 3000; omega) ?_
          refine w_cst (v := 2) rfl rfl rfl ?_
          refine w_ne rfl (fun c2 => ?_) (fun c2 => ?_)
          · refine w_cst (v := 0) rfl rfl rfl ?_
            refine w_pu rfl rfl ?_
            refine w_pu rfl rfl ?_
            refine w_pu rfl rfl ?_
            refine w_ge0 rfl (fun c3 => ?_) (fun c3 => ?_)
            · refine w_i1 rfl rfl rfl ?_
              refine w_go rfl ?_
              rw [if_neg c2, if_neg (Int32.not_lt.mpr c3)]
              exact ih (k + 1) _ hi (by omega)
            · refine w_pu rfl rfl ?_
              refine w_rt rfl rfl trivial ?_
              exact ⟨by rw [if_neg c2, if_pos (Int32.not_le.mp c3)], rfl⟩
          · refine w_cst (v := 1) rfl rfl rfl ?_
            refine w_go rfl ?_
            refine w_pu rfl rfl ?_
            refine w_pu rfl rfl ?_
            refine w_pu rfl rfl ?_
            refine w_ge0 rfl (fun c4 => ?_) (fun c4 => ?_)
            · refine w_i1 rfl rfl rfl ?_
              refine w_go rfl ?_
              rw [if_pos c2, if_neg (Int32.not_lt.mpr c4)]
              exact ih (k + 1) _ hi (by omega)
            · refine w_pu rfl rfl ?_
              refine w_rt rfl rfl trivial ?_
              exact ⟨by rw [if_pos c2, if_pos (Int32.not_le.mp c4)], rfl⟩
  by_cases hi : i < 0
  · have key : ∀ n, wp X 123 46 [TM, some (vI i), some (vI n), some (vI (nI 0))] [] (pS h s) (fun r h' => r = some (vI (waitsF np s i)) ∧ h' = pS h s) := by
      intro n
      refine w_cst (v := 0) rfl rfl rfl ?_
      refine w_pu rfl rfl ?_
      refine w_pu rfl rfl ?_
      refine w_pu rfl rfl ?_
      refine m_g hw rfl rfl ?_
      refine w_ge rfl (fun c0 => ?_) (fun c0 => ?_)
      · refine w_cst (v := (-9)) rfl rfl rfl ?_
        refine w_rt rfl rfl trivial ?_
        exact ⟨by rw [waitsF, if_pos hi], rfl⟩
      · refine w_pu rfl rfl ?_
        refine w_lt0 rfl (fun c1 => ?_) (fun c1 => ?_)
        · refine w_cst (v := (-9)) rfl rfl rfl ?_
          refine w_rt rfl rfl trivial ?_
          exact ⟨by rw [waitsF, if_pos hi], rfl⟩
        · exact absurd hi c1
    refine w_pu rfl rfl ?_
    refine w_pu rfl rfl ?_
    refine w_cst (v := 0) rfl rfl rfl ?_
    refine w_pu rfl rfl ?_
    refine w_pu rfl rfl ?_
    refine w_pu rfl rfl ?_
    refine m_g hw rfl rfl ?_
    refine w_ge rfl (fun c0 => ?_) (fun c0 => ?_)
    · exact key _
    · refine w_pu rfl rfl ?_
      refine w_lt0 rfl (fun c1 => ?_) (fun c1 => ?_)
      · exact key _
      · exact absurd hi c1
  · refine w_pu rfl rfl ?_
    refine w_pu rfl rfl ?_
    refine w_cst (v := 0) rfl rfl rfl ?_
    refine w_pu rfl rfl ?_
    rw [waitsF, if_neg hi]
    exact loop1 np 0 i hi (by omega)
theorem w_dec {X : Nat × (Nat → Int32)} {y pc : Nat} {L : Ls} {st : St} {h : Hp} {Q : Option Vl → Hp → Prop} {len a b i : Nat} {x : Int32} (hc : cd y pc = some (.iinc i (-1), len, a, b)) (hl : L[i]? = some (some (vI x))) (hs : (decide (i < L.length) && okst L i) = true) (kk : wp X y (pc + len) (L.set i (some (vI (x - 1)))) st h Q) : wp X y pc L st h Q := by
  refine w_inc (v := -1) hc hl hs rfl ?_
  rw [show x + -1 = x - 1 from (Int32.sub_eq_add_neg ..).symm]
  exact kk
theorem mX_skew (X : Nat × (Nat → Int32)) {h : Hp} {nl nf np : Nat} (hw : WF h nl nf np) (s : SS) (hn : s 0 23 = nI np) : wp X 127 0 [TM, none, none, none] [] (pS h s) (fun r h' => r = some (vI (skF s np (-9) (-9))) ∧ h' = pS h s) := by
  have h3 := hw.2.2.2.2.2.2.2.2
  have loop : ∀ n m l, n ≤ np → wp X 127 13 [TM, some (vI m), some (vI l), some (vI (nI n - 1))] [] (pS h s) (fun r h' => r = some (vI (skF s n m l)) ∧ h' = pS h s) := by
    intro n
    induction n with
    | zero =>
      intro m l hk
      refine w_pu rfl rfl ?_
      refine w_lt0 rfl (fun c0 => ?_) (fun c0 => ?_)
      · refine w_pu rfl rfl ?_
        refine w_cst (v := (-9)) rfl rfl rfl ?_
        refine w_ne rfl (fun c1 => ?_) (fun c1 => ?_)
        · refine w_pu rfl rfl ?_
          refine w_pu rfl rfl ?_
          refine w_pu rfl rfl ?_
          refine w_rt rfl rfl trivial ?_
          exact ⟨by rw [skF, if_neg c1], rfl⟩
        · refine w_cst (v := 0) rfl rfl rfl ?_
          refine w_go rfl ?_
          refine w_rt rfl rfl trivial ?_
          exact ⟨by rw [skF, if_pos c1], rfl⟩
      · exact absurd (by decide) c0
    | succ n ih =>
      intro m l hk
      rw [nI_pred, skF]
      refine w_pu rfl rfl ?_
      refine w_lt0 rfl (fun c0 => ?_) (fun c0 => ?_)
      · exact absurd c0 (nI_pos (by omega))
      · refine w_pu rfl rfl ?_
        refine m_gR 23 hw rfl rfl rfl ?_
        refine w_pu rfl rfl ?_
        refine m_ai 23 n hw rfl rfl (by omega) (by first | rfl | simp only [ix_lits, nI_mul, nI_add]) (by show n < 3000; omega) ?_
        refine w_cst (v := 3) rfl rfl rfl ?_
        refine w_eq rfl (fun c1 => ?_) (fun c1 => ?_)
        · refine w_pu rfl rfl ?_
          refine w_pu rfl rfl ?_
          refine w_pu rfl rfl ?_
          refine w_cst (v := (-9)) rfl rfl rfl ?_
          refine w_ne rfl (fun c2 => ?_) (fun c2 => ?_)
          · refine w_pu rfl rfl ?_
            refine w_pu rfl rfl ?_
            refine w_dec rfl rfl rfl ?_
            refine w_go rfl ?_
            have ih := ih (if m = -9 ∧ s 23 n = 3 ∧ s 0 33 ≤ s 24 n then nI n else m) (if s 23 n = 3 then l else nI n) (by omega)
            rw [if_neg (fun z => c2 z.1), if_pos c1] at ih ⊢
            exact ih
          · refine w_pu rfl rfl ?_
            refine m_gR 23 hw rfl rfl rfl ?_
            refine w_pu rfl rfl ?_
            refine m_ai 23 n hw rfl rfl (by omega) (by first | rfl | simp only [ix_lits, nI_mul, nI_add]) (by show n < 3000; omega) ?_
            refine w_cst (v := 3) rfl rfl rfl ?_
            refine w_ne rfl (fun c3 => ?_) (fun c3 => ?_)
            · refine w_pu rfl rfl ?_
              refine w_pu rfl rfl ?_
              refine w_dec rfl rfl rfl ?_
              refine w_go rfl ?_
              have ih := ih (if m = -9 ∧ s 23 n = 3 ∧ s 0 33 ≤ s 24 n then nI n else m) (if s 23 n = 3 then l else nI n) (by omega)
              rw [if_neg (fun z => c3 z.2.1), if_pos c1] at ih ⊢
              exact ih
            · refine w_pu rfl rfl ?_
              refine m_gR 24 hw rfl rfl rfl ?_
              refine w_pu rfl rfl ?_
              refine m_ai 24 n hw rfl rfl (by omega) (by first | rfl | simp only [ix_lits, nI_mul, nI_add]) (by show n < 3000; omega) ?_
              refine w_pu rfl rfl ?_
              refine m_g hw rfl rfl ?_
              refine w_lt rfl (fun c4 => ?_) (fun c4 => ?_)
              · refine w_pu rfl rfl ?_
                refine w_pu rfl rfl ?_
                refine w_dec rfl rfl rfl ?_
                refine w_go rfl ?_
                have ih := ih (if m = -9 ∧ s 23 n = 3 ∧ s 0 33 ≤ s 24 n then nI n else m) (if s 23 n = 3 then l else nI n) (by omega)
                rw [if_neg (fun z => Int32.not_lt.mpr z.2.2 c4), if_pos c1] at ih ⊢
                exact ih
              · refine w_pu rfl rfl ?_
                refine w_go rfl ?_
                refine w_pu rfl rfl ?_
                refine w_dec rfl rfl rfl ?_
                refine w_go rfl ?_
                have ih := ih (if m = -9 ∧ s 23 n = 3 ∧ s 0 33 ≤ s 24 n then nI n else m) (if s 23 n = 3 then l else nI n) (by omega)
                rw [if_pos ⟨c2, c3, Int32.not_lt.mp c4⟩, if_pos c1] at ih ⊢
                exact ih
        · refine w_pu rfl rfl ?_
          refine w_go rfl ?_
          refine w_pu rfl rfl ?_
          refine w_pu rfl rfl ?_
          refine w_cst (v := (-9)) rfl rfl rfl ?_
          refine w_ne rfl (fun c5 => ?_) (fun c5 => ?_)
          · refine w_pu rfl rfl ?_
            refine w_pu rfl rfl ?_
            refine w_dec rfl rfl rfl ?_
            refine w_go rfl ?_
            have ih := ih (if m = -9 ∧ s 23 n = 3 ∧ s 0 33 ≤ s 24 n then nI n else m) (if s 23 n = 3 then l else nI n) (by omega)
            rw [if_neg (fun z => c5 z.1), if_neg c1] at ih ⊢
            exact ih
          · refine w_pu rfl rfl ?_
            refine m_gR 23 hw rfl rfl rfl ?_
            refine w_pu rfl rfl ?_
            refine m_ai 23 n hw rfl rfl (by omega) (by first | rfl | simp only [ix_lits, nI_mul, nI_add]) (by show n < 3000; omega) ?_
            refine w_cst (v := 3) rfl rfl rfl ?_
            refine w_ne rfl (fun c6 => ?_) (fun c6 => ?_)
            · refine w_pu rfl rfl ?_
              refine w_pu rfl rfl ?_
              refine w_dec rfl rfl rfl ?_
              refine w_go rfl ?_
              have ih := ih (if m = -9 ∧ s 23 n = 3 ∧ s 0 33 ≤ s 24 n then nI n else m) (if s 23 n = 3 then l else nI n) (by omega)
              rw [if_neg (fun z => c6 z.2.1), if_neg c1] at ih ⊢
              exact ih
            · refine w_pu rfl rfl ?_
              refine m_gR 24 hw rfl rfl rfl ?_
              refine w_pu rfl rfl ?_
              refine m_ai 24 n hw rfl rfl (by omega) (by first | rfl | simp only [ix_lits, nI_mul, nI_add]) (by show n < 3000; omega) ?_
              refine w_pu rfl rfl ?_
              refine m_g hw rfl rfl ?_
              refine w_lt rfl (fun c7 => ?_) (fun c7 => ?_)
              · refine w_pu rfl rfl ?_
                refine w_pu rfl rfl ?_
                refine w_dec rfl rfl rfl ?_
                refine w_go rfl ?_
                have ih := ih (if m = -9 ∧ s 23 n = 3 ∧ s 0 33 ≤ s 24 n then nI n else m) (if s 23 n = 3 then l else nI n) (by omega)
                rw [if_neg (fun z => Int32.not_lt.mpr z.2.2 c7), if_neg c1] at ih ⊢
                exact ih
              · refine w_pu rfl rfl ?_
                refine w_go rfl ?_
                refine w_pu rfl rfl ?_
                refine w_dec rfl rfl rfl ?_
                refine w_go rfl ?_
                have ih := ih (if m = -9 ∧ s 23 n = 3 ∧ s 0 33 ≤ s 24 n then nI n else m) (if s 23 n = 3 then l else nI n) (by omega)
                rw [if_pos ⟨c5, c6, Int32.not_lt.mp c7⟩, if_neg c1] at ih ⊢
                exact ih
  refine w_cst (v := (-9)) rfl rfl rfl ?_
  refine w_pu rfl rfl ?_
  refine w_cst (v := (-9)) rfl rfl rfl ?_
  refine w_pu rfl rfl ?_
  refine w_pu rfl rfl ?_
  refine m_g hw rfl rfl ?_
  refine w_cst (v := 1) rfl rfl rfl ?_
  refine w_pu rfl rfl ?_
  refine w_pu rfl rfl ?_
  rw [hn]
  exact loop np _ _ (Nat.le_refl _)
def fnO (s : SS) (l : Nat) (how : Int32) : Option Nat := fnF s l how (nat (s 14 l)) (nat (s 15 l)) 0
theorem fnF_lt (s : SS) (l : Nat) (how : Int32) (f : Nat) : ∀ d k j, fnF s l how f d k = some j → k ≤ j ∧ j < k + d
  | 0, k, j, h => by cases h
  | d + 1, k, j, h => by
    rw [fnF] at h
    split at h
    · cases h
      omega
    · have := fnF_lt s l how f d (k + 1) j h
      omega
def encW (s : SS) (l : Nat) (o : Option Nat) : Int32 := match o with
  | none => -9
  | some k => nI (200 * l + (nat (s 14 l) + k) % 200)
theorem mX_firstNot (X : Nat × (Nat → Int32)) {h : Hp} {nl nf np : Nat} (hw : WF h nl nf np) (s : SS) (l u f : Nat) (how : Int32) (hl : l < nl) (hu : s 15 l = nI u) (hu2 : u ≤ 200) (hf : s 14 l = nI f) (hf2 : f < 200) : wp X 112 0 [TM, some (vI (nI l)), some (vI how), none, none] [] (pS h s) (fun r h' => r = some (vI (encW s l (fnO s l how))) ∧ h' = pS h s) := by
  have h4 := hw.2.2.2.2.2.2.1
  have ef : nat (s 14 l) = f := by rw [hf, nat_nI (by omega)]
  have eu : nat (s 15 l) = u := by rw [hu, nat_nI (by omega)]
  have loop : ∀ d k (x : Option Vl), k + d = u → wp X 112 2 [TM, some (vI (nI l)), some (vI how), some (vI (nI k)), x] [] (pS h s) (fun r h' => r = some (vI (encW s l (fnF s l how f d k))) ∧ h' = pS h s) := by
    intro d
    induction d with
    | zero =>
      intro k x hk
      refine w_pu rfl rfl ?_
      refine w_pu rfl rfl ?_
      refine m_gR 15 hw rfl rfl rfl ?_
      refine w_pu rfl rfl ?_
      refine m_ai 15 l hw rfl rfl (by omega) (by first | rfl | simp only [ix_lits, nI_mul, nI_add]) (by show l < 8; omega) ?_
      refine w_ge rfl (fun c0 => ?_) (fun c0 => ?_)
      · refine w_cst (v := (-9)) rfl rfl rfl ?_
        refine w_rt rfl rfl trivial ?_
        exact ⟨rfl, rfl⟩
      · exact absurd (by rw [hu]; exact nI_le (by omega) (by omega)) c0
    | succ d ih =>
      intro k x hk
      rw [fnF]
      refine w_pu rfl rfl ?_
      refine w_pu rfl rfl ?_
      refine m_gR 15 hw rfl rfl rfl ?_
      refine w_pu rfl rfl ?_
      refine m_ai 15 l hw rfl rfl (by omega) (by first | rfl | simp only [ix_lits, nI_mul, nI_add]) (by show l < 8; omega) ?_
      refine w_ge rfl (fun c0 => ?_) (fun c0 => ?_)
      · exact absurd (by rw [hu] at c0; exact c0) (nI_ge (by omega) (by omega))
      · refine w_cst (v := 200) rfl rfl rfl ?_
        refine w_pu rfl rfl ?_
        refine w_pu rfl rfl ?_
        refine w_pu rfl rfl ?_
        refine m_gR 14 hw rfl rfl rfl ?_
        refine w_pu rfl rfl ?_
        refine m_ai 14 l hw rfl rfl (by omega) (by first | rfl | simp only [ix_lits, nI_mul, nI_add]) (by show l < 8; omega) ?_
        refine w_pu rfl rfl ?_
        refine w_pu rfl rfl ?_
        refine w_cst (v := 200) rfl rfl rfl ?_
        refine w_op rfl rfl (by decide) ?_
        refine w_top (nI ((f + k) % 200)) (by rw [hf, nI_add]; exact pk_rem (d := 200) (by omega) (by omega) (by omega)) ?_
        refine w_pu rfl rfl ?_
        refine w_pu rfl rfl ?_
        refine w_pu rfl rfl ?_
        refine m_gR 13 hw rfl rfl rfl ?_
        refine w_pu rfl rfl ?_
        refine m_ai 13 ((200 * l) + ((f + k) % 200)) hw rfl rfl (by omega) (by first | rfl | simp only [ix_lits, nI_mul, nI_add]) (by show ((200 * l) + ((f + k) % 200)) < 1600; omega) ?_
        refine w_pu rfl rfl ?_
        refine w_pu rfl rfl ?_
        refine w_ne0 rfl (fun c1 => ?_) (fun c1 => ?_)
        · refine w_i1 rfl rfl rfl ?_
          refine w_go rfl ?_
          rw [if_neg c1]
          exact ih (k + 1) _ (by omega)
        · refine w_pu rfl rfl ?_
          refine w_rt rfl rfl trivial ?_
          exact ⟨by rw [if_pos c1, encW, ef, ← nI_add, ← nI_mul]; rfl, rfl⟩
  refine w_cst (v := 0) rfl rfl rfl ?_
  refine w_pu rfl rfl ?_
  rw [fnO, ef, eu]
  exact loop u 0 _ (by omega)
