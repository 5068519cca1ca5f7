/-! A small machine of our own (names for cells, tables for code), in whose words the methods are proved. -/
abbrev Nm : Type := Nat × Nat
abbrev Vl : Type := Int32 ⊕ (Int64 ⊕ Option Nm)
abbrev vI (x : Int32) : Vl := Sum.inl x
abbrev vL (x : Int64) : Vl := Sum.inr (Sum.inl x)
abbrev vR (o : Option Nm) : Vl := Sum.inr (Sum.inr o)
abbrev Ls : Type := List (Option Vl)
abbrev St : Type := List Vl
abbrev Hp : Type := (Nat → Nat) × (Nm → Nat) × (Nm → Nat → Int32) × (Nm → Nat → Option Nm) × Nat × Nat
def hpC (h : Hp) : Nat → Nat := h.1
def hpL (h : Hp) : Nm → Nat := h.2.1
def hpI (h : Hp) : Nm → Nat → Int32 := h.2.2.1
def hpR (h : Hp) : Nm → Nat → Option Nm := h.2.2.2.1
def hpN (h : Hp) : Nat := h.2.2.2.2.1
def hpS (h : Hp) : Nat := h.2.2.2.2.2
def live (h : Hp) (n : Nm) : Prop := n.2 < hpC h n.1
def setI (h : Hp) (n : Nm) (k : Nat) (v : Int32) : Hp := (h.1, h.2.1, fun n' k' => if n' = n ∧ k' = k then v else h.2.2.1 n' k', h.2.2.2)
def setR (h : Hp) (n : Nm) (k : Nat) (v : Option Nm) : Hp := (h.1, h.2.1, h.2.2.1, fun n' k' => if n' = n ∧ k' = k then v else h.2.2.2.1 n' k', h.2.2.2.2)
/-- a new cell of the kind t: of so many places, an array's length (0 of an object) -/
def newC (h : Hp) (t len size : Nat) : Hp := (fun t' => if t' = t then h.1 t + 1 else h.1 t', fun n' => if n' = (t, h.1 t) then len else h.2.1 n', fun n' k' => if n' = (t, h.1 t) then 0 else h.2.2.1 n' k', fun n' k' => if n' = (t, h.1 t) then none else h.2.2.2.1 n' k', h.2.2.2.2.1 + 1, h.2.2.2.2.2 + size)
/-- a row's ints at one stroke -/
def setF (h : Hp) (n : Nm) (f : Nat → Int32) : Hp := (h.1, h.2.1, fun n' k' => if n' = n then f k' else h.2.2.1 n' k', h.2.2.2)
def inb (i : Int32) (n : Nat) : Prop := ¬ i < 0 ∧ i.toNatClampNeg < n
def nat (i : Int32) : Nat := i.toNatClampNeg
def icB (c : ClassFile.Cond) (x y : Int32) : Prop := match c with
  | .eq => x = y
  | .ne => ¬ x = y
  | .lt => x < y
  | .ge => y ≤ x
  | .gt => y < x
  | .le => x ≤ y
def ldI (L : Ls) (i : Nat) (st : St) : Option (Ls × St) := match L[i]? with
  | some (some (.inl x)) => some (L, .inl x :: st)
  | _ => none
def ldL (L : Ls) (i : Nat) (st : St) : Option (Ls × St) := match L[i]? with
  | some (some (.inr (.inl x))) => some (L, .inr (.inl x) :: st)
  | _ => none
def ldR (L : Ls) (i : Nat) (st : St) : Option (Ls × St) := match L[i]? with
  | some (some (.inr (.inr x))) => some (L, .inr (.inr x) :: st)
  | _ => none
/-- a place behind which no long begins -/
def okst (L : Ls) (i : Nat) : Bool := match i with
  | 0 => true
  | j + 1 => match L[j]? with
    | some (some (.inr (.inl _))) => false
    | _ => true
def sto (L : Ls) (i : Nat) (v : Vl) (st : St) : Option (Ls × St) := match decide (i < L.length) && okst L i with
  | true => some (L.set i (some v), st)
  | false => none
def cat1 (v : Vl) : Bool := match v with
  | .inr (.inl _) => false
  | _ => true
/-- what needs no heap -/
def pu (ins : Instr) (a : Nat) (L : Ls) (st : St) : Option (Ls × St) := match ins, st with
  | .iload_n k, st => ldI L (k : Nat) st
  | .iload k, st => ldI L k st
  | .lload_n k, st => ldL L (k : Nat) st
  | .aload_n k, st => ldR L (k : Nat) st
  | .aload k, st => ldR L k st
  | .istore_n k, .inl x :: st => sto L (k : Nat) (.inl x) st
  | .istore k, .inl x :: st => sto L k (.inl x) st
  | .astore_n k, .inr (.inr x) :: st => sto L (k : Nat) (.inr (.inr x)) st
  | .astore k, .inr (.inr x) :: st => sto L k (.inr (.inr x)) st
  | .iinc k n, st => (match L[k]? with
    | some (some (.inl x)) => sto L k (.inl (x + Int32.ofInt n)) st
    | _ => none)
  | .iconst n, st => some (L, .inl (Int32.ofInt n) :: st)
  | .bipush n, st => some (L, .inl (Int8.ofInt n).toInt32 :: st)
  | .sipush n, st => some (L, .inl (Int16.ofInt n).toInt32 :: st)
  | .ldc _, st => some (L, .inl (Int32.ofNat a) :: st)
  | .ldc2_w _, st => some (L, .inr (.inl (Int64.ofNat a)) :: st)
  | .aconst_null, st => some (L, .inr (.inr none) :: st)
  | .iadd, .inl y :: .inl x :: st => some (L, .inl (x + y) :: st)
  | .isub, .inl y :: .inl x :: st => some (L, .inl (x - y) :: st)
  | .imul, .inl y :: .inl x :: st => some (L, .inl (x * y) :: st)
  | .iand, .inl y :: .inl x :: st => some (L, .inl (x &&& y) :: st)
  | .ior, .inl y :: .inl x :: st => some (L, .inl (x ||| y) :: st)
  | .ineg, .inl x :: st => some (L, .inl (-x) :: st)
  | .i2l, .inl x :: st => some (L, .inr (.inl x.toInt64) :: st)
  | .l2i, .inr (.inl x) :: st => some (L, .inl x.toInt32 :: st)
  | .i2b, .inl x :: st => some (L, .inl x.toInt8.toInt32 :: st)
  | .land, .inr (.inl y) :: .inr (.inl x) :: st => some (L, .inr (.inl (x &&& y)) :: st)
  | .lor, .inr (.inl y) :: .inr (.inl x) :: st => some (L, .inr (.inl (x ||| y)) :: st)
  | .lshl, .inl y :: .inr (.inl x) :: st => some (L, .inr (.inl (x <<< (y.toInt64 &&& 63))) :: st)
  | .lshr, .inl y :: .inr (.inl x) :: st => some (L, .inr (.inl (x >>> (y.toInt64 &&& 63))) :: st)
  | .lushr, .inl y :: .inr (.inl x) :: st => some (L, .inr (.inl (x.toUInt64 >>> (y.toInt64.toUInt64 &&& Int64.toUInt64 63)).toInt64) :: st)
  | .dup, v :: st => (match cat1 v with
    | true => some (L, v :: v :: st)
    | false => none)
  | .dup2, v :: w :: st => (match cat1 v && cat1 w with
    | true => some (L, v :: w :: v :: w :: st)
    | false => none)
  | _, _ => none
/-- what a cell of a kind is: an object of the class (below 10), a row of ints (100), bytes (101), truths (102), objects of the class c (110 + c) -/
def kd (t : Nat) : Nat := mc_kd.getD t 99
def ety (t : Nat) : Nat := mc_ety.getD t 99
/-- a field: 0 an int, 1 a truth, 2 a reference; which kind of cell it leads to, always of the same number as its own -/
def fty (c k : Nat) : Nat := (mc_fty.getD c []).getD k 9
def srf (c k : Nat) : Nat := (mc_srf.getD c []).getD k 99
def nfl (c : Nat) : Nat := (mc_fty.getD c []).length
def catS : St → Nat
  | [] => 0
  | v :: st => (if cat1 v then 1 else 2) + catS st
/-- what needs the heap; with it the condition under which it may -/
def op (X : Nat × (Nat → Int32)) (ins : Instr) (a b : Nat) (st : St) (h : Hp) : Option (St × Hp × Prop) := match ins, st with
  | .getfield _, .inr (.inr (some n)) :: st => (match fty a b with
    | 2 => some (.inr (.inr (some (srf a b, n.2))) :: st, h, live h n ∧ kd n.1 = a ∧ hpR h n b = some (srf a b, n.2))
    | _ => some (.inl (hpI h n b) :: st, h, live h n ∧ kd n.1 = a))
  | .putfield _, .inl x :: .inr (.inr (some n)) :: st => (match fty a b with
    | 0 => some (st, setI h n b x, live h n ∧ kd n.1 = a)
    | 1 => some (st, setI h n b x, live h n ∧ kd n.1 = a ∧ (x = 0 ∨ x = 1))
    | _ => none)
  | .putfield _, .inr (.inr (some m)) :: .inr (.inr (some n)) :: st => (match fty a b with
    | 2 => some (st, setR h n b (some m), live h n ∧ kd n.1 = a ∧ live h m)
    | _ => none)
  | .iaload, .inl i :: .inr (.inr (some n)) :: st => (match a with
    | 0 => some (.inl (hpI h n (nat i)) :: st, h, live h n ∧ kd n.1 = 100 ∧ inb i (hpL h n))
    | _ => some (.inl (X.2 (nat i)) :: st, h, n = (98, 0) ∧ inb i X.1))
  | .baload, .inl i :: .inr (.inr (some n)) :: st => (match a with
    | 0 => some (.inl (hpI h n (nat i)) :: st, h, live h n ∧ kd n.1 = 101 ∧ inb i (hpL h n))
    | _ => some (.inl (hpI h n (nat i)) :: st, h, live h n ∧ kd n.1 = 102 ∧ inb i (hpL h n)))
  | .aaload, .inl i :: .inr (.inr (some n)) :: st => some (.inr (.inr (some (ety n.1, nat i))) :: st, h, live h n ∧ kd n.1 = 110 + kd (ety n.1) ∧ kd (ety n.1) < 10 ∧ inb i (hpL h n) ∧ hpR h n (nat i) = some (ety n.1, nat i))
  | .iastore, .inl x :: .inl i :: .inr (.inr (some n)) :: st => some (st, setI h n (nat i) x, live h n ∧ kd n.1 = 100 ∧ inb i (hpL h n))
  | .bastore, .inl x :: .inl i :: .inr (.inr (some n)) :: st => (match a with
    | 0 => some (st, setI h n (nat i) x.toInt8.toInt32, live h n ∧ kd n.1 = 101 ∧ inb i (hpL h n))
    | _ => some (st, setI h n (nat i) x, live h n ∧ kd n.1 = 102 ∧ inb i (hpL h n) ∧ (x = 0 ∨ x = 1)))
  | .aastore, .inr (.inr (some m)) :: .inl i :: .inr (.inr (some n)) :: st => some (st, setR h n (nat i) (some m), live h n ∧ kd n.1 = 110 + kd m.1 ∧ kd m.1 < 10 ∧ live h m ∧ inb i (hpL h n))
  | .arraylength, .inr (.inr (some n)) :: st => (match a with
    | 0 => some (.inl (Int32.ofNat (hpL h n)) :: st, h, live h n ∧ 100 ≤ kd n.1)
    | _ => some (.inl (Int32.ofNat X.1) :: st, h, n = (98, 0)))
  | .idiv, .inl y :: .inl x :: st => some (.inl (x / y) :: st, h, ¬ y = 0)
  | .irem, .inl y :: .inl x :: st => some (.inl (x - x / y * y) :: st, h, ¬ y = 0)
  | .newarray _, .inl n :: st => some (.inr (.inr (some (a, hpC h a))) :: st, newC h a (nat n) (nat n), ¬ n < 0 ∧ nat n ≤ 2000000)
  | .anewarray _, .inl n :: st => some (.inr (.inr (some (a, hpC h a))) :: st, newC h a (nat n) (nat n), ¬ n < 0 ∧ nat n ≤ 2000000)
  | .new _, st => some (.inr (.inr (some (a, hpC h a))) :: st, newC h a 0 (nfl b), True)
  | .invokespecial _, .inr (.inr (some _)) :: st => (match a with
    | 1000 => some (st, h, catS st ≤ 8)
    | _ => none)
  | .invokestatic _, .inl y :: .inl x :: st => (match a with
    | 1001 => some (.inl (if y < x then y else x) :: st, h, catS st ≤ 8)
    | 1002 => (match st with
      | .inr (.inr (some d)) :: .inl sp :: .inr (.inr (some s)) :: st => some (st, setF h d (fun k => if nat x ≤ k ∧ k < nat x + nat y then hpI h s (nat sp + (k - nat x)) else hpI h d k), catS st ≤ 8 ∧ live h s ∧ live h d ∧ kd s.1 = 101 ∧ kd d.1 = 101 ∧ ¬ sp < 0 ∧ ¬ x < 0 ∧ ¬ y < 0 ∧ nat sp + nat y ≤ hpL h s ∧ nat x + nat y ≤ hpL h d)
      | _ => none)
    | _ => none)
  | .invokevirtual _, .inr (.inr (some s)) :: st => (match a with
    | 1003 => some (.inr (.inr (some (b, hpC h b))) :: st, setF (newC h b (hpL h s) (hpL h s)) (b, hpC h b) (hpI h s), catS st ≤ 8 ∧ live h s ∧ kd s.1 = 101)
    | _ => none)
  | .checkcast _, .inr (.inr (some n)) :: st => some (.inr (.inr (some n)) :: st, h, live h n ∧ kd n.1 = 101)
  | _, _ => none
/-- a branch: when it is taken -/
def br (ins : Instr) (st : St) : Option (Prop × St) := match ins, st with
  | .if_icmp c _, .inl y :: .inl x :: st => some (icB c x y, st)
  | .ifCond c _, .inl x :: st => some (icB c x 0, st)
  | .ifnull _, .inr (.inr o) :: st => some (o = none, st)
  | .ifnonnull _, .inr (.inr o) :: st => some (¬ o = none, st)
  | .goto _, st => some (True, st)
  | _, _ => none
def swt (pc : Nat) (ins : Instr) (x : Int32) : Option Nat := match ins with
  | .tableswitch d lo hi offs => (if x.toInt < lo ∨ hi < x.toInt then some ((pc : Int) + d).toNat else (offs[(x.toInt - lo).toNat]?).map (fun o => ((pc : Int) + o).toNat))
  | _ => none
/-- a return: the answer; a truth is 0 or 1 -/
def rt (ins : Instr) (a : Nat) (st : St) : Option (Option Vl × Prop) := match ins, st with
  | .ireturn, [.inl x] => (match a with
    | 0 => some (some (.inl x), True)
    | _ => some (some (.inl x), x = 0 ∨ x = 1))
  | .areturn, [.inr (.inr o)] => some (some (.inr (.inr o)), True)
  | .return_, [] => some (none, True)
  | _, _ => none
def spl (b : Nat) (st : St) : List Vl × St := ((st.take b).reverse, st.drop b)
def spr : List Vl → Ls
  | [] => []
  | v :: vs => if cat1 v then some v :: spr vs else some v :: none :: spr vs
def ent (n : Nat) (args : List Vl) : Ls := spr args ++ List.replicate (n - (spr args).length) none
def cd (y pc : Nat) : Option Ent := match mc_progs[y]? with
  | some c => (match c[pc]? with
    | some e => e
    | none => none)
  | none => none
def mlo (y : Nat) : Nat := mc_mlo.getD y 0
def mow (y : Nat) : Nat := mc_mow.getD y 9
/-- the receiver stands, and is of the method's class -/
def rok (h : Hp) (ins : Instr) (a : Nat) (args : List Vl) : Prop := match ins with
  | .invokestatic _ => True
  | _ => (match args with
    | .inr (.inr (some n)) :: _ => live h n ∧ kd n.1 = mow a
    | _ => False)
def isInv : Instr → Bool
  | .invokevirtual _ => true
  | .invokestatic _ => true
  | .invokespecial _ => true
  | _ => false
abbrev MP : Type := Nat → Nat → Ls → St → Hp → Option Vl → Hp → Prop
def Rpu (P : MP) : Prop := ∀ (y pc : Nat) (L : Ls) (st : St) (h : Hp) (r : Option Vl) (h' : Hp) (ins : Instr) (len a b : Nat) (L' : Ls) (st' : St), cd y pc = some (ins, len, a, b) → pu ins a L st = some (L', st') → P y (pc + len) L' st' h r h' → P y pc L st h r h'
def Rop (X : Nat × (Nat → Int32)) (P : MP) : Prop := ∀ (y pc : Nat) (L : Ls) (st : St) (h : Hp) (r : Option Vl) (h' : Hp) (ins : Instr) (len a b : Nat) (st' : St) (h1 : Hp) (C : Prop), cd y pc = some (ins, len, a, b) → op X ins a b st h = some (st', h1, C) → C → P y (pc + len) L st' h1 r h' → P y pc L st h r h'
def RbT (P : MP) : Prop := ∀ (y pc : Nat) (L : Ls) (st : St) (h : Hp) (r : Option Vl) (h' : Hp) (ins : Instr) (a b : Nat) (st' : St) (C : Prop), cd y pc = some (ins, 3, a, b) → br ins st = some (C, st') → C → P y a L st' h r h' → P y pc L st h r h'
def RbF (P : MP) : Prop := ∀ (y pc : Nat) (L : Ls) (st : St) (h : Hp) (r : Option Vl) (h' : Hp) (ins : Instr) (a b : Nat) (st' : St) (C : Prop), cd y pc = some (ins, 3, a, b) → br ins st = some (C, st') → ¬ C → P y (pc + 3) L st' h r h' → P y pc L st h r h'
def Rsw (P : MP) : Prop := ∀ (y pc : Nat) (L : Ls) (st : St) (h : Hp) (r : Option Vl) (h' : Hp) (ins : Instr) (len a b : Nat) (x : Int32) (t : Nat), cd y pc = some (ins, len, a, b) → swt pc ins x = some t → P y t L st h r h' → P y pc L (.inl x :: st) h r h'
def Rca (P : MP) : Prop := ∀ (y pc : Nat) (L : Ls) (st : St) (h : Hp) (r : Option Vl) (h' : Hp) (ins : Instr) (a b : Nat) (r1 : Option Vl) (h1 : Hp), cd y pc = some (ins, 3, a, b) → isInv ins = true → a < 135 → b ≤ st.length → catS (spl b st).2 ≤ 8 → (spr (spl b st).1).length ≤ mlo a → rok h ins a (spl b st).1 → P a 0 (ent (mlo a) (spl b st).1) [] h r1 h1 → P y (pc + 3) L (r1.toList ++ (spl b st).2) h1 r h' → P y pc L st h r h'
def Rrt (P : MP) : Prop := ∀ (y pc : Nat) (L : Ls) (st : St) (h : Hp) (r : Option Vl) (ins : Instr) (len a b : Nat) (C : Prop), cd y pc = some (ins, len, a, b) → rt ins a st = some (r, C) → C → P y pc L st h r h
def Clo (X : Nat × (Nat → Int32)) (P : MP) : Prop := Rpu P ∧ Rop X P ∧ RbT P ∧ RbF P ∧ Rsw P ∧ Rca P ∧ Rrt P
/-- the machine's runs: the least relation that its rules allow -/
def Ev (X : Nat × (Nat → Int32)) : MP := fun y pc L st h r h' => ∀ P : MP, Clo X P → P y pc L st h r h'
def wp (X : Nat × (Nat → Int32)) (y pc : Nat) (L : Ls) (st : St) (h : Hp) (Q : Option Vl → Hp → Prop) : Prop := ∃ (r : Option Vl) (h' : Hp), Ev X y pc L st h r h' ∧ Q r h'
section WP
variable {X : Nat × (Nat → Int32)} {y pc : Nat} {L : Ls} {st : St} {h : Hp} {Q : Option Vl → Hp → Prop} {ins : Instr} {len a b : Nat} {st' : St} {C : Prop}
theorem w_pu {L' : Ls} (hc : cd y pc = some (ins, len, a, b)) (hp : pu ins a L st = some (L', st')) (k : wp X y (pc + len) L' st' h Q) : wp X y pc L st h Q := by
  obtain ⟨r, h', e, q⟩ := k
  exact ⟨r, h', fun P hP => hP.1 y pc L st h r h' ins len a b L' st' hc hp (e P hP), q⟩
theorem w_op {h1 : Hp} (hc : cd y pc = some (ins, len, a, b)) (hp : op X ins a b st h = some (st', h1, C)) (hC : C) (k : wp X y (pc + len) L st' h1 Q) : wp X y pc L st h Q := by
  obtain ⟨r, h', e, q⟩ := k
  exact ⟨r, h', fun P hP => hP.2.1 y pc L st h r h' ins len a b st' h1 C hc hp hC (e P hP), q⟩
theorem w_br (hc : cd y pc = some (ins, 3, a, b)) (hp : br ins st = some (C, st')) (k1 : C → wp X y a L st' h Q) (k2 : ¬ C → wp X y (pc + 3) L st' h Q) : wp X y pc L st h Q := by
  by_cases hC : C
  · obtain ⟨r, h', e, q⟩ := k1 hC
    exact ⟨r, h', fun P hP => hP.2.2.1 y pc L st h r h' ins a b st' C hc hp hC (e P hP), q⟩
  · obtain ⟨r, h', e, q⟩ := k2 hC
    exact ⟨r, h', fun P hP => hP.2.2.2.1 y pc L st h r h' ins a b st' C hc hp hC (e P hP), q⟩
theorem w_go {off : Int} (hc : cd y pc = some (.goto off, 3, a, b)) (k : wp X y a L st h Q) : wp X y pc L st h Q := w_br hc rfl (fun _ => k) (fun q => absurd trivial q)
theorem w_sw {x : Int32} {t : Nat} (hc : cd y pc = some (ins, len, a, b)) (hp : swt pc ins x = some t) (k : wp X y t L st h Q) : wp X y pc L (vI x :: st) h Q := by
  obtain ⟨r, h', e, q⟩ := k
  exact ⟨r, h', fun P hP => hP.2.2.2.2.1 y pc L st h r h' ins len a b x t hc hp (e P hP), q⟩
theorem w_ca {args : List Vl} {Q1 : Option Vl → Hp → Prop} (hc : cd y pc = some (ins, 3, a, b)) (hi : isInv ins = true) (ha : a < 135) (hb : b ≤ st.length) (hsp : spl b st = (args, st')) (hw : catS st' ≤ 8) (hsl : (spr args).length ≤ mlo a) (hro : rok h ins a args) (hs : wp X a 0 (ent (mlo a) args) [] h Q1) (k : ∀ (r1 : Option Vl) (h1 : Hp), Q1 r1 h1 → wp X y (pc + 3) L (r1.toList ++ st') h1 Q) : wp X y pc L st h Q := by
  obtain ⟨r1, h1, e1, q1⟩ := hs
  obtain ⟨r, h', e, q⟩ := k r1 h1 q1
  have e2 : (spl b st).1 = args := by rw [hsp]
  have e3 : (spl b st).2 = st' := by rw [hsp]
  exact ⟨r, h', fun P hP => hP.2.2.2.2.2.1 y pc L st h r h' ins a b r1 h1 hc hi ha hb (by rw [e3]; exact hw) (by rw [e2]; exact hsl) (by rw [e2]; exact hro) (by rw [e2]; exact e1 P hP) (by rw [e3]; exact e P hP), q⟩
theorem w_rt {r : Option Vl} (hc : cd y pc = some (ins, len, a, b)) (hp : rt ins a st = some (r, C)) (hC : C) (q : Q r h) : wp X y pc L st h Q :=
  ⟨r, h, fun P hP => hP.2.2.2.2.2.2 y pc L st h r ins len a b C hc hp hC, q⟩
theorem w_mono {Q1 : Option Vl → Hp → Prop} (k : wp X y pc L st h Q1) (hq : ∀ r h', Q1 r h' → Q r h') : wp X y pc L st h Q := by
  obtain ⟨r, h', e, q⟩ := k
  exact ⟨r, h', e, hq r h' q⟩
/-- a constant, by its own numeral -/
theorem w_cst {v : Int32} {x : Int32} (hc : cd y pc = some (ins, len, a, b)) (hp : pu ins a L st = some (L, vI x :: st)) (hv : x = v) (k : wp X y (pc + len) L (vI v :: st) h Q) : wp X y pc L st h Q := by
  subst hv
  exact w_pu hc hp k
theorem w_inc {i : Nat} {n : Int} {x v : Int32} (hc : cd y pc = some (.iinc i n, len, a, b)) (hl : L[i]? = some (some (vI x))) (hs : (decide (i < L.length) && okst L i) = true) (hv : Int32.ofInt n = v) (k : wp X y (pc + len) (L.set i (some (vI (x + v)))) st h Q) : wp X y pc L st h Q := by
  subst hv
  refine w_pu (L' := L.set i (some (vI (x + Int32.ofInt n)))) (st' := st) hc ?_ k
  simp only [pu, hl, sto, hs]
end WP
