/-! What the calls do to the reference's numbers, as functions. -/
def szo (s : SS) (p : Int32) : Int32 := if p = -2 then 1 else s 26 (nat p)
/-- a piece's number, or an EMPTY -/
def okp (np : Nat) (p : Int32) : Prop := p = -2 ∨ ∃ k, k < np ∧ p = nI k
def inF (v lo hi : Int32) : Int32 := if lo ≤ v ∧ v ≤ hi then 1 else 0
def wsum (s : SS) (l : Nat) : Nat → Int32
  | 0 => -(s 9 l)
  | n + 1 => wsum s l n + szo s (s 7 (41 * l + n))
def enc (o : Option Nat) : Int32 := match o with
  | none => -9
  | some k => nI k
def refuseF (s : SS) (k : Nat) : SS := uS s 38 k (s 38 k + 1)
def loseF (s : SS) (p l : Nat) : SS := uS (uS (uS s 23 p 2) 30 (8 * p + l) (s 30 (8 * p + l) + 1)) 19 l (s 19 l + 1)
def layF (s : SS) (v : Int32) (l : Nat) : SS := uS (uS s 7 (41 * l + nat (s 8 l)) v) 8 l (s 8 l + 1)
def layOnF (s : SS) (p l : Nat) : SS := uS (uS (uS (uS (layF s (nI p) l) 23 p 1) 28 p (nI l)) 29 p (-1)) 27 p (s 27 p + 1)
def layEF (s : SS) (l : Nat) : SS := uS (layF s (-2) l) 20 l (s 20 l + 1)
def ticksF (s : SS) (p l : Nat) : Int32 := (wsum s l (nat (s 8 l)) + s 26 p + s 2 l - 1) / s 2 l
def betterF (s : SS) (p l m : Nat) : Bool :=
  if s 23 p = 2 ∧ ¬ s 30 (8 * p + l) = s 30 (8 * p + m) then decide (s 30 (8 * p + l) < s 30 (8 * p + m))
  else if ticksF s p l = ticksF s p m then decide (s 18 l < s 18 m) else decide (ticksF s p l < ticksF s p m)
def betterO (s : SS) (p l : Nat) (o : Option Nat) : Bool := match o with
  | none => true
  | some m => betterF s p l m
def blF (s : SS) (p : Nat) : Nat → Option Nat
  | 0 => none
  | n + 1 => if ¬ s 4 n = 0 ∧ s 8 n < 40 ∧ betterO s p n (blF s p n) = true then some n else blF s p n
def credF (s : SS) : Nat → Int32
  | 0 => s 0 44
  | n + 1 => credF s n - (if ¬ s 23 n = 0 ∧ s 0 33 ≤ s 24 n then s 26 n else 0)
/-- the LOST ones laid, from the d-th last piece on; whether it stopped for want of a line -/
def layL (nl np : Nat) : Nat → SS → SS × Bool
  | 0, s => (s, false)
  | d + 1, s => if s 23 (np - (d + 1)) = 2 then (match blF s (np - (d + 1)) nl with
    | none => (s, true)
    | some l => layL nl np d (layOnF s (np - (d + 1)) l)) else layL nl np d s
def layN (nl np : Nat) : Nat → Int32 → SS → SS
  | 0, _, s => s
  | d + 1, left, s => if s 23 (np - (d + 1)) = 0 then (match blF s (np - (d + 1)) nl with
    | none => s
    | some l => if left < s 26 (np - (d + 1)) then s else layN nl np d (left - s 26 (np - (d + 1))) (layOnF s (np - (d + 1)) l)) else layN nl np d left s
def layingF (nl np : Nat) (s : SS) : SS := match layL nl np np s with
  | (t, true) => t
  | (t, false) => layN nl np np (credF t np) t
def alw (s : SS) (l t : Nat) : Nat → Int32
  | 0 => s 5 l
  | k + 1 => alw s l t k - s 22 (20 * l + (t - (k + 1)) % 20)
def allowedF (s : SS) (l t : Nat) : Int32 := if s 1 l = 3 then
    (if alw s l t (min (nat (s 6 l)) t - 1) < 0 then 0 else if alw s l t (min (nat (s 6 l)) t - 1) < s 2 l then alw s l t (min (nat (s 6 l)) t - 1) else s 2 l)
  else s 2 l
/-- a queue's row one place on, its first n places -/
def shF (s : SS) (l n : Nat) : SS := fun j k => if j = 7 ∧ 41 * l ≤ k ∧ k < 41 * l + n then s 7 (k + 1) else s j k
def wayF (s : SS) (l : Nat) : Nat := 200 * l + (nat (s 14 l) + nat (s 15 l)) % 200
/-- the first piece of the queue is sent -/
def sFF (s : SS) (l : Nat) : SS :=
  let p := s 7 (41 * l)
  let a := uS (shF (uS s 8 l (s 8 l - 1)) l (nat (s 8 l) - 1)) 9 l 0
  let b := uS (uS (uS (uS (uS a 15 l (s 15 l + 1)) 10 (wayF s l) p) 11 (wayF s l) (s 16 l)) 12 (wayF s l) (s 0 45 + s 3 l)) 13 (wayF s l) 0
  uS (if p = -2 then b else uS b 29 (nat p) (s 16 l)) 16 l (s 16 l + 1)
def sndF (t l : Nat) : Nat → Int32 → SS → SS
  | 0, _, s => s
  | n + 1, left, s => if 0 < left ∧ 0 < s 8 l ∧ s 15 l < 200 then
      (if s 1 l = 0 ∧ left < szo s (s 7 (41 * l)) - s 9 l then s
       else if szo s (s 7 (41 * l)) - s 9 l ≤ left then
         sndF t l n (left - (szo s (s 7 (41 * l)) - s 9 l)) (sFF (uS (uS (uS s 9 l (s 9 l + (szo s (s 7 (41 * l)) - s 9 l))) 18 l (s 18 l + (szo s (s 7 (41 * l)) - s 9 l))) 22 (20 * l + t % 20) (s 22 (20 * l + t % 20) + (szo s (s 7 (41 * l)) - s 9 l))) l)
       else uS (uS (uS s 9 l (s 9 l + left)) 18 l (s 18 l + left)) 22 (20 * l + t % 20) (s 22 (20 * l + t % 20) + left))
    else s
def sendingF (t l : Nat) (s : SS) : SS := if s 4 l = 0 then uS s 22 (20 * l + t % 20) 0 else sndF t l 41 (allowedF (uS s 22 (20 * l + t % 20) 0) l t) (uS s 22 (20 * l + t % 20) 0)
def hitF (s : SS) (l q : Nat) (c : Int32) : Bool := decide (s 23 q = 1) && (decide (s 28 q = nI l) && (decide (s 17 l ≤ s 29 q) && decide (s 29 q ≤ c - 1)))
def lsF (l : Nat) (c : Int32) : Nat → SS → SS
  | 0, s => s
  | q + 1, s => if hitF (lsF l c q s) l q c = true then loseF (lsF l c q s) q l else lsF l c q s
def comesF (np l : Nat) (v c : Int32) (s : SS) : SS :=
  let a := uS (if s 17 l < c then lsF l c np s else s) 17 l (c + 1)
  if v = -2 then a else uS a 23 (nat v) 3
def cmF (np l : Nat) : Nat → SS → SS
  | 0, s => s
  | n + 1, s => if 0 < s 15 l ∧ s 12 (200 * l + nat (s 14 l)) = s 0 45 then
      (if s 13 (200 * l + nat (s 14 l)) &&& 1 = 1 then cmF np l n (uS (uS s 14 l (nI ((nat (s 14 l) + 1) % 200))) 15 l (s 15 l - 1))
       else if 1 < s 13 (200 * l + nat (s 14 l)) then cmF np l n (uS (uS (uS s 14 l (nI ((nat (s 14 l) + 1) % 200))) 15 l (s 15 l - 1)) 21 l (s 21 l + 1))
       else cmF np l n (comesF np l (s 10 (200 * l + nat (s 14 l))) (s 11 (200 * l + nat (s 14 l))) (uS (uS s 14 l (nI ((nat (s 14 l) + 1) % 200))) 15 l (s 15 l - 1))))
    else s
def allT (s : SS) (a : Nat) : Nat → Bool
  | 0 => true
  | n + 1 => allT s a n && decide (s 23 (a + n) = 3)
def wholeF (s : SS) (f : Nat) : Bool := allT s (nat (s 32 f)) (nat (s 33 f))
def gvF : Nat → SS → SS
  | 0, s => s
  | d + 1, s => if s 0 33 < s 0 32 ∧ wholeF s (nat (s 0 33)) = true then gvF d (uS (uS s 34 (nat (s 0 33)) (s 0 45)) 0 33 (s 0 33 + 1)) else s
def restF (l : Nat) (s : SS) : SS := if ¬ s 4 l = 0 ∧ s 8 l = 0 ∧ s 15 l = 0 ∧ s 17 l < s 16 l then layEF s l else s
/-- on each line, by numbers -/
def onL (f : Nat → SS → SS) : Nat → SS → SS
  | 0, s => s
  | l + 1, s => f l (onL f l s)
/-- one tick: to the time t -/
def stepF (nl nf np t : Nat) (s : SS) : SS := onL restF nl (gvF (nf + 1) (onL (fun l => cmF np l 201) nl (onL (sendingF t) nl (layingF nl np (uS s 0 45 (nI t))))))
def tickF (nl nf np t : Nat) : Nat → SS → SS
  | 0, s => s
  | n + 1, s => stepF nl nf np (t + n + 1) (tickF nl nf np t n s)
