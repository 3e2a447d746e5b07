/-! ===== what is worked out of text and town, said once for class and reference ===== -/
def mI : Int32 := -1
theorem m_1 : (-1 : Int32) = mI := rfl
def fit (tx : Nat → Nat) (p : Nat) : Bool :=
  if p % 5 = 1 then decide (48 ≤ tx p ∧ tx p ≤ 52) else if p % 5 = 3 then decide (48 ≤ tx p ∧ tx p ≤ 57 ∧ ¬ (tx p = 48 ∧ tx (p - 1) = 48)) else if p % 5 = 4 then decide (tx p = 59) else decide (48 ≤ tx p ∧ tx p ≤ 57)
def ff (tx : Nat → Nat) : Nat → Nat
  | 0 => 0
  | n + 1 => if ff tx n < n then ff tx n else if fit tx n = true then n + 1 else n
def flt (tx : Nat → Nat) (n : Nat) : Int32 := if ff tx n < n then nI (ff tx n) else if n = 0 ∨ n % 5 = 4 then mI else nI n
def nb (tx : Nat → Nat) (n : Nat) : Nat := if ff tx n < n then 0 else if n = 0 ∨ n % 5 = 4 then (n + 1) / 5 else 0
def evk (tx : Nat → Nat) (k : Nat) : Nat := tx (5 * k) - 48
def bdk (tx : Nat → Nat) (k : Nat) : Nat := tx (5 * k + 1) - 48
def amk (tx : Nat → Nat) (k : Nat) : Nat := 10 * (tx (5 * k + 2) - 48) + (tx (5 * k + 3) - 48)
def updN (f : Nat → Nat) (i v : Nat) : Nat → Nat := fun j => if j = i then v else f j
def amX (tx l : Nat → Nat) (e : Nat) : Nat := if l e = 0 then 0 else amk tx (l e - 1)
def ldX (tx l : Nat → Nat) (e : Nat) : Int32 := if l e = 0 then mI else nI (bdk tx (l e - 1))
def ldM (l : Nat → Nat) (e : Nat) : Int32 := if l e = 0 then mI else nI (l e - 1)
noncomputable def bsum (tx l : Nat → Nat) (b : Nat) : Nat → Nat
  | 0 => 0
  | m + 1 => bsum tx l b m + (if l m ≠ 0 ∧ bdk tx (l m - 1) = b then amk tx (l m - 1) else 0)
def bsx (tx l : Nat → Nat) (b x : Nat) : Nat → Nat
  | 0 => 0
  | m + 1 => bsx tx l b x m + (if m ≠ x ∧ l m ≠ 0 ∧ bdk tx (l m - 1) = b then amk tx (l m - 1) else 0)
noncomputable def hd (tx pu rs : Nat → Nat) (st : Nat) (l : Nat → Nat) (k : Nat) : Bool :=
  decide (rs (evk tx k) ≤ amk tx k ∧ (l (evk tx k) = 0 ∨ amk tx (l (evk tx k) - 1) + st ≤ amk tx k) ∧ ¬ (l (evk tx k) ≠ 0 ∧ bdk tx (l (evk tx k) - 1) = bdk tx k) ∧ bsum tx l (bdk tx k) 10 + amk tx k ≤ pu (bdk tx k))
noncomputable def jl (tx pu rs : Nat → Nat) (st ex : Nat) : Nat → Nat → Nat
  | 0 => fun _ => 0
  | k + 1 => if k ≠ ex ∧ hd tx pu rs st (jl tx pu rs st ex k) k = true then updN (jl tx pu rs st ex k) (evk tx k) (k + 1) else jl tx pu rs st ex k
noncomputable def hld (tx pu rs : Nat → Nat) (st ex k : Nat) : Bool := decide (k ≠ ex ∧ hd tx pu rs st (jl tx pu rs st ex k) k = true)
noncomputable def jsec (tx pu rs : Nat → Nat) (st ex : Nat) : Nat → Nat → Nat
  | 0 => fun _ => 0
  | k + 1 => if hld tx pu rs st ex k = true then updN (jsec tx pu rs st ex k) (evk tx k) (amX tx (jl tx pu rs st ex k) (evk tx k)) else jsec tx pu rs st ex k
noncomputable def nh (tx pu rs : Nat → Nat) (st ex : Nat) : Nat → Nat
  | 0 => 0
  | k + 1 => nh tx pu rs st ex k + (if hld tx pu rs st ex k = true then 1 else 0)
noncomputable def fn (tx pu rs : Nat → Nat) (st ex : Nat) : Nat → Nat
  | 0 => 0
  | k + 1 => if fn tx pu rs st ex k ≠ 0 then fn tx pu rs st ex k else if hld tx pu rs st ex k = true ∨ k = ex then 0 else k + 1
/-- the greatest of a and f below n -/
def mxE (f : Nat → Nat) : Nat → Nat → Nat
  | 0, a => a
  | n + 1, a => max (mxE f n a) (f n)
/-- the first below n with P, else n -/
def fe (P : Nat → Bool) : Nat → Nat
  | 0 => 0
  | n + 1 => if fe P n < n then fe P n else if P n = true then n else n + 1
def smE (f : Nat → Nat) : Nat → Nat
  | 0 => 0
  | n + 1 => smE f n + f n
/-- most for the last d bidders, evenings in t taken, bidder ex left out -/
def mo (va : Nat → Nat → Nat) (ex : Nat) : Nat → Nat → Nat
  | 0, _ => 0
  | d + 1, t => if 4 - d = ex then mo va ex d t else mxE (fun e => if t.testBit e = true then 0 else va (4 - d) e + mo va ex d (t ||| 2 ^ e)) 10 (mo va ex d t)
def chc (va : Nat → Nat → Nat) (b t : Nat) : Nat := if mo va 5 (4 - b) t = mo va 5 (5 - b) t then 0 else fe (fun e => !t.testBit e && decide (va b e + mo va 5 (4 - b) (t ||| 2 ^ e) = mo va 5 (5 - b) t)) 10 + 1
/-- what is taken ahead of bidder b -/
def cT (va : Nat → Nat → Nat) : Nat → Nat
  | 0 => 0
  | b + 1 => if chc va b (cT va b) = 0 then cT va b else cT va b ||| 2 ^ (chc va b (cT va b) - 1)
def cc (va : Nat → Nat → Nat) (b : Nat) : Nat := chc va b (cT va b)
/-- a club's worth -/
def gvE (va : Nat → Nat → Nat) (x e : Nat) : Nat := mxE (fun b => if x.testBit b = true then va b e else 0) 5 0
def cw (va : Nat → Nat → Nat) (rs : Nat → Nat) (x : Nat) : Nat := smE (fun e => gvE va x e - rs e) 10
