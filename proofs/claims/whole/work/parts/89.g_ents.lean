/-! the plans of a set as the reference lists them; their codes -/
abbrev Ent : Type := Nat × Nat × Int32 × Nat × Nat
def eC (e : Ent) : Nat := e.1
def eL (e : Ent) : Nat := e.2.1
def eK (e : Ent) : Int32 := e.2.2.1
def eA (e : Ent) : Nat := e.2.2.2.1
def eB (e : Ent) : Nat := e.2.2.2.2
def bc (S : Nat) : Nat := S % 2 + S / 2 % 2 + S / 4 % 2 + S / 8 % 2
def dg (S : Nat) : Nat := 2 * bc S - 1
def mkc (k l a r b : Nat) : Nat := ((4 + k) * 8 ^ dg l + a) * 8 ^ dg r + b
/-- l is a part of S, not empty and not S -/
def sub1 (S l : Nat) : Bool := l != 0 && (l != S && (l &&& S == l))
/-- the codes of all plans, if all tables are paired -/
def akb (E : Nat → List Nat) (l r k : Nat) : List Nat := (E l).flatMap fun a => (E r).map fun b => mkc k l a r b
def ablk (E : Nat → List Nat) (S l : Nat) : List Nat := if sub1 S l = true then akb E l (S - l) 0 ++ (akb E l (S - l) 1 ++ akb E l (S - l) 2) else []
def ajl (E : Nat → List Nat) (S : Nat) : Nat → List Nat
  | 0 => []
  | n + 1 => ajl E S n ++ ablk E S n
def arl (S : Nat) : Nat → List Nat
  | 0 => []
  | t + 1 => arl S t ++ (if S = 2 ^ t then [t] else [])
def acd : Nat → Nat → List Nat
  | 0, _ => []
  | f + 1, S => arl S 4 ++ ajl (acd f) S S
/-- reading a code: where its left part ends -/
def scn (n c : Nat) : Nat → Nat → Nat → Nat
  | 0, i, _ => i
  | f + 1, i, need => if need = 0 then i else scn n c f (i + 1) (if c / 8 ^ (n - 1 - i) % 8 < 4 then need - 1 else need + 1)
def msk : Nat → Nat → Nat
  | 0, _ => 0
  | n + 1, c => msk n (c / 8) + (if c % 8 < 4 then 2 ^ (c % 8) else 0)
def dcd (n c : Nat) : Nat × Nat × Nat × Nat := let i := scn n c 8 1 1; (c / 8 ^ (n - 1) - 4, msk (i - 1) (c / 8 ^ (n - i) % 8 ^ (i - 1)), c / 8 ^ (n - i) % 8 ^ (i - 1), c % 8 ^ (n - i))
theorem dcdB : ((List.range 16).all fun S => (List.range S).all fun l => !(sub1 S l) || (List.range 3).all fun k => (acd 4 l).all fun a => (acd 4 (S - l)).all fun b => dcd (dg S) (mkc k l a (S - l) b) == (k, l, a, b)) = true := by decide +kernel
theorem totB : ((List.range 16).map fun S => (acd 4 S).length).sum = 3712 := by decide +kernel
