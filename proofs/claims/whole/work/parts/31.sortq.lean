def ccw (f g : Nat → Bool) : List Nat → Nat
  | [] => 0
  | a :: l => if f a = true then (if g a = true then 1 else 0) + ccw f g l else 0
def nths (g : Nat → Bool) (x : Int32) : List Nat → Nat → Option Nat
  | [], _ => none
  | a :: l, s => if g a = true then (if nI s = x then some a else nths g x l (s + 1)) else nths g x l s
