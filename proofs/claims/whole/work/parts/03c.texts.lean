/-! ===== texts: what the JDK's members answer upon the literals ===== -/
def qch (s k : Nat) : Int := ((qsT s).getD k 0).toInt
def qix (c : Int) : List Int32 → Int → Int
  | [], _ => -1
  | b :: l, k => if b.toInt = c then k else qix c l (k + 1)
def DJ0_length_8abf5 (s0 : Nat) (h : qH) : Option (Int × qH) := some (((qsT s0).length : Int), h)
def DJ0_charAt_5068e (s0 : Nat) (a1 : Int) (h : qH) : Option (Int × qH) := if 0 ≤ a1 ∧ a1 < ((qsT s0).length : Int) then some (qch s0 a1.toNat, h) else none
def DJ0_indexOf_0f7a4 (s0 : Nat) (a1 : Int) (h : qH) : Option (Int × qH) := some (qix a1 (qsT s0) 0, h)
theorem TJ0_length_8abf5 {L : Nat} {xs : Nat → Int32} (s0 : Nat) (t0 : s0 < 31) (h : qH) : qMet L xs yJ0_length_8abf5 cJ0_length_8abf5 1 (some .int) 1 2 [qr (300 + 2 * s0)] h (DJ0_length_8abf5 s0 h) := by
  sorry
theorem TJ0_charAt_5068e {L : Nat} {xs : Nat → Int32} (s0 : Nat) (a1 : Int) (t0 : s0 < 31) (h : qH) : qMet L xs yJ0_charAt_5068e cJ0_charAt_5068e 2 (some .char) 5 5 [qr (300 + 2 * s0), qi a1] h (DJ0_charAt_5068e s0 a1 h) := by
  sorry
theorem TJ0_indexOf_0f7a4 {L : Nat} {xs : Nat → Int32} (s0 : Nat) (a1 : Int) (t0 : s0 < 31) (h : qH) : qMet L xs yJ0_indexOf_0f7a4 cJ0_indexOf_0f7a4 2 (some .int) 1 7 [qr (300 + 2 * s0), qi a1] h (DJ0_indexOf_0f7a4 s0 a1 h) := by
  sorry
