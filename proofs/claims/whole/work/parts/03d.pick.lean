section qpick
variable {L : Nat} {xs : Nat → Int32} {cc : ByteArray} {own : String} {nL d rk pc : Nat} {lv : List (Nat × qV)} {st : List qV} {h : qH} {x : Option (Int × qH)}
theorem S_pick_t (c : Prop) [Decidable c] (hc : c) (k : qS L xs cc own nL d rk pc lv st h (if c then x else none)) : qS L xs cc own nL d rk pc lv st h x := by
  rw [if_pos hc] at k
  exact k
theorem S_pick_f (c : Prop) [Decidable c] (hc : ¬ c) (k : qS L xs cc own nL d rk pc lv st h (if c then none else x)) : qS L xs cc own nL d rk pc lv st h x := by
  rw [if_neg hc] at k
  exact k
end qpick
