/-! ===== what a tide keeps of a bottle ===== -/
theorem cB.grow {A : Nat → Int} {N M : Int} {v : Nat → Int} (b : cB A N v) (h : N ≤ M) : cB A M v := by
  obtain ⟨b0, b1, b2, b3, b4, b5, b6, b7, b8⟩ := b
  exact ⟨b0, b1, b2, b3, b4, b5, b6, ⟨b7.1, b7.2.1, by omega⟩, b8⟩
theorem cG.is {A : Nat → Int} (G : cG A) {k : Int} (h0 : 0 ≤ k) (h1 : k < A 1 * A 2) : A (14 + k.toNat) = 0 ∨ A (14 + k.toNat) = 1 ∨ (10 ≤ A (14 + k.toNat) ∧ A (14 + k.toNat) < 10 + A 4) := by
  have := G.cells
  exact G.2.2.2.2.2.2.1 k.toNat (by omega)
theorem cv_step_o {A : Nat → Int} {way : Int} {v : Nat → Int} {j : Nat} (hj : 2 ≤ j) : cv_step A way v j = v j := by
  unfold cv_step
  split
  · rfl
  · rw [up_n _ _ (by omega), up_n _ _ (by omega)]
theorem cB_step {A : Nat → Int} (G : cG A) {N way : Int} {v : Nat → Int} (b : cB A N v) : v 0 = 0 → cB A N (cv_step A way v) := by
  intro h0
  have o : ∀ j, 2 ≤ j → cv_step A way v j = v j := fun j hj => cv_step_o hj
  obtain ⟨b0, b1, b2, b3, b4, b5, b6, b7, b8⟩ := b
  unfold cB
  rw [o 2 (by omega), o 3 (by omega), o 4 (by omega), o 5 (by omega), o 6 (by omega), o 7 (by omega)]
  have hr := cv_bes_r G (way := way) b1.1 b1.2
  by_cases hm : cv_bes A (v 1) way = -1
  · have e : cv_step A way v = v := by unfold cv_step; rw [if_pos hm]
    rw [e]
    exact ⟨b0, b1, b2, b3, b4, b5, b6, b7, b8⟩
  · have hr2 : 0 ≤ cv_bes A (v 1) way ∧ cv_bes A (v 1) way < A 1 * A 2 := by
      rcases hr with hr | hr
      · exact absurd hr hm
      · exact hr
    have hi := G.is hr2.1 hr2.2
    have e : cv_step A way v = up (up v 1 (cv_bes A (v 1) way)) 0 (if A (14 + (cv_bes A (v 1) way).toNat) = 0 then 0 else if A (14 + (cv_bes A (v 1) way).toNat) = 1 then 3 else 1) := by unfold cv_step; rw [if_neg hm]
    have e1 : cv_step A way v 1 = cv_bes A (v 1) way := by rw [e, up_n _ _ (by decide), up_s]
    have e0 : cv_step A way v 0 = (if A (14 + (cv_bes A (v 1) way).toNat) = 0 then 0 else if A (14 + (cv_bes A (v 1) way).toNat) = 1 then 3 else 1) := by rw [e, up_s]
    rw [e0, e1]
    refine ⟨?_, hr2, ?_, ?_, b4, b5, b6, b7, b8⟩
    · split
      · omega
      · split <;> omega
    · intro g
      split at g
      · assumption
      · split at g <;> omega
    · intro g
      split at g
      · omega
      · split at g
        · omega
        · rcases hi with hi | hi | hi
          · contradiction
          · contradiction
          · exact hi.1
theorem cv_cur_o {A : Nat → Int} {t : Int} {v : Nat → Int} {j : Nat} (hj : 2 ≤ j) : cv_cur A t v j = v j := by
  unfold cv_cur
  split
  · exact cv_step_o hj
  · rfl
theorem cB_cur {A : Nat → Int} (G : cG A) {N t : Int} {v : Nat → Int} (b : cB A N v) : cB A N (cv_cur A t v) := by
  unfold cv_cur
  split
  · next h => exact cB_step G b h
  · exact b
theorem cB_cur2 {A : Nat → Int} (G : cG A) {N t : Int} {v : Nat → Int} (b : cB A N v) : cB A N (cv_cur2 A t v) := by
  unfold cv_cur2
  split
  · exact cB_cur G b
  · exact b
theorem cv_cur2_o {A : Nat → Int} {t : Int} {v : Nat → Int} {j : Nat} (hj : 2 ≤ j) : cv_cur2 A t v j = v j := by
  unfold cv_cur2
  split
  · exact cv_cur_o hj
  · rfl
theorem cB_blow {A : Nat → Int} (G : cG A) {N t : Int} {v : Nat → Int} (b : cB A N v) : cB A N (cv_blow A t v) := by
  unfold cv_blow
  split
  · next h => exact cB_step G b h.1
  · exact b
theorem cv_go_o {A : Nat → Int} {t : Int} {v : Nat → Int} {j : Nat} (hj : 2 ≤ j) : cv_go A t v j = v j := by
  unfold cv_go cv_blow
  split
  · rw [cv_step_o hj, cv_cur2_o hj, cv_cur_o hj]
  · rw [cv_cur2_o hj, cv_cur_o hj]
theorem cB_go {A : Nat → Int} (G : cG A) {N t : Int} {v : Nat → Int} (b : cB A N v) : cB A N (cv_go A t v) := cB_blow G (cB_cur2 G (cB_cur G b))
theorem cv_go_id {A : Nat → Int} {t : Int} {v : Nat → Int} (h : ¬ v 0 = 0) : cv_go A t v = v := by
  have e1 : cv_cur A t v = v := by unfold cv_cur; rw [if_neg h]
  have e2 : cv_cur2 A t v = v := by unfold cv_cur2; rw [e1]; split <;> rfl
  unfold cv_go
  rw [e1, e2]
  unfold cv_blow
  rw [if_neg (fun g => h g.1)]
theorem cB_age {A : Nat → Int} {N : Int} {c : Bool} {v : Nat → Int} (b : cB A N v) : cB A (N + 1) (cv_age A c v) ∧ (cv_age A c v) 6 + 1 ≤ (cv_age A c v) 5 ∧ ((cv_age A c v) 0 = v 0 ∨ (cv_age A c v) 0 = 4) := by
  obtain ⟨b0, b1, b2, b3, b4, b5, b6, b7, b8⟩ := b
  unfold cv_age
  split
  · refine ⟨⟨?_, ?_, ?_, ?_, ?_, ?_, ?_, ?_, ?_⟩, ?_, ?_⟩ <;> simp only [up, if_true, if_false, Nat.reduceEqDiff, reduceIte] <;> first | omega | exact b6 | (intro h; omega) | exact Or.inr trivial | exact Or.inl trivial | skip
  · refine ⟨⟨?_, ?_, ?_, ?_, ?_, ?_, ?_, ?_, ?_⟩, ?_, ?_⟩ <;> simp only [up, if_true, if_false, Nat.reduceEqDiff, reduceIte] <;> first | omega | exact b2 | exact b3 | exact b6 | exact Or.inr trivial | exact Or.inl trivial | skip
theorem cB_sh {A : Nat → Int} (G : cG A) {N : Int} {v : Nat → Int} (b : cB A N v) (h : v 0 = 1) : 0 ≤ cv_sh A v ∧ cv_sh A v < A 4 := by
  obtain ⟨b0, b1, b2, b3, b4, b5, b6, b7, b8⟩ := b
  have hi := G.is b1.1 b1.2
  have := b3 h
  unfold cv_sh
  omega
theorem cB_find {A : Nat → Int} (G : cG A) {N e t : Int} {v : Nat → Int} (b : cB A N v) (h : v 0 = 1) (hp : v 6 + 1 ≤ v 5) : cB A N (cv_find A e t v) := by
  have hs := cB_sh G b h
  have h4 := G.2.2.1
  have ht := cv_to_r G hs.1 hs.2
  obtain ⟨b0, b1, b2, b3, b4, b5, b6, b7, b8⟩ := b
  unfold cv_find
  split
  · exact ⟨b0, b1, b2, b3, b4, b5, b6, b7, b8⟩
  · split
    · refine ⟨?_, ?_, ?_, ?_, ?_, ?_, ?_, ?_, ?_⟩ <;> simp only [up, if_true, if_false, Nat.reduceEqDiff, reduceIte] <;> first | omega | exact b6 | (intro h; omega) | skip
    · unfold cv_pass
      split
      · refine ⟨?_, ?_, ?_, ?_, ?_, ?_, ?_, ?_, ?_⟩ <;> simp only [up, if_true, if_false, Nat.reduceEqDiff, reduceIte] <;> first | omega | exact b2 | exact b3 | exact b6 | skip
      · next hne =>
        have ht2 : 0 ≤ cv_to A (cv_sh A v) ∧ cv_to A (cv_sh A v) < A 1 * A 2 ∧ A (14 + (cv_to A (cv_sh A v)).toNat) = 0 := by
          rcases ht with ht | ht
          · exact absurd ht hne
          · exact ht
        refine ⟨?_, ?_, ?_, ?_, ?_, ?_, ?_, ?_, ?_⟩ <;> simp only [up, if_true, if_false, Nat.reduceEqDiff, reduceIte] <;> first | omega | exact ⟨ht2.1, ht2.2.1⟩ | (intro _; exact ht2.2.2) | exact b6 | (intro h; omega) | skip
theorem cB_tide {A : Nat → Int} (G : cG A) {N e t : Int} {c : Bool} {v : Nat → Int} (b : cB A N v) : cB A (N + 1) (cv_tide A e t c v) := by
  unfold cv_tide
  split
  · split
    · obtain ⟨g1, g2, g3⟩ := cB_age (c := c) (cB_go G (t := t) b)
      unfold cv_end
      split
      · next h => exact cB_find G g1 h g2
      · exact g1
    · exact (cB_go G b).grow (by omega)
  · exact b.grow (by omega)
/-! only the phase and the moon of a tide tell -/
theorem cv_tide_c {A : Nat → Int} {e t t' : Int} {c : Bool} {v : Nat → Int} (h1 : cv_ph A t = cv_ph A t') (h2 : cv_mo A t = cv_mo A t') : cv_tide A e t c v = cv_tide A e t' c v := by
  have e1 : ∀ v, cv_cur A t v = cv_cur A t' v := fun v => by unfold cv_cur; rw [h1]
  have e2 : ∀ v, cv_cur2 A t v = cv_cur2 A t' v := fun v => by unfold cv_cur2; rw [h2, e1]
  have e3 : ∀ v, cv_blow A t v = cv_blow A t' v := fun v => by unfold cv_blow; rw [h1, h2]
  have e4 : ∀ v, cv_go A t v = cv_go A t' v := fun v => by unfold cv_go; rw [e1, e2, e3]
  have e5 : ∀ v, cv_end A e t v = cv_end A e t' v := fun v => by unfold cv_end cv_find; rw [h1]
  unfold cv_tide
  rw [e4, e5]
theorem cv_ph_a {A : Nat → Int} {t t' : Int} (h : cv_ph A t = cv_ph A t') (n : Int) : cv_ph A (t + n) = cv_ph A (t' + n) := by
  unfold cv_ph at *
  rw [Int.add_emod, h, ← Int.add_emod]
theorem cv_mo_a {A : Nat → Int} {t t' : Int} (h : cv_mo A t = cv_mo A t') (n : Int) : cv_mo A (t + n) = cv_mo A (t' + n) := by
  unfold cv_mo at *
  split
  · rfl
  · next g =>
    rw [if_neg g, if_neg g] at h
    rw [Int.add_emod, h, ← Int.add_emod]
