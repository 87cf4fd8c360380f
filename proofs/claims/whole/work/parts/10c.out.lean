/-! ===== a throw and what comes of it ===== -/
def cv_new (f to hv k : Int) : Nat → Int := fun j => if j = 0 then 0 else if j = 1 then k else if j = 2 then f else if j = 3 then to else if j = 4 then hv else if j = 7 then -1 else 0
theorem cB_new {A : Nat → Int} {f to hv k : Int} (k0 : 0 ≤ k ∧ k < A 1 * A 2) (k1 : A (14 + k.toNat) = 0) (hf : -1 ≤ f ∧ f < 6) (ht : -1 ≤ to ∧ to < 6) (hh : hv = 0 ∨ hv = 1) : cB A 0 (cv_new f to hv k) := by
  refine ⟨by show (0 : Int) ≤ 0 ∧ (0 : Int) ≤ 5; decide, k0, fun _ => k1, fun g => absurd g (by show ¬ (0 : Int) = 1; decide), hf, ht, hh, by show (0 : Int) ≤ 0 ∧ (0 : Int) ≤ 0 ∧ (0 : Int) ≤ 0; decide, by show (-1 : Int) ≤ -1 ∧ (-1 : Int) < 6; decide⟩
theorem cv_new_on (f to hv k : Int) : cv_on (cv_new f to hv k) := Or.inl rfl
theorem c_launch {f to hv k : Int} {i : Nat} (hh : hv = 0 ∨ hv = 1) (h : qH) : ∃ h', DX0_launch i f to hv k h = some (0, h') ∧ nb (h'.1 i) = cv_new f to hv k := by
  unfold DX0_launch
  simp only [qlt]
  rw [if_pos hh]
  refine ⟨_, rfl, ?_⟩
  rw [qu_s, qu_s, qu_s, qu_s, qu_s, qu_s, qu_s, qu_s]
  funext j
  unfold nb up cv_new
  have : j = 0 ∨ j = 1 ∨ j = 2 ∨ j = 3 ∨ j = 4 ∨ j = 5 ∨ j = 6 ∨ j = 7 ∨ 8 ≤ j := by omega
  rcases this with rfl | rfl | rfl | rfl | rfl | rfl | rfl | rfl | g
  · rfl
  · rfl
  · rfl
  · rfl
  · rfl
  · rfl
  · rfl
  · rfl
  · rw [if_neg (by omega), if_neg (by omega), if_neg (by omega), if_neg (by omega), if_neg (by omega), if_neg (by omega), if_neg (by omega)]
theorem m_thrown {f to a3 k : Int} (h : qH) : ∃ h', DX10_isThrown f to a3 k h = some (0, h') ∧ nb (h'.1 217) = cv_new f to (if a3 = 0 then 0 else 1) k := by
  unfold DX10_isThrown DX10_isThrown_b43
  simp only [qlt]
  have h4 : (0 : Int) ≤ 4 ∧ (4 : Int) < 8 := by decide
  simp only [if_pos h4]
  have key : ∀ x : Int, nb ((qu (qu (qu (qu (qu (qu (qu (qu h 217 0 0) 217 1 k) 217 2 f) 217 3 to) 217 (Int.toNat 4) x) 217 5 0) 217 6 0) 217 7 (-1)).1 217) = cv_new f to x k := by
    intro x
    rw [qu_s, qu_s, qu_s, qu_s, qu_s, qu_s, qu_s, qu_s]
    funext j
    unfold nb up cv_new
    have : j = 0 ∨ j = 1 ∨ j = 2 ∨ j = 3 ∨ j = 4 ∨ j = 5 ∨ j = 6 ∨ j = 7 ∨ 8 ≤ j := by omega
    rcases this with rfl | rfl | rfl | rfl | rfl | rfl | rfl | rfl | g
    · rfl
    · rfl
    · rfl
    · rfl
    · rfl
    · rfl
    · rfl
    · rfl
    · rw [if_neg (by omega), if_neg (by omega), if_neg (by omega), if_neg (by omega), if_neg (by omega), if_neg (by omega), if_neg (by omega)]
  by_cases e : a3 = 0
  · rw [if_pos e, if_pos e]
    exact ⟨_, rfl, key 0⟩
  · rw [if_neg e, if_neg e]
    exact ⟨_, rfl, key 1⟩
noncomputable def cv_out (A : Nat → Int) (e f to hv t : Int) : Int :=
  if (cv_set A e t 200 0 (cv_new f to hv (cv_to A f))).2 0 = 2 then (cv_set A e t 200 0 (cv_new f to hv (cv_to A f))).1 * 8 + (cv_set A e t 200 0 (cv_new f to hv (cv_to A f))).2 7 + 2 else 1
theorem cv_set_c {A : Nat → Int} {e t t' : Int} (h1 : cv_ph A t = cv_ph A t') (h2 : cv_mo A t = cv_mo A t') : ∀ (m k : Nat) (v : Nat → Int), cv_set A e t m k v = cv_set A e t' m k v := by
  intro m
  induction m with
  | zero =>
    intro k v
    rfl
  | succ m ih =>
    intro k v
    unfold cv_set
    rw [cv_tide_c (cv_ph_a h1 (k : Int)) (cv_mo_a h2 (k : Int)), ih]
theorem cv_out_c {A : Nat → Int} {e f to hv t t' : Int} (h1 : cv_ph A t = cv_ph A t') (h2 : cv_mo A t = cv_mo A t') : cv_out A e f to hv t = cv_out A e f to hv t' := by
  unfold cv_out
  rw [cv_set_c h1 h2]
/-- who is kept has a keeper -/
def cK (v : Nat → Int) : Prop := v 0 = 2 → 0 ≤ v 7
theorem cv_step_2 {A : Nat → Int} {way : Int} {v : Nat → Int} (h : ¬ v 0 = 2) : ¬ cv_step A way v 0 = 2 := by
  unfold cv_step
  split
  · exact h
  · rw [up_s]
    (repeat' split) <;> decide
theorem cv_go_2 {A : Nat → Int} {t : Int} {v : Nat → Int} (h : ¬ v 0 = 2) : ¬ cv_go A t v 0 = 2 := by
  have e1 : ∀ v, ¬ v 0 = 2 → ¬ cv_cur A t v 0 = 2 := by
    intro v h
    unfold cv_cur
    split
    · exact cv_step_2 h
    · exact h
  have e2 : ∀ v, ¬ v 0 = 2 → ¬ cv_cur2 A t v 0 = 2 := by
    intro v h
    unfold cv_cur2
    split
    · exact e1 v h
    · exact h
  unfold cv_go cv_blow
  split
  · exact cv_step_2 (e2 _ (e1 _ h))
  · exact e2 _ (e1 _ h)
theorem cK_tide {A : Nat → Int} (G : cG A) {N e t : Int} {c : Bool} {v : Nat → Int} (b : cB A N v) (k : cK v) : cK (cv_tide A e t c v) := by
  unfold cv_tide
  split
  · next hon =>
    have h2 : ¬ cv_go A t v 0 = 2 := cv_go_2 (by omega)
    split
    · obtain ⟨g1, g2, g3⟩ := cB_age (c := c) (cB_go G (t := t) b)
      have h3 : ¬ cv_age A c (cv_go A t v) 0 = 2 := by omega
      unfold cv_end
      split
      · next h1 =>
        have hs := cB_sh G g1 h1
        unfold cv_find
        split
        · intro q
          omega
        · split
          · intro _
            rw [up_s]
            exact hs.1
          · unfold cv_pass
            split
            · intro q
              rw [up_n _ _ (by decide)] at q
              omega
            · intro q
              rw [up_s] at q
              omega
      · intro q
        exact absurd q h3
    · intro q
      exact absurd q h2
  · exact k
theorem cK_set {A : Nat → Int} (G : cG A) {e t : Int} : ∀ (m k : Nat) (N : Int) (v : Nat → Int), cB A N v → cK v → cK (cv_set A e t m k v).2 := by
  intro m
  induction m with
  | zero =>
    intro k N v b hk
    unfold cv_set
    split <;> exact hk
  | succ m ih =>
    intro k N v b hk
    unfold cv_set
    split
    · exact ih _ _ _ (cB_tide G b) (cK_tide G b hk)
    · exact hk
/-- the number that is kept of a throw: 1, or its tides by eight, its keeper and 2; a keeper only where it is kept -/
theorem cv_out_r {A : Nat → Int} (G : cG A) {e f to hv t : Int} (hf : 0 ≤ f ∧ f < A 4) (hto : cv_to A f ≠ -1) (ht : -1 ≤ to ∧ to < 6) (hh : hv = 0 ∨ hv = 1) :
    (cv_out A e f to hv t = 1 ∧ ¬ (cv_set A e t 200 0 (cv_new f to hv (cv_to A f))).2 0 = 2) ∨
    (∃ r s : Int, cv_out A e f to hv t = r * 8 + s + 2 ∧ 1 ≤ r ∧ r ≤ 200 ∧ 0 ≤ s ∧ s < 6 ∧ (cv_set A e t 200 0 (cv_new f to hv (cv_to A f))).2 0 = 2 ∧ (cv_set A e t 200 0 (cv_new f to hv (cv_to A f))).1 = r ∧ (cv_set A e t 200 0 (cv_new f to hv (cv_to A f))).2 7 = s) := by
  have h4 := G.2.2.1
  have hr := cv_to_r G hf.1 hf.2
  have hr2 : 0 ≤ cv_to A f ∧ cv_to A f < A 1 * A 2 ∧ A (14 + (cv_to A f).toNat) = 0 := by
    rcases hr with hr | hr
    · exact absurd hr hto
    · exact hr
  have b : cB A 0 (cv_new f to hv (cv_to A f)) := cB_new ⟨hr2.1, hr2.2.1⟩ hr2.2.2 (by omega) ht hh
  have kk := cK_set G (e := e) (t := t) 200 0 0 _ b (fun g => absurd g (by show ¬ (0 : Int) = 2; decide))
  obtain ⟨s1, s2, s3⟩ := cv_set_r G (e := e) (t := t) 200 0 0 _ b
  have s3' := s3 (cv_new_on _ _ _ _)
  unfold cv_out
  generalize cv_set A e t 200 0 (cv_new f to hv (cv_to A f)) = p at *
  by_cases q : p.2 0 = 2
  · right
    have b8 := s2.2.2.2.2.2.2.2.2
    rw [if_pos q]
    refine ⟨p.1, p.2 7, rfl, ?_, ?_, kk q, b8.2, q, rfl, rfl⟩
    · rcases s1 with ⟨_, s1⟩ | ⟨s1, _, _⟩
      · unfold cv_on at s1
        omega
      · omega
    · rcases s1 with ⟨_, s1⟩ | ⟨_, s1, _⟩
      · unfold cv_on at s1
        omega
      · omega
  · left
    rw [if_neg q]
    exact ⟨rfl, q⟩
