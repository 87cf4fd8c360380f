/-! ===== a law's value: types, bounds, and how the reference reckons it ===== -/
/-- the values of a stack f by the types s -/
def cv_vt (s : List Bool) (f : Nat → Int) : Prop := ∀ j, j < s.length → (-1000000 ≤ f j ∧ f j ≤ 1000000) ∧ (s.getD (s.length - 1 - j) false = true → f j = 0 ∨ f j = 1)
theorem cv_cl_b (x : Int) : -1000000 ≤ cv_cl x ∧ cv_cl x ≤ 1000000 := by unfold cv_cl; (repeat' split) <;> omega
theorem cv_vt_push {s : List Bool} {f : Nat → Int} {n : Nat} (h : cv_vt s f) (hn : s.length = n) {x : Int} (hx : -1000000 ≤ x ∧ x ≤ 1000000) : cv_vt (false :: s) (up f n x) := by
  intro j hj
  rw [List.length_cons] at hj
  by_cases e : j = n
  · rw [e, up_s]
    refine ⟨hx, fun g => ?_⟩
    rw [List.length_cons, show s.length + 1 - 1 - n = 0 by omega] at g
    cases g
  · rw [up_n _ _ e]
    have := h j (by omega)
    refine ⟨this.1, fun g => this.2 ?_⟩
    rw [List.length_cons, show s.length + 1 - 1 - j = (s.length - 1 - j) + 1 by omega, List.getD_cons_succ] at g
    exact g
theorem cv_vt_top {s : List Bool} {a : Bool} {f : Nat → Int} (h : cv_vt (a :: s) f) {x : Int} {c : Bool} (hx : (-1000000 ≤ x ∧ x ≤ 1000000) ∧ (c = true → x = 0 ∨ x = 1)) : cv_vt (c :: s) (up f s.length x) := by
  intro j hj
  rw [List.length_cons] at hj
  by_cases e : j = s.length
  · rw [e, up_s]
    refine ⟨hx.1, fun g => hx.2 ?_⟩
    rw [List.length_cons, show s.length + 1 - 1 - s.length = 0 by omega, List.getD_cons_zero] at g
    exact g
  · rw [up_n _ _ e]
    have := h j (by rw [List.length_cons]; omega)
    refine ⟨this.1, fun g => this.2 ?_⟩
    rw [List.length_cons, show s.length + 1 - 1 - j = (s.length - 1 - j) + 1 by omega, List.getD_cons_succ] at g ⊢
    exact g
theorem cv_vt_pop {s : List Bool} {a : Bool} {f : Nat → Int} (h : cv_vt (a :: s) f) : cv_vt s f := by
  intro j hj
  have := h j (by rw [List.length_cons]; omega)
  refine ⟨this.1, fun g => this.2 ?_⟩
  rw [List.length_cons, show s.length + 1 - 1 - j = (s.length - 1 - j) + 1 by omega, List.getD_cons_succ]
  exact g
theorem cv_vt_at {s : List Bool} {a : Bool} {f : Nat → Int} (h : cv_vt (a :: s) f) : (-1000000 ≤ f s.length ∧ f s.length ≤ 1000000) ∧ (a = true → f s.length = 0 ∨ f s.length = 1) := by
  have := h s.length (by rw [List.length_cons]; omega)
  refine ⟨this.1, fun g => this.2 ?_⟩
  rw [List.length_cons, show s.length + 1 - 1 - s.length = 0 by omega, List.getD_cons_zero]
  exact g
theorem cv_vt_eq {s : List Bool} {f g : Nat → Int} (h : cv_vt s f) (e : ∀ j, j < s.length → g j = f j) : cv_vt s g := fun j hj => by rw [e j hj]; exact h j hj
/-- one operation of a row that has types: four cases -/
theorem cv_ty_cons {m : Int} (hm : m = 1004 ∨ m = 1007) {c : Int} {cs : List Int} {s s' : List Bool} (h : cv_ty m (c :: cs) s = some s') :
    (0 ≤ c ∧ c < m ∧ s.length < 60 ∧ cv_ty m cs (false :: s) = some s') ∨
    (c = 3008 ∧ ∃ s1, s = true :: s1 ∧ cv_ty m cs (true :: s1) = some s') ∨
    ((c = 3000 ∨ c = 3001 ∨ c = 3002) ∧ ∃ s2, s = false :: false :: s2 ∧ cv_ty m cs (false :: s2) = some s') ∨
    ((c = 3003 ∨ c = 3004 ∨ c = 3005) ∧ ∃ s2, s = false :: false :: s2 ∧ cv_ty m cs (true :: s2) = some s') ∨
    ((c = 3006 ∨ c = 3007) ∧ ∃ s2, s = true :: true :: s2 ∧ cv_ty m cs (true :: s2) = some s') := by
  unfold cv_ty at h
  split at h
  · next g =>
    split at h
    · exact Or.inl ⟨g.1, g.2, by assumption, h⟩
    · cases h
  · right
    split at h
    · next a s1 =>
      split at h
      · next g =>
        split at h
        · next ga => exact Or.inl ⟨g, s1, by rw [ga], h⟩
        · cases h
      · right
        split at h
        · next b s2 =>
          split at h
          · next g =>
            split at h
            · next ga => exact Or.inl ⟨g, s2, by rw [ga.1, ga.2], h⟩
            · cases h
          · right
            split at h
            · next g =>
              split at h
              · next ga => exact Or.inl ⟨g, s2, by rw [ga.1, ga.2], h⟩
              · cases h
            · right
              split at h
              · next g =>
                split at h
                · next ga => exact ⟨g, s2, by rw [ga.1, ga.2], h⟩
                · cases h
              · cases h
        · cases h
    · cases h
theorem cv_bet_n {c a b : Int} (h : c = 3000 ∨ c = 3001 ∨ c = 3002) : -1000000 ≤ cv_bet c a b ∧ cv_bet c a b ≤ 1000000 := by
  unfold cv_bet
  split
  · exact cv_cl_b _
  · split
    · exact cv_cl_b _
    · rw [if_pos (by omega)]
      exact cv_cl_b _
theorem cv_bet_t {c a b : Int} (h : 3003 ≤ c) : cv_bet c a b = 0 ∨ cv_bet c a b = 1 := by
  unfold cv_bet
  (repeat' split) <;> omega
theorem cv_ev_l {w : Nat → Int} {c : Int} {cs : List Int} {n : Nat} {f : Nat → Int} (h : c < 1000) : cv_ev w (c :: cs) n f = cv_ev w cs (n + 1) (up f n c) := by
  rw [cv_ev, if_pos h]
theorem cv_ev_w {w : Nat → Int} {c : Int} {cs : List Int} {n : Nat} {f : Nat → Int} (h : 1000 ≤ c) (h2 : c < 3000) : cv_ev w (c :: cs) n f = cv_ev w cs (n + 1) (up f n (w (c - 1000).toNat)) := by
  rw [cv_ev, if_neg (show ¬ c < 1000 by omega), if_pos h2]
theorem cv_ev_n {w : Nat → Int} {c : Int} {cs : List Int} {n : Nat} {f : Nat → Int} (h : c = 3008) : cv_ev w (c :: cs) n f = cv_ev w cs n (up f (n - 1) (1 - f (n - 1))) := by
  rw [cv_ev, if_neg (show ¬ c < 1000 by omega), if_neg (show ¬ c < 3000 by omega), if_pos h]
theorem cv_ev_b {w : Nat → Int} {c : Int} {cs : List Int} {n : Nat} {f : Nat → Int} (h : 3000 ≤ c) (h2 : ¬ c = 3008) : cv_ev w (c :: cs) n f = cv_ev w cs (n - 1) (up f (n - 2) (cv_bet c (f (n - 2)) (f (n - 1)))) := by
  rw [cv_ev, if_neg (show ¬ c < 1000 by omega), if_neg (show ¬ c < 3000 by omega), if_neg h2]
/-- a value of a row that has types is in its bounds, and doesn't hang on what lay deeper -/
theorem cv_ev_r {m : Int} (hm : m = 1004 ∨ m = 1007) {w : Nat → Int} (hw : ∀ j, -1000000 ≤ w j ∧ w j ≤ 1000000) : ∀ (cs : List Int) (s s' : List Bool) (f g : Nat → Int), cv_ty m cs s = some s' → cv_vt s f → (∀ j, j < s.length → g j = f j) →
    cv_vt s' (cv_ev w cs s.length f) ∧ ∀ j, j < s'.length → cv_ev w cs s.length g j = cv_ev w cs s.length f j := by
  intro cs
  induction cs with
  | nil =>
    intro s s' f g h hv he
    injection h with h
    subst h
    exact ⟨hv, he⟩
  | cons c cs ih =>
    intro s s' f g h hv he
    have ups : ∀ (k : Nat) (x y : Int), x = y → ∀ j, (j < s.length) → up g k x j = up f k y j := by
      intro k x y e j hj
      unfold up
      rw [e, he j hj]
    rcases cv_ty_cons hm h with ⟨h0, h1, h2, h3⟩ | ⟨h1, s1, rfl, h3⟩ | ⟨h1, s1, rfl, h3⟩ | ⟨h1, s1, rfl, h3⟩ | ⟨h1, s1, rfl, h3⟩
    · by_cases hc : c < 1000
      · rw [cv_ev_l hc, cv_ev_l hc]
        refine ih (false :: s) s' (up f s.length c) (up g s.length c) h3 (cv_vt_push hv rfl (by omega)) ?_
        intro j hj
        unfold up
        split
        · rfl
        · exact he j (by rw [List.length_cons] at hj; omega)
      · rw [cv_ev_w (by omega) (by omega), cv_ev_w (by omega) (by omega)]
        refine ih (false :: s) s' (up f s.length _) (up g s.length _) h3 (cv_vt_push hv rfl (hw _)) ?_
        intro j hj
        unfold up
        split
        · rfl
        · exact he j (by rw [List.length_cons] at hj; omega)
    · have ha := cv_vt_at hv
      have e0 : (true :: s1).length - 1 = s1.length := by rw [List.length_cons]; omega
      have hg := he s1.length (by rw [List.length_cons]; omega)
      rw [cv_ev_n h1, cv_ev_n h1, e0, hg]
      have k := ih (true :: s1) s' (up f s1.length (1 - f s1.length)) (up g s1.length (1 - f s1.length)) h3 (cv_vt_top hv ⟨by rcases ha.2 rfl with e | e <;> omega, fun _ => by rcases ha.2 rfl with e | e <;> omega⟩) (fun j hj => ups _ _ _ rfl j hj)
      exact k
    all_goals
      have e0 : ∀ a b : Bool, (a :: b :: s1).length - 1 = s1.length + 1 := fun a b => by rw [List.length_cons, List.length_cons]; omega
      have e2 : ∀ a b : Bool, (a :: b :: s1).length - 2 = s1.length := fun a b => by rw [List.length_cons, List.length_cons]; omega
      have hg1 := he s1.length (by rw [List.length_cons, List.length_cons]; omega)
      have hg2 := he (s1.length + 1) (by rw [List.length_cons, List.length_cons]; omega)
      rw [cv_ev_b (by omega) (by omega), cv_ev_b (by omega) (by omega), e0, e2, hg1, hg2]
      refine ih _ s' (up f s1.length _) (up g s1.length _) h3 (cv_vt_top (cv_vt_pop hv) ?_) (fun j hj => ups _ _ _ rfl j (by simp only [List.length_cons] at hj ⊢; omega))
    · exact ⟨cv_bet_n h1, fun e => by cases e⟩
    · have := cv_bet_t (c := c) (a := f s1.length) (b := f (s1.length + 1)) (by omega)
      exact ⟨by omega, fun _ => this⟩
    · have := cv_bet_t (c := c) (a := f s1.length) (b := f (s1.length + 1)) (by omega)
      exact ⟨by omega, fun _ => this⟩
