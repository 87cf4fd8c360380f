/-! ===== the words of both readers ===== -/
def kwSL : List Nat := [1, 2, 3, 4, 5, 10, 11, 12, 23, 22, 27, 28, 6, 7, 8, 9, 26, 25, 24, 20, 21, 19, 13, 14, 15, 16, 17, 18]
def kwS (i : Nat) : Nat := kwSL.getD i 0
def kwPL : List Nat := [1, 5, 11, 16, 22, 29, 35, 43, 48, 54, 59, 67, 72, 78, 83, 89, 94, 97, 101, 105, 107, 109, 114, 119, 122, 129, 133, 140, 146]
def kwP (i : Nat) : Nat := kwPL.getD i 0
/-- the text from p to q is the word l -/
def wm (T : Nat → Int) (p q : Nat) (l : List Int32) : Prop := q = p + l.length ∧ ∀ i, i < l.length → T (p + i) = (l.getD i 0).toInt
theorem kw_tab : (List.range 28).all (fun n => (List.range 8).all (fun j => !decide (j < (qsT (kwS n)).length) || (decide (qch 29 (kwP n + j) = ((qsT (kwS n)).getD j 0).toInt) && !decide (qch 29 (kwP n + j) = 32))) && decide (qch 29 (kwP n + (qsT (kwS n)).length) = 32) && decide ((qsT (kwS n)).length ≤ 7) && decide (kwP (n + 1) = kwP n + (qsT (kwS n)).length + 1) && decide (kwP n + (qsT (kwS n)).length < (qsT 29).length) && decide (0 < (qsT (kwS n)).length) && (List.range 8).all (fun j => !decide (j < (qsT (kwS n)).length) || (decide (97 ≤ ((qsT (kwS n)).getD j 0).toInt) && decide (((qsT (kwS n)).getD j 0).toInt ≤ 122)))) = true := by decide +kernel
theorem kw_len : (qsT 29).length = 146 ∧ kwP 28 = 146 ∧ kwP 0 = 1 := by decide +kernel
theorem kw_f {n : Nat} (hn : n < 28) : (∀ j, j < (qsT (kwS n)).length → qch 29 (kwP n + j) = ((qsT (kwS n)).getD j 0).toInt ∧ ¬ qch 29 (kwP n + j) = 32) ∧ qch 29 (kwP n + (qsT (kwS n)).length) = 32 ∧ (qsT (kwS n)).length ≤ 7 ∧ kwP (n + 1) = kwP n + (qsT (kwS n)).length + 1 ∧ kwP n + (qsT (kwS n)).length < (qsT 29).length ∧ 0 < (qsT (kwS n)).length ∧ (∀ j, j < (qsT (kwS n)).length → 97 ≤ ((qsT (kwS n)).getD j 0).toInt ∧ ((qsT (kwS n)).getD j 0).toInt ≤ 122) := by
  have h := List.all_eq_true.mp kw_tab n (List.mem_range.mpr hn)
  simp only [Bool.and_eq_true, Bool.or_eq_true, Bool.not_eq_true', decide_eq_true_eq, decide_eq_false_iff_not, List.all_eq_true, List.mem_range] at h
  obtain ⟨⟨⟨⟨⟨⟨h1, h2⟩, h3⟩, h4⟩, h5⟩, h6⟩, h7⟩ := h
  refine ⟨fun j hj => ?_, h2, h3, h4, h5, h6, fun j hj => ?_⟩
  · rcases h1 j (by omega) with e | e
    · exact absurd hj e
    · exact e
  · rcases h7 j (by omega) with e | e
    · exact absurd hj e
    · exact e
theorem kw_inj : (List.range 28).all (fun i => (List.range 28).all (fun j => decide (i = j) || !decide (qsT (kwS i) = qsT (kwS j)))) = true := by decide +kernel
theorem wm_eq {T : Nat → Int} {p q : Nat} {l m : List Int32} (a : wm T p q l) (b : wm T p q m) : l = m := by
  have hl : l.length = m.length := by have := a.1; have := b.1; omega
  refine List.ext_getElem hl (fun i h1 h2 => ?_)
  have e1 := a.2 i h1
  have e2 := b.2 i h2
  rw [e1] at e2
  rw [List.getD_eq_getElem?_getD, List.getD_eq_getElem?_getD, List.getElem?_eq_getElem h1, List.getElem?_eq_getElem h2] at e2
  exact Int32.toInt_inj.mp e2
theorem wm_kw {T : Nat → Int} {p q i j : Nat} (hi : i < 28) (hj : j < 28) (a : wm T p q (qsT (kwS i))) (b : wm T p q (qsT (kwS j))) : i = j := by
  have h := List.all_eq_true.mp (List.all_eq_true.mp kw_inj i (List.mem_range.mpr hi)) j (List.mem_range.mpr hj)
  simp only [Bool.or_eq_true, Bool.not_eq_true', decide_eq_true_eq, decide_eq_false_iff_not] at h
  rcases h with h | h
  · exact h
  · exact absurd (wm_eq a b) h
section keys
variable {h : qH} {p q : Nat}
theorem m_char {s : Nat} {a : Nat} (ha : a < (qsT s).length) (h : qH) : DJ0_charAt_5068e s (a : Int) h = some (qch s a, h) := by
  unfold DJ0_charAt_5068e
  rw [if_pos (by omega), Int.toNat_natCast]
theorem key_skip (k4 : Int → Int → qH → Option (Int × qH)) {n : Nat} (hn : n < 28) : ∀ (m j F : Nat), j + m = (qsT (kwS n)).length → m < F →
    DX10_keyAt_l97 k4 F (n : Int) ((kwP n + j : Nat) : Int) h = k4 ((n + 1 : Nat) : Int) ((kwP (n + 1) : Nat) : Int) h := by
  intro m
  obtain ⟨f1, f2, f3, f4, f5, f6, _⟩ := kw_f hn
  have kl := kw_len.1
  induction m with
  | zero =>
    intro j F hj hF
    obtain ⟨F, rfl⟩ : ∃ n, F = n + 1 := ⟨F - 1, by omega⟩
    have ej : j = (qsT (kwS n)).length := by omega
    rw [DX10_keyAt_l97.eq_2, m_char (by omega), qbd_some, ej, if_pos f2]
    simp only [qlt]
    rw [qw_s (by omega), qw_s (by omega), f4]
  | succ m ih =>
    intro j F hj hF
    obtain ⟨F, rfl⟩ : ∃ n, F = n + 1 := ⟨F - 1, by omega⟩
    rw [DX10_keyAt_l97.eq_2, m_char (by omega), qbd_some, if_neg (f1 j (by omega)).2, qw_s (by omega)]
    exact ih (j + 1) F (by omega) (by omega)
theorem key_in (k4 : Int → Int → qH → Option (Int × qH)) {n : Nat} (hn : n < 28) (hp : h.1 212 6 = (p : Int)) (hq : h.1 212 7 = (q : Int)) (hpq : p ≤ q) (hq9 : q ≤ 900) : ∀ (m j F : Nat), j + m = (qsT (kwS n)).length → m < F → p + j ≤ q → (∀ i, i < j → h.1 215 (p + i) = ((qsT (kwS n)).getD i 0).toInt) →
    (wm (h.1 215) p q (qsT (kwS n)) → DX10_keyAt_l15 k4 F (n : Int) (kwP n : Int) (j : Int) h = some ((n : Int), h)) ∧
    (¬ wm (h.1 215) p q (qsT (kwS n)) → DX10_keyAt_l15 k4 F (n : Int) (kwP n : Int) (j : Int) h = k4 ((n + 1 : Nat) : Int) ((kwP (n + 1) : Nat) : Int) h) := by
  intro m
  obtain ⟨f1, f2, f3, f4, f5, f6, _⟩ := kw_f hn
  have kl := kw_len.1
  have sk := key_skip (h := h) k4 hn (qsT (kwS n)).length 0 LF (by omega) (by unfold LF; omega)
  rw [Nat.add_zero] at sk
  induction m with
  | zero =>
    intro j F hj hF hpj hm
    obtain ⟨F, rfl⟩ : ∃ n, F = n + 1 := ⟨F - 1, by omega⟩
    have ej : j = (qsT (kwS n)).length := by omega
    rw [DX10_keyAt_l15.eq_2, qw_e (x := (kwP n : Int) + (j : Int)) (by omega) (by omega), show (kwP n : Int) + (j : Int) = ((kwP n + j : Nat) : Int) by omega, m_char (by omega), qbd_some, if_pos (by rw [ej]; exact f2)]
    unfold DX10_keyAt_b69
    rw [qw_e (x := (kwP n : Int) + (j : Int)) (by omega) (by omega), show (kwP n : Int) + (j : Int) = ((kwP n + j : Nat) : Int) by omega, m_char (by omega), qbd_some, if_neg (show ¬ ¬ qch 29 (kwP n + j) = 32 by rw [ej]; exact fun g => g f2), hp, hq, qw_e (by omega) (by omega)]
    by_cases e : q = p + j
    · rw [if_neg (show ¬ ¬ (p : Int) + (j : Int) = (q : Int) by omega)]
      exact ⟨fun _ => rfl, fun g => absurd ⟨by omega, fun i hi => hm i (by omega)⟩ g⟩
    · rw [if_pos (show ¬ (p : Int) + (j : Int) = (q : Int) by omega)]
      exact ⟨fun g => absurd g.1 (by omega), fun _ => sk⟩
  | succ m ih =>
    intro j F hj hF hpj hm
    obtain ⟨F, rfl⟩ : ∃ n, F = n + 1 := ⟨F - 1, by omega⟩
    obtain ⟨g1, g2⟩ := f1 j (by omega)
    rw [DX10_keyAt_l15.eq_2, qw_e (x := (kwP n : Int) + (j : Int)) (by omega) (by omega), show (kwP n : Int) + (j : Int) = ((kwP n + j : Nat) : Int) by omega, m_char (by omega), qbd_some, if_neg g2, hp, hq, qw_e (x := (p : Int) + (j : Int)) (by omega) (by omega)]
    have b69 : DX10_keyAt_b69 k4 (n : Int) (kwP n : Int) (j : Int) h = k4 ((n + 1 : Nat) : Int) ((kwP (n + 1) : Nat) : Int) h := by
      unfold DX10_keyAt_b69
      rw [qw_e (x := (kwP n : Int) + (j : Int)) (by omega) (by omega), show (kwP n : Int) + (j : Int) = ((kwP n + j : Nat) : Int) by omega, m_char (by omega), qbd_some, if_pos g2]
      exact sk
    by_cases e : q ≤ p + j
    · rw [if_pos (show (q : Int) ≤ (p : Int) + (j : Int) by omega)]
      exact ⟨fun g => absurd g.1 (by omega), fun _ => b69⟩
    · rw [if_neg (show ¬ (q : Int) ≤ (p : Int) + (j : Int) by omega), if_pos (show 0 ≤ (p : Int) + (j : Int) ∧ (p : Int) + (j : Int) < 900 by omega), m_char (by omega), qbd_some, show ((p : Int) + (j : Int)).toNat = p + j by omega, qw_s (n := j) (by omega)]
      by_cases e2 : h.1 215 (p + j) = qch 29 (kwP n + j)
      · rw [if_neg (show ¬ ¬ h.1 215 (p + j) = qch 29 (kwP n + j) from fun g => g e2)]
        refine ih (j + 1) F (by omega) (by omega) (by omega) (fun i hi => ?_)
        by_cases ei : i = j
        · rw [ei, e2, g1]
        · exact hm i (by omega)
      · rw [if_pos e2]
        exact ⟨fun g => absurd (by rw [g.2 j (by omega), g1]) e2, fun _ => b69⟩
theorem key_l (hp : h.1 212 6 = (p : Int)) (hq : h.1 212 7 = (q : Int)) (hpq : p ≤ q) (hq9 : q ≤ 900) : ∀ (m i F : Nat), i + m = 28 → m < F → (∀ j, j < i → ¬ wm (h.1 215) p q (qsT (kwS j))) →
    ∃ r : Int, DX10_keyAt_l4 F (i : Int) (kwP i : Int) h = some (r, h) ∧ ((∃ j : Nat, j < 28 ∧ r = (j : Int) ∧ wm (h.1 215) p q (qsT (kwS j))) ∨ (r = 30 ∧ ∀ j, j < 28 → ¬ wm (h.1 215) p q (qsT (kwS j)))) := by
  intro m
  have kl := kw_len
  induction m with
  | zero =>
    intro i F hi hF hno
    obtain ⟨F, rfl⟩ : ∃ n, F = n + 1 := ⟨F - 1, by omega⟩
    have ei : i = 28 := by omega
    subst ei
    unfold DX10_keyAt_l4 DJ0_length_8abf5
    rw [qbd_some, if_pos (by omega)]
    exact ⟨30, rfl, Or.inr ⟨rfl, hno⟩⟩
  | succ m ih =>
    intro i F hi hF hno
    obtain ⟨F, rfl⟩ : ∃ n, F = n + 1 := ⟨F - 1, by omega⟩
    have hi28 : i < 28 := by omega
    obtain ⟨f1, f2, f3, f4, f5, f6, _⟩ := kw_f hi28
    obtain ⟨k1, k2⟩ := key_in (h := h) (DX10_keyAt_l4 F) hi28 hp hq hpq hq9 (qsT (kwS i)).length 0 LF (by omega) (by unfold LF; omega) (by omega) (fun i hi => by omega)
    rw [z0] at k1 k2
    rw [DX10_keyAt_l4.eq_2]
    unfold DJ0_length_8abf5
    rw [qbd_some, if_neg (show ¬ ((qsT 29).length : Int) ≤ (kwP i : Int) by omega)]
    by_cases e : wm (h.1 215) p q (qsT (kwS i))
    · exact ⟨(i : Int), k1 e, Or.inl ⟨i, hi28, rfl, e⟩⟩
    · rw [k2 e]
      refine ih (i + 1) F (by omega) (by omega) (fun j hj => ?_)
      by_cases ej : j = i
      · rw [ej]; exact e
      · exact hno j (by omega)
theorem m_keyAt (hp : h.1 212 6 = (p : Int)) (hq : h.1 212 7 = (q : Int)) (hpq : p ≤ q) (hq9 : q ≤ 900) :
    ∃ r : Int, DX10_keyAt h = some (r, h) ∧ ((∃ j : Nat, j < 28 ∧ r = (j : Int) ∧ wm (h.1 215) p q (qsT (kwS j))) ∨ (r = 30 ∧ ∀ j, j < 28 → ¬ wm (h.1 215) p q (qsT (kwS j)))) := by
  have K := key_l hp hq hpq hq9 28 0 LF (by omega) (by unfold LF; omega) (fun j hj => by omega)
  rw [z0, kw_len.2.2] at K
  exact K
/-- the class: is it this word -/
theorem c_word_l {i : Nat} (hi : i < 28) (hf : h.2.2.2.1 = true) (hp : h.1 2 7 = (p : Int)) (hS : (q : Int) ≤ h.1 2 4) (hS9 : h.1 2 4 ≤ 900) (hq : q = p + (qsT (kwS i)).length) : ∀ (m j F : Nat), j + m = (qsT (kwS i)).length → m < F → (∀ x, x < j → h.1 1 (p + x) = ((qsT (kwS i)).getD x 0).toInt) →
    (wm (h.1 1) p q (qsT (kwS i)) → DX4_isWord_l28 F (kwS i) (j : Int) h = some (1, h)) ∧ (¬ wm (h.1 1) p q (qsT (kwS i)) → DX4_isWord_l28 F (kwS i) (j : Int) h = some (0, h)) := by
  intro m
  obtain ⟨f1, f2, f3, f4, f5, f6, _⟩ := kw_f hi
  induction m with
  | zero =>
    intro j F hj hF hm
    obtain ⟨F, rfl⟩ : ∃ n, F = n + 1 := ⟨F - 1, by omega⟩
    rw [DX4_isWord_l28.eq_2]
    unfold DJ0_length_8abf5
    rw [qbd_some, if_pos (by omega)]
    exact ⟨fun _ => rfl, fun g => absurd ⟨hq, fun x hx => hm x (by omega)⟩ g⟩
  | succ m ih =>
    intro j F hj hF hm
    obtain ⟨F, rfl⟩ : ∃ n, F = n + 1 := ⟨F - 1, by omega⟩
    rw [DX4_isWord_l28.eq_2]
    unfold DJ0_length_8abf5
    rw [qbd_some, if_neg (show ¬ ((qsT (kwS i)).length : Int) ≤ (j : Int) by omega), hp, qw_e (x := (p : Int) + (j : Int)) (by omega) (by omega), if_neg (show ¬ h.1 2 4 ≤ (p : Int) + (j : Int) by omega), if_pos hf, if_pos (show 0 ≤ (p : Int) + (j : Int) ∧ (p : Int) + (j : Int) < 900 by omega), m_char (by omega), qbd_some, show ((p : Int) + (j : Int)).toNat = p + j by omega, qw_s (n := j) (by omega)]
    by_cases e : h.1 1 (p + j) = qch (kwS i) j
    · rw [if_pos e]
      refine ih (j + 1) F (by omega) (by omega) (fun x hx => ?_)
      by_cases ex : x = j
      · rw [ex, e]; rfl
      · exact hm x (by omega)
    · rw [if_neg e]
      exact ⟨fun g => absurd (g.2 j (by omega)) e, fun _ => rfl⟩
theorem c_isWord {i : Nat} (hi : i < 28) (hf : h.2.2.2.1 = true) (ht : h.1 2 6 = 1) (hp : h.1 2 7 = (p : Int)) (hq : h.1 2 8 = (q : Int)) (hpq : p ≤ q) (hS : (q : Int) ≤ h.1 2 4) (hS9 : h.1 2 4 ≤ 900) :
    (wm (h.1 1) p q (qsT (kwS i)) → DX4_isWord (kwS i) h = some (1, h)) ∧ (¬ wm (h.1 1) p q (qsT (kwS i)) → DX4_isWord (kwS i) h = some (0, h)) := by
  obtain ⟨f1, f2, f3, f4, f5, f6, _⟩ := kw_f hi
  unfold DX4_isWord DJ0_length_8abf5
  rw [if_neg (show ¬ ¬ h.1 2 6 = 1 from fun g => g ht), qbd_some, hp, hq, qw_e (by omega) (by omega)]
  by_cases e : q = p + (qsT (kwS i)).length
  · rw [if_pos (by omega)]
    have K := c_word_l hi hf hp hS hS9 e (qsT (kwS i)).length 0 LF (by omega) (by unfold LF; omega) (fun x hx => by omega)
    rw [z0] at K
    exact K
  · rw [if_neg (by omega)]
    exact ⟨fun g => absurd g.1 e, fun _ => rfl⟩
end keys
