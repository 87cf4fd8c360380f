/-! ===== the best throw ===== -/
noncomputable def cv_upd (A : Nat → Int) (e f to t : Int) (st : Int × Int × Int) (w hv : Int) : Int × Int × Int :=
  if cv_out A e f to hv (t + w) % 8 - 2 = to ∧ w + cv_out A e f to hv (t + w) / 8 < st.1 then (w + cv_out A e f to hv (t + w) / 8, w, hv) else st
noncomputable def cv_bst (A : Nat → Int) (e f to t : Int) : Nat → Nat → Int × Int × Int → Int × Int × Int
  | 0, _, st => st
  | n + 1, w, st => cv_bst A e f to t n (w + 1) (cv_upd A e f to t (cv_upd A e f to t st (w : Int) 0) (w : Int) 1)
/-- how the class writes a best throw in one number -/
def sE (st : Int × Int × Int) (L w2 : Int) : Prop := (st.1 = 1000000 ∧ L = -1) ∨ (L = st.1 * 64 + st.2.1 * 2 + st.2.2 ∧ 0 ≤ st.2.1 ∧ st.2.1 + 1 ≤ st.1 ∧ st.1 ≤ 230 ∧ (st.2.2 = 0 ∨ st.2.2 = 1) ∧ st.2.1 ≤ 30 ∧ st.2.1 * 2 + st.2.2 < w2)
theorem sE.up {st : Int × Int × Int} {L a b : Int} (h : sE st L a) (g : a ≤ b) : sE st L b := by
  rcases h with h | ⟨a1, a2, a3, a4, a5, a6, a7⟩
  · exact Or.inl h
  · exact Or.inr ⟨a1, a2, a3, a4, a5, a6, by omega⟩
section bst
variable {A : Nat → Int} {e f to t : Int}
theorem cv_bst_stop (G : cG A) (hf : 0 ≤ f ∧ f < A 4) (hto : cv_to A f ≠ -1) (ht : 0 ≤ to ∧ to < A 4) : ∀ (n w : Nat) (st : Int × Int × Int), st.1 ≤ w → cv_bst A e f to t n w st = st := by
  have h4 := G.2.2.1
  intro n
  induction n with
  | zero => intro w st _; rfl
  | succ n ih =>
    intro w st h
    have key : ∀ hv : Int, (hv = 0 ∨ hv = 1) → cv_upd A e f to t st (w : Int) hv = st := by
      intro hv hh
      unfold cv_upd
      rw [if_neg]
      rintro ⟨g1, g2⟩
      rcases cv_out_r G (e := e) (t := t + (w : Int)) hf hto (to := to) (by omega) hh with ⟨o1, _⟩ | ⟨r, s, o1, o2, o3, o4, o5, _⟩
      · rw [o1] at g1
        omega
      · rw [o1] at g2
        omega
    unfold cv_bst
    rw [key 0 (Or.inl rfl), key 1 (Or.inr rfl)]
    exact ih (w + 1) st (by omega)
theorem c_b52 {h : qH} {L hv : Int} {w : Nat} {st : Int × Int × Int} (E : cE h A e) (O : cO h A) (hf : 0 ≤ f ∧ f < A 4) (hto : cv_to A f ≠ -1) (ht : 0 ≤ to ∧ to < A 4) (hne : ¬ to = f) (hh : hv = 0 ∨ hv = 1) (t0 : 0 ≤ t) (t1 : t < 1000000000) (hw : w ≤ 30) (hs : sE st L ((w : Int) * 2 + hv))
    (k6 : Int → Int → Int → Int → Int → qH → Option (Int × qH)) (k32 : Int → Int → Int → Int → Int → Int → qH → Option (Int × qH)) :
    ∃ h' L', DX2_soonest_b52 k6 k32 f to t L (w : Int) hv hv to f h = k32 f to t L' (w : Int) (hv + 1) h' ∧ cE h' A e ∧ cO h' A ∧ sE (cv_upd A e f to t st (w : Int) hv) L' ((w : Int) * 2 + hv + 1) := by
  have G := E.1
  have h4 := G.2.2.1
  unfold DX2_soonest_b52
  obtain ⟨h1, e1, E1, O1⟩ := c_outcome (t := t + (w : Int)) E O hf (Or.inr ht) hne hh (by omega) (by omega)
  rw [if_neg hto] at e1
  rw [qw_e (x := t + (w : Int)) (by omega) (by omega), e1]
  simp only [qbd_some, DX2_tidesOf, DX2_keeperOf, qlt]
  have eh : qw (hv + 1) = hv + 1 := qw_e (by omega) (by omega)
  rw [eh]
  unfold cv_upd
  rcases cv_out_r G (e := e) (t := t + (w : Int)) hf hto (to := to) (by omega) hh with ⟨o1, _⟩ | ⟨r, s, o1, o2, o3, o4, o5, _⟩
  · rw [o1, if_neg (c := _ ∧ _) (by omega)]
    rw [if_pos (show ¬ qw (qand 1 7 - 2) = to by rw [qand_7, qw_e (by omega) (by omega)]; omega)]
    exact ⟨h1, L, rfl, E1, O1, hs.up (by omega)⟩
  · rw [o1]
    have ek : qw (qand (r * 8 + s + 2) 7 - 2) = s := by rw [qand_7, qw_e (by omega) (by omega)]; omega
    have et : qshr (r * 8 + s + 2) 3 = r := by rw [qshr_3 ⟨by omega, by omega⟩]; omega
    have em : (r * 8 + s + 2) % 8 - 2 = s := by omega
    have ed : (r * 8 + s + 2) / 8 = r := by omega
    rw [ek, et, em, ed, qw_e (x := (w : Int) + r) (by omega) (by omega), qw_e (x := ((w : Int) + r) * 64) (by omega) (by omega), qw_e (x := (w : Int) * 2) (by omega) (by omega), qw_e (x := ((w : Int) + r) * 64 + (w : Int) * 2) (by omega) (by omega), qw_e (x := ((w : Int) + r) * 64 + (w : Int) * 2 + hv) (by omega) (by omega)]
    by_cases q : s = to
    · rw [if_neg (fun g => g q)]
      have nw : sE ((w : Int) + r, (w : Int), hv) (((w : Int) + r) * 64 + (w : Int) * 2 + hv) ((w : Int) * 2 + hv + 1) := Or.inr ⟨rfl, by show (0 : Int) ≤ w; omega, by show (w : Int) + 1 ≤ w + r; omega, by show (w : Int) + r ≤ 230; omega, hh, by show (w : Int) ≤ 30; omega, by show (w : Int) * 2 + hv < _; omega⟩
      rcases hs with ⟨s1, s2⟩ | ⟨s1, s2, s3, s4, s5, s6, s7⟩
      · rw [if_pos s2, if_pos ⟨q, by omega⟩]
        exact ⟨h1, _, rfl, E1, O1, nw⟩
      · rw [if_neg (by omega)]
        by_cases q2 : (w : Int) + r < st.1
        · rw [if_neg (by omega), if_pos ⟨q, q2⟩]
          exact ⟨h1, _, rfl, E1, O1, nw⟩
        · rw [if_pos (by omega), if_neg (fun g => q2 g.2)]
          exact ⟨h1, L, rfl, E1, O1, Or.inr ⟨s1, s2, s3, s4, s5, s6, by omega⟩⟩
    · rw [if_pos q, if_neg (fun g => q g.1)]
      exact ⟨h1, L, rfl, E1, O1, hs.up (by omega)⟩
theorem c_soon_l (hf : 0 ≤ f ∧ f < A 4) (hto : cv_to A f ≠ -1) (ht : 0 ≤ to ∧ to < A 4) (hne : ¬ to = f) (t0 : 0 ≤ t) (t1 : t < 1000000000) : ∀ (n w F : Nat) (st : Int × Int × Int) (L : Int) (h : qH), n + w = 31 → n < F → sE st L ((w : Int) * 2) → cE h A e → cO h A →
    ∃ h' L', DX2_soonest_l6 F f to t L (w : Int) h = some (L', h') ∧ cE h' A e ∧ cO h' A ∧ sE (cv_bst A e f to t n w st) L' 62 := by
  intro n
  induction n with
  | zero =>
    intro w F st L h hn hF hs E O
    obtain ⟨F, rfl⟩ : ∃ n, F = n + 1 := ⟨F - 1, by omega⟩
    rw [DX2_soonest_l6.eq_2, if_pos (by omega)]
    exact ⟨h, L, rfl, E, O, hs.up (by omega)⟩
  | succ n ih =>
    intro w F st L h hn hF hs E O
    obtain ⟨F, rfl⟩ : ∃ n, F = n + 1 := ⟨F - 1, by omega⟩
    have go : ∃ h' L', DX2_soonest_l32 (DX2_soonest_l6 F) LF f to t L (w : Int) 0 h = some (L', h') ∧ cE h' A e ∧ cO h' A ∧ sE (cv_bst A e f to t (n + 1) w st) L' 62 := by
      obtain ⟨h1, L1, e1, E1, O1, s1⟩ := c_b52 (w := w) (hv := 0) E O hf hto ht hne (Or.inl rfl) t0 t1 (by omega) (by rw [Int.add_zero]; exact hs) (DX2_soonest_l6 F) (DX2_soonest_l32 (DX2_soonest_l6 F) 13999)
      obtain ⟨h2, L2, e2, E2, O2, s2⟩ := c_b52 (w := w) (hv := 1) E1 O1 hf hto ht hne (Or.inr rfl) t0 t1 (by omega) (by have := s1; rw [Int.add_zero] at this; exact this) (DX2_soonest_l6 F) (DX2_soonest_l32 (DX2_soonest_l6 F) 13998)
      obtain ⟨h3, L3, e3, E3, O3, s3⟩ := ih (w + 1) F _ L2 h2 (by omega) (by omega) (s2.up (by omega)) E2 O2
      refine ⟨h3, L3, ?_, E3, O3, s3⟩
      have a0 : DX2_soonest_l32 (DX2_soonest_l6 F) LF f to t L (w : Int) 0 h = DX2_soonest_l32 (DX2_soonest_l6 F) 13999 f to t L1 (w : Int) (0 + 1) h1 := by
        rw [show LF = 13999 + 1 from rfl, DX2_soonest_l32.eq_2, if_neg (by decide), if_pos (by decide)]
        exact e1
      have a1 : DX2_soonest_l32 (DX2_soonest_l6 F) 13999 f to t L1 (w : Int) (0 + 1) h1 = DX2_soonest_l32 (DX2_soonest_l6 F) 13998 f to t L2 (w : Int) (1 + 1) h2 := by
        rw [show 13999 = 13998 + 1 from rfl, DX2_soonest_l32.eq_2, if_neg (by decide), if_neg (by decide)]
        exact e2
      have a2 : DX2_soonest_l32 (DX2_soonest_l6 F) 13998 f to t L2 (w : Int) (1 + 1) h2 = DX2_soonest_l6 F f to t L2 ((w + 1 : Nat) : Int) h2 := by
        rw [show 13998 = 13997 + 1 from rfl, DX2_soonest_l32.eq_2, if_pos (by decide), qw_s (by omega)]
      rw [a0, a1, a2, e3]
    rw [DX2_soonest_l6.eq_2, if_neg (by omega)]
    rcases hs with ⟨s1, s2⟩ | ⟨s1, s2, s3, s4, s5, s6, s7⟩
    · rw [if_pos s2]
      exact go
    · rw [if_neg (by omega)]
      have eq : qshr L 6 = st.1 := by rw [qshr_6 ⟨by omega, by omega⟩]; omega
      rw [eq]
      by_cases q : st.1 ≤ (w : Int)
      · rw [if_pos q, cv_bst_stop E.1 hf hto ht (n + 1) w st q]
        exact ⟨h, L, rfl, E, O, Or.inr ⟨s1, s2, s3, s4, s5, s6, by omega⟩⟩
      · rw [if_neg q]
        exact go
/-- a shore that can't throw: nothing comes -/
theorem c_soon_n (hf : 0 ≤ f ∧ f < A 4) (hto : cv_to A f = -1) (ht : 0 ≤ to ∧ to < A 4) (hne : ¬ to = f) (t0 : 0 ≤ t) (t1 : t < 1000000000) : ∀ (n w F : Nat) (h : qH), n + w = 31 → n < F → cE h A e → cO h A →
    ∃ h', DX2_soonest_l6 F f to t (-1) (w : Int) h = some (-1, h') ∧ cE h' A e ∧ cO h' A := by
  intro n
  induction n with
  | zero =>
    intro w F h hn hF E O
    obtain ⟨F, rfl⟩ : ∃ n, F = n + 1 := ⟨F - 1, by omega⟩
    rw [DX2_soonest_l6.eq_2, if_pos (by omega)]
    exact ⟨h, rfl, E, O⟩
  | succ n ih =>
    intro w F h hn hF E O
    obtain ⟨F, rfl⟩ : ∃ n, F = n + 1 := ⟨F - 1, by omega⟩
    have st : ∀ (hv : Int) (h : qH) (k6 : Int → Int → Int → Int → Int → qH → Option (Int × qH)) (k32 : Int → Int → Int → Int → Int → Int → qH → Option (Int × qH)), (hv = 0 ∨ hv = 1) → cE h A e → cO h A → ∃ h', DX2_soonest_b52 k6 k32 f to t (-1) (w : Int) hv hv to f h = k32 f to t (-1) (w : Int) (hv + 1) h' ∧ cE h' A e ∧ cO h' A := by
      intro hv h k6 k32 hh E O
      unfold DX2_soonest_b52
      obtain ⟨h1, e1, E1, O1⟩ := c_outcome (t := t + (w : Int)) E O hf (Or.inr ht) hne hh (by omega) (by omega)
      rw [if_pos hto] at e1
      rw [qw_e (x := t + (w : Int)) (by omega) (by omega), e1]
      simp only [qbd_some, DX2_tidesOf, DX2_keeperOf, qlt]
      rw [if_pos (show ¬ qw (qand 1 7 - 2) = to by rw [qand_7, qw_e (by omega) (by omega)]; omega), qw_e (x := hv + 1) (by omega) (by omega)]
      exact ⟨h1, rfl, E1, O1⟩
    obtain ⟨h1, e1, E1, O1⟩ := st 0 h (DX2_soonest_l6 F) (DX2_soonest_l32 (DX2_soonest_l6 F) 13999) (Or.inl rfl) E O
    obtain ⟨h2, e2, E2, O2⟩ := st 1 h1 (DX2_soonest_l6 F) (DX2_soonest_l32 (DX2_soonest_l6 F) 13998) (Or.inr rfl) E1 O1
    obtain ⟨h3, e3, E3, O3⟩ := ih (w + 1) F h2 (by omega) (by omega) E2 O2
    refine ⟨h3, ?_, E3, O3⟩
    have a0 : DX2_soonest_l32 (DX2_soonest_l6 F) LF f to t (-1) (w : Int) 0 h = DX2_soonest_l32 (DX2_soonest_l6 F) 13999 f to t (-1) (w : Int) (0 + 1) h1 := by
      rw [show LF = 13999 + 1 from rfl, DX2_soonest_l32.eq_2, if_neg (by decide), if_pos (by decide)]
      exact e1
    have a1 : DX2_soonest_l32 (DX2_soonest_l6 F) 13999 f to t (-1) (w : Int) (0 + 1) h1 = DX2_soonest_l32 (DX2_soonest_l6 F) 13998 f to t (-1) (w : Int) (1 + 1) h2 := by
      rw [show 13999 = 13998 + 1 from rfl, DX2_soonest_l32.eq_2, if_neg (by decide), if_neg (by decide)]
      exact e2
    have a2 : DX2_soonest_l32 (DX2_soonest_l6 F) 13998 f to t (-1) (w : Int) (1 + 1) h2 = DX2_soonest_l6 F f to t (-1) ((w + 1 : Nat) : Int) h2 := by
      rw [show 13998 = 13997 + 1 from rfl, DX2_soonest_l32.eq_2, if_pos (by decide), qw_s (by omega)]
    rw [DX2_soonest_l6.eq_2, if_neg (by omega), if_pos rfl, a0, a1, a2, e3]
end bst
