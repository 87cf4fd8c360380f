/-! ===== numbers, words and cells that must stand here ===== -/
section tn
variable {hc hm : qH}
theorem tk_take (T : TX hc hm) (t : TK hc hm) (g : hm.1 212 11 = 0) {lo hi : Int} : ∃ r hc' r' hm', DX4_takeNumber lo hi hc = some (r, hc') ∧ DX10_takes lo hi hm = some (r', hm') ∧
    ((r' = r ∧ hm.1 212 9 = 31 ∧ r = hm.1 212 10 ∧ 0 ≤ r ∧ lo ≤ r ∧ r ≤ hi ∧ TX hc' hm' ∧ TK hc' hm' ∧ hm'.1 212 11 = 0 ∧ hm.1 212 6 < hm'.1 212 6 ∧ fr (fun i k => i = 2 ∧ 6 ≤ k ∧ k ≤ 9) hc hc' ∧ fr (fun i k => (i = 212 ∧ 6 ≤ k ∧ k ≤ 7) ∨ (i = 212 ∧ 9 ≤ k ∧ k ≤ 10)) hm hm') ∨
     (r = -1 ∧ BD hc' hm' ∧ ¬ (hm.1 212 9 = 31 ∧ lo ≤ hm.1 212 10 ∧ hm.1 212 10 ≤ hi) ∧ fr (fun i k => i = 2 ∧ 1 ≤ k ∧ k ≤ 2) hc hc' ∧ fr (fun i k => i = 212 ∧ 11 ≤ k ∧ k ≤ 12) hm hm')) := by
  have tn := tk_num t
  unfold DX4_takeNumber DX10_takes DX10_takes_b37
  rw [ok_is g, qbd_some]
  by_cases e : hm.1 212 9 = 31
  · obtain ⟨v1, v2, v3⟩ := tk_val t e
    rw [if_pos (tn.mpr e), if_pos e, if_pos (show ¬ (1 : Int) = 0 by decide), m_within, qbd_some, v1]
    by_cases b : lo ≤ hm.1 212 10 ∧ hm.1 212 10 ≤ hi
    · obtain ⟨h1, h2, e1, e2, T1, t1, a1, a2, f1, f2⟩ := tk_adv T t
      rw [if_neg (show ¬ hm.1 212 10 < lo by omega), if_pos b.2, if_pos b, if_pos (show ¬ (1 : Int) = 0 by decide)]
      simp only [qlt]
      rw [if_neg (show ¬ ¬ hm.1 212 11 = 0 from fun z => z g), e1, e2, qbd_some, qbd_some]
      exact ⟨_, h1, _, h2, rfl, rfl, Or.inl ⟨rfl, e, rfl, v2, b.1, b.2, T1, t1, by rw [f2.at 212 11 (by omega)]; exact g, a2 (by omega), f1, f2⟩⟩
    · obtain ⟨h1, h2, e1, e2, bd, f1, f2⟩ := tk_rf T t g (w := 3) (by decide)
      have ec : (if hm.1 212 10 < lo then (DX4_takeNumber_b32 hc) else (if hm.1 212 10 ≤ hi then (qlt (hm.1 212 10) fun v4 => (qbd (DX4_advance hc) fun r5 h6 => some (v4, h6))) else (DX4_takeNumber_b32 hc))) = DX4_takeNumber_b32 hc := by
        by_cases z : hm.1 212 10 < lo
        · rw [if_pos z]
        · rw [if_neg z, if_neg (show ¬ hm.1 212 10 ≤ hi by omega)]
      rw [ec, if_neg b, if_neg (show ¬ ¬ (0 : Int) = 0 by decide), e2, qbd_some]
      unfold DX4_takeNumber_b32
      simp only [qlt]
      rw [e1, qbd_some, if_pos bd.w]
      exact ⟨_, h1, _, h2, rfl, rfl, Or.inr ⟨rfl, bd, fun z => b z.2, f1, f2⟩⟩
  · obtain ⟨h1, h2, e1, e2, bd, f1, f2⟩ := tk_rf T t g (w := 2) (by decide)
    rw [if_neg (fun z => e (tn.mp z)), if_neg e, if_neg (show ¬ ¬ (0 : Int) = 0 by decide), e1, e2, qbd_some, qbd_some]
    simp only [qlt]
    rw [if_pos bd.w]
    exact ⟨_, h1, _, h2, rfl, rfl, Or.inr ⟨rfl, bd, fun z => e z.1, f1, f2⟩⟩
theorem tk_tw {i : Nat} (hi : i < 28) (T : TX hc hm) (t : TK hc hm) (g : hm.1 212 11 = 0) : ∃ r hc' hm', DX4_takeWord (kwS i) hc = some (r, hc') ∧
    ((r = 1 ∧ DX10_eats (i : Int) hm = some (1, hm') ∧ TX hc' hm' ∧ TK hc' hm' ∧ hm'.1 212 11 = 0 ∧ hm.1 212 6 < hm'.1 212 6 ∧ fr (fun i k => i = 2 ∧ 6 ≤ k ∧ k ≤ 9) hc hc' ∧ fr (fun i k => (i = 212 ∧ 6 ≤ k ∧ k ≤ 7) ∨ (i = 212 ∧ 9 ≤ k ∧ k ≤ 10)) hm hm') ∨
     (r = 0 ∧ DX10_eats (i : Int) hm = some (0, hm) ∧ DX10_fails 2 hm = some (0, hm') ∧ BD hc' hm' ∧ fr (fun i k => i = 2 ∧ 1 ≤ k ∧ k ≤ 2) hc hc' ∧ fr (fun i k => i = 212 ∧ 11 ≤ k ∧ k ≤ 12) hm hm')) := by
  unfold DX4_takeWord DX10_eats
  rw [tk_word hi T t, ok_is g, qbd_some, qbd_some]
  by_cases e : hm.1 212 9 = (i : Int)
  · obtain ⟨h1, h2, e1, e2, T1, t1, a1, a2, f1, f2⟩ := tk_adv T t
    rw [if_pos e, if_pos (show ¬ (1 : Int) = 0 by decide), if_pos (show ¬ (1 : Int) = 0 by decide), e1, e2, qbd_some, qbd_some]
    exact ⟨1, h1, h2, rfl, Or.inl ⟨rfl, rfl, T1, t1, by rw [f2.at 212 11 (by omega)]; exact g, a2 (by omega), f1, f2⟩⟩
  · obtain ⟨h1, h2, e1, e2, bd, f1, f2⟩ := tk_rf T t g (w := 2) (by decide)
    rw [if_neg e, if_neg (show ¬ ¬ (0 : Int) = 0 by decide), if_neg (show ¬ ¬ (0 : Int) = 0 by decide), e1, qbd_some, if_pos (Or.inl rfl)]
    exact ⟨0, h1, h2, rfl, Or.inr ⟨rfl, rfl, e2, bd, f1, f2⟩⟩
/-! the chart that is being drawn -/
def cM (hc : qH) (A : Nat → Int) : Prop := (hc.1 16 11 = A 1 ∧ hc.1 16 12 = A 2 ∧ hc.1 16 14 = A 4) ∧ (∀ k, k < 36 → hc.1 17 k = A (14 + k)) ∧ (∀ s : Nat, (s : Int) < A 4 → hc.1 19 s = A (266 + s) ∧ hc.1 20 s = A (272 + s))
def cQ (hc : qH) (A : Nat → Int) : Prop := cM hc A ∧ hc.1 16 13 = A 3 ∧ (hc.1 16 16 = A 0 ∧ hc.1 16 17 = A 5 ∧ hc.1 16 18 = A 6 ∧ hc.1 16 19 = A 7 ∧ hc.1 16 15 = cv_cnt A (A 1 * A 2).toNat) ∧ (∀ j, j < 216 → hc.1 18 j = A (50 + j)) ∧ (∀ s : Nat, (s : Int) < A 4 → hc.1 22 s = A (278 + s)) ∧ cv_lr hc 16 A 0 ∧ cv_lr hc 16 A 1
def CD (hc hm : qH) : Prop := hc.1 2 5 = hm.1 216 1011 ∧ (0 ≤ hm.1 216 1011 ∧ hm.1 216 1011 ≤ hm.1 212 6) ∧ (∀ k : Nat, (k : Int) < hm.1 216 1011 → hc.1 23 k = cv_cm (hm.1 216 (1012 + k)))
/-- what is known of the reference's fresh sea -/
def FS (hm : qH) : Prop := cG (hm.1 216) ∧ (0 ≤ hm.1 216 0 ∧ hm.1 216 0 ≤ hm.1 212 6) ∧ (∀ law : Nat, law < 2 → hm.1 216 (8 + law) = 1 → hm.1 216 (10 + law) + hm.1 216 (12 + law) ≤ hm.1 216 1011) ∧ (∀ k : Nat, 284 ≤ k → k < 1011 → hm.1 216 k = 0)
def SG (hc hm : qH) : Prop := TX hc hm ∧ TK hc hm ∧ hm.1 212 11 = 0 ∧ (hc.1 2 1 = 0 ∧ hc.1 2 2 = -1) ∧ CD hc hm ∧ FS hm ∧ cQ hc (hm.1 216)
def SB (hc hm : qH) : Prop := BD hc hm ∧ ∃ A, cG A ∧ cM hc A
def JS (hm : qH) (x y : Option (Int × qH)) : Prop := ∃ r hc' r' hm', x = some (r, hc') ∧ y = some (r', hm') ∧ ((r = 1 ∧ SG hc' hm' ∧ hm.1 212 6 < hm'.1 212 6) ∨ (r = 0 ∧ SB hc' hm'))
theorem cM.kp {P : Nat → Nat → Prop} {A : Nat → Int} {hc' : qH} (m : cM hc A) (f : fr P hc hc') (p : ∀ i k, ((i = 16 ∧ (k = 11 ∨ k = 12 ∨ k = 14)) ∨ i = 17 ∨ i = 19 ∨ i = 20) → ¬ P i k) : cM hc' A := by
  unfold cM
  rw [f.at 16 11 (p _ _ (by omega)), f.at 16 12 (p _ _ (by omega)), f.at 16 14 (p _ _ (by omega)), f.fn (i := 17) (fun k => p 17 k (by omega)), f.fn (i := 19) (fun k => p 19 k (by omega)), f.fn (i := 20) (fun k => p 20 k (by omega))]
  exact m
theorem SG.sb {P : Nat → Nat → Prop} {hc' hm' : qH} (S : SG hc hm) (b : BD hc' hm') (f : fr P hc hc') (p : ∀ i k, ((i = 16 ∧ (k = 11 ∨ k = 12 ∨ k = 14)) ∨ i = 17 ∨ i = 19 ∨ i = 20) → ¬ P i k) : SB hc' hm' :=
  ⟨b, hm.1 216, S.2.2.2.2.2.1.1, S.2.2.2.2.2.2.1.kp f p⟩
theorem cQ.kp {P : Nat → Nat → Prop} {A : Nat → Int} {hc' : qH} (m : cQ hc A) (f : fr P hc hc') (p : ∀ i k, 16 ≤ i → i ≤ 23 → ¬ P i k) : cQ hc' A := by
  have e : ∀ i, 16 ≤ i → i ≤ 23 → hc'.1 i = hc.1 i := fun i a b => f.fn (fun k => p i k a b)
  unfold cQ cM cv_lr
  rw [e 16 (by omega) (by omega), e 17 (by omega) (by omega), e 18 (by omega) (by omega), e 19 (by omega) (by omega), e 20 (by omega) (by omega), e 22 (by omega) (by omega), show 16 + 7 = 23 from rfl, e 23 (by omega) (by omega)]
  exact m
theorem SG.tok {hc' hm' : qH} {P Q : Nat → Nat → Prop} (S : SG hc hm) (T : TX hc' hm') (t : TK hc' hm') (f : fr P hc hc') (g : fr Q hm hm') (p : ∀ i k, ((i = 2 ∧ ((1 ≤ k ∧ k ≤ 2) ∨ k = 5)) ∨ (16 ≤ i ∧ i ≤ 23)) → ¬ P i k) (q : ∀ i k, (i = 216 ∨ (i = 212 ∧ k = 11)) → ¬ Q i k) (a : hm.1 212 6 ≤ hm'.1 212 6) : SG hc' hm' := by
  obtain ⟨_, _, s3, s4, s5, s6, s7⟩ := S
  have m6 : hm'.1 216 = hm.1 216 := g.fn (fun k => q 216 k (by omega))
  have c3 : hc'.1 23 = hc.1 23 := f.fn (fun k => p 23 k (by omega))
  refine ⟨T, t, by rw [g.at 212 11 (q _ _ (by omega))]; exact s3, by rw [f.at 2 1 (p _ _ (by omega)), f.at 2 2 (p _ _ (by omega))]; exact s4, ?_, ?_, by rw [m6]; exact s7.kp f (fun i k a b => p i k (by omega))⟩
  · unfold CD
    rw [m6, c3, f.at 2 5 (p _ _ (by omega))]
    exact ⟨s5.1, ⟨s5.2.1.1, by have := s5.2.1.2; omega⟩, s5.2.2⟩
  · unfold FS
    rw [m6]
    exact ⟨s6.1, ⟨s6.2.1.1, by have := s6.2.1.2; omega⟩, s6.2.2⟩
theorem SG.adv (S : SG hc hm) (k : hm.1 212 9 ≠ 32) : ∃ hc' hm', DX4_advance hc = some (0, hc') ∧ DX10_next hm = some (0, hm') ∧ SG hc' hm' ∧ hm.1 212 6 < hm'.1 212 6 ∧ hm'.1 216 = hm.1 216 ∧ fr (fun i k => i = 2 ∧ 6 ≤ k ∧ k ≤ 9) hc hc' := by
  obtain ⟨h1, h2, e1, e2, T1, t1, a1, a2, f1, f2⟩ := tk_adv S.1 S.2.1
  exact ⟨h1, h2, e1, e2, S.tok T1 t1 f1 f2 (fun i k g => by omega) (fun i k g => by omega) a1, a2 k, f2.fn (fun k => by omega), f1⟩
theorem q_isCell {A : Nat → Int} (G : cG A) (r : cM hc A) (k : Int) : DX1_isCell 16 k hc = some (if 0 ≤ k ∧ k < A 1 * A 2 then 1 else 0, hc) := by
  have hc := G.cells
  unfold DX1_isCell
  rw [r.1.1, r.1.2.1, qw_e (by omega) (by omega)]
  (repeat' split) <;> first | rfl | omega
theorem q_isOpen {A : Nat → Int} (G : cG A) (r : cM hc A) (k : Int) : DX1_isOpen 16 k hc = some (if 0 ≤ k ∧ k < A 1 * A 2 ∧ A (14 + k.toNat) = 0 then 1 else 0, hc) := by
  have hcc := G.cells
  unfold DX1_isOpen
  rw [r.1.1, r.1.2.1, qw_e (by omega) (by omega)]
  by_cases h1 : 0 ≤ k ∧ k < A 1 * A 2
  · rw [if_neg (by omega), if_neg (by omega), if_neg (by omega), if_pos (by omega), r.2.1 k.toNat (by omega)]
    by_cases h2 : A (14 + k.toNat) = 0
    · rw [if_neg (fun g => g h2), if_pos ⟨h1.1, h1.2, h2⟩]
    · rw [if_pos h2, if_neg (fun g => h2 g.2.2)]
  · have h3 : ¬ (0 ≤ k ∧ k < A 1 * A 2 ∧ A (14 + k.toNat) = 0) := fun g => h1 ⟨g.1, g.2.1⟩
    rw [if_neg h3]
    (repeat' split) <;> first | rfl | omega
/-- a cell told by its two numbers -/
theorem tk_cell (S : SG hc hm) {op : Int} (ho : op = 0 ∨ op = 1) : ∃ r hc' r' hm', DX4_takeCell op hc = some (r, hc') ∧ DX10_takesCell op hm = some (r', hm') ∧
    ((r' = r ∧ 0 ≤ r ∧ r < hm.1 216 1 * hm.1 216 2 ∧ (op = 1 → hm.1 216 (14 + r.toNat) = 0) ∧ SG hc' hm' ∧ hm.1 212 6 < hm'.1 212 6 ∧ hm'.1 216 = hm.1 216) ∨
     (r = -1 ∧ BD hc' hm' ∧ fr (fun i k => i = 2) hc hc')) := by
  obtain ⟨T, t, g, s4, s5, s6, s7⟩ := S
  have S0 : SG hc hm := ⟨T, t, g, s4, s5, s6, s7⟩
  have G := s6.1
  have bf : hc.2.2.2.2 = true := by rw [T.1]
  have w1 := s7.1.1.1
  have w2 := s7.1.1.2.1
  have wr : 0 ≤ hm.1 216 1 ∧ hm.1 216 1 ≤ 6 ∧ 0 ≤ hm.1 216 2 ∧ hm.1 216 2 ≤ 6 := by have := G.1; omega
  unfold DX4_takeCell DX10_takesCell
  rw [if_pos bf, w1, qw_e (x := hm.1 216 1 - 1) (by omega) (by omega)]
  obtain ⟨x, h1, x', h2, e1, e2, e3⟩ := tk_take (lo := 0) (hi := hm.1 216 1 - 1) T t g
  rw [e1, e2, qbd_some, qbd_some]
  rcases e3 with ⟨rfl, x1, x2, x3, x4, x5, T1, t1, g1, a1, f1, f2⟩ | ⟨rfl, b, _, f1, f2⟩
  · have S1 : SG h1 h2 := S0.tok T1 t1 f1 f2 (fun i k g => by omega) (fun i k g => by omega) (by omega)
    have m6 : h2.1 216 = hm.1 216 := f2.fn (fun k => by omega)
    have bf1 : h1.2.2.2.2 = true := by rw [T1.1]
    have v1 : h1.1 16 11 = hm.1 216 1 := by rw [f1.at 16 11 (by omega)]; exact w1
    have v2 : h1.1 16 12 = hm.1 216 2 := by rw [f1.at 16 12 (by omega)]; exact w2
    have W : hm.1 216 1 = 2 ∨ hm.1 216 1 = 3 ∨ hm.1 216 1 = 4 ∨ hm.1 216 1 = 5 ∨ hm.1 216 1 = 6 := by have := G.1; omega
    have H : 2 ≤ hm.1 216 2 := by have := G.1; omega
    have tn := tk_num t1
    -- the second number, read by both
    have fin : (op = 1 → h2.1 212 9 = 31 → h2.1 212 10 ≤ hm.1 216 2 - 1 → hm.1 216 (14 + (h2.1 212 10 * hm.1 216 1 + x').toNat) = 0) → ∃ r hc' r' hm', DX4_takeCell_b90 x' h1 = some (r, hc') ∧ DX10_takesCell_b84 x' h2 = some (r', hm') ∧ ((r' = r ∧ 0 ≤ r ∧ r < hm.1 216 1 * hm.1 216 2 ∧ (op = 1 → hm.1 216 (14 + r.toNat) = 0) ∧ SG hc' hm' ∧ hm.1 212 6 < hm'.1 212 6 ∧ hm'.1 216 = hm.1 216) ∨ (r = -1 ∧ BD hc' hm' ∧ fr (fun i k => i = 2) hc hc')) := by
      intro op1
      unfold DX4_takeCell_b90 DX10_takesCell_b84
      rw [if_pos bf1, v2, m6, qw_e (x := hm.1 216 2 - 1) (by omega) (by omega)]
      obtain ⟨y, h3, y', h4, e4, e5, e6⟩ := tk_take (lo := 0) (hi := hm.1 216 2 - 1) T1 t1 g1
      rw [e4, e5, qbd_some, qbd_some]
      rcases e6 with ⟨rfl, y1, y2, y3, y4, y5, T3, t3, g3, a3, f3, f4⟩ | ⟨rfl, b, _, f3, f4⟩
      · have S3 : SG h3 h4 := S1.tok T3 t3 f3 f4 (fun i k g => by omega) (fun i k g => by omega) (by omega)
        have bf3 : h3.2.2.2.2 = true := by rw [T3.1]
        have m64 : h4.1 216 = hm.1 216 := by rw [← m6]; exact f4.fn (fun k => by omega)
        have v3 : h3.1 16 11 = hm.1 216 1 := by rw [f3.at 16 11 (by omega)]; exact v1
        rw [if_pos (show ¬ y' = -1 by omega), if_pos bf3, v3, if_neg (show ¬ ¬ h4.1 212 11 = 0 from fun z => z g3), m64]
        have rng : 0 ≤ y' * hm.1 216 1 + x' ∧ y' * hm.1 216 1 + x' < hm.1 216 1 * hm.1 216 2 ∧ 0 ≤ y' * hm.1 216 1 ∧ y' * hm.1 216 1 < 100 ∧ hm.1 216 1 * y' = y' * hm.1 216 1 ∧ hm.1 216 1 * hm.1 216 2 ≤ 36 := by
          generalize hm.1 216 1 = w at *
          generalize hm.1 216 2 = hh at *
          rcases W with rfl | rfl | rfl | rfl | rfl <;> omega
        rw [rng.2.2.2.2.1, qw_e (x := y' * hm.1 216 1) (by omega) (by omega), qw_e (x := y' * hm.1 216 1 + x') (by omega) (by omega)]
        refine ⟨_, h3, _, h4, rfl, rfl, Or.inl ⟨rfl, rng.1, rng.2.1, fun o => ?_, S3, by omega, m64⟩⟩
        have := op1 o y1 (by omega)
        rw [← y2] at this
        exact this
      · rw [if_neg (show ¬ ¬ (-1 : Int) = -1 by decide), if_pos b.w]
        exact ⟨_, h3, _, h4, rfl, rfl, Or.inr ⟨rfl, b, (f1.mono (fun i k g => by omega)).tr (f3.mono (fun i k g => by omega))⟩⟩
    rw [if_pos (show ¬ x' = -1 by omega), if_neg (show ¬ ¬ h2.1 212 11 = 0 from fun z => z g1), ok_is g1, qbd_some, m_within, qbd_some, m6, qw_e (x := hm.1 216 2 - 1) (by omega) (by omega), if_pos bf1, v2]
    unfold DX4_takeCell_b49
    rcases ho with o | o
    · subst o
      rw [if_pos rfl, if_pos rfl]
      have ec : (if ¬ h1.1 2 6 = 2 then (DX4_takeCell_b90 x' h1) else (if hm.1 216 2 ≤ h1.1 2 9 then (DX4_takeCell_b90 x' h1) else (DX4_takeCell_b90 x' h1))) = DX4_takeCell_b90 x' h1 := by
        (repeat' split) <;> rfl
      rw [ec]
      exact fin (fun z => absurd z (by decide))
    · subst o
      rw [if_neg (show ¬ (1 : Int) = 0 by decide), if_neg (show ¬ (1 : Int) = 0 by decide), if_pos rfl, if_neg (show ¬ (1 : Int) = 0 by decide)]
      by_cases k : h2.1 212 9 = 31
      · obtain ⟨u1, u2, u3⟩ := tk_val t1 k
        rw [if_neg (show ¬ ¬ h1.1 2 6 = 2 from fun z => z (tn.mpr k)), u1, if_pos k, if_neg (show ¬ (1 : Int) = 0 by decide)]
        by_cases k2 : h2.1 212 10 ≤ hm.1 216 2 - 1
        · have rng : 0 ≤ h2.1 212 10 * hm.1 216 1 + x' ∧ h2.1 212 10 * hm.1 216 1 + x' < hm.1 216 1 * hm.1 216 2 ∧ 0 ≤ h2.1 212 10 * hm.1 216 1 ∧ h2.1 212 10 * hm.1 216 1 < 100 ∧ hm.1 216 1 * h2.1 212 10 = h2.1 212 10 * hm.1 216 1 ∧ hm.1 216 1 * hm.1 216 2 ≤ 36 := by
            generalize hm.1 216 1 = w at *
            generalize hm.1 216 2 = hh at *
            generalize h2.1 212 10 = y at *
            rcases W with rfl | rfl | rfl | rfl | rfl <;> omega
          have G1 := S1.2.2.2.2.2.1.1
          have M1 := S1.2.2.2.2.2.2.1
          rw [m6] at G1 M1
          rw [if_neg (show ¬ hm.1 216 2 ≤ h2.1 212 10 by omega), if_pos (show 0 ≤ h2.1 212 10 ∧ h2.1 212 10 ≤ hm.1 216 2 - 1 by omega), if_neg (show ¬ (1 : Int) = 0 by decide), if_pos bf1, if_pos bf1, v1, qw_e (x := h2.1 212 10 * hm.1 216 1) (by omega) (by omega), qw_e (x := h2.1 212 10 * hm.1 216 1 + x') (by omega) (by omega), q_isOpen G1 M1, qbd_some, rng.2.2.2.2.1, qw_e (x := h2.1 212 10 * hm.1 216 1) (by omega) (by omega), qw_e (x := 14 + h2.1 212 10 * hm.1 216 1) (by omega) (by omega), qw_e (x := 14 + h2.1 212 10 * hm.1 216 1 + x') (by omega) (by omega), if_pos (show 0 ≤ 14 + h2.1 212 10 * hm.1 216 1 + x' ∧ 14 + h2.1 212 10 * hm.1 216 1 + x' < 1912 by omega), show (14 + h2.1 212 10 * hm.1 216 1 + x').toNat = 14 + (h2.1 212 10 * hm.1 216 1 + x').toNat by omega]
          by_cases z : hm.1 216 (14 + (h2.1 212 10 * hm.1 216 1 + x').toNat) = 0
          · rw [if_pos z, if_pos (show 0 ≤ h2.1 212 10 * hm.1 216 1 + x' ∧ h2.1 212 10 * hm.1 216 1 + x' < hm.1 216 1 * hm.1 216 2 ∧ hm.1 216 (14 + (h2.1 212 10 * hm.1 216 1 + x').toNat) = 0 from ⟨rng.1, rng.2.1, z⟩), if_pos (show ¬ (1 : Int) = 0 by decide)]
            exact fin (fun _ _ _ => z)
          · rw [if_neg z, if_neg (show ¬ (0 ≤ h2.1 212 10 * hm.1 216 1 + x' ∧ h2.1 212 10 * hm.1 216 1 + x' < hm.1 216 1 * hm.1 216 2 ∧ hm.1 216 (14 + (h2.1 212 10 * hm.1 216 1 + x').toNat) = 0) from fun w => z w.2.2), if_neg (show ¬ ¬ (0 : Int) = 0 by decide)]
            obtain ⟨h3, h4, e4, e5, b, f3, f4⟩ := tk_rf T1 t1 g1 (w := 3) (by decide)
            unfold DX10_takesCell_b84
            rw [e4, e5, qbd_some, qbd_some, in_takes b.w, qbd_some, if_pos b.w]
            exact ⟨_, h3, _, h4, rfl, rfl, Or.inr ⟨rfl, b, (f1.mono (fun i k g => by omega)).tr (f3.mono (fun i k g => by omega))⟩⟩
        · rw [if_pos (show hm.1 216 2 ≤ h2.1 212 10 by omega), if_neg (show ¬ (0 ≤ h2.1 212 10 ∧ h2.1 212 10 ≤ hm.1 216 2 - 1) by omega), if_pos rfl]
          exact fin (fun _ _ z => absurd z k2)
      · rw [if_pos (show ¬ h1.1 2 6 = 2 from fun z => k (tn.mp z)), if_neg k, if_pos rfl]
        exact fin (fun _ z _ => absurd z k)
  · rw [if_neg (show ¬ ¬ (-1 : Int) = -1 by decide), if_pos b.w]
    unfold DX10_takesCell_b84
    rw [in_takes b.w, qbd_some, if_pos b.w]
    exact ⟨_, h1, _, h2, rfl, rfl, Or.inr ⟨rfl, b, f1.mono (fun i k g => by omega)⟩⟩
end tn
