/-! ===== the lines of a sea, by both ===== -/
theorem okl_cg {A B : Nat → Int} {law : Nat} {b : Bool} (hl : law < 2) (e : ∀ k, ((8 ≤ k ∧ k < 14) ∨ 1012 ≤ k) → B k = A k) (o : cv_okl A law b) : cv_okl B law b := by
  have ec : cv_code B law = cv_code A law := by
    unfold cv_code
    rw [e (12 + law) (by omega), e (10 + law) (by omega)]
    exact List.map_congr_left (fun i _ => e _ (by omega))
  unfold cv_okl at *
  rw [ec, e (8 + law) (by omega), e (10 + law) (by omega), e (12 + law) (by omega)]
  exact o
theorem lr_cg {hc hc' : qH} {A B : Nat → Int} {law : Nat} (hl : law < 2) (e : ∀ k, ((8 ≤ k ∧ k < 14) ∨ 1012 ≤ k) → B k = A k) (e2 : ∀ k, 7 ≤ k → k ≤ 10 → hc'.1 16 k = hc.1 16 k) (e3 : hc'.1 23 = hc.1 23) (o : cv_lr hc 16 A law) : cv_lr hc' 16 B law := by
  unfold cv_lr at *
  rw [e (8 + law) (by omega), e (10 + law) (by omega), e (12 + law) (by omega), e2 (8 + 2 * law) (by omega) (by omega), e2 (7 + 2 * law) (by omega) (by omega), show 16 + 7 = 23 from rfl, e3]
  rcases o with o | ⟨o1, o2, o3, o4⟩
  · exact Or.inl o
  · refine Or.inr ⟨o1, o2, o3, fun i hi => ?_⟩
    rw [e _ (by omega)]
    exact o4 i hi
theorem cnt_b (A : Nat → Int) : ∀ n, 0 ≤ cv_cnt A n ∧ cv_cnt A n ≤ (n : Int) := by
  intro n
  induction n with
  | zero => exact ⟨Int.le_refl _, Int.le_refl _⟩
  | succ n ih => rw [cv_cnt.eq_2]; split <;> omega
theorem cnt_cg {A B : Nat → Int} : ∀ n : Nat, (∀ k, k < n → (A (14 + k) = 1 ↔ B (14 + k) = 1)) → cv_cnt B n = cv_cnt A n := by
  intro n
  induction n with
  | zero => intro _; rfl
  | succ n ih =>
    intro h
    rw [cv_cnt.eq_2, cv_cnt.eq_2, ih (fun k hk => h k (by omega))]
    have := h n (by omega)
    by_cases e : A (14 + n) = 1
    · rw [if_pos e, if_pos (this.mp e)]
    · rw [if_neg e, if_neg (fun z => e (this.mpr z))]
theorem cnt_up {A B : Nat → Int} {c : Nat} (hc0 : ¬ A (14 + c) = 1) (hc1 : B (14 + c) = 1) (ho : ∀ k, ¬ k = c → B (14 + k) = A (14 + k)) : ∀ n : Nat, (c < n → cv_cnt B n = cv_cnt A n + 1) ∧ (n ≤ c → cv_cnt B n = cv_cnt A n) := by
  intro n
  induction n with
  | zero => exact ⟨fun h => by omega, fun _ => rfl⟩
  | succ n ih =>
    rw [cv_cnt.eq_2, cv_cnt.eq_2]
    by_cases e : n = c
    · subst e
      rw [ih.2 (by omega), if_pos hc1, if_neg hc0]
      exact ⟨fun _ => by omega, fun h => by omega⟩
    · rw [ho n e]
      refine ⟨fun h => ?_, fun h => ?_⟩
      · rw [ih.1 (by omega)]; omega
      · rw [ih.2 (by omega)]
section ln
variable {hc hm : qH}
theorem TK.kp {hc' hm' : qH} {P Q : Nat → Nat → Prop} (t : TK hc hm) (f : fr P hc hc') (g : fr Q hm hm') (p : ∀ k, 6 ≤ k → k ≤ 9 → ¬ P 2 k) (q : ∀ i k, (i = 215 ∨ (i = 212 ∧ 6 ≤ k ∧ k ≤ 10)) → ¬ Q i k) : TK hc' hm' := by
  obtain ⟨a, b, p1, p2, q1, q2, pq, qS, kk⟩ := t
  have m2 : ∀ k, 6 ≤ k → k ≤ 10 → hm'.1 212 k = hm.1 212 k := fun k x y => g.at 212 k (q _ _ (by omega))
  have m5 : hm'.1 215 = hm.1 215 := g.fn (fun k => q _ _ (by omega))
  have c2 : ∀ k, 6 ≤ k → k ≤ 9 → hc'.1 2 k = hc.1 2 k := fun k x y => f.at 2 k (p k x y)
  refine ⟨a, b, by rw [m2 6 (by omega) (by omega)]; exact p1, by rw [c2 7 (by omega) (by omega)]; exact p2, by rw [m2 7 (by omega) (by omega)]; exact q1, by rw [c2 8 (by omega) (by omega)]; exact q2, pq, by rw [m2 8 (by omega) (by omega)]; exact qS, ?_⟩
  unfold KT
  rw [m2 9 (by omega) (by omega), m2 10 (by omega) (by omega), m5, c2 6 (by omega) (by omega), c2 9 (by omega) (by omega)]
  exact kk
/-- both write into their charts -/
theorem SG.wr {hc' hm' : qH} (S : SG hc hm) (f : fr (fun i _ => 16 ≤ i ∧ i ≤ 22) hc hc') (g : fr (fun i k => i = 216 ∧ k < 284) hm hm') (G : cG (hm'.1 216)) (l0 : 0 ≤ hm'.1 216 0 ∧ hm'.1 216 0 ≤ hm.1 212 6) (lw : ∀ k, 8 ≤ k → k < 14 → hm'.1 216 k = hm.1 216 k) (Q : cQ hc' (hm'.1 216)) : SG hc' hm' := by
  obtain ⟨s1, s2, s3, s4, s5, s6, s7⟩ := S
  have e11 : hm'.1 216 1011 = hm.1 216 1011 := g.at _ _ (by omega)
  have p6 : hm'.1 212 6 = hm.1 212 6 := g.at _ _ (by omega)
  refine ⟨s1.kp f g (fun i k z => by omega) (fun i k z => by omega), s2.kp f g (fun k a b => by omega) (fun i k z => by omega), by rw [g.at 212 11 (by omega)]; exact s3, by rw [f.at 2 1 (by omega), f.at 2 2 (by omega)]; exact s4, ?_, ⟨G, by rw [p6]; exact l0, fun law hl => ?_, fun k a b => by rw [g.at 216 k (by omega)]; exact s6.2.2.2 k a b⟩, Q⟩
  · obtain ⟨a1, a2, a3⟩ := s5
    refine ⟨by rw [e11, f.at 2 5 (by omega)]; exact a1, by rw [e11, p6]; exact a2, fun k hk => ?_⟩
    rw [e11] at hk
    rw [f.at 23 k (by omega), g.at 216 (1012 + k) (by omega)]
    exact a3 k hk
  · rw [lw (8 + law) (by omega) (by omega), lw (10 + law) (by omega) (by omega), lw (12 + law) (by omega) (by omega), e11]
    exact s6.2.2.1 law hl
theorem JS.bad {h0 : qH} {x y : Option (Int × qH)} {r' : Int} {hc' hm' : qH} (e1 : x = some (0, hc')) (e2 : y = some (r', hm')) (z : SB hc' hm') : JS h0 x y := ⟨0, hc', r', hm', e1, e2, Or.inr ⟨rfl, z⟩⟩
theorem JS.good {h0 : qH} {x y : Option (Int × qH)} {r' : Int} {hc' hm' : qH} (e1 : x = some (1, hc')) (e2 : y = some (r', hm')) (z : SG hc' hm') (a : h0.1 212 6 < hm'.1 212 6) : JS h0 x y := ⟨1, hc', r', hm', e1, e2, Or.inl ⟨rfl, z, a⟩⟩
/-- a line's end -/
theorem j_ends (S : SG hc hm) : JS hm (DX4_lineEnds hc) (DX10_ends hm) := by
  unfold DX4_lineEnds DX10_ends
  obtain ⟨r, h1, h2, y1, y2⟩ := tk_sign S.1 S.2.1 S.2.2.1 (j := 0) (x := 59) (by decide) (by decide +kernel)
  rw [show (40 + ((0 : Nat) : Int)) = 40 from rfl] at y2
  rw [y1, qbd_some]
  rcases y2 with ⟨rfl, y2, y3, y4, y5⟩ | ⟨rfl, y2, y3, y4⟩
  · obtain ⟨g1, g2, a1, a2, Sa, na, nb, fa⟩ := S.adv (by omega)
    rw [y4] at a1
    rw [y5] at a2
    injection a1 with a1
    injection a1 with _ a1
    injection a2 with a2
    injection a2 with _ a2
    subst a1 a2
    have bf : h1.2.2.2.2 = true := by rw [Sa.1.1]
    obtain ⟨Q1, Q2, Q3, Q4, Q5, Q6, Q7⟩ := Sa.2.2.2.2.2.2
    have G := Sa.2.2.2.2.2.1.1
    have l0 := Sa.2.2.2.2.2.1.2.1
    have l1 := S.2.2.2.2.2.1.2.1
    rw [← nb] at l1
    have x9 : h2.1 212 6 ≤ 900 := by have := tk_pos Sa.2.1; have := Sa.1.2.2.2; omega
    rw [y2, qbd_some, if_pos (show ¬ (1 : Int) = 0 by decide), if_pos (show ¬ (1 : Int) = 0 by decide), if_pos bf]
    simp only [qlt]
    rw [Q3.1, qw_e (x := h2.1 216 0 + 1) (by omega) (by omega)]
    have f : fr (fun i _ => 16 ≤ i ∧ i ≤ 22) h1 (qu h1 16 16 (h2.1 216 0 + 1)) := fr_q fr.rf (by omega)
    have g : fr (fun i k => i = 216 ∧ k < 284) h2 (qu h2 216 0 (h2.1 216 0 + 1)) := fr_q fr.rf (by omega)
    have e0 : (qu h2 216 0 (h2.1 216 0 + 1)).1 216 0 = h2.1 216 0 + 1 := by rw [qu_s, up_s]
    have e1 : ∀ k, ¬ k = 0 → (qu h2 216 0 (h2.1 216 0 + 1)).1 216 k = h2.1 216 k := fun k hk => by rw [qu_s, up_n _ _ hk]
    have c1 : ∀ k, ¬ k = 16 → (qu h1 16 16 (h2.1 216 0 + 1)).1 16 k = h1.1 16 k := fun k hk => by rw [qu_s, up_n _ _ hk]
    have c2 : ∀ i, ¬ i = 16 → (qu h1 16 16 (h2.1 216 0 + 1)).1 i = h1.1 i := fun i hi => qu_ne hi
    have c0 : (qu h1 16 16 (h2.1 216 0 + 1)).1 16 16 = h2.1 216 0 + 1 := by rw [qu_s, up_s]
    generalize qu h2 216 0 (h2.1 216 0 + 1) = hY at *
    generalize qu h1 16 16 (h2.1 216 0 + 1) = hX at *
    have p6 : hY.1 212 6 = h2.1 212 6 := g.at _ _ (by omega)
    refine JS.good rfl rfl (Sa.wr f g ?_ (by rw [e0]; omega) (fun k a b => e1 k (by omega)) ?_) (by omega)
    · obtain ⟨G1, G2, G3, G4, G5, G6, G7, G8, G9, G10, G11⟩ := G
      refine ⟨by rw [e1 1 (by decide), e1 2 (by decide)]; exact G1, by rw [e1 3 (by decide)]; exact G2, by rw [e1 4 (by decide)]; exact G3, by rw [e1 5 (by decide)]; exact G4, by rw [e1 6 (by decide)]; exact G5, by rw [e1 7 (by decide)]; exact G6, fun k hk => ?_, fun j hj => ?_, fun s hs => ?_, okl_cg (by decide) (fun k hk => e1 k (by omega)) G10, okl_cg (by decide) (fun k hk => e1 k (by omega)) G11⟩
      · rw [e1 (14 + k) (by omega), e1 4 (by decide)]; exact G7 k hk
      · rw [e1 (50 + j) (by omega)]; exact G8 j hj
      · rw [e1 4 (by decide)] at hs
        rw [e1 (266 + s) (by omega), e1 1 (by decide), e1 2 (by decide), e1 (272 + s) (by omega), e1 (278 + s) (by omega), e1 (14 + (h2.1 216 (266 + s)).toNat) (by omega)]
        exact G9 s hs
    · refine ⟨⟨⟨by rw [c1 11 (by decide), e1 1 (by decide)]; exact Q1.1.1, by rw [c1 12 (by decide), e1 2 (by decide)]; exact Q1.1.2.1, by rw [c1 14 (by decide), e1 4 (by decide)]; exact Q1.1.2.2⟩, fun k hk => by rw [c2 17 (by decide), e1 _ (by omega)]; exact Q1.2.1 k hk, fun s hs => ?_⟩, by rw [c1 13 (by decide), e1 3 (by decide)]; exact Q2, ⟨by rw [c0, e0], by rw [c1 17 (by decide), e1 5 (by decide)]; exact Q3.2.1, by rw [c1 18 (by decide), e1 6 (by decide)]; exact Q3.2.2.1, by rw [c1 19 (by decide), e1 7 (by decide)]; exact Q3.2.2.2.1, ?_⟩, fun j hj => by rw [c2 18 (by decide), e1 _ (by omega)]; exact Q4 j hj, fun s hs => ?_, lr_cg (by decide) (fun k hk => e1 k (by omega)) (fun k a b => c1 k (by omega)) (c2 23 (by decide)) Q6, lr_cg (by decide) (fun k hk => e1 k (by omega)) (fun k a b => c1 k (by omega)) (c2 23 (by decide)) Q7⟩
      · rw [e1 4 (by decide)] at hs
        rw [c2 19 (by decide), c2 20 (by decide), e1 _ (by omega), e1 _ (by omega)]; exact Q1.2.2 s hs
      · rw [c1 15 (by decide), e1 1 (by decide), e1 2 (by decide), Q3.2.2.2.2]
        exact (cnt_cg _ (fun k _ => by rw [e1 (14 + k) (by omega)])).symm
      · rw [e1 4 (by decide)] at hs
        rw [c2 22 (by decide), e1 _ (by omega)]; exact Q5 s hs
  · rw [y2, qbd_some, if_neg (show ¬ ¬ (0 : Int) = 0 by decide), if_neg (show ¬ ¬ (0 : Int) = 0 by decide), y3, qbd_some]
    simp only [qlt]
    refine JS.bad rfl rfl (S.sb (P := fun i k => i = 2) ?_ ((F_DX4_takeSign _ _ _ _ y1).mono (fun i k z => by omega)) (fun i k z => by omega))
    obtain ⟨b1, b2, b3, b4⟩ := y4
    refine ⟨b1, ?_, ?_, ?_⟩
    · rw [qu_ne (by decide)]; exact b2
    · rw [qu_ne (by decide)]; exact b3
    · rw [qu_ne (by decide)]; exact b4
/-- a rock -/
theorem j_rock (S : SG hc hm) (k : hm.1 212 9 = 2) : JS hm (DX4_rockLine hc) (DX10_readLine hm) := by
  obtain ⟨h1, h2, e1, e2, S1, n1, n2, f1⟩ := S.adv (by omega)
  unfold DX4_rockLine DX10_readLine DX10_eats
  rw [ok_is S.2.2.1, if_pos k, qbd_some, if_pos (show ¬ (1 : Int) = 0 by decide), e1, e2, qbd_some, qbd_some, qbd_some, if_neg (show ¬ (1 : Int) = 0 by decide)]
  obtain ⟨c, h3, c', h4, e3, e4, e5⟩ := tk_cell S1 (op := 1) (Or.inr rfl)
  rw [e3, e4, qbd_some, qbd_some]
  rcases e5 with ⟨rfl, x1, x2, x3, S3, n3, n4⟩ | ⟨rfl, b, f3⟩
  · have x3 := x3 rfl
    rw [← n4] at x2 x3
    have bf : h3.2.2.2.2 = true := by rw [S3.1.1]
    obtain ⟨Q1, Q2, Q3, Q4, Q5, Q6, Q7⟩ := S3.2.2.2.2.2.2
    have G := S3.2.2.2.2.2.1.1
    have l0 := S3.2.2.2.2.2.1.2.1
    have cc := G.cells
    obtain ⟨c, rfl⟩ := Int.eq_ofNat_of_zero_le x1
    rw [Int.toNat_natCast] at x3
    have cb := cnt_b (h4.1 216) (h4.1 216 1 * h4.1 216 2).toNat
    rw [if_pos bf, q_isCell G Q1, qbd_some, if_pos (show 0 ≤ (c : Int) ∧ (c : Int) < h4.1 216 1 * h4.1 216 2 from ⟨x1, x2⟩), if_pos (show ¬ (1 : Int) = 0 by decide), if_pos bf, if_pos (show 0 ≤ (c : Int) ∧ (c : Int) < 36 by omega), if_neg (show ¬ ¬ h4.1 212 11 = 0 from fun z => z S3.2.2.1), qw_e (x := 14 + (c : Int)) (by omega) (by omega), if_pos (show 0 ≤ 14 + (c : Int) ∧ 14 + (c : Int) < 1912 by omega), show (14 + (c : Int)).toNat = 14 + c by omega, Int.toNat_natCast]
    simp only [qlt]
    have bf2 : (qu h3 17 c 1).2.2.2.2 = true := bf
    have q15 : (qu h3 17 c 1).1 16 15 = cv_cnt (h4.1 216) (h4.1 216 1 * h4.1 216 2).toNat := by rw [qu_ne (by decide)]; exact Q3.2.2.2.2
    rw [if_pos bf2, q15, qw_e (by omega) (by omega)]
    have f : fr (fun i _ => 16 ≤ i ∧ i ≤ 22) h3 (qu (qu h3 17 c 1) 16 15 (cv_cnt (h4.1 216) (h4.1 216 1 * h4.1 216 2).toNat + 1)) := fr_q (fr_q fr.rf (by omega)) (by omega)
    have g : fr (fun i k => i = 216 ∧ k < 284) h4 (qu h4 216 (14 + c) 1) := fr_q fr.rf (by omega)
    have y0 : (qu h4 216 (14 + c) 1).1 216 (14 + c) = 1 := by rw [qu_s, up_s]
    have y1 : ∀ k, ¬ k = 14 + c → (qu h4 216 (14 + c) 1).1 216 k = h4.1 216 k := fun k hk => by rw [qu_s, up_n _ _ hk]
    have c1 : ∀ k, ¬ k = 15 → (qu (qu h3 17 c 1) 16 15 (cv_cnt (h4.1 216) (h4.1 216 1 * h4.1 216 2).toNat + 1)).1 16 k = h3.1 16 k := fun k hk => by rw [qu_s, up_n _ _ hk, qu_ne (by decide)]
    have c15 : (qu (qu h3 17 c 1) 16 15 (cv_cnt (h4.1 216) (h4.1 216 1 * h4.1 216 2).toNat + 1)).1 16 15 = cv_cnt (h4.1 216) (h4.1 216 1 * h4.1 216 2).toNat + 1 := by rw [qu_s, up_s]
    have c17 : ∀ k, (qu (qu h3 17 c 1) 16 15 (cv_cnt (h4.1 216) (h4.1 216 1 * h4.1 216 2).toNat + 1)).1 17 k = if k = c then 1 else h3.1 17 k := fun k => by rw [qu_ne (by decide), qu_s]; rfl
    have c2 : ∀ i, ¬ i = 16 → ¬ i = 17 → (qu (qu h3 17 c 1) 16 15 (cv_cnt (h4.1 216) (h4.1 216 1 * h4.1 216 2).toNat + 1)).1 i = h3.1 i := fun i a b => by rw [qu_ne a, qu_ne b]
    generalize hYe : qu h4 216 (14 + c) 1 = hY at *
    generalize hXe : qu (qu h3 17 c 1) 16 15 (cv_cnt (h4.1 216) (h4.1 216 1 * h4.1 216 2).toNat + 1) = hX at *
    have p6 : hY.1 212 6 = h4.1 212 6 := g.at _ _ (by omega)
    refine JS.good rfl rfl (S3.wr f g ?_ (by rw [y1 0 (by omega)]; exact l0) (fun k a b => y1 k (by omega)) ?_) (by omega)
    · obtain ⟨G1, G2, G3, G4, G5, G6, G7, G8, G9, G10, G11⟩ := G
      refine ⟨by rw [y1 1 (by omega), y1 2 (by omega)]; exact G1, by rw [y1 3 (by omega)]; exact G2, by rw [y1 4 (by omega)]; exact G3, by rw [y1 5 (by omega)]; exact G4, by rw [y1 6 (by omega)]; exact G5, by rw [y1 7 (by omega)]; exact G6, fun k hk => ?_, fun j hj => ?_, fun s hs => ?_, okl_cg (by decide) (fun k hk => y1 k (by omega)) G10, okl_cg (by decide) (fun k hk => y1 k (by omega)) G11⟩
      · by_cases e : k = c
        · rw [e, y0]; exact Or.inr (Or.inl rfl)
        · rw [y1 (14 + k) (by omega), y1 4 (by omega)]; exact G7 k hk
      · rw [y1 (50 + j) (by omega)]; exact G8 j hj
      · rw [y1 4 (by omega)] at hs
        have g9 := G9 s hs
        rw [y1 (266 + s) (by omega), y1 1 (by omega), y1 2 (by omega), y1 (272 + s) (by omega), y1 (278 + s) (by omega), y1 (14 + (h4.1 216 (266 + s)).toNat) (fun z => ?_)]
        · exact g9
        · have z2 : (h4.1 216 (266 + s)).toNat = c := by omega
          rw [z2] at g9
          omega
    · refine ⟨⟨⟨by rw [c1 11 (by decide), y1 1 (by omega)]; exact Q1.1.1, by rw [c1 12 (by decide), y1 2 (by omega)]; exact Q1.1.2.1, by rw [c1 14 (by decide), y1 4 (by omega)]; exact Q1.1.2.2⟩, fun k hk => ?_, fun s hs => ?_⟩, by rw [c1 13 (by decide), y1 3 (by omega)]; exact Q2, ⟨by rw [c1 16 (by decide), y1 0 (by omega)]; exact Q3.1, by rw [c1 17 (by decide), y1 5 (by omega)]; exact Q3.2.1, by rw [c1 18 (by decide), y1 6 (by omega)]; exact Q3.2.2.1, by rw [c1 19 (by decide), y1 7 (by omega)]; exact Q3.2.2.2.1, ?_⟩, fun j hj => by rw [c2 18 (by decide) (by decide), y1 _ (by omega)]; exact Q4 j hj, fun s hs => ?_, lr_cg (by decide) (fun k hk => y1 k (by omega)) (fun k a b => c1 k (by omega)) (c2 23 (by decide) (by decide)) Q6, lr_cg (by decide) (fun k hk => y1 k (by omega)) (fun k a b => c1 k (by omega)) (c2 23 (by decide) (by decide)) Q7⟩
      · rw [c17 k]
        by_cases e : k = c
        · rw [if_pos e, e, y0]
        · rw [if_neg e, y1 _ (by omega)]; exact Q1.2.1 k hk
      · rw [y1 4 (by omega)] at hs
        rw [c2 19 (by decide) (by decide), c2 20 (by decide) (by decide), y1 _ (by omega), y1 _ (by omega)]; exact Q1.2.2 s hs
      · rw [c15, y1 1 (by omega), y1 2 (by omega)]
        exact ((cnt_up (A := h4.1 216) (B := hY.1 216) (c := c) (by omega) y0 (fun k hk => y1 _ (by omega)) _).1 (by omega)).symm
      · rw [y1 4 (by omega)] at hs
        rw [c2 22 (by decide) (by decide), y1 _ (by omega)]; exact Q5 s hs
  · have S1b := S1.sb b f3 (fun i k z => by omega)
    have bf : h3.2.2.2.2 = true := by rw [b.1]
    obtain ⟨A, G, M⟩ := S1b.2
    rw [if_pos bf, q_isCell G M, qbd_some, if_neg (show ¬ (0 ≤ (-1 : Int) ∧ (-1 : Int) < A 1 * A 2) from fun z => absurd z.1 (by decide)), if_neg (show ¬ ¬ (0 : Int) = 0 by decide), if_pos b.w]
    exact JS.bad rfl rfl S1b
end ln
