section lm
variable {hc hm : qH}
/-- a sea of which only counts, moon, cork and currents have changed -/
theorem cG.low {A B : Nat → Int} (G : cG A) (e : ∀ k, ¬ (k = 0 ∨ k = 5 ∨ k = 6 ∨ k = 7 ∨ (50 ≤ k ∧ k < 266)) → B k = A k) (b5 : B 5 = 0 ∨ (2 ≤ B 5 ∧ B 5 ≤ 30)) (b6 : 0 ≤ B 6 ∧ B 6 ≤ 30) (b7 : 0 ≤ B 7 ∧ B 7 ≤ 99) (b50 : ∀ j : Nat, j < 216 → 0 ≤ B (50 + j) ∧ B (50 + j) ≤ 4) : cG B := by
  obtain ⟨G1, G2, G3, G4, G5, G6, G7, G8, G9, G10, G11⟩ := G
  refine ⟨by rw [e 1 (by omega), e 2 (by omega)]; exact G1, by rw [e 3 (by omega)]; exact G2, by rw [e 4 (by omega)]; exact G3, b5, b6, b7, fun k hk => ?_, b50, fun s hs => ?_, okl_cg (by decide) (fun k hk => e k (by omega)) G10, okl_cg (by decide) (fun k hk => e k (by omega)) G11⟩
  · rw [e (14 + k) (by omega), e 4 (by omega)]; exact G7 k hk
  · rw [e 4 (by omega)] at hs
    have g9 := G9 s hs
    have wh : A 1 * A 2 ≤ 36 := by
      rcases G1 with ⟨z1, z2⟩ | ⟨a, b, c, d⟩
      · rw [z1, z2]; decide
      · have h : A 1 = 2 ∨ A 1 = 3 ∨ A 1 = 4 ∨ A 1 = 5 ∨ A 1 = 6 := by omega
        rcases h with h | h | h | h | h <;> rw [h] <;> omega
    rw [e (266 + s) (by omega), e 1 (by omega), e 2 (by omega), e (272 + s) (by omega), e (278 + s) (by omega), e (14 + (A (266 + s)).toNat) (by omega)]
    exact g9
theorem cQ.low {hc' : qH} {A B : Nat → Int} (G : cG A) (Q : cQ hc A) (e : ∀ k, ¬ (k = 0 ∨ k = 5 ∨ k = 6 ∨ k = 7 ∨ (50 ≤ k ∧ k < 266)) → B k = A k) (c1 : ∀ k, k < 16 → hc'.1 16 k = hc.1 16 k) (c2 : ∀ i, 17 ≤ i → i ≤ 23 → ¬ i = 18 → hc'.1 i = hc.1 i) (d0 : hc'.1 16 16 = B 0) (d5 : hc'.1 16 17 = B 5) (d6 : hc'.1 16 18 = B 6) (d7 : hc'.1 16 19 = B 7) (d50 : ∀ j, j < 216 → hc'.1 18 j = B (50 + j)) : cQ hc' B := by
  obtain ⟨Q1, Q2, Q3, Q4, Q5, Q6, Q7⟩ := Q
  have h4 := G.2.2.1
  have cc := G.cells
  refine ⟨⟨⟨by rw [c1 11 (by decide), e 1 (by omega)]; exact Q1.1.1, by rw [c1 12 (by decide), e 2 (by omega)]; exact Q1.1.2.1, by rw [c1 14 (by decide), e 4 (by omega)]; exact Q1.1.2.2⟩, fun k hk => by rw [c2 17 (by decide) (by decide) (by decide), e _ (by omega)]; exact Q1.2.1 k hk, fun s hs => ?_⟩, by rw [c1 13 (by decide), e 3 (by omega)]; exact Q2, ⟨d0, d5, d6, d7, ?_⟩, d50, fun s hs => ?_, lr_cg (by decide) (fun k hk => e k (by omega)) (fun k a b => c1 k (by omega)) (c2 23 (by decide) (by decide) (by decide)) Q6, lr_cg (by decide) (fun k hk => e k (by omega)) (fun k a b => c1 k (by omega)) (c2 23 (by decide) (by decide) (by decide)) Q7⟩
  · rw [e 4 (by omega)] at hs
    rw [c2 19 (by decide) (by decide) (by decide), c2 20 (by decide) (by decide) (by decide), e _ (by omega), e _ (by omega)]; exact Q1.2.2 s hs
  · rw [c1 15 (by decide), e 1 (by omega), e 2 (by omega), Q3.2.2.2.2]
    exact (cnt_cg _ (fun k hk => by rw [e (14 + k) (by omega)])).symm
  · rw [e 4 (by omega)] at hs
    rw [c2 22 (by decide) (by decide) (by decide), e _ (by omega)]; exact Q5 s hs
/-- a cork -/
theorem j_cork (S : SG hc hm) (k : hm.1 212 9 = 11) : JS hm (DX4_corkLine hc) (DX10_readLine hm) := by
  obtain ⟨h1, h2, e1, e2, S1, n1, n2, f1⟩ := S.adv (by omega)
  have w := S.2.2.1
  unfold DX4_corkLine DX10_readLine DX10_eats
  rw [ok_is w, if_neg (show ¬ hm.1 212 9 = 2 by omega), qbd_some, if_neg (show ¬ ¬ (0 : Int) = 0 by decide), qbd_some, if_pos rfl, ok_is w, if_neg (show ¬ hm.1 212 9 = 3 by omega), qbd_some, if_pos rfl, ok_is w, if_neg (show ¬ hm.1 212 9 = 6 by omega), qbd_some, if_pos rfl, ok_is w, if_neg (show ¬ hm.1 212 9 = 7 by omega), qbd_some, if_neg (show ¬ ¬ (0 : Int) = 0 by decide), ok_is w, if_neg (show ¬ hm.1 212 9 = 8 by omega), qbd_some, if_pos rfl, ok_is w, if_neg (show ¬ hm.1 212 9 = 9 by omega), qbd_some, if_pos rfl, ok_is w, if_pos k, qbd_some, if_pos (show ¬ (1 : Int) = 0 by decide), e1, e2, qbd_some, qbd_some, qbd_some, if_neg (show ¬ (1 : Int) = 0 by decide)]
  obtain ⟨x, h3, x', h4, e3, e4, e5⟩ := tk_take (lo := 1) (hi := 99) S1.1 S1.2.1 S1.2.2.1
  rw [e3, e4, qbd_some, qbd_some]
  rcases e5 with ⟨rfl, x1, x2, x3, x4, x5, T3, t3, g3, a3, f3, f4⟩ | ⟨rfl, b, _, f3, f4⟩
  · have S3 := S1.tok T3 t3 f3 f4 (fun i k g => by omega) (fun i k g => by omega) (by omega)
    have bf : h3.2.2.2.2 = true := by rw [T3.1]
    have G := S3.2.2.2.2.2.1.1
    have Q := S3.2.2.2.2.2.2
    rw [if_pos (show ¬ x' = -1 by omega), if_pos bf, if_neg (show ¬ ¬ h4.1 212 11 = 0 from fun z => z g3)]
    simp only [qlt]
    have f : fr (fun i _ => 16 ≤ i ∧ i ≤ 22) h3 (qu h3 16 19 x') := fr_q fr.rf (by omega)
    have g : fr (fun i k => i = 216 ∧ k < 284) h4 (qu h4 216 7 x') := fr_q fr.rf (by omega)
    have y0 : (qu h4 216 7 x').1 216 7 = x' := by rw [qu_s, up_s]
    have y1 : ∀ k, ¬ k = 7 → (qu h4 216 7 x').1 216 k = h4.1 216 k := fun k hk => by rw [qu_s, up_n _ _ hk]
    have c0 : (qu h3 16 19 x').1 16 19 = x' := by rw [qu_s, up_s]
    have c1 : ∀ k, ¬ k = 19 → (qu h3 16 19 x').1 16 k = h3.1 16 k := fun k hk => by rw [qu_s, up_n _ _ hk]
    have c2 : ∀ i, ¬ i = 16 → (qu h3 16 19 x').1 i = h3.1 i := fun i a => by rw [qu_ne a]
    generalize qu h4 216 7 x' = hY at *
    generalize qu h3 16 19 x' = hX at *
    have p6 : hY.1 212 6 = h4.1 212 6 := g.at _ _ (by omega)
    refine JS.good rfl rfl (S3.wr f g ?_ (by rw [y1 0 (by omega)]; exact S3.2.2.2.2.2.1.2.1) (fun k a b => y1 k (by omega)) ?_) (by omega)
    · exact cG.low G (fun k hk => y1 k (by omega)) (by rw [y1 5 (by omega)]; exact G.2.2.2.1) (by rw [y1 6 (by omega)]; exact G.2.2.2.2.1) (by rw [y0]; omega) (fun j hj => by rw [y1 _ (by omega)]; exact G.2.2.2.2.2.2.2.1 j hj)
    · exact cQ.low G Q (fun k hk => y1 k (by omega)) (fun k hk => c1 k (by omega)) (fun i a b c => c2 i (by omega)) (by rw [c1 16 (by omega), y1 0 (by omega)]; exact Q.2.2.1.1) (by rw [c1 17 (by omega), y1 5 (by omega)]; exact Q.2.2.1.2.1) (by rw [c1 18 (by omega), y1 6 (by omega)]; exact Q.2.2.1.2.2.1) (by rw [c0, y0]) (fun j hj => by rw [c2 18 (by omega), y1 _ (by omega)]; exact Q.2.2.2.1 j hj)
  · rw [if_neg (show ¬ ¬ (-1 : Int) = -1 by decide), if_pos b.w]
    exact JS.bad rfl rfl (S1.sb b f3 (fun i k z => by omega))
/-- a moon -/
theorem j_moon (S : SG hc hm) (k : hm.1 212 9 = 9) : JS hm (DX4_moonLine hc) (DX10_readLine hm) := by
  obtain ⟨h1, h2, e1, e2, S1, n1, n2, f1⟩ := S.adv (by omega)
  have w := S.2.2.1
  unfold DX4_moonLine DX10_readLine DX10_readMoon
  have e9 : ∀ a : Int, ¬ hm.1 212 9 = a → DX10_eats a hm = some (0, hm) := fun a ha => by unfold DX10_eats; rw [ok_is w, if_neg ha, qbd_some, if_neg (show ¬ ¬ (0 : Int) = 0 by decide)]
  rw [e9 2 (by omega), qbd_some, if_pos rfl, ok_is w, if_neg (show ¬ hm.1 212 9 = 3 by omega), qbd_some, if_pos rfl, ok_is w, if_neg (show ¬ hm.1 212 9 = 6 by omega), qbd_some, if_pos rfl, ok_is w, if_neg (show ¬ hm.1 212 9 = 7 by omega), qbd_some, if_neg (show ¬ ¬ (0 : Int) = 0 by decide), ok_is w, if_neg (show ¬ hm.1 212 9 = 8 by omega), qbd_some, if_pos rfl, ok_is w, if_pos k, qbd_some, if_neg (show ¬ (1 : Int) = 0 by decide), e1, e2, qbd_some, qbd_some]
  obtain ⟨x, h3, x', h4, e3, e4, e5⟩ := tk_take (lo := 2) (hi := 30) S1.1 S1.2.1 S1.2.2.1
  rw [e3, e4, qbd_some, qbd_some]
  unfold DX10_readMoon_b26
  rcases e5 with ⟨rfl, x1, x2, x3, x4, x5, T3, t3, g3, a3, f3, f4⟩ | ⟨rfl, b, _, f3, f4⟩
  · have S3 := S1.tok T3 t3 f3 f4 (fun i k g => by omega) (fun i k g => by omega) (by omega)
    rw [if_neg (show ¬ x' = -1 by omega)]
    obtain ⟨r, h5, h6, e6, e7⟩ := tk_tw (i := 10) (by decide) T3 t3 g3
    rw [show kwS 10 = 27 from rfl] at e6
    rw [show (((10 : Nat) : Int)) = 10 from rfl] at e7
    rw [e6, qbd_some]
    rcases e7 with ⟨rfl, e7, T5, t5, g5, a5, f5, f6⟩ | ⟨rfl, e7, e8, b, f5, f6⟩
    · have S5 := S3.tok T5 t5 f5 f6 (fun i k g => by omega) (fun i k g => by omega) (by omega)
      rw [e7, qbd_some, if_pos (show ¬ (1 : Int) = 0 by decide), if_pos (show ¬ (1 : Int) = 0 by decide)]
      obtain ⟨y, h7, y', h8, e8, e10, e11⟩ := tk_take (lo := 0) (hi := x') T5 t5 g5
      rw [e8, e10, qbd_some, qbd_some]
      rcases e11 with ⟨rfl, z1, z2, z3, z4, z5, T7, t7, g7, a7, f7, f8⟩ | ⟨rfl, b, _, f7, f8⟩
      · have S7 := S5.tok T7 t7 f7 f8 (fun i k g => by omega) (fun i k g => by omega) (by omega)
        have bf : h7.2.2.2.2 = true := by rw [T7.1]
        have G := S7.2.2.2.2.2.1.1
        have Q := S7.2.2.2.2.2.2
        rw [if_pos (show ¬ y' = -1 by omega), if_pos bf, if_pos g7]
        simp only [qlt]
        have bf2 : (qu h7 16 17 x').2.2.2.2 = true := bf
        rw [if_pos bf2, qbd_some]
        have f : fr (fun i _ => 16 ≤ i ∧ i ≤ 22) h7 (qu (qu h7 16 17 x') 16 18 y') := fr_q (fr_q fr.rf (by omega)) (by omega)
        have g : fr (fun i k => i = 216 ∧ k < 284) h8 (qu (qu h8 216 5 x') 216 6 y') := fr_q (fr_q fr.rf (by omega)) (by omega)
        have y5 : (qu (qu h8 216 5 x') 216 6 y').1 216 5 = x' := by rw [qu_s, up_n _ _ (by decide), qu_s, up_s]
        have y6 : (qu (qu h8 216 5 x') 216 6 y').1 216 6 = y' := by rw [qu_s, up_s]
        have y1 : ∀ k, ¬ k = 5 → ¬ k = 6 → (qu (qu h8 216 5 x') 216 6 y').1 216 k = h8.1 216 k := fun k hk hk2 => by rw [qu_s, up_n _ _ hk2, qu_s, up_n _ _ hk]
        have c17 : (qu (qu h7 16 17 x') 16 18 y').1 16 17 = x' := by rw [qu_s, up_n _ _ (by decide), qu_s, up_s]
        have c18 : (qu (qu h7 16 17 x') 16 18 y').1 16 18 = y' := by rw [qu_s, up_s]
        have c1 : ∀ k, ¬ k = 17 → ¬ k = 18 → (qu (qu h7 16 17 x') 16 18 y').1 16 k = h7.1 16 k := fun k hk hk2 => by rw [qu_s, up_n _ _ hk2, qu_s, up_n _ _ hk]
        have c2 : ∀ i, ¬ i = 16 → (qu (qu h7 16 17 x') 16 18 y').1 i = h7.1 i := fun i a => by rw [qu_ne a, qu_ne a]
        generalize qu (qu h8 216 5 x') 216 6 y' = hY at *
        generalize qu (qu h7 16 17 x') 16 18 y' = hX at *
        have p6 : hY.1 212 6 = h8.1 212 6 := g.at _ _ (by omega)
        refine JS.good rfl rfl (S7.wr f g ?_ (by rw [y1 0 (by omega) (by omega)]; exact S7.2.2.2.2.2.1.2.1) (fun k a b => y1 k (by omega) (by omega)) ?_) (by omega)
        · exact cG.low G (fun k hk => y1 k (by omega) (by omega)) (by rw [y5]; omega) (by rw [y6]; omega) (by rw [y1 7 (by omega) (by omega)]; exact G.2.2.2.2.2.1) (fun j hj => by rw [y1 _ (by omega) (by omega)]; exact G.2.2.2.2.2.2.2.1 j hj)
        · exact cQ.low G Q (fun k hk => y1 k (by omega) (by omega)) (fun k hk => c1 k (by omega) (by omega)) (fun i a b c => c2 i (by omega)) (by rw [c1 16 (by omega) (by omega), y1 0 (by omega) (by omega)]; exact Q.2.2.1.1) (by rw [c17, y5]) (by rw [c18, y6]) (by rw [c1 19 (by omega) (by omega), y1 7 (by omega) (by omega)]; exact Q.2.2.1.2.2.2.1) (fun j hj => by rw [c2 18 (by omega), y1 _ (by omega) (by omega)]; exact Q.2.2.2.1 j hj)
      · rw [if_neg (show ¬ ¬ (-1 : Int) = -1 by decide), if_neg b.w]
        exact JS.bad rfl rfl (S5.sb b f7 (fun i k z => by omega))
    · rw [e7, qbd_some, if_neg (show ¬ ¬ (0 : Int) = 0 by decide), if_neg (show ¬ ¬ (0 : Int) = 0 by decide), e8, qbd_some, in_takes b.w, qbd_some, if_neg b.w]
      exact JS.bad rfl rfl (S3.sb b f5 (fun i k z => by omega))
  · rw [if_pos rfl, in_eats b.w, qbd_some, if_neg (show ¬ ¬ (0 : Int) = 0 by decide), in_fails b.w, qbd_some, in_takes b.w, qbd_some, if_neg b.w]
    exact JS.bad rfl rfl (S1.sb b f3 (fun i k z => by omega))
/-- a cell's currents -/
theorem cur_in (g : ¬ hm.1 212 11 = 0) {c : Int} {N : Nat} (hN : hm.1 216 3 = (N : Int)) (hN6 : N ≤ 6) : ∀ (m j F : Nat), j + m = N → m < F → DX10_readCurrent_l12 F c (j : Int) hm = some (0, hm) := by
  intro m
  induction m with
  | zero =>
    intro j F hj hF
    obtain ⟨F, rfl⟩ : ∃ n, F = n + 1 := ⟨F - 1, by omega⟩
    rw [DX10_readCurrent_l12.eq_2, if_pos (by omega)]
  | succ m ih =>
    intro j F hj hF
    obtain ⟨F, rfl⟩ : ∃ n, F = n + 1 := ⟨F - 1, by omega⟩
    rw [DX10_readCurrent_l12.eq_2, if_neg (by omega), in_takes g, qbd_some, if_pos g, qw_s (by omega)]
    exact ih (j + 1) F (by omega) (by omega)
theorem cur_l {h0 : qH} {c N : Nat} (hN6 : N ≤ 6) (hc36 : c < 36) : ∀ (m j Fc Fm : Nat) (hc hm : qH), j + m = N → m < Fc → m < Fm → SG hc hm → hm.1 216 3 = (N : Int) → h0.1 212 6 < hm.1 212 6 → JS h0 (DX4_currentLine_l25 Fc (c : Int) (j : Int) hc) (DX10_readCurrent_l12 Fm (c : Int) (j : Int) hm) := by
  intro m
  induction m with
  | zero =>
    intro j Fc Fm hc hm hj hFc hFm S h3 ha
    obtain ⟨Fc, rfl⟩ : ∃ n, Fc = n + 1 := ⟨Fc - 1, by omega⟩
    obtain ⟨Fm, rfl⟩ : ∃ n, Fm = n + 1 := ⟨Fm - 1, by omega⟩
    have bf : hc.2.2.2.2 = true := by rw [S.1.1]
    have p13 : hc.1 16 13 = hm.1 216 3 := S.2.2.2.2.2.2.2.1
    rw [DX4_currentLine_l25.eq_2, DX10_readCurrent_l12.eq_2, if_pos bf, p13, h3, if_pos (show (N : Int) ≤ (j : Int) by omega), if_pos (show (N : Int) ≤ (j : Int) by omega)]
    exact JS.good rfl rfl S ha
  | succ m ih =>
    intro j Fc Fm hc hm hj hFc hFm S h3 ha
    obtain ⟨Fc, rfl⟩ : ∃ n, Fc = n + 1 := ⟨Fc - 1, by omega⟩
    obtain ⟨Fm, rfl⟩ : ∃ n, Fm = n + 1 := ⟨Fm - 1, by omega⟩
    have bf : hc.2.2.2.2 = true := by rw [S.1.1]
    have p13 : hc.1 16 13 = hm.1 216 3 := S.2.2.2.2.2.2.2.1
    rw [DX4_currentLine_l25.eq_2, DX10_readCurrent_l12.eq_2, if_pos bf, p13, h3, if_neg (show ¬ (N : Int) ≤ (j : Int) by omega), if_neg (show ¬ (N : Int) ≤ (j : Int) by omega), if_neg (show ¬ 6 ≤ (j : Int) by omega)]
    obtain ⟨x, h5, x', h6, e3, e4, e5⟩ := tk_take (lo := 0) (hi := 4) S.1 S.2.1 S.2.2.1
    rw [e3, e4, qbd_some, qbd_some]
    rcases e5 with ⟨rfl, x1, x2, x3, x4, x5, T3, t3, g3, a3, f3, f4⟩ | ⟨rfl, b, _, f3, f4⟩
    · have S3 := S.tok T3 t3 f3 f4 (fun i k g => by omega) (fun i k g => by omega) (by omega)
      have bf3 : h5.2.2.2.2 = true := by rw [T3.1]
      have G := S3.2.2.2.2.2.1.1
      have Q := S3.2.2.2.2.2.2
      rw [if_pos (show ¬ x' = -1 by omega), if_pos bf3, if_neg (show ¬ ¬ h6.1 212 11 = 0 from fun z => z g3), qw_e (x := (c : Int) * 6) (by omega) (by omega), qw_e (x := (c : Int) * 6 + (j : Int)) (by omega) (by omega), if_pos (show 0 ≤ (c : Int) * 6 + (j : Int) ∧ (c : Int) * 6 + (j : Int) < 216 by omega), qw_e (x := 6 * (c : Int)) (by omega) (by omega), qw_e (x := 50 + 6 * (c : Int)) (by omega) (by omega), qw_e (x := 50 + 6 * (c : Int) + (j : Int)) (by omega) (by omega), if_pos (show 0 ≤ 50 + 6 * (c : Int) + (j : Int) ∧ 50 + 6 * (c : Int) + (j : Int) < 1912 by omega), show ((c : Int) * 6 + (j : Int)).toNat = 6 * c + j by omega, show (50 + 6 * (c : Int) + (j : Int)).toNat = 50 + (6 * c + j) by omega, qw_s (n := j) (by omega)]
      simp only [qlt]
      have f : fr (fun i _ => 16 ≤ i ∧ i ≤ 22) h5 (qu h5 18 (6 * c + j) x') := fr_q fr.rf (by omega)
      have g : fr (fun i k => i = 216 ∧ k < 284) h6 (qu h6 216 (50 + (6 * c + j)) x') := fr_q fr.rf (by omega)
      have y0 : (qu h6 216 (50 + (6 * c + j)) x').1 216 (50 + (6 * c + j)) = x' := by rw [qu_s, up_s]
      have y1 : ∀ k, ¬ k = 50 + (6 * c + j) → (qu h6 216 (50 + (6 * c + j)) x').1 216 k = h6.1 216 k := fun k hk => by rw [qu_s, up_n _ _ hk]
      have c0 : (qu h5 18 (6 * c + j) x').1 18 (6 * c + j) = x' := by rw [qu_s, up_s]
      have c1 : ∀ k, ¬ k = 6 * c + j → (qu h5 18 (6 * c + j) x').1 18 k = h5.1 18 k := fun k hk => by rw [qu_s, up_n _ _ hk]
      have c2 : ∀ i, ¬ i = 18 → (qu h5 18 (6 * c + j) x').1 i = h5.1 i := fun i a => by rw [qu_ne a]
      generalize qu h6 216 (50 + (6 * c + j)) x' = hY at *
      generalize qu h5 18 (6 * c + j) x' = hX at *
      have p6 : hY.1 212 6 = h6.1 212 6 := g.at _ _ (by omega)
      have m3 : hY.1 216 3 = (N : Int) := by rw [y1 3 (by omega), f4.at 216 3 (by omega)]; exact h3
      refine ih (j + 1) Fc Fm hX hY (by omega) (by omega) (by omega) (S3.wr f g ?_ (by rw [y1 0 (by omega)]; exact S3.2.2.2.2.2.1.2.1) (fun k a b => y1 k (by omega)) ?_) m3 (by omega)
      · refine cG.low G (fun k hk => y1 k (by omega)) (by rw [y1 5 (by omega)]; exact G.2.2.2.1) (by rw [y1 6 (by omega)]; exact G.2.2.2.2.1) (by rw [y1 7 (by omega)]; exact G.2.2.2.2.2.1) (fun i hi => ?_)
        by_cases e : i = 6 * c + j
        · rw [e, y0]; omega
        · rw [y1 _ (by omega)]; exact G.2.2.2.2.2.2.2.1 i hi
      · refine cQ.low G Q (fun k hk => y1 k (by omega)) (fun k hk => by rw [c2 16 (by omega)]) (fun i a b c => c2 i (by omega)) (by rw [c2 16 (by omega), y1 0 (by omega)]; exact Q.2.2.1.1) (by rw [c2 16 (by omega), y1 5 (by omega)]; exact Q.2.2.1.2.1) (by rw [c2 16 (by omega), y1 6 (by omega)]; exact Q.2.2.1.2.2.1) (by rw [c2 16 (by omega), y1 7 (by omega)]; exact Q.2.2.1.2.2.2.1) (fun i hi => ?_)
        by_cases e : i = 6 * c + j
        · rw [e, c0, y0]
        · rw [c1 i e, y1 _ (by omega)]; exact Q.2.2.2.1 i hi
    · have m3 : h6.1 216 3 = (N : Int) := by rw [f4.at 216 3 (by omega)]; exact h3
      rw [if_neg (show ¬ ¬ (-1 : Int) = -1 by decide), if_pos b.w, qw_s (n := j) (by omega), cur_in b.w m3 hN6 m (j + 1) Fm (by omega) (by omega)]
      exact JS.bad rfl rfl (S.sb b f3 (fun i k z => by omega))
theorem j_cur (S : SG hc hm) (k : hm.1 212 9 = 6) : JS hm (DX4_currentLine hc) (DX10_readLine hm) := by
  obtain ⟨h1, h2, e1, e2, S1, n1, n2, f1⟩ := S.adv (by omega)
  have w := S.2.2.1
  unfold DX4_currentLine DX10_readLine DX10_readCurrent
  have e9 : ∀ a : Int, ¬ hm.1 212 9 = a → DX10_eats a hm = some (0, hm) := fun a ha => by unfold DX10_eats; rw [ok_is w, if_neg ha, qbd_some, if_neg (show ¬ ¬ (0 : Int) = 0 by decide)]
  rw [e9 2 (by omega), qbd_some, if_pos rfl, ok_is w, if_neg (show ¬ hm.1 212 9 = 3 by omega), qbd_some, if_pos rfl, ok_is w, if_pos k, qbd_some, if_neg (show ¬ (1 : Int) = 0 by decide), e1, e2, qbd_some, qbd_some]
  obtain ⟨c, h3, c', h4, e3, e4, e5⟩ := tk_cell S1 (op := 0) (Or.inl rfl)
  rw [e3, e4, qbd_some, qbd_some]
  have mono : ∀ {x y : Option (Int × qH)}, JS hm x y → JS hm x (qbd y fun r35 h36 => some (0, h36)) := by
    intro x y J
    obtain ⟨r, a, r', b, z1, z2, z3⟩ := J
    rw [z2, qbd_some]
    exact ⟨r, a, 0, b, z1, rfl, z3⟩
  rcases e5 with ⟨rfl, x1, x2, x3, S3, n3, n4⟩ | ⟨rfl, b, f3⟩
  · rw [← n4] at x2
    have bf : h3.2.2.2.2 = true := by rw [S3.1.1]
    have G := S3.2.2.2.2.2.1.1
    have cc := G.cells
    have h3r := G.2.1
    obtain ⟨c, rfl⟩ := Int.eq_ofNat_of_zero_le x1
    obtain ⟨N, hN⟩ := Int.eq_ofNat_of_zero_le (show 0 ≤ h4.1 216 3 by omega)
    rw [if_pos bf, q_isCell G S3.2.2.2.2.2.2.1, qbd_some, if_pos (show 0 ≤ (c : Int) ∧ (c : Int) < h4.1 216 1 * h4.1 216 2 from ⟨x1, x2⟩), if_pos (show ¬ (1 : Int) = 0 by decide)]
    have K := cur_l (h0 := hm) (c := c) (N := N) (by omega) (by omega) N 0 LF LF h3 h4 (by omega) (by unfold LF; omega) (by unfold LF; omega) S3 hN (by omega)
    rw [z0] at K
    exact mono K
  · have S1b := S1.sb b f3 (fun i k z => by omega)
    have bf : h3.2.2.2.2 = true := by rw [b.1]
    obtain ⟨A, G, M⟩ := S1b.2
    have h3r := S1.2.2.2.2.2.1.1.2.1
    have m63 : h4.1 216 = h2.1 216 := (F_DX10_takesCell _ _ _ _ e4).fn (fun k => by omega)
    obtain ⟨N, hN⟩ := Int.eq_ofNat_of_zero_le (show 0 ≤ h4.1 216 3 by rw [m63]; omega)
    have hN6 : N ≤ 6 := by rw [m63] at hN; omega
    have K := cur_in (c := c') b.w hN hN6 N 0 LF (by omega) (by unfold LF; omega)
    rw [z0] at K
    rw [if_pos bf, q_isCell G M, qbd_some, if_neg (show ¬ (0 ≤ (-1 : Int) ∧ (-1 : Int) < A 1 * A 2) from fun z => absurd z.1 (by decide)), if_neg (show ¬ ¬ (0 : Int) = 0 by decide), K, qbd_some]
    exact JS.bad rfl rfl S1b
end lm
