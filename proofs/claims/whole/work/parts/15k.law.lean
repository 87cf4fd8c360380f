/-! ===== a law's line; any line; all lines ===== -/
section lw
variable {hc hm : qH}
theorem SG.lg {l : Nat} (S : SG hc hm) : LG (l : Int) hc (qu hm 212 15 (l : Int)) := by
  obtain ⟨s1, s2, s3, s4, s5, s6, s7⟩ := S
  have g : fr (fun i k => i = 212 ∧ k = 15) hm (qu hm 212 15 (l : Int)) := fr_q fr.rf ⟨rfl, rfl⟩
  have m6 : (qu hm 212 15 (l : Int)).1 216 = hm.1 216 := g.fn (fun k => by omega)
  refine ⟨s1.kp (fr.rf (P := fun _ _ => False)) g (fun i k z => fun y => y) (fun i k z => by omega), s2.kp (fr.rf (P := fun _ _ => False)) g (fun k a b => fun y => y) (fun i k z => by omega), by rw [g.at 212 11 (by omega)]; exact s3, ⟨by rw [qu_s, up_s], s4⟩, by rw [m6]; exact s5.1, by rw [m6, g.at 212 6 (by omega)]; exact s5.2.1, by rw [m6]; exact s5.2.2⟩
/-- a law written down by both -/
theorem law_wr {l : Nat} (hl : l < 2) {D : Nat} {hc' hm' : qH} (S : SG hc hm) (W : LW (if decide (l = 1) = true then 1007 else 1004) (decide (l = 1)) D (l : Int) (qu hm 212 15 (l : Int)) hc' hm') (fc : fr (fun i k => i = 2 ∨ i = 23) hc hc') :
    ∃ hY, DX10_readLaw_b49 (l : Int) (hm.1 216 1011) hm' = some (0, hY) ∧ SG (qu (qu hc' 16 (7 + 2 * l) (hm.1 216 1011)) 16 (8 + 2 * l) (hm'.1 216 1011)) hY ∧ hY.1 212 6 = hm'.1 212 6 := by
  have g0 : fr (fun i k => i = 212 ∧ k = 15) hm (qu hm 212 15 (l : Int)) := fr_q fr.rf ⟨rfl, rfl⟩
  have m60 : (qu hm 212 15 (l : Int)).1 216 = hm.1 216 := g0.fn (fun k => by omega)
  have p60 : (qu hm 212 15 (l : Int)).1 212 6 = hm.1 212 6 := g0.at _ _ (by omega)
  obtain ⟨w0, L, w1, w2, w3, w4, w5, w6⟩ := W
  rw [m60] at w0 w2 w3 w4 w5 w6
  rw [p60] at w0 w1 w3
  obtain ⟨s1, s2, s3, s4, s5, s6, s7⟩ := S
  obtain ⟨L1, L2, L3, L4, L5, L6, L7⟩ := L
  have tp := tk_pos L2
  have t9 := L1.2.2.2
  obtain ⟨N, hN⟩ := Int.eq_ofNat_of_zero_le w0.1
  obtain ⟨N', hN'⟩ := Int.eq_ofNat_of_zero_le L6.1
  unfold DX10_readLaw_b49
  simp only [qlt]
  rw [if_pos L3, qw_e (x := 8 + (l : Int)) (by omega) (by omega), if_pos (show 0 ≤ 8 + (l : Int) ∧ 8 + (l : Int) < 1912 by omega), qw_e (x := 10 + (l : Int)) (by omega) (by omega), if_pos (show 0 ≤ 10 + (l : Int) ∧ 10 + (l : Int) < 1912 by omega), qw_e (x := 12 + (l : Int)) (by omega) (by omega), if_pos (show 0 ≤ 12 + (l : Int) ∧ 12 + (l : Int) < 1912 by omega), show (8 + (l : Int)).toNat = 8 + l by omega, show (10 + (l : Int)).toNat = 10 + l by omega, show (12 + (l : Int)).toNat = 12 + l by omega]
  have v11 : (qu (qu hm' 216 (8 + l) 1) 216 (10 + l) (hm.1 216 1011)).1 216 1011 = hm'.1 216 1011 := by rw [qu_s, up_n _ _ (by omega), qu_s, up_n _ _ (by omega)]
  rw [v11, hN, hN', qw_e (x := (N' : Int) - (N : Int)) (by omega) (by omega)]
  rw [hN] at w0 w2 w3 w5 w6
  rw [hN'] at w2 w3 w6 L5 L6 L7
  have g : fr (fun i k => i = 216 ∧ k < 284) hm' (qu (qu (qu hm' 216 (8 + l) 1) 216 (10 + l) (N : Int)) 216 (12 + l) ((N' : Int) - (N : Int))) := fr_q (fr_q (fr_q fr.rf (by omega)) (by omega)) (by omega)
  have f : fr (fun i _ => 16 ≤ i ∧ i ≤ 22) hc' (qu (qu hc' 16 (7 + 2 * l) (N : Int)) 16 (8 + 2 * l) (N' : Int)) := fr_q (fr_q fr.rf (by omega)) (by omega)
  have y8 : (qu (qu (qu hm' 216 (8 + l) 1) 216 (10 + l) (N : Int)) 216 (12 + l) ((N' : Int) - (N : Int))).1 216 (8 + l) = 1 := by rw [qu_s, up_n _ _ (by omega), qu_s, up_n _ _ (by omega), qu_s, up_s]
  have y10 : (qu (qu (qu hm' 216 (8 + l) 1) 216 (10 + l) (N : Int)) 216 (12 + l) ((N' : Int) - (N : Int))).1 216 (10 + l) = (N : Int) := by rw [qu_s, up_n _ _ (by omega), qu_s, up_s]
  have y12 : (qu (qu (qu hm' 216 (8 + l) 1) 216 (10 + l) (N : Int)) 216 (12 + l) ((N' : Int) - (N : Int))).1 216 (12 + l) = (N' : Int) - (N : Int) := by rw [qu_s, up_s]
  have y1 : ∀ k, ¬ k = 8 + l → ¬ k = 10 + l → ¬ k = 12 + l → (qu (qu (qu hm' 216 (8 + l) 1) 216 (10 + l) (N : Int)) 216 (12 + l) ((N' : Int) - (N : Int))).1 216 k = hm'.1 216 k := fun k a b c => by rw [qu_s, up_n _ _ c, qu_s, up_n _ _ b, qu_s, up_n _ _ a]
  have c7 : (qu (qu hc' 16 (7 + 2 * l) (N : Int)) 16 (8 + 2 * l) (N' : Int)).1 16 (7 + 2 * l) = (N : Int) := by rw [qu_s, up_n _ _ (by omega), qu_s, up_s]
  have c8 : (qu (qu hc' 16 (7 + 2 * l) (N : Int)) 16 (8 + 2 * l) (N' : Int)).1 16 (8 + 2 * l) = (N' : Int) := by rw [qu_s, up_s]
  have c1 : ∀ k, ¬ k = 7 + 2 * l → ¬ k = 8 + 2 * l → (qu (qu hc' 16 (7 + 2 * l) (N : Int)) 16 (8 + 2 * l) (N' : Int)).1 16 k = hc'.1 16 k := fun k a b => by rw [qu_s, up_n _ _ b, qu_s, up_n _ _ a]
  have c2 : ∀ i, ¬ i = 16 → (qu (qu hc' 16 (7 + 2 * l) (N : Int)) 16 (8 + 2 * l) (N' : Int)).1 i = hc'.1 i := fun i a => by rw [qu_ne a, qu_ne a]
  generalize qu (qu (qu hm' 216 (8 + l) 1) 216 (10 + l) (N : Int)) 216 (12 + l) ((N' : Int) - (N : Int)) = hY at *
  generalize qu (qu hc' 16 (7 + 2 * l) (N : Int)) 16 (8 + 2 * l) (N' : Int) = hX at *
  have p6 : hY.1 212 6 = hm'.1 212 6 := g.at _ _ (by omega)
  -- the sea before, the sea behind
  have ya : ∀ k, k < 1011 → ¬ k = 8 + l → ¬ k = 10 + l → ¬ k = 12 + l → hY.1 216 k = hm.1 216 k := fun k h a b c => by rw [y1 k a b c]; exact w4 k h
  have yc : ∀ k, k < N → hY.1 216 (1012 + k) = hm.1 216 (1012 + k) := fun k h => by rw [y1 _ (by omega) (by omega) (by omega)]; exact w5 k (by omega)
  have yN : hY.1 216 1011 = (N' : Int) := by rw [y1 1011 (by omega) (by omega) (by omega)]; exact hN'
  have ca : ∀ k, ¬ k = 7 + 2 * l → ¬ k = 8 + 2 * l → hX.1 16 k = hc.1 16 k := fun k a b => by rw [c1 k a b, fc.at 16 k (by omega)]
  have cb : ∀ i, 17 ≤ i → i ≤ 22 → hX.1 i = hc.1 i := fun i a b => by rw [c2 i (by omega)]; exact fc.fn (fun k => by omega)
  have cd : ∀ k : Nat, k < N' → hX.1 23 k = cv_cm (hY.1 216 (1012 + k)) := fun k h => by rw [c2 23 (by decide), y1 _ (by omega) (by omega) (by omega)]; exact L7 k (by omega)
  have G := s6.1
  have oA : ∀ law, law < 2 → cv_okl (hm.1 216) law (decide (law = 1)) := fun law h => by
    have : law = 0 ∨ law = 1 := by omega
    rcases this with rfl | rfl
    · exact G.2.2.2.2.2.2.2.2.2.1
    · exact G.2.2.2.2.2.2.2.2.2.2
  have rA : ∀ law, law < 2 → cv_lr hc 16 (hm.1 216) law := fun law h => by
    have : law = 0 ∨ law = 1 := by omega
    rcases this with rfl | rfl
    · exact s7.2.2.2.2.2.1
    · exact s7.2.2.2.2.2.2
  have oB : ∀ law, law < 2 → cv_okl (hY.1 216) law (decide (law = 1)) := fun law h => by
    by_cases e : law = l
    · subst e
      refine Or.inr ⟨y8, by rw [y10]; omega, by rw [y12]; omega, by rw [y10, y12]; omega, ?_⟩
      have ec : cv_code (hY.1 216) law = sl (hm'.1 216) N (N' - N) := by
        unfold cv_code
        rw [y10, y12, Int.toNat_natCast, show ((N' : Int) - (N : Int)).toNat = N' - N by omega, sl_map]
        exact sl_cg _ _ (fun k a b => y1 _ (by omega) (by omega) (by omega))
      rw [Int.toNat_natCast, show ((N' : Int) - (N : Int)).toNat = N' - N by omega] at w6
      have := w6 [] [] (by simp)
      rw [List.append_nil] at this
      rw [ec, this]
      rfl
    · rcases oA law h with z | ⟨z1, z2, z3, z4, z5⟩
      · exact Or.inl (by rw [ya (8 + law) (by omega) (by omega) (by omega) (by omega)]; exact z)
      · have lc := s6.2.2.1 law h z1
        rw [hN] at lc
        have ec : cv_code (hY.1 216) law = cv_code (hm.1 216) law := by
          unfold cv_code
          rw [ya (12 + law) (by omega) (by omega) (by omega) (by omega), ya (10 + law) (by omega) (by omega) (by omega) (by omega)]
          refine List.map_congr_left (fun i hi => ?_)
          have hi' := List.mem_range.mp hi
          rw [show 1012 + (hm.1 216 (10 + law)).toNat + i = 1012 + ((hm.1 216 (10 + law)).toNat + i) by omega]
          exact yc _ (by omega)
        refine Or.inr ⟨by rw [ya (8 + law) (by omega) (by omega) (by omega) (by omega)]; exact z1, by rw [ya (10 + law) (by omega) (by omega) (by omega) (by omega)]; exact z2, by rw [ya (12 + law) (by omega) (by omega) (by omega) (by omega)]; exact z3, by rw [ya (10 + law) (by omega) (by omega) (by omega) (by omega), ya (12 + law) (by omega) (by omega) (by omega) (by omega)]; exact z4, by rw [ec]; exact z5⟩
  have rB : ∀ law, law < 2 → cv_lr hX 16 (hY.1 216) law := fun law h => by
    by_cases e : law = l
    · subst e
      refine Or.inr ⟨y8, by rw [c7, y10], by rw [c8, y10, y12]; omega, fun i hi => ?_⟩
      rw [y12] at hi
      rw [y10, Int.toNat_natCast, show 1012 + N + i = 1012 + (N + i) by omega]
      exact cd (N + i) (by omega)
    · rcases rA law h with ⟨z1, z2⟩ | ⟨z1, z2, z3, z4⟩
      · exact Or.inl ⟨by rw [ya (8 + law) (by omega) (by omega) (by omega) (by omega)]; exact z1, by rw [ca _ (by omega) (by omega), ca _ (by omega) (by omega)]; exact z2⟩
      · have lc := s6.2.2.1 law h z1
        rw [hN] at lc
        have zo : 0 ≤ hm.1 216 (10 + law) := by
          rcases oA law h with z | z
          · omega
          · exact z.2.1
        refine Or.inr ⟨by rw [ya (8 + law) (by omega) (by omega) (by omega) (by omega)]; exact z1, by rw [ca _ (by omega) (by omega), ya (10 + law) (by omega) (by omega) (by omega) (by omega)]; exact z2, by rw [ca _ (by omega) (by omega), ya (10 + law) (by omega) (by omega) (by omega) (by omega), ya (12 + law) (by omega) (by omega) (by omega) (by omega)]; exact z3, fun i hi => ?_⟩
        rw [ya (12 + law) (by omega) (by omega) (by omega) (by omega)] at hi
        rw [ya (10 + law) (by omega) (by omega) (by omega) (by omega), show 1012 + (hm.1 216 (10 + law)).toNat + i = 1012 + ((hm.1 216 (10 + law)).toNat + i) by omega]
        exact cd _ (by omega)
  have yl : ∀ k, k < 1011 → ¬ (8 ≤ k ∧ k < 14) → hY.1 216 k = hm.1 216 k := fun k a b => ya k a (by omega) (by omega) (by omega)
  have xl : ∀ k, ¬ (7 ≤ k ∧ k ≤ 10) → hX.1 16 k = hc.1 16 k := fun k b => ca k (by omega) (by omega)
  obtain ⟨G1, G2, G3, G4, G5, G6, G7, G8, G9, G10, G11⟩ := G
  obtain ⟨Q1, Q2, Q3, Q4, Q5, Q6, Q7⟩ := s7
  have wh : hm.1 216 1 * hm.1 216 2 ≤ 36 := (cG.cells s6.1).2
  refine ⟨hY, rfl, ⟨L1.kp f g (fun i k z => by omega) (fun i k z => by omega), L2.kp f g (fun k a b => by omega) (fun i k z => by omega), by rw [g.at 212 11 (by omega)]; exact L3, by rw [f.at 2 1 (by omega), f.at 2 2 (by omega)]; exact L4.2, ⟨by rw [f.at 2 5 (by omega), yN]; exact L5, by rw [yN, p6]; exact L6, fun k hk => ?_⟩, ⟨?_, ?_, ?_, ?_⟩, ?_⟩, p6⟩
  · rw [yN] at hk
    exact cd k (by omega)
  · refine ⟨by rw [yl 1 (by omega) (by omega), yl 2 (by omega) (by omega)]; exact G1, by rw [yl 3 (by omega) (by omega)]; exact G2, by rw [yl 4 (by omega) (by omega)]; exact G3, by rw [yl 5 (by omega) (by omega)]; exact G4, by rw [yl 6 (by omega) (by omega)]; exact G5, by rw [yl 7 (by omega) (by omega)]; exact G6, fun k hk => ?_, fun j hj => ?_, fun s hs => ?_, oB 0 (by decide), oB 1 (by decide)⟩
    · rw [yl (14 + k) (by omega) (by omega), yl 4 (by omega) (by omega)]; exact G7 k hk
    · rw [yl (50 + j) (by omega) (by omega)]; exact G8 j hj
    · rw [yl 4 (by omega) (by omega)] at hs
      have g9 := G9 s hs
      rw [yl (266 + s) (by omega) (by omega), yl 1 (by omega) (by omega), yl 2 (by omega) (by omega), yl (272 + s) (by omega) (by omega), yl (278 + s) (by omega) (by omega), yl (14 + (hm.1 216 (266 + s)).toNat) (by omega) (by omega)]
      exact g9
  · rw [yl 0 (by omega) (by omega), p6]
    have := s6.2.1
    omega
  · intro law h z
    rw [yN]
    by_cases e : law = l
    · subst e
      rw [y10, y12]
      omega
    · rw [ya (8 + law) (by omega) (by omega) (by omega) (by omega)] at z
      have := s6.2.2.1 law h z
      rw [hN] at this
      rw [ya (10 + law) (by omega) (by omega) (by omega) (by omega), ya (12 + law) (by omega) (by omega) (by omega) (by omega)]
      omega
  · intro k a b
    rw [yl k b (by omega)]
    exact s6.2.2.2 k a b
  · refine ⟨⟨⟨by rw [xl 11 (by omega), yl 1 (by omega) (by omega)]; exact Q1.1.1, by rw [xl 12 (by omega), yl 2 (by omega) (by omega)]; exact Q1.1.2.1, by rw [xl 14 (by omega), yl 4 (by omega) (by omega)]; exact Q1.1.2.2⟩, fun k hk => by rw [cb 17 (by omega) (by omega), yl _ (by omega) (by omega)]; exact Q1.2.1 k hk, fun s hs => ?_⟩, by rw [xl 13 (by omega), yl 3 (by omega) (by omega)]; exact Q2, ⟨by rw [xl 16 (by omega), yl 0 (by omega) (by omega)]; exact Q3.1, by rw [xl 17 (by omega), yl 5 (by omega) (by omega)]; exact Q3.2.1, by rw [xl 18 (by omega), yl 6 (by omega) (by omega)]; exact Q3.2.2.1, by rw [xl 19 (by omega), yl 7 (by omega) (by omega)]; exact Q3.2.2.2.1, ?_⟩, fun j hj => by rw [cb 18 (by omega) (by omega), yl _ (by omega) (by omega)]; exact Q4 j hj, fun s hs => ?_, rB 0 (by decide), rB 1 (by decide)⟩
    · rw [yl 4 (by omega) (by omega)] at hs
      rw [cb 19 (by omega) (by omega), cb 20 (by omega) (by omega), yl _ (by omega) (by omega), yl _ (by omega) (by omega)]; exact Q1.2.2 s hs
    · rw [xl 15 (by omega), yl 1 (by omega) (by omega), yl 2 (by omega) (by omega), Q3.2.2.2.2]
      exact (cnt_cg _ (fun k hk => by rw [yl (14 + k) (by omega) (by omega)])).symm
    · rw [yl 4 (by omega) (by omega)] at hs
      rw [cb 22 (by omega) (by omega), yl _ (by omega) (by omega)]; exact Q5 s hs
end lw
