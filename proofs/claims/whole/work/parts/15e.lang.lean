/-! ===== the laws' language, read by both ===== -/
section la
variable {hc hm : qH} {kp : Int}
/-- a sign that must stand here -/
theorem tk_sign (T : TX hc hm) (t : TK hc hm) (g : hm.1 212 11 = 0) {x : Int} {j : Nat} (hj : j < 12) (hx : qch 0 j = x) : ∃ r hc' hm', DX4_takeSign x hc = some (r, hc') ∧ ((r = 1 ∧ DX10_eats (40 + (j : Int)) hm = some (1, hm') ∧ hm.1 212 9 = 40 + (j : Int) ∧ DX4_advance hc = some (0, hc') ∧ DX10_next hm = some (0, hm')) ∨ (r = 0 ∧ DX10_eats (40 + (j : Int)) hm = some (0, hm) ∧ DX10_fails 2 hm = some (0, hm') ∧ BD hc' hm')) := by
  have ts := tk_sg t hj hx
  unfold DX4_takeSign DX10_eats
  rw [ok_is g, qbd_some]
  by_cases e : hm.1 212 9 = 40 + (j : Int)
  · obtain ⟨h1, h2, e1, e2, _⟩ := tk_adv T t
    rw [if_pos (ts.mpr e), if_pos e, if_pos (show ¬ (1 : Int) = 0 by decide), e1, e2, qbd_some, qbd_some]
    exact ⟨1, h1, h2, rfl, Or.inl ⟨rfl, rfl, e, rfl, rfl⟩⟩
  · obtain ⟨h1, h2, e1, e2, b, _⟩ := tk_rf T t g (w := 2) (by decide)
    rw [if_neg (fun z => e (ts.mp z)), if_neg e, if_neg (show ¬ ¬ (0 : Int) = 0 by decide), e1, qbd_some, if_pos (Or.inl rfl)]
    exact ⟨0, h1, h2, rfl, Or.inr ⟨rfl, rfl, e2, b⟩⟩
theorem JL.bad {m : Int} {b : Bool} {D : Nat} {h0 : qH} {x y : Option (Int × qH)} {r' : Int} {hc' hm' : qH} (e1 : x = some (0, hc')) (e2 : y = some (r', hm')) (z : BD hc' hm') : JL m b D kp h0 x y := ⟨0, hc', r', hm', e1, e2, Or.inr ⟨rfl, z⟩⟩
theorem JL.good {m : Int} {b : Bool} {D : Nat} {h0 : qH} {x y : Option (Int × qH)} {r' : Int} {hc' hm' : qH} (e1 : x = some (1, hc')) (e2 : y = some (r', hm')) (z : LW m b D kp h0 hc' hm') : JL m b D kp h0 x y := ⟨1, hc', r', hm', e1, e2, Or.inl ⟨rfl, z⟩⟩

theorem term_stop {ft fb : Int → qH → Option (Int × qH)} {fu : Int → qH → Option (Int × qH)} {fs fm fa : Int → Int → qH → Option (Int × qH)} {ga gt gs gu gb gr : Int → qH → Option (Int × qH)} {m : Int} {D : Nat} {d : Int} {h0 : qH} {i Fc Fm : Nat} (g : LW m false D kp h0 hc hm) (k : ¬ hm.1 212 9 = 44) : JL m false D kp h0 (DX4_term_l10 ft fb fu fs fm fa (Fc + 1) d kp 1 (i : Int) hc) (DX10_readTerm_l5 ga gt gs gu gb gr (Fm + 1) d hm) := by
  have L := g.2.1
  rw [DX4_term_l10.eq_2, DX10_readTerm_l5.eq_2]
  unfold DX10_eats
  rw [ok_is L.2.2.1, if_neg k, qbd_some, if_neg (show ¬ ¬ (0 : Int) = 0 by decide), qbd_some, if_pos rfl]
  refine JL.good ?_ rfl g
  by_cases e : (900 : Int) ≤ (i : Int)
  · rw [if_pos e, if_pos (Or.inr rfl)]
  · rw [if_neg e, if_neg (show ¬ (1 : Int) = 0 by decide), if_pos (fun z => k (by have := (tk_sg L.2.1 (j := 4) (by decide) (by decide +kernel)).mp z; omega)), if_pos (Or.inr rfl)]

theorem term_bad {ft fb : Int → qH → Option (Int × qH)} {fu : Int → qH → Option (Int × qH)} {fs fm fa : Int → Int → qH → Option (Int × qH)} {ga gt gs gu gb gr : Int → qH → Option (Int × qH)} {m : Int} {D : Nat} {d : Int} {h0 : qH} {i : Int} {Fc Fm : Nat} (z : BD hc hm) : JL m false D kp h0 (DX4_term_l10 ft fb fu fs fm fa (Fc + 1) d kp 0 i hc) (DX10_readTerm_l5 ga gt gs gu gb gr (Fm + 1) d hm) := by
  refine JL.bad (hc' := hc) (hm' := hm) (r' := 0) ?_ ?_ z
  · rw [DX4_term_l10.eq_2]
    by_cases e : (900 : Int) ≤ i
    · rw [if_pos e, if_pos (Or.inl rfl)]
    · rw [if_neg e, if_pos rfl, if_pos (Or.inl rfl)]
  · rw [DX10_readTerm_l5.eq_2, in_eats z.w, qbd_some, if_pos rfl]

theorem term_l {ft fb : Int → qH → Option (Int × qH)} {fu : Int → qH → Option (Int × qH)} {fs fm fa : Int → Int → qH → Option (Int × qH)} {ga gt gs gu gb gr : Int → qH → Option (Int × qH)} {m : Int} (hm7 : m ≤ 1007) {D : Nat} {d : Int} {h0 : qH} (hA : ∀ hc hm, LG kp hc hm → JL m false (D + 1) kp hm (fa d kp hc) (ga d hm)) : ∀ (M i Fc Fm : Nat) (hc hm : qH), 900 ≤ (M : Int) + hm.1 212 6 → M < Fc → M < Fm → (i : Int) ≤ hm.1 212 6 → LW m false D kp h0 hc hm → JL m false D kp h0 (DX4_term_l10 ft fb fu fs fm fa Fc d kp 1 (i : Int) hc) (DX10_readTerm_l5 ga gt gs gu gb gr Fm d hm) := by
  intro M
  induction M with
  | zero =>
    intro i Fc Fm hc hm hM hFc hFm hi g
    obtain ⟨Fc, rfl⟩ : ∃ n, Fc = n + 1 := ⟨Fc - 1, by omega⟩
    obtain ⟨Fm, rfl⟩ : ∃ n, Fm = n + 1 := ⟨Fm - 1, by omega⟩
    exact term_stop g (fun k => by have := g.2.1.n9.2 (by omega); omega)
  | succ M ih =>
    intro i Fc Fm hc hm hM hFc hFm hi g
    obtain ⟨Fc, rfl⟩ : ∃ n, Fc = n + 1 := ⟨Fc - 1, by omega⟩
    obtain ⟨Fm, rfl⟩ : ∃ n, Fm = n + 1 := ⟨Fm - 1, by omega⟩
    have L := g.2.1
    by_cases k : hm.1 212 9 = 44
    · have k9 := L.n9.2 (by omega)
      obtain ⟨h1, h2, e1, e2, L2, n1, n2⟩ := L.adv
      have n1' := n1 (by omega)
      rw [DX4_term_l10.eq_2, DX10_readTerm_l5.eq_2]
      unfold DX10_eats
      rw [ok_is L.2.2.1, if_pos k, qbd_some, if_pos (show ¬ (1 : Int) = 0 by decide), e2, qbd_some, qbd_some, if_neg (show ¬ (1 : Int) = 0 by decide)]
      rw [if_neg (show ¬ (900 : Int) ≤ (i : Int) by omega), if_neg (show ¬ (1 : Int) = 0 by decide), if_neg (show ¬ ¬ hc.1 2 6 = 42 from fun z => z ((tk_sg L.2.1 (j := 4) (by decide) (by decide +kernel)).mpr (by omega))), e1, qbd_some]
      obtain ⟨r, hc2, r', hm2, x1, x2, x3⟩ := hA h1 h2 L2
      rw [x1, x2, qbd_some, qbd_some]
      obtain ⟨Fc, rfl⟩ : ∃ n, Fc = n + 1 := ⟨Fc - 1, by omega⟩
      obtain ⟨Fm, rfl⟩ : ∃ n, Fm = n + 1 := ⟨Fm - 1, by omega⟩
      rcases x3 with ⟨rfl, l⟩ | ⟨rfl, b⟩
      · obtain ⟨hc3, hm3, y1, y2, y3, y4⟩ := LW.bin (c := 3002) hm7 (Or.inl ⟨by omega, rfl, rfl⟩) g n1' n2 l
        rw [show cv_cm 3002 = 2042 from rfl] at y1
        rw [y1, y2, qbd_some, qbd_some, qw_s (by omega)]
        have l1 := l.2.2.1
        exact ih (i + 1) (Fc + 1) (Fm + 1) hc3 hm3 (by omega) (by omega) (by omega) (by omega) y3
      · obtain ⟨hc3, y1, y2, _⟩ := bd_emit b 2042
        rw [y1, in_codes b.w, qbd_some, qbd_some]
        exact term_bad y2
    · exact term_stop g k

theorem both_stop {ft fb : Int → qH → Option (Int × qH)} {fu : Int → qH → Option (Int × qH)} {fs fm fa : Int → Int → qH → Option (Int × qH)} {ga gt gs gu gb gr : Int → qH → Option (Int × qH)} {m : Int} {D : Nat} {d : Int} {h0 : qH} {i Fc Fm : Nat} (g : LW m true D kp h0 hc hm) (k : ¬ hm.1 212 9 = 17) : JL m true D kp h0 (DX4_both_l8 ft fb fu fs fm fa (Fc + 1) d 1 (i : Int) hc) (DX10_readBoth_l5 ga gt gs gu gb gr (Fm + 1) d hm) := by
  have L := g.2.1
  rw [DX4_both_l8.eq_2, DX10_readBoth_l5.eq_2]
  unfold DX10_eats
  rw [ok_is L.2.2.1, if_neg k, qbd_some, if_neg (show ¬ ¬ (0 : Int) = 0 by decide), qbd_some, if_pos rfl]
  refine JL.good ?_ rfl g
  by_cases e : (900 : Int) ≤ (i : Int)
  · rw [if_pos e, if_pos (Or.inr rfl)]
  · have tw := tk_word (i := 17) (by decide) L.1 L.2.1
    rw [show kwS 17 = 25 from rfl] at tw
    rw [if_neg e, if_neg (show ¬ (1 : Int) = 0 by decide), tw, if_neg (show ¬ hm.1 212 9 = ((17 : Nat) : Int) from k), qbd_some, if_pos rfl, if_pos (Or.inr rfl)]

theorem both_bad {ft fb : Int → qH → Option (Int × qH)} {fu : Int → qH → Option (Int × qH)} {fs fm fa : Int → Int → qH → Option (Int × qH)} {ga gt gs gu gb gr : Int → qH → Option (Int × qH)} {m : Int} {D : Nat} {d : Int} {h0 : qH} {i : Int} {Fc Fm : Nat} (z : BD hc hm) : JL m true D kp h0 (DX4_both_l8 ft fb fu fs fm fa (Fc + 1) d 0 i hc) (DX10_readBoth_l5 ga gt gs gu gb gr (Fm + 1) d hm) := by
  refine JL.bad (hc' := hc) (hm' := hm) (r' := 0) ?_ ?_ z
  · rw [DX4_both_l8.eq_2]
    by_cases e : (900 : Int) ≤ i
    · rw [if_pos e, if_pos (Or.inl rfl)]
    · rw [if_neg e, if_pos rfl, if_pos (Or.inl rfl)]
  · rw [DX10_readBoth_l5.eq_2, in_eats z.w, qbd_some, if_pos rfl]

theorem both_l {ft fb : Int → qH → Option (Int × qH)} {fu : Int → qH → Option (Int × qH)} {fs fm fa : Int → Int → qH → Option (Int × qH)} {ga gt gs gu gb gr : Int → qH → Option (Int × qH)} {m : Int} (hm7 : m ≤ 1007) {D : Nat} {d : Int} {h0 : qH} (hA : ∀ hc hm, LG kp hc hm → JL m true (D + 1) kp hm (fu d hc) (gu d hm)) : ∀ (M i Fc Fm : Nat) (hc hm : qH), 900 ≤ (M : Int) + hm.1 212 6 → M < Fc → M < Fm → (i : Int) ≤ hm.1 212 6 → LW m true D kp h0 hc hm → JL m true D kp h0 (DX4_both_l8 ft fb fu fs fm fa Fc d 1 (i : Int) hc) (DX10_readBoth_l5 ga gt gs gu gb gr Fm d hm) := by
  intro M
  induction M with
  | zero =>
    intro i Fc Fm hc hm hM hFc hFm hi g
    obtain ⟨Fc, rfl⟩ : ∃ n, Fc = n + 1 := ⟨Fc - 1, by omega⟩
    obtain ⟨Fm, rfl⟩ : ∃ n, Fm = n + 1 := ⟨Fm - 1, by omega⟩
    exact both_stop g (fun k => by have := g.2.1.n9.2 (by omega); omega)
  | succ M ih =>
    intro i Fc Fm hc hm hM hFc hFm hi g
    obtain ⟨Fc, rfl⟩ : ∃ n, Fc = n + 1 := ⟨Fc - 1, by omega⟩
    obtain ⟨Fm, rfl⟩ : ∃ n, Fm = n + 1 := ⟨Fm - 1, by omega⟩
    have L := g.2.1
    by_cases k : hm.1 212 9 = 17
    · have k9 := L.n9.2 (by omega)
      obtain ⟨h1, h2, e1, e2, L2, n1, n2⟩ := L.adv
      have n1' := n1 (by omega)
      rw [DX4_both_l8.eq_2, DX10_readBoth_l5.eq_2]
      unfold DX10_eats
      rw [ok_is L.2.2.1, if_pos k, qbd_some, if_pos (show ¬ (1 : Int) = 0 by decide), e2, qbd_some, qbd_some, if_neg (show ¬ (1 : Int) = 0 by decide)]
      have tw := tk_word (i := 17) (by decide) L.1 L.2.1
      rw [show kwS 17 = 25 from rfl] at tw
      rw [if_neg (show ¬ (900 : Int) ≤ (i : Int) by omega), if_neg (show ¬ (1 : Int) = 0 by decide), tw, if_pos (show hm.1 212 9 = ((17 : Nat) : Int) from k), qbd_some, if_neg (show ¬ (1 : Int) = 0 by decide), e1, qbd_some]
      obtain ⟨r, hc2, r', hm2, x1, x2, x3⟩ := hA h1 h2 L2
      rw [x1, x2, qbd_some, qbd_some]
      obtain ⟨Fc, rfl⟩ : ∃ n, Fc = n + 1 := ⟨Fc - 1, by omega⟩
      obtain ⟨Fm, rfl⟩ : ∃ n, Fm = n + 1 := ⟨Fm - 1, by omega⟩
      rcases x3 with ⟨rfl, l⟩ | ⟨rfl, b⟩
      · obtain ⟨hc3, hm3, y1, y2, y3, y4⟩ := LW.bin (c := 3006) hm7 (Or.inr (Or.inr ⟨by omega, rfl, rfl⟩)) g n1' n2 l
        rw [show cv_cm 3006 = 2002 from rfl] at y1
        rw [y1, y2, qbd_some, qbd_some, qw_s (by omega)]
        have l1 := l.2.2.1
        exact ih (i + 1) (Fc + 1) (Fm + 1) hc3 hm3 (by omega) (by omega) (by omega) (by omega) y3
      · obtain ⟨hc3, y1, y2, _⟩ := bd_emit b 2002
        rw [y1, in_codes b.w, qbd_some, qbd_some]
        exact both_bad y2
    · exact both_stop g k

theorem truth_stop {ft fb : Int → qH → Option (Int × qH)} {fu : Int → qH → Option (Int × qH)} {fs fm fa : Int → Int → qH → Option (Int × qH)} {ga gt gs gu gb gr : Int → qH → Option (Int × qH)} {m : Int} {D : Nat} {d : Int} {h0 : qH} {i Fc Fm : Nat} (g : LW m true D kp h0 hc hm) (k : ¬ hm.1 212 9 = 16) : JL m true D kp h0 (DX4_truth_l8 ft fb fu fs fm fa (Fc + 1) d 1 (i : Int) hc) (DX10_readTruth_l5 ga gt gs gu gb gr (Fm + 1) d hm) := by
  have L := g.2.1
  rw [DX4_truth_l8.eq_2, DX10_readTruth_l5.eq_2]
  unfold DX10_eats
  rw [ok_is L.2.2.1, if_neg k, qbd_some, if_neg (show ¬ ¬ (0 : Int) = 0 by decide), qbd_some, if_pos rfl]
  refine JL.good ?_ rfl g
  by_cases e : (900 : Int) ≤ (i : Int)
  · rw [if_pos e, if_pos (Or.inr rfl)]
  · have tw := tk_word (i := 16) (by decide) L.1 L.2.1
    rw [show kwS 16 = 26 from rfl] at tw
    rw [if_neg e, if_neg (show ¬ (1 : Int) = 0 by decide), tw, if_neg (show ¬ hm.1 212 9 = ((16 : Nat) : Int) from k), qbd_some, if_pos rfl, if_pos (Or.inr rfl)]

theorem truth_bad {ft fb : Int → qH → Option (Int × qH)} {fu : Int → qH → Option (Int × qH)} {fs fm fa : Int → Int → qH → Option (Int × qH)} {ga gt gs gu gb gr : Int → qH → Option (Int × qH)} {m : Int} {D : Nat} {d : Int} {h0 : qH} {i : Int} {Fc Fm : Nat} (z : BD hc hm) : JL m true D kp h0 (DX4_truth_l8 ft fb fu fs fm fa (Fc + 1) d 0 i hc) (DX10_readTruth_l5 ga gt gs gu gb gr (Fm + 1) d hm) := by
  refine JL.bad (hc' := hc) (hm' := hm) (r' := 0) ?_ ?_ z
  · rw [DX4_truth_l8.eq_2]
    by_cases e : (900 : Int) ≤ i
    · rw [if_pos e, if_pos (Or.inl rfl)]
    · rw [if_neg e, if_pos rfl, if_pos (Or.inl rfl)]
  · rw [DX10_readTruth_l5.eq_2, in_eats z.w, qbd_some, if_pos rfl]

theorem truth_l {ft fb : Int → qH → Option (Int × qH)} {fu : Int → qH → Option (Int × qH)} {fs fm fa : Int → Int → qH → Option (Int × qH)} {ga gt gs gu gb gr : Int → qH → Option (Int × qH)} {m : Int} (hm7 : m ≤ 1007) {D : Nat} {d : Int} {h0 : qH} (hA : ∀ hc hm, LG kp hc hm → JL m true (D + 1) kp hm (fb d hc) (gb d hm)) : ∀ (M i Fc Fm : Nat) (hc hm : qH), 900 ≤ (M : Int) + hm.1 212 6 → M < Fc → M < Fm → (i : Int) ≤ hm.1 212 6 → LW m true D kp h0 hc hm → JL m true D kp h0 (DX4_truth_l8 ft fb fu fs fm fa Fc d 1 (i : Int) hc) (DX10_readTruth_l5 ga gt gs gu gb gr Fm d hm) := by
  intro M
  induction M with
  | zero =>
    intro i Fc Fm hc hm hM hFc hFm hi g
    obtain ⟨Fc, rfl⟩ : ∃ n, Fc = n + 1 := ⟨Fc - 1, by omega⟩
    obtain ⟨Fm, rfl⟩ : ∃ n, Fm = n + 1 := ⟨Fm - 1, by omega⟩
    exact truth_stop g (fun k => by have := g.2.1.n9.2 (by omega); omega)
  | succ M ih =>
    intro i Fc Fm hc hm hM hFc hFm hi g
    obtain ⟨Fc, rfl⟩ : ∃ n, Fc = n + 1 := ⟨Fc - 1, by omega⟩
    obtain ⟨Fm, rfl⟩ : ∃ n, Fm = n + 1 := ⟨Fm - 1, by omega⟩
    have L := g.2.1
    by_cases k : hm.1 212 9 = 16
    · have k9 := L.n9.2 (by omega)
      obtain ⟨h1, h2, e1, e2, L2, n1, n2⟩ := L.adv
      have n1' := n1 (by omega)
      rw [DX4_truth_l8.eq_2, DX10_readTruth_l5.eq_2]
      unfold DX10_eats
      rw [ok_is L.2.2.1, if_pos k, qbd_some, if_pos (show ¬ (1 : Int) = 0 by decide), e2, qbd_some, qbd_some, if_neg (show ¬ (1 : Int) = 0 by decide)]
      have tw := tk_word (i := 16) (by decide) L.1 L.2.1
      rw [show kwS 16 = 26 from rfl] at tw
      rw [if_neg (show ¬ (900 : Int) ≤ (i : Int) by omega), if_neg (show ¬ (1 : Int) = 0 by decide), tw, if_pos (show hm.1 212 9 = ((16 : Nat) : Int) from k), qbd_some, if_neg (show ¬ (1 : Int) = 0 by decide), e1, qbd_some]
      obtain ⟨r, hc2, r', hm2, x1, x2, x3⟩ := hA h1 h2 L2
      rw [x1, x2, qbd_some, qbd_some]
      obtain ⟨Fc, rfl⟩ : ∃ n, Fc = n + 1 := ⟨Fc - 1, by omega⟩
      obtain ⟨Fm, rfl⟩ : ∃ n, Fm = n + 1 := ⟨Fm - 1, by omega⟩
      rcases x3 with ⟨rfl, l⟩ | ⟨rfl, b⟩
      · obtain ⟨hc3, hm3, y1, y2, y3, y4⟩ := LW.bin (c := 3007) hm7 (Or.inr (Or.inr ⟨by omega, rfl, rfl⟩)) g n1' n2 l
        rw [show cv_cm 3007 = 2001 from rfl] at y1
        rw [y1, y2, qbd_some, qbd_some, qw_s (by omega)]
        have l1 := l.2.2.1
        exact ih (i + 1) (Fc + 1) (Fm + 1) hc3 hm3 (by omega) (by omega) (by omega) (by omega) y3
      · obtain ⟨hc3, y1, y2, _⟩ := bd_emit b 2001
        rw [y1, in_codes b.w, qbd_some, qbd_some]
        exact truth_bad y2
    · exact truth_stop g k

theorem j_term {ft fb : Int → qH → Option (Int × qH)} {fu : Int → qH → Option (Int × qH)} {fs fm fa : Int → Int → qH → Option (Int × qH)} {ga gt gs gu gb gr : Int → qH → Option (Int × qH)} {m : Int} (hm7 : m ≤ 1007) {D : Nat} {d : Int} (hA : ∀ hc hm, LG kp hc hm → JL m false (D + 1) kp hm (fa d kp hc) (ga d hm)) (L : LG kp hc hm) : JL m false D kp hm (DX4_term ft fb fu fs fm fa d kp hc) (DX10_readTerm ga gt gs gu gb gr d hm) := by
  unfold DX4_term DX10_readTerm
  obtain ⟨r, hc2, r', hm2, x1, x2, x3⟩ := (hA hc hm L).less (D' := D) (by omega)
  rw [x1, x2, qbd_some, qbd_some]
  rcases x3 with ⟨rfl, l⟩ | ⟨rfl, b⟩
  · have tp := tk_pos l.2.1.2.1
    have K := term_l (ft := ft) (fb := fb) (fu := fu) (fs := fs) (fm := fm) (fa := fa) (ga := ga) (gt := gt) (gs := gs) (gu := gu) (gb := gb) (gr := gr) hm7 hA 900 0 LF LF hc2 hm2 (by omega) (by unfold LF; omega) (by unfold LF; omega) (by omega) l
    rw [z0] at K
    exact K
  · obtain ⟨FF, hFF⟩ : ∃ n, LF = n + 1 := ⟨LF - 1, by unfold LF; omega⟩
    rw [hFF]
    exact term_bad b

theorem j_both {ft fb : Int → qH → Option (Int × qH)} {fu : Int → qH → Option (Int × qH)} {fs fm fa : Int → Int → qH → Option (Int × qH)} {ga gt gs gu gb gr : Int → qH → Option (Int × qH)} {m : Int} (hm7 : m ≤ 1007) {D : Nat} {d : Int} (hA : ∀ hc hm, LG kp hc hm → JL m true (D + 1) kp hm (fu d hc) (gu d hm)) (L : LG kp hc hm) : JL m true D kp hm (DX4_both ft fb fu fs fm fa d hc) (DX10_readBoth ga gt gs gu gb gr d hm) := by
  unfold DX4_both DX10_readBoth
  obtain ⟨r, hc2, r', hm2, x1, x2, x3⟩ := (hA hc hm L).less (D' := D) (by omega)
  rw [x1, x2, qbd_some, qbd_some]
  rcases x3 with ⟨rfl, l⟩ | ⟨rfl, b⟩
  · have tp := tk_pos l.2.1.2.1
    have K := both_l (ft := ft) (fb := fb) (fu := fu) (fs := fs) (fm := fm) (fa := fa) (ga := ga) (gt := gt) (gs := gs) (gu := gu) (gb := gb) (gr := gr) hm7 hA 900 0 LF LF hc2 hm2 (by omega) (by unfold LF; omega) (by unfold LF; omega) (by omega) l
    rw [z0] at K
    exact K
  · obtain ⟨FF, hFF⟩ : ∃ n, LF = n + 1 := ⟨LF - 1, by unfold LF; omega⟩
    rw [hFF]
    exact both_bad b

theorem j_truth {ft fb : Int → qH → Option (Int × qH)} {fu : Int → qH → Option (Int × qH)} {fs fm fa : Int → Int → qH → Option (Int × qH)} {ga gt gs gu gb gr : Int → qH → Option (Int × qH)} {m : Int} (hm7 : m ≤ 1007) {D : Nat} {d : Int} (hA : ∀ hc hm, LG kp hc hm → JL m true (D + 1) kp hm (fb d hc) (gb d hm)) (L : LG kp hc hm) : JL m true D kp hm (DX4_truth ft fb fu fs fm fa d hc) (DX10_readTruth ga gt gs gu gb gr d hm) := by
  unfold DX4_truth DX10_readTruth
  obtain ⟨r, hc2, r', hm2, x1, x2, x3⟩ := (hA hc hm L).less (D' := D) (by omega)
  rw [x1, x2, qbd_some, qbd_some]
  rcases x3 with ⟨rfl, l⟩ | ⟨rfl, b⟩
  · have tp := tk_pos l.2.1.2.1
    have K := truth_l (ft := ft) (fb := fb) (fu := fu) (fs := fs) (fm := fm) (fa := fa) (ga := ga) (gt := gt) (gs := gs) (gu := gu) (gb := gb) (gr := gr) hm7 hA 900 0 LF LF hc2 hm2 (by omega) (by unfold LF; omega) (by unfold LF; omega) (by omega) l
    rw [z0] at K
    exact K
  · obtain ⟨FF, hFF⟩ : ∃ n, LF = n + 1 := ⟨LF - 1, by unfold LF; omega⟩
    rw [hFF]
    exact truth_bad b

theorem sum_stop {ft fb : Int → qH → Option (Int × qH)} {fu : Int → qH → Option (Int × qH)} {fs fm fa : Int → Int → qH → Option (Int × qH)} {ga gt gs gu gb gr : Int → qH → Option (Int × qH)} {m : Int} {D : Nat} {d : Int} {h0 : qH} {i Fc Fm : Nat} (g : LW m false D kp h0 hc hm) (k : ¬ hm.1 212 9 = 42) (k2 : ¬ hm.1 212 9 = 43) : JL m false D kp h0 (DX4_sum_l10 ft fb fu fs fm fa (Fc + 1) d kp 1 (i : Int) hc) (DX10_readSum_l5 ga gt gs gu gb gr (Fm + 1) d hm) := by
  have L := g.2.1
  rw [DX4_sum_l10.eq_2, DX10_readSum_l5.eq_2]
  rw [ok_is L.2.2.1, if_neg k, qbd_some, if_neg (show ¬ ¬ (0 : Int) = 0 by decide), ok_is L.2.2.1, if_neg k2, qbd_some, if_pos rfl]
  refine JL.good ?_ rfl g
  by_cases e : (900 : Int) ≤ (i : Int)
  · rw [if_pos e, if_pos (Or.inr rfl)]
  · rw [if_neg e, if_neg (show ¬ (1 : Int) = 0 by decide), if_neg (fun z => k (by have := (tk_sg L.2.1 (j := 2) (by decide) (by decide +kernel)).mp z; omega)), if_pos (fun z => k2 (by have := (tk_sg L.2.1 (j := 3) (by decide) (by decide +kernel)).mp z; omega)), if_pos (Or.inr rfl)]
theorem sum_bad {ft fb : Int → qH → Option (Int × qH)} {fu : Int → qH → Option (Int × qH)} {fs fm fa : Int → Int → qH → Option (Int × qH)} {ga gt gs gu gb gr : Int → qH → Option (Int × qH)} {m : Int} {D : Nat} {d : Int} {h0 : qH} {i : Int} {Fc Fm : Nat} (z : BD hc hm) : JL m false D kp h0 (DX4_sum_l10 ft fb fu fs fm fa (Fc + 1) d kp 0 i hc) (DX10_readSum_l5 ga gt gs gu gb gr (Fm + 1) d hm) := by
  refine JL.bad (hc' := hc) (hm' := hm) (r' := 0) ?_ ?_ z
  · rw [DX4_sum_l10.eq_2]
    by_cases e : (900 : Int) ≤ i
    · rw [if_pos e, if_pos (Or.inl rfl)]
    · rw [if_neg e, if_pos rfl, if_pos (Or.inl rfl)]
  · rw [DX10_readSum_l5.eq_2, in_is z.w, qbd_some, if_neg (show ¬ ¬ (0 : Int) = 0 by decide), in_is z.w, qbd_some, if_pos rfl]
theorem sum_l {ft fb : Int → qH → Option (Int × qH)} {fu : Int → qH → Option (Int × qH)} {fs fm fa : Int → Int → qH → Option (Int × qH)} {ga gt gs gu gb gr : Int → qH → Option (Int × qH)} {m : Int} (hm7 : m ≤ 1007) {D : Nat} {d : Int} {h0 : qH} (hA : ∀ hc hm, LG kp hc hm → JL m false (D + 1) kp hm (fm d kp hc) (gt d hm)) : ∀ (M i Fc Fm : Nat) (hc hm : qH), 900 ≤ (M : Int) + hm.1 212 6 → M < Fc → M < Fm → (i : Int) ≤ hm.1 212 6 → LW m false D kp h0 hc hm → JL m false D kp h0 (DX4_sum_l10 ft fb fu fs fm fa Fc d kp 1 (i : Int) hc) (DX10_readSum_l5 ga gt gs gu gb gr Fm d hm) := by
  intro M
  induction M with
  | zero =>
    intro i Fc Fm hc hm hM hFc hFm hi g
    obtain ⟨Fc, rfl⟩ : ∃ n, Fc = n + 1 := ⟨Fc - 1, by omega⟩
    obtain ⟨Fm, rfl⟩ : ∃ n, Fm = n + 1 := ⟨Fm - 1, by omega⟩
    exact sum_stop g (fun k => by have := g.2.1.n9.2 (by omega); omega) (fun k => by have := g.2.1.n9.2 (by omega); omega)
  | succ M ih =>
    intro i Fc Fm hc hm hM hFc hFm hi g
    obtain ⟨Fc, rfl⟩ : ∃ n, Fc = n + 1 := ⟨Fc - 1, by omega⟩
    obtain ⟨Fm, rfl⟩ : ∃ n, Fm = n + 1 := ⟨Fm - 1, by omega⟩
    have L := g.2.1
    have go : ∀ (c cc : Int), (hm.1 212 9 = 42 ∨ hm.1 212 9 = 43) → (c = 3000 ∨ c = 3001 ∨ c = 3002) → hc.1 2 6 = cc → cv_cm c = 2000 + cc → 0 ≤ cc → cc < 100 → JL m false D kp h0 (DX4_sum_b40 ft fb fu fs fm fa (DX4_sum_l10 ft fb fu fs fm fa Fc) d kp (i : Int) hc) (DX10_readSum_b41 ga gt gs gu gb gr (DX10_readSum_l5 ga gt gs gu gb gr Fm) d c hm) := by
      intro c cc k hcs ec ecm c0 c1
      have k9 := L.n9.2 (by omega)
      obtain ⟨h1, h2, e1, e2, L2, n1, n2⟩ := L.adv
      have n1' := n1 (by omega)
      unfold DX4_sum_b40 DX10_readSum_b41
      simp only [qlt]
      rw [e1, e2, qbd_some, qbd_some, ec, qw_e (x := 2000 + cc) (by omega) (by omega), ← ecm]
      obtain ⟨r, hc2, r', hm2, x1, x2, x3⟩ := hA h1 h2 L2
      rw [x1, x2, qbd_some, qbd_some]
      obtain ⟨Fc, rfl⟩ : ∃ n, Fc = n + 1 := ⟨Fc - 1, by omega⟩
      obtain ⟨Fm, rfl⟩ : ∃ n, Fm = n + 1 := ⟨Fm - 1, by omega⟩
      rcases x3 with ⟨rfl, l⟩ | ⟨rfl, b⟩
      · obtain ⟨hc3, hm3, y1, y2, y3, y4⟩ := LW.bin (c := c) hm7 (Or.inl ⟨hcs, rfl, rfl⟩) g n1' n2 l
        rw [y1, y2, qbd_some, qbd_some, qw_s (by omega)]
        have l1 := l.2.2.1
        exact ih (i + 1) (Fc + 1) (Fm + 1) hc3 hm3 (by omega) (by omega) (by omega) (by omega) y3
      · obtain ⟨hc3, y1, y2, _⟩ := bd_emit b (cv_cm c)
        rw [y1, in_codes b.w, qbd_some, qbd_some]
        exact sum_bad y2
    by_cases k : hm.1 212 9 = 42
    · have k9 := L.n9.2 (by omega)
      have e43 : hc.1 2 6 = 43 := (tk_sg L.2.1 (j := 2) (by decide) (by decide +kernel)).mpr (by omega)
      rw [DX4_sum_l10.eq_2, DX10_readSum_l5.eq_2, ok_is L.2.2.1, if_pos k, qbd_some, if_pos (show ¬ (1 : Int) = 0 by decide), if_neg (show ¬ ¬ hm.1 212 9 = 42 from fun z => z k), if_neg (show ¬ (900 : Int) ≤ (i : Int) by omega), if_neg (show ¬ (1 : Int) = 0 by decide), if_pos e43]
      exact go 3000 43 (Or.inl k) (Or.inl rfl) e43 rfl (by decide) (by decide)
    · by_cases k2 : hm.1 212 9 = 43
      · have k9 := L.n9.2 (by omega)
        have e45 : hc.1 2 6 = 45 := (tk_sg L.2.1 (j := 3) (by decide) (by decide +kernel)).mpr (by omega)
        rw [DX4_sum_l10.eq_2, DX10_readSum_l5.eq_2, ok_is L.2.2.1, if_neg k, qbd_some, if_neg (show ¬ ¬ (0 : Int) = 0 by decide), ok_is L.2.2.1, if_pos k2, qbd_some, if_neg (show ¬ (1 : Int) = 0 by decide), if_pos (show ¬ hm.1 212 9 = 42 from k), if_neg (show ¬ (900 : Int) ≤ (i : Int) by omega), if_neg (show ¬ (1 : Int) = 0 by decide), if_neg (show ¬ hc.1 2 6 = 43 by omega), if_neg (show ¬ ¬ hc.1 2 6 = 45 from fun z => z e45)]
        exact go 3001 45 (Or.inr k2) (Or.inr (Or.inl rfl)) e45 rfl (by decide) (by decide)
      · exact sum_stop g k k2

theorem j_sum {ft fb : Int → qH → Option (Int × qH)} {fu : Int → qH → Option (Int × qH)} {fs fm fa : Int → Int → qH → Option (Int × qH)} {ga gt gs gu gb gr : Int → qH → Option (Int × qH)} {m : Int} (hm7 : m ≤ 1007) {D : Nat} {d : Int} (hA : ∀ hc hm, LG kp hc hm → JL m false (D + 1) kp hm (fm d kp hc) (gt d hm)) (L : LG kp hc hm) : JL m false D kp hm (DX4_sum ft fb fu fs fm fa d kp hc) (DX10_readSum ga gt gs gu gb gr d hm) := by
  unfold DX4_sum DX10_readSum
  obtain ⟨r, hc2, r', hm2, x1, x2, x3⟩ := (hA hc hm L).less (D' := D) (by omega)
  rw [x1, x2, qbd_some, qbd_some]
  rcases x3 with ⟨rfl, l⟩ | ⟨rfl, b⟩
  · have tp := tk_pos l.2.1.2.1
    have K := sum_l (ft := ft) (fb := fb) (fu := fu) (fs := fs) (fm := fm) (fa := fa) (ga := ga) (gt := gt) (gs := gs) (gu := gu) (gb := gb) (gr := gr) hm7 hA 900 0 LF LF hc2 hm2 (by omega) (by unfold LF; omega) (by unfold LF; omega) (by omega) l
    rw [z0] at K
    exact K
  · obtain ⟨FF, hFF⟩ : ∃ n, LF = n + 1 := ⟨LF - 1, by unfold LF; omega⟩
    rw [hFF]
    exact sum_bad b

theorem goes_in (T : TX hc hm) (t : TK hc hm) (g : hm.1 212 11 = 0) {d : Int} (hd : d < 6) {h2 : qH} (e : DX10_next hm = some (0, h2)) (g2 : h2.1 212 11 = 0) : DX10_goesIn d hm = some (1, h2) := by
  unfold DX10_goesIn DX10_goesIn_b11
  rw [if_pos (by omega), if_neg (fun z => z g), e, qbd_some, if_neg (fun z => z g2)]
theorem goes_no (g : hm.1 212 11 = 0) {h2 : qH} (e : DX10_fails 4 hm = some (0, h2)) (g2 : ¬ h2.1 212 11 = 0) : DX10_goesIn 6 hm = some (0, h2) := by
  unfold DX10_goesIn DX10_goesIn_b11
  rw [if_neg (by decide), e, qbd_some, if_pos g2, if_pos g2]
def wdW (k : Int) : Int := if k = 19 then 0 else if k = 20 then 1 else if k = 21 then 2 else if k = 9 then 3 else -1
def wdK (k : Int) : Int := if k = 21 then 6 else if 22 ≤ k ∧ k ≤ 27 then k - 22 else -1
theorem c_windWord (T : TX hc hm) (t : TK hc hm) : DX4_windWord hc = some (wdW (hm.1 212 9), hc) := by
  have t1 := tk_word (i := 19) (by decide) T t
  have t2 := tk_word (i := 20) (by decide) T t
  have t3 := tk_word (i := 21) (by decide) T t
  have t4 := tk_word (i := 9) (by decide) T t
  rw [show kwS 19 = 20 from rfl] at t1
  rw [show kwS 20 = 21 from rfl] at t2
  rw [show kwS 21 = 19 from rfl] at t3
  rw [show kwS 9 = 22 from rfl] at t4
  unfold DX4_windWord wdW
  generalize hm.1 212 9 = k at *
  simp only [t1, t2, t3, t4, qbd_some]
  by_cases a : k = 19
  · subst a; rfl
  · rw [if_neg (show ¬ k = ((19 : Nat) : Int) from a), if_pos rfl, if_neg a]
    by_cases b : k = 20
    · subst b; rfl
    · rw [if_neg (show ¬ k = ((20 : Nat) : Int) from b), if_pos rfl, if_neg b]
      by_cases c : k = 21
      · subst c; rfl
      · rw [if_neg (show ¬ k = ((21 : Nat) : Int) from c), if_pos rfl, if_neg c]
        by_cases e : k = 9
        · subst e; rfl
        · rw [if_neg (show ¬ k = ((9 : Nat) : Int) from e), if_pos rfl, if_neg e]
theorem c_keepsWord (T : TX hc hm) (t : TK hc hm) : DX4_keepsWord hc = some (wdK (hm.1 212 9), hc) := by
  have t1 := tk_word (i := 22) (by decide) T t
  have t2 := tk_word (i := 23) (by decide) T t
  have t3 := tk_word (i := 24) (by decide) T t
  have t4 := tk_word (i := 25) (by decide) T t
  have t5 := tk_word (i := 26) (by decide) T t
  have t6 := tk_word (i := 27) (by decide) T t
  have t7 := tk_word (i := 21) (by decide) T t
  rw [show kwS 22 = 13 from rfl] at t1
  rw [show kwS 23 = 14 from rfl] at t2
  rw [show kwS 24 = 15 from rfl] at t3
  rw [show kwS 25 = 16 from rfl] at t4
  rw [show kwS 26 = 17 from rfl] at t5
  rw [show kwS 27 = 18 from rfl] at t6
  rw [show kwS 21 = 19 from rfl] at t7
  unfold DX4_keepsWord wdK
  generalize hm.1 212 9 = k at *
  simp only [t1, t2, t3, t4, t5, t6, t7, qbd_some]
  by_cases a : k = 22
  · subst a; rfl
  · rw [if_neg (show ¬ k = ((22 : Nat) : Int) from a), if_pos rfl]
    by_cases b : k = 23
    · subst b; rfl
    · rw [if_neg (show ¬ k = ((23 : Nat) : Int) from b), if_pos rfl]
      by_cases c : k = 24
      · subst c; rfl
      · rw [if_neg (show ¬ k = ((24 : Nat) : Int) from c), if_pos rfl]
        by_cases e : k = 25
        · subst e; rfl
        · rw [if_neg (show ¬ k = ((25 : Nat) : Int) from e), if_pos rfl]
          by_cases f : k = 26
          · subst f; rfl
          · rw [if_neg (show ¬ k = ((26 : Nat) : Int) from f), if_pos rfl]
            by_cases g : k = 27
            · subst g; rfl
            · rw [if_neg (show ¬ k = ((27 : Nat) : Int) from g), if_pos rfl]
              by_cases h : k = 21
              · subst h; rfl
              · rw [if_neg (show ¬ k = ((21 : Nat) : Int) from h), if_pos rfl, if_neg h, if_neg (show ¬ (22 ≤ k ∧ k ≤ 27) by omega)]
def wdA (kp k : Int) : Int := if kp = 0 then wdW k else wdK k
theorem m_wordOf {h : qH} (hk : kp = 0 ∨ kp = 1) (g : h.1 212 15 = kp) (k : Int) : DX10_wordOf k h = some (wdA kp k, h) := by
  unfold DX10_wordOf wdA wdW wdK
  rw [g]
  rcases hk with e | e
  · subst e
    rw [if_neg (by decide), if_pos rfl]
    (repeat' split) <;> first | rfl | omega
  · subst e
    rw [if_pos (show ¬ (1 : Int) = 0 by decide), if_neg (show ¬ (1 : Int) = 0 by decide), m_within, qbd_some]
    by_cases a : k = 21
    · rw [if_neg (fun z => z a), if_pos a]
    · rw [if_pos a, if_neg a]
      by_cases b : 22 ≤ k ∧ k ≤ 27
      · rw [if_pos b, if_pos b, if_neg (by decide), qw_e (by omega) (by omega)]
      · rw [if_neg b, if_neg b, if_pos rfl]
theorem wdA_r (hk : kp = 0 ∨ kp = 1) (k : Int) : wdA kp k = -1 ∨ (0 ≤ wdA kp k ∧ 1000 + wdA kp k < (if kp = 0 then 1004 else 1007) ∧ k < 28 ∧ 0 ≤ k) := by
  unfold wdA wdW wdK
  rcases hk with e | e <;> subst e <;> (repeat' split) <;> omega
theorem cm_small {c : Int} (h : c < 2000) : cv_cm c = c := by unfold cv_cm; rw [if_pos h]
theorem j_atom {ft fb : Int → qH → Option (Int × qH)} {fu : Int → qH → Option (Int × qH)} {fs fm fa : Int → Int → qH → Option (Int × qH)} {ga gt gs gu gb gr : Int → qH → Option (Int × qH)} {m : Int} (hk : kp = 0 ∨ kp = 1) (hmk : m = if kp = 0 then 1004 else 1007) {D : Nat} (hD : D < 60) {d : Int} (hd : 0 ≤ d ∧ d ≤ 6) (hA : d < 6 → ∀ hc hm, LG kp hc hm → JL m false D kp hm (fs (d + 1) kp hc) (gs (d + 1) hm)) (hI : d < 6 → ∀ hm, ¬ hm.1 212 11 = 0 → gs (d + 1) hm = some (0, hm)) (L : LG kp hc hm) : JL m false D kp hm (DX4_atom ft fb fu fs fm fa d kp hc) (DX10_readAtom ga gt gs gu gb gr d hm) := by
  have tc := tk_c L.2.1
  have tn := tk_num L.2.1
  have t5 := tk_sg L.2.1 (j := 5) (x := 40) (by decide) (by decide +kernel)
  have L3 := L.2.2.1
  have m9 : 1000 ≤ m := by rw [hmk]; split <;> decide
  unfold DX4_atom DX10_readAtom
  rw [ok_is L3, qbd_some]
  by_cases k1 : hm.1 212 9 = 31
  · obtain ⟨v1, v2, v3⟩ := tk_val L.2.1 k1
    obtain ⟨h1, h2, h3, h4, e1, e2, e3, e4, l⟩ := L.atom (m := m) hD (by omega) (c := hm.1 212 10) ⟨v2, by omega⟩
    rw [cm_small (by omega)] at e1
    rw [if_pos k1, if_neg (show ¬ (1 : Int) = 0 by decide), if_pos (show ¬ hc.1 2 6 = 40 by omega), if_neg (show ¬ ¬ hc.1 2 6 = 2 from fun z => z (tn.mpr k1)), v1, e1, e2, qbd_some, qbd_some, e3, e4, qbd_some, qbd_some]
    exact JL.good rfl rfl l
  · rw [if_neg k1, if_pos rfl, if_neg (show ¬ ¬ hm.1 212 11 = 0 from fun z => z L3), m_wordOf hk L.2.2.2.1.1, qbd_some]
    by_cases k2 : hm.1 212 9 = 45
    · have w1 : wdA kp (hm.1 212 9) = -1 := by
        rcases wdA_r hk (hm.1 212 9) with e | e
        · exact e
        · omega
      have e40 : hc.1 2 6 = 40 := t5.mpr (by omega)
      rw [w1, if_pos rfl, if_neg (show ¬ ¬ hc.1 2 6 = 40 from fun z => z e40)]
      unfold DX10_readAtom_b66
      rw [ok_is L3, if_pos k2, qbd_some, if_neg (show ¬ (1 : Int) = 0 by decide)]
      by_cases d6 : d < 6
      · obtain ⟨h1, h2, e1, e2, L2, n1, n2⟩ := L.adv
        have n1' := n1 (by omega)
        rw [if_pos d6, e1, qbd_some, goes_in L.1 L.2.1 L3 d6 e2 L2.2.2.1, qbd_some, if_pos (show ¬ (1 : Int) = 0 by decide), qw_e (x := d + 1) (by omega) (by omega)]
        obtain ⟨r, hc2, r', hm2, x1, x2, x3⟩ := hA d6 h1 h2 L2
        rw [x1, x2, qbd_some, qbd_some]
        rcases x3 with ⟨rfl, l⟩ | ⟨rfl, b⟩
        · have l2 := l.2.1
          obtain ⟨r, hc3, hm3, y1, y2⟩ := tk_sign l2.1 l2.2.1 l2.2.2.1 (j := 6) (x := 41) (by decide) (by decide +kernel)
          rw [show (40 + ((6 : Nat) : Int)) = 46 from rfl] at y2
          rw [if_neg (show ¬ (1 : Int) = 0 by decide), y1, qbd_some]
          rcases y2 with ⟨rfl, y2, y3, y4, y5⟩ | ⟨rfl, y2, y3, y4⟩
          · obtain ⟨g1, g2, a1, a2, La, na, nb⟩ := l2.adv
            rw [y4] at a1
            rw [y5] at a2
            injection a1 with a1
            injection a1 with _ a1
            injection a2 with a2
            injection a2 with _ a2
            subst a1 a2
            have na' := na (by omega)
            rw [y2, qbd_some, if_pos (show ¬ (1 : Int) = 0 by decide), if_neg (show ¬ (1 : Int) = 0 by decide)]
            exact JL.good rfl rfl (LW.in L.2.2.2.2.2.1 n1' n2 l La (by omega) nb)
          · rw [y2, qbd_some, if_neg (show ¬ ¬ (0 : Int) = 0 by decide), y3, qbd_some, if_pos rfl]
            exact JL.bad rfl rfl y4
        · rw [if_pos rfl, in_eats b.w, qbd_some, if_neg (show ¬ ¬ (0 : Int) = 0 by decide), in_fails b.w, qbd_some]
          exact JL.bad rfl rfl b
      · have e6 : d = 6 := by omega
        obtain ⟨h1, h2, e1, e2, b, _⟩ := tk_rf L.1 L.2.1 L3 (w := 4) (by decide)
        rw [if_neg d6, e1, qbd_some, if_pos (Or.inl rfl), e6, goes_no L3 e2 b.w, qbd_some, if_neg (show ¬ ¬ (0 : Int) = 0 by decide)]
        exact JL.bad rfl rfl b
    · have ec : (if kp = (0 : Int) then (qbd (DX4_windWord hc) fun r10 h11 => (DX4_atom_b88 ft fb fu fs fm fa r10 h11)) else (qbd (DX4_keepsWord hc) fun r13 h14 => (DX4_atom_b88 ft fb fu fs fm fa r13 h14))) = DX4_atom_b88 ft fb fu fs fm fa (wdA kp (hm.1 212 9)) hc := by
        rw [c_windWord L.1 L.2.1, c_keepsWord L.1 L.2.1, qbd_some, qbd_some]
        unfold wdA
        split <;> rfl
      rw [if_pos (show ¬ hc.1 2 6 = 40 from fun z => k2 (by have := t5.mp z; omega)), if_pos (show ¬ hc.1 2 6 = 2 from fun z => k1 (tn.mp z)), ec]
      unfold DX4_atom_b88
      rcases wdA_r hk (hm.1 212 9) with w1 | ⟨w1, w2, w3, w4⟩
      · rw [w1, if_pos rfl, if_neg (show ¬ ¬ (-1 : Int) = -1 by decide)]
        unfold DX10_readAtom_b66
        obtain ⟨h1, h2, e1, e2, b, _⟩ := tk_rf L.1 L.2.1 L3 (w := 2) (by decide)
        rw [ok_is L3, if_neg k2, qbd_some, if_pos rfl, e1, e2, qbd_some, qbd_some, if_pos (Or.inl rfl)]
        exact JL.bad rfl rfl b
      · rw [← hmk] at w2
        obtain ⟨h1, h2, h3, h4, e1, e2, e3, e4, l⟩ := L.atom (m := m) hD (by omega) (c := 1000 + wdA kp (hm.1 212 9)) ⟨by omega, w2⟩
        have m7 : m ≤ 1007 := by rw [hmk]; split <;> decide
        rw [cm_small (by omega)] at e1
        rw [if_neg (show ¬ wdA kp (hm.1 212 9) = -1 by omega), if_pos (show ¬ wdA kp (hm.1 212 9) = -1 by omega), m_wordOf hk L.2.2.2.1.1, qbd_some, qw_e (x := 1000 + wdA kp (hm.1 212 9)) (by omega) (by omega), e1, e2, qbd_some, qbd_some, e3, e4, qbd_some, qbd_some]
        exact JL.good rfl rfl l

theorem j_unit {ft fb : Int → qH → Option (Int × qH)} {fu : Int → qH → Option (Int × qH)} {fs fm fa : Int → Int → qH → Option (Int × qH)} {ga gt gs gu gb gr : Int → qH → Option (Int × qH)} {m : Int} (hm7 : m ≤ 1007) {D : Nat} {d : Int} (hd : 0 ≤ d ∧ d ≤ 6) (hS : ∀ hc hm, LG 1 hc hm → JL m false (D + 1) 1 hm (fs d 1 hc) (gs d hm)) (iS : ∀ hm, ¬ hm.1 212 11 = 0 → gs d hm = some (0, hm)) (hU : d < 6 → ∀ hc hm, LG 1 hc hm → JL m true D 1 hm (fu (d + 1) hc) (gu (d + 1) hm)) (hT : d < 6 → ∀ hc hm, LG 1 hc hm → JL m true D 1 hm (ft (d + 1) hc) (gr (d + 1) hm)) (L : LG 1 hc hm) : JL m true D 1 hm (DX4_unit ft fb fu fs fm fa d hc) (DX10_readUnit ga gt gs gu gb gr d hm) := by
  have tc := tk_c L.2.1
  have t7 := tk_sg L.2.1 (j := 7) (x := 91) (by decide) (by decide +kernel)
  have L3 := L.2.2.1
  have tw := tk_word (i := 18) (by decide) L.1 L.2.1
  rw [show kwS 18 = 24 from rfl] at tw
  have n0 := L.2.2.2.2.2.1
  unfold DX4_unit DX10_readUnit
  rw [ok_is L3, qbd_some, tw, qbd_some]
  by_cases k1 : hm.1 212 9 = 18
  · rw [if_pos (show hm.1 212 9 = ((18 : Nat) : Int) from k1), if_pos k1, if_pos (show ¬ (1 : Int) = 0 by decide), if_neg (show ¬ (1 : Int) = 0 by decide)]
    unfold DX4_unit_b20
    by_cases d6 : d < 6
    · obtain ⟨h1, h2, e1, e2, L2, n1, n2⟩ := L.adv
      have n1' := n1 (by omega)
      rw [if_pos d6, e1, qbd_some, goes_in L.1 L.2.1 L3 d6 e2 L2.2.2.1, qbd_some, if_pos (show ¬ (1 : Int) = 0 by decide), if_pos (show ¬ (1 : Int) = 0 by decide), qw_e (x := d + 1) (by omega) (by omega)]
      obtain ⟨r, hc2, r', hm2, x1, x2, x3⟩ := hU d6 h1 h2 L2
      rw [x1, x2, qbd_some, qbd_some]
      rcases x3 with ⟨rfl, l⟩ | ⟨rfl, b⟩
      · obtain ⟨h3, h4, y1, y2, y3⟩ := LW.neg hm7 n0 n1' n2 l
        rw [y1, y2, qbd_some, qbd_some, if_pos (Or.inr rfl)]
        exact JL.good rfl rfl y3
      · obtain ⟨h3, y1, y2, _⟩ := bd_emit b 2003
        rw [y1, in_codes b.w, qbd_some, qbd_some, if_pos (Or.inl rfl)]
        exact JL.bad rfl rfl y2
    · have e6 : d = 6 := by omega
      obtain ⟨h1, h2, e1, e2, b, _⟩ := tk_rf L.1 L.2.1 L3 (w := 4) (by decide)
      rw [if_neg d6, e1, qbd_some, if_pos (Or.inl rfl), e6, goes_no L3 e2 b.w, qbd_some, if_neg (show ¬ ¬ (0 : Int) = 0 by decide)]
      exact JL.bad rfl rfl b
  · rw [if_neg (show ¬ hm.1 212 9 = ((18 : Nat) : Int) from k1), if_neg k1, if_neg (show ¬ ¬ (0 : Int) = 0 by decide), if_pos rfl, ok_is L3, qbd_some]
    by_cases k2 : hm.1 212 9 = 47
    · have e91 : hc.1 2 6 = 91 := t7.mpr (by omega)
      rw [if_pos k2, if_neg (show ¬ (1 : Int) = 0 by decide), if_neg (show ¬ ¬ hc.1 2 6 = 91 from fun z => z e91)]
      unfold DX4_unit_b20
      by_cases d6 : d < 6
      · obtain ⟨h1, h2, e1, e2, L2, n1, n2⟩ := L.adv
        have n1' := n1 (by omega)
        rw [if_pos d6, e1, qbd_some, goes_in L.1 L.2.1 L3 d6 e2 L2.2.2.1, qbd_some, if_pos (show ¬ (1 : Int) = 0 by decide), if_neg (show ¬ ¬ (0 : Int) = 0 by decide), qw_e (x := d + 1) (by omega) (by omega)]
        obtain ⟨r, hc2, r', hm2, x1, x2, x3⟩ := hT d6 h1 h2 L2
        rw [x1, x2, qbd_some, qbd_some]
        rcases x3 with ⟨rfl, l⟩ | ⟨rfl, b⟩
        · have l2 := l.2.1
          obtain ⟨r, hc3, hm3, y1, y2⟩ := tk_sign l2.1 l2.2.1 l2.2.2.1 (j := 8) (x := 93) (by decide) (by decide +kernel)
          rw [show (40 + ((8 : Nat) : Int)) = 48 from rfl] at y2
          rw [if_neg (show ¬ (1 : Int) = 0 by decide), y1, qbd_some]
          rcases y2 with ⟨rfl, y2, y3, y4, y5⟩ | ⟨rfl, y2, y3, y4⟩
          · obtain ⟨g1, g2, a1, a2, La, na, nb⟩ := l2.adv
            rw [y4] at a1
            rw [y5] at a2
            injection a1 with a1
            injection a1 with _ a1
            injection a2 with a2
            injection a2 with _ a2
            subst a1 a2
            have na' := na (by omega)
            rw [y2, qbd_some, if_pos (show ¬ (1 : Int) = 0 by decide), if_neg (show ¬ (1 : Int) = 0 by decide)]
            exact JL.good rfl rfl (LW.in n0 n1' n2 l La (by omega) nb)
          · rw [y2, qbd_some, if_neg (show ¬ ¬ (0 : Int) = 0 by decide), y3, qbd_some, if_pos rfl]
            exact JL.bad rfl rfl y4
        · rw [if_pos rfl, in_eats b.w, qbd_some, if_neg (show ¬ ¬ (0 : Int) = 0 by decide), in_fails b.w, qbd_some]
          exact JL.bad rfl rfl b
      · have e6 : d = 6 := by omega
        obtain ⟨h1, h2, e1, e2, b, _⟩ := tk_rf L.1 L.2.1 L3 (w := 4) (by decide)
        rw [if_neg d6, e1, qbd_some, if_pos (Or.inl rfl), e6, goes_no L3 e2 b.w, qbd_some, if_neg (show ¬ ¬ (0 : Int) = 0 by decide)]
        exact JL.bad rfl rfl b
    · rw [if_neg k2, if_pos rfl, if_pos (show ¬ hc.1 2 6 = 91 from fun z => k2 (by have := t7.mp z; omega))]
      obtain ⟨r, hc2, r', hm2, x1, x2, x3⟩ := (hS hc hm L).less (D' := D) (by omega)
      rw [x1, x2, qbd_some, qbd_some]
      rcases x3 with ⟨rfl, l⟩ | ⟨rfl, b⟩
      · have l2 := l.2.1
        have l3 := l2.2.2.1
        have tc2 := tk_c l2.2.1
        have s9 := tk_sg l2.2.1 (j := 9) (x := 61) (by decide) (by decide +kernel)
        have s10 := tk_sg l2.2.1 (j := 10) (x := 60) (by decide) (by decide +kernel)
        have s11 := tk_sg l2.2.1 (j := 11) (x := 62) (by decide) (by decide +kernel)
        rw [if_pos (show ¬ (1 : Int) = 0 by decide), ok_is l3, qbd_some, ok_is l3, qbd_some]
        simp only [qlt]
        have go : ∀ (c cc : Int), hm2.1 212 9 ≠ 32 → (c = 3003 ∨ c = 3004 ∨ c = 3005) → cv_cm c = 2000 + cc → 0 ≤ cc → cc < 100 → JL m true D 1 hm (DX4_unit_b122 ft fb fu fs fm fa d cc hc2) (qbd (DX10_next hm2) fun r10 h11 => (DX10_readUnit_b151 ga gt gs gu gb gr d c h11)) := by
          intro c cc k32 hcs ecm c0 c1
          obtain ⟨h1, h2, e1, e2, L2, n1, n2⟩ := l2.adv
          have n1' := n1 k32
          unfold DX4_unit_b122 DX10_readUnit_b151
          rw [e1, e2, qbd_some, qbd_some, qw_e (x := 2000 + cc) (by omega) (by omega), ← ecm]
          obtain ⟨r, hc4, r', hm4, z1, z2, z3⟩ := hS h1 h2 L2
          rw [z1, z2, qbd_some, qbd_some]
          rcases z3 with ⟨rfl, zl⟩ | ⟨rfl, b⟩
          · obtain ⟨hc5, hm5, y1, y2, y3, y4⟩ := LW.bin (c := c) hm7 (Or.inr (Or.inl ⟨hcs, rfl, rfl⟩)) l n1' n2 zl
            rw [y1, y2, qbd_some, qbd_some, if_pos (Or.inr rfl)]
            exact JL.good rfl rfl y3
          · obtain ⟨h3, y1, y2, _⟩ := bd_emit b (cv_cm c)
            rw [y1, in_codes b.w, qbd_some, qbd_some, if_pos (Or.inl rfl)]
            exact JL.bad rfl rfl y2
        by_cases q1 : hm2.1 212 9 = 49
        · have e61 : hc2.1 2 6 = 61 := s9.mpr (by omega)
          rw [if_pos q1, if_neg (show ¬ (1 : Int) = 0 by decide), e61, if_pos rfl]
          unfold DX10_readUnit_b111
          rw [ok_is l3, if_pos q1, qbd_some, if_pos (show ¬ (1 : Int) = 0 by decide)]
          exact go 3003 61 (by omega) (Or.inl rfl) rfl (by decide) (by decide)
        · rw [if_neg q1, if_pos rfl, if_neg (show ¬ hc2.1 2 6 = 61 from fun z => q1 (by have := s9.mp z; omega))]
          by_cases q2 : hm2.1 212 9 = 50
          · have e60 : hc2.1 2 6 = 60 := s10.mpr (by omega)
            rw [if_pos q2, if_neg (show ¬ (1 : Int) = 0 by decide), e60, if_pos rfl]
            unfold DX10_readUnit_b111
            rw [ok_is l3, if_neg q1, qbd_some, if_neg (show ¬ ¬ (0 : Int) = 0 by decide), ok_is l3, if_pos q2, qbd_some, if_pos (show ¬ (1 : Int) = 0 by decide)]
            exact go 3004 60 (by omega) (Or.inr (Or.inl rfl)) rfl (by decide) (by decide)
          · rw [if_neg q2, if_pos rfl, if_neg (show ¬ hc2.1 2 6 = 60 from fun z => q2 (by have := s10.mp z; omega))]
            unfold DX10_readUnit_b111
            rw [ok_is l3, if_neg q1, qbd_some, if_neg (show ¬ ¬ (0 : Int) = 0 by decide), ok_is l3, if_neg q2, qbd_some, if_neg (show ¬ ¬ (0 : Int) = 0 by decide), ok_is l3, qbd_some]
            by_cases q3 : hm2.1 212 9 = 51
            · have e62 : hc2.1 2 6 = 62 := s11.mpr (by omega)
              rw [if_pos q3, if_neg (show ¬ (1 : Int) = 0 by decide), e62, if_pos rfl]
              exact go 3005 62 (by omega) (Or.inr (Or.inr rfl)) rfl (by decide) (by decide)
            · obtain ⟨h1, h2, e1, e2, b, _⟩ := tk_rf l2.1 l2.2.1 l3 (w := 2) (by decide)
              rw [if_neg q3, if_pos rfl, if_neg (show ¬ hc2.1 2 6 = 62 from fun z => q3 (by have := s11.mp z; omega)), e1, e2, qbd_some, qbd_some, if_pos (Or.inl rfl)]
              unfold DX10_readUnit_b151
              rw [iS h2 b.w, qbd_some, in_codes b.w, qbd_some]
              exact JL.bad rfl rfl b
      · rw [if_neg (show ¬ ¬ (0 : Int) = 0 by decide), in_is b.w, qbd_some, if_pos rfl, in_is b.w, qbd_some, if_pos rfl]
        unfold DX10_readUnit_b111 DX10_readUnit_b151
        rw [in_is b.w, qbd_some, if_neg (show ¬ ¬ (0 : Int) = 0 by decide), in_is b.w, qbd_some, if_neg (show ¬ ¬ (0 : Int) = 0 by decide), in_is b.w, qbd_some, if_pos rfl, in_fails b.w, qbd_some, iS hm2 b.w, qbd_some, in_codes b.w, qbd_some]
        exact JL.bad rfl rfl b

end la
