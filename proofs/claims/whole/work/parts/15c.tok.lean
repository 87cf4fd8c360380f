/-! ===== what both parsers see of a token ===== -/
theorem sgn_tab : (List.range 12).all (fun i => decide (40 ≤ qch 0 i) && decide (qch 0 i ≤ 93) && (List.range 12).all (fun j => decide (i = j) || !decide (qch 0 i = qch 0 j))) = true := by decide +kernel
theorem sgn_f {i : Nat} (hi : i < 12) : 40 ≤ qch 0 i ∧ qch 0 i ≤ 93 ∧ ∀ j, j < 12 → qch 0 i = qch 0 j → i = j := by
  have h := List.all_eq_true.mp sgn_tab i (List.mem_range.mpr hi)
  simp only [Bool.and_eq_true, Bool.or_eq_true, Bool.not_eq_true', decide_eq_true_eq, decide_eq_false_iff_not, List.all_eq_true, List.mem_range] at h
  refine ⟨h.1.1, h.1.2, fun j hj e => ?_⟩
  rcases h.2 j hj with g | g
  · exact g
  · exact absurd e g
section tk
variable {hc hm : qH}
theorem tk_c (t : TK hc hm) : (hm.1 212 9 = 32 ∧ hc.1 2 6 = 0) ∨ (hm.1 212 9 = 33 ∧ hc.1 2 6 = -1) ∨ (hm.1 212 9 = 31 ∧ hc.1 2 6 = 2) ∨ ((40 ≤ hm.1 212 9 ∧ hm.1 212 9 ≤ 51) ∧ 40 ≤ hc.1 2 6 ∧ hc.1 2 6 ≤ 93) ∨ (hc.1 2 6 = 1 ∧ 0 ≤ hm.1 212 9 ∧ hm.1 212 9 ≤ 30) := by
  obtain ⟨p, q, _, _, _, _, _, _, k⟩ := t
  rcases k with k | k | k | k | k
  · exact Or.inl k
  · exact Or.inr (Or.inl ⟨k.1, k.2.1⟩)
  · exact Or.inr (Or.inr (Or.inl ⟨k.1, k.2.1⟩))
  · obtain ⟨k1, _, k3⟩ := k
    have := sgn_f (i := (hm.1 212 9 - 40).toNat) (by omega)
    exact Or.inr (Or.inr (Or.inr (Or.inl ⟨k1, by omega⟩)))
  · obtain ⟨k1, _, k3⟩ := k
    rcases k3 with ⟨j, j1, j2, _⟩ | ⟨j1, _⟩
    · exact Or.inr (Or.inr (Or.inr (Or.inr ⟨k1, by omega⟩)))
    · exact Or.inr (Or.inr (Or.inr (Or.inr ⟨k1, by omega⟩)))
theorem tk_num (t : TK hc hm) : hc.1 2 6 = 2 ↔ hm.1 212 9 = 31 := by have := tk_c t; omega
theorem tk_end (t : TK hc hm) : hc.1 2 6 = 0 ↔ hm.1 212 9 = 32 := by have := tk_c t; omega
theorem tk_bad (t : TK hc hm) : hc.1 2 6 = -1 ↔ hm.1 212 9 = 33 := by have := tk_c t; omega
theorem tk_val (t : TK hc hm) (k : hm.1 212 9 = 31) : hc.1 2 9 = hm.1 212 10 ∧ 0 ≤ hm.1 212 10 ∧ hm.1 212 10 ≤ 999 := by
  obtain ⟨p, q, _, _, _, _, _, _, g⟩ := t
  rcases g with g | g | g | g | g
  · omega
  · omega
  · exact g.2.2.2
  · omega
  · obtain ⟨k1, _, k3⟩ := g
    rcases k3 with ⟨j, j1, j2, _⟩ | ⟨j1, _⟩ <;> omega
theorem tk_sg {x : Int} {j : Nat} (t : TK hc hm) (hj : j < 12) (hx : qch 0 j = x) : hc.1 2 6 = x ↔ hm.1 212 9 = 40 + (j : Int) := by
  have hc0 := tk_c t
  have sj := sgn_f hj
  obtain ⟨p, q, _, _, _, _, _, _, k⟩ := t
  rcases k with k | k | k | k | k
  · omega
  · omega
  · omega
  · obtain ⟨k1, _, k3⟩ := k
    constructor
    · intro e
      have := sj.2.2 (hm.1 212 9 - 40).toNat (by omega) (by rw [hx, ← k3, e])
      omega
    · intro e
      rw [k3, e, show (40 + (j : Int) - 40).toNat = j by omega, hx]
  · omega
theorem tk_word {i : Nat} (hi : i < 28) (T : TX hc hm) (t : TK hc hm) : DX4_isWord (kwS i) hc = some (if hm.1 212 9 = (i : Int) then 1 else 0, hc) := by
  have hc0 := tk_c t
  obtain ⟨f1, f2, f3, f4, f5, f6, f7⟩ := kw_f hi
  by_cases e : hc.1 2 6 = 1
  · obtain ⟨p, q, p1, p2, q1, q2, pq, qS, k⟩ := t
    have kk : (∃ j : Nat, j < 28 ∧ hm.1 212 9 = (j : Int) ∧ wm (hm.1 215) p q (qsT (kwS j))) ∨ (hm.1 212 9 = 30 ∧ ∀ j, j < 28 → ¬ wm (hm.1 215) p q (qsT (kwS j))) := by
      rcases k with k | k | k | k | k
      · omega
      · omega
      · omega
      · have := sgn_f (i := (hm.1 212 9 - 40).toNat) (by omega)
        omega
      · exact k.2.2
    obtain ⟨w1, w2⟩ := c_isWord (h := hc) hi (by rw [T.1]) e p2 q2 pq (by rw [T.2.2.1]; exact qS) (by rw [T.2.2.1]; exact T.2.2.2.2)
    have t4 := T.2.2.2
    have ew : wm (hc.1 1) p q (qsT (kwS i)) ↔ wm (hm.1 215) p q (qsT (kwS i)) := by
      constructor
      · rintro ⟨a, b⟩
        refine ⟨a, fun x hx => ?_⟩
        have u := T.2.1 (p + x) (by omega)
        have v := f7 x hx
        have := b x hx
        rw [u.2]
        omega
      · rintro ⟨a, b⟩
        refine ⟨a, fun x hx => ?_⟩
        have u := T.2.1 (p + x) (by omega)
        have v := f7 x hx
        have := b x hx
        rw [u.2] at this
        omega
    by_cases z : wm (hm.1 215) p q (qsT (kwS i))
    · rw [w1 (ew.mpr z)]
      rcases kk with ⟨j, j1, j2, j3⟩ | ⟨_, j2⟩
      · rw [if_pos (by rw [j2, wm_kw hi j1 z j3])]
      · exact absurd z (j2 i hi)
    · rw [w2 (fun g => z (ew.mp g))]
      rw [if_neg (fun g => ?_)]
      rcases kk with ⟨j, j1, j2, j3⟩ | ⟨j1, _⟩
      · have : i = j := by omega
        rw [this] at z
        exact z j3
      · omega
  · unfold DX4_isWord
    rw [if_pos e, if_neg (by omega)]
theorem tk_pos (t : TK hc hm) : 0 ≤ hm.1 212 6 ∧ hc.1 2 7 = hm.1 212 6 ∧ hm.1 212 6 ≤ hm.1 212 7 ∧ hm.1 212 7 ≤ hm.1 212 8 ∧ (hm.1 212 9 ≠ 32 → hm.1 212 6 < hm.1 212 7) := by
  obtain ⟨p, q, p1, p2, q1, q2, pq, qS, k⟩ := t
  refine ⟨by omega, by omega, by omega, by omega, fun g => ?_⟩
  rcases k with k | k | k | k | k
  · exact absurd k.1 g
  · have := k.2.2; omega
  · have := k.2.2.1; omega
  · have := k.2.1; omega
  · have := k.2.1; omega
/-! one token on; at fault -/
def BD (hc hm : qH) : Prop := hc.2.2.2 = (true, true) ∧ (1 ≤ hm.1 212 11 ∧ hm.1 212 11 ≤ 4) ∧ hc.1 2 1 = hm.1 212 11 ∧ hc.1 2 2 = hm.1 212 12
theorem tk_adv (T : TX hc hm) (t : TK hc hm) : ∃ hc' hm', DX4_advance hc = some (0, hc') ∧ DX10_next hm = some (0, hm') ∧ TX hc' hm' ∧ TK hc' hm' ∧ (hm.1 212 6 ≤ hm'.1 212 6) ∧ (hm.1 212 9 ≠ 32 → hm.1 212 6 < hm'.1 212 6) ∧ fr (fun i k => i = 2 ∧ 6 ≤ k ∧ k ≤ 9) hc hc' ∧ fr (fun i k => (i = 212 ∧ 6 ≤ k ∧ k ≤ 7) ∨ (i = 212 ∧ 9 ≤ k ∧ k ≤ 10)) hm hm' := by
  have tp := tk_pos t
  obtain ⟨p, q, p1, p2, q1, q2, pq, qS, _⟩ := t
  obtain ⟨h1, h2, e1, e2, e3, e4, e5⟩ := adv T q2 q1 qS
  exact ⟨h1, h2, e1, e2, e3, e4, by omega, fun g => by have := tp.2.2.2.2 g; omega, F_DX4_advance _ _ _ e1, F_DX10_next _ _ _ e2⟩
theorem tk_rf (T : TX hc hm) (t : TK hc hm) (g : hm.1 212 11 = 0) {w : Int} (hw : 1 ≤ w ∧ w ≤ 4) : ∃ hc' hm', DX4_refuse w hc = some (0, hc') ∧ DX10_fails w hm = some (0, hm') ∧ BD hc' hm' ∧ fr (fun i k => i = 2 ∧ 1 ≤ k ∧ k ≤ 2) hc hc' ∧ fr (fun i k => i = 212 ∧ 11 ≤ k ∧ k ≤ 12) hm hm' := by
  have tb := tk_bad t
  have tp := (tk_pos t).2.1
  unfold DX4_refuse DX10_fails
  rw [if_pos g]
  simp only [qlt]
  by_cases e : hm.1 212 9 = 33
  · rw [if_neg (show ¬ ¬ hc.1 2 6 = -1 from fun z => z (tb.mpr e)), if_neg (show ¬ ¬ hm.1 212 9 = 33 from fun z => z e)]
    refine ⟨_, _, rfl, rfl, ⟨T.1, ?_, ?_, ?_⟩, fr_q (fr_q fr.rf (by omega)) (by omega), fr_q (fr_q fr.rf (by omega)) (by omega)⟩
    · rw [qu_s, up_n _ _ (by decide), qu_s, up_s]; decide
    · rw [qu_s, up_n _ _ (by decide), qu_s, up_s, qu_s, up_n _ _ (by decide), qu_s, up_s]
    · rw [qu_s, up_s, qu_s, up_n _ _ (by decide), qu_s, up_s, qu_s, up_n _ _ (by decide)]; exact tp
  · rw [if_pos (show ¬ hc.1 2 6 = -1 from fun z => e (tb.mp z)), if_pos (show ¬ hm.1 212 9 = 33 from e)]
    refine ⟨_, _, rfl, rfl, ⟨T.1, ?_, ?_, ?_⟩, fr_q (fr_q fr.rf (by omega)) (by omega), fr_q (fr_q fr.rf (by omega)) (by omega)⟩
    · rw [qu_s, up_n _ _ (by decide), qu_s, up_s]; exact hw
    · rw [qu_s, up_n _ _ (by decide), qu_s, up_s, qu_s, up_n _ _ (by decide), qu_s, up_s]
    · rw [qu_s, up_s, qu_s, up_n _ _ (by decide), qu_s, up_s, qu_s, up_n _ _ (by decide)]; exact tp
/-! the reference, once it is at fault, stays as it is -/
theorem in_is (g : ¬ hm.1 212 11 = 0) (a : Int) : DX10_is a hm = some (0, hm) := by unfold DX10_is; rw [if_pos g]
theorem in_eats (g : ¬ hm.1 212 11 = 0) (a : Int) : DX10_eats a hm = some (0, hm) := by unfold DX10_eats; rw [in_is g, qbd_some, if_neg (by decide)]
theorem in_fails (g : ¬ hm.1 212 11 = 0) (a : Int) : DX10_fails a hm = some (0, hm) := by unfold DX10_fails; rw [if_neg g]
theorem in_codes (g : ¬ hm.1 212 11 = 0) (a : Int) : DX10_codes a hm = some (0, hm) := by unfold DX10_codes; rw [if_neg g]
theorem in_takes (g : ¬ hm.1 212 11 = 0) (a b : Int) : DX10_takes a b hm = some (hm.1 212 10, hm) := by
  unfold DX10_takes DX10_takes_b37
  rw [in_is g, qbd_some, if_neg (by decide), in_fails g, qbd_some]
  simp only [qlt]
  rw [if_pos g]
theorem ok_is (g : hm.1 212 11 = 0) (a : Int) : DX10_is a hm = some (if hm.1 212 9 = a then 1 else 0, hm) := by
  unfold DX10_is
  rw [if_neg (fun z => z g)]
  by_cases e : hm.1 212 9 = a
  · rw [if_neg (fun z => z e), if_pos e]
  · rw [if_pos e, if_neg e]
theorem BD.w {hc hm : qH} (b : BD hc hm) : ¬ hm.1 212 11 = 0 := by have := b.2.1; omega
theorem bd_emit (b : BD hc hm) (c : Int) : ∃ hc', DX4_emit c hc = some (0, hc') ∧ BD hc' hm ∧ fr (fun i k => (i = 2 ∧ k = 5) ∨ i = 23) hc hc' := by
  have bf : hc.2.2.2.2 = true := by rw [b.1]
  unfold DX4_emit
  by_cases e1 : hc.1 2 5 < 0
  · rw [if_pos e1]
    exact ⟨hc, rfl, b, fr.rf⟩
  · rw [if_neg e1]
    by_cases e2 : 900 ≤ hc.1 2 5
    · rw [if_pos e2]
      exact ⟨hc, rfl, b, fr.rf⟩
    · rw [if_neg e2, if_pos bf, if_pos (by omega)]
      simp only [qlt]
      have f : fr (fun i k => (i = 2 ∧ k = 5) ∨ i = 23) hc (qu (qu hc 23 (hc.1 2 5).toNat c) 2 5 (qw ((qu hc 23 (hc.1 2 5).toNat c).1 2 5 + 1))) := fr_q (fr_q fr.rf (Or.inr rfl)) (Or.inl ⟨rfl, rfl⟩)
      refine ⟨_, rfl, ⟨b.1, b.2.1, ?_, ?_⟩, f⟩
      · rw [f.at 2 1 (by omega)]; exact b.2.2.1
      · rw [f.at 2 2 (by omega)]; exact b.2.2.2
end tk
