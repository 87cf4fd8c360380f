/-! ===== deeds told: why not, and one done ===== -/
section tld
variable {w : Nat} {A : Nat → Int} {T : Int}
/-- why a deed can't be: one answer for both -/
noncomputable def cv_why (A : Nat → Int) (hm : qH) (d : Int) : Int :=
  if d = -1 then 0 else if d < 0 ∨ 1008 ≤ d then 1 else if 1000 ≤ d then (if d - 1000 < hm.1 213 348 then (if hm.1 213 (284 + (8 * (d - 1000).toNat + 0)) = 0 then 0 else 2) else 1)
  else if 1 < d % 10 then 1 else if (0 ≤ d / 100 ∧ d / 100 < A 4) ∧ ¬ d / 100 = (if d / 10 % 10 = 9 then -1 else d / 10 % 10) ∧ ((if d / 10 % 10 = 9 then (-1 : Int) else d / 10 % 10) = -1 ∨ (0 ≤ (if d / 10 % 10 = 9 then (-1 : Int) else d / 10 % 10) ∧ (if d / 10 % 10 = 9 then (-1 : Int) else d / 10 % 10) < A 4)) then (if cv_to A (d / 100) = -1 then 2 else if hm.1 213 348 < 8 then 0 else 3) else 1
theorem c_toldTo {d : Int} (h0 : 0 ≤ d ∧ d < 1000) (h : qH) : DX9_toldTo d h = some (if d / 10 % 10 = 9 then -1 else d / 10 % 10, h) := by
  unfold DX9_toldTo
  rw [qlt_e, qdiv_e h0.1 (by omega) (by decide) (by decide), qrem_e (by omega) (by omega) (by decide) (by decide)]
  (repeat' split) <;> first | rfl | contradiction
theorem c_whyNot {hc hm : qH} (D : DR w A T hc hm) (d : Int) : DX9_whyNotDone w d hc = some (cv_why A hm d, hc) := by
  have G := D.1.1
  have r := D.1.2.1
  have w1 : hc.1 w 1 = hm.1 213 348 := D.2.2.2.1
  have w3 : 0 ≤ hm.1 213 348 ∧ hm.1 213 348 ≤ 8 := D.2.2.2.2.2.1
  unfold DX9_whyNotDone cv_why
  simp only [qcmp_z, qcmp_l]
  by_cases d1 : d = -1
  · rw [if_neg (show ¬ ¬ d = -1 from fun z => z d1), if_pos d1]
  · rw [if_pos d1, if_neg d1]
    by_cases d2 : d < 0 ∨ 1008 ≤ d
    · rw [if_pos d2]
      by_cases d3 : d < 0
      · rw [if_pos d3]
      · rw [if_neg d3, if_neg (show ¬ d < 1008 by omega)]
    · rw [if_neg d2, if_neg (show ¬ d < 0 by omega), if_pos (show d < 1008 by omega), qlt_e, qw_e (x := d) (by omega) (by omega)]
      by_cases d3 : 1000 ≤ d
      · rw [if_neg (show ¬ d < 1000 by omega), if_pos d3, qw_e (x := d - 1000) (by omega) (by omega), c_whyLifted D, qbd_some]
        by_cases d4 : d - 1000 < hm.1 213 348
        · rw [if_pos (show 0 ≤ d - 1000 ∧ d - 1000 < hm.1 213 348 by omega), if_pos d4]
        · rw [if_neg (show ¬ (0 ≤ d - 1000 ∧ d - 1000 < hm.1 213 348) by omega), if_neg d4]
      · rw [if_pos (show d < 1000 by omega), if_neg d3, qrem_e (by omega) (by omega) (by decide) (by decide)]
        by_cases d4 : 1 < d % 10
        · rw [if_neg (show ¬ d % 10 ≤ 1 by omega), if_pos d4]
        · rw [if_pos (show d % 10 ≤ 1 by omega), if_neg d4, c_toldTo (by omega), qbd_some, qdiv_e (by omega) (by omega) (by decide) (by decide), c_whyThrown G r, qbd_some, w1]
theorem m_whyNotA {hc hm : qH} (D : DR w A T hc hm) (d : Int) : DX10_whyNot d hm = some (cv_why A hm d, hm) := by
  have G := D.1.1
  have q := D.2.2.1.1
  have h4 := G.2.2.1
  have w3 : 0 ≤ hm.1 213 348 ∧ hm.1 213 348 ≤ 8 := D.2.2.2.2.2.1
  unfold DX10_whyNot cv_why
  simp only [qcmp_z, qcmp_le]
  by_cases d1 : d = -1
  · rw [if_neg (show ¬ ¬ d = -1 from fun z => z d1), if_pos d1]
  · rw [if_pos d1, if_neg d1, m_within, qbd_some]
    by_cases l : 1000 ≤ d ∧ d ≤ 1099
    · rw [if_pos l, if_neg (show ¬ (1 : Int) = 0 by decide), qwl_e (by omega) (by omega), m_whyLift w3, qbd_some]
      by_cases d2 : 1008 ≤ d
      · rw [if_neg (show ¬ (0 ≤ d - 1000 ∧ d - 1000 < hm.1 213 348) by omega), if_pos (Or.inr d2)]
      · rw [if_neg (show ¬ (d < 0 ∨ 1008 ≤ d) by omega), if_pos l.1]
        by_cases d4 : d - 1000 < hm.1 213 348
        · rw [if_pos (show 0 ≤ d - 1000 ∧ d - 1000 < hm.1 213 348 by omega), if_pos d4]
        · rw [if_neg (show ¬ (0 ≤ d - 1000 ∧ d - 1000 < hm.1 213 348) by omega), if_neg d4]
    · rw [if_neg l, if_pos rfl, m_within, qbd_some]
      by_cases m : 0 ≤ d ∧ d ≤ 599
      · rw [if_pos m, if_neg (show ¬ (1 : Int) = 0 by decide), if_neg (show ¬ (d < 0 ∨ 1008 ≤ d) by omega), if_neg (show ¬ 1000 ≤ d by omega), qreml_e m.1 (by omega) (by decide) (by decide)]
        by_cases d4 : 1 < d % 10
        · rw [if_neg (show ¬ d % 10 ≤ 1 by omega), if_pos d4]
        · rw [if_pos (show d % 10 ≤ 1 by omega), if_neg d4, qlt_e, qdivl_e m.1 (by omega) (by decide) (by decide), qdivl_e m.1 (by omega) (by decide) (by decide), qreml_e (by omega) (by omega) (by decide) (by decide)]
          by_cases t9 : d / 10 % 10 = 9
          · rw [if_neg (show ¬ ¬ d / 10 % 10 = 9 from fun z => z t9), m_whyThrow q G _ _ w3, qbd_some]
            simp only [if_pos t9]
          · simp only [if_neg t9]
            rw [if_pos t9, m_isShoreA q G, qbd_some]
            by_cases ts : 0 ≤ d / 10 % 10 ∧ d / 10 % 10 < A 4
            · rw [if_pos ts, if_neg (show ¬ (1 : Int) = 0 by decide), m_whyThrow q G _ _ w3, qbd_some]
            · rw [if_neg ts, if_pos rfl, if_neg]
              rintro ⟨_, _, z⟩
              rcases z with z | z
              · omega
              · exact ts z
      · rw [if_neg m, if_pos rfl]
        by_cases d2 : d < 0 ∨ 1008 ≤ d
        · rw [if_pos d2]
        · rw [if_neg d2, if_neg (show ¬ 1000 ≤ d by omega)]
          by_cases d4 : 1 < d % 10
          · rw [if_pos d4]
          · rw [if_neg d4, if_neg (fun z => by have := z.1; omega)]
/-- a deed that can be, done by both -/
theorem DR.does {hc hm : qH} {d : Int} (hw : w = 24 ∨ w = 34) (D : DR w A T hc hm) (hT : T ≤ 100000) (hy : cv_why A hm d = 0) :
    ∃ hc' hm', DX9_doOne w (qw d) hc = some (0, hc') ∧ DX10_does (qw d) hm = some (0, hm') ∧ DR w A (T + 1) hc' hm' ∧ fr (Pcw w) hc hc' ∧ fr Pmd hm hm' := by
  have G := D.1.1
  have w1 : hc.1 w 1 = hm.1 213 348 := D.2.2.2.1
  have w3 : 0 ≤ hm.1 213 348 ∧ hm.1 213 348 ≤ 8 := D.2.2.2.2.2.1
  have h4 := G.2.2.1
  unfold cv_why at hy
  by_cases d1 : d = -1
  · obtain ⟨h1, g1, r, e1, x1, D1, fc1, fm1, _, _⟩ := D.ebb hw hT
    unfold DX9_doOne DX10_does
    rw [d1, show qw (-1) = -1 from rfl, if_neg (show ¬ ¬ (-1 : Int) = -1 by decide), if_neg (show ¬ ¬ (-1 : Int) = -1 by decide), e1, x1, qbd_some, qbd_some]
    exact ⟨h1, g1, rfl, rfl, D1, fc1, fm1⟩
  · rw [if_neg d1] at hy
    by_cases d2 : d < 0 ∨ 1008 ≤ d
    · rw [if_pos d2] at hy
      omega
    · rw [if_neg d2] at hy
      have dq : qw d = d := qw_e (by omega) (by omega)
      rw [dq]
      unfold DX9_doOne DX10_does
      rw [if_pos d1, if_pos d1]
      by_cases d3 : 1000 ≤ d
      · rw [if_pos d3] at hy
        rw [if_neg (show ¬ d < 1000 by omega), if_neg (show ¬ d < 1000 by omega)]
        by_cases d4 : d - 1000 < hm.1 213 348
        · rw [if_pos d4] at hy
          by_cases d5 : hm.1 213 (284 + (8 * (d - 1000).toNat + 0)) = 0
          · obtain ⟨D1, fc1, fm1⟩ := D.raise (b := (d - 1000).toNat) hw (by omega) d5
            unfold DX7_raise
            rw [qw_e (x := d - 1000) (by omega) (by omega), c_has (by rw [w1]; exact w3), w1, qbd_some, if_pos (show 0 ≤ d - 1000 ∧ d - 1000 < hm.1 213 348 by omega), if_neg (show ¬ (1 : Int) = 0 by decide), if_pos (show 0 ≤ d - 1000 ∧ d - 1000 < 8 by omega), qlt_e, qbd_some, qw_e (x := 8 * (d - 1000)) (by omega) (by omega), qw_e (x := 284 + 8 * (d - 1000)) (by omega) (by omega), if_pos (show 0 ≤ 284 + 8 * (d - 1000) ∧ 284 + 8 * (d - 1000) < 5736 by omega), show (284 + 8 * (d - 1000)).toNat = 284 + (8 * (d - 1000).toNat + 0) by omega, qlt_e]
            exact ⟨_, _, rfl, rfl, ⟨D1.1, D1.2.1, D1.2.2.1, D1.2.2.2.grow (by omega)⟩, fc1, fm1⟩
          · rw [if_neg d5] at hy
            omega
        · rw [if_neg d4] at hy
          omega
      · rw [if_neg d3] at hy
        rw [if_pos (show d < 1000 by omega), if_pos (show d < 1000 by omega), c_toldTo (by omega), qbd_some]
        unfold DX10_does_b69
        rw [qrem_e (by omega) (by omega) (by decide) (by decide), qdiv_e (a := d) (b := 100) (by omega) (by omega) (by decide) (by decide), qdiv_e (a := d) (b := 10) (by omega) (by omega) (by decide) (by decide), qrem_e (a := d / 10) (by omega) (by omega) (by decide) (by decide)]
        by_cases d4 : 1 < d % 10
        · rw [if_pos d4] at hy
          omega
        · rw [if_neg d4] at hy
          generalize hto : (if d / 10 % 10 = 9 then (-1 : Int) else d / 10 % 10) = to at hy ⊢
          have hx : ∀ Z : Int → Option (Int × qH), (if ¬ d / 10 % 10 = 9 then Z (d / 10 % 10) else Z (-1)) = Z to := by
            intro Z
            rw [← hto]
            (repeat' split) <;> first | rfl | contradiction
          by_cases d5 : (0 ≤ d / 100 ∧ d / 100 < A 4) ∧ ¬ d / 100 = to ∧ (to = -1 ∨ (0 ≤ to ∧ to < A 4))
          · rw [if_pos d5] at hy
            by_cases d6 : cv_to A (d / 100) = -1
            · rw [if_pos d6] at hy
              omega
            · rw [if_neg d6] at hy
              by_cases d7 : hm.1 213 348 < 8
              · have go : ∀ hv : Int, (hv = 0 ∨ hv = 1) → ∃ hc' hm', (qbd (DX7_launch w 5 (d / 100) to hv hc) fun _ h5 => some (0, h5)) = some (0, hc') ∧ (qbd (DX10_throwsOne (d / 100) to hv hm) fun _ h2 => some (0, h2)) = some (0, hm') ∧ DR w A (T + 1) hc' hm' ∧ fr (Pcw w) hc hc' ∧ fr Pmd hm hm' := by
                  intro hv hh
                  obtain ⟨h1, g1, e1, x1, D1, fc1, fm1, _⟩ := D.launch (f := d / 100) (to := to) (hv := hv) hw hT d5.1 d6 d5.2.2 hh d7
                  rw [e1, x1, qbd_some, qbd_some]
                  exact ⟨h1, g1, rfl, rfl, ⟨D1.1, D1.2.1, D1.2.2.1, D1.2.2.2.grow (by omega)⟩, fc1, fm1⟩
                have hz := hx (fun z => if ¬ d % 10 = 1 then (qbd (DX10_throwsOne (d / 100) z 0 hm) fun _ h2 => some (0, h2)) else (qbd (DX10_throwsOne (d / 100) z 1 hm) fun _ h5 => some (0, h5)))
                rw [hz]
                by_cases d8 : d % 10 = 1
                · rw [if_neg (show ¬ ¬ d % 10 = 1 from fun z => z d8), if_neg (show ¬ ¬ d % 10 = 1 from fun z => z d8)]
                  exact go 1 (Or.inr rfl)
                · rw [if_pos d8, if_pos d8]
                  exact go 0 (Or.inl rfl)
              · rw [if_neg d7] at hy
                omega
          · rw [if_neg d5] at hy
            omega
end tld
