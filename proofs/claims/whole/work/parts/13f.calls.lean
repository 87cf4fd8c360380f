/-! ===== lift, tides ===== -/
section lft
variable {n : Int} {A : Nat → Int}
theorem DR.ct {w : Nat} {T : Int} {hc hm : qH} (D : DR w A T hc hm) (st : Int) : DX7_countOf w st hc = some (cv_ct (stf hm) st (hm.1 213 348).toNat, hc) := by
  have w1 : hc.1 w 1 = hm.1 213 348 := D.2.2.2.1
  have w3 : 0 ≤ hm.1 213 348 ∧ hm.1 213 348 ≤ 8 := D.2.2.2.2.2.1
  rw [c_countOf (by rw [w1]; exact w3), w1]
  congr 2
  exact cv_ct_c _ (fun b hb => D.at (b := b) (k := 0) (by omega) (by decide))
theorem c_whyLifted {w : Nat} {T : Int} {hc hm : qH} (D : DR w A T hc hm) (b : Int) : DX7_whyNotLifted w b hc = some (if 0 ≤ b ∧ b < hm.1 213 348 then (if hm.1 213 (284 + (8 * b.toNat + 0)) = 0 then 0 else 2) else 1, hc) := by
  have w1 : hc.1 w 1 = hm.1 213 348 := D.2.2.2.1
  have w3 : 0 ≤ hm.1 213 348 ∧ hm.1 213 348 ≤ 8 := D.2.2.2.2.2.1
  unfold DX7_whyNotLifted
  rw [c_has (by rw [w1]; exact w3), w1, qbd_some]
  by_cases k : 0 ≤ b ∧ b < hm.1 213 348
  · rw [if_pos k, if_pos (show ¬ (1 : Int) = 0 by decide), if_pos (show 0 ≤ b ∧ b < 8 by omega), if_pos k, D.at (b := b.toNat) (k := 0) (by omega) (by decide)]
    (repeat' split) <;> first | rfl | contradiction
  · rw [if_neg k, if_neg k]
    rfl
theorem m_whyLift {h : qH} (hw : 0 ≤ h.1 213 348 ∧ h.1 213 348 ≤ 8) (b : Int) : DX10_whyLift b h = some (if 0 ≤ b ∧ b < h.1 213 348 then (if h.1 213 (284 + (8 * b.toNat + 0)) = 0 then 0 else 2) else 1, h) := by
  unfold DX10_whyLift
  rw [m_isBottleA hw, qbd_some]
  by_cases k : 0 ≤ b ∧ b < h.1 213 348
  · rw [if_pos k, if_pos (show ¬ (1 : Int) = 0 by decide), qw_e (x := b) (by omega) (by omega), qw_e (x := 8 * b) (by omega) (by omega), qw_e (x := 284 + 8 * b) (by omega) (by omega), if_pos (show 0 ≤ 284 + 8 * b ∧ 284 + 8 * b < 5736 by omega), show (284 + 8 * b).toNat = 284 + (8 * b.toNat + 0) by omega, if_pos k]
    (repeat' split) <;> first | rfl | contradiction
  · rw [if_neg k, if_neg k]
    rfl
theorem t_lift {hc hm : qH} (R : RR n A hc hm) (hn : n ≤ 512) (b : Int) : Out n (DX9_lift b hc) (DX10_lift b hm) := by
  have R1 := R.m0
  unfold DX9_lift DX10_lift
  simp only [qlt]
  generalize qu hm 212 0 0 = hm1 at R1
  have th := R1.thr
  have P := R1.past
  have hr := nxs_r P
  rw [c_whyLifted R1.dr, m_whyLift th.1, qbd_some, qbd_some]
  by_cases k : (0 ≤ b ∧ b < hm1.1 213 348) ∧ hm1.1 213 (284 + (8 * b.toNat + 0)) = 0
  · have b8 : 0 ≤ b ∧ b < 8 := by omega
    rw [if_pos k.1, if_pos k.2, if_neg (show ¬ ¬ (0 : Int) = 0 by decide), if_pos rfl, c_has (by rw [th.2]; exact th.1), th.2, qbd_some, if_pos k.1, if_pos (show ¬ (1 : Int) = 0 by decide)]
    obtain ⟨h1, e1, w1, o1, f1⟩ := c_draft R1
    have a44 : h1.1 44 = hc.1 44 := o1 44 (by omega)
    obtain ⟨h2, s, e2, hs, c1, c2, o2, f2⟩ := c_commit (hc := h1) (by rw [a44]; exact P.1) (by rw [a44, P.2.1]; exact P.2.2.1)
    obtain ⟨g1, x1, ka, kf⟩ := m_keeps hm1
    rw [a44] at hs c1 c2
    have D2 : DR 24 A (99 * n) h2 g1 := R1.dr.cg (fun i hi => by rw [o2 i (by omega), o1 i (by omega)]) (by rw [f2, f1]) (kf.fn (fun k => by omega)) (kf.at 212 19 (by omega))
    have g13 : g1.1 213 = hm1.1 213 := kf.fn (fun k => by omega)
    obtain ⟨D3, fc3, fm3⟩ := D2.raise (b := b.toNat) (Or.inl rfl) (by rw [g13]; omega) (by rw [g13]; exact k.2)
    have D3' : DR 24 A (99 * (n + 1)) (qu h2 (24 + 2 + b.toNat) 0 5) (qu g1 213 (284 + (8 * b.toNat + 0)) 5) := ⟨D3.1, D3.2.1, D3.2.2.1, D3.2.2.2.grow (by omega)⟩
    obtain ⟨g3, x3, R3, t3⟩ := R1.done w1 o1 ka kf D3' fm3 hs (by rw [fc3.at 44 1 (by unfold Pcw; omega)]; exact c1) (by rw [fc3.at 44 2 (by unfold Pcw; omega)]; exact c2) (fun i a b => by rw [fc3.fn (i := i) (fun k => by unfold Pcw; omega), o2 i (by omega)]) (fun i k g => by rw [fc3.at i k (by unfold Pcw; omega), o2 i (by omega), o1 i (by omega)])
    have dw1 : h2.1 24 1 = g1.1 213 348 := D2.2.2.2.1
    have dw3 : 0 ≤ g1.1 213 348 ∧ g1.1 213 348 ≤ 8 := D2.2.2.2.2.2.1
    have er : DX7_raise 24 b h2 = some (0, qu h2 (26 + b.toNat) 0 5) := by
      refine Eq.trans ?_ (show some ((0 : Int), qu h2 (24 + 2 + b.toNat) 0 5) = some (0, qu h2 (26 + b.toNat) 0 5) from rfl)
      unfold DX7_raise
      rw [c_has (by rw [dw1]; exact dw3), dw1, qbd_some, g13, if_pos k.1, if_neg (show ¬ (1 : Int) = 0 by decide), if_pos b8, qlt_e]
    rw [e1, x1, qbd_some, qbd_some, e2, qbd_some, er, qbd_some]
    simp only [if_pos b8]
    rw [qw_e (x := 8 * b) (by omega) (by omega), qw_e (x := 284 + 8 * b) (by omega) (by omega), if_pos (show 0 ≤ 284 + 8 * b ∧ 284 + 8 * b < 5736 by omega), show (284 + 8 * b).toNat = 284 + (8 * b.toNat + 0) by omega, x3, qbd_some, qw_e (x := 284 + 8 * b + 1) (by omega) (by omega), if_pos (show 0 ≤ 284 + 8 * b + 1 ∧ 284 + 8 * b + 1 < 5736 by omega), show (284 + 8 * b + 1).toNat = 284 + (8 * b.toNat + 1) by omega, t3 _ (by omega)]
    have ea : (qu h2 (26 + b.toNat) 0 5).1 (26 + b.toNat) 1 = (qu g1 213 (284 + (8 * b.toNat + 0)) 5).1 213 (284 + (8 * b.toNat + 1)) := by
      rw [qu_s, up_n _ _ (by decide), qu_s, up_n _ _ (by omega)]
      exact D2.at (b := b.toNat) (k := 1) (by rw [g13]; omega) (by decide)
    rw [ea]
    exact ⟨_, _, g3, A, rfl, rfl, R3⟩
  · have e0 : ¬ (if 0 ≤ b ∧ b < hm1.1 213 348 then (if hm1.1 213 (284 + (8 * b.toNat + 0)) = 0 then (0 : Int) else 2) else 1) = 0 := by
      (repeat' split) <;> first | decide | (exact absurd ⟨by assumption, by assumption⟩ k)
    rw [if_pos e0, if_neg e0]
    exact Out.of R1 rfl rfl
theorem td_l {N : Nat} (hN : N ≤ 99) {T0 c0 : Int} {Tn : Nat} (h8 : Tn ≤ 8) (hT : T0 ≤ 60000) (hc0 : 0 ≤ c0 ∧ c0 ≤ 8) : ∀ (m k Fc Fm : Nat) (acc : Int) (hc g : qH), k + m = N → m < Fc → m < Fm → DR 24 A (T0 + k) hc g → g.1 213 348 = Tn → acc = cv_ct (stf g) 2 Tn - c0 →
    ∃ h' g' r, DX9_tides_l43 Fc (N : Int) c0 (k : Int) hc = some (r, h') ∧ DX10_tides_l28 Fm (N : Int) acc (k : Int) g = qbd (DX10_notes g') (fun _ h2 => some (r, h2)) ∧ DR 24 A (T0 + N) h' g' ∧ fr (Pcw 24) hc h' ∧ fr Pmd g g' := by
  intro m
  induction m with
  | zero =>
    intro k Fc Fm acc hc g hk hFc hFm D t8 ha
    obtain ⟨Fc, rfl⟩ : ∃ n, Fc = n + 1 := ⟨Fc - 1, by omega⟩
    obtain ⟨Fm, rfl⟩ : ∃ n, Fm = n + 1 := ⟨Fm - 1, by omega⟩
    have r1 := cv_ct_r (stf g) 2 Tn
    rw [DX9_tides_l43.eq_2, DX10_tides_l28.eq_2, if_pos (by omega), if_pos (by omega), D.ct, t8, Int.toNat_natCast, qbd_some, qw_e (by omega) (by omega), ← ha, show N = k by omega]
    exact ⟨hc, g, _, rfl, rfl, D, fr.rf, fr.rf⟩
  | succ m ih =>
    intro k Fc Fm acc hc g hk hFc hFm D t8 ha
    obtain ⟨Fc, rfl⟩ : ∃ n, Fc = n + 1 := ⟨Fc - 1, by omega⟩
    obtain ⟨Fm, rfl⟩ : ∃ n, Fm = n + 1 := ⟨Fm - 1, by omega⟩
    have r1 := cv_ct_r (stf g) 2 Tn
    obtain ⟨h1, g1, r, e1, x1, D1, fc1, fm1, l1, hr⟩ := D.ebb (Or.inl rfl) (by omega)
    rw [t8, Int.toNat_natCast] at hr
    have r2 := cv_ct_r (stf g1) 2 Tn
    have D1' : DR 24 A (T0 + ((k + 1 : Nat) : Int)) h1 g1 := by
      rw [show T0 + ((k + 1 : Nat) : Int) = T0 + (k : Int) + 1 by omega]
      exact D1
    obtain ⟨h2, g2, r', e2, x2, D2, fc2, fm2⟩ := ih (k + 1) Fc Fm (acc + r) h1 g1 (by omega) (by omega) (by omega) D1' (by rw [l1]; exact t8) (by omega)
    rw [DX9_tides_l43.eq_2, DX10_tides_l28.eq_2, if_neg (by omega), if_neg (by omega), e1, x1, qbd_some, qbd_some, qlt_e, qw_e (x := acc + r) (by omega) (by omega), qw_s (by omega)]
    exact ⟨h2, g2, r', e2, x2, D2, fc1.tr fc2, fm1.tr fm2⟩
theorem t_tides {hc hm : qH} (R : RR n A hc hm) (hn : n ≤ 512) (N : Int) : Out n (DX9_tides N hc) (DX10_tides N hm) := by
  have R1 := R.m0
  unfold DX9_tides DX10_tides
  simp only [qlt]
  generalize qu hm 212 0 0 = hm1 at R1
  have th := R1.thr
  have P := R1.past
  have hr := nxs_r P
  rw [m_within, qbd_some]
  by_cases k : 1 ≤ N ∧ N ≤ 99
  · rw [if_neg (show ¬ N < 1 by omega), if_pos k.2, if_pos k, if_pos (show ¬ (1 : Int) = 0 by decide)]
    obtain ⟨h1, e1, w1, o1, f1⟩ := c_draft R1
    have a44 : h1.1 44 = hc.1 44 := o1 44 (by omega)
    obtain ⟨h2, s, e2, hs, c1, c2, o2, f2⟩ := c_commit (hc := h1) (by rw [a44]; exact P.1) (by rw [a44, P.2.1]; exact P.2.2.1)
    obtain ⟨g1, x1, ka, kf⟩ := m_keeps hm1
    rw [a44] at hs c1 c2
    have D2 : DR 24 A (99 * n) h2 g1 := R1.dr.cg (fun i hi => by rw [o2 i (by omega), o1 i (by omega)]) (by rw [f2, f1]) (kf.fn (fun k => by omega)) (kf.at 212 19 (by omega))
    have g13 : g1.1 213 = hm1.1 213 := kf.fn (fun k => by omega)
    have rr := cv_ct_r (stf g1) 2 (g1.1 213 348).toNat
    have t8 : g1.1 213 348 = ((g1.1 213 348).toNat : Int) := by rw [g13]; omega
    rw [e1, x1, qbd_some, qbd_some, e2, qbd_some, D2.ct, qbd_some]
    have D2' : DR 24 A (99 * n + ((0 : Nat) : Int)) h2 g1 := by
      rw [z0, Int.add_zero]
      exact D2
    have K := td_l (A := A) (N := N.toNat) (by omega) (T0 := 99 * n) (c0 := cv_ct (stf g1) 2 (g1.1 213 348).toNat) (Tn := (g1.1 213 348).toNat) (by rw [g13]; omega) (by omega) (by rw [g13] at rr ⊢; omega) N.toNat 0 LF LF 0 h2 g1 (by omega) (by unfold LF; omega) (by unfold LF; omega) D2' t8 (by omega)
    rw [z0, show ((N.toNat : Nat) : Int) = N by omega] at K
    obtain ⟨h3, g2, r, e3, x2, D3, fc3, fm3⟩ := K
    have D3' : DR 24 A (99 * (n + 1)) h3 g2 := ⟨D3.1, D3.2.1, D3.2.2.1, D3.2.2.2.grow (by omega)⟩
    obtain ⟨g3, x3, R3, t3⟩ := R1.done (h3 := h3) w1 o1 ka kf D3' fm3 hs (by rw [fc3.at 44 1 (by unfold Pcw; omega)]; exact c1) (by rw [fc3.at 44 2 (by unfold Pcw; omega)]; exact c2) (fun i a b => by rw [fc3.fn (i := i) (fun k => by unfold Pcw; omega), o2 i (by omega)]) (fun i k g => by rw [fc3.at i k (by unfold Pcw; omega), o2 i (by omega), o1 i (by omega)])
    rw [e3, x2, x3, qbd_some]
    exact ⟨_, h3, g3, A, rfl, rfl, R3⟩
  · rw [if_neg k]
    by_cases p1 : N < 1
    · rw [if_pos p1]
      exact Out.of R1 rfl rfl
    · rw [if_neg p1, if_neg (show ¬ N ≤ 99 by omega)]
      exact Out.of R1 rfl rfl
end lft
