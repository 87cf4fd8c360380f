/-! ===== season: the loop of both ===== -/
section ssn
variable {n : Int} {A : Nat → Int}
theorem sea_l {N : Nat} (hN : N ≤ 40) {T0 : Int} (hT : T0 ≤ 60000) (h4 : ¬ A 4 = 0) : ∀ (m k Fc Fm acc : Nat) (s : Int) (hc g : qH), k + m = N → m < Fc → m < Fm → acc ≤ k → DR 24 A (T0 + k) hc g → g.1 212 22 = s →
    ∃ h' g', ∃ r : Nat, DX9_season_l46 Fc (N : Int) (acc : Int) s (k : Int) hc = (if (r : Int) ≤ 0 then some ((r : Int), h') else qbd (DX3_commit h') fun _ h9 => some ((r : Int), h9)) ∧ DX10_season_l46 Fm (N : Int) (acc : Int) (k : Int) g = (if (r : Int) ≤ 0 then some ((r : Int), g') else qbd (DX10_notes g') fun _ h2 => some ((r : Int), h2)) ∧ DR 24 A (T0 + N) h' g' ∧ fr (Pcw 24) hc h' ∧ fr Pmd g g' ∧ acc ≤ r ∧ (r = acc → h' = hc ∧ g'.1 213 = g.1 213) := by
  intro m
  induction m with
  | zero =>
    intro k Fc Fm acc s hc g hk hFc hFm ha D hs
    obtain ⟨Fc, rfl⟩ : ∃ n, Fc = n + 1 := ⟨Fc - 1, by omega⟩
    obtain ⟨Fm, rfl⟩ : ∃ n, Fm = n + 1 := ⟨Fm - 1, by omega⟩
    rw [DX9_season_l46.eq_2, DX10_season_l46.eq_2, if_pos (show (N : Int) ≤ (k : Int) by omega), if_pos (show (N : Int) ≤ (k : Int) by omega)]
    exact ⟨hc, g, acc, rfl, rfl, by rw [show N = k by omega]; exact D, fr.rf, fr.rf, by omega, fun _ => ⟨rfl, rfl⟩⟩
  | succ m ih =>
    intro k Fc Fm acc s hc g hk hFc hFm ha D hs
    obtain ⟨Fc, rfl⟩ : ∃ n, Fc = n + 1 := ⟨Fc - 1, by omega⟩
    obtain ⟨Fm, rfl⟩ : ∃ n, Fm = n + 1 := ⟨Fm - 1, by omega⟩
    have c4 : hc.1 5 14 = A 4 := D.1.2.1.1.2.2.2
    have m4 : g.1 213 4 = A 4 := D.2.2.1.1 4 (by omega)
    have w4 := cv_dd_w (A 4) s
    obtain ⟨g1, x1, s1, f1⟩ := m_drawn m4 h4
    rw [hs] at x1 s1
    rw [c_drawn c4 h4 (show ¬ (N : Int) ≤ (k : Int) by omega), DX10_season_l46.eq_2, if_neg (show ¬ (N : Int) ≤ (k : Int) by omega), x1, qbd_some]
    clear x1
    generalize cv_dd (A 4) s = ds at s1 w4 ⊢
    obtain ⟨d, s'⟩ := ds
    simp only [] at s1 w4
    have D0 : DR 24 A (T0 + k) hc g1 := D.cg (fun _ _ => rfl) rfl (f1.fn (fun k => by omega)) (f1.at 212 19 (by omega))
    have fm0 : fr Pmd g g1 := f1.mono (fun i k z => by unfold Pmd; omega)
    unfold DX9_season_b166
    show ∃ h' g', ∃ r : Nat, (qbd (DX9_whyNotDone 24 d hc) fun r1 h2 => (if ¬ r1 = 0 then (DX9_season_l46 Fc (N : Int) (acc : Int) s' (qw ((k : Int) + 1)) h2) else (qbd (DX9_doOne 24 d h2) fun r4 h5 => (qlt (qw ((acc : Int) + 1)) fun v7 => (DX9_season_l46 Fc (N : Int) v7 s' (qw ((k : Int) + 1)) h5))))) = _ ∧ _
    rw [c_whyNot D0, m_whyNotA D0, qbd_some, qbd_some, qw_s (by omega)]
    by_cases y : cv_why A g1 d = 0
    · rw [if_neg (show ¬ ¬ cv_why A g1 d = 0 from fun z => z y), if_pos y]
      obtain ⟨h2, g2, e2, x2, D2, fc2, fm2⟩ := D0.does (Or.inl rfl) (by omega) y
      have f3 := F_DX10_does _ _ _ _ x2
      rw [w4] at e2 x2
      rw [e2, x2, qbd_some, qbd_some, qlt_e, qlt_e, qw_s (by omega)]
      have D2' : DR 24 A (T0 + ((k + 1 : Nat) : Int)) h2 g2 := by
        rw [show T0 + ((k + 1 : Nat) : Int) = T0 + (k : Int) + 1 by omega]
        exact D2
      obtain ⟨h3, g3, r, e3, x3, D3, fc3, fm3, r1, r2⟩ := ih (k + 1) Fc Fm (acc + 1) s' h2 g2 (by omega) (by omega) (by omega) (by omega) D2' (by rw [f3.at 212 22 (by omega)]; exact s1)
      exact ⟨h3, g3, r, e3, x3, D3, fc2.tr fc3, (fm0.tr fm2).tr fm3, by omega, fun z => by omega⟩
    · rw [if_pos y, if_neg y]
      have D0' : DR 24 A (T0 + ((k + 1 : Nat) : Int)) hc g1 := ⟨D0.1, D0.2.1, D0.2.2.1, D0.2.2.2.grow (by omega)⟩
      obtain ⟨h3, g3, r, e3, x3, D3, fc3, fm3, r1, r2⟩ := ih (k + 1) Fc Fm acc s' hc g1 (by omega) (by omega) (by omega) (by omega) D0' s1
      exact ⟨h3, g3, r, e3, x3, D3, fc3, fm0.tr fm3, r1, fun z => ⟨(r2 z).1, by rw [(r2 z).2]; exact f1.fn (fun k => by omega)⟩⟩
theorem t_season {hc hm : qH} (R : RR n A hc hm) (hn : n ≤ 512) (s q : Int) : Out n (DX9_season s q hc) (DX10_season s q hm) := by
  have R1 := R.m0
  unfold DX9_season DX10_season
  rw [qlt_e]
  generalize qu hm 212 0 0 = hm1 at R1
  have P := R1.past
  have hr := nxs_r P
  have G := R1.1.1
  have h4 := G.2.2.1
  have c4 : hc.1 5 14 = A 4 := R1.1.2.1.1.2.2.2
  have m4 : hm1.1 213 4 = A 4 := R1.2.2.1.1 4 (by omega)
  rw [m_within, qbd_some, c4, m4]
  by_cases kq : 1 ≤ q ∧ q ≤ 40
  · rw [if_neg (show ¬ q < 1 by omega), if_pos kq.2, if_pos kq, if_pos (show ¬ (1 : Int) = 0 by decide)]
    by_cases k4 : A 4 = 0
    · rw [if_neg (show ¬ 0 < A 4 by omega), if_neg (show ¬ ¬ A 4 = 0 from fun z => z k4)]
      exact Out.of R1 rfl rfl
    · rw [if_pos (show 0 < A 4 by omega), if_pos k4]
      obtain ⟨h1, e1, w1, o1, f1⟩ := c_draft R1
      obtain ⟨g1, x1, ka, kf⟩ := m_keeps hm1
      have g13 : g1.1 213 = hm1.1 213 := kf.fn (fun k => by omega)
      have D1 : DR 24 A (99 * n + ((0 : Nat) : Int)) h1 (qu g1 212 22 s) := by
        rw [z0, Int.add_zero]
        exact R1.dr.cg (fun i hi => o1 i (by omega)) f1 (by rw [qu_ne (by decide)]; exact g13) (by rw [qu_s, up_n _ _ (by decide)]; exact kf.at 212 19 (by omega))
      obtain ⟨N, rfl⟩ := Int.eq_ofNat_of_zero_le (show 0 ≤ q by omega)
      have K := sea_l (A := A) (N := N) (by omega) (T0 := 99 * n) (by omega) k4 N 0 LF LF 0 s h1 (qu g1 212 22 s) (by omega) (by unfold LF; omega) (by unfold LF; omega) (by omega) D1 (by rw [qu_s, up_s])
      rw [z0] at K
      obtain ⟨h2, g2, r, e2, x2, D2, fc2, fm2, r1, r2⟩ := K
      have fmA : fr Pmd g1 g2 := by
        have fm0 : fr Pmd g1 (qu g1 212 22 s) := fr.mk (fun i k z => by rw [qu_1, if_neg (by unfold Pmd at z; omega)]) rfl
        exact fm0.tr fm2
      rw [e1, x1, qbd_some, qbd_some, qlt_e, e2, x2]
      by_cases k3 : r = 0
      · subst k3
        rw [z0, if_pos (show (0 : Int) ≤ 0 by decide), if_pos (show (0 : Int) ≤ 0 by decide)]
        obtain ⟨q1, q2⟩ := r2 rfl
        subst q1
        have R2 := (R1.drafted o1 f1 kf).same fmA (by rw [q2, qu_ne (by decide)]) (fun i k z p => by unfold Pmd at p; omega)
        exact Out.of R2 rfl rfl
      · rw [if_neg (show ¬ (r : Int) ≤ 0 by omega), if_neg (show ¬ (r : Int) ≤ 0 by omega)]
        have a44 : h2.1 44 = hc.1 44 := by rw [fc2.fn (i := 44) (fun k => by unfold Pcw; omega), o1 44 (by omega)]
        obtain ⟨h3, s, e4, hs, c1, c2, o2, f2⟩ := c_commit (hc := h2) (by rw [a44]; exact P.1) (by rw [a44, P.2.1]; exact P.2.2.1)
        rw [a44] at hs c1 c2
        have D3 : DR 24 A (99 * (n + 1)) h3 g2 := by
          have D2' : DR 24 A (99 * (n + 1)) h2 g2 := ⟨D2.1, D2.2.1, D2.2.2.1, D2.2.2.2.grow (by omega)⟩
          exact D2'.cg (fun i hi => o2 i (by omega)) f2 rfl rfl
        obtain ⟨g3, x4, R3, t3⟩ := R1.done (h3 := h3) w1 o1 ka kf D3 fmA hs c1 c2 (fun i a b => by rw [o2 i (by omega), fc2.fn (i := i) (fun k => by unfold Pcw; omega)]) (fun i k g => by rw [o2 i (by omega), fc2.at i k (by unfold Pcw; omega), o1 i (by omega)])
        rw [e4, x4, qbd_some, qbd_some]
        exact ⟨_, h3, g3, A, rfl, rfl, R3⟩
  · rw [if_neg kq, if_neg (show ¬ ¬ (0 : Int) = 0 by decide)]
    refine Out.of R1 (r := -3) ?_ rfl
    by_cases p1 : q < 1
    · rw [if_pos p1]
    · rw [if_neg p1, if_neg (show ¬ q ≤ 40 by omega)]
end ssn
