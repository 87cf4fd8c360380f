/-! ===== eddy ===== -/
theorem cv_step_5 (A : Nat → Int) (way x : Int) (v : Nat → Int) : cv_step A way (up v 5 x) = up (cv_step A way v) 5 x := by
  unfold cv_step
  rw [up_n v (j := 1) x (by decide)]
  split
  · rfl
  · funext j
    unfold up
    (repeat' split) <;> first | rfl | omega
theorem cv_go_5 (A : Nat → Int) (t x : Int) (v : Nat → Int) : cv_go A t (up v 5 x) = up (cv_go A t v) 5 x := by
  have e1 : ∀ v, cv_cur A t (up v 5 x) = up (cv_cur A t v) 5 x := by
    intro v
    unfold cv_cur
    rw [up_n v (j := 1) x (by decide), up_n v (j := 0) x (by decide), cv_step_5]
    split <;> rfl
  have e2 : ∀ v, cv_cur2 A t (up v 5 x) = up (cv_cur2 A t v) 5 x := by
    intro v
    unfold cv_cur2
    rw [e1]
    split <;> rfl
  have e3 : ∀ v, cv_blow A t (up v 5 x) = up (cv_blow A t v) 5 x := by
    intro v
    unfold cv_blow
    rw [up_n v (j := 1) x (by decide), up_n v (j := 0) x (by decide), up_n v (j := 4) x (by decide), cv_step_5]
    split <;> rfl
  unfold cv_go
  rw [e1, e2, e3]
theorem cv_tide_e0 {A : Nat → Int} {e t : Int} {w : Nat → Int} (h0 : w 0 = 0) (g : cv_go A t w 0 = 0) : cv_tide A e t true w = up (cv_go A t w) 5 (cv_go A t w 5 + 1) := by
  unfold cv_tide
  rw [if_pos (Or.inl h0), if_pos (Or.inl g)]
  have ea : cv_age A true (cv_go A t w) = up (cv_go A t w) 5 (cv_go A t w 5 + 1) := by
    unfold cv_age
    rw [if_neg (by rintro ⟨_, q, _⟩; cases q)]
  rw [ea]
  unfold cv_end
  rw [if_neg (by rw [up_n _ _ (by decide), g]; decide)]
theorem cv_tide_e1 {A : Nat → Int} {e t : Int} {w : Nat → Int} (h0 : w 0 = 0) (h3 : w 3 = -1) (g : ¬ cv_go A t w 0 = 0) : ¬ cv_tide A e t true w 0 = 0 := by
  unfold cv_tide
  rw [if_pos (Or.inl h0)]
  by_cases q : cv_go A t w 0 = 0 ∨ cv_go A t w 0 = 1
  · have g1 : cv_go A t w 0 = 1 := by omega
    rw [if_pos q]
    have ea : cv_age A true (cv_go A t w) = up (cv_go A t w) 5 (cv_go A t w 5 + 1) := by
      unfold cv_age
      rw [if_neg (by rintro ⟨_, q, _⟩; cases q)]
    have s0 : (cv_age A true (cv_go A t w)) 0 = 1 := by rw [ea, up_n _ _ (by decide), g1]
    have s3 : (cv_age A true (cv_go A t w)) 3 = -1 := by rw [ea, up_n _ _ (by decide), cv_go_o (by decide), h3]
    unfold cv_end
    rw [if_pos s0]
    unfold cv_find
    split
    · rw [s0]
      decide
    · have kk : cv_keeps A (cv_age A true (cv_go A t w)) (cv_sh A (cv_age A true (cv_go A t w))) (cv_ph A t) := Or.inr (Or.inl s3)
      rw [if_pos kk, up_n _ _ (by decide), up_s]
      decide
  · rw [if_neg q]
    exact g
theorem emod_sh {T k m : Int} (hm : 0 < m) : (T + k) % m = T % m ↔ k % m = 0 := by
  rw [Int.emod_eq_emod_iff_emod_sub_eq_zero, show T + k - T = k by omega]
section edd
variable {n : Int} {A : Nat → Int}
theorem t_ed_l {c : Int} (hn : n ≤ 512) : ∀ (m k Fc Fm : Nat) (N x : Int) (v : Nat → Int) (hc hm : qH), k + m = 201 → 1 ≤ k → m < Fc → m < Fm → RR n A hc hm → nb (hc.1 156) = v → nb (hm.1 217) = up v 5 x → v 0 = 0 → v 3 = -1 → cB A N v → cB A N (up v 5 x) → N + m < 1000000 → Out n (DX9_eddy_l41 Fc c (k : Int) hc) (DX10_eddy_l38 Fm c (k : Int) hm) := by
  intro m
  induction m with
  | zero =>
    intro k Fc Fm N x v hc hm hk h1 hFc hFm R v1 v2 s0 s3 b b2 hN
    obtain ⟨Fc, rfl⟩ : ∃ n, Fc = n + 1 := ⟨Fc - 1, by omega⟩
    obtain ⟨Fm, rfl⟩ : ∃ n, Fm = n + 1 := ⟨Fm - 1, by omega⟩
    rw [DX9_eddy_l41.eq_2, DX10_eddy_l38.eq_2, if_pos (by omega), if_pos (by omega)]
    exact Out.of R rfl rfl
  | succ m ih =>
    intro k Fc Fm N x v hc hm hk h1 hFc hFm R v1 v2 s0 s3 b b2 hN
    obtain ⟨Fc, rfl⟩ : ∃ n, Fc = n + 1 := ⟨Fc - 1, by omega⟩
    obtain ⟨Fm, rfl⟩ : ∃ n, Fm = n + 1 := ⟨Fm - 1, by omega⟩
    have td := R.tid
    have G := R.1.1
    have h3 := G.2.1
    have h5 := G.2.2.2.1
    obtain ⟨t, ht⟩ : ∃ t, t = hm.1 213 349 + (k : Int) - 1 := ⟨_, rfl⟩
    obtain ⟨hh, e1, w1, W1⟩ := c_go R.1 (i := 156) (t := t) (Or.inr (by omega)) (cB_bn (by rw [v1]; exact b)) (by omega) (by omega)
    obtain ⟨hg, e2, w2, g13, g19⟩ := m_tideN (c := true) (a2 := 1) (t := t) R.2.2.1.1 G rfl R.2.2.1.2 v2 b2 (by omega) (by omega) (by omega)
    have f1 := F_DX2_go _ _ _ _ _ e1
    have f2 := F_DX10_goesTide _ _ _ _ _ e2
    have R2 : RR n A hh hg := R.keep (R.1.kp f1 (fun i k a b => by omega) W1) (R.2.1.cg (f1.fn (fun k => by omega)) (f1.2.2.1 (by omega))) f1 (fun i k g => by omega) f2 (fun i k g => by omega)
    have w1' : nb (hh.1 156) = cv_go A t v := by rw [w1, cv_go_nb, v1]
    have u0 : (up v 5 x) 0 = 0 := by rw [up_n _ _ (by decide), s0]
    have u3 : (up v 5 x) 3 = -1 := by rw [up_n _ _ (by decide), s3]
    have eg : cv_go A t (up v 5 x) = up (cv_go A t v) 5 x := cv_go_5 A t x v
    rw [DX9_eddy_l41.eq_2, DX10_eddy_l38.eq_2, if_neg (show ¬ 200 < (k : Int) by omega), if_neg (show ¬ 200 < (k : Int) by omega), td.2, qw_e (x := hm.1 213 349 + (k : Int)) (by omega) (by omega), ← ht, qw_e (x := t) (by omega) (by omega), e1, e2]
    simp only [qbd_some]
    have a0 : hh.1 156 0 = cv_go A t v 0 := by rw [← w1', nb_at _ (by decide)]
    have a1 : hh.1 156 1 = cv_go A t v 1 := by rw [← w1', nb_at _ (by decide)]
    have b0 : hg.1 217 0 = cv_tide A (-1) t true (up v 5 x) 0 := by rw [← w2, nb_at _ (by decide)]
    have b1 : hg.1 217 1 = cv_tide A (-1) t true (up v 5 x) 1 := by rw [← w2, nb_at _ (by decide)]
    rw [a0, a1, b0, b1]
    by_cases q : cv_go A t v 0 = 0
    · have qe : cv_go A t (up v 5 x) 0 = 0 := by rw [eg, up_n _ _ (by decide), q]
      have et := cv_tide_e0 (e := -1) u0 qe
      have et2 : cv_tide A (-1) t true (up v 5 x) = up (cv_go A t v) 5 (x + 1) := by
        rw [et, eg, up_s]
        funext j
        unfold up
        (repeat' split) <;> rfl
      have nx : Out n (DX9_eddy_l41 Fc c ((k + 1 : Nat) : Int) hh) (DX10_eddy_l38 Fm c ((k + 1 : Nat) : Int) hg) := by
        refine ih (k + 1) Fc Fm (N + 1) (x + 1) (cv_go A t v) hh hg (by omega) (by omega) (by omega) (by omega) R2 w1' (by rw [w2, et2]) q (by rw [cv_go_o (by decide), s3]) ((cB_go G b).grow (by omega)) ?_ (by omega)
        rw [← et2]
        exact cB_tide G b2
      have tg : hg.1 213 349 = hm.1 213 349 := by rw [g13]
      have y0 : up (cv_go A t v) 5 (x + 1) 0 = cv_go A t v 0 := up_n _ _ (by decide)
      have y1 : up (cv_go A t v) 5 (x + 1) 1 = cv_go A t v 1 := up_n _ _ (by decide)
      rw [et2, y0, y1, if_pos q, if_pos q, qw_s (by omega)]
      by_cases q1 : cv_go A t v 1 = c
      · rw [if_neg (show ¬ ¬ cv_go A t v 1 = c from fun g => g q1), if_neg (show ¬ ¬ cv_go A t v 1 = c from fun g => g q1), c_phase G R2.1.2.1 (by omega) (by omega), qw_e (x := hg.1 213 349 + (k : Int)) (by omega) (by omega), m_phaseA R2.2.2.1.1 G (by omega) (by omega)]
        simp only [qbd_some]
        rw [m_phaseA R2.2.2.1.1 G (by omega) (by omega)]
        simp only [qbd_some]
        have ep : (cv_ph A (hg.1 213 349 + (k : Int)) = cv_ph A (hg.1 213 349)) ↔ cv_ph A (k : Int) = 0 := by
          unfold cv_ph
          exact emod_sh (by omega)
        by_cases q2 : cv_ph A (k : Int) = 0
        · rw [if_neg (show ¬ ¬ cv_ph A (k : Int) = 0 from fun g => g q2), if_neg (show ¬ ¬ cv_ph A (hg.1 213 349 + (k : Int)) = cv_ph A (hg.1 213 349) from fun g => g (ep.mpr q2)), c_moon G R2.1.2.1 (by omega) (by omega), qw_e (x := hg.1 213 349 + (k : Int)) (by omega) (by omega), m_moonA R2.2.2.1.1 G (by omega) (by omega)]
          simp only [qbd_some]
          rw [m_moonA R2.2.2.1.1 G (by omega) (by omega)]
          simp only [qbd_some]
          have em : (cv_mo A (hg.1 213 349 + (k : Int)) = cv_mo A (hg.1 213 349)) ↔ cv_mo A (k : Int) = 0 := by
            unfold cv_mo
            by_cases m5 : A 5 = 0
            · rw [if_pos m5, if_pos m5, if_pos m5]
            · rw [if_neg m5, if_neg m5, if_neg m5]
              exact emod_sh (by omega)
          by_cases q3 : cv_mo A (k : Int) = 0
          · rw [if_neg (show ¬ ¬ cv_mo A (k : Int) = 0 from fun g => g q3), if_neg (show ¬ ¬ cv_mo A (hg.1 213 349 + (k : Int)) = cv_mo A (hg.1 213 349) from fun g => g (em.mpr q3))]
            exact Out.of R2 rfl rfl
          · rw [if_pos q3, if_pos (show ¬ cv_mo A (hg.1 213 349 + (k : Int)) = cv_mo A (hg.1 213 349) from fun g => q3 (em.mp g))]
            exact nx
        · rw [if_pos q2, if_pos (show ¬ cv_ph A (hg.1 213 349 + (k : Int)) = cv_ph A (hg.1 213 349) from fun g => q2 (ep.mp g))]
          exact nx
      · rw [if_pos q1, if_pos q1]
        exact nx
    · have qe : ¬ cv_go A t (up v 5 x) 0 = 0 := by rw [eg, up_n _ _ (by decide)]; exact q
      rw [if_neg q, if_neg (cv_tide_e1 u0 u3 qe)]
      exact Out.of R2 rfl rfl
theorem t_eddy {hc hm : qH} (R : RR n A hc hm) (hn : n ≤ 512) {a1 : Int} (k : Int) (ha : a1 = 0 ∨ a1 = 1) : Out n (DX9_eddy k a1 hc) (DX10_eddy k a1 hm) := by
  have R1 := R.m0
  unfold DX9_eddy DX10_eddy
  simp only [qlt]
  generalize qu hm 212 0 0 = hm1 at R1
  have G := R1.1.1
  have r := R1.1.2.1
  have q := R1.2.2.1.1
  rw [c_isCell G r, m_isCellA q G]
  simp only [qbd_some]
  by_cases k0 : 0 ≤ k ∧ k < A 1 * A 2
  · rw [if_pos k0, if_pos (show ¬ (1 : Int) = 0 by decide), if_pos (show ¬ (1 : Int) = 0 by decide), c_isOpen G r, m_isOpenA q G k0]
    simp only [qbd_some]
    by_cases o : A (14 + k.toNat) = 0
    · rw [if_pos (show 0 ≤ k ∧ k < A 1 * A 2 ∧ A (14 + k.toNat) = 0 from ⟨k0.1, k0.2, o⟩), if_pos o, if_pos (show ¬ (1 : Int) = 0 by decide), if_pos (show ¬ (1 : Int) = 0 by decide)]
      obtain ⟨h1, h2, e1, e2, R2, v1, v2⟩ := R1.throw (f := -1) (to := -1) (hv := a1) (k := k) (i := 156) (by omega) ha
      have bv : cB A 0 (cv_new (-1) (-1) a1 k) := cB_new k0 o (by decide) (by decide) ha
      rw [e1, e2]
      simp only [qbd_some]
      have e5 : up (cv_new (-1) (-1) a1 k) 5 0 = cv_new (-1) (-1) a1 k := up_same rfl
      have K := t_ed_l (c := k) hn 200 1 LF LF 0 0 (cv_new (-1) (-1) a1 k) h1 h2 rfl (by omega) (by unfold LF; omega) (by unfold LF; omega) R2 v1 (by rw [e5]; exact v2) rfl rfl bv (by rw [e5]; exact bv) (by omega)
      rw [show ((1 : Nat) : Int) = 1 from rfl] at K
      exact K
    · rw [if_neg (show ¬ (0 ≤ k ∧ k < A 1 * A 2 ∧ A (14 + k.toNat) = 0) from fun g => o g.2.2), if_neg o]
      exact Out.of R1 rfl rfl
  · rw [if_neg k0]
    exact Out.of R1 rfl rfl
end edd
