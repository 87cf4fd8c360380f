/-! ===== keeper, reaches, best, reachers, keepers, without ===== -/
section thr
variable {n : Int} {A : Nat → Int}
theorem c_throwerCode {h : qH} (G : cG A) (r : cR h 5 A) (f : Int) : DX9_throwerCode f h = some (if 0 ≤ f ∧ f < A 4 then (if cv_to A f = -1 then -5 else 0) else -2, h) := by
  unfold DX9_throwerCode
  rw [c_isShore G r]
  simp only [qbd_some]
  by_cases k : 0 ≤ f ∧ f < A 4
  · rw [if_pos k, if_pos k, if_pos (show ¬ (1 : Int) = 0 by decide), c_throwCell G r, if_pos k]
    simp only [qbd_some]
    (repeat' split) <;> first | rfl | contradiction
  · rw [if_neg k, if_neg k]
    rfl
theorem c_pairCode {h : qH} (G : cG A) (r : cR h 5 A) (f to : Int) : DX9_pairCode f to h = some (if (0 ≤ to ∧ to < A 4) ∧ ¬ f = to ∧ 0 ≤ f ∧ f < A 4 then (if cv_to A f = -1 then -5 else 0) else -2, h) := by
  unfold DX9_pairCode
  rw [c_isShore G r]
  simp only [qbd_some]
  by_cases k : 0 ≤ to ∧ to < A 4
  · rw [if_pos k, if_neg (show ¬ (1 : Int) = 0 by decide)]
    by_cases k2 : f = to
    · rw [if_neg (fun g => g k2), if_neg (fun g => g.2.1 k2)]
    · rw [if_pos k2, c_throwerCode G r]
      simp only [qbd_some]
      by_cases k3 : 0 ≤ f ∧ f < A 4
      · rw [if_pos k3, if_pos (show (0 ≤ to ∧ to < A 4) ∧ ¬ f = to ∧ 0 ≤ f ∧ f < A 4 from ⟨k, k2, k3⟩)]
      · rw [if_neg k3, if_neg (fun g => k3 g.2.2)]
  · rw [if_neg k, if_pos rfl, if_neg (fun g => k g.1)]
theorem m_noThrow {h : qH} (q : sq A (h.1 213)) (G : cG A) (f to : Int) : DX10_noThrow f to h = some (if (0 ≤ f ∧ f < A 4) ∧ (to = -1 ∨ (0 ≤ to ∧ to < A 4)) ∧ ¬ f = to then 0 else -2, h) := by
  unfold DX10_noThrow
  rw [m_isShoreA q G]
  simp only [qbd_some]
  by_cases k : 0 ≤ f ∧ f < A 4
  · rw [if_pos k, if_neg (show ¬ (1 : Int) = 0 by decide)]
    by_cases k1 : to = -1
    · rw [if_pos k1, if_pos (show ¬ f = to by omega), if_pos ⟨k, Or.inl k1, by omega⟩]
    · rw [if_neg k1, m_isShoreA q G]
      simp only [qbd_some]
      by_cases k3 : 0 ≤ to ∧ to < A 4
      · rw [if_pos k3, if_neg (show ¬ (1 : Int) = 0 by decide)]
        by_cases k2 : f = to
        · rw [if_neg (fun g => g k2), if_neg (fun g => g.2.2 k2)]
        · rw [if_pos k2, if_pos ⟨k, Or.inr k3, k2⟩]
      · rw [if_neg k3, if_pos rfl, if_neg (fun g => by rcases g.2.1 with g | g; exact k1 g; exact k3 g)]
  · rw [if_neg k, if_pos rfl, if_neg (fun g => k g.1)]
/-- both look at a throw -/
theorem RR.outc {hc hm : qH} {f to hv t : Int} (R : RR n A hc hm) (hf : 0 ≤ f ∧ f < A 4) (hto : cv_to A f ≠ -1) (ht : to = -1 ∨ (0 ≤ to ∧ to < A 4)) (hne : ¬ to = f) (hh : hv = 0 ∨ hv = 1) (t0 : 0 ≤ t) (t1 : t < 2000000000) :
    ∃ hc' hm' o, DX2_outcome f to hv t hc = some (o, hc') ∧ DX10_keptBy f to hv t hm = some (o % 8 - 2, hm') ∧ RR n A hc' hm' ∧ (o % 8 - 2 ≠ -1 → hm'.1 212 23 = o / 8) ∧ (1 ≤ o ∧ o ≤ 2000) := by
  have h4 := R.1.1.2.2.1
  obtain ⟨h1, e1, E1, O1⟩ := c_outcome R.1 R.2.1 hf ht hne hh t0 t1
  obtain ⟨h2, e2, g2⟩ := m_keptBy R.2.2.1.1 R.1.1 R.2.2.1.2 hf hto (to := to) (by omega) hh t0 t1
  rw [if_neg hto] at e1
  have f1 := F_DX2_outcome _ _ _ _ _ _ _ e1
  have f2 := F_DX10_keptBy _ _ _ _ _ _ _ e2
  refine ⟨h1, h2, _, e1, e2, R.keep E1 O1 f1 (fun i k g => by omega) f2 (fun i k g => by omega), g2, ?_⟩
  rcases cv_out_r R.1.1 (e := -1) (t := t) hf hto (to := to) (by omega) hh with ⟨o1, _⟩ | ⟨r, s, o1, o2, o3, o4, o5, _⟩
  · rw [o1]; decide
  · rw [o1]; omega
theorem kp_e {o : Int} (h : 1 ≤ o ∧ o ≤ 2000) (hh : qH) : DX2_keeperOf o hh = some (o % 8 - 2, hh) ∧ DX2_tidesOf o hh = some (o / 8, hh) := by
  unfold DX2_keeperOf DX2_tidesOf
  rw [qand_7, qw_e (by omega) (by omega), qshr_3 ⟨by omega, by omega⟩]
  exact ⟨rfl, rfl⟩
theorem t_keeper {hc hm : qH} (R : RR n A hc hm) (hn : n ≤ 512) {f to hv w : Int} (hh : hv = 0 ∨ hv = 1) : Out n (DX9_keeper f to hv w hc) (DX10_keeper f to hv w hm) := by
  have R1 := R.m0
  unfold DX9_keeper DX9_keeper_b19 DX10_keeper
  simp only [qlt]
  generalize qu hm 212 0 0 = hm1 at R1
  have G := R1.1.1
  have r := R1.1.2.1
  have q := R1.2.2.1.1
  have td := R1.tid
  rw [m_noThrow q G, c_pairCode G r, c_throwerCode G r]
  simp only [qbd_some]
  have hx : (if ¬ to = -1 then (if ¬ (if (0 ≤ to ∧ to < A 4) ∧ ¬ f = to ∧ 0 ≤ f ∧ f < A 4 then if cv_to A f = -1 then (-5 : Int) else 0 else -2) = -2 then if w < 0 then some (-3, hc) else if w ≤ 30 then if (if (0 ≤ to ∧ to < A 4) ∧ ¬ f = to ∧ 0 ≤ f ∧ f < A 4 then if cv_to A f = -1 then (-5 : Int) else 0 else -2) = 0 then qbd (DX2_outcome f to hv (qw (hc.1 24 2 + w)) hc) fun r1 h2 => qbd (DX2_keeperOf r1 h2) fun r4 h5 => some (r4, h5) else some (if (0 ≤ to ∧ to < A 4) ∧ ¬ f = to ∧ 0 ≤ f ∧ f < A 4 then if cv_to A f = -1 then -5 else 0 else -2, hc) else some (-3, hc) else some (-2, hc))
      else (if ¬ (if 0 ≤ f ∧ f < A 4 then if cv_to A f = -1 then (-5 : Int) else 0 else -2) = -2 then if w < 0 then some (-3, hc) else if w ≤ 30 then if (if 0 ≤ f ∧ f < A 4 then if cv_to A f = -1 then (-5 : Int) else 0 else -2) = 0 then qbd (DX2_outcome f to hv (qw (hc.1 24 2 + w)) hc) fun r1 h2 => qbd (DX2_keeperOf r1 h2) fun r4 h5 => some (r4, h5) else some (if 0 ≤ f ∧ f < A 4 then if cv_to A f = -1 then -5 else 0 else -2, hc) else some (-3, hc) else some (-2, hc)))
      = if (0 ≤ f ∧ f < A 4) ∧ (to = -1 ∨ (0 ≤ to ∧ to < A 4)) ∧ ¬ f = to then (if 0 ≤ w ∧ w ≤ 30 then (if cv_to A f = -1 then some (-5, hc) else qbd (DX2_outcome f to hv (qw (hc.1 24 2 + w)) hc) fun r1 h2 => qbd (DX2_keeperOf r1 h2) fun r4 h5 => some (r4, h5)) else some (-3, hc)) else some (-2, hc) := by
    generalize (qbd (DX2_outcome f to hv (qw (hc.1 24 2 + w)) hc) fun r1 h2 => qbd (DX2_keeperOf r1 h2) fun r4 h5 => some (r4, h5)) = Z
    (repeat' split) <;> first | rfl | omega
  rw [hx]
  by_cases k : (0 ≤ f ∧ f < A 4) ∧ (to = -1 ∨ (0 ≤ to ∧ to < A 4)) ∧ ¬ f = to
  · rw [if_pos k, if_pos k, if_pos rfl, m_within]
    simp only [qbd_some]
    by_cases w0 : 0 ≤ w ∧ w ≤ 30
    · rw [if_pos w0, if_pos w0, if_pos (show ¬ (1 : Int) = 0 by decide), m_toA q G k.1.1 k.1.2]
      simp only [qbd_some]
      by_cases c : cv_to A f = -1
      · rw [if_pos c, if_neg (fun g => g c)]
        exact Out.of R1 rfl rfl
      · rw [if_neg c, if_pos c, td.2, qw_e (by omega) (by omega)]
        obtain ⟨h1, h2, o, e1, e2, R2, _, ob⟩ := R1.outc (t := hm1.1 213 349 + w) k.1 c k.2.1 (fun g => k.2.2 g.symm) hh (by omega) (by omega)
        rw [e1, e2]
        simp only [qbd_some, (kp_e ob _).1]
        exact Out.of R2 rfl rfl
    · rw [if_neg w0, if_neg w0]
      exact Out.of R1 rfl rfl
  · rw [if_neg k, if_neg k]
    exact Out.of R1 rfl rfl
theorem t_reaches {hc hm : qH} (R : RR n A hc hm) (hn : n ≤ 512) {f to hv w : Int} (hh : hv = 0 ∨ hv = 1) : Out n (DX9_reaches f to hv w hc) (DX10_reaches f to hv w hm) := by
  have R1 := R.m0
  unfold DX9_reaches DX10_reaches
  simp only [qlt]
  generalize qu hm 212 0 0 = hm1 at R1
  have G := R1.1.1
  have r := R1.1.2.1
  have q := R1.2.2.1.1
  have td := R1.tid
  rw [m_noThrow q G, c_pairCode G r]
  simp only [qbd_some]
  by_cases k : (0 ≤ to ∧ to < A 4) ∧ ¬ f = to ∧ 0 ≤ f ∧ f < A 4
  · have k' : (0 ≤ f ∧ f < A 4) ∧ (to = -1 ∨ (0 ≤ to ∧ to < A 4)) ∧ ¬ f = to := ⟨k.2.2, Or.inr k.1, k.2.1⟩
    rw [if_pos k, if_pos k']
    rw [if_neg (show ¬ ¬ (0 : Int) = 0 by decide), if_pos (show ¬ to = -1 by omega), m_within]
    simp only [qbd_some]
    by_cases w0 : 0 ≤ w ∧ w ≤ 30
    · rw [if_pos (show ¬ (if cv_to A f = -1 then (-5 : Int) else 0) = -2 by split <;> decide), if_neg (show ¬ w < 0 by omega), if_pos w0.2, if_pos w0, if_pos (show ¬ (1 : Int) = 0 by decide), m_toA q G k'.1.1 k'.1.2]
      simp only [qbd_some]
      by_cases c : cv_to A f = -1
      · rw [if_pos c, if_neg (show ¬ (-5 : Int) = 0 by decide), if_neg (fun g => g c)]
        exact Out.of R1 rfl rfl
      · rw [if_neg c, if_pos rfl, if_pos c, td.2, qw_e (by omega) (by omega)]
        obtain ⟨h1, h2, o, e1, e2, R2, g2, ob⟩ := R1.outc (t := hm1.1 213 349 + w) k'.1 c k'.2.1 (fun g => k.2.1 g.symm) hh (by omega) (by omega)
        rw [e1, e2]
        simp only [qbd_some, (kp_e ob _).1, (kp_e ob _).2]
        by_cases o2 : o % 8 - 2 = to
        · rw [if_neg (fun g => g o2), if_neg (fun g => g o2), g2 (by omega)]
          exact Out.of R2 rfl rfl
        · rw [if_pos o2, if_pos o2]
          exact Out.of R2 rfl rfl
    · rw [if_pos (show ¬ (if cv_to A f = -1 then (-5 : Int) else 0) = -2 by split <;> decide), if_neg w0]
      by_cases p1 : w < 0
      · rw [if_pos p1]
        exact Out.of R1 rfl rfl
      · rw [if_neg p1, if_neg (show ¬ w ≤ 30 by omega)]
        exact Out.of R1 rfl rfl
  · rw [if_neg k, if_neg (show ¬ ¬ (-2 : Int) = -2 by decide)]
    by_cases k' : (0 ≤ f ∧ f < A 4) ∧ (to = -1 ∨ (0 ≤ to ∧ to < A 4)) ∧ ¬ f = to
    · have t1 : to = -1 := by
        rcases k'.2.1 with g | g
        · exact g
        · exact absurd ⟨g, k'.2.2, k'.1⟩ k
      rw [if_pos k', if_neg (show ¬ ¬ (0 : Int) = 0 by decide), if_neg (show ¬ ¬ to = -1 from fun g => g t1)]
      exact Out.of R1 rfl rfl
    · rw [if_neg k']
      exact Out.of R1 rfl rfl
/-- both look for the best throw -/
theorem RR.best {hc hm : qH} {f to t : Int} (R : RR n A hc hm) (hf : 0 ≤ f ∧ f < A 4) (ht : 0 ≤ to ∧ to < A 4) (hne : ¬ to = f) (t0 : 0 ≤ t) (t1 : t < 1000000000) :
    ∃ hc' hm' L B, DX2_soonest f to t hc = some (L, hc') ∧ DX10_bestFrom f to t hm = some (B, hm') ∧ RR n A hc' hm' ∧ sE (B, hm'.1 212 24, hm'.1 212 25) L 62 := by
  obtain ⟨h1, L, e1, E1, O1, s1⟩ := c_soonest (hm.1 212 24) (hm.1 212 25) R.1 R.2.1 hf ht hne t0 t1
  obtain ⟨h2, e2, a1, a2, a3, a4⟩ := m_bestFrom R.1.1 R.2.2.1.1 R.2.2.1.2 hf ht t0 t1
  have f1 := F_DX2_soonest _ _ _ _ _ _ e1
  have f2 := F_DX10_bestFrom _ _ _ _ _ _ e2
  refine ⟨h1, h2, L, _, e1, e2, R.keep E1 O1 f1 (fun i k g => by omega) f2 (fun i k g => by omega), ?_⟩
  rw [← a1, ← a2]
  exact s1
theorem sE.dec {B x y L : Int} (s : sE (B, x, y) L 62) : (L = -1 ↔ B = 1000000) ∧ (B ≠ 1000000 → q32 L ∧ L / 64 = B ∧ L / 2 % 32 = x ∧ L % 2 = y ∧ 1 ≤ B ∧ B ≤ 230) := by
  rcases s with ⟨a, b⟩ | ⟨a, b, c, d, e, f, g⟩
  · have a' : B = 1000000 := a
    exact ⟨⟨fun _ => a', fun _ => b⟩, fun q => absurd a' q⟩
  · have a' : L = B * 64 + x * 2 + y := a
    have b' : 0 ≤ x := b
    have c' : x + 1 ≤ B := c
    have d' : B ≤ 230 := d
    have e' : y = 0 ∨ y = 1 := e
    have f' : x ≤ 30 := f
    refine ⟨⟨fun q => by omega, fun q => by omega⟩, fun _ => ⟨⟨by omega, by omega⟩, by omega, by omega, by omega, by omega, d'⟩⟩
theorem t_best {hc hm : qH} (R : RR n A hc hm) (hn : n ≤ 512) (f to w : Int) : Out n (DX9_best f to w hc) (DX10_best f to w hm) := by
  have R1 := R.m0
  unfold DX9_best DX10_best
  simp only [qlt]
  generalize qu hm 212 0 0 = hm1 at R1
  have G := R1.1.1
  have r := R1.1.2.1
  have q := R1.2.2.1.1
  have td := R1.tid
  rw [m_noThrow q G, c_pairCode G r]
  simp only [qbd_some]
  by_cases k : (0 ≤ to ∧ to < A 4) ∧ ¬ f = to ∧ 0 ≤ f ∧ f < A 4
  · have k' : (0 ≤ f ∧ f < A 4) ∧ (to = -1 ∨ (0 ≤ to ∧ to < A 4)) ∧ ¬ f = to := ⟨k.2.2, Or.inr k.1, k.2.1⟩
    rw [if_pos k, if_pos k']
    rw [if_neg (show ¬ ¬ (0 : Int) = 0 by decide), if_neg (show ¬ to = -1 by omega), m_within]
    simp only [qbd_some]
    rw [if_neg (show ¬ (if cv_to A f = -1 then (-5 : Int) else 0) = -2 by split <;> decide)]
    by_cases w0 : 0 ≤ w ∧ w ≤ 2
    · rw [if_neg (show ¬ w < 0 by omega), if_pos w0.2, if_pos w0, if_pos (show ¬ (1 : Int) = 0 by decide), m_toA q G k'.1.1 k'.1.2]
      simp only [qbd_some]
      by_cases c : cv_to A f = -1
      · rw [if_pos c, if_neg (show ¬ (-5 : Int) = 0 by decide), if_neg (fun g => g c)]
        exact Out.of R1 rfl rfl
      · rw [if_neg c, if_pos rfl, if_pos c, td.2]
        obtain ⟨h1, h2, L, B, e1, e2, R2, s2⟩ := R1.best (t := hm1.1 213 349) k.2.2 k.1 (fun g => k.2.1 g.symm) (by omega) (by omega)
        rw [e1, e2]
        simp only [qbd_some]
        obtain ⟨d1, d2⟩ := s2.dec
        by_cases z : B = 1000000
        · rw [if_neg (fun g => g (d1.mpr z)), if_neg (fun g => g z)]
          exact Out.of R2 rfl rfl
        · obtain ⟨l0, l1, l2, l3, _, _⟩ := d2 z
          rw [if_pos (fun g => z (d1.mp g)), if_pos z]
          unfold DX2_weightOf DX2_waitOf DX2_arrivalOf
          simp only [qbd_some]
          rw [qand_1, qand_31, qshr_1 l0, qshr_6 l0, l1, l2, l3]
          by_cases w1 : w = 0
          · rw [if_neg (fun g => g w1), if_neg (fun g => g w1)]
            exact Out.of R2 rfl rfl
          · rw [if_pos w1, if_pos w1]
            by_cases w2 : w = 1
            · rw [if_neg (fun g => g w2), if_neg (fun g => g w2)]
              exact Out.of R2 rfl rfl
            · rw [if_pos w2, if_pos w2]
              exact Out.of R2 rfl rfl
    · rw [if_neg w0]
      by_cases p1 : w < 0
      · rw [if_pos p1]
        exact Out.of R1 rfl rfl
      · rw [if_neg p1, if_neg (show ¬ w ≤ 2 by omega)]
        exact Out.of R1 rfl rfl
  · rw [if_neg k, if_pos rfl]
    by_cases k' : (0 ≤ f ∧ f < A 4) ∧ (to = -1 ∨ (0 ≤ to ∧ to < A 4)) ∧ ¬ f = to
    · have t1 : to = -1 := by
        rcases k'.2.1 with g | g
        · exact g
        · exact absurd ⟨g, k'.2.2, k'.1⟩ k
      rw [if_pos k', if_neg (show ¬ ¬ (0 : Int) = 0 by decide), if_pos t1]
      exact Out.of R1 rfl rfl
    · rw [if_neg k']
      exact Out.of R1 rfl rfl
end thr
