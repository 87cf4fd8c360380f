section thr2
variable {n : Int} {A : Nat → Int}
theorem t_ks_l {w : Int} (hw : 0 ≤ w ∧ w ≤ 30) (hn : n ≤ 512) {T : Nat} (hT : A 4 = T) : ∀ (m k Fc Fm : Nat) (acc : Int) (hc hm : qH), k + m = T → m < Fc → m < Fm → RR n A hc hm → Out n (DX9_keepers_l17 Fc w acc (k : Int) hc) (DX10_keepers_l24 Fm w acc (k : Int) hm) := by
  intro m
  induction m with
  | zero =>
    intro k Fc Fm acc hc hm hk hFc hFm R
    obtain ⟨Fc, rfl⟩ : ∃ n, Fc = n + 1 := ⟨Fc - 1, by omega⟩
    obtain ⟨Fm, rfl⟩ : ∃ n, Fm = n + 1 := ⟨Fm - 1, by omega⟩
    rw [DX9_keepers_l17.eq_2, DX10_keepers_l24.eq_2, R.1.2.1.1.2.2.2, R.2.2.1.1 4 (by omega), if_pos (by omega), if_pos (by omega)]
    exact Out.of R rfl rfl
  | succ m ih =>
    intro k Fc Fm acc hc hm hk hFc hFm R
    obtain ⟨Fc, rfl⟩ : ∃ n, Fc = n + 1 := ⟨Fc - 1, by omega⟩
    obtain ⟨Fm, rfl⟩ : ∃ n, Fm = n + 1 := ⟨Fm - 1, by omega⟩
    have G := R.1.1
    have h4 := G.2.2.1
    have td := R.tid
    have hf : 0 ≤ (k : Int) ∧ (k : Int) < A 4 := by omega
    rw [DX9_keepers_l17.eq_2, DX10_keepers_l24.eq_2, R.1.2.1.1.2.2.2, R.2.2.1.1 4 (by omega), if_neg (show ¬ A 4 ≤ (k : Int) by omega), if_neg (show ¬ A 4 ≤ (k : Int) by omega), m_toA R.2.2.1.1 G hf.1 hf.2, td.2, qw_e (x := hm.1 213 349 + w) (by omega) (by omega), qw_s (by omega)]
    simp only [qbd_some]
    unfold DX10_keepers_b64
    by_cases c : cv_to A (k : Int) = -1
    · obtain ⟨h1, e1, E1, O1⟩ := c_outcome (f := (k : Int)) (to := -1) (hv := 0) (t := hm.1 213 349 + w) R.1 R.2.1 hf (Or.inl rfl) (by omega) (Or.inl rfl) (by omega) (by omega)
      rw [if_pos c] at e1
      have f1 := F_DX2_outcome _ _ _ _ _ _ _ e1
      have R2 : RR n A h1 hm := R.keep E1 O1 f1 (fun i k g => by omega) (fr.rf (P := fun _ _ => False)) (fun _ _ _ g => g)
      rw [e1, if_neg (show ¬ ¬ cv_to A (k : Int) = -1 from fun g => g c), if_pos rfl]
      simp only [qbd_some, (kp_e (o := 1) (by decide) _).1]
      rw [if_pos (by decide), qw_s (by omega)]
      exact ih (k + 1) Fc Fm acc h1 hm (by omega) (by omega) (by omega) R2
    · obtain ⟨h1, h2, o, e1, e2, R2, g2, ob⟩ := R.outc (f := (k : Int)) (to := -1) (hv := 0) (t := hm.1 213 349 + w) hf c (Or.inl rfl) (by omega) (Or.inl rfl) (by omega) (by omega)
      rw [e1, if_pos c, qw_e (x := hm.1 213 349 + w) (by omega) (by omega), e2]
      simp only [qbd_some, (kp_e ob _).1, qlt]
      rw [qw_s (by omega)]
      by_cases z : o % 8 - 2 = -1
      · rw [if_pos z, if_pos z]
        exact ih (k + 1) Fc Fm acc h1 h2 (by omega) (by omega) (by omega) R2
      · rw [if_neg z, if_neg z]
        exact ih (k + 1) Fc Fm _ h1 h2 (by omega) (by omega) (by omega) R2
theorem t_keepers {hc hm : qH} (R : RR n A hc hm) (hn : n ≤ 512) (w : Int) : Out n (DX9_keepers w hc) (DX10_keepers w hm) := by
  have R1 := R.m0
  unfold DX9_keepers DX10_keepers
  simp only [qlt]
  generalize qu hm 212 0 0 = hm1 at R1
  have h4 := R1.1.1.2.2.1
  rw [m_within]
  simp only [qbd_some]
  by_cases w0 : 0 ≤ w ∧ w ≤ 30
  · rw [if_neg (show ¬ w < 0 by omega), if_pos w0.2, if_pos w0, if_pos (show ¬ (1 : Int) = 0 by decide)]
    have K := t_ks_l w0 hn (T := (A 4).toNat) (by omega) (A 4).toNat 0 LF LF 0 hc hm1 (by omega) (by unfold LF; omega) (by unfold LF; omega) R1
    rw [z0] at K
    exact K
  · rw [if_neg w0]
    by_cases p1 : w < 0
    · rw [if_pos p1]
      exact Out.of R1 rfl rfl
    · rw [if_neg p1, if_neg (show ¬ w ≤ 30 by omega)]
      exact Out.of R1 rfl rfl
theorem t_rs_l {to : Int} (ht : 0 ≤ to ∧ to < A 4) (hn : n ≤ 512) {T : Nat} (hT : A 4 = T) : ∀ (m k Fc Fm : Nat) (acc : Int) (hc hm : qH), k + m = T → m < Fc → m < Fm → RR n A hc hm → Out n (DX9_reachers_l18 Fc to acc (k : Int) hc) (DX10_reachers_l21 Fm to acc (k : Int) hm) := by
  intro m
  induction m with
  | zero =>
    intro k Fc Fm acc hc hm hk hFc hFm R
    obtain ⟨Fc, rfl⟩ : ∃ n, Fc = n + 1 := ⟨Fc - 1, by omega⟩
    obtain ⟨Fm, rfl⟩ : ∃ n, Fm = n + 1 := ⟨Fm - 1, by omega⟩
    rw [DX9_reachers_l18.eq_2, DX10_reachers_l21.eq_2, R.1.2.1.1.2.2.2, R.2.2.1.1 4 (by omega), if_pos (by omega), if_pos (by omega)]
    exact Out.of R rfl rfl
  | succ m ih =>
    intro k Fc Fm acc hc hm hk hFc hFm R
    obtain ⟨Fc, rfl⟩ : ∃ n, Fc = n + 1 := ⟨Fc - 1, by omega⟩
    obtain ⟨Fm, rfl⟩ : ∃ n, Fm = n + 1 := ⟨Fm - 1, by omega⟩
    have G := R.1.1
    have h4 := G.2.2.1
    have td := R.tid
    have hf : 0 ≤ (k : Int) ∧ (k : Int) < A 4 := by omega
    rw [DX9_reachers_l18.eq_2, DX10_reachers_l21.eq_2, R.1.2.1.1.2.2.2, R.2.2.1.1 4 (by omega), if_neg (show ¬ A 4 ≤ (k : Int) by omega), if_neg (show ¬ A 4 ≤ (k : Int) by omega), td.2, qw_s (by omega)]
    by_cases e : (k : Int) = to
    · rw [if_pos e, if_pos e]
      exact ih (k + 1) Fc Fm acc hc hm (by omega) (by omega) (by omega) R
    · rw [if_neg e, if_neg e]
      obtain ⟨h1, h2, L, B, e1, e2, R2, s2⟩ := R.best (f := (k : Int)) (to := to) (t := hm.1 213 349) hf ht (fun g => e g.symm) (by omega) (by omega)
      obtain ⟨d1, _⟩ := s2.dec
      rw [e1, e2]
      simp only [qbd_some, qlt]
      by_cases z : B = 1000000
      · rw [if_pos (d1.mpr z), if_pos z]
        exact ih (k + 1) Fc Fm acc h1 h2 (by omega) (by omega) (by omega) R2
      · rw [if_neg (fun g => z (d1.mp g)), if_neg z]
        exact ih (k + 1) Fc Fm _ h1 h2 (by omega) (by omega) (by omega) R2
theorem t_reachers {hc hm : qH} (R : RR n A hc hm) (hn : n ≤ 512) (to : Int) : Out n (DX9_reachers to hc) (DX10_reachers to hm) := by
  have R1 := R.m0
  unfold DX9_reachers DX10_reachers
  simp only [qlt]
  generalize qu hm 212 0 0 = hm1 at R1
  have h4 := R1.1.1.2.2.1
  rw [c_isShore R1.1.1 R1.1.2.1, m_isShoreA R1.2.2.1.1 R1.1.1]
  simp only [qbd_some]
  by_cases k : 0 ≤ to ∧ to < A 4
  · rw [if_pos k, if_pos (show ¬ (1 : Int) = 0 by decide), if_pos (show ¬ (1 : Int) = 0 by decide)]
    have K := t_rs_l k hn (T := (A 4).toNat) (by omega) (A 4).toNat 0 LF LF 0 hc hm1 (by omega) (by unfold LF; omega) (by unfold LF; omega) R1
    rw [z0] at K
    exact K
  · rw [if_neg k]
    exact Out.of R1 rfl rfl
theorem t_without {hc hm : qH} (R : RR n A hc hm) (hn : n ≤ 512) (f to s : Int) : Out n (DX9_without f to s hc) (DX10_without f to s hm) := by
  have R1 := R.m0
  unfold DX9_without DX10_without
  simp only [qlt]
  generalize qu hm 212 0 0 = hm1 at R1
  have G := R1.1.1
  have r := R1.1.2.1
  have q := R1.2.2.1.1
  have td := R1.tid
  rw [m_noThrow q G, c_pairCode G r]
  simp only [qbd_some]
  by_cases k : (0 ≤ to ∧ to < A 4) ∧ ¬ f = to ∧ 0 ≤ f ∧ f < A 4
  · have k' : (0 ≤ f ∧ f < A 4) ∧ (to = -1 ∨ (0 ≤ to ∧ to < A 4)) ∧ ¬ f = to := ⟨k.2.2, Or.inr k.1, k.2.1⟩
    rw [if_pos k, if_pos k', if_neg (show ¬ ¬ (0 : Int) = 0 by decide), if_neg (show ¬ to = -1 by omega), if_neg (show ¬ (if cv_to A f = -1 then (-5 : Int) else 0) = -2 by split <;> decide), c_isShore G r, m_isShoreA q G]
    simp only [qbd_some]
    by_cases ks : 0 ≤ s ∧ s < A 4
    · rw [if_pos ks, if_neg (show ¬ (1 : Int) = 0 by decide), if_neg (show ¬ (1 : Int) = 0 by decide)]
      by_cases s1 : s = f
      · rw [if_pos s1, if_pos s1]
        exact Out.of R1 rfl rfl
      · rw [if_neg s1, if_neg s1]
        by_cases s2 : s = to
        · rw [if_neg (show ¬ ¬ s = to from fun g => g s2), if_neg (show ¬ ¬ s = to from fun g => g s2)]
          exact Out.of R1 rfl rfl
        · rw [if_pos s2, if_pos s2, m_toA q G k'.1.1 k'.1.2]
          simp only [qbd_some]
          by_cases c : cv_to A f = -1
          · rw [if_pos c, if_neg (show ¬ (-5 : Int) = 0 by decide), if_neg (show ¬ ¬ cv_to A f = -1 from fun g => g c)]
            exact Out.of R1 rfl rfl
          · rw [if_neg c, if_pos rfl, if_pos c, td.2]
            obtain ⟨h1, h2, L, B, e1, e2, R2, st⟩ := R1.best (t := hm1.1 213 349) k.2.2 k.1 (fun g => k.2.1 g.symm) (by omega) (by omega)
            obtain ⟨d1, d2⟩ := st.dec
            have td2 := R2.tid
            rw [e1, e2]
            simp only [qbd_some]
            have a13 : (qu h2 212 19 s).1 213 = h2.1 213 := qu_ne (by decide)
            obtain ⟨h4, e4, b1, b2, b3, b4⟩ := m_bestFrom (h := qu h2 212 19 s) (e := s) (f := f) (to := to) (t := h2.1 213 349) G (by rw [a13]; exact R2.2.2.1.1) (by rw [qu_s, up_s]) k.2.2 k.1 (by omega) (by omega)
            have f4 := F_DX10_bestFrom _ _ _ _ _ _ e4
            have m4 : fr (fun i k => (i = 212 ∧ k = 19) ∨ (i = 212 ∧ k = 18) ∨ (i = 212 ∧ 23 ≤ k ∧ k ≤ 25) ∨ (217 ≤ i ∧ i ≤ 218)) h2 (qu h4 212 19 (-1)) := by
              refine ⟨fun i k g => ?_, fun _ => f4.2.1 (by omega), fun _ => f4.2.2.1 (by omega), fun _ => f4.2.2.2 (by omega)⟩
              rw [qu_1, if_neg (by omega), f4.at i k (by omega), qu_1, if_neg (by omega)]
            have R4m : ∀ hc', cE hc' A (-1) → cO hc' A → (∀ i k, (i ≤ 1 ∨ (i = 2 ∧ 1 ≤ k ∧ k < 3) ∨ (24 ≤ i ∧ i ≤ 33) ∨ (44 ≤ i ∧ i ≤ 155) ∨ (167 ≤ i ∧ i < 212)) → hc'.1 i k = h1.1 i k) → RR n A hc' (qu h4 212 19 (-1)) := by
              intro hc' E' O' cc
              obtain ⟨r1, r2, ⟨r3, r3'⟩, r4, r5, r6, r7, r8, r9⟩ := R2
              have c : ∀ i, (i ≤ 1 ∨ (24 ≤ i ∧ i ≤ 33) ∨ (44 ≤ i ∧ i ≤ 155) ∨ (167 ≤ i ∧ i < 212)) → hc'.1 i = h1.1 i := fun i hi => funext (fun k => cc i k (by omega))
              have m : ∀ i, ((213 ≤ i ∧ i ≤ 215) ∨ (222 ≤ i ∧ i ≤ 224)) → (qu h4 212 19 (-1)).1 i = h2.1 i := fun i hi => m4.fn (fun k => by omega)
              have m13 := m 213 (by omega)
              refine ⟨E', O', ⟨by rw [m13]; exact r3, by rw [qu_s, up_s]⟩, ?_, r5.cg (fun i a b => c i (by omega)) m13, r6.cg (cc 0 1 (by omega)) (c 1 (by omega)) (m4.at 212 5 (by omega)) (m 215 (by omega)), r7.cg (cc 2 1 (by omega)) (cc 2 2 (by omega)) (m4.at 212 13 (by omega)) (m4.at 212 14 (by omega)), r8.cg (fun i a b => c i (by omega)) (m 222 (by omega)) (m 223 (by omega)) (m 224 (by omega)), r9.cg (fun i a b => c i (by omega)) m13 (m 214 (by omega))⟩
              rw [m13]
              exact r4.cg (fun i a b => c i (by omega))
            have a349 : (qu h2 212 19 s).1 213 349 = h2.1 213 349 := by rw [a13]
            by_cases z : B = 1000000
            · rw [if_neg (show ¬ ¬ L = -1 from fun g => g (d1.mpr z)), a349, e4]
              simp only [qbd_some]
              rw [if_pos z]
              exact Out.of (R4m h1 R2.1 R2.2.1 (fun _ _ _ => rfl)) rfl rfl
            · obtain ⟨l0, l1, _, _, l4, l5⟩ := d2 z
              rw [if_pos (show ¬ L = -1 from fun g => z (d1.mp g)), a349, e4]
              simp only [qbd_some]
              rw [if_neg z]
              have Es : cE (qu h1 4 6 s) A s := ⟨G, R2.1.2.1.cg (fun i a b => qu_ne (by omega)), by rw [qu_s, up_s], R2.1.2.2.2.cg (qu_ne (by decide)) rfl⟩
              have Os : cO (qu h1 4 6 s) A := R2.2.1.cg (qu_ne (by decide)) rfl
              obtain ⟨h3, L3, e3, E3, O3, s3⟩ := c_soonest (t := h2.1 213 349) ((qu h2 212 19 s).1 212 24) ((qu h2 212 19 s).1 212 25) Es Os k.2.2 k.1 (fun g => k.2.1 g.symm) (by omega) (by omega)
              have f3 := F_DX2_soonest _ _ _ _ _ _ e3
              have a24 : (qu h1 4 6 s).1 24 2 = h2.1 213 349 := by rw [qu_ne (by decide)]; exact td2.2
              rw [a24, e3]
              simp only [qbd_some]
              have R5 : RR n A (qu h3 4 6 (-1)) (qu h4 212 19 (-1)) := by
                refine R4m _ ⟨G, E3.2.1.cg (fun i a b => qu_ne (by omega)), by rw [qu_s, up_s], E3.2.2.2.cg (qu_ne (by decide)) rfl⟩ (O3.cg (qu_ne (by decide)) rfl) (fun i k g => ?_)
                rw [qu_1, if_neg (by omega), f3.at i k (by omega), qu_1, if_neg (by omega)]
              generalize cv_best A s f to (h2.1 213 349) ((qu h2 212 19 s).1 212 24) ((qu h2 212 19 s).1 212 25) = st3 at *
              obtain ⟨x3, y3, w3⟩ := st3
              obtain ⟨d3, d4⟩ := s3.dec
              by_cases z3 : x3 = 1000000
              · rw [if_neg (show ¬ ¬ L3 = -1 from fun g => g (d3.mpr z3)), if_neg (show ¬ ¬ x3 = 1000000 from fun g => g z3)]
                exact Out.of R5 rfl rfl
              · obtain ⟨p0, p1, _, _, p4, p5⟩ := d4 z3
                rw [if_pos (show ¬ L3 = -1 from fun g => z3 (d3.mp g)), if_pos z3]
                unfold DX2_arrivalOf
                simp only [qbd_some]
                rw [qshr_6 l0, qshr_6 p0, l1, p1]
                exact Out.of R5 rfl rfl
    · rw [if_neg ks]
      exact Out.of R1 rfl rfl
  · rw [if_neg k, if_pos rfl]
    by_cases k' : (0 ≤ f ∧ f < A 4) ∧ (to = -1 ∨ (0 ≤ to ∧ to < A 4)) ∧ ¬ f = to
    · have t1 : to = -1 := by
        rcases k'.2.1 with g | g
        · exact g
        · exact absurd ⟨g, k'.2.2, k'.1⟩ k
      rw [if_pos k', if_neg (show ¬ ¬ (0 : Int) = 0 by decide), if_pos t1]
      exact Out.of R1 rfl rfl
    · rw [if_neg k']
      exact Out.of R1 rfl rfl
end thr2
