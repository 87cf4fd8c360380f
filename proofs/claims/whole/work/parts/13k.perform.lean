/-! ===== perform, judge ===== -/
theorem fr.e213 {P Q : Nat → Nat → Prop} {a b : qH} (f : fr P a b) (e : b.1 213 = a.1 213) (s : ∀ i k, ¬ i = 213 → P i k → Q i k) : fr Q a b :=
  ⟨fun i k z => by
    by_cases g : i = 213
    · rw [g, e]
    · exact f.1 i k (fun p => z (s i k g p)), fun z => f.2.1 (fun p => z (s 225 0 (by decide) p)), fun z => f.2.2.1 (fun p => z (s 226 0 (by decide) p)), fun z => f.2.2.2 (fun p => z (s 900 0 (by decide) p))⟩
theorem m_ag_l : ∀ (m k F : Nat) (h : qH), k + m = 66 → m < F → ∃ h', DX10_isAgain_l2 F (k : Int) h = some (0, h') ∧ (∀ j, k ≤ j → j < 66 → h'.1 213 (284 + j) = h.1 219 j) ∧ (∀ i j, ¬ (i = 213 ∧ 284 + k ≤ j ∧ j < 350) → h'.1 i j = h.1 i j) ∧ h'.2 = h.2 := by
  intro m
  induction m with
  | zero =>
    intro k F h hk hF
    obtain ⟨F, rfl⟩ : ∃ n, F = n + 1 := ⟨F - 1, by omega⟩
    rw [DX10_isAgain_l2.eq_2, if_pos (by omega)]
    exact ⟨h, rfl, fun j a b => by omega, fun _ _ _ => rfl, rfl⟩
  | succ m ih =>
    intro k F h hk hF
    obtain ⟨F, rfl⟩ : ∃ n, F = n + 1 := ⟨F - 1, by omega⟩
    obtain ⟨h', e1, e2, e3, e4⟩ := ih (k + 1) F (qu h 213 (284 + k) (h.1 219 k)) (by omega) (by omega)
    rw [DX10_isAgain_l2.eq_2, if_neg (by omega), if_pos (by omega), qw_e (x := 284 + (k : Int)) (by omega) (by omega), if_pos (by omega), show (284 + (k : Int)).toNat = 284 + k by omega, Int.toNat_natCast, qw_s (by omega), qlt_e]
    refine ⟨h', e1, fun j a c => ?_, fun i j g => ?_, by rw [e4]; rfl⟩
    · by_cases ej : j = k
      · rw [e3 213 _ (by omega), ej, qu_s, up_s]
      · rw [e2 j (by omega) c, qu_ne (by decide)]
    · rw [e3 i j (by omega), qu_1, if_neg (by omega)]
section prf
variable {n : Int} {A : Nat → Int}
theorem RR.same {hc hm hm' : qH} {P : Nat → Nat → Prop} (R : RR n A hc hm) (f : fr P hm hm') (e : hm'.1 213 = hm.1 213) (s : ∀ i k, ¬ i = 213 → P i k → (i = 212 ∧ (k = 18 ∨ k = 21 ∨ k = 22)) ∨ (217 ≤ i ∧ i ≤ 219)) : RR n A hc hm' :=
  R.keep R.1 R.2.1 (Pc := fun _ _ => False) fr.rf (fun _ _ _ z => z) (f.e213 e s) (fun i k z p => by omega)
theorem t_perform {hc hm : qH} (R : RR n A hc hm) (hn : n ≤ 512) (a : Int) : Out n (DX9_perform a hc) (DX10_perform a hm) := by
  have R1 := R.m0
  unfold DX9_perform DX10_perform
  rw [qlt_e]
  generalize qu hm 212 0 0 = hm1 at R1
  have P := R1.past
  have hr := nxs_r P
  rw [c_isTray, m_noTray, qbd_some, qbd_some]
  by_cases k : 0 ≤ a ∧ a < 4
  · rw [if_pos k, if_pos k, if_pos (show ¬ (1 : Int) = 0 by decide), if_pos k]
    obtain ⟨t, rfl⟩ := Int.eq_ofNat_of_zero_le k.1
    have ht : t < 4 := by omega
    rw [Int.toNat_natCast]
    obtain ⟨y1, y2, y3, y4, y5⟩ := R1.2.2.2.2.2.2.2.1 t ht
    unfold DX6_missing
    rw [y1]
    by_cases k2 : hm1.1 222 t = -1
    · rw [if_neg (show ¬ ¬ hm1.1 222 t = -1 from fun z => z k2), if_pos k2, qbd_some, if_neg (show ¬ (1 : Int) = 0 by decide), if_neg (show ¬ (-6 : Int) = 0 by decide)]
      exact Out.of R1 rfl rfl
    · rw [if_pos k2, if_neg k2, qbd_some, if_pos rfl, if_pos rfl]
      obtain ⟨h1, e1, w1, o1, f1⟩ := c_draft R1
      obtain ⟨g1, x1, ka, kf⟩ := m_keeps hm1
      have g13 : g1.1 213 = hm1.1 213 := kf.fn (fun k => by omega)
      have mo : ∀ i, ¬ i = 219 → g1.1 i = hm1.1 i := fun i hi => kf.fn (fun k => by omega)
      have D1 : DR 24 A (99 * n + ((0 : Nat) : Int)) h1 (qu g1 212 21 0) := by
        rw [z0, Int.add_zero]
        exact R1.dr.cg (fun i hi => o1 i (by omega)) f1 (by rw [qu_ne (by decide)]; exact g13) (by rw [qu_s, up_n _ _ (by decide), mo 212 (by decide)])
      obtain ⟨N, hN⟩ := Int.eq_ofNat_of_zero_le y4.1
      have K := tell_l (A := A) (t := t) (N := N) (Or.inl rfl) ht (by omega) (T0 := 99 * n) (by omega) N 0 LF LF h1 (qu g1 212 21 0) (by omega) (by unfold LF; omega) (by unfold LF; omega) D1 (by rw [o1 _ (by omega), y2, hN]) (by rw [qu_ne (by decide), mo 223 (by decide), hN]) (fun j hj => by rw [o1 _ (by omega), qu_ne (by decide), mo 224 (by decide)]; exact y5 j (by omega)) (by rw [qu_s, up_s])
      rw [z0] at K
      obtain ⟨h2, g2, r, e2, x2, D2, fc2, fm2, r1, r2, r3, r4, r5⟩ := K
      have x3 : DX10_tells (t : Int) g1 = some ((r : Int), g2) := x2
      have e3 : DX9_doAll 24 (168 + 2 * t) h1 = some ((r : Int), h2) := e2
      have fmA : fr Pmd g1 g2 := by
        have fm0 : fr Pmd g1 (qu g1 212 21 0) := fr.mk (fun i k z => by rw [qu_1, if_neg (by unfold Pmd at z; omega)]) rfl
        exact fm0.tr fm2
      rw [e1, x1, qbd_some, qbd_some, if_pos k, e3, x3, qbd_some, qbd_some]
      by_cases k3 : r = 0
      · subst k3
        rw [z0, if_pos (show (0 : Int) ≤ 0 by decide), if_pos (show (0 : Int) ≤ 0 by decide)]
        obtain ⟨q1, q2⟩ := r5 rfl
        subst q1
        have R2 := (R1.drafted o1 f1 kf).same fmA (by rw [q2, qu_ne (by decide)]) (fun i k z p => by unfold Pmd at p; omega)
        exact Out.of R2 rfl rfl
      · rw [if_neg (show ¬ (r : Int) ≤ 0 by omega), if_neg (show ¬ (r : Int) ≤ 0 by omega)]
        have a44 : h2.1 44 = hc.1 44 := by rw [fc2.fn (i := 44) (fun k => by unfold Pcw; omega), o1 44 (by omega)]
        obtain ⟨h3, s, e4, hs, c1, c2, o2, f2⟩ := c_commit (hc := h2) (by rw [a44]; exact P.1) (by rw [a44, P.2.1]; exact P.2.2.1)
        rw [a44] at hs c1 c2
        have D3 : DR 24 A (99 * (n + 1)) h3 g2 := by
          have D2' : DR 24 A (99 * (n + 1)) h2 g2 := ⟨D2.1, D2.2.1, D2.2.2.1, D2.2.2.2.grow (by omega)⟩
          exact D2'.cg (fun i hi => o2 i (by omega)) f2 rfl rfl
        obtain ⟨g3, x4, R3, t3⟩ := R1.done (h3 := h3) w1 o1 ka kf D3 fmA hs c1 c2 (fun i a b => by rw [o2 i (by omega), fc2.fn (i := i) (fun k => by unfold Pcw; omega)]) (fun i k g => by rw [o2 i (by omega), fc2.at i k (by unfold Pcw; omega), o1 i (by omega)])
        rw [e4, x4, qbd_some, qbd_some]
        exact ⟨_, h3, g3, A, rfl, rfl, R3⟩
  · rw [if_neg k, if_neg (show ¬ ¬ (0 : Int) = 0 by decide), if_neg k, if_neg (show ¬ (-2 : Int) = 0 by decide)]
    exact Out.of R1 rfl rfl
end prf
