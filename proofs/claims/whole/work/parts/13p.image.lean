/-! ===== image ===== -/
theorem m_im_l {t : Nat} (ht : t < 2) : ∀ (m k F : Nat) (h : qH), k + m = 1912 → m < F → ∃ h', DX10_image_l20 F (t : Int) (k : Int) h = some (0, h') ∧ (∀ j, k ≤ j → j < 1912 → h'.1 213 (1912 * (t + 1) + j) = h.1 213 j) ∧ (∀ i j, ¬ (i = 213 ∧ 1912 * (t + 1) + k ≤ j ∧ j < 1912 * (t + 2)) → ¬ (i = 214 ∧ j = t) → h'.1 i j = h.1 i j) ∧ h'.1 214 t = 1 ∧ h'.2 = h.2 := by
  intro m
  induction m with
  | zero =>
    intro k F h hk hF
    obtain ⟨F, rfl⟩ : ∃ n, F = n + 1 := ⟨F - 1, by omega⟩
    rw [DX10_image_l20.eq_2, if_pos (by omega), if_pos (by omega), qlt_e, Int.toNat_natCast, show qand 1 1 = 1 by decide]
    exact ⟨_, rfl, fun j a b => by omega, fun i j _ g => by rw [qu_1, if_neg g], by rw [qu_s, up_s], rfl⟩
  | succ m ih =>
    intro k F h hk hF
    obtain ⟨F, rfl⟩ : ∃ n, F = n + 1 := ⟨F - 1, by omega⟩
    obtain ⟨h', e1, e2, e3, e4, e5⟩ := ih (k + 1) F (qu h 213 (1912 * (t + 1) + k) (h.1 213 k)) (by omega) (by omega)
    rw [DX10_image_l20.eq_2, if_neg (by omega), if_pos (by omega), qw_e (x := (t : Int) + 1) (by omega) (by omega), qw_e (x := 1912 * ((t : Int) + 1)) (by omega) (by omega), qw_e (x := 1912 * ((t : Int) + 1) + (k : Int)) (by omega) (by omega), if_pos (by omega), qlt_e, show (1912 * ((t : Int) + 1) + (k : Int)).toNat = 1912 * (t + 1) + k by omega, Int.toNat_natCast, qw_s (by omega)]
    refine ⟨h', e1, fun j a c => ?_, fun i j g g2 => ?_, e4, by rw [e5]; rfl⟩
    · by_cases ej : j = k
      · rw [e3 213 _ (by omega) (by omega), ej, qu_s, up_s]
      · rw [e2 j (by omega) c, qu_s, up_n _ _ (by omega)]
    · rw [e3 i j (by omega) g2, qu_1, if_neg (by omega)]
section img
variable {n : Int} {A : Nat → Int}
theorem YA.cg3 {hc hc' hm hm' : qH} (r : YA hc hm) (e : ∀ i, 168 ≤ i → i < 176 → hc'.1 i = hc.1 i) (e2 : hm'.1 222 = hm.1 222) (e3 : hm'.1 223 = hm.1 223) (e4 : hm'.1 224 = hm.1 224) : YA hc' hm' := by
  intro t ht
  rw [e _ (by omega) (by omega), e (169 + 2 * t) (by omega) (by omega), e2, e3, e4]
  exact r t ht
theorem t_image {hc hm : qH} (R : RR n A hc hm) (a : Int) : Out n (DX9_image a hc) (DX10_image a hm) := by
  have R1 := R.m0
  unfold DX9_image DX10_image
  rw [qlt_e]
  generalize qu hm 212 0 0 = hm1 at R1
  rw [m_within, qbd_some]
  by_cases k : 0 ≤ a ∧ a ≤ 1
  · have k2 : 0 ≤ a ∧ a < 2 := by omega
    rw [if_neg (show ¬ a < 0 by omega), if_pos k2.2, if_pos k2, if_pos k, if_pos (show ¬ (1 : Int) = 0 by decide)]
    obtain ⟨t, rfl⟩ := Int.eq_ofNat_of_zero_le k.1
    have ht : t < 2 := by omega
    rw [Int.toNat_natCast]
    obtain ⟨h1, e1, C1⟩ := c_scp (h := hc) (i0 := 176 + 18 * t) (i1 := 5) (by omega)
    have G := R1.1.1
    have s1 : cR h1 (176 + 18 * t) A := cR.cp G R1.1.2.1 C1
    have o1 : ∀ i, ¬ (176 + 18 * t ≤ i ∧ i ≤ 183 + 18 * t) → h1.1 i = hc.1 i := fun i hi => C1.1.2.1 i (by omega)
    have f1 := C1.1.2.2
    obtain ⟨h2, e2, w2, o2, f2⟩ := c_wtake (h := h1) (i0 := 184 + 18 * t) (i1 := 24) (by omega) (by omega) (R1.2.2.2.1.cg (fun i a b => o1 i (by omega)))
    have M := m_im_l ht 1912 0 LF hm1 rfl (by unfold LF; omega)
    rw [z0] at M
    obtain ⟨g1, x1, a1, a2, a3, a4⟩ := M
    rw [e1, qbd_some, if_pos k2, e2, qbd_some, if_pos k2, qlt_e, x1, show qand 1 1 = 1 by decide]
    have oc : ∀ i, (i ≤ 166 ∨ (168 ≤ i ∧ i ≤ 175) ∨ 212 ≤ i ∨ (¬ t = 0 ∧ 176 ≤ i ∧ i ≤ 193) ∨ (¬ t = 1 ∧ 194 ≤ i ∧ i ≤ 211)) → (qu h2 167 t 1).1 i = hc.1 i := fun i hi => by rw [qu_ne (by omega), o2 i (by omega), o1 i (by omega)]
    have fc : (qu h2 167 t 1).2 = hc.2 := by
      show h2.2 = hc.2
      rw [f2, f1]
    have m13 : ∀ j, (j < 1912 * (t + 1) ∨ 1912 * (t + 2) ≤ j) → g1.1 213 j = hm1.1 213 j := fun j hj => a2 213 j (by omega) (by omega)
    have mo : ∀ i, ¬ i = 213 → ¬ i = 214 → g1.1 i = hm1.1 i := fun i h h' => funext (fun j => a2 i j (by omega) (by omega))
    refine ⟨0, qu h2 167 t 1, g1, A, rfl, rfl, RR.grow ?_ (by omega : n ≤ n + 1)⟩
    have P := R1.past
    obtain ⟨r1, r2, ⟨r3, r3'⟩, r4, r5, r6, r7, r8, r9⟩ := R1
    refine ⟨⟨r1.1, r1.2.1.cg (fun i a b => oc i (by omega)), by rw [oc 4 (by omega)]; exact r1.2.2.1, r1.2.2.2.cg (oc 225 (by omega)) (by rw [fc])⟩, r2.cg (oc 226 (by omega)) (by rw [fc]), ⟨fun k hk => by rw [m13 k (by omega)]; exact r3 k hk, by rw [mo 212 (by decide) (by decide)]; exact r3'⟩, (r4.cg (fun i a b => oc i (by omega))).cb (fun j hj => m13 _ (by omega)), ?_, r6.cg (by rw [oc 0 (by omega)]) (oc 1 (by omega)) (by rw [mo 212 (by decide) (by decide)]) (mo 215 (by decide) (by decide)), r7.cg (by rw [oc 2 (by omega)]) (by rw [oc 2 (by omega)]) (by rw [mo 212 (by decide) (by decide)]) (by rw [mo 212 (by decide) (by decide)]), r8.cg3 (fun i a b => oc i (by omega)) (mo 222 (by decide) (by decide)) (mo 223 (by decide) (by decide)) (mo 224 (by decide) (by decide)), fun i hi => ?_⟩
    · obtain ⟨p1, p2, p3, p4⟩ := P
      have g50 : g1.1 213 350 = hm1.1 213 350 := m13 350 (by omega)
      unfold PA
      rw [oc 44 (by omega), g50]
      exact ⟨p1, p2, p3, fun i hi => ((p4 i hi).cg (fun j a b => oc j (by omega))).cb (fun j hj => m13 _ (by omega))⟩
    · by_cases e : i = t
      · subst e
        rw [qu_s, up_s, a3]
        refine ⟨rfl, Or.inr ⟨rfl, A, fun k hk => ?_, G, ?_, ?_⟩⟩
        · show g1.1 213 (1912 * (i + 1) + k) = A k
          rw [a1 k (by omega) (by omega)]
          exact r3 k hk
        · exact s1.cg (fun j a b => by rw [qu_ne (by omega), o2 j (by omega)])
        · exact (w2.cg (fun j a b => by rw [qu_ne (by omega)])).cb (fun j hj => a1 (284 + j) (by omega) (by omega))
      · have q14 : g1.1 214 i = hm1.1 214 i := a2 214 i (by omega) (by omega)
        obtain ⟨z1, z2⟩ := r9 i hi
        rw [q14, qu_s, up_n _ _ e, o2 167 (by omega), o1 167 (by omega)]
        refine ⟨z1, ?_⟩
        rcases z2 with z2 | ⟨z2, Ai, u1, u2, u3, u4⟩
        · exact Or.inl z2
        · refine Or.inr ⟨z2, Ai, fun k hk => ?_, u2, u3.cg (fun j a b => oc j (by omega)), (u4.cg (fun j a b => oc j (by omega))).cb (fun j hj => m13 _ (by omega))⟩
          show g1.1 213 (1912 * (i + 1) + k) = Ai k
          rw [m13 _ (by omega)]
          exact u1 k hk
  · rw [if_neg k, if_neg (show ¬ ¬ (0 : Int) = 0 by decide)]
    refine Out.of R1 (r := -2) ?_ rfl
    by_cases p1 : a < 0
    · rw [if_pos p1]
    · rw [if_neg p1, if_neg (show ¬ a < 2 by omega)]
end img
