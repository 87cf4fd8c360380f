/-! ===== undo, storm ===== -/
theorem m_un_l {N : Nat} (hN : N ≤ 9) : ∀ (m k F : Nat) (h : qH), h.1 213 350 = N → k + m = 66 → m < F → ∃ h', DX10_undo_l46 F (k : Int) h = some ((N : Int), h') ∧ (∀ j, k ≤ j → j < 66 → h'.1 213 (284 + j) = h.1 213 (351 + 66 * N + j)) ∧ (∀ i j, ¬ (i = 213 ∧ 284 + k ≤ j ∧ j < 350) → h'.1 i j = h.1 i j) ∧ h'.2 = h.2 := by
  intro m
  induction m with
  | zero =>
    intro k F h h1 hk hF
    obtain ⟨F, rfl⟩ : ∃ n, F = n + 1 := ⟨F - 1, by omega⟩
    rw [DX10_undo_l46.eq_2, if_pos (by omega), h1]
    exact ⟨h, rfl, fun j a b => by omega, fun _ _ _ => rfl, rfl⟩
  | succ m ih =>
    intro k F h h1 hk hF
    obtain ⟨F, rfl⟩ : ∃ n, F = n + 1 := ⟨F - 1, by omega⟩
    obtain ⟨h', e1, e2, e3, e4⟩ := ih (k + 1) F (qu h 213 (284 + k) (h.1 213 (351 + 66 * N + k))) (by rw [qu_s, up_n _ _ (by omega)]; exact h1) (by omega) (by omega)
    rw [DX10_undo_l46.eq_2, if_neg (by omega), h1, qw_e (x := 66 * (N : Int)) (by omega) (by omega), qw_e (x := 351 + 66 * (N : Int)) (by omega) (by omega), qw_e (x := 351 + 66 * (N : Int) + (k : Int)) (by omega) (by omega), if_pos (by omega), qw_e (x := 284 + (k : Int)) (by omega) (by omega), if_pos (by omega), show (351 + 66 * (N : Int) + (k : Int)).toNat = 351 + 66 * N + k by omega, show (284 + (k : Int)).toNat = 284 + k by omega, qw_s (by omega), qlt_e]
    refine ⟨h', e1, fun j a c => ?_, fun i j g => ?_, by rw [e4]; rfl⟩
    · by_cases ej : j = k
      · rw [e3 213 _ (by omega), ej, qu_s, up_s]
      · rw [e2 j (by omega) c, qu_s, up_n _ _ (by omega)]
    · rw [e3 i j (by omega), qu_1, if_neg (by omega)]
section und
variable {n : Int} {A : Nat → Int}
theorem t_undo {hc hm : qH} (R : RR n A hc hm) (hn : n ≤ 512) (N : Int) : Out n (DX9_undo N hc) (DX10_undo N hm) := by
  have R1 := R.m0
  unfold DX9_undo DX10_undo
  rw [qlt_e]
  generalize qu hm 212 0 0 = hm1 at R1
  have P := R1.past
  have hr := nxs_r P
  obtain ⟨p1, p2, p3, p4⟩ := P
  rw [m_within, qbd_some, p2]
  by_cases k : (1 ≤ N ∧ N ≤ 10) ∧ N ≤ hm1.1 213 350
  · rw [if_neg (show ¬ N < 1 by omega), if_neg (show ¬ 10 < N by omega), if_pos k.2, if_pos k.1, if_neg (show ¬ (1 : Int) = 0 by decide), if_pos k.2, qlt_e, qw_e (by omega) (by omega)]
    obtain ⟨M, hM⟩ : ∃ M : Nat, hm1.1 213 350 - N = (M : Int) := ⟨(hm1.1 213 350 - N).toNat, by omega⟩
    rw [hM]
    obtain ⟨g2, x2, y2, z2, l2⟩ := m_un_l (N := M) (by omega) 66 0 LF (qu hm1 213 350 (M : Int)) (by rw [qu_s, up_s]) rfl (by unfold LF; omega)
    rw [z0] at x2
    rw [x2]
    unfold DX3_bringBack
    rw [qlt_e, p2, qw_e (by omega) (by omega), hM, qu_s, up_s]
    have b1 : (qu hc 44 2 (M : Int)).1 44 1 = hc.1 44 1 := by rw [qu_s, up_n _ _ (by decide)]
    rw [c_slot (by rw [b1]; exact p1) (by omega), qbd_some, b1, Int.toNat_natCast, Int.toNat_natCast]
    have oc : ∀ i, ¬ i = 44 → (qu hc 44 2 (M : Int)).1 i = hc.1 i := fun i hi => qu_ne hi
    have W0 := p4 M (by omega)
    have W1 : wr (qu hc 44 2 (M : Int)) (46 + 10 * (((hc.1 44 1).toNat + M) % 11)) (fun j => hm1.1 213 (351 + 66 * M + j)) A (99 * n) := W0.cg (fun i a b => oc i (by omega))
    obtain ⟨h3, e3, w3, o3, f3⟩ := c_wtake (h := qu hc 44 2 (M : Int)) (i0 := 24) (i1 := 46 + 10 * (((hc.1 44 1).toNat + M) % 11)) (by omega) (by omega) W1
    rw [e3, qbd_some, qbd_some]
    have c44 : h3.1 44 = (qu hc 44 2 (M : Int)).1 44 := o3 44 (by omega)
    rw [c44, qu_s, up_s]
    have oh : ∀ i, ¬ (24 ≤ i ∧ i ≤ 33) → ¬ i = 44 → h3.1 i = hc.1 i := fun i h1 h2 => by rw [o3 i (by omega), oc i h2]
    have m13 : ∀ j, (j < 284 ∨ 351 ≤ j) → g2.1 213 j = hm1.1 213 j := fun j hj => by rw [z2 213 j (by omega), qu_s, up_n _ _ (by omega)]
    have mo : ∀ i, ¬ i = 213 → g2.1 i = hm1.1 i := fun i hi => funext (fun j => by rw [z2 i j (by omega), qu_ne hi])
    refine ⟨(M : Int), h3, g2, A, rfl, rfl, ?_⟩
    refine R1.deed ⟨R1.1.1, R1.1.2.1.cg (fun i a b => oh i (by omega) (by omega)), by rw [oh 4 (by omega) (by omega)]; exact R1.1.2.2.1, R1.1.2.2.2.cg (oh 225 (by omega) (by omega)) (by rw [f3]; rfl)⟩ (R1.2.1.cg (oh 226 (by omega) (by omega)) (by rw [f3]; rfl)) ?_ ?_ (fun i k g => by rw [oh i (by omega) (by omega)]) (fun i k g => ?_)
    · refine (w3.grow (by omega)).cb (fun j hj => ?_)
      show g2.1 213 (284 + j) = hm1.1 213 (351 + 66 * M + j)
      rw [y2 j (by omega) hj, qu_s, up_n _ _ (by omega)]
    · have g50 : g2.1 213 350 = (M : Int) := by rw [z2 213 350 (by omega), qu_s, up_s]
      have d1 : h3.1 44 1 = hc.1 44 1 := by rw [c44]; exact b1
      have d2 : h3.1 44 2 = (M : Int) := by rw [c44, qu_s, up_s]
      refine ⟨by rw [d1]; exact p1, by rw [d2, g50], by rw [g50]; omega, fun i hi => ?_⟩
      rw [g50] at hi
      rw [d1]
      exact ((p4 i (by omega)).cg (fun j a b => oh j (by omega) (by omega))).cb (fun j hj => m13 _ (by omega))
    · by_cases e : i = 213
      · subst e
        exact m13 k (by omega)
      · rw [mo i e]
  · by_cases q1 : 1 ≤ N ∧ N ≤ 10
    · rw [if_neg (show ¬ N < 1 by omega), if_neg (show ¬ 10 < N by omega), if_neg (show ¬ N ≤ hm1.1 213 350 from fun g => k ⟨q1, g⟩), if_pos q1, if_neg (show ¬ (1 : Int) = 0 by decide), if_neg (show ¬ N ≤ hm1.1 213 350 from fun g => k ⟨q1, g⟩)]
      exact Out.of R1 rfl rfl
    · rw [if_neg q1, if_pos rfl]
      by_cases p1 : N < 1
      · rw [if_pos p1]
        exact Out.of R1 rfl rfl
      · rw [if_neg p1, if_pos (show 10 < N by omega)]
        exact Out.of R1 rfl rfl
/-- a draft alone changes nothing that shows -/
theorem RR.drafted {hc h1 hm g1 : qH} (R : RR n A hc hm) (o1 : ∀ i, ¬ (nxs hc ≤ i ∧ i ≤ nxs hc + 9) → h1.1 i = hc.1 i) (f1 : h1.2 = hc.2) (kf : fr (fun i _ => i = 219) hm g1) : RR n A h1 g1 := by
  have P := R.past
  have hr := nxs_r P
  obtain ⟨r1, r2, ⟨r3, r3'⟩, r4, r5, r6, r7, r8, r9⟩ := R
  have g13 : g1.1 213 = hm.1 213 := kf.fn (fun k => by omega)
  have mo : ∀ i, ¬ i = 219 → g1.1 i = hm.1 i := fun i hi => kf.fn (fun k => by omega)
  have co : ∀ i, (i ≤ 33 ∨ i = 44 ∨ 156 ≤ i) → h1.1 i = hc.1 i := fun i hi => o1 i (by omega)
  refine ⟨⟨r1.1, r1.2.1.cg (fun i a b => co i (by omega)), by rw [co 4 (by omega)]; exact r1.2.2.1, r1.2.2.2.cg (co 225 (by omega)) (by rw [f1])⟩, r2.cg (co 226 (by omega)) (by rw [f1]), ⟨by rw [g13]; exact r3, by rw [mo 212 (by omega)]; exact r3'⟩, ?_, ?_, r6.cg (by rw [co 0 (by omega)]) (co 1 (by omega)) (by rw [mo 212 (by omega)]) (mo 215 (by omega)), r7.cg (by rw [co 2 (by omega)]) (by rw [co 2 (by omega)]) (by rw [mo 212 (by omega)]) (by rw [mo 212 (by omega)]), r8.cg (fun i a b => co i (by omega)) (mo 222 (by omega)) (mo 223 (by omega)) (mo 224 (by omega)), r9.cg (fun i a b => co i (by omega)) g13 (mo 214 (by omega))⟩
  · rw [g13]
    exact r4.cg (fun i a b => co i (by omega))
  · obtain ⟨p1, p2, p3, p4⟩ := r5
    unfold PA
    rw [co 44 (by omega), g13]
    refine ⟨p1, p2, p3, fun i hi => (p4 i hi).cg (fun j a b => o1 j ?_)⟩
    have hi2 : (i : Int) < hc.1 44 2 := by rw [p2]; exact hi
    unfold nxs
    omega
end und
