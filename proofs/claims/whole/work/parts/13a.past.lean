/-! ===== what can be undone: blocks of 66 ===== -/
theorem cB_cg {A : Nat → Int} {N : Int} {u v : Nat → Int} (b : cB A N u) (e : ∀ j, j < 8 → v j = u j) : cB A N v := by
  unfold cB at *
  rw [e 0 (by decide), e 1 (by decide), e 2 (by decide), e 3 (by decide), e 4 (by decide), e 5 (by decide), e 6 (by decide), e 7 (by decide)]
  exact b
theorem wr.cb {hc : qH} {w : Nat} {B C A : Nat → Int} {T : Int} (r : wr hc w B A T) (e : ∀ j, j < 66 → C j = B j) : wr hc w C A T := by
  obtain ⟨r1, r2, r3, r4, r5⟩ := r
  refine ⟨by rw [e 64 (by decide)]; exact r1, by rw [e 65 (by decide)]; exact r2, by rw [e 64 (by decide)]; exact r3, by rw [e 65 (by decide)]; exact r4, fun b hb => ?_⟩
  rw [e 64 (by decide)] at hb
  obtain ⟨a1, a2, a3⟩ := r5 b hb
  have hb8 : b < 8 := by omega
  rw [e 65 (by decide)]
  refine ⟨?_, cB_cg a2 (fun j hj => e _ (by omega)), fun q => ?_⟩
  · rw [a1]
    exact nb_eq (fun j hj => (e _ (by omega)).symm)
  · have q' : B (8 * b + 0) = 2 := by rw [← e (8 * b + 0) (by omega)]; exact q
    show 0 ≤ C (8 * b + 7)
    rw [e (8 * b + 7) (by omega)]
    exact a3 q'
theorem qlt_e {α : Type} (e : α) (f : α → Option (Int × qH)) : qlt e f = f e := rfl
theorem c_wt_l {i0 i1 : Nat} (hi0 : i0 ≤ 202) (hd : i0 + 10 ≤ i1 ∨ i1 + 10 ≤ i0) {T : Nat} (hT : T ≤ 8) : ∀ (m k F : Nat) (h : qH), h.1 i0 1 = T → (∀ b, b < T → h.1 (i1 + 2 + b) 4 = 0 ∨ h.1 (i1 + 2 + b) 4 = 1) → k + m = T → m < F →
    ∃ h', DX7_takeFrom_l18 F i0 i1 (k : Int) h = some (0, h') ∧ (∀ b, k ≤ b → b < T → nb (h'.1 (i0 + 2 + b)) = nb (h.1 (i1 + 2 + b))) ∧ (∀ i, ¬ (i0 + 2 + k ≤ i ∧ i ≤ i0 + 9) → h'.1 i = h.1 i) ∧ h'.2 = h.2 := by
  intro m
  induction m with
  | zero =>
    intro k F h h1 h4 hk hF
    obtain ⟨F, rfl⟩ : ∃ n, F = n + 1 := ⟨F - 1, by omega⟩
    rw [DX7_takeFrom_l18.eq_2, if_pos (by omega)]
    exact ⟨h, rfl, fun b a c => by omega, fun _ _ => rfl, rfl⟩
  | succ m ih =>
    intro k F h h1 h4 hk hF
    obtain ⟨F, rfl⟩ : ∃ n, F = n + 1 := ⟨F - 1, by omega⟩
    obtain ⟨h2, e2, v2⟩ := c_take (h := h) (i := i0 + 2 + k) (j := i1 + 2 + k) (by omega) (h4 k (by omega))
    have f2 := F_DX0_takeFrom _ _ _ _ _ e2
    have o2 : ∀ i, ¬ i = i0 + 2 + k → h2.1 i = h.1 i := fun i hi => f2.fn (fun k => by omega)
    have fl2 : h2.2 = h.2 := by
      have a := f2.2.1 (by omega)
      have b := f2.2.2.1 (by omega)
      have c := f2.2.2.2 (by omega)
      exact Prod.ext a (Prod.ext b c)
    obtain ⟨h3, e3, v3, o3, fl3⟩ := ih (k + 1) F h2 (by rw [o2 i0 (by omega)]; exact h1) (fun b hb => by rw [o2 (i1 + 2 + b) (by omega)]; exact h4 b hb) (by omega) (by omega)
    rw [DX7_takeFrom_l18.eq_2, if_neg (by omega), if_neg (by omega), if_pos (by omega), if_pos (by omega), Int.toNat_natCast, e2, qbd_some, qw_s (by omega)]
    refine ⟨h3, e3, fun b a c => ?_, fun i hi => ?_, by rw [fl3, fl2]⟩
    · by_cases eb : b = k
      · rw [o3 (i0 + 2 + b) (by omega), eb, v2]
      · rw [v3 b (by omega) c, o2 (i1 + 2 + b) (by omega)]
    · rw [o3 i (by omega), o2 i (by omega)]
/-- waters copied -/
theorem c_wtake {h : qH} {i0 i1 : Nat} {B A : Nat → Int} {T : Int} (hi0 : i0 ≤ 202) (hd : i0 + 10 ≤ i1 ∨ i1 + 10 ≤ i0) (r : wr h i1 B A T) : ∃ h', DX7_takeFrom i0 i1 h = some (0, h') ∧ wr h' i0 B A T ∧ (∀ i, ¬ (i = i0 ∨ (i0 + 2 ≤ i ∧ i ≤ i0 + 9)) → h'.1 i = h.1 i) ∧ h'.2 = h.2 := by
  obtain ⟨r1, r2, r3, r4, r5⟩ := r
  unfold DX7_takeFrom
  simp only [qlt]
  rw [qu_ne (i := i0) (j := i1) (by omega)]
  generalize hh : qu (qu h i0 1 (h.1 i1 1)) i0 2 (h.1 i1 2) = h9
  have o9 : ∀ i, ¬ i = i0 → h9.1 i = h.1 i := fun i hi => by rw [← hh, qu_ne hi, qu_ne hi]
  have a1 : h9.1 i0 1 = B 64 := by rw [← hh, qu_s, up_n _ _ (by decide), qu_s, up_s]; exact r1
  have a2 : h9.1 i0 2 = B 65 := by rw [← hh, qu_s, up_s]; exact r2
  obtain ⟨h3, e3, v3, o3, fl3⟩ := c_wt_l (i0 := i0) (i1 := i1) hi0 hd (T := (B 64).toNat) (by omega) (B 64).toNat 0 LF h9 (by omega) (fun b hb => by
    rw [o9 (i1 + 2 + b) (by omega)]
    obtain ⟨n1, n2, _⟩ := r5 b (by omega)
    have := congrFun n1 4
    rw [nb_at _ (by decide), nb_at _ (by decide)] at this
    rw [this]
    exact n2.2.2.2.2.2.2.1) (by omega) (by unfold LF; omega)
  rw [z0] at e3
  refine ⟨h3, e3, ⟨by rw [o3 i0 (by omega)]; exact a1, by rw [o3 i0 (by omega)]; exact a2, r3, r4, fun b hb => ?_⟩, fun i hi => by rw [o3 i (by omega), o9 i (by omega)], by rw [fl3, ← hh]; rfl⟩
  obtain ⟨n1, n2, n3⟩ := r5 b hb
  refine ⟨?_, n2, n3⟩
  rw [v3 b (by omega) (by omega), o9 (i1 + 2 + b) (by omega)]
  exact n1
theorem c_slot {h : qH} {a : Int} (h1 : 0 ≤ h.1 44 1 ∧ h.1 44 1 ≤ 10) (ha : 0 ≤ a ∧ a ≤ 10) : DX3_slot a h = some (((46 + 10 * (((h.1 44 1).toNat + a.toNat) % 11) : Nat) : Int), h) := by
  unfold DX3_slot
  rw [qw_e (by omega) (by omega), floorMod_e (by omega) (by omega) (by decide) (by decide), qbd_some, if_pos (by omega), show ((h.1 44 1 + a) % 11).toNat = ((h.1 44 1).toNat + a.toNat) % 11 by omega]
theorem m_ka_l : ∀ (m k F : Nat) (h : qH), k + m = 66 → m < F → ∃ h', DX10_keepsAll_l2 F (k : Int) h = some (0, h') ∧ (∀ j, k ≤ j → j < 66 → h'.1 219 j = h.1 213 (284 + j)) ∧ (∀ j, j < k → h'.1 219 j = h.1 219 j) := by
  intro m
  induction m with
  | zero =>
    intro k F h hk hF
    obtain ⟨F, rfl⟩ : ∃ n, F = n + 1 := ⟨F - 1, by omega⟩
    rw [DX10_keepsAll_l2.eq_2, if_pos (by omega)]
    exact ⟨h, rfl, fun j a b => by omega, fun _ _ => rfl⟩
  | succ m ih =>
    intro k F h hk hF
    obtain ⟨F, rfl⟩ : ∃ n, F = n + 1 := ⟨F - 1, by omega⟩
    obtain ⟨h', e1, e2, e3⟩ := ih (k + 1) F (qu h 219 k (h.1 213 (284 + k))) (by omega) (by omega)
    rw [DX10_keepsAll_l2.eq_2, if_neg (by omega), qw_e (x := 284 + (k : Int)) (by omega) (by omega), if_pos (by omega), if_pos (by omega), show (284 + (k : Int)).toNat = 284 + k by omega, Int.toNat_natCast, qw_s (by omega)]
    simp only [qlt]
    refine ⟨h', e1, fun j a c => ?_, fun j a => ?_⟩
    · by_cases ej : j = k
      · rw [e3 j (by omega), ej, qu_s, up_s]
      · rw [e2 j (by omega) c, qu_ne (by decide)]
    · rw [e3 j (by omega), qu_s, up_n _ _ (by omega)]
theorem m_keepsAll (h : qH) : ∃ h', DX10_keepsAll h = some (0, h') ∧ (∀ j, j < 66 → h'.1 219 j = h.1 213 (284 + j)) := by
  obtain ⟨h', e1, e2, _⟩ := m_ka_l 66 0 LF h rfl (by unfold LF; omega)
  rw [z0] at e1
  exact ⟨h', e1, fun j hj => e2 j (by omega) hj⟩
theorem m_n62 {N : Nat} (hN : N ≤ 9) : ∀ (m k F : Nat) (h : qH), h.1 213 350 = N → k + m = 66 → m < F → ∃ h', DX10_notes_l62 F (k : Int) h = some (0, h') ∧ h'.1 213 350 = N + 1 ∧ (∀ j, k ≤ j → j < 66 → h'.1 213 (351 + 66 * N + j) = h.1 219 j) ∧ (∀ j, ¬ j = 350 → ¬ (351 + 66 * N + k ≤ j ∧ j < 351 + 66 * N + 66) → h'.1 213 j = h.1 213 j) := by
  intro m
  induction m with
  | zero =>
    intro k F h h1 hk hF
    obtain ⟨F, rfl⟩ : ∃ n, F = n + 1 := ⟨F - 1, by omega⟩
    rw [DX10_notes_l62.eq_2, if_pos (by omega), h1, qw_e (by omega) (by omega)]
    simp only [qlt]
    refine ⟨_, rfl, by rw [qu_s, up_s], fun j a b => by omega, fun j a b => ?_⟩
    rw [qu_s, up_n _ _ a]
  | succ m ih =>
    intro k F h h1 hk hF
    obtain ⟨F, rfl⟩ : ∃ n, F = n + 1 := ⟨F - 1, by omega⟩
    obtain ⟨h', e1, e2, e3, e4⟩ := ih (k + 1) F (qu h 213 (351 + 66 * N + k) (h.1 219 k)) (by rw [qu_s, up_n _ _ (by omega)]; exact h1) (by omega) (by omega)
    rw [DX10_notes_l62.eq_2, if_neg (by omega), if_pos (by omega), h1, qw_e (x := 66 * (N : Int)) (by omega) (by omega), qw_e (x := 351 + 66 * (N : Int)) (by omega) (by omega), qw_e (x := 351 + 66 * (N : Int) + (k : Int)) (by omega) (by omega), if_pos (by omega), show (351 + 66 * (N : Int) + (k : Int)).toNat = 351 + 66 * N + k by omega, Int.toNat_natCast, qw_s (by omega)]
    simp only [qlt]
    refine ⟨h', e1, e2, fun j a c => ?_, fun j a b => ?_⟩
    · by_cases ej : j = k
      · rw [e4 _ (by omega) (by omega), ej, qu_s, up_s]
      · rw [e3 j (by omega) c, qu_ne (by decide)]
    · rw [e4 j a (by omega), qu_s, up_n _ _ (by omega)]
theorem m_n15 : ∀ (m k F : Nat) (h : qH), h.1 213 350 = 10 → k + m = 594 → m < F → ∃ h', DX10_notes_l15 F (k : Int) h = DX10_notes_l62 LF 0 h' ∧ h'.1 213 350 = 9 ∧ h'.1 219 = h.1 219 ∧ (∀ j, k ≤ j → j < 594 → h'.1 213 (351 + j) = h.1 213 (417 + j)) ∧ (∀ j, ¬ j = 350 → ¬ (351 + k ≤ j ∧ j < 945) → h'.1 213 j = h.1 213 j) := by
  intro m
  induction m with
  | zero =>
    intro k F h h1 hk hF
    obtain ⟨F, rfl⟩ : ∃ n, F = n + 1 := ⟨F - 1, by omega⟩
    rw [DX10_notes_l15.eq_2, if_pos (by omega), h1, qw_e (by omega) (by omega), qlt_e]
    refine ⟨_, rfl, by rw [qu_s, up_s]; rfl, by rw [qu_ne (by decide)], fun j a b => by omega, fun j a b => ?_⟩
    rw [qu_s, up_n _ _ a]
  | succ m ih =>
    intro k F h h1 hk hF
    obtain ⟨F, rfl⟩ : ∃ n, F = n + 1 := ⟨F - 1, by omega⟩
    obtain ⟨h', e1, e2, e3, e4, e5⟩ := ih (k + 1) F (qu h 213 (351 + k) (h.1 213 (417 + k))) (by rw [qu_s, up_n _ _ (by omega)]; exact h1) (by omega) (by omega)
    rw [DX10_notes_l15.eq_2, if_neg (by omega), qw_e (x := 417 + (k : Int)) (by omega) (by omega), qw_e (x := 351 + (k : Int)) (by omega) (by omega), if_pos (by omega), if_pos (by omega), show (417 + (k : Int)).toNat = 417 + k by omega, show (351 + (k : Int)).toNat = 351 + k by omega, qlt_e, qw_s (by omega)]
    refine ⟨h', e1, e2, by rw [e3, qu_ne (by decide)], fun j a c => ?_, fun j a b => ?_⟩
    · by_cases ej : j = k
      · rw [e5 _ (by omega) (by omega), ej, qu_s, up_s]
      · rw [e4 j (by omega) c, qu_s, up_n _ _ (by omega)]
    · rw [e5 j a (by omega), qu_s, up_n _ _ (by omega)]
/-- the reference notes what was: the block behind the last, the eldest forgotten -/
theorem m_notes {h : qH} (hN : 0 ≤ h.1 213 350 ∧ h.1 213 350 ≤ 10) : ∃ h' s, DX10_notes h = some (0, h') ∧ (s = if h.1 213 350 = 10 then 1 else 0) ∧ h'.1 213 350 = h.1 213 350 + 1 - (s : Nat) ∧ (∀ i j : Nat, (i : Int) < h.1 213 350 - s → j < 66 → h'.1 213 (351 + 66 * i + j) = h.1 213 (351 + 66 * (i + s) + j)) ∧ (∀ j, j < 66 → h'.1 213 (351 + 66 * (h.1 213 350 - s).toNat + j) = h.1 219 j) ∧ (∀ j, (j < 350 ∨ 1011 ≤ j) → h'.1 213 j = h.1 213 j) := by
  unfold DX10_notes
  by_cases q : h.1 213 350 = 10
  · rw [if_neg (show ¬ ¬ h.1 213 350 = 10 from fun g => g q)]
    obtain ⟨h1, e1, a1, a2, a3, a4⟩ := m_n15 594 0 LF h q rfl (by unfold LF; omega)
    obtain ⟨h2, e2, b1, b2, b3⟩ := m_n62 (N := 9) (by decide) 66 0 LF h1 (by rw [a1]; rfl) rfl (by unfold LF; omega)
    rw [z0] at e1 e2
    rw [e1, e2]
    refine ⟨h2, 1, rfl, by rw [if_pos q], by rw [b1, q]; rfl, fun i j hi hj => ?_, fun j hj => ?_, fun j hj => ?_⟩
    · rw [b3 _ (by omega) (by omega), show 351 + 66 * i + j = 351 + (66 * i + j) by omega, a3 _ (by omega) (by omega), show 417 + (66 * i + j) = 351 + 66 * (i + 1) + j by omega]
    · rw [q, show ((10 : Int) - ((1 : Nat) : Int)).toNat = 9 from rfl, b2 j (by omega) hj, a2]
    · rw [b3 j (by omega) (by omega), a4 j (by omega) (by omega)]
  · rw [if_pos q]
    obtain ⟨N, hN'⟩ := Int.eq_ofNat_of_zero_le hN.1
    obtain ⟨h2, e2, b1, b2, b3⟩ := m_n62 (N := N) (by omega) 66 0 LF h hN' rfl (by unfold LF; omega)
    rw [z0] at e2
    rw [e2]
    refine ⟨h2, 0, rfl, by rw [if_neg q], by rw [b1, hN']; omega, fun i j hi hj => ?_, fun j hj => ?_, fun j hj => ?_⟩
    · rw [b3 _ (by omega) (by omega), Nat.add_zero]
    · rw [hN', show ((N : Int) - ((0 : Nat) : Int)).toNat = N by omega, b2 j (by omega) hj]
    · rw [b3 j (by omega) (by omega)]
