/-! ===== calls that only look: fault, cell, current, wind, bottle ===== -/
def Out (n : Int) (x y : Option (Int × qH)) : Prop := ∃ r hc' hm' A', x = some (r, hc') ∧ y = some (r, hm') ∧ RR (n + 1) A' hc' hm'
theorem RR.m0 {n : Int} {A : Nat → Int} {hc hm : qH} (R : RR n A hc hm) : RR n A hc (qu hm 212 0 0) := by
  have fm : fr (fun i k => i = 212 ∧ k = 0) hm (qu hm 212 0 0) := by
    refine ⟨fun i k q => ?_, fun _ => rfl, fun _ => rfl, fun _ => rfl⟩
    rw [qu_1, if_neg q]
  exact R.keep R.1 R.2.1 (fr.rf (P := fun _ _ => False)) (fun _ _ _ g => g) fm (fun i k g => by omega)
theorem Out.of {n : Int} {A : Nat → Int} {hc hm : qH} {r : Int} {x y : Option (Int × qH)} (R : RR n A hc hm) (e1 : x = some (r, hc)) (e2 : y = some (r, hm)) : Out n x y := ⟨r, hc, hm, A, e1, e2, R.grow (by omega)⟩
section asks
variable {n : Int} {A : Nat → Int} {hc hm : qH}
theorem RR.thr (R : RR n A hc hm) : (0 ≤ hm.1 213 348 ∧ hm.1 213 348 ≤ 8) ∧ hc.1 24 1 = hm.1 213 348 := ⟨R.2.2.2.1.2.2.1, R.2.2.2.1.1⟩
theorem RR.tid (R : RR n A hc hm) : (0 ≤ hm.1 213 349 ∧ hm.1 213 349 ≤ 99 * n) ∧ hc.1 24 2 = hm.1 213 349 := ⟨R.2.2.2.1.2.2.2.1, R.2.2.2.1.2.1⟩
theorem RR.bot (R : RR n A hc hm) {b : Nat} (hb : (b : Int) < hm.1 213 348) : nb (hc.1 (26 + b)) = nb (fun k => hm.1 213 (284 + (8 * b + k))) ∧ cB A (hm.1 213 349) (fun k => hm.1 213 (284 + (8 * b + k))) ∧ cK (fun k => hm.1 213 (284 + (8 * b + k))) := R.2.2.2.1.2.2.2.2 b hb
theorem RR.bat (R : RR n A hc hm) {b k : Nat} (hb : (b : Int) < hm.1 213 348) (hk : k < 8) : hc.1 (26 + b) k = hm.1 213 (284 + (8 * b + k)) := by
  have := congrFun (R.bot hb).1 k
  rw [nb_at _ hk, nb_at _ hk] at this
  exact this
theorem t_fault (R : RR n A hc hm) (a : Int) : Out n (DX9_fault a hc) (DX10_fault a hm) := by
  have R1 := R.m0
  have f := R1.2.2.2.2.2.2.1
  unfold DX9_fault DX10_fault
  simp only [qlt]
  by_cases a0 : a = 0
  · rw [if_neg (fun g => g a0), if_neg (fun g => g a0), f.1]
    exact Out.of R1 rfl rfl
  · rw [if_pos a0, if_pos a0]
    by_cases a1 : a = 1
    · rw [if_neg (fun g => g a1), if_neg (fun g => g a1), f.2]
      exact Out.of R1 rfl rfl
    · rw [if_pos a1, if_pos a1]
      exact Out.of R1 rfl rfl
theorem t_cell (R : RR n A hc hm) (a : Int) : Out n (DX9_cell a hc) (DX10_cell a hm) := by
  have R1 := R.m0
  have G := R1.1.1
  have r := R1.1.2.1
  have q := R1.2.2.1.1
  have cc := G.cells
  refine Out.of R1 (r := if 0 ≤ a ∧ a < A 1 * A 2 then A (14 + a.toNat) else -2) ?_ ?_
  · unfold DX9_cell
    rw [c_isCell G r]
    simp only [qbd_some]
    by_cases k : 0 ≤ a ∧ a < A 1 * A 2
    · rw [if_pos k, if_pos k, if_neg (by decide), if_pos (by omega), ← r.2.2.1 a.toNat (by omega)]
    · rw [if_neg k, if_neg k, if_pos rfl]
  · unfold DX10_cell
    simp only [qlt]
    rw [m_isCellA q G]
    simp only [qbd_some]
    by_cases k : 0 ≤ a ∧ a < A 1 * A 2
    · rw [if_pos k, if_pos k, if_neg (by decide), qw_e (by omega) (by omega), if_pos (by omega), show (14 + a).toNat = 14 + a.toNat by omega, q.is G k.1 k.2]
    · rw [if_neg k, if_neg k, if_pos rfl]
theorem t_current (R : RR n A hc hm) (a p : Int) : Out n (DX9_current a p hc) (DX10_current a p hm) := by
  have R1 := R.m0
  have G := R1.1.1
  have r := R1.1.2.1
  have q := R1.2.2.1.1
  have cc := G.cells
  have h3 := G.2.1
  refine Out.of R1 (r := if (0 ≤ a ∧ a < A 1 * A 2) ∧ 0 ≤ p ∧ p < A 3 then A (50 + 6 * a.toNat + p.toNat) else -2) ?_ ?_
  · unfold DX9_current
    rw [c_isCell G r]
    simp only [qbd_some]
    by_cases k : 0 ≤ a ∧ a < A 1 * A 2
    · rw [if_pos k, if_neg (show ¬ (1 : Int) = 0 by decide), r.1.2.2.1]
      by_cases p0 : 0 ≤ p ∧ p < A 3
      · rw [if_neg (show ¬ p < 0 by omega), if_pos p0.2, c_current G r k (by omega), if_pos ⟨k, p0⟩]
        rfl
      · rw [if_neg (c := _ ∧ _) (fun g => p0 g.2)]
        by_cases p1 : p < 0
        · rw [if_pos p1]
        · rw [if_neg p1, if_neg (by omega)]
    · rw [if_neg k, if_pos rfl, if_neg (c := _ ∧ _) (fun g => k g.1)]
  · unfold DX10_current
    simp only [qlt]
    rw [m_isCellA q G]
    simp only [qbd_some]
    by_cases k : 0 ≤ a ∧ a < A 1 * A 2
    · rw [if_pos k, if_neg (show ¬ (1 : Int) = 0 by decide), q 3 (by omega), qw_e (x := A 3 - 1) (by omega) (by omega), m_within]
      simp only [qbd_some]
      by_cases p0 : 0 ≤ p ∧ p < A 3
      · rw [if_pos (show 0 ≤ p ∧ p ≤ A 3 - 1 by omega), if_neg (show ¬ (1 : Int) = 0 by decide), qw_e (x := 6 * a) (by omega) (by omega), qw_e (x := 50 + 6 * a) (by omega) (by omega), qw_e (x := 50 + 6 * a + p) (by omega) (by omega), if_pos (show 0 ≤ 50 + 6 * a + p ∧ 50 + 6 * a + p < 5736 by omega), show (50 + 6 * a + p).toNat = 50 + 6 * a.toNat + p.toNat by omega, q (50 + 6 * a.toNat + p.toNat) (by omega), if_pos ⟨k, p0⟩]
      · rw [if_neg (show ¬ (0 ≤ p ∧ p ≤ A 3 - 1) by omega), if_pos rfl, if_neg (c := _ ∧ _) (fun g => p0 g.2)]
    · rw [if_neg k, if_pos rfl, if_neg (c := _ ∧ _) (fun g => k g.1)]
theorem t_wind (R : RR n A hc hm) (hn : n ≤ 512) (a m : Int) : Out n (DX9_wind a m hc) (DX10_wind a m hm) := by
  have R1 := R.m0
  have G := R1.1.1
  have r := R1.1.2.1
  have q := R1.2.2.1.1
  have td := R1.tid
  unfold DX9_wind DX10_wind
  simp only [qlt]
  rw [c_isCell G r, m_isCellA q G]
  simp only [qbd_some]
  by_cases k : 0 ≤ a ∧ a < A 1 * A 2
  · simp only [if_pos k, m_within, td.2, qbd_some]
    rw [if_pos (show ¬ (1 : Int) = 0 by decide), if_pos (show ¬ (1 : Int) = 0 by decide)]
    by_cases m0 : 0 ≤ m ∧ m ≤ 999
    · rw [if_neg (show ¬ m < 0 by omega), if_pos m0.2, if_pos m0, if_neg (show ¬ (1 : Int) = 0 by decide), qw_e (by omega) (by omega)]
      obtain ⟨h1, e1, w1⟩ := c_wind R1.1 (k := a) (t := (qu hm 212 0 0).1 213 349 + m) k.1 k.2 (by omega) (by omega)
      obtain ⟨h2, e2⟩ := m_windA q G (k := a) (t := (qu hm 212 0 0).1 213 349 + m) k.1 k.2 (by omega) (by omega)
      have f1 := F_DX2_windAt _ _ _ _ _ e1
      have f2 := F_DX10_windOf _ _ _ _ _ e2
      rw [e1, e2]
      simp only [qbd_some]
      refine Out.of (R1.keep (R1.1.kp f1 (fun i k a b => by omega) w1) (R1.2.1.cg (f1.fn (fun k => by omega)) (f1.2.2.1 (by omega))) f1 (fun i k g => by omega) f2 (fun i k g => by omega)) rfl rfl
    · rw [if_neg m0]
      by_cases p1 : m < 0
      · rw [if_pos p1]
        exact Out.of R1 rfl rfl
      · rw [if_neg p1, if_neg (show ¬ m ≤ 999 by omega)]
        exact Out.of R1 rfl rfl
  · rw [if_neg k]
    exact Out.of R1 rfl rfl
theorem t_bottle (R : RR n A hc hm) (b w : Int) : Out n (DX9_bottle b w hc) (DX10_bottle b w hm) := by
  have R1 := R.m0
  have th := R1.thr
  refine Out.of R1 (r := if (0 ≤ b ∧ b < (qu hm 212 0 0).1 213 348) ∧ 0 ≤ w ∧ w ≤ 7 then (qu hm 212 0 0).1 213 (284 + (8 * b.toNat + w.toNat)) else -8) ?_ ?_
  · unfold DX9_bottle
    rw [c_has (by rw [th.2]; exact th.1), th.2]
    simp only [qbd_some]
    by_cases k : 0 ≤ b ∧ b < (qu hm 212 0 0).1 213 348
    · have hb := fun j (hj : j < 8) => R1.bat (b := b.toNat) (k := j) (by omega) hj
      have b6 := (R1.bot (b := b.toNat) (by omega)).2.1.2.2.2.2.2.2.1
      have b6' : (qu hm 212 0 0).1 213 (284 + (8 * b.toNat + 4)) = 0 ∨ (qu hm 212 0 0).1 213 (284 + (8 * b.toNat + 4)) = 1 := b6
      rw [if_pos k, if_pos (show ¬ (1 : Int) = 0 by decide), if_pos (show 0 ≤ b ∧ b < 8 by omega), hb 0 (by decide), hb 1 (by decide), hb 2 (by decide), hb 3 (by decide), hb 4 (by decide), hb 5 (by decide), hb 6 (by decide), hb 7 (by decide)]
      by_cases w0 : 0 ≤ w ∧ w ≤ 7
      · rw [if_pos (c := _ ∧ _) ⟨k, w0⟩]
        have : w = 0 ∨ w = 1 ∨ w = 2 ∨ w = 3 ∨ w = 4 ∨ w = 5 ∨ w = 6 ∨ w = 7 := by omega
        rcases this with rfl | rfl | rfl | rfl | rfl | rfl | rfl | rfl
        · rfl
        · rfl
        · rfl
        · rfl
        · rw [if_neg (by decide), if_neg (by decide), if_neg (by decide), if_neg (by decide), if_pos rfl]
          rcases b6' with g | g
          · rw [if_pos g]
            show _ = some ((qu hm 212 0 0).1 213 (284 + (8 * b.toNat + 4)), hc)
            rw [g]
          · rw [if_neg (by omega)]
            show _ = some ((qu hm 212 0 0).1 213 (284 + (8 * b.toNat + 4)), hc)
            rw [g]
        · rfl
        · rfl
        · rfl
      · rw [if_neg (c := _ ∧ _) (fun g => w0 g.2), if_neg (show ¬ w = 0 by omega), if_neg (show ¬ w = 1 by omega), if_neg (show ¬ w = 2 by omega), if_neg (show ¬ w = 3 by omega), if_neg (show ¬ w = 4 by omega), if_neg (show ¬ w = 5 by omega), if_neg (show ¬ w = 6 by omega), if_neg (show ¬ w = 7 by omega)]
    · rw [if_neg k, if_neg (c := _ ∧ _) (fun g => k g.1)]
      rfl
  · unfold DX10_bottle
    simp only [qlt]
    rw [m_isBottleA th.1]
    simp only [qbd_some]
    by_cases k : 0 ≤ b ∧ b < (qu hm 212 0 0).1 213 348
    · rw [if_pos k, if_neg (show ¬ (1 : Int) = 0 by decide), m_within]
      simp only [qbd_some]
      by_cases w0 : 0 ≤ w ∧ w ≤ 7
      · rw [if_pos w0, if_neg (show ¬ (1 : Int) = 0 by decide), qw_e (x := 8 * b) (by omega) (by omega), qw_e (x := 284 + 8 * b) (by omega) (by omega), qw_e (x := 284 + 8 * b + w) (by omega) (by omega), if_pos (show 0 ≤ 284 + 8 * b + w ∧ 284 + 8 * b + w < 5736 by omega), show (284 + 8 * b + w).toNat = 284 + (8 * b.toNat + w.toNat) by omega, if_pos (c := _ ∧ _) ⟨k, w0⟩]
      · rw [if_neg w0, if_pos rfl, if_neg (c := _ ∧ _) (fun g => w0 g.2)]
    · rw [if_neg k, if_pos rfl, if_neg (c := _ ∧ _) (fun g => k g.1)]
end asks
