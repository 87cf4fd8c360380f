/-! ===== draft and commit against keepsAll and notes ===== -/
/-- the place of the ring that comes next -/
def nxs (hc : qH) : Nat := 46 + 10 * (((hc.1 44 1).toNat + (hc.1 44 2).toNat) % 11)
section psh
variable {n : Int} {A : Nat → Int}
theorem RR.past {hc hm : qH} (R : RR n A hc hm) : PA n A hc hm := R.2.2.2.2.1
theorem nxs_r {hc hm : qH} (P : PA n A hc hm) : 46 ≤ nxs hc ∧ nxs hc ≤ 146 := by unfold nxs; omega
/-- the class drafts: only the next place of the ring is another -/
theorem c_draft {hc hm : qH} (R : RR n A hc hm) : ∃ hc', DX3_draft 24 hc = some (0, hc') ∧ wr hc' (nxs hc) (fun j => hm.1 213 (284 + j)) A (99 * n) ∧ (∀ i, ¬ (nxs hc ≤ i ∧ i ≤ nxs hc + 9) → hc'.1 i = hc.1 i) ∧ hc'.2 = hc.2 := by
  have P := R.past
  have hr := nxs_r P
  have p1 := P.1
  have p2 := P.2.1
  have p3 := P.2.2.1
  unfold DX3_draft
  rw [c_slot p1 (by omega), qbd_some]
  obtain ⟨h1, e1, w1, o1, f1⟩ := c_wtake (h := hc) (i0 := nxs hc) (i1 := 24) (by omega) (by omega) R.2.2.2.1
  rw [Int.toNat_natCast]
  have e1' : DX7_takeFrom (46 + 10 * (((hc.1 44 1).toNat + (hc.1 44 2).toNat) % 11)) 24 hc = some (0, h1) := e1
  rw [e1', qbd_some]
  exact ⟨h1, rfl, w1, fun i hi => o1 i (by omega), f1⟩
/-- the class commits -/
theorem c_commit {hc : qH} (p1 : 0 ≤ hc.1 44 1 ∧ hc.1 44 1 ≤ 10) (p2 : 0 ≤ hc.1 44 2 ∧ hc.1 44 2 ≤ 10) : ∃ hc' s, DX3_commit hc = some (0, hc') ∧ (s = if hc.1 44 2 = 10 then 1 else 0) ∧ hc'.1 44 1 = (hc.1 44 1 + (s : Nat)) % 11 ∧ hc'.1 44 2 = hc.1 44 2 + 1 - (s : Nat) ∧ (∀ i, ¬ i = 44 → hc'.1 i = hc.1 i) ∧ hc'.2 = hc.2 := by
  unfold DX3_commit
  by_cases q : hc.1 44 2 = 10
  · rw [if_pos (by omega), qw_e (by omega) (by omega), floorMod_e (by omega) (by omega) (by decide) (by decide), qbd_some]
    simp only [qlt]
    refine ⟨_, 1, rfl, by rw [if_pos q], by rw [qu_s, up_s]; rfl, ?_, fun i hi => qu_ne hi, rfl⟩
    rw [qu_s, up_n _ _ (by decide)]
    omega
  · rw [if_neg (by omega), qw_e (by omega) (by omega)]
    simp only [qlt]
    refine ⟨_, 0, rfl, by rw [if_neg q], ?_, by rw [qu_s, up_s]; omega, fun i hi => qu_ne hi, rfl⟩
    rw [qu_s, up_n _ _ (by decide)]
    omega
/-- a call more that can be undone -/
theorem PA.push {hc hc3 hm hm3 : qH} {old : Nat → Int} {s : Nat} (P : PA n A hc hm) (hs : s = if hc.1 44 2 = 10 then 1 else 0)
    (w : wr hc3 (nxs hc) old A (99 * n)) (o : ∀ i, 46 ≤ i → i ≤ 155 → ¬ (nxs hc ≤ i ∧ i ≤ nxs hc + 9) → hc3.1 i = hc.1 i)
    (c1 : hc3.1 44 1 = (hc.1 44 1 + (s : Nat)) % 11) (c2 : hc3.1 44 2 = hc.1 44 2 + 1 - (s : Nat))
    (m1 : hm3.1 213 350 = hm.1 213 350 + 1 - (s : Nat)) (m2 : ∀ i j : Nat, (i : Int) < hm.1 213 350 - s → j < 66 → hm3.1 213 (351 + 66 * i + j) = hm.1 213 (351 + 66 * (i + s) + j)) (m3 : ∀ j, j < 66 → hm3.1 213 (351 + 66 * (hm.1 213 350 - s).toNat + j) = old j) : PA n A hc3 hm3 := by
  obtain ⟨p1, p2, p3, p4⟩ := P
  have s01 : (s = 1 ∧ hc.1 44 2 = 10) ∨ (s = 0 ∧ ¬ hc.1 44 2 = 10) := by
    by_cases q : hc.1 44 2 = 10
    · rw [if_pos q] at hs
      exact Or.inl ⟨hs, q⟩
    · rw [if_neg q] at hs
      exact Or.inr ⟨hs, q⟩
  refine ⟨by rw [c1]; omega, by rw [c2, m1]; omega, by rw [m1]; omega, fun i hi => ?_⟩
  rw [m1] at hi
  by_cases ei : (i : Int) = hm.1 213 350 - s
  · have e1 : 46 + 10 * (((hc3.1 44 1).toNat + i) % 11) = nxs hc := by
      rw [c1]
      unfold nxs
      rcases s01 with ⟨a, b⟩ | ⟨a, b⟩ <;> omega
    rw [e1]
    refine w.cb (fun j hj => ?_)
    rw [← m3 j hj, show (hm.1 213 350 - (s : Int)).toNat = i by omega]
  · have hi2 : (i : Int) < hm.1 213 350 - s := by omega
    have e1 : 46 + 10 * (((hc3.1 44 1).toNat + i) % 11) = 46 + 10 * (((hc.1 44 1).toNat + (i + s)) % 11) := by
      rw [c1]
      rcases s01 with ⟨a, b⟩ | ⟨a, b⟩ <;> omega
    have ne : ¬ (46 + 10 * (((hc.1 44 1).toNat + (i + s)) % 11) = nxs hc) := by
      unfold nxs
      rcases s01 with ⟨a, b⟩ | ⟨a, b⟩ <;> omega
    rw [e1]
    have K := p4 (i + s) (by omega)
    refine (K.cg (fun j a b => o j (by omega) (by omega) (by unfold nxs at ne ⊢; omega))).cb (fun j hj => m2 i j hi2 hj)
end psh
