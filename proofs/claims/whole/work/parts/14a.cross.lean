/-! ===== one heap for both: a step of the law ===== -/
section crs
variable {n : Int} {A : Nat → Int}
theorem RR.cross {hc hc' hm hm' : qH} (R : RR n A hc hm) (c : ∀ i, (i < 212 ∨ 225 ≤ i) → hc'.1 i = hc.1 i) (f : hc'.2 = hc.2) (m : ∀ i, 212 ≤ i → i ≤ 224 → hm'.1 i = hm.1 i) : RR n A hc' hm' := by
  obtain ⟨r1, r2, ⟨r3, r3'⟩, r4, r5, r6, r7, r8, r9⟩ := R
  have m13 := m 213 (by omega) (by omega)
  have m12 := m 212 (by omega) (by omega)
  refine ⟨⟨r1.1, r1.2.1.cg (fun i a b => c i (by omega)), by rw [c 4 (by omega)]; exact r1.2.2.1, r1.2.2.2.cg (c 225 (by omega)) (by rw [f])⟩, r2.cg (c 226 (by omega)) (by rw [f]), ⟨by rw [m13]; exact r3, by rw [m12]; exact r3'⟩, ?_, r5.cg (fun i a b => c i (by omega)) m13, r6.cg (by rw [c 0 (by omega)]) (c 1 (by omega)) (by rw [m12]) (m 215 (by omega) (by omega)), r7.cg (by rw [c 2 (by omega)]) (by rw [c 2 (by omega)]) (by rw [m12]) (by rw [m12]), r8.cg (fun i a b => c i (by omega)) (m 222 (by omega) (by omega)) (m 223 (by omega) (by omega)) (m 224 (by omega) (by omega)), r9.cg (fun i a b => c i (by omega)) m13 (m 214 (by omega) (by omega))⟩
  rw [m13]
  exact r4.cg (fun i a b => c i (by omega))
/-- the class runs on the heap, then the reference on what it left -/
theorem law_step {X M : qH → Option (Int × qH)} {PX PM : Nat → Nat → Prop} {h : qH} (R : RR n A h h) (T : ∀ hc hm, RR n A hc hm → Out n (X hc) (M hm)) (fX : ∀ g, Fp PX g (X g)) (pX : ∀ i k, 212 ≤ i → i ≤ 224 → ¬ PX i k) (fM : ∀ g, Fp PM g (M g)) (pM : ∀ i k, (i < 212 ∨ 225 ≤ i) → ¬ PM i k) :
    ∃ r h1 h2 A', X h = some (r, h1) ∧ M h1 = some (r, h2) ∧ RR (n + 1) A' h2 h2 := by
  obtain ⟨r0, h1, _, _, e1, _, _⟩ := T h h R
  have g1 := fX h r0 h1 e1
  have R1 : RR n A h h1 := R.cross (fun _ _ => rfl) rfl (fun i a b => g1.fn (fun k => pX i k a b))
  obtain ⟨r, hc', h2, A', e2, e3, R2⟩ := T h h1 R1
  have e4 : r = r0 ∧ hc' = h1 := by
    rw [e1] at e2
    injection e2 with e2
    injection e2 with a b
    exact ⟨a.symm, b.symm⟩
  obtain ⟨rfl, rfl⟩ := e4
  have g2 := fM hc' r h2 e3
  refine ⟨r, hc', h2, A', e1, e3, R2.cross (fun i a => g2.fn (fun k => pM i k a)) ?_ (fun _ _ _ => rfl)⟩
  exact Prod.ext (g2.2.1 (pM 225 0 (by omega))) (Prod.ext (g2.2.2.1 (pM 226 0 (by omega))) (g2.2.2.2 (pM 900 0 (by omega))))
end crs
