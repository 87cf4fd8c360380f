/-! ===== class and reference side by side ===== -/
/-- the class's waters w hold the block B (64 numbers of bottles, how many, the tide) -/
def wr (hc : qH) (w : Nat) (B : Nat → Int) (A : Nat → Int) (T : Int) : Prop :=
  hc.1 w 1 = B 64 ∧ hc.1 w 2 = B 65 ∧ (0 ≤ B 64 ∧ B 64 ≤ 8) ∧ (0 ≤ B 65 ∧ B 65 ≤ T) ∧
  ∀ b : Nat, (b : Int) < B 64 → nb (hc.1 (w + 2 + b)) = nb (fun k => B (8 * b + k)) ∧ cB A (B 65) (fun k => B (8 * b + k)) ∧ cK (fun k => B (8 * b + k))
def PA (n : Int) (A : Nat → Int) (hc hm : qH) : Prop := (0 ≤ hc.1 44 1 ∧ hc.1 44 1 ≤ 10) ∧ hc.1 44 2 = hm.1 213 350 ∧ (0 ≤ hm.1 213 350 ∧ hm.1 213 350 ≤ 10) ∧
  ∀ i : Nat, (i : Int) < hm.1 213 350 → wr hc (46 + 10 * (((hc.1 44 1).toNat + i) % 11)) (fun j => hm.1 213 (351 + 66 * i + j)) A (99 * n)
def TA (hc hm : qH) : Prop := hc.1 0 1 = hm.1 212 5 ∧ (0 ≤ hm.1 212 5 ∧ hm.1 212 5 ≤ 900) ∧ ∀ k, k < 900 → (-128 ≤ hc.1 1 k ∧ hc.1 1 k < 128) ∧ hm.1 215 k = hc.1 1 k % 256
def FA (hc hm : qH) : Prop := hc.1 2 1 = hm.1 212 13 ∧ hc.1 2 2 = hm.1 212 14
def YA (hc hm : qH) : Prop := ∀ t : Nat, t < 4 → hc.1 (168 + 2 * t) 1 = hm.1 222 t ∧ hc.1 (168 + 2 * t) 2 = hm.1 223 t ∧ (-1 ≤ hm.1 222 t ∧ hm.1 222 t ≤ 3) ∧ (0 ≤ hm.1 223 t ∧ hm.1 223 t ≤ 40) ∧ ∀ k : Nat, (k : Int) < hm.1 223 t → hc.1 (169 + 2 * t) k = hm.1 224 (40 * t + k)
def IA (n : Int) (hc hm : qH) : Prop := ∀ i : Nat, i < 2 → hc.1 167 i = hm.1 214 i ∧ (hm.1 214 i = 0 ∨ (hm.1 214 i = 1 ∧ ∃ Ai, sq Ai (fun k => hm.1 213 (1912 * (i + 1) + k)) ∧ cG Ai ∧ cR hc (176 + 18 * i) Ai ∧ wr hc (184 + 18 * i) (fun j => hm.1 213 (1912 * (i + 1) + (284 + j))) Ai (99 * n)))
def RR (n : Int) (A : Nat → Int) (hc hm : qH) : Prop := cE hc A (-1) ∧ cO hc A ∧ (sq A (hm.1 213) ∧ hm.1 212 19 = -1) ∧ wr hc 24 (fun j => hm.1 213 (284 + j)) A (99 * n) ∧ PA n A hc hm ∧ TA hc hm ∧ FA hc hm ∧ YA hc hm ∧ IA n hc hm
theorem wr.cg {hc hc' : qH} {w : Nat} {B A : Nat → Int} {T : Int} (r : wr hc w B A T) (e : ∀ i, w ≤ i → i ≤ w + 9 → hc'.1 i = hc.1 i) : wr hc' w B A T := by
  obtain ⟨r1, r2, r3, r4, r5⟩ := r
  refine ⟨by rw [e w (by omega) (by omega)]; exact r1, by rw [e w (by omega) (by omega)]; exact r2, r3, r4, fun b hb => ?_⟩
  rw [e (w + 2 + b) (by omega) (by omega)]
  exact r5 b hb
theorem wr.grow {hc : qH} {w : Nat} {B A : Nat → Int} {T U : Int} (r : wr hc w B A T) (h : T ≤ U) : wr hc w B A U := by
  obtain ⟨r1, r2, r3, r4, r5⟩ := r
  exact ⟨r1, r2, r3, ⟨r4.1, by omega⟩, r5⟩
theorem PA.cg {n : Int} {A : Nat → Int} {hc hc' hm hm' : qH} (r : PA n A hc hm) (e : ∀ i, 44 ≤ i → i ≤ 155 → hc'.1 i = hc.1 i) (e2 : hm'.1 213 = hm.1 213) : PA n A hc' hm' := by
  unfold PA at *
  rw [e 44 (by omega) (by omega), e2]
  refine ⟨r.1, r.2.1, r.2.2.1, fun i hi => (r.2.2.2 i hi).cg (fun j h1 h2 => e j ?_ ?_)⟩
  · omega
  · omega
theorem IA.cg {n : Int} {hc hc' hm hm' : qH} (r : IA n hc hm) (e : ∀ i, (i = 167 ∨ 176 ≤ i) → i < 212 → hc'.1 i = hc.1 i) (e2 : hm'.1 213 = hm.1 213) (e3 : hm'.1 214 = hm.1 214) : IA n hc' hm' := by
  unfold IA at *
  intro i hi
  rw [e 167 (by omega) (by omega), e2, e3]
  obtain ⟨r1, r2⟩ := r i hi
  refine ⟨r1, ?_⟩
  rcases r2 with r2 | ⟨r2, Ai, a1, a2, a3, a4⟩
  · exact Or.inl r2
  · exact Or.inr ⟨r2, Ai, a1, a2, a3.cg (fun j h1 h2 => e j (by omega) (by omega)), a4.cg (fun j h1 h2 => e j (by omega) (by omega))⟩
theorem YA.cg {hc hc' hm hm' : qH} (r : YA hc hm) (e : ∀ i, 167 ≤ i → i < 212 → hc'.1 i = hc.1 i) (e2 : hm'.1 222 = hm.1 222) (e3 : hm'.1 223 = hm.1 223) (e4 : hm'.1 224 = hm.1 224) : YA hc' hm' := by
  unfold YA at *
  intro t ht
  rw [e (168 + 2 * t) (by omega) (by omega), e (169 + 2 * t) (by omega) (by omega), e2, e3, e4]
  exact r t ht
theorem TA.cg {hc hc' hm hm' : qH} (r : TA hc hm) (e : hc'.1 0 1 = hc.1 0 1) (e1 : hc'.1 1 = hc.1 1) (e2 : hm'.1 212 5 = hm.1 212 5) (e3 : hm'.1 215 = hm.1 215) : TA hc' hm' := by
  unfold TA at *
  rw [e, e1, e2, e3]
  exact r
theorem FA.cg {hc hc' hm hm' : qH} (r : FA hc hm) (e0 : hc'.1 2 1 = hc.1 2 1) (e1 : hc'.1 2 2 = hc.1 2 2) (e2 : hm'.1 212 13 = hm.1 212 13) (e3 : hm'.1 212 14 = hm.1 212 14) : FA hc' hm' := by
  unfold FA at *
  rw [e0, e1, e2, e3]
  exact r
/-- what looks and leaves -/
theorem RR.keep {n : Int} {A : Nat → Int} {hc hc' hm hm' : qH} {Pc Pm : Nat → Nat → Prop} (R : RR n A hc hm) (E : cE hc' A (-1)) (O : cO hc' A) (fc : fr Pc hc hc') (pc : ∀ i k, (i ≤ 1 ∨ (i = 2 ∧ 1 ≤ k ∧ k < 3) ∨ (24 ≤ i ∧ i ≤ 33) ∨ (44 ≤ i ∧ i ≤ 155) ∨ (167 ≤ i ∧ i < 212)) → ¬ Pc i k)
    (fm : fr Pm hm hm') (pm : ∀ i k, ((213 ≤ i ∧ i ≤ 215) ∨ (222 ≤ i ∧ i ≤ 224) ∨ (i = 212 ∧ (k = 5 ∨ k = 13 ∨ k = 14 ∨ k = 19))) → ¬ Pm i k) : RR n A hc' hm' := by
  obtain ⟨r1, r2, ⟨r3, r3'⟩, r4, r5, r6, r7, r8, r9⟩ := R
  have c : ∀ i, (i ≤ 1 ∨ (24 ≤ i ∧ i ≤ 33) ∨ (44 ≤ i ∧ i ≤ 155) ∨ (167 ≤ i ∧ i < 212)) → hc'.1 i = hc.1 i := fun i hi => fc.fn (fun k => pc i k (by omega))
  have m : ∀ i, ((213 ≤ i ∧ i ≤ 215) ∨ (222 ≤ i ∧ i ≤ 224)) → hm'.1 i = hm.1 i := fun i hi => fm.fn (fun k => pm i k (by omega))
  have m2 : ∀ k, (k = 5 ∨ k = 13 ∨ k = 14 ∨ k = 19) → hm'.1 212 k = hm.1 212 k := fun k hk => fm.at 212 k (pm 212 k (by omega))
  have m13 := m 213 (by omega)
  refine ⟨E, O, ⟨by rw [m13]; exact r3, by rw [m2 19 (by omega)]; exact r3'⟩, ?_, r5.cg (fun i a b => c i (by omega)) m13, r6.cg (by rw [c 0 (by omega)]) (c 1 (by omega)) (m2 5 (by omega)) (m 215 (by omega)), r7.cg (fc.at 2 1 (pc 2 1 (by omega))) (fc.at 2 2 (pc 2 2 (by omega))) (m2 13 (by omega)) (m2 14 (by omega)), r8.cg (fun i a b => c i (by omega)) (m 222 (by omega)) (m 223 (by omega)) (m 224 (by omega)), r9.cg (fun i a b => c i (by omega)) m13 (m 214 (by omega))⟩
  rw [m13]
  exact r4.cg (fun i a b => c i (by omega))
theorem RR.grow {n m : Int} {A : Nat → Int} {hc hm : qH} (R : RR n A hc hm) (h : n ≤ m) : RR m A hc hm := by
  obtain ⟨r1, r2, r3, r4, r5, r6, r7, r8, r9⟩ := R
  refine ⟨r1, r2, r3, r4.grow (by omega), ⟨r5.1, r5.2.1, r5.2.2.1, fun i hi => (r5.2.2.2 i hi).grow (by omega)⟩, r6, r7, r8, fun i hi => ⟨(r9 i hi).1, ?_⟩⟩
  rcases (r9 i hi).2 with q | ⟨q, Ai, a1, a2, a3, a4⟩
  · exact Or.inl q
  · exact Or.inr ⟨q, Ai, a1, a2, a3, a4.grow (by omega)⟩
/-! the reference's small questions, over a sea A -/
section ma
variable {h : qH} {A : Nat → Int}
theorem m_isCellA (q : sq A (h.1 213)) (G : cG A) (k : Int) : DX10_isCell k h = some (if 0 ≤ k ∧ k < A 1 * A 2 then 1 else 0, h) := by
  have hc := G.cells
  unfold DX10_isCell DX10_cells
  simp only [qbd_some]
  rw [q 1 (by omega), q 2 (by omega), qw_e (x := A 1 * A 2) (by omega) (by omega), qw_e (by omega) (by omega), m_within]
  simp only [qbd_some]
  by_cases e : 0 ≤ k ∧ k < A 1 * A 2
  · rw [if_pos e, if_pos (show 0 ≤ k ∧ k ≤ A 1 * A 2 - 1 by omega), if_pos (by decide)]
  · rw [if_neg e, if_neg (show ¬ (0 ≤ k ∧ k ≤ A 1 * A 2 - 1) by omega), if_pos (by decide)]
theorem m_isShoreA (q : sq A (h.1 213)) (G : cG A) (s : Int) : DX10_isShore s h = some (if 0 ≤ s ∧ s < A 4 then 1 else 0, h) := by
  have h4 := G.2.2.1
  unfold DX10_isShore
  rw [q 4 (by omega), qw_e (by omega) (by omega), m_within]
  simp only [qbd_some]
  by_cases e : 0 ≤ s ∧ s < A 4
  · rw [if_pos e, if_pos (show 0 ≤ s ∧ s ≤ A 4 - 1 by omega), if_pos (by decide)]
  · rw [if_neg e, if_neg (show ¬ (0 ≤ s ∧ s ≤ A 4 - 1) by omega), if_pos (by decide)]
theorem m_isBottleA (hb : 0 ≤ h.1 213 348 ∧ h.1 213 348 ≤ 8) (b : Int) : DX10_isBottle b h = some (if 0 ≤ b ∧ b < h.1 213 348 then 1 else 0, h) := by
  unfold DX10_isBottle
  rw [qw_e (by omega) (by omega), m_within]
  simp only [qbd_some]
  by_cases e : 0 ≤ b ∧ b < h.1 213 348
  · rw [if_pos e, if_pos (show 0 ≤ b ∧ b ≤ h.1 213 348 - 1 by omega), if_pos (by decide)]
  · rw [if_neg e, if_neg (show ¬ (0 ≤ b ∧ b ≤ h.1 213 348 - 1) by omega), if_pos (by decide)]
theorem m_isOpenA (q : sq A (h.1 213)) (G : cG A) {k : Int} (k0 : 0 ≤ k ∧ k < A 1 * A 2) : DX10_isOpen k h = some (if A (14 + k.toNat) = 0 then 1 else 0, h) := by
  have hc := G.cells
  rw [m_isOpen (cG_q q G) (by omega), q.is G k0.1 k0.2]
  by_cases e : A (14 + k.toNat) = 0
  · rw [if_pos e, if_pos ⟨by omega, e⟩]
  · rw [if_neg e, if_neg (fun g => e g.2)]
theorem m_phaseA (q : sq A (h.1 213)) (G : cG A) {t : Int} (h0 : 0 ≤ t) (h1 : t < 2147483648) : DX10_phaseOf t h = some (cv_ph A t, h) := by
  rw [m_phase (cG_q q G) h0 h1, cv_ph_q q]
theorem m_moonA (q : sq A (h.1 213)) (G : cG A) {t : Int} (h0 : 0 ≤ t) (h1 : t < 2147483648) : DX10_moonOf t h = some (cv_mo A t, h) := by
  rw [m_moon (cG_q q G) h0 h1, cv_mo_q q]
theorem m_windA (q : sq A (h.1 213)) (G : cG A) {k t : Int} (k0 : 0 ≤ k) (k1 : k < A 1 * A 2) (h0 : 0 ≤ t) (h1 : t < 2147483648) : ∃ h', DX10_windOf k t h = some (cv_wind A k (cv_ph A t) (cv_mo A t), h') := by
  obtain ⟨h', e⟩ := m_wind (cG_q q G) k0 (by rw [q 1 (by omega), q 2 (by omega)]; exact k1) h0 h1
  rw [cv_wind_q q G, cv_ph_q q, cv_mo_q q] at e
  exact ⟨h', e⟩
end ma
theorem c_has {h : qH} {w : Nat} (hb : 0 ≤ h.1 w 1 ∧ h.1 w 1 ≤ 8) (b : Int) : DX7_has w b h = some (if 0 ≤ b ∧ b < h.1 w 1 then 1 else 0, h) := by
  unfold DX7_has
  (repeat' split) <;> first | rfl | omega
