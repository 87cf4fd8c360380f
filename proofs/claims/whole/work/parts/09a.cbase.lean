/-! ===== the class: how its chart holds a sea; small computations ===== -/
def cv_cm (c : Int) : Int := if c < 2000 then c else if c = 3000 then 2043 else if c = 3001 then 2045 else if c = 3002 then 2042 else if c = 3003 then 2061 else if c = 3004 then 2060 else if c = 3005 then 2062 else if c = 3006 then 2002 else if c = 3007 then 2001 else 2003
def cv_cnt (A : Nat → Int) : Nat → Int
  | 0 => 0
  | n + 1 => cv_cnt A n + (if A (14 + n) = 1 then 1 else 0)
/-- a law's row in the class: law 0 its fields 7, 8; law 1 its fields 9, 10 -/
def cv_lr (h : qH) (c : Nat) (A : Nat → Int) (law : Nat) : Prop :=
  (A (8 + law) = 0 ∧ h.1 c (8 + 2 * law) ≤ h.1 c (7 + 2 * law)) ∨
  (A (8 + law) = 1 ∧ h.1 c (7 + 2 * law) = A (10 + law) ∧ h.1 c (8 + 2 * law) = A (10 + law) + A (12 + law) ∧ ∀ i : Nat, i < (A (12 + law)).toNat → h.1 (c + 7) ((A (10 + law)).toNat + i) = cv_cm (A (1012 + (A (10 + law)).toNat + i)))
def cR (h : qH) (c : Nat) (A : Nat → Int) : Prop :=
  (h.1 c 11 = A 1 ∧ h.1 c 12 = A 2 ∧ h.1 c 13 = A 3 ∧ h.1 c 14 = A 4) ∧ (h.1 c 16 = A 0 ∧ h.1 c 17 = A 5 ∧ h.1 c 18 = A 6 ∧ h.1 c 19 = A 7 ∧ h.1 c 15 = cv_cnt A (A 1 * A 2).toNat) ∧
  (∀ k, k < 36 → h.1 (c + 1) k = A (14 + k)) ∧ (∀ j, j < 216 → h.1 (c + 2) j = A (50 + j)) ∧
  (∀ s : Nat, (s : Int) < A 4 → h.1 (c + 3) s = A (266 + s) ∧ h.1 (c + 4) s = A (272 + s) ∧ h.1 (c + 6) s = A (278 + s) ∧ h.1 (c + 5) s = cv_to A s) ∧
  cv_lr h c A 0 ∧ cv_lr h c A 1
/-- what is known of winds -/
def cW (h : qH) (A : Nat → Int) : Prop := h.2.1 = true → ∀ k ph mo : Nat, (k : Int) < A 1 * A 2 → (ph : Int) < A 3 → mo < 30 → h.1 225 ((k * 6 + ph) * 30 + mo) = 0 ∨ h.1 225 ((k * 6 + ph) * 30 + mo) = cv_wind A k ph mo + 1
def cE (h : qH) (A : Nat → Int) (e : Int) : Prop := cG A ∧ cR h 5 A ∧ h.1 4 6 = e ∧ cW h A
theorem cR.cg {h h' : qH} {c : Nat} {A : Nat → Int} (r : cR h c A) (e : ∀ i, c ≤ i → i ≤ c + 7 → h'.1 i = h.1 i) : cR h' c A := by
  obtain ⟨r1, r2, r3, r4, r5, r6, r7⟩ := r
  unfold cR cv_lr
  rw [e c (by omega) (by omega), e (c + 1) (by omega) (by omega), e (c + 2) (by omega) (by omega), e (c + 3) (by omega) (by omega), e (c + 4) (by omega) (by omega), e (c + 5) (by omega) (by omega), e (c + 6) (by omega) (by omega), e (c + 7) (by omega) (by omega)]
  exact ⟨r1, r2, r3, r4, r5, r6, r7⟩
theorem cW.cg {h h' : qH} {A : Nat → Int} (r : cW h A) (e : h'.1 225 = h.1 225) (e2 : h'.2.1 = h.2.1) : cW h' A := by
  unfold cW
  rw [e, e2]
  exact r
/-- the environment stays where a computation keeps off -/
theorem cE.kp {P : Nat → Nat → Prop} {h h' : qH} {A : Nat → Int} {e : Int} (r : cE h A e) (f : fr P h h') (p : ∀ i k, 4 ≤ i → i ≤ 12 → ¬ P i k) (w : cW h' A) : cE h' A e :=
  ⟨r.1, r.2.1.cg (fun i h1 h2 => f.fn (fun k => p i k (by omega) (by omega))), by rw [f.at 4 6 (p 4 6 (by omega) (by omega))]; exact r.2.2.1, w⟩
theorem cE.kq {P : Nat → Nat → Prop} {h h' : qH} {A : Nat → Int} {e : Int} (r : cE h A e) (f : fr P h h') (p : ∀ i k, 4 ≤ i → i ≤ 12 → ¬ P i k) (q : ∀ k, ¬ P 225 k) : cE h' A e :=
  r.kp f p (r.2.2.2.cg (f.fn q) (f.2.1 (q 0)))
section cb
variable {h : qH} {A : Nat → Int} {c : Nat}
theorem c_isCell (G : cG A) (r : cR h c A) (k : Int) : DX1_isCell c k h = some (if 0 ≤ k ∧ k < A 1 * A 2 then 1 else 0, h) := by
  have hc := G.cells
  unfold DX1_isCell
  rw [r.1.1, r.1.2.1, qw_e (by omega) (by omega)]
  (repeat' split) <;> first | rfl | omega
theorem c_isOpen (G : cG A) (r : cR h c A) (k : Int) : DX1_isOpen c k h = some (if 0 ≤ k ∧ k < A 1 * A 2 ∧ A (14 + k.toNat) = 0 then 1 else 0, h) := by
  have hc := G.cells
  unfold DX1_isOpen
  rw [r.1.1, r.1.2.1, qw_e (by omega) (by omega)]
  by_cases h1 : 0 ≤ k ∧ k < A 1 * A 2
  · rw [if_neg (by omega), if_neg (by omega), if_neg (by omega), if_pos (by omega), r.2.2.1 k.toNat (by omega)]
    by_cases h2 : A (14 + k.toNat) = 0
    · rw [if_neg (fun g => g h2), if_pos ⟨h1.1, h1.2, h2⟩]
    · rw [if_pos h2, if_neg (fun g => h2 g.2.2)]
  · have h3 : ¬ (0 ≤ k ∧ k < A 1 * A 2 ∧ A (14 + k.toNat) = 0) := fun g => h1 ⟨g.1, g.2.1⟩
    rw [if_neg h3]
    (repeat' split) <;> first | rfl | omega
theorem c_isShore (G : cG A) (r : cR h c A) (s : Int) : DX1_isShore c s h = some (if 0 ≤ s ∧ s < A 4 then 1 else 0, h) := by
  have h4 := G.2.2.1
  unfold DX1_isShore
  rw [r.1.2.2.2]
  (repeat' split) <;> first | rfl | omega
theorem c_throwCell (G : cG A) (r : cR h c A) (s : Int) : DX1_throwCell c s h = some (if 0 ≤ s ∧ s < A 4 then cv_to A s else -1, h) := by
  have h4 := G.2.2.1
  unfold DX1_throwCell
  rw [r.1.2.2.2]
  by_cases h1 : 0 ≤ s ∧ s < A 4
  · have h5 := (r.2.2.2.2.1 s.toNat (by omega)).2.2.2
    rw [if_neg (by omega), if_neg (by omega), if_neg (by omega), if_pos (by omega), if_pos h1, h5, show ((s.toNat : Nat) : Int) = s by omega]
  · rw [if_neg h1]
    (repeat' split) <;> first | rfl | omega
theorem c_phase (G : cG A) (r : cR h c A) {t : Int} (h0 : 0 ≤ t) (h1 : t < 2147483648) : DX1_phaseOf c t h = some (cv_ph A t, h) := by
  have := G.2.1
  unfold DX1_phaseOf cv_ph
  rw [r.1.2.2.1, if_neg (by omega), if_neg (by omega), qrem_e h0 h1 (by omega) (by omega)]
theorem c_moon (G : cG A) (r : cR h c A) {t : Int} (h0 : 0 ≤ t) (h1 : t < 2147483648) : DX1_moonOf c t h = some (cv_mo A t, h) := by
  have := G.2.2.2.1
  unfold DX1_moonOf cv_mo
  rw [r.2.1.2.1]
  by_cases e : A 5 = 0
  · rw [if_pos (by omega), if_pos e]
  · rw [if_neg (by omega), if_neg e, if_neg e, qrem_e h0 h1 (by omega) (by omega)]
theorem c_spring (G : cG A) (r : cR h c A) {t : Int} (h0 : 0 ≤ t) (h1 : t < 2147483648) : DX1_isSpring c t h = some (if 0 < A 5 ∧ cv_mo A t < A 6 then 1 else 0, h) := by
  have := G.2.2.2.1
  unfold DX1_isSpring cv_mo
  rw [r.2.1.2.1, r.2.1.2.2.1]
  by_cases e : A 5 = 0
  · rw [if_pos (by omega), if_neg (by omega)]
  · rw [if_neg (by omega), if_neg e, if_neg e, qrem_e h0 h1 (by omega) (by omega)]
    (repeat' split) <;> first | rfl | omega
theorem c_beside (G : cG A) (r : cR h c A) {k : Int} (h0 : 0 ≤ k) (h1 : k < A 1 * A 2) (way : Int) : DX1_beside c k way h = some (cv_bes A k way, h) := by
  obtain ⟨hw, hh1, hh2⟩ := G.wh h0 h1
  have hc := G.cells
  unfold DX1_beside cv_bes
  rw [r.1.1, r.1.2.1, qw_e (x := A 1 * A 2) (by omega) (by omega), if_neg (by omega), if_neg (by omega), if_pos (by omega), if_neg (show ¬ A 1 = 0 by omega), if_neg (show ¬ A 1 = 0 by omega), qrem_e h0 (by omega) (by omega) (by omega)]
  simp (disch := omega) only [qw_e]
  (repeat' split) <;> first | rfl | omega
theorem c_current (G : cG A) (r : cR h c A) {k ph : Int} (h0 : 0 ≤ k ∧ k < A 1 * A 2) (h1 : 0 ≤ ph ∧ ph < 6) : DX1_currentAt c k ph h = some (A (50 + 6 * k.toNat + ph.toNat), h) := by
  have hc := G.cells
  unfold DX1_currentAt DX1_currentAt_b23
  rw [c_isCell G r, if_pos h0]
  simp only [qbd_some]
  rw [if_neg (by decide), if_neg (by omega), if_neg (by omega), if_neg (by decide), qw_e (x := k * 6) (by omega) (by omega), qw_e (x := k * 6 + ph) (by omega) (by omega), if_pos (by omega), show (k * 6 + ph).toNat = 6 * k.toNat + ph.toNat by omega, r.2.2.2.1 _ (by omega), Nat.add_assoc]
end cb
