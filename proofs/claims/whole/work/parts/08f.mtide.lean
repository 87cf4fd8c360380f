theorem fr.fn {P : Nat → Nat → Prop} {a b : qH} (f : fr P a b) {i : Nat} (h : ∀ k, ¬ P i k) : b.1 i = a.1 i := funext (fun k => f.1 i k (h k))
/-! ===== the reference: a tide for one bottle ===== -/
theorem m_goes {h : qH} (G : cG (h.1 213)) {way N : Int} (b : cB (h.1 213) N (h.1 217)) (w0 : 0 ≤ way ∧ way ≤ 4) (h0 : h.1 217 0 = 0) : ∃ h', DX10_goes way h = some (0, h') ∧ h'.1 217 = cv_step (h.1 213) way (h.1 217) := by
  have b1 := b.2.1
  have hc := G.cells
  unfold DX10_goes DX10_goes_b28
  by_cases e : way = 0
  · rw [if_pos e, if_neg (fun g => g rfl)]
    refine ⟨h, rfl, ?_⟩
    unfold cv_step cv_bes
    rw [e]
    rfl
  · rw [if_neg e, if_pos h0, m_beyond G b1.1 b1.2 (by omega) (by omega)]
    simp only [qbd_some]
    have hr := cv_bes_r G (way := way) b1.1 b1.2
    unfold cv_step
    generalize cv_bes (h.1 213) (h.1 217 1) way = r at *
    by_cases er : r = -1
    · rw [if_neg (fun g => g er), if_pos er]
      exact ⟨h, rfl, rfl⟩
    · rw [if_pos er, if_neg er]
      simp only [qlt]
      have hi : 0 ≤ 14 + r ∧ 14 + r < 5736 := by omega
      rw [qw_e (x := 14 + r) (by omega) (by omega), qu_ne (j := 213) (by decide), show (14 + r).toNat = 14 + r.toNat by omega]
      simp only [if_pos hi]
      by_cases e0 : h.1 213 (14 + r.toNat) = 0
      · rw [if_neg (fun g => g e0), if_pos e0]
        exact ⟨_, rfl, by rw [qu_s, qu_s]⟩
      · rw [if_pos e0, if_neg e0]
        by_cases e1 : h.1 213 (14 + r.toNat) = 1
        · rw [if_neg (fun g => g e1), if_pos e1]
          exact ⟨_, rfl, by rw [qu_s, qu_s]⟩
        · rw [if_pos e1, if_neg e1]
          exact ⟨_, rfl, by rw [qu_s, qu_s]⟩
theorem cG.cur {A : Nat → Int} (G : cG A) {k ph : Int} (h0 : 0 ≤ k ∧ k < A 1 * A 2) (h1 : 0 ≤ ph ∧ ph < 6) : 0 ≤ A (50 + 6 * k.toNat + ph.toNat) ∧ A (50 + 6 * k.toNat + ph.toNat) ≤ 4 := by
  have hc := G.cells
  have := G.2.2.2.2.2.2.2.1 (6 * k.toNat + ph.toNat) (by omega)
  rw [← Nat.add_assoc] at this
  exact this
theorem m_cur {h : qH} (G : cG (h.1 213)) {t N : Int} (b : cB (h.1 213) N (h.1 217)) (t0 : 0 ≤ t) (t1 : t < 2147483648) : ∃ h', DX10_goesCurrent t h = some (0, h') ∧ h'.1 217 = cv_cur (h.1 213) t (h.1 217) := by
  have b1 := b.2.1
  have hc := G.cells
  have hp := cv_ph_r G t
  have h3 := G.2.1
  unfold DX10_goesCurrent cv_cur
  by_cases e : h.1 217 0 = 0
  · rw [if_neg (fun g => g e), if_pos e, m_phase G t0 t1]
    simp only [qbd_some]
    have hw := G.cur (k := h.1 217 1) (ph := cv_ph (h.1 213) t) b1 (by omega)
    generalize hq : cv_ph (h.1 213) t = p at *
    rw [qw_e (x := 6 * h.1 217 1) (by omega) (by omega), qw_e (x := 50 + 6 * h.1 217 1) (by omega) (by omega), qw_e (x := 50 + 6 * h.1 217 1 + p) (by omega) (by omega), if_pos (by omega), show (50 + 6 * h.1 217 1 + p).toNat = 50 + 6 * (h.1 217 1).toNat + p.toNat by omega]
    obtain ⟨h', e1, e2⟩ := m_goes G b hw e
    rw [e1]
    exact ⟨h', rfl, e2⟩
  · rw [if_pos e, if_neg e]
    exact ⟨h, rfl, rfl⟩
theorem m_kept {h : qH} (G : cG (h.1 213)) {s t N : Int} (b : cB (h.1 213) N (h.1 217)) (hN : N ≤ 1000000) (s0 : 0 ≤ s ∧ s < 6) (t0 : 0 ≤ t) (t1 : t < 2147483648) :
    ∃ h', (cv_keeps (h.1 213) (h.1 217) s (cv_ph (h.1 213) t) → DX10_isKept s t h = some (1, h')) ∧ (¬ cv_keeps (h.1 213) (h.1 217) s (cv_ph (h.1 213) t) → DX10_isKept s t h = some (0, h')) := by
  have ok := G.2.2.2.2.2.2.2.2.2.2
  have hp := cv_ph_r G t
  have h3 := G.2.1
  unfold DX10_isKept cv_keeps
  simp only [qlt]
  have e13 : (qu h 212 18 s).1 213 = h.1 213 := qu_ne (by decide)
  have e17 : (qu h 212 18 s).1 217 = h.1 217 := qu_ne (by decide)
  have e18 : (qu h 212 18 s).1 212 18 = s := by rw [qu_s, up_s]
  rw [e13, e17]
  by_cases a1 : h.1 217 3 = s
  · rw [if_pos a1]
    exact ⟨_, fun _ => rfl, fun g => absurd (Or.inl a1) g⟩
  · rw [if_neg a1]
    by_cases a2 : h.1 217 3 = -1
    · rw [if_pos a2]
      exact ⟨_, fun _ => rfl, fun g => absurd (Or.inr (Or.inl a2)) g⟩
    · rw [if_neg a2]
      by_cases a3 : h.1 213 9 = 1
      · rw [if_neg (fun g => g a3)]
        have hb := fun j => cv_kw_b b hN (s := s) (ph := cv_ph (h.1 213) t) (by omega) (by omega) j
        have W : ∀ (j : Int) (hh : qH), hh.1 213 = (qu h 212 18 s).1 213 → hh.1 217 = (qu h 212 18 s).1 217 → hh.1 212 18 = (qu h 212 18 s).1 212 18 → 0 ≤ j → ((1 : Nat) = 0 → DX10_windWord j 0 t hh = some (cv_kw (h.1 217) s (cv_ph (h.1 213) t) j.toNat, hh)) ∧ ((1 : Nat) = 1 → DX10_keepsWord j t hh = some (cv_kw (h.1 217) s (cv_ph (h.1 213) t) j.toNat, hh)) := by
          intro j hh g1 g2 g4 j0
          rw [e13] at g1
          rw [e17] at g2
          rw [e18] at g4
          have := m_kw (h := hh) (by rw [g1]; exact G) (t := t) t0 t1 j0
          rw [g1, g2, g4] at this
          exact ⟨fun q => absurd q (by decide), fun _ => this⟩
        obtain ⟨h', e2⟩ := m_law (h := qu h 212 18 s) (law := 1) (Or.inr rfl) (by rw [e13]; exact ok) (by rw [e13]; exact a3) (k := 0) (t := t) (w := cv_kw (h.1 217) s (cv_ph (h.1 213) t)) hb W
        rw [show (1 : Int) = ((1 : Nat) : Int) from rfl, e2, e13]
        simp only [qbd_some]
        refine ⟨h', fun g => ?_, fun g => ?_⟩
        · rcases g with g | g | g
          · exact absurd g a1
          · exact absurd g a2
          · rw [if_neg (fun q => q g.2)]
        · have : ¬ cv_law (h.1 213) 1 (cv_kw (h.1 217) s (cv_ph (h.1 213) t)) = ((1 : Nat) : Int) := fun q => g (Or.inr (Or.inr ⟨a3, q⟩))
          rw [if_pos this]
      · rw [if_pos a3]
        refine ⟨_, fun g => ?_, fun _ => rfl⟩
        rcases g with g | g | g
        · exact absurd g a1
        · exact absurd g a2
        · exact absurd g.1 a3
theorem m_isIn {a k : Int} (ha : q64 a) (h0 : 0 ≤ k) (h1 : k < 64) (h : qH) : DX10_isIn a k h = some (qbit a k, h) := by
  unfold DX10_isIn
  rw [qbit_l ha h0 h1]
  rcases qbit_01 a k with e | e
  · rw [e]
    rfl
  · rw [e]
    rfl
theorem m_find {h : qH} (G : cG (h.1 213)) {t N : Int} (b : cB (h.1 213) N (h.1 217)) (hN : N ≤ 1000000) (h0 : h.1 217 0 = 1) (t0 : 0 ≤ t) (t1 : t < 2147483648) :
    ∃ h', DX10_isFound t h = some (0, h') ∧ h'.1 217 = cv_find (h.1 213) (h.1 212 19) t (h.1 217) := by
  have b1 := b.2.1
  have b7 := b.2.2.2.2.2.2.2.1
  have hc := G.cells
  have hp := cv_ph_r G t
  have h3 := G.2.1
  have h4 := G.2.2.1
  have hs := cB_sh G b h0
  unfold DX10_isFound cv_find
  rw [qw_e (x := 14 + h.1 217 1) (by omega) (by omega), if_pos (by omega), show (14 + h.1 217 1).toNat = 14 + (h.1 217 1).toNat by omega]
  have hsd : h.1 213 (14 + (h.1 217 1).toNat) - 10 = cv_sh (h.1 213) (h.1 217) := rfl
  rw [hsd, qw_e (x := cv_sh (h.1 213) (h.1 217)) (by omega) (by omega)]
  simp only [qlt]
  by_cases a1 : cv_sh (h.1 213) (h.1 217) = h.1 212 19
  · rw [if_pos a1, if_pos (Or.inl a1)]
    exact ⟨h, rfl, rfl⟩
  · rw [if_neg a1, qw_e (x := 278 + cv_sh (h.1 213) (h.1 217)) (by omega) (by omega), if_pos (by omega), show (278 + cv_sh (h.1 213) (h.1 217)).toNat = 278 + (cv_sh (h.1 213) (h.1 217)).toNat by omega, m_phase G t0 t1]
    simp only [qbd_some]
    have hwk := G.2.2.2.2.2.2.2.2.1 (cv_sh (h.1 213) (h.1 217)).toNat (by omega)
    rw [m_isIn (by constructor <;> omega) hp.1 (by omega)]
    simp only [qbd_some]
    by_cases a2 : qbit (h.1 213 (278 + (cv_sh (h.1 213) (h.1 217)).toNat)) (cv_ph (h.1 213) t) = 0
    · rw [if_neg (fun g => g a2), if_pos (Or.inr a2)]
      exact ⟨h, rfl, rfl⟩
    · rw [if_pos a2, if_neg (fun g => g.elim a1 a2)]
      obtain ⟨hk, k1, k0⟩ := m_kept G b hN (s := cv_sh (h.1 213) (h.1 217)) (t := t) (by omega) t0 t1
      by_cases a3 : cv_keeps (h.1 213) (h.1 217) (cv_sh (h.1 213) (h.1 217)) (cv_ph (h.1 213) t)
      · have e1 := k1 a3
        have f1 := F_DX10_isKept _ _ _ _ _ e1
        have g17 : hk.1 217 = h.1 217 := f1.fn (fun k => by omega)
        rw [e1, if_pos a3]
        simp only [qbd_some]
        rw [if_neg (by decide)]
        exact ⟨_, rfl, by rw [qu_s, qu_s, g17]⟩
      · have e1 := k0 a3
        have f1 := F_DX10_isKept _ _ _ _ _ e1
        have g17 : hk.1 217 = h.1 217 := f1.fn (fun k => by omega)
        have g13 : hk.1 213 = h.1 213 := f1.fn (fun k => by omega)
        rw [e1, if_neg a3]
        simp only [qbd_some]
        rw [if_pos trivial, g17, qw_e (by omega) (by omega)]
        have g13' : (qu hk 217 6 (h.1 217 6 + 1)).1 213 = h.1 213 := by rw [qu_ne (by decide), g13]
        have et := m_to (h := qu hk 217 6 (h.1 217 6 + 1)) (by rw [g13']; exact G) (s := cv_sh (h.1 213) (h.1 217)) hs.1 (by rw [g13']; exact hs.2)
        rw [g13'] at et
        rw [et]
        simp only [qbd_some]
        unfold cv_pass
        by_cases a4 : cv_to (h.1 213) (cv_sh (h.1 213) (h.1 217)) = -1
        · rw [if_neg (fun g => g a4), if_pos a4]
          exact ⟨_, rfl, by rw [qu_s, g17]⟩
        · rw [if_pos a4, if_neg a4, et]
          simp only [qbd_some]
          exact ⟨_, rfl, by rw [qu_s, qu_s, qu_s, g17]⟩
