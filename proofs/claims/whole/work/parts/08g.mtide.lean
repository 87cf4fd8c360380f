theorem cv_wind_r (A : Nat → Int) (k ph mo : Int) : 0 ≤ cv_wind A k ph mo ∧ cv_wind A k ph mo ≤ 4 := by
  unfold cv_wind
  split
  · omega
  · omega
theorem m_b139 {h : qH} (G : cG (h.1 213)) {t N : Int} (b : cB (h.1 213) N (h.1 217)) (hN : N ≤ 1000000) (t0 : 0 ≤ t) (t1 : t < 2147483648) :
    ∃ h', DX10_goesTide_b139 t h = some (0, h') ∧ h'.1 217 = cv_end (h.1 213) (h.1 212 19) t (h.1 217) := by
  unfold DX10_goesTide_b139 cv_end
  by_cases e : h.1 217 0 = 1
  · rw [if_neg (fun g => g e), if_pos e]
    obtain ⟨h', e1, e2⟩ := m_find G b hN e t0 t1
    rw [e1]
    exact ⟨h', rfl, e2⟩
  · rw [if_pos e, if_neg e]
    exact ⟨h, rfl, rfl⟩
theorem m_b75 {h : qH} (G : cG (h.1 213)) {t N a2 : Int} {c : Bool} (hc : a2 = if c = true then 1 else 0) (b : cB (h.1 213) N (h.1 217)) (hN : N < 1000000) (t0 : 0 ≤ t) (t1 : t < 2147483648) :
    ∃ h', DX10_goesTide_b75 t a2 h = some (0, h') ∧ h'.1 217 = if h.1 217 0 = 0 ∨ h.1 217 0 = 1 then cv_end (h.1 213) (h.1 212 19) t (cv_age (h.1 213) c (h.1 217)) else h.1 217 := by
  have b7 := b.2.2.2.2.2.2.2.1
  obtain ⟨g1, g2, g3⟩ := cB_age (c := c) b
  unfold DX10_goesTide_b75
  rw [m_isOn]
  simp only [qbd_some, qlt]
  by_cases e : h.1 217 0 = 0 ∨ h.1 217 0 = 1
  · rw [if_pos e, if_pos (by decide), if_pos e, qw_e (by omega) (by omega)]
    have e13 : ∀ x y : Int, (qu (qu h 217 5 x) 217 0 y).1 213 = h.1 213 := fun x y => by rw [qu_ne (by decide), qu_ne (by decide)]
    have e13' : ∀ x : Int, (qu h 217 5 x).1 213 = h.1 213 := fun x => qu_ne (by decide)
    have e12' : ∀ x : Int, (qu h 217 5 x).1 212 = h.1 212 := fun x => qu_ne (by decide)
    have e12 : ∀ x y : Int, (qu (qu h 217 5 x) 217 0 y).1 212 = h.1 212 := fun x y => by rw [qu_ne (by decide), qu_ne (by decide)]
    have e0 : (qu h 217 5 (h.1 217 5 + 1)).1 217 0 = h.1 217 0 := by rw [qu_s, up_n _ _ (by decide)]
    have e5 : (qu h 217 5 (h.1 217 5 + 1)).1 217 5 = h.1 217 5 + 1 := by rw [qu_s, up_s]
    rw [e0, e5, e13']
    by_cases q : h.1 217 0 = 0 ∧ c = false ∧ 0 < h.1 213 7 ∧ h.1 213 7 ≤ h.1 217 5 + 1
    · obtain ⟨q1, q2, q3, q4⟩ := q
      have ea : cv_age (h.1 213) c (h.1 217) = up (up (h.1 217) 5 (h.1 217 5 + 1)) 0 4 := by unfold cv_age; rw [if_pos ⟨q1, q2, q3, q4⟩]
      rw [if_neg (fun g => g q1), if_neg (by rw [hc, q2]; decide), if_neg (by omega), if_neg (by omega)]
      have e17 : (qu (qu h 217 5 (h.1 217 5 + 1)) 217 0 4).1 217 = cv_age (h.1 213) c (h.1 217) := by rw [qu_s, qu_s, ea]
      have := m_b139 (h := qu (qu h 217 5 (h.1 217 5 + 1)) 217 0 4) (by rw [e13]; exact G) (t := t) (N := N + 1) (by rw [e13, e17]; exact g1) (by omega) t0 t1
      rw [e13, e17, e12] at this
      exact this
    · have ea : cv_age (h.1 213) c (h.1 217) = up (h.1 217) 5 (h.1 217 5 + 1) := by unfold cv_age; rw [if_neg q]
      have e17 : (qu h 217 5 (h.1 217 5 + 1)).1 217 = cv_age (h.1 213) c (h.1 217) := by rw [qu_s, ea]
      have := m_b139 (h := qu h 217 5 (h.1 217 5 + 1)) (by rw [e13']; exact G) (t := t) (N := N + 1) (by rw [e13', e17]; exact g1) (by omega) t0 t1
      rw [e13', e17, e12'] at this
      by_cases q1 : h.1 217 0 = 0
      · rw [if_neg (fun g => g q1)]
        by_cases q2 : a2 = 0
        · rw [if_neg (fun g => g q2)]
          have cf : c = false := by cases c with
            | false => rfl
            | true => rw [if_pos rfl] at hc; omega
          by_cases q3 : h.1 213 7 ≤ 0
          · rw [if_pos q3]
            exact this
          · rw [if_neg q3, if_pos (by
              by_cases q4 : h.1 217 5 + 1 < h.1 213 7
              · exact q4
              · exact absurd ⟨q1, cf, by omega, by omega⟩ q)]
            exact this
        · rw [if_pos q2]
          exact this
      · rw [if_pos q1]
        exact this
  · rw [if_neg e, if_neg (by decide), if_neg e]
    exact ⟨h, rfl, rfl⟩
theorem m_b42 {h : qH} (G : cG (h.1 213)) {t N a2 : Int} {c : Bool} (hc : a2 = if c = true then 1 else 0) (b : cB (h.1 213) N (h.1 217)) (hN : N < 1000000) (t0 : 0 ≤ t) (t1 : t < 2147483648) :
    ∃ h', DX10_goesTide_b42 t a2 h = some (0, h') ∧ h'.1 217 = if (cv_blow (h.1 213) t (h.1 217)) 0 = 0 ∨ (cv_blow (h.1 213) t (h.1 217)) 0 = 1 then cv_end (h.1 213) (h.1 212 19) t (cv_age (h.1 213) c (cv_blow (h.1 213) t (h.1 217))) else cv_blow (h.1 213) t (h.1 217) := by
  have b1 := b.2.1
  unfold DX10_goesTide_b42
  by_cases q : h.1 217 0 = 0 ∧ h.1 217 4 = 0
  · have e : cv_blow (h.1 213) t (h.1 217) = cv_step (h.1 213) (cv_wind (h.1 213) (h.1 217 1) (cv_ph (h.1 213) t) (cv_mo (h.1 213) t)) (h.1 217) := by unfold cv_blow; rw [if_pos q]
    rw [if_neg (fun g => g q.1), if_neg (fun g => g q.2)]
    obtain ⟨h1, e1⟩ := m_wind G (k := h.1 217 1) (t := t) b1.1 b1.2 t0 t1
    have f1 := F_DX10_windOf _ _ _ _ _ e1
    have a13 : h1.1 213 = h.1 213 := f1.fn (fun k => by omega)
    have a17 : h1.1 217 = h.1 217 := f1.fn (fun k => by omega)
    have a12 : h1.1 212 19 = h.1 212 19 := f1.at 212 19 (by omega)
    rw [e1]
    simp only [qbd_some]
    obtain ⟨h2, e2, e3⟩ := m_goes (h := h1) (by rw [a13]; exact G) (N := N) (way := cv_wind (h.1 213) (h.1 217 1) (cv_ph (h.1 213) t) (cv_mo (h.1 213) t)) (by rw [a13, a17]; exact b) (cv_wind_r _ _ _ _) (by rw [a17]; exact q.1)
    have f2 := F_DX10_goes _ _ _ _ e2
    have c13 : h2.1 213 = h.1 213 := by rw [← a13]; exact f2.fn (fun k => by omega)
    have c12 : h2.1 212 19 = h.1 212 19 := by rw [← a12]; exact f2.at 212 19 (by omega)
    rw [a13, a17] at e3
    rw [e2]
    simp only [qbd_some]
    have := m_b75 (h := h2) (by rw [c13]; exact G) (t := t) (N := N) hc (by rw [c13, e3]; exact cB_step G b q.1) hN t0 t1
    rw [c13, c12, e3] at this
    rw [e]
    exact this
  · have e : cv_blow (h.1 213) t (h.1 217) = h.1 217 := by unfold cv_blow; rw [if_neg q]
    rw [e]
    have := m_b75 G (t := t) (N := N) hc b hN t0 t1
    by_cases q1 : h.1 217 0 = 0
    · rw [if_neg (fun g => g q1), if_pos (fun g => q ⟨q1, g⟩)]
      exact this
    · rw [if_pos q1]
      exact this
theorem m_tide {h : qH} (G : cG (h.1 213)) {t N a2 : Int} {c : Bool} (hc : a2 = if c = true then 1 else 0) (b : cB (h.1 213) N (h.1 217)) (hN : N < 1000000) (t0 : 0 ≤ t) (t1 : t < 2147483648) :
    ∃ h', DX10_goesTide t a2 h = some (0, h') ∧ h'.1 217 = cv_tide (h.1 213) (h.1 212 19) t c (h.1 217) := by
  unfold DX10_goesTide cv_tide
  rw [m_isOn]
  simp only [qbd_some]
  by_cases e : h.1 217 0 = 0 ∨ h.1 217 0 = 1
  · rw [if_pos e, if_pos (by decide), if_pos e]
    obtain ⟨h1, e1, g1⟩ := m_cur G b t0 t1
    have f1 := F_DX10_goesCurrent _ _ _ _ e1
    have a13 : h1.1 213 = h.1 213 := f1.fn (fun k => by omega)
    have a12 : h1.1 212 19 = h.1 212 19 := f1.at 212 19 (by omega)
    have B1 : cB (h1.1 213) N (h1.1 217) := by rw [a13, g1]; exact cB_cur G b
    have G1 : cG (h1.1 213) := by rw [a13]; exact G
    rw [e1]
    simp only [qbd_some]
    unfold cv_go
    by_cases q : 0 < h.1 213 5 ∧ cv_mo (h.1 213) t < h.1 213 6
    · have e2 : cv_cur2 (h.1 213) t (cv_cur (h.1 213) t (h.1 217)) = cv_cur (h.1 213) t (cv_cur (h.1 213) t (h.1 217)) := by rw [cv_cur2, if_pos q]
      rw [a13, if_neg (by omega), m_moon G1 t0 t1, a13]
      simp only [qbd_some]
      rw [a13, if_neg (by omega)]
      obtain ⟨h2, e3, g3⟩ := m_cur G1 (N := N) (t := t) B1 t0 t1
      have f2 := F_DX10_goesCurrent _ _ _ _ e3
      have c13 : h2.1 213 = h.1 213 := by rw [← a13]; exact f2.fn (fun k => by omega)
      have c12 : h2.1 212 19 = h.1 212 19 := by rw [← a12]; exact f2.at 212 19 (by omega)
      rw [a13, g1] at g3
      rw [e3]
      simp only [qbd_some]
      have := m_b42 (h := h2) (by rw [c13]; exact G) (t := t) (N := N) hc (by rw [c13, g3]; exact cB_cur G (cB_cur G b)) hN t0 t1
      rw [c13, c12, g3] at this
      rw [e2]
      exact this
    · have e2 : cv_cur2 (h.1 213) t (cv_cur (h.1 213) t (h.1 217)) = cv_cur (h.1 213) t (h.1 217) := by rw [cv_cur2, if_neg q]
      have := m_b42 (h := h1) G1 (t := t) (N := N) hc B1 hN t0 t1
      rw [a13, a12, g1] at this
      rw [e2, a13]
      by_cases q1 : h.1 213 5 ≤ 0
      · rw [if_pos q1]
        exact this
      · rw [if_neg q1, m_moon G1 t0 t1, a13]
        simp only [qbd_some]
        rw [a13, if_pos (by omega)]
        exact this
  · rw [if_neg e, if_neg (by decide), if_neg e]
    exact ⟨h, rfl, rfl⟩
