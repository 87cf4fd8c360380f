noncomputable def cv_best (A : Nat → Int) (e f to t x y : Int) : Int × Int × Int := if cv_to A f = -1 then (1000000, x, y) else cv_bst A e f to t 31 0 (1000000, x, y)
section bstm
variable {A : Nat → Int} {e f to t : Int}
theorem c_soonest {h : qH} (x y : Int) (E : cE h A e) (O : cO h A) (hf : 0 ≤ f ∧ f < A 4) (ht : 0 ≤ to ∧ to < A 4) (hne : ¬ to = f) (t0 : 0 ≤ t) (t1 : t < 1000000000) :
    ∃ h' L, DX2_soonest f to t h = some (L, h') ∧ cE h' A e ∧ cO h' A ∧ sE (cv_best A e f to t x y) L 62 := by
  unfold DX2_soonest cv_best
  by_cases q : cv_to A f = -1
  · obtain ⟨h', e1, e2, e3⟩ := c_soon_n (e := e) hf q ht hne t0 t1 31 0 LF h rfl (by unfold LF; omega) E O
    rw [if_pos q]
    exact ⟨h', -1, e1, e2, e3, Or.inl ⟨rfl, rfl⟩⟩
  · rw [if_neg q]
    exact c_soon_l hf q ht hne t0 t1 31 0 LF (1000000, x, y) (-1) h rfl (by unfold LF; omega) (Or.inl ⟨rfl, rfl⟩) E O
theorem m_b47 {h : qH} {hv : Int} {w : Nat} {st : Int × Int × Int} (q : sq A (h.1 213)) (G : cG A) (he : h.1 212 19 = e) (hf : 0 ≤ f ∧ f < A 4) (hto : cv_to A f ≠ -1) (ht : 0 ≤ to ∧ to < A 4) (hh : hv = 0 ∨ hv = 1) (t0 : 0 ≤ t) (t1 : t < 1000000000) (hw : w ≤ 30) (s1 : st.2.1 = h.1 212 24) (s2 : st.2.2 = h.1 212 25)
    (k8 : Int → Int → Int → Int → Int → qH → Option (Int × qH)) (k27 : Int → Int → Int → Int → Int → Int → qH → Option (Int × qH)) :
    ∃ h', DX10_bestFrom_b47 k8 k27 f to t st.1 (w : Int) hv hv to f h = k27 f to t (cv_upd A e f to t st (w : Int) hv).1 (w : Int) (hv + 1) h' ∧ h'.1 213 = h.1 213 ∧ h'.1 212 19 = e ∧ (cv_upd A e f to t st (w : Int) hv).2.1 = h'.1 212 24 ∧ (cv_upd A e f to t st (w : Int) hv).2.2 = h'.1 212 25 := by
  have h4 := G.2.2.1
  unfold DX10_bestFrom_b47
  obtain ⟨h1, e1, g1⟩ := m_keptBy (t := t + (w : Int)) q G he hf hto (to := to) (by omega) hh (by omega) (by omega)
  have f1 := F_DX10_keptBy _ _ _ _ _ _ _ e1
  have a13 : h1.1 213 = h.1 213 := f1.fn (fun k => by omega)
  have a19 : h1.1 212 19 = e := by rw [f1.at 212 19 (by omega), he]
  have a24 : h1.1 212 24 = h.1 212 24 := f1.at 212 24 (by omega)
  have a25 : h1.1 212 25 = h.1 212 25 := f1.at 212 25 (by omega)
  rw [qw_e (x := t + (w : Int)) (by omega) (by omega), e1, qw_e (x := hv + 1) (by omega) (by omega)]
  simp only [qbd_some, qlt]
  unfold cv_upd
  by_cases qk : cv_out A e f to hv (t + (w : Int)) % 8 - 2 = to
  · have g2 := g1 (by omega)
    have hb : 0 ≤ cv_out A e f to hv (t + (w : Int)) / 8 ∧ cv_out A e f to hv (t + (w : Int)) / 8 ≤ 201 := by
      rcases cv_out_r G (e := e) (t := t + (w : Int)) hf hto (to := to) (by omega) hh with ⟨o1, _⟩ | ⟨r, s, o1, o2, o3, o4, o5, _⟩
      · rw [o1]; decide
      · rw [o1]; omega
    rw [if_neg (fun g => g qk), g2, qw_e (by omega) (by omega)]
    by_cases q2 : (w : Int) + cv_out A e f to hv (t + (w : Int)) / 8 < st.1
    · rw [if_pos q2, if_pos ⟨qk, q2⟩]
      refine ⟨_, rfl, by rw [qu_ne (by decide), qu_ne (by decide)]; exact a13, ?_, ?_, ?_⟩
      · rw [qu_s, up_n _ _ (by decide), qu_s, up_n _ _ (by decide)]
        exact a19
      · rw [qu_s, up_n _ _ (by decide), qu_s, up_s]
      · rw [qu_s, up_s]
    · rw [if_neg q2, if_neg (fun g => q2 g.2)]
      exact ⟨h1, rfl, a13, a19, by rw [a24]; exact s1, by rw [a25]; exact s2⟩
  · rw [if_pos qk, if_neg (fun g => qk g.1)]
    exact ⟨h1, rfl, a13, a19, by rw [a24]; exact s1, by rw [a25]; exact s2⟩
theorem m_best_l (G : cG A) (hf : 0 ≤ f ∧ f < A 4) (hto : cv_to A f ≠ -1) (ht : 0 ≤ to ∧ to < A 4) (t0 : 0 ≤ t) (t1 : t < 1000000000) : ∀ (n w F : Nat) (st : Int × Int × Int) (h : qH), n + w = 31 → n < F → sq A (h.1 213) → h.1 212 19 = e → st.2.1 = h.1 212 24 → st.2.2 = h.1 212 25 →
    ∃ h', DX10_bestFrom_l8 F f to t st.1 (w : Int) h = some ((cv_bst A e f to t n w st).1, h') ∧ h'.1 213 = h.1 213 ∧ h'.1 212 19 = e ∧ (cv_bst A e f to t n w st).2.1 = h'.1 212 24 ∧ (cv_bst A e f to t n w st).2.2 = h'.1 212 25 := by
  intro n
  induction n with
  | zero =>
    intro w F st h hn hF q he s1 s2
    obtain ⟨F, rfl⟩ : ∃ n, F = n + 1 := ⟨F - 1, by omega⟩
    rw [DX10_bestFrom_l8.eq_2, if_pos (by omega)]
    exact ⟨h, rfl, rfl, he, s1, s2⟩
  | succ n ih =>
    intro w F st h hn hF q he s1 s2
    obtain ⟨F, rfl⟩ : ∃ n, F = n + 1 := ⟨F - 1, by omega⟩
    obtain ⟨h1, e1, a1, b1, c1, d1⟩ := m_b47 (w := w) (hv := 0) (st := st) q G he hf hto ht (Or.inl rfl) t0 t1 (by omega) s1 s2 (DX10_bestFrom_l8 F) (DX10_bestFrom_l27 (DX10_bestFrom_l8 F) 13999)
    obtain ⟨h2, e2, a2, b2, c2, d2⟩ := m_b47 (w := w) (hv := 1) (st := cv_upd A e f to t st (w : Int) 0) (h := h1) (by rw [a1]; exact q) G b1 hf hto ht (Or.inr rfl) t0 t1 (by omega) c1 d1 (DX10_bestFrom_l8 F) (DX10_bestFrom_l27 (DX10_bestFrom_l8 F) 13998)
    obtain ⟨h3, e3, a3, b3, c3, d3⟩ := ih (w + 1) F (cv_upd A e f to t (cv_upd A e f to t st (w : Int) 0) (w : Int) 1) h2 (by omega) (by omega) (by rw [a2, a1]; exact q) b2 c2 d2
    refine ⟨h3, ?_, by rw [a3, a2, a1], b3, c3, d3⟩
    have k0 : DX10_bestFrom_l27 (DX10_bestFrom_l8 F) LF f to t st.1 (w : Int) 0 h = DX10_bestFrom_l27 (DX10_bestFrom_l8 F) 13999 f to t (cv_upd A e f to t st (w : Int) 0).1 (w : Int) (0 + 1) h1 := by
      rw [show LF = 13999 + 1 from rfl, DX10_bestFrom_l27.eq_2, if_neg (by decide), if_pos (by decide)]
      exact e1
    have k1 : DX10_bestFrom_l27 (DX10_bestFrom_l8 F) 13999 f to t (cv_upd A e f to t st (w : Int) 0).1 (w : Int) (0 + 1) h1 = DX10_bestFrom_l27 (DX10_bestFrom_l8 F) 13998 f to t (cv_upd A e f to t (cv_upd A e f to t st (w : Int) 0) (w : Int) 1).1 (w : Int) (1 + 1) h2 := by
      rw [show 13999 = 13998 + 1 from rfl, DX10_bestFrom_l27.eq_2, if_neg (by decide), if_neg (by decide)]
      exact e2
    have k2 : DX10_bestFrom_l27 (DX10_bestFrom_l8 F) 13998 f to t (cv_upd A e f to t (cv_upd A e f to t st (w : Int) 0) (w : Int) 1).1 (w : Int) (1 + 1) h2 = DX10_bestFrom_l8 F f to t (cv_upd A e f to t (cv_upd A e f to t st (w : Int) 0) (w : Int) 1).1 ((w + 1 : Nat) : Int) h2 := by
      rw [show 13998 = 13997 + 1 from rfl, DX10_bestFrom_l27.eq_2, if_pos (by decide), qw_s (by omega)]
    rw [DX10_bestFrom_l8.eq_2, if_neg (by omega), m_toA q G hf.1 hf.2]
    simp only [qbd_some]
    rw [if_neg hto, k0, k1, k2, e3]
    rfl
theorem m_bestFrom {h : qH} (G : cG A) (q : sq A (h.1 213)) (he : h.1 212 19 = e) (hf : 0 ≤ f ∧ f < A 4) (ht : 0 ≤ to ∧ to < A 4) (t0 : 0 ≤ t) (t1 : t < 1000000000) :
    ∃ h', DX10_bestFrom f to t h = some ((cv_best A e f to t (h.1 212 24) (h.1 212 25)).1, h') ∧ (cv_best A e f to t (h.1 212 24) (h.1 212 25)).2.1 = h'.1 212 24 ∧ (cv_best A e f to t (h.1 212 24) (h.1 212 25)).2.2 = h'.1 212 25 ∧ h'.1 213 = h.1 213 ∧ h'.1 212 19 = e := by
  unfold DX10_bestFrom cv_best
  by_cases qq : cv_to A f = -1
  · rw [if_pos qq, show LF = 13999 + 1 from rfl, DX10_bestFrom_l8.eq_2, if_neg (by decide), m_toA q G hf.1 hf.2]
    simp only [qbd_some]
    rw [if_pos qq]
    exact ⟨h, rfl, rfl, rfl, rfl, he⟩
  · obtain ⟨h', e1, a1, b1, c1, d1⟩ := m_best_l (e := e) G hf qq ht t0 t1 31 0 LF (1000000, h.1 212 24, h.1 212 25) h rfl (by unfold LF; omega) q he rfl rfl
    rw [if_neg qq]
    exact ⟨h', e1, c1, d1, a1, b1⟩
end bstm
