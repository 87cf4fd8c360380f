/-! ===== what is kept of throws ===== -/
def cv_slot (A : Nat → Int) (f tt hv : Nat) (t : Int) : Nat := (((f * 6 + tt) * 2 + hv) * 6 + (cv_ph A t).toNat) * 30 + (cv_mo A t).toNat
def cO (h : qH) (A : Nat → Int) : Prop := h.2.2.1 = true → ∀ (f tt hv : Nat) (t : Int), (f : Int) < A 4 → (tt : Int) < A 4 → hv < 2 → 0 ≤ t → cv_to A f ≠ -1 →
  h.1 226 (cv_slot A f tt hv t) = 0 ∨ h.1 226 (cv_slot A f tt hv t) = cv_out A (-1) f (if tt = f then -1 else tt) hv t
theorem cO.cg {h h' : qH} {A : Nat → Int} (r : cO h A) (e : h'.1 226 = h.1 226) (e2 : h'.2.2.1 = h.2.2.1) : cO h' A := by
  unfold cO
  rw [e, e2]
  exact r
theorem m_toA {h : qH} {A : Nat → Int} (q : sq A (h.1 213)) (G : cG A) {s : Int} (h0 : 0 ≤ s) (h1 : s < A 4) : DX10_throwsTo s h = some (cv_to A s, h) := by
  rw [m_to (cG_q q G) h0 (by rw [q 4 (by omega)]; exact h1), cv_to_q q G h0 h1]
theorem cv_to_n {A : Nat → Int} (G : cG A) {f : Int} (hf : 0 ≤ f ∧ f < A 4) (hto : cv_to A f ≠ -1) : 0 ≤ cv_to A f ∧ cv_to A f < A 1 * A 2 ∧ A (14 + (cv_to A f).toNat) = 0 := by
  rcases cv_to_r G hf.1 hf.2 with hr | hr
  · exact absurd hr hto
  · exact hr
theorem m_keptBy {h : qH} {A : Nat → Int} {e f to hv t : Int} (q : sq A (h.1 213)) (G : cG A) (he : h.1 212 19 = e) (hf : 0 ≤ f ∧ f < A 4) (hto : cv_to A f ≠ -1) (ht : -1 ≤ to ∧ to < 6) (hh : hv = 0 ∨ hv = 1) (t0 : 0 ≤ t) (t1 : t < 2000000000) :
    ∃ h', DX10_keptBy f to hv t h = some (cv_out A e f to hv t % 8 - 2, h') ∧ (cv_out A e f to hv t % 8 - 2 ≠ -1 → h'.1 212 23 = cv_out A e f to hv t / 8) := by
  have h4 := G.2.2.1
  have hr2 := cv_to_n G hf hto
  have b : cB A 0 (cv_new f to hv (cv_to A f)) := cB_new ⟨hr2.1, hr2.2.1⟩ hr2.2.2 (by omega) ht hh
  unfold DX10_keptBy
  rw [m_toA q G hf.1 hf.2]
  simp only [qbd_some]
  obtain ⟨h1, e1, v1⟩ := m_thrown (f := f) (to := to) (a3 := hv) (k := cv_to A f) h
  have f1 := F_DX10_isThrown _ _ _ _ _ _ _ e1
  rw [show (if hv = 0 then (0 : Int) else 1) = hv by split <;> omega] at v1
  rw [e1]
  simp only [qbd_some]
  obtain ⟨h2, e2, v2⟩ := m_ends (h := h1) (e := e) (t := t) G t0 t1 (by rw [f1.fn (i := 213) (fun k => by omega)]; exact q) (by rw [f1.at 212 19 (by omega)]; exact he) v1 b (by omega)
  rw [e2]
  simp only [qbd_some, qlt]
  have s23 : ∀ x : Int, (qu h2 212 23 x).1 212 23 = x := fun x => by rw [qu_s, up_s]
  have s17 : ∀ (x : Int) (j : Nat), j < 8 → (qu h2 212 23 x).1 217 j = (cv_set A e t 200 0 (cv_new f to hv (cv_to A f))).2 j := fun x j hj => by rw [qu_ne (by decide), ← v2, nb_at _ hj]
  rw [s23, s17 _ 0 (by decide), s17 _ 7 (by decide)]
  rcases cv_out_r G (e := e) (t := t) hf hto ht hh with ⟨o1, o2⟩ | ⟨r, s, o1, o2, o3, o4, o5, o6, o7, o8⟩
  · rw [o1, if_pos (c := ¬ _) o2]
    (repeat' split) <;> exact ⟨_, rfl, fun g => absurd rfl g⟩
  · rw [o1, o7, o8, o6, if_neg (show ¬ r = -1 by omega), if_neg (show ¬ r = 1000000 by omega), if_neg (fun g => g rfl)]
    refine ⟨qu h2 212 23 r, ?_, fun _ => ?_⟩
    · congr 2
      omega
    · rw [s23]
      omega
theorem c_out_l {A : Nat → Int} {e t a8 a9 : Int} (t0 : 0 ≤ t) (t1 : t < 2000000000) : ∀ (m k F : Nat) (N : Int) (v : Nat → Int) (h : qH), m + k = 200 → m < F → cE h A e → nb (h.1 13) = v → cB A N v → N + m < 1000000 →
    ∃ h', DX2_outcome_l165 F t a8 a9 k h = DX2_outcome_b213 a8 a9 (if (cv_set A e t m k v).1 = -1 then 200 else (cv_set A e t m k v).1) h' ∧ nb (h'.1 13) = (cv_set A e t m k v).2 ∧ cE h' A e ∧ h'.1 226 = h.1 226 ∧ h'.2.2.1 = h.2.2.1 := by
  intro m
  induction m with
  | zero =>
    intro k F N v h hk hF E hv b hN
    obtain ⟨F, rfl⟩ : ∃ n, F = n + 1 := ⟨F - 1, by omega⟩
    rw [DX2_outcome_l165.eq_2, if_pos (by omega)]
    unfold cv_set
    refine ⟨h, ?_, ?_, E, rfl, rfl⟩
    · congr 1
      by_cases q : v 0 = 0 ∨ v 0 = 1
      · rw [if_pos q, if_pos rfl]
        omega
      · rw [if_neg q]
        show (k : Int) = if (k : Int) = -1 then 200 else (k : Int)
        rw [if_neg (by omega)]
    · rw [hv]
      split <;> rfl
  | succ m ih =>
    intro k F N v h hk hF E hv b hN
    obtain ⟨F, rfl⟩ : ∃ n, F = n + 1 := ⟨F - 1, by omega⟩
    have e0 : h.1 13 0 = v 0 := by rw [← hv, nb_at _ (by decide)]
    rw [DX2_outcome_l165.eq_2, if_neg (by omega), e0]
    unfold cv_set DX2_outcome_b194
    by_cases q : v 0 = 0 ∨ v 0 = 1
    · obtain ⟨h1, e1, v1, E1⟩ := c_carryN (t := t + (k : Int)) (i := 13) E (Or.inl rfl) hv b (by omega) (by omega) (by omega)
      have f1 := F_DX2_carry _ _ _ _ _ e1
      obtain ⟨h2, k1, k2, k3, k4, k5⟩ := ih (k + 1) F (N + 1) (cv_tide A e (t + (k : Int)) false v) h1 (by omega) (by omega) E1 v1 (cB_tide E.1 b) (by omega)
      rw [if_pos q, qw_e (x := t + (k : Int)) (by omega) (by omega), e1, qw_s (by omega)]
      simp only [qbd_some]
      refine ⟨h2, ?_, k2, k3, by rw [k4]; exact f1.fn (fun k => by omega), by rw [k5]; exact f1.2.2.1 (by omega)⟩
      by_cases q0 : v 0 = 0
      · rw [if_pos q0]
        exact k1
      · rw [if_neg q0, if_neg (by omega)]
        exact k1
    · rw [if_neg q, if_neg (fun g => q (Or.inl g)), if_pos (fun g => q (Or.inr g))]
      refine ⟨h, ?_, hv, E, rfl, rfl⟩
      show _ = DX2_outcome_b213 a8 a9 (if (k : Int) = -1 then 200 else (k : Int)) h
      rw [if_neg (by omega)]
/-- the throw itself is looked at; it is kept if a9 is 1 -/
theorem c_b150 {h : qH} {A : Nat → Int} {e f to hv t a9 : Int} {sl : Nat} (E : cE h A e) (hf : 0 ≤ f ∧ f < A 4) (hto : cv_to A f ≠ -1) (ht : -1 ≤ to ∧ to < 6) (hh : hv = 0 ∨ hv = 1) (t0 : 0 ≤ t) (t1 : t < 2000000000) (hs : a9 = 0 ∨ (a9 = 1 ∧ sl < 12960 ∧ h.2.2.1 = true)) :
    ∃ h', DX2_outcome_b150 f to hv t (cv_to A f) (sl : Int) a9 h = some (cv_out A e f to hv t, h') ∧ cE h' A e ∧ h'.2.2.1 = h.2.2.1 ∧ h'.1 226 = if a9 = 0 then h.1 226 else up (h.1 226) sl (cv_out A e f to hv t) := by
  have G := E.1
  have h4 := G.2.2.1
  have hr2 := cv_to_n G hf hto
  have b : cB A 0 (cv_new f to hv (cv_to A f)) := cB_new ⟨hr2.1, hr2.2.1⟩ hr2.2.2 (by omega) ht hh
  unfold DX2_outcome_b150
  obtain ⟨h1, e1, v1⟩ := c_launch (f := f) (to := to) (hv := hv) (k := cv_to A f) (i := 13) hh h
  have f1 := F_DX0_launch _ _ _ _ _ _ _ _ e1
  have E1 : cE h1 A e := E.kq f1 (fun j k a b => by omega) (fun k => by omega)
  rw [e1]
  simp only [qbd_some]
  obtain ⟨h2, e2, v2, E2, g226, g22⟩ := c_out_l (a8 := (sl : Int)) (a9 := a9) t0 t1 200 0 LF 0 _ h1 rfl (by unfold LF; omega) E1 v1 b (by omega)
  have e2' : DX2_outcome_l165 LF t (sl : Int) a9 0 h1 = _ := e2
  rw [e2']
  have g226' : h2.1 226 = h.1 226 := by rw [g226]; exact f1.fn (fun k => by omega)
  have g22' : h2.2.2.1 = h.2.2.1 := by rw [g22]; exact f1.2.2.1 (by omega)
  unfold DX2_outcome_b213 DX2_outcome_b243
  have e0 : h2.1 13 0 = (cv_set A e t 200 0 (cv_new f to hv (cv_to A f))).2 0 := by rw [← v2, nb_at _ (by decide)]
  have e7 : h2.1 13 7 = (cv_set A e t 200 0 (cv_new f to hv (cv_to A f))).2 7 := by rw [← v2, nb_at _ (by decide)]
  rw [e0, e7]
  have fin : ∀ x : Int, (-32768 ≤ x ∧ x < 32768) → ∃ h', (if a9 = 0 then some (x, h2) else if h2.2.2.1 = true then if 0 ≤ (sl : Int) ∧ (sl : Int) < 12960 then qlt (qu h2 226 (sl : Int).toNat (qs16 (qs16 x))) fun h1 => some (x, h1) else none else none) = some (x, h') ∧ cE h' A e ∧ h'.2.2.1 = h.2.2.1 ∧ h'.1 226 = if a9 = 0 then h.1 226 else up (h.1 226) sl x := by
    intro x hx
    rcases hs with hs | ⟨hs, hl, hfl⟩
    · rw [if_pos hs, if_pos hs]
      exact ⟨h2, rfl, E2, g22', g226'⟩
    · rw [if_neg (show ¬ a9 = 0 by omega), if_neg (show ¬ a9 = 0 by omega), if_pos (by rw [g22', hfl]), if_pos (by omega), Int.toNat_natCast, qs16_i (a := x) hx.1 hx.2, qs16_i (a := x) hx.1 hx.2]
      simp only [qlt]
      refine ⟨_, rfl, ⟨E2.1, E2.2.1.cg (fun j a b => qu_ne (by omega)), by rw [qu_ne (by decide)]; exact E2.2.2.1, E2.2.2.2.cg (qu_ne (by decide)) rfl⟩, g22', ?_⟩
      rw [qu_s, g226']
  rcases cv_out_r G (e := e) (t := t) hf hto ht hh with ⟨o1, o2⟩ | ⟨r, s, o1, o2, o3, o4, o5, o6, o7, o8⟩
  · rw [o1, if_pos (c := ¬ _) o2]
    exact fin 1 (by decide)
  · rw [o1, o7, o8, o6, if_neg (fun g => g rfl), if_neg (show ¬ r = -1 by omega), qw_e (x := r * 8) (by omega) (by omega), qw_e (x := r * 8 + s) (by omega) (by omega), qw_e (x := r * 8 + s + 2) (by omega) (by omega)]
    exact fin _ (by omega)
theorem qalo_ne {h : qH} {i : Nat} (e : ¬ i = 226) : (qalo h).1 i = h.1 i := by
  funext b
  show (if i = 226 then 0 else h.1 i b) = _
  rw [if_neg e]
theorem qalo_s (h : qH) (k : Nat) : (qalo h).1 226 k = 0 := by
  show (if 226 = 226 then (0 : Int) else h.1 226 k) = 0
  rw [if_pos rfl]
theorem mix2 {a b p q n : Nat} (h1 : p < n) (h2 : q < n) (e : a * n + p = b * n + q) : a = b ∧ p = q := by
  have hp : p = q := by
    have := congrArg (· % n) e
    simp only [Nat.mul_add_mod', Nat.mod_eq_of_lt h1, Nat.mod_eq_of_lt h2] at this
    exact this
  subst hp
  refine ⟨?_, rfl⟩
  have h3 : a * n = b * n := by omega
  exact Nat.eq_of_mul_eq_mul_right (by omega) h3
theorem mix5 {f tt hv p m f' tt' hv' p' m' : Nat} (h1 : tt < 6) (h2 : tt' < 6) (h3 : hv < 2) (h4 : hv' < 2) (h5 : p < 6) (h6 : p' < 6) (h7 : m < 30) (h8 : m' < 30) (e : (((f * 6 + tt) * 2 + hv) * 6 + p) * 30 + m = (((f' * 6 + tt') * 2 + hv') * 6 + p') * 30 + m') : f = f' ∧ tt = tt' ∧ hv = hv' ∧ p = p' ∧ m = m' := by
  obtain ⟨e1, g1⟩ := mix2 h7 h8 e
  obtain ⟨e2, g2⟩ := mix2 h5 h6 e1
  obtain ⟨e3, g3⟩ := mix2 h3 h4 e2
  obtain ⟨e4, g4⟩ := mix2 h1 h2 e3
  exact ⟨e4, g4, g3, g2, g1⟩
theorem c_b34 {h : qH} {A : Nat → Int} {e f to hv t : Int} (E : cE h A e) (O : cO h A) (fl : h.2.2.1 = true) (hf : 0 ≤ f ∧ f < A 4) (hto : cv_to A f ≠ -1) (ht : to = -1 ∨ (0 ≤ to ∧ to < A 4)) (hne : ¬ to = f) (hh : hv = 0 ∨ hv = 1) (t0 : 0 ≤ t) (t1 : t < 2000000000) :
    ∃ h', DX2_outcome_b34 f to hv t (cv_to A f) h = some (cv_out A e f to hv t, h') ∧ cE h' A e ∧ cO h' A := by
  have G := E.1
  have r := E.2.1
  have h4 := G.2.2.1
  have hp := cv_ph_r G t
  have h3 := G.2.1
  have hm := cv_mo_r G t
  obtain ⟨tt, htt⟩ : ∃ tt : Int, tt = if to = -1 then f else to := ⟨_, rfl⟩
  have htr : 0 ≤ tt ∧ tt < A 4 := by rw [htt]; split <;> omega
  have hst : DX2_outcome_b34 f to hv t (cv_to A f) h = DX2_outcome_b48 f to hv t (cv_to A f) tt (qw (f * 6)) h := by
    unfold DX2_outcome_b34
    by_cases q : to = -1
    · rw [if_neg (fun g => g q), htt, if_pos q]
    · rw [if_pos q, htt, if_neg q]
  rw [hst]
  unfold DX2_outcome_b48
  simp only [qlt]
  rw [qw_e (x := f * 6) (by omega) (by omega), qw_e (x := f * 6 + tt) (by omega) (by omega), qw_e (x := (f * 6 + tt) * 2) (by omega) (by omega)]
  have hst2 : (if hv = 0 then DX2_outcome_b64 f to hv t (cv_to A f) 0 ((f * 6 + tt) * 2) h else DX2_outcome_b64 f to hv t (cv_to A f) 1 ((f * 6 + tt) * 2) h) = DX2_outcome_b64 f to hv t (cv_to A f) hv ((f * 6 + tt) * 2) h := by
    rcases hh with g | g
    · rw [if_pos g, g]
    · rw [if_neg (by omega), g]
  rw [hst2]
  unfold DX2_outcome_b64
  rw [c_phase G r t0 (by omega)]
  simp only [qbd_some]
  rw [c_moon G r t0 (by omega)]
  simp only [qbd_some, qlt]
  rw [qw_e (x := (f * 6 + tt) * 2 + hv) (by omega) (by omega), qw_e (x := ((f * 6 + tt) * 2 + hv) * 6) (by omega) (by omega), qw_e (x := ((f * 6 + tt) * 2 + hv) * 6 + cv_ph A t) (by omega) (by omega), qw_e (x := (((f * 6 + tt) * 2 + hv) * 6 + cv_ph A t) * 30) (by omega) (by omega), qw_e (x := (((f * 6 + tt) * 2 + hv) * 6 + cv_ph A t) * 30 + cv_mo A t) (by omega) (by omega)]
  have esl : (((f * 6 + tt) * 2 + hv) * 6 + cv_ph A t) * 30 + cv_mo A t = ((cv_slot A f.toNat tt.toNat hv.toNat t : Nat) : Int) := by
    unfold cv_slot
    omega
  have bsl : cv_slot A f.toNat tt.toNat hv.toNat t < 12960 := by
    unfold cv_slot
    omega
  rw [esl, E.2.2.1]
  have ht6 : -1 ≤ to ∧ to < 6 := by omega
  generalize hsl : cv_slot A f.toNat tt.toNat hv.toNat t = sl at *
  by_cases qe : e = -1
  · rw [if_neg (fun g => g qe), if_neg (show ¬ ((sl : Nat) : Int) < 0 by omega), if_pos fl, if_neg (show ¬ 12960 ≤ ((sl : Nat) : Int) by omega)]
    unfold DX2_outcome_b125
    rw [if_neg (show ¬ (1 : Int) = 0 by decide), if_pos fl, if_pos (show 0 ≤ ((sl : Nat) : Int) ∧ ((sl : Nat) : Int) < 12960 by omega), Int.toNat_natCast, if_pos fl, if_pos (show 0 ≤ ((sl : Nat) : Int) ∧ ((sl : Nat) : Int) < 12960 by omega)]
    have oo := O fl f.toNat tt.toNat hv.toNat t (by omega) (by omega) (by omega) t0 (by rw [show ((f.toNat : Nat) : Int) = f by omega]; exact hto)
    have et : (if tt.toNat = f.toNat then (-1 : Int) else ((tt.toNat : Nat) : Int)) = to := by
      rw [show ((tt.toNat : Nat) : Int) = tt by omega]
      by_cases q : to = -1
      · rw [if_pos (by rw [htt, if_pos q]), q]
      · rw [if_neg (by rw [if_neg q] at htt; omega), htt, if_neg q]
    rw [et, show ((f.toNat : Nat) : Int) = f by omega, show ((hv.toNat : Nat) : Int) = hv by omega] at oo
    rw [hsl] at oo
    by_cases z : h.1 226 sl = 0
    · rw [if_pos z]
      obtain ⟨h', e1, e2, e3, e4⟩ := c_b150 (a9 := 1) (sl := sl) E hf hto ht6 hh t0 t1 (Or.inr ⟨rfl, bsl, fl⟩)
      rw [if_neg (by decide)] at e4
      refine ⟨h', e1, e2, ?_⟩
      intro _ f' tt' hv' t' q1 q2 q3 q4 q5
      rw [e4]
      by_cases es : cv_slot A f' tt' hv' t' = sl
      · rw [es, up_s]
        right
        have hp' := cv_ph_r G t'
        have hm' := cv_mo_r G t'
        rw [← hsl] at es
        unfold cv_slot at es
        obtain ⟨d1, d2, d3, d4', d5'⟩ := mix5 (by omega) (by omega) q3 (by omega) (by omega) (by omega) (by omega) (by omega) es
        have d4 : cv_ph A t = cv_ph A t' := by omega
        have d5 : cv_mo A t = cv_mo A t' := by omega
        rw [d1, d2, d3, et, show ((f.toNat : Nat) : Int) = f by omega, show ((hv.toNat : Nat) : Int) = hv by omega, qe]
        exact cv_out_c d4 d5
      · rw [up_n _ _ es]
        exact O fl f' tt' hv' t' q1 q2 q3 q4 q5
    · rw [if_neg z]
      rcases oo with oo | oo
      · exact absurd oo z
      · rw [oo, qe]
        exact ⟨h, rfl, by rw [← qe]; exact E, O⟩
  · rw [if_pos qe]
    unfold DX2_outcome_b125
    rw [if_pos rfl]
    obtain ⟨h', e1, e2, e3, e4⟩ := c_b150 (a9 := 0) (sl := sl) E hf hto ht6 hh t0 t1 (Or.inl rfl)
    rw [if_pos rfl] at e4
    exact ⟨h', e1, e2, O.cg e4 e3⟩
theorem c_outcome {h : qH} {A : Nat → Int} {e f to hv t : Int} (E : cE h A e) (O : cO h A) (hf : 0 ≤ f ∧ f < A 4) (ht : to = -1 ∨ (0 ≤ to ∧ to < A 4)) (hne : ¬ to = f) (hh : hv = 0 ∨ hv = 1) (t0 : 0 ≤ t) (t1 : t < 2000000000) :
    ∃ h', DX2_outcome f to hv t h = some (if cv_to A f = -1 then 1 else cv_out A e f to hv t, h') ∧ cE h' A e ∧ cO h' A := by
  have G := E.1
  have r := E.2.1
  unfold DX2_outcome
  rw [c_throwCell G r, if_pos hf]
  simp only [qbd_some]
  by_cases q : cv_to A f = -1
  · rw [if_neg (fun g => g q), if_pos q]
    exact ⟨h, rfl, E, O⟩
  · rw [if_pos q, if_neg q]
    by_cases fl : h.2.2.1 = true
    · rw [if_pos fl]
      exact c_b34 E O fl hf q ht hne hh t0 t1
    · rw [if_neg fl, if_neg fl]
      simp only [qlt]
      refine c_b34 ⟨G, r.cg (fun i a b => qalo_ne (by omega)), by rw [qalo_ne (by decide)]; exact E.2.2.1, E.2.2.2.cg (qalo_ne (by decide)) rfl⟩ ?_ rfl hf q ht hne hh t0 t1
      intro _ f' tt' hv' t' _ _ _ _ _
      exact Or.inl (qalo_s h _)
