/-! ===== the class: the wind and what is kept of it ===== -/
theorem c_law {h : qH} {A : Nat → Int} {law : Nat} (hl : law = 0 ∨ law = 1) (r : cR h 5 A) {b : Bool} (ok : cv_okl A law b) (h1 : A (8 + law) = 1) {w : Nat → Int} (hw : ∀ j, -1000000 ≤ w j ∧ w j ≤ 1000000)
    (W : ∀ j : Nat, (j : Int) < (if b = true then 1007 else 1004) - 1000 → h.1 14 j = w j) : ∃ h', DX2_lawSays (h.1 5 (7 + 2 * law)) (h.1 5 (8 + 2 * law)) h = some (cv_law A law w, h') := by
  rcases ok with ok | ⟨_, o1, o2, o3, ok⟩
  · omega
  · have lr : cv_lr h 5 A law := by
      rcases hl with rfl | rfl
      · exact r.2.2.2.2.2.1
      · exact r.2.2.2.2.2.2
    rcases lr with lr | ⟨_, l1, l2, l3⟩
    · omega
    · have hlen := cv_code_len A law
      rw [l1, l2]
      unfold DX2_lawSays
      have key := c_rk (m := if b = true then 1007 else 1004) (a2 := A (10 + law) + A (12 + law)) (w := w) (CC := h.1 12) (by cases b <;> decide) hw o3 (cv_code A law) LF (A (10 + law)).toNat [] b (fun _ => 0) h
        (by rw [hlen]; unfold LF; omega) ok (fun j hj => by cases hj) (fun j hj => by cases hj) rfl W (by rw [hlen]; omega)
        (fun j hj => by rw [cv_code_at _ _ (by rw [← hlen]; exact hj)]; exact l3 j (by rw [← hlen]; exact hj)) (by decide)
      rw [show (((A (10 + law)).toNat : Nat) : Int) = A (10 + law) by omega] at key
      exact key
theorem qalw_ne {h : qH} {i : Nat} (e : ¬ i = 225) : (qalw h).1 i = h.1 i := by
  funext b
  show (if i = 225 then 0 else h.1 i b) = _
  rw [if_neg e]
theorem qalw_s (h : qH) (k : Nat) : (qalw h).1 225 k = 0 := by
  show (if 225 = 225 then (0 : Int) else h.1 225 k) = 0
  rw [if_pos rfl]
theorem c_b56 {h : qH} {A : Nat → Int} {e k t : Int} (E : cE h A e) (fl : h.2.1 = true) (h8 : A 8 = 1) (k0 : 0 ≤ k) (k1 : k < A 1 * A 2) (t0 : 0 ≤ t) (t1 : t < 2147483648) :
    ∃ h', DX2_windAt_b56 k t h = some (cv_wind A k (cv_ph A t) (cv_mo A t), h') ∧ cW h' A := by
  obtain ⟨G, r, _, w⟩ := E
  obtain ⟨hw, _, _⟩ := G.wh k0 k1
  have hc := G.cells
  have hp := cv_ph_r G t
  have h3 := G.2.1
  have hm := cv_mo_r G t
  have ok := G.2.2.2.2.2.2.2.2.2.1
  unfold DX2_windAt_b56
  rw [c_phase G r t0 t1]
  simp only [qbd_some]
  rw [c_moon G r t0 t1]
  simp only [qbd_some, qlt]
  generalize hpe : cv_ph A t = p at *
  generalize hme : cv_mo A t = mo at *
  rw [qw_e (x := k * 6) (by omega) (by omega), qw_e (x := k * 6 + p) (by omega) (by omega), qw_e (x := (k * 6 + p) * 30) (by omega) (by omega), qw_e (x := (k * 6 + p) * 30 + mo) (by omega) (by omega)]
  obtain ⟨sl, hsl⟩ : ∃ sl : Nat, sl = (k.toNat * 6 + p.toNat) * 30 + mo.toNat := ⟨_, rfl⟩
  have esl : ((k * 6 + p) * 30 + mo).toNat = sl := by omega
  have bnd : 0 ≤ (k * 6 + p) * 30 + mo ∧ (k * 6 + p) * 30 + mo < 6480 := by omega
  rw [if_neg (show ¬ (k * 6 + p) * 30 + mo < 0 by omega), if_pos fl, if_pos bnd.2, if_pos fl, if_pos bnd, if_pos fl, if_pos bnd, esl]
  have ck : (k.toNat : Int) = k := by omega
  have cp : (p.toNat : Int) = p := by omega
  have cm : (mo.toNat : Int) = mo := by omega
  by_cases z : h.1 225 sl = 0
  · rw [if_neg (fun g => g z), r.1.1, if_neg (show ¬ A 1 = 0 by omega), qu_ne (by decide), r.1.1, if_neg (show ¬ A 1 = 0 by omega), qrem_e k0 (by omega) (by omega) (by omega), qdiv_e k0 (by omega) (by omega) (by omega)]
    generalize hh : qu (qu (qu (qu h 14 0 (k % A 1)) 14 1 (k / A 1)) 14 2 p) 14 3 mo = hh15
    have o15 : ∀ i, ¬ i = 14 → hh15.1 i = h.1 i := fun i hi => by rw [← hh, qu_ne hi, qu_ne hi, qu_ne hi, qu_ne hi]
    have f15 : hh15.2 = h.2 := by rw [← hh]; rfl
    have r15 : cR hh15 5 A := r.cg (fun i a b => o15 i (by omega))
    have w15 : ∀ j : Nat, (j : Int) < (if false = true then 1007 else 1004) - 1000 → hh15.1 14 j = cv_ww A k p mo j := by
      intro j hj
      rw [if_neg (by decide)] at hj
      have : j = 0 ∨ j = 1 ∨ j = 2 ∨ j = 3 := by omega
      rw [← hh, qu_s, qu_s, qu_s, qu_s]
      rcases this with rfl | rfl | rfl | rfl <;> rfl
    have hb := fun j => cv_ww_b G k0 k1 (ph := p) (mo := mo) (by omega) (by omega) j
    obtain ⟨h17, e17⟩ := c_law (law := 0) (Or.inl rfl) r15 ok h8 hb w15
    have f17 := F_DX2_lawSays _ _ _ _ _ e17
    have hr := (cv_law_r ok h8 hb).1
    have ewd : cv_wind A k p mo = cv_law A 0 (cv_ww A k p mo) % 5 := by unfold cv_wind; rw [if_neg (by omega)]
    have l5 : 0 ≤ cv_wind A k p mo ∧ cv_wind A k p mo ≤ 4 := cv_wind_r _ _ _ _
    rw [e17]
    simp only [qbd_some]
    rw [floorMod_e (by omega) (by omega) (by decide) (by decide), ← ewd]
    simp only [qbd_some]
    have fl17 : h17.2.1 = true := by rw [f17.2.1 (by omega), f15, fl]
    rw [if_pos fl17, if_pos bnd, qw_e (by omega) (by omega), qb8_i (a := cv_wind A k p mo + 1) (by omega) (by omega), qb8_i (a := cv_wind A k p mo + 1) (by omega) (by omega)]
    have fl22 : (qu h17 225 sl (cv_wind A k p mo + 1)).2.1 = true := fl17
    rw [if_pos fl22, if_pos bnd, qu_s, up_s, qw_e (by omega) (by omega), show cv_wind A k p mo + 1 - 1 = cv_wind A k p mo by omega]
    refine ⟨_, rfl, ?_⟩
    intro _ k' p' m' hk' hp' hm'
    rw [qu_s]
    by_cases es : (k' * 6 + p') * 30 + m' = sl
    · right
      rw [es, up_s]
      have q1 : (k' : Int) = k := by omega
      have q2 : (p' : Int) = p := by omega
      have q3 : (m' : Int) = mo := by omega
      rw [q1, q2, q3]
    · rw [up_n _ _ es, f17.fn (i := 225) (fun k => by omega), o15 225 (by decide)]
      exact w fl k' p' m' hk' hp' hm'
  · rw [if_pos z]
    have q := w fl k.toNat p.toNat mo.toNat (by omega) (by omega) (by omega)
    rw [← hsl, ck, cp, cm] at q
    rcases q with q | q
    · exact absurd q z
    · have l5 : 0 ≤ cv_wind A k p mo ∧ cv_wind A k p mo ≤ 4 := cv_wind_r _ _ _ _
      rw [q, qw_e (by omega) (by omega), show cv_wind A k p mo + 1 - 1 = cv_wind A k p mo by omega]
      exact ⟨h, rfl, w⟩
theorem c_wind {h : qH} {A : Nat → Int} {e k t : Int} (E : cE h A e) (k0 : 0 ≤ k) (k1 : k < A 1 * A 2) (t0 : 0 ≤ t) (t1 : t < 2147483648) :
    ∃ h', DX2_windAt k t h = some (cv_wind A k (cv_ph A t) (cv_mo A t), h') ∧ cW h' A := by
  obtain ⟨G, r, e6, w⟩ := E
  obtain ⟨hw, _, _⟩ := G.wh k0 k1
  have ok := G.2.2.2.2.2.2.2.2.2.1
  unfold DX2_windAt
  rw [c_isCell G r, if_pos ⟨k0, k1⟩]
  simp only [qbd_some]
  rw [if_neg (by decide), r.1.1, if_neg (show ¬ A 1 ≤ 0 by omega)]
  rcases r.2.2.2.2.2.1 with ⟨l1, l2⟩ | ⟨l1, l2, l3, _⟩
  · rw [if_neg (by show ¬ h.1 5 (7 + 2 * 0) < h.1 5 (8 + 2 * 0); omega)]
    refine ⟨h, ?_, w⟩
    unfold cv_wind
    rw [if_pos l1]
  · have : h.1 5 7 < h.1 5 8 := by
      have l2' : h.1 5 7 = A 10 := l2
      have l3' : h.1 5 8 = A 10 + A 12 := l3
      rcases ok with ok | ⟨_, _, o2, _⟩
      · have : A (8 + 0) = 0 := ok
        omega
      · have o2' : 0 < A 12 := o2
        omega
    rw [if_pos this]
    by_cases fl : h.2.1 = true
    · rw [if_pos fl]
      exact c_b56 ⟨G, r, e6, w⟩ fl l1 k0 k1 t0 t1
    · rw [if_neg fl, if_neg fl]
      simp only [qlt]
      refine c_b56 (e := e) ⟨G, r.cg (fun i a b => qalw_ne (by omega)), by rw [qalw_ne (by decide)]; exact e6, ?_⟩ rfl l1 k0 k1 t0 t1
      intro _ k' p' m' _ _ _
      exact Or.inl (qalw_s h _)
