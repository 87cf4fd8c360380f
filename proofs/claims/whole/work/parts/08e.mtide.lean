/-! ===== the reference: a law's row, the wind, a tide for one bottle ===== -/
theorem m_ww {h : qH} (G : cG (h.1 213)) {k t j : Int} (k0 : 0 ≤ k) (k1 : k < h.1 213 1 * h.1 213 2) (h0 : 0 ≤ t) (h1 : t < 2147483648) (j0 : 0 ≤ j) : DX10_windWord j k t h = some (cv_ww (h.1 213) k (cv_ph (h.1 213) t) (cv_mo (h.1 213) t) j.toNat, h) := by
  obtain ⟨hw, _, _⟩ := G.wh k0 k1
  have hk : k < 36 := by have := G.cells; omega
  obtain ⟨n, rfl⟩ := Int.eq_ofNat_of_zero_le j0
  unfold DX10_windWord cv_ww
  rw [m_phase G h0 h1, m_moon G h0 h1, Int.toNat_natCast, qdiv_e k0 (by omega) (by omega) (by omega), qrem_e k0 (by omega) (by omega) (by omega)]
  simp only [qbd_some]
  rw [if_neg (show ¬ h.1 213 1 = 0 by omega), if_neg (show ¬ h.1 213 1 = 0 by omega)]
  (repeat' split) <;> first | rfl | omega
theorem m_kw {h : qH} (G : cG (h.1 213)) {t j : Int} (h0 : 0 ≤ t) (h1 : t < 2147483648) (j0 : 0 ≤ j) : DX10_keepsWord j t h = some (cv_kw (h.1 217) (h.1 212 18) (cv_ph (h.1 213) t) j.toNat, h) := by
  obtain ⟨n, rfl⟩ := Int.eq_ofNat_of_zero_le j0
  unfold DX10_keepsWord cv_kw
  rw [m_phase G h0 h1, Int.toNat_natCast]
  simp only [qbd_some]
  (repeat' split) <;> first | rfl | omega
set_option maxRecDepth 20000 in
theorem m_rk {A v : Nat → Int} {fd k t m a1 : Int} {law : Nat} {w : Nat → Int} (hl : law = 0 ∨ law = 1) (ha : a1 = law) (hm : m = 1004 ∨ m = 1007) (hw : ∀ j, -1000000 ≤ w j ∧ w j ≤ 1000000)
    (W : ∀ (j : Int) (h1 : qH), h1.1 213 = A → h1.1 217 = v → h1.1 212 18 = fd → 0 ≤ j → (law = 0 → DX10_windWord j k t h1 = some (w j.toNat, h1)) ∧ (law = 1 → DX10_keepsWord j t h1 = some (w j.toNat, h1)))
    (hF : 0 ≤ A (10 + law)) (hM : A (10 + law) + A (12 + law) ≤ 900) :
    ∀ (cs : List Int) (N i : Nat) (s : List Bool) (b : Bool) (f : Nat → Int) (h : qH), cs.length < N → cv_ty m cs s = some [b] → cv_vt s f → (∀ j, j < s.length → h.1 218 j = f j) →
      h.1 213 = A → h.1 217 = v → h.1 212 18 = fd → (i : Int) + cs.length = A (12 + law) → (∀ j, j < cs.length → A (1012 + (A (10 + law)).toNat + i + j) = cs.getD j 0) → s.length ≤ 60 →
      ∃ h', DX10_reckons_l6 N a1 k t s.length i h = some (cv_ev w cs s.length f 0, h') := by
  intro cs
  induction cs with
  | nil =>
    intro N i s b f h hN ht hv he h1 h2 h3 hi hc hs
    obtain ⟨N, rfl⟩ : ∃ n, N = n + 1 := ⟨N - 1, by simp only [List.length_nil] at hN; omega⟩
    injection ht with ht
    subst ht
    rw [List.length_nil] at hi
    rw [DX10_reckons_l6.eq_2, qw_e (by omega) (by omega), if_pos (by omega), show (12 + a1).toNat = 12 + law by omega, h1, if_pos (by omega), he 0 (by simp)]
    exact ⟨h, rfl⟩
  | cons c cs ih =>
    intro N i s b f h hN ht hv he h1 h2 h3 hi hc hs
    obtain ⟨N, rfl⟩ : ∃ n, N = n + 1 := ⟨N - 1, by omega⟩
    rw [List.length_cons] at hi hN
    have hc0 := hc 0 (by rw [List.length_cons]; omega)
    rw [List.getD_cons_zero, Nat.add_zero] at hc0
    have hcs : ∀ j, j < cs.length → A (1012 + (A (10 + law)).toNat + (i + 1) + j) = cs.getD j 0 := by
      intro j hj
      have := hc (j + 1) (by rw [List.length_cons]; omega)
      rw [List.getD_cons_succ] at this
      rw [← this]
      congr 1
      omega
    have his : ((i + 1 : Nat) : Int) + cs.length = A (12 + law) := by omega
    have hsi : qw ((i : Int) + 1) = ((i + 1 : Nat) : Int) := qw_s (by omega)
    rw [DX10_reckons_l6.eq_2, qw_e (x := 12 + a1) (by omega) (by omega), if_pos (by omega), show (12 + a1).toNat = 12 + law by omega, h1, if_neg (by omega),
      qw_e (x := 10 + a1) (by omega) (by omega), if_pos (by omega), show (10 + a1).toNat = 10 + law by omega,
      qw_e (x := 1012 + A (10 + law)) (by omega) (by omega), qw_e (x := 1012 + A (10 + law) + (i : Int)) (by omega) (by omega), if_pos (by omega), show (1012 + A (10 + law) + (i : Int)).toNat = 1012 + (A (10 + law)).toNat + i by omega, hc0]
    simp only [qlt]
    rcases cv_ty_cons hm ht with ⟨c0, c1, c2, c3⟩ | ⟨c1, s1, rfl, c3⟩ | ⟨c1, s1, rfl, c3⟩ | ⟨c1, s1, rfl, c3⟩ | ⟨c1, s1, rfl, c3⟩
    · rw [if_neg (show ¬ 3000 ≤ c by omega)]
      have go : ∀ x : Int, (-1000000 ≤ x ∧ x ≤ 1000000) → ∃ h', DX10_reckons_l6 N a1 k t (qw ((s.length : Int) + 1)) (qw ((i : Int) + 1)) (qu h 218 s.length x) = some (cv_ev w cs (s.length + 1) (up f s.length x) 0, h') := by
        intro x hx
        rw [qw_s (by omega), hsi]
        refine ih N (i + 1) (false :: s) b (up f s.length x) (qu h 218 s.length x) (by omega) c3 (cv_vt_push hv rfl hx) ?_ ?_ ?_ ?_ his hcs (by rw [List.length_cons]; omega)
        · intro j hj
          rw [qu_s]
          unfold up
          split
          · rfl
          · exact he j (by rw [List.length_cons] at hj; omega)
        · rw [qu_ne (by decide), h1]
        · rw [qu_ne (by decide), h2]
        · rw [qu_ne (by decide), h3]
      by_cases hc2 : c < 1000
      · rw [if_neg (show ¬ 1000 ≤ c by omega), if_pos (by omega), Int.toNat_natCast, cv_ev_l hc2]
        exact go c (by omega)
      · rw [if_pos (show 1000 ≤ c by omega), qw_e (x := c - 1000) (by omega) (by omega), cv_ev_w (by omega) (by omega)]
        obtain ⟨w0, w1⟩ := W (c - 1000) h h1 h2 h3 (by omega)
        rcases hl with hl | hl
        · rw [if_neg (show ¬ ¬ a1 = 0 by omega), w0 hl]
          simp only [qbd_some]
          rw [if_pos (by omega), Int.toNat_natCast]
          exact go _ (hw _)
        · rw [if_pos (show ¬ a1 = 0 by omega), w1 hl]
          simp only [qbd_some]
          rw [if_pos (by omega), Int.toNat_natCast]
          exact go _ (hw _)
    · have ha2 := cv_vt_at hv
      have hf := he s1.length (by rw [List.length_cons]; omega)
      rw [List.length_cons] at hs
      have en : qw (((true :: s1).length : Int) - 1) = (s1.length : Int) := by rw [List.length_cons, qw_e (by omega) (by omega)]; omega
      rw [if_pos (show 3000 ≤ c by omega), if_neg (show ¬ ¬ c = 3008 by omega), en, if_pos (by omega), if_pos (by omega), Int.toNat_natCast, hf, hsi, qw_e (x := 1 - f s1.length) (by omega) (by omega), cv_ev_n c1, show (true :: s1).length - 1 = s1.length by rw [List.length_cons]; omega]
      refine ih N (i + 1) (true :: s1) b (up f s1.length (1 - f s1.length)) (qu h 218 s1.length (1 - f s1.length)) (by omega) c3 (cv_vt_top hv ⟨by rcases ha2.2 rfl with e | e <;> omega, fun _ => by rcases ha2.2 rfl with e | e <;> omega⟩) ?_ ?_ ?_ ?_ his hcs (by rw [List.length_cons]; omega)
      · intro j hj
        rw [qu_s]
        unfold up
        split
        · rfl
        · exact he j hj
      · rw [qu_ne (by decide), h1]
      · rw [qu_ne (by decide), h2]
      · rw [qu_ne (by decide), h3]
    all_goals
      have p1 := cv_vt_at hv
      have p2 := cv_vt_at (cv_vt_pop hv)
      rw [List.length_cons] at p1
      have hf1 := he s1.length (by rw [List.length_cons, List.length_cons]; omega)
      have hf2 := he (s1.length + 1) (by rw [List.length_cons, List.length_cons]; omega)
      rw [List.length_cons, List.length_cons] at hs
      have en : ∀ x y : Bool, qw (((x :: y :: s1).length : Int) + (-1)) = ((s1.length + 1 : Nat) : Int) := fun x y => by rw [List.length_cons, List.length_cons, qw_e (by omega) (by omega)]; omega
      have em : qw (((s1.length + 1 : Nat) : Int) - 1) = (s1.length : Int) := by rw [qw_e (by omega) (by omega)]; omega
      have e0 : ∀ a b : Bool, (a :: b :: s1).length - 1 = s1.length + 1 := fun a b => by rw [List.length_cons, List.length_cons]; omega
      have e2 : ∀ a b : Bool, (a :: b :: s1).length - 2 = s1.length := fun a b => by rw [List.length_cons, List.length_cons]; omega
      rw [if_pos (show 3000 ≤ c by omega), if_pos (show ¬ c = 3008 by omega), en, em, if_pos (by omega), if_pos (by omega), Int.toNat_natCast, Int.toNat_natCast, hf1, hf2, m_bet (by omega) p2.1 p1.1]
      simp only [qbd_some]
      rw [if_pos (by omega), hsi, cv_ev_b (by omega) (by omega), e0, e2]
      refine ih N (i + 1) _ b (up f s1.length (cv_bet c (f s1.length) (f (s1.length + 1)))) (qu h 218 s1.length (cv_bet c (f s1.length) (f (s1.length + 1)))) (by omega) c3 (cv_vt_top (cv_vt_pop hv) ?_) ?_ (by rw [qu_ne (by decide), h1]) (by rw [qu_ne (by decide), h2]) (by rw [qu_ne (by decide), h3]) his hcs (by rw [List.length_cons]; omega)
    · exact ⟨cv_bet_n c1, fun e => by cases e⟩
    · intro j hj
      rw [qu_s]
      unfold up
      split
      · rfl
      · exact he j (by simp only [List.length_cons] at hj ⊢; omega)
    · have := cv_bet_t (c := c) (a := f s1.length) (b := f (s1.length + 1)) (by omega)
      exact ⟨by omega, fun _ => this⟩
    · intro j hj
      rw [qu_s]
      unfold up
      split
      · rfl
      · exact he j (by simp only [List.length_cons] at hj ⊢; omega)
    · have := cv_bet_t (c := c) (a := f s1.length) (b := f (s1.length + 1)) (by omega)
      exact ⟨by omega, fun _ => this⟩
    · intro j hj
      rw [qu_s]
      unfold up
      split
      · rfl
      · exact he j (by simp only [List.length_cons] at hj ⊢; omega)
theorem cv_code_len (A : Nat → Int) (law : Nat) : (cv_code A law).length = (A (12 + law)).toNat := by unfold cv_code; rw [List.length_map, List.length_range]
theorem cv_code_at (A : Nat → Int) (law : Nat) {j : Nat} (hj : j < (A (12 + law)).toNat) : (cv_code A law).getD j 0 = A (1012 + (A (10 + law)).toNat + j) := by
  unfold cv_code
  rw [List.getD_eq_getElem?_getD, List.getElem?_map, List.getElem?_range hj]
  rfl
theorem cv_law_r {A : Nat → Int} {law : Nat} {b : Bool} (ok : cv_okl A law b) (h1 : A (8 + law) = 1) {w : Nat → Int} (hw : ∀ j, -1000000 ≤ w j ∧ w j ≤ 1000000) : (-1000000 ≤ cv_law A law w ∧ cv_law A law w ≤ 1000000) ∧ (b = true → cv_law A law w = 0 ∨ cv_law A law w = 1) := by
  rcases ok with ok | ⟨_, _, _, _, ok⟩
  · omega
  · have h := (cv_ev_r (m := if b = true then 1007 else 1004) (by cases b <;> decide) hw (cv_code A law) [] [b] (fun _ => 0) (fun _ => 0) ok (fun j hj => by cases hj) (fun _ _ => rfl)).1 0 (by simp)
    unfold cv_law
    refine ⟨h.1, fun g => h.2 ?_⟩
    rw [g]
    rfl
theorem m_law {h : qH} {law : Nat} (hl : law = 0 ∨ law = 1) {b : Bool} (ok : cv_okl (h.1 213) law b) (h1 : h.1 213 (8 + law) = 1) {k t : Int} {w : Nat → Int} (hw : ∀ j, -1000000 ≤ w j ∧ w j ≤ 1000000)
    (W : ∀ (j : Int) (hh : qH), hh.1 213 = h.1 213 → hh.1 217 = h.1 217 → hh.1 212 18 = h.1 212 18 → 0 ≤ j → (law = 0 → DX10_windWord j k t hh = some (w j.toNat, hh)) ∧ (law = 1 → DX10_keepsWord j t hh = some (w j.toNat, hh))) :
    ∃ h', DX10_reckons (law : Int) k t h = some (cv_law (h.1 213) law w, h') := by
  rcases ok with ok | ⟨_, o1, o2, o3, ok⟩
  · omega
  · have hlen := cv_code_len (h.1 213) law
    have key := m_rk (A := h.1 213) (v := h.1 217) (fd := h.1 212 18) (k := k) (t := t) (m := if b = true then 1007 else 1004) (a1 := law) hl rfl (by cases b <;> decide) hw W o1 o3 (cv_code (h.1 213) law) LF 0 [] b (fun _ => 0) h
      (by rw [hlen]; unfold LF; omega) ok (fun j hj => by cases hj) (fun j hj => by cases hj) rfl rfl rfl (by rw [hlen]; omega) (fun j hj => by rw [cv_code_at _ _ (by rw [← hlen]; exact hj), Nat.add_zero]) (by decide)
    exact key
theorem cv_ww_b {A : Nat → Int} (G : cG A) {k ph mo : Int} (k0 : 0 ≤ k) (k1 : k < A 1 * A 2) (p0 : 0 ≤ ph ∧ ph < 6) (m0 : 0 ≤ mo ∧ mo < 30) (j : Nat) : -1000000 ≤ cv_ww A k ph mo j ∧ cv_ww A k ph mo j ≤ 1000000 := by
  obtain ⟨hw, _, _⟩ := G.wh k0 k1
  have hk : k < 36 := by have := G.cells; omega
  unfold cv_ww
  have m1 : 0 ≤ k % A 1 := Int.emod_nonneg _ (by omega)
  have m2 : k % A 1 < A 1 := Int.emod_lt_of_pos _ (by omega)
  have d1 : 0 ≤ k / A 1 := Int.ediv_nonneg k0 (by omega)
  have d2 : k / A 1 ≤ k := Int.ediv_le_self _ k0
  (repeat' split) <;> omega
theorem cv_kw_b {A : Nat → Int} {N : Int} {v : Nat → Int} (b : cB A N v) (hN : N ≤ 1000000) {s ph : Int} (s0 : -10 ≤ s ∧ s < 10) (p0 : 0 ≤ ph ∧ ph < 6) (j : Nat) : -1000000 ≤ cv_kw v s ph j ∧ cv_kw v s ph j ≤ 1000000 := by
  obtain ⟨b0, b1, b2, b3, b4, b5, b6, b7, b8⟩ := b
  unfold cv_kw
  (repeat' split) <;> omega
theorem m_wind {h : qH} (G : cG (h.1 213)) {k t : Int} (k0 : 0 ≤ k) (k1 : k < h.1 213 1 * h.1 213 2) (h0 : 0 ≤ t) (h1 : t < 2147483648) :
    ∃ h', DX10_windOf k t h = some (cv_wind (h.1 213) k (cv_ph (h.1 213) t) (cv_mo (h.1 213) t), h') := by
  have ok := G.2.2.2.2.2.2.2.2.2.1
  have hp := cv_ph_r G t
  have h3 := G.2.1
  have hm := cv_mo_r G t
  unfold DX10_windOf cv_wind
  by_cases e : h.1 213 8 = 0
  · rw [if_neg (fun g => g e), if_pos e]
    exact ⟨h, rfl⟩
  · have e1 : h.1 213 (8 + 0) = 1 := by
      rcases ok with ok | ok
      · exact absurd ok e
      · exact ok.1
    have hb := fun j => cv_ww_b G k0 k1 (ph := cv_ph (h.1 213) t) (mo := cv_mo (h.1 213) t) (by omega) (by omega) j
    obtain ⟨h', e2⟩ := m_law (h := h) (law := 0) (Or.inl rfl) ok e1 (k := k) (t := t) (w := cv_ww (h.1 213) k (cv_ph (h.1 213) t) (cv_mo (h.1 213) t)) hb
      (fun j hh g1 _ _ j0 => ⟨fun _ => by have := m_ww (h := hh) (by rw [g1]; exact G) (k := k) (t := t) k0 (by rw [g1]; exact k1) h0 h1 j0; rw [g1] at this; exact this, fun q => by cases q⟩)
    have hr := (cv_law_r ok e1 hb).1
    rw [if_pos e, if_neg e]
    rw [show (0 : Int) = ((0 : Nat) : Int) from rfl, e2]
    simp only [qbd_some, qlt]
    refine ⟨h', ?_⟩
    generalize cv_law (h.1 213) 0 (cv_ww (h.1 213) k (cv_ph (h.1 213) t) (cv_mo (h.1 213) t)) = r at *
    rw [qrem_t (by omega) (by omega) (by decide) (by decide)]
    have ht := Int.tmod_eq_emod (a := r) (b := 5)
    have l1 := Int.lt_tmod_of_pos r (show (0 : Int) < 5 by decide)
    by_cases hc : 0 ≤ r ∨ (5 : Int) ∣ r
    · rw [if_pos hc] at ht
      rw [if_pos (by omega)]
      congr 2
      omega
    · rw [if_neg hc] at ht
      have hn : ((5 : Int).natAbs : Int) = 5 := rfl
      rw [hn] at ht
      have h5 : r % 5 < 5 := Int.emod_lt_of_pos _ (by decide)
      rw [if_neg (by omega), qw_e (by omega) (by omega)]
      congr 2
      omega
