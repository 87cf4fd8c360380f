/-! ===== a sea by itself: B has the sea A, whatever bottles stand in it ===== -/
def sq (A B : Nat → Int) : Prop := ∀ k, (k < 284 ∨ (1011 ≤ k ∧ k < 1912)) → B k = A k
section seq
variable {A B : Nat → Int}
theorem cv_bes_q (q : sq A B) (k way : Int) : cv_bes B k way = cv_bes A k way := by
  unfold cv_bes
  rw [q 1 (by omega), q 2 (by omega)]
theorem sq.is (q : sq A B) (G : cG A) {k : Int} (h0 : 0 ≤ k) (h1 : k < A 1 * A 2) : B (14 + k.toNat) = A (14 + k.toNat) := by
  have := G.cells
  exact q _ (by omega)
theorem cv_to_q (q : sq A B) (G : cG A) {s : Int} (h0 : 0 ≤ s) (h1 : s < A 4) : cv_to B s = cv_to A s := by
  have h4 := G.2.2.1
  obtain ⟨n, rfl⟩ := Int.eq_ofNat_of_zero_le h0
  have hs := G.2.2.2.2.2.2.2.2.1 n h1
  unfold cv_to
  rw [Int.toNat_natCast, q (266 + n) (by omega), q (272 + n) (by omega), cv_bes_q q]
  have hb := cv_bes_r G (way := A (272 + n)) hs.1 hs.2.1
  generalize cv_bes A (A (266 + n)) (A (272 + n)) = r at *
  by_cases e : r = -1
  · rw [if_neg (fun g => g.1 e), if_neg (fun g => g.1 e)]
  · rw [q.is G (k := r) (by omega) (by omega)]
theorem cv_ph_q (q : sq A B) (t : Int) : cv_ph B t = cv_ph A t := by unfold cv_ph; rw [q 3 (by omega)]
theorem cv_mo_q (q : sq A B) (t : Int) : cv_mo B t = cv_mo A t := by unfold cv_mo; rw [q 5 (by omega)]
theorem cv_code_q (q : sq A B) {law : Nat} (hl : law ≤ 1) (h0 : 0 ≤ A (10 + law)) (h1 : A (10 + law) + A (12 + law) ≤ 900) : cv_code B law = cv_code A law := by
  unfold cv_code
  rw [q (12 + law) (by omega), q (10 + law) (by omega)]
  refine List.map_congr_left (fun i hi => ?_)
  have := List.mem_range.mp hi
  exact q _ (by omega)
theorem cv_okl_q (q : sq A B) {law : Nat} (hl : law ≤ 1) {b : Bool} (ok : cv_okl A law b) : cv_okl B law b := by
  unfold cv_okl
  rw [q (8 + law) (by omega), q (10 + law) (by omega), q (12 + law) (by omega)]
  rcases ok with ok | ⟨o0, o1, o2, o3, o4⟩
  · exact Or.inl ok
  · right
    rw [cv_code_q q hl o1 o3]
    exact ⟨o0, o1, o2, o3, o4⟩
theorem cv_law_q (q : sq A B) {law : Nat} (hl : law ≤ 1) {b : Bool} (ok : cv_okl A law b) (h : A (8 + law) = 1) (w : Nat → Int) : cv_law B law w = cv_law A law w := by
  rcases ok with ok | ⟨o0, o1, o2, o3, o4⟩
  · omega
  · unfold cv_law
    rw [cv_code_q q hl o1 o3]
theorem cv_ww_q (q : sq A B) (k ph mo : Int) : cv_ww B k ph mo = cv_ww A k ph mo := by
  funext j
  unfold cv_ww
  rw [q 1 (by omega)]
theorem cv_wind_q (q : sq A B) (G : cG A) (k ph mo : Int) : cv_wind B k ph mo = cv_wind A k ph mo := by
  have ok := G.2.2.2.2.2.2.2.2.2.1
  unfold cv_wind
  rw [q 8 (by omega)]
  by_cases e : A 8 = 0
  · rw [if_pos e, if_pos e]
  · have h8 : A (8 + 0) = 1 := by
      rcases ok with ok | ok
      · exact absurd ok e
      · exact ok.1
    rw [if_neg e, if_neg e, cv_law_q q (by decide) ok h8, cv_ww_q q]
theorem cG_q (q : sq A B) (G : cG A) : cG B := by
  obtain ⟨g1, g2, g3, g4, g5, g6, g7, g8, g9, g10, g11⟩ := id G
  have hc := G.cells
  unfold cG
  rw [q 1 (by omega), q 2 (by omega), q 3 (by omega), q 4 (by omega), q 5 (by omega), q 6 (by omega), q 7 (by omega)]
  refine ⟨g1, g2, g3, g4, g5, g6, fun k hk => ?_, fun j hj => ?_, fun s hs => ?_, cv_okl_q q (by decide) g10, cv_okl_q q (by decide) g11⟩
  · rw [q (14 + k) (by omega)]
    exact g7 k hk
  · rw [q (50 + j) (by omega)]
    exact g8 j hj
  · have := g9 s hs
    rw [q (266 + s) (by omega), q (272 + s) (by omega), q (278 + s) (by omega), q.is G this.1 this.2.1]
    exact this
theorem cB_q (q : sq A B) (G : cG A) {N : Int} {v : Nat → Int} (b : cB A N v) : cB B N v := by
  obtain ⟨b0, b1, b2, b3, b4, b5, b6, b7, b8⟩ := b
  unfold cB
  rw [q 1 (by omega), q 2 (by omega), q.is G b1.1 b1.2]
  exact ⟨b0, b1, b2, b3, b4, b5, b6, b7, b8⟩
theorem cv_step_q (q : sq A B) (G : cG A) {N : Int} {v : Nat → Int} (b : cB A N v) (way : Int) : cv_step B way v = cv_step A way v := by
  have b1 := b.2.1
  have hb := cv_bes_r G (way := way) b1.1 b1.2
  unfold cv_step
  rw [cv_bes_q q]
  generalize cv_bes A (v 1) way = r at *
  by_cases e : r = -1
  · rw [if_pos e, if_pos e]
  · rw [q.is G (k := r) (by omega) (by omega)]
theorem cv_cur_q (q : sq A B) (G : cG A) {N : Int} {v : Nat → Int} (b : cB A N v) (t : Int) : cv_cur B t v = cv_cur A t v := by
  have b1 := b.2.1
  have hc := G.cells
  have hp := cv_ph_r G t
  have h3 := G.2.1
  unfold cv_cur
  rw [cv_ph_q q, q (50 + 6 * (v 1).toNat + (cv_ph A t).toNat) (by omega), cv_step_q q G b]
theorem cv_go_q (q : sq A B) (G : cG A) {N : Int} {v : Nat → Int} (b : cB A N v) (t : Int) : cv_go B t v = cv_go A t v := by
  have e2 : ∀ u, cB A N u → cv_cur2 B t u = cv_cur2 A t u := by
    intro u hu
    unfold cv_cur2
    rw [cv_mo_q q, q 5 (by omega), q 6 (by omega), cv_cur_q q G hu]
  have e3 : ∀ u, cB A N u → cv_blow B t u = cv_blow A t u := by
    intro u hu
    unfold cv_blow
    rw [cv_mo_q q, cv_ph_q q, cv_wind_q q G, cv_step_q q G hu]
  unfold cv_go
  rw [cv_cur_q q G b, e2 _ (cB_cur G b), e3 _ (cB_cur2 G (cB_cur G b))]
theorem cv_find_q (q : sq A B) (G : cG A) {N : Int} {v : Nat → Int} (b : cB A N v) (h0 : v 0 = 1) (e t : Int) : cv_find B e t v = cv_find A e t v := by
  have b1 := b.2.1
  have h4 := G.2.2.1
  have hs := cB_sh G b h0
  have ok := G.2.2.2.2.2.2.2.2.2.2
  have es : cv_sh B v = cv_sh A v := by
    unfold cv_sh
    rw [q.is G b1.1 b1.2]
  have ek : ∀ s ph : Int, cv_keeps B v s ph = cv_keeps A v s ph := by
    intro s ph
    unfold cv_keeps
    rw [q 9 (by omega)]
    by_cases h9 : A 9 = 1
    · rw [cv_law_q q (by decide) ok h9]
    · simp only [h9, false_and]
  unfold cv_find cv_pass
  rw [es, cv_ph_q q, q (278 + (cv_sh A v).toNat) (by omega), cv_to_q q G hs.1 hs.2]
  have ek2 := ek (cv_sh A v) (cv_ph A t)
  by_cases kk : cv_keeps A v (cv_sh A v) (cv_ph A t)
  · have kb : cv_keeps B v (cv_sh A v) (cv_ph A t) := by rw [ek2]; exact kk
    rw [if_pos kb, if_pos kk]
  · have kb : ¬ cv_keeps B v (cv_sh A v) (cv_ph A t) := by rw [ek2]; exact kk
    rw [if_neg kb, if_neg kk]
theorem cv_tide_q (q : sq A B) (G : cG A) {N : Int} {v : Nat → Int} (b : cB A N v) (e t : Int) (c : Bool) : cv_tide B e t c v = cv_tide A e t c v := by
  have ea : ∀ u, cv_age B c u = cv_age A c u := by
    intro u
    unfold cv_age
    rw [q 7 (by omega)]
  unfold cv_tide
  rw [cv_go_q q G b, ea]
  have h1 := (cB_age (c := c) (cB_go G (t := t) b)).1
  have ee : cv_end B e t (cv_age A c (cv_go A t v)) = cv_end A e t (cv_age A c (cv_go A t v)) := by
    unfold cv_end
    by_cases h0 : cv_age A c (cv_go A t v) 0 = 1
    · rw [if_pos h0, if_pos h0, cv_find_q q G h1 h0]
    · rw [if_neg h0, if_neg h0]
  rw [ee]
end seq
/-- a tide of the reference, over a sea A -/
theorem m_tideA {h : qH} {A : Nat → Int} (q : sq A (h.1 213)) (G : cG A) {t N a2 e : Int} {c : Bool} (hc : a2 = if c = true then 1 else 0) (he : h.1 212 19 = e) (b : cB A N (h.1 217)) (hN : N < 1000000) (t0 : 0 ≤ t) (t1 : t < 2147483648) :
    ∃ h', DX10_goesTide t a2 h = some (0, h') ∧ h'.1 217 = cv_tide A e t c (h.1 217) := by
  obtain ⟨h', e1, e2⟩ := m_tide (cG_q q G) hc (cB_q q G b) hN t0 t1
  rw [he, cv_tide_q q G b] at e2
  exact ⟨h', e1, e2⟩
