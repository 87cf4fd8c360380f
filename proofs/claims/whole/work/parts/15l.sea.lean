section lo
variable {hc hm : qH}
theorem j_wind (S : SG hc hm) (k : hm.1 212 9 = 7) : JS hm (DX4_windLine hc) (DX10_readLine hm) := by
  obtain ⟨h1, h2, e1, e2, S1, n1, n2, f1⟩ := S.adv (by omega)
  have w := S.2.2.1
  have e9 : ∀ a : Int, ¬ hm.1 212 9 = a → DX10_eats a hm = some (0, hm) := fun a ha => by unfold DX10_eats; rw [ok_is w, if_neg ha, qbd_some, if_neg (show ¬ ¬ (0 : Int) = 0 by decide)]
  unfold DX4_windLine DX10_readLine DX10_readLine_b83 DX10_readLaw
  rw [e9 2 (by omega), qbd_some, if_pos rfl, ok_is w, if_neg (show ¬ hm.1 212 9 = 3 by omega), qbd_some, if_pos rfl, ok_is w, if_neg (show ¬ hm.1 212 9 = 6 by omega), qbd_some, if_pos rfl, ok_is w, if_pos k, qbd_some, if_pos (show ¬ (1 : Int) = 0 by decide), k, qw_e (x := 7 - 7) (by decide) (by decide), show (7 : Int) - 7 = 0 from rfl, e1, e2, qbd_some, qbd_some]
  simp only [qlt]
  have q5 : h1.1 2 5 = h2.1 216 1011 := S1.2.2.2.2.1.1
  rw [q5]
  obtain ⟨r, h3, h4, y1, y2⟩ := tk_sign S1.1 S1.2.1 S1.2.2.1 (j := 1) (x := 58) (by decide) (by decide +kernel)
  rw [show (40 + ((1 : Nat) : Int)) = 41 from rfl] at y2
  rw [y1, qbd_some]
  unfold DX10_readLaw_b18
  simp only [qlt]
  rcases y2 with ⟨rfl, y2, y3, y4, y5⟩ | ⟨rfl, y2, y3, y4⟩
  · obtain ⟨g1, g2, a1, a2, Sa, na, nb, fa⟩ := S1.adv (by omega)
    rw [y4] at a1
    rw [y5] at a2
    injection a1 with a1
    injection a1 with _ a1
    injection a2 with a2
    injection a2 with _ a2
    subst a1 a2
    rw [y2, qbd_some, if_pos (show ¬ (1 : Int) = 0 by decide), if_neg (show ¬ (1 : Int) = 0 by decide), if_neg (show ¬ ¬ True from fun z => z trivial)]
    have Lg := Sa.lg (l := 0)
    rw [show (((0 : Nat) : Int)) = 0 from rfl] at Lg
    obtain ⟨r, h5, r', h6, x1, x2, x3⟩ := lang_sum Lg
    rw [x1, x2, qbd_some, qbd_some, nb]
    have fc : fr (fun i k => i = 2 ∨ i = 23) h3 h5 := (F_RX4g _ _ _ _ _ _ _ x1).mono (fun i k z => by omega)
    rcases x3 with ⟨rfl, l⟩ | ⟨rfl, b⟩
    · have bf : h5.2.2.2.2 = true := by rw [l.2.1.1.1]
      obtain ⟨hY, z1, z2, z3⟩ := law_wr (l := 0) (by decide) Sa l fc
      rw [show (((0 : Nat) : Int)) = 0 from rfl, nb] at z1
      have l5 : h5.1 2 5 = h6.1 216 1011 := l.2.1.2.2.2.2.1
      have bf2 : (qu h5 16 7 (h2.1 216 1011)).2.2.2.2 = true := bf
      have v5 : (qu h5 16 7 (h2.1 216 1011)).1 2 5 = h6.1 216 1011 := by rw [qu_ne (by decide)]; exact l5
      rw [if_pos (show ¬ (1 : Int) = 0 by decide), if_pos bf, if_pos bf2, v5, z1, qbd_some]
      rw [nb] at z2
      have l1 := l.2.2.1
      have p15 : (qu h4 212 15 0).1 212 6 = h4.1 212 6 := by rw [qu_s, up_n _ _ (by decide)]
      exact JS.good rfl rfl z2 (by omega)
    · rw [if_neg (show ¬ ¬ (0 : Int) = 0 by decide)]
      unfold DX10_readLaw_b49
      rw [if_neg b.w, qbd_some]
      exact JS.bad rfl rfl (Sa.sb b fc (fun i k z => by omega))
  · have f3 := F_DX4_takeSign _ _ _ _ y1
    have b2 : BD h3 (qu h4 212 15 0) := by
      obtain ⟨b1, b2, b3, b4⟩ := y4
      refine ⟨b1, ?_, ?_, ?_⟩
      · rw [qu_s, up_n _ _ (by decide)]; exact b2
      · rw [qu_s, up_n _ _ (by decide)]; exact b3
      · rw [qu_s, up_n _ _ (by decide)]; exact b4
    rw [y2, qbd_some, if_neg (show ¬ ¬ (0 : Int) = 0 by decide), if_pos rfl, y3, qbd_some, if_neg (show ¬ ¬ True from fun z => z trivial), in_sum b2.w, qbd_some]
    unfold DX10_readLaw_b49
    rw [if_neg b2.w, qbd_some]
    exact JS.bad rfl rfl (S1.sb b2 f3 (fun i k z => by omega))

theorem j_keeps (S : SG hc hm) (k : hm.1 212 9 = 8) : JS hm (DX4_keepsLine hc) (DX10_readLine hm) := by
  obtain ⟨h1, h2, e1, e2, S1, n1, n2, f1⟩ := S.adv (by omega)
  have w := S.2.2.1
  have e9 : ∀ a : Int, ¬ hm.1 212 9 = a → DX10_eats a hm = some (0, hm) := fun a ha => by unfold DX10_eats; rw [ok_is w, if_neg ha, qbd_some, if_neg (show ¬ ¬ (0 : Int) = 0 by decide)]
  unfold DX4_keepsLine DX10_readLine DX10_readLine_b83 DX10_readLaw
  rw [e9 2 (by omega), qbd_some, if_pos rfl, ok_is w, if_neg (show ¬ hm.1 212 9 = 3 by omega), qbd_some, if_pos rfl, ok_is w, if_neg (show ¬ hm.1 212 9 = 6 by omega), qbd_some, if_pos rfl, ok_is w, if_neg (show ¬ hm.1 212 9 = 7 by omega), qbd_some, if_neg (show ¬ ¬ (0 : Int) = 0 by decide), ok_is w, if_pos k, qbd_some, if_neg (show ¬ (1 : Int) = 0 by decide), k, qw_e (x := 8 - 7) (by decide) (by decide), show (8 : Int) - 7 = 1 from rfl, e1, e2, qbd_some, qbd_some]
  simp only [qlt]
  have q5 : h1.1 2 5 = h2.1 216 1011 := S1.2.2.2.2.1.1
  rw [q5]
  obtain ⟨r, h3, h4, y1, y2⟩ := tk_sign S1.1 S1.2.1 S1.2.2.1 (j := 1) (x := 58) (by decide) (by decide +kernel)
  rw [show (40 + ((1 : Nat) : Int)) = 41 from rfl] at y2
  rw [y1, qbd_some]
  unfold DX10_readLaw_b18
  simp only [qlt]
  rcases y2 with ⟨rfl, y2, y3, y4, y5⟩ | ⟨rfl, y2, y3, y4⟩
  · obtain ⟨g1, g2, a1, a2, Sa, na, nb, fa⟩ := S1.adv (by omega)
    rw [y4] at a1
    rw [y5] at a2
    injection a1 with a1
    injection a1 with _ a1
    injection a2 with a2
    injection a2 with _ a2
    subst a1 a2
    rw [y2, qbd_some, if_pos (show ¬ (1 : Int) = 0 by decide), if_neg (show ¬ (1 : Int) = 0 by decide), if_pos (show ¬ (1 : Int) = 0 by decide)]
    have Lg := Sa.lg (l := 1)
    rw [show (((1 : Nat) : Int)) = 1 from rfl] at Lg
    obtain ⟨r, h5, r', h6, x1, x2, x3⟩ := lang_truth Lg
    rw [x1, x2, qbd_some, qbd_some, nb]
    have fc : fr (fun i k => i = 2 ∨ i = 23) h3 h5 := (F_RX4g _ _ _ _ _ _ _ x1).mono (fun i k z => by omega)
    rcases x3 with ⟨rfl, l⟩ | ⟨rfl, b⟩
    · have bf : h5.2.2.2.2 = true := by rw [l.2.1.1.1]
      obtain ⟨hY, z1, z2, z3⟩ := law_wr (l := 1) (by decide) Sa l fc
      rw [show (((1 : Nat) : Int)) = 1 from rfl, nb] at z1
      have l5 : h5.1 2 5 = h6.1 216 1011 := l.2.1.2.2.2.2.1
      have bf2 : (qu h5 16 9 (h2.1 216 1011)).2.2.2.2 = true := bf
      have v5 : (qu h5 16 9 (h2.1 216 1011)).1 2 5 = h6.1 216 1011 := by rw [qu_ne (by decide)]; exact l5
      rw [if_pos (show ¬ (1 : Int) = 0 by decide), if_pos bf, if_pos bf2, v5, z1, qbd_some]
      rw [nb] at z2
      have l1 := l.2.2.1
      have p15 : (qu h4 212 15 1).1 212 6 = h4.1 212 6 := by rw [qu_s, up_n _ _ (by decide)]
      exact JS.good rfl rfl z2 (by omega)
    · rw [if_neg (show ¬ ¬ (0 : Int) = 0 by decide)]
      unfold DX10_readLaw_b49
      rw [if_neg b.w, qbd_some]
      exact JS.bad rfl rfl (Sa.sb b fc (fun i k z => by omega))
  · have f3 := F_DX4_takeSign _ _ _ _ y1
    have b2 : BD h3 (qu h4 212 15 1) := by
      obtain ⟨b1, b2, b3, b4⟩ := y4
      refine ⟨b1, ?_, ?_, ?_⟩
      · rw [qu_s, up_n _ _ (by decide)]; exact b2
      · rw [qu_s, up_n _ _ (by decide)]; exact b3
      · rw [qu_s, up_n _ _ (by decide)]; exact b4
    rw [y2, qbd_some, if_neg (show ¬ ¬ (0 : Int) = 0 by decide), if_pos rfl, y3, qbd_some, if_pos (show ¬ (1 : Int) = 0 by decide), in_truth b2.w, qbd_some]
    unfold DX10_readLaw_b49
    rw [if_neg b2.w, qbd_some]
    exact JS.bad rfl rfl (S1.sb b2 f3 (fun i k z => by omega))

/-- what a line gives, told again as a truth -/
theorem JS.b01 {h0 : qH} {x y : Option (Int × qH)} (J : JS h0 x y) : JS h0 (qbd x fun r h => (if r = 0 ∨ r = 1 then some (r, h) else none)) y := by
  obtain ⟨r, a, r', b, z1, z2, z3⟩ := J
  refine ⟨r, a, r', b, ?_, z2, z3⟩
  rw [z1, qbd_some, if_pos]
  rcases z3 with z | z
  · exact Or.inr z.1
  · exact Or.inl z.1
theorem j_other (S : SG hc hm) : JS hm (DX4_otherLine hc) (DX10_readLine hm) := by
  have t2 := tk_word (i := 2) (by decide) S.1 S.2.1
  rw [show kwS 2 = 3 from rfl] at t2
  have t3 := tk_word (i := 3) (by decide) S.1 S.2.1
  rw [show kwS 3 = 4 from rfl] at t3
  have t6 := tk_word (i := 6) (by decide) S.1 S.2.1
  rw [show kwS 6 = 11 from rfl] at t6
  have t7 := tk_word (i := 7) (by decide) S.1 S.2.1
  rw [show kwS 7 = 12 from rfl] at t7
  have t8 := tk_word (i := 8) (by decide) S.1 S.2.1
  rw [show kwS 8 = 23 from rfl] at t8
  have t9 := tk_word (i := 9) (by decide) S.1 S.2.1
  rw [show kwS 9 = 22 from rfl] at t9
  have t11 := tk_word (i := 11) (by decide) S.1 S.2.1
  rw [show kwS 11 = 28 from rfl] at t11
  unfold DX4_otherLine
  rw [t2, qbd_some]
  by_cases k2 : hm.1 212 9 = 2
  · rw [if_pos (show hm.1 212 9 = ((2 : Nat) : Int) from k2), if_neg (show ¬ (1 : Int) = 0 by decide)]
    exact (j_rock S k2).b01
  rw [if_neg (show ¬ hm.1 212 9 = ((2 : Nat) : Int) from k2), if_pos rfl]
  rw [t3, qbd_some]
  by_cases k3 : hm.1 212 9 = 3
  · rw [if_pos (show hm.1 212 9 = ((3 : Nat) : Int) from k3), if_neg (show ¬ (1 : Int) = 0 by decide)]
    exact (j_shore S k3).b01
  rw [if_neg (show ¬ hm.1 212 9 = ((3 : Nat) : Int) from k3), if_pos rfl]
  rw [t6, qbd_some]
  by_cases k6 : hm.1 212 9 = 6
  · rw [if_pos (show hm.1 212 9 = ((6 : Nat) : Int) from k6), if_neg (show ¬ (1 : Int) = 0 by decide)]
    exact (j_cur S k6).b01
  rw [if_neg (show ¬ hm.1 212 9 = ((6 : Nat) : Int) from k6), if_pos rfl]
  rw [t7, qbd_some]
  by_cases k7 : hm.1 212 9 = 7
  · rw [if_pos (show hm.1 212 9 = ((7 : Nat) : Int) from k7), if_neg (show ¬ (1 : Int) = 0 by decide)]
    exact (j_wind S k7).b01
  rw [if_neg (show ¬ hm.1 212 9 = ((7 : Nat) : Int) from k7), if_pos rfl]
  rw [t8, qbd_some]
  by_cases k8 : hm.1 212 9 = 8
  · rw [if_pos (show hm.1 212 9 = ((8 : Nat) : Int) from k8), if_neg (show ¬ (1 : Int) = 0 by decide)]
    exact (j_keeps S k8).b01
  rw [if_neg (show ¬ hm.1 212 9 = ((8 : Nat) : Int) from k8), if_pos rfl]
  rw [t9, qbd_some]
  by_cases k9 : hm.1 212 9 = 9
  · rw [if_pos (show hm.1 212 9 = ((9 : Nat) : Int) from k9), if_neg (show ¬ (1 : Int) = 0 by decide)]
    exact (j_moon S k9).b01
  rw [if_neg (show ¬ hm.1 212 9 = ((9 : Nat) : Int) from k9), if_pos rfl]
  rw [t11, qbd_some]
  by_cases k11 : hm.1 212 9 = 11
  · rw [if_pos (show hm.1 212 9 = ((11 : Nat) : Int) from k11), if_neg (show ¬ (1 : Int) = 0 by decide)]
    exact (j_cork S k11).b01
  rw [if_neg (show ¬ hm.1 212 9 = ((11 : Nat) : Int) from k11), if_pos rfl]
  have w := S.2.2.1
  have e9 : ∀ a : Int, ¬ hm.1 212 9 = a → DX10_eats a hm = some (0, hm) := fun a ha => by unfold DX10_eats; rw [ok_is w, if_neg ha, qbd_some, if_neg (show ¬ ¬ (0 : Int) = 0 by decide)]
  obtain ⟨h1, h2, e1, e2, b, f1, f2⟩ := tk_rf S.1 S.2.1 w (w := 2) (by decide)
  unfold DX10_readLine
  rw [e9 2 k2, qbd_some, if_pos rfl, ok_is w, if_neg k3, qbd_some, if_pos rfl, ok_is w, if_neg k6, qbd_some, if_pos rfl, ok_is w, if_neg k7, qbd_some, if_neg (show ¬ ¬ (0 : Int) = 0 by decide), ok_is w, if_neg k8, qbd_some, if_pos rfl, ok_is w, if_neg k9, qbd_some, if_pos rfl, e9 11 k11, qbd_some, if_pos rfl, e1, e2, qbd_some, qbd_some, if_pos (Or.inl rfl)]
  exact JS.bad rfl rfl (S.sb b f1 (fun i k z => by omega))

/-! where a throw goes to -/
theorem q_beside {A : Nat → Int} (G : cG A) (r : cM hc A) {k : Int} (h0 : 0 ≤ k) (h1 : k < A 1 * A 2) (way : Int) : DX1_beside 16 k way hc = some (cv_bes A k way, hc) := by
  obtain ⟨hw, hh1, hh2⟩ := G.wh h0 h1
  have hcc := G.cells
  unfold DX1_beside cv_bes
  rw [r.1.1, r.1.2.1, qw_e (x := A 1 * A 2) (by omega) (by omega), if_neg (by omega), if_neg (by omega), if_pos (by omega), if_neg (show ¬ A 1 = 0 by omega), if_neg (show ¬ A 1 = 0 by omega), qrem_e h0 (by omega) (by omega) (by omega)]
  simp (disch := omega) only [qw_e]
  (repeat' split) <;> first | rfl | omega
theorem aim_l {A : Nat → Int} (G : cG A) {N : Nat} (hN : A 4 = (N : Int)) : ∀ (m s F : Nat) (hc : qH), s + m = N → m < F → cM hc A → ∃ hc', DX1_aim_l2 F 16 (s : Int) hc = some (0, hc') ∧ fr (fun i _ => i = 21) hc hc' ∧ (∀ q : Nat, s ≤ q → q < N → hc'.1 21 q = cv_to A (q : Int)) ∧ (∀ q : Nat, q < s → hc'.1 21 q = hc.1 21 q) := by
  intro m
  have h4 := G.2.2.1
  induction m with
  | zero =>
    intro s F hc hs hF M
    obtain ⟨F, rfl⟩ : ∃ n, F = n + 1 := ⟨F - 1, by omega⟩
    rw [DX1_aim_l2.eq_2, M.1.2.2, hN, if_pos (by omega)]
    exact ⟨hc, rfl, fr.rf, fun q a b => by omega, fun _ _ => rfl⟩
  | succ m ih =>
    intro s F hc hs hF M
    obtain ⟨F, rfl⟩ : ∃ n, F = n + 1 := ⟨F - 1, by omega⟩
    have g9 := G.2.2.2.2.2.2.2.2.1 s (by omega)
    have m9 := M.2.2 s (by omega)
    have br := cv_bes_r G (k := A (266 + s)) (way := A (272 + s)) g9.1 g9.2.1
    have to : cv_to A (s : Int) = if cv_bes A (A (266 + s)) (A (272 + s)) ≠ -1 ∧ A (14 + (cv_bes A (A (266 + s)) (A (272 + s))).toNat) = 0 then cv_bes A (A (266 + s)) (A (272 + s)) else -1 := by
      unfold cv_to
      rw [Int.toNat_natCast]
    rw [DX1_aim_l2.eq_2, M.1.2.2, hN, if_neg (show ¬ (N : Int) ≤ (s : Int) by omega), if_neg (show ¬ 6 ≤ (s : Int) by omega), if_pos (show 0 ≤ (s : Int) ∧ (s : Int) < 6 by omega), if_pos (show 0 ≤ (s : Int) ∧ (s : Int) < 6 by omega), Int.toNat_natCast, show 16 + 3 = 19 from rfl, show 16 + 4 = 20 from rfl, m9.1, m9.2, q_beside G M g9.1 g9.2.1, qbd_some, q_isOpen G M, qbd_some, if_pos (show 0 ≤ (s : Int) ∧ (s : Int) < 6 by omega), if_pos (show 0 ≤ (s : Int) ∧ (s : Int) < 6 by omega), show 16 + 5 = 21 from rfl, qw_s (by omega)]
    simp only [qlt]
    have go : ∀ v : Int, v = cv_to A (s : Int) → ∃ hc', DX1_aim_l2 F 16 ((s + 1 : Nat) : Int) (qu hc 21 s v) = some (0, hc') ∧ fr (fun i _ => i = 21) hc hc' ∧ (∀ q : Nat, s ≤ q → q < N → hc'.1 21 q = cv_to A (q : Int)) ∧ (∀ q : Nat, q < s → hc'.1 21 q = hc.1 21 q) := by
      intro v hv
      have f : fr (fun i _ => i = 21) hc (qu hc 21 s v) := fr_q fr.rf rfl
      obtain ⟨h', e1, e2, e3, e4⟩ := ih (s + 1) F (qu hc 21 s v) (by omega) (by omega) (M.kp f (fun i k z => by omega))
      refine ⟨h', e1, f.tr e2, fun q a b => ?_, fun q a => ?_⟩
      · by_cases e : q = s
        · rw [e4 q (by omega), e, qu_s, up_s, hv]
        · exact e3 q (by omega) b
      · rw [e4 q (by omega), qu_s, up_n _ _ (by omega)]
    by_cases e : 0 ≤ cv_bes A (A (266 + s)) (A (272 + s)) ∧ cv_bes A (A (266 + s)) (A (272 + s)) < A 1 * A 2 ∧ A (14 + (cv_bes A (A (266 + s)) (A (272 + s))).toNat) = 0
    · rw [if_pos e, if_neg (show ¬ (1 : Int) = 0 by decide)]
      exact go _ (by rw [to, if_pos ⟨by omega, e.2.2⟩])
    · rw [if_neg e, if_pos rfl]
      refine go _ ?_
      rw [to, if_neg (fun z => e ?_)]
      have z1 := z.1
      exact ⟨by omega, by omega, z.2⟩
theorem c_aim {A : Nat → Int} (G : cG A) (M : cM hc A) : ∃ hc', DX1_aim 16 hc = some (0, hc') ∧ fr (fun i _ => i = 21) hc hc' ∧ (∀ q : Nat, (q : Int) < A 4 → hc'.1 21 q = cv_to A (q : Int)) := by
  have h4 := G.2.2.1
  obtain ⟨N, hN⟩ := Int.eq_ofNat_of_zero_le h4.1
  obtain ⟨h', e1, e2, e3, _⟩ := aim_l G hN N 0 LF hc (by omega) (by unfold LF; omega) M
  rw [z0] at e1
  exact ⟨h', e1, e2, fun q hq => e3 q (by omega) (by omega)⟩
/-! line upon line -/
theorem SB.e216 {k : Nat} {x : Int} (b : SB hc hm) : SB hc (qu hm 216 k x) := by
  obtain ⟨⟨b1, b2, b3, b4⟩, b5⟩ := b
  refine ⟨⟨b1, ?_, ?_, ?_⟩, b5⟩
  · rw [qu_ne (by decide)]; exact b2
  · rw [qu_ne (by decide)]; exact b3
  · rw [qu_ne (by decide)]; exact b4
theorem in_ends (b : SB hc hm) : ∃ hm', DX10_ends hm = some (0, hm') ∧ SB hc hm' := by
  unfold DX10_ends
  rw [in_eats b.1.w, qbd_some, if_neg (show ¬ ¬ (0 : Int) = 0 by decide), in_fails b.1.w, qbd_some]
  simp only [qlt]
  exact ⟨_, rfl, b.e216⟩
theorem l122_in (b : SB hc hm) (F : Nat) : DX10_sea_l122 (F + 1) hm = DX10_sea_b149 hm := by
  rw [DX10_sea_l122.eq_2, if_pos b.1.w]
theorem l75_0 (F : Nat) (i : Int) : DX4_reads_l69 (F + 1) 0 i hc = DX4_reads_b114 0 hc := by
  rw [DX4_reads_l69.eq_2]
  by_cases e : 900 ≤ i
  · rw [if_pos e]
  · rw [if_neg e, if_pos rfl]
theorem reads_l : ∀ (M i Fc Fm : Nat) (hc hm : qH), 900 ≤ (M : Int) + hm.1 212 6 → M + 1 < Fc → M + 1 < Fm → (i : Int) ≤ hm.1 212 6 → SG hc hm → ∃ a hc' hm', DX4_reads_l69 Fc 1 (i : Int) hc = DX4_reads_b114 a hc' ∧ DX10_sea_l122 Fm hm = DX10_sea_b149 hm' ∧ ((a = 1 ∧ SG hc' hm') ∨ (a = 0 ∧ SB hc' hm')) := by
  intro M
  induction M with
  | zero =>
    intro i Fc Fm hc hm hM hFc hFm hi S
    obtain ⟨Fc, rfl⟩ : ∃ n, Fc = n + 1 := ⟨Fc - 1, by omega⟩
    obtain ⟨Fm, rfl⟩ : ∃ n, Fm = n + 1 := ⟨Fm - 1, by omega⟩
    have te := tk_end S.2.1
    have k : hm.1 212 9 = 32 := by
      by_cases e : hm.1 212 9 = 32
      · exact e
      · have := (tk_pos S.2.1).2.2.2.2 e
        have := tk_pos S.2.1
        have := S.1.2.2.2
        omega
    refine ⟨1, hc, hm, ?_, ?_, Or.inl ⟨rfl, S⟩⟩
    · rw [DX4_reads_l69.eq_2]
      by_cases e : (900 : Int) ≤ (i : Int)
      · rw [if_pos e]
      · rw [if_neg e, if_neg (show ¬ (1 : Int) = 0 by decide), if_pos (te.mpr k)]
    · rw [DX10_sea_l122.eq_2, if_neg (fun z => z S.2.2.1), if_pos k]
  | succ M ih =>
    intro i Fc Fm hc hm hM hFc hFm hi S
    obtain ⟨Fc, rfl⟩ : ∃ n, Fc = n + 1 := ⟨Fc - 1, by omega⟩
    obtain ⟨Fm, rfl⟩ : ∃ n, Fm = n + 1 := ⟨Fm - 1, by omega⟩
    have te := tk_end S.2.1
    by_cases k : hm.1 212 9 = 32
    · refine ⟨1, hc, hm, ?_, ?_, Or.inl ⟨rfl, S⟩⟩
      · rw [DX4_reads_l69.eq_2]
        by_cases e : (900 : Int) ≤ (i : Int)
        · rw [if_pos e]
        · rw [if_neg e, if_neg (show ¬ (1 : Int) = 0 by decide), if_pos (te.mpr k)]
      · rw [DX10_sea_l122.eq_2, if_neg (fun z => z S.2.2.1), if_pos k]
    · have tp := tk_pos S.2.1
      have tp2 := tp.2.2.2.2 k
      have t9 := S.1.2.2.2
      obtain ⟨Fc, rfl⟩ : ∃ n, Fc = n + 1 := ⟨Fc - 1, by omega⟩
      obtain ⟨Fm, rfl⟩ : ∃ n, Fm = n + 1 := ⟨Fm - 1, by omega⟩
      rw [DX4_reads_l69.eq_2, DX10_sea_l122.eq_2, if_neg (show ¬ (900 : Int) ≤ (i : Int) by omega), if_neg (show ¬ (1 : Int) = 0 by decide), if_neg (show ¬ hc.1 2 6 = 0 from fun z => k (te.mp z)), if_neg (show ¬ ¬ hm.1 212 11 = 0 from fun z => z S.2.2.1), if_neg k]
      obtain ⟨r, h1, r', h2, e1, e2, e3⟩ := j_other S
      rw [e1, e2, qbd_some, qbd_some]
      rcases e3 with ⟨rfl, S1, a1⟩ | ⟨rfl, b⟩
      · rw [if_neg (show ¬ (1 : Int) = 0 by decide)]
        obtain ⟨r, h3, r', h4, e4, e5, e6⟩ := j_ends S1
        rw [e4, e5, qbd_some, qbd_some]
        rcases e6 with ⟨rfl, S3, a3⟩ | ⟨rfl, b⟩
        · rw [if_neg (show ¬ (1 : Int) = 0 by decide), qw_s (by omega)]
          exact ih (i + 1) (Fc + 1) (Fm + 1) h3 h4 (by omega) (by omega) (by omega) (by omega) S3
        · rw [if_pos rfl, l75_0, l122_in b]
          exact ⟨0, h3, h4, rfl, rfl, Or.inr ⟨rfl, b⟩⟩
      · obtain ⟨h4, e4, b4⟩ := in_ends b
        rw [if_pos rfl, l75_0, e4, qbd_some, l122_in b4]
        exact ⟨0, h1, h4, rfl, rfl, Or.inr ⟨rfl, b4⟩⟩
end lo
