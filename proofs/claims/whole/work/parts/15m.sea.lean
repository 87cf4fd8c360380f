/-! ===== the first line ===== -/
section s0
variable {hc hm : qH}
theorem b105_in (b : SB hc hm) : ∃ hm', DX10_sea_b105 hm = DX10_sea_b149 hm' ∧ SB hc hm' := by
  obtain ⟨FF, hFF⟩ : ∃ n, LF = n + 1 := ⟨LF - 1, by unfold LF; omega⟩
  unfold DX10_sea_b105
  rw [in_takes b.1.w, qbd_some, qlt_e]
  obtain ⟨h2, e2, b2⟩ := in_ends (b.e216 (k := 3) (x := hm.1 212 10))
  rw [e2, qbd_some, hFF, l122_in b2]
  exact ⟨h2, rfl, b2⟩
theorem k2_in (b : SB hc hm) (r : Int) : ∃ hm', (qbd (DX10_eats 1 (qu hm 216 2 r)) fun r29 h30 => (if ¬ r29 = 0 then (DX10_sea_b105 h30) else (qbd (DX10_fails 2 h30) fun r32 h33 => (DX10_sea_b105 h33)))) = DX10_sea_b149 hm' ∧ SB hc hm' := by
  have b2 := b.e216 (k := 2) (x := r)
  obtain ⟨h2, e2, b3⟩ := b105_in b2
  rw [in_eats b2.1.w, qbd_some, if_neg (show ¬ ¬ (0 : Int) = 0 by decide), in_fails b2.1.w, qbd_some, e2]
  exact ⟨h2, rfl, b3⟩
theorem k1_in (b : SB hc hm) (r : Int) : ∃ hm', (qbd (DX10_takes 2 6 (qu hm 216 1 r)) fun r25 h26 => (qlt (qu h26 216 2 r25) fun h28 => (qbd (DX10_eats 1 h28) fun r29 h30 => (if ¬ r29 = 0 then (DX10_sea_b105 h30) else (qbd (DX10_fails 2 h30) fun r32 h33 => (DX10_sea_b105 h33)))))) = DX10_sea_b149 hm' ∧ SB hc hm' := by
  have b2 := b.e216 (k := 1) (x := r)
  obtain ⟨h2, e2, b3⟩ := k2_in b2 ((qu hm 216 1 r).1 212 10)
  rw [in_takes b2.1.w, qbd_some, qlt_e, e2]
  exact ⟨h2, rfl, b3⟩
theorem b66_in (b : SB hc hm) : ∃ hm', DX10_sea_b66 hm = DX10_sea_b149 hm' ∧ SB hc hm' := by
  unfold DX10_sea_b66
  obtain ⟨h2, e2, b3⟩ := k1_in b (hm.1 212 10)
  rw [in_takes b.1.w, qbd_some, qlt_e, e2]
  exact ⟨h2, rfl, b3⟩
theorem sea_wr {hc5 hm5 : qH} {w h p : Int} (S : SG hc hm) (pl : ∀ k, k < 1011 → ¬ k = 3 → hm.1 216 k = 0) (pN : hm.1 216 1011 = 0) (T : TX hc5 hm5) (t : TK hc5 hm5) (g : hm5.1 212 11 = 0) (a : hm.1 212 6 ≤ hm5.1 212 6) (f : fr (fun i k => i = 2 ∧ 6 ≤ k ∧ k ≤ 9) hc hc5) (gm : fr (fun i k => (i = 212 ∧ 6 ≤ k ∧ k ≤ 7) ∨ (i = 212 ∧ 9 ≤ k ∧ k ≤ 10) ∨ (i = 216 ∧ 1 ≤ k ∧ k ≤ 3)) hm hm5) (e1 : hm5.1 216 1 = w) (e2 : hm5.1 216 2 = h) (e3 : hm5.1 216 3 = p) (hw : 2 ≤ w ∧ w ≤ 6) (hh : 2 ≤ h ∧ h ≤ 6) (hp : 1 ≤ p ∧ p ≤ 6) : SG (qu (qu (qu hc5 16 11 w) 16 12 h) 16 13 p) hm5 := by
  obtain ⟨s1, s2, s3, s4, s5, s6, s7⟩ := S
  have fX : fr (fun i _ => 16 ≤ i ∧ i ≤ 22) hc5 (qu (qu (qu hc5 16 11 w) 16 12 h) 16 13 p) := fr_q (fr_q (fr_q fr.rf (by omega)) (by omega)) (by omega)
  have c11 : (qu (qu (qu hc5 16 11 w) 16 12 h) 16 13 p).1 16 11 = w := by rw [qu_s, up_n _ _ (by decide), qu_s, up_n _ _ (by decide), qu_s, up_s]
  have c12 : (qu (qu (qu hc5 16 11 w) 16 12 h) 16 13 p).1 16 12 = h := by rw [qu_s, up_n _ _ (by decide), qu_s, up_s]
  have c13 : (qu (qu (qu hc5 16 11 w) 16 12 h) 16 13 p).1 16 13 = p := by rw [qu_s, up_s]
  have c1 : ∀ k, ¬ (11 ≤ k ∧ k ≤ 13) → (qu (qu (qu hc5 16 11 w) 16 12 h) 16 13 p).1 16 k = hc.1 16 k := fun k hk => by rw [qu_s, up_n _ _ (by omega), qu_s, up_n _ _ (by omega), qu_s, up_n _ _ (by omega), f.at 16 k (by omega)]
  have c2 : ∀ i, 17 ≤ i → i ≤ 23 → (qu (qu (qu hc5 16 11 w) 16 12 h) 16 13 p).1 i = hc.1 i := fun i x y => by rw [qu_ne (by omega), qu_ne (by omega), qu_ne (by omega)]; exact f.fn (fun k => by omega)
  have c25 : (qu (qu (qu hc5 16 11 w) 16 12 h) 16 13 p).1 2 5 = hc.1 2 5 := by rw [fX.at 2 5 (by omega), f.at 2 5 (by omega)]
  have c20 : (qu (qu (qu hc5 16 11 w) 16 12 h) 16 13 p).1 2 1 = hc.1 2 1 := by rw [fX.at 2 1 (by omega), f.at 2 1 (by omega)]
  have c21 : (qu (qu (qu hc5 16 11 w) 16 12 h) 16 13 p).1 2 2 = hc.1 2 2 := by rw [fX.at 2 2 (by omega), f.at 2 2 (by omega)]
  generalize qu (qu (qu hc5 16 11 w) 16 12 h) 16 13 p = hX at *
  have y0 : ∀ k, k < 1011 → ¬ (1 ≤ k ∧ k ≤ 3) → hm5.1 216 k = 0 := fun k x y => by rw [gm.at 216 k (by omega)]; exact pl k x (by omega)
  have yN : hm5.1 216 1011 = 0 := by rw [gm.at 216 1011 (by omega)]; exact pN
  obtain ⟨Q1, Q2, Q3, Q4, Q5, Q6, Q7⟩ := s7
  have at0 := (tk_pos t).1
  have wh : 0 ≤ w * h ∧ w * h ≤ 36 := by
    have : w = 2 ∨ w = 3 ∨ w = 4 ∨ w = 5 ∨ w = 6 := by omega
    rcases this with z | z | z | z | z <;> rw [z] <;> omega
  have lr : ∀ law, law < 2 → cv_lr hc 16 (hm.1 216) law → cv_lr hX 16 (hm5.1 216) law := fun law hl z => by
    rcases z with ⟨z1, z2⟩ | ⟨z1, _⟩
    · exact Or.inl ⟨y0 _ (by omega) (by omega), by rw [c1 _ (by omega), c1 _ (by omega)]; exact z2⟩
    · have := pl (8 + law) (by omega) (by omega)
      omega
  refine ⟨T.kp fX (fr.rf (P := fun _ _ => False)) (fun i k z => by omega) (fun i k z => fun y => y), t.kp fX (fr.rf (P := fun _ _ => False)) (fun k x y => by omega) (fun i k z => fun y => y), g, by rw [c20, c21]; exact s4, ⟨by rw [c25, yN, s5.1, pN], by rw [yN]; omega, fun k hk => ?_⟩, ⟨?_, ?_, fun law hl z => ?_, fun k x y => y0 k y (by omega)⟩, ?_⟩
  · rw [yN] at hk
    omega
  · refine ⟨Or.inr (by rw [e1, e2]; omega), by rw [e3]; exact hp, by rw [y0 4 (by omega) (by omega)]; decide, Or.inl (y0 5 (by omega) (by omega)), by rw [y0 6 (by omega) (by omega)]; decide, by rw [y0 7 (by omega) (by omega)]; decide, fun k hk => Or.inl (y0 _ (by omega) (by omega)), fun j hj => by rw [y0 _ (by omega) (by omega)]; decide, fun s hs => ?_, Or.inl (y0 _ (by omega) (by omega)), Or.inl (y0 _ (by omega) (by omega))⟩
    rw [y0 4 (by omega) (by omega)] at hs
    omega
  · rw [y0 0 (by omega) (by omega)]
    omega
  · rw [y0 _ (by omega) (by omega)] at z
    omega
  · have z4 : hm.1 216 4 = 0 := pl 4 (by omega) (by omega)
    refine ⟨⟨⟨by rw [c11, e1], by rw [c12, e2], by rw [c1 14 (by omega), Q1.1.2.2, z4, y0 4 (by omega) (by omega)]⟩, fun k hk => by rw [c2 17 (by omega) (by omega), Q1.2.1 k hk, pl _ (by omega) (by omega), y0 _ (by omega) (by omega)], fun s hs => ?_⟩, by rw [c13, e3], ⟨by rw [c1 16 (by omega), Q3.1, pl 0 (by omega) (by omega), y0 0 (by omega) (by omega)], by rw [c1 17 (by omega), Q3.2.1, pl 5 (by omega) (by omega), y0 5 (by omega) (by omega)], by rw [c1 18 (by omega), Q3.2.2.1, pl 6 (by omega) (by omega), y0 6 (by omega) (by omega)], by rw [c1 19 (by omega), Q3.2.2.2.1, pl 7 (by omega) (by omega), y0 7 (by omega) (by omega)], ?_⟩, fun j hj => by rw [c2 18 (by omega) (by omega), Q4 j hj, pl _ (by omega) (by omega), y0 _ (by omega) (by omega)], fun s hs => ?_, lr 0 (by decide) Q6, lr 1 (by decide) Q7⟩
    · rw [y0 4 (by omega) (by omega)] at hs
      omega
    · have cz : ∀ (B : Nat → Int) (n : Nat), (∀ k, k < n → B (14 + k) = 0) → cv_cnt B n = 0 := by
        intro B n
        induction n with
        | zero => intro _; rfl
        | succ n ih =>
          intro z
          rw [cv_cnt.eq_2, ih (fun k hk => z k (by omega)), if_neg (by rw [z n (by omega)]; decide)]
          rfl
      rw [c1 15 (by omega), Q3.2.2.2.2, cz _ _ (fun k hk => y0 (14 + k) (by rw [e1, e2] at hk; omega) (by omega)), cz _ _ (fun k hk => pl (14 + k) (by rw [pl 1 (by omega) (by omega)] at hk; omega) (by omega))]
    · rw [y0 4 (by omega) (by omega)] at hs
      omega
/-- the whole text behind the first token -/
theorem j_sea0 (S : SG hc hm) (pl : ∀ k, k < 1011 → ¬ k = 3 → hm.1 216 k = 0) (pN : hm.1 216 1011 = 0) : ∃ a hc' hm', (qbd (DX4_seaLine hc) fun r26 h27 => (if r26 = 0 then (DX4_reads_l69 LF 0 0 h27) else (qbd (DX4_lineEnds h27) fun r29 h30 => (if r29 = 0 then (DX4_reads_l69 LF 0 0 h30) else (DX4_reads_l69 LF 1 0 h30))))) = DX4_reads_b114 a hc' ∧
    (qbd (DX10_eats 0 hm) fun r49 h50 => (if ¬ r49 = 0 then (DX10_sea_b66 h50) else (qbd (DX10_fails 2 h50) fun r52 h53 => (DX10_sea_b66 h53)))) = DX10_sea_b149 hm' ∧ ((a = 1 ∧ SG hc' hm') ∨ (a = 0 ∧ SB hc' hm')) := by
  obtain ⟨FF, hFF⟩ : ∃ n, LF = n + 1 := ⟨LF - 1, by unfold LF; omega⟩
  unfold DX4_seaLine
  obtain ⟨r, h1, h2, e1, e2⟩ := tk_tw (i := 0) (by decide) S.1 S.2.1 S.2.2.1
  rw [show kwS 0 = 1 from rfl] at e1
  rw [z0] at e2
  rw [e1, qbd_some]
  have bad : ∀ {x : qH} {y : qH}, SB x y → ∀ z : Option (Int × qH), (∃ hm', z = DX10_sea_b149 hm' ∧ SB x hm') → ∃ a hc' hm', (qbd (some ((0 : Int), x)) fun r26 h27 => (if r26 = 0 then (DX4_reads_l69 LF 0 0 h27) else (qbd (DX4_lineEnds h27) fun r29 h30 => (if r29 = 0 then (DX4_reads_l69 LF 0 0 h30) else (DX4_reads_l69 LF 1 0 h30))))) = DX4_reads_b114 a hc' ∧ z = DX10_sea_b149 hm' ∧ ((a = 1 ∧ SG hc' hm') ∨ (a = 0 ∧ SB hc' hm')) := by
    intro x y b z hz
    obtain ⟨hm', z1, z2⟩ := hz
    rw [qbd_some, if_pos rfl, hFF, l75_0]
    exact ⟨0, x, hm', rfl, z1, Or.inr ⟨rfl, z2⟩⟩
  rcases e2 with ⟨rfl, e2, T1, t1, g1, a1, f1, f2⟩ | ⟨rfl, e2, e3, b, f1, f2⟩
  · rw [e2, qbd_some, if_pos (show ¬ (1 : Int) = 0 by decide), if_pos (show ¬ (1 : Int) = 0 by decide)]
    unfold DX10_sea_b66
    have S1 := S.tok T1 t1 f1 f2 (fun i k g => by omega) (fun i k g => by omega) (by omega)
    obtain ⟨w, h3, w', h4, e3, e4, e5⟩ := tk_take (lo := 2) (hi := 6) T1 t1 g1
    rw [e3, e4, qbd_some, qbd_some, qlt_e]
    rcases e5 with ⟨rfl, x1, x2, x3, x4, x5, T3, t3, g3, a3, f3, f4⟩ | ⟨rfl, b, _, f3, f4⟩
    · rw [if_pos (show ¬ w' = -1 by omega)]
      have g4 : fr (fun i k => i = 216 ∧ k = 1) h4 (qu h4 216 1 w') := fr_q fr.rf ⟨rfl, rfl⟩
      have T4 := T3.kp (fr.rf (P := fun _ _ => False)) g4 (fun i k z => fun y => y) (fun i k z => by omega)
      have t4 := t3.kp (fr.rf (P := fun _ _ => False)) g4 (fun k x y => fun y => y) (fun i k z => by omega)
      have w4 : (qu h4 216 1 w').1 212 11 = 0 := by rw [g4.at 212 11 (by omega)]; exact g3
      have p4 : (qu h4 216 1 w').1 212 6 = h4.1 212 6 := g4.at _ _ (by omega)
      have v1 : (qu h4 216 1 w').1 216 1 = w' := by rw [qu_s, up_s]
      generalize qu h4 216 1 w' = h4' at *
      obtain ⟨hh, h5, hh', h6, e6, e7, e8⟩ := tk_take (lo := 2) (hi := 6) T4 t4 w4
      rw [e6, e7, qbd_some, qbd_some, qlt_e]
      rcases e8 with ⟨rfl, y1, y2, y3, y4, y5, T5, t5, g5, a5, f5, f6⟩ | ⟨rfl, b, _, f5, f6⟩
      · have g6 : fr (fun i k => i = 216 ∧ k = 2) h6 (qu h6 216 2 hh') := fr_q fr.rf ⟨rfl, rfl⟩
        have T6 := T5.kp (fr.rf (P := fun _ _ => False)) g6 (fun i k z => fun y => y) (fun i k z => by omega)
        have t6 := t5.kp (fr.rf (P := fun _ _ => False)) g6 (fun k x y => fun y => y) (fun i k z => by omega)
        have w6 : (qu h6 216 2 hh').1 212 11 = 0 := by rw [g6.at 212 11 (by omega)]; exact g5
        have p6 : (qu h6 216 2 hh').1 212 6 = h6.1 212 6 := g6.at _ _ (by omega)
        have v2 : (qu h6 216 2 hh').1 216 2 = hh' := by rw [qu_s, up_s]
        generalize qu h6 216 2 hh' = h6' at *
        unfold DX4_seaLine_b35
        rw [if_neg (show ¬ hh' = -1 by omega)]
        obtain ⟨r, h7, h8, e9, e10⟩ := tk_tw (i := 1) (by decide) T6 t6 w6
        rw [show kwS 1 = 2 from rfl] at e9
        rw [show (((1 : Nat) : Int)) = 1 from rfl] at e10
        rw [e9, qbd_some]
        rcases e10 with ⟨rfl, e10, T7, t7, g7, a7, f7, f8⟩ | ⟨rfl, e10, e11, b, f7, f8⟩
        · rw [e10, qbd_some, if_pos (show ¬ (1 : Int) = 0 by decide), if_pos (show ¬ (1 : Int) = 0 by decide)]
          unfold DX10_sea_b105
          obtain ⟨p, h9, p', h10, e11, e12, e13⟩ := tk_take (lo := 1) (hi := 6) T7 t7 g7
          rw [e11, e12, qbd_some, qbd_some, qlt_e]
          rcases e13 with ⟨rfl, z1, z2, z3, z4, z5, T9, t9, g9, a9, f9, f10⟩ | ⟨rfl, b, _, f9, f10⟩
          · have bf : h9.2.2.2.2 = true := by rw [T9.1]
            have b1 : (qu h9 16 11 w').2.2.2.2 = true := bf
            have b2 : (qu (qu h9 16 11 w') 16 12 hh').2.2.2.2 = true := bf
            rw [if_pos (show ¬ p' = -1 by omega), if_pos bf, qlt_e, if_pos b1, qlt_e, if_pos b2, qlt_e, qbd_some, if_neg (show ¬ (1 : Int) = 0 by decide)]
            have g11 : fr (fun i k => i = 216 ∧ k = 3) h10 (qu h10 216 3 p') := fr_q fr.rf ⟨rfl, rfl⟩
            have T11 := T9.kp (fr.rf (P := fun _ _ => False)) g11 (fun i k z => fun y => y) (fun i k z => by omega)
            have t11 := t9.kp (fr.rf (P := fun _ _ => False)) g11 (fun k x y => fun y => y) (fun i k z => by omega)
            have w11 : (qu h10 216 3 p').1 212 11 = 0 := by rw [g11.at 212 11 (by omega)]; exact g9
            have p11 : (qu h10 216 3 p').1 212 6 = h10.1 212 6 := g11.at _ _ (by omega)
            have v3 : (qu h10 216 3 p').1 216 3 = p' := by rw [qu_s, up_s]
            have FC : fr (fun i k => i = 2 ∧ 6 ≤ k ∧ k ≤ 9) hc h9 := (((f1.tr f3).tr f5).tr f7).tr f9
            have FM : fr (fun i k => (i = 212 ∧ 6 ≤ k ∧ k ≤ 7) ∨ (i = 212 ∧ 9 ≤ k ∧ k ≤ 10) ∨ (i = 216 ∧ 1 ≤ k ∧ k ≤ 3)) hm (qu h10 216 3 p') := (((((((f2.mono (fun i k z => by omega)).tr (f4.mono (fun i k z => by omega))).tr (g4.mono (fun i k z => by omega))).tr (f6.mono (fun i k z => by omega))).tr (g6.mono (fun i k z => by omega))).tr (f8.mono (fun i k z => by omega))).tr (f10.mono (fun i k z => by omega))).tr (g11.mono (fun i k z => by omega))
            have q1 : (qu h10 216 3 p').1 216 1 = w' := by rw [g11.at 216 1 (by omega), f10.at 216 1 (by omega), f8.at 216 1 (by omega), g6.at 216 1 (by omega), f6.at 216 1 (by omega)]; exact v1
            have q2 : (qu h10 216 3 p').1 216 2 = hh' := by rw [g11.at 216 2 (by omega), f10.at 216 2 (by omega), f8.at 216 2 (by omega)]; exact v2
            generalize qu h10 216 3 p' = h10' at *
            have S11 := sea_wr S pl pN T11 t11 w11 (by omega) FC FM q1 q2 v3 (by omega) (by omega) (by omega)
            obtain ⟨r, h12, r', h13, e14, e15, e16⟩ := j_ends S11
            rw [e14, e15, qbd_some, qbd_some]
            rcases e16 with ⟨rfl, S13, a13⟩ | ⟨rfl, b⟩
            · rw [if_neg (show ¬ (1 : Int) = 0 by decide)]
              have tp := tk_pos S13.2.1
              have K := reads_l 900 0 LF LF h12 h13 (by omega) (by unfold LF; omega) (by unfold LF; omega) (by omega) S13
              rw [z0] at K
              exact K
            · rw [if_pos rfl, hFF, l75_0, l122_in b]
              exact ⟨0, h12, h13, rfl, rfl, Or.inr ⟨rfl, b⟩⟩
          · have fz : fr (fun i k => i = 2) hc h9 := ((((f1.tr f3).tr f5).tr f7).mono (fun i k z => by omega)).tr (f9.mono (fun i k z => by omega))
            have sb := S.sb b fz (fun i k z => by omega)
            rw [if_neg (show ¬ ¬ (-1 : Int) = -1 by decide)]
            refine bad sb _ ?_
            obtain ⟨h12, e14, b2⟩ := in_ends (sb.e216 (k := 3) (x := p'))
            rw [qlt_e, e14, qbd_some, hFF, l122_in b2]
            exact ⟨h12, rfl, b2⟩
        · have fz : fr (fun i k => i = 2) hc h7 := (((f1.tr f3).tr f5).mono (fun i k z => by omega)).tr (f7.mono (fun i k z => by omega))
          have sb := S.sb b fz (fun i k z => by omega)
          rw [e10, qbd_some, if_neg (show ¬ ¬ (0 : Int) = 0 by decide), if_neg (show ¬ ¬ (0 : Int) = 0 by decide), e11, qbd_some]
          exact bad sb _ (b105_in sb)
      · have fz : fr (fun i k => i = 2) hc h5 := ((f1.tr f3).mono (fun i k z => by omega)).tr (f5.mono (fun i k z => by omega))
        have sb := S.sb b fz (fun i k z => by omega)
        unfold DX4_seaLine_b35
        rw [if_pos rfl]
        exact bad sb _ (k2_in sb hh')
    · have fz : fr (fun i k => i = 2) hc h3 := (f1.mono (fun i k z => by omega)).tr (f3.mono (fun i k z => by omega))
      have sb := S.sb b fz (fun i k z => by omega)
      unfold DX4_seaLine_b35
      rw [if_neg (show ¬ ¬ (-1 : Int) = -1 by decide), if_pos rfl]
      exact bad sb _ (k1_in sb w')
  · have sb := S.sb b f1 (fun i k z => by omega)
    rw [e2, qbd_some, if_neg (show ¬ ¬ (0 : Int) = 0 by decide), if_neg (show ¬ ¬ (0 : Int) = 0 by decide), e3, qbd_some]
    exact bad sb _ (b66_in sb)
end s0
