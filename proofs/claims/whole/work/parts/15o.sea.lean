section sz
variable {n : Int} {A : Nat → Int}
theorem sea_run {hc hm : qH} {a : Int} (TAx : ∀ k, k < 900 → (-128 ≤ hc.1 1 k ∧ hc.1 1 k < 128) ∧ hm.1 215 k = hc.1 1 k % 256) (ha : 0 ≤ a ∧ a ≤ 900) : ∃ b hcE hmB hmE, DX4_reads a hc = DX4_reads_b114 b hcE ∧ DX10_plain 216 1912 (qu (qu (qu (qu hm 212 8 a) 212 5 0) 212 7 0) 212 11 0) = some (0, hmB) ∧ hmB.1 212 5 = 0 ∧ hmB.1 213 = hm.1 213 ∧
    (qbd (DX10_next hmB) fun r46 h47 => (qbd (DX10_eats 0 h47) fun r49 h50 => (if ¬ r49 = 0 then (DX10_sea_b66 h50) else (qbd (DX10_fails 2 h50) fun r52 h53 => (DX10_sea_b66 h53))))) = DX10_sea_b149 hmE ∧ ((b = 1 ∧ SG hcE hmE) ∨ (b = 0 ∧ SB hcE hmE)) := by
  have K := plain_l 1912 0 LF (qu (qu (qu (qu hm 212 8 a) 212 5 0) 212 7 0) 212 11 0) (by omega) (by unfold LF; omega)
  rw [z0] at K
  obtain ⟨hmB, p1, p2, p3, p4, p5⟩ := K
  have b215 : hmB.1 215 = hm.1 215 := by
    funext k
    rw [p4 215 k (by omega) (by omega), qu_ne (by decide), qu_ne (by decide), qu_ne (by decide), qu_ne (by decide)]
  have b213 : hmB.1 213 = hm.1 213 := by
    funext k
    rw [p4 213 k (by omega) (by omega), qu_ne (by decide), qu_ne (by decide), qu_ne (by decide), qu_ne (by decide)]
  have b8 : hmB.1 212 8 = a := by rw [p4 212 8 (by omega) (by omega), qu_s, up_n _ _ (by decide), qu_s, up_n _ _ (by decide), qu_s, up_n _ _ (by decide), qu_s, up_s]
  have b5 : hmB.1 212 5 = 0 := by rw [p4 212 5 (by omega) (by omega), qu_s, up_n _ _ (by decide), qu_s, up_n _ _ (by decide), qu_s, up_s]
  have b7 : hmB.1 212 7 = 0 := by rw [p4 212 7 (by omega) (by omega), qu_s, up_n _ _ (by decide), qu_s, up_s]
  have b11 : hmB.1 212 11 = 0 := by rw [p4 212 11 (by omega) (by omega), qu_s, up_s]
  unfold DX4_reads DJ9_min_7cf53
  rw [qlt_e, if_neg (show ¬ 900 < a by omega), qbd_some, qlt_e, qlt_e, qlt_e, qlt_e, qlt_e, qlt_e]
  have fl : (qu (qu (qu (qu (qsetC (qu (qsetT hc) 2 4 a)) 2 1 0) 2 2 (-1)) 2 8 0) 2 5 0).2.2.2 = (true, true) := rfl
  have x1 : (qu (qu (qu (qu (qsetC (qu (qsetT hc) 2 4 a)) 2 1 0) 2 2 (-1)) 2 8 0) 2 5 0).1 1 = hc.1 1 := rfl
  have x3 : (qu (qu (qu (qu (qsetC (qu (qsetT hc) 2 4 a)) 2 1 0) 2 2 (-1)) 2 8 0) 2 5 0).1 2 4 = a := rfl
  have x0 : (qu (qu (qu (qu (qsetC (qu (qsetT hc) 2 4 a)) 2 1 0) 2 2 (-1)) 2 8 0) 2 5 0).1 2 1 = 0 := rfl
  have xx1 : (qu (qu (qu (qu (qsetC (qu (qsetT hc) 2 4 a)) 2 1 0) 2 2 (-1)) 2 8 0) 2 5 0).1 2 2 = -1 := rfl
  have x8 : (qu (qu (qu (qu (qsetC (qu (qsetT hc) 2 4 a)) 2 1 0) 2 2 (-1)) 2 8 0) 2 5 0).1 2 8 = 0 := rfl
  have x5 : (qu (qu (qu (qu (qsetC (qu (qsetT hc) 2 4 a)) 2 1 0) 2 2 (-1)) 2 8 0) 2 5 0).1 2 5 = 0 := rfl
  generalize qu (qu (qu (qu (qsetC (qu (qsetT hc) 2 4 a)) 2 1 0) 2 2 (-1)) 2 8 0) 2 5 0 = g0 at *
  obtain ⟨gA, q1, q2, q3, q4, q5, q6, q7⟩ := c_clear16 g0
  rw [if_pos (by rw [fl]), q1, qbd_some]
  have T0 : TX gA hmB := by
    refine ⟨by rw [q7]; exact fl, fun k hk => ?_, by rw [q6 2 (by omega), b8]; exact x3, by rw [b8]; exact ha⟩
    rw [q6 1 (by omega), x1, b215]
    exact TAx k hk
  obtain ⟨hc1, hm1, e1, e2, T1, t1, _⟩ := adv (q := 0) T0 (by rw [q6 2 (by omega)]; exact x8) b7 (by rw [b8]; exact ha.1)
  have f1 := F_DX4_advance _ _ _ e1
  have f2 := F_DX10_next _ _ _ e2
  have m6 : hm1.1 216 = hmB.1 216 := f2.fn (fun k => by omega)
  have pl : ∀ k, k < 1912 → ¬ k = 3 → hm1.1 216 k = 0 := fun k hk h3 => by rw [m6]; exact p3 k (by omega) hk h3
  have p3' : hm1.1 216 3 = 1 := by rw [m6]; exact p2
  have at0 := (tk_pos t1).1
  have c16 : hc1.1 16 = gA.1 16 := f1.fn (fun k => by omega)
  have c17 : hc1.1 17 = gA.1 17 := f1.fn (fun k => by omega)
  have c18 : hc1.1 18 = gA.1 18 := f1.fn (fun k => by omega)
  have d2 : ∀ k, ¬ (6 ≤ k ∧ k ≤ 9) → hc1.1 2 k = g0.1 2 k := fun k hk => by rw [f1.at 2 k (by omega), q6 2 (by omega)]
  have S : SG hc1 hm1 := by
    refine ⟨T1, t1, by rw [f2.at 212 11 (by omega)]; exact b11, by rw [d2 1 (by omega), d2 2 (by omega)]; exact ⟨x0, xx1⟩, ⟨by rw [d2 5 (by omega), pl 1011 (by omega) (by omega)]; exact x5, by rw [pl 1011 (by omega) (by omega)]; omega, fun k hk => ?_⟩, ⟨?_, ?_, fun law hl z => ?_, fun k x y => pl k (by omega) (by omega)⟩, ?_⟩
    · rw [pl 1011 (by omega) (by omega)] at hk
      omega
    · refine ⟨Or.inl ⟨pl 1 (by omega) (by omega), pl 2 (by omega) (by omega)⟩, by rw [p3']; decide, by rw [pl 4 (by omega) (by omega)]; decide, Or.inl (pl 5 (by omega) (by omega)), by rw [pl 6 (by omega) (by omega)]; decide, by rw [pl 7 (by omega) (by omega)]; decide, fun k hk => Or.inl (pl _ (by omega) (by omega)), fun j hj => by rw [pl _ (by omega) (by omega)]; decide, fun s hs => ?_, Or.inl (pl _ (by omega) (by omega)), Or.inl (pl _ (by omega) (by omega))⟩
      rw [pl 4 (by omega) (by omega)] at hs
      omega
    · rw [pl 0 (by omega) (by omega)]
      omega
    · rw [pl _ (by omega) (by omega)] at z
      omega
    · unfold cQ cM cv_lr
      rw [c16, c17, c18]
      refine ⟨⟨⟨by rw [q5 11 (by omega) (by omega) (by omega), pl 1 (by omega) (by omega)], by rw [q5 12 (by omega) (by omega) (by omega), pl 2 (by omega) (by omega)], by rw [q5 14 (by omega) (by omega) (by omega), pl 4 (by omega) (by omega)]⟩, fun k hk => by rw [q2 k hk, pl _ (by omega) (by omega)], fun s hs => ?_⟩, by rw [q4, p3'], ⟨by rw [q5 16 (by omega) (by omega) (by omega), pl 0 (by omega) (by omega)], by rw [q5 17 (by omega) (by omega) (by omega), pl 5 (by omega) (by omega)], by rw [q5 18 (by omega) (by omega) (by omega), pl 6 (by omega) (by omega)], by rw [q5 19 (by omega) (by omega) (by omega), pl 7 (by omega) (by omega)], ?_⟩, fun j hj => by rw [q3 j hj, pl _ (by omega) (by omega)], fun s hs => ?_, Or.inl ⟨pl _ (by omega) (by omega), by rw [q5 _ (by omega) (by omega) (by omega), q5 _ (by omega) (by omega) (by omega)]; decide⟩, Or.inl ⟨pl _ (by omega) (by omega), by rw [q5 _ (by omega) (by omega) (by omega), q5 _ (by omega) (by omega) (by omega)]; decide⟩⟩
      · rw [pl 4 (by omega) (by omega)] at hs
        omega
      · rw [q5 15 (by omega) (by omega) (by omega), pl 1 (by omega) (by omega), Int.zero_mul]
        rfl
      · rw [pl 4 (by omega) (by omega)] at hs
        omega
  obtain ⟨b, hcE, hmE, e3, e4, e5⟩ := j_sea0 S (fun k hk h3 => pl k (by omega) h3) (pl 1011 (by omega) (by omega))
  rw [e1, qbd_some]
  exact ⟨b, hcE, hmB, hmE, e3, p1, b5, b213, by rw [e2, qbd_some]; exact e4, e5⟩
theorem t_sea {hc hm : qH} (R : RR n A hc hm) (a : Int) : Out n (DX9_sea a hc) (DX10_sea a hm) := by
  have R1 := R.m0
  have FM := F_DX10_sea a hm
  unfold DX10_sea at FM
  unfold DX9_sea DX10_sea
  rw [qlt_e] at FM
  rw [qlt_e, qlt_e]
  generalize hm1e : qu hm 212 0 0 = hm1 at *
  have gm1 : fr (fun i k => i = 212 ∧ k = 0) hm hm1 := by rw [← hm1e]; exact fr_q fr.rf ⟨rfl, rfl⟩
  obtain ⟨r1, r2, ⟨r3, r3'⟩, r4, r5, r6, r7, r8, r9⟩ := R1
  have R1 : RR n A hc hm1 := ⟨r1, r2, ⟨r3, r3'⟩, r4, r5, r6, r7, r8, r9⟩
  obtain ⟨t1, t2, t3⟩ := r6
  rw [m_within, qbd_some] at FM ⊢
  rw [t1]
  by_cases k : 0 ≤ a ∧ a ≤ hm1.1 212 5
  · rw [if_neg (show ¬ a < 0 by omega), if_pos k.2, if_pos k, if_pos (show ¬ (1 : Int) = 0 by decide), qlt_e, qlt_e, qlt_e, qlt_e]
    have g0 : fr (fun i k => i = 0 ∧ k = 1) hc (qu hc 0 1 0) := fr_q fr.rf ⟨rfl, rfl⟩
    have v01 : (qu hc 0 1 0).1 0 1 = 0 := by rw [qu_s, up_s]
    obtain ⟨b, hcE, hmB, hmE, e1, e2, e3, e4, e5, e6⟩ := sea_run (hc := qu hc 0 1 0) (hm := hm1) (a := a) (fun k hk => by rw [qu_ne (by decide)]; exact t3 k hk) (by omega)
    have FC := F_DX4_reads a (qu hc 0 1 0)
    have FZ := Fz_tail hmB
    rw [e1] at FC ⊢
    rw [e5] at FZ
    rw [if_pos k, if_pos (show ¬ (1 : Int) = 0 by decide), qlt_e, qlt_e, qlt_e, qlt_e] at FM
    rw [e2, qbd_some, e5] at FM ⊢
    generalize qu hc 0 1 0 = hc0 at *
    unfold DX4_reads_b114 at FC ⊢
    rcases e6 with ⟨rfl, S⟩ | ⟨rfl, S⟩
    · -- a sea
      have bf : hcE.2.2.2.2 = true := by rw [S.1.1]
      have G := S.2.2.2.2.2.1.1
      have Z := S.2.2.2.2.2.1.2.2.2
      obtain ⟨Q1, Q2, Q3, Q4, Q5, Q6, Q7⟩ := S.2.2.2.2.2.2
      obtain ⟨hcF, a1, a2, a3⟩ := c_aim G Q1
      rw [if_pos bf, a1, qbd_some, if_pos (Or.inr rfl)] at FC ⊢
      have fc := g0.mono (Q := fun i k => (i = 0 ∧ k = 1) ∨ (i = 2 ∨ (16 ≤ i ∧ i ≤ 23) ∨ i = 900)) (fun i k z => by omega)
      have fc := fc.tr ((FC _ _ rfl).mono (fun i k z => by omega))
      have cF : ∀ i, ¬ i = 21 → hcF.1 i = hcE.1 i := fun i hi => a2.fn (fun k => hi)
      have rF : cR hcF 16 (hmE.1 216) := by
        unfold cR cv_lr
        rw [cF 16 (by decide), show 16 + 1 = 17 from rfl, cF 17 (by decide), show 16 + 2 = 18 from rfl, cF 18 (by decide), show 16 + 3 = 19 from rfl, cF 19 (by decide), show 16 + 4 = 20 from rfl, cF 20 (by decide), show 16 + 5 = 21 from rfl, show 16 + 6 = 22 from rfl, cF 22 (by decide), show 16 + 7 = 23 from rfl, cF 23 (by decide)]
        exact ⟨⟨Q1.1.1, Q1.1.2.1, Q2, Q1.1.2.2⟩, Q3, Q1.2.1, Q4, fun s hs => ⟨(Q1.2.2 s hs).1, (Q1.2.2 s hs).2, Q5 s hs, a3 s hs⟩, Q6, Q7⟩
      obtain ⟨hcG, b1, b2⟩ := c_scp (h := hcF) (i0 := 5) (i1 := 16) (by omega)
      have rG := rF.cp G b2
      have cG' : ∀ i, ¬ (5 ≤ i ∧ i ≤ 12) → hcG.1 i = hcF.1 i := fun i hi => b2.1.2.1 i (by omega)
      have cG2 : hcG.2 = hcF.2 := b2.1.2.2
      rw [qbd_some, if_pos (show ¬ (1 : Int) = 0 by decide), b1, qbd_some]
      unfold DX7_clear
      rw [qlt_e, qlt_e, qbd_some]
      have cH : ∀ i, ¬ i = 24 → (qu (qu hcG 24 1 0) 24 2 0).1 i = hcG.1 i := fun i hi => by rw [qu_ne hi, qu_ne hi]
      have h241 : (qu (qu hcG 24 1 0) 24 2 0).1 24 1 = 0 := by rw [qu_s, up_n _ _ (by decide), qu_s, up_s]
      have h242 : (qu (qu hcG 24 1 0) 24 2 0).1 24 2 = 0 := by rw [qu_s, up_s]
      have cH2 : (qu (qu hcG 24 1 0) 24 2 0).2 = hcG.2 := rfl
      generalize qu (qu hcG 24 1 0) 24 2 0 = hcH at *
      obtain ⟨hcZ, z1, z2, z3, z4, z5, z6, z7⟩ := c_other G hcH
      rw [z1, qbd_some]
      -- the reference
      have w := S.2.2.1
      unfold DX10_sea_b149 DX10_sea_b173 at FM FZ ⊢
      rw [qlt_e] at FM FZ ⊢
      have w1 : (qu hmE 212 13 (hmE.1 212 11)).1 212 11 = 0 := by rw [qu_s, up_n _ _ (by decide)]; exact w
      rw [if_neg (show ¬ ¬ (qu hmE 212 13 (hmE.1 212 11)).1 212 11 = 0 from fun z => z w1), qlt_e] at FM FZ ⊢
      have w2 : (qu (qu hmE 212 13 (hmE.1 212 11)) 212 14 (-1)).1 212 11 = 0 := by rw [qu_s, up_n _ _ (by decide)]; exact w1
      have w13 : (qu (qu hmE 212 13 (hmE.1 212 11)) 212 14 (-1)).1 212 13 = 0 := by rw [qu_s, up_n _ _ (by decide), qu_s, up_s]; exact w
      have w14 : (qu (qu hmE 212 13 (hmE.1 212 11)) 212 14 (-1)).1 212 14 = -1 := by rw [qu_s, up_s]
      have w16 : (qu (qu hmE 212 13 (hmE.1 212 11)) 212 14 (-1)).1 216 = hmE.1 216 := by rw [qu_ne (by decide), qu_ne (by decide)]
      rw [if_pos w2] at FM FZ ⊢
      generalize qu (qu hmE 212 13 (hmE.1 212 11)) 212 14 (-1) = hmF at *
      have K := copy_l 1912 0 LF hmF (by omega) (by unfold LF; omega)
      rw [z0] at K
      obtain ⟨hmZ, y1, y2, y3, y4⟩ := K
      rw [y1] at FM FZ ⊢
      have fm := FM _ _ rfl
      have fz := FZ _ _ rfl
      have s13 : ∀ j, j < 1912 → hmZ.1 213 j = hmE.1 216 j := fun j hj => by rw [y2 j (by omega) hj, w16]
      have cZ : ∀ i, ¬ (i = 44 ∨ i = 225 ∨ i = 226 ∨ i = 24 ∨ (5 ≤ i ∧ i ≤ 12)) → hcZ.1 i = hcF.1 i := fun i hi => by rw [z6 i (by omega), cH i (by omega), cG' i (by omega)]
      have cZc : ∀ i, ¬ (i = 44 ∨ i = 225 ∨ i = 226 ∨ i = 24 ∨ (5 ≤ i ∧ i ≤ 12) ∨ i = 0 ∨ i = 2 ∨ (16 ≤ i ∧ i ≤ 23)) → i < 900 → hcZ.1 i = hc.1 i := fun i hi h9 => by rw [cZ i (by omega)]; exact fc.fn (fun k => by omega)
      have c20 : ∀ k, k < 3 → hcZ.1 2 k = hcE.1 2 k := fun k hk => by rw [cZ 2 (by omega), cF 2 (by decide)]
      have rZ : cR hcZ 5 (hmE.1 216) := rG.cg (fun i x y => by rw [z6 i (by omega), cH i (by omega)])
      have out : hcZ.1 5 16 = hmZ.1 213 0 := by rw [rZ.2.1.1, s13 0 (by omega)]
      have m13 : ∀ i, ¬ (i = 212 ∨ i = 213 ∨ i = 216) → hmZ.1 i = hm1.1 i := fun i hi => by rw [fm.fn (i := i) (fun k => by omega), gm1.fn (i := i) (fun k => by omega)]
      refine ⟨hcZ.1 5 16, hcZ, hmZ, hmE.1 216, rfl, by rw [out], ⟨G, rZ, ?_, z2⟩, z3, ⟨fun j hj => s13 j (by omega), ?_⟩, ?_, ?_, ?_, ?_, ?_, ?_⟩
      · rw [cZc 4 (by omega) (by omega)]; exact r1.2.2.1
      · rw [fm.at 212 19 (by omega), ← gm1.at 212 19 (by omega)]; exact r3'
      · refine ⟨?_, ?_, ?_, ?_, fun b hb => ?_⟩
        · show hcZ.1 24 1 = hmZ.1 213 348
          rw [z6 24 (by omega), h241, s13 348 (by omega), Z 348 (by omega) (by omega)]
        · show hcZ.1 24 2 = hmZ.1 213 349
          rw [z6 24 (by omega), h242, s13 349 (by omega), Z 349 (by omega) (by omega)]
        · show 0 ≤ hmZ.1 213 348 ∧ hmZ.1 213 348 ≤ 8
          rw [s13 348 (by omega), Z 348 (by omega) (by omega)]; decide
        · show 0 ≤ hmZ.1 213 349 ∧ hmZ.1 213 349 ≤ 99 * (n + 1)
          rw [s13 349 (by omega), Z 349 (by omega) (by omega)]
          have := R1.tid
          omega
        · have hb' : (b : Int) < hmZ.1 213 348 := hb
          rw [s13 348 (by omega), Z 348 (by omega) (by omega)] at hb'
          omega
      · unfold PA
        rw [z4, z5, s13 350 (by omega), Z 350 (by omega) (by omega)]
        exact ⟨by decide, rfl, by decide, fun i hi => by omega⟩
      · refine ⟨?_, ?_, fun k hk => ?_⟩
        · rw [cZ 0 (by omega), (FC _ _ rfl).at 0 1 (by omega), v01, fz.2.2, e3]
        · rw [fz.2.2, e3]; decide
        · rw [cZc 1 (by omega) (by omega), m13 215 (by omega)]; exact t3 k hk
      · refine ⟨?_, ?_⟩
        · rw [c20 1 (by omega), S.2.2.2.1.1, y3 212 13 (by omega), w13]
        · rw [c20 2 (by omega), S.2.2.2.1.2, y3 212 14 (by omega), w14]
      · exact r8.cg (fun i x y => cZc i (by omega) (by omega)) (m13 222 (by omega)) (m13 223 (by omega)) (m13 224 (by omega))
      · intro i hi
        obtain ⟨i1, i2⟩ := r9 i hi
        have j3 : ∀ k, hmZ.1 213 (1912 * (i + 1) + k) = hm1.1 213 (1912 * (i + 1) + k) := fun k => by rw [fz.1 _ (by omega), e4]
        rw [cZc 167 (by omega) (by omega), m13 214 (by omega)]
        refine ⟨i1, ?_⟩
        rcases i2 with i2 | ⟨i2, Ai, u1, u2, u3, u4⟩
        · exact Or.inl i2
        · refine Or.inr ⟨i2, Ai, fun q hq => (j3 q).trans (u1 q hq), u2, u3.cg (fun q x y => cZc q (by omega) (by omega)), ?_⟩
          have u5 := (u4.cg (fun q x y => cZc q (by omega) (by omega))).grow (U := 99 * (n + 1)) (by omega)
          have ef : (fun j => hmZ.1 213 (1912 * (i + 1) + (284 + j))) = fun j => hm1.1 213 (1912 * (i + 1) + (284 + j)) := funext (fun j => j3 _)
          rw [ef]
          exact u5
    · -- at fault
      obtain ⟨bd, B, GB, MB⟩ := S
      have bf : hcE.2.2.2.2 = true := by rw [bd.1]
      obtain ⟨hcF, a1, a2, a3⟩ := c_aim GB MB
      rw [if_pos bf, a1, qbd_some, if_pos (Or.inl rfl)] at FC ⊢
      have fc := g0.mono (Q := fun i k => (i = 0 ∧ k = 1) ∨ (i = 2 ∨ (16 ≤ i ∧ i ≤ 23) ∨ i = 900)) (fun i k z => by omega)
      have fc := fc.tr ((FC _ _ rfl).mono (fun i k z => by omega))
      have c2 : ∀ k, hcF.1 2 k = hcE.1 2 k := fun k => a2.at 2 k (by omega)
      have w := bd.w
      rw [qbd_some, if_neg (show ¬ ¬ (0 : Int) = 0 by decide)]
      unfold DX10_sea_b149 DX10_sea_b173 at FM FZ ⊢
      rw [qlt_e] at FM FZ ⊢
      have w1 : (qu hmE 212 13 (hmE.1 212 11)).1 212 11 = hmE.1 212 11 := by rw [qu_s, up_n _ _ (by decide)]
      have w12 : (qu hmE 212 13 (hmE.1 212 11)).1 212 12 = hmE.1 212 12 := by rw [qu_s, up_n _ _ (by decide)]
      rw [if_pos (show ¬ (qu hmE 212 13 (hmE.1 212 11)).1 212 11 = 0 by rw [w1]; exact w), qlt_e, w12] at FM FZ ⊢
      have w2 : (qu (qu hmE 212 13 (hmE.1 212 11)) 212 14 (hmE.1 212 12)).1 212 11 = hmE.1 212 11 := by rw [qu_s, up_n _ _ (by decide)]; exact w1
      have w13 : (qu (qu hmE 212 13 (hmE.1 212 11)) 212 14 (hmE.1 212 12)).1 212 13 = hmE.1 212 11 := by rw [qu_s, up_n _ _ (by decide), qu_s, up_s]
      have w14 : (qu (qu hmE 212 13 (hmE.1 212 11)) 212 14 (hmE.1 212 12)).1 212 14 = hmE.1 212 12 := by rw [qu_s, up_s]
      rw [if_neg (show ¬ (qu (qu hmE 212 13 (hmE.1 212 11)) 212 14 (hmE.1 212 12)).1 212 11 = 0 by rw [w2]; exact w)] at FM FZ ⊢
      generalize qu (qu hmE 212 13 (hmE.1 212 11)) 212 14 (hmE.1 212 12) = hmZ at *
      have fm := FM _ _ rfl
      have fz := FZ _ _ rfl
      have m13 : ∀ i, ¬ (i = 212 ∨ i = 213 ∨ i = 216) → hmZ.1 i = hm1.1 i := fun i hi => by rw [fm.fn (i := i) (fun k => by omega), gm1.fn (i := i) (fun k => by omega)]
      have m213 : hmZ.1 213 = hm1.1 213 := by rw [fz.2.1 (by rw [w2]; exact w), e4]
      have cc : ∀ i, ¬ (i = 0 ∨ i = 2 ∨ (16 ≤ i ∧ i ≤ 23)) → i < 900 → hcF.1 i = hc.1 i := fun i hi h9 => fc.fn (fun k => by omega)
      have fl1 : hcF.2.1 = hc.2.1 := fc.2.1 (by omega)
      have fl2 : hcF.2.2.1 = hc.2.2.1 := fc.2.2.1 (by omega)
      have R2 : RR n A hcF hmZ := by
        refine ⟨⟨r1.1, r1.2.1.cg (fun i x y => cc i (by omega) (by omega)), by rw [cc 4 (by omega) (by omega)]; exact r1.2.2.1, r1.2.2.2.cg (cc 225 (by omega) (by omega)) fl1⟩, r2.cg (cc 226 (by omega) (by omega)) fl2, ⟨by rw [m213]; exact r3, by rw [fm.at 212 19 (by omega), ← gm1.at 212 19 (by omega)]; exact r3'⟩, ?_, r5.cg (fun i x y => cc i (by omega) (by omega)) m213, ⟨?_, ?_, fun k hk => ?_⟩, ⟨?_, ?_⟩, r8.cg (fun i x y => cc i (by omega) (by omega)) (m13 222 (by omega)) (m13 223 (by omega)) (m13 224 (by omega)), r9.cg (fun i x y => cc i (by omega) (by omega)) m213 (m13 214 (by omega))⟩
        · rw [m213]
          exact r4.cg (fun i x y => cc i (by omega) (by omega))
        · rw [(FC _ _ rfl).at 0 1 (by omega), v01, fz.2.2, e3]
        · rw [fz.2.2, e3]; decide
        · rw [cc 1 (by omega) (by omega), m13 215 (by omega)]; exact t3 k hk
        · rw [c2, bd.2.2.1, w13]
        · rw [c2, bd.2.2.2, w14]
      refine Out.of R2 (r := qw (-30 - hmE.1 212 11)) ?_ ?_
      · rw [c2, bd.2.2.1]
      · rw [w2]
  · rw [if_neg k, if_neg (show ¬ ¬ (0 : Int) = 0 by decide)]
    refine Out.of R1 (r := -3) ?_ rfl
    by_cases p : a < 0
    · rw [if_pos p]
    · rw [if_neg p, if_neg (show ¬ a ≤ hm1.1 212 5 by omega)]
end sz
