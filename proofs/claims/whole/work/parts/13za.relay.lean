section rl2
variable {n : Int} {A : Nat → Int}
theorem row_l (f : Int → Int → Int → Int → qH → Option (Int × qH)) {a : Nat} (ha : a < 6) : ∀ (m k F : Nat) (h : qH), k + m = a + 1 → m < F → ∃ h', DX10_goesRelay_l51 f F (a : Int) (k : Int) h = some (0, h') ∧ fr (fun i _ => i = 221) h h' ∧ (∀ x, k ≤ x → x ≤ a → h'.1 221 x = h.1 220 x) ∧ (∀ x, x < k → h'.1 221 x = h.1 221 x) := by
  intro m
  induction m with
  | zero =>
    intro k F h hk hF
    obtain ⟨F, rfl⟩ : ∃ n, F = n + 1 := ⟨F - 1, by omega⟩
    rw [DX10_goesRelay_l51.eq_2, if_pos (show (a : Int) < (k : Int) by omega)]
    exact ⟨h, rfl, fr.rf, fun x a b => by omega, fun _ _ => rfl⟩
  | succ m ih =>
    intro k F h hk hF
    obtain ⟨F, rfl⟩ : ∃ n, F = n + 1 := ⟨F - 1, by omega⟩
    obtain ⟨h', e1, e2, e3, e4⟩ := ih (k + 1) F (qu h 221 k (h.1 220 k)) (by omega) (by omega)
    rw [DX10_goesRelay_l51.eq_2, if_neg (show ¬ (a : Int) < (k : Int) by omega), if_pos (show 0 ≤ (k : Int) ∧ (k : Int) < 6 by omega), if_pos (show 0 ≤ (k : Int) ∧ (k : Int) < 6 by omega), Int.toNat_natCast, qw_s (by omega)]
    simp only [qlt]
    refine ⟨h', e1, (fr_q (P := fun i _ => i = 221) fr.rf rfl).tr e2, fun x a b => ?_, fun x a => ?_⟩
    · by_cases ex : x = k
      · rw [e4 x (by omega), ex, qu_s, up_s]
      · rw [e3 x (by omega) b, qu_ne (by decide)]
    · rw [e4 x (by omega), qu_s, up_n _ _ (by omega)]
/-- the letter has come: is it the best way -/
theorem weigh_both {to now comes : Int} {j : Nat} {x : Int} {hc hm : qH} (hj : j + 1 ≤ 5) (c0 : 0 ≤ comes ∧ comes < 100000) (Q : QS n A to now (j + 1) hc hm) (hrow : hm.1 220 (j + 1) = to) (f : Int → Int → Int → Int → qH → Option (Int × qH)) :
    ∃ hc' hm', DX5_weigh ((j + 1 : Nat) : Int) comes hc = some (0, hc') ∧ DX10_goesRelay f to ((j + 1 : Nat) : Int) x comes hm = some (0, hm') ∧ QS n A to now (j + 1) hc' hm' ∧ ∀ k, k ≤ j → hm'.1 220 k = hm.1 220 k := by
  obtain ⟨R, q2, q3, q4, q5, q6⟩ := Q
  have upd : ∃ hc' hm', DX5_weigh_b31 ((j + 1 : Nat) : Int) comes hc = some (0, hc') ∧ DX10_goesRelay_l51 f LF ((j + 1 : Nat) : Int) 0 (qu (qu hm 212 28 comes) 212 29 ((j + 1 : Nat) : Int)) = some (0, hm') ∧ QS n A to now (j + 1) hc' hm' ∧ ∀ k, k ≤ j → hm'.1 220 k = hm.1 220 k := by
    obtain ⟨h', e1, e2, e3, _⟩ := row_l f (a := j + 1) (by omega) (j + 2) 0 LF (qu (qu hm 212 28 comes) 212 29 ((j + 1 : Nat) : Int)) (by omega) (by unfold LF; omega)
    rw [z0] at e1
    have g : fr (fun i k => (i = 212 ∧ (k = 28 ∨ k = 29)) ∨ i = 221) hm h' := (fr_q (fr_q fr.rf (by omega)) (by omega)).tr (e2.mono (fun i k z => by omega))
    have a28 : h'.1 212 28 = comes := by rw [e2.at 212 28 (by omega), qu_s, up_n _ _ (by decide), qu_s, up_s]
    have a29 : h'.1 212 29 = ((j + 1 : Nat) : Int) := by rw [e2.at 212 29 (by omega), qu_s, up_s]
    have m220 : h'.1 220 = hm.1 220 := g.fn (fun k => by omega)
    have m221 : ∀ k, k ≤ j + 1 → h'.1 221 k = hm.1 220 k := fun k hk => by
      rw [e3 k (by omega) hk, qu_ne (by decide), qu_ne (by decide)]
    generalize hXe : qcp (qu (qu hc 157 4 comes) 157 5 ((j + 1 : Nat) : Int)) 158 159 6 = hX at *
    have fX : fr (fun i k => i = 157 ∧ (k = 4 ∨ k = 5) ∨ i = 159) hc hX := by
      rw [← hXe]
      have f0 : fr (fun i k => i = 157 ∧ (k = 4 ∨ k = 5) ∨ i = 159) hc (qu (qu hc 157 4 comes) 157 5 ((j + 1 : Nat) : Int)) := fr_q (fr_q fr.rf (by omega)) (by omega)
      refine f0.tr ⟨fun i' k' q => ?_, fun _ => rfl, fun _ => rfl, fun _ => rfl⟩
      show (if i' = 159 ∧ k' < 6 then _ else _) = _
      exact if_neg (fun e => q (Or.inr e.1))
    have c4 : hX.1 157 4 = comes := by rw [← hXe]; rfl
    have c5 : hX.1 157 5 = ((j + 1 : Nat) : Int) := by rw [← hXe]; rfl
    have c9 : ∀ k, k < 6 → hX.1 159 k = hc.1 158 k := fun k hk => by
      rw [← hXe]
      show (if 159 = 159 ∧ k < 6 then _ else _) = _
      rw [if_pos ⟨rfl, hk⟩]
      rfl
    have R' : RR n A hX h' := R.keep (R.1.kq fX (fun i k a b => by omega) (fun k => by omega)) (R.2.1.cg (fX.fn (fun k => by omega)) (fX.2.2.1 (by omega))) fX (fun i k g => by omega) g (fun i k g => by omega)
    refine ⟨hX, h', by unfold DX5_weigh_b31; simp only [qlt]; rw [hXe], e1, ⟨R', by rw [fX.at 157 2 (by omega)]; exact q2, by rw [fX.at 157 3 (by omega)]; exact q3, by rw [g.at 213 349 (by omega)]; exact q4, fun k hk => ?_, Or.inr ⟨by rw [a29]; omega, by rw [c5, a29], by rw [c4, a28], by rw [a28]; omega, fun k hk => ?_, ?_⟩⟩, fun k _ => by rw [m220]⟩
    · rw [fX.at 158 k (by omega), m220]
      exact q5 k hk
    · rw [a29] at hk
      rw [c9 k (by omega), m221 k (by omega)]
      exact q5 k (by omega)
    · rw [a29, Int.toNat_natCast, m221 (j + 1) (by omega), hrow]
  have same : QS n A to now (j + 1) hc hm := ⟨R, q2, q3, q4, q5, q6⟩
  unfold DX5_weigh DX10_goesRelay
  rw [if_pos (show 0 ≤ ((j + 1 : Nat) : Int) ∧ ((j + 1 : Nat) : Int) < 6 by omega), Int.toNat_natCast, hrow, if_neg (show ¬ ¬ to = to from fun g => g rfl)]
  rcases q6 with ⟨p1, p2, p3⟩ | ⟨p1, p2, p3, p4, _, _⟩
  · rw [if_pos p1, if_neg (show ¬ hm.1 212 28 < comes by omega), if_pos (show ¬ comes = hm.1 212 28 by omega)]
    rw [qlt_e, qlt_e]
    exact upd
  · rw [if_neg (show ¬ hc.1 157 5 = 0 by omega), p2, p3]
    by_cases k1 : comes < hm.1 212 28
    · rw [if_pos k1, if_neg (show ¬ hm.1 212 28 < comes by omega), if_pos (show ¬ comes = hm.1 212 28 by omega)]
      rw [qlt_e, qlt_e]
      exact upd
    · rw [if_neg k1]
      by_cases k2 : comes = hm.1 212 28
      · rw [if_neg (show ¬ ¬ comes = hm.1 212 28 from fun g => g k2), if_neg (show ¬ hm.1 212 28 < comes by omega), if_neg (show ¬ ¬ comes = hm.1 212 28 from fun g => g k2)]
        by_cases k3 : hm.1 212 29 ≤ ((j + 1 : Nat) : Int)
        · rw [if_pos k3, if_neg (show ¬ ((j + 1 : Nat) : Int) < hm.1 212 29 by omega)]
          exact ⟨hc, hm, rfl, rfl, same, fun _ _ => rfl⟩
        · rw [if_neg k3, if_pos (show ((j + 1 : Nat) : Int) < hm.1 212 29 by omega)]
          rw [qlt_e, qlt_e]
          exact upd
      · rw [if_pos k2, if_pos (show hm.1 212 28 < comes by omega)]
        exact ⟨hc, hm, rfl, rfl, same, fun _ _ => rfl⟩
def SK (n : Int) (A : Nat → Int) (to now : Int) (j : Nat) : Prop := ∀ (fc fm u s : Nat) (spent : Int) (hc hm : qH), 5 < j + fc → 5 < j + fm → u < 64 → pc u = j + 1 → (s : Int) < A 4 → u / 2 ^ s % 2 = 1 → ¬ (s : Int) = to → 0 ≤ spent → spent ≤ 230 * (j : Int) → QS n A to now j hc hm → hm.1 220 j = (s : Int) →
  ∃ hc' hm', RX5_seekg fc 0 (s : Int) (j : Int) spent (u : Int) hc = some (0, hc') ∧ RX10_goesRelayg fm 0 to (j : Int) (u : Int) spent hm = some (0, hm') ∧ QS n A to now (j + 1) hc' hm' ∧ ∀ k, k ≤ j → hm'.1 220 k = hm.1 220 k
theorem QS.less {to now : Int} {j i : Nat} {hc hm : qH} (Q : QS n A to now j hc hm) (h : i ≤ j) : QS n A to now i hc hm := by
  obtain ⟨q1, q2, q3, q4, q5, q6⟩ := Q
  exact ⟨q1, q2, q3, q4, fun k hk => q5 k (by omega), q6⟩
theorem sk_l {to now : Int} {j u s fc fm S : Nat} {spent : Int} (hn : n ≤ 512) (hto : 0 ≤ to ∧ to < A 4) (hS : A 4 = (S : Int)) (hj : j ≤ 5) (hu : u < 64) (hpc : pc u = j + 1) (hs : (s : Int) < A 4) (hb : u / 2 ^ s % 2 = 1) (hs0 : 0 ≤ spent) (hs1 : spent ≤ 230 * (j : Int)) (hfc : 5 < j + 1 + fc) (hfm : 5 < j + 1 + fm) (rec : j + 1 ≤ 5 → SK n A to now (j + 1)) : ∀ (m i Fc Fm : Nat) (hc hm : qH), i + m = S → m < Fc → m < Fm → QS n A to now (j + 1) hc hm → hm.1 220 j = (s : Int) →
    ∃ hc' hm', DX5_seek_l17 (fun a b c e h => RX5_seekg fc 0 a b c e h) Fc (s : Int) (j : Int) spent (u : Int) (i : Int) hc = some (0, hc') ∧ DX10_goesRelay_l81 (fun a b c e h => RX10_goesRelayg fm 0 a b c e h) Fm to (j : Int) (u : Int) spent (i : Int) hm = some (0, hm') ∧ QS n A to now (j + 1) hc' hm' ∧ ∀ k, k ≤ j → hm'.1 220 k = hm.1 220 k := by
  intro m
  induction m with
  | zero =>
    intro i Fc Fm hc hm hi hFc hF Q hrow
    obtain ⟨Fc, rfl⟩ : ∃ n, Fc = n + 1 := ⟨Fc - 1, by omega⟩
    obtain ⟨Fm, rfl⟩ : ∃ n, Fm = n + 1 := ⟨Fm - 1, by omega⟩
    have c14 : hc.1 5 14 = A 4 := Q.1.1.2.1.1.2.2.2
    rw [DX5_seek_l17.eq_2, DX10_goesRelay_l81.eq_2, Q.1.2.2.1.1 4 (by omega), c14, if_pos (show A 4 ≤ (i : Int) by omega), if_pos (show A 4 ≤ (i : Int) by omega)]
    exact ⟨hc, hm, rfl, rfl, Q, fun _ _ => rfl⟩
  | succ m ih =>
    intro i Fc Fm hc hm hi hFc hF Q hrow
    obtain ⟨Fc, rfl⟩ : ∃ n, Fc = n + 1 := ⟨Fc - 1, by omega⟩
    obtain ⟨Fm, rfl⟩ : ∃ n, Fm = n + 1 := ⟨Fm - 1, by omega⟩
    have R := Q.1
    have h4 := R.1.1.2.2.1
    have td := R.tid
    have c14 : hc.1 5 14 = A 4 := R.1.2.1.1.2.2.2
    have c3 : hc.1 157 3 = now := Q.2.2.1
    have m9 : hm.1 213 349 = now := Q.2.2.2.1
    have hi6 : i < 6 := by omega
    obtain ⟨b1, b2, b3⟩ := bit_f hu hi6
    rw [DX5_seek_l17.eq_2, DX10_goesRelay_l81.eq_2, R.2.2.1.1 4 (by omega), c14, if_neg (show ¬ A 4 ≤ (i : Int) by omega), if_neg (show ¬ A 4 ≤ (i : Int) by omega), m_isInB hu hi6, qbd_some, b1]
    rcases b3 with b3 | ⟨z0, b3, b4, b5, b6, b7⟩
    · rw [if_neg (show ¬ ((u / 2 ^ i % 2 : Nat) : Int) = 0 by rw [b3]; decide), if_neg (show ¬ ((u / 2 ^ i % 2 : Nat) : Int) = 0 by rw [b3]; decide)]
      unfold DX5_seek_b57
      rw [if_pos rfl, qw_s (n := i) (by omega)]
      exact ih (i + 1) Fc Fm hc hm (by omega) (by omega) (by omega) Q hrow
    · have hne : ¬ (i : Int) = (s : Int) := by
        intro e
        have e' : i = s := by omega
        rw [e'] at z0
        omega
      have zi : ((u / 2 ^ i % 2 : Nat) : Int) = 0 := by rw [z0]; rfl
      obtain ⟨h1, h2, L, B, e1, e2, R2, s2⟩ := R.best (f := (s : Int)) (to := (i : Int)) (t := now + spent) (by omega) (by omega) hne (by omega) (by omega)
      have f1 := F_DX2_soonest _ _ _ _ _ _ e1
      have f2 := F_DX10_bestFrom _ _ _ _ _ _ e2
      have Q2 : QS n A to now (j + 1) h1 h2 := Q.kp R2 f1 f2 (fun i k a b => by omega) (fun i k a => by omega)
      have r2 : ∀ k, h2.1 220 k = hm.1 220 k := fun k => f2.at 220 k (by omega)
      rw [if_pos zi, if_pos zi, if_pos (show 0 ≤ (j : Int) ∧ (j : Int) < 6 by omega), Int.toNat_natCast, hrow, c3, m9, qw_e (x := now + spent) (by omega) (by omega), e1, e2, qbd_some, qbd_some]
      obtain ⟨d1, d2⟩ := s2.dec
      unfold DX5_seek_b57
      by_cases z : B = 1000000
      · rw [if_neg (show ¬ ¬ B = 1000000 from fun g => g z), if_pos (d1.mpr z), qw_s (n := i) (by omega)]
        obtain ⟨h3, h4, i1, i2, i3, i4⟩ := ih (i + 1) Fc Fm h1 h2 (by omega) (by omega) (by omega) Q2 (by rw [r2]; exact hrow)
        exact ⟨h3, h4, i1, i2, i3, fun k hk => (i4 k hk).trans (r2 k)⟩
      · obtain ⟨l0, l1, _, _, l4, l5⟩ := d2 z
        have hj1 : j + 1 ≤ 5 := by omega
        rw [if_pos (show ¬ B = 1000000 from z), if_neg (show ¬ L = -1 from fun g => z (d1.mp g))]
        unfold DX2_arrivalOf DX5_seek_b112
        rw [qbd_some, qshr_6 l0, l1, qw_s (n := j) (by omega), if_pos (show 0 ≤ ((j + 1 : Nat) : Int) ∧ ((j + 1 : Nat) : Int) < 6 by omega), Int.toNat_natCast, b3, qw_s (n := i) (by omega)]
        simp only [qlt]
        rw [qw_e (x := spent + B) (by omega) (by omega)]
        have f3 : fr (fun i k => i = 220 ∧ k = j + 1) h2 (qu h2 220 (j + 1) (i : Int)) := fr_q fr.rf ⟨rfl, rfl⟩
        have R3 : RR n A h1 (qu h2 220 (j + 1) (i : Int)) := R2.keep R2.1 R2.2.1 (fr.rf (P := fun _ _ => False)) (fun i k g => fun z => z) f3 (fun i k g => by omega)
        have x1 : (qu h2 220 (j + 1) (i : Int)).1 221 = h2.1 221 := qu_ne (by decide)
        have x2 : (qu h2 220 (j + 1) (i : Int)).1 212 = h2.1 212 := qu_ne (by decide)
        have x3 : (qu h2 220 (j + 1) (i : Int)).1 213 = h2.1 213 := qu_ne (by decide)
        have x4 : ∀ k, k ≤ j → (qu h2 220 (j + 1) (i : Int)).1 220 k = h2.1 220 k := fun k hk => by rw [qu_s, up_n _ _ (by omega)]
        have Q3 : QS n A to now (j + 1) h1 (qu h2 220 (j + 1) (i : Int)) := by
          obtain ⟨y1, y2, y3, y4, y5, y6⟩ := Q2
          refine ⟨R3, y2, y3, by rw [x3]; exact y4, fun k hk => by rw [x4 k (by omega)]; exact y5 k hk, ?_⟩
          unfold BR
          rw [x1, x2]
          exact y6
        have r3 : (qu h2 220 (j + 1) (i : Int)).1 220 (j + 1) = (i : Int) := by rw [qu_s, up_s]
        generalize hYe : qu h2 220 (j + 1) (i : Int) = hY at *
        have nx : ∀ g1 g2 : qH, QS n A to now (j + 1) g1 g2 → (∀ k, k ≤ j → g2.1 220 k = hY.1 220 k) → ∃ hc' hm', DX5_seek_l17 (fun a b c e h => RX5_seekg fc 0 a b c e h) Fc (s : Int) (j : Int) spent (u : Int) ((i + 1 : Nat) : Int) g1 = some (0, hc') ∧ DX10_goesRelay_l81 (fun a b c e h => RX10_goesRelayg fm 0 a b c e h) Fm to (j : Int) (u : Int) spent ((i + 1 : Nat) : Int) g2 = some (0, hm') ∧ QS n A to now (j + 1) hc' hm' ∧ ∀ k, k ≤ j → hm'.1 220 k = hm.1 220 k := by
          intro g1 g2 q g
          obtain ⟨h3, h4, i1, i2, i3, i4⟩ := ih (i + 1) Fc Fm g1 g2 (by omega) (by omega) (by omega) q (by rw [g j (by omega), x4 j (by omega), r2]; exact hrow)
          exact ⟨h3, h4, i1, i2, i3, fun k hk => by rw [i4 k hk, g k hk, x4 k hk, r2]⟩
        have g2 : h1.1 157 2 = to := Q2.2.1
        rw [g2]
        by_cases et : (i : Int) = to
        · rw [if_neg (show ¬ ¬ (i : Int) = to from fun g => g et)]
          obtain ⟨fm', rfl⟩ : ∃ n, fm = n + 1 := ⟨fm - 1, by omega⟩
          obtain ⟨h5, h6, w1, w2, w3, w4⟩ := weigh_both (comes := spent + B) (x := ((u + 2 ^ i : Nat) : Int)) hj1 (by omega) Q3 (by rw [r3]; exact et) (fun a b c e h => RX10_goesRelayg fm' 0 a b c e h)
          rw [w1, qbd_some, RX10_goesRelayg.eq_2, w2, qbd_some]
          exact nx h5 h6 w3 (fun k hk => w4 k hk)
        · rw [if_pos et]
          have go : ∃ hc' hm', (qbd (RX5_seekg fc 0 (i : Int) ((j + 1 : Nat) : Int) (spent + B) ((u + 2 ^ i : Nat) : Int) h1) fun r1 h2 => (DX5_seek_l17 (fun a b c e h => RX5_seekg fc 0 a b c e h) Fc (s : Int) (j : Int) spent (u : Int) ((i + 1 : Nat) : Int) h2)) = some (0, hc') ∧ (qbd (RX10_goesRelayg fm 0 to ((j + 1 : Nat) : Int) ((u + 2 ^ i : Nat) : Int) (spent + B) hY) fun r14 h15 => (DX10_goesRelay_l81 (fun a b c e h => RX10_goesRelayg fm 0 a b c e h) Fm to (j : Int) (u : Int) spent ((i + 1 : Nat) : Int) h15)) = some (0, hm') ∧ QS n A to now (j + 1) hc' hm' ∧ ∀ k, k ≤ j → hm'.1 220 k = hm.1 220 k := by
            obtain ⟨h5, h6, w1, w2, w3, w4⟩ := rec hj1 fc fm (u + 2 ^ i) i (spent + B) h1 hY (by omega) (by omega) b4 (by omega) (by omega) b6 et (by omega) (by omega) Q3 r3
            rw [w1, w2, qbd_some, qbd_some]
            exact nx h5 h6 (w3.less (by omega)) (fun k hk => w4 k (by omega))
          rcases Q3.2.2.2.2.2 with ⟨p1, p2, p3⟩ | ⟨p1, p2, p3, p4, p5, p6⟩
          · rw [if_pos p1]
            exact go
          · rw [if_neg (show ¬ h1.1 157 5 = 0 by omega), p3]
            by_cases k1 : hY.1 212 28 ≤ spent + B
            · rw [if_pos k1]
              obtain ⟨h6, w1, w2, w3⟩ := pr_all (to := to) hn (5 - (j + 1)) (j + 1) (by omega) fm (u + 2 ^ i) i (spent + B) h1 hY (by omega) b4 (by omega) (by omega) b6 (by omega) (by omega) R3 r3 k1 (fun e => absurd e et)
              rw [w1, qbd_some]
              refine nx h1 h6 ?_ (fun k hk => w3.2.2.2.2 k (by omega))
              obtain ⟨y1, y2, y3, y4, y5, y6⟩ := Q3
              refine ⟨w2, y2, y3, by rw [w3.1]; exact y4, fun k hk => by rw [w3.2.2.2.2 k (by omega)]; exact y5 k hk, ?_⟩
              unfold BR
              rw [w3.2.1, w3.2.2.1, w3.2.2.2.1]
              exact y6
            · rw [if_neg k1]
              exact go
theorem sk_one {to now : Int} {j : Nat} (hn : n ≤ 512) (hto : 0 ≤ to ∧ to < A 4) (hj : j ≤ 5) (rec : j + 1 ≤ 5 → SK n A to now (j + 1)) : SK n A to now j := by
  intro fc fm u s spent hc hm hfc hfm hu hpc hs hb hst hs0 hs1 Q hrow
  obtain ⟨fc, rfl⟩ : ∃ n, fc = n + 1 := ⟨fc - 1, by omega⟩
  obtain ⟨fm, rfl⟩ : ∃ n, fm = n + 1 := ⟨fm - 1, by omega⟩
  have R := Q.1
  have h4 := R.1.1.2.2.1
  obtain ⟨S, hS⟩ := Int.eq_ofNat_of_zero_le (show 0 ≤ A 4 by omega)
  rw [RX10_goesRelayg.eq_2, RX5_seekg.eq_2]
  unfold DX10_goesRelay DX5_seek
  rw [if_pos (show 0 ≤ (j : Int) ∧ (j : Int) < 6 by omega), if_pos (show (j : Int) < 6 by omega), if_pos (show 0 ≤ (j : Int) ∧ (j : Int) < 6 by omega), Int.toNat_natCast, hrow, if_pos hst]
  simp only [qlt]
  have f1 : fr (fun i k => i = 158 ∧ k = j) hc (qu hc 158 j (s : Int)) := fr_q fr.rf ⟨rfl, rfl⟩
  have R1 : RR n A (qu hc 158 j (s : Int)) hm := R.keep (R.1.kq f1 (fun i k a b => by omega) (fun k => by omega)) (R.2.1.cg (f1.fn (fun k => by omega)) (f1.2.2.1 (by omega))) f1 (fun i k g => by omega) (fr.rf (P := fun _ _ => False)) (fun i k g => fun z => z)
  have Q1 : QS n A to now (j + 1) (qu hc 158 j (s : Int)) hm := by
    obtain ⟨y1, y2, y3, y4, y5, y6⟩ := Q
    have x7 : (qu hc 158 j (s : Int)).1 157 = hc.1 157 := qu_ne (by decide)
    have x9 : (qu hc 158 j (s : Int)).1 159 = hc.1 159 := qu_ne (by decide)
    unfold QS BR
    rw [x7, x9]
    refine ⟨R1, y2, y3, y4, fun k hk => ?_, y6⟩
    by_cases e : k = j
    · rw [e, qu_s, up_s, hrow]
    · rw [qu_s, up_n _ _ e]
      exact y5 k (by omega)
  have K := sk_l (to := to) (now := now) (fc := fc) (fm := fm) hn hto hS hj hu hpc hs hb hs0 hs1 (by omega) (by omega) rec S 0 LF LF _ hm (by omega) (by unfold LF; omega) (by unfold LF; omega) Q1 hrow
  rw [z0] at K
  exact K
theorem sk_all {to now : Int} (hn : n ≤ 512) (hto : 0 ≤ to ∧ to < A 4) : ∀ (D j : Nat), j + D = 5 → SK n A to now j := by
  intro D
  induction D with
  | zero => intro j hj; exact sk_one hn hto (by omega) (fun g => by omega)
  | succ D ih => intro j hj; exact sk_one hn hto (by omega) (fun _ => ih (j + 1) (by omega))
theorem pow_tab : (List.range 6).all (fun s => decide (qshl 1 (s : Int) = ((2 ^ s : Nat) : Int)) && decide (2 ^ s < 64) && decide (pc (2 ^ s) = 1) && decide (2 ^ s / 2 ^ s % 2 = 1)) = true := by decide +kernel
theorem pow_f {s : Nat} (hs : s < 6) : qshl 1 (s : Int) = ((2 ^ s : Nat) : Int) ∧ 2 ^ s < 64 ∧ pc (2 ^ s) = 1 ∧ 2 ^ s / 2 ^ s % 2 = 1 := by
  have h := List.all_eq_true.mp pow_tab s (List.mem_range.mpr hs)
  simp only [Bool.and_eq_true, decide_eq_true_eq] at h
  exact ⟨h.1.1.1, h.1.1.2, h.1.2, h.2⟩
theorem t_relay {hc hm : qH} (R : RR n A hc hm) (hn : n ≤ 512) (f to w : Int) : Out n (DX9_relay f to w hc) (DX10_relay f to w hm) := by
  have R1 := R.m0
  have key : ∀ b0 : Int, (b0 = 0 ∨ b0 = 1) → (b0 = 1 ↔ ((0 ≤ w ∧ w ≤ 1) ∨ (10 ≤ w ∧ w ≤ 15))) → Out n (DX9_relay_b26 f to w b0 hc) (DX10_relay f to w hm) := by
    intro b0 hb hw
    unfold DX9_relay_b26 DX10_relay
    simp only [qlt]
    generalize qu hm 212 0 0 = hm1 at R1
    have G := R1.1.1
    have r := R1.1.2.1
    have q := R1.2.2.1.1
    have td := R1.tid
    have h4 := G.2.2.1
    rw [m_noThrow q G, c_pairCode G r, qbd_some, qbd_some]
    by_cases k : (0 ≤ to ∧ to < A 4) ∧ ¬ f = to ∧ 0 ≤ f ∧ f < A 4
    · have k' : (0 ≤ f ∧ f < A 4) ∧ (to = -1 ∨ (0 ≤ to ∧ to < A 4)) ∧ ¬ f = to := ⟨k.2.2, Or.inr k.1, k.2.1⟩
      rw [if_pos k, if_pos k', if_neg (show ¬ ¬ (0 : Int) = 0 by decide), if_neg (show ¬ to = -1 by omega), m_within, qbd_some, m_within, qbd_some, if_neg (show ¬ (if cv_to A f = -1 then (-5 : Int) else 0) = -2 by split <;> decide)]
      by_cases ww : (0 ≤ w ∧ w ≤ 1) ∨ (10 ≤ w ∧ w ≤ 15)
      · have b1 := hw.mpr ww
        have em : (if ¬ (if 0 ≤ w ∧ w ≤ 1 then (1 : Int) else 0) = 0 then DX10_relay_b46 f to w hm1 else if ¬ (if 10 ≤ w ∧ w ≤ 15 then (1 : Int) else 0) = 0 then DX10_relay_b46 f to w hm1 else some (-2, hm1)) = DX10_relay_b46 f to w hm1 := by
          by_cases w1 : 0 ≤ w ∧ w ≤ 1
          · rw [if_pos w1, if_pos (show ¬ (1 : Int) = 0 by decide)]
          · rw [if_neg w1, if_neg (show ¬ ¬ (0 : Int) = 0 by decide), if_pos (show 10 ≤ w ∧ w ≤ 15 by omega), if_pos (show ¬ (1 : Int) = 0 by decide)]
        rw [em, if_pos (show ¬ b0 = 0 by omega)]
        unfold DX10_relay_b46 DX5_start RX5_seek RX10_goesRelay
        simp only [qlt]
        rw [qbd_some]
        obtain ⟨s, rfl⟩ := Int.eq_ofNat_of_zero_le k.2.2.1
        obtain ⟨p1, p2, p3, p4⟩ := pow_f (s := s) (by omega)
        generalize hXe : qu (qu (qu (qu hc 157 2 to) 157 3 (hc.1 24 2)) 157 4 0) 157 5 0 = hX
        generalize hYe : qu (qu (qu hm1 212 28 1000000) 212 29 1000000) 220 0 (s : Int) = hY
        have fX : fr (fun i k => i = 157) hc hX := by rw [← hXe]; exact fr_q (fr_q (fr_q (fr_q fr.rf rfl) rfl) rfl) rfl
        have fY : fr (fun i k => (i = 212 ∧ (k = 28 ∨ k = 29)) ∨ i = 220) hm1 hY := by rw [← hYe]; exact fr_q (fr_q (fr_q fr.rf (by omega)) (by omega)) (by omega)
        have RX : RR n A hX hY := R1.keep (R1.1.kq fX (fun i k a b => by omega) (fun k => by omega)) (R1.2.1.cg (fX.fn (fun k => by omega)) (fX.2.2.1 (by omega))) fX (fun i k g => by omega) fY (fun i k g => by omega)
        have QX : QS n A to (hm1.1 213 349) 0 hX hY := by
          refine ⟨RX, ?_, ?_, fY.at 213 349 (by omega), fun k hk => by omega, Or.inl ⟨?_, ?_, ?_⟩⟩
          · rw [← hXe]; rfl
          · rw [← td.2, ← hXe]; rfl
          · rw [← hXe]; rfl
          · rw [← hYe]; rfl
          · rw [← hYe]; rfl
        have K := sk_all (to := to) (now := hm1.1 213 349) hn k.1 5 0 (by omega) 100 100 (2 ^ s) s 0 hX hY (by omega) (by omega) p2 (by omega) k.2.2.2 p4 k.2.1 (by omega) (by omega) QX (by rw [← hYe]; rfl)
        rw [z0] at K
        obtain ⟨h5, h6, e5, e6, Q6, _⟩ := K
        rw [p1, e5, e6, qbd_some, qbd_some]
        have R6 := Q6.1
        have t6 : h5.1 157 2 = to := Q6.2.1
        rcases Q6.2.2.2.2.2 with ⟨a1, a2, a3⟩ | ⟨a1, a2, a3, a4, a5, a6⟩
        · rw [if_neg (show ¬ ¬ h5.1 157 5 = 0 from fun g => g a1), if_neg (show ¬ ¬ h6.1 212 28 = 1000000 from fun g => g a2)]
          exact Out.of R6 rfl rfl
        · rw [if_pos (show ¬ h5.1 157 5 = 0 by omega), if_pos (show ¬ h6.1 212 28 = 1000000 by omega)]
          by_cases w0 : w = 0
          · rw [if_neg (show ¬ ¬ w = 0 from fun g => g w0), if_neg (show ¬ ¬ w = 0 from fun g => g w0), a3]
            exact Out.of R6 rfl rfl
          · rw [if_pos w0, if_pos w0]
            by_cases w1 : w = 1
            · rw [if_neg (show ¬ ¬ w = 1 from fun g => g w1), if_neg (show ¬ ¬ w = 1 from fun g => g w1), a2]
              exact Out.of R6 rfl rfl
            · rw [if_pos w1, if_pos w1, qw_e (x := w - 10) (by omega) (by omega)]
              unfold DX5_stop
              rw [if_neg (show ¬ w - 10 < 0 by omega), a2, t6, if_pos (show w - 10 < 6 by omega)]
              by_cases w2 : h6.1 212 29 < w - 10
              · rw [if_pos w2, if_pos w2, qbd_some]
                exact Out.of R6 rfl rfl
              · rw [if_neg w2, if_neg w2]
                by_cases w3 : w - 10 = h6.1 212 29
                · rw [if_neg (show ¬ ¬ w - 10 = h6.1 212 29 from fun g => g w3), qbd_some, if_pos (show 0 ≤ w - 10 ∧ w - 10 < 6 by omega), w3, a6]
                  exact Out.of R6 rfl rfl
                · rw [if_pos w3, if_pos (show 0 ≤ w - 10 ∧ w - 10 < 6 by omega), if_pos (show 0 ≤ w - 10 ∧ w - 10 < 6 by omega), qbd_some, a5 (w - 10).toNat (by omega)]
                  exact Out.of R6 rfl rfl
      · have b1 : b0 = 0 := by
          rcases hb with e | e
          · exact e
          · exact absurd (hw.mp e) ww
        rw [if_neg (show ¬ (0 ≤ w ∧ w ≤ 1) from fun g => ww (Or.inl g)), if_neg (show ¬ (10 ≤ w ∧ w ≤ 15) from fun g => ww (Or.inr g)), if_neg (show ¬ ¬ (0 : Int) = 0 by decide), if_neg (show ¬ ¬ b0 = 0 from fun g => g b1)]
        exact Out.of R1 rfl rfl
    · rw [if_neg k, if_pos rfl]
      refine Out.of R1 rfl ?_
      by_cases k2 : (0 ≤ f ∧ f < A 4) ∧ (to = -1 ∨ (0 ≤ to ∧ to < A 4)) ∧ ¬ f = to
      · have e : to = -1 := by
          rcases k2.2.1 with e | e
          · exact e
          · exact absurd ⟨e, k2.2.2, k2.1⟩ k
        rw [if_pos k2, if_neg (show ¬ ¬ (0 : Int) = 0 by decide), if_pos e]
      · rw [if_neg k2, if_pos (show ¬ (-2 : Int) = 0 by decide)]
  unfold DX9_relay
  by_cases w0 : w = 0
  · rw [if_pos w0]
    exact key 1 (Or.inr rfl) ⟨fun _ => by omega, fun _ => rfl⟩
  · rw [if_neg w0]
    by_cases w1 : w = 1
    · rw [if_pos w1]
      exact key 1 (Or.inr rfl) ⟨fun _ => by omega, fun _ => rfl⟩
    · rw [if_neg w1]
      by_cases w2 : w < 10
      · rw [if_pos w2]
        exact key 0 (Or.inl rfl) ⟨fun z => absurd z (by decide), fun z => by omega⟩
      · rw [if_neg w2]
        by_cases w3 : 16 ≤ w
        · rw [if_pos w3]
          exact key 0 (Or.inl rfl) ⟨fun z => absurd z (by decide), fun z => by omega⟩
        · rw [if_neg w3]
          exact key 1 (Or.inr rfl) ⟨fun _ => by omega, fun _ => rfl⟩
end rl2
