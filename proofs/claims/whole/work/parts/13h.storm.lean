/-! ===== storm ===== -/
section sto
variable {n : Int} {A : Nat → Int}
theorem DR.move {w : Nat} {T : Int} {hc hm : qH} {b : Nat} {x : Int} (hw : w = 24 ∨ w = 34) (D : DR w A T hc hm) (hb : (b : Int) < hm.1 213 348) (s0 : hm.1 213 (284 + (8 * b + 0)) = 0) (hx : 0 ≤ x ∧ x < A 1 * A 2) (ho : A (14 + x.toNat) = 0) :
    DR w A T (qu hc (w + 2 + b) 1 x) (qu hm 213 (284 + (8 * b + 1)) x) ∧ fr (Pcw w) hc (qu hc (w + 2 + b) 1 x) ∧ fr Pmd hm (qu hm 213 (284 + (8 * b + 1)) x) := by
  obtain ⟨E, O, ⟨q, e19⟩, W⟩ := D
  have w3 : 0 ≤ hm.1 213 348 ∧ hm.1 213 348 ≤ 8 := W.2.2.1
  obtain ⟨n1, n2, n3⟩ := W.2.2.2.2 b hb
  have fc : fr (Pcw w) hc (qu hc (w + 2 + b) 1 x) := fr.mk (fun i k g => by unfold Pcw at g; rw [qu_1, if_neg (by omega)]) rfl
  have fm : fr Pmd hm (qu hm 213 (284 + (8 * b + 1)) x) := fr.mk (fun i k g => by unfold Pmd at g; rw [qu_1, if_neg (by omega)]) rfl
  refine ⟨⟨E.kp fc (fun j k a b => by unfold Pcw; omega) (E.2.2.2.cg (qu_ne (by omega)) rfl), O.cg (qu_ne (by omega)) rfl, ⟨q.fr fm, by rw [fm.at 212 19 (by unfold Pmd; omega)]; exact e19⟩, ?_⟩, fc, fm⟩
  have m48 : (qu hm 213 (284 + (8 * b + 1)) x).1 213 348 = hm.1 213 348 := by rw [qu_s, up_n _ _ (by omega)]
  have m49 : (qu hm 213 (284 + (8 * b + 1)) x).1 213 349 = hm.1 213 349 := by rw [qu_s, up_n _ _ (by omega)]
  have s0' : (fun k => hm.1 213 (284 + (8 * b + k))) 0 = 0 := s0
  refine W.set (b := b) (v := up (fun k => hm.1 213 (284 + (8 * b + k))) 1 x) (by omega) ?_ ?_ m49 (Or.inl m48) (by show (qu hm 213 (284 + (8 * b + 1)) x).1 213 348 ≤ 8; rw [m48]; exact w3.2) (fun i hi ne => qu_ne (by omega)) (fun j hj ne => ?_) ?_ (fun j hj => ?_) ?_ (fun g => ?_)
  · rw [qu_ne (by omega)]
    exact W.1.trans m48.symm
  · rw [qu_ne (by omega)]
    exact W.2.1.trans m49.symm
  · show (qu hm 213 (284 + (8 * b + 1)) x).1 213 (284 + j) = hm.1 213 (284 + j)
    rw [qu_s, up_n _ _ (by omega)]
  · rw [qu_s, nb_up _ (by decide), nb_up _ (by decide), n1]
  · show (qu hm 213 (284 + (8 * b + 1)) x).1 213 (284 + (8 * b + j)) = _
    rw [qu_s]
    unfold up
    by_cases e : j = 1
    · rw [if_pos (by omega), if_pos e]
    · rw [if_neg (by omega), if_neg e]
  · obtain ⟨b0, b1, b2, b3, b4, b5, b6, b7, b8⟩ := n2
    refine ⟨?_, ?_, ?_, ?_, ?_, ?_, ?_, ?_, ?_⟩ <;> simp only [up, if_true, if_false, Nat.reduceEqDiff, reduceIte] <;> first | exact hx | (intro _; exact ho) | omega | exact b0 | exact b4 | exact b5 | exact b6 | exact b7 | exact b8 | (intro h; omega) | skip
  · rw [up_n _ _ (by decide)] at g
    have g' : hm.1 213 (284 + (8 * b + 0)) = 2 := g
    rw [s0] at g'
    exact absurd g' (by decide)
theorem sw_l {a b : Int} {T : Int} (ha : 0 ≤ a ∧ a < A 1 * A 2) (oa : A (14 + a.toNat) = 0) (hb : 0 ≤ b ∧ b < A 1 * A 2) (ob : A (14 + b.toNat) = 0) {Tn : Nat} (h8 : Tn ≤ 8) : ∀ (m k Fc Fm : Nat) (acc : Int) (hc g : qH), k + m = Tn → m < Fc → m < Fm → DR 24 A T hc g → g.1 213 348 = Tn → (0 ≤ acc ∧ acc ≤ k) →
    ∃ h' g' r, DX7_swap_l5 Fc 24 a b acc (k : Int) hc = some (r, h') ∧ DX10_storm_l59 Fm a b acc (k : Int) g = (if r ≤ 0 then some (r, g') else qbd (DX10_notes g') (fun _ h8 => some (r, h8))) ∧ DR 24 A T h' g' ∧ fr (Pcw 24) hc h' ∧ fr Pmd g g' ∧ acc ≤ r ∧ (r = acc → h' = hc ∧ g' = g) := by
  intro m
  induction m with
  | zero =>
    intro k Fc Fm acc hc g hk hFc hFm D t8 hacc
    obtain ⟨Fc, rfl⟩ : ∃ n, Fc = n + 1 := ⟨Fc - 1, by omega⟩
    obtain ⟨Fm, rfl⟩ : ∃ n, Fm = n + 1 := ⟨Fm - 1, by omega⟩
    have w1 : hc.1 24 1 = g.1 213 348 := D.2.2.2.1
    rw [DX7_swap_l5.eq_2, DX10_storm_l59.eq_2, if_pos (show hc.1 24 1 ≤ (k : Int) by omega), if_pos (show g.1 213 348 ≤ (k : Int) by omega)]
    exact ⟨hc, g, acc, rfl, rfl, D, fr.rf, fr.rf, Int.le_refl _, fun _ => ⟨rfl, rfl⟩⟩
  | succ m ih =>
    intro k Fc Fm acc hc g hk hFc hFm D t8 hacc
    obtain ⟨Fc, rfl⟩ : ∃ n, Fc = n + 1 := ⟨Fc - 1, by omega⟩
    obtain ⟨Fm, rfl⟩ : ∃ n, Fm = n + 1 := ⟨Fm - 1, by omega⟩
    have w1 : hc.1 24 1 = g.1 213 348 := D.2.2.2.1
    have d0 := D.at (b := k) (k := 0) (by omega) (by decide)
    have d1 := D.at (b := k) (k := 1) (by omega) (by decide)
    have i1 : 0 ≤ 284 + 8 * (k : Int) + 1 ∧ 284 + 8 * (k : Int) + 1 < 5736 := by omega
    have i0 : 0 ≤ 284 + 8 * (k : Int) ∧ 284 + 8 * (k : Int) < 5736 := by omega
    rw [DX7_swap_l5.eq_2, DX10_storm_l59.eq_2, if_neg (show ¬ hc.1 24 1 ≤ (k : Int) by omega), if_neg (show ¬ 8 ≤ (k : Int) by omega), if_pos (show 0 ≤ (k : Int) ∧ (k : Int) < 8 by omega), if_neg (show ¬ g.1 213 348 ≤ (k : Int) by omega), Int.toNat_natCast, qw_e (x := 8 * (k : Int)) (by omega) (by omega), qw_e (x := 284 + 8 * (k : Int)) (by omega) (by omega), qw_e (x := 284 + 8 * (k : Int) + 1) (by omega) (by omega), if_pos i1, qlt_e, if_pos i0, show (284 + 8 * (k : Int)).toNat = 284 + (8 * k + 0) by omega, show (284 + 8 * (k : Int) + 1).toNat = 284 + (8 * k + 1) by omega, d0, d1, qw_s (by omega)]
    have skip : ∃ h' g' r, DX7_swap_l5 Fc 24 a b acc ((k + 1 : Nat) : Int) hc = some (r, h') ∧ DX10_storm_l59 Fm a b acc ((k + 1 : Nat) : Int) g = (if r ≤ 0 then some (r, g') else qbd (DX10_notes g') (fun _ h8 => some (r, h8))) ∧ DR 24 A T h' g' ∧ fr (Pcw 24) hc h' ∧ fr Pmd g g' ∧ acc ≤ r ∧ (r = acc → h' = hc ∧ g' = g) :=
      ih (k + 1) Fc Fm acc hc g (by omega) (by omega) (by omega) D t8 (by omega)
    by_cases s0 : g.1 213 (284 + (8 * k + 0)) = 0
    · rw [if_neg (show ¬ ¬ g.1 213 (284 + (8 * k + 0)) = 0 from fun z => z s0), if_neg (show ¬ ¬ g.1 213 (284 + (8 * k + 0)) = 0 from fun z => z s0)]
      have go : ∀ x : Int, (0 ≤ x ∧ x < A 1 * A 2) → A (14 + x.toNat) = 0 → ∃ h' g' r, DX7_swap_l5 Fc 24 a b (acc + 1) ((k + 1 : Nat) : Int) (qu hc (24 + 2 + k) 1 x) = some (r, h') ∧ DX10_storm_l59 Fm a b (acc + 1) ((k + 1 : Nat) : Int) (qu g 213 (284 + (8 * k + 1)) x) = (if r ≤ 0 then some (r, g') else qbd (DX10_notes g') (fun _ h8 => some (r, h8))) ∧ DR 24 A T h' g' ∧ fr (Pcw 24) hc h' ∧ fr Pmd g g' ∧ acc ≤ r ∧ (r = acc → h' = hc ∧ g' = g) := by
        intro x hx ox
        obtain ⟨D1, fc1, fm1⟩ := D.move (b := k) (x := x) (Or.inl rfl) (by omega) s0 hx ox
        obtain ⟨h', g', r, j1, j2, j3, j4, j5, j6, j7⟩ := ih (k + 1) Fc Fm (acc + 1) _ _ (by omega) (by omega) (by omega) D1 (by rw [qu_s, up_n _ _ (by omega)]; exact t8) (by omega)
        exact ⟨h', g', r, j1, j2, j3, fc1.tr j4, fm1.tr j5, by omega, fun z => by omega⟩
      have b56 : DX7_swap_b56 (DX7_swap_l5 Fc) 24 a b acc (k : Int) (24 + 2 + k) hc = if g.1 213 (284 + (8 * k + 1)) = a then DX7_swap_l5 Fc 24 a b (acc + 1) ((k + 1 : Nat) : Int) (qu hc (24 + 2 + k) 1 b) else DX7_swap_l5 Fc 24 a b (acc + 1) ((k + 1 : Nat) : Int) (qu hc (24 + 2 + k) 1 a) := by
        unfold DX7_swap_b56
        rw [d1, qlt_e, qlt_e, qlt_e, qlt_e, qw_e (x := acc + 1) (by omega) (by omega), qw_s (by omega)]
        (repeat' split) <;> first | rfl | contradiction
      have b122 : DX10_storm_b122 (DX10_storm_l59 Fm) a b acc (k : Int) (g.1 213 (284 + (8 * k + 1))) g = if g.1 213 (284 + (8 * k + 1)) = a then DX10_storm_l59 Fm a b (acc + 1) ((k + 1 : Nat) : Int) (qu g 213 (284 + (8 * k + 1)) b) else DX10_storm_l59 Fm a b (acc + 1) ((k + 1 : Nat) : Int) (qu g 213 (284 + (8 * k + 1)) a) := by
        unfold DX10_storm_b122
        rw [qw_e (x := 8 * (k : Int)) (by omega) (by omega), qw_e (x := 284 + 8 * (k : Int)) (by omega) (by omega), qw_e (x := 284 + 8 * (k : Int) + 1) (by omega) (by omega), if_pos i1, if_pos i1, show (284 + 8 * (k : Int) + 1).toNat = 284 + (8 * k + 1) by omega, qlt_e, qlt_e, qlt_e, qlt_e, qw_e (x := acc + 1) (by omega) (by omega), qw_s (by omega)]
        (repeat' split) <;> first | rfl | contradiction
      rw [b56, b122]
      by_cases c1 : g.1 213 (284 + (8 * k + 1)) = a
      · simp only [if_pos c1]
        exact go b hb ob
      · rw [if_neg c1, if_neg c1, if_neg c1, if_neg c1]
        by_cases c2 : g.1 213 (284 + (8 * k + 1)) = b
        · rw [if_neg (show ¬ ¬ g.1 213 (284 + (8 * k + 1)) = b from fun z => z c2), if_pos c2]
          exact go a ha oa
        · rw [if_pos c2, if_neg c2]
          exact skip
    · rw [if_pos s0, if_pos s0]
      exact skip
theorem t_storm {hc hm : qH} (R : RR n A hc hm) (hn : n ≤ 512) (a b : Int) : Out n (DX9_storm a b hc) (DX10_storm a b hm) := by
  have R1 := R.m0
  unfold DX9_storm DX10_storm
  rw [qlt_e]
  generalize qu hm 212 0 0 = hm1 at R1
  have G := R1.1.1
  have r := R1.1.2.1
  have q := R1.2.2.1.1
  have th := R1.thr
  have P := R1.past
  have hr := nxs_r P
  rw [c_isCell G r, m_isCellA q G, qbd_some, qbd_some]
  by_cases ka : 0 ≤ a ∧ a < A 1 * A 2
  · rw [if_pos ka, if_neg (show ¬ (1 : Int) = 0 by decide), if_neg (show ¬ (1 : Int) = 0 by decide), c_isCell G r, m_isCellA q G, qbd_some, qbd_some]
    by_cases kb : 0 ≤ b ∧ b < A 1 * A 2
    · rw [if_pos kb, if_neg (show ¬ (1 : Int) = 0 by decide), if_neg (show ¬ (1 : Int) = 0 by decide)]
      by_cases ab : a = b
      · rw [if_neg (show ¬ ¬ a = b from fun z => z ab), if_neg (show ¬ ¬ a = b from fun z => z ab)]
        exact Out.of R1 rfl rfl
      · rw [if_pos ab, if_pos ab, c_isOpen G r, m_isOpenA q G ka, qbd_some, qbd_some]
        by_cases oa : A (14 + a.toNat) = 0
        · rw [if_pos (show 0 ≤ a ∧ a < A 1 * A 2 ∧ A (14 + a.toNat) = 0 from ⟨ka.1, ka.2, oa⟩), if_pos oa, if_neg (show ¬ (1 : Int) = 0 by decide), if_neg (show ¬ (1 : Int) = 0 by decide), c_isOpen G r, m_isOpenA q G kb, qbd_some, qbd_some]
          by_cases ob : A (14 + b.toNat) = 0
          · rw [if_pos (show 0 ≤ b ∧ b < A 1 * A 2 ∧ A (14 + b.toNat) = 0 from ⟨kb.1, kb.2, ob⟩), if_pos ob, if_pos (show ¬ (1 : Int) = 0 by decide), if_pos (show ¬ (1 : Int) = 0 by decide)]
            obtain ⟨h1, e1, w1, o1, f1⟩ := c_draft R1
            obtain ⟨g1, x1, kaa, kf⟩ := m_keeps hm1
            have R2 := R1.drafted o1 f1 kf
            have a44 : h1.1 44 = hc.1 44 := o1 44 (by omega)
            have g13 : g1.1 213 = hm1.1 213 := kf.fn (fun k => by omega)
            have K := sw_l (T := 99 * n) ka oa kb ob (Tn := (g1.1 213 348).toNat) (by rw [g13]; omega) (g1.1 213 348).toNat 0 LF LF 0 h1 g1 (by omega) (by unfold LF; rw [g13]; omega) (by unfold LF; rw [g13]; omega) R2.dr (by rw [g13]; omega) (by omega)
            rw [z0] at K
            obtain ⟨h2, g2, x, e2, x2, D2, fc2, fm2, hx0, hx1⟩ := K
            have e2' : DX7_swap 24 a b h1 = some (x, h2) := e2
            rw [e1, x1, qbd_some, qbd_some, e2', x2, qbd_some]
            by_cases hx : x ≤ 0
            · rw [if_pos hx, if_pos hx]
              obtain ⟨u1, u2⟩ := hx1 (by omega)
              rw [u1, u2]
              exact Out.of R2 rfl rfl
            · rw [if_neg hx, if_neg hx]
              have b44 : h2.1 44 = hc.1 44 := by rw [fc2.fn (i := 44) (fun k => by unfold Pcw; omega), a44]
              obtain ⟨h3, s, e3, hs, c1, c2, o3, f3⟩ := c_commit (hc := h2) (by rw [b44]; exact P.1) (by rw [b44, P.2.1]; exact P.2.2.1)
              rw [b44] at hs c1 c2
              have D3 : DR 24 A (99 * (n + 1)) h3 g2 := by
                have D2' : DR 24 A (99 * (n + 1)) h2 g2 := ⟨D2.1, D2.2.1, D2.2.2.1, D2.2.2.2.grow (by omega)⟩
                exact D2'.cg (fun i hi => o3 i (by omega)) f3 rfl rfl
              obtain ⟨g3, x3, R3, t3⟩ := R1.done (h3 := h3) w1 o1 kaa kf D3 fm2 hs c1 c2 (fun i a b => by rw [o3 i (by omega), fc2.fn (i := i) (fun k => by unfold Pcw; omega)]) (fun i k g => by rw [o3 i (by omega), fc2.at i k (by unfold Pcw; omega), o1 i (by omega)])
              rw [e3, x3, qbd_some, qbd_some]
              exact ⟨_, h3, g3, A, rfl, rfl, R3⟩
          · rw [if_neg (show ¬ (0 ≤ b ∧ b < A 1 * A 2 ∧ A (14 + b.toNat) = 0) from fun z => ob z.2.2), if_neg ob]
            exact Out.of R1 rfl rfl
        · rw [if_neg (show ¬ (0 ≤ a ∧ a < A 1 * A 2 ∧ A (14 + a.toNat) = 0) from fun z => oa z.2.2), if_neg oa]
          exact Out.of R1 rfl rfl
    · rw [if_neg kb]
      exact Out.of R1 rfl rfl
  · rw [if_neg ka]
    exact Out.of R1 rfl rfl
end sto
