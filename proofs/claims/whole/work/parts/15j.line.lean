/-! ===== a shore's line ===== -/
theorem set_tab : (List.range 64).all (fun u => (List.range 6).all (fun s => decide (0 ≤ qor (u : Int) (qshl 1 (s : Int))) && decide (qor (u : Int) (qshl 1 (s : Int)) < 64))) = true := by decide +kernel
theorem set_f {u s : Int} (hu : 0 ≤ u ∧ u < 64) (hs : 0 ≤ s ∧ s < 6) : 0 ≤ qor u (qshl 1 s) ∧ qor u (qshl 1 s) < 64 := by
  obtain ⟨u, rfl⟩ := Int.eq_ofNat_of_zero_le hu.1
  obtain ⟨s, rfl⟩ := Int.eq_ofNat_of_zero_le hs.1
  have h := List.all_eq_true.mp (List.all_eq_true.mp set_tab u (List.mem_range.mpr (by omega))) s (List.mem_range.mpr (by omega))
  simp only [Bool.and_eq_true, decide_eq_true_eq] at h
  exact h
section sh
variable {hc hm : qH}
theorem b176_in (g : ¬ hm.1 212 11 = 0) (a1 a2 a3 a4 : Int) : DX10_readShore_b176 a1 a2 a3 a4 hm = some (0, hm) := by
  unfold DX10_readShore_b176
  rw [if_neg g]
theorem l118_in (g : ¬ hm.1 212 11 = 0) (F : Nat) (a1 a2 a3 a4 a5 : Int) : DX10_readShore_l118 (F + 1) a1 a2 a3 a4 a5 hm = some (0, hm) := by
  rw [DX10_readShore_l118.eq_2, if_pos g, b176_in g]
theorem b99_in (g : ¬ hm.1 212 11 = 0) (a1 a2 a3 : Int) : DX10_readShore_b99 a1 a2 a3 hm = some (0, hm) := by
  obtain ⟨FF, hFF⟩ : ∃ n, LF = n + 1 := ⟨LF - 1, by unfold LF; omega⟩
  unfold DX10_readShore_b99
  rw [in_eats g, qbd_some, if_neg (show ¬ ¬ (0 : Int) = 0 by decide), in_fails g, qbd_some, hFF, l118_in g]
theorem b49_in (g : ¬ hm.1 212 11 = 0) (a1 a2 : Int) : DX10_readShore_b49 a1 a2 hm = some (0, hm) := by
  unfold DX10_readShore_b49 DX10_readShore_b78
  rw [if_pos g]
  simp only [qlt]
  rw [if_pos g, b99_in g]
/-- the tides at which they walk -/
theorem walks_l {a1 a2 a3 : Int} : ∀ (M i Fc Fm : Nat) (bits : Int) (hc hm : qH), 901 ≤ (M : Int) + hm.1 212 6 → M < Fc → M < Fm → (1 ≤ i → (i : Int) ≤ hm.1 212 6) → i ≤ 900 → 0 ≤ bits ∧ bits < 64 → SG hc hm →
    ∃ r hc' hm', DX4_takeWalks_l4 Fc bits (i : Int) hc = some (r, hc') ∧
      ((0 ≤ r ∧ r < 64 ∧ DX10_readShore_l118 Fm a1 a2 a3 bits (if i = 0 then 0 else 1) hm = DX10_readShore_b176 a1 a2 a3 r hm' ∧ SG hc' hm' ∧ hm'.1 216 = hm.1 216 ∧ hm.1 212 6 ≤ hm'.1 212 6) ∨
       (r = -1 ∧ DX10_readShore_l118 Fm a1 a2 a3 bits (if i = 0 then 0 else 1) hm = some (0, hm') ∧ BD hc' hm' ∧ fr (fun i k => i = 2) hc hc')) := by
  intro M
  induction M with
  | zero =>
    intro i Fc Fm bits hc hm hM hFc hFm hi hi9 hb S
    exfalso
    have := tk_pos S.2.1
    have := S.1.2.2.2
    omega
  | succ M ih =>
    intro i Fc Fm bits hc hm hM hFc hFm hi hi9 hb S
    obtain ⟨Fc, rfl⟩ : ∃ n, Fc = n + 1 := ⟨Fc - 1, by omega⟩
    obtain ⟨Fm, rfl⟩ : ∃ n, Fm = n + 1 := ⟨Fm - 1, by omega⟩
    have bf : hc.2.2.2.2 = true := by rw [S.1.1]
    have w := S.2.2.1
    have G := S.2.2.2.2.2.1.1
    have p13 : hc.1 16 13 = hm.1 216 3 := S.2.2.2.2.2.2.2.1
    have r3 := G.2.1
    have tp := tk_pos S.2.1
    have t9 := S.1.2.2.2
    have tn := tk_num S.2.1
    have go : (i = 0 ∨ hm.1 212 9 = 31) → ∃ r hc' hm', DX4_takeWalks_b23 (DX4_takeWalks_l4 Fc) bits (i : Int) hc = some (r, hc') ∧
      ((0 ≤ r ∧ r < 64 ∧ DX10_readShore_b139 (DX10_readShore_l118 Fm) a1 a2 a3 bits hm = DX10_readShore_b176 a1 a2 a3 r hm' ∧ SG hc' hm' ∧ hm'.1 216 = hm.1 216 ∧ hm.1 212 6 ≤ hm'.1 212 6) ∨
       (r = -1 ∧ DX10_readShore_b139 (DX10_readShore_l118 Fm) a1 a2 a3 bits hm = some (0, hm') ∧ BD hc' hm' ∧ fr (fun i k => i = 2) hc hc')) := by
      intro hg
      unfold DX4_takeWalks_b23 DX10_readShore_b139
      rw [if_pos bf, p13, qw_e (x := hm.1 216 3 - 1) (by omega) (by omega)]
      obtain ⟨x, h3, x', h4, e3, e4, e5⟩ := tk_take (lo := 0) (hi := hm.1 216 3 - 1) S.1 S.2.1 w
      rw [e3, e4, qbd_some, qbd_some]
      rcases e5 with ⟨rfl, x1, x2, x3, x4, x5, T3, t3, g3, a3', f3, f4⟩ | ⟨rfl, b, nb, f3, f4⟩
      · have S3 := S.tok T3 t3 f3 f4 (fun i k g => by omega) (fun i k g => by omega) (by omega)
        have m6 : h4.1 216 = hm.1 216 := f4.fn (fun k => by omega)
        rw [if_pos (show ¬ x' = -1 by omega), if_neg (show ¬ ¬ h4.1 212 11 = 0 from fun z => z g3)]
        simp only [qlt]
        rw [qw_s (by omega)]
        have hb2 := set_f (u := bits) (s := x') hb (by omega)
        have i900 : i + 1 ≤ 900 := by
          rcases hg with z | z
          · omega
          · have := tp.2.2.2.2 (by omega)
            by_cases i0 : 1 ≤ i
            · have := hi i0
              omega
            · omega
        obtain ⟨r, h5, h6, k1, k2⟩ := ih (i + 1) Fc Fm (qor bits (qshl 1 x')) h3 h4 (by omega) (by omega) (by omega) (fun _ => by
          by_cases i0 : 1 ≤ i
          · have := hi i0
            omega
          · omega) i900 hb2 S3
        rw [if_neg (show ¬ i + 1 = 0 by omega)] at k2
        refine ⟨r, h5, h6, k1, ?_⟩
        rcases k2 with ⟨y1, y2, y3, y4, y5, y6⟩ | ⟨y1, y2, y3, y4⟩
        · exact Or.inl ⟨y1, y2, y3, y4, by rw [y5, m6], by omega⟩
        · exact Or.inr ⟨y1, y2, y3, (f3.mono (fun i k g => by omega)).tr y4⟩
      · obtain ⟨Fm, rfl⟩ : ∃ n, Fm = n + 1 := ⟨Fm - 1, by
          have := tp
          omega⟩
        rw [if_neg (show ¬ ¬ (-1 : Int) = -1 by decide), if_pos b.w, l118_in b.w]
        exact ⟨-1, h3, h4, rfl, Or.inr ⟨rfl, rfl, b, f3.mono (fun i k g => by omega)⟩⟩
    rw [DX4_takeWalks_l4.eq_2, DX10_readShore_l118.eq_2, if_neg (show ¬ ¬ hm.1 212 11 = 0 from fun z => z w)]
    by_cases i0 : i = 0
    · rw [if_neg (show ¬ (900 : Int) ≤ (i : Int) by omega), if_pos (show (i : Int) = 0 by omega), if_pos i0, if_pos rfl]
      exact go (Or.inl i0)
    · have hi1 := hi (by omega)
      rw [if_neg i0, if_neg (show ¬ (1 : Int) = 0 by decide), ok_is w, qbd_some]
      by_cases k : hm.1 212 9 = 31
      · have := tp.2.2.2.2 (by omega)
        rw [if_neg (show ¬ (900 : Int) ≤ (i : Int) by omega), if_neg (show ¬ (i : Int) = 0 by omega), if_neg (show ¬ ¬ hc.1 2 6 = 2 from fun z => z (tn.mpr k)), if_pos k, if_neg (show ¬ (1 : Int) = 0 by decide)]
        exact go (Or.inr k)
      · rw [if_neg k, if_pos rfl]
        refine ⟨bits, hc, hm, ?_, Or.inl ⟨hb.1, hb.2, rfl, S, rfl, Int.le_refl _⟩⟩
        by_cases z : (900 : Int) ≤ (i : Int)
        · rw [if_pos z]
        · rw [if_neg z, if_neg (show ¬ (i : Int) = 0 by omega), if_pos (show ¬ hc.1 2 6 = 2 from fun y => k (tn.mp y))]
theorem tk_way (S : SG hc hm) : ∃ r hc' hm', DX4_takeWay hc = some (r, hc') ∧ (((12 ≤ hm.1 212 9 ∧ hm.1 212 9 ≤ 15) ∧ r = hm.1 212 9 - 11 ∧ DX10_next hm = some (0, hm') ∧ SG hc' hm' ∧ hm.1 212 6 < hm'.1 212 6 ∧ hm'.1 216 = hm.1 216) ∨ (¬ (12 ≤ hm.1 212 9 ∧ hm.1 212 9 ≤ 15) ∧ r = -1 ∧ DX10_fails 2 hm = some (0, hm') ∧ BD hc' hm' ∧ fr (fun i k => i = 2) hc hc')) := by
  have t1 := tk_word (i := 12) (by decide) S.1 S.2.1
  have t2 := tk_word (i := 13) (by decide) S.1 S.2.1
  have t3 := tk_word (i := 14) (by decide) S.1 S.2.1
  have t4 := tk_word (i := 15) (by decide) S.1 S.2.1
  rw [show kwS 12 = 6 from rfl] at t1
  rw [show kwS 13 = 7 from rfl] at t2
  rw [show kwS 14 = 8 from rfl] at t3
  rw [show kwS 15 = 9 from rfl] at t4
  have ec : DX4_takeWay hc = DX4_takeWay_b55 (if 12 ≤ hm.1 212 9 ∧ hm.1 212 9 ≤ 15 then hm.1 212 9 - 11 else -1) hc := by
    unfold DX4_takeWay
    simp only [t1, t2, t3, t4, qbd_some]
    generalize hm.1 212 9 = k at *
    by_cases a : k = 12
    · subst a; rfl
    · rw [if_neg (show ¬ k = ((12 : Nat) : Int) from a), if_pos rfl]
      by_cases b : k = 13
      · subst b; rfl
      · rw [if_neg (show ¬ k = ((13 : Nat) : Int) from b), if_pos rfl]
        by_cases c : k = 14
        · subst c; rfl
        · rw [if_neg (show ¬ k = ((14 : Nat) : Int) from c), if_pos rfl]
          by_cases d : k = 15
          · subst d; rfl
          · rw [if_neg (show ¬ k = ((15 : Nat) : Int) from d), if_pos rfl, if_neg (show ¬ (12 ≤ k ∧ k ≤ 15) by omega)]
  rw [ec]
  unfold DX4_takeWay_b55
  by_cases e : 12 ≤ hm.1 212 9 ∧ hm.1 212 9 ≤ 15
  · obtain ⟨h1, h2, e1, e2, S1, n1, n2, f1⟩ := S.adv (by omega)
    rw [if_pos e, if_pos (show ¬ hm.1 212 9 - 11 = -1 by omega), e1, qbd_some]
    exact ⟨_, h1, h2, rfl, Or.inl ⟨e, rfl, e2, S1, n1, n2⟩⟩
  · obtain ⟨h1, h2, e1, e2, b, f1, f2⟩ := tk_rf S.1 S.2.1 S.2.2.1 (w := 2) (by decide)
    rw [if_neg e, if_neg (show ¬ ¬ (-1 : Int) = -1 by decide), e1, qbd_some]
    exact ⟨_, h1, h2, rfl, Or.inr ⟨e, rfl, e2, b, f1.mono (fun i k g => by omega)⟩⟩
/-- a shore written down by both -/
theorem shore_wr {s c : Nat} {way set : Int} (S : SG hc hm) (hs : hm.1 216 4 = (s : Int)) (hs6 : s < 6) (x2 : (c : Int) < hm.1 216 1 * hm.1 216 2) (x3 : hm.1 216 (14 + c) = 0) (hw : 1 ≤ way ∧ way ≤ 4) (hset : 0 ≤ set ∧ set < 64) :
    ∃ hc' hm', (if hc.2.2.2.2 = true then (if 0 ≤ (c : Int) ∧ (c : Int) < 36 then qlt (qu hc 17 (c : Int).toNat (qw (10 + (s : Int)))) fun h26 => (if h26.2.2.2.2 = true then (if 0 ≤ (s : Int) ∧ (s : Int) < 6 then qlt (qu h26 19 (s : Int).toNat (c : Int)) fun h27 => (if h27.2.2.2.2 = true then (if 0 ≤ (s : Int) ∧ (s : Int) < 6 then qlt (qu h27 20 (s : Int).toNat way) fun h28 => (if h28.2.2.2.2 = true then (if 0 ≤ (s : Int) ∧ (s : Int) < 6 then qlt (qu h28 22 (s : Int).toNat set) fun h29 => (if h29.2.2.2.2 = true then (qlt (qu h29 16 14 (qw (h29.1 16 14 + 1))) fun h30 => some (1, h30)) else none) else none) else none) else none) else none) else none) else none) else none) else none) = some ((1 : Int), hc') ∧
      DX10_readShore_b176 (s : Int) (c : Int) way set hm = some (0, hm') ∧ SG hc' hm' ∧ hm'.1 212 6 = hm.1 212 6 := by
  have bf : hc.2.2.2.2 = true := by rw [S.1.1]
  have w := S.2.2.1
  have G := S.2.2.2.2.2.1.1
  have cc := G.cells
  obtain ⟨Q1, Q2, Q3, Q4, Q5, Q6, Q7⟩ := S.2.2.2.2.2.2
  have l0 := S.2.2.2.2.2.1.2.1
  have q14 : hc.1 16 14 = (s : Int) := by rw [Q1.1.2.2, hs]
  rw [if_pos bf, if_pos (show 0 ≤ (c : Int) ∧ (c : Int) < 36 by omega), Int.toNat_natCast, Int.toNat_natCast, qw_e (x := 10 + (s : Int)) (by omega) (by omega)]
  unfold DX10_readShore_b176
  simp only [qlt]
  rw [if_pos w, qw_e (x := 14 + (c : Int)) (by omega) (by omega), if_pos (show 0 ≤ 14 + (c : Int) ∧ 14 + (c : Int) < 1912 by omega), qw_e (x := 10 + (s : Int)) (by omega) (by omega), qw_e (x := 266 + (s : Int)) (by omega) (by omega), if_pos (show 0 ≤ 266 + (s : Int) ∧ 266 + (s : Int) < 1912 by omega), qw_e (x := 272 + (s : Int)) (by omega) (by omega), if_pos (show 0 ≤ 272 + (s : Int) ∧ 272 + (s : Int) < 1912 by omega), qw_e (x := 278 + (s : Int)) (by omega) (by omega), if_pos (show 0 ≤ 278 + (s : Int) ∧ 278 + (s : Int) < 1912 by omega), show (14 + (c : Int)).toNat = 14 + c by omega, show (266 + (s : Int)).toNat = 266 + s by omega, show (272 + (s : Int)).toNat = 272 + s by omega, show (278 + (s : Int)).toNat = 278 + s by omega]
  have b1 : (qu hc 17 c (10 + (s : Int))).2.2.2.2 = true := bf
  have b2 : (qu (qu hc 17 c (10 + (s : Int))) 19 s (c : Int)).2.2.2.2 = true := bf
  have b3 : (qu (qu (qu hc 17 c (10 + (s : Int))) 19 s (c : Int)) 20 s way).2.2.2.2 = true := bf
  have b4 : (qu (qu (qu (qu hc 17 c (10 + (s : Int))) 19 s (c : Int)) 20 s way) 22 s set).2.2.2.2 = true := bf
  have u14 : (qu (qu (qu (qu hc 17 c (10 + (s : Int))) 19 s (c : Int)) 20 s way) 22 s set).1 16 14 = (s : Int) := by
    rw [qu_ne (by decide), qu_ne (by decide), qu_ne (by decide), qu_ne (by decide)]; exact q14
  have v4 : (qu (qu (qu (qu hm 216 (14 + c) (10 + (s : Int))) 216 (266 + s) (c : Int)) 216 (272 + s) way) 216 (278 + s) set).1 216 4 = (s : Int) := by
    rw [qu_s, up_n _ _ (by omega), qu_s, up_n _ _ (by omega), qu_s, up_n _ _ (by omega), qu_s, up_n _ _ (by omega)]; exact hs
  rw [if_pos b1, if_pos (show 0 ≤ (s : Int) ∧ (s : Int) < 6 by omega), if_pos b2, if_pos (show 0 ≤ (s : Int) ∧ (s : Int) < 6 by omega), if_pos b3, if_pos (show 0 ≤ (s : Int) ∧ (s : Int) < 6 by omega), if_pos b4, u14, v4, qw_s (by omega)]
  have f : fr (fun i _ => 16 ≤ i ∧ i ≤ 22) hc (qu (qu (qu (qu (qu hc 17 c (10 + (s : Int))) 19 s (c : Int)) 20 s way) 22 s set) 16 14 ((s + 1 : Nat) : Int)) := fr_q (fr_q (fr_q (fr_q (fr_q fr.rf (by omega)) (by omega)) (by omega)) (by omega)) (by omega)
  have g : fr (fun i k => i = 216 ∧ k < 284) hm (qu (qu (qu (qu (qu hm 216 (14 + c) (10 + (s : Int))) 216 (266 + s) (c : Int)) 216 (272 + s) way) 216 (278 + s) set) 216 4 ((s + 1 : Nat) : Int)) := fr_q (fr_q (fr_q (fr_q (fr_q fr.rf (by omega)) (by omega)) (by omega)) (by omega)) (by omega)
  have y4 : (qu (qu (qu (qu (qu hm 216 (14 + c) (10 + (s : Int))) 216 (266 + s) (c : Int)) 216 (272 + s) way) 216 (278 + s) set) 216 4 ((s + 1 : Nat) : Int)).1 216 4 = ((s + 1 : Nat) : Int) := by rw [qu_s, up_s]
  have yc : (qu (qu (qu (qu (qu hm 216 (14 + c) (10 + (s : Int))) 216 (266 + s) (c : Int)) 216 (272 + s) way) 216 (278 + s) set) 216 4 ((s + 1 : Nat) : Int)).1 216 (14 + c) = 10 + (s : Int) := by
    rw [qu_s, up_n _ _ (by omega), qu_s, up_n _ _ (by omega), qu_s, up_n _ _ (by omega), qu_s, up_n _ _ (by omega), qu_s, up_s]
  have y66 : (qu (qu (qu (qu (qu hm 216 (14 + c) (10 + (s : Int))) 216 (266 + s) (c : Int)) 216 (272 + s) way) 216 (278 + s) set) 216 4 ((s + 1 : Nat) : Int)).1 216 (266 + s) = (c : Int) := by
    rw [qu_s, up_n _ _ (by omega), qu_s, up_n _ _ (by omega), qu_s, up_n _ _ (by omega), qu_s, up_s]
  have y72 : (qu (qu (qu (qu (qu hm 216 (14 + c) (10 + (s : Int))) 216 (266 + s) (c : Int)) 216 (272 + s) way) 216 (278 + s) set) 216 4 ((s + 1 : Nat) : Int)).1 216 (272 + s) = way := by
    rw [qu_s, up_n _ _ (by omega), qu_s, up_n _ _ (by omega), qu_s, up_s]
  have y78 : (qu (qu (qu (qu (qu hm 216 (14 + c) (10 + (s : Int))) 216 (266 + s) (c : Int)) 216 (272 + s) way) 216 (278 + s) set) 216 4 ((s + 1 : Nat) : Int)).1 216 (278 + s) = set := by
    rw [qu_s, up_n _ _ (by omega), qu_s, up_s]
  have y1 : ∀ k, ¬ k = 4 → ¬ k = 14 + c → ¬ k = 266 + s → ¬ k = 272 + s → ¬ k = 278 + s → (qu (qu (qu (qu (qu hm 216 (14 + c) (10 + (s : Int))) 216 (266 + s) (c : Int)) 216 (272 + s) way) 216 (278 + s) set) 216 4 ((s + 1 : Nat) : Int)).1 216 k = hm.1 216 k := fun k k1 k2 k3 k4 k5 => by
    rw [qu_s, up_n _ _ k1, qu_s, up_n _ _ k5, qu_s, up_n _ _ k4, qu_s, up_n _ _ k3, qu_s, up_n _ _ k2]
  have c14 : (qu (qu (qu (qu (qu hc 17 c (10 + (s : Int))) 19 s (c : Int)) 20 s way) 22 s set) 16 14 ((s + 1 : Nat) : Int)).1 16 14 = ((s + 1 : Nat) : Int) := by rw [qu_s, up_s]
  have c16 : ∀ k, ¬ k = 14 → (qu (qu (qu (qu (qu hc 17 c (10 + (s : Int))) 19 s (c : Int)) 20 s way) 22 s set) 16 14 ((s + 1 : Nat) : Int)).1 16 k = hc.1 16 k := fun k hk => by rw [qu_s, up_n _ _ hk, qu_ne (by decide), qu_ne (by decide), qu_ne (by decide), qu_ne (by decide)]
  have c17 : ∀ k, (qu (qu (qu (qu (qu hc 17 c (10 + (s : Int))) 19 s (c : Int)) 20 s way) 22 s set) 16 14 ((s + 1 : Nat) : Int)).1 17 k = if k = c then 10 + (s : Int) else hc.1 17 k := fun k => by rw [qu_ne (by decide), qu_ne (by decide), qu_ne (by decide), qu_ne (by decide), qu_s]; rfl
  have c19 : ∀ k, (qu (qu (qu (qu (qu hc 17 c (10 + (s : Int))) 19 s (c : Int)) 20 s way) 22 s set) 16 14 ((s + 1 : Nat) : Int)).1 19 k = if k = s then (c : Int) else hc.1 19 k := fun k => by rw [qu_ne (by decide), qu_ne (by decide), qu_ne (by decide), qu_s, qu_ne (by decide)]; rfl
  have c20 : ∀ k, (qu (qu (qu (qu (qu hc 17 c (10 + (s : Int))) 19 s (c : Int)) 20 s way) 22 s set) 16 14 ((s + 1 : Nat) : Int)).1 20 k = if k = s then way else hc.1 20 k := fun k => by rw [qu_ne (by decide), qu_ne (by decide), qu_s, qu_ne (by decide), qu_ne (by decide)]; rfl
  have c22 : ∀ k, (qu (qu (qu (qu (qu hc 17 c (10 + (s : Int))) 19 s (c : Int)) 20 s way) 22 s set) 16 14 ((s + 1 : Nat) : Int)).1 22 k = if k = s then set else hc.1 22 k := fun k => by rw [qu_ne (by decide), qu_s, qu_ne (by decide), qu_ne (by decide), qu_ne (by decide)]; rfl
  have c2 : ∀ i, (i = 18 ∨ i = 23) → (qu (qu (qu (qu (qu hc 17 c (10 + (s : Int))) 19 s (c : Int)) 20 s way) 22 s set) 16 14 ((s + 1 : Nat) : Int)).1 i = hc.1 i := fun i hi => by rw [qu_ne (by omega), qu_ne (by omega), qu_ne (by omega), qu_ne (by omega), qu_ne (by omega)]
  generalize qu (qu (qu (qu (qu hm 216 (14 + c) (10 + (s : Int))) 216 (266 + s) (c : Int)) 216 (272 + s) way) 216 (278 + s) set) 216 4 ((s + 1 : Nat) : Int) = hY at *
  generalize qu (qu (qu (qu (qu hc 17 c (10 + (s : Int))) 19 s (c : Int)) 20 s way) 22 s set) 16 14 ((s + 1 : Nat) : Int) = hX at *
  have p6 : hY.1 212 6 = hm.1 212 6 := g.at _ _ (by omega)
  have yl : ∀ k, k < 14 → ¬ k = 4 → hY.1 216 k = hm.1 216 k := fun k a b => y1 k b (by omega) (by omega) (by omega) (by omega)
  have yh : ∀ k, 284 ≤ k → hY.1 216 k = hm.1 216 k := fun k a => y1 k (by omega) (by omega) (by omega) (by omega) (by omega)
  refine ⟨hX, hY, rfl, rfl, S.wr f g ?_ (by rw [yl 0 (by omega) (by omega)]; exact l0) (fun k a b => yl k b (by omega)) ?_, p6⟩
  · obtain ⟨G1, G2, G3, G4, G5, G6, G7, G8, G9, G10, G11⟩ := G
    refine ⟨by rw [yl 1 (by omega) (by omega), yl 2 (by omega) (by omega)]; exact G1, by rw [yl 3 (by omega) (by omega)]; exact G2, by rw [y4]; omega, by rw [yl 5 (by omega) (by omega)]; exact G4, by rw [yl 6 (by omega) (by omega)]; exact G5, by rw [yl 7 (by omega) (by omega)]; exact G6, fun k hk => ?_, fun j hj => ?_, fun q hq => ?_, okl_cg (by decide) (fun k hk => by rcases hk with hk | hk; exact yl k hk.2 (by omega); exact yh k (by omega)) G10, okl_cg (by decide) (fun k hk => by rcases hk with hk | hk; exact yl k hk.2 (by omega); exact yh k (by omega)) G11⟩
    · rw [y4]
      by_cases e : k = c
      · rw [e, yc]; omega
      · rw [y1 (14 + k) (by omega) (by omega) (by omega) (by omega) (by omega)]
        have := G7 k hk
        omega
    · rw [y1 (50 + j) (by omega) (by omega) (by omega) (by omega) (by omega)]; exact G8 j hj
    · rw [y4] at hq
      rw [yl 1 (by omega) (by omega), yl 2 (by omega) (by omega)]
      by_cases e : q = s
      · rw [e, y66, y72, y78, Int.toNat_natCast, yc]
        omega
      · have g9 := G9 q (by omega)
        rw [y1 (266 + q) (by omega) (by omega) (by omega) (by omega) (by omega), y1 (272 + q) (by omega) (by omega) (by omega) (by omega) (by omega), y1 (278 + q) (by omega) (by omega) (by omega) (by omega) (by omega), y1 (14 + (hm.1 216 (266 + q)).toNat) (by omega) (fun z => ?_) (by omega) (by omega) (by omega)]
        · exact g9
        · have z2 : (hm.1 216 (266 + q)).toNat = c := by omega
          rw [z2] at g9
          omega
  · refine ⟨⟨⟨by rw [c16 11 (by decide), yl 1 (by omega) (by omega)]; exact Q1.1.1, by rw [c16 12 (by decide), yl 2 (by omega) (by omega)]; exact Q1.1.2.1, by rw [c14, y4]⟩, fun k hk => ?_, fun q hq => ?_⟩, by rw [c16 13 (by decide), yl 3 (by omega) (by omega)]; exact Q2, ⟨by rw [c16 16 (by decide), yl 0 (by omega) (by omega)]; exact Q3.1, by rw [c16 17 (by decide), yl 5 (by omega) (by omega)]; exact Q3.2.1, by rw [c16 18 (by decide), yl 6 (by omega) (by omega)]; exact Q3.2.2.1, by rw [c16 19 (by decide), yl 7 (by omega) (by omega)]; exact Q3.2.2.2.1, ?_⟩, fun j hj => ?_, fun q hq => ?_, lr_cg (by decide) (fun k hk => by rcases hk with hk | hk; exact yl k hk.2 (by omega); exact yh k (by omega)) (fun k a b => c16 k (by omega)) (c2 23 (by omega)) Q6, lr_cg (by decide) (fun k hk => by rcases hk with hk | hk; exact yl k hk.2 (by omega); exact yh k (by omega)) (fun k a b => c16 k (by omega)) (c2 23 (by omega)) Q7⟩
    · rw [c17 k]
      by_cases e : k = c
      · rw [if_pos e, e, yc]
      · rw [if_neg e, y1 _ (by omega) (by omega) (by omega) (by omega) (by omega)]; exact Q1.2.1 k hk
    · rw [y4] at hq
      rw [c19 q, c20 q]
      by_cases e : q = s
      · rw [if_pos e, if_pos e, e, y66, y72]; exact ⟨rfl, rfl⟩
      · rw [if_neg e, if_neg e, y1 _ (by omega) (by omega) (by omega) (by omega) (by omega), y1 _ (by omega) (by omega) (by omega) (by omega) (by omega)]; exact Q1.2.2 q (by omega)
    · rw [c16 15 (by decide), yl 1 (by omega) (by omega), yl 2 (by omega) (by omega), Q3.2.2.2.2]
      refine (cnt_cg _ (fun k hk => ?_)).symm
      by_cases e : k = c
      · rw [e, yc, x3]; omega
      · rw [y1 (14 + k) (by omega) (by omega) (by omega) (by omega) (by omega)]
    · rw [c2 18 (by omega), y1 _ (by omega) (by omega) (by omega) (by omega) (by omega)]; exact Q4 j hj
    · rw [y4] at hq
      rw [c22 q]
      by_cases e : q = s
      · rw [if_pos e, e, y78]
      · rw [if_neg e, y1 _ (by omega) (by omega) (by omega) (by omega) (by omega)]; exact Q5 q (by omega)
theorem j_shore (S : SG hc hm) (k : hm.1 212 9 = 3) : JS hm (DX4_shoreLine hc) (DX10_readLine hm) := by
  have w := S.2.2.1
  have G := S.2.2.2.2.2.1.1
  have bf : hc.2.2.2.2 = true := by rw [S.1.1]
  have q14 : hc.1 16 14 = hm.1 216 4 := S.2.2.2.2.2.2.1.1.2.2
  have h4r := G.2.2.1
  have e9 : ∀ a : Int, ¬ hm.1 212 9 = a → DX10_eats a hm = some (0, hm) := fun a ha => by unfold DX10_eats; rw [ok_is w, if_neg ha, qbd_some, if_neg (show ¬ ¬ (0 : Int) = 0 by decide)]
  unfold DX4_shoreLine DX10_readLine
  rw [e9 2 (by omega), qbd_some, if_pos rfl, ok_is w, if_pos k, qbd_some, if_neg (show ¬ (1 : Int) = 0 by decide), if_pos bf]
  unfold DX10_readShore DX10_readShore_b18
  simp only [qlt]
  rw [q14, if_neg (show ¬ hm.1 216 4 < 0 by omega)]
  by_cases s6 : hm.1 216 4 < 6
  · obtain ⟨s, hs⟩ := Int.eq_ofNat_of_zero_le h4r.1
    obtain ⟨h1, h2, e1, e2, S1, n1, n2, f1⟩ := S.adv (by omega)
    rw [if_pos s6, if_pos (show ¬ hm.1 216 4 = 6 by omega), if_pos w, e1, e2, qbd_some, qbd_some]
    obtain ⟨c, h3, c', h4, e3, e4, e5⟩ := tk_cell S1 (op := 1) (Or.inr rfl)
    rw [e3, e4, qbd_some, qbd_some]
    rcases e5 with ⟨rfl, x1, x2, x3, S3, n3, n4⟩ | ⟨rfl, b, f3⟩
    · have x3 := x3 rfl
      rw [← n4] at x2 x3
      have bf3 : h3.2.2.2.2 = true := by rw [S3.1.1]
      have G3 := S3.2.2.2.2.2.1.1
      have hs4 : h4.1 216 4 = (s : Int) := by rw [n4, n2]; exact hs
      obtain ⟨c, rfl⟩ := Int.eq_ofNat_of_zero_le x1
      rw [Int.toNat_natCast] at x3
      rw [if_pos bf3, q_isCell G3 S3.2.2.2.2.2.2.1, qbd_some, if_pos (show 0 ≤ (c : Int) ∧ (c : Int) < h4.1 216 1 * h4.1 216 2 from ⟨x1, x2⟩), if_neg (show ¬ (1 : Int) = 0 by decide)]
      obtain ⟨r, h5, h6, e6, e7⟩ := tk_tw (i := 4) (by decide) S3.1 S3.2.1 S3.2.2.1
      rw [show kwS 4 = 5 from rfl] at e6
      rw [show (((4 : Nat) : Int)) = 4 from rfl] at e7
      rw [e6, qbd_some]
      rcases e7 with ⟨rfl, e7, T5, t5, g5, a5, f5, f6⟩ | ⟨rfl, e7, e8, b, f5, f6⟩
      · have S5 := S3.tok T5 t5 f5 f6 (fun i k g => by omega) (fun i k g => by omega) (by omega)
        have m65 : h6.1 216 = h4.1 216 := f6.fn (fun k => by omega)
        rw [e7, qbd_some, if_pos (show ¬ (1 : Int) = 0 by decide), if_pos (show ¬ (1 : Int) = 0 by decide)]
        unfold DX10_readShore_b49 DX10_readShore_b78
        simp only [qlt]
        rw [if_neg (show ¬ ¬ h6.1 212 11 = 0 from fun z => z g5), m_within, qbd_some]
        obtain ⟨wy, h7, h8, e10, e11⟩ := tk_way S5
        rw [e10, qbd_some]
        rcases e11 with ⟨wr, rfl, e11, S7, a7, m67⟩ | ⟨wr, rfl, e11, b, f7⟩
        · rw [if_pos wr, if_pos (show ¬ (1 : Int) = 0 by decide), if_neg (show ¬ ¬ h6.1 212 11 = 0 from fun z => z g5), e11, qbd_some, if_neg (show ¬ h6.1 212 9 - 11 = -1 by omega), qw_e (x := h6.1 212 9 - 12) (by omega) (by omega), qw_e (x := h6.1 212 9 - 12 + 1) (by omega) (by omega), show h6.1 212 9 - 12 + 1 = h6.1 212 9 - 11 by omega]
          generalize hwy : h6.1 212 9 - 11 = way at *
          unfold DX10_readShore_b99
          obtain ⟨r, h9, h10, e12, e13⟩ := tk_tw (i := 5) (by decide) S7.1 S7.2.1 S7.2.2.1
          rw [show kwS 5 = 10 from rfl] at e12
          rw [show (((5 : Nat) : Int)) = 5 from rfl] at e13
          rw [e12, qbd_some]
          rcases e13 with ⟨rfl, e13, T9, t9, g9, a9, f9, f10⟩ | ⟨rfl, e13, e14, b, f9, f10⟩
          · have S9 := S7.tok T9 t9 f9 f10 (fun i k g => by omega) (fun i k g => by omega) (by omega)
            have m69 : h10.1 216 = h8.1 216 := f10.fn (fun k => by omega)
            have tp9 := tk_pos t9
            rw [e13, qbd_some, if_pos (show ¬ (1 : Int) = 0 by decide), if_pos (show ¬ (1 : Int) = 0 by decide)]
            unfold DX4_takeWalks
            have K := walks_l (a1 := (s : Int)) (a2 := (c : Int)) (a3 := way) 901 0 LF LF 0 h9 h10 (by omega) (by unfold LF; omega) (by unfold LF; omega) (fun z => by omega) (by omega) (by omega) S9
            rw [z0, if_pos rfl] at K
            obtain ⟨r, h11, h12, k1, k2⟩ := K
            rw [k1, qbd_some, hs]
            rcases k2 with ⟨r0, r1, k2, S11, m611, a11⟩ | ⟨rfl, k2, b, f11⟩
            · have mm : h12.1 216 = h4.1 216 := by rw [m611, m69, m67, m65]
              obtain ⟨h13, h14, z1, z2, S13, p6⟩ := shore_wr (s := s) (c := c) (way := way) (set := r) S11 (by rw [mm]; exact hs4) (by omega) (by rw [mm]; exact x2) (by rw [mm]; exact x3) (by omega) ⟨r0, r1⟩
              rw [k2, z2, qbd_some, if_pos (show ¬ r = -1 by omega)]
              simp only [qlt] at z1
              rw [z1]
              exact JS.good rfl rfl S13 (by omega)
            · rw [k2, qbd_some, if_neg (show ¬ ¬ (-1 : Int) = -1 by decide)]
              exact JS.bad rfl rfl (S9.sb b f11 (fun i k z => by omega))
          · obtain ⟨FF, hFF⟩ : ∃ n, LF = n + 1 := ⟨LF - 1, by unfold LF; omega⟩
            rw [e13, qbd_some, if_neg (show ¬ ¬ (0 : Int) = 0 by decide), if_neg (show ¬ ¬ (0 : Int) = 0 by decide), e14, qbd_some, hFF, l118_in b.w, qbd_some]
            exact JS.bad rfl rfl (S7.sb b f9 (fun i k z => by omega))
        · rw [if_neg wr, if_neg (show ¬ ¬ (0 : Int) = 0 by decide), e11, qbd_some, if_pos rfl, if_pos b.w, b99_in b.w, qbd_some]
          exact JS.bad rfl rfl (S5.sb b f7 (fun i k z => by omega))
      · rw [e7, qbd_some, if_neg (show ¬ ¬ (0 : Int) = 0 by decide), if_neg (show ¬ ¬ (0 : Int) = 0 by decide), e8, qbd_some, b49_in b.w, qbd_some]
        exact JS.bad rfl rfl (S3.sb b f5 (fun i k z => by omega))
    · have S1b := S1.sb b f3 (fun i k z => by omega)
      have bf3 : h3.2.2.2.2 = true := by rw [b.1]
      obtain ⟨A, GA, M⟩ := S1b.2
      rw [if_pos bf3, q_isCell GA M, qbd_some, if_neg (show ¬ (0 ≤ (-1 : Int) ∧ (-1 : Int) < A 1 * A 2) from fun z => absurd z.1 (by decide)), if_pos rfl, in_eats b.w, qbd_some, if_neg (show ¬ ¬ (0 : Int) = 0 by decide), in_fails b.w, qbd_some, b49_in b.w, qbd_some]
      exact JS.bad rfl rfl S1b
  · obtain ⟨h1, h2, e1, e2, b, f1, f2⟩ := tk_rf S.1 S.2.1 w (w := 4) (by decide)
    rw [if_neg s6, if_neg (show ¬ ¬ hm.1 216 4 = 6 by omega), e1, e2, qbd_some, qbd_some, if_pos (Or.inl rfl), if_neg b.w, qbd_some]
    exact JS.bad rfl rfl (S.sb b f1 (fun i k z => by omega))
end sh
