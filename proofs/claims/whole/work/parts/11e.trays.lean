/-! ===== numbers, write ===== -/
theorem RR.trays {n : Int} {A : Nat → Int} {hc hc' hm hm' : qH} {Pc Pm : Nat → Nat → Prop} (R : RR n A hc hm) (E : cE hc' A (-1)) (O : cO hc' A) (fc : fr Pc hc hc') (pc : ∀ i k, (i ≤ 1 ∨ (i = 2 ∧ 1 ≤ k ∧ k < 3) ∨ (24 ≤ i ∧ i ≤ 33) ∨ (44 ≤ i ∧ i ≤ 155) ∨ i = 167 ∨ (176 ≤ i ∧ i < 212)) → ¬ Pc i k)
    (fm : fr Pm hm hm') (pm : ∀ i k, ((213 ≤ i ∧ i ≤ 215) ∨ (i = 212 ∧ (k = 5 ∨ k = 13 ∨ k = 14 ∨ k = 19))) → ¬ Pm i k) (Y : YA hc' hm') : RR n A hc' hm' := by
  obtain ⟨r1, r2, ⟨r3, r3'⟩, r4, r5, r6, r7, r8, r9⟩ := R
  have c : ∀ i, (i ≤ 1 ∨ (24 ≤ i ∧ i ≤ 33) ∨ (44 ≤ i ∧ i ≤ 155) ∨ i = 167 ∨ (176 ≤ i ∧ i < 212)) → hc'.1 i = hc.1 i := fun i hi => fc.fn (fun k => pc i k (by omega))
  have m : ∀ i, (213 ≤ i ∧ i ≤ 215) → hm'.1 i = hm.1 i := fun i hi => fm.fn (fun k => pm i k (by omega))
  have m2 : ∀ k, (k = 5 ∨ k = 13 ∨ k = 14 ∨ k = 19) → hm'.1 212 k = hm.1 212 k := fun k hk => fm.at 212 k (pm 212 k (by omega))
  have m13 := m 213 (by omega)
  refine ⟨E, O, ⟨by rw [m13]; exact r3, by rw [m2 19 (by omega)]; exact r3'⟩, ?_, r5.cg (fun i a b => c i (by omega)) m13, r6.cg (by rw [c 0 (by omega)]) (c 1 (by omega)) (m2 5 (by omega)) (m 215 (by omega)), r7.cg (fc.at 2 1 (pc 2 1 (by omega))) (fc.at 2 2 (pc 2 2 (by omega))) (m2 13 (by omega)) (m2 14 (by omega)), Y, r9.cg (fun i a b => c i (by omega)) m13 (m 214 (by omega))⟩
  rw [m13]
  exact r4.cg (fun i a b => c i (by omega))
theorem fr.mk {P : Nat → Nat → Prop} {h h' : qH} (a : ∀ i k, ¬ P i k → h'.1 i k = h.1 i k) (b : h'.2 = h.2) : fr P h h' := ⟨a, fun _ => by rw [b], fun _ => by rw [b], fun _ => by rw [b]⟩
section nums
variable {n : Int} {A : Nat → Int} {hc hm : qH}
theorem t_numbers (R : RR n A hc hm) (a s m : Int) : Out n (DX9_numbers a s m hc) (DX10_numbers a s m hm) := by
  have R1 := R.m0
  unfold DX9_numbers DX10_numbers
  simp only [qlt]
  generalize qu hm 212 0 0 = hm1 at R1
  rw [c_isTray, m_within]
  simp only [qbd_some]
  by_cases k : 0 ≤ a ∧ a < 4
  · rw [if_pos k, if_pos (show 0 ≤ a ∧ a ≤ 3 by omega), if_neg (show ¬ (1 : Int) = 0 by decide), if_neg (show ¬ (1 : Int) = 0 by decide), m_within]
    simp only [qbd_some]
    by_cases k2 : 0 ≤ s ∧ s < 4
    · rw [if_neg (show ¬ s < 0 by omega), if_pos k2.2, if_pos (show 0 ≤ s ∧ s ≤ 3 by omega), if_pos (show ¬ (1 : Int) = 0 by decide), m_within]
      simp only [qbd_some]
      by_cases k3 : 0 ≤ m ∧ m ≤ 40
      · simp only [if_pos k]
        rw [if_neg (show ¬ m < 0 by omega), if_pos k3.2, if_pos k3, if_pos (show ¬ (1 : Int) = 0 by decide)]
        unfold DX6_become
        simp only [qlt]
        obtain ⟨t, rfl⟩ := Int.eq_ofNat_of_zero_le k.1
        obtain ⟨sz, rfl⟩ := Int.eq_ofNat_of_zero_le k3.1
        have ht : t < 4 := by omega
        simp only [Int.ofNat_eq_natCast, Int.toNat_natCast] at *
        obtain ⟨h1, e1, e2, e3, e4⟩ := fill_l (i0 := 168 + 2 * t + 1) (a1 := 0) 40 0 LF 40 (qu (qu hc (168 + 2 * t) 1 s) (168 + 2 * t) 2 (sz : Int)) rfl (by omega) (by unfold LF; omega)
        obtain ⟨h2, g1, g2, g3⟩ := m_num_l ht sz 0 LF sz (qu (qu hm1 222 t s) 223 t (sz : Int)) (by omega) (by omega) (by unfold LF; omega)
        have e1' : DJ7_fill_d0a16 (168 + 2 * t + 1) 40 0 (qu (qu hc (168 + 2 * t) 1 s) (168 + 2 * t) 2 (sz : Int)) = some (0, h1) := e1
        have g1' : DX10_numbers_l64 LF (t : Int) (sz : Int) 0 (qu (qu hm1 222 t s) 223 t (sz : Int)) = some (0, h2) := g1
        rw [e1', g1']
        simp only [qbd_some]
        have c1 : ∀ i j, ¬ (i = 168 + 2 * t ∧ (j = 1 ∨ j = 2)) → ¬ (i = 169 + 2 * t ∧ j < 40) → h1.1 i j = hc.1 i j := by
          intro i j q1 q2
          rw [e3 i j (by omega), qu_1, if_neg (by omega), qu_1, if_neg (by omega)]
        have d1 : ∀ i j, ¬ (i = 222 ∧ j = t) → ¬ (i = 223 ∧ j = t) → ¬ (i = 224 ∧ 40 * t ≤ j ∧ j < 40 * t + sz) → h2.1 i j = hm1.1 i j := by
          intro i j q1 q2 q3
          rw [g3 i j (by omega), qu_1, if_neg (by omega), qu_1, if_neg (by omega)]
        have fc : fr (fun i j => 168 ≤ i ∧ i ≤ 175) hc h1 := fr.mk (fun i j q => c1 i j (by omega) (by omega)) e4
        have f2 := F_DX10_numbers_l64 LF (t : Int) (sz : Int) 0 _ _ _ g1'
        have fm : fr (fun i j => 222 ≤ i ∧ i ≤ 224) hm1 h2 := by
          refine ⟨fun i j q => d1 i j (by omega) (by omega) (by omega), fun _ => f2.2.1 (by omega), fun _ => f2.2.2.1 (by omega), fun _ => f2.2.2.2 (by omega)⟩
        refine ⟨0, h1, h2, A, rfl, rfl, ?_⟩
        refine RR.grow (n := n) ?_ (by omega)
        refine R1.trays (R1.1.kq fc (fun i k a b => by omega) (fun k => by omega)) (R1.2.1.cg (fc.fn (fun k => by omega)) (fc.2.2.1 (by omega))) fc (fun i k g => by omega) fm (fun i k g => by omega) ?_
        intro u hu
        have yu := R1.2.2.2.2.2.2.2.1 u hu
        by_cases eu : u = t
        · subst eu
          have x1 : h1.1 (168 + 2 * u) 1 = s := by rw [e3 _ _ (by omega), qu_1, if_neg (by omega), qu_s, up_s]
          have x2 : h1.1 (168 + 2 * u) 2 = sz := by rw [e3 _ _ (by omega), qu_s, up_s]
          have y1 : h2.1 222 u = s := by rw [g3 _ _ (by omega), qu_ne (by decide), qu_s, up_s]
          have y2 : h2.1 223 u = sz := by rw [g3 _ _ (by omega), qu_s, up_s]
          rw [x1, x2, y1, y2]
          refine ⟨rfl, rfl, by omega, by omega, fun j hj => ?_⟩
          rw [g2 j (by omega) (by omega), show 169 + 2 * u = 168 + 2 * u + 1 by omega]
          exact e2 j (by omega) (by omega)
        · rw [c1 (168 + 2 * u) 1 (by omega) (by omega), c1 (168 + 2 * u) 2 (by omega) (by omega), d1 222 u (by omega) (by omega) (by omega), d1 223 u (by omega) (by omega) (by omega)]
          refine ⟨yu.1, yu.2.1, yu.2.2.1, yu.2.2.2.1, fun j hj => ?_⟩
          have y4 := yu.2.2.2.1
          rw [c1 (169 + 2 * u) j (by omega) (by omega), d1 224 (40 * u + j) (by omega) (by omega) (by omega)]
          exact yu.2.2.2.2 j hj
      · rw [if_neg k3]
        by_cases p1 : m < 0
        · rw [if_pos p1]
          exact Out.of R1 rfl rfl
        · rw [if_neg p1, if_neg (show ¬ m ≤ 40 by omega)]
          exact Out.of R1 rfl rfl
    · rw [if_neg (show ¬ (0 ≤ s ∧ s ≤ 3) by omega)]
      by_cases p1 : s < 0
      · rw [if_pos p1]
        exact Out.of R1 rfl rfl
      · rw [if_neg p1, if_neg (show ¬ s < 4 by omega)]
        exact Out.of R1 rfl rfl
  · rw [if_neg k, if_neg (show ¬ (0 ≤ a ∧ a ≤ 3) by omega)]
    exact Out.of R1 rfl rfl
theorem t_write (R : RR n A hc hm) (a i v : Int) : Out n (DX9_write a i v hc) (DX10_write a i v hm) := by
  have R1 := R.m0
  unfold DX9_write DX10_write
  simp only [qlt]
  generalize qu hm 212 0 0 = hm1 at R1
  rw [c_isTray, m_noTray]
  simp only [qbd_some]
  by_cases k : 0 ≤ a ∧ a < 4
  · have yt := R1.2.2.2.2.2.2.2.1 a.toNat (by omega)
    simp only [if_pos k]
    rw [if_pos (show ¬ (1 : Int) = 0 by decide), c_missing, yt.1]
    simp only [qbd_some]
    by_cases km : hm1.1 222 a.toNat = -1
    · rw [if_pos km, if_pos km]
      exact Out.of R1 rfl rfl
    · rw [if_neg km, if_neg km, if_pos rfl, if_pos rfl, m_within, yt.2.1, qw_e (by omega) (by omega)]
      simp only [qbd_some]
      by_cases k2 : 0 ≤ i ∧ i < hm1.1 223 a.toNat
      · have y4 := yt.2.2.2.1
        have e13 : ∀ x : Int, DX6_cut (168 + 2 * a.toNat) x hc = DX10_cut x (hm1.1 222 a.toNat) hc := by
          intro x
          unfold DX6_cut DX10_cut
          rw [yt.1]
          (repeat' split) <;> first | rfl | contradiction
        have ecut : ∀ (x y : Int) (u w : qH), ∃ z, DX10_cut x y u = some (z, u) ∧ DX10_cut x y w = some (z, w) := by
          intro x y u w
          unfold DX10_cut
          (repeat' split) <;> exact ⟨_, rfl, rfl⟩
        obtain ⟨z, z1, z2⟩ := ecut v (hm1.1 222 a.toNat) hc hm1
        rw [if_neg (show ¬ i < 0 by omega), if_pos k2.2, if_pos (show 0 ≤ i ∧ i ≤ hm1.1 223 a.toNat - 1 by omega), if_pos (show ¬ (1 : Int) = 0 by decide), z2]
        simp only [qbd_some]
        unfold DX6_put
        rw [if_neg (show ¬ i < 0 by omega), if_neg (show ¬ 40 ≤ i by omega), e13, z1]
        simp only [qbd_some, qlt]
        rw [if_pos (show 0 ≤ i ∧ i < 40 by omega)]
        simp only [qbd_some]
        rw [c_numberAt _ _ (by omega)]
        simp only [qbd_some]
        rw [qu_s, up_s, qw_e (x := 40 * a) (by omega) (by omega), qw_e (x := 40 * a + i) (by omega) (by omega)]
        have hb : 0 ≤ 40 * a + i ∧ 40 * a + i < 160 := by omega
        simp only [if_pos hb]
        rw [qu_s, up_s]
        have fc : fr (fun x y => x = 168 + 2 * a.toNat + 1) hc (qu hc (168 + 2 * a.toNat + 1) i.toNat z) := fr.mk (fun x y q => by rw [qu_1, if_neg (fun g => q g.1)]) rfl
        have fm : fr (fun x y => x = 224) hm1 (qu hm1 224 (40 * a + i).toNat z) := fr.mk (fun x y q => by rw [qu_1, if_neg (fun g => q g.1)]) rfl
        refine Out.of (R1.trays (R1.1.kq fc (fun i k a b => by omega) (fun k => by omega)) (R1.2.1.cg (fc.fn (fun k => by omega)) (fc.2.2.1 (by omega))) fc (fun i k g => by omega) fm (fun i k g => by omega) ?_) rfl rfl
        intro u hu
        have yu := R1.2.2.2.2.2.2.2.1 u hu
        rw [qu_ne (j := 168 + 2 * u) (by omega), qu_ne (j := 222) (by decide), qu_ne (j := 223) (by decide)]
        refine ⟨yu.1, yu.2.1, yu.2.2.1, yu.2.2.2.1, fun j hj => ?_⟩
        have y5 := yu.2.2.2.1
        have y6 := yu.2.2.2.2 j hj
        rw [qu_1, qu_1, y6]
        by_cases eu : u = a.toNat ∧ j = i.toNat
        · rw [if_pos (by omega), if_pos (by omega)]
        · rw [if_neg (by omega), if_neg (by omega)]
      · rw [if_neg (show ¬ (0 ≤ i ∧ i ≤ hm1.1 223 a.toNat - 1) by omega)]
        by_cases p1 : i < 0
        · rw [if_pos p1]
          exact Out.of R1 rfl rfl
        · rw [if_neg p1, if_neg (show ¬ i < hm1.1 223 a.toNat by omega)]
          exact Out.of R1 rfl rfl
  · simp only [if_neg k]
    exact Out.of R1 rfl rfl
end nums
