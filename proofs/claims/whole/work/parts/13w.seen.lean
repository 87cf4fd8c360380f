/-! ===== what was seen: does a throw fit ===== -/
def ctR (d : Nat → Int) (lo hi : Int) : Nat → Nat → Int
  | 0, _ => 0
  | m + 1, i => (if lo ≤ d (2 * i + 1) ∧ d (2 * i + 1) ≤ hi then 1 else 0) + ctR d lo hi m (i + 1)
def agr (d : Nat → Int) (p a : Int) : Nat → Nat → Prop
  | 0, _ => True
  | m + 1, i => (d (2 * i + 1) = a → d (2 * i) = p) ∧ agr d p a m (i + 1)
theorem ctR_b {d : Nat → Int} {lo hi : Int} : ∀ m i, 0 ≤ ctR d lo hi m i ∧ ctR d lo hi m i ≤ (m : Int) := by
  intro m
  induction m with
  | zero => intro i; exact ⟨Int.le_refl _, Int.le_refl _⟩
  | succ m ih =>
    intro i
    have := ih (i + 1)
    rw [ctR.eq_2]
    split <;> omega
theorem ctR_split {d : Nat → Int} {a hi : Int} (h : a ≤ hi) : ∀ m i, ctR d a hi m i = ctR d (a + 1) hi m i + ctR d a a m i := by
  intro m
  induction m with
  | zero => intro i; rfl
  | succ m ih =>
    intro i
    have := ih (i + 1)
    rw [ctR.eq_2, ctR.eq_2, ctR.eq_2, this]
    (repeat' split) <;> omega
theorem ctR_none {d : Nat → Int} {a hi : Int} (h : hi < a) : ∀ m i, ctR d a hi m i = 0 := by
  intro m
  induction m with
  | zero => intro i; rfl
  | succ m ih =>
    intro i
    rw [ctR.eq_2, ih (i + 1), if_neg (by omega)]
    rfl
section fi
variable {n : Int} {A : Nat → Int}
theorem cf_in {t N : Nat} {d : Nat → Int} (ht : t < 4) (hN : N ≤ 4) (k7 : Nat → Int → Int → Int → qH → Option (Int × qH)) {hc : qH} {now ago : Int} {v : Nat → Int} (c2 : hc.1 (168 + 2 * t) 2 = 2 * (N : Int)) (cn : ∀ j : Nat, j < 2 * N → hc.1 (169 + 2 * t) j = d j) (hv : nb (hc.1 161) = v) : ∀ (m i F : Nat) (met : Int), i + m = N → m < F → 0 ≤ met → met ≤ (i : Int) + 4 →
    (agr d (cv_pl v) ago m i → DX8_fits_l15 k7 F (168 + 2 * t) now met ago (2 * (i : Int)) hc = (qbd (DX2_carry 161 (qw (now - ago)) hc) fun _ h2 => k7 (168 + 2 * t) now (met + ctR d ago ago m i) (qw (ago + (-1))) h2)) ∧
    (¬ agr d (cv_pl v) ago m i → DX8_fits_l15 k7 F (168 + 2 * t) now met ago (2 * (i : Int)) hc = some (0, hc)) := by
  intro m
  induction m with
  | zero =>
    intro i F met hi hF m0 m1
    obtain ⟨F, rfl⟩ : ∃ n, F = n + 1 := ⟨F - 1, by omega⟩
    rw [DX8_fits_l15.eq_2, if_pos (show hc.1 (168 + 2 * t) 2 ≤ 2 * (i : Int) by omega)]
    refine ⟨fun _ => ?_, fun g => absurd trivial g⟩
    rw [show met + ctR d ago ago 0 i = met by show met + 0 = met; omega]
  | succ m ih =>
    intro i F met hi hF m0 m1
    obtain ⟨F, rfl⟩ : ∃ n, F = n + 1 := ⟨F - 1, by omega⟩
    have d0 := cn (2 * i) (by omega)
    have d1 := cn (2 * i + 1) (by omega)
    rw [DX8_fits_l15.eq_2, if_neg (show ¬ hc.1 (168 + 2 * t) 2 ≤ 2 * (i : Int) by omega)]
    unfold DX6_numberAt
    rw [qw_e (x := 2 * (i : Int) + 1) (by omega) (by omega), if_neg (show ¬ 2 * (i : Int) + 1 < 0 by omega), if_neg (show ¬ 40 ≤ 2 * (i : Int) + 1 by omega), if_pos (show 0 ≤ 2 * (i : Int) + 1 ∧ 2 * (i : Int) + 1 < 40 by omega), qbd_some, if_neg (show ¬ 2 * (i : Int) < 0 by omega), if_neg (show ¬ 40 ≤ 2 * (i : Int) by omega), if_pos (show 0 ≤ 2 * (i : Int) ∧ 2 * (i : Int) < 40 by omega), qbd_some, c_place hv, qbd_some, show (2 * (i : Int)).toNat = 2 * i by omega, show (2 * (i : Int) + 1).toNat = 2 * i + 1 by omega, show 168 + 2 * t + 1 = 169 + 2 * t by omega, d0, d1]
    simp only [qcmp_z]
    rw [qw_e (x := 2 * (i : Int) + 2) (by omega) (by omega), show 2 * (i : Int) + 2 = 2 * ((i + 1 : Nat) : Int) by omega]
    rw [agr.eq_2, ctR.eq_2]
    by_cases e : d (2 * i + 1) = ago
    · rw [if_neg (show ¬ ¬ d (2 * i + 1) = ago from fun g => g e), if_pos (show ago ≤ d (2 * i + 1) ∧ d (2 * i + 1) ≤ ago by omega)]
      by_cases e2 : d (2 * i) = cv_pl v
      · obtain ⟨i1, i2⟩ := ih (i + 1) F (met + 1) (by omega) (by omega) (by omega) (by omega)
        rw [if_pos e2]
        simp only [qlt]
        rw [qw_e (x := met + 1) (by omega) (by omega)]
        refine ⟨fun g => ?_, fun g => i2 (fun q => g ⟨fun _ => e2, q⟩)⟩
        rw [i1 g.2, Int.add_assoc]
      · rw [if_neg e2]
        exact ⟨fun g => absurd (g.1 e) e2, fun _ => rfl⟩
    · obtain ⟨i1, i2⟩ := ih (i + 1) F met (by omega) (by omega) (by omega) (by omega)
      rw [if_pos e, if_neg (show ¬ (ago ≤ d (2 * i + 1) ∧ d (2 * i + 1) ≤ ago) by omega)]
      refine ⟨fun g => ?_, fun g => i2 (fun q => g ⟨fun z => absurd z e, q⟩)⟩
      rw [i1 g.2, Int.zero_add]
theorem mf_in {t N : Nat} {d : Nat → Int} (ht : t < 4) (hN : N ≤ 4) (k26 : Int → Int → Int → qH → Option (Int × qH)) {hm : qH} {a5 ago : Int} {v : Nat → Int} (c2 : hm.1 223 t = 2 * (N : Int)) (cn : ∀ j : Nat, j < 2 * N → hm.1 224 (40 * t + j) = d j) (hv : nb (hm.1 217) = v) : ∀ (m i F : Nat), i + m = N → m < F →
    (agr d (cv_pl v) ago m i → DX10_fits_l34 k26 F (t : Int) a5 ago (2 * (i : Int)) hm = (if ago ≤ 0 then (k26 (t : Int) a5 (qw (ago + (-1))) hm) else (qbd (DX10_goesTide (qw (hm.1 213 349 - ago)) 0 hm) fun r9 h10 => (k26 (t : Int) a5 (qw (ago + (-1))) h10)))) ∧
    (¬ agr d (cv_pl v) ago m i → DX10_fits_l34 k26 F (t : Int) a5 ago (2 * (i : Int)) hm = some (0, hm)) := by
  intro m
  induction m with
  | zero =>
    intro i F hi hF
    obtain ⟨F, rfl⟩ : ∃ n, F = n + 1 := ⟨F - 1, by omega⟩
    rw [DX10_fits_l34.eq_2, if_pos (show 0 ≤ (t : Int) ∧ (t : Int) < 4 by omega), Int.toNat_natCast, if_pos (show hm.1 223 t ≤ 2 * (i : Int) by omega)]
    exact ⟨fun _ => rfl, fun g => absurd trivial g⟩
  | succ m ih =>
    intro i F hi hF
    obtain ⟨F, rfl⟩ : ∃ n, F = n + 1 := ⟨F - 1, by omega⟩
    have d0 := cn (2 * i) (by omega)
    have d1 := cn (2 * i + 1) (by omega)
    obtain ⟨i1, i2⟩ := ih (i + 1) F (by omega) (by omega)
    rw [DX10_fits_l34.eq_2, if_pos (show 0 ≤ (t : Int) ∧ (t : Int) < 4 by omega), Int.toNat_natCast, if_neg (show ¬ hm.1 223 t ≤ 2 * (i : Int) by omega), qw_e (x := 40 * (t : Int)) (by omega) (by omega), qw_e (x := 40 * (t : Int) + 2 * (i : Int)) (by omega) (by omega), qw_e (x := 40 * (t : Int) + 2 * (i : Int) + 1) (by omega) (by omega), if_pos (show 0 ≤ 40 * (t : Int) + 2 * (i : Int) + 1 ∧ 40 * (t : Int) + 2 * (i : Int) + 1 < 160 by omega), if_pos (show 0 ≤ 40 * (t : Int) + 2 * (i : Int) ∧ 40 * (t : Int) + 2 * (i : Int) < 160 by omega), show (40 * (t : Int) + 2 * (i : Int)).toNat = 40 * t + 2 * i by omega, show (40 * (t : Int) + 2 * (i : Int) + 1).toNat = 40 * t + (2 * i + 1) by omega, m_here hv, qbd_some, d0, d1]
    simp only [qcmp_z]
    rw [qw_e (x := 2 * (i : Int) + 2) (by omega) (by omega), show 2 * (i : Int) + 2 = 2 * ((i + 1 : Nat) : Int) by omega]
    rw [agr.eq_2]
    by_cases e : d (2 * i + 1) = ago
    · rw [if_neg (show ¬ ¬ d (2 * i + 1) = ago from fun g => g e)]
      by_cases e2 : d (2 * i) = cv_pl v
      · rw [if_pos e2]
        exact ⟨fun g => i1 g.2, fun g => i2 (fun q => g ⟨fun _ => e2, q⟩)⟩
      · rw [if_neg e2]
        exact ⟨fun g => absurd (g.1 e) e2, fun _ => rfl⟩
    · rw [if_pos e]
      exact ⟨fun g => i1 g.2, fun g => i2 (fun q => g ⟨fun z => absurd z e, q⟩)⟩
theorem mf_end {t N : Nat} {d : Nat → Int} (ht : t < 4) (hN : N ≤ 4) {hm : qH} {a5 : Int} (c2 : hm.1 223 t = 2 * (N : Int)) (cn : ∀ j : Nat, j < 2 * N → hm.1 224 (40 * t + j) = d j) (dp : ∀ i : Nat, i < N → 0 ≤ d (2 * i + 1)) : ∀ (m i F : Nat), i + m = N → m < F →
    (ctR d 0 a5 m i = (m : Int) → DX10_fits_l125 F (t : Int) a5 (2 * (i : Int) + 1) hm = some (1, hm)) ∧ (¬ ctR d 0 a5 m i = (m : Int) → DX10_fits_l125 F (t : Int) a5 (2 * (i : Int) + 1) hm = some (0, hm)) := by
  intro m
  induction m with
  | zero =>
    intro i F hi hF
    obtain ⟨F, rfl⟩ : ∃ n, F = n + 1 := ⟨F - 1, by omega⟩
    rw [DX10_fits_l125.eq_2, if_pos (show 0 ≤ (t : Int) ∧ (t : Int) < 4 by omega), Int.toNat_natCast, if_pos (show hm.1 223 t ≤ 2 * (i : Int) + 1 by omega)]
    exact ⟨fun _ => rfl, fun g => absurd rfl g⟩
  | succ m ih =>
    intro i F hi hF
    obtain ⟨F, rfl⟩ : ∃ n, F = n + 1 := ⟨F - 1, by omega⟩
    have d1 := cn (2 * i + 1) (by omega)
    have dp1 := dp i (by omega)
    have cb := ctR_b (d := d) (lo := 0) (hi := a5) m (i + 1)
    obtain ⟨i1, i2⟩ := ih (i + 1) F (by omega) (by omega)
    rw [DX10_fits_l125.eq_2, if_pos (show 0 ≤ (t : Int) ∧ (t : Int) < 4 by omega), Int.toNat_natCast, if_neg (show ¬ hm.1 223 t ≤ 2 * (i : Int) + 1 by omega), qw_e (x := 40 * (t : Int)) (by omega) (by omega), qw_e (x := 40 * (t : Int) + (2 * (i : Int) + 1)) (by omega) (by omega), if_pos (show 0 ≤ 40 * (t : Int) + (2 * (i : Int) + 1) ∧ 40 * (t : Int) + (2 * (i : Int) + 1) < 160 by omega), show (40 * (t : Int) + (2 * (i : Int) + 1)).toNat = 40 * t + (2 * i + 1) by omega, d1]
    simp only [qcmp_le]
    rw [qw_e (x := 2 * (i : Int) + 1 + 2) (by omega) (by omega), show 2 * (i : Int) + 1 + 2 = 2 * ((i + 1 : Nat) : Int) + 1 by omega]
    rw [ctR.eq_2]
    by_cases e : d (2 * i + 1) ≤ a5
    · rw [if_pos e, if_pos (show 0 ≤ d (2 * i + 1) ∧ d (2 * i + 1) ≤ a5 by omega)]
      exact ⟨fun g => i1 (by omega), fun g => i2 (by omega)⟩
    · rw [if_neg e, if_neg (show ¬ (0 ≤ d (2 * i + 1) ∧ d (2 * i + 1) ≤ a5) by omega)]
      exact ⟨fun g => by omega, fun _ => rfl⟩
/-- what the reference's list holds -/
def TL (t N : Nat) (d : Nat → Int) (hm : qH) : Prop := hm.1 223 t = 2 * (N : Int) ∧ ∀ j : Nat, j < 2 * N → hm.1 224 (40 * t + j) = d j
theorem TL.cs {t N : Nat} {d : Nat → Int} {hc hm : qH} (R : RR n A hc hm) (ht : t < 4) (T : TL t N d hm) : hc.1 (168 + 2 * t) 2 = 2 * (N : Int) ∧ ∀ j : Nat, j < 2 * N → hc.1 (169 + 2 * t) j = d j := by
  obtain ⟨y1, y2, y3, y4, y5⟩ := R.2.2.2.2.2.2.2.1 t ht
  have T1 := T.1
  exact ⟨by rw [y2, T1], fun j hj => by rw [y5 j (by omega)]; exact T.2 j hj⟩
theorem TL.fm {t N : Nat} {d : Nat → Int} {h h' : qH} {P : Nat → Nat → Prop} (f : fr P h h') (p : ∀ i k, 223 ≤ i → i ≤ 224 → ¬ P i k) (T : TL t N d h) : TL t N d h' := by
  refine ⟨?_, fun j hj => ?_⟩
  · rw [f.at 223 t (p _ _ (by omega) (by omega))]
    exact T.1
  · rw [f.at 224 _ (p _ _ (by omega) (by omega))]
    exact T.2 j hj
theorem fits_l {t N : Nat} {d : Nat → Int} (ht : t < 4) (hN : N ≤ 4) (dp : ∀ i : Nat, i < N → 0 ≤ d (2 * i + 1)) {now a : Int} (hn : n ≤ 512) (ha : 0 ≤ a ∧ a ≤ 30) (han : a ≤ now) : ∀ (m Fc Fm : Nat) (N0 : Int) (v : Nat → Int) (hc hm : qH), m < Fc → m < Fm → (m : Int) ≤ a + 1 → RR n A hc hm → hm.1 213 349 = now → TL t N d hm → (1 ≤ m → nb (hc.1 161) = v ∧ nb (hm.1 217) = v ∧ cB A N0 v) → N0 + m < 100000 →
    ∃ r hc' hm', DX8_fits_l7 Fc (168 + 2 * t) now (ctR d (m : Int) a N 0) ((m : Int) - 1) hc = some (r, hc') ∧ DX10_fits_l26 Fm (t : Int) a ((m : Int) - 1) hm = some (r, hm') ∧ (r = 0 ∨ r = 1) ∧ RR n A hc' hm' := by
  intro m
  induction m with
  | zero =>
    intro Fc Fm N0 v hc hm hFc hFm hma R hnow T _ hN0
    obtain ⟨Fc, rfl⟩ : ∃ n, Fc = n + 1 := ⟨Fc - 1, by omega⟩
    obtain ⟨Fm, rfl⟩ : ∃ n, Fm = n + 1 := ⟨Fm - 1, by omega⟩
    obtain ⟨c2, cn⟩ := TL.cs R ht T
    have cb := ctR_b (d := d) (lo := 0) (hi := a) N 0
    obtain ⟨i1, i2⟩ := mf_end (a5 := a) ht hN T.1 T.2 dp N 0 LF (by omega) (by unfold LF; omega)
    rw [DX8_fits_l7.eq_2, DX10_fits_l26.eq_2, if_pos (show ((0 : Nat) : Int) - 1 < 0 by omega), if_pos (show ((0 : Nat) : Int) - 1 < 0 by omega), z0, qw_e (by omega) (by omega), c2]
    rw [z0, Int.mul_zero, Int.zero_add] at i1 i2
    by_cases e : ctR d 0 a N 0 = (N : Int)
    · rw [if_neg (show ¬ ¬ ctR d 0 a N 0 * 2 = 2 * (N : Int) by omega), i1 e]
      exact ⟨1, hc, hm, rfl, rfl, Or.inr rfl, R⟩
    · rw [if_pos (show ¬ ctR d 0 a N 0 * 2 = 2 * (N : Int) by omega), i2 e]
      exact ⟨0, hc, hm, rfl, rfl, Or.inl rfl, R⟩
  | succ m ih =>
    intro Fc Fm N0 v hc hm hFc hFm hma R hnow T V hN0
    obtain ⟨Fc, rfl⟩ : ∃ n, Fc = n + 1 := ⟨Fc - 1, by omega⟩
    obtain ⟨Fm, rfl⟩ : ∃ n, Fm = n + 1 := ⟨Fm - 1, by omega⟩
    obtain ⟨v1, v2, b⟩ := V (by omega)
    obtain ⟨c2, cn⟩ := TL.cs R ht T
    have td := R.tid
    have cb := ctR_b (d := d) (lo := (m : Int) + 1) (hi := a) N 0
    have cs := ctR_split (d := d) (a := (m : Int)) (hi := a) (by omega) N 0
    rw [show ((m + 1 : Nat) : Int) = (m : Int) + 1 by omega, show (m : Int) + 1 - 1 = (m : Int) by omega]
    rw [DX8_fits_l7.eq_2, DX10_fits_l26.eq_2, if_neg (show ¬ (m : Int) < 0 by omega), if_neg (show ¬ (m : Int) < 0 by omega)]
    obtain ⟨p1, p2⟩ := cf_in (now := now) (ago := (m : Int)) (v := v) ht hN (DX8_fits_l7 Fc) c2 cn v1 N 0 LF (ctR d ((m : Int) + 1) a N 0) (by omega) (by unfold LF; omega) cb.1 (by omega)
    obtain ⟨q1, q2⟩ := mf_in (a5 := a) (ago := (m : Int)) (v := v) ht hN (DX10_fits_l26 Fm) T.1 T.2 v2 N 0 LF (by omega) (by unfold LF; omega)
    rw [z0, Int.mul_zero] at p1 p2 q1 q2
    by_cases e : agr d (cv_pl v) (m : Int) N 0
    · rw [p1 e, q1 e, ← cs, qw_e (x := now - (m : Int)) (by omega) (by omega), qw_e (x := (m : Int) + (-1)) (by omega) (by omega), show (m : Int) + (-1) = (m : Int) - 1 by omega, hnow, qw_e (x := now - (m : Int)) (by omega) (by omega)]
      by_cases z : m = 0
      · subst z
        rw [if_pos (show ((0 : Nat) : Int) ≤ 0 by decide)]
        obtain ⟨h1, e1, w1, E1⟩ := c_carryN (t := now - ((0 : Nat) : Int)) R.1 (Or.inr (by omega)) v1 b (by omega) (by omega) (by omega)
        have f1 := F_DX2_carry _ _ _ _ _ e1
        have R1 : RR n A h1 hm := R.keep E1 (R.2.1.cg (f1.fn (fun k => by omega)) (f1.2.2.1 (by omega))) f1 (fun i k g => by omega) (fr.rf (P := fun _ _ => False)) (fun i k g => fun z => z)
        rw [e1, qbd_some]
        exact ih Fc Fm N0 v h1 hm (by omega) (by omega) (by omega) R1 hnow T (fun g => absurd g (by omega)) (by omega)
      · rw [if_neg (show ¬ (m : Int) ≤ 0 by omega)]
        obtain ⟨h1, h2, e1, e2, R1, w1, w2⟩ := R.step (i := 161) (t := now - (m : Int)) (by omega) v1 v2 b (by omega) (by omega) (by omega)
        have f2 := F_DX10_goesTide _ _ _ _ _ e2
        rw [e1, e2, qbd_some, qbd_some]
        exact ih Fc Fm (N0 + 1) _ h1 h2 (by omega) (by omega) (by omega) R1 (by rw [f2.at 213 349 (by omega)]; exact hnow) (T.fm f2 (fun i k a b => by omega)) (fun _ => ⟨w1, w2, cB_tide R.1.1 b⟩) (by omega)
    · rw [p2 e, q2 e]
      exact ⟨0, hc, hm, rfl, rfl, Or.inl rfl, R⟩
end fi
