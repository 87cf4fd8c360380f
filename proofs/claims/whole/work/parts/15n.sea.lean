/-! ===== sea ===== -/
theorem fillC_l {i0 : Nat} {a1 : Int} : ∀ (m k F n0 : Nat) (h : qH), k + m = n0 → n0 < 2147483647 → m < F → ∃ h', DJ7_fill_53178_l5 F i0 n0 a1 (k : Int) (n0 : Int) h = some (0, h') ∧ (∀ j, k ≤ j → j < n0 → h'.1 i0 j = a1) ∧ (∀ i j, ¬ (i = i0 ∧ k ≤ j ∧ j < n0) → h'.1 i j = h.1 i j) ∧ h'.2 = h.2 := by
  intro m
  induction m with
  | zero =>
    intro k F n0 h hk hn hF
    obtain ⟨F, rfl⟩ : ∃ n, F = n + 1 := ⟨F - 1, by omega⟩
    rw [DJ7_fill_53178_l5.eq_2, if_pos (by omega)]
    exact ⟨h, rfl, fun j a b => by omega, fun _ _ _ => rfl, rfl⟩
  | succ m ih =>
    intro k F n0 h hk hn hF
    obtain ⟨F, rfl⟩ : ∃ n, F = n + 1 := ⟨F - 1, by omega⟩
    obtain ⟨h', e1, e2, e3, e4⟩ := ih (k + 1) F n0 (qu h i0 k a1) (by omega) hn (by omega)
    rw [DJ7_fill_53178_l5.eq_2, if_neg (by omega), if_pos (by omega), qlt_e, Int.toNat_natCast, qw_s (by omega)]
    refine ⟨h', e1, fun j a b => ?_, fun i j g => ?_, by rw [e4]; rfl⟩
    · by_cases ej : j = k
      · rw [e3 i0 j (by omega), ej, qu_s, up_s]
      · exact e2 j (by omega) b
    · rw [e3 i j (by omega), qu_1, if_neg (by omega)]
theorem c_clear16 (h : qH) : ∃ h', DX1_clear 16 h = some (0, h') ∧ (∀ k, k < 36 → h'.1 17 k = 0) ∧ (∀ j, j < 216 → h'.1 18 j = 0) ∧ h'.1 16 13 = 1 ∧ (∀ k, 7 ≤ k → k ≤ 19 → ¬ k = 13 → h'.1 16 k = 0) ∧ (∀ i, ¬ (16 ≤ i ∧ i ≤ 18) → h'.1 i = h.1 i) ∧ h'.2 = h.2 := by
  unfold DX1_clear DJ7_fill_53178
  have K1 := fillC_l (i0 := 17) (a1 := 0) 36 0 LF 36 h (by omega) (by omega) (by unfold LF; omega)
  rw [z0] at K1
  obtain ⟨h1, e1, a1, b1, c1⟩ := K1
  have K2 := fillC_l (i0 := 18) (a1 := 0) 216 0 LF 216 h1 (by omega) (by omega) (by unfold LF; omega)
  rw [z0] at K2
  obtain ⟨h2, e2, a2, b2, c2⟩ := K2
  rw [show 16 + 1 = 17 from rfl, show 16 + 2 = 18 from rfl, e1, qbd_some, e2, qbd_some]
  simp only [qlt]
  refine ⟨_, rfl, fun k hk => ?_, fun j hj => ?_, rfl, fun k x y z => ?_, fun i hi => ?_, ?_⟩
  · rw [qu_ne (by decide), qu_ne (by decide), qu_ne (by decide), qu_ne (by decide), qu_ne (by decide), qu_ne (by decide), qu_ne (by decide), qu_ne (by decide), qu_ne (by decide), qu_ne (by decide), qu_ne (by decide), qu_ne (by decide), qu_ne (by decide), b2 17 k (by omega)]
    exact a1 k (by omega) hk
  · rw [qu_ne (by decide), qu_ne (by decide), qu_ne (by decide), qu_ne (by decide), qu_ne (by decide), qu_ne (by decide), qu_ne (by decide), qu_ne (by decide), qu_ne (by decide), qu_ne (by decide), qu_ne (by decide), qu_ne (by decide), qu_ne (by decide)]
    exact a2 j (by omega) hj
  · have : k = 7 ∨ k = 8 ∨ k = 9 ∨ k = 10 ∨ k = 11 ∨ k = 12 ∨ k = 14 ∨ k = 15 ∨ k = 16 ∨ k = 17 ∨ k = 18 ∨ k = 19 := by omega
    rcases this with rfl | rfl | rfl | rfl | rfl | rfl | rfl | rfl | rfl | rfl | rfl | rfl <;> rfl
  · rw [qu_ne (by omega), qu_ne (by omega), qu_ne (by omega), qu_ne (by omega), qu_ne (by omega), qu_ne (by omega), qu_ne (by omega), qu_ne (by omega), qu_ne (by omega), qu_ne (by omega), qu_ne (by omega), qu_ne (by omega), qu_ne (by omega)]
    funext b
    rw [b2 i b (by omega), b1 i b (by omega)]
  · show h2.2 = h.2
    rw [c2, c1]
theorem plain_l : ∀ (m k F : Nat) (h : qH), k + m = 1912 → m < F → ∃ h', DX10_plain_l2 F 216 1912 (k : Int) h = some (0, h') ∧ h'.1 216 3 = 1 ∧ (∀ j, k ≤ j → j < 1912 → ¬ j = 3 → h'.1 216 j = 0) ∧ (∀ i j, ¬ (i = 216 ∧ k ≤ j ∧ j < 1912) → ¬ (i = 216 ∧ j = 3) → h'.1 i j = h.1 i j) ∧ h'.2 = h.2 := by
  intro m
  induction m with
  | zero =>
    intro k F h hk hF
    obtain ⟨F, rfl⟩ : ∃ n, F = n + 1 := ⟨F - 1, by omega⟩
    rw [DX10_plain_l2.eq_2, if_pos (by omega), if_pos (by decide), qlt_e]
    exact ⟨_, rfl, by rw [qu_s, up_s], fun j a b => by omega, fun i j _ g => by rw [qu_1, if_neg g], rfl⟩
  | succ m ih =>
    intro k F h hk hF
    obtain ⟨F, rfl⟩ : ∃ n, F = n + 1 := ⟨F - 1, by omega⟩
    obtain ⟨h', e1, e2, e3, e4, e5⟩ := ih (k + 1) F (qu h 216 k 0) (by omega) (by omega)
    rw [DX10_plain_l2.eq_2, if_neg (by omega), if_pos (by omega), qlt_e, Int.toNat_natCast, qw_s (by omega)]
    refine ⟨h', e1, e2, fun j a c g => ?_, fun i j g g2 => ?_, by rw [e5]; rfl⟩
    · by_cases ej : j = k
      · rw [e4 216 _ (by omega) (by omega), ej, qu_s, up_s]
      · exact e3 j (by omega) c g
    · rw [e4 i j (by omega) g2, qu_1, if_neg (by omega)]
theorem copy_l : ∀ (m k F : Nat) (h : qH), k + m = 1912 → m < F → ∃ h', DX10_sea_l193 F (k : Int) h = some (h'.1 213 0, h') ∧ (∀ j, k ≤ j → j < 1912 → h'.1 213 j = h.1 216 j) ∧ (∀ i j, ¬ (i = 213 ∧ k ≤ j ∧ j < 1912) → h'.1 i j = h.1 i j) ∧ h'.2 = h.2 := by
  intro m
  induction m with
  | zero =>
    intro k F h hk hF
    obtain ⟨F, rfl⟩ : ∃ n, F = n + 1 := ⟨F - 1, by omega⟩
    rw [DX10_sea_l193.eq_2, if_pos (by omega)]
    exact ⟨h, rfl, fun j a b => by omega, fun _ _ _ => rfl, rfl⟩
  | succ m ih =>
    intro k F h hk hF
    obtain ⟨F, rfl⟩ : ∃ n, F = n + 1 := ⟨F - 1, by omega⟩
    obtain ⟨h', e1, e2, e3, e4⟩ := ih (k + 1) F (qu h 213 k (h.1 216 k)) (by omega) (by omega)
    rw [DX10_sea_l193.eq_2, if_neg (by omega), if_pos (by omega), if_pos (by omega), qlt_e, Int.toNat_natCast, qw_s (by omega)]
    refine ⟨h', e1, fun j a c => ?_, fun i j g => ?_, by rw [e4]; rfl⟩
    · by_cases ej : j = k
      · rw [e3 213 _ (by omega), ej, qu_s, up_s]
      · rw [e2 j (by omega) c, qu_ne (by decide)]
    · rw [e3 i j (by omega), qu_1, if_neg (by omega)]
/-- what the reference's reading leaves of the seas it has kept -/
def Fz (h : qH) (x : Option (Int × qH)) : Prop := ∀ r hZ, x = some (r, hZ) → (∀ j, 1912 ≤ j → hZ.1 213 j = h.1 213 j) ∧ (¬ hZ.1 212 11 = 0 → hZ.1 213 = h.1 213) ∧ hZ.1 212 5 = h.1 212 5
section fz
variable {h : qH}
theorem Fz.bd {P : Nat → Nat → Prop} {x : Option (Int × qH)} {f : Int → qH → Option (Int × qH)} (g : Fp P h x) (p : ∀ k, ¬ P 213 k) (p5 : ¬ P 212 5) (a : ∀ r v, Fz v (f r v)) : Fz h (qbd x f) := by
  intro r hZ e
  cases hx : x with
  | none => rw [hx] at e; cases e
  | some q =>
    obtain ⟨r1, h1⟩ := q
    rw [hx] at e
    have g1 := g r1 h1 hx
    have e3 : h1.1 213 = h.1 213 := g1.fn p
    have e5 : h1.1 212 5 = h.1 212 5 := g1.at _ _ p5
    have := a r1 h1 r hZ e
    rw [e3, e5] at this
    exact this
theorem Fz.up {i k : Nat} {v : Int} {f : qH → Option (Int × qH)} (hi : ¬ i = 213) (h5 : ¬ (i = 212 ∧ k = 5)) (a : ∀ v, Fz v (f v)) : Fz h (qlt (qu h i k v) f) := by
  intro r hZ e
  have e3 : (qu h i k v).1 213 = h.1 213 := qu_ne (fun z => hi z.symm)
  have e5 : (qu h i k v).1 212 5 = h.1 212 5 := by rw [qu_1, if_neg (fun z => h5 ⟨z.1.symm, z.2.symm⟩)]
  have := a (qu h i k v) r hZ e
  rw [e3, e5] at this
  exact this
theorem Fz.ite {c : Prop} {dc : Decidable c} {x y : Option (Int × qH)} (a : c → Fz h x) (b : ¬ c → Fz h y) : Fz h (@ite _ c dc x y) := by
  by_cases g : c
  · rw [if_pos g]; exact a g
  · rw [if_neg g]; exact b g
theorem Fz_173 (b0 : Int) (h : qH) : Fz h (DX10_sea_b173 b0 h) := by
  unfold DX10_sea_b173
  refine Fz.up (by decide) (by decide) (fun v => Fz.ite (fun g => ?_) (fun g => ?_))
  · intro r hZ e
    have K := copy_l 1912 0 LF v (by omega) (by unfold LF; omega)
    rw [z0] at K
    obtain ⟨h', e1, e2, e3, e4⟩ := K
    rw [e1] at e
    injection e with e
    injection e with _ e
    subst e
    exact ⟨fun j hj => e3 213 j (by omega), fun z => absurd (by rw [e3 212 11 (by omega)]; exact g) z, e3 212 5 (by omega)⟩
  · intro r hZ e
    injection e with e
    injection e with _ e
    subst e
    exact ⟨fun _ _ => rfl, fun _ => rfl, rfl⟩
theorem Fz_149 (h : qH) : Fz h (DX10_sea_b149 h) := by
  unfold DX10_sea_b149
  exact Fz.up (by decide) (by decide) (fun v => Fz.ite (fun _ => Fz_173 _ _) (fun _ => Fz_173 _ _))
theorem Fz_122 : ∀ (n : Nat) (h : qH), Fz h (DX10_sea_l122 n h) := by
  intro n
  induction n with
  | zero => intro h r hZ e; rw [DX10_sea_l122.eq_1] at e; cases e
  | succ n ih =>
    intro h
    rw [DX10_sea_l122.eq_2]
    exact Fz.ite (fun _ => Fz_149 h) (fun _ => Fz.ite (fun _ => Fz_149 h) (fun _ => Fz.bd (F_DX10_readLine h) (fun k => by omega) (by omega) (fun _ v => Fz.bd (F_DX10_ends v) (fun k => by omega) (by omega) (fun _ w => ih w))))
theorem Fz_105 (h : qH) : Fz h (DX10_sea_b105 h) := by
  unfold DX10_sea_b105
  exact Fz.bd (F_DX10_takes _ _ h) (fun k => by omega) (by omega) (fun _ v => Fz.up (by decide) (by decide) (fun v => Fz.bd (F_DX10_ends v) (fun k => by omega) (by omega) (fun _ w => Fz_122 _ w)))
theorem Fz_66 (h : qH) : Fz h (DX10_sea_b66 h) := by
  unfold DX10_sea_b66
  exact Fz.bd (F_DX10_takes _ _ h) (fun k => by omega) (by omega) (fun _ v => Fz.up (by decide) (by decide) (fun v => Fz.bd (F_DX10_takes _ _ v) (fun k => by omega) (by omega) (fun _ v => Fz.up (by decide) (by decide) (fun v => Fz.bd (F_DX10_eats _ v) (fun k => by omega) (by omega) (fun _ v => Fz.ite (fun _ => Fz_105 v) (fun _ => Fz.bd (F_DX10_fails _ v) (fun k => by omega) (by omega) (fun _ v => Fz_105 v)))))))
theorem Fz_tail (h : qH) : Fz h (qbd (DX10_next h) fun r46 h47 => (qbd (DX10_eats 0 h47) fun r49 h50 => (if ¬ r49 = 0 then (DX10_sea_b66 h50) else (qbd (DX10_fails 2 h50) fun r52 h53 => (DX10_sea_b66 h53))))) :=
  Fz.bd (F_DX10_next h) (fun k => by omega) (by omega) (fun _ v => Fz.bd (F_DX10_eats _ v) (fun k => by omega) (by omega) (fun _ v => Fz.ite (fun _ => Fz_66 v) (fun _ => Fz.bd (F_DX10_fails _ v) (fun k => by omega) (by omega) (fun _ v => Fz_66 v))))
end fz
