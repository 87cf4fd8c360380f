/-! ===== nets ===== -/
def cv_chk (v : Nat → Int) (acc : Int) : Int := if v 0 = 0 then qorl acc (qshll 1 (v 1)) else acc
noncomputable def cv_been (A : Nat → Int) (t : Int) : Nat → Nat → (Nat → Int) → Int → Int
  | 0, _, v, acc => cv_chk v acc
  | m + 1, k, v, acc => cv_been A t m (k + 1) (cv_tide A (-1) (t + (k : Int)) false v) (cv_chk v acc)
theorem cv_chk_64 {v : Nat → Int} {acc : Int} (h : q64 acc) : q64 (cv_chk v acc) := by
  unfold cv_chk
  split
  · exact qorl_64 _ _
  · exact h
theorem cv_been_64 {A : Nat → Int} {t : Int} : ∀ (m k : Nat) (v : Nat → Int) (acc : Int), q64 acc → q64 (cv_been A t m k v acc) := by
  intro m
  induction m with
  | zero => intro k v acc h; exact cv_chk_64 h
  | succ m ih => intro k v acc h; exact ih _ _ _ (cv_chk_64 h)
section net
variable {n : Int} {A : Nat → Int}
theorem c_trail_l {t a3 : Int} {i : Nat} (hi : okb i) (t0 : 0 ≤ t) (t1 : t < 2000000000) (h3 : a3 ≤ 100) : ∀ (m k F : Nat) (N acc : Int) (v : Nat → Int) (h : qH), (k : Int) + m = a3 → m < F → cE h A (-1) → nb (h.1 i) = v → cB A N v → N + m < 1000000 →
    ∃ h', DX2_trail_b28 (DX2_trail_l6 F) i t a3 acc (k : Int) h = some (cv_been A t m k v acc, h') ∧ cE h' A (-1) ∧ h'.1 226 = h.1 226 ∧ h'.2.2.1 = h.2.2.1 ∧ (∀ j, ¬ (j = 14 ∨ j = 15 ∨ j = 225 ∨ j = i) → h'.1 j = h.1 j) := by
  intro m
  induction m with
  | zero =>
    intro k F N acc v h hk hF E hv b hN
    obtain ⟨F, rfl⟩ : ∃ n, F = n + 1 := ⟨F - 1, by omega⟩
    have e0 : h.1 i 0 = v 0 := by rw [← hv, nb_at _ (by decide)]
    have e1 : h.1 i 1 = v 1 := by rw [← hv, nb_at _ (by decide)]
    unfold DX2_trail_b28 cv_been cv_chk
    rw [e0, e1, qw_s (by omega)]
    simp only [qlt]
    by_cases q : v 0 = 0
    · rw [if_neg (fun g => g q), if_pos q, DX2_trail_l6.eq_2, if_pos (show a3 < ((k + 1 : Nat) : Int) by omega)]
      exact ⟨h, rfl, E, rfl, rfl, fun _ _ => rfl⟩
    · rw [if_pos q, if_neg q, DX2_trail_l6.eq_2, if_pos (show a3 < ((k + 1 : Nat) : Int) by omega)]
      exact ⟨h, rfl, E, rfl, rfl, fun _ _ => rfl⟩
  | succ m ih =>
    intro k F N acc v h hk hF E hv b hN
    obtain ⟨F, rfl⟩ : ∃ n, F = n + 1 := ⟨F - 1, by omega⟩
    have e0 : h.1 i 0 = v 0 := by rw [← hv, nb_at _ (by decide)]
    have e1 : h.1 i 1 = v 1 := by rw [← hv, nb_at _ (by decide)]
    obtain ⟨h1, c1, v1, E1⟩ := c_carryN (t := t + (k : Int)) E hi hv b (by omega) (by omega) (by omega)
    have f1 := F_DX2_carry _ _ _ _ _ c1
    have hi' := hi
    unfold okb at hi'
    have go : ∀ acc, ∃ h', DX2_trail_l6 (F + 1) i t a3 acc ((k + 1 : Nat) : Int) h = some (cv_been A t m (k + 1) (cv_tide A (-1) (t + (k : Int)) false v) acc, h') ∧ cE h' A (-1) ∧ h'.1 226 = h.1 226 ∧ h'.2.2.1 = h.2.2.1 ∧ (∀ j, ¬ (j = 14 ∨ j = 15 ∨ j = 225 ∨ j = i) → h'.1 j = h.1 j) := by
      intro acc
      obtain ⟨h2, e2, E2, g1, g2, g3⟩ := ih (k + 1) F (N + 1) acc _ h1 (by omega) (by omega) E1 v1 (cB_tide E.1 b) (by omega)
      rw [DX2_trail_l6.eq_2, if_neg (by omega), if_neg (by omega), qw_e (x := t + ((k + 1 : Nat) : Int)) (by omega) (by omega), qw_e (x := t + ((k + 1 : Nat) : Int) - 1) (by omega) (by omega), show t + ((k + 1 : Nat) : Int) - 1 = t + (k : Int) by omega, c1]
      simp only [qbd_some]
      exact ⟨h2, e2, E2, by rw [g1]; exact f1.fn (fun k => by omega), by rw [g2]; exact f1.2.2.1 (by omega), fun j hj => by rw [g3 j hj]; exact f1.fn (fun k => by omega)⟩
    unfold DX2_trail_b28 cv_been cv_chk
    rw [e0, e1, qw_s (by omega)]
    simp only [qlt]
    by_cases q : v 0 = 0
    · rw [if_neg (fun g => g q), if_pos q]
      exact go _
    · rw [if_pos q, if_neg q]
      exact go _
theorem c_trail {h : qH} {t a3 N : Int} {i : Nat} {v : Nat → Int} (hi : okb i) (t0 : 0 ≤ t) (t1 : t < 2000000000) (h3 : 0 ≤ a3 ∧ a3 ≤ 100) (E : cE h A (-1)) (hv : nb (h.1 i) = v) (b : cB A N v) (hN : N < 900000) :
    ∃ h', DX2_trail i t a3 h = some (cv_been A t a3.toNat 0 v 0, h') ∧ cE h' A (-1) ∧ h'.1 226 = h.1 226 ∧ h'.2.2.1 = h.2.2.1 ∧ (∀ j, ¬ (j = 14 ∨ j = 15 ∨ j = 225 ∨ j = i) → h'.1 j = h.1 j) := by
  unfold DX2_trail
  have K := c_trail_l (A := A) hi t0 t1 h3.2 a3.toNat 0 13999 N 0 v h (by omega) (by omega) E hv b (by omega)
  rw [show LF = 13999 + 1 from rfl, DX2_trail_l6.eq_2, if_neg (by omega), if_pos (by decide)]
  rw [z0] at K
  exact K
theorem m_been_l {a2 : Int} (G : cG A) (ha : a2 ≤ 100) : ∀ (m k F : Nat) (N acc : Int) (v : Nat → Int) (h : qH), (k : Int) + m = a2 → m + 1 < F → sq A (h.1 213) → h.1 212 19 = -1 → (0 ≤ h.1 213 349 ∧ h.1 213 349 < 2000000000) → nb (h.1 217) = v → cB A N v → N + m < 999999 →
    ∃ h', DX10_beenBy_l10 F a2 acc (k : Int) h = some (cv_been A (h.1 213 349) m k v acc, h') := by
  intro m
  induction m with
  | zero =>
    intro k F N acc v h hk hF q he ht hv b hN
    obtain ⟨F, rfl⟩ : ∃ n, F = n + 1 := ⟨F - 1, by omega⟩
    have e0 : h.1 217 0 = v 0 := by rw [← hv, nb_at _ (by decide)]
    have e1 : h.1 217 1 = v 1 := by rw [← hv, nb_at _ (by decide)]
    obtain ⟨h1, c1, v1, g13, g19⟩ := m_tideN (c := false) (a2 := 0) (t := h.1 213 349 + (k : Int)) q G rfl he hv b (by omega) (by omega) (by omega)
    obtain ⟨F, rfl⟩ : ∃ n, F = n + 1 := ⟨F - 1, by omega⟩
    rw [DX10_beenBy_l10.eq_2, if_neg (by omega), e0, e1]
    unfold DX10_beenBy_b36 cv_been cv_chk
    rw [qw_e (x := h.1 213 349 + (k : Int)) (by omega) (by omega), c1, qw_s (by omega)]
    simp only [qbd_some]
    by_cases q : v 0 = 0
    · rw [if_neg (fun g => g q), if_pos q, DX10_beenBy_l10.eq_2, if_pos (show a2 < ((k + 1 : Nat) : Int) by omega)]
      exact ⟨h1, rfl⟩
    · rw [if_pos q, if_neg q, DX10_beenBy_l10.eq_2, if_pos (show a2 < ((k + 1 : Nat) : Int) by omega)]
      exact ⟨h1, rfl⟩
  | succ m ih =>
    intro k F N acc v h hk hF q he ht hv b hN
    obtain ⟨F, rfl⟩ : ∃ n, F = n + 1 := ⟨F - 1, by omega⟩
    have e0 : h.1 217 0 = v 0 := by rw [← hv, nb_at _ (by decide)]
    have e1 : h.1 217 1 = v 1 := by rw [← hv, nb_at _ (by decide)]
    obtain ⟨h1, c1, v1, g13, g19⟩ := m_tideN (c := false) (a2 := 0) (t := h.1 213 349 + (k : Int)) q G rfl he hv b (by omega) (by omega) (by omega)
    have go := fun acc => ih (k + 1) F (N + 1) acc _ h1 (by omega) (by omega) (by rw [g13]; exact q) g19 (by rw [g13]; exact ht) v1 (cB_tide G b) (by omega)
    rw [g13] at go
    rw [DX10_beenBy_l10.eq_2, if_neg (by omega), e0, e1]
    unfold DX10_beenBy_b36 cv_been cv_chk
    rw [qw_e (x := h.1 213 349 + (k : Int)) (by omega) (by omega), c1, qw_s (by omega)]
    simp only [qbd_some]
    by_cases q : v 0 = 0
    · rw [if_neg (fun g => g q), if_pos q]
      exact go _
    · rw [if_pos q, if_neg q]
      exact go _
/-- the cells on which bottle b is at sea, as bits -/
noncomputable def cv_tr (A : Nat → Int) (hm : qH) (m : Int) (b : Nat) : Int := cv_been A (hm.1 213 349) m.toNat 0 (nb (fun k => hm.1 213 (284 + (8 * b + k)))) 0
theorem m_beenBy {hc hm : qH} (R : RR n A hc hm) (hn : n ≤ 512) {b : Nat} {m : Int} (hb : (b : Int) < hm.1 213 348) (hm0 : 0 ≤ m ∧ m ≤ 60) : ∃ hm', DX10_beenBy (b : Int) m hm = some (cv_tr A hm m b, hm') ∧ RR n A hc hm' ∧ hm'.1 213 = hm.1 213 := by
  have th := R.thr
  have td := R.tid
  have bb := R.bot (b := b) hb
  unfold DX10_beenBy
  obtain ⟨h2, e2, v2⟩ := m_loads (h := hm) (b := (b : Int)) (by omega)
  have f2 := F_DX10_loads _ _ _ _ e2
  have a13 : h2.1 213 = hm.1 213 := f2.fn (fun k => by omega)
  rw [Int.toNat_natCast] at v2
  obtain ⟨h3, e3⟩ := m_been_l (a2 := m) R.1.1 (by omega) m.toNat 0 LF (hm.1 213 349) 0 _ h2 (by omega) (by unfold LF; omega) (by rw [a13]; exact R.2.2.1.1) (by rw [f2.at 212 19 (by omega)]; exact R.2.2.1.2) (by rw [a13]; omega) v2 (cB_nb bb.2.1) (by omega)
  rw [z0, a13] at e3
  have e4 : DX10_beenBy (b : Int) m hm = some (cv_tr A hm m b, h3) := by
    unfold DX10_beenBy
    rw [e2]
    exact e3
  have f4 := F_DX10_beenBy _ _ _ _ _ e4
  rw [e2]
  refine ⟨h3, e3, R.keep R.1 R.2.1 (fr.rf (P := fun _ _ => False)) (fun _ _ _ g => g) f4 (fun i k g => by omega), f4.fn (fun k => by omega)⟩
theorem c_fol_l {hm : qH} {m : Int} (hn : n ≤ 512) (hm0 : 0 ≤ m ∧ m ≤ 60) : ∀ (j k F : Nat) (hc : qH), k + j = 8 → j < F → RR n A hc hm → (∀ b, b < k → hc.1 163 b = if (b : Int) < hm.1 213 348 then cv_tr A hm m b else 0) →
    ∃ hc', DX9_followAll_l2 F m (k : Int) hc = some (0, hc') ∧ RR n A hc' hm ∧ (∀ b, b < 8 → hc'.1 163 b = if (b : Int) < hm.1 213 348 then cv_tr A hm m b else 0) := by
  intro j
  induction j with
  | zero =>
    intro k F hc hk hF R H
    obtain ⟨F, rfl⟩ : ∃ n, F = n + 1 := ⟨F - 1, by omega⟩
    rw [DX9_followAll_l2.eq_2, if_pos (by omega)]
    exact ⟨hc, rfl, R, fun b hb => H b (by omega)⟩
  | succ j ih =>
    intro k F hc hk hF R H
    obtain ⟨F, rfl⟩ : ∃ n, F = n + 1 := ⟨F - 1, by omega⟩
    have th := R.thr
    have td := R.tid
    have k8 : 0 ≤ (k : Int) ∧ (k : Int) < 8 := by omega
    have up163 : ∀ (h : qH) (x : Int), RR n A h hm → RR n A (qu h 163 k x) hm := by
      intro h x Rh
      have fc : fr (fun i y => i = 163) h (qu h 163 k x) := fr.mk (fun i y q => by rw [qu_1, if_neg (fun g => q g.1)]) rfl
      exact Rh.keep (Rh.1.kq fc (fun i k a b => by omega) (fun k => by omega)) (Rh.2.1.cg (fc.fn (fun k => by omega)) (fc.2.2.1 (by omega))) fc (fun i k g => by omega) (fr.rf (P := fun _ _ => False)) (fun _ _ _ g => g)
    have R0 := up163 hc 0 R
    have th0 := R0.thr
    rw [DX9_followAll_l2.eq_2, if_neg (by omega)]
    simp only [if_pos k8, qlt, Int.toNat_natCast]
    rw [c_has (by rw [th0.2]; exact th0.1), th0.2, qw_s (by omega)]
    simp only [qbd_some]
    by_cases kb : (k : Int) < hm.1 213 348
    · rw [if_pos (show 0 ≤ (k : Int) ∧ (k : Int) < hm.1 213 348 by omega), if_neg (show ¬ (1 : Int) = 0 by decide)]
      obtain ⟨h1, _, v, e1, _, _, v1, _, bv, _, vj⟩ := R0.pick (b := (k : Int)) (by omega)
      rw [Int.toNat_natCast] at e1 vj
      have f1 := F_DX0_takeFrom _ _ _ _ _ e1
      have E1 : cE h1 A (-1) := R0.1.kq f1 (fun i k a b => by omega) (fun k => by omega)
      rw [e1]
      simp only [qbd_some]
      have a24 : h1.1 24 2 = hm.1 213 349 := by rw [f1.at 24 2 (by omega)]; exact R0.tid.2
      obtain ⟨h2, e2, E2, g226, g22, gj⟩ := c_trail (i := 156) (t := hm.1 213 349) (a3 := m) (Or.inr (by omega)) (by omega) (by omega) (by omega) E1 v1 bv (by omega)
      have f2 := F_DX2_trail _ _ _ _ _ _ e2
      have R2 : RR n A h2 hm := by
        refine R0.keep E2 (R0.2.1.cg (by rw [g226]; exact f1.fn (fun k => by omega)) (by rw [g22]; exact f1.2.2.1 (by omega))) ((f1.mono (Q := fun i k => (14 ≤ i ∧ i ≤ 15) ∨ i = 225 ∨ i = 156) (fun i k g => by omega)).tr (f2.mono (fun i k g => by omega))) (fun i k g => by omega) (fr.rf (P := fun _ _ => False)) (fun _ _ _ g => g)
      rw [a24, e2]
      simp only [qbd_some]
      have vn : v = nb (fun j => hm.1 213 (284 + (8 * k + j))) := by
        have h1 : nb v = v := by rw [← v1]; exact nb_nb _
        rw [← h1]
        exact nb_eq vj
      have etr : cv_been A (hm.1 213 349) m.toNat 0 v 0 = cv_tr A hm m k := by rw [vn]; rfl
      rw [etr]
      refine ih (k + 1) F _ (by omega) (by omega) (up163 h2 _ R2) (fun b hb => ?_)
      by_cases e : b = k
      · rw [e, qu_s, up_s, if_pos kb]
      · rw [qu_s, up_n _ _ e, gj 163 (by omega), f1.fn (i := 163) (fun k => by omega), qu_s, up_n _ _ e]
        exact H b (by omega)
    · rw [if_neg (show ¬ (0 ≤ (k : Int) ∧ (k : Int) < hm.1 213 348) by omega), if_pos rfl]
      refine ih (k + 1) F _ (by omega) (by omega) R0 (fun b hb => ?_)
      by_cases e : b = k
      · rw [e, qu_s, up_s, if_neg kb]
      · rw [qu_s, up_n _ _ e]
        exact H b (by omega)
theorem c_followAll {hc hm : qH} {m : Int} (R : RR n A hc hm) (hn : n ≤ 512) (hm0 : 0 ≤ m ∧ m ≤ 60) : ∃ hc', DX9_followAll m hc = some (0, hc') ∧ RR n A hc' hm ∧ (∀ b, b < 8 → hc'.1 163 b = if (b : Int) < hm.1 213 348 then cv_tr A hm m b else 0) := by
  have K := c_fol_l hn hm0 8 0 LF hc rfl (by unfold LF; omega) R (fun b hb => by omega)
  rw [z0] at K
  exact K
end net
