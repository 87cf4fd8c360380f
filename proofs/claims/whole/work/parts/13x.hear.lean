/-! ===== who threw what was seen ===== -/
theorem fr_q {P : Nat → Nat → Prop} {h0 h : qH} {i k : Nat} {x : Int} (f : fr P h0 h) (p : P i k) : fr P h0 (qu h i k x) := by
  refine ⟨fun i' k' q => ?_, f.2.1, f.2.2.1, f.2.2.2⟩
  rw [qu_1, if_neg (fun e => q (by rw [e.1, e.2]; exact p))]
  exact f.1 i' k' q
def cfS (f to hv a : Int) (h : qH) : qH := qu (qu (qu (qu h 162 0 f) 162 1 to) 162 2 hv) 162 3 a
def cfB (f : Int) (h : qH) : qH := qu (qu h 160 2 (qw (h.1 160 2 + 1))) 160 3 (qor (h.1 160 3) (qshl 1 f))
def mfS (f to hv a : Int) (h : qH) : qH := qu (qu (qu (qu h 212 32 f) 212 33 to) 212 34 hv) 212 35 a
def mfB (f : Int) (h : qH) : qH := qu (qu h 212 30 (qw (h.1 212 30 + 1))) 212 31 (qor (h.1 212 31) (qshl 1 f))
def WS (k B : Int) (hc hm : qH) : Prop := hc.1 160 2 = hm.1 212 30 ∧ hc.1 160 3 = hm.1 212 31 ∧ (0 ≤ hm.1 212 30 ∧ hm.1 212 30 ≤ B) ∧ (0 ≤ k → k < hm.1 212 30 → hc.1 162 0 = hm.1 212 32 ∧ hc.1 162 1 = hm.1 212 33 ∧ hc.1 162 2 = hm.1 212 34 ∧ hc.1 162 3 = hm.1 212 35)
theorem WS.kp {k B : Int} {hc hc' hm hm' : qH} {P Q : Nat → Nat → Prop} (W : WS k B hc hm) (f : fr P hc hc') (g : fr Q hm hm') (p : ∀ i j, (i = 160 ∨ i = 162) → ¬ P i j) (q : ∀ j, 30 ≤ j → j ≤ 35 → ¬ Q 212 j) : WS k B hc' hm' := by
  unfold WS at *
  have p0 : hc'.1 160 = hc.1 160 := f.fn (fun j => p 160 j (Or.inl rfl))
  have p2 : hc'.1 162 = hc.1 162 := f.fn (fun j => p 162 j (Or.inr rfl))
  rw [p0, p2, g.at 212 30 (q _ (by omega) (by omega)), g.at 212 31 (q _ (by omega) (by omega)), g.at 212 32 (q _ (by omega) (by omega)), g.at 212 33 (q _ (by omega) (by omega)), g.at 212 34 (q _ (by omega) (by omega)), g.at 212 35 (q _ (by omega) (by omega))]
  exact W
theorem WS.inc {k B f : Int} {hc hm : qH} (W : WS k B hc hm) (hk : 0 ≤ k → k = hm.1 212 30 → hc.1 162 0 = hm.1 212 32 ∧ hc.1 162 1 = hm.1 212 33 ∧ hc.1 162 2 = hm.1 212 34 ∧ hc.1 162 3 = hm.1 212 35) (hB : B < 100000) : WS k (B + 1) (cfB f hc) (mfB f hm) := by
  obtain ⟨w1, w2, w3, w4⟩ := W
  have a1 : (cfB f hc).1 160 2 = qw (hc.1 160 2 + 1) := rfl
  have a2 : (cfB f hc).1 160 3 = qor (hc.1 160 3) (qshl 1 f) := rfl
  have a3 : (cfB f hc).1 162 = hc.1 162 := rfl
  have b1 : (mfB f hm).1 212 30 = qw (hm.1 212 30 + 1) := rfl
  have b2 : (mfB f hm).1 212 31 = qor (hm.1 212 31) (qshl 1 f) := rfl
  have b3 : (mfB f hm).1 212 32 = hm.1 212 32 := rfl
  have b4 : (mfB f hm).1 212 33 = hm.1 212 33 := rfl
  have b5 : (mfB f hm).1 212 34 = hm.1 212 34 := rfl
  have b6 : (mfB f hm).1 212 35 = hm.1 212 35 := rfl
  unfold WS
  rw [a1, a2, a3, b1, b2, b3, b4, b5, b6, w1, w2, qw_e (by omega) (by omega)]
  refine ⟨rfl, rfl, by omega, fun k0 k1 => ?_⟩
  by_cases e : k = hm.1 212 30
  · exact hk k0 e
  · exact w4 k0 (by omega)
section he
variable {n : Int} {A : Nat → Int}
theorem rec_both {k B f to hv a : Int} {hc hm : qH} (R : RR n A hc hm) (W : WS k B hc hm) (hB : B < 100000) : ∃ hc' hm', (∀ k3 k12 i2 now, (if ¬ hc.1 160 2 = k then (DX8_hearOf_b109 k3 k12 i2 now k f to hv a hc) else (qlt (qu hc 162 0 f) fun h12 => (qlt (qu h12 162 1 to) fun h13 => (qlt (qu h13 162 2 hv) fun h14 => (qlt (qu h14 162 3 a) fun h15 => (DX8_hearOf_b109 k3 k12 i2 now k f to hv a h15)))))) = k12 i2 now k f to hv (qw (a + 1)) hc') ∧
    DX10_isFit f to hv a k hm = some (0, hm') ∧ RR n A hc' hm' ∧ WS k (B + 1) hc' hm' := by
  have w1 := W.1
  by_cases e : hm.1 212 30 = k
  · refine ⟨cfB f (cfS f to hv a hc), mfB f (mfS f to hv a hm), fun k3 k12 i2 now => ?_, ?_, ?_, ?_⟩
    · rw [if_neg (show ¬ ¬ hc.1 160 2 = k by omega)]
      rfl
    · unfold DX10_isFit
      rw [if_neg (show ¬ ¬ hm.1 212 30 = k by omega)]
      rfl
    · have f1 : fr (fun i k => i = 160 ∨ i = 162) hc (cfB f (cfS f to hv a hc)) := fr_q (fr_q (fr_q (fr_q (fr_q (fr_q fr.rf (Or.inr rfl)) (Or.inr rfl)) (Or.inr rfl)) (Or.inr rfl)) (Or.inl rfl)) (Or.inl rfl)
      have f2 : fr (fun i k => i = 212 ∧ 30 ≤ k ∧ k ≤ 35) hm (mfB f (mfS f to hv a hm)) := fr_q (fr_q (fr_q (fr_q (fr_q (fr_q fr.rf (by omega)) (by omega)) (by omega)) (by omega)) (by omega)) (by omega)
      exact R.keep (R.1.kq f1 (fun i k a b => by omega) (fun k => by omega)) (R.2.1.cg (f1.fn (fun k => by omega)) (f1.2.2.1 (by omega))) f1 (fun i k g => by omega) f2 (fun i k g => by omega)
    · refine WS.inc ?_ (fun _ _ => ⟨rfl, rfl, rfl, rfl⟩) hB
      obtain ⟨_, w2, w3, w4⟩ := W
      exact ⟨w1, w2, w3, fun _ _ => ⟨rfl, rfl, rfl, rfl⟩⟩
  · refine ⟨cfB f hc, mfB f hm, fun k3 k12 i2 now => ?_, ?_, ?_, ?_⟩
    · rw [if_pos (show ¬ hc.1 160 2 = k by omega)]
      rfl
    · unfold DX10_isFit
      rw [if_pos (show ¬ hm.1 212 30 = k by omega)]
      rfl
    · have f1 : fr (fun i k => i = 160 ∨ i = 162) hc (cfB f hc) := fr_q (fr_q fr.rf (Or.inl rfl)) (Or.inl rfl)
      have f2 : fr (fun i k => i = 212 ∧ 30 ≤ k ∧ k ≤ 35) hm (mfB f hm) := fr_q (fr_q fr.rf (by omega)) (by omega)
      exact R.keep (R.1.kq f1 (fun i k a b => by omega) (fun k => by omega)) (R.2.1.cg (f1.fn (fun k => by omega)) (f1.2.2.1 (by omega))) f1 (fun i k g => by omega) f2 (fun i k g => by omega)
    · exact W.inc (fun _ z => absurd z.symm e) hB
/-- one throw thought of: does it fit -/
theorem fit_one {t N : Nat} {d : Nat → Int} (ht : t < 4) (hN : N ≤ 4) (dp : ∀ i : Nat, i < N → 0 ≤ d (2 * i + 1)) {now f to hv : Int} (hn : n ≤ 512) (j : Nat) (ha : (j : Int) ≤ 30) (han : (j : Int) ≤ now) {hc hm : qH} (R : RR n A hc hm) (hnow : hm.1 213 349 = now) (T : TL t N d hm) (hf : 0 ≤ f ∧ f < A 4) (hto : cv_to A f ≠ -1) (htt : -1 ≤ to ∧ to < A 4) (hh : hv = 0 ∨ hv = 1) :
    ∃ r h7 hc' hm', DX0_launch 161 f to hv (cv_to A f) hc = some (0, h7) ∧ DX8_fits (168 + 2 * t) now (j : Int) h7 = some (r, hc') ∧ DX10_fits (t : Int) f to hv (j : Int) hm = some (r, hm') ∧ (r = 0 ∨ r = 1) ∧ RR n A hc' hm' := by
  have G := R.1.1
  have h4 := G.2.2.1
  have hr2 := cv_to_n G hf hto
  obtain ⟨h1, h2, e1, e2, R2, v1, v2⟩ := R.throw (f := f) (to := to) (hv := hv) (k := cv_to A f) (i := 161) (by omega) hh
  have bv : cB A 0 (cv_new f to hv (cv_to A f)) := cB_new ⟨hr2.1, hr2.2.1⟩ hr2.2.2 (by omega) (by omega) hh
  have f2 := F_DX10_isThrown _ _ _ _ _ _ _ e2
  obtain ⟨r, hc', hm', x1, x2, x3, x4⟩ := fits_l (now := now) (a := (j : Int)) ht hN dp hn (by omega) han (j + 1) LF LF 0 (cv_new f to hv (cv_to A f)) h1 h2 (by unfold LF; omega) (by unfold LF; omega) (by omega) R2 (by rw [f2.at 213 349 (by omega)]; exact hnow) (T.fm f2 (fun i k a b => by omega)) (fun _ => ⟨v1, v2, bv⟩) (by omega)
  rw [show ((j + 1 : Nat) : Int) = (j : Int) + 1 by omega, show (j : Int) + 1 - 1 = (j : Int) by omega] at x1 x2
  rw [ctR_none (by omega)] at x1
  refine ⟨r, h1, hc', hm', e1, x1, ?_, x3, x4⟩
  unfold DX10_fits DX10_fits_b14
  rw [m_toA R.2.2.1.1 G hf.1 hf.2, qbd_some]
  rcases hh with e | e
  · subst e
    rw [if_pos (by decide), e2, qbd_some]
    exact x2
  · subst e
    rw [if_neg (by decide), qbd_some, e2, qbd_some]
    exact x2
def HS (n : Int) (A : Nat → Int) (t N : Nat) (d : Nat → Int) (now k B : Int) (hc hm : qH) : Prop := RR n A hc hm ∧ hm.1 213 349 = now ∧ TL t N d hm ∧ WS k B hc hm
theorem HS.grow {t N : Nat} {d : Nat → Int} {now k B B' : Int} {hc hm : qH} (H : HS n A t N d now k B hc hm) (h : B ≤ B') : HS n A t N d now k B' hc hm := by
  obtain ⟨h1, h2, h3, w1, w2, w3, w4⟩ := H
  exact ⟨h1, h2, h3, w1, w2, ⟨w3.1, by omega⟩, w4⟩
theorem hear_a {t N : Nat} {d : Nat → Int} (ht : t < 4) (hN : N ≤ 4) (dp : ∀ i : Nat, i < N → 0 ≤ d (2 * i + 1)) {now k f to hv : Int} (hn : n ≤ 512) (hf : 0 ≤ f ∧ f < A 4) (hto : cv_to A f ≠ -1) (htt : -1 ≤ to ∧ to < A 4) (hh : hv = 0 ∨ hv = 1) (k3 : Nat → Int → Int → Int → Int → Int → qH → Option (Int × qH)) (k12 : Int → Int → Int → qH → Option (Int × qH)) (k37 : Int → Int → Int → Int → qH → Option (Int × qH)) (k51 : Int → Int → Int → Int → Int → qH → Option (Int × qH)) {M : Nat} (hM : ∀ j : Nat, j < M ↔ ((j : Int) ≤ 30 ∧ (j : Int) ≤ now)) : ∀ (m j Fc Fm : Nat) (B : Int) (hc hm : qH), j + m = M → m < Fc → m < Fm → B + m < 100000 → HS n A t N d now k B hc hm →
    ∃ hc' hm', DX8_hearOf_l12 k3 Fc (168 + 2 * t) now k f to hv (j : Int) hc = k3 (168 + 2 * t) now k f to (qw (hv + 1)) hc' ∧ DX10_laysFits_l66 k12 k37 k51 Fm (t : Int) k f to hv (j : Int) hm = k51 (t : Int) k f to (qw (hv + 1)) hm' ∧ HS n A t N d now k (B + m) hc' hm' := by
  intro m
  induction m with
  | zero =>
    intro j Fc Fm B hc hm hj hFc hFm hB H
    obtain ⟨Fc, rfl⟩ : ∃ n, Fc = n + 1 := ⟨Fc - 1, by omega⟩
    obtain ⟨Fm, rfl⟩ : ∃ n, Fm = n + 1 := ⟨Fm - 1, by omega⟩
    have h9 := H.2.1
    have nj : ¬ ((j : Int) ≤ 30 ∧ (j : Int) ≤ now) := fun g => by have := (hM j).mpr g; omega
    rw [DX8_hearOf_l12.eq_2, DX10_laysFits_l66.eq_2, h9]
    refine ⟨hc, hm, ?_, ?_, H.grow (by omega)⟩
    · by_cases q : 30 < (j : Int)
      · rw [if_pos q]
      · rw [if_neg q, if_pos (show now < (j : Int) by omega)]
    · by_cases q : 30 < (j : Int)
      · rw [if_pos q]
      · rw [if_neg q, if_pos (show now < (j : Int) by omega)]
  | succ m ih =>
    intro j Fc Fm B hc hm hj hFc hFm hB H
    obtain ⟨Fc, rfl⟩ : ∃ n, Fc = n + 1 := ⟨Fc - 1, by omega⟩
    obtain ⟨Fm, rfl⟩ : ∃ n, Fm = n + 1 := ⟨Fm - 1, by omega⟩
    obtain ⟨R, h9, T, W⟩ := H
    have G := R.1.1
    have yj := (hM j).mp (by omega)
    obtain ⟨r, h7, h1, h2, e1, e2, e3, e4, R1⟩ := fit_one (hv := hv) ht hN dp hn j yj.1 yj.2 R h9 T hf hto htt hh
    have f1 := F_DX0_launch _ _ _ _ _ _ _ _ e1
    have f2 := F_DX8_fits _ _ _ _ _ _ e2
    have f3 := F_DX10_fits _ _ _ _ _ _ _ _ e3
    have f12 : fr (fun i k => (14 ≤ i ∧ i ≤ 15) ∨ i = 161 ∨ i = 225) hc h1 := (f1.mono (fun i k g => by omega)).tr f2
    have W1 : WS k B h1 h2 := W.kp f12 f3 (fun i j g => by omega) (fun j a b => by omega)
    have T1 : TL t N d h2 := T.fm f3 (fun i k a b => by omega)
    have h91 : h2.1 213 349 = now := by rw [f3.at 213 349 (by omega)]; exact h9
    rw [DX8_hearOf_l12.eq_2, DX10_laysFits_l66.eq_2, h9, if_neg (show ¬ 30 < (j : Int) by omega), if_neg (show ¬ now < (j : Int) by omega), if_neg (show ¬ 30 < (j : Int) by omega), if_neg (show ¬ now < (j : Int) by omega), e3, qbd_some]
    have hb : (if ¬ hv = 1 then (DX8_hearOf_b44 k3 (DX8_hearOf_l12 k3 Fc) (168 + 2 * t) now k f to hv (j : Int) 0 to f hc) else (DX8_hearOf_b44 k3 (DX8_hearOf_l12 k3 Fc) (168 + 2 * t) now k f to hv (j : Int) 1 to f hc)) = DX8_hearOf_b44 k3 (DX8_hearOf_l12 k3 Fc) (168 + 2 * t) now k f to hv (j : Int) hv to f hc := by
      rcases hh with e | e
      · subst e; rw [if_pos (by decide)]
      · subst e; rw [if_neg (by decide)]
    rw [hb]
    unfold DX8_hearOf_b44
    rw [c_throwCell G R.1.2.1, if_pos hf, qbd_some, e1, qbd_some, e2, qbd_some]
    rcases e4 with r0 | r1
    · rw [if_pos r0, if_pos r0, qw_s (by omega)]
      obtain ⟨h3, h4, i1, i2, i3⟩ := ih (j + 1) Fc Fm B h1 h2 (by omega) (by omega) (by omega) (by omega) ⟨R1, h91, T1, W1⟩
      exact ⟨h3, h4, i1, i2, i3.grow (by omega)⟩
    · rw [if_neg (show ¬ r = 0 by omega), if_neg (show ¬ r = 0 by omega)]
      obtain ⟨h5, h6, g1, g2, R5, W5⟩ := rec_both (f := f) (to := to) (hv := hv) (a := (j : Int)) R1 W1 (by omega)
      have f6 := F_DX10_isFit _ _ _ _ _ _ _ _ g2
      rw [g1, g2, qbd_some, qw_s (by omega)]
      obtain ⟨h3, h4, i1, i2, i3⟩ := ih (j + 1) Fc Fm (B + 1) h5 h6 (by omega) (by omega) (by omega) (by omega) ⟨R5, by rw [f6.at 213 349 (by omega)]; exact h91, T1.fm f6 (fun i k a b => by omega), W5⟩
      exact ⟨h3, h4, i1, i2, i3.grow (by omega)⟩
theorem wait_M (now : Int) (h : 0 ≤ now) : ∃ M : Nat, M ≤ 31 ∧ ∀ j : Nat, j < M ↔ ((j : Int) ≤ 30 ∧ (j : Int) ≤ now) := by
  by_cases e : now ≤ 30
  · exact ⟨now.toNat + 1, by omega, fun j => by omega⟩
  · exact ⟨31, by omega, fun j => by omega⟩
theorem hear_h {t N : Nat} {d : Nat → Int} (ht : t < 4) (hN : N ≤ 4) (dp : ∀ i : Nat, i < N → 0 ≤ d (2 * i + 1)) {now k f to : Int} (hn : n ≤ 512) (hf : 0 ≤ f ∧ f < A 4) (hto : cv_to A f ≠ -1) (htt : -1 ≤ to ∧ to < A 4) (htf : ¬ to = f) (hnow : 0 ≤ now) (k12 : Int → Int → Int → qH → Option (Int × qH)) (k37 : Int → Int → Int → Int → qH → Option (Int × qH)) (Fm : Nat) (hFm : 2 < Fm) {B : Int} {hc hm : qH} (hB : B + 62 < 100000) (H : HS n A t N d now k B hc hm) :
    ∃ hc' hm', DX8_hearOf (168 + 2 * t) now k f to hc = some (0, hc') ∧ DX10_laysFits_l51 k12 k37 Fm (t : Int) k f to 0 hm = k37 (t : Int) k f (qw (to + 1)) hm' ∧ HS n A t N d now k (B + 62) hc' hm' := by
  obtain ⟨Fm, rfl⟩ : ∃ n, Fm = n + 1 + 1 + 1 := ⟨Fm - 3, by omega⟩
  obtain ⟨M, hM31, hM⟩ := wait_M now hnow
  obtain ⟨FF, hFF⟩ : ∃ n, LF = n + 1 + 1 + 1 := ⟨LF - 3, by unfold LF; omega⟩
  unfold DX8_hearOf
  rw [hFF, DX8_hearOf_l3.eq_2, DX10_laysFits_l51.eq_2, if_neg (by decide), if_neg (by decide), if_neg htf]
  obtain ⟨h1, h2, e1, e2, H2⟩ := hear_a (hv := 0) ht hN dp hn hf hto htt (Or.inl rfl) (DX8_hearOf_l3 (FF + 1 + 1)) k12 k37 (DX10_laysFits_l51 k12 k37 (Fm + 1 + 1)) hM M 0 LF LF B hc hm (by omega) (by unfold LF; omega) (by unfold LF; omega) (by omega) H
  rw [z0] at e1 e2
  rw [e1, e2, qw_e (x := 0 + 1) (by decide) (by decide), DX8_hearOf_l3.eq_2, DX10_laysFits_l51.eq_2, if_neg (by decide), if_neg (by decide), if_neg htf]
  obtain ⟨h3, h4, e3, e4, H4⟩ := hear_a (hv := 1) ht hN dp hn hf hto htt (Or.inr rfl) (DX8_hearOf_l3 (FF + 1)) k12 k37 (DX10_laysFits_l51 k12 k37 (Fm + 1)) hM M 0 LF LF (B + M) h1 h2 (by omega) (by unfold LF; omega) (by unfold LF; omega) (by omega) H2
  rw [z0] at e3 e4
  rw [show (0 : Int) + 1 = 1 from rfl, e3, e4, qw_e (x := 1 + 1) (by decide) (by decide), DX8_hearOf_l3.eq_2, DX10_laysFits_l51.eq_2, if_pos (by decide), if_pos (by decide)]
  exact ⟨h3, h4, rfl, rfl, H4.grow (by omega)⟩
theorem hear_t {t N : Nat} {d : Nat → Int} (ht : t < 4) (hN : N ≤ 4) (dp : ∀ i : Nat, i < N → 0 ≤ d (2 * i + 1)) {now k f : Int} (hn : n ≤ 512) (hf : 0 ≤ f ∧ f < A 4) (hto : cv_to A f ≠ -1) (hnow : 0 ≤ now) (k22 : Nat → Int → Int → Int → Int → qH → Option (Int × qH)) (k12 : Int → Int → Int → qH → Option (Int × qH)) {S : Nat} (hS : A 4 = (S : Int)) : ∀ (m j Fc Fm : Nat) (B : Int) (hc hm : qH), j + m = S + 1 → m < Fc → m < Fm → B + 62 * m < 100000 → HS n A t N d now k B hc hm →
    ∃ hc' hm', DX8_hear_l32 k22 Fc (168 + 2 * t) now k (S : Int) f ((j : Int) - 1) hc = k22 (168 + 2 * t) now k (S : Int) (qw (f + 1)) hc' ∧ DX10_laysFits_l37 k12 Fm (t : Int) k f ((j : Int) - 1) hm = k12 (t : Int) k (qw (f + 1)) hm' ∧ HS n A t N d now k (B + 62 * m) hc' hm' := by
  intro m
  induction m with
  | zero =>
    intro j Fc Fm B hc hm hj hFc hFm hB H
    obtain ⟨Fc, rfl⟩ : ∃ n, Fc = n + 1 := ⟨Fc - 1, by omega⟩
    obtain ⟨Fm, rfl⟩ : ∃ n, Fm = n + 1 := ⟨Fm - 1, by omega⟩
    rw [DX8_hear_l32.eq_2, DX10_laysFits_l37.eq_2, H.1.2.2.1.1 4 (by omega), if_pos (show (S : Int) ≤ (j : Int) - 1 by omega), if_pos (show A 4 ≤ (j : Int) - 1 by omega)]
    exact ⟨hc, hm, rfl, rfl, H.grow (by omega)⟩
  | succ m ih =>
    intro j Fc Fm B hc hm hj hFc hFm hB H
    obtain ⟨Fc, rfl⟩ : ∃ n, Fc = n + 1 := ⟨Fc - 1, by omega⟩
    obtain ⟨Fm, rfl⟩ : ∃ n, Fm = n + 1 := ⟨Fm - 1, by omega⟩
    have h4 := H.1.1.1.2.2.1
    rw [DX8_hear_l32.eq_2, DX10_laysFits_l37.eq_2, H.1.2.2.1.1 4 (by omega), if_neg (show ¬ (S : Int) ≤ (j : Int) - 1 by omega), if_neg (show ¬ A 4 ≤ (j : Int) - 1 by omega)]
    by_cases e : (j : Int) - 1 = f
    · rw [if_pos e, qw_e (x := (j : Int) - 1 + 1) (by omega) (by omega), show (j : Int) - 1 + 1 = ((j + 1 : Nat) : Int) - 1 by omega]
      obtain ⟨LL, hLL⟩ : ∃ n, LF = n + 1 := ⟨LF - 1, by unfold LF; omega⟩
      rw [hLL, DX10_laysFits_l51.eq_2, if_neg (by decide), if_pos e, qw_e (x := (j : Int) - 1 + 1) (by omega) (by omega), show (j : Int) - 1 + 1 = ((j + 1 : Nat) : Int) - 1 by omega]
      obtain ⟨h3, h4, i1, i2, i3⟩ := ih (j + 1) Fc Fm B hc hm (by omega) (by omega) (by omega) (by omega) H
      exact ⟨h3, h4, i1, i2, i3.grow (by omega)⟩
    · obtain ⟨h1, h2, e1, e2, H2⟩ := hear_h (to := (j : Int) - 1) ht hN dp hn hf hto (by omega) e hnow k12 (DX10_laysFits_l37 k12 Fm) LF (by unfold LF; omega) (by omega) H
      rw [if_neg e, c_throwCell H.1.1.1 H.1.1.2.1, if_pos hf, qbd_some, if_neg hto, e1, qbd_some, e2, qw_e (x := (j : Int) - 1 + 1) (by omega) (by omega), show (j : Int) - 1 + 1 = ((j + 1 : Nat) : Int) - 1 by omega]
      obtain ⟨h3, h4, i1, i2, i3⟩ := ih (j + 1) Fc Fm (B + 62) h1 h2 (by omega) (by omega) (by omega) (by omega) H2
      exact ⟨h3, h4, i1, i2, i3.grow (by omega)⟩
theorem hear_n {i2 : Nat} {now k f : Int} {hc : qH} (G : cG A) (r : cR hc 5 A) (hf : 0 ≤ f ∧ f < A 4) (hto : cv_to A f = -1) (k22 : Nat → Int → Int → Int → Int → qH → Option (Int × qH)) {S : Nat} (hS : A 4 = (S : Int)) : ∀ (m j Fc : Nat), j + m = S + 1 → m < Fc →
    DX8_hear_l32 k22 Fc i2 now k (S : Int) f ((j : Int) - 1) hc = k22 i2 now k (S : Int) (qw (f + 1)) hc := by
  intro m
  have h4 := G.2.2.1
  induction m with
  | zero =>
    intro j Fc hj hFc
    obtain ⟨Fc, rfl⟩ : ∃ n, Fc = n + 1 := ⟨Fc - 1, by omega⟩
    rw [DX8_hear_l32.eq_2, if_pos (show (S : Int) ≤ (j : Int) - 1 by omega)]
  | succ m ih =>
    intro j Fc hj hFc
    obtain ⟨Fc, rfl⟩ : ∃ n, Fc = n + 1 := ⟨Fc - 1, by omega⟩
    rw [DX8_hear_l32.eq_2, if_neg (show ¬ (S : Int) ≤ (j : Int) - 1 by omega), qw_e (x := (j : Int) - 1 + 1) (by omega) (by omega), show (j : Int) - 1 + 1 = ((j + 1 : Nat) : Int) - 1 by omega, c_throwCell G r, if_pos hf, qbd_some, if_pos hto, ih (j + 1) Fc (by omega) (by omega)]
    exact ite_self _
theorem hear_f {t N : Nat} {d : Nat → Int} (ht : t < 4) (hN : N ≤ 4) (dp : ∀ i : Nat, i < N → 0 ≤ d (2 * i + 1)) {now k : Int} (hn : n ≤ 512) (hnow : 0 ≤ now) {S : Nat} (hS : A 4 = (S : Int)) (hS6 : S ≤ 6) : ∀ (m j Fc Fm : Nat) (B : Int) (hc hm : qH), j + m = S → m < Fc → m < Fm → B + 500 * m < 100000 → HS n A t N d now k B hc hm →
    ∃ hc' hm', DX8_hear_l22 Fc (168 + 2 * t) now k (S : Int) (j : Int) hc = some (0, hc') ∧ DX10_laysFits_l12 Fm (t : Int) k (j : Int) hm = some (0, hm') ∧ HS n A t N d now k (B + 500 * m) hc' hm' := by
  intro m
  induction m with
  | zero =>
    intro j Fc Fm B hc hm hj hFc hFm hB H
    obtain ⟨Fc, rfl⟩ : ∃ n, Fc = n + 1 := ⟨Fc - 1, by omega⟩
    obtain ⟨Fm, rfl⟩ : ∃ n, Fm = n + 1 := ⟨Fm - 1, by omega⟩
    rw [DX8_hear_l22.eq_2, DX10_laysFits_l12.eq_2, H.1.2.2.1.1 4 (by omega), if_pos (show (S : Int) ≤ (j : Int) by omega), if_pos (show A 4 ≤ (j : Int) by omega)]
    exact ⟨hc, hm, rfl, rfl, H.grow (by omega)⟩
  | succ m ih =>
    intro j Fc Fm B hc hm hj hFc hFm hB H
    obtain ⟨Fc, rfl⟩ : ∃ n, Fc = n + 1 := ⟨Fc - 1, by omega⟩
    obtain ⟨Fm, rfl⟩ : ∃ n, Fm = n + 1 := ⟨Fm - 1, by omega⟩
    have G := H.1.1.1
    have hf : 0 ≤ (j : Int) ∧ (j : Int) < A 4 := by omega
    rw [DX8_hear_l22.eq_2, DX10_laysFits_l12.eq_2, H.1.2.2.1.1 4 (by omega), if_neg (show ¬ (S : Int) ≤ (j : Int) by omega), if_neg (show ¬ A 4 ≤ (j : Int) by omega), m_toA H.1.2.2.1.1 G hf.1 hf.2, qbd_some]
    by_cases e : cv_to A (j : Int) = -1
    · have K := hear_n (i2 := 168 + 2 * t) (now := now) (k := k) G H.1.1.2.1 hf e (DX8_hear_l22 Fc) hS (S + 1) 0 LF (by omega) (by unfold LF; omega)
      rw [z0, show (0 : Int) - 1 = -1 from rfl] at K
      rw [K, if_neg (show ¬ ¬ cv_to A (j : Int) = -1 from fun g => g e), qw_s (by omega)]
      obtain ⟨h3, h4, i1, i2, i3⟩ := ih (j + 1) Fc Fm B hc hm (by omega) (by omega) (by omega) (by omega) H
      exact ⟨h3, h4, i1, i2, i3.grow (by omega)⟩
    · have K := hear_t (f := (j : Int)) ht hN dp hn hf e hnow (DX8_hear_l22 Fc) (DX10_laysFits_l12 Fm) hS (S + 1) 0 LF LF B hc hm (by omega) (by unfold LF; omega) (by unfold LF; omega) (by omega) H
      rw [z0, show (0 : Int) - 1 = -1 from rfl] at K
      obtain ⟨h1, h2, e1, e2, H2⟩ := K
      rw [e1, if_pos e, e2, qw_s (by omega)]
      obtain ⟨h3, h4, i1, i2, i3⟩ := ih (j + 1) Fc Fm (B + 500) h1 h2 (by omega) (by omega) (by omega) (by omega) (H2.grow (by omega))
      exact ⟨h3, h4, i1, i2, i3.grow (by omega)⟩
theorem hear_both {t N : Nat} {d : Nat → Int} (ht : t < 4) (hN : N ≤ 4) (dp : ∀ i : Nat, i < N → 0 ≤ d (2 * i + 1)) {k : Int} (hn : n ≤ 512) {hc hm : qH} (R : RR n A hc hm) (T : TL t N d hm) :
    ∃ hc' hm', DX8_hear (168 + 2 * t) (hc.1 24 2) k hc = some (0, hc') ∧ DX10_laysFits (t : Int) k hm = some (0, hm') ∧ RR n A hc' hm' ∧ WS k 4000 hc' hm' := by
  have h4 := R.1.1.2.2.1
  have td := R.tid
  unfold DX8_hear DX10_laysFits
  simp only [qlt]
  have f1 : fr (fun i k => i = 160) hc (qu (qu hc 160 2 0) 160 3 0) := fr_q (fr_q fr.rf rfl) rfl
  have f2 : fr (fun i k => i = 212 ∧ 30 ≤ k ∧ k ≤ 31) hm (qu (qu hm 212 30 0) 212 31 0) := fr_q (fr_q fr.rf (by omega)) (by omega)
  have R1 : RR n A (qu (qu hc 160 2 0) 160 3 0) (qu (qu hm 212 30 0) 212 31 0) := R.keep (R.1.kq f1 (fun i k a b => by omega) (fun k => by omega)) (R.2.1.cg (f1.fn (fun k => by omega)) (f1.2.2.1 (by omega))) f1 (fun i k g => by omega) f2 (fun i k g => by omega)
  have s1 : (qu (qu hc 160 2 0) 160 3 0).1 5 14 = hc.1 5 14 := f1.at 5 14 (by omega)
  have s2 : hc.1 5 14 = A 4 := R.1.2.1.1.2.2.2
  obtain ⟨S, hS⟩ := Int.eq_ofNat_of_zero_le (show 0 ≤ A 4 by omega)
  obtain ⟨h1, h2, e1, e2, H2⟩ := hear_f (now := hm.1 213 349) (k := k) ht hN dp hn td.1.1 hS (by omega) S 0 LF LF 0 (qu (qu hc 160 2 0) 160 3 0) (qu (qu hm 212 30 0) 212 31 0) (by omega) (by unfold LF; omega) (by unfold LF; omega) (by omega) ⟨R1, f2.at 213 349 (by omega), T.fm f2 (fun i k a b => by omega), rfl, rfl, ⟨by show (0 : Int) ≤ 0; decide, by show (0 : Int) ≤ 0; decide⟩, fun k0 k1 => absurd (show k < 0 from k1) (by omega)⟩
  rw [z0] at e1 e2
  rw [s1, s2, hS, td.2, e1, e2]
  exact ⟨h1, h2, rfl, rfl, H2.1, (H2.grow (by omega)).2.2.2⟩
end he
