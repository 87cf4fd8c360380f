/-! ===== a tide for all bottles ===== -/
def stf (hm : qH) (b : Nat) : Int := hm.1 213 (284 + (8 * b + 0))
/-- in the middle of a tide: bottles below k have gone -/
def EI (w : Nat) (A : Nat → Int) (Tn k : Nat) (t : Int) (hc hm : qH) : Prop := cE hc A (-1) ∧ cO hc A ∧ (sq A (hm.1 213) ∧ hm.1 212 19 = -1) ∧ (hc.1 w 1 = Tn ∧ hm.1 213 348 = Tn ∧ hc.1 w 2 = t ∧ hm.1 213 349 = t) ∧
  ∀ b, b < Tn → nb (hc.1 (w + 2 + b)) = nb (fun j => hm.1 213 (284 + (8 * b + j))) ∧ cB A (t + 1) (fun j => hm.1 213 (284 + (8 * b + j))) ∧ cK (fun j => hm.1 213 (284 + (8 * b + j))) ∧ (k ≤ b → cB A t (fun j => hm.1 213 (284 + (8 * b + j))))
theorem fr.tr2 {P : Nat → Nat → Prop} {a b c : qH} (f : fr P a b) (g : fr P b c) : fr P a c := f.tr g
section ebb
variable {w : Nat} {A : Nat → Int}
theorem ebb_l (hw : w = 24 ∨ w = 34) {Tn : Nat} (h8 : Tn ≤ 8) {t : Int} (t0 : 0 ≤ t) (t1 : t < 900000) {f0 : Nat → Int} : ∀ (m k Fc Fm : Nat) (acc : Int) (hc hm : qH), k + m = Tn → m < Fc → m < Fm → EI w A Tn k t hc hm → (∀ b, k ≤ b → b < Tn → stf hm b = f0 b) → acc = cv_ct (stf hm) 2 k - cv_ct f0 2 k →
    ∃ hc' hm' r, DX7_ebb_l2 Fc w (k : Int) hc = some (0, hc') ∧ DX10_tide_l4 Fm acc (k : Int) hm = some (r, hm') ∧ cE hc' A (-1) ∧ cO hc' A ∧ (hc'.1 w 1 = Tn ∧ hm'.1 213 348 = Tn ∧ hc'.1 w 2 = t + 1 ∧ hm'.1 213 349 = t + 1) ∧
      (∀ b, b < Tn → nb (hc'.1 (w + 2 + b)) = nb (fun j => hm'.1 213 (284 + (8 * b + j))) ∧ cB A (t + 1) (fun j => hm'.1 213 (284 + (8 * b + j))) ∧ cK (fun j => hm'.1 213 (284 + (8 * b + j)))) ∧ fr (Pcw w) hc hc' ∧ fr Pmd hm hm' ∧ r = cv_ct (stf hm') 2 Tn - cv_ct f0 2 Tn := by
  intro m
  induction m with
  | zero =>
    intro k Fc Fm acc hc hm hk hFc hFm I H ha
    obtain ⟨Fc, rfl⟩ : ∃ n, Fc = n + 1 := ⟨Fc - 1, by omega⟩
    obtain ⟨Fm, rfl⟩ : ∃ n, Fm = n + 1 := ⟨Fm - 1, by omega⟩
    obtain ⟨E, O, ⟨q, e19⟩, ⟨i1, i2, i3, i4⟩, IB⟩ := I
    rw [DX7_ebb_l2.eq_2, DX10_tide_l4.eq_2, if_pos (by omega), if_pos (by omega), i3, i4, qw_e (by omega) (by omega)]
    simp only [qlt]
    have fc : fr (Pcw w) hc (qu hc w 2 (t + 1)) := fr.mk (fun i k g => by unfold Pcw at g; rw [qu_1, if_neg (by omega)]) rfl
    have fm : fr Pmd hm (qu hm 213 349 (t + 1)) := fr.mk (fun i k g => by unfold Pmd at g; rw [qu_1, if_neg (by omega)]) rfl
    have o13 : ∀ j, ¬ j = 349 → (qu hm 213 349 (t + 1)).1 213 j = hm.1 213 j := fun j hj => by rw [qu_s, up_n _ _ hj]
    refine ⟨_, _, _, rfl, rfl, E.kp fc (fun j k a b => by unfold Pcw; omega) (E.2.2.2.cg (qu_ne (by omega)) rfl), O.cg (qu_ne (by omega)) rfl, ⟨by rw [qu_s, up_n _ _ (by decide)]; exact i1, by rw [o13 348 (by decide)]; exact i2, by rw [qu_s, up_s], by rw [qu_s, up_s]⟩, fun b hb => ?_, fc, fm, ?_⟩
    · obtain ⟨n1, n2, n3, n4⟩ := IB b hb
      have oo : ∀ j, j < 8 → (qu hm 213 349 (t + 1)).1 213 (284 + (8 * b + j)) = hm.1 213 (284 + (8 * b + j)) := fun j hj => o13 _ (by omega)
      refine ⟨?_, cB_cg n2 oo, fun g => ?_⟩
      · rw [qu_ne (by omega), n1]
        exact nb_eq (fun j hj => (oo j hj).symm)
      · show 0 ≤ (qu hm 213 349 (t + 1)).1 213 (284 + (8 * b + 7))
        rw [oo 7 (by decide)]
        have g' : (qu hm 213 349 (t + 1)).1 213 (284 + (8 * b + 0)) = 2 := g
        rw [oo 0 (by decide)] at g'
        exact n3 g'
    · rw [ha, show k = Tn by omega]
      congr 1
      refine cv_ct_c _ (fun b hb => ?_)
      show hm.1 213 (284 + (8 * b + 0)) = (qu hm 213 349 (t + 1)).1 213 (284 + (8 * b + 0))
      rw [o13 _ (by omega)]
  | succ m ih =>
    intro k Fc Fm acc hc hm hk hFc hFm I H ha
    obtain ⟨Fc, rfl⟩ : ∃ n, Fc = n + 1 := ⟨Fc - 1, by omega⟩
    obtain ⟨Fm, rfl⟩ : ∃ n, Fm = n + 1 := ⟨Fm - 1, by omega⟩
    obtain ⟨E, O, ⟨q, e19⟩, ⟨i1, i2, i3, i4⟩, IB⟩ := I
    have G := E.1
    obtain ⟨n1, n2, n3, n4⟩ := IB k (by omega)
    have bk := n4 (Nat.le_refl _)
    have r1 := cv_ct_r (stf hm) 2 k
    have r2 := cv_ct_r f0 2 k
    obtain ⟨v, hv⟩ : ∃ v, v = nb (fun j => hm.1 213 (284 + (8 * k + j))) := ⟨_, rfl⟩
    have bv : cB A t v := by rw [hv]; exact cB_nb bk
    obtain ⟨h1, e1, v1, E1⟩ := c_carryN (i := w + 2 + k) (t := t) E (Or.inr (by omega)) (n1.trans hv.symm) bv (by omega) (by omega) (by omega)
    have f1 := F_DX2_carry _ _ _ _ _ e1
    obtain ⟨g1, x1, y1⟩ := m_loads (h := hm) (b := (k : Int)) (by omega)
    rw [Int.toNat_natCast, ← hv] at y1
    have k1 := F_DX10_loads _ _ _ _ x1
    have a13 : g1.1 213 = hm.1 213 := k1.fn (fun k => by omega)
    have a19 : g1.1 212 19 = -1 := by rw [k1.at 212 19 (by omega)]; exact e19
    obtain ⟨g2, x2, y2, b13, b19⟩ := m_tideN (h := g1) (c := false) (a2 := 0) (t := t) (by rw [a13]; exact q) G rfl a19 y1 bv (by omega) (by omega) (by omega)
    have k2 := F_DX10_goesTide _ _ _ _ _ x2
    obtain ⟨g3, x3, y3, z3, l3⟩ := m_stores (b := (k : Int)) (by omega) g2
    rw [Int.toNat_natCast] at y3 z3
    have nv : ∀ j, j < 8 → g3.1 213 (284 + (8 * k + j)) = cv_tide A (-1) t false v j := fun j hj => by rw [y3 j hj, ← y2, nb_at _ hj]
    have c13 : ∀ j, ¬ (284 + 8 * k ≤ j ∧ j < 284 + (8 * k + 8)) → g3.1 213 j = hm.1 213 j := fun j hj => by rw [z3 213 j (by omega), b13, a13]
    have fc1 : fr (Pcw w) hc h1 := f1.mono (fun i k g => by unfold Pcw; omega)
    have fm3 : fr Pmd hm g3 := by
      refine ⟨fun i j g => ?_, fun _ => ?_, fun _ => ?_, fun _ => ?_⟩
      · unfold Pmd at g
        rw [z3 i j (by omega), k2.at i j (by omega), k1.at i j (by omega)]
      · rw [l3, k2.2.1 (by omega), k1.2.1 (by omega)]
      · rw [l3, k2.2.2.1 (by omega), k1.2.2.1 (by omega)]
      · rw [l3, k2.2.2.2 (by omega), k1.2.2.2 (by omega)]
    have cv : cB A (t + 1) (cv_tide A (-1) t false v) := cB_tide G bv
    have kv : cK v := by
      intro g
      rw [hv, nb_at _ (by decide)] at g ⊢
      exact n3 g
    have ck : cK (cv_tide A (-1) t false v) := cK_tide G bv kv
    have I3 : EI w A Tn (k + 1) t h1 g3 := by
      refine ⟨E1, O.cg (f1.fn (fun k => by omega)) (f1.2.2.1 (by omega)), ⟨q.fr fm3, by rw [fm3.at 212 19 (by unfold Pmd; omega)]; exact e19⟩, ⟨by rw [f1.at w 1 (by omega)]; exact i1, by rw [c13 348 (by omega)]; exact i2, by rw [f1.at w 2 (by omega)]; exact i3, by rw [c13 349 (by omega)]; exact i4⟩, fun b hb => ?_⟩
      by_cases eb : b = k
      · subst eb
        refine ⟨?_, cB_cg cv nv, fun g => ?_, fun g => by omega⟩
        · rw [← nb_nb (h1.1 (w + 2 + b)), v1]
          exact nb_eq (fun j hj => (nv j hj).symm)
        · show 0 ≤ g3.1 213 (284 + (8 * b + 7))
          rw [nv 7 (by decide)]
          have g' : g3.1 213 (284 + (8 * b + 0)) = 2 := g
          rw [nv 0 (by decide)] at g'
          exact ck g'
      · obtain ⟨p1, p2, p3, p4⟩ := IB b hb
        have oo : ∀ j, j < 8 → g3.1 213 (284 + (8 * b + j)) = hm.1 213 (284 + (8 * b + j)) := fun j hj => c13 _ (by omega)
        refine ⟨?_, cB_cg p2 oo, fun g => ?_, fun g => cB_cg (p4 (by omega)) oo⟩
        · rw [f1.fn (i := w + 2 + b) (fun k => by omega), p1]
          exact nb_eq (fun j hj => (oo j hj).symm)
        · show 0 ≤ g3.1 213 (284 + (8 * b + 7))
          rw [oo 7 (by decide)]
          have g' : g3.1 213 (284 + (8 * b + 0)) = 2 := g
          rw [oo 0 (by decide)] at g'
          exact p3 g'
    have H3 : ∀ b, k + 1 ≤ b → b < Tn → stf g3 b = f0 b := fun b hb1 hb2 => by
      rw [← H b (by omega) hb2]
      exact c13 _ (by omega)
    have s3 : stf g3 k = cv_tide A (-1) t false v 0 := nv 0 (by decide)
    have s0 : f0 k = v 0 := by
      rw [← H k (Nat.le_refl _) (by omega), hv, nb_at _ (by decide)]
      rfl
    have cc : cv_ct (stf g3) 2 k = cv_ct (stf hm) 2 k := cv_ct_c _ (fun b hb => c13 _ (by omega))
    have g20 : g2.1 217 0 = cv_tide A (-1) t false v 0 := by rw [← y2, nb_at _ (by decide)]
    have g10 : g1.1 217 0 = v 0 := by rw [← y1, nb_at _ (by decide)]
    have cont : ∀ acc', acc' = cv_ct (stf g3) 2 (k + 1) - cv_ct f0 2 (k + 1) → _ := fun acc' h' => ih (k + 1) Fc Fm acc' h1 g3 (by omega) (by omega) (by omega) I3 H3 h'
    have fin : ∀ d : Int, cv_ct (stf g3) 2 (k + 1) - cv_ct f0 2 (k + 1) = acc + d → (0 ≤ d ∧ d ≤ 1) → DX10_tide_b59 (DX10_tide_l4 Fm) (k : Int) d acc g2 = DX10_tide_l4 Fm (acc + d) ((k + 1 : Nat) : Int) g3 := by
      intro d hd hd2
      unfold DX10_tide_b59
      rw [qlt_e, qw_e (by omega) (by omega), x3, qbd_some, qw_s (by omega)]
    rw [DX7_ebb_l2.eq_2, DX10_tide_l4.eq_2, if_neg (show ¬ hc.1 w 1 ≤ (k : Int) by omega), if_neg (show ¬ 8 ≤ (k : Int) by omega), if_pos (show 0 ≤ (k : Int) ∧ (k : Int) < 8 by omega), if_neg (show ¬ hm.1 213 348 ≤ (k : Int) by omega), Int.toNat_natCast, i3, e1, x1, qbd_some, qbd_some, m_isOn, qbd_some, a13, i4, x2, qbd_some, qw_s (by omega), g10, g20]
    have step : ∀ d : Int, cv_ct (stf g3) 2 (k + 1) - cv_ct f0 2 (k + 1) = acc + d → (0 ≤ d ∧ d ≤ 1) → ∃ hc' hm' r, DX7_ebb_l2 Fc w ((k + 1 : Nat) : Int) h1 = some (0, hc') ∧ DX10_tide_b59 (DX10_tide_l4 Fm) (k : Int) d acc g2 = some (r, hm') ∧ cE hc' A (-1) ∧ cO hc' A ∧ (hc'.1 w 1 = Tn ∧ hm'.1 213 348 = Tn ∧ hc'.1 w 2 = t + 1 ∧ hm'.1 213 349 = t + 1) ∧
        (∀ b, b < Tn → nb (hc'.1 (w + 2 + b)) = nb (fun j => hm'.1 213 (284 + (8 * b + j))) ∧ cB A (t + 1) (fun j => hm'.1 213 (284 + (8 * b + j))) ∧ cK (fun j => hm'.1 213 (284 + (8 * b + j)))) ∧ fr (Pcw w) hc hc' ∧ fr Pmd hm hm' ∧ r = cv_ct (stf hm') 2 Tn - cv_ct f0 2 Tn := by
      intro d hd hd2
      obtain ⟨hc', hm', r, j1, j2, j3, j4, j5, j6, j7, j8, j9⟩ := cont (acc + d) hd.symm
      rw [fin d hd hd2]
      exact ⟨hc', hm', r, j1, j2, j3, j4, j5, j6, fc1.tr j7, fm3.tr j8, j9⟩
    have ct1 : cv_ct (stf g3) 2 (k + 1) = cv_ct (stf g3) 2 k + (if stf g3 k = 2 then 1 else 0) := rfl
    have ct0 : cv_ct f0 2 (k + 1) = cv_ct f0 2 k + (if f0 k = 2 then 1 else 0) := rfl
    rw [ct1, ct0, cc, s3, s0] at step
    by_cases on : v 0 = 0 ∨ v 0 = 1
    · rw [if_pos on, if_neg (show ¬ (1 : Int) = 0 by decide)]
      rw [if_neg (show ¬ v 0 = 2 by omega)] at step
      by_cases t2 : cv_tide A (-1) t false v 0 = 2
      · rw [if_neg (show ¬ ¬ cv_tide A (-1) t false v 0 = 2 from fun g => g t2)]
        rw [if_pos t2] at step
        exact step 1 (by omega) (by omega)
      · rw [if_pos t2]
        rw [if_neg t2] at step
        exact step 0 (by omega) (by omega)
    · have et : cv_tide A (-1) t false v = v := by unfold cv_tide; rw [if_neg on]
      rw [if_neg on, if_pos rfl]
      rw [et] at step
      exact step 0 (by omega) (by omega)
/-- a tide -/
theorem DR.ebb {hc hm : qH} {T : Int} (hw : w = 24 ∨ w = 34) (D : DR w A T hc hm) (hT : T ≤ 100000) :
    ∃ hc' hm' r, DX7_ebb w hc = some (0, hc') ∧ DX10_tide hm = some (r, hm') ∧ DR w A (T + 1) hc' hm' ∧ fr (Pcw w) hc hc' ∧ fr Pmd hm hm' ∧ hm'.1 213 348 = hm.1 213 348 ∧ r = cv_ct (stf hm') 2 (hm.1 213 348).toNat - cv_ct (stf hm) 2 (hm.1 213 348).toNat := by
  obtain ⟨E, O, ⟨q, e19⟩, W⟩ := D
  have w3 : 0 ≤ hm.1 213 348 ∧ hm.1 213 348 ≤ 8 := W.2.2.1
  have w4 : 0 ≤ hm.1 213 349 ∧ hm.1 213 349 ≤ T := W.2.2.2.1
  have w1 : hc.1 w 1 = hm.1 213 348 := W.1
  have w2 : hc.1 w 2 = hm.1 213 349 := W.2.1
  have I : EI w A (hm.1 213 348).toNat 0 (hm.1 213 349) hc hm := by
    refine ⟨E, O, ⟨q, e19⟩, ⟨by omega, by omega, w2, rfl⟩, fun b hb => ?_⟩
    obtain ⟨n1, n2, n3⟩ := W.2.2.2.2 b (by show (b : Int) < hm.1 213 348; omega)
    have n2' : cB A (hm.1 213 349) (fun k => hm.1 213 (284 + (8 * b + k))) := n2
    exact ⟨n1, n2'.grow (by omega), n3, fun _ => n2'⟩
  obtain ⟨h1, h2, r, j1, j2, j3, j4, ⟨u1, u2, u3, u4⟩, j6, j7, j8, j9⟩ := ebb_l (f0 := stf hm) hw (Tn := (hm.1 213 348).toNat) (by omega) w4.1 (by omega) (hm.1 213 348).toNat 0 LF LF 0 hc hm (by omega) (by unfold LF; omega) (by unfold LF; omega) I (fun b _ _ => rfl) (by show (0 : Int) = 0 - 0; decide)
  rw [z0] at j1 j2
  refine ⟨h1, h2, r, j1, j2, ⟨j3, j4, ⟨q.fr j8, by rw [j8.at 212 19 (by unfold Pmd; omega)]; exact e19⟩, ?_⟩, j7, j8, by omega, j9⟩
  have x48 : (fun j => h2.1 213 (284 + j)) 64 = hm.1 213 348 := by show h2.1 213 348 = _; omega
  have x49 : (fun j => h2.1 213 (284 + j)) 65 = hm.1 213 349 + 1 := u4
  refine ⟨by rw [x48]; omega, by rw [x49]; exact u3, by rw [x48]; exact w3, by rw [x49]; omega, fun b hb => ?_⟩
  rw [x48] at hb
  rw [x49]
  exact j6 b (by omega)
end ebb
