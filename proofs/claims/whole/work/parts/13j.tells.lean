/-! ===== a tray's deeds, one after another ===== -/
section tls
variable {w : Nat} {A : Nat → Int}
theorem cv_why_cg {hm g : qH} (e : g.1 213 = hm.1 213) (d : Int) : cv_why A g d = cv_why A hm d := by
  unfold cv_why
  rw [e]
theorem tell_l {t N : Nat} (hw : w = 24 ∨ w = 34) (ht : t < 4) (hN : N ≤ 40) {T0 : Int} (hT : T0 ≤ 60000) : ∀ (m k Fc Fm : Nat) (hc g : qH), k + m = N → m < Fc → m < Fm → DR w A (T0 + k) hc g → hc.1 (168 + 2 * t) 2 = N → g.1 223 t = N → (∀ j : Nat, j < N → hc.1 (169 + 2 * t) j = g.1 224 (40 * t + j)) → g.1 212 21 = 0 →
    ∃ h' g', ∃ r : Nat, DX9_doAll_l2 Fc w (168 + 2 * t) (k : Int) hc = some ((r : Int), h') ∧ DX10_tells_l7 Fm (t : Int) (k : Int) g = some ((r : Int), g') ∧ DR w A (T0 + N) h' g' ∧ fr (Pcw w) hc h' ∧ fr Pmd g g' ∧ k ≤ r ∧ r ≤ N ∧ (r < N → cv_why A g' (g'.1 224 (40 * t + r)) = g'.1 212 21 ∧ ¬ g'.1 212 21 = 0) ∧ (r = N → g'.1 212 21 = 0) ∧ (r = k → h' = hc ∧ g'.1 213 = g.1 213) := by
  intro m
  induction m with
  | zero =>
    intro k Fc Fm hc g hk hFc hFm D c2 m2 cn m21
    obtain ⟨Fc, rfl⟩ : ∃ n, Fc = n + 1 := ⟨Fc - 1, by omega⟩
    obtain ⟨Fm, rfl⟩ : ∃ n, Fm = n + 1 := ⟨Fm - 1, by omega⟩
    rw [DX9_doAll_l2.eq_2, DX10_tells_l7.eq_2, if_pos (show hc.1 (168 + 2 * t) 2 ≤ (k : Int) by omega), if_pos (show 0 ≤ (t : Int) ∧ (t : Int) < 4 by omega), Int.toNat_natCast, if_pos (show g.1 223 t ≤ (k : Int) by omega), if_pos (show 0 ≤ (t : Int) ∧ (t : Int) < 4 by omega), c2, m2]
    exact ⟨hc, g, N, rfl, rfl, by rw [show N = k by omega]; exact D, fr.rf, fr.rf, by omega, by omega, fun z => by omega, fun _ => m21, fun _ => ⟨rfl, rfl⟩⟩
  | succ m ih =>
    intro k Fc Fm hc g hk hFc hFm D c2 m2 cn m21
    obtain ⟨Fc, rfl⟩ : ∃ n, Fc = n + 1 := ⟨Fc - 1, by omega⟩
    obtain ⟨Fm, rfl⟩ : ∃ n, Fm = n + 1 := ⟨Fm - 1, by omega⟩
    have hd := cn k (by omega)
    rw [DX9_doAll_l2.eq_2, DX10_tells_l7.eq_2, if_neg (show ¬ hc.1 (168 + 2 * t) 2 ≤ (k : Int) by omega), if_pos (show 0 ≤ (t : Int) ∧ (t : Int) < 4 by omega), Int.toNat_natCast, if_neg (show ¬ g.1 223 t ≤ (k : Int) by omega), qw_e (x := 40 * (t : Int)) (by omega) (by omega), qw_e (x := 40 * (t : Int) + (k : Int)) (by omega) (by omega), if_pos (show 0 ≤ 40 * (t : Int) + (k : Int) ∧ 40 * (t : Int) + (k : Int) < 160 by omega), show (40 * (t : Int) + (k : Int)).toNat = 40 * t + k by omega]
    unfold DX6_numberAt
    rw [if_neg (show ¬ (k : Int) < 0 by omega), if_neg (show ¬ 40 ≤ (k : Int) by omega), if_pos (show 0 ≤ (k : Int) ∧ (k : Int) < 40 by omega), Int.toNat_natCast, qbd_some, show 168 + 2 * t + 1 = 169 + 2 * t by omega, hd, c_whyNot D, m_whyNotA D, qbd_some, qbd_some, qlt_e, qu_s, up_s]
    generalize hx : g.1 224 (40 * t + k) = d
    by_cases y : cv_why A g d = 0
    · rw [y, if_pos rfl, if_pos rfl, if_pos (show 0 ≤ 40 * (t : Int) + (k : Int) ∧ 40 * (t : Int) + (k : Int) < 160 by omega)]
      have D0 : DR w A (T0 + k) hc (qu g 212 21 0) := D.cg (fun _ _ => rfl) rfl (qu_ne (by decide)) (by rw [qu_s, up_n _ _ (by decide)])
      have y0 : cv_why A (qu g 212 21 0) d = 0 := by rw [cv_why_cg (qu_ne (by decide))]; exact y
      obtain ⟨h1, g1, e1, x1, D1, fc1, fm1⟩ := D0.does hw (by omega) y0
      have f3 := F_DX10_does _ _ _ _ x1
      rw [show (qu g 212 21 0).1 224 (40 * t + k) = d by rw [qu_ne (by decide)]; exact hx, e1, x1, qbd_some, qbd_some, qw_s (by omega)]
      have D1' : DR w A (T0 + ((k + 1 : Nat) : Int)) h1 g1 := by
        rw [show T0 + ((k + 1 : Nat) : Int) = T0 + (k : Int) + 1 by omega]
        exact D1
      have ci : ∀ i, 168 ≤ i → i ≤ 176 → h1.1 i = hc.1 i := fun i a b => fc1.fn (fun k => by unfold Pcw; omega)
      have mi : ∀ i, 223 ≤ i → i ≤ 224 → g1.1 i = g.1 i := fun i a b => by rw [f3.fn (fun k => by omega), qu_ne (by omega)]
      obtain ⟨h2, g2, r, e2, x2, D2, fc2, fm2, r1, r2, r3, r4, r5⟩ := ih (k + 1) Fc Fm h1 g1 (by omega) (by omega) (by omega) D1' (by rw [ci _ (by omega) (by omega)]; exact c2) (by rw [mi 223 (by omega) (by omega)]; exact m2) (fun j hj => by rw [ci _ (by omega) (by omega), mi 224 (by omega) (by omega)]; exact cn j hj) (by rw [f3.at 212 21 (by omega), qu_s, up_s])
      have fm0 : fr Pmd g (qu g 212 21 0) := fr.mk (fun i k z => by rw [qu_1, if_neg (by unfold Pmd at z; omega)]) rfl
      exact ⟨h2, g2, r, e2, x2, D2, fc1.tr fc2, (fm0.tr fm1).tr fm2, by omega, r2, r3, r4, fun z => by omega⟩
    · rw [if_neg y, if_neg y]
      have D0 : DR w A (T0 + k) hc (qu g 212 21 (cv_why A g d)) := D.cg (fun _ _ => rfl) rfl (qu_ne (by decide)) (by rw [qu_s, up_n _ _ (by decide)])
      refine ⟨hc, qu g 212 21 (cv_why A g d), k, rfl, rfl, ⟨D0.1, D0.2.1, D0.2.2.1, D0.2.2.2.grow (by omega)⟩, fr.rf, fr.mk (fun i k z => by rw [qu_1, if_neg (by unfold Pmd at z; omega)]) rfl, by omega, by omega, fun _ => ?_, fun z => by omega, fun _ => ⟨rfl, qu_ne (by decide)⟩⟩
      rw [show (qu g 212 21 (cv_why A g d)).1 224 (40 * t + k) = d by rw [qu_ne (by decide)]; exact hx, cv_why_cg (qu_ne (by decide)), qu_s, up_s]
      exact ⟨rfl, y⟩
end tls
