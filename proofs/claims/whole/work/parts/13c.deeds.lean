/-! ===== single deeds, on the waters w of the class and the bottles of the reference ===== -/
def Pcw (w : Nat) (i k : Nat) : Prop := (14 ≤ i ∧ i ≤ 15) ∨ i = 225 ∨ i = w ∨ (w + 2 ≤ i ∧ i ≤ w + 9)
def Pmd (i k : Nat) : Prop := (i = 212 ∧ (k = 18 ∨ k = 21 ∨ k = 22)) ∨ (i = 213 ∧ 284 ≤ k ∧ k < 350) ∨ (217 ≤ i ∧ i ≤ 218)
def DR (w : Nat) (A : Nat → Int) (T : Int) (hc hm : qH) : Prop := cE hc A (-1) ∧ cO hc A ∧ (sq A (hm.1 213) ∧ hm.1 212 19 = -1) ∧ wr hc w (fun j => hm.1 213 (284 + j)) A T
theorem sq.fr {A : Nat → Int} {hm hm' : qH} (q : sq A (hm.1 213)) (f : fr Pmd hm hm') : sq A (hm'.1 213) := fun k hk => by
  rw [f.at 213 k (by unfold Pmd; omega)]
  exact q k hk
theorem m_sto_l {b : Nat} (hb : b < 8) : ∀ (m k F : Nat) (h : qH), k + m = 8 → m < F → ∃ h', DX10_stores_l2 F (b : Int) (k : Int) h = some (0, h') ∧ (∀ j, k ≤ j → j < 8 → h'.1 213 (284 + (8 * b + j)) = h.1 217 j) ∧ (∀ i j, ¬ (i = 213 ∧ 284 + (8 * b + k) ≤ j ∧ j < 284 + (8 * b + 8)) → h'.1 i j = h.1 i j) ∧ h'.2 = h.2 := by
  intro m
  induction m with
  | zero =>
    intro k F h hk hF
    obtain ⟨F, rfl⟩ : ∃ n, F = n + 1 := ⟨F - 1, by omega⟩
    rw [DX10_stores_l2.eq_2, if_pos (by omega)]
    exact ⟨h, rfl, fun j a b => by omega, fun _ _ _ => rfl, rfl⟩
  | succ m ih =>
    intro k F h hk hF
    obtain ⟨F, rfl⟩ : ∃ n, F = n + 1 := ⟨F - 1, by omega⟩
    obtain ⟨h', e1, e2, e3, e4⟩ := ih (k + 1) F (qu h 213 (284 + (8 * b + k)) (h.1 217 k)) (by omega) (by omega)
    rw [DX10_stores_l2.eq_2, if_neg (by omega), if_pos (by omega), qw_e (x := 8 * (b : Int)) (by omega) (by omega), qw_e (x := 284 + 8 * (b : Int)) (by omega) (by omega), qw_e (x := 284 + 8 * (b : Int) + (k : Int)) (by omega) (by omega), if_pos (by omega), show (284 + 8 * (b : Int) + (k : Int)).toNat = 284 + (8 * b + k) by omega, Int.toNat_natCast, qw_s (by omega)]
    simp only [qlt]
    refine ⟨h', e1, fun j a c => ?_, fun i j g => ?_, by rw [e4]; rfl⟩
    · by_cases ej : j = k
      · rw [e3 213 _ (by omega), ej, qu_s, up_s]
      · rw [e2 j (by omega) c, qu_ne (by decide)]
    · rw [e3 i j (by omega), qu_1, if_neg (by omega)]
theorem m_stores {b : Int} (hb : 0 ≤ b ∧ b < 8) (h : qH) : ∃ h', DX10_stores b h = some (0, h') ∧ (∀ j, j < 8 → h'.1 213 (284 + (8 * b.toNat + j)) = h.1 217 j) ∧ (∀ i j, ¬ (i = 213 ∧ 284 + 8 * b.toNat ≤ j ∧ j < 284 + (8 * b.toNat + 8)) → h'.1 i j = h.1 i j) ∧ h'.2 = h.2 := by
  obtain ⟨n, rfl⟩ := Int.eq_ofNat_of_zero_le hb.1
  obtain ⟨h', e1, e2, e3, e4⟩ := m_sto_l (b := n) (by omega) 8 0 LF h rfl (by unfold LF; omega)
  rw [z0] at e1
  exact ⟨h', e1, fun j hj => e2 j (by omega) hj, fun i j g => e3 i j (by simp only [Int.ofNat_eq_natCast, Int.toNat_natCast] at g; omega), e4⟩
/-- one bottle is another: what the waters hold then -/
theorem wr.set {hc hc' : qH} {w b : Nat} {B B' A v : Nat → Int} {T : Int} (r : wr hc w B A T) (hb : b < 8) (e1 : hc'.1 w 1 = B' 64) (e2 : hc'.1 w 2 = B' 65) (t0 : B' 65 = B 65) (t1 : B' 64 = B 64 ∨ (B' 64 = B 64 + 1 ∧ B 64 = b)) (t2 : B' 64 ≤ 8)
    (ob : ∀ i, i < 8 → ¬ i = b → hc'.1 (w + 2 + i) = hc.1 (w + 2 + i)) (oB : ∀ j, j < 64 → ¬ (8 * b ≤ j ∧ j < 8 * b + 8) → B' j = B j) (v1 : nb (hc'.1 (w + 2 + b)) = nb v) (v2 : ∀ j, j < 8 → B' (8 * b + j) = v j) (bv : cB A (B 65) v) (kv : cK v) : wr hc' w B' A T := by
  obtain ⟨r1, r2, r3, r4, r5⟩ := r
  refine ⟨e1, e2, by omega, by rw [t0]; exact r4, fun i hi => ?_⟩
  rw [t0]
  by_cases ei : i = b
  · subst ei
    refine ⟨?_, cB_cg bv v2, fun q => ?_⟩
    · rw [v1]
      exact nb_eq (fun j hj => (v2 j hj).symm)
    · have q' : v 0 = 2 := by rw [← v2 0 (by decide)]; exact q
      show 0 ≤ B' (8 * i + 7)
      rw [v2 7 (by decide)]
      exact kv q'
  · obtain ⟨a1, a2, a3⟩ := r5 i (by omega)
    have oo : ∀ j, j < 8 → B' (8 * i + j) = B (8 * i + j) := fun j hj => oB _ (by omega) (by omega)
    refine ⟨?_, cB_cg a2 oo, fun q => ?_⟩
    · rw [ob i (by omega) ei, a1]
      exact nb_eq (fun j hj => (oo j hj).symm)
    · have q' : B (8 * i + 0) = 2 := by rw [← oo 0 (by decide)]; exact q
      show 0 ≤ B' (8 * i + 7)
      rw [oo 7 (by decide)]
      exact a3 q'
section deeds
variable {w : Nat} {A : Nat → Int} {T : Int}
theorem DR.at {hc hm : qH} (D : DR w A T hc hm) {b k : Nat} (hb : (b : Int) < hm.1 213 348) (hk : k < 8) : hc.1 (w + 2 + b) k = hm.1 213 (284 + (8 * b + k)) := by
  have := congrFun (D.2.2.2.2.2.2.2 b hb).1 k
  rw [nb_at _ hk, nb_at _ hk] at this
  exact this
/-- a throw -/
theorem DR.launch {hc hm : qH} {f to hv : Int} (hw : w = 24 ∨ w = 34) (D : DR w A T hc hm) (hT : T ≤ 100000) (hf : 0 ≤ f ∧ f < A 4) (hto : cv_to A f ≠ -1) (ht : to = -1 ∨ (0 ≤ to ∧ to < A 4)) (hh : hv = 0 ∨ hv = 1) (h8 : hm.1 213 348 < 8) :
    ∃ hc' hm', DX7_launch w 5 f to hv hc = some (hm.1 213 348, hc') ∧ DX10_throwsOne f to hv hm = some (0, hm') ∧ DR w A T hc' hm' ∧ fr (Pcw w) hc hc' ∧ fr Pmd hm hm' ∧ hm'.1 213 348 = hm.1 213 348 + 1 := by
  obtain ⟨E, O, ⟨q, e19⟩, W⟩ := D
  have G := E.1
  have r := E.2.1
  have h4 := G.2.2.1
  have w1 : hc.1 w 1 = hm.1 213 348 := W.1
  have w2 : hc.1 w 2 = hm.1 213 349 := W.2.1
  have w3 : 0 ≤ hm.1 213 348 ∧ hm.1 213 348 ≤ 8 := W.2.2.1
  have w4 : 0 ≤ hm.1 213 349 ∧ hm.1 213 349 ≤ T := W.2.2.2.1
  obtain ⟨b, hb⟩ := Int.eq_ofNat_of_zero_le w3.1
  have hb' : hm.1 213 348 = (b : Int) := hb
  have hr2 := cv_to_n G hf hto
  have bv : cB A 0 (cv_new f to hv (cv_to A f)) := cB_new ⟨hr2.1, hr2.2.1⟩ hr2.2.2 (by omega) (by omega) hh
  unfold DX7_launch DX10_throwsOne
  rw [w1, if_neg (by omega), if_pos h8, if_pos (by omega), c_throwCell G r, if_pos hf, m_toA q G hf.1 hf.2]
  simp only [qbd_some]
  rw [hb', Int.toNat_natCast]
  obtain ⟨h1, e1, v1⟩ := c_launch (f := f) (to := to) (hv := hv) (k := cv_to A f) (i := w + 2 + b) hh hc
  have f1 := F_DX0_launch _ _ _ _ _ _ _ _ e1
  obtain ⟨g1, x1, y1⟩ := m_thrown (f := f) (to := to) (a3 := hv) (k := cv_to A f) hm
  rw [show (if hv = 0 then (0 : Int) else 1) = hv by split <;> omega] at y1
  have k1 := F_DX10_isThrown _ _ _ _ _ _ _ x1
  have a48 : g1.1 213 348 = (b : Int) := by rw [k1.at 213 348 (by omega)]; exact hb'
  obtain ⟨g2, x2, y2, z2, l2⟩ := m_stores (b := (b : Int)) (by omega) g1
  rw [Int.toNat_natCast] at y2 z2
  have b48 : g2.1 213 348 = (b : Int) := by rw [z2 213 348 (by omega)]; exact a48
  have b41 : h1.1 w 1 = (b : Int) := by rw [f1.at w 1 (by omega), w1]; exact hb'
  rw [e1, x1]
  simp only [qbd_some, qlt]
  rw [a48, x2]
  simp only [qbd_some]
  rw [b48, b41, qw_e (x := (b : Int) + 1) (by omega) (by omega), qu_s, up_s, qw_e (x := (b : Int) + 1 - 1) (by omega) (by omega), show (b : Int) + 1 - 1 = (b : Int) by omega]
  have fc : fr (Pcw w) hc (qu h1 w 1 ((b : Int) + 1)) := by
    refine ⟨fun i k g => ?_, fun _ => f1.2.1 (by omega), fun _ => f1.2.2.1 (by omega), fun _ => f1.2.2.2 (by omega)⟩
    unfold Pcw at g
    rw [qu_1, if_neg (by omega), f1.at i k (by omega)]
  have fm : fr Pmd hm (qu g2 213 348 ((b : Int) + 1)) := by
    refine ⟨fun i k g => ?_, fun _ => ?_, fun _ => ?_, fun _ => ?_⟩
    · unfold Pmd at g
      rw [qu_1, if_neg (by omega), z2 i k (by omega), k1.at i k (by omega)]
    · show g2.2.1 = _
      rw [l2]
      exact k1.2.1 (by omega)
    · show g2.2.2.1 = _
      rw [l2]
      exact k1.2.2.1 (by omega)
    · show g2.2.2.2 = _
      rw [l2]
      exact k1.2.2.2 (by omega)
  have m48 : (qu g2 213 348 ((b : Int) + 1)).1 213 348 = (b : Int) + 1 := by rw [qu_s, up_s]
  have m49 : (qu g2 213 348 ((b : Int) + 1)).1 213 349 = hm.1 213 349 := by rw [qu_s, up_n _ _ (by decide), z2 213 349 (by omega), k1.at 213 349 (by omega)]
  have o225 : (qu h1 w 1 ((b : Int) + 1)).1 225 = hc.1 225 := by rw [qu_ne (by omega)]; exact f1.fn (fun k => by omega)
  have o226 : (qu h1 w 1 ((b : Int) + 1)).1 226 = hc.1 226 := by rw [qu_ne (by omega)]; exact f1.fn (fun k => by omega)
  refine ⟨_, _, rfl, rfl, ⟨E.kp fc (fun j k a b => by unfold Pcw; omega) (E.2.2.2.cg o225 (f1.2.1 (by omega))), O.cg o226 (f1.2.2.1 (by omega)), ⟨q.fr fm, by rw [fm.at 212 19 (by unfold Pmd; omega)]; exact e19⟩, ?_⟩, fc, fm, m48⟩
  refine W.set (b := b) (v := cv_new f to hv (cv_to A f)) (by omega) ?_ ?_ m49 (Or.inr ⟨by show (qu g2 213 348 ((b : Int) + 1)).1 213 348 = hm.1 213 348 + 1; rw [m48, hb'], hb'⟩) (by show (qu g2 213 348 ((b : Int) + 1)).1 213 348 ≤ 8; rw [m48]; omega) (fun i hi ne => ?_) (fun j hj ne => ?_) ?_ (fun j hj => ?_) (bv.grow w4.1) (fun g => absurd g (by show ¬ (0 : Int) = 2; decide))
  · rw [qu_s, up_s]
    exact m48.symm
  · rw [qu_s, up_n _ _ (by decide), f1.at w 2 (by omega), w2]
    exact m49.symm
  · rw [qu_ne (by omega)]
    exact f1.fn (fun k => by omega)
  · show (qu g2 213 348 ((b : Int) + 1)).1 213 (284 + j) = hm.1 213 (284 + j)
    rw [qu_s, up_n _ _ (by omega), z2 213 (284 + j) (by omega), k1.at 213 (284 + j) (by omega)]
  · rw [qu_ne (by omega), v1, ← v1, nb_nb]
  · show (qu g2 213 348 ((b : Int) + 1)).1 213 (284 + (8 * b + j)) = _
    rw [qu_s, up_n _ _ (by omega), y2 j hj, ← y1, nb_at _ hj]
/-- a bottle lifted -/
theorem DR.raise {hc hm : qH} {b : Nat} (hw : w = 24 ∨ w = 34) (D : DR w A T hc hm) (hb : (b : Int) < hm.1 213 348) (s0 : hm.1 213 (284 + (8 * b + 0)) = 0) :
    DR w A T (qu hc (w + 2 + b) 0 5) (qu hm 213 (284 + (8 * b + 0)) 5) ∧ fr (Pcw w) hc (qu hc (w + 2 + b) 0 5) ∧ fr Pmd hm (qu hm 213 (284 + (8 * b + 0)) 5) := by
  obtain ⟨E, O, ⟨q, e19⟩, W⟩ := D
  have w3 : 0 ≤ hm.1 213 348 ∧ hm.1 213 348 ≤ 8 := W.2.2.1
  obtain ⟨n1, n2, n3⟩ := W.2.2.2.2 b hb
  have fc : fr (Pcw w) hc (qu hc (w + 2 + b) 0 5) := fr.mk (fun i k g => by unfold Pcw at g; rw [qu_1, if_neg (by omega)]) rfl
  have fm : fr Pmd hm (qu hm 213 (284 + (8 * b + 0)) 5) := fr.mk (fun i k g => by unfold Pmd at g; rw [qu_1, if_neg (by omega)]) rfl
  refine ⟨⟨E.kp fc (fun j k a b => by unfold Pcw; omega) (E.2.2.2.cg (qu_ne (by omega)) rfl), O.cg (qu_ne (by omega)) rfl, ⟨q.fr fm, by rw [fm.at 212 19 (by unfold Pmd; omega)]; exact e19⟩, ?_⟩, fc, fm⟩
  have m48 : (qu hm 213 (284 + (8 * b + 0)) 5).1 213 348 = hm.1 213 348 := by rw [qu_s, up_n _ _ (by omega)]
  have m49 : (qu hm 213 (284 + (8 * b + 0)) 5).1 213 349 = hm.1 213 349 := by rw [qu_s, up_n _ _ (by omega)]
  refine W.set (b := b) (v := up (fun k => hm.1 213 (284 + (8 * b + k))) 0 5) (by omega) ?_ ?_ m49 (Or.inl m48) (by show (qu hm 213 (284 + (8 * b + 0)) 5).1 213 348 ≤ 8; rw [m48]; exact w3.2) (fun i hi ne => qu_ne (by omega)) (fun j hj ne => ?_) ?_ (fun j hj => ?_) ?_ (fun g => absurd g (by rw [up_s]; decide))
  · rw [qu_ne (by omega)]
    exact W.1.trans m48.symm
  · rw [qu_ne (by omega)]
    exact W.2.1.trans m49.symm
  · show (qu hm 213 (284 + (8 * b + 0)) 5).1 213 (284 + j) = hm.1 213 (284 + j)
    rw [qu_s, up_n _ _ (by omega)]
  · rw [qu_s, nb_up _ (by decide), nb_up _ (by decide), n1]
  · show (qu hm 213 (284 + (8 * b + 0)) 5).1 213 (284 + (8 * b + j)) = _
    rw [qu_s]
    unfold up
    by_cases e : j = 0
    · rw [if_pos (by omega), if_pos e]
    · rw [if_neg (by omega), if_neg e]
  · obtain ⟨b0, b1, b2, b3, b4, b5, b6, b7, b8⟩ := n2
    refine ⟨?_, ?_, ?_, ?_, ?_, ?_, ?_, ?_, ?_⟩ <;> simp only [up, if_true, if_false, Nat.reduceEqDiff, reduceIte] <;> first | omega | exact b1 | exact b4 | exact b5 | exact b6 | exact b7 | exact b8 | (intro h; omega) | skip
end deeds
