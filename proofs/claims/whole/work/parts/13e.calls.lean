/-! ===== throwsIt, lift, tides ===== -/
theorem IA.cg2 {n : Int} {hc hc' hm hm' : qH} (r : IA n hc hm) (e : ∀ i, (i = 167 ∨ 176 ≤ i) → i < 212 → hc'.1 i = hc.1 i) (e2 : ∀ k, 1912 ≤ k → hm'.1 213 k = hm.1 213 k) (e3 : hm'.1 214 = hm.1 214) : IA n hc' hm' := by
  unfold IA at *
  intro i hi
  rw [e 167 (by omega) (by omega), e3]
  obtain ⟨r1, r2⟩ := r i hi
  refine ⟨r1, ?_⟩
  rcases r2 with r2 | ⟨r2, Ai, a1, a2, a3, a4⟩
  · exact Or.inl r2
  · refine Or.inr ⟨r2, Ai, fun k hk => ?_, a2, a3.cg (fun j h1 h2 => e j (by omega) (by omega)), (a4.cg (fun j h1 h2 => e j (by omega) (by omega))).cb (fun j hj => e2 _ (by omega))⟩
    show hm'.1 213 (1912 * (i + 1) + k) = Ai k
    rw [e2 _ (by omega)]
    exact a1 k hk
section calls
variable {n : Int} {A : Nat → Int}
theorem RR.deed {hc hc3 hm hm3 : qH} (R : RR n A hc hm) (E : cE hc3 A (-1)) (O : cO hc3 A) (W : wr hc3 24 (fun j => hm3.1 213 (284 + j)) A (99 * (n + 1))) (P : PA n A hc3 hm3) (c : ∀ i k, (i ≤ 1 ∨ (i = 2 ∧ 1 ≤ k ∧ k < 3) ∨ (167 ≤ i ∧ i < 212)) → hc3.1 i k = hc.1 i k)
    (m : ∀ i k, ((i = 213 ∧ (k < 284 ∨ 1011 ≤ k)) ∨ i = 214 ∨ i = 215 ∨ (222 ≤ i ∧ i ≤ 224) ∨ (i = 212 ∧ (k = 5 ∨ k = 13 ∨ k = 14 ∨ k = 19))) → hm3.1 i k = hm.1 i k) : RR (n + 1) A hc3 hm3 := by
  obtain ⟨r1, r2, ⟨r3, r3'⟩, r4, r5, r6, r7, r8, r9⟩ := R.grow (m := n + 1) (by omega)
  have cf : ∀ i, (i ≤ 1 ∨ (167 ≤ i ∧ i < 212)) → hc3.1 i = hc.1 i := fun i hi => funext (fun k => c i k (by omega))
  have mf : ∀ i, (i = 214 ∨ i = 215 ∨ (222 ≤ i ∧ i ≤ 224)) → hm3.1 i = hm.1 i := fun i hi => funext (fun k => m i k (by omega))
  exact ⟨E, O, ⟨fun k hk => by rw [m 213 k (by omega)]; exact r3 k hk, by rw [m 212 19 (by omega)]; exact r3'⟩, W, ⟨P.1, P.2.1, P.2.2.1, fun i hi => (P.2.2.2 i hi).grow (by omega)⟩, r6.cg (c 0 1 (by omega)) (cf 1 (by omega)) (m 212 5 (by omega)) (mf 215 (by omega)), r7.cg (c 2 1 (by omega)) (c 2 2 (by omega)) (m 212 13 (by omega)) (m 212 14 (by omega)), r8.cg (fun i a b => cf i (by omega)) (mf 222 (by omega)) (mf 223 (by omega)) (mf 224 (by omega)), r9.cg2 (fun i a b => cf i (by omega)) (fun k hk => m 213 k (by omega)) (mf 214 (by omega))⟩
theorem RR.dr {hc hm : qH} (R : RR n A hc hm) : DR 24 A (99 * n) hc hm := ⟨R.1, R.2.1, R.2.2.1, R.2.2.2.1⟩
theorem DR.cg {w : Nat} {T : Int} {hc hc' hm hm' : qH} (D : DR w A T hc hm) (c : ∀ i, ((4 ≤ i ∧ i ≤ 12) ∨ (w ≤ i ∧ i ≤ w + 9) ∨ (225 ≤ i ∧ i ≤ 226)) → hc'.1 i = hc.1 i) (f : hc'.2 = hc.2) (m : hm'.1 213 = hm.1 213) (m19 : hm'.1 212 19 = hm.1 212 19) : DR w A T hc' hm' := by
  obtain ⟨E, O, ⟨q, e19⟩, W⟩ := D
  refine ⟨⟨E.1, E.2.1.cg (fun i a b => c i (by omega)), by rw [c 4 (by omega)]; exact E.2.2.1, E.2.2.2.cg (c 225 (by omega)) (by rw [f])⟩, O.cg (c 226 (by omega)) (by rw [f]), ⟨by rw [m]; exact q, by rw [m19]; exact e19⟩, ?_⟩
  rw [m]
  exact W.cg (fun i a b => c i (by omega))
/-- a call that did some is noted by both -/
theorem RR.done {hc h1 h3 hm g1 g2 : qH} {s : Nat} (R : RR n A hc hm) (w1 : wr h1 (nxs hc) (fun j => hm.1 213 (284 + j)) A (99 * n)) (o1 : ∀ i, ¬ (nxs hc ≤ i ∧ i ≤ nxs hc + 9) → h1.1 i = hc.1 i)
    (ka : ∀ j, j < 66 → g1.1 219 j = hm.1 213 (284 + j)) (kf : fr (fun i _ => i = 219) hm g1) (D : DR 24 A (99 * (n + 1)) h3 g2) (fm : fr Pmd g1 g2) (hs : s = if hc.1 44 2 = 10 then 1 else 0)
    (c1 : h3.1 44 1 = (hc.1 44 1 + (s : Nat)) % 11) (c2 : h3.1 44 2 = hc.1 44 2 + 1 - (s : Nat)) (ring : ∀ i, 46 ≤ i → i ≤ 155 → h3.1 i = h1.1 i) (oth : ∀ i k, (i ≤ 1 ∨ (i = 2 ∧ 1 ≤ k ∧ k < 3) ∨ (167 ≤ i ∧ i < 212)) → h3.1 i k = hc.1 i k) :
    ∃ g3, DX10_notes g2 = some (0, g3) ∧ RR (n + 1) A h3 g3 ∧ (∀ k, k < 350 → g3.1 213 k = g2.1 213 k) := by
  have P := R.past
  have hr := nxs_r P
  have p2 := P.2.1
  have p3 := P.2.2.1
  have g13 : ∀ k, (k < 284 ∨ 350 ≤ k) → g2.1 213 k = hm.1 213 k := fun k hk => by rw [fm.at 213 k (by unfold Pmd; omega), kf.at 213 k (by omega)]
  have g19 : g2.1 219 = g1.1 219 := fm.fn (fun k => by unfold Pmd; omega)
  obtain ⟨g3, s', e3, hs', a1, a2, a3, a4⟩ := m_notes (h := g2) (by rw [g13 350 (by omega)]; exact p3)
  have f3 := F_DX10_notes _ _ _ e3
  rw [g13 350 (by omega), ← p2, ← hs] at hs'
  subst hs'
  rw [g13 350 (by omega)] at a1 a2 a3
  refine ⟨g3, e3, ?_, fun k hk => a4 k (by omega)⟩
  refine R.deed D.1 D.2.1 ?_ ?_ oth (fun i k g => ?_)
  · refine D.2.2.2.cb (fun j hj => a4 _ (by omega))
  · refine P.push (old := fun j => hm.1 213 (284 + j)) hs ?_ ?_ c1 c2 a1 (fun i j hi hj => ?_) (fun j hj => ?_)
    · exact w1.cg (fun i a b => ring i (by omega) (by omega))
    · intro i a b c
      rw [ring i a b, o1 i c]
    · rw [a2 i j hi hj, g13 _ (by omega)]
    · rw [a3 j hj, g19, ka j hj]
  · by_cases e : i = 213
    · subst e
      rw [a4 k (by omega), g13 k (by omega)]
    · rw [f3.at i k (by omega), fm.at i k (by unfold Pmd; omega), kf.at i k (by omega)]
theorem m_keeps (h : qH) : ∃ h', DX10_keepsAll h = some (0, h') ∧ (∀ j, j < 66 → h'.1 219 j = h.1 213 (284 + j)) ∧ fr (fun i _ => i = 219) h h' := by
  obtain ⟨h', e1, e2⟩ := m_keepsAll h
  exact ⟨h', e1, e2, F_DX10_keepsAll _ _ _ e1⟩
theorem c_whyThrown {h : qH} {w : Nat} (G : cG A) (r : cR h 5 A) (f to : Int) : DX7_whyNotThrown w 5 f to h = some (if (0 ≤ f ∧ f < A 4) ∧ ¬ f = to ∧ (to = -1 ∨ (0 ≤ to ∧ to < A 4)) then (if cv_to A f = -1 then 2 else if h.1 w 1 < 8 then 0 else 3) else 1, h) := by
  unfold DX7_whyNotThrown DX7_whyNotThrown_b28
  rw [c_isShore G r, qbd_some]
  by_cases k : 0 ≤ f ∧ f < A 4
  · rw [if_pos k, if_neg (show ¬ (1 : Int) = 0 by decide), c_throwCell G r, if_pos k]
    simp only [qbd_some]
    by_cases k2 : f = to
    · rw [if_pos k2, if_neg (fun g => g.2.1 k2)]
    · rw [if_neg k2]
      by_cases k3 : to = -1
      · rw [if_pos k3, if_pos (show (0 ≤ f ∧ f < A 4) ∧ ¬ f = to ∧ (to = -1 ∨ (0 ≤ to ∧ to < A 4)) from ⟨k, k2, Or.inl k3⟩)]
        (repeat' split) <;> first | rfl | contradiction
      · rw [if_neg k3, c_isShore G r, qbd_some]
        by_cases k4 : 0 ≤ to ∧ to < A 4
        · rw [if_pos k4, if_pos (show ¬ (1 : Int) = 0 by decide), if_pos (show (0 ≤ f ∧ f < A 4) ∧ ¬ f = to ∧ (to = -1 ∨ (0 ≤ to ∧ to < A 4)) from ⟨k, k2, Or.inr k4⟩), c_throwCell G r, if_pos k, qbd_some]
          (repeat' split) <;> first | rfl | contradiction
        · rw [if_neg k4, if_neg (show ¬ ¬ (0 : Int) = 0 by decide), if_neg (show ¬ ((0 ≤ f ∧ f < A 4) ∧ ¬ f = to ∧ (to = -1 ∨ (0 ≤ to ∧ to < A 4))) from fun g => by rcases g.2.2 with g | g; exact k3 g; exact k4 g)]
  · rw [if_neg k, if_pos rfl, if_neg (fun g => k g.1)]
theorem m_whyThrow {h : qH} (q : sq A (h.1 213)) (G : cG A) (f to : Int) (hw : 0 ≤ h.1 213 348 ∧ h.1 213 348 ≤ 8) : DX10_whyThrow f to h = some (if (0 ≤ f ∧ f < A 4) ∧ ¬ f = to ∧ (to = -1 ∨ (0 ≤ to ∧ to < A 4)) then (if cv_to A f = -1 then 2 else if h.1 213 348 < 8 then 0 else 3) else 1, h) := by
  have h4 := G.2.2.1
  unfold DX10_whyThrow DX10_whyThrow_b24
  rw [m_isShoreA q G, qbd_some]
  simp only [qcmp_z]
  by_cases k : 0 ≤ f ∧ f < A 4
  · rw [if_pos k, if_neg (show ¬ (1 : Int) = 0 by decide), qw_e (x := f) (by omega) (by omega), m_toA q G k.1 k.2]
    simp only [qbd_some]
    have fin : (if ¬ f = to then if ¬ cv_to A f = -1 then if ¬ h.1 213 348 = 8 then some ((0 : Int), h) else some (3, h) else some (2, h) else some (1, h)) = some (if ¬ f = to then (if cv_to A f = -1 then 2 else if h.1 213 348 < 8 then 0 else 3) else 1, h) := by
      (repeat' split) <;> first | rfl | omega
    rw [fin]
    by_cases k3 : to = -1
    · rw [if_pos k3]
      by_cases k2 : f = to
      · rw [if_neg (fun g => g k2), if_neg (show ¬ ((0 ≤ f ∧ f < A 4) ∧ ¬ f = to ∧ (to = -1 ∨ (0 ≤ to ∧ to < A 4))) from fun g => g.2.1 k2)]
      · rw [if_pos k2, if_pos (show (0 ≤ f ∧ f < A 4) ∧ ¬ f = to ∧ (to = -1 ∨ (0 ≤ to ∧ to < A 4)) from ⟨k, k2, Or.inl k3⟩)]
    · rw [if_neg k3, m_isShoreA q G, qbd_some]
      by_cases k4 : 0 ≤ to ∧ to < A 4
      · rw [if_pos k4, if_neg (show ¬ (1 : Int) = 0 by decide), m_toA q G k.1 k.2, qbd_some, fin]
        by_cases k2 : f = to
        · rw [if_neg (fun g => g k2), if_neg (show ¬ ((0 ≤ f ∧ f < A 4) ∧ ¬ f = to ∧ (to = -1 ∨ (0 ≤ to ∧ to < A 4))) from fun g => g.2.1 k2)]
        · rw [if_pos k2, if_pos (show (0 ≤ f ∧ f < A 4) ∧ ¬ f = to ∧ (to = -1 ∨ (0 ≤ to ∧ to < A 4)) from ⟨k, k2, Or.inr k4⟩)]
      · rw [if_neg k4, if_pos rfl, if_neg (show ¬ ((0 ≤ f ∧ f < A 4) ∧ ¬ f = to ∧ (to = -1 ∨ (0 ≤ to ∧ to < A 4))) from fun g => by rcases g.2.2 with g | g; exact k3 g; exact k4 g)]
  · rw [if_neg k, if_pos rfl, if_neg (show ¬ ((0 ≤ f ∧ f < A 4) ∧ ¬ f = to ∧ (to = -1 ∨ (0 ≤ to ∧ to < A 4))) from fun g => k g.1)]
theorem t_throwsIt {hc hm : qH} (R : RR n A hc hm) (hn : n ≤ 512) {f to hv : Int} (hh : hv = 0 ∨ hv = 1) : Out n (DX9_throwsIt f to hv hc) (DX10_throwsIt f to hv hm) := by
  have R1 := R.m0
  unfold DX9_throwsIt DX10_throwsIt
  simp only [qlt]
  generalize qu hm 212 0 0 = hm1 at R1
  have G := R1.1.1
  have th := R1.thr
  have P := R1.past
  rw [c_whyThrown G R1.1.2.1, m_whyThrow R1.2.2.1.1 G f to th.1, qbd_some, qbd_some, th.2]
  by_cases k : ((0 ≤ f ∧ f < A 4) ∧ ¬ f = to ∧ (to = -1 ∨ (0 ≤ to ∧ to < A 4))) ∧ ¬ cv_to A f = -1 ∧ hm1.1 213 348 < 8
  · rw [if_pos k.1, if_neg k.2.1, if_pos k.2.2, if_pos rfl, if_pos rfl]
    obtain ⟨h1, e1, w1, o1, f1⟩ := c_draft R1
    have a44 : h1.1 44 = hc.1 44 := o1 44 (by have := nxs_r P; omega)
    obtain ⟨h2, s, e2, hs, c1, c2, o2, f2⟩ := c_commit (hc := h1) (by rw [a44]; exact P.1) (by rw [a44, P.2.1]; exact P.2.2.1)
    obtain ⟨g1, x1, ka, kf⟩ := m_keeps hm1
    rw [a44] at hs c1 c2
    have hr := nxs_r P
    have D2 : DR 24 A (99 * n) h2 g1 := R1.dr.cg (fun i hi => by rw [o2 i (by omega), o1 i (by omega)]) (by rw [f2, f1]) (kf.fn (fun k => by omega)) (kf.at 212 19 (by omega))
    have g48 : g1.1 213 348 = hm1.1 213 348 := kf.at 213 348 (by omega)
    obtain ⟨h3, g2, e3, x2, D3, fc3, fm3, l3⟩ := D2.launch (f := f) (to := to) (hv := hv) (Or.inl rfl) (by omega) k.1.1 k.2.1 k.1.2.2 hh (by rw [g48]; exact k.2.2)
    have D3' : DR 24 A (99 * (n + 1)) h3 g2 := ⟨D3.1, D3.2.1, D3.2.2.1, D3.2.2.2.grow (by omega)⟩
    obtain ⟨g3, x3, R3, t3⟩ := R1.done (h3 := h3) w1 o1 ka kf D3' fm3 hs (by rw [fc3.at 44 1 (by unfold Pcw; omega)]; exact c1) (by rw [fc3.at 44 2 (by unfold Pcw; omega)]; exact c2) (fun i a b => by rw [fc3.fn (i := i) (fun k => by unfold Pcw; omega), o2 i (by omega)]) (fun i k g => by rw [fc3.at i k (by unfold Pcw; omega), o2 i (by omega), o1 i (by omega)])
    rw [e1, x1, qbd_some, qbd_some, e2, x2, qbd_some, qbd_some, e3, x3, qbd_some, qbd_some, t3 348 (by omega), l3, qw_e (by omega) (by omega), show g1.1 213 348 + 1 - 1 = g1.1 213 348 by omega]
    exact ⟨_, h3, g3, A, rfl, rfl, R3⟩
  · have e0 : ¬ (if (0 ≤ f ∧ f < A 4) ∧ ¬ f = to ∧ (to = -1 ∨ (0 ≤ to ∧ to < A 4)) then (if cv_to A f = -1 then (2 : Int) else if hm1.1 213 348 < 8 then 0 else 3) else 1) = 0 := by
      (repeat' split) <;> first | decide | (exact absurd ⟨by assumption, by assumption, by assumption⟩ k)
    rw [if_neg e0, if_neg e0]
    exact Out.of R1 rfl rfl
end calls
