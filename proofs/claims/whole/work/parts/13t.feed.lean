/-! ===== feed: both ===== -/
section fed
variable {n : Int} {A : Nat → Int}
theorem RR.tape {hc hm hc' hm' : qH} {p : Int} (R : RR n A hc hm) (D : FD hc hm hc' hm' p) : RR n A hc' hm' := by
  obtain ⟨t, d1, d2, d3, d4⟩ := D
  obtain ⟨r1, r2, ⟨r3, r3'⟩, r4, r5, r6, r7, r8, r9⟩ := R
  have c : ∀ i, 2 ≤ i → hc'.1 i = hc.1 i := fun i hi => funext (fun k => d2 i k (by omega))
  have m : ∀ i, ¬ i = 215 → ¬ i = 212 → hm'.1 i = hm.1 i := fun i h1 h2 => funext (fun k => d4 i k h1 (by omega))
  have m13 := m 213 (by decide) (by decide)
  refine ⟨⟨r1.1, r1.2.1.cg (fun i a b => c i (by omega)), by rw [c 4 (by omega)]; exact r1.2.2.1, r1.2.2.2.cg (c 225 (by omega)) (by rw [d3])⟩, r2.cg (c 226 (by omega)) (by rw [d3]), ⟨by rw [m13]; exact r3, by rw [d4 212 19 (by decide) (by decide)]; exact r3'⟩, ?_, r5.cg (fun i a b => c i (by omega)) m13, t, r7.cg (by rw [c 2 (by omega)]) (by rw [c 2 (by omega)]) (d4 212 13 (by decide) (by decide)) (d4 212 14 (by decide) (by decide)), r8.cg (fun i a b => c i (by omega)) (m 222 (by decide) (by decide)) (m 223 (by decide) (by decide)) (m 224 (by decide) (by decide)), r9.cg (fun i a b => c i (by omega)) m13 (m 214 (by decide) (by decide))⟩
  rw [m13]
  exact r4.cg (fun i a b => c i (by omega))
theorem t_feed {hc hm : qH} (R : RR n A hc hm) (a1 a2 a3 a4 a5 : Int) : Out n (DX9_feed a1 a2 a3 a4 a5 hc) (DX10_feed a1 a2 a3 a4 a5 hm) := by
  have R1 := R.m0
  unfold DX9_feed DX10_feed
  rw [qlt_e]
  generalize qu hm 212 0 0 = hm1 at R1
  have T := R1.2.2.2.2.2.1
  have tp := T.2.1
  have tc := T.1
  have D0 : FD hc hm1 hc hm1 (hm1.1 212 5) := ⟨T, rfl, fun _ _ _ => rfl, rfl, fun _ _ _ _ => rfl⟩
  rw [tc]
  generalize hm1.1 212 5 = p at D0 tp
  rw [qw_e (by omega) (by omega)]
  by_cases k : p + 20 ≤ 900
  · rw [if_pos k, if_pos k]
    obtain ⟨e1, D1, u1, u2, u3, u4⟩ := c_t4 a1 D0 (by omega)
    have x1 := fun F => m_f0 (F := F) (a1 := a1) (a2 := a2) (a3 := a3) (a4 := a4) (a5 := a5) (p := p) (by omega) u1 u2 u3 u4
    generalize cst a1 0 (cst a1 8 (cst a1 16 (cst a1 24 hc))) = h1 at e1 D1
    generalize mst a1 0 (mst a1 8 (mst a1 16 (mst a1 24 hm1))) = g1 at D1 x1
    clear u1 u2 u3 u4
    obtain ⟨e2, D2, u1, u2, u3, u4⟩ := c_t4 a2 D1 (by omega)
    have x2 := fun F => m_f1 (F := F) (a1 := a1) (a2 := a2) (a3 := a3) (a4 := a4) (a5 := a5) (p := p + 4) (by omega) u1 u2 u3 u4
    generalize cst a2 0 (cst a2 8 (cst a2 16 (cst a2 24 h1))) = h2 at e2 D2
    generalize mst a2 0 (mst a2 8 (mst a2 16 (mst a2 24 g1))) = g2 at D2 x2
    clear u1 u2 u3 u4
    obtain ⟨e3, D3, u1, u2, u3, u4⟩ := c_t4 a3 D2 (by omega)
    have x3 := fun F => m_f2 (F := F) (a1 := a1) (a2 := a2) (a3 := a3) (a4 := a4) (a5 := a5) (p := p + 4 + 4) (by omega) u1 u2 u3 u4
    generalize cst a3 0 (cst a3 8 (cst a3 16 (cst a3 24 h2))) = h3 at e3 D3
    generalize mst a3 0 (mst a3 8 (mst a3 16 (mst a3 24 g2))) = g3 at D3 x3
    clear u1 u2 u3 u4
    obtain ⟨e4, D4, u1, u2, u3, u4⟩ := c_t4 a4 D3 (by omega)
    have x4 := fun F => m_f3 (F := F) (a1 := a1) (a2 := a2) (a3 := a3) (a4 := a4) (a5 := a5) (p := p + 4 + 4 + 4) (by omega) u1 u2 u3 u4
    generalize cst a4 0 (cst a4 8 (cst a4 16 (cst a4 24 h3))) = h4 at e4 D4
    generalize mst a4 0 (mst a4 8 (mst a4 16 (mst a4 24 g3))) = g4 at D4 x4
    clear u1 u2 u3 u4
    obtain ⟨e5, D5, u1, u2, u3, u4⟩ := c_t4 a5 D4 (by omega)
    have x5 := fun F => m_f4 (F := F) (a1 := a1) (a2 := a2) (a3 := a3) (a4 := a4) (a5 := a5) (p := p + 4 + 4 + 4 + 4) (by omega) u1 u2 u3 u4
    generalize cst a5 0 (cst a5 8 (cst a5 16 (cst a5 24 h4))) = h5 at e5 D5
    generalize mst a5 0 (mst a5 8 (mst a5 16 (mst a5 24 g4))) = g5 at D5 x5
    clear u1 u2 u3 u4
    have hF : LF = 13979 + 1 + 1 + 1 + 1 + 1 + 1 + 1 + 1 + 1 + 1 + 1 + 1 + 1 + 1 + 1 + 1 + 1 + 1 + 1 + 1 + 1 := rfl
    rw [e1, qbd_some, e2, qbd_some, e3, qbd_some, e4, qbd_some, e5, qbd_some, hF, x1, x2, x3, x4, x5, DX10_feed_l24.eq_2, if_pos (by decide), D5.1.1]
    exact Out.of (R1.tape D5) rfl rfl
  · rw [if_neg k, if_neg k]
    exact Out.of R1 rfl rfl
end fed
