/-! ===== the numbers at the start, checked one by one ===== -/
set_option maxRecDepth 100000 in
theorem zb_n0 : (List.range 25).all (fun i => (List.range 39).all (fun k => decide (zS1.2.1 (zsg (0 + i)) k = zini (0 + i) k))) = true := by decide +kernel
set_option maxRecDepth 100000 in
theorem zb_n1 : (List.range 25).all (fun i => (List.range 39).all (fun k => decide (zS1.2.1 (zsg (25 + i)) k = zini (25 + i) k))) = true := by decide +kernel
set_option maxRecDepth 100000 in
theorem zb_n2 : (List.range 25).all (fun i => (List.range 39).all (fun k => decide (zS1.2.1 (zsg (50 + i)) k = zini (50 + i) k))) = true := by decide +kernel
set_option maxRecDepth 100000 in
theorem zb_n3 : (List.range 25).all (fun i => (List.range 39).all (fun k => decide (zS1.2.1 (zsg (75 + i)) k = zini (75 + i) k))) = true := by decide +kernel
set_option maxRecDepth 100000 in
theorem zb_n4 : (List.range 25).all (fun i => (List.range 39).all (fun k => decide (zS1.2.1 (zsg (100 + i)) k = zini (100 + i) k))) = true := by decide +kernel
set_option maxRecDepth 100000 in
theorem zb_n5 : (List.range 25).all (fun i => (List.range 39).all (fun k => decide (zS1.2.1 (zsg (125 + i)) k = zini (125 + i) k))) = true := by decide +kernel
set_option maxRecDepth 100000 in
theorem zb_n6 : (List.range 25).all (fun i => (List.range 39).all (fun k => decide (zS1.2.1 (zsg (150 + i)) k = zini (150 + i) k))) = true := by decide +kernel
set_option maxRecDepth 100000 in
theorem zb_n7 : (List.range 25).all (fun i => (List.range 39).all (fun k => decide (zS1.2.1 (zsg (175 + i)) k = zini (175 + i) k))) = true := by decide +kernel
set_option maxRecDepth 100000 in
theorem zb_n8 : (List.range 25).all (fun i => (List.range 39).all (fun k => decide (zS1.2.1 (zsg (200 + i)) k = zini (200 + i) k))) = true := by decide +kernel
theorem zb_n {i k : Nat} (hi : i < 225) (hk : k < 39) : zS1.2.1 (zsg i) k = zini i k := by
  have f : ∀ b, ((List.range 25).all (fun i => (List.range 39).all (fun k => decide (zS1.2.1 (zsg (b + i)) k = zini (b + i) k))) = true) → b ≤ i → i < b + 25 → zS1.2.1 (zsg i) k = zini i k := by
    intro b h h1 h2
    have h3 := List.all_eq_true.mp h (i - b) (List.mem_range.mpr (by omega))
    have h4 := List.all_eq_true.mp h3 k (List.mem_range.mpr hk)
    have h5 := of_decide_eq_true h4
    have e : b + (i - b) = i := by omega
    rw [e] at h5
    exact h5
  by_cases h0 : i < 25
  · exact f 0 zb_n0 (by omega) (by omega)
  by_cases h1 : i < 50
  · exact f 25 zb_n1 (by omega) (by omega)
  by_cases h2 : i < 75
  · exact f 50 zb_n2 (by omega) (by omega)
  by_cases h3 : i < 100
  · exact f 75 zb_n3 (by omega) (by omega)
  by_cases h4 : i < 125
  · exact f 100 zb_n4 (by omega) (by omega)
  by_cases h5 : i < 150
  · exact f 125 zb_n5 (by omega) (by omega)
  by_cases h6 : i < 175
  · exact f 150 zb_n6 (by omega) (by omega)
  by_cases h7 : i < 200
  · exact f 175 zb_n7 (by omega) (by omega)
  by_cases h8 : i < 225
  · exact f 200 zb_n8 (by omega) (by omega)
  omega
