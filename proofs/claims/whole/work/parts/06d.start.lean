/-! ===== from the constructors' world to the small machine's ===== -/
theorem zini_out {i k : Nat} (h : 225 ≤ i ∨ 39 ≤ k) : zini i k = 0 := by
  unfold zini
  rcases h with h | h
  · have : qK i = (21, 6480) ∨ qK i = (22, 12960) ∨ qK i = (99, 0) := by
      by_cases h1 : i = 225
      · subst h1; left; decide
      · by_cases h2 : i = 226
        · subst h2; right; left; decide
        · right; right; exact qK_out (by omega)
    have n1 : ¬ i = 212 := by omega
    have n2 : ¬ i = 213 := by omega
    have n3 : ¬ i = 222 := by omega
    rcases this with e | e | e <;> rw [e] <;> simp [n1, n2, n3]
  · have a1 : ¬ (k = 2 ∨ k = 3 ∨ k = 7) := by omega
    have a2 : ¬ k = 13 := by omega
    have a3 : ¬ k = 6 := by omega
    have a4 : ¬ k = 1 := by omega
    have a8 : ¬ k = 2 := by omega
    have a5 : ¬ (k = 14 ∨ k = 19) := by omega
    have a6 : ¬ k = 3 := by omega
    have a7 : ¬ k < 4 := by omega
    simp only [a1, a2, a3, a4, a5, a6, a7, a8, if_false]
    simp
    intro _
    omega
theorem qh0_1 (hk : zHk zS1) (i k : Nat) : qh0.1 i k = zini i k := by
  show zS1.2.1 (zsg i) k = zini i k
  by_cases hi : i < 225
  · by_cases h2 : k < 39
    · exact zb_n hi h2
    · rw [zini_out (Or.inr (by omega))]
      exact hk.2.2.2.2.2 (zsg i) k (by omega)
  · rw [zini_out (Or.inl (by omega))]
    exact (hk.2.2.1 (zsg i) (by rw [zb_eq.2, zsg_hi (by omega)]; omega)).1 k
theorem zmap (ad : Nat → Nat) (x : Option Nat) : (x.map zpi).map (fun i => ad (zsg i)) = x.map ad := by
  cases x with
  | none => rfl
  | some n =>
    show some (ad (zsg (zpi n))) = some (ad n)
    rw [zsg_pi]
theorem zb_q {aC : Nat → ClassId} {ad : Nat → Nat} (hk : zHk zS1) {i : Nat} (hi : i < 225) : qent aC (fun i => ad (zsg i)) qh0 i = zent aC ad zS1 (zsg i) := by
  have h := List.all_eq_true.mp zb_refs i (List.mem_range.mpr hi)
  have hK := zK_sg i hi
  by_cases h1 : (qK i).1 < 20
  · rw [if_pos h1] at h
    unfold qent zent
    rw [hK, if_pos h1, if_pos h1]
    congr 2
    unfold qfl zfl
    rw [hK]
    refine List.map_congr_left (fun k hk => ?_)
    have h2 := List.all_eq_true.mp h k hk
    unfold qfv zfv
    rw [hK]
    by_cases h3 : qT (qK i).1 k < 2
    · rw [if_pos h3, if_pos h3]
      rfl
    · rw [if_neg h3, if_neg h3]
      rw [Bool.or_eq_true] at h2
      rcases h2 with h2 | h2
      · exact absurd (of_decide_eq_true h2) h3
      · rw [← of_decide_eq_true h2, zmap]
  · rw [if_neg h1] at h
    unfold qent zent
    rw [hK, if_neg h1, if_neg h1]
    by_cases h2 : (qK i).1 = 24
    · rw [if_pos h2, if_pos h2]
      rfl
    · rw [if_neg h2, if_neg h2]
      by_cases h3 : (qK i).1 < 24
      · rw [if_pos h3, if_pos h3]
        rfl
      · rw [if_neg h3, if_neg h3]
        rw [if_pos (by omega)] at h
        congr 7
        funext j
        by_cases h4 : j < 39
        · have h5 := of_decide_eq_true (List.all_eq_true.mp h j (List.mem_range.mpr h4))
          rw [← zmap ad, h5]
          split <;> rfl
        · have h5 := hk.2.2.2.2.1 (zsg i) j (by omega)
          rw [h5]
          have h6 := q_n39r i (by omega) (by omega)
          rw [if_neg (by omega)]
          rfl
theorem zb_Rep {D : va_G} {aC : Nat → ClassId} {A : Nat → Prop} {ad : Nat → Nat} {H : Heap} (hk : zHk zS1) (h : zRep D aC A ad zS1 H) : qRep D aC A (fun i => ad (zsg i)) qh0 H := by
  have e1 : qids qh0 = List.range 225 := by
    unfold qids
    have f1 : ¬ qh0.2.1 = true := by decide
    have f2 : ¬ qh0.2.2.1 = true := by decide
    rw [if_neg f1, if_neg f2, List.append_nil, List.append_nil]
  have e2 : ∀ i, i < 225 → zsg i ∈ zids zS1 := fun i hi => zids_mem.mpr (by rw [zb_eq.2]; exact zsg_lt hi)
  have e3 : ∀ i, i ∈ qids qh0 → i < 225 := fun i hi => by rw [e1] at hi; exact List.mem_range.mp hi
  refine ⟨q_Pm ?_ h.1, q_Dm (qids_nodup _) ?_ ?_⟩
  · intro en hen
    obtain ⟨i, hi, rfl⟩ := List.mem_map.mp hen
    have hi := e3 i hi
    refine List.mem_map.mpr ⟨zsg i, e2 i hi, ?_⟩
    rw [zb_q hk hi]
  · intro i hi j hj he
    exact zsg_inj (z_inj h _ (e2 i (e3 i hi)) _ (e2 j (e3 j hj)) he)
  · intro i hi
    exact z_in h _ (e2 i (e3 i hi))
theorem zb_Hk (hk : zHk zS1) : qHk qh0 := by
  refine ⟨fun i k => q32_64 (hk.1 (zsg i) k), fun i k _ => hk.1 (zsg i) k, fun i hi => Or.inl ?_⟩
  rw [qh0_1 hk]
  unfold zini
  rw [if_pos hi]
  rfl
theorem zHk_0 : zHk zs0 := ⟨fun _ _ => (by show q32 0; decide), fun _ _ _ h => (by cases h), fun _ _ => ⟨fun _ => rfl, fun _ => rfl⟩, by decide, fun _ _ _ => rfl, fun _ _ _ => rfl⟩
/-- the law from its entry to its end, out of what the loop's computation tells -/
theorem zb_law {L : Nat} {xs : Nat → Int32} (hL : L < 2 ^ 31) {h' : qH} (hx : DL_law_l18 L xs LF 0 qh0 = some (1, h')) {p : Program} {l : Launch} {e : Env} {R : Room} {s : State} {m : MethodId} {args : Array Value} {below : List Frame} {meth : Method} {c : Code} {Q : State → Prop} {D : va_G} {aC : Nat → ClassId} {A : Nat → Prop} {ad : Nat → Nat} {ls : Array Slot}
    (hi : p.tables.exec = Jvm.exec ∧ c.code = cL_law ∧ c.maxLocals = 4 ∧ s.vm.findClass "BottlePostLaw" = some m.cls) (hR : 120 ≤ R.frames ∧ 4800 ≤ R.locals) (hAO : zAO s) (hG : qG L xs D aC A ad s s.heap) (hl : lv_has ls 4 [(0, .ref (ad 227))]) (hP : va_P D vwCl [] s.heap) (hRc : 227 ≤ R.cells) (hRs : zs zs0 ≤ R.slots)
    (hret : ∀ (H' : Heap) (locs' : List Loc) (cells' slots' pc' : Nat) (ls' : Array Slot), va_S A s.heap H' locs' → cells' ≤ 227 → slots' ≤ zs zs0 → decode cL_law pc' = .ok (.ireturn, 1) → W p l e R s m args below meth c H' locs' cells' slots' Q (F0 m pc' ls' [.int 1])) :
    W p l e R s m args below meth c s.heap [] 0 0 Q (F0 m 0 ls []) := by
  have hz : zs zS1 = 19440 := by unfold zs; rw [zb_eq.2]; decide +kernel
  have hzp : zp zS1 = 0 := by unfold zp; rw [zb_eq.2]
  have K := (UL_boot (L := L) (xs := xs) zs0 0 zS1 zb_eq.1).2 p l e R s m args below meth c s.heap [] 0 0 Q D aC A ad 225 (zs zs0) ls zs0 ad
  refine K ⟨hi, ⟨hR, hAO, fun h => absurd h (by decide)⟩, hG, ⟨hl, ?_, fun v hv => by cases hv⟩, zHk_0, ⟨⟨hP, ?_⟩, va_S.rf⟩, ⟨rfl, Nat.zero_add _⟩, ⟨zM.rf, fun _ _ => rfl⟩⟩ (by omega) (by omega) ?_
  · intro q hq
    rcases List.mem_singleton.mp hq with rfl
    exact Or.inr (Nat.le_refl _)
  · exact ⟨fun a b x y hx => by simp [qWl, zids, zs0] at hx, fun a x hx => by simp [qWl, zids, zs0] at hx⟩
  intro ad1 H1 locs1 cells1 slots1 pc1 ls1 vs1 g1 g2 g3 g4 g5 g6 g7 g8
  unfold zend at g8
  rw [if_pos rfl] at g8
  obtain ⟨rfl, rfl, g8⟩ := g8
  have K0 : qS L xs cL_law "BottlePostLaw" 4 120 4 18 [(3, qi 0), (2, qr 212), (1, qr 0), (0, qr 227)] [] qh0 (DL_law_l18 L xs LF 0 qh0) := by
    refine S_sub [3, 2, 1, 0] rfl ?_
    exact TL_law_l18 hL LF 0 qh0
  have K2 := (K0 1 h' hx).2 p l e R s m args below meth c H1 locs1 cells1 slots1 Q D aC A (fun i => ad1 (zsg i)) (cells1 + 2) (slots1 + 19440) ls1 qh0 (fun i => ad1 (zsg i))
  have p1 : qp qh0 = 2 := rfl
  have p2 : qs qh0 = 19440 := rfl
  have p3 : qp h' ≤ 2 := by unfold qp; split <;> split <;> omega
  refine K2 ⟨hi, hR, hG.go (State.WarmedH.refl s) (Nat.le_refl _) (fun _ _ _ => rfl) (fun i hi => by show ad1 (zsg i) = ad i; rw [zsg_hi (by omega)]; exact g1.2 i (Or.inr hi)), ⟨g8, ?_, fun v hv => by cases hv⟩, zb_Hk g2, ⟨zb_Rep g2 g4, g5⟩, ⟨by rw [p1], by rw [p2]⟩, ⟨⟨id, id⟩, fun _ _ => rfl⟩⟩ (by omega) (by omega) ?_
  · intro q hq
    simp only [List.mem_cons, List.not_mem_nil, or_false] at hq
    rcases hq with rfl | rfl | rfl | rfl
    · show q32 0
      decide
    · exact Or.inl (by decide)
    · exact Or.inl (by decide)
    · exact Or.inr (Or.inl (by decide))
  · intro ad2 H2 locs2 cells2 slots2 pc2 ls2 k1 k2 k3 k4 k5 k6 k7 k8
    exact hret H2 locs2 cells2 slots2 pc2 ls2 k5 (by omega) (by omega) k8
