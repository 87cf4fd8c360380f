/-! ===== the start: both worlds alike ===== -/
theorem zK0 {i k : Nat} (h : 20 ≤ (qK i).1) (h1 : ¬ i = 213) (h2 : ¬ i = 222) : zini i k = 0 := by
  unfold zini
  by_cases e : i = 212
  · subst e
    exact absurd h (by decide)
  · rw [if_neg (by omega), if_neg (by omega), if_neg (by omega), if_neg (by omega), if_neg (by omega), if_neg e, if_neg h1, if_neg h2]
def A0 (k : Nat) : Int := if k = 3 then 1 else 0
theorem A0_0 {k : Nat} (h : ¬ k = 3) : A0 k = 0 := by unfold A0; rw [if_neg h]
theorem cG_A0 : cG A0 := by
  refine ⟨Or.inl ⟨rfl, rfl⟩, by decide, by decide, Or.inl rfl, by decide, by decide, fun k hk => Or.inl (A0_0 (by omega)), fun j hj => by rw [A0_0 (by omega)]; decide, fun s hs => ?_, Or.inl rfl, Or.inl rfl⟩
  have : A0 4 = 0 := rfl
  omega
theorem RRz {h : qH} (v : ∀ i k, h.1 i k = zini i k) (f1 : h.2.1 = false) (f2 : h.2.2.1 = false) : RR 0 A0 h h := by
  have v13 : ∀ k, h.1 213 k = A0 k := fun k => by
    rw [v]
    rfl
  have z4 : A0 4 = 0 := rfl
  refine ⟨⟨cG_A0, ⟨⟨?_, ?_, ?_, ?_⟩, ⟨?_, ?_, ?_, ?_, ?_⟩, fun k hk => ?_, fun j hj => ?_, fun s hs => ?_, ?_, ?_⟩, ?_, fun z => ?_⟩, fun z => ?_, ⟨fun k _ => v13 k, ?_⟩, ⟨?_, ?_, ?_, ?_, fun b hb => ?_⟩, ⟨?_, ?_, ?_, fun i hi => ?_⟩, ⟨?_, ?_, fun k hk => ?_⟩, ⟨?_, ?_⟩, fun t ht => ?_, fun i hi => ?_⟩
  · rw [v]; rfl
  · rw [v]; rfl
  · rw [v]; rfl
  · rw [v]; rfl
  · rw [v]; rfl
  · rw [v]; rfl
  · rw [v]; rfl
  · rw [v]; rfl
  · rw [v]; rfl
  · rw [v, A0_0 (by omega)]
    exact zK0 (by decide) (by decide) (by decide)
  · rw [v, A0_0 (by omega)]
    exact zK0 (by decide) (by decide) (by decide)
  · omega
  · exact Or.inl ⟨rfl, by rw [v, v]; decide⟩
  · exact Or.inl ⟨rfl, by rw [v, v]; decide⟩
  · rw [v]; rfl
  · rw [f1] at z; cases z
  · rw [f2] at z; cases z
  · rw [v]; rfl
  · show h.1 24 1 = h.1 213 348
    rw [v13, v]; rfl
  · show h.1 24 2 = h.1 213 349
    rw [v13, v]; rfl
  · show 0 ≤ h.1 213 348 ∧ h.1 213 348 ≤ 8
    rw [v13]; decide
  · show 0 ≤ h.1 213 349 ∧ h.1 213 349 ≤ 99 * 0
    rw [v13]; decide
  · have hb' : (b : Int) < h.1 213 348 := hb
    rw [v13, A0_0 (by decide)] at hb'
    omega
  · rw [v]; decide
  · rw [v13, v]; rfl
  · rw [v13]; decide
  · rw [v13, A0_0 (by decide)] at hi
    omega
  · rw [v, v]; rfl
  · rw [v]; decide
  · rw [v, v, zK0 (by decide) (by decide) (by decide), zK0 (by decide) (by decide) (by decide)]
    decide
  · rw [v, v]; rfl
  · rw [v, v]; rfl
  · have h4 : t = 0 ∨ t = 1 ∨ t = 2 ∨ t = 3 := by omega
    have h222 : h.1 222 t = -1 := by
      rw [v]
      rcases h4 with rfl | rfl | rfl | rfl <;> rfl
    have h223 : h.1 223 t = 0 := by
      rw [v]
      exact zK0 (by decide) (by decide) (by decide)
    rw [h222, h223]
    refine ⟨?_, ?_, by decide, by decide, fun k hk => by omega⟩
    · rw [v]
      rcases h4 with rfl | rfl | rfl | rfl <;> rfl
    · rw [v]
      rcases h4 with rfl | rfl | rfl | rfl <;> rfl
  · have h2 : i = 0 ∨ i = 1 := by omega
    have a1 : h.1 167 i = 0 := by rw [v]; exact zK0 (by decide) (by decide) (by decide)
    have a2 : h.1 214 i = 0 := by rw [v]; exact zK0 (by decide) (by decide) (by decide)
    rw [a1, a2]
    exact ⟨rfl, Or.inl rfl⟩
theorem RR0 (hk : zHk zS1) : RR 0 A0 qh0 qh0 := RRz (qh0_1 hk) rfl rfl
theorem law_all {L : Nat} {xs : Nat → Int32} (hL : L ≤ 3072) (hk : zHk zS1) : ∃ h', DL_law_l18 L xs LF 0 qh0 = some (1, h') := by
  have K := law_l (L := L) (xs := xs) hL (L / 6) 0 LF A0 qh0 (by omega) (by unfold LF; omega) (RR0 hk)
  rw [Nat.mul_zero, z0] at K
  exact K
theorem zb_law2 {L : Nat} {xs : Nat → Int32} (hL : L < 2 ^ 31) (hx0 : zHk zS1 → ∃ h', DL_law_l18 L xs LF 0 qh0 = some (1, h')) {p : Program} {l : Launch} {e : Env} {R : Room} {s : State} {m : MethodId} {args : Array Value} {below : List Frame} {meth : Method} {c : Code} {Q : State → Prop} {D : va_G} {aC : Nat → ClassId} {A : Nat → Prop} {ad : Nat → Nat} {ls : Array Slot}
    (hi : p.tables.exec = Jvm.exec ∧ c.code = cL_law ∧ c.maxLocals = 4 ∧ s.vm.findClass "BottlePostLaw" = some m.cls) (hR : 120 ≤ R.frames ∧ 4800 ≤ R.locals) (hAO : zAO s) (hG : qG L xs D aC A ad s s.heap) (hl : lv_has ls 4 [(0, .ref (ad 227))]) (hP : va_P D vwCl [] s.heap) (hRc : 227 ≤ R.cells) (hRs : zs zs0 ≤ R.slots)
    (hret : ∀ (H' : Heap) (locs' : List Loc) (cells' slots' pc' : Nat) (ls' : Array Slot), va_S A s.heap H' locs' → cells' ≤ 227 → slots' ≤ zs zs0 → decode cL_law pc' = .ok (.ireturn, 1) → W p l e R s m args below meth c H' locs' cells' slots' Q (F0 m pc' ls' [.int 1])) :
    W p l e R s m args below meth c s.heap [] 0 0 Q (F0 m 0 ls []) := by
  have hz : zs zS1 = 19440 := by unfold zs; rw [zb_eq.2]; decide +kernel
  have hzp : zp zS1 = 0 := by unfold zp; rw [zb_eq.2]
  have K := (UL_boot (L := L) (xs := xs) zs0 0 zS1 zb_eq.1).2 p l e R s m args below meth c s.heap [] 0 0 Q D aC A ad 225 (zs zs0) ls zs0 ad
  refine K ⟨hi, ⟨hR, hAO, fun h => absurd h (by decide)⟩, hG, ⟨hl, ?_, fun v hv => by cases hv⟩, zHk_0, ⟨⟨hP, ?_⟩, va_S.rf⟩, ⟨rfl, Nat.zero_add _⟩, ⟨zM.rf, fun _ _ => rfl⟩⟩ (by omega) (by omega) ?_
  · intro q hq
    rcases List.mem_singleton.mp hq with rfl
    exact Or.inr (Nat.le_refl _)
  · exact ⟨fun a b x y hx => by simp [qWl, zids, zs0] at hx, fun a x hx => by simp [qWl, zids, zs0] at hx⟩
  intro ad1 H1 locs1 cells1 slots1 pc1 ls1 vs1 g1 g2 g3 g4 g5 g6 g7 g8
  unfold zend at g8
  rw [if_pos rfl] at g8
  obtain ⟨rfl, rfl, g8⟩ := g8
  have K0 : qS L xs cL_law "BottlePostLaw" 4 120 4 18 [(3, qi 0), (2, qr 212), (1, qr 0), (0, qr 227)] [] qh0 (DL_law_l18 L xs LF 0 qh0) := by
    refine S_sub [3, 2, 1, 0] rfl ?_
    exact TL_law_l18 hL LF 0 qh0
  obtain ⟨h', hx⟩ := hx0 g2
  have K2 := (K0 1 h' hx).2 p l e R s m args below meth c H1 locs1 cells1 slots1 Q D aC A (fun i => ad1 (zsg i)) (cells1 + 2) (slots1 + 19440) ls1 qh0 (fun i => ad1 (zsg i))
  have p1 : qp qh0 = 2 := rfl
  have p2 : qs qh0 = 19440 := rfl
  have p3 : qp h' ≤ 2 := by unfold qp; split <;> split <;> omega
  refine K2 ⟨hi, hR, hG.go (State.WarmedH.refl s) (Nat.le_refl _) (fun _ _ _ => rfl) (fun i hi => by show ad1 (zsg i) = ad i; rw [zsg_hi (by omega)]; exact g1.2 i (Or.inr hi)), ⟨g8, ?_, fun v hv => by cases hv⟩, zb_Hk g2, ⟨zb_Rep g2 g4, g5⟩, ⟨by rw [p1], by rw [p2]⟩, ⟨⟨id, id⟩, fun _ _ => rfl⟩⟩ (by omega) (by omega) ?_
  · intro q hq
    simp only [List.mem_cons, List.not_mem_nil, or_false] at hq
    rcases hq with rfl | rfl | rfl | rfl
    · show q32 0
      decide
    · exact Or.inl (by decide)
    · exact Or.inl (by decide)
    · exact Or.inr (Or.inl (by decide))
  · intro ad2 H2 locs2 cells2 slots2 pc2 ls2 k1 k2 k3 k4 k5 k6 k7 k8
    exact hret H2 locs2 cells2 slots2 pc2 ls2 k5 (by omega) (by omega) k8
