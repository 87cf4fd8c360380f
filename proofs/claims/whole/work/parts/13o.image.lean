/-! ===== a sea taken from another; image ===== -/
def cpl (k : Nat) : Nat := if k = 1 then 36 else if k = 2 then 216 else if k = 7 then 900 else 6
def CPa (h0 h : qH) (i0 i1 m : Nat) : Prop := (∀ k b, 1 ≤ k → k < m → b < cpl k → h.1 (i0 + k) b = h0.1 (i1 + k) b) ∧ (∀ i, ¬ (i0 ≤ i ∧ i ≤ i0 + 7) → h.1 i = h0.1 i) ∧ h.2 = h0.2
theorem CPa.go {h0 h : qH} {i0 i1 m : Nat} (C : CPa h0 h i0 i1 m) (hd : i0 + 8 ≤ i1 ∨ i1 + 8 ≤ i0) (h1 : 1 ≤ m) (h2 : m ≤ 7) {n : Nat} (hn : n = cpl m) : CPa h0 (qcp h (i1 + m) (i0 + m) n) i0 i1 (m + 1) := by
  obtain ⟨c1, c2, c3⟩ := C
  refine ⟨fun k b a1 a2 a3 => ?_, fun i hi => ?_, c3⟩
  · show (if i0 + k = i0 + m ∧ b < n then h.1 (i1 + m) b else h.1 (i0 + k) b) = _
    by_cases e : k = m
    · rw [if_pos ⟨by omega, by rw [hn, ← e]; exact a3⟩, c2 _ (by omega), e]
    · rw [if_neg (by omega)]
      exact c1 k b a1 (by omega) a3
  · rw [← c2 i hi]
    funext b
    show (if i = i0 + m ∧ b < n then h.1 (i1 + m) b else h.1 i b) = _
    rw [if_neg (by omega)]
def CPf (h0 h : qH) (i0 i1 m : Nat) : Prop := CPa h0 h i0 i1 8 ∧ ∀ j, 7 ≤ j → j < m → h.1 i0 j = h0.1 i1 j
theorem CPf.go {h0 h : qH} {i0 i1 m : Nat} (C : CPf h0 h i0 i1 m) (hd : i0 + 8 ≤ i1 ∨ i1 + 8 ≤ i0) : CPf h0 (qu h i0 m (h.1 i1 m)) i0 i1 (m + 1) := by
  obtain ⟨⟨c1, c2, c3⟩, c4⟩ := C
  refine ⟨⟨fun k b a1 a2 a3 => by rw [qu_ne (by omega)]; exact c1 k b a1 a2 a3, fun i hi => by rw [qu_ne (by omega)]; exact c2 i hi, c3⟩, fun j a1 a2 => ?_⟩
  rw [qu_s]
  by_cases e : j = m
  · rw [e, up_s, c2 i1 (by omega)]
  · rw [up_n _ _ e]
    exact c4 j a1 (by omega)
def KK (h : qH) (i0 i1 : Nat) (x : Option (Int × qH)) : Prop := ∃ h', x = some (0, h') ∧ CPf h h' i0 i1 20
theorem KK.a {h g : qH} {i0 i1 m n : Nat} {f : qH → Option (Int × qH)} (C : CPa h g i0 i1 m) (hd : i0 + 8 ≤ i1 ∨ i1 + 8 ≤ i0) (h1 : 1 ≤ m) (h2 : m ≤ 7) (hn : n = cpl m) (k : ∀ g', CPa h g' i0 i1 (m + 1) → KK h i0 i1 (f g')) : KK h i0 i1 (qlt (qcp g (i1 + m) (i0 + m) n) f) := k _ (C.go hd h1 h2 hn)
theorem KK.f {h g : qH} {i0 i1 m : Nat} {f : qH → Option (Int × qH)} (C : CPf h g i0 i1 m) (hd : i0 + 8 ≤ i1 ∨ i1 + 8 ≤ i0) (k : ∀ g', CPf h g' i0 i1 (m + 1) → KK h i0 i1 (f g')) : KK h i0 i1 (qlt (qu g i0 m (g.1 i1 m)) f) := k _ (C.go hd)
theorem c_scp {h : qH} {i0 i1 : Nat} (hd : i0 + 8 ≤ i1 ∨ i1 + 8 ≤ i0) : KK h i0 i1 (DX1_takeFrom i0 i1 h) := by
  have C0 : CPa h h i0 i1 1 := ⟨fun k b a1 a2 _ => by omega, fun _ _ => rfl, rfl⟩
  unfold DX1_takeFrom
  refine KK.a (m := 1) C0 hd (by decide) (by decide) rfl (fun g1 C1 => ?_)
  refine KK.a (m := 2) C1 hd (by decide) (by decide) rfl (fun g2 C2 => ?_)
  refine KK.a (m := 3) C2 hd (by decide) (by decide) rfl (fun g3 C3 => ?_)
  refine KK.a (m := 4) C3 hd (by decide) (by decide) rfl (fun g4 C4 => ?_)
  refine KK.a (m := 5) C4 hd (by decide) (by decide) rfl (fun g5 C5 => ?_)
  refine KK.a (m := 6) C5 hd (by decide) (by decide) rfl (fun g6 C6 => ?_)
  refine KK.a (m := 7) C6 hd (by decide) (by decide) rfl (fun g7 C7 => ?_)
  have E7 : CPf h g7 i0 i1 7 := ⟨C7, fun j a1 a2 => by omega⟩
  refine KK.f (m := 7) E7 hd (fun g8 E8 => ?_)
  refine KK.f (m := 8) E8 hd (fun g9 E9 => ?_)
  refine KK.f (m := 9) E9 hd (fun g10 E10 => ?_)
  refine KK.f (m := 10) E10 hd (fun g11 E11 => ?_)
  refine KK.f (m := 11) E11 hd (fun g12 E12 => ?_)
  refine KK.f (m := 12) E12 hd (fun g13 E13 => ?_)
  refine KK.f (m := 13) E13 hd (fun g14 E14 => ?_)
  refine KK.f (m := 14) E14 hd (fun g15 E15 => ?_)
  refine KK.f (m := 15) E15 hd (fun g16 E16 => ?_)
  refine KK.f (m := 16) E16 hd (fun g17 E17 => ?_)
  refine KK.f (m := 17) E17 hd (fun g18 E18 => ?_)
  refine KK.f (m := 18) E18 hd (fun g19 E19 => ?_)
  refine KK.f (m := 19) E19 hd (fun g20 E20 => ?_)
  exact ⟨_, rfl, E20⟩
theorem cR.cp {h h' : qH} {i0 i1 : Nat} {A : Nat → Int} (G : cG A) (r : cR h i1 A) (C : CPf h h' i0 i1 20) : cR h' i0 A := by
  obtain ⟨⟨c1, _, _⟩, c4⟩ := C
  obtain ⟨r1, r2, r3, r4, r5, r6, r7⟩ := r
  have h4 := G.2.2.1
  have lr : ∀ law b, law ≤ 1 → cv_okl A law b → cv_lr h i1 A law → cv_lr h' i0 A law := fun law b hl ok z => by
    unfold cv_lr at z ⊢
    rw [c4 (8 + 2 * law) (by omega) (by omega), c4 (7 + 2 * law) (by omega) (by omega)]
    rcases z with z | ⟨z1, z2, z3, z4⟩
    · exact Or.inl z
    · refine Or.inr ⟨z1, z2, z3, fun i hi => ?_⟩
      rcases ok with ok | ⟨_, o1, o2, o3, _⟩
      · omega
      · rw [c1 7 _ (by omega) (by omega) (by show _ < 900; omega)]
        exact z4 i hi
  unfold cR
  rw [c4 11 (by omega) (by omega), c4 12 (by omega) (by omega), c4 13 (by omega) (by omega), c4 14 (by omega) (by omega), c4 15 (by omega) (by omega), c4 16 (by omega) (by omega), c4 17 (by omega) (by omega), c4 18 (by omega) (by omega), c4 19 (by omega) (by omega)]
  refine ⟨r1, r2, fun k hk => by rw [c1 1 k (by omega) (by omega) hk]; exact r3 k hk, fun k hk => by rw [c1 2 k (by omega) (by omega) hk]; exact r4 k hk, fun s hs => ?_, lr 0 _ (by omega) G.2.2.2.2.2.2.2.2.2.1 r6, lr 1 _ (by omega) G.2.2.2.2.2.2.2.2.2.2 r7⟩
  have s6 : s < 6 := by omega
  rw [c1 3 s (by omega) (by omega) s6, c1 4 s (by omega) (by omega) s6, c1 5 s (by omega) (by omega) s6, c1 6 s (by omega) (by omega) s6]
  exact r5 s hs
