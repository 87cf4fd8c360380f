/-! ===== a law's row, as it is read ===== -/
def sl (A : Nat → Int) : Nat → Nat → List Int
  | _, 0 => []
  | i, n + 1 => A (1012 + i) :: sl A (i + 1) n
theorem sl_app {A : Nat → Int} : ∀ (a i b : Nat), sl A i (a + b) = sl A i a ++ sl A (i + a) b := by
  intro a
  induction a with
  | zero => intro i b; rw [Nat.zero_add, Nat.add_zero]; rfl
  | succ a ih =>
    intro i b
    rw [show a + 1 + b = (a + b) + 1 by omega, sl.eq_2, ih (i + 1) b, sl.eq_2, show i + 1 + a = i + (a + 1) by omega]
    rfl
theorem sl_cg {A B : Nat → Int} : ∀ (n i : Nat), (∀ k, i ≤ k → k < i + n → A (1012 + k) = B (1012 + k)) → sl A i n = sl B i n := by
  intro n
  induction n with
  | zero => intro i h; rfl
  | succ n ih =>
    intro i h
    rw [sl.eq_2, sl.eq_2, h i (by omega) (by omega), ih (i + 1) (fun k a b => h k (by omega) (by omega))]
theorem sl_map {A : Nat → Int} : ∀ (n i : Nat), (List.range n).map (fun j => A (1012 + i + j)) = sl A i n := by
  intro n
  induction n with
  | zero => intro i; rfl
  | succ n ih =>
    intro i
    rw [List.range_succ_eq_map, List.map_cons, List.map_map, sl.eq_2, ← ih (i + 1)]
    congr 1
    refine List.map_congr_left (fun j _ => ?_)
    show A (1012 + i + (j + 1)) = A (1012 + (i + 1) + j)
    congr 1
    omega
/-- a row that lays one value upon the stack -/
def TYl (m : Int) (b : Bool) (D : Nat) (l : List Int) : Prop := ∀ (s : List Bool) (rest : List Int), s.length ≤ D → cv_ty m (l ++ rest) s = cv_ty m rest (b :: s)
theorem TYl.less {m : Int} {b : Bool} {D D' : Nat} {l : List Int} (t : TYl m b D l) (h : D' ≤ D) : TYl m b D' l := fun s r hs => t s r (by omega)
theorem ty_one {m c : Int} {D : Nat} (hD : D < 60) (hc : 0 ≤ c ∧ c < m) : TYl m false D [c] := by
  intro s r hs
  show cv_ty m (c :: r) s = _
  rw [cv_ty.eq_def]
  simp only
  rw [if_pos hc, if_pos (by omega)]
/-- what an operation takes and gives -/
def opT (c : Int) (a b : Bool) : Prop := ((c = 3000 ∨ c = 3001 ∨ c = 3002) ∧ a = false ∧ b = false) ∨ ((c = 3003 ∨ c = 3004 ∨ c = 3005) ∧ a = false ∧ b = true) ∨ ((c = 3006 ∨ c = 3007) ∧ a = true ∧ b = true)
theorem ty_bin {m c : Int} (hm : m ≤ 1007) {a b : Bool} {D : Nat} {l1 l2 : List Int} (o : opT c a b) (t1 : TYl m a D l1) (t2 : TYl m a (D + 1) l2) : TYl m b D (l1 ++ (l2 ++ [c])) := by
  intro s r hs
  rw [List.append_assoc, t1 s _ hs, List.append_assoc, t2 (a :: s) _ (by simp only [List.length_cons]; omega)]
  show cv_ty m (c :: r) (a :: a :: s) = _
  rw [cv_ty.eq_def]
  simp only
  rcases o with ⟨h, rfl, rfl⟩ | ⟨h, rfl, rfl⟩ | ⟨h, rfl, rfl⟩
  · rw [if_neg (by omega), if_neg (by omega), if_pos h, if_pos ⟨rfl, rfl⟩]
  · rw [if_neg (by omega), if_neg (by omega), if_neg (by omega), if_pos h, if_pos ⟨rfl, rfl⟩]
  · rw [if_neg (by omega), if_neg (by omega), if_neg (by omega), if_neg (by omega), if_pos h, if_pos ⟨rfl, rfl⟩]
theorem ty_not {m : Int} (hm : m ≤ 1007) {D : Nat} {l : List Int} (t : TYl m true D l) : TYl m true D (l ++ [3008]) := by
  intro s r hs
  rw [List.append_assoc, t s _ hs]
  show cv_ty m (3008 :: r) (true :: s) = _
  rw [cv_ty.eq_def]
  simp only
  rw [if_neg (by omega), if_pos trivial, if_pos trivial]
section lg
variable {hc hm : qH} {kp : Int}
/-- both are reading a law, and nothing is at fault -/
def LG (kp : Int) (hc hm : qH) : Prop := TX hc hm ∧ TK hc hm ∧ hm.1 212 11 = 0 ∧ (hm.1 212 15 = kp ∧ hc.1 2 1 = 0 ∧ hc.1 2 2 = -1) ∧ hc.1 2 5 = hm.1 216 1011 ∧ (0 ≤ hm.1 216 1011 ∧ hm.1 216 1011 ≤ hm.1 212 6) ∧ (∀ k : Nat, (k : Int) < hm.1 216 1011 → hc.1 23 k = cv_cm (hm.1 216 (1012 + k)))
/-- from a state to a later one: a row was read that lays one value -/
def LW (m : Int) (b : Bool) (D : Nat) (kp : Int) (h hc' hm' : qH) : Prop := (0 ≤ h.1 216 1011 ∧ h.1 216 1011 ≤ h.1 212 6) ∧ LG kp hc' hm' ∧ h.1 212 6 < hm'.1 212 6 ∧ h.1 216 1011 < hm'.1 216 1011 ∧ hm'.1 216 1011 - h.1 216 1011 ≤ hm'.1 212 6 - h.1 212 6 ∧ (∀ k : Nat, k < 1011 → hm'.1 216 k = h.1 216 k) ∧ (∀ k : Nat, (k : Int) < h.1 216 1011 → hm'.1 216 (1012 + k) = h.1 216 (1012 + k)) ∧ TYl m b D (sl (hm'.1 216) (h.1 216 1011).toNat (hm'.1 216 1011 - h.1 216 1011).toNat)
def JL (m : Int) (b : Bool) (D : Nat) (kp : Int) (hm : qH) (x y : Option (Int × qH)) : Prop := ∃ r hc' r' hm', x = some (r, hc') ∧ y = some (r', hm') ∧ ((r = 1 ∧ LW m b D kp hm hc' hm') ∨ (r = 0 ∧ BD hc' hm'))
theorem LG.n9 (g : LG kp hc hm) : hm.1 216 1011 ≤ 900 ∧ (hm.1 212 9 ≠ 32 → hm.1 212 6 < 900) := by
  have tp := tk_pos g.2.1
  have t4 := g.1.2.2.2
  have := g.2.2.2.2.2.1
  exact ⟨by omega, fun z => by have := tp.2.2.2.2 z; omega⟩
theorem LG.adv (g : LG kp hc hm) : ∃ hc' hm', DX4_advance hc = some (0, hc') ∧ DX10_next hm = some (0, hm') ∧ LG kp hc' hm' ∧ (hm.1 212 9 ≠ 32 → hm.1 212 6 < hm'.1 212 6) ∧ hm'.1 216 = hm.1 216 := by
  obtain ⟨g1, g2, g3, g4, g5, g6, g7⟩ := g
  obtain ⟨h1, h2, e1, e2, T, t, a1, a2, f1, f2⟩ := tk_adv g1 g2
  have c3 : h1.1 23 = hc.1 23 := f1.fn (fun k => by omega)
  have m6 : h2.1 216 = hm.1 216 := f2.fn (fun k => by omega)
  refine ⟨h1, h2, e1, e2, ⟨T, t, by rw [f2.at 212 11 (by omega)]; exact g3, ⟨by rw [f2.at 212 15 (by omega)]; exact g4.1, by rw [f1.at 2 1 (by omega)]; exact g4.2.1, by rw [f1.at 2 2 (by omega)]; exact g4.2.2⟩, by rw [m6, f1.at 2 5 (by omega)]; exact g5, by rw [m6]; omega, ?_⟩, a2, m6⟩
  rw [c3, m6]
  exact g7
/-- a code laid down: what both write -/
theorem em0 (T : TX hc hm) (w : hm.1 212 11 = 0) (g5 : hc.1 2 5 = hm.1 216 1011) (n0 : 0 ≤ hm.1 216 1011) (n9 : hm.1 216 1011 < 900) (g7 : ∀ k : Nat, (k : Int) < hm.1 216 1011 → hc.1 23 k = cv_cm (hm.1 216 (1012 + k))) (c : Int) :
    ∃ hc' hm', DX4_emit (cv_cm c) hc = some (0, hc') ∧ DX10_codes c hm = some (0, hm') ∧ fr (fun i k => (i = 2 ∧ k = 5) ∨ i = 23) hc hc' ∧ fr (fun i _ => i = 216) hm hm' ∧ hc'.1 2 5 = hm'.1 216 1011 ∧ hm'.1 216 1011 = hm.1 216 1011 + 1 ∧ (∀ k : Nat, k < 1011 → hm'.1 216 k = hm.1 216 k) ∧ (∀ k : Nat, (k : Int) < hm.1 216 1011 → hm'.1 216 (1012 + k) = hm.1 216 (1012 + k)) ∧ hm'.1 216 (1012 + (hm.1 216 1011).toNat) = c ∧ (∀ k : Nat, (k : Int) < hm'.1 216 1011 → hc'.1 23 k = cv_cm (hm'.1 216 (1012 + k))) := by
  have bf : hc.2.2.2.2 = true := by rw [T.1]
  obtain ⟨N, hN⟩ := Int.eq_ofNat_of_zero_le n0
  rw [hN] at g5 n0 n9 g7
  unfold DX4_emit DX10_codes
  rw [hN]
  rw [g5, if_neg (by omega), if_neg (by omega), if_pos bf, if_pos (by omega), if_pos w, qw_e (x := 1012 + (N : Int)) (by omega) (by omega), if_pos (by omega), Int.toNat_natCast, show (1012 + (N : Int)).toNat = 1012 + N by omega]
  simp only [qlt]
  have x1 : (qu hc 23 N (cv_cm c)).1 2 5 = (N : Int) := by rw [qu_ne (by decide)]; exact g5
  have x2 : (qu hm 216 (1012 + N) c).1 216 1011 = (N : Int) := by rw [qu_s, up_n _ _ (by omega)]; exact hN
  rw [x1, x2, qw_s (by omega)]
  have f1 : fr (fun i k => (i = 2 ∧ k = 5) ∨ i = 23) hc (qu (qu hc 23 N (cv_cm c)) 2 5 ((N + 1 : Nat) : Int)) := fr_q (fr_q fr.rf (Or.inr rfl)) (Or.inl ⟨rfl, rfl⟩)
  have f2 : fr (fun i _ => i = 216) hm (qu (qu hm 216 (1012 + N) c) 216 1011 ((N + 1 : Nat) : Int)) := fr_q (fr_q fr.rf rfl) rfl
  have y1 : (qu (qu hc 23 N (cv_cm c)) 2 5 ((N + 1 : Nat) : Int)).1 2 5 = ((N + 1 : Nat) : Int) := by rw [qu_s, up_s]
  have y2 : (qu (qu hm 216 (1012 + N) c) 216 1011 ((N + 1 : Nat) : Int)).1 216 1011 = ((N + 1 : Nat) : Int) := by rw [qu_s, up_s]
  have y3 : ∀ k : Nat, k < 1011 → (qu (qu hm 216 (1012 + N) c) 216 1011 ((N + 1 : Nat) : Int)).1 216 k = hm.1 216 k := fun k hk => by rw [qu_s, up_n _ _ (by omega), qu_s, up_n _ _ (by omega)]
  have y4 : ∀ k : Nat, ¬ k = N → (qu (qu hm 216 (1012 + N) c) 216 1011 ((N + 1 : Nat) : Int)).1 216 (1012 + k) = hm.1 216 (1012 + k) := fun k hk => by rw [qu_s, up_n _ _ (by omega), qu_s, up_n _ _ (by omega)]
  have y5 : (qu (qu hm 216 (1012 + N) c) 216 1011 ((N + 1 : Nat) : Int)).1 216 (1012 + N) = c := by rw [qu_s, up_n _ _ (by omega), qu_s, up_s]
  have y6 : ∀ k : Nat, ¬ k = N → (qu (qu hc 23 N (cv_cm c)) 2 5 ((N + 1 : Nat) : Int)).1 23 k = hc.1 23 k := fun k hk => by rw [qu_ne (by decide), qu_s, up_n _ _ hk]
  have y7 : (qu (qu hc 23 N (cv_cm c)) 2 5 ((N + 1 : Nat) : Int)).1 23 N = cv_cm c := by rw [qu_ne (by decide), qu_s, up_s]
  refine ⟨_, _, rfl, rfl, f1, f2, by rw [y1, y2], by rw [y2]; omega, y3, fun k hk => y4 k (by omega), y5, fun k hk => ?_⟩
  rw [y2] at hk
  by_cases e : k = N
  · rw [e, y7, y5]
  · rw [y6 k e, y4 k e]
    exact g7 k (by omega)
/-- a code and one token on: a number, a word -/
theorem LG.atom {m : Int} {D : Nat} (hD : D < 60) (g : LG kp hc hm) (k : hm.1 212 9 ≠ 32) {c : Int} (hcm : 0 ≤ c ∧ c < m) : ∃ h1 h2 hc' hm', DX4_emit (cv_cm c) hc = some (0, h1) ∧ DX10_codes c hm = some (0, h2) ∧ DX4_advance h1 = some (0, hc') ∧ DX10_next h2 = some (0, hm') ∧ LW m false D kp hm hc' hm' := by
  have n9 := g.n9
  obtain ⟨g1, g2, g3, g4, g5, g6, g7⟩ := g
  have n9' := n9.2 k
  obtain ⟨h1, h2, e1, e2, f1, f2, a1, a2, a3, a4, a5, a6⟩ := em0 g1 g3 g5 g6.1 (by omega) g7 c
  have T1 := g1.kp f1 f2 (fun i k g => by omega) (fun i k g => by omega)
  have t1 : TK h1 h2 := by
    obtain ⟨p, q, p1, p2, q1, q2, pq, qS, kk⟩ := g2
    have m2 : h2.1 212 = hm.1 212 := f2.fn (fun k => by omega)
    have m5 : h2.1 215 = hm.1 215 := f2.fn (fun k => by omega)
    have c2 : ∀ k, ¬ k = 5 → h1.1 2 k = hc.1 2 k := fun k hk => f1.at 2 k (by omega)
    refine ⟨p, q, by rw [m2]; exact p1, by rw [c2 7 (by decide)]; exact p2, by rw [m2]; exact q1, by rw [c2 8 (by decide)]; exact q2, pq, by rw [m2]; exact qS, ?_⟩
    unfold KT
    rw [m2, m5, c2 6 (by decide), c2 9 (by decide)]
    exact kk
  obtain ⟨h3, h4, e3, e4, T3, t3, b1, b2, f3, f4⟩ := tk_adv T1 t1
  have m6 : h4.1 216 = h2.1 216 := f4.fn (fun k => by omega)
  have c3 : h3.1 23 = h1.1 23 := f3.fn (fun k => by omega)
  have k2 : h2.1 212 9 ≠ 32 := by rw [f2.at 212 9 (by omega)]; exact k
  have p2 : h2.1 212 6 = hm.1 212 6 := f2.at 212 6 (by omega)
  have b2' := b2 k2
  refine ⟨h1, h2, h3, h4, e1, e2, e3, e4, g6, ⟨T3, t3, by rw [f4.at 212 11 (by omega), f2.at 212 11 (by omega)]; exact g3, ⟨by rw [f4.at 212 15 (by omega), f2.at 212 15 (by omega)]; exact g4.1, by rw [f3.at 2 1 (by omega), f1.at 2 1 (by omega)]; exact g4.2.1, by rw [f3.at 2 2 (by omega), f1.at 2 2 (by omega)]; exact g4.2.2⟩, by rw [m6, f3.at 2 5 (by omega)]; exact a1, by rw [m6]; omega, by rw [c3, m6]; exact a6⟩, by omega, by rw [m6]; omega, by rw [m6]; omega, fun k hk => by rw [m6]; exact a3 k hk, fun k hk => by rw [m6]; exact a4 k hk, ?_⟩
  rw [m6, show (h2.1 216 1011 - hm.1 216 1011).toNat = 1 by omega, sl.eq_2, sl.eq_1, a5]
  exact ty_one hD hcm
/-- an operation laid down behind two rows -/
theorem LW.bin {m c : Int} (hm7 : m ≤ 1007) {a b : Bool} {D : Nat} (o : opT c a b) {h0 : qH} (g : LW m a D kp h0 hc hm) {h2 hc2 hm2 : qH} (n1 : hm.1 212 6 < h2.1 212 6) (n2 : h2.1 216 = hm.1 216) (g2 : LW m a (D + 1) kp h2 hc2 hm2) : ∃ hc' hm', DX4_emit (cv_cm c) hc2 = some (0, hc') ∧ DX10_codes c hm2 = some (0, hm') ∧ LW m b D kp h0 hc' hm' ∧ hm'.1 212 6 = hm2.1 212 6 := by
  obtain ⟨p0, _, p1, p2, p3, p4, p5, p6⟩ := g
  obtain ⟨_, ⟨g1, gt, g3, g4, g5, g6, g7⟩, q1, q2, q3, q4, q5, q6⟩ := g2
  have x9 : hm2.1 212 6 ≤ 900 := by have := tk_pos gt; have := g1.2.2.2; omega
  rw [n2] at q2 q3 q4 q5 q6
  obtain ⟨k1, k2, e1, e2, f1, f2, a1, a2, a3, a4, a5, a6⟩ := em0 g1 g3 g5 g6.1 (by omega) g7 c
  have T1 := g1.kp f1 f2 (fun i k g => by omega) (fun i k g => by omega)
  have t1 : TK k1 k2 := by
    obtain ⟨p, q, p1, p2, q1, q2, pq, qS, kk⟩ := gt
    have m2 : k2.1 212 = hm2.1 212 := f2.fn (fun k => by omega)
    have m5 : k2.1 215 = hm2.1 215 := f2.fn (fun k => by omega)
    have c2 : ∀ k, ¬ k = 5 → k1.1 2 k = hc2.1 2 k := fun k hk => f1.at 2 k (by omega)
    refine ⟨p, q, by rw [m2]; exact p1, by rw [c2 7 (by decide)]; exact p2, by rw [m2]; exact q1, by rw [c2 8 (by decide)]; exact q2, pq, by rw [m2]; exact qS, ?_⟩
    unfold KT
    rw [m2, m5, c2 6 (by decide), c2 9 (by decide)]
    exact kk
  have s6 : k2.1 212 6 = hm2.1 212 6 := f2.at 212 6 (by omega)
  refine ⟨k1, k2, e1, e2, ⟨p0, ⟨T1, t1, by rw [f2.at 212 11 (by omega)]; exact g3, ⟨by rw [f2.at 212 15 (by omega)]; exact g4.1, by rw [f1.at 2 1 (by omega)]; exact g4.2.1, by rw [f1.at 2 2 (by omega)]; exact g4.2.2⟩, a1, by omega, a6⟩, by omega, by omega, by omega, fun k hk => by rw [a3 k hk, q4 k hk, p4 k hk], fun k hk => by rw [a4 k (by omega), q5 k (by omega), p5 k hk], ?_⟩, s6⟩
  obtain ⟨N0, e0⟩ := Int.eq_ofNat_of_zero_le p0.1
  obtain ⟨N1, e1'⟩ := Int.eq_ofNat_of_zero_le (show 0 ≤ hm.1 216 1011 by omega)
  obtain ⟨N2, e2'⟩ := Int.eq_ofNat_of_zero_le (show 0 ≤ hm2.1 216 1011 by omega)
  have s1 : sl (k2.1 216) N0 (N1 - N0) = sl (hm.1 216) N0 (N1 - N0) := sl_cg _ _ (fun k x y => by rw [a4 k (by omega), q5 k (by omega)])
  have s2 : sl (k2.1 216) N1 (N2 - N1) = sl (hm2.1 216) N1 (N2 - N1) := sl_cg _ _ (fun k x y => a4 k (by omega))
  have s3 : sl (k2.1 216) N2 1 = [c] := by
    rw [sl.eq_2, sl.eq_1]
    rw [e2', Int.toNat_natCast] at a5
    rw [a5]
  rw [a2, e0, e2', Int.toNat_natCast, show ((N2 : Int) + 1 - (N0 : Int)).toNat = (N1 - N0) + ((N2 - N1) + 1) by omega, sl_app, show N0 + (N1 - N0) = N1 by omega, sl_app, show N1 + (N2 - N1) = N2 by omega, s1, s2, s3]
  rw [e0, e1', Int.toNat_natCast, show ((N1 : Int) - (N0 : Int)).toNat = N1 - N0 by omega] at p6
  rw [e1', e2', Int.toNat_natCast, show ((N2 : Int) - (N1 : Int)).toNat = N2 - N1 by omega] at q6
  exact ty_bin hm7 o p6 q6
/-- 'not' laid down behind a row -/
theorem LW.neg {m : Int} (hm7 : m ≤ 1007) {D : Nat} {h0 h2 : qH} (n0 : 0 ≤ h0.1 216 1011 ∧ h0.1 216 1011 ≤ h0.1 212 6) (n1 : h0.1 212 6 < h2.1 212 6) (n2 : h2.1 216 = h0.1 216) (g2 : LW m true D kp h2 hc hm) : ∃ hc' hm', DX4_emit 2003 hc = some (0, hc') ∧ DX10_codes 3008 hm = some (0, hm') ∧ LW m true D kp h0 hc' hm' := by
  obtain ⟨_, ⟨g1, gt, g3, g4, g5, g6, g7⟩, q1, q2, q3, q4, q5, q6⟩ := g2
  have x9 : hm.1 212 6 ≤ 900 := by have := tk_pos gt; have := g1.2.2.2; omega
  rw [n2] at q2 q3 q4 q5 q6
  obtain ⟨k1, k2, e1, e2, f1, f2, a1, a2, a3, a4, a5, a6⟩ := em0 g1 g3 g5 g6.1 (by omega) g7 3008
  rw [show cv_cm 3008 = 2003 from rfl] at e1
  have T1 := g1.kp f1 f2 (fun i k g => by omega) (fun i k g => by omega)
  have t1 : TK k1 k2 := by
    obtain ⟨p, q, p1, p2, q1, q2, pq, qS, kk⟩ := gt
    have m2 : k2.1 212 = hm.1 212 := f2.fn (fun k => by omega)
    have m5 : k2.1 215 = hm.1 215 := f2.fn (fun k => by omega)
    have c2 : ∀ k, ¬ k = 5 → k1.1 2 k = hc.1 2 k := fun k hk => f1.at 2 k (by omega)
    refine ⟨p, q, by rw [m2]; exact p1, by rw [c2 7 (by decide)]; exact p2, by rw [m2]; exact q1, by rw [c2 8 (by decide)]; exact q2, pq, by rw [m2]; exact qS, ?_⟩
    unfold KT
    rw [m2, m5, c2 6 (by decide), c2 9 (by decide)]
    exact kk
  have s6 : k2.1 212 6 = hm.1 212 6 := f2.at 212 6 (by omega)
  refine ⟨k1, k2, e1, e2, ⟨n0, ⟨T1, t1, by rw [f2.at 212 11 (by omega)]; exact g3, ⟨by rw [f2.at 212 15 (by omega)]; exact g4.1, by rw [f1.at 2 1 (by omega)]; exact g4.2.1, by rw [f1.at 2 2 (by omega)]; exact g4.2.2⟩, a1, by omega, a6⟩, by omega, by omega, by omega, fun k hk => by rw [a3 k hk, q4 k hk], fun k hk => by rw [a4 k (by omega), q5 k (by omega)], ?_⟩⟩
  obtain ⟨N0, e0⟩ := Int.eq_ofNat_of_zero_le n0.1
  obtain ⟨N2, e2'⟩ := Int.eq_ofNat_of_zero_le (show 0 ≤ hm.1 216 1011 by omega)
  have s2 : sl (k2.1 216) N0 (N2 - N0) = sl (hm.1 216) N0 (N2 - N0) := sl_cg _ _ (fun k x y => a4 k (by omega))
  have s3 : sl (k2.1 216) N2 1 = [3008] := by
    rw [sl.eq_2, sl.eq_1]
    rw [e2', Int.toNat_natCast] at a5
    rw [a5]
  rw [a2, e0, e2', Int.toNat_natCast, show ((N2 : Int) + 1 - (N0 : Int)).toNat = (N2 - N0) + 1 by omega, sl_app, show N0 + (N2 - N0) = N2 by omega, s2, s3]
  rw [e0, e2', Int.toNat_natCast, show ((N2 : Int) - (N0 : Int)).toNat = N2 - N0 by omega] at q6
  exact ty_not hm7 q6
/-- a row within brackets: tokens went by on both sides -/
theorem LW.in {m : Int} {b : Bool} {D : Nat} {h0 h2 hc' hm' : qH} (n0 : 0 ≤ h0.1 216 1011 ∧ h0.1 216 1011 ≤ h0.1 212 6) (n1 : h0.1 212 6 < h2.1 212 6) (n2 : h2.1 216 = h0.1 216) (g2 : LW m b D kp h2 hc hm) (L : LG kp hc' hm') (n3 : hm.1 212 6 ≤ hm'.1 212 6) (n4 : hm'.1 216 = hm.1 216) : LW m b D kp h0 hc' hm' := by
  obtain ⟨_, _, q1, q2, q3, q4, q5, q6⟩ := g2
  rw [n2] at q2 q3 q4 q5 q6
  unfold LW
  rw [n4]
  exact ⟨n0, L, by omega, q2, by omega, q4, q5, q6⟩
theorem LW.less {m : Int} {b : Bool} {D D' : Nat} {h0 hc' hm' : qH} (g : LW m b D kp h0 hc' hm') (h : D' ≤ D) : LW m b D' kp h0 hc' hm' := by
  obtain ⟨q0, q, q1, q2, q3, q4, q5, q6⟩ := g
  exact ⟨q0, q, q1, q2, q3, q4, q5, q6.less h⟩
theorem JL.less {m : Int} {b : Bool} {D D' : Nat} {h0 : qH} {x y : Option (Int × qH)} (g : JL m b D kp h0 x y) (h : D' ≤ D) : JL m b D' kp h0 x y := by
  obtain ⟨r, a, r', b', e1, e2, e3⟩ := g
  refine ⟨r, a, r', b', e1, e2, ?_⟩
  rcases e3 with ⟨e, l⟩ | e
  · exact Or.inl ⟨e, l.less h⟩
  · exact Or.inr e
end lg
