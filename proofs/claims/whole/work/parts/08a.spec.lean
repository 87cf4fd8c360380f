/-! ===== one mathematical sea: A holds it by the reference's places, v a bottle by its eight ===== -/
def up (v : Nat → Int) (k : Nat) (x : Int) : Nat → Int := fun j => if j = k then x else v j
theorem up_s (v : Nat → Int) (k : Nat) (x : Int) : up v k x k = x := by unfold up; rw [if_pos rfl]
theorem up_n (v : Nat → Int) {k j : Nat} (x : Int) (h : ¬ j = k) : up v k x j = v j := by unfold up; rw [if_neg h]
theorem qu_s (h : qH) (i k : Nat) (v : Int) : (qu h i k v).1 i = up (h.1 i) k v := by
  funext b
  show (if i = i ∧ b = k then v else h.1 i b) = if b = k then v else h.1 i b
  by_cases e : b = k
  · rw [if_pos ⟨rfl, e⟩, if_pos e]
  · rw [if_neg (fun g => e g.2), if_neg e]
theorem qu_2 (h : qH) (i k : Nat) (v : Int) : (qu h i k v).2 = h.2 := rfl
theorem qu_1 (h : qH) (i k : Nat) (v : Int) (a b : Nat) : (qu h i k v).1 a b = if a = i ∧ b = k then v else h.1 a b := rfl
theorem qbd_some (r : Int) (h : qH) (f : Int → qH → Option (Int × qH)) : qbd (some (r, h)) f = f r h := rfl
/-- the cell beside one -/
def cv_bes (A : Nat → Int) (k way : Int) : Int :=
  if way = 1 then (if k < A 1 then -1 else k - A 1)
  else if way = 2 then (if A 1 - 1 ≤ k % A 1 then -1 else k + 1)
  else if way = 3 then (if A 1 * A 2 ≤ k + A 1 then -1 else k + A 1)
  else if way = 4 then (if k % A 1 ≤ 0 then -1 else k - 1) else -1
def cv_to (A : Nat → Int) (s : Int) : Int :=
  if cv_bes A (A (266 + s.toNat)) (A (272 + s.toNat)) ≠ -1 ∧ A (14 + (cv_bes A (A (266 + s.toNat)) (A (272 + s.toNat))).toNat) = 0 then cv_bes A (A (266 + s.toNat)) (A (272 + s.toNat)) else -1
def cv_ph (A : Nat → Int) (t : Int) : Int := t % A 3
def cv_mo (A : Nat → Int) (t : Int) : Int := if A 5 = 0 then 0 else t % A 5
def cv_cl (x : Int) : Int := if 1000000 < x then 1000000 else if x < -1000000 then -1000000 else x
def cv_bet (c a b : Int) : Int :=
  if c = 3000 then cv_cl (a + b) else if c = 3001 then cv_cl (a - b) else if c = 3002 then cv_cl (a * b)
  else if c = 3003 then (if a = b then 1 else 0) else if c = 3004 then (if a < b then 1 else 0) else if c = 3005 then (if b < a then 1 else 0)
  else if c = 3006 then (if a + b = 2 then 1 else 0) else (if 0 < a + b then 1 else 0)
def cv_ev (w : Nat → Int) : List Int → Nat → (Nat → Int) → (Nat → Int)
  | [], _, f => f
  | c :: cs, n, f => if c < 1000 then cv_ev w cs (n + 1) (up f n c) else if c < 3000 then cv_ev w cs (n + 1) (up f n (w (c - 1000).toNat))
    else if c = 3008 then cv_ev w cs n (up f (n - 1) (1 - f (n - 1))) else cv_ev w cs (n - 1) (up f (n - 2) (cv_bet c (f (n - 2)) (f (n - 1))))
def cv_code (A : Nat → Int) (law : Nat) : List Int := (List.range (A (12 + law)).toNat).map (fun i => A (1012 + (A (10 + law)).toNat + i))
def cv_law (A : Nat → Int) (law : Nat) (w : Nat → Int) : Int := cv_ev w (cv_code A law) 0 (fun _ => 0) 0
def cv_ww (A : Nat → Int) (k ph mo : Int) : Nat → Int := fun j => if j = 0 then k % A 1 else if j = 1 then k / A 1 else if j = 2 then ph else mo
def cv_wind (A : Nat → Int) (k ph mo : Int) : Int := if A 8 = 0 then 0 else cv_law A 0 (cv_ww A k ph mo) % 5
def cv_step (A : Nat → Int) (way : Int) (v : Nat → Int) : Nat → Int :=
  if cv_bes A (v 1) way = -1 then v
  else up (up v 1 (cv_bes A (v 1) way)) 0 (if A (14 + (cv_bes A (v 1) way).toNat) = 0 then 0 else if A (14 + (cv_bes A (v 1) way).toNat) = 1 then 3 else 1)
def cv_cur (A : Nat → Int) (t : Int) (v : Nat → Int) : Nat → Int := if v 0 = 0 then cv_step A (A (50 + 6 * (v 1).toNat + (cv_ph A t).toNat)) v else v
def cv_cur2 (A : Nat → Int) (t : Int) (v : Nat → Int) : Nat → Int := if 0 < A 5 ∧ cv_mo A t < A 6 then cv_cur A t v else v
def cv_blow (A : Nat → Int) (t : Int) (v : Nat → Int) : Nat → Int := if v 0 = 0 ∧ v 4 = 0 then cv_step A (cv_wind A (v 1) (cv_ph A t) (cv_mo A t)) v else v
def cv_go (A : Nat → Int) (t : Int) (v : Nat → Int) : Nat → Int := cv_blow A t (cv_cur2 A t (cv_cur A t v))
def cv_kw (v : Nat → Int) (s ph : Int) : Nat → Int := fun j => if j = 0 then v 2 else if j = 1 then v 3 else if j = 2 then s else if j = 3 then v 5 else if j = 4 then v 6 else if j = 5 then v 4 else ph
def cv_keeps (A : Nat → Int) (v : Nat → Int) (s ph : Int) : Prop := v 3 = s ∨ v 3 = -1 ∨ (A 9 = 1 ∧ cv_law A 1 (cv_kw v s ph) = 1)
def cv_sh (A : Nat → Int) (v : Nat → Int) : Int := A (14 + (v 1).toNat) - 10
def cv_pass (A : Nat → Int) (s : Int) (v : Nat → Int) : Nat → Int := if cv_to A s = -1 then up v 6 (v 6 + 1) else up (up (up v 6 (v 6 + 1)) 1 (cv_to A s)) 0 0
noncomputable def cv_find (A : Nat → Int) (e t : Int) (v : Nat → Int) : Nat → Int :=
  if cv_sh A v = e ∨ qbit (A (278 + (cv_sh A v).toNat)) (cv_ph A t) = 0 then v
  else @ite _ (cv_keeps A v (cv_sh A v) (cv_ph A t)) (Classical.propDecidable _) (up (up v 0 2) 7 (cv_sh A v)) (cv_pass A (cv_sh A v) v)
def cv_age (A : Nat → Int) (c : Bool) (v : Nat → Int) : Nat → Int :=
  if v 0 = 0 ∧ c = false ∧ 0 < A 7 ∧ A 7 ≤ v 5 + 1 then up (up v 5 (v 5 + 1)) 0 4 else up v 5 (v 5 + 1)
noncomputable def cv_end (A : Nat → Int) (e t : Int) (v : Nat → Int) : Nat → Int := if v 0 = 1 then cv_find A e t v else v
noncomputable def cv_tide (A : Nat → Int) (e t : Int) (c : Bool) (v : Nat → Int) : Nat → Int :=
  if v 0 = 0 ∨ v 0 = 1 then (if (cv_go A t v) 0 = 0 ∨ (cv_go A t v) 0 = 1 then cv_end A e t (cv_age A c (cv_go A t v)) else cv_go A t v) else v
/-! what is known of a sea, of a bottle -/
/-- types along a law's row: true a truth, false a number; no row deeper than 60 -/
def cv_ty (m : Int) : List Int → List Bool → Option (List Bool)
  | [], s => some s
  | c :: cs, s => if 0 ≤ c ∧ c < m then (if s.length < 60 then cv_ty m cs (false :: s) else none)
    else match s with
      | a :: s1 => if c = 3008 then (if a = true then cv_ty m cs (true :: s1) else none)
        else match s1 with
          | b :: s2 => if c = 3000 ∨ c = 3001 ∨ c = 3002 then (if a = false ∧ b = false then cv_ty m cs (false :: s2) else none)
            else if c = 3003 ∨ c = 3004 ∨ c = 3005 then (if a = false ∧ b = false then cv_ty m cs (true :: s2) else none)
            else if c = 3006 ∨ c = 3007 then (if a = true ∧ b = true then cv_ty m cs (true :: s2) else none) else none
          | [] => none
      | [] => none
def cv_okl (A : Nat → Int) (law : Nat) (b : Bool) : Prop :=
  (A (8 + law) = 0) ∨ (A (8 + law) = 1 ∧ 0 ≤ A (10 + law) ∧ 0 < A (12 + law) ∧ A (10 + law) + A (12 + law) ≤ 900 ∧ cv_ty (if b = true then 1007 else 1004) (cv_code A law) [] = some [b])
def cG (A : Nat → Int) : Prop :=
  ((A 1 = 0 ∧ A 2 = 0) ∨ (2 ≤ A 1 ∧ A 1 ≤ 6 ∧ 2 ≤ A 2 ∧ A 2 ≤ 6)) ∧ (1 ≤ A 3 ∧ A 3 ≤ 6) ∧ (0 ≤ A 4 ∧ A 4 ≤ 6) ∧ (A 5 = 0 ∨ (2 ≤ A 5 ∧ A 5 ≤ 30)) ∧ (0 ≤ A 6 ∧ A 6 ≤ 30) ∧ (0 ≤ A 7 ∧ A 7 ≤ 99) ∧
  (∀ k : Nat, k < 36 → A (14 + k) = 0 ∨ A (14 + k) = 1 ∨ (10 ≤ A (14 + k) ∧ A (14 + k) < 10 + A 4)) ∧
  (∀ j : Nat, j < 216 → 0 ≤ A (50 + j) ∧ A (50 + j) ≤ 4) ∧
  (∀ s : Nat, (s : Int) < A 4 → 0 ≤ A (266 + s) ∧ A (266 + s) < A 1 * A 2 ∧ 1 ≤ A (272 + s) ∧ A (272 + s) ≤ 4 ∧ A (14 + (A (266 + s)).toNat) = 10 + s ∧ 0 ≤ A (278 + s) ∧ A (278 + s) < 64) ∧
  cv_okl A 0 false ∧ cv_okl A 1 true
def cB (A : Nat → Int) (N : Int) (v : Nat → Int) : Prop :=
  (0 ≤ v 0 ∧ v 0 ≤ 5) ∧ (0 ≤ v 1 ∧ v 1 < A 1 * A 2) ∧ (v 0 = 0 → A (14 + (v 1).toNat) = 0) ∧ (v 0 = 1 → 10 ≤ A (14 + (v 1).toNat)) ∧
  (-1 ≤ v 2 ∧ v 2 < 6) ∧ (-1 ≤ v 3 ∧ v 3 < 6) ∧ (v 4 = 0 ∨ v 4 = 1) ∧ (0 ≤ v 6 ∧ v 6 ≤ v 5 ∧ v 5 ≤ N) ∧ (-1 ≤ v 7 ∧ v 7 < 6)
/-! small facts -/
theorem cG.wh {A : Nat → Int} (G : cG A) {k : Int} (h0 : 0 ≤ k) (h1 : k < A 1 * A 2) : (A 1 = 2 ∨ A 1 = 3 ∨ A 1 = 4 ∨ A 1 = 5 ∨ A 1 = 6) ∧ 2 ≤ A 2 ∧ A 2 ≤ 6 := by
  rcases G.1 with ⟨e1, e2⟩ | ⟨a, b, c, d⟩
  · rw [e1, e2] at h1
    omega
  · exact ⟨by omega, c, d⟩
theorem cG.cells {A : Nat → Int} (G : cG A) : 0 ≤ A 1 * A 2 ∧ A 1 * A 2 ≤ 36 := by
  rcases G.1 with ⟨e1, e2⟩ | ⟨a, b, c, d⟩
  · rw [e1, e2]
    decide
  · have h : A 1 = 2 ∨ A 1 = 3 ∨ A 1 = 4 ∨ A 1 = 5 ∨ A 1 = 6 := by omega
    rcases h with h | h | h | h | h <;> rw [h] <;> omega
theorem cv_bes_r {A : Nat → Int} (G : cG A) {k way : Int} (h0 : 0 ≤ k) (h1 : k < A 1 * A 2) : cv_bes A k way = -1 ∨ (0 ≤ cv_bes A k way ∧ cv_bes A k way < A 1 * A 2) := by
  obtain ⟨hw, _, _⟩ := G.wh h0 h1
  unfold cv_bes
  generalize A 1 = W at *
  generalize A 2 = H at *
  rcases hw with rfl | rfl | rfl | rfl | rfl <;> (repeat' split) <;> omega
theorem cv_to_r {A : Nat → Int} (G : cG A) {s : Int} (h0 : 0 ≤ s) (h1 : s < A 4) : cv_to A s = -1 ∨ (0 ≤ cv_to A s ∧ cv_to A s < A 1 * A 2 ∧ A (14 + (cv_to A s).toNat) = 0) := by
  obtain ⟨n, rfl⟩ := Int.eq_ofNat_of_zero_le h0
  have hs := G.2.2.2.2.2.2.2.2.1 n h1
  unfold cv_to
  rw [Int.toNat_natCast]
  have hb := cv_bes_r G (way := A (272 + n)) hs.1 hs.2.1
  generalize cv_bes A (A (266 + n)) (A (272 + n)) = r at *
  by_cases hc : r ≠ -1 ∧ A (14 + r.toNat) = 0
  · rw [if_pos hc]
    right
    rcases hb with hb | hb
    · exact absurd hb hc.1
    · exact ⟨hb.1, hb.2, hc.2⟩
  · rw [if_neg hc]
    exact Or.inl rfl
theorem cv_ph_r {A : Nat → Int} (G : cG A) (t : Int) : 0 ≤ cv_ph A t ∧ cv_ph A t < A 3 := by
  have h := G.2.1
  exact ⟨Int.emod_nonneg _ (by omega), Int.emod_lt_of_pos _ (by omega)⟩
theorem cv_mo_r {A : Nat → Int} (G : cG A) (t : Int) : 0 ≤ cv_mo A t ∧ cv_mo A t < 30 ∧ (A 5 = 0 → cv_mo A t = 0) ∧ (0 < A 5 → cv_mo A t < A 5) := by
  have h := G.2.2.2.1
  unfold cv_mo
  by_cases e : A 5 = 0
  · rw [if_pos e]
    omega
  · rw [if_neg e]
    have l1 := Int.emod_nonneg t (show A 5 ≠ 0 by omega)
    have l2 := Int.emod_lt_of_pos t (show 0 < A 5 by omega)
    omega
