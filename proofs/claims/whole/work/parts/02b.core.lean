/-! ===== the small machine: whole numbers, references by number, a world of whole numbers ===== -/
abbrev qV : Type := Int ⊕ (Int ⊕ Option Nat)
/-- what the objects hold: numbers by object and place; are the two late rows made; has the reader its text; the last flag is ours alone: is the reader's chart in use -/
abbrev qH : Type := (Nat → Nat → Int) × Bool × Bool × Bool × Bool
abbrev qi (x : Int) : qV := Sum.inl x
abbrev ql (x : Int) : qV := Sum.inr (Sum.inl x)
abbrev qr (i : Nat) : qV := Sum.inr (Sum.inr (some i))
abbrev qn : qV := Sum.inr (Sum.inr none)
def q2 (ad : Nat → Nat) (v : qV) : Value := match v with
  | .inl x => .int (Int32.ofInt x)
  | .inr (.inl x) => .long (Int64.ofInt x)
  | .inr (.inr (some i)) => .ref (ad i)
  | .inr (.inr none) => .null
abbrev q32 (x : Int) : Prop := -2147483648 ≤ x ∧ x < 2147483648
abbrev q64 (x : Int) : Prop := -9223372036854775808 ≤ x ∧ x < 9223372036854775808
/-- the number is of an object that stands: one of the constructors', a late row that is made, or one outside -/
def qlv (h : qH) (i : Nat) : Prop := i < 225 ∨ 227 ≤ i ∨ (i = 225 ∧ h.2.1 = true) ∨ (i = 226 ∧ h.2.2.1 = true)
def qk (h : qH) (v : qV) : Prop := match v with
  | .inl x => q32 x
  | .inr (.inl x) => q64 x
  | .inr (.inr (some i)) => qlv h i
  | .inr (.inr none) => True
def qids (h : qH) : List Nat := (List.range 225 ++ if h.2.1 = true then [225] else []) ++ if h.2.2.1 = true then [226] else []
/-- a reference field -/
def qF (h : qH) (i k : Nat) : Option Nat :=
  if (qK i).1 = 2 ∧ k = 4 then (if h.2.1 = true then some 225 else none)
  else if (qK i).1 = 2 ∧ k = 5 then (if h.2.2.1 = true then some 226 else none)
  else if (qK i).1 = 4 ∧ k = 3 then (if h.2.2.2.1 = true then some 1 else some 3)
  else (qO (qK i).1 k).map (fun o => i + o)
def qfv (ad : Nat → Nat) (h : qH) (i k : Nat) : Value := if qT (qK i).1 k < 2 then .int (Int32.ofInt (h.1 i k)) else va_rf ((qF h i k).map ad)
def qfl (ad : Nat → Nat) (h : qH) (i : Nat) : List Value := (List.range (qK i).2).map (qfv ad h i)
def qent (aC : Nat → ClassId) (ad : Nat → Nat) (h : qH) (i : Nat) : va_E :=
  if (qK i).1 < 20 then .inr ((qK i).1, qfl ad h i)
  else if (qK i).1 = 24 then .inl (aC 4, (qK i).2, .inr (.inl (fun j => Int64.ofInt (h.1 i j))))
  else if (qK i).1 < 24 then .inl (aC ((qK i).1 - 20), (qK i).2, .inl (fun j => Int32.ofInt (h.1 i j)))
  else .inl (aC ((qK i).1 - 20), (qK i).2, .inr (.inr (.inr (.inr (fun j => if j < (qK i).2 then some (ad (qEl i j)) else none)))))
def qWl (ids : List Nat) (ad : Nat → Nat) (f : Nat → va_E) : va_W := ids.map (fun i => (ad i, f i))
def qRep (D : va_G) (aC : Nat → ClassId) (A : Nat → Prop) (ad : Nat → Nat) (h : qH) (H : Heap) : Prop := va_P D vwCl (qWl (qids h) ad (qent aC ad h)) H ∧ va_D A (qWl (qids h) ad (qent aC ad h))
def qtys (aC : Nat → ClassId) : List (ClassId × FieldType) := [(aC 0, .int), (aC 1, .byte), (aC 2, .short), (aC 3, .boolean), (aC 4, .long), (aC 5, .object "BottlePost$Bottle"), (aC 6, .object "BottlePost$Waters"), (aC 7, .object "BottlePost$Tray"), (aC 8, .object "BottlePost$Chart")]
/-- numbers in their bounds -/
def qHk (h : qH) : Prop := (∀ i k, q64 (h.1 i k)) ∧ (∀ i k, (qK i).1 ≠ 24 → q32 (h.1 i k)) ∧ ∀ i, (qK i).1 = 0 → h.1 i 4 = 0 ∨ h.1 i 4 = 1
def qu (h : qH) (i k : Nat) (v : Int) : qH := (fun a b => if a = i ∧ b = k then v else h.1 a b, h.2)
def qM (h h' : qH) : Prop := (h.2.1 = true → h'.2.1 = true) ∧ (h.2.2.1 = true → h'.2.2.1 = true)
def qp (h : qH) : Nat := (if h.2.1 = true then 0 else 1) + (if h.2.2.1 = true then 0 else 1)
def qs (h : qH) : Nat := (if h.2.1 = true then 0 else 6480) + (if h.2.2.1 = true then 0 else 12960)
/-- which words of the tables go on to hold -/
def qnest : Cond → Bool
  | .methodLinkNest _ _ _ _ => true
  | _ => false
def qgw (w : Cond) : Bool := goodWord w || qnest w
theorem qNw_warm {w : Cond} (hg : qgw w = true) {s U : State} (hW : s.WarmedH U.vm) (h : va_Nw w s) : va_Nw w U := by
  unfold qgw at hg
  rw [Bool.or_eq_true] at hg
  rcases hg with hg | hg
  · exact word_at hW (good_of_word hg) h
  · cases w <;> first | exact va_Nw.warmM hW h | cases hg
/-! bounds -/
theorem q32_of (x : Int32) : q32 x.toInt := ⟨by have := x.le_toInt; omega, by have := x.toInt_lt; omega⟩
theorem q64_of (x : Int64) : q64 x.toInt := ⟨by have := x.le_toInt; omega, by have := x.toInt_lt; omega⟩
theorem q32_i {x : Int} (h : q32 x) : (Int32.ofInt x).toInt = x := Int32.toInt_ofInt_of_le (by have := h.1; omega) (by have := h.2; omega)
theorem q64_i {x : Int} (h : q64 x) : (Int64.ofInt x).toInt = x := Int64.toInt_ofInt_of_le (by have := h.1; omega) (by have := h.2; omega)
theorem q32_64 {x : Int} (h : q32 x) : q64 x := ⟨by have := h.1; omega, by have := h.2; omega⟩
theorem qM.rf {h : qH} : qM h h := ⟨id, id⟩
theorem qM.tr {a b c : qH} (h : qM a b) (g : qM b c) : qM a c := ⟨fun q => g.1 (h.1 q), fun q => g.2 (h.2 q)⟩
theorem qM.lv {a b : qH} (h : qM a b) {i : Nat} (g : qlv a i) : qlv b i := by
  rcases g with g | g | ⟨g1, g2⟩ | ⟨g1, g2⟩
  · exact Or.inl g
  · exact Or.inr (Or.inl g)
  · exact Or.inr (Or.inr (Or.inl ⟨g1, h.1 g2⟩))
  · exact Or.inr (Or.inr (Or.inr ⟨g1, h.2 g2⟩))
theorem qM.k {a b : qH} (h : qM a b) {v : qV} (g : qk a v) : qk b v := by
  match v, g with
  | .inl _, g => exact g
  | .inr (.inl _), g => exact g
  | .inr (.inr (some i)), g => exact h.lv g
  | .inr (.inr none), _ => exact trivial
theorem qM.p {a b : qH} (h : qM a b) : qp b ≤ qp a := by
  unfold qp
  have h1 := h.1
  have h2 := h.2
  split <;> split <;> split <;> split <;> simp_all
theorem qM.s {a b : qH} (h : qM a b) : qs b ≤ qs a := by
  unfold qs
  have h1 := h.1
  have h2 := h.2
  split <;> split <;> split <;> split <;> simp_all
theorem q2_ag {ad ad' : Nat → Nat} {h : qH} (g : ∀ i, qlv h i → ad' i = ad i) {v : qV} (hv : qk h v) : q2 ad' v = q2 ad v := by
  match v, hv with
  | .inl _, _ => rfl
  | .inr (.inl _), _ => rfl
  | .inr (.inr (some i)), hv => show Value.ref (ad' i) = Value.ref (ad i); rw [g i hv]
  | .inr (.inr none), _ => rfl
theorem qids_mem {h : qH} {i : Nat} : i ∈ qids h ↔ i < 225 ∨ (i = 225 ∧ h.2.1 = true) ∨ (i = 226 ∧ h.2.2.1 = true) := by
  unfold qids
  by_cases a : h.2.1 = true <;> by_cases b : h.2.2.1 = true <;> simp [a, b]
theorem qids_nodup (h : qH) : (qids h).Nodup := by
  unfold qids
  refine List.nodup_append.mpr ⟨List.nodup_append.mpr ⟨List.nodup_range, ?_, ?_⟩, ?_, ?_⟩
  · split <;> simp
  · intro a ha b hb
    have := List.mem_range.mp ha
    split at hb <;> simp at hb
    omega
  · split <;> simp
  · intro a ha b hb
    split at hb <;> simp at hb
    rcases List.mem_append.mp ha with ha | ha
    · have := List.mem_range.mp ha
      omega
    · split at ha <;> simp at ha
      omega
theorem qWl_at {ids : List Nat} {ad : Nat → Nat} {f : Nat → va_E} (hn : ids.Nodup) {i : Nat} (hi : i ∈ ids) : ∃ k, (qWl ids ad f)[k]? = some (ad i, f i) ∧ ∀ e, (qWl ids ad f).set k (ad i, e) = qWl ids ad (fun j => if j = i then e else f j) := by
  obtain ⟨k, hk⟩ := List.getElem?_of_mem hi
  refine ⟨k, by simp [qWl, hk], fun e => ?_⟩
  unfold qWl
  apply List.ext_getElem?
  intro n
  have hkl := (List.getElem?_eq_some_iff.mp hk).1
  by_cases hnk : k = n
  · subst hnk
    rw [List.getElem?_set_self (by simpa using hkl), List.getElem?_map, hk]
    simp
  · rw [List.getElem?_set_ne hnk, List.getElem?_map, List.getElem?_map]
    cases hq : ids[n]? with
    | none => rfl
    | some j =>
      have hji : ¬ j = i := by
        intro e1
        subst e1
        have l1 := (List.getElem?_eq_some_iff.mp hq).1
        have e2 : ids[k] = ids[n] := by
          rw [(List.getElem?_eq_some_iff.mp hk).2, (List.getElem?_eq_some_iff.mp hq).2]
        exact hnk ((List.getElem_inj hn).mp e2)
      simp [hji]
theorem qWl_cg {ids : List Nat} {ad : Nat → Nat} {f g : Nat → va_E} (h : ∀ i ∈ ids, f i = g i) : qWl ids ad f = qWl ids ad g := by
  unfold qWl
  exact List.map_congr_left (fun i hi => by rw [h i hi])
