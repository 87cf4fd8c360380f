/-! ===== the machine of the constructors: objects come one by one, in the order of their numbers ===== -/
/-- the kinds in the order in which the constructors make the objects; zpi: the number that such a one has in the small machine, zsg: back -/
def zKL : List (Nat × Nat) := [(9, 16), (21, 900), (4, 10), (1, 20), (20, 36), (20, 216), (20, 6), (20, 6), (20, 6), (20, 6), (20, 900), (21, 0), (2, 7), (1, 20), (20, 36), (20, 216), (20, 6), (20, 6), (20, 6), (20, 6), (20, 900), (0, 8), (20, 7), (20, 64), (7, 3), (25, 8), (0, 8), (0, 8), (0, 8), (0, 8), (0, 8), (0, 8), (0, 8), (0, 8), (7, 3), (25, 8), (0, 8), (0, 8), (0, 8), (0, 8), (0, 8), (0, 8), (0, 8), (0, 8), (3, 3), (26, 11), (7, 3), (25, 8), (0, 8), (0, 8), (0, 8), (0, 8), (0, 8), (0, 8), (0, 8), (0, 8), (7, 3), (25, 8), (0, 8), (0, 8), (0, 8), (0, 8), (0, 8), (0, 8), (0, 8), (0, 8), (7, 3), (25, 8), (0, 8), (0, 8), (0, 8), (0, 8), (0, 8), (0, 8), (0, 8), (0, 8), (7, 3), (25, 8), (0, 8), (0, 8), (0, 8), (0, 8), (0, 8), (0, 8), (0, 8), (0, 8), (7, 3), (25, 8), (0, 8), (0, 8), (0, 8), (0, 8), (0, 8), (0, 8), (0, 8), (0, 8), (7, 3), (25, 8), (0, 8), (0, 8), (0, 8), (0, 8), (0, 8), (0, 8), (0, 8), (0, 8), (7, 3), (25, 8), (0, 8), (0, 8), (0, 8), (0, 8), (0, 8), (0, 8), (0, 8), (0, 8), (7, 3), (25, 8), (0, 8), (0, 8), (0, 8), (0, 8), (0, 8), (0, 8), (0, 8), (0, 8), (7, 3), (25, 8), (0, 8), (0, 8), (0, 8), (0, 8), (0, 8), (0, 8), (0, 8), (0, 8), (7, 3), (25, 8), (0, 8), (0, 8), (0, 8), (0, 8), (0, 8), (0, 8), (0, 8), (0, 8), (7, 3), (25, 8), (0, 8), (0, 8), (0, 8), (0, 8), (0, 8), (0, 8), (0, 8), (0, 8), (0, 8), (5, 6), (20, 6), (20, 6), (8, 4), (0, 8), (20, 4), (24, 8), (27, 4), (28, 2), (26, 2), (23, 2), (6, 3), (24, 40), (6, 3), (24, 40), (6, 3), (24, 40), (6, 3), (24, 40), (1, 20), (20, 36), (20, 216), (20, 6), (20, 6), (20, 6), (20, 6), (20, 900), (7, 3), (25, 8), (0, 8), (0, 8), (0, 8), (0, 8), (0, 8), (0, 8), (0, 8), (0, 8), (1, 20), (20, 36), (20, 216), (20, 6), (20, 6), (20, 6), (20, 6), (20, 900), (7, 3), (25, 8), (0, 8), (0, 8), (0, 8), (0, 8), (0, 8), (0, 8), (0, 8), (0, 8), (10, 39), (20, 5736), (23, 2), (20, 900), (20, 1912), (20, 8), (20, 900), (20, 66), (20, 6), (20, 6), (20, 4), (20, 4), (24, 160), (21, 6480), (22, 12960)]
def zK (i : Nat) : Nat × Nat := zKL.getD i (99, 0)
def zpi (n : Nat) : Nat := if 3 ≤ n ∧ n < 11 then n + 13 else if n = 11 then 3 else if 12 ≤ n ∧ n < 24 then n - 8 else n
def zsg (i : Nat) : Nat := if i = 3 then 11 else if 4 ≤ i ∧ i < 16 then i + 8 else if 16 ≤ i ∧ i < 24 then i - 13 else i
theorem zpi_sg (i : Nat) : zpi (zsg i) = i := by
  unfold zpi zsg
  (repeat' split) <;> omega
theorem zsg_pi (n : Nat) : zsg (zpi n) = n := by
  unfold zpi zsg
  (repeat' split) <;> omega
theorem zsg_inj {i j : Nat} (h : zsg i = zsg j) : i = j := by rw [← zpi_sg i, h, zpi_sg]
theorem zsg_lt {i : Nat} (h : i < 225) : zsg i < 225 := by
  unfold zsg
  (repeat' split) <;> omega
theorem zsg_hi {i : Nat} (h : 24 ≤ i) : zsg i = i := by
  unfold zsg
  (repeat' split) <;> omega
theorem zKL_len : zKL.length = 227 := by decide +kernel
theorem zK_out {i : Nat} (h : 227 ≤ i) : zK i = (99, 0) := by
  unfold zK
  rw [List.getD_eq_getElem?_getD, List.getElem?_eq_none (by rw [zKL_len]; exact h)]
  rfl
theorem zK_lt {i : Nat} (h : (zK i).1 < 20) : i < 225 := by
  rcases Nat.lt_or_ge i 225 with q | q
  · exact q
  · exfalso
    rcases (show i = 225 ∨ i = 226 ∨ 227 ≤ i by omega) with e | e | e
    · subst e
      exact absurd h (by decide +kernel)
    · subst e
      exact absurd h (by decide +kernel)
    · rw [zK_out e] at h
      exact absurd h (by decide)
theorem zK_lt2 {i : Nat} (h : (zK i).1 < 99) : i < 227 := by
  rcases Nat.lt_or_ge i 227 with q | q
  · exact q
  · rw [zK_out q] at h
    exact absurd h (by decide)
theorem z_n39 : ∀ i, i < 225 → (zK i).1 < 20 → (zK i).2 ≤ 39 := by
  have h : (List.range 225).all (fun i => !(decide ((zK i).1 < 20)) || decide ((zK i).2 ≤ 39)) = true := by decide +kernel
  intro i hi hk
  have h1 := List.all_eq_true.mp h i (List.mem_range.mpr hi)
  simpa [hk] using h1
theorem zK_sg : ∀ i, i < 225 → zK (zsg i) = qK i := by
  have h : (List.range 225).all (fun i => decide (zK (zsg i) = qK i)) = true := by decide +kernel
  intro i hi
  exact of_decide_eq_true (List.all_eq_true.mp h i (List.mem_range.mpr hi))
abbrev zH : Type := Nat × (Nat → Nat → Int) × (Nat → Nat → Option Nat)
def zlv (s : zH) (i : Nat) : Prop := i < s.1 ∨ 227 ≤ i
def zk (s : zH) (v : qV) : Prop := match v with
  | .inl x => q32 x
  | .inr (.inl x) => q64 x
  | .inr (.inr (some i)) => zlv s i
  | .inr (.inr none) => True
def zids (s : zH) : List Nat := List.range s.1
def zfv (ad : Nat → Nat) (s : zH) (i k : Nat) : Value := if qT (zK i).1 k < 2 then .int (Int32.ofInt (s.2.1 i k)) else va_rf ((s.2.2 i k).map ad)
def zfl (ad : Nat → Nat) (s : zH) (i : Nat) : List Value := (List.range (zK i).2).map (zfv ad s i)
def zent (aC : Nat → ClassId) (ad : Nat → Nat) (s : zH) (i : Nat) : va_E :=
  if (zK i).1 < 20 then .inr ((zK i).1, zfl ad s i)
  else if (zK i).1 = 24 then .inl (aC 4, (zK i).2, .inr (.inl (fun j => Int64.ofInt (s.2.1 i j))))
  else if (zK i).1 < 24 then .inl (aC ((zK i).1 - 20), (zK i).2, .inl (fun j => Int32.ofInt (s.2.1 i j)))
  else .inl (aC ((zK i).1 - 20), (zK i).2, .inr (.inr (.inr (.inr (fun j => (s.2.2 i j).map ad)))))
def zRep (D : va_G) (aC : Nat → ClassId) (A : Nat → Prop) (ad : Nat → Nat) (s : zH) (H : Heap) : Prop := va_P D vwCl (qWl (zids s) ad (zent aC ad s)) H ∧ va_D A (qWl (zids s) ad (zent aC ad s))
def zHk (s : zH) : Prop := (∀ i k, q32 (s.2.1 i k)) ∧ (∀ i k j, s.2.2 i k = some j → j < s.1) ∧ (∀ i, s.1 ≤ i → (∀ k, s.2.1 i k = 0) ∧ ∀ k, s.2.2 i k = none) ∧ s.1 ≤ 225 ∧ (∀ i k, 39 ≤ k → s.2.2 i k = none) ∧ ∀ i k, 39 ≤ k → s.2.1 i k = 0
def zu (s : zH) (i k : Nat) (v : Int) : zH := (s.1, fun a b => if a = i ∧ b = k then v else s.2.1 a b, s.2.2)
def zur (s : zH) (i k j : Nat) : zH := (s.1, s.2.1, fun a b => if a = i ∧ b = k then some j else s.2.2 a b)
def znew (s : zH) : zH := (s.1 + 1, s.2)
def zM (s s' : zH) : Prop := s.1 ≤ s'.1
def zp (s : zH) : Nat := 225 - s.1
def zs (s : zH) : Nat := ((zKL.drop s.1).map (fun q => q.2)).sum
def zAO (U : State) : Prop := va_AO "BottlePost$Bottle" U ∧ va_AO "BottlePost$Waters" U ∧ va_AO "BottlePost$Tray" U ∧ va_AO "BottlePost$Chart" U
theorem zM.rf {s : zH} : zM s s := Nat.le_refl _
theorem zM.tr {a b c : zH} (h : zM a b) (g : zM b c) : zM a c := Nat.le_trans h g
theorem zM.lv {a b : zH} (h : zM a b) {i : Nat} (g : zlv a i) : zlv b i := by
  rcases g with g | g
  · exact Or.inl (Nat.lt_of_lt_of_le g h)
  · exact Or.inr g
theorem zM.k {a b : zH} (h : zM a b) {v : qV} (g : zk a v) : zk b v := by
  match v, g with
  | .inl _, g => exact g
  | .inr (.inl _), g => exact g
  | .inr (.inr (some i)), g => exact h.lv g
  | .inr (.inr none), _ => exact trivial
theorem zM.p {a b : zH} (h : zM a b) : zp b ≤ zp a := by
  unfold zp
  have h : a.1 ≤ b.1 := h
  omega
theorem zsum_mono (l : List (Nat × Nat)) : ∀ n m, n ≤ m → ((l.drop m).map (fun q => q.2)).sum ≤ ((l.drop n).map (fun q => q.2)).sum := by
  induction l with
  | nil => intro n m _; simp
  | cons a l ih =>
    intro n m h
    cases n with
    | zero =>
      cases m with
      | zero => exact Nat.le_refl _
      | succ m =>
        have := ih 0 m (Nat.zero_le _)
        simp at this ⊢
        omega
    | succ n =>
      cases m with
      | zero => omega
      | succ m => exact ih n m (by omega)
theorem zM.s {a b : zH} (h : zM a b) : zs b ≤ zs a := zsum_mono zKL a.1 b.1 h
theorem z2_ag {ad ad' : Nat → Nat} {h : zH} (g : ∀ i, zlv h i → ad' i = ad i) {v : qV} (hv : zk h v) : q2 ad' v = q2 ad v := by
  match v, hv with
  | .inl _, _ => rfl
  | .inr (.inl _), _ => rfl
  | .inr (.inr (some i)), hv => show Value.ref (ad' i) = Value.ref (ad i); rw [g i hv]
  | .inr (.inr none), _ => rfl
theorem zids_nodup (s : zH) : (zids s).Nodup := List.nodup_range
theorem zids_mem {s : zH} {i : Nat} : i ∈ zids s ↔ i < s.1 := List.mem_range
theorem zst_k {h : zH} {lv : List (Nat × qV)} {i : Nat} {v : qV} (a : ∀ q ∈ lv, zk h q.2) (b : zk h v) : ∀ q ∈ qst lv i v, zk h q.2 := by
  intro q hq
  rcases List.mem_cons.mp hq with rfl | hq
  · exact b
  · exact a q (List.mem_filter.mp hq).1
theorem zsl_k {h : zH} {lv : List (Nat × qV)} {i : Nat} {v : qV} (a : ∀ q ∈ lv, zk h q.2) (b : zk h v) : ∀ q ∈ qsl lv i v, zk h q.2 := by
  intro q hq
  rcases List.mem_cons.mp hq with rfl | hq
  · exact b
  · exact a q (List.mem_filter.mp hq).1
theorem zargs_k {h : zH} : ∀ (vs : List qV) (i : Nat), (∀ v ∈ vs, zk h v) → ∀ q ∈ qargs i vs, zk h q.2
  | [], _, _ => fun q hq => by cases hq
  | v :: vs, i, g => by
    intro q hq
    rcases List.mem_cons.mp hq with rfl | hq
    · exact g v List.mem_cons_self
    · exact zargs_k vs _ (fun w hw => g w (List.mem_cons_of_mem _ hw)) q hq
theorem zent_cg {aC : Nat → ClassId} {ad : Nat → Nat} {h1 h2 : zH} {i : Nat} (e1 : h1.2.1 i = h2.2.1 i) (e2 : h1.2.2 i = h2.2.2 i) : zent aC ad h1 i = zent aC ad h2 i := by
  have e3 : zfl ad h1 i = zfl ad h2 i := by
    unfold zfl
    refine List.map_congr_left (fun k _ => ?_)
    unfold zfv
    rw [e1, e2]
  unfold zent
  rw [e1, e2, e3]
theorem zent_obj {aC : Nat → ClassId} {ad : Nat → Nat} {h : zH} {i ci N : Nat} (hi : zK i = (ci, N)) (hc : ci < 20) : zent aC ad h i = .inr (ci, zfl ad h i) := by
  unfold zent
  rw [hi]
  rw [if_pos hc]
theorem zfl_at {ad : Nat → Nat} {h : zH} {i ci N k : Nat} (hi : zK i = (ci, N)) (hk : k < N) : (zfl ad h i)[k]? = some (zfv ad h i k) := by
  unfold zfl
  rw [hi]
  simp [hk]
theorem zfl_len {ad : Nat → Nat} {h : zH} {i ci N : Nat} (hi : zK i = (ci, N)) : (zfl ad h i).length = N := by
  unfold zfl
  rw [hi]
  simp
theorem zent_int {aC : Nat → ClassId} {ad : Nat → Nat} {h : zH} {i ka n : Nat} (hi : zK i = (ka, n)) (h1 : 20 ≤ ka) (h2 : ka < 24) : zent aC ad h i = .inl (aC (ka - 20), n, .inl (fun j => Int32.ofInt (h.2.1 i j))) := by
  unfold zent
  rw [hi]
  simp only
  rw [if_neg (by omega), if_neg (by omega), if_pos h2]
theorem zent_ref {aC : Nat → ClassId} {ad : Nat → Nat} {h : zH} {i ka n : Nat} (hi : zK i = (ka, n)) (h1 : 24 < ka) : zent aC ad h i = .inl (aC (ka - 20), n, .inr (.inr (.inr (.inr (fun j => (h.2.2 i j).map ad))))) := by
  unfold zent
  rw [hi]
  simp only
  rw [if_neg (by omega), if_neg (by omega), if_neg (by omega)]
/-- one object's fields by one place -/
theorem zent_fput {aC : Nat → ClassId} {ad : Nat → Nat} {h h1 : zH} {i ci N k : Nat} {v : Value} (hi : zK i = (ci, N)) (hc : ci < 20) (hk : k < N) (hv : zfv ad h1 i k = v) (hn : ∀ n, ¬ n = k → zfv ad h1 i n = zfv ad h i n) (ho : ∀ j, ¬ j = i → h1.2.1 j = h.2.1 j ∧ h1.2.2 j = h.2.2 j) (j : Nat) : (if j = i then (.inr (ci, (zfl ad h i).set k v) : va_E) else zent aC ad h j) = zent aC ad h1 j := by
  by_cases hj : j = i
  · subst hj
    rw [if_pos rfl, zent_obj hi hc]
    congr 2
    apply List.ext_getElem?
    intro n
    by_cases hnN : n < N
    · rw [zfl_at hi hnN]
      by_cases hnk : k = n
      · subst hnk
        rw [List.getElem?_set_self (by rw [zfl_len hi]; exact hnN), hv]
      · rw [List.getElem?_set_ne hnk, zfl_at hi hnN, hn n (Ne.symm hnk)]
    · have l1 : ((zfl ad h j).set k v)[n]? = none := by
        rw [List.getElem?_eq_none_iff, List.length_set, zfl_len hi]; omega
      have l2 : (zfl ad h1 j)[n]? = none := by
        rw [List.getElem?_eq_none_iff, zfl_len hi]; omega
      rw [l1, l2]
  · rw [if_neg hj]
    exact zent_cg (ho j hj).1.symm (ho j hj).2.symm
theorem zRep_put {D : va_G} {aC : Nat → ClassId} {A : Nat → Prop} {ad : Nat → Nat} {h h1 : zH} {H1 : Heap} {i k : Nat} {e : va_E} (hs : (qWl (zids h) ad (zent aC ad h)).set k (ad i, e) = qWl (zids h) ad (fun j => if j = i then e else zent aC ad h j)) (h2 : h1.1 = h.1) (he : ∀ j, (if j = i then e else zent aC ad h j) = zent aC ad h1 j)
    (hP : va_P D vwCl ((qWl (zids h) ad (zent aC ad h)).set k (ad i, e)) H1) (hD : va_D A ((qWl (zids h) ad (zent aC ad h)).set k (ad i, e))) : zRep D aC A ad h1 H1 := by
  have e1 : zids h1 = zids h := by unfold zids; rw [h2]
  rw [hs, qWl_cg (fun j _ => he j), ← e1] at hP hD
  exact ⟨hP, hD⟩
theorem zHk_put {h : zH} {i k : Nat} {v : Int} (g : zHk h) (hi : i < h.1) (hv : q32 v) (hs : k < 39 ∨ v = 0) : zHk (zu h i k v) := by
  obtain ⟨g1, g2, g3, g4, g5, g6⟩ := g
  refine ⟨fun a b => ?_, g2, fun a ha => ⟨fun b => ?_, (g3 a ha).2⟩, g4, g5, fun a b hb => ?_⟩
  · show q32 (if a = i ∧ b = k then v else h.2.1 a b)
    split
    · exact hv
    · exact g1 a b
  · show (if a = i ∧ b = k then v else h.2.1 a b) = 0
    have ha : h.1 ≤ a := ha
    rw [if_neg (by omega)]
    exact (g3 a ha).1 b
  · show (if a = i ∧ b = k then v else h.2.1 a b) = 0
    split
    · rcases hs with hs | hs
      · omega
      · exact hs
    · exact g6 a b hb
theorem zHk_putr {h : zH} {i k j : Nat} (g : zHk h) (hi : i < h.1) (hj : j < h.1) (hk39 : k < 39) : zHk (zur h i k j) := by
  obtain ⟨g1, g2, g3, g4, g5, g6⟩ := g
  refine ⟨g1, fun a b c hc => ?_, fun a ha => ⟨(g3 a ha).1, fun b => ?_⟩, g4, fun a b hb => ?_, g6⟩
  · have hc : (if a = i ∧ b = k then some j else h.2.2 a b) = some c := hc
    split at hc
    · cases hc; exact hj
    · exact g2 a b c hc
  · show (if a = i ∧ b = k then some j else h.2.2 a b) = none
    have ha : h.1 ≤ a := ha
    rw [if_neg (by omega)]
    exact (g3 a ha).2 b
  · show (if a = i ∧ b = k then some j else h.2.2 a b) = none
    rw [if_neg (by omega)]
    exact g5 a b hb
