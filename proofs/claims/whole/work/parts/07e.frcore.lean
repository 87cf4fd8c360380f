/-! ===== frames: which objects a computation may change ===== -/
def fr (P : Nat → Nat → Prop) (h h' : qH) : Prop := (∀ i k, ¬ P i k → h'.1 i k = h.1 i k) ∧ (¬ P 225 0 → h'.2.1 = h.2.1) ∧ (¬ P 226 0 → h'.2.2.1 = h.2.2.1) ∧ (¬ P 900 0 → h'.2.2.2 = h.2.2.2)
def Fp (P : Nat → Nat → Prop) (h : qH) (x : Option (Int × qH)) : Prop := ∀ r h', x = some (r, h') → fr P h h'
theorem fr.rf {P : Nat → Nat → Prop} {h : qH} : fr P h h := ⟨fun _ _ _ => rfl, fun _ => rfl, fun _ => rfl, fun _ => rfl⟩
theorem fr.tr {P : Nat → Nat → Prop} {a b c : qH} (h : fr P a b) (g : fr P b c) : fr P a c :=
  ⟨fun i k q => (g.1 i k q).trans (h.1 i k q), fun q => (g.2.1 q).trans (h.2.1 q), fun q => (g.2.2.1 q).trans (h.2.2.1 q), fun q => (g.2.2.2 q).trans (h.2.2.2 q)⟩
theorem fr.mono {P Q : Nat → Nat → Prop} {a b : qH} (h : fr P a b) (s : ∀ i k, P i k → Q i k) : fr Q a b :=
  ⟨fun i k q => h.1 i k (fun e => q (s i k e)), fun q => h.2.1 (fun e => q (s _ _ e)), fun q => h.2.2.1 (fun e => q (s _ _ e)), fun q => h.2.2.2 (fun e => q (s _ _ e))⟩
theorem fr.at {P : Nat → Nat → Prop} {a b : qH} (h : fr P a b) (i k : Nat) (q : ¬ P i k) : b.1 i k = a.1 i k := h.1 i k q
theorem Fp.mono {P Q : Nat → Nat → Prop} {h : qH} {x : Option (Int × qH)} (g : Fp P h x) (s : ∀ i k, P i k → Q i k) : Fp Q h x := fun r h' e => (g r h' e).mono s
section frs
variable {P : Nat → Nat → Prop} {h : qH} {r : Int}
theorem Fp_none : Fp P h none := fun _ _ e => by cases e
theorem Fp_some : Fp P h (some (r, h)) := fun _ _ e => by injection e with e; injection e with _ e; rw [← e]; exact fr.rf
theorem Fp_ite {c : Prop} {dc : Decidable c} {x y : Option (Int × qH)} (a : c → Fp P h x) (b : ¬ c → Fp P h y) : Fp P h (@ite _ c dc x y) := by
  by_cases g : c
  · rw [if_pos g]; exact a g
  · rw [if_neg g]; exact b g
theorem Fp_let {α : Type} {e : α} {f : α → Option (Int × qH)} (a : ∀ v, Fp P h (f v)) : Fp P h (qlt e f) := a e
theorem Fp_up {h1 : qH} {f : qH → Option (Int × qH)} (g : fr P h h1) (a : ∀ v, Fp P v (f v)) : Fp P h (qlt h1 f) := fun r h' e => g.tr (a h1 r h' e)
theorem Fp_qu {i k : Nat} {v : Int} {f : qH → Option (Int × qH)} (p : P i k) (a : ∀ v, Fp P v (f v)) : Fp P h (qlt (qu h i k v) f) := by
  refine Fp_up ⟨fun i' k' q => ?_, fun _ => rfl, fun _ => rfl, fun _ => rfl⟩ a
  show (if i' = i ∧ k' = k then v else h.1 i' k') = h.1 i' k'
  exact if_neg (fun e => q (by rw [e.1, e.2]; exact p))
theorem Fp_cp {i j n : Nat} {f : qH → Option (Int × qH)} (p : ∀ k, P j k) (a : ∀ v, Fp P v (f v)) : Fp P h (qlt (qcp h i j n) f) := by
  refine Fp_up ⟨fun i' k' q => ?_, fun _ => rfl, fun _ => rfl, fun _ => rfl⟩ a
  show (if i' = j ∧ k' < n then h.1 i k' else h.1 i' k') = h.1 i' k'
  exact if_neg (fun e => q (by rw [e.1]; exact p k'))
theorem Fp_alw {f : qH → Option (Int × qH)} (p : ∀ k, P 225 k) (a : ∀ v, Fp P v (f v)) : Fp P h (qlt (qalw h) f) := by
  refine Fp_up ⟨fun i' k' q => ?_, fun q => absurd (p 0) q, fun _ => rfl, fun _ => rfl⟩ a
  show (if i' = 225 then 0 else h.1 i' k') = h.1 i' k'
  exact if_neg (fun e => q (by rw [e]; exact p k'))
theorem Fp_alo {f : qH → Option (Int × qH)} (p : ∀ k, P 226 k) (a : ∀ v, Fp P v (f v)) : Fp P h (qlt (qalo h) f) := by
  refine Fp_up ⟨fun i' k' q => ?_, fun _ => rfl, fun q => absurd (p 0) q, fun _ => rfl⟩ a
  show (if i' = 226 then 0 else h.1 i' k') = h.1 i' k'
  exact if_neg (fun e => q (by rw [e]; exact p k'))
theorem Fp_sT {f : qH → Option (Int × qH)} (p : P 900 0) (a : ∀ v, Fp P v (f v)) : Fp P h (qlt (qsetT h) f) :=
  Fp_up ⟨fun _ _ _ => rfl, fun _ => rfl, fun _ => rfl, fun q => absurd p q⟩ a
theorem Fp_sC {f : qH → Option (Int × qH)} (p : P 900 0) (a : ∀ v, Fp P v (f v)) : Fp P h (qlt (qsetC h) f) :=
  Fp_up ⟨fun _ _ _ => rfl, fun _ => rfl, fun _ => rfl, fun q => absurd p q⟩ a
theorem Fp_bdx {x : Option (Int × qH)} {f : Int → qH → Option (Int × qH)} (g : Fp P h x) (a : ∀ r v, x = some (r, v) → Fp P v (f r v)) : Fp P h (qbd x f) := by
  intro r h' e
  cases hx : x with
  | none => rw [hx] at e; cases e
  | some q =>
    obtain ⟨r1, h1⟩ := q
    rw [hx] at e
    exact (g r1 h1 hx).tr (a r1 h1 hx r h' e)
theorem Fp_bd {x : Option (Int × qH)} {f : Int → qH → Option (Int × qH)} (g : Fp P h x) (a : ∀ r v, Fp P v (f r v)) : Fp P h (qbd x f) := Fp_bdx g (fun r v _ => a r v)
theorem Ft_J0_length_8abf5 (s0 : Nat) (h : qH) : Fp P h (DJ0_length_8abf5 s0 h) := Fp_some
theorem Ft_J0_charAt_5068e (s0 : Nat) (a1 : Int) (h : qH) : Fp P h (DJ0_charAt_5068e s0 a1 h) := Fp_ite (fun _ => Fp_some) (fun _ => Fp_none)
theorem Ft_J0_indexOf_0f7a4 (s0 : Nat) (a1 : Int) (h : qH) : Fp P h (DJ0_indexOf_0f7a4 s0 a1 h) := Fp_some
end frs
