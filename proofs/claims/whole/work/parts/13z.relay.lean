/-! ===== relay: by which friends soonest ===== -/
def pc (u : Nat) : Nat := u % 2 + u / 2 % 2 + u / 4 % 2 + u / 8 % 2 + u / 16 % 2 + u / 32 % 2
theorem bit_tab : (List.range 64).all (fun u => (List.range 6).all (fun s => decide (qand (qshr (u : Int) (s : Int)) 1 = ((u / 2 ^ s % 2 : Nat) : Int)) && decide (qandl (qshrl (u : Int) (s : Int)) 1 = ((u / 2 ^ s % 2 : Nat) : Int)) && (decide (u / 2 ^ s % 2 = 1) || (decide (u / 2 ^ s % 2 = 0) && decide (qor (u : Int) (qshl 1 (s : Int)) = ((u + 2 ^ s : Nat) : Int)) && decide (u + 2 ^ s < 64) && decide (pc (u + 2 ^ s) = pc u + 1) && decide ((u + 2 ^ s) / 2 ^ s % 2 = 1) && decide (pc u < 6))))) = true := by decide +kernel
theorem bit_f {u s : Nat} (hu : u < 64) (hs : s < 6) : qand (qshr (u : Int) (s : Int)) 1 = ((u / 2 ^ s % 2 : Nat) : Int) ∧ qandl (qshrl (u : Int) (s : Int)) 1 = ((u / 2 ^ s % 2 : Nat) : Int) ∧ (u / 2 ^ s % 2 = 1 ∨ (u / 2 ^ s % 2 = 0 ∧ qor (u : Int) (qshl 1 (s : Int)) = ((u + 2 ^ s : Nat) : Int) ∧ u + 2 ^ s < 64 ∧ pc (u + 2 ^ s) = pc u + 1 ∧ (u + 2 ^ s) / 2 ^ s % 2 = 1 ∧ pc u < 6)) := by
  have h := List.all_eq_true.mp (List.all_eq_true.mp bit_tab u (List.mem_range.mpr hu)) s (List.mem_range.mpr hs)
  simp only [Bool.and_eq_true, Bool.or_eq_true, decide_eq_true_eq] at h
  obtain ⟨⟨h1, h2⟩, h3⟩ := h
  refine ⟨h1, h2, ?_⟩
  rcases h3 with h3 | ⟨⟨⟨⟨⟨z, a⟩, b⟩, c⟩, d⟩, e⟩
  · exact Or.inl h3
  · exact Or.inr ⟨z, a, b, c, d, e⟩
theorem m_isInB {u s : Nat} (hu : u < 64) (hs : s < 6) (h : qH) : DX10_isIn (u : Int) (s : Int) h = some (((u / 2 ^ s % 2 : Nat) : Int), h) := by
  unfold DX10_isIn
  rw [(bit_f hu hs).2.1]
  have : u / 2 ^ s % 2 = 0 ∨ u / 2 ^ s % 2 = 1 := by omega
  rcases this with e | e <;> rw [e] <;> rfl
section rl
variable {n : Int} {A : Nat → Int}
def BR (to : Int) (hc hm : qH) : Prop :=
  (hc.1 157 5 = 0 ∧ hm.1 212 28 = 1000000 ∧ hm.1 212 29 = 1000000) ∨
  ((1 ≤ hm.1 212 29 ∧ hm.1 212 29 ≤ 5) ∧ hc.1 157 5 = hm.1 212 29 ∧ hc.1 157 4 = hm.1 212 28 ∧ hm.1 212 28 < 100000 ∧ (∀ k : Nat, (k : Int) < hm.1 212 29 → hc.1 159 k = hm.1 221 k) ∧ hm.1 221 (hm.1 212 29).toNat = to)
def QS (n : Int) (A : Nat → Int) (to now : Int) (j : Nat) (hc hm : qH) : Prop := RR n A hc hm ∧ hc.1 157 2 = to ∧ hc.1 157 3 = now ∧ hm.1 213 349 = now ∧ (∀ k, k < j → hc.1 158 k = hm.1 220 k) ∧ BR to hc hm
theorem QS.kp {to now : Int} {j : Nat} {hc hc' hm hm' : qH} {P Q : Nat → Nat → Prop} (q : QS n A to now j hc hm) (R : RR n A hc' hm') (f : fr P hc hc') (g : fr Q hm hm') (p : ∀ i k, 157 ≤ i → i ≤ 159 → ¬ P i k) (pm : ∀ i k, (i = 213 ∨ i = 220 ∨ i = 221 ∨ (i = 212 ∧ (k = 28 ∨ k = 29))) → ¬ Q i k) : QS n A to now j hc' hm' := by
  obtain ⟨_, q2, q3, q4, q5, q6⟩ := q
  have c7 : hc'.1 157 = hc.1 157 := f.fn (fun k => p 157 k (by omega) (by omega))
  have c8 : hc'.1 158 = hc.1 158 := f.fn (fun k => p 158 k (by omega) (by omega))
  have c9 : hc'.1 159 = hc.1 159 := f.fn (fun k => p 159 k (by omega) (by omega))
  have m3 : hm'.1 213 = hm.1 213 := g.fn (fun k => pm 213 k (by omega))
  have m0 : hm'.1 220 = hm.1 220 := g.fn (fun k => pm 220 k (by omega))
  have m1 : hm'.1 221 = hm.1 221 := g.fn (fun k => pm 221 k (by omega))
  have m28 : hm'.1 212 28 = hm.1 212 28 := g.at 212 28 (pm 212 28 (by omega))
  have m29 : hm'.1 212 29 = hm.1 212 29 := g.at 212 29 (pm 212 29 (by omega))
  unfold QS BR
  rw [c7, c8, c9, m3, m0, m1, m28, m29]
  exact ⟨R, q2, q3, q4, q5, q6⟩
/-- what the reference leaves of the best way and of the row -/
def MK (j : Nat) (hm hm' : qH) : Prop := hm'.1 213 = hm.1 213 ∧ hm'.1 221 = hm.1 221 ∧ hm'.1 212 28 = hm.1 212 28 ∧ hm'.1 212 29 = hm.1 212 29 ∧ ∀ k, k ≤ j → hm'.1 220 k = hm.1 220 k
theorem MK.tr {j : Nat} {a b c : qH} (x : MK j a b) (y : MK j b c) : MK j a c := by
  obtain ⟨x1, x2, x3, x4, x5⟩ := x
  obtain ⟨y1, y2, y3, y4, y5⟩ := y
  exact ⟨y1.trans x1, y2.trans x2, y3.trans x3, y4.trans x4, fun k hk => (y5 k hk).trans (x5 k hk)⟩
/-- the reference's best throw, the class left alone -/
theorem RR.bestM {hc hm : qH} {f to t : Int} (R : RR n A hc hm) (hf : 0 ≤ f ∧ f < A 4) (ht : 0 ≤ to ∧ to < A 4) (hne : ¬ to = f) (t0 : 0 ≤ t) (t1 : t < 1000000000) : ∃ hm' B, DX10_bestFrom f to t hm = some (B, hm') ∧ RR n A hc hm' ∧ (B = 1000000 ∨ (1 ≤ B ∧ B ≤ 230)) := by
  obtain ⟨h1, h2, L, B, e1, e2, R2, s2⟩ := R.best hf ht hne t0 t1
  have f2 := F_DX10_bestFrom _ _ _ _ _ _ e2
  refine ⟨h2, B, e2, R.keep R.1 R.2.1 (fr.rf (P := fun _ _ => False)) (fun i k g => fun z => z) f2 (fun i k g => by omega), ?_⟩
  by_cases z : B = 1000000
  · exact Or.inl z
  · have := s2.dec.2 z
    exact Or.inr ⟨this.2.2.2.2.1, this.2.2.2.2.2⟩
def PR (n : Int) (A : Nat → Int) (to : Int) (j : Nat) : Prop := ∀ (fm u s : Nat) (spent : Int) (hc hm : qH), 5 < j + fm → u < 64 → pc u = j + 1 → (s : Int) < A 4 → u / 2 ^ s % 2 = 1 → 0 ≤ spent → spent ≤ 230 * (j : Int) → RR n A hc hm → hm.1 220 j = (s : Int) → hm.1 212 28 ≤ spent → ((s : Int) = to → hm.1 212 28 < spent) →
  ∃ hm', RX10_goesRelayg fm 0 to (j : Int) (u : Int) spent hm = some (0, hm') ∧ RR n A hc hm' ∧ MK j hm hm'
theorem pr_l {to : Int} {j u s fm S : Nat} {spent : Int} (hn : n ≤ 512) (hS : A 4 = (S : Int)) (hj : j ≤ 5) (hu : u < 64) (hpc : pc u = j + 1) (hs : (s : Int) < A 4) (hb : u / 2 ^ s % 2 = 1) (hs0 : 0 ≤ spent) (hs1 : spent ≤ 230 * (j : Int)) (hfm : 5 < j + 1 + fm) (rec : j + 1 ≤ 5 → PR n A to (j + 1)) : ∀ (m i Fm : Nat) (hc hm : qH), i + m = S → m < Fm → RR n A hc hm → hm.1 220 j = (s : Int) → hm.1 212 28 ≤ spent →
    ∃ hm', DX10_goesRelay_l81 (fun a b c e h => RX10_goesRelayg fm 0 a b c e h) Fm to (j : Int) (u : Int) spent (i : Int) hm = some (0, hm') ∧ RR n A hc hm' ∧ MK j hm hm' := by
  intro m
  induction m with
  | zero =>
    intro i Fm hc hm hi hF R hrow hbest
    obtain ⟨Fm, rfl⟩ : ∃ n, Fm = n + 1 := ⟨Fm - 1, by omega⟩
    rw [DX10_goesRelay_l81.eq_2, R.2.2.1.1 4 (by omega), if_pos (show A 4 ≤ (i : Int) by omega)]
    exact ⟨hm, rfl, R, rfl, rfl, rfl, rfl, fun _ _ => rfl⟩
  | succ m ih =>
    intro i Fm hc hm hi hF R hrow hbest
    obtain ⟨Fm, rfl⟩ : ∃ n, Fm = n + 1 := ⟨Fm - 1, by omega⟩
    have h4 := R.1.1.2.2.1
    have td := R.tid
    have hi6 : i < 6 := by omega
    obtain ⟨b1, b2, b3⟩ := bit_f hu hi6
    rw [DX10_goesRelay_l81.eq_2, R.2.2.1.1 4 (by omega), if_neg (show ¬ A 4 ≤ (i : Int) by omega), m_isInB hu hi6, qbd_some]
    rcases b3 with b3 | ⟨z0, b3, b4, b5, b6, b7⟩
    · rw [if_neg (show ¬ ((u / 2 ^ i % 2 : Nat) : Int) = 0 by rw [b3]; decide), qw_s (by omega)]
      exact ih (i + 1) Fm hc hm (by omega) (by omega) R hrow hbest
    · have hne : ¬ (i : Int) = (s : Int) := by
        intro e
        have e' : i = s := by omega
        rw [e'] at z0
        omega
      obtain ⟨h2, B, e2, R2, B2⟩ := R.bestM (f := (s : Int)) (to := (i : Int)) (t := hm.1 213 349 + spent) (by omega) (by omega) hne (by omega) (by omega)
      have f2 := F_DX10_bestFrom _ _ _ _ _ _ e2
      have mk2 : MK j hm h2 := ⟨f2.fn (fun k => by omega), f2.fn (fun k => by omega), f2.at _ _ (by omega), f2.at _ _ (by omega), fun k _ => f2.at _ _ (by omega)⟩
      rw [if_pos (show ((u / 2 ^ i % 2 : Nat) : Int) = 0 by rw [z0]; rfl), if_pos (show 0 ≤ (j : Int) ∧ (j : Int) < 6 by omega), Int.toNat_natCast, hrow, qw_e (x := hm.1 213 349 + spent) (by omega) (by omega), e2, qbd_some]
      rcases B2 with B2 | B2
      · rw [if_neg (show ¬ ¬ B = 1000000 from fun g => g B2), qw_s (by omega)]
        obtain ⟨h3, i1, i2, i3⟩ := ih (i + 1) Fm hc h2 (by omega) (by omega) R2 (by rw [mk2.2.2.2.2 j (by omega)]; exact hrow) (by rw [mk2.2.2.1]; exact hbest)
        exact ⟨h3, i1, i2, mk2.tr i3⟩
      · have hj1 : j + 1 ≤ 5 := by omega
        rw [if_pos (show ¬ B = 1000000 by omega), qw_s (n := j) (by omega), if_pos (show 0 ≤ ((j + 1 : Nat) : Int) ∧ ((j + 1 : Nat) : Int) < 6 by omega), Int.toNat_natCast, b3, qw_e (x := spent + B) (by omega) (by omega), qw_s (n := i) (by omega)]
        simp only [qlt]
        have f3 : fr (fun i k => i = 220 ∧ k = j + 1) h2 (qu h2 220 (j + 1) (i : Int)) := fr_q fr.rf ⟨rfl, rfl⟩
        have mk3 : MK j h2 (qu h2 220 (j + 1) (i : Int)) := ⟨f3.fn (fun k => by omega), f3.fn (fun k => by omega), f3.at _ _ (by omega), f3.at _ _ (by omega), fun k _ => f3.at _ _ (by omega)⟩
        have R3 : RR n A hc (qu h2 220 (j + 1) (i : Int)) := R2.keep R2.1 R2.2.1 (fr.rf (P := fun _ _ => False)) (fun i k g => fun z => z) f3 (fun i k g => by omega)
        obtain ⟨h4, p1, p2, p3⟩ := rec hj1 fm (u + 2 ^ i) i (spent + B) hc _ (by omega) b4 (by omega) (by omega) b6 (by omega) (by omega) R3 (by rw [qu_s, up_s]) (by rw [mk3.2.2.1, mk2.2.2.1]; omega) (fun _ => by rw [mk3.2.2.1, mk2.2.2.1]; omega)
        have mk4 : MK j (qu h2 220 (j + 1) (i : Int)) h4 := ⟨p3.1, p3.2.1, p3.2.2.1, p3.2.2.2.1, fun k hk => p3.2.2.2.2 k (by omega)⟩
        have mk5 := (mk2.tr mk3).tr mk4
        rw [p1, qbd_some]
        obtain ⟨h5, i1, i2, i3⟩ := ih (i + 1) Fm hc h4 (by omega) (by omega) p2 (by rw [mk5.2.2.2.2 j (by omega)]; exact hrow) (by rw [mk5.2.2.1]; exact hbest)
        exact ⟨h5, i1, i2, mk5.tr i3⟩
theorem pr_all {to : Int} (hn : n ≤ 512) : ∀ (D j : Nat), j + D = 5 → PR n A to j := by
  intro D
  induction D with
  | zero =>
    intro j hj fm u s spent hc hm hfm hu hpc hs hb hs0 hs1 R hrow hbest hto
    obtain ⟨fm, rfl⟩ : ∃ n, fm = n + 1 := ⟨fm - 1, by omega⟩
    have h4 := R.1.1.2.2.1
    obtain ⟨S, hS⟩ := Int.eq_ofNat_of_zero_le (show 0 ≤ A 4 by omega)
    rw [RX10_goesRelayg.eq_2]
    unfold DX10_goesRelay
    rw [if_pos (show 0 ≤ (j : Int) ∧ (j : Int) < 6 by omega), Int.toNat_natCast, hrow]
    by_cases e : (s : Int) = to
    · rw [if_neg (show ¬ ¬ (s : Int) = to from fun g => g e), if_pos (hto e)]
      exact ⟨hm, rfl, R, rfl, rfl, rfl, rfl, fun _ _ => rfl⟩
    · rw [if_pos e]
      have K := pr_l (to := to) (fm := fm) hn hS (by omega) hu hpc hs hb hs0 hs1 (by omega) (fun g => by omega) S 0 LF hc hm (by omega) (by unfold LF; omega) R hrow hbest
      rw [z0] at K
      exact K
  | succ D ih =>
    intro j hj fm u s spent hc hm hfm hu hpc hs hb hs0 hs1 R hrow hbest hto
    obtain ⟨fm, rfl⟩ : ∃ n, fm = n + 1 := ⟨fm - 1, by omega⟩
    have h4 := R.1.1.2.2.1
    obtain ⟨S, hS⟩ := Int.eq_ofNat_of_zero_le (show 0 ≤ A 4 by omega)
    rw [RX10_goesRelayg.eq_2]
    unfold DX10_goesRelay
    rw [if_pos (show 0 ≤ (j : Int) ∧ (j : Int) < 6 by omega), Int.toNat_natCast, hrow]
    by_cases e : (s : Int) = to
    · rw [if_neg (show ¬ ¬ (s : Int) = to from fun g => g e), if_pos (hto e)]
      exact ⟨hm, rfl, R, rfl, rfl, rfl, rfl, fun _ _ => rfl⟩
    · rw [if_pos e]
      have K := pr_l (to := to) (fm := fm) hn hS (by omega) hu hpc hs hb hs0 hs1 (by omega) (fun _ => ih (j + 1) (by omega)) S 0 LF hc hm (by omega) (by unfold LF; omega) R hrow hbest
      rw [z0] at K
      exact K
end rl
