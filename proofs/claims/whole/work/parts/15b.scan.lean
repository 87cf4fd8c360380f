/-! ===== the next token: class and reference ===== -/
def TX (hc hm : qH) : Prop := hc.2.2.2 = (true, true) ∧ (∀ k, k < 900 → (-128 ≤ hc.1 1 k ∧ hc.1 1 k < 128) ∧ hm.1 215 k = hc.1 1 k % 256) ∧ hc.1 2 4 = hm.1 212 8 ∧ (0 ≤ hm.1 212 8 ∧ hm.1 212 8 ≤ 900)
def KT (p q : Nat) (hc hm : qH) : Prop :=
  (hm.1 212 9 = 32 ∧ hc.1 2 6 = 0) ∨ (hm.1 212 9 = 33 ∧ hc.1 2 6 = -1 ∧ p < q) ∨ (hm.1 212 9 = 31 ∧ hc.1 2 6 = 2 ∧ p < q ∧ hc.1 2 9 = hm.1 212 10 ∧ 0 ≤ hm.1 212 10 ∧ hm.1 212 10 ≤ 999) ∨
  ((40 ≤ hm.1 212 9 ∧ hm.1 212 9 ≤ 51) ∧ p < q ∧ hc.1 2 6 = qch 0 (hm.1 212 9 - 40).toNat) ∨
  (hc.1 2 6 = 1 ∧ p < q ∧ ((∃ j : Nat, j < 28 ∧ hm.1 212 9 = (j : Int) ∧ wm (hm.1 215) p q (qsT (kwS j))) ∨ (hm.1 212 9 = 30 ∧ ∀ j, j < 28 → ¬ wm (hm.1 215) p q (qsT (kwS j)))))
def TK (hc hm : qH) : Prop := ∃ p q : Nat, hm.1 212 6 = (p : Int) ∧ hc.1 2 7 = (p : Int) ∧ hm.1 212 7 = (q : Int) ∧ hc.1 2 8 = (q : Int) ∧ p ≤ q ∧ (q : Int) ≤ hm.1 212 8 ∧ KT p q hc hm
/-- the texts and the flags stay -/
theorem TX.kp {hc hc' hm hm' : qH} {P Q : Nat → Nat → Prop} (t : TX hc hm) (f : fr P hc hc') (g : fr Q hm hm') (p : ∀ i k, (i = 1 ∨ i = 900 ∨ (i = 2 ∧ k = 4)) → ¬ P i k) (q : ∀ i k, (i = 215 ∨ (i = 212 ∧ k = 8)) → ¬ Q i k) : TX hc' hm' := by
  obtain ⟨t1, t2, t3, t4⟩ := t
  have c1 : hc'.1 1 = hc.1 1 := f.fn (fun k => p 1 k (by omega))
  have c3 : hc'.1 2 4 = hc.1 2 4 := f.at 2 4 (p 2 4 (by omega))
  have m5 : hm'.1 215 = hm.1 215 := g.fn (fun k => q 215 k (by omega))
  have m8 : hm'.1 212 8 = hm.1 212 8 := g.at 212 8 (q 212 8 (by omega))
  unfold TX
  rw [f.2.2.2 (p 900 0 (by omega)), c1, c3, m5, m8]
  exact ⟨t1, t2, t3, t4⟩
section sc
variable {hc hm : qH}
theorem m_see {h : qH} {p : Nat} (hp : (p : Int) < h.1 212 8) (h9 : h.1 212 8 ≤ 900) : DX10_see (p : Int) h = some (h.1 215 p, h) := by
  unfold DX10_see
  rw [if_neg (by omega), if_pos (by omega), Int.toNat_natCast]
theorem m_see0 {h : qH} {p : Int} (hp : h.1 212 8 ≤ p) : DX10_see p h = some (-1, h) := by
  unfold DX10_see
  rw [if_pos hp]
theorem m_small (c : Int) (h : qH) : DX10_isSmall c h = some (if 97 ≤ c ∧ c ≤ 122 then 1 else 0, h) := by
  unfold DX10_isSmall
  (repeat' split) <;> first | rfl | omega
theorem m_digit (c : Int) (h : qH) : DX10_isDigit c h = some (if 48 ≤ c ∧ c ≤ 57 then 1 else 0, h) := by
  unfold DX10_isDigit
  (repeat' split) <;> first | rfl | omega
/-- the reference behind the blanks -/
def nx_b (h41 : qH) : Option (Int × qH) := (qlt (qu h41 212 7 (h41.1 212 6)) fun h43 => (if h43.1 212 6 < h43.1 212 8 then (qbd (DX10_see (h43.1 212 6) h43) fun r44 h45 => (qbd (DX10_isSmall r44 h45) fun r47 h48 => (if r47 = 0 then (qbd (DX10_see (h48.1 212 6) h48) fun r50 h51 => (qbd (DX10_isDigit r50 h51) fun r53 h54 => (if r53 = 0 then (qlt (qu h54 212 7 (qw (h54.1 212 7 + 1))) fun h56 => (qlt (qu h56 212 9 33) fun h57 => (DX10_next_l254 LF 0 h57))) else (qlt (qu h54 212 10 0) fun h58 => (DX10_next_l146 LF h58))))) else (DX10_next_l89 LF h48)))) else (qlt (qu h43 212 9 32) fun h59 => some (0, h59))))
theorem ws_l {S : Nat} : ∀ (m p Fc Fm : Nat) (hc hm : qH), p + m = S → m < Fc → m < Fm → TX hc hm → hm.1 212 8 = (S : Int) → hc.1 2 7 = (p : Int) → hm.1 212 6 = (p : Int) →
    ∃ (p' : Nat) (hc' hm' : qH), p ≤ p' ∧ p' ≤ S ∧ DX4_advance_l8 Fc hc = DX4_advance_b60 hc' ∧ DX10_next_l8 Fm hm = nx_b hm' ∧ hc'.1 2 7 = (p' : Int) ∧ hm'.1 212 6 = (p' : Int) ∧ fr (fun i k => i = 2 ∧ k = 7) hc hc' ∧ fr (fun i k => i = 212 ∧ k = 6) hm hm' := by
  intro m
  induction m with
  | zero =>
    intro p Fc Fm hc hm hp hFc hFm T hS c7 m6
    obtain ⟨Fc, rfl⟩ : ∃ n, Fc = n + 1 := ⟨Fc - 1, by omega⟩
    obtain ⟨Fm, rfl⟩ : ∃ n, Fm = n + 1 := ⟨Fm - 1, by omega⟩
    have t3 := T.2.2.1
    refine ⟨p, hc, hm, by omega, by omega, ?_, ?_, c7, m6, fr.rf, fr.rf⟩
    · rw [DX4_advance_l8.eq_2, if_pos (by omega)]
    · rw [DX10_next_l8.eq_2, m_see0 (by omega), qbd_some, if_neg (by decide), m_see0 (by omega), qbd_some, if_pos (by decide)]
      rfl
  | succ m ih =>
    intro p Fc Fm hc hm hp hFc hFm T hS c7 m6
    obtain ⟨Fc, rfl⟩ : ∃ n, Fc = n + 1 := ⟨Fc - 1, by omega⟩
    obtain ⟨Fm, rfl⟩ : ∃ n, Fm = n + 1 := ⟨Fm - 1, by omega⟩
    obtain ⟨t1, t2, t3, t4⟩ := T
    obtain ⟨u1, u2⟩ := t2 p (by omega)
    have tf : hc.2.2.2.1 = true := by rw [t1]
    have sp : (hc.1 1 p = 10 ∨ hc.1 1 p = 32) → ∃ (p' : Nat) (hc' hm' : qH), p ≤ p' ∧ p' ≤ S ∧ DX4_advance_l8 Fc (qu hc 2 7 ((p + 1 : Nat) : Int)) = DX4_advance_b60 hc' ∧ DX10_next_l8 Fm (qu hm 212 6 ((p + 1 : Nat) : Int)) = nx_b hm' ∧ hc'.1 2 7 = (p' : Int) ∧ hm'.1 212 6 = (p' : Int) ∧ fr (fun i k => i = 2 ∧ k = 7) hc hc' ∧ fr (fun i k => i = 212 ∧ k = 6) hm hm' := by
      intro _
      have f1 : fr (fun i k => i = 2 ∧ k = 7) hc (qu hc 2 7 ((p + 1 : Nat) : Int)) := fr_q fr.rf ⟨rfl, rfl⟩
      have f2 : fr (fun i k => i = 212 ∧ k = 6) hm (qu hm 212 6 ((p + 1 : Nat) : Int)) := fr_q fr.rf ⟨rfl, rfl⟩
      obtain ⟨p', h1, h2, a1, a2, a3, a4, a5, a6, a7, a8⟩ := ih (p + 1) Fc Fm (qu hc 2 7 ((p + 1 : Nat) : Int)) (qu hm 212 6 ((p + 1 : Nat) : Int)) (by omega) (by omega) (by omega) (TX.kp ⟨t1, t2, t3, t4⟩ f1 f2 (fun i k g => by omega) (fun i k g => by omega)) (by rw [f2.at 212 8 (by omega)]; exact hS) (by rw [qu_s, up_s]) (by rw [qu_s, up_s])
      exact ⟨p', h1, h2, by omega, a2, a3, a4, a5, a6, f1.tr a7, f2.tr a8⟩
    rw [DX4_advance_l8.eq_2, DX10_next_l8.eq_2, if_neg (show ¬ hc.1 2 4 ≤ hc.1 2 7 by omega), if_pos tf, if_pos (show 0 ≤ hc.1 2 7 ∧ hc.1 2 7 < 900 by omega), c7, Int.toNat_natCast, m6, m_see (by omega) (by omega), qbd_some, u2]
    by_cases e1 : hc.1 1 p = 10
    · rw [if_pos e1, if_pos (show hc.1 1 p % 256 = 10 by omega)]
      simp only [qlt]
      rw [m6, qw_s (by omega)]
      exact sp (Or.inl e1)
    · rw [if_neg e1, if_pos tf, if_pos (show 0 ≤ (p : Int) ∧ (p : Int) < 900 by omega), if_neg (show ¬ hc.1 1 p % 256 = 10 by omega), m6, m_see (by omega) (by omega), qbd_some, u2]
      by_cases e2 : hc.1 1 p = 32
      · rw [if_neg (show ¬ ¬ hc.1 1 p = 32 from fun g => g e2), if_neg (show ¬ ¬ hc.1 1 p % 256 = 32 by omega)]
        simp only [qlt]
        rw [m6, qw_s (by omega)]
        exact sp (Or.inr e2)
      · rw [if_pos e2, if_pos (show ¬ hc.1 1 p % 256 = 32 by omega)]
        exact ⟨p, hc, hm, by omega, by omega, rfl, rfl, c7, m6, fr.rf, fr.rf⟩
/-- a word to its end -/
theorem wd_l {S p : Nat} : ∀ (m q Fc Fm : Nat) (hc hm : qH), q + m = S → m < Fc → m < Fm → TX hc hm → hm.1 212 8 = (S : Int) → hc.1 2 8 = (q : Int) → hm.1 212 7 = (q : Int) → hm.1 212 6 = (p : Int) → p ≤ q → 
    ∃ (q' : Nat) (hc' hm' : qH) (r : Int), q ≤ q' ∧ ((q < S ∧ 97 ≤ hc.1 1 q ∧ hc.1 1 q ≤ 122) → q < q') ∧ q' ≤ S ∧ DX4_advance_l121 Fc hc = some (0, hc') ∧ DX10_next_l89 Fm hm = some (0, hm') ∧ hc'.1 2 8 = (q' : Int) ∧ hm'.1 212 7 = (q' : Int) ∧ hm'.1 212 9 = r ∧ fr (fun i k => i = 2 ∧ k = 8) hc hc' ∧ fr (fun i k => i = 212 ∧ (k = 7 ∨ k = 9)) hm hm' ∧ ((∃ j : Nat, j < 28 ∧ r = (j : Int) ∧ wm (hm.1 215) p q' (qsT (kwS j))) ∨ (r = 30 ∧ ∀ j, j < 28 → ¬ wm (hm.1 215) p q' (qsT (kwS j)))) := by
  have fin : ∀ (q : Nat) (hc hm : qH), hm.1 212 6 = (p : Int) → hm.1 212 7 = (q : Int) → p ≤ q → q ≤ S → S ≤ 900 → hc.1 2 8 = (q : Int) → ∃ (q' : Nat) (hc' hm' : qH) (r : Int), q ≤ q' ∧ q' ≤ S ∧ (some (0, hc) : Option (Int × qH)) = some (0, hc') ∧ (qbd (DX10_keyAt hm) fun r31 h32 => (qlt (qu h32 212 9 r31) fun h34 => some (0, h34))) = some (0, hm') ∧ hc'.1 2 8 = (q' : Int) ∧ hm'.1 212 7 = (q' : Int) ∧ hm'.1 212 9 = r ∧ fr (fun i k => i = 2 ∧ k = 8) hc hc' ∧ fr (fun i k => i = 212 ∧ (k = 7 ∨ k = 9)) hm hm' ∧ ((∃ j : Nat, j < 28 ∧ r = (j : Int) ∧ wm (hm.1 215) p q' (qsT (kwS j))) ∨ (r = 30 ∧ ∀ j, j < 28 → ¬ wm (hm.1 215) p q' (qsT (kwS j)))) := by
    intro q hc hm m6 m7 hpq hqS hS9 c8
    obtain ⟨r, e1, e2⟩ := m_keyAt m6 m7 hpq (by omega)
    rw [e1, qbd_some]
    exact ⟨q, hc, qu hm 212 9 r, r, by omega, hqS, rfl, rfl, c8, m7, rfl, fr.rf, fr_q fr.rf (by omega), e2⟩
  intro m
  induction m with
  | zero =>
    intro q Fc Fm hc hm hp hFc hFm T hS c8 m7 m6 hpq
    obtain ⟨Fc, rfl⟩ : ∃ n, Fc = n + 1 := ⟨Fc - 1, by omega⟩
    obtain ⟨Fm, rfl⟩ : ∃ n, Fm = n + 1 := ⟨Fm - 1, by omega⟩
    have t3 := T.2.2.1
    have t4 := T.2.2.2
    rw [DX4_advance_l121.eq_2, DX10_next_l89.eq_2, if_pos (show hc.1 2 4 ≤ hc.1 2 8 by omega), m_see0 (by omega), qbd_some, m_small, qbd_some, if_neg (show ¬ (97 ≤ (-1 : Int) ∧ (-1 : Int) ≤ 122) by decide), if_pos rfl]
    obtain ⟨q', x1, x2, r, x3, x4⟩ := fin q hc hm m6 m7 hpq (by omega) (by omega) c8
    exact ⟨q', x1, x2, r, x3, fun g => by omega, x4⟩
  | succ m ih =>
    intro q Fc Fm hc hm hp hFc hFm T hS c8 m7 m6 hpq
    obtain ⟨Fc, rfl⟩ : ∃ n, Fc = n + 1 := ⟨Fc - 1, by omega⟩
    obtain ⟨Fm, rfl⟩ : ∃ n, Fm = n + 1 := ⟨Fm - 1, by omega⟩
    have T' := T
    obtain ⟨t1, t2, t3, t4⟩ := T
    obtain ⟨u1, u2⟩ := t2 q (by omega)
    have tf : hc.2.2.2.1 = true := by rw [t1]
    rw [DX4_advance_l121.eq_2, DX10_next_l89.eq_2, if_neg (show ¬ hc.1 2 4 ≤ hc.1 2 8 by omega), if_pos tf, if_pos (show 0 ≤ hc.1 2 8 ∧ hc.1 2 8 < 900 by omega), c8, Int.toNat_natCast, m7, m_see (by omega) (by omega), qbd_some, m_small, qbd_some, u2]
    by_cases e : 97 ≤ hc.1 1 q ∧ hc.1 1 q ≤ 122
    · rw [if_neg (show ¬ hc.1 1 q < 97 by omega), if_pos tf, if_pos (show 0 ≤ (q : Int) ∧ (q : Int) < 900 by omega), if_neg (show ¬ 122 < hc.1 1 q by omega), if_pos (show 97 ≤ hc.1 1 q % 256 ∧ hc.1 1 q % 256 ≤ 122 by omega), if_neg (show ¬ (1 : Int) = 0 by decide)]
      simp only [qlt]
      rw [m7, qw_s (by omega)]
      have f1 : fr (fun i k => i = 2 ∧ k = 8) hc (qu hc 2 8 ((q + 1 : Nat) : Int)) := fr_q fr.rf ⟨rfl, rfl⟩
      have f2 : fr (fun i k => i = 212 ∧ (k = 7 ∨ k = 9)) hm (qu hm 212 7 ((q + 1 : Nat) : Int)) := fr_q fr.rf (by omega)
      have m15 : (qu hm 212 7 ((q + 1 : Nat) : Int)).1 215 = hm.1 215 := qu_ne (by decide)
      obtain ⟨q', h1, h2, r, a1, _, a2, a3, a4, a5, a6, a7, a8, a9, a10⟩ := ih (q + 1) Fc Fm (qu hc 2 8 ((q + 1 : Nat) : Int)) (qu hm 212 7 ((q + 1 : Nat) : Int)) (by omega) (by omega) (by omega) (T'.kp f1 f2 (fun i k g => by omega) (fun i k g => by omega)) (by rw [f2.at 212 8 (by omega)]; exact hS) (by rw [qu_s, up_s]) (by rw [qu_s, up_s]) (by rw [f2.at 212 6 (by omega)]; exact m6) (by omega)
      rw [m15] at a10
      exact ⟨q', h1, h2, r, by omega, fun _ => by omega, a2, a3, a4, a5, a6, a7, f1.tr a8, f2.tr a9, a10⟩
    · rw [if_neg (show ¬ (97 ≤ hc.1 1 q % 256 ∧ hc.1 1 q % 256 ≤ 122) by omega), if_pos rfl]
      have ec : (if hc.1 1 q < 97 then some (0, hc) else if hc.2.2.2.1 = true then (if 0 ≤ (q : Int) ∧ (q : Int) < 900 then (if 122 < hc.1 1 q then some (0, hc) else (qlt (qu hc 2 8 (qw ((q : Int) + 1))) fun h23 => DX4_advance_l121 Fc h23)) else none) else none) = some (0, hc) := by
        by_cases e1 : hc.1 1 q < 97
        · rw [if_pos e1]
        · rw [if_neg e1, if_pos tf, if_pos (show 0 ≤ (q : Int) ∧ (q : Int) < 900 by omega), if_pos (show 122 < hc.1 1 q by omega)]
      rw [ec]
      obtain ⟨q', x1, x2, r, x3, x4⟩ := fin q hc hm m6 m7 hpq (by omega) (by omega) c8
      exact ⟨q', x1, x2, r, x3, fun g => absurd g.2 e, x4⟩
/-- a number to its end -/
def dv (i : Nat) (v : Int) : Prop := 0 ≤ v ∧ v ≤ 999 ∧ (i = 0 → v = 0) ∧ (i ≤ 1 → v ≤ 9) ∧ (i ≤ 2 → v ≤ 99)
theorem nm_l {S p : Nat} : ∀ (m q Fc Fm : Nat) (v : Int) (hc hm : qH), q + m = S → m < Fc → m < Fm → TX hc hm → hm.1 212 8 = (S : Int) → hc.1 2 8 = (q : Int) → hm.1 212 7 = (q : Int) → hc.1 2 7 = (p : Int) → hm.1 212 6 = (p : Int) → p ≤ q → hc.1 2 9 = v → hm.1 212 10 = v → dv (q - p) v → 
    ∃ (q' : Nat) (hc' hm' : qH) (v : Int), q ≤ q' ∧ ((q < S ∧ 48 ≤ hc.1 1 q ∧ hc.1 1 q ≤ 57) → q < q') ∧ q' ≤ S ∧ DX4_advance_l185 Fc hc = some (0, hc') ∧ DX10_next_l146 Fm hm = some (0, hm') ∧ hc'.1 2 8 = (q' : Int) ∧ hm'.1 212 7 = (q' : Int) ∧ fr (fun i k => i = 2 ∧ (k = 6 ∨ k = 8 ∨ k = 9)) hc hc' ∧ fr (fun i k => i = 212 ∧ (k = 7 ∨ k = 9 ∨ k = 10)) hm hm' ∧ hc'.1 2 9 = v ∧ hm'.1 212 10 = v ∧ (0 ≤ v ∧ v ≤ 999) ∧ ((hc'.1 2 6 = 2 ∧ hm'.1 212 9 = 31) ∨ (hc'.1 2 6 = -1 ∧ hm'.1 212 9 = 33)) := by
  have fin : ∀ (q : Nat) (v : Int) (hc hm : qH), hc.1 2 7 = (p : Int) → hm.1 212 6 = (p : Int) → hm.1 212 7 = (q : Int) → p ≤ q → q ≤ S → S ≤ 900 → hc.1 2 8 = (q : Int) → hc.1 2 9 = v → hm.1 212 10 = v → dv (q - p) v → ∃ (q' : Nat) (hc' hm' : qH) (v : Int), q ≤ q' ∧ q' ≤ S ∧ DX4_advance_b274 hc = some (0, hc') ∧ (if qw (hm.1 212 7 - hm.1 212 6) ≤ 3 then (qlt (qu hm 212 9 31) fun h17 => some (0, h17)) else (qlt (qu hm 212 9 33) fun h18 => some (0, h18))) = some ((0 : Int), hm') ∧ hc'.1 2 8 = (q' : Int) ∧ hm'.1 212 7 = (q' : Int) ∧ fr (fun i k => i = 2 ∧ (k = 6 ∨ k = 8 ∨ k = 9)) hc hc' ∧ fr (fun i k => i = 212 ∧ (k = 7 ∨ k = 9 ∨ k = 10)) hm hm' ∧ hc'.1 2 9 = v ∧ hm'.1 212 10 = v ∧ (0 ≤ v ∧ v ≤ 999) ∧ ((hc'.1 2 6 = 2 ∧ hm'.1 212 9 = 31) ∨ (hc'.1 2 6 = -1 ∧ hm'.1 212 9 = 33)) := by
    intro q v hc hm c7 m6 m7 hpq hqS hS9 c8 c9 m10 d
    unfold DX4_advance_b274
    rw [c7, c8, m6, m7, qw_e (x := (q : Int) - (p : Int)) (by omega) (by omega)]
    by_cases e : (q : Int) - (p : Int) ≤ 3
    · rw [if_pos e, if_pos e]
      exact ⟨q, qu hc 2 6 2, qu hm 212 9 31, v, by omega, hqS, rfl, rfl, c8, m7, fr_q fr.rf (by omega), fr_q fr.rf (by omega), c9, m10, ⟨d.1, d.2.1⟩, Or.inl ⟨rfl, rfl⟩⟩
    · rw [if_neg e, if_neg e]
      exact ⟨q, qu hc 2 6 (-1), qu hm 212 9 33, v, by omega, hqS, rfl, rfl, c8, m7, fr_q fr.rf (by omega), fr_q fr.rf (by omega), c9, m10, ⟨d.1, d.2.1⟩, Or.inr ⟨rfl, rfl⟩⟩
  intro m
  induction m with
  | zero =>
    intro q Fc Fm v hc hm hp hFc hFm T hS c8 m7 c7 m6 hpq c9 m10 d
    obtain ⟨Fc, rfl⟩ : ∃ n, Fc = n + 1 := ⟨Fc - 1, by omega⟩
    obtain ⟨Fm, rfl⟩ : ∃ n, Fm = n + 1 := ⟨Fm - 1, by omega⟩
    have t3 := T.2.2.1
    have t4 := T.2.2.2
    rw [DX4_advance_l185.eq_2, DX10_next_l146.eq_2, if_pos (show hc.1 2 4 ≤ hc.1 2 8 by omega), m_see0 (by omega), qbd_some, m_digit, qbd_some, if_neg (show ¬ (48 ≤ (-1 : Int) ∧ (-1 : Int) ≤ 57) by decide), if_pos rfl]
    obtain ⟨q', x1, x2, v', x3, x4⟩ := fin q v hc hm c7 m6 m7 hpq (by omega) (by omega) c8 c9 m10 d
    exact ⟨q', x1, x2, v', x3, fun g => by omega, x4⟩
  | succ m ih =>
    intro q Fc Fm v hc hm hp hFc hFm T hS c8 m7 c7 m6 hpq c9 m10 d
    obtain ⟨Fc, rfl⟩ : ∃ n, Fc = n + 1 := ⟨Fc - 1, by omega⟩
    obtain ⟨Fm, rfl⟩ : ∃ n, Fm = n + 1 := ⟨Fm - 1, by omega⟩
    have T' := T
    obtain ⟨t1, t2, t3, t4⟩ := T
    obtain ⟨u1, u2⟩ := t2 q (by omega)
    have tf : hc.2.2.2.1 = true := by rw [t1]
    rw [DX4_advance_l185.eq_2, DX10_next_l146.eq_2, if_neg (show ¬ hc.1 2 4 ≤ hc.1 2 8 by omega), if_pos tf, if_pos (show 0 ≤ hc.1 2 8 ∧ hc.1 2 8 < 900 by omega), m7, m_see (by omega) (by omega), qbd_some, m_digit, qbd_some, u2]
    by_cases e : 48 ≤ hc.1 1 q ∧ hc.1 1 q ≤ 57
    · rw [c8, Int.toNat_natCast, if_neg (show ¬ hc.1 1 q < 48 by omega), if_pos tf, if_pos (show 0 ≤ (q : Int) ∧ (q : Int) < 900 by omega), if_neg (show ¬ 57 < hc.1 1 q by omega), if_pos (show 48 ≤ hc.1 1 q % 256 ∧ hc.1 1 q % 256 ≤ 57 by omega), if_neg (show ¬ (1 : Int) = 0 by decide), c7, m6, m7, qw_e (x := (q : Int) - (p : Int)) (by omega) (by omega), m_see (by omega) (by omega), qbd_some, u2]
      by_cases e3 : 3 ≤ (q : Int) - (p : Int)
      · rw [if_pos e3, if_pos e3]
        simp only [qlt]
        rw [qw_s (by omega)]
        have f1 : fr (fun i k => i = 2 ∧ (k = 6 ∨ k = 8 ∨ k = 9)) hc (qu hc 2 8 ((q + 1 : Nat) : Int)) := fr_q fr.rf (by omega)
        have f2 : fr (fun i k => i = 212 ∧ (k = 7 ∨ k = 9 ∨ k = 10)) hm (qu hm 212 7 ((q + 1 : Nat) : Int)) := fr_q fr.rf (by omega)
        obtain ⟨q', h1, h2, v', a1, _, a2, a3, a4, a5, a6, a7, a8, a9⟩ := ih (q + 1) Fc Fm v (qu hc 2 8 ((q + 1 : Nat) : Int)) (qu hm 212 7 ((q + 1 : Nat) : Int)) (by omega) (by omega) (by omega) (T'.kp f1 f2 (fun i k g => by omega) (fun i k g => by omega)) (by rw [f2.at 212 8 (by omega)]; exact hS) (by rw [qu_s, up_s]) (by rw [qu_s, up_s]) (by rw [f1.at 2 7 (by omega)]; exact c7) (by rw [f2.at 212 6 (by omega)]; exact m6) (by omega) (by rw [qu_s, up_n _ _ (by decide)]; exact c9) (by rw [qu_s, up_n _ _ (by decide)]; exact m10) ⟨d.1, d.2.1, fun g => by omega, fun g => by omega, fun g => by omega⟩
        exact ⟨q', h1, h2, v', by omega, fun _ => by omega, a2, a3, a4, a5, a6, f1.tr a7, f2.tr a8, a9⟩
      · rw [if_neg e3, if_neg e3, if_pos tf, if_pos (show 0 ≤ (q : Int) ∧ (q : Int) < 900 by omega), c9, m10]
        simp only [qlt]
        obtain ⟨d0, d1, d2, d3, d4⟩ := d
        have vb : v ≤ 99 := d4 (by omega)
        rw [qw_e (x := v * 10) (by omega) (by omega), qw_e (x := v * 10 + hc.1 1 q) (by omega) (by omega), qw_e (x := v * 10 + hc.1 1 q - 48) (by omega) (by omega), qw_e (x := 10 * v) (by omega) (by omega), qw_e (x := 10 * v + hc.1 1 q % 256) (by omega) (by omega), qw_e (x := 10 * v + hc.1 1 q % 256 - 48) (by omega) (by omega), show 10 * v + hc.1 1 q % 256 - 48 = v * 10 + hc.1 1 q - 48 by omega]
        rw [qu_s, up_n _ _ (show ¬ 8 = 9 by decide), qu_s, up_n _ _ (show ¬ 7 = 10 by decide), c8, m7, qw_s (by omega)]
        have f1 : fr (fun i k => i = 2 ∧ (k = 6 ∨ k = 8 ∨ k = 9)) hc (qu (qu hc 2 9 (v * 10 + hc.1 1 q - 48)) 2 8 ((q + 1 : Nat) : Int)) := fr_q (fr_q fr.rf (by omega)) (by omega)
        have f2 : fr (fun i k => i = 212 ∧ (k = 7 ∨ k = 9 ∨ k = 10)) hm (qu (qu hm 212 10 (v * 10 + hc.1 1 q - 48)) 212 7 ((q + 1 : Nat) : Int)) := fr_q (fr_q fr.rf (by omega)) (by omega)
        obtain ⟨q', h1, h2, v', a1, _, a2, a3, a4, a5, a6, a7, a8, a9⟩ := ih (q + 1) Fc Fm (v * 10 + hc.1 1 q - 48) (qu (qu hc 2 9 (v * 10 + hc.1 1 q - 48)) 2 8 ((q + 1 : Nat) : Int)) (qu (qu hm 212 10 (v * 10 + hc.1 1 q - 48)) 212 7 ((q + 1 : Nat) : Int)) (by omega) (by omega) (by omega) (T'.kp f1 f2 (fun i k g => by omega) (fun i k g => by omega)) (by rw [f2.at 212 8 (by omega)]; exact hS) (by rw [qu_s, up_s]) (by rw [qu_s, up_s]) (by rw [f1.at 2 7 (by omega)]; exact c7) (by rw [f2.at 212 6 (by omega)]; exact m6) (by omega) (by rw [qu_s, up_n _ _ (by decide), qu_s, up_s]) (by rw [qu_s, up_n _ _ (by decide), qu_s, up_s]) ⟨by omega, by omega, fun g => by omega, fun g => by have := d2 (by omega); omega, fun g => by have := d3 (by omega); omega⟩
        exact ⟨q', h1, h2, v', by omega, fun _ => by omega, a2, a3, a4, a5, a6, f1.tr a7, f2.tr a8, a9⟩
    · rw [if_neg (show ¬ (48 ≤ hc.1 1 q % 256 ∧ hc.1 1 q % 256 ≤ 57) by omega), if_pos rfl, c8, Int.toNat_natCast]
      have fn := fin q v hc hm c7 m6 m7 hpq (by omega) (by omega) c8 c9 m10 d
      obtain ⟨q', x1, x2, v', x3, x4⟩ := fn
      refine ⟨q', x1, x2, v', x3, fun g => absurd g.2 e, ?_⟩
      by_cases e1 : hc.1 1 q < 48
      · rw [if_pos e1]
        exact x4
      · rw [if_neg e1, if_pos tf, if_pos (show 0 ≤ (q : Int) ∧ (q : Int) < 900 by omega), if_pos (show 57 < hc.1 1 q by omega)]
        exact x4
/-- a sign -/
def lk (c : Int) : Nat → Nat → Int → Int
  | 0, _, x => x
  | m + 1, j, x => lk c m (j + 1) (if c = qch 30 j then 40 + (j : Int) else x)
theorem sg_len : (qsT 30).length = 12 ∧ (qsT 0).length = 12 := by decide +kernel
theorem sg_tab : (List.range 256).all (fun c => (decide (qix (qc16 (c : Int)) (qsT 0) 0 < 0) && decide (lk (c : Int) 12 0 33 = 33)) || (!decide (qix (qc16 (c : Int)) (qsT 0) 0 < 0) && decide (40 ≤ lk (c : Int) 12 0 33) && decide (lk (c : Int) 12 0 33 ≤ 51) && decide (qch 0 (lk (c : Int) 12 0 33 - 40).toNat = (c : Int)))) = true := by decide +kernel
theorem sg_f {c : Int} (h0 : 0 ≤ c) (h1 : c < 256) : (qix (qc16 c) (qsT 0) 0 < 0 ∧ lk c 12 0 33 = 33) ∨ (¬ qix (qc16 c) (qsT 0) 0 < 0 ∧ (40 ≤ lk c 12 0 33 ∧ lk c 12 0 33 ≤ 51) ∧ qch 0 (lk c 12 0 33 - 40).toNat = c) := by
  obtain ⟨n, rfl⟩ := Int.eq_ofNat_of_zero_le h0
  have h := List.all_eq_true.mp sg_tab n (List.mem_range.mpr (by omega))
  simp only [Bool.and_eq_true, Bool.or_eq_true, Bool.not_eq_true', decide_eq_true_eq, decide_eq_false_iff_not] at h
  rcases h with h | h
  · exact Or.inl h
  · exact Or.inr ⟨h.1.1.1, ⟨h.1.1.2, h.1.2⟩, h.2⟩
theorem sg_l {p : Nat} {c : Int} : ∀ (m j F : Nat) (h : qH), j + m = 12 → m < F → h.1 212 6 = (p : Int) → (p : Int) < h.1 212 8 → h.1 212 8 ≤ 900 → h.1 215 p = c → ∃ h', DX10_next_l254 F (j : Int) h = some (0, h') ∧ fr (fun i k => i = 212 ∧ k = 9) h h' ∧ h'.1 212 9 = lk c m j (h.1 212 9) := by
  intro m
  have sl := sg_len.1
  induction m with
  | zero =>
    intro j F h hj hF h6 hS h9 hcc
    obtain ⟨F, rfl⟩ : ∃ n, F = n + 1 := ⟨F - 1, by omega⟩
    rw [DX10_next_l254.eq_2]
    unfold DJ0_length_8abf5
    rw [qbd_some, if_pos (by omega)]
    exact ⟨h, rfl, fr.rf, rfl⟩
  | succ m ih =>
    intro j F h hj hF h6 hS h9 hcc
    obtain ⟨F, rfl⟩ : ∃ n, F = n + 1 := ⟨F - 1, by omega⟩
    rw [DX10_next_l254.eq_2]
    unfold DJ0_length_8abf5
    rw [qbd_some, if_neg (by omega), h6, m_see hS h9, qbd_some, m_char (by omega), qbd_some, hcc, qw_s (n := j) (by omega), lk.eq_2]
    by_cases e : c = qch 30 j
    · rw [if_neg (show ¬ ¬ c = qch 30 j from fun g => g e), if_pos e]
      simp only [qlt]
      rw [qw_e (by omega) (by omega)]
      have f2 : fr (fun i k => i = 212 ∧ k = 9) h (qu h 212 9 (40 + (j : Int))) := fr_q fr.rf ⟨rfl, rfl⟩
      obtain ⟨h', a1, a2, a3⟩ := ih (j + 1) F (qu h 212 9 (40 + (j : Int))) (by omega) (by omega) (by rw [f2.at 212 6 (by omega)]; exact h6) (by rw [f2.at 212 8 (by omega)]; exact hS) (by rw [f2.at 212 8 (by omega)]; exact h9) (by rw [f2.at 215 p (by omega)]; exact hcc)
      rw [qu_s, up_s] at a3
      exact ⟨h', a1, f2.tr a2, a3⟩
    · rw [if_pos e, if_neg e]
      exact ih (j + 1) F h (by omega) (by omega) h6 hS h9 hcc
/-- one token on, by both -/
theorem adv (T : TX hc hm) {q : Nat} (c8 : hc.1 2 8 = (q : Int)) (m7 : hm.1 212 7 = (q : Int)) (hq : (q : Int) ≤ hm.1 212 8) : ∃ hc' hm', DX4_advance hc = some (0, hc') ∧ DX10_next hm = some (0, hm') ∧ TX hc' hm' ∧ TK hc' hm' ∧ (q : Int) ≤ hm'.1 212 6 := by
  obtain ⟨S, hS⟩ := Int.eq_ofNat_of_zero_le T.2.2.2.1
  have hS9 : S ≤ 900 := by have := T.2.2.2.2; omega
  unfold DX4_advance DX10_next
  simp only [qlt]
  rw [c8, m7]
  have f1 : fr (fun i k => i = 2 ∧ 6 ≤ k ∧ k ≤ 9) hc (qu hc 2 7 (q : Int)) := fr_q fr.rf (by omega)
  have f2 : fr (fun i k => i = 212 ∧ (k = 6 ∨ k = 7 ∨ k = 9 ∨ k = 10)) hm (qu hm 212 6 (q : Int)) := fr_q fr.rf (by omega)
  have T1 := T.kp f1 f2 (fun i k g => by omega) (fun i k g => by omega)
  obtain ⟨p, h1, h2, a1, a2, a3, a4, a5, a6, a7, a8⟩ := ws_l (S := S) (S - q) q LF LF (qu hc 2 7 (q : Int)) (qu hm 212 6 (q : Int)) (by omega) (by unfold LF; omega) (by unfold LF; omega) T1 (by rw [f2.at 212 8 (by omega)]; exact hS) (by rw [qu_s, up_s]) (by rw [qu_s, up_s])
  have f3 := f1.tr (a7.mono (fun i k g => by omega))
  have f4 := f2.tr (a8.mono (fun i k g => by omega))
  have T2 := T.kp f3 f4 (fun i k g => by omega) (fun i k g => by omega)
  have s2 : h2.1 212 8 = (S : Int) := by rw [f4.at 212 8 (by omega)]; exact hS
  rw [a3, a4]
  unfold DX4_advance_b60 nx_b
  simp only [qlt]
  rw [a5, a6]
  have f5 : fr (fun i k => i = 2 ∧ 6 ≤ k ∧ k ≤ 9) h1 (qu (qu h1 2 8 (p : Int)) 2 9 0) := fr_q (fr_q fr.rf (by omega)) (by omega)
  have f6 : fr (fun i k => i = 212 ∧ (k = 6 ∨ k = 7 ∨ k = 9 ∨ k = 10)) h2 (qu h2 212 7 (p : Int)) := fr_q fr.rf (by omega)
  have b7 : (qu (qu h1 2 8 (p : Int)) 2 9 0).1 2 7 = (p : Int) := by rw [qu_s, up_n _ _ (by decide), qu_s, up_n _ _ (by decide)]; exact a5
  have b8 : (qu (qu h1 2 8 (p : Int)) 2 9 0).1 2 8 = (p : Int) := by rw [qu_s, up_n _ _ (by decide), qu_s, up_s]
  have b9 : (qu (qu h1 2 8 (p : Int)) 2 9 0).1 2 9 = 0 := by rw [qu_s, up_s]
  have d6 : (qu h2 212 7 (p : Int)).1 212 6 = (p : Int) := by rw [qu_s, up_n _ _ (by decide)]; exact a6
  have d7 : (qu h2 212 7 (p : Int)).1 212 7 = (p : Int) := by rw [qu_s, up_s]
  generalize qu (qu h1 2 8 (p : Int)) 2 9 0 = hX at *
  generalize qu h2 212 7 (p : Int) = hY at *
  have fX := f3.tr f5
  have fY := f4.tr f6
  have TT := T.kp fX fY (fun i k g => by omega) (fun i k g => by omega)
  have sY : hY.1 212 8 = (S : Int) := by rw [fY.at 212 8 (by omega)]; exact hS
  have sX : hX.1 2 4 = (S : Int) := by rw [TT.2.2.1]; exact sY
  rw [b7, d6, sX, sY]
  by_cases e : p < S
  · have tf : hX.2.2.2.1 = true := by rw [TT.1]
    obtain ⟨u1, u2⟩ := TT.2.1 p (by omega)
    rw [if_pos (show (p : Int) < (S : Int) by omega), if_pos (show (p : Int) < (S : Int) by omega), if_pos tf, if_pos (show 0 ≤ (p : Int) ∧ (p : Int) < 900 by omega), Int.toNat_natCast, qand_255, m_see (by omega) (by omega), qbd_some, m_small, qbd_some, u2]
    generalize hcc : hX.1 1 p % 256 = c at *
    have c0 : 0 ≤ c ∧ c < 256 := by omega
    by_cases w : 97 ≤ c ∧ c ≤ 122
    · rw [if_neg (show ¬ c < 97 by omega), if_neg (show ¬ 122 < c by omega), if_pos w, if_neg (show ¬ (1 : Int) = 0 by decide)]
      have f7 : fr (fun i k => i = 2 ∧ 6 ≤ k ∧ k ≤ 9) hX (qu hX 2 6 1) := fr_q fr.rf (by omega)
      have T7 := TT.kp f7 (fr.rf (P := fun _ _ => False) (h := hY)) (fun i k g => by omega) (fun i k g => fun z => z)
      have v1 : (qu hX 2 6 1).1 1 = hX.1 1 := qu_ne (by decide)
      obtain ⟨q', g1, g2, r, k1, kp, k2, k3, k4, k5, k6, k7, k8, k9, k10⟩ := wd_l (S := S) (p := p) (S - p) p LF LF (qu hX 2 6 1) hY (by omega) (by unfold LF; omega) (by unfold LF; omega) T7 sY (by rw [qu_s, up_n _ _ (by decide)]; exact b8) d7 d6 (by omega)
      have hlt : p < q' := kp ⟨e, by rw [v1]; omega, by rw [v1]; omega⟩
      have fc := (fX.tr f7).tr (k8.mono (fun i k g => by omega))
      have fm := fY.tr (k9.mono (fun i k g => by omega))
      have m15 : g2.1 215 = hY.1 215 := k9.fn (fun k => by omega)
      rw [k3, k4]
      refine ⟨g1, g2, rfl, rfl, T.kp fc fm (fun i k g => by omega) (fun i k g => by omega), ⟨p, q', by rw [k9.at 212 6 (by omega)]; exact d6, by rw [k8.at 2 7 (by omega), qu_s, up_n _ _ (show ¬ 7 = 6 by decide)]; exact b7, k6, k5, by omega, by rw [fm.at 212 8 (by omega)]; omega, Or.inr (Or.inr (Or.inr (Or.inr ⟨by rw [k8.at 2 6 (by omega), qu_s, up_s], hlt, ?_⟩)))⟩, by rw [k9.at 212 6 (by omega), d6]; omega⟩
      rw [k7, m15]
      exact k10
    · have cc : (if c < 97 then (if c < 48 then (DX4_advance_b299 c hX) else (if 57 < c then (DX4_advance_b299 c hX) else (DX4_advance_l185 LF hX))) else (if 122 < c then (if c < 48 then (DX4_advance_b299 c hX) else (if 57 < c then (DX4_advance_b299 c hX) else (DX4_advance_l185 LF hX))) else (DX4_advance_l121 LF (qu hX 2 6 1)))) = if 48 ≤ c ∧ c ≤ 57 then DX4_advance_l185 LF hX else DX4_advance_b299 c hX := by
        by_cases z1 : 48 ≤ c ∧ c ≤ 57
        · rw [if_pos z1, if_pos (show c < 97 by omega), if_neg (show ¬ c < 48 by omega), if_neg (show ¬ 57 < c by omega)]
        · rw [if_neg z1]
          by_cases z2 : c < 97
          · rw [if_pos z2]
            by_cases z3 : c < 48
            · rw [if_pos z3]
            · rw [if_neg z3, if_pos (show 57 < c by omega)]
          · rw [if_neg z2, if_pos (show 122 < c by omega), if_neg (show ¬ c < 48 by omega), if_pos (show 57 < c by omega)]
      rw [cc, if_neg w, if_pos rfl, d6, m_see (by omega) (by omega), qbd_some, m_digit, qbd_some, u2]
      by_cases z1 : 48 ≤ c ∧ c ≤ 57
      · rw [if_pos z1, if_pos z1, if_neg (show ¬ (1 : Int) = 0 by decide)]
        have f7 : fr (fun i k => i = 212 ∧ (k = 6 ∨ k = 7 ∨ k = 9 ∨ k = 10)) hY (qu hY 212 10 0) := fr_q fr.rf (by omega)
        have T7 := TT.kp (fr.rf (P := fun _ _ => False) (h := hX)) f7 (fun i k g => fun z => z) (fun i k g => by omega)
        obtain ⟨q', g1, g2, v, k1, kp, k2, k3, k4, k5, k6, k7, k8, k9, k10, k11, k12⟩ := nm_l (S := S) (p := p) (S - p) p LF LF 0 hX (qu hY 212 10 0) (by omega) (by unfold LF; omega) (by unfold LF; omega) T7 (by rw [f7.at 212 8 (by omega)]; exact sY) b8 (by rw [qu_s, up_n _ _ (show ¬ 7 = 10 by decide)]; exact d7) b7 (by rw [qu_s, up_n _ _ (by decide)]; exact d6) (by omega) b9 (by rw [qu_s, up_s]) ⟨by omega, by omega, fun _ => rfl, fun _ => by omega, fun _ => by omega⟩
        have hlt : p < q' := kp ⟨e, by omega, by omega⟩
        have fc := fX.tr (k7.mono (fun i k g => by omega))
        have fm := (fY.tr f7).tr (k8.mono (fun i k g => by omega))
        rw [k3, k4]
        refine ⟨g1, g2, rfl, rfl, T.kp fc fm (fun i k g => by omega) (fun i k g => by omega), ⟨p, q', by rw [k8.at 212 6 (by omega), qu_s, up_n _ _ (by decide)]; exact d6, by rw [k7.at 2 7 (by omega)]; exact b7, k6, k5, by omega, by rw [fm.at 212 8 (by omega)]; omega, ?_⟩, by rw [k8.at 212 6 (by omega), qu_s, up_n _ _ (by decide), d6]; omega⟩
        rcases k12 with k12 | k12
        · exact Or.inr (Or.inr (Or.inl ⟨k12.2, k12.1, hlt, by rw [k9, k10], by rw [k10]; exact k11.1, by rw [k10]; exact k11.2⟩))
        · exact Or.inr (Or.inl ⟨k12.2, k12.1, hlt⟩)
      · rw [if_neg z1, if_neg z1, if_pos rfl, d7, qw_s (n := p) (by omega)]
        have f7 : fr (fun i k => i = 212 ∧ (k = 6 ∨ k = 7 ∨ k = 9 ∨ k = 10)) hY (qu (qu hY 212 7 ((p + 1 : Nat) : Int)) 212 9 33) := fr_q (fr_q fr.rf (by omega)) (by omega)
        have e6 : (qu (qu hY 212 7 ((p + 1 : Nat) : Int)) 212 9 33).1 212 6 = (p : Int) := by rw [qu_s, up_n _ _ (by decide), qu_s, up_n _ _ (by decide)]; exact d6
        have e7 : (qu (qu hY 212 7 ((p + 1 : Nat) : Int)) 212 9 33).1 212 7 = ((p + 1 : Nat) : Int) := by rw [qu_s, up_n _ _ (by decide), qu_s, up_s]
        have e9 : (qu (qu hY 212 7 ((p + 1 : Nat) : Int)) 212 9 33).1 212 9 = 33 := by rw [qu_s, up_s]
        have K := sg_l (p := p) (c := c) 12 0 LF (qu (qu hY 212 7 ((p + 1 : Nat) : Int)) 212 9 33) rfl (by unfold LF; omega) e6 (by rw [f7.at 212 8 (by omega)]; omega) (by rw [f7.at 212 8 (by omega)]; omega) (by rw [f7.at 215 p (by omega)]; exact u2)
        generalize qu (qu hY 212 7 ((p + 1 : Nat) : Int)) 212 9 33 = hZ at *
        rw [z0, e9] at K
        obtain ⟨g2, k1, k2, k3⟩ := K
        have fm := (fY.tr f7).tr (k2.mono (fun i k g => by omega))
        unfold DX4_advance_b299 DJ0_indexOf_0f7a4
        rw [k1, qbd_some]
        simp only [qlt]
        rcases sg_f c0.1 c0.2 with ⟨s1, s2⟩ | ⟨s1, s2, s3⟩
        · rw [if_pos s1, qu_s, up_n _ _ (show ¬ 8 = 6 by decide), b8, qw_s (n := p) (by omega)]
          have f8 : fr (fun i k => i = 2 ∧ 6 ≤ k ∧ k ≤ 9) hX (qu (qu hX 2 6 (-1)) 2 8 ((p + 1 : Nat) : Int)) := fr_q (fr_q fr.rf (by omega)) (by omega)
          have fc := fX.tr f8
          refine ⟨_, g2, rfl, rfl, T.kp fc fm (fun i k g => by omega) (fun i k g => by omega), ⟨p, p + 1, by rw [k2.at 212 6 (by omega)]; exact e6, ?_, by rw [k2.at 212 7 (by omega)]; exact e7, ?_, by omega, by rw [fm.at 212 8 (by omega)]; omega, Or.inr (Or.inl ⟨by rw [k3, s2], ?_, by omega⟩)⟩, by rw [k2.at 212 6 (by omega), e6]; omega⟩
          · rw [qu_s, up_n _ _ (by decide), qu_s, up_n _ _ (by decide)]; exact b7
          · rw [qu_s, up_s]
          · rw [qu_s, up_n _ _ (by decide), qu_s, up_s]
        · rw [if_neg s1, qu_s, up_n _ _ (show ¬ 8 = 6 by decide), b8, qw_s (n := p) (by omega)]
          have f8 : fr (fun i k => i = 2 ∧ 6 ≤ k ∧ k ≤ 9) hX (qu (qu hX 2 6 c) 2 8 ((p + 1 : Nat) : Int)) := fr_q (fr_q fr.rf (by omega)) (by omega)
          have fc := fX.tr f8
          refine ⟨_, g2, rfl, rfl, T.kp fc fm (fun i k g => by omega) (fun i k g => by omega), ⟨p, p + 1, by rw [k2.at 212 6 (by omega)]; exact e6, ?_, by rw [k2.at 212 7 (by omega)]; exact e7, ?_, by omega, by rw [fm.at 212 8 (by omega)]; omega, Or.inr (Or.inr (Or.inr (Or.inl ⟨by rw [k3]; exact s2, by omega, ?_⟩)))⟩, by rw [k2.at 212 6 (by omega), e6]; omega⟩
          · rw [qu_s, up_n _ _ (by decide), qu_s, up_n _ _ (by decide)]; exact b7
          · rw [qu_s, up_s]
          · rw [qu_s, up_n _ _ (by decide), qu_s, up_s, k3, s3]
  · have eS : p = S := by omega
    rw [if_neg (show ¬ (p : Int) < (S : Int) by omega), if_neg (show ¬ (p : Int) < (S : Int) by omega)]
    have f8 : fr (fun i k => i = 2 ∧ 6 ≤ k ∧ k ≤ 9) hX (qu hX 2 6 0) := fr_q fr.rf (by omega)
    have f7 : fr (fun i k => i = 212 ∧ (k = 6 ∨ k = 7 ∨ k = 9 ∨ k = 10)) hY (qu hY 212 9 32) := fr_q fr.rf (by omega)
    have fc := fX.tr f8
    have fm := fY.tr f7
    refine ⟨_, _, rfl, rfl, T.kp fc fm (fun i k g => by omega) (fun i k g => by omega), ⟨p, p, ?_, ?_, ?_, ?_, by omega, by rw [fm.at 212 8 (by omega)]; omega, Or.inl ⟨by rw [qu_s, up_s], by rw [qu_s, up_s]⟩⟩, ?_⟩
    · rw [qu_s, up_n _ _ (by decide)]; exact d6
    · rw [qu_s, up_n _ _ (by decide)]; exact b7
    · rw [qu_s, up_n _ _ (by decide)]; exact d7
    · rw [qu_s, up_n _ _ (by decide)]; exact b8
    · rw [qu_s, up_n _ _ (by decide), d6]; omega
end sc
