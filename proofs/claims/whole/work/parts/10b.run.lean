/-! ===== a bottle's eight numbers alone ===== -/
def nb (v : Nat → Int) : Nat → Int := fun j => if j < 8 then v j else 0
theorem nb_at (v : Nat → Int) {j : Nat} (h : j < 8) : nb v j = v j := by unfold nb; rw [if_pos h]
theorem nb_up (v : Nat → Int) {k : Nat} (h : k < 8) (x : Int) : nb (up v k x) = up (nb v) k x := by
  funext j
  unfold nb up
  by_cases e : j = k
  · rw [if_pos e, if_pos (by omega), if_pos e]
  · rw [if_neg e, if_neg e]
theorem nb_ite {c : Prop} {d : Decidable c} {u v : Nat → Int} : nb (@ite _ c d u v) = @ite _ c d (nb u) (nb v) := by
  by_cases h : c
  · rw [if_pos h, if_pos h]
  · rw [if_neg h, if_neg h]
theorem nb_nb (v : Nat → Int) : nb (nb v) = nb v := by
  funext j
  unfold nb
  split <;> rfl
theorem nb_eq {u v : Nat → Int} (h : ∀ j, j < 8 → u j = v j) : nb u = nb v := by
  funext j
  unfold nb
  split
  · next g => exact h j g
  · rfl
theorem cB_nb {A : Nat → Int} {N : Int} {v : Nat → Int} (b : cB A N v) : cB A N (nb v) := by
  unfold cB at *
  rw [nb_at v (by decide), nb_at v (by decide), nb_at v (by decide), nb_at v (by decide), nb_at v (by decide), nb_at v (by decide), nb_at v (by decide), nb_at v (by decide)]
  exact b
theorem cB_bn {A : Nat → Int} {N : Int} {v : Nat → Int} (b : cB A N (nb v)) : cB A N v := by
  unfold cB at *
  rw [nb_at v (by decide), nb_at v (by decide), nb_at v (by decide), nb_at v (by decide), nb_at v (by decide), nb_at v (by decide), nb_at v (by decide), nb_at v (by decide)] at b
  exact b
theorem cv_step_nb (A : Nat → Int) (way : Int) (v : Nat → Int) : nb (cv_step A way v) = cv_step A way (nb v) := by
  unfold cv_step
  rw [nb_ite, nb_up _ (by decide), nb_up _ (by decide), nb_at v (by decide)]
theorem cv_cur_nb (A : Nat → Int) (t : Int) (v : Nat → Int) : nb (cv_cur A t v) = cv_cur A t (nb v) := by
  unfold cv_cur
  rw [nb_ite, cv_step_nb, nb_at v (by decide), nb_at v (by decide)]
theorem cv_go_nb (A : Nat → Int) (t : Int) (v : Nat → Int) : nb (cv_go A t v) = cv_go A t (nb v) := by
  have e2 : ∀ v, nb (cv_cur2 A t v) = cv_cur2 A t (nb v) := by
    intro v
    unfold cv_cur2
    rw [nb_ite, cv_cur_nb]
  have e3 : ∀ v, nb (cv_blow A t v) = cv_blow A t (nb v) := by
    intro v
    unfold cv_blow
    rw [nb_ite, cv_step_nb, nb_at v (by decide), nb_at v (by decide), nb_at v (by decide)]
  unfold cv_go
  rw [e3, e2, cv_cur_nb]
theorem cv_find_nb (A : Nat → Int) (e t : Int) (v : Nat → Int) : nb (cv_find A e t v) = cv_find A e t (nb v) := by
  have es : cv_sh A (nb v) = cv_sh A v := by unfold cv_sh; rw [nb_at v (by decide)]
  have ew : ∀ s ph : Int, cv_kw (nb v) s ph = cv_kw v s ph := by
    intro s ph
    unfold cv_kw
    rw [nb_at v (by decide), nb_at v (by decide), nb_at v (by decide), nb_at v (by decide), nb_at v (by decide)]
  have ek : cv_keeps A (nb v) (cv_sh A v) (cv_ph A t) = cv_keeps A v (cv_sh A v) (cv_ph A t) := by
    unfold cv_keeps
    rw [ew, nb_at v (by decide)]
  unfold cv_find
  rw [es, nb_ite, nb_ite]
  have ep : nb (cv_pass A (cv_sh A v) v) = cv_pass A (cv_sh A v) (nb v) := by
    unfold cv_pass
    rw [nb_ite, nb_up _ (by decide), nb_up _ (by decide), nb_up _ (by decide), nb_up _ (by decide), nb_at v (by decide)]
  rw [ep, nb_up _ (by decide), nb_up _ (by decide)]
  by_cases kk : cv_keeps A v (cv_sh A v) (cv_ph A t)
  · have kb : cv_keeps A (nb v) (cv_sh A v) (cv_ph A t) := by rw [ek]; exact kk
    rw [if_pos kb, if_pos kk]
  · have kb : ¬ cv_keeps A (nb v) (cv_sh A v) (cv_ph A t) := by rw [ek]; exact kk
    rw [if_neg kb, if_neg kk]
theorem cv_tide_nb (A : Nat → Int) (e t : Int) (c : Bool) (v : Nat → Int) : nb (cv_tide A e t c v) = cv_tide A e t c (nb v) := by
  have ea : ∀ v, nb (cv_age A c v) = cv_age A c (nb v) := by
    intro v
    unfold cv_age
    rw [nb_ite, nb_up _ (by decide), nb_up _ (by decide), nb_at v (by decide), nb_at v (by decide)]
  have ee : ∀ v, nb (cv_end A e t v) = cv_end A e t (nb v) := by
    intro v
    unfold cv_end
    rw [nb_ite, cv_find_nb, nb_at v (by decide)]
  unfold cv_tide
  rw [nb_ite, nb_ite, ee, ea, cv_go_nb, nb_at v (by decide), ← cv_go_nb, nb_at (cv_go A t v) (by decide)]
/-! ===== tides one behind the other ===== -/
def cv_on (v : Nat → Int) : Prop := v 0 = 0 ∨ v 0 = 1
/-- how a bottle goes on till it is neither at sea nor lies: in how many tides (-1: not so), and what it is then -/
noncomputable def cv_set (A : Nat → Int) (e t : Int) : Nat → Nat → (Nat → Int) → Int × (Nat → Int)
  | 0, k, v => if v 0 = 0 ∨ v 0 = 1 then (-1, v) else ((k : Int), v)
  | n + 1, k, v => if v 0 = 0 ∨ v 0 = 1 then cv_set A e t n (k + 1) (cv_tide A e (t + (k : Int)) false v) else ((k : Int), v)
/-- a tide at the class's bottle i -/
theorem c_carryN {h : qH} {A : Nat → Int} {e t N : Int} {i : Nat} {v : Nat → Int} (E : cE h A e) (hi : okb i) (hv : nb (h.1 i) = v) (b : cB A N v) (hN : N < 1000000) (t0 : 0 ≤ t) (t1 : t < 2147483648) :
    ∃ h', DX2_carry i t h = some (0, h') ∧ nb (h'.1 i) = cv_tide A e t false v ∧ cE h' A e := by
  obtain ⟨h', e1, e2, e3⟩ := c_carry E hi (cB_bn (by rw [hv]; exact b)) hN t0 t1
  refine ⟨h', e1, ?_, e3⟩
  rw [e2, cv_tide_nb, hv]
/-- a tide at the reference's bottle -/
theorem m_tideN {h : qH} {A : Nat → Int} (q : sq A (h.1 213)) (G : cG A) {t N a2 e : Int} {c : Bool} {v : Nat → Int} (hc : a2 = if c = true then 1 else 0) (he : h.1 212 19 = e) (hv : nb (h.1 217) = v) (b : cB A N v) (hN : N < 1000000) (t0 : 0 ≤ t) (t1 : t < 2147483648) :
    ∃ h', DX10_goesTide t a2 h = some (0, h') ∧ nb (h'.1 217) = cv_tide A e t c v ∧ h'.1 213 = h.1 213 ∧ h'.1 212 19 = e := by
  obtain ⟨h', e1, e2⟩ := m_tideA q G hc he (cB_bn (by rw [hv]; exact b)) hN t0 t1
  have f := F_DX10_goesTide _ _ _ _ _ e1
  refine ⟨h', e1, by rw [e2, cv_tide_nb, hv], f.fn (fun k => by omega), ?_⟩
  rw [f.at 212 19 (by omega), he]
theorem c_settle_l {A : Nat → Int} {e t : Int} {i : Nat} (hi : okb i) (t0 : 0 ≤ t) (t1 : t < 2000000000) : ∀ (m k F : Nat) (N : Int) (v : Nat → Int) (h : qH), m + k = 200 → m < F → cE h A e → nb (h.1 i) = v → cB A N v → N + m < 1000000 →
    ∃ h', DX2_settle_l2 F i t k h = some ((cv_set A e t m k v).1, h') ∧ nb (h'.1 i) = (cv_set A e t m k v).2 ∧ cE h' A e := by
  intro m
  induction m with
  | zero =>
    intro k F N v h hk hF E hv b hN
    obtain ⟨F, rfl⟩ : ∃ n, F = n + 1 := ⟨F - 1, by omega⟩
    have e0 : h.1 i 0 = v 0 := by rw [← hv, nb_at _ (by decide)]
    rw [DX2_settle_l2.eq_2, if_pos (by omega), e0]
    unfold cv_set
    by_cases q : v 0 = 0 ∨ v 0 = 1
    · rw [if_pos q]
      refine ⟨h, ?_, hv, E⟩
      by_cases q0 : v 0 = 0
      · rw [if_pos q0]
      · rw [if_neg q0, if_pos (by omega)]
    · rw [if_neg q, if_neg (fun g => q (Or.inl g)), if_neg (fun g => q (Or.inr g))]
      refine ⟨h, ?_, hv, E⟩
      congr 2
      omega
  | succ m ih =>
    intro k F N v h hk hF E hv b hN
    obtain ⟨F, rfl⟩ : ∃ n, F = n + 1 := ⟨F - 1, by omega⟩
    have e0 : h.1 i 0 = v 0 := by rw [← hv, nb_at _ (by decide)]
    rw [DX2_settle_l2.eq_2, if_neg (by omega), e0]
    unfold cv_set DX2_settle_b26
    by_cases q : v 0 = 0 ∨ v 0 = 1
    · obtain ⟨h1, e1, v1, E1⟩ := c_carryN (t := t + (k : Int)) E hi hv b (by omega) (by omega) (by omega)
      have k1 := ih (k + 1) F (N + 1) (cv_tide A e (t + (k : Int)) false v) h1 (by omega) (by omega) E1 v1 (cB_tide E.1 b) (by omega)
      rw [if_pos q, qw_e (x := t + (k : Int)) (by omega) (by omega), e1, qw_s (by omega)]
      simp only [qbd_some]
      by_cases q0 : v 0 = 0
      · rw [if_pos q0]
        exact k1
      · rw [if_neg q0, if_pos (by omega)]
        exact k1
    · rw [if_neg q, if_neg (fun g => q (Or.inl g)), if_neg (fun g => q (Or.inr g))]
      exact ⟨h, rfl, hv, E⟩
theorem c_settle {A : Nat → Int} {e t N : Int} {i : Nat} {v : Nat → Int} {h : qH} (hi : okb i) (t0 : 0 ≤ t) (t1 : t < 2000000000) (E : cE h A e) (hv : nb (h.1 i) = v) (b : cB A N v) (hN : N < 900000) :
    ∃ h', DX2_settle i t h = some ((cv_set A e t 200 0 v).1, h') ∧ nb (h'.1 i) = (cv_set A e t 200 0 v).2 ∧ cE h' A e :=
  c_settle_l hi t0 t1 200 0 LF N v h rfl (by unfold LF; omega) E hv b (by omega)
theorem m_ends_l {A : Nat → Int} {e t : Int} (G : cG A) (t0 : 0 ≤ t) (t1 : t < 2000000000) : ∀ (m k F : Nat) (N : Int) (v : Nat → Int) (h : qH), m + k = 200 → m + 1 < F → sq A (h.1 213) → h.1 212 19 = e → nb (h.1 217) = v → cB A N v → N + m < 1000000 →
    ∃ h', DX10_endsIn_l2 F t 200 k h = some (if (cv_set A e t m k v).1 = -1 then 1000000 else (cv_set A e t m k v).1, h') ∧ nb (h'.1 217) = (cv_set A e t m k v).2 := by
  intro m
  induction m with
  | zero =>
    intro k F N v h hk hF q he hv b hN
    obtain ⟨F, rfl⟩ : ∃ n, F = n + 1 := ⟨F - 1, by omega⟩
    have e0 : h.1 217 0 = v 0 := by rw [← hv, nb_at _ (by decide)]
    rw [DX10_endsIn_l2.eq_2, if_neg (by omega), m_isOn, e0]
    simp only [qbd_some]
    unfold cv_set
    by_cases q : v 0 = 0 ∨ v 0 = 1
    · rw [if_pos q, if_pos q, if_pos (by decide), if_pos (by omega), qw_s (by omega)]
      obtain ⟨F, rfl⟩ : ∃ n, F = n + 1 := ⟨F - 1, by omega⟩
      rw [DX10_endsIn_l2.eq_2, if_pos (by omega), if_pos rfl]
      exact ⟨h, rfl, hv⟩
    · rw [if_neg q, if_neg q, if_neg (by decide), if_neg (by omega)]
      exact ⟨h, rfl, hv⟩
  | succ m ih =>
    intro k F N v h hk hF q he hv b hN
    obtain ⟨F, rfl⟩ : ∃ n, F = n + 1 := ⟨F - 1, by omega⟩
    have e0 : h.1 217 0 = v 0 := by rw [← hv, nb_at _ (by decide)]
    rw [DX10_endsIn_l2.eq_2, if_neg (by omega), m_isOn, e0]
    simp only [qbd_some]
    unfold cv_set
    by_cases qq : v 0 = 0 ∨ v 0 = 1
    · obtain ⟨h1, e1, v1, g13, g19⟩ := m_tideN (c := false) (a2 := 0) (t := t + (k : Int)) q G rfl he hv b (by omega) (by omega) (by omega)
      have k1 := ih (k + 1) F (N + 1) (cv_tide A e (t + (k : Int)) false v) h1 (by omega) (by omega) (by rw [g13]; exact q) g19 v1 (cB_tide G b) (by omega)
      rw [if_pos qq, if_pos qq, if_pos (by decide), if_neg (by omega), qw_e (x := t + (k : Int)) (by omega) (by omega), e1, qw_s (by omega)]
      simp only [qbd_some]
      exact k1
    · rw [if_neg qq, if_neg qq, if_neg (by decide), if_neg (by omega)]
      exact ⟨h, rfl, hv⟩
theorem m_ends {A : Nat → Int} {e t N : Int} {v : Nat → Int} {h : qH} (G : cG A) (t0 : 0 ≤ t) (t1 : t < 2000000000) (q : sq A (h.1 213)) (he : h.1 212 19 = e) (hv : nb (h.1 217) = v) (b : cB A N v) (hN : N < 900000) :
    ∃ h', DX10_endsIn t 200 h = some (if (cv_set A e t 200 0 v).1 = -1 then 1000000 else (cv_set A e t 200 0 v).1, h') ∧ nb (h'.1 217) = (cv_set A e t 200 0 v).2 :=
  m_ends_l G t0 t1 200 0 LF N v h rfl (by unfold LF; omega) q he hv b (by omega)
/-- what it is then: off, or 200 tides are gone; never in less than it began with -/
theorem cv_set_r {A : Nat → Int} (G : cG A) {e t : Int} : ∀ (m k : Nat) (N : Int) (v : Nat → Int), cB A N v → ((cv_set A e t m k v).1 = -1 ∧ cv_on (cv_set A e t m k v).2 ∨ (k ≤ (cv_set A e t m k v).1 ∧ (cv_set A e t m k v).1 ≤ k + m ∧ ¬ cv_on (cv_set A e t m k v).2)) ∧ cB A (N + m) (cv_set A e t m k v).2 ∧ (cv_on v → (cv_set A e t m k v).1 ≠ k) := by
  intro m
  induction m with
  | zero =>
    intro k N v b
    unfold cv_set cv_on
    by_cases q : v 0 = 0 ∨ v 0 = 1
    · rw [if_pos q]
      exact ⟨Or.inl ⟨rfl, q⟩, b.grow (by omega), fun _ => by show (-1 : Int) ≠ k; omega⟩
    · rw [if_neg q]
      exact ⟨Or.inr ⟨Int.le_refl _, by show (k : Int) ≤ _; omega, q⟩, b.grow (by omega), fun g => absurd g q⟩
  | succ m ih =>
    intro k N v b
    unfold cv_set
    by_cases q : v 0 = 0 ∨ v 0 = 1
    · rw [if_pos q]
      obtain ⟨i1, i2, i3⟩ := ih (k + 1) (N + 1) (cv_tide A e (t + (k : Int)) false v) (cB_tide G b)
      refine ⟨?_, i2.grow (by omega), fun _ g => ?_⟩
      · rcases i1 with i1 | ⟨a, b, c⟩
        · exact Or.inl i1
        · exact Or.inr ⟨by omega, by omega, c⟩
      · rcases i1 with i1 | ⟨a, b, c⟩ <;> omega
    · rw [if_neg q]
      exact ⟨Or.inr ⟨Int.le_refl _, by show (k : Int) ≤ _; omega, q⟩, b.grow (by omega), fun g => absurd g q⟩
