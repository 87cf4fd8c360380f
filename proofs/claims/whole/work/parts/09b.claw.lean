/-! ===== the class: a law's row, the wind ===== -/
theorem c_clamp (x : Int) (h : qH) (f : Int → qH → Option (Int × qH)) : (qbd (DJ9_min_f86c9 1000000 x h) fun r3 h4 => qbd (DJ9_max_f86c9 (-1000000) r3 h4) f) = f (cv_cl x) h := by
  unfold DJ9_min_f86c9 DJ9_max_f86c9 cv_cl
  simp only [qcmp_g, qcmp_l]
  by_cases h1 : x < 1000000
  · rw [if_pos h1]
    simp only [qbd_some]
    rw [if_neg (show ¬ 1000000 < x by omega)]
    by_cases h2 : -1000000 < x
    · rw [if_pos h2, if_neg (show ¬ x < -1000000 by omega)]
      rfl
    · rw [if_neg h2]
      simp only [qbd_some]
      by_cases h3 : x < -1000000
      · rw [if_pos h3]
      · rw [if_neg h3, show x = -1000000 by omega]
  · rw [if_neg h1]
    simp only [qbd_some]
    rw [if_pos (by decide)]
    simp only [qbd_some]
    by_cases h2 : 1000000 < x
    · rw [if_pos h2]
    · rw [if_neg h2, if_neg (by omega), show x = 1000000 by omega]
theorem c_b338 {k5 : Int → Int → Int → qH → Option (Int × qH)} {a2 x : Int} {n i : Nat} {h : qH} (hn : n < 60) (hi : i < 900) : DX2_lawSays_b338 k5 a2 ((n + 1 : Nat) : Int) (i : Int) x h = k5 a2 ((n + 1 : Nat) : Int) ((i + 1 : Nat) : Int) (qu h 15 n (cv_cl x)) := by
  unfold DX2_lawSays_b338
  rw [c_clamp]
  have hb := cv_cl_b x
  have e : qw (((n + 1 : Nat) : Int) - 1) = (n : Int) := by rw [qw_e (by omega) (by omega)]; omega
  rw [e, if_pos (by omega), Int.toNat_natCast, qw_e (x := cv_cl x) (by omega) (by omega), qw_s (by omega)]
  rfl
theorem cv_cl_i {x : Int} (h : -1000000 ≤ x ∧ x ≤ 1000000) : cv_cl x = x := by
  unfold cv_cl
  rw [if_neg (by omega), if_neg (by omega)]
theorem c_and {a b : Int} (ha : a = 0 ∨ a = 1) (hb : b = 0 ∨ b = 1) : cv_cl (qandl a b) = cv_bet 3006 a b ∧ cv_cl (qorl a b) = cv_bet 3007 a b := by
  rcases ha with rfl | rfl <;> rcases hb with rfl | rfl <;> decide
theorem cv_bet0 (a b : Int) : cv_bet 3000 a b = cv_cl (a + b) := by unfold cv_bet; rw [if_pos rfl]
theorem cv_bet1 (a b : Int) : cv_bet 3001 a b = cv_cl (a - b) := by unfold cv_bet; rw [if_neg (by decide), if_pos rfl]
theorem cv_bet2 (a b : Int) : cv_bet 3002 a b = cv_cl (a * b) := by unfold cv_bet; rw [if_neg (by decide), if_neg (by decide), if_pos rfl]
theorem cv_bet3 (a b : Int) : cv_bet 3003 a b = if a = b then 1 else 0 := by unfold cv_bet; rw [if_neg (by decide), if_neg (by decide), if_neg (by decide), if_pos rfl]
theorem cv_bet4 (a b : Int) : cv_bet 3004 a b = if a < b then 1 else 0 := by unfold cv_bet; rw [if_neg (by decide), if_neg (by decide), if_neg (by decide), if_neg (by decide), if_pos rfl]
theorem cv_bet5 (a b : Int) : cv_bet 3005 a b = if b < a then 1 else 0 := by unfold cv_bet; rw [if_neg (by decide), if_neg (by decide), if_neg (by decide), if_neg (by decide), if_neg (by decide), if_pos rfl]
theorem cv_cl0 : cv_cl 0 = 0 := by decide
theorem cv_cl1 : cv_cl 1 = 1 := by decide
theorem cv_cm0 : cv_cm 3000 = 2043 := by decide
theorem cv_cm1 : cv_cm 3001 = 2045 := by decide
theorem cv_cm2 : cv_cm 3002 = 2042 := by decide
theorem cv_cm3 : cv_cm 3003 = 2061 := by decide
theorem cv_cm4 : cv_cm 3004 = 2060 := by decide
theorem cv_cm5 : cv_cm 3005 = 2062 := by decide
theorem cv_cm6 : cv_cm 3006 = 2002 := by decide
theorem cv_cm7 : cv_cm 3007 = 2001 := by decide
theorem cv_cm8 : cv_cm 3008 = 2003 := by decide
set_option maxRecDepth 20000 in
theorem c_rk {m a2 : Int} {w CC : Nat → Int} (hm : m = 1004 ∨ m = 1007) (hw : ∀ j, -1000000 ≤ w j ∧ w j ≤ 1000000) (ha : a2 ≤ 900) :
    ∀ (cs : List Int) (N i : Nat) (s : List Bool) (b : Bool) (f : Nat → Int) (h : qH), cs.length < N → cv_ty m cs s = some [b] → cv_vt s f → (∀ j, j < s.length → h.1 15 j = f j) →
      h.1 12 = CC → (∀ j : Nat, (j : Int) < m - 1000 → h.1 14 j = w j) → (i : Int) + cs.length = a2 → (∀ j, j < cs.length → CC (i + j) = cv_cm (cs.getD j 0)) → s.length ≤ 60 →
      ∃ h', DX2_lawSays_l5 N a2 s.length i h = some (cv_ev w cs s.length f 0, h') := by
  intro cs
  induction cs with
  | nil =>
    intro N i s b f h hN ht hv he h1 h2 hi hc hs
    obtain ⟨N, rfl⟩ : ∃ n, N = n + 1 := ⟨N - 1, by simp only [List.length_nil] at hN; omega⟩
    injection ht with ht
    subst ht
    rw [List.length_nil] at hi
    rw [DX2_lawSays_l5.eq_2, if_neg (by omega), if_pos (by omega)]
    unfold DX2_lawSays_b367
    rw [if_neg (by simp), he 0 (by simp)]
    exact ⟨h, rfl⟩
  | cons c cs ih =>
    intro N i s b f h hN ht hv he h1 h2 hi hc hs
    obtain ⟨N, rfl⟩ : ∃ n, N = n + 1 := ⟨N - 1, by omega⟩
    rw [List.length_cons] at hi hN
    have hc0 := hc 0 (by rw [List.length_cons]; omega)
    rw [List.getD_cons_zero, Nat.add_zero] at hc0
    have hcs : ∀ j, j < cs.length → CC (i + 1 + j) = cv_cm (cs.getD j 0) := by
      intro j hj
      have := hc (j + 1) (by rw [List.length_cons]; omega)
      rw [List.getD_cons_succ] at this
      rw [← this]
      congr 1
      omega
    have his : ((i + 1 : Nat) : Int) + cs.length = a2 := by omega
    have hsi : qw ((i : Int) + 1) = ((i + 1 : Nat) : Int) := qw_s (by omega)
    rw [DX2_lawSays_l5.eq_2, if_neg (by omega), if_neg (by omega), if_neg (by omega), if_pos (by omega), Int.toNat_natCast, h1, hc0]
    simp only [qlt]
    rcases cv_ty_cons hm ht with ⟨c0, c1, c2, c3⟩ | ⟨c1, s1, rfl, c3⟩ | ⟨c1, s1, rfl, c3⟩ | ⟨c1, s1, rfl, c3⟩ | ⟨c1, s1, rfl, c3⟩
    · have ecm : cv_cm c = c := by unfold cv_cm; rw [if_pos (by omega)]
      rw [ecm, if_neg (show ¬ 2000 ≤ c by omega), if_neg (by omega), qw_e (x := c - 1000) (by omega) (by omega), if_pos (show c - 1000 < 7 by omega)]
      have go : ∀ x : Int, (-1000000 ≤ x ∧ x ≤ 1000000) → ∃ h', DX2_lawSays_l5 N a2 (qw ((s.length : Int) + 1)) (qw ((i : Int) + 1)) (qu h 15 s.length x) = some (cv_ev w cs (s.length + 1) (up f s.length x) 0, h') := by
        intro x hx
        rw [qw_s (by omega), hsi]
        refine ih N (i + 1) (false :: s) b (up f s.length x) (qu h 15 s.length x) (by omega) c3 (cv_vt_push hv rfl hx) ?_ ?_ ?_ his hcs (by rw [List.length_cons]; omega)
        · intro j hj
          rw [qu_s]
          unfold up
          split
          · rfl
          · exact he j (by rw [List.length_cons] at hj; omega)
        · rw [qu_ne (by decide), h1]
        · rw [qu_ne (by decide)]; exact h2
      by_cases hc2 : c < 1000
      · rw [if_neg (show ¬ 0 ≤ c - 1000 by omega), if_pos (by omega), Int.toNat_natCast, cv_ev_l hc2]
        exact go c (by omega)
      · rw [if_pos (show 0 ≤ c - 1000 by omega), if_pos (by omega), if_pos (by omega), Int.toNat_natCast, cv_ev_w (by omega) (by omega), h2 (c - 1000).toNat (by omega)]
        exact go _ (hw _)
    · have ha2 := cv_vt_at hv
      have hf := he s1.length (by rw [List.length_cons]; omega)
      rw [List.length_cons] at hs
      have ecm : cv_cm c = 2003 := by rw [c1, cv_cm8]
      have el : (((true :: s1).length : Nat) : Int) = ((s1.length + 1 : Nat) : Int) := by rw [List.length_cons]
      have en : qw (((s1.length + 1 : Nat) : Int) - 1) = (s1.length : Int) := by rw [qw_e (by omega) (by omega)]; omega
      have ez : qw (((s1.length + 1 : Nat) : Int) - qw (1 - 1)) = ((s1.length + 1 : Nat) : Int) := by rw [qw_e (x := 1 - 1) (by omega) (by omega), qw_e (by omega) (by omega)]; omega
      rw [ecm, if_pos (by decide), if_neg (by decide), el]
      unfold DX2_lawSays_b109
      simp only [qlt]
      rw [if_pos (by omega), en, if_pos (by omega), ez, en, if_pos (by omega), Int.toNat_natCast, hf, if_neg (by decide), if_neg (by decide), if_neg (by decide), if_neg (by decide), if_neg (by decide), if_neg (by decide), if_neg (by decide), if_neg (by decide),
        qwl_e (by omega) (by omega), c_b338 (by omega) (by omega), cv_ev_n c1, show (true :: s1).length - 1 = s1.length by rw [List.length_cons]; omega]
      have hcl : cv_cl (1 - f s1.length) = 1 - f s1.length := cv_cl_i (by rcases ha2.2 rfl with e | e <;> omega)
      rw [hcl]
      refine ih N (i + 1) (true :: s1) b (up f s1.length (1 - f s1.length)) (qu h 15 s1.length (1 - f s1.length)) (by omega) c3 (cv_vt_top hv ⟨by rcases ha2.2 rfl with e | e <;> omega, fun _ => by rcases ha2.2 rfl with e | e <;> omega⟩) ?_ ?_ ?_ his hcs (by rw [List.length_cons]; omega)
      · intro j hj
        rw [qu_s]
        unfold up
        split
        · rfl
        · exact he j hj
      · rw [qu_ne (by decide), h1]
      · rw [qu_ne (by decide)]; exact h2
    all_goals
      have p1 := cv_vt_at hv
      have p2 := cv_vt_at (cv_vt_pop hv)
      rw [List.length_cons] at p1
      have hf1 := he s1.length (by rw [List.length_cons, List.length_cons]; omega)
      have hf2 := he (s1.length + 1) (by rw [List.length_cons, List.length_cons]; omega)
      rw [List.length_cons, List.length_cons] at hs
      have el : ∀ x y : Bool, (((x :: y :: s1).length : Nat) : Int) = ((s1.length + 2 : Nat) : Int) := fun x y => by rw [List.length_cons, List.length_cons]
      have en : qw (((s1.length + 2 : Nat) : Int) - 1) = ((s1.length + 1 : Nat) : Int) := by rw [qw_e (by omega) (by omega)]; omega
      have em : qw (((s1.length + 1 : Nat) : Int) - 1) = (s1.length : Int) := by rw [qw_e (by omega) (by omega)]; omega
      have ez : qw (((s1.length + 2 : Nat) : Int) - qw (2 - 1)) = ((s1.length + 1 : Nat) : Int) := by rw [qw_e (x := 2 - 1) (by omega) (by omega), qw_e (by omega) (by omega)]; omega
      have e0 : ∀ a b : Bool, (a :: b :: s1).length - 1 = s1.length + 1 := fun a b => by rw [List.length_cons, List.length_cons]; omega
      have e2 : ∀ a b : Bool, (a :: b :: s1).length - 2 = s1.length := fun a b => by rw [List.length_cons, List.length_cons]; omega
      have hb := mul_bd p2.1 p1.1
      have fin : ∀ z : Bool, cv_ty m cs (z :: s1) = some [b] → cv_vt (z :: s1) (up f s1.length (cv_bet c (f s1.length) (f (s1.length + 1)))) → ∃ h', DX2_lawSays_l5 N a2 ((s1.length + 1 : Nat) : Int) ((i + 1 : Nat) : Int) (qu h 15 s1.length (cv_bet c (f s1.length) (f (s1.length + 1)))) = some (cv_ev w cs (s1.length + 1) (up f s1.length (cv_bet c (f s1.length) (f (s1.length + 1)))) 0, h') := by
        intro z hz hvz
        refine ih N (i + 1) (z :: s1) b (up f s1.length (cv_bet c (f s1.length) (f (s1.length + 1)))) (qu h 15 s1.length (cv_bet c (f s1.length) (f (s1.length + 1)))) (by omega) hz hvz ?_ (by rw [qu_ne (by decide), h1]) (by rw [qu_ne (by decide)]; exact h2) his hcs (by rw [List.length_cons]; omega)
        intro j hj
        rw [qu_s]
        unfold up
        split
        · rfl
        · exact he j (by simp only [List.length_cons] at hj ⊢; omega)
      rw [cv_ev_b (by omega) (by omega), e0, e2]
    · have ecm : cv_cm c = 2043 ∨ cv_cm c = 2045 ∨ cv_cm c = 2042 := by rcases c1 with rfl | rfl | rfl <;> simp only [cv_cm0, cv_cm1, cv_cm2] <;> decide
      rw [if_pos (by omega), if_pos (by omega), el]
      unfold DX2_lawSays_b109
      simp only [qlt]
      rw [if_pos (by omega), en, if_pos (by omega), ez, em, if_pos (by omega), Int.toNat_natCast, Int.toNat_natCast, hf1, hf2, if_neg (by omega), if_neg (by omega)]
      have key : ∀ x : Int, cv_cl x = cv_bet c (f s1.length) (f (s1.length + 1)) → ∃ h', DX2_lawSays_b338 (DX2_lawSays_l5 N) a2 ((s1.length + 1 : Nat) : Int) (i : Int) x h = some (cv_ev w cs (s1.length + 1) (up f s1.length (cv_bet c (f s1.length) (f (s1.length + 1)))) 0, h') := by
        intro x hx
        rw [c_b338 (by omega) (by omega), hx]
        exact fin false c3 (cv_vt_top (cv_vt_pop hv) ⟨cv_bet_n c1, fun e => by cases e⟩)
      rcases c1 with rfl | rfl | rfl
      · rw [cv_cm0, if_neg (by decide), if_pos (by decide)]
        exact key _ (by rw [qwl_e (by omega) (by omega), cv_bet0])
      · rw [cv_cm1, if_neg (by decide), if_neg (by decide), if_pos (by decide)]
        exact key _ (by rw [qwl_e (by omega) (by omega), cv_bet1])
      · rw [cv_cm2, if_pos (by decide)]
        exact key _ (by rw [qwl_e (by omega) (by omega), cv_bet2])
    · have ecm : cv_cm c = 2061 ∨ cv_cm c = 2060 ∨ cv_cm c = 2062 := by rcases c1 with rfl | rfl | rfl <;> simp only [cv_cm3, cv_cm4, cv_cm5] <;> decide
      have hbt := cv_bet_t (c := c) (a := f s1.length) (b := f (s1.length + 1)) (by omega)
      rw [if_pos (by omega), if_pos (by omega), el]
      unfold DX2_lawSays_b109
      simp only [qlt]
      rw [if_pos (by omega), en, if_pos (by omega), ez, em, if_pos (by omega), Int.toNat_natCast, Int.toNat_natCast, hf1, hf2, if_neg (by omega), if_neg (by omega), if_neg (by omega), if_neg (by omega), if_neg (by omega)]
      have key : ∀ x : Int, cv_cl x = cv_bet c (f s1.length) (f (s1.length + 1)) → ∃ h', DX2_lawSays_b338 (DX2_lawSays_l5 N) a2 ((s1.length + 1 : Nat) : Int) (i : Int) x h = some (cv_ev w cs (s1.length + 1) (up f s1.length (cv_bet c (f s1.length) (f (s1.length + 1)))) 0, h') := by
        intro x hx
        rw [c_b338 (by omega) (by omega), hx]
        exact fin true c3 (cv_vt_top (cv_vt_pop hv) ⟨by omega, fun _ => hbt⟩)
      simp only [qcmp_z, qcmp_le, qcmp_ge]
      generalize f s1.length = u at *
      generalize f (s1.length + 1) = z at *
      rcases c1 with rfl | rfl | rfl
      · rw [cv_cm3, if_neg (by decide), if_pos (by decide)]
        by_cases q : u = z
        · rw [if_neg (fun g => g q)]
          exact key 1 (by rw [cv_bet3, if_pos q, cv_cl1])
        · rw [if_pos q]
          exact key 0 (by rw [cv_bet3, if_neg q, cv_cl0])
      · rw [cv_cm4, if_pos (by decide)]
        by_cases q : u < z
        · rw [if_neg (by omega)]
          exact key 1 (by rw [cv_bet4, if_pos q, cv_cl1])
        · rw [if_pos (by omega)]
          exact key 0 (by rw [cv_bet4, if_neg q, cv_cl0])
      · rw [cv_cm5, if_neg (by decide), if_neg (by decide), if_pos (by decide)]
        by_cases q : z < u
        · rw [if_neg (by omega)]
          exact key 1 (by rw [cv_bet5, if_pos q, cv_cl1])
        · rw [if_pos (by omega)]
          exact key 0 (by rw [cv_bet5, if_neg q, cv_cl0])
    · have ecm : cv_cm c = 2002 ∨ cv_cm c = 2001 := by rcases c1 with rfl | rfl <;> simp only [cv_cm6, cv_cm7] <;> decide
      have hbt := cv_bet_t (c := c) (a := f s1.length) (b := f (s1.length + 1)) (by omega)
      have hca := c_and (p2.2 rfl) (p1.2 rfl)
      rw [if_pos (by omega), if_pos (by omega), el]
      unfold DX2_lawSays_b109
      simp only [qlt]
      rw [if_pos (by omega), en, if_pos (by omega), ez, em, if_pos (by omega), Int.toNat_natCast, Int.toNat_natCast, hf1, hf2]
      have key : ∀ x : Int, cv_cl x = cv_bet c (f s1.length) (f (s1.length + 1)) → ∃ h', DX2_lawSays_b338 (DX2_lawSays_l5 N) a2 ((s1.length + 1 : Nat) : Int) (i : Int) x h = some (cv_ev w cs (s1.length + 1) (up f s1.length (cv_bet c (f s1.length) (f (s1.length + 1)))) 0, h') := by
        intro x hx
        rw [c_b338 (by omega) (by omega), hx]
        exact fin true c3 (cv_vt_top (cv_vt_pop hv) ⟨by omega, fun _ => hbt⟩)
      rcases c1 with rfl | rfl
      · rw [cv_cm6, if_neg (by decide), if_pos (by decide)]
        exact key _ hca.1
      · rw [cv_cm7, if_pos (by decide)]
        exact key _ hca.2
