/-! ===== season ===== -/
theorem qush16_r (a : Int) : 0 ≤ qush a 16 ∧ qush a 16 < 65536 := by
  unfold qush
  rw [show (Int32.ofInt 16).toUInt32 &&& Int32.toUInt32 31 = 16 by decide]
  generalize (Int32.ofInt a).toUInt32 = x
  have hx : (x >>> 16).toNat < 65536 := by
    rw [UInt32.toNat_shiftRight, show (16 : UInt32).toNat % 32 = 16 by decide, Nat.shiftRight_eq_div_pow]
    have := x.toNat_lt
    omega
  have e : (x >>> 16).toInt32.toInt = ((x >>> 16).toNat : Int) := by
    show (x >>> 16).toBitVec.toInt = _
    rw [BitVec.toInt_eq_toNat_of_lt]
    · rfl
    · show 2 * (x >>> 16).toNat < 2 ^ 32
      omega
  rw [e]
  omega
def sst (s : Int) : Int := qw (qw (1103515245 * s) + 12345)
/-- the deed that is drawn out of a state, and the state behind it -/
def cv_dd (n4 s : Int) : Int × Int :=
  if qrem (qush (sst s) 16) 4 = 2 then
    (if ¬ qrem (qush (sst (sst s)) 16) n4 = qrem (qush (sst (sst (sst s))) 16) n4 then qw (qw (qw (100 * qrem (qush (sst (sst s)) 16) n4) + qw (10 * qrem (qush (sst (sst (sst s))) 16) n4)) + qrem (qush (sst (sst (sst (sst s)))) 16) 2)
      else qw (qw (qw (100 * qrem (qush (sst (sst s)) 16) n4) + qw (10 * 9)) + qrem (qush (sst (sst (sst (sst s)))) 16) 2), sst (sst (sst (sst s))))
  else if qrem (qush (sst s) 16) 4 = 3 then (qw (1000 + qrem (qush (sst (sst s)) 16) 8), sst (sst s)) else (-1, sst s)
theorem cv_dd_w (n4 s : Int) : qw (cv_dd n4 s).1 = (cv_dd n4 s).1 := by
  unfold cv_dd
  (repeat' split) <;> first | exact qw_w _ | rfl
theorem c_stir (a : Int) (h : qH) : DX9_stir a h = some (sst a, h) := rfl
theorem c_drawnA (a : Int) (h : qH) : DX9_drawn a h = some (qush a 16, h) := rfl
theorem m_draw {a : Int} (h : qH) (ha : ¬ a = 0) : DX10_draw a h = some (qrem (qush (sst (h.1 212 22)) 16) a, qu h 212 22 (sst (h.1 212 22))) := by
  unfold DX10_draw
  rw [qlt_e, if_neg ha, qu_s, up_s]
  rfl
theorem c_drawn {F : Nat} {a2 a3 s a5 n4 : Int} {h : qH} (h4 : h.1 5 14 = n4) (hn : ¬ n4 = 0) (hk : ¬ a2 ≤ a5) : DX9_season_l46 (F + 1) a2 a3 s a5 h = DX9_season_b166 (DX9_season_l46 F) a2 a3 (cv_dd n4 s).2 a5 (cv_dd n4 s).1 h := by
  rw [DX9_season_l46.eq_2, if_neg hk]
  unfold DX9_throwDeed cv_dd
  simp only [c_stir, c_drawnA, qbd_some, qlt]
  rw [h4]
  generalize sst = S
  generalize qush = Q
  generalize qrem = M
  generalize qw = W
  by_cases v2 : M (Q (S s) 16) 4 = 2
  · rw [if_pos v2]
    rw [if_neg (show ¬ ¬ M (Q (S s) 16) 4 = 2 from fun z => z v2), if_neg hn, if_neg hn]
    by_cases e : M (Q (S (S s)) 16) n4 = M (Q (S (S (S s))) 16) n4
    · rw [if_neg (show ¬ ¬ M (Q (S (S s)) 16) n4 = M (Q (S (S (S s))) 16) n4 from fun z => z e)]
      rw [if_neg (fun z => z e), qbd_some]
    · rw [if_pos (show ¬ M (Q (S (S s)) 16) n4 = M (Q (S (S (S s))) 16) n4 from e)]
      rw [if_pos e, qbd_some]
  · rw [if_neg v2]
    rw [if_pos (show ¬ M (Q (S s) 16) 4 = 2 from v2)]
    by_cases v3 : M (Q (S s) 16) 4 = 3
    · rw [if_pos v3]
      rw [if_neg (show ¬ ¬ M (Q (S s) 16) 4 = 3 from fun z => z v3)]
    · rw [if_neg v3]
      rw [if_pos (show ¬ M (Q (S s) 16) 4 = 3 from v3)]
theorem fr22 (h : qH) (x : Int) : fr (fun i k => i = 212 ∧ k = 22) h (qu h 212 22 x) := fr.mk (fun i k z => by rw [qu_1, if_neg z]) rfl
theorem m_drawn {n4 : Int} {h : qH} (h4 : h.1 213 4 = n4) (hn : ¬ n4 = 0) : ∃ h', DX10_drawn h = some ((cv_dd n4 (h.1 212 22)).1, h') ∧ h'.1 212 22 = (cv_dd n4 (h.1 212 22)).2 ∧ fr (fun i k => i = 212 ∧ k = 22) h h' := by
  unfold DX10_drawn DX10_drawn_b68 cv_dd
  generalize hs : h.1 212 22 = s
  have hr := qush16_r (sst s)
  have hm : 0 ≤ qrem (qush (sst s) 16) 4 ∧ qrem (qush (sst s) 16) 4 ≤ 3 := by
    rw [qrem_e hr.1 (by omega) (by decide) (by decide)]
    omega
  have md : ∀ (a : Int) (h : qH), ¬ a = 0 → DX10_draw a h = some (qrem (qush (sst (h.1 212 22)) 16) a, qu h 212 22 (sst (h.1 212 22))) := fun a h ha => m_draw h ha
  clear hr
  generalize sst = S at *
  generalize qush = Q at *
  generalize qrem = M at *
  generalize qw = W at *
  have st : ∀ (g : qH) (x : Int), (qu g 212 22 x).1 212 22 = x := fun g x => by rw [qu_s, up_s]
  have s13 : ∀ (g : qH) (x : Int), (qu g 212 22 x).1 213 4 = g.1 213 4 := fun g x => by rw [qu_ne (by decide)]
  rw [md _ h (by decide), hs, qbd_some]
  by_cases v2 : M (Q (S s) 16) 4 = 2
  · rw [if_pos v2, if_pos (show 2 ≤ M (Q (S s) 16) 4 by omega), if_pos (show ¬ M (Q (S s) 16) 4 = 3 by omega), s13, h4, md _ _ hn, st, qbd_some, s13, s13, h4, md _ _ hn, st, qbd_some]
    by_cases e : M (Q (S (S s)) 16) n4 = M (Q (S (S (S s))) 16) n4
    · rw [if_neg (show ¬ ¬ M (Q (S (S (S s))) 16) n4 = M (Q (S (S s)) 16) n4 from fun z => z e.symm), md _ _ (by decide), st, qbd_some]
      rw [if_neg (show ¬ ¬ M (Q (S (S s)) 16) n4 = M (Q (S (S (S s))) 16) n4 from fun z => z e)]
      exact ⟨_, rfl, st _ _, (((fr22 _ _).tr (fr22 _ _)).tr (fr22 _ _)).tr (fr22 _ _)⟩
    · rw [if_pos (show ¬ M (Q (S (S (S s))) 16) n4 = M (Q (S (S s)) 16) n4 from fun z => e z.symm), md _ _ (by decide), st, qbd_some]
      rw [if_pos (show ¬ M (Q (S (S s)) 16) n4 = M (Q (S (S (S s))) 16) n4 from e)]
      exact ⟨_, rfl, st _ _, (((fr22 _ _).tr (fr22 _ _)).tr (fr22 _ _)).tr (fr22 _ _)⟩
  · rw [if_neg v2]
    by_cases v3 : M (Q (S s) 16) 4 = 3
    · rw [if_pos v3, if_pos (show 2 ≤ M (Q (S s) 16) 4 by omega), if_neg (show ¬ ¬ M (Q (S s) 16) 4 = 3 from fun z => z v3), md _ _ (by decide), st, qbd_some]
      exact ⟨_, rfl, st _ _, (fr22 _ _).tr (fr22 _ _)⟩
    · rw [if_neg v3, if_neg (show ¬ 2 ≤ M (Q (S s) 16) 4 by omega)]
      exact ⟨_, rfl, st _ _, fr22 _ _⟩
