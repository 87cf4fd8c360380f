/-! ===== the laws' language: the recursion tied ===== -/
section lt
variable {hc hm : qH} {kp : Int}
theorem in_R0 (n : Nat) (d : Int) (g : ¬ hm.1 212 11 = 0) : RX10g (n + 1) 0 d hm = some (0, hm) := by
  rw [RX10g.eq_2, if_pos rfl]
  unfold DX10_readAtom DX10_readAtom_b66
  rw [in_is g, qbd_some, if_pos rfl, if_pos g, in_is g, qbd_some, if_pos rfl, in_fails g, qbd_some]
theorem in_R1 (n : Nat) (d : Int) (g : ¬ hm.1 212 11 = 0) : RX10g (n + 2) 1 d hm = some (0, hm) := by
  obtain ⟨FF, hFF⟩ : ∃ n, LF = n + 1 := ⟨LF - 1, by unfold LF; omega⟩
  rw [RX10g.eq_2, if_neg (by decide), if_pos rfl]
  unfold DX10_readTerm
  rw [show (fun a h => RX10g (n + 1) 0 a h) d hm = some (0, hm) from in_R0 n d g, qbd_some, hFF, DX10_readTerm_l5.eq_2, in_eats g, qbd_some, if_pos rfl]
theorem in_R2 (n : Nat) (d : Int) (g : ¬ hm.1 212 11 = 0) : RX10g (n + 3) 2 d hm = some (0, hm) := by
  obtain ⟨FF, hFF⟩ : ∃ n, LF = n + 1 := ⟨LF - 1, by unfold LF; omega⟩
  rw [RX10g.eq_2, if_neg (by decide), if_neg (by decide), if_pos rfl]
  unfold DX10_readSum
  rw [show (fun a h => RX10g (n + 2) 1 a h) d hm = some (0, hm) from in_R1 n d g, qbd_some, hFF, DX10_readSum_l5.eq_2, in_is g, qbd_some, if_neg (show ¬ ¬ (0 : Int) = 0 by decide), in_is g, qbd_some, if_pos rfl]
theorem in_R3 (n : Nat) (d : Int) (g : ¬ hm.1 212 11 = 0) : RX10g (n + 4) 3 d hm = some (0, hm) := by
  rw [RX10g.eq_2, if_neg (by decide), if_neg (by decide), if_neg (by decide), if_pos rfl]
  unfold DX10_readUnit DX10_readUnit_b111 DX10_readUnit_b151
  rw [in_is g, qbd_some, if_pos rfl, in_is g, qbd_some, if_pos rfl, show (fun a h => RX10g (n + 3) 2 a h) d hm = some (0, hm) from in_R2 n d g, qbd_some, in_is g, qbd_some, if_pos rfl, in_is g, qbd_some, if_pos rfl, in_is g, qbd_some, if_neg (show ¬ ¬ (0 : Int) = 0 by decide), in_is g, qbd_some, if_neg (show ¬ ¬ (0 : Int) = 0 by decide), in_is g, qbd_some, if_pos rfl, in_fails g, qbd_some, show (fun a h => RX10g (n + 3) 2 a h) d hm = some (0, hm) from in_R2 n d g, qbd_some, in_codes g, qbd_some]
theorem in_R4 (n : Nat) (d : Int) (g : ¬ hm.1 212 11 = 0) : RX10g (n + 5) 4 d hm = some (0, hm) := by
  obtain ⟨FF, hFF⟩ : ∃ n, LF = n + 1 := ⟨LF - 1, by unfold LF; omega⟩
  rw [RX10g.eq_2, if_neg (by decide), if_neg (by decide), if_neg (by decide), if_neg (by decide), if_pos rfl]
  unfold DX10_readBoth
  rw [show (fun a h => RX10g (n + 4) 3 a h) d hm = some (0, hm) from in_R3 n d g, qbd_some, hFF, DX10_readBoth_l5.eq_2, in_eats g, qbd_some, if_pos rfl]
theorem in_R5 (n : Nat) (d : Int) (g : ¬ hm.1 212 11 = 0) : RX10g (n + 6) 5 d hm = some (0, hm) := by
  obtain ⟨FF, hFF⟩ : ∃ n, LF = n + 1 := ⟨LF - 1, by unfold LF; omega⟩
  rw [RX10g.eq_2, if_neg (by decide), if_neg (by decide), if_neg (by decide), if_neg (by decide), if_neg (by decide)]
  unfold DX10_readTruth
  rw [show (fun a h => RX10g (n + 5) 4 a h) d hm = some (0, hm) from in_R4 n d g, qbd_some, hFF, DX10_readTruth_l5.eq_2, in_eats g, qbd_some, if_pos rfl]
def ALLF (kp m : Int) (F : Nat) : Prop := ∀ (Fc Fm d : Nat), F ≤ Fc → F ≤ Fm → d ≤ 6 → ∀ hc hm, LG kp hc hm →
  (1 + 6 * (7 - d) ≤ F → JL m false (5 * d + 5) kp hm (RX4g Fc 5 (d : Int) kp hc) (RX10g Fm 0 (d : Int) hm)) ∧
  (2 + 6 * (7 - d) ≤ F → JL m false (5 * d + 4) kp hm (RX4g Fc 4 (d : Int) kp hc) (RX10g Fm 1 (d : Int) hm)) ∧
  (3 + 6 * (7 - d) ≤ F → JL m false (5 * d + 3) kp hm (RX4g Fc 3 (d : Int) kp hc) (RX10g Fm 2 (d : Int) hm)) ∧
  (kp = 1 → 4 + 6 * (7 - d) ≤ F → JL m true (5 * d + 2) kp hm (RX4g Fc 2 (d : Int) 0 hc) (RX10g Fm 3 (d : Int) hm)) ∧
  (kp = 1 → 5 + 6 * (7 - d) ≤ F → JL m true (5 * d + 1) kp hm (RX4g Fc 1 (d : Int) 0 hc) (RX10g Fm 4 (d : Int) hm)) ∧
  (kp = 1 → 6 + 6 * (7 - d) ≤ F → JL m true (5 * d) kp hm (RX4g Fc 0 (d : Int) 0 hc) (RX10g Fm 5 (d : Int) hm))
theorem lang_all {m : Int} (hk : kp = 0 ∨ kp = 1) (hmk : m = if kp = 0 then 1004 else 1007) : ∀ F, ALLF kp m F := by
  have hm7 : m ≤ 1007 := by rw [hmk]; split <;> decide
  intro F
  induction F with
  | zero =>
    intro Fc Fm d hFc hFm hd hc hm L
    exact ⟨fun z => by omega, fun z => by omega, fun z => by omega, fun _ z => by omega, fun _ z => by omega, fun _ z => by omega⟩
  | succ F ih =>
    intro Fc Fm d hFc hFm hd hc hm L
    obtain ⟨Fc, rfl⟩ : ∃ n, Fc = n + 1 := ⟨Fc - 1, by omega⟩
    obtain ⟨Fm, rfl⟩ : ∃ n, Fm = n + 1 := ⟨Fm - 1, by omega⟩
    have I := ih Fc Fm
    refine ⟨fun z => ?_, fun z => ?_, fun z => ?_, fun kk z => ?_, fun kk z => ?_, fun kk z => ?_⟩
    · rw [RX4g.eq_2, RX10g.eq_2, if_neg (by decide), if_neg (by decide), if_neg (by decide), if_neg (by decide), if_neg (by decide), if_pos rfl]
      refine j_atom hk hmk (by omega) (by omega) (fun d6 hc hm L => ?_) (fun d6 hm g => ?_) L
      · rw [show (d : Int) + 1 = ((d + 1 : Nat) : Int) by omega]
        exact ((I (d + 1) (by omega) (by omega) (by omega) hc hm L).2.2.1 (by omega)).less (by omega)
      · obtain ⟨q, hq⟩ : ∃ q, Fm = q + 3 := ⟨Fm - 3, by omega⟩
        rw [hq]
        exact in_R2 q _ g
    · rw [RX4g.eq_2, RX10g.eq_2, if_neg (by decide), if_neg (by decide), if_neg (by decide), if_neg (by decide), if_pos rfl, if_neg (by decide), if_pos rfl]
      exact j_term hm7 (fun hc hm L => (I d (by omega) (by omega) hd hc hm L).1 (by omega)) L
    · rw [RX4g.eq_2, RX10g.eq_2, if_neg (by decide), if_neg (by decide), if_neg (by decide), if_pos rfl, if_neg (by decide), if_neg (by decide), if_pos rfl]
      exact j_sum hm7 (fun hc hm L => (I d (by omega) (by omega) hd hc hm L).2.1 (by omega)) L
    · subst kk
      rw [RX4g.eq_2, RX10g.eq_2, if_neg (by decide), if_neg (by decide), if_pos rfl, if_neg (by decide), if_neg (by decide), if_neg (by decide), if_pos rfl]
      refine j_unit hm7 (by omega) (fun hc hm L => (I d (by omega) (by omega) hd hc hm L).2.2.1 (by omega)) (fun hm g => ?_) (fun d6 hc hm L => ?_) (fun d6 hc hm L => ?_) L
      · obtain ⟨q, hq⟩ : ∃ q, Fm = q + 3 := ⟨Fm - 3, by omega⟩
        rw [hq]
        exact in_R2 q _ g
      · rw [show (d : Int) + 1 = ((d + 1 : Nat) : Int) by omega]
        exact ((I (d + 1) (by omega) (by omega) (by omega) hc hm L).2.2.2.1 rfl (by omega)).less (by omega)
      · rw [show (d : Int) + 1 = ((d + 1 : Nat) : Int) by omega]
        exact ((I (d + 1) (by omega) (by omega) (by omega) hc hm L).2.2.2.2.2 rfl (by omega)).less (by omega)
    · subst kk
      rw [RX4g.eq_2, RX10g.eq_2, if_neg (by decide), if_pos rfl, if_neg (by decide), if_neg (by decide), if_neg (by decide), if_neg (by decide), if_pos rfl]
      exact j_both hm7 (fun hc hm L => (I d (by omega) (by omega) hd hc hm L).2.2.2.1 rfl (by omega)) L
    · subst kk
      rw [RX4g.eq_2, RX10g.eq_2, if_pos rfl, if_neg (by decide), if_neg (by decide), if_neg (by decide), if_neg (by decide), if_neg (by decide)]
      exact j_truth hm7 (fun hc hm L => (I d (by omega) (by omega) hd hc hm L).2.2.2.2.1 rfl (by omega)) L
theorem lang_sum (L : LG 0 hc hm) : JL 1004 false 3 0 hm (RX4_sum 0 0 hc) (RX10_readSum 0 hm) := (lang_all (kp := 0) (Or.inl rfl) rfl 60 100 100 0 (by omega) (by omega) (by omega) hc hm L).2.2.1 (by omega)
theorem lang_truth (L : LG 1 hc hm) : JL 1007 true 0 1 hm (RX4_truth 0 hc) (RX10_readTruth 0 hm) := (lang_all (kp := 1) (Or.inr rfl) rfl 60 100 100 0 (by omega) (by omega) (by omega) hc hm L).2.2.2.2.2 rfl (by omega)
theorem in_sum (g : ¬ hm.1 212 11 = 0) : RX10_readSum 0 hm = some (0, hm) := in_R2 97 0 g
theorem in_truth (g : ¬ hm.1 212 11 = 0) : RX10_readTruth 0 hm = some (0, hm) := in_R5 94 0 g
end lt
