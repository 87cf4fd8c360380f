/-! ===== the world at the law's entry ===== -/
def qflat : Cond → List Cond
  | .and a b => qflat a ++ qflat b
  | c => [c]
theorem qflat_ok {args : Array Value} {s : State} (c : Cond) (h : c.before args s = true) : ∀ w ∈ qflat c, w.before args s = true := by
  induction c with
  | and a b iha ihb =>
    rw [Cond.before_and, Bool.and_eq_true] at h
    intro w hw
    rcases List.mem_append.mp hw with hw | hw
    · exact iha h.1 w hw
    · exact ihb h.2 w hw
  | _ =>
    intro w hw
    rcases List.mem_singleton.mp hw with rfl
    exact h
def qF0 : List Cond := qflat narrow_1
def qtb : List Nat := [51, 67, 74, 83, 91, 100, 110, 119, 127, 136, 144, 153, 164, 172, 180, 186, 196, 203, 213, 222, 230, 235, 240, 248, 257, 264, 271, 277, 288, 296, 446]
def qtw (k : Nat) : List Cond := [Cond.exactly (Term.string (qsO k).1 (qsO k).2.1) "java/lang/String", Cond.eq (.field (Term.string (qsO k).1 (qsO k).2.1) "java/lang/String" "coder" "B") (.int 0), Cond.arrayOf (.field (Term.string (qsO k).1 (qsO k).2.1) "java/lang/String" "value" "[B") .byte, Cond.eq (.length (.field (Term.string (qsO k).1 (qsO k).2.1) "java/lang/String" "value" "[B")) (.int (Int32.ofNat (qsT k).length))] ++ (List.range (qsT k).length).map (fun j => Cond.eq (.elem (.field (Term.string (qsO k).1 (qsO k).2.1) "java/lang/String" "value" "[B") (.int (Int32.ofNat j))) (.int ((qsT k).getD j 0)))
set_option maxRecDepth 100000 in
theorem qtw_ok : (List.range 31).all (fun k => decide ((qF0.drop (qtb.getD k 0)).take (qtw k).length = qtw k)) = true := by decide +kernel
theorem qtw_in {k : Nat} (hk : k < 31) : ∀ w ∈ qtw k, w ∈ qF0 := by
  have h := of_decide_eq_true (List.all_eq_true.mp qtw_ok k (List.mem_range.mpr hk))
  intro w hw
  rw [← h] at hw
  exact List.mem_of_mem_drop (List.mem_of_mem_take hw)
theorem tw_460 : (Jvm.Cond.stringRef "BottlePost$Reader" (72 : Nat) ";:+-*()[]=<>") ∈ lw_tbl := List.mem_append_right _ (List.mem_of_getElem? (i := 460) (by decide +kernel))
theorem tw_549 : (Jvm.Cond.stringRef "BottlePost$Reader" (113 : Nat) "sea") ∈ lw_tbl := List.mem_append_right _ (List.mem_of_getElem? (i := 549) (by decide +kernel))
theorem tw_587 : (Jvm.Cond.stringRef "BottlePost$Reader" (118 : Nat) "tides") ∈ lw_tbl := List.mem_append_right _ (List.mem_of_getElem? (i := 587) (by decide +kernel))
theorem tw_600 : (Jvm.Cond.stringRef "BottlePost$Reader" (123 : Nat) "rock") ∈ lw_tbl := List.mem_append_right _ (List.mem_of_getElem? (i := 600) (by decide +kernel))
theorem tw_617 : (Jvm.Cond.stringRef "BottlePost$Reader" (128 : Nat) "shore") ∈ lw_tbl := List.mem_append_right _ (List.mem_of_getElem? (i := 617) (by decide +kernel))
theorem tw_622 : (Jvm.Cond.stringRef "BottlePost$Reader" (175 : Nat) "throws") ∈ lw_tbl := List.mem_append_right _ (List.mem_of_getElem? (i := 622) (by decide +kernel))
theorem tw_627 : (Jvm.Cond.stringRef "BottlePost$Reader" (193 : Nat) "north") ∈ lw_tbl := List.mem_append_right _ (List.mem_of_getElem? (i := 627) (by decide +kernel))
theorem tw_628 : (Jvm.Cond.stringRef "BottlePost$Reader" (195 : Nat) "east") ∈ lw_tbl := List.mem_append_right _ (List.mem_of_getElem? (i := 628) (by decide +kernel))
theorem tw_629 : (Jvm.Cond.stringRef "BottlePost$Reader" (197 : Nat) "south") ∈ lw_tbl := List.mem_append_right _ (List.mem_of_getElem? (i := 629) (by decide +kernel))
theorem tw_630 : (Jvm.Cond.stringRef "BottlePost$Reader" (199 : Nat) "west") ∈ lw_tbl := List.mem_append_right _ (List.mem_of_getElem? (i := 630) (by decide +kernel))
theorem tw_631 : (Jvm.Cond.stringRef "BottlePost$Reader" (180 : Nat) "walks") ∈ lw_tbl := List.mem_append_right _ (List.mem_of_getElem? (i := 631) (by decide +kernel))
theorem tw_636 : (Jvm.Cond.stringRef "BottlePost$Reader" (133 : Nat) "current") ∈ lw_tbl := List.mem_append_right _ (List.mem_of_getElem? (i := 636) (by decide +kernel))
theorem tw_641 : (Jvm.Cond.stringRef "BottlePost$Reader" (138 : Nat) "wind") ∈ lw_tbl := List.mem_append_right _ (List.mem_of_getElem? (i := 641) (by decide +kernel))
theorem tw_666 : (Jvm.Cond.stringRef "BottlePost$Reader" (268 : Nat) "from") ∈ lw_tbl := List.mem_append_right _ (List.mem_of_getElem? (i := 666) (by decide +kernel))
theorem tw_667 : (Jvm.Cond.stringRef "BottlePost$Reader" (270 : Nat) "to") ∈ lw_tbl := List.mem_append_right _ (List.mem_of_getElem? (i := 667) (by decide +kernel))
theorem tw_668 : (Jvm.Cond.stringRef "BottlePost$Reader" (272 : Nat) "finder") ∈ lw_tbl := List.mem_append_right _ (List.mem_of_getElem? (i := 668) (by decide +kernel))
theorem tw_669 : (Jvm.Cond.stringRef "BottlePost$Reader" (274 : Nat) "age") ∈ lw_tbl := List.mem_append_right _ (List.mem_of_getElem? (i := 669) (by decide +kernel))
theorem tw_670 : (Jvm.Cond.stringRef "BottlePost$Reader" (276 : Nat) "passed") ∈ lw_tbl := List.mem_append_right _ (List.mem_of_getElem? (i := 670) (by decide +kernel))
theorem tw_671 : (Jvm.Cond.stringRef "BottlePost$Reader" (278 : Nat) "heavy") ∈ lw_tbl := List.mem_append_right _ (List.mem_of_getElem? (i := 671) (by decide +kernel))
theorem tw_672 : (Jvm.Cond.stringRef "BottlePost$Reader" (266 : Nat) "tide") ∈ lw_tbl := List.mem_append_right _ (List.mem_of_getElem? (i := 672) (by decide +kernel))
theorem tw_677 : (Jvm.Cond.stringRef "BottlePost$Reader" (262 : Nat) "x") ∈ lw_tbl := List.mem_append_right _ (List.mem_of_getElem? (i := 677) (by decide +kernel))
theorem tw_678 : (Jvm.Cond.stringRef "BottlePost$Reader" (264 : Nat) "y") ∈ lw_tbl := List.mem_append_right _ (List.mem_of_getElem? (i := 678) (by decide +kernel))
theorem tw_679 : (Jvm.Cond.stringRef "BottlePost$Reader" (148 : Nat) "moon") ∈ lw_tbl := List.mem_append_right _ (List.mem_of_getElem? (i := 679) (by decide +kernel))
theorem tw_680 : (Jvm.Cond.stringRef "BottlePost$Reader" (143 : Nat) "keeps") ∈ lw_tbl := List.mem_append_right _ (List.mem_of_getElem? (i := 680) (by decide +kernel))
theorem tw_697 : (Jvm.Cond.stringRef "BottlePost$Reader" (248 : Nat) "not") ∈ lw_tbl := List.mem_append_right _ (List.mem_of_getElem? (i := 697) (by decide +kernel))
theorem tw_698 : (Jvm.Cond.stringRef "BottlePost$Reader" (246 : Nat) "and") ∈ lw_tbl := List.mem_append_right _ (List.mem_of_getElem? (i := 698) (by decide +kernel))
theorem tw_699 : (Jvm.Cond.stringRef "BottlePost$Reader" (237 : Nat) "or") ∈ lw_tbl := List.mem_append_right _ (List.mem_of_getElem? (i := 699) (by decide +kernel))
theorem tw_704 : (Jvm.Cond.stringRef "BottlePost$Reader" (204 : Nat) "springs") ∈ lw_tbl := List.mem_append_right _ (List.mem_of_getElem? (i := 704) (by decide +kernel))
theorem tw_705 : (Jvm.Cond.stringRef "BottlePost$Reader" (153 : Nat) "cork") ∈ lw_tbl := List.mem_append_right _ (List.mem_of_getElem? (i := 705) (by decide +kernel))
theorem tw_1370 : (Jvm.Cond.stringRef "BottlePostModel" (68 : Nat) " sea tides rock shore throws walks current wind keeps moon springs cork north east south west or and not x y tide from to finder age passed heavy ") ∈ lw_tbl := List.mem_append_right _ (List.mem_of_getElem? (i := 1370) (by decide +kernel))
theorem tw_1376 : (Jvm.Cond.stringRef "BottlePostModel" (106 : Nat) ";:+-*()[]=<>") ∈ lw_tbl := List.mem_append_right _ (List.mem_of_getElem? (i := 1376) (by decide +kernel))
theorem tw_474 : (Jvm.Cond.laysStatic "java/lang/String" "COMPACT_STRINGS" "Z") ∈ lw_tbl := List.mem_append_right _ (List.mem_of_getElem? (i := 474) (by decide +kernel))
theorem tw_515 : (Jvm.Cond.laysStatic "jdk/internal/util/Preconditions" "SIOOBE_FORMATTER" "Ljava/util/function/BiFunction;") ∈ lw_tbl := List.mem_append_right _ (List.mem_of_getElem? (i := 515) (by decide +kernel))
theorem tw_269 : (Jvm.Cond.arrayOver (Jvm.ClassFile.FieldType.object "BottlePost$Bottle")) ∈ lw_tbl := List.mem_append_right _ (List.mem_of_getElem? (i := 269) (by decide +kernel))
theorem tw_291 : (Jvm.Cond.arrayOver (Jvm.ClassFile.FieldType.object "BottlePost$Waters")) ∈ lw_tbl := List.mem_append_right _ (List.mem_of_getElem? (i := 291) (by decide +kernel))
theorem tw_358 : (Jvm.Cond.arrayOver (Jvm.ClassFile.FieldType.object "BottlePost$Tray")) ∈ lw_tbl := List.mem_append_right _ (List.mem_of_getElem? (i := 358) (by decide +kernel))
theorem tw_360 : (Jvm.Cond.arrayOver (Jvm.ClassFile.FieldType.object "BottlePost$Chart")) ∈ lw_tbl := List.mem_append_right _ (List.mem_of_getElem? (i := 360) (by decide +kernel))
theorem qsr_in : ∀ k : Nat, k < 31 → Cond.stringRef (qsO k).1 (qsO k).2.1 (qsO k).2.2 ∈ lw_tbl
  | 0, _ => tw_460
  | 1, _ => tw_549
  | 2, _ => tw_587
  | 3, _ => tw_600
  | 4, _ => tw_617
  | 5, _ => tw_622
  | 6, _ => tw_627
  | 7, _ => tw_628
  | 8, _ => tw_629
  | 9, _ => tw_630
  | 10, _ => tw_631
  | 11, _ => tw_636
  | 12, _ => tw_641
  | 13, _ => tw_666
  | 14, _ => tw_667
  | 15, _ => tw_668
  | 16, _ => tw_669
  | 17, _ => tw_670
  | 18, _ => tw_671
  | 19, _ => tw_672
  | 20, _ => tw_677
  | 21, _ => tw_678
  | 22, _ => tw_679
  | 23, _ => tw_680
  | 24, _ => tw_697
  | 25, _ => tw_698
  | 26, _ => tw_699
  | 27, _ => tw_704
  | 28, _ => tw_705
  | 29, _ => tw_1370
  | 30, _ => tw_1376
  | n + 31, h => absurd h (by omega)
theorem qst_in : Cond.eq (Term.static "java/lang/String" "COMPACT_STRINGS" "Z") (.int 1) ∈ qF0 ∧ Cond.isRef (Term.static "jdk/internal/util/Preconditions" "SIOOBE_FORMATTER" "Ljava/util/function/BiFunction;") ∈ qF0 := by
  have h1 : qF0[2]? = some (Cond.eq (Term.static "java/lang/String" "COMPACT_STRINGS" "Z") (.int 1)) := by decide +kernel
  have h2 : qF0[3]? = some (Cond.isRef (Term.static "jdk/internal/util/Preconditions" "SIOOBE_FORMATTER" "Ljava/util/function/BiFunction;")) := by decide +kernel
  exact ⟨List.mem_of_getElem? h1, List.mem_of_getElem? h2⟩
theorem qNw_of {w : Cond} (hg : qgw w = true) {A : Array Value} {s : State} (h : w.before A s = true) : va_Nw w s := by
  unfold qgw at hg
  rw [Bool.or_eq_true] at hg
  rcases hg with hg | hg
  · exact word_at (State.WarmedH.refl s) (good_of_word hg) h
  · cases w <;> first | exact va_Nw.of rfl h | cases hg
theorem q_cl {s : State} {args : Array Value} (hts : ∀ w ∈ lw_tbl, w.before args s = true) : ∀ c : Nat, ∃ q : ClassId × (Nat → Nat), ∀ r : vw_C, vwCl[c]? = some r → u_Kn s r.1 r.2.1 r.2.2 q.1 q.2
  | 0 => by
    obtain ⟨cC, iS, h⟩ := u_known (N := 8) (n := 8) hts (fun w hw => (qC_0.2.2.1 w hw).1) (hts _ tw_187)
    refine ⟨(cC, iS), fun r hr => ?_⟩
    have e := Option.some.inj (qC_0.1.symm.trans hr)
    subst e
    exact h
  | 1 => by
    obtain ⟨cC, iS, h⟩ := u_known (N := 20) (n := 20) hts (fun w hw => (qC_1.2.2.1 w hw).1) (hts _ tw_36)
    refine ⟨(cC, iS), fun r hr => ?_⟩
    have e := Option.some.inj (qC_1.1.symm.trans hr)
    subst e
    exact h
  | 2 => by
    obtain ⟨cC, iS, h⟩ := u_known (N := 7) (n := 7) hts (fun w hw => (qC_2.2.2.1 w hw).1) (hts _ tw_179)
    refine ⟨(cC, iS), fun r hr => ?_⟩
    have e := Option.some.inj (qC_2.1.symm.trans hr)
    subst e
    exact h
  | 3 => by
    obtain ⟨cC, iS, h⟩ := u_known (N := 3) (n := 3) hts (fun w hw => (qC_3.2.2.1 w hw).1) (hts _ tw_285)
    refine ⟨(cC, iS), fun r hr => ?_⟩
    have e := Option.some.inj (qC_3.1.symm.trans hr)
    subst e
    exact h
  | 4 => by
    obtain ⟨cC, iS, h⟩ := u_known (N := 10) (n := 10) hts (fun w hw => (qC_4.2.2.1 w hw).1) (hts _ tw_30)
    refine ⟨(cC, iS), fun r hr => ?_⟩
    have e := Option.some.inj (qC_4.1.symm.trans hr)
    subst e
    exact h
  | 5 => by
    obtain ⟨cC, iS, h⟩ := u_known (N := 6) (n := 6) hts (fun w hw => (qC_5.2.2.1 w hw).1) (hts _ tw_307)
    refine ⟨(cC, iS), fun r hr => ?_⟩
    have e := Option.some.inj (qC_5.1.symm.trans hr)
    subst e
    exact h
  | 6 => by
    obtain ⟨cC, iS, h⟩ := u_known (N := 3) (n := 3) hts (fun w hw => (qC_6.2.2.1 w hw).1) (hts _ tw_361)
    refine ⟨(cC, iS), fun r hr => ?_⟩
    have e := Option.some.inj (qC_6.1.symm.trans hr)
    subst e
    exact h
  | 7 => by
    obtain ⟨cC, iS, h⟩ := u_known (N := 3) (n := 3) hts (fun w hw => (qC_7.2.2.1 w hw).1) (hts _ tw_263)
    refine ⟨(cC, iS), fun r hr => ?_⟩
    have e := Option.some.inj (qC_7.1.symm.trans hr)
    subst e
    exact h
  | 8 => by
    obtain ⟨cC, iS, h⟩ := u_known (N := 4) (n := 4) hts (fun w hw => (qC_8.2.2.1 w hw).1) (hts _ tw_334)
    refine ⟨(cC, iS), fun r hr => ?_⟩
    have e := Option.some.inj (qC_8.1.symm.trans hr)
    subst e
    exact h
  | 9 => by
    obtain ⟨cC, iS, h⟩ := u_known (N := 16) (n := 16) hts (fun w hw => (qC_9.2.2.1 w hw).1) (hts _ tw_22)
    refine ⟨(cC, iS), fun r hr => ?_⟩
    have e := Option.some.inj (qC_9.1.symm.trans hr)
    subst e
    exact h
  | 10 => by
    obtain ⟨cC, iS, h⟩ := u_known (N := 39) (n := 39) hts (fun w hw => (qC_10.2.2.1 w hw).1) (hts _ tw_1218)
    refine ⟨(cC, iS), fun r hr => ?_⟩
    have e := Option.some.inj (qC_10.1.symm.trans hr)
    subst e
    exact h
  | n + 11 => ⟨(0, fun _ => 0), fun r hr => absurd hr (by show ¬ vwCl[n + 11]? = some r; rw [List.getElem?_eq_none (by show 11 ≤ n + 11; omega)]; exact fun h => by cases h)⟩
theorem q_arp {s : State} {args : Array Value} {t : FieldType} (h : (Cond.arrayClass t).before args s = true) (ht : ∀ C, t ≠ .object C) : ∃ cA, ArrOfT s cA t ∧ va_RA s cA t := by
  obtain ⟨cA, kA, comp, h1, h2, h3⟩ := Cond.arrayClass_spec h
  refine ⟨cA, fun N z => ⟨(fun k h => by cases h), kA, h2, comp, h3⟩, ?_⟩
  cases t with
  | object C => exact absurd rfl (ht C)
  | _ => exact h1
theorem q_aro {s : State} {args : Array Value} {C : String} (h : (Cond.arrayOver (.object C)).before args s = true) : ∃ cA, ArrOfT s cA (.object C) ∧ va_RA s cA (.object C) := by
  obtain ⟨comp, cA, kA, h1, h2, h3, h4, h5⟩ := Cond.arrayOver_spec h
  exact ⟨cA, fun N z => ⟨(fun k h => by cases h), kA, h3, comp, h4⟩, ⟨kA, comp, h3, h4, h1, h5⟩⟩
theorem q_ar {s : State} {args : Array Value} (hts : ∀ w ∈ lw_tbl, w.before args s = true) : ∀ k : Nat, ∃ cA : ClassId, ∀ t : FieldType, ([.int, .byte, .short, .boolean, .long, .object "BottlePost$Bottle", .object "BottlePost$Waters", .object "BottlePost$Tray", .object "BottlePost$Chart"] : List FieldType)[k]? = some t → ArrOfT s cA t ∧ va_RA s cA t
  | 0 => by
    obtain ⟨cA, h⟩ := q_arp (hts _ tw_143) (fun _ h => by cases h)
    refine ⟨cA, fun t ht => ?_⟩
    cases ht
    exact h
  | 1 => by
    obtain ⟨cA, h⟩ := q_arp (hts _ tw_142) (fun _ h => by cases h)
    refine ⟨cA, fun t ht => ?_⟩
    cases ht
    exact h
  | 2 => by
    obtain ⟨cA, h⟩ := q_arp (hts _ tw_1030) (fun _ h => by cases h)
    refine ⟨cA, fun t ht => ?_⟩
    cases ht
    exact h
  | 3 => by
    obtain ⟨cA, h⟩ := q_arp (hts _ tw_379) (fun _ h => by cases h)
    refine ⟨cA, fun t ht => ?_⟩
    cases ht
    exact h
  | 4 => by
    obtain ⟨cA, h⟩ := q_arp (hts _ tw_378) (fun _ h => by cases h)
    refine ⟨cA, fun t ht => ?_⟩
    cases ht
    exact h
  | 5 => by
    obtain ⟨cA, h⟩ := q_aro (hts _ tw_269)
    refine ⟨cA, fun t ht => ?_⟩
    cases ht
    exact h
  | 6 => by
    obtain ⟨cA, h⟩ := q_aro (hts _ tw_291)
    refine ⟨cA, fun t ht => ?_⟩
    cases ht
    exact h
  | 7 => by
    obtain ⟨cA, h⟩ := q_aro (hts _ tw_358)
    refine ⟨cA, fun t ht => ?_⟩
    cases ht
    exact h
  | 8 => by
    obtain ⟨cA, h⟩ := q_aro (hts _ tw_360)
    refine ⟨cA, fun t ht => ?_⟩
    cases ht
    exact h
  | n + 9 => ⟨0, fun t ht => by cases ht⟩
theorem q_tx {s : State} {args : Array Value} (hts : ∀ w ∈ lw_tbl, w.before args s = true) (hgv : narrow_1.before args s = true) : ∀ k : Nat, ∃ q : Nat × Nat, k < 31 → vk_R (qsO k).1 (qsO k).2.1 (qsO k).2.2 q.1 s ∧ vk_S 1 [(qsT k).length] [qsT k] (fun _ => q.1) (fun _ => q.2) (fun q => s.heap.size ≤ q) s s.heap := by
  intro k
  by_cases hk : k < 31
  · have hw : ∀ w ∈ qtw k, w.before args s = true := fun w hw => qflat_ok _ hgv w (qtw_in hk w hw)
    have hlen : (qsT k).length < 2 ^ 31 := by
      have h : (List.range 31).all (fun k => decide ((qsT k).length < 2 ^ 31)) = true := by decide +kernel
      exact of_decide_eq_true (List.all_eq_true.mp h k (List.mem_range.mpr hk))
    have z0 : ∀ i : Nat, i < 1 → i = 0 := fun i hi => by omega
    obtain ⟨adK, adV, h1, h2⟩ := vk_Sof (args := args) (s := s) (N := 1) (tm := fun _ => Term.string (qsO k).1 (qsO k).2.1) (len := [(qsT k).length]) (byt := [qsT k]) (A := fun q => s.heap.size ≤ q) (fun i hi => by rw [z0 i hi]; exact hlen)
      (fun i hi => hw _ (by simp [qtw])) (fun i hi => hw _ (by simp [qtw])) (fun i hi => hw _ (by simp [qtw])) (fun i hi => by rw [z0 i hi]; exact hw _ (by simp [qtw]))
      (fun i hi j hj => by
        rw [z0 i hi] at hj ⊢
        refine hw _ (List.mem_append_right _ ?_)
        exact List.mem_map.mpr ⟨j, List.mem_range.mpr hj, rfl⟩)
      (fun i j hi hj hij => absurd ((z0 i hi).trans (z0 j hj).symm) hij) (fun a ha => Nat.not_le.mpr ha)
    refine ⟨(adK 0, adV 0), fun _ => ⟨vk_R.of (hts _ (qsr_in k hk)) (h2 0 (by omega)), ?_⟩⟩
    refine ⟨fun i hi => ?_, fun i j hi hj _ => (z0 i hi).trans (z0 j hj).symm⟩
    have := h1.1 0 (by omega)
    rw [z0 i hi]
    exact this
  · exact ⟨(0, 0), fun h => absurd h hk⟩
def qad (b : Nat) (f : Nat → Nat × Nat) (i : Nat) : Nat := if i = 227 then b else if i % 2 = 0 then (f ((i - 300) / 2)).1 else (f ((i - 301) / 2)).2
theorem qad_e (b : Nat) (f : Nat → Nat × Nat) (k : Nat) : qad b f (300 + 2 * k) = (f k).1 := by
  unfold qad
  rw [if_neg (by omega), if_pos (by omega), Nat.add_sub_cancel_left, Nat.mul_div_cancel_left _ (by decide)]
theorem qad_o (b : Nat) (f : Nat → Nat × Nat) (k : Nat) : qad b f (301 + 2 * k) = (f k).2 := by
  unfold qad
  rw [if_neg (by omega), if_neg (by omega), Nat.add_sub_cancel_left, Nat.mul_div_cancel_left _ (by decide)]
theorem q_world {s : State} {b L : Nat} {xs : Nat → Int32} (hts : ∀ w ∈ lw_tbl, w.before #[Value.ref b] s = true) (hX : va_X b L xs s s.heap) (hbl : b < s.heap.size) (hgv : (Jvm.Cond.and given_1 narrow_1).before #[Value.ref b] s = true) : ∃ (D : va_G) (aC : Nat → ClassId) (ad : Nat → Nat), ad 227 = b ∧ qG L xs D aC (fun q => s.heap.size ≤ q) ad s s.heap := by
  rw [Cond.before_and, Bool.and_eq_true] at hgv
  obtain ⟨fD, hD⟩ := Classical.axiomOfChoice (q_cl hts)
  obtain ⟨fA, hA⟩ := Classical.axiomOfChoice (q_ar hts)
  obtain ⟨fT, hT⟩ := Classical.axiomOfChoice (q_tx hts hgv.2)
  have hF := qflat_ok _ hgv.2
  refine ⟨(fun c => (fD c).1, fun c => (fD c).2), fA, qad b fT, rfl, ?_⟩
  refine ⟨fun w hw hg => qNw_of hg (hts w hw), ⟨fun c q hq => hD c q hq, fun k q hk => ?_⟩, fun q hq => hq, ⟨hX, hbl, Nat.not_le.mpr hbl⟩, fun k hk => ?_, va_Zof (hts _ tw_474) (hts _ tw_14) (va_eqt (hF _ qst_in.1)) (fun a ha => Nat.not_le.mpr ha), va_Zqof (hts _ tw_515) (hts _ tw_17) (hF _ qst_in.2) (fun a ha => Nat.not_le.mpr ha)⟩
  · have h9 : k < 9 := (List.getElem?_eq_some_iff.mp hk).1
    have key : ∀ k : Nat, k < 9 → ∀ q : ClassId × FieldType, (qtys fA)[k]? = some q → q.1 = fA k ∧ ([.int, .byte, .short, .boolean, .long, .object "BottlePost$Bottle", .object "BottlePost$Waters", .object "BottlePost$Tray", .object "BottlePost$Chart"] : List FieldType)[k]? = some q.2
      | 0, _, q, h => by cases h; exact ⟨rfl, rfl⟩
      | 1, _, q, h => by cases h; exact ⟨rfl, rfl⟩
      | 2, _, q, h => by cases h; exact ⟨rfl, rfl⟩
      | 3, _, q, h => by cases h; exact ⟨rfl, rfl⟩
      | 4, _, q, h => by cases h; exact ⟨rfl, rfl⟩
      | 5, _, q, h => by cases h; exact ⟨rfl, rfl⟩
      | 6, _, q, h => by cases h; exact ⟨rfl, rfl⟩
      | 7, _, q, h => by cases h; exact ⟨rfl, rfl⟩
      | 8, _, q, h => by cases h; exact ⟨rfl, rfl⟩
    obtain ⟨e1, e2⟩ := key k h9 q hk
    rw [e1]
    exact hA k q.2 e2
  · rw [qad_e, qad_o]
    exact hT k hk
theorem q_zAO {s : State} {args : Array Value} (hts : ∀ w ∈ lw_tbl, w.before args s = true) : zAO s := ⟨va_AO.of (hts _ tw_269), va_AO.of (hts _ tw_291), va_AO.of (hts _ tw_358), va_AO.of (hts _ tw_360)⟩
