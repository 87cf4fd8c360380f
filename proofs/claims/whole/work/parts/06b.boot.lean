/-! ===== the law's start: two constructors, and the world behind them ===== -/
def CL_boot (s : zH) : Option (Int × zH) := if zK s.1 = (9, 16) ∧ s.1 = 0 then zlt (znew s) fun s1 => zbd (CX9_init 0 s1) fun _ s2 => if zK s2.1 = (10, 39) ∧ s2.1 = 212 then zlt (znew s2) fun s3 => zbd (CX10_init 212 s3) fun _ s4 => some (0, s4) else none else none
theorem UL_boot {L : Nat} {xs : Nat → Int32} (s : zH) : zS "" L xs cL_law "BottlePostLaw" 4 120 99 0 [(0, qr 227)] [] s (CL_boot s) := by
  unfold CL_boot
  refine Z_ite (fun g => ?_) (fun _ => Z_none)
  refine Z_new qC_9 zdf_9 tw_21 tw_22 tw_1 dL_law_0 rfl g.1 ?_
  rw [g.2]
  refine Z_lh (fun s1 => ?_)
  refine Z_dup dL_law_3 rfl rfl ?_
  refine Z_callI (UX9_init 0 (by decide) s1) (Or.inl tw_23) zyi_9 (by decide) (Nat.le_of_ble_eq_true rfl) dL_law_4 rfl (fun _ s2 _ => ?_)
  refine Z_astore_n (lv' := [(1, qr 0), (0, qr 227)]) dL_law_7 rfl (by decide) rfl rfl ?_
  refine Z_ite (fun g2 => ?_) (fun _ => Z_none)
  refine Z_new qC_10 zdf_10 tw_1217 tw_1218 tw_11 dL_law_8 rfl g2.1 ?_
  rw [g2.2]
  refine Z_lh (fun s3 => ?_)
  refine Z_dup dL_law_11 rfl rfl ?_
  refine Z_callI (UX10_init 212 (by decide) s3) (Or.inl tw_1219) zyi_10 (by decide) (Nat.le_of_ble_eq_true rfl) dL_law_12 rfl (fun _ s4 _ => ?_)
  refine Z_astore_n (lv' := [(2, qr 212), (1, qr 0), (0, qr 227)]) dL_law_15 rfl (by decide) rfl rfl ?_
  refine Z_iconst (a := 0) dL_law_16 rfl (by decide) ?_
  refine Z_istore_n (lv' := [(3, qi 0), (2, qr 212), (1, qr 0), (0, qr 227)]) dL_law_17 rfl (by decide) rfl rfl ?_
  exact Z_stop
def zs0 : zH := (0, fun _ _ => 0, fun _ _ => none)
def zrs : Option (Int × zH) := CL_boot zs0
def zS1 : zH := match zrs with
  | some q => q.2
  | none => zs0
set_option maxRecDepth 100000 in
theorem zb_some : (match CL_boot zs0 with | some q => q.1 == 0 && q.2.1 == 225 | none => false) = true := by decide +kernel
theorem zb_eq : CL_boot zs0 = some (0, zS1) ∧ zS1.1 = 225 := by
  have h := zb_some
  unfold zS1 zrs
  generalize CL_boot zs0 = X at h ⊢
  cases X with
  | none => cases h
  | some q =>
    obtain ⟨r, s⟩ := q
    have h : (r == 0 && s.1 == 225) = true := h
    rw [Bool.and_eq_true, beq_iff_eq, beq_iff_eq] at h
    obtain ⟨h1, h2⟩ := h
    subst h1
    exact ⟨rfl, h2⟩
/-- the numbers at the start -/
def zini (i k : Nat) : Int :=
  if (qK i).1 = 0 then (if k = 2 ∨ k = 3 ∨ k = 7 then -1 else 0)
  else if (qK i).1 = 1 then (if k = 13 then 1 else 0)
  else if (qK i).1 = 2 then (if k = 6 then -1 else 0)
  else if (qK i).1 = 4 then (if k = 2 then -1 else 0)
  else if (qK i).1 = 6 then (if k = 1 then -1 else 0)
  else if i = 212 then (if k = 14 ∨ k = 19 then -1 else 0)
  else if i = 213 then (if k = 3 then 1 else 0)
  else if i = 222 then (if k < 4 then -1 else 0)
  else 0
def qh0 : qH := (fun i k => zS1.2.1 (zsg i) k, false, false, false, false)
set_option maxRecDepth 100000 in
theorem zb_refs : (List.range 225).all (fun i => if (qK i).1 < 20 then (List.range (qK i).2).all (fun k => decide (qT (qK i).1 k < 2) || decide ((zS1.2.2 (zsg i) k).map zpi = qF qh0 i k)) else if 24 < (qK i).1 then (List.range 39).all (fun j => decide ((zS1.2.2 (zsg i) j).map zpi = if j < (qK i).2 then some (qEl i j) else none)) else true) = true := by decide +kernel
