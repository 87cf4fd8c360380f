/-! ===== contracts and calls ===== -/
def qrv (rk : Nat) (ad : Nat → Nat) (r : Int) : Option Value := if rk = 0 then none else if rk = 2 then some (.long (Int64.ofInt r)) else if rk = 3 then some (.ref (ad r.toNat)) else some (.int (Int32.ofInt r))
/-- what a method does, as a computation: the contract -/
def qMet (L : Nat) (xs : Nat → Int32) (y : MethodName) (cc : ByteArray) (nL : Nat) (ret : Option FieldType) (rk d : Nat) (as : List qV) (h : qH) (x : Option (Int × qH)) : Prop :=
  ∀ (r : Int) (h' : qH), x = some (r, h') → qM h h' ∧ ∀ (l : Launch) (D : va_G) (aC : Nat → ClassId) (A : Nat → Prop) (ad : Nat → Nat),
    Met l y [Cond.code y cc nL ret] { frames := d, cells := qp h - qp h', slots := qs h - qs h', locals := 40 * d }
      (va_Pc (as.map (q2 ad)) (fun U => qG L xs D aC A ad U U.heap ∧ qHk h ∧ (∀ v ∈ as, qk h v) ∧ qRep D aC A ad h U.heap))
      (fun _ st oc t => (∃ ad' : Nat → Nat, oc = .returned (qrv rk ad' r) ∧ (∀ i, qlv h i → ad' i = ad i) ∧ qHk h' ∧ qrk rk h' r ∧ qRep D aC A ad' h' t.heap) ∧ va_F A st t)
      (qp h - qp h') (qs h - qs h') A
/-- the locals at a method's entry -/
def qargs : Nat → List qV → List (Nat × qV)
  | _, [] => []
  | i, v :: vs => (i, v) :: qargs (if qcat v = 2 then i + 2 else i + 1) vs
theorem qargs_ok (ad : Nat → Nat) : ∀ (vs : List qV) (i : Nat), lv_args i (vs.map (q2 ad)) = (qargs i vs).map (fun q => (q.1, q2 ad q.2))
  | [], _ => rfl
  | v :: vs, i => by
    show (i, q2 ad v) :: lv_args (if (q2 ad v).category = 2 then i + 2 else i + 1) (vs.map (q2 ad)) = _
    rw [qcat_ok, qargs_ok ad vs]
    rfl
theorem qargs_k {h : qH} : ∀ (vs : List qV) (i : Nat), (∀ v ∈ vs, qk h v) → ∀ q ∈ qargs i vs, qk h q.2
  | [], _, _ => fun q hq => by cases hq
  | v :: vs, i, g => by
    intro q hq
    rcases List.mem_cons.mp hq with rfl | hq
    · exact g v List.mem_cons_self
    · exact qargs_k vs _ (fun w hw => g w (List.mem_cons_of_mem _ hw)) q hq
theorem qsum_ok (ad : Nat → Nat) (vs : List qV) : (lg_sl (vs.map (q2 ad))).length = (vs.map qcat).sum := by
  induction vs with
  | nil => rfl
  | cons v vs ih =>
    have e1 : lg_sl ((v :: vs).map (q2 ad)) = (if (q2 ad v).category = 2 then [.val (q2 ad v), .second] else [.val (q2 ad v)]) ++ lg_sl (vs.map (q2 ad)) := rfl
    rw [e1, List.length_append, ih, qcat_ok]
    show _ = qcat v + (vs.map qcat).sum
    rcases (show qcat v = 1 ∨ qcat v = 2 by
      match v with
      | .inl _ => exact Or.inl rfl
      | .inr (.inl _) => exact Or.inr rfl
      | .inr (.inr _) => exact Or.inl rfl) with e | e <;> simp [e]
def qret (rk : Nat) (ret : Option FieldType) : Prop := (rk = 0 ∧ ret = none) ∨ (rk = 1 ∧ ret = some .int) ∨ (rk = 2 ∧ ret = some .long) ∨ (rk = 3 ∧ ∃ n, ret = some (.object n)) ∨ (rk = 4 ∧ ret = some .boolean) ∨ (rk = 5 ∧ ret = some .char) ∨ (rk = 6 ∧ ret = some .byte)
set_option maxHeartbeats 2000000 in
theorem qMet.of {L : Nat} {xs : Nat → Int32} {y : MethodName} {cc : ByteArray} {nL : Nat} {ret : Option FieldType} {rk d : Nat} {as : List qV} {h : qH} {x : Option (Int × qH)} (hy : plainName y.cls = true) (hr : qret rk ret) (hn : (as.map qcat).sum ≤ nL) (k : qS L xs cc y.cls nL d rk 0 (qargs 0 as) [] h x) : qMet L xs y cc nL ret rk d as h x := by
  intro r h' hx
  refine ⟨(k r h' hx).1, ?_⟩
  have hMM := (k r h' hx).1
  intro l D aC A ad
  refine Met.ofW (cc := cc) (maxL := nL) (ret := ret) hy rfl ?_
  intro p e s m args below meth c s₁ B hml hv
  obtain ⟨rfl, hG, hHk, hak, hRep⟩ := hv
  have hl := lv_entry (as.map (q2 ad)) (n := nL) (by rw [qsum_ok]; exact hn)
  rw [lg_entry_eq]
  generalize (lg_sl (as.map (q2 ad)) ++ List.replicate (nL - (lg_sl (as.map (q2 ad))).length) Slot.unset).toArray = ls at hl ⊢
  rw [qargs_ok] at hl
  have hpp := hMM.p
  have hps := hMM.s
  refine (k r h' hx).2 p l e _ s m _ below meth c s.heap [] 0 0 _ D aC A ad (qp h) (qs h) ls h ad ⟨⟨B.exec, B.bytes, hml, findClass_of_methodNamed B.named⟩, ⟨Nat.le_refl _, Nat.le_refl _⟩, hG, ⟨hl, qargs_k as 0 hak, fun _ hv => by cases hv⟩, hHk, ⟨hRep, va_S.rf⟩, ⟨Nat.zero_add _, Nat.zero_add _⟩, ⟨qM.rf, fun _ _ => rfl⟩⟩ (by show qp h ≤ (qp h - qp h') + qp h'; omega) (by show qs h ≤ (qs h - qs h') + qs h'; omega) ?_
  intro ad' H' locs' cells' slots' pc' ls' g1 g2 g3 g4 g5 g6 g7 g8
  have e6 : cells' = qp h - qp h' := by omega
  have e7 : slots' = qs h - qs h' := by omega
  subst e6
  subst e7
  have hlocks := B.notSynchronized
  have hrt := B.returns
  have hq : ∀ t : State, t.heap = H' → s.WarmedH t.vm → (∃ ad'' : Nat → Nat, (Outcome.returned (qrv rk ad' r)) = .returned (qrv rk ad'' r) ∧ (∀ i, qlv h i → ad'' i = ad i) ∧ qHk h' ∧ qrk rk h' r ∧ qRep D aC A ad'' h' t.heap) ∧ va_F A s t := fun t ht _ => ⟨⟨ad', rfl, g1.2, g2, g3, by rw [ht]; exact g4⟩, g5.F ht⟩
  rcases hr with ⟨rfl, rfl⟩ | ⟨rfl, rfl⟩ | ⟨rfl, rfl⟩ | ⟨rfl, n, rfl⟩ | ⟨rfl, rfl⟩ | ⟨rfl, rfl⟩ | ⟨rfl, rfl⟩
  · exact W.vret B.exec B.bytes hrt hq g5.2.2 g8
  · exact W.iret B.exec B.bytes hrt hq g5.2.2 g8
  · exact W.lret B.exec B.bytes hrt hq g5.2.2 g8
  · exact W.aret B.exec B.bytes hrt (Or.inl ⟨n, rfl⟩) (Or.inr ⟨_, rfl⟩) hq g5.2.2 g8
  · refine W.zret B.exec B.bytes hrt ?_ hq g5.2.2 g8
    rcases (show r = 0 ∨ r = 1 from g3) with rfl | rfl <;> decide
  · refine W.zret B.exec B.bytes hrt ?_ hq g5.2.2 g8
    have g3 : 0 ≤ r ∧ r < 65536 := g3
    have e1 : Int32.ofInt r = nI r.toNat := by
      rw [← Int32.toInt_inj, q32_i ⟨by omega, by omega⟩, nI_toInt (by omega)]; omega
    rw [e1]
    exact (pk_charN (by omega)).1
  · refine W.zret B.exec B.bytes hrt ?_ hq g5.2.2 g8
    have g3 : -128 ≤ r ∧ r < 128 := g3
    show Value.int (Int32.ofInt r).toInt8.toInt32 = _
    congr 1
    rw [← Int32.toInt_inj, Int8.toInt_toInt32, Int32.toInt_toInt8, q32_i ⟨by omega, by omega⟩]
    have := Int.bmod_eq_of_le (n := r) (m := 256) (by omega) (by omega)
    exact this
set_option maxHeartbeats 2000000 in
theorem qMet.ofF {L : Nat} {xs : Nat → Int32} {y : MethodName} {cc : ByteArray} {nL : Nat} {ret : Option FieldType} {rk d : Nat} {as : List qV} {h : qH} {x : Option (Int × qH)} (hy : plainFor y = true) (hr : qret rk ret) (hn : (as.map qcat).sum ≤ nL) (k : qS L xs cc y.cls nL d rk 0 (qargs 0 as) [] h x) : qMet L xs y cc nL ret rk d as h x := by
  intro r h' hx
  refine ⟨(k r h' hx).1, ?_⟩
  have hMM := (k r h' hx).1
  intro l D aC A ad
  refine va_MetF (cc := cc) (maxL := nL) (ret := ret) hy rfl ?_
  intro p e s m args below meth c s₁ B hml hv
  obtain ⟨rfl, hG, hHk, hak, hRep⟩ := hv
  have hl := lv_entry (as.map (q2 ad)) (n := nL) (by rw [qsum_ok]; exact hn)
  rw [lg_entry_eq]
  generalize (lg_sl (as.map (q2 ad)) ++ List.replicate (nL - (lg_sl (as.map (q2 ad))).length) Slot.unset).toArray = ls at hl ⊢
  rw [qargs_ok] at hl
  have hpp := hMM.p
  have hps := hMM.s
  refine (k r h' hx).2 p l e _ s m _ below meth c s.heap [] 0 0 _ D aC A ad (qp h) (qs h) ls h ad ⟨⟨B.exec, B.bytes, hml, findClass_of_methodNamed B.named⟩, ⟨Nat.le_refl _, Nat.le_refl _⟩, hG, ⟨hl, qargs_k as 0 hak, fun _ hv => by cases hv⟩, hHk, ⟨hRep, va_S.rf⟩, ⟨Nat.zero_add _, Nat.zero_add _⟩, ⟨qM.rf, fun _ _ => rfl⟩⟩ (by show qp h ≤ (qp h - qp h') + qp h'; omega) (by show qs h ≤ (qs h - qs h') + qs h'; omega) ?_
  intro ad' H' locs' cells' slots' pc' ls' g1 g2 g3 g4 g5 g6 g7 g8
  have e6 : cells' = qp h - qp h' := by omega
  have e7 : slots' = qs h - qs h' := by omega
  subst e6
  subst e7
  have hlocks := B.notSynchronized
  have hrt := B.returns
  have hq : ∀ t : State, t.heap = H' → s.WarmedH t.vm → (∃ ad'' : Nat → Nat, (Outcome.returned (qrv rk ad' r)) = .returned (qrv rk ad'' r) ∧ (∀ i, qlv h i → ad'' i = ad i) ∧ qHk h' ∧ qrk rk h' r ∧ qRep D aC A ad'' h' t.heap) ∧ va_F A s t := fun t ht _ => ⟨⟨ad', rfl, g1.2, g2, g3, by rw [ht]; exact g4⟩, g5.F ht⟩
  rcases hr with ⟨rfl, rfl⟩ | ⟨rfl, rfl⟩ | ⟨rfl, rfl⟩ | ⟨rfl, n, rfl⟩ | ⟨rfl, rfl⟩ | ⟨rfl, rfl⟩ | ⟨rfl, rfl⟩
  · exact W.vret B.exec B.bytes hrt hq g5.2.2 g8
  · exact W.iret B.exec B.bytes hrt hq g5.2.2 g8
  · exact W.lret B.exec B.bytes hrt hq g5.2.2 g8
  · exact W.aret B.exec B.bytes hrt (Or.inl ⟨n, rfl⟩) (Or.inr ⟨_, rfl⟩) hq g5.2.2 g8
  · refine W.zret B.exec B.bytes hrt ?_ hq g5.2.2 g8
    rcases (show r = 0 ∨ r = 1 from g3) with rfl | rfl <;> decide
  · refine W.zret B.exec B.bytes hrt ?_ hq g5.2.2 g8
    have g3 : 0 ≤ r ∧ r < 65536 := g3
    have e1 : Int32.ofInt r = nI r.toNat := by
      rw [← Int32.toInt_inj, q32_i ⟨by omega, by omega⟩, nI_toInt (by omega)]; omega
    rw [e1]
    exact (pk_charN (by omega)).1
  · refine W.zret B.exec B.bytes hrt ?_ hq g5.2.2 g8
    have g3 : -128 ≤ r ∧ r < 128 := g3
    show Value.int (Int32.ofInt r).toInt8.toInt32 = _
    congr 1
    rw [← Int32.toInt_inj, Int8.toInt_toInt32, Int32.toInt_toInt8, q32_i ⟨by omega, by omega⟩]
    have := Int.bmod_eq_of_le (n := r) (m := 256) (by omega) (by omega)
    exact this
/-- what is pushed behind a call -/
def qpu (rk : Nat) (r : Int) : List qV := if rk = 0 then [] else if rk = 2 then [ql r] else if rk = 3 then [qr r.toNat] else [qi r]
theorem qpu_ok (rk : Nat) (ad : Nat → Nat) (r : Int) : (qrv rk ad r).toList = (qpu rk r).map (q2 ad) := by
  unfold qrv qpu
  split
  · rfl
  · split
    · rfl
    · split <;> rfl
theorem qpu_k {rk : Nat} {h : qH} {r : Int} (g : qrk rk h r) : ∀ v ∈ qpu rk r, qk h v := by
  unfold qrk at g
  unfold qpu
  intro v hv
  split at hv
  · cases hv
  · next n0 =>
    rw [if_neg n0] at g
    split at hv
    · next n2 =>
      rw [if_pos n2] at g
      rcases List.mem_singleton.mp hv with rfl
      exact g
    · next n2 =>
      rw [if_neg n2] at g
      split at hv
      · next n3 =>
        rw [if_pos n3] at g
        rcases List.mem_singleton.mp hv with rfl
        exact g
      · next n3 =>
        rw [if_neg n3] at g
        rcases List.mem_singleton.mp hv with rfl
        show q32 r
        unfold q32
        split at g
        · omega
        · split at g
          · omega
          · split at g
            · omega
            · exact g
