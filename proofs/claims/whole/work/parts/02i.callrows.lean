/-! ===== the rows of calls ===== -/
theorem q_behind {p : Program} {l : Launch} {e : Env} {R : Room} {s : State} {m : MethodId} {args : Array Value} {below : List Frame} {meth : Method} {c : Code} {H : Heap} {locs : List Loc} {cells slots mc ms pc rk' : Nat} {Q : State → Prop} {D : va_G} {aC : Nat → ClassId} {A : Nat → Prop} {ad : Nat → Nat} {ls : Array Slot} {st0 rest : List Value} {h h1 : qH} {r1 : Int}
    (hr : va_Run p l e R s m args below meth c H locs cells slots mc ms (F0 m pc ls st0) rest (fun st oc t => (∃ ad' : Nat → Nat, oc = .returned (qrv rk' ad' r1) ∧ (∀ i, qlv h i → ad' i = ad i) ∧ qHk h1 ∧ qrk rk' h1 r1 ∧ qRep D aC A ad' h1 t.heap) ∧ va_F A st t) A) (hS : va_S A s.heap H locs)
    (kk : ∀ (ad' : Nat → Nat) (H1 : Heap) (locs1 : List Loc), (∀ i, qlv h i → ad' i = ad i) → qHk h1 → qrk rk' h1 r1 → qRep D aC A ad' h1 H1 → va_S A s.heap H1 locs1 → W p l e R s m args below meth c H1 locs1 (cells + mc) (slots + ms) Q (F0 m (pc + 3) ls ((qpu rk' r1).map (q2 ad') ++ rest))) : W p l e R s m args below meth c H locs cells slots Q (F0 m pc ls st0) := by
  intro T hT X
  obtain ⟨v, st₀, t, T', L, h0, X', hL, e1, e2, ⟨⟨ad', hv, g1, g2, g3, g4⟩, hz, hk⟩, st⟩ := hr T hT X
  cases hv
  rw [h0] at hz hk
  obtain ⟨t2, a1, b1⟩ := kk ad' T'.heap (locs ++ L) g1 g2 g3 (by rw [e1]; exact g4)
    ⟨Nat.le_trans hS.1 (by rw [e1]; exact hz), fun q h1 h2 => by rw [e1, hk q (Nat.lt_of_lt_of_le h1 hS.1) h2]; exact hS.2.1 q h1 h2, fun q hq => by
      rcases List.mem_append.mp hq with h | h
      · exact hS.2.2 q h
      · exact hL q h⟩ T' rfl X'
  rw [← qpu_ok] at a1
  exact ⟨t2, st t2 a1, b1⟩
/-- a method that is called upon an object, its words and its shape -/
def qYV (y : MethodName) (C : String) (bytes : ByteArray) (maxL : Nat) (ret : Option FieldType) (n : Nat) : Prop := y.cls = C ∧ Cond.instanceMethod y ∈ lw_tbl ∧ Cond.selects C y y ∈ lw_tbl ∧ Cond.initialized C ∈ lw_tbl ∧ Cond.code y bytes maxL ret ∈ lw_tbl ∧ maxL ≤ 21 ∧ (y.cls ≠ "java/lang/invoke/MethodHandle" ∧ y.cls ≠ "java/lang/invoke/VarHandle") ∧ (parseMethodDescriptor y.desc).map (fun d => d.parameters.length) = some n
def qYS (y : MethodName) (bytes : ByteArray) (maxL : Nat) (ret : Option FieldType) (n : Nat) : Prop := Cond.static y ∈ lw_tbl ∧ Cond.initialized y.cls ∈ lw_tbl ∧ Cond.code y bytes maxL ret ∈ lw_tbl ∧ maxL ≤ 21 ∧ (y.cls ≠ "java/lang/invoke/MethodHandle" ∧ y.cls ≠ "java/lang/invoke/VarHandle") ∧ (parseMethodDescriptor y.desc).map (fun d => d.parameters.length) = some n
section qcalls
variable {L : Nat} {xs : Nat → Int32} {cc : ByteArray} {own : String} {nL d rk pc pc' : Nat} {lv lv' : List (Nat × qV)} {st stk : List qV} {h : qH}
theorem q_blind {L : Nat} {xs : Nat → Int32} {D : va_G} {aC : Nat → ClassId} {A : Nat → Prop} {ad : Nat → Nat} {h : qH} {as : List qV} {av : List Value} : FrameBlind (va_Pc av (fun U => qG L xs D aC A ad U U.heap ∧ qHk h ∧ (∀ v ∈ as, qk h v) ∧ qRep D aC A ad h U.heap)) := by
  intro a U g mk q
  obtain ⟨q0, q1, q2, q3, q4⟩ := q
  exact ⟨q0, q1.same (U := U) (V := U.calling g mk a) rfl, q2, q3, q4⟩
/-- the frame of the four kinds of call -/
theorem q_call {y : MethodName} {bytes : ByteArray} {maxL : Nat} {ret : Option FieldType} {rk' d' n : Nat} {as : List qV} {X : Option (Int × qH)} {K : Int → qH → Option (Int × qH)} (hM : qMet L xs y bytes maxL ret rk' d' as h X) (hdd : d' + 1 ≤ d) (hp : pc + 3 = pc')
    (hst : ∃ pre : List qV, stk = pre ++ st ∧ ∀ v ∈ as, v ∈ pre)
    (hrun : ∀ (r1 : Int) (h1 : qH), X = some (r1, h1) → ∀ (p : Program) (l : Launch) (e : Env) (R : Room) (s : State) (m : MethodId) (args : Array Value) (below : List Frame) (meth : Method) (c : Code) (H : Heap) (locs : List Loc) (cells slots : Nat) (D : va_G) (aC : Nat → ClassId) (A : Nat → Prop) (ad : Nat → Nat) (ls : Array Slot),
      (p.tables.exec = Jvm.exec ∧ c.code = cc ∧ c.maxLocals = nL ∧ s.vm.findClass own = some m.cls) → d ≤ R.frames → 40 * d ≤ R.locals → qG L xs D aC A ad s s.heap → qRep D aC A ad h H → va_S A s.heap H locs → ls.size = nL → cells + (qp h - qp h1) ≤ R.cells → slots + (qs h - qs h1) ≤ R.slots →
      (∀ v ∈ as, qk h v) → (∀ U : State, U.heap = H → s.WarmedH U.vm → qG L xs D aC A ad U U.heap) → qHk h →
      va_Run p l e R s m args below meth c H locs cells slots (qp h - qp h1) (qs h - qs h1) (F0 m pc ls (stk.map (q2 ad))) (st.map (q2 ad)) (fun st oc t => (∃ ad' : Nat → Nat, oc = .returned (qrv rk' ad' r1) ∧ (∀ i, qlv h i → ad' i = ad i) ∧ qHk h1 ∧ qrk rk' h1 r1 ∧ qRep D aC A ad' h1 t.heap) ∧ va_F A st t) A)
    (k : ∀ (r1 : Int) (h1 : qH), X = some (r1, h1) → qS L xs cc own nL d rk pc' lv (qpu rk' r1 ++ st) h1 (K r1 h1)) : qS L xs cc own nL d rk pc lv stk h (qbd X K) := by
  intro r h' hx
  cases hX : X with
  | none => rw [hX] at hx; cases hx
  | some q =>
    obtain ⟨r1, h1⟩ := q
    rw [hX] at hx
    have hx : K r1 h1 = some (r, h') := hx
    have hM1 := (hM r1 h1 hX).1
    have hM2 := (k r1 h1 hX r h' hx).1
    refine ⟨hM1.tr hM2, ?_⟩
    intro p l e R s m args below meth c H locs cells slots Q D aC A ad Kc Ks ls hE adE B hRc hRs hret
    obtain ⟨hii, hRm, hG, ⟨hl, hlk, hsk⟩, hHk, hRep, hcs, hag⟩ := B
    subst hp
    have p1 := hM1.p
    have p2 := hM2.p
    have s1 := hM1.s
    have s2 := hM2.s
    obtain ⟨pre, hpre, hmem⟩ := hst
    have hstk : ∀ v ∈ st, qk h v := fun v hv => hsk v (by rw [hpre]; exact List.mem_append_right _ hv)
    have hask : ∀ v ∈ as, qk h v := fun v hv => hsk v (by rw [hpre]; exact List.mem_append_left _ (hmem v hv))
    refine q_behind (hrun r1 h1 hX p l e R s m args below meth c H locs cells slots D aC A ad ls hii hRm.1 hRm.2 hG hRep.1 hRep.2 hl.1 (by omega) (by omega) hask (fun U hU hW => by rw [hU]; exact hG.go hW hRep.2.1 hRep.2.2.1 (fun _ _ => rfl)) hHk) hRep.2 (fun ad' H1 locs1 g1 g2 g3 g4 g5 => ?_)
    have e1 : lv.map (fun q => (q.1, q2 ad q.2)) = lv.map (fun q => (q.1, q2 ad' q.2)) := List.map_congr_left (fun q hq => by rw [q2_ag g1 (hlk q hq)])
    have e2 : st.map (q2 ad) = st.map (q2 ad') := List.map_congr_left (fun v hv => (q2_ag g1 (hstk v hv)).symm)
    rw [e2, ← List.map_append]
    rw [e1] at hl
    exact (k r1 h1 hX r h' hx).2 p l e R s m args below meth c H1 locs1 _ _ Q D aC A ad' Kc Ks ls hE adE ⟨hii, hRm, hG.go (State.WarmedH.refl s) (Nat.le_refl _) (fun _ _ _ => rfl) (fun i hi => g1 i (Or.inr (Or.inl hi))), ⟨hl, fun q hq => hM1.k (hlk q hq), fun v hv => by
      rcases List.mem_append.mp hv with hv | hv
      · exact qpu_k g3 v hv
      · exact hM1.k (hstk v hv)⟩, g2, ⟨g4, g5⟩, ⟨by omega, by omega⟩, ⟨hag.1.tr hM1, fun i hi => (g1 i (hag.1.lv hi)).trans (hag.2 i hi)⟩⟩ hRc hRs hret
theorem q_sum (ad : Nat → Nat) (st : List qV) : ((st.map (q2 ad)).map fun v => v.category).sum = (st.map qcat).sum := by
  rw [List.map_map]
  congr 1
  exact List.map_congr_left (fun v _ => qcat_ok ad v)
theorem S_callV {y : MethodName} {C : String} {bytes : ByteArray} {maxL index i ci N : Nat} {T : u_T} {ty : Nat → FieldType} {ret : Option FieldType} {rk' d' n : Nat} {as : List qV} {X : Option (Int × qH)} {K : Int → qH → Option (Int × qH)} (hM : qMet L xs y bytes maxL ret rk' d' (qr i :: as) h X) (hY : qYV y C bytes maxL ret n) (hw : Cond.methodLink own index y ∈ lw_tbl) (hC : qCl ci C T N ty) (hi : qK i = (ci, N)) (hdd : d' + 1 ≤ d) (hn : as.length = n) (hst : as.reverse ++ qr i :: st = stk) (hcat : (st.map qcat).sum ≤ 8) (hd : decode cc pc = .ok (.invokevirtual index, 3)) (hp : pc + 3 = pc')
    (k : ∀ (r1 : Int) (h1 : qH), X = some (r1, h1) → qS L xs cc own nL d rk pc' lv (qpu rk' r1 ++ st) h1 (K r1 h1)) : qS L xs cc own nL d rk pc lv stk h (qbd X K) := by
  refine q_call (n := n) hM hdd hp ⟨as.reverse ++ [qr i], by rw [← hst]; simp, fun v hv => by
    rcases List.mem_cons.mp hv with rfl | hv
    · simp
    · simp [hv]⟩ ?_ k
  intro r1 h1 hX p l e R s m args below meth c H locs cells slots D aC A ad ls hii hR1 hR2 hG hRep hS hls hc1 hc2 hask hGU hHk
  obtain ⟨y1, y2, y3, y4, y5, y6, y7, y8⟩ := hY
  obtain ⟨c1, c2, c3, c4, c5⟩ := hC
  have hlt : i < 225 := qK_lt (by rw [hi]; exact c2)
  obtain ⟨z, hz, -⟩ := qWl_at (ad := ad) (f := qent aC ad h) (qids_nodup h) (qids_mem.mpr (Or.inl hlt))
  rw [qent_obj hi c2] at hz
  have use : ∀ w ∈ lw_tbl, qgw w = true → w.before args s = true := fun w hw hg => qNw_use hg (hG.1 w hw hg)
  refine va_runV (As := as.map (q2 ad)) (b := ad i) (C := C) (Ts := []) (n := n) (cc := cc) (nL := nL) ⟨hii.1, hii.2.1, hii.2.2.1, hii.2.2.2, fun _ h => by cases h⟩ ((hM r1 h1 hX).2 l D aC A ad) ⟨⟨rfl, rfl, by show d' + 1 ≤ R.frames; omega, by show 8 + (maxL + 11) + 40 * d' ≤ R.locals; omega, fun w hw a' U hW => ?_, List.mem_singleton.mpr rfl, use _ y5 rfl, by rw [y1]; exact use _ y4 rfl, y7, fun sig hsig => ?_, use _ hw rfl⟩, use _ y2 rfl, use _ y3 rfl⟩ ⟨q_blind, va_recv hG.2.1 hRep.1 c1 hz, fun U hU hW => ⟨rfl, hGU U hU hW, hHk, hask, by rw [hU]; exact hRep⟩⟩ rfl (by rw [List.length_map]; exact hn) hls (by rw [← hst]; simp [q2]) (lv_room (by rw [q_sum]; exact hcat)) hd ⟨hc1, hc2⟩
  · rcases List.mem_singleton.mp hw with rfl
    exact word_at hW (Or.inl rfl) (hG.1 _ y5 rfl)
  · rw [hsig] at y8
    exact (Option.some.inj y8).symm
theorem S_callVN {y : MethodName} {C host : String} {bytes : ByteArray} {maxL index i ci N : Nat} {T : u_T} {ty : Nat → FieldType} {ret : Option FieldType} {rk' d' n : Nat} {as : List qV} {X : Option (Int × qH)} {K : Int → qH → Option (Int × qH)} (hM : qMet L xs y bytes maxL ret rk' d' (qr i :: as) h X) (hY : qYV y C bytes maxL ret n) (hw : Cond.methodLinkNest own index y host ∈ lw_tbl) (hC : qCl ci C T N ty) (hi : qK i = (ci, N)) (hdd : d' + 1 ≤ d) (hn : as.length = n) (hst : as.reverse ++ qr i :: st = stk) (hcat : (st.map qcat).sum ≤ 8) (hd : decode cc pc = .ok (.invokevirtual index, 3)) (hp : pc + 3 = pc')
    (k : ∀ (r1 : Int) (h1 : qH), X = some (r1, h1) → qS L xs cc own nL d rk pc' lv (qpu rk' r1 ++ st) h1 (K r1 h1)) : qS L xs cc own nL d rk pc lv stk h (qbd X K) := by
  refine q_call (n := n) hM hdd hp ⟨as.reverse ++ [qr i], by rw [← hst]; simp, fun v hv => by
    rcases List.mem_cons.mp hv with rfl | hv
    · simp
    · simp [hv]⟩ ?_ k
  intro r1 h1 hX p l e R s m args below meth c H locs cells slots D aC A ad ls hii hR1 hR2 hG hRep hS hls hc1 hc2 hask hGU hHk
  obtain ⟨y1, y2, y3, y4, y5, y6, y7, y8⟩ := hY
  obtain ⟨c1, c2, c3, c4, c5⟩ := hC
  have hlt : i < 225 := qK_lt (by rw [hi]; exact c2)
  obtain ⟨z, hz, -⟩ := qWl_at (ad := ad) (f := qent aC ad h) (qids_nodup h) (qids_mem.mpr (Or.inl hlt))
  rw [qent_obj hi c2] at hz
  have use : ∀ w ∈ lw_tbl, qgw w = true → w.before args s = true := fun w hw hg => qNw_use hg (hG.1 w hw hg)
  refine va_runVN (As := as.map (q2 ad)) (b := ad i) (C := C) (Ts := []) (n := n) (cc := cc) (nL := nL) ⟨hii.1, hii.2.1, hii.2.2.1, hii.2.2.2, fun _ h => by cases h⟩ ((hM r1 h1 hX).2 l D aC A ad) ⟨⟨⟨rfl, rfl, by show d' + 1 ≤ R.frames; omega, by show 8 + (maxL + 11) + 40 * d' ≤ R.locals; omega, fun w hw a' U hW => ?_, List.mem_singleton.mpr rfl⟩, use _ y5 rfl, by rw [y1]; exact use _ y4 rfl, y7, fun sig hsig => ?_, use _ hw rfl⟩, use _ y2 rfl, use _ y3 rfl⟩ ⟨q_blind, va_recv hG.2.1 hRep.1 c1 hz, fun U hU hW => ⟨rfl, hGU U hU hW, hHk, hask, by rw [hU]; exact hRep⟩⟩ rfl (by rw [List.length_map]; exact hn) hls (by rw [← hst]; simp [q2]) (lv_room (by rw [q_sum]; exact hcat)) hd ⟨hc1, hc2⟩
  · rcases List.mem_singleton.mp hw with rfl
    exact word_at hW (Or.inl rfl) (hG.1 _ y5 rfl)
  · rw [hsig] at y8
    exact (Option.some.inj y8).symm
theorem S_callS {y : MethodName} {bytes : ByteArray} {maxL index : Nat} {ret : Option FieldType} {rk' d' n : Nat} {as : List qV} {X : Option (Int × qH)} {K : Int → qH → Option (Int × qH)} (hM : qMet L xs y bytes maxL ret rk' d' as h X) (hY : qYS y bytes maxL ret n) (hw : Cond.methodLink own index y ∈ lw_tbl) (hdd : d' + 1 ≤ d) (hn : as.length = n) (hst : as.reverse ++ st = stk) (hcat : (st.map qcat).sum ≤ 8) (hd : decode cc pc = .ok (.invokestatic index, 3)) (hp : pc + 3 = pc')
    (k : ∀ (r1 : Int) (h1 : qH), X = some (r1, h1) → qS L xs cc own nL d rk pc' lv (qpu rk' r1 ++ st) h1 (K r1 h1)) : qS L xs cc own nL d rk pc lv stk h (qbd X K) := by
  refine q_call (n := n) hM hdd hp ⟨as.reverse, by rw [← hst], fun v hv => by simp [hv]⟩ ?_ k
  intro r1 h1 hX p l e R s m args below meth c H locs cells slots D aC A ad ls hii hR1 hR2 hG hRep hS hls hc1 hc2 hask hGU hHk
  obtain ⟨y3, y4, y5, y6, y7, y8⟩ := hY
  have use : ∀ w ∈ lw_tbl, qgw w = true → w.before args s = true := fun w hw hg => qNw_use hg (hG.1 w hw hg)
  refine va_runS (As := as.map (q2 ad)) (Ts := []) (n := n) (cc := cc) (nL := nL) ⟨hii.1, hii.2.1, hii.2.2.1, hii.2.2.2, fun _ h => by cases h⟩ ((hM r1 h1 hX).2 l D aC A ad) ⟨⟨rfl, rfl, by show d' + 1 ≤ R.frames; omega, by show 8 + (maxL + 11) + 40 * d' ≤ R.locals; omega, fun w hw a' U hW => ?_, List.mem_singleton.mpr rfl, use _ y5 rfl, use _ y4 rfl, y7, fun sig hsig => ?_, use _ hw rfl⟩, use _ y3 rfl⟩ ⟨q_blind, fun U hU hW => ⟨rfl, hGU U hU hW, hHk, hask, by rw [hU]; exact hRep⟩⟩ rfl (by rw [List.length_map]; exact hn) hls (by rw [← hst]; simp) (lv_room (by rw [q_sum]; exact hcat)) hd ⟨hc1, hc2⟩
  · rcases List.mem_singleton.mp hw with rfl
    exact word_at hW (Or.inl rfl) (hG.1 _ y5 rfl)
  · rw [hsig] at y8
    exact (Option.some.inj y8).symm
/-- upon a text -/
theorem S_callT {y : MethodName} {bytes : ByteArray} {maxL index t : Nat} {ret : Option FieldType} {rk' d' n : Nat} {as : List qV} {X : Option (Int × qH)} {K : Int → qH → Option (Int × qH)} (hM : qMet L xs y bytes maxL ret rk' d' (qr (300 + 2 * t) :: as) h X) (hY : qYV y "java/lang/String" bytes maxL ret n) (hw : Cond.methodLink own index y ∈ lw_tbl) (ht : t < 31) (hdd : d' + 1 ≤ d) (hn : as.length = n) (hst : as.reverse ++ qr (300 + 2 * t) :: st = stk) (hcat : (st.map qcat).sum ≤ 8) (hd : decode cc pc = .ok (.invokevirtual index, 3)) (hp : pc + 3 = pc')
    (k : ∀ (r1 : Int) (h1 : qH), X = some (r1, h1) → qS L xs cc own nL d rk pc' lv (qpu rk' r1 ++ st) h1 (K r1 h1)) : qS L xs cc own nL d rk pc lv stk h (qbd X K) := by
  refine q_call (n := n) hM hdd hp ⟨as.reverse ++ [qr (300 + 2 * t)], by rw [← hst]; simp, fun v hv => by
    rcases List.mem_cons.mp hv with rfl | hv
    · simp
    · simp [hv]⟩ ?_ k
  intro r1 h1 hX p l e R s m args below meth c H locs cells slots D aC A ad ls hii hR1 hR2 hG hRep hS hls hc1 hc2 hask hGU hHk
  obtain ⟨y1, y2, y3, y4, y5, y6, y7, y8⟩ := hY
  have use : ∀ w ∈ lw_tbl, qgw w = true → w.before args s = true := fun w hw hg => qNw_use hg (hG.1 w hw hg)
  refine va_runV (As := as.map (q2 ad)) (b := ad (300 + 2 * t)) (C := "java/lang/String") (Ts := []) (n := n) (cc := cc) (nL := nL) ⟨hii.1, hii.2.1, hii.2.2.1, hii.2.2.2, fun _ h => by cases h⟩ ((hM r1 h1 hX).2 l D aC A ad) ⟨⟨rfl, rfl, by show d' + 1 ≤ R.frames; omega, by show 8 + (maxL + 11) + 40 * d' ≤ R.locals; omega, fun w hw a' U hW => ?_, List.mem_singleton.mpr rfl, use _ y5 rfl, by rw [y1]; exact use _ y4 rfl, y7, fun sig hsig => ?_, use _ hw rfl⟩, use _ y2 rfl, use _ y3 rfl⟩ ⟨q_blind, vk_recv (hG.2.2.2.2.1 t ht).2 (i := 0) (by decide) hS, fun U hU hW => ⟨rfl, hGU U hU hW, hHk, hask, by rw [hU]; exact hRep⟩⟩ rfl (by rw [List.length_map]; exact hn) hls (by rw [← hst]; simp [q2]) (lv_room (by rw [q_sum]; exact hcat)) hd ⟨hc1, hc2⟩
  · rcases List.mem_singleton.mp hw with rfl
    exact word_at hW (Or.inl rfl) (hG.1 _ y5 rfl)
  · rw [hsig] at y8
    exact (Option.some.inj y8).symm
end qcalls
