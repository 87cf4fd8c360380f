def zbd (x : Option (Int × zH)) (f : Int → zH → Option (Int × zH)) : Option (Int × zH) := match x with
  | none => none
  | some q => f q.1 q.2
def zlt {α : Type} (e : α) (f : α → Option (Int × zH)) : Option (Int × zH) := f e
section zmore
variable {y0 : String} {L : Nat} {xs : Nat → Int32} {cc : ByteArray} {own : String} {nL d rk pc pc' : Nat} {lv lv' : List (Nat × qV)} {st : List qV} {h : zH} {x y : Option (Int × zH)}
theorem Z_none : zS y0 L xs cc own nL d rk pc lv st h none := fun _ _ hx => by cases hx
theorem Z_ite {c : Prop} [Decidable c] (kt : c → zS y0 L xs cc own nL d rk pc lv st h x) (kf : ¬ c → zS y0 L xs cc own nL d rk pc lv st h y) : zS y0 L xs cc own nL d rk pc lv st h (if c then x else y) := by
  by_cases hc : c
  · rw [if_pos hc]; exact kt hc
  · rw [if_neg hc]; exact kf hc
theorem Z_end (hrk : ¬ rk = 99) {vs : List qV} {r0 : Int} (hd : decode cc pc = .ok (qri rk, 1)) (hv : ∀ ad : Nat → Nat, vs.map (q2 ad) = qrs rk ad r0) (hk : (∀ v ∈ vs, zk h v) → zrk rk h r0) : zS y0 L xs cc own nL d rk pc lv vs h (some (r0, h)) := by
  intro r h' hx
  have e1 : r0 = r := congrArg Prod.fst (Option.some.inj hx)
  have e2 : h = h' := congrArg Prod.snd (Option.some.inj hx)
  subst e1
  subst e2
  refine ⟨zM.rf, ?_⟩
  intro p l e R s m args below meth c H locs cells slots Q D aC A ad Kc Ks ls hE adE B hRc hRs hret
  obtain ⟨hii, hRm, hG, ⟨hl, hlk, hsk⟩, hHk, hRep, hcs, hag⟩ := B
  exact hret ad H locs cells slots pc ls _ hag hHk (hk hsk) hRep.1 hRep.2 hcs.1 hcs.2 (by unfold zend; rw [if_neg hrk]; exact ⟨hd, hv ad⟩)
theorem Z_vret (hd : decode cc pc = .ok (.return_, 1)) : zS y0 L xs cc own nL d 0 pc lv [] h (some (0, h)) := Z_end (by decide) hd (fun _ => rfl) (fun _ => trivial)
theorem Z_pick_t (c : Prop) [Decidable c] (hc : c) (k : zS y0 L xs cc own nL d rk pc lv st h (if c then x else none)) : zS y0 L xs cc own nL d rk pc lv st h x := by
  rw [if_pos hc] at k
  exact k
theorem Z_pick_f (c : Prop) [Decidable c] (hc : ¬ c) (k : zS y0 L xs cc own nL d rk pc lv st h (if c then none else x)) : zS y0 L xs cc own nL d rk pc lv st h x := by
  rw [if_neg hc] at k
  exact k
theorem Z_lh {e : zH} {f : zH → Option (Int × zH)} (k : ∀ h1, zS y0 L xs cc own nL d rk pc lv st h1 (f h1)) : zS y0 L xs cc own nL d rk pc lv st e (zlt e f) := k e
theorem Z_stop : zS y0 L xs cc own nL d 99 18 [(3, qi 0), (2, qr 212), (1, qr 0), (0, qr 227)] [] h (some (0, h)) := by
  intro r h' hx
  have e1 : (0 : Int) = r := congrArg Prod.fst (Option.some.inj hx)
  have e2 : h = h' := congrArg Prod.snd (Option.some.inj hx)
  subst e1
  subst e2
  refine ⟨zM.rf, ?_⟩
  intro p l e R s m args below meth c H locs cells slots Q D aC A ad Kc Ks ls hE adE B hRc hRs hret
  obtain ⟨hii, hRm, hG, ⟨hl, hlk, hsk⟩, hHk, hRep, hcs, hag⟩ := B
  exact hret ad H locs cells slots 18 ls [] hag hHk (show q32 0 from by decide) hRep.1 hRep.2 hcs.1 hcs.2 (by unfold zend; rw [if_pos rfl]; exact ⟨rfl, rfl, hl⟩)
end zmore
/-- what a method does, as a computation: the contract -/
def zMet (L : Nat) (xs : Nat → Int32) (y : MethodName) (cc : ByteArray) (nL : Nat) (ret : Option FieldType) (rk d : Nat) (as : List qV) (h : zH) (x : Option (Int × zH)) : Prop :=
  ∀ (r : Int) (h' : zH), x = some (r, h') → zM h h' ∧ ∀ (l : Launch) (D : va_G) (aC : Nat → ClassId) (A : Nat → Prop) (ad : Nat → Nat),
    Met l y [Cond.code y cc nL ret] { frames := d, cells := zp h - zp h', slots := zs h - zs h', locals := 40 * d }
      (va_Pc (as.map (q2 ad)) (fun U => qG L xs D aC A ad U U.heap ∧ zAO U ∧ zHk h ∧ (∀ v ∈ as, zk h v) ∧ zRep D aC A ad h U.heap))
      (fun _ st oc t => (∃ ad' : Nat → Nat, oc = .returned (qrv rk ad' r) ∧ (∀ i, zlv h i → ad' i = ad i) ∧ zHk h' ∧ zrk rk h' r ∧ zRep D aC A ad' h' t.heap) ∧ va_F A st t)
      (zp h - zp h') (zs h - zs h') A
set_option maxHeartbeats 2000000 in
theorem zMet.of {y0 : String} {L : Nat} {xs : Nat → Int32} {y : MethodName} {cc : ByteArray} {nL : Nat} {ret : Option FieldType} {rk d : Nat} {as : List qV} {h : zH} {x : Option (Int × zH)} (hy : plainName y.cls = true) (hr : qret rk ret) (hn : (as.map qcat).sum ≤ nL) (hn0 : y.cls = y0 → y.name = "<init>") (k : zS y0 L xs cc y.cls nL d rk 0 (qargs 0 as) [] h x) : zMet L xs y cc nL ret rk d as h x := by
  intro r h' hx
  refine ⟨(k r h' hx).1, ?_⟩
  have hMM := (k r h' hx).1
  intro l D aC A ad
  refine Met.ofW (cc := cc) (maxL := nL) (ret := ret) hy rfl ?_
  intro p e s m args below meth c s₁ B hml hv
  obtain ⟨rfl, hG, hAO, hHk, hak, hRep⟩ := hv
  have hl := lv_entry (as.map (q2 ad)) (n := nL) (by rw [qsum_ok]; exact hn)
  rw [lg_entry_eq]
  generalize (lg_sl (as.map (q2 ad)) ++ List.replicate (nL - (lg_sl (as.map (q2 ad))).length) Slot.unset).toArray = ls at hl ⊢
  rw [qargs_ok] at hl
  have hpp := hMM.p
  have hps := hMM.s
  refine (k r h' hx).2 p l e _ s m _ below meth c s.heap [] 0 0 _ D aC A ad (zp h) (zs h) ls h ad ⟨⟨B.exec, B.bytes, hml, findClass_of_methodNamed B.named⟩, ⟨⟨Nat.le_refl _, Nat.le_refl _⟩, hAO, fun e => by rw [(name_of_methodNamed B.named B.method).1]; exact hn0 e⟩, hG, ⟨hl, zargs_k as 0 hak, fun _ hv => by cases hv⟩, hHk, ⟨hRep, va_S.rf⟩, ⟨Nat.zero_add _, Nat.zero_add _⟩, ⟨zM.rf, fun _ _ => rfl⟩⟩ (by show zp h ≤ (zp h - zp h') + zp h'; omega) (by show zs h ≤ (zs h - zs h') + zs h'; omega) ?_
  intro ad' H' locs' cells' slots' pc' ls' vs' g1 g2 g3 g4 g5 g6 g7 g8
  obtain ⟨g9, rfl⟩ : decode cc pc' = .ok (qri rk, 1) ∧ vs' = qrs rk ad' r := by
    unfold zend at g8
    rwa [if_neg (by rcases hr with ⟨rfl, _⟩ | ⟨rfl, _⟩ | ⟨rfl, _⟩ | ⟨rfl, _⟩ | ⟨rfl, _⟩ | ⟨rfl, _⟩ | ⟨rfl, _⟩ <;> decide)] at g8
  have e6 : cells' = zp h - zp h' := by omega
  have e7 : slots' = zs h - zs h' := by omega
  subst e6
  subst e7
  have hlocks := B.notSynchronized
  have hrt := B.returns
  have hq : ∀ t : State, t.heap = H' → s.WarmedH t.vm → (∃ ad'' : Nat → Nat, (Outcome.returned (qrv rk ad' r)) = .returned (qrv rk ad'' r) ∧ (∀ i, zlv h i → ad'' i = ad i) ∧ zHk h' ∧ zrk rk h' r ∧ zRep D aC A ad'' h' t.heap) ∧ va_F A s t := fun t ht _ => ⟨⟨ad', rfl, g1.2, g2, g3, by rw [ht]; exact g4⟩, g5.F ht⟩
  rcases hr with ⟨rfl, rfl⟩ | ⟨rfl, rfl⟩ | ⟨rfl, rfl⟩ | ⟨rfl, n, rfl⟩ | ⟨rfl, rfl⟩ | ⟨rfl, rfl⟩ | ⟨rfl, rfl⟩
  · exact W.vret B.exec B.bytes hrt hq g5.2.2 g9
  · exact W.iret B.exec B.bytes hrt hq g5.2.2 g9
  · exact W.lret B.exec B.bytes hrt hq g5.2.2 g9
  · exact W.aret B.exec B.bytes hrt (Or.inl ⟨n, rfl⟩) (Or.inr ⟨_, rfl⟩) hq g5.2.2 g9
  · refine W.zret B.exec B.bytes hrt ?_ hq g5.2.2 g9
    rcases (show r = 0 ∨ r = 1 from g3) with rfl | rfl <;> decide
  · refine W.zret B.exec B.bytes hrt ?_ hq g5.2.2 g9
    have g3 : 0 ≤ r ∧ r < 65536 := g3
    have e1 : Int32.ofInt r = nI r.toNat := by
      rw [← Int32.toInt_inj, q32_i ⟨by omega, by omega⟩, nI_toInt (by omega)]; omega
    rw [e1]
    exact (pk_charN (by omega)).1
  · refine W.zret B.exec B.bytes hrt ?_ hq g5.2.2 g9
    have g3 : -128 ≤ r ∧ r < 128 := g3
    show Value.int (Int32.ofInt r).toInt8.toInt32 = _
    congr 1
    rw [← Int32.toInt_inj, Int8.toInt_toInt32, Int32.toInt_toInt8, q32_i ⟨by omega, by omega⟩]
    have := Int.bmod_eq_of_le (n := r) (m := 256) (by omega) (by omega)
    exact this
theorem zpu_k {rk : Nat} {h : zH} {r : Int} (g : zrk rk h r) : ∀ v ∈ qpu rk r, zk h v := by
  unfold zrk at g
  unfold qpu
  intro v hv
  split at hv
  · cases hv
  · next n0 =>
    rw [if_neg n0] at g
    split at hv
    · next n2 =>
      rw [if_pos n2] at g
      rcases List.mem_singleton.mp hv with rfl
      exact g
    · next n2 =>
      rw [if_neg n2] at g
      split at hv
      · next n3 =>
        rw [if_pos n3] at g
        rcases List.mem_singleton.mp hv with rfl
        exact g
      · next n3 =>
        rw [if_neg n3] at g
        rcases List.mem_singleton.mp hv with rfl
        show q32 r
        unfold q32
        split at g
        · omega
        · split at g
          · omega
          · split at g
            · omega
            · exact g
theorem z_behind {p : Program} {l : Launch} {e : Env} {R : Room} {s : State} {m : MethodId} {args : Array Value} {below : List Frame} {meth : Method} {c : Code} {H : Heap} {locs : List Loc} {cells slots mc ms pc rk' : Nat} {Q : State → Prop} {D : va_G} {aC : Nat → ClassId} {A : Nat → Prop} {ad : Nat → Nat} {ls : Array Slot} {st0 rest : List Value} {h h1 : zH} {r1 : Int}
    (hr : va_Run p l e R s m args below meth c H locs cells slots mc ms (F0 m pc ls st0) rest (fun st oc t => (∃ ad' : Nat → Nat, oc = .returned (qrv rk' ad' r1) ∧ (∀ i, zlv h i → ad' i = ad i) ∧ zHk h1 ∧ zrk rk' h1 r1 ∧ zRep D aC A ad' h1 t.heap) ∧ va_F A st t) A) (hS : va_S A s.heap H locs)
    (kk : ∀ (ad' : Nat → Nat) (H1 : Heap) (locs1 : List Loc), (∀ i, zlv h i → ad' i = ad i) → zHk h1 → zrk rk' h1 r1 → zRep D aC A ad' h1 H1 → va_S A s.heap H1 locs1 → W p l e R s m args below meth c H1 locs1 (cells + mc) (slots + ms) Q (F0 m (pc + 3) ls ((qpu rk' r1).map (q2 ad') ++ rest))) : W p l e R s m args below meth c H locs cells slots Q (F0 m pc ls st0) := by
  intro T hT X
  obtain ⟨v, st₀, t, T', L, h0, X', hL, e1, e2, ⟨⟨ad', hv, g1, g2, g3, g4⟩, hz, hk⟩, st⟩ := hr T hT X
  cases hv
  rw [h0] at hz hk
  obtain ⟨t2, a1, b1⟩ := kk ad' T'.heap (locs ++ L) g1 g2 g3 (by rw [e1]; exact g4)
    ⟨Nat.le_trans hS.1 (by rw [e1]; exact hz), fun q h1 h2 => by rw [e1, hk q (Nat.lt_of_lt_of_le h1 hS.1) h2]; exact hS.2.1 q h1 h2, fun q hq => by
      rcases List.mem_append.mp hq with h | h
      · exact hS.2.2 q h
      · exact hL q h⟩ T' rfl X'
  rw [← qpu_ok] at a1
  exact ⟨t2, st t2 a1, b1⟩
theorem zAO_go {s U : State} (hW : s.WarmedH U.vm) (h : zAO s) : zAO U := ⟨h.1.moved hW.alike, h.2.1.moved hW.alike, h.2.2.1.moved hW.alike, h.2.2.2.moved hW.alike⟩
section zcalls
variable {y0 : String} {L : Nat} {xs : Nat → Int32} {cc : ByteArray} {own : String} {nL d rk pc pc' : Nat} {lv lv' : List (Nat × qV)} {st stk : List qV} {h : zH}
theorem z_blind {L : Nat} {xs : Nat → Int32} {D : va_G} {aC : Nat → ClassId} {A : Nat → Prop} {ad : Nat → Nat} {h : zH} {as : List qV} {av : List Value} : FrameBlind (va_Pc av (fun U => qG L xs D aC A ad U U.heap ∧ zAO U ∧ zHk h ∧ (∀ v ∈ as, zk h v) ∧ zRep D aC A ad h U.heap)) := by
  intro a U g mk q
  obtain ⟨q0, q1, q5, q2, q3, q4⟩ := q
  exact ⟨q0, q1.same (U := U) (V := U.calling g mk a) rfl, q5, q2, q3, q4⟩
/-- the frame of the four kinds of call -/
theorem z_call {y : MethodName} {bytes : ByteArray} {maxL : Nat} {ret : Option FieldType} {rk' d' n : Nat} {as : List qV} {X : Option (Int × zH)} {K : Int → zH → Option (Int × zH)} (hM : zMet L xs y bytes maxL ret rk' d' as h X) (hdd : d' + 1 ≤ d) (hp : pc + 3 = pc')
    (hst : ∃ pre : List qV, stk = pre ++ st ∧ ∀ v ∈ as, v ∈ pre)
    (hrun : ∀ (r1 : Int) (h1 : zH), X = some (r1, h1) → ∀ (p : Program) (l : Launch) (e : Env) (R : Room) (s : State) (m : MethodId) (args : Array Value) (below : List Frame) (meth : Method) (c : Code) (H : Heap) (locs : List Loc) (cells slots : Nat) (D : va_G) (aC : Nat → ClassId) (A : Nat → Prop) (ad : Nat → Nat) (ls : Array Slot),
      (p.tables.exec = Jvm.exec ∧ c.code = cc ∧ c.maxLocals = nL ∧ s.vm.findClass own = some m.cls) → d ≤ R.frames → 40 * d ≤ R.locals → qG L xs D aC A ad s s.heap → zRep D aC A ad h H → va_S A s.heap H locs → ls.size = nL → cells + (zp h - zp h1) ≤ R.cells → slots + (zs h - zs h1) ≤ R.slots →
      (∀ v ∈ as, zk h v) → (∀ U : State, U.heap = H → s.WarmedH U.vm → qG L xs D aC A ad U U.heap ∧ zAO U) → zHk h →
      va_Run p l e R s m args below meth c H locs cells slots (zp h - zp h1) (zs h - zs h1) (F0 m pc ls (stk.map (q2 ad))) (st.map (q2 ad)) (fun st oc t => (∃ ad' : Nat → Nat, oc = .returned (qrv rk' ad' r1) ∧ (∀ i, zlv h i → ad' i = ad i) ∧ zHk h1 ∧ zrk rk' h1 r1 ∧ zRep D aC A ad' h1 t.heap) ∧ va_F A st t) A)
    (k : ∀ (r1 : Int) (h1 : zH), X = some (r1, h1) → zS y0 L xs cc own nL d rk pc' lv (qpu rk' r1 ++ st) h1 (K r1 h1)) : zS y0 L xs cc own nL d rk pc lv stk h (zbd X K) := by
  intro r h' hx
  cases hX : X with
  | none => rw [hX] at hx; cases hx
  | some q =>
    obtain ⟨r1, h1⟩ := q
    rw [hX] at hx
    have hx : K r1 h1 = some (r, h') := hx
    have hM1 := (hM r1 h1 hX).1
    have hM2 := (k r1 h1 hX r h' hx).1
    refine ⟨hM1.tr hM2, ?_⟩
    intro p l e R s m args below meth c H locs cells slots Q D aC A ad Kc Ks ls hE adE B hRc hRs hret
    obtain ⟨hii, hRm, hG, ⟨hl, hlk, hsk⟩, hHk, hRep, hcs, hag⟩ := B
    subst hp
    have p1 := hM1.p
    have p2 := hM2.p
    have s1 := hM1.s
    have s2 := hM2.s
    obtain ⟨pre, hpre, hmem⟩ := hst
    have hstk : ∀ v ∈ st, zk h v := fun v hv => hsk v (by rw [hpre]; exact List.mem_append_right _ hv)
    have hask : ∀ v ∈ as, zk h v := fun v hv => hsk v (by rw [hpre]; exact List.mem_append_left _ (hmem v hv))
    refine z_behind (hrun r1 h1 hX p l e R s m args below meth c H locs cells slots D aC A ad ls hii hRm.1.1 hRm.1.2 hG hRep.1 hRep.2 hl.1 (by omega) (by omega) hask (fun U hU hW => ⟨by rw [hU]; exact hG.go hW hRep.2.1 hRep.2.2.1 (fun _ _ => rfl), zAO_go hW hRm.2.1⟩) hHk) hRep.2 (fun ad' H1 locs1 g1 g2 g3 g4 g5 => ?_)
    have e1 : lv.map (fun q => (q.1, q2 ad q.2)) = lv.map (fun q => (q.1, q2 ad' q.2)) := List.map_congr_left (fun q hq => by rw [z2_ag g1 (hlk q hq)])
    have e2 : st.map (q2 ad) = st.map (q2 ad') := List.map_congr_left (fun v hv => (z2_ag g1 (hstk v hv)).symm)
    rw [e2, ← List.map_append]
    rw [e1] at hl
    exact (k r1 h1 hX r h' hx).2 p l e R s m args below meth c H1 locs1 _ _ Q D aC A ad' Kc Ks ls hE adE ⟨hii, hRm, hG.go (State.WarmedH.refl s) (Nat.le_refl _) (fun _ _ _ => rfl) (fun i hi => g1 i (Or.inr hi)), ⟨hl, fun q hq => hM1.k (hlk q hq), fun v hv => by
      rcases List.mem_append.mp hv with hv | hv
      · exact zpu_k g3 v hv
      · exact hM1.k (hstk v hv)⟩, g2, ⟨g4, g5⟩, ⟨by omega, by omega⟩, ⟨hag.1.tr hM1, fun i hi => (g1 i (hag.1.lv hi)).trans (hag.2 i hi)⟩⟩ hRc hRs hret
theorem Z_callS {y : MethodName} {bytes : ByteArray} {maxL index : Nat} {ret : Option FieldType} {rk' d' n : Nat} {as : List qV} {X : Option (Int × zH)} {K : Int → zH → Option (Int × zH)} (hM : zMet L xs y bytes maxL ret rk' d' as h X) (hY : qYS y bytes maxL ret n) (hw : Cond.methodLink own index y ∈ lw_tbl) (hdd : d' + 1 ≤ d) (hn : as.length = n) (hst : as.reverse ++ st = stk) (hcat : (st.map qcat).sum ≤ 8) (hd : decode cc pc = .ok (.invokestatic index, 3)) (hp : pc + 3 = pc')
    (k : ∀ (r1 : Int) (h1 : zH), X = some (r1, h1) → zS y0 L xs cc own nL d rk pc' lv (qpu rk' r1 ++ st) h1 (K r1 h1)) : zS y0 L xs cc own nL d rk pc lv stk h (zbd X K) := by
  refine z_call (n := n) hM hdd hp ⟨as.reverse, by rw [← hst], fun v hv => by simp [hv]⟩ ?_ k
  intro r1 h1 hX p l e R s m args below meth c H locs cells slots D aC A ad ls hii hR1 hR2 hG hRep hS hls hc1 hc2 hask hGU hHk
  obtain ⟨y3, y4, y5, y6, y7, y8⟩ := hY
  have use : ∀ w ∈ lw_tbl, qgw w = true → w.before args s = true := fun w hw hg => qNw_use hg (hG.1 w hw hg)
  refine va_runS (As := as.map (q2 ad)) (Ts := []) (n := n) (cc := cc) (nL := nL) ⟨hii.1, hii.2.1, hii.2.2.1, hii.2.2.2, fun _ h => by cases h⟩ ((hM r1 h1 hX).2 l D aC A ad) ⟨⟨rfl, rfl, by show d' + 1 ≤ R.frames; omega, by show 8 + (maxL + 11) + 40 * d' ≤ R.locals; omega, fun w hw a' U hW => ?_, List.mem_singleton.mpr rfl, use _ y5 rfl, use _ y4 rfl, y7, fun sig hsig => ?_, use _ hw rfl⟩, use _ y3 rfl⟩ ⟨z_blind, fun U hU hW => ⟨rfl, (hGU U hU hW).1, (hGU U hU hW).2, hHk, hask, by rw [hU]; exact hRep⟩⟩ rfl (by rw [List.length_map]; exact hn) hls (by rw [← hst]; simp) (lv_room (by rw [q_sum]; exact hcat)) hd ⟨hc1, hc2⟩
  · rcases List.mem_singleton.mp hw with rfl
    exact word_at hW (Or.inl rfl) (hG.1 _ y5 rfl)
  · rw [hsig] at y8
    exact (Option.some.inj y8).symm
theorem Z_callI {y : MethodName} {bytes : ByteArray} {maxL index i : Nat} {d' : Nat} {X : Option (Int × zH)} {K : Int → zH → Option (Int × zH)} (hM : zMet L xs y bytes maxL none 0 d' [qr i] h X) (hw : (Cond.methodLink own index y ∈ lw_tbl) ∨ ∃ host, Cond.methodLinkNest own index y host ∈ lw_tbl) (hY : y.name = "<init>" ∧ Cond.instanceMethod y ∈ lw_tbl ∧ Cond.initialized y.cls ∈ lw_tbl ∧ Cond.code y bytes maxL none ∈ lw_tbl ∧ maxL ≤ 21 ∧ (y.cls ≠ "java/lang/invoke/MethodHandle" ∧ y.cls ≠ "java/lang/invoke/VarHandle") ∧ (parseMethodDescriptor y.desc).map (fun d => d.parameters.length) = some 0) (hdd : d' + 1 ≤ d) (hcat : (st.map qcat).sum ≤ 8) (hd : decode cc pc = .ok (.invokespecial index, 3)) (hp : pc + 3 = pc')
    (k : ∀ (r1 : Int) (h1 : zH), X = some (r1, h1) → zS y0 L xs cc own nL d rk pc' lv st h1 (K r1 h1)) : zS y0 L xs cc own nL d rk pc lv (qr i :: st) h (zbd X K) := by
  refine z_call (n := 0) (stk := qr i :: st) hM hdd hp ⟨[qr i], rfl, fun v hv => hv⟩ ?_ k
  intro r1 h1 hX p l e R s m args below meth c H locs cells slots D aC A ad ls hii hR1 hR2 hG hRep hS hls hc1 hc2 hask hGU hHk
  obtain ⟨y1, y2, y4, y5, y6, y7, y8⟩ := hY
  have use : ∀ w ∈ lw_tbl, qgw w = true → w.before args s = true := fun w hw hg => qNw_use hg (hG.1 w hw hg)
  have hws : ∀ w ∈ [Cond.code y bytes maxL none], ∀ (a' : Array Value) (U : State), s.WarmedH U.vm → w.before a' U = true := by
    intro w hw a' U hW
    rcases List.mem_singleton.mp hw with rfl
    exact word_at hW (Or.inl rfl) (hG.1 _ y5 rfl)
  have hsig : ∀ sig, parseMethodDescriptor y.desc = some sig → 0 = sig.parameters.length := by
    intro sig hsig
    rw [hsig] at y8
    exact (Option.some.inj y8).symm
  rcases hw with hw | ⟨host, hw⟩
  · exact va_runI (As := []) (b := ad i) (Ts := []) (n := 0) (cc := cc) (nL := nL) ⟨hii.1, hii.2.1, hii.2.2.1, hii.2.2.2, fun _ h => by cases h⟩ ((hM r1 h1 hX).2 l D aC A ad) ⟨⟨rfl, rfl, by show d' + 1 ≤ R.frames; omega, by show 8 + (maxL + 11) + 40 * d' ≤ R.locals; omega, hws, List.mem_singleton.mpr rfl, use _ y5 rfl, use _ y4 rfl, y7, hsig, use _ hw rfl⟩, y1, use _ y2 rfl⟩ ⟨z_blind, fun U hU hW => ⟨rfl, (hGU U hU hW).1, (hGU U hU hW).2, hHk, hask, by rw [hU]; exact hRep⟩⟩ rfl rfl hls rfl (lv_room (by rw [q_sum]; exact hcat)) hd ⟨hc1, hc2⟩
  · exact va_runIN (host := host) (As := []) (b := ad i) (Ts := []) (n := 0) (cc := cc) (nL := nL) ⟨hii.1, hii.2.1, hii.2.2.1, hii.2.2.2, fun _ h => by cases h⟩ ((hM r1 h1 hX).2 l D aC A ad) ⟨⟨⟨rfl, rfl, by show d' + 1 ≤ R.frames; omega, by show 8 + (maxL + 11) + 40 * d' ≤ R.locals; omega, hws, List.mem_singleton.mpr rfl⟩, use _ y5 rfl, use _ y4 rfl, y7, hsig, use _ hw rfl⟩, y1, use _ y2 rfl⟩ ⟨z_blind, fun U hU hW => ⟨rfl, (hGU U hU hW).1, (hGU U hU hW).2, hHk, hask, by rw [hU]; exact hRep⟩⟩ rfl rfl hls rfl (lv_room (by rw [q_sum]; exact hcat)) hd ⟨hc1, hc2⟩
end zcalls
