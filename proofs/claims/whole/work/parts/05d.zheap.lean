/-! ===== the constructors' machine: making and writing ===== -/
theorem z_in {D : va_G} {aC : Nat → ClassId} {A : Nat → Prop} {ad : Nat → Nat} {h : zH} {H : Heap} (hR : zRep D aC A ad h H) : ∀ i ∈ zids h, A (ad i) := by
  intro i hi
  obtain ⟨a, ha⟩ := List.getElem?_of_mem hi
  have e : (qWl (zids h) ad (zent aC ad h))[a]? = some (ad i, zent aC ad h i) := by simp [qWl, ha]
  exact hR.2.2 a _ e
theorem z_inj {D : va_G} {aC : Nat → ClassId} {A : Nat → Prop} {ad : Nat → Nat} {h : zH} {H : Heap} (hR : zRep D aC A ad h H) : ∀ i ∈ zids h, ∀ j ∈ zids h, ad i = ad j → i = j := by
  intro i hi j hj he
  obtain ⟨a, ha⟩ := List.getElem?_of_mem hi
  obtain ⟨b, hb⟩ := List.getElem?_of_mem hj
  have := hR.2.1 a b (ad i, zent aC ad h i) (ad j, zent aC ad h j) (by simp [qWl, ha]) (by simp [qWl, hb]) he
  subst this
  exact Option.some.inj (ha.symm.trans hb)
theorem q_n39r : ∀ i, i < 227 → 24 < (qK i).1 → (qK i).2 ≤ 39 := by
  have h : (List.range 227).all (fun i => !(decide (24 < (qK i).1)) || decide ((qK i).2 ≤ 39)) = true := by decide +kernel
  intro i hi hk
  have h1 := List.all_eq_true.mp h i (List.mem_range.mpr hi)
  simpa [hk] using h1
theorem z_n39r : ∀ i, i < 227 → 24 < (zK i).1 → (zK i).2 ≤ 39 := by
  have h : (List.range 227).all (fun i => !(decide (24 < (zK i).1)) || decide ((zK i).2 ≤ 39)) = true := by decide +kernel
  intro i hi hk
  have h1 := List.all_eq_true.mp h i (List.mem_range.mpr hi)
  simpa [hk] using h1
/-- the world with one object more -/
theorem z_grow {D : va_G} {aC : Nat → ClassId} {A : Nat → Prop} {ad : Nat → Nat} {h : zH} {H H1 : Heap} {q : Nat} {e : va_E} (hk : zHk h) (hR : zRep D aC A ad h H) (he : zent aC (fun j => if j = h.1 then q else ad j) (znew h) h.1 = e) (hP1 : va_P D vwCl (qWl (zids h) ad (zent aC ad h) ++ [(q, e)]) H1) (hD1 : va_D A (qWl (zids h) ad (zent aC ad h) ++ [(q, e)])) : zRep D aC A (fun j => if j = h.1 then q else ad j) (znew h) H1 := by
  have ei : ∀ i, i < h.1 → zent aC (fun j => if j = h.1 then q else ad j) (znew h) i = zent aC ad h i := by
    intro i hi
    have er : ∀ k, (h.2.2 i k).map (fun j => if j = h.1 then q else ad j) = (h.2.2 i k).map ad := by
      intro k
      cases hj : h.2.2 i k with
      | none => rfl
      | some j =>
        have := hk.2.1 i k j hj
        have n : ¬ j = h.1 := by omega
        simp [n]
    have e2 : zfl (fun j => if j = h.1 then q else ad j) (znew h) i = zfl ad h i := by
      unfold zfl
      refine List.map_congr_left (fun k _ => ?_)
      unfold zfv
      show (if _ then _ else va_rf ((h.2.2 i k).map _)) = _
      rw [er k]
      rfl
    unfold zent
    rw [e2]
    show (if _ then _ else if _ then _ else if _ then _ else Sum.inl (_, _, Sum.inr (Sum.inr (Sum.inr (Sum.inr (fun j => (h.2.2 i j).map _)))))) = _
    simp only [er]
    rfl
  have ew : qWl (zids (znew h)) (fun j => if j = h.1 then q else ad j) (zent aC (fun j => if j = h.1 then q else ad j) (znew h)) = qWl (zids h) ad (zent aC ad h) ++ [(q, e)] := by
    unfold qWl zids
    show (List.range (h.1 + 1)).map _ = _
    rw [List.range_succ, List.map_append]
    congr 1
    · refine List.map_congr_left (fun i hi => ?_)
      have hi : i < h.1 := List.mem_range.mp hi
      have n : ¬ i = h.1 := by omega
      rw [ei i hi]
      simp [n]
    · simp [he]
  unfold zRep
  rw [ew]
  exact ⟨hP1, hD1⟩
theorem zHk_new {h : zH} (g : zHk h) (hl : h.1 < 225) : zHk (znew h) := by
  obtain ⟨g1, g2, g3, g4, g5, g6⟩ := g
  exact ⟨g1, fun i k j hj => Nat.lt_succ_of_lt (g2 i k j hj), fun i hi => g3 i (Nat.le_of_succ_le hi), hl, g5, g6⟩
theorem z_agr {h : zH} {ad : Nat → Nat} {q : Nat} (hl : h.1 < 225) : ∀ i, zlv h i → (fun j => if j = h.1 then q else ad j) i = ad i := by
  intro i hi
  have n : ¬ i = h.1 := by
    rcases hi with g | g <;> omega
  simp [n]
theorem zp_new {h : zH} (hl : h.1 < 225) : zp h = zp (znew h) + 1 := by
  show 225 - h.1 = 225 - (h.1 + 1) + 1
  omega
theorem zs_new {h : zH} (hl : h.1 < 225) : zs h = zs (znew h) + (zK h.1).2 := by
  have key : ∀ (l : List (Nat × Nat)) (n : Nat), n < l.length → ((l.drop n).map (fun q => q.2)).sum = ((l.drop (n + 1)).map (fun q => q.2)).sum + (l.getD n (99, 0)).2 := by
    intro l
    induction l with
    | nil => intro n hn; simp at hn
    | cons a l ih =>
      intro n hn
      cases n with
      | zero => simp; omega
      | succ n => simpa using ih n (by simpa using hn)
  exact key zKL h.1 (by rw [zKL_len]; omega)
def zro (o : Option Nat) (g : Nat → Option (Int × zH)) : Option (Int × zH) := match o with
  | none => none
  | some j => g j
section zheap
variable {y0 : String} {L : Nat} {xs : Nat → Int32} {cc : ByteArray} {own : String} {nL d rk pc pc' : Nat} {lv lv' : List (Nat × qV)} {st : List qV} {h : zH} {x : Option (Int × zH)}
theorem Z_new {ci N index : Nat} {C : String} {T : u_T} {ty : Nat → FieldType} (hC : qCl ci C T N ty) (hdf : ∀ j, j < N → defaultValue (ty j) = if qT ci j < 2 then .int 0 else .null) (hw1 : Cond.classLink own index C ∈ lw_tbl) (hw2 : Cond.instantiable C N ∈ lw_tbl) (hw3 : Cond.initialized C ∈ lw_tbl) (hd : decode cc pc = .ok (.new index, 3)) (hp : pc + 3 = pc') (hi : zK h.1 = (ci, N)) (k : zS y0 L xs cc own nL d rk pc' lv (qr h.1 :: st) (znew h) x) : zS y0 L xs cc own nL d rk pc lv st h x := by
  have hl : h.1 < 225 := zK_lt (by rw [hi]; exact hC.2.1)
  have hM : zM h (znew h) := Nat.le_succ _
  have p0 := zp_new (h := h) hl
  have s0 := zs_new (h := h) hl
  intro r h' hx
  have hM2 := (k r h' hx).1
  refine ⟨hM.tr hM2, ?_⟩
  have p2 := hM2.p
  have s2 := hM2.s
  intro p l e R s m args below meth c H locs cells slots Q D aC A ad Kc Ks ls hE adE B hRc hRs hret
  obtain ⟨hii, hRm, hG, ⟨hlv, hlk, hsk⟩, hHk, hRep, hcs, hag⟩ := B
  obtain ⟨hx0, hb, hml, hown⟩ := id hii
  subst hp
  obtain ⟨c1, c2, c3, c4, c5⟩ := hC
  have hblank := hHk.2.2.1 h.1 (Nat.le_refl _)
  have use : ∀ w ∈ lw_tbl, qgw w = true → w.before args s = true := fun w hw hg => qNw_use hg (hG.1 w hw hg)
  rw [hi] at s0
  refine va_new (ci := ci) (fs := zfl (fun j => j) (znew h) h.1) (C := C) (T := T) (N := N) (Ts := u_ws C T N) hx0 hb (fun w hw => qNw_use (c3 w hw).2 (hG.1 w (c3 w hw).1 (c3 w hw).2)) (fun _ h => h) ty c5 hown (use _ hw1 rfl) (use _ hw2 rfl) (use _ hw3 rfl) hG.2.1 hRep.1.1 hRep.1.2 hRep.2 hG.2.2.1 c1 (fun j hj => ?_) (by omega) (by omega) hd (fun q H1 hP1 hD1 hS1 => ?_)
  · rw [hdf j hj]
    have e1 := zfl_at (ad := fun j => j) (h := znew h) hi hj
    unfold vp_V
    rw [List.getD_eq_getElem?_getD, e1]
    show _ = zfv _ (znew h) h.1 j
    unfold zfv
    rw [hi]
    show _ = (if qT ci j < 2 then Value.int (Int32.ofInt (h.2.1 h.1 j)) else va_rf ((h.2.2 h.1 j).map _))
    rw [hblank.1 j, hblank.2 j]
    rfl
  · have he : zent aC (fun j => if j = h.1 then q else ad j) (znew h) h.1 = .inr (ci, zfl (fun j => j) (znew h) h.1) := by
      rw [zent_obj hi c2]
      congr 2
      unfold zfl
      refine List.map_congr_left (fun k _ => ?_)
      unfold zfv
      show (if _ then _ else va_rf ((h.2.2 h.1 k).map _)) = (if _ then _ else va_rf ((h.2.2 h.1 k).map _))
      rw [hblank.2 k]
      rfl
    have hRep2 := z_grow hHk hRep.1 he hP1 hD1
    have agr := z_agr (h := h) (ad := ad) (q := q) hl
    have e1 : lv.map (fun q => (q.1, q2 ad q.2)) = lv.map (fun u => (u.1, q2 (fun j => if j = h.1 then q else ad j) u.2)) := List.map_congr_left (fun u hu => by rw [z2_ag agr (hlk u hu)])
    have e2 : st.map (q2 ad) = st.map (q2 (fun j => if j = h.1 then q else ad j)) := List.map_congr_left (fun v hv => (z2_ag agr (hsk v hv)).symm)
    rw [e2]
    rw [e1] at hlv
    have e3 : Value.ref q = q2 (fun j => if j = h.1 then q else ad j) (qr h.1) := by show _ = Value.ref (if h.1 = h.1 then q else ad h.1); simp
    rw [e3]
    exact (k r h' hx).2 p l e R s m args below meth c H1 locs _ _ Q D aC A _ Kc Ks ls hE adE ⟨hii, hRm, hG.go (State.WarmedH.refl s) (Nat.le_refl _) (fun _ _ _ => rfl) (fun i hi => agr i (Or.inr hi)), ⟨hlv, fun q hq => hM.k (hlk q hq), List.forall_mem_cons.mpr ⟨Or.inl (Nat.lt_succ_self _), fun v hv => hM.k (hsk v hv)⟩⟩, zHk_new hHk hl, ⟨hRep2, hS1⟩, ⟨by omega, by omega⟩, ⟨hag.1.tr hM, fun i hi => (agr i (hag.1.lv hi)).trans (hag.2 i hi)⟩⟩ hRc hRs hret
theorem Z_newa {ka n : Nat} {N : Int} {atype : ArrayType} {fty : FieldType} (hd : decode cc pc = .ok (.newarray atype, 2)) (hp : pc + 2 = pc') (hl : h.1 < 225) (hi : zK h.1 = (ka, n)) (hka : 20 ≤ ka) (hka2 : ka < 24) (hdv : defaultValue fty = .int 0) (hty : newarray.typeOf atype = fty) (htt : ∀ aC : Nat → ClassId, (qtys aC)[ka - 20]? = some (aC (ka - 20), fty)) (hRA : ∀ (U : State) (cA : ClassId), va_RA U cA fty → U.vm.findClass ("[" ++ fty.toString) = some cA) (hN : (n : Int) = N) (hq : q32 N) (hby : n * componentBytes fty ≤ 536870912) (hw : Cond.arrayClass fty ∈ lw_tbl) (k : zS y0 L xs cc own nL d rk pc' lv (qr h.1 :: st) (znew h) x) : zS y0 L xs cc own nL d rk pc lv (qi N :: st) h x := by
  have hM : zM h (znew h) := Nat.le_succ _
  have p0 := zp_new (h := h) hl
  have s0 := zs_new (h := h) hl
  intro r h' hx
  have hM2 := (k r h' hx).1
  refine ⟨hM.tr hM2, ?_⟩
  have p2 := hM2.p
  have s2 := hM2.s
  intro p l e R s m args below meth c H locs cells slots Q D aC A ad Kc Ks ls hE adE B hRc hRs hret
  obtain ⟨hii, hRm, hG, ⟨hlv, hlk, hsk⟩, hHk, hRep, hcs, hag⟩ := B
  obtain ⟨hx0, hb, hml, hown⟩ := id hii
  subst hp
  subst hN
  obtain ⟨-, hsk⟩ := List.forall_mem_cons.mp hsk
  have hblank := hHk.2.2.1 h.1 (Nat.le_refl _)
  rw [hi] at s0
  have nN : ¬ (Int32.ofInt (n : Int)) < 0 := by
    rw [Int32.lt_iff_toInt_lt, q32_i hq]
    show ¬ (n : Int) < 0
    omega
  have cN : (Int32.ofInt (n : Int)).toNatClampNeg = n := by rw [qcl hq]; omega
  subst hty
  refine va_newa (atype := atype) (ty := newarray.typeOf atype) (n := Int32.ofInt (n : Int)) (N' := n) (a0 := (n, .inl (fun _ => 0))) hx0 hb (qNw_use rfl (hG.1 _ hw rfl)) rfl hG.2.1 hRep.1.1 hRep.1.2 hRep.2 hG.2.2.1 (fun cA => ?_) nN cN hby (by omega) (by omega) hd (fun q cA H1 hK1 hP1 hD1 hS1 => ?_)
  · rw [hdv]
    rfl
  · have ecA : cA = aC (ka - 20) := by
      have g1 := hRA s cA (hK1.2 9 (cA, newarray.typeOf atype) rfl).2
      have g2 := hRA s (aC (ka - 20)) (hG.2.1.2 (ka - 20) _ (htt aC)).2
      exact Option.some.inj (g1.symm.trans g2)
    subst ecA
    have he : zent aC (fun j => if j = h.1 then q else ad j) (znew h) h.1 = .inl (aC (ka - 20), n, .inl (fun _ => 0)) := by
      rw [zent_int hi hka hka2]
      congr 4
      funext b
      show Int32.ofInt (h.2.1 h.1 b) = 0
      rw [hblank.1 b]
      rfl
    have hRep2 := z_grow hHk hRep.1 he hP1 hD1
    have agr := z_agr (h := h) (ad := ad) (q := q) hl
    have e1 : lv.map (fun q => (q.1, q2 ad q.2)) = lv.map (fun u => (u.1, q2 (fun j => if j = h.1 then q else ad j) u.2)) := List.map_congr_left (fun u hu => by rw [z2_ag agr (hlk u hu)])
    have e2 : st.map (q2 ad) = st.map (q2 (fun j => if j = h.1 then q else ad j)) := List.map_congr_left (fun v hv => (z2_ag agr (hsk v hv)).symm)
    rw [e2]
    rw [e1] at hlv
    have e3 : Value.ref q = q2 (fun j => if j = h.1 then q else ad j) (qr h.1) := by show _ = Value.ref (if h.1 = h.1 then q else ad h.1); simp
    rw [e3]
    exact (k r h' hx).2 p l e R s m args below meth c H1 locs _ _ Q D aC A _ Kc Ks ls hE adE ⟨hii, hRm, hG.go (State.WarmedH.refl s) (Nat.le_refl _) (fun _ _ _ => rfl) (fun i hi => agr i (Or.inr hi)), ⟨hlv, fun q hq => hM.k (hlk q hq), List.forall_mem_cons.mpr ⟨Or.inl (Nat.lt_succ_self _), fun v hv => hM.k (hsk v hv)⟩⟩, zHk_new hHk hl, ⟨hRep2, hS1⟩, ⟨by omega, by omega⟩, ⟨hag.1.tr hM, fun i hi => (agr i (hag.1.lv hi)).trans (hag.2 i hi)⟩⟩ hRc hRs hret
theorem Z_newl {ka n : Nat} {N : Int} {atype : ArrayType} {fty : FieldType} (hd : decode cc pc = .ok (.newarray atype, 2)) (hp : pc + 2 = pc') (hl : h.1 < 225) (hi : zK h.1 = (ka, n)) (hka : ka = 24) (hdv : fty = .long) (hty : newarray.typeOf atype = fty) (htt : ∀ aC : Nat → ClassId, (qtys aC)[ka - 20]? = some (aC (ka - 20), fty)) (hRA : ∀ (U : State) (cA : ClassId), va_RA U cA fty → U.vm.findClass ("[" ++ fty.toString) = some cA) (hN : (n : Int) = N) (hq : q32 N) (hby : n * componentBytes fty ≤ 536870912) (hw : Cond.arrayClass fty ∈ lw_tbl) (k : zS y0 L xs cc own nL d rk pc' lv (qr h.1 :: st) (znew h) x) : zS y0 L xs cc own nL d rk pc lv (qi N :: st) h x := by
  have hM : zM h (znew h) := Nat.le_succ _
  have p0 := zp_new (h := h) hl
  have s0 := zs_new (h := h) hl
  intro r h' hx
  have hM2 := (k r h' hx).1
  refine ⟨hM.tr hM2, ?_⟩
  have p2 := hM2.p
  have s2 := hM2.s
  intro p l e R s m args below meth c H locs cells slots Q D aC A ad Kc Ks ls hE adE B hRc hRs hret
  obtain ⟨hii, hRm, hG, ⟨hlv, hlk, hsk⟩, hHk, hRep, hcs, hag⟩ := B
  obtain ⟨hx0, hb, hml, hown⟩ := id hii
  subst hp
  subst hN
  obtain ⟨-, hsk⟩ := List.forall_mem_cons.mp hsk
  have hblank := hHk.2.2.1 h.1 (Nat.le_refl _)
  rw [hi] at s0
  have nN : ¬ (Int32.ofInt (n : Int)) < 0 := by
    rw [Int32.lt_iff_toInt_lt, q32_i hq]
    show ¬ (n : Int) < 0
    omega
  have cN : (Int32.ofInt (n : Int)).toNatClampNeg = n := by rw [qcl hq]; omega
  subst hty
  refine va_newa (atype := atype) (ty := newarray.typeOf atype) (n := Int32.ofInt (n : Int)) (N' := n) (a0 := (n, .inr (.inl (fun _ => 0)))) hx0 hb (qNw_use rfl (hG.1 _ hw rfl)) rfl hG.2.1 hRep.1.1 hRep.1.2 hRep.2 hG.2.2.1 (fun cA => ?_) nN cN hby (by omega) (by omega) hd (fun q cA H1 hK1 hP1 hD1 hS1 => ?_)
  · rw [hdv]
    rfl
  · have ecA : cA = aC (ka - 20) := by
      have g1 := hRA s cA (hK1.2 9 (cA, newarray.typeOf atype) rfl).2
      have g2 := hRA s (aC (ka - 20)) (hG.2.1.2 (ka - 20) _ (htt aC)).2
      exact Option.some.inj (g1.symm.trans g2)
    subst ecA
    have he : zent aC (fun j => if j = h.1 then q else ad j) (znew h) h.1 = .inl (aC (ka - 20), n, .inr (.inl (fun _ => 0))) := by
      subst hka
      unfold zent
      rw [hi]
      show Sum.inl (aC 4, n, Sum.inr (Sum.inl (fun j => Int64.ofInt (h.2.1 h.1 j)))) = _
      congr 5
      funext b
      rw [hblank.1 b]
      rfl
    have hRep2 := z_grow hHk hRep.1 he hP1 hD1
    have agr := z_agr (h := h) (ad := ad) (q := q) hl
    have e1 : lv.map (fun q => (q.1, q2 ad q.2)) = lv.map (fun u => (u.1, q2 (fun j => if j = h.1 then q else ad j) u.2)) := List.map_congr_left (fun u hu => by rw [z2_ag agr (hlk u hu)])
    have e2 : st.map (q2 ad) = st.map (q2 (fun j => if j = h.1 then q else ad j)) := List.map_congr_left (fun v hv => (z2_ag agr (hsk v hv)).symm)
    rw [e2]
    rw [e1] at hlv
    have e3 : Value.ref q = q2 (fun j => if j = h.1 then q else ad j) (qr h.1) := by show _ = Value.ref (if h.1 = h.1 then q else ad h.1); simp
    rw [e3]
    exact (k r h' hx).2 p l e R s m args below meth c H1 locs _ _ Q D aC A _ Kc Ks ls hE adE ⟨hii, hRm, hG.go (State.WarmedH.refl s) (Nat.le_refl _) (fun _ _ _ => rfl) (fun i hi => agr i (Or.inr hi)), ⟨hlv, fun q hq => hM.k (hlk q hq), List.forall_mem_cons.mpr ⟨Or.inl (Nat.lt_succ_self _), fun v hv => hM.k (hsk v hv)⟩⟩, zHk_new hHk hl, ⟨hRep2, hS1⟩, ⟨by omega, by omega⟩, ⟨hag.1.tr hM, fun i hi => (agr i (hag.1.lv hi)).trans (hag.2 i hi)⟩⟩ hRc hRs hret
theorem Z_newq {ka n index : Nat} {N : Int} {C : String} (hd : decode cc pc = .ok (.anewarray index, 3)) (hp : pc + 3 = pc') (hl : h.1 < 225) (hi : zK h.1 = (ka, n)) (hka : 24 < ka) (htt : ∀ aC : Nat → ClassId, (qtys aC)[ka - 20]? = some (aC (ka - 20), .object C)) (hAO : ∀ U : State, zAO U → va_AO C U) (hN : (n : Int) = N) (hq : q32 N) (hby : n * 4 ≤ 536870912) (hw : Cond.classLink own index C ∈ lw_tbl) (k : zS y0 L xs cc own nL d rk pc' lv (qr h.1 :: st) (znew h) x) : zS y0 L xs cc own nL d rk pc lv (qi N :: st) h x := by
  have hM : zM h (znew h) := Nat.le_succ _
  have p0 := zp_new (h := h) hl
  have s0 := zs_new (h := h) hl
  intro r h' hx
  have hM2 := (k r h' hx).1
  refine ⟨hM.tr hM2, ?_⟩
  have p2 := hM2.p
  have s2 := hM2.s
  intro p l e R s m args below meth c H locs cells slots Q D aC A ad Kc Ks ls hE adE B hRc hRs hret
  obtain ⟨hii, hRm, hG, ⟨hlv, hlk, hsk⟩, hHk, hRep, hcs, hag⟩ := B
  obtain ⟨hx0, hb, hml, hown⟩ := id hii
  subst hp
  subst hN
  obtain ⟨-, hsk⟩ := List.forall_mem_cons.mp hsk
  have hblank := hHk.2.2.1 h.1 (Nat.le_refl _)
  rw [hi] at s0
  have nN : ¬ (Int32.ofInt (n : Int)) < 0 := by
    rw [Int32.lt_iff_toInt_lt, q32_i hq]
    show ¬ (n : Int) < 0
    omega
  have cN : (Int32.ofInt (n : Int)).toNatClampNeg = n := by rw [qcl hq]; omega
  refine va_newq (C := C) (n := Int32.ofInt (n : Int)) (N' := n) hx0 hb hown (qNw_use rfl (hG.1 _ hw rfl)) (hAO s hRm.2.1) hG.2.1 hRep.1.1 hRep.1.2 hRep.2 hG.2.2.1 nN cN hby (by omega) (by omega) hd (fun q cA H1 hK1 hP1 hD1 hS1 => ?_)
  · have ecA : cA = aC (ka - 20) := by
      obtain ⟨-, -, -, -, -, g1⟩ := (hK1.2 9 (cA, .object C) rfl).2
      obtain ⟨-, -, -, -, -, g2⟩ := (hG.2.1.2 (ka - 20) _ (htt aC)).2
      exact Option.some.inj (g1.symm.trans g2)
    subst ecA
    have he : zent aC (fun j => if j = h.1 then q else ad j) (znew h) h.1 = .inl (aC (ka - 20), n, .inr (.inr (.inr (.inr (fun _ => none))))) := by
      rw [zent_ref hi hka]
      congr 7
      funext b
      show (h.2.2 h.1 b).map _ = none
      rw [hblank.2 b]
      rfl
    have hRep2 := z_grow hHk hRep.1 he hP1 hD1
    have agr := z_agr (h := h) (ad := ad) (q := q) hl
    have e1 : lv.map (fun q => (q.1, q2 ad q.2)) = lv.map (fun u => (u.1, q2 (fun j => if j = h.1 then q else ad j) u.2)) := List.map_congr_left (fun u hu => by rw [z2_ag agr (hlk u hu)])
    have e2 : st.map (q2 ad) = st.map (q2 (fun j => if j = h.1 then q else ad j)) := List.map_congr_left (fun v hv => (z2_ag agr (hsk v hv)).symm)
    rw [e2]
    rw [e1] at hlv
    have e3 : Value.ref q = q2 (fun j => if j = h.1 then q else ad j) (qr h.1) := by show _ = Value.ref (if h.1 = h.1 then q else ad h.1); simp
    rw [e3]
    exact (k r h' hx).2 p l e R s m args below meth c H1 locs _ _ Q D aC A _ Kc Ks ls hE adE ⟨hii, hRm, hG.go (State.WarmedH.refl s) (Nat.le_refl _) (fun _ _ _ => rfl) (fun i hi => agr i (Or.inr hi)), ⟨hlv, fun q hq => hM.k (hlk q hq), List.forall_mem_cons.mpr ⟨Or.inl (Nat.lt_succ_self _), fun v hv => hM.k (hsk v hv)⟩⟩, zHk_new hHk hl, ⟨hRep2, hS1⟩, ⟨by omega, by omega⟩, ⟨hag.1.tr hM, fun i hi => (agr i (hag.1.lv hi)).trans (hag.2 i hi)⟩⟩ hRc hRs hret
theorem Z_puti {ci N index i : Nat} {C : String} {T : u_T} {ty : Nat → FieldType} {a : Int} (f : Nat) (hC : qCl ci C T N ty) (hf : f < N) (hT : qT ci f < 2) (hty : ty f = .int) (hfin : (T f).2.2.2 = false) (hi : zK i = (ci, N)) (hw : Cond.fieldLink own index (T f).1 (T f).2.1 (T f).2.2.1 ∈ lw_tbl) (hd : decode cc pc = .ok (.putfield index, 3)) (hp : pc + 3 = pc') (k : zS y0 L xs cc own nL d rk pc' lv st (zu h i f a) x) : zS y0 L xs cc own nL d rk pc lv (qi a :: qr i :: st) h x := by
  intro r h' hx
  refine ⟨(k r h' hx).1, ?_⟩
  intro p l e R s m args below meth c H locs cells slots Q D aC A ad Kc Ks ls hE adE B hRc hRs hret
  obtain ⟨hii, hRm, hG, ⟨hlv, hlk, hsk⟩, hHk, hRep, hcs, hag⟩ := B
  obtain ⟨hx0, hb, hml, hown⟩ := id hii
  subst hp
  obtain ⟨hk0, hsk⟩ := List.forall_mem_cons.mp hsk
  obtain ⟨hk1, hsk⟩ := List.forall_mem_cons.mp hsk
  obtain ⟨c1, c2, c3, c4, c5⟩ := hC
  have hlt : i < 225 := zK_lt (by rw [hi]; exact c2)
  have hlt2 : i < h.1 := by
    rcases (show zlv h i from hk1) with g | g <;> omega
  obtain ⟨z, hz1, hz2⟩ := qWl_at (ad := ad) (f := zent aC ad h) (zids_nodup h) (zids_mem.mpr hlt2)
  rw [zent_obj hi c2] at hz1
  refine va_put (Ts := u_ws C T N) hx0 hb (fun w hw => qNw_use (c3 w hw).2 (hG.1 w (c3 w hw).1 (c3 w hw).2)) (fun _ h => h) ty c5 c4 hown hG.2.1 hRep.1.1 hRep.1.2 hRep.2 z hz1 c1 f hf (qNw_use rfl (hG.1 _ hw rfl)) (fun _ h => h) hfin (c5 f hf) (by rw [hty]; rfl) (by rw [hty]; rfl) (by rw [zfl_len hi]; exact hf) hd (fun H1 locs1 hP1 hD1 hS1 => ?_)
  have he := zent_fput (aC := aC) (ad := ad) (h := h) (h1 := zu h i f a) (v := .int (Int32.ofInt a)) hi c2 hf (by unfold zfv; rw [hi]; simp [hT, zu]) (fun n hn => by unfold zfv; simp [zu, hn]) (fun j hj => ⟨by funext b; simp [zu, hj], rfl⟩)
  exact (k r h' hx).2 p l e R s m args below meth c H1 locs1 cells slots Q D aC A ad Kc Ks ls hE adE ⟨hii, hRm, hG, ⟨hlv, hlk, hsk⟩, zHk_put hHk hlt2 hk0 (Or.inl (by have := z_n39 i hlt (by rw [hi]; exact c2); rw [hi] at this; have this : N ≤ 39 := this; omega)), ⟨zRep_put (hz2 _) rfl he hP1 hD1, hS1⟩, hcs, hag⟩ hRc hRs hret
theorem Z_putr {ci N index i o : Nat} {C : String} {T : u_T} {ty : Nat → FieldType} (f : Nat) (hC : qCl ci C T N ty) (hf : f < N) (hT : qT ci f = 2) (hty : ∀ v : Nat, narrow (ty f) (.ref v) = .ref v ∧ fits (ty f) (.ref v) = true) (hi : zK i = (ci, N)) (hy0 : own = y0) (hdecl : (T f).1 = own) (hok : (zK o).1 < 99) (hw : Cond.fieldLink own index (T f).1 (T f).2.1 (T f).2.2.1 ∈ lw_tbl) (hd : decode cc pc = .ok (.putfield index, 3)) (hp : pc + 3 = pc') (k : zS y0 L xs cc own nL d rk pc' lv st (zur h i f o) x) : zS y0 L xs cc own nL d rk pc lv (qr o :: qr i :: st) h x := by
  intro r h' hx
  refine ⟨(k r h' hx).1, ?_⟩
  intro p l e R s m args below meth c H locs cells slots Q D aC A ad Kc Ks ls hE adE B hRc hRs hret
  obtain ⟨hii, hRm, hG, ⟨hlv, hlk, hsk⟩, hHk, hRep, hcs, hag⟩ := B
  obtain ⟨hx0, hb, hml, hown⟩ := id hii
  subst hp
  obtain ⟨hk0, hsk⟩ := List.forall_mem_cons.mp hsk
  obtain ⟨hk1, hsk⟩ := List.forall_mem_cons.mp hsk
  obtain ⟨c1, c2, c3, c4, c5⟩ := hC
  have hlt : i < 225 := zK_lt (by rw [hi]; exact c2)
  have hlt2 : i < h.1 := by
    rcases (show zlv h i from hk1) with g | g <;> omega
  obtain ⟨z, hz1, hz2⟩ := qWl_at (ad := ad) (f := zent aC ad h) (zids_nodup h) (zids_mem.mpr hlt2)
  rw [zent_obj hi c2] at hz1
  have ho : o < h.1 := by
    have := zK_lt2 hok
    rcases (show zlv h o from hk0) with g | g <;> omega
  have h39 : f < 39 := by
    have := z_n39 i hlt (by rw [hi]; exact c2)
    rw [hi] at this
    have this : N ≤ 39 := this
    omega
  have he := zent_fput (aC := aC) (ad := ad) (h := h) (h1 := zur h i f o) (v := .ref (ad o)) hi c2 hf (by unfold zfv; rw [hi]; simp [hT, zur]; rfl) (fun n hn => by unfold zfv; simp [zur, hn]) (fun j hj => ⟨rfl, by funext b; simp [zur, hj]⟩)
  have fin : ∀ (H1 : Heap) (locs1 : List Loc), va_P D vwCl ((qWl (zids h) ad (zent aC ad h)).set z (ad i, .inr (ci, (zfl ad h i).set f (.ref (ad o))))) H1 → va_D A ((qWl (zids h) ad (zent aC ad h)).set z (ad i, .inr (ci, (zfl ad h i).set f (.ref (ad o))))) → va_S A s.heap H1 locs1 → W p l e R s m args below meth c H1 locs1 cells slots Q (F0 m (pc + 3) ls (st.map (q2 ad))) := by
    intro H1 locs1 hP1 hD1 hS1
    exact (k r h' hx).2 p l e R s m args below meth c H1 locs1 cells slots Q D aC A ad Kc Ks ls hE adE ⟨hii, hRm, hG, ⟨hlv, hlk, hsk⟩, zHk_putr hHk hlt2 ho h39, ⟨zRep_put (hz2 _) rfl he hP1 hD1, hS1⟩, hcs, hag⟩ hRc hRs hret
  cases hfin : (T f).2.2.2 with
  | false => exact va_put (Ts := u_ws C T N) (v := .ref (ad o)) hx0 hb (fun w hw => qNw_use (c3 w hw).2 (hG.1 w (c3 w hw).1 (c3 w hw).2)) (fun _ h => h) ty c5 c4 hown hG.2.1 hRep.1.1 hRep.1.2 hRep.2 z hz1 c1 f hf (qNw_use rfl (hG.1 _ hw rfl)) (fun _ h => h) hfin (c5 f hf) (hty _).1 (hty _).2 (by rw [zfl_len hi]; exact hf) hd fin
  | true => exact va_putF (Ts := u_ws C T N) (v := .ref (ad o)) hx0 hb (fun w hw => qNw_use (c3 w hw).2 (hG.1 w (c3 w hw).1 (c3 w hw).2)) (fun _ h => h) ty c5 c4 hown hG.2.1 hRep.1.1 hRep.1.2 hRep.2 z hz1 c1 f hf (qNw_use rfl (hG.1 _ hw rfl)) (fun _ h => h) hfin (hRm.2.2 hy0) hdecl (c5 f hf) (hty _).1 (hty _).2 (by rw [zfl_len hi]; exact hf) hd fin
theorem Z_getr {ci N index i j : Nat} {C : String} {T : u_T} {ty : Nat → FieldType} (f : Nat) (hC : qCl ci C T N ty) (hf : f < N) (hT : qT ci f = 2) (hi : zK i = (ci, N)) (hv : h.2.2 i f = some j) (hw : Cond.fieldLink own index (T f).1 (T f).2.1 (T f).2.2.1 ∈ lw_tbl) (hd : decode cc pc = .ok (.getfield index, 3)) (hp : pc + 3 = pc') (k : zS y0 L xs cc own nL d rk pc' lv (qr j :: st) h x) : zS y0 L xs cc own nL d rk pc lv (qr i :: st) h x := by
  intro r h' hx
  refine ⟨(k r h' hx).1, ?_⟩
  intro p l e R s m args below meth c H locs cells slots Q D aC A ad Kc Ks ls hE adE B hRc hRs hret
  obtain ⟨hii, hRm, hG, ⟨hlv, hlk, hsk⟩, hHk, hRep, hcs, hag⟩ := B
  obtain ⟨hx0, hb, hml, hown⟩ := id hii
  subst hp
  obtain ⟨hk1, hsk⟩ := List.forall_mem_cons.mp hsk
  obtain ⟨c1, c2, c3, c4, c5⟩ := hC
  have hlt : i < 225 := zK_lt (by rw [hi]; exact c2)
  have hlt2 : i < h.1 := by
    rcases (show zlv h i from hk1) with g | g <;> omega
  obtain ⟨z, hz, -⟩ := qWl_at (ad := ad) (f := zent aC ad h) (zids_nodup h) (zids_mem.mpr hlt2)
  rw [zent_obj hi c2] at hz
  have hv2 : (zfl ad h i)[f]? = some (.ref (ad j)) := by
    rw [zfl_at hi hf]; unfold zfv; rw [hi, hv]; simp [hT]; rfl
  refine va_get (Ts := u_ws C T N) hx0 hb (fun w hw => qNw_use (c3 w hw).2 (hG.1 w (c3 w hw).1 (c3 w hw).2)) (fun _ h => h) hown hG.2.1 hRep.1.1 z hz c1 f hf (qNw_use rfl (hG.1 _ hw rfl)) (fun _ h => h) hv2 hd ?_
  exact (k r h' hx).2 p l e R s m args below meth c H locs cells slots Q D aC A ad Kc Ks ls hE adE ⟨hii, hRm, hG, ⟨hlv, hlk, List.forall_mem_cons.mpr ⟨Or.inl (hHk.2.1 i f j hv), hsk⟩⟩, hHk, hRep, hcs, hag⟩ hRc hRs hret
theorem Z_aast {ka n i o ci N : Nat} {a NN : Int} {C : String} {T : u_T} {ty : Nat → FieldType} (hi : zK i = (ka, n)) (hka : 24 < ka) (hka2 : ka < 29) (htt : ∀ aC : Nat → ClassId, (qtys aC)[ka - 20]? = some (aC (ka - 20), .object C)) (hC : qCl ci C T N ty) (ho : zK o = (ci, N)) (hN : (n : Int) = NN) (h1 : 0 ≤ a) (h2 : a < NN) (hd : decode cc pc = .ok (.aastore, 1)) (hp : pc + 1 = pc') (k : zS y0 L xs cc own nL d rk pc' lv st (zur h i a.toNat o) x) : zS y0 L xs cc own nL d rk pc lv (qr o :: qi a :: qr i :: st) h x := by
  intro r h' hx
  refine ⟨(k r h' hx).1, ?_⟩
  intro p l e R s m args below meth c H locs cells slots Q D aC A ad Kc Ks ls hE adE B hRc hRs hret
  obtain ⟨hii, hRm, hG, ⟨hlv, hlk, hsk⟩, hHk, hRep, hcs, hag⟩ := B
  obtain ⟨hx0, hb, hml, hown⟩ := id hii
  subst hp
  subst hN
  obtain ⟨hko, hsk⟩ := List.forall_mem_cons.mp hsk
  obtain ⟨hka0, hsk⟩ := List.forall_mem_cons.mp hsk
  obtain ⟨hki, hsk⟩ := List.forall_mem_cons.mp hsk
  have hka0 : q32 a := hka0
  obtain ⟨c1, c2, c3, c4, c5⟩ := hC
  have hlo : o < h.1 := by
    have := zK_lt (i := o) (by rw [ho]; exact c2)
    rcases (show zlv h o from hko) with g | g <;> omega
  have hl227 : i < 227 := zK_lt2 (i := i) (by rw [hi]; show ka < 99; omega)
  have hli : i < h.1 := by
    rcases (show zlv h i from hki) with g | g <;> omega
  obtain ⟨z, hz1, hz2⟩ := qWl_at (ad := ad) (f := zent aC ad h) (zids_nodup h) (zids_mem.mpr hli)
  obtain ⟨z', hz1', -⟩ := qWl_at (ad := ad) (f := zent aC ad h) (zids_nodup h) (zids_mem.mpr hlo)
  rw [zent_ref hi hka] at hz1
  rw [zent_obj ho c2] at hz1'
  refine va_astq (r := (C, T, N)) hx0 hb hG.2.1 hRep.1.1 hRep.1.2 hRep.2 z (ka - 20) z' ci hz1 (htt aC) hz1' c1 (qin h1 h2 hka0) hd (fun H1 locs1 hP1 hD1 hS1 => ?_)
  rw [qcl hka0] at hP1 hD1
  have he : ∀ b, (if b = i then (.inl (aC (ka - 20), n, .inr (.inr (.inr (.inr (va_up (fun j => (h.2.2 i j).map ad) a.toNat (some (ad o))))))) : va_E) else zent aC ad h b) = zent aC ad (zur h i a.toNat o) b := by
    intro b
    by_cases hbi : b = i
    · subst hbi
      rw [if_pos rfl, zent_ref hi hka]
      congr 7
      funext q
      show (if q = a.toNat then some (ad o) else (h.2.2 b q).map ad) = (if b = b ∧ q = a.toNat then some o else h.2.2 b q).map ad
      by_cases hq : q = a.toNat <;> simp [hq]
    · rw [if_neg hbi]
      exact zent_cg rfl (by funext q; simp [zur, hbi])
  exact (k r h' hx).2 p l e R s m args below meth c H1 locs1 cells slots Q D aC A ad Kc Ks ls hE adE ⟨hii, hRm, hG, ⟨hlv, hlk, hsk⟩, zHk_putr hHk hli hlo (by have := z_n39r i hl227 (by rw [hi]; exact hka); rw [hi] at this; have this : n ≤ 39 := this; omega), ⟨zRep_put (hz2 _) rfl he hP1 hD1, hS1⟩, hcs, hag⟩ hRc hRs hret
theorem Z_iast {i n : Nat} {a N v : Int} (hi : zK i = (20, n)) (hN : (n : Int) = N) (hd : decode cc pc = .ok (.iastore, 1)) (hp : pc + 1 = pc') (h1 : 0 ≤ a) (h2 : a < N) (hs : a < 39 ∨ v = 0) (k : zS y0 L xs cc own nL d rk pc' lv st (zu h i a.toNat v) x) : zS y0 L xs cc own nL d rk pc lv (qi v :: qi a :: qr i :: st) h x := by
  intro r h' hx
  refine ⟨(k r h' hx).1, ?_⟩
  intro p l e R s m args below meth c H locs cells slots Q D aC A ad Kc Ks ls hE adE B hRc hRs hret
  obtain ⟨hii, hRm, hG, ⟨hlv, hlk, hsk⟩, hHk, hRep, hcs, hag⟩ := B
  obtain ⟨hx0, hb, hml, hown⟩ := id hii
  subst hp
  subst hN
  obtain ⟨hkv, hsk⟩ := List.forall_mem_cons.mp hsk
  obtain ⟨hk0, hsk⟩ := List.forall_mem_cons.mp hsk
  have hk0 : q32 a := hk0
  obtain ⟨hk1, hsk⟩ := List.forall_mem_cons.mp hsk
  have hli : i < h.1 := by
    have := zK_lt2 (i := i) (by rw [hi]; simp)
    rcases (show zlv h i from hk1) with g | g <;> omega
  obtain ⟨z, hz1, hz2⟩ := qWl_at (ad := ad) (f := zent aC ad h) (zids_nodup h) (zids_mem.mpr hli)
  rw [zent_int hi (by decide) (by decide)] at hz1
  refine va_iast hx0 hb hG.2.1 hRep.1.1 hRep.1.2 hRep.2 z 0 hz1 rfl (qin h1 h2 hk0) hd (fun H1 locs1 hP1 hD1 hS1 => ?_)
  rw [qcl hk0] at hP1 hD1
  have he : ∀ b, (if b = i then (.inl (aC 0, n, .inl (upd (fun j => Int32.ofInt (h.2.1 i j)) a.toNat (Int32.ofInt v))) : va_E) else zent aC ad h b) = zent aC ad (zu h i a.toNat v) b := by
    intro b
    by_cases hbi : b = i
    · subst hbi
      rw [if_pos rfl, zent_int hi (by decide) (by decide)]
      congr 4
      funext q
      show (if q = a.toNat then Int32.ofInt v else Int32.ofInt (h.2.1 b q)) = Int32.ofInt (if b = b ∧ q = a.toNat then v else h.2.1 b q)
      by_cases hq : q = a.toNat <;> simp [hq]
    · rw [if_neg hbi]
      exact zent_cg (by funext q; simp [zu, hbi]) rfl
  exact (k r h' hx).2 p l e R s m args below meth c H1 locs1 cells slots Q D aC A ad Kc Ks ls hE adE ⟨hii, hRm, hG, ⟨hlv, hlk, hsk⟩, zHk_put hHk hli hkv (by omega), ⟨zRep_put (hz2 _) rfl he hP1 hD1, hS1⟩, hcs, hag⟩ hRc hRs hret
/-- Object's own constructor -/
theorem Z_obj {index i : Nat} (hw1 : Cond.methodLink own index Lib.objectInit ∈ lw_tbl) (hw2 : Cond.instanceMethod Lib.objectInit ∈ lw_tbl) (hw3 : Cond.code Lib.objectInit ⟨#[0xb1]⟩ 1 none ∈ lw_tbl) (hd0 : 1 ≤ d) (hcat : (st.map qcat).sum ≤ 8) (hd : decode cc pc = .ok (.invokespecial index, 3)) (hp : pc + 3 = pc') (k : zS y0 L xs cc own nL d rk pc' lv st h x) : zS y0 L xs cc own nL d rk pc lv (qr i :: st) h x := by
  intro r h' hx
  refine ⟨(k r h' hx).1, ?_⟩
  intro p l e R s m args below meth c H locs cells slots Q D aC A ad Kc Ks ls hE adE B hRc hRs hret
  obtain ⟨hii, hRm, hG, ⟨hlv, hlk, hsk⟩, hHk, hRep, hcs, hag⟩ := B
  obtain ⟨hx0, hb, hml, hown⟩ := id hii
  subst hp
  obtain ⟨-, hsk⟩ := List.forall_mem_cons.mp hsk
  have use : ∀ w ∈ lw_tbl, qgw w = true → w.before args s = true := fun w hw hg => qNw_use hg (hG.1 w hw hg)
  refine W.objInit (a := ad i) (rest := st.map (q2 ad)) hx0 hb hown (use _ hw1 rfl) (use _ hw2 rfl) (use _ hw3 rfl) rfl (by rw [hml]; exact hlv.1) rfl hd (by have := hRm.1.1; omega) (by rw [q_sum]; have := hRm.1.2; show 2 * 0 + _ + 12 ≤ _; omega) ?_
  exact (k r h' hx).2 p l e R s m args below meth c H locs cells slots Q D aC A ad Kc Ks ls hE adE ⟨hii, hRm, hG, ⟨hlv, hlk, hsk⟩, hHk, hRep, hcs, hag⟩ hRc hRs hret
theorem Z_getro {ci N index i : Nat} {C : String} {T : u_T} {ty : Nat → FieldType} {g : Nat → Option (Int × zH)} (f : Nat) (hC : qCl ci C T N ty) (hf : f < N) (hT : qT ci f = 2) (hi : zK i = (ci, N)) (hw : Cond.fieldLink own index (T f).1 (T f).2.1 (T f).2.2.1 ∈ lw_tbl) (hd : decode cc pc = .ok (.getfield index, 3)) (hp : pc + 3 = pc') (k : ∀ j, zS y0 L xs cc own nL d rk pc' lv (qr j :: st) h (g j)) : zS y0 L xs cc own nL d rk pc lv (qr i :: st) h (zro (h.2.2 i f) g) := by
  cases hv : h.2.2 i f with
  | none => exact Z_none
  | some j => exact Z_getr f hC hf hT hi hv hw hd hp (k j)
theorem Z_iincl {a n b : Int} {i : Nat} (z : Nat) (hb : qw (a + n) = b) (hd : decode cc pc = .ok (.iinc i n, 3)) (hz : lv[z]? = some (i, qi a)) (hn : i < nL) (hv : qst lv i (qi b) = lv') (hp : pc + 3 = pc') (k : zS y0 L xs cc own nL d rk pc' lv' st h x) : zS y0 L xs cc own nL d rk pc lv st h x := by
  subst hb
  exact Z_iinc z hd hz hn hv hp k
end zheap
