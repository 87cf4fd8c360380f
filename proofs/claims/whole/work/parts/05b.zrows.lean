def zrk (rk : Nat) (h : zH) (r : Int) : Prop := if rk = 0 then True else if rk = 2 then q64 r else if rk = 3 then zlv h r.toNat else if rk = 4 then r = 0 ∨ r = 1 else if rk = 5 then 0 ≤ r ∧ r < 65536 else if rk = 6 then -128 ≤ r ∧ r < 128 else q32 r

/-- how a walk ends: with an answer, or (99) at the law's loop -/
def zend (cc : ByteArray) (rk nL : Nat) (ad : Nat → Nat) (r : Int) (pc : Nat) (ls : Array Slot) (vs : List Value) : Prop := if rk = 99 then pc = 18 ∧ vs = [] ∧ lv_has ls nL ([(3, qi 0), (2, qr 212), (1, qr 0), (0, qr 227)].map (fun q => (q.1, q2 ad q.2))) else decode cc pc = .ok (qri rk, 1) ∧ vs = qrs rk ad r
/-- what holds at a place of a walk -/
def zB (y0 : String) (meth : Method) (L : Nat) (xs : Nat → Int32) (cc : ByteArray) (own : String) (nL d : Nat) (p : Program) (R : Room) (s : State) (m : MethodId) (c : Code) (H : Heap) (locs : List Loc) (cells slots : Nat) (D : va_G) (aC : Nat → ClassId) (A : Nat → Prop) (ad : Nat → Nat) (Kc Ks : Nat) (ls : Array Slot) (hE : zH) (adE : Nat → Nat) (lv : List (Nat × qV)) (st : List qV) (h : zH) : Prop :=
  (p.tables.exec = Jvm.exec ∧ c.code = cc ∧ c.maxLocals = nL ∧ s.vm.findClass own = some m.cls) ∧ ((d ≤ R.frames ∧ 40 * d ≤ R.locals) ∧ zAO s ∧ (own = y0 → meth.name = "<init>")) ∧
  qG L xs D aC A ad s s.heap ∧ (lv_has ls nL (lv.map (fun q => (q.1, q2 ad q.2))) ∧ (∀ q ∈ lv, zk h q.2) ∧ (∀ v ∈ st, zk h v)) ∧ zHk h ∧
  (zRep D aC A ad h H ∧ va_S A s.heap H locs) ∧ (cells + zp h = Kc ∧ slots + zs h = Ks) ∧ (zM hE h ∧ ∀ i, zlv hE i → ad i = adE i)
/-- the place pc of the code, with locals lv, stack st, world h, comes to the end that the computation x tells, if it tells one -/
def zS (y0 : String) (L : Nat) (xs : Nat → Int32) (cc : ByteArray) (own : String) (nL d rk pc : Nat) (lv : List (Nat × qV)) (st : List qV) (h : zH) (x : Option (Int × zH)) : Prop :=
  ∀ (r : Int) (h' : zH), x = some (r, h') → zM h h' ∧
    ∀ (p : Program) (l : Launch) (e : Env) (R : Room) (s : State) (m : MethodId) (args : Array Value) (below : List Frame) (meth : Method) (c : Code) (H : Heap) (locs : List Loc) (cells slots : Nat) (Q : State → Prop) (D : va_G) (aC : Nat → ClassId) (A : Nat → Prop) (ad : Nat → Nat) (Kc Ks : Nat) (ls : Array Slot) (hE : zH) (adE : Nat → Nat),
      zB y0 meth L xs cc own nL d p R s m c H locs cells slots D aC A ad Kc Ks ls hE adE lv st h → Kc ≤ R.cells + zp h' → Ks ≤ R.slots + zs h' →
      (∀ (ad' : Nat → Nat) (H' : Heap) (locs' : List Loc) (cells' slots' pc' : Nat) (ls' : Array Slot) (vs' : List Value), (zM hE h' ∧ ∀ i, zlv hE i → ad' i = adE i) → zHk h' → zrk rk h' r → zRep D aC A ad' h' H' → va_S A s.heap H' locs' → cells' + zp h' = Kc → slots' + zs h' = Ks → zend cc rk nL ad' r pc' ls' vs' → W p l e R s m args below meth c H' locs' cells' slots' Q (F0 m pc' ls' vs')) →
      W p l e R s m args below meth c H locs cells slots Q (F0 m pc ls (st.map (q2 ad)))


section zrows
variable {y0 : String} {L : Nat} {xs : Nat → Int32} {cc : ByteArray} {own : String} {nL d rk pc pc' : Nat} {lv lv' : List (Nat × qV)} {st : List qV} {h : zH} {x y : Option (Int × zH)}

theorem Z_iadd {b a : Int} (hd : decode cc pc = .ok (.iadd, 1)) (hp : pc + 1 = pc') (k : zS y0 L xs cc own nL d rk pc' lv (qi (qw (a + b)) :: st) h x) : zS y0 L xs cc own nL d rk pc lv (qi b :: qi a :: st) h x := by
  intro r h' hx
  refine ⟨(k r h' hx).1, ?_⟩
  intro p l e R s m args below meth c H locs cells slots Q D aC A ad Kc Ks ls hE adE B hRc hRs hret
  have K := (k r h' hx).2 p l e R s m args below meth c H locs cells slots Q D aC A ad Kc Ks
  obtain ⟨hi, hRm, hG, ⟨hl, hlk, hsk⟩, hHk, hRep, hcs, hag⟩ := B
  obtain ⟨hx0, hb, hml, hown⟩ := id hi
  subst hp
  show W p l e R s m args below meth c H locs cells slots Q (F0 m pc ls (Value.int (Int32.ofInt b) :: Value.int (Int32.ofInt a) :: st.map (q2 ad)))
  obtain ⟨hk0, hsk⟩ := List.forall_mem_cons.mp hsk
  have hk0 : q32 b := hk0
  obtain ⟨hk1, hsk⟩ := List.forall_mem_cons.mp hsk
  have hk1 : q32 a := hk1
  refine lv_iadd hx0 hb hd  ?_
  have e0 : Value.int (Int32.ofInt (qw (a + b))) = Value.int (Int32.ofInt a + Int32.ofInt b) := by unfold qw; rw [Int32.ofInt_toInt, Int32.ofInt_add]
  rw [← e0]
  exact K ls hE adE ⟨hi, hRm, hG, ⟨hl, hlk, List.forall_mem_cons.mpr ⟨q32_of _, hsk⟩⟩, hHk, hRep, hcs, hag⟩ hRc hRs hret
theorem Z_isub {b a : Int} (hd : decode cc pc = .ok (.isub, 1)) (hp : pc + 1 = pc') (k : zS y0 L xs cc own nL d rk pc' lv (qi (qw (a - b)) :: st) h x) : zS y0 L xs cc own nL d rk pc lv (qi b :: qi a :: st) h x := by
  intro r h' hx
  refine ⟨(k r h' hx).1, ?_⟩
  intro p l e R s m args below meth c H locs cells slots Q D aC A ad Kc Ks ls hE adE B hRc hRs hret
  have K := (k r h' hx).2 p l e R s m args below meth c H locs cells slots Q D aC A ad Kc Ks
  obtain ⟨hi, hRm, hG, ⟨hl, hlk, hsk⟩, hHk, hRep, hcs, hag⟩ := B
  obtain ⟨hx0, hb, hml, hown⟩ := id hi
  subst hp
  show W p l e R s m args below meth c H locs cells slots Q (F0 m pc ls (Value.int (Int32.ofInt b) :: Value.int (Int32.ofInt a) :: st.map (q2 ad)))
  obtain ⟨hk0, hsk⟩ := List.forall_mem_cons.mp hsk
  have hk0 : q32 b := hk0
  obtain ⟨hk1, hsk⟩ := List.forall_mem_cons.mp hsk
  have hk1 : q32 a := hk1
  refine lv_isub hx0 hb hd  ?_
  have e0 : Value.int (Int32.ofInt (qw (a - b))) = Value.int (Int32.ofInt a - Int32.ofInt b) := by unfold qw; rw [Int32.ofInt_toInt, Int32.ofInt_sub]
  rw [← e0]
  exact K ls hE adE ⟨hi, hRm, hG, ⟨hl, hlk, List.forall_mem_cons.mpr ⟨q32_of _, hsk⟩⟩, hHk, hRep, hcs, hag⟩ hRc hRs hret
theorem Z_imul {b a : Int} (hd : decode cc pc = .ok (.imul, 1)) (hp : pc + 1 = pc') (k : zS y0 L xs cc own nL d rk pc' lv (qi (qw (a * b)) :: st) h x) : zS y0 L xs cc own nL d rk pc lv (qi b :: qi a :: st) h x := by
  intro r h' hx
  refine ⟨(k r h' hx).1, ?_⟩
  intro p l e R s m args below meth c H locs cells slots Q D aC A ad Kc Ks ls hE adE B hRc hRs hret
  have K := (k r h' hx).2 p l e R s m args below meth c H locs cells slots Q D aC A ad Kc Ks
  obtain ⟨hi, hRm, hG, ⟨hl, hlk, hsk⟩, hHk, hRep, hcs, hag⟩ := B
  obtain ⟨hx0, hb, hml, hown⟩ := id hi
  subst hp
  show W p l e R s m args below meth c H locs cells slots Q (F0 m pc ls (Value.int (Int32.ofInt b) :: Value.int (Int32.ofInt a) :: st.map (q2 ad)))
  obtain ⟨hk0, hsk⟩ := List.forall_mem_cons.mp hsk
  have hk0 : q32 b := hk0
  obtain ⟨hk1, hsk⟩ := List.forall_mem_cons.mp hsk
  have hk1 : q32 a := hk1
  refine lv_imul hx0 hb hd  ?_
  have e0 : Value.int (Int32.ofInt (qw (a * b))) = Value.int (Int32.ofInt a * Int32.ofInt b) := by unfold qw; rw [Int32.ofInt_toInt, Int32.ofInt_mul]
  rw [← e0]
  exact K ls hE adE ⟨hi, hRm, hG, ⟨hl, hlk, List.forall_mem_cons.mpr ⟨q32_of _, hsk⟩⟩, hHk, hRep, hcs, hag⟩ hRc hRs hret
theorem Z_iand {b a : Int} (hd : decode cc pc = .ok (.iand, 1)) (hp : pc + 1 = pc') (k : zS y0 L xs cc own nL d rk pc' lv (qi (qand a b) :: st) h x) : zS y0 L xs cc own nL d rk pc lv (qi b :: qi a :: st) h x := by
  intro r h' hx
  refine ⟨(k r h' hx).1, ?_⟩
  intro p l e R s m args below meth c H locs cells slots Q D aC A ad Kc Ks ls hE adE B hRc hRs hret
  have K := (k r h' hx).2 p l e R s m args below meth c H locs cells slots Q D aC A ad Kc Ks
  obtain ⟨hi, hRm, hG, ⟨hl, hlk, hsk⟩, hHk, hRep, hcs, hag⟩ := B
  obtain ⟨hx0, hb, hml, hown⟩ := id hi
  subst hp
  show W p l e R s m args below meth c H locs cells slots Q (F0 m pc ls (Value.int (Int32.ofInt b) :: Value.int (Int32.ofInt a) :: st.map (q2 ad)))
  obtain ⟨hk0, hsk⟩ := List.forall_mem_cons.mp hsk
  have hk0 : q32 b := hk0
  obtain ⟨hk1, hsk⟩ := List.forall_mem_cons.mp hsk
  have hk1 : q32 a := hk1
  refine lv_iand hx0 hb hd  ?_
  have e0 : Value.int (Int32.ofInt (qand a b)) = Value.int (Int32.ofInt a &&& Int32.ofInt b) := by unfold qand; rw [Int32.ofInt_toInt]
  rw [← e0]
  exact K ls hE adE ⟨hi, hRm, hG, ⟨hl, hlk, List.forall_mem_cons.mpr ⟨q32_of _, hsk⟩⟩, hHk, hRep, hcs, hag⟩ hRc hRs hret
theorem Z_ior {b a : Int} (hd : decode cc pc = .ok (.ior, 1)) (hp : pc + 1 = pc') (k : zS y0 L xs cc own nL d rk pc' lv (qi (qor a b) :: st) h x) : zS y0 L xs cc own nL d rk pc lv (qi b :: qi a :: st) h x := by
  intro r h' hx
  refine ⟨(k r h' hx).1, ?_⟩
  intro p l e R s m args below meth c H locs cells slots Q D aC A ad Kc Ks ls hE adE B hRc hRs hret
  have K := (k r h' hx).2 p l e R s m args below meth c H locs cells slots Q D aC A ad Kc Ks
  obtain ⟨hi, hRm, hG, ⟨hl, hlk, hsk⟩, hHk, hRep, hcs, hag⟩ := B
  obtain ⟨hx0, hb, hml, hown⟩ := id hi
  subst hp
  show W p l e R s m args below meth c H locs cells slots Q (F0 m pc ls (Value.int (Int32.ofInt b) :: Value.int (Int32.ofInt a) :: st.map (q2 ad)))
  obtain ⟨hk0, hsk⟩ := List.forall_mem_cons.mp hsk
  have hk0 : q32 b := hk0
  obtain ⟨hk1, hsk⟩ := List.forall_mem_cons.mp hsk
  have hk1 : q32 a := hk1
  refine lv_ior hx0 hb hd  ?_
  have e0 : Value.int (Int32.ofInt (qor a b)) = Value.int (Int32.ofInt a ||| Int32.ofInt b) := by unfold qor; rw [Int32.ofInt_toInt]
  rw [← e0]
  exact K ls hE adE ⟨hi, hRm, hG, ⟨hl, hlk, List.forall_mem_cons.mpr ⟨q32_of _, hsk⟩⟩, hHk, hRep, hcs, hag⟩ hRc hRs hret
theorem Z_ixor {b a : Int} (hd : decode cc pc = .ok (.ixor, 1)) (hp : pc + 1 = pc') (k : zS y0 L xs cc own nL d rk pc' lv (qi (qxor a b) :: st) h x) : zS y0 L xs cc own nL d rk pc lv (qi b :: qi a :: st) h x := by
  intro r h' hx
  refine ⟨(k r h' hx).1, ?_⟩
  intro p l e R s m args below meth c H locs cells slots Q D aC A ad Kc Ks ls hE adE B hRc hRs hret
  have K := (k r h' hx).2 p l e R s m args below meth c H locs cells slots Q D aC A ad Kc Ks
  obtain ⟨hi, hRm, hG, ⟨hl, hlk, hsk⟩, hHk, hRep, hcs, hag⟩ := B
  obtain ⟨hx0, hb, hml, hown⟩ := id hi
  subst hp
  show W p l e R s m args below meth c H locs cells slots Q (F0 m pc ls (Value.int (Int32.ofInt b) :: Value.int (Int32.ofInt a) :: st.map (q2 ad)))
  obtain ⟨hk0, hsk⟩ := List.forall_mem_cons.mp hsk
  have hk0 : q32 b := hk0
  obtain ⟨hk1, hsk⟩ := List.forall_mem_cons.mp hsk
  have hk1 : q32 a := hk1
  refine lv_ixor hx0 hb hd  ?_
  have e0 : Value.int (Int32.ofInt (qxor a b)) = Value.int (Int32.ofInt a ^^^ Int32.ofInt b) := by unfold qxor; rw [Int32.ofInt_toInt]
  rw [← e0]
  exact K ls hE adE ⟨hi, hRm, hG, ⟨hl, hlk, List.forall_mem_cons.mpr ⟨q32_of _, hsk⟩⟩, hHk, hRep, hcs, hag⟩ hRc hRs hret
theorem Z_ishl {b a : Int} (hd : decode cc pc = .ok (.ishl, 1)) (hp : pc + 1 = pc') (k : zS y0 L xs cc own nL d rk pc' lv (qi (qshl a b) :: st) h x) : zS y0 L xs cc own nL d rk pc lv (qi b :: qi a :: st) h x := by
  intro r h' hx
  refine ⟨(k r h' hx).1, ?_⟩
  intro p l e R s m args below meth c H locs cells slots Q D aC A ad Kc Ks ls hE adE B hRc hRs hret
  have K := (k r h' hx).2 p l e R s m args below meth c H locs cells slots Q D aC A ad Kc Ks
  obtain ⟨hi, hRm, hG, ⟨hl, hlk, hsk⟩, hHk, hRep, hcs, hag⟩ := B
  obtain ⟨hx0, hb, hml, hown⟩ := id hi
  subst hp
  show W p l e R s m args below meth c H locs cells slots Q (F0 m pc ls (Value.int (Int32.ofInt b) :: Value.int (Int32.ofInt a) :: st.map (q2 ad)))
  obtain ⟨hk0, hsk⟩ := List.forall_mem_cons.mp hsk
  have hk0 : q32 b := hk0
  obtain ⟨hk1, hsk⟩ := List.forall_mem_cons.mp hsk
  have hk1 : q32 a := hk1
  refine lv_ishl hx0 hb hd  ?_
  have e0 : Value.int (Int32.ofInt (qshl a b)) = Value.int (Int32.ofInt a <<< (Int32.ofInt b &&& 31)) := by unfold qshl; rw [Int32.ofInt_toInt]
  rw [← e0]
  exact K ls hE adE ⟨hi, hRm, hG, ⟨hl, hlk, List.forall_mem_cons.mpr ⟨q32_of _, hsk⟩⟩, hHk, hRep, hcs, hag⟩ hRc hRs hret
theorem Z_ishr {b a : Int} (hd : decode cc pc = .ok (.ishr, 1)) (hp : pc + 1 = pc') (k : zS y0 L xs cc own nL d rk pc' lv (qi (qshr a b) :: st) h x) : zS y0 L xs cc own nL d rk pc lv (qi b :: qi a :: st) h x := by
  intro r h' hx
  refine ⟨(k r h' hx).1, ?_⟩
  intro p l e R s m args below meth c H locs cells slots Q D aC A ad Kc Ks ls hE adE B hRc hRs hret
  have K := (k r h' hx).2 p l e R s m args below meth c H locs cells slots Q D aC A ad Kc Ks
  obtain ⟨hi, hRm, hG, ⟨hl, hlk, hsk⟩, hHk, hRep, hcs, hag⟩ := B
  obtain ⟨hx0, hb, hml, hown⟩ := id hi
  subst hp
  show W p l e R s m args below meth c H locs cells slots Q (F0 m pc ls (Value.int (Int32.ofInt b) :: Value.int (Int32.ofInt a) :: st.map (q2 ad)))
  obtain ⟨hk0, hsk⟩ := List.forall_mem_cons.mp hsk
  have hk0 : q32 b := hk0
  obtain ⟨hk1, hsk⟩ := List.forall_mem_cons.mp hsk
  have hk1 : q32 a := hk1
  refine lv_ishr hx0 hb hd  ?_
  have e0 : Value.int (Int32.ofInt (qshr a b)) = Value.int (Int32.ofInt a >>> (Int32.ofInt b &&& 31)) := by unfold qshr; rw [Int32.ofInt_toInt]
  rw [← e0]
  exact K ls hE adE ⟨hi, hRm, hG, ⟨hl, hlk, List.forall_mem_cons.mpr ⟨q32_of _, hsk⟩⟩, hHk, hRep, hcs, hag⟩ hRc hRs hret
theorem Z_iushr {b a : Int} (hd : decode cc pc = .ok (.iushr, 1)) (hp : pc + 1 = pc') (k : zS y0 L xs cc own nL d rk pc' lv (qi (qush a b) :: st) h x) : zS y0 L xs cc own nL d rk pc lv (qi b :: qi a :: st) h x := by
  intro r h' hx
  refine ⟨(k r h' hx).1, ?_⟩
  intro p l e R s m args below meth c H locs cells slots Q D aC A ad Kc Ks ls hE adE B hRc hRs hret
  have K := (k r h' hx).2 p l e R s m args below meth c H locs cells slots Q D aC A ad Kc Ks
  obtain ⟨hi, hRm, hG, ⟨hl, hlk, hsk⟩, hHk, hRep, hcs, hag⟩ := B
  obtain ⟨hx0, hb, hml, hown⟩ := id hi
  subst hp
  show W p l e R s m args below meth c H locs cells slots Q (F0 m pc ls (Value.int (Int32.ofInt b) :: Value.int (Int32.ofInt a) :: st.map (q2 ad)))
  obtain ⟨hk0, hsk⟩ := List.forall_mem_cons.mp hsk
  have hk0 : q32 b := hk0
  obtain ⟨hk1, hsk⟩ := List.forall_mem_cons.mp hsk
  have hk1 : q32 a := hk1
  refine lv_iushr hx0 hb hd rfl ?_
  have e0 : Value.int (Int32.ofInt (qush a b)) = Value.int (((Int32.ofInt a).toUInt32 >>> ((Int32.ofInt b).toUInt32 &&& Int32.toUInt32 31)).toInt32) := by unfold qush; rw [Int32.ofInt_toInt]
  rw [← e0]
  exact K ls hE adE ⟨hi, hRm, hG, ⟨hl, hlk, List.forall_mem_cons.mpr ⟨q32_of _, hsk⟩⟩, hHk, hRep, hcs, hag⟩ hRc hRs hret
theorem Z_idiv {b a : Int} (hd : decode cc pc = .ok (.idiv, 1)) (hp : pc + 1 = pc') (hne : ¬ b = 0) (k : zS y0 L xs cc own nL d rk pc' lv (qi (qdiv a b) :: st) h x) : zS y0 L xs cc own nL d rk pc lv (qi b :: qi a :: st) h x := by
  intro r h' hx
  refine ⟨(k r h' hx).1, ?_⟩
  intro p l e R s m args below meth c H locs cells slots Q D aC A ad Kc Ks ls hE adE B hRc hRs hret
  have K := (k r h' hx).2 p l e R s m args below meth c H locs cells slots Q D aC A ad Kc Ks
  obtain ⟨hi, hRm, hG, ⟨hl, hlk, hsk⟩, hHk, hRep, hcs, hag⟩ := B
  obtain ⟨hx0, hb, hml, hown⟩ := id hi
  subst hp
  show W p l e R s m args below meth c H locs cells slots Q (F0 m pc ls (Value.int (Int32.ofInt b) :: Value.int (Int32.ofInt a) :: st.map (q2 ad)))
  obtain ⟨hk0, hsk⟩ := List.forall_mem_cons.mp hsk
  have hk0 : q32 b := hk0
  obtain ⟨hk1, hsk⟩ := List.forall_mem_cons.mp hsk
  have hk1 : q32 a := hk1
  refine lv_idiv hx0 hb hd (fun z => hne ((qe_eq hk0 qz_0).mp (by rw [z]; rfl))) ?_
  have e0 : Value.int (Int32.ofInt (qdiv a b)) = Value.int (Int32.ofInt a / Int32.ofInt b) := by unfold qdiv; rw [Int32.ofInt_toInt]
  rw [← e0]
  exact K ls hE adE ⟨hi, hRm, hG, ⟨hl, hlk, List.forall_mem_cons.mpr ⟨q32_of _, hsk⟩⟩, hHk, hRep, hcs, hag⟩ hRc hRs hret
theorem Z_irem {b a : Int} (hd : decode cc pc = .ok (.irem, 1)) (hp : pc + 1 = pc') (hne : ¬ b = 0) (k : zS y0 L xs cc own nL d rk pc' lv (qi (qrem a b) :: st) h x) : zS y0 L xs cc own nL d rk pc lv (qi b :: qi a :: st) h x := by
  intro r h' hx
  refine ⟨(k r h' hx).1, ?_⟩
  intro p l e R s m args below meth c H locs cells slots Q D aC A ad Kc Ks ls hE adE B hRc hRs hret
  have K := (k r h' hx).2 p l e R s m args below meth c H locs cells slots Q D aC A ad Kc Ks
  obtain ⟨hi, hRm, hG, ⟨hl, hlk, hsk⟩, hHk, hRep, hcs, hag⟩ := B
  obtain ⟨hx0, hb, hml, hown⟩ := id hi
  subst hp
  show W p l e R s m args below meth c H locs cells slots Q (F0 m pc ls (Value.int (Int32.ofInt b) :: Value.int (Int32.ofInt a) :: st.map (q2 ad)))
  obtain ⟨hk0, hsk⟩ := List.forall_mem_cons.mp hsk
  have hk0 : q32 b := hk0
  obtain ⟨hk1, hsk⟩ := List.forall_mem_cons.mp hsk
  have hk1 : q32 a := hk1
  refine lv_irem hx0 hb hd (fun z => hne ((qe_eq hk0 qz_0).mp (by rw [z]; rfl))) ?_
  have e0 : Value.int (Int32.ofInt (qrem a b)) = Value.int (Int32.ofInt a - Int32.ofInt a / Int32.ofInt b * Int32.ofInt b) := by unfold qrem; rw [Int32.ofInt_toInt]
  rw [← e0]
  exact K ls hE adE ⟨hi, hRm, hG, ⟨hl, hlk, List.forall_mem_cons.mpr ⟨q32_of _, hsk⟩⟩, hHk, hRep, hcs, hag⟩ hRc hRs hret
theorem Z_i2b {a : Int} (hd : decode cc pc = .ok (.i2b, 1)) (hp : pc + 1 = pc') (k : zS y0 L xs cc own nL d rk pc' lv (qi (qb8 a) :: st) h x) : zS y0 L xs cc own nL d rk pc lv (qi a :: st) h x := by
  intro r h' hx
  refine ⟨(k r h' hx).1, ?_⟩
  intro p l e R s m args below meth c H locs cells slots Q D aC A ad Kc Ks ls hE adE B hRc hRs hret
  have K := (k r h' hx).2 p l e R s m args below meth c H locs cells slots Q D aC A ad Kc Ks
  obtain ⟨hi, hRm, hG, ⟨hl, hlk, hsk⟩, hHk, hRep, hcs, hag⟩ := B
  obtain ⟨hx0, hb, hml, hown⟩ := id hi
  subst hp
  show W p l e R s m args below meth c H locs cells slots Q (F0 m pc ls (Value.int (Int32.ofInt a) :: st.map (q2 ad)))
  obtain ⟨hk0, hsk⟩ := List.forall_mem_cons.mp hsk
  have hk0 : q32 a := hk0
  refine lv_i2b hx0 hb hd rfl ?_
  have e0 : Value.int (Int32.ofInt (qb8 a)) = Value.int ((Int32.ofInt a).toInt8.toInt32) := by unfold qb8; rw [Int32.ofInt_toInt]
  rw [← e0]
  exact K ls hE adE ⟨hi, hRm, hG, ⟨hl, hlk, List.forall_mem_cons.mpr ⟨q32_of _, hsk⟩⟩, hHk, hRep, hcs, hag⟩ hRc hRs hret
theorem Z_i2s {a : Int} (hd : decode cc pc = .ok (.i2s, 1)) (hp : pc + 1 = pc') (k : zS y0 L xs cc own nL d rk pc' lv (qi (qs16 a) :: st) h x) : zS y0 L xs cc own nL d rk pc lv (qi a :: st) h x := by
  intro r h' hx
  refine ⟨(k r h' hx).1, ?_⟩
  intro p l e R s m args below meth c H locs cells slots Q D aC A ad Kc Ks ls hE adE B hRc hRs hret
  have K := (k r h' hx).2 p l e R s m args below meth c H locs cells slots Q D aC A ad Kc Ks
  obtain ⟨hi, hRm, hG, ⟨hl, hlk, hsk⟩, hHk, hRep, hcs, hag⟩ := B
  obtain ⟨hx0, hb, hml, hown⟩ := id hi
  subst hp
  show W p l e R s m args below meth c H locs cells slots Q (F0 m pc ls (Value.int (Int32.ofInt a) :: st.map (q2 ad)))
  obtain ⟨hk0, hsk⟩ := List.forall_mem_cons.mp hsk
  have hk0 : q32 a := hk0
  refine lv_i2s hx0 hb hd rfl ?_
  have e0 : Value.int (Int32.ofInt (qs16 a)) = Value.int ((Int32.ofInt a).toInt16.toInt32) := by unfold qs16; rw [Int32.ofInt_toInt]
  rw [← e0]
  exact K ls hE adE ⟨hi, hRm, hG, ⟨hl, hlk, List.forall_mem_cons.mpr ⟨q32_of _, hsk⟩⟩, hHk, hRep, hcs, hag⟩ hRc hRs hret
theorem Z_i2c {a : Int} (hd : decode cc pc = .ok (.i2c, 1)) (hp : pc + 1 = pc') (k : zS y0 L xs cc own nL d rk pc' lv (qi (qc16 a) :: st) h x) : zS y0 L xs cc own nL d rk pc lv (qi a :: st) h x := by
  intro r h' hx
  refine ⟨(k r h' hx).1, ?_⟩
  intro p l e R s m args below meth c H locs cells slots Q D aC A ad Kc Ks ls hE adE B hRc hRs hret
  have K := (k r h' hx).2 p l e R s m args below meth c H locs cells slots Q D aC A ad Kc Ks
  obtain ⟨hi, hRm, hG, ⟨hl, hlk, hsk⟩, hHk, hRep, hcs, hag⟩ := B
  obtain ⟨hx0, hb, hml, hown⟩ := id hi
  subst hp
  show W p l e R s m args below meth c H locs cells slots Q (F0 m pc ls (Value.int (Int32.ofInt a) :: st.map (q2 ad)))
  obtain ⟨hk0, hsk⟩ := List.forall_mem_cons.mp hsk
  have hk0 : q32 a := hk0
  refine lv_i2c hx0 hb hd rfl ?_
  have e0 : Value.int (Int32.ofInt (qc16 a)) = Value.int (((Int32.ofInt a).toUInt32 % 65536).toInt32) := by unfold qc16; rw [Int32.ofInt_toInt]
  rw [← e0]
  exact K ls hE adE ⟨hi, hRm, hG, ⟨hl, hlk, List.forall_mem_cons.mpr ⟨q32_of _, hsk⟩⟩, hHk, hRep, hcs, hag⟩ hRc hRs hret
theorem Z_i2l {a : Int} (hd : decode cc pc = .ok (.i2l, 1)) (hp : pc + 1 = pc') (k : zS y0 L xs cc own nL d rk pc' lv (ql (a) :: st) h x) : zS y0 L xs cc own nL d rk pc lv (qi a :: st) h x := by
  intro r h' hx
  refine ⟨(k r h' hx).1, ?_⟩
  intro p l e R s m args below meth c H locs cells slots Q D aC A ad Kc Ks ls hE adE B hRc hRs hret
  have K := (k r h' hx).2 p l e R s m args below meth c H locs cells slots Q D aC A ad Kc Ks
  obtain ⟨hi, hRm, hG, ⟨hl, hlk, hsk⟩, hHk, hRep, hcs, hag⟩ := B
  obtain ⟨hx0, hb, hml, hown⟩ := id hi
  subst hp
  show W p l e R s m args below meth c H locs cells slots Q (F0 m pc ls (Value.int (Int32.ofInt a) :: st.map (q2 ad)))
  obtain ⟨hk0, hsk⟩ := List.forall_mem_cons.mp hsk
  have hk0 : q32 a := hk0
  refine lv_i2l hx0 hb hd rfl ?_
  have e0 : Value.long (Int64.ofInt (a)) = Value.long (Int32.ofInt a).toInt64 := by rw [← Int64.ofInt_toInt ((Int32.ofInt a).toInt64), Int32.toInt_toInt64, q32_i hk0]
  rw [← e0]
  exact K ls hE adE ⟨hi, hRm, hG, ⟨hl, hlk, List.forall_mem_cons.mpr ⟨q32_64 hk0, hsk⟩⟩, hHk, hRep, hcs, hag⟩ hRc hRs hret
theorem Z_l2i {a : Int} (hd : decode cc pc = .ok (.l2i, 1)) (hp : pc + 1 = pc') (k : zS y0 L xs cc own nL d rk pc' lv (qi (qw a) :: st) h x) : zS y0 L xs cc own nL d rk pc lv (ql a :: st) h x := by
  intro r h' hx
  refine ⟨(k r h' hx).1, ?_⟩
  intro p l e R s m args below meth c H locs cells slots Q D aC A ad Kc Ks ls hE adE B hRc hRs hret
  have K := (k r h' hx).2 p l e R s m args below meth c H locs cells slots Q D aC A ad Kc Ks
  obtain ⟨hi, hRm, hG, ⟨hl, hlk, hsk⟩, hHk, hRep, hcs, hag⟩ := B
  obtain ⟨hx0, hb, hml, hown⟩ := id hi
  subst hp
  show W p l e R s m args below meth c H locs cells slots Q (F0 m pc ls (Value.long (Int64.ofInt a) :: st.map (q2 ad)))
  obtain ⟨hk0, hsk⟩ := List.forall_mem_cons.mp hsk
  have hk0 : q64 a := hk0
  refine lv_l2i hx0 hb hd rfl ?_
  have e0 : Value.int (Int32.ofInt (qw a)) = Value.int (Int64.ofInt a).toInt32 := by rw [← Int32.ofInt_toInt ((Int64.ofInt a).toInt32), Int64.toInt_toInt32, q64_i hk0]; unfold qw; rw [Int32.toInt_ofInt]
  rw [← e0]
  exact K ls hE adE ⟨hi, hRm, hG, ⟨hl, hlk, List.forall_mem_cons.mpr ⟨q32_of _, hsk⟩⟩, hHk, hRep, hcs, hag⟩ hRc hRs hret
theorem Z_ladd {b a : Int} (hd : decode cc pc = .ok (.ladd, 1)) (hp : pc + 1 = pc') (k : zS y0 L xs cc own nL d rk pc' lv (ql (qwl (a + b)) :: st) h x) : zS y0 L xs cc own nL d rk pc lv (ql b :: ql a :: st) h x := by
  intro r h' hx
  refine ⟨(k r h' hx).1, ?_⟩
  intro p l e R s m args below meth c H locs cells slots Q D aC A ad Kc Ks ls hE adE B hRc hRs hret
  have K := (k r h' hx).2 p l e R s m args below meth c H locs cells slots Q D aC A ad Kc Ks
  obtain ⟨hi, hRm, hG, ⟨hl, hlk, hsk⟩, hHk, hRep, hcs, hag⟩ := B
  obtain ⟨hx0, hb, hml, hown⟩ := id hi
  subst hp
  show W p l e R s m args below meth c H locs cells slots Q (F0 m pc ls (Value.long (Int64.ofInt b) :: Value.long (Int64.ofInt a) :: st.map (q2 ad)))
  obtain ⟨hk0, hsk⟩ := List.forall_mem_cons.mp hsk
  have hk0 : q64 b := hk0
  obtain ⟨hk1, hsk⟩ := List.forall_mem_cons.mp hsk
  have hk1 : q64 a := hk1
  refine lv_ladd hx0 hb hd  ?_
  have e0 : Value.long (Int64.ofInt (qwl (a + b))) = Value.long (Int64.ofInt a + Int64.ofInt b) := by unfold qwl; rw [Int64.ofInt_toInt, Int64.ofInt_add]
  rw [← e0]
  exact K ls hE adE ⟨hi, hRm, hG, ⟨hl, hlk, List.forall_mem_cons.mpr ⟨q64_of _, hsk⟩⟩, hHk, hRep, hcs, hag⟩ hRc hRs hret
theorem Z_lsub {b a : Int} (hd : decode cc pc = .ok (.lsub, 1)) (hp : pc + 1 = pc') (k : zS y0 L xs cc own nL d rk pc' lv (ql (qwl (a - b)) :: st) h x) : zS y0 L xs cc own nL d rk pc lv (ql b :: ql a :: st) h x := by
  intro r h' hx
  refine ⟨(k r h' hx).1, ?_⟩
  intro p l e R s m args below meth c H locs cells slots Q D aC A ad Kc Ks ls hE adE B hRc hRs hret
  have K := (k r h' hx).2 p l e R s m args below meth c H locs cells slots Q D aC A ad Kc Ks
  obtain ⟨hi, hRm, hG, ⟨hl, hlk, hsk⟩, hHk, hRep, hcs, hag⟩ := B
  obtain ⟨hx0, hb, hml, hown⟩ := id hi
  subst hp
  show W p l e R s m args below meth c H locs cells slots Q (F0 m pc ls (Value.long (Int64.ofInt b) :: Value.long (Int64.ofInt a) :: st.map (q2 ad)))
  obtain ⟨hk0, hsk⟩ := List.forall_mem_cons.mp hsk
  have hk0 : q64 b := hk0
  obtain ⟨hk1, hsk⟩ := List.forall_mem_cons.mp hsk
  have hk1 : q64 a := hk1
  refine lv_lsub hx0 hb hd  ?_
  have e0 : Value.long (Int64.ofInt (qwl (a - b))) = Value.long (Int64.ofInt a - Int64.ofInt b) := by unfold qwl; rw [Int64.ofInt_toInt, Int64.ofInt_sub]
  rw [← e0]
  exact K ls hE adE ⟨hi, hRm, hG, ⟨hl, hlk, List.forall_mem_cons.mpr ⟨q64_of _, hsk⟩⟩, hHk, hRep, hcs, hag⟩ hRc hRs hret
theorem Z_lmul {b a : Int} (hd : decode cc pc = .ok (.lmul, 1)) (hp : pc + 1 = pc') (k : zS y0 L xs cc own nL d rk pc' lv (ql (qwl (a * b)) :: st) h x) : zS y0 L xs cc own nL d rk pc lv (ql b :: ql a :: st) h x := by
  intro r h' hx
  refine ⟨(k r h' hx).1, ?_⟩
  intro p l e R s m args below meth c H locs cells slots Q D aC A ad Kc Ks ls hE adE B hRc hRs hret
  have K := (k r h' hx).2 p l e R s m args below meth c H locs cells slots Q D aC A ad Kc Ks
  obtain ⟨hi, hRm, hG, ⟨hl, hlk, hsk⟩, hHk, hRep, hcs, hag⟩ := B
  obtain ⟨hx0, hb, hml, hown⟩ := id hi
  subst hp
  show W p l e R s m args below meth c H locs cells slots Q (F0 m pc ls (Value.long (Int64.ofInt b) :: Value.long (Int64.ofInt a) :: st.map (q2 ad)))
  obtain ⟨hk0, hsk⟩ := List.forall_mem_cons.mp hsk
  have hk0 : q64 b := hk0
  obtain ⟨hk1, hsk⟩ := List.forall_mem_cons.mp hsk
  have hk1 : q64 a := hk1
  refine lv_lmul hx0 hb hd  ?_
  have e0 : Value.long (Int64.ofInt (qwl (a * b))) = Value.long (Int64.ofInt a * Int64.ofInt b) := by unfold qwl; rw [Int64.ofInt_toInt, Int64.ofInt_mul]
  rw [← e0]
  exact K ls hE adE ⟨hi, hRm, hG, ⟨hl, hlk, List.forall_mem_cons.mpr ⟨q64_of _, hsk⟩⟩, hHk, hRep, hcs, hag⟩ hRc hRs hret
theorem Z_land {b a : Int} (hd : decode cc pc = .ok (.land, 1)) (hp : pc + 1 = pc') (k : zS y0 L xs cc own nL d rk pc' lv (ql (qandl a b) :: st) h x) : zS y0 L xs cc own nL d rk pc lv (ql b :: ql a :: st) h x := by
  intro r h' hx
  refine ⟨(k r h' hx).1, ?_⟩
  intro p l e R s m args below meth c H locs cells slots Q D aC A ad Kc Ks ls hE adE B hRc hRs hret
  have K := (k r h' hx).2 p l e R s m args below meth c H locs cells slots Q D aC A ad Kc Ks
  obtain ⟨hi, hRm, hG, ⟨hl, hlk, hsk⟩, hHk, hRep, hcs, hag⟩ := B
  obtain ⟨hx0, hb, hml, hown⟩ := id hi
  subst hp
  show W p l e R s m args below meth c H locs cells slots Q (F0 m pc ls (Value.long (Int64.ofInt b) :: Value.long (Int64.ofInt a) :: st.map (q2 ad)))
  obtain ⟨hk0, hsk⟩ := List.forall_mem_cons.mp hsk
  have hk0 : q64 b := hk0
  obtain ⟨hk1, hsk⟩ := List.forall_mem_cons.mp hsk
  have hk1 : q64 a := hk1
  refine lv_land hx0 hb hd  ?_
  have e0 : Value.long (Int64.ofInt (qandl a b)) = Value.long (Int64.ofInt a &&& Int64.ofInt b) := by unfold qandl; rw [Int64.ofInt_toInt]
  rw [← e0]
  exact K ls hE adE ⟨hi, hRm, hG, ⟨hl, hlk, List.forall_mem_cons.mpr ⟨q64_of _, hsk⟩⟩, hHk, hRep, hcs, hag⟩ hRc hRs hret
theorem Z_lor {b a : Int} (hd : decode cc pc = .ok (.lor, 1)) (hp : pc + 1 = pc') (k : zS y0 L xs cc own nL d rk pc' lv (ql (qorl a b) :: st) h x) : zS y0 L xs cc own nL d rk pc lv (ql b :: ql a :: st) h x := by
  intro r h' hx
  refine ⟨(k r h' hx).1, ?_⟩
  intro p l e R s m args below meth c H locs cells slots Q D aC A ad Kc Ks ls hE adE B hRc hRs hret
  have K := (k r h' hx).2 p l e R s m args below meth c H locs cells slots Q D aC A ad Kc Ks
  obtain ⟨hi, hRm, hG, ⟨hl, hlk, hsk⟩, hHk, hRep, hcs, hag⟩ := B
  obtain ⟨hx0, hb, hml, hown⟩ := id hi
  subst hp
  show W p l e R s m args below meth c H locs cells slots Q (F0 m pc ls (Value.long (Int64.ofInt b) :: Value.long (Int64.ofInt a) :: st.map (q2 ad)))
  obtain ⟨hk0, hsk⟩ := List.forall_mem_cons.mp hsk
  have hk0 : q64 b := hk0
  obtain ⟨hk1, hsk⟩ := List.forall_mem_cons.mp hsk
  have hk1 : q64 a := hk1
  refine lv_lor hx0 hb hd  ?_
  have e0 : Value.long (Int64.ofInt (qorl a b)) = Value.long (Int64.ofInt a ||| Int64.ofInt b) := by unfold qorl; rw [Int64.ofInt_toInt]
  rw [← e0]
  exact K ls hE adE ⟨hi, hRm, hG, ⟨hl, hlk, List.forall_mem_cons.mpr ⟨q64_of _, hsk⟩⟩, hHk, hRep, hcs, hag⟩ hRc hRs hret
theorem Z_lxor {b a : Int} (hd : decode cc pc = .ok (.lxor, 1)) (hp : pc + 1 = pc') (k : zS y0 L xs cc own nL d rk pc' lv (ql (qxorl a b) :: st) h x) : zS y0 L xs cc own nL d rk pc lv (ql b :: ql a :: st) h x := by
  intro r h' hx
  refine ⟨(k r h' hx).1, ?_⟩
  intro p l e R s m args below meth c H locs cells slots Q D aC A ad Kc Ks ls hE adE B hRc hRs hret
  have K := (k r h' hx).2 p l e R s m args below meth c H locs cells slots Q D aC A ad Kc Ks
  obtain ⟨hi, hRm, hG, ⟨hl, hlk, hsk⟩, hHk, hRep, hcs, hag⟩ := B
  obtain ⟨hx0, hb, hml, hown⟩ := id hi
  subst hp
  show W p l e R s m args below meth c H locs cells slots Q (F0 m pc ls (Value.long (Int64.ofInt b) :: Value.long (Int64.ofInt a) :: st.map (q2 ad)))
  obtain ⟨hk0, hsk⟩ := List.forall_mem_cons.mp hsk
  have hk0 : q64 b := hk0
  obtain ⟨hk1, hsk⟩ := List.forall_mem_cons.mp hsk
  have hk1 : q64 a := hk1
  refine lv_lxor hx0 hb hd  ?_
  have e0 : Value.long (Int64.ofInt (qxorl a b)) = Value.long (Int64.ofInt a ^^^ Int64.ofInt b) := by unfold qxorl; rw [Int64.ofInt_toInt]
  rw [← e0]
  exact K ls hE adE ⟨hi, hRm, hG, ⟨hl, hlk, List.forall_mem_cons.mpr ⟨q64_of _, hsk⟩⟩, hHk, hRep, hcs, hag⟩ hRc hRs hret
theorem Z_ldiv {b a : Int} (hd : decode cc pc = .ok (.ldiv, 1)) (hp : pc + 1 = pc') (hne : ¬ b = 0) (k : zS y0 L xs cc own nL d rk pc' lv (ql (qdivl a b) :: st) h x) : zS y0 L xs cc own nL d rk pc lv (ql b :: ql a :: st) h x := by
  intro r h' hx
  refine ⟨(k r h' hx).1, ?_⟩
  intro p l e R s m args below meth c H locs cells slots Q D aC A ad Kc Ks ls hE adE B hRc hRs hret
  have K := (k r h' hx).2 p l e R s m args below meth c H locs cells slots Q D aC A ad Kc Ks
  obtain ⟨hi, hRm, hG, ⟨hl, hlk, hsk⟩, hHk, hRep, hcs, hag⟩ := B
  obtain ⟨hx0, hb, hml, hown⟩ := id hi
  subst hp
  show W p l e R s m args below meth c H locs cells slots Q (F0 m pc ls (Value.long (Int64.ofInt b) :: Value.long (Int64.ofInt a) :: st.map (q2 ad)))
  obtain ⟨hk0, hsk⟩ := List.forall_mem_cons.mp hsk
  have hk0 : q64 b := hk0
  obtain ⟨hk1, hsk⟩ := List.forall_mem_cons.mp hsk
  have hk1 : q64 a := hk1
  refine lv_ldiv hx0 hb hd (fun z => hne (by have z2 := congrArg Int64.toInt z; rw [q64_i hk0] at z2; simpa using z2)) ?_
  have e0 : Value.long (Int64.ofInt (qdivl a b)) = Value.long (Int64.ofInt a / Int64.ofInt b) := by unfold qdivl; rw [Int64.ofInt_toInt]
  rw [← e0]
  exact K ls hE adE ⟨hi, hRm, hG, ⟨hl, hlk, List.forall_mem_cons.mpr ⟨q64_of _, hsk⟩⟩, hHk, hRep, hcs, hag⟩ hRc hRs hret
theorem Z_lrem {b a : Int} (hd : decode cc pc = .ok (.lrem, 1)) (hp : pc + 1 = pc') (hne : ¬ b = 0) (k : zS y0 L xs cc own nL d rk pc' lv (ql (qreml a b) :: st) h x) : zS y0 L xs cc own nL d rk pc lv (ql b :: ql a :: st) h x := by
  intro r h' hx
  refine ⟨(k r h' hx).1, ?_⟩
  intro p l e R s m args below meth c H locs cells slots Q D aC A ad Kc Ks ls hE adE B hRc hRs hret
  have K := (k r h' hx).2 p l e R s m args below meth c H locs cells slots Q D aC A ad Kc Ks
  obtain ⟨hi, hRm, hG, ⟨hl, hlk, hsk⟩, hHk, hRep, hcs, hag⟩ := B
  obtain ⟨hx0, hb, hml, hown⟩ := id hi
  subst hp
  show W p l e R s m args below meth c H locs cells slots Q (F0 m pc ls (Value.long (Int64.ofInt b) :: Value.long (Int64.ofInt a) :: st.map (q2 ad)))
  obtain ⟨hk0, hsk⟩ := List.forall_mem_cons.mp hsk
  have hk0 : q64 b := hk0
  obtain ⟨hk1, hsk⟩ := List.forall_mem_cons.mp hsk
  have hk1 : q64 a := hk1
  refine lv_lrem hx0 hb hd (fun z => hne (by have z2 := congrArg Int64.toInt z; rw [q64_i hk0] at z2; simpa using z2)) ?_
  have e0 : Value.long (Int64.ofInt (qreml a b)) = Value.long (Int64.ofInt a - Int64.ofInt a / Int64.ofInt b * Int64.ofInt b) := by unfold qreml; rw [Int64.ofInt_toInt]
  rw [← e0]
  exact K ls hE adE ⟨hi, hRm, hG, ⟨hl, hlk, List.forall_mem_cons.mpr ⟨q64_of _, hsk⟩⟩, hHk, hRep, hcs, hag⟩ hRc hRs hret
theorem Z_lshl {b a : Int} (hd : decode cc pc = .ok (.lshl, 1)) (hp : pc + 1 = pc') (k : zS y0 L xs cc own nL d rk pc' lv (ql (qshll a b) :: st) h x) : zS y0 L xs cc own nL d rk pc lv (qi b :: ql a :: st) h x := by
  intro r h' hx
  refine ⟨(k r h' hx).1, ?_⟩
  intro p l e R s m args below meth c H locs cells slots Q D aC A ad Kc Ks ls hE adE B hRc hRs hret
  have K := (k r h' hx).2 p l e R s m args below meth c H locs cells slots Q D aC A ad Kc Ks
  obtain ⟨hi, hRm, hG, ⟨hl, hlk, hsk⟩, hHk, hRep, hcs, hag⟩ := B
  obtain ⟨hx0, hb, hml, hown⟩ := id hi
  subst hp
  show W p l e R s m args below meth c H locs cells slots Q (F0 m pc ls (Value.int (Int32.ofInt b) :: Value.long (Int64.ofInt a) :: st.map (q2 ad)))
  obtain ⟨hk0, hsk⟩ := List.forall_mem_cons.mp hsk
  have hk0 : q32 b := hk0
  obtain ⟨hk1, hsk⟩ := List.forall_mem_cons.mp hsk
  have hk1 : q64 a := hk1
  refine lv_lshl hx0 hb hd rfl ?_
  have e0 : Value.long (Int64.ofInt (qshll a b)) = Value.long (Int64.ofInt a <<< ((Int32.ofInt b).toInt64 &&& 63)) := by unfold qshll; rw [Int64.ofInt_toInt]
  rw [← e0]
  exact K ls hE adE ⟨hi, hRm, hG, ⟨hl, hlk, List.forall_mem_cons.mpr ⟨q64_of _, hsk⟩⟩, hHk, hRep, hcs, hag⟩ hRc hRs hret
theorem Z_lshr {b a : Int} (hd : decode cc pc = .ok (.lshr, 1)) (hp : pc + 1 = pc') (k : zS y0 L xs cc own nL d rk pc' lv (ql (qshrl a b) :: st) h x) : zS y0 L xs cc own nL d rk pc lv (qi b :: ql a :: st) h x := by
  intro r h' hx
  refine ⟨(k r h' hx).1, ?_⟩
  intro p l e R s m args below meth c H locs cells slots Q D aC A ad Kc Ks ls hE adE B hRc hRs hret
  have K := (k r h' hx).2 p l e R s m args below meth c H locs cells slots Q D aC A ad Kc Ks
  obtain ⟨hi, hRm, hG, ⟨hl, hlk, hsk⟩, hHk, hRep, hcs, hag⟩ := B
  obtain ⟨hx0, hb, hml, hown⟩ := id hi
  subst hp
  show W p l e R s m args below meth c H locs cells slots Q (F0 m pc ls (Value.int (Int32.ofInt b) :: Value.long (Int64.ofInt a) :: st.map (q2 ad)))
  obtain ⟨hk0, hsk⟩ := List.forall_mem_cons.mp hsk
  have hk0 : q32 b := hk0
  obtain ⟨hk1, hsk⟩ := List.forall_mem_cons.mp hsk
  have hk1 : q64 a := hk1
  refine lv_lshr hx0 hb hd rfl ?_
  have e0 : Value.long (Int64.ofInt (qshrl a b)) = Value.long (Int64.ofInt a >>> ((Int32.ofInt b).toInt64 &&& 63)) := by unfold qshrl; rw [Int64.ofInt_toInt]
  rw [← e0]
  exact K ls hE adE ⟨hi, hRm, hG, ⟨hl, hlk, List.forall_mem_cons.mpr ⟨q64_of _, hsk⟩⟩, hHk, hRep, hcs, hag⟩ hRc hRs hret
theorem Z_lcmp {b a : Int} (hd : decode cc pc = .ok (.lcmp, 1)) (hp : pc + 1 = pc') (k : zS y0 L xs cc own nL d rk pc' lv (qi (qcmp a b) :: st) h x) : zS y0 L xs cc own nL d rk pc lv (ql b :: ql a :: st) h x := by
  intro r h' hx
  refine ⟨(k r h' hx).1, ?_⟩
  intro p l e R s m args below meth c H locs cells slots Q D aC A ad Kc Ks ls hE adE B hRc hRs hret
  have K := (k r h' hx).2 p l e R s m args below meth c H locs cells slots Q D aC A ad Kc Ks
  obtain ⟨hi, hRm, hG, ⟨hl, hlk, hsk⟩, hHk, hRep, hcs, hag⟩ := B
  obtain ⟨hx0, hb, hml, hown⟩ := id hi
  subst hp
  show W p l e R s m args below meth c H locs cells slots Q (F0 m pc ls (Value.long (Int64.ofInt b) :: Value.long (Int64.ofInt a) :: st.map (q2 ad)))
  obtain ⟨hk0, hsk⟩ := List.forall_mem_cons.mp hsk
  have hk0 : q64 b := hk0
  obtain ⟨hk1, hsk⟩ := List.forall_mem_cons.mp hsk
  have hk1 : q64 a := hk1
  refine W.lcmp hx0 hb hd  ?_
  have e0 : Value.int (Int32.ofInt (qcmp a b)) = Value.int (lg_cmp (Int64.ofInt a) (Int64.ofInt b)) := by 
    have c1 : (Int64.ofInt a > Int64.ofInt b) ↔ b < a := by rw [gt_iff_lt, Int64.lt_iff_toInt_lt, q64_i hk1, q64_i hk0]
    have c2 : (Int64.ofInt a = Int64.ofInt b) ↔ a = b := by rw [← Int64.toInt_inj, q64_i hk1, q64_i hk0]
    unfold qcmp lg_cmp
    by_cases g1 : a < b
    · rw [if_pos g1, if_neg (fun z => by have := c1.mp z; omega), if_neg (fun z => by have := c2.mp z; omega)]; rfl
    · rw [if_neg g1]
      by_cases g2 : a = b
      · rw [if_pos g2, if_neg (fun z => by have := c1.mp z; omega), if_pos (c2.mpr g2)]; rfl
      · rw [if_neg g2, if_pos (c1.mpr (by omega))]; rfl
  rw [← e0]
  exact K ls hE adE ⟨hi, hRm, hG, ⟨hl, hlk, List.forall_mem_cons.mpr ⟨(by show q32 (qcmp a b); unfold qcmp q32; by_cases g1 : a < b <;> by_cases g2 : a = b <;> simp [g1, g2]), hsk⟩⟩, hHk, hRep, hcs, hag⟩ hRc hRs hret
theorem Z_iconst {a : Int} (hd : decode cc pc = .ok (.iconst a, 1)) (hp : pc + 1 = pc') (hv : q32 a) (k : zS y0 L xs cc own nL d rk pc' lv (qi (a) :: st) h x) : zS y0 L xs cc own nL d rk pc lv (st) h x := by
  intro r h' hx
  refine ⟨(k r h' hx).1, ?_⟩
  intro p l e R s m args below meth c H locs cells slots Q D aC A ad Kc Ks ls hE adE B hRc hRs hret
  have K := (k r h' hx).2 p l e R s m args below meth c H locs cells slots Q D aC A ad Kc Ks
  obtain ⟨hi, hRm, hG, ⟨hl, hlk, hsk⟩, hHk, hRep, hcs, hag⟩ := B
  obtain ⟨hx0, hb, hml, hown⟩ := id hi
  subst hp
  show W p l e R s m args below meth c H locs cells slots Q (F0 m pc ls (st.map (q2 ad)))
  refine lv_iconst hx0 hb hd (rfl : Int32.ofInt a = Int32.ofInt a) ?_
  have e0 : Value.int (Int32.ofInt (a)) = Value.int (Int32.ofInt a) := by rfl
  rw [← e0]
  exact K ls hE adE ⟨hi, hRm, hG, ⟨hl, hlk, List.forall_mem_cons.mpr ⟨hv, hsk⟩⟩, hHk, hRep, hcs, hag⟩ hRc hRs hret
theorem Z_bipush {a : Int} (hd : decode cc pc = .ok (.bipush a, 2)) (hp : pc + 2 = pc') (hv : (Int8.ofInt a).toInt32 = Int32.ofInt a) (hq : q32 a) (k : zS y0 L xs cc own nL d rk pc' lv (qi (a) :: st) h x) : zS y0 L xs cc own nL d rk pc lv (st) h x := by
  intro r h' hx
  refine ⟨(k r h' hx).1, ?_⟩
  intro p l e R s m args below meth c H locs cells slots Q D aC A ad Kc Ks ls hE adE B hRc hRs hret
  have K := (k r h' hx).2 p l e R s m args below meth c H locs cells slots Q D aC A ad Kc Ks
  obtain ⟨hi, hRm, hG, ⟨hl, hlk, hsk⟩, hHk, hRep, hcs, hag⟩ := B
  obtain ⟨hx0, hb, hml, hown⟩ := id hi
  subst hp
  show W p l e R s m args below meth c H locs cells slots Q (F0 m pc ls (st.map (q2 ad)))
  refine lv_bipush hx0 hb hd hv ?_
  have e0 : Value.int (Int32.ofInt (a)) = Value.int (Int32.ofInt a) := by rfl
  rw [← e0]
  exact K ls hE adE ⟨hi, hRm, hG, ⟨hl, hlk, List.forall_mem_cons.mpr ⟨hq, hsk⟩⟩, hHk, hRep, hcs, hag⟩ hRc hRs hret
theorem Z_sipush {a : Int} (hd : decode cc pc = .ok (.sipush a, 3)) (hp : pc + 3 = pc') (hv : (Int16.ofInt a).toInt32 = Int32.ofInt a) (hq : q32 a) (k : zS y0 L xs cc own nL d rk pc' lv (qi (a) :: st) h x) : zS y0 L xs cc own nL d rk pc lv (st) h x := by
  intro r h' hx
  refine ⟨(k r h' hx).1, ?_⟩
  intro p l e R s m args below meth c H locs cells slots Q D aC A ad Kc Ks ls hE adE B hRc hRs hret
  have K := (k r h' hx).2 p l e R s m args below meth c H locs cells slots Q D aC A ad Kc Ks
  obtain ⟨hi, hRm, hG, ⟨hl, hlk, hsk⟩, hHk, hRep, hcs, hag⟩ := B
  obtain ⟨hx0, hb, hml, hown⟩ := id hi
  subst hp
  show W p l e R s m args below meth c H locs cells slots Q (F0 m pc ls (st.map (q2 ad)))
  refine lv_sipush hx0 hb hd hv ?_
  have e0 : Value.int (Int32.ofInt (a)) = Value.int (Int32.ofInt a) := by rfl
  rw [← e0]
  exact K ls hE adE ⟨hi, hRm, hG, ⟨hl, hlk, List.forall_mem_cons.mpr ⟨hq, hsk⟩⟩, hHk, hRep, hcs, hag⟩ hRc hRs hret
theorem Z_lconst {a : Int} {n : Fin 2} (hd : decode cc pc = .ok (.lconst n, 1)) (hp : pc + 1 = pc') (hv : Int64.ofNat (n : Nat) = Int64.ofInt a) (hq : q64 a) (k : zS y0 L xs cc own nL d rk pc' lv (ql (a) :: st) h x) : zS y0 L xs cc own nL d rk pc lv (st) h x := by
  intro r h' hx
  refine ⟨(k r h' hx).1, ?_⟩
  intro p l e R s m args below meth c H locs cells slots Q D aC A ad Kc Ks ls hE adE B hRc hRs hret
  have K := (k r h' hx).2 p l e R s m args below meth c H locs cells slots Q D aC A ad Kc Ks
  obtain ⟨hi, hRm, hG, ⟨hl, hlk, hsk⟩, hHk, hRep, hcs, hag⟩ := B
  obtain ⟨hx0, hb, hml, hown⟩ := id hi
  subst hp
  show W p l e R s m args below meth c H locs cells slots Q (F0 m pc ls (st.map (q2 ad)))
  refine lv_lconst hx0 hb hd hv ?_
  have e0 : Value.long (Int64.ofInt (a)) = Value.long (Int64.ofInt a) := by rfl
  rw [← e0]
  exact K ls hE adE ⟨hi, hRm, hG, ⟨hl, hlk, List.forall_mem_cons.mpr ⟨hq, hsk⟩⟩, hHk, hRep, hcs, hag⟩ hRc hRs hret
theorem Z_ldc {a : Int} {index : Nat} (hd : decode cc pc = .ok (.ldc index, 2)) (hp : pc + 2 = pc') (hw : Cond.constant own index (Int32.ofInt a) ∈ lw_tbl) (hq : q32 a) (k : zS y0 L xs cc own nL d rk pc' lv (qi (a) :: st) h x) : zS y0 L xs cc own nL d rk pc lv (st) h x := by
  intro r h' hx
  refine ⟨(k r h' hx).1, ?_⟩
  intro p l e R s m args below meth c H locs cells slots Q D aC A ad Kc Ks ls hE adE B hRc hRs hret
  have K := (k r h' hx).2 p l e R s m args below meth c H locs cells slots Q D aC A ad Kc Ks
  obtain ⟨hi, hRm, hG, ⟨hl, hlk, hsk⟩, hHk, hRep, hcs, hag⟩ := B
  obtain ⟨hx0, hb, hml, hown⟩ := id hi
  subst hp
  show W p l e R s m args below meth c H locs cells slots Q (F0 m pc ls (st.map (q2 ad)))
  refine lv_ldc hx0 hb hown (va_Nw.use rfl (hG.1 _ hw rfl)) hd ?_
  have e0 : Value.int (Int32.ofInt (a)) = Value.int (Int32.ofInt a) := by rfl
  rw [← e0]
  exact K ls hE adE ⟨hi, hRm, hG, ⟨hl, hlk, List.forall_mem_cons.mpr ⟨hq, hsk⟩⟩, hHk, hRep, hcs, hag⟩ hRc hRs hret
theorem Z_ldc2 {a : Int} {index : Nat} (hd : decode cc pc = .ok (.ldc2_w index, 3)) (hp : pc + 3 = pc') (hw : Cond.constantLong own index (Int64.ofInt a) ∈ lw_tbl) (hq : q64 a) (k : zS y0 L xs cc own nL d rk pc' lv (ql (a) :: st) h x) : zS y0 L xs cc own nL d rk pc lv (st) h x := by
  intro r h' hx
  refine ⟨(k r h' hx).1, ?_⟩
  intro p l e R s m args below meth c H locs cells slots Q D aC A ad Kc Ks ls hE adE B hRc hRs hret
  have K := (k r h' hx).2 p l e R s m args below meth c H locs cells slots Q D aC A ad Kc Ks
  obtain ⟨hi, hRm, hG, ⟨hl, hlk, hsk⟩, hHk, hRep, hcs, hag⟩ := B
  obtain ⟨hx0, hb, hml, hown⟩ := id hi
  subst hp
  show W p l e R s m args below meth c H locs cells slots Q (F0 m pc ls (st.map (q2 ad)))
  refine lv_ldc2 hx0 hb hown (va_Nw.use rfl (hG.1 _ hw rfl)) hd ?_
  have e0 : Value.long (Int64.ofInt (a)) = Value.long (Int64.ofInt a) := by rfl
  rw [← e0]
  exact K ls hE adE ⟨hi, hRm, hG, ⟨hl, hlk, List.forall_mem_cons.mpr ⟨hq, hsk⟩⟩, hHk, hRep, hcs, hag⟩ hRc hRs hret
theorem Z_dup {v : qV} (hd : decode cc pc = .ok (.dup, 1)) (hp : pc + 1 = pc') (hc : qcat v = 1) (k : zS y0 L xs cc own nL d rk pc' lv (v :: v :: st) h x) : zS y0 L xs cc own nL d rk pc lv (v :: st) h x := by
  intro r h' hx
  refine ⟨(k r h' hx).1, ?_⟩
  intro p l e R s m args below meth c H locs cells slots Q D aC A ad Kc Ks ls hE adE B hRc hRs hret
  have K := (k r h' hx).2 p l e R s m args below meth c H locs cells slots Q D aC A ad Kc Ks
  obtain ⟨hi, hRm, hG, ⟨hl, hlk, hsk⟩, hHk, hRep, hcs, hag⟩ := B
  obtain ⟨hx0, hb, hml, hown⟩ := id hi
  subst hp
  show W p l e R s m args below meth c H locs cells slots Q (F0 m pc ls (q2 ad v :: st.map (q2 ad)))
  obtain ⟨hk0, hsk⟩ := List.forall_mem_cons.mp hsk
  refine lv_dup hx0 hb hd (by rw [qcat_ok]; exact hc) ?_
  exact K ls hE adE ⟨hi, hRm, hG, ⟨hl, hlk, List.forall_mem_cons.mpr ⟨hk0, List.forall_mem_cons.mpr ⟨hk0, hsk⟩⟩⟩, hHk, hRep, hcs, hag⟩ hRc hRs hret
theorem Z_dup2 {v w : qV} (hd : decode cc pc = .ok (.dup2, 1)) (hp : pc + 1 = pc') (hc : qcat v = 1) (hc2 : qcat w = 1) (k : zS y0 L xs cc own nL d rk pc' lv (v :: w :: v :: w :: st) h x) : zS y0 L xs cc own nL d rk pc lv (v :: w :: st) h x := by
  intro r h' hx
  refine ⟨(k r h' hx).1, ?_⟩
  intro p l e R s m args below meth c H locs cells slots Q D aC A ad Kc Ks ls hE adE B hRc hRs hret
  have K := (k r h' hx).2 p l e R s m args below meth c H locs cells slots Q D aC A ad Kc Ks
  obtain ⟨hi, hRm, hG, ⟨hl, hlk, hsk⟩, hHk, hRep, hcs, hag⟩ := B
  obtain ⟨hx0, hb, hml, hown⟩ := id hi
  subst hp
  show W p l e R s m args below meth c H locs cells slots Q (F0 m pc ls (q2 ad v :: q2 ad w :: st.map (q2 ad)))
  obtain ⟨hk0, hsk⟩ := List.forall_mem_cons.mp hsk
  obtain ⟨hk1, hsk⟩ := List.forall_mem_cons.mp hsk
  refine lv_dup2_11 hx0 hb hd (by rw [qcat_ok]; exact hc) (by rw [qcat_ok]; exact hc2) ?_
  exact K ls hE adE ⟨hi, hRm, hG, ⟨hl, hlk, List.forall_mem_cons.mpr ⟨hk0, List.forall_mem_cons.mpr ⟨hk1, List.forall_mem_cons.mpr ⟨hk0, List.forall_mem_cons.mpr ⟨hk1, hsk⟩⟩⟩⟩⟩, hHk, hRep, hcs, hag⟩ hRc hRs hret
theorem Z_pop {v : qV} (hd : decode cc pc = .ok (.pop, 1)) (hp : pc + 1 = pc') (hc : qcat v = 1) (k : zS y0 L xs cc own nL d rk pc' lv st h x) : zS y0 L xs cc own nL d rk pc lv (v :: st) h x := by
  intro r h' hx
  refine ⟨(k r h' hx).1, ?_⟩
  intro p l e R s m args below meth c H locs cells slots Q D aC A ad Kc Ks ls hE adE B hRc hRs hret
  have K := (k r h' hx).2 p l e R s m args below meth c H locs cells slots Q D aC A ad Kc Ks
  obtain ⟨hi, hRm, hG, ⟨hl, hlk, hsk⟩, hHk, hRep, hcs, hag⟩ := B
  obtain ⟨hx0, hb, hml, hown⟩ := id hi
  subst hp
  show W p l e R s m args below meth c H locs cells slots Q (F0 m pc ls (q2 ad v :: st.map (q2 ad)))
  obtain ⟨hk0, hsk⟩ := List.forall_mem_cons.mp hsk
  refine lv_pop hx0 hb hd (by rw [qcat_ok]; exact hc) ?_
  exact K ls hE adE ⟨hi, hRm, hG, ⟨hl, hlk, hsk⟩, hHk, hRep, hcs, hag⟩ hRc hRs hret
theorem Z_iload_n {a : Int} {j : Fin 4} {i : Nat} (z : Nat) (hd : decode cc pc = .ok (.iload_n j, 1)) (hj : (j : Nat) = i) (hz : lv[z]? = some (i, qi a)) (hp : pc + 1 = pc') (k : zS y0 L xs cc own nL d rk pc' lv (qi a :: st) h x) : zS y0 L xs cc own nL d rk pc lv st h x := by
  intro r h' hx
  refine ⟨(k r h' hx).1, ?_⟩
  intro p l e R s m args below meth c H locs cells slots Q D aC A ad Kc Ks ls hE adE B hRc hRs hret
  have K := (k r h' hx).2 p l e R s m args below meth c H locs cells slots Q D aC A ad Kc Ks
  obtain ⟨hi, hRm, hG, ⟨hl, hlk, hsk⟩, hHk, hRep, hcs, hag⟩ := B
  obtain ⟨hx0, hb, hml, hown⟩ := id hi
  subst hp
  have hz2 : (lv.map (fun q => (q.1, q2 ad q.2)))[z]? = some (i, q2 ad (qi a)) := by rw [List.getElem?_map, hz]; rfl
  have hk0 := hlk _ (List.mem_of_getElem? hz)
  refine lv_iload_n hx0 hb hd hj (lv_at hl z hz2) ?_
  exact K ls hE adE ⟨hi, hRm, hG, ⟨hl, hlk, List.forall_mem_cons.mpr ⟨hk0, hsk⟩⟩, hHk, hRep, hcs, hag⟩ hRc hRs hret
theorem Z_iload {a : Int} {i : Nat} (z : Nat) (hd : decode cc pc = .ok (.iload i, 2)) (hz : lv[z]? = some (i, qi a)) (hp : pc + 2 = pc') (k : zS y0 L xs cc own nL d rk pc' lv (qi a :: st) h x) : zS y0 L xs cc own nL d rk pc lv st h x := by
  intro r h' hx
  refine ⟨(k r h' hx).1, ?_⟩
  intro p l e R s m args below meth c H locs cells slots Q D aC A ad Kc Ks ls hE adE B hRc hRs hret
  have K := (k r h' hx).2 p l e R s m args below meth c H locs cells slots Q D aC A ad Kc Ks
  obtain ⟨hi, hRm, hG, ⟨hl, hlk, hsk⟩, hHk, hRep, hcs, hag⟩ := B
  obtain ⟨hx0, hb, hml, hown⟩ := id hi
  subst hp
  have hz2 : (lv.map (fun q => (q.1, q2 ad q.2)))[z]? = some (i, q2 ad (qi a)) := by rw [List.getElem?_map, hz]; rfl
  have hk0 := hlk _ (List.mem_of_getElem? hz)
  refine lv_iload hx0 hb hd (lv_at hl z hz2) ?_
  exact K ls hE adE ⟨hi, hRm, hG, ⟨hl, hlk, List.forall_mem_cons.mpr ⟨hk0, hsk⟩⟩, hHk, hRep, hcs, hag⟩ hRc hRs hret
theorem Z_lload_n {a : Int} {j : Fin 4} {i : Nat} (z : Nat) (hd : decode cc pc = .ok (.lload_n j, 1)) (hj : (j : Nat) = i) (hz : lv[z]? = some (i, ql a)) (hp : pc + 1 = pc') (k : zS y0 L xs cc own nL d rk pc' lv (ql a :: st) h x) : zS y0 L xs cc own nL d rk pc lv st h x := by
  intro r h' hx
  refine ⟨(k r h' hx).1, ?_⟩
  intro p l e R s m args below meth c H locs cells slots Q D aC A ad Kc Ks ls hE adE B hRc hRs hret
  have K := (k r h' hx).2 p l e R s m args below meth c H locs cells slots Q D aC A ad Kc Ks
  obtain ⟨hi, hRm, hG, ⟨hl, hlk, hsk⟩, hHk, hRep, hcs, hag⟩ := B
  obtain ⟨hx0, hb, hml, hown⟩ := id hi
  subst hp
  have hz2 : (lv.map (fun q => (q.1, q2 ad q.2)))[z]? = some (i, q2 ad (ql a)) := by rw [List.getElem?_map, hz]; rfl
  have hk0 := hlk _ (List.mem_of_getElem? hz)
  refine lv_lload_n hx0 hb hd hj (lv_at hl z hz2) ?_
  exact K ls hE adE ⟨hi, hRm, hG, ⟨hl, hlk, List.forall_mem_cons.mpr ⟨hk0, hsk⟩⟩, hHk, hRep, hcs, hag⟩ hRc hRs hret
theorem Z_lload {a : Int} {i : Nat} (z : Nat) (hd : decode cc pc = .ok (.lload i, 2)) (hz : lv[z]? = some (i, ql a)) (hp : pc + 2 = pc') (k : zS y0 L xs cc own nL d rk pc' lv (ql a :: st) h x) : zS y0 L xs cc own nL d rk pc lv st h x := by
  intro r h' hx
  refine ⟨(k r h' hx).1, ?_⟩
  intro p l e R s m args below meth c H locs cells slots Q D aC A ad Kc Ks ls hE adE B hRc hRs hret
  have K := (k r h' hx).2 p l e R s m args below meth c H locs cells slots Q D aC A ad Kc Ks
  obtain ⟨hi, hRm, hG, ⟨hl, hlk, hsk⟩, hHk, hRep, hcs, hag⟩ := B
  obtain ⟨hx0, hb, hml, hown⟩ := id hi
  subst hp
  have hz2 : (lv.map (fun q => (q.1, q2 ad q.2)))[z]? = some (i, q2 ad (ql a)) := by rw [List.getElem?_map, hz]; rfl
  have hk0 := hlk _ (List.mem_of_getElem? hz)
  refine lv_lload hx0 hb hd (lv_at hl z hz2) ?_
  exact K ls hE adE ⟨hi, hRm, hG, ⟨hl, hlk, List.forall_mem_cons.mpr ⟨hk0, hsk⟩⟩, hHk, hRep, hcs, hag⟩ hRc hRs hret
theorem Z_aload_n {a : Nat} {j : Fin 4} {i : Nat} (z : Nat) (hd : decode cc pc = .ok (.aload_n j, 1)) (hj : (j : Nat) = i) (hz : lv[z]? = some (i, qr a)) (hp : pc + 1 = pc') (k : zS y0 L xs cc own nL d rk pc' lv (qr a :: st) h x) : zS y0 L xs cc own nL d rk pc lv st h x := by
  intro r h' hx
  refine ⟨(k r h' hx).1, ?_⟩
  intro p l e R s m args below meth c H locs cells slots Q D aC A ad Kc Ks ls hE adE B hRc hRs hret
  have K := (k r h' hx).2 p l e R s m args below meth c H locs cells slots Q D aC A ad Kc Ks
  obtain ⟨hi, hRm, hG, ⟨hl, hlk, hsk⟩, hHk, hRep, hcs, hag⟩ := B
  obtain ⟨hx0, hb, hml, hown⟩ := id hi
  subst hp
  have hz2 : (lv.map (fun q => (q.1, q2 ad q.2)))[z]? = some (i, q2 ad (qr a)) := by rw [List.getElem?_map, hz]; rfl
  have hk0 := hlk _ (List.mem_of_getElem? hz)
  refine lv_aload_n hx0 hb hd hj (lv_at hl z hz2) ?_
  exact K ls hE adE ⟨hi, hRm, hG, ⟨hl, hlk, List.forall_mem_cons.mpr ⟨hk0, hsk⟩⟩, hHk, hRep, hcs, hag⟩ hRc hRs hret
theorem Z_aload {a : Nat} {i : Nat} (z : Nat) (hd : decode cc pc = .ok (.aload i, 2)) (hz : lv[z]? = some (i, qr a)) (hp : pc + 2 = pc') (k : zS y0 L xs cc own nL d rk pc' lv (qr a :: st) h x) : zS y0 L xs cc own nL d rk pc lv st h x := by
  intro r h' hx
  refine ⟨(k r h' hx).1, ?_⟩
  intro p l e R s m args below meth c H locs cells slots Q D aC A ad Kc Ks ls hE adE B hRc hRs hret
  have K := (k r h' hx).2 p l e R s m args below meth c H locs cells slots Q D aC A ad Kc Ks
  obtain ⟨hi, hRm, hG, ⟨hl, hlk, hsk⟩, hHk, hRep, hcs, hag⟩ := B
  obtain ⟨hx0, hb, hml, hown⟩ := id hi
  subst hp
  have hz2 : (lv.map (fun q => (q.1, q2 ad q.2)))[z]? = some (i, q2 ad (qr a)) := by rw [List.getElem?_map, hz]; rfl
  have hk0 := hlk _ (List.mem_of_getElem? hz)
  refine lv_aload hx0 hb hd (lv_at hl z hz2) ?_
  exact K ls hE adE ⟨hi, hRm, hG, ⟨hl, hlk, List.forall_mem_cons.mpr ⟨hk0, hsk⟩⟩, hHk, hRep, hcs, hag⟩ hRc hRs hret
theorem Z_istore_n {a : Int} {j : Fin 4} {i : Nat} (hd : decode cc pc = .ok (.istore_n j, 1)) (hj : (j : Nat) = i) (hn : i < nL) (hv : qst lv i (qi a) = lv') (hp : pc + 1 = pc') (k : zS y0 L xs cc own nL d rk pc' lv' st h x) : zS y0 L xs cc own nL d rk pc lv (qi a :: st) h x := by
  intro r h' hx
  refine ⟨(k r h' hx).1, ?_⟩
  intro p l e R s m args below meth c H locs cells slots Q D aC A ad Kc Ks ls hE adE B hRc hRs hret
  have K := (k r h' hx).2 p l e R s m args below meth c H locs cells slots Q D aC A ad Kc Ks
  obtain ⟨hi, hRm, hG, ⟨hl, hlk, hsk⟩, hHk, hRep, hcs, hag⟩ := B
  obtain ⟨hx0, hb, hml, hown⟩ := id hi
  subst hp
  subst hv
  obtain ⟨hk0, hsk⟩ := List.forall_mem_cons.mp hsk
  refine lv_istore_n hx0 hb hd hj hl hn (qst_ok ad lv i (qi a)) (fun ls' hl' => ?_)
  exact K ls' hE adE ⟨hi, hRm, hG, ⟨hl', (zst_k hlk hk0), hsk⟩, hHk, hRep, hcs, hag⟩ hRc hRs hret
theorem Z_istore {a : Int} {i : Nat} (hd : decode cc pc = .ok (.istore i, 2)) (hn : i < nL) (hv : qst lv i (qi a) = lv') (hp : pc + 2 = pc') (k : zS y0 L xs cc own nL d rk pc' lv' st h x) : zS y0 L xs cc own nL d rk pc lv (qi a :: st) h x := by
  intro r h' hx
  refine ⟨(k r h' hx).1, ?_⟩
  intro p l e R s m args below meth c H locs cells slots Q D aC A ad Kc Ks ls hE adE B hRc hRs hret
  have K := (k r h' hx).2 p l e R s m args below meth c H locs cells slots Q D aC A ad Kc Ks
  obtain ⟨hi, hRm, hG, ⟨hl, hlk, hsk⟩, hHk, hRep, hcs, hag⟩ := B
  obtain ⟨hx0, hb, hml, hown⟩ := id hi
  subst hp
  subst hv
  obtain ⟨hk0, hsk⟩ := List.forall_mem_cons.mp hsk
  refine lv_istore hx0 hb hd hl hn (qst_ok ad lv i (qi a)) (fun ls' hl' => ?_)
  exact K ls' hE adE ⟨hi, hRm, hG, ⟨hl', (zst_k hlk hk0), hsk⟩, hHk, hRep, hcs, hag⟩ hRc hRs hret
theorem Z_lstore_n {a : Int} {j : Fin 4} {i : Nat} (hd : decode cc pc = .ok (.lstore_n j, 1)) (hj : (j : Nat) = i) (hn : i + 1 < nL) (hv : qsl lv i (ql a) = lv') (hp : pc + 1 = pc') (k : zS y0 L xs cc own nL d rk pc' lv' st h x) : zS y0 L xs cc own nL d rk pc lv (ql a :: st) h x := by
  intro r h' hx
  refine ⟨(k r h' hx).1, ?_⟩
  intro p l e R s m args below meth c H locs cells slots Q D aC A ad Kc Ks ls hE adE B hRc hRs hret
  have K := (k r h' hx).2 p l e R s m args below meth c H locs cells slots Q D aC A ad Kc Ks
  obtain ⟨hi, hRm, hG, ⟨hl, hlk, hsk⟩, hHk, hRep, hcs, hag⟩ := B
  obtain ⟨hx0, hb, hml, hown⟩ := id hi
  subst hp
  subst hv
  obtain ⟨hk0, hsk⟩ := List.forall_mem_cons.mp hsk
  refine lv_lstore_n hx0 hb hd hj hl hn (qsl_ok ad lv i (ql a)) (fun ls' hl' => ?_)
  exact K ls' hE adE ⟨hi, hRm, hG, ⟨hl', (zsl_k hlk hk0), hsk⟩, hHk, hRep, hcs, hag⟩ hRc hRs hret
theorem Z_lstore {a : Int} {i : Nat} (hd : decode cc pc = .ok (.lstore i, 2)) (hn : i + 1 < nL) (hv : qsl lv i (ql a) = lv') (hp : pc + 2 = pc') (k : zS y0 L xs cc own nL d rk pc' lv' st h x) : zS y0 L xs cc own nL d rk pc lv (ql a :: st) h x := by
  intro r h' hx
  refine ⟨(k r h' hx).1, ?_⟩
  intro p l e R s m args below meth c H locs cells slots Q D aC A ad Kc Ks ls hE adE B hRc hRs hret
  have K := (k r h' hx).2 p l e R s m args below meth c H locs cells slots Q D aC A ad Kc Ks
  obtain ⟨hi, hRm, hG, ⟨hl, hlk, hsk⟩, hHk, hRep, hcs, hag⟩ := B
  obtain ⟨hx0, hb, hml, hown⟩ := id hi
  subst hp
  subst hv
  obtain ⟨hk0, hsk⟩ := List.forall_mem_cons.mp hsk
  refine lv_lstore hx0 hb hd hl hn (qsl_ok ad lv i (ql a)) (fun ls' hl' => ?_)
  exact K ls' hE adE ⟨hi, hRm, hG, ⟨hl', (zsl_k hlk hk0), hsk⟩, hHk, hRep, hcs, hag⟩ hRc hRs hret
theorem Z_astore_n {a : Nat} {j : Fin 4} {i : Nat} (hd : decode cc pc = .ok (.astore_n j, 1)) (hj : (j : Nat) = i) (hn : i < nL) (hv : qst lv i (qr a) = lv') (hp : pc + 1 = pc') (k : zS y0 L xs cc own nL d rk pc' lv' st h x) : zS y0 L xs cc own nL d rk pc lv (qr a :: st) h x := by
  intro r h' hx
  refine ⟨(k r h' hx).1, ?_⟩
  intro p l e R s m args below meth c H locs cells slots Q D aC A ad Kc Ks ls hE adE B hRc hRs hret
  have K := (k r h' hx).2 p l e R s m args below meth c H locs cells slots Q D aC A ad Kc Ks
  obtain ⟨hi, hRm, hG, ⟨hl, hlk, hsk⟩, hHk, hRep, hcs, hag⟩ := B
  obtain ⟨hx0, hb, hml, hown⟩ := id hi
  subst hp
  subst hv
  obtain ⟨hk0, hsk⟩ := List.forall_mem_cons.mp hsk
  refine lv_astore_n hx0 hb hd hj hl hn (qst_ok ad lv i (qr a)) (fun ls' hl' => ?_)
  exact K ls' hE adE ⟨hi, hRm, hG, ⟨hl', (zst_k hlk hk0), hsk⟩, hHk, hRep, hcs, hag⟩ hRc hRs hret
theorem Z_astore {a : Nat} {i : Nat} (hd : decode cc pc = .ok (.astore i, 2)) (hn : i < nL) (hv : qst lv i (qr a) = lv') (hp : pc + 2 = pc') (k : zS y0 L xs cc own nL d rk pc' lv' st h x) : zS y0 L xs cc own nL d rk pc lv (qr a :: st) h x := by
  intro r h' hx
  refine ⟨(k r h' hx).1, ?_⟩
  intro p l e R s m args below meth c H locs cells slots Q D aC A ad Kc Ks ls hE adE B hRc hRs hret
  have K := (k r h' hx).2 p l e R s m args below meth c H locs cells slots Q D aC A ad Kc Ks
  obtain ⟨hi, hRm, hG, ⟨hl, hlk, hsk⟩, hHk, hRep, hcs, hag⟩ := B
  obtain ⟨hx0, hb, hml, hown⟩ := id hi
  subst hp
  subst hv
  obtain ⟨hk0, hsk⟩ := List.forall_mem_cons.mp hsk
  refine lv_astore hx0 hb hd hl hn (qst_ok ad lv i (qr a)) (fun ls' hl' => ?_)
  exact K ls' hE adE ⟨hi, hRm, hG, ⟨hl', (zst_k hlk hk0), hsk⟩, hHk, hRep, hcs, hag⟩ hRc hRs hret
theorem Z_iinc {a n : Int} {i : Nat} (z : Nat) (hd : decode cc pc = .ok (.iinc i n, 3)) (hz : lv[z]? = some (i, qi a)) (hn : i < nL) (hv : qst lv i (qi (qw (a + n))) = lv') (hp : pc + 3 = pc') (k : zS y0 L xs cc own nL d rk pc' lv' st h x) : zS y0 L xs cc own nL d rk pc lv st h x := by
  intro r h' hx
  refine ⟨(k r h' hx).1, ?_⟩
  intro p l e R s m args below meth c H locs cells slots Q D aC A ad Kc Ks ls hE adE B hRc hRs hret
  have K := (k r h' hx).2 p l e R s m args below meth c H locs cells slots Q D aC A ad Kc Ks
  obtain ⟨hi, hRm, hG, ⟨hl, hlk, hsk⟩, hHk, hRep, hcs, hag⟩ := B
  obtain ⟨hx0, hb, hml, hown⟩ := id hi
  subst hp
  subst hv
  have hz2 : (lv.map (fun q => (q.1, q2 ad q.2)))[z]? = some (i, Value.int (Int32.ofInt a)) := by rw [List.getElem?_map, hz]; rfl
  have e0 : q2 ad (qi (qw (a + n))) = Value.int (Int32.ofInt a + Int32.ofInt n) := by show Value.int (Int32.ofInt (qw (a + n))) = _; unfold qw; rw [Int32.ofInt_toInt, Int32.ofInt_add]
  refine lv_iinc (lv' := (qst lv i (qi (qw (a + n)))).map (fun q => (q.1, q2 ad q.2))) hx0 hb hd hl hz2 rfl hn (by rw [← e0]; exact qst_ok ad lv i (qi (qw (a + n)))) (fun ls' hl' => ?_)
  exact K ls' hE adE ⟨hi, hRm, hG, ⟨hl', (zst_k hlk (show q32 (qw (a + n)) from q32_of _)), hsk⟩, hHk, hRep, hcs, hag⟩ hRc hRs hret
theorem Z_sub (zs : List Nat) (hv : zs.filterMap (fun z => lv[z]?) = lv') (k : zS y0 L xs cc own nL d rk pc lv' st h x) : zS y0 L xs cc own nL d rk pc lv st h x := by
  intro r h' hx
  refine ⟨(k r h' hx).1, ?_⟩
  intro p l e R s m args below meth c H locs cells slots Q D aC A ad Kc Ks ls hE adE B hRc hRs hret
  have K := (k r h' hx).2 p l e R s m args below meth c H locs cells slots Q D aC A ad Kc Ks
  obtain ⟨hi, hRm, hG, ⟨hl, hlk, hsk⟩, hHk, hRep, hcs, hag⟩ := B
  obtain ⟨hx0, hb, hml, hown⟩ := id hi
  subst hv
  refine K ls hE adE ⟨hi, hRm, hG, ⟨?_, ?_, hsk⟩, hHk, hRep, hcs, hag⟩ hRc hRs hret
  · refine lv_sub hl zs ?_
    unfold lv_pick
    rw [List.map_filterMap]
    simp only [List.getElem?_map]
  · intro q hq
    obtain ⟨z, -, hz⟩ := List.mem_filterMap.mp hq
    exact hlk q (List.mem_of_getElem? hz)
theorem Z_goto {off : Int} (hd : decode cc pc = .ok (.goto off, 3)) (hp : (pc : Int) + off = (pc' : Int)) (k : zS y0 L xs cc own nL d rk pc' lv st h x) : zS y0 L xs cc own nL d rk pc lv st h x := by
  intro r h' hx
  refine ⟨(k r h' hx).1, ?_⟩
  intro p l e R s m args below meth c H locs cells slots Q D aC A ad Kc Ks ls hE adE B hRc hRs hret
  have K := (k r h' hx).2 p l e R s m args below meth c H locs cells slots Q D aC A ad Kc Ks
  obtain ⟨hi, hRm, hG, ⟨hl, hlk, hsk⟩, hHk, hRep, hcs, hag⟩ := B
  obtain ⟨hx0, hb, hml, hown⟩ := id hi
  refine lv_goto hx0 hb hd hp ?_
  exact K ls hE adE ⟨hi, hRm, hG, ⟨hl, hlk, hsk⟩, hHk, hRep, hcs, hag⟩ hRc hRs hret
theorem Z_if_eq {a : Int} {off : Int} {tgt : Nat} (hd : decode cc pc = .ok (.ifCond .eq off, 3)) (ht : (pc : Int) + off = (tgt : Int)) (hp : pc + 3 = pc') (kt : (a = 0) → zS y0 L xs cc own nL d rk tgt lv st h x) (kf : (¬ (a = 0)) → zS y0 L xs cc own nL d rk pc' lv st h y) : zS y0 L xs cc own nL d rk pc lv (qi a :: st) h (if a = 0 then x else y) := by
  intro r h' hx
  have KT := fun (hc : a = 0) => kt hc r h' (by rw [if_pos hc] at hx; exact hx)
  have KF := fun (hc : ¬ (a = 0)) => kf hc r h' (by rw [if_neg hc] at hx; exact hx)
  refine ⟨?_, ?_⟩
  · by_cases hc : a = 0
    · exact (KT hc).1
    · exact (KF hc).1
  intro p l e R s m args below meth c H locs cells slots Q D aC A ad Kc Ks ls hE adE B hRc hRs hret
  obtain ⟨hi, hRm, hG, ⟨hl, hlk, hsk⟩, hHk, hRep, hcs, hag⟩ := B
  obtain ⟨hx0, hb, hml, hown⟩ := id hi
  subst hp
  show W p l e R s m args below meth c H locs cells slots Q (F0 m pc ls (Value.int (Int32.ofInt a) :: st.map (q2 ad)))
  obtain ⟨hk0, hsk⟩ := List.forall_mem_cons.mp hsk
  have hk0 : q32 a := hk0
  have hcc := (qe_eq hk0 qz_0)
  rw [← qo_0] at hcc
  refine lv_if_eq hx0 hb hd ht (fun hc => ?_) (fun hc => ?_)
  · exact (KT (by first | exact hcc.mp hc | (simpa using hcc.mp (by simpa using hc)))).2 p l e R s m args below meth c H locs cells slots Q D aC A ad Kc Ks ls hE adE  ⟨hi, hRm, hG, ⟨hl, hlk, hsk⟩, hHk, hRep, hcs, hag⟩ hRc hRs hret
  · exact (KF (by first | exact mt hcc.mpr hc | (simpa using mt hcc.mpr (by simpa using hc)))).2 p l e R s m args below meth c H locs cells slots Q D aC A ad Kc Ks ls hE adE  ⟨hi, hRm, hG, ⟨hl, hlk, hsk⟩, hHk, hRep, hcs, hag⟩ hRc hRs hret
theorem Z_icmp_eq {a b : Int} {off : Int} {tgt : Nat} (hd : decode cc pc = .ok (.if_icmp .eq off, 3)) (ht : (pc : Int) + off = (tgt : Int)) (hp : pc + 3 = pc') (kt : (a = b) → zS y0 L xs cc own nL d rk tgt lv st h x) (kf : (¬ (a = b)) → zS y0 L xs cc own nL d rk pc' lv st h y) : zS y0 L xs cc own nL d rk pc lv (qi b :: qi a :: st) h (if a = b then x else y) := by
  intro r h' hx
  have KT := fun (hc : a = b) => kt hc r h' (by rw [if_pos hc] at hx; exact hx)
  have KF := fun (hc : ¬ (a = b)) => kf hc r h' (by rw [if_neg hc] at hx; exact hx)
  refine ⟨?_, ?_⟩
  · by_cases hc : a = b
    · exact (KT hc).1
    · exact (KF hc).1
  intro p l e R s m args below meth c H locs cells slots Q D aC A ad Kc Ks ls hE adE B hRc hRs hret
  obtain ⟨hi, hRm, hG, ⟨hl, hlk, hsk⟩, hHk, hRep, hcs, hag⟩ := B
  obtain ⟨hx0, hb, hml, hown⟩ := id hi
  subst hp
  show W p l e R s m args below meth c H locs cells slots Q (F0 m pc ls (Value.int (Int32.ofInt b) :: Value.int (Int32.ofInt a) :: st.map (q2 ad)))
  obtain ⟨hk0, hsk⟩ := List.forall_mem_cons.mp hsk
  obtain ⟨hk1, hsk⟩ := List.forall_mem_cons.mp hsk
  have hk0 : q32 b := hk0
  have hk1 : q32 a := hk1
  have hcc := (qe_eq hk1 hk0)
  refine lv_icmp_eq hx0 hb hd ht (fun hc => ?_) (fun hc => ?_)
  · exact (KT (by first | exact hcc.mp hc | (simpa using hcc.mp (by simpa using hc)))).2 p l e R s m args below meth c H locs cells slots Q D aC A ad Kc Ks ls hE adE  ⟨hi, hRm, hG, ⟨hl, hlk, hsk⟩, hHk, hRep, hcs, hag⟩ hRc hRs hret
  · exact (KF (by first | exact mt hcc.mpr hc | (simpa using mt hcc.mpr (by simpa using hc)))).2 p l e R s m args below meth c H locs cells slots Q D aC A ad Kc Ks ls hE adE  ⟨hi, hRm, hG, ⟨hl, hlk, hsk⟩, hHk, hRep, hcs, hag⟩ hRc hRs hret
theorem Z_if_ne {a : Int} {off : Int} {tgt : Nat} (hd : decode cc pc = .ok (.ifCond .ne off, 3)) (ht : (pc : Int) + off = (tgt : Int)) (hp : pc + 3 = pc') (kt : (¬ a = 0) → zS y0 L xs cc own nL d rk tgt lv st h x) (kf : (¬ (¬ a = 0)) → zS y0 L xs cc own nL d rk pc' lv st h y) : zS y0 L xs cc own nL d rk pc lv (qi a :: st) h (if ¬ a = 0 then x else y) := by
  intro r h' hx
  have KT := fun (hc : ¬ a = 0) => kt hc r h' (by rw [if_pos hc] at hx; exact hx)
  have KF := fun (hc : ¬ (¬ a = 0)) => kf hc r h' (by rw [if_neg hc] at hx; exact hx)
  refine ⟨?_, ?_⟩
  · by_cases hc : ¬ a = 0
    · exact (KT hc).1
    · exact (KF hc).1
  intro p l e R s m args below meth c H locs cells slots Q D aC A ad Kc Ks ls hE adE B hRc hRs hret
  obtain ⟨hi, hRm, hG, ⟨hl, hlk, hsk⟩, hHk, hRep, hcs, hag⟩ := B
  obtain ⟨hx0, hb, hml, hown⟩ := id hi
  subst hp
  show W p l e R s m args below meth c H locs cells slots Q (F0 m pc ls (Value.int (Int32.ofInt a) :: st.map (q2 ad)))
  obtain ⟨hk0, hsk⟩ := List.forall_mem_cons.mp hsk
  have hk0 : q32 a := hk0
  have hcc := (not_congr (qe_eq hk0 qz_0))
  rw [← qo_0] at hcc
  refine lv_if_ne hx0 hb hd ht (fun hc => ?_) (fun hc => ?_)
  · exact (KT (by first | exact hcc.mp hc | (simpa using hcc.mp (by simpa using hc)))).2 p l e R s m args below meth c H locs cells slots Q D aC A ad Kc Ks ls hE adE  ⟨hi, hRm, hG, ⟨hl, hlk, hsk⟩, hHk, hRep, hcs, hag⟩ hRc hRs hret
  · exact (KF (by first | exact mt hcc.mpr hc | (simpa using mt hcc.mpr (by simpa using hc)))).2 p l e R s m args below meth c H locs cells slots Q D aC A ad Kc Ks ls hE adE  ⟨hi, hRm, hG, ⟨hl, hlk, hsk⟩, hHk, hRep, hcs, hag⟩ hRc hRs hret
theorem Z_icmp_ne {a b : Int} {off : Int} {tgt : Nat} (hd : decode cc pc = .ok (.if_icmp .ne off, 3)) (ht : (pc : Int) + off = (tgt : Int)) (hp : pc + 3 = pc') (kt : (¬ a = b) → zS y0 L xs cc own nL d rk tgt lv st h x) (kf : (¬ (¬ a = b)) → zS y0 L xs cc own nL d rk pc' lv st h y) : zS y0 L xs cc own nL d rk pc lv (qi b :: qi a :: st) h (if ¬ a = b then x else y) := by
  intro r h' hx
  have KT := fun (hc : ¬ a = b) => kt hc r h' (by rw [if_pos hc] at hx; exact hx)
  have KF := fun (hc : ¬ (¬ a = b)) => kf hc r h' (by rw [if_neg hc] at hx; exact hx)
  refine ⟨?_, ?_⟩
  · by_cases hc : ¬ a = b
    · exact (KT hc).1
    · exact (KF hc).1
  intro p l e R s m args below meth c H locs cells slots Q D aC A ad Kc Ks ls hE adE B hRc hRs hret
  obtain ⟨hi, hRm, hG, ⟨hl, hlk, hsk⟩, hHk, hRep, hcs, hag⟩ := B
  obtain ⟨hx0, hb, hml, hown⟩ := id hi
  subst hp
  show W p l e R s m args below meth c H locs cells slots Q (F0 m pc ls (Value.int (Int32.ofInt b) :: Value.int (Int32.ofInt a) :: st.map (q2 ad)))
  obtain ⟨hk0, hsk⟩ := List.forall_mem_cons.mp hsk
  obtain ⟨hk1, hsk⟩ := List.forall_mem_cons.mp hsk
  have hk0 : q32 b := hk0
  have hk1 : q32 a := hk1
  have hcc := (not_congr (qe_eq hk1 hk0))
  refine lv_icmp_ne hx0 hb hd ht (fun hc => ?_) (fun hc => ?_)
  · exact (KT (by first | exact hcc.mp hc | (simpa using hcc.mp (by simpa using hc)))).2 p l e R s m args below meth c H locs cells slots Q D aC A ad Kc Ks ls hE adE  ⟨hi, hRm, hG, ⟨hl, hlk, hsk⟩, hHk, hRep, hcs, hag⟩ hRc hRs hret
  · exact (KF (by first | exact mt hcc.mpr hc | (simpa using mt hcc.mpr (by simpa using hc)))).2 p l e R s m args below meth c H locs cells slots Q D aC A ad Kc Ks ls hE adE  ⟨hi, hRm, hG, ⟨hl, hlk, hsk⟩, hHk, hRep, hcs, hag⟩ hRc hRs hret
theorem Z_if_lt {a : Int} {off : Int} {tgt : Nat} (hd : decode cc pc = .ok (.ifCond .lt off, 3)) (ht : (pc : Int) + off = (tgt : Int)) (hp : pc + 3 = pc') (kt : (a < 0) → zS y0 L xs cc own nL d rk tgt lv st h x) (kf : (¬ (a < 0)) → zS y0 L xs cc own nL d rk pc' lv st h y) : zS y0 L xs cc own nL d rk pc lv (qi a :: st) h (if a < 0 then x else y) := by
  intro r h' hx
  have KT := fun (hc : a < 0) => kt hc r h' (by rw [if_pos hc] at hx; exact hx)
  have KF := fun (hc : ¬ (a < 0)) => kf hc r h' (by rw [if_neg hc] at hx; exact hx)
  refine ⟨?_, ?_⟩
  · by_cases hc : a < 0
    · exact (KT hc).1
    · exact (KF hc).1
  intro p l e R s m args below meth c H locs cells slots Q D aC A ad Kc Ks ls hE adE B hRc hRs hret
  obtain ⟨hi, hRm, hG, ⟨hl, hlk, hsk⟩, hHk, hRep, hcs, hag⟩ := B
  obtain ⟨hx0, hb, hml, hown⟩ := id hi
  subst hp
  show W p l e R s m args below meth c H locs cells slots Q (F0 m pc ls (Value.int (Int32.ofInt a) :: st.map (q2 ad)))
  obtain ⟨hk0, hsk⟩ := List.forall_mem_cons.mp hsk
  have hk0 : q32 a := hk0
  have hcc := (qe_lt hk0 qz_0)
  rw [← qo_0] at hcc
  refine lv_if_lt hx0 hb hd ht (fun hc => ?_) (fun hc => ?_)
  · exact (KT (by first | exact hcc.mp hc | (simpa using hcc.mp (by simpa using hc)))).2 p l e R s m args below meth c H locs cells slots Q D aC A ad Kc Ks ls hE adE  ⟨hi, hRm, hG, ⟨hl, hlk, hsk⟩, hHk, hRep, hcs, hag⟩ hRc hRs hret
  · exact (KF (by first | exact mt hcc.mpr hc | (simpa using mt hcc.mpr (by simpa using hc)))).2 p l e R s m args below meth c H locs cells slots Q D aC A ad Kc Ks ls hE adE  ⟨hi, hRm, hG, ⟨hl, hlk, hsk⟩, hHk, hRep, hcs, hag⟩ hRc hRs hret
theorem Z_icmp_lt {a b : Int} {off : Int} {tgt : Nat} (hd : decode cc pc = .ok (.if_icmp .lt off, 3)) (ht : (pc : Int) + off = (tgt : Int)) (hp : pc + 3 = pc') (kt : (a < b) → zS y0 L xs cc own nL d rk tgt lv st h x) (kf : (¬ (a < b)) → zS y0 L xs cc own nL d rk pc' lv st h y) : zS y0 L xs cc own nL d rk pc lv (qi b :: qi a :: st) h (if a < b then x else y) := by
  intro r h' hx
  have KT := fun (hc : a < b) => kt hc r h' (by rw [if_pos hc] at hx; exact hx)
  have KF := fun (hc : ¬ (a < b)) => kf hc r h' (by rw [if_neg hc] at hx; exact hx)
  refine ⟨?_, ?_⟩
  · by_cases hc : a < b
    · exact (KT hc).1
    · exact (KF hc).1
  intro p l e R s m args below meth c H locs cells slots Q D aC A ad Kc Ks ls hE adE B hRc hRs hret
  obtain ⟨hi, hRm, hG, ⟨hl, hlk, hsk⟩, hHk, hRep, hcs, hag⟩ := B
  obtain ⟨hx0, hb, hml, hown⟩ := id hi
  subst hp
  show W p l e R s m args below meth c H locs cells slots Q (F0 m pc ls (Value.int (Int32.ofInt b) :: Value.int (Int32.ofInt a) :: st.map (q2 ad)))
  obtain ⟨hk0, hsk⟩ := List.forall_mem_cons.mp hsk
  obtain ⟨hk1, hsk⟩ := List.forall_mem_cons.mp hsk
  have hk0 : q32 b := hk0
  have hk1 : q32 a := hk1
  have hcc := (qe_lt hk1 hk0)
  refine lv_icmp_lt hx0 hb hd ht (fun hc => ?_) (fun hc => ?_)
  · exact (KT (by first | exact hcc.mp hc | (simpa using hcc.mp (by simpa using hc)))).2 p l e R s m args below meth c H locs cells slots Q D aC A ad Kc Ks ls hE adE  ⟨hi, hRm, hG, ⟨hl, hlk, hsk⟩, hHk, hRep, hcs, hag⟩ hRc hRs hret
  · exact (KF (by first | exact mt hcc.mpr hc | (simpa using mt hcc.mpr (by simpa using hc)))).2 p l e R s m args below meth c H locs cells slots Q D aC A ad Kc Ks ls hE adE  ⟨hi, hRm, hG, ⟨hl, hlk, hsk⟩, hHk, hRep, hcs, hag⟩ hRc hRs hret
theorem Z_if_ge {a : Int} {off : Int} {tgt : Nat} (hd : decode cc pc = .ok (.ifCond .ge off, 3)) (ht : (pc : Int) + off = (tgt : Int)) (hp : pc + 3 = pc') (kt : (0 ≤ a) → zS y0 L xs cc own nL d rk tgt lv st h x) (kf : (¬ (0 ≤ a)) → zS y0 L xs cc own nL d rk pc' lv st h y) : zS y0 L xs cc own nL d rk pc lv (qi a :: st) h (if 0 ≤ a then x else y) := by
  intro r h' hx
  have KT := fun (hc : 0 ≤ a) => kt hc r h' (by rw [if_pos hc] at hx; exact hx)
  have KF := fun (hc : ¬ (0 ≤ a)) => kf hc r h' (by rw [if_neg hc] at hx; exact hx)
  refine ⟨?_, ?_⟩
  · by_cases hc : 0 ≤ a
    · exact (KT hc).1
    · exact (KF hc).1
  intro p l e R s m args below meth c H locs cells slots Q D aC A ad Kc Ks ls hE adE B hRc hRs hret
  obtain ⟨hi, hRm, hG, ⟨hl, hlk, hsk⟩, hHk, hRep, hcs, hag⟩ := B
  obtain ⟨hx0, hb, hml, hown⟩ := id hi
  subst hp
  show W p l e R s m args below meth c H locs cells slots Q (F0 m pc ls (Value.int (Int32.ofInt a) :: st.map (q2 ad)))
  obtain ⟨hk0, hsk⟩ := List.forall_mem_cons.mp hsk
  have hk0 : q32 a := hk0
  have hcc := (qe_le qz_0 hk0)
  rw [← qo_0] at hcc
  refine lv_if_ge hx0 hb hd ht (fun hc => ?_) (fun hc => ?_)
  · exact (KT (by first | exact hcc.mp hc | (simpa using hcc.mp (by simpa using hc)))).2 p l e R s m args below meth c H locs cells slots Q D aC A ad Kc Ks ls hE adE  ⟨hi, hRm, hG, ⟨hl, hlk, hsk⟩, hHk, hRep, hcs, hag⟩ hRc hRs hret
  · exact (KF (by first | exact mt hcc.mpr hc | (simpa using mt hcc.mpr (by simpa using hc)))).2 p l e R s m args below meth c H locs cells slots Q D aC A ad Kc Ks ls hE adE  ⟨hi, hRm, hG, ⟨hl, hlk, hsk⟩, hHk, hRep, hcs, hag⟩ hRc hRs hret
theorem Z_icmp_ge {a b : Int} {off : Int} {tgt : Nat} (hd : decode cc pc = .ok (.if_icmp .ge off, 3)) (ht : (pc : Int) + off = (tgt : Int)) (hp : pc + 3 = pc') (kt : (b ≤ a) → zS y0 L xs cc own nL d rk tgt lv st h x) (kf : (¬ (b ≤ a)) → zS y0 L xs cc own nL d rk pc' lv st h y) : zS y0 L xs cc own nL d rk pc lv (qi b :: qi a :: st) h (if b ≤ a then x else y) := by
  intro r h' hx
  have KT := fun (hc : b ≤ a) => kt hc r h' (by rw [if_pos hc] at hx; exact hx)
  have KF := fun (hc : ¬ (b ≤ a)) => kf hc r h' (by rw [if_neg hc] at hx; exact hx)
  refine ⟨?_, ?_⟩
  · by_cases hc : b ≤ a
    · exact (KT hc).1
    · exact (KF hc).1
  intro p l e R s m args below meth c H locs cells slots Q D aC A ad Kc Ks ls hE adE B hRc hRs hret
  obtain ⟨hi, hRm, hG, ⟨hl, hlk, hsk⟩, hHk, hRep, hcs, hag⟩ := B
  obtain ⟨hx0, hb, hml, hown⟩ := id hi
  subst hp
  show W p l e R s m args below meth c H locs cells slots Q (F0 m pc ls (Value.int (Int32.ofInt b) :: Value.int (Int32.ofInt a) :: st.map (q2 ad)))
  obtain ⟨hk0, hsk⟩ := List.forall_mem_cons.mp hsk
  obtain ⟨hk1, hsk⟩ := List.forall_mem_cons.mp hsk
  have hk0 : q32 b := hk0
  have hk1 : q32 a := hk1
  have hcc := (qe_le hk0 hk1)
  refine lv_icmp_ge hx0 hb hd ht (fun hc => ?_) (fun hc => ?_)
  · exact (KT (by first | exact hcc.mp hc | (simpa using hcc.mp (by simpa using hc)))).2 p l e R s m args below meth c H locs cells slots Q D aC A ad Kc Ks ls hE adE  ⟨hi, hRm, hG, ⟨hl, hlk, hsk⟩, hHk, hRep, hcs, hag⟩ hRc hRs hret
  · exact (KF (by first | exact mt hcc.mpr hc | (simpa using mt hcc.mpr (by simpa using hc)))).2 p l e R s m args below meth c H locs cells slots Q D aC A ad Kc Ks ls hE adE  ⟨hi, hRm, hG, ⟨hl, hlk, hsk⟩, hHk, hRep, hcs, hag⟩ hRc hRs hret
theorem Z_if_gt {a : Int} {off : Int} {tgt : Nat} (hd : decode cc pc = .ok (.ifCond .gt off, 3)) (ht : (pc : Int) + off = (tgt : Int)) (hp : pc + 3 = pc') (kt : (0 < a) → zS y0 L xs cc own nL d rk tgt lv st h x) (kf : (¬ (0 < a)) → zS y0 L xs cc own nL d rk pc' lv st h y) : zS y0 L xs cc own nL d rk pc lv (qi a :: st) h (if 0 < a then x else y) := by
  intro r h' hx
  have KT := fun (hc : 0 < a) => kt hc r h' (by rw [if_pos hc] at hx; exact hx)
  have KF := fun (hc : ¬ (0 < a)) => kf hc r h' (by rw [if_neg hc] at hx; exact hx)
  refine ⟨?_, ?_⟩
  · by_cases hc : 0 < a
    · exact (KT hc).1
    · exact (KF hc).1
  intro p l e R s m args below meth c H locs cells slots Q D aC A ad Kc Ks ls hE adE B hRc hRs hret
  obtain ⟨hi, hRm, hG, ⟨hl, hlk, hsk⟩, hHk, hRep, hcs, hag⟩ := B
  obtain ⟨hx0, hb, hml, hown⟩ := id hi
  subst hp
  show W p l e R s m args below meth c H locs cells slots Q (F0 m pc ls (Value.int (Int32.ofInt a) :: st.map (q2 ad)))
  obtain ⟨hk0, hsk⟩ := List.forall_mem_cons.mp hsk
  have hk0 : q32 a := hk0
  have hcc := (qe_lt qz_0 hk0)
  rw [← qo_0] at hcc
  refine lv_if_gt hx0 hb hd ht (fun hc => ?_) (fun hc => ?_)
  · exact (KT (by first | exact hcc.mp hc | (simpa using hcc.mp (by simpa using hc)))).2 p l e R s m args below meth c H locs cells slots Q D aC A ad Kc Ks ls hE adE  ⟨hi, hRm, hG, ⟨hl, hlk, hsk⟩, hHk, hRep, hcs, hag⟩ hRc hRs hret
  · exact (KF (by first | exact mt hcc.mpr hc | (simpa using mt hcc.mpr (by simpa using hc)))).2 p l e R s m args below meth c H locs cells slots Q D aC A ad Kc Ks ls hE adE  ⟨hi, hRm, hG, ⟨hl, hlk, hsk⟩, hHk, hRep, hcs, hag⟩ hRc hRs hret
theorem Z_icmp_gt {a b : Int} {off : Int} {tgt : Nat} (hd : decode cc pc = .ok (.if_icmp .gt off, 3)) (ht : (pc : Int) + off = (tgt : Int)) (hp : pc + 3 = pc') (kt : (b < a) → zS y0 L xs cc own nL d rk tgt lv st h x) (kf : (¬ (b < a)) → zS y0 L xs cc own nL d rk pc' lv st h y) : zS y0 L xs cc own nL d rk pc lv (qi b :: qi a :: st) h (if b < a then x else y) := by
  intro r h' hx
  have KT := fun (hc : b < a) => kt hc r h' (by rw [if_pos hc] at hx; exact hx)
  have KF := fun (hc : ¬ (b < a)) => kf hc r h' (by rw [if_neg hc] at hx; exact hx)
  refine ⟨?_, ?_⟩
  · by_cases hc : b < a
    · exact (KT hc).1
    · exact (KF hc).1
  intro p l e R s m args below meth c H locs cells slots Q D aC A ad Kc Ks ls hE adE B hRc hRs hret
  obtain ⟨hi, hRm, hG, ⟨hl, hlk, hsk⟩, hHk, hRep, hcs, hag⟩ := B
  obtain ⟨hx0, hb, hml, hown⟩ := id hi
  subst hp
  show W p l e R s m args below meth c H locs cells slots Q (F0 m pc ls (Value.int (Int32.ofInt b) :: Value.int (Int32.ofInt a) :: st.map (q2 ad)))
  obtain ⟨hk0, hsk⟩ := List.forall_mem_cons.mp hsk
  obtain ⟨hk1, hsk⟩ := List.forall_mem_cons.mp hsk
  have hk0 : q32 b := hk0
  have hk1 : q32 a := hk1
  have hcc := (qe_lt hk0 hk1)
  refine lv_icmp_gt hx0 hb hd ht (fun hc => ?_) (fun hc => ?_)
  · exact (KT (by first | exact hcc.mp hc | (simpa using hcc.mp (by simpa using hc)))).2 p l e R s m args below meth c H locs cells slots Q D aC A ad Kc Ks ls hE adE  ⟨hi, hRm, hG, ⟨hl, hlk, hsk⟩, hHk, hRep, hcs, hag⟩ hRc hRs hret
  · exact (KF (by first | exact mt hcc.mpr hc | (simpa using mt hcc.mpr (by simpa using hc)))).2 p l e R s m args below meth c H locs cells slots Q D aC A ad Kc Ks ls hE adE  ⟨hi, hRm, hG, ⟨hl, hlk, hsk⟩, hHk, hRep, hcs, hag⟩ hRc hRs hret
theorem Z_if_le {a : Int} {off : Int} {tgt : Nat} (hd : decode cc pc = .ok (.ifCond .le off, 3)) (ht : (pc : Int) + off = (tgt : Int)) (hp : pc + 3 = pc') (kt : (a ≤ 0) → zS y0 L xs cc own nL d rk tgt lv st h x) (kf : (¬ (a ≤ 0)) → zS y0 L xs cc own nL d rk pc' lv st h y) : zS y0 L xs cc own nL d rk pc lv (qi a :: st) h (if a ≤ 0 then x else y) := by
  intro r h' hx
  have KT := fun (hc : a ≤ 0) => kt hc r h' (by rw [if_pos hc] at hx; exact hx)
  have KF := fun (hc : ¬ (a ≤ 0)) => kf hc r h' (by rw [if_neg hc] at hx; exact hx)
  refine ⟨?_, ?_⟩
  · by_cases hc : a ≤ 0
    · exact (KT hc).1
    · exact (KF hc).1
  intro p l e R s m args below meth c H locs cells slots Q D aC A ad Kc Ks ls hE adE B hRc hRs hret
  obtain ⟨hi, hRm, hG, ⟨hl, hlk, hsk⟩, hHk, hRep, hcs, hag⟩ := B
  obtain ⟨hx0, hb, hml, hown⟩ := id hi
  subst hp
  show W p l e R s m args below meth c H locs cells slots Q (F0 m pc ls (Value.int (Int32.ofInt a) :: st.map (q2 ad)))
  obtain ⟨hk0, hsk⟩ := List.forall_mem_cons.mp hsk
  have hk0 : q32 a := hk0
  have hcc := (qe_le hk0 qz_0)
  rw [← qo_0] at hcc
  refine lv_if_le hx0 hb hd ht (fun hc => ?_) (fun hc => ?_)
  · exact (KT (by first | exact hcc.mp hc | (simpa using hcc.mp (by simpa using hc)))).2 p l e R s m args below meth c H locs cells slots Q D aC A ad Kc Ks ls hE adE  ⟨hi, hRm, hG, ⟨hl, hlk, hsk⟩, hHk, hRep, hcs, hag⟩ hRc hRs hret
  · exact (KF (by first | exact mt hcc.mpr hc | (simpa using mt hcc.mpr (by simpa using hc)))).2 p l e R s m args below meth c H locs cells slots Q D aC A ad Kc Ks ls hE adE  ⟨hi, hRm, hG, ⟨hl, hlk, hsk⟩, hHk, hRep, hcs, hag⟩ hRc hRs hret
theorem Z_icmp_le {a b : Int} {off : Int} {tgt : Nat} (hd : decode cc pc = .ok (.if_icmp .le off, 3)) (ht : (pc : Int) + off = (tgt : Int)) (hp : pc + 3 = pc') (kt : (a ≤ b) → zS y0 L xs cc own nL d rk tgt lv st h x) (kf : (¬ (a ≤ b)) → zS y0 L xs cc own nL d rk pc' lv st h y) : zS y0 L xs cc own nL d rk pc lv (qi b :: qi a :: st) h (if a ≤ b then x else y) := by
  intro r h' hx
  have KT := fun (hc : a ≤ b) => kt hc r h' (by rw [if_pos hc] at hx; exact hx)
  have KF := fun (hc : ¬ (a ≤ b)) => kf hc r h' (by rw [if_neg hc] at hx; exact hx)
  refine ⟨?_, ?_⟩
  · by_cases hc : a ≤ b
    · exact (KT hc).1
    · exact (KF hc).1
  intro p l e R s m args below meth c H locs cells slots Q D aC A ad Kc Ks ls hE adE B hRc hRs hret
  obtain ⟨hi, hRm, hG, ⟨hl, hlk, hsk⟩, hHk, hRep, hcs, hag⟩ := B
  obtain ⟨hx0, hb, hml, hown⟩ := id hi
  subst hp
  show W p l e R s m args below meth c H locs cells slots Q (F0 m pc ls (Value.int (Int32.ofInt b) :: Value.int (Int32.ofInt a) :: st.map (q2 ad)))
  obtain ⟨hk0, hsk⟩ := List.forall_mem_cons.mp hsk
  obtain ⟨hk1, hsk⟩ := List.forall_mem_cons.mp hsk
  have hk0 : q32 b := hk0
  have hk1 : q32 a := hk1
  have hcc := (qe_le hk1 hk0)
  refine lv_icmp_le hx0 hb hd ht (fun hc => ?_) (fun hc => ?_)
  · exact (KT (by first | exact hcc.mp hc | (simpa using hcc.mp (by simpa using hc)))).2 p l e R s m args below meth c H locs cells slots Q D aC A ad Kc Ks ls hE adE  ⟨hi, hRm, hG, ⟨hl, hlk, hsk⟩, hHk, hRep, hcs, hag⟩ hRc hRs hret
  · exact (KF (by first | exact mt hcc.mpr hc | (simpa using mt hcc.mpr (by simpa using hc)))).2 p l e R s m args below meth c H locs cells slots Q D aC A ad Kc Ks ls hE adE  ⟨hi, hRm, hG, ⟨hl, hlk, hsk⟩, hHk, hRep, hcs, hag⟩ hRc hRs hret
end zrows

