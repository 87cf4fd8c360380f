/-! ===== the texts: owner, place in its pool, text; their bytes ===== -/
def qsL : List (String × Nat × String) := [("BottlePost$Reader", 72, ";:+-*()[]=<>"), ("BottlePost$Reader", 113, "sea"), ("BottlePost$Reader", 118, "tides"), ("BottlePost$Reader", 123, "rock"), ("BottlePost$Reader", 128, "shore"), ("BottlePost$Reader", 175, "throws"), ("BottlePost$Reader", 193, "north"), ("BottlePost$Reader", 195, "east"), ("BottlePost$Reader", 197, "south"), ("BottlePost$Reader", 199, "west"), ("BottlePost$Reader", 180, "walks"), ("BottlePost$Reader", 133, "current"), ("BottlePost$Reader", 138, "wind"), ("BottlePost$Reader", 268, "from"), ("BottlePost$Reader", 270, "to"), ("BottlePost$Reader", 272, "finder"), ("BottlePost$Reader", 274, "age"), ("BottlePost$Reader", 276, "passed"), ("BottlePost$Reader", 278, "heavy"), ("BottlePost$Reader", 266, "tide"), ("BottlePost$Reader", 262, "x"), ("BottlePost$Reader", 264, "y"), ("BottlePost$Reader", 148, "moon"), ("BottlePost$Reader", 143, "keeps"), ("BottlePost$Reader", 248, "not"), ("BottlePost$Reader", 246, "and"), ("BottlePost$Reader", 237, "or"), ("BottlePost$Reader", 204, "springs"), ("BottlePost$Reader", 153, "cork"), ("BottlePostModel", 68, " sea tides rock shore throws walks current wind keeps moon springs cork north east south west or and not x y tide from to finder age passed heavy "), ("BottlePostModel", 106, ";:+-*()[]=<>")]
def qsB : List (List Int32) := [[59, 58, 43, 45, 42, 40, 41, 91, 93, 61, 60, 62], [115, 101, 97], [116, 105, 100, 101, 115], [114, 111, 99, 107], [115, 104, 111, 114, 101], [116, 104, 114, 111, 119, 115], [110, 111, 114, 116, 104], [101, 97, 115, 116], [115, 111, 117, 116, 104], [119, 101, 115, 116], [119, 97, 108, 107, 115], [99, 117, 114, 114, 101, 110, 116], [119, 105, 110, 100], [102, 114, 111, 109], [116, 111], [102, 105, 110, 100, 101, 114], [97, 103, 101], [112, 97, 115, 115, 101, 100], [104, 101, 97, 118, 121], [116, 105, 100, 101], [120], [121], [109, 111, 111, 110], [107, 101, 101, 112, 115], [110, 111, 116], [97, 110, 100], [111, 114], [115, 112, 114, 105, 110, 103, 115], [99, 111, 114, 107], [32, 115, 101, 97, 32, 116, 105, 100, 101, 115, 32, 114, 111, 99, 107, 32, 115, 104, 111, 114, 101, 32, 116, 104, 114, 111, 119, 115, 32, 119, 97, 108, 107, 115, 32, 99, 117, 114, 114, 101, 110, 116, 32, 119, 105, 110, 100, 32, 107, 101, 101, 112, 115, 32, 109, 111, 111, 110, 32, 115, 112, 114, 105, 110, 103, 115, 32, 99, 111, 114, 107, 32, 110, 111, 114, 116, 104, 32, 101, 97, 115, 116, 32, 115, 111, 117, 116, 104, 32, 119, 101, 115, 116, 32, 111, 114, 32, 97, 110, 100, 32, 110, 111, 116, 32, 120, 32, 121, 32, 116, 105, 100, 101, 32, 102, 114, 111, 109, 32, 116, 111, 32, 102, 105, 110, 100, 101, 114, 32, 97, 103, 101, 32, 112, 97, 115, 115, 101, 100, 32, 104, 101, 97, 118, 121, 32], [59, 58, 43, 45, 42, 40, 41, 91, 93, 61, 60, 62]]
def qsO (k : Nat) : String × Nat × String := qsL.getD k ("", 0, "")
def qsT (k : Nat) : List Int32 := qsB.getD k []
/-- what stands around: words of the tables, known classes, the script, the texts, two statics of the JDK's -/
def qG (L : Nat) (xs : Nat → Int32) (D : va_G) (aC : Nat → ClassId) (A : Nat → Prop) (ad : Nat → Nat) (U : State) (H : Heap) : Prop :=
  (∀ w ∈ lw_tbl, qgw w = true → va_Nw w U) ∧ va_K D vwCl (qtys aC) U ∧ (∀ q, H.size ≤ q → A q) ∧
  (va_X (ad 227) L xs U H ∧ ad 227 < H.size ∧ ¬ A (ad 227)) ∧
  (∀ k, k < 31 → vk_R (qsO k).1 (qsO k).2.1 (qsO k).2.2 (ad (300 + 2 * k)) U ∧ vk_S 1 [(qsT k).length] [qsT k] (fun _ => ad (300 + 2 * k)) (fun _ => ad (301 + 2 * k)) A U H) ∧
  va_Z "java/lang/String" "COMPACT_STRINGS" "Z" (.int 1) A U H ∧ va_Zq "jdk/internal/util/Preconditions" "SIOOBE_FORMATTER" "Ljava/util/function/BiFunction;" A U H
theorem qG.go {L : Nat} {xs : Nat → Int32} {D : va_G} {aC : Nat → ClassId} {A : Nat → Prop} {ad ad' : Nat → Nat} {s U : State} {H0 H : Heap} (h : qG L xs D aC A ad s H0) (hW : s.WarmedH U.vm) (hz : H0.size ≤ H.size) (hq : ∀ q : Nat, q < H0.size → ¬ A q → H[q]? = H0[q]?) (ha : ∀ i, 227 ≤ i → ad' i = ad i) : qG L xs D aC A ad' U H := by
  obtain ⟨h1, h2, h3, ⟨h4, h5, h6⟩, h7, h8, h9⟩ := h
  have e1 := ha 227 (Nat.le_refl _)
  refine ⟨fun w hw hg => qNw_warm hg hW (h1 w hw hg), h2.moved hW.alike, fun q g => h3 q (Nat.le_trans hz g), ⟨?_, ?_, ?_⟩, fun k hk => ?_, (h8.moved hW.alike).kept hq, (h9.moved hW.alike).kept hq⟩
  · rw [e1]
    exact (h4.moved hW.alike).kept (hq _ h5 h6)
  · rw [e1]
    exact Nat.lt_of_lt_of_le h5 hz
  · rw [e1]
    exact h6
  · obtain ⟨g1, g2⟩ := h7 k hk
    rw [ha (300 + 2 * k) (by omega), ha (301 + 2 * k) (by omega)]
    exact ⟨g1.warm hW, (g2.moved hW.alike).kept hq⟩
theorem qG.same {L : Nat} {xs : Nat → Int32} {D : va_G} {aC : Nat → ClassId} {A : Nat → Prop} {ad : Nat → Nat} {U V : State} {H : Heap} (h : qG L xs D aC A ad U H) (hv : V.vm = U.vm) : qG L xs D aC A ad V H :=
  h.go (by rw [hv]; exact State.WarmedH.refl U) (Nat.le_refl _) (fun _ _ _ => rfl) (fun _ _ => rfl)
/-- how a method's answer stands on the stack: 0 none, 1 int, 2 long, 3 a reference, 4 boolean, 5 char, 6 byte -/
def qri (rk : Nat) : Instr := if rk = 0 then .return_ else if rk = 2 then .lreturn else if rk = 3 then .areturn else .ireturn
def qrs (rk : Nat) (ad : Nat → Nat) (r : Int) : List Value := if rk = 0 then [] else if rk = 2 then [.long (Int64.ofInt r)] else if rk = 3 then [.ref (ad r.toNat)] else [.int (Int32.ofInt r)]
def qrk (rk : Nat) (h : qH) (r : Int) : Prop := if rk = 0 then True else if rk = 2 then q64 r else if rk = 3 then qlv h r.toNat else if rk = 4 then r = 0 ∨ r = 1 else if rk = 5 then 0 ≤ r ∧ r < 65536 else if rk = 6 then -128 ≤ r ∧ r < 128 else q32 r
/-- what holds at a place of a walk -/
def qB (L : Nat) (xs : Nat → Int32) (cc : ByteArray) (own : String) (nL d : Nat) (p : Program) (R : Room) (s : State) (m : MethodId) (c : Code) (H : Heap) (locs : List Loc) (cells slots : Nat) (D : va_G) (aC : Nat → ClassId) (A : Nat → Prop) (ad : Nat → Nat) (Kc Ks : Nat) (ls : Array Slot) (hE : qH) (adE : Nat → Nat) (lv : List (Nat × qV)) (st : List qV) (h : qH) : Prop :=
  (p.tables.exec = Jvm.exec ∧ c.code = cc ∧ c.maxLocals = nL ∧ s.vm.findClass own = some m.cls) ∧ (d ≤ R.frames ∧ 40 * d ≤ R.locals) ∧
  qG L xs D aC A ad s s.heap ∧ (lv_has ls nL (lv.map (fun q => (q.1, q2 ad q.2))) ∧ (∀ q ∈ lv, qk h q.2) ∧ (∀ v ∈ st, qk h v)) ∧ qHk h ∧
  (qRep D aC A ad h H ∧ va_S A s.heap H locs) ∧ (cells + qp h = Kc ∧ slots + qs h = Ks) ∧ (qM hE h ∧ ∀ i, qlv hE i → ad i = adE i)
/-- the place pc of the code, with locals lv, stack st, world h, comes to the end that the computation x tells, if it tells one -/
def qS (L : Nat) (xs : Nat → Int32) (cc : ByteArray) (own : String) (nL d rk pc : Nat) (lv : List (Nat × qV)) (st : List qV) (h : qH) (x : Option (Int × qH)) : Prop :=
  ∀ (r : Int) (h' : qH), x = some (r, h') → qM h h' ∧
    ∀ (p : Program) (l : Launch) (e : Env) (R : Room) (s : State) (m : MethodId) (args : Array Value) (below : List Frame) (meth : Method) (c : Code) (H : Heap) (locs : List Loc) (cells slots : Nat) (Q : State → Prop) (D : va_G) (aC : Nat → ClassId) (A : Nat → Prop) (ad : Nat → Nat) (Kc Ks : Nat) (ls : Array Slot) (hE : qH) (adE : Nat → Nat),
      qB L xs cc own nL d p R s m c H locs cells slots D aC A ad Kc Ks ls hE adE lv st h → Kc ≤ R.cells + qp h' → Ks ≤ R.slots + qs h' →
      (∀ (ad' : Nat → Nat) (H' : Heap) (locs' : List Loc) (cells' slots' pc' : Nat) (ls' : Array Slot), (qM hE h' ∧ ∀ i, qlv hE i → ad' i = adE i) → qHk h' → qrk rk h' r → qRep D aC A ad' h' H' → va_S A s.heap H' locs' → cells' + qp h' = Kc → slots' + qs h' = Ks → decode cc pc' = .ok (qri rk, 1) → W p l e R s m args below meth c H' locs' cells' slots' Q (F0 m pc' ls' (qrs rk ad' r))) →
      W p l e R s m args below meth c H locs cells slots Q (F0 m pc ls (st.map (q2 ad)))

