/-! ===== rows that read and write the world ===== -/
theorem qNw_use {w : Cond} (hg : qgw w = true) {A : Array Value} {s : State} (h : va_Nw w s) : w.before A s = true := by
  unfold qgw at hg
  rw [Bool.or_eq_true] at hg
  rcases hg with hg | hg
  · exact word_at (State.WarmedH.refl s) (good_of_word hg) h
  · cases w <;> first | exact va_Nw.use rfl h | cases hg
def qCl (ci : Nat) (C : String) (T : u_T) (N : Nat) (ty : Nat → FieldType) : Prop := vwCl[ci]? = some (C, T, N) ∧ ci < 20 ∧ (∀ w ∈ u_ws C T N, w ∈ lw_tbl ∧ qgw w = true) ∧ (∀ a, a < N → ∀ b, b < N → a ≠ b → (T a).2.1 ≠ (T b).2.1) ∧ ∀ k, k < N → parseFieldDescriptor (T k).2.2.1 = some (ty k)
theorem qKL_len : qKL.length = 227 := by decide +kernel
theorem qK_out {i : Nat} (h : 227 ≤ i) : qK i = (99, 0) := by
  unfold qK
  rw [List.getD_eq_getElem?_getD, List.getElem?_eq_none (by rw [qKL_len]; exact h)]
  rfl
theorem qK_lt {i : Nat} (h : (qK i).1 < 20) : i < 225 := by
  rcases Nat.lt_or_ge i 225 with q | q
  · exact q
  · exfalso
    rcases (show i = 225 ∨ i = 226 ∨ 227 ≤ i by omega) with e | e | e
    · subst e
      exact absurd h (by decide +kernel)
    · subst e
      exact absurd h (by decide +kernel)
    · rw [qK_out e] at h
      exact absurd h (by decide)
theorem qK_lt2 {i : Nat} (h : (qK i).1 < 99) : i < 227 := by
  rcases Nat.lt_or_ge i 227 with q | q
  · exact q
  · rw [qK_out q] at h
    exact absurd h (by decide)
theorem qids_of {h : qH} {i : Nat} (h1 : i < 227) (h2 : qlv h i) : i ∈ qids h := by
  rw [qids_mem]
  rcases h2 with g | g | g | g
  · exact Or.inl g
  · omega
  · exact Or.inr (Or.inl g)
  · exact Or.inr (Or.inr g)
theorem qent_cg {aC : Nat → ClassId} {ad : Nat → Nat} {h1 h2 : qH} {i : Nat} (e1 : h1.1 i = h2.1 i) (e2 : h1.2 = h2.2) : qent aC ad h1 i = qent aC ad h2 i := by
  have e3 : qfl ad h1 i = qfl ad h2 i := by
    unfold qfl
    refine List.map_congr_left (fun k _ => ?_)
    unfold qfv qF
    rw [e1, e2]
  unfold qent
  rw [e1, e3]
theorem qu_ne {h : qH} {i k j : Nat} {v : Int} (hj : ¬ j = i) : (qu h i k v).1 j = h.1 j := by
  funext b
  simp [qu, hj]
theorem qent_obj {aC : Nat → ClassId} {ad : Nat → Nat} {h : qH} {i ci N : Nat} (hi : qK i = (ci, N)) (hc : ci < 20) : qent aC ad h i = .inr (ci, qfl ad h i) := by
  unfold qent
  rw [hi]
  rw [if_pos hc]
theorem qfl_at {ad : Nat → Nat} {h : qH} {i ci N k : Nat} (hi : qK i = (ci, N)) (hk : k < N) : (qfl ad h i)[k]? = some (qfv ad h i k) := by
  unfold qfl
  rw [hi]
  simp [hk]
theorem qfl_len {ad : Nat → Nat} {h : qH} {i ci N : Nat} (hi : qK i = (ci, N)) : (qfl ad h i).length = N := by
  unfold qfl
  rw [hi]
  simp
theorem qent_put {aC : Nat → ClassId} {ad : Nat → Nat} {h : qH} {i ci N k : Nat} {v : Int} (hi : qK i = (ci, N)) (hc : ci < 20) (hk : k < N) (hT : qT ci k < 2) (j : Nat) : (if j = i then (.inr (ci, (qfl ad h i).set k (.int (Int32.ofInt v))) : va_E) else qent aC ad h j) = qent aC ad (qu h i k v) j := by
  by_cases hj : j = i
  · subst hj
    rw [if_pos rfl, qent_obj hi hc]
    congr 2
    apply List.ext_getElem?
    intro n
    by_cases hn : n < N
    · rw [qfl_at hi hn]
      by_cases hnk : k = n
      · subst hnk
        rw [List.getElem?_set_self (by rw [qfl_len hi]; exact hn)]
        unfold qfv
        rw [hi]
        simp [hT, qu]
      · rw [List.getElem?_set_ne hnk, qfl_at hi hn]
        unfold qfv
        rw [hi]
        have e1 : (qu h j k v).1 j n = h.1 j n := by
          show (if j = j ∧ n = k then v else h.1 j n) = _
          rw [if_neg (fun q => hnk q.2.symm)]
        rw [e1]
        rfl
    · have l1 : ((qfl ad h j).set k (.int (Int32.ofInt v)))[n]? = none := by
        rw [List.getElem?_eq_none_iff, List.length_set, qfl_len hi]; omega
      have l2 : (qfl ad (qu h j k v) j)[n]? = none := by
        rw [List.getElem?_eq_none_iff, qfl_len hi]; omega
      rw [l1, l2]
  · rw [if_neg hj]
    exact qent_cg (qu_ne hj).symm rfl
theorem qHk_put {h : qH} {i k : Nat} {v : Int} (g : qHk h) (hv : q32 v) (hz : (qK i).1 = 0 → k = 4 → v = 0 ∨ v = 1) : qHk (qu h i k v) := by
  obtain ⟨g1, g2, g3⟩ := g
  refine ⟨fun a b => ?_, fun a b hk => ?_, fun a ha => ?_⟩
  · show q64 (if a = i ∧ b = k then v else h.1 a b)
    split
    · exact q32_64 hv
    · exact g1 a b
  · show q32 (if a = i ∧ b = k then v else h.1 a b)
    split
    · exact hv
    · exact g2 a b hk
  · show (if a = i ∧ 4 = k then v else h.1 a 4) = 0 ∨ (if a = i ∧ 4 = k then v else h.1 a 4) = 1
    split
    · next e => exact hz (by rw [← e.1]; exact ha) e.2.symm
    · exact g3 a ha
theorem qk_put {h : qH} {i k : Nat} {v : Int} {w : qV} (g : qk h w) : qk (qu h i k v) w := g
/-- after a write at one object -/
theorem qRep_put {D : va_G} {aC : Nat → ClassId} {A : Nat → Prop} {ad : Nat → Nat} {h h1 : qH} {H1 : Heap} {i k : Nat} {e : va_E} (hs : (qWl (qids h) ad (qent aC ad h)).set k (ad i, e) = qWl (qids h) ad (fun j => if j = i then e else qent aC ad h j)) (h2 : h1.2 = h.2) (he : ∀ j, (if j = i then e else qent aC ad h j) = qent aC ad h1 j)
    (hP : va_P D vwCl ((qWl (qids h) ad (qent aC ad h)).set k (ad i, e)) H1) (hD : va_D A ((qWl (qids h) ad (qent aC ad h)).set k (ad i, e))) : qRep D aC A ad h1 H1 := by
  have e1 : qids h1 = qids h := by unfold qids; rw [h2]
  rw [hs, qWl_cg (fun j _ => he j), ← e1] at hP hD
  exact ⟨hP, hD⟩
section qheap
variable {L : Nat} {xs : Nat → Int32} {cc : ByteArray} {own : String} {nL d rk pc pc' : Nat} {lv lv' : List (Nat × qV)} {st : List qV} {h : qH} {x y : Option (Int × qH)}
theorem S_geti {ci N index i : Nat} {C : String} {T : u_T} {ty : Nat → FieldType} (k : Nat) (hC : qCl ci C T N ty) (hk : k < N) (hT : qT ci k < 2) (hi : qK i = (ci, N)) (hw : Cond.fieldLink own index (T k).1 (T k).2.1 (T k).2.2.1 ∈ lw_tbl) (hd : decode cc pc = .ok (.getfield index, 3)) (hp : pc + 3 = pc') (kk : qS L xs cc own nL d rk pc' lv (qi (h.1 i k) :: st) h x) : qS L xs cc own nL d rk pc lv (qr i :: st) h x := by
  intro r h' hx
  refine ⟨(kk r h' hx).1, ?_⟩
  intro p l e R s m args below meth c H locs cells slots Q D aC A ad Kc Ks ls hE adE B hRc hRs hret
  obtain ⟨hii, hRm, hG, ⟨hl, hlk, hsk⟩, hHk, hRep, hcs, hag⟩ := B
  obtain ⟨hx0, hb, hml, hown⟩ := id hii
  subst hp
  obtain ⟨hk0, hsk⟩ := List.forall_mem_cons.mp hsk
  obtain ⟨c1, c2, c3, c4, c5⟩ := hC
  have hlt : i < 225 := qK_lt (by rw [hi]; exact c2)
  obtain ⟨z, hz, -⟩ := qWl_at (ad := ad) (f := qent aC ad h) (qids_nodup h) (qids_mem.mpr (Or.inl hlt))
  rw [qent_obj hi c2] at hz
  have hv : (qfl ad h i)[k]? = some (.int (Int32.ofInt (h.1 i k))) := by
    rw [qfl_at hi hk]; unfold qfv; rw [hi]; simp [hT]
  refine va_get (Ts := u_ws C T N) hx0 hb (fun w hw => qNw_use (c3 w hw).2 (hG.1 w (c3 w hw).1 (c3 w hw).2)) (fun _ h => h) hown hG.2.1 hRep.1.1 z hz c1 k hk (qNw_use rfl (hG.1 _ hw rfl)) (fun _ h => h) hv hd ?_
  exact (kk r h' hx).2 p l e R s m args below meth c H locs cells slots Q D aC A ad Kc Ks ls hE adE ⟨hii, hRm, hG, ⟨hl, hlk, List.forall_mem_cons.mpr ⟨hHk.2.1 i k (by rw [hi]; show ci ≠ 24; omega), hsk⟩⟩, hHk, hRep, hcs, hag⟩ hRc hRs hret
/-- a boolean field of a bottle: its number is 0 or 1 -/
theorem S_getz {index i : Nat} (hi : qK i = (0, 8)) (hC : qCl 0 RX0 TX0 8 tyX0) (hw : Cond.fieldLink own index (TX0 4).1 (TX0 4).2.1 (TX0 4).2.2.1 ∈ lw_tbl) (hd : decode cc pc = .ok (.getfield index, 3)) (hp : pc + 3 = pc') (kk : (h.1 i 4 = 0 ∨ h.1 i 4 = 1) → qS L xs cc own nL d rk pc' lv (qi (h.1 i 4) :: st) h x) : qHk h → qS L xs cc own nL d rk pc lv (qr i :: st) h x :=
  fun g => S_geti 4 hC (by decide) (by decide) hi hw hd hp (kk (g.2.2 i (by rw [hi])))
/-- numbers are in their bounds wherever a walk stands -/
theorem S_hk (k : qHk h → qS L xs cc own nL d rk pc lv st h x) (hm : ∀ r h', x = some (r, h') → qM h h') : qS L xs cc own nL d rk pc lv st h x := by
  intro r h' hx
  refine ⟨hm r h' hx, ?_⟩
  intro p l e R s m args below meth c H locs cells slots Q D aC A ad Kc Ks ls hE adE B
  exact (k B.2.2.2.2.1 r h' hx).2 p l e R s m args below meth c H locs cells slots Q D aC A ad Kc Ks ls hE adE B
theorem S_puti {ci N index i : Nat} {C : String} {T : u_T} {ty : Nat → FieldType} {a : Int} (k : Nat) (hC : qCl ci C T N ty) (hk : k < N) (hT : qT ci k = 0) (hty : ty k = .int) (hfin : (T k).2.2.2 = false) (hi : qK i = (ci, N)) (hz : ci = 0 → ¬ k = 4) (hw : Cond.fieldLink own index (T k).1 (T k).2.1 (T k).2.2.1 ∈ lw_tbl) (hd : decode cc pc = .ok (.putfield index, 3)) (hp : pc + 3 = pc') (kk : qS L xs cc own nL d rk pc' lv st (qu h i k a) x) : qS L xs cc own nL d rk pc lv (qi a :: qr i :: st) h x := by
  intro r h' hx
  refine ⟨(kk r h' hx).1, ?_⟩
  intro p l e R s m args below meth c H locs cells slots Q D aC A ad Kc Ks ls hE adE B hRc hRs hret
  obtain ⟨hii, hRm, hG, ⟨hl, hlk, hsk⟩, hHk, hRep, hcs, hag⟩ := B
  obtain ⟨hx0, hb, hml, hown⟩ := id hii
  subst hp
  obtain ⟨hk0, hsk⟩ := List.forall_mem_cons.mp hsk
  obtain ⟨-, hsk⟩ := List.forall_mem_cons.mp hsk
  obtain ⟨c1, c2, c3, c4, c5⟩ := hC
  have hlt : i < 225 := qK_lt (by rw [hi]; exact c2)
  obtain ⟨z, hz1, hz2⟩ := qWl_at (ad := ad) (f := qent aC ad h) (qids_nodup h) (qids_mem.mpr (Or.inl hlt))
  rw [qent_obj hi c2] at hz1
  refine va_put (Ts := u_ws C T N) hx0 hb (fun w hw => qNw_use (c3 w hw).2 (hG.1 w (c3 w hw).1 (c3 w hw).2)) (fun _ h => h) ty c5 c4 hown hG.2.1 hRep.1.1 hRep.1.2 hRep.2 z hz1 c1 k hk (qNw_use rfl (hG.1 _ hw rfl)) (fun _ h => h) hfin (c5 k hk) (by rw [hty]; rfl) (by rw [hty]; rfl) (by rw [qfl_len hi]; exact hk) hd (fun H1 locs1 hP1 hD1 hS1 => ?_)
  exact (kk r h' hx).2 p l e R s m args below meth c H1 locs1 cells slots Q D aC A ad Kc Ks ls hE adE ⟨hii, hRm, hG, ⟨hl, hlk, hsk⟩, qHk_put hHk hk0 (fun e1 e2 => absurd e2 (hz (by rw [hi] at e1; exact e1))), ⟨qRep_put (hz2 _) rfl (qent_put hi c2 hk (by omega)) hP1 hD1, hS1⟩, hcs, hag⟩ hRc hRs hret
/-- a bottle's weight -/
theorem S_putz {index i : Nat} {a : Int} (hC : qCl 0 RX0 TX0 8 tyX0) (hi : qK i = (0, 8)) (ha : a = 0 ∨ a = 1) (hw : Cond.fieldLink own index (TX0 4).1 (TX0 4).2.1 (TX0 4).2.2.1 ∈ lw_tbl) (hd : decode cc pc = .ok (.putfield index, 3)) (hp : pc + 3 = pc') (kk : qS L xs cc own nL d rk pc' lv st (qu h i 4 a) x) : qS L xs cc own nL d rk pc lv (qi a :: qr i :: st) h x := by
  intro r h' hx
  refine ⟨(kk r h' hx).1, ?_⟩
  intro p l e R s m args below meth c H locs cells slots Q D aC A ad Kc Ks ls hE adE B hRc hRs hret
  obtain ⟨hii, hRm, hG, ⟨hl, hlk, hsk⟩, hHk, hRep, hcs, hag⟩ := B
  obtain ⟨hx0, hb, hml, hown⟩ := id hii
  subst hp
  obtain ⟨hk0, hsk⟩ := List.forall_mem_cons.mp hsk
  obtain ⟨-, hsk⟩ := List.forall_mem_cons.mp hsk
  obtain ⟨c1, c2, c3, c4, c5⟩ := hC
  have hlt : i < 225 := qK_lt (by rw [hi]; exact c2)
  obtain ⟨z, hz1, hz2⟩ := qWl_at (ad := ad) (f := qent aC ad h) (qids_nodup h) (qids_mem.mpr (Or.inl hlt))
  rw [qent_obj hi c2] at hz1
  have n1 : narrow .boolean (.int (Int32.ofInt a)) = .int (Int32.ofInt a) := by rcases ha with rfl | rfl <;> decide
  have n2 : fits .boolean (.int (Int32.ofInt a)) = true := by rcases ha with rfl | rfl <;> decide
  refine va_put (Ts := u_ws RX0 TX0 8) (v := .int (Int32.ofInt a)) hx0 hb (fun w hw => qNw_use (c3 w hw).2 (hG.1 w (c3 w hw).1 (c3 w hw).2)) (fun _ h => h) tyX0 c5 c4 hown hG.2.1 hRep.1.1 hRep.1.2 hRep.2 z hz1 c1 4 (by decide) (qNw_use rfl (hG.1 _ hw rfl)) (fun _ h => h) rfl (c5 4 (by decide)) n1 n2 (by rw [qfl_len hi]; decide) hd (fun H1 locs1 hP1 hD1 hS1 => ?_)
  exact (kk r h' hx).2 p l e R s m args below meth c H1 locs1 cells slots Q D aC A ad Kc Ks ls hE adE ⟨hii, hRm, hG, ⟨hl, hlk, hsk⟩, qHk_put hHk hk0 (fun _ _ => ha), ⟨qRep_put (hz2 _) rfl (qent_put hi c2 (by decide) (by decide)) hP1 hD1, hS1⟩, hcs, hag⟩ hRc hRs hret
/-- a reference field that never changes -/
theorem S_getr {ci N index i j o : Nat} {C : String} {T : u_T} {ty : Nat → FieldType} (k : Nat) (hC : qCl ci C T N ty) (hk : k < N) (hT : qT ci k = 2) (hi : qK i = (ci, N)) (ho : qO ci k = some o) (hj : i + o = j) (hjl : j < 225) (hw : Cond.fieldLink own index (T k).1 (T k).2.1 (T k).2.2.1 ∈ lw_tbl) (hd : decode cc pc = .ok (.getfield index, 3)) (hp : pc + 3 = pc') (kk : qS L xs cc own nL d rk pc' lv (qr j :: st) h x) : qS L xs cc own nL d rk pc lv (qr i :: st) h x := by
  intro r h' hx
  refine ⟨(kk r h' hx).1, ?_⟩
  intro p l e R s m args below meth c H locs cells slots Q D aC A ad Kc Ks ls hE adE B hRc hRs hret
  obtain ⟨hii, hRm, hG, ⟨hl, hlk, hsk⟩, hHk, hRep, hcs, hag⟩ := B
  obtain ⟨hx0, hb, hml, hown⟩ := id hii
  subst hp
  obtain ⟨hk0, hsk⟩ := List.forall_mem_cons.mp hsk
  obtain ⟨c1, c2, c3, c4, c5⟩ := hC
  have hlt : i < 225 := qK_lt (by rw [hi]; exact c2)
  obtain ⟨z, hz, -⟩ := qWl_at (ad := ad) (f := qent aC ad h) (qids_nodup h) (qids_mem.mpr (Or.inl hlt))
  rw [qent_obj hi c2] at hz
  have n1 : ¬ (ci = 2 ∧ k = 4) := by rintro ⟨rfl, rfl⟩; exact absurd (show (none : Option Nat) = some o from ho) (by simp)
  have n2 : ¬ (ci = 2 ∧ k = 5) := by rintro ⟨rfl, rfl⟩; exact absurd (show (none : Option Nat) = some o from ho) (by simp)
  have n3 : ¬ (ci = 4 ∧ k = 3) := by rintro ⟨rfl, rfl⟩; exact absurd (show (none : Option Nat) = some o from ho) (by simp)
  have hv : (qfl ad h i)[k]? = some (.ref (ad j)) := by
    rw [qfl_at hi hk]
    unfold qfv qF
    rw [hi]
    simp only [hT, n1, n2, n3, if_false, ho, Option.map_some, hj]
    rfl
  refine va_get (Ts := u_ws C T N) hx0 hb (fun w hw => qNw_use (c3 w hw).2 (hG.1 w (c3 w hw).1 (c3 w hw).2)) (fun _ h => h) hown hG.2.1 hRep.1.1 z hz c1 k hk (qNw_use rfl (hG.1 _ hw rfl)) (fun _ h => h) hv hd ?_
  exact (kk r h' hx).2 p l e R s m args below meth c H locs cells slots Q D aC A ad Kc Ks ls hE adE ⟨hii, hRm, hG, ⟨hl, hlk, List.forall_mem_cons.mpr ⟨Or.inl hjl, hsk⟩⟩, hHk, hRep, hcs, hag⟩ hRc hRs hret
end qheap
