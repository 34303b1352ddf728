/-! THE CLAIM OUT OF ONE WALK OF THE LAW'S BODY. Your part is whole_start (and what it stands on); all else here is the same for every law, but numbers. -/
def R_law : String := "PaperKindsLaw"
def lw_P (b : Addr) (xs : List Int32) (args : Array Value) (s : State) : Prop := args = #[.ref b] ∧ s.IntsAt b xs ∧ xs.length ≤ 3072 ∧ (Jvm.Cond.and given_1 narrow_1).before args s = true
def lw_Q (_ : Array Value) (s : State) (o : Outcome) (t : State) : Prop := o = .returned (some (.int 1)) ∧ Framed s o t [] 600000 7302250
def lw_Z (below : List Frame) (a : Array Value) (s : State) : State → Prop := fun t => ∃ o, t.status = .running ∧ Ended t below o ∧ lw_Q a s o t
/-- the law's own end, with 1 on the stack, nothing written that was there before, its room as the claim has it -/
theorem lw_ret {p : Program} {l : Launch} {e : Env} {s : State} {m : MethodId} {below : List Frame} {meth : Method} {c : Code} {b : Nat} (hx : p.tables.exec = Jvm.exec) (hb : c.code = code) (hr : meth.sig.returnType = ret) (hlocks : meth.locks = false) {pc : Nat} {H : Heap} {ls : Array Slot} (hdg : decode code pc = .ok (.ireturn, 1)) : W p l e room_1 s m #[Value.ref b] below meth c H [] 600000 7302250 (lw_Z below #[Value.ref b] s) (F0 m pc ls [.int 1]) := by
  intro T hT X
  obtain ⟨fs, hret, hrun, hended, hW, hframe⟩ := X.leave (v := some (.int 1)) (hlocks := hlocks) (fun h => by rw [hr] at h; cases h)
  have hmeth' : T.vm.method? m = some meth := X.method'
  refine ⟨T.setFrames fs, ?_, .returned (some (.int 1)), hrun, hended, rfl, ⟨_, rfl⟩, hW, hframe⟩
  jvm_step X.here [X.here.top, hx, hb, hdg, hmeth', hr, ret, narrow_b1]
  (try refine ⟨rfl, ?_⟩); (try refine ⟨rfl, ?_⟩)
  first | (intro acts; rw [hret _ acts rfl rfl rfl]) | rw [hret _ _ rfl rfl rfl]
  exact Steps.refl _
/-- what holds at the law's entry: the machine, the code, the tables' words (any of lw_tbl by 'hts w (by decide +kernel)'), the script of L ints xs at the cell b, what the Statement gives of the start (any of its parts by flat_of_before) -/
def lw_At (p : Program) (s : State) (m : MethodId) (meth : Method) (c : Code) (b L : Nat) (xs : Nat → Int32) : Prop :=
  p.tables.exec = Jvm.exec ∧ c.code = code ∧ meth.sig.returnType = ret ∧ c.maxLocals = 4 ∧ s.vm.findClass R_law = some m.cls ∧ (∀ w ∈ lw_tbl, w.before #[Value.ref b] s = true) ∧ va_X b L xs s s.heap ∧ b < s.heap.size ∧ meth.locks = false ∧ (Jvm.Cond.and given_1 narrow_1).before #[Value.ref b] s = true
/-! ===== the law's entry, in the logic of these rows ===== -/
section LW
variable {g : pG} {y : MethodName} {cc : ByteArray} {nL : Nat} {ret0 : Option FieldType} {d k n : Nat} {X : pX} {Qf : State → Prop} {S : List pShp} {M : pMem} {cs sl pc : Nat} {L : List (Option pV)} {st : List pV}
/-- the script, which nobody writes -/
def pScr (g : pG) (X : pX) (L0 : Nat) (xs : Nat → Int32) : Prop := va_X g.2.2.2.2.1 L0 xs X.2.2.2.2.1 X.2.2.2.2.1.heap ∧ g.2.2.2.2.1 < X.2.2.2.2.1.heap.size ∧ ¬ pA g g.2.2.2.2.1 ∧ L0 < 2147483648
theorem e_sload (C : pCx g y cc nL ret0 d k n X) {L0 : Nat} {xs : Nat → Int32} (hX : pScr g X L0 xs) {z u : Int} (hd : decode cc pc = .ok (.iaload, 1)) (j : Nat) (hz : z = (j : Int)) (hj : j < L0) (hu : Int32.ofInt u = xs j) (kk : pE g nL X Qf S M cs sl (pc + 1) L (.inl u :: st)) : pE g nL X Qf S M cs sl pc L (.inl z :: .inr (.inr 1000000) :: st) := by
  obtain ⟨p, l, e, R, s, m, args, below, meth, c⟩ := X
  obtain ⟨h1, h2, h3, h4⟩ := hX
  intro H locs ls hR hS hl
  subst hz
  refine va_sld C.1 C.2.1 h1 h2 h3 hS (p_vin hj h4) hd ?_
  rw [p_cl (by omega), ← hu]
  exact kk H locs ls hR hS hl
theorem e_slen (C : pCx g y cc nL ret0 d k n X) {L0 : Nat} {xs : Nat → Int32} (hX : pScr g X L0 xs) (hd : decode cc pc = .ok (.arraylength, 1)) (kk : pE g nL X Qf S M cs sl (pc + 1) L (.inl (L0 : Int) :: st)) : pE g nL X Qf S M cs sl pc L (.inr (.inr 1000000) :: st) := by
  obtain ⟨p, l, e, R, s, m, args, below, meth, c⟩ := X
  obtain ⟨h1, h2, h3, h4⟩ := hX
  intro H locs ls hR hS hl
  refine va_slen C.1 C.2.1 h1 h2 h3 hS hd ?_
  rw [← Int32.ofInt_eq_ofNat]
  exact kk H locs ls hR hS hl
end LW
def lawY (meth : Method) : MethodName := ⟨R_law, meth.name, ""⟩
theorem lw_good {s : State} {b : Nat} (hts : ∀ w ∈ lw_tbl, w.before #[Value.ref b] s = true) : ∀ w ∈ pgood, w.before #[Value.ref b] s = true := fun w hw => hts w (List.mem_filter.mp hw).1
theorem lw_cls {s : State} {b : Nat} (hg : ∀ w ∈ pgood, w.before #[Value.ref b] s = true) : ∃ (dC : Nat → ClassId) (dI : Nat → Nat → Nat), ∀ (k : Nat) (q : vw_C), classes[k]? = some q → u_Kn s q.1 q.2.1 q.2.2 (dC k) (dI k) := by
  obtain ⟨c0, i0, h0⟩ := u_known (C := RX0) (T := TX0) (N := 3) (n := 3) hg pcl0.2.1 (hg _ cl_X5_19.2.1)
  obtain ⟨c1, i1, h1⟩ := u_known (C := RX1) (T := TX1) (N := 19) (n := 19) hg pcl1.2.1 (hg _ cl_X5_25.2.1)
  obtain ⟨c2, i2, h2⟩ := u_known (C := RX2) (T := TX2) (N := 3) (n := 3) hg pcl2.2.1 (hg _ cl_X5_32.2.1)
  obtain ⟨c3, i3, h3⟩ := u_known (C := RX3) (T := TX3) (N := 3) (n := 3) hg pcl3.2.1 (hg _ cl_X5_39.2.1)
  obtain ⟨c4, i4, h4⟩ := u_known (C := RX4) (T := TX4) (N := 5) (n := 5) hg pcl4.2.1 (hg _ cl_X5_9.2.1)
  obtain ⟨c5, i5, h5⟩ := u_known (C := RX5) (T := TX5) (N := 16) (n := 16) hg pcl5.2.1 (hg _ cl_L_7.2.1)
  obtain ⟨c6, i6, h6⟩ := u_known (C := RX6) (T := TX6) (N := 39) (n := 39) hg pcl6.2.1 (hg _ cl_L_10.2.1)
  refine ⟨fun k => [c0, c1, c2, c3, c4, c5].getD k c6, fun k => [i0, i1, i2, i3, i4, i5].getD k i6, fun k q hq => ?_⟩
  match k, hq with
  | 0, hq => cases hq; exact h0
  | 1, hq => cases hq; exact h1
  | 2, hq => cases hq; exact h2
  | 3, hq => cases hq; exact h3
  | 4, hq => cases hq; exact h4
  | 5, hq => cases hq; exact h5
  | 6, hq => cases hq; exact h6
  | k + 7, hq => simp [classes] at hq
theorem lw_arr1 {s : State} {b : Nat} {ty : FieldType} (h : (Cond.arrayClass ty).before #[Value.ref b] s = true) (hp : ∀ cA, s.vm.findClass ("[" ++ ty.toString) = some cA → va_RA s cA ty) : ∃ cA, ArrOfT s cA ty ∧ va_RA s cA ty := by
  obtain ⟨c, k, comp, h1, h2, h3⟩ := Cond.arrayClass_spec h
  exact ⟨c, fun n z => ⟨fun k h => (by cases h), k, h2, comp, h3⟩, hp c h1⟩
theorem lw_arr2 {s : State} {b : Nat} {C : String} (h : (Cond.arrayOver (.object C)).before #[Value.ref b] s = true) : ∃ cA, ArrOfT s cA (.object C) ∧ va_RA s cA (.object C) := by
  obtain ⟨comp, c, k, h1, -, h3, h4, h5⟩ := Cond.arrayOver_spec h
  exact ⟨c, fun n z => ⟨fun k h => (by cases h), k, h3, comp, h4⟩, k, comp, h3, h4, h1, h5⟩
theorem lw_units {s : State} {b : Nat} (hts : ∀ w ∈ lw_tbl, w.before #[Value.ref b] s = true) (hgv : (Jvm.Cond.and given_1 narrow_1).before #[Value.ref b] s = true) : ∃ t : Nat, va_Z "PaperKinds" "BOX_UNITS" "[J" (.ref t) (fun q : Nat => s.heap.size ≤ q) s s.heap ∧ va_T .long t 8 (fun j => .long (Int64.ofInt (17 ^ (7 - j)))) (fun q : Nat => s.heap.size ≤ q) s s.heap := by
  have hs := flat_of_before _ hgv
  have hA : ∀ a : Nat, a < s.heap.size → ¬ (fun q : Nat => s.heap.size ≤ q) a := fun a h => Nat.not_le.mpr h
  have harr : (Cond.arrayOf (.static "PaperKinds" "BOX_UNITS" "[J") .long).before #[Value.ref b] s = true := hs _ (by decide +kernel)
  have hlen : (Cond.eq (.length (.static "PaperKinds" "BOX_UNITS" "[J")) (.int 8)).before #[Value.ref b] s = true := hs _ (by decide +kernel)
  have e0 : (Cond.eq (.elem (.static "PaperKinds" "BOX_UNITS" "[J") (.int 0)) (.long 410338673)).before #[Value.ref b] s = true := hs _ (by decide +kernel)
  have e1 : (Cond.eq (.elem (.static "PaperKinds" "BOX_UNITS" "[J") (.int 1)) (.long 24137569)).before #[Value.ref b] s = true := hs _ (by decide +kernel)
  have e2 : (Cond.eq (.elem (.static "PaperKinds" "BOX_UNITS" "[J") (.int 2)) (.long 1419857)).before #[Value.ref b] s = true := hs _ (by decide +kernel)
  have e3 : (Cond.eq (.elem (.static "PaperKinds" "BOX_UNITS" "[J") (.int 3)) (.long 83521)).before #[Value.ref b] s = true := hs _ (by decide +kernel)
  have e4 : (Cond.eq (.elem (.static "PaperKinds" "BOX_UNITS" "[J") (.int 4)) (.long 4913)).before #[Value.ref b] s = true := hs _ (by decide +kernel)
  have e5 : (Cond.eq (.elem (.static "PaperKinds" "BOX_UNITS" "[J") (.int 5)) (.long 289)).before #[Value.ref b] s = true := hs _ (by decide +kernel)
  have e6 : (Cond.eq (.elem (.static "PaperKinds" "BOX_UNITS" "[J") (.int 6)) (.long 17)).before #[Value.ref b] s = true := hs _ (by decide +kernel)
  have e7 : (Cond.eq (.elem (.static "PaperKinds" "BOX_UNITS" "[J") (.int 7)) (.long 1)).before #[Value.ref b] s = true := hs _ (by decide +kernel)
  obtain ⟨t, ht, hT⟩ := va_Tof (tm := .static "PaperKinds" "BOX_UNITS" "[J") (ty := .long) (N := 8) (f := fun j => .long (Int64.ofInt (17 ^ (7 - j)))) (A := fun q : Nat => s.heap.size ≤ q) (by decide) harr (va_eqt hlen) (fun j hj => by
    match j, hj with
    | 0, _ => rw [show Int64.ofInt (17 ^ (7 - 0)) = 410338673 by decide +kernel]; exact va_eqtl e0
    | 1, _ => rw [show Int64.ofInt (17 ^ (7 - 1)) = 24137569 by decide +kernel]; exact va_eqtl e1
    | 2, _ => rw [show Int64.ofInt (17 ^ (7 - 2)) = 1419857 by decide +kernel]; exact va_eqtl e2
    | 3, _ => rw [show Int64.ofInt (17 ^ (7 - 3)) = 83521 by decide +kernel]; exact va_eqtl e3
    | 4, _ => rw [show Int64.ofInt (17 ^ (7 - 4)) = 4913 by decide +kernel]; exact va_eqtl e4
    | 5, _ => rw [show Int64.ofInt (17 ^ (7 - 5)) = 289 by decide +kernel]; exact va_eqtl e5
    | 6, _ => rw [show Int64.ofInt (17 ^ (7 - 6)) = 17 by decide +kernel]; exact va_eqtl e6
    | 7, _ => rw [show Int64.ofInt (17 ^ (7 - 7)) = 1 by decide +kernel]; exact va_eqtl e7) hA
  exact ⟨t, va_Zof (hts (.laysStatic "PaperKinds" "BOX_UNITS" "[J") (List.mem_append_right _ (List.mem_of_getElem? (l := tables_1) (i := 346) (by decide +kernel)))) (hts (.initialized "PaperKinds") (List.mem_append_right _ (List.mem_of_getElem? (l := tables_1) (i := 1) (by decide +kernel)))) ht hA, hT⟩
theorem lw_nw {s : State} {b : Nat} (hts : ∀ w ∈ lw_tbl, w.before #[Value.ref b] s = true) : pNw s := by
  refine ⟨fun q hq => ?_, va_Nw.of rfl (hts (.fieldLinkNest "PaperKinds$Layer" 109 "PaperKinds" "BOX_UNITS" "[J" "PaperKinds") (List.mem_append_right _ (List.mem_of_getElem? (l := tables_1) (i := 345) (by decide +kernel)))), va_AO.of (hts (.arrayOver (.object "PaperKinds$Sheet")) (List.mem_append_right _ (List.mem_of_getElem? (l := tables_1) (i := 18) (by decide +kernel)))), va_AO.of (hts (.arrayOver (.object "PaperKinds$Kind")) (List.mem_append_right _ (List.mem_of_getElem? (l := tables_1) (i := 20) (by decide +kernel))))⟩
  unfold pNM at hq
  rcases List.mem_cons.mp hq with rfl | hq
  · exact va_Nw.of rfl (hts _ (List.mem_append_right _ (List.mem_of_getElem? (l := tables_1) (i := 23) (by decide +kernel))))
  rcases List.mem_cons.mp hq with rfl | hq
  · exact va_Nw.of rfl (hts _ (List.mem_append_right _ (List.mem_of_getElem? (l := tables_1) (i := 95) (by decide +kernel))))
  rcases List.mem_cons.mp hq with rfl | hq
  · exact va_Nw.of rfl (hts _ (List.mem_append_right _ (List.mem_of_getElem? (l := tables_1) (i := 111) (by decide +kernel))))
  rcases List.mem_cons.mp hq with rfl | hq
  · exact va_Nw.of rfl (hts _ (List.mem_append_right _ (List.mem_of_getElem? (l := tables_1) (i := 127) (by decide +kernel))))
  rcases List.mem_cons.mp hq with rfl | hq
  · exact va_Nw.of rfl (hts _ (List.mem_append_right _ (List.mem_of_getElem? (l := tables_1) (i := 353) (by decide +kernel))))
  rcases List.mem_cons.mp hq with rfl | hq
  · exact va_Nw.of rfl (hts _ (List.mem_append_right _ (List.mem_of_getElem? (l := tables_1) (i := 356) (by decide +kernel))))
  exact absurd hq List.not_mem_nil
theorem lw_entry {p : Program} {e : Env} {s : State} {m : MethodId} {below : List Frame} {meth : Method} {c : Code} (l : Launch) {b L : Nat} {xs : Nat → Int32} (hL : L ≤ 3072) (C0 : lw_At p s m meth c b L xs) : ∃ g : pG, pCx g (lawY meth) code 4 ret 11 600000 7302250 (p, l, e, room_1, s, m, #[Value.ref b], below, meth, c) ∧ pScr g (p, l, e, room_1, s, m, #[Value.ref b], below, meth, c) L xs ∧ (∀ M, pRel g (SHp 0) M s.heap) ∧ g.2.2.2.1 = s.heap.size ∧ g.2.2.2.2.1 = b := by
  obtain ⟨hx, hb, hr, hml, hown, hts, hX, hbl, hlocks, hgv⟩ := id C0
  have hg := lw_good hts
  obtain ⟨dC, dI, hK⟩ := lw_cls hg
  obtain ⟨t, hZ, hT⟩ := lw_units hts hgv
  have hN := lw_nw hts
  obtain ⟨x0, y0⟩ := lw_arr1 (ty := .int) (hg _ ac_int) (fun _ h => h)
  obtain ⟨x1, y1⟩ := lw_arr1 (ty := .long) (hg _ ac_long) (fun _ h => h)
  obtain ⟨x2, y2⟩ := lw_arr1 (ty := .boolean) (hg _ ac_boolean) (fun _ h => h)
  obtain ⟨x3, y3⟩ := lw_arr2 (C := "PaperKinds$Sheet") (b := b) hN.2.2.1.use
  obtain ⟨x4, y4⟩ := lw_arr2 (C := "PaperKinds$Kind") (b := b) hN.2.2.2.use
  refine ⟨(dC, dI, fun k => [x0, x1, x2, x3].getD k x4, s.heap.size, b, t), ⟨hx, hb, hml, hown, hg, ⟨hK, fun k q hq => ?_⟩, ⟨hZ, hT⟩, hN, Nat.le_refl _, hlocks, hr, rfl, by decide, by decide, by decide, by decide⟩, ⟨hX, hbl, Nat.not_le.mpr hbl, by omega⟩, fun M => ⟨fun k q hq => ?_, rfl, by decide⟩, rfl, rfl⟩
  · match k, hq with
    | 0, hq => cases hq; exact y0
    | 1, hq => cases hq; exact y1
    | 2, hq => cases hq; exact y2
    | 3, hq => cases hq; exact y3
    | 4, hq => cases hq; exact y4
    | k + 5, hq => simp [ptys] at hq
  · have : pwd (dC, dI, (fun k => [x0, x1, x2, x3].getD k x4), s.heap.size, b, t) (SHp 0) M = [] := rfl
    rw [this] at hq
    simp at hq
