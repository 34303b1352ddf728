section PC
variable {g : pG} {y : MethodName} {cc : ByteArray} {nL : Nat} {ret : Option FieldType} {d k n : Nat} {X : pX} {Qf : State → Prop} {S S' : List pShp} {M : pMem} {cs sl pc : Nat} {L : List (Option pV)} {st : List pV}
theorem pSt_to {s U : State} {H : Heap} {locs : List Loc} (h : pSt g s s.heap) (hS : va_S (pA g) s.heap H locs) (hU : U.heap = H) (hv : s.vm.Alike U.vm) : pSt g U U.heap := by
  rw [hU]
  exact ⟨(h.1.kept (fun a h1 h2 => hS.2.1 a h1 h2)).moved hv, (h.2.kept (fun a h1 h2 => hS.2.1 a h1 h2)).moved hv⟩
theorem pNw_warm {s U : State} (hW : s.WarmedH U.vm) (h : pNw s) : pNw U := ⟨fun q hq => va_Nw.warmM hW (h.1 q hq), va_Nw.warmF hW h.2.1, h.2.2.1.moved hW.alike, h.2.2.2.moved hW.alike⟩
theorem pPc_blind {av : List pV} : FrameBlind (pPc g S M av) := by
  intro a U gg mk h
  obtain ⟨h1, h2, h3, h4, h5, h6, h7, h8⟩ := h
  exact ⟨h1, h2, va_K.moved (u := U) (U := U.calling gg mk a) (Vm.Alike.refl U.vm) h3, ⟨h4.1.moved (U := U.calling gg mk a) (Vm.Alike.refl U.vm), h4.2.moved (U := U.calling gg mk a) (Vm.Alike.refl U.vm)⟩, fun q hq => va_Nw.same rfl rfl (h5 q hq), va_Nw.same rfl rfl h6, va_AO.moved (U := U.calling gg mk a) (Vm.Alike.refl U.vm) h7, va_AO.moved (U := U.calling gg mk a) (Vm.Alike.refl U.vm) h8⟩
theorem pPc_of {p : Program} {l : Launch} {e : Env} {R : Room} {s : State} {m : MethodId} {args : Array Value} {below : List Frame} {meth : Method} {c : Code} (C : pCx g y cc nL ret d k n (p, l, e, R, s, m, args, below, meth, c)) {H : Heap} {locs : List Loc} (hR : pRel g S M H) (hS : va_S (pA g) s.heap H locs) (av : List pV) (U : State) (hU : U.heap = H) (hW : s.WarmedH U.vm) : pPc g S M av (av.map (prv g)).toArray U :=
  ⟨rfl, by rw [hU]; exact hR, va_K.moved hW.alike C.2.2.2.2.2.1, pSt_to C.2.2.2.2.2.2.1 hS hU hW.alike, pNw_warm hW C.2.2.2.2.2.2.2.1⟩
theorem p_call {p : Program} {l : Launch} {e : Env} {R : Room} {s : State} {m : MethodId} {args : Array Value} {below : List Frame} {meth : Method} {c : Code} {H : Heap} {locs : List Loc} {ls : Array Slot} {k' n' : Nat} {st0 : List Value} {Q : Option pV → pMem → Prop} {a : Array Value}
    (hr : va_Run p l e R s m args below meth c H locs cs sl k' n' (F0 m pc ls st0) (st.map (prv g)) (pQc g S' Q a) (pA g)) (hS : va_S (pA g) s.heap H locs)
    (kk : ∀ (r : Option pV) (M' : pMem) (H1 : Heap) (locs1 : List Loc), Q r M' → pRel g S' M' H1 → va_S (pA g) s.heap H1 locs1 → W p l e R s m args below meth c H1 locs1 (cs + k') (sl + n') Qf (F0 m (pc + 3) ls ((r.toList ++ st).map (prv g)))) : W p l e R s m args below meth c H locs cs sl Qf (F0 m pc ls st0) := by
  intro T hT Y
  obtain ⟨v, st₀, t, T', L, h0, Y', hL, e1, e2, ⟨r, M', hv, hp, hb, hz, hk⟩, stp⟩ := hr T hT Y
  rw [h0] at hz hk
  have ev : v = r.map (prv g) := by cases hv; rfl
  subst ev
  obtain ⟨t2, a1, b1⟩ := kk r M' T'.heap (locs ++ L) hp (by rw [e1]; exact hb)
    ⟨Nat.le_trans hS.1 (by rw [e1]; exact hz), fun q h1 h2 => by rw [e1, hk q (Nat.lt_of_lt_of_le h1 hS.1) h2]; exact hS.2.1 q h1 h2, fun q hq => by
      rcases List.mem_append.mp hq with h | h
      · exact hS.2.2 q h
      · exact hL q h⟩ T' rfl Y'
  refine ⟨t2, stp t2 ?_, b1⟩
  have e3 : (r.toList ++ st).map (prv g) = (r.map (prv g)).toList ++ st.map (prv g) := by cases r <;> rfl
  rw [e3] at a1
  exact a1
def pcat : pV → Nat
  | .inr (.inl _) => 2
  | _ => 1
def pcs (st : List pV) : Nat := (st.map pcat).sum
theorem pcat_eq (v : pV) : (prv g v).category = pcat v := by rcases v with z | z | z <;> rfl
theorem pcs_eq : ((st.map (prv g)).map fun v => v.category).sum = pcs st := by
  unfold pcs
  rw [List.map_map]
  congr 1
  apply List.map_congr_left
  intro v _
  exact pcat_eq v
/-- what a call's method is: its code stands in the tables, and it isn't too large -/
def pMt (y : MethodName) (cc : ByteArray) (nL : Nat) (ret : Option FieldType) (np : Nat) : Prop := Cond.code y cc nL ret ∈ pgood ∧ Cond.initialized y.cls ∈ pgood ∧ (y.cls ≠ "java/lang/invoke/MethodHandle" ∧ y.cls ≠ "java/lang/invoke/VarHandle" ∧ (parseMethodDescriptor y.desc).map (fun d => d.parameters.length) = some np) ∧ nL ≤ 21 ∧ plainName y.cls = true
theorem pgood_w {w : Cond} (h : w ∈ pgood) : goodWord w = true := (List.mem_filter.mp h).2
theorem pgood_in (w : Cond) (h : w ∈ pgood) : GoodIn pgood (w :: pgood) := by
  intro v hv
  rcases List.mem_cons.mp hv with rfl | hv
  · exact ⟨h, good_of_word (pgood_w h)⟩
  · exact ⟨hv, good_of_word (pgood_w hv)⟩
theorem pMt_B {p : Program} {l : Launch} {e : Env} {R : Room} {s : State} {m : MethodId} {args : Array Value} {below : List Frame} {meth : Method} {c : Code} (C : pCx g y cc nL ret d k n (p, l, e, R, s, m, args, below, meth, c)) {y' : MethodName} {cc' : ByteArray} {nL' np d' k' n' i : Nat} {ret' : Option FieldType} (hm : pMt y' cc' nL' ret' np) (hd : d' < d) (hl : Cond.methodLink y.cls i y' ∈ pgood) :
    CallB R s args y.cls i y' cc' nL' ret' (.code y' cc' nL' ret' :: pgood) { frames := d', cells := k', slots := n', locals := 40 * d' } k' n' np := by
  obtain ⟨m1, m2, m3, m4, m5⟩ := hm
  have h1 := C.2.2.2.2.2.2.2.2.2.2.2.2.1
  have h2 := C.2.2.2.2.2.2.2.2.2.2.2.2.2.1
  exact callB_of np C.2.2.2.2.1 (pgood_in _ m1) rfl rfl rfl (C.2.2.2.2.1 _ m2) (C.2.2.2.2.1 _ hl) m3 ⟨by show d' + 1 ≤ R.frames; omega, by show 8 + (nL' + 11) + 40 * d' ≤ R.locals; omega⟩
theorem pMt_N {p : Program} {l : Launch} {e : Env} {R : Room} {s : State} {m : MethodId} {args : Array Value} {below : List Frame} {meth : Method} {c : Code} (C : pCx g y cc nL ret d k n (p, l, e, R, s, m, args, below, meth, c)) {y' : MethodName} {cc' : ByteArray} {nL' np d' k' n' i : Nat} {ret' : Option FieldType} {host : String} (hm : pMt y' cc' nL' ret' np) (hd : d' < d) (hl : (y.cls, i, y', host) ∈ pNM) :
    va_CN R s args y.cls i y' host cc' nL' ret' (.code y' cc' nL' ret' :: pgood) { frames := d', cells := k', slots := n', locals := 40 * d' } k' n' np := by
  obtain ⟨m1, m2, m3, m4, m5⟩ := hm
  have h1 := C.2.2.2.2.2.2.2.2.2.2.2.2.1
  have h2 := C.2.2.2.2.2.2.2.2.2.2.2.2.2.1
  exact va_cnB np C.2.2.2.2.1 (pgood_in _ m1) rfl rfl rfl (C.2.2.2.2.2.2.2.1.1 _ hl) (C.2.2.2.2.1 _ m2) m3 ⟨by show d' + 1 ≤ R.frames; omega, by show 8 + (nL' + 11) + 40 * d' ≤ R.locals; omega⟩
theorem e_callS (C : pCx g y cc nL ret d k n X) {y' : MethodName} {cc' : ByteArray} {nL' d' k' n' i : Nat} {ret' : Option FieldType} {av : List pV} {Q : Option pV → pMem → Prop} (hc : pCn g d' k' n' y' cc' nL' ret' S S' M av Q) (hm : pMt y' cc' nL' ret' av.length) (hs : Cond.methodLink y.cls i y' ∈ pgood ∧ Cond.static y' ∈ pgood) (hd : decode cc pc = .ok (.invokestatic i, 3)) (kk : ∀ (r : Option pV) (M' : pMem), Q r M' → pE g nL X Qf S' M' (cs + k') (sl + n') (pc + 3) L (r.toList ++ st)) (hdd : d' < d := by decide) (hk : cs + k' ≤ k ∧ sl + n' ≤ n := by decide) (hw : Nat.ble (pcs st) 8 = true := by rfl) : pE g nL X Qf S M cs sl pc L (av.reverse ++ st) := by
  obtain ⟨p, l, e, R, s, m, args, below, meth, c⟩ := X
  intro H locs ls hR hS hl
  have h1 := C.2.2.2.2.2.2.2.2.2.2.2.2.2.2.1
  have h2 := C.2.2.2.2.2.2.2.2.2.2.2.2.2.2.2
  refine p_call (st := st) (va_runS (As := av.map (prv g)) (rest := st.map (prv g)) ⟨C.1, C.2.1, C.2.2.1, C.2.2.2.1, C.2.2.2.2.1⟩ (hc l) ⟨pMt_B C hm hdd hs.1, C.2.2.2.2.1 _ hs.2⟩ ⟨pPc_blind, pPc_of C hR hS av⟩ rfl (by rw [List.length_map]) hl.1 (by show List.map (prv g) (av.reverse ++ st) = _; simp [prv]) (lv_room (by rw [pcs_eq]; exact Nat.le_of_ble_eq_true hw)) hd ⟨by omega, by omega⟩) hS (fun r M' H1 locs1 q1 q2 q3 => kk r M' q1 H1 locs1 ls q2 q3 hl)
theorem e_callSN (C : pCx g y cc nL ret d k n X) {y' : MethodName} {cc' : ByteArray} {nL' d' k' n' i : Nat} {ret' : Option FieldType} {av : List pV} {Q : Option pV → pMem → Prop} (hc : pCn g d' k' n' y' cc' nL' ret' S S' M av Q) (hm : pMt y' cc' nL' ret' av.length) (hs : (y.cls, i, y', "PaperKinds") ∈ pNM ∧ Cond.static y' ∈ pgood) (hd : decode cc pc = .ok (.invokestatic i, 3)) (kk : ∀ (r : Option pV) (M' : pMem), Q r M' → pE g nL X Qf S' M' (cs + k') (sl + n') (pc + 3) L (r.toList ++ st)) (hdd : d' < d := by decide) (hk : cs + k' ≤ k ∧ sl + n' ≤ n := by decide) (hw : Nat.ble (pcs st) 8 = true := by rfl) : pE g nL X Qf S M cs sl pc L (av.reverse ++ st) := by
  obtain ⟨p, l, e, R, s, m, args, below, meth, c⟩ := X
  intro H locs ls hR hS hl
  have h1 := C.2.2.2.2.2.2.2.2.2.2.2.2.2.2.1
  have h2 := C.2.2.2.2.2.2.2.2.2.2.2.2.2.2.2
  refine p_call (st := st) (va_runSN (As := av.map (prv g)) (rest := st.map (prv g)) ⟨C.1, C.2.1, C.2.2.1, C.2.2.2.1, C.2.2.2.2.1⟩ (hc l) ⟨pMt_N C hm hdd hs.1, C.2.2.2.2.1 _ hs.2, trivial⟩ ⟨pPc_blind, pPc_of C hR hS av⟩ rfl (by rw [List.length_map]) hl.1 (by show List.map (prv g) (av.reverse ++ st) = _; simp [prv]) (lv_room (by rw [pcs_eq]; exact Nat.le_of_ble_eq_true hw)) hd ⟨by omega, by omega⟩) hS (fun r M' H1 locs1 q1 q2 q3 => kk r M' q1 H1 locs1 ls q2 q3 hl)
theorem e_callV (C : pCx g y cc nL ret d k n X) {y' : MethodName} {cc' : ByteArray} {nL' d' k' n' i : Nat} {ret' : Option FieldType} {av : List pV} {Q : Option pV → pMem → Prop} {b : Nat} (hc : pCn g d' k' n' y' cc' nL' ret' S S' M (.inr (.inr b) :: av) Q) (hm : pMt y' cc' nL' ret' av.length) (hs : Cond.methodLink y.cls i y' ∈ pgood ∧ Cond.instanceMethod y' ∈ pgood ∧ Cond.selects y'.cls y' y' ∈ pgood) (hd : decode cc pc = .ok (.invokevirtual i, 3)) (ci : Nat) (hb : S[b]? = some (.inl ci)) (hcl : (classes[ci]?).map (fun q => q.1) = some y'.cls) (kk : ∀ (r : Option pV) (M' : pMem), Q r M' → pE g nL X Qf S' M' (cs + k') (sl + n') (pc + 3) L (r.toList ++ st)) (hdd : d' < d := by decide) (hk : cs + k' ≤ k ∧ sl + n' ≤ n := by decide) (hw : Nat.ble (pcs st) 8 = true := by rfl) : pE g nL X Qf S M cs sl pc L (av.reverse ++ .inr (.inr b) :: st) := by
  obtain ⟨p, l, e, R, s, m, args, below, meth, c⟩ := X
  intro H locs ls hR hS hl
  have h1 := C.2.2.2.2.2.2.2.2.2.2.2.2.2.2.1
  have h2 := C.2.2.2.2.2.2.2.2.2.2.2.2.2.2.2
  refine p_call (st := st) (va_runV (C := y'.cls) (As := av.map (prv g)) (rest := st.map (prv g)) (b := pad g b) ⟨C.1, C.2.1, C.2.2.1, C.2.2.2.1, C.2.2.2.2.1⟩ (hc l) ⟨pMt_B C hm hdd hs.1, C.2.2.2.2.1 _ hs.2.1, C.2.2.2.2.1 _ hs.2.2⟩ ⟨pPc_blind, (by obtain ⟨q, q1, q2⟩ := Option.map_eq_some_iff.mp hcl; obtain ⟨cell, z1, z2, z3⟩ := va_recv C.2.2.2.2.2.1 hR.1 q1 (pwd_at hb); exact ⟨cell, z1, z2, by rw [← q2]; exact z3⟩), pPc_of C hR hS (.inr (.inr b) :: av)⟩ rfl (by rw [List.length_map]) hl.1 (by show List.map (prv g) (av.reverse ++ .inr (.inr b) :: st) = _; simp [prv]) (lv_room (by rw [pcs_eq]; exact Nat.le_of_ble_eq_true hw)) hd ⟨by omega, by omega⟩) hS (fun r M' H1 locs1 q1 q2 q3 => kk r M' q1 H1 locs1 ls q2 q3 hl)
theorem e_callI (C : pCx g y cc nL ret d k n X) {y' : MethodName} {cc' : ByteArray} {nL' d' k' n' i : Nat} {av : List pV} {Q : Option pV → pMem → Prop} {b : Nat} (hc : pCn g d' k' n' y' cc' nL' none S S' M (.inr (.inr b) :: av) Q) (hm : pMt y' cc' nL' none av.length) (hs : Cond.methodLink y.cls i y' ∈ pgood ∧ Cond.instanceMethod y' ∈ pgood ∧ y'.name = "<init>") (hd : decode cc pc = .ok (.invokespecial i, 3)) (kk : ∀ (r : Option pV) (M' : pMem), Q r M' → pE g nL X Qf S' M' (cs + k') (sl + n') (pc + 3) L (r.toList ++ st)) (hdd : d' < d := by decide) (hk : cs + k' ≤ k ∧ sl + n' ≤ n := by decide) (hw : Nat.ble (pcs st) 8 = true := by rfl) : pE g nL X Qf S M cs sl pc L (av.reverse ++ .inr (.inr b) :: st) := by
  obtain ⟨p, l, e, R, s, m, args, below, meth, c⟩ := X
  intro H locs ls hR hS hl
  have h1 := C.2.2.2.2.2.2.2.2.2.2.2.2.2.2.1
  have h2 := C.2.2.2.2.2.2.2.2.2.2.2.2.2.2.2
  refine p_call (st := st) (va_runI (As := av.map (prv g)) (rest := st.map (prv g)) (b := pad g b) ⟨C.1, C.2.1, C.2.2.1, C.2.2.2.1, C.2.2.2.2.1⟩ (hc l) ⟨pMt_B C hm hdd hs.1, hs.2.2, C.2.2.2.2.1 _ hs.2.1⟩ ⟨pPc_blind, pPc_of C hR hS (.inr (.inr b) :: av)⟩ rfl (by rw [List.length_map]) hl.1 (by show List.map (prv g) (av.reverse ++ .inr (.inr b) :: st) = _; simp [prv]) (lv_room (by rw [pcs_eq]; exact Nat.le_of_ble_eq_true hw)) hd ⟨by omega, by omega⟩) hS (fun r M' H1 locs1 q1 q2 q3 => kk r M' q1 H1 locs1 ls q2 q3 hl)
theorem e_callIN (C : pCx g y cc nL ret d k n X) {y' : MethodName} {cc' : ByteArray} {nL' d' k' n' i : Nat} {av : List pV} {Q : Option pV → pMem → Prop} {b : Nat} (hc : pCn g d' k' n' y' cc' nL' none S S' M (.inr (.inr b) :: av) Q) (hm : pMt y' cc' nL' none av.length) (hs : (y.cls, i, y', "PaperKinds") ∈ pNM ∧ Cond.instanceMethod y' ∈ pgood ∧ y'.name = "<init>") (hd : decode cc pc = .ok (.invokespecial i, 3)) (kk : ∀ (r : Option pV) (M' : pMem), Q r M' → pE g nL X Qf S' M' (cs + k') (sl + n') (pc + 3) L (r.toList ++ st)) (hdd : d' < d := by decide) (hk : cs + k' ≤ k ∧ sl + n' ≤ n := by decide) (hw : Nat.ble (pcs st) 8 = true := by rfl) : pE g nL X Qf S M cs sl pc L (av.reverse ++ .inr (.inr b) :: st) := by
  obtain ⟨p, l, e, R, s, m, args, below, meth, c⟩ := X
  intro H locs ls hR hS hl
  have h1 := C.2.2.2.2.2.2.2.2.2.2.2.2.2.2.1
  have h2 := C.2.2.2.2.2.2.2.2.2.2.2.2.2.2.2
  refine p_call (st := st) (va_runIN (As := av.map (prv g)) (rest := st.map (prv g)) (b := pad g b) ⟨C.1, C.2.1, C.2.2.1, C.2.2.2.1, C.2.2.2.2.1⟩ (hc l) ⟨pMt_N C hm hdd hs.1, hs.2.2, C.2.2.2.2.1 _ hs.2.1⟩ ⟨pPc_blind, pPc_of C hR hS (.inr (.inr b) :: av)⟩ rfl (by rw [List.length_map]) hl.1 (by show List.map (prv g) (av.reverse ++ .inr (.inr b) :: st) = _; simp [prv]) (lv_room (by rw [pcs_eq]; exact Nat.le_of_ble_eq_true hw)) hd ⟨by omega, by omega⟩) hS (fun r M' H1 locs1 q1 q2 q3 => kk r M' q1 H1 locs1 ls q2 q3 hl)
theorem e_objInit (C : pCx g y cc nL ret d k n X) {i a : Nat} (hs : Cond.methodLink y.cls i objectInit ∈ pgood ∧ Cond.instanceMethod objectInit ∈ pgood ∧ Cond.code objectInit ⟨#[0xb1]⟩ 1 none ∈ pgood) (hd : decode cc pc = .ok (.invokespecial i, 3)) (kk : pE g nL X Qf S M cs sl (pc + 3) L st) (h0 : 0 < d := by decide) (hw : Nat.ble (pcs st) 8 = true := by rfl) : pE g nL X Qf S M cs sl pc L (.inr (.inr a) :: st) := by
  obtain ⟨p, l, e, R, s, m, args, below, meth, c⟩ := X
  intro H locs ls hR hS hl
  have h1 := C.2.2.2.2.2.2.2.2.2.2.2.2.1
  have h2 := C.2.2.2.2.2.2.2.2.2.2.2.2.2.1
  have h3 := Nat.le_of_ble_eq_true hw
  refine W.objInit C.1 C.2.1 C.2.2.2.1 (C.2.2.2.2.1 _ hs.1) (C.2.2.2.2.1 _ hs.2.1) (C.2.2.2.2.1 _ hs.2.2) rfl (hl.1.trans C.2.2.1.symm) rfl hd (by omega) ?_ (kk H locs ls hR hS hl)
  have h4 := lv_room (m := m) (pc := pc) (ls := ls) (rest := List.map (prv g) (Sum.inr (Sum.inr a) :: st)) (st := st.map (prv g)) (by rw [pcs_eq]; exact h3)
  omega
/-! the locals at a method's start -/
def pin : List pV → List (Option pV)
  | [] => []
  | .inr (.inl z) :: r => some (.inr (.inl z)) :: none :: pin r
  | .inl z :: r => some (.inl z) :: pin r
  | .inr (.inr z) :: r => some (.inr (.inr z)) :: pin r
def pinit (nL : Nat) (av : List pV) : List (Option pV) := pin av ++ List.replicate (nL - (pin av).length) none
theorem pin_mem : ∀ (av : List pV) (j i : Nat) (v : pV), (pin av)[i]? = some (some v) → (j + i, prv g v) ∈ lv_args j (av.map (prv g))
  | [], _, _, _, h => by simp [pin] at h
  | .inl z :: r, j, i, v, h => by
    cases i with
    | zero => simp [pin] at h; subst h; exact List.mem_cons_self
    | succ i => 
      have := pin_mem r (j + 1) i v (by simpa [pin] using h)
      rw [show j + (i + 1) = j + 1 + i by omega]
      exact List.mem_cons_of_mem _ this
  | .inr (.inr z) :: r, j, i, v, h => by
    cases i with
    | zero => simp [pin] at h; subst h; exact List.mem_cons_self
    | succ i => 
      have := pin_mem r (j + 1) i v (by simpa [pin] using h)
      rw [show j + (i + 1) = j + 1 + i by omega]
      exact List.mem_cons_of_mem _ this
  | .inr (.inl z) :: r, j, i, v, h => by
    match i, h with
    | 0, h => simp [pin] at h; subst h; exact List.mem_cons_self
    | 1, h => simp [pin] at h
    | i + 2, h =>
      have := pin_mem r (j + 2) i v (by simpa [pin] using h)
      rw [show j + (i + 2) = j + 2 + i by omega]
      exact List.mem_cons_of_mem _ this
theorem pin_len : ∀ (av : List pV), (lg_sl (av.map (prv g))).length = (pin av).length
  | [] => rfl
  | .inl z :: r => by have := pin_len r; simp [lg_sl, pin, prv, Value.category] at this ⊢; omega
  | .inr (.inr z) :: r => by have := pin_len r; simp [lg_sl, pin, prv, Value.category] at this ⊢; omega
  | .inr (.inl z) :: r => by have := pin_len r; simp [lg_sl, pin, prv, Value.category] at this ⊢; omega
theorem pCn_intro {av : List pV} {Q : Option pV → pMem → Prop} {np : Nat} (hm : pMt y cc nL ret np)
    (body : ∀ X : pX, pCx g y cc nL ret d k n X → pE g nL X (pMQ g S' Q X k n) S M 0 0 0 (pinit nL av) []) (hn : Nat.ble (pin av).length nL = true := by rfl) : pCn g d k n y cc nL ret S S' M av Q := by
  intro l
  refine Met.ofW (cc := cc) (maxL := nL) (ret := ret) hm.2.2.2.2 rfl ?_
  intro p e s m args below meth c s₁ B hml hv
  obtain ⟨hargs, hR, hK, hSt, hNw⟩ := hv
  have hts := atoms_spec (ws := .code y cc nL ret :: pgood) B.pre
  have hown : s.vm.findClass y.cls = some m.cls := findClass_of_methodNamed B.named
  subst hargs
  have Cx : pCx g y cc nL ret d k n (p, l, e, (headSpec (.code y cc nL ret :: pgood) { frames := d, cells := k, slots := n, locals := 40 * d }).room, s, m, (av.map (prv g)).toArray, below, meth, c) :=
    ⟨B.exec, B.bytes, hml, hown, fun w hw => hts w (List.mem_cons_of_mem _ hw), hK, hSt, hNw, by rw [hR.2.1]; omega, B.notSynchronized, B.returns, (name_of_methodNamed B.named B.method).1, Nat.le_refl _, Nat.le_refl _, Nat.le_refl _, Nat.le_refl _⟩
  have hE := body _ Cx s.heap [] ((lg_sl (av.map (prv g)) ++ List.replicate (nL - (lg_sl (av.map (prv g))).length) Slot.unset).toArray) hR va_S.rf ?_
  · rw [lg_entry_eq]
    exact hE
  · obtain ⟨h1, h2, h3⟩ := lv_entry (av.map (prv g)) (n := nL) (by rw [pin_len]; exact Nat.le_of_ble_eq_true hn)
    refine ⟨h1, h2, fun i v hi => ?_⟩
    unfold pinit at hi
    rw [List.getElem?_append] at hi
    split at hi
    · have := pin_mem (g := g) av 0 i v hi
      rw [Nat.zero_add] at this
      exact h3 _ this
    · rw [List.getElem?_replicate] at hi
      split at hi <;> simp at hi
theorem pCn_weak {av : List pV} {Q Q' : Option pV → pMem → Prop} (h : pCn g d k n y cc nL ret S S' M av Q) (hq : ∀ r M', Q r M' → Q' r M') : pCn g d k n y cc nL ret S S' M av Q' := by
  intro l p e ha hc hk s m args below hf happ hP hK
  obtain ⟨kk, o, h1, h2, h3, ⟨⟨r, M', e1, e2, e3⟩, h5⟩⟩ := h l p e ha hc hk s m args below hf happ hP hK
  exact ⟨kk, o, h1, h2, h3, ⟨⟨r, M', e1, hq _ _ e2, e3⟩, h5⟩⟩
theorem zero_o {a : Nat} (b : Nat) (sh : pShp) (h : b ≠ a) : pent g (zero M a) sh b = pent g M sh b := pent_o (M := M) (M' := zero M a) (fun j => by simp [mI, zero, h]) (fun j => by simp [mL, zero, h]) (fun j => by simp [mR, zero, h]) sh
theorem pRel_new {H H1 : Heap} {sh : pShp} (hR : pRel g S M H) (hl : S.length + 1 ≤ 1000) (z1 : H1.size = H.size + 1) (o1 : ∀ q : Nat, q < H.size → H1[q]? = H[q]?) (he : va_at (g.1, g.2.1) classes (pad g S.length, pent g (zero M S.length) sh S.length) H1) : pRel g (S ++ [sh]) (zero M S.length) H1 := by
  refine ⟨fun i q hq => ?_, by rw [z1, hR.2.1, List.length_append]; rfl, by rw [List.length_append]; exact hl⟩
  rw [pwd_get] at hq
  obtain ⟨sh', h1, rfl⟩ := Option.map_eq_some_iff.mp hq
  rw [List.getElem?_append] at h1
  split at h1
  · next hlt =>
    have h2 := hR.1 i _ (pwd_at h1)
    rw [zero_o i sh' (by omega)]
    refine h2.kept (o1 _ ?_)
    show pad g i < H.size
    rw [pad_lt (by omega), hR.2.1]; omega
  · next hge =>
    have h3 : i - S.length < 1 := (List.getElem?_eq_some_iff.mp h1).1
    have h4 : i = S.length := by omega
    subst h4
    simp at h1
    subst h1
    exact he
def pdv (ci j : Nat) : Value := match pfk ci j with
  | 1 => .long 0
  | 3 => .null
  | _ => .int 0
theorem pfv_zero {ci a j : Nat} : pfv g ci (zero M a) a j = pdv ci j := by
  unfold pfv pdv
  simp only [mI, mL, mR, zero, if_true]
  generalize pfk ci j = t
  match t with
  | 0 => rfl
  | 1 => rfl
  | 2 => rfl
  | 3 => rfl
  | t + 4 => rfl
theorem pS_new {s : State} {H H1 : Heap} {locs : List Loc} (hS : va_S (pA g) s.heap H locs) (z1 : H1.size = H.size + 1) (o1 : ∀ q : Nat, q < H.size → H1[q]? = H[q]?) : va_S (pA g) s.heap H1 locs := ⟨Nat.le_trans hS.1 (by omega), fun x h1 h2 => (o1 x (Nat.lt_of_lt_of_le h1 hS.1)).trans (hS.2.1 x h1 h2), hS.2.2⟩
theorem e_new (C : pCx g y cc nL ret d k n X) {i ci : Nat} {CC : String} {T : u_T} (hcl : pCl ci CC T) (hdef : ∀ j, j < pnF ci → defaultValue (pty ci j) = pdv ci j) (hs : Cond.classLink y.cls i CC ∈ pgood ∧ Cond.instantiable CC (pnF ci) ∈ pgood ∧ Cond.initialized CC ∈ pgood) (hd : decode cc pc = .ok (.new i, 3)) (hlen : S.length + 1 ≤ 1000) (hk : cs + 1 ≤ k ∧ sl + pnF ci ≤ n) (kk : pE g nL X Qf (S ++ [.inl ci]) (zero M S.length) (cs + 1) (sl + pnF ci) (pc + 3) L (.inr (.inr S.length) :: st)) : pE g nL X Qf S M cs sl pc L st := by
  obtain ⟨p, l, e, R, s, m, args, below, meth, c⟩ := X
  intro H locs ls hR hS hl
  have h1 := C.2.2.2.2.2.2.2.2.2.2.2.2.2.2.1
  have h2 := C.2.2.2.2.2.2.2.2.2.2.2.2.2.2.2
  obtain ⟨c1, c2, c3, c4, c5⟩ := hcl
  have hKn := C.2.2.2.2.2.1.1 ci _ c1
  have hp : pad g S.length = H.size := by rw [pad_lt (by omega), hR.2.1]
  refine W.newcK C.1 C.2.1 C.2.2.2.1 (C.2.2.2.2.1 _ hs.1) (C.2.2.2.2.1 _ hs.2.1) (C.2.2.2.2.1 _ hs.2.2) rfl hd (by omega) (by omega) hKn.2.1 rfl fun H1 kC hkC e1 z1 o1 => ?_
  have hE := kk H1 locs ls (pRel_new hR hlen z1 o1 ?_) (pS_new hS z1 o1) hl
  · rw [← hp]; exact hE
  · refine ⟨_, c1, ?_⟩
    show t_OB (pad g S.length) _ _ _ _ _
    rw [hp]
    refine (u_born (pty ci) C.2.2.2.2.1 c2 hKn hkC e1 c3).to (fun j hj => ?_)
    have hj' : j < pnF ci := hj
    rw [hdef j hj']
    simp [vp_V, hj', pfv_zero]
theorem e_newarrI (C : pCx g y cc nL ret d k n X) {N : Nat} {z : Int} (hs : Cond.arrayClass .int ∈ pgood) (hd : decode cc pc = .ok (.newarray .int, 2)) (hz : z = (N : Int)) (hN : N ≤ 100000) (hlen : S.length + 1 ≤ 1000) (hk : cs + 1 ≤ k ∧ sl + N ≤ n) (kk : pE g nL X Qf (S ++ [.inr (0, N)]) (zero M S.length) (cs + 1) (sl + N) (pc + 2) L (.inr (.inr S.length) :: st)) : pE g nL X Qf S M cs sl pc L (.inl z :: st) := by
  obtain ⟨p, l, e, R, s, m, args, below, meth, c⟩ := X
  intro H locs ls hR hS hl
  subst hz
  have h1 := C.2.2.2.2.2.2.2.2.2.2.2.2.2.2.1
  have h2 := C.2.2.2.2.2.2.2.2.2.2.2.2.2.2.2
  have hp : pad g S.length = H.size := by rw [pad_lt (by omega), hR.2.1]
  refine va_newaK C.1 C.2.1 (atype := .int) (C.2.2.2.2.1 _ hs) rfl hd rfl (by rw [i32_nI]; exact nI_pos (by omega)) (p_cl (by omega)) (by show N * componentBytes .int ≤ _; simp [componentBytes]; omega) (by omega) (by omega) rfl fun H1 cA e1 z1 o1 hA hf => ?_
  have hcA : cA = g.2.2.1 0 := Option.some.inj (hf.symm.trans (C.2.2.2.2.2.1.2 0 (g.2.2.1 0, .int) rfl).2)
  subst hcA
  have hE := kk H1 locs ls (pRel_new hR hlen z1 o1 ?_) (pS_new hS z1 o1) hl
  · rw [← hp]; exact hE
  · show H1[pad g S.length]? = some (vp_cell (g.2.2.1 0) (N, parr g 0 (zero M S.length) S.length))
    have e2 : (fun _ : Nat => defaultValue (newarray.typeOf .int)) = (fun j => .int (Int32.ofInt (mI (zero M S.length) S.length j))) := by funext q; simp [mI, mL, zero]; rfl
    rw [hp, e1, e2]
    rfl
theorem e_newarrL (C : pCx g y cc nL ret d k n X) {N : Nat} {z : Int} (hs : Cond.arrayClass .long ∈ pgood) (hd : decode cc pc = .ok (.newarray .long, 2)) (hz : z = (N : Int)) (hN : N ≤ 100000) (hlen : S.length + 1 ≤ 1000) (hk : cs + 1 ≤ k ∧ sl + N ≤ n) (kk : pE g nL X Qf (S ++ [.inr (1, N)]) (zero M S.length) (cs + 1) (sl + N) (pc + 2) L (.inr (.inr S.length) :: st)) : pE g nL X Qf S M cs sl pc L (.inl z :: st) := by
  obtain ⟨p, l, e, R, s, m, args, below, meth, c⟩ := X
  intro H locs ls hR hS hl
  subst hz
  have h1 := C.2.2.2.2.2.2.2.2.2.2.2.2.2.2.1
  have h2 := C.2.2.2.2.2.2.2.2.2.2.2.2.2.2.2
  have hp : pad g S.length = H.size := by rw [pad_lt (by omega), hR.2.1]
  refine va_newaK C.1 C.2.1 (atype := .long) (C.2.2.2.2.1 _ hs) rfl hd rfl (by rw [i32_nI]; exact nI_pos (by omega)) (p_cl (by omega)) (by show N * componentBytes .long ≤ _; simp [componentBytes]; omega) (by omega) (by omega) rfl fun H1 cA e1 z1 o1 hA hf => ?_
  have hcA : cA = g.2.2.1 1 := Option.some.inj (hf.symm.trans (C.2.2.2.2.2.1.2 1 (g.2.2.1 1, .long) rfl).2)
  subst hcA
  have hE := kk H1 locs ls (pRel_new hR hlen z1 o1 ?_) (pS_new hS z1 o1) hl
  · rw [← hp]; exact hE
  · show H1[pad g S.length]? = some (vp_cell (g.2.2.1 1) (N, parr g 1 (zero M S.length) S.length))
    have e2 : (fun _ : Nat => defaultValue (newarray.typeOf .long)) = (fun j => .long (Int64.ofInt (mL (zero M S.length) S.length j))) := by funext q; simp [mI, mL, zero]; rfl
    rw [hp, e1, e2]
    rfl
theorem e_newarrZ (C : pCx g y cc nL ret d k n X) {N : Nat} {z : Int} (hs : Cond.arrayClass .boolean ∈ pgood) (hd : decode cc pc = .ok (.newarray .boolean, 2)) (hz : z = (N : Int)) (hN : N ≤ 100000) (hlen : S.length + 1 ≤ 1000) (hk : cs + 1 ≤ k ∧ sl + N ≤ n) (kk : pE g nL X Qf (S ++ [.inr (2, N)]) (zero M S.length) (cs + 1) (sl + N) (pc + 2) L (.inr (.inr S.length) :: st)) : pE g nL X Qf S M cs sl pc L (.inl z :: st) := by
  obtain ⟨p, l, e, R, s, m, args, below, meth, c⟩ := X
  intro H locs ls hR hS hl
  subst hz
  have h1 := C.2.2.2.2.2.2.2.2.2.2.2.2.2.2.1
  have h2 := C.2.2.2.2.2.2.2.2.2.2.2.2.2.2.2
  have hp : pad g S.length = H.size := by rw [pad_lt (by omega), hR.2.1]
  refine va_newaK C.1 C.2.1 (atype := .boolean) (C.2.2.2.2.1 _ hs) rfl hd rfl (by rw [i32_nI]; exact nI_pos (by omega)) (p_cl (by omega)) (by show N * componentBytes .boolean ≤ _; simp [componentBytes]; omega) (by omega) (by omega) rfl fun H1 cA e1 z1 o1 hA hf => ?_
  have hcA : cA = g.2.2.1 2 := Option.some.inj (hf.symm.trans (C.2.2.2.2.2.1.2 2 (g.2.2.1 2, .boolean) rfl).2)
  subst hcA
  have hE := kk H1 locs ls (pRel_new hR hlen z1 o1 ?_) (pS_new hS z1 o1) hl
  · rw [← hp]; exact hE
  · show H1[pad g S.length]? = some (vp_cell (g.2.2.1 2) (N, parr g 2 (zero M S.length) S.length))
    have e2 : (fun _ : Nat => defaultValue (newarray.typeOf .boolean)) = (fun j => .int (Int32.ofInt (mI (zero M S.length) S.length j))) := by funext q; simp [mI, mL, zero]; rfl
    rw [hp, e1, e2]
    rfl
theorem e_anewS (C : pCx g y cc nL ret d k n X) {N i : Nat} {z : Int} (hs : Cond.classLink y.cls i "PaperKinds$Sheet" ∈ pgood) (hd : decode cc pc = .ok (.anewarray i, 3)) (hz : z = (N : Int)) (hN : N ≤ 100000) (hlen : S.length + 1 ≤ 1000) (hk : cs + 1 ≤ k ∧ sl + N ≤ n) (kk : pE g nL X Qf (S ++ [.inr (3, N)]) (zero M S.length) (cs + 1) (sl + N) (pc + 3) L (.inr (.inr S.length) :: st)) : pE g nL X Qf S M cs sl pc L (.inl z :: st) := by
  obtain ⟨p, l, e, R, s, m, args, below, meth, c⟩ := X
  intro H locs ls hR hS hl
  subst hz
  have h1 := C.2.2.2.2.2.2.2.2.2.2.2.2.2.2.1
  have h2 := C.2.2.2.2.2.2.2.2.2.2.2.2.2.2.2
  have hp : pad g S.length = H.size := by rw [pad_lt (by omega), hR.2.1]
  have hq := p_cl (j := N) (by omega)
  refine W.anew C.1 C.2.1 C.2.2.2.1 (C.2.2.2.2.1 _ hs) (va_AO.use C.2.2.2.2.2.2.2.1.2.2.1) rfl hd rfl (by rw [i32_nI]; exact nI_pos (by omega)) (by rw [hq]; omega) (by omega) (by rw [hq]; omega) fun cA kA comp f1 f2 f3 f4 => ?_
  rw [hq]
  have hcA : cA = g.2.2.1 3 := by
    obtain ⟨kA', comp', k1, k2, k3, k4⟩ := (C.2.2.2.2.2.1.2 3 (g.2.2.1 3, .object "PaperKinds$Sheet") rfl).2
    exact Option.some.inj (f1.symm.trans k4)
  subst hcA
  generalize hH1 : H.push ({ cls := g.2.2.1 3, slots := Array.replicate N .null, vm := .none } : Cell) = H1
  have z1 : H1.size = H.size + 1 := by rw [← hH1, Array.size_push]
  have e1 : H1[H.size]? = some (arrV (g.2.2.1 3) N (fun _ => .null)) := by rw [← hH1, Array.getElem?_push_size, ← arrV_new]
  have o1 : ∀ q : Nat, q < H.size → H1[q]? = H[q]? := fun q hq => by rw [← hH1, Array.getElem?_push, if_neg (Nat.ne_of_lt hq)]
  have hE := kk H1 locs ls (pRel_new hR hlen z1 o1 ?_) (pS_new hS z1 o1) hl
  · rw [← hp]; exact hE
  · show H1[pad g S.length]? = some (vp_cell (g.2.2.1 3) (N, parr g 3 (zero M S.length) S.length))
    have e2 : (fun _ : Nat => Value.null) = (fun j => va_rf ((mR (zero M S.length) S.length j).map (pad g))) := by funext q; simp [mR, zero]; rfl
    rw [hp, e1, e2]
    rfl
theorem e_anewK (C : pCx g y cc nL ret d k n X) {N i : Nat} {z : Int} (hs : Cond.classLink y.cls i "PaperKinds$Kind" ∈ pgood) (hd : decode cc pc = .ok (.anewarray i, 3)) (hz : z = (N : Int)) (hN : N ≤ 100000) (hlen : S.length + 1 ≤ 1000) (hk : cs + 1 ≤ k ∧ sl + N ≤ n) (kk : pE g nL X Qf (S ++ [.inr (4, N)]) (zero M S.length) (cs + 1) (sl + N) (pc + 3) L (.inr (.inr S.length) :: st)) : pE g nL X Qf S M cs sl pc L (.inl z :: st) := by
  obtain ⟨p, l, e, R, s, m, args, below, meth, c⟩ := X
  intro H locs ls hR hS hl
  subst hz
  have h1 := C.2.2.2.2.2.2.2.2.2.2.2.2.2.2.1
  have h2 := C.2.2.2.2.2.2.2.2.2.2.2.2.2.2.2
  have hp : pad g S.length = H.size := by rw [pad_lt (by omega), hR.2.1]
  have hq := p_cl (j := N) (by omega)
  refine W.anew C.1 C.2.1 C.2.2.2.1 (C.2.2.2.2.1 _ hs) (va_AO.use C.2.2.2.2.2.2.2.1.2.2.2) rfl hd rfl (by rw [i32_nI]; exact nI_pos (by omega)) (by rw [hq]; omega) (by omega) (by rw [hq]; omega) fun cA kA comp f1 f2 f3 f4 => ?_
  rw [hq]
  have hcA : cA = g.2.2.1 4 := by
    obtain ⟨kA', comp', k1, k2, k3, k4⟩ := (C.2.2.2.2.2.1.2 4 (g.2.2.1 4, .object "PaperKinds$Kind") rfl).2
    exact Option.some.inj (f1.symm.trans k4)
  subst hcA
  generalize hH1 : H.push ({ cls := g.2.2.1 4, slots := Array.replicate N .null, vm := .none } : Cell) = H1
  have z1 : H1.size = H.size + 1 := by rw [← hH1, Array.size_push]
  have e1 : H1[H.size]? = some (arrV (g.2.2.1 4) N (fun _ => .null)) := by rw [← hH1, Array.getElem?_push_size, ← arrV_new]
  have o1 : ∀ q : Nat, q < H.size → H1[q]? = H[q]? := fun q hq => by rw [← hH1, Array.getElem?_push, if_neg (Nat.ne_of_lt hq)]
  have hE := kk H1 locs ls (pRel_new hR hlen z1 o1 ?_) (pS_new hS z1 o1) hl
  · rw [← hp]; exact hE
  · show H1[pad g S.length]? = some (vp_cell (g.2.2.1 4) (N, parr g 4 (zero M S.length) S.length))
    have e2 : (fun _ : Nat => Value.null) = (fun j => va_rf ((mR (zero M S.length) S.length j).map (pad g))) := by funext q; simp [mR, zero]; rfl
    rw [hp, e1, e2]
    rfl
theorem e_mmin (C : pCx g y cc nL ret d k n X) {i : Nat} {x z : Int} (hs : Cond.methodLink y.cls i Lib.Math.min.name ∈ pgood ∧ Cond.static Lib.Math.min.name ∈ pgood ∧ Cond.initialized "java/lang/Math" ∈ pgood ∧ Cond.code Lib.Math.min.name Lib.Math.min.code 2 (some .int) ∈ pgood) (hd : decode cc pc = .ok (.invokestatic i, 3)) (hx : -2147483648 ≤ x ∧ x < 2147483648) (hz : -2147483648 ≤ z ∧ z < 2147483648) (kk : pE g nL X Qf S M cs sl (pc + 3) L (.inl (if z < x then z else x) :: st)) (h0 : 0 < d := by decide) (hk : cs ≤ k ∧ sl ≤ n := by decide) (hw : Nat.ble (pcs st) 8 = true := by rfl) : pE g nL X Qf S M cs sl pc L (.inl z :: .inl x :: st) := by
  obtain ⟨p, l, e, R, s, m, args, below, meth, c⟩ := X
  intro H locs ls hR hS hl
  have h1 := C.2.2.2.2.2.2.2.2.2.2.2.2.1
  have h2 := C.2.2.2.2.2.2.2.2.2.2.2.2.2.1
  have h3 := Nat.le_of_ble_eq_true hw
  have h4 := C.2.2.2.2.2.2.2.2.2.2.2.2.2.2.1
  have h5 := C.2.2.2.2.2.2.2.2.2.2.2.2.2.2.2
  refine va_mmin C.1 C.2.1 (C.2.2.1.trans hl.1.symm) C.2.2.2.1 (C.2.2.2.2.1 _ hs.1) (C.2.2.2.2.1 _ hs.2.1) (C.2.2.2.2.1 _ hs.2.2.1) (C.2.2.2.2.1 _ hs.2.2.2) (by omega) (by show ((st.map (prv g)).map fun v => v.category).sum + _ ≤ _; rw [pcs_eq]; omega) (by omega) (by omega) hd ?_
  have hE := kk H locs ls hR hS hl
  by_cases hc : z < x
  · rw [if_pos hc] at hE; rw [if_pos ((i32_lt hz hx).mpr hc)]; exact hE
  · rw [if_neg hc] at hE; rw [if_neg (fun q => hc ((i32_lt hz hx).mp q))]; exact hE
theorem e_mmax (C : pCx g y cc nL ret d k n X) {i : Nat} {x z : Int} (hs : Cond.methodLink y.cls i Lib.Math.max.name ∈ pgood ∧ Cond.static Lib.Math.max.name ∈ pgood ∧ Cond.initialized "java/lang/Math" ∈ pgood ∧ Cond.code Lib.Math.max.name Lib.Math.max.code 2 (some .int) ∈ pgood) (hd : decode cc pc = .ok (.invokestatic i, 3)) (hx : -2147483648 ≤ x ∧ x < 2147483648) (hz : -2147483648 ≤ z ∧ z < 2147483648) (kk : pE g nL X Qf S M cs sl (pc + 3) L (.inl (if x < z then z else x) :: st)) (h0 : 0 < d := by decide) (hk : cs ≤ k ∧ sl ≤ n := by decide) (hw : Nat.ble (pcs st) 8 = true := by rfl) : pE g nL X Qf S M cs sl pc L (.inl z :: .inl x :: st) := by
  obtain ⟨p, l, e, R, s, m, args, below, meth, c⟩ := X
  intro H locs ls hR hS hl
  have h1 := C.2.2.2.2.2.2.2.2.2.2.2.2.1
  have h2 := C.2.2.2.2.2.2.2.2.2.2.2.2.2.1
  have h3 := Nat.le_of_ble_eq_true hw
  have h4 := C.2.2.2.2.2.2.2.2.2.2.2.2.2.2.1
  have h5 := C.2.2.2.2.2.2.2.2.2.2.2.2.2.2.2
  refine va_mmax C.1 C.2.1 (C.2.2.1.trans hl.1.symm) C.2.2.2.1 (C.2.2.2.2.1 _ hs.1) (C.2.2.2.2.1 _ hs.2.1) (C.2.2.2.2.1 _ hs.2.2.1) (C.2.2.2.2.1 _ hs.2.2.2) (by omega) (by show ((st.map (prv g)).map fun v => v.category).sum + _ ≤ _; rw [pcs_eq]; omega) (by omega) (by omega) hd ?_
  have hE := kk H locs ls hR hS hl
  by_cases hc : x < z
  · rw [if_pos hc] at hE; rw [if_pos ((i32_lt hx hz).mpr hc)]; exact hE
  · rw [if_neg hc] at hE; rw [if_neg (fun q => hc ((i32_lt hx hz).mp q))]; exact hE
theorem e_mminL (C : pCx g y cc nL ret d k n X) {i : Nat} {x z : Int} (hs : Cond.methodLink y.cls i Lib.MathLoose.min_long.x ∈ pgood ∧ Cond.static Lib.MathLoose.min_long.x ∈ pgood ∧ Cond.initialized "java/lang/Math" ∈ pgood ∧ Cond.code Lib.MathLoose.min_long.x Lib.MathLoose.min_long.code 4 (some .long) ∈ pgood) (hd : decode cc pc = .ok (.invokestatic i, 3)) (hx : -9223372036854775808 ≤ x ∧ x < 9223372036854775808) (hz : -9223372036854775808 ≤ z ∧ z < 9223372036854775808) (kk : pE g nL X Qf S M cs sl (pc + 3) L (.inr (.inl (if z < x then z else x)) :: st)) (h0 : 0 < d := by decide) (hk : cs ≤ k ∧ sl ≤ n := by decide) (hw : Nat.ble (pcs st) 8 = true := by rfl) : pE g nL X Qf S M cs sl pc L (.inr (.inl z) :: .inr (.inl x) :: st) := by
  obtain ⟨p, l, e, R, s, m, args, below, meth, c⟩ := X
  intro H locs ls hR hS hl
  have h1 := C.2.2.2.2.2.2.2.2.2.2.2.2.1
  have h2 := C.2.2.2.2.2.2.2.2.2.2.2.2.2.1
  have h3 := Nat.le_of_ble_eq_true hw
  have h4 := C.2.2.2.2.2.2.2.2.2.2.2.2.2.2.1
  have h5 := C.2.2.2.2.2.2.2.2.2.2.2.2.2.2.2
  refine va_mmin_long C.1 C.2.1 (C.2.2.1.trans hl.1.symm) C.2.2.2.1 (C.2.2.2.2.1 _ hs.1) (C.2.2.2.2.1 _ hs.2.1) (C.2.2.2.2.1 _ hs.2.2.1) (C.2.2.2.2.1 _ hs.2.2.2) (by omega) (by show ((st.map (prv g)).map fun v => v.category).sum + _ ≤ _; rw [pcs_eq]; omega) (by omega) (by omega) hd ?_
  have hE := kk H locs ls hR hS hl
  by_cases hc : z < x
  · rw [if_pos hc] at hE; rw [if_pos ((i64_lt hz hx).mpr hc)]; exact hE
  · rw [if_neg hc] at hE; rw [if_neg (fun q => hc ((i64_lt hz hx).mp q))]; exact hE
theorem e_mabs (C : pCx g y cc nL ret d k n X) {i : Nat} {x : Int} (hs : Cond.methodLink y.cls i Lib.Math.abs.name ∈ pgood ∧ Cond.static Lib.Math.abs.name ∈ pgood ∧ Cond.initialized "java/lang/Math" ∈ pgood ∧ Cond.code Lib.Math.abs.name Lib.Math.abs.code 1 (some .int) ∈ pgood) (hd : decode cc pc = .ok (.invokestatic i, 3)) (hx : -2147483648 ≤ x ∧ x < 2147483648) (kk : pE g nL X Qf S M cs sl (pc + 3) L (.inl (x.natAbs : Int) :: st)) (h0 : 0 < d := by decide) (hk : cs ≤ k ∧ sl ≤ n := by decide) (hw : Nat.ble (pcs st) 8 = true := by rfl) : pE g nL X Qf S M cs sl pc L (.inl x :: st) := by
  obtain ⟨p, l, e, R, s, m, args, below, meth, c⟩ := X
  intro H locs ls hR hS hl
  have h1 := C.2.2.2.2.2.2.2.2.2.2.2.2.1
  have h2 := C.2.2.2.2.2.2.2.2.2.2.2.2.2.1
  have h3 := Nat.le_of_ble_eq_true hw
  have h4 := C.2.2.2.2.2.2.2.2.2.2.2.2.2.2.1
  have h5 := C.2.2.2.2.2.2.2.2.2.2.2.2.2.2.2
  refine va_mabs C.1 C.2.1 (C.2.2.1.trans hl.1.symm) C.2.2.2.1 (C.2.2.2.2.1 _ hs.1) (C.2.2.2.2.1 _ hs.2.1) (C.2.2.2.2.1 _ hs.2.2.1) (C.2.2.2.2.1 _ hs.2.2.2) (by omega) (by show ((st.map (prv g)).map fun v => v.category).sum + _ ≤ _; rw [pcs_eq]; omega) (by omega) (by omega) hd ?_
  have hE := kk H locs ls hR hS hl
  have hz : i32 0 := by unfold i32; omega
  by_cases hc : 0 ≤ x
  · rw [if_pos (by rw [← i32_0]; exact (i32_le hz hx).mpr hc)]
    rw [show (x.natAbs : Int) = x by omega] at hE; exact hE
  · rw [if_neg (by rw [← i32_0]; exact fun q => hc ((i32_le hz hx).mp q))]
    rw [show (x.natAbs : Int) = 0 - x by omega] at hE
    rw [← i32_0, ← Int32.ofInt_sub]; exact hE
end PC
