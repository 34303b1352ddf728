section PR
variable {g : pG} {y : MethodName} {cc : ByteArray} {nL : Nat} {ret : Option FieldType} {d k n : Nat} {X : pX} {Qf : State → Prop} {S : List pShp} {M : pMem} {cs sl pc : Nat} {L : List (Option pV)} {st : List pV}
theorem pst_get {L : List (Option pV)} {i : Nat} {v : pV} {j : Nat} {w : pV} (h : (pst L i v)[j]? = some (some w)) : (j = i ∧ w = v) ∨ (j ≠ i ∧ L[j]? = some (some w) ∧ ¬ (j + 1 = i ∧ (prv g w).category = 2)) := by
  unfold pst at h
  cases i with
  | zero =>
    simp only [List.getElem?_set] at h
    split at h
    · next q => subst q; split at h <;> simp_all
    · next q => right; exact ⟨fun e => q e.symm, h, by omega⟩
  | succ i =>
    dsimp only at h
    split at h
    · next z hz =>
      simp only [List.getElem?_set] at h
      split at h
      · next q => subst q; split at h <;> simp_all
      · next q =>
        split at h
        · next q2 => split at h <;> simp at h
        · next q2 => right; exact ⟨fun e => q e.symm, h, by omega⟩
    · next hz =>
      simp only [List.getElem?_set] at h
      split at h
      · next q => subst q; split at h <;> simp_all
      · next q =>
        right; refine ⟨fun e => q e.symm, h, fun e => ?_⟩
        have e1 : j = i := by omega
        subst e1
        rcases w with z | z | z
        · simp [prv, Value.category] at e
        · exact hz z h
        · simp [prv, Value.category] at e
def pLs (g : pG) (L : List (Option pV)) : List (Nat × Value) := (List.range L.length).filterMap (fun i => match L[i]? with
  | some (some v) => some (i, prv g v)
  | _ => none)
theorem pLs_mem {i : Nat} {w : Value} : (i, w) ∈ pLs g L ↔ ∃ v, L[i]? = some (some v) ∧ w = prv g v := by
  unfold pLs
  rw [List.mem_filterMap]
  constructor
  · rintro ⟨a, ha, h⟩
    split at h
    · next v hv => cases h; exact ⟨v, hv, rfl⟩
    · cases h
  · rintro ⟨v, hv, rfl⟩
    refine ⟨i, List.mem_range.mpr (List.getElem?_eq_some_iff.mp hv).1, ?_⟩
    rw [hv]
theorem pLk_has {ls : Array Slot} (h : pLk g nL ls L) : lv_has ls nL (pLs g L) := by
  refine ⟨h.1, h.2.1, fun q hq => ?_⟩
  obtain ⟨i, w⟩ := q
  obtain ⟨v, hv, rfl⟩ := pLs_mem.mp hq
  exact h.2.2 i v hv
theorem pLk_st1 {ls : Array Slot} {i : Nat} {v : pV} (h : pLk g nL ls L) (hi : i < nL) (hc : (prv g v).category = 1) : ∃ ls', storeLocals ls i (prv g v) = some ls' ∧ pLk g nL ls' (pst L i v) := by
  obtain ⟨ls', e1, h1, h2, h3⟩ := lv_store1 (pLk_has h) hi hc
  refine ⟨ls', e1, h1, h2, fun j w hw => ?_⟩
  rcases pst_get (g := g) hw with ⟨rfl, rfl⟩ | ⟨q1, q2, q3⟩
  · exact h3 (j, prv g w) List.mem_cons_self
  · refine h3 (j, prv g w) (List.mem_cons_of_mem _ (List.mem_filter.mpr ⟨pLs_mem.mpr ⟨w, q2, rfl⟩, ?_⟩))
    simp only [Bool.and_eq_true, Bool.not_eq_true', beq_eq_false_iff_ne, ne_eq]
    refine ⟨q1, ?_⟩
    cases hh : (j + 1 == i && (prv g w).category == 2) with
    | false => rfl
    | true => exact absurd (by simpa using hh) q3
theorem pLk_st2 {ls : Array Slot} {i : Nat} {v : pV} (h : pLk g nL ls L) (hi : i + 1 < nL) (hc : (prv g v).category = 2) : ∃ ls', storeLocals ls i (prv g v) = some ls' ∧ pLk g nL ls' (pst2 L i v) := by
  obtain ⟨ls', e1, h1, h2, h3⟩ := lv_store2 (pLk_has h) hi hc
  refine ⟨ls', e1, h1, h2, fun j w hw => ?_⟩
  unfold pst2 at hw
  rw [List.getElem?_set] at hw
  split at hw
  · split at hw <;> simp at hw
  · next hne =>
    rcases pst_get (g := g) hw with ⟨rfl, rfl⟩ | ⟨q1, q2, q3⟩
    · exact h3 (j, prv g w) List.mem_cons_self
    · refine h3 (j, prv g w) (List.mem_cons_of_mem _ (List.mem_filter.mpr ⟨pLs_mem.mpr ⟨w, q2, rfl⟩, ?_⟩))
      simp only [Bool.and_eq_true, Bool.not_eq_true', beq_eq_false_iff_ne, ne_eq]
      refine ⟨q1, fun e => hne e.symm, ?_⟩
      cases hh : (j + 1 == i && (prv g w).category == 2) with
      | false => rfl
      | true => exact absurd (by simpa using hh) q3
theorem e_iconst (C : pCx g y cc nL ret d k n X) {z : Int} (hd : decode cc pc = .ok (.iconst z, 1)) (kk : pE g nL X Qf S M cs sl (pc + 1) L (.inl z :: st))  : pE g nL X Qf S M cs sl pc L st := by
  obtain ⟨p, l, e, R, s, m, args, below, meth, c⟩ := X
  intro H locs ls hR hS hl
  exact lv_iconst C.1 C.2.1 hd rfl (kk H locs ls hR hS hl)
theorem e_bipush (C : pCx g y cc nL ret d k n X) {z : Int} (hd : decode cc pc = .ok (.bipush z, 2)) (kk : pE g nL X Qf S M cs sl (pc + 2) L (.inl z :: st)) (hv : (Int8.ofInt z).toInt32 = Int32.ofInt z := by decide +kernel) : pE g nL X Qf S M cs sl pc L st := by
  obtain ⟨p, l, e, R, s, m, args, below, meth, c⟩ := X
  intro H locs ls hR hS hl
  exact lv_bipush C.1 C.2.1 hd hv (kk H locs ls hR hS hl)
theorem e_sipush (C : pCx g y cc nL ret d k n X) {z : Int} (hd : decode cc pc = .ok (.sipush z, 3)) (kk : pE g nL X Qf S M cs sl (pc + 3) L (.inl z :: st)) (hv : (Int16.ofInt z).toInt32 = Int32.ofInt z := by decide +kernel) : pE g nL X Qf S M cs sl pc L st := by
  obtain ⟨p, l, e, R, s, m, args, below, meth, c⟩ := X
  intro H locs ls hR hS hl
  exact lv_sipush C.1 C.2.1 hd hv (kk H locs ls hR hS hl)
theorem e_lconst (C : pCx g y cc nL ret d k n X) {z : Fin 2} (v : Int) (hd : decode cc pc = .ok (.lconst z, 1)) (kk : pE g nL X Qf S M cs sl (pc + 1) L (.inr (.inl v) :: st)) (hv : Int64.ofNat (z : Nat) = Int64.ofInt v := by decide +kernel) : pE g nL X Qf S M cs sl pc L st := by
  obtain ⟨p, l, e, R, s, m, args, below, meth, c⟩ := X
  intro H locs ls hR hS hl
  exact lv_lconst C.1 C.2.1 hd hv (kk H locs ls hR hS hl)
theorem e_ldc (C : pCx g y cc nL ret d k n X) {i : Nat} (v : Int) {w : Int32} (hw : Cond.constant y.cls i w ∈ pgood) (hd : decode cc pc = .ok (.ldc i, 2)) (kk : pE g nL X Qf S M cs sl (pc + 2) L (.inl v :: st)) (hv : w = Int32.ofInt v := by decide +kernel) : pE g nL X Qf S M cs sl pc L st := by
  obtain ⟨p, l, e, R, s, m, args, below, meth, c⟩ := X
  intro H locs ls hR hS hl
  exact lv_ldc C.1 C.2.1 C.2.2.2.1 (C.2.2.2.2.1 _ hw) hd (by rw [hv]; exact kk H locs ls hR hS hl)
theorem e_ldc2 (C : pCx g y cc nL ret d k n X) {i : Nat} (v : Int) {w : Int64} (hw : Cond.constantLong y.cls i w ∈ pgood) (hd : decode cc pc = .ok (.ldc2_w i, 3)) (kk : pE g nL X Qf S M cs sl (pc + 3) L (.inr (.inl v) :: st)) (hv : w = Int64.ofInt v := by decide +kernel) : pE g nL X Qf S M cs sl pc L st := by
  obtain ⟨p, l, e, R, s, m, args, below, meth, c⟩ := X
  intro H locs ls hR hS hl
  exact lv_ldc2 C.1 C.2.1 C.2.2.2.1 (C.2.2.2.2.1 _ hw) hd (by rw [hv]; exact kk H locs ls hR hS hl)
theorem e_iload_n (C : pCx g y cc nL ret d k n X) {j : Fin 4} {z : Int} (hd : decode cc pc = .ok (.iload_n j, 1)) (h : L[(j : Nat)]? = some (some (.inl z))) (kk : pE g nL X Qf S M cs sl (pc + 1) L (.inl z :: st))  : pE g nL X Qf S M cs sl pc L st := by
  obtain ⟨p, l, e, R, s, m, args, below, meth, c⟩ := X
  intro H locs ls hR hS hl
  exact lv_iload_n C.1 C.2.1 hd rfl (hl.2.2 _ _ h) (kk H locs ls hR hS hl)
theorem e_iload (C : pCx g y cc nL ret d k n X) {j : Nat} {z : Int} (hd : decode cc pc = .ok (.iload j, 2)) (h : L[j]? = some (some (.inl z))) (kk : pE g nL X Qf S M cs sl (pc + 2) L (.inl z :: st))  : pE g nL X Qf S M cs sl pc L st := by
  obtain ⟨p, l, e, R, s, m, args, below, meth, c⟩ := X
  intro H locs ls hR hS hl
  exact lv_iload C.1 C.2.1 hd (hl.2.2 _ _ h) (kk H locs ls hR hS hl)
theorem e_lload_n (C : pCx g y cc nL ret d k n X) {j : Fin 4} {z : Int} (hd : decode cc pc = .ok (.lload_n j, 1)) (h : L[(j : Nat)]? = some (some (.inr (.inl z)))) (kk : pE g nL X Qf S M cs sl (pc + 1) L (.inr (.inl z) :: st))  : pE g nL X Qf S M cs sl pc L st := by
  obtain ⟨p, l, e, R, s, m, args, below, meth, c⟩ := X
  intro H locs ls hR hS hl
  exact lv_lload_n C.1 C.2.1 hd rfl (hl.2.2 _ _ h) (kk H locs ls hR hS hl)
theorem e_lload (C : pCx g y cc nL ret d k n X) {j : Nat} {z : Int} (hd : decode cc pc = .ok (.lload j, 2)) (h : L[j]? = some (some (.inr (.inl z)))) (kk : pE g nL X Qf S M cs sl (pc + 2) L (.inr (.inl z) :: st))  : pE g nL X Qf S M cs sl pc L st := by
  obtain ⟨p, l, e, R, s, m, args, below, meth, c⟩ := X
  intro H locs ls hR hS hl
  exact lv_lload C.1 C.2.1 hd (hl.2.2 _ _ h) (kk H locs ls hR hS hl)
theorem e_aload_n (C : pCx g y cc nL ret d k n X) {j : Fin 4} {z : Nat} (hd : decode cc pc = .ok (.aload_n j, 1)) (h : L[(j : Nat)]? = some (some (.inr (.inr z)))) (kk : pE g nL X Qf S M cs sl (pc + 1) L (.inr (.inr z) :: st))  : pE g nL X Qf S M cs sl pc L st := by
  obtain ⟨p, l, e, R, s, m, args, below, meth, c⟩ := X
  intro H locs ls hR hS hl
  exact lv_aload_n C.1 C.2.1 hd rfl (hl.2.2 _ _ h) (kk H locs ls hR hS hl)
theorem e_aload (C : pCx g y cc nL ret d k n X) {j : Nat} {z : Nat} (hd : decode cc pc = .ok (.aload j, 2)) (h : L[j]? = some (some (.inr (.inr z)))) (kk : pE g nL X Qf S M cs sl (pc + 2) L (.inr (.inr z) :: st))  : pE g nL X Qf S M cs sl pc L st := by
  obtain ⟨p, l, e, R, s, m, args, below, meth, c⟩ := X
  intro H locs ls hR hS hl
  exact lv_aload C.1 C.2.1 hd (hl.2.2 _ _ h) (kk H locs ls hR hS hl)
theorem pLk_of1 {ls : Array Slot} {i : Nat} {v : pV} (hs : lv_has ls nL ((i, prv g v) :: (pLs g L).filter (fun q => !(q.1 == i) && !(q.1 + 1 == i && q.2.category == 2)))) : pLk g nL ls (pst L i v) := by
  obtain ⟨h1, h2, h3⟩ := hs
  refine ⟨h1, h2, fun j w hw => ?_⟩
  rcases pst_get (g := g) hw with ⟨rfl, rfl⟩ | ⟨q1, q2, q3⟩
  · exact h3 (j, prv g w) List.mem_cons_self
  · refine h3 (j, prv g w) (List.mem_cons_of_mem _ (List.mem_filter.mpr ⟨pLs_mem.mpr ⟨w, q2, rfl⟩, ?_⟩))
    simp only [Bool.and_eq_true, Bool.not_eq_true', beq_eq_false_iff_ne, ne_eq]
    refine ⟨q1, ?_⟩
    cases hh : (j + 1 == i && (prv g w).category == 2) with
    | false => rfl
    | true => exact absurd (by simpa using hh) q3
theorem pLk_of2 {ls : Array Slot} {i : Nat} {v : pV} (hs : lv_has ls nL ((i, prv g v) :: (pLs g L).filter (fun q => !(q.1 == i) && (!(q.1 == i + 1) && !(q.1 + 1 == i && q.2.category == 2))))) : pLk g nL ls (pst2 L i v) := by
  obtain ⟨h1, h2, h3⟩ := hs
  refine ⟨h1, h2, fun j w hw => ?_⟩
  unfold pst2 at hw
  rw [List.getElem?_set] at hw
  split at hw
  · split at hw <;> simp at hw
  · next hne =>
    rcases pst_get (g := g) hw with ⟨rfl, rfl⟩ | ⟨q1, q2, q3⟩
    · exact h3 (j, prv g w) List.mem_cons_self
    · refine h3 (j, prv g w) (List.mem_cons_of_mem _ (List.mem_filter.mpr ⟨pLs_mem.mpr ⟨w, q2, rfl⟩, ?_⟩))
      simp only [Bool.and_eq_true, Bool.not_eq_true', beq_eq_false_iff_ne, ne_eq]
      refine ⟨q1, fun e => hne e.symm, ?_⟩
      cases hh : (j + 1 == i && (prv g w).category == 2) with
      | false => rfl
      | true => exact absurd (by simpa using hh) q3
theorem e_istore_n (C : pCx g y cc nL ret d k n X) {j : Fin 4} {z : Int} (hd : decode cc pc = .ok (.istore_n j, 1)) (kk : pE g nL X Qf S M cs sl (pc + 1) (pst L j (.inl z)) st) (h : (j : Nat) < nL := by decide) : pE g nL X Qf S M cs sl pc L (.inl z :: st) := by
  obtain ⟨p, l, e, R, s, m, args, below, meth, c⟩ := X
  intro H locs ls hR hS hl
  exact lv_istore_n C.1 C.2.1 hd rfl (pLk_has hl) h rfl (fun ls1 h1 => kk H locs ls1 hR hS (pLk_of1 (v := .inl z) h1))
theorem e_istore (C : pCx g y cc nL ret d k n X) {j : Nat} {z : Int} (hd : decode cc pc = .ok (.istore j, 2)) (kk : pE g nL X Qf S M cs sl (pc + 2) (pst L j (.inl z)) st) (h : j < nL := by decide) : pE g nL X Qf S M cs sl pc L (.inl z :: st) := by
  obtain ⟨p, l, e, R, s, m, args, below, meth, c⟩ := X
  intro H locs ls hR hS hl
  exact lv_istore C.1 C.2.1 hd (pLk_has hl) h rfl (fun ls1 h1 => kk H locs ls1 hR hS (pLk_of1 (v := .inl z) h1))
theorem e_lstore_n (C : pCx g y cc nL ret d k n X) {j : Fin 4} {z : Int} (hd : decode cc pc = .ok (.lstore_n j, 1)) (kk : pE g nL X Qf S M cs sl (pc + 1) (pst2 L j (.inr (.inl z))) st) (h : (j : Nat) + 1 < nL := by decide) : pE g nL X Qf S M cs sl pc L (.inr (.inl z) :: st) := by
  obtain ⟨p, l, e, R, s, m, args, below, meth, c⟩ := X
  intro H locs ls hR hS hl
  exact lv_lstore_n C.1 C.2.1 hd rfl (pLk_has hl) h rfl (fun ls1 h1 => kk H locs ls1 hR hS (pLk_of2 (v := .inr (.inl z)) h1))
theorem e_lstore (C : pCx g y cc nL ret d k n X) {j : Nat} {z : Int} (hd : decode cc pc = .ok (.lstore j, 2)) (kk : pE g nL X Qf S M cs sl (pc + 2) (pst2 L j (.inr (.inl z))) st) (h : j + 1 < nL := by decide) : pE g nL X Qf S M cs sl pc L (.inr (.inl z) :: st) := by
  obtain ⟨p, l, e, R, s, m, args, below, meth, c⟩ := X
  intro H locs ls hR hS hl
  exact lv_lstore C.1 C.2.1 hd (pLk_has hl) h rfl (fun ls1 h1 => kk H locs ls1 hR hS (pLk_of2 (v := .inr (.inl z)) h1))
theorem e_astore_n (C : pCx g y cc nL ret d k n X) {j : Fin 4} {z : Nat} (hd : decode cc pc = .ok (.astore_n j, 1)) (kk : pE g nL X Qf S M cs sl (pc + 1) (pst L j (.inr (.inr z))) st) (h : (j : Nat) < nL := by decide) : pE g nL X Qf S M cs sl pc L (.inr (.inr z) :: st) := by
  obtain ⟨p, l, e, R, s, m, args, below, meth, c⟩ := X
  intro H locs ls hR hS hl
  exact lv_astore_n C.1 C.2.1 hd rfl (pLk_has hl) h rfl (fun ls1 h1 => kk H locs ls1 hR hS (pLk_of1 (v := .inr (.inr z)) h1))
theorem e_astore (C : pCx g y cc nL ret d k n X) {j : Nat} {z : Nat} (hd : decode cc pc = .ok (.astore j, 2)) (kk : pE g nL X Qf S M cs sl (pc + 2) (pst L j (.inr (.inr z))) st) (h : j < nL := by decide) : pE g nL X Qf S M cs sl pc L (.inr (.inr z) :: st) := by
  obtain ⟨p, l, e, R, s, m, args, below, meth, c⟩ := X
  intro H locs ls hR hS hl
  exact lv_astore C.1 C.2.1 hd (pLk_has hl) h rfl (fun ls1 h1 => kk H locs ls1 hR hS (pLk_of1 (v := .inr (.inr z)) h1))
theorem e_iinc (C : pCx g y cc nL ret d k n X) {j : Nat} {z v : Int} (hd : decode cc pc = .ok (.iinc j v, 3)) (hj : L[j]? = some (some (.inl z))) (kk : pE g nL X Qf S M cs sl (pc + 3) (pst L j (.inl (z + v))) st) (h : j < nL := by decide) : pE g nL X Qf S M cs sl pc L st := by
  obtain ⟨p, l, e, R, s, m, args, below, meth, c⟩ := X
  intro H locs ls hR hS hl
  obtain ⟨q, hq⟩ := List.getElem?_of_mem (pLs_mem (g := g) (w := prv g (.inl z)) |>.mpr ⟨_, hj, rfl⟩)
  exact lv_iinc C.1 C.2.1 hd (pLk_has hl) hq (by rw [← Int32.ofInt_add]) h rfl (fun ls1 h1 => kk H locs ls1 hR hS (pLk_of1 (v := .inl (z + v)) h1))
theorem e_iadd (C : pCx g y cc nL ret d k n X) {x z : Int} (hd : decode cc pc = .ok (.iadd, 1)) (kk : pE g nL X Qf S M cs sl (pc + 1) L (.inl (x + z) :: st))  : pE g nL X Qf S M cs sl pc L (.inl z :: .inl x :: st) := by
  obtain ⟨p, l, e, R, s, m, args, below, meth, c⟩ := X
  intro H locs ls hR hS hl
  exact lv_iadd C.1 C.2.1 hd (by rw [← Int32.ofInt_add]; exact kk H locs ls hR hS hl)
theorem e_isub (C : pCx g y cc nL ret d k n X) {x z : Int} (hd : decode cc pc = .ok (.isub, 1)) (kk : pE g nL X Qf S M cs sl (pc + 1) L (.inl (x - z) :: st))  : pE g nL X Qf S M cs sl pc L (.inl z :: .inl x :: st) := by
  obtain ⟨p, l, e, R, s, m, args, below, meth, c⟩ := X
  intro H locs ls hR hS hl
  exact lv_isub C.1 C.2.1 hd (by rw [← Int32.ofInt_sub]; exact kk H locs ls hR hS hl)
theorem e_imul (C : pCx g y cc nL ret d k n X) {x z : Int} (hd : decode cc pc = .ok (.imul, 1)) (kk : pE g nL X Qf S M cs sl (pc + 1) L (.inl (x * z) :: st))  : pE g nL X Qf S M cs sl pc L (.inl z :: .inl x :: st) := by
  obtain ⟨p, l, e, R, s, m, args, below, meth, c⟩ := X
  intro H locs ls hR hS hl
  exact lv_imul C.1 C.2.1 hd (by rw [← Int32.ofInt_mul]; exact kk H locs ls hR hS hl)
theorem e_ladd (C : pCx g y cc nL ret d k n X) {x z : Int} (hd : decode cc pc = .ok (.ladd, 1)) (kk : pE g nL X Qf S M cs sl (pc + 1) L (.inr (.inl (x + z)) :: st))  : pE g nL X Qf S M cs sl pc L (.inr (.inl z) :: .inr (.inl x) :: st) := by
  obtain ⟨p, l, e, R, s, m, args, below, meth, c⟩ := X
  intro H locs ls hR hS hl
  exact lv_ladd C.1 C.2.1 hd (by rw [← Int64.ofInt_add]; exact kk H locs ls hR hS hl)
theorem e_lsub (C : pCx g y cc nL ret d k n X) {x z : Int} (hd : decode cc pc = .ok (.lsub, 1)) (kk : pE g nL X Qf S M cs sl (pc + 1) L (.inr (.inl (x - z)) :: st))  : pE g nL X Qf S M cs sl pc L (.inr (.inl z) :: .inr (.inl x) :: st) := by
  obtain ⟨p, l, e, R, s, m, args, below, meth, c⟩ := X
  intro H locs ls hR hS hl
  exact lv_lsub C.1 C.2.1 hd (by rw [← Int64.ofInt_sub]; exact kk H locs ls hR hS hl)
theorem e_lmul (C : pCx g y cc nL ret d k n X) {x z : Int} (hd : decode cc pc = .ok (.lmul, 1)) (kk : pE g nL X Qf S M cs sl (pc + 1) L (.inr (.inl (x * z)) :: st))  : pE g nL X Qf S M cs sl pc L (.inr (.inl z) :: .inr (.inl x) :: st) := by
  obtain ⟨p, l, e, R, s, m, args, below, meth, c⟩ := X
  intro H locs ls hR hS hl
  exact lv_lmul C.1 C.2.1 hd (by rw [← Int64.ofInt_mul]; exact kk H locs ls hR hS hl)
theorem i32_div {x z : Int} (hx : -2147483648 ≤ x ∧ x < 2147483648) (hz : -2147483648 ≤ z ∧ z < 2147483648) (h0 : 0 ≤ x) (h1 : 0 < z) : Int32.ofInt x / Int32.ofInt z = Int32.ofInt (x / z) := by
  obtain ⟨a, rfl⟩ := Int.eq_ofNat_of_zero_le h0
  obtain ⟨b, rfl⟩ := Int.eq_ofNat_of_zero_le (Int.le_of_lt h1)
  skip
  rw [show ((a : Int) / (b : Int)) = ((a / b : Nat) : Int) from rfl, i32_nI, i32_nI, i32_nI]
  exact pk_div (by omega) (by omega) (by omega)
theorem i32_rem {x z : Int} (hx : -2147483648 ≤ x ∧ x < 2147483648) (hz : -2147483648 ≤ z ∧ z < 2147483648) (h0 : 0 ≤ x) (h1 : 0 < z) : Int32.ofInt x - Int32.ofInt x / Int32.ofInt z * Int32.ofInt z = Int32.ofInt (x % z) := by
  obtain ⟨a, rfl⟩ := Int.eq_ofNat_of_zero_le h0
  obtain ⟨b, rfl⟩ := Int.eq_ofNat_of_zero_le (Int.le_of_lt h1)
  skip
  rw [show ((a : Int) % (b : Int)) = ((a % b : Nat) : Int) from rfl, i32_nI, i32_nI, i32_nI]
  exact pk_rem (by omega) (by omega) (by omega)
theorem i64_nat (n : Nat) : Int64.ofInt (n : Int) = lN n := Int64.ofInt_eq_ofNat
theorem i64_div {x z : Int} (hx : -9223372036854775808 ≤ x ∧ x < 9223372036854775808) (hz : -9223372036854775808 ≤ z ∧ z < 9223372036854775808) (h0 : 0 ≤ x) (h1 : 0 < z) : Int64.ofInt x / Int64.ofInt z = Int64.ofInt (x / z) := by
  obtain ⟨a, rfl⟩ := Int.eq_ofNat_of_zero_le h0
  obtain ⟨b, rfl⟩ := Int.eq_ofNat_of_zero_le (Int.le_of_lt h1)
  skip
  rw [show ((a : Int) / (b : Int)) = ((a / b : Nat) : Int) from rfl, i64_nat, i64_nat, i64_nat]
  exact pk_lDiv (by omega) (by omega) (by omega)
theorem i64_rem {x z : Int} (hx : -9223372036854775808 ≤ x ∧ x < 9223372036854775808) (hz : -9223372036854775808 ≤ z ∧ z < 9223372036854775808) (h0 : 0 ≤ x) (h1 : 0 < z) : Int64.ofInt x - Int64.ofInt x / Int64.ofInt z * Int64.ofInt z = Int64.ofInt (x % z) := by
  obtain ⟨a, rfl⟩ := Int.eq_ofNat_of_zero_le h0
  obtain ⟨b, rfl⟩ := Int.eq_ofNat_of_zero_le (Int.le_of_lt h1)
  skip
  rw [show ((a : Int) % (b : Int)) = ((a % b : Nat) : Int) from rfl, i64_nat, i64_nat, i64_nat]
  exact pk_lRem (by omega) (by omega) (by omega)
theorem e_idiv (C : pCx g y cc nL ret d k n X) {x z : Int} (hd : decode cc pc = .ok (.idiv, 1)) (hx : -2147483648 ≤ x ∧ x < 2147483648) (hz : -2147483648 ≤ z ∧ z < 2147483648) (h0 : 0 ≤ x) (h1 : 0 < z) (kk : pE g nL X Qf S M cs sl (pc + 1) L (.inl (x / z) :: st))  : pE g nL X Qf S M cs sl pc L (.inl z :: .inl x :: st) := by
  obtain ⟨p, l, e, R, s, m, args, below, meth, c⟩ := X
  intro H locs ls hR hS hl
  exact lv_idiv C.1 C.2.1 hd (fun q => by rw [← i32_0, i32_eq hz (by unfold i32; omega)] at q; omega) (by rw [i32_div hx hz h0 h1]; exact kk H locs ls hR hS hl)
theorem e_irem (C : pCx g y cc nL ret d k n X) {x z : Int} (hd : decode cc pc = .ok (.irem, 1)) (hx : -2147483648 ≤ x ∧ x < 2147483648) (hz : -2147483648 ≤ z ∧ z < 2147483648) (h0 : 0 ≤ x) (h1 : 0 < z) (kk : pE g nL X Qf S M cs sl (pc + 1) L (.inl (x % z) :: st))  : pE g nL X Qf S M cs sl pc L (.inl z :: .inl x :: st) := by
  obtain ⟨p, l, e, R, s, m, args, below, meth, c⟩ := X
  intro H locs ls hR hS hl
  exact lv_irem C.1 C.2.1 hd (fun q => by rw [← i32_0, i32_eq hz (by unfold i32; omega)] at q; omega) (by rw [i32_rem hx hz h0 h1]; exact kk H locs ls hR hS hl)
theorem e_ldiv (C : pCx g y cc nL ret d k n X) {x z : Int} (hd : decode cc pc = .ok (.ldiv, 1)) (hx : -9223372036854775808 ≤ x ∧ x < 9223372036854775808) (hz : -9223372036854775808 ≤ z ∧ z < 9223372036854775808) (h0 : 0 ≤ x) (h1 : 0 < z) (kk : pE g nL X Qf S M cs sl (pc + 1) L (.inr (.inl (x / z)) :: st))  : pE g nL X Qf S M cs sl pc L (.inr (.inl z) :: .inr (.inl x) :: st) := by
  obtain ⟨p, l, e, R, s, m, args, below, meth, c⟩ := X
  intro H locs ls hR hS hl
  exact lv_ldiv C.1 C.2.1 hd (fun q => by rw [show (0 : Int64) = Int64.ofInt 0 from by decide +kernel, i64_eq hz (by unfold i64; omega)] at q; omega) (by rw [i64_div hx hz h0 h1]; exact kk H locs ls hR hS hl)
theorem e_lrem (C : pCx g y cc nL ret d k n X) {x z : Int} (hd : decode cc pc = .ok (.lrem, 1)) (hx : -9223372036854775808 ≤ x ∧ x < 9223372036854775808) (hz : -9223372036854775808 ≤ z ∧ z < 9223372036854775808) (h0 : 0 ≤ x) (h1 : 0 < z) (kk : pE g nL X Qf S M cs sl (pc + 1) L (.inr (.inl (x % z)) :: st))  : pE g nL X Qf S M cs sl pc L (.inr (.inl z) :: .inr (.inl x) :: st) := by
  obtain ⟨p, l, e, R, s, m, args, below, meth, c⟩ := X
  intro H locs ls hR hS hl
  exact lv_lrem C.1 C.2.1 hd (fun q => by rw [show (0 : Int64) = Int64.ofInt 0 from by decide +kernel, i64_eq hz (by unfold i64; omega)] at q; omega) (by rw [i64_rem hx hz h0 h1]; exact kk H locs ls hR hS hl)
theorem e_i2l (C : pCx g y cc nL ret d k n X) {x : Int} (hd : decode cc pc = .ok (.i2l, 1)) (hx : -2147483648 ≤ x ∧ x < 2147483648) (kk : pE g nL X Qf S M cs sl (pc + 1) L (.inr (.inl x) :: st))  : pE g nL X Qf S M cs sl pc L (.inl x :: st) := by
  obtain ⟨p, l, e, R, s, m, args, below, meth, c⟩ := X
  intro H locs ls hR hS hl
  refine lv_i2l C.1 C.2.1 hd ?_ (kk H locs ls hR hS hl)
  rw [← Int64.toInt_inj, Int32.toInt_toInt64, i32_to hx, i64_to]
  unfold i64; omega
theorem e_l2i (C : pCx g y cc nL ret d k n X) {x : Int} (hd : decode cc pc = .ok (.l2i, 1)) (hx : -2147483648 ≤ x ∧ x < 2147483648) (kk : pE g nL X Qf S M cs sl (pc + 1) L (.inl x :: st))  : pE g nL X Qf S M cs sl pc L (.inr (.inl x) :: st) := by
  obtain ⟨p, l, e, R, s, m, args, below, meth, c⟩ := X
  intro H locs ls hR hS hl
  refine lv_l2i C.1 C.2.1 hd ?_ (kk H locs ls hR hS hl)
  rw [← Int32.toInt_inj, Int64.toInt_toInt32, i32_to hx, i64_to (by unfold i64; omega)]
  exact Int.bmod_eq_of_le_mul_two (by omega) (by omega)
theorem i32_and (a b : Nat) : Int32.ofInt (a : Int) &&& Int32.ofInt (b : Int) = Int32.ofInt ((a &&& b : Nat) : Int) := by
  rw [i32_nI, i32_nI, i32_nI]; unfold nI
  rw [← Int32.toBitVec_inj]; simp [Int32.toBitVec_and, Int32.toBitVec_ofNat']
theorem i32_or (a b : Nat) : Int32.ofInt (a : Int) ||| Int32.ofInt (b : Int) = Int32.ofInt ((a ||| b : Nat) : Int) := by
  rw [i32_nI, i32_nI, i32_nI]; unfold nI
  rw [← Int32.toBitVec_inj]; simp [Int32.toBitVec_or, Int32.toBitVec_ofNat']
theorem i32_sm : ∀ j, j < 32 → ((nI j &&& 31).toBitVec.smod 32).toNat = j := by decide +kernel
theorem e_iand (C : pCx g y cc nL ret d k n X) {a b : Nat} (hd : decode cc pc = .ok (.iand, 1)) (kk : pE g nL X Qf S M cs sl (pc + 1) L (.inl ((a &&& b : Nat) : Int) :: st))  : pE g nL X Qf S M cs sl pc L (.inl (b : Int) :: .inl (a : Int) :: st) := by
  obtain ⟨p, l, e, R, s, m, args, below, meth, c⟩ := X
  intro H locs ls hR hS hl
  exact lv_iand C.1 C.2.1 hd (by rw [i32_and]; exact kk H locs ls hR hS hl)
theorem e_ior (C : pCx g y cc nL ret d k n X) {a b : Nat} (hd : decode cc pc = .ok (.ior, 1)) (kk : pE g nL X Qf S M cs sl (pc + 1) L (.inl ((a ||| b : Nat) : Int) :: st))  : pE g nL X Qf S M cs sl pc L (.inl (b : Int) :: .inl (a : Int) :: st) := by
  obtain ⟨p, l, e, R, s, m, args, below, meth, c⟩ := X
  intro H locs ls hR hS hl
  exact lv_ior C.1 C.2.1 hd (by rw [i32_or]; exact kk H locs ls hR hS hl)
theorem e_ishl (C : pCx g y cc nL ret d k n X) {a b : Nat} (hd : decode cc pc = .ok (.ishl, 1)) (hb : b < 32) (h : a * 2 ^ b < 2 ^ 32) (kk : pE g nL X Qf S M cs sl (pc + 1) L (.inl ((a * 2 ^ b : Nat) : Int) :: st))  : pE g nL X Qf S M cs sl pc L (.inl (b : Int) :: .inl (a : Int) :: st) := by
  obtain ⟨p, l, e, R, s, m, args, below, meth, c⟩ := X
  intro H locs ls hR hS hl
  exact lv_ishl C.1 C.2.1 hd (by rw [i32_nI, i32_nI, pk_shlN _ b (i32_sm b hb) h, ← i32_nI]; exact kk H locs ls hR hS hl)
theorem e_ishr (C : pCx g y cc nL ret d k n X) {a b : Nat} (hd : decode cc pc = .ok (.ishr, 1)) (hb : b < 32) (h : a < 2 ^ 31) (kk : pE g nL X Qf S M cs sl (pc + 1) L (.inl ((a / 2 ^ b : Nat) : Int) :: st))  : pE g nL X Qf S M cs sl pc L (.inl (b : Int) :: .inl (a : Int) :: st) := by
  obtain ⟨p, l, e, R, s, m, args, below, meth, c⟩ := X
  intro H locs ls hR hS hl
  exact lv_ishr C.1 C.2.1 hd (by rw [i32_nI, i32_nI, pk_shrN h _ b (i32_sm b hb), ← i32_nI]; exact kk H locs ls hR hS hl)
theorem e_lcmp (C : pCx g y cc nL ret d k n X) {x z : Int} (hd : decode cc pc = .ok (.lcmp, 1)) (hx : -9223372036854775808 ≤ x ∧ x < 9223372036854775808) (hz : -9223372036854775808 ≤ z ∧ z < 9223372036854775808) (kk : pE g nL X Qf S M cs sl (pc + 1) L (.inl (if z < x then 1 else if x = z then 0 else -1) :: st))  : pE g nL X Qf S M cs sl pc L (.inr (.inl z) :: .inr (.inl x) :: st) := by
  obtain ⟨p, l, e, R, s, m, args, below, meth, c⟩ := X
  intro H locs ls hR hS hl
  refine W.lcmp C.1 C.2.1 hd ?_
  have h := kk H locs ls hR hS hl
  have e1 : lg_cmp (Int64.ofInt x) (Int64.ofInt z) = Int32.ofInt (if z < x then 1 else if x = z then 0 else -1) := by
    unfold lg_cmp
    simp only [gt_iff_lt, i64_lt hz hx, i64_eq hx hz]
    split
    · rfl
    · split <;> rfl
  rw [e1]; exact h
theorem e_dup (C : pCx g y cc nL ret d k n X) {v : pV} (hd : decode cc pc = .ok (.dup, 1)) (kk : pE g nL X Qf S M cs sl (pc + 1) L (v :: v :: st)) (hv : (prv g v).category = 1 := by rfl) : pE g nL X Qf S M cs sl pc L (v :: st) := by
  obtain ⟨p, l, e, R, s, m, args, below, meth, c⟩ := X
  intro H locs ls hR hS hl
  exact lv_dup C.1 C.2.1 hd hv (kk H locs ls hR hS hl)
theorem e_dup2 (C : pCx g y cc nL ret d k n X) {v w : pV} (hd : decode cc pc = .ok (.dup2, 1)) (kk : pE g nL X Qf S M cs sl (pc + 1) L (v :: w :: v :: w :: st)) (hv : (prv g v).category = 1 := by rfl) (hw : (prv g w).category = 1 := by rfl) : pE g nL X Qf S M cs sl pc L (v :: w :: st) := by
  obtain ⟨p, l, e, R, s, m, args, below, meth, c⟩ := X
  intro H locs ls hR hS hl
  exact lv_dup2_11 C.1 C.2.1 hd hv hw (kk H locs ls hR hS hl)
theorem e_pop (C : pCx g y cc nL ret d k n X) {v : pV} (hd : decode cc pc = .ok (.pop, 1)) (kk : pE g nL X Qf S M cs sl (pc + 1) L st) (hv : (prv g v).category = 1 := by rfl) : pE g nL X Qf S M cs sl pc L (v :: st) := by
  obtain ⟨p, l, e, R, s, m, args, below, meth, c⟩ := X
  intro H locs ls hR hS hl
  exact lv_pop C.1 C.2.1 hd hv (kk H locs ls hR hS hl)
theorem e_goto (C : pCx g y cc nL ret d k n X) {off : Int} {tgt : Nat} (hd : decode cc pc = .ok (.goto off, 3)) (ht : (pc : Int) + off = (tgt : Int)) (kk : pE g nL X Qf S M cs sl tgt L st)  : pE g nL X Qf S M cs sl pc L st := by
  obtain ⟨p, l, e, R, s, m, args, below, meth, c⟩ := X
  intro H locs ls hR hS hl
  exact lv_goto C.1 C.2.1 hd ht (kk H locs ls hR hS hl)
theorem e_icmp_eq (C : pCx g y cc nL ret d k n X) {x z : Int} {off : Int} {tgt : Nat} (hd : decode cc pc = .ok (.if_icmp .eq off, 3)) (ht : (pc : Int) + off = (tgt : Int)) (hx : -2147483648 ≤ x ∧ x < 2147483648) (hz : -2147483648 ≤ z ∧ z < 2147483648) (kt : x = z → pE g nL X Qf S M cs sl tgt L st) (kf : ¬ (x = z) → pE g nL X Qf S M cs sl (pc + 3) L st) : pE g nL X Qf S M cs sl pc L (.inl z :: .inl x :: st) := by
  obtain ⟨p, l, e, R, s, m, args, below, meth, c⟩ := X
  intro H locs ls hR hS hl
  refine lv_icmp_eq C.1 C.2.1 hd ht (fun q => kt ?_ H locs ls hR hS hl) (fun q => kf ?_ H locs ls hR hS hl)
  · simp only [gt_iff_lt, ge_iff_le, ne_eq, i32_eq hx hz, i32_lt hx hz, i32_lt hz hx, i32_le hx hz, i32_le hz hx] at q ⊢; first | exact q | omega
  · simp only [gt_iff_lt, ge_iff_le, ne_eq, i32_eq hx hz, i32_lt hx hz, i32_lt hz hx, i32_le hx hz, i32_le hz hx] at q ⊢; first | exact q | omega
theorem e_icmp_ne (C : pCx g y cc nL ret d k n X) {x z : Int} {off : Int} {tgt : Nat} (hd : decode cc pc = .ok (.if_icmp .ne off, 3)) (ht : (pc : Int) + off = (tgt : Int)) (hx : -2147483648 ≤ x ∧ x < 2147483648) (hz : -2147483648 ≤ z ∧ z < 2147483648) (kt : x ≠ z → pE g nL X Qf S M cs sl tgt L st) (kf : ¬ (x ≠ z) → pE g nL X Qf S M cs sl (pc + 3) L st) : pE g nL X Qf S M cs sl pc L (.inl z :: .inl x :: st) := by
  obtain ⟨p, l, e, R, s, m, args, below, meth, c⟩ := X
  intro H locs ls hR hS hl
  refine lv_icmp_ne C.1 C.2.1 hd ht (fun q => kt ?_ H locs ls hR hS hl) (fun q => kf ?_ H locs ls hR hS hl)
  · simp only [gt_iff_lt, ge_iff_le, ne_eq, i32_eq hx hz, i32_lt hx hz, i32_lt hz hx, i32_le hx hz, i32_le hz hx] at q ⊢; first | exact q | omega
  · simp only [gt_iff_lt, ge_iff_le, ne_eq, i32_eq hx hz, i32_lt hx hz, i32_lt hz hx, i32_le hx hz, i32_le hz hx] at q ⊢; first | exact q | omega
theorem e_icmp_lt (C : pCx g y cc nL ret d k n X) {x z : Int} {off : Int} {tgt : Nat} (hd : decode cc pc = .ok (.if_icmp .lt off, 3)) (ht : (pc : Int) + off = (tgt : Int)) (hx : -2147483648 ≤ x ∧ x < 2147483648) (hz : -2147483648 ≤ z ∧ z < 2147483648) (kt : x < z → pE g nL X Qf S M cs sl tgt L st) (kf : ¬ (x < z) → pE g nL X Qf S M cs sl (pc + 3) L st) : pE g nL X Qf S M cs sl pc L (.inl z :: .inl x :: st) := by
  obtain ⟨p, l, e, R, s, m, args, below, meth, c⟩ := X
  intro H locs ls hR hS hl
  refine lv_icmp_lt C.1 C.2.1 hd ht (fun q => kt ?_ H locs ls hR hS hl) (fun q => kf ?_ H locs ls hR hS hl)
  · simp only [gt_iff_lt, ge_iff_le, ne_eq, i32_eq hx hz, i32_lt hx hz, i32_lt hz hx, i32_le hx hz, i32_le hz hx] at q ⊢; first | exact q | omega
  · simp only [gt_iff_lt, ge_iff_le, ne_eq, i32_eq hx hz, i32_lt hx hz, i32_lt hz hx, i32_le hx hz, i32_le hz hx] at q ⊢; first | exact q | omega
theorem e_icmp_ge (C : pCx g y cc nL ret d k n X) {x z : Int} {off : Int} {tgt : Nat} (hd : decode cc pc = .ok (.if_icmp .ge off, 3)) (ht : (pc : Int) + off = (tgt : Int)) (hx : -2147483648 ≤ x ∧ x < 2147483648) (hz : -2147483648 ≤ z ∧ z < 2147483648) (kt : z ≤ x → pE g nL X Qf S M cs sl tgt L st) (kf : ¬ (z ≤ x) → pE g nL X Qf S M cs sl (pc + 3) L st) : pE g nL X Qf S M cs sl pc L (.inl z :: .inl x :: st) := by
  obtain ⟨p, l, e, R, s, m, args, below, meth, c⟩ := X
  intro H locs ls hR hS hl
  refine lv_icmp_ge C.1 C.2.1 hd ht (fun q => kt ?_ H locs ls hR hS hl) (fun q => kf ?_ H locs ls hR hS hl)
  · simp only [gt_iff_lt, ge_iff_le, ne_eq, i32_eq hx hz, i32_lt hx hz, i32_lt hz hx, i32_le hx hz, i32_le hz hx] at q ⊢; first | exact q | omega
  · simp only [gt_iff_lt, ge_iff_le, ne_eq, i32_eq hx hz, i32_lt hx hz, i32_lt hz hx, i32_le hx hz, i32_le hz hx] at q ⊢; first | exact q | omega
theorem e_icmp_gt (C : pCx g y cc nL ret d k n X) {x z : Int} {off : Int} {tgt : Nat} (hd : decode cc pc = .ok (.if_icmp .gt off, 3)) (ht : (pc : Int) + off = (tgt : Int)) (hx : -2147483648 ≤ x ∧ x < 2147483648) (hz : -2147483648 ≤ z ∧ z < 2147483648) (kt : z < x → pE g nL X Qf S M cs sl tgt L st) (kf : ¬ (z < x) → pE g nL X Qf S M cs sl (pc + 3) L st) : pE g nL X Qf S M cs sl pc L (.inl z :: .inl x :: st) := by
  obtain ⟨p, l, e, R, s, m, args, below, meth, c⟩ := X
  intro H locs ls hR hS hl
  refine lv_icmp_gt C.1 C.2.1 hd ht (fun q => kt ?_ H locs ls hR hS hl) (fun q => kf ?_ H locs ls hR hS hl)
  · simp only [gt_iff_lt, ge_iff_le, ne_eq, i32_eq hx hz, i32_lt hx hz, i32_lt hz hx, i32_le hx hz, i32_le hz hx] at q ⊢; first | exact q | omega
  · simp only [gt_iff_lt, ge_iff_le, ne_eq, i32_eq hx hz, i32_lt hx hz, i32_lt hz hx, i32_le hx hz, i32_le hz hx] at q ⊢; first | exact q | omega
theorem e_icmp_le (C : pCx g y cc nL ret d k n X) {x z : Int} {off : Int} {tgt : Nat} (hd : decode cc pc = .ok (.if_icmp .le off, 3)) (ht : (pc : Int) + off = (tgt : Int)) (hx : -2147483648 ≤ x ∧ x < 2147483648) (hz : -2147483648 ≤ z ∧ z < 2147483648) (kt : x ≤ z → pE g nL X Qf S M cs sl tgt L st) (kf : ¬ (x ≤ z) → pE g nL X Qf S M cs sl (pc + 3) L st) : pE g nL X Qf S M cs sl pc L (.inl z :: .inl x :: st) := by
  obtain ⟨p, l, e, R, s, m, args, below, meth, c⟩ := X
  intro H locs ls hR hS hl
  refine lv_icmp_le C.1 C.2.1 hd ht (fun q => kt ?_ H locs ls hR hS hl) (fun q => kf ?_ H locs ls hR hS hl)
  · simp only [gt_iff_lt, ge_iff_le, ne_eq, i32_eq hx hz, i32_lt hx hz, i32_lt hz hx, i32_le hx hz, i32_le hz hx] at q ⊢; first | exact q | omega
  · simp only [gt_iff_lt, ge_iff_le, ne_eq, i32_eq hx hz, i32_lt hx hz, i32_lt hz hx, i32_le hx hz, i32_le hz hx] at q ⊢; first | exact q | omega
theorem e_if_eq (C : pCx g y cc nL ret d k n X) {x : Int} {off : Int} {tgt : Nat} (hd : decode cc pc = .ok (.ifCond .eq off, 3)) (ht : (pc : Int) + off = (tgt : Int)) (hx : -2147483648 ≤ x ∧ x < 2147483648) (kt : x = 0 → pE g nL X Qf S M cs sl tgt L st) (kf : ¬ (x = 0) → pE g nL X Qf S M cs sl (pc + 3) L st) : pE g nL X Qf S M cs sl pc L (.inl x :: st) := by
  obtain ⟨p, l, e, R, s, m, args, below, meth, c⟩ := X
  intro H locs ls hR hS hl
  have hz : i32 0 := by unfold i32; omega
  refine lv_if_eq C.1 C.2.1 hd ht (fun q => kt ?_ H locs ls hR hS hl) (fun q => kf ?_ H locs ls hR hS hl)
  · simp only [← i32_0, gt_iff_lt, ge_iff_le, ne_eq, i32_eq hx hz, i32_lt hx hz, i32_lt hz hx, i32_le hx hz, i32_le hz hx] at q ⊢; first | exact q | omega
  · simp only [← i32_0, gt_iff_lt, ge_iff_le, ne_eq, i32_eq hx hz, i32_lt hx hz, i32_lt hz hx, i32_le hx hz, i32_le hz hx] at q ⊢; first | exact q | omega
theorem e_if_ne (C : pCx g y cc nL ret d k n X) {x : Int} {off : Int} {tgt : Nat} (hd : decode cc pc = .ok (.ifCond .ne off, 3)) (ht : (pc : Int) + off = (tgt : Int)) (hx : -2147483648 ≤ x ∧ x < 2147483648) (kt : x ≠ 0 → pE g nL X Qf S M cs sl tgt L st) (kf : ¬ (x ≠ 0) → pE g nL X Qf S M cs sl (pc + 3) L st) : pE g nL X Qf S M cs sl pc L (.inl x :: st) := by
  obtain ⟨p, l, e, R, s, m, args, below, meth, c⟩ := X
  intro H locs ls hR hS hl
  have hz : i32 0 := by unfold i32; omega
  refine lv_if_ne C.1 C.2.1 hd ht (fun q => kt ?_ H locs ls hR hS hl) (fun q => kf ?_ H locs ls hR hS hl)
  · simp only [← i32_0, gt_iff_lt, ge_iff_le, ne_eq, i32_eq hx hz, i32_lt hx hz, i32_lt hz hx, i32_le hx hz, i32_le hz hx] at q ⊢; first | exact q | omega
  · simp only [← i32_0, gt_iff_lt, ge_iff_le, ne_eq, i32_eq hx hz, i32_lt hx hz, i32_lt hz hx, i32_le hx hz, i32_le hz hx] at q ⊢; first | exact q | omega
theorem e_if_lt (C : pCx g y cc nL ret d k n X) {x : Int} {off : Int} {tgt : Nat} (hd : decode cc pc = .ok (.ifCond .lt off, 3)) (ht : (pc : Int) + off = (tgt : Int)) (hx : -2147483648 ≤ x ∧ x < 2147483648) (kt : x < 0 → pE g nL X Qf S M cs sl tgt L st) (kf : ¬ (x < 0) → pE g nL X Qf S M cs sl (pc + 3) L st) : pE g nL X Qf S M cs sl pc L (.inl x :: st) := by
  obtain ⟨p, l, e, R, s, m, args, below, meth, c⟩ := X
  intro H locs ls hR hS hl
  have hz : i32 0 := by unfold i32; omega
  refine lv_if_lt C.1 C.2.1 hd ht (fun q => kt ?_ H locs ls hR hS hl) (fun q => kf ?_ H locs ls hR hS hl)
  · simp only [← i32_0, gt_iff_lt, ge_iff_le, ne_eq, i32_eq hx hz, i32_lt hx hz, i32_lt hz hx, i32_le hx hz, i32_le hz hx] at q ⊢; first | exact q | omega
  · simp only [← i32_0, gt_iff_lt, ge_iff_le, ne_eq, i32_eq hx hz, i32_lt hx hz, i32_lt hz hx, i32_le hx hz, i32_le hz hx] at q ⊢; first | exact q | omega
theorem e_if_ge (C : pCx g y cc nL ret d k n X) {x : Int} {off : Int} {tgt : Nat} (hd : decode cc pc = .ok (.ifCond .ge off, 3)) (ht : (pc : Int) + off = (tgt : Int)) (hx : -2147483648 ≤ x ∧ x < 2147483648) (kt : 0 ≤ x → pE g nL X Qf S M cs sl tgt L st) (kf : ¬ (0 ≤ x) → pE g nL X Qf S M cs sl (pc + 3) L st) : pE g nL X Qf S M cs sl pc L (.inl x :: st) := by
  obtain ⟨p, l, e, R, s, m, args, below, meth, c⟩ := X
  intro H locs ls hR hS hl
  have hz : i32 0 := by unfold i32; omega
  refine lv_if_ge C.1 C.2.1 hd ht (fun q => kt ?_ H locs ls hR hS hl) (fun q => kf ?_ H locs ls hR hS hl)
  · simp only [← i32_0, gt_iff_lt, ge_iff_le, ne_eq, i32_eq hx hz, i32_lt hx hz, i32_lt hz hx, i32_le hx hz, i32_le hz hx] at q ⊢; first | exact q | omega
  · simp only [← i32_0, gt_iff_lt, ge_iff_le, ne_eq, i32_eq hx hz, i32_lt hx hz, i32_lt hz hx, i32_le hx hz, i32_le hz hx] at q ⊢; first | exact q | omega
theorem e_if_gt (C : pCx g y cc nL ret d k n X) {x : Int} {off : Int} {tgt : Nat} (hd : decode cc pc = .ok (.ifCond .gt off, 3)) (ht : (pc : Int) + off = (tgt : Int)) (hx : -2147483648 ≤ x ∧ x < 2147483648) (kt : 0 < x → pE g nL X Qf S M cs sl tgt L st) (kf : ¬ (0 < x) → pE g nL X Qf S M cs sl (pc + 3) L st) : pE g nL X Qf S M cs sl pc L (.inl x :: st) := by
  obtain ⟨p, l, e, R, s, m, args, below, meth, c⟩ := X
  intro H locs ls hR hS hl
  have hz : i32 0 := by unfold i32; omega
  refine lv_if_gt C.1 C.2.1 hd ht (fun q => kt ?_ H locs ls hR hS hl) (fun q => kf ?_ H locs ls hR hS hl)
  · simp only [← i32_0, gt_iff_lt, ge_iff_le, ne_eq, i32_eq hx hz, i32_lt hx hz, i32_lt hz hx, i32_le hx hz, i32_le hz hx] at q ⊢; first | exact q | omega
  · simp only [← i32_0, gt_iff_lt, ge_iff_le, ne_eq, i32_eq hx hz, i32_lt hx hz, i32_lt hz hx, i32_le hx hz, i32_le hz hx] at q ⊢; first | exact q | omega
theorem e_if_le (C : pCx g y cc nL ret d k n X) {x : Int} {off : Int} {tgt : Nat} (hd : decode cc pc = .ok (.ifCond .le off, 3)) (ht : (pc : Int) + off = (tgt : Int)) (hx : -2147483648 ≤ x ∧ x < 2147483648) (kt : x ≤ 0 → pE g nL X Qf S M cs sl tgt L st) (kf : ¬ (x ≤ 0) → pE g nL X Qf S M cs sl (pc + 3) L st) : pE g nL X Qf S M cs sl pc L (.inl x :: st) := by
  obtain ⟨p, l, e, R, s, m, args, below, meth, c⟩ := X
  intro H locs ls hR hS hl
  have hz : i32 0 := by unfold i32; omega
  refine lv_if_le C.1 C.2.1 hd ht (fun q => kt ?_ H locs ls hR hS hl) (fun q => kf ?_ H locs ls hR hS hl)
  · simp only [← i32_0, gt_iff_lt, ge_iff_le, ne_eq, i32_eq hx hz, i32_lt hx hz, i32_lt hz hx, i32_le hx hz, i32_le hz hx] at q ⊢; first | exact q | omega
  · simp only [← i32_0, gt_iff_lt, ge_iff_le, ne_eq, i32_eq hx hz, i32_lt hx hz, i32_lt hz hx, i32_le hx hz, i32_le hz hx] at q ⊢; first | exact q | omega
theorem e_tabIn (C : pCx g y cc nL ret d k n X) {dflt lo hi off x : Int} {offs : Array Int} {len tgt : Nat} (hd : decode cc pc = .ok (.tableswitch dflt lo hi offs, len)) (hx : -2147483648 ≤ x ∧ x < 2147483648) (h1 : ¬ x < lo) (h2 : ¬ hi < x) (ho : offs[(x - lo).toNat]? = some off) (ht : (pc : Int) + off = (tgt : Int)) (kk : pE g nL X Qf S M cs sl tgt L st)  : pE g nL X Qf S M cs sl pc L (.inl x :: st) := by
  obtain ⟨p, l, e, R, s, m, args, below, meth, c⟩ := X
  intro H locs ls hR hS hl
  exact lv_tableIn C.1 C.2.1 hd (by rw [i32_to hx]; exact h1) (by rw [i32_to hx]; exact h2) (by rw [i32_to hx]; exact ho) ht (kk H locs ls hR hS hl)
theorem e_tabOut (C : pCx g y cc nL ret d k n X) {dflt lo hi x : Int} {offs : Array Int} {len tgt : Nat} (hd : decode cc pc = .ok (.tableswitch dflt lo hi offs, len)) (hx : -2147483648 ≤ x ∧ x < 2147483648) (h1 : x < lo ∨ hi < x) (ht : (pc : Int) + dflt = (tgt : Int)) (kk : pE g nL X Qf S M cs sl tgt L st)  : pE g nL X Qf S M cs sl pc L (.inl x :: st) := by
  obtain ⟨p, l, e, R, s, m, args, below, meth, c⟩ := X
  intro H locs ls hR hS hl
  exact lv_tableOut C.1 C.2.1 hd (by rw [i32_to hx]; exact h1) ht (kk H locs ls hR hS hl)
theorem e_lookup (C : pCx g y cc nL ret d k n X) {dflt off x : Int} {ps : Array (Int × Int)} {len tgt : Nat} (hd : decode cc pc = .ok (.lookupswitch dflt ps, len)) (hx : -2147483648 ≤ x ∧ x < 2147483648) (hp : (ps.toList.zip (ps.toList.drop 1)).all (fun (a, next) => a.1 < next.1) = true) (ho : Op.lookupswitch.offset ps.toList dflt x = off) (ht : (pc : Int) + off = (tgt : Int)) (kk : pE g nL X Qf S M cs sl tgt L st)  : pE g nL X Qf S M cs sl pc L (.inl x :: st) := by
  obtain ⟨p, l, e, R, s, m, args, below, meth, c⟩ := X
  intro H locs ls hR hS hl
  exact lv_lookup C.1 C.2.1 hd hp (by rw [i32_to hx]; exact ho) ht (kk H locs ls hR hS hl)
theorem e_ireturn {Q : Option pV → pMem → Prop} {z : Int} (C : pCx g y cc nL (some .int) d k n X) (hd : decode cc pc = .ok (.ireturn, 1)) (hq : Q (some (.inl z)) M) : pE g nL X (pMQ g S Q X cs sl) S M cs sl pc L [.inl z] := by
  obtain ⟨p, l, e, R, s, m, args, below, meth, c⟩ := X
  intro H locs ls hR hS hl
  refine W.iret C.1 C.2.1 C.2.2.2.2.2.2.2.2.2.2.1 (fun t ht hW => ⟨some (.inl z), M, rfl, hq, by rw [ht]; exact hR, hS.F ht⟩) hS.2.2 hd C.2.2.2.2.2.2.2.2.2.1
theorem e_zreturn {Q : Option pV → pMem → Prop} {z : Int} (C : pCx g y cc nL (some .boolean) d k n X) (hd : decode cc pc = .ok (.ireturn, 1)) (hz : z = 0 ∨ z = 1) (hq : Q (some (.inl z)) M) : pE g nL X (pMQ g S Q X cs sl) S M cs sl pc L [.inl z] := by
  obtain ⟨p, l, e, R, s, m, args, below, meth, c⟩ := X
  intro H locs ls hR hS hl
  refine W.zret C.1 C.2.1 C.2.2.2.2.2.2.2.2.2.2.1 (by rcases hz with rfl | rfl <;> decide +kernel) (fun t ht hW => ⟨some (.inl z), M, rfl, hq, by rw [ht]; exact hR, hS.F ht⟩) hS.2.2 hd C.2.2.2.2.2.2.2.2.2.1
theorem e_lreturn {Q : Option pV → pMem → Prop} {z : Int} (C : pCx g y cc nL (some .long) d k n X) (hd : decode cc pc = .ok (.lreturn, 1)) (hq : Q (some (.inr (.inl z))) M) : pE g nL X (pMQ g S Q X cs sl) S M cs sl pc L [.inr (.inl z)] := by
  obtain ⟨p, l, e, R, s, m, args, below, meth, c⟩ := X
  intro H locs ls hR hS hl
  refine W.lret C.1 C.2.1 C.2.2.2.2.2.2.2.2.2.2.1 (fun t ht hW => ⟨some (.inr (.inl z)), M, rfl, hq, by rw [ht]; exact hR, hS.F ht⟩) hS.2.2 hd C.2.2.2.2.2.2.2.2.2.1
theorem e_return {Q : Option pV → pMem → Prop} (C : pCx g y cc nL none d k n X) (hd : decode cc pc = .ok (.return_, 1)) (hq : Q none M) : pE g nL X (pMQ g S Q X cs sl) S M cs sl pc L [] := by
  obtain ⟨p, l, e, R, s, m, args, below, meth, c⟩ := X
  intro H locs ls hR hS hl
  refine W.vret C.1 C.2.1 C.2.2.2.2.2.2.2.2.2.2.1 (fun t ht hW => ⟨none, M, rfl, hq, by rw [ht]; exact hR, hS.F ht⟩) hS.2.2 hd C.2.2.2.2.2.2.2.2.2.1
end PR
