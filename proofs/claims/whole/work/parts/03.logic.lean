/-! ===== the memory of the two objects, in whole numbers, at places counted from the law's start ===== -/
abbrev pV : Type := Int ⊕ Int ⊕ Nat
abbrev pMem : Type := (Nat → Nat → Int) × (Nat → Nat → Int) × (Nat → Nat → Option Nat)
abbrev pShp : Type := Nat ⊕ (Nat × Nat)
/-- class numbers, their slots, array classes, the first place, the script's cell, the static row's cell -/
abbrev pG : Type := (Nat → ClassId) × (Nat → Nat → Nat) × (Nat → ClassId) × Nat × Nat × Nat
def pad (g : pG) (k : Nat) : Nat := if k = 1000000 then g.2.2.2.2.1 else if k = 1000001 then g.2.2.2.2.2 else g.2.2.2.1 + k
def prv (g : pG) : pV → Value
  | .inl z => .int (Int32.ofInt z)
  | .inr (.inl z) => .long (Int64.ofInt z)
  | .inr (.inr k) => .ref (pad g k)
def mI (M : pMem) (a i : Nat) : Int := M.1 a i
def mL (M : pMem) (a i : Nat) : Int := M.2.1 a i
def mR (M : pMem) (a i : Nat) : Option Nat := M.2.2 a i
def stI (M : pMem) (a i : Nat) (v : Int) : pMem := (fun b j => if b = a ∧ j = i then v else M.1 b j, M.2.1, M.2.2)
def stL (M : pMem) (a i : Nat) (v : Int) : pMem := (M.1, fun b j => if b = a ∧ j = i then v else M.2.1 b j, M.2.2)
def stR (M : pMem) (a i : Nat) (v : Nat) : pMem := (M.1, M.2.1, fun b j => if b = a ∧ j = i then some v else M.2.2 b j)
def zero (M : pMem) (a : Nat) : pMem := (fun b j => if b = a then 0 else M.1 b j, fun b j => if b = a then 0 else M.2.1 b j, fun b j => if b = a then none else M.2.2 b j)
/-- the kind of field k of class ci: 0 int, 1 long, 2 boolean, 3 a reference -/
def pfk (ci k : Nat) : Nat := match ci with
  | 0 => if k = 2 then 0 else 3
  | 1 => if k < 7 then 0 else if k = 7 then 1 else if k = 8 then 2 else 3
  | 2 => 3
  | 3 => 0
  | 4 => if k = 4 then 0 else 3
  | 5 => if k < 12 then 3 else 0
  | _ => if k = 10 then 2 else if k = 0 ∨ k = 7 ∨ k = 8 ∨ k = 9 ∨ k = 17 ∨ k = 21 ∨ k = 28 ∨ k = 29 ∨ k = 30 ∨ k = 34 ∨ k = 35 ∨ k = 36 then 0 else 3
def pnF (ci : Nat) : Nat := match ci with
  | 0 => 3
  | 1 => 19
  | 2 => 3
  | 3 => 3
  | 4 => 5
  | 5 => 16
  | _ => 39
abbrev classes : List vw_C := [(RX0, TX0, 3), (RX1, TX1, 19), (RX2, TX2, 3), (RX3, TX3, 3), (RX4, TX4, 5), (RX5, TX5, 16), (RX6, TX6, 39)]
def pty (ci : Nat) : Nat → FieldType := match ci with
  | 0 => tyX0
  | 1 => tyX1
  | 2 => tyX2
  | 3 => tyX3
  | 4 => tyX4
  | 5 => tyX5
  | _ => tyX6
def pfv (g : pG) (ci : Nat) (M : pMem) (a k : Nat) : Value := match pfk ci k with
  | 1 => .long (Int64.ofInt (mL M a k))
  | 3 => va_rf ((mR M a k).map (pad g))
  | _ => .int (Int32.ofInt (mI M a k))
def parr (g : pG) (t : Nat) (M : pMem) (a : Nat) : (Nat → Int32) ⊕ (Nat → Int64) ⊕ (Nat → UInt32) ⊕ (Nat → UInt64) ⊕ (Nat → Option Nat) := match t with
  | 0 => .inl (fun j => Int32.ofInt (mI M a j))
  | 1 => .inr (.inl (fun j => Int64.ofInt (mL M a j)))
  | 2 => .inl (fun j => Int32.ofInt (mI M a j))
  | _ => .inr (.inr (.inr (.inr (fun j => (mR M a j).map (pad g)))))
def pent (g : pG) (M : pMem) (sh : pShp) (a : Nat) : va_E := match sh with
  | .inl ci => .inr (ci, (List.range (pnF ci)).map (pfv g ci M a))
  | .inr tn => .inl (g.2.2.1 tn.1, tn.2, parr g tn.1 M a)
def pwd (g : pG) (S : List pShp) (M : pMem) : va_W := S.mapIdx (fun a sh => (pad g a, pent g M sh a))
def pA (g : pG) : Nat → Prop := fun q => g.2.2.2.1 ≤ q
def pRel (g : pG) (S : List pShp) (M : pMem) (H : Heap) : Prop := va_P (g.1, g.2.1) classes (pwd g S M) H ∧ H.size = g.2.2.2.1 + S.length ∧ S.length ≤ 1000
def ptys (g : pG) : List (ClassId × FieldType) := [(g.2.2.1 0, .int), (g.2.2.1 1, .long), (g.2.2.1 2, .boolean), (g.2.2.1 3, .object "PaperKinds$Sheet"), (g.2.2.1 4, .object "PaperKinds$Kind")]
def pK (g : pG) (U : State) : Prop := va_K (g.1, g.2.1) classes (ptys g) U
def pSt (g : pG) (U : State) (H : Heap) : Prop := va_Z "PaperKinds" "BOX_UNITS" "[J" (.ref g.2.2.2.2.2) (pA g) U H ∧ va_T .long g.2.2.2.2.2 8 (fun j => .long (Int64.ofInt (17 ^ (7 - j)))) (pA g) U H
def pNM : List (String × Nat × MethodName × String) := [("PaperKinds", 27, yX1_init, "PaperKinds"), ("PaperKinds", 34, yX2_init, "PaperKinds"), ("PaperKinds", 41, yX3_init, "PaperKinds"), ("PaperKinds", 52, yX0_init, "PaperKinds"), ("PaperKinds$Layer", 114, yX5_acrossOf, "PaperKinds"), ("PaperKinds$Layer", 118, yX5_downOf, "PaperKinds")]
def pNw (U : State) : Prop := (∀ q ∈ pNM, va_Nw (.methodLinkNest q.1 q.2.1 q.2.2.1 q.2.2.2) U) ∧ va_Nw (.fieldLinkNest "PaperKinds$Layer" 109 "PaperKinds" "BOX_UNITS" "[J" "PaperKinds") U ∧ va_AO "PaperKinds$Sheet" U ∧ va_AO "PaperKinds$Kind" U
def pgood : List Cond := lw_tbl.filter goodWord
def pPc (g : pG) (S : List pShp) (M : pMem) (av : List pV) : Array Value → State → Prop := fun v U => v = (av.map (prv g)).toArray ∧ pRel g S M U.heap ∧ pK g U ∧ pSt g U U.heap ∧ pNw U
def pQc (g : pG) (S' : List pShp) (Q : Option pV → pMem → Prop) : Array Value → State → Outcome → State → Prop := fun _ st o t => ∃ (r : Option pV) (M' : pMem), o = .returned (r.map (prv g)) ∧ Q r M' ∧ pRel g S' M' t.heap ∧ va_F (pA g) st t
/-- a method's contract -/
def pCn (g : pG) (d k n : Nat) (y : MethodName) (cc : ByteArray) (nL : Nat) (ret : Option FieldType) (S S' : List pShp) (M : pMem) (av : List pV) (Q : Option pV → pMem → Prop) : Prop :=
  ∀ l : Launch, Met l y (.code y cc nL ret :: pgood) { frames := d, cells := k, slots := n, locals := 40 * d } (pPc g S M av) (pQc g S' Q) k n (pA g)
abbrev pX : Type := Program × Launch × Env × Room × State × MethodId × Array Value × List Frame × Method × Code
def pCx (g : pG) (y : MethodName) (cc : ByteArray) (nL : Nat) (ret : Option FieldType) (d k n : Nat) : pX → Prop := fun (p, l, e, R, s, m, args, below, meth, c) =>
  p.tables.exec = Jvm.exec ∧ c.code = cc ∧ c.maxLocals = nL ∧ s.vm.findClass y.cls = some m.cls ∧ (∀ w ∈ pgood, w.before args s = true) ∧ pK g s ∧ pSt g s s.heap ∧ pNw s ∧ g.2.2.2.1 ≤ s.heap.size ∧ meth.locks = false ∧ meth.sig.returnType = ret ∧ meth.name = y.name ∧ d ≤ R.frames ∧ 40 * d ≤ R.locals ∧ k ≤ R.cells ∧ n ≤ R.slots
def pLk (g : pG) (nL : Nat) (ls : Array Slot) (L : List (Option pV)) : Prop := ls.size = nL ∧ lv_wf ls ∧ ∀ (i : Nat) (v : pV), L[i]? = some (some v) → ls[i]? = some (.val (prv g v))
def pE (g : pG) (nL : Nat) (X : pX) (Qf : State → Prop) (S : List pShp) (M : pMem) (cs sl pc : Nat) (L : List (Option pV)) (st : List pV) : Prop :=
  match X with
  | (p, l, e, R, s, m, args, below, meth, c) => ∀ (H : Heap) (locs : List Loc) (ls : Array Slot), pRel g S M H → va_S (pA g) s.heap H locs → pLk g nL ls L → W p l e R s m args below meth c H locs cs sl Qf (F0 m pc ls (st.map (prv g)))
def pMQ (g : pG) (S' : List pShp) (Q : Option pV → pMem → Prop) (X : pX) (k n : Nat) : State → Prop := MQ X.2.2.2.2.2.2.2.1 (pQc g S' Q) X.2.2.2.2.2.2.1 X.2.2.2.2.1 k n (pA g)
/-! storing into locals -/
def pst (L : List (Option pV)) (i : Nat) (v : pV) : List (Option pV) := match i with
  | 0 => L.set 0 (some v)
  | j + 1 => match L[j]? with
    | some (some (.inr (.inl _))) => (L.set j none).set (j + 1) (some v)
    | _ => L.set (j + 1) (some v)
def pst2 (L : List (Option pV)) (i : Nat) (v : pV) : List (Option pV) := (pst L i v).set (i + 1) none
/-! the whole numbers that a machine's number holds -/
def i32 (z : Int) : Prop := -2147483648 ≤ z ∧ z < 2147483648
def i64 (z : Int) : Prop := -9223372036854775808 ≤ z ∧ z < 9223372036854775808
theorem i32_to {z : Int} (h : i32 z) : (Int32.ofInt z).toInt = z := by
  rw [Int32.toInt_ofInt]; unfold i32 at h; have e : (Int32.size : Int) = 4294967296 := rfl; exact Int.bmod_eq_of_le_mul_two (by omega) (by omega)
theorem i64_to {z : Int} (h : i64 z) : (Int64.ofInt z).toInt = z := by
  rw [Int64.toInt_ofInt]; unfold i64 at h; have e : (Int64.size : Int) = 18446744073709551616 := rfl; exact Int.bmod_eq_of_le_mul_two (by omega) (by omega)
theorem i32_lt {x y : Int} (hx : i32 x) (hy : i32 y) : Int32.ofInt x < Int32.ofInt y ↔ x < y := by
  rw [Int32.lt_iff_toInt_lt, i32_to hx, i32_to hy]
theorem i32_le {x y : Int} (hx : i32 x) (hy : i32 y) : Int32.ofInt x ≤ Int32.ofInt y ↔ x ≤ y := by
  rw [Int32.le_iff_toInt_le, i32_to hx, i32_to hy]
theorem i32_eq {x y : Int} (hx : i32 x) (hy : i32 y) : Int32.ofInt x = Int32.ofInt y ↔ x = y := by
  rw [← Int32.toInt_inj, i32_to hx, i32_to hy]
theorem i64_lt {x y : Int} (hx : i64 x) (hy : i64 y) : Int64.ofInt x < Int64.ofInt y ↔ x < y := by
  rw [Int64.lt_iff_toInt_lt, i64_to hx, i64_to hy]
theorem i64_eq {x y : Int} (hx : i64 x) (hy : i64 y) : Int64.ofInt x = Int64.ofInt y ↔ x = y := by
  rw [← Int64.toInt_inj, i64_to hx, i64_to hy]
theorem i32_0 : Int32.ofInt 0 = 0 := by decide +kernel
theorem i32_nI (n : Nat) : Int32.ofInt (n : Int) = nI n := Int32.ofInt_eq_ofNat
