section PM
variable {g : pG} {y : MethodName} {cc : ByteArray} {nL : Nat} {ret : Option FieldType} {d k n : Nat} {X : pX} {Qf : State → Prop} {S : List pShp} {M : pMem} {cs sl pc : Nat} {L : List (Option pV)} {st : List pV}
theorem pwd_get (a : Nat) : (pwd g S M)[a]? = (S[a]?).map (fun sh => (pad g a, pent g M sh a)) := by
  unfold pwd; rw [List.getElem?_mapIdx]
theorem pwd_at {a : Nat} {sh : pShp} (h : S[a]? = some sh) : (pwd g S M)[a]? = some (pad g a, pent g M sh a) := by rw [pwd_get, h]; rfl
theorem pad_lt {a : Nat} (h : a < 1000000) : pad g a = g.2.2.2.1 + a := by unfold pad; rw [if_neg (by omega), if_neg (by omega)]
theorem pwd_D (h : S.length ≤ 1000) : va_D (pA g) (pwd g S M) := by
  refine ⟨fun i j p q hi hj e => ?_, fun i q hi => ?_⟩
  · rw [pwd_get] at hi hj
    obtain ⟨x, hx, rfl⟩ := Option.map_eq_some_iff.mp hi
    obtain ⟨z, hz, rfl⟩ := Option.map_eq_some_iff.mp hj
    have h1 := (List.getElem?_eq_some_iff.mp hx).1
    have h2 := (List.getElem?_eq_some_iff.mp hz).1
    dsimp only at e
    rw [pad_lt (by omega), pad_lt (by omega)] at e
    omega
  · rw [pwd_get] at hi
    obtain ⟨x, hx, rfl⟩ := Option.map_eq_some_iff.mp hi
    have h1 := (List.getElem?_eq_some_iff.mp hx).1
    show g.2.2.2.1 ≤ pad g i
    rw [pad_lt (by omega)]
    omega
theorem pwd_set {M' : pMem} {a : Nat} {sh : pShp} (h : S[a]? = some sh) (ho : ∀ b sh', b ≠ a → pent g M' sh' b = pent g M sh' b) : (pwd g S M).set a (pad g a, pent g M' sh a) = pwd g S M' := by
  apply List.ext_getElem?
  intro b
  rw [List.getElem?_set]
  split
  · next q =>
    subst q
    rw [pwd_at h]
    have h1 := (List.getElem?_eq_some_iff.mp h).1
    rw [if_pos (by unfold pwd; rw [List.length_mapIdx]; exact h1)]
  · next q =>
    rw [pwd_get, pwd_get]
    cases S[b]? with
    | none => rfl
    | some sh' => simp only [Option.map_some, Option.some.injEq, Prod.mk.injEq, true_and]; exact (ho b sh' (fun e => q e.symm)).symm
theorem pent_o {M M' : pMem} {b : Nat} (h1 : ∀ j, mI M' b j = mI M b j) (h2 : ∀ j, mL M' b j = mL M b j) (h3 : ∀ j, mR M' b j = mR M b j) (sh : pShp) : pent g M' sh b = pent g M sh b := by
  unfold pent
  cases sh with
  | inl ci =>
    have e1 : pfv g ci M' b = pfv g ci M b := by funext j; unfold pfv; rw [h1, h2, h3]
    simp only [e1]
  | inr tn =>
    have e1 : parr g tn.1 M' b = parr g tn.1 M b := by
      unfold parr
      have f1 : mI M' b = mI M b := funext h1
      have f2 : mL M' b = mL M b := funext h2
      have f3 : mR M' b = mR M b := funext h3
      simp only [f1, f2, f3]
    simp only [e1]
theorem stI_o {a i : Nat} {v : Int} (b : Nat) (sh : pShp) (h : b ≠ a) : pent g (stI M a i v) sh b = pent g M sh b := pent_o (M := M) (M' := stI M a i v) (fun j => by simp [mI, stI, h]) (fun j => rfl) (fun j => rfl) sh
theorem stL_o {a i : Nat} {v : Int} (b : Nat) (sh : pShp) (h : b ≠ a) : pent g (stL M a i v) sh b = pent g M sh b := pent_o (M := M) (M' := stL M a i v) (fun j => rfl) (fun j => by simp [mL, stL, h]) (fun j => rfl) sh
theorem stR_o {a i v : Nat} (b : Nat) (sh : pShp) (h : b ≠ a) : pent g (stR M a i v) sh b = pent g M sh b := pent_o (M := M) (M' := stR M a i v) (fun j => rfl) (fun j => rfl) (fun j => by simp [mR, stR, h]) sh
theorem pfs_set {ci a j : Nat} {M' : pMem} {v : Value} (hj : j < pnF ci) (h1 : pfv g ci M' a j = v) (h2 : ∀ i, i ≠ j → pfv g ci M' a i = pfv g ci M a i) : ((List.range (pnF ci)).map (pfv g ci M a)).set j v = (List.range (pnF ci)).map (pfv g ci M' a) := by
  apply List.ext_getElem?
  intro b
  rw [List.getElem?_set]
  split
  · next q => subst q; simp [hj, h1]
  · next q =>
    simp only [List.getElem?_map]
    cases hb : (List.range (pnF ci))[b]? with
    | none => rfl
    | some x =>
      have e1 : x = b := by
        have := List.getElem?_eq_some_iff.mp hb
        obtain ⟨w, hw⟩ := this
        simpa using hw.symm
      subst e1
      simp only [Option.map_some, h2 x (fun e => q e.symm)]
/-- a class as the tables have it -/
def pCl (ci : Nat) (C : String) (T : u_T) : Prop := classes[ci]? = some (C, T, pnF ci) ∧ (∀ w ∈ u_ws C T (pnF ci), w ∈ pgood) ∧ (∀ j, j < pnF ci → parseFieldDescriptor (T j).2.2.1 = some (pty ci j)) ∧ (∀ a, a < pnF ci → ∀ b, b < pnF ci → a ≠ b → (T a).2.1 ≠ (T b).2.1) ∧ (∀ j, j < pnF ci → (T j).1 = C)
/-- a field as a method's class links it -/
def pFl (own : String) (i ci j : Nat) : Prop := ∃ (C : String) (T : u_T), pCl ci C T ∧ j < pnF ci ∧ Cond.fieldLink own i (T j).1 (T j).2.1 (T j).2.2.1 ∈ pgood
theorem pfv_I {ci j a : Nat} (hk : pfk ci j ≠ 1 ∧ pfk ci j ≠ 3) : pfv g ci M a j = .int (Int32.ofInt (mI M a j)) := by
  unfold pfv
  split
  · next h => exact absurd h hk.1
  · next h => exact absurd h hk.2
  · rfl
theorem pfv_L {ci j a : Nat} (hk : pfk ci j = 1) : pfv g ci M a j = .long (Int64.ofInt (mL M a j)) := by unfold pfv; simp only [hk]
theorem pfv_R {ci j a : Nat} (hk : pfk ci j = 3) : pfv g ci M a j = va_rf ((mR M a j).map (pad g)) := by unfold pfv; simp only [hk]
theorem pRel_len {H : Heap} (h : pRel g S M H) : S.length ≤ 1000 := h.2.2
theorem pRel_H {H H1 : Heap} {ws : va_W} {locs : List Loc} {s : State} {M' : pMem} (h : pRel g S M H) (hw : ws = pwd g S M') (hP : va_P (g.1, g.2.1) classes ws H1) (hz : H1.size = H.size) : pRel g S M' H1 := ⟨hw ▸ hP, by rw [hz]; exact h.2.1, h.2.2⟩
theorem e_getI (C : pCx g y cc nL ret d k n X) {i ci j a : Nat} (hf : pFl y.cls i ci j) (hs : S[a]? = some (.inl ci)) (hd : decode cc pc = .ok (.getfield i, 3)) (kk : pE g nL X Qf S M cs sl (pc + 3) L (.inl (mI M a j) :: st)) (hk : pfk ci j ≠ 1 ∧ pfk ci j ≠ 3 := by decide) : pE g nL X Qf S M cs sl pc L (.inr (.inr a) :: st) := by
  obtain ⟨p, l, e, R, s, m, args, below, meth, c⟩ := X
  intro H locs ls hR hS hl
  obtain ⟨CC, T, ⟨c1, c2, c3, c4, c5⟩, h1, h2⟩ := hf
  have hv : pfv g ci M a j = prv g (.inl (mI M a j)) := (fun hk => pfv_I hk : pfk ci j ≠ 1 ∧ pfk ci j ≠ 3 → pfv g ci M a j = prv g (.inl (mI M a j))) hk
  refine va_get C.1 C.2.1 C.2.2.2.2.1 c2 C.2.2.2.1 C.2.2.2.2.2.1 hR.1 a (pwd_at hs) c1 j h1 (C.2.2.2.2.1 _ h2) (fun _ h => h) (v := prv g (.inl (mI M a j))) ?_ hd (kk H locs ls hR hS hl)
  rw [← hv]; simp [h1]
theorem e_getL (C : pCx g y cc nL ret d k n X) {i ci j a : Nat} (hf : pFl y.cls i ci j) (hs : S[a]? = some (.inl ci)) (hd : decode cc pc = .ok (.getfield i, 3)) (kk : pE g nL X Qf S M cs sl (pc + 3) L (.inr (.inl (mL M a j)) :: st)) (hk : pfk ci j = 1 := by decide) : pE g nL X Qf S M cs sl pc L (.inr (.inr a) :: st) := by
  obtain ⟨p, l, e, R, s, m, args, below, meth, c⟩ := X
  intro H locs ls hR hS hl
  obtain ⟨CC, T, ⟨c1, c2, c3, c4, c5⟩, h1, h2⟩ := hf
  have hv : pfv g ci M a j = prv g (.inr (.inl (mL M a j))) := (fun hk => pfv_L hk : pfk ci j = 1 → pfv g ci M a j = prv g (.inr (.inl (mL M a j)))) hk
  refine va_get C.1 C.2.1 C.2.2.2.2.1 c2 C.2.2.2.1 C.2.2.2.2.2.1 hR.1 a (pwd_at hs) c1 j h1 (C.2.2.2.2.1 _ h2) (fun _ h => h) (v := prv g (.inr (.inl (mL M a j)))) ?_ hd (kk H locs ls hR hS hl)
  rw [← hv]; simp [h1]
theorem e_getR (C : pCx g y cc nL ret d k n X) {i ci j a b : Nat} (hf : pFl y.cls i ci j) (hs : S[a]? = some (.inl ci)) (hb : mR M a j = some b) (hd : decode cc pc = .ok (.getfield i, 3)) (kk : pE g nL X Qf S M cs sl (pc + 3) L (.inr (.inr b) :: st)) (hk : pfk ci j = 3 := by decide) : pE g nL X Qf S M cs sl pc L (.inr (.inr a) :: st) := by
  obtain ⟨p, l, e, R, s, m, args, below, meth, c⟩ := X
  intro H locs ls hR hS hl
  obtain ⟨CC, T, ⟨c1, c2, c3, c4, c5⟩, h1, h2⟩ := hf
  have hv : pfv g ci M a j = prv g (.inr (.inr b)) := by rw [pfv_R hk, hb]; rfl
  refine va_get C.1 C.2.1 C.2.2.2.2.1 c2 C.2.2.2.1 C.2.2.2.2.2.1 hR.1 a (pwd_at hs) c1 j h1 (C.2.2.2.2.1 _ h2) (fun _ h => h) (v := prv g (.inr (.inr b))) ?_ hd (kk H locs ls hR hS hl)
  rw [← hv]; simp [h1]
theorem pRel_set {a : Nat} {sh : pShp} {M' : pMem} {H H1 : Heap} (hR : pRel g S M H) (hs : S[a]? = some sh) (ho : ∀ b sh', b ≠ a → pent g M' sh' b = pent g M sh' b) (he : va_at (g.1, g.2.1) classes (pad g a, pent g M' sh a) H1) (z : H1.size = H.size) (oq : ∀ q : Nat, q ≠ pad g a → H1[q]? = H[q]?) : pRel g S M' H1 := by
  refine ⟨?_, by rw [z]; exact hR.2.1, hR.2.2⟩
  rw [← pwd_set hs ho]
  exact hR.1.set (pwd_D hR.2.2) (pwd_at hs) he oq
theorem pA_at {a : Nat} {sh : pShp} {H : Heap} (hR : pRel g S M H) (hs : S[a]? = some sh) : pA g (pad g a) := (pwd_D (M := M) hR.2.2).2 a _ (pwd_at hs)
theorem pfs_V {ci a j : Nat} {M' : pMem} {v : Value} (hj : j < pnF ci) (h1 : pfv g ci M' a j = v) (h2 : ∀ i, i ≠ j → pfv g ci M' a i = pfv g ci M a i) (q : Nat) : updV (vp_V ((List.range (pnF ci)).map (pfv g ci M a))) j v q = vp_V ((List.range (pnF ci)).map (pfv g ci M' a)) q := by
  rw [vp_updV_set (by simp [hj]), pfs_set hj h1 h2]
theorem e_putI (C : pCx g y cc nL ret d k n X) {i ci j a : Nat} {v : Int} (hf : pFl y.cls i ci j) (hs : S[a]? = some (.inl ci))  (hd : decode cc pc = .ok (.putfield i, 3)) (hfin : ∀ (CC : String) (T : u_T), pCl ci CC T → (T j).2.2.2 = false) (kk : pE g nL X Qf S (stI M a j v) cs sl (pc + 3) L st) (hty : pty ci j = .int := by rfl) (hk : pfk ci j = 0 := by decide) : pE g nL X Qf S M cs sl pc L (.inl v :: .inr (.inr a) :: st) := by
  obtain ⟨p, l, e, R, s, m, args, below, meth, c⟩ := X
  intro H locs ls hR hS hl
  obtain ⟨CC, T, hcl, h1, h2⟩ := hf
  have hfin := hfin CC T hcl
  obtain ⟨c1, c2, c3, c4, c5⟩ := hcl
  have hK := C.2.2.2.2.2.1
  have hts := C.2.2.2.2.1
  have hap := va_apart (own := y.cls) hts c2 (pty ci) c3 c4 hK c1
  obtain ⟨r, h3, cell, q1, q2, q3, q4⟩ := hR.1 a _ (pwd_at hs)
  have hr : r = (CC, T, pnF ci) := Option.some.inj (h3.symm.trans c1)
  subst hr
  obtain ⟨hSl, hfc, kC, hkC, hkind⟩ := hK.1 ci _ c1
  obtain ⟨cf, kf, fi, f, hi, hsl⟩ := hSl j h1
  have hlay := hts _ (c2 _ (u_in_lay h1))
  unfold u_lay at hlay
  have hst := (u_facts hfc hkC (u_lays hts c2 h1) hi).1
  have hv : pfv g ci (stI M a j v) a j = prv g (.inl v) := by rw [pfv_I (by omega)]; simp [mI, stI, prv]
  have ho : ∀ i, i ≠ j → pfv g ci (stI M a j v) a i = pfv g ci M a i := fun i hi => by unfold pfv; simp only [mI, mL, mR, stI, hi, and_false, if_false]
  rw [if_neg (by rw [hfin]; decide)] at hlay
  have h6 := u_store hfc hkC hkind hlay hi (c3 j h1) (v := prv g (.inl v)) (by rw [hty]; rfl) (by rw [hty]; rfl)
  refine W.putK C.1 C.2.1 (f := f) ⟨C.2.2.2.1, C.2.2.2.2.1 _ h2, ⟨_, _, _, hi⟩, hst⟩ (by rw [q2]; exact h6) q1 q3 (by rw [hsl]; exact k2_hasslot (q4 j h1)) rfl rfl hd fun H' e1 e2 e3 => ?_
  rw [hsl] at e1 ⊢
  exact kk H' _ ls (pRel_set hR hs (fun b sh hb => stI_o b sh hb) ⟨_, c1, t_OB.to (V := updV (vp_V ((List.range (pnF ci)).map (pfv g ci M a))) j (prv g (.inl v))) ⟨_, e1, q2, q3, t_set q4 hap h1 _⟩ (fun q _ => pfs_V h1 hv ho q)⟩ e2 e3) (hS.put e2 e3 (pA_at hR hs)) hl
theorem e_putZ (C : pCx g y cc nL ret d k n X) {i ci j a : Nat} {v : Int} (hf : pFl y.cls i ci j) (hs : S[a]? = some (.inl ci)) (hz : v = 0 ∨ v = 1) (hd : decode cc pc = .ok (.putfield i, 3)) (hfin : ∀ (CC : String) (T : u_T), pCl ci CC T → (T j).2.2.2 = false) (kk : pE g nL X Qf S (stI M a j v) cs sl (pc + 3) L st) (hty : pty ci j = .boolean := by rfl) (hk : pfk ci j = 2 := by decide) : pE g nL X Qf S M cs sl pc L (.inl v :: .inr (.inr a) :: st) := by
  obtain ⟨p, l, e, R, s, m, args, below, meth, c⟩ := X
  intro H locs ls hR hS hl
  obtain ⟨CC, T, hcl, h1, h2⟩ := hf
  have hfin := hfin CC T hcl
  obtain ⟨c1, c2, c3, c4, c5⟩ := hcl
  have hK := C.2.2.2.2.2.1
  have hts := C.2.2.2.2.1
  have hap := va_apart (own := y.cls) hts c2 (pty ci) c3 c4 hK c1
  obtain ⟨r, h3, cell, q1, q2, q3, q4⟩ := hR.1 a _ (pwd_at hs)
  have hr : r = (CC, T, pnF ci) := Option.some.inj (h3.symm.trans c1)
  subst hr
  obtain ⟨hSl, hfc, kC, hkC, hkind⟩ := hK.1 ci _ c1
  obtain ⟨cf, kf, fi, f, hi, hsl⟩ := hSl j h1
  have hlay := hts _ (c2 _ (u_in_lay h1))
  unfold u_lay at hlay
  have hst := (u_facts hfc hkC (u_lays hts c2 h1) hi).1
  have hv : pfv g ci (stI M a j v) a j = prv g (.inl v) := by rw [pfv_I (by omega)]; simp [mI, stI, prv]
  have ho : ∀ i, i ≠ j → pfv g ci (stI M a j v) a i = pfv g ci M a i := fun i hi => by unfold pfv; simp only [mI, mL, mR, stI, hi, and_false, if_false]
  rw [if_neg (by rw [hfin]; decide)] at hlay
  have h6 := u_store hfc hkC hkind hlay hi (c3 j h1) (v := prv g (.inl v)) (by rw [hty]; rcases hz with rfl | rfl <;> (simp only [prv]; decide +kernel)) (by rw [hty]; rcases hz with rfl | rfl <;> (simp only [prv]; decide +kernel))
  refine W.putK C.1 C.2.1 (f := f) ⟨C.2.2.2.1, C.2.2.2.2.1 _ h2, ⟨_, _, _, hi⟩, hst⟩ (by rw [q2]; exact h6) q1 q3 (by rw [hsl]; exact k2_hasslot (q4 j h1)) rfl rfl hd fun H' e1 e2 e3 => ?_
  rw [hsl] at e1 ⊢
  exact kk H' _ ls (pRel_set hR hs (fun b sh hb => stI_o b sh hb) ⟨_, c1, t_OB.to (V := updV (vp_V ((List.range (pnF ci)).map (pfv g ci M a))) j (prv g (.inl v))) ⟨_, e1, q2, q3, t_set q4 hap h1 _⟩ (fun q _ => pfs_V h1 hv ho q)⟩ e2 e3) (hS.put e2 e3 (pA_at hR hs)) hl
theorem e_putL (C : pCx g y cc nL ret d k n X) {i ci j a : Nat} {v : Int} (hf : pFl y.cls i ci j) (hs : S[a]? = some (.inl ci))  (hd : decode cc pc = .ok (.putfield i, 3)) (hfin : ∀ (CC : String) (T : u_T), pCl ci CC T → (T j).2.2.2 = false) (kk : pE g nL X Qf S (stL M a j v) cs sl (pc + 3) L st) (hty : pty ci j = .long := by rfl) (hk : pfk ci j = 1 := by decide) : pE g nL X Qf S M cs sl pc L (.inr (.inl v) :: .inr (.inr a) :: st) := by
  obtain ⟨p, l, e, R, s, m, args, below, meth, c⟩ := X
  intro H locs ls hR hS hl
  obtain ⟨CC, T, hcl, h1, h2⟩ := hf
  have hfin := hfin CC T hcl
  obtain ⟨c1, c2, c3, c4, c5⟩ := hcl
  have hK := C.2.2.2.2.2.1
  have hts := C.2.2.2.2.1
  have hap := va_apart (own := y.cls) hts c2 (pty ci) c3 c4 hK c1
  obtain ⟨r, h3, cell, q1, q2, q3, q4⟩ := hR.1 a _ (pwd_at hs)
  have hr : r = (CC, T, pnF ci) := Option.some.inj (h3.symm.trans c1)
  subst hr
  obtain ⟨hSl, hfc, kC, hkC, hkind⟩ := hK.1 ci _ c1
  obtain ⟨cf, kf, fi, f, hi, hsl⟩ := hSl j h1
  have hlay := hts _ (c2 _ (u_in_lay h1))
  unfold u_lay at hlay
  have hst := (u_facts hfc hkC (u_lays hts c2 h1) hi).1
  have hv : pfv g ci (stL M a j v) a j = prv g (.inr (.inl v)) := by rw [pfv_L hk]; simp [mL, stL, prv]
  have ho : ∀ i, i ≠ j → pfv g ci (stL M a j v) a i = pfv g ci M a i := fun i hi => by unfold pfv; simp only [mI, mL, mR, stL, hi, and_false, if_false]
  rw [if_neg (by rw [hfin]; decide)] at hlay
  have h6 := u_store hfc hkC hkind hlay hi (c3 j h1) (v := prv g (.inr (.inl v))) (by rw [hty]; rfl) (by rw [hty]; rfl)
  refine W.putK C.1 C.2.1 (f := f) ⟨C.2.2.2.1, C.2.2.2.2.1 _ h2, ⟨_, _, _, hi⟩, hst⟩ (by rw [q2]; exact h6) q1 q3 (by rw [hsl]; exact k2_hasslot (q4 j h1)) rfl rfl hd fun H' e1 e2 e3 => ?_
  rw [hsl] at e1 ⊢
  exact kk H' _ ls (pRel_set hR hs (fun b sh hb => stL_o b sh hb) ⟨_, c1, t_OB.to (V := updV (vp_V ((List.range (pnF ci)).map (pfv g ci M a))) j (prv g (.inr (.inl v)))) ⟨_, e1, q2, q3, t_set q4 hap h1 _⟩ (fun q _ => pfs_V h1 hv ho q)⟩ e2 e3) (hS.put e2 e3 (pA_at hR hs)) hl
theorem e_putR (C : pCx g y cc nL ret d k n X) {i ci j a : Nat} {v : Nat} (hf : pFl y.cls i ci j) (hs : S[a]? = some (.inl ci)) (hty : ∀ b : Nat, narrow (pty ci j) (.ref b) = .ref b ∧ fits (pty ci j) (.ref b) = true) (hd : decode cc pc = .ok (.putfield i, 3)) (hfin : ∀ (CC : String) (T : u_T), pCl ci CC T → (T j).2.2.2 = true) (hin : y.name = "<init>") (hown : ∀ (CC : String) (T : u_T), pCl ci CC T → CC = y.cls) (kk : pE g nL X Qf S (stR M a j v) cs sl (pc + 3) L st)  (hk : pfk ci j = 3 := by decide) : pE g nL X Qf S M cs sl pc L (.inr (.inr v) :: .inr (.inr a) :: st) := by
  obtain ⟨p, l, e, R, s, m, args, below, meth, c⟩ := X
  intro H locs ls hR hS hl
  obtain ⟨CC, T, hcl, h1, h2⟩ := hf
  have hfin := hfin CC T hcl
  have hown := hown CC T hcl
  obtain ⟨c1, c2, c3, c4, c5⟩ := hcl
  have hK := C.2.2.2.2.2.1
  have hts := C.2.2.2.2.1
  have hap := va_apart (own := y.cls) hts c2 (pty ci) c3 c4 hK c1
  obtain ⟨r, h3, cell, q1, q2, q3, q4⟩ := hR.1 a _ (pwd_at hs)
  have hr : r = (CC, T, pnF ci) := Option.some.inj (h3.symm.trans c1)
  subst hr
  obtain ⟨hSl, hfc, kC, hkC, hkind⟩ := hK.1 ci _ c1
  obtain ⟨cf, kf, fi, f, hi, hsl⟩ := hSl j h1
  have hlay := hts _ (c2 _ (u_in_lay h1))
  unfold u_lay at hlay
  have hst := (u_facts hfc hkC (u_lays hts c2 h1) hi).1
  have hv : pfv g ci (stR M a j v) a j = prv g (.inr (.inr v)) := by rw [pfv_R hk]; simp [mR, stR, prv, va_rf]
  have ho : ∀ i, i ≠ j → pfv g ci (stR M a j v) a i = pfv g ci M a i := fun i hi => by unfold pfv; simp only [mI, mL, mR, stR, hi, and_false, if_false]
  rw [if_pos hfin] at hlay
  have hcf : m.cls = cf := by
    obtain ⟨_, _, c', _, _, _, -, -, hf', -, -, -, hown2, -⟩ := Cond.laysFinal_spec hlay
    have e1 : c' = cf := by have := hi.symm.trans hf'; simp at this; exact this.1.symm
    rw [c5 j h1, hown] at hown2
    rw [← e1]; exact Option.some.inj (C.2.2.2.1.symm.trans hown2)
  have h6 := u_fits hfc hkC hkind (Or.inr hlay) hi (c3 j h1) (v := prv g (.inr (.inr v))) (hty _).1 (hty _).2
  refine W.putFinK C.1 C.2.1 C.2.2.2.1 (C.2.2.2.2.1 _ h2) hi hst hcf (C.2.2.2.2.2.2.2.2.2.2.2.1.trans hin) (by rw [q2]; exact h6) q1 q3 (by rw [hsl]; exact k2_hasslot (q4 j h1)) rfl rfl hd fun H' e1 e2 e3 => ?_
  rw [hsl] at e1 ⊢
  exact kk H' _ ls (pRel_set hR hs (fun b sh hb => stR_o b sh hb) ⟨_, c1, t_OB.to (V := updV (vp_V ((List.range (pnF ci)).map (pfv g ci M a))) j (prv g (.inr (.inr v)))) ⟨_, e1, q2, q3, t_set q4 hap h1 _⟩ (fun q _ => pfs_V h1 hv ho q)⟩ e2 e3) (hS.put e2 e3 (pA_at hR hs)) hl
theorem p_vin {j n : Nat} (hj : j < n) (hn : n < 2147483648) : vp_in (Int32.ofInt (j : Int)) n := by rw [i32_nI]; exact vp_in_nI hj (by omega)
theorem p_cl {j : Nat} (hj : j < 2147483648) : (Int32.ofInt (j : Int)).toNatClampNeg = j := by rw [i32_nI]; exact nI_clamp (by omega)
theorem e_iaload (C : pCx g y cc nL ret d k n X) {a N : Nat} {z : Int} (hd : decode cc pc = .ok (.iaload, 1)) (hs : S[a]? = some (.inr (0, N))) (j : Nat) (hz : z = (j : Int)) (hj : j < N) (kk : pE g nL X Qf S M cs sl (pc + 1) L (.inl (mI M a j) :: st)) (hN : N < 2147483648 := by first | decide | omega) : pE g nL X Qf S M cs sl pc L (.inl z :: .inr (.inr a) :: st) := by
  obtain ⟨p, l, e, R, s, m, args, below, meth, c⟩ := X
  intro H locs ls hR hS hl
  subst hz
  refine va_iald C.1 C.2.1 C.2.2.2.2.2.1 hR.1 a 0 (pwd_at hs) rfl (p_vin hj hN) hd ?_
  rw [p_cl (Nat.lt_trans hj hN)]
  exact kk H locs ls hR hS hl
theorem e_baload (C : pCx g y cc nL ret d k n X) {a N : Nat} {z : Int} (hd : decode cc pc = .ok (.baload, 1)) (hs : S[a]? = some (.inr (2, N))) (j : Nat) (hz : z = (j : Int)) (hj : j < N) (kk : pE g nL X Qf S M cs sl (pc + 1) L (.inl (mI M a j) :: st)) (hN : N < 2147483648 := by first | decide | omega) : pE g nL X Qf S M cs sl pc L (.inl z :: .inr (.inr a) :: st) := by
  obtain ⟨p, l, e, R, s, m, args, below, meth, c⟩ := X
  intro H locs ls hR hS hl
  subst hz
  refine va_zald C.1 C.2.1 C.2.2.2.2.2.1 hR.1 a 2 (pwd_at hs) rfl (p_vin hj hN) hd ?_
  rw [p_cl (Nat.lt_trans hj hN)]
  exact kk H locs ls hR hS hl
theorem e_laload (C : pCx g y cc nL ret d k n X) {a N : Nat} {z : Int} (hd : decode cc pc = .ok (.laload, 1)) (hs : S[a]? = some (.inr (1, N))) (j : Nat) (hz : z = (j : Int)) (hj : j < N) (kk : pE g nL X Qf S M cs sl (pc + 1) L (.inr (.inl (mL M a j)) :: st)) (hN : N < 2147483648 := by first | decide | omega) : pE g nL X Qf S M cs sl pc L (.inl z :: .inr (.inr a) :: st) := by
  obtain ⟨p, l, e, R, s, m, args, below, meth, c⟩ := X
  intro H locs ls hR hS hl
  subst hz
  refine va_lald C.1 C.2.1 C.2.2.2.2.2.1 hR.1 a 1 (pwd_at hs) rfl (p_vin hj hN) hd ?_
  rw [p_cl (Nat.lt_trans hj hN)]
  exact kk H locs ls hR hS hl
theorem e_aaload3 (C : pCx g y cc nL ret d k n X) {a N b : Nat} {z : Int} (hd : decode cc pc = .ok (.aaload, 1)) (hs : S[a]? = some (.inr (3, N))) (j : Nat) (hz : z = (j : Int)) (hj : j < N) (hb : mR M a j = some b) (kk : pE g nL X Qf S M cs sl (pc + 1) L (.inr (.inr b) :: st)) (hN : N < 2147483648 := by first | decide | omega) : pE g nL X Qf S M cs sl pc L (.inl z :: .inr (.inr a) :: st) := by
  obtain ⟨p, l, e, R, s, m, args, below, meth, c⟩ := X
  intro H locs ls hR hS hl
  subst hz
  refine va_aldq C.1 C.2.1 C.2.2.2.2.2.1 hR.1 a 3 (pwd_at hs) rfl (p_vin hj hN) hd ?_
  rw [p_cl (Nat.lt_trans hj hN), hb]
  exact kk H locs ls hR hS hl
theorem e_aastore3 (C : pCx g y cc nL ret d k n X) {a N b : Nat} {z : Int} (hd : decode cc pc = .ok (.aastore, 1)) (hs : S[a]? = some (.inr (3, N))) (hb : S[b]? = some (.inl 4)) (j : Nat) (hz : z = (j : Int)) (hj : j < N) (kk : pE g nL X Qf S (stR M a j b) cs sl (pc + 1) L st) (hN : N < 2147483648 := by first | decide | omega) : pE g nL X Qf S M cs sl pc L (.inr (.inr b) :: .inl z :: .inr (.inr a) :: st) := by
  obtain ⟨p, l, e, R, s, m, args, below, meth, c⟩ := X
  intro H locs ls hR hS hl
  subst hz
  have hK := C.2.2.2.2.2.1
  obtain ⟨r', hr', cellV, g1, g2, g3, -⟩ := hR.1 b _ (pwd_at hb)
  have hcls := (hK.1 4 (RX4, TX4, pnF 4) rfl).2
  obtain ⟨kA, comp, k1, k2, k3, -⟩ := (hK.2 3 (g.2.2.1 3, .object "PaperKinds$Sheet") rfl).2
  have hcomp : comp = g.1 4 := Option.some.inj (k3.symm.trans hcls.1)
  subst hcomp
  obtain ⟨kC, hkC, -⟩ := hcls.2
  have hi := p_cl (Nat.lt_trans hj hN)
  have h0 : ¬ Int32.ofInt (j : Int) < 0 := fun q => p_vin hj hN (Or.inl q)
  have hA : H[pad g a]? = some (arrV (g.2.2.1 3) N (fun q => va_rf ((mR M a q).map (pad g)))) := hR.1 a _ (pwd_at hs)
  refine W.aast C.1 C.2.1 hA (fun q h => by cases h) (fun h => by cases h) k1 k2 rfl hkC ⟨h0, by show _ < (arrV _ _ _).slots.size; rw [arrV_size, hi]; exact hj⟩ g1 (fun q h => by rw [g3] at h; cases h) (by rw [g2]; exact hkC) (by rw [g2]; exact va_assign hcls) rfl rfl hd fun H1 e z oq => ?_
  refine kk H1 _ ls (pRel_set hR hs (fun b sh hb => stR_o b sh hb) ?_ z oq) (hS.put z oq (pA_at hR hs)) hl
  show H1[pad g a]? = some (arrV (g.2.2.1 3) N (fun q => va_rf ((mR (stR M a j b) a q).map (pad g))))
  rw [e, arrV_store, hi]
  congr 2
  funext q
  by_cases hq : q = j
  · subst hq; simp [updV, mR, stR, va_rf]
  · simp [updV, mR, stR, hq]
theorem e_aaload4 (C : pCx g y cc nL ret d k n X) {a N b : Nat} {z : Int} (hd : decode cc pc = .ok (.aaload, 1)) (hs : S[a]? = some (.inr (4, N))) (j : Nat) (hz : z = (j : Int)) (hj : j < N) (hb : mR M a j = some b) (kk : pE g nL X Qf S M cs sl (pc + 1) L (.inr (.inr b) :: st)) (hN : N < 2147483648 := by first | decide | omega) : pE g nL X Qf S M cs sl pc L (.inl z :: .inr (.inr a) :: st) := by
  obtain ⟨p, l, e, R, s, m, args, below, meth, c⟩ := X
  intro H locs ls hR hS hl
  subst hz
  refine va_aldq C.1 C.2.1 C.2.2.2.2.2.1 hR.1 a 4 (pwd_at hs) rfl (p_vin hj hN) hd ?_
  rw [p_cl (Nat.lt_trans hj hN), hb]
  exact kk H locs ls hR hS hl
theorem e_aastore4 (C : pCx g y cc nL ret d k n X) {a N b : Nat} {z : Int} (hd : decode cc pc = .ok (.aastore, 1)) (hs : S[a]? = some (.inr (4, N))) (hb : S[b]? = some (.inl 0)) (j : Nat) (hz : z = (j : Int)) (hj : j < N) (kk : pE g nL X Qf S (stR M a j b) cs sl (pc + 1) L st) (hN : N < 2147483648 := by first | decide | omega) : pE g nL X Qf S M cs sl pc L (.inr (.inr b) :: .inl z :: .inr (.inr a) :: st) := by
  obtain ⟨p, l, e, R, s, m, args, below, meth, c⟩ := X
  intro H locs ls hR hS hl
  subst hz
  have hK := C.2.2.2.2.2.1
  obtain ⟨r', hr', cellV, g1, g2, g3, -⟩ := hR.1 b _ (pwd_at hb)
  have hcls := (hK.1 0 (RX0, TX0, pnF 0) rfl).2
  obtain ⟨kA, comp, k1, k2, k3, -⟩ := (hK.2 4 (g.2.2.1 4, .object "PaperKinds$Kind") rfl).2
  have hcomp : comp = g.1 0 := Option.some.inj (k3.symm.trans hcls.1)
  subst hcomp
  obtain ⟨kC, hkC, -⟩ := hcls.2
  have hi := p_cl (Nat.lt_trans hj hN)
  have h0 : ¬ Int32.ofInt (j : Int) < 0 := fun q => p_vin hj hN (Or.inl q)
  have hA : H[pad g a]? = some (arrV (g.2.2.1 4) N (fun q => va_rf ((mR M a q).map (pad g)))) := hR.1 a _ (pwd_at hs)
  refine W.aast C.1 C.2.1 hA (fun q h => by cases h) (fun h => by cases h) k1 k2 rfl hkC ⟨h0, by show _ < (arrV _ _ _).slots.size; rw [arrV_size, hi]; exact hj⟩ g1 (fun q h => by rw [g3] at h; cases h) (by rw [g2]; exact hkC) (by rw [g2]; exact va_assign hcls) rfl rfl hd fun H1 e z oq => ?_
  refine kk H1 _ ls (pRel_set hR hs (fun b sh hb => stR_o b sh hb) ?_ z oq) (hS.put z oq (pA_at hR hs)) hl
  show H1[pad g a]? = some (arrV (g.2.2.1 4) N (fun q => va_rf ((mR (stR M a j b) a q).map (pad g))))
  rw [e, arrV_store, hi]
  congr 2
  funext q
  by_cases hq : q = j
  · subst hq; simp [updV, mR, stR, va_rf]
  · simp [updV, mR, stR, hq]
theorem e_iastore (C : pCx g y cc nL ret d k n X) {a N : Nat} {z v : Int} (hd : decode cc pc = .ok (.iastore, 1)) (hs : S[a]? = some (.inr (0, N))) (j : Nat) (hz : z = (j : Int)) (hj : j < N) (kk : pE g nL X Qf S (stI M a j v) cs sl (pc + 1) L st) (hN : N < 2147483648 := by first | decide | omega) : pE g nL X Qf S M cs sl pc L (.inl v :: .inl z :: .inr (.inr a) :: st) := by
  obtain ⟨p, l, e, R, s, m, args, below, meth, c⟩ := X
  intro H locs ls hR hS hl
  subst hz
  have hK := C.2.2.2.2.2.1
  have hi := p_cl (Nat.lt_trans hj hN)
  have hA : H[pad g a]? = some (arrV (g.2.2.1 0) N (fun q => .int (Int32.ofInt (mI M a q)))) := hR.1 a _ (pwd_at hs)
  refine W.iast C.1 C.2.1 hA ((hK.2 0 _ rfl).1 N (fun q => .int (Int32.ofInt (mI M a q)))) (fun q => by cases q) (by show ¬ (_ ∨ (arrV _ _ _).slots.size ≤ _); rw [arrV_size]; exact p_vin hj hN) rfl rfl hd fun H1 e z oq => ?_
  refine kk H1 _ ls (pRel_set hR hs (fun b sh hb => stI_o b sh hb) ?_ z oq) (hS.put z oq (pA_at hR hs)) hl
  show H1[pad g a]? = some (arrV (g.2.2.1 0) N (fun q => .int (Int32.ofInt (mI (stI M a j v) a q))))
  rw [e, arrV_store, hi]
  congr 2
  funext q
  by_cases hq : q = j
  · subst hq; simp [updV, mI, mL, stI, stL]
  · simp [updV, mI, mL, stI, stL, hq]
theorem e_bastore (C : pCx g y cc nL ret d k n X) {a N : Nat} {z v : Int} (hd : decode cc pc = .ok (.bastore, 1)) (hs : S[a]? = some (.inr (2, N))) (j : Nat) (hz : z = (j : Int)) (hj : j < N) (hv : v = 0 ∨ v = 1) (kk : pE g nL X Qf S (stI M a j v) cs sl (pc + 1) L st) (hN : N < 2147483648 := by first | decide | omega) : pE g nL X Qf S M cs sl pc L (.inl v :: .inl z :: .inr (.inr a) :: st) := by
  obtain ⟨p, l, e, R, s, m, args, below, meth, c⟩ := X
  intro H locs ls hR hS hl
  subst hz
  have hK := C.2.2.2.2.2.1
  have hi := p_cl (Nat.lt_trans hj hN)
  have hA : H[pad g a]? = some (arrV (g.2.2.1 2) N (fun q => .int (Int32.ofInt (mI M a q)))) := hR.1 a _ (pwd_at hs)
  refine W.zast C.1 C.2.1 hA ((hK.2 2 _ rfl).1 N (fun q => .int (Int32.ofInt (mI M a q)))) (fun q => by cases q) (by show ¬ (_ ∨ (arrV _ _ _).slots.size ≤ _); rw [arrV_size]; exact p_vin hj hN) rfl rfl hd fun H1 e z oq => ?_
  refine kk H1 _ ls (pRel_set hR hs (fun b sh hb => stI_o b sh hb) ?_ z oq) (hS.put z oq (pA_at hR hs)) hl
  show H1[pad g a]? = some (arrV (g.2.2.1 2) N (fun q => .int (Int32.ofInt (mI (stI M a j v) a q))))
  rw [e, arrV_store, hi]
  congr 2
  funext q
  by_cases hq : q = j
  · subst hq; rcases hv with rfl | rfl <;> simp [updV, mI, stI, narrow] <;> decide +kernel
  · simp [updV, mI, mL, stI, stL, hq]
theorem e_lastore (C : pCx g y cc nL ret d k n X) {a N : Nat} {z v : Int} (hd : decode cc pc = .ok (.lastore, 1)) (hs : S[a]? = some (.inr (1, N))) (j : Nat) (hz : z = (j : Int)) (hj : j < N) (kk : pE g nL X Qf S (stL M a j v) cs sl (pc + 1) L st) (hN : N < 2147483648 := by first | decide | omega) : pE g nL X Qf S M cs sl pc L (.inr (.inl v) :: .inl z :: .inr (.inr a) :: st) := by
  obtain ⟨p, l, e, R, s, m, args, below, meth, c⟩ := X
  intro H locs ls hR hS hl
  subst hz
  have hK := C.2.2.2.2.2.1
  have hi := p_cl (Nat.lt_trans hj hN)
  have hA : H[pad g a]? = some (arrV (g.2.2.1 1) N (fun q => .long (Int64.ofInt (mL M a q)))) := hR.1 a _ (pwd_at hs)
  refine W.last C.1 C.2.1 hA ((hK.2 1 _ rfl).1 N (fun q => .long (Int64.ofInt (mL M a q)))) (fun q => by cases q) (by show ¬ (_ ∨ (arrV _ _ _).slots.size ≤ _); rw [arrV_size]; exact p_vin hj hN) rfl rfl hd fun H1 e z oq => ?_
  refine kk H1 _ ls (pRel_set hR hs (fun b sh hb => stL_o b sh hb) ?_ z oq) (hS.put z oq (pA_at hR hs)) hl
  show H1[pad g a]? = some (arrV (g.2.2.1 1) N (fun q => .long (Int64.ofInt (mL (stL M a j v) a q))))
  rw [e, arrV_store, hi]
  congr 2
  funext q
  by_cases hq : q = j
  · subst hq; simp [updV, mI, mL, stI, stL]
  · simp [updV, mI, mL, stI, stL, hq]
theorem e_alen (C : pCx g y cc nL ret d k n X) {a t N : Nat} (hd : decode cc pc = .ok (.arraylength, 1)) (hs : S[a]? = some (.inr (t, N))) (ht : t < 5) (kk : pE g nL X Qf S M cs sl (pc + 1) L (.inl (N : Int) :: st)) : pE g nL X Qf S M cs sl pc L (.inr (.inr a) :: st) := by
  obtain ⟨p, l, e, R, s, m, args, below, meth, c⟩ := X
  intro H locs ls hR hS hl
  obtain ⟨ty, hty⟩ : ∃ ty, (ptys g)[t]? = some (g.2.2.1 t, ty) := by
    match t, ht with
    | 0, _ => exact ⟨_, rfl⟩
    | 1, _ => exact ⟨_, rfl⟩
    | 2, _ => exact ⟨_, rfl⟩
    | 3, _ => exact ⟨_, rfl⟩
    | 4, _ => exact ⟨_, rfl⟩
  exact va_alen C.1 C.2.1 C.2.2.2.2.2.1 hR.1 a t (pwd_at hs) hty (i32_nI N).symm hd (kk H locs ls hR hS hl)
theorem e_units (C : pCx g y cc nL ret d k n X) {z : Int} (hd : decode cc pc = .ok (.laload, 1)) (j : Nat) (hz : z = (j : Int)) (hj : j < 8) (kk : pE g nL X Qf S M cs sl (pc + 1) L (.inr (.inl (17 ^ (7 - j))) :: st)) : pE g nL X Qf S M cs sl pc L (.inl z :: .inr (.inr 1000001) :: st) := by
  obtain ⟨p, l, e, R, s, m, args, below, meth, c⟩ := X
  intro H locs ls hR hS hl
  subst hz
  exact va_tl C.1 C.2.1 C.2.2.2.2.2.2.1.2 hS (p_vin hj (by decide)) (v := .long (Int64.ofInt (17 ^ (7 - j)))) (by rw [p_cl (by omega)]) hd (kk H locs ls hR hS hl)
theorem e_getsO (C : pCx g y cc nL ret d k n X) {i : Nat} (hd : decode cc pc = .ok (.getstatic i, 3)) (hf : Cond.fieldLink y.cls i "PaperKinds" "BOX_UNITS" "[J" ∈ pgood) (kk : pE g nL X Qf S M cs sl (pc + 3) L (.inr (.inr 1000001) :: st)) : pE g nL X Qf S M cs sl pc L st := by
  obtain ⟨p, l, e, R, s, m, args, below, meth, c⟩ := X
  intro H locs ls hR hS hl
  exact va_gets C.1 C.2.1 C.2.2.2.2.2.2.1.1 hS C.2.2.2.1 (C.2.2.2.2.1 _ hf) (fun _ h => h) hd (kk H locs ls hR hS hl)
theorem e_getsN (C : pCx g y cc nL ret d k n X) (hy : y.cls = "PaperKinds$Layer") (hd : decode cc pc = .ok (.getstatic 109, 3)) (kk : pE g nL X Qf S M cs sl (pc + 3) L (.inr (.inr 1000001) :: st)) : pE g nL X Qf S M cs sl pc L st := by
  obtain ⟨p, l, e, R, s, m, args, below, meth, c⟩ := X
  intro H locs ls hR hS hl
  exact va_getsN C.1 C.2.1 C.2.2.2.2.2.2.1.1 hS (hy ▸ C.2.2.2.1) (va_Nw.use rfl C.2.2.2.2.2.2.2.1.2.1) (fun _ h => h) hd (kk H locs ls hR hS hl)
end PM
