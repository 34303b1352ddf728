/-! ===== the constructors: cells one after the other, as SH has them ===== -/
def SHp (n : Nat) : List pShp := SH.take n
theorem shp_lt {a : Nat} {s : pShp} (h : SH[a]? = some s) : a < 180 := (List.getElem?_eq_some_iff.mp h).1
theorem shp_len {n : Nat} (h : n ≤ 180) : (SHp n).length = n := by
  unfold SHp; rw [List.length_take]; exact Nat.min_eq_left h
theorem shp_at {a n : Nat} {s : pShp} (h : SH[a]? = some s) (hn : a < n) : (SHp n)[a]? = some s := by
  unfold SHp; rw [List.getElem?_take, if_pos hn]; exact h
theorem shp_sn {n : Nat} {s : pShp} (h : SH[n]? = some s) : SHp n ++ [s] = SHp (n + 1) := by
  unfold SHp; rw [List.take_succ, h]; rfl
theorem shp_180 : SHp 180 = SH := List.take_of_length_le (Nat.le_of_eq rfl)
def PRl : List (Nat × Nat) := [(999, 999), (0, 0), (0, 1), (0, 2), (0, 3), (4, 9), (4, 10), (4, 11), (4, 12), (4, 13), (4, 14), (4, 15), (4, 16), (4, 17), (4, 18), (0, 4), (15, 0), (15, 1), (15, 2), (0, 5), (0, 6), (0, 7), (0, 8), (22, 0), (23, 0), (23, 1), (23, 2), (23, 3), (22, 1), (0, 9), (29, 0), (30, 0), (30, 1), (30, 2), (30, 3), (29, 1), (0, 10), (0, 11), (1, 0), (38, 0), (38, 1), (38, 2), (38, 3), (1, 1), (43, 0), (43, 1), (43, 2), (43, 3), (1, 2), (48, 0), (48, 1), (48, 2), (48, 3), (1, 3), (53, 0), (53, 1), (53, 2), (53, 3), (1, 4), (58, 0), (58, 1), (58, 2), (58, 3), (1, 5), (63, 0), (63, 1), (63, 2), (63, 3), (1, 6), (68, 0), (68, 1), (68, 2), (68, 3), (1, 7), (73, 0), (73, 1), (73, 2), (73, 3), (1, 8), (78, 0), (78, 1), (78, 2), (78, 3), (1, 9), (83, 0), (83, 1), (83, 2), (83, 3), (1, 10), (88, 0), (88, 1), (88, 2), (88, 3), (1, 11), (93, 0), (93, 1), (93, 2), (93, 3), (1, 12), (98, 0), (98, 1), (98, 2), (98, 3), (1, 13), (103, 0), (103, 1), (103, 2), (103, 3), (1, 14), (108, 0), (108, 1), (108, 2), (108, 3), (1, 15), (113, 0), (113, 1), (113, 2), (113, 3), (3, 0), (118, 0), (119, 0), (119, 1), (119, 2), (119, 3), (118, 1), (3, 1), (125, 0), (126, 0), (126, 1), (126, 2), (126, 3), (125, 1), (3, 2), (132, 0), (133, 0), (133, 1), (133, 2), (133, 3), (132, 1), (3, 3), (139, 0), (140, 0), (140, 1), (140, 2), (140, 3), (139, 1), (3, 4), (146, 0), (147, 0), (147, 1), (147, 2), (147, 3), (146, 1), (999, 999), (153, 1), (153, 2), (153, 3), (153, 4), (153, 5), (153, 6), (153, 11), (153, 12), (153, 13), (153, 14), (153, 15), (153, 16), (153, 18), (153, 19), (153, 20), (153, 22), (153, 23), (153, 24), (153, 25), (153, 26), (153, 27), (153, 31), (153, 32), (153, 33), (153, 37), (153, 38)]
theorem rt_tab : ((List.range 180).all (fun a => (List.range 40).all (fun i => match RT a i with
  | none => true
  | some b => decide (a < b) && decide (b < 180) && decide (PRl.getD b (0, 0) = (a, i))))) = true := by decide +kernel
theorem rt_row : (RTl.all (fun r => decide (r.length ≤ 40))) = true := by decide +kernel
theorem rt_in {a i b : Nat} (h : RT a i = some b) : a < 180 ∧ i < 40 := by
  have hl : RTl.length = 180 := rfl
  unfold RT at h
  by_cases ha : a < 180
  · refine ⟨ha, ?_⟩
    refine Classical.byContradiction (fun hi => ?_)
    have h1 := List.all_eq_true.mp rt_row (RTl[a]'(by omega)) (List.getElem_mem _)
    have h2 : (RTl[a]'(by omega)).length ≤ 40 := of_decide_eq_true h1
    rw [show RTl.getD a [] = RTl[a]'(by omega) by rw [List.getD_eq_getElem?_getD, List.getElem?_eq_getElem (by omega)]; rfl] at h
    rw [List.getD_eq_getElem?_getD, List.getElem?_eq_none (by omega)] at h
    simp at h
  · rw [show RTl.getD a [] = [] by rw [List.getD_eq_getElem?_getD, List.getElem?_eq_none (by omega)]; rfl] at h
    simp at h
theorem rt_all {a i b : Nat} (h : RT a i = some b) : a < b ∧ b < 180 ∧ PRl.getD b (0, 0) = (a, i) := by
  obtain ⟨ha, hi⟩ := rt_in h
  have h1 := List.all_eq_true.mp (List.all_eq_true.mp rt_tab a (List.mem_range.mpr ha)) i (List.mem_range.mpr hi)
  rw [h] at h1
  simp only [Bool.and_eq_true, decide_eq_true_eq] at h1
  exact ⟨h1.1.1, h1.1.2, h1.2⟩
/-- the references to cells below n stand, but for the pending ones -/
def pIv (n : Nat) (Pn : List Nat) (M : pMem) : Prop := ∀ a i b, RT a i = some b → b < n → b ∉ Pn → mR M a i = some b
section
variable {n : Nat} {Pn : List Nat} {M : pMem}
theorem w_new (h : pIv n Pn M) : pIv (n + 1) (n :: Pn) (zero M n) := fun a i b hr hb hp => by
  have h1 := rt_all hr
  have h2 : b ≠ n := fun z => hp (by rw [z]; exact List.mem_cons_self)
  have h3 : mR (zero M n) a i = mR M a i := by
    have : a ≠ n := by omega
    simp [mR, zero, this]
  rw [h3]
  exact h a i b hr (by omega) (fun z => hp (List.mem_cons_of_mem _ z))
theorem w_set {a0 j v : Nat} (h : pIv n (v :: Pn) M) (hr : RT a0 j = some v) : pIv n Pn (stR M a0 j v) := fun a i b hb hn hp => by
  by_cases e : b = v
  · subst e
    have h1 := (rt_all hb).2.2
    have h2 := (rt_all hr).2.2
    rw [h1] at h2
    cases h2
    exact stR_s _ _ _ _
  · have hne : a ≠ a0 ∨ i ≠ j := by
      refine Classical.byContradiction (fun z => ?_)
      have h1 : a = a0 := by omega
      have h2 : i = j := by omega
      subst h1; subst h2
      rw [hb] at hr
      exact e (Option.some.inj hr)
    rw [stR_n hne]
    exact h a i b hb hn (fun z => by
      rcases List.mem_cons.mp z with z | z
      · exact e z
      · exact hp z)
theorem w_I {a i : Nat} {v : Int} (h : pIv n Pn M) : pIv n Pn (stI M a i v) := h
theorem w_L {a i : Nat} {v : Int} (h : pIv n Pn M) : pIv n Pn (stL M a i v) := h
theorem w_21 {i v : Nat} (h : pIv n Pn M) : pIv n Pn (stR M 21 i v) := fun a j b hb hn hp => by
  by_cases e : a = 21
  · subst e; exact absurd ((rt_21 j).symm.trans hb) (by simp)
  · rw [stR_n (Or.inl e)]; exact h a j b hb hn hp
theorem w_drop {v : Nat} (h : pIv n (v :: Pn) M) (hv : PRl.getD v (0, 0) = (999, 999)) : pIv n Pn M := fun a i b hb hn hp => by
  refine h a i b hb hn (fun z => ?_)
  rcases List.mem_cons.mp z with z | z
  · subst z
    have h1 := rt_all hb
    rw [hv] at h1
    have h2 := (rt_in hb).1
    have h3 : (999 : Nat) = a := congrArg Prod.fst h1.2.2
    omega
  · exact hp z
end
theorem kW {n : Nat} {M : pMem} (h : pIv n [] M) (a i b : Nat) (hr : RT a i = some b) (hb : b < n := by decide) : mR M a i = some b := h a i b hr hb List.not_mem_nil
/-- numbers of cells below n stay -/
def kp (n : Nat) (M N : pMem) : Prop := ∀ b j, b < n → mI N b j = mI M b j ∧ mL N b j = mL M b j
section
variable {n : Nat} {M N R : pMem}
theorem kp_rf : kp n M M := fun _ _ _ => ⟨rfl, rfl⟩
theorem kp_tr (h : kp n M N) (h2 : kp n N R) : kp n M R := fun b j hb => ⟨(h2 b j hb).1.trans (h b j hb).1, (h2 b j hb).2.trans (h b j hb).2⟩
theorem kp_su {m : Nat} (h : kp n M N) (hm : m ≤ n) : kp m M N := fun b j hb => h b j (by omega)
theorem kp_z {L : Nat} (h : n ≤ L) : kp n M (zero M L) := fun b j hb => by
  have : b ≠ L := by omega
  simp [mI, mL, zero, this]
theorem kp_I {a i : Nat} {v : Int} (h : n ≤ a) : kp n M (stI M a i v) := fun b j hb => ⟨stI_n _ _ (by omega), rfl⟩
theorem kp_L {a i : Nat} {v : Int} (h : n ≤ a) : kp n M (stL M a i v) := fun b j hb => ⟨rfl, stL_n _ _ (by omega)⟩
theorem kp_R {a i v : Nat} : kp n M (stR M a i v) := fun _ _ _ => ⟨rfl, rfl⟩
end
section NW
variable {g : pG} {y : MethodName} {cc : ByteArray} {nL : Nat} {ret : Option FieldType} {d k n : Nat} {X : pX} {Qf : State → Prop} {M : pMem} {cs sl pc : Nat} {L : List (Option pV)} {st : List pV}
theorem n_I (C : pCx g y cc nL ret d k n X) {q N : Nat} {z : Int} (hsh : SH[q]? = some (.inr (0, N))) (hs : Cond.arrayClass .int ∈ pgood) (hd : decode cc pc = .ok (.newarray .int, 2)) (hz : z = (N : Int)) (hN : N ≤ 100000) (hk : cs + 1 ≤ k ∧ sl + N ≤ n) (kk : pE g nL X Qf (SHp (q + 1)) (zero M q) (cs + 1) (sl + N) (pc + 2) L (.inr (.inr q) :: st)) : pE g nL X Qf (SHp q) M cs sl pc L (.inl z :: st) := by
  have hq := shp_lt hsh
  have hl := shp_len (n := q) (by omega)
  refine e_newarrI C hs hd hz hN (by omega) hk ?_
  rw [shp_sn hsh, hl]; exact kk
theorem n_L (C : pCx g y cc nL ret d k n X) {q N : Nat} {z : Int} (hsh : SH[q]? = some (.inr (1, N))) (hs : Cond.arrayClass .long ∈ pgood) (hd : decode cc pc = .ok (.newarray .long, 2)) (hz : z = (N : Int)) (hN : N ≤ 100000) (hk : cs + 1 ≤ k ∧ sl + N ≤ n) (kk : pE g nL X Qf (SHp (q + 1)) (zero M q) (cs + 1) (sl + N) (pc + 2) L (.inr (.inr q) :: st)) : pE g nL X Qf (SHp q) M cs sl pc L (.inl z :: st) := by
  have hq := shp_lt hsh
  have hl := shp_len (n := q) (by omega)
  refine e_newarrL C hs hd hz hN (by omega) hk ?_
  rw [shp_sn hsh, hl]; exact kk
theorem n_Z (C : pCx g y cc nL ret d k n X) {q N : Nat} {z : Int} (hsh : SH[q]? = some (.inr (2, N))) (hs : Cond.arrayClass .boolean ∈ pgood) (hd : decode cc pc = .ok (.newarray .boolean, 2)) (hz : z = (N : Int)) (hN : N ≤ 100000) (hk : cs + 1 ≤ k ∧ sl + N ≤ n) (kk : pE g nL X Qf (SHp (q + 1)) (zero M q) (cs + 1) (sl + N) (pc + 2) L (.inr (.inr q) :: st)) : pE g nL X Qf (SHp q) M cs sl pc L (.inl z :: st) := by
  have hq := shp_lt hsh
  have hl := shp_len (n := q) (by omega)
  refine e_newarrZ C hs hd hz hN (by omega) hk ?_
  rw [shp_sn hsh, hl]; exact kk
theorem n_S (C : pCx g y cc nL ret d k n X) {q N : Nat} {i : Nat} {z : Int} (hsh : SH[q]? = some (.inr (3, N))) (hs : Cond.classLink y.cls i "PaperKinds$Sheet" ∈ pgood) (hd : decode cc pc = .ok (.anewarray i, 3)) (hz : z = (N : Int)) (hN : N ≤ 100000) (hk : cs + 1 ≤ k ∧ sl + N ≤ n) (kk : pE g nL X Qf (SHp (q + 1)) (zero M q) (cs + 1) (sl + N) (pc + 3) L (.inr (.inr q) :: st)) : pE g nL X Qf (SHp q) M cs sl pc L (.inl z :: st) := by
  have hq := shp_lt hsh
  have hl := shp_len (n := q) (by omega)
  refine e_anewS C hs hd hz hN (by omega) hk ?_
  rw [shp_sn hsh, hl]; exact kk
theorem n_K (C : pCx g y cc nL ret d k n X) {q N : Nat} {i : Nat} {z : Int} (hsh : SH[q]? = some (.inr (4, N))) (hs : Cond.classLink y.cls i "PaperKinds$Kind" ∈ pgood) (hd : decode cc pc = .ok (.anewarray i, 3)) (hz : z = (N : Int)) (hN : N ≤ 100000) (hk : cs + 1 ≤ k ∧ sl + N ≤ n) (kk : pE g nL X Qf (SHp (q + 1)) (zero M q) (cs + 1) (sl + N) (pc + 3) L (.inr (.inr q) :: st)) : pE g nL X Qf (SHp q) M cs sl pc L (.inl z :: st) := by
  have hq := shp_lt hsh
  have hl := shp_len (n := q) (by omega)
  refine e_anewK C hs hd hz hN (by omega) hk ?_
  rw [shp_sn hsh, hl]; exact kk
theorem n_new (C : pCx g y cc nL ret d k n X) {q i ci : Nat} {CC : String} {T : u_T} (hsh : SH[q]? = some (.inl ci)) (hcl : pCl ci CC T) (hdef : ∀ j, j < pnF ci → defaultValue (pty ci j) = pdv ci j) (hs : Cond.classLink y.cls i CC ∈ pgood ∧ Cond.instantiable CC (pnF ci) ∈ pgood ∧ Cond.initialized CC ∈ pgood) (hd : decode cc pc = .ok (.new i, 3)) (hk : cs + 1 ≤ k ∧ sl + pnF ci ≤ n) (kk : pE g nL X Qf (SHp (q + 1)) (zero M q) (cs + 1) (sl + pnF ci) (pc + 3) L (.inr (.inr q) :: st)) : pE g nL X Qf (SHp q) M cs sl pc L st := by
  have hq := shp_lt hsh
  have hl := shp_len (n := q) (by omega)
  refine e_new C hcl hdef hs hd (by omega) hk ?_
  rw [shp_sn hsh, hl]; exact kk
end NW
theorem k_forgetPage {g : pG} {M : pMem} {p : Nat} (hW : pIv 153 [] M) (hp : p < 16) :
    pCn g 1 0 0 yX5_forgetPage cX5_forgetPage 3 none (SHp 153) (SHp 153) M [.inr (.inr 0), .inl (p : Int)] (fun r M' => r = none ∧ fgt p M M') := by
  refine pCn_intro mt_X5_forgetPage (fun X C => ?_)
  have l2 : ∀ (N1 : pMem), ((∀ b j, mR N1 b j = mR M b j) ∧ (∀ b j, mI N1 b j = mI M b j) ∧ (∀ b j, mL N1 b j = mL M b j ∨ mL N1 b j = -1) ∧ ∀ k, k < 5 → mL N1 (118 + 7 * k + 6) p = -1) → ∀ (i : Nat) (f : Nat → Int), i ≤ 16 → ((∀ q r, q < 16 → r < 16 → f (q * 16 + r) = -1 ∨ f (q * 16 + r) = mI M 36 (q * 16 + r)) ∧ ∀ r, r < i → f (p * 16 + r) = -1 ∧ f (r * 16 + p) = -1) → pE g 3 X (pMQ g (SHp 153) (fun r M' => r = none ∧ fgt p M M') X 0 0) (SHp 153) (wrI N1 36 f) 0 0 29 [some (.inr (.inr 0)), some (.inl (p : Int)), some (.inl (i : Int))] [] := by
    rintro N1 ⟨n1, n2, n3, n4⟩
    have hW1 : pIv 153 [] N1 := fun a i b hb hl hp => (n1 a i).trans (hW a i b hb hl hp)
    refine p_for 16 _ _ ?_ ?_
    · rintro f ⟨f1, f2⟩
      refine e_iload_n C dX5_forgetPage_29 rfl ?_
      refine e_bipush C dX5_forgetPage_30 ?_
      refine e_icmp_ge C (tgt := 65) dX5_forgetPage_32 (by decide) (by omega) (by omega) (fun h_32 => ?_) (fun h_32 => by exfalso; omega)
      refine e_return C dX5_forgetPage_65 ⟨rfl, n1, fun b j hb => by rw [wrI_n _ _ _ hb]; exact n2 b j, fun q r hq hr => ?_, n3, n4⟩
      rw [wrI_s]
      by_cases e1 : q = p
      · subst e1; exact Or.inl (f2 r hr).1
      · by_cases e2 : r = p
        · subst e2; exact Or.inl (f2 q hq).2
        · rcases f1 q r hq hr with z | z
          · exact Or.inl z
          · exact Or.inr ⟨e1, e2, z⟩
    · rintro i f hi ⟨f1, f2⟩ ih
      refine e_iload_n C dX5_forgetPage_29 rfl ?_
      refine e_bipush C dX5_forgetPage_30 ?_
      refine e_icmp_ge C (tgt := 65) dX5_forgetPage_32 (by decide) (by omega) (by omega) (fun h_32 => by exfalso; omega) (fun h_32 => ?_)
      refine e_aload_n C dX5_forgetPage_35 rfl ?_
      refine e_getR C f_X5_60 (shp_at sh_0 (by decide)) (kW hW1 0 10 36 rfl) dX5_forgetPage_36 ?_
      refine e_iload_n C dX5_forgetPage_39 rfl ?_
      refine e_bipush C dX5_forgetPage_40 ?_
      refine e_imul C dX5_forgetPage_42 ?_
      refine e_iload_n C dX5_forgetPage_43 rfl ?_
      refine e_iadd C dX5_forgetPage_44 ?_
      refine e_iconst C dX5_forgetPage_45 ?_
      refine e_iastore C dX5_forgetPage_46 (shp_at sh_36 (by decide)) (p * 16 + i) (by omega) (by omega) ?_
      rw [stI_wr]
      refine e_aload_n C dX5_forgetPage_47 rfl ?_
      refine e_getR C f_X5_60 (shp_at sh_0 (by decide)) (kW hW1 0 10 36 rfl) dX5_forgetPage_48 ?_
      refine e_iload_n C dX5_forgetPage_51 rfl ?_
      refine e_bipush C dX5_forgetPage_52 ?_
      refine e_imul C dX5_forgetPage_54 ?_
      refine e_iload_n C dX5_forgetPage_55 rfl ?_
      refine e_iadd C dX5_forgetPage_56 ?_
      refine e_iconst C dX5_forgetPage_57 ?_
      refine e_iastore C dX5_forgetPage_58 (shp_at sh_36 (by decide)) (i * 16 + p) (by omega) (by omega) ?_
      rw [stI_wr]
      refine e_iinc C dX5_forgetPage_59 rfl ?_
      refine e_goto C (tgt := 29) dX5_forgetPage_62 (by decide) ?_
      refine ih _ ⟨fun q r hq hr => ?_, fun r hr => ?_⟩
      · by_cases e1 : q * 16 + r = i * 16 + p
        · rw [e1, up_s]; exact Or.inl rfl
        · rw [up_n e1]
          by_cases e2 : q * 16 + r = p * 16 + i
          · rw [e2, up_s]; exact Or.inl rfl
          · rw [up_n e2]; exact f1 q r hq hr
      · constructor
        · by_cases e1 : p * 16 + r = i * 16 + p
          · rw [e1, up_s]
          · rw [up_n e1]
            by_cases e2 : p * 16 + r = p * 16 + i
            · rw [e2, up_s]
            · rw [up_n e2]; exact (f2 r (by omega)).1
        · by_cases e1 : r * 16 + p = i * 16 + p
          · rw [e1, up_s]
          · rw [up_n e1]
            by_cases e2 : r * 16 + p = p * 16 + i
            · rw [e2, up_s]
            · rw [up_n e2]; exact (f2 r (by omega)).2
  have l1 : ∀ (k : Nat) (N : pMem), k ≤ 5 → ((∀ b j, mR N b j = mR M b j) ∧ (∀ b j, mI N b j = mI M b j) ∧ (∀ b j, mL N b j = mL M b j ∨ mL N b j = -1) ∧ ∀ i, i < k → mL N (118 + 7 * i + 6) p = -1) → pE g 3 X (pMQ g (SHp 153) (fun r M' => r = none ∧ fgt p M M') X 0 0) (SHp 153) N 0 0 2 [some (.inr (.inr 0)), some (.inl (p : Int)), some (.inl (k : Int))] [] := by
    refine p_for 5 _ _ ?_ ?_
    · rintro N ⟨n1, n2, n3, n4⟩
      refine e_iload_n C dX5_forgetPage_2 rfl ?_
      refine e_iconst C dX5_forgetPage_3 ?_
      refine e_icmp_ge C (tgt := 27) dX5_forgetPage_4 (by decide) (by omega) (by omega) (fun h_4 => ?_) (fun h_4 => by exfalso; omega)
      refine e_iconst C dX5_forgetPage_27 ?_
      refine e_istore_n C dX5_forgetPage_28 ?_
      exact pE_M (wrI_e N 36).symm (l2 N ⟨n1, n2, n3, n4⟩ 0 (mI N 36) (by omega) ⟨fun q r _ _ => Or.inr (n2 36 _), fun r hr => absurd hr (Nat.not_lt_zero r)⟩)
    · rintro k N hk ⟨n1, n2, n3, n4⟩ ih
      have hWN : pIv 153 [] N := fun a i b hb hl hp => (n1 a i).trans (hW a i b hb hl hp)
      refine e_iload_n C dX5_forgetPage_2 rfl ?_
      refine e_iconst C dX5_forgetPage_3 ?_
      refine e_icmp_ge C (tgt := 27) dX5_forgetPage_4 (by decide) (by omega) (by omega) (fun h_4 => by exfalso; omega) (fun h_4 => ?_)
      refine e_aload_n C dX5_forgetPage_7 rfl ?_
      refine e_getR C f_X5_21 (shp_at sh_0 (by decide)) (kW hWN 0 2 3 rfl) dX5_forgetPage_8 ?_
      refine e_iload_n C dX5_forgetPage_11 rfl ?_
      refine e_aaload4 C dX5_forgetPage_12 (shp_at sh_3 (by decide)) _ rfl (by omega) (kW hWN 3 k _ (rt_kind k hk).1 (by omega)) ?_
      refine e_getR C f_X5_214 (shp_at (sh_kind k hk).1 (by omega)) (kW hWN _ _ _ (rt_kind k hk).2.2.1 (by omega)) dX5_forgetPage_13 ?_
      refine e_iload_n C dX5_forgetPage_16 rfl ?_
      refine e_ldc2 C (-1) k_X5_218 dX5_forgetPage_17 ?_
      refine e_lastore C dX5_forgetPage_20 (shp_at (sh_kind k hk).2.2.2.2.2.2 (by omega)) _ rfl (by omega) ?_
      refine e_iinc C dX5_forgetPage_21 rfl ?_
      refine e_goto C (tgt := 2) dX5_forgetPage_24 (by decide) ?_
      refine ih _ ⟨n1, n2, fun b j => ?_, fun i hi => ?_⟩
      · by_cases e : b = 118 + 7 * k + 6 ∧ j = p
        · rw [e.1, e.2, stL_s]; exact Or.inr rfl
        · rw [stL_n _ _ (by omega)]; exact n3 b j
      · by_cases e : i = k
        · subst e; exact stL_s _ _ _ _
        · rw [stL_n _ _ (by omega)]; exact n4 i (by omega)
  show pE g 3 X _ (SHp 153) M 0 0 0 [some (.inr (.inr 0)), some (.inl (p : Int)), none] []
  refine e_iconst C dX5_forgetPage_0 ?_
  refine e_istore_n C dX5_forgetPage_1 ?_
  exact l1 0 M (by omega) ⟨fun _ _ => rfl, fun _ _ => rfl, fun _ _ => Or.inl rfl, fun i hi => absurd hi (Nat.not_lt_zero i)⟩
theorem k_forgetLayings {g : pG} {M : pMem} (hW : pIv 153 [] M) :
    pCn g 2 0 0 yX5_forgetLayings cX5_forgetLayings 2 none (SHp 153) (SHp 153) M [.inr (.inr 0)] (fun r M' => r = none ∧ fgA 16 M M') := by
  refine pCn_intro mt_X5_forgetLayings (fun X C => ?_)
  have l1 : ∀ (i : Nat) (N : pMem), i ≤ 16 → fgA i M N → pE g 2 X (pMQ g (SHp 153) (fun r M' => r = none ∧ fgA 16 M M') X 0 0) (SHp 153) N 0 0 2 [some (.inr (.inr 0)), some (.inl (i : Int))] [] := by
    refine p_for 16 _ _ ?_ ?_
    · rintro N hI
      refine e_iload_n C dX5_forgetLayings_2 rfl ?_
      refine e_bipush C dX5_forgetLayings_3 ?_
      refine e_icmp_ge C (tgt := 19) dX5_forgetLayings_5 (by decide) (by omega) (by omega) (fun h_5 => ?_) (fun h_5 => by exfalso; omega)
      exact e_return C dX5_forgetLayings_19 ⟨rfl, hI⟩
    · rintro i N hi ⟨n1, n2, n3, n4, n5⟩ ih
      have hWN : pIv 153 [] N := fun a i b hb hl hp => (n1 a i).trans (hW a i b hb hl hp)
      refine e_iload_n C dX5_forgetLayings_2 rfl ?_
      refine e_bipush C dX5_forgetLayings_3 ?_
      refine e_icmp_ge C (tgt := 19) dX5_forgetLayings_5 (by decide) (by omega) (by omega) (fun h_5 => by exfalso; omega) (fun h_5 => ?_)
      refine e_aload_n C dX5_forgetLayings_8 rfl ?_
      refine e_iload_n C dX5_forgetLayings_9 rfl ?_
      refine e_callV C (k_forgetPage (M := N) (p := i) hWN hi) mt_X5_forgetPage s_X5_104 dX5_forgetLayings_10 5 (shp_at sh_0 (by decide)) rfl (fun r M1 hq => ?_)
      obtain ⟨rfl, f1, f2, f3, f4, f5⟩ := hq
      dsimp only [Option.toList_none, List.nil_append]
      refine e_iinc C dX5_forgetLayings_13 rfl ?_
      refine e_goto C (tgt := 2) dX5_forgetLayings_16 (by decide) ?_
      refine ih M1 ⟨fun b j => (f1 b j).trans (n1 b j), fun b j hb => (f2 b j hb).trans (n2 b j hb), fun q r hq hr => ?_, fun b j => ?_, fun k p hk hp => ?_⟩
      · rcases f3 q r (by omega) hr with z | ⟨z1, z2, z3⟩
        · exact z
        · rw [z3]; exact n3 q r (by omega) hr
      · rcases f4 b j with z | z
        · rw [z]; exact n4 b j
        · exact Or.inr z
      · by_cases e : p = i
        · subst e; exact f5 k hk
        · rcases f4 (118 + 7 * k + 6) p with z | z
          · rw [z]; exact n5 k p hk (by omega)
          · exact z
  show pE g 2 X _ (SHp 153) M 0 0 0 [some (.inr (.inr 0)), none] []
  refine e_iconst C dX5_forgetLayings_0 ?_
  refine e_istore_n C dX5_forgetLayings_1 ?_
  exact l1 0 M (by omega) ⟨fun _ _ => rfl, fun _ _ _ => rfl, fun q r hq => absurd hq (Nat.not_lt_zero q), fun _ _ => Or.inl rfl, fun k p _ hp => absurd hp (Nat.not_lt_zero p)⟩
