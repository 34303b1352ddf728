/-! ===== a kind's data depends on its own pages alone ===== -/
def sameK (G G' : pPg) (T T' : Nat → Int) (k : Int) : Prop := ∀ q, q < 16 → (T q = k ↔ T' q = k) ∧ (T q = k → G.1 q = G'.1 q ∧ G.2 q = G'.2 q)
theorem b01_iff {a b : Prop} [Decidable a] [Decidable b] (h : a ↔ b) : b01 a = b01 b := by unfold b01; by_cases ha : a <;> simp [ha, h.mp, h] <;> simp_all
theorem sameK_ix {G G' : pPg} {T T' : Nat → Int} {k : Int} (h : sameK G G' T T' k) {q : Nat} (hq : q < 16) (hT : T q = k) (c : Int) : ixC G q c = ixC G' q c := by
  unfold ixC; rw [((h q hq).2 hT).1, ((h q hq).2 hT).2]
theorem sameK_on {G G' : pPg} {T T' : Nat → Int} {k : Int} (h : sameK G G' T T' k) {q : Nat} (hq : q < 16) (c : Int) : onK G T k c q = true ↔ onK G' T' k c q = true := by
  unfold onK
  rw [decide_eq_true_iff, decide_eq_true_iff]
  constructor
  · rintro ⟨a, b⟩
    exact ⟨(h q hq).1.mp a, by rw [← sameK_ix h hq a]; exact b⟩
  · rintro ⟨a, b⟩
    have a' := (h q hq).1.mpr a
    exact ⟨a', by rw [sameK_ix h hq a']; exact b⟩
theorem sameK_T {G G' : pPg} {T T' : Nat → Int} {k : Int} (h : sameK G G' T T' k) : kTn T k = kTn T' k := sg_congr (fun q hq => b01_iff (h q hq).1)
theorem sameK_n {G G' : pPg} {T T' : Nat → Int} {k : Int} (h : sameK G G' T T' k) (c : Int) : knC G T k c = knC G' T' k c := sg_congr (fun q hq => b01_iff (sameK_on h hq c))
theorem sameK_X {G G' : pPg} {T T' : Nat → Int} {k : Int} (h : sameK G G' T T' k) (c : Int) : cvX G T k c = cvX G' T' k c := funext (fun t => sg_congr (fun q hq => b01_iff (by
  constructor
  · rintro ⟨a, b⟩
    have hT := (of_decide_eq_true a).1
    exact ⟨(sameK_on h hq c).mp a, by rw [← sameK_ix h hq hT, ← ((h q hq).2 hT).2]; exact b⟩
  · rintro ⟨a, b⟩
    have a' := (sameK_on h hq c).mpr a
    have hT := (of_decide_eq_true a').1
    exact ⟨a', by rw [sameK_ix h hq hT, ((h q hq).2 hT).2]; exact b⟩)))
theorem sameK_Y {G G' : pPg} {T T' : Nat → Int} {k : Int} (h : sameK G G' T T' k) (c : Int) : cvY G T k c = cvY G' T' k c := funext (fun t => sg_congr (fun q hq => b01_iff (by
  constructor
  · rintro ⟨a, b⟩
    have hT := (of_decide_eq_true a).1
    exact ⟨(sameK_on h hq c).mp a, by rw [← sameK_ix h hq hT, ← ((h q hq).2 hT).2]; exact b⟩
  · rintro ⟨a, b⟩
    have a' := (sameK_on h hq c).mpr a
    have hT := (of_decide_eq_true a').1
    exact ⟨a', by rw [sameK_ix h hq hT, ((h q hq).2 hT).2]; exact b⟩)))
theorem sameK_sp {G G' : pPg} {T T' : Nat → Int} {k : Int} (h : sameK G G' T T' k) (c : Int) : isSp G T k c = isSp G' T' k c := by unfold isSp; rw [sameK_n h, sameK_T h]
theorem sameK_spc {G G' : pPg} {T T' : Nat → Int} {k : Int} (h : sameK G G' T T' k) : ∀ c, spc G T k c = spc G' T' k c
  | 0 => rfl
  | c + 1 => by simp only [spc]; rw [sameK_spc h c, sameK_sp h]
theorem isKd_same {G G' : pPg} {T T' : Nat → Int} {k tot : Int} {n : Nat} {Z : pS} (h : sameK G G' T T' k) (hk : isKd G T k tot n Z) : isKd G' T' k tot n Z := by
  refine ⟨by rw [← sameK_T h]; exact hk.1, by rw [← sameK_spc h]; exact hk.2.1, fun e h1 h2 h3 => ?_⟩
  have := hk.2.2 e h1 h2 (by rw [sameK_sp h]; exact h3)
  rw [sameK_spc h, sameK_X h, sameK_Y h, sameK_n h, sameK_T h] at this
  exact this
/-! ===== cell 0's own numbers ===== -/
def sam0 (M N : pMem) : Prop := (∀ b j, b ≠ 0 → mI N b j = mI M b j) ∧ (∀ b j, mL N b j = mL M b j) ∧ ∀ b j, mR N b j = mR M b j
theorem sam0_row {M N : pMem} (h : sam0 M N) {b : Nat} (hb : b ≠ 0) : mI N b = mI M b := funext (fun j => h.1 b j hb)
theorem sam0_wt {M N : pMem} (h : sam0 M N) : wtC N = wtC M := by unfold wtC; rw [sam0_row h (by decide)]
theorem sam0_shB {M N : pMem} (h : sam0 M N) (a : Nat) : shB N a = shB M a := by unfold shB; rw [sam0_row h (by omega), sam0_row h (by omega), sam0_row h (by omega)]
theorem sam0_shS {M N : pMem} (h : sam0 M N) (a : Nat) : shS N a = shS M a := by unfold shS; rw [sam0_row h (by omega), sam0_row h (by omega), sam0_row h (by omega), sam0_row h (by omega)]
theorem sam0_pg {M N : pMem} (h : sam0 M N) : pgC N = pgC M := by
  unfold pgC
  have e1 : (fun p => (mI N (38 + 5 * p) 4).toNat) = (fun p => (mI M (38 + 5 * p) 4).toNat) := funext (fun p => by rw [sam0_row h (by omega)])
  have e2 : (fun p => shB N (38 + 5 * p)) = (fun p => shB M (38 + 5 * p)) := funext (fun p => sam0_shB h _)
  rw [e1, e2]
theorem JC_sam0 {M N : pMem} (hJ : JC M) (h : sam0 M N) (h12 : 0 ≤ mI N 0 12 ∧ mI N 0 12 ≤ 16) (hle : mI M 0 12 ≤ mI N 0 12) (hb : (0 ≤ mI N 0 13 ∧ mI N 0 13 ≤ 1000) ∧ (0 ≤ mI N 0 14 ∧ mI N 0 14 ≤ 1000) ∧ (0 ≤ mI N 0 15 ∧ mI N 0 15 ≤ 1000)) : JC N := by
  obtain ⟨h1, h2, h3, h4, h5, h6, h7, h8, h9, h10⟩ := hJ
  have ens : ∀ a, nSp N a = nSp M a := fun a => by unfold nSp; rw [sam0_row h (by omega)]
  have eck : ∀ a p v, ckOk N a p v ↔ ckOk M a p v := fun a p v => by unfold ckOk; rw [sam0_wt h, sam0_pg h, ens, sam0_shB h, sam0_shS h]
  have enr : ∀ p q v, nrOk N p q v ↔ nrOk M p q v := fun p q v => by unfold nrOk; rw [sam0_wt h, sam0_pg h, sam0_shB h, sam0_shS h]
  refine ⟨fun a i b hb => (h.2.2 a i).trans (h1 a i b hb), ?_, by rw [sam0_wt h]; exact h3, h12, fun p hp => by rw [sam0_row h (by decide)]; exact h5 p hp, fun p hp hq => by rw [sam0_pg h, sam0_row h (by decide)]; exact h6 p hp (by omega), hb, fun p i hp hi => ?_, fun k hk => ⟨?_, ?_⟩, fun p q hp hq => ?_⟩
  · unfold pgM; rw [sam0_pg h]; exact ⟨fun p hp => by rw [sam0_row h (by omega)]; exact h2.1 p hp, h2.2⟩
  · rw [sam0_pg h] at hi; rw [sam0_row h (by omega)]; exact h8 p i hp hi
  · obtain ⟨k1, k2, k3, k4, k5⟩ := (h9 k hk).1
    unfold kdOk
    rw [ens, sam0_shS h, sam0_row h (by omega), sam0_row h (by omega)]
    exact ⟨k1, k2, k3, k4, fun p hp => by rw [eck, h.2.1]; exact k5 p hp⟩
  · rw [sam0_pg h, sam0_row h (by decide), ens, sam0_shS h, sam0_row h (by omega)]; exact (h9 k hk).2
  · rw [enr, sam0_row h (by decide)]; exact h10 p q hp hq
theorem sam0_st (M : pMem) (j : Nat) (v : Int) : sam0 M (stI M 0 j v) := ⟨fun b i hb => stI_n _ _ (Or.inl hb), fun _ _ => rfl, fun _ _ => rfl⟩
theorem sam0_tr {M N R : pMem} (h : sam0 M N) (h2 : sam0 N R) : sam0 M R := ⟨fun b j hb => (h2.1 b j hb).trans (h.1 b j hb), fun b j => (h2.2.1 b j).trans (h.2.1 b j), fun b j => (h2.2.2 b j).trans (h.2.2 b j)⟩
theorem c_page {g : pG} {M : pMem}   (hJ : JC M) : pCn g 1 0 0 yX5_page cX5_page 1 (some .int) SH SH M [.inr (.inr 0)] (fun r M' => (mI M 0 12 < 16 → r = some (.inl (mI M 0 12)) ∧ M' = stI M 0 12 (mI M 0 12 + 1) ∧ JC M') ∧ (¬ mI M 0 12 < 16 → r = some (.inl (-1)) ∧ M' = M)) := by
  refine pCn_intro mt_X5_page (fun X C => ?_)
  have hW := hJ.1
  have hn := hJ.2.2.2.1
  have hkr := JC_kr hJ
  have hbr := JC_br hJ
  show pE g 1 X _ SH M 0 0 0 [some (.inr (.inr 0))] []
  refine e_aload_n C dX5_page_0 rfl ?_
  refine e_getI C f_X5_66 sh_0 dX5_page_1 ?_
  refine e_bipush C dX5_page_4 ?_
  refine e_icmp_lt C (tgt := 11) dX5_page_6 (by decide) (by omega) (by omega) (fun h_6 => ?_) (fun h_6 => ?_)
  · refine e_aload_n C dX5_page_11 rfl ?_
    refine e_dup C dX5_page_12 ?_
    refine e_getI C f_X5_66 sh_0 dX5_page_13 ?_
    refine e_iconst C dX5_page_16 ?_
    refine e_iadd C dX5_page_17 ?_
    refine e_putI C f_X5_66 sh_0 (hd := dX5_page_18) (hfin := (fun CC T h => by obtain ⟨h1, -⟩ := h; cases h1; rfl)) ?_
    refine e_aload_n C dX5_page_21 rfl ?_
    refine e_getI C f_X5_66 sh_0 dX5_page_22 ?_
    rw [stI_s]
    refine e_iconst C dX5_page_25 ?_
    refine e_isub C dX5_page_26 ?_
    exact e_ireturn C dX5_page_27 ⟨fun _ => ⟨by rw [Int.add_sub_cancel], rfl, JC_sam0 hJ (sam0_st M 12 _) (by rw [stI_s]; omega) (by rw [stI_s]; omega) (by rw [stI_n _ _ (by decide), stI_n _ _ (by decide), stI_n _ _ (by decide)]; exact hJ.2.2.2.2.2.2.1)⟩, fun z => absurd h_6 z⟩
  · refine e_iconst C dX5_page_9 ?_
    exact e_ireturn C dX5_page_10 ⟨fun z => absurd z (by omega), fun _ => ⟨rfl, rfl⟩⟩
theorem c_bounds {g : pG} {M : pMem}  {l : Int} {v : Int} {h : Int} (hi_l : -2147483648 ≤ l ∧ l < 2147483648) (hi_v : -2147483648 ≤ v ∧ v < 2147483648) (hi_h : -2147483648 ≤ h ∧ h < 2147483648) (hJ : JC M) : pCn g 2 0 0 yX5_bounds cX5_bounds 4 (some .boolean) SH SH M [.inr (.inr 0), .inl l, .inl v, .inl h] (fun r M' => (((0 ≤ l ∧ l ≤ 1000) ∧ (0 ≤ v ∧ v ≤ 1000) ∧ (0 ≤ h ∧ h ≤ 1000)) → r = some (.inl 1) ∧ M' = stI (stI (stI M 0 13 l) 0 14 v) 0 15 h ∧ JC M') ∧ (¬ ((0 ≤ l ∧ l ≤ 1000) ∧ (0 ≤ v ∧ v ≤ 1000) ∧ (0 ≤ h ∧ h ≤ 1000)) → r = some (.inl 0) ∧ M' = M)) := by
  refine pCn_intro mt_X5_bounds (fun X C => ?_)
  have hW := hJ.1
  have hn := hJ.2.2.2.1
  have hkr := JC_kr hJ
  have hbr := JC_br hJ
  show pE g 4 X _ SH M 0 0 0 [some (.inr (.inr 0)), some (.inl l), some (.inl v), some (.inl h)] []
  refine e_iload_n C dX5_bounds_0 rfl ?_
  refine e_iconst C dX5_bounds_1 ?_
  refine e_sipush C dX5_bounds_2 ?_
  refine e_callS C (c_isIn (v := l) (a := 0) (b := 1000) (by omega) (by omega) (by omega)) mt_X5_isIn s_X5_89 dX5_bounds_5 (fun rr5 Mq5 hq5 => ?_)
  obtain ⟨rfl, hMq5⟩ := hq5
  subst Mq5
  dsimp only [Option.toList_some, List.singleton_append]
  refine e_if_eq C (tgt := 33) dX5_bounds_8 (by decide) (by split <;> omega) (fun h_8 => ?_) (fun h_8 => ?_)
  · have b8 := ite0.mp h_8
    refine e_iconst C dX5_bounds_33 ?_
    exact e_zreturn C dX5_bounds_34 (Or.inl rfl) ⟨fun z => by exfalso; first | exact b8 z.1 | exact b19 z.2.1 | exact b30 z.2.2, fun _ => ⟨rfl, rfl⟩⟩
  · have b8 := ite1.mp h_8
    refine e_iload_n C dX5_bounds_11 rfl ?_
    refine e_iconst C dX5_bounds_12 ?_
    refine e_sipush C dX5_bounds_13 ?_
    refine e_callS C (c_isIn (v := v) (a := 0) (b := 1000) (by omega) (by omega) (by omega)) mt_X5_isIn s_X5_89 dX5_bounds_16 (fun rr16 Mq16 hq16 => ?_)
    obtain ⟨rfl, hMq16⟩ := hq16
    subst Mq16
    dsimp only [Option.toList_some, List.singleton_append]
    refine e_if_eq C (tgt := 33) dX5_bounds_19 (by decide) (by split <;> omega) (fun h_19 => ?_) (fun h_19 => ?_)
    · have b19 := ite0.mp h_19
      refine e_iconst C dX5_bounds_33 ?_
      exact e_zreturn C dX5_bounds_34 (Or.inl rfl) ⟨fun z => by exfalso; first | exact b8 z.1 | exact b19 z.2.1 | exact b30 z.2.2, fun _ => ⟨rfl, rfl⟩⟩
    · have b19 := ite1.mp h_19
      refine e_iload_n C dX5_bounds_22 rfl ?_
      refine e_iconst C dX5_bounds_23 ?_
      refine e_sipush C dX5_bounds_24 ?_
      refine e_callS C (c_isIn (v := h) (a := 0) (b := 1000) (by omega) (by omega) (by omega)) mt_X5_isIn s_X5_89 dX5_bounds_27 (fun rr27 Mq27 hq27 => ?_)
      obtain ⟨rfl, hMq27⟩ := hq27
      subst Mq27
      dsimp only [Option.toList_some, List.singleton_append]
      refine e_if_ne C (tgt := 35) dX5_bounds_30 (by decide) (by split <;> omega) (fun h_30 => ?_) (fun h_30 => ?_)
      · have b30 := ite1.mp h_30
        refine e_aload_n C dX5_bounds_35 rfl ?_
        refine e_iload_n C dX5_bounds_36 rfl ?_
        refine e_putI C f_X5_70 sh_0 (hd := dX5_bounds_37) (hfin := (fun CC T h => by obtain ⟨h1, -⟩ := h; cases h1; rfl)) ?_
        refine e_aload_n C dX5_bounds_40 rfl ?_
        refine e_iload_n C dX5_bounds_41 rfl ?_
        refine e_putI C f_X5_73 sh_0 (hd := dX5_bounds_42) (hfin := (fun CC T h => by obtain ⟨h1, -⟩ := h; cases h1; rfl)) ?_
        refine e_aload_n C dX5_bounds_45 rfl ?_
        refine e_iload_n C dX5_bounds_46 rfl ?_
        refine e_putI C f_X5_76 sh_0 (hd := dX5_bounds_47) (hfin := (fun CC T h => by obtain ⟨h1, -⟩ := h; cases h1; rfl)) ?_
        refine e_iconst C dX5_bounds_50 ?_
        exact e_zreturn C dX5_bounds_51 (Or.inr rfl) ⟨fun _ => ⟨rfl, rfl, JC_sam0 hJ (sam0_tr (sam0_st M 13 l) (sam0_tr (sam0_st _ 14 v) (sam0_st _ 15 h))) (by rw [stI_n _ _ (by decide), stI_n _ _ (by decide), stI_n _ _ (by decide)]; exact hn) (by rw [stI_n _ _ (by decide), stI_n _ _ (by decide), stI_n _ _ (by decide)]; exact Int.le_refl _) (by rw [stI_n _ _ (by decide), stI_n _ _ (by decide), stI_s, stI_n _ _ (by decide), stI_s, stI_s]; exact ⟨b8, b19, b30⟩)⟩, fun z => absurd ⟨b8, b19, b30⟩ z⟩
      · have b30 := fun z => h_30 (ite1.mpr z)
        refine e_iconst C dX5_bounds_33 ?_
        exact e_zreturn C dX5_bounds_34 (Or.inl rfl) ⟨fun z => by exfalso; first | exact b8 z.1 | exact b19 z.2.1 | exact b30 z.2.2, fun _ => ⟨rfl, rfl⟩⟩
