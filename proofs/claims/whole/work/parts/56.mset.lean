/-! ===== the model's changes: page, box, tell, weights, bounds; touch, about ===== -/
theorem pgD_st {M : pMem} {a i : Nat} {v : Int} (h : a < 154 ∨ 157 < a) : pgD (stI M a i v) = pgD M := by
  unfold pgD
  rw [stI_rowN _ _ _ (by omega), stI_rowN _ _ _ (by omega), stI_rowN _ _ _ (by omega), stI_rowN _ _ _ (by omega)]
theorem wtD_st {M : pMem} {a i : Nat} {v : Int} (h : a ≠ 159) : wtD (stI M a i v) = wtD M := by
  unfold wtD; rw [stI_rowN _ _ _ (fun z => h z.symm)]
theorem pW_st {M : pMem} {a i : Nat} {v : Int} (h : pW M) : pW (stI M a i v) := h
theorem JD_tell {M : pMem} {p : Nat} {k : Int} (hJ : JD M) (hp : (p : Int) < mI M 153 0) (hk : -1 ≤ k ∧ k < 5) : JD (stI (stI M 158 p k) 153 10 0) := by
  obtain ⟨h1, h2, h3, h4, h5, h6, h7⟩ := hJ
  have hr : ∀ j, j ≠ 10 → mI (stI (stI M 158 p k) 153 10 0) 153 j = mI M 153 j := fun j hj => by rw [stI_n _ _ (Or.inr hj), stI_n _ _ (by omega)]
  refine ⟨pW_st (pW_st h1), by rw [hr 0 (by decide)]; exact h2, by rw [wtD_st (by decide), wtD_st (by decide)]; exact h3, by unfold bdD; rw [hr 7 (by decide), hr 8 (by decide), hr 9 (by decide)]; exact h4, ?_, ?_, Or.inl (stI_s _ _ _ _)⟩
  · unfold pgN; rw [pgD_st (by decide), pgD_st (by decide), stI_rowN _ _ _ (by decide), stI_rowN _ _ _ (by decide)]; exact h5
  · unfold tlD
    rw [hr 0 (by decide), stI_rowN _ _ _ (by decide), stI_row]
    refine ⟨fun q hq => ?_, fun q hq hq2 => ?_⟩
    · by_cases e : q = p
      · subst e; rw [up_s]; exact hk
      · rw [up_n e]; exact h6.1 q hq
    · rw [up_n (by omega)]; exact h6.2 q hq hq2
theorem JD_page {M : pMem} {n : Nat} (hJ : JD M) (hn : mI M 153 0 = (n : Int)) (hn16 : n < 16) : JD (stI (stI (stI (stI M 154 n 0) 158 n (-1)) 153 0 ((n : Int) + 1)) 153 10 0) := by
  obtain ⟨h1, h2, h3, h4, h5, h6, h7⟩ := hJ
  have hr : ∀ j, j ≠ 10 → j ≠ 0 → mI (stI (stI (stI (stI M 154 n 0) 158 n (-1)) 153 0 ((n : Int) + 1)) 153 10 0) 153 j = mI M 153 j := fun j hj hj0 => by rw [stI_n _ _ (Or.inr hj), stI_n _ _ (Or.inr hj0), stI_n _ _ (by omega), stI_n _ _ (by omega)]
  have h0 : mI (stI (stI (stI (stI M 154 n 0) 158 n (-1)) 153 0 ((n : Int) + 1)) 153 10 0) 153 0 = (n : Int) + 1 := by rw [stI_n _ _ (by omega), stI_s]
  have e154 : mI (stI (stI (stI (stI M 154 n 0) 158 n (-1)) 153 0 ((n : Int) + 1)) 153 10 0) 154 = up (mI M 154) n 0 := by rw [stI_rowN _ _ _ (by decide), stI_rowN _ _ _ (by decide), stI_rowN _ _ _ (by decide), stI_row]
  have e158 : mI (stI (stI (stI (stI M 154 n 0) 158 n (-1)) 153 0 ((n : Int) + 1)) 153 10 0) 158 = up (mI M 158) n (-1) := by rw [stI_rowN _ _ _ (by decide), stI_rowN _ _ _ (by decide), stI_row, stI_rowN _ _ _ (by decide)]
  have eo : ∀ p, p ≠ n → (pgD (stI (stI (stI (stI M 154 n 0) 158 n (-1)) 153 0 ((n : Int) + 1)) 153 10 0)).1 p = (pgD M).1 p := fun p hp => by
    show (mI (stI (stI (stI (stI M 154 n 0) 158 n (-1)) 153 0 ((n : Int) + 1)) 153 10 0) 154 p).toNat = _
    rw [e154, up_n hp]; rfl
  have es : (pgD (stI (stI (stI (stI M 154 n 0) 158 n (-1)) 153 0 ((n : Int) + 1)) 153 10 0)).1 n = 0 := by
    show (mI (stI (stI (stI (stI M 154 n 0) 158 n (-1)) 153 0 ((n : Int) + 1)) 153 10 0) 154 n).toNat = _
    rw [e154, up_s]; rfl
  have eR : ∀ b, b = 155 ∨ b = 156 ∨ b = 157 → mI (stI (stI (stI (stI M 154 n 0) 158 n (-1)) 153 0 ((n : Int) + 1)) 153 10 0) b = mI M b := fun b hb => by rw [stI_rowN _ _ _ (by omega), stI_rowN _ _ _ (by omega), stI_rowN _ _ _ (by omega), stI_rowN _ _ _ (by omega)]
  have e2 : (pgD (stI (stI (stI (stI M 154 n 0) 158 n (-1)) 153 0 ((n : Int) + 1)) 153 10 0)).2 = (pgD M).2 := by
    unfold pgD
    dsimp only
    rw [eR 155 (by decide), eR 156 (by decide), eR 157 (by decide)]
  refine ⟨pW_st (pW_st (pW_st (pW_st h1))), by rw [h0]; omega, by rw [wtD_st (by decide), wtD_st (by decide), wtD_st (by decide), wtD_st (by decide)]; exact h3, by unfold bdD; rw [hr 7 (by decide) (by decide), hr 8 (by decide) (by decide), hr 9 (by decide) (by decide)]; exact h4, ⟨fun p hp => ?_, fun p hp => ?_, fun p i j hp hi hj => ?_⟩, ?_, Or.inl (stI_s _ _ _ _)⟩
  · by_cases e : p = n
    · subst e; rw [es, e154, up_s]; rfl
    · rw [eo p e, e154, up_n e]; exact h5.1 p hp
  · by_cases e : p = n
    · subst e; rw [es]; exact ⟨by omega, fun b hb => by omega⟩
    · rw [eo p e, e2]; exact h5.2.1 p hp
  · by_cases e : p = n
    · subst e; rw [es] at hi; omega
    · rw [eo p e] at hi hj; rw [e2]; exact h5.2.2 p i j hp hi hj
  · unfold tlD
    rw [h0, e158]
    refine ⟨fun q hq => ?_, fun q hq hq2 => ?_⟩
    · by_cases e : q = n
      · subst e; rw [up_s]; omega
      · rw [up_n e]; exact h6.1 q hq
    · rw [up_n (by omega)]; exact h6.2 q hq (by omega)
theorem c_pageD {g : pG} {M : pMem} (hJ : JD M) : pCn g 2 0 0 yX6_page cX6_page 1 (some .int) SH SH M [.inr (.inr 153)] (fun r M' => (mI M 153 0 < 16 → r = some (.inl (mI M 153 0)) ∧ M' = (stI (stI (stI (stI M 154 (mI M 153 0).toNat 0) 158 (mI M 153 0).toNat (-1)) 153 0 (mI M 153 0 + 1)) 153 10 0) ∧ JD M') ∧ (¬ mI M 153 0 < 16 → r = some (.inl (-1)) ∧ M' = M)) := by
  refine pCn_intro mt_X6_page (fun X C => ?_)
  have hW := hJ.1
  have hnr := hJ.2.1
  obtain ⟨n, hn⟩ : ∃ n : Nat, mI M 153 0 = (n : Int) := ⟨(mI M 153 0).toNat, by omega⟩
  have en : (mI M 153 0).toNat = n := by omega
  show pE g 1 X _ SH M 0 0 0 [some (.inr (.inr 153))] []
  refine e_aload_n C dX6_page_0 rfl ?_
  refine e_getI C f_X6_99 sh_153 dX6_page_1 ?_
  refine e_bipush C dX6_page_4 ?_
  refine e_icmp_ne C (tgt := 11) dX6_page_6 (by decide) (by omega) (by omega) (fun h_6 => ?_) (fun h_6 => ?_)
  · skip
    refine e_aload_n C dX6_page_11 rfl ?_
    refine e_getR C f_X6_7 sh_153 (hW 153 1 154 rfl) dX6_page_12 ?_
    refine e_aload_n C dX6_page_15 rfl ?_
    refine e_getI C f_X6_99 sh_153 dX6_page_16 ?_
    rw [hn]
    refine e_iconst C dX6_page_19 ?_
    refine e_iastore C dX6_page_20 sh_154 _ rfl (by omega) ?_
    refine e_aload_n C dX6_page_21 rfl ?_
    refine e_getR C f_X6_22 sh_153 (hW 153 5 158 rfl) dX6_page_22 ?_
    refine e_aload_n C dX6_page_25 rfl ?_
    refine e_getI C f_X6_99 sh_153 dX6_page_26 ?_
    rw [stI_n _ _ (by omega), hn]
    refine e_iconst C dX6_page_29 ?_
    refine e_iastore C dX6_page_30 sh_158 _ rfl (by omega) ?_
    refine e_aload_n C dX6_page_31 rfl ?_
    refine e_dup C dX6_page_32 ?_
    refine e_getI C f_X6_99 sh_153 dX6_page_33 ?_
    rw [stI_n _ _ (by omega), stI_n _ _ (by omega), hn]
    refine e_iconst C dX6_page_36 ?_
    refine e_iadd C dX6_page_37 ?_
    refine e_putI C f_X6_99 sh_153 (hd := dX6_page_38) (hfin := (fun CC T h => by obtain ⟨h1, -⟩ := h; cases h1; rfl)) ?_
    refine e_aload_n C dX6_page_41 rfl ?_
    refine e_callV C (c_changes (M := (stI (stI (stI M 154 n 0) 158 n (-1)) 153 0 ((n : Int) + 1)))) mt_X6_changes s_X6_110 dX6_page_42 6 sh_153 rfl (fun rc Mc hqc => ?_)
    obtain ⟨rfl, hMc⟩ := hqc
    subst Mc
    dsimp only [Option.toList_none, List.nil_append]
    refine e_aload_n C dX6_page_45 rfl ?_
    refine e_getI C f_X6_99 sh_153 dX6_page_46 ?_
    rw [stI_n _ _ (by omega), stI_s]
    refine e_iconst C dX6_page_49 ?_
    refine e_isub C dX6_page_50 ?_
    exact e_ireturn C dX6_page_51 ⟨fun _ => ⟨by congr 2; omega, by rw [Int.toNat_natCast], JD_page hJ hn (by omega)⟩, fun z => by omega⟩
  · skip
    refine e_iconst C dX6_page_9 ?_
    exact e_ireturn C dX6_page_10 ⟨fun z => by omega, fun _ => ⟨rfl, rfl⟩⟩
theorem JD_bounds {M : pMem} {l v h : Int} (hJ : JD M) (hb : ((0 ≤ l ∧ l ≤ 1000) ∧ (0 ≤ v ∧ v ≤ 1000) ∧ (0 ≤ h ∧ h ≤ 1000))) : JD (stI (stI (stI M 153 7 l) 153 8 v) 153 9 h) := by
  obtain ⟨h1, h2, h3, h4, h5, h6, h7⟩ := hJ
  have hr : ∀ j, j ≠ 7 → j ≠ 8 → j ≠ 9 → mI (stI (stI (stI M 153 7 l) 153 8 v) 153 9 h) 153 j = mI M 153 j := fun j a b c => by rw [stI_n _ _ (Or.inr c), stI_n _ _ (Or.inr b), stI_n _ _ (Or.inr a)]
  have ho : ∀ b, b ≠ 153 → mI (stI (stI (stI M 153 7 l) 153 8 v) 153 9 h) b = mI M b := fun b hb => by rw [stI_rowN _ _ _ hb, stI_rowN _ _ _ hb, stI_rowN _ _ _ hb]
  have ew : wtD (stI (stI (stI M 153 7 l) 153 8 v) 153 9 h) = wtD M := by rw [wtD_st (by decide), wtD_st (by decide), wtD_st (by decide)]
  have eg : pgD (stI (stI (stI M 153 7 l) 153 8 v) 153 9 h) = pgD M := by rw [pgD_st (by decide), pgD_st (by decide), pgD_st (by decide)]
  refine ⟨pW_st (pW_st (pW_st h1)), by rw [hr 0 (by decide) (by decide) (by decide)]; exact h2, by rw [ew]; exact h3, ?_, ?_, ?_, ?_⟩
  · unfold bdD
    rw [show mI (stI (stI (stI M 153 7 l) 153 8 v) 153 9 h) 153 7 = l by rw [stI_n _ _ (by omega), stI_n _ _ (by omega), stI_s], show mI (stI (stI (stI M 153 7 l) 153 8 v) 153 9 h) 153 8 = v by rw [stI_n _ _ (by omega), stI_s], stI_s]
    exact hb
  · unfold pgN; rw [eg, ho 154 (by decide)]; exact h5
  · unfold tlD; rw [ho 158 (by decide), hr 0 (by decide) (by decide) (by decide)]; exact h6
  · rw [hr 10 (by decide) (by decide) (by decide)]
    rcases h7 with z | ⟨z1, z2, z3⟩
    · exact Or.inl z
    · refine Or.inr ⟨z1, fun k hk => ?_, fun p k hp hk => ?_⟩
      · have e1 : nsD (stI (stI (stI M 153 7 l) 153 8 v) 153 9 h) k = nsD M k := by unfold nsD; rw [ho 161 (by decide)]
        have e2 : kdS (stI (stI (stI M 153 7 l) 153 8 v) 153 9 h) k = kdS M k := by unfold kdS; rw [ho 162 (by decide), ho 163 (by decide), ho 164 (by decide), ho 165 (by decide)]
        rw [e1, e2, eg, ho 158 (by decide), ho 160 (by decide), ho 161 (by decide)]; exact z2 k hk
      · rw [ew, eg, ho 158 (by decide), ho 176 (by decide)]; exact z3 p k hp hk
theorem c_boundsD {g : pG} {M : pMem}  {l : Int} {v : Int} {h : Int} (hi_l : -2147483648 ≤ l ∧ l < 2147483648) (hi_v : -2147483648 ≤ v ∧ v < 2147483648) (hi_h : -2147483648 ≤ h ∧ h < 2147483648) (hJ : JD M) : pCn g 2 0 0 yX6_bounds cX6_bounds 4 (some .boolean) SH SH M [.inr (.inr 153), .inl l, .inl v, .inl h] (fun r M' => (((0 ≤ l ∧ l ≤ 1000) ∧ (0 ≤ v ∧ v ≤ 1000) ∧ (0 ≤ h ∧ h ≤ 1000)) → r = some (.inl 1) ∧ M' = (stI (stI (stI M 153 7 l) 153 8 v) 153 9 h) ∧ JD M') ∧ (¬ ((0 ≤ l ∧ l ≤ 1000) ∧ (0 ≤ v ∧ v ≤ 1000) ∧ (0 ≤ h ∧ h ≤ 1000)) → r = some (.inl 0) ∧ M' = M)) := by
  refine pCn_intro mt_X6_bounds (fun X C => ?_)
  have hW := hJ.1
  have hn := hJ.2.1
  show pE g 4 X _ SH M 0 0 0 [some (.inr (.inr 153)), some (.inl l), some (.inl v), some (.inl h)] []
  refine e_iload_n C dX6_bounds_0 rfl ?_
  refine e_iconst C dX6_bounds_1 ?_
  refine e_sipush C dX6_bounds_2 ?_
  refine e_callS C (c_in (M := M) (v := l) (a := 0) (b := 1000) hi_l (by omega) (by omega)) mt_X6_in s_X6_102 dX6_bounds_5 (fun ra Ma hqa => ?_)
  obtain ⟨rfl, hMa⟩ := hqa
  subst Ma
  dsimp only [Option.toList_some, List.singleton_append]
  refine e_if_eq C (tgt := 33) dX6_bounds_8 (by decide) (by split <;> omega) (fun h_8 => ?_) (fun h_8 => ?_)
  · have hall : ¬ ((0 ≤ l ∧ l ≤ 1000) ∧ (0 ≤ v ∧ v ≤ 1000) ∧ (0 ≤ h ∧ h ≤ 1000)) := fun z => ite0.mp h_8 (by omega)
    refine e_iconst C dX6_bounds_33 ?_
    exact e_zreturn C dX6_bounds_34 (Or.inl rfl) ⟨fun z => absurd z hall, fun _ => ⟨rfl, rfl⟩⟩
  · have hb8 := ite1.mp h_8
    refine e_iload_n C dX6_bounds_11 rfl ?_
    refine e_iconst C dX6_bounds_12 ?_
    refine e_sipush C dX6_bounds_13 ?_
    refine e_callS C (c_in (M := M) (v := v) (a := 0) (b := 1000) hi_v (by omega) (by omega)) mt_X6_in s_X6_102 dX6_bounds_16 (fun rb Mb hqb => ?_)
    obtain ⟨rfl, hMb⟩ := hqb
    subst Mb
    dsimp only [Option.toList_some, List.singleton_append]
    refine e_if_eq C (tgt := 33) dX6_bounds_19 (by decide) (by split <;> omega) (fun h_19 => ?_) (fun h_19 => ?_)
    · have hall : ¬ ((0 ≤ l ∧ l ≤ 1000) ∧ (0 ≤ v ∧ v ≤ 1000) ∧ (0 ≤ h ∧ h ≤ 1000)) := fun z => ite0.mp h_19 (by omega)
      refine e_iconst C dX6_bounds_33 ?_
      exact e_zreturn C dX6_bounds_34 (Or.inl rfl) ⟨fun z => absurd z hall, fun _ => ⟨rfl, rfl⟩⟩
    · have hb19 := ite1.mp h_19
      refine e_iload_n C dX6_bounds_22 rfl ?_
      refine e_iconst C dX6_bounds_23 ?_
      refine e_sipush C dX6_bounds_24 ?_
      refine e_callS C (c_in (M := M) (v := h) (a := 0) (b := 1000) hi_h (by omega) (by omega)) mt_X6_in s_X6_102 dX6_bounds_27 (fun rc Mc hqc => ?_)
      obtain ⟨rfl, hMc⟩ := hqc
      subst Mc
      dsimp only [Option.toList_some, List.singleton_append]
      refine e_if_ne C (tgt := 35) dX6_bounds_30 (by decide) (by split <;> omega) (fun h_30 => ?_) (fun h_30 => ?_)
      · have hb30 := ite1.mp h_30
        have hall : ((0 ≤ l ∧ l ≤ 1000) ∧ (0 ≤ v ∧ v ≤ 1000) ∧ (0 ≤ h ∧ h ≤ 1000)) := by omega
        refine e_aload_n C dX6_bounds_35 rfl ?_
        refine e_iload_n C dX6_bounds_36 rfl ?_
        refine e_putI C f_X6_28 sh_153 (hd := dX6_bounds_37) (hfin := (fun CC T h => by obtain ⟨h1, -⟩ := h; cases h1; rfl)) ?_
        refine e_aload_n C dX6_bounds_40 rfl ?_
        refine e_iload_n C dX6_bounds_41 rfl ?_
        refine e_putI C f_X6_32 sh_153 (hd := dX6_bounds_42) (hfin := (fun CC T h => by obtain ⟨h1, -⟩ := h; cases h1; rfl)) ?_
        refine e_aload_n C dX6_bounds_45 rfl ?_
        refine e_iload_n C dX6_bounds_46 rfl ?_
        refine e_putI C f_X6_35 sh_153 (hd := dX6_bounds_47) (hfin := (fun CC T h => by obtain ⟨h1, -⟩ := h; cases h1; rfl)) ?_
        refine e_iconst C dX6_bounds_50 ?_
        exact e_zreturn C dX6_bounds_51 (Or.inr rfl) ⟨fun _ => ⟨rfl, rfl, JD_bounds hJ hall⟩, fun z => absurd hall z⟩
      · have hall : ¬ ((0 ≤ l ∧ l ≤ 1000) ∧ (0 ≤ v ∧ v ≤ 1000) ∧ (0 ≤ h ∧ h ≤ 1000)) := fun z => h_30 (ite1.mpr (by omega))
        refine e_iconst C dX6_bounds_33 ?_
        exact e_zreturn C dX6_bounds_34 (Or.inl rfl) ⟨fun z => absurd z hall, fun _ => ⟨rfl, rfl⟩⟩
theorem JD_weights {M : pMem} {m1 m2 m3 m4 m5 : Int} (hJ : JD M) (hb : ((0 ≤ m1 ∧ m1 ≤ 9) ∧ (0 ≤ m2 ∧ m2 ≤ 9) ∧ (0 ≤ m3 ∧ m3 ≤ 99) ∧ (0 ≤ m4 ∧ m4 ≤ 99) ∧ (0 ≤ m5 ∧ m5 ≤ 99))) : JD (stI (stI (stI (stI (stI (stI M 159 0 m1) 159 1 m2) 159 2 m3) 159 3 m4) 159 4 m5) 153 10 0) ∧ wtD (stI (stI (stI (stI (stI (stI M 159 0 m1) 159 1 m2) 159 2 m3) 159 3 m4) 159 4 m5) 153 10 0) = (m1, m2, m3, m4, m5) := by
  obtain ⟨h1, h2, h3, h4, h5, h6, h7⟩ := hJ
  have hr : ∀ j, j ≠ 10 → mI (stI (stI (stI (stI (stI (stI M 159 0 m1) 159 1 m2) 159 2 m3) 159 3 m4) 159 4 m5) 153 10 0) 153 j = mI M 153 j := fun j hj => by rw [stI_n _ _ (Or.inr hj), stI_n _ _ (by omega), stI_n _ _ (by omega), stI_n _ _ (by omega), stI_n _ _ (by omega), stI_n _ _ (by omega)]
  have ho : ∀ b, b ≠ 153 → b ≠ 159 → mI (stI (stI (stI (stI (stI (stI M 159 0 m1) 159 1 m2) 159 2 m3) 159 3 m4) 159 4 m5) 153 10 0) b = mI M b := fun b hb h2 => by rw [stI_rowN _ _ _ hb, stI_rowN _ _ _ h2, stI_rowN _ _ _ h2, stI_rowN _ _ _ h2, stI_rowN _ _ _ h2, stI_rowN _ _ _ h2]
  have ew : wtD (stI (stI (stI (stI (stI (stI M 159 0 m1) 159 1 m2) 159 2 m3) 159 3 m4) 159 4 m5) 153 10 0) = (m1, m2, m3, m4, m5) := by
    unfold wtD
    rw [stI_rowN _ _ _ (by decide)]
    simp [stI, mI]
  have eg : pgD (stI (stI (stI (stI (stI (stI M 159 0 m1) 159 1 m2) 159 2 m3) 159 3 m4) 159 4 m5) 153 10 0) = pgD M := by rw [pgD_st (by decide), pgD_st (by decide), pgD_st (by decide), pgD_st (by decide), pgD_st (by decide), pgD_st (by decide)]
  refine ⟨⟨pW_st (pW_st (pW_st (pW_st (pW_st (pW_st h1))))), by rw [hr 0 (by decide)]; exact h2, by rw [ew]; exact hb, by unfold bdD; rw [hr 7 (by decide), hr 8 (by decide), hr 9 (by decide)]; exact h4, ?_, ?_, Or.inl (stI_s _ _ _ _)⟩, ew⟩
  · unfold pgN; rw [eg, ho 154 (by decide) (by decide)]; exact h5
  · unfold tlD; rw [ho 158 (by decide) (by decide), hr 0 (by decide)]; exact h6
theorem c_weightsD {g : pG} {M : pMem}  {m1 : Int} {m2 : Int} {m3 : Int} {m4 : Int} {m5 : Int} (hi_m1 : -2147483648 ≤ m1 ∧ m1 < 2147483648) (hi_m2 : -2147483648 ≤ m2 ∧ m2 < 2147483648) (hi_m3 : -2147483648 ≤ m3 ∧ m3 < 2147483648) (hi_m4 : -2147483648 ≤ m4 ∧ m4 < 2147483648) (hi_m5 : -2147483648 ≤ m5 ∧ m5 < 2147483648) (hJ : JD M) : pCn g 2 0 0 yX6_weights cX6_weights 6 (some .boolean) SH SH M [.inr (.inr 153), .inl m1, .inl m2, .inl m3, .inl m4, .inl m5] (fun r M' => (((0 ≤ m1 ∧ m1 ≤ 9) ∧ (0 ≤ m2 ∧ m2 ≤ 9) ∧ (0 ≤ m3 ∧ m3 ≤ 99) ∧ (0 ≤ m4 ∧ m4 ≤ 99) ∧ (0 ≤ m5 ∧ m5 ≤ 99)) → r = some (.inl 1) ∧ M' = (stI (stI (stI (stI (stI (stI M 159 0 m1) 159 1 m2) 159 2 m3) 159 3 m4) 159 4 m5) 153 10 0) ∧ JD M' ∧ wtD M' = (m1, m2, m3, m4, m5)) ∧ (¬ ((0 ≤ m1 ∧ m1 ≤ 9) ∧ (0 ≤ m2 ∧ m2 ≤ 9) ∧ (0 ≤ m3 ∧ m3 ≤ 99) ∧ (0 ≤ m4 ∧ m4 ≤ 99) ∧ (0 ≤ m5 ∧ m5 ≤ 99)) → r = some (.inl 0) ∧ M' = M)) := by
  refine pCn_intro mt_X6_weights (fun X C => ?_)
  have hW := hJ.1
  have hn := hJ.2.1
  show pE g 6 X _ SH M 0 0 0 [some (.inr (.inr 153)), some (.inl m1), some (.inl m2), some (.inl m3), some (.inl m4), some (.inl m5)] []
  refine e_iload_n C dX6_weights_0 rfl ?_
  refine e_iconst C dX6_weights_1 ?_
  refine e_bipush C dX6_weights_2 ?_
  refine e_callS C (c_in (M := M) (v := m1) (a := 0) (b := 9) hi_m1 (by omega) (by omega)) mt_X6_in s_X6_102 dX6_weights_4 (fun ra Ma hqa => ?_)
  obtain ⟨rfl, hMa⟩ := hqa
  subst Ma
  dsimp only [Option.toList_some, List.singleton_append]
  refine e_if_eq C (tgt := 52) dX6_weights_7 (by decide) (by split <;> omega) (fun h_7 => ?_) (fun h_7 => ?_)
  · have hall : ¬ ((0 ≤ m1 ∧ m1 ≤ 9) ∧ (0 ≤ m2 ∧ m2 ≤ 9) ∧ (0 ≤ m3 ∧ m3 ≤ 99) ∧ (0 ≤ m4 ∧ m4 ≤ 99) ∧ (0 ≤ m5 ∧ m5 ≤ 99)) := fun z => ite0.mp h_7 (by omega)
    refine e_iconst C dX6_weights_52 ?_
    exact e_zreturn C dX6_weights_53 (Or.inl rfl) ⟨fun z => absurd z hall, fun _ => ⟨rfl, rfl⟩⟩
  · have hb7 := ite1.mp h_7
    refine e_iload_n C dX6_weights_10 rfl ?_
    refine e_iconst C dX6_weights_11 ?_
    refine e_bipush C dX6_weights_12 ?_
    refine e_callS C (c_in (M := M) (v := m2) (a := 0) (b := 9) hi_m2 (by omega) (by omega)) mt_X6_in s_X6_102 dX6_weights_14 (fun rb Mb hqb => ?_)
    obtain ⟨rfl, hMb⟩ := hqb
    subst Mb
    dsimp only [Option.toList_some, List.singleton_append]
    refine e_if_eq C (tgt := 52) dX6_weights_17 (by decide) (by split <;> omega) (fun h_17 => ?_) (fun h_17 => ?_)
    · have hall : ¬ ((0 ≤ m1 ∧ m1 ≤ 9) ∧ (0 ≤ m2 ∧ m2 ≤ 9) ∧ (0 ≤ m3 ∧ m3 ≤ 99) ∧ (0 ≤ m4 ∧ m4 ≤ 99) ∧ (0 ≤ m5 ∧ m5 ≤ 99)) := fun z => ite0.mp h_17 (by omega)
      refine e_iconst C dX6_weights_52 ?_
      exact e_zreturn C dX6_weights_53 (Or.inl rfl) ⟨fun z => absurd z hall, fun _ => ⟨rfl, rfl⟩⟩
    · have hb17 := ite1.mp h_17
      refine e_iload_n C dX6_weights_20 rfl ?_
      refine e_iconst C dX6_weights_21 ?_
      refine e_bipush C dX6_weights_22 ?_
      refine e_callS C (c_in (M := M) (v := m3) (a := 0) (b := 99) hi_m3 (by omega) (by omega)) mt_X6_in s_X6_102 dX6_weights_24 (fun rc Mc hqc => ?_)
      obtain ⟨rfl, hMc⟩ := hqc
      subst Mc
      dsimp only [Option.toList_some, List.singleton_append]
      refine e_if_eq C (tgt := 52) dX6_weights_27 (by decide) (by split <;> omega) (fun h_27 => ?_) (fun h_27 => ?_)
      · have hall : ¬ ((0 ≤ m1 ∧ m1 ≤ 9) ∧ (0 ≤ m2 ∧ m2 ≤ 9) ∧ (0 ≤ m3 ∧ m3 ≤ 99) ∧ (0 ≤ m4 ∧ m4 ≤ 99) ∧ (0 ≤ m5 ∧ m5 ≤ 99)) := fun z => ite0.mp h_27 (by omega)
        refine e_iconst C dX6_weights_52 ?_
        exact e_zreturn C dX6_weights_53 (Or.inl rfl) ⟨fun z => absurd z hall, fun _ => ⟨rfl, rfl⟩⟩
      · have hb27 := ite1.mp h_27
        refine e_iload C dX6_weights_30 rfl ?_
        refine e_iconst C dX6_weights_32 ?_
        refine e_bipush C dX6_weights_33 ?_
        refine e_callS C (c_in (M := M) (v := m4) (a := 0) (b := 99) hi_m4 (by omega) (by omega)) mt_X6_in s_X6_102 dX6_weights_35 (fun rd Md hqd => ?_)
        obtain ⟨rfl, hMd⟩ := hqd
        subst Md
        dsimp only [Option.toList_some, List.singleton_append]
        refine e_if_eq C (tgt := 52) dX6_weights_38 (by decide) (by split <;> omega) (fun h_38 => ?_) (fun h_38 => ?_)
        · have hall : ¬ ((0 ≤ m1 ∧ m1 ≤ 9) ∧ (0 ≤ m2 ∧ m2 ≤ 9) ∧ (0 ≤ m3 ∧ m3 ≤ 99) ∧ (0 ≤ m4 ∧ m4 ≤ 99) ∧ (0 ≤ m5 ∧ m5 ≤ 99)) := fun z => ite0.mp h_38 (by omega)
          refine e_iconst C dX6_weights_52 ?_
          exact e_zreturn C dX6_weights_53 (Or.inl rfl) ⟨fun z => absurd z hall, fun _ => ⟨rfl, rfl⟩⟩
        · have hb38 := ite1.mp h_38
          refine e_iload C dX6_weights_41 rfl ?_
          refine e_iconst C dX6_weights_43 ?_
          refine e_bipush C dX6_weights_44 ?_
          refine e_callS C (c_in (M := M) (v := m5) (a := 0) (b := 99) hi_m5 (by omega) (by omega)) mt_X6_in s_X6_102 dX6_weights_46 (fun re Me hqe => ?_)
          obtain ⟨rfl, hMe⟩ := hqe
          subst Me
          dsimp only [Option.toList_some, List.singleton_append]
          refine e_if_ne C (tgt := 54) dX6_weights_49 (by decide) (by split <;> omega) (fun h_49 => ?_) (fun h_49 => ?_)
          · have hb49 := ite1.mp h_49
            have hall : ((0 ≤ m1 ∧ m1 ≤ 9) ∧ (0 ≤ m2 ∧ m2 ≤ 9) ∧ (0 ≤ m3 ∧ m3 ≤ 99) ∧ (0 ≤ m4 ∧ m4 ≤ 99) ∧ (0 ≤ m5 ∧ m5 ≤ 99)) := by omega
            refine e_aload_n C dX6_weights_54 rfl ?_
            refine e_getR C f_X6_25 sh_153 (hW 153 6 159 rfl) dX6_weights_55 ?_
            refine e_iconst C dX6_weights_58 ?_
            refine e_iload_n C dX6_weights_59 rfl ?_
            refine e_iastore C dX6_weights_60 sh_159 0 rfl (by decide) ?_
            refine e_aload_n C dX6_weights_61 rfl ?_
            refine e_getR C f_X6_25 sh_153 (hW 153 6 159 rfl) dX6_weights_62 ?_
            refine e_iconst C dX6_weights_65 ?_
            refine e_iload_n C dX6_weights_66 rfl ?_
            refine e_iastore C dX6_weights_67 sh_159 1 rfl (by decide) ?_
            refine e_aload_n C dX6_weights_68 rfl ?_
            refine e_getR C f_X6_25 sh_153 (hW 153 6 159 rfl) dX6_weights_69 ?_
            refine e_iconst C dX6_weights_72 ?_
            refine e_iload_n C dX6_weights_73 rfl ?_
            refine e_iastore C dX6_weights_74 sh_159 2 rfl (by decide) ?_
            refine e_aload_n C dX6_weights_75 rfl ?_
            refine e_getR C f_X6_25 sh_153 (hW 153 6 159 rfl) dX6_weights_76 ?_
            refine e_iconst C dX6_weights_79 ?_
            refine e_iload C dX6_weights_80 rfl ?_
            refine e_iastore C dX6_weights_82 sh_159 3 rfl (by decide) ?_
            refine e_aload_n C dX6_weights_83 rfl ?_
            refine e_getR C f_X6_25 sh_153 (hW 153 6 159 rfl) dX6_weights_84 ?_
            refine e_iconst C dX6_weights_87 ?_
            refine e_iload C dX6_weights_88 rfl ?_
            refine e_iastore C dX6_weights_90 sh_159 4 rfl (by decide) ?_
            refine e_aload_n C dX6_weights_91 rfl ?_
            refine e_callV C (c_changes (M := (stI (stI (stI (stI (stI M 159 0 m1) 159 1 m2) 159 2 m3) 159 3 m4) 159 4 m5))) mt_X6_changes s_X6_110 dX6_weights_92 6 sh_153 rfl (fun rx Mx hqx => ?_)
            obtain ⟨rfl, hMx⟩ := hqx
            subst Mx
            dsimp only [Option.toList_none, List.nil_append]
            refine e_iconst C dX6_weights_95 ?_
            exact e_zreturn C dX6_weights_96 (Or.inr rfl) ⟨fun _ => ⟨rfl, rfl, JD_weights hJ hall⟩, fun z => absurd hall z⟩
          · have hall : ¬ ((0 ≤ m1 ∧ m1 ≤ 9) ∧ (0 ≤ m2 ∧ m2 ≤ 9) ∧ (0 ≤ m3 ∧ m3 ≤ 99) ∧ (0 ≤ m4 ∧ m4 ≤ 99) ∧ (0 ≤ m5 ∧ m5 ≤ 99)) := fun z => h_49 (ite1.mpr (by omega))
            refine e_iconst C dX6_weights_52 ?_
            exact e_zreturn C dX6_weights_53 (Or.inl rfl) ⟨fun z => absurd z hall, fun _ => ⟨rfl, rfl⟩⟩
theorem c_tellD {g : pG} {M : pMem}  {p : Int} {k : Int} (hi_p : -2147483648 ≤ p ∧ p < 2147483648) (hi_k : -2147483648 ≤ k ∧ k < 2147483648) (hJ : JD M) : pCn g 3 0 0 yX6_tell cX6_tell 3 (some .boolean) SH SH M [.inr (.inr 153), .inl p, .inl k] (fun r M' => ((isQ M p ∧ 0 < mI M 154 p.toNat ∧ -1 ≤ k ∧ k < 5) → r = some (.inl 1) ∧ M' = (stI (stI M 158 p.toNat k) 153 10 0) ∧ JD M') ∧ (¬ (isQ M p ∧ 0 < mI M 154 p.toNat ∧ -1 ≤ k ∧ k < 5) → r = some (.inl 0) ∧ M' = M)) := by
  refine pCn_intro mt_X6_tell (fun X C => ?_)
  have hW := hJ.1
  have hn := hJ.2.1
  show pE g 3 X _ SH M 0 0 0 [some (.inr (.inr 153)), some (.inl p), some (.inl k)] []
  refine e_aload_n C dX6_tell_0 rfl ?_
  refine e_iload_n C dX6_tell_1 rfl ?_
  refine e_callV C (c_isPageD hi_p hn) mt_X6_isPage s_X6_113 dX6_tell_2 6 sh_153 rfl (fun r M1 hq => ?_)
  obtain ⟨rfl, hM⟩ := hq
  subst M1
  dsimp only [Option.toList_some, List.singleton_append]
  refine e_if_eq C (tgt := 26) dX6_tell_5 (by decide) (by split <;> omega) (fun h_5 => ?_) (fun h_5 => ?_)
  · have hall : ¬ (isQ M p ∧ 0 < mI M 154 p.toNat ∧ -1 ≤ k ∧ k < 5) := fun z => ite0.mp h_5 z.1
    refine e_iconst C dX6_tell_26 ?_
    exact e_zreturn C dX6_tell_27 (Or.inl rfl) ⟨fun z => absurd z hall, fun _ => ⟨rfl, rfl⟩⟩
  · have hpp := ite1.mp h_5
    have hp16 : p.toNat < 16 := by omega
    have hbn := hJ.2.2.2.2.1.1 _ hp16
    have hb8 := (hJ.2.2.2.2.1.2.1 _ hp16).1
    refine e_iload_n C dX6_tell_8 rfl ?_
    refine e_iconst C dX6_tell_9 ?_
    refine e_iconst C dX6_tell_10 ?_
    refine e_callS C (c_in (M := M) (v := k) (a := (-1)) (b := 4) hi_k (by omega) (by omega)) mt_X6_in s_X6_102 dX6_tell_11 (fun rb Mb hqb => ?_)
    obtain ⟨rfl, hMb⟩ := hqb
    subst Mb
    dsimp only [Option.toList_some, List.singleton_append]
    refine e_if_eq C (tgt := 26) dX6_tell_14 (by decide) (by split <;> omega) (fun h_14 => ?_) (fun h_14 => ?_)
    · have hall : ¬ (isQ M p ∧ 0 < mI M 154 p.toNat ∧ -1 ≤ k ∧ k < 5) := fun z => ite0.mp h_14 (by omega)
      refine e_iconst C dX6_tell_26 ?_
      exact e_zreturn C dX6_tell_27 (Or.inl rfl) ⟨fun z => absurd z hall, fun _ => ⟨rfl, rfl⟩⟩
    · have hb14 := ite1.mp h_14
      refine e_aload_n C dX6_tell_17 rfl ?_
      refine e_getR C f_X6_7 sh_153 (hW 153 1 154 rfl) dX6_tell_18 ?_
      refine e_iload_n C dX6_tell_21 rfl ?_
      refine e_iaload C dX6_tell_22 sh_154 p.toNat (by omega) (by omega) ?_
      refine e_if_ne C (tgt := 28) dX6_tell_23 (by decide) (by omega) (fun h_23 => ?_) (fun h_23 => ?_)
      · have hall : (isQ M p ∧ 0 < mI M 154 p.toNat ∧ -1 ≤ k ∧ k < 5) := ⟨hpp, by omega, by omega, by omega⟩
        refine e_aload_n C dX6_tell_28 rfl ?_
        refine e_getR C f_X6_22 sh_153 (hW 153 5 158 rfl) dX6_tell_29 ?_
        refine e_iload_n C dX6_tell_32 rfl ?_
        refine e_iload_n C dX6_tell_33 rfl ?_
        refine e_iastore C dX6_tell_34 sh_158 p.toNat (by omega) (by omega) ?_
        refine e_aload_n C dX6_tell_35 rfl ?_
        refine e_callV C (c_changes (M := (stI M 158 p.toNat k))) mt_X6_changes s_X6_110 dX6_tell_36 6 sh_153 rfl (fun rx Mx hqx => ?_)
        obtain ⟨rfl, hMx⟩ := hqx
        subst Mx
        dsimp only [Option.toList_none, List.nil_append]
        refine e_iconst C dX6_tell_39 ?_
        exact e_zreturn C dX6_tell_40 (Or.inr rfl) ⟨fun _ => ⟨rfl, rfl, JD_tell hJ (by omega) hall.2.2⟩, fun z => absurd hall z⟩
      · have hall : ¬ (isQ M p ∧ 0 < mI M 154 p.toNat ∧ -1 ≤ k ∧ k < 5) := fun z => by have := z.2.1; omega
        refine e_iconst C dX6_tell_26 ?_
        exact e_zreturn C dX6_tell_27 (Or.inl rfl) ⟨fun z => absurd z hall, fun _ => ⟨rfl, rfl⟩⟩
theorem JD_box {M : pMem} {p : Nat} {x y c : Int} (hJ : JD M) (hp : p < 16) (hx : 0 ≤ x ∧ x ≤ 63) (hy : 0 ≤ y ∧ y ≤ 63) (hc : 1 ≤ c ∧ c ≤ 99) (h8 : (pgD M).1 p < 8) (hd : ∀ j, j < (pgD M).1 p → mI M 157 (8 * p + j) ≠ c) : JD (stI (stI (stI (stI (stI M 155 (8 * p + ((pgD M).1 p)) x) 156 (8 * p + ((pgD M).1 p)) y) 157 (8 * p + ((pgD M).1 p)) c) 154 p ((((pgD M).1 p) : Int) + 1)) 153 10 0) := by
  obtain ⟨h1, h2, h3, h4, h5, h6, h7⟩ := hJ
  obtain ⟨nb, hnb⟩ : ∃ nb, nb = (pgD M).1 p := ⟨_, rfl⟩
  rw [← hnb] at h8 hd ⊢
  generalize hR : (stI (stI (stI (stI (stI M 155 (8 * p + nb) x) 156 (8 * p + nb) y) 157 (8 * p + nb) c) 154 p ((nb : Int) + 1)) 153 10 0) = R
  have hr : ∀ j, j ≠ 10 → mI R 153 j = mI M 153 j := fun j hj => by rw [← hR, stI_n _ _ (Or.inr hj), stI_n _ _ (by omega), stI_n _ _ (by omega), stI_n _ _ (by omega), stI_n _ _ (by omega)]
  have h10 : mI R 153 10 = 0 := by rw [← hR]; exact stI_s _ _ _ _
  have e154 : mI R 154 = up (mI M 154) p ((nb : Int) + 1) := by rw [← hR, stI_rowN _ _ _ (by decide), stI_row, stI_rowN _ _ _ (by decide), stI_rowN _ _ _ (by decide), stI_rowN _ _ _ (by decide)]
  have e155 : mI R 155 = up (mI M 155) (8 * p + nb) x := by rw [← hR, stI_rowN _ _ _ (by decide), stI_rowN _ _ _ (by decide), stI_rowN _ _ _ (by decide), stI_rowN _ _ _ (by decide), stI_row]
  have e156 : mI R 156 = up (mI M 156) (8 * p + nb) y := by rw [← hR, stI_rowN _ _ _ (by decide), stI_rowN _ _ _ (by decide), stI_rowN _ _ _ (by decide), stI_row, stI_rowN _ _ _ (by decide)]
  have e157 : mI R 157 = up (mI M 157) (8 * p + nb) c := by rw [← hR, stI_rowN _ _ _ (by decide), stI_rowN _ _ _ (by decide), stI_row, stI_rowN _ _ _ (by decide), stI_rowN _ _ _ (by decide)]
  have e158 : mI R 158 = mI M 158 := by rw [← hR, stI_rowN _ _ _ (by decide), stI_rowN _ _ _ (by decide), stI_rowN _ _ _ (by decide), stI_rowN _ _ _ (by decide), stI_rowN _ _ _ (by decide)]
  have ew : wtD R = wtD M := by rw [← hR, wtD_st (by decide), wtD_st (by decide), wtD_st (by decide), wtD_st (by decide), wtD_st (by decide)]
  have hWR : pW R := by rw [← hR]; exact h1
  have hM8 : ∀ q, q < 16 → (pgD M).1 q ≤ 8 := fun q hq => (h5.2.1 q hq).1
  have c1 : ∀ q, q ≠ p → (pgD R).1 q = (pgD M).1 q := fun q hq => by show (mI R 154 q).toNat = _; rw [e154, up_n hq]; rfl
  have c2 : (pgD R).1 p = nb + 1 := by show (mI R 154 p).toNat = _; rw [e154, up_s]; omega
  have d1 : ∀ q i, q < 16 → i < 8 → (q ≠ p ∨ i ≠ nb) → ((pgD R).2 q).1 i = ((pgD M).2 q).1 i ∧ ((pgD R).2 q).2.1 i = ((pgD M).2 q).2.1 i ∧ ((pgD R).2 q).2.2 i = ((pgD M).2 q).2.2 i := fun q i hq hi ho => by
    show mI R 155 (8 * q + i) = _ ∧ mI R 156 (8 * q + i) = _ ∧ mI R 157 (8 * q + i) = _
    rw [e155, e156, e157, up_n (by omega), up_n (by omega), up_n (by omega)]
    exact ⟨rfl, rfl, rfl⟩
  have d2 : ((pgD R).2 p).1 nb = x ∧ ((pgD R).2 p).2.1 nb = y ∧ ((pgD R).2 p).2.2 nb = c := by
    show mI R 155 (8 * p + nb) = _ ∧ mI R 156 (8 * p + nb) = _ ∧ mI R 157 (8 * p + nb) = _
    rw [e155, e156, e157, up_s, up_s, up_s]
    exact ⟨rfl, rfl, rfl⟩
  refine ⟨hWR, by rw [hr 0 (by decide)]; exact h2, by rw [ew]; exact h3, by unfold bdD; rw [hr 7 (by decide), hr 8 (by decide), hr 9 (by decide)]; exact h4, ⟨fun q hq => ?_, fun q hq => ⟨?_, fun i hi => ?_⟩, fun q i j hq hi hj he => ?_⟩, by unfold tlD; rw [e158, hr 0 (by decide)]; exact h6, Or.inl h10⟩
  · by_cases e : q = p
    · subst e; rw [c2, e154, up_s]; omega
    · rw [c1 q e, e154, up_n e]; exact h5.1 q hq
  · by_cases e : q = p
    · subst e; rw [c2]; omega
    · rw [c1 q e]; exact hM8 q hq
  · by_cases e : q = p
    · subst e
      rw [c2] at hi
      by_cases e2 : i = nb
      · subst e2; rw [d2.1, d2.2.1, d2.2.2]; exact ⟨hx, hy, hc⟩
      · obtain ⟨z1, z2, z3⟩ := d1 q i hq (by omega) (Or.inr e2)
        rw [z1, z2, z3]; exact (h5.2.1 q hq).2 i (by omega)
    · rw [c1 q e] at hi
      have := hM8 q hq
      obtain ⟨z1, z2, z3⟩ := d1 q i hq (by omega) (Or.inl e)
      rw [z1, z2, z3]; exact (h5.2.1 q hq).2 i hi
  · by_cases e : q = p
    · subst e
      rw [c2] at hi hj
      by_cases e2 : i = nb
      · by_cases e3 : j = nb
        · omega
        · subst e2
          rw [d2.2.2, (d1 q j hq (by omega) (Or.inr e3)).2.2] at he
          exact absurd he.symm (hd j (by omega))
      · by_cases e3 : j = nb
        · subst e3
          rw [d2.2.2, (d1 q i hq (by omega) (Or.inr e2)).2.2] at he
          exact absurd he (hd i (by omega))
        · rw [(d1 q i hq (by omega) (Or.inr e2)).2.2, (d1 q j hq (by omega) (Or.inr e3)).2.2] at he
          exact h5.2.2 q i j hq (by omega) (by omega) he
    · rw [c1 q e] at hi hj
      have := hM8 q hq
      rw [(d1 q i hq (by omega) (Or.inl e)).2.2, (d1 q j hq (by omega) (Or.inl e)).2.2] at he
      exact h5.2.2 q i j hq hi hj he
theorem c_boxD {g : pG} {M : pMem}  {p : Int} {x : Int} {y : Int} {c : Int} (hi_p : -2147483648 ≤ p ∧ p < 2147483648) (hi_x : -2147483648 ≤ x ∧ x < 2147483648) (hi_y : -2147483648 ≤ y ∧ y < 2147483648) (hi_c : -2147483648 ≤ c ∧ c < 2147483648) (hJ : JD M) : pCn g 3 0 0 yX6_box cX6_box 6 (some .int) SH SH M [.inr (.inr 153), .inl p, .inl x, .inl y, .inl c] (fun r M' => ((isQ M p ∧ (0 ≤ x ∧ x ≤ 63) ∧ (0 ≤ y ∧ y ≤ 63) ∧ (1 ≤ c ∧ c ≤ 99) ∧ ((pgD M).1 p.toNat) < 8 ∧ ∀ j, j < ((pgD M).1 p.toNat) → mI M 157 (8 * p.toNat + j) ≠ c) → r = some (.inl ((((pgD M).1 p.toNat) : Nat) : Int)) ∧ M' = (stI (stI (stI (stI (stI M 155 (8 * p.toNat + ((pgD M).1 p.toNat)) x) 156 (8 * p.toNat + ((pgD M).1 p.toNat)) y) 157 (8 * p.toNat + ((pgD M).1 p.toNat)) c) 154 p.toNat ((((pgD M).1 p.toNat) : Int) + 1)) 153 10 0) ∧ JD M') ∧ (¬ (isQ M p ∧ (0 ≤ x ∧ x ≤ 63) ∧ (0 ≤ y ∧ y ≤ 63) ∧ (1 ≤ c ∧ c ≤ 99) ∧ ((pgD M).1 p.toNat) < 8 ∧ ∀ j, j < ((pgD M).1 p.toNat) → mI M 157 (8 * p.toNat + j) ≠ c) → r = some (.inl (-1)) ∧ M' = M)) := by
  refine pCn_intro mt_X6_box (fun X C => ?_)
  have hW := hJ.1
  have hn := hJ.2.1
  show pE g 6 X _ SH M 0 0 0 [some (.inr (.inr 153)), some (.inl p), some (.inl x), some (.inl y), some (.inl c), none] []
  refine e_aload_n C dX6_box_0 rfl ?_
  refine e_iload_n C dX6_box_1 rfl ?_
  refine e_callV C (c_isPageD hi_p hn) mt_X6_isPage s_X6_113 dX6_box_2 6 sh_153 rfl (fun r M1 hq => ?_)
  obtain ⟨rfl, hM⟩ := hq
  subst M1
  dsimp only [Option.toList_some, List.singleton_append]
  refine e_if_eq C (tgt := 50) dX6_box_5 (by decide) (by split <;> omega) (fun h_5 => ?_) (fun h_5 => ?_)
  · have hall : ¬ (isQ M p ∧ (0 ≤ x ∧ x ≤ 63) ∧ (0 ≤ y ∧ y ≤ 63) ∧ (1 ≤ c ∧ c ≤ 99) ∧ ((pgD M).1 p.toNat) < 8 ∧ ∀ j, j < ((pgD M).1 p.toNat) → mI M 157 (8 * p.toNat + j) ≠ c) := fun z => ite0.mp h_5 z.1
    refine e_iconst C dX6_box_50 ?_
    exact e_ireturn C dX6_box_51 ⟨fun z => absurd z hall, fun _ => ⟨rfl, rfl⟩⟩
  · have hpp := ite1.mp h_5
    have hp16 : p.toNat < 16 := by omega
    have hbn := hJ.2.2.2.2.1.1 _ hp16
    have hb8 := (hJ.2.2.2.2.1.2.1 _ hp16).1
    refine e_iload_n C dX6_box_8 rfl ?_
    refine e_iconst C dX6_box_9 ?_
    refine e_bipush C dX6_box_10 ?_
    refine e_callS C (c_in (M := M) (v := x) (a := 0) (b := 63) hi_x (by omega) (by omega)) mt_X6_in s_X6_102 dX6_box_12 (fun ra Ma hqa => ?_)
    obtain ⟨rfl, hMa⟩ := hqa
    subst Ma
    dsimp only [Option.toList_some, List.singleton_append]
    refine e_if_eq C (tgt := 50) dX6_box_15 (by decide) (by split <;> omega) (fun h_15 => ?_) (fun h_15 => ?_)
    · have hall : ¬ (isQ M p ∧ (0 ≤ x ∧ x ≤ 63) ∧ (0 ≤ y ∧ y ≤ 63) ∧ (1 ≤ c ∧ c ≤ 99) ∧ ((pgD M).1 p.toNat) < 8 ∧ ∀ j, j < ((pgD M).1 p.toNat) → mI M 157 (8 * p.toNat + j) ≠ c) := fun z => ite0.mp h_15 (by omega)
      refine e_iconst C dX6_box_50 ?_
      exact e_ireturn C dX6_box_51 ⟨fun z => absurd z hall, fun _ => ⟨rfl, rfl⟩⟩
    · have hb15 := ite1.mp h_15
      refine e_iload_n C dX6_box_18 rfl ?_
      refine e_iconst C dX6_box_19 ?_
      refine e_bipush C dX6_box_20 ?_
      refine e_callS C (c_in (M := M) (v := y) (a := 0) (b := 63) hi_y (by omega) (by omega)) mt_X6_in s_X6_102 dX6_box_22 (fun rb Mb hqb => ?_)
      obtain ⟨rfl, hMb⟩ := hqb
      subst Mb
      dsimp only [Option.toList_some, List.singleton_append]
      refine e_if_eq C (tgt := 50) dX6_box_25 (by decide) (by split <;> omega) (fun h_25 => ?_) (fun h_25 => ?_)
      · have hall : ¬ (isQ M p ∧ (0 ≤ x ∧ x ≤ 63) ∧ (0 ≤ y ∧ y ≤ 63) ∧ (1 ≤ c ∧ c ≤ 99) ∧ ((pgD M).1 p.toNat) < 8 ∧ ∀ j, j < ((pgD M).1 p.toNat) → mI M 157 (8 * p.toNat + j) ≠ c) := fun z => ite0.mp h_25 (by omega)
        refine e_iconst C dX6_box_50 ?_
        exact e_ireturn C dX6_box_51 ⟨fun z => absurd z hall, fun _ => ⟨rfl, rfl⟩⟩
      · have hb25 := ite1.mp h_25
        refine e_iload C dX6_box_28 rfl ?_
        refine e_iconst C dX6_box_30 ?_
        refine e_bipush C dX6_box_31 ?_
        refine e_callS C (c_in (M := M) (v := c) (a := 1) (b := 99) hi_c (by omega) (by omega)) mt_X6_in s_X6_102 dX6_box_33 (fun rd Md hqd => ?_)
        obtain ⟨rfl, hMd⟩ := hqd
        subst Md
        dsimp only [Option.toList_some, List.singleton_append]
        refine e_if_eq C (tgt := 50) dX6_box_36 (by decide) (by split <;> omega) (fun h_36 => ?_) (fun h_36 => ?_)
        · have hall : ¬ (isQ M p ∧ (0 ≤ x ∧ x ≤ 63) ∧ (0 ≤ y ∧ y ≤ 63) ∧ (1 ≤ c ∧ c ≤ 99) ∧ ((pgD M).1 p.toNat) < 8 ∧ ∀ j, j < ((pgD M).1 p.toNat) → mI M 157 (8 * p.toNat + j) ≠ c) := fun z => ite0.mp h_36 (by omega)
          refine e_iconst C dX6_box_50 ?_
          exact e_ireturn C dX6_box_51 ⟨fun z => absurd z hall, fun _ => ⟨rfl, rfl⟩⟩
        · have hb36 := ite1.mp h_36
          refine e_aload_n C dX6_box_39 rfl ?_
          refine e_getR C f_X6_7 sh_153 (hW 153 1 154 rfl) dX6_box_40 ?_
          refine e_iload_n C dX6_box_43 rfl ?_
          refine e_iaload C dX6_box_44 sh_154 p.toNat (by omega) (by omega) ?_
          rw [hbn]
          refine e_bipush C dX6_box_45 ?_
          refine e_icmp_ne C (tgt := 52) dX6_box_47 (by decide) (by omega) (by omega) (fun h_47 => ?_) (fun h_47 => ?_)
          · skip
            refine e_iconst C dX6_box_52 ?_
            refine e_istore C dX6_box_53 ?_
            have lp : ∀ (i : Nat) (u : Unit), i ≤ ((pgD M).1 p.toNat) → (∀ j, j < i → mI M 157 (8 * p.toNat + j) ≠ c) → pE g 6 X (pMQ g SH (fun r M' => ((isQ M p ∧ (0 ≤ x ∧ x ≤ 63) ∧ (0 ≤ y ∧ y ≤ 63) ∧ (1 ≤ c ∧ c ≤ 99) ∧ ((pgD M).1 p.toNat) < 8 ∧ ∀ j, j < ((pgD M).1 p.toNat) → mI M 157 (8 * p.toNat + j) ≠ c) → r = some (.inl ((((pgD M).1 p.toNat) : Nat) : Int)) ∧ M' = (stI (stI (stI (stI (stI M 155 (8 * p.toNat + ((pgD M).1 p.toNat)) x) 156 (8 * p.toNat + ((pgD M).1 p.toNat)) y) 157 (8 * p.toNat + ((pgD M).1 p.toNat)) c) 154 p.toNat ((((pgD M).1 p.toNat) : Int) + 1)) 153 10 0) ∧ JD M') ∧ (¬ (isQ M p ∧ (0 ≤ x ∧ x ≤ 63) ∧ (0 ≤ y ∧ y ≤ 63) ∧ (1 ≤ c ∧ c ≤ 99) ∧ ((pgD M).1 p.toNat) < 8 ∧ ∀ j, j < ((pgD M).1 p.toNat) → mI M 157 (8 * p.toNat + j) ≠ c) → r = some (.inl (-1)) ∧ M' = M)) X 0 0) SH M 0 0 55 [some (.inr (.inr 153)), some (.inl p), some (.inl x), some (.inl y), some (.inl c), some (.inl (i : Int))] [] := by
              refine p_for (((pgD M).1 p.toNat)) _ _ ?_ ?_
              · rintro u hu
                have hall : (isQ M p ∧ (0 ≤ x ∧ x ≤ 63) ∧ (0 ≤ y ∧ y ≤ 63) ∧ (1 ≤ c ∧ c ≤ 99) ∧ ((pgD M).1 p.toNat) < 8 ∧ ∀ j, j < ((pgD M).1 p.toNat) → mI M 157 (8 * p.toNat + j) ≠ c) := ⟨hpp, hb15, hb25, hb36, by omega, hu⟩
                refine e_iload C dX6_box_55 rfl ?_
                refine e_aload_n C dX6_box_57 rfl ?_
                refine e_getR C f_X6_7 sh_153 (hW 153 1 154 rfl) dX6_box_58 ?_
                refine e_iload_n C dX6_box_61 rfl ?_
                refine e_iaload C dX6_box_62 sh_154 p.toNat (by omega) (by omega) ?_
                rw [hbn]
                refine e_icmp_ge C (tgt := 91) dX6_box_63 (by decide) (by omega) (by omega) (fun h_63 => ?_) (fun h_63 => by exfalso; omega)
                refine e_bipush C dX6_box_91 ?_
                refine e_iload_n C dX6_box_93 rfl ?_
                refine e_imul C dX6_box_94 ?_
                refine e_aload_n C dX6_box_95 rfl ?_
                refine e_getR C f_X6_7 sh_153 (hW 153 1 154 rfl) dX6_box_96 ?_
                refine e_iload_n C dX6_box_99 rfl ?_
                refine e_iaload C dX6_box_100 sh_154 p.toNat (by omega) (by omega) ?_
                rw [hbn]
                refine e_iadd C dX6_box_101 ?_
                refine e_istore C dX6_box_102 ?_
                refine e_aload_n C dX6_box_104 rfl ?_
                refine e_getR C f_X6_13 sh_153 (hW 153 2 155 rfl) dX6_box_105 ?_
                refine e_iload C dX6_box_108 rfl ?_
                refine e_iload_n C dX6_box_110 rfl ?_
                refine e_iastore C dX6_box_111 sh_155 (8 * p.toNat + ((pgD M).1 p.toNat)) (by omega) (by omega) ?_
                refine e_aload_n C dX6_box_112 rfl ?_
                refine e_getR C f_X6_16 sh_153 (hW 153 3 156 rfl) dX6_box_113 ?_
                refine e_iload C dX6_box_116 rfl ?_
                refine e_iload_n C dX6_box_118 rfl ?_
                refine e_iastore C dX6_box_119 sh_156 (8 * p.toNat + ((pgD M).1 p.toNat)) (by omega) (by omega) ?_
                refine e_aload_n C dX6_box_120 rfl ?_
                refine e_getR C f_X6_19 sh_153 (hW 153 4 157 rfl) dX6_box_121 ?_
                refine e_iload C dX6_box_124 rfl ?_
                refine e_iload C dX6_box_126 rfl ?_
                refine e_iastore C dX6_box_128 sh_157 (8 * p.toNat + ((pgD M).1 p.toNat)) (by omega) (by omega) ?_
                refine e_aload_n C dX6_box_129 rfl ?_
                refine e_getR C f_X6_7 sh_153 (hW 153 1 154 rfl) dX6_box_130 ?_
                refine e_iload_n C dX6_box_133 rfl ?_
                refine e_dup2 C dX6_box_134 ?_
                refine e_iaload C dX6_box_135 sh_154 p.toNat (by omega) (by omega) ?_
                rw [stI_n _ _ (by omega), stI_n _ _ (by omega), stI_n _ _ (by omega), hbn]
                refine e_iconst C dX6_box_136 ?_
                refine e_iadd C dX6_box_137 ?_
                refine e_iastore C dX6_box_138 sh_154 p.toNat (by omega) (by omega) ?_
                refine e_aload_n C dX6_box_139 rfl ?_
                refine e_callV C (c_changes (M := (stI (stI (stI (stI M 155 (8 * p.toNat + ((pgD M).1 p.toNat)) x) 156 (8 * p.toNat + ((pgD M).1 p.toNat)) y) 157 (8 * p.toNat + ((pgD M).1 p.toNat)) c) 154 p.toNat ((((pgD M).1 p.toNat) : Int) + 1)))) mt_X6_changes s_X6_110 dX6_box_140 6 sh_153 rfl (fun rx Mx hqx => ?_)
                obtain ⟨rfl, hMx⟩ := hqx
                subst Mx
                dsimp only [Option.toList_none, List.nil_append]
                refine e_aload_n C dX6_box_143 rfl ?_
                refine e_getR C f_X6_7 sh_153 (hW 153 1 154 rfl) dX6_box_144 ?_
                refine e_iload_n C dX6_box_147 rfl ?_
                refine e_iaload C dX6_box_148 sh_154 p.toNat (by omega) (by omega) ?_
                rw [stI_n _ _ (by omega), stI_s]
                refine e_iconst C dX6_box_149 ?_
                refine e_isub C dX6_box_150 ?_
                exact e_ireturn C dX6_box_151 ⟨fun _ => ⟨by congr 2; omega, rfl, JD_box hJ hp16 hb15 hb25 hb36 (by omega) hu⟩, fun z => absurd hall z⟩
              · rintro i u hi hu ih
                have hcj : 1 ≤ mI M 157 (8 * p.toNat + i) ∧ mI M 157 (8 * p.toNat + i) ≤ 99 := ((hJ.2.2.2.2.1.2.1 _ hp16).2 i hi).2.2
                refine e_iload C dX6_box_55 rfl ?_
                refine e_aload_n C dX6_box_57 rfl ?_
                refine e_getR C f_X6_7 sh_153 (hW 153 1 154 rfl) dX6_box_58 ?_
                refine e_iload_n C dX6_box_61 rfl ?_
                refine e_iaload C dX6_box_62 sh_154 p.toNat (by omega) (by omega) ?_
                rw [hbn]
                refine e_icmp_ge C (tgt := 91) dX6_box_63 (by decide) (by omega) (by omega) (fun h_63 => by exfalso; omega) (fun h_63 => ?_)
                refine e_aload_n C dX6_box_66 rfl ?_
                refine e_getR C f_X6_19 sh_153 (hW 153 4 157 rfl) dX6_box_67 ?_
                refine e_bipush C dX6_box_70 ?_
                refine e_iload_n C dX6_box_72 rfl ?_
                refine e_imul C dX6_box_73 ?_
                refine e_iload C dX6_box_74 rfl ?_
                refine e_iadd C dX6_box_76 ?_
                refine e_iaload C dX6_box_77 sh_157 (8 * p.toNat + i) (by omega) (by omega) ?_
                refine e_iload C dX6_box_78 rfl ?_
                refine e_icmp_ne C (tgt := 85) dX6_box_80 (by decide) (by omega) (by omega) (fun h_80 => ?_) (fun h_80 => ?_)
                · skip
                  refine e_iinc C dX6_box_85 rfl ?_
                  refine e_goto C (tgt := 55) dX6_box_88 (by decide) ?_
                  rw [show ((i : Int) + 1) = ((i + 1 : Nat) : Int) by omega]
                  refine ih () (fun j hj => ?_)
                  by_cases e : j = i
                  · subst e; exact h_80
                  · exact hu j (by omega)
                · have hall : ¬ (isQ M p ∧ (0 ≤ x ∧ x ≤ 63) ∧ (0 ≤ y ∧ y ≤ 63) ∧ (1 ≤ c ∧ c ≤ 99) ∧ ((pgD M).1 p.toNat) < 8 ∧ ∀ j, j < ((pgD M).1 p.toNat) → mI M 157 (8 * p.toNat + j) ≠ c) := fun z => z.2.2.2.2.2 i hi (Classical.not_not.mp h_80)
                  refine e_iconst C dX6_box_83 ?_
                  exact e_ireturn C dX6_box_84 ⟨fun z => absurd z hall, fun _ => ⟨rfl, rfl⟩⟩
            exact lp 0 () (by omega) (fun j hj => by omega)
          · have hall : ¬ (isQ M p ∧ (0 ≤ x ∧ x ≤ 63) ∧ (0 ≤ y ∧ y ≤ 63) ∧ (1 ≤ c ∧ c ≤ 99) ∧ ((pgD M).1 p.toNat) < 8 ∧ ∀ j, j < ((pgD M).1 p.toNat) → mI M 157 (8 * p.toNat + j) ≠ c) := fun z => by have := z.2.2.2.2.1; omega
            refine e_iconst C dX6_box_50 ?_
            exact e_ireturn C dX6_box_51 ⟨fun z => absurd z hall, fun _ => ⟨rfl, rfl⟩⟩
theorem c_aboutD {g : pG} {M : pMem}  {w : Int} (hi_w : -2147483648 ≤ w ∧ w < 2147483648) (hJ : JD M) : pCn g 2 0 0 yX6_about cX6_about 2 (some .int) SH SH M [.inr (.inr 153), .inl w] (fun r M' => r = some (.inl (if w = 0 then mI M 153 0 else if w = 1 then mI M 159 0 else if w = 2 then mI M 159 1 else if w = 3 then mI M 159 2 else if w = 4 then mI M 159 3 else if w = 5 then mI M 159 4 else if w = 6 then mI M 153 7 else if w = 7 then mI M 153 8 else if w = 8 then mI M 153 9 else if 20 ≤ w ∧ isQ M (w - 20) then mI M 154 (w - 20).toNat else -1)) ∧ M' = M) := by
  refine pCn_intro mt_X6_about (fun X C => ?_)
  have hW := hJ.1
  have hn := hJ.2.1
  show pE g 2 X _ SH M 0 0 0 [some (.inr (.inr 153)), some (.inl w)] []
  refine e_iload_n C dX6_about_0 rfl ?_
  refine e_bipush C dX6_about_1 ?_
  refine e_bipush C dX6_about_3 ?_
  refine e_aload_n C dX6_about_5 rfl ?_
  refine e_getI C f_X6_99 sh_153 dX6_about_6 ?_
  refine e_iadd C dX6_about_9 ?_
  refine e_callS C (c_in (M := M) (v := w) (a := 20) (b := 19 + mI M 153 0) hi_w (by omega) (by omega)) mt_X6_in s_X6_102 dX6_about_10 (fun rx Mx hqx => ?_)
  obtain ⟨rfl, hMx⟩ := hqx
  subst Mx
  dsimp only [Option.toList_some, List.singleton_append]
  refine e_if_eq C (tgt := 26) dX6_about_13 (by decide) (by split <;> omega) (fun h_13 => ?_) (fun h_13 => ?_)
  · have hin := ite0.mp h_13
    refine e_iload_n C dX6_about_26 rfl ?_
    have hw9 : w = 0 ∨ w = 1 ∨ w = 2 ∨ w = 3 ∨ w = 4 ∨ w = 5 ∨ w = 6 ∨ w = 7 ∨ w = 8 ∨ (w < 0 ∨ 8 < w) := by omega
    rcases hw9 with rfl | rfl | rfl | rfl | rfl | rfl | rfl | rfl | rfl | hw
    · refine e_tabIn C (x := 0) (off := 49) (tgt := 76) dX6_about_27 (by decide) (by decide) (by decide) (by decide) (by decide) ?_
      refine e_aload_n C dX6_about_76 rfl ?_
      refine e_getI C f_X6_99 sh_153 dX6_about_77 ?_
      exact e_ireturn C dX6_about_80 ⟨rfl, rfl⟩
    · refine e_tabIn C (x := 1) (off := 69) (tgt := 96) dX6_about_27 (by decide) (by decide) (by decide) (by decide) (by decide) ?_
      refine e_iload_n C dX6_about_96 rfl ?_
      refine e_iconst C dX6_about_97 ?_
      refine e_iconst C dX6_about_98 ?_
      refine e_callS C (c_in (M := M) (v := 1) (a := 1) (b := 5) (by decide) (by decide) (by decide)) mt_X6_in s_X6_102 dX6_about_99 (fun ry My hqy => ?_)
      obtain ⟨rfl, hMy⟩ := hqy
      subst My
      dsimp only [Option.toList_some, List.singleton_append]
      refine e_if_eq C (tgt := 116) dX6_about_102 (by decide) (by decide) (fun h_102 => by exact absurd h_102 (by decide)) (fun h_102 => ?_)
      refine e_aload_n C dX6_about_105 rfl ?_
      refine e_getR C f_X6_25 sh_153 (hW 153 6 159 rfl) dX6_about_106 ?_
      refine e_iload_n C dX6_about_109 rfl ?_
      refine e_iconst C dX6_about_110 ?_
      refine e_isub C dX6_about_111 ?_
      refine e_iaload C dX6_about_112 sh_159 0 (by decide) (by decide) ?_
      refine e_goto C (tgt := 117) dX6_about_113 (by decide) ?_
      exact e_ireturn C dX6_about_117 ⟨rfl, rfl⟩
    · refine e_tabIn C (x := 2) (off := 69) (tgt := 96) dX6_about_27 (by decide) (by decide) (by decide) (by decide) (by decide) ?_
      refine e_iload_n C dX6_about_96 rfl ?_
      refine e_iconst C dX6_about_97 ?_
      refine e_iconst C dX6_about_98 ?_
      refine e_callS C (c_in (M := M) (v := 2) (a := 1) (b := 5) (by decide) (by decide) (by decide)) mt_X6_in s_X6_102 dX6_about_99 (fun ry My hqy => ?_)
      obtain ⟨rfl, hMy⟩ := hqy
      subst My
      dsimp only [Option.toList_some, List.singleton_append]
      refine e_if_eq C (tgt := 116) dX6_about_102 (by decide) (by decide) (fun h_102 => by exact absurd h_102 (by decide)) (fun h_102 => ?_)
      refine e_aload_n C dX6_about_105 rfl ?_
      refine e_getR C f_X6_25 sh_153 (hW 153 6 159 rfl) dX6_about_106 ?_
      refine e_iload_n C dX6_about_109 rfl ?_
      refine e_iconst C dX6_about_110 ?_
      refine e_isub C dX6_about_111 ?_
      refine e_iaload C dX6_about_112 sh_159 1 (by decide) (by decide) ?_
      refine e_goto C (tgt := 117) dX6_about_113 (by decide) ?_
      exact e_ireturn C dX6_about_117 ⟨rfl, rfl⟩
    · refine e_tabIn C (x := 3) (off := 69) (tgt := 96) dX6_about_27 (by decide) (by decide) (by decide) (by decide) (by decide) ?_
      refine e_iload_n C dX6_about_96 rfl ?_
      refine e_iconst C dX6_about_97 ?_
      refine e_iconst C dX6_about_98 ?_
      refine e_callS C (c_in (M := M) (v := 3) (a := 1) (b := 5) (by decide) (by decide) (by decide)) mt_X6_in s_X6_102 dX6_about_99 (fun ry My hqy => ?_)
      obtain ⟨rfl, hMy⟩ := hqy
      subst My
      dsimp only [Option.toList_some, List.singleton_append]
      refine e_if_eq C (tgt := 116) dX6_about_102 (by decide) (by decide) (fun h_102 => by exact absurd h_102 (by decide)) (fun h_102 => ?_)
      refine e_aload_n C dX6_about_105 rfl ?_
      refine e_getR C f_X6_25 sh_153 (hW 153 6 159 rfl) dX6_about_106 ?_
      refine e_iload_n C dX6_about_109 rfl ?_
      refine e_iconst C dX6_about_110 ?_
      refine e_isub C dX6_about_111 ?_
      refine e_iaload C dX6_about_112 sh_159 2 (by decide) (by decide) ?_
      refine e_goto C (tgt := 117) dX6_about_113 (by decide) ?_
      exact e_ireturn C dX6_about_117 ⟨rfl, rfl⟩
    · refine e_tabIn C (x := 4) (off := 69) (tgt := 96) dX6_about_27 (by decide) (by decide) (by decide) (by decide) (by decide) ?_
      refine e_iload_n C dX6_about_96 rfl ?_
      refine e_iconst C dX6_about_97 ?_
      refine e_iconst C dX6_about_98 ?_
      refine e_callS C (c_in (M := M) (v := 4) (a := 1) (b := 5) (by decide) (by decide) (by decide)) mt_X6_in s_X6_102 dX6_about_99 (fun ry My hqy => ?_)
      obtain ⟨rfl, hMy⟩ := hqy
      subst My
      dsimp only [Option.toList_some, List.singleton_append]
      refine e_if_eq C (tgt := 116) dX6_about_102 (by decide) (by decide) (fun h_102 => by exact absurd h_102 (by decide)) (fun h_102 => ?_)
      refine e_aload_n C dX6_about_105 rfl ?_
      refine e_getR C f_X6_25 sh_153 (hW 153 6 159 rfl) dX6_about_106 ?_
      refine e_iload_n C dX6_about_109 rfl ?_
      refine e_iconst C dX6_about_110 ?_
      refine e_isub C dX6_about_111 ?_
      refine e_iaload C dX6_about_112 sh_159 3 (by decide) (by decide) ?_
      refine e_goto C (tgt := 117) dX6_about_113 (by decide) ?_
      exact e_ireturn C dX6_about_117 ⟨rfl, rfl⟩
    · refine e_tabIn C (x := 5) (off := 69) (tgt := 96) dX6_about_27 (by decide) (by decide) (by decide) (by decide) (by decide) ?_
      refine e_iload_n C dX6_about_96 rfl ?_
      refine e_iconst C dX6_about_97 ?_
      refine e_iconst C dX6_about_98 ?_
      refine e_callS C (c_in (M := M) (v := 5) (a := 1) (b := 5) (by decide) (by decide) (by decide)) mt_X6_in s_X6_102 dX6_about_99 (fun ry My hqy => ?_)
      obtain ⟨rfl, hMy⟩ := hqy
      subst My
      dsimp only [Option.toList_some, List.singleton_append]
      refine e_if_eq C (tgt := 116) dX6_about_102 (by decide) (by decide) (fun h_102 => by exact absurd h_102 (by decide)) (fun h_102 => ?_)
      refine e_aload_n C dX6_about_105 rfl ?_
      refine e_getR C f_X6_25 sh_153 (hW 153 6 159 rfl) dX6_about_106 ?_
      refine e_iload_n C dX6_about_109 rfl ?_
      refine e_iconst C dX6_about_110 ?_
      refine e_isub C dX6_about_111 ?_
      refine e_iaload C dX6_about_112 sh_159 4 (by decide) (by decide) ?_
      refine e_goto C (tgt := 117) dX6_about_113 (by decide) ?_
      exact e_ireturn C dX6_about_117 ⟨rfl, rfl⟩
    · refine e_tabIn C (x := 6) (off := 54) (tgt := 81) dX6_about_27 (by decide) (by decide) (by decide) (by decide) (by decide) ?_
      refine e_aload_n C dX6_about_81 rfl ?_
      refine e_getI C f_X6_28 sh_153 dX6_about_82 ?_
      exact e_ireturn C dX6_about_85 ⟨rfl, rfl⟩
    · refine e_tabIn C (x := 7) (off := 59) (tgt := 86) dX6_about_27 (by decide) (by decide) (by decide) (by decide) (by decide) ?_
      refine e_aload_n C dX6_about_86 rfl ?_
      refine e_getI C f_X6_32 sh_153 dX6_about_87 ?_
      exact e_ireturn C dX6_about_90 ⟨rfl, rfl⟩
    · refine e_tabIn C (x := 8) (off := 64) (tgt := 91) dX6_about_27 (by decide) (by decide) (by decide) (by decide) (by decide) ?_
      refine e_aload_n C dX6_about_91 rfl ?_
      refine e_getI C f_X6_35 sh_153 dX6_about_92 ?_
      exact e_ireturn C dX6_about_95 ⟨rfl, rfl⟩
    · refine e_tabOut C (x := w) (tgt := 96) dX6_about_27 (by omega) hw (by decide) ?_
      refine e_iload_n C dX6_about_96 rfl ?_
      refine e_iconst C dX6_about_97 ?_
      refine e_iconst C dX6_about_98 ?_
      refine e_callS C (c_in (M := M) (v := w) (a := 1) (b := 5) hi_w (by omega) (by omega)) mt_X6_in s_X6_102 dX6_about_99 (fun ry My hqy => ?_)
      obtain ⟨rfl, hMy⟩ := hqy
      subst My
      dsimp only [Option.toList_some, List.singleton_append]
      refine e_if_eq C (tgt := 116) dX6_about_102 (by decide) (by split <;> omega) (fun h_102 => ?_) (fun h_102 => by exact absurd (ite1.mp h_102) (by omega))
      refine e_iconst C dX6_about_116 ?_
      exact e_ireturn C dX6_about_117 ⟨by rw [if_neg (by omega), if_neg (by omega), if_neg (by omega), if_neg (by omega), if_neg (by omega), if_neg (by omega), if_neg (by omega), if_neg (by omega), if_neg (by omega), if_neg (fun z => hin (by omega))], rfl⟩
  · have hin := ite1.mp h_13
    refine e_aload_n C dX6_about_16 rfl ?_
    refine e_getR C f_X6_7 sh_153 (hW 153 1 154 rfl) dX6_about_17 ?_
    refine e_iload_n C dX6_about_20 rfl ?_
    refine e_bipush C dX6_about_21 ?_
    refine e_isub C dX6_about_23 ?_
    refine e_iaload C dX6_about_24 sh_154 (w - 20).toNat (by omega) (by omega) ?_
    exact e_ireturn C dX6_about_25 ⟨by rw [if_neg (by omega), if_neg (by omega), if_neg (by omega), if_neg (by omega), if_neg (by omega), if_neg (by omega), if_neg (by omega), if_neg (by omega), if_neg (by omega), if_pos (by omega)], rfl⟩
theorem c_touchD {g : pG} {M : pMem}  {p : Int} {k : Int} (hi_p : -2147483648 ≤ p ∧ p < 2147483648) (hi_k : -2147483648 ≤ k ∧ k < 2147483648) (hJ : JD M) : pCn g 8 0 0 yX6_touch cX6_touch 6 (some .int) SH SH M [.inr (.inr 153), .inl p, .inl k] (fun r M' => ((isQ M p ∧ 0 < mI M 154 p.toNat ∧ -1 ≤ k ∧ k < 5) → r = some (.inl (sg (fun q => b01 ((soS (wtD M) (pgD M) (up (mI M 158) p.toNat k) (mI M 153 7) (mI M 153 8) q) ≠ (soS (wtD M) (pgD M) (mI M 158) (mI M 153 7) (mI M 153 8) q))) (mI M 153 0).toNat)) ∧ frD oP M M' ∧ JD M') ∧ (¬ (isQ M p ∧ 0 < mI M 154 p.toNat ∧ -1 ≤ k ∧ k < 5) → r = some (.inl (-1)) ∧ M' = M)) := by
  refine pCn_intro mt_X6_touch (fun X C => ?_)
  have hW := hJ.1
  have hn := hJ.2.1
  obtain ⟨n, hnn⟩ : ∃ n : Nat, mI M 153 0 = (n : Int) := ⟨(mI M 153 0).toNat, by omega⟩
  have en : (mI M 153 0).toNat = n := by omega
  show pE g 6 X _ SH M 0 0 0 [some (.inr (.inr 153)), some (.inl p), some (.inl k), none, none, none] []
  refine e_aload_n C dX6_touch_0 rfl ?_
  refine e_iload_n C dX6_touch_1 rfl ?_
  refine e_callV C (c_isPageD hi_p hn) mt_X6_isPage s_X6_113 dX6_touch_2 6 sh_153 rfl (fun r M1 hq => ?_)
  obtain ⟨rfl, hM⟩ := hq
  subst M1
  dsimp only [Option.toList_some, List.singleton_append]
  refine e_if_eq C (tgt := 26) dX6_touch_5 (by decide) (by split <;> omega) (fun h_5 => ?_) (fun h_5 => ?_)
  · have hall : ¬ (isQ M p ∧ 0 < mI M 154 p.toNat ∧ -1 ≤ k ∧ k < 5) := fun z => ite0.mp h_5 z.1
    refine e_iconst C dX6_touch_26 ?_
    exact e_ireturn C dX6_touch_27 ⟨fun z => absurd z hall, fun _ => ⟨rfl, rfl⟩⟩
  · have hpp := ite1.mp h_5
    have hp16 : p.toNat < 16 := by omega
    have hbn := hJ.2.2.2.2.1.1 _ hp16
    have hb8 := (hJ.2.2.2.2.1.2.1 _ hp16).1
    refine e_iload_n C dX6_touch_8 rfl ?_
    refine e_iconst C dX6_touch_9 ?_
    refine e_iconst C dX6_touch_10 ?_
    refine e_callS C (c_in (M := M) (v := k) (a := (-1)) (b := 4) hi_k (by omega) (by omega)) mt_X6_in s_X6_102 dX6_touch_11 (fun rb Mb hqb => ?_)
    obtain ⟨rfl, hMb⟩ := hqb
    subst Mb
    dsimp only [Option.toList_some, List.singleton_append]
    refine e_if_eq C (tgt := 26) dX6_touch_14 (by decide) (by split <;> omega) (fun h_14 => ?_) (fun h_14 => ?_)
    · have hall : ¬ (isQ M p ∧ 0 < mI M 154 p.toNat ∧ -1 ≤ k ∧ k < 5) := fun z => ite0.mp h_14 (by omega)
      refine e_iconst C dX6_touch_26 ?_
      exact e_ireturn C dX6_touch_27 ⟨fun z => absurd z hall, fun _ => ⟨rfl, rfl⟩⟩
    · have hb14 := ite1.mp h_14
      refine e_aload_n C dX6_touch_17 rfl ?_
      refine e_getR C f_X6_7 sh_153 (hW 153 1 154 rfl) dX6_touch_18 ?_
      refine e_iload_n C dX6_touch_21 rfl ?_
      refine e_iaload C dX6_touch_22 sh_154 p.toNat (by omega) (by omega) ?_
      refine e_if_ne C (tgt := 28) dX6_touch_23 (by decide) (by omega) (fun h_23 => ?_) (fun h_23 => ?_)
      · have hall : (isQ M p ∧ 0 < mI M 154 p.toNat ∧ -1 ≤ k ∧ k < 5) := ⟨hpp, by omega, by omega, by omega⟩
        refine e_iconst C dX6_touch_28 ?_
        refine e_istore_n C dX6_touch_29 ?_
        have l1 : ∀ (i : Nat) (N : pMem), i ≤ n → (frD oP M N ∧ JD N ∧ ∀ j, j < i → mI N 179 j = (soS (wtD M) (pgD M) (mI M 158) (mI M 153 7) (mI M 153 8) j)) → pE g 6 X (pMQ g SH (fun r M' => ((isQ M p ∧ 0 < mI M 154 p.toNat ∧ -1 ≤ k ∧ k < 5) → r = some (.inl (sg (fun q => b01 ((soS (wtD M) (pgD M) (up (mI M 158) p.toNat k) (mI M 153 7) (mI M 153 8) q) ≠ (soS (wtD M) (pgD M) (mI M 158) (mI M 153 7) (mI M 153 8) q))) (mI M 153 0).toNat)) ∧ frD oP M M' ∧ JD M') ∧ (¬ (isQ M p ∧ 0 < mI M 154 p.toNat ∧ -1 ≤ k ∧ k < 5) → r = some (.inl (-1)) ∧ M' = M)) X 0 0) SH N 0 0 30 [some (.inr (.inr 153)), some (.inl p), some (.inl k), some (.inl (i : Int)), none, none] [] := by
          refine p_for (n) _ _ ?_ ?_
          · rintro N ⟨hN, hN2, hN3⟩
            have hWN := hN2.1
            have e0 : mI N 153 0 = (n : Int) := (hN.1 153 0 (by unfold oP; omega)).trans hnn
            refine e_iload_n C dX6_touch_30 rfl ?_
            refine e_aload_n C dX6_touch_31 rfl ?_
            refine e_getI C f_X6_99 sh_153 dX6_touch_32 ?_
            rw [e0]
            refine e_icmp_ge C (tgt := 55) dX6_touch_35 (by decide) (by omega) (by omega) (fun h_35 => ?_) (fun h_35 => by exfalso; omega)
            refine e_aload_n C dX6_touch_55 rfl ?_
            refine e_getR C f_X6_22 sh_153 (hWN 153 5 158 rfl) dX6_touch_56 ?_
            refine e_iload_n C dX6_touch_59 rfl ?_
            refine e_iaload C dX6_touch_60 sh_158 p.toNat (by omega) (by omega) ?_
            rw [oP_T hN]
            refine e_istore_n C dX6_touch_61 ?_
            refine e_aload_n C dX6_touch_62 rfl ?_
            refine e_getR C f_X6_22 sh_153 (hWN 153 5 158 rfl) dX6_touch_63 ?_
            refine e_iload_n C dX6_touch_66 rfl ?_
            refine e_iload_n C dX6_touch_67 rfl ?_
            refine e_iastore C dX6_touch_68 sh_158 p.toNat (by omega) (by omega) ?_
            refine e_aload_n C dX6_touch_69 rfl ?_
            refine e_callV C (c_changes (M := (stI N 158 p.toNat k))) mt_X6_changes s_X6_110 dX6_touch_70 6 sh_153 rfl (fun ry My hqy => ?_)
            obtain ⟨rfl, hMy⟩ := hqy
            subst My
            dsimp only [Option.toList_none, List.nil_append]
            refine e_iconst C dX6_touch_73 ?_
            refine e_istore C dX6_touch_74 ?_
            refine e_iconst C dX6_touch_76 ?_
            refine e_istore C dX6_touch_77 ?_
            have hJ2 := JD_tell (p := p.toNat) hN2 (by rw [e0]; omega) hall.2.2
            have e20 : mI (stI (stI N 158 p.toNat k) 153 10 0) 153 0 = (n : Int) := by rw [stI_n _ _ (by omega), stI_n _ _ (by omega)]; exact e0
            have l2 : ∀ (i : Nat) (R : pMem), i ≤ n → (frD oP (stI (stI N 158 p.toNat k) 153 10 0) R ∧ JD R ∧ ∀ j, j < n → mI R 179 j = (soS (wtD M) (pgD M) (mI M 158) (mI M 153 7) (mI M 153 8) j)) → pE g 6 X (pMQ g SH (fun r M' => ((isQ M p ∧ 0 < mI M 154 p.toNat ∧ -1 ≤ k ∧ k < 5) → r = some (.inl (sg (fun q => b01 ((soS (wtD M) (pgD M) (up (mI M 158) p.toNat k) (mI M 153 7) (mI M 153 8) q) ≠ (soS (wtD M) (pgD M) (mI M 158) (mI M 153 7) (mI M 153 8) q))) (mI M 153 0).toNat)) ∧ frD oP M M' ∧ JD M') ∧ (¬ (isQ M p ∧ 0 < mI M 154 p.toNat ∧ -1 ≤ k ∧ k < 5) → r = some (.inl (-1)) ∧ M' = M)) X 0 0) SH R 0 0 79 [some (.inr (.inr 153)), some (.inl p), some (.inl k), some (.inl (mI M 158 p.toNat)), some (.inl (sg (fun q => b01 ((soS (wtD M) (pgD M) (up (mI M 158) p.toNat k) (mI M 153 7) (mI M 153 8) q) ≠ (soS (wtD M) (pgD M) (mI M 158) (mI M 153 7) (mI M 153 8) q))) i)), some (.inl (i : Int))] [] := by
              refine p_for (n) _ _ ?_ ?_
              · rintro R ⟨hR, hR2, hR3⟩
                have hWR := hR2.1
                have e0 : mI R 153 0 = (n : Int) := (hR.1 153 0 (by unfold oP; omega)).trans e20
                have hF : frD oP M (stI (stI R 158 p.toNat (mI M 158 p.toNat)) 153 10 0) := ⟨fun b j hb => by
                  by_cases e : b = 158 ∧ j = p.toNat
                  · obtain ⟨e1, e2⟩ := e; subst e1; subst e2; rw [stI_n _ _ (by omega), stI_s]
                  · rw [stI_n _ _ (by unfold oP at hb; omega), stI_n _ _ (by omega), hR.1 b j hb, stI_n _ _ (by unfold oP at hb; omega), stI_n _ _ (by omega)]; exact hN.1 b j hb, fun b j => (hR.2.1 b j).trans (hN.2.1 b j), fun b j => (hR.2.2 b j).trans (hN.2.2 b j)⟩
                refine e_iload C dX6_touch_79 rfl ?_
                refine e_aload_n C dX6_touch_81 rfl ?_
                refine e_getI C f_X6_99 sh_153 dX6_touch_82 ?_
                rw [e0]
                refine e_icmp_ge C (tgt := 120) dX6_touch_85 (by decide) (by omega) (by omega) (fun h_85 => ?_) (fun h_85 => by exfalso; omega)
                refine e_aload_n C dX6_touch_120 rfl ?_
                refine e_getR C f_X6_22 sh_153 (hWR 153 5 158 rfl) dX6_touch_121 ?_
                refine e_iload_n C dX6_touch_124 rfl ?_
                refine e_iload_n C dX6_touch_125 rfl ?_
                refine e_iastore C dX6_touch_126 sh_158 p.toNat (by omega) (by omega) ?_
                refine e_aload_n C dX6_touch_127 rfl ?_
                refine e_callV C (c_changes (M := (stI R 158 p.toNat (mI M 158 p.toNat)))) mt_X6_changes s_X6_110 dX6_touch_128 6 sh_153 rfl (fun rz Mz hqz => ?_)
                obtain ⟨rfl, hMz⟩ := hqz
                subst Mz
                dsimp only [Option.toList_none, List.nil_append]
                refine e_iload C dX6_touch_131 rfl ?_
                exact e_ireturn C dX6_touch_133 ⟨fun _ => ⟨by rw [en], hF, JD_tell hR2 (by rw [e0]; omega) (hJ.2.2.2.2.2.1.1 _ hp16)⟩, fun z => absurd hall z⟩
              · rintro i R hi ⟨hR, hR2, hR3⟩ ih
                have hWR := hR2.1
                have e0 : mI R 153 0 = (n : Int) := (hR.1 153 0 (by unfold oP; omega)).trans e20
                have eS : soS (wtD R) (pgD R) (mI R 158) (mI R 153 7) (mI R 153 8) i = (soS (wtD M) (pgD M) (up (mI M 158) p.toNat k) (mI M 153 7) (mI M 153 8) i) := by
                  rw [oP_wt hR, oP_pg hR, oP_T hR, hR.1 153 7 (by unfold oP; omega), hR.1 153 8 (by unfold oP; omega), wtD_st (by decide), wtD_st (by decide), pgD_st (by decide), pgD_st (by decide), oP_wt hN, oP_pg hN, stI_rowN _ _ _ (by decide), stI_row, oP_T hN, stI_n _ _ (by omega), stI_n _ _ (by omega), stI_n _ _ (by omega), stI_n _ _ (by omega), hN.1 153 7 (by unfold oP; omega), hN.1 153 8 (by unfold oP; omega)]
                have r1 := soS_r (wtD M) (pgD M) (mI M 158) (mI M 153 7) (mI M 153 8) i
                have r2 := soS_r (wtD M) (pgD M) (up (mI M 158) p.toNat k) (mI M 153 7) (mI M 153 8) i
                refine e_iload C dX6_touch_79 rfl ?_
                refine e_aload_n C dX6_touch_81 rfl ?_
                refine e_getI C f_X6_99 sh_153 dX6_touch_82 ?_
                rw [e0]
                refine e_icmp_ge C (tgt := 120) dX6_touch_85 (by decide) (by omega) (by omega) (fun h_85 => by exfalso; omega) (fun h_85 => ?_)
                refine e_iload C dX6_touch_88 rfl ?_
                refine e_aload_n C dX6_touch_90 rfl ?_
                refine e_iload C dX6_touch_91 rfl ?_
                refine e_callV C (c_sortOf (M := R) (p := i) hR2 (by omega)) mt_X6_sortOf s_X6_192 dX6_touch_93 6 sh_153 rfl (fun rs Ms hqs => ?_)
                obtain ⟨rfl, s1, s2, -, -⟩ := hqs
                dsimp only [Option.toList_some, List.singleton_append]
                rw [eS]
                have e179 : mI Ms 179 = mI R 179 := frD_row s1 (fun j => by unfold oL; omega)
                refine e_aload_n C dX6_touch_96 rfl ?_
                refine e_getR C f_X6_96 sh_153 (s2.1.1 153 38 179 rfl) dX6_touch_97 ?_
                refine e_iload C dX6_touch_100 rfl ?_
                refine e_iaload C dX6_touch_102 sh_179 _ rfl (by omega) ?_
                rw [e179, hR3 i hi]
                refine e_icmp_eq C (tgt := 110) dX6_touch_103 (by decide) (by omega) (by omega) (fun h_103 => ?_) (fun h_103 => ?_)
                · have hs : (sg (fun q => b01 ((soS (wtD M) (pgD M) (up (mI M 158) p.toNat k) (mI M 153 7) (mI M 153 8) q) ≠ (soS (wtD M) (pgD M) (mI M 158) (mI M 153 7) (mI M 153 8) q))) i) + 0 = (sg (fun q => b01 ((soS (wtD M) (pgD M) (up (mI M 158) p.toNat k) (mI M 153 7) (mI M 153 8) q) ≠ (soS (wtD M) (pgD M) (mI M 158) (mI M 153 7) (mI M 153 8) q))) (i + 1)) := by simp only [sg]; rw [show b01 ((soS (wtD M) (pgD M) (up (mI M 158) p.toNat k) (mI M 153 7) (mI M 153 8) i) ≠ (soS (wtD M) (pgD M) (mI M 158) (mI M 153 7) (mI M 153 8) i)) = 0 from if_neg (fun z => z h_103)]
                  refine e_iconst C dX6_touch_110 ?_
                  refine e_iadd C dX6_touch_111 ?_
                  refine e_istore C dX6_touch_112 ?_
                  refine e_iinc C dX6_touch_114 rfl ?_
                  refine e_goto C (tgt := 79) dX6_touch_117 (by decide) ?_
                  rw [show ((i : Int) + 1) = ((i + 1 : Nat) : Int) by omega, hs]
                  exact ih Ms ⟨frD_tr hR (oL_P s1), s2.1, fun j hj => by rw [e179]; exact hR3 j hj⟩
                · have hs : (sg (fun q => b01 ((soS (wtD M) (pgD M) (up (mI M 158) p.toNat k) (mI M 153 7) (mI M 153 8) q) ≠ (soS (wtD M) (pgD M) (mI M 158) (mI M 153 7) (mI M 153 8) q))) i) + 1 = (sg (fun q => b01 ((soS (wtD M) (pgD M) (up (mI M 158) p.toNat k) (mI M 153 7) (mI M 153 8) q) ≠ (soS (wtD M) (pgD M) (mI M 158) (mI M 153 7) (mI M 153 8) q))) (i + 1)) := by simp only [sg]; rw [show b01 ((soS (wtD M) (pgD M) (up (mI M 158) p.toNat k) (mI M 153 7) (mI M 153 8) i) ≠ (soS (wtD M) (pgD M) (mI M 158) (mI M 153 7) (mI M 153 8) i)) = 1 from if_pos h_103]
                  refine e_iconst C dX6_touch_106 ?_
                  refine e_goto C (tgt := 111) dX6_touch_107 (by decide) ?_
                  refine e_iadd C dX6_touch_111 ?_
                  refine e_istore C dX6_touch_112 ?_
                  refine e_iinc C dX6_touch_114 rfl ?_
                  refine e_goto C (tgt := 79) dX6_touch_117 (by decide) ?_
                  rw [show ((i : Int) + 1) = ((i + 1 : Nat) : Int) by omega, hs]
                  exact ih Ms ⟨frD_tr hR (oL_P s1), s2.1, fun j hj => by rw [e179]; exact hR3 j hj⟩
            exact l2 0 _ (by omega) ⟨frD_rf, hJ2, fun j hj => by rw [stI_rowN _ _ _ (by decide), stI_rowN _ _ _ (by decide)]; exact hN3 j hj⟩
          · rintro i N hi ⟨hN, hN2, hN3⟩ ih
            have hWN := hN2.1
            have e0 : mI N 153 0 = (n : Int) := (hN.1 153 0 (by unfold oP; omega)).trans hnn
            refine e_iload_n C dX6_touch_30 rfl ?_
            refine e_aload_n C dX6_touch_31 rfl ?_
            refine e_getI C f_X6_99 sh_153 dX6_touch_32 ?_
            rw [e0]
            refine e_icmp_ge C (tgt := 55) dX6_touch_35 (by decide) (by omega) (by omega) (fun h_35 => by exfalso; omega) (fun h_35 => ?_)
            refine e_aload_n C dX6_touch_38 rfl ?_
            refine e_getR C f_X6_96 sh_153 (hWN 153 38 179 rfl) dX6_touch_39 ?_
            refine e_iload_n C dX6_touch_42 rfl ?_
            refine e_aload_n C dX6_touch_43 rfl ?_
            refine e_iload_n C dX6_touch_44 rfl ?_
            refine e_callV C (c_sortOf (M := N) (p := i) hN2 (by omega)) mt_X6_sortOf s_X6_192 dX6_touch_45 6 sh_153 rfl (fun rs Ms hqs => ?_)
            obtain ⟨rfl, s1, s2, -, -⟩ := hqs
            dsimp only [Option.toList_some, List.singleton_append]
            rw [oP_wt hN, oP_pg hN, oP_T hN, hN.1 153 7 (by unfold oP; omega), hN.1 153 8 (by unfold oP; omega)]
            have e179 : mI Ms 179 = mI N 179 := frD_row s1 (fun j => by unfold oL; omega)
            refine e_iastore C dX6_touch_48 sh_179 _ rfl (by omega) ?_
            refine e_iinc C dX6_touch_49 rfl ?_
            refine e_goto C (tgt := 30) dX6_touch_52 (by decide) ?_
            rw [show ((i : Int) + 1) = ((i + 1 : Nat) : Int) by omega]
            refine ih _ ⟨frD_tr hN (frD_tr (oL_P s1) (frD_st (fun z => by unfold oP at z; omega))), JD_K s2.1 (frD_st (fun z => z.2.1 rfl)), fun j hj => ?_⟩
            by_cases e : j = i
            · subst e; exact stI_s _ _ _ _
            · rw [stI_n _ _ (Or.inr e), e179]; exact hN3 j (by omega)
        exact l1 0 M (by omega) ⟨frD_rf, hJ, fun j hj => by omega⟩
      · have hall : ¬ (isQ M p ∧ 0 < mI M 154 p.toNat ∧ -1 ≤ k ∧ k < 5) := fun z => by have := z.2.1; omega
        refine e_iconst C dX6_touch_26 ?_
        exact e_ireturn C dX6_touch_27 ⟨fun z => absurd z hall, fun _ => ⟨rfl, rfl⟩⟩
