/-! ===== the model's kind, spot, lay, moved, read ===== -/
theorem c_kindD {g : pG} {M : pMem}  {k : Int} {w : Int} (hi_k : -2147483648 ≤ k ∧ k < 2147483648) (hi_w : -2147483648 ≤ w ∧ w < 2147483648) (hJ : JD M) : pCn g 4 0 0 yX6_kind cX6_kind 3 (some .int) SH SH M [.inr (.inr 153), .inl k, .inl w] (fun r M' => r = some (.inl (if 0 ≤ k ∧ k < 5 then (if w = 0 then kTn (mI M 158) k else if w = 1 then (spc (pgD M) (mI M 158) k 99 : Int) else -1) else -1)) ∧ frD oQ M M' ∧ JD M') := by
  refine pCn_intro mt_X6_kind (fun X C => ?_)
  have hW := hJ.1
  show pE g 3 X _ SH M 0 0 0 [some (.inr (.inr 153)), some (.inl k), some (.inl w)] []
  refine e_aload_n C dX6_kind_0 rfl ?_
  refine e_callV C (c_makes (M := M) hJ) mt_X6_makes s_X6_129 dX6_kind_1 6 sh_153 rfl (fun rm Mm hqm => ?_)
  obtain ⟨rfl, q1, q2⟩ := hqm
  dsimp only [Option.toList_none, List.nil_append]
  have hWm := frD_W q1 hW
  refine e_iload_n C dX6_kind_4 rfl ?_
  refine e_iconst C dX6_kind_5 ?_
  refine e_iconst C dX6_kind_6 ?_
  refine e_callS C (c_in (M := Mm) (v := k) (a := 0) (b := 4) hi_k (by omega) (by omega)) mt_X6_in s_X6_102 dX6_kind_7 (fun ri Mi hqi => ?_)
  obtain ⟨rfl, hMi⟩ := hqi
  subst Mi
  dsimp only [Option.toList_some, List.singleton_append]
  refine e_if_ne C (tgt := 17) dX6_kind_10 (by decide) (by split <;> omega) (fun h_10 => ?_) (fun h_10 => ?_)
  · have hk5 := ite1.mp h_10
    obtain ⟨j, rfl⟩ := Int.eq_ofNat_of_zero_le hk5.1
    have hj : j < 5 := by omega
    obtain ⟨m1, m2, m3, m4⟩ := made_kd q2 hj
    rw [oQ_pg q1, oQ_T q1] at m4
    have hkT := kn_r (pgD M) (mI M 158) (j : Int) 1
    have m5 : mI Mm 161 j = (spc (pgD M) (mI M 158) (j : Int) 99 : Int) := by rw [m1, m4.2.1]
    refine e_iload_n C dX6_kind_17 rfl ?_
    refine e_if_ne C (tgt := 30) dX6_kind_18 (by decide) (by omega) (fun h_18 => ?_) (fun h_18 => ?_)
    · skip
      refine e_iload_n C dX6_kind_30 rfl ?_
      refine e_iconst C dX6_kind_31 ?_
      refine e_icmp_ne C (tgt := 44) dX6_kind_32 (by decide) (by omega) (by omega) (fun h_32 => ?_) (fun h_32 => ?_)
      · skip
        refine e_iconst C dX6_kind_44 ?_
        refine e_ireturn C dX6_kind_45 ⟨?_, q1, q2.1⟩
        first
          | rw [if_neg (fun z => hk5 (by omega))]
          | rw [if_pos (by omega), if_pos (by omega)]
          | rw [if_pos (by omega), if_neg (by omega), if_pos (by omega)]
          | rw [if_pos (by omega), if_neg (by omega), if_neg (by omega)]
      · skip
        refine e_aload_n C dX6_kind_35 rfl ?_
        refine e_getR C f_X6_41 sh_153 (hWm 153 12 161 rfl) dX6_kind_36 ?_
        refine e_iload_n C dX6_kind_39 rfl ?_
        refine e_iaload C dX6_kind_40 sh_161 _ rfl (by omega) ?_
        rw [m5]
        refine e_goto C (tgt := 45) dX6_kind_41 (by decide) ?_
        refine e_ireturn C dX6_kind_45 ⟨?_, q1, q2.1⟩
        first
          | rw [if_neg (fun z => hk5 (by omega))]
          | rw [if_pos (by omega), if_pos (by omega)]
          | rw [if_pos (by omega), if_neg (by omega), if_pos (by omega)]
          | rw [if_pos (by omega), if_neg (by omega), if_neg (by omega)]
    · skip
      refine e_aload_n C dX6_kind_21 rfl ?_
      refine e_getR C f_X6_38 sh_153 (hWm 153 11 160 rfl) dX6_kind_22 ?_
      refine e_iload_n C dX6_kind_25 rfl ?_
      refine e_iaload C dX6_kind_26 sh_160 _ rfl (by omega) ?_
      rw [m4.1]
      refine e_goto C (tgt := 45) dX6_kind_27 (by decide) ?_
      refine e_ireturn C dX6_kind_45 ⟨?_, q1, q2.1⟩
      first
        | rw [if_neg (fun z => hk5 (by omega))]
        | rw [if_pos (by omega), if_pos (by omega)]
        | rw [if_pos (by omega), if_neg (by omega), if_pos (by omega)]
        | rw [if_pos (by omega), if_neg (by omega), if_neg (by omega)]
  · have hk5 := fun z => h_10 (ite1.mpr z)
    refine e_iconst C dX6_kind_13 ?_
    refine e_goto C (tgt := 45) dX6_kind_14 (by decide) ?_
    refine e_ireturn C dX6_kind_45 ⟨?_, q1, q2.1⟩
    first
      | rw [if_neg (fun z => hk5 (by omega))]
      | rw [if_pos (by omega), if_pos (by omega)]
      | rw [if_pos (by omega), if_neg (by omega), if_pos (by omega)]
      | rw [if_pos (by omega), if_neg (by omega), if_neg (by omega)]
theorem c_spotD {g : pG} {M : pMem}  {k : Int} {i : Int} {w : Int} (hi_k : -2147483648 ≤ k ∧ k < 2147483648) (hi_i : -2147483648 ≤ i ∧ i < 2147483648) (hi_w : -2147483648 ≤ w ∧ w < 2147483648) (hJ : JD M) : pCn g 4 0 0 yX6_spot cX6_spot 5 (some .int) SH SH M [.inr (.inr 153), .inl k, .inl i, .inl w] (fun r M' => (((0 ≤ k ∧ k < 5) ∧ 0 ≤ i ∧ i ≤ (spc (pgD M) (mI M 158) k 99 : Int) - 1) → ∃ tot n Z, isKd (pgD M) (mI M 158) k tot n Z ∧ r = some (.inl (if w = 0 then Z.2.2.1 i.toNat else if w = 1 then Z.1 i.toNat else if w = 2 then Z.2.1 i.toNat else if w = 3 then Z.2.2.2 i.toNat else -1))) ∧ (¬ ((0 ≤ k ∧ k < 5) ∧ 0 ≤ i ∧ i ≤ (spc (pgD M) (mI M 158) k 99 : Int) - 1) → r = some (.inl (-1))) ∧ frD oQ M M' ∧ JD M') := by
  refine pCn_intro mt_X6_spot (fun X C => ?_)
  have hW := hJ.1
  show pE g 5 X _ SH M 0 0 0 [some (.inr (.inr 153)), some (.inl k), some (.inl i), some (.inl w), none] []
  refine e_aload_n C dX6_spot_0 rfl ?_
  refine e_callV C (c_makes (M := M) hJ) mt_X6_makes s_X6_129 dX6_spot_1 6 sh_153 rfl (fun rm Mm hqm => ?_)
  obtain ⟨rfl, q1, q2⟩ := hqm
  dsimp only [Option.toList_none, List.nil_append]
  have hWm := frD_W q1 hW
  refine e_iload_n C dX6_spot_4 rfl ?_
  refine e_iconst C dX6_spot_5 ?_
  refine e_iconst C dX6_spot_6 ?_
  refine e_callS C (c_in (M := Mm) (v := k) (a := 0) (b := 4) hi_k (by omega) (by omega)) mt_X6_in s_X6_102 dX6_spot_7 (fun ri Mi hqi => ?_)
  obtain ⟨rfl, hMi⟩ := hqi
  subst Mi
  dsimp only [Option.toList_some, List.singleton_append]
  refine e_if_eq C (tgt := 29) dX6_spot_10 (by decide) (by split <;> omega) (fun h_10 => ?_) (fun h_10 => ?_)
  · have hk5 := ite0.mp h_10
    have hall : ¬ ((0 ≤ k ∧ k < 5) ∧ 0 ≤ i ∧ i ≤ (spc (pgD M) (mI M 158) k 99 : Int) - 1) := fun z => hk5 (by omega)
    refine e_iconst C dX6_spot_29 ?_
    exact e_ireturn C dX6_spot_30 ⟨fun z => absurd z hall, fun _ => rfl, q1, q2.1⟩
  · have hk5 := ite1.mp h_10
    obtain ⟨j, rfl⟩ := Int.eq_ofNat_of_zero_le hk5.1
    have hj : j < 5 := by omega
    obtain ⟨m1, m2, m3, m4⟩ := made_kd q2 hj
    rw [oQ_pg q1, oQ_T q1] at m4
    have hkT := kn_r (pgD M) (mI M 158) (j : Int) 1
    have m5 : mI Mm 161 j = (spc (pgD M) (mI M 158) (j : Int) 99 : Int) := by rw [m1, m4.2.1]
    refine e_iload_n C dX6_spot_13 rfl ?_
    refine e_iconst C dX6_spot_14 ?_
    refine e_aload_n C dX6_spot_15 rfl ?_
    refine e_getR C f_X6_41 sh_153 (hWm 153 12 161 rfl) dX6_spot_16 ?_
    refine e_iload_n C dX6_spot_19 rfl ?_
    refine e_iaload C dX6_spot_20 sh_161 _ rfl (by omega) ?_
    rw [m5]
    refine e_iconst C dX6_spot_21 ?_
    refine e_isub C dX6_spot_22 ?_
    refine e_callS C (c_in (M := Mm) (v := i) (a := 0) (b := (spc (pgD M) (mI M 158) (j : Int) 99 : Int) - 1) hi_i (by omega) (by have := m4.2.1; omega)) mt_X6_in s_X6_102 dX6_spot_23 (fun r2 M2 hq2 => ?_)
    obtain ⟨rfl, hM2⟩ := hq2
    subst M2
    dsimp only [Option.toList_some, List.singleton_append]
    refine e_if_ne C (tgt := 31) dX6_spot_26 (by decide) (by split <;> omega) (fun h_26 => ?_) (fun h_26 => ?_)
    · have hi5 := ite1.mp h_26
      obtain ⟨ii, rfl⟩ := Int.eq_ofNat_of_zero_le hi5.1
      have hii : ii < nsD Mm j := by rw [m4.2.1]; omega
      have hall : ((0 ≤ (j : Int) ∧ (j : Int) < 5) ∧ 0 ≤ (ii : Int) ∧ (ii : Int) ≤ (spc (pgD M) (mI M 158) (j : Int) 99 : Int) - 1) := ⟨by omega, hi5⟩
      have hst := (m3 ii hii).2.2.2
      refine e_bipush C dX6_spot_31 ?_
      refine e_iload_n C dX6_spot_33 rfl ?_
      refine e_imul C dX6_spot_34 ?_
      refine e_iload_n C dX6_spot_35 rfl ?_
      refine e_iadd C dX6_spot_36 ?_
      refine e_istore C dX6_spot_37 ?_
      refine e_iload_n C dX6_spot_39 rfl ?_
      have hw4 : w = 0 ∨ w = 1 ∨ w = 2 ∨ w = 3 ∨ (w < 0 ∨ 3 < w) := by omega
      rcases hw4 with rfl | rfl | rfl | rfl | hw
      · refine e_tabIn C (x := 0) (off := 32) (tgt := 72) dX6_spot_40 (by decide) (by decide) (by decide) (by decide) (by decide) ?_
        refine e_aload_n C dX6_spot_72 rfl ?_
        refine e_getR C f_X6_44 sh_153 (hWm 153 13 162 rfl) dX6_spot_73 ?_
        refine e_iload C dX6_spot_76 rfl ?_
        refine e_iaload C dX6_spot_78 sh_162 (16 * j + ii) (by omega) (by omega) ?_
        exact e_ireturn C dX6_spot_79 ⟨fun _ => ⟨_, _, _, m4, by rw [Int.toNat_natCast, if_pos rfl]; rfl⟩, fun z => absurd hall z, q1, q2.1⟩
      · refine e_tabIn C (x := 1) (off := 40) (tgt := 80) dX6_spot_40 (by decide) (by decide) (by decide) (by decide) (by decide) ?_
        refine e_aload_n C dX6_spot_80 rfl ?_
        refine e_getR C f_X6_47 sh_153 (hWm 153 14 163 rfl) dX6_spot_81 ?_
        refine e_iload C dX6_spot_84 rfl ?_
        refine e_iaload C dX6_spot_86 sh_163 (16 * j + ii) (by omega) (by omega) ?_
        exact e_ireturn C dX6_spot_87 ⟨fun _ => ⟨_, _, _, m4, by rw [Int.toNat_natCast, if_neg (by decide), if_pos rfl]; rfl⟩, fun z => absurd hall z, q1, q2.1⟩
      · refine e_tabIn C (x := 2) (off := 48) (tgt := 88) dX6_spot_40 (by decide) (by decide) (by decide) (by decide) (by decide) ?_
        refine e_aload_n C dX6_spot_88 rfl ?_
        refine e_getR C f_X6_50 sh_153 (hWm 153 15 164 rfl) dX6_spot_89 ?_
        refine e_iload C dX6_spot_92 rfl ?_
        refine e_iaload C dX6_spot_94 sh_164 (16 * j + ii) (by omega) (by omega) ?_
        exact e_ireturn C dX6_spot_95 ⟨fun _ => ⟨_, _, _, m4, by rw [Int.toNat_natCast, if_neg (by decide), if_neg (by decide), if_pos rfl]; rfl⟩, fun z => absurd hall z, q1, q2.1⟩
      · refine e_tabIn C (x := 3) (off := 56) (tgt := 96) dX6_spot_40 (by decide) (by decide) (by decide) (by decide) (by decide) ?_
        refine e_aload_n C dX6_spot_96 rfl ?_
        refine e_getR C f_X6_53 sh_153 (hWm 153 16 165 rfl) dX6_spot_97 ?_
        refine e_iload C dX6_spot_100 rfl ?_
        refine e_baload C dX6_spot_102 sh_165 (16 * j + ii) (by omega) (by omega) ?_
        have hst2 : mI Mm 165 (16 * j + ii) = 0 ∨ mI Mm 165 (16 * j + ii) = 1 := hst
        refine e_if_eq C (tgt := 110) dX6_spot_103 (by decide) (by omega) (fun h_103 => ?_) (fun h_103 => ?_)
        · have hve : (kdS Mm j).2.2.2 ii = 0 := h_103
          refine e_iconst C dX6_spot_110 ?_
          exact e_ireturn C dX6_spot_111 ⟨fun _ => ⟨_, _, _, m4, by rw [Int.toNat_natCast, if_neg (by decide), if_neg (by decide), if_neg (by decide), if_pos rfl, hve]⟩, fun z => absurd hall z, q1, q2.1⟩
        · have hve : (kdS Mm j).2.2.2 ii = 1 := by rcases hst2 with z | z; (· exact absurd z h_103); exact z
          refine e_iconst C dX6_spot_106 ?_
          refine e_goto C (tgt := 111) dX6_spot_107 (by decide) ?_
          exact e_ireturn C dX6_spot_111 ⟨fun _ => ⟨_, _, _, m4, by rw [Int.toNat_natCast, if_neg (by decide), if_neg (by decide), if_neg (by decide), if_pos rfl, hve]⟩, fun z => absurd hall z, q1, q2.1⟩
      · refine e_tabOut C (x := w) (tgt := 112) dX6_spot_40 (by omega) hw (by decide) ?_
        refine e_iconst C dX6_spot_112 ?_
        exact e_ireturn C dX6_spot_113 ⟨fun _ => ⟨_, _, _, m4, by rw [if_neg (by omega), if_neg (by omega), if_neg (by omega), if_neg (by omega)]⟩, fun z => absurd hall z, q1, q2.1⟩
    · have hall : ¬ ((0 ≤ (j : Int) ∧ (j : Int) < 5) ∧ 0 ≤ i ∧ i ≤ (spc (pgD M) (mI M 158) (j : Int) 99 : Int) - 1) := fun z => h_26 (ite1.mpr z.2)
      refine e_iconst C dX6_spot_29 ?_
      exact e_ireturn C dX6_spot_30 ⟨fun z => absurd z hall, fun _ => rfl, q1, q2.1⟩
theorem c_layD {g : pG} {M : pMem}  {p : Int} {k : Int} {w : Int} (hi_p : -2147483648 ≤ p ∧ p < 2147483648) (hi_k : -2147483648 ≤ k ∧ k < 2147483648) (hi_w : -2147483648 ≤ w ∧ w < 2147483648) (hJ : JD M) : pCn g 6 0 0 yX6_lay cX6_lay 4 (some .int) SH SH M [.inr (.inr 153), .inl p, .inl k, .inl w] (fun r M' => r = some (.inl (if (isQ M p ∧ hasQ (mI M 158) k) then (if w = 0 then (kyS (wtD M) (pgD M) (mI M 158) p.toNat k.toNat) / 341812114609 else if 10 ≤ w ∧ w - 10 < mI M 154 p.toNat then dgF (kyS (wtD M) (pgD M) (mI M 158) p.toNat k.toNat) (w - 10).toNat else -1) else -1)) ∧ frD oQ M M' ∧ JD M') := by
  refine pCn_intro mt_X6_lay (fun X C => ?_)
  have hW := hJ.1
  show pE g 4 X _ SH M 0 0 0 [some (.inr (.inr 153)), some (.inl p), some (.inl k), some (.inl w)] []
  refine e_aload_n C dX6_lay_0 rfl ?_
  refine e_iload_n C dX6_lay_1 rfl ?_
  refine e_callV C (c_isPageD hi_p hJ.2.1) mt_X6_isPage s_X6_113 dX6_lay_2 6 sh_153 rfl (fun r M1 hq => ?_)
  obtain ⟨rfl, hM⟩ := hq
  subst M1
  dsimp only [Option.toList_some, List.singleton_append]
  refine e_if_eq C (tgt := 39) dX6_lay_5 (by decide) (by split <;> omega) (fun h_5 => ?_) (fun h_5 => ?_)
  · have hpp := ite0.mp h_5
    have hfin : (if (isQ M p ∧ hasQ (mI M 158) k) then (if w = 0 then (kyS (wtD M) (pgD M) (mI M 158) p.toNat k.toNat) / 341812114609 else if 10 ≤ w ∧ w - 10 < mI M 154 p.toNat then dgF (kyS (wtD M) (pgD M) (mI M 158) p.toNat k.toNat) (w - 10).toNat else -1) else -1) = -1 := by rw [if_neg (fun z => hpp z.1)]
    refine e_iconst C dX6_lay_39 ?_
    exact e_ireturn C dX6_lay_40 ⟨by rw [hfin], frD_rf, hJ⟩
  · have hpp := ite1.mp h_5
    have hpr : p.toNat < 16 := by have := hJ.2.1; omega
    have hbn := hJ.2.2.2.2.1.1 _ hpr
    have hb8 := (hJ.2.2.2.2.1.2.1 _ hpr).1
    refine e_iload_n C dX6_lay_8 rfl ?_
    refine e_if_eq C (tgt := 30) dX6_lay_9 (by decide) (by omega) (fun h_9 => ?_) (fun h_9 => ?_)
    · skip
      refine e_aload_n C dX6_lay_30 rfl ?_
      refine e_iload_n C dX6_lay_31 rfl ?_
      refine e_iload_n C dX6_lay_32 rfl ?_
      refine e_callV C (c_isLaid (M := M) hi_p hi_k hJ) mt_X6_isLaid s_X6_173 dX6_lay_33 6 sh_153 rfl (fun rl Ml hql => ?_)
      obtain ⟨hl1, hl2, hl3, hl4⟩ := hql
      by_cases hall : (isQ M p ∧ hasQ (mI M 158) k)
      rotate_left
      · have hr := hl2 hall
        subst rl
        dsimp only [Option.toList_some, List.singleton_append]
        refine e_if_ne C (tgt := 41) dX6_lay_36 (by decide) (by decide) (fun h_36 => by exact absurd rfl h_36) (fun h_36 => ?_)
        refine e_iconst C dX6_lay_39 ?_
        exact e_ireturn C dX6_lay_40 ⟨by rw [if_neg hall], hl3, hl4⟩
      obtain ⟨hr, hld⟩ := hl1 hall
      subst rl
      dsimp only [Option.toList_some, List.singleton_append]
      obtain ⟨n1, n2, n3, n4, n5, n6, n7, n8, n10, n9⟩ := hld
      have hWl := frD_W hl3 hW
      refine e_if_ne C (tgt := 41) dX6_lay_36 (by decide) (by decide) (fun h_36 => ?_) (fun h_36 => by exact absurd (by decide) h_36)
      refine e_iload_n C dX6_lay_41 rfl ?_
      refine e_if_ne C (tgt := 52) dX6_lay_42 (by decide) (by omega) (fun h_42 => ?_) (fun h_42 => ?_)
      · have hw0 := h_42
        refine e_aload_n C dX6_lay_52 rfl ?_
        refine e_getR C f_X6_84 sh_153 (hWl 153 31 175 rfl) dX6_lay_53 ?_
        refine e_iload_n C dX6_lay_56 rfl ?_
        refine e_bipush C dX6_lay_57 ?_
        refine e_isub C dX6_lay_59 ?_
        refine e_iaload C dX6_lay_60 sh_175 (w - 10).toNat (by omega) (by omega) ?_
        rw [n4 _ (by omega)]
        refine e_ireturn C dX6_lay_61 ⟨?_, hl3, hl4⟩
        first
          | rw [if_pos hall, if_pos hw0]
          | rw [if_pos hall, if_neg hw0, if_pos (by omega)]
      · have hw0 := Classical.not_not.mp h_42
        refine e_aload_n C dX6_lay_45 rfl ?_
        refine e_getI C f_X6_146 sh_153 dX6_lay_46 ?_
        rw [n1]
        refine e_goto C (tgt := 61) dX6_lay_49 (by decide) ?_
        refine e_ireturn C dX6_lay_61 ⟨?_, hl3, hl4⟩
        first
          | rw [if_pos hall, if_pos hw0]
          | rw [if_pos hall, if_neg hw0, if_pos (by omega)]
    · skip
      refine e_iload_n C dX6_lay_12 rfl ?_
      refine e_bipush C dX6_lay_13 ?_
      refine e_bipush C dX6_lay_15 ?_
      refine e_aload_n C dX6_lay_17 rfl ?_
      refine e_getR C f_X6_7 sh_153 (hW 153 1 154 rfl) dX6_lay_18 ?_
      refine e_iload_n C dX6_lay_21 rfl ?_
      refine e_iaload C dX6_lay_22 sh_154 p.toNat (by omega) (by omega) ?_
      refine e_iadd C dX6_lay_23 ?_
      refine e_callS C (c_in (M := M) (v := w) (a := 10) (b := 9 + mI M 154 p.toNat) hi_w (by omega) (by omega)) mt_X6_in s_X6_102 dX6_lay_24 (fun r2 M2 hq2 => ?_)
      obtain ⟨rfl, hM2⟩ := hq2
      subst M2
      dsimp only [Option.toList_some, List.singleton_append]
      refine e_if_eq C (tgt := 39) dX6_lay_27 (by decide) (by split <;> omega) (fun h_27 => ?_) (fun h_27 => ?_)
      · have hin := ite0.mp h_27
        have hfin : (if (isQ M p ∧ hasQ (mI M 158) k) then (if w = 0 then (kyS (wtD M) (pgD M) (mI M 158) p.toNat k.toNat) / 341812114609 else if 10 ≤ w ∧ w - 10 < mI M 154 p.toNat then dgF (kyS (wtD M) (pgD M) (mI M 158) p.toNat k.toNat) (w - 10).toNat else -1) else -1) = -1 := by
          split
          · rw [if_neg (by omega)]
          · rfl
        refine e_iconst C dX6_lay_39 ?_
        exact e_ireturn C dX6_lay_40 ⟨by rw [hfin], frD_rf, hJ⟩
      · have hin := ite1.mp h_27
        refine e_aload_n C dX6_lay_30 rfl ?_
        refine e_iload_n C dX6_lay_31 rfl ?_
        refine e_iload_n C dX6_lay_32 rfl ?_
        refine e_callV C (c_isLaid (M := M) hi_p hi_k hJ) mt_X6_isLaid s_X6_173 dX6_lay_33 6 sh_153 rfl (fun rl Ml hql => ?_)
        obtain ⟨hl1, hl2, hl3, hl4⟩ := hql
        by_cases hall : (isQ M p ∧ hasQ (mI M 158) k)
        rotate_left
        · have hr := hl2 hall
          subst rl
          dsimp only [Option.toList_some, List.singleton_append]
          refine e_if_ne C (tgt := 41) dX6_lay_36 (by decide) (by decide) (fun h_36 => by exact absurd rfl h_36) (fun h_36 => ?_)
          refine e_iconst C dX6_lay_39 ?_
          exact e_ireturn C dX6_lay_40 ⟨by rw [if_neg hall], hl3, hl4⟩
        obtain ⟨hr, hld⟩ := hl1 hall
        subst rl
        dsimp only [Option.toList_some, List.singleton_append]
        obtain ⟨n1, n2, n3, n4, n5, n6, n7, n8, n10, n9⟩ := hld
        have hWl := frD_W hl3 hW
        refine e_if_ne C (tgt := 41) dX6_lay_36 (by decide) (by decide) (fun h_36 => ?_) (fun h_36 => by exact absurd (by decide) h_36)
        refine e_iload_n C dX6_lay_41 rfl ?_
        refine e_if_ne C (tgt := 52) dX6_lay_42 (by decide) (by omega) (fun h_42 => ?_) (fun h_42 => ?_)
        · have hw0 := h_42
          refine e_aload_n C dX6_lay_52 rfl ?_
          refine e_getR C f_X6_84 sh_153 (hWl 153 31 175 rfl) dX6_lay_53 ?_
          refine e_iload_n C dX6_lay_56 rfl ?_
          refine e_bipush C dX6_lay_57 ?_
          refine e_isub C dX6_lay_59 ?_
          refine e_iaload C dX6_lay_60 sh_175 (w - 10).toNat (by omega) (by omega) ?_
          rw [n4 _ (by omega)]
          refine e_ireturn C dX6_lay_61 ⟨?_, hl3, hl4⟩
          first
            | rw [if_pos hall, if_pos hw0]
            | rw [if_pos hall, if_neg hw0, if_pos (by omega)]
        · have hw0 := Classical.not_not.mp h_42
          refine e_aload_n C dX6_lay_45 rfl ?_
          refine e_getI C f_X6_146 sh_153 dX6_lay_46 ?_
          rw [n1]
          refine e_goto C (tgt := 61) dX6_lay_49 (by decide) ?_
          refine e_ireturn C dX6_lay_61 ⟨?_, hl3, hl4⟩
          first
            | rw [if_pos hall, if_pos hw0]
            | rw [if_pos hall, if_neg hw0, if_pos (by omega)]
theorem c_movedD {g : pG} {M : pMem}  {p : Int} {k : Int} {y : Int} (hi_p : -2147483648 ≤ p ∧ p < 2147483648) (hi_k : -2147483648 ≤ k ∧ k < 2147483648) (hi_y : -2147483648 ≤ y ∧ y < 2147483648) (hJ : JD M) : pCn g 6 0 0 yX6_moved cX6_moved 4 (some .int) SH SH M [.inr (.inr 153), .inl p, .inl k, .inl y] (fun r M' => r = some (.inl (if (isQ M p ∧ hasQ (mI M 158) k) then (if y = 0 then dxo ((kyS (wtD M) (pgD M) (mI M 158) p.toNat k.toNat) / 6975757441 % 49).toNat else dyo ((kyS (wtD M) (pgD M) (mI M 158) p.toNat k.toNat) / 6975757441 % 49).toNat) else -10)) ∧ frD oQ M M' ∧ JD M') := by
  refine pCn_intro mt_X6_moved (fun X C => ?_)
  have hW := hJ.1
  show pE g 4 X _ SH M 0 0 0 [some (.inr (.inr 153)), some (.inl p), some (.inl k), some (.inl y)] []
  refine e_aload_n C dX6_moved_0 rfl ?_
  refine e_iload_n C dX6_moved_1 rfl ?_
  refine e_iload_n C dX6_moved_2 rfl ?_
  refine e_callV C (c_isLaid (M := M) hi_p hi_k hJ) mt_X6_isLaid s_X6_173 dX6_moved_3 6 sh_153 rfl (fun rl Ml hql => ?_)
  obtain ⟨hl1, hl2, hl3, hl4⟩ := hql
  by_cases hall : (isQ M p ∧ hasQ (mI M 158) k)
  rotate_left
  · have hr := hl2 hall
    subst rl
    dsimp only [Option.toList_some, List.singleton_append]
    refine e_if_ne C (tgt := 12) dX6_moved_6 (by decide) (by decide) (fun h_6 => by exact absurd rfl h_6) (fun h_6 => ?_)
    refine e_bipush C dX6_moved_9 ?_
    exact e_ireturn C dX6_moved_11 ⟨by rw [if_neg hall], hl3, hl4⟩
  obtain ⟨hr, hld⟩ := hl1 hall
  subst rl
  dsimp only [Option.toList_some, List.singleton_append]
  obtain ⟨n1, n2, n3, n4, n5, n6, n7, n8, n10, n9⟩ := hld
  have hWl := frD_W hl3 hW
  refine e_if_ne C (tgt := 12) dX6_moved_6 (by decide) (by decide) (fun h_6 => ?_) (fun h_6 => by exact absurd (by decide) h_6)
  refine e_iload_n C dX6_moved_12 rfl ?_
  refine e_if_eq C (tgt := 23) dX6_moved_13 (by decide) (by omega) (fun h_13 => ?_) (fun h_13 => ?_)
  · skip
    refine e_aload_n C dX6_moved_23 rfl ?_
    refine e_getI C f_X6_152 sh_153 dX6_moved_24 ?_
    rw [n2]
    refine e_ireturn C dX6_moved_27 ⟨?_, hl3, hl4⟩
    first
      | rw [if_pos hall, if_pos (by omega)]
      | rw [if_pos hall, if_neg (by omega)]
  · skip
    refine e_aload_n C dX6_moved_16 rfl ?_
    refine e_getI C f_X6_155 sh_153 dX6_moved_17 ?_
    rw [n3]
    refine e_goto C (tgt := 27) dX6_moved_20 (by decide) ?_
    refine e_ireturn C dX6_moved_27 ⟨?_, hl3, hl4⟩
    first
      | rw [if_pos hall, if_pos (by omega)]
      | rw [if_pos hall, if_neg (by omega)]
theorem rdF_sp (K i : Int) (cd : Nat → Int) : ∀ (n b : Nat), (rdF K i cd b n = -1 ∧ ∀ a, b ≤ a → a < b + n → dgF K a ≠ i) ∨ ∃ a, b ≤ a ∧ a < b + n ∧ dgF K a = i ∧ rdF K i cd b n = cd a
  | 0, b => Or.inl ⟨rfl, fun a h1 h2 => by omega⟩
  | n + 1, b => by
    simp only [rdF]
    by_cases h : dgF K b = i
    · rw [if_pos h]; exact Or.inr ⟨b, Nat.le_refl _, by omega, h, rfl⟩
    · rw [if_neg h]
      rcases rdF_sp K i cd n (b + 1) with ⟨a1, a2⟩ | ⟨a, a1, a2, a3, a4⟩
      · refine Or.inl ⟨a1, fun a h1 h2 => ?_⟩
        by_cases e : a = b
        · subst e; exact h
        · exact a2 a (by omega) (by omega)
      · exact Or.inr ⟨a, by omega, by omega, a3, a4⟩
theorem rdF_e {K i v : Int} {cd : Nat → Int} {n : Nat} (hi : 0 ≤ i) (hin : ∀ a b, a < n → b < n → dgF K a = dgF K b → 0 ≤ dgF K a → a = b) (h : (v = -1 ∧ ∀ a, a < n → dgF K a ≠ i) ∨ ∃ a, a < n ∧ dgF K a = i ∧ v = cd a) : v = rdF K i cd 0 n := by
  rcases rdF_sp K i cd n 0 with ⟨a1, a2⟩ | ⟨a, a1, a2, a3, a4⟩
  · rcases h with ⟨z, -⟩ | ⟨a, z1, z2, -⟩
    · rw [a1]; exact z
    · exact absurd z2 (a2 a (by omega) (by omega))
  · rcases h with ⟨-, z⟩ | ⟨b, z1, z2, z3⟩
    · exact absurd a3 (z a (by omega))
    · have := hin a b (by omega) z1 (by omega) (by omega)
      subst this
      rw [a4]; exact z3
theorem c_readD {g : pG} {M : pMem}  {p : Int} {k : Int} {i : Int} (hi_p : -2147483648 ≤ p ∧ p < 2147483648) (hi_k : -2147483648 ≤ k ∧ k < 2147483648) (hi_i : -2147483648 ≤ i ∧ i < 2147483648) (hJ : JD M) : pCn g 6 0 0 yX6_read cX6_read 6 (some .int) SH SH M [.inr (.inr 153), .inl p, .inl k, .inl i] (fun r M' => r = some (.inl (if ((isQ M p ∧ hasQ (mI M 158) k) ∧ 0 ≤ i ∧ i ≤ (spc (pgD M) (mI M 158) k 99 : Int) - 1) then rdF (kyS (wtD M) (pgD M) (mI M 158) p.toNat k.toNat) i ((pgD M).2 p.toNat).2.2 0 ((pgD M).1 p.toNat) else -1)) ∧ frD oQ M M' ∧ JD M') := by
  refine pCn_intro mt_X6_read (fun X C => ?_)
  have hW := hJ.1
  show pE g 6 X _ SH M 0 0 0 [some (.inr (.inr 153)), some (.inl p), some (.inl k), some (.inl i), none, none] []
  refine e_aload_n C dX6_read_0 rfl ?_
  refine e_iload_n C dX6_read_1 rfl ?_
  refine e_iload_n C dX6_read_2 rfl ?_
  refine e_callV C (c_isLaid (M := M) hi_p hi_k hJ) mt_X6_isLaid s_X6_173 dX6_read_3 6 sh_153 rfl (fun rl Ml hql => ?_)
  obtain ⟨hl1, hl2, hl3, hl4⟩ := hql
  by_cases hall : (isQ M p ∧ hasQ (mI M 158) k)
  rotate_left
  · have hr := hl2 hall
    subst rl
    dsimp only [Option.toList_some, List.singleton_append]
    refine e_if_eq C (tgt := 23) dX6_read_6 (by decide) (by decide) (fun h_6 => ?_) (fun h_6 => by exact absurd rfl h_6)
    refine e_iconst C dX6_read_23 ?_
    exact e_ireturn C dX6_read_24 ⟨by rw [if_neg (fun z => hall z.1)], hl3, hl4⟩
  obtain ⟨hr, hld⟩ := hl1 hall
  subst rl
  dsimp only [Option.toList_some, List.singleton_append]
  obtain ⟨n1, n2, n3, n4, n5, n6, n7, n8, n10, n9⟩ := hld
  have hWl := frD_W hl3 hW
  refine e_if_eq C (tgt := 23) dX6_read_6 (by decide) (by decide) (fun h_6 => by exact absurd h_6 (by decide)) (fun h_6 => ?_)
  refine e_iload_n C dX6_read_9 rfl ?_
  refine e_iconst C dX6_read_10 ?_
  refine e_aload_n C dX6_read_11 rfl ?_
  obtain ⟨tot, ns, Z, z1, z2⟩ := n9
  have hns : (ns : Int) = (spc (pgD M) (mI M 158) k 99 : Int) := by
    have z3 := z1.2.1
    rw [Int.toNat_of_nonneg hall.2.1] at z3
    rw [z3]
  have h16 := (isKd_ok hJ.2.2.2.2.1.2 z1).1
  have h8 := (hJ.2.2.2.2.1.2.1 p.toNat (by have := hJ.2.1; have := hall.1; omega)).1
  refine e_getI C f_X6_139 sh_153 dX6_read_12 ?_
  rw [z2]
  refine e_iconst C dX6_read_15 ?_
  refine e_isub C dX6_read_16 ?_
  refine e_callS C (c_in (M := Ml) (v := i) (a := 0) (b := (ns : Int) - 1) hi_i (by omega) (by omega)) mt_X6_in s_X6_102 dX6_read_17 (fun r2 M2 hq2 => ?_)
  obtain ⟨rfl, hM2⟩ := hq2
  subst M2
  dsimp only [Option.toList_some, List.singleton_append]
  refine e_if_ne C (tgt := 25) dX6_read_20 (by decide) (by split <;> omega) (fun h_20 => ?_) (fun h_20 => ?_)
  · have hii := ite1.mp h_20
    have hrc : ((isQ M p ∧ hasQ (mI M 158) k) ∧ 0 ≤ i ∧ i ≤ (spc (pgD M) (mI M 158) k 99 : Int) - 1) := ⟨hall, by omega⟩
    refine e_iconst C dX6_read_25 ?_
    refine e_istore C dX6_read_26 ?_
    refine e_iconst C dX6_read_28 ?_
    refine e_istore C dX6_read_29 ?_
    have lp : ∀ (b : Nat) (v : Int), b ≤ ((pgD M).1 p.toNat) → ((v = -1 ∧ ∀ a, a < b → dgF (kyS (wtD M) (pgD M) (mI M 158) p.toNat k.toNat) a ≠ i) ∨ ∃ a, a < b ∧ dgF (kyS (wtD M) (pgD M) (mI M 158) p.toNat k.toNat) a = i ∧ v = ((pgD M).2 p.toNat).2.2 a) → pE g 6 X (pMQ g SH (fun r M' => r = some (.inl (if ((isQ M p ∧ hasQ (mI M 158) k) ∧ 0 ≤ i ∧ i ≤ (spc (pgD M) (mI M 158) k 99 : Int) - 1) then rdF (kyS (wtD M) (pgD M) (mI M 158) p.toNat k.toNat) i ((pgD M).2 p.toNat).2.2 0 ((pgD M).1 p.toNat) else -1)) ∧ frD oQ M M' ∧ JD M') X 0 0) SH Ml 0 0 31 [some (.inr (.inr 153)), some (.inl p), some (.inl k), some (.inl i), some (.inl v), some (.inl (b : Int))] [] := by
      refine p_for (((pgD M).1 p.toNat)) _ _ ?_ ?_
      · rintro v hv
        refine e_iload C dX6_read_31 rfl ?_
        refine e_aload_n C dX6_read_33 rfl ?_
        refine e_getI C f_X6_135 sh_153 dX6_read_34 ?_
        rw [n5]
        refine e_icmp_ge C (tgt := 71) dX6_read_37 (by decide) (by omega) (by omega) (fun h_37 => ?_) (fun h_37 => by exfalso; omega)
        refine e_iload C dX6_read_71 rfl ?_
        exact e_ireturn C dX6_read_73 ⟨by rw [if_pos hrc, rdF_e hii.1 n10 hv], hl3, hl4⟩
      · rintro b v hb hv ih
        have hdr : -1 ≤ dgF (kyS (wtD M) (pgD M) (mI M 158) p.toNat k.toNat) b ∧ dgF (kyS (wtD M) (pgD M) (mI M 158) p.toNat k.toNat) b ≤ 17 := by unfold dgF; split <;> omega
        refine e_iload C dX6_read_31 rfl ?_
        refine e_aload_n C dX6_read_33 rfl ?_
        refine e_getI C f_X6_135 sh_153 dX6_read_34 ?_
        rw [n5]
        refine e_icmp_ge C (tgt := 71) dX6_read_37 (by decide) (by omega) (by omega) (fun h_37 => by exfalso; omega) (fun h_37 => ?_)
        refine e_aload_n C dX6_read_40 rfl ?_
        refine e_getR C f_X6_84 sh_153 (hWl 153 31 175 rfl) dX6_read_41 ?_
        refine e_iload C dX6_read_44 rfl ?_
        refine e_iaload C dX6_read_46 sh_175 _ rfl (by omega) ?_
        rw [n4 b hb]
        refine e_iload_n C dX6_read_47 rfl ?_
        refine e_icmp_ne C (tgt := 61) dX6_read_48 (by decide) (by omega) (by omega) (fun h_48 => ?_) (fun h_48 => ?_)
        · have hI : ((v = -1 ∧ ∀ a, a < (b + 1) → dgF (kyS (wtD M) (pgD M) (mI M 158) p.toNat k.toNat) a ≠ i) ∨ ∃ a, a < (b + 1) ∧ dgF (kyS (wtD M) (pgD M) (mI M 158) p.toNat k.toNat) a = i ∧ v = ((pgD M).2 p.toNat).2.2 a) := by
            rcases hv with ⟨z1, z2⟩ | ⟨a, z1, z2, z3⟩
            · refine Or.inl ⟨z1, fun a ha => ?_⟩
              by_cases e : a = b
              · subst e; exact h_48
              · exact z2 a (by omega)
            · exact Or.inr ⟨a, by omega, z2, z3⟩
          refine e_iload C dX6_read_61 rfl ?_
          refine e_istore C dX6_read_63 ?_
          refine e_iinc C dX6_read_65 rfl ?_
          refine e_goto C (tgt := 31) dX6_read_68 (by decide) ?_
          rw [show ((b : Int) + 1) = ((b + 1 : Nat) : Int) by omega]
          exact ih _ hI
        · have hI : ((((pgD M).2 p.toNat).2.2 b = -1 ∧ ∀ a, a < (b + 1) → dgF (kyS (wtD M) (pgD M) (mI M 158) p.toNat k.toNat) a ≠ i) ∨ ∃ a, a < (b + 1) ∧ dgF (kyS (wtD M) (pgD M) (mI M 158) p.toNat k.toNat) a = i ∧ ((pgD M).2 p.toNat).2.2 b = ((pgD M).2 p.toNat).2.2 a) := Or.inr ⟨b, by omega, Classical.not_not.mp h_48, rfl⟩
          refine e_aload_n C dX6_read_51 rfl ?_
          refine e_getR C f_X6_63 sh_153 (hWl 153 20 168 rfl) dX6_read_52 ?_
          refine e_iload C dX6_read_55 rfl ?_
          refine e_iaload C dX6_read_57 sh_168 _ rfl (by omega) ?_
          rw [n6 b hb]
          refine e_goto C (tgt := 63) dX6_read_58 (by decide) ?_
          refine e_istore C dX6_read_63 ?_
          refine e_iinc C dX6_read_65 rfl ?_
          refine e_goto C (tgt := 31) dX6_read_68 (by decide) ?_
          rw [show ((b : Int) + 1) = ((b + 1 : Nat) : Int) by omega]
          exact ih _ hI
    exact lp 0 (-1) (by omega) (Or.inl ⟨rfl, fun a ha => by omega⟩)
  · have hii := fun z => h_20 (ite1.mpr z)
    have hrc : ¬ ((isQ M p ∧ hasQ (mI M 158) k) ∧ 0 ≤ i ∧ i ≤ (spc (pgD M) (mI M 158) k 99 : Int) - 1) := fun z => hii (by have := z.2; omega)
    refine e_iconst C dX6_read_23 ?_
    exact e_ireturn C dX6_read_24 ⟨by rw [if_neg hrc], hl3, hl4⟩
