def vrOk (M : pMem) (i j : Nat) (K : Int) : Prop := isKey (wtC M) (if 8 < nSp M (118 + 7 * i) then 8 else nSp M (118 + 7 * i)) (nSp M (118 + 7 * j)) (shB M (118 + 7 * i + 1)) (shS M (118 + 7 * j + 1)) K
noncomputable def vrF (M : pMem) (i j : Nat) : Int := Classical.epsilon (fun v => vrOk M i j v)
theorem vrF_e {M : pMem} {i j : Nat} {v : Int} (h : vrOk M i j v) : vrF M i j = v := isKey_one (Classical.epsilon_spec (p := fun v => vrOk M i j v) ⟨v, h⟩) h
noncomputable def vsF (M : pMem) (i j : Nat) (w : Int) : Int := if w = 0 then (if vrF M i j / 341812114609 ≤ mI M 0 15 then 1 else 0) else if w = 1 then apS (shS M (118 + 7 * i + 1)) (nSp M (118 + 7 * i)) (shS M (118 + 7 * j + 1)) (nSp M (118 + 7 * j)) else -1
theorem c_versions {g : pG} {M : pMem}  {a : Int} {b : Int} {w : Int} (hi_a : -2147483648 ≤ a ∧ a < 2147483648) (hi_b : -2147483648 ≤ b ∧ b < 2147483648) (hi_w : -2147483648 ≤ w ∧ w < 2147483648) (hJ : JC M) : pCn g 5 0 0 yX5_versions cX5_versions 6 (some .int) SH SH M [.inr (.inr 0), .inl a, .inl b, .inl w] (fun r M' => r = some (.inl (if (hasK M a ∧ hasK M b) ∧ a ≠ b then vsF M (if a < b then a else b).toNat (if a < b then b else a).toNat w else -1)) ∧ cch M M') := by
  refine pCn_intro mt_X5_versions (fun X C => ?_)
  have hW := hJ.1
  have hn := hJ.2.2.2.1
  have hkr := JC_kr hJ
  have hbr := JC_br hJ
  show pE g 6 X _ SH M 0 0 0 [some (.inr (.inr 0)), some (.inl a), some (.inl b), some (.inl w), none, none] []
  refine e_aload_n C dX5_versions_0 rfl ?_
  refine e_iload_n C dX5_versions_1 rfl ?_
  refine e_callV C (c_hasPages hi_a hW hkr) mt_X5_hasPages s_X5_150 dX5_versions_2 5 sh_0 rfl (fun ra Ma hqa => ?_)
  obtain ⟨rfl, hMa⟩ := hqa
  subst Ma
  dsimp only [Option.toList_some, List.singleton_append]
  refine e_if_eq C (tgt := 21) dX5_versions_5 (by decide) (by split <;> omega) (fun h_5 => ?_) (fun h_5 => ?_)
  · have hka := ite0.mp h_5
    refine e_iconst C dX5_versions_21 ?_
    exact e_ireturn C dX5_versions_22 ⟨by rw [if_neg (fun z => by first | exact hka z.1.1 | exact hkb z.1.2 | exact h_18 z.2)], cch_rf M⟩
  · have hka := ite1.mp h_5
    refine e_aload_n C dX5_versions_8 rfl ?_
    refine e_iload_n C dX5_versions_9 rfl ?_
    refine e_callV C (c_hasPages hi_b hW hkr) mt_X5_hasPages s_X5_150 dX5_versions_10 5 sh_0 rfl (fun rb Mb hqb => ?_)
    obtain ⟨rfl, hMb⟩ := hqb
    subst Mb
    dsimp only [Option.toList_some, List.singleton_append]
    refine e_if_eq C (tgt := 21) dX5_versions_13 (by decide) (by split <;> omega) (fun h_13 => ?_) (fun h_13 => ?_)
    · have hkb := ite0.mp h_13
      refine e_iconst C dX5_versions_21 ?_
      exact e_ireturn C dX5_versions_22 ⟨by rw [if_neg (fun z => by first | exact hka z.1.1 | exact hkb z.1.2 | exact h_18 z.2)], cch_rf M⟩
    · have hkb := ite1.mp h_13
      refine e_iload_n C dX5_versions_16 rfl ?_
      refine e_iload_n C dX5_versions_17 rfl ?_
      refine e_icmp_ne C (tgt := 23) dX5_versions_18 (by decide) (by omega) (by omega) (fun h_18 => ?_) (fun h_18 => ?_)
      · obtain ⟨i, ei, hi⟩ : ∃ i : Nat, (if b < a then b else a) = (i : Int) ∧ i < 5 := ⟨(if b < a then b else a).toNat, by have := hka.1; have := hka.2.1; have := hkb.1; have := hkb.2.1; split <;> omega, by have := hka.1; have := hka.2.1; have := hkb.1; have := hkb.2.1; split <;> omega⟩
        obtain ⟨j, ej, hj⟩ : ∃ j : Nat, (if a < b then b else a) = (j : Int) ∧ j < 5 := ⟨(if a < b then b else a).toNat, by have := hka.1; have := hka.2.1; have := hkb.1; have := hkb.2.1; split <;> omega, by have := hka.1; have := hka.2.1; have := hkb.1; have := hkb.2.1; split <;> omega⟩
        have ei2 : (if a < b then a else b).toNat = i := by
          have h1 : (if a < b then a else b) = (if b < a then b else a) := by split <;> split <;> omega
          rw [h1, ei]; rfl
        have ej2 : (if a < b then b else a).toNat = j := by rw [ej]; rfl
        obtain ⟨p1, p2, p3, p4, p5⟩ := (hJ.2.2.2.2.2.2.2.2.1 i hi).1
        obtain ⟨q1, q2, q3, q4, q5⟩ := (hJ.2.2.2.2.2.2.2.2.1 j hj).1
        have hcond : (hasK M a ∧ hasK M b) ∧ a ≠ b := ⟨⟨hka, hkb⟩, h_18⟩
        rw [if_pos hcond, ei2, ej2]
        refine e_aload_n C dX5_versions_23 rfl ?_
        refine e_getR C f_X5_21 sh_0 (hW 0 2 3 rfl) dX5_versions_24 ?_
        refine e_iload_n C dX5_versions_27 rfl ?_
        refine e_iload_n C dX5_versions_28 rfl ?_
        refine e_mmin C s_X5_186 dX5_versions_29 (by omega) (by omega) ?_
        refine e_aaload4 C dX5_versions_32 sh_3 i ei (by omega) (hW 3 i _ (rt_kind i hi).1) ?_
        refine e_getR C f_X5_133 (pKd_kind hW hi).1 (pKd_kind hW hi).2.1 dX5_versions_33 ?_
        refine e_astore C dX5_versions_36 ?_
        refine e_aload_n C dX5_versions_38 rfl ?_
        refine e_getR C f_X5_21 sh_0 (hW 0 2 3 rfl) dX5_versions_39 ?_
        refine e_iload_n C dX5_versions_42 rfl ?_
        refine e_iload_n C dX5_versions_43 rfl ?_
        refine e_mmax C s_X5_192 dX5_versions_44 (by omega) (by omega) ?_
        refine e_aaload4 C dX5_versions_47 sh_3 j ej (by omega) (hW 3 j _ (rt_kind j hj).1) ?_
        refine e_getR C f_X5_133 (pKd_kind hW hj).1 (pKd_kind hW hj).2.1 dX5_versions_48 ?_
        refine e_astore C dX5_versions_51 ?_
        refine e_iload_n C dX5_versions_53 rfl ?_
        by_cases w0 : w = 0
        · subst w0
          refine e_lookup C (off := 26) (tgt := 80) dX5_versions_54 (by omega) (by decide) (by decide) (by decide) ?_
          have hsp8 : bxOk (if 8 < nSp M (118 + 7 * i) then 8 else nSp M (118 + 7 * i)) (shB M (118 + 7 * i + 1)) := fun s hs => by
            obtain ⟨z1, z2, z3, z4⟩ := p3 s (by split at hs <;> omega)
            exact ⟨z1, z2, z3⟩
          refine e_aload_n C dX5_versions_80 rfl ?_
          refine e_getR C f_X5_28 sh_0 (hW 0 3 4 rfl) dX5_versions_81 ?_
          refine e_aload C dX5_versions_84 rfl ?_
          refine e_aload C dX5_versions_86 rfl ?_
          refine e_callV C (c_cheapest (M := M) (a := 118 + 7 * i + 1) (e := 118 + 7 * j + 1) (Na := 16) (Ne := 16) (ca := nSp M (118 + 7 * i)) (ns := nSp M (118 + 7 * j)) (nb := if 8 < nSp M (118 + 7 * i) then 8 else nSp M (118 + 7 * i)) hW p1 q1 rfl (pKd_kind hW hi).2.2.1 (pKd_kind hW hj).2.2.1 (by omega) (by omega) ⟨p2, by decide⟩ ⟨q2, by decide⟩ hJ.2.2.1 hsp8 q3) mt_X1_cheapest s_X5_195 dX5_versions_88 1 sh_4 rfl (fun rc Mc hqc => ?_)
          obtain ⟨K, rfl, hK, hag⟩ := hqc
          dsimp only [Option.toList_some, List.singleton_append]
          have hc1 := cch_agO hag
          have hKr := isKey_r hJ.2.2.1 hsp8 q3 (by split <;> omega) q2 hK
          have hvF : vrF M i j = K := vrF_e hK
          have f15 : mI Mc 0 15 = mI M 0 15 := hc1.2.1 0 15 (by omega) (by decide) (by decide) (by decide)
          have hnr := hJ.2.2.2.2.2.2.1.2.2
          refine e_callS C (c_costIn (K := K) (by omega)) mt_X5_costIn s_X5_157 dX5_versions_91 (fun rd Md hqd => ?_)
          obtain ⟨rfl, hMd⟩ := hqd
          subst Md
          dsimp only [Option.toList_some, List.singleton_append]
          refine e_aload_n C dX5_versions_94 rfl ?_
          refine e_getI C f_X5_76 sh_0 dX5_versions_95 ?_
          rw [f15]
          refine e_icmp_gt C (tgt := 105) dX5_versions_98 (by decide) (by omega) (by omega) (fun h_98 => ?_) (fun h_98 => ?_)
          · have hans : vsF M i j 0 = 0 := by unfold vsF; rw [if_pos rfl, hvF, if_neg (by omega)]
            refine e_iconst C dX5_versions_105 ?_
            exact e_ireturn C dX5_versions_106 ⟨by rw [hans], hc1⟩
          · have hans : vsF M i j 0 = 1 := by unfold vsF; rw [if_pos rfl, hvF, if_pos (by omega)]
            refine e_iconst C dX5_versions_101 ?_
            refine e_goto C (tgt := 106) dX5_versions_102 (by decide) ?_
            exact e_ireturn C dX5_versions_106 ⟨by rw [hans], hc1⟩
        · by_cases w1 : w = 1
          · subst w1
            refine e_lookup C (off := 53) (tgt := 107) dX5_versions_54 (by omega) (by decide) (by decide) (by decide) ?_
            refine e_aload C dX5_versions_107 rfl ?_
            refine e_aload C dX5_versions_109 rfl ?_
            refine e_callS C (c_codeApart (M := M) (a := 118 + 7 * i + 1) (e := 118 + 7 * j + 1) (n := nSp M (118 + 7 * i)) (m := nSp M (118 + 7 * j)) (pKd_kind hW hi).2.2.1 (pKd_kind hW hj).2.2.1 p1 q1 p2 q2 p3 q3) mt_X5_codeApart s_X5_199 dX5_versions_111 (fun rc Mc hqc => ?_)
            obtain ⟨rfl, hMc⟩ := hqc
            subst Mc
            dsimp only [Option.toList_some, List.singleton_append]
            exact e_ireturn C dX5_versions_114 ⟨by unfold vsF; rw [if_neg (by decide), if_pos rfl], cch_rf M⟩
          · refine e_lookup C (off := 61) (tgt := 115) dX5_versions_54 (by omega) (by decide) (by simp [Op.lookupswitch.offset, w0, w1, Ne.symm w0, Ne.symm w1]) (by decide) ?_
            refine e_iconst C dX5_versions_115 ?_
            exact e_ireturn C dX5_versions_116 ⟨by unfold vsF; rw [if_neg w0, if_neg w1], cch_rf M⟩
      · refine e_iconst C dX5_versions_21 ?_
        exact e_ireturn C dX5_versions_22 ⟨by rw [if_neg (fun z => by first | exact hka z.1.1 | exact hkb z.1.2 | exact h_18 z.2)], cch_rf M⟩
theorem c_basked {g : pG} {M : pMem}  {w : Int} (hi_w : -2147483648 ≤ w ∧ w < 2147483648) (hJ : JC M) : pCn g 2 0 0 yX5_boxesAskedFor cX5_boxesAskedFor 2 (some .int) SH SH M [.inr (.inr 0), .inl w] (fun r M' => r = some (.inl (if 20 ≤ w ∧ isP M (w - 20) then mI M (38 + 5 * (w - 20).toNat) 4 else -1)) ∧ M' = M) := by
  refine pCn_intro mt_X5_boxesAskedFor (fun X C => ?_)
  have hW := hJ.1
  have hn := hJ.2.2.2.1
  have hkr := JC_kr hJ
  have hbr := JC_br hJ
  show pE g 2 X _ SH M 0 0 0 [some (.inr (.inr 0)), some (.inl w)] []
  refine e_iload_n C dX5_boxesAskedFor_0 rfl ?_
  refine e_bipush C dX5_boxesAskedFor_1 ?_
  refine e_icmp_lt C (tgt := 17) dX5_boxesAskedFor_3 (by decide) (by omega) (by omega) (fun h_3 => ?_) (fun h_3 => ?_)
  · refine e_iconst C dX5_boxesAskedFor_17 ?_
    exact e_ireturn C dX5_boxesAskedFor_18 ⟨by rw [if_neg (fun z => by first | (have := z.1; omega) | exact hpp z.2)], rfl⟩
  · refine e_aload_n C dX5_boxesAskedFor_6 rfl ?_
    refine e_iload_n C dX5_boxesAskedFor_7 rfl ?_
    refine e_bipush C dX5_boxesAskedFor_8 ?_
    refine e_isub C dX5_boxesAskedFor_10 ?_
    refine e_callV C (c_isPage (p := w - 20) (by omega) (by omega)) mt_X5_isPage s_X5_85 dX5_boxesAskedFor_11 5 sh_0 rfl (fun r M1 hq => ?_)
    obtain ⟨rfl, hM⟩ := hq
    subst M1
    dsimp only [Option.toList_some, List.singleton_append]
    refine e_if_ne C (tgt := 19) dX5_boxesAskedFor_14 (by decide) (by split <;> omega) (fun h_14 => ?_) (fun h_14 => ?_)
    · have hpp := ite1.mp h_14
      obtain ⟨q, eq, hq, hq2⟩ := isP_n hJ hpp
      refine e_aload_n C dX5_boxesAskedFor_19 rfl ?_
      refine e_getR C f_X5_11 sh_0 (hW 0 0 1 rfl) dX5_boxesAskedFor_20 ?_
      refine e_iload_n C dX5_boxesAskedFor_23 rfl ?_
      refine e_bipush C dX5_boxesAskedFor_24 ?_
      refine e_isub C dX5_boxesAskedFor_26 ?_
      refine e_aaload3 C dX5_boxesAskedFor_27 sh_1 q eq (by omega) (hW 1 q _ (rt_page q hq).1) ?_
      refine e_getI C f_X5_93 (pSh_page hW hq).1 dX5_boxesAskedFor_28 ?_
      exact e_ireturn C dX5_boxesAskedFor_31 ⟨by rw [if_pos ⟨by omega, hpp⟩, eq]; rfl, rfl⟩
    · have hpp := fun z => h_14 (ite1.mpr z)
      refine e_iconst C dX5_boxesAskedFor_17 ?_
      exact e_ireturn C dX5_boxesAskedFor_18 ⟨by rw [if_neg (fun z => by first | (have := z.1; omega) | exact hpp z.2)], rfl⟩
theorem c_about {g : pG} {M : pMem}  {w : Int} (hi_w : -2147483648 ≤ w ∧ w < 2147483648) (hJ : JC M) : pCn g 3 0 0 yX5_about cX5_about 2 (some .int) SH SH M [.inr (.inr 0), .inl w] (fun r M' => r = some (.inl (if w = 0 then mI M 0 12 else if w = 1 then mI M 4 0 else if w = 2 then mI M 4 1 else if w = 3 then mI M 4 2 else if w = 4 then mI M 4 3 else if w = 5 then mI M 4 4 else if w = 6 then mI M 0 13 else if w = 7 then mI M 0 14 else if w = 8 then mI M 0 15 else if 20 ≤ w ∧ isP M (w - 20) then mI M (38 + 5 * (w - 20).toNat) 4 else -1)) ∧ M' = M) := by
  refine pCn_intro mt_X5_about (fun X C => ?_)
  have hW := hJ.1
  have hn := hJ.2.2.2.1
  have hkr := JC_kr hJ
  have hbr := JC_br hJ
  show pE g 2 X _ SH M 0 0 0 [some (.inr (.inr 0)), some (.inl w)] []
  refine e_iload_n C dX5_about_0 rfl ?_
  have hw9 : w = 0 ∨ w = 1 ∨ w = 2 ∨ w = 3 ∨ w = 4 ∨ w = 5 ∨ w = 6 ∨ w = 7 ∨ w = 8 ∨ (w < 0 ∨ 8 < w) := by omega
  rcases hw9 with rfl | rfl | rfl | rfl | rfl | rfl | rfl | rfl | rfl | hw
  · refine e_tabIn C (x := 0) (off := 51) (tgt := 52) dX5_about_1 (by decide) (by decide) (by decide) (by decide) (by decide) ?_
    refine e_aload_n C dX5_about_52 rfl ?_
    refine e_getI C f_X5_66 sh_0 dX5_about_53 ?_
    exact e_ireturn C dX5_about_56 ⟨by rw [if_pos rfl], rfl⟩
  · refine e_tabIn C (x := 1) (off := 56) (tgt := 57) dX5_about_1 (by decide) (by decide) (by decide) (by decide) (by decide) ?_
    refine e_aload_n C dX5_about_57 rfl ?_
    refine e_getR C f_X5_28 sh_0 (hW 0 3 4 rfl) dX5_about_58 ?_
    refine e_getI C f_X5_114 sh_4 dX5_about_61 ?_
    exact e_ireturn C dX5_about_64 ⟨by rw [if_neg (by decide), if_pos rfl], rfl⟩
  · refine e_tabIn C (x := 2) (off := 64) (tgt := 65) dX5_about_1 (by decide) (by decide) (by decide) (by decide) (by decide) ?_
    refine e_aload_n C dX5_about_65 rfl ?_
    refine e_getR C f_X5_28 sh_0 (hW 0 3 4 rfl) dX5_about_66 ?_
    refine e_getI C f_X5_117 sh_4 dX5_about_69 ?_
    exact e_ireturn C dX5_about_72 ⟨by rw [if_neg (by decide), if_neg (by decide), if_pos rfl], rfl⟩
  · refine e_tabIn C (x := 3) (off := 72) (tgt := 73) dX5_about_1 (by decide) (by decide) (by decide) (by decide) (by decide) ?_
    refine e_aload_n C dX5_about_73 rfl ?_
    refine e_getR C f_X5_28 sh_0 (hW 0 3 4 rfl) dX5_about_74 ?_
    refine e_getI C f_X5_120 sh_4 dX5_about_77 ?_
    exact e_ireturn C dX5_about_80 ⟨by rw [if_neg (by decide), if_neg (by decide), if_neg (by decide), if_pos rfl], rfl⟩
  · refine e_tabIn C (x := 4) (off := 80) (tgt := 81) dX5_about_1 (by decide) (by decide) (by decide) (by decide) (by decide) ?_
    refine e_aload_n C dX5_about_81 rfl ?_
    refine e_getR C f_X5_28 sh_0 (hW 0 3 4 rfl) dX5_about_82 ?_
    refine e_getI C f_X5_123 sh_4 dX5_about_85 ?_
    exact e_ireturn C dX5_about_88 ⟨by rw [if_neg (by decide), if_neg (by decide), if_neg (by decide), if_neg (by decide), if_pos rfl], rfl⟩
  · refine e_tabIn C (x := 5) (off := 88) (tgt := 89) dX5_about_1 (by decide) (by decide) (by decide) (by decide) (by decide) ?_
    refine e_aload_n C dX5_about_89 rfl ?_
    refine e_getR C f_X5_28 sh_0 (hW 0 3 4 rfl) dX5_about_90 ?_
    refine e_getI C f_X5_126 sh_4 dX5_about_93 ?_
    exact e_ireturn C dX5_about_96 ⟨by rw [if_neg (by decide), if_neg (by decide), if_neg (by decide), if_neg (by decide), if_neg (by decide), if_pos rfl], rfl⟩
  · refine e_tabIn C (x := 6) (off := 96) (tgt := 97) dX5_about_1 (by decide) (by decide) (by decide) (by decide) (by decide) ?_
    refine e_aload_n C dX5_about_97 rfl ?_
    refine e_getI C f_X5_70 sh_0 dX5_about_98 ?_
    exact e_ireturn C dX5_about_101 ⟨by rw [if_neg (by decide), if_neg (by decide), if_neg (by decide), if_neg (by decide), if_neg (by decide), if_neg (by decide), if_pos rfl], rfl⟩
  · refine e_tabIn C (x := 7) (off := 101) (tgt := 102) dX5_about_1 (by decide) (by decide) (by decide) (by decide) (by decide) ?_
    refine e_aload_n C dX5_about_102 rfl ?_
    refine e_getI C f_X5_73 sh_0 dX5_about_103 ?_
    exact e_ireturn C dX5_about_106 ⟨by rw [if_neg (by decide), if_neg (by decide), if_neg (by decide), if_neg (by decide), if_neg (by decide), if_neg (by decide), if_neg (by decide), if_pos rfl], rfl⟩
  · refine e_tabIn C (x := 8) (off := 106) (tgt := 107) dX5_about_1 (by decide) (by decide) (by decide) (by decide) (by decide) ?_
    refine e_aload_n C dX5_about_107 rfl ?_
    refine e_getI C f_X5_76 sh_0 dX5_about_108 ?_
    exact e_ireturn C dX5_about_111 ⟨by rw [if_neg (by decide), if_neg (by decide), if_neg (by decide), if_neg (by decide), if_neg (by decide), if_neg (by decide), if_neg (by decide), if_neg (by decide), if_pos rfl], rfl⟩
  · refine e_tabOut C (tgt := 112) dX5_about_1 (by omega) hw (by decide) ?_
    refine e_aload_n C dX5_about_112 rfl ?_
    refine e_iload_n C dX5_about_113 rfl ?_
    refine e_callV C (c_basked hi_w hJ) mt_X5_boxesAskedFor s_X5_207 dX5_about_114 5 sh_0 rfl (fun r M1 hq => ?_)
    obtain ⟨rfl, hM⟩ := hq
    subst M1
    dsimp only [Option.toList_some, List.singleton_append]
    exact e_ireturn C dX5_about_117 ⟨by rw [if_neg (show ¬ w = 0 by omega), if_neg (show ¬ w = 1 by omega), if_neg (show ¬ w = 2 by omega), if_neg (show ¬ w = 3 by omega), if_neg (show ¬ w = 4 by omega), if_neg (show ¬ w = 5 by omega), if_neg (show ¬ w = 6 by omega), if_neg (show ¬ w = 7 by omega), if_neg (show ¬ w = 8 by omega)], rfl⟩
