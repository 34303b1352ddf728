/-! ===== weighing: all that was laid is forgotten ===== -/
theorem JC_fgA {M N P : pMem} (hJ : JC M) (h4 : ∀ b j, b ≠ 4 → mI N b j = mI M b j) (hR : ∀ b j, mR N b j = mR M b j) (hf : fgA 16 N P) (hw : wtOk (wtC N)) : JC P := by
  obtain ⟨h1, h2, h3, h5, h6, h7, h8, h9, h10, h11⟩ := hJ
  obtain ⟨f1, f2, f3, f4, f5⟩ := hf
  have e : ∀ b j, b ≠ 4 → b ≠ 36 → mI P b j = mI M b j := fun b j a c => (f2 b j c).trans (h4 b j a)
  have er : ∀ b, b ≠ 4 → b ≠ 36 → mI P b = mI M b := fun b a c => funext (fun j => e b j a c)
  have ew : wtC P = wtC N := by unfold wtC; rw [f2 4 0 (by decide), f2 4 1 (by decide), f2 4 2 (by decide), f2 4 3 (by decide), f2 4 4 (by decide)]
  have esB : ∀ p, shB P (38 + 5 * p) = shB M (38 + 5 * p) := fun p => by unfold shB; rw [er _ (by omega) (by omega), er _ (by omega) (by omega), er _ (by omega) (by omega)]
  have esS : ∀ k, k < 5 → shS P (118 + 7 * k + 1) = shS M (118 + 7 * k + 1) := fun k _ => by unfold shS; rw [er _ (by omega) (by omega), er _ (by omega) (by omega), er _ (by omega) (by omega), er _ (by omega) (by omega)]
  have epg : pgC P = pgC M := by
    unfold pgC
    have e1 : (fun p => (mI P (38 + 5 * p) 4).toNat) = (fun p => (mI M (38 + 5 * p) 4).toNat) := funext (fun p => by rw [er _ (by omega) (by omega)])
    have e2 : (fun p => shB P (38 + 5 * p)) = (fun p => shB M (38 + 5 * p)) := funext esB
    rw [e1, e2]
  have ens : ∀ k, k < 5 → nSp P (118 + 7 * k) = nSp M (118 + 7 * k) := fun k _ => by unfold nSp; rw [er _ (by omega) (by omega)]
  refine ⟨fun a i b hb => ((f1 a i).trans (hR a i)).trans (h1 a i b hb), ?_, by rw [ew]; exact hw, by rw [e 0 12 (by decide) (by decide)]; exact h5, fun p hp => by rw [e 2 p (by decide) (by decide)]; exact h6 p hp, fun p hp hq => ?_, by rw [e 0 13 (by decide) (by decide), e 0 14 (by decide) (by decide), e 0 15 (by decide) (by decide)]; exact h8, fun p i hp hi => ?_, fun k hk => ⟨?_, ?_⟩, fun p q hp hq => Or.inl (f3 p q (by omega) hq)⟩
  · unfold pgM; rw [epg]; exact ⟨fun p hp => by rw [e _ 4 (by omega) (by omega)]; exact h2.1 p hp, h2.2⟩
  · rw [e 0 12 (by decide) (by decide)] at hq; rw [epg, e 2 p (by decide) (by decide)]; exact h7 p hp hq
  · rw [epg] at hi; rw [e _ i (by omega) (by omega)]; exact h9 p i hp hi
  · obtain ⟨k1, k2, k3, k4, k5⟩ := (h10 k hk).1
    unfold kdOk
    rw [ens k hk, esS k hk, er _ (by omega) (by omega), er _ (by omega) (by omega)]
    exact ⟨k1, k2, k3, k4, fun p hp => Or.inl (f5 k p hk hp)⟩
  · rw [epg, er 2 (by decide) (by decide), ens k hk, esS k hk, er _ (by omega) (by omega)]; exact (h10 k hk).2
theorem c_weights {g : pG} {M : pMem}  {m1 : Int} {m2 : Int} {m3 : Int} {m4 : Int} {m5 : Int} (hi_m1 : -2147483648 ≤ m1 ∧ m1 < 2147483648) (hi_m2 : -2147483648 ≤ m2 ∧ m2 < 2147483648) (hi_m3 : -2147483648 ≤ m3 ∧ m3 < 2147483648) (hi_m4 : -2147483648 ≤ m4 ∧ m4 < 2147483648) (hi_m5 : -2147483648 ≤ m5 ∧ m5 < 2147483648) (hJ : JC M) : pCn g 3 0 0 yX5_weights cX5_weights 6 (some .boolean) SH SH M [.inr (.inr 0), .inl m1, .inl m2, .inl m3, .inl m4, .inl m5] (fun r M' => (((0 ≤ m1 ∧ m1 ≤ 9) ∧ (0 ≤ m2 ∧ m2 ≤ 9) ∧ (0 ≤ m3 ∧ m3 ≤ 99) ∧ (0 ≤ m4 ∧ m4 ≤ 99) ∧ (0 ≤ m5 ∧ m5 ≤ 99)) → r = some (.inl 1) ∧ JC M' ∧ wtC M' = (m1, m2, m3, m4, m5) ∧ (∀ b j, b ≠ 4 → b ≠ 36 → mI M' b j = mI M b j) ∧ ∀ b j, mR M' b j = mR M b j) ∧ (¬ ((0 ≤ m1 ∧ m1 ≤ 9) ∧ (0 ≤ m2 ∧ m2 ≤ 9) ∧ (0 ≤ m3 ∧ m3 ≤ 99) ∧ (0 ≤ m4 ∧ m4 ≤ 99) ∧ (0 ≤ m5 ∧ m5 ≤ 99)) → r = some (.inl 0) ∧ M' = M)) := by
  refine pCn_intro mt_X5_weights (fun X C => ?_)
  have hW := hJ.1
  have hn := hJ.2.2.2.1
  have hkr := JC_kr hJ
  have hbr := JC_br hJ
  show pE g 6 X _ SH M 0 0 0 [some (.inr (.inr 0)), some (.inl m1), some (.inl m2), some (.inl m3), some (.inl m4), some (.inl m5)] []
  refine e_iload_n C dX5_weights_0 rfl ?_
  refine e_iconst C dX5_weights_1 ?_
  refine e_bipush C dX5_weights_2 ?_
  refine e_callS C (c_isIn (v := m1) (a := 0) (b := 9) (by omega) (by omega) (by omega)) mt_X5_isIn s_X5_89 dX5_weights_4 (fun rr4 Mq4 hq4 => ?_)
  obtain ⟨rfl, hMq4⟩ := hq4
  subst Mq4
  dsimp only [Option.toList_some, List.singleton_append]
  refine e_if_eq C (tgt := 52) dX5_weights_7 (by decide) (by split <;> omega) (fun h_7 => ?_) (fun h_7 => ?_)
  · have b7 := ite0.mp h_7
    refine e_iconst C dX5_weights_52 ?_
    exact e_zreturn C dX5_weights_53 (Or.inl rfl) ⟨fun z => by exfalso; first | exact b7 z.1 | exact b17 z.2.1 | exact b27 z.2.2.1 | exact b38 z.2.2.2.1 | exact b49 z.2.2.2.2, fun _ => ⟨rfl, rfl⟩⟩
  · have b7 := ite1.mp h_7
    refine e_iload_n C dX5_weights_10 rfl ?_
    refine e_iconst C dX5_weights_11 ?_
    refine e_bipush C dX5_weights_12 ?_
    refine e_callS C (c_isIn (v := m2) (a := 0) (b := 9) (by omega) (by omega) (by omega)) mt_X5_isIn s_X5_89 dX5_weights_14 (fun rr14 Mq14 hq14 => ?_)
    obtain ⟨rfl, hMq14⟩ := hq14
    subst Mq14
    dsimp only [Option.toList_some, List.singleton_append]
    refine e_if_eq C (tgt := 52) dX5_weights_17 (by decide) (by split <;> omega) (fun h_17 => ?_) (fun h_17 => ?_)
    · have b17 := ite0.mp h_17
      refine e_iconst C dX5_weights_52 ?_
      exact e_zreturn C dX5_weights_53 (Or.inl rfl) ⟨fun z => by exfalso; first | exact b7 z.1 | exact b17 z.2.1 | exact b27 z.2.2.1 | exact b38 z.2.2.2.1 | exact b49 z.2.2.2.2, fun _ => ⟨rfl, rfl⟩⟩
    · have b17 := ite1.mp h_17
      refine e_iload_n C dX5_weights_20 rfl ?_
      refine e_iconst C dX5_weights_21 ?_
      refine e_bipush C dX5_weights_22 ?_
      refine e_callS C (c_isIn (v := m3) (a := 0) (b := 99) (by omega) (by omega) (by omega)) mt_X5_isIn s_X5_89 dX5_weights_24 (fun rr24 Mq24 hq24 => ?_)
      obtain ⟨rfl, hMq24⟩ := hq24
      subst Mq24
      dsimp only [Option.toList_some, List.singleton_append]
      refine e_if_eq C (tgt := 52) dX5_weights_27 (by decide) (by split <;> omega) (fun h_27 => ?_) (fun h_27 => ?_)
      · have b27 := ite0.mp h_27
        refine e_iconst C dX5_weights_52 ?_
        exact e_zreturn C dX5_weights_53 (Or.inl rfl) ⟨fun z => by exfalso; first | exact b7 z.1 | exact b17 z.2.1 | exact b27 z.2.2.1 | exact b38 z.2.2.2.1 | exact b49 z.2.2.2.2, fun _ => ⟨rfl, rfl⟩⟩
      · have b27 := ite1.mp h_27
        refine e_iload C dX5_weights_30 rfl ?_
        refine e_iconst C dX5_weights_32 ?_
        refine e_bipush C dX5_weights_33 ?_
        refine e_callS C (c_isIn (v := m4) (a := 0) (b := 99) (by omega) (by omega) (by omega)) mt_X5_isIn s_X5_89 dX5_weights_35 (fun rr35 Mq35 hq35 => ?_)
        obtain ⟨rfl, hMq35⟩ := hq35
        subst Mq35
        dsimp only [Option.toList_some, List.singleton_append]
        refine e_if_eq C (tgt := 52) dX5_weights_38 (by decide) (by split <;> omega) (fun h_38 => ?_) (fun h_38 => ?_)
        · have b38 := ite0.mp h_38
          refine e_iconst C dX5_weights_52 ?_
          exact e_zreturn C dX5_weights_53 (Or.inl rfl) ⟨fun z => by exfalso; first | exact b7 z.1 | exact b17 z.2.1 | exact b27 z.2.2.1 | exact b38 z.2.2.2.1 | exact b49 z.2.2.2.2, fun _ => ⟨rfl, rfl⟩⟩
        · have b38 := ite1.mp h_38
          refine e_iload C dX5_weights_41 rfl ?_
          refine e_iconst C dX5_weights_43 ?_
          refine e_bipush C dX5_weights_44 ?_
          refine e_callS C (c_isIn (v := m5) (a := 0) (b := 99) (by omega) (by omega) (by omega)) mt_X5_isIn s_X5_89 dX5_weights_46 (fun rr46 Mq46 hq46 => ?_)
          obtain ⟨rfl, hMq46⟩ := hq46
          subst Mq46
          dsimp only [Option.toList_some, List.singleton_append]
          refine e_if_ne C (tgt := 54) dX5_weights_49 (by decide) (by split <;> omega) (fun h_49 => ?_) (fun h_49 => ?_)
          · have b49 := ite1.mp h_49
            refine e_aload_n C dX5_weights_54 rfl ?_
            refine e_getR C f_X5_28 sh_0 (hW 0 3 4 rfl) dX5_weights_55 ?_
            refine e_iload_n C dX5_weights_58 rfl ?_
            refine e_putI C f_X5_114 sh_4 (hd := dX5_weights_59) (hfin := (fun CC T h => by obtain ⟨h1, -⟩ := h; cases h1; rfl)) ?_
            refine e_aload_n C dX5_weights_62 rfl ?_
            refine e_getR C f_X5_28 sh_0 (hW 0 3 4 rfl) dX5_weights_63 ?_
            refine e_iload_n C dX5_weights_66 rfl ?_
            refine e_putI C f_X5_117 sh_4 (hd := dX5_weights_67) (hfin := (fun CC T h => by obtain ⟨h1, -⟩ := h; cases h1; rfl)) ?_
            refine e_aload_n C dX5_weights_70 rfl ?_
            refine e_getR C f_X5_28 sh_0 (hW 0 3 4 rfl) dX5_weights_71 ?_
            refine e_iload_n C dX5_weights_74 rfl ?_
            refine e_putI C f_X5_120 sh_4 (hd := dX5_weights_75) (hfin := (fun CC T h => by obtain ⟨h1, -⟩ := h; cases h1; rfl)) ?_
            refine e_aload_n C dX5_weights_78 rfl ?_
            refine e_getR C f_X5_28 sh_0 (hW 0 3 4 rfl) dX5_weights_79 ?_
            refine e_iload C dX5_weights_82 rfl ?_
            refine e_putI C f_X5_123 sh_4 (hd := dX5_weights_84) (hfin := (fun CC T h => by obtain ⟨h1, -⟩ := h; cases h1; rfl)) ?_
            refine e_aload_n C dX5_weights_87 rfl ?_
            refine e_getR C f_X5_28 sh_0 (hW 0 3 4 rfl) dX5_weights_88 ?_
            refine e_iload C dX5_weights_91 rfl ?_
            refine e_putI C f_X5_126 sh_4 (hd := dX5_weights_93) (hfin := (fun CC T h => by obtain ⟨h1, -⟩ := h; cases h1; rfl)) ?_
            refine e_aload_n C dX5_weights_96 rfl ?_
            refine e_callV C (c_forgetLayings (M := (stI (stI (stI (stI (stI M 4 0 m1) 4 1 m2) 4 2 m3) 4 3 m4) 4 4 m5)) hW) mt_X5_forgetLayings s_X5_82 dX5_weights_97 5 sh_0 rfl (fun rf Mf hqf => ?_)
            obtain ⟨rfl, hfg⟩ := hqf
            dsimp only [Option.toList_none, List.nil_append]
            have ew : wtC (stI (stI (stI (stI (stI M 4 0 m1) 4 1 m2) 4 2 m3) 4 3 m4) 4 4 m5) = (m1, m2, m3, m4, m5) := by
              unfold wtC
              rw [stI_n _ _ (by decide), stI_n _ _ (by decide), stI_n _ _ (by decide), stI_n _ _ (by decide), stI_s, stI_n _ _ (by decide), stI_n _ _ (by decide), stI_n _ _ (by decide), stI_s, stI_n _ _ (by decide), stI_n _ _ (by decide), stI_s, stI_n _ _ (by decide), stI_s, stI_s]
            have e4 : ∀ b j, b ≠ 4 → mI (stI (stI (stI (stI (stI M 4 0 m1) 4 1 m2) 4 2 m3) 4 3 m4) 4 4 m5) b j = mI M b j := fun b j hb => by rw [stI_n _ _ (Or.inl hb), stI_n _ _ (Or.inl hb), stI_n _ _ (Or.inl hb), stI_n _ _ (Or.inl hb), stI_n _ _ (Or.inl hb)]
            have jc : JC Mf := JC_fgA hJ e4 (fun _ _ => rfl) hfg (by rw [ew]; exact ⟨b7, b17, b27, b38, b49⟩)
            have ewf : wtC Mf = (m1, m2, m3, m4, m5) := by
              rw [← ew]; unfold wtC
              rw [hfg.2.1 4 0 (by decide), hfg.2.1 4 1 (by decide), hfg.2.1 4 2 (by decide), hfg.2.1 4 3 (by decide), hfg.2.1 4 4 (by decide)]
            refine e_iconst C dX5_weights_100 ?_
            exact e_zreturn C dX5_weights_101 (Or.inr rfl) ⟨fun _ => ⟨rfl, jc, ewf, fun b j h4 h36 => (hfg.2.1 b j h36).trans (e4 b j h4), fun b j => hfg.1 b j⟩, fun z => absurd ⟨b7, b17, b27, b38, b49⟩ z⟩
          · have b49 := fun z => h_49 (ite1.mpr z)
            refine e_iconst C dX5_weights_52 ?_
            exact e_zreturn C dX5_weights_53 (Or.inl rfl) ⟨fun z => by exfalso; first | exact b7 z.1 | exact b17 z.2.1 | exact b27 z.2.2.1 | exact b38 z.2.2.2.1 | exact b49 z.2.2.2.2, fun _ => ⟨rfl, rfl⟩⟩
