/-! ===== the model's looks, sortOf, sorted, told, look ===== -/
def oJ (b j : Nat) : Prop := b ≠ 153 ∨ (j ≠ 34 ∧ j ≠ 35 ∧ j ≠ 36)
theorem oJ_K {M N : pMem} (h : frD oJ M N) : frD oK M N := frD_su h (fun b j hb => by unfold oK at hb; unfold oJ; omega)
def rk3 (N : pMem) (t : Int × Int × Int) : Prop := mI N 153 34 = t.1 ∧ mI N 153 35 = t.2.1 ∧ mI N 153 36 = t.2.2
def rgT (t : Int × Int × Int) : Prop := (-1 ≤ t.1 ∧ t.1 < 5) ∧ (0 ≤ t.2.1 ∧ t.2.1 ≤ 1000000) ∧ (0 ≤ t.2.2 ∧ t.2.2 ≤ 1000000)
noncomputable def rkN (w : pWt) (G : pPg) (T : Nat → Int) (p n : Nat) : Int × Int × Int := rkF (fun k => decide (0 < kTn T (k : Int))) (coS w G T p) n
def lkH (M : pMem) (p i : Nat) (N : pMem) : Prop := frD oL M N ∧ JD N ∧ (0 < i → mI N 153 10 = 1) ∧ rk3 N (rkN (wtD M) (pgD M) (mI M 158) p i) ∧ rgT (rkN (wtD M) (pgD M) (mI M 158) p i)
theorem rk3_q {N R : pMem} {t : Int × Int × Int} (h : rk3 N t) (hf : frD oQ N R) : rk3 R t := ⟨(hf.1 153 34 (by unfold oQ; omega)).trans h.1, (hf.1 153 35 (by unfold oQ; omega)).trans h.2.1, (hf.1 153 36 (by unfold oQ; omega)).trans h.2.2⟩
theorem lkH_no {M N R : pMem} {p i : Nat} (h : lkH M p i N) (hf : frD oQ N R) (hm : made R) (hn : ¬ 0 < kTn (mI M 158) (i : Int)) : lkH M p (i + 1) R := by
  obtain ⟨h1, h2, h3, h4, h5⟩ := h
  have e : rkN (wtD M) (pgD M) (mI M 158) p (i + 1) = rkN (wtD M) (pgD M) (mI M 158) p i := by
    unfold rkN
    simp only [rkF]
    rw [if_neg (by simpa using hn)]
  unfold lkH
  rw [e]
  exact ⟨frD_tr h1 (oQ_L hf), hm.1, fun _ => hm.2, rk3_q h4 hf, h5⟩
theorem lkH_yes {M N R S : pMem} {p i : Nat} (h : lkH M p i N) (hi : i < 5) (hf : frD oQ N R) (hm : made R) (hn : 0 < kTn (mI M 158) (i : Int)) (hc : 0 ≤ coS (wtD M) (pgD M) (mI M 158) p i ∧ coS (wtD M) (pgD M) (mI M 158) p i ≤ 1000000) (hs : frD oJ R S) (h3 : rk3 S (rk1 (rkN (wtD M) (pgD M) (mI M 158) p i) (i : Int) (coS (wtD M) (pgD M) (mI M 158) p i))) : lkH M p (i + 1) S := by
  obtain ⟨h1, h2, -, h4, h5⟩ := h
  have e : rkN (wtD M) (pgD M) (mI M 158) p (i + 1) = rk1 (rkN (wtD M) (pgD M) (mI M 158) p i) (i : Int) (coS (wtD M) (pgD M) (mI M 158) p i) := by
    unfold rkN
    simp only [rkF]
    rw [if_pos (by simpa using hn)]
  unfold lkH
  rw [e]
  refine ⟨frD_tr h1 (frD_tr (oQ_L hf) (frD_su hs (fun b j hb => by unfold oL oP at hb; unfold oJ; omega))), JD_K hm.1 (oJ_K hs), fun _ => (hs.1 153 10 (by unfold oJ; omega)).trans hm.2, h3, rk1_r h5 (by omega) hc⟩
theorem c_looks {g : pG} {M : pMem} {p : Nat} (hJ : JD M) (hp : p < 16) : pCn g 6 0 0 yX6_looks cX6_looks 4 none SH SH M [.inr (.inr 153), .inl (p : Int)] (fun r M' => r = none ∧ frD oL M M' ∧ made M' ∧ rk3 M' (rkS (wtD M) (pgD M) (mI M 158) p) ∧ rgT (rkS (wtD M) (pgD M) (mI M 158) p)) := by
  refine pCn_intro mt_X6_looks (fun X C => ?_)
  have hW := hJ.1
  have lp : ∀ (i : Nat) (N : pMem), i ≤ 5 → lkH M p i N → pE g 4 X (pMQ g SH (fun r M' => r = none ∧ frD oL M M' ∧ made M' ∧ rk3 M' (rkS (wtD M) (pgD M) (mI M 158) p) ∧ rgT (rkS (wtD M) (pgD M) (mI M 158) p)) X 0 0) SH N 0 0 19 [some (.inr (.inr 153)), some (.inl (p : Int)), some (.inl (i : Int)), none] [] := by
    refine p_for (5) _ _ ?_ ?_
    · rintro N hN
      refine e_iload_n C dX6_looks_19 rfl ?_
      refine e_iconst C dX6_looks_20 ?_
      refine e_icmp_ge C (tgt := 90) dX6_looks_21 (by decide) (by omega) (by omega) (fun h_21 => ?_) (fun h_21 => by exfalso; omega)
      exact e_return C dX6_looks_90 ⟨rfl, hN.1, ⟨hN.2.1, hN.2.2.1 (by decide)⟩, hN.2.2.2.1, hN.2.2.2.2⟩
    · rintro i N hi hN ih
      have hTe := oP_T (oL_P hN.1)
      refine e_iload_n C dX6_looks_19 rfl ?_
      refine e_iconst C dX6_looks_20 ?_
      refine e_icmp_ge C (tgt := 90) dX6_looks_21 (by decide) (by omega) (by omega) (fun h_21 => by exfalso; omega) (fun h_21 => ?_)
      refine e_aload_n C dX6_looks_24 rfl ?_
      refine e_iload_n C dX6_looks_25 rfl ?_
      refine e_callV C (c_isKindD (M := N) (k := (i : Int)) (by omega) hN.2.1) mt_X6_isKind s_X6_168 dX6_looks_26 6 sh_153 rfl (fun rk Mk hqk => ?_)
      obtain ⟨rfl, hk1, hk2⟩ := hqk
      dsimp only [Option.toList_some, List.singleton_append]
      rw [hTe]
      refine e_if_ne C (tgt := 35) dX6_looks_29 (by decide) (by split <;> omega) (fun h_29 => ?_) (fun h_29 => ?_)
      · have hkk := ite1.mp h_29
        refine e_aload_n C dX6_looks_35 rfl ?_
        refine e_iload_n C dX6_looks_36 rfl ?_
        refine e_iload_n C dX6_looks_37 rfl ?_
        refine e_callV C (c_costOf (M := Mk) (p := p) (k := i) hk2 hp hi) mt_X6_costOf s_X6_186 dX6_looks_38 6 sh_153 rfl (fun rc Mc hqc => ?_)
        obtain ⟨rfl, hc1, hc2⟩ := hqc
        dsimp only [Option.toList_some, List.singleton_append]
        have hfk := frD_tr hN.1 (oQ_L hk1)
        have hcr := co_r hk2 hp hi
        rw [oP_wt (oL_P hfk), oP_pg (oL_P hfk), oP_T (oL_P hfk)] at hcr
        rw [oP_wt (oL_P hfk), oP_pg (oL_P hfk), oP_T (oL_P hfk)]
        have hfq := frD_tr hk1 (oM_Q hc1)
        have h3 := rk3_q hN.2.2.2.1 hfq
        have hrg := hN.2.2.2.2
        unfold rgT at hrg
        refine e_istore_n C dX6_looks_41 ?_
        refine e_iload_n C dX6_looks_42 rfl ?_
        refine e_aload_n C dX6_looks_43 rfl ?_
        refine e_getI C f_X6_180 sh_153 dX6_looks_44 ?_
        rw [h3.2.1]
        refine e_icmp_ge C (tgt := 71) dX6_looks_47 (by decide) (by omega) (by omega) (fun h_47 => ?_) (fun h_47 => ?_)
        · have hlt1 : ¬ (coS (wtD M) (pgD M) (mI M 158) p i) < (rkN (wtD M) (pgD M) (mI M 158) p i).2.1 := by omega
          refine e_iload_n C dX6_looks_71 rfl ?_
          refine e_aload_n C dX6_looks_72 rfl ?_
          refine e_getI C f_X6_183 sh_153 dX6_looks_73 ?_
          rw [h3.2.2]
          refine e_icmp_ge C (tgt := 84) dX6_looks_76 (by decide) (by omega) (by omega) (fun h_76 => ?_) (fun h_76 => ?_)
          · have hlt2 : ¬ (coS (wtD M) (pgD M) (mI M 158) p i) < (rkN (wtD M) (pgD M) (mI M 158) p i).2.2 := by omega
            have hI := lkH_yes (S := Mc) hN hi hfq hc2 hkk.2.2 (by omega) frD_rf (by
              unfold rk1
              rw [if_neg hlt1, if_neg hlt2]
              exact h3)
            refine e_iinc C dX6_looks_84 rfl ?_
            refine e_goto C (tgt := 19) dX6_looks_87 (by decide) ?_
            first
              | (refine pE_f 3 ?_
                 rw [show ((i : Int) + 1) = ((i + 1 : Nat) : Int) by omega]
                 exact ih _ hI)
              | (rw [show ((i : Int) + 1) = ((i + 1 : Nat) : Int) by omega]
                 exact ih _ hI)
          · have hlt2 : (coS (wtD M) (pgD M) (mI M 158) p i) < (rkN (wtD M) (pgD M) (mI M 158) p i).2.2 := by omega
            have hI := lkH_yes (S := stI Mc 153 36 (coS (wtD M) (pgD M) (mI M 158) p i)) hN hi hfq hc2 hkk.2.2 (by omega) (frD_st (fun z => by unfold oJ at z; omega)) (by
              unfold rk1 rk3
              rw [if_neg hlt1, if_pos hlt2]
              exact ⟨by rw [stI_n _ _ (by omega)]; exact h3.1, by rw [stI_n _ _ (by omega)]; exact h3.2.1, stI_s _ _ _ _⟩)
            refine e_aload_n C dX6_looks_79 rfl ?_
            refine e_iload_n C dX6_looks_80 rfl ?_
            refine e_putI C f_X6_183 sh_153 (hd := dX6_looks_81) (hfin := (fun CC T h => by obtain ⟨h1, -⟩ := h; cases h1; rfl)) ?_
            refine e_iinc C dX6_looks_84 rfl ?_
            refine e_goto C (tgt := 19) dX6_looks_87 (by decide) ?_
            first
              | (refine pE_f 3 ?_
                 rw [show ((i : Int) + 1) = ((i + 1 : Nat) : Int) by omega]
                 exact ih _ hI)
              | (rw [show ((i : Int) + 1) = ((i + 1 : Nat) : Int) by omega]
                 exact ih _ hI)
        · have hlt1 : (coS (wtD M) (pgD M) (mI M 158) p i) < (rkN (wtD M) (pgD M) (mI M 158) p i).2.1 := by omega
          refine e_aload_n C dX6_looks_50 rfl ?_
          refine e_aload_n C dX6_looks_51 rfl ?_
          refine e_getI C f_X6_180 sh_153 dX6_looks_52 ?_
          rw [h3.2.1]
          refine e_putI C f_X6_183 sh_153 (hd := dX6_looks_55) (hfin := (fun CC T h => by obtain ⟨h1, -⟩ := h; cases h1; rfl)) ?_
          refine e_aload_n C dX6_looks_58 rfl ?_
          refine e_iload_n C dX6_looks_59 rfl ?_
          refine e_putI C f_X6_180 sh_153 (hd := dX6_looks_60) (hfin := (fun CC T h => by obtain ⟨h1, -⟩ := h; cases h1; rfl)) ?_
          refine e_aload_n C dX6_looks_63 rfl ?_
          refine e_iload_n C dX6_looks_64 rfl ?_
          refine e_putI C f_X6_177 sh_153 (hd := dX6_looks_65) (hfin := (fun CC T h => by obtain ⟨h1, -⟩ := h; cases h1; rfl)) ?_
          have hI := lkH_yes (S := stI (stI (stI Mc 153 36 (rkN (wtD M) (pgD M) (mI M 158) p i).2.1) 153 35 (coS (wtD M) (pgD M) (mI M 158) p i)) 153 34 (i : Int)) hN hi hfq hc2 hkk.2.2 (by omega) (frD_tr (frD_tr (frD_st (fun z => by unfold oJ at z; omega)) (frD_st (fun z => by unfold oJ at z; omega))) (frD_st (fun z => by unfold oJ at z; omega))) (by
            unfold rk1 rk3
            rw [if_pos hlt1]
            exact ⟨stI_s _ _ _ _, by rw [stI_n _ _ (by omega), stI_s], by rw [stI_n _ _ (by omega), stI_n _ _ (by omega), stI_s]⟩)
          refine e_goto C (tgt := 84) dX6_looks_68 (by decide) ?_
          refine e_iinc C dX6_looks_84 rfl ?_
          refine e_goto C (tgt := 19) dX6_looks_87 (by decide) ?_
          first
            | (refine pE_f 3 ?_
               rw [show ((i : Int) + 1) = ((i + 1 : Nat) : Int) by omega]
               exact ih _ hI)
            | (rw [show ((i : Int) + 1) = ((i + 1 : Nat) : Int) by omega]
               exact ih _ hI)
      · have hkk := fun z => h_29 (ite1.mpr z)
        have hI := lkH_no hN hk1 hk2 (fun z => hkk ⟨by omega, by omega, z⟩)
        refine e_goto C (tgt := 84) dX6_looks_32 (by decide) ?_
        refine e_iinc C dX6_looks_84 rfl ?_
        refine e_goto C (tgt := 19) dX6_looks_87 (by decide) ?_
        first
          | (refine pE_f 3 ?_
             rw [show ((i : Int) + 1) = ((i + 1 : Nat) : Int) by omega]
             exact ih _ hI)
          | (rw [show ((i : Int) + 1) = ((i + 1 : Nat) : Int) by omega]
             exact ih _ hI)
  show pE g 4 X _ SH M 0 0 0 [some (.inr (.inr 153)), some (.inl (p : Int)), none, none] []
  refine e_aload_n C dX6_looks_0 rfl ?_
  refine e_iconst C dX6_looks_1 ?_
  refine e_putI C f_X6_177 sh_153 (hd := dX6_looks_2) (hfin := (fun CC T h => by obtain ⟨h1, -⟩ := h; cases h1; rfl)) ?_
  refine e_aload_n C dX6_looks_5 rfl ?_
  refine e_ldc C (1000000) k_X6_138 dX6_looks_6 ?_
  refine e_putI C f_X6_180 sh_153 (hd := dX6_looks_8) (hfin := (fun CC T h => by obtain ⟨h1, -⟩ := h; cases h1; rfl)) ?_
  refine e_aload_n C dX6_looks_11 rfl ?_
  refine e_ldc C (1000000) k_X6_138 dX6_looks_12 ?_
  refine e_putI C f_X6_183 sh_153 (hd := dX6_looks_14) (hfin := (fun CC T h => by obtain ⟨h1, -⟩ := h; cases h1; rfl)) ?_
  refine e_iconst C dX6_looks_17 ?_
  refine e_istore_n C dX6_looks_18 ?_
  have hf3 : frD oJ M (stI (stI (stI M 153 34 (-1)) 153 35 1000000) 153 36 1000000) := frD_tr (frD_tr (frD_st (fun z => by unfold oJ at z; omega)) (frD_st (fun z => by unfold oJ at z; omega))) (frD_st (fun z => by unfold oJ at z; omega))
  by_cases hz : True
  · refine lp 0 _ (by omega) ⟨frD_su hf3 (fun b j hb => by unfold oL oP at hb; unfold oJ; omega), JD_K hJ (oJ_K hf3), fun z => by omega, ?_, by unfold rgT rkN; simp only [rkF]; decide⟩
    unfold rk3 rkN
    simp only [rkF]
    exact ⟨by rw [stI_n _ _ (by omega), stI_n _ _ (by omega), stI_s], by rw [stI_n _ _ (by omega), stI_s], stI_s _ _ _ _⟩
  · exact absurd trivial hz
theorem c_sortOf {g : pG} {M : pMem} {p : Nat} (hJ : JD M) (hp : p < 16) : pCn g 7 0 0 yX6_sortOf cX6_sortOf 2 (some .int) SH SH M [.inr (.inr 153), .inl (p : Int)] (fun r M' => r = some (.inl (soS (wtD M) (pgD M) (mI M 158) (mI M 153 7) (mI M 153 8) p)) ∧ frD oL M M' ∧ made M' ∧ rk3 M' (rkS (wtD M) (pgD M) (mI M 158) p) ∧ rgT (rkS (wtD M) (pgD M) (mI M 158) p)) := by
  refine pCn_intro mt_X6_sortOf (fun X C => ?_)
  have hW := hJ.1
  show pE g 2 X _ SH M 0 0 0 [some (.inr (.inr 153)), some (.inl (p : Int))] []
  refine e_aload_n C dX6_sortOf_0 rfl ?_
  refine e_iload_n C dX6_sortOf_1 rfl ?_
  refine e_callV C (c_looks (M := M) (p := p) hJ hp) mt_X6_looks s_X6_189 dX6_sortOf_2 6 sh_153 rfl (fun rl Ml hql => ?_)
  obtain ⟨rfl, g1, g2, g3, g4⟩ := hql
  dsimp only [Option.toList_none, List.nil_append]
  have hrg := g4
  unfold rgT at hrg
  have e7 : mI Ml 153 7 = mI M 153 7 := g1.1 153 7 (by unfold oL oP; omega)
  have e8 : mI Ml 153 8 = mI M 153 8 := g1.1 153 8 (by unfold oL oP; omega)
  have hbd := hJ.2.2.2.1
  unfold bdD at hbd
  refine e_aload_n C dX6_sortOf_5 rfl ?_
  refine e_getI C f_X6_177 sh_153 dX6_sortOf_6 ?_
  rw [g3.1]
  refine e_if_lt C (tgt := 23) dX6_sortOf_9 (by decide) (by omega) (fun h_9 => ?_) (fun h_9 => ?_)
  · skip
    refine e_bipush C dX6_sortOf_23 ?_
    exact e_ireturn C dX6_sortOf_25 ⟨by unfold soS ansI; rw [if_pos (by omega)], g1, g2, g3, g4⟩
  · skip
    refine e_aload_n C dX6_sortOf_12 rfl ?_
    refine e_getI C f_X6_180 sh_153 dX6_sortOf_13 ?_
    rw [g3.2.1]
    refine e_aload_n C dX6_sortOf_16 rfl ?_
    refine e_getI C f_X6_28 sh_153 dX6_sortOf_17 ?_
    rw [e7]
    refine e_icmp_le C (tgt := 26) dX6_sortOf_20 (by decide) (by omega) (by omega) (fun h_20 => ?_) (fun h_20 => ?_)
    · skip
      refine e_aload_n C dX6_sortOf_26 rfl ?_
      refine e_getI C f_X6_183 sh_153 dX6_sortOf_27 ?_
      rw [g3.2.2]
      refine e_aload_n C dX6_sortOf_30 rfl ?_
      refine e_getI C f_X6_180 sh_153 dX6_sortOf_31 ?_
      rw [g3.2.1]
      refine e_aload_n C dX6_sortOf_34 rfl ?_
      refine e_getI C f_X6_32 sh_153 dX6_sortOf_35 ?_
      rw [e8]
      refine e_iadd C dX6_sortOf_38 ?_
      refine e_icmp_ge C (tgt := 47) dX6_sortOf_39 (by decide) (by omega) (by omega) (fun h_39 => ?_) (fun h_39 => ?_)
      · skip
        refine e_aload_n C dX6_sortOf_47 rfl ?_
        refine e_getI C f_X6_177 sh_153 dX6_sortOf_48 ?_
        rw [g3.1]
        first | exact e_ireturn C dX6_sortOf_51 ⟨by unfold soS ansI; rw [if_neg (by omega), if_pos (by omega)], g1, g2, g3, g4⟩ | exact e_ireturn C dX6_sortOf_51 ⟨by unfold soS ansI; rw [if_neg (by omega), if_neg (by omega)], g1, g2, g3, g4⟩
      · skip
        refine e_bipush C dX6_sortOf_42 ?_
        refine e_goto C (tgt := 51) dX6_sortOf_44 (by decide) ?_
        first | exact e_ireturn C dX6_sortOf_51 ⟨by unfold soS ansI; rw [if_neg (by omega), if_pos (by omega)], g1, g2, g3, g4⟩ | exact e_ireturn C dX6_sortOf_51 ⟨by unfold soS ansI; rw [if_neg (by omega), if_neg (by omega)], g1, g2, g3, g4⟩
    · skip
      refine e_bipush C dX6_sortOf_23 ?_
      exact e_ireturn C dX6_sortOf_25 ⟨by unfold soS ansI; rw [if_pos (by omega)], g1, g2, g3, g4⟩
theorem c_sortedD {g : pG} {M : pMem}  {p : Int} (hi_p : -2147483648 ≤ p ∧ p < 2147483648) (hJ : JD M) : pCn g 8 0 0 yX6_sorted cX6_sorted 2 (some .int) SH SH M [.inr (.inr 153), .inl p] (fun r M' => r = some (.inl (if isQ M p then (soS (wtD M) (pgD M) (mI M 158) (mI M 153 7) (mI M 153 8) p.toNat) else -1)) ∧ frD oP M M' ∧ JD M') := by
  refine pCn_intro mt_X6_sorted (fun X C => ?_)
  have hW := hJ.1
  show pE g 2 X _ SH M 0 0 0 [some (.inr (.inr 153)), some (.inl p)] []
  refine e_aload_n C dX6_sorted_0 rfl ?_
  refine e_iload_n C dX6_sorted_1 rfl ?_
  refine e_callV C (c_isPageD hi_p hJ.2.1) mt_X6_isPage s_X6_113 dX6_sorted_2 6 sh_153 rfl (fun r M1 hq => ?_)
  obtain ⟨rfl, hM⟩ := hq
  subst M1
  dsimp only [Option.toList_some, List.singleton_append]
  refine e_if_eq C (tgt := 16) dX6_sorted_5 (by decide) (by split <;> omega) (fun h_5 => ?_) (fun h_5 => ?_)
  · have hpp := ite0.mp h_5
    refine e_iconst C dX6_sorted_16 ?_
    first | exact e_ireturn C dX6_sorted_17 ⟨by rw [if_pos hpp]; rfl, oL_P g1, g2.1⟩ | exact e_ireturn C dX6_sorted_17 ⟨by rw [if_neg hpp], frD_rf, hJ⟩
  · have hpp := ite1.mp h_5
    obtain ⟨q, rfl, hq, hq2⟩ := isQ_n hJ hpp
    refine e_aload_n C dX6_sorted_8 rfl ?_
    refine e_iload_n C dX6_sorted_9 rfl ?_
    refine e_callV C (c_sortOf (M := M) (p := q) hJ hq) mt_X6_sortOf s_X6_192 dX6_sorted_10 6 sh_153 rfl (fun rs Ms hqs => ?_)
    obtain ⟨rfl, g1, g2, -, -⟩ := hqs
    dsimp only [Option.toList_some, List.singleton_append]
    refine e_goto C (tgt := 17) dX6_sorted_13 (by decide) ?_
    first | exact e_ireturn C dX6_sorted_17 ⟨by rw [if_pos hpp]; rfl, oL_P g1, g2.1⟩ | exact e_ireturn C dX6_sorted_17 ⟨by rw [if_neg hpp], frD_rf, hJ⟩
theorem c_toldD {g : pG} {M : pMem}  {p : Int} (hi_p : -2147483648 ≤ p ∧ p < 2147483648) (hJ : JD M) : pCn g 3 0 0 yX6_told cX6_told 2 (some .int) SH SH M [.inr (.inr 153), .inl p] (fun r M' => r = some (.inl (if isQ M p then mI M 158 p.toNat else -1)) ∧ M' = M) := by
  refine pCn_intro mt_X6_told (fun X C => ?_)
  have hW := hJ.1
  show pE g 2 X _ SH M 0 0 0 [some (.inr (.inr 153)), some (.inl p)] []
  refine e_aload_n C dX6_told_0 rfl ?_
  refine e_iload_n C dX6_told_1 rfl ?_
  refine e_callV C (c_isPageD hi_p hJ.2.1) mt_X6_isPage s_X6_113 dX6_told_2 6 sh_153 rfl (fun r M1 hq => ?_)
  obtain ⟨rfl, hM⟩ := hq
  subst M1
  dsimp only [Option.toList_some, List.singleton_append]
  refine e_if_eq C (tgt := 17) dX6_told_5 (by decide) (by split <;> omega) (fun h_5 => ?_) (fun h_5 => ?_)
  · have hpp := ite0.mp h_5
    refine e_iconst C dX6_told_17 ?_
    first | exact e_ireturn C dX6_told_18 ⟨by rw [if_pos hpp]; rfl, rfl⟩ | exact e_ireturn C dX6_told_18 ⟨by rw [if_neg hpp], rfl⟩
  · have hpp := ite1.mp h_5
    obtain ⟨q, rfl, hq, hq2⟩ := isQ_n hJ hpp
    refine e_aload_n C dX6_told_8 rfl ?_
    refine e_getR C f_X6_22 sh_153 (hW 153 5 158 rfl) dX6_told_9 ?_
    refine e_iload_n C dX6_told_12 rfl ?_
    refine e_iaload C dX6_told_13 sh_158 _ rfl (by omega) ?_
    refine e_goto C (tgt := 18) dX6_told_14 (by decide) ?_
    first | exact e_ireturn C dX6_told_18 ⟨by rw [if_pos hpp]; rfl, rfl⟩ | exact e_ireturn C dX6_told_18 ⟨by rw [if_neg hpp], rfl⟩
theorem c_lookD {g : pG} {M : pMem} (hJ : JD M) : pCn g 8 0 0 yX6_look cX6_look 4 (some .int) SH SH M [.inr (.inr 153)] (fun r M' => r = some (.inl (lkF (mI M 158) (soS (wtD M) (pgD M) (mI M 158) (mI M 153 7) (mI M 153 8)) (fun q => (rkS (wtD M) (pgD M) (mI M 158) q).2.2 - (rkS (wtD M) (pgD M) (mI M 158) q).2.1) (mI M 153 0).toNat).1) ∧ frD oP M M' ∧ JD M') := by
  refine pCn_intro mt_X6_look (fun X C => ?_)
  have hW := hJ.1
  obtain ⟨n, hn⟩ : ∃ n : Nat, mI M 153 0 = (n : Int) := ⟨(mI M 153 0).toNat, by have := hJ.2.1; omega⟩
  have hn16 : n ≤ 16 := by have := hJ.2.1; omega
  have en : (mI M 153 0).toNat = n := by omega
  have lp : ∀ (i : Nat) (N : pMem), i ≤ n → (frD oP M N ∧ JD N ∧ -2147483648 ≤ (lkF (mI M 158) (soS (wtD M) (pgD M) (mI M 158) (mI M 153 7) (mI M 153 8)) (fun q => (rkS (wtD M) (pgD M) (mI M 158) q).2.2 - (rkS (wtD M) (pgD M) (mI M 158) q).2.1) i).2 ∧ (lkF (mI M 158) (soS (wtD M) (pgD M) (mI M 158) (mI M 153 7) (mI M 153 8)) (fun q => (rkS (wtD M) (pgD M) (mI M 158) q).2.2 - (rkS (wtD M) (pgD M) (mI M 158) q).2.1) i).2 ≤ 1000000) → pE g 4 X (pMQ g SH (fun r M' => r = some (.inl (lkF (mI M 158) (soS (wtD M) (pgD M) (mI M 158) (mI M 153 7) (mI M 153 8)) (fun q => (rkS (wtD M) (pgD M) (mI M 158) q).2.2 - (rkS (wtD M) (pgD M) (mI M 158) q).2.1) (mI M 153 0).toNat).1) ∧ frD oP M M' ∧ JD M') X 0 0) SH N 0 0 7 [some (.inr (.inr 153)), some (.inl (lkF (mI M 158) (soS (wtD M) (pgD M) (mI M 158) (mI M 153 7) (mI M 153 8)) (fun q => (rkS (wtD M) (pgD M) (mI M 158) q).2.2 - (rkS (wtD M) (pgD M) (mI M 158) q).2.1) i).1), some (.inl (lkF (mI M 158) (soS (wtD M) (pgD M) (mI M 158) (mI M 153 7) (mI M 153 8)) (fun q => (rkS (wtD M) (pgD M) (mI M 158) q).2.2 - (rkS (wtD M) (pgD M) (mI M 158) q).2.1) i).2), some (.inl (i : Int))] [] := by
    refine p_for (n) _ _ ?_ ?_
    · rintro N ⟨hN, hN2, hr⟩
      have hWN := hN2.1
      have e0 : mI N 153 0 = (n : Int) := (hN.1 153 0 (by unfold oP; omega)).trans hn
      have eT := oP_T hN
      refine e_iload_n C dX6_look_7 rfl ?_
      refine e_aload_n C dX6_look_8 rfl ?_
      refine e_getI C f_X6_99 sh_153 dX6_look_9 ?_
      rw [e0]
      refine e_icmp_ge C (tgt := 66) dX6_look_12 (by decide) (by omega) (by omega) (fun h_12 => ?_) (fun h_12 => by exfalso; omega)
      refine e_iload_n C dX6_look_66 rfl ?_
      exact e_ireturn C dX6_look_67 ⟨by rw [en], hN, hN2⟩
    · rintro i N hi ⟨hN, hN2, hr⟩ ih
      have hWN := hN2.1
      have e0 : mI N 153 0 = (n : Int) := (hN.1 153 0 (by unfold oP; omega)).trans hn
      have eT := oP_T hN
      have hTi := hJ.2.2.2.2.2.1.1 i (by omega)
      have keep : ¬ (mI M 158 i = -1 ∧ (soS (wtD M) (pgD M) (mI M 158) (mI M 153 7) (mI M 153 8)) i = 11 ∧ (fun q => (rkS (wtD M) (pgD M) (mI M 158) q).2.2 - (rkS (wtD M) (pgD M) (mI M 158) q).2.1) i < (lkF (mI M 158) (soS (wtD M) (pgD M) (mI M 158) (mI M 153 7) (mI M 153 8)) (fun q => (rkS (wtD M) (pgD M) (mI M 158) q).2.2 - (rkS (wtD M) (pgD M) (mI M 158) q).2.1) i).2) → (lkF (mI M 158) (soS (wtD M) (pgD M) (mI M 158) (mI M 153 7) (mI M 153 8)) (fun q => (rkS (wtD M) (pgD M) (mI M 158) q).2.2 - (rkS (wtD M) (pgD M) (mI M 158) q).2.1) (i + 1)) = (lkF (mI M 158) (soS (wtD M) (pgD M) (mI M 158) (mI M 153 7) (mI M 153 8)) (fun q => (rkS (wtD M) (pgD M) (mI M 158) q).2.2 - (rkS (wtD M) (pgD M) (mI M 158) q).2.1) i) := fun h => by
        show (if _ then _ else _) = _
        rw [if_neg h]
      refine e_iload_n C dX6_look_7 rfl ?_
      refine e_aload_n C dX6_look_8 rfl ?_
      refine e_getI C f_X6_99 sh_153 dX6_look_9 ?_
      rw [e0]
      refine e_icmp_ge C (tgt := 66) dX6_look_12 (by decide) (by omega) (by omega) (fun h_12 => by exfalso; omega) (fun h_12 => ?_)
      refine e_aload_n C dX6_look_15 rfl ?_
      refine e_getR C f_X6_22 sh_153 (hWN 153 5 158 rfl) dX6_look_16 ?_
      refine e_iload_n C dX6_look_19 rfl ?_
      refine e_iaload C dX6_look_20 sh_158 _ rfl (by omega) ?_
      rw [eT]
      refine e_iconst C dX6_look_21 ?_
      refine e_icmp_ne C (tgt := 60) dX6_look_22 (by decide) (by omega) (by omega) (fun h_22 => ?_) (fun h_22 => ?_)
      · have hk := keep (fun z => h_22 z.1)
        have hih := ih N ⟨hN, hN2, by rw [hk]; exact hr⟩
        rw [hk] at hih
        refine e_iinc C dX6_look_60 rfl ?_
        refine e_goto C (tgt := 7) dX6_look_63 (by decide) ?_
        rw [show ((i : Int) + 1) = ((i + 1 : Nat) : Int) by omega]
        exact hih
      · refine e_aload_n C dX6_look_25 rfl ?_
        refine e_iload_n C dX6_look_26 rfl ?_
        refine e_callV C (c_sortOf (M := N) (p := i) hN2 (by omega)) mt_X6_sortOf s_X6_192 dX6_look_27 6 sh_153 rfl (fun rs Ms hqs => ?_)
        obtain ⟨rfl, g1, g2, g3, g4⟩ := hqs
        dsimp only [Option.toList_some, List.singleton_append]
        rw [oP_wt hN, oP_pg hN, oP_T hN] at g3 g4
        rw [oP_wt hN, oP_pg hN, oP_T hN, hN.1 153 7 (by unfold oP; omega), hN.1 153 8 (by unfold oP; omega)]
        have hsr := soS_r (wtD M) (pgD M) (mI M 158) (mI M 153 7) (mI M 153 8) i
        have hNs := frD_tr hN (oL_P g1)
        unfold rgT at g4
        refine e_bipush C dX6_look_30 ?_
        refine e_icmp_ne C (tgt := 60) dX6_look_32 (by decide) (by omega) (by omega) (fun h_32 => ?_) (fun h_32 => ?_)
        · have hk := keep (fun z => h_32 z.2.1)
          have hih := ih Ms ⟨hNs, g2.1, by rw [hk]; exact hr⟩
          rw [hk] at hih
          refine e_iinc C dX6_look_60 rfl ?_
          refine e_goto C (tgt := 7) dX6_look_63 (by decide) ?_
          rw [show ((i : Int) + 1) = ((i + 1 : Nat) : Int) by omega]
          exact hih
        · refine e_aload_n C dX6_look_35 rfl ?_
          refine e_getI C f_X6_183 sh_153 dX6_look_36 ?_
          rw [g3.2.2]
          refine e_aload_n C dX6_look_39 rfl ?_
          refine e_getI C f_X6_180 sh_153 dX6_look_40 ?_
          rw [g3.2.1]
          refine e_isub C dX6_look_43 ?_
          refine e_iload_n C dX6_look_44 rfl ?_
          refine e_icmp_ge C (tgt := 60) dX6_look_45 (by decide) (by omega) (by omega) (fun h_45 => ?_) (fun h_45 => ?_)
          · have hk := keep (fun z => by have := z.2.2; dsimp only at this; omega)
            have hih := ih Ms ⟨hNs, g2.1, by rw [hk]; exact hr⟩
            rw [hk] at hih
            refine e_iinc C dX6_look_60 rfl ?_
            refine e_goto C (tgt := 7) dX6_look_63 (by decide) ?_
            rw [show ((i : Int) + 1) = ((i + 1 : Nat) : Int) by omega]
            exact hih
          · have hk : (lkF (mI M 158) (soS (wtD M) (pgD M) (mI M 158) (mI M 153 7) (mI M 153 8)) (fun q => (rkS (wtD M) (pgD M) (mI M 158) q).2.2 - (rkS (wtD M) (pgD M) (mI M 158) q).2.1) (i + 1)) = ((i : Int), (fun q => (rkS (wtD M) (pgD M) (mI M 158) q).2.2 - (rkS (wtD M) (pgD M) (mI M 158) q).2.1) i) := by
              show (if _ then _ else _) = _
              rw [if_pos ⟨Classical.not_not.mp h_22, Classical.not_not.mp h_32, by dsimp only; omega⟩]
            have hih := ih Ms ⟨hNs, g2.1, by rw [hk]; dsimp only; omega⟩
            rw [hk] at hih
            refine e_aload_n C dX6_look_48 rfl ?_
            refine e_getI C f_X6_183 sh_153 dX6_look_49 ?_
            rw [g3.2.2]
            refine e_aload_n C dX6_look_52 rfl ?_
            refine e_getI C f_X6_180 sh_153 dX6_look_53 ?_
            rw [g3.2.1]
            refine e_isub C dX6_look_56 ?_
            refine e_istore_n C dX6_look_57 ?_
            refine e_iload_n C dX6_look_58 rfl ?_
            refine e_istore_n C dX6_look_59 ?_
            refine e_iinc C dX6_look_60 rfl ?_
            refine e_goto C (tgt := 7) dX6_look_63 (by decide) ?_
            rw [show ((i : Int) + 1) = ((i + 1 : Nat) : Int) by omega]
            exact hih
  show pE g 4 X _ SH M 0 0 0 [some (.inr (.inr 153)), none, none, none] []
  refine e_iconst C dX6_look_0 ?_
  refine e_istore_n C dX6_look_1 ?_
  refine e_ldc C (1000000) k_X6_138 dX6_look_2 ?_
  refine e_istore_n C dX6_look_4 ?_
  refine e_iconst C dX6_look_5 ?_
  refine e_istore_n C dX6_look_6 ?_
  exact lp 0 M (by omega) ⟨frD_rf, hJ, by simp [lkF]⟩
theorem c_isUnknown {g : pG} {M : pMem} {p : Nat} (hJ : JD M) (hp : p < 16) : pCn g 8 0 0 yX6_isUnknown cX6_isUnknown 2 (some .boolean) SH SH M [.inr (.inr 153), .inl (p : Int)] (fun r M' => r = some (.inl (if (mI M 158 p = -1 ∧ (soS (wtD M) (pgD M) (mI M 158) (mI M 153 7) (mI M 153 8) p) = 10) then 1 else 0)) ∧ frD oL M M' ∧ JD M') := by
  refine pCn_intro mt_X6_isUnknown (fun X C => ?_)
  have hW := hJ.1
  have hTp := hJ.2.2.2.2.2.1.1 p hp
  have hsr := soS_r (wtD M) (pgD M) (mI M 158) (mI M 153 7) (mI M 153 8) p
  show pE g 2 X _ SH M 0 0 0 [some (.inr (.inr 153)), some (.inl (p : Int))] []
  refine e_aload_n C dX6_isUnknown_0 rfl ?_
  refine e_getR C f_X6_22 sh_153 (hW 153 5 158 rfl) dX6_isUnknown_1 ?_
  refine e_iload_n C dX6_isUnknown_4 rfl ?_
  refine e_iaload C dX6_isUnknown_5 sh_158 _ rfl (by omega) ?_
  refine e_iconst C dX6_isUnknown_6 ?_
  refine e_icmp_ne C (tgt := 24) dX6_isUnknown_7 (by decide) (by omega) (by omega) (fun h_7 => ?_) (fun h_7 => ?_)
  · have hu : ¬ (mI M 158 p = -1 ∧ (soS (wtD M) (pgD M) (mI M 158) (mI M 153 7) (mI M 153 8) p) = 10) := fun z => h_7 z.1
    refine e_iconst C dX6_isUnknown_24 ?_
    first | exact e_zreturn C dX6_isUnknown_25 (Or.inr rfl) ⟨by rw [if_pos hu], g1, g2.1⟩ | exact e_zreturn C dX6_isUnknown_25 (Or.inl rfl) ⟨by rw [if_neg hu], g1, g2.1⟩ | exact e_zreturn C dX6_isUnknown_25 (Or.inl rfl) ⟨by rw [if_neg hu], frD_rf, hJ⟩
  · refine e_aload_n C dX6_isUnknown_10 rfl ?_
    refine e_iload_n C dX6_isUnknown_11 rfl ?_
    refine e_callV C (c_sortOf (M := M) (p := p) hJ hp) mt_X6_sortOf s_X6_192 dX6_isUnknown_12 6 sh_153 rfl (fun rs Ms hqs => ?_)
    obtain ⟨rfl, g1, g2, -, -⟩ := hqs
    dsimp only [Option.toList_some, List.singleton_append]
    refine e_bipush C dX6_isUnknown_15 ?_
    refine e_icmp_ne C (tgt := 24) dX6_isUnknown_17 (by decide) (by omega) (by omega) (fun h_17 => ?_) (fun h_17 => ?_)
    · have hu : ¬ (mI M 158 p = -1 ∧ (soS (wtD M) (pgD M) (mI M 158) (mI M 153 7) (mI M 153 8) p) = 10) := fun z => h_17 z.2
      refine e_iconst C dX6_isUnknown_24 ?_
      first | exact e_zreturn C dX6_isUnknown_25 (Or.inr rfl) ⟨by rw [if_pos hu], g1, g2.1⟩ | exact e_zreturn C dX6_isUnknown_25 (Or.inl rfl) ⟨by rw [if_neg hu], g1, g2.1⟩ | exact e_zreturn C dX6_isUnknown_25 (Or.inl rfl) ⟨by rw [if_neg hu], frD_rf, hJ⟩
    · have hu : (mI M 158 p = -1 ∧ (soS (wtD M) (pgD M) (mI M 158) (mI M 153 7) (mI M 153 8) p) = 10) := ⟨Classical.not_not.mp h_7, Classical.not_not.mp h_17⟩
      refine e_iconst C dX6_isUnknown_20 ?_
      refine e_goto C (tgt := 25) dX6_isUnknown_21 (by decide) ?_
      first | exact e_zreturn C dX6_isUnknown_25 (Or.inr rfl) ⟨by rw [if_pos hu], g1, g2.1⟩ | exact e_zreturn C dX6_isUnknown_25 (Or.inl rfl) ⟨by rw [if_neg hu], g1, g2.1⟩ | exact e_zreturn C dX6_isUnknown_25 (Or.inl rfl) ⟨by rw [if_neg hu], frD_rf, hJ⟩
