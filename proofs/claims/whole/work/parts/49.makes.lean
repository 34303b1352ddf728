/-! ===== the model's makes ===== -/
theorem kdP_cg {G : pPg} {T : Nat → Int} {k : Int} {Z Z2 : pS} (h8 : ∀ p, p < 16 → G.1 p ≤ 8) (h : kdP G T k 99 Z) (he : ∀ s, s < 16 → Z2.1 s = Z.1 s ∧ Z2.2.1 s = Z.2.1 s ∧ Z2.2.2.1 s = Z.2.2.1 s ∧ Z2.2.2.2 s = Z.2.2.2 s) : kdP G T k 99 Z2 := fun e h1 h2 h3 => by
  have hlt : spc G T k (e - 1) < 16 := by
    have h4 := spc_mono (G := G) (T := T) (k := k) h2
    have h5 := spc_16 (G := G) (T := T) (k := k) h8
    obtain ⟨d, rfl⟩ : ∃ d, e = d + 1 := ⟨e - 1, by omega⟩
    have h6 : spc G T k (d + 1) = spc G T k d + 1 := by simp only [spc]; rw [if_pos h3]
    rw [h6] at h4
    rw [Nat.add_sub_cancel]
    omega
  obtain ⟨a1, a2, a3, a4⟩ := he _ hlt
  rw [a1, a2, a3, a4]
  exact h e h1 h2 h3
theorem sp_none {G : pPg} {T : Nat → Int} {k : Int} (h : kTn T k ≤ 0) (c : Int) : ¬ isSp G T k c = true := fun z => by
  have := (of_decide_eq_true z).1
  have := kn_r G T k c
  omega
theorem spc_none {G : pPg} {T : Nat → Int} {k : Int} (h : kTn T k ≤ 0) : ∀ c, spc G T k c = 0
  | 0 => rfl
  | c + 1 => by simp only [spc]; rw [if_neg (sp_none h _), spc_none h c]
theorem kdP_none {G : pPg} {T : Nat → Int} {k : Int} {Z : pS} {c : Nat} (h : kTn T k ≤ 0) : kdP G T k c Z := fun _ _ _ h3 => absurd h3 (sp_none h _)
def oB (k b j : Nat) : Prop := b ≠ 177 ∧ (b ≠ 160 ∨ j ≠ k) ∧ (b ≠ 161 ∨ j ≠ k) ∧ (b < 162 ∨ 165 < b ∨ j < 16 * k ∨ 16 * k + 16 ≤ j)
def mkD (M : pMem) (i : Nat) (N : pMem) : Prop := frD oQ M N ∧ mI N 153 10 = 1 ∧ (∀ j, j < 80 → mI N 176 j = -1) ∧ ∀ k, k < i → mI N 160 k = kTn (mI M 158) (k : Int) ∧ mI N 161 k = (spc (pgD M) (mI M 158) (k : Int) 99 : Int) ∧ kdP (pgD M) (mI M 158) (k : Int) 99 (kdS N k)
theorem mkD_n {M N R : pMem} {k : Nat} (hG : pgN M) (h : mkD M k N) (hr : frD (oB k) N R) (h1 : mI R 160 k = kTn (mI M 158) (k : Int)) (h2 : mI R 161 k = (spc (pgD M) (mI M 158) (k : Int) 99 : Int)) (h3 : kdP (pgD M) (mI M 158) (k : Int) 99 (kdS R k)) : mkD M (k + 1) R := by
  obtain ⟨a1, a2, a3, a4⟩ := h
  refine ⟨frD_tr a1 (frD_su hr (fun b j hb => by unfold oQ at hb; unfold oB; omega)), (hr.1 153 10 (by unfold oB; omega)).trans a2, fun j hj => (hr.1 176 j (by unfold oB; omega)).trans (a3 j hj), fun q hq => ?_⟩
  by_cases e : q = k
  · subst e; exact ⟨h1, h2, h3⟩
  · obtain ⟨b1, b2, b3⟩ := a4 q (by omega)
    refine ⟨(hr.1 160 q (by unfold oB; omega)).trans b1, (hr.1 161 q (by unfold oB; omega)).trans b2, kdP_cg (fun p hp => (hG.2.1 p hp).1) b3 (fun s hs => ?_)⟩
    exact ⟨hr.1 163 (16 * q + s) (by unfold oB; omega), hr.1 164 (16 * q + s) (by unfold oB; omega), hr.1 162 (16 * q + s) (by unfold oB; omega), hr.1 165 (16 * q + s) (by unfold oB; omega)⟩
theorem mkD_e {M N : pMem} (hJ : JD M) (h : mkD M 5 N) : frD oQ M N ∧ made N := by
  obtain ⟨a1, a2, a3, a4⟩ := h
  refine ⟨a1, JD_fr hJ a1 (Or.inr ⟨a2, fun k hk => ?_, fun p k hp hk => Or.inl (a3 _ (by omega))⟩), a2⟩
  obtain ⟨b1, b2, b3⟩ := a4 k hk
  have e : nsD N k = spc (pgD M) (mI M 158) (k : Int) 99 := by unfold nsD; rw [b2, Int.toNat_natCast]
  rw [e, oQ_pg a1, oQ_T a1]
  exact ⟨b2, b1, rfl, b3⟩
theorem c_makes {g : pG} {M : pMem} (hJ : JD M) : pCn g 3 0 0 yX6_makes cX6_makes 3 none SH SH M [.inr (.inr 153)] (fun r M' => r = none ∧ frD oQ M M' ∧ made M') := by
  refine pCn_intro mt_X6_makes (fun X C => ?_)
  have hW := hJ.1
  have hG := hJ.2.2.2.2.1
  obtain ⟨n, hn⟩ : ∃ n : Nat, mI M 153 0 = (n : Int) := ⟨(mI M 153 0).toNat, by have := hJ.2.1; omega⟩
  have hn16 : n ≤ 16 := by have := hJ.2.1; omega
  have hT := hJ.2.2.2.2.2.1.1
  have hT2 : ∀ p, p < 16 → n ≤ p → mI M 158 p = -1 := fun p hp hp2 => hJ.2.2.2.2.2.1.2 p hp (by omega)
  have lk : ∀ (k : Nat) (N : pMem), k ≤ 5 → mkD M k N → pE g 3 X (pMQ g SH (fun r M' => r = none ∧ frD oQ M M' ∧ made M') X 0 0) SH N 0 0 36 [some (.inr (.inr 153)), some (.inl (k : Int)), none] [] := by
    refine p_for (5) _ _ ?_ ?_
    · rintro N h0
      refine e_iload_n C dX6_makes_36 rfl ?_
      refine e_iconst C dX6_makes_37 ?_
      refine e_icmp_ge C (tgt := 130) dX6_makes_38 (by decide) (by omega) (by omega) (fun h_38 => ?_) (fun h_38 => by exfalso; omega)
      exact e_return C dX6_makes_130 ⟨rfl, mkD_e hJ h0⟩
    · rintro k N hk h0 ihk
      have hWN := frD_W h0.1 hW
      refine e_iload_n C dX6_makes_36 rfl ?_
      refine e_iconst C dX6_makes_37 ?_
      refine e_icmp_ge C (tgt := 130) dX6_makes_38 (by decide) (by omega) (by omega) (fun h_38 => by exfalso; omega) (fun h_38 => ?_)
      refine e_aload_n C dX6_makes_41 rfl ?_
      refine e_getR C f_X6_38 sh_153 (hWN 153 11 160 rfl) dX6_makes_42 ?_
      refine e_iload_n C dX6_makes_45 rfl ?_
      refine e_iconst C dX6_makes_46 ?_
      refine e_iastore C dX6_makes_47 sh_160 _ rfl (by omega) ?_
      refine e_aload_n C dX6_makes_48 rfl ?_
      refine e_getR C f_X6_41 sh_153 (hWN 153 12 161 rfl) dX6_makes_49 ?_
      refine e_iload_n C dX6_makes_52 rfl ?_
      refine e_iconst C dX6_makes_53 ?_
      refine e_iastore C dX6_makes_54 sh_161 _ rfl (by omega) ?_
      refine e_iconst C dX6_makes_55 ?_
      refine e_istore_n C dX6_makes_56 ?_
      have lc : ∀ (c : Nat) (R : pMem), c ≤ 100 → (1 ≤ c ∧ frD (oB k) N R ∧ mI R 160 k = kTn (mI M 158) (k : Int) ∧ mI R 161 k = (spc (pgD M) (mI M 158) (k : Int) (c - 1) : Int) ∧ kdP (pgD M) (mI M 158) (k : Int) (c - 1) (kdS R k)) → pE g 3 X (pMQ g SH (fun r M' => r = none ∧ frD oQ M M' ∧ made M') X 0 0) SH R 0 0 97 [some (.inr (.inr 153)), some (.inl (k : Int)), some (.inl (c : Int))] [] := by
        refine p_for (100) _ _ ?_ ?_
        · rintro R ⟨g0, hr, g1, g2, g3⟩
          have hfr := frD_tr h0.1 (frD_su hr (fun b j hb => by unfold oQ at hb; unfold oB; omega) : frD oQ N R)
          have hWN := frD_W hfr hW
          have e0 : mI R 153 0 = (n : Int) := (hfr.1 153 0 (by unfold oQ; omega)).trans hn
          have ePg := oQ_pg hfr
          have e158 := oQ_T hfr
          have e154 : mI R 154 = mI M 154 := frD_row hfr (fun j => by unfold oQ; omega)
          have hkT := kn_r (pgD M) (mI M 158) (k : Int) 1
          refine e_iload_n C dX6_makes_97 rfl ?_
          refine e_bipush C dX6_makes_98 ?_
          refine e_icmp_ge C (tgt := 124) dX6_makes_100 (by decide) (by omega) (by omega) (fun h_100 => ?_) (fun h_100 => by exfalso; omega)
          refine e_iinc C dX6_makes_124 rfl ?_
          refine e_goto C (tgt := 36) dX6_makes_127 (by decide) ?_
          refine pE_f 2 ?_
          rw [show ((k : Int) + 1) = ((k + 1 : Nat) : Int) by omega]
          exact ihk R (mkD_n hG h0 hr g1 g2 g3)
        · rintro c R hc ⟨g0, hr, g1, g2, g3⟩ ih
          have hfr := frD_tr h0.1 (frD_su hr (fun b j hb => by unfold oQ at hb; unfold oB; omega) : frD oQ N R)
          have hWN := frD_W hfr hW
          have e0 : mI R 153 0 = (n : Int) := (hfr.1 153 0 (by unfold oQ; omega)).trans hn
          have ePg := oQ_pg hfr
          have e158 := oQ_T hfr
          have e154 : mI R 154 = mI M 154 := frD_row hfr (fun j => by unfold oQ; omega)
          have hkT := kn_r (pgD M) (mI M 158) (k : Int) 1
          refine e_iload_n C dX6_makes_97 rfl ?_
          refine e_bipush C dX6_makes_98 ?_
          refine e_icmp_ge C (tgt := 124) dX6_makes_100 (by decide) (by omega) (by omega) (fun h_100 => by exfalso; omega) (fun h_100 => ?_)
          refine e_aload_n C dX6_makes_103 rfl ?_
          refine e_getR C f_X6_38 sh_153 (hWN 153 11 160 rfl) dX6_makes_104 ?_
          refine e_iload_n C dX6_makes_107 rfl ?_
          refine e_iaload C dX6_makes_108 sh_160 _ rfl (by omega) ?_
          rw [g1]
          refine e_if_le C (tgt := 124) dX6_makes_109 (by decide) (by omega) (fun h_109 => ?_) (fun h_109 => ?_)
          · refine e_iinc C dX6_makes_124 rfl ?_
            refine e_goto C (tgt := 36) dX6_makes_127 (by decide) ?_
            refine pE_f 2 ?_
            rw [show ((k : Int) + 1) = ((k + 1 : Nat) : Int) by omega]
            exact ihk R (mkD_n hG h0 hr g1 (by rw [g2, spc_none (by omega), spc_none (by omega)]) (kdP_none (by omega)))
          · refine e_aload_n C dX6_makes_112 rfl ?_
            refine e_iload_n C dX6_makes_113 rfl ?_
            refine e_iload_n C dX6_makes_114 rfl ?_
            refine e_callV C (c_makesSpot (M := R) (n := n) (k := k) (c := c) hWN (by unfold pgN; rw [ePg, e154]; exact hG) e0 hn16 (by rw [e158]; exact hT) (by rw [e158]; exact hT2) hk ⟨g0, by omega⟩ (by rw [e158]; exact g1) (by rw [e158]; omega) (by rw [e158, ePg]; exact g2) (by rw [e158, ePg]; exact g3)) mt_X6_makesSpot s_X6_117 dX6_makes_115 6 sh_153 rfl (fun rs Ms hqs => ?_)
            obtain ⟨rfl, q1, q2, q3⟩ := hqs
            dsimp only [Option.toList_none, List.nil_append]
            rw [e158, ePg] at q2 q3
            refine e_iinc C dX6_makes_118 rfl ?_
            refine e_goto C (tgt := 97) dX6_makes_121 (by decide) ?_
            rw [show ((c : Int) + 1) = ((c + 1 : Nat) : Int) by omega]
            exact ih Ms ⟨by omega, frD_tr hr (frD_su q1 (fun b j hb => by unfold oB at hb; unfold oS; omega)), (q1.1 160 k (by unfold oS; omega)).trans g1, by rw [Nat.add_sub_cancel]; exact q2, by rw [Nat.add_sub_cancel]; exact q3⟩
      have lp : ∀ (i : Nat) (R : pMem), i ≤ n → (frD (oB k) N R ∧ mI R 160 k = (sg (fun p => b01 (mI M 158 p = (k : Int))) i) ∧ mI R 161 k = 0) → pE g 3 X (pMQ g SH (fun r M' => r = none ∧ frD oQ M M' ∧ made M') X 0 0) SH R 0 0 57 [some (.inr (.inr 153)), some (.inl (k : Int)), some (.inl (i : Int))] [] := by
        refine p_for (n) _ _ ?_ ?_
        · rintro R ⟨hr, g1, g2⟩
          have hfr := frD_tr h0.1 (frD_su hr (fun b j hb => by unfold oQ at hb; unfold oB; omega) : frD oQ N R)
          have hWN := frD_W hfr hW
          have e0 : mI R 153 0 = (n : Int) := (hfr.1 153 0 (by unfold oQ; omega)).trans hn
          have ePg := oQ_pg hfr
          have e158 := oQ_T hfr
          have e154 : mI R 154 = mI M 154 := frD_row hfr (fun j => by unfold oQ; omega)
          have hkT := kn_r (pgD M) (mI M 158) (k : Int) 1
          refine e_iload_n C dX6_makes_57 rfl ?_
          refine e_aload_n C dX6_makes_58 rfl ?_
          refine e_getI C f_X6_99 sh_153 dX6_makes_59 ?_
          rw [e0]
          refine e_icmp_ge C (tgt := 95) dX6_makes_62 (by decide) (by omega) (by omega) (fun h_62 => ?_) (fun h_62 => by exfalso; omega)
          refine e_iconst C dX6_makes_95 ?_
          refine e_istore_n C dX6_makes_96 ?_
          exact lc 1 R (by omega) ⟨Nat.le_refl _, hr, by rw [g1]; exact (sg_tail hn16 (fun p h1 h2 => if_neg (by rw [hT2 p h2 h1]; omega))).symm, by rw [g2]; rfl, fun e h1 h2 => by omega⟩
        · rintro i R hi ⟨hr, g1, g2⟩ ih
          have hfr := frD_tr h0.1 (frD_su hr (fun b j hb => by unfold oQ at hb; unfold oB; omega) : frD oQ N R)
          have hWN := frD_W hfr hW
          have e0 : mI R 153 0 = (n : Int) := (hfr.1 153 0 (by unfold oQ; omega)).trans hn
          have ePg := oQ_pg hfr
          have e158 := oQ_T hfr
          have e154 : mI R 154 = mI M 154 := frD_row hfr (fun j => by unfold oQ; omega)
          have hkT := kn_r (pgD M) (mI M 158) (k : Int) 1
          have hTi := hT i (by omega)
          refine e_iload_n C dX6_makes_57 rfl ?_
          refine e_aload_n C dX6_makes_58 rfl ?_
          refine e_getI C f_X6_99 sh_153 dX6_makes_59 ?_
          rw [e0]
          refine e_icmp_ge C (tgt := 95) dX6_makes_62 (by decide) (by omega) (by omega) (fun h_62 => by exfalso; omega) (fun h_62 => ?_)
          refine e_aload_n C dX6_makes_65 rfl ?_
          refine e_getR C f_X6_38 sh_153 (hWN 153 11 160 rfl) dX6_makes_66 ?_
          refine e_iload_n C dX6_makes_69 rfl ?_
          refine e_dup2 C dX6_makes_70 ?_
          refine e_iaload C dX6_makes_71 sh_160 _ rfl (by omega) ?_
          rw [g1]
          refine e_aload_n C dX6_makes_72 rfl ?_
          refine e_getR C f_X6_22 sh_153 (hWN 153 5 158 rfl) dX6_makes_73 ?_
          refine e_iload_n C dX6_makes_76 rfl ?_
          refine e_iaload C dX6_makes_77 sh_158 _ rfl (by omega) ?_
          rw [e158]
          refine e_iload_n C dX6_makes_78 rfl ?_
          refine e_icmp_ne C (tgt := 86) dX6_makes_79 (by decide) (by omega) (by omega) (fun h_79 => ?_) (fun h_79 => ?_)
          · have hI : (sg (fun p => b01 (mI M 158 p = (k : Int))) i) + 0 = (sg (fun p => b01 (mI M 158 p = (k : Int))) (i + 1)) := by simp only [sg]; rw [show b01 (mI M 158 i = (k : Int)) = 0 from if_neg h_79]
            refine e_iconst C dX6_makes_86 ?_
            refine e_iadd C dX6_makes_87 ?_
            refine e_iastore C dX6_makes_88 sh_160 _ rfl (by omega) ?_
            refine e_iinc C dX6_makes_89 rfl ?_
            refine e_goto C (tgt := 57) dX6_makes_92 (by decide) ?_
            rw [show ((i : Int) + 1) = ((i + 1 : Nat) : Int) by omega, hI]
            exact ih _ ⟨frD_tr hr (frD_st (fun z => by unfold oB at z; omega)), stI_s _ _ _ _, by rw [stI_n _ _ (by omega)]; exact g2⟩
          · have hI : (sg (fun p => b01 (mI M 158 p = (k : Int))) i) + 1 = (sg (fun p => b01 (mI M 158 p = (k : Int))) (i + 1)) := by simp only [sg]; rw [show b01 (mI M 158 i = (k : Int)) = 1 from if_pos (Classical.not_not.mp h_79)]
            refine e_iconst C dX6_makes_82 ?_
            refine e_goto C (tgt := 87) dX6_makes_83 (by decide) ?_
            refine e_iadd C dX6_makes_87 ?_
            refine e_iastore C dX6_makes_88 sh_160 _ rfl (by omega) ?_
            refine e_iinc C dX6_makes_89 rfl ?_
            refine e_goto C (tgt := 57) dX6_makes_92 (by decide) ?_
            rw [show ((i : Int) + 1) = ((i + 1 : Nat) : Int) by omega, hI]
            exact ih _ ⟨frD_tr hr (frD_st (fun z => by unfold oB at z; omega)), stI_s _ _ _ _, by rw [stI_n _ _ (by omega)]; exact g2⟩
      exact lp 0 _ (by omega) ⟨frD_tr (frD_st (fun z => by unfold oB at z; omega)) (frD_st (fun z => by unfold oB at z; omega)), by rw [stI_n _ _ (by omega), stI_s]; rfl, stI_s _ _ _ _⟩
  have lf : ∀ (i : Nat) (u : Unit), i ≤ 80 → True → pE g 3 X (pMQ g SH (fun r M' => r = none ∧ frD oQ M M' ∧ made M') X 0 0) SH (wrI (stI M 153 10 1) 176 (fil (mI M 176) (-1) i)) 0 0 15 [some (.inr (.inr 153)), some (.inl (i : Int)), none] [] := by
    refine p_for (80) _ _ ?_ ?_
    · rintro u hu
      refine e_iload_n C dX6_makes_15 rfl ?_
      refine e_bipush C dX6_makes_16 ?_
      refine e_icmp_ge C (tgt := 34) dX6_makes_18 (by decide) (by omega) (by omega) (fun h_18 => ?_) (fun h_18 => by exfalso; omega)
      refine e_iconst C dX6_makes_34 ?_
      refine e_istore_n C dX6_makes_35 ?_
      exact lk 0 _ (by omega) ⟨frD_tr (frD_st (fun z => by unfold oQ at z; omega)) (frD_wr (fun j z => by unfold oQ at z; omega)), by rw [wrI_n _ _ _ (by decide), stI_s], fun j hj => by rw [wrI_s]; exact fil_i hj, fun k hk => by omega⟩
    · rintro i u hi hu ih
      refine e_iload_n C dX6_makes_15 rfl ?_
      refine e_bipush C dX6_makes_16 ?_
      refine e_icmp_ge C (tgt := 34) dX6_makes_18 (by decide) (by omega) (by omega) (fun h_18 => by exfalso; omega) (fun h_18 => ?_)
      refine e_aload_n C dX6_makes_21 rfl ?_
      refine e_getR C f_X6_87 sh_153 (hW 153 32 176 rfl) dX6_makes_22 ?_
      refine e_iload_n C dX6_makes_25 rfl ?_
      refine e_iconst C dX6_makes_26 ?_
      refine e_iastore C dX6_makes_27 sh_176 _ rfl (by omega) ?_
      rw [stI_wr, fil_s]
      refine e_iinc C dX6_makes_28 rfl ?_
      refine e_goto C (tgt := 15) dX6_makes_31 (by decide) ?_
      rw [show ((i : Int) + 1) = ((i + 1 : Nat) : Int) by omega]
      exact ih () trivial
  have h10 : mI M 153 10 = 0 ∨ mI M 153 10 = 1 := by
    rcases hJ.2.2.2.2.2.2 with z | z
    · exact Or.inl z
    · exact Or.inr z.1
  show pE g 3 X _ SH M 0 0 0 [some (.inr (.inr 153)), none, none] []
  refine e_aload_n C dX6_makes_0 rfl ?_
  refine e_getI C f_X6_106 sh_153 dX6_makes_1 ?_
  refine e_if_eq C (tgt := 8) dX6_makes_4 (by decide) (by omega) (fun h_4 => ?_) (fun h_4 => ?_)
  · refine e_aload_n C dX6_makes_8 rfl ?_
    refine e_iconst C dX6_makes_9 ?_
    refine e_putZ C f_X6_106 sh_153 (Or.inr rfl) (hd := dX6_makes_10) (hfin := (fun CC T h => by obtain ⟨h1, -⟩ := h; cases h1; rfl)) ?_
    refine e_iconst C dX6_makes_13 ?_
    refine e_istore_n C dX6_makes_14 ?_
    have hz := lf 0 () (by omega) trivial
    rw [fil_0, show mI M 176 = mI (stI M 153 10 1) 176 from (stI_rowN _ _ _ (by decide)).symm, wrI_e] at hz
    exact hz
  · exact e_return C dX6_makes_7 ⟨rfl, frD_rf, hJ, by omega⟩
theorem c_changes {g : pG} {M : pMem}  : pCn g 1 0 0 yX6_changes cX6_changes 1 none SH SH M [.inr (.inr 153)] (fun r M' => r = none ∧ M' = stI M 153 10 0) := by
  refine pCn_intro mt_X6_changes (fun X C => ?_)
  show pE g 1 X _ SH M 0 0 0 [some (.inr (.inr 153))] []
  refine e_aload_n C dX6_changes_0 rfl ?_
  refine e_iconst C dX6_changes_1 ?_
  refine e_putZ C f_X6_106 sh_153 (Or.inl rfl) (hd := dX6_changes_2) (hfin := (fun CC T h => by obtain ⟨h1, -⟩ := h; cases h1; rfl)) ?_
  exact e_return C dX6_changes_5 ⟨rfl, rfl⟩
abbrev isQ (M : pMem) (p : Int) : Prop := 0 ≤ p ∧ p < mI M 153 0
theorem isQ_n {M : pMem} (hJ : JD M) {p : Int} (h : isQ M p) : ∃ q : Nat, p = (q : Int) ∧ q < 16 ∧ (q : Int) < mI M 153 0 := by
  obtain ⟨q, rfl⟩ := Int.eq_ofNat_of_zero_le h.1
  have := h.2
  have := hJ.2.1
  exact ⟨q, rfl, by omega, by omega⟩
abbrev hasQ (T : Nat → Int) (k : Int) : Prop := 0 ≤ k ∧ k < 5 ∧ 0 < kTn T k
theorem hasQ_n {T : Nat → Int} {k : Int} (h : hasQ T k) : ∃ q : Nat, k = (q : Int) ∧ q < 5 ∧ 0 < kTn T (q : Int) := by
  obtain ⟨q, rfl⟩ := Int.eq_ofNat_of_zero_le h.1
  have := h.2.1
  exact ⟨q, rfl, by omega, h.2.2⟩
theorem c_isPageD {g : pG} {M : pMem} {p : Int} (hi_p : -2147483648 ≤ p ∧ p < 2147483648) (hn : 0 ≤ mI M 153 0 ∧ mI M 153 0 ≤ 16) : pCn g 2 0 0 yX6_isPage cX6_isPage 2 (some .boolean) SH SH M [.inr (.inr 153), .inl p] (fun r M' => r = some (.inl (if isQ M p then 1 else 0)) ∧ M' = M) := by
  refine pCn_intro mt_X6_isPage (fun X C => ?_)
  show pE g 2 X _ SH M 0 0 0 [some (.inr (.inr 153)), some (.inl p)] []
  refine e_iload_n C dX6_isPage_0 rfl ?_
  refine e_iconst C dX6_isPage_1 ?_
  refine e_aload_n C dX6_isPage_2 rfl ?_
  refine e_getI C f_X6_99 sh_153 dX6_isPage_3 ?_
  refine e_iconst C dX6_isPage_6 ?_
  refine e_isub C dX6_isPage_7 ?_
  refine e_callS C (c_in (v := p) (a := 0) (b := mI M 153 0 - 1) hi_p (by omega) (by omega)) mt_X6_in s_X6_102 dX6_isPage_8 (fun r M1 hq => ?_)
  obtain ⟨rfl, hM⟩ := hq
  subst M1
  dsimp only [Option.toList_some, List.singleton_append]
  exact e_zreturn C dX6_isPage_11 (by split <;> first | exact Or.inl rfl | exact Or.inr rfl) ⟨congrArg (fun x : Int => some (Sum.inl x)) (b01_iff (show (0 ≤ p ∧ p ≤ mI M 153 0 - 1) ↔ isQ M p by constructor <;> omega)), rfl⟩
theorem c_isKindD {g : pG} {M : pMem} {k : Int} (hi_k : -2147483648 ≤ k ∧ k < 2147483648) (hJ : JD M) : pCn g 4 0 0 yX6_isKind cX6_isKind 2 (some .boolean) SH SH M [.inr (.inr 153), .inl k] (fun r M' => r = some (.inl (if hasQ (mI M 158) k then 1 else 0)) ∧ frD oQ M M' ∧ made M') := by
  refine pCn_intro mt_X6_isKind (fun X C => ?_)
  have hW := hJ.1
  show pE g 2 X _ SH M 0 0 0 [some (.inr (.inr 153)), some (.inl k)] []
  refine e_aload_n C dX6_isKind_0 rfl ?_
  refine e_callV C (c_makes (M := M) hJ) mt_X6_makes s_X6_129 dX6_isKind_1 6 sh_153 rfl (fun rm Mm hqm => ?_)
  obtain ⟨rfl, q1, q2⟩ := hqm
  dsimp only [Option.toList_none, List.nil_append]
  have hWm := frD_W q1 hW
  refine e_iload_n C dX6_isKind_4 rfl ?_
  refine e_iconst C dX6_isKind_5 ?_
  refine e_iconst C dX6_isKind_6 ?_
  refine e_callS C (c_in (M := Mm) (v := k) (a := 0) (b := 4) hi_k (by omega) (by omega)) mt_X6_in s_X6_102 dX6_isKind_7 (fun ri Mi hqi => ?_)
  obtain ⟨rfl, hMi⟩ := hqi
  subst Mi
  dsimp only [Option.toList_some, List.singleton_append]
  refine e_if_eq C (tgt := 26) dX6_isKind_10 (by decide) (by split <;> omega) (fun h_10 => ?_) (fun h_10 => ?_)
  · have hk : ¬ hasQ (mI M 158) k := fun z => ite0.mp h_10 (by omega)
    refine e_iconst C dX6_isKind_26 ?_
    exact e_zreturn C dX6_isKind_27 (by first | exact Or.inl rfl | exact Or.inr rfl) ⟨by first | rw [if_pos hk] | rw [if_neg hk], q1, q2⟩
  · have hk5 := ite1.mp h_10
    obtain ⟨j, rfl⟩ := Int.eq_ofNat_of_zero_le hk5.1
    have hj : j < 5 := by omega
    have hkd := ((made_ok q2).1 j hj).2.1
    rw [oQ_T q1] at hkd
    have hkT := kn_r (pgD M) (mI M 158) (j : Int) 1
    refine e_aload_n C dX6_isKind_13 rfl ?_
    refine e_getR C f_X6_38 sh_153 (hWm 153 11 160 rfl) dX6_isKind_14 ?_
    refine e_iload_n C dX6_isKind_17 rfl ?_
    refine e_iaload C dX6_isKind_18 sh_160 _ rfl (by omega) ?_
    rw [hkd]
    refine e_if_le C (tgt := 26) dX6_isKind_19 (by decide) (by omega) (fun h_19 => ?_) (fun h_19 => ?_)
    · have hk : ¬ hasQ (mI M 158) (j : Int) := fun z => by have := z.2.2; omega
      refine e_iconst C dX6_isKind_26 ?_
      exact e_zreturn C dX6_isKind_27 (by first | exact Or.inl rfl | exact Or.inr rfl) ⟨by first | rw [if_pos hk] | rw [if_neg hk], q1, q2⟩
    · have hk : hasQ (mI M 158) (j : Int) := ⟨by omega, by omega, by omega⟩
      refine e_iconst C dX6_isKind_22 ?_
      refine e_goto C (tgt := 27) dX6_isKind_23 (by decide) ?_
      exact e_zreturn C dX6_isKind_27 (by first | exact Or.inl rfl | exact Or.inr rfl) ⟨by first | rw [if_pos hk] | rw [if_neg hk], q1, q2⟩
