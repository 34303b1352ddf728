/-! ===== the model's takesPage, takesSpots, costOf, isLaid ===== -/
def oTp (b j : Nat) : Prop := (b < 166 ∨ 168 < b) ∧ (b ≠ 153 ∨ j ≠ 17)
def oTs (b j : Nat) : Prop := (b < 169 ∨ 172 < b) ∧ (b ≠ 153 ∨ j ≠ 21)
theorem c_takesPage {g : pG} {M : pMem} {p : Nat} (hW : pW M) (hG : pgN M) (hp : p < 16) : pCn g 1 0 0 yX6_takesPage cX6_takesPage 3 none SH SH M [.inr (.inr 153), .inl (p : Int)] (fun r M' => r = none ∧ frD oTp M M' ∧ mI M' 153 17 = (((pgD M).1 p : Nat) : Int) ∧ ∀ i, i < (pgD M).1 p → mI M' 166 i = ((pgD M).2 p).1 i ∧ mI M' 167 i = ((pgD M).2 p).2.1 i ∧ mI M' 168 i = ((pgD M).2 p).2.2 i) := by
  refine pCn_intro mt_X6_takesPage (fun X C => ?_)
  have hn := hG.1 p hp
  have h8 := (hG.2.1 p hp).1
  have lp : ∀ (b : Nat) (N : pMem), b ≤ ((pgD M).1 p) → (frD oTp M N ∧ mI N 153 17 = (((pgD M).1 p : Nat) : Int) ∧ ∀ i, i < b → mI N 166 i = ((pgD M).2 p).1 i ∧ mI N 167 i = ((pgD M).2 p).2.1 i ∧ mI N 168 i = ((pgD M).2 p).2.2 i) → pE g 3 X (pMQ g SH (fun r M' => r = none ∧ frD oTp M M' ∧ mI M' 153 17 = (((pgD M).1 p : Nat) : Int) ∧ ∀ i, i < (pgD M).1 p → mI M' 166 i = ((pgD M).2 p).1 i ∧ mI M' 167 i = ((pgD M).2 p).2.1 i ∧ mI M' 168 i = ((pgD M).2 p).2.2 i) X 0 0) SH N 0 0 12 [some (.inr (.inr 153)), some (.inl (p : Int)), some (.inl (b : Int))] [] := by
    refine p_for (((pgD M).1 p)) _ _ ?_ ?_
    · rintro N ⟨hf, h17, hi⟩
      refine e_iload_n C dX6_takesPage_12 rfl ?_
      refine e_aload_n C dX6_takesPage_13 rfl ?_
      refine e_getI C f_X6_135 sh_153 dX6_takesPage_14 ?_
      rw [h17]
      refine e_icmp_ge C (tgt := 77) dX6_takesPage_17 (by decide) (by omega) (by omega) (fun h_17 => ?_) (fun h_17 => by exfalso; omega)
      exact e_return C dX6_takesPage_77 ⟨rfl, hf, h17, hi⟩
    · rintro b N hb ⟨hf, h17, hi⟩ ih
      have hWN := frD_W hf hW
      have e155 : mI N 155 = mI M 155 := frD_row hf (fun j => by unfold oTp; omega)
      have e156 : mI N 156 = mI M 156 := frD_row hf (fun j => by unfold oTp; omega)
      have e157 : mI N 157 = mI M 157 := frD_row hf (fun j => by unfold oTp; omega)
      refine e_iload_n C dX6_takesPage_12 rfl ?_
      refine e_aload_n C dX6_takesPage_13 rfl ?_
      refine e_getI C f_X6_135 sh_153 dX6_takesPage_14 ?_
      rw [h17]
      refine e_icmp_ge C (tgt := 77) dX6_takesPage_17 (by decide) (by omega) (by omega) (fun h_17 => by exfalso; omega) (fun h_17 => ?_)
      refine e_aload_n C dX6_takesPage_20 rfl ?_
      refine e_getR C f_X6_57 sh_153 (hWN 153 18 166 rfl) dX6_takesPage_21 ?_
      refine e_iload_n C dX6_takesPage_24 rfl ?_
      refine e_aload_n C dX6_takesPage_25 rfl ?_
      refine e_getR C f_X6_13 sh_153 (hWN 153 2 155 rfl) dX6_takesPage_26 ?_
      refine e_bipush C dX6_takesPage_29 ?_
      refine e_iload_n C dX6_takesPage_31 rfl ?_
      refine e_imul C dX6_takesPage_32 ?_
      refine e_iload_n C dX6_takesPage_33 rfl ?_
      refine e_iadd C dX6_takesPage_34 ?_
      refine e_iaload C dX6_takesPage_35 sh_155 (8 * p + b) (by omega) (by omega) ?_
      rw [e155]
      refine e_iastore C dX6_takesPage_36 sh_166 _ rfl (by omega) ?_
      refine e_aload_n C dX6_takesPage_37 rfl ?_
      refine e_getR C f_X6_60 sh_153 (hWN 153 19 167 rfl) dX6_takesPage_38 ?_
      refine e_iload_n C dX6_takesPage_41 rfl ?_
      refine e_aload_n C dX6_takesPage_42 rfl ?_
      refine e_getR C f_X6_16 sh_153 (hWN 153 3 156 rfl) dX6_takesPage_43 ?_
      refine e_bipush C dX6_takesPage_46 ?_
      refine e_iload_n C dX6_takesPage_48 rfl ?_
      refine e_imul C dX6_takesPage_49 ?_
      refine e_iload_n C dX6_takesPage_50 rfl ?_
      refine e_iadd C dX6_takesPage_51 ?_
      refine e_iaload C dX6_takesPage_52 sh_156 (8 * p + b) (by omega) (by omega) ?_
      rw [stI_rowN _ _ _ (by decide), e156]
      refine e_iastore C dX6_takesPage_53 sh_167 _ rfl (by omega) ?_
      refine e_aload_n C dX6_takesPage_54 rfl ?_
      refine e_getR C f_X6_63 sh_153 (hWN 153 20 168 rfl) dX6_takesPage_55 ?_
      refine e_iload_n C dX6_takesPage_58 rfl ?_
      refine e_aload_n C dX6_takesPage_59 rfl ?_
      refine e_getR C f_X6_19 sh_153 (hWN 153 4 157 rfl) dX6_takesPage_60 ?_
      refine e_bipush C dX6_takesPage_63 ?_
      refine e_iload_n C dX6_takesPage_65 rfl ?_
      refine e_imul C dX6_takesPage_66 ?_
      refine e_iload_n C dX6_takesPage_67 rfl ?_
      refine e_iadd C dX6_takesPage_68 ?_
      refine e_iaload C dX6_takesPage_69 sh_157 (8 * p + b) (by omega) (by omega) ?_
      rw [stI_rowN _ _ _ (by decide), stI_rowN _ _ _ (by decide), e157]
      refine e_iastore C dX6_takesPage_70 sh_168 _ rfl (by omega) ?_
      refine e_iinc C dX6_takesPage_71 rfl ?_
      refine e_goto C (tgt := 12) dX6_takesPage_74 (by decide) ?_
      rw [show ((b : Int) + 1) = ((b + 1 : Nat) : Int) by omega]
      refine ih _ ⟨frD_tr hf (frD_tr (frD_tr (frD_st (fun z => by unfold oTp at z; omega)) (frD_st (fun z => by unfold oTp at z; omega))) (frD_st (fun z => by unfold oTp at z; omega))), by rw [stI_n _ _ (by omega), stI_n _ _ (by omega), stI_n _ _ (by omega)]; exact h17, fun i hib => ?_⟩
      rw [stI_rowN _ _ _ (by decide), stI_rowN _ _ _ (by decide), stI_row, stI_rowN _ _ _ (by decide), stI_row, stI_rowN _ _ _ (by decide), stI_row, stI_rowN _ _ _ (by decide), stI_rowN _ _ _ (by decide)]
      by_cases e : i = b
      · subst e; rw [up_s, up_s, up_s]; exact ⟨rfl, rfl, rfl⟩
      · rw [up_n e, up_n e, up_n e]; exact hi i (by omega)
  show pE g 3 X _ SH M 0 0 0 [some (.inr (.inr 153)), some (.inl (p : Int)), none] []
  refine e_aload_n C dX6_takesPage_0 rfl ?_
  refine e_aload_n C dX6_takesPage_1 rfl ?_
  refine e_getR C f_X6_7 sh_153 (hW 153 1 154 rfl) dX6_takesPage_2 ?_
  refine e_iload_n C dX6_takesPage_5 rfl ?_
  refine e_iaload C dX6_takesPage_6 sh_154 _ rfl (by omega) ?_
  rw [hn]
  refine e_putI C f_X6_135 sh_153 (hd := dX6_takesPage_7) (hfin := (fun CC T h => by obtain ⟨h1, -⟩ := h; cases h1; rfl)) ?_
  refine e_iconst C dX6_takesPage_10 ?_
  refine e_istore_n C dX6_takesPage_11 ?_
  exact lp 0 _ (by omega) ⟨frD_st (fun z => by unfold oTp at z; omega), stI_s _ _ _ _, fun i hi => by omega⟩
theorem c_takesSpots {g : pG} {M : pMem} {k : Nat} (hW : pW M) (hk : k < 5) (hn : mI M 161 k = ((nsD M k : Nat) : Int)) (h16 : nsD M k ≤ 16) (hsp : spOk (nsD M k) (kdS M k)) : pCn g 1 0 0 yX6_takesSpots cX6_takesSpots 3 none SH SH M [.inr (.inr 153), .inl (k : Int)] (fun r M' => r = none ∧ frD oTs M M' ∧ mI M' 153 21 = ((nsD M k : Nat) : Int) ∧ ∀ i, i < nsD M k → mI M' 169 i = (kdS M k).1 i ∧ mI M' 170 i = (kdS M k).2.1 i ∧ mI M' 171 i = (kdS M k).2.2.1 i ∧ mI M' 172 i = (kdS M k).2.2.2 i) := by
  refine pCn_intro mt_X6_takesSpots (fun X C => ?_)
  have lp : ∀ (b : Nat) (N : pMem), b ≤ (nsD M k) → (frD oTs M N ∧ mI N 153 21 = ((nsD M k : Nat) : Int) ∧ ∀ i, i < b → mI N 169 i = (kdS M k).1 i ∧ mI N 170 i = (kdS M k).2.1 i ∧ mI N 171 i = (kdS M k).2.2.1 i ∧ mI N 172 i = (kdS M k).2.2.2 i) → pE g 3 X (pMQ g SH (fun r M' => r = none ∧ frD oTs M M' ∧ mI M' 153 21 = ((nsD M k : Nat) : Int) ∧ ∀ i, i < nsD M k → mI M' 169 i = (kdS M k).1 i ∧ mI M' 170 i = (kdS M k).2.1 i ∧ mI M' 171 i = (kdS M k).2.2.1 i ∧ mI M' 172 i = (kdS M k).2.2.2 i) X 0 0) SH N 0 0 12 [some (.inr (.inr 153)), some (.inl (k : Int)), some (.inl (b : Int))] [] := by
    refine p_for ((nsD M k)) _ _ ?_ ?_
    · rintro N ⟨hf, h21, hi⟩
      refine e_iload_n C dX6_takesSpots_12 rfl ?_
      refine e_aload_n C dX6_takesSpots_13 rfl ?_
      refine e_getI C f_X6_139 sh_153 dX6_takesSpots_14 ?_
      rw [h21]
      refine e_icmp_ge C (tgt := 94) dX6_takesSpots_17 (by decide) (by omega) (by omega) (fun h_17 => ?_) (fun h_17 => by exfalso; omega)
      exact e_return C dX6_takesSpots_94 ⟨rfl, hf, h21, hi⟩
    · rintro b N hb ⟨hf, h21, hi⟩ ih
      have hWN := frD_W hf hW
      have e162 : mI N 162 = mI M 162 := frD_row hf (fun j => by unfold oTs; omega)
      have e163 : mI N 163 = mI M 163 := frD_row hf (fun j => by unfold oTs; omega)
      have e164 : mI N 164 = mI M 164 := frD_row hf (fun j => by unfold oTs; omega)
      have e165 : mI N 165 = mI M 165 := frD_row hf (fun j => by unfold oTs; omega)
      have hz := (hsp b hb).2.2.2
      refine e_iload_n C dX6_takesSpots_12 rfl ?_
      refine e_aload_n C dX6_takesSpots_13 rfl ?_
      refine e_getI C f_X6_139 sh_153 dX6_takesSpots_14 ?_
      rw [h21]
      refine e_icmp_ge C (tgt := 94) dX6_takesSpots_17 (by decide) (by omega) (by omega) (fun h_17 => by exfalso; omega) (fun h_17 => ?_)
      refine e_aload_n C dX6_takesSpots_20 rfl ?_
      refine e_getR C f_X6_66 sh_153 (hWN 153 22 169 rfl) dX6_takesSpots_21 ?_
      refine e_iload_n C dX6_takesSpots_24 rfl ?_
      refine e_aload_n C dX6_takesSpots_25 rfl ?_
      refine e_getR C f_X6_47 sh_153 (hWN 153 14 163 rfl) dX6_takesSpots_26 ?_
      refine e_bipush C dX6_takesSpots_29 ?_
      refine e_iload_n C dX6_takesSpots_31 rfl ?_
      refine e_imul C dX6_takesSpots_32 ?_
      refine e_iload_n C dX6_takesSpots_33 rfl ?_
      refine e_iadd C dX6_takesSpots_34 ?_
      refine e_iaload C dX6_takesSpots_35 sh_163 (16 * k + b) (by omega) (by omega) ?_
      rw [e163]
      refine e_iastore C dX6_takesSpots_36 sh_169 _ rfl (by omega) ?_
      refine e_aload_n C dX6_takesSpots_37 rfl ?_
      refine e_getR C f_X6_69 sh_153 (hWN 153 23 170 rfl) dX6_takesSpots_38 ?_
      refine e_iload_n C dX6_takesSpots_41 rfl ?_
      refine e_aload_n C dX6_takesSpots_42 rfl ?_
      refine e_getR C f_X6_50 sh_153 (hWN 153 15 164 rfl) dX6_takesSpots_43 ?_
      refine e_bipush C dX6_takesSpots_46 ?_
      refine e_iload_n C dX6_takesSpots_48 rfl ?_
      refine e_imul C dX6_takesSpots_49 ?_
      refine e_iload_n C dX6_takesSpots_50 rfl ?_
      refine e_iadd C dX6_takesSpots_51 ?_
      refine e_iaload C dX6_takesSpots_52 sh_164 (16 * k + b) (by omega) (by omega) ?_
      rw [stI_rowN _ _ _ (by decide), e164]
      refine e_iastore C dX6_takesSpots_53 sh_170 _ rfl (by omega) ?_
      refine e_aload_n C dX6_takesSpots_54 rfl ?_
      refine e_getR C f_X6_72 sh_153 (hWN 153 24 171 rfl) dX6_takesSpots_55 ?_
      refine e_iload_n C dX6_takesSpots_58 rfl ?_
      refine e_aload_n C dX6_takesSpots_59 rfl ?_
      refine e_getR C f_X6_44 sh_153 (hWN 153 13 162 rfl) dX6_takesSpots_60 ?_
      refine e_bipush C dX6_takesSpots_63 ?_
      refine e_iload_n C dX6_takesSpots_65 rfl ?_
      refine e_imul C dX6_takesSpots_66 ?_
      refine e_iload_n C dX6_takesSpots_67 rfl ?_
      refine e_iadd C dX6_takesSpots_68 ?_
      refine e_iaload C dX6_takesSpots_69 sh_162 (16 * k + b) (by omega) (by omega) ?_
      rw [stI_rowN _ _ _ (by decide), stI_rowN _ _ _ (by decide), e162]
      refine e_iastore C dX6_takesSpots_70 sh_171 _ rfl (by omega) ?_
      refine e_aload_n C dX6_takesSpots_71 rfl ?_
      refine e_getR C f_X6_75 sh_153 (hWN 153 25 172 rfl) dX6_takesSpots_72 ?_
      refine e_iload_n C dX6_takesSpots_75 rfl ?_
      refine e_aload_n C dX6_takesSpots_76 rfl ?_
      refine e_getR C f_X6_53 sh_153 (hWN 153 16 165 rfl) dX6_takesSpots_77 ?_
      refine e_bipush C dX6_takesSpots_80 ?_
      refine e_iload_n C dX6_takesSpots_82 rfl ?_
      refine e_imul C dX6_takesSpots_83 ?_
      refine e_iload_n C dX6_takesSpots_84 rfl ?_
      refine e_iadd C dX6_takesSpots_85 ?_
      refine e_baload C dX6_takesSpots_86 sh_165 (16 * k + b) (by omega) (by omega) ?_
      rw [stI_rowN _ _ _ (by decide), stI_rowN _ _ _ (by decide), stI_rowN _ _ _ (by decide), e165]
      refine e_bastore C dX6_takesSpots_87 sh_172 _ rfl (by omega) hz ?_
      refine e_iinc C dX6_takesSpots_88 rfl ?_
      refine e_goto C (tgt := 12) dX6_takesSpots_91 (by decide) ?_
      rw [show ((b : Int) + 1) = ((b + 1 : Nat) : Int) by omega]
      refine ih _ ⟨frD_tr hf (frD_tr (frD_tr (frD_tr (frD_st (fun z => by unfold oTs at z; omega)) (frD_st (fun z => by unfold oTs at z; omega))) (frD_st (fun z => by unfold oTs at z; omega))) (frD_st (fun z => by unfold oTs at z; omega))), by rw [stI_n _ _ (by omega), stI_n _ _ (by omega), stI_n _ _ (by omega), stI_n _ _ (by omega)]; exact h21, fun i hib => ?_⟩
      by_cases e : i = b
      · subst e
        refine ⟨?_, ?_, ?_, ?_⟩
        · rw [stI_n _ _ (by omega), stI_n _ _ (by omega), stI_n _ _ (by omega), stI_s]; rfl
        · rw [stI_n _ _ (by omega), stI_n _ _ (by omega), stI_s]; rfl
        · rw [stI_n _ _ (by omega), stI_s]; rfl
        · rw [stI_s]; rfl
      · rw [stI_n _ _ (by omega), stI_n _ _ (by omega), stI_n _ _ (by omega), stI_n _ _ (by omega), stI_n _ _ (by omega), stI_n _ _ (by omega), stI_n _ _ (by omega), stI_n _ _ (by omega), stI_n _ _ (by omega), stI_n _ _ (by omega), stI_n _ _ (by omega), stI_n _ _ (by omega), stI_n _ _ (by omega), stI_n _ _ (by omega), stI_n _ _ (by omega), stI_n _ _ (by omega)]; exact hi i (by omega)
  show pE g 3 X _ SH M 0 0 0 [some (.inr (.inr 153)), some (.inl (k : Int)), none] []
  refine e_aload_n C dX6_takesSpots_0 rfl ?_
  refine e_aload_n C dX6_takesSpots_1 rfl ?_
  refine e_getR C f_X6_41 sh_153 (hW 153 12 161 rfl) dX6_takesSpots_2 ?_
  refine e_iload_n C dX6_takesSpots_5 rfl ?_
  refine e_iaload C dX6_takesSpots_6 sh_161 _ rfl (by omega) ?_
  rw [hn]
  refine e_putI C f_X6_139 sh_153 (hd := dX6_takesSpots_7) (hfin := (fun CC T h => by obtain ⟨h1, -⟩ := h; cases h1; rfl)) ?_
  refine e_iconst C dX6_takesSpots_10 ?_
  refine e_istore_n C dX6_takesSpots_11 ?_
  exact lp 0 _ (by omega) ⟨frD_st (fun z => by unfold oTs at z; omega), stI_s _ _ _ _, fun i hi => by omega⟩
/-- ready for seeks: page p's boxes, kind k's spots -/
def oC (b j : Nat) : Prop := oM b j ∨ b = 176
def rdy (M : pMem) (p k : Nat) (N : pMem) : Prop := frD oC M N ∧ mI N 153 17 = (((pgD M).1 p : Nat) : Int) ∧ mI N 153 21 = ((nsD M k : Nat) : Int) ∧ (∀ i, i < (pgD M).1 p → mI N 166 i = ((pgD M).2 p).1 i ∧ mI N 167 i = ((pgD M).2 p).2.1 i ∧ mI N 168 i = ((pgD M).2 p).2.2 i) ∧ ∀ i, i < nsD M k → mI N 169 i = (kdS M k).1 i ∧ mI N 170 i = (kdS M k).2.1 i ∧ mI N 171 i = (kdS M k).2.2.1 i ∧ mI N 172 i = (kdS M k).2.2.2 i
theorem rdy_of {M A N : pMem} {p k : Nat} (h1 : frD oTp M A) (h2 : mI A 153 17 = (((pgD M).1 p : Nat) : Int)) (h3 : ∀ i, i < (pgD M).1 p → mI A 166 i = ((pgD M).2 p).1 i ∧ mI A 167 i = ((pgD M).2 p).2.1 i ∧ mI A 168 i = ((pgD M).2 p).2.2 i) (g1 : frD oTs A N) (g2 : mI N 153 21 = ((nsD A k : Nat) : Int)) (g3 : ∀ i, i < nsD A k → mI N 169 i = (kdS A k).1 i ∧ mI N 170 i = (kdS A k).2.1 i ∧ mI N 171 i = (kdS A k).2.2.1 i ∧ mI N 172 i = (kdS A k).2.2.2 i) : rdy M p k N := by
  have e1 : nsD A k = nsD M k := by unfold nsD; rw [h1.1 161 k (by unfold oTp; omega)]
  have e2 : kdS A k = kdS M k := frD_kd h1 (fun b j _ _ => by unfold oTp; omega) k
  rw [e1] at g2 g3
  rw [e2] at g3
  refine ⟨frD_tr (frD_su h1 (fun b j hb => by unfold oC oM oQ at hb; unfold oTp; omega)) (frD_su g1 (fun b j hb => by unfold oC oM oQ at hb; unfold oTs; omega)), (g1.1 153 17 (by unfold oTs; omega)).trans h2, g2, fun i hi => ?_, g3⟩
  rw [g1.1 166 i (by unfold oTs; omega), g1.1 167 i (by unfold oTs; omega), g1.1 168 i (by unfold oTs; omega)]
  exact h3 i hi
/-- what the made kinds give -/
theorem made_kd {M : pMem} (h : made M) {k : Nat} (hk : k < 5) : mI M 161 k = ((nsD M k : Nat) : Int) ∧ nsD M k ≤ 16 ∧ spOk (nsD M k) (kdS M k) ∧ isKd (pgD M) (mI M 158) (k : Int) (mI M 160 k) (nsD M k) (kdS M k) := by
  obtain ⟨h1, h2⟩ := (made_ok h).1 k hk
  obtain ⟨a1, a2, -, -⟩ := isKd_ok h.1.2.2.2.2.1.2 h2
  exact ⟨h1, a1, a2, h2⟩
theorem ky_ex {M : pMem} (h : made M) {p k : Nat} (hp : p < 16) (hk : k < 5) : isKey (wtD M) ((pgD M).1 p) (nsD M k) ((pgD M).2 p) (kdS M k) (kyS (wtD M) (pgD M) (mI M 158) p k) := by
  obtain ⟨a1, a2, a3, a4⟩ := made_kd h hk
  obtain ⟨b1, b2⟩ := h.1.2.2.2.2.1.2.1 p hp
  obtain ⟨K, hK⟩ := isKey_ex h.1.2.2.1 b2 a3 b1 a2
  rw [kyS_e a4 hK]
  exact hK
theorem rdy_k {M N : pMem} {p k : Nat} (h : made M) (hp : p < 16) (hk : k < 5) (hr : rdy M p k N) : wtOk (wtD N) ∧ bxOk ((pgD M).1 p) (bxD N) ∧ spOk (nsD M k) (spD N) ∧ isKey (wtD N) ((pgD M).1 p) (nsD M k) (bxD N) (spD N) (kyS (wtD M) (pgD M) (mI M 158) p k) := by
  obtain ⟨r1, r2, r3, r4, r5⟩ := hr
  obtain ⟨a1, a2, a3, a4⟩ := made_kd h hk
  obtain ⟨b1, b2⟩ := h.1.2.2.2.2.1.2.1 p hp
  have ew : wtD N = wtD M := frD_wt r1 (fun j => by unfold oC oM oQ; omega)
  rw [ew]
  refine ⟨h.1.2.2.1, fun b hb => ?_, fun s hs => ?_, isKey_congr (fun b hb => ?_) (fun s hs => ?_) (ky_ex h hp hk)⟩
  · obtain ⟨z1, z2, z3⟩ := r4 b hb
    show (0 ≤ mI N 166 b ∧ mI N 166 b ≤ 63) ∧ (0 ≤ mI N 167 b ∧ mI N 167 b ≤ 63) ∧ (1 ≤ mI N 168 b ∧ mI N 168 b ≤ 99)
    rw [z1, z2, z3]; exact b2 b hb
  · obtain ⟨z1, z2, z3, z4⟩ := r5 s hs
    show (0 ≤ mI N 169 s ∧ mI N 169 s ≤ 63) ∧ (0 ≤ mI N 170 s ∧ mI N 170 s ≤ 63) ∧ (1 ≤ mI N 171 s ∧ mI N 171 s ≤ 99) ∧ (mI N 172 s = 0 ∨ mI N 172 s = 1)
    rw [z1, z2, z3, z4]; exact a3 s hs
  · obtain ⟨z1, z2, z3⟩ := r4 b hb
    exact ⟨z1.symm, z2.symm, z3.symm⟩
  · obtain ⟨z1, z2, z3, z4⟩ := r5 s hs
    exact ⟨z1.symm, z2.symm, z3.symm, z4.symm⟩
theorem made_C {M N : pMem} (h : made M) (hf : frD oC M N) : made N := made_fr h (frD_su hf (fun b j hb => Or.inl hb)) (fun p k _ _ => Or.inl (hf.1 _ _ (Or.inr rfl)))
theorem co_r {M : pMem} (h : made M) {p k : Nat} (hp : p < 16) (hk : k < 5) : 0 ≤ coS (wtD M) (pgD M) (mI M 158) p k ∧ coS (wtD M) (pgD M) (mI M 158) p k ≤ 100000 := by
  obtain ⟨a1, a2, a3, a4⟩ := made_kd h hk
  obtain ⟨b1, b2⟩ := h.1.2.2.2.2.1.2.1 p hp
  have := isKey_r h.1.2.2.1 b2 a3 b1 a2 (ky_ex h hp hk)
  unfold coS
  omega
theorem c_costOf {g : pG} {M : pMem} {p k : Nat} (hm : made M) (hp : p < 16) (hk : k < 5) : pCn g 5 0 0 yX6_costOf cX6_costOf 4 (some .int) SH SH M [.inr (.inr 153), .inl (p : Int), .inl (k : Int)] (fun r M' => r = some (.inl (coS (wtD M) (pgD M) (mI M 158) p k)) ∧ frD oM M M' ∧ made M') := by
  refine pCn_intro mt_X6_costOf (fun X C => ?_)
  have hW := hm.1.1
  have hcr := co_r hm hp hk
  have hcs := (made_ok hm).2 p k hp hk
  show pE g 4 X _ SH M 0 0 0 [some (.inr (.inr 153)), some (.inl (p : Int)), some (.inl (k : Int)), none] []
  refine e_iconst C dX6_costOf_0 ?_
  refine e_iload_n C dX6_costOf_1 rfl ?_
  refine e_imul C dX6_costOf_2 ?_
  refine e_iload_n C dX6_costOf_3 rfl ?_
  refine e_iadd C dX6_costOf_4 ?_
  refine e_istore_n C dX6_costOf_5 ?_
  refine e_aload_n C dX6_costOf_6 rfl ?_
  refine e_getR C f_X6_87 sh_153 (hW 153 32 176 rfl) dX6_costOf_7 ?_
  refine e_iload_n C dX6_costOf_10 rfl ?_
  refine e_iaload C dX6_costOf_11 sh_176 (5 * p + k) (by omega) (by omega) ?_
  refine e_if_ge C (tgt := 39) dX6_costOf_12 (by decide) (by omega) (fun h_12 => ?_) (fun h_12 => ?_)
  · have hce : mI M 176 (5 * p + k) = (coS (wtD M) (pgD M) (mI M 158) p k) := by omega
    refine e_aload_n C dX6_costOf_39 rfl ?_
    refine e_getR C f_X6_87 sh_153 (hW 153 32 176 rfl) dX6_costOf_40 ?_
    refine e_iload_n C dX6_costOf_43 rfl ?_
    refine e_iaload C dX6_costOf_44 sh_176 (5 * p + k) (by omega) (by omega) ?_
    first | exact e_ireturn C dX6_costOf_45 ⟨by rw [hce], frD_rf, hm⟩ | exact e_ireturn C dX6_costOf_45 ⟨by rw [stI_s], hN1, hN2⟩
  · skip
    refine e_aload_n C dX6_costOf_15 rfl ?_
    refine e_iload_n C dX6_costOf_16 rfl ?_
    refine e_callV C (c_takesPage (M := M) (p := p) hm.1.1 hm.1.2.2.2.2.1 hp) mt_X6_takesPage s_X6_158 dX6_costOf_17 6 sh_153 rfl (fun ra Ma hqa => ?_)
    obtain ⟨rfl, ha1, ha2, ha3⟩ := hqa
    dsimp only [Option.toList_none, List.nil_append]
    refine e_aload_n C dX6_costOf_20 rfl ?_
    refine e_iload_n C dX6_costOf_21 rfl ?_
    have eA1 : nsD Ma k = nsD M k := by unfold nsD; rw [ha1.1 161 k (by unfold oTp; omega)]
    have eA2 : kdS Ma k = kdS M k := frD_kd ha1 (fun b j _ _ => by unfold oTp; omega) k
    obtain ⟨m1, m2, m3, m4⟩ := made_kd hm hk
    have hs1 : mI Ma 161 k = ((nsD Ma k : Nat) : Int) := by rw [eA1, ha1.1 161 k (by unfold oTp; omega)]; exact m1
    have hs2 : nsD Ma k ≤ 16 := by rw [eA1]; exact m2
    have hs3 : spOk (nsD Ma k) (kdS Ma k) := by rw [eA1, eA2]; exact m3
    refine e_callV C (c_takesSpots (M := Ma) (k := k) (frD_W ha1 hm.1.1) hk hs1 hs2 hs3) mt_X6_takesSpots s_X6_162 dX6_costOf_22 6 sh_153 rfl (fun rb Mb hqb => ?_)
    obtain ⟨rfl, hb1, hb2, hb3⟩ := hqb
    dsimp only [Option.toList_none, List.nil_append]
    have hrd := rdy_of ha1 ha2 ha3 hb1 hb2 hb3
    obtain ⟨w1, w2, w3, w4⟩ := rdy_k hm hp hk hrd
    have h8 := (hm.1.2.2.2.2.1.2.1 p hp).1
    refine e_aload_n C dX6_costOf_25 rfl ?_
    refine e_callV C (c_seeks (M := Mb) (nb := (pgD M).1 p) (ns := nsD M k) (K := kyS (wtD M) (pgD M) (mI M 158) p k) (frD_W hrd.1 hm.1.1) hrd.2.1 hrd.2.2.1 h8 m2 w1 w2 w3 w4) mt_X6_seeks s_X6_165 dX6_costOf_26 6 sh_153 rfl (fun rc Mc hqc => ?_)
    obtain ⟨rfl, hc1, hc2, hc3, hc4, hc5⟩ := hqc
    dsimp only [Option.toList_none, List.nil_append]
    have hfc : frD oC M Mc := frD_tr hrd.1 (frD_su hc1 (fun b j hb => by unfold oC oM oQ at hb; unfold oSk; omega))
    have hmc := made_C hm hfc
    have hWc := hmc.1.1
    refine e_aload_n C dX6_costOf_29 rfl ?_
    refine e_getR C f_X6_87 sh_153 (hWc 153 32 176 rfl) dX6_costOf_30 ?_
    refine e_iload_n C dX6_costOf_33 rfl ?_
    refine e_aload_n C dX6_costOf_34 rfl ?_
    refine e_getI C f_X6_146 sh_153 dX6_costOf_35 ?_
    rw [hc2, show (kyS (wtD M) (pgD M) (mI M 158) p k) / 341812114609 = (coS (wtD M) (pgD M) (mI M 158) p k) from rfl]
    refine e_iastore C dX6_costOf_38 sh_176 (5 * p + k) (by omega) (by omega) ?_
    have hN1 : frD oM M (stI Mc 176 (5 * p + k) (coS (wtD M) (pgD M) (mI M 158) p k)) := frD_tr (frD_su hfc (fun b j hb => Or.inl hb)) (frD_st (fun z => by unfold oM oQ at z; omega))
    have hN2 : made (stI Mc 176 (5 * p + k) (coS (wtD M) (pgD M) (mI M 158) p k)) := made_fr hm hN1 (fun p2 k2 hp2 hk2 => by
      by_cases e : 5 * p2 + k2 = 5 * p + k
      · have : p2 = p := by omega
        have : k2 = k := by omega
        subst p2; subst k2
        exact Or.inr (stI_s _ _ _ _)
      · rw [stI_n _ _ (Or.inr e)]; exact Or.inl (hfc.1 _ _ (Or.inr rfl)))
    refine e_aload_n C dX6_costOf_39 rfl ?_
    refine e_getR C f_X6_87 sh_153 (hWc 153 32 176 rfl) dX6_costOf_40 ?_
    refine e_iload_n C dX6_costOf_43 rfl ?_
    refine e_iaload C dX6_costOf_44 sh_176 (5 * p + k) (by omega) (by omega) ?_
    first | exact e_ireturn C dX6_costOf_45 ⟨by rw [hce], frD_rf, hm⟩ | exact e_ireturn C dX6_costOf_45 ⟨by rw [stI_s], hN1, hN2⟩
theorem dgF_inj {w : pWt} {nb ns : Nat} {A : pB} {Z : pS} {K : Int} (h8 : nb ≤ 8) (h16 : ns ≤ 16) (h : isKey w nb ns A Z K) : ∀ a b, a < nb → b < nb → dgF K a = dgF K b → 0 ≤ dgF K a → a = b := by
  obtain ⟨-, q, hq, φ, hφ, e⟩ := h
  intro a b ha hb he h0
  rw [e, key_dg h8 h16 ha, key_dg h8 h16 hb] at he
  rw [e, key_dg h8 h16 ha] at h0
  unfold lvD at he h0
  by_cases z : φ a < ns
  · rw [if_pos z] at he
    by_cases y : φ b < ns
    · rw [if_pos y] at he
      refine Classical.byContradiction (fun x => ?_)
      have := hφ.2 a b ha hb x (by omega)
      omega
    · rw [if_neg y] at he; omega
  · rw [if_neg z] at h0; omega
def laidD (M : pMem) (p k : Nat) (N : pMem) : Prop := mI N 153 28 = kyS (wtD M) (pgD M) (mI M 158) p k / 341812114609 ∧ mI N 153 29 = dxo (kyS (wtD M) (pgD M) (mI M 158) p k / 6975757441 % 49).toNat ∧ mI N 153 30 = dyo (kyS (wtD M) (pgD M) (mI M 158) p k / 6975757441 % 49).toNat ∧ (∀ b, b < (pgD M).1 p → mI N 175 b = dgF (kyS (wtD M) (pgD M) (mI M 158) p k) b) ∧ mI N 153 17 = (((pgD M).1 p : Nat) : Int) ∧ (∀ b, b < (pgD M).1 p → mI N 168 b = ((pgD M).2 p).2.2 b) ∧ 0 ≤ kyS (wtD M) (pgD M) (mI M 158) p k ∧ kyS (wtD M) (pgD M) (mI M 158) p k ≤ 5000000000000000 ∧ (∀ a b, a < (pgD M).1 p → b < (pgD M).1 p → dgF (kyS (wtD M) (pgD M) (mI M 158) p k) a = dgF (kyS (wtD M) (pgD M) (mI M 158) p k) b → 0 ≤ dgF (kyS (wtD M) (pgD M) (mI M 158) p k) a → a = b) ∧ ∃ tot ns Z, isKd (pgD M) (mI M 158) (k : Int) tot ns Z ∧ mI N 153 21 = (ns : Int)
theorem c_isLaid {g : pG} {M : pMem} {p k : Int} (hi_p : -2147483648 ≤ p ∧ p < 2147483648) (hi_k : -2147483648 ≤ k ∧ k < 2147483648) (hJ : JD M) : pCn g 5 0 0 yX6_isLaid cX6_isLaid 3 (some .boolean) SH SH M [.inr (.inr 153), .inl p, .inl k] (fun r M' => ((isQ M p ∧ hasQ (mI M 158) k) → r = some (.inl 1) ∧ laidD M p.toNat k.toNat M') ∧ (¬ (isQ M p ∧ hasQ (mI M 158) k) → r = some (.inl 0)) ∧ frD oQ M M' ∧ JD M') := by
  refine pCn_intro mt_X6_isLaid (fun X C => ?_)
  have hW := hJ.1
  show pE g 3 X _ SH M 0 0 0 [some (.inr (.inr 153)), some (.inl p), some (.inl k)] []
  refine e_aload_n C dX6_isLaid_0 rfl ?_
  refine e_iload_n C dX6_isLaid_1 rfl ?_
  refine e_callV C (c_isPageD hi_p hJ.2.1) mt_X6_isPage s_X6_113 dX6_isLaid_2 6 sh_153 rfl (fun r M1 hq => ?_)
  obtain ⟨rfl, hM⟩ := hq
  subst M1
  dsimp only [Option.toList_some, List.singleton_append]
  refine e_if_eq C (tgt := 16) dX6_isLaid_5 (by decide) (by split <;> omega) (fun h_5 => ?_) (fun h_5 => ?_)
  · have hpp := ite0.mp h_5
    refine e_iconst C dX6_isLaid_16 ?_
    first | exact e_zreturn C dX6_isLaid_17 (Or.inl rfl) ⟨fun z => absurd z.1 hpp, fun _ => rfl, frD_rf, hJ⟩ | exact e_zreturn C dX6_isLaid_17 (Or.inl rfl) ⟨fun z => absurd z.2 hkk, fun _ => rfl, hk1, hk2.1⟩
  · have hpp := ite1.mp h_5
    refine e_aload_n C dX6_isLaid_8 rfl ?_
    refine e_iload_n C dX6_isLaid_9 rfl ?_
    refine e_callV C (c_isKindD (M := M) hi_k hJ) mt_X6_isKind s_X6_168 dX6_isLaid_10 6 sh_153 rfl (fun rk Mk hqk => ?_)
    obtain ⟨rfl, hk1, hk2⟩ := hqk
    dsimp only [Option.toList_some, List.singleton_append]
    refine e_if_ne C (tgt := 18) dX6_isLaid_13 (by decide) (by split <;> omega) (fun h_13 => ?_) (fun h_13 => ?_)
    · have hkk := ite1.mp h_13
      obtain ⟨q, rfl, hq, hq2⟩ := isQ_n hJ hpp
      obtain ⟨j, rfl, hj, hj2⟩ := hasQ_n hkk
      refine e_aload_n C dX6_isLaid_18 rfl ?_
      refine e_iload_n C dX6_isLaid_19 rfl ?_
      refine e_callV C (c_takesPage (M := Mk) (p := q) hk2.1.1 hk2.1.2.2.2.2.1 hq) mt_X6_takesPage s_X6_158 dX6_isLaid_20 6 sh_153 rfl (fun ra Ma hqa => ?_)
      obtain ⟨rfl, ha1, ha2, ha3⟩ := hqa
      dsimp only [Option.toList_none, List.nil_append]
      refine e_aload_n C dX6_isLaid_23 rfl ?_
      refine e_iload_n C dX6_isLaid_24 rfl ?_
      have eA1 : nsD Ma j = nsD Mk j := by unfold nsD; rw [ha1.1 161 j (by unfold oTp; omega)]
      have eA2 : kdS Ma j = kdS Mk j := frD_kd ha1 (fun b j _ _ => by unfold oTp; omega) j
      obtain ⟨m1, m2, m3, m4⟩ := made_kd hk2 hj
      have hs1 : mI Ma 161 j = ((nsD Ma j : Nat) : Int) := by rw [eA1, ha1.1 161 j (by unfold oTp; omega)]; exact m1
      have hs2 : nsD Ma j ≤ 16 := by rw [eA1]; exact m2
      have hs3 : spOk (nsD Ma j) (kdS Ma j) := by rw [eA1, eA2]; exact m3
      refine e_callV C (c_takesSpots (M := Ma) (k := j) (frD_W ha1 hk2.1.1) hj hs1 hs2 hs3) mt_X6_takesSpots s_X6_162 dX6_isLaid_25 6 sh_153 rfl (fun rb Mb hqb => ?_)
      obtain ⟨rfl, hb1, hb2, hb3⟩ := hqb
      dsimp only [Option.toList_none, List.nil_append]
      have hrd := rdy_of ha1 ha2 ha3 hb1 hb2 hb3
      obtain ⟨w1, w2, w3, w4⟩ := rdy_k hk2 hq hj hrd
      have h8 := (hk2.1.2.2.2.2.1.2.1 q hq).1
      refine e_aload_n C dX6_isLaid_28 rfl ?_
      refine e_callV C (c_seeks (M := Mb) (nb := (pgD Mk).1 q) (ns := nsD Mk j) (K := kyS (wtD Mk) (pgD Mk) (mI Mk 158) q j) (frD_W hrd.1 hk2.1.1) hrd.2.1 hrd.2.2.1 h8 m2 w1 w2 w3 w4) mt_X6_seeks s_X6_165 dX6_isLaid_29 6 sh_153 rfl (fun rc Mc hqc => ?_)
      obtain ⟨rfl, hc1, hc2, hc3, hc4, hc5⟩ := hqc
      dsimp only [Option.toList_none, List.nil_append]
      have hfc : frD oC Mk Mc := frD_tr hrd.1 (frD_su hc1 (fun b j hb => by unfold oC oM oQ at hb; unfold oSk; omega))
      have hmc := made_C hk2 hfc
      have hWc := hmc.1.1
      refine e_aload_n C dX6_isLaid_32 rfl ?_
      have ew := frD_wt hc1 (fun j => by unfold oSk; omega)
      have eb := frD_bx hc1 (fun b j _ _ => by unfold oSk; omega)
      have es := frD_sp hc1 (fun b j _ _ => by unfold oSk; omega)
      have v1 : wtOk (wtD Mc) := by rw [ew]; exact w1
      have v2 : bxOk ((pgD Mk).1 q) (bxD Mc) := by rw [eb]; exact w2
      have v3 : spOk (nsD Mk j) (spD Mc) := by rw [es]; exact w3
      have v4 : isKey (wtD Mc) ((pgD Mk).1 q) (nsD Mk j) (bxD Mc) (spD Mc) (kyS (wtD Mk) (pgD Mk) (mI Mk 158) q j) := by rw [ew, eb, es]; exact w4
      refine e_callV C (c_places (M := Mc) (nb := (pgD Mk).1 q) (ns := nsD Mk j) (K := kyS (wtD Mk) (pgD Mk) (mI Mk 158) q j) hWc ((hc1.1 153 17 (by unfold oSk; omega)).trans hrd.2.1) ((hc1.1 153 21 (by unfold oSk; omega)).trans hrd.2.2.1) h8 m2 v1 v2 v3 v4 hc2 hc3 hc4 hc5) mt_X6_places s_X6_171 dX6_isLaid_33 6 sh_153 rfl (fun rd Md hqd => ?_)
      obtain ⟨rfl, hd1, hd2⟩ := hqd
      dsimp only [Option.toList_none, List.nil_append]
      have hfd : frD oC Mk Md := frD_tr hfc (frD_su hd1 (fun b j hb => by unfold oC oM oQ at hb; unfold oPl; omega))
      have hmd := made_C hk2 hfd
      have hKr := isKey_r hk2.1.2.2.1 (hk2.1.2.2.2.2.1.2.1 q hq).2 m3 h8 m2 (ky_ex hk2 hq hj)
      have hLd : laidD M q j Md := by
        unfold laidD
        rw [← oQ_wt hk1, ← oQ_pg hk1, ← oQ_T hk1]
        refine ⟨(hd1.1 153 28 (by unfold oPl; omega)).trans hc2, (hd1.1 153 29 (by unfold oPl; omega)).trans hc3, (hd1.1 153 30 (by unfold oPl; omega)).trans hc4, hd2, ?_, fun b hb => ?_, hKr.1, hKr.2, dgF_inj h8 m2 (ky_ex hk2 hq hj), _, _, _, m4, ?_⟩
        · exact (hd1.1 153 17 (by unfold oPl; omega)).trans ((hc1.1 153 17 (by unfold oSk; omega)).trans hrd.2.1)
        · exact (hd1.1 168 b (by unfold oPl; omega)).trans ((hc1.1 168 b (by unfold oSk; omega)).trans (hrd.2.2.2.1 b hb).2.2)
        · exact (hd1.1 153 21 (by unfold oPl; omega)).trans ((hc1.1 153 21 (by unfold oSk; omega)).trans hrd.2.2.1)
      refine e_iconst C dX6_isLaid_36 ?_
      exact e_zreturn C dX6_isLaid_37 (Or.inr rfl) ⟨fun _ => ⟨rfl, hLd⟩, fun z => absurd ⟨hpp, hkk⟩ z, frD_tr hk1 (frD_su hfd (fun b j hb => Or.inl (Or.inl hb))), hmd.1⟩
    · have hkk := fun z => h_13 (ite1.mpr z)
      refine e_iconst C dX6_isLaid_16 ?_
      first | exact e_zreturn C dX6_isLaid_17 (Or.inl rfl) ⟨fun z => absurd z.1 hpp, fun _ => rfl, frD_rf, hJ⟩ | exact e_zreturn C dX6_isLaid_17 (Or.inl rfl) ⟨fun z => absurd z.2 hkk, fun _ => rfl, hk1, hk2.1⟩
