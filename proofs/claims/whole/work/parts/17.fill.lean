def fcV (M : pMem) (dx dy : Int) (j : Nat) : Int := mL M 7 j + mI M 4 1 * 341812114609 * (((mI M 5 j + dx).natAbs : Int) + ((mI M 6 j + dy).natAbs : Int))
def fcI (M : pMem) (ns nb : Nat) (dx dy : Int) (b s : Nat) (f : Nat → Int) : Prop :=
  (∀ a c, a < b → c < ns → f (a * 17 + c) = fcV M dx dy (a * 17 + c)) ∧ (∀ c, c < s → f (b * 17 + c) = fcV M dx dy (b * 17 + c)) ∧ ∀ a, a < nb → f (a * 17 + ns) = mL M 8 (a * 17 + ns)
theorem c_fill {g : pG} {M : pMem} {dx dy : Int} (hW : pW M) {ns nb : Nat} (hns : mI M 4 6 = (ns : Int)) (hn16 : ns ≤ 16) (hnb : mI M 4 5 = (nb : Int)) (hn8 : nb ≤ 8) (hdx : -3 ≤ dx ∧ dx ≤ 3) (hdy : -3 ≤ dy ∧ dy ≤ 3) (hfar : 0 ≤ mI M 4 1 ∧ mI M 4 1 ≤ 9) (hac : ∀ b c, b < nb → c < ns → -63 ≤ mI M 5 (b * 17 + c) ∧ mI M 5 (b * 17 + c) ≤ 63) (hdn : ∀ b c, b < nb → c < ns → -63 ≤ mI M 6 (b * 17 + c) ∧ mI M 6 (b * 17 + c) ≤ 63) :
    pCn g 1 0 0 yX1_fillCells cX1_fillCells 8 none SH SH M [.inr (.inr 4), .inl dx, .inl dy] (fun r M' => ∃ f : Nat → Int, r = none ∧ M' = wrL M 8 f ∧ fcI M ns nb dx dy nb 0 f) := by
  refine pCn_intro mt_X1_fillCells (fun X C => ?_)
  have loop : ∀ (b : Nat) (s : (Nat → Int) × Option pV × Option pV), b ≤ nb → fcI M ns nb dx dy b 0 s.1 → pE g 8 X (pMQ g SH (fun r M' => ∃ f : Nat → Int, r = none ∧ M' = wrL M 8 f ∧ fcI M ns nb dx dy nb 0 f) X 0 0) SH (wrL M 8 s.1) 0 0 13 [some (.inr (.inr 4)), some (.inl dx), some (.inl dy), some (.inr (.inl (mI M 4 1 * 341812114609))), none, some (.inl (b : Int)), s.2.1, s.2.2] [] := by
    refine p_for nb _ _ ?_ ?_
    · rintro ⟨f, x6, x7⟩ hI
      dsimp only at hI ⊢
      refine e_iload C dX1_fillCells_13 rfl ?_
      refine e_aload_n C dX1_fillCells_15 rfl ?_
      refine e_getI C f_X1_27 sh_4 dX1_fillCells_16 ?_
      rw [show mI (wrL M 8 f) 4 5 = mI M 4 5 from rfl, hnb]
      refine e_icmp_ge C (tgt := 103) dX1_fillCells_19 (by decide) (by omega) (by omega) (fun h_19 => ?_) (fun h_19 => by exfalso; omega)
      exact e_return C dX1_fillCells_103 ⟨f, rfl, rfl, hI⟩
    · rintro b ⟨f0, x6, x7⟩ hb hI ih
      dsimp only at hI ⊢
      have inner : ∀ (i : Nat) (s : (Nat → Int) × Int), i ≤ ns → (s.2 = (b : Int) * 17 + (i : Int) ∧ fcI M ns nb dx dy b i s.1) → pE g 8 X (pMQ g SH (fun r M' => ∃ f : Nat → Int, r = none ∧ M' = wrL M 8 f ∧ fcI M ns nb dx dy nb 0 f) X 0 0) SH (wrL M 8 s.1) 0 0 41 [some (.inr (.inr 4)), some (.inl dx), some (.inl dy), some (.inr (.inl (mI M 4 1 * 341812114609))), none, some (.inl (b : Int)), some (.inl ((b : Int) * 17 + (ns : Int))), some (.inl s.2)] [] := by
        refine p_for ns _ _ ?_ ?_
        · rintro ⟨f, z7⟩ ⟨ez, hI2⟩
          dsimp only at ez hI2 ⊢
          refine e_iload C dX1_fillCells_41 rfl ?_
          refine e_iload C dX1_fillCells_43 rfl ?_
          refine e_icmp_ge C (tgt := 97) dX1_fillCells_45 (by decide) (by omega) (by omega) (fun h_45 => ?_) (fun h_45 => by exfalso; omega)
          refine e_iinc C dX1_fillCells_97 rfl ?_
          refine e_goto C (tgt := 13) dX1_fillCells_100 (by decide) ?_
          refine ih (f, _, _) ⟨fun a c ha hc => ?_, fun c hc => absurd hc (Nat.not_lt_zero c), hI2.2.2⟩
          rcases Nat.lt_or_ge a b with q | q
          · exact hI2.1 a c q hc
          · have : a = b := by omega
            subst this; exact hI2.2.1 c hc
        · rintro i ⟨f, z7⟩ hi ⟨ez, hI2⟩ ih2
          dsimp only at ez hI2 ih2 ⊢
          have hac1 := hac b i hb hi
          have hdn1 := hdn b i hb hi
          refine e_iload C dX1_fillCells_41 rfl ?_
          refine e_iload C dX1_fillCells_43 rfl ?_
          refine e_icmp_ge C (tgt := 97) dX1_fillCells_45 (by decide) (by omega) (by omega) (fun h_45 => by exfalso; omega) (fun h_45 => ?_)
          refine e_aload_n C dX1_fillCells_48 rfl ?_
          refine e_getR C f_X1_52 sh_4 (hW 4 12 8 rfl) dX1_fillCells_49 ?_
          refine e_iload C dX1_fillCells_52 rfl ?_
          refine e_aload_n C dX1_fillCells_54 rfl ?_
          refine e_getR C f_X1_48 sh_4 (hW 4 11 7 rfl) dX1_fillCells_55 ?_
          refine e_iload C dX1_fillCells_58 rfl ?_
          refine e_laload C dX1_fillCells_60 sh_7 (b * 17 + i) (by omega) (by omega) ?_
          refine e_lload_n C dX1_fillCells_61 rfl ?_
          refine e_aload_n C dX1_fillCells_62 rfl ?_
          refine e_getR C f_X1_41 sh_4 (hW 4 9 5 rfl) dX1_fillCells_63 ?_
          refine e_iload C dX1_fillCells_66 rfl ?_
          refine e_iaload C dX1_fillCells_68 sh_5 (b * 17 + i) (by omega) (by omega) ?_
          rw [show mI (wrL M 8 f) 5 (b * 17 + i) = mI M 5 (b * 17 + i) from rfl]
          refine e_iload_n C dX1_fillCells_69 rfl ?_
          refine e_iadd C dX1_fillCells_70 ?_
          refine e_mabs C s_X1_121 dX1_fillCells_71 (by omega) ?_
          refine e_aload_n C dX1_fillCells_74 rfl ?_
          refine e_getR C f_X1_45 sh_4 (hW 4 10 6 rfl) dX1_fillCells_75 ?_
          refine e_iload C dX1_fillCells_78 rfl ?_
          refine e_iaload C dX1_fillCells_80 sh_6 (b * 17 + i) (by omega) (by omega) ?_
          rw [show mI (wrL M 8 f) 6 (b * 17 + i) = mI M 6 (b * 17 + i) from rfl]
          refine e_iload_n C dX1_fillCells_81 rfl ?_
          refine e_iadd C dX1_fillCells_82 ?_
          refine e_mabs C s_X1_121 dX1_fillCells_83 (by omega) ?_
          refine e_iadd C dX1_fillCells_86 ?_
          refine e_i2l C dX1_fillCells_87 (by omega) ?_
          refine e_lmul C dX1_fillCells_88 ?_
          refine e_ladd C dX1_fillCells_89 ?_
          refine e_lastore C dX1_fillCells_90 sh_8 (b * 17 + i) (by omega) (by omega) ?_
          rw [stL_wr]
          refine e_iinc C dX1_fillCells_91 rfl ?_
          refine e_goto C (tgt := 41) dX1_fillCells_94 (by decide) ?_
          refine ih2 (up f (b * 17 + i) (fcV M dx dy (b * 17 + i)), z7 + 1) ⟨by dsimp only; omega, fun a c ha hc => ?_, fun c hc => ?_, fun a ha => ?_⟩
          · dsimp only; rw [up_n (by omega)]; exact hI2.1 a c ha hc
          · dsimp only
            by_cases e : c = i
            · subst e; rw [up_s]
            · rw [up_n (by omega)]; exact hI2.2.1 c (by omega)
          · dsimp only; rw [up_n (by omega)]; exact hI2.2.2 a ha
      refine e_iload C dX1_fillCells_13 rfl ?_
      refine e_aload_n C dX1_fillCells_15 rfl ?_
      refine e_getI C f_X1_27 sh_4 dX1_fillCells_16 ?_
      rw [show mI (wrL M 8 f0) 4 5 = mI M 4 5 from rfl, hnb]
      refine e_icmp_ge C (tgt := 103) dX1_fillCells_19 (by decide) (by omega) (by omega) (fun h_19 => by exfalso; omega) (fun h_19 => ?_)
      refine e_iload C dX1_fillCells_22 rfl ?_
      refine e_bipush C dX1_fillCells_24 ?_
      refine e_imul C dX1_fillCells_26 ?_
      refine e_aload_n C dX1_fillCells_27 rfl ?_
      refine e_getI C f_X1_30 sh_4 dX1_fillCells_28 ?_
      rw [show mI (wrL M 8 f0) 4 6 = mI M 4 6 from rfl, hns]
      refine e_iadd C dX1_fillCells_31 ?_
      refine e_istore C dX1_fillCells_32 ?_
      refine e_iload C dX1_fillCells_34 rfl ?_
      refine e_bipush C dX1_fillCells_36 ?_
      refine e_imul C dX1_fillCells_38 ?_
      refine e_istore C dX1_fillCells_39 ?_
      exact inner 0 (f0, _) (by omega) ⟨by dsimp only; omega, hI⟩
  show pE g 8 X _ SH M 0 0 0 [some (.inr (.inr 4)), some (.inl dx), some (.inl dy), none, none, none, none, none] []
  refine e_aload_n C dX1_fillCells_0 rfl ?_
  refine e_getI C f_X1_15 sh_4 dX1_fillCells_1 ?_
  refine e_i2l C dX1_fillCells_4 (by omega) ?_
  refine e_ldc2 C (341812114609) k_X1_107 dX1_fillCells_5 ?_
  refine e_lmul C dX1_fillCells_8 ?_
  refine e_lstore_n C dX1_fillCells_9 ?_
  refine e_iconst C dX1_fillCells_10 ?_
  refine e_istore C dX1_fillCells_11 ?_
  exact pE_M (wrL_e M 8).symm (loop 0 (mL M 8, none, none) (by omega) ⟨fun a c ha => absurd ha (Nat.not_lt_zero a), fun c hc => absurd hc (Nat.not_lt_zero c), fun a _ => rfl⟩)
