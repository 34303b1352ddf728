/-! ===== Maker: gather ===== -/
def GM (M : pMem) (f h : Nat → Int) : pMem := wrI (wrI M 17 f) 18 h
theorem GM_c (M : pMem) (f h : Nat → Int) : GM M f h = wrI (wrI M 18 h) 17 f := by
  unfold GM wrI
  simp only [Prod.mk.injEq, and_true]
  funext b i; (repeat' split) <;> simp_all
theorem GM_n {M : pMem} {f h : Nat → Int} {b : Nat} (j : Nat) (hb : b ≠ 17 ∧ b ≠ 18) : mI (GM M f h) b j = mI M b j := by
  unfold GM; rw [wrI_n _ _ _ hb.2, wrI_n _ _ _ hb.1]
theorem GM_17 {M : pMem} {f h : Nat → Int} (j : Nat) : mI (GM M f h) 17 j = f j := by unfold GM; rw [wrI_n _ _ _ (by decide), wrI_s]
theorem GM_18 {M : pMem} {f h : Nat → Int} (j : Nat) : mI (GM M f h) 18 j = h j := by unfold GM; rw [wrI_s]
theorem GM_e (M : pMem) : M = GM M (mI M 17) (mI M 18) := by
  unfold GM; rw [wrI_e, wrI_e]
def gaI (G : pPg) (T : Nat → Int) (k c : Int) (p n : Nat) (f h : Nat → Int) : Prop :=
  (n : Int) = sg (fun p => b01 (onK G T k c p = true)) p ∧ n ≤ p ∧ srt f n ∧ srt h n ∧ (∀ t, cnL f n t = sg (fun p => b01 (onK G T k c p = true ∧ (G.2 p).1 (ixC G p c).toNat ≤ t)) p) ∧ (∀ t, cnL h n t = sg (fun p => b01 (onK G T k c p = true ∧ (G.2 p).2.1 (ixC G p c).toNat ≤ t)) p) ∧ (∀ i, i < n → 0 ≤ f i ∧ f i ≤ 63) ∧ ∀ i, i < n → 0 ≤ h i ∧ h i ≤ 63
theorem gaI_no {G : pPg} {T : Nat → Int} {k c : Int} {p n : Nat} {f h : Nat → Int} (hI : gaI G T k c p n f h) (hn : ¬ onK G T k c p = true) : gaI G T k c (p + 1) n f h := by
  obtain ⟨h1, h2, h3, h4, h5, h6, h7, h8⟩ := hI
  refine ⟨?_, by omega, h3, h4, fun t => ?_, fun t => ?_, h7, h8⟩
  · simp only [sg]; rw [show b01 (onK G T k c p = true) = 0 from if_neg hn]; omega
  · simp only [sg]; rw [h5, show b01 (onK G T k c p = true ∧ (G.2 p).1 (ixC G p c).toNat ≤ t) = 0 from if_neg (fun q => hn q.1)]; omega
  · simp only [sg]; rw [h6, show b01 (onK G T k c p = true ∧ (G.2 p).2.1 (ixC G p c).toNat ≤ t) = 0 from if_neg (fun q => hn q.1)]; omega
theorem b01_and {a b : Prop} [Decidable a] [Decidable b] (h : a) : b01 (a ∧ b) = b01 b := by unfold b01; by_cases hb : b <;> simp [h, hb]
theorem c_gather {g : pG} {M : pMem} {ta : Nat} {T : Nat → Int} {k c : Int} (hW : pW M) (ht : SH[ta]? = some (.inr (0, 16))) (hta : ta = 2 ∨ ta = 20) (hT : ∀ p, p < 16 → mI M ta p = T p ∧ -1 ≤ T p ∧ T p < 5) (hk : 0 ≤ k ∧ k < 5) (hG : pgM M) (hc : 1 ≤ c ∧ c ≤ 99) :
    pCn g 2 0 0 yX2_gather cX2_gather 8 (some .int) SH SH M [.inr (.inr 15), .inl c, .inl k, .inr (.inr 1), .inr (.inr ta)] (fun r M' => ∃ (n : Nat) (f h : Nat → Int), r = some (.inl (n : Int)) ∧ M' = GM M f h ∧ gaI (pgC M) T k c 16 n f h) := by
  refine pCn_intro mt_X2_gather (fun X C => ?_)
  have loop : ∀ (p : Nat) (s : Nat × (Nat → Int) × (Nat → Int) × Option pV), p ≤ 16 → gaI (pgC M) T k c p s.1 s.2.1 s.2.2.1 → pE g 8 X (pMQ g SH (fun r M' => ∃ (n : Nat) (f h : Nat → Int), r = some (.inl (n : Int)) ∧ M' = GM M f h ∧ gaI (pgC M) T k c 16 n f h) X 0 0) SH (GM M s.2.1 s.2.2.1) 0 0 6 [some (.inr (.inr 15)), some (.inl c), some (.inl k), some (.inr (.inr 1)), some (.inr (.inr ta)), some (.inl (s.1 : Int)), some (.inl (p : Int)), s.2.2.2] [] := by
    refine p_for 16 _ _ ?_ ?_
    · rintro ⟨n, f, h, x7⟩ hI
      dsimp only at hI ⊢
      refine e_iload C dX2_gather_6 rfl ?_
      refine e_bipush C dX2_gather_8 ?_
      refine e_icmp_ge C (tgt := 89) dX2_gather_10 (by decide) (by omega) (by omega) (fun h_10 => ?_) (fun h_10 => by exfalso; omega)
      refine e_iload C dX2_gather_89 rfl ?_
      exact e_ireturn C dX2_gather_91 ⟨n, f, h, rfl, rfl, hI⟩
    · rintro p ⟨n, f, h, x7⟩ hp hI ih
      dsimp only at hI ih ⊢
      have hTp := (hT p hp).2
      have rdT : mI (GM M f h) ta p = T p := by rw [GM_n _ (by omega)]; exact (hT p hp).1
      by_cases hTk : T p = k
      rotate_left
      · refine e_iload C dX2_gather_6 rfl ?_
        refine e_bipush C dX2_gather_8 ?_
        refine e_icmp_ge C (tgt := 89) dX2_gather_10 (by decide) (by omega) (by omega) (fun h_10 => by exfalso; omega) (fun h_10 => ?_)
        refine e_aload C dX2_gather_13 rfl ?_
        refine e_iload C dX2_gather_15 rfl ?_
        refine e_iaload C dX2_gather_17 ht _ rfl (by omega) ?_
        rw [rdT]
        refine e_iload_n C dX2_gather_18 rfl ?_
        refine e_icmp_ne C (tgt := 33) dX2_gather_19 (by decide) (by omega) (by omega) (fun h_19 => ?_) (fun h_19 => by exact absurd (fun e => hTk e) h_19)
        refine e_iconst C dX2_gather_33 ?_
        refine e_istore C dX2_gather_34 ?_
        refine e_iload C dX2_gather_36 rfl ?_
        refine e_iconst C dX2_gather_38 ?_
        refine e_icmp_eq C (tgt := 83) dX2_gather_39 (by decide) (by omega) (by omega) (fun h_39 => ?_) (fun h_39 => by exfalso; omega)
        refine e_iinc C dX2_gather_83 rfl ?_
        refine e_goto C (tgt := 6) dX2_gather_86 (by decide) ?_
        exact ih (n, f, h, _) (gaI_no hI (fun q => hTk (of_decide_eq_true q).1))
      · have hcn := (hG.2.1 p hp).1
        have hbx := (hG.2.1 p hp).2
        have ef : mI (GM M f h) (38 + 5 * p + 1) = ((pgC M).2 p).2.2 := funext (fun j => GM_n j (by omega))
        have ec : mI (GM M f h) (38 + 5 * p) 4 = (((pgC M).1 p : Nat) : Int) := by rw [GM_n _ (by omega)]; exact hG.1 p hp
        have eix : fndI (mI (GM M f h) (38 + 5 * p + 1)) c 0 ((pgC M).1 p) = ixC (pgC M) p c := by rw [ef]; rfl
        rcases ixC_sp (pgC M) p c with ⟨x1, x2⟩ | ⟨j, x1, x2, x3⟩
        · refine e_iload C dX2_gather_6 rfl ?_
          refine e_bipush C dX2_gather_8 ?_
          refine e_icmp_ge C (tgt := 89) dX2_gather_10 (by decide) (by omega) (by omega) (fun h_10 => by exfalso; omega) (fun h_10 => ?_)
          refine e_aload C dX2_gather_13 rfl ?_
          refine e_iload C dX2_gather_15 rfl ?_
          refine e_iaload C dX2_gather_17 ht _ rfl (by omega) ?_
          rw [rdT]
          refine e_iload_n C dX2_gather_18 rfl ?_
          refine e_icmp_ne C (tgt := 33) dX2_gather_19 (by decide) (by omega) (by omega) (fun h_19 => by exact absurd hTk h_19) (fun h_19 => ?_)
          refine e_aload_n C dX2_gather_22 rfl ?_
          refine e_iload C dX2_gather_23 rfl ?_
          refine e_aaload3 C dX2_gather_25 sh_1 _ rfl (by omega) (hW 1 p _ (rt_page p hp).1) ?_
          refine e_iload_n C dX2_gather_26 rfl ?_
          refine e_callV C (c_find (M := GM M f h) (a := 38 + 5 * p) (N := 8) (n := (pgC M).1 p) (c := c) (pSh_page hW hp) ec hcn (by decide) (by omega) (fun i hi => by rw [ef]; have := (hbx i hi).2.2; omega)) mt_X4_find s_X2_58 dX2_gather_27 4 (pSh_page (M := GM M f h) hW hp).1 rfl (fun r M1 hq => ?_)
          obtain ⟨rfl, hM⟩ := hq
          subst M1
          dsimp only [Option.toList_some, List.singleton_append]
          rw [eix, x1]
          refine e_goto C (tgt := 34) dX2_gather_30 (by decide) ?_
          refine e_istore C dX2_gather_34 ?_
          refine e_iload C dX2_gather_36 rfl ?_
          refine e_iconst C dX2_gather_38 ?_
          refine e_icmp_eq C (tgt := 83) dX2_gather_39 (by decide) (by omega) (by omega) (fun h_39 => ?_) (fun h_39 => by exfalso; omega)
          refine e_iinc C dX2_gather_83 rfl ?_
          refine e_goto C (tgt := 6) dX2_gather_86 (by decide) ?_
          exact ih (n, f, h, _) (gaI_no hI (fun q => (of_decide_eq_true q).2 x1))
        · have hon : onK (pgC M) T k c p = true := decide_eq_true ⟨hTk, by omega⟩
          have hbj := hbx j x1
          obtain ⟨i1, i2, i3, i4, i5, i6, i7, i8⟩ := hI
          refine e_iload C dX2_gather_6 rfl ?_
          refine e_bipush C dX2_gather_8 ?_
          refine e_icmp_ge C (tgt := 89) dX2_gather_10 (by decide) (by omega) (by omega) (fun h_10 => by exfalso; omega) (fun h_10 => ?_)
          refine e_aload C dX2_gather_13 rfl ?_
          refine e_iload C dX2_gather_15 rfl ?_
          refine e_iaload C dX2_gather_17 ht _ rfl (by omega) ?_
          rw [rdT]
          refine e_iload_n C dX2_gather_18 rfl ?_
          refine e_icmp_ne C (tgt := 33) dX2_gather_19 (by decide) (by omega) (by omega) (fun h_19 => by exact absurd hTk h_19) (fun h_19 => ?_)
          refine e_aload_n C dX2_gather_22 rfl ?_
          refine e_iload C dX2_gather_23 rfl ?_
          refine e_aaload3 C dX2_gather_25 sh_1 _ rfl (by omega) (hW 1 p _ (rt_page p hp).1) ?_
          refine e_iload_n C dX2_gather_26 rfl ?_
          refine e_callV C (c_find (M := GM M f h) (a := 38 + 5 * p) (N := 8) (n := (pgC M).1 p) (c := c) (pSh_page hW hp) ec hcn (by decide) (by omega) (fun i hi => by rw [ef]; have := (hbx i hi).2.2; omega)) mt_X4_find s_X2_58 dX2_gather_27 4 (pSh_page (M := GM M f h) hW hp).1 rfl (fun r M1 hq => ?_)
          obtain ⟨rfl, hM⟩ := hq
          subst M1
          dsimp only [Option.toList_some, List.singleton_append]
          rw [eix, x3]
          refine e_goto C (tgt := 34) dX2_gather_30 (by decide) ?_
          refine e_istore C dX2_gather_34 ?_
          refine e_iload C dX2_gather_36 rfl ?_
          refine e_iconst C dX2_gather_38 ?_
          refine e_icmp_eq C (tgt := 83) dX2_gather_39 (by decide) (by omega) (by omega) (fun h_39 => by exfalso; omega) (fun h_39 => ?_)
          refine e_aload_n C dX2_gather_42 rfl ?_
          refine e_getR C f_X2_15 sh_15 (hW 15 1 17 rfl) dX2_gather_43 ?_
          refine e_iload C dX2_gather_46 rfl ?_
          refine e_aload_n C dX2_gather_48 rfl ?_
          refine e_iload C dX2_gather_49 rfl ?_
          refine e_aaload3 C dX2_gather_51 sh_1 _ rfl (by omega) (hW 1 p _ (rt_page p hp).1) ?_
          refine e_getR C f_X2_62 (pSh_page (M := GM M f h) hW hp).1 (pSh_page (M := GM M f h) hW hp).2.2.2.2.2.2.1 dX2_gather_52 ?_
          refine e_iload C dX2_gather_55 rfl ?_
          refine e_iaload C dX2_gather_57 (pSh_page (M := GM M f h) hW hp).2.2.1 _ rfl (by omega) ?_
          rw [GM_n _ (by omega), show mI M (38 + 5 * p + 2) j = ((pgC M).2 p).1 j from rfl]
          refine pE_M (GM_c M f h) ?_
          refine e_callS C (c_put (M := wrI M 18 h) (ra := 17) (n := n) (f := f) (v := ((pgC M).2 p).1 j) rfl (by omega) i3 hbj.1 i7) mt_X2_putByRising s_X2_63 dX2_gather_58 (fun r7 M7 hq7 => ?_)
          obtain ⟨f7, rfl, hM7, s7, c7, g7⟩ := hq7
          subst M7
          dsimp only [Option.toList_none, List.nil_append]
          refine pE_M (GM_c M f7 h).symm ?_
          refine e_aload_n C dX2_gather_61 rfl ?_
          refine e_getR C f_X2_18 sh_15 (hW 15 2 18 rfl) dX2_gather_62 ?_
          refine e_iload C dX2_gather_65 rfl ?_
          refine e_aload_n C dX2_gather_67 rfl ?_
          refine e_iload C dX2_gather_68 rfl ?_
          refine e_aaload3 C dX2_gather_70 sh_1 _ rfl (by omega) (hW 1 p _ (rt_page p hp).1) ?_
          refine e_getR C f_X2_67 (pSh_page (M := GM M f7 h) hW hp).1 (pSh_page (M := GM M f7 h) hW hp).2.2.2.2.2.2.2.1 dX2_gather_71 ?_
          refine e_iload C dX2_gather_74 rfl ?_
          refine e_iaload C dX2_gather_76 (pSh_page (M := GM M f7 h) hW hp).2.2.2.1 _ rfl (by omega) ?_
          rw [GM_n _ (by omega), show mI M (38 + 5 * p + 3) j = ((pgC M).2 p).2.1 j from rfl]
          refine e_callS C (c_put (M := wrI M 17 f7) (ra := 18) (n := n) (f := h) (v := ((pgC M).2 p).2.1 j) rfl (by omega) i4 hbj.2.1 i8) mt_X2_putByRising s_X2_63 dX2_gather_77 (fun r8 M8 hq8 => ?_)
          obtain ⟨h8, rfl, hM8, s8, c8, g8⟩ := hq8
          subst M8
          dsimp only [Option.toList_none, List.nil_append]
          refine e_iinc C dX2_gather_80 rfl ?_
          refine e_iinc C dX2_gather_83 rfl ?_
          refine e_goto C (tgt := 6) dX2_gather_86 (by decide) ?_
          refine ih (n + 1, f7, h8, _) ⟨?_, by dsimp only; omega, s7, s8, fun t => ?_, fun t => ?_, g7, g8⟩
          · dsimp only; simp only [sg]; rw [show b01 (onK (pgC M) T k c p = true) = 1 from if_pos hon]; omega
          · dsimp only; simp only [sg]; rw [c7, i5, b01_and hon, x3, Int.toNat_natCast]
          · dsimp only; simp only [sg]; rw [c8, i6, b01_and hon, x3, Int.toNat_natCast]
  show pE g 8 X _ SH M 0 0 0 [some (.inr (.inr 15)), some (.inl c), some (.inl k), some (.inr (.inr 1)), some (.inr (.inr ta)), none, none, none] []
  refine e_iconst C dX2_gather_0 ?_
  refine e_istore C dX2_gather_1 ?_
  refine e_iconst C dX2_gather_3 ?_
  refine e_istore C dX2_gather_4 ?_
  exact pE_M (GM_e M) (loop 0 (0, mI M 17, mI M 18, none) (by omega) ⟨rfl, Nat.le_refl _, fun i j _ hj => absurd hj (Nat.not_lt_zero j), fun i j _ hj => absurd hj (Nat.not_lt_zero j), fun t => rfl, fun t => rfl, fun i hi => absurd hi (Nat.not_lt_zero i), fun i hi => absurd hi (Nat.not_lt_zero i)⟩)
