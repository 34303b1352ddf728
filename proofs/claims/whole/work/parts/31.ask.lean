/-! ===== the class's questions ===== -/
theorem ite0 {P : Prop} [Decidable P] : (if P then (1 : Int) else 0) = 0 ↔ ¬ P := by by_cases h : P <;> simp [h]
theorem ite1 {P : Prop} [Decidable P] : (if P then (1 : Int) else 0) ≠ 0 ↔ P := by by_cases h : P <;> simp [h]
abbrev isP (M : pMem) (p : Int) : Prop := 0 ≤ p ∧ p < mI M 0 12
abbrev hasK (M : pMem) (k : Int) : Prop := 0 ≤ k ∧ k < 5 ∧ 0 < mI M (118 + 7 * k.toNat) 2
theorem JC_kr {M : pMem} (hJ : JC M) : ∀ j, j < 5 → 0 ≤ mI M (118 + 7 * j) 2 ∧ mI M (118 + 7 * j) 2 ≤ 16 := fun j hj => (hJ.2.2.2.2.2.2.2.2.1 j hj).1.2.2.2.1
theorem JC_br {M : pMem} (hJ : JC M) : ∀ j, j < 16 → 0 ≤ mI M (38 + 5 * j) 4 ∧ mI M (38 + 5 * j) 4 ≤ 8 := fun j hj => by
  have h1 := hJ.2.1.1 j hj
  have h2 := (hJ.2.1.2.1 j hj).1
  omega
theorem isP_n {M : pMem} (hJ : JC M) {p : Int} (h : isP M p) : ∃ q : Nat, p = (q : Int) ∧ q < 16 ∧ (q : Int) < mI M 0 12 := by
  obtain ⟨q, rfl⟩ := Int.eq_ofNat_of_zero_le h.1
  have := h.2
  have := hJ.2.2.2.1
  exact ⟨q, rfl, by omega, by omega⟩
theorem hasK_n {M : pMem} {k : Int} (h : hasK M k) : ∃ q : Nat, k = (q : Int) ∧ q < 5 ∧ 0 < mI M (118 + 7 * q) 2 := by
  obtain ⟨q, rfl⟩ := Int.eq_ofNat_of_zero_le h.1
  have := h.2.1
  exact ⟨q, rfl, by omega, by have := h.2.2; rw [Int.toNat_natCast] at this; exact this⟩
theorem ck_r {M : pMem} (hJ : JC M) {k p : Nat} {v : Int} (hk : k < 5) (hp : p < 16) (h : ckOk M (118 + 7 * k) p v) : 0 ≤ v ∧ v ≤ 5000000000000000 := by
  have h9 := (hJ.2.2.2.2.2.2.2.2.1 k hk).1
  exact isKey_r hJ.2.2.1 (hJ.2.1.2.1 p hp).2 h9.2.2.1 (hJ.2.1.2.1 p hp).1 h9.2.1 h
theorem c_layK {g : pG} {M : pMem} {k p : Nat} (hJ : JC M) (hk : k < 5) (hp : p < 16) :
    pCn g 5 0 0 yX5_laying cX5_laying 3 (some .long) SH SH M [.inr (.inr 0), .inl (p : Int), .inr (.inr (118 + 7 * k))] (fun r M' => r = some (.inr (.inl (ckF M (118 + 7 * k) p))) ∧ ckOk M (118 + 7 * k) p (ckF M (118 + 7 * k) p) ∧ cch M M') :=
  pCn_weak (c_laying hJ.1 hJ.2.1 hJ.2.2.1 hp (kaK_k hk) (hJ.2.2.2.2.2.2.2.2.1 k hk).1) (fun r M' ⟨K, h1, h2, h3, _⟩ => by
    have e := ckF_e h2
    exact ⟨by rw [e]; exact h1, by rw [e]; exact h2, h3⟩)
theorem c_kind {g : pG} {M : pMem}  {k : Int} {w : Int} (hi_k : -2147483648 ≤ k ∧ k < 2147483648) (hi_w : -2147483648 ≤ w ∧ w < 2147483648) (hJ : JC M) : pCn g 2 0 0 yX5_kind cX5_kind 3 (some .int) SH SH M [.inr (.inr 0), .inl k, .inl w] (fun r M' => r = some (.inl (if 0 ≤ k ∧ k < 5 then (if w = 0 then mI M (118 + 7 * k.toNat) 2 else if w = 1 then mI M (118 + 7 * k.toNat + 1) 4 else -1) else -1)) ∧ M' = M) := by
  refine pCn_intro mt_X5_kind (fun X C => ?_)
  have hW := hJ.1
  have hn := hJ.2.2.2.1
  have hkr := JC_kr hJ
  have hbr := JC_br hJ
  show pE g 3 X _ SH M 0 0 0 [some (.inr (.inr 0)), some (.inl k), some (.inl w)] []
  refine e_iload_n C dX5_kind_0 rfl ?_
  refine e_callS C (c_isKind hi_k) mt_X5_isKind s_X5_129 dX5_kind_1 (fun r M1 hq => ?_)
  obtain ⟨rfl, hM⟩ := hq
  subst M1
  dsimp only [Option.toList_some, List.singleton_append]
  refine e_if_ne C (tgt := 9) dX5_kind_4 (by decide) (by split <;> omega) (fun h_4 => ?_) (fun h_4 => ?_)
  · have hk5 := ite1.mp h_4
    obtain ⟨j, rfl⟩ := Int.eq_ofNat_of_zero_le hk5.1
    have hj : j < 5 := by omega
    obtain ⟨k1, k2, k3, k4, k5⟩ := (hJ.2.2.2.2.2.2.2.2.1 j hj).1
    have k1 : mI M (118 + 7 * j + 1) 4 = ((nSp M (118 + 7 * j) : Nat) : Int) := k1
    rw [Int.toNat_natCast]
    refine e_iload_n C dX5_kind_9 rfl ?_
    by_cases w0 : w = 0
    · subst w0
      refine e_lookup C (off := 26) (tgt := 36) dX5_kind_10 (by omega) (by decide) (by decide) (by decide) ?_
      refine e_aload_n C dX5_kind_36 rfl ?_
      refine e_getR C f_X5_21 sh_0 (hW 0 2 3 rfl) dX5_kind_37 ?_
      refine e_iload_n C dX5_kind_40 rfl ?_
      refine e_aaload4 C dX5_kind_41 sh_3 _ rfl (by omega) (hW 3 j _ (rt_kind j hj).1) ?_
      refine e_getI C f_X5_132 (pKd_kind hW hj).1 dX5_kind_42 ?_
      exact e_ireturn C dX5_kind_45 ⟨by rw [if_pos (by omega), if_pos rfl], rfl⟩
    · by_cases w1 : w = 1
      · subst w1
        refine e_lookup C (off := 36) (tgt := 46) dX5_kind_10 (by omega) (by decide) (by decide) (by decide) ?_
        refine e_aload_n C dX5_kind_46 rfl ?_
        refine e_getR C f_X5_21 sh_0 (hW 0 2 3 rfl) dX5_kind_47 ?_
        refine e_iload_n C dX5_kind_50 rfl ?_
        refine e_aaload4 C dX5_kind_51 sh_3 _ rfl (by omega) (hW 3 j _ (rt_kind j hj).1) ?_
        refine e_getR C f_X5_133 (pKd_kind hW hj).1 (pKd_kind hW hj).2.1 dX5_kind_52 ?_
        refine e_getI C f_X5_93 (pKd_kind hW hj).2.2.1.1 dX5_kind_55 ?_
        exact e_ireturn C dX5_kind_58 ⟨by rw [if_pos (by omega), if_neg (by decide), if_pos rfl], rfl⟩
      · refine e_lookup C (off := 49) (tgt := 59) dX5_kind_10 (by omega) (by decide) (by simp [Op.lookupswitch.offset, w0, w1, Ne.symm w0, Ne.symm w1, fun e : (0 : Int) = w => w0 e.symm, fun e : (1 : Int) = w => w1 e.symm]) (by decide) ?_
        refine e_iconst C dX5_kind_59 ?_
        exact e_ireturn C dX5_kind_60 ⟨by rw [if_pos (by omega), if_neg w0, if_neg w1], rfl⟩
  · have hk5 := fun q => h_4 (ite1.mpr q)
    refine e_iconst C dX5_kind_7 ?_
    exact e_ireturn C dX5_kind_8 ⟨by rw [if_neg hk5], rfl⟩
theorem c_spot {g : pG} {M : pMem}  {k : Int} {i : Int} {w : Int} (hi_k : -2147483648 ≤ k ∧ k < 2147483648) (hi_i : -2147483648 ≤ i ∧ i < 2147483648) (hi_w : -2147483648 ≤ w ∧ w < 2147483648) (hJ : JC M) : pCn g 2 0 0 yX5_spot cX5_spot 5 (some .int) SH SH M [.inr (.inr 0), .inl k, .inl i, .inl w] (fun r M' => r = some (.inl (if (0 ≤ k ∧ k < 5) ∧ 0 ≤ i ∧ i ≤ mI M (118 + 7 * k.toNat + 1) 4 - 1 then (if w = 0 then mI M (118 + 7 * k.toNat + 1 + 1) i.toNat else if w = 1 then mI M (118 + 7 * k.toNat + 1 + 2) i.toNat else if w = 2 then mI M (118 + 7 * k.toNat + 1 + 3) i.toNat else if w = 3 then mI M (118 + 7 * k.toNat + 1 + 4) i.toNat else -1) else -1)) ∧ M' = M) := by
  refine pCn_intro mt_X5_spot (fun X C => ?_)
  have hW := hJ.1
  have hn := hJ.2.2.2.1
  have hkr := JC_kr hJ
  have hbr := JC_br hJ
  show pE g 5 X _ SH M 0 0 0 [some (.inr (.inr 0)), some (.inl k), some (.inl i), some (.inl w), none] []
  refine e_iload_n C dX5_spot_0 rfl ?_
  refine e_callS C (c_isKind hi_k) mt_X5_isKind s_X5_129 dX5_spot_1 (fun r M1 hq => ?_)
  obtain ⟨rfl, hM⟩ := hq
  subst M1
  dsimp only [Option.toList_some, List.singleton_append]
  refine e_if_eq C (tgt := 29) dX5_spot_4 (by decide) (by split <;> omega) (fun h_4 => ?_) (fun h_4 => ?_)
  · have hk5 := ite0.mp h_4
    refine e_iconst C dX5_spot_29 ?_
    exact e_ireturn C dX5_spot_30 ⟨by rw [if_neg (by omega)], rfl⟩
  · have hk5 := ite1.mp h_4
    obtain ⟨j, rfl⟩ := Int.eq_ofNat_of_zero_le hk5.1
    have hj : j < 5 := by omega
    obtain ⟨k1, k2, k3, k4, k5⟩ := (hJ.2.2.2.2.2.2.2.2.1 j hj).1
    have k1 : mI M (118 + 7 * j + 1) 4 = ((nSp M (118 + 7 * j) : Nat) : Int) := k1
    rw [Int.toNat_natCast]
    refine e_iload_n C dX5_spot_7 rfl ?_
    refine e_iconst C dX5_spot_8 ?_
    refine e_aload_n C dX5_spot_9 rfl ?_
    refine e_getR C f_X5_21 sh_0 (hW 0 2 3 rfl) dX5_spot_10 ?_
    refine e_iload_n C dX5_spot_13 rfl ?_
    refine e_aaload4 C dX5_spot_14 sh_3 _ rfl (by omega) (hW 3 j _ (rt_kind j hj).1) ?_
    refine e_getR C f_X5_133 (pKd_kind hW hj).1 (pKd_kind hW hj).2.1 dX5_spot_15 ?_
    refine e_getI C f_X5_93 (pKd_kind hW hj).2.2.1.1 dX5_spot_18 ?_
    rw [k1]
    refine e_iconst C dX5_spot_21 ?_
    refine e_isub C dX5_spot_22 ?_
    refine e_callS C (c_isIn (v := i) (a := 0) (b := ((nSp M (118 + 7 * j) : Nat) : Int) - 1) (by omega) (by omega) (by omega)) mt_X5_isIn s_X5_89 dX5_spot_23 (fun r2 M2 hq2 => ?_)
    obtain ⟨rfl, hM2⟩ := hq2
    subst M2
    dsimp only [Option.toList_some, List.singleton_append]
    refine e_if_ne C (tgt := 31) dX5_spot_26 (by decide) (by split <;> omega) (fun h_26 => ?_) (fun h_26 => ?_)
    · have hi5 := ite1.mp h_26
      obtain ⟨ii, rfl⟩ := Int.eq_ofNat_of_zero_le hi5.1
      have hii : ii < nSp M (118 + 7 * j) := by omega
      obtain ⟨s1, s2, s3, s4⟩ := k3 ii hii
      refine e_aload_n C dX5_spot_31 rfl ?_
      refine e_getR C f_X5_21 sh_0 (hW 0 2 3 rfl) dX5_spot_32 ?_
      refine e_iload_n C dX5_spot_35 rfl ?_
      refine e_aaload4 C dX5_spot_36 sh_3 _ rfl (by omega) (hW 3 j _ (rt_kind j hj).1) ?_
      refine e_getR C f_X5_133 (pKd_kind hW hj).1 (pKd_kind hW hj).2.1 dX5_spot_37 ?_
      refine e_astore C dX5_spot_40 ?_
      refine e_iload_n C dX5_spot_42 rfl ?_
      have hw4 : w = 0 ∨ w = 1 ∨ w = 2 ∨ w = 3 ∨ (w < 0 ∨ 3 < w) := by omega
      rcases hw4 with rfl | rfl | rfl | rfl | hw
      · refine e_tabIn C (x := 0) (off := 29) (tgt := 72) dX5_spot_43 (by decide) (by decide) (by decide) (by decide) (by decide) ?_
        refine e_aload C dX5_spot_72 rfl ?_
        refine e_getR C f_X5_137 (pKd_kind hW hj).2.2.1.1 (pKd_kind hW hj).2.2.1.2.2.2.2.2.1 dX5_spot_74 ?_
        refine e_iload_n C dX5_spot_77 rfl ?_
        refine e_iaload C dX5_spot_78 (pKd_kind hW hj).2.2.1.2.1 _ rfl (by omega) ?_
        exact e_ireturn C dX5_spot_79 ⟨by rw [if_pos (by omega), if_pos rfl]; rfl, rfl⟩
      · refine e_tabIn C (x := 1) (off := 37) (tgt := 80) dX5_spot_43 (by decide) (by decide) (by decide) (by decide) (by decide) ?_
        refine e_aload C dX5_spot_80 rfl ?_
        refine e_getR C f_X5_140 (pKd_kind hW hj).2.2.1.1 (pKd_kind hW hj).2.2.1.2.2.2.2.2.2.1 dX5_spot_82 ?_
        refine e_iload_n C dX5_spot_85 rfl ?_
        refine e_iaload C dX5_spot_86 (pKd_kind hW hj).2.2.1.2.2.1 _ rfl (by omega) ?_
        exact e_ireturn C dX5_spot_87 ⟨by rw [if_pos (by omega), if_neg (by decide), if_pos rfl]; rfl, rfl⟩
      · refine e_tabIn C (x := 2) (off := 45) (tgt := 88) dX5_spot_43 (by decide) (by decide) (by decide) (by decide) (by decide) ?_
        refine e_aload C dX5_spot_88 rfl ?_
        refine e_getR C f_X5_143 (pKd_kind hW hj).2.2.1.1 (pKd_kind hW hj).2.2.1.2.2.2.2.2.2.2.1 dX5_spot_90 ?_
        refine e_iload_n C dX5_spot_93 rfl ?_
        refine e_iaload C dX5_spot_94 (pKd_kind hW hj).2.2.1.2.2.2.1 _ rfl (by omega) ?_
        exact e_ireturn C dX5_spot_95 ⟨by rw [if_pos (by omega), if_neg (by decide), if_neg (by decide), if_pos rfl]; rfl, rfl⟩
      · refine e_tabIn C (x := 3) (off := 53) (tgt := 96) dX5_spot_43 (by decide) (by decide) (by decide) (by decide) (by decide) ?_
        have s4 : mI M (118 + 7 * j + 1 + 4) ii = 0 ∨ mI M (118 + 7 * j + 1 + 4) ii = 1 := s4
        refine e_aload C dX5_spot_96 rfl ?_
        refine e_getR C f_X5_146 (pKd_kind hW hj).2.2.1.1 (pKd_kind hW hj).2.2.1.2.2.2.2.2.2.2.2 dX5_spot_98 ?_
        refine e_iload_n C dX5_spot_101 rfl ?_
        refine e_baload C dX5_spot_102 (pKd_kind hW hj).2.2.1.2.2.2.2.1 _ rfl (by omega) ?_
        refine e_if_eq C (tgt := 110) dX5_spot_103 (by decide) (by omega) (fun h_103 => ?_) (fun h_103 => ?_)
        · refine e_iconst C dX5_spot_110 ?_
          exact e_ireturn C dX5_spot_111 ⟨by rw [if_pos (by omega), if_neg (by decide), if_neg (by decide), if_neg (by decide), if_pos rfl, Int.toNat_natCast]; congr 2; omega, rfl⟩
        · refine e_iconst C dX5_spot_106 ?_
          refine e_goto C (tgt := 111) dX5_spot_107 (by decide) ?_
          exact e_ireturn C dX5_spot_111 ⟨by rw [if_pos (by omega), if_neg (by decide), if_neg (by decide), if_neg (by decide), if_pos rfl, Int.toNat_natCast]; congr 2; omega, rfl⟩
      · refine e_tabOut C (tgt := 112) dX5_spot_43 (by omega) hw (by decide) ?_
        refine e_iconst C dX5_spot_112 ?_
        exact e_ireturn C dX5_spot_113 ⟨by rw [if_pos (by omega), if_neg (by omega), if_neg (by omega), if_neg (by omega), if_neg (by omega)], rfl⟩
    · have hi5 := fun q => h_26 (ite1.mpr q)
      refine e_iconst C dX5_spot_29 ?_
      exact e_ireturn C dX5_spot_30 ⟨by rw [if_neg (by omega)], rfl⟩
def dgF (K : Int) (b : Nat) : Int := if K / 17 ^ (7 - b) % 17 = 16 then -1 else K / 17 ^ (7 - b) % 17
theorem c_lay {g : pG} {M : pMem}  {p : Int} {k : Int} {w : Int} (hi_p : -2147483648 ≤ p ∧ p < 2147483648) (hi_k : -2147483648 ≤ k ∧ k < 2147483648) (hi_w : -2147483648 ≤ w ∧ w < 2147483648) (hJ : JC M) : pCn g 6 0 0 yX5_lay cX5_lay 4 (some .int) SH SH M [.inr (.inr 0), .inl p, .inl k, .inl w] (fun r M' => r = some (.inl (if isP M p ∧ hasK M k then (if w = 0 then ckF M (118 + 7 * k.toNat) p.toNat / 341812114609 else if 10 ≤ w ∧ w - 10 < mI M (38 + 5 * p.toNat) 4 then dgF (ckF M (118 + 7 * k.toNat) p.toNat) (w - 10).toNat else -1) else -1)) ∧ cch M M') := by
  refine pCn_intro mt_X5_lay (fun X C => ?_)
  have hW := hJ.1
  have hn := hJ.2.2.2.1
  have hkr := JC_kr hJ
  have hbr := JC_br hJ
  show pE g 4 X _ SH M 0 0 0 [some (.inr (.inr 0)), some (.inl p), some (.inl k), some (.inl w)] []
  refine e_aload_n C dX5_lay_0 rfl ?_
  refine e_iload_n C dX5_lay_1 rfl ?_
  refine e_callV C (c_isPage hi_p (by omega)) mt_X5_isPage s_X5_85 dX5_lay_2 5 sh_0 rfl (fun r M1 hq => ?_)
  obtain ⟨rfl, hM⟩ := hq
  subst M1
  dsimp only [Option.toList_some, List.singleton_append]
  refine e_if_eq C (tgt := 16) dX5_lay_5 (by decide) (by split <;> omega) (fun h_5 => ?_) (fun h_5 => ?_)
  · have hpp := ite0.mp h_5
    refine e_iconst C dX5_lay_16 ?_
    exact e_ireturn C dX5_lay_17 ⟨by rw [if_neg (fun z => by first | exact hpp z.1 | exact hkk z.2)], cch_rf M⟩
  · have hpp := ite1.mp h_5
    obtain ⟨q, rfl, hq, hq2⟩ := isP_n hJ hpp
    refine e_aload_n C dX5_lay_8 rfl ?_
    refine e_iload_n C dX5_lay_9 rfl ?_
    refine e_callV C (c_hasPages hi_k hW hkr) mt_X5_hasPages s_X5_150 dX5_lay_10 5 sh_0 rfl (fun rh Mh hqh => ?_)
    obtain ⟨rfl, hMh⟩ := hqh
    subst Mh
    dsimp only [Option.toList_some, List.singleton_append]
    refine e_if_ne C (tgt := 18) dX5_lay_13 (by decide) (by split <;> omega) (fun h_13 => ?_) (fun h_13 => ?_)
    · have hkk := ite1.mp h_13
      obtain ⟨j, rfl, hj, hj2⟩ := hasK_n hkk
      refine e_iload_n C dX5_lay_18 rfl ?_
      refine e_if_ne C (tgt := 37) dX5_lay_19 (by decide) (by omega) (fun h_19 => ?_) (fun h_19 => ?_)
      · refine e_iload_n C dX5_lay_37 rfl ?_
        refine e_bipush C dX5_lay_38 ?_
        refine e_icmp_lt C (tgt := 59) dX5_lay_40 (by decide) (by omega) (by omega) (fun h_40 => ?_) (fun h_40 => ?_)
        · refine e_iconst C dX5_lay_59 ?_
          exact e_ireturn C dX5_lay_60 ⟨by rw [if_pos ⟨hpp, hkk⟩, if_neg (by omega), if_neg (by rw [Int.toNat_natCast]; omega)], cch_rf M⟩
        · refine e_iload_n C dX5_lay_43 rfl ?_
          refine e_bipush C dX5_lay_44 ?_
          refine e_isub C dX5_lay_46 ?_
          refine e_aload_n C dX5_lay_47 rfl ?_
          refine e_getR C f_X5_11 sh_0 (hW 0 0 1 rfl) dX5_lay_48 ?_
          refine e_iload_n C dX5_lay_51 rfl ?_
          refine e_aaload3 C dX5_lay_52 sh_1 _ rfl (by omega) (hW 1 q _ (rt_page q hq).1) ?_
          refine e_getI C f_X5_93 (pSh_page hW hq).1 dX5_lay_53 ?_
          have hbq0 := hbr q hq
          refine e_icmp_lt C (tgt := 61) dX5_lay_56 (by decide) (by omega) (by omega) (fun h_56 => ?_) (fun h_56 => ?_)
          · have hbq := hbr q hq
            obtain ⟨bb, hbb⟩ : ∃ bb : Nat, w - 10 = (bb : Int) := ⟨(w - 10).toNat, by omega⟩
            refine e_aload_n C dX5_lay_61 rfl ?_
            refine e_iload_n C dX5_lay_62 rfl ?_
            refine e_aload_n C dX5_lay_63 rfl ?_
            refine e_getR C f_X5_21 sh_0 (hW 0 2 3 rfl) dX5_lay_64 ?_
            refine e_iload_n C dX5_lay_67 rfl ?_
            refine e_aaload4 C dX5_lay_68 sh_3 _ rfl (by omega) (hW 3 j _ (rt_kind j hj).1) ?_
            refine e_callV C (c_layK (M := M) (k := j) (p := q) hJ hj hq) mt_X5_laying s_X5_153 dX5_lay_69 5 sh_0 rfl (fun rl Ml hql => ?_)
            obtain ⟨rfl, hck, hcc⟩ := hql
            dsimp only [Option.toList_some, List.singleton_append]
            have hKr := ck_r hJ hj hq hck
            refine e_iload_n C dX5_lay_72 rfl ?_
            refine e_bipush C dX5_lay_73 ?_
            refine e_isub C dX5_lay_75 ?_
            rw [hbb]
            refine e_callS C (c_spotIn (b := bb) (by omega) (by omega)) mt_X5_spotIn s_X5_161 dX5_lay_76 (fun rc Mc hqc => ?_)
            obtain ⟨rfl, hMc⟩ := hqc
            subst Mc
            dsimp only [Option.toList_some, List.singleton_append]
            exact e_ireturn C dX5_lay_79 ⟨by show some (Sum.inl (dgF (ckF M (118 + 7 * j) q) bb)) = _; rw [if_pos ⟨hpp, hkk⟩, if_neg (by omega), if_pos (by rw [Int.toNat_natCast]; omega)]; rfl, hcc⟩
          · refine e_iconst C dX5_lay_59 ?_
            exact e_ireturn C dX5_lay_60 ⟨by rw [if_pos ⟨hpp, hkk⟩, if_neg (by omega), if_neg (by rw [Int.toNat_natCast]; omega)], cch_rf M⟩
      · refine e_aload_n C dX5_lay_22 rfl ?_
        refine e_iload_n C dX5_lay_23 rfl ?_
        refine e_aload_n C dX5_lay_24 rfl ?_
        refine e_getR C f_X5_21 sh_0 (hW 0 2 3 rfl) dX5_lay_25 ?_
        refine e_iload_n C dX5_lay_28 rfl ?_
        refine e_aaload4 C dX5_lay_29 sh_3 _ rfl (by omega) (hW 3 j _ (rt_kind j hj).1) ?_
        refine e_callV C (c_layK (M := M) (k := j) (p := q) hJ hj hq) mt_X5_laying s_X5_153 dX5_lay_30 5 sh_0 rfl (fun rl Ml hql => ?_)
        obtain ⟨rfl, hck, hcc⟩ := hql
        dsimp only [Option.toList_some, List.singleton_append]
        have hKr := ck_r hJ hj hq hck
        refine e_callS C (c_costIn (by omega)) mt_X5_costIn s_X5_157 dX5_lay_33 (fun rc Mc hqc => ?_)
        obtain ⟨rfl, hMc⟩ := hqc
        subst Mc
        dsimp only [Option.toList_some, List.singleton_append]
        exact e_ireturn C dX5_lay_36 ⟨by rw [if_pos ⟨hpp, hkk⟩, if_pos (by omega)]; rfl, hcc⟩
    · have hkk := fun z => h_13 (ite1.mpr z)
      refine e_iconst C dX5_lay_16 ?_
      exact e_ireturn C dX5_lay_17 ⟨by rw [if_neg (fun z => by first | exact hpp z.1 | exact hkk z.2)], cch_rf M⟩
theorem c_moved {g : pG} {M : pMem}  {p : Int} {k : Int} {y : Int} (hi_p : -2147483648 ≤ p ∧ p < 2147483648) (hi_k : -2147483648 ≤ k ∧ k < 2147483648) (hi_y : -2147483648 ≤ y ∧ y < 2147483648) (hJ : JC M) : pCn g 6 0 0 yX5_moved cX5_moved 5 (some .int) SH SH M [.inr (.inr 0), .inl p, .inl k, .inl y] (fun r M' => r = some (.inl (if isP M p ∧ hasK M k then (if y = 0 then ckF M (118 + 7 * k.toNat) p.toNat / 6975757441 % 49 / 7 - 3 else ckF M (118 + 7 * k.toNat) p.toNat / 6975757441 % 49 % 7 - 3) else -10)) ∧ cch M M') := by
  refine pCn_intro mt_X5_moved (fun X C => ?_)
  have hW := hJ.1
  have hn := hJ.2.2.2.1
  have hkr := JC_kr hJ
  have hbr := JC_br hJ
  show pE g 5 X _ SH M 0 0 0 [some (.inr (.inr 0)), some (.inl p), some (.inl k), some (.inl y), none] []
  refine e_aload_n C dX5_moved_0 rfl ?_
  refine e_iload_n C dX5_moved_1 rfl ?_
  refine e_callV C (c_isPage hi_p (by omega)) mt_X5_isPage s_X5_85 dX5_moved_2 5 sh_0 rfl (fun r M1 hq => ?_)
  obtain ⟨rfl, hM⟩ := hq
  subst M1
  dsimp only [Option.toList_some, List.singleton_append]
  refine e_if_eq C (tgt := 16) dX5_moved_5 (by decide) (by split <;> omega) (fun h_5 => ?_) (fun h_5 => ?_)
  · have hpp := ite0.mp h_5
    refine e_bipush C dX5_moved_16 ?_
    exact e_ireturn C dX5_moved_18 ⟨by rw [if_neg (fun z => by first | exact hpp z.1 | exact hkk z.2)], cch_rf M⟩
  · have hpp := ite1.mp h_5
    obtain ⟨q, rfl, hq, hq2⟩ := isP_n hJ hpp
    refine e_aload_n C dX5_moved_8 rfl ?_
    refine e_iload_n C dX5_moved_9 rfl ?_
    refine e_callV C (c_hasPages hi_k hW hkr) mt_X5_hasPages s_X5_150 dX5_moved_10 5 sh_0 rfl (fun rh Mh hqh => ?_)
    obtain ⟨rfl, hMh⟩ := hqh
    subst Mh
    dsimp only [Option.toList_some, List.singleton_append]
    refine e_if_ne C (tgt := 19) dX5_moved_13 (by decide) (by split <;> omega) (fun h_13 => ?_) (fun h_13 => ?_)
    · have hkk := ite1.mp h_13
      obtain ⟨j, rfl, hj, hj2⟩ := hasK_n hkk
      refine e_aload_n C dX5_moved_19 rfl ?_
      refine e_iload_n C dX5_moved_20 rfl ?_
      refine e_aload_n C dX5_moved_21 rfl ?_
      refine e_getR C f_X5_21 sh_0 (hW 0 2 3 rfl) dX5_moved_22 ?_
      refine e_iload_n C dX5_moved_25 rfl ?_
      refine e_aaload4 C dX5_moved_26 sh_3 _ rfl (by omega) (hW 3 j _ (rt_kind j hj).1) ?_
      refine e_callV C (c_layK (M := M) (k := j) (p := q) hJ hj hq) mt_X5_laying s_X5_153 dX5_moved_27 5 sh_0 rfl (fun rl Ml hql => ?_)
      obtain ⟨rfl, hck, hcc⟩ := hql
      dsimp only [Option.toList_some, List.singleton_append]
      have hKr := ck_r hJ hj hq hck
      refine e_callS C (c_moveIn (by omega)) mt_X5_moveIn s_X5_165 dX5_moved_30 (fun rc Mc hqc => ?_)
      obtain ⟨rfl, hMc⟩ := hqc
      subst Mc
      dsimp only [Option.toList_some, List.singleton_append]
      refine e_istore C dX5_moved_33 ?_
      refine e_iload_n C dX5_moved_35 rfl ?_
      refine e_if_eq C (tgt := 47) dX5_moved_36 (by decide) (by omega) (fun h_36 => ?_) (fun h_36 => ?_)
      · refine e_iload C dX5_moved_47 rfl ?_
        refine e_callS C (c_acrossOf (by omega)) mt_X5_acrossOf s_X5_171 dX5_moved_49 (fun rd Md hqd => ?_)
        obtain ⟨rfl, hMd⟩ := hqd
        subst Md
        dsimp only [Option.toList_some, List.singleton_append]
        first | exact e_ireturn C dX5_moved_52 ⟨by rw [if_pos ⟨hpp, hkk⟩, if_pos (by omega)]; rfl, hcc⟩ | exact e_ireturn C dX5_moved_52 ⟨by rw [if_pos ⟨hpp, hkk⟩, if_neg (by omega)]; rfl, hcc⟩
      · refine e_iload C dX5_moved_39 rfl ?_
        refine e_callS C (c_downOf (by omega)) mt_X5_downOf s_X5_168 dX5_moved_41 (fun rd Md hqd => ?_)
        obtain ⟨rfl, hMd⟩ := hqd
        subst Md
        dsimp only [Option.toList_some, List.singleton_append]
        refine e_goto C (tgt := 52) dX5_moved_44 (by decide) ?_
        first | exact e_ireturn C dX5_moved_52 ⟨by rw [if_pos ⟨hpp, hkk⟩, if_pos (by omega)]; rfl, hcc⟩ | exact e_ireturn C dX5_moved_52 ⟨by rw [if_pos ⟨hpp, hkk⟩, if_neg (by omega)]; rfl, hcc⟩
    · have hkk := fun z => h_13 (ite1.mpr z)
      refine e_bipush C dX5_moved_16 ?_
      exact e_ireturn C dX5_moved_18 ⟨by rw [if_neg (fun z => by first | exact hpp z.1 | exact hkk z.2)], cch_rf M⟩
theorem c_sorted {g : pG} {M : pMem}  {p : Int} (hi_p : -2147483648 ≤ p ∧ p < 2147483648) (hJ : JC M) : pCn g 7 0 0 yX5_sorted cX5_sorted 2 (some .int) SH SH M [.inr (.inr 0), .inl p] (fun r M' => r = some (.inl (if isP M p then soM M p.toNat else -1)) ∧ cch M M') := by
  refine pCn_intro mt_X5_sorted (fun X C => ?_)
  have hW := hJ.1
  have hn := hJ.2.2.2.1
  have hkr := JC_kr hJ
  have hbr := JC_br hJ
  show pE g 2 X _ SH M 0 0 0 [some (.inr (.inr 0)), some (.inl p)] []
  refine e_aload_n C dX5_sorted_0 rfl ?_
  refine e_iload_n C dX5_sorted_1 rfl ?_
  refine e_callV C (c_isPage hi_p (by omega)) mt_X5_isPage s_X5_85 dX5_sorted_2 5 sh_0 rfl (fun r M1 hq => ?_)
  obtain ⟨rfl, hM⟩ := hq
  subst M1
  dsimp only [Option.toList_some, List.singleton_append]
  refine e_if_eq C (tgt := 20) dX5_sorted_5 (by decide) (by split <;> omega) (fun h_5 => ?_) (fun h_5 => ?_)
  · have hpp := ite0.mp h_5
    refine e_iconst C dX5_sorted_20 ?_
    first | exact e_ireturn C dX5_sorted_21 ⟨by rw [if_neg hpp], cch_rf M⟩ | exact e_ireturn C dX5_sorted_21 ⟨by rw [if_pos hpp]; rfl, hcc⟩
  · have hpp := ite1.mp h_5
    obtain ⟨q, rfl, hq, hq2⟩ := isP_n hJ hpp
    refine e_aload_n C dX5_sorted_8 rfl ?_
    refine e_iload_n C dX5_sorted_9 rfl ?_
    refine e_aload_n C dX5_sorted_10 rfl ?_
    refine e_getR C f_X5_21 sh_0 (hW 0 2 3 rfl) dX5_sorted_11 ?_
    refine e_callV C (c_rankK (M := M) (p := q) hJ hq) mt_X5_rank s_X5_174 dX5_sorted_14 5 sh_0 rfl (fun rc Mc hqc => ?_)
    obtain ⟨rfl, hrk, hcc, hsm⟩ := hqc
    dsimp only [Option.toList_some, List.singleton_append]
    refine e_goto C (tgt := 21) dX5_sorted_17 (by decide) ?_
    first | exact e_ireturn C dX5_sorted_21 ⟨by rw [if_neg hpp], cch_rf M⟩ | exact e_ireturn C dX5_sorted_21 ⟨by rw [if_pos hpp]; rfl, hcc⟩
theorem c_told {g : pG} {M : pMem}  {p : Int} (hi_p : -2147483648 ≤ p ∧ p < 2147483648) (hJ : JC M) : pCn g 2 0 0 yX5_told cX5_told 2 (some .int) SH SH M [.inr (.inr 0), .inl p] (fun r M' => r = some (.inl (if isP M p then mI M 2 p.toNat else -1)) ∧ M' = M) := by
  refine pCn_intro mt_X5_told (fun X C => ?_)
  have hW := hJ.1
  have hn := hJ.2.2.2.1
  have hkr := JC_kr hJ
  have hbr := JC_br hJ
  show pE g 2 X _ SH M 0 0 0 [some (.inr (.inr 0)), some (.inl p)] []
  refine e_aload_n C dX5_told_0 rfl ?_
  refine e_iload_n C dX5_told_1 rfl ?_
  refine e_callV C (c_isPage hi_p (by omega)) mt_X5_isPage s_X5_85 dX5_told_2 5 sh_0 rfl (fun r M1 hq => ?_)
  obtain ⟨rfl, hM⟩ := hq
  subst M1
  dsimp only [Option.toList_some, List.singleton_append]
  refine e_if_eq C (tgt := 17) dX5_told_5 (by decide) (by split <;> omega) (fun h_5 => ?_) (fun h_5 => ?_)
  · have hpp := ite0.mp h_5
    refine e_iconst C dX5_told_17 ?_
    first | exact e_ireturn C dX5_told_18 ⟨by rw [if_neg hpp], rfl⟩ | exact e_ireturn C dX5_told_18 ⟨by rw [if_pos hpp]; rfl, rfl⟩
  · have hpp := ite1.mp h_5
    obtain ⟨q, rfl, hq, hq2⟩ := isP_n hJ hpp
    refine e_aload_n C dX5_told_8 rfl ?_
    refine e_getR C f_X5_15 sh_0 (hW 0 1 2 rfl) dX5_told_9 ?_
    refine e_iload_n C dX5_told_12 rfl ?_
    refine e_iaload C dX5_told_13 sh_2 _ rfl (by omega) ?_
    refine e_goto C (tgt := 18) dX5_told_14 (by decide) ?_
    first | exact e_ireturn C dX5_told_18 ⟨by rw [if_neg hpp], rfl⟩ | exact e_ireturn C dX5_told_18 ⟨by rw [if_pos hpp]; rfl, rfl⟩
