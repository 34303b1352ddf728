/-! ===== the class's questions ===== -/
theorem ite0 {P : Prop} [Decidable P] : (if P then (1 : Int) else 0) = 0 ↔ ¬ P := by by_cases h : P <;> simp [h]
theorem ite1 {P : Prop} [Decidable P] : (if P then (1 : Int) else 0) ≠ 0 ↔ P := by by_cases h : P <;> simp [h]
def isP (M : pMem) (p : Int) : Prop := 0 ≤ p ∧ p < mI M 0 12
def hasK (M : pMem) (k : Int) : Prop := 0 ≤ k ∧ k < 5 ∧ 0 < mI M (118 + 7 * k.toNat) 2
theorem JC_kr {M : pMem} (hJ : JC M) : ∀ j, j < 5 → 0 ≤ mI M (118 + 7 * j) 2 ∧ mI M (118 + 7 * j) 2 ≤ 16 := fun j hj => (hJ.2.2.2.2.2.2.2.2.1 j hj).1.2.2.2.1
theorem JC_br {M : pMem} (hJ : JC M) : ∀ j, j < 16 → 0 ≤ mI M (38 + 5 * j) 4 ∧ mI M (38 + 5 * j) 4 ≤ 8 := fun j hj => by
  have h1 := hJ.2.1.1 j hj
  have h2 := (hJ.2.1.2.1 j hj).1
  omega
theorem isP_n {M : pMem} (hJ : JC M) {p : Int} (h : isP M p) : ∃ q : Nat, p = (q : Int) ∧ q < 16 ∧ (q : Int) < mI M 0 12 := by
  obtain ⟨q, rfl⟩ := Int.eq_ofNat_of_zero_le h.1
  have := h.2
  have := hJ.2.2.2.1
  exact ⟨q, rfl, by omega, by omega⟩
theorem hasK_n {M : pMem} {k : Int} (h : hasK M k) : ∃ q : Nat, k = (q : Int) ∧ q < 5 ∧ 0 < mI M (118 + 7 * q) 2 := by
  obtain ⟨q, rfl⟩ := Int.eq_ofNat_of_zero_le h.1
  have := h.2.1
  exact ⟨q, rfl, by omega, by have := h.2.2; rw [Int.toNat_natCast] at this; exact this⟩
theorem ck_r {M : pMem} (hJ : JC M) {k p : Nat} {v : Int} (hk : k < 5) (hp : p < 16) (h : ckOk M (118 + 7 * k) p v) : 0 ≤ v ∧ v ≤ 5000000000000000 := by
  have h9 := (hJ.2.2.2.2.2.2.2.2.1 k hk).1
  exact isKey_r hJ.2.2.1 (hJ.2.1.2.1 p hp).2 h9.2.2.1 (hJ.2.1.2.1 p hp).1 h9.2.1 h
theorem c_layK {g : pG} {M : pMem} {k p : Nat} (hJ : JC M) (hk : k < 5) (hp : p < 16) :
    pCn g 5 0 0 yX5_laying cX5_laying 3 (some .long) SH SH M [.inr (.inr 0), .inl (p : Int), .inr (.inr (118 + 7 * k))] (fun r M' => r = some (.inr (.inl (ckF M (118 + 7 * k) p))) ∧ ckOk M (118 + 7 * k) p (ckF M (118 + 7 * k) p) ∧ cch M M') :=
  pCn_weak (c_laying hJ.1 hJ.2.1 hJ.2.2.1 hp (kaK_k hk) (hJ.2.2.2.2.2.2.2.2.1 k hk).1) (fun r M' ⟨K, h1, h2, h3, _⟩ => by
    have e := ckF_e h2
    exact ⟨by rw [e]; exact h1, by rw [e]; exact h2, h3⟩)
theorem c_kind {g : pG} {M : pMem}  {k : Int} {w : Int} (hi_k : -2147483648 ≤ k ∧ k < 2147483648) (hi_w : -2147483648 ≤ w ∧ w < 2147483648) (hJ : JC M) : pCn g 2 0 0 yX5_kind cX5_kind 3 (some .int) SH SH M [.inr (.inr 0), .inl k, .inl w] (fun r M' => r = some (.inl (if 0 ≤ k ∧ k < 5 then (if w = 0 then mI M (118 + 7 * k.toNat) 2 else if w = 1 then mI M (118 + 7 * k.toNat + 1) 4 else -1) else -1)) ∧ M' = M) := by
  refine pCn_intro mt_X5_kind (fun X C => ?_)
  have hW := hJ.1
  have hn := hJ.2.2.2.1
  have hkr := JC_kr hJ
  have hbr := JC_br hJ
  show pE g 3 X _ SH M 0 0 0 [some (.inr (.inr 0)), some (.inl k), some (.inl w)] []
  refine e_iload_n C dX5_kind_0 rfl ?_
  refine e_callS C (c_isKind hi_k) mt_X5_isKind s_X5_129 dX5_kind_1 (fun r M1 hq => ?_)
  obtain ⟨rfl, hM⟩ := hq
  subst M1
  dsimp only [Option.toList_some, List.singleton_append]
  refine e_if_ne C (tgt := 9) dX5_kind_4 (by decide) (by split <;> omega) (fun h_4 => ?_) (fun h_4 => ?_)
  · have hk5 := ite1.mp h_4
    obtain ⟨j, rfl⟩ := Int.eq_ofNat_of_zero_le hk5.1
    have hj : j < 5 := by omega
    obtain ⟨k1, k2, k3, k4, k5⟩ := (hJ.2.2.2.2.2.2.2.2.1 j hj).1
    have k1 : mI M (118 + 7 * j + 1) 4 = ((nSp M (118 + 7 * j) : Nat) : Int) := k1
    rw [Int.toNat_natCast]
    refine e_iload_n C dX5_kind_9 rfl ?_
    by_cases w0 : w = 0
    · subst w0
      refine e_lookup C (off := 26) (tgt := 36) dX5_kind_10 (by omega) (by decide) (by decide) (by decide) ?_
      refine e_aload_n C dX5_kind_36 rfl ?_
      refine e_getR C f_X5_21 sh_0 (hW 0 2 3 rfl) dX5_kind_37 ?_
      refine e_iload_n C dX5_kind_40 rfl ?_
      refine e_aaload4 C dX5_kind_41 sh_3 _ rfl (by omega) (hW 3 j _ (rt_kind j hj).1) ?_
      refine e_getI C f_X5_132 (pKd_kind hW hj).1 dX5_kind_42 ?_
      exact e_ireturn C dX5_kind_45 ⟨by rw [if_pos (by omega), if_pos rfl], rfl⟩
    · by_cases w1 : w = 1
      · subst w1
        refine e_lookup C (off := 36) (tgt := 46) dX5_kind_10 (by omega) (by decide) (by decide) (by decide) ?_
        refine e_aload_n C dX5_kind_46 rfl ?_
        refine e_getR C f_X5_21 sh_0 (hW 0 2 3 rfl) dX5_kind_47 ?_
        refine e_iload_n C dX5_kind_50 rfl ?_
        refine e_aaload4 C dX5_kind_51 sh_3 _ rfl (by omega) (hW 3 j _ (rt_kind j hj).1) ?_
        refine e_getR C f_X5_133 (pKd_kind hW hj).1 (pKd_kind hW hj).2.1 dX5_kind_52 ?_
        refine e_getI C f_X5_93 (pKd_kind hW hj).2.2.1.1 dX5_kind_55 ?_
        exact e_ireturn C dX5_kind_58 ⟨by rw [if_pos (by omega), if_neg (by decide), if_pos rfl], rfl⟩
      · refine e_lookup C (off := 49) (tgt := 59) dX5_kind_10 (by omega) (by decide) (by simp [Op.lookupswitch.offset, w0, w1, Ne.symm w0, Ne.symm w1, fun e : (0 : Int) = w => w0 e.symm, fun e : (1 : Int) = w => w1 e.symm]) (by decide) ?_
        refine e_iconst C dX5_kind_59 ?_
        exact e_ireturn C dX5_kind_60 ⟨by rw [if_pos (by omega), if_neg w0, if_neg w1], rfl⟩
  · have hk5 := fun q => h_4 (ite1.mpr q)
    refine e_iconst C dX5_kind_7 ?_
    exact e_ireturn C dX5_kind_8 ⟨by rw [if_neg hk5], rfl⟩
