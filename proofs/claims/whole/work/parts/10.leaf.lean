/-! ===== Sheet.find ===== -/
def fndI (f : Nat → Int) (c : Int) : Nat → Nat → Int
  | _, 0 => -1
  | i, n + 1 => if f i = c then (i : Int) else fndI f c (i + 1) n
theorem c_find {g : pG} {M : pMem} {a N n : Nat} {c : Int} (hA : pSh M a N) (hn : mI M a 4 = (n : Int)) (hnN : n ≤ N) (hN : N ≤ 16) (hc : -2147483648 ≤ c ∧ c < 2147483648) (hf : ∀ i, i < n → -2147483648 ≤ mI M (a + 1) i ∧ mI M (a + 1) i < 2147483648) :
    pCn g 1 0 0 yX4_find cX4_find 3 (some .int) SH SH M [.inr (.inr a), .inl c] (fun r M' => r = some (.inl (fndI (mI M (a + 1)) c 0 n)) ∧ M' = M) := by
  refine pCn_intro mt_X4_find (fun X C => ?_)
  have loop : ∀ (i : Nat) (s : Unit), i ≤ n → fndI (mI M (a + 1)) c i (n - i) = fndI (mI M (a + 1)) c 0 n → pE g 3 X (pMQ g SH (fun r M' => r = some (.inl (fndI (mI M (a + 1)) c 0 n)) ∧ M' = M) X 0 0) SH M 0 0 2 [some (.inr (.inr a)), some (.inl c), some (.inl (i : Int))] [] := by
    refine p_for n _ _ ?_ ?_
    · intro s hs
      refine e_iload_n C dX4_find_2 rfl ?_
      refine e_aload_n C dX4_find_3 rfl ?_
      refine e_getI C f_X4_9 hA.1 dX4_find_4 ?_
      refine e_icmp_ge C (tgt := 28) dX4_find_7 (by decide) (by omega) (by omega) (fun h_7 => ?_) (fun h_7 => by exfalso; omega)
      refine e_iconst C dX4_find_28 ?_
      exact e_ireturn C dX4_find_29 ⟨by rw [← hs]; simp [fndI], rfl⟩
    · intro i s hi hs ih
      have hfi := hf i hi
      refine e_iload_n C dX4_find_2 rfl ?_
      refine e_aload_n C dX4_find_3 rfl ?_
      refine e_getI C f_X4_9 hA.1 dX4_find_4 ?_
      refine e_icmp_ge C (tgt := 28) dX4_find_7 (by decide) (by omega) (by omega) (fun h_7 => by exfalso; omega) (fun h_7 => ?_)
      refine e_aload_n C dX4_find_10 rfl ?_
      refine e_getR C f_X4_15 hA.1 hA.2.2.2.2.2.1 dX4_find_11 ?_
      refine e_iload_n C dX4_find_14 rfl ?_
      refine e_iaload C dX4_find_15 hA.2.1 _ rfl (by omega) ?_
      refine e_iload_n C dX4_find_16 rfl ?_
      refine e_icmp_ne C (tgt := 22) dX4_find_17 (by decide) (by omega) (by omega) (fun h_17 => ?_) (fun h_17 => ?_)
      · refine e_iinc C dX4_find_22 rfl ?_
        refine e_goto C (tgt := 2) dX4_find_25 (by decide) ?_
        exact ih () (by rw [← hs, show n - i = (n - (i + 1)) + 1 by omega]; simp only [fndI]; rw [if_neg h_17])
      · have h_17 := Classical.not_not.mp h_17
        refine e_iload_n C dX4_find_20 rfl ?_
        exact e_ireturn C dX4_find_21 ⟨by rw [← hs, show n - i = (n - (i + 1)) + 1 by omega]; simp only [fndI]; rw [if_pos h_17], rfl⟩
  show pE g 3 X _ SH M 0 0 0 [some (.inr (.inr a)), some (.inl c), none] []
  refine e_iconst C dX4_find_0 ?_
  refine e_istore_n C dX4_find_1 ?_
  exact loop 0 () (by omega) rfl
theorem c_isIn {g : pG} {M : pMem} {v a b : Int} (hi_v : -2147483648 ≤ v ∧ v < 2147483648) (hi_a : -2147483648 ≤ a ∧ a < 2147483648) (hi_b : -2147483648 ≤ b ∧ b < 2147483648) : pCn g 1 0 0 yX5_isIn cX5_isIn 3 (some .boolean) SH SH M [.inl v, .inl a, .inl b] (fun r M' => r = some (.inl (if a ≤ v ∧ v ≤ b then 1 else 0)) ∧ M' = M) := by
  refine pCn_intro mt_X5_isIn (fun X C => ?_)
  show pE g 3 X _ SH M 0 0 0 [some (.inl v), some (.inl a), some (.inl b)] []
  refine e_iload_n C dX5_isIn_0 rfl ?_
  refine e_iload_n C dX5_isIn_1 rfl ?_
  refine e_icmp_lt C (tgt := 14) dX5_isIn_2 (by decide) (by omega) (by omega) (fun h_2 => ?_) (fun h_2 => ?_)
  · refine e_iconst C dX5_isIn_14 ?_
    first | exact e_zreturn C dX5_isIn_15 (Or.inl rfl) ⟨by rw [if_neg (by omega)], rfl⟩ | exact e_zreturn C dX5_isIn_15 (Or.inr rfl) ⟨by rw [if_pos (by omega)], rfl⟩
  · refine e_iload_n C dX5_isIn_5 rfl ?_
    refine e_iload_n C dX5_isIn_6 rfl ?_
    refine e_icmp_gt C (tgt := 14) dX5_isIn_7 (by decide) (by omega) (by omega) (fun h_7 => ?_) (fun h_7 => ?_)
    · refine e_iconst C dX5_isIn_14 ?_
      first | exact e_zreturn C dX5_isIn_15 (Or.inl rfl) ⟨by rw [if_neg (by omega)], rfl⟩ | exact e_zreturn C dX5_isIn_15 (Or.inr rfl) ⟨by rw [if_pos (by omega)], rfl⟩
    · refine e_iconst C dX5_isIn_10 ?_
      refine e_goto C (tgt := 15) dX5_isIn_11 (by decide) ?_
      first | exact e_zreturn C dX5_isIn_15 (Or.inl rfl) ⟨by rw [if_neg (by omega)], rfl⟩ | exact e_zreturn C dX5_isIn_15 (Or.inr rfl) ⟨by rw [if_pos (by omega)], rfl⟩
theorem c_isPage {g : pG} {M : pMem} {p : Int} (hi_p : -2147483648 ≤ p ∧ p < 2147483648) (hn : 0 ≤ mI M 0 12 ∧ mI M 0 12 ≤ 16) : pCn g 1 0 0 yX5_isPage cX5_isPage 2 (some .boolean) SH SH M [.inr (.inr 0), .inl p] (fun r M' => r = some (.inl (if 0 ≤ p ∧ p < mI M 0 12 then 1 else 0)) ∧ M' = M) := by
  refine pCn_intro mt_X5_isPage (fun X C => ?_)
  show pE g 2 X _ SH M 0 0 0 [some (.inr (.inr 0)), some (.inl p)] []
  refine e_iload_n C dX5_isPage_0 rfl ?_
  refine e_if_lt C (tgt := 16) dX5_isPage_1 (by decide) (by omega) (fun h_1 => ?_) (fun h_1 => ?_)
  · refine e_iconst C dX5_isPage_16 ?_
    first | exact e_zreturn C dX5_isPage_17 (Or.inl rfl) ⟨by rw [if_neg (by omega)], rfl⟩ | exact e_zreturn C dX5_isPage_17 (Or.inr rfl) ⟨by rw [if_pos (by omega)], rfl⟩
  · refine e_iload_n C dX5_isPage_4 rfl ?_
    refine e_aload_n C dX5_isPage_5 rfl ?_
    refine e_getI C f_X5_66 sh_0 dX5_isPage_6 ?_
    refine e_icmp_ge C (tgt := 16) dX5_isPage_9 (by decide) (by omega) (by omega) (fun h_9 => ?_) (fun h_9 => ?_)
    · refine e_iconst C dX5_isPage_16 ?_
      first | exact e_zreturn C dX5_isPage_17 (Or.inl rfl) ⟨by rw [if_neg (by omega)], rfl⟩ | exact e_zreturn C dX5_isPage_17 (Or.inr rfl) ⟨by rw [if_pos (by omega)], rfl⟩
    · refine e_iconst C dX5_isPage_12 ?_
      refine e_goto C (tgt := 17) dX5_isPage_13 (by decide) ?_
      first | exact e_zreturn C dX5_isPage_17 (Or.inl rfl) ⟨by rw [if_neg (by omega)], rfl⟩ | exact e_zreturn C dX5_isPage_17 (Or.inr rfl) ⟨by rw [if_pos (by omega)], rfl⟩
theorem c_isKind {g : pG} {M : pMem} {k : Int} (hi_k : -2147483648 ≤ k ∧ k < 2147483648) : pCn g 1 0 0 yX5_isKind cX5_isKind 1 (some .boolean) SH SH M [.inl k] (fun r M' => r = some (.inl (if 0 ≤ k ∧ k < 5 then 1 else 0)) ∧ M' = M) := by
  refine pCn_intro mt_X5_isKind (fun X C => ?_)
  show pE g 1 X _ SH M 0 0 0 [some (.inl k)] []
  refine e_iload_n C dX5_isKind_0 rfl ?_
  refine e_if_lt C (tgt := 13) dX5_isKind_1 (by decide) (by omega) (fun h_1 => ?_) (fun h_1 => ?_)
  · refine e_iconst C dX5_isKind_13 ?_
    first | exact e_zreturn C dX5_isKind_14 (Or.inl rfl) ⟨by rw [if_neg (by omega)], rfl⟩ | exact e_zreturn C dX5_isKind_14 (Or.inr rfl) ⟨by rw [if_pos (by omega)], rfl⟩
  · refine e_iload_n C dX5_isKind_4 rfl ?_
    refine e_iconst C dX5_isKind_5 ?_
    refine e_icmp_ge C (tgt := 13) dX5_isKind_6 (by decide) (by omega) (by omega) (fun h_6 => ?_) (fun h_6 => ?_)
    · refine e_iconst C dX5_isKind_13 ?_
      first | exact e_zreturn C dX5_isKind_14 (Or.inl rfl) ⟨by rw [if_neg (by omega)], rfl⟩ | exact e_zreturn C dX5_isKind_14 (Or.inr rfl) ⟨by rw [if_pos (by omega)], rfl⟩
    · refine e_iconst C dX5_isKind_9 ?_
      refine e_goto C (tgt := 14) dX5_isKind_10 (by decide) ?_
      first | exact e_zreturn C dX5_isKind_14 (Or.inl rfl) ⟨by rw [if_neg (by omega)], rfl⟩ | exact e_zreturn C dX5_isKind_14 (Or.inr rfl) ⟨by rw [if_pos (by omega)], rfl⟩
def fil (f : Nat → Int) (v : Int) (n : Nat) : Nat → Int := fun j => if j < n then v else f j
theorem fil_0 (f : Nat → Int) (v : Int) : fil f v 0 = f := by funext j; simp [fil]
theorem fil_s (f : Nat → Int) (v : Int) (n : Nat) : up (fil f v n) n v = fil f v (n + 1) := by
  funext j; simp only [fil, up]
  by_cases h : j = n
  · subst h; simp
  · by_cases h2 : j < n
    · simp [h, h2, Nat.lt_succ_of_lt h2]
    · simp [h, h2, show ¬ j < n + 1 by omega]
theorem fil_i {f : Nat → Int} {v : Int} {n j : Nat} (h : j < n) : fil f v n j = v := by simp [fil, h]
theorem fil_o {f : Nat → Int} {v : Int} {n j : Nat} (h : n ≤ j) : fil f v n j = f j := by simp [fil, Nat.not_lt.mpr h]
theorem c_hasPages {g : pG} {M : pMem} {k : Int} (hi_k : -2147483648 ≤ k ∧ k < 2147483648) (hW : pW M) (hk : ∀ j, j < 5 → 0 ≤ mI M (118 + 7 * j) 2 ∧ mI M (118 + 7 * j) 2 ≤ 16) : pCn g 2 0 0 yX5_hasPages cX5_hasPages 2 (some .boolean) SH SH M [.inr (.inr 0), .inl k] (fun r M' => r = some (.inl (if 0 ≤ k ∧ k < 5 ∧ 0 < mI M (118 + 7 * k.toNat) 2 then 1 else 0)) ∧ M' = M) := by
  refine pCn_intro mt_X5_hasPages (fun X C => ?_)
  show pE g 2 X _ SH M 0 0 0 [some (.inr (.inr 0)), some (.inl k)] []
  refine e_iload_n C dX5_hasPages_0 rfl ?_
  refine e_callS C (c_isKind hi_k) mt_X5_isKind s_X5_129 dX5_hasPages_1 (fun r M1 hq => ?_)
  obtain ⟨rfl, hM⟩ := hq
  subst M1
  by_cases hk5 : 0 ≤ k ∧ k < 5
  rotate_left
  · rw [if_neg hk5]
    refine e_if_eq C (tgt := 23) dX5_hasPages_4 (by decide) (by omega) (fun _ => ?_) (fun h => absurd rfl h)
    refine e_iconst C dX5_hasPages_23 ?_
    exact e_zreturn C dX5_hasPages_24 (Or.inl rfl) ⟨by rw [if_neg (by omega)], rfl⟩
  rw [if_pos hk5]
  obtain ⟨j, rfl⟩ := Int.eq_ofNat_of_zero_le hk5.1
  have hj : j < 5 := by omega
  have hkj := hk j hj
  rw [Int.toNat_natCast]
  refine e_if_eq C (tgt := 23) dX5_hasPages_4 (by decide) (by omega) (fun h_4 => by exact absurd h_4 (by decide)) (fun h_4 => ?_)
  refine e_aload_n C dX5_hasPages_7 rfl ?_
  refine e_getR C f_X5_21 sh_0 (hW 0 2 3 rfl) dX5_hasPages_8 ?_
  refine e_iload_n C dX5_hasPages_11 rfl ?_
  refine e_aaload4 C dX5_hasPages_12 sh_3 _ rfl (by omega) (hW 3 j _ (rt_kind j hj).1) ?_
  refine e_getI C f_X5_132 (pKd_kind hW hj).1 dX5_hasPages_13 ?_
  refine e_if_le C (tgt := 23) dX5_hasPages_16 (by decide) (by omega) (fun h_16 => ?_) (fun h_16 => ?_)
  · refine e_iconst C dX5_hasPages_23 ?_
    first | exact e_zreturn C dX5_hasPages_24 (Or.inl rfl) ⟨by rw [if_neg (by omega)], rfl⟩ | exact e_zreturn C dX5_hasPages_24 (Or.inr rfl) ⟨by rw [if_pos (by omega)], rfl⟩
  · refine e_iconst C dX5_hasPages_19 ?_
    refine e_goto C (tgt := 24) dX5_hasPages_20 (by decide) ?_
    first | exact e_zreturn C dX5_hasPages_24 (Or.inl rfl) ⟨by rw [if_neg (by omega)], rfl⟩ | exact e_zreturn C dX5_hasPages_24 (Or.inr rfl) ⟨by rw [if_pos (by omega)], rfl⟩
theorem c_isTellable {g : pG} {M : pMem} {p k : Int} (hi_p : -2147483648 ≤ p ∧ p < 2147483648) (hi_k : -2147483648 ≤ k ∧ k < 2147483648) (hW : pW M) (hn : 0 ≤ mI M 0 12 ∧ mI M 0 12 ≤ 16) (hb : ∀ j, j < 16 → 0 ≤ mI M (38 + 5 * j) 4 ∧ mI M (38 + 5 * j) 4 ≤ 8) : pCn g 2 0 0 yX5_isTellable cX5_isTellable 3 (some .boolean) SH SH M [.inr (.inr 0), .inl p, .inl k] (fun r M' => r = some (.inl (if (0 ≤ p ∧ p < mI M 0 12) ∧ 0 < mI M (38 + 5 * p.toNat) 4 ∧ -1 ≤ k ∧ k < 5 then 1 else 0)) ∧ M' = M) := by
  refine pCn_intro mt_X5_isTellable (fun X C => ?_)
  show pE g 3 X _ SH M 0 0 0 [some (.inr (.inr 0)), some (.inl p), some (.inl k)] []
  refine e_aload_n C dX5_isTellable_0 rfl ?_
  refine e_iload_n C dX5_isTellable_1 rfl ?_
  refine e_callV C (c_isPage hi_p hn) mt_X5_isPage s_X5_85 dX5_isTellable_2 5 sh_0 rfl (fun r M1 hq => ?_)
  obtain ⟨rfl, hM⟩ := hq
  subst M1
  by_cases hp : 0 ≤ p ∧ p < mI M 0 12
  rotate_left
  · rw [if_neg hp]
    refine e_if_eq C (tgt := 36) dX5_isTellable_5 (by decide) (by omega) (fun _ => ?_) (fun h => absurd rfl h)
    refine e_iconst C dX5_isTellable_36 ?_
    exact e_zreturn C dX5_isTellable_37 (Or.inl rfl) ⟨by rw [if_neg (by omega)], rfl⟩
  rw [if_pos hp]
  obtain ⟨j, rfl⟩ := Int.eq_ofNat_of_zero_le hp.1
  have hj : j < 16 := by omega
  have hbj := hb j hj
  rw [Int.toNat_natCast]
  refine e_if_eq C (tgt := 36) dX5_isTellable_5 (by decide) (by omega) (fun h_5 => by exact absurd h_5 (by decide)) (fun h_5 => ?_)
  refine e_aload_n C dX5_isTellable_8 rfl ?_
  refine e_getR C f_X5_11 sh_0 (hW 0 0 1 rfl) dX5_isTellable_9 ?_
  refine e_iload_n C dX5_isTellable_12 rfl ?_
  refine e_aaload3 C dX5_isTellable_13 sh_1 _ rfl (by omega) (hW 1 j _ (rt_page j hj).1) ?_
  refine e_getI C f_X5_93 (pSh_page hW hj).1 dX5_isTellable_14 ?_
  refine e_if_le C (tgt := 36) dX5_isTellable_17 (by decide) (by omega) (fun h_17 => ?_) (fun h_17 => ?_)
  · refine e_iconst C dX5_isTellable_36 ?_
    first | exact e_zreturn C dX5_isTellable_37 (Or.inl rfl) ⟨by rw [if_neg (by omega)], rfl⟩ | exact e_zreturn C dX5_isTellable_37 (Or.inr rfl) ⟨by rw [if_pos (by omega)], rfl⟩
  · refine e_iload_n C dX5_isTellable_20 rfl ?_
    refine e_iconst C dX5_isTellable_21 ?_
    refine e_icmp_eq C (tgt := 32) dX5_isTellable_22 (by decide) (by omega) (by omega) (fun h_22 => ?_) (fun h_22 => ?_)
    · refine e_iconst C dX5_isTellable_32 ?_
      refine e_goto C (tgt := 37) dX5_isTellable_33 (by decide) ?_
      first | exact e_zreturn C dX5_isTellable_37 (Or.inl rfl) ⟨by rw [if_neg (by omega)], rfl⟩ | exact e_zreturn C dX5_isTellable_37 (Or.inr rfl) ⟨by rw [if_pos (by omega)], rfl⟩
    · refine e_iload_n C dX5_isTellable_25 rfl ?_
      refine e_callS C (c_isKind hi_k) mt_X5_isKind s_X5_129 dX5_isTellable_26 (fun r M1 hq => ?_)
      obtain ⟨rfl, hM⟩ := hq
      subst M1
      have hr : (if 0 ≤ k ∧ k < 5 then (1 : Int) else 0) = 0 ∧ ¬ (0 ≤ k ∧ k < 5) ∨ (if 0 ≤ k ∧ k < 5 then (1 : Int) else 0) = 1 ∧ (0 ≤ k ∧ k < 5) := by
        by_cases h : 0 ≤ k ∧ k < 5
        · right; exact ⟨if_pos h, h⟩
        · left; exact ⟨if_neg h, h⟩
      generalize (if 0 ≤ k ∧ k < 5 then (1 : Int) else 0) = q at hr
      refine e_if_eq C (tgt := 36) dX5_isTellable_29 (by decide) (by omega) (fun h_29 => ?_) (fun h_29 => ?_)
      · refine e_iconst C dX5_isTellable_36 ?_
        first | exact e_zreturn C dX5_isTellable_37 (Or.inl rfl) ⟨by rw [if_neg (by omega)], rfl⟩ | exact e_zreturn C dX5_isTellable_37 (Or.inr rfl) ⟨by rw [if_pos (by omega)], rfl⟩
      · refine e_iconst C dX5_isTellable_32 ?_
        refine e_goto C (tgt := 37) dX5_isTellable_33 (by decide) ?_
        first | exact e_zreturn C dX5_isTellable_37 (Or.inl rfl) ⟨by rw [if_neg (by omega)], rfl⟩ | exact e_zreturn C dX5_isTellable_37 (Or.inr rfl) ⟨by rw [if_pos (by omega)], rfl⟩
theorem c_costIn {g : pG} {M : pMem} {K : Int} (hK : 0 ≤ K ∧ K < 9000000000000000000) : pCn g 1 0 0 yX5_costIn cX5_costIn 2 (some .int) SH SH M [.inr (.inl K)] (fun r M' => r = some (.inl (K / 341812114609)) ∧ M' = M) := by
  refine pCn_intro mt_X5_costIn (fun X C => ?_)
  show pE g 2 X _ SH M 0 0 0 [some (.inr (.inl K)), none] []
  refine e_lload_n C dX5_costIn_0 rfl ?_
  refine e_ldc2 C (341812114609) k_X5_220 dX5_costIn_1 ?_
  refine e_ldiv C dX5_costIn_4 (by omega) (by omega) (by omega) (by omega) ?_
  refine e_l2i C dX5_costIn_5 (by omega) ?_
  exact e_ireturn C dX5_costIn_6 ⟨rfl, rfl⟩
theorem c_moveIn {g : pG} {M : pMem} {K : Int} (hK : 0 ≤ K ∧ K < 9000000000000000000) : pCn g 1 0 0 yX5_moveIn cX5_moveIn 2 (some .int) SH SH M [.inr (.inl K)] (fun r M' => r = some (.inl (K / 6975757441 % 49)) ∧ M' = M) := by
  refine pCn_intro mt_X5_moveIn (fun X C => ?_)
  show pE g 2 X _ SH M 0 0 0 [some (.inr (.inl K)), none] []
  refine e_lload_n C dX5_moveIn_0 rfl ?_
  refine e_ldc2 C (6975757441) k_X5_222 dX5_moveIn_1 ?_
  refine e_ldiv C dX5_moveIn_4 (by omega) (by omega) (by omega) (by omega) ?_
  refine e_ldc2 C (49) k_X5_224 dX5_moveIn_5 ?_
  refine e_lrem C dX5_moveIn_8 (by omega) (by omega) (by omega) (by omega) ?_
  refine e_l2i C dX5_moveIn_9 (by omega) ?_
  exact e_ireturn C dX5_moveIn_10 ⟨rfl, rfl⟩
theorem c_spotIn {g : pG} {M : pMem} {K : Int} {b : Nat} (hK : 0 ≤ K ∧ K < 9000000000000000000) (hb : b < 8) : pCn g 1 0 0 yX5_spotIn cX5_spotIn 4 (some .int) SH SH M [.inr (.inl K), .inl (b : Int)] (fun r M' => r = some (.inl (if K / 17 ^ (7 - b) % 17 = 16 then -1 else K / 17 ^ (7 - b) % 17)) ∧ M' = M) := by
  refine pCn_intro mt_X5_spotIn (fun X C => ?_)
  show pE g 4 X _ SH M 0 0 0 [some (.inr (.inl K)), none, some (.inl (b : Int)), none] []
  have hu : (0 : Int) < 17 ^ (7 - b) ∧ (17 : Int) ^ (7 - b) < 9000000000000000000 := by
    rcases (show b = 0 ∨ b = 1 ∨ b = 2 ∨ b = 3 ∨ b = 4 ∨ b = 5 ∨ b = 6 ∨ b = 7 by omega) with rfl | rfl | rfl | rfl | rfl | rfl | rfl | rfl <;> decide
  have hq : 0 ≤ K / 17 ^ (7 - b) ∧ K / 17 ^ (7 - b) < 9000000000000000000 := ⟨Int.ediv_nonneg hK.1 (by omega), Int.lt_of_le_of_lt (Int.ediv_le_self _ hK.1) hK.2⟩
  refine e_lload_n C dX5_spotIn_0 rfl ?_
  refine e_getsO C dX5_spotIn_1 fs_X5_226 ?_
  refine e_iload_n C dX5_spotIn_4 rfl ?_
  refine e_units C dX5_spotIn_5 b rfl hb ?_
  refine e_ldiv C dX5_spotIn_6 (by omega) (by omega) (by omega) (by omega) ?_
  refine e_ldc2 C (17) k_X5_229 dX5_spotIn_7 ?_
  refine e_lrem C dX5_spotIn_10 (by omega) (by omega) (by omega) (by omega) ?_
  refine e_l2i C dX5_spotIn_11 (by omega) ?_
  refine e_istore_n C dX5_spotIn_12 ?_
  refine e_iload_n C dX5_spotIn_13 rfl ?_
  refine e_bipush C dX5_spotIn_14 ?_
  refine e_icmp_ne C (tgt := 23) dX5_spotIn_16 (by decide) (by omega) (by omega) (fun h_16 => ?_) (fun h_16 => ?_)
  · have h16 := h_16
    refine e_iload_n C dX5_spotIn_23 rfl ?_
    exact e_ireturn C dX5_spotIn_24 ⟨by first | rw [if_neg h_16] | rw [if_pos (Classical.not_not.mp h_16)], rfl⟩
  · refine e_iconst C dX5_spotIn_19 ?_
    refine e_goto C (tgt := 24) dX5_spotIn_20 (by decide) ?_
    exact e_ireturn C dX5_spotIn_24 ⟨by first | rw [if_neg h_16] | rw [if_pos (Classical.not_not.mp h_16)], rfl⟩
theorem c_acrossOf {g : pG} {M : pMem} {z : Int} (hz : 0 ≤ z ∧ z < 49) : pCn g 1 0 0 yX5_acrossOf cX5_acrossOf 1 (some .int) SH SH M [.inl z] (fun r M' => r = some (.inl (z / 7 - 3)) ∧ M' = M) := by
  refine pCn_intro mt_X5_acrossOf (fun X C => ?_)
  show pE g 1 X _ SH M 0 0 0 [some (.inl z)] []
  refine e_iload_n C dX5_acrossOf_0 rfl ?_
  refine e_bipush C dX5_acrossOf_1 ?_
  refine e_idiv C dX5_acrossOf_3 (by omega) (by omega) (by omega) (by omega) ?_
  refine e_iconst C dX5_acrossOf_4 ?_
  refine e_isub C dX5_acrossOf_5 ?_
  exact e_ireturn C dX5_acrossOf_6 ⟨rfl, rfl⟩
theorem c_downOf {g : pG} {M : pMem} {z : Int} (hz : 0 ≤ z ∧ z < 49) : pCn g 1 0 0 yX5_downOf cX5_downOf 1 (some .int) SH SH M [.inl z] (fun r M' => r = some (.inl (z % 7 - 3)) ∧ M' = M) := by
  refine pCn_intro mt_X5_downOf (fun X C => ?_)
  show pE g 1 X _ SH M 0 0 0 [some (.inl z)] []
  refine e_iload_n C dX5_downOf_0 rfl ?_
  refine e_bipush C dX5_downOf_1 ?_
  refine e_irem C dX5_downOf_3 (by omega) (by omega) (by omega) (by omega) ?_
  refine e_iconst C dX5_downOf_4 ?_
  refine e_isub C dX5_downOf_5 ?_
  exact e_ireturn C dX5_downOf_6 ⟨rfl, rfl⟩
def rkOk (M : pMem) : Prop := (-1 ≤ mI M 19 0 ∧ mI M 19 0 < 5) ∧ (0 ≤ mI M 19 1 ∧ mI M 19 1 ≤ 1000000) ∧ (0 ≤ mI M 19 2 ∧ mI M 19 2 ≤ 1000000)
theorem c_rclear {g : pG} {M : pMem}  : pCn g 1 0 0 yX3_clear cX3_clear 1 none SH SH M [.inr (.inr 19)] (fun r M' => r = none ∧ M' = stI (stI (stI M 19 0 (-1)) 19 1 1000000) 19 2 1000000) := by
  refine pCn_intro mt_X3_clear (fun X C => ?_)
  show pE g 1 X _ SH M 0 0 0 [some (.inr (.inr 19))] []
  refine e_aload_n C dX3_clear_0 rfl ?_
  refine e_iconst C dX3_clear_1 ?_
  refine e_putI C f_X3_9 sh_19 (hd := dX3_clear_2) (hfin := (fun CC T h => by obtain ⟨h1, -⟩ := h; cases h1; rfl)) ?_
  refine e_aload_n C dX3_clear_5 rfl ?_
  refine e_ldc C (1000000) k_X3_15 dX3_clear_6 ?_
  refine e_putI C f_X3_16 sh_19 (hd := dX3_clear_8) (hfin := (fun CC T h => by obtain ⟨h1, -⟩ := h; cases h1; rfl)) ?_
  refine e_aload_n C dX3_clear_11 rfl ?_
  refine e_ldc C (1000000) k_X3_15 dX3_clear_12 ?_
  refine e_putI C f_X3_19 sh_19 (hd := dX3_clear_14) (hfin := (fun CC T h => by obtain ⟨h1, -⟩ := h; cases h1; rfl)) ?_
  exact e_return C dX3_clear_17 ⟨rfl, rfl⟩
def takeM (M : pMem) (k c : Int) : pMem := if c < mI M 19 1 then stI (stI (stI M 19 2 (mI M 19 1)) 19 1 c) 19 0 k else if c < mI M 19 2 then stI M 19 2 c else M
theorem c_take {g : pG} {M : pMem} {k c : Int} (hi_c : -2147483648 ≤ c ∧ c < 2147483648) (hr : rkOk M) : pCn g 1 0 0 yX3_take cX3_take 3 none SH SH M [.inr (.inr 19), .inl k, .inl c] (fun r M' => r = none ∧ M' = takeM M k c) := by
  refine pCn_intro mt_X3_take (fun X C => ?_)
  show pE g 3 X _ SH M 0 0 0 [some (.inr (.inr 19)), some (.inl k), some (.inl c)] []
  have hr1 := hr.2.1
  have hr2 := hr.2.2
  refine e_iload_n C dX3_take_0 rfl ?_
  refine e_aload_n C dX3_take_1 rfl ?_
  refine e_getI C f_X3_16 sh_19 dX3_take_2 ?_
  refine e_icmp_ge C (tgt := 29) dX3_take_5 (by decide) (by omega) (by omega) (fun h_5 => ?_) (fun h_5 => ?_)
  · refine e_iload_n C dX3_take_29 rfl ?_
    refine e_aload_n C dX3_take_30 rfl ?_
    refine e_getI C f_X3_19 sh_19 dX3_take_31 ?_
    refine e_icmp_ge C (tgt := 42) dX3_take_34 (by decide) (by omega) (by omega) (fun h_34 => ?_) (fun h_34 => ?_)
    · exact e_return C dX3_take_42 ⟨rfl, by unfold takeM; first | (rw [if_pos (by omega)]) | (rw [if_neg (by omega), if_pos (by omega)]) | (rw [if_neg (by omega), if_neg (by omega)])⟩
    · refine e_aload_n C dX3_take_37 rfl ?_
      refine e_iload_n C dX3_take_38 rfl ?_
      refine e_putI C f_X3_19 sh_19 (hd := dX3_take_39) (hfin := (fun CC T h => by obtain ⟨h1, -⟩ := h; cases h1; rfl)) ?_
      exact e_return C dX3_take_42 ⟨rfl, by unfold takeM; first | (rw [if_pos (by omega)]) | (rw [if_neg (by omega), if_pos (by omega)]) | (rw [if_neg (by omega), if_neg (by omega)])⟩
  · refine e_aload_n C dX3_take_8 rfl ?_
    refine e_aload_n C dX3_take_9 rfl ?_
    refine e_getI C f_X3_16 sh_19 dX3_take_10 ?_
    refine e_putI C f_X3_19 sh_19 (hd := dX3_take_13) (hfin := (fun CC T h => by obtain ⟨h1, -⟩ := h; cases h1; rfl)) ?_
    refine e_aload_n C dX3_take_16 rfl ?_
    refine e_iload_n C dX3_take_17 rfl ?_
    refine e_putI C f_X3_16 sh_19 (hd := dX3_take_18) (hfin := (fun CC T h => by obtain ⟨h1, -⟩ := h; cases h1; rfl)) ?_
    refine e_aload_n C dX3_take_21 rfl ?_
    refine e_iload_n C dX3_take_22 rfl ?_
    refine e_putI C f_X3_9 sh_19 (hd := dX3_take_23) (hfin := (fun CC T h => by obtain ⟨h1, -⟩ := h; cases h1; rfl)) ?_
    refine e_goto C (tgt := 42) dX3_take_26 (by decide) ?_
    exact e_return C dX3_take_42 ⟨rfl, by unfold takeM; first | (rw [if_pos (by omega)]) | (rw [if_neg (by omega), if_pos (by omega)]) | (rw [if_neg (by omega), if_neg (by omega)])⟩
theorem c_spread {g : pG} {M : pMem}  : pCn g 1 0 0 yX3_spread cX3_spread 1 (some .int) SH SH M [.inr (.inr 19)] (fun r M' => r = some (.inl (mI M 19 2 - mI M 19 1)) ∧ M' = M) := by
  refine pCn_intro mt_X3_spread (fun X C => ?_)
  show pE g 1 X _ SH M 0 0 0 [some (.inr (.inr 19))] []
  refine e_aload_n C dX3_spread_0 rfl ?_
  refine e_getI C f_X3_19 sh_19 dX3_spread_1 ?_
  refine e_aload_n C dX3_spread_4 rfl ?_
  refine e_getI C f_X3_16 sh_19 dX3_spread_5 ?_
  refine e_isub C dX3_spread_8 ?_
  exact e_ireturn C dX3_spread_9 ⟨rfl, rfl⟩
def ansI (b l n lim gap : Int) : Int := if b = -1 ∨ lim < l then 10 else if n - l < gap then 11 else b
theorem c_answer {g : pG} {M : pMem} {lim gap : Int} (hi_lim : -2147483648 ≤ lim ∧ lim < 2147483648) (hi_gap : -2147483648 ≤ gap ∧ gap < 2147483648) (hr : rkOk M) : pCn g 2 0 0 yX3_answer cX3_answer 3 (some .int) SH SH M [.inr (.inr 19), .inl lim, .inl gap] (fun r M' => r = some (.inl (ansI (mI M 19 0) (mI M 19 1) (mI M 19 2) lim gap)) ∧ M' = M) := by
  refine pCn_intro mt_X3_answer (fun X C => ?_)
  show pE g 3 X _ SH M 0 0 0 [some (.inr (.inr 19)), some (.inl lim), some (.inl gap)] []
  have hr0 := hr.1
  have hr1 := hr.2.1
  have hr2 := hr.2.2
  refine e_aload_n C dX3_answer_0 rfl ?_
  refine e_getI C f_X3_9 sh_19 dX3_answer_1 ?_
  refine e_iconst C dX3_answer_4 ?_
  refine e_icmp_eq C (tgt := 16) dX3_answer_5 (by decide) (by omega) (by omega) (fun h_5 => ?_) (fun h_5 => ?_)
  · refine e_bipush C dX3_answer_16 ?_
    exact e_ireturn C dX3_answer_18 ⟨by unfold ansI; rw [if_pos (by omega)], rfl⟩
  · refine e_aload_n C dX3_answer_8 rfl ?_
    refine e_getI C f_X3_16 sh_19 dX3_answer_9 ?_
    refine e_iload_n C dX3_answer_12 rfl ?_
    refine e_icmp_le C (tgt := 19) dX3_answer_13 (by decide) (by omega) (by omega) (fun h_13 => ?_) (fun h_13 => ?_)
    · refine e_aload_n C dX3_answer_19 rfl ?_
      refine e_callV C (c_spread) mt_X3_spread s_X3_22 dX3_answer_20 3 sh_19 rfl (fun r M1 hq => ?_)
      obtain ⟨rfl, hM⟩ := hq
      subst M1
      refine e_iload_n C dX3_answer_23 rfl ?_
      refine e_icmp_ge C (tgt := 32) dX3_answer_24 (by decide) (by omega) (by omega) (fun h_24 => ?_) (fun h_24 => ?_)
      · refine e_aload_n C dX3_answer_32 rfl ?_
        refine e_getI C f_X3_9 sh_19 dX3_answer_33 ?_
        exact e_ireturn C dX3_answer_36 ⟨by unfold ansI; rw [if_neg (by omega)]; first | rw [if_pos (by omega)] | rw [if_neg (by omega)], rfl⟩
      · refine e_bipush C dX3_answer_27 ?_
        refine e_goto C (tgt := 36) dX3_answer_29 (by decide) ?_
        exact e_ireturn C dX3_answer_36 ⟨by unfold ansI; rw [if_neg (by omega)]; first | rw [if_pos (by omega)] | rw [if_neg (by omega)], rfl⟩
    · refine e_bipush C dX3_answer_16 ?_
      exact e_ireturn C dX3_answer_18 ⟨by unfold ansI; rw [if_pos (by omega)], rfl⟩
def shAdd (M : pMem) (a n : Nat) (c x y w : Int) : pMem := stI (stI (stI (stI (stI M (a + 1) n c) (a + 2) n x) (a + 3) n y) (a + 4) n w) a 4 ((n : Int) + 1)
theorem c_add {g : pG} {M : pMem} {a N n : Nat} {c x y w : Int} (hA : pSh M a N) (hN : N ≤ 16) (hn : mI M a 4 = (n : Int)) (hnN : n < N) (hw : w = 0 ∨ w = 1) : pCn g 1 0 0 yX4_add cX4_add 5 none SH SH M [.inr (.inr a), .inl c, .inl x, .inl y, .inl w] (fun r M' => r = none ∧ M' = shAdd M a n c x y w) := by
  refine pCn_intro mt_X4_add (fun X C => ?_)
  show pE g 5 X _ SH M 0 0 0 [some (.inr (.inr a)), some (.inl c), some (.inl x), some (.inl y), some (.inl w)] []
  refine e_aload_n C dX4_add_0 rfl ?_
  refine e_getI C f_X4_9 hA.1 dX4_add_1 ?_
  refine e_aload_n C dX4_add_4 rfl ?_
  refine e_getR C f_X4_15 hA.1 hA.2.2.2.2.2.1 dX4_add_5 ?_
  refine e_alen C dX4_add_8 hA.2.1 (by decide) ?_
  refine e_icmp_ge C (tgt := 63) dX4_add_9 (by decide) (by omega) (by omega) (fun h_9 => by exfalso; omega) (fun h_9 => ?_)
  refine e_aload_n C dX4_add_12 rfl ?_
  refine e_getR C f_X4_15 hA.1 hA.2.2.2.2.2.1 dX4_add_13 ?_
  refine e_aload_n C dX4_add_16 rfl ?_
  refine e_getI C f_X4_9 hA.1 dX4_add_17 ?_
  refine e_iload_n C dX4_add_20 rfl ?_
  refine e_iastore C dX4_add_21 hA.2.1 n hn (by omega) ?_
  refine e_aload_n C dX4_add_22 rfl ?_
  refine e_getR C f_X4_19 hA.1 hA.2.2.2.2.2.2.1 dX4_add_23 ?_
  refine e_aload_n C dX4_add_26 rfl ?_
  refine e_getI C f_X4_9 hA.1 dX4_add_27 ?_
  refine e_iload_n C dX4_add_30 rfl ?_
  refine e_iastore C dX4_add_31 hA.2.2.1 n (by rw [stI_n _ _ (by omega)]; exact hn) (by omega) ?_
  refine e_aload_n C dX4_add_32 rfl ?_
  refine e_getR C f_X4_22 hA.1 hA.2.2.2.2.2.2.2.1 dX4_add_33 ?_
  refine e_aload_n C dX4_add_36 rfl ?_
  refine e_getI C f_X4_9 hA.1 dX4_add_37 ?_
  refine e_iload_n C dX4_add_40 rfl ?_
  refine e_iastore C dX4_add_41 hA.2.2.2.1 n (by rw [stI_n _ _ (by omega), stI_n _ _ (by omega)]; exact hn) (by omega) ?_
  refine e_aload_n C dX4_add_42 rfl ?_
  refine e_getR C f_X4_25 hA.1 hA.2.2.2.2.2.2.2.2 dX4_add_43 ?_
  refine e_aload_n C dX4_add_46 rfl ?_
  refine e_getI C f_X4_9 hA.1 dX4_add_47 ?_
  refine e_iload C dX4_add_50 rfl ?_
  refine e_bastore C dX4_add_52 hA.2.2.2.2.1 n (by rw [stI_n _ _ (by omega), stI_n _ _ (by omega), stI_n _ _ (by omega)]; exact hn) hnN hw ?_
  refine e_aload_n C dX4_add_53 rfl ?_
  refine e_dup C dX4_add_54 ?_
  refine e_getI C f_X4_9 hA.1 dX4_add_55 ?_
  refine e_iconst C dX4_add_58 ?_
  refine e_iadd C dX4_add_59 ?_
  refine e_putI C f_X4_9 hA.1 (hd := dX4_add_60) (hfin := (fun CC T h => by obtain ⟨h1, -⟩ := h; cases h1; rfl)) ?_
  exact e_return C dX4_add_63 ⟨rfl, by unfold shAdd; congr 1; rw [stI_n _ _ (by omega), stI_n _ _ (by omega), stI_n _ _ (by omega), stI_n _ _ (by omega), hn]⟩
def kdClear (M : pMem) (a : Nat) : pMem := wrL (stI (stI M (a + 1) 4 0) a 2 0) (a + 6) (fil (mL M (a + 6)) (-1) 16)
theorem c_kclear {g : pG} {M : pMem} {a : Nat} (hA : pKd M a) : pCn g 1 0 0 yX0_clear cX0_clear 2 none SH SH M [.inr (.inr a)] (fun r M' => r = none ∧ M' = kdClear M a) := by
  refine pCn_intro mt_X0_clear (fun X C => ?_)
  have loop : ∀ (i : Nat) (s : Unit), i ≤ 16 → True → pE g 2 X (pMQ g SH (fun r M' => r = none ∧ M' = kdClear M a) X 0 0) SH (wrL (stI (stI M (a + 1) 4 0) a 2 0) (a + 6) (fil (mL M (a + 6)) (-1) i)) 0 0 15 [some (.inr (.inr a)), some (.inl (i : Int))] [] := by
    refine p_for 16 _ _ ?_ ?_
    · intro s _
      refine e_iload_n C dX0_clear_15 rfl ?_
      refine e_bipush C dX0_clear_16 ?_
      refine e_icmp_ge C (tgt := 36) dX0_clear_18 (by decide) (by omega) (by omega) (fun h_18 => ?_) (fun h_18 => by exfalso; omega)
      exact e_return C dX0_clear_36 ⟨rfl, rfl⟩
    · intro i s hi _ ih
      refine e_iload_n C dX0_clear_15 rfl ?_
      refine e_bipush C dX0_clear_16 ?_
      refine e_icmp_ge C (tgt := 36) dX0_clear_18 (by decide) (by omega) (by omega) (fun h_18 => by exfalso; omega) (fun h_18 => ?_)
      refine e_aload_n C dX0_clear_21 rfl ?_
      refine e_getR C f_X0_20 hA.1 hA.2.2.2.2 dX0_clear_22 ?_
      refine e_iload_n C dX0_clear_25 rfl ?_
      refine e_ldc2 C (-1) k_X0_31 dX0_clear_26 ?_
      refine e_lastore C dX0_clear_29 hA.2.2.2.1 _ rfl (by omega) ?_
      refine e_iinc C dX0_clear_30 rfl ?_
      refine e_goto C (tgt := 15) dX0_clear_33 (by decide) ?_
      exact pE_M (by rw [stL_wr, fil_s]) (ih () trivial)
  show pE g 2 X _ SH M 0 0 0 [some (.inr (.inr a)), none] []
  refine e_aload_n C dX0_clear_0 rfl ?_
  refine e_getR C f_X0_14 hA.1 hA.2.1 dX0_clear_1 ?_
  refine e_iconst C dX0_clear_4 ?_
  refine e_putI C f_X0_28 hA.2.2.1.1 (hd := dX0_clear_5) (hfin := (fun CC T h => by obtain ⟨h1, -⟩ := h; cases h1; rfl)) ?_
  refine e_aload_n C dX0_clear_8 rfl ?_
  refine e_iconst C dX0_clear_9 ?_
  refine e_putI C f_X0_24 hA.1 (hd := dX0_clear_10) (hfin := (fun CC T h => by obtain ⟨h1, -⟩ := h; cases h1; rfl)) ?_
  refine e_iconst C dX0_clear_13 ?_
  refine e_istore_n C dX0_clear_14 ?_
  exact pE_M (by rw [fil_0]; exact (wrL_e _ _).symm) (loop 0 () (by omega) trivial)
