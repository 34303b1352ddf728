/-! ===== forgetting ===== -/
def fgt (p : Nat) (M N : pMem) : Prop := (∀ b j, mR N b j = mR M b j) ∧ (∀ b j, b ≠ 36 → mI N b j = mI M b j) ∧ (∀ q r, q < 16 → r < 16 → mI N 36 (q * 16 + r) = -1 ∨ (q ≠ p ∧ r ≠ p ∧ mI N 36 (q * 16 + r) = mI M 36 (q * 16 + r))) ∧ (∀ b j, mL N b j = mL M b j ∨ mL N b j = -1) ∧ ∀ k, k < 5 → mL N (118 + 7 * k + 6) p = -1
theorem c_forgetPage {g : pG} {M : pMem} {p : Nat} (hW : pW M) (hp : p < 16) :
    pCn g 1 0 0 yX5_forgetPage cX5_forgetPage 3 none SH SH M [.inr (.inr 0), .inl (p : Int)] (fun r M' => r = none ∧ fgt p M M') := by
  refine pCn_intro mt_X5_forgetPage (fun X C => ?_)
  have l2 : ∀ (N1 : pMem), ((∀ b j, mR N1 b j = mR M b j) ∧ (∀ b j, mI N1 b j = mI M b j) ∧ (∀ b j, mL N1 b j = mL M b j ∨ mL N1 b j = -1) ∧ ∀ k, k < 5 → mL N1 (118 + 7 * k + 6) p = -1) → ∀ (i : Nat) (f : Nat → Int), i ≤ 16 → ((∀ q r, q < 16 → r < 16 → f (q * 16 + r) = -1 ∨ f (q * 16 + r) = mI M 36 (q * 16 + r)) ∧ ∀ r, r < i → f (p * 16 + r) = -1 ∧ f (r * 16 + p) = -1) → pE g 3 X (pMQ g SH (fun r M' => r = none ∧ fgt p M M') X 0 0) SH (wrI N1 36 f) 0 0 29 [some (.inr (.inr 0)), some (.inl (p : Int)), some (.inl (i : Int))] [] := by
    rintro N1 ⟨n1, n2, n3, n4⟩
    have hW1 : pW N1 := fun a i b hb => (n1 a i).trans (hW a i b hb)
    refine p_for 16 _ _ ?_ ?_
    · rintro f ⟨f1, f2⟩
      refine e_iload_n C dX5_forgetPage_29 rfl ?_
      refine e_bipush C dX5_forgetPage_30 ?_
      refine e_icmp_ge C (tgt := 65) dX5_forgetPage_32 (by decide) (by omega) (by omega) (fun h_32 => ?_) (fun h_32 => by exfalso; omega)
      refine e_return C dX5_forgetPage_65 ⟨rfl, n1, fun b j hb => by rw [wrI_n _ _ _ hb]; exact n2 b j, fun q r hq hr => ?_, n3, n4⟩
      rw [wrI_s]
      by_cases e1 : q = p
      · subst e1; exact Or.inl (f2 r hr).1
      · by_cases e2 : r = p
        · subst e2; exact Or.inl (f2 q hq).2
        · rcases f1 q r hq hr with z | z
          · exact Or.inl z
          · exact Or.inr ⟨e1, e2, z⟩
    · rintro i f hi ⟨f1, f2⟩ ih
      refine e_iload_n C dX5_forgetPage_29 rfl ?_
      refine e_bipush C dX5_forgetPage_30 ?_
      refine e_icmp_ge C (tgt := 65) dX5_forgetPage_32 (by decide) (by omega) (by omega) (fun h_32 => by exfalso; omega) (fun h_32 => ?_)
      refine e_aload_n C dX5_forgetPage_35 rfl ?_
      refine e_getR C f_X5_60 sh_0 (hW1 0 10 36 rfl) dX5_forgetPage_36 ?_
      refine e_iload_n C dX5_forgetPage_39 rfl ?_
      refine e_bipush C dX5_forgetPage_40 ?_
      refine e_imul C dX5_forgetPage_42 ?_
      refine e_iload_n C dX5_forgetPage_43 rfl ?_
      refine e_iadd C dX5_forgetPage_44 ?_
      refine e_iconst C dX5_forgetPage_45 ?_
      refine e_iastore C dX5_forgetPage_46 sh_36 (p * 16 + i) (by omega) (by omega) ?_
      rw [stI_wr]
      refine e_aload_n C dX5_forgetPage_47 rfl ?_
      refine e_getR C f_X5_60 sh_0 (hW1 0 10 36 rfl) dX5_forgetPage_48 ?_
      refine e_iload_n C dX5_forgetPage_51 rfl ?_
      refine e_bipush C dX5_forgetPage_52 ?_
      refine e_imul C dX5_forgetPage_54 ?_
      refine e_iload_n C dX5_forgetPage_55 rfl ?_
      refine e_iadd C dX5_forgetPage_56 ?_
      refine e_iconst C dX5_forgetPage_57 ?_
      refine e_iastore C dX5_forgetPage_58 sh_36 (i * 16 + p) (by omega) (by omega) ?_
      rw [stI_wr]
      refine e_iinc C dX5_forgetPage_59 rfl ?_
      refine e_goto C (tgt := 29) dX5_forgetPage_62 (by decide) ?_
      refine ih _ ⟨fun q r hq hr => ?_, fun r hr => ?_⟩
      · by_cases e1 : q * 16 + r = i * 16 + p
        · rw [e1, up_s]; exact Or.inl rfl
        · rw [up_n e1]
          by_cases e2 : q * 16 + r = p * 16 + i
          · rw [e2, up_s]; exact Or.inl rfl
          · rw [up_n e2]; exact f1 q r hq hr
      · constructor
        · by_cases e1 : p * 16 + r = i * 16 + p
          · rw [e1, up_s]
          · rw [up_n e1]
            by_cases e2 : p * 16 + r = p * 16 + i
            · rw [e2, up_s]
            · rw [up_n e2]; exact (f2 r (by omega)).1
        · by_cases e1 : r * 16 + p = i * 16 + p
          · rw [e1, up_s]
          · rw [up_n e1]
            by_cases e2 : r * 16 + p = p * 16 + i
            · rw [e2, up_s]
            · rw [up_n e2]; exact (f2 r (by omega)).2
  have l1 : ∀ (k : Nat) (N : pMem), k ≤ 5 → ((∀ b j, mR N b j = mR M b j) ∧ (∀ b j, mI N b j = mI M b j) ∧ (∀ b j, mL N b j = mL M b j ∨ mL N b j = -1) ∧ ∀ i, i < k → mL N (118 + 7 * i + 6) p = -1) → pE g 3 X (pMQ g SH (fun r M' => r = none ∧ fgt p M M') X 0 0) SH N 0 0 2 [some (.inr (.inr 0)), some (.inl (p : Int)), some (.inl (k : Int))] [] := by
    refine p_for 5 _ _ ?_ ?_
    · rintro N ⟨n1, n2, n3, n4⟩
      refine e_iload_n C dX5_forgetPage_2 rfl ?_
      refine e_iconst C dX5_forgetPage_3 ?_
      refine e_icmp_ge C (tgt := 27) dX5_forgetPage_4 (by decide) (by omega) (by omega) (fun h_4 => ?_) (fun h_4 => by exfalso; omega)
      refine e_iconst C dX5_forgetPage_27 ?_
      refine e_istore_n C dX5_forgetPage_28 ?_
      exact pE_M (wrI_e N 36).symm (l2 N ⟨n1, n2, n3, n4⟩ 0 (mI N 36) (by omega) ⟨fun q r _ _ => Or.inr (n2 36 _), fun r hr => absurd hr (Nat.not_lt_zero r)⟩)
    · rintro k N hk ⟨n1, n2, n3, n4⟩ ih
      have hWN : pW N := fun a i b hb => (n1 a i).trans (hW a i b hb)
      refine e_iload_n C dX5_forgetPage_2 rfl ?_
      refine e_iconst C dX5_forgetPage_3 ?_
      refine e_icmp_ge C (tgt := 27) dX5_forgetPage_4 (by decide) (by omega) (by omega) (fun h_4 => by exfalso; omega) (fun h_4 => ?_)
      refine e_aload_n C dX5_forgetPage_7 rfl ?_
      refine e_getR C f_X5_21 sh_0 (hWN 0 2 3 rfl) dX5_forgetPage_8 ?_
      refine e_iload_n C dX5_forgetPage_11 rfl ?_
      refine e_aaload4 C dX5_forgetPage_12 sh_3 _ rfl (by omega) (hWN 3 k _ (rt_kind k hk).1) ?_
      refine e_getR C f_X5_214 (pKd_kind hWN hk).1 (pKd_kind hWN hk).2.2.2.2 dX5_forgetPage_13 ?_
      refine e_iload_n C dX5_forgetPage_16 rfl ?_
      refine e_ldc2 C (-1) k_X5_218 dX5_forgetPage_17 ?_
      refine e_lastore C dX5_forgetPage_20 (pKd_kind hWN hk).2.2.2.1 _ rfl (by omega) ?_
      refine e_iinc C dX5_forgetPage_21 rfl ?_
      refine e_goto C (tgt := 2) dX5_forgetPage_24 (by decide) ?_
      refine ih _ ⟨n1, n2, fun b j => ?_, fun i hi => ?_⟩
      · by_cases e : b = 118 + 7 * k + 6 ∧ j = p
        · rw [e.1, e.2, stL_s]; exact Or.inr rfl
        · rw [stL_n _ _ (by omega)]; exact n3 b j
      · by_cases e : i = k
        · subst e; exact stL_s _ _ _ _
        · rw [stL_n _ _ (by omega)]; exact n4 i (by omega)
  show pE g 3 X _ SH M 0 0 0 [some (.inr (.inr 0)), some (.inl (p : Int)), none] []
  refine e_iconst C dX5_forgetPage_0 ?_
  refine e_istore_n C dX5_forgetPage_1 ?_
  exact l1 0 M (by omega) ⟨fun _ _ => rfl, fun _ _ => rfl, fun _ _ => Or.inl rfl, fun i hi => absurd hi (Nat.not_lt_zero i)⟩
def fgA (n : Nat) (M N : pMem) : Prop := (∀ b j, mR N b j = mR M b j) ∧ (∀ b j, b ≠ 36 → mI N b j = mI M b j) ∧ (∀ q r, q < n → r < 16 → mI N 36 (q * 16 + r) = -1) ∧ (∀ b j, mL N b j = mL M b j ∨ mL N b j = -1) ∧ ∀ k p, k < 5 → p < n → mL N (118 + 7 * k + 6) p = -1
theorem c_forgetLayings {g : pG} {M : pMem} (hW : pW M) :
    pCn g 2 0 0 yX5_forgetLayings cX5_forgetLayings 2 none SH SH M [.inr (.inr 0)] (fun r M' => r = none ∧ fgA 16 M M') := by
  refine pCn_intro mt_X5_forgetLayings (fun X C => ?_)
  have l1 : ∀ (i : Nat) (N : pMem), i ≤ 16 → fgA i M N → pE g 2 X (pMQ g SH (fun r M' => r = none ∧ fgA 16 M M') X 0 0) SH N 0 0 2 [some (.inr (.inr 0)), some (.inl (i : Int))] [] := by
    refine p_for 16 _ _ ?_ ?_
    · rintro N hI
      refine e_iload_n C dX5_forgetLayings_2 rfl ?_
      refine e_bipush C dX5_forgetLayings_3 ?_
      refine e_icmp_ge C (tgt := 19) dX5_forgetLayings_5 (by decide) (by omega) (by omega) (fun h_5 => ?_) (fun h_5 => by exfalso; omega)
      exact e_return C dX5_forgetLayings_19 ⟨rfl, hI⟩
    · rintro i N hi ⟨n1, n2, n3, n4, n5⟩ ih
      have hWN : pW N := fun a i b hb => (n1 a i).trans (hW a i b hb)
      refine e_iload_n C dX5_forgetLayings_2 rfl ?_
      refine e_bipush C dX5_forgetLayings_3 ?_
      refine e_icmp_ge C (tgt := 19) dX5_forgetLayings_5 (by decide) (by omega) (by omega) (fun h_5 => by exfalso; omega) (fun h_5 => ?_)
      refine e_aload_n C dX5_forgetLayings_8 rfl ?_
      refine e_iload_n C dX5_forgetLayings_9 rfl ?_
      refine e_callV C (c_forgetPage (M := N) (p := i) hWN hi) mt_X5_forgetPage s_X5_104 dX5_forgetLayings_10 5 sh_0 rfl (fun r M1 hq => ?_)
      obtain ⟨rfl, f1, f2, f3, f4, f5⟩ := hq
      dsimp only [Option.toList_none, List.nil_append]
      refine e_iinc C dX5_forgetLayings_13 rfl ?_
      refine e_goto C (tgt := 2) dX5_forgetLayings_16 (by decide) ?_
      refine ih M1 ⟨fun b j => (f1 b j).trans (n1 b j), fun b j hb => (f2 b j hb).trans (n2 b j hb), fun q r hq hr => ?_, fun b j => ?_, fun k p hk hp => ?_⟩
      · rcases f3 q r (by omega) hr with z | ⟨z1, z2, z3⟩
        · exact z
        · rw [z3]; exact n3 q r (by omega) hr
      · rcases f4 b j with z | z
        · rw [z]; exact n4 b j
        · exact Or.inr z
      · by_cases e : p = i
        · subst e; exact f5 k hk
        · rcases f4 (118 + 7 * k + 6) p with z | z
          · rw [z]; exact n5 k p hk (by omega)
          · exact z
  show pE g 2 X _ SH M 0 0 0 [some (.inr (.inr 0)), none] []
  refine e_iconst C dX5_forgetLayings_0 ?_
  refine e_istore_n C dX5_forgetLayings_1 ?_
  exact l1 0 M (by omega) ⟨fun _ _ => rfl, fun _ _ _ => rfl, fun q r hq => absurd hq (Nat.not_lt_zero q), fun _ _ => Or.inl rfl, fun k p _ hp => absurd hp (Nat.not_lt_zero p)⟩
theorem c_remake {g : pG} {M : pMem} {k : Int} (hW : pW M) (hG : pgM M) (hT : ∀ p, p < 16 → -1 ≤ mI M 2 p ∧ mI M 2 p < 5) (hi_k : -2147483648 ≤ k ∧ k < 2147483648) :
    pCn g 4 0 0 yX5_remake cX5_remake 2 none SH SH M [.inr (.inr 0), .inl k] (fun r M' => r = none ∧ ((¬ (0 ≤ k ∧ k < 5) ∧ M' = M) ∨ ((0 ≤ k ∧ k < 5) ∧ agr (mkO (118 + 7 * k.toNat)) M M' ∧ isKd (pgC M) (mI M 2) k (mI M' (118 + 7 * k.toNat) 2) (nSp M' (118 + 7 * k.toNat)) (shS M' (118 + 7 * k.toNat + 1)) ∧ mI M' (118 + 7 * k.toNat + 1) 4 = ((nSp M' (118 + 7 * k.toNat) : Nat) : Int) ∧ ∀ j, j < 16 → mL M' (118 + 7 * k.toNat + 6) j = -1))) := by
  refine pCn_intro mt_X5_remake (fun X C => ?_)
  show pE g 2 X _ SH M 0 0 0 [some (.inr (.inr 0)), some (.inl k)] []
  refine e_iload_n C dX5_remake_0 rfl ?_
  refine e_callS C (c_isKind hi_k) mt_X5_isKind s_X5_129 dX5_remake_1 (fun r M1 hq => ?_)
  obtain ⟨rfl, hM⟩ := hq
  subst M1
  by_cases hk5 : 0 ≤ k ∧ k < 5
  rotate_left
  · rw [if_neg hk5]
    refine e_if_eq C (tgt := 29) dX5_remake_4 (by decide) (by omega) (fun _ => ?_) (fun h => absurd rfl h)
    exact e_return C dX5_remake_29 ⟨rfl, Or.inl ⟨hk5, rfl⟩⟩
  rw [if_pos hk5]
  obtain ⟨j, rfl⟩ := Int.eq_ofNat_of_zero_le hk5.1
  have hj : j < 5 := by omega
  refine e_if_eq C (tgt := 29) dX5_remake_4 (by decide) (by omega) (fun h_4 => by exact absurd h_4 (by decide)) (fun h_4 => ?_)
  refine e_aload_n C dX5_remake_7 rfl ?_
  refine e_getR C f_X5_35 sh_0 (hW 0 4 15 rfl) dX5_remake_8 ?_
  refine e_aload_n C dX5_remake_11 rfl ?_
  refine e_getR C f_X5_21 sh_0 (hW 0 2 3 rfl) dX5_remake_12 ?_
  refine e_iload_n C dX5_remake_15 rfl ?_
  refine e_aaload4 C dX5_remake_16 sh_3 _ rfl (by omega) (hW 3 j _ (rt_kind j hj).1) ?_
  refine e_iload_n C dX5_remake_17 rfl ?_
  refine e_aload_n C dX5_remake_18 rfl ?_
  refine e_getR C f_X5_11 sh_0 (hW 0 0 1 rfl) dX5_remake_19 ?_
  refine e_aload_n C dX5_remake_22 rfl ?_
  refine e_getR C f_X5_15 sh_0 (hW 0 1 2 rfl) dX5_remake_23 ?_
  refine e_callV C (c_make (M := M) (a := 118 + 7 * j) (ta := 2) (T := mI M 2) (k := (j : Int)) hW (pKd_kind hW hj) (by omega) rfl (Or.inl rfl) (fun p hp => ⟨rfl, hT p hp⟩) hk5 hG) mt_X2_make s_X5_210 dX5_remake_26 2 sh_15 rfl (fun r M1 hq => ?_)
  obtain ⟨rfl, m1, m2, m3, m4⟩ := hq
  dsimp only [Option.toList_none, List.nil_append]
  exact e_return C dX5_remake_29 ⟨rfl, Or.inr ⟨hk5, m1, m2, m3, m4⟩⟩
