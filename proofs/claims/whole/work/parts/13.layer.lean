/-! ===== the layer's rows ===== -/
def LM (M : pMem) (u v o sl cf rc : Nat → Int) : pMem := wrL (wrL (wrL (wrI (wrI (wrI M 11 o) 13 cf) 14 rc) 9 u) 10 v) 12 sl
section PLM
variable {M : pMem} {u v o sl cf rc : Nat → Int}
theorem LM_u (j : Nat) : mL (LM M u v o sl cf rc) 9 j = u j := rfl
theorem LM_stu (j : Nat) (x : Int) : stL (LM M u v o sl cf rc) 9 j x = LM M (up u j x) v o sl cf rc := by
  rw [stL_w]
  have e1 : up (mL (LM M u v o sl cf rc) 9) j x = up u j x := by funext i; simp only [up]; split <;> first | rfl | simp_all
  rw [e1]
  unfold LM wrL wrI
  simp only [Prod.mk.injEq, and_true, true_and]
  first | (funext b i; (repeat' split) <;> simp_all) | (refine ⟨?_, ?_⟩ <;> (funext b i; (repeat' split) <;> simp_all))
theorem LM_v (j : Nat) : mL (LM M u v o sl cf rc) 10 j = v j := rfl
theorem LM_stv (j : Nat) (x : Int) : stL (LM M u v o sl cf rc) 10 j x = LM M u (up v j x) o sl cf rc := by
  rw [stL_w]
  have e1 : up (mL (LM M u v o sl cf rc) 10) j x = up v j x := by funext i; simp only [up]; split <;> first | rfl | simp_all
  rw [e1]
  unfold LM wrL wrI
  simp only [Prod.mk.injEq, and_true, true_and]
  first | (funext b i; (repeat' split) <;> simp_all) | (refine ⟨?_, ?_⟩ <;> (funext b i; (repeat' split) <;> simp_all))
theorem LM_o (j : Nat) : mI (LM M u v o sl cf rc) 11 j = o j := rfl
theorem LM_sto (j : Nat) (x : Int) : stI (LM M u v o sl cf rc) 11 j x = LM M u v (up o j x) sl cf rc := by
  rw [stI_w]
  have e1 : up (mI (LM M u v o sl cf rc) 11) j x = up o j x := by funext i; simp only [up]; split <;> first | rfl | simp_all
  rw [e1]
  unfold LM wrL wrI
  simp only [Prod.mk.injEq, and_true, true_and]
  first | (funext b i; (repeat' split) <;> simp_all) | (refine ⟨?_, ?_⟩ <;> (funext b i; (repeat' split) <;> simp_all))
theorem LM_sl (j : Nat) : mL (LM M u v o sl cf rc) 12 j = sl j := rfl
theorem LM_stsl (j : Nat) (x : Int) : stL (LM M u v o sl cf rc) 12 j x = LM M u v o (up sl j x) cf rc := by
  rw [stL_w]
  have e1 : up (mL (LM M u v o sl cf rc) 12) j x = up sl j x := by funext i; simp only [up]; split <;> first | rfl | simp_all
  rw [e1]
  unfold LM wrL wrI
  simp only [Prod.mk.injEq, and_true, true_and]
  first | (funext b i; (repeat' split) <;> simp_all) | (refine ⟨?_, ?_⟩ <;> (funext b i; (repeat' split) <;> simp_all))
theorem LM_cf (j : Nat) : mI (LM M u v o sl cf rc) 13 j = cf j := rfl
theorem LM_stcf (j : Nat) (x : Int) : stI (LM M u v o sl cf rc) 13 j x = LM M u v o sl (up cf j x) rc := by
  rw [stI_w]
  have e1 : up (mI (LM M u v o sl cf rc) 13) j x = up cf j x := by funext i; simp only [up]; split <;> first | rfl | simp_all
  rw [e1]
  unfold LM wrL wrI
  simp only [Prod.mk.injEq, and_true, true_and]
  first | (funext b i; (repeat' split) <;> simp_all) | (refine ⟨?_, ?_⟩ <;> (funext b i; (repeat' split) <;> simp_all))
theorem LM_rc (j : Nat) : mI (LM M u v o sl cf rc) 14 j = rc j := rfl
theorem LM_strc (j : Nat) (x : Int) : stI (LM M u v o sl cf rc) 14 j x = LM M u v o sl cf (up rc j x) := by
  rw [stI_w]
  have e1 : up (mI (LM M u v o sl cf rc) 14) j x = up rc j x := by funext i; simp only [up]; split <;> first | rfl | simp_all
  rw [e1]
  unfold LM wrL wrI
  simp only [Prod.mk.injEq, and_true, true_and]
  first | (funext b i; (repeat' split) <;> simp_all) | (refine ⟨?_, ?_⟩ <;> (funext b i; (repeat' split) <;> simp_all))
theorem LM_I {a : Nat} (j : Nat) (h : a ≠ 11 ∧ a ≠ 13 ∧ a ≠ 14) : mI (LM M u v o sl cf rc) a j = mI M a j := by
  show (if a = 14 then rc j else if a = 13 then cf j else if a = 11 then o j else M.1 a j) = M.1 a j
  rw [if_neg h.2.2, if_neg h.2.1, if_neg h.1]
theorem LM_L {a : Nat} (j : Nat) (h : a ≠ 9 ∧ a ≠ 10 ∧ a ≠ 12) : mL (LM M u v o sl cf rc) a j = mL M a j := by
  show (if a = 12 then sl j else if a = 10 then v j else if a = 9 then u j else M.2.1 a j) = M.2.1 a j
  rw [if_neg h.2.2, if_neg h.2.1, if_neg h.1]
theorem LM_e : M = LM M (mL M 9) (mL M 10) (mI M 11) (mL M 12) (mI M 13) (mI M 14) := by
  unfold LM
  have h1 : ∀ (N : pMem) (a : Nat) (f : Nat → Int), f = mI N a → wrI N a f = N := fun N a f h => by rw [h]; exact wrI_e N a
  have h2 : ∀ (N : pMem) (a : Nat) (f : Nat → Int), f = mL N a → wrL N a f = N := fun N a f h => by rw [h]; exact wrL_e N a
  rw [h1 M 11 _ rfl, h1 M 13 _ rfl, h1 M 14 _ rfl, h2 M 9 _ rfl, h2 M 10 _ rfl, h2 M 12 _ rfl]
end PLM
theorem hu_rng {k ns : Nat} {w : Nat → Nat → Int} {u v o : Nat → Int} {B : Int} (h : huI k ns w u v o) (hB : ∀ b c, b ≤ k → c ≤ ns → -B ≤ w b c) (hBB : ∀ b c, b ≤ k → c ≤ ns → w b c ≤ B) :
    (∀ b, b < k → -B ≤ u b ∧ u b ≤ B) ∧ ∀ c, c ≤ ns → v c ≤ 0 ∧ (0 ≤ B → -(2 * B) ≤ v c) := by
  obtain ⟨i1, i2, i3, i4, i5, i6, i7, i8⟩ := id h
  have hv : ∀ c, c ≤ ns → v c ≤ 0 := fun c hc => by
    rcases Nat.lt_or_ge c ns with z | z
    · exact i2 c z
    · have : c = ns := by omega
      rw [this, i3]; omega
  have hu : ∀ b, b < k → -B ≤ u b ∧ u b ≤ B := by
    intro b hb
    have h1 := i1 b ns hb (Nat.le_refl _)
    have h2 := hBB b ns (by omega) (Nat.le_refl _)
    refine ⟨?_, by omega⟩
    rcases i8 b hb with ⟨c, c1, c2⟩ | z
    · obtain ⟨b', b1, b2, b3, b4⟩ := huI_o h c1 (by omega)
      have : b' = b := by omega
      subst this
      have := hB b' c (by omega) (by omega)
      have := hv c (by omega)
      omega
    · have := hB b ns (by omega) (Nat.le_refl _)
      omega
  refine ⟨hu, fun c hc => ⟨hv c hc, fun h0 => ?_⟩⟩
  rcases Nat.lt_or_ge c ns with z | z
  · by_cases ho : o c = -1
    · rw [i5 c z ho]; omega
    · obtain ⟨b, b1, b2, b3, b4⟩ := huI_o h z ho
      have := hB b c (by omega) hc
      have := (hu b b1).2
      omega
  · have : c = ns := by omega
    rw [this, i3]; omega
theorem c_reach {g : pG} {M : pMem} {u v o sl cf rc : Nat → Int} {w : Nat → Nat → Int} {frm : Int} {k : Nat} (hW : pW M) {ns : Nat} (hns : mI M 4 6 = (ns : Int)) (hn16 : ns ≤ 16) (hk : k < 8) (hw : ∀ c, c ≤ ns → mL M 8 (k * 17 + c) = w k c) (hrc : ∀ c, c ≤ ns → rc c = 0 ∨ rc c = 1) (hrn : rc ns = 0)
    (hr1 : ∀ c, c ≤ ns → -4000000000000000000 ≤ w k c - u k - v c ∧ w k c - u k - v c ≤ 4000000000000000000) (hr2 : ∀ c, c ≤ ns → rc c = 0 → -4000000000000000000 ≤ sl c ∧ sl c ≤ 4000000000000000000) :
    pCn g 1 0 0 yX1_reach cX1_reach 7 (some .int) SH SH (LM M u v o sl cf rc) [.inr (.inr 4), .inl (k : Int), .inl frm] (fun r M' => ∃ (q : Nat) (sl' cf' : Nat → Int), r = some (.inl (q : Int)) ∧ M' = LM M u v o sl' cf' rc ∧ rchd ns w u v sl cf rc sl' cf' k frm q) := by
  refine pCn_intro mt_X1_reach (fun X C => ?_)
  have loop : ∀ s : Nat × Int × (Nat → Int) × (Nat → Int) × Nat × Option pV × Option pV, (s.1 ≤ ns + 1 ∧ s.2.1 = (s.1 : Int) - 1 ∧ (∀ c, c ≤ ns → c < s.1 → s.2.2.1 c = sl c ∧ s.2.2.2.1 c = cf c) ∧ (∀ c, c ≤ ns → s.1 ≤ c → (rc c = 1 → s.2.2.1 c = sl c ∧ s.2.2.2.1 c = cf c) ∧ (rc c = 0 → (w k c - u k - v c < sl c ∧ s.2.2.1 c = w k c - u k - v c ∧ s.2.2.2.1 c = frm) ∨ (sl c ≤ w k c - u k - v c ∧ s.2.2.1 c = sl c ∧ s.2.2.2.1 c = cf c))) ∧
      s.2.2.2.2.1 ≤ ns ∧ rc s.2.2.2.2.1 = 0 ∧ (s.2.2.2.2.1 = ns ∨ s.1 ≤ s.2.2.2.2.1) ∧ (∀ c, c ≤ ns → s.1 ≤ c → rc c = 0 → s.2.2.1 s.2.2.2.2.1 ≤ s.2.2.1 c)) →
      pE g 7 X (pMQ g SH (fun r M' => ∃ (q : Nat) (sl' cf' : Nat → Int), r = some (.inl (q : Int)) ∧ M' = LM M u v o sl' cf' rc ∧ rchd ns w u v sl cf rc sl' cf' k frm q) X 0 0) SH (LM M u v o s.2.2.1 s.2.2.2.1 rc) 0 0 11 [some (.inr (.inr 4)), some (.inl (k : Int)), some (.inl frm), some (.inl (s.2.2.2.2.1 : Int)), some (.inl s.2.1), s.2.2.2.2.2.1, s.2.2.2.2.2.2] [] := by
    refine p_loop _ _ (fun s => s.1) ?_
    rintro ⟨n1, z1, s1, f1, q1, x1, x2⟩ ⟨a1, a2, a3, a4, a5, a6, a7, a8⟩ ih
    dsimp only at a1 a2 a3 a4 a5 a6 a7 a8 ih ⊢
    rcases Nat.eq_zero_or_pos n1 with e0 | e0
    · subst e0
      refine e_iload C dX1_reach_11 rfl ?_
      refine e_if_lt C (tgt := 111) dX1_reach_13 (by decide) (by omega) (fun h_13 => ?_) (fun h_13 => by exfalso; omega)
      refine e_iload_n C dX1_reach_111 rfl ?_
      exact e_ireturn C dX1_reach_112 ⟨q1, s1, f1, rfl, rfl, fun c hc h => (a4 c hc (Nat.zero_le _)).1 h, fun c hc h => (a4 c hc (Nat.zero_le _)).2 h, a5, a6, fun c hc h => a8 c hc (Nat.zero_le _) h⟩
    · obtain ⟨n2, rfl⟩ : ∃ n2, n1 = n2 + 1 := ⟨n1 - 1, by omega⟩
      have ez : z1 = (n2 : Int) := by omega
      subst ez
      have hr1n := hr1 n2 (by omega)
      obtain ⟨a31, a32⟩ := a3 n2 (by omega) (by omega)
      have hsq : -4000000000000000000 ≤ s1 q1 ∧ s1 q1 ≤ 4000000000000000000 := by
        rcases Nat.lt_or_ge q1 (n2 + 1) with z | z
        · rw [(a3 q1 a5 z).1]; exact hr2 q1 a5 a6
        · rcases (a4 q1 a5 z).2 a6 with y | y
          · rw [y.2.1]; exact hr1 q1 a5
          · rw [y.2.1]; exact hr2 q1 a5 a6
      rcases hrc n2 (by omega) with hc0 | hc1
      rotate_left
      · refine e_iload C dX1_reach_11 rfl ?_
        refine e_if_lt C (tgt := 111) dX1_reach_13 (by decide) (by omega) (fun h_13 => by exfalso; omega) (fun h_13 => ?_)
        refine e_aload_n C dX1_reach_16 rfl ?_
        refine e_getR C f_X1_70 sh_4 (hW 4 18 14 rfl) dX1_reach_17 ?_
        refine e_iload C dX1_reach_20 rfl ?_
        refine e_baload C dX1_reach_22 sh_14 _ rfl (by omega) ?_
        rw [LM_rc, hc1]
        refine e_if_ne C (tgt := 105) dX1_reach_23 (by decide) (by omega) (fun h_23 => ?_) (fun h_23 => by exact absurd (by decide) h_23)
        refine e_iinc C dX1_reach_105 rfl ?_
        refine e_goto C (tgt := 11) dX1_reach_108 (by decide) ?_
        exact ih (n2, (n2 : Int) + -1, s1, f1, q1, x1, x2) ⟨by omega, by dsimp only; omega, fun c hc h => a3 c hc (by omega), fun c hc h => by
          rcases Nat.lt_or_ge n2 c with z | z
          · exact a4 c hc z
          · have e : c = n2 := by dsimp only at h; omega
            subst e
            exact ⟨fun _ => ⟨a31, a32⟩, fun z => absurd hc1 (by omega)⟩, a5, a6, by
          rcases a7 with z | z
          · exact Or.inl z
          · exact Or.inr (by dsimp only; omega), fun c hc h h0 => by
          rcases Nat.lt_or_ge n2 c with z | z
          · exact a8 c hc z h0
          · have e : c = n2 := by dsimp only at h; omega
            subst e; omega⟩ (by dsimp only; omega)
      · refine e_iload C dX1_reach_11 rfl ?_
        refine e_if_lt C (tgt := 111) dX1_reach_13 (by decide) (by omega) (fun h_13 => by exfalso; omega) (fun h_13 => ?_)
        refine e_aload_n C dX1_reach_16 rfl ?_
        refine e_getR C f_X1_70 sh_4 (hW 4 18 14 rfl) dX1_reach_17 ?_
        refine e_iload C dX1_reach_20 rfl ?_
        refine e_baload C dX1_reach_22 sh_14 _ rfl (by omega) ?_
        rw [LM_rc, hc0]
        have hr2n := hr2 n2 (by omega) hc0
        refine e_if_ne C (tgt := 105) dX1_reach_23 (by decide) (by omega) (fun h_23 => by exact absurd rfl h_23) (fun h_23 => ?_)
        refine e_aload_n C dX1_reach_26 rfl ?_
        refine e_getR C f_X1_52 sh_4 (hW 4 12 8 rfl) dX1_reach_27 ?_
        refine e_iload_n C dX1_reach_30 rfl ?_
        refine e_bipush C dX1_reach_31 ?_
        refine e_imul C dX1_reach_33 ?_
        refine e_iload C dX1_reach_34 rfl ?_
        refine e_iadd C dX1_reach_36 ?_
        refine e_laload C dX1_reach_37 sh_8 (k * 17 + n2) (by omega) (by omega) ?_
        rw [LM_L _ (by decide), hw n2 (by omega)]
        refine e_aload_n C dX1_reach_38 rfl ?_
        refine e_getR C f_X1_55 sh_4 (hW 4 13 9 rfl) dX1_reach_39 ?_
        refine e_iload_n C dX1_reach_42 rfl ?_
        refine e_laload C dX1_reach_43 sh_9 _ rfl (by omega) ?_
        rw [LM_u]
        refine e_lsub C dX1_reach_44 ?_
        refine e_aload_n C dX1_reach_45 rfl ?_
        refine e_getR C f_X1_58 sh_4 (hW 4 14 10 rfl) dX1_reach_46 ?_
        refine e_iload C dX1_reach_49 rfl ?_
        refine e_laload C dX1_reach_51 sh_10 _ rfl (by omega) ?_
        rw [LM_v]
        refine e_lsub C dX1_reach_52 ?_
        refine e_lstore C dX1_reach_53 ?_
        refine e_lload C dX1_reach_55 rfl ?_
        refine e_aload_n C dX1_reach_57 rfl ?_
        refine e_getR C f_X1_64 sh_4 (hW 4 16 12 rfl) dX1_reach_58 ?_
        refine e_iload C dX1_reach_61 rfl ?_
        refine e_laload C dX1_reach_63 sh_12 _ rfl (by omega) ?_
        rw [LM_sl, a31]
        refine e_lcmp C dX1_reach_64 (by omega) (by omega) ?_
        by_cases hlt : w k n2 - u k - v n2 < sl n2
        · rw [if_neg (by omega), if_neg (by omega)]
          refine e_if_ge C (tgt := 85) dX1_reach_65 (by decide) (by omega) (fun h => absurd h (by decide)) (fun _ => ?_)
          refine e_aload_n C dX1_reach_68 rfl ?_
          refine e_getR C f_X1_64 sh_4 (hW 4 16 12 rfl) dX1_reach_69 ?_
          refine e_iload C dX1_reach_72 rfl ?_
          refine e_lload C dX1_reach_74 rfl ?_
          refine e_lastore C dX1_reach_76 sh_12 _ rfl (by omega) ?_
          rw [LM_stsl]
          refine e_aload_n C dX1_reach_77 rfl ?_
          refine e_getR C f_X1_67 sh_4 (hW 4 17 13 rfl) dX1_reach_78 ?_
          refine e_iload C dX1_reach_81 rfl ?_
          refine e_iload_n C dX1_reach_83 rfl ?_
          refine e_iastore C dX1_reach_84 sh_13 _ rfl (by omega) ?_
          rw [LM_stcf]
          refine e_aload_n C dX1_reach_85 rfl ?_
          refine e_getR C f_X1_64 sh_4 (hW 4 16 12 rfl) dX1_reach_86 ?_
          refine e_iload C dX1_reach_89 rfl ?_
          refine e_laload C dX1_reach_91 sh_12 _ rfl (by omega) ?_
          rw [LM_sl, up_s]
          refine e_aload_n C dX1_reach_92 rfl ?_
          refine e_getR C f_X1_64 sh_4 (hW 4 16 12 rfl) dX1_reach_93 ?_
          refine e_iload_n C dX1_reach_96 rfl ?_
          refine e_laload C dX1_reach_97 sh_12 q1 rfl (by omega) ?_
          rw [LM_sl]
          have hq2 : -4000000000000000000 ≤ up s1 n2 (w k n2 - u k - v n2) q1 ∧ up s1 n2 (w k n2 - u k - v n2) q1 ≤ 4000000000000000000 := by
            by_cases e : q1 = n2
            · rw [e, up_s]; exact hr1n
            · rw [up_n e]; exact hsq
          refine e_lcmp C dX1_reach_98 (by omega) (by omega) ?_
          by_cases hlt2 : w k n2 - u k - v n2 < up s1 n2 (w k n2 - u k - v n2) q1
          · rw [if_neg (by omega), if_neg (by omega)]
            have hq1 : q1 ≠ n2 := fun e => by rw [e, up_s] at hlt2; omega
            rw [up_n hq1] at hlt2
            refine e_if_ge C (tgt := 105) dX1_reach_99 (by decide) (by omega) (fun h => absurd h (by decide)) (fun _ => ?_)
            refine e_iload C dX1_reach_102 rfl ?_
            refine e_istore_n C dX1_reach_104 ?_
            refine e_iinc C dX1_reach_105 rfl ?_
            refine e_goto C (tgt := 11) dX1_reach_108 (by decide) ?_
            exact ih (n2, (n2 : Int) + -1, (up s1 n2 (w k n2 - u k - v n2)), (up f1 n2 frm), n2, _, _) ⟨by omega, by dsimp only; omega, fun c hc h => by
              have hne : c ≠ n2 := by dsimp only at h; omega
              dsimp only
              rw [up_n hne, up_n hne]; exact a3 c hc (by omega), fun c hc h => by
              dsimp only
              rcases Nat.lt_or_ge n2 c with z | z
              · rw [up_n (by omega), up_n (by omega)]; exact a4 c hc z
              · have e : c = n2 := by dsimp only at h; omega
                subst e
                exact ⟨fun z => absurd hc0 (by omega), fun _ => Or.inl ⟨hlt, up_s, up_s⟩⟩, by dsimp only; omega, hc0, Or.inr (Nat.le_refl _), fun c hc h h0 => by
              dsimp only at h ⊢
              rcases Nat.lt_or_ge n2 c with z | z
              · have := a8 c hc z h0
                rw [up_s, up_n (by omega)]; omega
              · have e : c = n2 := by omega
                subst e; omega⟩ (by dsimp only; omega)
          · have hle : up s1 n2 (w k n2 - u k - v n2) q1 ≤ up s1 n2 (w k n2 - u k - v n2) n2 := by rw [up_s]; omega
            refine e_if_ge C (tgt := 105) dX1_reach_99 (by decide) (by (repeat' split) <;> omega) (fun _ => ?_) (fun h => by (repeat' split at h) <;> omega)
            refine e_iinc C dX1_reach_105 rfl ?_
            refine e_goto C (tgt := 11) dX1_reach_108 (by decide) ?_
            exact ih (n2, (n2 : Int) + -1, (up s1 n2 (w k n2 - u k - v n2)), (up f1 n2 frm), q1, _, _) ⟨by omega, by dsimp only; omega, fun c hc h => by
              have hne : c ≠ n2 := by dsimp only at h; omega
              dsimp only
              rw [up_n hne, up_n hne]; exact a3 c hc (by omega), fun c hc h => by
              dsimp only
              rcases Nat.lt_or_ge n2 c with z | z
              · rw [up_n (by omega), up_n (by omega)]; exact a4 c hc z
              · have e : c = n2 := by dsimp only at h; omega
                subst e
                exact ⟨fun z => absurd hc0 (by omega), fun _ => Or.inl ⟨hlt, up_s, up_s⟩⟩, a5, a6, by
              rcases a7 with z | z
              · exact Or.inl z
              · exact Or.inr (by dsimp only; omega), fun c hc h h0 => by
              dsimp only at h ⊢
              rcases Nat.lt_or_ge n2 c with z | z
              · have hq1 : q1 ≠ n2 := by rcases a7 with y | y <;> omega
                have := a8 c hc z h0
                rw [up_n hq1, up_n (by omega)]; omega
              · have e : c = n2 := by omega
                subst e; exact hle⟩ (by dsimp only; omega)
        · have hge : sl n2 ≤ w k n2 - u k - v n2 := by omega
          refine e_if_ge C (tgt := 85) dX1_reach_65 (by decide) (by (repeat' split) <;> omega) (fun _ => ?_) (fun h => by (repeat' split at h) <;> omega)
          refine e_aload_n C dX1_reach_85 rfl ?_
          refine e_getR C f_X1_64 sh_4 (hW 4 16 12 rfl) dX1_reach_86 ?_
          refine e_iload C dX1_reach_89 rfl ?_
          refine e_laload C dX1_reach_91 sh_12 _ rfl (by omega) ?_
          rw [LM_sl, a31]
          refine e_aload_n C dX1_reach_92 rfl ?_
          refine e_getR C f_X1_64 sh_4 (hW 4 16 12 rfl) dX1_reach_93 ?_
          refine e_iload_n C dX1_reach_96 rfl ?_
          refine e_laload C dX1_reach_97 sh_12 q1 rfl (by omega) ?_
          rw [LM_sl]
          refine e_lcmp C dX1_reach_98 (by omega) (by omega) ?_
          by_cases hlt2 : sl n2 < s1 q1
          · rw [if_neg (by omega), if_neg (by omega)]
            refine e_if_ge C (tgt := 105) dX1_reach_99 (by decide) (by omega) (fun h => absurd h (by decide)) (fun _ => ?_)
            refine e_iload C dX1_reach_102 rfl ?_
            refine e_istore_n C dX1_reach_104 ?_
            refine e_iinc C dX1_reach_105 rfl ?_
            refine e_goto C (tgt := 11) dX1_reach_108 (by decide) ?_
            exact ih (n2, (n2 : Int) + -1, s1, f1, n2, _, _) ⟨by omega, by dsimp only; omega, fun c hc h => by
              have hne : c ≠ n2 := by dsimp only at h; omega
              dsimp only
              exact a3 c hc (by omega), fun c hc h => by
              dsimp only
              rcases Nat.lt_or_ge n2 c with z | z
              · exact a4 c hc z
              · have e : c = n2 := by dsimp only at h; omega
                subst e
                exact ⟨fun z => absurd hc0 (by omega), fun _ => Or.inr ⟨hge, a31, a32⟩⟩, by dsimp only; omega, hc0, Or.inr (Nat.le_refl _), fun c hc h h0 => by
              dsimp only at h ⊢
              rcases Nat.lt_or_ge n2 c with z | z
              · have := a8 c hc z h0
                omega
              · have e : c = n2 := by omega
                subst e; omega⟩ (by dsimp only; omega)
          · have hle : s1 q1 ≤ s1 n2 := by rw [a31]; omega
            refine e_if_ge C (tgt := 105) dX1_reach_99 (by decide) (by (repeat' split) <;> omega) (fun _ => ?_) (fun h => by (repeat' split at h) <;> omega)
            refine e_iinc C dX1_reach_105 rfl ?_
            refine e_goto C (tgt := 11) dX1_reach_108 (by decide) ?_
            exact ih (n2, (n2 : Int) + -1, s1, f1, q1, _, _) ⟨by omega, by dsimp only; omega, fun c hc h => by
              have hne : c ≠ n2 := by dsimp only at h; omega
              dsimp only
              exact a3 c hc (by omega), fun c hc h => by
              dsimp only
              rcases Nat.lt_or_ge n2 c with z | z
              · exact a4 c hc z
              · have e : c = n2 := by dsimp only at h; omega
                subst e
                exact ⟨fun z => absurd hc0 (by omega), fun _ => Or.inr ⟨hge, a31, a32⟩⟩, a5, a6, by
              rcases a7 with z | z
              · exact Or.inl z
              · exact Or.inr (by dsimp only; omega), fun c hc h h0 => by
              dsimp only at h ⊢
              rcases Nat.lt_or_ge n2 c with z | z
              · have hq1 : q1 ≠ n2 := by rcases a7 with y | y <;> omega
                have := a8 c hc z h0
                omega
              · have e : c = n2 := by omega
                subst e; exact hle⟩ (by dsimp only; omega)
  show pE g 7 X _ SH (LM M u v o sl cf rc) 0 0 0 [some (.inr (.inr 4)), some (.inl (k : Int)), some (.inl frm), none, none, none, none] []
  refine e_aload_n C dX1_reach_0 rfl ?_
  refine e_getI C f_X1_30 sh_4 dX1_reach_1 ?_
  rw [LM_I _ (by decide), hns]
  refine e_istore_n C dX1_reach_4 ?_
  refine e_aload_n C dX1_reach_5 rfl ?_
  refine e_getI C f_X1_30 sh_4 dX1_reach_6 ?_
  rw [LM_I _ (by decide), hns]
  refine e_istore C dX1_reach_9 ?_
  exact loop (ns + 1, (ns : Int), sl, cf, ns, none, none) ⟨Nat.le_refl _, by dsimp only; omega, fun c hc h => ⟨rfl, rfl⟩, fun c hc h => by dsimp only at h; omega, Nat.le_refl _, hrn, Or.inl rfl, fun c hc h => by dsimp only at h; omega⟩
