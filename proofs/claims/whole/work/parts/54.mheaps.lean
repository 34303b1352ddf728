/-! ===== the model's heaps ===== -/
def lsD (M : pMem) (p : Nat) : Prop := mI M 158 p = -1 ∧ soS (wtD M) (pgD M) (mI M 158) (mI M 153 7) (mI M 153 8) p = 10
def neD (M : pMem) (p q : Nat) : Prop := nrS (wtD M) (pgD M) p q ≤ mI M 153 9
theorem lsD_p {M N : pMem} (h : frD oP M N) : lsD N = lsD M := by
  funext p; unfold lsD; rw [oP_wt h, oP_pg h, oP_T h, h.1 153 7 (by unfold oP; omega), h.1 153 8 (by unfold oP; omega)]
theorem neD_p {M N : pMem} (h : frD oP M N) : neD N = neD M := by
  funext p q; unfold neD; rw [oP_wt h, oP_pg h, h.1 153 9 (by unfold oP; omega)]
theorem c_joins {g : pG} {M : pMem} {n : Nat} {x y : Int} {f : Nat → Int} (hW : pW M) (hn : mI M 153 0 = (n : Int)) (hn16 : n ≤ 16) (hx : 0 ≤ x ∧ x < 16) (hy : 0 ≤ y ∧ y < 16) (hf : ∀ i, i < n → -1 ≤ f i ∧ f i < 16) : pCn g 1 0 0 yX6_joins cX6_joins 5 none SH SH (wrI M 178 f) [.inr (.inr 153), .inl x, .inl y] (fun r M' => ∃ f2 : Nat → Int, r = none ∧ M' = wrI M 178 f2 ∧ ∀ i, i < n → f2 i = (if f i = x ∨ f i = y then (if x < y then x else y) else f i)) := by
  refine pCn_intro mt_X6_joins (fun X C => ?_)
  obtain ⟨lo, hlo⟩ : ∃ lo, lo = (if x < y then x else y) := ⟨_, rfl⟩
  have lp : ∀ (i : Nat) (h : Nat → Int), i ≤ n → ((∀ j, j < i → h j = (if f j = x ∨ f j = y then (if x < y then x else y) else f j)) ∧ ∀ j, i ≤ j → h j = f j) → pE g 5 X (pMQ g SH (fun r M' => ∃ f2 : Nat → Int, r = none ∧ M' = wrI M 178 f2 ∧ ∀ i, i < n → f2 i = (if f i = x ∨ f i = y then (if x < y then x else y) else f i)) X 0 0) SH (wrI M 178 h) 0 0 14 [some (.inr (.inr 153)), some (.inl x), some (.inl y), some (.inl lo), some (.inl (i : Int))] [] := by
    refine p_for (n) _ _ ?_ ?_
    · rintro h ⟨h1, h2⟩
      refine e_iload C dX6_joins_14 rfl ?_
      refine e_aload_n C dX6_joins_16 rfl ?_
      refine e_getI C f_X6_99 sh_153 dX6_joins_17 ?_
      rw [wrI_n _ _ _ (by decide), hn]
      refine e_icmp_ge C (tgt := 69) dX6_joins_20 (by decide) (by omega) (by omega) (fun h_20 => ?_) (fun h_20 => by exfalso; omega)
      exact e_return C dX6_joins_69 ⟨h, rfl, rfl, h1⟩
    · rintro i h hi ⟨h1, h2⟩ ih
      have hfi := hf i hi
      have hhi := h2 i (Nat.le_refl _)
      refine e_iload C dX6_joins_14 rfl ?_
      refine e_aload_n C dX6_joins_16 rfl ?_
      refine e_getI C f_X6_99 sh_153 dX6_joins_17 ?_
      rw [wrI_n _ _ _ (by decide), hn]
      refine e_icmp_ge C (tgt := 69) dX6_joins_20 (by decide) (by omega) (by omega) (fun h_20 => by exfalso; omega) (fun h_20 => ?_)
      refine e_aload_n C dX6_joins_23 rfl ?_
      refine e_getR C f_X6_93 sh_153 (hW 153 37 178 rfl) dX6_joins_24 ?_
      refine e_iload C dX6_joins_27 rfl ?_
      refine e_aload_n C dX6_joins_29 rfl ?_
      refine e_getR C f_X6_93 sh_153 (hW 153 37 178 rfl) dX6_joins_30 ?_
      refine e_iload C dX6_joins_33 rfl ?_
      refine e_iaload C dX6_joins_35 sh_178 _ rfl (by omega) ?_
      rw [wrI_s, hhi]
      refine e_iload_n C dX6_joins_36 rfl ?_
      refine e_icmp_eq C (tgt := 51) dX6_joins_37 (by decide) (by omega) (by omega) (fun h_37 => ?_) (fun h_37 => ?_)
      · have hI : (∀ j, j < i + 1 → up h i lo j = (if f j = x ∨ f j = y then (if x < y then x else y) else f j)) ∧ ∀ j, i + 1 ≤ j → up h i lo j = f j := by
          refine ⟨fun j hj => ?_, fun j hj => by rw [up_n (by omega)]; exact h2 j (by omega)⟩
          by_cases e : j = i
          · subst e; rw [up_s]; first | rw [if_pos (by omega), hlo] | rw [if_neg (by omega)]
          · rw [up_n e]; exact h1 j (by omega)
        refine e_iload_n C dX6_joins_51 rfl ?_
        refine e_goto C (tgt := 62) dX6_joins_52 (by decide) ?_
        refine e_iastore C dX6_joins_62 sh_178 _ rfl (by omega) ?_
        rw [stI_wr]
        refine e_iinc C dX6_joins_63 rfl ?_
        refine e_goto C (tgt := 14) dX6_joins_66 (by decide) ?_
        rw [show ((i : Int) + 1) = ((i + 1 : Nat) : Int) by omega]
        exact ih _ hI
      · refine e_aload_n C dX6_joins_40 rfl ?_
        refine e_getR C f_X6_93 sh_153 (hW 153 37 178 rfl) dX6_joins_41 ?_
        refine e_iload C dX6_joins_44 rfl ?_
        refine e_iaload C dX6_joins_46 sh_178 _ rfl (by omega) ?_
        rw [wrI_s, hhi]
        refine e_iload_n C dX6_joins_47 rfl ?_
        refine e_icmp_ne C (tgt := 55) dX6_joins_48 (by decide) (by omega) (by omega) (fun h_48 => ?_) (fun h_48 => ?_)
        · have hI : (∀ j, j < i + 1 → up h i (f i) j = (if f j = x ∨ f j = y then (if x < y then x else y) else f j)) ∧ ∀ j, i + 1 ≤ j → up h i (f i) j = f j := by
            refine ⟨fun j hj => ?_, fun j hj => by rw [up_n (by omega)]; exact h2 j (by omega)⟩
            by_cases e : j = i
            · subst e; rw [up_s]; first | rw [if_pos (by omega), hlo] | rw [if_neg (by omega)]
            · rw [up_n e]; exact h1 j (by omega)
          refine e_aload_n C dX6_joins_55 rfl ?_
          refine e_getR C f_X6_93 sh_153 (hW 153 37 178 rfl) dX6_joins_56 ?_
          refine e_iload C dX6_joins_59 rfl ?_
          refine e_iaload C dX6_joins_61 sh_178 _ rfl (by omega) ?_
          rw [wrI_s, hhi]
          refine e_iastore C dX6_joins_62 sh_178 _ rfl (by omega) ?_
          rw [stI_wr]
          refine e_iinc C dX6_joins_63 rfl ?_
          refine e_goto C (tgt := 14) dX6_joins_66 (by decide) ?_
          rw [show ((i : Int) + 1) = ((i + 1 : Nat) : Int) by omega]
          exact ih _ hI
        · have hI : (∀ j, j < i + 1 → up h i lo j = (if f j = x ∨ f j = y then (if x < y then x else y) else f j)) ∧ ∀ j, i + 1 ≤ j → up h i lo j = f j := by
            refine ⟨fun j hj => ?_, fun j hj => by rw [up_n (by omega)]; exact h2 j (by omega)⟩
            by_cases e : j = i
            · subst e; rw [up_s]; first | rw [if_pos (by omega), hlo] | rw [if_neg (by omega)]
            · rw [up_n e]; exact h1 j (by omega)
          refine e_iload_n C dX6_joins_51 rfl ?_
          refine e_goto C (tgt := 62) dX6_joins_52 (by decide) ?_
          refine e_iastore C dX6_joins_62 sh_178 _ rfl (by omega) ?_
          rw [stI_wr]
          refine e_iinc C dX6_joins_63 rfl ?_
          refine e_goto C (tgt := 14) dX6_joins_66 (by decide) ?_
          rw [show ((i : Int) + 1) = ((i + 1 : Nat) : Int) by omega]
          exact ih _ hI
  show pE g 5 X _ SH (wrI M 178 f) 0 0 0 [some (.inr (.inr 153)), some (.inl x), some (.inl y), none, none] []
  refine e_iload_n C dX6_joins_0 rfl ?_
  refine e_iload_n C dX6_joins_1 rfl ?_
  refine e_icmp_ge C (tgt := 9) dX6_joins_2 (by decide) (by omega) (by omega) (fun h_2 => ?_) (fun h_2 => ?_)
  · have hl2 : y = lo := by rw [hlo, if_neg (by omega)]
    refine e_iload_n C dX6_joins_9 rfl ?_
    refine e_istore_n C dX6_joins_10 ?_
    refine e_iconst C dX6_joins_11 ?_
    refine e_istore C dX6_joins_12 ?_
    have hz := lp 0 f (by omega) ⟨fun j hj => by omega, fun _ _ => rfl⟩
    rw [← hl2] at hz
    exact hz
  · have hl2 : x = lo := by rw [hlo, if_pos (by omega)]
    refine e_iload_n C dX6_joins_5 rfl ?_
    refine e_goto C (tgt := 10) dX6_joins_6 (by decide) ?_
    refine e_istore_n C dX6_joins_10 ?_
    refine e_iconst C dX6_joins_11 ?_
    refine e_istore C dX6_joins_12 ?_
    have hz := lp 0 f (by omega) ⟨fun j hj => by omega, fun _ _ => rfl⟩
    rw [← hl2] at hz
    exact hz
theorem c_gathers {g : pG} {M : pMem} (hJ : JD M) : pCn g 9 0 0 yX6_gathers cX6_gathers 3 none SH SH M [.inr (.inr 153)] (fun r M' => r = none ∧ frD oP M M' ∧ JD M' ∧ hpS (mI M 153 0).toNat (lsD M) (neD M) (mI M' 178)) := by
  refine pCn_intro mt_X6_gathers (fun X C => ?_)
  have hW := hJ.1
  obtain ⟨n, hn⟩ : ∃ n : Nat, mI M 153 0 = (n : Int) := ⟨(mI M 153 0).toNat, by have := hJ.2.1; omega⟩
  have hn16 : n ≤ 16 := by have := hJ.2.1; omega
  have en : (mI M 153 0).toNat = n := by omega
  have lb : ∀ (b : Nat) (N : pMem), b ≤ n → (frD oP M N ∧ JD N ∧ hpI n (lsD M) (neD M) (mI N 178) ∧ (∀ p q, p < q → (q < b ∨ (q = b ∧ p < 0)) → lsD M p → lsD M q → neD M p q → mI N 178 p = mI N 178 q)) → pE g 3 X (pMQ g SH (fun r M' => r = none ∧ frD oP M M' ∧ JD M' ∧ hpS (mI M 153 0).toNat (lsD M) (neD M) (mI M' 178)) X 0 0) SH N 0 0 37 [some (.inr (.inr 153)), some (.inl (b : Int)), none] [] := by
    refine p_for (n) _ _ ?_ ?_
    · rintro N ⟨hN, hN2, h3, h4⟩
      have hWN := hN2.1
      have e0 : mI N 153 0 = (n : Int) := (hN.1 153 0 (by unfold oP; omega)).trans hn
      refine e_iload_n C dX6_gathers_37 rfl ?_
      refine e_aload_n C dX6_gathers_38 rfl ?_
      refine e_getI C f_X6_99 sh_153 dX6_gathers_39 ?_
      rw [e0]
      refine e_icmp_ge C (tgt := 122) dX6_gathers_42 (by decide) (by omega) (by omega) (fun h_42 => ?_) (fun h_42 => by exfalso; omega)
      exact e_return C dX6_gathers_122 ⟨rfl, hN, hN2, by rw [en]; exact ⟨h3, fun p q hpq hq => h4 p q hpq (by omega)⟩⟩
    · rintro b N hb ⟨hN, hN2, h3, h4⟩ ihb
      have hWN := hN2.1
      have e0 : mI N 153 0 = (n : Int) := (hN.1 153 0 (by unfold oP; omega)).trans hn
      refine e_iload_n C dX6_gathers_37 rfl ?_
      refine e_aload_n C dX6_gathers_38 rfl ?_
      refine e_getI C f_X6_99 sh_153 dX6_gathers_39 ?_
      rw [e0]
      refine e_icmp_ge C (tgt := 122) dX6_gathers_42 (by decide) (by omega) (by omega) (fun h_42 => by exfalso; omega) (fun h_42 => ?_)
      refine e_iconst C dX6_gathers_45 ?_
      refine e_istore_n C dX6_gathers_46 ?_
      have la : ∀ (a : Nat) (N : pMem), a ≤ b → (frD oP M N ∧ JD N ∧ hpI n (lsD M) (neD M) (mI N 178) ∧ (∀ p q, p < q → (q < b ∨ (q = b ∧ p < a)) → lsD M p → lsD M q → neD M p q → mI N 178 p = mI N 178 q)) → pE g 3 X (pMQ g SH (fun r M' => r = none ∧ frD oP M M' ∧ JD M' ∧ hpS (mI M 153 0).toNat (lsD M) (neD M) (mI M' 178)) X 0 0) SH N 0 0 47 [some (.inr (.inr 153)), some (.inl (b : Int)), some (.inl (a : Int))] [] := by
        refine p_for (b) _ _ ?_ ?_
        · rintro N ⟨hN, hN2, h3, h4⟩
          have hWN := hN2.1
          have e0 : mI N 153 0 = (n : Int) := (hN.1 153 0 (by unfold oP; omega)).trans hn
          refine e_iload_n C dX6_gathers_47 rfl ?_
          refine e_iload_n C dX6_gathers_48 rfl ?_
          refine e_icmp_ge C (tgt := 116) dX6_gathers_49 (by decide) (by omega) (by omega) (fun h_49 => ?_) (fun h_49 => by exfalso; omega)
          refine e_iinc C dX6_gathers_116 rfl ?_
          refine e_goto C (tgt := 37) dX6_gathers_119 (by decide) ?_
          refine pE_f 2 ?_
          rw [show ((b : Int) + 1) = ((b + 1 : Nat) : Int) by omega]
          exact ihb N ⟨hN, hN2, h3, fun p q hpq hq => h4 p q hpq (by omega)⟩
        · rintro a N ha ⟨hN, hN2, h3, h4⟩ ih
          have hWN := hN2.1
          have e0 : mI N 153 0 = (n : Int) := (hN.1 153 0 (by unfold oP; omega)).trans hn
          have hra : -1 ≤ mI N 178 a ∧ mI N 178 a < 16 ∧ (0 ≤ mI N 178 a ↔ lsD M a) := by
            by_cases z : lsD M a
            · obtain ⟨q, q1, q2, -, -⟩ := h3.2 a (by omega) z
              exact ⟨by omega, by omega, fun _ => z, fun _ => by omega⟩
            · have := h3.1 a (by omega) z
              exact ⟨by omega, by omega, fun y => by omega, fun y => absurd y z⟩
          have hrb : -1 ≤ mI N 178 b ∧ mI N 178 b < 16 ∧ (0 ≤ mI N 178 b ↔ lsD M b) := by
            by_cases z : lsD M b
            · obtain ⟨q, q1, q2, -, -⟩ := h3.2 b (by omega) z
              exact ⟨by omega, by omega, fun _ => z, fun _ => by omega⟩
            · have := h3.1 b (by omega) z
              exact ⟨by omega, by omega, fun y => by omega, fun y => absurd y z⟩
          have hskip : ∀ R : pMem, mI R 178 = mI N 178 → (lsD M a → lsD M b → neD M a b → mI N 178 a = mI N 178 b) → hpI n (lsD M) (neD M) (mI R 178) ∧ ∀ p q, p < q → (q < b ∨ (q = b ∧ p < a + 1)) → lsD M p → lsD M q → neD M p q → mI R 178 p = mI R 178 q := fun R hR hab => by
            rw [hR]
            refine ⟨h3, fun p q hpq hq l1 l2 l3 => ?_⟩
            by_cases e : q = b ∧ p = a
            · obtain ⟨e1, e2⟩ := e; subst e1; subst e2; exact hab l1 l2 l3
            · exact h4 p q hpq (by omega) l1 l2 l3
          refine e_iload_n C dX6_gathers_47 rfl ?_
          refine e_iload_n C dX6_gathers_48 rfl ?_
          refine e_icmp_ge C (tgt := 116) dX6_gathers_49 (by decide) (by omega) (by omega) (fun h_49 => by exfalso; omega) (fun h_49 => ?_)
          refine e_aload_n C dX6_gathers_52 rfl ?_
          refine e_getR C f_X6_93 sh_153 (hWN 153 37 178 rfl) dX6_gathers_53 ?_
          refine e_iload_n C dX6_gathers_56 rfl ?_
          refine e_iaload C dX6_gathers_57 sh_178 _ rfl (by omega) ?_
          refine e_if_lt C (tgt := 110) dX6_gathers_58 (by decide) (by omega) (fun h_58 => ?_) (fun h_58 => ?_)
          · have hI := hskip N rfl (fun l1 _ _ => by have := hra.2.2.mpr l1; omega)
            have hih := ih N ⟨hN, hN2, hI⟩
            refine e_iinc C dX6_gathers_110 rfl ?_
            refine e_goto C (tgt := 47) dX6_gathers_113 (by decide) ?_
            rw [show ((a : Int) + 1) = ((a + 1 : Nat) : Int) by omega]
            exact hih
          · refine e_aload_n C dX6_gathers_61 rfl ?_
            refine e_getR C f_X6_93 sh_153 (hWN 153 37 178 rfl) dX6_gathers_62 ?_
            refine e_iload_n C dX6_gathers_65 rfl ?_
            refine e_iaload C dX6_gathers_66 sh_178 _ rfl (by omega) ?_
            refine e_if_lt C (tgt := 110) dX6_gathers_67 (by decide) (by omega) (fun h_67 => ?_) (fun h_67 => ?_)
            · have hI := hskip N rfl (fun _ l2 _ => by have := hrb.2.2.mpr l2; omega)
              have hih := ih N ⟨hN, hN2, hI⟩
              refine e_iinc C dX6_gathers_110 rfl ?_
              refine e_goto C (tgt := 47) dX6_gathers_113 (by decide) ?_
              rw [show ((a : Int) + 1) = ((a + 1 : Nat) : Int) by omega]
              exact hih
            · refine e_aload_n C dX6_gathers_70 rfl ?_
              refine e_getR C f_X6_93 sh_153 (hWN 153 37 178 rfl) dX6_gathers_71 ?_
              refine e_iload_n C dX6_gathers_74 rfl ?_
              refine e_iaload C dX6_gathers_75 sh_178 _ rfl (by omega) ?_
              refine e_aload_n C dX6_gathers_76 rfl ?_
              refine e_getR C f_X6_93 sh_153 (hWN 153 37 178 rfl) dX6_gathers_77 ?_
              refine e_iload_n C dX6_gathers_80 rfl ?_
              refine e_iaload C dX6_gathers_81 sh_178 _ rfl (by omega) ?_
              refine e_icmp_eq C (tgt := 110) dX6_gathers_82 (by decide) (by omega) (by omega) (fun h_82 => ?_) (fun h_82 => ?_)
              · have hI := hskip N rfl (fun _ _ _ => h_82)
                have hih := ih N ⟨hN, hN2, hI⟩
                refine e_iinc C dX6_gathers_110 rfl ?_
                refine e_goto C (tgt := 47) dX6_gathers_113 (by decide) ?_
                rw [show ((a : Int) + 1) = ((a + 1 : Nat) : Int) by omega]
                exact hih
              · refine e_aload_n C dX6_gathers_85 rfl ?_
                refine e_iload_n C dX6_gathers_86 rfl ?_
                refine e_iload_n C dX6_gathers_87 rfl ?_
                refine e_callV C (c_isNear (M := N) (a := a) (b := b) hN2 (by omega) (by omega)) mt_X6_isNear s_X6_198 dX6_gathers_88 6 sh_153 rfl (fun rn Mn hqn => ?_)
                obtain ⟨rfl, n1, n2⟩ := hqn
                dsimp only [Option.toList_some, List.singleton_append]
                rw [oP_wt hN, oP_pg hN, hN.1 153 9 (by unfold oP; omega)]
                have hNn := frD_tr hN (oL_P n1)
                have e178 : mI Mn 178 = mI N 178 := frD_row n1 (fun j => by unfold oL; omega)
                refine e_if_eq C (tgt := 110) dX6_gathers_91 (by decide) (by split <;> omega) (fun h_91 => ?_) (fun h_91 => ?_)
                · have hne := ite0.mp h_91
                  have hI := hskip Mn e178 (fun _ _ l3 => absurd l3 hne)
                  have hih := ih Mn ⟨hNn, n2, hI⟩
                  refine e_iinc C dX6_gathers_110 rfl ?_
                  refine e_goto C (tgt := 47) dX6_gathers_113 (by decide) ?_
                  rw [show ((a : Int) + 1) = ((a + 1 : Nat) : Int) by omega]
                  exact hih
                · have hne := ite1.mp h_91
                  have hjo := c_joins (g := g) (M := Mn) (n := n) (x := mI Mn 178 a) (y := mI Mn 178 b) (f := mI Mn 178) n2.1 ((hNn.1 153 0 (by unfold oP; omega)).trans hn) hn16 (by rw [e178]; omega) (by rw [e178]; omega) (fun i hi => by
                    rw [e178]
                    by_cases z : lsD M i
                    · obtain ⟨q, q1, q2, -, -⟩ := h3.2 i hi z; omega
                    · have := h3.1 i hi z; omega)
                  rw [wrI_e] at hjo
                  refine e_aload_n C dX6_gathers_94 rfl ?_
                  refine e_aload_n C dX6_gathers_95 rfl ?_
                  refine e_getR C f_X6_93 sh_153 (n2.1 153 37 178 rfl) dX6_gathers_96 ?_
                  refine e_iload_n C dX6_gathers_99 rfl ?_
                  refine e_iaload C dX6_gathers_100 sh_178 _ rfl (by omega) ?_
                  refine e_aload_n C dX6_gathers_101 rfl ?_
                  refine e_getR C f_X6_93 sh_153 (n2.1 153 37 178 rfl) dX6_gathers_102 ?_
                  refine e_iload_n C dX6_gathers_105 rfl ?_
                  refine e_iaload C dX6_gathers_106 sh_178 _ rfl (by omega) ?_
                  refine e_callV C (hjo) mt_X6_joins s_X6_201 dX6_gathers_107 6 sh_153 rfl (fun rj Mj hqj => ?_)
                  obtain ⟨f2, rfl, hMj, hj⟩ := hqj
                  subst Mj
                  dsimp only [Option.toList_none, List.nil_append]
                  rw [e178] at hj
                  obtain ⟨j1, j2, j3⟩ := hpI_j (J := f2) h3 ha (by omega) (hra.2.2.mp (by omega)) (hrb.2.2.mp (by omega)) hne (fun i hi => by
                    rw [hj i hi]
                    by_cases z : mI N 178 a < mI N 178 b
                    · rw [if_pos z, if_pos z]
                      by_cases y : mI N 178 i = mI N 178 b
                      · rw [if_pos (Or.inr y), if_pos y]
                      · rw [if_neg y]
                        by_cases x : mI N 178 i = mI N 178 a
                        · rw [if_pos (Or.inl x), x]
                        · rw [if_neg (by omega)]
                    · rw [if_neg z, if_neg z]
                      by_cases y : mI N 178 i = mI N 178 a
                      · rw [if_pos (Or.inl y), if_pos y]
                      · rw [if_neg y]
                        by_cases x : mI N 178 i = mI N 178 b
                        · rw [if_pos (Or.inr x), x]
                        · rw [if_neg (by omega)])
                  have hfj : frD oK Mn (wrI Mn 178 f2) := frD_wr (fun j z => z.1 rfl)
                  have hih := ih (wrI Mn 178 f2) ⟨frD_tr hNn (frD_wr (fun j z => by unfold oP at z; omega)), JD_K n2 hfj, by rw [wrI_row]; exact j1, fun p q hpq hq l1 l2 l3 => by
                    rw [wrI_row]
                    by_cases e : q = b ∧ p = a
                    · obtain ⟨e1, e2⟩ := e; subst e1; subst e2; exact j3
                    · exact j2 p q (by omega) (by omega) (h4 p q hpq (by omega) l1 l2 l3)⟩
                  refine e_iinc C dX6_gathers_110 rfl ?_
                  refine e_goto C (tgt := 47) dX6_gathers_113 (by decide) ?_
                  rw [show ((a : Int) + 1) = ((a + 1 : Nat) : Int) by omega]
                  exact hih
      exact la 0 N (by omega) ⟨hN, hN2, h3, h4⟩
  have lf : ∀ (i : Nat) (N : pMem), i ≤ n → (frD oP M N ∧ JD N ∧ ∀ j, j < i → (lsD M j → mI N 178 j = (j : Int)) ∧ (¬ lsD M j → mI N 178 j = -1)) → pE g 3 X (pMQ g SH (fun r M' => r = none ∧ frD oP M M' ∧ JD M' ∧ hpS (mI M 153 0).toNat (lsD M) (neD M) (mI M' 178)) X 0 0) SH N 0 0 2 [some (.inr (.inr 153)), some (.inl (i : Int)), none] [] := by
    refine p_for (n) _ _ ?_ ?_
    · rintro N ⟨hN, hN2, h3⟩
      have hWN := hN2.1
      have e0 : mI N 153 0 = (n : Int) := (hN.1 153 0 (by unfold oP; omega)).trans hn
      refine e_iload_n C dX6_gathers_2 rfl ?_
      refine e_aload_n C dX6_gathers_3 rfl ?_
      refine e_getI C f_X6_99 sh_153 dX6_gathers_4 ?_
      rw [e0]
      refine e_icmp_ge C (tgt := 35) dX6_gathers_7 (by decide) (by omega) (by omega) (fun h_7 => ?_) (fun h_7 => by exfalso; omega)
      refine e_iconst C dX6_gathers_35 ?_
      refine e_istore_n C dX6_gathers_36 ?_
      exact lb 0 N (by omega) ⟨hN, hN2, hpI_0 (fun p hp l => (h3 p hp).1 l) (fun p hp l => (h3 p hp).2 l), fun p q hpq hq => by omega⟩
    · rintro i N hi ⟨hN, hN2, h3⟩ ih
      have hWN := hN2.1
      have e0 : mI N 153 0 = (n : Int) := (hN.1 153 0 (by unfold oP; omega)).trans hn
      refine e_iload_n C dX6_gathers_2 rfl ?_
      refine e_aload_n C dX6_gathers_3 rfl ?_
      refine e_getI C f_X6_99 sh_153 dX6_gathers_4 ?_
      rw [e0]
      refine e_icmp_ge C (tgt := 35) dX6_gathers_7 (by decide) (by omega) (by omega) (fun h_7 => by exfalso; omega) (fun h_7 => ?_)
      refine e_aload_n C dX6_gathers_10 rfl ?_
      refine e_getR C f_X6_93 sh_153 (hWN 153 37 178 rfl) dX6_gathers_11 ?_
      refine e_iload_n C dX6_gathers_14 rfl ?_
      refine e_aload_n C dX6_gathers_15 rfl ?_
      refine e_iload_n C dX6_gathers_16 rfl ?_
      refine e_callV C (c_isUnknown (M := N) (p := i) hN2 (by omega)) mt_X6_isUnknown s_X6_195 dX6_gathers_17 6 sh_153 rfl (fun ru Mu hqu => ?_)
      obtain ⟨rfl, u1, u2⟩ := hqu
      dsimp only [Option.toList_some, List.singleton_append]
      have hNu := frD_tr hN (oL_P u1)
      have e178 : mI Mu 178 = mI N 178 := frD_row u1 (fun j => by unfold oL; omega)
      have hst : ∀ v : Int, (lsD M i → v = (i : Int)) → (¬ lsD M i → v = -1) → (frD oP M (stI Mu 178 i v) ∧ JD (stI Mu 178 i v) ∧ ∀ j, j < i + 1 → (lsD M j → mI (stI Mu 178 i v) 178 j = (j : Int)) ∧ (¬ lsD M j → mI (stI Mu 178 i v) 178 j = -1)) := fun v v1 v2 => by
        refine ⟨frD_tr hNu (frD_st (fun z => by unfold oP at z; omega)), JD_K u2 (frD_st (fun z => z.1 rfl)), fun j hj => ?_⟩
        by_cases e : j = i
        · subst e; rw [stI_s]; exact ⟨v1, v2⟩
        · rw [stI_n _ _ (Or.inr e), e178]; exact h3 j (by omega)
      have hls : lsD N i = lsD M i := by rw [lsD_p hN]
      refine e_if_eq C (tgt := 27) dX6_gathers_20 (by decide) (by split <;> omega) (fun h_20 => ?_) (fun h_20 => ?_)
      · have hu0 := ite0.mp h_20
        have hun : ¬ lsD M i := fun z => hu0 (hls.mpr z)
        have hih := ih _ (hst (-1) (fun z => absurd z hun) (fun _ => rfl))
        refine e_iconst C dX6_gathers_27 ?_
        refine e_iastore C dX6_gathers_28 sh_178 _ rfl (by omega) ?_
        refine e_iinc C dX6_gathers_29 rfl ?_
        refine e_goto C (tgt := 2) dX6_gathers_32 (by decide) ?_
        rw [show ((i : Int) + 1) = ((i + 1 : Nat) : Int) by omega]
        exact hih
      · have hu0 := ite1.mp h_20
        have hun : lsD M i := hls.mp hu0
        have hih := ih _ (hst (i : Int) (fun _ => rfl) (fun z => absurd hun z))
        refine e_iload_n C dX6_gathers_23 rfl ?_
        refine e_goto C (tgt := 28) dX6_gathers_24 (by decide) ?_
        refine e_iastore C dX6_gathers_28 sh_178 _ rfl (by omega) ?_
        refine e_iinc C dX6_gathers_29 rfl ?_
        refine e_goto C (tgt := 2) dX6_gathers_32 (by decide) ?_
        rw [show ((i : Int) + 1) = ((i + 1 : Nat) : Int) by omega]
        exact hih
  show pE g 3 X _ SH M 0 0 0 [some (.inr (.inr 153)), none, none] []
  refine e_iconst C dX6_gathers_0 ?_
  refine e_istore_n C dX6_gathers_1 ?_
  exact lf 0 M (by omega) ⟨frD_rf, hJ, fun j hj => by omega⟩
theorem c_heapD {g : pG} {M : pMem}  {p : Int} (hi_p : -2147483648 ≤ p ∧ p < 2147483648) (hJ : JD M) : pCn g 10 0 0 yX6_heap cX6_heap 2 (some .int) SH SH M [.inr (.inr 153), .inl p] (fun r M' => (isQ M p → ∃ H : Nat → Int, hpS (mI M 153 0).toNat (lsD M) (neD M) H ∧ r = some (.inl (H p.toNat))) ∧ (¬ isQ M p → r = some (.inl (-1))) ∧ frD oP M M' ∧ JD M') := by
  refine pCn_intro mt_X6_heap (fun X C => ?_)
  have hW := hJ.1
  show pE g 2 X _ SH M 0 0 0 [some (.inr (.inr 153)), some (.inl p)] []
  refine e_aload_n C dX6_heap_0 rfl ?_
  refine e_iload_n C dX6_heap_1 rfl ?_
  refine e_callV C (c_isPageD hi_p hJ.2.1) mt_X6_isPage s_X6_113 dX6_heap_2 6 sh_153 rfl (fun r M1 hq => ?_)
  obtain ⟨rfl, hM⟩ := hq
  subst M1
  dsimp only [Option.toList_some, List.singleton_append]
  refine e_if_ne C (tgt := 10) dX6_heap_5 (by decide) (by split <;> omega) (fun h_5 => ?_) (fun h_5 => ?_)
  · have hpp := ite1.mp h_5
    obtain ⟨q, rfl, hq, hq2⟩ := isQ_n hJ hpp
    refine e_aload_n C dX6_heap_10 rfl ?_
    refine e_callV C (c_gathers (M := M) hJ) mt_X6_gathers s_X6_204 dX6_heap_11 6 sh_153 rfl (fun rg Mg hqg => ?_)
    obtain ⟨rfl, g1, g2, g3⟩ := hqg
    dsimp only [Option.toList_none, List.nil_append]
    have hWg := g2.1
    refine e_aload_n C dX6_heap_14 rfl ?_
    refine e_getR C f_X6_93 sh_153 (hWg 153 37 178 rfl) dX6_heap_15 ?_
    refine e_iload_n C dX6_heap_18 rfl ?_
    refine e_iaload C dX6_heap_19 sh_178 _ rfl (by omega) ?_
    exact e_ireturn C dX6_heap_20 ⟨fun _ => ⟨_, g3, rfl⟩, fun z => absurd hpp z, g1, g2⟩
  · have hpp := fun z => h_5 (ite1.mpr z)
    refine e_iconst C dX6_heap_8 ?_
    exact e_ireturn C dX6_heap_9 ⟨fun z => absurd z hpp, fun _ => rfl, frD_rf, hJ⟩
theorem c_heapsD {g : pG} {M : pMem} (hJ : JD M) : pCn g 10 0 0 yX6_heaps cX6_heaps 3 (some .int) SH SH M [.inr (.inr 153)] (fun r M' => ∃ H : Nat → Int, hpS (mI M 153 0).toNat (lsD M) (neD M) H ∧ r = some (.inl (sg (fun p => b01 (H p = (p : Int))) (mI M 153 0).toNat)) ∧ frD oP M M' ∧ JD M') := by
  refine pCn_intro mt_X6_heaps (fun X C => ?_)
  have hW := hJ.1
  obtain ⟨n, hn⟩ : ∃ n : Nat, mI M 153 0 = (n : Int) := ⟨(mI M 153 0).toNat, by have := hJ.2.1; omega⟩
  have hn16 : n ≤ 16 := by have := hJ.2.1; omega
  have en : (mI M 153 0).toNat = n := by omega
  show pE g 3 X _ SH M 0 0 0 [some (.inr (.inr 153)), none, none] []
  refine e_aload_n C dX6_heaps_0 rfl ?_
  refine e_callV C (c_gathers (M := M) hJ) mt_X6_gathers s_X6_204 dX6_heaps_1 6 sh_153 rfl (fun rg Mg hqg => ?_)
  obtain ⟨rfl, g1, g2, g3⟩ := hqg
  dsimp only [Option.toList_none, List.nil_append]
  have hWg := g2.1
  have e0 : mI Mg 153 0 = (n : Int) := (g1.1 153 0 (by unfold oP; omega)).trans hn
  have hri : ∀ x, x < n → -1 ≤ mI Mg 178 x ∧ mI Mg 178 x < 16 := fun x hx => by
    have g4 := g3
    rw [en] at g4
    by_cases hL : lsD M x
    · obtain ⟨q, q1, q2, -, -⟩ := g4.1.2 x hx hL; omega
    · have := g4.1.1 x hx hL; omega
  refine e_iconst C dX6_heaps_4 ?_
  refine e_istore_n C dX6_heaps_5 ?_
  refine e_iconst C dX6_heaps_6 ?_
  refine e_istore_n C dX6_heaps_7 ?_
  have lp : ∀ (i : Nat) (u : Unit), i ≤ n → True → pE g 3 X (pMQ g SH (fun r M' => ∃ H : Nat → Int, hpS (mI M 153 0).toNat (lsD M) (neD M) H ∧ r = some (.inl (sg (fun p => b01 (H p = (p : Int))) (mI M 153 0).toNat)) ∧ frD oP M M' ∧ JD M') X 0 0) SH Mg 0 0 8 [some (.inr (.inr 153)), some (.inl (sg (fun p => b01 (mI Mg 178 p = (p : Int))) i)), some (.inl (i : Int))] [] := by
    refine p_for (n) _ _ ?_ ?_
    · rintro u hu
      refine e_iload_n C dX6_heaps_8 rfl ?_
      refine e_aload_n C dX6_heaps_9 rfl ?_
      refine e_getI C f_X6_99 sh_153 dX6_heaps_10 ?_
      rw [e0]
      refine e_icmp_ge C (tgt := 40) dX6_heaps_13 (by decide) (by omega) (by omega) (fun h_13 => ?_) (fun h_13 => by exfalso; omega)
      refine e_iload_n C dX6_heaps_40 rfl ?_
      exact e_ireturn C dX6_heaps_41 ⟨_, g3, by rw [en], g1, g2⟩
    · rintro i u hi hu ih
      have hr1 := hri i hi
      refine e_iload_n C dX6_heaps_8 rfl ?_
      refine e_aload_n C dX6_heaps_9 rfl ?_
      refine e_getI C f_X6_99 sh_153 dX6_heaps_10 ?_
      rw [e0]
      refine e_icmp_ge C (tgt := 40) dX6_heaps_13 (by decide) (by omega) (by omega) (fun h_13 => by exfalso; omega) (fun h_13 => ?_)
      refine e_iload_n C dX6_heaps_16 rfl ?_
      refine e_aload_n C dX6_heaps_17 rfl ?_
      refine e_getR C f_X6_93 sh_153 (hWg 153 37 178 rfl) dX6_heaps_18 ?_
      refine e_iload_n C dX6_heaps_21 rfl ?_
      refine e_iaload C dX6_heaps_22 sh_178 _ rfl (by omega) ?_
      refine e_iload_n C dX6_heaps_23 rfl ?_
      refine e_icmp_ne C (tgt := 31) dX6_heaps_24 (by decide) (by omega) (by omega) (fun h_24 => ?_) (fun h_24 => ?_)
      · have hs : (sg (fun p => b01 (mI Mg 178 p = (p : Int))) i) + 0 = (sg (fun p => b01 (mI Mg 178 p = (p : Int))) (i + 1)) := by simp only [sg]; rw [show b01 (mI Mg 178 i = (i : Int)) = 0 from if_neg h_24]
        refine e_iconst C dX6_heaps_31 ?_
        refine e_iadd C dX6_heaps_32 ?_
        refine e_istore_n C dX6_heaps_33 ?_
        refine e_iinc C dX6_heaps_34 rfl ?_
        refine e_goto C (tgt := 8) dX6_heaps_37 (by decide) ?_
        rw [show ((i : Int) + 1) = ((i + 1 : Nat) : Int) by omega, hs]
        exact ih () trivial
      · have hs : (sg (fun p => b01 (mI Mg 178 p = (p : Int))) i) + 1 = (sg (fun p => b01 (mI Mg 178 p = (p : Int))) (i + 1)) := by simp only [sg]; rw [show b01 (mI Mg 178 i = (i : Int)) = 1 from if_pos (Classical.not_not.mp h_24)]
        refine e_iconst C dX6_heaps_27 ?_
        refine e_goto C (tgt := 32) dX6_heaps_28 (by decide) ?_
        refine e_iadd C dX6_heaps_32 ?_
        refine e_istore_n C dX6_heaps_33 ?_
        refine e_iinc C dX6_heaps_34 rfl ?_
        refine e_goto C (tgt := 8) dX6_heaps_37 (by decide) ?_
        rw [show ((i : Int) + 1) = ((i + 1 : Nat) : Int) by omega, hs]
        exact ih () trivial
  exact lp 0 () (by omega) trivial
