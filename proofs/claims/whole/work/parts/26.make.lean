/-! ===== Maker.make ===== -/
/-- cells that making the kind at a leaves alone -/
def mkO (a : Nat) : Nat → Prop := fun b => (b < a ∨ a + 7 ≤ b) ∧ b ≠ 16 ∧ b ≠ 17 ∧ b ≠ 18
theorem shAdd_1 {M : pMem} {b m : Nat} {c x y w : Int} : mI (shAdd M b m c x y w) (b + 1) = up (mI M (b + 1)) m c := by
  funext j; unfold shAdd
  rw [stI_n _ _ (by omega), stI_n _ _ (by omega), stI_n _ _ (by omega), stI_n _ _ (by omega)]
  by_cases e : j = m
  · subst e; rw [stI_s, up_s]
  · rw [stI_n _ _ (by omega), up_n e]
theorem shAdd_2 {M : pMem} {b m : Nat} {c x y w : Int} : mI (shAdd M b m c x y w) (b + 2) = up (mI M (b + 2)) m x := by
  funext j; unfold shAdd
  rw [stI_n _ _ (by omega), stI_n _ _ (by omega), stI_n _ _ (by omega)]
  by_cases e : j = m
  · subst e; rw [stI_s, up_s]
  · rw [stI_n _ _ (by omega), stI_n _ _ (by omega), up_n e]
theorem shAdd_3 {M : pMem} {b m : Nat} {c x y w : Int} : mI (shAdd M b m c x y w) (b + 3) = up (mI M (b + 3)) m y := by
  funext j; unfold shAdd
  rw [stI_n _ _ (by omega), stI_n _ _ (by omega)]
  by_cases e : j = m
  · subst e; rw [stI_s, up_s]
  · rw [stI_n _ _ (by omega), stI_n _ _ (by omega), stI_n _ _ (by omega), up_n e]
theorem shAdd_4 {M : pMem} {b m : Nat} {c x y w : Int} : mI (shAdd M b m c x y w) (b + 4) = up (mI M (b + 4)) m w := by
  funext j; unfold shAdd
  rw [stI_n _ _ (by omega)]
  by_cases e : j = m
  · subst e; rw [stI_s, up_s]
  · rw [stI_n _ _ (by omega), stI_n _ _ (by omega), stI_n _ _ (by omega), stI_n _ _ (by omega), up_n e]
theorem shAdd_c {M : pMem} {b m : Nat} {c x y w : Int} : mI (shAdd M b m c x y w) b 4 = (m : Int) + 1 := by unfold shAdd; exact stI_s _ _ _ _
theorem shAdd_o {M : pMem} {b m : Nat} {c x y w : Int} {e j : Nat} (h : e < b ∨ b + 4 < e) : mI (shAdd M b m c x y w) e j = mI M e j := by
  unfold shAdd
  rw [stI_n _ _ (by omega), stI_n _ _ (by omega), stI_n _ _ (by omega), stI_n _ _ (by omega), stI_n _ _ (by omega)]
def mkI (G : pPg) (T : Nat → Int) (k : Int) (a : Nat) (M : pMem) (e : Nat) (N : pMem) : Prop :=
  agr (mkO a) M N ∧ (∀ c : Nat, 1 ≤ c → c ≤ 99 → mI N 16 c = knC G T k (c : Int)) ∧ mI N a 2 = kTn T k ∧ mI N (a + 1) 4 = (spc G T k (e - 1) : Int) ∧ kdP G T k (e - 1) (shS N (a + 1)) ∧ ∀ j, j < 16 → mL N (a + 6) j = -1
theorem kdP_no {G : pPg} {T : Nat → Int} {k : Int} {e : Nat} {Z : pS} (h : kdP G T k (e - 1) Z) (he : 1 ≤ e) (hs : ¬ isSp G T k (e : Int) = true) : kdP G T k e Z ∧ spc G T k e = spc G T k (e - 1) := by
  obtain ⟨d, rfl⟩ : ∃ d, e = d + 1 := ⟨e - 1, by omega⟩
  rw [Nat.add_sub_cancel] at h ⊢
  refine ⟨fun c h1 h2 h3 => ?_, by simp only [spc]; rw [if_neg hs]; rfl⟩
  rcases Nat.lt_or_ge c (d + 1) with q | q
  · exact h c h1 (by omega) h3
  · have : c = d + 1 := by omega
    subst this; exact absurd h3 hs
theorem kdP_yes {G : pPg} {T : Nat → Int} {k : Int} {e : Nat} {Z Z2 : pS} {x y : Int} (h : kdP G T k (e - 1) Z) (he : 1 ≤ e) (hs : isSp G T k (e : Int) = true)
    (e1 : Z2.1 = up Z.1 (spc G T k (e - 1)) x) (e2 : Z2.2.1 = up Z.2.1 (spc G T k (e - 1)) y) (e3 : Z2.2.2.1 = up Z.2.2.1 (spc G T k (e - 1)) (e : Int)) (e4 : Z2.2.2.2 = up Z.2.2.2 (spc G T k (e - 1)) (b01 (knC G T k (e : Int) = kTn T k)))
    (hx : isMed (cvX G T k (e : Int)) (knC G T k (e : Int)).toNat x) (hy : isMed (cvY G T k (e : Int)) (knC G T k (e : Int)).toNat y) : kdP G T k e Z2 ∧ spc G T k e = spc G T k (e - 1) + 1 := by
  obtain ⟨d, rfl⟩ : ∃ d, e = d + 1 := ⟨e - 1, by omega⟩
  rw [Nat.add_sub_cancel] at *
  refine ⟨fun c h1 h2 h3 => ?_, by simp only [spc]; rw [if_pos hs]⟩
  rw [e1, e2, e3, e4]
  rcases Nat.lt_or_ge c (d + 1) with q | q
  · have hlt : spc G T k (c - 1) < spc G T k d := by
      have := spc_mono (G := G) (T := T) (k := k) (show c ≤ d by omega)
      obtain ⟨c', rfl⟩ : ∃ c', c = c' + 1 := ⟨c - 1, by omega⟩
      simp only [spc] at this
      rw [if_pos h3] at this
      rw [Nat.add_sub_cancel]; omega
    rw [up_n (by omega), up_n (by omega), up_n (by omega), up_n (by omega)]
    exact h c h1 (by omega) h3
  · have : c = d + 1 := by omega
    subst this
    rw [Nat.add_sub_cancel, up_s, up_s, up_s, up_s]
    exact ⟨rfl, hx, hy, rfl⟩
theorem c_make {g : pG} {M : pMem} {a ta : Nat} {T : Nat → Int} {k : Int} (hW : pW M) (hA : pKd M a) (ha : 22 ≤ a ∧ (a ≤ 29 ∨ 118 ≤ a)) (ht : SH[ta]? = some (.inr (0, 16))) (hta : ta = 2 ∨ ta = 20) (hT : ∀ p, p < 16 → mI M ta p = T p ∧ -1 ≤ T p ∧ T p < 5) (hk : 0 ≤ k ∧ k < 5) (hG : pgM M) :
    pCn g 3 0 0 yX2_make cX2_make 7 none SH SH M [.inr (.inr 15), .inr (.inr a), .inl k, .inr (.inr 1), .inr (.inr ta)] (fun r M' => r = none ∧ agr (mkO a) M M' ∧ isKd (pgC M) T k (mI M' a 2) (mI M' (a + 1) 4).toNat (shS M' (a + 1)) ∧ mI M' (a + 1) 4 = (((mI M' (a + 1) 4).toNat : Nat) : Int) ∧ ∀ j, j < 16 → mL M' (a + 6) j = -1) := by
  refine pCn_intro mt_X2_make (fun X C => ?_)
  have h16 := spc_16 (G := pgC M) (T := T) (k := k) (fun p hp => (hG.2.1 p hp).1)
  have loop : ∀ (e : Nat) (s : pMem × Option pV), e ≤ 100 → (1 ≤ e ∧ mkI (pgC M) T k a M e s.1) → pE g 7 X (pMQ g SH (fun r M' => r = none ∧ agr (mkO a) M M' ∧ isKd (pgC M) T k (mI M' a 2) (mI M' (a + 1) 4).toNat (shS M' (a + 1)) ∧ mI M' (a + 1) 4 = (((mI M' (a + 1) 4).toNat : Nat) : Int) ∧ ∀ j, j < 16 → mL M' (a + 6) j = -1) X 0 0) SH s.1 0 0 16 [some (.inr (.inr 15)), some (.inr (.inr a)), some (.inl k), some (.inr (.inr 1)), some (.inr (.inr ta)), some (.inl (e : Int)), s.2] [] := by
    refine p_for 100 _ _ ?_ ?_
    · rintro ⟨N, x6⟩ ⟨-, i1, i2, i3, i4, i5, i6⟩
      dsimp only at i1 i2 i3 i4 i5 i6 ⊢
      refine e_iload C dX2_make_16 rfl ?_
      refine e_bipush C dX2_make_18 ?_
      refine e_icmp_gt C (tgt := 108) dX2_make_20 (by decide) (by omega) (by omega) (fun h_20 => ?_) (fun h_20 => by exfalso; omega)
      exact e_return C dX2_make_108 ⟨rfl, i1, ⟨i3, by rw [i4]; rfl, i5⟩, by rw [i4]; rfl, i6⟩
    · rintro e ⟨N, x6⟩ he2 ⟨he, hI⟩ ih
      dsimp only at hI ih ⊢
      obtain ⟨i1, i2, i3, i4, i5, i6⟩ := id hI
      have hk1 := kn_r (pgC M) T k (e : Int)
      have hWN : pW N := agr_W i1 hW
      have hAN : pKd N a := ⟨hA.1, (i1.2 _ _).trans hA.2.1, ⟨hA.2.2.1.1, hA.2.2.1.2.1, hA.2.2.1.2.2.1, hA.2.2.1.2.2.2.1, hA.2.2.1.2.2.2.2.1, (i1.2 _ _).trans hA.2.2.1.2.2.2.2.2.1, (i1.2 _ _).trans hA.2.2.1.2.2.2.2.2.2.1, (i1.2 _ _).trans hA.2.2.1.2.2.2.2.2.2.2.1, (i1.2 _ _).trans hA.2.2.1.2.2.2.2.2.2.2.2⟩, hA.2.2.2.1, (i1.2 _ _).trans hA.2.2.2.2⟩
      have pge : ∀ p, p < 16 → (pgC N).1 p = (pgC M).1 p ∧ (pgC N).2 p = (pgC M).2 p := fun p hp => pgC_ag i1 (fun b h1 h2 => by unfold mkO; omega) hp
      have ixe : ∀ p, p < 16 → ∀ c, ixC (pgC N) p c = ixC (pgC M) p c := fun p hp c => by unfold ixC; rw [(pge p hp).1, (pge p hp).2]
      have onKe : ∀ p, p < 16 → onK (pgC N) T k (e : Int) p = onK (pgC M) T k (e : Int) p := fun p hp => by unfold onK; rw [ixe p hp]
      have ixe : ∀ p, p < 16 → ixC (pgC N) p (e : Int) = ixC (pgC M) p (e : Int) := fun p hp => ixe p hp _
      have hGN : pgM N := by
        refine ⟨fun p hp => ?_, fun p hp => ?_, fun p i j hp hi hj => ?_⟩
        · rw [(pge p hp).1, (i1.1 _ 4 (by unfold mkO; omega)).1]; exact hG.1 p hp
        · rw [(pge p hp).1, (pge p hp).2]; exact hG.2.1 p hp
        · rw [(pge p hp).1] at hi hj; rw [(pge p hp).2]; exact hG.2.2 p i j hp hi hj
      have hTN : ∀ p, p < 16 → mI N ta p = T p ∧ -1 ≤ T p ∧ T p < 5 := fun p hp => ⟨((i1.1 ta p (by unfold mkO; omega)).1).trans (hT p hp).1, (hT p hp).2⟩
      by_cases hsp : isSp (pgC M) T k (e : Int) = true
      rotate_left
      · have nx : mkI (pgC M) T k a M (e + 1) N := by
          obtain ⟨k1, k2⟩ := kdP_no i5 he hsp
          exact ⟨i1, i2, i3, by rw [Nat.add_sub_cancel, k2]; exact i4, by rw [Nat.add_sub_cancel]; exact k1, i6⟩
        have hns : ¬ (0 < knC (pgC M) T k (e : Int) ∧ kTn T k ≤ 2 * knC (pgC M) T k (e : Int)) := fun q => hsp (decide_eq_true q)
        refine e_iload C dX2_make_16 rfl ?_
        refine e_bipush C dX2_make_18 ?_
        refine e_icmp_gt C (tgt := 108) dX2_make_20 (by decide) (by omega) (by omega) (fun h_20 => by exfalso; omega) (fun h_20 => ?_)
        refine e_aload_n C dX2_make_23 rfl ?_
        refine e_getR C f_X2_9 sh_15 (hWN 15 0 16 rfl) dX2_make_24 ?_
        refine e_iload C dX2_make_27 rfl ?_
        refine e_iaload C dX2_make_29 sh_16 e rfl (by omega) ?_
        rw [i2 e he (by omega)]
        refine e_if_le C (tgt := 102) dX2_make_30 (by decide) (by omega) (fun h_30 => ?_) (fun h_30 => ?_)
        · refine e_iinc C dX2_make_102 rfl ?_
          refine e_goto C (tgt := 16) dX2_make_105 (by decide) ?_
          exact ih (N, x6) ⟨by omega, nx⟩
        · refine e_iconst C dX2_make_33 ?_
          refine e_aload_n C dX2_make_34 rfl ?_
          refine e_getR C f_X2_9 sh_15 (hWN 15 0 16 rfl) dX2_make_35 ?_
          refine e_iload C dX2_make_38 rfl ?_
          refine e_iaload C dX2_make_40 sh_16 e rfl (by omega) ?_
          rw [i2 e he (by omega)]
          refine e_imul C dX2_make_41 ?_
          refine e_aload_n C dX2_make_42 rfl ?_
          refine e_getI C f_X2_30 hAN.1 dX2_make_43 ?_
          rw [i3]
          refine e_icmp_lt C (tgt := 102) dX2_make_46 (by decide) (by omega) (by omega) (fun h_46 => ?_) (fun h_46 => by exfalso; omega)
          refine e_iinc C dX2_make_102 rfl ?_
          refine e_goto C (tgt := 16) dX2_make_105 (by decide) ?_
          exact ih (N, x6) ⟨by omega, nx⟩
      · have hsp2 := of_decide_eq_true hsp
        have hlt : spc (pgC M) T k (e - 1) < 16 := by
          have h1 := spc_mono (G := pgC M) (T := T) (k := k) (show e ≤ 99 by omega)
          have h2 : spc (pgC M) T k e = spc (pgC M) T k (e - 1) + 1 := by
            obtain ⟨d, rfl⟩ : ∃ d, e = d + 1 := ⟨e - 1, by omega⟩
            rw [Nat.add_sub_cancel]; simp only [spc]; rw [if_pos hsp]
          omega
        by_cases hall : knC (pgC M) T k (e : Int) = kTn T k
        · refine e_iload C dX2_make_16 rfl ?_
          refine e_bipush C dX2_make_18 ?_
          refine e_icmp_gt C (tgt := 108) dX2_make_20 (by decide) (by omega) (by omega) (fun h_20 => by exfalso; omega) (fun h_20 => ?_)
          refine e_aload_n C dX2_make_23 rfl ?_
          refine e_getR C f_X2_9 sh_15 (hWN 15 0 16 rfl) dX2_make_24 ?_
          refine e_iload C dX2_make_27 rfl ?_
          refine e_iaload C dX2_make_29 sh_16 e rfl (by omega) ?_
          rw [i2 e he (by omega)]
          refine e_if_le C (tgt := 102) dX2_make_30 (by decide) (by omega) (fun h_30 => by exfalso; omega) (fun h_30 => ?_)
          refine e_iconst C dX2_make_33 ?_
          refine e_aload_n C dX2_make_34 rfl ?_
          refine e_getR C f_X2_9 sh_15 (hWN 15 0 16 rfl) dX2_make_35 ?_
          refine e_iload C dX2_make_38 rfl ?_
          refine e_iaload C dX2_make_40 sh_16 e rfl (by omega) ?_
          rw [i2 e he (by omega)]
          refine e_imul C dX2_make_41 ?_
          refine e_aload_n C dX2_make_42 rfl ?_
          refine e_getI C f_X2_30 hAN.1 dX2_make_43 ?_
          rw [i3]
          refine e_icmp_lt C (tgt := 102) dX2_make_46 (by decide) (by omega) (by omega) (fun h_46 => by exfalso; omega) (fun h_46 => ?_)
          refine e_aload_n C dX2_make_49 rfl ?_
          refine e_iload C dX2_make_50 rfl ?_
          refine e_iload_n C dX2_make_52 rfl ?_
          refine e_aload_n C dX2_make_53 rfl ?_
          refine e_aload C dX2_make_54 rfl ?_
          refine e_callV C (c_gather (M := N) (ta := ta) (T := T) (k := k) (c := (e : Int)) hWN ht hta hTN hk hGN (by omega)) mt_X2_gather s_X2_34 dX2_make_56 2 sh_15 rfl (fun r M1 hq => ?_)
          obtain ⟨n, f, h, rfl, rfl, hga⟩ := hq
          dsimp only [Option.toList_some, List.singleton_append]
          obtain ⟨q1, q2, q3, q4, q5, q6, q7, q8⟩ := hga
          have hn : (n : Int) = knC (pgC M) T k (e : Int) := by
            rw [q1]; exact (sg_congr (fun p hp => by rw [onKe p hp]))
          have hnn : (knC (pgC M) T k (e : Int)).toNat = n := by omega
          refine e_istore C dX2_make_59 ?_
          refine e_aload_n C dX2_make_61 rfl ?_
          refine e_getR C f_X2_38 hAN.1 hAN.2.1 dX2_make_62 ?_
          refine e_iload C dX2_make_65 rfl ?_
          refine e_aload_n C dX2_make_67 rfl ?_
          refine e_getR C f_X2_15 sh_15 (hWN 15 1 17 rfl) dX2_make_68 ?_
          refine e_iload C dX2_make_71 rfl ?_
          refine e_callS C (c_middle (M := GM N f h) (ra := 17) (n := n) rfl (by omega)) mt_X2_middle s_X2_42 dX2_make_73 (fun r2 M2 hq2 => ?_)
          obtain ⟨rfl, hM2⟩ := hq2
          subst M2
          dsimp only [Option.toList_some, List.singleton_append]
          rw [GM_17]
          refine e_aload_n C dX2_make_76 rfl ?_
          refine e_getR C f_X2_18 sh_15 (hWN 15 2 18 rfl) dX2_make_77 ?_
          refine e_iload C dX2_make_80 rfl ?_
          refine e_callS C (c_middle (M := GM N f h) (ra := 18) (n := n) rfl (by omega)) mt_X2_middle s_X2_42 dX2_make_82 (fun r3 M3 hq3 => ?_)
          obtain ⟨rfl, hM3⟩ := hq3
          subst M3
          dsimp only [Option.toList_some, List.singleton_append]
          rw [GM_18]
          refine e_iload C dX2_make_85 rfl ?_
          refine e_aload_n C dX2_make_87 rfl ?_
          refine e_getI C f_X2_30 hAN.1 dX2_make_88 ?_
          rw [GM_n _ (by omega), i3]
          refine e_icmp_ne C (tgt := 98) dX2_make_91 (by decide) (by omega) (by omega) (fun h_91 => by exfalso; omega) (fun h_91 => ?_)
          refine e_iconst C dX2_make_94 ?_
          refine e_goto C (tgt := 99) dX2_make_95 (by decide) ?_
          refine e_callV C (c_add (M := GM N f h) (a := a + 1) (N := 16) (n := spc (pgC M) T k (e - 1)) (c := (e : Int)) (x := f ((n - 1) / 2)) (y := h ((n - 1) / 2)) (w := 1) hAN.2.2.1 (by decide) (by rw [GM_n _ (by omega)]; exact i4) (by omega) (by omega)) mt_X4_add s_X2_46 dX2_make_99 4 hAN.2.2.1.1 rfl (fun r4 M4 hq4 => ?_)
          obtain ⟨rfl, hM4⟩ := hq4
          subst M4
          dsimp only [Option.toList_none, List.nil_append]
          refine e_iinc C dX2_make_102 rfl ?_
          refine e_goto C (tgt := 16) dX2_make_105 (by decide) ?_
          have hxx : isMed (cvX (pgC M) T k (e : Int)) (knC (pgC M) T k (e : Int)).toNat (f ((n - 1) / 2)) := ⟨f, by rw [hnn]; exact q3, fun t => by rw [hnn, q5]; exact sg_congr (fun p hp => by rw [onKe p hp, ixe p hp, (pge p hp).2]), by rw [hnn]⟩
          have hyy : isMed (cvY (pgC M) T k (e : Int)) (knC (pgC M) T k (e : Int)).toNat (h ((n - 1) / 2)) := ⟨h, by rw [hnn]; exact q4, fun t => by rw [hnn, q6]; exact sg_congr (fun p hp => by rw [onKe p hp, ixe p hp, (pge p hp).2]), by rw [hnn]⟩
          have hw4 : b01 (knC (pgC M) T k (e : Int) = kTn T k) = 1 := if_pos hall
          have gS : ∀ b, b ≠ 17 ∧ b ≠ 18 → mI (GM N f h) b = mI N b := fun b hb => funext (fun j => GM_n j hb)
          obtain ⟨kd1, kd2⟩ := kdP_yes (Z2 := shS (shAdd (GM N f h) (a + 1) (spc (pgC M) T k (e - 1)) (e : Int) (f ((n - 1) / 2)) (h ((n - 1) / 2)) 1) (a + 1)) i5 he hsp
            (by unfold shS; rw [shAdd_2, gS _ (by omega)]) (by unfold shS; rw [shAdd_3, gS _ (by omega)]) (by unfold shS; rw [shAdd_1, gS _ (by omega)]) (by unfold shS; rw [shAdd_4, gS _ (by omega), hw4]) hxx hyy
          refine ih (shAdd (GM N f h) (a + 1) (spc (pgC M) T k (e - 1)) (e : Int) (f ((n - 1) / 2)) (h ((n - 1) / 2)) 1, _) ⟨by omega, ⟨fun b j hb => ⟨?_, ?_⟩, i1.2⟩, fun c h1 h2 => ?_, ?_, ?_, by rw [Nat.add_sub_cancel]; exact kd1, i6⟩
          · dsimp only; rw [shAdd_o (by unfold mkO at hb; omega), GM_n _ (by unfold mkO at hb; omega)]; exact (i1.1 b j hb).1
          · exact (i1.1 b j hb).2
          · dsimp only; rw [shAdd_o (by omega), GM_n _ (by omega)]; exact i2 c h1 h2
          · dsimp only; rw [shAdd_o (by omega), GM_n _ (by omega)]; exact i3
          · dsimp only; rw [shAdd_c, Nat.add_sub_cancel, kd2]; rfl
        · refine e_iload C dX2_make_16 rfl ?_
          refine e_bipush C dX2_make_18 ?_
          refine e_icmp_gt C (tgt := 108) dX2_make_20 (by decide) (by omega) (by omega) (fun h_20 => by exfalso; omega) (fun h_20 => ?_)
          refine e_aload_n C dX2_make_23 rfl ?_
          refine e_getR C f_X2_9 sh_15 (hWN 15 0 16 rfl) dX2_make_24 ?_
          refine e_iload C dX2_make_27 rfl ?_
          refine e_iaload C dX2_make_29 sh_16 e rfl (by omega) ?_
          rw [i2 e he (by omega)]
          refine e_if_le C (tgt := 102) dX2_make_30 (by decide) (by omega) (fun h_30 => by exfalso; omega) (fun h_30 => ?_)
          refine e_iconst C dX2_make_33 ?_
          refine e_aload_n C dX2_make_34 rfl ?_
          refine e_getR C f_X2_9 sh_15 (hWN 15 0 16 rfl) dX2_make_35 ?_
          refine e_iload C dX2_make_38 rfl ?_
          refine e_iaload C dX2_make_40 sh_16 e rfl (by omega) ?_
          rw [i2 e he (by omega)]
          refine e_imul C dX2_make_41 ?_
          refine e_aload_n C dX2_make_42 rfl ?_
          refine e_getI C f_X2_30 hAN.1 dX2_make_43 ?_
          rw [i3]
          refine e_icmp_lt C (tgt := 102) dX2_make_46 (by decide) (by omega) (by omega) (fun h_46 => by exfalso; omega) (fun h_46 => ?_)
          refine e_aload_n C dX2_make_49 rfl ?_
          refine e_iload C dX2_make_50 rfl ?_
          refine e_iload_n C dX2_make_52 rfl ?_
          refine e_aload_n C dX2_make_53 rfl ?_
          refine e_aload C dX2_make_54 rfl ?_
          refine e_callV C (c_gather (M := N) (ta := ta) (T := T) (k := k) (c := (e : Int)) hWN ht hta hTN hk hGN (by omega)) mt_X2_gather s_X2_34 dX2_make_56 2 sh_15 rfl (fun r M1 hq => ?_)
          obtain ⟨n, f, h, rfl, rfl, hga⟩ := hq
          dsimp only [Option.toList_some, List.singleton_append]
          obtain ⟨q1, q2, q3, q4, q5, q6, q7, q8⟩ := hga
          have hn : (n : Int) = knC (pgC M) T k (e : Int) := by
            rw [q1]; exact (sg_congr (fun p hp => by rw [onKe p hp]))
          have hnn : (knC (pgC M) T k (e : Int)).toNat = n := by omega
          refine e_istore C dX2_make_59 ?_
          refine e_aload_n C dX2_make_61 rfl ?_
          refine e_getR C f_X2_38 hAN.1 hAN.2.1 dX2_make_62 ?_
          refine e_iload C dX2_make_65 rfl ?_
          refine e_aload_n C dX2_make_67 rfl ?_
          refine e_getR C f_X2_15 sh_15 (hWN 15 1 17 rfl) dX2_make_68 ?_
          refine e_iload C dX2_make_71 rfl ?_
          refine e_callS C (c_middle (M := GM N f h) (ra := 17) (n := n) rfl (by omega)) mt_X2_middle s_X2_42 dX2_make_73 (fun r2 M2 hq2 => ?_)
          obtain ⟨rfl, hM2⟩ := hq2
          subst M2
          dsimp only [Option.toList_some, List.singleton_append]
          rw [GM_17]
          refine e_aload_n C dX2_make_76 rfl ?_
          refine e_getR C f_X2_18 sh_15 (hWN 15 2 18 rfl) dX2_make_77 ?_
          refine e_iload C dX2_make_80 rfl ?_
          refine e_callS C (c_middle (M := GM N f h) (ra := 18) (n := n) rfl (by omega)) mt_X2_middle s_X2_42 dX2_make_82 (fun r3 M3 hq3 => ?_)
          obtain ⟨rfl, hM3⟩ := hq3
          subst M3
          dsimp only [Option.toList_some, List.singleton_append]
          rw [GM_18]
          refine e_iload C dX2_make_85 rfl ?_
          refine e_aload_n C dX2_make_87 rfl ?_
          refine e_getI C f_X2_30 hAN.1 dX2_make_88 ?_
          rw [GM_n _ (by omega), i3]
          refine e_icmp_ne C (tgt := 98) dX2_make_91 (by decide) (by omega) (by omega) (fun h_91 => ?_) (fun h_91 => by exfalso; omega)
          refine e_iconst C dX2_make_98 ?_
          refine e_callV C (c_add (M := GM N f h) (a := a + 1) (N := 16) (n := spc (pgC M) T k (e - 1)) (c := (e : Int)) (x := f ((n - 1) / 2)) (y := h ((n - 1) / 2)) (w := 0) hAN.2.2.1 (by decide) (by rw [GM_n _ (by omega)]; exact i4) (by omega) (by omega)) mt_X4_add s_X2_46 dX2_make_99 4 hAN.2.2.1.1 rfl (fun r4 M4 hq4 => ?_)
          obtain ⟨rfl, hM4⟩ := hq4
          subst M4
          dsimp only [Option.toList_none, List.nil_append]
          refine e_iinc C dX2_make_102 rfl ?_
          refine e_goto C (tgt := 16) dX2_make_105 (by decide) ?_
          have hxx : isMed (cvX (pgC M) T k (e : Int)) (knC (pgC M) T k (e : Int)).toNat (f ((n - 1) / 2)) := ⟨f, by rw [hnn]; exact q3, fun t => by rw [hnn, q5]; exact sg_congr (fun p hp => by rw [onKe p hp, ixe p hp, (pge p hp).2]), by rw [hnn]⟩
          have hyy : isMed (cvY (pgC M) T k (e : Int)) (knC (pgC M) T k (e : Int)).toNat (h ((n - 1) / 2)) := ⟨h, by rw [hnn]; exact q4, fun t => by rw [hnn, q6]; exact sg_congr (fun p hp => by rw [onKe p hp, ixe p hp, (pge p hp).2]), by rw [hnn]⟩
          have hw4 : b01 (knC (pgC M) T k (e : Int) = kTn T k) = 0 := if_neg hall
          have gS : ∀ b, b ≠ 17 ∧ b ≠ 18 → mI (GM N f h) b = mI N b := fun b hb => funext (fun j => GM_n j hb)
          obtain ⟨kd1, kd2⟩ := kdP_yes (Z2 := shS (shAdd (GM N f h) (a + 1) (spc (pgC M) T k (e - 1)) (e : Int) (f ((n - 1) / 2)) (h ((n - 1) / 2)) 0) (a + 1)) i5 he hsp
            (by unfold shS; rw [shAdd_2, gS _ (by omega)]) (by unfold shS; rw [shAdd_3, gS _ (by omega)]) (by unfold shS; rw [shAdd_1, gS _ (by omega)]) (by unfold shS; rw [shAdd_4, gS _ (by omega), hw4]) hxx hyy
          refine ih (shAdd (GM N f h) (a + 1) (spc (pgC M) T k (e - 1)) (e : Int) (f ((n - 1) / 2)) (h ((n - 1) / 2)) 0, _) ⟨by omega, ⟨fun b j hb => ⟨?_, ?_⟩, i1.2⟩, fun c h1 h2 => ?_, ?_, ?_, by rw [Nat.add_sub_cancel]; exact kd1, i6⟩
          · dsimp only; rw [shAdd_o (by unfold mkO at hb; omega), GM_n _ (by unfold mkO at hb; omega)]; exact (i1.1 b j hb).1
          · exact (i1.1 b j hb).2
          · dsimp only; rw [shAdd_o (by omega), GM_n _ (by omega)]; exact i2 c h1 h2
          · dsimp only; rw [shAdd_o (by omega), GM_n _ (by omega)]; exact i3
          · dsimp only; rw [shAdd_c, Nat.add_sub_cancel, kd2]; rfl
  show pE g 7 X _ SH M 0 0 0 [some (.inr (.inr 15)), some (.inr (.inr a)), some (.inl k), some (.inr (.inr 1)), some (.inr (.inr ta)), none, none] []
  refine e_aload_n C dX2_make_0 rfl ?_
  refine e_callV C (c_kclear (M := M) (a := a) hA) mt_X0_clear s_X2_21 dX2_make_1 0 hA.1 rfl (fun r M1 hq => ?_)
  obtain ⟨rfl, hM⟩ := hq
  subst M1
  dsimp only [Option.toList_none, List.nil_append]
  have a1 : agr (mkO a) M (kdClear M a) := by
    unfold kdClear
    refine agr_tr (agr_tr (agr_stI (fun b hb => by unfold mkO at hb; omega)) (agr_stI (fun b hb => by unfold mkO at hb; omega))) (agr_wrL (fun b hb => by unfold mkO at hb; omega))
  have pge : ∀ p, p < 16 → (pgC (kdClear M a)).1 p = (pgC M).1 p ∧ (pgC (kdClear M a)).2 p = (pgC M).2 p := fun p hp => pgC_ag a1 (fun b h1 h2 => by unfold mkO; omega) hp
  have hGN : pgM (kdClear M a) := by
    refine ⟨fun p hp => ?_, fun p hp => ?_, fun p i j hp hi hj => ?_⟩
    · rw [(pge p hp).1, (a1.1 _ 4 (by unfold mkO; omega)).1]; exact hG.1 p hp
    · rw [(pge p hp).1, (pge p hp).2]; exact hG.2.1 p hp
    · rw [(pge p hp).1] at hi hj; rw [(pge p hp).2]; exact hG.2.2 p i j hp hi hj
  have hTN : ∀ p, p < 16 → mI (kdClear M a) ta p = T p ∧ -1 ≤ T p ∧ T p < 5 := fun p hp => ⟨((a1.1 ta p (by unfold mkO; omega)).1).trans (hT p hp).1, (hT p hp).2⟩
  have z2 : mI (kdClear M a) a 2 = 0 := stI_s _ _ _ _
  refine e_aload_n C dX2_make_4 rfl ?_
  refine e_aload_n C dX2_make_5 rfl ?_
  refine e_iload_n C dX2_make_6 rfl ?_
  refine e_aload_n C dX2_make_7 rfl ?_
  refine e_aload C dX2_make_8 rfl ?_
  refine e_callV C (c_carriers (M := kdClear M a) (a := a) (ta := ta) (T := T) (k := k) hW hA ha ht hta hTN hk hGN z2) mt_X2_countCarriers s_X2_26 dX2_make_10 2 sh_15 rfl (fun r5 M5 hq5 => ?_)
  obtain ⟨f, rfl, rfl, hf⟩ := hq5
  dsimp only [Option.toList_none, List.nil_append]
  refine e_iconst C dX2_make_13 ?_
  refine e_istore C dX2_make_14 ?_
  refine loop 1 (stI (wrI (kdClear M a) 16 f) a 2 (kTn T k), none) (by omega) ⟨Nat.le_refl _, ?_, fun c h1 h2 => ?_, stI_s _ _ _ _, ?_, fun c h1 h2 => ?_, fun j hj => ?_⟩
  · refine agr_tr a1 (agr_tr (agr_wrI (fun b hb => by unfold mkO at hb; omega)) (agr_stI (fun b hb => by unfold mkO at hb; omega)))
  · dsimp only; rw [stI_n _ _ (by omega), wrI_s, hf c h1 h2]
    exact sg_congr (fun p hp => by unfold onK ixC; rw [(pge p hp).1, (pge p hp).2])
  · dsimp only; rw [stI_n _ _ (by omega), wrI_n _ _ _ (by omega)]
    show mI (stI (stI M (a + 1) 4 0) a 2 0) (a + 1) 4 = _
    rw [stI_n _ _ (by omega), stI_s]; rfl
  · simp only [Nat.sub_self] at h2; omega
  · show mL (wrL (stI (stI M (a + 1) 4 0) a 2 0) (a + 6) (fil (mL M (a + 6)) (-1) 16)) (a + 6) j = -1
    rw [wrL_s]; exact fil_i hj
