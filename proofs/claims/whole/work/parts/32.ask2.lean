def rdF (K i : Int) (cd : Nat → Int) : Nat → Nat → Int
  | _, 0 => -1
  | b, n + 1 => if dgF K b = i then cd b else rdF K i cd (b + 1) n
theorem c_read {g : pG} {M : pMem}  {p : Int} {k : Int} {i : Int} (hi_p : -2147483648 ≤ p ∧ p < 2147483648) (hi_k : -2147483648 ≤ k ∧ k < 2147483648) (hi_i : -2147483648 ≤ i ∧ i < 2147483648) (hJ : JC M) : pCn g 6 0 0 yX5_read cX5_read 8 (some .int) SH SH M [.inr (.inr 0), .inl p, .inl k, .inl i] (fun r M' => r = some (.inl (if (isP M p ∧ hasK M k) ∧ 0 ≤ i ∧ i ≤ mI M (118 + 7 * k.toNat + 1) 4 - 1 then rdF (ckF M (118 + 7 * k.toNat) p.toNat) i (mI M (38 + 5 * p.toNat + 1)) 0 ((pgC M).1 p.toNat) else -1)) ∧ cch M M') := by
  refine pCn_intro mt_X5_read (fun X C => ?_)
  have hW := hJ.1
  have hn := hJ.2.2.2.1
  have hkr := JC_kr hJ
  have hbr := JC_br hJ
  show pE g 8 X _ SH M 0 0 0 [some (.inr (.inr 0)), some (.inl p), some (.inl k), some (.inl i), none, none, none, none] []
  refine e_aload_n C dX5_read_0 rfl ?_
  refine e_iload_n C dX5_read_1 rfl ?_
  refine e_callV C (c_isPage hi_p (by omega)) mt_X5_isPage s_X5_85 dX5_read_2 5 sh_0 rfl (fun r M1 hq => ?_)
  obtain ⟨rfl, hM⟩ := hq
  subst M1
  dsimp only [Option.toList_some, List.singleton_append]
  refine e_if_eq C (tgt := 38) dX5_read_5 (by decide) (by split <;> omega) (fun h_5 => ?_) (fun h_5 => ?_)
  · have hpp := ite0.mp h_5
    refine e_iconst C dX5_read_38 ?_
    exact e_ireturn C dX5_read_39 ⟨by rw [if_neg (fun z => by first | exact hpp z.1.1 | exact hkk z.1.2 | (apply hii; rw [← k1]; exact z.2))], cch_rf M⟩
  · have hpp := ite1.mp h_5
    obtain ⟨q, rfl, hq, hq2⟩ := isP_n hJ hpp
    refine e_aload_n C dX5_read_8 rfl ?_
    refine e_iload_n C dX5_read_9 rfl ?_
    refine e_callV C (c_hasPages hi_k hW hkr) mt_X5_hasPages s_X5_150 dX5_read_10 5 sh_0 rfl (fun rh Mh hqh => ?_)
    obtain ⟨rfl, hMh⟩ := hqh
    subst Mh
    dsimp only [Option.toList_some, List.singleton_append]
    refine e_if_eq C (tgt := 38) dX5_read_13 (by decide) (by split <;> omega) (fun h_13 => ?_) (fun h_13 => ?_)
    · have hkk := ite0.mp h_13
      refine e_iconst C dX5_read_38 ?_
      exact e_ireturn C dX5_read_39 ⟨by rw [if_neg (fun z => by first | exact hpp z.1.1 | exact hkk z.1.2 | (apply hii; rw [← k1]; exact z.2))], cch_rf M⟩
    · have hkk := ite1.mp h_13
      obtain ⟨j, rfl, hj, hj2⟩ := hasK_n hkk
      obtain ⟨k1, k2, k3, k4, k5⟩ := (hJ.2.2.2.2.2.2.2.2.1 j hj).1
      have k1 : mI M (118 + 7 * j + 1) 4 = ((nSp M (118 + 7 * j) : Nat) : Int) := k1
      refine e_iload_n C dX5_read_16 rfl ?_
      refine e_iconst C dX5_read_17 ?_
      refine e_aload_n C dX5_read_18 rfl ?_
      refine e_getR C f_X5_21 sh_0 (hW 0 2 3 rfl) dX5_read_19 ?_
      refine e_iload_n C dX5_read_22 rfl ?_
      refine e_aaload4 C dX5_read_23 sh_3 _ rfl (by omega) (hW 3 j _ (rt_kind j hj).1) ?_
      refine e_getR C f_X5_133 (pKd_kind hW hj).1 (pKd_kind hW hj).2.1 dX5_read_24 ?_
      refine e_getI C f_X5_93 (pKd_kind hW hj).2.2.1.1 dX5_read_27 ?_
      rw [k1]
      refine e_iconst C dX5_read_30 ?_
      refine e_isub C dX5_read_31 ?_
      refine e_callS C (c_isIn (v := i) (a := 0) (b := ((nSp M (118 + 7 * j) : Nat) : Int) - 1) (by omega) (by omega) (by omega)) mt_X5_isIn s_X5_89 dX5_read_32 (fun r3 M3 hq3 => ?_)
      obtain ⟨rfl, hM3⟩ := hq3
      subst M3
      dsimp only [Option.toList_some, List.singleton_append]
      refine e_if_ne C (tgt := 40) dX5_read_35 (by decide) (by split <;> omega) (fun h_35 => ?_) (fun h_35 => ?_)
      · have hii := ite1.mp h_35
        refine e_aload_n C dX5_read_40 rfl ?_
        refine e_iload_n C dX5_read_41 rfl ?_
        refine e_aload_n C dX5_read_42 rfl ?_
        refine e_getR C f_X5_21 sh_0 (hW 0 2 3 rfl) dX5_read_43 ?_
        refine e_iload_n C dX5_read_46 rfl ?_
        refine e_aaload4 C dX5_read_47 sh_3 _ rfl (by omega) (hW 3 j _ (rt_kind j hj).1) ?_
        refine e_callV C (c_layK (M := M) (k := j) (p := q) hJ hj hq) mt_X5_laying s_X5_153 dX5_read_48 5 sh_0 rfl (fun rl Ml hql => ?_)
        obtain ⟨rfl, hck, hcc⟩ := hql
        dsimp only [Option.toList_some, List.singleton_append]
        have hKr := ck_r hJ hj hq hck
        have hWl := cch_W hcc hW
        refine e_lstore C dX5_read_51 ?_
        refine e_aload_n C dX5_read_53 rfl ?_
        refine e_getR C f_X5_11 sh_0 (hWl 0 0 1 rfl) dX5_read_54 ?_
        refine e_iload_n C dX5_read_57 rfl ?_
        refine e_aaload3 C dX5_read_58 sh_1 _ rfl (by omega) (hWl 1 q _ (rt_page q hq).1) ?_
        refine e_astore C dX5_read_59 ?_
        refine e_iconst C dX5_read_61 ?_
        refine e_istore C dX5_read_62 ?_
        have hcq := hJ.2.1.1 q hq
        have hc8 := (hJ.2.1.2.1 q hq).1
        have ecn : mI Ml (38 + 5 * q) 4 = (((pgC M).1 q : Nat) : Int) := by rw [cch_row hcc (by omega) (by omega) (by omega) (by omega)]; exact hcq
        have ecd : ∀ b, mI Ml (38 + 5 * q + 1) b = mI M (38 + 5 * q + 1) b := fun b => by rw [cch_row hcc (by omega) (by omega) (by omega) (by omega)]
        have loop : ∀ (b : Nat) (s : Unit), b ≤ (pgC M).1 q → rdF (ckF M (118 + 7 * j) q) i (mI M (38 + 5 * q + 1)) b ((pgC M).1 q - b) = rdF (ckF M (118 + 7 * j) q) i (mI M (38 + 5 * q + 1)) 0 ((pgC M).1 q) → pE g 8 X (pMQ g SH (fun r M' => r = some (.inl (if (isP M (q : Int) ∧ hasK M (j : Int)) ∧ 0 ≤ i ∧ i ≤ mI M (118 + 7 * (j : Int).toNat + 1) 4 - 1 then rdF (ckF M (118 + 7 * (j : Int).toNat) (q : Int).toNat) i (mI M (38 + 5 * (q : Int).toNat + 1)) 0 ((pgC M).1 (q : Int).toNat) else -1)) ∧ cch M M') X 0 0) SH Ml 0 0 64 [some (.inr (.inr 0)), some (.inl (q : Int)), some (.inl (j : Int)), some (.inl i), some (.inr (.inl (ckF M (118 + 7 * j) q))), none, some (.inr (.inr (38 + 5 * q))), some (.inl (b : Int))] [] := by
          refine p_for ((pgC M).1 q) _ _ ?_ ?_
          · intro s hs
            refine e_iload C dX5_read_64 rfl ?_
            refine e_aload C dX5_read_66 rfl ?_
            refine e_getI C f_X5_93 (pSh_page hWl hq).1 dX5_read_68 ?_
            rw [ecn]
            refine e_icmp_ge C (tgt := 100) dX5_read_71 (by decide) (by omega) (by omega) (fun h_71 => ?_) (fun h_71 => by exfalso; omega)
            refine e_iconst C dX5_read_100 ?_
            exact e_ireturn C dX5_read_101 ⟨by rw [if_pos ⟨⟨hpp, hkk⟩, by rw [show (118 + 7 * (j : Int).toNat + 1) = 118 + 7 * j + 1 from rfl, k1]; exact hii⟩]; show _ = some (Sum.inl (rdF (ckF M (118 + 7 * j) q) i (mI M (38 + 5 * q + 1)) 0 ((pgC M).1 q))); rw [← hs, Nat.sub_self]; rfl, hcc⟩
          · intro b s hb hs ih
            have hst : rdF (ckF M (118 + 7 * j) q) i (mI M (38 + 5 * q + 1)) b ((pgC M).1 q - b) = if dgF (ckF M (118 + 7 * j) q) b = i then mI M (38 + 5 * q + 1) b else rdF (ckF M (118 + 7 * j) q) i (mI M (38 + 5 * q + 1)) (b + 1) ((pgC M).1 q - (b + 1)) := by
              rw [show (pgC M).1 q - b = ((pgC M).1 q - (b + 1)) + 1 by omega]; rfl
            have hdr : -1 ≤ dgF (ckF M (118 + 7 * j) q) b ∧ dgF (ckF M (118 + 7 * j) q) b ≤ 17 := by unfold dgF; split <;> omega
            refine e_iload C dX5_read_64 rfl ?_
            refine e_aload C dX5_read_66 rfl ?_
            refine e_getI C f_X5_93 (pSh_page hWl hq).1 dX5_read_68 ?_
            rw [ecn]
            refine e_icmp_ge C (tgt := 100) dX5_read_71 (by decide) (by omega) (by omega) (fun h_71 => by exfalso; omega) (fun h_71 => ?_)
            refine e_lload C dX5_read_74 rfl ?_
            refine e_iload C dX5_read_76 rfl ?_
            refine e_callS C (c_spotIn (M := Ml) (K := ckF M (118 + 7 * j) q) (b := b) (by omega) (by omega)) mt_X5_spotIn s_X5_161 dX5_read_78 (fun r4 M4 hq4 => ?_)
            obtain ⟨rfl, hM4⟩ := hq4
            subst M4
            dsimp only [Option.toList_some, List.singleton_append]
            rw [show (if ckF M (118 + 7 * j) q / 17 ^ (7 - b) % 17 = 16 then (-1 : Int) else ckF M (118 + 7 * j) q / 17 ^ (7 - b) % 17) = dgF (ckF M (118 + 7 * j) q) b from rfl]
            refine e_iload_n C dX5_read_81 rfl ?_
            refine e_icmp_ne C (tgt := 94) dX5_read_82 (by decide) (by omega) (by omega) (fun h_82 => ?_) (fun h_82 => ?_)
            · refine e_iinc C dX5_read_94 rfl ?_
              refine e_goto C (tgt := 64) dX5_read_97 (by decide) ?_
              exact ih () (by rw [← hs, hst, if_neg h_82])
            · refine e_aload C dX5_read_85 rfl ?_
              refine e_getR C f_X5_137 (pSh_page hWl hq).1 (pSh_page hWl hq).2.2.2.2.2.1 dX5_read_87 ?_
              refine e_iload C dX5_read_90 rfl ?_
              refine e_iaload C dX5_read_92 (pSh_page hWl hq).2.1 _ rfl (by omega) ?_
              rw [ecd]
              exact e_ireturn C dX5_read_93 ⟨by rw [if_pos ⟨⟨hpp, hkk⟩, by rw [show (118 + 7 * (j : Int).toNat + 1) = 118 + 7 * j + 1 from rfl, k1]; exact hii⟩]; show _ = some (Sum.inl (rdF (ckF M (118 + 7 * j) q) i (mI M (38 + 5 * q + 1)) 0 ((pgC M).1 q))); rw [← hs, hst, if_pos (Classical.not_not.mp h_82)], hcc⟩
        exact loop 0 () (by omega) rfl
      · have hii := fun z => h_35 (ite1.mpr z)
        refine e_iconst C dX5_read_38 ?_
        exact e_ireturn C dX5_read_39 ⟨by rw [if_neg (fun z => by first | exact hpp z.1.1 | exact hkk z.1.2 | (apply hii; rw [← k1]; exact z.2))], cch_rf M⟩
def lkF (T so sp : Nat → Int) : Nat → Int × Int
  | 0 => (-1, 1000000)
  | p + 1 => if T p = -1 ∧ so p = 11 ∧ sp p < (lkF T so sp p).2 then ((p : Int), sp p) else lkF T so sp p
noncomputable def spM (M : pMem) (p : Nat) : Int := (rkM M kap p 5).2.2 - (rkM M kap p 5).2.1
theorem c_look {g : pG} {M : pMem} (hJ : JC M) : pCn g 7 0 0 yX5_look cX5_look 4 (some .int) SH SH M [.inr (.inr 0)] (fun r M' => r = some (.inl (lkF (mI M 2) (soM M) (spM M) (mI M 0 12).toNat).1) ∧ cch M M') := by
  refine pCn_intro mt_X5_look (fun X C => ?_)
  have hW := hJ.1
  have hn := hJ.2.2.2.1
  obtain ⟨n, hn2⟩ : ∃ n : Nat, mI M 0 12 = (n : Int) := ⟨(mI M 0 12).toNat, by omega⟩
  have en : (mI M 0 12).toNat = n := by omega
  have loop : ∀ (i : Nat) (N : pMem), i ≤ n → (cch M N ∧ -2147483648 ≤ (lkF (mI M 2) (soM M) (spM M) i).2 ∧ (lkF (mI M 2) (soM M) (spM M) i).2 ≤ 1000000) → pE g 4 X (pMQ g SH (fun r M' => r = some (.inl (lkF (mI M 2) (soM M) (spM M) (mI M 0 12).toNat).1) ∧ cch M M') X 0 0) SH N 0 0 7 [some (.inr (.inr 0)), some (.inl (lkF (mI M 2) (soM M) (spM M) i).1), some (.inl (lkF (mI M 2) (soM M) (spM M) i).2), some (.inl (i : Int))] [] := by
    refine p_for n _ _ ?_ ?_
    · rintro N ⟨hc, hr⟩
      have hWN := cch_W hc hW
      have e12 : mI N 0 12 = (n : Int) := (hc.2.1 0 12 (by omega) (by decide) (by decide) (by decide)).trans hn2
      refine e_iload_n C dX5_look_7 rfl ?_
      refine e_aload_n C dX5_look_8 rfl ?_
      refine e_getI C f_X5_66 sh_0 dX5_look_9 ?_
      rw [e12]
      refine e_icmp_ge C (tgt := 66) dX5_look_12 (by decide) (by omega) (by omega) (fun h_12 => ?_) (fun h_12 => by exfalso; omega)
      refine e_iload_n C dX5_look_66 rfl ?_
      exact e_ireturn C dX5_look_67 ⟨by rw [en], hc⟩
    · rintro i N hi ⟨hc, hr⟩ ih
      have hWN := cch_W hc hW
      have e12 : mI N 0 12 = (n : Int) := (hc.2.1 0 12 (by omega) (by decide) (by decide) (by decide)).trans hn2
      have eT : mI N 2 i = mI M 2 i := hc.2.1 2 i (by omega) (by decide) (by decide) (by decide)
      have hTr := hJ.2.2.2.2.1 i (by omega)
      have hsr := soM_r M i
      have keep : ¬ (mI M 2 i = -1 ∧ soM M i = 11 ∧ spM M i < (lkF (mI M 2) (soM M) (spM M) i).2) → lkF (mI M 2) (soM M) (spM M) (i + 1) = lkF (mI M 2) (soM M) (spM M) i := fun h => by
        show (if _ then _ else _) = _
        rw [if_neg h]
      by_cases hT : mI M 2 i = -1
      rotate_left
      · have hk := keep (fun z => hT z.1)
        refine e_iload_n C dX5_look_7 rfl ?_
        refine e_aload_n C dX5_look_8 rfl ?_
        refine e_getI C f_X5_66 sh_0 dX5_look_9 ?_
        rw [e12]
        refine e_icmp_ge C (tgt := 66) dX5_look_12 (by decide) (by omega) (by omega) (fun h_12 => by exfalso; omega) (fun h_12 => ?_)
        refine e_aload_n C dX5_look_15 rfl ?_
        refine e_getR C f_X5_15 sh_0 (hWN 0 1 2 rfl) dX5_look_16 ?_
        refine e_iload_n C dX5_look_19 rfl ?_
        refine e_iaload C dX5_look_20 sh_2 _ rfl (by omega) ?_
        rw [eT]
        refine e_iconst C dX5_look_21 ?_
        refine e_icmp_ne C (tgt := 60) dX5_look_22 (by decide) (by omega) (by omega) (fun h_22 => ?_) (fun h_22 => by exact absurd (fun e => hT e) h_22)
        refine e_iinc C dX5_look_60 rfl ?_
        refine e_goto C (tgt := 7) dX5_look_63 (by decide) ?_
        have hih := ih N ⟨hc, by rw [hk]; exact hr⟩
        rw [hk] at hih
        exact hih
      refine e_iload_n C dX5_look_7 rfl ?_
      refine e_aload_n C dX5_look_8 rfl ?_
      refine e_getI C f_X5_66 sh_0 dX5_look_9 ?_
      rw [e12]
      refine e_icmp_ge C (tgt := 66) dX5_look_12 (by decide) (by omega) (by omega) (fun h_12 => by exfalso; omega) (fun h_12 => ?_)
      refine e_aload_n C dX5_look_15 rfl ?_
      refine e_getR C f_X5_15 sh_0 (hWN 0 1 2 rfl) dX5_look_16 ?_
      refine e_iload_n C dX5_look_19 rfl ?_
      refine e_iaload C dX5_look_20 sh_2 _ rfl (by omega) ?_
      rw [eT]
      refine e_iconst C dX5_look_21 ?_
      refine e_icmp_ne C (tgt := 60) dX5_look_22 (by decide) (by omega) (by omega) (fun h_22 => by exact absurd hT h_22) (fun h_22 => ?_)
      refine e_aload_n C dX5_look_25 rfl ?_
      refine e_iload_n C dX5_look_26 rfl ?_
      refine e_aload_n C dX5_look_27 rfl ?_
      refine e_getR C f_X5_21 sh_0 (hWN 0 2 3 rfl) dX5_look_28 ?_
      refine e_callV C (c_rankK (M := N) (p := i) (JC_cch hJ hc) (by omega)) mt_X5_rank s_X5_174 dX5_look_31 5 sh_0 rfl (fun r M1 hq => ?_)
      obtain ⟨rfl, hrk, hc2, hsm⟩ := hq
      dsimp only [Option.toList_some, List.singleton_append]
      rw [soM_c hc]
      have hrO := hrk.2
      have hrk := hrk.1
      rw [rkM_c (κ := kap) hc (fun k hk => kaK_k hk)] at hrk
      have hcM := cch_tr hc hc2
      have hW1 := cch_W hcM hW
      have esp : mI M1 19 2 - mI M1 19 1 = spM M i := by rw [hrk.2.1, hrk.2.2]; rfl
      refine e_bipush C dX5_look_34 ?_
      refine e_icmp_ne C (tgt := 60) dX5_look_36 (by decide) (by omega) (by omega) (fun h_36 => ?_) (fun h_36 => ?_)
      · have hk := keep (fun z => h_36 z.2.1)
        refine e_iinc C dX5_look_60 rfl ?_
        refine e_goto C (tgt := 7) dX5_look_63 (by decide) ?_
        first
          | (have hih := ih M1 ⟨hcM, by rw [hk]; exact hr⟩
             rw [hk] at hih
             exact hih)
          | (have hih := ih M1 ⟨hcM, by rw [hk]; dsimp only; omega⟩
             rw [hk] at hih
             exact hih)
      · have hso := Classical.not_not.mp h_36
        refine e_aload_n C dX5_look_39 rfl ?_
        refine e_getR C f_X5_42 sh_0 (hW1 0 5 19 rfl) dX5_look_40 ?_
        refine e_callV C (c_spread (M := M1)) mt_X3_spread s_X5_179 dX5_look_43 3 sh_19 rfl (fun r2 M2 hq2 => ?_)
        obtain ⟨rfl, hM2⟩ := hq2
        subst M2
        dsimp only [Option.toList_some, List.singleton_append]
        rw [esp]
        refine e_iload_n C dX5_look_46 rfl ?_
        have hspr : -1000000 ≤ spM M i ∧ spM M i ≤ 1000000 := by rw [← esp]; unfold rkOk at hrO; omega
        refine e_icmp_ge C (tgt := 60) dX5_look_47 (by decide) (by omega) (by omega) (fun h_47 => ?_) (fun h_47 => ?_)
        · have hk := keep (fun z => by omega)
          refine e_iinc C dX5_look_60 rfl ?_
          refine e_goto C (tgt := 7) dX5_look_63 (by decide) ?_
          first
            | (have hih := ih M1 ⟨hcM, by rw [hk]; exact hr⟩
               rw [hk] at hih
               exact hih)
            | (have hih := ih M1 ⟨hcM, by rw [hk]; dsimp only; omega⟩
               rw [hk] at hih
               exact hih)
        · have hk : lkF (mI M 2) (soM M) (spM M) (i + 1) = ((i : Int), spM M i) := by
            show (if _ then _ else _) = _
            rw [if_pos ⟨hT, hso, by omega⟩]
          refine e_iload_n C dX5_look_50 rfl ?_
          refine e_istore_n C dX5_look_51 ?_
          refine e_aload_n C dX5_look_52 rfl ?_
          refine e_getR C f_X5_42 sh_0 (hW1 0 5 19 rfl) dX5_look_53 ?_
          refine e_callV C (c_spread (M := M1)) mt_X3_spread s_X5_179 dX5_look_56 3 sh_19 rfl (fun r3 M3 hq3 => ?_)
          obtain ⟨rfl, hM3⟩ := hq3
          subst M3
          dsimp only [Option.toList_some, List.singleton_append]
          rw [esp]
          refine e_istore_n C dX5_look_59 ?_
          refine e_iinc C dX5_look_60 rfl ?_
          refine e_goto C (tgt := 7) dX5_look_63 (by decide) ?_
          first
            | (have hih := ih M1 ⟨hcM, by rw [hk]; exact hr⟩
               rw [hk] at hih
               exact hih)
            | (have hih := ih M1 ⟨hcM, by rw [hk]; dsimp only; omega⟩
               rw [hk] at hih
               exact hih)
  show pE g 4 X _ SH M 0 0 0 [some (.inr (.inr 0)), none, none, none] []
  refine e_iconst C dX5_look_0 ?_
  refine e_istore_n C dX5_look_1 ?_
  refine e_ldc C (1000000) k_X5_178 dX5_look_2 ?_
  refine e_istore_n C dX5_look_4 ?_
  refine e_iconst C dX5_look_5 ?_
  refine e_istore_n C dX5_look_6 ?_
  exact loop 0 M (by omega) ⟨cch_rf M, by simp [lkF]⟩
theorem c_heap {g : pG} {M : pMem}  {p : Int} (hi_p : -2147483648 ≤ p ∧ p < 2147483648) (hJ : JC M) : pCn g 8 0 0 yX5_heap cX5_heap 2 (some .int) SH SH M [.inr (.inr 0), .inl p] (fun r M' => (isP M p → ∃ H : Nat → Int, hpS (mI M 0 12).toNat (lsM M) (neM M) H ∧ r = some (.inl (H p.toNat))) ∧ (¬ isP M p → r = some (.inl (-1))) ∧ cch M M') := by
  refine pCn_intro mt_X5_heap (fun X C => ?_)
  have hW := hJ.1
  have hn := hJ.2.2.2.1
  have hkr := JC_kr hJ
  have hbr := JC_br hJ
  show pE g 2 X _ SH M 0 0 0 [some (.inr (.inr 0)), some (.inl p)] []
  refine e_aload_n C dX5_heap_0 rfl ?_
  refine e_iload_n C dX5_heap_1 rfl ?_
  refine e_callV C (c_isPage hi_p (by omega)) mt_X5_isPage s_X5_85 dX5_heap_2 5 sh_0 rfl (fun r M1 hq => ?_)
  obtain ⟨rfl, hM⟩ := hq
  subst M1
  dsimp only [Option.toList_some, List.singleton_append]
  refine e_if_ne C (tgt := 10) dX5_heap_5 (by decide) (by split <;> omega) (fun h_5 => ?_) (fun h_5 => ?_)
  · have hpp := ite1.mp h_5
    obtain ⟨q, rfl, hq, hq2⟩ := isP_n hJ hpp
    refine e_aload_n C dX5_heap_10 rfl ?_
    refine e_callV C (c_findHeaps (M := M) (n := (mI M 0 12).toNat) hJ (by omega)) mt_X5_findHeaps s_X5_183 dX5_heap_11 5 sh_0 rfl (fun r2 M2 hq2 => ?_)
    obtain ⟨rfl, hc, hH⟩ := hq2
    dsimp only [Option.toList_none, List.nil_append]
    have hW2 := cch_W hc hW
    refine e_aload_n C dX5_heap_14 rfl ?_
    refine e_getR C f_X5_63 sh_0 (hW2 0 11 37 rfl) dX5_heap_15 ?_
    refine e_iload_n C dX5_heap_18 rfl ?_
    refine e_iaload C dX5_heap_19 sh_37 _ rfl (by omega) ?_
    exact e_ireturn C dX5_heap_20 ⟨fun _ => ⟨mI M2 37, hH, rfl⟩, fun z => absurd hpp z, hc⟩
  · have hpp := fun z => h_5 (ite1.mpr z)
    refine e_iconst C dX5_heap_8 ?_
    exact e_ireturn C dX5_heap_9 ⟨fun z => absurd z hpp, fun _ => rfl, cch_rf M⟩
theorem c_heaps {g : pG} {M : pMem} (hJ : JC M) : pCn g 8 0 0 yX5_heaps cX5_heaps 3 (some .int) SH SH M [.inr (.inr 0)] (fun r M' => ∃ H : Nat → Int, hpS (mI M 0 12).toNat (lsM M) (neM M) H ∧ r = some (.inl (sg (fun p => b01 (H p = (p : Int))) (mI M 0 12).toNat)) ∧ cch M M') := by
  refine pCn_intro mt_X5_heaps (fun X C => ?_)
  have hW := hJ.1
  have hn := hJ.2.2.2.1
  obtain ⟨n, hn2⟩ : ∃ n : Nat, mI M 0 12 = (n : Int) := ⟨(mI M 0 12).toNat, by omega⟩
  have en : (mI M 0 12).toNat = n := by omega
  show pE g 3 X _ SH M 0 0 0 [some (.inr (.inr 0)), none, none] []
  refine e_aload_n C dX5_heaps_0 rfl ?_
  refine e_callV C (c_findHeaps (M := M) (n := (mI M 0 12).toNat) hJ (by omega)) mt_X5_findHeaps s_X5_183 dX5_heaps_1 5 sh_0 rfl (fun r2 M2 hq2 => ?_)
  obtain ⟨rfl, hc, hH⟩ := hq2
  dsimp only [Option.toList_none, List.nil_append]
  have hW2 := cch_W hc hW
  have e12 : mI M2 0 12 = (n : Int) := (hc.2.1 0 12 (by omega) (by decide) (by decide) (by decide)).trans hn2
  refine e_iconst C dX5_heaps_4 ?_
  refine e_istore_n C dX5_heaps_5 ?_
  refine e_iconst C dX5_heaps_6 ?_
  refine e_istore_n C dX5_heaps_7 ?_
  have hri : ∀ x, x < n → -1 ≤ mI M2 37 x ∧ mI M2 37 x < 16 := fun x hx => by
    rw [en] at hH
    by_cases hL : lsM M x
    · obtain ⟨q, q1, q2, -, -⟩ := hH.1.2 x hx hL; omega
    · have := hH.1.1 x hx hL; omega
  have loop : ∀ (i : Nat) (s : Unit), i ≤ n → True → pE g 3 X (pMQ g SH (fun r M' => ∃ H : Nat → Int, hpS (mI M 0 12).toNat (lsM M) (neM M) H ∧ r = some (.inl (sg (fun p => b01 (H p = (p : Int))) (mI M 0 12).toNat)) ∧ cch M M') X 0 0) SH M2 0 0 8 [some (.inr (.inr 0)), some (.inl (sg (fun p => b01 (mI M2 37 p = (p : Int))) i)), some (.inl (i : Int))] [] := by
    refine p_for n _ _ ?_ ?_
    · intro s _
      refine e_iload_n C dX5_heaps_8 rfl ?_
      refine e_aload_n C dX5_heaps_9 rfl ?_
      refine e_getI C f_X5_66 sh_0 dX5_heaps_10 ?_
      rw [e12]
      refine e_icmp_ge C (tgt := 35) dX5_heaps_13 (by decide) (by omega) (by omega) (fun h_13 => ?_) (fun h_13 => by exfalso; omega)
      refine e_iload_n C dX5_heaps_35 rfl ?_
      exact e_ireturn C dX5_heaps_36 ⟨mI M2 37, hH, by rw [en], hc⟩
    · intro i s hi _ ih
      have hr1 := hri i hi
      by_cases hb : mI M2 37 i = (i : Int)
      · have e1 : sg (fun p => b01 (mI M2 37 p = (p : Int))) (i + 1) = sg (fun p => b01 (mI M2 37 p = (p : Int))) i + 1 := by simp only [sg]; rw [show b01 (mI M2 37 i = (i : Int)) = 1 from if_pos hb]
        rw [e1] at ih
        refine e_iload_n C dX5_heaps_8 rfl ?_
        refine e_aload_n C dX5_heaps_9 rfl ?_
        refine e_getI C f_X5_66 sh_0 dX5_heaps_10 ?_
        rw [e12]
        refine e_icmp_ge C (tgt := 35) dX5_heaps_13 (by decide) (by omega) (by omega) (fun h_13 => by exfalso; omega) (fun h_13 => ?_)
        refine e_aload_n C dX5_heaps_16 rfl ?_
        refine e_getR C f_X5_63 sh_0 (hW2 0 11 37 rfl) dX5_heaps_17 ?_
        refine e_iload_n C dX5_heaps_20 rfl ?_
        refine e_iaload C dX5_heaps_21 sh_37 _ rfl (by omega) ?_
        refine e_iload_n C dX5_heaps_22 rfl ?_
        refine e_icmp_ne C (tgt := 29) dX5_heaps_23 (by decide) (by omega) (by omega) (fun h_23 => by exact absurd hb h_23) (fun h_23 => ?_)
        refine e_iinc C dX5_heaps_26 rfl ?_
        refine e_iinc C dX5_heaps_29 rfl ?_
        refine e_goto C (tgt := 8) dX5_heaps_32 (by decide) ?_
        exact ih () trivial
      · have e1 : sg (fun p => b01 (mI M2 37 p = (p : Int))) (i + 1) = sg (fun p => b01 (mI M2 37 p = (p : Int))) i := by simp only [sg]; rw [show b01 (mI M2 37 i = (i : Int)) = 0 from if_neg hb]; omega
        rw [e1] at ih
        refine e_iload_n C dX5_heaps_8 rfl ?_
        refine e_aload_n C dX5_heaps_9 rfl ?_
        refine e_getI C f_X5_66 sh_0 dX5_heaps_10 ?_
        rw [e12]
        refine e_icmp_ge C (tgt := 35) dX5_heaps_13 (by decide) (by omega) (by omega) (fun h_13 => by exfalso; omega) (fun h_13 => ?_)
        refine e_aload_n C dX5_heaps_16 rfl ?_
        refine e_getR C f_X5_63 sh_0 (hW2 0 11 37 rfl) dX5_heaps_17 ?_
        refine e_iload_n C dX5_heaps_20 rfl ?_
        refine e_iaload C dX5_heaps_21 sh_37 _ rfl (by omega) ?_
        refine e_iload_n C dX5_heaps_22 rfl ?_
        refine e_icmp_ne C (tgt := 29) dX5_heaps_23 (by decide) (by omega) (by omega) (fun h_23 => ?_) (fun h_23 => by exact absurd (fun e => hb e) h_23)
        refine e_iinc C dX5_heaps_29 rfl ?_
        refine e_goto C (tgt := 8) dX5_heaps_32 (by decide) ?_
        exact ih () trivial
  exact loop 0 () (by omega) trivial
