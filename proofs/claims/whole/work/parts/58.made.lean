/-! ===== the constructors of the class ===== -/
def shpO (a N : Nat) : Prop := SH[a]? = some (.inl 4) ∧ SH[a + 1]? = some (.inr (0, N)) ∧ SH[a + 2]? = some (.inr (0, N)) ∧ SH[a + 3]? = some (.inr (0, N)) ∧ SH[a + 4]? = some (.inr (2, N))
def shpR (a : Nat) : Prop := RT a 0 = some (a + 1) ∧ RT a 1 = some (a + 2) ∧ RT a 2 = some (a + 3) ∧ RT a 3 = some (a + 4)
theorem i_sheet {g : pG} {M : pMem} {a N : Nat} {Pn : List Nat} (hs : shpO a N) (hr : shpR a) (hN : N ≤ 16) (hP : pIv (a + 1) Pn M) : pCn g 1 (0 + 1 + 1 + 1 + 1) (0 + N + N + N + N) yX4_init cX4_init 2 none (SHp (a + 1)) (SHp (a + 5)) M [.inr (.inr a), .inl (N : Int)] (fun r M' => r = none ∧ kp a M M' ∧ mI M' a 4 = 0 ∧ pIv (a + 5) Pn M') := by
  refine pCn_intro mt_X4_init (fun X C => ?_)
  obtain ⟨s0, s1, s2, s3, s4⟩ := hs
  obtain ⟨r0, r1, r2, r3⟩ := hr
  show pE g 2 X _ (SHp (a + 1)) M 0 0 0 [some (.inr (.inr a)), some (.inl (N : Int))] []
  refine e_aload_n C dX4_init_0 rfl ?_
  refine e_objInit C s_X4_3 dX4_init_1 ?_
  refine e_aload_n C dX4_init_4 rfl ?_
  refine e_iconst C dX4_init_5 ?_
  refine e_putI C f_X4_9 (shp_at s0 (by omega)) (hd := dX4_init_6) (hfin := (fun CC T h => by obtain ⟨h1, -⟩ := h; cases h1; rfl)) ?_
  refine e_aload_n C dX4_init_9 rfl ?_
  refine e_iload_n C dX4_init_10 rfl ?_
  refine n_I C s1 ac_int dX4_init_11 rfl (by omega) (by first | omega | decide | (simp only [pnF]; omega)) ?_
  refine e_putR C f_X4_15 (shp_at s0 (by omega)) (fun b => ⟨rfl, rfl⟩) (hd := dX4_init_13) (hfin := (fun CC T h => by obtain ⟨h1, -⟩ := h; cases h1; rfl)) rfl (fun CC T h => by obtain ⟨h1, -⟩ := h; cases h1; rfl) ?_
  refine e_aload_n C dX4_init_16 rfl ?_
  refine e_iload_n C dX4_init_17 rfl ?_
  refine n_I C s2 ac_int dX4_init_18 rfl (by omega) (by first | omega | decide | (simp only [pnF]; omega)) ?_
  refine e_putR C f_X4_19 (shp_at s0 (by omega)) (fun b => ⟨rfl, rfl⟩) (hd := dX4_init_20) (hfin := (fun CC T h => by obtain ⟨h1, -⟩ := h; cases h1; rfl)) rfl (fun CC T h => by obtain ⟨h1, -⟩ := h; cases h1; rfl) ?_
  refine e_aload_n C dX4_init_23 rfl ?_
  refine e_iload_n C dX4_init_24 rfl ?_
  refine n_I C s3 ac_int dX4_init_25 rfl (by omega) (by first | omega | decide | (simp only [pnF]; omega)) ?_
  refine e_putR C f_X4_22 (shp_at s0 (by omega)) (fun b => ⟨rfl, rfl⟩) (hd := dX4_init_27) (hfin := (fun CC T h => by obtain ⟨h1, -⟩ := h; cases h1; rfl)) rfl (fun CC T h => by obtain ⟨h1, -⟩ := h; cases h1; rfl) ?_
  refine e_aload_n C dX4_init_30 rfl ?_
  refine e_iload_n C dX4_init_31 rfl ?_
  refine n_Z C s4 ac_boolean dX4_init_32 rfl (by omega) (by first | omega | decide | (simp only [pnF]; omega)) ?_
  refine e_putR C f_X4_25 (shp_at s0 (by omega)) (fun b => ⟨rfl, rfl⟩) (hd := dX4_init_34) (hfin := (fun CC T h => by obtain ⟨h1, -⟩ := h; cases h1; rfl)) rfl (fun CC T h => by obtain ⟨h1, -⟩ := h; cases h1; rfl) ?_
  refine e_return C dX4_init_37 ⟨rfl, ?_, ?_, w_set (w_new (w_set (w_new (w_set (w_new (w_set (w_new (w_I hP)) r0)) r1)) r2)) r3⟩
  · repeat (first | exact kp_rf | refine kp_tr ?_ kp_R | refine kp_tr ?_ (kp_I (by omega)) | refine kp_tr ?_ (kp_L (by omega)) | refine kp_tr ?_ (kp_z (by omega)))
  · have h1 : a ≠ a + 1 := by omega
    have h2 : a ≠ a + 1 + 1 := by omega
    have h3 : a ≠ a + 1 + 1 + 1 := by omega
    have h4 : a ≠ a + 1 + 1 + 1 + 1 := by omega
    simp [mI, stR, zero, stI]
theorem i_kind {g : pG} {M : pMem} {a : Nat} {Pn : List Nat} (h0 : SH[a]? = some (.inl 0)) (hs : shpO (a + 1) 16) (h6 : SH[a + 6]? = some (.inr (1, 16))) (hr0 : RT a 0 = some (a + 1)) (hr : shpR (a + 1)) (hr1 : RT a 1 = some (a + 6)) (hP : pIv (a + 1) Pn M) : pCn g 2 (0 + 1 + (0 + 1 + 1 + 1 + 1) + 1) (0 + 5 + (0 + 16 + 16 + 16 + 16) + 16) yX0_init cX0_init 1 none (SHp (a + 1)) (SHp (a + 7)) M [.inr (.inr a)] (fun r M' => r = none ∧ kp a M M' ∧ mI M' a 2 = 0 ∧ mI M' (a + 1) 4 = 0 ∧ pIv (a + 7) Pn M') := by
  refine pCn_intro mt_X0_init (fun X C => ?_)
  show pE g 1 X _ (SHp (a + 1)) M 0 0 0 [some (.inr (.inr a))] []
  refine e_aload_n C dX0_init_0 rfl ?_
  refine e_objInit C s_X0_3 dX0_init_1 ?_
  refine e_aload_n C dX0_init_4 rfl ?_
  refine n_new C hs.1 pcl4 pdf4 cl_X0_9 dX0_init_5 (by first | omega | decide | (simp only [pnF]; omega)) ?_
  refine e_dup C dX0_init_8 ?_
  refine e_bipush C dX0_init_9 ?_
  refine e_callI C (i_sheet (M := zero M (a + 1)) (a := a + 1) (N := 16) (Pn := (a + 1) :: Pn) hs hr (by omega) (w_new hP)) mt_X4_init s_X0_11 dX0_init_11 (fun rs Ms hqs => ?_)
  obtain ⟨rfl, k1, k2, k3⟩ := hqs
  dsimp only [Option.toList_none, List.nil_append]
  refine e_putR C f_X0_14 (shp_at h0 (by omega)) (fun b => ⟨rfl, rfl⟩) (hd := dX0_init_14) (hfin := (fun CC T h => by obtain ⟨h1, -⟩ := h; cases h1; rfl)) rfl (fun CC T h => by obtain ⟨h1, -⟩ := h; cases h1; rfl) ?_
  refine e_aload_n C dX0_init_17 rfl ?_
  refine e_bipush C dX0_init_18 ?_
  refine n_L C h6 ac_long dX0_init_20 rfl (by omega) (by first | omega | decide | (simp only [pnF]; omega)) ?_
  refine e_putR C f_X0_20 (shp_at h0 (by omega)) (fun b => ⟨rfl, rfl⟩) (hd := dX0_init_22) (hfin := (fun CC T h => by obtain ⟨h1, -⟩ := h; cases h1; rfl)) rfl (fun CC T h => by obtain ⟨h1, -⟩ := h; cases h1; rfl) ?_
  refine e_aload_n C dX0_init_25 rfl ?_
  refine e_iconst C dX0_init_26 ?_
  refine e_putI C f_X0_24 (shp_at h0 (by omega)) (hd := dX0_init_27) (hfin := (fun CC T h => by obtain ⟨h1, -⟩ := h; cases h1; rfl)) ?_
  refine e_return C dX0_init_30 ⟨rfl, ?_, stI_s _ _ _ _, ?_, w_I (w_set (w_new (w_set k3 hr0)) hr1)⟩
  · refine kp_tr (kp_tr (kp_z (by omega)) (kp_su k1 (by omega))) ?_
    repeat (first | exact kp_rf | refine kp_tr ?_ kp_R | refine kp_tr ?_ (kp_I (by omega)) | refine kp_tr ?_ (kp_L (by omega)) | refine kp_tr ?_ (kp_z (by omega)))
  · rw [stI_n _ _ (by omega)]
    have h1 : a + 1 ≠ a + 6 := by omega
    show (if a + 1 = a + 6 then (0 : Int) else mI Ms (a + 1) 4) = 0
    rw [if_neg h1]; exact k2
theorem i_layer {g : pG} {M : pMem} {Pn : List Nat} (hP : pIv 5 Pn M) : pCn g 1 (0 + 1 + 1 + 1 + 1 + 1 + 1 + 1 + 1 + 1 + 1) (0 + 136 + 136 + 136 + 136 + 8 + 17 + 17 + 17 + 17 + 17) yX1_init cX1_init 1 none (SHp 5) (SHp 15) M [.inr (.inr 4)] (fun r M' => r = none ∧ kp 4 M M' ∧ wtC M' = (1, 1, 20, 16, 8) ∧ pIv 15 Pn M') := by
  refine pCn_intro mt_X1_init (fun X C => ?_)
  show pE g 1 X _ (SHp 5) M 0 0 0 [some (.inr (.inr 4))] []
  refine e_aload_n C dX1_init_0 rfl ?_
  refine e_objInit C s_X1_3 dX1_init_1 ?_
  refine e_aload_n C dX1_init_4 rfl ?_
  refine e_iconst C dX1_init_5 ?_
  refine e_putI C f_X1_9 (shp_at sh_4 (by omega)) (hd := dX1_init_6) (hfin := (fun CC T h => by obtain ⟨h1, -⟩ := h; cases h1; rfl)) ?_
  refine e_aload_n C dX1_init_9 rfl ?_
  refine e_iconst C dX1_init_10 ?_
  refine e_putI C f_X1_15 (shp_at sh_4 (by omega)) (hd := dX1_init_11) (hfin := (fun CC T h => by obtain ⟨h1, -⟩ := h; cases h1; rfl)) ?_
  refine e_aload_n C dX1_init_14 rfl ?_
  refine e_bipush C dX1_init_15 ?_
  refine e_putI C f_X1_18 (shp_at sh_4 (by omega)) (hd := dX1_init_17) (hfin := (fun CC T h => by obtain ⟨h1, -⟩ := h; cases h1; rfl)) ?_
  refine e_aload_n C dX1_init_20 rfl ?_
  refine e_bipush C dX1_init_21 ?_
  refine e_putI C f_X1_21 (shp_at sh_4 (by omega)) (hd := dX1_init_23) (hfin := (fun CC T h => by obtain ⟨h1, -⟩ := h; cases h1; rfl)) ?_
  refine e_aload_n C dX1_init_26 rfl ?_
  refine e_bipush C dX1_init_27 ?_
  refine e_putI C f_X1_24 (shp_at sh_4 (by omega)) (hd := dX1_init_29) (hfin := (fun CC T h => by obtain ⟨h1, -⟩ := h; cases h1; rfl)) ?_
  refine e_aload_n C dX1_init_32 rfl ?_
  refine e_iconst C dX1_init_33 ?_
  refine e_putI C f_X1_27 (shp_at sh_4 (by omega)) (hd := dX1_init_34) (hfin := (fun CC T h => by obtain ⟨h1, -⟩ := h; cases h1; rfl)) ?_
  refine e_aload_n C dX1_init_37 rfl ?_
  refine e_iconst C dX1_init_38 ?_
  refine e_putI C f_X1_30 (shp_at sh_4 (by omega)) (hd := dX1_init_39) (hfin := (fun CC T h => by obtain ⟨h1, -⟩ := h; cases h1; rfl)) ?_
  refine e_aload_n C dX1_init_42 rfl ?_
  refine e_lconst C 0 dX1_init_43 ?_
  refine e_putL C f_X1_33 (shp_at sh_4 (by omega)) (hd := dX1_init_44) (hfin := (fun CC T h => by obtain ⟨h1, -⟩ := h; cases h1; rfl)) ?_
  refine e_aload_n C dX1_init_47 rfl ?_
  refine e_iconst C dX1_init_48 ?_
  refine e_putZ C f_X1_37 (shp_at sh_4 (by omega)) (Or.inl rfl) (hd := dX1_init_49) (hfin := (fun CC T h => by obtain ⟨h1, -⟩ := h; cases h1; rfl)) ?_
  refine e_aload_n C dX1_init_52 rfl ?_
  refine e_sipush C dX1_init_53 ?_
  refine n_I C sh_5 ac_int dX1_init_56 rfl (by omega) (by first | omega | decide | (simp only [pnF]; omega)) ?_
  refine e_putR C f_X1_41 (shp_at sh_4 (by omega)) (fun b => ⟨rfl, rfl⟩) (hd := dX1_init_58) (hfin := (fun CC T h => by obtain ⟨h1, -⟩ := h; cases h1; rfl)) rfl (fun CC T h => by obtain ⟨h1, -⟩ := h; cases h1; rfl) ?_
  refine e_aload_n C dX1_init_61 rfl ?_
  refine e_sipush C dX1_init_62 ?_
  refine n_I C sh_6 ac_int dX1_init_65 rfl (by omega) (by first | omega | decide | (simp only [pnF]; omega)) ?_
  refine e_putR C f_X1_45 (shp_at sh_4 (by omega)) (fun b => ⟨rfl, rfl⟩) (hd := dX1_init_67) (hfin := (fun CC T h => by obtain ⟨h1, -⟩ := h; cases h1; rfl)) rfl (fun CC T h => by obtain ⟨h1, -⟩ := h; cases h1; rfl) ?_
  refine e_aload_n C dX1_init_70 rfl ?_
  refine e_sipush C dX1_init_71 ?_
  refine n_L C sh_7 ac_long dX1_init_74 rfl (by omega) (by first | omega | decide | (simp only [pnF]; omega)) ?_
  refine e_putR C f_X1_48 (shp_at sh_4 (by omega)) (fun b => ⟨rfl, rfl⟩) (hd := dX1_init_76) (hfin := (fun CC T h => by obtain ⟨h1, -⟩ := h; cases h1; rfl)) rfl (fun CC T h => by obtain ⟨h1, -⟩ := h; cases h1; rfl) ?_
  refine e_aload_n C dX1_init_79 rfl ?_
  refine e_sipush C dX1_init_80 ?_
  refine n_L C sh_8 ac_long dX1_init_83 rfl (by omega) (by first | omega | decide | (simp only [pnF]; omega)) ?_
  refine e_putR C f_X1_52 (shp_at sh_4 (by omega)) (fun b => ⟨rfl, rfl⟩) (hd := dX1_init_85) (hfin := (fun CC T h => by obtain ⟨h1, -⟩ := h; cases h1; rfl)) rfl (fun CC T h => by obtain ⟨h1, -⟩ := h; cases h1; rfl) ?_
  refine e_aload_n C dX1_init_88 rfl ?_
  refine e_bipush C dX1_init_89 ?_
  refine n_L C sh_9 ac_long dX1_init_91 rfl (by omega) (by first | omega | decide | (simp only [pnF]; omega)) ?_
  refine e_putR C f_X1_55 (shp_at sh_4 (by omega)) (fun b => ⟨rfl, rfl⟩) (hd := dX1_init_93) (hfin := (fun CC T h => by obtain ⟨h1, -⟩ := h; cases h1; rfl)) rfl (fun CC T h => by obtain ⟨h1, -⟩ := h; cases h1; rfl) ?_
  refine e_aload_n C dX1_init_96 rfl ?_
  refine e_bipush C dX1_init_97 ?_
  refine n_L C sh_10 ac_long dX1_init_99 rfl (by omega) (by first | omega | decide | (simp only [pnF]; omega)) ?_
  refine e_putR C f_X1_58 (shp_at sh_4 (by omega)) (fun b => ⟨rfl, rfl⟩) (hd := dX1_init_101) (hfin := (fun CC T h => by obtain ⟨h1, -⟩ := h; cases h1; rfl)) rfl (fun CC T h => by obtain ⟨h1, -⟩ := h; cases h1; rfl) ?_
  refine e_aload_n C dX1_init_104 rfl ?_
  refine e_bipush C dX1_init_105 ?_
  refine n_I C sh_11 ac_int dX1_init_107 rfl (by omega) (by first | omega | decide | (simp only [pnF]; omega)) ?_
  refine e_putR C f_X1_61 (shp_at sh_4 (by omega)) (fun b => ⟨rfl, rfl⟩) (hd := dX1_init_109) (hfin := (fun CC T h => by obtain ⟨h1, -⟩ := h; cases h1; rfl)) rfl (fun CC T h => by obtain ⟨h1, -⟩ := h; cases h1; rfl) ?_
  refine e_aload_n C dX1_init_112 rfl ?_
  refine e_bipush C dX1_init_113 ?_
  refine n_L C sh_12 ac_long dX1_init_115 rfl (by omega) (by first | omega | decide | (simp only [pnF]; omega)) ?_
  refine e_putR C f_X1_64 (shp_at sh_4 (by omega)) (fun b => ⟨rfl, rfl⟩) (hd := dX1_init_117) (hfin := (fun CC T h => by obtain ⟨h1, -⟩ := h; cases h1; rfl)) rfl (fun CC T h => by obtain ⟨h1, -⟩ := h; cases h1; rfl) ?_
  refine e_aload_n C dX1_init_120 rfl ?_
  refine e_bipush C dX1_init_121 ?_
  refine n_I C sh_13 ac_int dX1_init_123 rfl (by omega) (by first | omega | decide | (simp only [pnF]; omega)) ?_
  refine e_putR C f_X1_67 (shp_at sh_4 (by omega)) (fun b => ⟨rfl, rfl⟩) (hd := dX1_init_125) (hfin := (fun CC T h => by obtain ⟨h1, -⟩ := h; cases h1; rfl)) rfl (fun CC T h => by obtain ⟨h1, -⟩ := h; cases h1; rfl) ?_
  refine e_aload_n C dX1_init_128 rfl ?_
  refine e_bipush C dX1_init_129 ?_
  refine n_Z C sh_14 ac_boolean dX1_init_131 rfl (by omega) (by first | omega | decide | (simp only [pnF]; omega)) ?_
  refine e_putR C f_X1_70 (shp_at sh_4 (by omega)) (fun b => ⟨rfl, rfl⟩) (hd := dX1_init_133) (hfin := (fun CC T h => by obtain ⟨h1, -⟩ := h; cases h1; rfl)) rfl (fun CC T h => by obtain ⟨h1, -⟩ := h; cases h1; rfl) ?_
  refine e_return C dX1_init_136 ⟨rfl, ?_, ?_, (w_set (w_new (w_set (w_new (w_set (w_new (w_set (w_new (w_set (w_new (w_set (w_new (w_set (w_new (w_set (w_new (w_set (w_new (w_set (w_new (w_I (w_L (w_I (w_I (w_I (w_I (w_I (w_I (w_I hP)))))))))) (show RT 4 9 = some 5 from rfl))) (show RT 4 10 = some 6 from rfl))) (show RT 4 11 = some 7 from rfl))) (show RT 4 12 = some 8 from rfl))) (show RT 4 13 = some 9 from rfl))) (show RT 4 14 = some 10 from rfl))) (show RT 4 15 = some 11 from rfl))) (show RT 4 16 = some 12 from rfl))) (show RT 4 17 = some 13 from rfl))) (show RT 4 18 = some 14 from rfl))⟩
  · repeat (first | exact kp_rf | refine kp_tr ?_ kp_R | refine kp_tr ?_ (kp_I (by omega)) | refine kp_tr ?_ (kp_L (by omega)) | refine kp_tr ?_ (kp_z (by omega)))
  · simp [wtC, mI, stR, zero, stI, stL]
theorem i_maker {g : pG} {M : pMem} {Pn : List Nat} (hP : pIv 16 Pn M) : pCn g 1 (0 + 1 + 1 + 1) (0 + 100 + 16 + 16) yX2_init cX2_init 1 none (SHp 16) (SHp 19) M [.inr (.inr 15)] (fun r M' => r = none ∧ kp 15 M M' ∧ pIv 19 Pn M') := by
  refine pCn_intro mt_X2_init (fun X C => ?_)
  show pE g 1 X _ (SHp 16) M 0 0 0 [some (.inr (.inr 15))] []
  refine e_aload_n C dX2_init_0 rfl ?_
  refine e_objInit C s_X2_3 dX2_init_1 ?_
  refine e_aload_n C dX2_init_4 rfl ?_
  refine e_bipush C dX2_init_5 ?_
  refine n_I C sh_16 ac_int dX2_init_7 rfl (by omega) (by first | omega | decide | (simp only [pnF]; omega)) ?_
  refine e_putR C f_X2_9 (shp_at sh_15 (by omega)) (fun b => ⟨rfl, rfl⟩) (hd := dX2_init_9) (hfin := (fun CC T h => by obtain ⟨h1, -⟩ := h; cases h1; rfl)) rfl (fun CC T h => by obtain ⟨h1, -⟩ := h; cases h1; rfl) ?_
  refine e_aload_n C dX2_init_12 rfl ?_
  refine e_bipush C dX2_init_13 ?_
  refine n_I C sh_17 ac_int dX2_init_15 rfl (by omega) (by first | omega | decide | (simp only [pnF]; omega)) ?_
  refine e_putR C f_X2_15 (shp_at sh_15 (by omega)) (fun b => ⟨rfl, rfl⟩) (hd := dX2_init_17) (hfin := (fun CC T h => by obtain ⟨h1, -⟩ := h; cases h1; rfl)) rfl (fun CC T h => by obtain ⟨h1, -⟩ := h; cases h1; rfl) ?_
  refine e_aload_n C dX2_init_20 rfl ?_
  refine e_bipush C dX2_init_21 ?_
  refine n_I C sh_18 ac_int dX2_init_23 rfl (by omega) (by first | omega | decide | (simp only [pnF]; omega)) ?_
  refine e_putR C f_X2_18 (shp_at sh_15 (by omega)) (fun b => ⟨rfl, rfl⟩) (hd := dX2_init_25) (hfin := (fun CC T h => by obtain ⟨h1, -⟩ := h; cases h1; rfl)) rfl (fun CC T h => by obtain ⟨h1, -⟩ := h; cases h1; rfl) ?_
  refine e_return C dX2_init_28 ⟨rfl, ?_, (w_set (w_new (w_set (w_new (w_set (w_new hP) (show RT 15 0 = some 16 from rfl))) (show RT 15 1 = some 17 from rfl))) (show RT 15 2 = some 18 from rfl))⟩
  repeat (first | exact kp_rf | refine kp_tr ?_ kp_R | refine kp_tr ?_ (kp_I (by omega)) | refine kp_tr ?_ (kp_L (by omega)) | refine kp_tr ?_ (kp_z (by omega)))
theorem i_rank {g : pG} {M : pMem} {Pn : List Nat} (hP : pIv 20 Pn M) : pCn g 1 (0) (0) yX3_init cX3_init 1 none (SHp 20) (SHp 20) M [.inr (.inr 19)] (fun r M' => r = none ∧ kp 19 M M' ∧ pIv 20 Pn M') := by
  refine pCn_intro mt_X3_init (fun X C => ?_)
  show pE g 1 X _ (SHp 20) M 0 0 0 [some (.inr (.inr 19))] []
  refine e_aload_n C dX3_init_0 rfl ?_
  refine e_objInit C s_X3_3 dX3_init_1 ?_
  refine e_aload_n C dX3_init_4 rfl ?_
  refine e_iconst C dX3_init_5 ?_
  refine e_putI C f_X3_9 (shp_at sh_19 (by omega)) (hd := dX3_init_6) (hfin := (fun CC T h => by obtain ⟨h1, -⟩ := h; cases h1; rfl)) ?_
  refine e_aload_n C dX3_init_9 rfl ?_
  refine e_ldc C (1000000) k_X3_15 dX3_init_10 ?_
  refine e_putI C f_X3_16 (shp_at sh_19 (by omega)) (hd := dX3_init_12) (hfin := (fun CC T h => by obtain ⟨h1, -⟩ := h; cases h1; rfl)) ?_
  refine e_aload_n C dX3_init_15 rfl ?_
  refine e_ldc C (1000000) k_X3_15 dX3_init_16 ?_
  refine e_putI C f_X3_19 (shp_at sh_19 (by omega)) (hd := dX3_init_18) (hfin := (fun CC T h => by obtain ⟨h1, -⟩ := h; cases h1; rfl)) ?_
  refine e_return C dX3_init_21 ⟨rfl, ?_, w_I (w_I (w_I hP))⟩
  repeat (first | exact kp_rf | refine kp_tr ?_ kp_R | refine kp_tr ?_ (kp_I (by omega)) | refine kp_tr ?_ (kp_L (by omega)) | refine kp_tr ?_ (kp_z (by omega)))
