/-! ===== the model is made ===== -/
theorem zero_row (M : pMem) {q b : Nat} (h : b ≠ q) : mI (zero M q) b = mI M b := by
  funext j; simp [mI, zero, h]
theorem zero_s (M : pMem) (q j : Nat) : mI (zero M q) q j = 0 := by simp [mI, zero]
def iniD (M : pMem) : Prop := mI M 153 0 = 0 ∧ mI M 153 10 = 0 ∧ (mI M 153 7 = 60 ∧ mI M 153 8 = 10 ∧ mI M 153 9 = 30) ∧ (∀ p, p < 16 → mI M 158 p = -1) ∧ wtD M = (1, 1, 20, 16, 8) ∧ ∀ p, mI M 154 p = 0
theorem i_model {g : pG} {M : pMem} (hP : pIv 154 [] M) (h0 : mI M 153 0 = 0) (h10 : mI M 153 10 = 0) : pCn g 1 (0 + 1 + 1 + 1 + 1 + 1 + 1 + 1 + 1 + 1 + 1 + 1 + 1 + 1 + 1 + 1 + 1 + 1 + 1 + 1 + 1 + 1 + 1 + 1 + 1 + 1 + 1) (0 + 16 + 128 + 128 + 128 + 16 + 5 + 5 + 5 + 80 + 80 + 80 + 80 + 8 + 8 + 8 + 16 + 16 + 16 + 16 + 4352 + 8 + 8 + 80 + 16 + 16 + 16) yX6_init cX6_init 1 none (SHp 154) (SHp 180) M [.inr (.inr 153)] (fun r M' => r = none ∧ kp 153 M M' ∧ pIv 180 [] M' ∧ iniD M') := by
  refine pCn_intro mt_X6_init (fun X C => ?_)
  show pE g 1 X _ (SHp 154) M 0 0 0 [some (.inr (.inr 153))] []
  refine e_aload_n C dX6_init_0 rfl ?_
  refine e_objInit C s_X6_1 dX6_init_1 ?_
  refine e_aload_n C dX6_init_4 rfl ?_
  refine e_bipush C dX6_init_5 ?_
  refine n_I C sh_154 ac_int dX6_init_7 rfl (by omega) (by first | omega | decide | (simp only [pnF]; omega)) ?_
  refine e_putR C f_X6_7 (shp_at sh_153 (by omega)) (fun b => ⟨rfl, rfl⟩) (hd := dX6_init_9) (hfin := (fun CC T h => by obtain ⟨h1, -⟩ := h; cases h1; rfl)) rfl (fun CC T h => by obtain ⟨h1, -⟩ := h; cases h1; rfl) ?_
  have hP154 := w_set (w_new hP) (show RT 153 1 = some 154 from rfl)
  refine e_aload_n C dX6_init_12 rfl ?_
  refine e_sipush C dX6_init_13 ?_
  refine n_I C sh_155 ac_int dX6_init_16 rfl (by omega) (by first | omega | decide | (simp only [pnF]; omega)) ?_
  refine e_putR C f_X6_13 (shp_at sh_153 (by omega)) (fun b => ⟨rfl, rfl⟩) (hd := dX6_init_18) (hfin := (fun CC T h => by obtain ⟨h1, -⟩ := h; cases h1; rfl)) rfl (fun CC T h => by obtain ⟨h1, -⟩ := h; cases h1; rfl) ?_
  have hP155 := w_set (w_new hP154) (show RT 153 2 = some 155 from rfl)
  refine e_aload_n C dX6_init_21 rfl ?_
  refine e_sipush C dX6_init_22 ?_
  refine n_I C sh_156 ac_int dX6_init_25 rfl (by omega) (by first | omega | decide | (simp only [pnF]; omega)) ?_
  refine e_putR C f_X6_16 (shp_at sh_153 (by omega)) (fun b => ⟨rfl, rfl⟩) (hd := dX6_init_27) (hfin := (fun CC T h => by obtain ⟨h1, -⟩ := h; cases h1; rfl)) rfl (fun CC T h => by obtain ⟨h1, -⟩ := h; cases h1; rfl) ?_
  have hP156 := w_set (w_new hP155) (show RT 153 3 = some 156 from rfl)
  refine e_aload_n C dX6_init_30 rfl ?_
  refine e_sipush C dX6_init_31 ?_
  refine n_I C sh_157 ac_int dX6_init_34 rfl (by omega) (by first | omega | decide | (simp only [pnF]; omega)) ?_
  refine e_putR C f_X6_19 (shp_at sh_153 (by omega)) (fun b => ⟨rfl, rfl⟩) (hd := dX6_init_36) (hfin := (fun CC T h => by obtain ⟨h1, -⟩ := h; cases h1; rfl)) rfl (fun CC T h => by obtain ⟨h1, -⟩ := h; cases h1; rfl) ?_
  have hP157 := w_set (w_new hP156) (show RT 153 4 = some 157 from rfl)
  refine e_aload_n C dX6_init_39 rfl ?_
  refine e_bipush C dX6_init_40 ?_
  refine n_I C sh_158 ac_int dX6_init_42 rfl (by omega) (by first | omega | decide | (simp only [pnF]; omega)) ?_
  refine e_dup C dX6_init_44 ?_
  refine e_iconst C dX6_init_45 ?_
  refine e_iconst C dX6_init_46 ?_
  refine e_iastore C dX6_init_47 (shp_at sh_158 (by omega)) 0 rfl (by decide) ?_
  refine e_dup C dX6_init_48 ?_
  refine e_iconst C dX6_init_49 ?_
  refine e_iconst C dX6_init_50 ?_
  refine e_iastore C dX6_init_51 (shp_at sh_158 (by omega)) 1 rfl (by decide) ?_
  refine e_dup C dX6_init_52 ?_
  refine e_iconst C dX6_init_53 ?_
  refine e_iconst C dX6_init_54 ?_
  refine e_iastore C dX6_init_55 (shp_at sh_158 (by omega)) 2 rfl (by decide) ?_
  refine e_dup C dX6_init_56 ?_
  refine e_iconst C dX6_init_57 ?_
  refine e_iconst C dX6_init_58 ?_
  refine e_iastore C dX6_init_59 (shp_at sh_158 (by omega)) 3 rfl (by decide) ?_
  refine e_dup C dX6_init_60 ?_
  refine e_iconst C dX6_init_61 ?_
  refine e_iconst C dX6_init_62 ?_
  refine e_iastore C dX6_init_63 (shp_at sh_158 (by omega)) 4 rfl (by decide) ?_
  refine e_dup C dX6_init_64 ?_
  refine e_iconst C dX6_init_65 ?_
  refine e_iconst C dX6_init_66 ?_
  refine e_iastore C dX6_init_67 (shp_at sh_158 (by omega)) 5 rfl (by decide) ?_
  refine e_dup C dX6_init_68 ?_
  refine e_bipush C dX6_init_69 ?_
  refine e_iconst C dX6_init_71 ?_
  refine e_iastore C dX6_init_72 (shp_at sh_158 (by omega)) 6 rfl (by decide) ?_
  refine e_dup C dX6_init_73 ?_
  refine e_bipush C dX6_init_74 ?_
  refine e_iconst C dX6_init_76 ?_
  refine e_iastore C dX6_init_77 (shp_at sh_158 (by omega)) 7 rfl (by decide) ?_
  refine e_dup C dX6_init_78 ?_
  refine e_bipush C dX6_init_79 ?_
  refine e_iconst C dX6_init_81 ?_
  refine e_iastore C dX6_init_82 (shp_at sh_158 (by omega)) 8 rfl (by decide) ?_
  refine e_dup C dX6_init_83 ?_
  refine e_bipush C dX6_init_84 ?_
  refine e_iconst C dX6_init_86 ?_
  refine e_iastore C dX6_init_87 (shp_at sh_158 (by omega)) 9 rfl (by decide) ?_
  refine e_dup C dX6_init_88 ?_
  refine e_bipush C dX6_init_89 ?_
  refine e_iconst C dX6_init_91 ?_
  refine e_iastore C dX6_init_92 (shp_at sh_158 (by omega)) 10 rfl (by decide) ?_
  refine e_dup C dX6_init_93 ?_
  refine e_bipush C dX6_init_94 ?_
  refine e_iconst C dX6_init_96 ?_
  refine e_iastore C dX6_init_97 (shp_at sh_158 (by omega)) 11 rfl (by decide) ?_
  refine e_dup C dX6_init_98 ?_
  refine e_bipush C dX6_init_99 ?_
  refine e_iconst C dX6_init_101 ?_
  refine e_iastore C dX6_init_102 (shp_at sh_158 (by omega)) 12 rfl (by decide) ?_
  refine e_dup C dX6_init_103 ?_
  refine e_bipush C dX6_init_104 ?_
  refine e_iconst C dX6_init_106 ?_
  refine e_iastore C dX6_init_107 (shp_at sh_158 (by omega)) 13 rfl (by decide) ?_
  refine e_dup C dX6_init_108 ?_
  refine e_bipush C dX6_init_109 ?_
  refine e_iconst C dX6_init_111 ?_
  refine e_iastore C dX6_init_112 (shp_at sh_158 (by omega)) 14 rfl (by decide) ?_
  refine e_dup C dX6_init_113 ?_
  refine e_bipush C dX6_init_114 ?_
  refine e_iconst C dX6_init_116 ?_
  refine e_iastore C dX6_init_117 (shp_at sh_158 (by omega)) 15 rfl (by decide) ?_
  refine pE_g (fun N1 hN1 => ?_)
  have q1 : pIv 159 [158] N1 := by rw [hN1]; exact (w_I (w_I (w_I (w_I (w_I (w_I (w_I (w_I (w_I (w_I (w_I (w_I (w_I (w_I (w_I (w_I (w_new hP157)))))))))))))))))
  have k1 : kp 153 M N1 := by
    rw [hN1]
    repeat (first | exact kp_rf | refine kp_tr ?_ kp_R | refine kp_tr ?_ (kp_I (by omega)) | refine kp_tr ?_ (kp_L (by omega)) | refine kp_tr ?_ (kp_z (by omega)))
  have t1 : ∀ p, p < 16 → mI N1 158 p = -1 := fun p hp => by
    rw [hN1]
    rcases (show p = 0 ∨ p = 1 ∨ p = 2 ∨ p = 3 ∨ p = 4 ∨ p = 5 ∨ p = 6 ∨ p = 7 ∨ p = 8 ∨ p = 9 ∨ p = 10 ∨ p = 11 ∨ p = 12 ∨ p = 13 ∨ p = 14 ∨ p = 15 by omega) with rfl | rfl | rfl | rfl | rfl | rfl | rfl | rfl | rfl | rfl | rfl | rfl | rfl | rfl | rfl | rfl <;> simp [mI, stI]
  have b1 : ∀ p, mI N1 154 p = 0 := fun p => by rw [hN1]; simp [mI, stI, stR, zero]
  have z1 : ∀ j, mI N1 153 j = mI M 153 j := fun j => by rw [hN1]; simp [mI, stI, stR, zero]
  clear hN1
  refine e_putR C f_X6_22 (shp_at sh_153 (by omega)) (fun b => ⟨rfl, rfl⟩) (hd := dX6_init_118) (hfin := (fun CC T h => by obtain ⟨h1, -⟩ := h; cases h1; rfl)) rfl (fun CC T h => by obtain ⟨h1, -⟩ := h; cases h1; rfl) ?_
  have hP158 := w_set q1 (show RT 153 5 = some 158 from rfl)
  refine e_aload_n C dX6_init_121 rfl ?_
  refine e_iconst C dX6_init_122 ?_
  refine n_I C sh_159 ac_int dX6_init_123 rfl (by omega) (by first | omega | decide | (simp only [pnF]; omega)) ?_
  refine e_dup C dX6_init_125 ?_
  refine e_iconst C dX6_init_126 ?_
  refine e_iconst C dX6_init_127 ?_
  refine e_iastore C dX6_init_128 (shp_at sh_159 (by omega)) 0 rfl (by decide) ?_
  refine e_dup C dX6_init_129 ?_
  refine e_iconst C dX6_init_130 ?_
  refine e_iconst C dX6_init_131 ?_
  refine e_iastore C dX6_init_132 (shp_at sh_159 (by omega)) 1 rfl (by decide) ?_
  refine e_dup C dX6_init_133 ?_
  refine e_iconst C dX6_init_134 ?_
  refine e_bipush C dX6_init_135 ?_
  refine e_iastore C dX6_init_137 (shp_at sh_159 (by omega)) 2 rfl (by decide) ?_
  refine e_dup C dX6_init_138 ?_
  refine e_iconst C dX6_init_139 ?_
  refine e_bipush C dX6_init_140 ?_
  refine e_iastore C dX6_init_142 (shp_at sh_159 (by omega)) 3 rfl (by decide) ?_
  refine e_dup C dX6_init_143 ?_
  refine e_iconst C dX6_init_144 ?_
  refine e_bipush C dX6_init_145 ?_
  refine e_iastore C dX6_init_147 (shp_at sh_159 (by omega)) 4 rfl (by decide) ?_
  refine pE_g (fun N2 hN2 => ?_)
  have q2 : pIv 160 [159] N2 := by rw [hN2]; exact (w_I (w_I (w_I (w_I (w_I (w_new hP158))))))
  have k2 : kp 159 N1 N2 := by
    rw [hN2]
    repeat (first | exact kp_rf | refine kp_tr ?_ kp_R | refine kp_tr ?_ (kp_I (by omega)) | refine kp_tr ?_ (kp_L (by omega)) | refine kp_tr ?_ (kp_z (by omega)))
  have w2 : wtD N2 = (1, 1, 20, 16, 8) := by rw [hN2]; simp [wtD, mI, stI]
  clear hN2
  refine e_putR C f_X6_25 (shp_at sh_153 (by omega)) (fun b => ⟨rfl, rfl⟩) (hd := dX6_init_148) (hfin := (fun CC T h => by obtain ⟨h1, -⟩ := h; cases h1; rfl)) rfl (fun CC T h => by obtain ⟨h1, -⟩ := h; cases h1; rfl) ?_
  have hP159 := w_set q2 (show RT 153 6 = some 159 from rfl)
  refine e_aload_n C dX6_init_151 rfl ?_
  refine e_bipush C dX6_init_152 ?_
  refine e_putI C f_X6_28 (shp_at sh_153 (by omega)) (hd := dX6_init_154) (hfin := (fun CC T h => by obtain ⟨h1, -⟩ := h; cases h1; rfl)) ?_
  refine e_aload_n C dX6_init_157 rfl ?_
  refine e_bipush C dX6_init_158 ?_
  refine e_putI C f_X6_32 (shp_at sh_153 (by omega)) (hd := dX6_init_160) (hfin := (fun CC T h => by obtain ⟨h1, -⟩ := h; cases h1; rfl)) ?_
  refine e_aload_n C dX6_init_163 rfl ?_
  refine e_bipush C dX6_init_164 ?_
  refine e_putI C f_X6_35 (shp_at sh_153 (by omega)) (hd := dX6_init_166) (hfin := (fun CC T h => by obtain ⟨h1, -⟩ := h; cases h1; rfl)) ?_
  refine pE_g (fun N3 hN3 => ?_)
  have q3 : pIv 160 [] N3 := by rw [hN3]; exact w_I (w_I (w_I hP159))
  have k3 : kp 153 N2 N3 := by
    rw [hN3]
    repeat (first | exact kp_rf | refine kp_tr ?_ kp_R | refine kp_tr ?_ (kp_I (by omega)) | refine kp_tr ?_ (kp_L (by omega)) | refine kp_tr ?_ (kp_z (by omega)))
  have r3 : ∀ b, b ≠ 153 → mI N3 b = mI N2 b := fun b hb => by rw [hN3]; exact (stI_rowN _ _ _ hb).trans ((stI_rowN _ _ _ hb).trans (stI_rowN _ _ _ hb))
  have z3 : mI N3 153 0 = mI N2 153 0 ∧ mI N3 153 10 = mI N2 153 10 ∧ mI N3 153 7 = 60 ∧ mI N3 153 8 = 10 ∧ mI N3 153 9 = 30 := by rw [hN3]; simp [mI, stI, stR]
  clear hN3
  refine e_aload_n C dX6_init_169 rfl ?_
  refine e_iconst C dX6_init_170 ?_
  refine n_I C sh_160 ac_int dX6_init_171 rfl (by omega) (by first | omega | decide | (simp only [pnF]; omega)) ?_
  refine e_putR C f_X6_38 (shp_at sh_153 (by omega)) (fun b => ⟨rfl, rfl⟩) (hd := dX6_init_173) (hfin := (fun CC T h => by obtain ⟨h1, -⟩ := h; cases h1; rfl)) rfl (fun CC T h => by obtain ⟨h1, -⟩ := h; cases h1; rfl) ?_
  have hP160 := w_set (w_new q3) (show RT 153 11 = some 160 from rfl)
  refine e_aload_n C dX6_init_176 rfl ?_
  refine e_iconst C dX6_init_177 ?_
  refine n_I C sh_161 ac_int dX6_init_178 rfl (by omega) (by first | omega | decide | (simp only [pnF]; omega)) ?_
  refine e_putR C f_X6_41 (shp_at sh_153 (by omega)) (fun b => ⟨rfl, rfl⟩) (hd := dX6_init_180) (hfin := (fun CC T h => by obtain ⟨h1, -⟩ := h; cases h1; rfl)) rfl (fun CC T h => by obtain ⟨h1, -⟩ := h; cases h1; rfl) ?_
  have hP161 := w_set (w_new hP160) (show RT 153 12 = some 161 from rfl)
  refine e_aload_n C dX6_init_183 rfl ?_
  refine e_bipush C dX6_init_184 ?_
  refine n_I C sh_162 ac_int dX6_init_186 rfl (by omega) (by first | omega | decide | (simp only [pnF]; omega)) ?_
  refine e_putR C f_X6_44 (shp_at sh_153 (by omega)) (fun b => ⟨rfl, rfl⟩) (hd := dX6_init_188) (hfin := (fun CC T h => by obtain ⟨h1, -⟩ := h; cases h1; rfl)) rfl (fun CC T h => by obtain ⟨h1, -⟩ := h; cases h1; rfl) ?_
  have hP162 := w_set (w_new hP161) (show RT 153 13 = some 162 from rfl)
  refine e_aload_n C dX6_init_191 rfl ?_
  refine e_bipush C dX6_init_192 ?_
  refine n_I C sh_163 ac_int dX6_init_194 rfl (by omega) (by first | omega | decide | (simp only [pnF]; omega)) ?_
  refine e_putR C f_X6_47 (shp_at sh_153 (by omega)) (fun b => ⟨rfl, rfl⟩) (hd := dX6_init_196) (hfin := (fun CC T h => by obtain ⟨h1, -⟩ := h; cases h1; rfl)) rfl (fun CC T h => by obtain ⟨h1, -⟩ := h; cases h1; rfl) ?_
  have hP163 := w_set (w_new hP162) (show RT 153 14 = some 163 from rfl)
  refine e_aload_n C dX6_init_199 rfl ?_
  refine e_bipush C dX6_init_200 ?_
  refine n_I C sh_164 ac_int dX6_init_202 rfl (by omega) (by first | omega | decide | (simp only [pnF]; omega)) ?_
  refine e_putR C f_X6_50 (shp_at sh_153 (by omega)) (fun b => ⟨rfl, rfl⟩) (hd := dX6_init_204) (hfin := (fun CC T h => by obtain ⟨h1, -⟩ := h; cases h1; rfl)) rfl (fun CC T h => by obtain ⟨h1, -⟩ := h; cases h1; rfl) ?_
  have hP164 := w_set (w_new hP163) (show RT 153 15 = some 164 from rfl)
  refine e_aload_n C dX6_init_207 rfl ?_
  refine e_bipush C dX6_init_208 ?_
  refine n_Z C sh_165 ac_boolean dX6_init_210 rfl (by omega) (by first | omega | decide | (simp only [pnF]; omega)) ?_
  refine e_putR C f_X6_53 (shp_at sh_153 (by omega)) (fun b => ⟨rfl, rfl⟩) (hd := dX6_init_212) (hfin := (fun CC T h => by obtain ⟨h1, -⟩ := h; cases h1; rfl)) rfl (fun CC T h => by obtain ⟨h1, -⟩ := h; cases h1; rfl) ?_
  have hP165 := w_set (w_new hP164) (show RT 153 16 = some 165 from rfl)
  refine e_aload_n C dX6_init_215 rfl ?_
  refine e_bipush C dX6_init_216 ?_
  refine n_I C sh_166 ac_int dX6_init_218 rfl (by omega) (by first | omega | decide | (simp only [pnF]; omega)) ?_
  refine e_putR C f_X6_57 (shp_at sh_153 (by omega)) (fun b => ⟨rfl, rfl⟩) (hd := dX6_init_220) (hfin := (fun CC T h => by obtain ⟨h1, -⟩ := h; cases h1; rfl)) rfl (fun CC T h => by obtain ⟨h1, -⟩ := h; cases h1; rfl) ?_
  have hP166 := w_set (w_new hP165) (show RT 153 18 = some 166 from rfl)
  refine e_aload_n C dX6_init_223 rfl ?_
  refine e_bipush C dX6_init_224 ?_
  refine n_I C sh_167 ac_int dX6_init_226 rfl (by omega) (by first | omega | decide | (simp only [pnF]; omega)) ?_
  refine e_putR C f_X6_60 (shp_at sh_153 (by omega)) (fun b => ⟨rfl, rfl⟩) (hd := dX6_init_228) (hfin := (fun CC T h => by obtain ⟨h1, -⟩ := h; cases h1; rfl)) rfl (fun CC T h => by obtain ⟨h1, -⟩ := h; cases h1; rfl) ?_
  have hP167 := w_set (w_new hP166) (show RT 153 19 = some 167 from rfl)
  refine e_aload_n C dX6_init_231 rfl ?_
  refine e_bipush C dX6_init_232 ?_
  refine n_I C sh_168 ac_int dX6_init_234 rfl (by omega) (by first | omega | decide | (simp only [pnF]; omega)) ?_
  refine e_putR C f_X6_63 (shp_at sh_153 (by omega)) (fun b => ⟨rfl, rfl⟩) (hd := dX6_init_236) (hfin := (fun CC T h => by obtain ⟨h1, -⟩ := h; cases h1; rfl)) rfl (fun CC T h => by obtain ⟨h1, -⟩ := h; cases h1; rfl) ?_
  have hP168 := w_set (w_new hP167) (show RT 153 20 = some 168 from rfl)
  refine e_aload_n C dX6_init_239 rfl ?_
  refine e_bipush C dX6_init_240 ?_
  refine n_I C sh_169 ac_int dX6_init_242 rfl (by omega) (by first | omega | decide | (simp only [pnF]; omega)) ?_
  refine e_putR C f_X6_66 (shp_at sh_153 (by omega)) (fun b => ⟨rfl, rfl⟩) (hd := dX6_init_244) (hfin := (fun CC T h => by obtain ⟨h1, -⟩ := h; cases h1; rfl)) rfl (fun CC T h => by obtain ⟨h1, -⟩ := h; cases h1; rfl) ?_
  have hP169 := w_set (w_new hP168) (show RT 153 22 = some 169 from rfl)
  refine e_aload_n C dX6_init_247 rfl ?_
  refine e_bipush C dX6_init_248 ?_
  refine n_I C sh_170 ac_int dX6_init_250 rfl (by omega) (by first | omega | decide | (simp only [pnF]; omega)) ?_
  refine e_putR C f_X6_69 (shp_at sh_153 (by omega)) (fun b => ⟨rfl, rfl⟩) (hd := dX6_init_252) (hfin := (fun CC T h => by obtain ⟨h1, -⟩ := h; cases h1; rfl)) rfl (fun CC T h => by obtain ⟨h1, -⟩ := h; cases h1; rfl) ?_
  have hP170 := w_set (w_new hP169) (show RT 153 23 = some 170 from rfl)
  refine e_aload_n C dX6_init_255 rfl ?_
  refine e_bipush C dX6_init_256 ?_
  refine n_I C sh_171 ac_int dX6_init_258 rfl (by omega) (by first | omega | decide | (simp only [pnF]; omega)) ?_
  refine e_putR C f_X6_72 (shp_at sh_153 (by omega)) (fun b => ⟨rfl, rfl⟩) (hd := dX6_init_260) (hfin := (fun CC T h => by obtain ⟨h1, -⟩ := h; cases h1; rfl)) rfl (fun CC T h => by obtain ⟨h1, -⟩ := h; cases h1; rfl) ?_
  have hP171 := w_set (w_new hP170) (show RT 153 24 = some 171 from rfl)
  refine e_aload_n C dX6_init_263 rfl ?_
  refine e_bipush C dX6_init_264 ?_
  refine n_Z C sh_172 ac_boolean dX6_init_266 rfl (by omega) (by first | omega | decide | (simp only [pnF]; omega)) ?_
  refine e_putR C f_X6_75 (shp_at sh_153 (by omega)) (fun b => ⟨rfl, rfl⟩) (hd := dX6_init_268) (hfin := (fun CC T h => by obtain ⟨h1, -⟩ := h; cases h1; rfl)) rfl (fun CC T h => by obtain ⟨h1, -⟩ := h; cases h1; rfl) ?_
  have hP172 := w_set (w_new hP171) (show RT 153 25 = some 172 from rfl)
  refine e_aload_n C dX6_init_271 rfl ?_
  refine e_sipush C dX6_init_272 ?_
  refine n_I C sh_173 ac_int dX6_init_275 rfl (by omega) (by first | omega | decide | (simp only [pnF]; omega)) ?_
  refine e_putR C f_X6_78 (shp_at sh_153 (by omega)) (fun b => ⟨rfl, rfl⟩) (hd := dX6_init_277) (hfin := (fun CC T h => by obtain ⟨h1, -⟩ := h; cases h1; rfl)) rfl (fun CC T h => by obtain ⟨h1, -⟩ := h; cases h1; rfl) ?_
  have hP173 := w_set (w_new hP172) (show RT 153 26 = some 173 from rfl)
  refine e_aload_n C dX6_init_280 rfl ?_
  refine e_bipush C dX6_init_281 ?_
  refine n_I C sh_174 ac_int dX6_init_283 rfl (by omega) (by first | omega | decide | (simp only [pnF]; omega)) ?_
  refine e_putR C f_X6_81 (shp_at sh_153 (by omega)) (fun b => ⟨rfl, rfl⟩) (hd := dX6_init_285) (hfin := (fun CC T h => by obtain ⟨h1, -⟩ := h; cases h1; rfl)) rfl (fun CC T h => by obtain ⟨h1, -⟩ := h; cases h1; rfl) ?_
  have hP174 := w_set (w_new hP173) (show RT 153 27 = some 174 from rfl)
  refine e_aload_n C dX6_init_288 rfl ?_
  refine e_bipush C dX6_init_289 ?_
  refine n_I C sh_175 ac_int dX6_init_291 rfl (by omega) (by first | omega | decide | (simp only [pnF]; omega)) ?_
  refine e_putR C f_X6_84 (shp_at sh_153 (by omega)) (fun b => ⟨rfl, rfl⟩) (hd := dX6_init_293) (hfin := (fun CC T h => by obtain ⟨h1, -⟩ := h; cases h1; rfl)) rfl (fun CC T h => by obtain ⟨h1, -⟩ := h; cases h1; rfl) ?_
  have hP175 := w_set (w_new hP174) (show RT 153 31 = some 175 from rfl)
  refine e_aload_n C dX6_init_296 rfl ?_
  refine e_bipush C dX6_init_297 ?_
  refine n_I C sh_176 ac_int dX6_init_299 rfl (by omega) (by first | omega | decide | (simp only [pnF]; omega)) ?_
  refine e_putR C f_X6_87 (shp_at sh_153 (by omega)) (fun b => ⟨rfl, rfl⟩) (hd := dX6_init_301) (hfin := (fun CC T h => by obtain ⟨h1, -⟩ := h; cases h1; rfl)) rfl (fun CC T h => by obtain ⟨h1, -⟩ := h; cases h1; rfl) ?_
  have hP176 := w_set (w_new hP175) (show RT 153 32 = some 176 from rfl)
  refine e_aload_n C dX6_init_304 rfl ?_
  refine e_bipush C dX6_init_305 ?_
  refine n_I C sh_177 ac_int dX6_init_307 rfl (by omega) (by first | omega | decide | (simp only [pnF]; omega)) ?_
  refine e_putR C f_X6_90 (shp_at sh_153 (by omega)) (fun b => ⟨rfl, rfl⟩) (hd := dX6_init_309) (hfin := (fun CC T h => by obtain ⟨h1, -⟩ := h; cases h1; rfl)) rfl (fun CC T h => by obtain ⟨h1, -⟩ := h; cases h1; rfl) ?_
  have hP177 := w_set (w_new hP176) (show RT 153 33 = some 177 from rfl)
  refine e_aload_n C dX6_init_312 rfl ?_
  refine e_bipush C dX6_init_313 ?_
  refine n_I C sh_178 ac_int dX6_init_315 rfl (by omega) (by first | omega | decide | (simp only [pnF]; omega)) ?_
  refine e_putR C f_X6_93 (shp_at sh_153 (by omega)) (fun b => ⟨rfl, rfl⟩) (hd := dX6_init_317) (hfin := (fun CC T h => by obtain ⟨h1, -⟩ := h; cases h1; rfl)) rfl (fun CC T h => by obtain ⟨h1, -⟩ := h; cases h1; rfl) ?_
  have hP178 := w_set (w_new hP177) (show RT 153 37 = some 178 from rfl)
  refine e_aload_n C dX6_init_320 rfl ?_
  refine e_bipush C dX6_init_321 ?_
  refine n_I C sh_179 ac_int dX6_init_323 rfl (by omega) (by first | omega | decide | (simp only [pnF]; omega)) ?_
  refine e_putR C f_X6_96 (shp_at sh_153 (by omega)) (fun b => ⟨rfl, rfl⟩) (hd := dX6_init_325) (hfin := (fun CC T h => by obtain ⟨h1, -⟩ := h; cases h1; rfl)) rfl (fun CC T h => by obtain ⟨h1, -⟩ := h; cases h1; rfl) ?_
  have hP179 := w_set (w_new hP178) (show RT 153 38 = some 179 from rfl)
  refine e_return C dX6_init_328 ⟨rfl, ?_, hP179, ?_⟩
  · refine kp_tr k1 (kp_tr (kp_su k2 (by omega)) (kp_tr k3 ?_))
    repeat (first | exact kp_rf | refine kp_tr ?_ kp_R | refine kp_tr ?_ (kp_I (by omega)) | refine kp_tr ?_ (kp_L (by omega)) | refine kp_tr ?_ (kp_z (by omega)))
  · have k4 : ∀ R : pMem, kp 160 N3 R → iniD R := fun R hR => by
      have e153 : ∀ j, mI R 153 j = mI N3 153 j := fun j => (hR 153 j (by omega)).1
      have y0 : mI N2 153 0 = 0 := ((k2 153 0 (by omega)).1.trans (z1 0)).trans h0
      have y10 : mI N2 153 10 = 0 := ((k2 153 10 (by omega)).1.trans (z1 10)).trans h10
      refine ⟨by rw [e153, z3.1, y0], by rw [e153, z3.2.1, y10], ⟨by rw [e153, z3.2.2.1], by rw [e153, z3.2.2.2.1], by rw [e153, z3.2.2.2.2]⟩, fun p hp => ?_, ?_, fun p => ?_⟩
      · rw [(hR 158 p (by omega)).1, r3 158 (by decide), (k2 158 p (by omega)).1]; exact t1 p hp
      · unfold wtD
        rw [(hR 159 0 (by omega)).1, (hR 159 1 (by omega)).1, (hR 159 2 (by omega)).1, (hR 159 3 (by omega)).1, (hR 159 4 (by omega)).1, r3 159 (by decide)]; exact w2
      · rw [(hR 154 p (by omega)).1, r3 154 (by decide), (k2 154 p (by omega)).1]; exact b1 p
    refine k4 _ ?_
    repeat (first | exact kp_rf | refine kp_tr ?_ kp_R | refine kp_tr ?_ (kp_I (by omega)) | refine kp_tr ?_ (kp_L (by omega)) | refine kp_tr ?_ (kp_z (by omega)))
/-! ===== both hold at the start ===== -/
theorem kT_none {T : Nat → Int} {k : Int} (hk : 0 ≤ k) (h : ∀ p, p < 16 → T p = -1) : kTn T k = 0 := by
  have h1 := sg_ub (f := fun p => b01 (T p = k)) (b := 0) (n := 16) (fun p hp => by rw [show b01 (T p = k) = 0 from if_neg (by rw [h p hp]; omega)]; exact Int.le_refl _)
  have h2 := sg_nonneg (f := fun p => b01 (T p = k)) (n := 16) (fun p _ => (b01_r _).1)
  unfold kTn
  omega
theorem JC_0 {M : pMem} (hW : pW M) (h : iniC M) : JC M := by
  obtain ⟨h1, ⟨b1, b2, b3, b4⟩, h3, h4, h5, h6⟩ := h
  have hc : ∀ p, p < 16 → (pgC M).1 p = 0 := fun p hp => by show (mI M (38 + 5 * p) 4).toNat = 0; rw [(h3 p hp).1]; rfl
  have hT : ∀ p, p < 16 → mI M 2 p = -1 := fun p hp => (h3 p hp).2
  refine ⟨hW, ⟨fun p hp => by rw [hc p hp, (h3 p hp).1]; rfl, fun p hp => ⟨by rw [hc p hp]; omega, fun b hb => by rw [hc p hp] at hb; omega⟩, fun p i j hp hi => by rw [hc p hp] at hi; omega⟩, by rw [h1]; unfold wtOk; decide, by omega, fun p hp => by rw [hT p hp]; omega, fun p hp _ => ⟨hc p hp, hT p hp⟩, by omega, fun p i hp hi => by rw [hc p hp] at hi; omega, fun k hk => ?_, fun p q hp hq => Or.inl (h6 p q (by omega) hq)⟩
  have hn : nSp M (118 + 7 * k) = 0 := by unfold nSp; rw [(h4 k hk).2]; rfl
  have hk0 := kT_none (T := mI M 2) (k := (k : Int)) (by omega) hT
  refine ⟨⟨by rw [hn, (h4 k hk).2]; rfl, by rw [hn]; omega, fun s hs => by rw [hn] at hs; omega, by rw [(h4 k hk).1]; omega, fun p hp => Or.inl (h5 k p hk hp)⟩, ?_, ?_, kdP_none (by omega)⟩
  · rw [(h4 k hk).1, hk0]
  · rw [hn, spc_none (by omega)]
theorem JD_0 {M : pMem} (hW : pW M) (h : iniD M) : JD M := by
  obtain ⟨h1, h2, ⟨b1, b2, b3⟩, h3, h4, h5⟩ := h
  have hc : ∀ p, (pgD M).1 p = 0 := fun p => by show (mI M 154 p).toNat = 0; rw [h5]; rfl
  exact ⟨hW, by omega, by rw [h4]; unfold wtOk; decide, by unfold bdD; omega, ⟨fun p hp => by rw [hc, h5]; rfl, fun p hp => ⟨by rw [hc]; omega, fun b hb => by rw [hc] at hb; omega⟩, fun p i j hp hi => by rw [hc] at hi; omega⟩, ⟨fun p hp => by rw [h3 p hp]; omega, fun p hp _ => h3 p hp⟩, Or.inl h2⟩
