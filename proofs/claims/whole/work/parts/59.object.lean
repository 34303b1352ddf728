/-! ===== the two objects are made ===== -/
section
variable {g : pG} {nL : Nat} {X : pX} {Qf : State → Prop} {S : List pShp} {M : pMem} {cs cs2 sl sl2 pc : Nat} {L : List (Option pV)} {st : List pV}
theorem pE_c (k : pE g nL X Qf S M cs2 sl2 pc L st) (h : cs = cs2) (h2 : sl = sl2) : pE g nL X Qf S M cs sl pc L st := by subst h; subst h2; exact k
theorem pE_S {S2 : List pShp} (k : pE g nL X Qf S2 M cs sl pc L st) (h : S = S2) : pE g nL X Qf S M cs sl pc L st := by subst h; exact k
theorem pE_g (k : ∀ N : pMem, N = M → pE g nL X Qf S N cs sl pc L st) : pE g nL X Qf S M cs sl pc L st := k M rfl
end
def b0C (M : pMem) : Prop := mI M 0 12 = 0 ∧ mI M 0 13 = 60 ∧ mI M 0 14 = 10 ∧ mI M 0 15 = 30
def pgC0 (n : Nat) (M : pMem) : Prop := ∀ q, q < n → mI M (38 + 5 * q) 4 = 0 ∧ mI M 2 q = -1
def kdC0 (n : Nat) (M : pMem) : Prop := ∀ i, i < n → mI M (118 + 7 * i) 2 = 0 ∧ mI M (118 + 7 * i + 1) 4 = 0
def iniC (M : pMem) : Prop := wtC M = (1, 1, 20, 16, 8) ∧ b0C M ∧ pgC0 16 M ∧ kdC0 5 M ∧ (∀ k p, k < 5 → p < 16 → mL M (118 + 7 * k + 6) p = -1) ∧ ∀ q r, q < 16 → r < 16 → mI M 36 (q * 16 + r) = -1
theorem wtC_kp {n : Nat} {M N : pMem} (h : kp n M N) (hn : 5 ≤ n) : wtC N = wtC M := by
  unfold wtC
  rw [(h 4 0 (by omega)).1, (h 4 1 (by omega)).1, (h 4 2 (by omega)).1, (h 4 3 (by omega)).1, (h 4 4 (by omega)).1]
theorem b0C_kp {n : Nat} {M N : pMem} (h : kp n M N) (hn : 1 ≤ n) (hb : b0C M) : b0C N := by
  unfold b0C
  rw [(h 0 12 (by omega)).1, (h 0 13 (by omega)).1, (h 0 14 (by omega)).1, (h 0 15 (by omega)).1]; exact hb
theorem pgC0_kp {n m : Nat} {M N : pMem} (h : kp n M N) (hn : 38 + 5 * m ≤ n) (hb : pgC0 m M) : pgC0 m N := fun q hq => by
  rw [(h (38 + 5 * q) 4 (by omega)).1, (h 2 q (by omega)).1]; exact hb q hq
theorem kdC0_kp {n m : Nat} {M N : pMem} (h : kp n M N) (hn : 118 + 7 * m ≤ n) (hb : kdC0 m M) : kdC0 m N := fun q hq => by
  rw [(h (118 + 7 * q) 2 (by omega)).1, (h (118 + 7 * q + 1) 4 (by omega)).1]; exact hb q hq
theorem shpO_page {p : Nat} (hp : p < 16) : shpO (38 + 5 * p) 8 := sh_page p hp
theorem shpR_page {p : Nat} (hp : p < 16) : shpR (38 + 5 * p) := by
  obtain ⟨b1, b2, b3, b4, b5⟩ := rt_page p hp
  exact ⟨b2, b3, b4, b5⟩
theorem i_class {g : pG} {M : pMem} (hP : pIv 1 [] M) : pCn g 3 (152) (2332) yX5_init cX5_init 2 none (SHp 1) (SHp 153) M [.inr (.inr 0)] (fun r M' => r = none ∧ pIv 153 [] M' ∧ iniC M') := by
  refine pCn_intro mt_X5_init (fun X C => ?_)
  have l2 : ∀ (i : Nat) (N : pMem), i ≤ 5 → (pIv (118 + 7 * i) [] N ∧ wtC N = (1, 1, 20, 16, 8) ∧ b0C N ∧ pgC0 16 N ∧ kdC0 i N) → pE g 2 X (pMQ g (SHp 153) (fun r M' => r = none ∧ pIv 153 [] M' ∧ iniC M') X 152 2332) (SHp (118 + 7 * i)) N (117 + 7 * i) (1892 + 88 * i) 178 [some (.inr (.inr 0)), some (.inl (i : Int))] [] := by
    refine p_for 5 _ _ ?_ ?_
    · rintro N ⟨h1, h2, h3, h4, h5⟩
      refine e_iload_n C dX5_init_178 rfl ?_
      refine e_iconst C dX5_init_179 ?_
      refine e_icmp_ge C (tgt := 214) dX5_init_180 (by decide) (by omega) (by omega) (fun h_180 => ?_) (fun h_180 => by exfalso; omega)
      refine e_aload_n C dX5_init_214 rfl ?_
      refine e_callV C (k_forgetLayings (M := N) h1) mt_X5_forgetLayings s_X5_82 dX5_init_215 5 (shp_at sh_0 (by omega)) rfl (fun rf Mf hqf => ?_)
      obtain ⟨rfl, f1, f2, f3, f4, f5⟩ := hqf
      dsimp only [Option.toList_none, List.nil_append]
      refine e_return C dX5_init_218 ⟨rfl, fun a i b hb hl hp => (f1 a i).trans (h1 a i b hb hl hp), ?_, ?_, fun q hq => ?_, fun q hq => ?_, f5, f3⟩
      · rw [← h2]; unfold wtC; rw [f2 4 0 (by decide), f2 4 1 (by decide), f2 4 2 (by decide), f2 4 3 (by decide), f2 4 4 (by decide)]
      · unfold b0C; rw [f2 0 12 (by decide), f2 0 13 (by decide), f2 0 14 (by decide), f2 0 15 (by decide)]; exact h3
      · rw [f2 _ 4 (by omega), f2 2 q (by decide)]; exact h4 q hq
      · rw [f2 _ 2 (by omega), f2 _ 4 (by omega)]; exact h5 q hq
    · rintro i N hi ⟨h1, h2, h3, h4, h5⟩ ih
      obtain ⟨a1, a2, a3, a4, a5, a6, a7⟩ := sh_kind i hi
      obtain ⟨b1, b2, b3, b4, b5, b6, b7⟩ := rt_kind i hi
      refine e_iload_n C dX5_init_178 rfl ?_
      refine e_iconst C dX5_init_179 ?_
      refine e_icmp_ge C (tgt := 214) dX5_init_180 (by decide) (by omega) (by omega) (fun h_180 => by exfalso; omega) (fun h_180 => ?_)
      refine e_aload_n C dX5_init_183 rfl ?_
      refine e_getR C f_X5_21 (shp_at sh_0 (by omega)) (kW h1 0 2 3 rfl (by omega)) dX5_init_184 ?_
      refine e_iload_n C dX5_init_187 rfl ?_
      refine n_new C a1 pcl0 pdf0 cl_X5_19 dX5_init_188 (by first | omega | decide | (simp only [pnF]; omega)) ?_
      refine e_dup C dX5_init_191 ?_
      refine e_callIN (hk := by simp only [pnF]; omega) C (i_kind (M := zero N (118 + 7 * i)) (a := 118 + 7 * i) (Pn := [118 + 7 * i]) a1 ⟨a2, a3, a4, a5, a6⟩ a7 b2 ⟨b4, b5, b6, b7⟩ b3 (w_new h1)) mt_X0_init s_X5_52 dX5_init_192 (fun rk Mk hqk => ?_)
      obtain ⟨rfl, k1, k2, k3, k4⟩ := hqk
      dsimp only [Option.toList_none, List.nil_append]
      have hP2 := w_set k4 b1
      have hK := kp_tr (kp_z (M := N) (n := 118 + 7 * i) (Nat.le_refl _)) k1
      refine e_aastore4 C dX5_init_195 (shp_at sh_3 (by omega)) (shp_at a1 (by omega)) i rfl (by omega) ?_
      refine e_aload_n C dX5_init_196 rfl ?_
      refine e_getR C f_X5_49 (shp_at sh_0 (by omega)) (kW hP2 0 7 21 rfl (by omega)) dX5_init_197 ?_
      refine e_iload_n C dX5_init_200 rfl ?_
      refine e_aload_n C dX5_init_201 rfl ?_
      refine e_getR C f_X5_21 (shp_at sh_0 (by omega)) (kW hP2 0 2 3 rfl (by omega)) dX5_init_202 ?_
      refine e_iload_n C dX5_init_205 rfl ?_
      refine e_aaload4 C dX5_init_206 (shp_at sh_3 (by omega)) i rfl (by omega) (stR_s _ _ _ _) ?_
      refine e_aastore4 C dX5_init_207 (shp_at sh_21 (by omega)) (shp_at a1 (by omega)) i rfl (by omega) ?_
      refine e_iinc C dX5_init_208 rfl ?_
      refine e_goto C (tgt := 178) dX5_init_211 (by decide) ?_
      rw [show ((i : Int) + 1) = ((i + 1 : Nat) : Int) by omega]
      refine pE_c (pE_S (ih _ ⟨w_21 hP2, ?_, ?_, ?_, fun q hq => ?_⟩) (congrArg SHp (by omega))) (by omega) (by simp only [pnF]; omega)
      · rw [← h2]; exact wtC_kp hK (by omega)
      · exact b0C_kp hK (by omega) h3
      · exact pgC0_kp hK (by omega) h4
      · by_cases e : q = i
        · subst e; exact ⟨k2, k3⟩
        · exact kdC0_kp hK (by omega) h5 q (by omega)
  have l1 : ∀ (i : Nat) (N : pMem), i ≤ 16 → (pIv (38 + 5 * i) [] N ∧ wtC N = (1, 1, 20, 16, 8) ∧ b0C N ∧ pgC0 i N) → pE g 2 X (pMQ g (SHp 153) (fun r M' => r = none ∧ pIv 153 [] M' ∧ iniC M') X 152 2332) (SHp (38 + 5 * i)) N (37 + 5 * i) (1300 + 37 * i) 142 [some (.inr (.inr 0)), some (.inl (i : Int))] [] := by
    refine p_for 16 _ _ ?_ ?_
    · rintro N ⟨h1, h2, h3, h4⟩
      refine e_iload_n C dX5_init_142 rfl ?_
      refine e_bipush C dX5_init_143 ?_
      refine e_icmp_ge C (tgt := 176) dX5_init_145 (by decide) (by omega) (by omega) (fun h_145 => ?_) (fun h_145 => by exfalso; omega)
      refine e_iconst C dX5_init_176 ?_
      refine e_istore_n C dX5_init_177 ?_
      exact l2 0 N (by omega) ⟨h1, h2, h3, h4, fun q hq => by omega⟩
    · rintro i N hi ⟨h1, h2, h3, h4⟩ ih
      obtain ⟨b1, b2, b3, b4, b5⟩ := rt_page i hi
      have hO := shpO_page hi
      refine e_iload_n C dX5_init_142 rfl ?_
      refine e_bipush C dX5_init_143 ?_
      refine e_icmp_ge C (tgt := 176) dX5_init_145 (by decide) (by omega) (by omega) (fun h_145 => by exfalso; omega) (fun h_145 => ?_)
      refine e_aload_n C dX5_init_148 rfl ?_
      refine e_getR C f_X5_11 (shp_at sh_0 (by omega)) (kW h1 0 0 1 rfl (by omega)) dX5_init_149 ?_
      refine e_iload_n C dX5_init_152 rfl ?_
      refine n_new C hO.1 pcl4 pdf4 cl_X5_9 dX5_init_153 (by first | omega | decide | (simp only [pnF]; omega)) ?_
      refine e_dup C dX5_init_156 ?_
      refine e_bipush C dX5_init_157 ?_
      refine e_callI (hk := by simp only [pnF]; omega) C (i_sheet (M := zero N (38 + 5 * i)) (a := 38 + 5 * i) (N := 8) (Pn := [38 + 5 * i]) hO (shpR_page hi) (by omega) (w_new h1)) mt_X4_init s_X5_79 dX5_init_159 (fun rs Ms hqs => ?_)
      obtain ⟨rfl, k1, k2, k3⟩ := hqs
      dsimp only [Option.toList_none, List.nil_append]
      have hP2 := w_set k3 b1
      have hK := kp_tr (kp_z (M := N) (n := 38 + 5 * i) (Nat.le_refl _)) k1
      refine e_aastore3 C dX5_init_162 (shp_at sh_1 (by omega)) (shp_at hO.1 (by omega)) i rfl (by omega) ?_
      refine e_aload_n C dX5_init_163 rfl ?_
      refine e_getR C f_X5_15 (shp_at sh_0 (by omega)) (kW hP2 0 1 2 rfl (by omega)) dX5_init_164 ?_
      refine e_iload_n C dX5_init_167 rfl ?_
      refine e_iconst C dX5_init_168 ?_
      refine e_iastore C dX5_init_169 (shp_at sh_2 (by omega)) _ rfl (by omega) ?_
      refine e_iinc C dX5_init_170 rfl ?_
      refine e_goto C (tgt := 142) dX5_init_173 (by decide) ?_
      rw [show ((i : Int) + 1) = ((i + 1 : Nat) : Int) by omega]
      have hM : ∀ b j, b ≠ 2 → mI (stI (stR Ms 1 i (38 + 5 * i)) 2 i (-1)) b j = mI Ms b j := fun b j hb => stI_n _ _ (Or.inl hb)
      refine pE_c (pE_S (ih _ ⟨w_I hP2, ?_, ?_, fun q hq => ?_⟩) (congrArg SHp (by omega))) (by omega) (by simp only [pnF]; omega)
      · rw [← h2, ← wtC_kp hK (by omega)]; unfold wtC; rw [hM 4 0 (by decide), hM 4 1 (by decide), hM 4 2 (by decide), hM 4 3 (by decide), hM 4 4 (by decide)]
      · have h5 := b0C_kp hK (by omega) h3
        unfold b0C; rw [hM 0 12 (by decide), hM 0 13 (by decide), hM 0 14 (by decide), hM 0 15 (by decide)]; exact h5
      · rw [hM (38 + 5 * q) 4 (by omega)]
        by_cases e : q = i
        · subst e; exact ⟨k2, stI_s _ _ _ _⟩
        · rw [stI_n _ _ (Or.inr e)]
          exact pgC0_kp hK (Nat.le_refl _) h4 q (by omega)
  show pE g 2 X _ (SHp 1) M 0 0 0 [some (.inr (.inr 0)), none] []
  refine e_aload_n C dX5_init_0 rfl ?_
  refine e_objInit C s_X5_3 dX5_init_1 ?_
  refine e_aload_n C dX5_init_4 rfl ?_
  refine e_bipush C dX5_init_5 ?_
  refine n_S C sh_1 cl_X5_9.1 dX5_init_7 rfl (by omega) (by first | omega | decide | (simp only [pnF]; omega)) ?_
  refine e_putR C f_X5_11 (shp_at sh_0 (by omega)) (fun b => ⟨rfl, rfl⟩) (hd := dX5_init_10) (hfin := (fun CC T h => by obtain ⟨h1, -⟩ := h; cases h1; rfl)) rfl (fun CC T h => by obtain ⟨h1, -⟩ := h; cases h1; rfl) ?_
  have hP1 := w_set (w_new hP) (show RT 0 0 = some 1 from rfl)
  refine e_aload_n C dX5_init_13 rfl ?_
  refine e_bipush C dX5_init_14 ?_
  refine n_I C sh_2 ac_int dX5_init_16 rfl (by omega) (by first | omega | decide | (simp only [pnF]; omega)) ?_
  refine e_putR C f_X5_15 (shp_at sh_0 (by omega)) (fun b => ⟨rfl, rfl⟩) (hd := dX5_init_18) (hfin := (fun CC T h => by obtain ⟨h1, -⟩ := h; cases h1; rfl)) rfl (fun CC T h => by obtain ⟨h1, -⟩ := h; cases h1; rfl) ?_
  have hP2 := w_set (w_new hP1) (show RT 0 1 = some 2 from rfl)
  refine e_aload_n C dX5_init_21 rfl ?_
  refine e_iconst C dX5_init_22 ?_
  refine n_K C sh_3 cl_X5_19.1 dX5_init_23 rfl (by omega) (by first | omega | decide | (simp only [pnF]; omega)) ?_
  refine e_putR C f_X5_21 (shp_at sh_0 (by omega)) (fun b => ⟨rfl, rfl⟩) (hd := dX5_init_26) (hfin := (fun CC T h => by obtain ⟨h1, -⟩ := h; cases h1; rfl)) rfl (fun CC T h => by obtain ⟨h1, -⟩ := h; cases h1; rfl) ?_
  have hP3 := w_set (w_new hP2) (show RT 0 2 = some 3 from rfl)
  refine e_aload_n C dX5_init_29 rfl ?_
  refine n_new C sh_4 pcl1 pdf1 cl_X5_25 dX5_init_30 (by first | omega | decide | (simp only [pnF]; omega)) ?_
  refine e_dup C dX5_init_33 ?_
  refine e_callIN C (i_layer (Pn := [4]) (w_new hP3)) mt_X1_init s_X5_27 dX5_init_34 (fun ra Ma hqa => ?_)
  obtain ⟨rfl, -, a2, a3⟩ := hqa
  dsimp only [Option.toList_none, List.nil_append]
  have hP4 := w_set a3 (show RT 0 3 = some 4 from rfl)
  refine e_putR C f_X5_28 (shp_at sh_0 (by omega)) (fun b => ⟨rfl, rfl⟩) (hd := dX5_init_37) (hfin := (fun CC T h => by obtain ⟨h1, -⟩ := h; cases h1; rfl)) rfl (fun CC T h => by obtain ⟨h1, -⟩ := h; cases h1; rfl) ?_
  refine e_aload_n C dX5_init_40 rfl ?_
  refine n_new C sh_15 pcl2 pdf2 cl_X5_32 dX5_init_41 (by first | omega | decide | (simp only [pnF]; omega)) ?_
  refine e_dup C dX5_init_44 ?_
  refine e_callIN C (i_maker (Pn := [15]) (w_new hP4)) mt_X2_init s_X5_34 dX5_init_45 (fun rb Mb hqb => ?_)
  obtain ⟨rfl, c1, c3⟩ := hqb
  dsimp only [Option.toList_none, List.nil_append]
  have hP15 := w_set c3 (show RT 0 4 = some 15 from rfl)
  refine e_putR C f_X5_35 (shp_at sh_0 (by omega)) (fun b => ⟨rfl, rfl⟩) (hd := dX5_init_48) (hfin := (fun CC T h => by obtain ⟨h1, -⟩ := h; cases h1; rfl)) rfl (fun CC T h => by obtain ⟨h1, -⟩ := h; cases h1; rfl) ?_
  refine e_aload_n C dX5_init_51 rfl ?_
  refine n_new C sh_19 pcl3 pdf3 cl_X5_39 dX5_init_52 (by first | omega | decide | (simp only [pnF]; omega)) ?_
  refine e_dup C dX5_init_55 ?_
  refine e_callIN C (i_rank (Pn := [19]) (w_new hP15)) mt_X3_init s_X5_41 dX5_init_56 (fun rc Mc hqc => ?_)
  obtain ⟨rfl, d1, d3⟩ := hqc
  dsimp only [Option.toList_none, List.nil_append]
  have hP19 := w_set d3 (show RT 0 5 = some 19 from rfl)
  refine e_putR C f_X5_42 (shp_at sh_0 (by omega)) (fun b => ⟨rfl, rfl⟩) (hd := dX5_init_59) (hfin := (fun CC T h => by obtain ⟨h1, -⟩ := h; cases h1; rfl)) rfl (fun CC T h => by obtain ⟨h1, -⟩ := h; cases h1; rfl) ?_
  refine e_aload_n C dX5_init_62 rfl ?_
  refine e_bipush C dX5_init_63 ?_
  refine n_I C sh_20 ac_int dX5_init_65 rfl (by omega) (by first | omega | decide | (simp only [pnF]; omega)) ?_
  refine e_putR C f_X5_46 (shp_at sh_0 (by omega)) (fun b => ⟨rfl, rfl⟩) (hd := dX5_init_67) (hfin := (fun CC T h => by obtain ⟨h1, -⟩ := h; cases h1; rfl)) rfl (fun CC T h => by obtain ⟨h1, -⟩ := h; cases h1; rfl) ?_
  have hP20 := w_set (w_new hP19) (show RT 0 6 = some 20 from rfl)
  refine e_aload_n C dX5_init_70 rfl ?_
  refine e_iconst C dX5_init_71 ?_
  refine n_K C sh_21 cl_X5_19.1 dX5_init_72 rfl (by omega) (by first | omega | decide | (simp only [pnF]; omega)) ?_
  refine e_putR C f_X5_49 (shp_at sh_0 (by omega)) (fun b => ⟨rfl, rfl⟩) (hd := dX5_init_75) (hfin := (fun CC T h => by obtain ⟨h1, -⟩ := h; cases h1; rfl)) rfl (fun CC T h => by obtain ⟨h1, -⟩ := h; cases h1; rfl) ?_
  have hP21 := w_set (w_new hP20) (show RT 0 7 = some 21 from rfl)
  refine e_aload_n C dX5_init_78 rfl ?_
  refine n_new C sh_22 pcl0 pdf0 cl_X5_19 dX5_init_79 (by first | omega | decide | (simp only [pnF]; omega)) ?_
  refine e_dup C dX5_init_82 ?_
  refine e_callIN C (i_kind (a := 22) (Pn := [22]) sh_22 ⟨sh_23, sh_24, sh_25, sh_26, sh_27⟩ sh_28 rfl ⟨rfl, rfl, rfl, rfl⟩ rfl (w_new hP21)) mt_X0_init s_X5_52 dX5_init_83 (fun rd Md hqd => ?_)
  obtain ⟨rfl, e1, -, -, e3⟩ := hqd
  dsimp only [Option.toList_none, List.nil_append]
  have hP22 := w_set e3 (show RT 0 8 = some 22 from rfl)
  refine e_putR C f_X5_53 (shp_at sh_0 (by omega)) (fun b => ⟨rfl, rfl⟩) (hd := dX5_init_86) (hfin := (fun CC T h => by obtain ⟨h1, -⟩ := h; cases h1; rfl)) rfl (fun CC T h => by obtain ⟨h1, -⟩ := h; cases h1; rfl) ?_
  refine e_aload_n C dX5_init_89 rfl ?_
  refine n_new C sh_29 pcl0 pdf0 cl_X5_19 dX5_init_90 (by first | omega | decide | (simp only [pnF]; omega)) ?_
  refine e_dup C dX5_init_93 ?_
  refine e_callIN C (i_kind (a := 29) (Pn := [29]) sh_29 ⟨sh_30, sh_31, sh_32, sh_33, sh_34⟩ sh_35 rfl ⟨rfl, rfl, rfl, rfl⟩ rfl (w_new hP22)) mt_X0_init s_X5_52 dX5_init_94 (fun re Me hqe => ?_)
  obtain ⟨rfl, f1, -, -, f3⟩ := hqe
  dsimp only [Option.toList_none, List.nil_append]
  have hP29 := w_set f3 (show RT 0 9 = some 29 from rfl)
  refine e_putR C f_X5_57 (shp_at sh_0 (by omega)) (fun b => ⟨rfl, rfl⟩) (hd := dX5_init_97) (hfin := (fun CC T h => by obtain ⟨h1, -⟩ := h; cases h1; rfl)) rfl (fun CC T h => by obtain ⟨h1, -⟩ := h; cases h1; rfl) ?_
  refine e_aload_n C dX5_init_100 rfl ?_
  refine e_sipush C dX5_init_101 ?_
  refine n_I C sh_36 ac_int dX5_init_104 rfl (by omega) (by first | omega | decide | (simp only [pnF]; omega)) ?_
  refine e_putR C f_X5_60 (shp_at sh_0 (by omega)) (fun b => ⟨rfl, rfl⟩) (hd := dX5_init_106) (hfin := (fun CC T h => by obtain ⟨h1, -⟩ := h; cases h1; rfl)) rfl (fun CC T h => by obtain ⟨h1, -⟩ := h; cases h1; rfl) ?_
  have hP36 := w_set (w_new hP29) (show RT 0 10 = some 36 from rfl)
  refine e_aload_n C dX5_init_109 rfl ?_
  refine e_bipush C dX5_init_110 ?_
  refine n_I C sh_37 ac_int dX5_init_112 rfl (by omega) (by first | omega | decide | (simp only [pnF]; omega)) ?_
  refine e_putR C f_X5_63 (shp_at sh_0 (by omega)) (fun b => ⟨rfl, rfl⟩) (hd := dX5_init_114) (hfin := (fun CC T h => by obtain ⟨h1, -⟩ := h; cases h1; rfl)) rfl (fun CC T h => by obtain ⟨h1, -⟩ := h; cases h1; rfl) ?_
  have hP37 := w_set (w_new hP36) (show RT 0 11 = some 37 from rfl)
  refine e_aload_n C dX5_init_117 rfl ?_
  refine e_iconst C dX5_init_118 ?_
  refine e_putI C f_X5_66 (shp_at sh_0 (by omega)) (hd := dX5_init_119) (hfin := (fun CC T h => by obtain ⟨h1, -⟩ := h; cases h1; rfl)) ?_
  refine e_aload_n C dX5_init_122 rfl ?_
  refine e_bipush C dX5_init_123 ?_
  refine e_putI C f_X5_70 (shp_at sh_0 (by omega)) (hd := dX5_init_125) (hfin := (fun CC T h => by obtain ⟨h1, -⟩ := h; cases h1; rfl)) ?_
  refine e_aload_n C dX5_init_128 rfl ?_
  refine e_bipush C dX5_init_129 ?_
  refine e_putI C f_X5_73 (shp_at sh_0 (by omega)) (hd := dX5_init_131) (hfin := (fun CC T h => by obtain ⟨h1, -⟩ := h; cases h1; rfl)) ?_
  refine e_aload_n C dX5_init_134 rfl ?_
  refine e_bipush C dX5_init_135 ?_
  refine e_putI C f_X5_76 (shp_at sh_0 (by omega)) (hd := dX5_init_137) (hfin := (fun CC T h => by obtain ⟨h1, -⟩ := h; cases h1; rfl)) ?_
  refine e_iconst C dX5_init_140 ?_
  refine e_istore_n C dX5_init_141 ?_
  have w1 : wtC Me = (1, 1, 20, 16, 8) := by
    rw [wtC_kp (n := 15) (kp_tr (kp_z (by omega)) (kp_su f1 (by omega))) (by omega)]
    show wtC Md = _
    rw [wtC_kp (M := Mc) (n := 15) ?_ (by omega)]
    · rw [wtC_kp (n := 15) (kp_tr (kp_z (by omega)) (kp_su d1 (by omega))) (by omega)]
      show wtC Mb = _
      rw [wtC_kp (n := 15) (kp_tr (kp_z (by omega)) c1) (by omega)]
      exact a2
    · exact kp_tr (kp_tr (kp_tr (kp_tr (kp_tr (kp_z (M := stR Mc 0 5 19) (by omega)) kp_R) (kp_z (by omega))) kp_R) (kp_z (by omega))) (kp_su e1 (by omega))
  refine pE_c (l1 0 _ (by omega) ⟨w_I (w_I (w_I (w_I hP37))), ?_, ?_, fun q hq => by omega⟩) rfl rfl
  · rw [← w1]
    simp [wtC, mI, stI, stR, zero]
  · simp [b0C, mI, stI]
