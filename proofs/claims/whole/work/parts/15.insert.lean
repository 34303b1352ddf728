theorem huS_rng {k ns t : Nat} {w : Nat → Nat → Int} {u v o sl cf rc : Nat → Int} {frm : Int} {rk : Nat → Nat} {D B : Int} (hB : ∀ b c, b ≤ k → c ≤ ns → -B ≤ w b c) (hBB : ∀ b c, b ≤ k → c ≤ ns → w b c ≤ B) (hB0 : 0 ≤ B ∧ 4 * B < 1152921504606846976) (h : huS k ns t w u v o sl cf rc frm rk D B) :
    mvr k o frm ≤ k ∧ (∀ c, c ≤ ns → -4000000000000000000 ≤ w (mvr k o frm) c - u (mvr k o frm) - v c ∧ w (mvr k o frm) c - u (mvr k o frm) - v c ≤ 4000000000000000000) ∧ (∀ c, c ≤ ns → rc c = 0 → -4000000000000000000 ≤ sl c ∧ sl c ≤ 4000000000000000000) := by
  obtain ⟨hI, hR, hL, hD⟩ := h
  obtain ⟨g1, g2⟩ := hu_rng hI hB hBB
  have huk : -B ≤ u k ∧ u k ≤ B := by
    rcases hL with ⟨_, _, e2, _⟩ | ⟨_, _, e4, e5⟩
    · omega
    · obtain ⟨y1, y2, -⟩ := e5 ns (Nat.le_refl _) hR.2.1
      have := hBB k ns (Nat.le_refl _) (Nat.le_refl _)
      have := hI.2.2.1
      omega
  have hm : mvr k o frm ≤ k ∧ -B ≤ u (mvr k o frm) ∧ u (mvr k o frm) ≤ B := by
    rcases hL with ⟨_, e1, _⟩ | ⟨_, ⟨f, e1, e2, e3⟩, _⟩
    · subst e1; exact ⟨Nat.le_refl _, huk⟩
    · obtain ⟨b, b1, b2, b3, b4⟩ := huI_o hI e2 (hR.2.2.1 f e2 e3)
      have e : mvr k o frm = b := by unfold mvr; rw [if_neg (by omega), e1, Int.toNat_natCast, b3]
      rw [e]; exact ⟨by omega, g1 b b1⟩
  refine ⟨hm.1, fun c hc => ?_, fun c hc h0 => ?_⟩
  · have := hB (mvr k o frm) c hm.1 hc
    have := hBB (mvr k o frm) c hm.1 hc
    have := g2 c hc
    have := this.2 hB0.1
    omega
  · rcases hL with ⟨_, _, _, e3⟩ | ⟨_, _, e4, e5⟩
    · rw [e3 c hc]; omega
    · obtain ⟨y1, y2, -⟩ := e5 c hc h0
      have := hBB k c (Nat.le_refl _) hc
      have := (g2 c hc).2 hB0.1
      omega
theorem c_insert {g : pG} {M : pMem} {u v o sl cf rc : Nat → Int} {w : Nat → Nat → Int} {B : Int} {k : Nat} (hW : pW M) {ns : Nat} (hns : mI M 4 6 = (ns : Int)) (hn16 : ns ≤ 16) (hk : k < 8) (hw : ∀ b c, b ≤ k → c ≤ ns → mL M 8 (b * 17 + c) = w b c)
    (hB : ∀ b c, b ≤ k → c ≤ ns → -B ≤ w b c) (hBB : ∀ b c, b ≤ k → c ≤ ns → w b c ≤ B) (hB0 : 0 ≤ B ∧ 4 * B < 1152921504606846976) (hI : huI k ns w u v o) (hu0 : u k = 0) :
    pCn g 2 0 0 yX1_insert cX1_insert 8 (some .long) SH SH (LM M u v o sl cf rc) [.inr (.inr 4), .inl (k : Int)] (fun r M' => ∃ (z : Int) (u' v' o' sl' cf' rc' : Nat → Int), r = some (.inr (.inl z)) ∧ M' = LM M u' v' o' sl' cf' rc' ∧ huI (k + 1) ns w u' v' o' ∧ sg u' (k + 1) + sg v' ns = sg u k + sg v ns + z ∧ ∀ b, k < b → u' b = u b) := by
  refine pCn_intro mt_X1_insert (fun X C => ?_)
  have loop : ∀ s : Nat × Int × Int × (Nat → Int) × (Nat → Int) × (Nat → Int) × (Nat → Int) × (Nat → Int) × Option pV,
      (s.1 ≤ ns ∧ (∃ rk : Nat → Nat, huS k ns s.1 w s.2.2.2.1 s.2.2.2.2.1 o s.2.2.2.2.2.1 s.2.2.2.2.2.2.1 s.2.2.2.2.2.2.2.1 s.2.2.1 rk (sg u k + sg v ns + s.2.1) B) ∧ ∀ b, k < b → s.2.2.2.1 b = u b) →
      pE g 8 X (pMQ g SH (fun r M' => ∃ (z : Int) (u' v' o' sl' cf' rc' : Nat → Int), r = some (.inr (.inl z)) ∧ M' = LM M u' v' o' sl' cf' rc' ∧ huI (k + 1) ns w u' v' o' ∧ sg u' (k + 1) + sg v' ns = sg u k + sg v ns + z ∧ ∀ b, k < b → u' b = u b) X 0 0) SH (LM M s.2.2.2.1 s.2.2.2.2.1 o s.2.2.2.2.2.1 s.2.2.2.2.2.2.1 s.2.2.2.2.2.2.2.1) 0 0 43 [some (.inr (.inr 4)), some (.inl (k : Int)), some (.inr (.inl s.2.1)), none, some (.inl s.2.2.1), some (.inl (mvr k o s.2.2.1 : Int)), some (.inl (s.1 : Int)), s.2.2.2.2.2.2.2.2] [] := by
    refine p_loop _ _ (fun s => ns + 1 - s.1) ?_
    rintro ⟨t, ad, frm, u1, v1, s1, f1, r1, x7⟩ ⟨ht, ⟨rk, hS⟩, hub⟩ ih
    dsimp only at ht hS hub ih ⊢
    obtain ⟨hm1, hm2, hm3⟩ := huS_rng hB hBB hB0 hS
    have hR := hS.2.1
    have hI1 := hS.1
    have hfr : -2147483648 ≤ frm ∧ frm < 2147483648 := by
      rcases hS.2.2.1 with ⟨_, e1, _⟩ | ⟨_, ⟨f, e1, e2, e3⟩, _⟩ <;> omega
    have hro : ∀ c, c < ns → r1 c = 1 → ∃ b : Nat, b < k ∧ o c = (b : Int) := fun c hc hr => by
      obtain ⟨b, b1, b2, -, -⟩ := huI_o hI1 hc (hR.2.2.1 c hc hr)
      exact ⟨b, b1, b2⟩
    refine e_iload C dX1_insert_43 rfl ?_
    refine e_aload_n C dX1_insert_45 rfl ?_
    refine e_getI C f_X1_30 sh_4 dX1_insert_46 ?_
    rw [LM_I _ (by decide), hns]
    refine e_icmp_gt C (tgt := 131) dX1_insert_49 (by decide) (by omega) (by omega) (fun h_49 => by exfalso; omega) (fun h_49 => ?_)
    refine e_aload_n C dX1_insert_52 rfl ?_
    refine e_iload C dX1_insert_53 rfl ?_
    refine e_iload C dX1_insert_55 rfl ?_
    refine e_callV C (c_reach (w := w) (k := mvr k o frm) (frm := frm) hW hns hn16 (by omega) (fun c hc => hw _ c hm1 hc) hR.1 hR.2.1 hm2 (fun c hc => hm3 c hc)) mt_X1_reach s_X1_144 dX1_insert_57 1 sh_4 rfl (fun r M1 hq => ?_)
    obtain ⟨q, s2, f2, rfl, rfl, hrd⟩ := hq
    dsimp only [Option.toList_some, List.singleton_append]
    have hq1 := hrd.2.2.1
    have hq2 := hrd.2.2.2.1
    refine e_istore C dX1_insert_60 ?_
    refine e_lload_n C dX1_insert_62 rfl ?_
    refine e_aload_n C dX1_insert_63 rfl ?_
    refine e_getR C f_X1_64 sh_4 (hW 4 16 12 rfl) dX1_insert_64 ?_
    refine e_iload C dX1_insert_67 rfl ?_
    refine e_laload C dX1_insert_69 sh_12 _ rfl (by omega) ?_
    rw [LM_sl]
    refine e_ladd C dX1_insert_70 ?_
    refine e_lstore_n C dX1_insert_71 ?_
    refine e_aload_n C dX1_insert_72 rfl ?_
    refine e_iload_n C dX1_insert_73 rfl ?_
    refine e_aload_n C dX1_insert_74 rfl ?_
    refine e_getR C f_X1_64 sh_4 (hW 4 16 12 rfl) dX1_insert_75 ?_
    refine e_iload C dX1_insert_78 rfl ?_
    refine e_laload C dX1_insert_80 sh_12 _ rfl (by omega) ?_
    rw [LM_sl]
    refine e_callV C (c_raise hW hns hn16 hk hR.1 hR.2.1 hro (fun c e hc he hr _ heq => hI1.2.2.2.2.2.2.1 c e hc he (hR.2.2.1 c hc hr) heq)) mt_X1_raisePrices s_X1_147 dX1_insert_81 1 sh_4 rfl (fun r3 M3 hq3 => ?_)
    obtain ⟨u3, v3, s3, rfl, rfl, hrs, hub3⟩ := hq3
    obtain ⟨hT, hpos⟩ := hu_step hB hBB hB0 hS hrd hrs
    have hoq : o q = -1 ∨ ∃ b : Nat, b < k ∧ o q = (b : Int) := by
      by_cases e : o q = -1
      · exact Or.inl e
      · right
        have hqn : q < ns := by
          rcases Nat.lt_or_ge q ns with z | z
          · exact z
          · have : q = ns := by omega
            rw [this] at e; exact absurd hI1.2.2.2.1 e
        obtain ⟨b, b1, b2, -, -⟩ := huI_o hI1 hqn e
        exact ⟨b, b1, b2⟩
    dsimp only [Option.toList_none, List.nil_append]
    refine e_aload_n C dX1_insert_84 rfl ?_
    refine e_getR C f_X1_61 sh_4 (hW 4 15 11 rfl) dX1_insert_85 ?_
    refine e_iload C dX1_insert_88 rfl ?_
    refine e_iaload C dX1_insert_90 sh_11 _ rfl (by omega) ?_
    rw [LM_o]
    refine e_iconst C dX1_insert_91 ?_
    refine e_icmp_ne C (tgt := 104) dX1_insert_92 (by decide) (by rcases hoq with z | ⟨b, b1, b2⟩ <;> omega) (by omega) (fun h_92 => ?_) (fun h_92 => ?_)
    · have hnx := hu_next hT h_92
      obtain ⟨b, b1, b2⟩ : ∃ b : Nat, b < k ∧ o q = (b : Int) := by
        rcases hoq with z | z
        · exact absurd z h_92
        · exact z
      refine e_aload_n C dX1_insert_104 rfl ?_
      refine e_getR C f_X1_70 sh_4 (hW 4 18 14 rfl) dX1_insert_105 ?_
      refine e_iload C dX1_insert_108 rfl ?_
      refine e_iconst C dX1_insert_110 ?_
      refine e_bastore C dX1_insert_111 sh_14 _ rfl (by omega) (Or.inr rfl) ?_
      rw [LM_strc]
      refine e_iload C dX1_insert_112 rfl ?_
      refine e_istore C dX1_insert_114 ?_
      refine e_aload_n C dX1_insert_116 rfl ?_
      refine e_getR C f_X1_61 sh_4 (hW 4 15 11 rfl) dX1_insert_117 ?_
      refine e_iload C dX1_insert_120 rfl ?_
      refine e_iaload C dX1_insert_122 sh_11 _ rfl (by omega) ?_
      rw [LM_o]
      refine e_istore C dX1_insert_123 ?_
      refine e_iinc C dX1_insert_125 rfl ?_
      refine e_goto C (tgt := 43) dX1_insert_128 (by decide) ?_
      have hmv : o q = (mvr k o (q : Int) : Int) := by unfold mvr; rw [if_neg (by omega), Int.toNat_natCast, b2]; rfl
      rw [hmv]
      refine ih (t + 1, ad + s2 q, (q : Int), u3, v3, s3, f2, up r1 q 1, _) ⟨?_, ⟨_, by rw [Int.add_assoc] at hnx; exact hnx⟩, fun b hb => (hub3 b hb).trans (hub b hb)⟩ (by dsimp only; omega)
      have h1 := sg_ub (f := up r1 q 1) (b := 1) (n := ns) (fun i hi => by rcases hnx.2.1.1 i (by omega) with z | z <;> omega)
      have h2 := hnx.2.1.2.2.2.1
      dsimp only; omega
    · refine e_aload_n C dX1_insert_95 rfl ?_
      refine e_iload_n C dX1_insert_96 rfl ?_
      refine e_iload C dX1_insert_97 rfl ?_
      obtain ⟨hP, htn⟩ := huP_start hT (by omega)
      refine e_callV C (c_handOn hW hns hn16 hk hP htn) mt_X1_handOn s_X1_151 dX1_insert_99 1 sh_4 rfl (fun r4 M4 hq4 => ?_)
      obtain ⟨o4, rfl, rfl, hI4⟩ := hq4
      dsimp only [Option.toList_none, List.nil_append]
      refine e_lload_n C dX1_insert_102 rfl ?_
      exact e_lreturn C dX1_insert_103 ⟨ad + s2 q, u3, v3, o4, s3, f2, r1, rfl, rfl, hI4, by have := hT.2.2.2.2.2.2.2; omega, fun b hb => (hub3 b hb).trans (hub b hb)⟩
  have clr : ∀ (i : Nat) (s : Unit), i ≤ ns + 1 → True → pE g 8 X (pMQ g SH (fun r M' => ∃ (z : Int) (u' v' o' sl' cf' rc' : Nat → Int), r = some (.inr (.inl z)) ∧ M' = LM M u' v' o' sl' cf' rc' ∧ huI (k + 1) ns w u' v' o' ∧ sg u' (k + 1) + sg v' ns = sg u k + sg v ns + z ∧ ∀ b, k < b → u' b = u b) X 0 0) SH (LM M u v o (fil sl 1152921504606846976 i) cf (fil rc 0 i)) 0 0 2 [some (.inr (.inr 4)), some (.inl (k : Int)), some (.inl (i : Int)), none, none, none, none, none] [] := by
    refine p_for (ns + 1) _ _ ?_ ?_
    · intro s _
      refine e_iload_n C dX1_insert_2 rfl ?_
      refine e_aload_n C dX1_insert_3 rfl ?_
      refine e_getI C f_X1_30 sh_4 dX1_insert_4 ?_
      rw [LM_I _ (by decide), hns]
      refine e_icmp_gt C (tgt := 32) dX1_insert_7 (by decide) (by omega) (by omega) (fun h_7 => ?_) (fun h_7 => by exfalso; omega)
      refine e_lconst C 0 dX1_insert_32 ?_
      refine e_lstore_n C dX1_insert_33 ?_
      refine e_iconst C dX1_insert_34 ?_
      refine e_istore C dX1_insert_35 ?_
      refine e_iload_n C dX1_insert_37 rfl ?_
      refine e_istore C dX1_insert_38 ?_
      refine e_iconst C dX1_insert_40 ?_
      refine e_istore C dX1_insert_41 ?_
      refine loop (0, 0, -1, u, v, fil sl 1152921504606846976 (ns + 1), cf, fil rc 0 (ns + 1), none) ⟨Nat.zero_le _, ⟨fun _ => 0, hI, ⟨fun c hc => Or.inl (fil_i (by omega)), fil_i (by omega), fun c hc h => ?_, ?_, fun c hc h => ?_, fun c hc h => ?_, fun c hc h => ?_⟩, Or.inl ⟨rfl, rfl, hu0, fun c hc => fil_i (by omega)⟩, ?_⟩, fun b _ => rfl⟩
      · dsimp only at h; rw [fil_i (by omega)] at h; omega
      · dsimp only
        rw [sg_congr (f := fil rc 0 (ns + 1)) (h := fun _ => 0) (fun c hc => fil_i (by omega))]
        have h2 := sg_ub (f := fun _ => (0 : Int)) (b := 0) (n := ns) (fun _ _ => Int.le_refl _)
        have h3 := sg_lb (f := fun _ => (0 : Int)) (b := 0) (n := ns) (fun _ _ => Int.le_refl _)
        omega
      · dsimp only at h; rw [fil_i (by omega)] at h; omega
      · dsimp only at h; rw [fil_i (by omega)] at h; omega
      · dsimp only at h; rw [fil_i (by omega)] at h; omega
      · dsimp only; simp only [sg]; omega
    · intro i s hi _ ih
      refine e_iload_n C dX1_insert_2 rfl ?_
      refine e_aload_n C dX1_insert_3 rfl ?_
      refine e_getI C f_X1_30 sh_4 dX1_insert_4 ?_
      rw [LM_I _ (by decide), hns]
      refine e_icmp_gt C (tgt := 32) dX1_insert_7 (by decide) (by omega) (by omega) (fun h_7 => by exfalso; omega) (fun h_7 => ?_)
      refine e_aload_n C dX1_insert_10 rfl ?_
      refine e_getR C f_X1_64 sh_4 (hW 4 16 12 rfl) dX1_insert_11 ?_
      refine e_iload_n C dX1_insert_14 rfl ?_
      refine e_ldc2 C (1152921504606846976) k_X1_89 dX1_insert_15 ?_
      refine e_lastore C dX1_insert_18 sh_12 _ rfl (by omega) ?_
      rw [LM_stsl, fil_s]
      refine e_aload_n C dX1_insert_19 rfl ?_
      refine e_getR C f_X1_70 sh_4 (hW 4 18 14 rfl) dX1_insert_20 ?_
      refine e_iload_n C dX1_insert_23 rfl ?_
      refine e_iconst C dX1_insert_24 ?_
      refine e_bastore C dX1_insert_25 sh_14 _ rfl (by omega) (Or.inl rfl) ?_
      rw [LM_strc, fil_s]
      refine e_iinc C dX1_insert_26 rfl ?_
      refine e_goto C (tgt := 2) dX1_insert_29 (by decide) ?_
      exact ih () trivial
  show pE g 8 X _ SH (LM M u v o sl cf rc) 0 0 0 [some (.inr (.inr 4)), some (.inl (k : Int)), none, none, none, none, none, none] []
  refine e_iconst C dX1_insert_0 ?_
  refine e_istore_n C dX1_insert_1 ?_
  have hz := clr 0 () (by omega) trivial
  rw [fil_0, fil_0] at hz
  exact hz
