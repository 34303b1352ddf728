def rsI (k ns : Nat) (u v o sl rc : Nat → Int) (x : Int) (n : Nat) (u1 v1 s1 : Nat → Int) : Prop :=
  u1 k = u k + x ∧ (∀ c, c < ns → c < n → rc c = 1 → u1 (o c).toNat = u (o c).toNat + x) ∧ (∀ b, b ≠ k → (∀ c, c < ns → c < n → rc c = 1 → (o c).toNat ≠ b) → u1 b = u b) ∧
  (∀ c, c ≤ ns → c < n → (rc c = 1 → v1 c = v c - x ∧ s1 c = sl c) ∧ (rc c = 0 → v1 c = v c ∧ s1 c = sl c - x)) ∧ (∀ c, c ≤ ns → n ≤ c → v1 c = v c ∧ s1 c = sl c)
theorem rsI_0 {k ns n : Nat} {u v o sl rc u1 v1 s1 : Nat → Int} {x : Int} (h : rsI k ns u v o sl rc x n u1 v1 s1) (hn : n ≤ ns) (h0 : rc n = 0) : rsI k ns u v o sl rc x (n + 1) u1 v1 (up s1 n (s1 n - x)) := by
  obtain ⟨h1, h2, h3, h4, h5⟩ := h
  have ne : ∀ c, rc c = 1 → c ≠ n := fun c hc e => by rw [e] at hc; omega
  refine ⟨h1, fun c hc hl hr => h2 c hc (by have := ne c hr; omega) hr, fun b hb hh => h3 b hb (fun c hc hl hr => hh c hc (by omega) hr), fun c hc hl => ?_, fun c hc hl => ?_⟩
  · by_cases e : c = n
    · subst e
      obtain ⟨e1, e2⟩ := h5 c hc (Nat.le_refl _)
      exact ⟨fun z => by omega, fun _ => ⟨e1, by rw [up_s, e2]⟩⟩
    · rw [up_n e]; exact h4 c hc (by omega)
  · rw [up_n (by omega)]; exact h5 c hc (by omega)
theorem rsI_1 {k ns n : Nat} {u v o sl rc u1 v1 s1 : Nat → Int} {x : Int} (h : rsI k ns u v o sl rc x n u1 v1 s1) (hn : n < ns) (h0 : rc n = 1) (ho : ∀ c, c < ns → rc c = 1 → ∃ b : Nat, b < k ∧ o c = (b : Int)) (hi : ∀ c e, c < ns → e < ns → rc c = 1 → rc e = 1 → o c = o e → c = e) :
    rsI k ns u v o sl rc x (n + 1) (up u1 (o n).toNat (u1 (o n).toNat + x)) (up v1 n (v1 n - x)) s1 := by
  obtain ⟨h1, h2, h3, h4, h5⟩ := h
  obtain ⟨b, b1, b2⟩ := ho n hn h0
  have eb : (o n).toNat = b := by rw [b2]; rfl
  have hub : u1 b = u b := h3 b (by omega) (fun c hc hl hr e => by
    obtain ⟨b', c1, c2⟩ := ho c hc hr
    have : (o c).toNat = b' := by rw [c2]; rfl
    have := hi c n hc hn hr h0 (by omega)
    omega)
  refine ⟨?_, fun c hc hl hr => ?_, fun e he hh => ?_, fun c hc hl => ?_, fun c hc hl => ?_⟩
  · rw [up_n (by omega)]; exact h1
  · by_cases e : c = n
    · subst e; rw [up_s, eb, hub]
    · have hne : (o c).toNat ≠ (o n).toNat := fun q => by
        obtain ⟨b', c1, c2⟩ := ho c hc hr
        have : (o c).toNat = b' := by rw [c2]; rfl
        exact e (hi c n hc hn hr h0 (by omega))
      rw [up_n hne]; exact h2 c hc (by omega) hr
  · have hne : e ≠ (o n).toNat := fun q => hh n hn (by omega) h0 q.symm
    rw [up_n hne]; exact h3 e he (fun c hc hl hr => hh c hc (by omega) hr)
  · by_cases e : c = n
    · subst e
      obtain ⟨e1, e2⟩ := h5 c hc (Nat.le_refl _)
      exact ⟨fun _ => ⟨by rw [up_s, e1], e2⟩, fun z => by omega⟩
    · rw [up_n e]; exact h4 c hc (by omega)
  · rw [up_n (by omega)]; exact h5 c hc (by omega)
theorem c_raise {g : pG} {M : pMem} {u v o sl cf rc : Nat → Int} {x : Int} {k : Nat} (hW : pW M) {ns : Nat} (hns : mI M 4 6 = (ns : Int)) (hn16 : ns ≤ 16) (hk : k < 8) (hrc : ∀ c, c ≤ ns → rc c = 0 ∨ rc c = 1) (hrn : rc ns = 0) (ho : ∀ c, c < ns → rc c = 1 → ∃ b : Nat, b < k ∧ o c = (b : Int)) (hi : ∀ c e, c < ns → e < ns → rc c = 1 → rc e = 1 → o c = o e → c = e) :
    pCn g 1 0 0 yX1_raisePrices cX1_raisePrices 5 none SH SH (LM M u v o sl cf rc) [.inr (.inr 4), .inl (k : Int), .inr (.inl x)] (fun r M' => ∃ u' v' sl' : Nat → Int, r = none ∧ M' = LM M u' v' o sl' cf rc ∧ rsd k ns u v o sl rc u' v' sl' x ∧ ∀ b, k < b → u' b = u b) := by
  refine pCn_intro mt_X1_raisePrices (fun X C => ?_)
  have loop : ∀ (i : Nat) (s : (Nat → Int) × (Nat → Int) × (Nat → Int)), i ≤ ns + 1 → rsI k ns u v o sl rc x i s.1 s.2.1 s.2.2 → pE g 5 X (pMQ g SH (fun r M' => ∃ u' v' sl' : Nat → Int, r = none ∧ M' = LM M u' v' o sl' cf rc ∧ rsd k ns u v o sl rc u' v' sl' x ∧ ∀ b, k < b → u' b = u b) X 0 0) SH (LM M s.1 s.2.1 o s.2.2 cf rc) 0 0 13 [some (.inr (.inr 4)), some (.inl (k : Int)), some (.inr (.inl x)), none, some (.inl (i : Int))] [] := by
    refine p_for (ns + 1) _ _ ?_ ?_
    · rintro ⟨u1, v1, s1⟩ hI
      dsimp only at hI ⊢
      refine e_iload C dX1_raisePrices_13 rfl ?_
      refine e_aload_n C dX1_raisePrices_15 rfl ?_
      refine e_getI C f_X1_30 sh_4 dX1_raisePrices_16 ?_
      rw [LM_I _ (by decide), hns]
      refine e_icmp_gt C (tgt := 90) dX1_raisePrices_19 (by decide) (by omega) (by omega) (fun h_19 => ?_) (fun h_19 => by exfalso; omega)
      exact e_return C dX1_raisePrices_90 ⟨u1, v1, s1, rfl, rfl, ⟨hI.1, fun c hc hr => hI.2.1 c hc (by omega) hr, fun b hb hh => hI.2.2.1 b (by omega) (fun c hc _ hr => hh c hc hr), fun c hc hr => (hI.2.2.2.1 c hc (by omega)).1 hr, fun c hc hr => (hI.2.2.2.1 c hc (by omega)).2 hr⟩, fun b hb => hI.2.2.1 b (by omega) (fun c hc _ hr e => by obtain ⟨b', c1, c2⟩ := ho c hc hr; rw [c2] at e; simp at e; omega)⟩
    · rintro i ⟨u1, v1, s1⟩ hi1 hI ih
      dsimp only at hI ⊢
      rcases hrc i (by omega) with h0 | h1
      · refine e_iload C dX1_raisePrices_13 rfl ?_
        refine e_aload_n C dX1_raisePrices_15 rfl ?_
        refine e_getI C f_X1_30 sh_4 dX1_raisePrices_16 ?_
        rw [LM_I _ (by decide), hns]
        refine e_icmp_gt C (tgt := 90) dX1_raisePrices_19 (by decide) (by omega) (by omega) (fun h_19 => by exfalso; omega) (fun h_19 => ?_)
        refine e_aload_n C dX1_raisePrices_22 rfl ?_
        refine e_getR C f_X1_70 sh_4 (hW 4 18 14 rfl) dX1_raisePrices_23 ?_
        refine e_iload C dX1_raisePrices_26 rfl ?_
        refine e_baload C dX1_raisePrices_28 sh_14 _ rfl (by omega) ?_
        rw [LM_rc, h0]
        refine e_if_eq C (tgt := 73) dX1_raisePrices_29 (by decide) (by omega) (fun h_29 => ?_) (fun h_29 => by exact absurd rfl h_29)
        refine e_aload_n C dX1_raisePrices_73 rfl ?_
        refine e_getR C f_X1_64 sh_4 (hW 4 16 12 rfl) dX1_raisePrices_74 ?_
        refine e_iload C dX1_raisePrices_77 rfl ?_
        refine e_dup2 C dX1_raisePrices_79 ?_
        refine e_laload C dX1_raisePrices_80 sh_12 _ rfl (by omega) ?_
        rw [LM_sl]
        refine e_lload_n C dX1_raisePrices_81 rfl ?_
        refine e_lsub C dX1_raisePrices_82 ?_
        refine e_lastore C dX1_raisePrices_83 sh_12 _ rfl (by omega) ?_
        rw [LM_stsl]
        refine e_iinc C dX1_raisePrices_84 rfl ?_
        refine e_goto C (tgt := 13) dX1_raisePrices_87 (by decide) ?_
        exact ih (u1, v1, up s1 i (s1 i - x)) (rsI_0 hI (by omega) h0)
      · have hin : i < ns := by
          rcases Nat.lt_or_ge i ns with z | z
          · exact z
          · have : i = ns := by omega
            rw [this] at h1; omega
        obtain ⟨b, b1, b2⟩ := ho i hin h1
        have eb : (o i).toNat = b := by rw [b2]; rfl
        have hst := rsI_1 hI hin h1 ho hi
        rw [eb] at hst
        refine e_iload C dX1_raisePrices_13 rfl ?_
        refine e_aload_n C dX1_raisePrices_15 rfl ?_
        refine e_getI C f_X1_30 sh_4 dX1_raisePrices_16 ?_
        rw [LM_I _ (by decide), hns]
        refine e_icmp_gt C (tgt := 90) dX1_raisePrices_19 (by decide) (by omega) (by omega) (fun h_19 => by exfalso; omega) (fun h_19 => ?_)
        refine e_aload_n C dX1_raisePrices_22 rfl ?_
        refine e_getR C f_X1_70 sh_4 (hW 4 18 14 rfl) dX1_raisePrices_23 ?_
        refine e_iload C dX1_raisePrices_26 rfl ?_
        refine e_baload C dX1_raisePrices_28 sh_14 _ rfl (by omega) ?_
        rw [LM_rc, h1]
        refine e_if_eq C (tgt := 73) dX1_raisePrices_29 (by decide) (by omega) (fun h_29 => by exact absurd h_29 (by decide)) (fun h_29 => ?_)
        refine e_aload_n C dX1_raisePrices_32 rfl ?_
        refine e_getR C f_X1_61 sh_4 (hW 4 15 11 rfl) dX1_raisePrices_33 ?_
        refine e_iload C dX1_raisePrices_36 rfl ?_
        refine e_iaload C dX1_raisePrices_38 sh_11 _ rfl (by omega) ?_
        rw [LM_o, b2]
        refine e_iconst C dX1_raisePrices_39 ?_
        refine e_icmp_eq C (tgt := 73) dX1_raisePrices_40 (by decide) (by omega) (by omega) (fun h_40 => by exfalso; omega) (fun h_40 => ?_)
        refine e_aload_n C dX1_raisePrices_43 rfl ?_
        refine e_getR C f_X1_55 sh_4 (hW 4 13 9 rfl) dX1_raisePrices_44 ?_
        refine e_aload_n C dX1_raisePrices_47 rfl ?_
        refine e_getR C f_X1_61 sh_4 (hW 4 15 11 rfl) dX1_raisePrices_48 ?_
        refine e_iload C dX1_raisePrices_51 rfl ?_
        refine e_iaload C dX1_raisePrices_53 sh_11 _ rfl (by omega) ?_
        rw [LM_o, b2]
        refine e_dup2 C dX1_raisePrices_54 ?_
        refine e_laload C dX1_raisePrices_55 sh_9 _ rfl (by omega) ?_
        rw [LM_u]
        refine e_lload_n C dX1_raisePrices_56 rfl ?_
        refine e_ladd C dX1_raisePrices_57 ?_
        refine e_lastore C dX1_raisePrices_58 sh_9 _ rfl (by omega) ?_
        rw [LM_stu]
        refine e_aload_n C dX1_raisePrices_59 rfl ?_
        refine e_getR C f_X1_58 sh_4 (hW 4 14 10 rfl) dX1_raisePrices_60 ?_
        refine e_iload C dX1_raisePrices_63 rfl ?_
        refine e_dup2 C dX1_raisePrices_65 ?_
        refine e_laload C dX1_raisePrices_66 sh_10 _ rfl (by omega) ?_
        rw [LM_v]
        refine e_lload_n C dX1_raisePrices_67 rfl ?_
        refine e_lsub C dX1_raisePrices_68 ?_
        refine e_lastore C dX1_raisePrices_69 sh_10 _ rfl (by omega) ?_
        rw [LM_stv]
        refine e_goto C (tgt := 84) dX1_raisePrices_70 (by decide) ?_
        refine e_iinc C dX1_raisePrices_84 rfl ?_
        refine e_goto C (tgt := 13) dX1_raisePrices_87 (by decide) ?_
        exact ih (up u1 b (u1 b + x), up v1 i (v1 i - x), s1) hst
  show pE g 5 X _ SH (LM M u v o sl cf rc) 0 0 0 [some (.inr (.inr 4)), some (.inl (k : Int)), some (.inr (.inl x)), none, none] []
  refine e_aload_n C dX1_raisePrices_0 rfl ?_
  refine e_getR C f_X1_55 sh_4 (hW 4 13 9 rfl) dX1_raisePrices_1 ?_
  refine e_iload_n C dX1_raisePrices_4 rfl ?_
  refine e_dup2 C dX1_raisePrices_5 ?_
  refine e_laload C dX1_raisePrices_6 sh_9 _ rfl (by omega) ?_
  rw [LM_u]
  refine e_lload_n C dX1_raisePrices_7 rfl ?_
  refine e_ladd C dX1_raisePrices_8 ?_
  refine e_lastore C dX1_raisePrices_9 sh_9 _ rfl (by omega) ?_
  rw [LM_stu]
  refine e_iconst C dX1_raisePrices_10 ?_
  refine e_istore C dX1_raisePrices_11 ?_
  exact loop 0 (up u k (u k + x), v, sl) (by omega) ⟨up_s, fun c _ h => absurd h (Nat.not_lt_zero c), fun b hb _ => up_n hb, fun c _ h => absurd h (Nat.not_lt_zero c), fun c _ _ => ⟨rfl, rfl⟩⟩
theorem c_handOn {g : pG} {M : pMem} {u v o sl cf rc : Nat → Int} {w : Nat → Nat → Int} {rk : Nat → Nat} {t q : Nat} {k : Nat} (hW : pW M) {ns : Nat} (hns : mI M 4 6 = (ns : Int)) (hn16 : ns ≤ 16) (hk : k < 8) (hP : huP k ns w u v o cf rc rk t q o) (ht : t ≤ ns) :
    pCn g 1 0 0 yX1_handOn cX1_handOn 6 none SH SH (LM M u v o sl cf rc) [.inr (.inr 4), .inl (k : Int), .inl (q : Int)] (fun r M' => ∃ o' : Nat → Int, r = none ∧ M' = LM M u v o' sl cf rc ∧ huI (k + 1) ns w u v o') := by
  refine pCn_intro mt_X1_handOn (fun X C => ?_)
  have loop : ∀ s : Nat × Int × (Nat → Int) × Option pV, ((s.2.1 = -1 ∧ s.1 ≤ ns + 1 ∧ huI (k + 1) ns w u v s.2.2.1) ∨ ∃ c r : Nat, s.2.1 = (c : Int) ∧ huP k ns w u v o cf rc rk r c s.2.2.1 ∧ r + s.1 ≤ t) → pE g 6 X (pMQ g SH (fun r M' => ∃ o' : Nat → Int, r = none ∧ M' = LM M u v o' sl cf rc ∧ huI (k + 1) ns w u v o') X 0 0) SH (LM M u v s.2.2.1 sl cf rc) 0 0 5 [some (.inr (.inr 4)), some (.inl (k : Int)), some (.inl (q : Int)), some (.inl s.2.1), some (.inl (s.1 : Int)), s.2.2.2] [] := by
    refine p_loop _ _ (fun s => ns + 2 - s.1) ?_
    rintro ⟨sp, cz, o1, x5⟩ hI ih
    dsimp only at hI ih ⊢
    rcases hI with ⟨e1, e2, e3⟩ | ⟨c, r, e1, e2, e3⟩
    · subst e1
      refine e_iload C dX1_handOn_5 rfl ?_
      refine e_aload_n C dX1_handOn_7 rfl ?_
      refine e_getI C f_X1_30 sh_4 dX1_handOn_8 ?_
      rw [LM_I _ (by decide), hns]
      refine e_icmp_gt C (tgt := 67) dX1_handOn_11 (by decide) (by omega) (by omega) (fun h_11 => ?_) (fun h_11 => ?_)
      · exact e_return C dX1_handOn_67 ⟨o1, rfl, rfl, e3⟩
      · refine e_iload_n C dX1_handOn_14 rfl ?_
        refine e_iconst C dX1_handOn_15 ?_
        refine e_icmp_eq C (tgt := 67) dX1_handOn_16 (by decide) (by omega) (by omega) (fun h_16 => ?_) (fun h_16 => by exfalso; omega)
        exact e_return C dX1_handOn_67 ⟨o1, rfl, rfl, e3⟩
    · subst e1
      have hcn : c ≤ ns := e2.2.2.2.2.2.2.2.2.1
      rcases huP_step e2 with ⟨f1, f2⟩ | ⟨f, f1, f2, f3, f4, f5⟩
      · rcases Nat.lt_or_ge c ns with hlt | hge
        · refine e_iload C dX1_handOn_5 rfl ?_
          refine e_aload_n C dX1_handOn_7 rfl ?_
          refine e_getI C f_X1_30 sh_4 dX1_handOn_8 ?_
          rw [LM_I _ (by decide), hns]
          refine e_icmp_gt C (tgt := 67) dX1_handOn_11 (by decide) (by omega) (by omega) (fun h_11 => by exfalso; omega) (fun h_11 => ?_)
          refine e_iload_n C dX1_handOn_14 rfl ?_
          refine e_iconst C dX1_handOn_15 ?_
          refine e_icmp_eq C (tgt := 67) dX1_handOn_16 (by decide) (by omega) (by omega) (fun h_16 => by exfalso; omega) (fun h_16 => ?_)
          refine e_aload_n C dX1_handOn_19 rfl ?_
          refine e_getR C f_X1_67 sh_4 (hW 4 17 13 rfl) dX1_handOn_20 ?_
          refine e_iload_n C dX1_handOn_23 rfl ?_
          refine e_iaload C dX1_handOn_24 sh_13 _ rfl (by omega) ?_
          rw [LM_cf, f1]
          refine e_istore C dX1_handOn_25 ?_
          refine e_iload_n C dX1_handOn_27 rfl ?_
          refine e_aload_n C dX1_handOn_28 rfl ?_
          refine e_getI C f_X1_30 sh_4 dX1_handOn_29 ?_
          rw [LM_I _ (by decide), hns]
          refine e_icmp_ge C (tgt := 58) dX1_handOn_32 (by decide) (by omega) (by omega) (fun h_32 => by exfalso; omega) (fun h_32 => ?_)
          refine e_aload_n C dX1_handOn_35 rfl ?_
          refine e_getR C f_X1_61 sh_4 (hW 4 15 11 rfl) dX1_handOn_36 ?_
          refine e_iload_n C dX1_handOn_39 rfl ?_
          refine e_iload C dX1_handOn_40 rfl ?_
          refine e_iconst C dX1_handOn_42 ?_
          refine e_icmp_ne C (tgt := 50) dX1_handOn_43 (by decide) (by omega) (by omega) (fun h_43 => by exfalso; omega) (fun h_43 => ?_)
          refine e_iload_n C dX1_handOn_46 rfl ?_
          refine e_goto C (tgt := 57) dX1_handOn_47 (by decide) ?_
          refine e_iastore C dX1_handOn_57 sh_11 _ rfl (by omega) ?_
          rw [LM_sto]
          refine e_iload C dX1_handOn_58 rfl ?_
          refine e_istore_n C dX1_handOn_60 ?_
          refine e_iinc C dX1_handOn_61 rfl ?_
          refine e_goto C (tgt := 5) dX1_handOn_64 (by decide) ?_
          refine ih (sp + 1, -1, up o1 c (k : Int), _) (Or.inl ⟨rfl, by dsimp only; omega, ?_⟩) (by dsimp only; omega)
          have e5 : hnd k ns c o1 (-1) = up o1 c (k : Int) := by unfold hnd; rw [if_pos hlt, if_pos rfl]
          rw [e5] at f2; exact f2
        · refine e_iload C dX1_handOn_5 rfl ?_
          refine e_aload_n C dX1_handOn_7 rfl ?_
          refine e_getI C f_X1_30 sh_4 dX1_handOn_8 ?_
          rw [LM_I _ (by decide), hns]
          refine e_icmp_gt C (tgt := 67) dX1_handOn_11 (by decide) (by omega) (by omega) (fun h_11 => by exfalso; omega) (fun h_11 => ?_)
          refine e_iload_n C dX1_handOn_14 rfl ?_
          refine e_iconst C dX1_handOn_15 ?_
          refine e_icmp_eq C (tgt := 67) dX1_handOn_16 (by decide) (by omega) (by omega) (fun h_16 => by exfalso; omega) (fun h_16 => ?_)
          refine e_aload_n C dX1_handOn_19 rfl ?_
          refine e_getR C f_X1_67 sh_4 (hW 4 17 13 rfl) dX1_handOn_20 ?_
          refine e_iload_n C dX1_handOn_23 rfl ?_
          refine e_iaload C dX1_handOn_24 sh_13 _ rfl (by omega) ?_
          rw [LM_cf, f1]
          refine e_istore C dX1_handOn_25 ?_
          refine e_iload_n C dX1_handOn_27 rfl ?_
          refine e_aload_n C dX1_handOn_28 rfl ?_
          refine e_getI C f_X1_30 sh_4 dX1_handOn_29 ?_
          rw [LM_I _ (by decide), hns]
          refine e_icmp_ge C (tgt := 58) dX1_handOn_32 (by decide) (by omega) (by omega) (fun h_32 => ?_) (fun h_32 => by exfalso; omega)
          refine e_iload C dX1_handOn_58 rfl ?_
          refine e_istore_n C dX1_handOn_60 ?_
          refine e_iinc C dX1_handOn_61 rfl ?_
          refine e_goto C (tgt := 5) dX1_handOn_64 (by decide) ?_
          refine ih (sp + 1, -1, o1, _) (Or.inl ⟨rfl, by dsimp only; omega, ?_⟩) (by dsimp only; omega)
          have e5 : hnd k ns c o1 (-1) = o1 := by unfold hnd; rw [if_neg (by omega)]
          rw [e5] at f2; exact f2
      · rcases Nat.lt_or_ge c ns with hlt | hge
        · refine e_iload C dX1_handOn_5 rfl ?_
          refine e_aload_n C dX1_handOn_7 rfl ?_
          refine e_getI C f_X1_30 sh_4 dX1_handOn_8 ?_
          rw [LM_I _ (by decide), hns]
          refine e_icmp_gt C (tgt := 67) dX1_handOn_11 (by decide) (by omega) (by omega) (fun h_11 => by exfalso; omega) (fun h_11 => ?_)
          refine e_iload_n C dX1_handOn_14 rfl ?_
          refine e_iconst C dX1_handOn_15 ?_
          refine e_icmp_eq C (tgt := 67) dX1_handOn_16 (by decide) (by omega) (by omega) (fun h_16 => by exfalso; omega) (fun h_16 => ?_)
          refine e_aload_n C dX1_handOn_19 rfl ?_
          refine e_getR C f_X1_67 sh_4 (hW 4 17 13 rfl) dX1_handOn_20 ?_
          refine e_iload_n C dX1_handOn_23 rfl ?_
          refine e_iaload C dX1_handOn_24 sh_13 _ rfl (by omega) ?_
          rw [LM_cf, f1]
          refine e_istore C dX1_handOn_25 ?_
          refine e_iload_n C dX1_handOn_27 rfl ?_
          refine e_aload_n C dX1_handOn_28 rfl ?_
          refine e_getI C f_X1_30 sh_4 dX1_handOn_29 ?_
          rw [LM_I _ (by decide), hns]
          refine e_icmp_ge C (tgt := 58) dX1_handOn_32 (by decide) (by omega) (by omega) (fun h_32 => by exfalso; omega) (fun h_32 => ?_)
          refine e_aload_n C dX1_handOn_35 rfl ?_
          refine e_getR C f_X1_61 sh_4 (hW 4 15 11 rfl) dX1_handOn_36 ?_
          refine e_iload_n C dX1_handOn_39 rfl ?_
          refine e_iload C dX1_handOn_40 rfl ?_
          refine e_iconst C dX1_handOn_42 ?_
          refine e_icmp_ne C (tgt := 50) dX1_handOn_43 (by decide) (by omega) (by omega) (fun h_43 => ?_) (fun h_43 => by exfalso; omega)
          refine e_aload_n C dX1_handOn_50 rfl ?_
          refine e_getR C f_X1_61 sh_4 (hW 4 15 11 rfl) dX1_handOn_51 ?_
          refine e_iload C dX1_handOn_54 rfl ?_
          refine e_iaload C dX1_handOn_56 sh_11 _ rfl (by omega) ?_
          rw [LM_o]
          refine e_iastore C dX1_handOn_57 sh_11 _ rfl (by omega) ?_
          rw [LM_sto]
          refine e_iload C dX1_handOn_58 rfl ?_
          refine e_istore_n C dX1_handOn_60 ?_
          refine e_iinc C dX1_handOn_61 rfl ?_
          refine e_goto C (tgt := 5) dX1_handOn_64 (by decide) ?_
          refine ih (sp + 1, (f : Int), up o1 c (o1 f), _) (Or.inr ⟨f, rk f, rfl, ?_, by dsimp only; omega⟩) (by dsimp only; omega)
          have e5 : hnd k ns c o1 (f : Int) = up o1 c (o1 f) := by unfold hnd; rw [if_pos hlt, if_neg (by omega), Int.toNat_natCast]
          rw [e5] at f5; exact f5
        · refine e_iload C dX1_handOn_5 rfl ?_
          refine e_aload_n C dX1_handOn_7 rfl ?_
          refine e_getI C f_X1_30 sh_4 dX1_handOn_8 ?_
          rw [LM_I _ (by decide), hns]
          refine e_icmp_gt C (tgt := 67) dX1_handOn_11 (by decide) (by omega) (by omega) (fun h_11 => by exfalso; omega) (fun h_11 => ?_)
          refine e_iload_n C dX1_handOn_14 rfl ?_
          refine e_iconst C dX1_handOn_15 ?_
          refine e_icmp_eq C (tgt := 67) dX1_handOn_16 (by decide) (by omega) (by omega) (fun h_16 => by exfalso; omega) (fun h_16 => ?_)
          refine e_aload_n C dX1_handOn_19 rfl ?_
          refine e_getR C f_X1_67 sh_4 (hW 4 17 13 rfl) dX1_handOn_20 ?_
          refine e_iload_n C dX1_handOn_23 rfl ?_
          refine e_iaload C dX1_handOn_24 sh_13 _ rfl (by omega) ?_
          rw [LM_cf, f1]
          refine e_istore C dX1_handOn_25 ?_
          refine e_iload_n C dX1_handOn_27 rfl ?_
          refine e_aload_n C dX1_handOn_28 rfl ?_
          refine e_getI C f_X1_30 sh_4 dX1_handOn_29 ?_
          rw [LM_I _ (by decide), hns]
          refine e_icmp_ge C (tgt := 58) dX1_handOn_32 (by decide) (by omega) (by omega) (fun h_32 => ?_) (fun h_32 => by exfalso; omega)
          refine e_iload C dX1_handOn_58 rfl ?_
          refine e_istore_n C dX1_handOn_60 ?_
          refine e_iinc C dX1_handOn_61 rfl ?_
          refine e_goto C (tgt := 5) dX1_handOn_64 (by decide) ?_
          refine ih (sp + 1, (f : Int), o1, _) (Or.inr ⟨f, rk f, rfl, ?_, by dsimp only; omega⟩) (by dsimp only; omega)
          have e5 : hnd k ns c o1 (f : Int) = o1 := by unfold hnd; rw [if_neg (by omega)]
          rw [e5] at f5; exact f5
  show pE g 6 X _ SH (LM M u v o sl cf rc) 0 0 0 [some (.inr (.inr 4)), some (.inl (k : Int)), some (.inl (q : Int)), none, none, none] []
  refine e_iload_n C dX1_handOn_0 rfl ?_
  refine e_istore_n C dX1_handOn_1 ?_
  refine e_iconst C dX1_handOn_2 ?_
  refine e_istore C dX1_handOn_3 ?_
  exact loop (0, (q : Int), o, none) (Or.inr ⟨q, t, rfl, hP, by dsimp only; omega⟩)
