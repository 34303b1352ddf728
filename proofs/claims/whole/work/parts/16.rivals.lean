theorem bit_or (n j i : Nat) : (n ||| 2 ^ j).testBit i = (n.testBit i || decide (i = j)) := by
  rw [Nat.testBit_or]
  by_cases h : j = i
  · subst h; simp
  · have h2 : ¬ i = j := fun e => h e.symm
    simp [Nat.testBit_two_pow_of_ne h, h2]
theorem bit_1 (n j : Nat) : (n / 2 ^ j &&& 1 = 1) ↔ n.testBit j = true := by
  rw [Nat.and_one_is_mod, Nat.testBit_eq_decide_div_mod_eq]; simp
theorem bit_le (n j : Nat) : n / 2 ^ j &&& 1 ≤ 1 := Nat.and_le_right
theorem stI_st (M : pMem) (a i : Nat) (x z : Int) : stI (stI M a i x) a i z = stI M a i z := by
  unfold stI
  simp only [Prod.mk.injEq, and_true]
  funext b j
  split <;> simp_all
theorem stI_same (M : pMem) (a i : Nat) (x : Int) (h : mI M a i = x) : stI M a i x = M := by
  unfold stI
  have : (fun b j => if b = a ∧ j = i then x else M.1 b j) = M.1 := by
    funext b j
    split
    · next e => rw [e.1, e.2]; exact h.symm
    · rfl
  rw [this]
theorem c_clearPrices {g : pG} {M : pMem} {u v o sl cf rc : Nat → Int} (hW : pW M) {ns nb : Nat} (hns : mI M 4 6 = (ns : Int)) (hn16 : ns ≤ 16) (hnb : mI M 4 5 = (nb : Int)) (hn8 : nb ≤ 8) :
    pCn g 1 0 0 yX1_clearPrices cX1_clearPrices 2 none SH SH (LM M u v o sl cf rc) [.inr (.inr 4)] (fun r M' => r = none ∧ M' = LM M (fil u 0 nb) (fil v 0 (ns + 1)) (fil o (-1) (ns + 1)) sl cf rc) := by
  refine pCn_intro mt_X1_clearPrices (fun X C => ?_)
  have l2 : ∀ (i : Nat) (s : Unit), i ≤ ns + 1 → True → pE g 2 X (pMQ g SH (fun r M' => r = none ∧ M' = LM M (fil u 0 nb) (fil v 0 (ns + 1)) (fil o (-1) (ns + 1)) sl cf rc) X 0 0) SH (LM M (fil u 0 nb) (fil v 0 i) (fil o (-1) i) sl cf rc) 0 0 25 [some (.inr (.inr 4)), some (.inl (i : Int))] [] := by
    refine p_for (ns + 1) _ _ ?_ ?_
    · intro s _
      refine e_iload_n C dX1_clearPrices_25 rfl ?_
      refine e_aload_n C dX1_clearPrices_26 rfl ?_
      refine e_getI C f_X1_30 sh_4 dX1_clearPrices_27 ?_
      rw [LM_I _ (by decide), hns]
      refine e_icmp_gt C (tgt := 53) dX1_clearPrices_30 (by decide) (by omega) (by omega) (fun h_30 => ?_) (fun h_30 => by exfalso; omega)
      exact e_return C dX1_clearPrices_53 ⟨rfl, rfl⟩
    · intro i s hi _ ih
      refine e_iload_n C dX1_clearPrices_25 rfl ?_
      refine e_aload_n C dX1_clearPrices_26 rfl ?_
      refine e_getI C f_X1_30 sh_4 dX1_clearPrices_27 ?_
      rw [LM_I _ (by decide), hns]
      refine e_icmp_gt C (tgt := 53) dX1_clearPrices_30 (by decide) (by omega) (by omega) (fun h_30 => by exfalso; omega) (fun h_30 => ?_)
      refine e_aload_n C dX1_clearPrices_33 rfl ?_
      refine e_getR C f_X1_58 sh_4 (hW 4 14 10 rfl) dX1_clearPrices_34 ?_
      refine e_iload_n C dX1_clearPrices_37 rfl ?_
      refine e_lconst C 0 dX1_clearPrices_38 ?_
      refine e_lastore C dX1_clearPrices_39 sh_10 _ rfl (by omega) ?_
      rw [LM_stv, fil_s]
      refine e_aload_n C dX1_clearPrices_40 rfl ?_
      refine e_getR C f_X1_61 sh_4 (hW 4 15 11 rfl) dX1_clearPrices_41 ?_
      refine e_iload_n C dX1_clearPrices_44 rfl ?_
      refine e_iconst C dX1_clearPrices_45 ?_
      refine e_iastore C dX1_clearPrices_46 sh_11 _ rfl (by omega) ?_
      rw [LM_sto, fil_s]
      refine e_iinc C dX1_clearPrices_47 rfl ?_
      refine e_goto C (tgt := 25) dX1_clearPrices_50 (by decide) ?_
      exact ih () trivial
  have l1 : ∀ (i : Nat) (s : Unit), i ≤ nb → True → pE g 2 X (pMQ g SH (fun r M' => r = none ∧ M' = LM M (fil u 0 nb) (fil v 0 (ns + 1)) (fil o (-1) (ns + 1)) sl cf rc) X 0 0) SH (LM M (fil u 0 i) v o sl cf rc) 0 0 2 [some (.inr (.inr 4)), some (.inl (i : Int))] [] := by
    refine p_for nb _ _ ?_ ?_
    · intro s _
      refine e_iload_n C dX1_clearPrices_2 rfl ?_
      refine e_aload_n C dX1_clearPrices_3 rfl ?_
      refine e_getI C f_X1_27 sh_4 dX1_clearPrices_4 ?_
      rw [LM_I _ (by decide), hnb]
      refine e_icmp_ge C (tgt := 23) dX1_clearPrices_7 (by decide) (by omega) (by omega) (fun h_7 => ?_) (fun h_7 => by exfalso; omega)
      refine e_iconst C dX1_clearPrices_23 ?_
      refine e_istore_n C dX1_clearPrices_24 ?_
      have hz := l2 0 () (by omega) trivial
      rw [fil_0, fil_0] at hz
      exact hz
    · intro i s hi _ ih
      refine e_iload_n C dX1_clearPrices_2 rfl ?_
      refine e_aload_n C dX1_clearPrices_3 rfl ?_
      refine e_getI C f_X1_27 sh_4 dX1_clearPrices_4 ?_
      rw [LM_I _ (by decide), hnb]
      refine e_icmp_ge C (tgt := 23) dX1_clearPrices_7 (by decide) (by omega) (by omega) (fun h_7 => by exfalso; omega) (fun h_7 => ?_)
      refine e_aload_n C dX1_clearPrices_10 rfl ?_
      refine e_getR C f_X1_55 sh_4 (hW 4 13 9 rfl) dX1_clearPrices_11 ?_
      refine e_iload_n C dX1_clearPrices_14 rfl ?_
      refine e_lconst C 0 dX1_clearPrices_15 ?_
      refine e_lastore C dX1_clearPrices_16 sh_9 _ rfl (by omega) ?_
      rw [LM_stu, fil_s]
      refine e_iinc C dX1_clearPrices_17 rfl ?_
      refine e_goto C (tgt := 2) dX1_clearPrices_20 (by decide) ?_
      exact ih () trivial
  show pE g 2 X _ SH (LM M u v o sl cf rc) 0 0 0 [some (.inr (.inr 4)), none] []
  refine e_iconst C dX1_clearPrices_0 ?_
  refine e_istore_n C dX1_clearPrices_1 ?_
  have hz := l1 0 () (by omega) trivial
  rw [fil_0] at hz
  exact hz
def lwI (ns : Nat) (w : Nat → Nat → Int) (B : Int) (b : Nat) (z : Int) (T : Nat) (f : Int) (χ : Nat → Nat) : Prop :=
  (∀ a, a < b → χ a ≤ ns ∧ ∀ c, c ≤ ns → w a (χ a) ≤ w a c) ∧ z = sg (fun a => w a (χ a)) b ∧ T < 2 ^ 16 ∧ (∀ c, T.testBit c = true ↔ (c < ns ∧ ∃ a, a < b ∧ χ a = c)) ∧ (f = 0 ∨ f = 1) ∧ (f = 0 → vA b ns χ)
theorem lwI_end {ns nb : Nat} {w : Nat → Nat → Int} {B z f : Int} {T : Nat} {χ : Nat → Nat} (hB : ∀ b c, b < nb → c ≤ ns → -B ≤ w b c ∧ w b c ≤ B) (hn8 : nb ≤ 8) (hB0 : 0 ≤ B) (h : lwI ns w B nb z T f χ) : (∀ φ, vA nb ns φ → z ≤ sg (fun b => w b (φ b)) nb) ∧ (f = 0 → isMn nb ns w z) ∧ -(8 * B) ≤ z ∧ z ≤ 8 * B := by
  obtain ⟨h1, h2, h3, h4, h5, h6⟩ := h
  have hl : ∀ φ, vA nb ns φ → z ≤ sg (fun b => w b (φ b)) nb := fun φ hφ => by
    rw [h2]; exact sg_le (fun b hb => (h1 b hb).2 _ (hφ.1 b hb))
  have hu := sg_ub (f := fun a => w a (χ a)) (b := B) (n := nb) (fun i hi => (hB i _ hi (h1 i hi).1).2)
  have hd := sg_lb (f := fun a => w a (χ a)) (b := -B) (n := nb) (fun i hi => (hB i _ hi (h1 i hi).1).1)
  have e1 : (nb : Int) * B ≤ 8 * B := Int.mul_le_mul_of_nonneg_right (by omega) hB0
  have e2 : (nb : Int) * -B = -((nb : Int) * B) := Int.mul_neg _ _
  exact ⟨hl, fun e => ⟨⟨χ, h6 e, h2.symm⟩, hl⟩, by omega, by omega⟩
def upN (χ : Nat → Nat) (b d : Nat) : Nat → Nat := fun i => if i = b then d else χ i
theorem upN_s {χ : Nat → Nat} {b d : Nat} : upN χ b d b = d := by simp [upN]
theorem upN_n {χ : Nat → Nat} {b d i : Nat} (h : i ≠ b) : upN χ b d i = χ i := by simp [upN, h]
theorem lw_step {ns : Nat} {w : Nat → Nat → Int} {b d : Nat} {χ : Nat → Nat} {z : Int} (h1 : ∀ a, a < b → χ a ≤ ns ∧ ∀ c, c ≤ ns → w a (χ a) ≤ w a c) (h2 : z = sg (fun a => w a (χ a)) b) (hd : d ≤ ns) (hm : ∀ e, e ≤ ns → w b d ≤ w b e) :
    (∀ a, a < b + 1 → upN χ b d a ≤ ns ∧ ∀ c, c ≤ ns → w a (upN χ b d a) ≤ w a c) ∧ z + w b d = sg (fun a => w a (upN χ b d a)) (b + 1) := by
  refine ⟨fun a ha => ?_, ?_⟩
  · by_cases e : a = b
    · subst e; rw [upN_s]; exact ⟨hd, hm⟩
    · rw [upN_n e]; exact h1 a (by omega)
  · simp only [sg]
    rw [upN_s, h2, sg_congr (f := fun a => w a (χ a)) (h := fun a => w a (upN χ b d a)) (fun i hi => by rw [upN_n (by omega)])]
theorem lwI_dummy {ns : Nat} {w : Nat → Nat → Int} {B z f : Int} {b T : Nat} {χ : Nat → Nat} (h : lwI ns w B b z T f χ) (hm : ∀ e, e ≤ ns → w b ns ≤ w b e) : lwI ns w B (b + 1) (z + w b ns) T f (upN χ b ns) := by
  obtain ⟨h1, h2, h3, h4, h5, h6⟩ := h
  obtain ⟨k1, k2⟩ := lw_step h1 h2 (Nat.le_refl _) hm
  refine ⟨k1, k2, h3, fun c => ?_, h5, fun e => ⟨fun a ha => (k1 a ha).1, fun a c ha hc hne heq => ?_⟩⟩
  · rw [h4 c]
    constructor
    · rintro ⟨q, a, ha, e⟩
      exact ⟨q, a, by omega, by rw [upN_n (by omega)]; exact e⟩
    · rintro ⟨q, a, ha, e⟩
      rcases Nat.lt_or_ge a b with z | z
      · rw [upN_n (by omega)] at e; exact ⟨q, a, z, e⟩
      · have : a = b := by omega
        subst this; rw [upN_s] at e; omega
  · by_cases e2 : a = b
    · subst e2; exact upN_s
    · rw [upN_n e2] at heq ⊢
      by_cases e3 : c = b
      · subst e3; rw [upN_s] at heq; exact heq
      · rw [upN_n e3] at heq; exact (h6 e).2 a c (by omega) (by omega) hne heq
theorem lwI_spot {ns : Nat} {w : Nat → Nat → Int} {B z f : Int} {b T d : Nat} {χ : Nat → Nat} (hn16 : ns ≤ 16) (h : lwI ns w B b z T f χ) (hd : d < ns) (hm : ∀ e, e ≤ ns → w b d ≤ w b e) {f' : Int} (hf : f' = if f = 1 ∨ T.testBit d = true then 1 else 0) : lwI ns w B (b + 1) (z + w b d) (T ||| 2 ^ d) f' (upN χ b d) := by
  obtain ⟨h1, h2, h3, h4, h5, h6⟩ := h
  obtain ⟨k1, k2⟩ := lw_step h1 h2 (Nat.le_of_lt hd) hm
  refine ⟨k1, k2, Nat.or_lt_two_pow h3 (Nat.pow_lt_pow_right (by decide) (by omega)), fun c => ?_, ?_, fun e => ?_⟩
  · rw [bit_or, Bool.or_eq_true, h4 c, decide_eq_true_eq]
    constructor
    · rintro (⟨q, a, ha, e⟩ | e)
      · exact ⟨q, a, by omega, by rw [upN_n (by omega)]; exact e⟩
      · exact ⟨by omega, b, by omega, by rw [upN_s]; exact e.symm⟩
    · rintro ⟨q, a, ha, e⟩
      rcases Nat.lt_or_ge a b with z | z
      · rw [upN_n (by omega)] at e; exact Or.inl ⟨q, a, z, e⟩
      · have : a = b := by omega
        subst this; rw [upN_s] at e; exact Or.inr e.symm
  · rw [hf]; split
    · exact Or.inr rfl
    · exact Or.inl rfl
  · have hno : ¬ (f = 1 ∨ T.testBit d = true) := fun q => by rw [hf, if_pos q] at e; omega
    have hf0 : f = 0 := by
      rcases h5 with q | q
      · exact q
      · exact absurd (Or.inl q) hno
    have hfree : ∀ a, a < b → χ a ≠ d := fun a ha q => hno (Or.inr ((h4 d).mpr ⟨hd, a, ha, q⟩))
    obtain ⟨v1, v2⟩ := h6 hf0
    refine ⟨fun a ha => (k1 a ha).1, fun a c ha hc hne heq => ?_⟩
    by_cases e2 : a = b
    · subst e2
      rw [upN_s, upN_n (by omega)] at heq
      exact absurd heq.symm (hfree c (by omega))
    · rw [upN_n e2] at heq ⊢
      by_cases e3 : c = b
      · subst e3; rw [upN_s] at heq; exact absurd heq (hfree a (by omega))
      · rw [upN_n e3] at heq; exact v2 a c (by omega) (by omega) hne heq
theorem c_lwr {g : pG} {M : pMem} {w : Nat → Nat → Int} {B : Int} (hW : pW M) {ns nb : Nat} (hns : mI M 4 6 = (ns : Int)) (hn16 : ns ≤ 16) (hnb : mI M 4 5 = (nb : Int)) (hn8 : nb ≤ 8) (hw : ∀ b c, b < nb → c ≤ ns → mL M 8 (b * 17 + c) = w b c) (hB : ∀ b c, b < nb → c ≤ ns → -B ≤ w b c ∧ w b c ≤ B) (hB0 : 0 ≤ B ∧ B < 1000000000000000000) :
    pCn g 1 0 0 yX1_leastWithoutRivals cX1_leastWithoutRivals 8 (some .long) SH SH M [.inr (.inr 4)] (fun r M' => ∃ z f : Int, r = some (.inr (.inl z)) ∧ M' = stI M 4 8 f ∧ (f = 0 ∨ f = 1) ∧ (∀ φ, vA nb ns φ → z ≤ sg (fun b => w b (φ b)) nb) ∧ (f = 0 → isMn nb ns w z) ∧ -(8 * B) ≤ z ∧ z ≤ 8 * B) := by
  refine pCn_intro mt_X1_leastWithoutRivals (fun X C => ?_)
  have hnsf : ∀ f : Int, mI (stI M 4 8 f) 4 6 = (ns : Int) := fun f => by rw [stI_n _ _ (by decide)]; exact hns
  have hnbf : ∀ f : Int, mI (stI M 4 8 f) 4 5 = (nb : Int) := fun f => by rw [stI_n _ _ (by decide)]; exact hnb
  have loop : ∀ (b : Nat) (s : Int × Nat × Int × (Nat → Nat) × Option pV × Option pV × Option pV), b ≤ nb → lwI ns w B b s.1 s.2.1 s.2.2.1 s.2.2.2.1 → pE g 8 X (pMQ g SH (fun r M' => ∃ z f : Int, r = some (.inr (.inl z)) ∧ M' = stI M 4 8 f ∧ (f = 0 ∨ f = 1) ∧ (∀ φ, vA nb ns φ → z ≤ sg (fun b => w b (φ b)) nb) ∧ (f = 0 → isMn nb ns w z) ∧ -(8 * B) ≤ z ∧ z ≤ 8 * B) X 0 0) SH (stI M 4 8 s.2.2.1) 0 0 12 [some (.inr (.inr 4)), some (.inr (.inl s.1)), none, some (.inl (s.2.1 : Int)), some (.inl (b : Int)), s.2.2.2.2.1, s.2.2.2.2.2.1, s.2.2.2.2.2.2] [] := by
    refine p_for nb _ _ ?_ ?_
    · rintro ⟨z, T, f, χ, x5, x6, x7⟩ hI
      dsimp only at hI ⊢
      refine e_iload C dX1_leastWithoutRivals_12 rfl ?_
      refine e_aload_n C dX1_leastWithoutRivals_14 rfl ?_
      refine e_getI C f_X1_27 sh_4 dX1_leastWithoutRivals_15 ?_
      rw [hnbf]
      refine e_icmp_ge C (tgt := 141) dX1_leastWithoutRivals_18 (by decide) (by omega) (by omega) (fun h_18 => ?_) (fun h_18 => by exfalso; omega)
      refine e_lload_n C dX1_leastWithoutRivals_141 rfl ?_
      exact e_lreturn C dX1_leastWithoutRivals_142 ⟨z, f, rfl, rfl, hI.2.2.2.2.1, lwI_end hB hn8 hB0.1 hI⟩
    · rintro b ⟨z, T, f, χ, x5, x6, x7⟩ hb hI ih
      dsimp only at hI ⊢
      have hT := hI.2.2.1
      have hf01 := hI.2.2.2.2.1
      have inner : ∀ (i : Nat) (c : Nat), i ≤ ns → (c ≤ ns ∧ w b c ≤ w b ns ∧ ∀ e, e < i → w b c ≤ w b e) → pE g 8 X (pMQ g SH (fun r M' => ∃ z f : Int, r = some (.inr (.inl z)) ∧ M' = stI M 4 8 f ∧ (f = 0 ∨ f = 1) ∧ (∀ φ, vA nb ns φ → z ≤ sg (fun b => w b (φ b)) nb) ∧ (f = 0 → isMn nb ns w z) ∧ -(8 * B) ≤ z ∧ z ≤ 8 * B) X 0 0) SH (stI M 4 8 f) 0 0 37 [some (.inr (.inr 4)), some (.inr (.inl z)), none, some (.inl (T : Int)), some (.inl (b : Int)), some (.inl ((b : Int) * 17)), some (.inl (c : Int)), some (.inl (i : Int))] [] := by
        refine p_for ns _ _ ?_ ?_
        · rintro c ⟨c1, c2, c3⟩
          have hmin : ∀ e, e ≤ ns → w b c ≤ w b e := fun e he => by
            rcases Nat.lt_or_ge e ns with q | q
            · exact c3 e q
            · have : e = ns := by omega
              rw [this]; exact c2
          refine e_iload C dX1_leastWithoutRivals_37 rfl ?_
          refine e_aload_n C dX1_leastWithoutRivals_39 rfl ?_
          refine e_getI C f_X1_30 sh_4 dX1_leastWithoutRivals_40 ?_
          rw [hnsf]
          refine e_icmp_ge C (tgt := 80) dX1_leastWithoutRivals_43 (by decide) (by omega) (by omega) (fun h_43 => ?_) (fun h_43 => by exfalso; omega)
          refine e_lload_n C dX1_leastWithoutRivals_80 rfl ?_
          refine e_aload_n C dX1_leastWithoutRivals_81 rfl ?_
          refine e_getR C f_X1_52 sh_4 (hW 4 12 8 rfl) dX1_leastWithoutRivals_82 ?_
          refine e_iload C dX1_leastWithoutRivals_85 rfl ?_
          refine e_iload C dX1_leastWithoutRivals_87 rfl ?_
          refine e_iadd C dX1_leastWithoutRivals_89 ?_
          refine e_laload C dX1_leastWithoutRivals_90 sh_8 (b * 17 + c) (by omega) (by omega) ?_
          rw [show mL (stI M 4 8 f) 8 (b * 17 + c) = mL M 8 (b * 17 + c) from rfl, hw b c hb c1]
          refine e_ladd C dX1_leastWithoutRivals_91 ?_
          refine e_lstore_n C dX1_leastWithoutRivals_92 ?_
          refine e_iload C dX1_leastWithoutRivals_93 rfl ?_
          refine e_aload_n C dX1_leastWithoutRivals_95 rfl ?_
          refine e_getI C f_X1_30 sh_4 dX1_leastWithoutRivals_96 ?_
          rw [hnsf]
          refine e_icmp_ge C (tgt := 135) dX1_leastWithoutRivals_99 (by decide) (by omega) (by omega) (fun h_99 => ?_) (fun h_99 => ?_)
          · have e : c = ns := by omega
            subst e
            refine e_iinc C dX1_leastWithoutRivals_135 rfl ?_
            refine e_goto C (tgt := 12) dX1_leastWithoutRivals_138 (by decide) ?_
            exact ih (z + w b c, T, f, _, _, _, _) (lwI_dummy hI hmin)
          · have hcn : c < ns := by omega
            refine e_aload_n C dX1_leastWithoutRivals_102 rfl ?_
            refine e_aload_n C dX1_leastWithoutRivals_103 rfl ?_
            refine e_getI C f_X1_37 sh_4 dX1_leastWithoutRivals_104 ?_
            rw [stI_s]
            by_cases hf1 : f = 1
            · subst hf1
              refine e_if_ne C (tgt := 120) dX1_leastWithoutRivals_107 (by decide) (by omega) (fun _ => ?_) (fun h => absurd (by decide) h)
              have hst := lwI_spot (f' := 1) hn16 hI hcn hmin (by rw [if_pos (Or.inl rfl)])
              refine e_iconst C dX1_leastWithoutRivals_120 ?_
              refine e_goto C (tgt := 125) dX1_leastWithoutRivals_121 (by decide) ?_
              refine e_putZ C f_X1_37 sh_4 (Or.inr rfl) (hd := dX1_leastWithoutRivals_125) (hfin := (fun CC T h => by obtain ⟨h1, -⟩ := h; cases h1; rfl)) ?_
              rw [stI_st]
              refine e_iload_n C dX1_leastWithoutRivals_128 rfl ?_
              refine e_iconst C dX1_leastWithoutRivals_129 ?_
              refine e_iload C dX1_leastWithoutRivals_130 rfl ?_
              refine e_ishl C (a := 1) (b := c) dX1_leastWithoutRivals_132 (by omega) (by rw [Nat.one_mul]; exact Nat.pow_lt_pow_right (by decide) (by omega)) ?_
              refine e_ior C (a := T) (b := 1 * 2 ^ c) dX1_leastWithoutRivals_133 ?_
              rw [Nat.one_mul]
              refine e_istore_n C dX1_leastWithoutRivals_134 ?_
              refine e_iinc C dX1_leastWithoutRivals_135 rfl ?_
              refine e_goto C (tgt := 12) dX1_leastWithoutRivals_138 (by decide) ?_
              exact ih (z + w b c, T ||| 2 ^ c, 1, _, _, _, _) hst
            · have hf0 : f = 0 := by
                rcases hf01 with q | q
                · exact q
                · exact absurd q hf1
              subst hf0
              refine e_if_ne C (tgt := 120) dX1_leastWithoutRivals_107 (by decide) (by omega) (fun h => absurd rfl h) (fun _ => ?_)
              refine e_iload_n C dX1_leastWithoutRivals_110 rfl ?_
              refine e_iload C dX1_leastWithoutRivals_111 rfl ?_
              refine e_ishr C (a := T) (b := c) dX1_leastWithoutRivals_113 (by omega) (by omega) ?_
              refine e_iconst C dX1_leastWithoutRivals_114 ?_
              refine e_iand C (a := T / 2 ^ c) (b := 1) dX1_leastWithoutRivals_115 ?_
              refine e_iconst C dX1_leastWithoutRivals_116 ?_
              have hb1 := bit_le T c
              have hb2 := bit_1 T c
              refine e_icmp_ne C (tgt := 124) dX1_leastWithoutRivals_117 (by decide) (by omega) (by omega) (fun h => ?_) (fun h => ?_)
              · have hst := lwI_spot (f' := 0) hn16 hI hcn hmin (by rw [if_neg]; exact fun q => q.elim (fun q => by omega) (fun q => h (by rw [hb2.mpr q]; rfl)))
                refine e_iconst C dX1_leastWithoutRivals_124 ?_
                refine e_putZ C f_X1_37 sh_4 (Or.inl rfl) (hd := dX1_leastWithoutRivals_125) (hfin := (fun CC T h => by obtain ⟨h1, -⟩ := h; cases h1; rfl)) ?_
                rw [stI_st]
                refine e_iload_n C dX1_leastWithoutRivals_128 rfl ?_
                refine e_iconst C dX1_leastWithoutRivals_129 ?_
                refine e_iload C dX1_leastWithoutRivals_130 rfl ?_
                refine e_ishl C (a := 1) (b := c) dX1_leastWithoutRivals_132 (by omega) (by rw [Nat.one_mul]; exact Nat.pow_lt_pow_right (by decide) (by omega)) ?_
                refine e_ior C (a := T) (b := 1 * 2 ^ c) dX1_leastWithoutRivals_133 ?_
                rw [Nat.one_mul]
                refine e_istore_n C dX1_leastWithoutRivals_134 ?_
                refine e_iinc C dX1_leastWithoutRivals_135 rfl ?_
                refine e_goto C (tgt := 12) dX1_leastWithoutRivals_138 (by decide) ?_
                exact ih (z + w b c, T ||| 2 ^ c, 0, _, _, _, _) hst
              · have hst := lwI_spot (f' := 1) hn16 hI hcn hmin (by rw [if_pos (Or.inr (hb2.mp (by omega)))])
                refine e_iconst C dX1_leastWithoutRivals_120 ?_
                refine e_goto C (tgt := 125) dX1_leastWithoutRivals_121 (by decide) ?_
                refine e_putZ C f_X1_37 sh_4 (Or.inr rfl) (hd := dX1_leastWithoutRivals_125) (hfin := (fun CC T h => by obtain ⟨h1, -⟩ := h; cases h1; rfl)) ?_
                rw [stI_st]
                refine e_iload_n C dX1_leastWithoutRivals_128 rfl ?_
                refine e_iconst C dX1_leastWithoutRivals_129 ?_
                refine e_iload C dX1_leastWithoutRivals_130 rfl ?_
                refine e_ishl C (a := 1) (b := c) dX1_leastWithoutRivals_132 (by omega) (by rw [Nat.one_mul]; exact Nat.pow_lt_pow_right (by decide) (by omega)) ?_
                refine e_ior C (a := T) (b := 1 * 2 ^ c) dX1_leastWithoutRivals_133 ?_
                rw [Nat.one_mul]
                refine e_istore_n C dX1_leastWithoutRivals_134 ?_
                refine e_iinc C dX1_leastWithoutRivals_135 rfl ?_
                refine e_goto C (tgt := 12) dX1_leastWithoutRivals_138 (by decide) ?_
                exact ih (z + w b c, T ||| 2 ^ c, 1, _, _, _, _) hst
        · rintro i c hi ⟨c1, c2, c3⟩ ih2
          have hwi := hB b i hb (by omega)
          have hwc := hB b c hb c1
          refine e_iload C dX1_leastWithoutRivals_37 rfl ?_
          refine e_aload_n C dX1_leastWithoutRivals_39 rfl ?_
          refine e_getI C f_X1_30 sh_4 dX1_leastWithoutRivals_40 ?_
          rw [hnsf]
          refine e_icmp_ge C (tgt := 80) dX1_leastWithoutRivals_43 (by decide) (by omega) (by omega) (fun h_43 => by exfalso; omega) (fun h_43 => ?_)
          refine e_aload_n C dX1_leastWithoutRivals_46 rfl ?_
          refine e_getR C f_X1_52 sh_4 (hW 4 12 8 rfl) dX1_leastWithoutRivals_47 ?_
          refine e_iload C dX1_leastWithoutRivals_50 rfl ?_
          refine e_iload C dX1_leastWithoutRivals_52 rfl ?_
          refine e_iadd C dX1_leastWithoutRivals_54 ?_
          refine e_laload C dX1_leastWithoutRivals_55 sh_8 (b * 17 + i) (by omega) (by omega) ?_
          rw [show mL (stI M 4 8 f) 8 (b * 17 + i) = mL M 8 (b * 17 + i) from rfl, hw b i hb (by omega)]
          refine e_aload_n C dX1_leastWithoutRivals_56 rfl ?_
          refine e_getR C f_X1_52 sh_4 (hW 4 12 8 rfl) dX1_leastWithoutRivals_57 ?_
          refine e_iload C dX1_leastWithoutRivals_60 rfl ?_
          refine e_iload C dX1_leastWithoutRivals_62 rfl ?_
          refine e_iadd C dX1_leastWithoutRivals_64 ?_
          refine e_laload C dX1_leastWithoutRivals_65 sh_8 (b * 17 + c) (by omega) (by omega) ?_
          rw [show mL (stI M 4 8 f) 8 (b * 17 + c) = mL M 8 (b * 17 + c) from rfl, hw b c hb c1]
          refine e_lcmp C dX1_leastWithoutRivals_66 (by omega) (by omega) ?_
          by_cases hlt : w b i < w b c
          · rw [if_neg (by omega), if_neg (by omega)]
            refine e_if_ge C (tgt := 74) dX1_leastWithoutRivals_67 (by decide) (by omega) (fun h => absurd h (by decide)) (fun _ => ?_)
            refine e_iload C dX1_leastWithoutRivals_70 rfl ?_
            refine e_istore C dX1_leastWithoutRivals_72 ?_
            refine e_iinc C dX1_leastWithoutRivals_74 rfl ?_
            refine e_goto C (tgt := 37) dX1_leastWithoutRivals_77 (by decide) ?_
            exact ih2 i ⟨by omega, by omega, fun e he => by
              rcases Nat.lt_or_ge e i with q | q
              · have := c3 e q; omega
              · have : e = i := by omega
                rw [this]; exact Int.le_refl _⟩
          · refine e_if_ge C (tgt := 74) dX1_leastWithoutRivals_67 (by decide) (by (repeat' split) <;> omega) (fun _ => ?_) (fun h => by (repeat' split at h) <;> omega)
            refine e_iinc C dX1_leastWithoutRivals_74 rfl ?_
            refine e_goto C (tgt := 37) dX1_leastWithoutRivals_77 (by decide) ?_
            exact ih2 c ⟨c1, c2, fun e he => by
              rcases Nat.lt_or_ge e i with q | q
              · exact c3 e q
              · have : e = i := by omega
                rw [this]; omega⟩
      refine e_iload C dX1_leastWithoutRivals_12 rfl ?_
      refine e_aload_n C dX1_leastWithoutRivals_14 rfl ?_
      refine e_getI C f_X1_27 sh_4 dX1_leastWithoutRivals_15 ?_
      rw [hnbf]
      refine e_icmp_ge C (tgt := 141) dX1_leastWithoutRivals_18 (by decide) (by omega) (by omega) (fun h_18 => by exfalso; omega) (fun h_18 => ?_)
      refine e_iload C dX1_leastWithoutRivals_21 rfl ?_
      refine e_bipush C dX1_leastWithoutRivals_23 ?_
      refine e_imul C dX1_leastWithoutRivals_25 ?_
      refine e_istore C dX1_leastWithoutRivals_26 ?_
      refine e_aload_n C dX1_leastWithoutRivals_28 rfl ?_
      refine e_getI C f_X1_30 sh_4 dX1_leastWithoutRivals_29 ?_
      rw [hnsf]
      refine e_istore C dX1_leastWithoutRivals_32 ?_
      refine e_iconst C dX1_leastWithoutRivals_34 ?_
      refine e_istore C dX1_leastWithoutRivals_35 ?_
      exact inner 0 ns (by omega) ⟨Nat.le_refl _, Int.le_refl _, fun e he => absurd he (Nat.not_lt_zero e)⟩
  show pE g 8 X _ SH M 0 0 0 [some (.inr (.inr 4)), none, none, none, none, none, none, none] []
  refine e_lconst C 0 dX1_leastWithoutRivals_0 ?_
  refine e_lstore_n C dX1_leastWithoutRivals_1 ?_
  refine e_iconst C dX1_leastWithoutRivals_2 ?_
  refine e_istore_n C dX1_leastWithoutRivals_3 ?_
  refine e_aload_n C dX1_leastWithoutRivals_4 rfl ?_
  refine e_iconst C dX1_leastWithoutRivals_5 ?_
  refine e_putZ C f_X1_37 sh_4 (Or.inl rfl) (hd := dX1_leastWithoutRivals_6) (hfin := (fun CC T h => by obtain ⟨h1, -⟩ := h; cases h1; rfl)) ?_
  refine e_iconst C dX1_leastWithoutRivals_9 ?_
  refine e_istore C dX1_leastWithoutRivals_10 ?_
  exact loop 0 (0, 0, 0, fun _ => 0, none, none, none) (by omega) ⟨fun a ha => absurd ha (Nat.not_lt_zero a), rfl, by decide, fun c => by simp, Or.inl rfl, fun _ => ⟨fun a ha => absurd ha (Nat.not_lt_zero a), fun a c ha => absurd ha (Nat.not_lt_zero a)⟩⟩
