/-! ===== Maker: rows that rise ===== -/
def shf (f : Nat → Int) (n d : Nat) : Nat → Int := fun i => if i ≤ d then f i else if i ≤ n then f (i - 1) else f i
theorem shf_n (f : Nat → Int) (n : Nat) : shf f n n = f := by
  funext i; unfold shf; split
  · rfl
  · first | rfl | rw [if_neg (by omega)]
theorem shf_st (f : Nat → Int) {n d : Nat} (h : d + 1 ≤ n) : up (shf f n (d + 1)) (d + 1) (f d) = shf f n d := by
  funext i; unfold up shf
  by_cases e : i = d + 1
  · rw [if_pos e, if_neg (by omega), if_pos (by omega), show i - 1 = d by omega]
  · rw [if_neg e]
    by_cases h2 : i ≤ d
    · rw [if_pos (by omega), if_pos h2]
    · rw [if_neg (by omega), if_neg h2]
theorem shf_put (f : Nat → Int) (n d : Nat) (v : Int) : up (shf f n d) d v = put1 f n d v := by
  funext i; unfold up shf put1
  by_cases e : i = d
  · rw [if_pos e, if_neg (by omega), if_pos e]
  · rw [if_neg e, if_neg e]
    by_cases h2 : i < d
    · rw [if_pos (by omega), if_pos h2]
    · rw [if_neg (by omega), if_neg h2]
theorem c_put {g : pG} {M : pMem} {ra n : Nat} {f : Nat → Int} {v : Int} (hr : SH[ra]? = some (.inr (0, 16))) (hn : n < 16) (hs : srt f n) (hv : 0 ≤ v ∧ v ≤ 63) (hf : ∀ i, i < n → 0 ≤ f i ∧ f i ≤ 63) :
    pCn g 1 0 0 yX2_putByRising cX2_putByRising 4 none SH SH (wrI M ra f) [.inr (.inr ra), .inl (n : Int), .inl v] (fun r M' => ∃ f' : Nat → Int, r = none ∧ M' = wrI M ra f' ∧ srt f' (n + 1) ∧ (∀ t, cnL f' (n + 1) t = cnL f n t + b01 (v ≤ t)) ∧ ∀ i, i < n + 1 → 0 ≤ f' i ∧ f' i ≤ 63) := by
  refine pCn_intro mt_X2_putByRising (fun X C => ?_)
  have fin : ∀ d : Nat, d ≤ n → (∀ i, i < d → f i ≤ v) → (∀ i, d ≤ i → i < n → v < f i) → pE g 4 X (pMQ g SH (fun r M' => ∃ f' : Nat → Int, r = none ∧ M' = wrI M ra f' ∧ srt f' (n + 1) ∧ (∀ t, cnL f' (n + 1) t = cnL f n t + b01 (v ≤ t)) ∧ ∀ i, i < n + 1 → 0 ≤ f' i ∧ f' i ≤ 63) X 0 0) SH (wrI M ra (shf f n d)) 0 0 29 [some (.inr (.inr ra)), some (.inl (n : Int)), some (.inl v), some (.inl (d : Int))] [] := by
    intro d hd h1 h2
    refine e_aload_n C dX2_putByRising_29 rfl ?_
    refine e_iload_n C dX2_putByRising_30 rfl ?_
    refine e_iload_n C dX2_putByRising_31 rfl ?_
    refine e_iastore C dX2_putByRising_32 hr _ rfl (by omega) ?_
    rw [stI_wr, shf_put]
    refine e_return C dX2_putByRising_33 ⟨put1 f n d v, rfl, rfl, put1_s hs hd h1 (fun i a b => by have := h2 i a b; omega), fun t => put1_c hd t, fun i hi => ?_⟩
    unfold put1
    split
    · exact hf i (by omega)
    · split
      · exact hv
      · rw [if_pos (by omega)]; exact hf _ (by omega)
  have loop : ∀ d : Nat, d ≤ n → (∀ i, d ≤ i → i < n → v < f i) → pE g 4 X (pMQ g SH (fun r M' => ∃ f' : Nat → Int, r = none ∧ M' = wrI M ra f' ∧ srt f' (n + 1) ∧ (∀ t, cnL f' (n + 1) t = cnL f n t + b01 (v ≤ t)) ∧ ∀ i, i < n + 1 → 0 ≤ f' i ∧ f' i ≤ 63) X 0 0) SH (wrI M ra (shf f n d)) 0 0 2 [some (.inr (.inr ra)), some (.inl (n : Int)), some (.inl v), some (.inl (d : Int))] [] := by
    intro d
    induction d with
    | zero =>
      intro h1 h2
      refine e_iload_n C dX2_putByRising_2 rfl ?_
      refine e_if_le C (tgt := 29) dX2_putByRising_3 (by decide) (by omega) (fun h_3 => ?_) (fun h_3 => by exfalso; omega)
      exact fin 0 (by omega) (fun i hi => absurd hi (Nat.not_lt_zero i)) h2
    | succ d ih =>
      intro h1 h2
      have hfd := hf d (by omega)
      have hsd : shf f n (d + 1) d = f d := by unfold shf; rw [if_pos (by omega)]
      refine e_iload_n C dX2_putByRising_2 rfl ?_
      refine e_if_le C (tgt := 29) dX2_putByRising_3 (by decide) (by omega) (fun h_3 => by exfalso; omega) (fun h_3 => ?_)
      refine e_aload_n C dX2_putByRising_6 rfl ?_
      refine e_iload_n C dX2_putByRising_7 rfl ?_
      refine e_iconst C dX2_putByRising_8 ?_
      refine e_isub C dX2_putByRising_9 ?_
      refine e_iaload C dX2_putByRising_10 hr d (by omega) (by omega) ?_
      rw [wrI_s, hsd]
      refine e_iload_n C dX2_putByRising_11 rfl ?_
      refine e_icmp_le C (tgt := 29) dX2_putByRising_12 (by decide) (by omega) (by omega) (fun h_12 => ?_) (fun h_12 => ?_)
      · refine fin (d + 1) h1 (fun i hi => ?_) h2
        have := hs i d (by omega) (by omega)
        omega
      · refine e_aload_n C dX2_putByRising_15 rfl ?_
        refine e_iload_n C dX2_putByRising_16 rfl ?_
        refine e_aload_n C dX2_putByRising_17 rfl ?_
        refine e_iload_n C dX2_putByRising_18 rfl ?_
        refine e_iconst C dX2_putByRising_19 ?_
        refine e_isub C dX2_putByRising_20 ?_
        refine e_iaload C dX2_putByRising_21 hr d (by omega) (by omega) ?_
        rw [wrI_s, hsd]
        refine e_iastore C dX2_putByRising_22 hr _ rfl (by omega) ?_
        rw [stI_wr, shf_st f h1]
        refine e_iinc C dX2_putByRising_23 rfl ?_
        refine e_goto C (tgt := 2) dX2_putByRising_26 (by decide) ?_
        refine pE_to (ih (by omega) (fun i a b => ?_)) rfl (by rw [show (((d + 1 : Nat) : Int) + -1) = (d : Int) by omega]; rfl) rfl
        by_cases e : i = d
        · rw [e]; omega
        · exact h2 i (by omega) b
  show pE g 4 X _ SH (wrI M ra f) 0 0 0 [some (.inr (.inr ra)), some (.inl (n : Int)), some (.inl v), none] []
  refine e_iload_n C dX2_putByRising_0 rfl ?_
  refine e_istore_n C dX2_putByRising_1 ?_
  have hz := loop n (Nat.le_refl _) (fun i a b => by omega)
  rw [shf_n] at hz
  exact hz
theorem c_middle {g : pG} {M : pMem} {ra n : Nat} (hr : SH[ra]? = some (.inr (0, 16))) (hn : 0 < n ∧ n ≤ 16) : pCn g 1 0 0 yX2_middle cX2_middle 2 (some .int) SH SH M [.inr (.inr ra), .inl (n : Int)] (fun r M' => r = some (.inl (mI M ra ((n - 1) / 2))) ∧ M' = M) := by
  refine pCn_intro mt_X2_middle (fun X C => ?_)
  show pE g 2 X _ SH M 0 0 0 [some (.inr (.inr ra)), some (.inl (n : Int))] []
  refine e_iload_n C dX2_middle_0 rfl ?_
  refine e_if_le C (tgt := 14) dX2_middle_1 (by decide) (by omega) (fun h_1 => by exfalso; omega) (fun h_1 => ?_)
  refine e_aload_n C dX2_middle_4 rfl ?_
  refine e_iload_n C dX2_middle_5 rfl ?_
  refine e_iconst C dX2_middle_6 ?_
  refine e_isub C dX2_middle_7 ?_
  refine e_iconst C dX2_middle_8 ?_
  refine e_idiv C dX2_middle_9 (by omega) (by omega) (by omega) (by omega) ?_
  refine e_iaload C dX2_middle_10 hr ((n - 1) / 2) (by omega) (by omega) ?_
  refine e_goto C (tgt := 15) dX2_middle_11 (by decide) ?_
  exact e_ireturn C dX2_middle_15 ⟨rfl, rfl⟩
def agr (P : Nat → Prop) (M M' : pMem) : Prop := (∀ b j, P b → mI M' b j = mI M b j ∧ mL M' b j = mL M b j) ∧ ∀ b j, mR M' b j = mR M b j
theorem agr_rf (P : Nat → Prop) (M : pMem) : agr P M M := ⟨fun _ _ _ => ⟨rfl, rfl⟩, fun _ _ => rfl⟩
theorem agr_tr {P : Nat → Prop} {M N R : pMem} (h : agr P M N) (h2 : agr P N R) : agr P M R := ⟨fun b j hb => ⟨(h2.1 b j hb).1.trans (h.1 b j hb).1, (h2.1 b j hb).2.trans (h.1 b j hb).2⟩, fun b j => (h2.2 b j).trans (h.2 b j)⟩
theorem agr_su {P R : Nat → Prop} {M N : pMem} (h : agr P M N) (hs : ∀ b, R b → P b) : agr R M N := ⟨fun b j hb => h.1 b j (hs b hb), h.2⟩
theorem agr_W {P : Nat → Prop} {M N : pMem} (h : agr P M N) (hW : pW M) : pW N := fun a i b hb => (h.2 a i).trans (hW a i b hb)
theorem agr_stI {P : Nat → Prop} {M : pMem} {a i : Nat} {v : Int} (h : ∀ b, P b → b ≠ a) : agr P M (stI M a i v) := ⟨fun b j hb => ⟨stI_n _ _ (Or.inl (h b hb)), rfl⟩, fun _ _ => rfl⟩
theorem agr_wrI {P : Nat → Prop} {M : pMem} {a : Nat} {f : Nat → Int} (h : ∀ b, P b → b ≠ a) : agr P M (wrI M a f) := ⟨fun b j hb => ⟨wrI_n _ _ _ (h b hb), rfl⟩, fun _ _ => rfl⟩
theorem agr_wrL {P : Nat → Prop} {M : pMem} {a : Nat} {f : Nat → Int} (h : ∀ b, P b → b ≠ a) : agr P M (wrL M a f) := ⟨fun b j hb => ⟨rfl, wrL_n _ _ _ (h b hb)⟩, fun _ _ => rfl⟩
theorem agr_stL {P : Nat → Prop} {M : pMem} {a i : Nat} {v : Int} (h : ∀ b, P b → b ≠ a) : agr P M (stL M a i v) := ⟨fun b j hb => ⟨rfl, stL_n _ _ (Or.inl (h b hb))⟩, fun _ _ => rfl⟩
/-- the pages as the class holds them -/
def pgC (M : pMem) : pPg := (fun p => (mI M (38 + 5 * p) 4).toNat, fun p => shB M (38 + 5 * p))
def pgM (M : pMem) : Prop := (∀ p, p < 16 → mI M (38 + 5 * p) 4 = (((pgC M).1 p : Nat) : Int)) ∧ pgOk (pgC M)
theorem pgC_ag {P : Nat → Prop} {M N : pMem} (h : agr P M N) (hP : ∀ b, 38 ≤ b → b < 118 → P b) {p : Nat} (hp : p < 16) : (pgC N).1 p = (pgC M).1 p ∧ (pgC N).2 p = (pgC M).2 p := by
  have e : ∀ b, 38 ≤ b → b < 118 → mI N b = mI M b := fun b h1 h2 => funext (fun j => (h.1 b j (hP b h1 h2)).1)
  unfold pgC shB
  dsimp only
  rw [e _ (by omega) (by omega), e _ (by omega) (by omega), e _ (by omega) (by omega), e _ (by omega) (by omega)]
  exact ⟨rfl, rfl⟩
def ccP (G : pPg) (T : Nat → Int) (k c : Int) (p : Nat) : Int := if T p = k then sg (fun i => b01 ((G.2 p).2.2 i = c)) (G.1 p) else 0
theorem cc_kn {G : pPg} {T : Nat → Int} {k c : Int} (hG : pgOk G) : sg (ccP G T k c) 16 = knC G T k c := by
  refine sg_congr (fun p hp => ?_)
  unfold ccP
  by_cases h : T p = k
  · rw [if_pos h]
    rcases ixC_sp G p c with ⟨a, b⟩ | ⟨j, a, b, d⟩
    · have e1 : b01 (onK G T k c p = true) = 0 := if_neg (fun q => (of_decide_eq_true q).2 a)
      rw [e1, sg_congr (f := fun i => b01 ((G.2 p).2.2 i = c)) (h := fun _ => 0) (fun i hi => if_neg (b i hi))]
      have h2 := sg_ub (f := fun _ => (0 : Int)) (b := 0) (n := G.1 p) (fun _ _ => Int.le_refl _)
      have h3 := sg_lb (f := fun _ => (0 : Int)) (b := 0) (n := G.1 p) (fun _ _ => Int.le_refl _)
      omega
    · have e1 : b01 (onK G T k c p = true) = 1 := if_pos (decide_eq_true ⟨h, by omega⟩)
      rw [e1, sg_congr (f := fun i => b01 ((G.2 p).2.2 i = c)) (h := up (fun _ => 0) j 1) (fun i hi => by
        by_cases e : i = j
        · subst e; rw [up_s]; exact if_pos b
        · rw [up_n e]; exact if_neg (fun q => e (hG.2 p i j hp hi a (by rw [q, b])))), sg_up a]
      have h2 := sg_ub (f := fun _ => (0 : Int)) (b := 0) (n := G.1 p) (fun _ _ => Int.le_refl _)
      have h3 := sg_lb (f := fun _ => (0 : Int)) (b := 0) (n := G.1 p) (fun _ _ => Int.le_refl _)
      omega
  · rw [if_neg h]
    exact (if_neg (fun q => h (of_decide_eq_true q).1)).symm
theorem c_carriers {g : pG} {M : pMem} {a ta : Nat} {T : Nat → Int} {k : Int} (hW : pW M) (hA : pKd M a) (ha : 22 ≤ a ∧ (a ≤ 29 ∨ 118 ≤ a)) (ht : SH[ta]? = some (.inr (0, 16))) (hta : ta = 2 ∨ ta = 20) (hT : ∀ p, p < 16 → mI M ta p = T p ∧ -1 ≤ T p ∧ T p < 5) (hk : 0 ≤ k ∧ k < 5) (hG : pgM M) (h0 : mI M a 2 = 0) :
    pCn g 1 0 0 yX2_countCarriers cX2_countCarriers 7 none SH SH M [.inr (.inr 15), .inr (.inr a), .inl k, .inr (.inr 1), .inr (.inr ta)] (fun r M' => ∃ f : Nat → Int, r = none ∧ M' = stI (wrI M 16 f) a 2 (kTn T k) ∧ ∀ c : Nat, 1 ≤ c → c ≤ 99 → f c = knC (pgC M) T k (c : Int)) := by
  refine pCn_intro mt_X2_countCarriers (fun X C => ?_)
  have rdT : ∀ (f : Nat → Int) (x : Int) (p : Nat), p < 16 → mI (stI (wrI M 16 f) a 2 x) ta p = T p := fun f x p hp => by
    rw [stI_n _ _ (by omega), wrI_n _ _ _ (by omega)]; exact (hT p hp).1
  have rdC : ∀ (f : Nat → Int) (x : Int) (p : Nat), p < 16 → mI (stI (wrI M 16 f) a 2 x) (38 + 5 * p) 4 = (((pgC M).1 p : Nat) : Int) := fun f x p hp => by
    rw [stI_n _ _ (by omega), wrI_n _ _ _ (by omega)]; exact hG.1 p hp
  have rdX : ∀ (f : Nat → Int) (x : Int) (p i : Nat), p < 16 → mI (stI (wrI M 16 f) a 2 x) (38 + 5 * p + 1) i = ((pgC M).2 p).2.2 i := fun f x p i hp => by
    rw [stI_n _ _ (by omega), wrI_n _ _ _ (by omega)]; rfl
  have rd2 : ∀ (f : Nat → Int) (x : Int), mI (stI (wrI M 16 f) a 2 x) a 2 = x := fun f x => stI_s _ _ _ _
  have rdF : ∀ (f : Nat → Int) (x : Int) (c : Nat), mI (stI (wrI M 16 f) a 2 x) 16 c = f c := fun f x c => by rw [stI_n _ _ (by omega)]; exact wrI_s _ _ _ _
  have stF : ∀ (f : Nat → Int) (x : Int) (c : Nat) (v : Int), stI (stI (wrI M 16 f) a 2 x) 16 c v = (stI (wrI M 16 (up f c v)) a 2 x) := fun f x c v => by
    unfold stI wrI up
    simp only [Prod.mk.injEq, and_true]
    funext b i
    by_cases e1 : b = 16
    · subst e1; simp [show ¬ (16 = a) by omega]
    · simp [e1]
  have ppl : ∀ (p : Nat) (s : (Nat → Int) × Option pV), p ≤ 16 → (∀ c : Nat, 1 ≤ c → c ≤ 99 → s.1 c = sg (ccP (pgC M) T k (c : Int)) p) → pE g 7 X (pMQ g SH (fun r M' => ∃ f : Nat → Int, r = none ∧ M' = stI (wrI M 16 f) a 2 (kTn T k) ∧ ∀ c : Nat, 1 ≤ c → c ≤ 99 → f c = knC (pgC M) T k (c : Int)) X 0 0) SH (stI (wrI M 16 s.1) a 2 (sg (fun p => b01 (T p = k)) p)) 0 0 27 [some (.inr (.inr 15)), some (.inr (.inr a)), some (.inl k), some (.inr (.inr 1)), some (.inr (.inr ta)), some (.inl (p : Int)), s.2] [] := by
    refine p_for 16 _ _ ?_ ?_
    · rintro ⟨f, x6⟩ hI
      dsimp only at hI ⊢
      refine e_iload C dX2_countCarriers_27 rfl ?_
      refine e_bipush C dX2_countCarriers_29 ?_
      refine e_icmp_ge C (tgt := 99) dX2_countCarriers_31 (by decide) (by omega) (by omega) (fun h_31 => ?_) (fun h_31 => by exfalso; omega)
      exact e_return C dX2_countCarriers_99 ⟨f, rfl, rfl, fun c h1 h2 => (hI c h1 h2).trans (cc_kn hG.2)⟩
    · rintro p ⟨f, x6⟩ hp hI ih
      dsimp only at hI ih ⊢
      have hTp := (hT p hp).2
      by_cases hTk : T p = k
      rotate_left
      · refine e_iload C dX2_countCarriers_27 rfl ?_
        refine e_bipush C dX2_countCarriers_29 ?_
        refine e_icmp_ge C (tgt := 99) dX2_countCarriers_31 (by decide) (by omega) (by omega) (fun h_31 => by exfalso; omega) (fun h_31 => ?_)
        refine e_aload C dX2_countCarriers_34 rfl ?_
        refine e_iload C dX2_countCarriers_36 rfl ?_
        refine e_iaload C dX2_countCarriers_38 ht _ rfl (by omega) ?_
        rw [rdT _ _ _ hp]
        refine e_iload_n C dX2_countCarriers_39 rfl ?_
        refine e_icmp_ne C (tgt := 93) dX2_countCarriers_40 (by decide) (by omega) (by omega) (fun h_40 => ?_) (fun h_40 => by exact absurd (fun e => hTk e) h_40)
        refine e_iinc C dX2_countCarriers_93 rfl ?_
        refine e_goto C (tgt := 27) dX2_countCarriers_96 (by decide) ?_
        have e1 : sg (fun p => b01 (T p = k)) (p + 1) = sg (fun p => b01 (T p = k)) p := by
          simp only [sg]; rw [show b01 (T p = k) = 0 from if_neg hTk]; omega
        refine pE_M (by rw [← e1]) (ih (f, x6) (fun c h1 h2 => ?_))
        simp only [sg]
        rw [hI c h1 h2, show ccP (pgC M) T k (c : Int) p = 0 from if_neg hTk]; omega
      · have e1 : sg (fun p => b01 (T p = k)) (p + 1) = sg (fun p => b01 (T p = k)) p + 1 := by
          simp only [sg]; rw [show b01 (T p = k) = 1 from if_pos hTk]
        have n8 := (hG.2.1 p hp).1
        have hbx := (hG.2.1 p hp).2
        have inner : ∀ (i : Nat) (f1 : Nat → Int), i ≤ (pgC M).1 p → (∀ c : Nat, 1 ≤ c → c ≤ 99 → f1 c = sg (ccP (pgC M) T k (c : Int)) p + sg (fun i => b01 (((pgC M).2 p).2.2 i = (c : Int))) i) → pE g 7 X (pMQ g SH (fun r M' => ∃ f : Nat → Int, r = none ∧ M' = stI (wrI M 16 f) a 2 (kTn T k) ∧ ∀ c : Nat, 1 ≤ c → c ≤ 99 → f c = knC (pgC M) T k (c : Int)) X 0 0) SH (stI (wrI M 16 f1) a 2 (sg (fun p => b01 (T p = k)) (p + 1))) 0 0 56 [some (.inr (.inr 15)), some (.inr (.inr a)), some (.inl k), some (.inr (.inr 1)), some (.inr (.inr ta)), some (.inl (p : Int)), some (.inl (i : Int))] [] := by
          refine p_for ((pgC M).1 p) _ _ ?_ ?_
          · intro f1 hI1
            refine e_iload C dX2_countCarriers_56 rfl ?_
            refine e_aload_n C dX2_countCarriers_58 rfl ?_
            refine e_iload C dX2_countCarriers_59 rfl ?_
            refine e_aaload3 C dX2_countCarriers_61 sh_1 _ rfl (by omega) (hW 1 p _ (rt_page p hp).1) ?_
            refine e_getI C f_X2_52 (pSh_page hW hp).1 dX2_countCarriers_62 ?_
            rw [rdC _ _ _ hp]
            refine e_icmp_ge C (tgt := 93) dX2_countCarriers_65 (by decide) (by omega) (by omega) (fun h_65 => ?_) (fun h_65 => by exfalso; omega)
            refine e_iinc C dX2_countCarriers_93 rfl ?_
            refine e_goto C (tgt := 27) dX2_countCarriers_96 (by decide) ?_
            refine ih (f1, _) (fun c h1 h2 => ?_)
            simp only [sg]
            rw [hI1 c h1 h2, show ccP (pgC M) T k (c : Int) p = sg (fun i => b01 (((pgC M).2 p).2.2 i = (c : Int))) ((pgC M).1 p) from if_pos hTk]
          · intro i f1 hi hI1 ih1
            have hcd := (hbx i hi).2.2
            obtain ⟨cc, hcc⟩ := Int.eq_ofNat_of_zero_le (show 0 ≤ ((pgC M).2 p).2.2 i by omega)
            refine e_iload C dX2_countCarriers_56 rfl ?_
            refine e_aload_n C dX2_countCarriers_58 rfl ?_
            refine e_iload C dX2_countCarriers_59 rfl ?_
            refine e_aaload3 C dX2_countCarriers_61 sh_1 _ rfl (by omega) (hW 1 p _ (rt_page p hp).1) ?_
            refine e_getI C f_X2_52 (pSh_page hW hp).1 dX2_countCarriers_62 ?_
            rw [rdC _ _ _ hp]
            refine e_icmp_ge C (tgt := 93) dX2_countCarriers_65 (by decide) (by omega) (by omega) (fun h_65 => by exfalso; omega) (fun h_65 => ?_)
            refine e_aload_n C dX2_countCarriers_68 rfl ?_
            refine e_getR C f_X2_9 sh_15 (hW 15 0 16 rfl) dX2_countCarriers_69 ?_
            refine e_aload_n C dX2_countCarriers_72 rfl ?_
            refine e_iload C dX2_countCarriers_73 rfl ?_
            refine e_aaload3 C dX2_countCarriers_75 sh_1 _ rfl (by omega) (hW 1 p _ (rt_page p hp).1) ?_
            refine e_getR C f_X2_55 (pSh_page hW hp).1 (pSh_page hW hp).2.2.2.2.2.1 dX2_countCarriers_76 ?_
            refine e_iload C dX2_countCarriers_79 rfl ?_
            refine e_iaload C dX2_countCarriers_81 (pSh_page hW hp).2.1 _ rfl (by omega) ?_
            rw [rdX _ _ _ _ hp]
            refine e_dup2 C dX2_countCarriers_82 ?_
            refine e_iaload C dX2_countCarriers_83 sh_16 cc hcc (by omega) ?_
            rw [rdF]
            refine e_iconst C dX2_countCarriers_84 ?_
            refine e_iadd C dX2_countCarriers_85 ?_
            refine e_iastore C dX2_countCarriers_86 sh_16 cc hcc (by omega) ?_
            rw [stF]
            refine e_iinc C dX2_countCarriers_87 rfl ?_
            refine e_goto C (tgt := 56) dX2_countCarriers_90 (by decide) ?_
            refine ih1 (up f1 cc (f1 cc + 1)) (fun c h1 h2 => ?_)
            simp only [sg]
            by_cases e : c = cc
            · subst e; rw [up_s, hI1 c h1 h2, show b01 (((pgC M).2 p).2.2 i = (c : Int)) = 1 from if_pos hcc]; omega
            · rw [up_n e, hI1 c h1 h2, show b01 (((pgC M).2 p).2.2 i = (c : Int)) = 0 from if_neg (by omega)]; omega
        refine e_iload C dX2_countCarriers_27 rfl ?_
        refine e_bipush C dX2_countCarriers_29 ?_
        refine e_icmp_ge C (tgt := 99) dX2_countCarriers_31 (by decide) (by omega) (by omega) (fun h_31 => by exfalso; omega) (fun h_31 => ?_)
        refine e_aload C dX2_countCarriers_34 rfl ?_
        refine e_iload C dX2_countCarriers_36 rfl ?_
        refine e_iaload C dX2_countCarriers_38 ht _ rfl (by omega) ?_
        rw [rdT _ _ _ hp]
        refine e_iload_n C dX2_countCarriers_39 rfl ?_
        refine e_icmp_ne C (tgt := 93) dX2_countCarriers_40 (by decide) (by omega) (by omega) (fun h_40 => by exact absurd hTk h_40) (fun h_40 => ?_)
        refine e_aload_n C dX2_countCarriers_43 rfl ?_
        refine e_dup C dX2_countCarriers_44 ?_
        refine e_getI C f_X2_30 hA.1 dX2_countCarriers_45 ?_
        rw [rd2]
        refine e_iconst C dX2_countCarriers_48 ?_
        refine e_iadd C dX2_countCarriers_49 ?_
        refine e_putI C f_X2_30 hA.1 (hd := dX2_countCarriers_50) (hfin := (fun CC T h => by obtain ⟨h1, -⟩ := h; cases h1; rfl)) ?_
        rw [stI_st, ← e1]
        refine e_iconst C dX2_countCarriers_53 ?_
        refine e_istore C dX2_countCarriers_54 ?_
        exact inner 0 f (by omega) (fun c h1 h2 => by simp only [sg]; rw [hI c h1 h2]; omega)
  have clr : ∀ (i : Nat) (s : Unit), i ≤ 100 → True → pE g 7 X (pMQ g SH (fun r M' => ∃ f : Nat → Int, r = none ∧ M' = stI (wrI M 16 f) a 2 (kTn T k) ∧ ∀ c : Nat, 1 ≤ c → c ≤ 99 → f c = knC (pgC M) T k (c : Int)) X 0 0) SH (wrI M 16 (fil (mI M 16) 0 i)) 0 0 3 [some (.inr (.inr 15)), some (.inr (.inr a)), some (.inl k), some (.inr (.inr 1)), some (.inr (.inr ta)), some (.inl (i : Int)), none] [] := by
    refine p_for 100 _ _ ?_ ?_
    · intro s _
      refine e_iload C dX2_countCarriers_3 rfl ?_
      refine e_bipush C dX2_countCarriers_5 ?_
      refine e_icmp_gt C (tgt := 24) dX2_countCarriers_7 (by decide) (by omega) (by omega) (fun h_7 => ?_) (fun h_7 => by exfalso; omega)
      refine e_iconst C dX2_countCarriers_24 ?_
      refine e_istore C dX2_countCarriers_25 ?_
      refine pE_M ?_ (ppl 0 (fil (mI M 16) 0 100, none) (by omega) (fun c h1 h2 => fil_i (by omega)))
      exact (stI_same _ _ _ _ (by rw [wrI_n _ _ _ (by omega)]; exact h0)).symm
    · intro i s hi _ ih
      refine e_iload C dX2_countCarriers_3 rfl ?_
      refine e_bipush C dX2_countCarriers_5 ?_
      refine e_icmp_gt C (tgt := 24) dX2_countCarriers_7 (by decide) (by omega) (by omega) (fun h_7 => by exfalso; omega) (fun h_7 => ?_)
      refine e_aload_n C dX2_countCarriers_10 rfl ?_
      refine e_getR C f_X2_9 sh_15 (hW 15 0 16 rfl) dX2_countCarriers_11 ?_
      refine e_iload C dX2_countCarriers_14 rfl ?_
      refine e_iconst C dX2_countCarriers_16 ?_
      refine e_iastore C dX2_countCarriers_17 sh_16 _ rfl (by omega) ?_
      rw [stI_wr, fil_s]
      refine e_iinc C dX2_countCarriers_18 rfl ?_
      refine e_goto C (tgt := 3) dX2_countCarriers_21 (by decide) ?_
      exact ih () trivial
  show pE g 7 X _ SH M 0 0 0 [some (.inr (.inr 15)), some (.inr (.inr a)), some (.inl k), some (.inr (.inr 1)), some (.inr (.inr ta)), none, none] []
  refine e_iconst C dX2_countCarriers_0 ?_
  refine e_istore C dX2_countCarriers_1 ?_
  have hz := clr 0 () (by omega) trivial
  rw [fil_0, wrI_e] at hz
  exact hz
