/-! ===== the class's invariant ===== -/
def JC (M : pMem) : Prop := pW M ∧ pgM M ∧ wtOk (wtC M) ∧ (0 ≤ mI M 0 12 ∧ mI M 0 12 ≤ 16) ∧ (∀ p, p < 16 → -1 ≤ mI M 2 p ∧ mI M 2 p < 5) ∧ (∀ p : Nat, p < 16 → mI M 0 12 ≤ (p : Int) → (pgC M).1 p = 0 ∧ mI M 2 p = -1) ∧ ((0 ≤ mI M 0 13 ∧ mI M 0 13 ≤ 1000) ∧ (0 ≤ mI M 0 14 ∧ mI M 0 14 ≤ 1000) ∧ (0 ≤ mI M 0 15 ∧ mI M 0 15 ≤ 1000)) ∧ (∀ p i, p < 16 → i < (pgC M).1 p → mI M (38 + 5 * p + 4) i = 1) ∧ (∀ k, k < 5 → kdOk M (118 + 7 * k) ∧ isKd (pgC M) (mI M 2) (k : Int) (mI M (118 + 7 * k) 2) (nSp M (118 + 7 * k)) (shS M (118 + 7 * k + 1))) ∧ ∀ p q, p < q → q < 16 → mI M 36 (p * 16 + q) = -1 ∨ nrOk M p q (mI M 36 (p * 16 + q))
theorem JC_cch {M N : pMem} (h : JC M) (hc : cch M N) : JC N := by
  obtain ⟨h1, h2, h3, h4, h5, h6, h7, h8, h9, h10⟩ := h
  have e0 : ∀ j, mI N 0 j = mI M 0 j := fun j => hc.2.1 0 j (by omega) (by decide) (by decide) (by decide)
  have e2 : mI N 2 = mI M 2 := funext (fun j => hc.2.1 2 j (by omega) (by decide) (by decide) (by decide))
  unfold JC
  rw [cch_wt hc, cch_pg hc, e0, e0, e0, e0, e2]
  refine ⟨cch_W hc h1, cch_pM hc h2, h3, h4, h5, h6, h7, fun p i hp hi => ?_, fun k hk => ⟨cch_kd hc (kaK_k hk) (h9 k hk).1, ?_⟩, fun p q hp hq => ?_⟩
  · rw [cch_row hc (by omega) (by omega) (by omega) (by omega)]; exact h8 p i hp hi
  · rw [cch_ns hc (kaK_k hk), cch_shK hc (kaK_k hk), cch_row hc (by omega) (by omega) (by omega) (by omega)]; exact (h9 k hk).2
  · rw [cch_nr hc]
    rcases hc.2.2.2 p q hp hq with z | z
    · rw [z]; exact h10 p q hp hq
    · exact Or.inr z
theorem cch_37 {M : pMem} {i : Nat} {v : Int} : cch M (stI M 37 i v) := by
  refine ⟨fun _ _ => rfl, fun b j _ _ _ h1 => stI_n _ _ (Or.inl h1), fun _ _ _ _ => Or.inl rfl, fun _ _ _ _ => Or.inl (stI_n _ _ (by omega))⟩
theorem cch_36 {M : pMem} {p q : Nat} {v : Int} (hp : p < q) (hq : q < 16) (hv : nrOk M p q v) : cch M (stI M 36 (p * 16 + q) v) := by
  refine ⟨fun _ _ => rfl, fun b j _ _ h1 _ => stI_n _ _ (Or.inl h1), fun _ _ _ _ => Or.inl rfl, fun p2 q2 h1 h2 => ?_⟩
  by_cases e : p2 * 16 + q2 = p * 16 + q
  · have : p2 = p := by omega
    have : q2 = q := by omega
    subst p2; subst q2
    rw [stI_s]; exact Or.inr hv
  · exact Or.inl (stI_n _ _ (by omega))
theorem spOk_pg {M : pMem} (hJ : JC M) {q : Nat} (hq : q < 16) : spOk ((pgC M).1 q) (shS M (38 + 5 * q)) := fun s hs => by
  obtain ⟨b1, b2, b3⟩ := (hJ.2.1.2.1 q hq).2 s hs
  exact ⟨b1, b2, b3, Or.inr (hJ.2.2.2.2.2.2.2.1 q s hq hs)⟩
/-! ===== how near two pages are ===== -/
noncomputable def nrF (M : pMem) (p q : Nat) : Int := Classical.epsilon (fun v => nrOk M p q v)
theorem nrF_e {M : pMem} {p q : Nat} {v : Int} (h : nrOk M p q v) : nrF M p q = v := by
  obtain ⟨K, a, b⟩ := Classical.epsilon_spec (p := fun v => nrOk M p q v) ⟨v, h⟩
  obtain ⟨K2, c, d⟩ := h
  unfold nrF
  rw [b, d, isKey_one a c]
theorem c_nearCost {g : pG} {M : pMem} {p q : Nat} (hJ : JC M) (hp : p < q) (hq : q < 16) :
    pCn g 5 0 0 yX5_nearCost cX5_nearCost 4 (some .int) SH SH M [.inr (.inr 0), .inl (p : Int), .inl (q : Int)] (fun r M' => ∃ v : Int, r = some (.inl v) ∧ nrOk M p q v ∧ cch M M' ∧ ∀ b j, 15 ≤ b → b ≠ 36 → mI M' b j = mI M b j) := by
  refine pCn_intro mt_X5_nearCost (fun X C => ?_)
  have hW := hJ.1
  have hG := hJ.2.1
  have hw := hJ.2.2.1
  have hp16 : p < 16 := by omega
  have hn8 := (hG.2.1 p hp16).1
  have hm8 := (hG.2.1 q hq).1
  have hbx : bxOk ((pgC M).1 p) (shB M (38 + 5 * p)) := (hG.2.1 p hp16).2
  have hsp := spOk_pg hJ hq
  have hrg : ∀ v, nrOk M p q v → 0 ≤ v ∧ v ≤ 100000 := fun v ⟨K, h1, h2⟩ => by
    have := isKey_r hw hbx hsp hn8 (by omega) h1
    omega
  show pE g 4 X _ SH M 0 0 0 [some (.inr (.inr 0)), some (.inl (p : Int)), some (.inl (q : Int)), none] []
  refine e_iload_n C dX5_nearCost_0 rfl ?_
  refine e_bipush C dX5_nearCost_1 ?_
  refine e_imul C dX5_nearCost_3 ?_
  refine e_iload_n C dX5_nearCost_4 rfl ?_
  refine e_iadd C dX5_nearCost_5 ?_
  refine e_istore_n C dX5_nearCost_6 ?_
  refine e_aload_n C dX5_nearCost_7 rfl ?_
  refine e_getR C f_X5_60 sh_0 (hW 0 10 36 rfl) dX5_nearCost_8 ?_
  refine e_iload_n C dX5_nearCost_11 rfl ?_
  refine e_iaload C dX5_nearCost_12 sh_36 (p * 16 + q) (by omega) (by omega) ?_
  refine e_iconst C dX5_nearCost_13 ?_
  rcases hJ.2.2.2.2.2.2.2.2.2 p q hp hq with hm | hv
  · rw [hm]
    refine e_icmp_ne C (tgt := 45) dX5_nearCost_14 (by decide) (by omega) (by omega) (fun h => absurd rfl h) (fun _ => ?_)
    refine e_aload_n C dX5_nearCost_17 rfl ?_
    refine e_getR C f_X5_60 sh_0 (hW 0 10 36 rfl) dX5_nearCost_18 ?_
    refine e_iload_n C dX5_nearCost_21 rfl ?_
    refine e_aload_n C dX5_nearCost_22 rfl ?_
    refine e_getR C f_X5_28 sh_0 (hW 0 3 4 rfl) dX5_nearCost_23 ?_
    refine e_aload_n C dX5_nearCost_26 rfl ?_
    refine e_getR C f_X5_11 sh_0 (hW 0 0 1 rfl) dX5_nearCost_27 ?_
    refine e_iload_n C dX5_nearCost_30 rfl ?_
    refine e_aaload3 C dX5_nearCost_31 sh_1 _ rfl (by omega) (hW 1 p _ (rt_page p hp16).1) ?_
    refine e_aload_n C dX5_nearCost_32 rfl ?_
    refine e_getR C f_X5_11 sh_0 (hW 0 0 1 rfl) dX5_nearCost_33 ?_
    refine e_iload_n C dX5_nearCost_36 rfl ?_
    refine e_aaload3 C dX5_nearCost_37 sh_1 _ rfl (by omega) (hW 1 q _ (rt_page q hq).1) ?_
    refine e_callV C (c_cheapest (M := M) (a := 38 + 5 * p) (e := 38 + 5 * q) (Na := 8) (Ne := 8) (ca := (pgC M).1 p) (ns := (pgC M).1 q) (nb := (pgC M).1 p) hW (hG.1 p hp16) (hG.1 q hq) (by rw [if_neg (by omega)]) (pSh_page hW hp16) (pSh_page hW hq) (by omega) (by omega) ⟨hn8, by decide⟩ ⟨hm8, by decide⟩ hw hbx hsp) mt_X1_cheapest s_X5_195 dX5_nearCost_38 1 sh_4 rfl (fun r M1 hq => ?_)
    obtain ⟨K, rfl, hK, hag⟩ := hq
    dsimp only [Option.toList_some, List.singleton_append]
    have hc1 := cch_agO hag
    have hck : nrOk M p q (K / 341812114609) := ⟨K, hK, rfl⟩
    have hKr := isKey_r hw hbx hsp hn8 (by omega) hK
    have hW1 := cch_W hc1 hW
    refine e_callS C (c_costIn (K := K) (by omega)) mt_X5_costIn s_X5_157 dX5_nearCost_41 (fun r2 M2 hq2 => ?_)
    obtain ⟨rfl, hM2⟩ := hq2
    subst M2
    dsimp only [Option.toList_some, List.singleton_append]
    refine e_iastore C dX5_nearCost_44 sh_36 (p * 16 + q) (by omega) (by omega) ?_
    refine e_aload_n C dX5_nearCost_45 rfl ?_
    refine e_getR C f_X5_60 sh_0 (hW1 0 10 36 rfl) dX5_nearCost_46 ?_
    refine e_iload_n C dX5_nearCost_49 rfl ?_
    refine e_iaload C dX5_nearCost_50 sh_36 (p * 16 + q) (by omega) (by omega) ?_
    rw [stI_s]
    exact e_ireturn C dX5_nearCost_51 ⟨_, rfl, hck, cch_tr hc1 (cch_36 hp hq ((cch_nr hc1).mpr hck)), fun b j hb h36 => by rw [stI_n _ _ (Or.inl h36)]; exact (hag.1 b j (Or.inr hb)).1⟩
  · have := hrg _ hv
    refine e_icmp_ne C (tgt := 45) dX5_nearCost_14 (by decide) (by omega) (by omega) (fun _ => ?_) (fun h => by exfalso; omega)
    refine e_aload_n C dX5_nearCost_45 rfl ?_
    refine e_getR C f_X5_60 sh_0 (hW 0 10 36 rfl) dX5_nearCost_46 ?_
    refine e_iload_n C dX5_nearCost_49 rfl ?_
    refine e_iaload C dX5_nearCost_50 sh_36 (p * 16 + q) (by omega) (by omega) ?_
    exact e_ireturn C dX5_nearCost_51 ⟨_, rfl, hv, cch_rf M, fun _ _ _ _ => rfl⟩
theorem c_joinHeaps {g : pG} {M : pMem} {n : Nat} {x y : Int} {f : Nat → Int} (hW : pW M) (hn : mI M 0 12 = (n : Int)) (hn16 : n ≤ 16) (hx : 0 ≤ x ∧ x < 16) (hy : 0 ≤ y ∧ y < 16) (hf : ∀ i, i < n → -1 ≤ f i ∧ f i < 16) :
    pCn g 1 0 0 yX5_joinHeaps cX5_joinHeaps 6 none SH SH (wrI M 37 f) [.inr (.inr 0), .inl x, .inl y] (fun r M' => ∃ f' : Nat → Int, r = none ∧ M' = wrI M 37 f' ∧ ∀ i, i < n → f' i = if f i = (if x < y then y else x) then (if x < y then x else y) else f i) := by
  refine pCn_intro mt_X5_joinHeaps (fun X C => ?_)
  obtain ⟨lo, hlo⟩ : ∃ lo, lo = (if y < x then y else x) := ⟨_, rfl⟩
  obtain ⟨hh, hhi⟩ : ∃ hh, hh = (if x < y then y else x) := ⟨_, rfl⟩
  have e1 : (if x < y then x else y) = lo := by rw [hlo]; split <;> split <;> omega
  have hl : 0 ≤ lo ∧ lo < 16 := by rw [hlo]; split <;> omega
  have hhr : 0 ≤ hh ∧ hh < 16 := by rw [hhi]; split <;> omega
  have loop : ∀ (i : Nat) (h : Nat → Int), i ≤ n → ((∀ j, j < i → h j = if f j = hh then lo else f j) ∧ ∀ j, i ≤ j → h j = f j) → pE g 6 X (pMQ g SH (fun r M' => ∃ f' : Nat → Int, r = none ∧ M' = wrI M 37 f' ∧ ∀ i, i < n → f' i = if f i = (if x < y then y else x) then (if x < y then x else y) else f i) X 0 0) SH (wrI M 37 h) 0 0 16 [some (.inr (.inr 0)), some (.inl x), some (.inl y), some (.inl lo), some (.inl hh), some (.inl (i : Int))] [] := by
    refine p_for n _ _ ?_ ?_
    · rintro h ⟨h1, h2⟩
      refine e_iload C dX5_joinHeaps_16 rfl ?_
      refine e_aload_n C dX5_joinHeaps_18 rfl ?_
      refine e_getI C f_X5_66 sh_0 dX5_joinHeaps_19 ?_
      rw [show mI (wrI M 37 h) 0 12 = mI M 0 12 from rfl, hn]
      refine e_icmp_ge C (tgt := 51) dX5_joinHeaps_22 (by decide) (by omega) (by omega) (fun h_22 => ?_) (fun h_22 => by exfalso; omega)
      exact e_return C dX5_joinHeaps_51 ⟨h, rfl, rfl, fun i hi => by rw [h1 i hi, e1, ← hhi]⟩
    · rintro i h hi ⟨h1, h2⟩ ih
      have hfi := hf i hi
      by_cases hd : f i = hh
      · refine e_iload C dX5_joinHeaps_16 rfl ?_
        refine e_aload_n C dX5_joinHeaps_18 rfl ?_
        refine e_getI C f_X5_66 sh_0 dX5_joinHeaps_19 ?_
        rw [show mI (wrI M 37 h) 0 12 = mI M 0 12 from rfl, hn]
        refine e_icmp_ge C (tgt := 51) dX5_joinHeaps_22 (by decide) (by omega) (by omega) (fun h_22 => by exfalso; omega) (fun h_22 => ?_)
        refine e_aload_n C dX5_joinHeaps_25 rfl ?_
        refine e_getR C f_X5_63 sh_0 (hW 0 11 37 rfl) dX5_joinHeaps_26 ?_
        refine e_iload C dX5_joinHeaps_29 rfl ?_
        refine e_iaload C dX5_joinHeaps_31 sh_37 _ rfl (by omega) ?_
        rw [wrI_s, h2 i (Nat.le_refl _), hd]
        refine e_iload C dX5_joinHeaps_32 rfl ?_
        refine e_icmp_ne C (tgt := 45) dX5_joinHeaps_34 (by decide) (by omega) (by omega) (fun h_34 => by exact absurd rfl h_34) (fun h_34 => ?_)
        refine e_aload_n C dX5_joinHeaps_37 rfl ?_
        refine e_getR C f_X5_63 sh_0 (hW 0 11 37 rfl) dX5_joinHeaps_38 ?_
        refine e_iload C dX5_joinHeaps_41 rfl ?_
        refine e_iload_n C dX5_joinHeaps_43 rfl ?_
        refine e_iastore C dX5_joinHeaps_44 sh_37 _ rfl (by omega) ?_
        rw [stI_wr]
        refine e_iinc C dX5_joinHeaps_45 rfl ?_
        refine e_goto C (tgt := 16) dX5_joinHeaps_48 (by decide) ?_
        refine ih _ ⟨fun j hj => ?_, fun j hj => by rw [up_n (by omega)]; exact h2 j (by omega)⟩
        by_cases e : j = i
        · subst e; rw [up_s, if_pos hd]
        · rw [up_n e]; exact h1 j (by omega)
      · refine e_iload C dX5_joinHeaps_16 rfl ?_
        refine e_aload_n C dX5_joinHeaps_18 rfl ?_
        refine e_getI C f_X5_66 sh_0 dX5_joinHeaps_19 ?_
        rw [show mI (wrI M 37 h) 0 12 = mI M 0 12 from rfl, hn]
        refine e_icmp_ge C (tgt := 51) dX5_joinHeaps_22 (by decide) (by omega) (by omega) (fun h_22 => by exfalso; omega) (fun h_22 => ?_)
        refine e_aload_n C dX5_joinHeaps_25 rfl ?_
        refine e_getR C f_X5_63 sh_0 (hW 0 11 37 rfl) dX5_joinHeaps_26 ?_
        refine e_iload C dX5_joinHeaps_29 rfl ?_
        refine e_iaload C dX5_joinHeaps_31 sh_37 _ rfl (by omega) ?_
        rw [wrI_s, h2 i (Nat.le_refl _)]
        refine e_iload C dX5_joinHeaps_32 rfl ?_
        refine e_icmp_ne C (tgt := 45) dX5_joinHeaps_34 (by decide) (by omega) (by omega) (fun h_34 => ?_) (fun h_34 => by exact absurd (fun e => hd e) h_34)
        refine e_iinc C dX5_joinHeaps_45 rfl ?_
        refine e_goto C (tgt := 16) dX5_joinHeaps_48 (by decide) ?_
        refine ih h ⟨fun j hj => ?_, fun j hj => h2 j (by omega)⟩
        by_cases e : j = i
        · subst e; rw [if_neg hd]; exact h2 j (Nat.le_refl _)
        · exact h1 j (by omega)
  show pE g 6 X _ SH (wrI M 37 f) 0 0 0 [some (.inr (.inr 0)), some (.inl x), some (.inl y), none, none, none] []
  refine e_iload_n C dX5_joinHeaps_0 rfl ?_
  refine e_iload_n C dX5_joinHeaps_1 rfl ?_
  refine e_mmin C s_X5_186 dX5_joinHeaps_2 (by omega) (by omega) ?_
  refine e_istore_n C dX5_joinHeaps_5 ?_
  refine e_iload_n C dX5_joinHeaps_6 rfl ?_
  refine e_iload_n C dX5_joinHeaps_7 rfl ?_
  refine e_mmax C s_X5_192 dX5_joinHeaps_8 (by omega) (by omega) ?_
  refine e_istore C dX5_joinHeaps_11 ?_
  refine e_iconst C dX5_joinHeaps_13 ?_
  refine e_istore C dX5_joinHeaps_14 ?_
  subst hlo
  subst hhi
  exact loop 0 f (by omega) ⟨fun j hj => absurd hj (Nat.not_lt_zero j), fun _ _ => rfl⟩
