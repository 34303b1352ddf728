/-! ===== telling, weighing ===== -/
/-- what the class keeps of its kinds when the cells of P stay -/
theorem ag_row {P : Nat → Prop} {M N : pMem} (h : agr P M N) {b : Nat} (hb : P b) : mI N b = mI M b := funext (fun j => (h.1 b j hb).1)
theorem ag_wt {P : Nat → Prop} {M N : pMem} (h : agr P M N) (h4 : P 4) : wtC N = wtC M := by unfold wtC; rw [ag_row h h4]
theorem ag_shB {P : Nat → Prop} {M N : pMem} (h : agr P M N) {a : Nat} (h4 : ∀ b, a ≤ b → b ≤ a + 4 → P b) : shB N a = shB M a := by unfold shB; rw [ag_row h (h4 _ (by omega) (by omega)), ag_row h (h4 _ (by omega) (by omega)), ag_row h (h4 _ (by omega) (by omega))]
theorem ag_shS {P : Nat → Prop} {M N : pMem} (h : agr P M N) {a : Nat} (h4 : ∀ b, a ≤ b → b ≤ a + 4 → P b) : shS N a = shS M a := by unfold shS; rw [ag_row h (h4 _ (by omega) (by omega)), ag_row h (h4 _ (by omega) (by omega)), ag_row h (h4 _ (by omega) (by omega)), ag_row h (h4 _ (by omega) (by omega))]
theorem ag_kd {P : Nat → Prop} {M N : pMem} (h : agr P M N) {a : Nat} (h4 : P 4) (hp : ∀ b, 38 ≤ b → b < 118 → P b) (ha : ∀ b, a ≤ b → b ≤ a + 6 → P b) (hk : kdOk M a) : kdOk N a := by
  obtain ⟨k1, k2, k3, k4, k5⟩ := hk
  have ens : nSp N a = nSp M a := by unfold nSp; rw [ag_row h (ha _ (by omega) (by omega))]
  have es : shS N (a + 1) = shS M (a + 1) := ag_shS h (fun b h1 h2 => ha b (by omega) (by omega))
  unfold kdOk
  rw [ens, es, ag_row h (ha _ (by omega) (by omega)), ag_row h (ha a (by omega) (by omega))]
  refine ⟨k1, k2, k3, k4, fun p hp16 => ?_⟩
  have eck : ∀ v, ckOk N a p v ↔ ckOk M a p v := fun v => by
    unfold ckOk
    rw [ag_wt h h4, ens, es, (pgC_ag h hp hp16).1, ag_shB h (fun b h1 h2 => hp b (by omega) (by omega))]
  rw [eck, (h.1 _ p (ha _ (by omega) (by omega))).2]; exact k5 p hp16
theorem kd_new {M N : pMem} {k : Nat} {T : Nat → Int} (hG : pgM M) (hk : isKd (pgC M) T (k : Int) (mI N (118 + 7 * k) 2) (nSp N (118 + 7 * k)) (shS N (118 + 7 * k + 1))) (hc : mI N (118 + 7 * k + 1) 4 = ((nSp N (118 + 7 * k) : Nat) : Int)) (hl : ∀ j, j < 16 → mL N (118 + 7 * k + 6) j = -1) : kdOk N (118 + 7 * k) := by
  obtain ⟨a1, a2, a3, a4⟩ := isKd_ok hG.2 hk
  exact ⟨hc, a1, a2, ⟨a3, a4⟩, fun p hp => Or.inl (hl p hp)⟩
/-- how remake leaves the memory -/
def rmk (M N : pMem) (k : Int) : Prop := (¬ (0 ≤ k ∧ k < 5) ∧ N = M) ∨ ((0 ≤ k ∧ k < 5) ∧ agr (mkO (118 + 7 * k.toNat)) M N ∧ isKd (pgC M) (mI M 2) k (mI N (118 + 7 * k.toNat) 2) (nSp N (118 + 7 * k.toNat)) (shS N (118 + 7 * k.toNat + 1)) ∧ mI N (118 + 7 * k.toNat + 1) 4 = ((nSp N (118 + 7 * k.toNat) : Nat) : Int) ∧ ∀ j, j < 16 → mL N (118 + 7 * k.toNat + 6) j = -1)
/-- cells that no remake touches -/
def rmO : Nat → Prop := fun b => b < 118 ∧ b ≠ 16 ∧ b ≠ 17 ∧ b ≠ 18 ∨ 153 ≤ b
theorem rmk_o {M N : pMem} {k : Int} (h : rmk M N k) : agr rmO M N := by
  rcases h with ⟨-, rfl⟩ | ⟨h1, h2, -⟩
  · exact agr_rf _ _
  · exact agr_su h2 (fun b hb => by unfold rmO at hb; unfold mkO; omega)
theorem rmk_pg {M N : pMem} {k : Int} (h : agr rmO M N) : pgC N = pgC M → pgM M → pgM N := fun e hG => by
  unfold pgM; rw [e]
  exact ⟨fun p hp => by rw [(h.1 _ 4 (by unfold rmO; omega)).1]; exact hG.1 p hp, hG.2⟩
theorem sameK_pg {P : Nat → Prop} {M N : pMem} (h : agr P M N) (hP : ∀ b, 38 ≤ b → b < 118 → P b) {T : Nat → Int} {k : Int} : sameK (pgC M) (pgC N) T T k := fun q hq => ⟨Iff.rfl, fun _ => ⟨(pgC_ag h hP hq).1.symm, (pgC_ag h hP hq).2.symm⟩⟩
/-- a kind behind a remake, from what was known before it -/
theorem rmk_kd {M N : pMem} {k : Int} {i : Nat} (hG : pgM M) (hi : i < 5) (h : rmk M N k) (hold : k ≠ (i : Int) → kdOk M (118 + 7 * i) ∧ isKd (pgC M) (mI M 2) (i : Int) (mI M (118 + 7 * i) 2) (nSp M (118 + 7 * i)) (shS M (118 + 7 * i + 1))) : kdOk N (118 + 7 * i) ∧ isKd (pgC N) (mI N 2) (i : Int) (mI N (118 + 7 * i) 2) (nSp N (118 + 7 * i)) (shS N (118 + 7 * i + 1)) := by
  have ho := rmk_o h
  have e2 : mI N 2 = mI M 2 := ag_row ho (by unfold rmO; omega)
  have hsm : sameK (pgC M) (pgC N) (mI M 2) (mI M 2) (i : Int) := sameK_pg ho (fun b h1 h2 => by unfold rmO; omega)
  rw [e2]
  by_cases hk : k = (i : Int)
  · subst hk
    rcases h with ⟨h1, -⟩ | ⟨h1, h2, h3, h4, h5⟩
    · omega
    · rw [Int.toNat_natCast] at h2 h3 h4 h5
      exact ⟨kd_new hG h3 h4 h5, isKd_same hsm h3⟩
  · obtain ⟨o1, o2⟩ := hold hk
    rcases h with ⟨h1, rfl⟩ | ⟨h1, h2, -⟩
    · exact ⟨o1, o2⟩
    · have hne : k.toNat ≠ i := by omega
      refine ⟨ag_kd h2 (by unfold mkO; omega) (fun b _ _ => by unfold mkO; omega) (fun b _ _ => by unfold mkO; omega) o1, ?_⟩
      have ens : nSp N (118 + 7 * i) = nSp M (118 + 7 * i) := by unfold nSp; rw [ag_row h2 (by unfold mkO; omega)]
      rw [ens, ag_shS h2 (fun b _ _ => by unfold mkO; omega), ag_row h2 (by unfold mkO; omega)]
      exact isKd_same hsm o2
theorem ag_nr {P : Nat → Prop} {M N : pMem} (h : agr P M N) (h4 : P 4) (hp : ∀ b, 38 ≤ b → b < 118 → P b) {p q : Nat} (hp16 : p < 16) (hq : q < 16) (v : Int) : nrOk N p q v ↔ nrOk M p q v := by
  unfold nrOk
  rw [ag_wt h h4, (pgC_ag h hp hp16).1, (pgC_ag h hp hq).1, ag_shB h (fun b h1 h2 => hp b (by omega) (by omega)), ag_shS h (fun b h1 h2 => hp b (by omega) (by omega))]
theorem ag_pgM {P : Nat → Prop} {M N : pMem} (h : agr P M N) (hp : ∀ b, 38 ≤ b → b < 118 → P b) (hG : pgM M) : pgM N := by
  have pge : ∀ p, p < 16 → (pgC N).1 p = (pgC M).1 p ∧ (pgC N).2 p = (pgC M).2 p := fun p hp16 => pgC_ag h hp hp16
  refine ⟨fun p hp2 => ?_, fun p hp2 => ?_, fun p i j hp2 hi hj => ?_⟩
  · rw [(pge p hp2).1, (h.1 _ 4 (hp _ (by omega) (by omega))).1]; exact hG.1 p hp2
  · rw [(pge p hp2).1, (pge p hp2).2]; exact hG.2.1 p hp2
  · rw [(pge p hp2).1] at hi hj; rw [(pge p hp2).2]; exact hG.2.2 p i j hp2 hi hj
theorem c_tell {g : pG} {M : pMem}  {p : Int} {k : Int} (hi_p : -2147483648 ≤ p ∧ p < 2147483648) (hi_k : -2147483648 ≤ k ∧ k < 2147483648) (hJ : JC M) : pCn g 5 0 0 yX5_tell cX5_tell 4 (some .boolean) SH SH M [.inr (.inr 0), .inl p, .inl k] (fun r M' => ((isP M p ∧ 0 < mI M (38 + 5 * p.toNat) 4 ∧ -1 ≤ k ∧ k < 5) → r = some (.inl 1) ∧ JC M' ∧ agr (fun b => (b < 118 ∧ b ≠ 2 ∧ b ≠ 16 ∧ b ≠ 17 ∧ b ≠ 18) ∨ 153 ≤ b) M M' ∧ mI M' 2 = up (mI M 2) p.toNat k) ∧ (¬ (isP M p ∧ 0 < mI M (38 + 5 * p.toNat) 4 ∧ -1 ≤ k ∧ k < 5) → r = some (.inl 0) ∧ M' = M)) := by
  refine pCn_intro mt_X5_tell (fun X C => ?_)
  have hW := hJ.1
  have hn := hJ.2.2.2.1
  have hkr := JC_kr hJ
  have hbr := JC_br hJ
  show pE g 4 X _ SH M 0 0 0 [some (.inr (.inr 0)), some (.inl p), some (.inl k), none] []
  refine e_aload_n C dX5_tell_0 rfl ?_
  refine e_iload_n C dX5_tell_1 rfl ?_
  refine e_iload_n C dX5_tell_2 rfl ?_
  refine e_callV C (c_isTellable hi_p hi_k hW (by omega) hbr) mt_X5_isTellable s_X5_110 dX5_tell_3 5 sh_0 rfl (fun r M1 hq => ?_)
  obtain ⟨rfl, hM⟩ := hq
  subst M1
  dsimp only [Option.toList_some, List.singleton_append]
  refine e_if_ne C (tgt := 11) dX5_tell_6 (by decide) (by split <;> omega) (fun h_6 => ?_) (fun h_6 => ?_)
  · have htl := ite1.mp h_6
    obtain ⟨q, rfl, hq, hq2⟩ := isP_n hJ htl.1
    refine e_aload_n C dX5_tell_11 rfl ?_
    refine e_getR C f_X5_15 sh_0 (hW 0 1 2 rfl) dX5_tell_12 ?_
    refine e_iload_n C dX5_tell_15 rfl ?_
    refine e_iaload C dX5_tell_16 sh_2 _ rfl (by omega) ?_
    refine e_istore_n C dX5_tell_17 ?_
    refine e_aload_n C dX5_tell_18 rfl ?_
    refine e_getR C f_X5_15 sh_0 (hW 0 1 2 rfl) dX5_tell_19 ?_
    refine e_iload_n C dX5_tell_22 rfl ?_
    refine e_iload_n C dX5_tell_23 rfl ?_
    refine e_iastore C dX5_tell_24 sh_2 _ rfl (by omega) ?_
    have hTq := hJ.2.2.2.2.1 q hq
    have a0 : agr (fun b => b ≠ 2) M (stI M 2 q k) := agr_stI (fun b hb => hb)
    have hWa : pW (stI M 2 q k) := hW
    have hGa : pgM (stI M 2 q k) := ag_pgM a0 (fun b _ _ => by omega) hJ.2.1
    have e2 : mI (stI M 2 q k) 2 = up (mI M 2) q k := by
      funext j
      by_cases e : j = q
      · subst e; rw [stI_s, up_s]
      · rw [stI_n _ _ (Or.inr e), up_n e]
    have hTa : ∀ p, p < 16 → -1 ≤ mI (stI M 2 q k) 2 p ∧ mI (stI M 2 q k) 2 p < 5 := fun p hp => by
      rw [e2]
      by_cases e : p = q
      · subst e; rw [up_s]; omega
      · rw [up_n e]; exact hJ.2.2.2.2.1 p hp
    refine e_aload_n C dX5_tell_25 rfl ?_
    refine e_iload_n C dX5_tell_26 rfl ?_
    refine e_callV C (c_remake (M := stI M 2 q k) (k := mI M 2 q) hWa hGa hTa (by omega)) mt_X5_remake s_X5_107 dX5_tell_27 5 sh_0 rfl (fun rra Mra hqra => ?_)
    obtain ⟨rfl, hrma⟩ := hqra
    dsimp only [Option.toList_none, List.nil_append]
    have hrma : rmk (stI M 2 q k) Mra (mI M 2 q) := hrma
    have oa := rmk_o hrma
    have hWb : pW Mra := agr_W oa hWa
    have hGb : pgM Mra := ag_pgM oa (fun b _ _ => by unfold rmO; omega) hGa
    have e2a : mI Mra 2 = up (mI M 2) q k := (ag_row oa (by unfold rmO; omega)).trans e2
    have hTb : ∀ p, p < 16 → -1 ≤ mI Mra 2 p ∧ mI Mra 2 p < 5 := fun p hp => by rw [e2a, ← e2]; exact hTa p hp
    refine e_aload_n C dX5_tell_30 rfl ?_
    refine e_iload_n C dX5_tell_31 rfl ?_
    refine e_callV C (c_remake (M := Mra) (k := k) hWb hGb hTb (by omega)) mt_X5_remake s_X5_107 dX5_tell_32 5 sh_0 rfl (fun rrb Mrb hqrb => ?_)
    obtain ⟨rfl, hrmb⟩ := hqrb
    dsimp only [Option.toList_none, List.nil_append]
    have hrmb : rmk Mra Mrb k := hrmb
    have ob := rmk_o hrmb
    have a1 : agr (fun b => (b < 118 ∧ b ≠ 2 ∧ b ≠ 16 ∧ b ≠ 17 ∧ b ≠ 18) ∨ 153 ≤ b) M Mrb := agr_tr (agr_su a0 (fun b hb => by omega)) (agr_tr (agr_su oa (fun b hb => by unfold rmO; omega)) (agr_su ob (fun b hb => by unfold rmO; omega)))
    have e2b : mI Mrb 2 = up (mI M 2) q k := (ag_row ob (by unfold rmO; omega)).trans e2a
    have kinds : ∀ i, i < 5 → kdOk Mrb (118 + 7 * i) ∧ isKd (pgC Mrb) (mI Mrb 2) (i : Int) (mI Mrb (118 + 7 * i) 2) (nSp Mrb (118 + 7 * i)) (shS Mrb (118 + 7 * i + 1)) := fun i hi => by
      refine rmk_kd hGb hi hrmb (fun hk2 => rmk_kd hGa hi hrma (fun hk1 => ?_))
      obtain ⟨o1, o2⟩ := hJ.2.2.2.2.2.2.2.2.1 i hi
      refine ⟨ag_kd a0 (by omega) (fun b _ _ => by omega) (fun b _ _ => by omega) o1, ?_⟩
      have ens : nSp (stI M 2 q k) (118 + 7 * i) = nSp M (118 + 7 * i) := by unfold nSp; rw [stI_n _ _ (by omega)]
      rw [ens, ag_shS a0 (fun b _ _ => by omega), stI_n _ _ (by omega), e2]
      refine isKd_same (fun r hr => ⟨?_, fun _ => ⟨(pgC_ag a0 (fun b _ _ => by omega) hr).1.symm, (pgC_ag a0 (fun b _ _ => by omega) hr).2.symm⟩⟩) o2
      by_cases e : r = q
      · subst e; rw [up_s]; constructor <;> intro z <;> omega
      · rw [up_n e]
    have jc : JC Mrb := by
      obtain ⟨h1, h2, h3, h4, h5, h6, h7, h8, h9, h10⟩ := hJ
      have pge : ∀ p, p < 16 → (pgC Mrb).1 p = (pgC M).1 p ∧ (pgC Mrb).2 p = (pgC M).2 p := fun p hp => pgC_ag a1 (fun b _ _ => by omega) hp
      have e0 : ∀ j, mI Mrb 0 j = mI M 0 j := fun j => (a1.1 0 j (by omega)).1
      refine ⟨agr_W a1 h1, ag_pgM a1 (fun b _ _ => by omega) h2, by rw [ag_wt a1 (by omega)]; exact h3, by rw [e0]; exact h4, fun p hp => ?_, fun p hp hle => ?_, by rw [e0, e0, e0]; exact h7, fun p i hp hi => ?_, kinds, fun p r hp hr => ?_⟩
      · rw [e2b, ← e2]; exact hTa p hp
      · rw [e0] at hle
        have hpq : p ≠ q := by omega
        rw [(pge p hp).1, e2b, up_n hpq]; exact h6 p hp hle
      · rw [(pge p hp).1] at hi; rw [(a1.1 _ i (by omega)).1]; exact h8 p i hp hi
      · rw [(a1.1 36 _ (by omega)).1, ag_nr a1 (by omega) (fun b _ _ => by omega) (by omega) hr]; exact h10 p r hp hr
    refine e_iconst C dX5_tell_35 ?_
    exact e_zreturn C dX5_tell_36 (Or.inr rfl) ⟨fun _ => ⟨rfl, jc, a1, e2b⟩, fun z => absurd htl z⟩
  · have htl := fun z => h_6 (ite1.mpr z)
    refine e_iconst C dX5_tell_9 ?_
    exact e_zreturn C dX5_tell_10 (Or.inl rfl) ⟨fun z => absurd z htl, fun _ => ⟨rfl, rfl⟩⟩
