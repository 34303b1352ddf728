/-! ===== a box more ===== -/
theorem shAdd_r {M : pMem} {b m : Nat} {c x y w : Int} : ∀ e j, mR (shAdd M b m c x y w) e j = mR M e j := fun _ _ => rfl
theorem shAdd_l {M : pMem} {b m : Nat} {c x y w : Int} : ∀ e j, mL (shAdd M b m c x y w) e j = mL M e j := fun _ _ => rfl
theorem box_pg {M : pMem} {p n : Nat} {c x y : Int} : (pgC (shAdd M (38 + 5 * p) n c x y 1)).1 p = n + 1 ∧ (pgC (shAdd M (38 + 5 * p) n c x y 1)).2 p = (up (mI M (38 + 5 * p + 2)) n x, up (mI M (38 + 5 * p + 3)) n y, up (mI M (38 + 5 * p + 1)) n c) := by
  refine ⟨?_, ?_⟩
  · show (mI (shAdd M (38 + 5 * p) n c x y 1) (38 + 5 * p) 4).toNat = n + 1
    rw [shAdd_c]; omega
  · show shB (shAdd M (38 + 5 * p) n c x y 1) (38 + 5 * p) = _
    unfold shB
    rw [shAdd_2, shAdd_3, shAdd_1]
theorem box_pn {M : pMem} {p q n : Nat} {c x y : Int} (h : q ≠ p) : (∀ b, 38 + 5 * q ≤ b → b ≤ 38 + 5 * q + 4 → mI (shAdd M (38 + 5 * p) n c x y 1) b = mI M b) ∧ (pgC (shAdd M (38 + 5 * p) n c x y 1)).1 q = (pgC M).1 q ∧ (pgC (shAdd M (38 + 5 * p) n c x y 1)).2 q = (pgC M).2 q := by
  have e : ∀ b, 38 + 5 * q ≤ b → b ≤ 38 + 5 * q + 4 → mI (shAdd M (38 + 5 * p) n c x y 1) b = mI M b := fun b h1 h2 => funext (fun j => shAdd_o (by omega))
  refine ⟨e, ?_, ?_⟩
  · show (mI (shAdd M (38 + 5 * p) n c x y 1) (38 + 5 * q) 4).toNat = (mI M (38 + 5 * q) 4).toNat
    rw [e _ (by omega) (by omega)]
  · show shB (shAdd M (38 + 5 * p) n c x y 1) (38 + 5 * q) = shB M (38 + 5 * q)
    unfold shB
    rw [e _ (by omega) (by omega), e _ (by omega) (by omega), e _ (by omega) (by omega)]
theorem box_ok {M : pMem} {p n : Nat} {c x y : Int} (hG : pgM M) (hp : p < 16) (hn : (pgC M).1 p = n) (hn8 : n < 8) (hx : 0 ≤ x ∧ x ≤ 63) (hy : 0 ≤ y ∧ y ≤ 63) (hc : 1 ≤ c ∧ c ≤ 99) (hf : ∀ j, j < n → mI M (38 + 5 * p + 1) j ≠ c) : pgM (shAdd M (38 + 5 * p) n c x y 1) := by
  refine ⟨fun q hq => ?_, fun q hq => ?_, fun q i j hq hi hj e => ?_⟩
  · by_cases eq : q = p
    · subst eq; rw [box_pg.1, shAdd_c]; omega
    · rw [(box_pn eq).2.1, (box_pn eq).1 _ (by omega) (by omega)]; exact hG.1 q hq
  · by_cases eq : q = p
    · subst eq; rw [box_pg.1, box_pg.2]
      refine ⟨by omega, fun b hb => ?_⟩
      dsimp only
      by_cases eb : b = n
      · subst eb; rw [up_s, up_s, up_s]; exact ⟨hx, hy, hc⟩
      · rw [up_n eb, up_n eb, up_n eb]; exact (hG.2.1 q hq).2 b (by omega)
    · rw [(box_pn eq).2.1, (box_pn eq).2.2]; exact hG.2.1 q hq
  · by_cases eq : q = p
    · subst eq
      rw [box_pg.1] at hi hj
      rw [box_pg.2] at e
      dsimp only at e
      by_cases ei : i = n <;> by_cases ej : j = n
      · omega
      · subst ei; rw [up_s, up_n ej] at e; exact absurd e.symm (hf j (by omega))
      · subst ej; rw [up_s, up_n ei] at e; exact absurd e (hf i (by omega))
      · rw [up_n ei, up_n ej] at e; exact hG.2.2 q i j hq (by omega) (by omega) e
    · rw [(box_pn eq).2.1] at hi hj; rw [(box_pn eq).2.2] at e; exact hG.2.2 q i j hq hi hj e
/-- pages as two memories with the same page rows hold them -/
theorem pg_eq {M N : pMem} (h : ∀ b, 38 ≤ b → b < 118 → mI N b = mI M b) : (∀ p, p < 16 → (pgC N).1 p = (pgC M).1 p ∧ (pgC N).2 p = (pgC M).2 p) ∧ (pgM M → pgM N) := by
  have e : ∀ p, p < 16 → (pgC N).1 p = (pgC M).1 p ∧ (pgC N).2 p = (pgC M).2 p := fun p hp => by
    refine ⟨?_, ?_⟩
    · show (mI N (38 + 5 * p) 4).toNat = (mI M (38 + 5 * p) 4).toNat
      rw [h _ (by omega) (by omega)]
    · show shB N (38 + 5 * p) = shB M (38 + 5 * p)
      unfold shB
      rw [h _ (by omega) (by omega), h _ (by omega) (by omega), h _ (by omega) (by omega)]
  refine ⟨e, fun hG => ⟨fun p hp => ?_, fun p hp => ?_, fun p i j hp hi hj => ?_⟩⟩
  · rw [(e p hp).1, h _ (by omega) (by omega)]; exact hG.1 p hp
  · rw [(e p hp).1, (e p hp).2]; exact hG.2.1 p hp
  · rw [(e p hp).1] at hi hj; rw [(e p hp).2]; exact hG.2.2 p i j hp hi hj
theorem JC_box {M F R : pMem} {p n : Nat} {c x y : Int} (hJ : JC M) (hp : p < 16) (hpn : (p : Int) < mI M 0 12) (hn : (pgC M).1 p = n) (hn8 : n < 8) (hx : 0 ≤ x ∧ x ≤ 63) (hy : 0 ≤ y ∧ y ≤ 63) (hc : 1 ≤ c ∧ c ≤ 99) (hf : ∀ j, j < n → mI M (38 + 5 * p + 1) j ≠ c) (hF : fgt p (shAdd M (38 + 5 * p) n c x y 1) F) :
    (pW F ∧ pgM F ∧ ∀ q, q < 16 → -1 ≤ mI F 2 q ∧ mI F 2 q < 5) ∧ (mI F 2 = mI M 2) ∧ (rmk F R (mI M 2 p) → JC R) := by
  obtain ⟨h1, h2, h3, h4, h5, h6, h7, h8, h9, h10⟩ := hJ
  have hA := box_ok (x := x) (y := y) h2 hp hn hn8 hx hy hc hf
  obtain ⟨f1, f2, f3, f4, f5⟩ := hF
  have eF : ∀ b, 38 ≤ b → b < 118 → mI F b = mI (shAdd M (38 + 5 * p) n c x y 1) b := fun b a _ => funext (fun j => f2 b j (by omega))
  obtain ⟨pe, pm⟩ := pg_eq eF
  have hGF := pm hA
  have hWF : pW F := fun a i b hb => (f1 a i).trans (h1 a i b hb)
  have fo : ∀ b j, b ≠ 36 → (b < 38 + 5 * p ∨ 38 + 5 * p + 4 < b) → mI F b j = mI M b j := fun b j hb hb2 => (f2 b j hb).trans (shAdd_o hb2)
  have e2 : mI F 2 = mI M 2 := funext (fun j => fo 2 j (by decide) (by omega))
  have hTF : ∀ q, q < 16 → -1 ≤ mI F 2 q ∧ mI F 2 q < 5 := fun q hq => by rw [e2]; exact h5 q hq
  refine ⟨⟨hWF, hGF, hTF⟩, e2, fun hr => ?_⟩
  have ewF : wtC F = wtC M := by unfold wtC; rw [fo 4 0 (by decide) (by omega), fo 4 1 (by decide) (by omega), fo 4 2 (by decide) (by omega), fo 4 3 (by decide) (by omega), fo 4 4 (by decide) (by omega)]
  have pn : ∀ q, q < 16 → q ≠ p → (pgC F).1 q = (pgC M).1 q ∧ (pgC F).2 q = (pgC M).2 q := fun q hq hqp => ⟨(pe q hq).1.trans (box_pn hqp).2.1, (pe q hq).2.trans (box_pn hqp).2.2⟩
  have rowF : ∀ q, q < 16 → q ≠ p → ∀ b, 38 + 5 * q ≤ b → b ≤ 38 + 5 * q + 4 → mI F b = mI M b := fun q hq hqp b h1 h2 => funext (fun j => fo b j (by omega) (by omega))
  have kr : ∀ k, k < 5 → ∀ b, 118 + 7 * k ≤ b → b ≤ 118 + 7 * k + 6 → mI F b = mI M b := fun k hk b h1 h2 => funext (fun j => fo b j (by omega) (by omega))
  have ens : ∀ k, k < 5 → nSp F (118 + 7 * k) = nSp M (118 + 7 * k) := fun k hk => by unfold nSp; rw [kr k hk _ (by omega) (by omega)]
  have esk : ∀ k, k < 5 → shS F (118 + 7 * k + 1) = shS M (118 + 7 * k + 1) := fun k hk => by unfold shS; rw [kr k hk _ (by omega) (by omega), kr k hk _ (by omega) (by omega), kr k hk _ (by omega) (by omega), kr k hk _ (by omega) (by omega)]
  have esp : ∀ q, q < 16 → q ≠ p → shB F (38 + 5 * q) = shB M (38 + 5 * q) ∧ shS F (38 + 5 * q) = shS M (38 + 5 * q) := fun q hq hqp => by
    unfold shB shS
    rw [rowF q hq hqp _ (by omega) (by omega), rowF q hq hqp _ (by omega) (by omega), rowF q hq hqp _ (by omega) (by omega), rowF q hq hqp _ (by omega) (by omega)]; exact ⟨rfl, rfl⟩
  have kinds : ∀ i, i < 5 → kdOk R (118 + 7 * i) ∧ isKd (pgC R) (mI R 2) (i : Int) (mI R (118 + 7 * i) 2) (nSp R (118 + 7 * i)) (shS R (118 + 7 * i + 1)) := fun i hi => by
    refine rmk_kd hGF hi hr (fun hk => ?_)
    obtain ⟨⟨k1, k2, k3, k4, k5⟩, o2⟩ := h9 i hi
    refine ⟨?_, ?_⟩
    · unfold kdOk
      rw [ens i hi, esk i hi, kr i hi _ (by omega) (by omega), kr i hi _ (by omega) (by omega)]
      refine ⟨k1, k2, k3, k4, fun q hq => ?_⟩
      by_cases eq : q = p
      · subst eq; exact Or.inl (f5 i hi)
      · rcases f4 (118 + 7 * i + 6) q with z | z
        · rw [z, shAdd_l]
          rcases k5 q hq with y | y
          · exact Or.inl y
          · refine Or.inr ?_
            unfold ckOk at y ⊢
            rw [ewF, (pn q hq eq).1, ens i hi, (esp q hq eq).1, esk i hi]; exact y
        · exact Or.inl z
    · rw [ens i hi, esk i hi, e2, kr i hi _ (by omega) (by omega)]
      refine isKd_same (fun q hq => ⟨Iff.rfl, fun hT => ?_⟩) o2
      have hqp : q ≠ p := fun z => hk (by rw [← z]; exact hT)
      exact ⟨(pn q hq hqp).1.symm, (pn q hq hqp).2.symm⟩
  have ho := rmk_o hr
  have oR : ∀ b, (b < 118 ∧ b ≠ 16 ∧ b ≠ 17 ∧ b ≠ 18 ∨ 153 ≤ b) → mI R b = mI F b := fun b hb => ag_row ho (by unfold rmO; exact hb)
  obtain ⟨pR, pmR⟩ := pg_eq (M := F) (N := R) (fun b h1 h2 => oR b (by omega))
  have e0 : ∀ j, mI R 0 j = mI M 0 j := fun j => by rw [oR 0 (by omega), fo 0 j (by decide) (by omega)]
  have e2R : mI R 2 = mI M 2 := (oR 2 (by omega)).trans e2
  refine ⟨fun a i b hb => (ho.2 a i).trans (hWF a i b hb), pmR hGF, ?_, by rw [e0]; exact h4, fun q hq => by rw [e2R]; exact h5 q hq, fun q hq hle => ?_, by rw [e0, e0, e0]; exact h7, fun q i hq hi => ?_, kinds, fun q r hqr hr16 => ?_⟩
  · have : wtC R = wtC F := by unfold wtC; rw [oR 4 (by omega)]
    rw [this, ewF]; exact h3
  · rw [e0] at hle
    have hqp : q ≠ p := by omega
    rw [(pR q hq).1, (pn q hq hqp).1, e2R]; exact h6 q hq hle
  · rw [(pR q hq).1] at hi
    rw [oR _ (by omega)]
    by_cases eq : q = p
    · subst eq
      rw [(pe q hq).1, box_pg.1] at hi
      rw [f2 _ _ (by omega), shAdd_4]
      by_cases ei : i = n
      · subst ei; rw [up_s]
      · rw [up_n ei]; exact h8 q i hq (by omega)
    · rw [(pn q hq eq).1] at hi
      rw [rowF q hq eq _ (by omega) (by omega)]; exact h8 q i hq hi
  · have hq16 : q < 16 := by omega
    rw [oR 36 (by omega)]
    rcases f3 q r hq16 hr16 with z | ⟨z1, z2, z⟩
    · exact Or.inl z
    · rw [z, shAdd_o (by omega)]
      rcases h10 q r hqr hr16 with y | y
      · exact Or.inl y
      · refine Or.inr ?_
        have ew : wtC R = wtC F := by unfold wtC; rw [oR 4 (by omega)]
        have eb : ∀ s, s < 16 → shB R (38 + 5 * s) = shB F (38 + 5 * s) ∧ shS R (38 + 5 * s) = shS F (38 + 5 * s) := fun s hs => by
          unfold shB shS; rw [oR _ (by omega), oR _ (by omega), oR _ (by omega), oR _ (by omega)]; exact ⟨rfl, rfl⟩
        unfold nrOk at y ⊢
        rw [ew, ewF, (pR q hq16).1, (pR r hr16).1, (pn q hq16 z1).1, (pn r hr16 z2).1, (eb q hq16).1, (eb r hr16).2, (esp q hq16 z1).1, (esp r hr16 z2).2]; exact y
theorem c_box {g : pG} {M : pMem}  {p : Int} {x : Int} {y : Int} {c : Int} (hi_p : -2147483648 ≤ p ∧ p < 2147483648) (hi_x : -2147483648 ≤ x ∧ x < 2147483648) (hi_y : -2147483648 ≤ y ∧ y < 2147483648) (hi_c : -2147483648 ≤ c ∧ c < 2147483648) (hJ : JC M) : pCn g 5 0 0 yX5_box cX5_box 6 (some .int) SH SH M [.inr (.inr 0), .inl p, .inl x, .inl y, .inl c] (fun r M' => ((isP M p ∧ (0 ≤ x ∧ x ≤ 63) ∧ (0 ≤ y ∧ y ≤ 63) ∧ (1 ≤ c ∧ c ≤ 99) ∧ (pgC M).1 p.toNat < 8 ∧ ∀ j, j < (pgC M).1 p.toNat → mI M (38 + 5 * p.toNat + 1) j ≠ c) → r = some (.inl (((pgC M).1 p.toNat : Nat) : Int)) ∧ JC M' ∧ (∀ b j, (b < 118 ∧ b ≠ 16 ∧ b ≠ 17 ∧ b ≠ 18 ∧ b ≠ 36 ∨ 153 ≤ b) → mI M' b j = mI (shAdd M (38 + 5 * p.toNat) ((pgC M).1 p.toNat) c x y 1) b j) ∧ ∀ b j, mR M' b j = mR M b j) ∧ (¬ (isP M p ∧ (0 ≤ x ∧ x ≤ 63) ∧ (0 ≤ y ∧ y ≤ 63) ∧ (1 ≤ c ∧ c ≤ 99) ∧ (pgC M).1 p.toNat < 8 ∧ ∀ j, j < (pgC M).1 p.toNat → mI M (38 + 5 * p.toNat + 1) j ≠ c) → r = some (.inl (-1)) ∧ M' = M)) := by
  refine pCn_intro mt_X5_box (fun X C => ?_)
  have hW := hJ.1
  have hn := hJ.2.2.2.1
  have hkr := JC_kr hJ
  have hbr := JC_br hJ
  show pE g 6 X _ SH M 0 0 0 [some (.inr (.inr 0)), some (.inl p), some (.inl x), some (.inl y), some (.inl c), none] []
  refine e_aload_n C dX5_box_0 rfl ?_
  refine e_iload_n C dX5_box_1 rfl ?_
  refine e_callV C (c_isPage hi_p hn) mt_X5_isPage s_X5_85 dX5_box_2 5 sh_0 rfl (fun r M1 hq => ?_)
  obtain ⟨rfl, hM⟩ := hq
  subst M1
  dsimp only [Option.toList_some, List.singleton_append]
  refine e_if_eq C (tgt := 39) dX5_box_5 (by decide) (by split <;> omega) (fun h_5 => ?_) (fun h_5 => ?_)
  · have b5 := ite0.mp h_5
    refine e_iconst C dX5_box_39 ?_
    exact e_ireturn C dX5_box_40 ⟨fun z => by exfalso; first | exact b5 z.1 | exact b15 z.2.1 | exact b25 z.2.2.1 | exact b36 z.2.2.2.1, fun _ => ⟨rfl, rfl⟩⟩
  · have b5 := ite1.mp h_5
    refine e_iload_n C dX5_box_8 rfl ?_
    refine e_iconst C dX5_box_9 ?_
    refine e_bipush C dX5_box_10 ?_
    refine e_callS C (c_isIn (v := x) (a := 0) (b := 63) (by omega) (by omega) (by omega)) mt_X5_isIn s_X5_89 dX5_box_12 (fun rr12 Mq12 hq12 => ?_)
    obtain ⟨rfl, hMq12⟩ := hq12
    subst Mq12
    dsimp only [Option.toList_some, List.singleton_append]
    refine e_if_eq C (tgt := 39) dX5_box_15 (by decide) (by split <;> omega) (fun h_15 => ?_) (fun h_15 => ?_)
    · have b15 := ite0.mp h_15
      refine e_iconst C dX5_box_39 ?_
      exact e_ireturn C dX5_box_40 ⟨fun z => by exfalso; first | exact b5 z.1 | exact b15 z.2.1 | exact b25 z.2.2.1 | exact b36 z.2.2.2.1, fun _ => ⟨rfl, rfl⟩⟩
    · have b15 := ite1.mp h_15
      refine e_iload_n C dX5_box_18 rfl ?_
      refine e_iconst C dX5_box_19 ?_
      refine e_bipush C dX5_box_20 ?_
      refine e_callS C (c_isIn (v := y) (a := 0) (b := 63) (by omega) (by omega) (by omega)) mt_X5_isIn s_X5_89 dX5_box_22 (fun rr22 Mq22 hq22 => ?_)
      obtain ⟨rfl, hMq22⟩ := hq22
      subst Mq22
      dsimp only [Option.toList_some, List.singleton_append]
      refine e_if_eq C (tgt := 39) dX5_box_25 (by decide) (by split <;> omega) (fun h_25 => ?_) (fun h_25 => ?_)
      · have b25 := ite0.mp h_25
        refine e_iconst C dX5_box_39 ?_
        exact e_ireturn C dX5_box_40 ⟨fun z => by exfalso; first | exact b5 z.1 | exact b15 z.2.1 | exact b25 z.2.2.1 | exact b36 z.2.2.2.1, fun _ => ⟨rfl, rfl⟩⟩
      · have b25 := ite1.mp h_25
        refine e_iload C dX5_box_28 rfl ?_
        refine e_iconst C dX5_box_30 ?_
        refine e_bipush C dX5_box_31 ?_
        refine e_callS C (c_isIn (v := c) (a := 1) (b := 99) (by omega) (by omega) (by omega)) mt_X5_isIn s_X5_89 dX5_box_33 (fun rr33 Mq33 hq33 => ?_)
        obtain ⟨rfl, hMq33⟩ := hq33
        subst Mq33
        dsimp only [Option.toList_some, List.singleton_append]
        refine e_if_ne C (tgt := 41) dX5_box_36 (by decide) (by split <;> omega) (fun h_36 => ?_) (fun h_36 => ?_)
        · have b36 := ite1.mp h_36
          obtain ⟨q, rfl, hq, hq2⟩ := isP_n hJ b5
          rw [Int.toNat_natCast]
          have hG := hJ.2.1
          have hg1 := hG.1 q hq
          have hg8 := hG.2.1 q hq
          obtain ⟨n, hnn⟩ : ∃ n, n = (pgC M).1 q := ⟨_, rfl⟩
          rw [← hnn] at hg1 hg8 ⊢
          refine e_aload_n C dX5_box_41 rfl ?_
          refine e_getR C f_X5_11 sh_0 (hW 0 0 1 rfl) dX5_box_42 ?_
          refine e_iload_n C dX5_box_45 rfl ?_
          refine e_aaload3 C dX5_box_46 sh_1 _ rfl (by omega) (hW 1 q _ (rt_page q hq).1) ?_
          refine e_astore C dX5_box_47 ?_
          refine e_aload C dX5_box_49 rfl ?_
          refine e_getI C f_X5_93 (pSh_page hW hq).1 dX5_box_51 ?_
          rw [hg1]
          refine e_bipush C dX5_box_54 ?_
          refine e_icmp_ge C (tgt := 70) dX5_box_56 (by decide) (by omega) (by omega) (fun h_56 => ?_) (fun h_56 => ?_)
          · have b56 := h_56
            refine e_iconst C dX5_box_70 ?_
            exact e_ireturn C dX5_box_71 ⟨fun z => by exfalso; first | exact b67 z.2.2.2.2.2 | exact absurd z.2.2.2.2.1 (by omega), fun _ => ⟨rfl, rfl⟩⟩
          · have b56 := h_56
            refine e_aload C dX5_box_59 rfl ?_
            refine e_iload C dX5_box_61 rfl ?_
            refine e_callV C (c_find (M := M) (a := 38 + 5 * q) (N := 8) (n := n) (c := c) (pSh_page hW hq) hg1 (by omega) (by omega) (by omega) (fun i hi => by have := (hg8.2 i hi).2.2; unfold pgC shB at this; dsimp only at this; omega)) mt_X4_find s_X5_96 dX5_box_63 4 (pSh_page hW hq).1 rfl (fun rfd Mfd hqfd => ?_)
            obtain ⟨rfl, hMfd⟩ := hqfd
            subst Mfd
            dsimp only [Option.toList_some, List.singleton_append]
            have fs := fndI_sp (mI M (38 + 5 * q + 1)) c n 0
            refine e_iconst C dX5_box_66 ?_
            refine e_icmp_eq C (tgt := 72) dX5_box_67 (by decide) (by rcases fs with ⟨f1, -⟩ | ⟨j, f1, f2, f3, f4⟩ <;> omega) (by omega) (fun h_67 => ?_) (fun h_67 => ?_)
            · have b67 : ∀ j, j < n → mI M (38 + 5 * q + 1) j ≠ c := by
                rcases fs with ⟨-, f2⟩ | ⟨j, f1, f2, f3, f4⟩
                · exact fun j hj => f2 j (by omega) (by omega)
                · omega
              refine e_aload C dX5_box_72 rfl ?_
              refine e_iload C dX5_box_74 rfl ?_
              refine e_iload_n C dX5_box_76 rfl ?_
              refine e_iload_n C dX5_box_77 rfl ?_
              refine e_iconst C dX5_box_78 ?_
              refine e_callV C (c_add (M := M) (a := 38 + 5 * q) (N := 8) (n := n) (c := c) (x := x) (y := y) (w := 1) (pSh_page hW hq) (by omega) hg1 (by omega) (Or.inr rfl)) mt_X4_add s_X5_100 dX5_box_79 4 (pSh_page hW hq).1 rfl (fun rad Mad hqad => ?_)
              obtain ⟨rfl, hMa⟩ := hqad
              subst Mad
              dsimp only [Option.toList_none, List.nil_append]
              refine e_aload_n C dX5_box_82 rfl ?_
              refine e_iload_n C dX5_box_83 rfl ?_
              refine e_callV C (c_forgetPage (M := shAdd M (38 + 5 * q) n c x y 1) (p := q) hW hq) mt_X5_forgetPage s_X5_104 dX5_box_84 5 sh_0 rfl (fun rfg Mfg hqfg => ?_)
              obtain ⟨rfl, hfg⟩ := hqfg
              dsimp only [Option.toList_none, List.nil_append]
              obtain ⟨⟨wF, gF, tF⟩, e2F, jF⟩ := JC_box (R := M) hJ hq hq2 hnn.symm (by omega) b15 b25 b36 b67 hfg
              have hTq := hJ.2.2.2.2.1 q hq
              refine e_aload_n C dX5_box_87 rfl ?_
              refine e_aload_n C dX5_box_88 rfl ?_
              refine e_getR C f_X5_15 sh_0 (wF 0 1 2 rfl) dX5_box_89 ?_
              refine e_iload_n C dX5_box_92 rfl ?_
              refine e_iaload C dX5_box_93 sh_2 _ rfl (by omega) ?_
              rw [e2F]
              refine e_callV C (c_remake (M := Mfg) (k := mI M 2 q) wF gF tF (by omega)) mt_X5_remake s_X5_107 dX5_box_94 5 sh_0 rfl (fun rrm Mrm hqrm => ?_)
              obtain ⟨rfl, hrm⟩ := hqrm
              dsimp only [Option.toList_none, List.nil_append]
              have hrm : rmk Mfg Mrm (mI M 2 q) := hrm
              have jc := (JC_box (R := Mrm) hJ hq hq2 hnn.symm (by omega) b15 b25 b36 b67 hfg).2.2 hrm
              have ho := rmk_o hrm
              have hWr : pW Mrm := jc.1
              have eo : ∀ b j, (b < 118 ∧ b ≠ 16 ∧ b ≠ 17 ∧ b ≠ 18 ∧ b ≠ 36 ∨ 153 ≤ b) → mI Mrm b j = mI (shAdd M (38 + 5 * q) n c x y 1) b j := fun b j hb => by rw [ag_row ho (by unfold rmO; omega), hfg.2.1 b j (by omega)]
              refine e_aload C dX5_box_97 rfl ?_
              refine e_getI C f_X5_93 (pSh_page hW hq).1 dX5_box_99 ?_
              rw [eo _ 4 (by omega), shAdd_c]
              refine e_iconst C dX5_box_102 ?_
              refine e_isub C dX5_box_103 ?_
              rw [Int.add_sub_cancel]
              exact e_ireturn C dX5_box_104 ⟨fun _ => ⟨rfl, jc, eo, fun b j => ((ho.2 b j).trans (hfg.1 b j))⟩, fun z => absurd ⟨b5, b15, b25, b36, by omega, b67⟩ z⟩
            · have b67 : ¬ ∀ j, j < n → mI M (38 + 5 * q + 1) j ≠ c := by
                rcases fs with ⟨f1, -⟩ | ⟨j, f1, f2, f3, f4⟩
                · exact absurd f1 h_67
                · exact fun z => z j (by omega) f3
              refine e_iconst C dX5_box_70 ?_
              exact e_ireturn C dX5_box_71 ⟨fun z => by exfalso; first | exact b67 z.2.2.2.2.2 | exact absurd z.2.2.2.2.1 (by omega), fun _ => ⟨rfl, rfl⟩⟩
        · have b36 := fun z => h_36 (ite1.mpr z)
          refine e_iconst C dX5_box_39 ?_
          exact e_ireturn C dX5_box_40 ⟨fun z => by exfalso; first | exact b5 z.1 | exact b15 z.2.1 | exact b25 z.2.2.1 | exact b36 z.2.2.2.1, fun _ => ⟨rfl, rfl⟩⟩
