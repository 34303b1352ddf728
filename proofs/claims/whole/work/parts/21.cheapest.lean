/-! ===== the cheapest laying ===== -/
/-- nothing but the layer's own cells has changed, and not its weights -/
def agO (M M' : pMem) : Prop := (∀ a j, (a < 4 ∨ 15 ≤ a) → mI M' a j = mI M a j ∧ mL M' a j = mL M a j) ∧ (∀ j, j < 5 → mI M' 4 j = mI M 4 j) ∧ ∀ a j, mR M' a j = mR M a j
theorem agO_rf (M : pMem) : agO M M := ⟨fun _ _ _ => ⟨rfl, rfl⟩, fun _ _ => rfl, fun _ _ => rfl⟩
theorem agO_tr {M N R : pMem} (h : agO M N) (h2 : agO N R) : agO M R := ⟨fun a j hh => ⟨((h2.1 a j hh).1).trans (h.1 a j hh).1, ((h2.1 a j hh).2).trans (h.1 a j hh).2⟩, fun j hj => (h2.2.1 j hj).trans (h.2.1 j hj), fun a j => (h2.2.2 a j).trans (h.2.2 a j)⟩
theorem agO_W {M N : pMem} (h : agO M N) (hW : pW M) : pW N := fun a i b hb => (h.2.2 a i).trans (hW a i b hb)
theorem agO_CM {M : pMem} {x z am : Int} {r5 r6 r7 r8 f u v o sl cf rc : Nat → Int} {c : Int} : agO M (CM (SM (stI (stI M 4 5 x) 4 6 z) am r5 r6 r7 r8) f c u v o sl cf rc) := by
  refine ⟨fun a j h => ⟨?_, ?_⟩, fun j h => ?_, fun a j => rfl⟩
  · unfold CM
    rw [LM_I _ (by omega), stI_n _ _ (by omega)]
    show mI (SM (stI (stI M 4 5 x) 4 6 z) am r5 r6 r7 r8) a j = _
    rw [SM_I _ (by omega), stI_n _ _ (by omega), stI_n _ _ (by omega)]
  · unfold CM
    rw [LM_L _ (by omega)]
    show mL (wrL (SM (stI (stI M 4 5 x) 4 6 z) am r5 r6 r7 r8) 8 f) a j = _
    rw [wrL_n _ _ _ (by omega)]
    unfold SM
    rw [wrL_n _ _ _ (by omega), wrL_n _ _ _ (by omega)]
    show mL (stL (stI (stI M 4 5 x) 4 6 z) 4 7 am) a j = _
    rw [stL_n _ _ (by omega)]; rfl
  · unfold CM
    rw [LM_I _ (by decide), stI_n _ _ (by omega)]
    show mI (SM (stI (stI M 4 5 x) 4 6 z) am r5 r6 r7 r8) 4 j = _
    rw [SM_I _ (by decide), stI_n _ _ (by omega), stI_n _ _ (by omega)]
theorem shB_st {M : pMem} {a : Nat} (h : 15 ≤ a) (i : Nat) (v : Int) : shB (stI M 4 i v) a = shB M a := by
  unfold shB
  have e : ∀ b, 15 ≤ b → mI (stI M 4 i v) b = mI M b := fun b hb => by funext j; exact stI_n _ _ (by omega)
  rw [e _ (by omega), e _ (by omega), e _ (by omega)]
theorem shS_st {M : pMem} {a : Nat} (h : 15 ≤ a) (i : Nat) (v : Int) : shS (stI M 4 i v) a = shS M a := by
  unfold shS
  have e : ∀ b, 15 ≤ b → mI (stI M 4 i v) b = mI M b := fun b hb => by funext j; exact stI_n _ _ (by omega)
  rw [e _ (by omega), e _ (by omega), e _ (by omega), e _ (by omega)]
theorem wO_gW {M : pMem} {w : pWt} {ns nb : Nat} {A : pB} {Z : pS} {am : Int} {r5 r6 r7 r8 : Nat → Int} (hP : suP w ns nb A Z am r5 r6 r7 r8) (hf : mI M 4 1 = w.2.1) {q b c : Nat} (hb : b < nb) (hc : c ≤ ns) : wO (SM M am r5 r6 r7 r8) ns q b c = gW w ns A Z q b c := by
  unfold wO gW gC dgt
  rcases Nat.lt_or_ge c ns with h | h
  · rw [if_pos h, if_pos h, if_pos h]
    obtain ⟨e5, e6, e7⟩ := hP.2.1 c b h hb
    show r7 (b * 17 + c) + mI M 4 1 * 341812114609 * (((r5 (b * 17 + c) + dxo q).natAbs : Int) + ((r6 (b * 17 + c) + dyo q).natAbs : Int)) = _
    rw [e5, e6, e7, hf]
    unfold suV ly
    rw [Int.mul_right_comm]
    omega
  · have e : c = ns := by omega
    subst e
    rw [if_neg (by omega), if_neg (by omega), if_neg (by omega)]
    exact hP.2.2 b hb
theorem key_sO {M : pMem} {w : pWt} {ns nb : Nat} {A : pB} {Z : pS} {am : Int} {r5 r6 r7 r8 : Nat → Int} (hP : suP w ns nb A Z am r5 r6 r7 r8) (hf : mI M 4 1 = w.2.1) (hm : mI M 4 0 = w.1) {q : Nat} {φ : Nat → Nat} (hφ : vA nb ns φ) : stO (SM M am r5 r6 r7 r8) q + sg (fun b => wO (SM M am r5 r6 r7 r8) ns q b (φ b)) nb = key w nb ns A Z q φ := by
  unfold key
  rw [sg_congr (fun b hb => wO_gW hP hf hb (hφ.1 b hb))]
  unfold stO mvc
  show (am + mI M 4 0 * _) * 341812114609 + _ + _ = _
  rw [hP.1, hm]
theorem c_cheapest {g : pG} {M : pMem} {a e Na Ne ca : Nat} (hW : pW M) {ns nb : Nat} (hca : mI M a 4 = (ca : Int)) (hce : mI M e 4 = (ns : Int)) (hcb : nb = if 8 < ca then 8 else ca) (hA : pSh M a Na) (hE : pSh M e Ne) (ha : 15 ≤ a) (he : 15 ≤ e) (hNa : ca ≤ Na ∧ Na ≤ 16) (hNe : ns ≤ Ne ∧ Ne ≤ 16) (hw : wtOk (wtC M)) (hbx : bxOk nb (shB M a)) (hsp : spOk ns (shS M e)) :
    pCn g 4 0 0 yX1_cheapest cX1_cheapest 6 (some .long) SH SH M [.inr (.inr 4), .inr (.inr a), .inr (.inr e)] (fun r M' => ∃ K : Int, r = some (.inr (.inl K)) ∧ isKey (wtC M) nb ns (shB M a) (shS M e) K ∧ agO M M') := by
  refine pCn_intro mt_X1_cheapest (fun X C => ?_)
  have h8 : nb ≤ 8 ∧ nb ≤ ca := by rw [hcb]; split <;> omega
  have en : (if (8 : Int) < (ca : Int) then (8 : Int) else (ca : Int)) = (nb : Int) := by rw [hcb]; split <;> split <;> omega
  have e16 : (if (16 : Int) < (ns : Int) then (16 : Int) else (ns : Int)) = (ns : Int) := by rw [if_neg (by omega)]
  have k6 : mI (stI (stI M 4 5 (nb : Int)) 4 6 (ns : Int)) 4 6 = (ns : Int) := stI_s _ _ _ _
  have k5 : mI (stI (stI M 4 5 (nb : Int)) 4 6 (ns : Int)) 4 5 = (nb : Int) := by rw [stI_n _ _ (by decide)]; exact stI_s _ _ _ _
  show pE g 6 X _ SH M 0 0 0 [some (.inr (.inr 4)), some (.inr (.inr a)), some (.inr (.inr e)), none, none, none] []
  refine e_aload_n C dX1_cheapest_0 rfl ?_
  refine e_aload_n C dX1_cheapest_1 rfl ?_
  refine e_getI C f_X1_74 hA.1 dX1_cheapest_2 ?_
  rw [hca]
  refine e_bipush C dX1_cheapest_5 ?_
  refine e_mmin C s_X1_79 dX1_cheapest_7 (by omega) (by omega) ?_
  rw [en]
  refine e_putI C f_X1_27 sh_4 (hd := dX1_cheapest_10) (hfin := (fun CC T h => by obtain ⟨h1, -⟩ := h; cases h1; rfl)) ?_
  refine e_aload_n C dX1_cheapest_13 rfl ?_
  refine e_aload_n C dX1_cheapest_14 rfl ?_
  refine e_getI C f_X1_74 hE.1 dX1_cheapest_15 ?_
  rw [stI_n _ _ (by omega), hce]
  refine e_bipush C dX1_cheapest_18 ?_
  refine e_mmin C s_X1_79 dX1_cheapest_20 (by omega) (by omega) ?_
  rw [e16]
  refine e_putI C f_X1_30 sh_4 (hd := dX1_cheapest_23) (hfin := (fun CC T h => by obtain ⟨h1, -⟩ := h; cases h1; rfl)) ?_
  refine e_aload_n C dX1_cheapest_26 rfl ?_
  refine e_aload_n C dX1_cheapest_27 rfl ?_
  refine e_aload_n C dX1_cheapest_28 rfl ?_
  refine e_callV C (c_setUp (M := stI (stI M 4 5 (nb : Int)) 4 6 (ns : Int)) (a := a) (e := e) hW k6 (by omega) k5 h8.1 hA hE ha he ⟨by omega, hNa.2⟩ hNe hw (by rw [shB_st ha, shB_st ha]; exact hbx) (by rw [shS_st he, shS_st he]; exact hsp)) mt_X1_setUp s_X1_85 dX1_cheapest_29 1 sh_4 rfl (fun r M1 hq => ?_)
  obtain ⟨am, r5, r6, r7, r8, rfl, rfl, hP⟩ := hq
  rw [shB_st ha, shB_st ha, shS_st he, shS_st he] at hP
  have hP : suP (wtC M) ns nb (shB M a) (shS M e) am r5 r6 r7 r8 := hP
  dsimp only [Option.toList_none, List.nil_append]
  generalize hMS : stI (stI M 4 5 (nb : Int)) 4 6 (ns : Int) = MS at k6 k5
  have f1 : mI MS 4 1 = (wtC M).2.1 := by rw [← hMS]; rfl
  have f0 : mI MS 4 0 = (wtC M).1 := by rw [← hMS]; rfl
  have fW : pW MS := by rw [← hMS]; exact hW
  have hsm := smv_r hw (shS M e) (ns := ns) (by omega)
  have g2 : mI (SM MS am r5 r6 r7 r8) 4 6 = (ns : Int) := k6
  have g3 : mI (SM MS am r5 r6 r7 r8) 4 5 = (nb : Int) := k5
  have g4 : 0 ≤ mI (SM MS am r5 r6 r7 r8) 4 1 ∧ mI (SM MS am r5 r6 r7 r8) 4 1 ≤ 9 := by rw [show mI (SM MS am r5 r6 r7 r8) 4 1 = mI MS 4 1 from rfl, f1]; exact hw.2.1
  have g5 : 0 ≤ mI (SM MS am r5 r6 r7 r8) 4 0 ∧ mI (SM MS am r5 r6 r7 r8) 4 0 ≤ 9 := by rw [show mI (SM MS am r5 r6 r7 r8) 4 0 = mI MS 4 0 from rfl, f0]; exact hw.1
  have g6 : 0 ≤ mL (SM MS am r5 r6 r7 r8) 4 7 ∧ mL (SM MS am r5 r6 r7 r8) 4 7 ≤ 1600 := by rw [show mL (SM MS am r5 r6 r7 r8) 4 7 = am from rfl, hP.1]; omega
  have g7 : ∀ b c, b < nb → c < ns → -63 ≤ mI (SM MS am r5 r6 r7 r8) 5 (b * 17 + c) ∧ mI (SM MS am r5 r6 r7 r8) 5 (b * 17 + c) ≤ 63 := fun b c hb hc => by
    rw [show mI (SM MS am r5 r6 r7 r8) 5 (b * 17 + c) = r5 (b * 17 + c) from rfl, (hP.2.1 c b hc hb).1]
    have := (hbx b hb).1
    have := (hsp c hc).1
    omega
  have g8 : ∀ b c, b < nb → c < ns → -63 ≤ mI (SM MS am r5 r6 r7 r8) 6 (b * 17 + c) ∧ mI (SM MS am r5 r6 r7 r8) 6 (b * 17 + c) ≤ 63 := fun b c hb hc => by
    rw [show mI (SM MS am r5 r6 r7 r8) 6 (b * 17 + c) = r6 (b * 17 + c) from rfl, (hP.2.1 c b hc hb).2.1]
    have := (hbx b hb).2.1
    have := (hsp c hc).2.1
    omega
  have g9 : ∀ o b c, o < 49 → b < nb → c ≤ ns → -444355748991700 ≤ wO (SM MS am r5 r6 r7 r8) ns o b c ∧ wO (SM MS am r5 r6 r7 r8) ns o b c ≤ 444355748991700 := fun o b c ho hb hc => by
    rw [wO_gW hP f1 hb hc]; exact gW_r hw hbx hsp ho hb (by omega)
  have hkn : ∀ q φ, q < 49 → vA nb ns φ → 0 ≤ stO (SM MS am r5 r6 r7 r8) q + sg (fun b => wO (SM MS am r5 r6 r7 r8) ns q b (φ b)) nb ∧ stO (SM MS am r5 r6 r7 r8) q + sg (fun b => wO (SM MS am r5 r6 r7 r8) ns q b (φ b)) nb ≤ 5000000000000000 := fun q φ hq hφ => by
    rw [key_sO hP f1 f0 hφ]; exact key_nn hw hbx hsp hq h8.1 (by omega) hφ
  refine pE_M (CM_e (SM MS am r5 r6 r7 r8)) ?_
  have loop : ∀ (i : Nat) (s : Int × (Nat → Int) × Int × (Nat → Int) × (Nat → Int) × (Nat → Int) × (Nat → Int) × (Nat → Int) × (Nat → Int)), i ≤ 49 → ((∀ b, b < nb → s.2.1 (b * 17 + ns) = mL (SM MS am r5 r6 r7 r8) 8 (b * 17 + ns)) ∧ (∀ q, q < i → ∀ φ, vA nb ns φ → s.1 ≤ key (wtC M) nb ns (shB M a) (shS M e) q φ) ∧ ∃ q, q < 49 ∧ ∃ φ, vA nb ns φ ∧ s.1 = key (wtC M) nb ns (shB M a) (shS M e) q φ) → pE g 6 X (pMQ g SH (fun r M' => ∃ K : Int, r = some (.inr (.inl K)) ∧ isKey (wtC M) nb ns (shB M a) (shS M e) K ∧ agO M M') X 0 0) SH (CM (SM MS am r5 r6 r7 r8) s.2.1 s.2.2.1 s.2.2.2.1 s.2.2.2.2.1 s.2.2.2.2.2.1 s.2.2.2.2.2.2.1 s.2.2.2.2.2.2.2.1 s.2.2.2.2.2.2.2.2) 0 0 45 [some (.inr (.inr 4)), some (.inr (.inr a)), some (.inr (.inr e)), some (.inr (.inl s.1)), none, some (.inl (i : Int))] [] := by
    refine p_for 49 _ _ ?_ ?_
    · rintro ⟨best, fq, cq, uq, vq, oq, sq, tq, rq⟩ ⟨h1, h2, h3⟩
      dsimp only at h1 h2 h3 ⊢
      refine e_iload C dX1_cheapest_45 rfl ?_
      refine e_bipush C dX1_cheapest_47 ?_
      refine e_icmp_ge C (tgt := 66) dX1_cheapest_49 (by decide) (by omega) (by omega) (fun h_49 => ?_) (fun h_49 => by exfalso; omega)
      refine e_lload_n C dX1_cheapest_66 rfl ?_
      exact e_lreturn C dX1_cheapest_67 ⟨best, rfl, ⟨h2, h3⟩, by rw [← hMS]; exact agO_CM⟩
    · rintro i ⟨best, fq, cq, uq, vq, oq, sq, tq, rq⟩ hi ⟨h1, h2, h3⟩ ih
      dsimp only at h1 h2 h3 ih ⊢
      have hbst : 0 ≤ best ∧ best ≤ 1152921504606846976 := by
        obtain ⟨q, hq, φ, hφ, ek⟩ := h3
        have := key_nn hw hbx hsp hq h8.1 (by omega) hφ
        omega
      refine e_iload C dX1_cheapest_45 rfl ?_
      refine e_bipush C dX1_cheapest_47 ?_
      refine e_icmp_ge C (tgt := 66) dX1_cheapest_49 (by decide) (by omega) (by omega) (fun h_49 => by exfalso; omega) (fun h_49 => ?_)
      refine e_aload_n C dX1_cheapest_52 rfl ?_
      refine e_iload C dX1_cheapest_53 rfl ?_
      refine e_lload_n C dX1_cheapest_55 rfl ?_
      refine e_callV C (c_cheapestAt (M := SM MS am r5 r6 r7 r8) (f := fq) (c := cq) (u := uq) (v := vq) (o := oq) (sl := sq) (cf := tq) (rc := rq) (best := best) (q := i) fW g2 (by omega) g3 h8.1 g4 g5 g6 g7 g8 g9 hi h1 hbst) mt_X1_cheapestAt s_X1_91 dX1_cheapest_56 1 sh_4 rfl (fun r55 M5 hq5 => ?_)
      obtain ⟨z5, f5, c5, u5, v5, o5, s5, t5, r5x, rfl, rfl, k1, k2, k3, k4⟩ := hq5
      dsimp only [Option.toList_some, List.singleton_append]
      refine e_lstore_n C dX1_cheapest_59 ?_
      refine e_iinc C dX1_cheapest_60 rfl ?_
      refine e_goto C (tgt := 45) dX1_cheapest_63 (by decide) ?_
      refine ih (z5, f5, c5, u5, v5, o5, s5, t5, r5x) ⟨k1, fun q hq φ hφ => ?_, ?_⟩
      · dsimp only
        rcases Nat.lt_or_ge q i with y | y
        · have := h2 q y φ hφ; omega
        · have eq : q = i := by omega
          subst eq
          have := k3 φ hφ
          rw [key_sO hP f1 f0 hφ] at this; exact this
      · dsimp only
        rcases k4 with y | ⟨φ, y1, y2⟩
        · rw [y]; exact h3
        · exact ⟨i, hi, φ, y1, by rw [y2, key_sO hP f1 f0 y1]⟩
  refine e_aload_n C dX1_cheapest_32 rfl ?_
  refine e_bipush C dX1_cheapest_33 ?_
  refine e_ldc2 C (1152921504606846976) k_X1_89 dX1_cheapest_35 ?_
  refine e_callV C (c_cheapestAt (M := SM MS am r5 r6 r7 r8) (best := 1152921504606846976) (q := 24) fW g2 (by omega) g3 h8.1 g4 g5 g6 g7 g8 g9 (by decide) (fun b hb => rfl) (by decide)) mt_X1_cheapestAt s_X1_91 dX1_cheapest_38 1 sh_4 rfl (fun r6x M6 hq6 => ?_)
  obtain ⟨z6, f6, c6, u6, v6, o6, s6, t6, r66, rfl, rfl, k1, k2, k3, k4⟩ := hq6
  dsimp only [Option.toList_some, List.singleton_append]
  refine e_lstore_n C dX1_cheapest_41 ?_
  refine e_iconst C dX1_cheapest_42 ?_
  refine e_istore C dX1_cheapest_43 ?_
  refine loop 0 (z6, f6, c6, u6, v6, o6, s6, t6, r66) (by omega) ⟨k1, fun q hq => absurd hq (Nat.not_lt_zero q), ?_⟩
  dsimp only
  rcases k4 with y | ⟨φ, y1, y2⟩
  · have y3 := k3 (fun _ => ns) (vA_none nb ns)
    have y4 := hkn 24 (fun _ => ns) (by decide) (vA_none nb ns)
    omega
  · exact ⟨24, by decide, φ, y1, by rw [y2, key_sO hP f1 f0 y1]⟩
