/-! ===== one move ===== -/
def CM (M : pMem) (f : Nat → Int) (c : Int) (u v o sl cf rc : Nat → Int) : pMem := LM (stI (wrL M 8 f) 4 8 c) u v o sl cf rc
theorem CM_w8 (M : pMem) (f h : Nat → Int) (c : Int) (u v o sl cf rc : Nat → Int) : wrL (CM M f c u v o sl cf rc) 8 h = CM M h c u v o sl cf rc := by
  unfold CM LM stI wrL wrI
  simp only [Prod.mk.injEq, and_true, true_and]
  funext b i; (repeat' split) <;> simp_all
theorem CM_48 (M : pMem) (f : Nat → Int) (c e : Int) (u v o sl cf rc : Nat → Int) : stI (CM M f c u v o sl cf rc) 4 8 e = CM M f e u v o sl cf rc := by
  unfold CM LM stI wrL wrI
  simp only [Prod.mk.injEq, and_true]
  funext b i; (repeat' split) <;> simp_all
theorem CM_e (M : pMem) : M = CM M (mL M 8) (mI M 4 8) (mL M 9) (mL M 10) (mI M 11) (mL M 12) (mI M 13) (mI M 14) := by
  unfold CM
  rw [wrL_e, stI_same _ _ _ _ rfl]
  exact LM_e
def dxo (o : Nat) : Int := (o : Int) / 7 - 3
def dyo (o : Nat) : Int := (o : Int) % 7 - 3
def wO (M : pMem) (ns o b c : Nat) : Int := if c < ns then fcV M (dxo o) (dyo o) (b * 17 + c) else mL M 8 (b * 17 + ns)
def stO (M : pMem) (o : Nat) : Int := (mL M 4 7 + mI M 4 0 * (((dxo o).natAbs : Int) + ((dyo o).natAbs : Int))) * 341812114609 + (o : Int) * 6975757441
theorem c_cheapestAt {g : pG} {M : pMem} {f u v o sl cf rc : Nat → Int} {c best : Int} {q : Nat} (hW : pW M) {ns nb : Nat} (hns : mI M 4 6 = (ns : Int)) (hn16 : ns ≤ 16) (hnb : mI M 4 5 = (nb : Int)) (hn8 : nb ≤ 8) (hfar : 0 ≤ mI M 4 1 ∧ mI M 4 1 ≤ 9) (hmv : 0 ≤ mI M 4 0 ∧ mI M 4 0 ≤ 9) (ham : 0 ≤ mL M 4 7 ∧ mL M 4 7 ≤ 1600) (hac : ∀ b c, b < nb → c < ns → -63 ≤ mI M 5 (b * 17 + c) ∧ mI M 5 (b * 17 + c) ≤ 63) (hdn : ∀ b c, b < nb → c < ns → -63 ≤ mI M 6 (b * 17 + c) ∧ mI M 6 (b * 17 + c) ≤ 63) (hB : ∀ o b c, o < 49 → b < nb → c ≤ ns → -444355748991700 ≤ wO M ns o b c ∧ wO M ns o b c ≤ 444355748991700) (hq : q < 49) (hf : ∀ b, b < nb → f (b * 17 + ns) = mL M 8 (b * 17 + ns)) (hbest : 0 ≤ best ∧ best ≤ 1152921504606846976) :
    pCn g 3 0 0 yX1_cheapestAt cX1_cheapestAt 13 (some .long) SH SH (CM M f c u v o sl cf rc) [.inr (.inr 4), .inl (q : Int), .inr (.inl best)] (fun r M' => ∃ (z : Int) (f' : Nat → Int) (c' : Int) (u' v' o' sl' cf' rc' : Nat → Int), r = some (.inr (.inl z)) ∧ M' = CM M f' c' u' v' o' sl' cf' rc' ∧ (∀ b, b < nb → f' (b * 17 + ns) = mL M 8 (b * 17 + ns)) ∧ z ≤ best ∧ (∀ φ, vA nb ns φ → z ≤ stO M q + sg (fun b => wO M ns q b (φ b)) nb) ∧ (z = best ∨ ∃ φ, vA nb ns φ ∧ z = stO M q + sg (fun b => wO M ns q b (φ b)) nb)) := by
  refine pCn_intro mt_X1_cheapestAt (fun X C => ?_)
  have hdx : -3 ≤ dxo q ∧ dxo q ≤ 3 := by unfold dxo; omega
  have hdy : -3 ≤ dyo q ∧ dyo q ≤ 3 := by unfold dyo; omega
  have hab : 0 ≤ ((dxo q).natAbs : Int) + ((dyo q).natAbs : Int) ∧ ((dxo q).natAbs : Int) + ((dyo q).natAbs : Int) ≤ 6 := by omega
  have hmv1 : 0 ≤ mI M 4 0 * (((dxo q).natAbs : Int) + ((dyo q).natAbs : Int)) := Int.mul_nonneg hmv.1 hab.1
  have hmv2 : mI M 4 0 * (((dxo q).natAbs : Int) + ((dyo q).natAbs : Int)) ≤ 9 * 6 := Int.mul_le_mul hmv.2 hab.2 hab.1 (by decide)
  have hst : 0 ≤ stO M q ∧ stO M q ≤ 1000000000000000 := by unfold stO; omega
  show pE g 13 X _ SH (CM M f c u v o sl cf rc) 0 0 0 [some (.inr (.inr 4)), some (.inl (q : Int)), some (.inr (.inl best)), none, none, none, none, none, none, none, none, none, none] []
  refine e_iload_n C dX1_cheapestAt_0 rfl ?_
  refine e_callSN C (c_acrossOf (z := (q : Int)) (by omega)) mt_X5_acrossOf s_X1_114 dX1_cheapestAt_1 (fun r M1 hq => ?_)
  obtain ⟨rfl, hM⟩ := hq
  subst M1
  dsimp only [Option.toList_some, List.singleton_append]
  rw [show (q : Int) / 7 - 3 = dxo q from rfl]
  refine e_istore C dX1_cheapestAt_4 ?_
  refine e_iload_n C dX1_cheapestAt_6 rfl ?_
  refine e_callSN C (c_downOf (z := (q : Int)) (by omega)) mt_X5_downOf s_X1_118 dX1_cheapestAt_7 (fun r M1 hq => ?_)
  obtain ⟨rfl, hM⟩ := hq
  subst M1
  dsimp only [Option.toList_some, List.singleton_append]
  rw [show (q : Int) % 7 - 3 = dyo q from rfl]
  refine e_istore C dX1_cheapestAt_10 ?_
  refine e_aload_n C dX1_cheapestAt_12 rfl ?_
  refine e_getL C f_X1_33 sh_4 dX1_cheapestAt_13 ?_
  rw [show mL (CM M f c u v o sl cf rc) 4 7 = mL M 4 7 from rfl]
  refine e_aload_n C dX1_cheapestAt_16 rfl ?_
  refine e_getI C f_X1_9 sh_4 dX1_cheapestAt_17 ?_
  rw [show mI (CM M f c u v o sl cf rc) 4 0 = mI M 4 0 from rfl]
  refine e_iload C dX1_cheapestAt_20 rfl ?_
  refine e_mabs C s_X1_121 dX1_cheapestAt_22 (by omega) ?_
  refine e_iload C dX1_cheapestAt_25 rfl ?_
  refine e_mabs C s_X1_121 dX1_cheapestAt_27 (by omega) ?_
  refine e_iadd C dX1_cheapestAt_30 ?_
  refine e_imul C dX1_cheapestAt_31 ?_
  refine e_i2l C dX1_cheapestAt_32 (by omega) ?_
  refine e_ladd C dX1_cheapestAt_33 ?_
  refine e_ldc2 C (341812114609) k_X1_107 dX1_cheapestAt_34 ?_
  refine e_lmul C dX1_cheapestAt_37 ?_
  refine e_iload_n C dX1_cheapestAt_38 rfl ?_
  refine e_i2l C dX1_cheapestAt_39 (by omega) ?_
  refine e_ldc2 C (6975757441) k_X1_124 dX1_cheapestAt_40 ?_
  refine e_lmul C dX1_cheapestAt_43 ?_
  refine e_ladd C dX1_cheapestAt_44 ?_
  rw [show (mL M 4 7 + mI M 4 0 * (((dxo q).natAbs : Int) + ((dyo q).natAbs : Int))) * 341812114609 + (q : Int) * 6975757441 = stO M q from rfl]
  refine e_lstore C dX1_cheapestAt_45 ?_
  refine e_aload_n C dX1_cheapestAt_47 rfl ?_
  refine e_iload C dX1_cheapestAt_48 rfl ?_
  refine e_iload C dX1_cheapestAt_50 rfl ?_
  refine e_callV C (c_fill (M := CM M f c u v o sl cf rc) (dx := dxo q) (dy := dyo q) hW hns hn16 hnb hn8 hdx hdy hfar hac hdn) mt_X1_fillCells s_X1_126 dX1_cheapestAt_52 1 sh_4 rfl (fun r M1 hq => ?_)
  obtain ⟨f1, rfl, rfl, hf1⟩ := hq
  dsimp only [Option.toList_none, List.nil_append]
  rw [CM_w8]
  have hw : ∀ b e, b < nb → e ≤ ns → f1 (b * 17 + e) = wO M ns q b e := fun b e hb he => by
    unfold wO
    rcases Nat.lt_or_ge e ns with z | z
    · rw [if_pos z]; exact hf1.1 b e hb z
    · have e2 : e = ns := by omega
      subst e2
      rw [if_neg (by omega)]; exact (hf1.2.2 b hb).trans (hf b hb)
  have hfd : ∀ b, b < nb → f1 (b * 17 + ns) = mL M 8 (b * 17 + ns) := fun b hb => (hf1.2.2 b hb).trans (hf b hb)
  refine e_lload C dX1_cheapestAt_55 rfl ?_
  refine e_aload_n C dX1_cheapestAt_57 rfl ?_
  refine e_callV C (c_lwr (M := CM M f1 c u v o sl cf rc) (w := wO M ns q) (B := 444355748991700) hW hns hn16 hnb hn8 hw (fun b e hb he => hB q b e hq hb he) (by decide)) mt_X1_leastWithoutRivals s_X1_130 dX1_cheapestAt_58 1 sh_4 rfl (fun r2 M2 hq2 => ?_)
  obtain ⟨z1, k1, rfl, rfl, hk1, hz1, hz2, hz3, hz4⟩ := hq2
  dsimp only [Option.toList_some, List.singleton_append]
  rw [CM_48]
  refine e_ladd C dX1_cheapestAt_61 ?_
  refine e_lstore C dX1_cheapestAt_62 ?_
  refine e_lload C dX1_cheapestAt_64 rfl ?_
  refine e_lload_n C dX1_cheapestAt_66 rfl ?_
  refine e_lcmp C dX1_cheapestAt_67 (by omega) (by omega) ?_
  by_cases hge : best ≤ stO M q + z1
  · refine e_if_ge C (tgt := 78) dX1_cheapestAt_68 (by decide) (by (repeat' split) <;> omega) (fun _ => ?_) (fun h => by (repeat' split at h) <;> omega)
    refine e_lload C dX1_cheapestAt_78 rfl ?_
    refine e_lload_n C dX1_cheapestAt_80 rfl ?_
    refine e_mminL C s_X1_134 dX1_cheapestAt_81 (by omega) (by omega) ?_
    exact e_lreturn C dX1_cheapestAt_84 ⟨_, f1, k1, u, v, o, sl, cf, rc, rfl, rfl, hfd, by split <;> omega, fun φ hφ => by have := hz1 φ hφ; split <;> omega, Or.inl (by split <;> omega)⟩
  · rw [if_neg (by omega), if_neg (by omega)]
    refine e_if_ge C (tgt := 78) dX1_cheapestAt_68 (by decide) (by omega) (fun h => absurd h (by decide)) (fun _ => ?_)
    refine e_aload_n C dX1_cheapestAt_71 rfl ?_
    refine e_getI C f_X1_37 sh_4 dX1_cheapestAt_72 ?_
    rw [show mI (CM M f1 k1 u v o sl cf rc) 4 8 = k1 from rfl]
    rcases hk1 with rfl | rfl
    · refine e_if_ne C (tgt := 85) dX1_cheapestAt_75 (by decide) (by omega) (fun h => absurd rfl h) (fun _ => ?_)
      obtain ⟨⟨φ0, p1, p2⟩, p3⟩ := hz2 rfl
      refine e_lload C dX1_cheapestAt_78 rfl ?_
      refine e_lload_n C dX1_cheapestAt_80 rfl ?_
      refine e_mminL C s_X1_134 dX1_cheapestAt_81 (by omega) (by omega) ?_
      exact e_lreturn C dX1_cheapestAt_84 ⟨_, f1, 0, u, v, o, sl, cf, rc, rfl, rfl, hfd, by split <;> omega, fun φ hφ => by have := hz1 φ hφ; split <;> omega, Or.inr ⟨φ0, p1, by rw [p2]; split <;> omega⟩⟩
    · refine e_if_ne C (tgt := 85) dX1_cheapestAt_75 (by decide) (by omega) (fun _ => ?_) (fun h => absurd (by decide) h)
      have loop : ∀ (i : Nat) (s : Int × (Nat → Int) × (Nat → Int) × (Nat → Int) × (Nat → Int) × (Nat → Int) × (Nat → Int)), i ≤ nb → (huI i ns (wO M ns q) s.2.1 s.2.2.1 s.2.2.2.1 ∧ s.1 = stO M q + (sg s.2.1 i + sg s.2.2.1 ns) ∧ ∀ b, i ≤ b → b < nb → s.2.1 b = 0) → pE g 13 X (pMQ g SH (fun r M' => ∃ (z : Int) (f' : Nat → Int) (c' : Int) (u' v' o' sl' cf' rc' : Nat → Int), r = some (.inr (.inl z)) ∧ M' = CM M f' c' u' v' o' sl' cf' rc' ∧ (∀ b, b < nb → f' (b * 17 + ns) = mL M 8 (b * 17 + ns)) ∧ z ≤ best ∧ (∀ φ, vA nb ns φ → z ≤ stO M q + sg (fun b => wO M ns q b (φ b)) nb) ∧ (z = best ∨ ∃ φ, vA nb ns φ ∧ z = stO M q + sg (fun b => wO M ns q b (φ b)) nb)) X 0 0) SH (CM M f1 1 s.2.1 s.2.2.1 s.2.2.2.1 s.2.2.2.2.1 s.2.2.2.2.2.1 s.2.2.2.2.2.2) 0 0 96 [some (.inr (.inr 4)), some (.inl (q : Int)), some (.inr (.inl best)), none, some (.inl (dxo q)), some (.inl (dyo q)), some (.inr (.inl (stO M q))), none, some (.inr (.inl (stO M q + z1))), none, some (.inr (.inl s.1)), none, some (.inl (i : Int))] [] := by
        refine p_for nb _ _ ?_ ?_
        · rintro ⟨tt, u1, v1, o1, s1, c1, r1⟩ ⟨hI, ht, -⟩
          dsimp only at hI ht ⊢
          obtain ⟨⟨φ0, p1, p2⟩, p3⟩ := huI_min hI
          have p4 := hz1 φ0 p1
          have p5 := sg_ub (f := fun b => wO M ns q b (φ0 b)) (b := 444355748991700) (n := nb) (fun i hi => (hB q i _ hq hi (p1.1 i hi)).2)
          refine e_iload C dX1_cheapestAt_96 rfl ?_
          refine e_aload_n C dX1_cheapestAt_98 rfl ?_
          refine e_getI C f_X1_27 sh_4 dX1_cheapestAt_99 ?_
          rw [show mI (CM M f1 1 u1 v1 o1 s1 c1 r1) 4 5 = mI M 4 5 from rfl, hnb]
          refine e_icmp_ge C (tgt := 122) dX1_cheapestAt_102 (by decide) (by omega) (by omega) (fun h_102 => ?_) (fun h_102 => by exfalso; omega)
          refine e_lload C dX1_cheapestAt_122 rfl ?_
          refine e_lload_n C dX1_cheapestAt_124 rfl ?_
          refine e_mminL C s_X1_134 dX1_cheapestAt_125 (by omega) (by omega) ?_
          refine e_lreturn C dX1_cheapestAt_128 ⟨_, f1, 1, u1, v1, o1, s1, c1, r1, rfl, rfl, hfd, by split <;> omega, fun φ hφ => by have := p3 φ hφ; split <;> omega, ?_⟩
          split
          · exact Or.inl rfl
          · exact Or.inr ⟨φ0, p1, by rw [p2]; exact ht⟩
        · rintro i ⟨tt, u1, v1, o1, s1, c1, r1⟩ hi ⟨hI, ht, hu0⟩ ih
          dsimp only at hI ht hu0 ih ⊢
          refine e_iload C dX1_cheapestAt_96 rfl ?_
          refine e_aload_n C dX1_cheapestAt_98 rfl ?_
          refine e_getI C f_X1_27 sh_4 dX1_cheapestAt_99 ?_
          rw [show mI (CM M f1 1 u1 v1 o1 s1 c1 r1) 4 5 = mI M 4 5 from rfl, hnb]
          refine e_icmp_ge C (tgt := 122) dX1_cheapestAt_102 (by decide) (by omega) (by omega) (fun h_102 => by exfalso; omega) (fun h_102 => ?_)
          refine e_lload C dX1_cheapestAt_105 rfl ?_
          refine e_aload_n C dX1_cheapestAt_107 rfl ?_
          refine e_iload C dX1_cheapestAt_108 rfl ?_
          refine e_callV C (c_insert (M := stI (wrL M 8 f1) 4 8 1) (u := u1) (v := v1) (o := o1) (sl := s1) (cf := c1) (rc := r1) (w := wO M ns q) (B := 444355748991700) (k := i) hW hns hn16 (by omega) (fun b e hb he => hw b e (by omega) he) (fun b e hb he => (hB q b e hq (by omega) he).1) (fun b e hb he => (hB q b e hq (by omega) he).2) (by decide) hI (hu0 i (Nat.le_refl _) hi)) mt_X1_insert s_X1_140 dX1_cheapestAt_110 1 sh_4 rfl (fun r3 M3 hq3 => ?_)
          obtain ⟨z3, u3, v3, o3, s3, c3, rc3, rfl, rfl, hI3, hs3, hu3⟩ := hq3
          dsimp only [Option.toList_some, List.singleton_append]
          refine e_ladd C dX1_cheapestAt_113 ?_
          refine e_lstore C dX1_cheapestAt_114 ?_
          refine e_iinc C dX1_cheapestAt_116 rfl ?_
          refine e_goto C (tgt := 96) dX1_cheapestAt_119 (by decide) ?_
          exact ih (tt + z3, u3, v3, o3, s3, c3, rc3) ⟨hI3, by dsimp only; omega, fun b hb1 hb2 => by dsimp only; rw [hu3 b (by omega)]; exact hu0 b (by omega) hb2⟩
      refine e_aload_n C dX1_cheapestAt_85 rfl ?_
      refine e_callV C (c_clearPrices (M := stI (wrL M 8 f1) 4 8 1) (u := u) (v := v) (o := o) (sl := sl) (cf := cf) (rc := rc) hW hns hn16 hnb hn8) mt_X1_clearPrices s_X1_137 dX1_cheapestAt_86 1 sh_4 rfl (fun r4 M4 hq4 => ?_)
      obtain ⟨rfl, hM4⟩ := hq4
      subst M4
      dsimp only [Option.toList_none, List.nil_append]
      refine e_lload C dX1_cheapestAt_89 rfl ?_
      refine e_lstore C dX1_cheapestAt_91 ?_
      refine e_iconst C dX1_cheapestAt_93 ?_
      refine e_istore C dX1_cheapestAt_94 ?_
      refine loop 0 (stO M q, fil u 0 nb, fil v 0 (ns + 1), fil o (-1) (ns + 1), sl, cf, rc) (by omega) ⟨⟨fun b e hb => absurd hb (Nat.not_lt_zero b), fun e he => by dsimp only; rw [fil_i (by omega)]; exact Int.le_refl _, fil_i (by omega), fil_i (by omega), fun e he _ => fil_i (by omega), fun e he hne => absurd (fil_i (by omega)) hne, fun e e2 he _ hne => absurd (fil_i (by omega)) hne, fun b hb => absurd hb (Nat.not_lt_zero b)⟩, ?_, fun b _ hb => fil_i hb⟩
      dsimp only
      rw [sg_congr (f := fil v 0 (ns + 1)) (h := fun _ => 0) (fun e he => fil_i (by omega))]
      have h2 := sg_ub (f := fun _ => (0 : Int)) (b := 0) (n := ns) (fun _ _ => Int.le_refl _)
      have h3 := sg_lb (f := fun _ => (0 : Int)) (b := 0) (n := ns) (fun _ _ => Int.le_refl _)
      simp only [sg]; omega
