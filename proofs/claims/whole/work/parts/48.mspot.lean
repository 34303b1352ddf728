/-! ===== the model's makesSpot ===== -/
theorem stI_row (M : pMem) (a i : Nat) (v : Int) : mI (stI M a i v) a = up (mI M a) i v := by
  funext j
  by_cases e : j = i
  · subst e; rw [stI_s, up_s]
  · rw [stI_n _ _ (Or.inr e), up_n e]
theorem stI_rowN (M : pMem) {a b : Nat} (i : Nat) (v : Int) (h : b ≠ a) : mI (stI M a i v) b = mI M b := funext (fun j => stI_n _ _ (Or.inl h))
theorem wrI_rowN (M : pMem) {a b : Nat} (f : Nat → Int) (h : b ≠ a) : mI (wrI M a f) b = mI M b := funext (fun j => wrI_n _ _ _ h)
theorem sg_tail {f : Nat → Int} {n N : Nat} (hn : n ≤ N) (h : ∀ i, n ≤ i → i < N → f i = 0) : sg f N = sg f n := by
  obtain ⟨m, rfl⟩ : ∃ m, N = n + m := ⟨N - n, by omega⟩
  rw [sg_cut]
  have h1 := sg_ub (f := fun i => f (n + i)) (b := 0) (n := m) (fun i hi => by rw [h (n + i) (by omega) (by omega)]; exact Int.le_refl _)
  have h2 := sg_lb (f := fun i => f (n + i)) (b := 0) (n := m) (fun i hi => by rw [h (n + i) (by omega) (by omega)]; exact Int.le_refl _)
  omega
theorem cnL_app {f : Nat → Int} {n : Nat} {v t : Int} : cnL (up f n v) (n + 1) t = cnL f n t + b01 (v ≤ t) := by
  unfold cnL
  simp only [sg]
  rw [up_s, sg_congr (f := fun i => b01 (up f n v i ≤ t)) (h := fun i => b01 (f i ≤ t)) (fun i hi => by rw [up_n (by omega)])]
def oS (k b j : Nat) : Prop := b ≠ 177 ∧ (b ≠ 161 ∨ j ≠ k) ∧ (b < 162 ∨ 165 < b ∨ j < 16 * k ∨ 16 * k + 16 ≤ j)
def oX (b _j : Nat) : Prop := b ≠ 177 ∧ b ≠ 163 ∧ b ≠ 164
def vxD (G : pPg) (c : Int) (a p : Nat) : Int := if a = 0 then (G.2 p).1 (ixC G p c).toNat else (G.2 p).2.1 (ixC G p c).toNat
theorem wrI_row (M : pMem) (a : Nat) (f : Nat → Int) : mI (wrI M a f) a = f := funext (fun j => wrI_s M a f j)
theorem c_makesSpot {g : pG} {M : pMem} {n k c : Nat} (hW : pW M) (hG : pgN M) (hn : mI M 153 0 = (n : Int)) (hn16 : n ≤ 16) (hT : ∀ p, p < 16 → -1 ≤ mI M 158 p ∧ mI M 158 p < 5) (hT2 : ∀ p, p < 16 → n ≤ p → mI M 158 p = -1) (hk : k < 5) (hc : 1 ≤ c ∧ c ≤ 99) (h160 : mI M 160 k = kTn (mI M 158) (k : Int)) (hpos : 0 < kTn (mI M 158) (k : Int)) (h161 : mI M 161 k = (spc (pgD M) (mI M 158) (k : Int) (c - 1) : Int)) (hkd : kdP (pgD M) (mI M 158) (k : Int) (c - 1) (kdS M k)) : pCn g 2 0 0 yX6_makesSpot cX6_makesSpot 9 none SH SH M [.inr (.inr 153), .inl (k : Int), .inl (c : Int)] (fun r M' => r = none ∧ frD (oS k) M M' ∧ mI M' 161 k = (spc (pgD M) (mI M 158) (k : Int) c : Int) ∧ kdP (pgD M) (mI M 158) (k : Int) c (kdS M' k)) := by
  refine pCn_intro mt_X6_makesSpot (fun X C => ?_)
  have hoz : ∀ p, n ≤ p → p < 16 → ¬ onK (pgD M) (mI M 158) (k : Int) (c : Int) p = true := fun p h1 h2 z => by
    have := (of_decide_eq_true z).1
    have := hT2 p h2 h1
    omega
  have hkn : sg (fun p => b01 (onK (pgD M) (mI M 158) (k : Int) (c : Int) p = true)) n = (knC (pgD M) (mI M 158) (k : Int) (c : Int)) := (sg_tail hn16 (fun p h1 h2 => if_neg (hoz p h1 h2))).symm
  have hkr := kn_r (pgD M) (mI M 158) (k : Int) (c : Int)
  have hs16 := spc_16 (G := (pgD M)) (T := (mI M 158)) (k := (k : Int)) (fun p hp => (hG.2.1 p hp).1)
  have gat : ∀ (S a : Nat) (N : pMem), frD oX M N → a < 2 → (∀ (f : Nat → Int) (q : Nat), (q : Int) = (knC (pgD M) (mI M 158) (k : Int) (c : Int)) → (∀ t, cnL f q t = sg (fun p => b01 (onK (pgD M) (mI M 158) (k : Int) (c : Int) p = true ∧ vxD (pgD M) (c : Int) a p ≤ t)) 16) → (∀ j, j < q → 0 ≤ f j ∧ f j ≤ 63) → pE g 9 X (pMQ g SH (fun r M' => r = none ∧ frD (oS k) M M' ∧ mI M' 161 k = (spc (pgD M) (mI M 158) (k : Int) c : Int) ∧ kdP (pgD M) (mI M 158) (k : Int) c (kdS M' k)) X 0 0) SH (wrI N 177 f) 0 0 162 [some (.inr (.inr 153)), some (.inl (k : Int)), some (.inl (c : Int)), some (.inl (knC (pgD M) (mI M 158) (k : Int) (c : Int))), some (.inl (S : Int)), some (.inl (a : Int)), some (.inl (knC (pgD M) (mI M 158) (k : Int) (c : Int))), some (.inl (n : Int)), none] []) → pE g 9 X (pMQ g SH (fun r M' => r = none ∧ frD (oS k) M M' ∧ mI M' 161 k = (spc (pgD M) (mI M 158) (k : Int) c : Int) ∧ kdP (pgD M) (mI M 158) (k : Int) c (kdS M' k)) X 0 0) SH N 0 0 84 [some (.inr (.inr 153)), some (.inl (k : Int)), some (.inl (c : Int)), some (.inl (knC (pgD M) (mI M 158) (k : Int) (c : Int))), some (.inl (S : Int)), some (.inl (a : Int)), none, none, none] [] := by
    intro S a N hfr ha kont
    have hWN := frD_W hfr hW
    have e0 : mI N 153 0 = (n : Int) := (hfr.1 153 0 (by unfold oX; omega)).trans hn
    have e154 : mI N 154 = mI M 154 := frD_row hfr (fun j => by unfold oX; omega)
    have e155 : mI N 155 = mI M 155 := frD_row hfr (fun j => by unfold oX; omega)
    have e156 : mI N 156 = mI M 156 := frD_row hfr (fun j => by unfold oX; omega)
    have e158 : mI N 158 = mI M 158 := frD_row hfr (fun j => by unfold oX; omega)
    have ePg : pgD N = (pgD M) := frD_pg hfr (fun b j _ _ => by unfold oX; omega)
    have lg : ∀ (i : Nat) (s : Nat × (Nat → Int)), i ≤ n → ((s.1 : Int) = sg (fun p => b01 (onK (pgD M) (mI M 158) (k : Int) (c : Int) p = true)) i ∧ s.1 ≤ i ∧ (∀ t, cnL s.2 s.1 t = sg (fun p => b01 (onK (pgD M) (mI M 158) (k : Int) (c : Int) p = true ∧ vxD (pgD M) (c : Int) a p ≤ t)) i) ∧ ∀ j, j < s.1 → 0 ≤ s.2 j ∧ s.2 j ≤ 63) → pE g 9 X (pMQ g SH (fun r M' => r = none ∧ frD (oS k) M M' ∧ mI M' 161 k = (spc (pgD M) (mI M 158) (k : Int) c : Int) ∧ kdP (pgD M) (mI M 158) (k : Int) c (kdS M' k)) X 0 0) SH (wrI N 177 s.2) 0 0 90 [some (.inr (.inr 153)), some (.inl (k : Int)), some (.inl (c : Int)), some (.inl (knC (pgD M) (mI M 158) (k : Int) (c : Int))), some (.inl (S : Int)), some (.inl (a : Int)), some (.inl (s.1 : Int)), some (.inl (i : Int)), none] [] := by
      refine p_for (n) _ _ ?_ ?_
      · rintro ⟨q, f⟩ ⟨g1, g2, g3, g4⟩
        dsimp only at g1 g2 g3 g4 ⊢
        refine e_iload C dX6_makesSpot_90 rfl ?_
        refine e_aload_n C dX6_makesSpot_92 rfl ?_
        refine e_getI C f_X6_99 sh_153 dX6_makesSpot_93 ?_
        rw [wrI_n _ _ _ (by decide), e0]
        refine e_icmp_ge C (tgt := 162) dX6_makesSpot_96 (by decide) (by omega) (by omega) (fun h_96 => ?_) (fun h_96 => by exfalso; omega)
        have hq : (q : Int) = (knC (pgD M) (mI M 158) (k : Int) (c : Int)) := by rw [g1]; exact hkn
        rw [hq]
        exact kont f q hq (fun t => by rw [g3 t]; exact (sg_tail hn16 (fun p h1 h2 => if_neg (fun z => hoz p h1 h2 z.1))).symm) g4
      · rintro i ⟨q, f⟩ hi ⟨g1, g2, g3, g4⟩ ih
        dsimp only at g1 g2 g3 g4 ⊢
        have hi16 : i < 16 := by omega
        have hTi := hT i hi16
        have h8 := (hG.2.1 i hi16).1
        have hbr := bwV_r (G := (pgD M)) (c := (c : Int)) h8 hi16
        have hno : ¬ onK (pgD M) (mI M 158) (k : Int) (c : Int) i = true → ((q : Int) = sg (fun p => b01 (onK (pgD M) (mI M 158) (k : Int) (c : Int) p = true)) (i + 1) ∧ q ≤ i + 1 ∧ (∀ t, cnL f q t = sg (fun p => b01 (onK (pgD M) (mI M 158) (k : Int) (c : Int) p = true ∧ vxD (pgD M) (c : Int) a p ≤ t)) (i + 1)) ∧ ∀ j, j < q → 0 ≤ f j ∧ f j ≤ 63) := fun z => by
          refine ⟨?_, by omega, fun t => ?_, g4⟩
          · simp only [sg]; rw [show b01 (onK (pgD M) (mI M 158) (k : Int) (c : Int) i = true) = 0 from if_neg z]; omega
          · simp only [sg]; rw [g3, show b01 (onK (pgD M) (mI M 158) (k : Int) (c : Int) i = true ∧ vxD (pgD M) (c : Int) a i ≤ t) = 0 from if_neg (fun y => z y.1)]; omega
        have hyes : onK (pgD M) (mI M 158) (k : Int) (c : Int) i = true → ∀ v : Int, v = vxD (pgD M) (c : Int) a i → (0 ≤ v ∧ v ≤ 63) → (((q + 1 : Nat) : Int) = sg (fun p => b01 (onK (pgD M) (mI M 158) (k : Int) (c : Int) p = true)) (i + 1) ∧ q + 1 ≤ i + 1 ∧ (∀ t, cnL (up f q v) (q + 1) t = sg (fun p => b01 (onK (pgD M) (mI M 158) (k : Int) (c : Int) p = true ∧ vxD (pgD M) (c : Int) a p ≤ t)) (i + 1)) ∧ ∀ j, j < q + 1 → 0 ≤ up f q v j ∧ up f q v j ≤ 63) := fun z v hv hvr => by
          refine ⟨?_, by omega, fun t => ?_, fun j hj => ?_⟩
          · simp only [sg]; rw [show b01 (onK (pgD M) (mI M 158) (k : Int) (c : Int) i = true) = 1 from if_pos z]; omega
          · simp only [sg]; rw [cnL_app, g3, b01_and z, hv]
          · by_cases e : j = q
            · subst e; rw [up_s]; exact hvr
            · rw [up_n e]; exact g4 j (by omega)
        refine e_iload C dX6_makesSpot_90 rfl ?_
        refine e_aload_n C dX6_makesSpot_92 rfl ?_
        refine e_getI C f_X6_99 sh_153 dX6_makesSpot_93 ?_
        rw [wrI_n _ _ _ (by decide), e0]
        refine e_icmp_ge C (tgt := 162) dX6_makesSpot_96 (by decide) (by omega) (by omega) (fun h_96 => by exfalso; omega) (fun h_96 => ?_)
        refine e_aload_n C dX6_makesSpot_99 rfl ?_
        refine e_iload C dX6_makesSpot_100 rfl ?_
        refine e_iload_n C dX6_makesSpot_102 rfl ?_
        refine e_callV C (c_boxWith (M := wrI N 177 f) (p := i) (c := (c : Int)) hWN (by unfold pgN; rw [show pgD (wrI N 177 f) = (pgD M) from ePg, show mI (wrI N 177 f) 154 = mI M 154 from e154]; exact hG) hi16 (by omega)) mt_X6_boxWith s_X6_121 dX6_makesSpot_103 6 sh_153 rfl (fun rb Mb hqb => ?_)
        obtain ⟨rfl, hMb⟩ := hqb
        subst Mb
        dsimp only [Option.toList_some, List.singleton_append]
        rw [show pgD (wrI N 177 f) = (pgD M) from ePg]
        refine e_istore C dX6_makesSpot_106 ?_
        refine e_aload_n C dX6_makesSpot_108 rfl ?_
        refine e_getR C f_X6_22 sh_153 (hWN 153 5 158 rfl) dX6_makesSpot_109 ?_
        refine e_iload C dX6_makesSpot_112 rfl ?_
        refine e_iaload C dX6_makesSpot_114 sh_158 _ rfl (by omega) ?_
        rw [wrI_n _ _ _ (by decide), e158]
        refine e_iload_n C dX6_makesSpot_115 rfl ?_
        refine e_icmp_ne C (tgt := 156) dX6_makesSpot_116 (by decide) (by omega) (by omega) (fun h_116 => ?_) (fun h_116 => ?_)
        · have hI := hno (fun z => h_116 (of_decide_eq_true z).1)
          refine e_iinc C dX6_makesSpot_156 rfl ?_
          refine e_goto C (tgt := 90) dX6_makesSpot_159 (by decide) ?_
          refine pE_f 8 ?_
          rw [show ((i : Int) + 1) = ((i + 1 : Nat) : Int) by omega]
          first | exact ih (q, _) hI | (rw [show ((q : Int) + 1) = ((q + 1 : Nat) : Int) by omega]; exact ih (q + 1, _) hI)
        · refine e_iload C dX6_makesSpot_119 rfl ?_
          refine e_if_lt C (tgt := 156) dX6_makesSpot_121 (by decide) (by omega) (fun h_121 => ?_) (fun h_121 => ?_)
          · have hI := hno (fun z => (of_decide_eq_true z).2 (Classical.byContradiction (fun y => by have := bwV_0.mpr y; omega)))
            refine e_iinc C dX6_makesSpot_156 rfl ?_
            refine e_goto C (tgt := 90) dX6_makesSpot_159 (by decide) ?_
            refine pE_f 8 ?_
            rw [show ((i : Int) + 1) = ((i + 1 : Nat) : Int) by omega]
            first | exact ih (q, _) hI | (rw [show ((q : Int) + 1) = ((q + 1 : Nat) : Int) by omega]; exact ih (q + 1, _) hI)
          · have hon : onK (pgD M) (mI M 158) (k : Int) (c : Int) i = true := decide_eq_true ⟨by omega, bwV_0.mp (by omega)⟩
            obtain ⟨ji, hj1, hj2, hj3⟩ : ∃ j, j < (pgD M).1 i ∧ ((pgD M).2 i).2.2 j = (c : Int) ∧ ixC (pgD M) i (c : Int) = (j : Int) := by
              rcases ixC_sp (pgD M) i (c : Int) with ⟨y, -⟩ | y
              · exact absurd y (of_decide_eq_true hon).2
              · exact y
            have hbe : bwV (pgD M) i (c : Int) = ((8 * i + ji : Nat) : Int) := by unfold bwV; rw [if_neg (by omega), hj3]; omega
            have hbb := (hG.2.1 i hi16).2 ji hj1
            refine e_aload_n C dX6_makesSpot_124 rfl ?_
            refine e_getR C f_X6_90 sh_153 (hWN 153 33 177 rfl) dX6_makesSpot_125 ?_
            refine e_iload C dX6_makesSpot_128 rfl ?_
            refine e_iload C dX6_makesSpot_130 rfl ?_
            refine e_if_ne C (tgt := 145) dX6_makesSpot_132 (by decide) (by omega) (fun h_132 => ?_) (fun h_132 => ?_)
            · have hv : mI M 156 (8 * i + ji) = vxD (pgD M) (c : Int) a i := by unfold vxD; rw [if_neg (by omega), hj3, Int.toNat_natCast]; rfl
              have hI := hyes hon _ hv hbb.2.1
              refine e_aload_n C dX6_makesSpot_145 rfl ?_
              refine e_getR C f_X6_16 sh_153 (hWN 153 3 156 rfl) dX6_makesSpot_146 ?_
              refine e_iload C dX6_makesSpot_149 rfl ?_
              refine e_iaload C dX6_makesSpot_151 sh_156 (8 * i + ji) (by omega) (by omega) ?_
              rw [wrI_n _ _ _ (by decide), e156]
              refine e_iastore C dX6_makesSpot_152 sh_177 _ rfl (by omega) ?_
              rw [stI_wr]
              refine e_iinc C dX6_makesSpot_153 rfl ?_
              refine e_iinc C dX6_makesSpot_156 rfl ?_
              refine e_goto C (tgt := 90) dX6_makesSpot_159 (by decide) ?_
              refine pE_f 8 ?_
              rw [show ((i : Int) + 1) = ((i + 1 : Nat) : Int) by omega]
              first | exact ih (q, _) hI | (rw [show ((q : Int) + 1) = ((q + 1 : Nat) : Int) by omega]; exact ih (q + 1, _) hI)
            · have hv : mI M 155 (8 * i + ji) = vxD (pgD M) (c : Int) a i := by unfold vxD; rw [if_pos (by omega), hj3, Int.toNat_natCast]; rfl
              have hI := hyes hon _ hv hbb.1
              refine e_aload_n C dX6_makesSpot_135 rfl ?_
              refine e_getR C f_X6_13 sh_153 (hWN 153 2 155 rfl) dX6_makesSpot_136 ?_
              refine e_iload C dX6_makesSpot_139 rfl ?_
              refine e_iaload C dX6_makesSpot_141 sh_155 (8 * i + ji) (by omega) (by omega) ?_
              rw [wrI_n _ _ _ (by decide), e155]
              refine e_goto C (tgt := 152) dX6_makesSpot_142 (by decide) ?_
              refine e_iastore C dX6_makesSpot_152 sh_177 _ rfl (by omega) ?_
              rw [stI_wr]
              refine e_iinc C dX6_makesSpot_153 rfl ?_
              refine e_iinc C dX6_makesSpot_156 rfl ?_
              refine e_goto C (tgt := 90) dX6_makesSpot_159 (by decide) ?_
              refine pE_f 8 ?_
              rw [show ((i : Int) + 1) = ((i + 1 : Nat) : Int) by omega]
              first | exact ih (q, _) hI | (rw [show ((q : Int) + 1) = ((q + 1 : Nat) : Int) by omega]; exact ih (q + 1, _) hI)
    refine e_iconst C dX6_makesSpot_84 ?_
    refine e_istore C dX6_makesSpot_85 ?_
    refine e_iconst C dX6_makesSpot_87 ?_
    refine e_istore C dX6_makesSpot_88 ?_
    have hz := lg 0 (0, mI N 177) (by omega) ⟨rfl, Nat.le_refl _, fun t => rfl, fun j hj => by omega⟩
    rw [wrI_e] at hz
    exact hz
  have tl : ∀ (f1 f2 : Nat → Int) (x1 y1 : Int), isSp (pgD M) (mI M 158) (k : Int) (c : Int) = true → (spc (pgD M) (mI M 158) (k : Int) (c - 1)) < 16 → isMed (cvX (pgD M) (mI M 158) (k : Int) (c : Int)) (knC (pgD M) (mI M 158) (k : Int) (c : Int)).toNat x1 → isMed (cvY (pgD M) (mI M 158) (k : Int) (c : Int)) (knC (pgD M) (mI M 158) (k : Int) (c : Int)).toNat y1 → pE g 9 X (pMQ g SH (fun r M' => r = none ∧ frD (oS k) M M' ∧ mI M' 161 k = (spc (pgD M) (mI M 158) (k : Int) c : Int) ∧ kdP (pgD M) (mI M 158) (k : Int) c (kdS M' k)) X 0 0) SH (stI (wrI (stI (wrI M 177 f1) 163 (16 * k + spc (pgD M) (mI M 158) (k : Int) (c - 1)) x1) 177 f2) 164 (16 * k + spc (pgD M) (mI M 158) (k : Int) (c - 1)) y1) 0 0 78 [some (.inr (.inr 153)), some (.inl (k : Int)), some (.inl (c : Int)), some (.inl (knC (pgD M) (mI M 158) (k : Int) (c : Int))), some (.inl ((16 * k + spc (pgD M) (mI M 158) (k : Int) (c - 1)) : Int)), some (.inl 2), none, none, none] [] := by
    intro f1 f2 x1 y1 hsp hsi hx1 hy1
    have hWN : pW (stI (wrI (stI (wrI M 177 f1) 163 (16 * k + spc (pgD M) (mI M 158) (k : Int) (c - 1)) x1) 177 f2) 164 (16 * k + spc (pgD M) (mI M 158) (k : Int) (c - 1)) y1) := hW
    refine e_iload C dX6_makesSpot_78 rfl ?_
    refine e_iconst C dX6_makesSpot_80 ?_
    refine e_icmp_ge C (tgt := 201) dX6_makesSpot_81 (by decide) (by omega) (by omega) (fun h_81 => ?_) (fun h_81 => by exfalso; omega)
    refine e_aload_n C dX6_makesSpot_201 rfl ?_
    refine e_getR C f_X6_44 sh_153 (hWN 153 13 162 rfl) dX6_makesSpot_202 ?_
    refine e_iload C dX6_makesSpot_205 rfl ?_
    refine e_iload_n C dX6_makesSpot_207 rfl ?_
    refine e_iastore C dX6_makesSpot_208 sh_162 (16 * k + spc (pgD M) (mI M 158) (k : Int) (c - 1)) (by omega) (by omega) ?_
    refine e_aload_n C dX6_makesSpot_209 rfl ?_
    refine e_getR C f_X6_53 sh_153 (hWN 153 16 165 rfl) dX6_makesSpot_210 ?_
    refine e_iload C dX6_makesSpot_213 rfl ?_
    refine e_iload_n C dX6_makesSpot_215 rfl ?_
    refine e_aload_n C dX6_makesSpot_216 rfl ?_
    refine e_getR C f_X6_38 sh_153 (hWN 153 11 160 rfl) dX6_makesSpot_217 ?_
    refine e_iload_n C dX6_makesSpot_220 rfl ?_
    refine e_iaload C dX6_makesSpot_221 sh_160 _ rfl (by omega) ?_
    rw [show mI (stI (stI (wrI (stI (wrI M 177 f1) 163 (16 * k + spc (pgD M) (mI M 158) (k : Int) (c - 1)) x1) 177 f2) 164 (16 * k + spc (pgD M) (mI M 158) (k : Int) (c - 1)) y1) 162 (16 * k + spc (pgD M) (mI M 158) (k : Int) (c - 1)) (c : Int)) 160 k = mI M 160 k from rfl, h160]
    refine e_icmp_ne C (tgt := 229) dX6_makesSpot_222 (by decide) (by omega) (by omega) (fun h_222 => ?_) (fun h_222 => ?_)
    · have hI : frD (oS k) M (stI (stI (stI (stI (wrI (stI (wrI M 177 f1) 163 (16 * k + spc (pgD M) (mI M 158) (k : Int) (c - 1)) x1) 177 f2) 164 (16 * k + spc (pgD M) (mI M 158) (k : Int) (c - 1)) y1) 162 (16 * k + spc (pgD M) (mI M 158) (k : Int) (c - 1)) (c : Int)) 165 (16 * k + spc (pgD M) (mI M 158) (k : Int) (c - 1)) 0) 161 k (((spc (pgD M) (mI M 158) (k : Int) (c - 1)) : Int) + 1)) ∧ mI (stI (stI (stI (stI (wrI (stI (wrI M 177 f1) 163 (16 * k + spc (pgD M) (mI M 158) (k : Int) (c - 1)) x1) 177 f2) 164 (16 * k + spc (pgD M) (mI M 158) (k : Int) (c - 1)) y1) 162 (16 * k + spc (pgD M) (mI M 158) (k : Int) (c - 1)) (c : Int)) 165 (16 * k + spc (pgD M) (mI M 158) (k : Int) (c - 1)) 0) 161 k (((spc (pgD M) (mI M 158) (k : Int) (c - 1)) : Int) + 1)) 161 k = (spc (pgD M) (mI M 158) (k : Int) c : Int) ∧ kdP (pgD M) (mI M 158) (k : Int) c (kdS (stI (stI (stI (stI (wrI (stI (wrI M 177 f1) 163 (16 * k + spc (pgD M) (mI M 158) (k : Int) (c - 1)) x1) 177 f2) 164 (16 * k + spc (pgD M) (mI M 158) (k : Int) (c - 1)) y1) 162 (16 * k + spc (pgD M) (mI M 158) (k : Int) (c - 1)) (c : Int)) 165 (16 * k + spc (pgD M) (mI M 158) (k : Int) (c - 1)) 0) 161 k (((spc (pgD M) (mI M 158) (k : Int) (c - 1)) : Int) + 1)) k) := by
        have hky := kdP_yes (Z2 := kdS (stI (stI (stI (stI (wrI (stI (wrI M 177 f1) 163 (16 * k + spc (pgD M) (mI M 158) (k : Int) (c - 1)) x1) 177 f2) 164 (16 * k + spc (pgD M) (mI M 158) (k : Int) (c - 1)) y1) 162 (16 * k + spc (pgD M) (mI M 158) (k : Int) (c - 1)) (c : Int)) 165 (16 * k + spc (pgD M) (mI M 158) (k : Int) (c - 1)) 0) 161 k (((spc (pgD M) (mI M 158) (k : Int) (c - 1)) : Int) + 1)) k) (x := x1) (y := y1) hkd hc.1 hsp ?_ ?_ ?_ ?_ hx1 hy1
        · refine ⟨?_, by rw [stI_s, hky.2]; omega, hky.1⟩
          exact frD_tr (frD_tr (frD_tr (frD_tr (frD_tr (frD_tr (frD_wr (fun j z => z.1 rfl)) (frD_st (fun z => by unfold oS at z; omega))) (frD_wr (fun j z => z.1 rfl))) (frD_st (fun z => by unfold oS at z; omega))) (frD_st (fun z => by unfold oS at z; omega))) (frD_st (fun z => by unfold oS at z; omega))) (frD_st (fun z => by unfold oS at z; omega))
        · show (fun i => mI (stI (stI (stI (stI (wrI (stI (wrI M 177 f1) 163 (16 * k + spc (pgD M) (mI M 158) (k : Int) (c - 1)) x1) 177 f2) 164 (16 * k + spc (pgD M) (mI M 158) (k : Int) (c - 1)) y1) 162 (16 * k + spc (pgD M) (mI M 158) (k : Int) (c - 1)) (c : Int)) 165 (16 * k + spc (pgD M) (mI M 158) (k : Int) (c - 1)) 0) 161 k (((spc (pgD M) (mI M 158) (k : Int) (c - 1)) : Int) + 1)) 163 (16 * k + i)) = _
          rw [stI_rowN _ _ _ (by decide), stI_rowN _ _ _ (by decide), stI_rowN _ _ _ (by decide), stI_rowN _ _ _ (by decide), wrI_rowN _ _ (by decide), stI_row, up_sh, wrI_rowN _ _ (by decide)]; rfl
        · show (fun i => mI (stI (stI (stI (stI (wrI (stI (wrI M 177 f1) 163 (16 * k + spc (pgD M) (mI M 158) (k : Int) (c - 1)) x1) 177 f2) 164 (16 * k + spc (pgD M) (mI M 158) (k : Int) (c - 1)) y1) 162 (16 * k + spc (pgD M) (mI M 158) (k : Int) (c - 1)) (c : Int)) 165 (16 * k + spc (pgD M) (mI M 158) (k : Int) (c - 1)) 0) 161 k (((spc (pgD M) (mI M 158) (k : Int) (c - 1)) : Int) + 1)) 164 (16 * k + i)) = _
          rw [stI_rowN _ _ _ (by decide), stI_rowN _ _ _ (by decide), stI_rowN _ _ _ (by decide), stI_row, up_sh, wrI_rowN _ _ (by decide), stI_rowN _ _ _ (by decide), wrI_rowN _ _ (by decide)]; rfl
        · show (fun i => mI (stI (stI (stI (stI (wrI (stI (wrI M 177 f1) 163 (16 * k + spc (pgD M) (mI M 158) (k : Int) (c - 1)) x1) 177 f2) 164 (16 * k + spc (pgD M) (mI M 158) (k : Int) (c - 1)) y1) 162 (16 * k + spc (pgD M) (mI M 158) (k : Int) (c - 1)) (c : Int)) 165 (16 * k + spc (pgD M) (mI M 158) (k : Int) (c - 1)) 0) 161 k (((spc (pgD M) (mI M 158) (k : Int) (c - 1)) : Int) + 1)) 162 (16 * k + i)) = _
          rw [stI_rowN _ _ _ (by decide), stI_rowN _ _ _ (by decide), stI_row, up_sh, stI_rowN _ _ _ (by decide), wrI_rowN _ _ (by decide), stI_rowN _ _ _ (by decide), wrI_rowN _ _ (by decide)]; rfl
        · show (fun i => mI (stI (stI (stI (stI (wrI (stI (wrI M 177 f1) 163 (16 * k + spc (pgD M) (mI M 158) (k : Int) (c - 1)) x1) 177 f2) 164 (16 * k + spc (pgD M) (mI M 158) (k : Int) (c - 1)) y1) 162 (16 * k + spc (pgD M) (mI M 158) (k : Int) (c - 1)) (c : Int)) 165 (16 * k + spc (pgD M) (mI M 158) (k : Int) (c - 1)) 0) 161 k (((spc (pgD M) (mI M 158) (k : Int) (c - 1)) : Int) + 1)) 165 (16 * k + i)) = _
          rw [stI_rowN _ _ _ (by decide), stI_row, up_sh, stI_rowN _ _ _ (by decide), stI_rowN _ _ _ (by decide), wrI_rowN _ _ (by decide), stI_rowN _ _ _ (by decide), wrI_rowN _ _ (by decide), show b01 ((knC (pgD M) (mI M 158) (k : Int) (c : Int)) = kTn (mI M 158) (k : Int)) = 0 from if_neg h_222]; rfl
      refine e_iconst C dX6_makesSpot_229 ?_
      refine e_bastore C dX6_makesSpot_230 sh_165 (16 * k + spc (pgD M) (mI M 158) (k : Int) (c - 1)) (by omega) (by omega) (by first | exact Or.inl rfl | exact Or.inr rfl) ?_
      refine e_aload_n C dX6_makesSpot_231 rfl ?_
      refine e_getR C f_X6_41 sh_153 (hWN 153 12 161 rfl) dX6_makesSpot_232 ?_
      refine e_iload_n C dX6_makesSpot_235 rfl ?_
      refine e_dup2 C dX6_makesSpot_236 ?_
      refine e_iaload C dX6_makesSpot_237 sh_161 _ rfl (by omega) ?_
      rw [stI_n _ _ (by omega), stI_n _ _ (by omega), stI_n _ _ (by omega), wrI_n _ _ _ (by decide), stI_n _ _ (by omega), wrI_n _ _ _ (by decide), h161]
      refine e_iconst C dX6_makesSpot_238 ?_
      refine e_iadd C dX6_makesSpot_239 ?_
      refine e_iastore C dX6_makesSpot_240 sh_161 _ rfl (by omega) ?_
      exact e_return C dX6_makesSpot_241 ⟨rfl, hI⟩
    · have hI : frD (oS k) M (stI (stI (stI (stI (wrI (stI (wrI M 177 f1) 163 (16 * k + spc (pgD M) (mI M 158) (k : Int) (c - 1)) x1) 177 f2) 164 (16 * k + spc (pgD M) (mI M 158) (k : Int) (c - 1)) y1) 162 (16 * k + spc (pgD M) (mI M 158) (k : Int) (c - 1)) (c : Int)) 165 (16 * k + spc (pgD M) (mI M 158) (k : Int) (c - 1)) 1) 161 k (((spc (pgD M) (mI M 158) (k : Int) (c - 1)) : Int) + 1)) ∧ mI (stI (stI (stI (stI (wrI (stI (wrI M 177 f1) 163 (16 * k + spc (pgD M) (mI M 158) (k : Int) (c - 1)) x1) 177 f2) 164 (16 * k + spc (pgD M) (mI M 158) (k : Int) (c - 1)) y1) 162 (16 * k + spc (pgD M) (mI M 158) (k : Int) (c - 1)) (c : Int)) 165 (16 * k + spc (pgD M) (mI M 158) (k : Int) (c - 1)) 1) 161 k (((spc (pgD M) (mI M 158) (k : Int) (c - 1)) : Int) + 1)) 161 k = (spc (pgD M) (mI M 158) (k : Int) c : Int) ∧ kdP (pgD M) (mI M 158) (k : Int) c (kdS (stI (stI (stI (stI (wrI (stI (wrI M 177 f1) 163 (16 * k + spc (pgD M) (mI M 158) (k : Int) (c - 1)) x1) 177 f2) 164 (16 * k + spc (pgD M) (mI M 158) (k : Int) (c - 1)) y1) 162 (16 * k + spc (pgD M) (mI M 158) (k : Int) (c - 1)) (c : Int)) 165 (16 * k + spc (pgD M) (mI M 158) (k : Int) (c - 1)) 1) 161 k (((spc (pgD M) (mI M 158) (k : Int) (c - 1)) : Int) + 1)) k) := by
        have hky := kdP_yes (Z2 := kdS (stI (stI (stI (stI (wrI (stI (wrI M 177 f1) 163 (16 * k + spc (pgD M) (mI M 158) (k : Int) (c - 1)) x1) 177 f2) 164 (16 * k + spc (pgD M) (mI M 158) (k : Int) (c - 1)) y1) 162 (16 * k + spc (pgD M) (mI M 158) (k : Int) (c - 1)) (c : Int)) 165 (16 * k + spc (pgD M) (mI M 158) (k : Int) (c - 1)) 1) 161 k (((spc (pgD M) (mI M 158) (k : Int) (c - 1)) : Int) + 1)) k) (x := x1) (y := y1) hkd hc.1 hsp ?_ ?_ ?_ ?_ hx1 hy1
        · refine ⟨?_, by rw [stI_s, hky.2]; omega, hky.1⟩
          exact frD_tr (frD_tr (frD_tr (frD_tr (frD_tr (frD_tr (frD_wr (fun j z => z.1 rfl)) (frD_st (fun z => by unfold oS at z; omega))) (frD_wr (fun j z => z.1 rfl))) (frD_st (fun z => by unfold oS at z; omega))) (frD_st (fun z => by unfold oS at z; omega))) (frD_st (fun z => by unfold oS at z; omega))) (frD_st (fun z => by unfold oS at z; omega))
        · show (fun i => mI (stI (stI (stI (stI (wrI (stI (wrI M 177 f1) 163 (16 * k + spc (pgD M) (mI M 158) (k : Int) (c - 1)) x1) 177 f2) 164 (16 * k + spc (pgD M) (mI M 158) (k : Int) (c - 1)) y1) 162 (16 * k + spc (pgD M) (mI M 158) (k : Int) (c - 1)) (c : Int)) 165 (16 * k + spc (pgD M) (mI M 158) (k : Int) (c - 1)) 1) 161 k (((spc (pgD M) (mI M 158) (k : Int) (c - 1)) : Int) + 1)) 163 (16 * k + i)) = _
          rw [stI_rowN _ _ _ (by decide), stI_rowN _ _ _ (by decide), stI_rowN _ _ _ (by decide), stI_rowN _ _ _ (by decide), wrI_rowN _ _ (by decide), stI_row, up_sh, wrI_rowN _ _ (by decide)]; rfl
        · show (fun i => mI (stI (stI (stI (stI (wrI (stI (wrI M 177 f1) 163 (16 * k + spc (pgD M) (mI M 158) (k : Int) (c - 1)) x1) 177 f2) 164 (16 * k + spc (pgD M) (mI M 158) (k : Int) (c - 1)) y1) 162 (16 * k + spc (pgD M) (mI M 158) (k : Int) (c - 1)) (c : Int)) 165 (16 * k + spc (pgD M) (mI M 158) (k : Int) (c - 1)) 1) 161 k (((spc (pgD M) (mI M 158) (k : Int) (c - 1)) : Int) + 1)) 164 (16 * k + i)) = _
          rw [stI_rowN _ _ _ (by decide), stI_rowN _ _ _ (by decide), stI_rowN _ _ _ (by decide), stI_row, up_sh, wrI_rowN _ _ (by decide), stI_rowN _ _ _ (by decide), wrI_rowN _ _ (by decide)]; rfl
        · show (fun i => mI (stI (stI (stI (stI (wrI (stI (wrI M 177 f1) 163 (16 * k + spc (pgD M) (mI M 158) (k : Int) (c - 1)) x1) 177 f2) 164 (16 * k + spc (pgD M) (mI M 158) (k : Int) (c - 1)) y1) 162 (16 * k + spc (pgD M) (mI M 158) (k : Int) (c - 1)) (c : Int)) 165 (16 * k + spc (pgD M) (mI M 158) (k : Int) (c - 1)) 1) 161 k (((spc (pgD M) (mI M 158) (k : Int) (c - 1)) : Int) + 1)) 162 (16 * k + i)) = _
          rw [stI_rowN _ _ _ (by decide), stI_rowN _ _ _ (by decide), stI_row, up_sh, stI_rowN _ _ _ (by decide), wrI_rowN _ _ (by decide), stI_rowN _ _ _ (by decide), wrI_rowN _ _ (by decide)]; rfl
        · show (fun i => mI (stI (stI (stI (stI (wrI (stI (wrI M 177 f1) 163 (16 * k + spc (pgD M) (mI M 158) (k : Int) (c - 1)) x1) 177 f2) 164 (16 * k + spc (pgD M) (mI M 158) (k : Int) (c - 1)) y1) 162 (16 * k + spc (pgD M) (mI M 158) (k : Int) (c - 1)) (c : Int)) 165 (16 * k + spc (pgD M) (mI M 158) (k : Int) (c - 1)) 1) 161 k (((spc (pgD M) (mI M 158) (k : Int) (c - 1)) : Int) + 1)) 165 (16 * k + i)) = _
          rw [stI_rowN _ _ _ (by decide), stI_row, up_sh, stI_rowN _ _ _ (by decide), stI_rowN _ _ _ (by decide), wrI_rowN _ _ (by decide), stI_rowN _ _ _ (by decide), wrI_rowN _ _ (by decide), show b01 ((knC (pgD M) (mI M 158) (k : Int) (c : Int)) = kTn (mI M 158) (k : Int)) = 1 from if_pos (Classical.not_not.mp h_222)]; rfl
      refine e_iconst C dX6_makesSpot_225 ?_
      refine e_goto C (tgt := 230) dX6_makesSpot_226 (by decide) ?_
      refine e_bastore C dX6_makesSpot_230 sh_165 (16 * k + spc (pgD M) (mI M 158) (k : Int) (c - 1)) (by omega) (by omega) (by first | exact Or.inl rfl | exact Or.inr rfl) ?_
      refine e_aload_n C dX6_makesSpot_231 rfl ?_
      refine e_getR C f_X6_41 sh_153 (hWN 153 12 161 rfl) dX6_makesSpot_232 ?_
      refine e_iload_n C dX6_makesSpot_235 rfl ?_
      refine e_dup2 C dX6_makesSpot_236 ?_
      refine e_iaload C dX6_makesSpot_237 sh_161 _ rfl (by omega) ?_
      rw [stI_n _ _ (by omega), stI_n _ _ (by omega), stI_n _ _ (by omega), wrI_n _ _ _ (by decide), stI_n _ _ (by omega), wrI_n _ _ _ (by decide), h161]
      refine e_iconst C dX6_makesSpot_238 ?_
      refine e_iadd C dX6_makesSpot_239 ?_
      refine e_iastore C dX6_makesSpot_240 sh_161 _ rfl (by omega) ?_
      exact e_return C dX6_makesSpot_241 ⟨rfl, hI⟩
  have ax1 : ∀ (f1 : Nat → Int) (x1 : Int), isSp (pgD M) (mI M 158) (k : Int) (c : Int) = true → (spc (pgD M) (mI M 158) (k : Int) (c - 1)) < 16 → isMed (cvX (pgD M) (mI M 158) (k : Int) (c : Int)) (knC (pgD M) (mI M 158) (k : Int) (c : Int)).toNat x1 → pE g 9 X (pMQ g SH (fun r M' => r = none ∧ frD (oS k) M M' ∧ mI M' 161 k = (spc (pgD M) (mI M 158) (k : Int) c : Int) ∧ kdP (pgD M) (mI M 158) (k : Int) c (kdS M' k)) X 0 0) SH (stI (wrI M 177 f1) 163 (16 * k + spc (pgD M) (mI M 158) (k : Int) (c - 1)) x1) 0 0 78 [some (.inr (.inr 153)), some (.inl (k : Int)), some (.inl (c : Int)), some (.inl (knC (pgD M) (mI M 158) (k : Int) (c : Int))), some (.inl ((16 * k + spc (pgD M) (mI M 158) (k : Int) (c - 1)) : Int)), some (.inl 1), none, none, none] [] := by
    intro f1 x1 hsp hsi hx1
    have hkp : 0 < (knC (pgD M) (mI M 158) (k : Int) (c : Int)) := (of_decide_eq_true hsp).1
    refine e_iload C dX6_makesSpot_78 rfl ?_
    refine e_iconst C dX6_makesSpot_80 ?_
    refine e_icmp_ge C (tgt := 201) dX6_makesSpot_81 (by decide) (by omega) (by omega) (fun h_81 => by exfalso; omega) (fun h_81 => ?_)
    refine gat (16 * k + spc (pgD M) (mI M 158) (k : Int) (c - 1)) 1 (stI (wrI M 177 f1) 163 (16 * k + spc (pgD M) (mI M 158) (k : Int) (c - 1)) x1) (frD_tr (frD_wr (fun j z => z.1 rfl)) (frD_st (fun z => z.2.1 rfl))) (by decide) (fun f q hq g3 g4 => ?_)
    have hmd := c_middleD (g := g) (M := wrI (stI (wrI M 177 f1) 163 (16 * k + spc (pgD M) (mI M 158) (k : Int) (c - 1)) x1) 177 f) (n := q) hW (by omega) (fun j hj => by rw [wrI_s]; exact g4 j hj)
    rw [hq] at hmd
    refine e_aload_n C dX6_makesSpot_162 rfl ?_
    refine e_iload_n C dX6_makesSpot_163 rfl ?_
    refine e_callV C (hmd) mt_X6_middle s_X6_125 dX6_makesSpot_164 6 sh_153 rfl (fun rm Mm hqm => ?_)
    obtain ⟨f2, rfl, hMm, hs1, hs2⟩ := hqm
    subst Mm
    dsimp only [Option.toList_some, List.singleton_append]
    rw [wrI_w]
    refine e_istore C dX6_makesSpot_167 ?_
    refine e_iload C dX6_makesSpot_169 rfl ?_
    refine e_if_ne C (tgt := 186) dX6_makesSpot_171 (by decide) (by decide) (fun h_171 => ?_) (fun h_171 => by exact absurd (by decide) h_171)
    refine e_aload_n C dX6_makesSpot_186 rfl ?_
    refine e_getR C f_X6_50 sh_153 (hW 153 15 164 rfl) dX6_makesSpot_187 ?_
    refine e_iload C dX6_makesSpot_190 rfl ?_
    refine e_iload C dX6_makesSpot_192 rfl ?_
    refine e_iastore C dX6_makesSpot_194 sh_164 (16 * k + spc (pgD M) (mI M 158) (k : Int) (c - 1)) (by omega) (by omega) ?_
    refine e_iinc C dX6_makesSpot_195 rfl ?_
    refine e_goto C (tgt := 78) dX6_makesSpot_198 (by decide) ?_
    refine pE_f 7 ?_
    refine pE_f 6 ?_
    refine tl f1 f2 x1 _ hsp hsi hx1 ⟨f2, by rw [← hq]; exact hs1, fun t => ?_, by rw [← hq, Int.toNat_natCast]⟩
    rw [← hq, Int.toNat_natCast, hs2, wrI_row, g3]
    rfl
  have ax0 : isSp (pgD M) (mI M 158) (k : Int) (c : Int) = true → (spc (pgD M) (mI M 158) (k : Int) (c - 1)) < 16 → pE g 9 X (pMQ g SH (fun r M' => r = none ∧ frD (oS k) M M' ∧ mI M' 161 k = (spc (pgD M) (mI M 158) (k : Int) c : Int) ∧ kdP (pgD M) (mI M 158) (k : Int) c (kdS M' k)) X 0 0) SH M 0 0 78 [some (.inr (.inr 153)), some (.inl (k : Int)), some (.inl (c : Int)), some (.inl (knC (pgD M) (mI M 158) (k : Int) (c : Int))), some (.inl ((16 * k + spc (pgD M) (mI M 158) (k : Int) (c - 1)) : Int)), some (.inl 0), none, none, none] [] := by
    intro hsp hsi
    have hkp : 0 < (knC (pgD M) (mI M 158) (k : Int) (c : Int)) := (of_decide_eq_true hsp).1
    refine e_iload C dX6_makesSpot_78 rfl ?_
    refine e_iconst C dX6_makesSpot_80 ?_
    refine e_icmp_ge C (tgt := 201) dX6_makesSpot_81 (by decide) (by omega) (by omega) (fun h_81 => by exfalso; omega) (fun h_81 => ?_)
    refine gat (16 * k + spc (pgD M) (mI M 158) (k : Int) (c - 1)) 0 M frD_rf (by decide) (fun f q hq g3 g4 => ?_)
    have hmd := c_middleD (g := g) (M := wrI M 177 f) (n := q) hW (by omega) (fun j hj => by rw [wrI_s]; exact g4 j hj)
    rw [hq] at hmd
    refine e_aload_n C dX6_makesSpot_162 rfl ?_
    refine e_iload_n C dX6_makesSpot_163 rfl ?_
    refine e_callV C (hmd) mt_X6_middle s_X6_125 dX6_makesSpot_164 6 sh_153 rfl (fun rm Mm hqm => ?_)
    obtain ⟨f1, rfl, hMm, hs1, hs2⟩ := hqm
    subst Mm
    dsimp only [Option.toList_some, List.singleton_append]
    rw [wrI_w]
    refine e_istore C dX6_makesSpot_167 ?_
    refine e_iload C dX6_makesSpot_169 rfl ?_
    refine e_if_ne C (tgt := 186) dX6_makesSpot_171 (by decide) (by decide) (fun h_171 => by exact absurd rfl h_171) (fun h_171 => ?_)
    refine e_aload_n C dX6_makesSpot_174 rfl ?_
    refine e_getR C f_X6_47 sh_153 (hW 153 14 163 rfl) dX6_makesSpot_175 ?_
    refine e_iload C dX6_makesSpot_178 rfl ?_
    refine e_iload C dX6_makesSpot_180 rfl ?_
    refine e_iastore C dX6_makesSpot_182 sh_163 (16 * k + spc (pgD M) (mI M 158) (k : Int) (c - 1)) (by omega) (by omega) ?_
    refine e_goto C (tgt := 195) dX6_makesSpot_183 (by decide) ?_
    refine e_iinc C dX6_makesSpot_195 rfl ?_
    refine e_goto C (tgt := 78) dX6_makesSpot_198 (by decide) ?_
    refine pE_f 7 ?_
    refine pE_f 6 ?_
    refine ax1 f1 _ hsp hsi ⟨f1, by rw [← hq]; exact hs1, fun t => ?_, by rw [← hq, Int.toNat_natCast]⟩
    rw [← hq, Int.toNat_natCast, hs2, wrI_row, g3]
    rfl
  have lc : ∀ (i : Nat) (u : Unit), i ≤ n → True → pE g 9 X (pMQ g SH (fun r M' => r = none ∧ frD (oS k) M M' ∧ mI M' 161 k = (spc (pgD M) (mI M 158) (k : Int) c : Int) ∧ kdP (pgD M) (mI M 158) (k : Int) c (kdS M' k)) X 0 0) SH M 0 0 5 [some (.inr (.inr 153)), some (.inl (k : Int)), some (.inl (c : Int)), some (.inl (sg (fun p => b01 (onK (pgD M) (mI M 158) (k : Int) (c : Int) p = true)) i)), some (.inl (i : Int)), none, none, none, none] [] := by
    refine p_for (n) _ _ ?_ ?_
    · rintro u hu
      refine e_iload C dX6_makesSpot_5 rfl ?_
      refine e_aload_n C dX6_makesSpot_7 rfl ?_
      refine e_getI C f_X6_99 sh_153 dX6_makesSpot_8 ?_
      rw [hn, hkn]
      refine e_icmp_ge C (tgt := 49) dX6_makesSpot_11 (by decide) (by omega) (by omega) (fun h_11 => ?_) (fun h_11 => by exfalso; omega)
      refine e_iconst C dX6_makesSpot_49 ?_
      refine e_iload_n C dX6_makesSpot_50 rfl ?_
      refine e_imul C dX6_makesSpot_51 ?_
      refine e_aload_n C dX6_makesSpot_52 rfl ?_
      refine e_getR C f_X6_38 sh_153 (hW 153 11 160 rfl) dX6_makesSpot_53 ?_
      refine e_iload_n C dX6_makesSpot_56 rfl ?_
      refine e_iaload C dX6_makesSpot_57 sh_160 _ rfl (by omega) ?_
      rw [h160]
      refine e_icmp_ge C (tgt := 62) dX6_makesSpot_58 (by decide) (by omega) (by omega) (fun h_58 => ?_) (fun h_58 => ?_)
      · have hsp : isSp (pgD M) (mI M 158) (k : Int) (c : Int) = true := decide_eq_true ⟨by omega, by omega⟩
        have hsi : (spc (pgD M) (mI M 158) (k : Int) (c - 1)) < 16 := by
          have h1 := spc_mono (G := (pgD M)) (T := (mI M 158)) (k := (k : Int)) hc.2
          obtain ⟨d, rfl⟩ : ∃ d, c = d + 1 := ⟨c - 1, by omega⟩
          have h2 : spc (pgD M) (mI M 158) (k : Int) (d + 1) = spc (pgD M) (mI M 158) (k : Int) d + 1 := by simp only [spc]; rw [if_pos hsp]
          rw [h2] at h1
          rw [Nat.add_sub_cancel]
          omega
        refine e_bipush C dX6_makesSpot_62 ?_
        refine e_iload_n C dX6_makesSpot_64 rfl ?_
        refine e_imul C dX6_makesSpot_65 ?_
        refine e_aload_n C dX6_makesSpot_66 rfl ?_
        refine e_getR C f_X6_41 sh_153 (hW 153 12 161 rfl) dX6_makesSpot_67 ?_
        refine e_iload_n C dX6_makesSpot_70 rfl ?_
        refine e_iaload C dX6_makesSpot_71 sh_161 _ rfl (by omega) ?_
        rw [h161]
        refine e_iadd C dX6_makesSpot_72 ?_
        refine e_istore C dX6_makesSpot_73 ?_
        refine e_iconst C dX6_makesSpot_75 ?_
        refine e_istore C dX6_makesSpot_76 ?_
        have hz := ax0 hsp hsi
        exact hz
      · have hno := kdP_no hkd hc.1 (fun z => h_58 (of_decide_eq_true z).2)
        exact e_return C dX6_makesSpot_61 ⟨rfl, frD_rf, by rw [h161, hno.2], hno.1⟩
    · rintro i u hi hu ih
      have hi16 : i < 16 := by omega
      have hTi := hT i hi16
      have h8 := (hG.2.1 i hi16).1
      have hbr := bwV_r (G := (pgD M)) (c := (c : Int)) h8 hi16
      have hno : ¬ onK (pgD M) (mI M 158) (k : Int) (c : Int) i = true → sg (fun p => b01 (onK (pgD M) (mI M 158) (k : Int) (c : Int) p = true)) i + 0 = sg (fun p => b01 (onK (pgD M) (mI M 158) (k : Int) (c : Int) p = true)) (i + 1) := fun z => by
        simp only [sg]; rw [show b01 (onK (pgD M) (mI M 158) (k : Int) (c : Int) i = true) = 0 from if_neg z]
      refine e_iload C dX6_makesSpot_5 rfl ?_
      refine e_aload_n C dX6_makesSpot_7 rfl ?_
      refine e_getI C f_X6_99 sh_153 dX6_makesSpot_8 ?_
      rw [hn]
      refine e_icmp_ge C (tgt := 49) dX6_makesSpot_11 (by decide) (by omega) (by omega) (fun h_11 => by exfalso; omega) (fun h_11 => ?_)
      refine e_iload_n C dX6_makesSpot_14 rfl ?_
      refine e_aload_n C dX6_makesSpot_15 rfl ?_
      refine e_getR C f_X6_22 sh_153 (hW 153 5 158 rfl) dX6_makesSpot_16 ?_
      refine e_iload C dX6_makesSpot_19 rfl ?_
      refine e_iaload C dX6_makesSpot_21 sh_158 _ rfl (by omega) ?_
      refine e_iload_n C dX6_makesSpot_22 rfl ?_
      refine e_icmp_ne C (tgt := 40) dX6_makesSpot_23 (by decide) (by omega) (by omega) (fun h_23 => ?_) (fun h_23 => ?_)
      · have hI := hno (fun z => h_23 (of_decide_eq_true z).1)
        refine e_iconst C dX6_makesSpot_40 ?_
        refine e_iadd C dX6_makesSpot_41 ?_
        refine e_istore_n C dX6_makesSpot_42 ?_
        refine e_iinc C dX6_makesSpot_43 rfl ?_
        refine e_goto C (tgt := 5) dX6_makesSpot_46 (by decide) ?_
        rw [show ((i : Int) + 1) = ((i + 1 : Nat) : Int) by omega, hI]
        exact ih () trivial
      · refine e_aload_n C dX6_makesSpot_26 rfl ?_
        refine e_iload C dX6_makesSpot_27 rfl ?_
        refine e_iload_n C dX6_makesSpot_29 rfl ?_
        refine e_callV C (c_boxWith (M := M) (p := i) (c := (c : Int)) hW hG hi16 (by omega)) mt_X6_boxWith s_X6_121 dX6_makesSpot_30 6 sh_153 rfl (fun rb Mb hqb => ?_)
        obtain ⟨rfl, hMb⟩ := hqb
        subst Mb
        dsimp only [Option.toList_some, List.singleton_append]
        refine e_if_lt C (tgt := 40) dX6_makesSpot_33 (by decide) (by omega) (fun h_33 => ?_) (fun h_33 => ?_)
        · have hI := hno (fun z => (of_decide_eq_true z).2 (Classical.byContradiction (fun y => by have := bwV_0.mpr y; omega)))
          refine e_iconst C dX6_makesSpot_40 ?_
          refine e_iadd C dX6_makesSpot_41 ?_
          refine e_istore_n C dX6_makesSpot_42 ?_
          refine e_iinc C dX6_makesSpot_43 rfl ?_
          refine e_goto C (tgt := 5) dX6_makesSpot_46 (by decide) ?_
          rw [show ((i : Int) + 1) = ((i + 1 : Nat) : Int) by omega, hI]
          exact ih () trivial
        · have hon : onK (pgD M) (mI M 158) (k : Int) (c : Int) i = true := decide_eq_true ⟨by omega, bwV_0.mp (by omega)⟩
          have hI : sg (fun p => b01 (onK (pgD M) (mI M 158) (k : Int) (c : Int) p = true)) i + 1 = sg (fun p => b01 (onK (pgD M) (mI M 158) (k : Int) (c : Int) p = true)) (i + 1) := by simp only [sg]; rw [show b01 (onK (pgD M) (mI M 158) (k : Int) (c : Int) i = true) = 1 from if_pos hon]
          refine e_iconst C dX6_makesSpot_36 ?_
          refine e_goto C (tgt := 41) dX6_makesSpot_37 (by decide) ?_
          refine e_iadd C dX6_makesSpot_41 ?_
          refine e_istore_n C dX6_makesSpot_42 ?_
          refine e_iinc C dX6_makesSpot_43 rfl ?_
          refine e_goto C (tgt := 5) dX6_makesSpot_46 (by decide) ?_
          rw [show ((i : Int) + 1) = ((i + 1 : Nat) : Int) by omega, hI]
          exact ih () trivial
  show pE g 9 X _ SH M 0 0 0 [some (.inr (.inr 153)), some (.inl (k : Int)), some (.inl (c : Int)), none, none, none, none, none, none] []
  refine e_iconst C dX6_makesSpot_0 ?_
  refine e_istore_n C dX6_makesSpot_1 ?_
  refine e_iconst C dX6_makesSpot_2 ?_
  refine e_istore C dX6_makesSpot_3 ?_
  exact lc 0 () (by omega) trivial
