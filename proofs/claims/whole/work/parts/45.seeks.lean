/-! ===== what the model's helpers leave as it was ===== -/
def frD (O : Nat → Nat → Prop) (M N : pMem) : Prop := (∀ b j, O b j → mI N b j = mI M b j) ∧ (∀ b j, mL N b j = mL M b j) ∧ ∀ b j, mR N b j = mR M b j
section
variable {O P : Nat → Nat → Prop} {M N R : pMem}
theorem frD_rf : frD O M M := ⟨fun _ _ _ => rfl, fun _ _ => rfl, fun _ _ => rfl⟩
theorem frD_tr (h : frD O M N) (h2 : frD O N R) : frD O M R := ⟨fun b j hb => (h2.1 b j hb).trans (h.1 b j hb), fun b j => (h2.2.1 b j).trans (h.2.1 b j), fun b j => (h2.2.2 b j).trans (h.2.2 b j)⟩
theorem frD_su (h : frD O M N) (hs : ∀ b j, P b j → O b j) : frD P M N := ⟨fun b j hb => h.1 b j (hs b j hb), h.2⟩
theorem frD_W (h : frD O M N) (hW : pW M) : pW N := fun a i b hb => (h.2.2 a i).trans (hW a i b hb)
theorem frD_st {a i : Nat} {v : Int} (h : ¬ O a i) : frD O M (stI M a i v) := ⟨fun b j hb => stI_n _ _ (by
  by_cases e : b = a
  · subst e; right; intro e2; subst e2; exact h hb
  · exact Or.inl e), fun _ _ => rfl, fun _ _ => rfl⟩
theorem frD_wr {a : Nat} {f : Nat → Int} (h : ∀ j, ¬ O a j) : frD O M (wrI M a f) := ⟨fun b j hb => wrI_n _ _ _ (fun e => by subst e; exact h j hb), fun _ _ => rfl, fun _ _ => rfl⟩
theorem frD_row (h : frD O M N) {b : Nat} (hb : ∀ j, O b j) : mI N b = mI M b := funext (fun j => h.1 b j (hb j))
theorem frD_wt (h : frD O M N) (hb : ∀ j, O 159 j) : wtD N = wtD M := by unfold wtD; rw [frD_row h hb]
theorem frD_bx (h : frD O M N) (hb : ∀ b j, 166 ≤ b → b ≤ 168 → O b j) : bxD N = bxD M := by unfold bxD; rw [frD_row h (fun j => hb 166 j (by decide) (by decide)), frD_row h (fun j => hb 167 j (by decide) (by decide)), frD_row h (fun j => hb 168 j (by decide) (by decide))]
theorem frD_sp (h : frD O M N) (hb : ∀ b j, 169 ≤ b → b ≤ 172 → O b j) : spD N = spD M := by unfold spD; rw [frD_row h (fun j => hb 169 j (by decide) (by decide)), frD_row h (fun j => hb 170 j (by decide) (by decide)), frD_row h (fun j => hb 171 j (by decide) (by decide)), frD_row h (fun j => hb 172 j (by decide) (by decide))]
end
def oSk (b j : Nat) : Prop := b ≠ 173 ∧ b ≠ 174 ∧ (b ≠ 153 ∨ (j ≠ 28 ∧ j ≠ 29 ∧ j ≠ 30))
def oPl (b _j : Nat) : Prop := b ≠ 173 ∧ b ≠ 174 ∧ b ≠ 175
/-! ===== seeks ===== -/
def skH (M : pMem) (nb ns n : Nat) (N : pMem) : Prop := frD oSk M N ∧ (∀ b, b < 8 → mI N 174 b = -2) ∧ skI (wtD M) nb ns (bxD M) (spD M) n (mI N 153 28) (mI N 153 29) (mI N 153 30)
theorem skI_r {w : pWt} {nb ns n : Nat} {A : pB} {Z : pS} {c dx dy : Int} (hw : wtOk w) (hA : bxOk nb A) (hZ : spOk ns Z) (h8 : nb ≤ 8) (h16 : ns ≤ 16) (hn : n ≤ 49) (h : skI w nb ns A Z n c dx dy) : 0 ≤ c ∧ c ≤ 1000000 := by
  rcases h with ⟨-, h⟩ | ⟨q, h1, h2, h3, ⟨-, φ, hφ, h4⟩, -⟩
  · omega
  · have a1 := cst_nn hw hA hZ (q := q) (by omega) hφ
    have a2 := cst_ub (φ := φ) hw hA hZ (q := q) (by omega) h8 h16
    omega
theorem mcQ_r {w : pWt} {nb ns q : Nat} {A : pB} {Z : pS} {v : Int} (hw : wtOk w) (hA : bxOk nb A) (hZ : spOk ns Z) (h8 : nb ≤ 8) (h16 : ns ≤ 16) (hq : q < 49) (h : mcQ w nb ns A Z q v) : 0 ≤ v ∧ v ≤ 12000 := by
  obtain ⟨-, φ, hφ, h4⟩ := h
  have a1 := cst_nn hw hA hZ hq hφ
  have a2 := cst_ub (φ := φ) hw hA hZ hq h8 h16
  omega
theorem skH_no {M N : pMem} {nb ns n : Nat} {v : Int} {f : Nat → Int} (h : skH M nb ns n N) (hm : mcQ (wtD M) nb ns (bxD M) (spD M) n v) (hv : v ≤ 12000) (hge : mI N 153 28 ≤ v) : skH M nb ns (n + 1) (wrI N 173 f) := by
  obtain ⟨h1, h2, h3⟩ := h
  refine ⟨frD_tr h1 (frD_wr (fun j z => z.1 rfl)), fun b hb => by rw [wrI_n _ _ _ (by decide)]; exact h2 b hb, ?_⟩
  rw [wrI_n _ _ _ (by decide), wrI_n _ _ _ (by decide), wrI_n _ _ _ (by decide)]
  exact skI_no h3 hm (by omega) hge
theorem skH_yes {M N : pMem} {nb ns n : Nat} {v : Int} {f : Nat → Int} (h : skH M nb ns n N) (hm : mcQ (wtD M) nb ns (bxD M) (spD M) n v) (hlt : v < mI N 153 28) : skH M nb ns (n + 1) (stI (stI (stI (wrI N 173 f) 153 28 v) 153 29 (dxo n)) 153 30 (dyo n)) := by
  obtain ⟨h1, h2, h3⟩ := h
  refine ⟨frD_tr h1 (frD_tr (frD_tr (frD_tr (frD_wr (fun j z => z.1 rfl)) (frD_st (fun z => by unfold oSk at z; omega))) (frD_st (fun z => by unfold oSk at z; omega))) (frD_st (fun z => by unfold oSk at z; omega))), fun b hb => ?_, ?_⟩
  · rw [stI_n _ _ (by omega), stI_n _ _ (by omega), stI_n _ _ (by omega), wrI_n _ _ _ (by decide)]; exact h2 b hb
  · rw [show mI (stI (stI (stI (wrI N 173 f) 153 28 v) 153 29 (dxo n)) 153 30 (dyo n)) 153 28 = v by simp [stI, mI], show mI (stI (stI (stI (wrI N 173 f) 153 28 v) 153 29 (dxo n)) 153 30 (dyo n)) 153 29 = dxo n by simp [stI, mI], stI_s]
    exact skI_yes h3 hm hlt
theorem c_seeks {g : pG} {M : pMem} {nb ns : Nat} {K : Int} (hW : pW M) (hnb : mI M 153 17 = (nb : Int)) (hns : mI M 153 21 = (ns : Int)) (h8 : nb ≤ 8) (h16 : ns ≤ 16) (hw : wtOk (wtD M)) (hbx : bxOk nb (bxD M)) (hsp : spOk ns (spD M)) (hK : isKey (wtD M) nb ns (bxD M) (spD M) K) : pCn g 4 0 0 yX6_seeks cX6_seeks 4 none SH SH M [.inr (.inr 153)] (fun r M' => r = none ∧ frD oSk M M' ∧ mI M' 153 28 = K / 341812114609 ∧ mI M' 153 29 = dxo (K / 6975757441 % 49).toNat ∧ mI M' 153 30 = dyo (K / 6975757441 % 49).toNat ∧ ∀ b, b < 8 → mI M' 174 b = -2) := by
  refine pCn_intro mt_X6_seeks (fun X C => ?_)
  have l1 : ∀ (a : Nat) (N : pMem), a ≤ 7 → skH M nb ns (7 * a) N → pE g 4 X (pMQ g SH (fun r M' => r = none ∧ frD oSk M M' ∧ mI M' 153 28 = K / 341812114609 ∧ mI M' 153 29 = dxo (K / 6975757441 % 49).toNat ∧ mI M' 153 30 = dyo (K / 6975757441 % 49).toNat ∧ ∀ b, b < 8 → mI M' 174 b = -2) X 0 0) SH N 0 0 31 [some (.inr (.inr 153)), some (.inl ((a : Int) - 3)), none, none] [] := by
    refine p_for (7) _ _ ?_ ?_
    · rintro N hs
      refine e_iload_n C dX6_seeks_31 rfl ?_
      refine e_iconst C dX6_seeks_32 ?_
      refine e_icmp_gt C (tgt := 86) dX6_seeks_33 (by decide) (by omega) (by omega) (fun h_33 => ?_) (fun h_33 => by exfalso; omega)
      exact e_return C dX6_seeks_86 (by
        obtain ⟨e1, e2, e3⟩ := skI_end h8 h16 hs.2.2 hK
        exact ⟨rfl, hs.1, e1, e2, e3, hs.2.1⟩)
    · rintro a N ha hs ih
      refine e_iload_n C dX6_seeks_31 rfl ?_
      refine e_iconst C dX6_seeks_32 ?_
      refine e_icmp_gt C (tgt := 86) dX6_seeks_33 (by decide) (by omega) (by omega) (fun h_33 => by exfalso; omega) (fun h_33 => ?_)
      refine e_bipush C dX6_seeks_36 ?_
      refine e_istore_n C dX6_seeks_38 ?_
      have l2 : ∀ (e : Nat) (N : pMem), e ≤ 7 → skH M nb ns (7 * a + e) N → pE g 4 X (pMQ g SH (fun r M' => r = none ∧ frD oSk M M' ∧ mI M' 153 28 = K / 341812114609 ∧ mI M' 153 29 = dxo (K / 6975757441 % 49).toNat ∧ mI M' 153 30 = dyo (K / 6975757441 % 49).toNat ∧ ∀ b, b < 8 → mI M' 174 b = -2) X 0 0) SH N 0 0 39 [some (.inr (.inr 153)), some (.inl ((a : Int) - 3)), some (.inl ((e : Int) - 3)), none] [] := by
        refine p_for (7) _ _ ?_ ?_
        · rintro N hs
          refine e_iload_n C dX6_seeks_39 rfl ?_
          refine e_iconst C dX6_seeks_40 ?_
          refine e_icmp_gt C (tgt := 80) dX6_seeks_41 (by decide) (by omega) (by omega) (fun h_41 => ?_) (fun h_41 => by exfalso; omega)
          refine e_iinc C dX6_seeks_80 rfl ?_
          refine e_goto C (tgt := 31) dX6_seeks_83 (by decide) ?_
          refine pE_f 2 ?_
          rw [show ((a : Int) - 3 + 1) = ((a + 1 : Nat) : Int) - 3 by omega]
          exact ih N (by rw [show 7 * (a + 1) = 7 * a + 7 by omega]; exact hs)
        · rintro e N hi hs ih2
          have hW2 := frD_W hs.1 hW
          have hwe := frD_wt hs.1 (fun j => by unfold oSk; omega)
          have hbe := frD_bx hs.1 (fun b j _ _ => by unfold oSk; omega)
          have hse := frD_sp hs.1 (fun b j _ _ => by unfold oSk; omega)
          have hq49 : 7 * a + e < 49 := by omega
          have e1 : dxo (7 * a + e) = (a : Int) - 3 := by unfold dxo; omega
          have e2 : dyo (7 * a + e) = (e : Int) - 3 := by unfold dyo; omega
          have hcb := c_byMove (g := g) (M := N) (nb := nb) (ns := ns) (q := 7 * a + e) hW2 ((hs.1.1 153 17 (by unfold oSk; omega)).trans hnb) ((hs.1.1 153 21 (by unfold oSk; omega)).trans hns) h8 h16 (by rw [hwe]; exact hw) (by rw [hbe]; exact hbx) (by rw [hse]; exact hsp) hq49 (fun b hb => by rw [hs.2.1 b (by omega)]; omega) (fun b c hb hc _ h0 => by rw [hs.2.1 b (by omega)] at h0; omega)
          rw [e1, e2, hwe, hbe, hse] at hcb
          have hcr := skI_r hw hbx hsp h8 h16 (by omega) hs.2.2
          refine e_iload_n C dX6_seeks_39 rfl ?_
          refine e_iconst C dX6_seeks_40 ?_
          refine e_icmp_gt C (tgt := 80) dX6_seeks_41 (by decide) (by omega) (by omega) (fun h_41 => by exfalso; omega) (fun h_41 => ?_)
          refine e_aload_n C dX6_seeks_44 rfl ?_
          refine e_iload_n C dX6_seeks_45 rfl ?_
          refine e_iload_n C dX6_seeks_46 rfl ?_
          refine e_callV C (hcb) mt_X6_byMove s_X6_149 dX6_seeks_47 6 sh_153 rfl (fun rb Mb hqb => ?_)
          obtain ⟨v, f, rfl, hMb, hbm, hv0, hv1⟩ := hqb
          subst Mb
          dsimp only [Option.toList_some, List.singleton_append]
          have hmc := mcQ_of hw hbx hsp hq49 h8 h16 (fun b hb => hs.2.1 b (by omega)) hbm
          have hmr := mcQ_r hw hbx hsp h8 h16 hq49 hmc
          refine e_istore_n C dX6_seeks_50 ?_
          refine e_iload_n C dX6_seeks_51 rfl ?_
          refine e_aload_n C dX6_seeks_52 rfl ?_
          refine e_getI C f_X6_146 sh_153 dX6_seeks_53 ?_
          rw [wrI_n _ _ _ (by decide)]
          refine e_icmp_ge C (tgt := 74) dX6_seeks_56 (by decide) (by omega) (by omega) (fun h_56 => ?_) (fun h_56 => ?_)
          · have hI := skH_no (f := f) hs hmc (by omega) h_56
            refine e_iinc C dX6_seeks_74 rfl ?_
            refine e_goto C (tgt := 39) dX6_seeks_77 (by decide) ?_
            refine pE_f 3 ?_
            rw [show ((e : Int) - 3 + 1) = ((e + 1 : Nat) : Int) - 3 by omega]
            exact ih2 _ hI
          · have hI := skH_yes (f := f) hs hmc (by omega)
            rw [e1, e2] at hI
            refine e_aload_n C dX6_seeks_59 rfl ?_
            refine e_iload_n C dX6_seeks_60 rfl ?_
            refine e_putI C f_X6_146 sh_153 (hd := dX6_seeks_61) (hfin := (fun CC T h => by obtain ⟨h1, -⟩ := h; cases h1; rfl)) ?_
            refine e_aload_n C dX6_seeks_64 rfl ?_
            refine e_iload_n C dX6_seeks_65 rfl ?_
            refine e_putI C f_X6_152 sh_153 (hd := dX6_seeks_66) (hfin := (fun CC T h => by obtain ⟨h1, -⟩ := h; cases h1; rfl)) ?_
            refine e_aload_n C dX6_seeks_69 rfl ?_
            refine e_iload_n C dX6_seeks_70 rfl ?_
            refine e_putI C f_X6_155 sh_153 (hd := dX6_seeks_71) (hfin := (fun CC T h => by obtain ⟨h1, -⟩ := h; cases h1; rfl)) ?_
            refine e_iinc C dX6_seeks_74 rfl ?_
            refine e_goto C (tgt := 39) dX6_seeks_77 (by decide) ?_
            refine pE_f 3 ?_
            rw [show ((e : Int) - 3 + 1) = ((e + 1 : Nat) : Int) - 3 by omega]
            exact ih2 _ hI
      exact l2 0 N (by omega) hs
  have l0 : ∀ (i : Nat) (u : Unit), i ≤ 8 → True → pE g 4 X (pMQ g SH (fun r M' => r = none ∧ frD oSk M M' ∧ mI M' 153 28 = K / 341812114609 ∧ mI M' 153 29 = dxo (K / 6975757441 % 49).toNat ∧ mI M' 153 30 = dyo (K / 6975757441 % 49).toNat ∧ ∀ b, b < 8 → mI M' 174 b = -2) X 0 0) SH (wrI M 174 (fil (mI M 174) (-2) i)) 0 0 2 [some (.inr (.inr 153)), some (.inl (i : Int)), none, none] [] := by
    refine p_for (8) _ _ ?_ ?_
    · rintro u hu
      refine e_iload_n C dX6_seeks_2 rfl ?_
      refine e_bipush C dX6_seeks_3 ?_
      refine e_icmp_ge C (tgt := 22) dX6_seeks_5 (by decide) (by omega) (by omega) (fun h_5 => ?_) (fun h_5 => by exfalso; omega)
      refine e_aload_n C dX6_seeks_22 rfl ?_
      refine e_ldc C (1000000) k_X6_138 dX6_seeks_23 ?_
      refine e_putI C f_X6_146 sh_153 (hd := dX6_seeks_25) (hfin := (fun CC T h => by obtain ⟨h1, -⟩ := h; cases h1; rfl)) ?_
      refine e_bipush C dX6_seeks_28 ?_
      refine e_istore_n C dX6_seeks_30 ?_
      refine l1 0 _ (by omega) ⟨frD_tr (frD_wr (fun j z => z.2.1 rfl)) (frD_st (fun z => by unfold oSk at z; omega)), fun b hb => ?_, Or.inl ⟨rfl, stI_s _ _ _ _⟩⟩
      rw [stI_n _ _ (by omega), wrI_s]
      exact fil_i hb
    · rintro i u hi hu ih
      refine e_iload_n C dX6_seeks_2 rfl ?_
      refine e_bipush C dX6_seeks_3 ?_
      refine e_icmp_ge C (tgt := 22) dX6_seeks_5 (by decide) (by omega) (by omega) (fun h_5 => by exfalso; omega) (fun h_5 => ?_)
      refine e_aload_n C dX6_seeks_8 rfl ?_
      refine e_getR C f_X6_81 sh_153 (hW 153 27 174 rfl) dX6_seeks_9 ?_
      refine e_iload_n C dX6_seeks_12 rfl ?_
      refine e_bipush C dX6_seeks_13 ?_
      refine e_iastore C dX6_seeks_15 sh_174 _ rfl (by omega) ?_
      rw [stI_wr, fil_s]
      refine e_iinc C dX6_seeks_16 rfl ?_
      refine e_goto C (tgt := 2) dX6_seeks_19 (by decide) ?_
      rw [show ((i : Int) + 1) = ((i + 1 : Nat) : Int) by omega]
      exact ih () trivial
  show pE g 4 X _ SH M 0 0 0 [some (.inr (.inr 153)), none, none, none] []
  refine e_iconst C dX6_seeks_0 ?_
  refine e_istore_n C dX6_seeks_1 ?_
  have hz := l0 0 () (by omega) trivial
  rw [fil_0, wrI_e] at hz
  exact hz
