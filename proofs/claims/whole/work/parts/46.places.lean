/-! ===== places: the spots of the least laying, box by box ===== -/
def plH (M : pMem) (ns : Nat) (ψ : Nat → Nat) (b : Nat) (N : pMem) : Prop := frD oPl M N ∧ (∀ a, a < b → mI N 174 a = lvD ns ψ a ∧ mI N 175 a = lvD ns ψ a) ∧ ∀ a, b < a → a < 8 → mI N 174 a = -2
def plG (M : pMem) (ns : Nat) (ψ : Nat → Nat) (b : Nat) (N : pMem) : Prop := frD oPl M N ∧ (∀ a, a < b → mI N 174 a = lvD ns ψ a ∧ mI N 175 a = lvD ns ψ a) ∧ ∀ a, b ≤ a → a < 8 → mI N 174 a = -2
def plL (ns : Nat) (ψ : Nat → Nat) (b s : Nat) (v : Int) : Prop := (s ≤ ψ b ∧ v = -1) ∨ (s = ψ b + 1 ∧ ψ b < ns ∧ v = (ψ b : Int))
theorem plG_H {M N : pMem} {ns b : Nat} {ψ : Nat → Nat} (h : plG M ns ψ b N) : plH M ns ψ b N := ⟨h.1, h.2.1, fun a h1 h2 => h.2.2 a (by omega) h2⟩
theorem plH_4 {M N : pMem} {ns b : Nat} {ψ : Nat → Nat} {v : Int} (h : plH M ns ψ b N) : plH M ns ψ b (stI N 174 b v) := ⟨frD_tr h.1 (frD_st (fun z => z.2.1 rfl)), fun a ha => by rw [stI_n _ _ (by omega), stI_n _ _ (by omega)]; exact h.2.1 a ha, fun a h1 h2 => by rw [stI_n _ _ (by omega)]; exact h.2.2 a h1 h2⟩
theorem plH_5 {M N : pMem} {ns b : Nat} {ψ : Nat → Nat} {v : Int} (h : plH M ns ψ b N) : plH M ns ψ b (stI N 175 b v) := ⟨frD_tr h.1 (frD_st (fun z => z.2.2 rfl)), fun a ha => by rw [stI_n _ _ (by omega), stI_n _ _ (by omega)]; exact h.2.1 a ha, fun a h1 h2 => by rw [stI_n _ _ (by omega)]; exact h.2.2 a h1 h2⟩
theorem plH_3 {M N : pMem} {ns b : Nat} {ψ : Nat → Nat} {f : Nat → Int} (h : plH M ns ψ b N) : plH M ns ψ b (wrI N 173 f) := ⟨frD_tr h.1 (frD_wr (fun j z => z.1 rfl)), fun a ha => by rw [wrI_n _ _ _ (by omega), wrI_n _ _ _ (by omega)]; exact h.2.1 a ha, fun a h1 h2 => by rw [wrI_n _ _ _ (by omega)]; exact h.2.2 a h1 h2⟩
theorem plG_n {M N : pMem} {ns b : Nat} {ψ : Nat → Nat} {v : Int} (h : plH M ns ψ b N) (hv : v = lvD ns ψ b) (h5 : mI N 175 b = v) : plG M ns ψ (b + 1) (stI N 174 b v) := ⟨frD_tr h.1 (frD_st (fun z => z.2.1 rfl)), fun a ha => by
  by_cases e : a = b
  · subst e; rw [stI_s, stI_n _ _ (by omega), h5]; exact ⟨hv, hv⟩
  · rw [stI_n _ _ (by omega), stI_n _ _ (by omega)]; exact h.2.1 a (by omega), fun a h1 h2 => by rw [stI_n _ _ (by omega)]; exact h.2.2 a (by omega) h2⟩
theorem lvD_r {nb ns b : Nat} {ψ : Nat → Nat} : -1 ≤ lvD ns ψ b ∧ lvD ns ψ b < (ns : Int) := by unfold lvD; split <;> omega
theorem c_places {g : pG} {M : pMem} {nb ns : Nat} {K : Int} (hW : pW M) (hnb : mI M 153 17 = (nb : Int)) (hns : mI M 153 21 = (ns : Int)) (h8 : nb ≤ 8) (h16 : ns ≤ 16) (hw : wtOk (wtD M)) (hbx : bxOk nb (bxD M)) (hsp : spOk ns (spD M)) (hK : isKey (wtD M) nb ns (bxD M) (spD M) K) (hc : mI M 153 28 = K / 341812114609) (hdx : mI M 153 29 = dxo (K / 6975757441 % 49).toNat) (hdy : mI M 153 30 = dyo (K / 6975757441 % 49).toNat) (hF : ∀ b, b < 8 → mI M 174 b = -2) : pCn g 4 0 0 yX6_places cX6_places 5 none SH SH M [.inr (.inr 153)] (fun r M' => r = none ∧ frD oPl M M' ∧ ∀ b, b < nb → mI M' 175 b = dgF K b) := by
  refine pCn_intro mt_X6_places (fun X C => ?_)
  have hK2 := hK
  obtain ⟨hKl, q, hq, ψ, hψ, hKe⟩ := hK2
  have hd := key_div (w := wtD M) (A := bxD M) (Z := spD M) (φ := ψ) hq h8 h16
  rw [← hKe] at hd
  have hqe : (K / 6975757441 % 49).toNat = q := by omega
  rw [hqe] at hdx hdy
  rw [hd.1] at hc
  have hcr0 := cst_nn hw hbx hsp hq hψ
  have hcr1 := cst_ub (φ := ψ) hw hbx hsp hq h8 h16
  rw [hKe] at hK
  have hdg : ∀ b, b < nb → lvD ns ψ b = dgF K b := fun b hb => by rw [hKe]; exact (key_dg h8 h16 hb).symm
  have lb : ∀ (b : Nat) (N : pMem), b ≤ nb → plG M ns ψ b N → pE g 5 X (pMQ g SH (fun r M' => r = none ∧ frD oPl M M' ∧ ∀ b, b < nb → mI M' 175 b = dgF K b) X 0 0) SH N 0 0 2 [some (.inr (.inr 153)), some (.inl (b : Int)), none, none, none] [] := by
    refine p_for (nb) _ _ ?_ ?_
    · rintro N hp
      have h17 : mI N 153 17 = (nb : Int) := (hp.1.1 153 17 (by unfold oPl; omega)).trans hnb
      have h21 : mI N 153 21 = (ns : Int) := (hp.1.1 153 21 (by unfold oPl; omega)).trans hns
      have hWn := frD_W hp.1 hW
      refine e_iload_n C dX6_places_2 rfl ?_
      refine e_aload_n C dX6_places_3 rfl ?_
      refine e_getI C f_X6_135 sh_153 dX6_places_4 ?_
      rw [h17]
      refine e_icmp_ge C (tgt := 139) dX6_places_7 (by decide) (by omega) (by omega) (fun h_7 => ?_) (fun h_7 => by exfalso; omega)
      exact e_return C dX6_places_139 ⟨rfl, hp.1, fun b hb => by rw [(hp.2.1 b hb).2]; exact hdg b hb⟩
    · rintro b N hb hp ih
      have h17 : mI N 153 17 = (nb : Int) := (hp.1.1 153 17 (by unfold oPl; omega)).trans hnb
      have h21 : mI N 153 21 = (ns : Int) := (hp.1.1 153 21 (by unfold oPl; omega)).trans hns
      have hWn := frD_W hp.1 hW
      refine e_iload_n C dX6_places_2 rfl ?_
      refine e_aload_n C dX6_places_3 rfl ?_
      refine e_getI C f_X6_135 sh_153 dX6_places_4 ?_
      rw [h17]
      refine e_icmp_ge C (tgt := 139) dX6_places_7 (by decide) (by omega) (by omega) (fun h_7 => by exfalso; omega) (fun h_7 => ?_)
      refine e_aload_n C dX6_places_10 rfl ?_
      refine e_getR C f_X6_84 sh_153 (hWn 153 31 175 rfl) dX6_places_11 ?_
      refine e_iload_n C dX6_places_14 rfl ?_
      refine e_iconst C dX6_places_15 ?_
      refine e_iastore C dX6_places_16 sh_175 _ rfl (by omega) ?_
      refine e_iconst C dX6_places_17 ?_
      refine e_istore_n C dX6_places_18 ?_
      have ls : ∀ (s : Nat) (N : pMem), s ≤ ns → (plH M ns ψ b N ∧ plL ns ψ b s (mI N 175 b)) → pE g 5 X (pMQ g SH (fun r M' => r = none ∧ frD oPl M M' ∧ ∀ b, b < nb → mI M' 175 b = dgF K b) X 0 0) SH N 0 0 19 [some (.inr (.inr 153)), some (.inl (b : Int)), some (.inl (s : Int)), none, none] [] := by
        refine p_for (ns) _ _ ?_ ?_
        · rintro N ⟨hp, hl⟩
          have h17 : mI N 153 17 = (nb : Int) := (hp.1.1 153 17 (by unfold oPl; omega)).trans hnb
          have h21 : mI N 153 21 = (ns : Int) := (hp.1.1 153 21 (by unfold oPl; omega)).trans hns
          have hWn := frD_W hp.1 hW
          have hvb := hψ.1 b hb
          have hlv : mI N 175 b = lvD ns ψ b := by
            unfold lvD
            rcases hl with ⟨z1, z2⟩ | ⟨z1, z2, z3⟩
            · rw [if_neg (by omega)]; exact z2
            · rw [if_pos z2]; exact z3
          refine e_iload_n C dX6_places_19 rfl ?_
          refine e_aload_n C dX6_places_20 rfl ?_
          refine e_getI C f_X6_139 sh_153 dX6_places_21 ?_
          rw [h21]
          refine e_icmp_ge C (tgt := 121) dX6_places_24 (by decide) (by omega) (by omega) (fun h_24 => ?_) (fun h_24 => by exfalso; omega)
          refine e_aload_n C dX6_places_121 rfl ?_
          refine e_getR C f_X6_81 sh_153 (hWn 153 27 174 rfl) dX6_places_122 ?_
          refine e_iload_n C dX6_places_125 rfl ?_
          refine e_aload_n C dX6_places_126 rfl ?_
          refine e_getR C f_X6_84 sh_153 (hWn 153 31 175 rfl) dX6_places_127 ?_
          refine e_iload_n C dX6_places_130 rfl ?_
          refine e_iaload C dX6_places_131 sh_175 _ rfl (by omega) ?_
          rw [hlv]
          refine e_iastore C dX6_places_132 sh_174 _ rfl (by omega) ?_
          refine e_iinc C dX6_places_133 rfl ?_
          refine e_goto C (tgt := 2) dX6_places_136 (by decide) ?_
          refine pE_f 2 ?_
          rw [show ((b : Int) + 1) = ((b + 1 : Nat) : Int) by omega]
          exact ih _ (plG_n hp rfl hlv)
        · rintro s N hs ⟨hp, hl⟩ ih2
          have h17 : mI N 153 17 = (nb : Int) := (hp.1.1 153 17 (by unfold oPl; omega)).trans hnb
          have h21 : mI N 153 21 = (ns : Int) := (hp.1.1 153 21 (by unfold oPl; omega)).trans hns
          have hWn := frD_W hp.1 hW
          refine e_iload_n C dX6_places_19 rfl ?_
          refine e_aload_n C dX6_places_20 rfl ?_
          refine e_getI C f_X6_139 sh_153 dX6_places_21 ?_
          rw [h21]
          refine e_icmp_ge C (tgt := 121) dX6_places_24 (by decide) (by omega) (by omega) (fun h_24 => by exfalso; omega) (fun h_24 => ?_)
          refine e_aload_n C dX6_places_27 rfl ?_
          refine e_getR C f_X6_84 sh_153 (hWn 153 31 175 rfl) dX6_places_28 ?_
          refine e_iload_n C dX6_places_31 rfl ?_
          refine e_iaload C dX6_places_32 sh_175 _ rfl (by omega) ?_
          refine e_if_ge C (tgt := 121) dX6_places_33 (by decide) (by unfold plL at hl; omega) (fun h_33 => ?_) (fun h_33 => ?_)
          · have hlv : mI N 175 b = lvD ns ψ b := by
              unfold lvD
              rcases hl with ⟨z1, z2⟩ | ⟨z1, z2, z3⟩
              · omega
              · rw [if_pos z2]; exact z3
            refine e_aload_n C dX6_places_121 rfl ?_
            refine e_getR C f_X6_81 sh_153 (hWn 153 27 174 rfl) dX6_places_122 ?_
            refine e_iload_n C dX6_places_125 rfl ?_
            refine e_aload_n C dX6_places_126 rfl ?_
            refine e_getR C f_X6_84 sh_153 (hWn 153 31 175 rfl) dX6_places_127 ?_
            refine e_iload_n C dX6_places_130 rfl ?_
            refine e_iaload C dX6_places_131 sh_175 _ rfl (by omega) ?_
            rw [hlv]
            refine e_iastore C dX6_places_132 sh_174 _ rfl (by omega) ?_
            refine e_iinc C dX6_places_133 rfl ?_
            refine e_goto C (tgt := 2) dX6_places_136 (by decide) ?_
            refine pE_f 2 ?_
            rw [show ((b : Int) + 1) = ((b + 1 : Nat) : Int) by omega]
            exact ih _ (plG_n hp rfl hlv)
          · have hle : s ≤ ψ b := by
              rcases hl with ⟨z1, z2⟩ | ⟨z1, z2, z3⟩
              · exact z1
              · omega
            refine e_iconst C dX6_places_36 ?_
            refine e_istore_n C dX6_places_37 ?_
            refine e_iconst C dX6_places_38 ?_
            refine e_istore C dX6_places_39 ?_
            have lk : ∀ (i : Nat) (u : Int), i ≤ b → ((u = 1 ∧ ∀ c, c < i → mI N 175 c ≠ (s : Int)) ∨ (u = 0 ∧ ∃ c, c < i ∧ mI N 175 c = (s : Int))) → pE g 5 X (pMQ g SH (fun r M' => r = none ∧ frD oPl M M' ∧ ∀ b, b < nb → mI M' 175 b = dgF K b) X 0 0) SH N 0 0 41 [some (.inr (.inr 153)), some (.inl (b : Int)), some (.inl (s : Int)), some (.inl u), some (.inl (i : Int))] [] := by
              refine p_for (b) _ _ ?_ ?_
              · rintro u hu
                have hb8 : b < 8 := by omega
                have hp4 := plH_4 (v := (s : Int)) hp
                have e28 : mI (stI N 174 b (s : Int)) 153 28 = cst (wtD M) nb ns (bxD M) (spD M) q ψ := (hp4.1.1 153 28 (by unfold oPl; omega)).trans hc
                have e29 : mI (stI N 174 b (s : Int)) 153 29 = dxo q := (hp4.1.1 153 29 (by unfold oPl; omega)).trans hdx
                have e30 : mI (stI N 174 b (s : Int)) 153 30 = dyo q := (hp4.1.1 153 30 (by unfold oPl; omega)).trans hdy
                refine e_iload C dX6_places_41 rfl ?_
                refine e_iload_n C dX6_places_43 rfl ?_
                refine e_icmp_ge C (tgt := 74) dX6_places_44 (by decide) (by omega) (by omega) (fun h_44 => ?_) (fun h_44 => by exfalso; omega)
                refine e_aload_n C dX6_places_74 rfl ?_
                refine e_getR C f_X6_81 sh_153 (hWn 153 27 174 rfl) dX6_places_75 ?_
                refine e_iload_n C dX6_places_78 rfl ?_
                refine e_iload_n C dX6_places_79 rfl ?_
                refine e_iastore C dX6_places_80 sh_174 _ rfl (by omega) ?_
                refine e_aload_n C dX6_places_81 rfl ?_
                refine e_getR C f_X6_84 sh_153 (hWn 153 31 175 rfl) dX6_places_82 ?_
                refine e_iload_n C dX6_places_85 rfl ?_
                refine e_iload_n C dX6_places_86 rfl ?_
                refine e_if_eq C (tgt := 113) dX6_places_87 (by decide) (by omega) (fun h_87 => ?_) (fun h_87 => ?_)
                · have hI : plH M ns ψ b (stI (stI N 174 b (s : Int)) 175 b (-1)) ∧ plL ns ψ b (s + 1) (mI (stI (stI N 174 b (s : Int)) 175 b (-1)) 175 b) := by
                    refine ⟨plH_5 hp4, ?_⟩
                    rw [stI_s]
                    rcases hu with ⟨z, -⟩ | ⟨-, c, hc1, hc2⟩
                    · omega
                    · rw [(hp.2.1 c hc1).2] at hc2
                      unfold lvD at hc2
                      have hvb := hψ.1 b hb
                      have hne : ψ b ≠ s := fun z => by
                        split at hc2
                        · have := hψ.2 c b (by omega) hb (by omega) (by omega); omega
                        · omega
                      exact Or.inl ⟨by omega, rfl⟩
                  refine e_iconst C dX6_places_113 ?_
                  refine e_iastore C dX6_places_114 sh_175 _ rfl (by omega) ?_
                  refine e_iinc C dX6_places_115 rfl ?_
                  refine e_goto C (tgt := 19) dX6_places_118 (by decide) ?_
                  refine pE_f 4 ?_
                  refine pE_f 3 ?_
                  rw [show ((s : Int) + 1) = ((s + 1 : Nat) : Int) by omega]
                  exact ih2 _ hI
                · have hfree : ∀ c, c < b → mI N 175 c ≠ (s : Int) := by
                    rcases hu with ⟨-, z⟩ | ⟨z, -⟩
                    · exact z
                    · omega
                  have hfx : fxD ns ψ b s (mI (stI N 174 b (s : Int)) 174) nb := fun a ha => by
                    by_cases z1 : a < b
                    · rw [if_pos z1, stI_n _ _ (by omega)]; exact (hp.2.1 a z1).1
                    · rw [if_neg z1]
                      by_cases z2 : a = b
                      · subst z2; rw [if_pos rfl, stI_s]
                      · rw [if_neg z2, stI_n _ _ (by omega)]; exact hp.2.2 a (by omega) (by omega)
                  have hwe := frD_wt hp4.1 (fun j => by unfold oPl; omega)
                  have hbe := frD_bx hp4.1 (fun b j _ _ => by unfold oPl; omega)
                  have hse := frD_sp hp4.1 (fun b j _ _ => by unfold oPl; omega)
                  have hcb := c_byMove (g := g) (M := stI N 174 b (s : Int)) (nb := nb) (ns := ns) (q := q) (frD_W hp4.1 hW) ((hp4.1.1 153 17 (by unfold oPl; omega)).trans hnb) ((hp4.1.1 153 21 (by unfold oPl; omega)).trans hns) h8 h16 (by rw [hwe]; exact hw) (by rw [hbe]; exact hbx) (by rw [hse]; exact hsp) hq (fun a ha => by
                    rw [hfx a ha]
                    have := lvD_r (nb := nb) (ns := ns) (b := a) (ψ := ψ)
                    split
                    · omega
                    · split <;> omega) (fun a c ha hcn he h0 => by
                    rw [hfx a ha] at he h0
                    rw [hfx c hcn] at he
                    have hva := hψ.1 a ha
                    have hvc := hψ.1 c hcn
                    have hlt : ∀ x, x < b → lvD ns ψ x ≠ (s : Int) := fun x hx => by rw [← (hp.2.1 x hx).2]; exact hfree x hx
                    by_cases z1 : a < b
                    · rw [if_pos z1] at he h0
                      by_cases z2 : c < b
                      · rw [if_pos z2] at he
                        unfold lvD at he h0
                        by_cases z3 : ψ a < ns
                        · rw [if_pos z3] at he h0
                          by_cases z4 : ψ c < ns
                          · rw [if_pos z4] at he
                            refine Classical.byContradiction (fun z5 => ?_)
                            have := hψ.2 a c ha hcn z5 (by omega)
                            omega
                          · rw [if_neg z4] at he; omega
                        · rw [if_neg z3] at h0; omega
                      · rw [if_neg z2] at he
                        split at he
                        · exact absurd he (hlt a z1)
                        · omega
                    · rw [if_neg z1] at he h0
                      by_cases z3 : a = b
                      · rw [if_pos z3] at he h0
                        by_cases z2 : c < b
                        · rw [if_pos z2] at he; exact absurd he.symm (hlt c z2)
                        · rw [if_neg z2] at he
                          split at he <;> omega
                      · rw [if_neg z3] at h0; omega)
                  rw [hwe, hbe, hse] at hcb
                  refine e_aload_n C dX6_places_90 rfl ?_
                  refine e_aload_n C dX6_places_91 rfl ?_
                  refine e_getI C f_X6_152 sh_153 dX6_places_92 ?_
                  rw [e29]
                  refine e_aload_n C dX6_places_95 rfl ?_
                  refine e_getI C f_X6_155 sh_153 dX6_places_96 ?_
                  rw [e30]
                  refine e_callV C (hcb) mt_X6_byMove s_X6_149 dX6_places_99 6 sh_153 rfl (fun rb Mb hqb => ?_)
                  obtain ⟨v, f, rfl, hMb, hbm, hv0, hv1⟩ := hqb
                  subst Mb
                  dsimp only [Option.toList_some, List.singleton_append]
                  have hgr := grd_is hw hbx hsp hq h8 h16 hb hψ hK hfx hs hle hbm
                  refine e_aload_n C dX6_places_102 rfl ?_
                  refine e_getI C f_X6_146 sh_153 dX6_places_103 ?_
                  rw [wrI_n _ _ _ (by decide), e28]
                  refine e_icmp_ne C (tgt := 113) dX6_places_106 (by decide) (by omega) (by omega) (fun h_106 => ?_) (fun h_106 => ?_)
                  · have hI : plH M ns ψ b (stI (wrI (stI N 174 b (s : Int)) 173 f) 175 b (-1)) ∧ plL ns ψ b (s + 1) (mI (stI (wrI (stI N 174 b (s : Int)) 173 f) 175 b (-1)) 175 b) := by
                      refine ⟨plH_5 (plH_3 hp4), ?_⟩
                      rw [stI_s]
                      have hne : s ≠ ψ b := fun z => h_106 (hgr.mpr z)
                      exact Or.inl ⟨by omega, rfl⟩
                    refine e_iconst C dX6_places_113 ?_
                    refine e_iastore C dX6_places_114 sh_175 _ rfl (by omega) ?_
                    refine e_iinc C dX6_places_115 rfl ?_
                    refine e_goto C (tgt := 19) dX6_places_118 (by decide) ?_
                    refine pE_f 4 ?_
                    refine pE_f 3 ?_
                    rw [show ((s : Int) + 1) = ((s + 1 : Nat) : Int) by omega]
                    exact ih2 _ hI
                  · have hI : plH M ns ψ b (stI (wrI (stI N 174 b (s : Int)) 173 f) 175 b (s : Int)) ∧ plL ns ψ b (s + 1) (mI (stI (wrI (stI N 174 b (s : Int)) 173 f) 175 b (s : Int)) 175 b) := by
                      refine ⟨plH_5 (plH_3 hp4), ?_⟩
                      rw [stI_s]
                      have he := hgr.mp (Classical.not_not.mp h_106)
                      exact Or.inr ⟨by omega, by omega, by omega⟩
                    refine e_iload_n C dX6_places_109 rfl ?_
                    refine e_goto C (tgt := 114) dX6_places_110 (by decide) ?_
                    refine e_iastore C dX6_places_114 sh_175 _ rfl (by omega) ?_
                    refine e_iinc C dX6_places_115 rfl ?_
                    refine e_goto C (tgt := 19) dX6_places_118 (by decide) ?_
                    refine pE_f 4 ?_
                    refine pE_f 3 ?_
                    rw [show ((s : Int) + 1) = ((s + 1 : Nat) : Int) by omega]
                    exact ih2 _ hI
              · rintro i u hi hu ih3
                refine e_iload C dX6_places_41 rfl ?_
                refine e_iload_n C dX6_places_43 rfl ?_
                refine e_icmp_ge C (tgt := 74) dX6_places_44 (by decide) (by omega) (by omega) (fun h_44 => by exfalso; omega) (fun h_44 => ?_)
                refine e_iload_n C dX6_places_47 rfl ?_
                refine e_if_eq C (tgt := 66) dX6_places_48 (by decide) (by omega) (fun h_48 => ?_) (fun h_48 => ?_)
                · have hn : ∃ c, c < i + 1 ∧ mI N 175 c = (s : Int) := by
                    rcases hu with ⟨z, -⟩ | ⟨-, c, hc1, hc2⟩
                    · omega
                    · exact ⟨c, by omega, hc2⟩
                  refine e_iconst C dX6_places_66 ?_
                  refine e_istore_n C dX6_places_67 ?_
                  refine e_iinc C dX6_places_68 rfl ?_
                  refine e_goto C (tgt := 41) dX6_places_71 (by decide) ?_
                  rw [show ((i : Int) + 1) = ((i + 1 : Nat) : Int) by omega]
                  first | exact ih3 _ (Or.inl ⟨rfl, hn⟩) | exact ih3 _ (Or.inr ⟨rfl, hn⟩)
                · refine e_aload_n C dX6_places_51 rfl ?_
                  refine e_getR C f_X6_84 sh_153 (hWn 153 31 175 rfl) dX6_places_52 ?_
                  refine e_iload C dX6_places_55 rfl ?_
                  refine e_iaload C dX6_places_57 sh_175 _ rfl (by omega) ?_
                  have hli := (hp.2.1 i hi).2
                  have hlr := lvD_r (nb := nb) (ns := ns) (b := i) (ψ := ψ)
                  refine e_iload_n C dX6_places_58 rfl ?_
                  refine e_icmp_eq C (tgt := 66) dX6_places_59 (by decide) (by omega) (by omega) (fun h_59 => ?_) (fun h_59 => ?_)
                  · have hn : ∃ c, c < i + 1 ∧ mI N 175 c = (s : Int) := ⟨i, by omega, h_59⟩
                    refine e_iconst C dX6_places_66 ?_
                    refine e_istore_n C dX6_places_67 ?_
                    refine e_iinc C dX6_places_68 rfl ?_
                    refine e_goto C (tgt := 41) dX6_places_71 (by decide) ?_
                    rw [show ((i : Int) + 1) = ((i + 1 : Nat) : Int) by omega]
                    first | exact ih3 _ (Or.inl ⟨rfl, hn⟩) | exact ih3 _ (Or.inr ⟨rfl, hn⟩)
                  · have hn : ∀ c, c < i + 1 → mI N 175 c ≠ (s : Int) := fun c hc => by
                      by_cases e : c = i
                      · subst e; exact h_59
                      · rcases hu with ⟨-, z⟩ | ⟨z, -⟩
                        · exact z c (by omega)
                        · omega
                    refine e_iconst C dX6_places_62 ?_
                    refine e_goto C (tgt := 67) dX6_places_63 (by decide) ?_
                    refine e_istore_n C dX6_places_67 ?_
                    refine e_iinc C dX6_places_68 rfl ?_
                    refine e_goto C (tgt := 41) dX6_places_71 (by decide) ?_
                    rw [show ((i : Int) + 1) = ((i + 1 : Nat) : Int) by omega]
                    first | exact ih3 _ (Or.inl ⟨rfl, hn⟩) | exact ih3 _ (Or.inr ⟨rfl, hn⟩)
            exact lk 0 1 (by omega) (Or.inl ⟨rfl, fun c hc => by omega⟩)
      exact ls 0 _ (by omega) ⟨plH_5 (plG_H hp), Or.inl ⟨by omega, stI_s _ _ _ _⟩⟩
  show pE g 5 X _ SH M 0 0 0 [some (.inr (.inr 153)), none, none, none, none] []
  refine e_iconst C dX6_places_0 ?_
  refine e_istore_n C dX6_places_1 ?_
  exact lb 0 M (by omega) ⟨frD_rf, fun a ha => by omega, fun a _ ha => hF a ha⟩
