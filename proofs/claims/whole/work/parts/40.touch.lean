/-! ===== touching ===== -/
theorem tmk_o {M R : pMem} {e : Nat} {k : Int} (h : tmk M R e k) (he : e = 22 ∨ e = 29) : tryd M R ∧ mI R 20 = mI M 20 := by
  rcases h with ⟨-, rfl⟩ | ⟨-, N, rfl, hag, -⟩
  · exact ⟨tryd_rf _, rfl⟩
  · refine ⟨⟨fun b j hb => hag.1 b j (by unfold trO at hb; unfold mkO; omega), fun b j hb => (stR_n (Or.inl hb)).trans (hag.2 b j)⟩, ag_row hag (by unfold mkO; omega)⟩
theorem tmk_all {A R1 R2 : pMem} {t k : Int} (h0 : ∀ i : Nat, i < 5 → (i : Int) ≠ t → (i : Int) ≠ k → gdK A (mI A 20) i (118 + 7 * i)) (h1 : tmk A R1 22 t) (h2 : tmk R1 R2 29 k) : ∀ i, i < 5 → ∃ a, gdK R2 (mI A 20) i a := by
  intro i hi
  by_cases hk : (i : Int) = k
  · subst hk
    rcases h2 with ⟨z, -⟩ | ⟨-, N, -, -, hg⟩
    · omega
    · rw [(tmk_o h1 (Or.inl rfl)).2, Int.toNat_natCast] at hg
      exact ⟨29, hg⟩
  · have s1 : ∃ a, a ≠ 29 ∧ gdK R1 (mI A 20) i a := by
      by_cases ht : (i : Int) = t
      · subst ht
        rcases h1 with ⟨z, -⟩ | ⟨-, N, -, -, hg⟩
        · omega
        · rw [Int.toNat_natCast] at hg; exact ⟨22, by decide, hg⟩
      · refine ⟨118 + 7 * i, by omega, ?_⟩
        rcases h1 with ⟨-, rfl⟩ | ⟨z, N, rfl, hag, -⟩
        · exact h0 i hi ht hk
        · exact gdK_n (h0 i hi ht hk) (by omega) (by omega) (Or.inl rfl) hag
    obtain ⟨a, ha, hg⟩ := s1
    rcases h2 with ⟨-, rfl⟩ | ⟨z, N, rfl, hag, -⟩
    · exact ⟨a, hg⟩
    · exact ⟨a, gdK_n hg (by omega) ha (Or.inr rfl) hag⟩
theorem gdK_same {M : pMem} {T T2 : Nat → Int} {i a : Nat} (h : gdK M T i a) (hT : ∀ q, q < 16 → T q = T2 q) : gdK M T2 i a := ⟨h.1, h.2.1, h.2.2.1, isKd_same (fun q hq => ⟨by rw [hT q hq], fun _ => ⟨rfl, rfl⟩⟩) h.2.2.2⟩
theorem sh_kn {i : Nat} (hi : i < 5) : SH[118 + 7 * i]? = some (.inl 0) := by
  have : ∀ i, i < 5 → SH[118 + 7 * i]? = some (.inl 0) := by decide +kernel
  exact this i hi
theorem c_tryTelling {g : pG} {M : pMem} {p : Nat} {k : Int} (hJ : JC M) (hp : p < 16) (hk : -1 ≤ k ∧ k < 5) : pCn g 5 0 0 yX5_tryTelling cX5_tryTelling 4 none SH SH M [.inr (.inr 0), .inl (p : Int), .inl k] (fun r M' => r = none ∧ tryd M M' ∧ ∃ κ : Nat → Nat, ∀ i, i < 5 → gdK M' (up (mI M 2) p k) i (κ i)) := by
  refine pCn_intro mt_X5_tryTelling (fun X C => ?_)
  have hW := hJ.1
  have hTp := hJ.2.2.2.2.1 p hp
  have l3 : ∀ N : pMem, tryd M N → (∀ q, q < 16 → mI N 20 q = up (mI M 2) p k q) → (∀ i, i < 5 → mR N 21 i = some (118 + 7 * i)) → pE g 4 X (pMQ g SH (fun r M' => r = none ∧ tryd M M' ∧ ∃ κ : Nat → Nat, ∀ i, i < 5 → gdK M' (up (mI M 2) p k) i (κ i)) X 0 0) SH N 0 0 58 [some (.inr (.inr 0)), some (.inl (p : Int)), some (.inl k), some (.inl 5)] [] := by
    intro N htr h20 h21
    have hWn := tryd_W htr hW
    have hJn := JC_tryd hJ htr
    have hTn : ∀ q, q < 16 → -1 ≤ mI N 20 q ∧ mI N 20 q < 5 := fun q hq => by
      rw [h20 q hq]
      by_cases e : q = p
      · subst e; rw [up_s]; exact hk
      · rw [up_n e]; exact hJ.2.2.2.2.1 q hq
    have e2 : mI N 2 = mI M 2 := tryd_row htr (by unfold trO; omega)
    refine e_aload_n C dX5_tryTelling_58 rfl ?_
    refine e_aload_n C dX5_tryTelling_59 rfl ?_
    refine e_getR C f_X5_53 sh_0 (hWn 0 8 22 rfl) dX5_tryTelling_60 ?_
    refine e_aload_n C dX5_tryTelling_63 rfl ?_
    refine e_getR C f_X5_15 sh_0 (hWn 0 1 2 rfl) dX5_tryTelling_64 ?_
    refine e_iload_n C dX5_tryTelling_67 rfl ?_
    refine e_iaload C dX5_tryTelling_68 sh_2 _ rfl hp ?_
    rw [e2]
    refine e_callV C (c_tryMaking (M := N) (e := 22) (k := mI M 2 p) hWn (Or.inl rfl) hJn.2.1 hTn (by omega)) mt_X5_tryMaking s_X5_246 dX5_tryTelling_69 5 sh_0 rfl (fun ra Ma hqa => ?_)
    obtain ⟨rfl, hma⟩ := hqa
    dsimp only [Option.toList_none, List.nil_append]
    obtain ⟨ta, ea⟩ := tmk_o hma (Or.inl rfl)
    have hWa := tryd_W ta hWn
    have hJa := JC_tryd hJn ta
    refine e_aload_n C dX5_tryTelling_72 rfl ?_
    refine e_aload_n C dX5_tryTelling_73 rfl ?_
    refine e_getR C f_X5_57 sh_0 (hWa 0 9 29 rfl) dX5_tryTelling_74 ?_
    refine e_iload_n C dX5_tryTelling_77 rfl ?_
    refine e_callV C (c_tryMaking (M := Ma) (e := 29) (k := k) hWa (Or.inr rfl) hJa.2.1 (fun q hq => by rw [ea]; exact hTn q hq) (by omega)) mt_X5_tryMaking s_X5_246 dX5_tryTelling_78 5 sh_0 rfl (fun rb Mb hqb => ?_)
    obtain ⟨rfl, hmb⟩ := hqb
    dsimp only [Option.toList_none, List.nil_append]
    obtain ⟨tb, eb⟩ := tmk_o hmb (Or.inr rfl)
    have hall := tmk_all (A := N) (fun i hi h1 h2 => by
      obtain ⟨o1, o2⟩ := hJn.2.2.2.2.2.2.2.2.1 i hi
      refine ⟨h21 i hi, kaK_k hi, o1, isKd_same (fun q hq => ⟨?_, fun _ => ⟨rfl, rfl⟩⟩) o2⟩
      rw [e2, h20 q hq]
      by_cases e : q = p
      · subst e; rw [up_s]; constructor <;> intro z <;> omega
      · rw [up_n e]) hma hmb
    have hch : ∃ κ : Nat → Nat, ∀ i, i < 5 → gdK Mb (up (mI M 2) p k) i (κ i) := ⟨fun i => if h : i < 5 then Classical.choose (hall i h) else 0, fun i hi => by
      simp only [hi, dif_pos]
      exact gdK_same (Classical.choose_spec (hall i hi)) h20⟩
    exact e_return C dX5_tryTelling_81 ⟨rfl, tryd_tr htr (tryd_tr ta tb), hch⟩
  have l2 : ∀ f : Nat → Int, (∀ q, q < 16 → f q = up (mI M 2) p k q) → ∀ (i : Nat) (N : pMem), i ≤ 5 → ((∀ b j, mI N b j = mI (wrI M 20 f) b j ∧ mL N b j = mL M b j) ∧ (∀ b j, b ≠ 21 → mR N b j = mR M b j) ∧ ∀ j, j < i → mR N 21 j = some (118 + 7 * j)) → pE g 4 X (pMQ g SH (fun r M' => r = none ∧ tryd M M' ∧ ∃ κ : Nat → Nat, ∀ i, i < 5 → gdK M' (up (mI M 2) p k) i (κ i)) X 0 0) SH N 0 0 35 [some (.inr (.inr 0)), some (.inl (p : Int)), some (.inl k), some (.inl (i : Int))] [] := by
    intro f hf
    refine p_for (5) _ _ ?_ ?_
    · rintro N ⟨h1, h2, h3⟩
      refine e_iload_n C dX5_tryTelling_35 rfl ?_
      refine e_iconst C dX5_tryTelling_36 ?_
      refine e_icmp_ge C (tgt := 58) dX5_tryTelling_37 (by decide) (by omega) (by omega) (fun h_37 => ?_) (fun h_37 => by exfalso; omega)
      have htr : tryd M N := ⟨fun b j hb => ⟨by rw [(h1 b j).1, wrI_n _ _ _ (by unfold trO at hb; omega)], (h1 b j).2⟩, h2⟩
      exact l3 N htr (fun q hq => by rw [(h1 20 q).1, wrI_s]; exact hf q hq) h3
    · rintro i N hi ⟨h1, h2, h3⟩ ih
      have hWn : pW N := tryd_W ⟨fun b j hb => ⟨by rw [(h1 b j).1, wrI_n _ _ _ (by unfold trO at hb; omega)], (h1 b j).2⟩, h2⟩ hW
      refine e_iload_n C dX5_tryTelling_35 rfl ?_
      refine e_iconst C dX5_tryTelling_36 ?_
      refine e_icmp_ge C (tgt := 58) dX5_tryTelling_37 (by decide) (by omega) (by omega) (fun h_37 => by exfalso; omega) (fun h_37 => ?_)
      refine e_aload_n C dX5_tryTelling_40 rfl ?_
      refine e_getR C f_X5_49 sh_0 (hWn 0 7 21 rfl) dX5_tryTelling_41 ?_
      refine e_iload_n C dX5_tryTelling_44 rfl ?_
      refine e_aload_n C dX5_tryTelling_45 rfl ?_
      refine e_getR C f_X5_21 sh_0 (hWn 0 2 3 rfl) dX5_tryTelling_46 ?_
      refine e_iload_n C dX5_tryTelling_49 rfl ?_
      refine e_aaload4 C dX5_tryTelling_50 sh_3 _ rfl hi (hWn 3 i _ (rt_kind i hi).1) ?_
      refine e_aastore4 C dX5_tryTelling_51 sh_21 (sh_kn hi) i rfl hi ?_
      refine e_iinc C dX5_tryTelling_52 rfl ?_
      refine e_goto C (tgt := 35) dX5_tryTelling_55 (by decide) ?_
      rw [show ((i : Int) + 1) = ((i + 1 : Nat) : Int) by omega]
      refine ih (stR N 21 i (118 + 7 * i)) ⟨h1, fun b j hb => by rw [stR_n (Or.inl hb)]; exact h2 b j hb, fun j hj => ?_⟩
      by_cases e : j = i
      · subst e; exact stR_s _ _ _ _
      · rw [stR_n (Or.inr e)]; exact h3 j (by omega)
  have l1 : ∀ (i : Nat) (f : Nat → Int), i ≤ 16 → (∀ j, j < i → f j = mI M 2 j) → pE g 4 X (pMQ g SH (fun r M' => r = none ∧ tryd M M' ∧ ∃ κ : Nat → Nat, ∀ i, i < 5 → gdK M' (up (mI M 2) p k) i (κ i)) X 0 0) SH (wrI M 20 f) 0 0 2 [some (.inr (.inr 0)), some (.inl (p : Int)), some (.inl k), some (.inl (i : Int))] [] := by
    refine p_for (16) _ _ ?_ ?_
    · rintro f h1
      refine e_iload_n C dX5_tryTelling_2 rfl ?_
      refine e_bipush C dX5_tryTelling_3 ?_
      refine e_icmp_ge C (tgt := 26) dX5_tryTelling_5 (by decide) (by omega) (by omega) (fun h_5 => ?_) (fun h_5 => by exfalso; omega)
      refine e_aload_n C dX5_tryTelling_26 rfl ?_
      refine e_getR C f_X5_46 sh_0 (hW 0 6 20 rfl) dX5_tryTelling_27 ?_
      refine e_iload_n C dX5_tryTelling_30 rfl ?_
      refine e_iload_n C dX5_tryTelling_31 rfl ?_
      refine e_iastore C dX5_tryTelling_32 sh_20 _ rfl hp ?_
      rw [stI_wr]
      refine e_iconst C dX5_tryTelling_33 ?_
      refine e_istore_n C dX5_tryTelling_34 ?_
      refine l2 (up f p k) (fun q hq => ?_) 0 _ (by omega) ⟨fun b j => ⟨rfl, rfl⟩, fun _ _ _ => rfl, fun j hj => by omega⟩
      by_cases e : q = p
      · subst e; rw [up_s, up_s]
      · rw [up_n e, up_n e]; exact h1 q hq
    · rintro i f hi h1 ih
      refine e_iload_n C dX5_tryTelling_2 rfl ?_
      refine e_bipush C dX5_tryTelling_3 ?_
      refine e_icmp_ge C (tgt := 26) dX5_tryTelling_5 (by decide) (by omega) (by omega) (fun h_5 => by exfalso; omega) (fun h_5 => ?_)
      refine e_aload_n C dX5_tryTelling_8 rfl ?_
      refine e_getR C f_X5_46 sh_0 (hW 0 6 20 rfl) dX5_tryTelling_9 ?_
      refine e_iload_n C dX5_tryTelling_12 rfl ?_
      refine e_aload_n C dX5_tryTelling_13 rfl ?_
      refine e_getR C f_X5_15 sh_0 (hW 0 1 2 rfl) dX5_tryTelling_14 ?_
      refine e_iload_n C dX5_tryTelling_17 rfl ?_
      refine e_iaload C dX5_tryTelling_18 sh_2 _ rfl hi ?_
      rw [wrI_n _ _ _ (by decide)]
      refine e_iastore C dX5_tryTelling_19 sh_20 _ rfl hi ?_
      rw [stI_wr]
      refine e_iinc C dX5_tryTelling_20 rfl ?_
      refine e_goto C (tgt := 2) dX5_tryTelling_23 (by decide) ?_
      rw [show ((i : Int) + 1) = ((i + 1 : Nat) : Int) by omega]
      refine ih _ (fun j hj => ?_)
      by_cases e : j = i
      · subst e; rw [up_s]
      · rw [up_n e]; exact h1 j (by omega)
  show pE g 4 X _ SH M 0 0 0 [some (.inr (.inr 0)), some (.inl (p : Int)), some (.inl k), none] []
  refine e_iconst C dX5_tryTelling_0 ?_
  refine e_istore_n C dX5_tryTelling_1 ?_
  have hz := l1 0 (mI M 20) (by omega) (fun j hj => by omega)
  rw [wrI_e] at hz
  exact hz
/-- what the law sees of a class that was asked -/
def kpC (M N : pMem) : Prop := (∀ b j, (b < 4 ∨ (b = 4 ∧ j < 5) ∨ 38 ≤ b) → mI N b j = mI M b j) ∧ ∀ b j, b ≠ 21 → mR N b j = mR M b j
theorem kpC_cch {M N : pMem} (h : cch M N) : kpC M N := ⟨fun b j hb => h.2.1 b j (by omega) (by omega) (by omega) (by omega), fun b j _ => h.1 b j⟩
theorem kpC_tr {M N R : pMem} (h : kpC M N) (h2 : kpC N R) : kpC M R := ⟨fun b j hb => (h2.1 b j hb).trans (h.1 b j hb), fun b j hb => (h2.2 b j hb).trans (h.2 b j hb)⟩
theorem kpC_tryd {M N : pMem} (h : tryd M N) : kpC M N := ⟨fun b j hb => (h.1 b j (by unfold trO; omega)).1, h.2⟩
theorem soS_r (w : pWt) (G : pPg) (T : Nat → Int) (l v : Int) (p : Nat) : -1 ≤ soS w G T l v p ∧ soS w G T l v p ≤ 11 := ansI_r (rkF_b (Nat.le_refl _))
theorem b01_r2 (c : Prop) [Decidable c] : b01 c = 0 ∨ b01 c = 1 := by unfold b01; split <;> omega
theorem tryd_wt {M N : pMem} (h : tryd M N) : wtC N = wtC M := by unfold wtC; rw [tryd_row h (by unfold trO; omega)]
theorem c_touch {g : pG} {M : pMem}  {p : Int} {k : Int} (hi_p : -2147483648 ≤ p ∧ p < 2147483648) (hi_k : -2147483648 ≤ k ∧ k < 2147483648) (hJ : JC M) : pCn g 7 0 0 yX5_touch cX5_touch 5 (some .int) SH SH M [.inr (.inr 0), .inl p, .inl k] (fun r M' => ((isP M p ∧ 0 < mI M (38 + 5 * p.toNat) 4 ∧ -1 ≤ k ∧ k < 5) → r = some (.inl (sg (fun qq => b01 (soS (wtC M) (pgC M) (mI M 2) (mI M 0 13) (mI M 0 14) qq ≠ soS (wtC M) (pgC M) (up (mI M 2) p.toNat k) (mI M 0 13) (mI M 0 14) qq)) (mI M 0 12).toNat)) ∧ JC M' ∧ kpC M M') ∧ (¬ (isP M p ∧ 0 < mI M (38 + 5 * p.toNat) 4 ∧ -1 ≤ k ∧ k < 5) → r = some (.inl (-1)) ∧ M' = M)) := by
  refine pCn_intro mt_X5_touch (fun X C => ?_)
  have hW := hJ.1
  have hn := hJ.2.2.2.1
  have hkr := JC_kr hJ
  have hbr := JC_br hJ
  show pE g 5 X _ SH M 0 0 0 [some (.inr (.inr 0)), some (.inl p), some (.inl k), none, none] []
  refine e_aload_n C dX5_touch_0 rfl ?_
  refine e_iload_n C dX5_touch_1 rfl ?_
  refine e_iload_n C dX5_touch_2 rfl ?_
  refine e_callV C (c_isTellable hi_p hi_k hW (by omega) hbr) mt_X5_isTellable s_X5_110 dX5_touch_3 5 sh_0 rfl (fun r M1 hq => ?_)
  obtain ⟨rfl, hM⟩ := hq
  subst M1
  dsimp only [Option.toList_some, List.singleton_append]
  refine e_if_ne C (tgt := 11) dX5_touch_6 (by decide) (by split <;> omega) (fun h_6 => ?_) (fun h_6 => ?_)
  · have htl := ite1.mp h_6
    obtain ⟨q, rfl, hq, hq2⟩ := isP_n hJ htl.1
    refine e_aload_n C dX5_touch_11 rfl ?_
    refine e_iload_n C dX5_touch_12 rfl ?_
    refine e_iload_n C dX5_touch_13 rfl ?_
    refine e_callV C (c_tryTelling (M := M) (p := q) (k := k) hJ hq htl.2.2) mt_X5_tryTelling s_X5_203 dX5_touch_14 5 sh_0 rfl (fun rt M1 hqt => ?_)
    obtain ⟨rfl, htr, κ, hκ⟩ := hqt
    dsimp only [Option.toList_none, List.nil_append]
    have jm := JC_tryd hJ htr
    obtain ⟨n, hnn⟩ : ∃ n : Nat, mI M 0 12 = (n : Int) := ⟨(mI M 0 12).toNat, by omega⟩
    have hn16 : n ≤ 16 := by omega
    have lp : ∀ (i : Nat) (N : pMem), i ≤ n → cch M1 N → pE g 5 X (pMQ g SH (fun r M' => ((isP M (q : Int) ∧ 0 < mI M (38 + 5 * (q : Int).toNat) 4 ∧ -1 ≤ k ∧ k < 5) → r = some (.inl (sg (fun qq => b01 (soS (wtC M) (pgC M) (mI M 2) (mI M 0 13) (mI M 0 14) qq ≠ soS (wtC M) (pgC M) (up (mI M 2) (q : Int).toNat k) (mI M 0 13) (mI M 0 14) qq)) (mI M 0 12).toNat)) ∧ JC M' ∧ kpC M M') ∧ (¬ (isP M (q : Int) ∧ 0 < mI M (38 + 5 * (q : Int).toNat) 4 ∧ -1 ≤ k ∧ k < 5) → r = some (.inl (-1)) ∧ M' = M)) X 0 0) SH N 0 0 22 [some (.inr (.inr 0)), some (.inl (q : Int)), some (.inl k), some (.inl (sg (fun qq => b01 (soS (wtC M) (pgC M) (mI M 2) (mI M 0 13) (mI M 0 14) qq ≠ soS (wtC M) (pgC M) (up (mI M 2) q k) (mI M 0 13) (mI M 0 14) qq)) i)), some (.inl (i : Int))] [] := by
      refine p_for (n) _ _ ?_ ?_
      · rintro N cc1
        have e12 : mI N 0 12 = (n : Int) := (cc1.2.1 0 12 (by omega) (by decide) (by decide) (by decide)).trans (((htr.1 0 12 (by unfold trO; omega)).1).trans hnn)
        refine e_iload C dX5_touch_22 rfl ?_
        refine e_aload_n C dX5_touch_24 rfl ?_
        refine e_getI C f_X5_66 sh_0 dX5_touch_25 ?_
        rw [e12]
        refine e_icmp_ge C (tgt := 63) dX5_touch_28 (by decide) (by omega) (by omega) (fun h_28 => ?_) (fun h_28 => by exfalso; omega)
        refine e_iload_n C dX5_touch_63 rfl ?_
        exact e_ireturn C dX5_touch_64 ⟨fun _ => ⟨by rw [hnn, Int.toNat_natCast, Int.toNat_natCast], JC_cch jm cc1, kpC_tr (kpC_tryd htr) (kpC_cch cc1)⟩, fun z => absurd htl z⟩
      · rintro i N hi cc1 ih
        have e12 : mI N 0 12 = (n : Int) := (cc1.2.1 0 12 (by omega) (by decide) (by decide) (by decide)).trans (((htr.1 0 12 (by unfold trO; omega)).1).trans hnn)
        have jN := JC_cch jm cc1
        have hWn := jN.1
        have hi16 : i < 16 := by omega
        refine e_iload C dX5_touch_22 rfl ?_
        refine e_aload_n C dX5_touch_24 rfl ?_
        refine e_getI C f_X5_66 sh_0 dX5_touch_25 ?_
        rw [e12]
        refine e_icmp_ge C (tgt := 63) dX5_touch_28 (by decide) (by omega) (by omega) (fun h_28 => by exfalso; omega) (fun h_28 => ?_)
        refine e_aload_n C dX5_touch_31 rfl ?_
        refine e_iload C dX5_touch_32 rfl ?_
        refine e_aload_n C dX5_touch_34 rfl ?_
        refine e_getR C f_X5_21 sh_0 (hWn 0 2 3 rfl) dX5_touch_35 ?_
        refine e_callV C (c_rankK (M := N) (p := i) jN hi16) mt_X5_rank s_X5_174 dX5_touch_38 5 sh_0 rfl (fun ra Ma hqa => ?_)
        obtain ⟨rfl, -, ca, -⟩ := hqa
        dsimp only [Option.toList_some, List.singleton_append]
        have jA := JC_cch jN ca
        have hWa := jA.1
        have cA := cch_tr cc1 ca
        have e13 : mI Ma 0 13 = mI M 0 13 := (cA.2.1 0 13 (by omega) (by decide) (by decide) (by decide)).trans (htr.1 0 13 (by unfold trO; omega)).1
        have e14 : mI Ma 0 14 = mI M 0 14 := (cA.2.1 0 14 (by omega) (by decide) (by decide) (by decide)).trans (htr.1 0 14 (by unfold trO; omega)).1
        have s1 : soM N i = soS (wtC M) (pgC M) (mI M 2) (mI M 0 13) (mI M 0 14) i := by
          rw [← soM_c ca, soM_S jA hi16, e13, e14, cch_wt cA, cch_pg cA, tryd_wt htr, tryd_pg htr, funext (fun j => cA.2.1 2 j (by omega) (by decide) (by decide) (by decide)), tryd_row htr (by unfold trO; omega)]
        have gd : ∀ j, j < 5 → kdOk Ma (κ j) ∧ isKd (pgC Ma) (up (mI M 2) q k) (j : Int) (mI Ma (κ j) 2) (nSp Ma (κ j)) (shS Ma (κ j + 1)) := fun j hj => by
          obtain ⟨g1, g2, g3, g4⟩ := hκ j hj
          refine ⟨cch_kd cA g2 g3, ?_⟩
          have hk15 : 15 ≤ κ j ∧ κ j ≠ 19 ∧ κ j ≠ 36 ∧ κ j ≠ 37 := by unfold kaK at g2; omega
          rw [cch_pg cA, cch_ns cA g2, cch_shK cA g2, cch_row cA hk15.1 hk15.2.1 hk15.2.2.1 hk15.2.2.2]; exact g4
        refine e_aload_n C dX5_touch_41 rfl ?_
        refine e_iload C dX5_touch_42 rfl ?_
        refine e_aload_n C dX5_touch_44 rfl ?_
        refine e_getR C f_X5_49 sh_0 (hWa 0 7 21 rfl) dX5_touch_45 ?_
        refine e_callV C (c_rank (M := Ma) (ar := 21) (p := i) (κ := κ) hWa jA.2.1 jA.2.2.1 hi16 rfl (fun j hj => ⟨by rw [cA.1]; exact (hκ j hj).1, (hκ j hj).2.1, (gd j hj).1⟩) (by rw [e13]; exact hJ.2.2.2.2.2.2.1.1) (by rw [e14]; exact hJ.2.2.2.2.2.2.1.2.1)) mt_X5_rank s_X5_174 dX5_touch_48 5 sh_0 rfl (fun rb Mb hqb => ?_)
        obtain ⟨rfl, -, cb, -⟩ := hqb
        dsimp only [Option.toList_some, List.singleton_append]
        have s2 : ansI (rkM Ma κ i 5).1 (rkM Ma κ i 5).2.1 (rkM Ma κ i 5).2.2 (mI Ma 0 13) (mI Ma 0 14) = soS (wtC M) (pgC M) (up (mI M 2) q k) (mI M 0 13) (mI M 0 14) i := by
          rw [rkM_S jA.2.1 jA.2.2.1 hi16 gd, e13, e14, cch_wt cA, cch_pg cA, tryd_wt htr, tryd_pg htr]; rfl
        rw [s1, s2]
        have r1 := soS_r (wtC M) (pgC M) (mI M 2) (mI M 0 13) (mI M 0 14) i
        have r2 := soS_r (wtC M) (pgC M) (up (mI M 2) q k) (mI M 0 13) (mI M 0 14) i
        refine e_icmp_eq C (tgt := 57) dX5_touch_51 (by decide) (by omega) (by omega) (fun h_51 => ?_) (fun h_51 => ?_)
        · have hc : sg (fun qq => b01 (soS (wtC M) (pgC M) (mI M 2) (mI M 0 13) (mI M 0 14) qq ≠ soS (wtC M) (pgC M) (up (mI M 2) q k) (mI M 0 13) (mI M 0 14) qq)) i = sg (fun qq => b01 (soS (wtC M) (pgC M) (mI M 2) (mI M 0 13) (mI M 0 14) qq ≠ soS (wtC M) (pgC M) (up (mI M 2) q k) (mI M 0 13) (mI M 0 14) qq)) (i + 1) := by rw [sg]; unfold b01; rw [if_neg (fun z => z h_51)]; omega
          refine e_iinc C dX5_touch_57 rfl ?_
          refine e_goto C (tgt := 22) dX5_touch_60 (by decide) ?_
          rw [show ((i : Int) + 1) = ((i + 1 : Nat) : Int) by omega, hc]
          exact ih Mb (cch_tr cA cb)
        · have hc : sg (fun qq => b01 (soS (wtC M) (pgC M) (mI M 2) (mI M 0 13) (mI M 0 14) qq ≠ soS (wtC M) (pgC M) (up (mI M 2) q k) (mI M 0 13) (mI M 0 14) qq)) i + 1 = sg (fun qq => b01 (soS (wtC M) (pgC M) (mI M 2) (mI M 0 13) (mI M 0 14) qq ≠ soS (wtC M) (pgC M) (up (mI M 2) q k) (mI M 0 13) (mI M 0 14) qq)) (i + 1) := by rw [sg]; unfold b01; rw [if_pos h_51]
          refine e_iinc C dX5_touch_54 rfl ?_
          refine e_iinc C dX5_touch_57 rfl ?_
          refine e_goto C (tgt := 22) dX5_touch_60 (by decide) ?_
          rw [show ((i : Int) + 1) = ((i + 1 : Nat) : Int) by omega, hc]
          exact ih Mb (cch_tr cA cb)
    refine e_iconst C dX5_touch_17 ?_
    refine e_istore_n C dX5_touch_18 ?_
    refine e_iconst C dX5_touch_19 ?_
    refine e_istore C dX5_touch_20 ?_
    exact lp 0 M1 (by omega) (cch_rf _)
  · have htl := fun z => h_6 (ite1.mpr z)
    refine e_iconst C dX5_touch_9 ?_
    exact e_ireturn C dX5_touch_10 ⟨fun z => absurd z htl, fun _ => ⟨rfl, rfl⟩⟩
