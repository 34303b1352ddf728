/-! ===== alike: versions, touch ===== -/
theorem apF_r {f h : Int → Int} {d : Int → Bool} : ∀ (n : Nat) (c m : Int), (-1 ≤ m ∧ m ≤ 200) → (0 ≤ c ∧ c + (n : Int) ≤ 200) → -1 ≤ apF f h d n c m ∧ apF f h d n c m ≤ 200
  | 0, _, m, hm, _ => hm
  | n + 1, c, m, hm, hc => by
    simp only [apF]
    split
    · omega
    · refine apF_r n (c + 1) _ ?_ (by omega)
      split <;> omega
theorem apS_r (Z : pS) (n : Nat) (Y : pS) (m : Nat) : -1 ≤ apS Z n Y m ∧ apS Z n Y m ≤ 200 := apF_r 99 1 (-1) (by omega) (by decide)
theorem vs_agree {M : pMem} (hV : IV M) {lo hi : Nat} {w u : Int} (h1 : lo < 5) (h2 : hi < 5) (hw : w = 0 ∨ w = 1) (h : vsQ (wtD M) (pgD M) (mI M 158) (mI M 153 9) lo hi w u) : vsF M lo hi w = u ∧ -1 ≤ u ∧ u ≤ 200 := by
  obtain ⟨tot, n, Z, tot2, m, Y, z1, z2, z3, z4⟩ := h
  obtain ⟨-, -, a3⟩ := iv_kd hV h1
  obtain ⟨-, -, b3⟩ := iv_kd hV h2
  obtain ⟨-, e2, e3⟩ := isKd_one a3 z1
  obtain ⟨-, g2, g3⟩ := isKd_one b3 z2
  subst e2; subst g2
  have zA : zE (nSp M (118 + 7 * lo)) (shS M (118 + 7 * lo + 1)) Z := e3
  have zB : zE (nSp M (118 + 7 * hi)) (shS M (118 + 7 * hi + 1)) Y := g3
  unfold vsF
  rcases hw with rfl | rfl
  · obtain ⟨K, hK, hu⟩ := z4 rfl
    have hk : vrOk M lo hi K := by
      unfold vrOk
      rw [hV.2.2.2.1]
      refine isKey_congr (A := bB Z) (Z := Y) (fun b hb => ?_) (fun s hs => ?_) hK
      · obtain ⟨x1, x2, x3, -⟩ := zA b (by split at hb <;> omega)
        exact ⟨x1.symm, x2.symm, x3.symm⟩
      · obtain ⟨x1, x2, x3, x4⟩ := zB s hs
        exact ⟨x1.symm, x2.symm, x3.symm, x4.symm⟩
    rw [if_pos rfl, vrF_e hk, hV.2.2.2.2.1.2.2]
    refine ⟨hu.symm, ?_⟩
    rw [hu]; split <;> omega
  · rw [if_neg (by decide), if_pos rfl, apS_E zA zB, ← z3 rfl]
    have := apS_r Z (nSp M (118 + 7 * lo)) Y (nSp M (118 + 7 * hi))
    rw [← z3 rfl] at this
    exact ⟨rfl, this⟩
theorem a_versions {M : pMem} {a b w : Int} (hi_a : -2147483648 ≤ a ∧ a < 2147483648) (hi_b : -2147483648 ≤ b ∧ b < 2147483648) (hi_w : -2147483648 ≤ w ∧ w < 2147483648) (hV : IV M) : ∀ r1 M1, (fun (r : Option pV) (M' : pMem) => r = some (.inl (if (hasK M a ∧ hasK M b) ∧ a ≠ b then vsF M (if a < b then a else b).toNat (if a < b then b else a).toNat w else -1)) ∧ cch M M') r1 M1 → ∃ u : Int, r1 = some (.inl u) ∧ JD M1 ∧ ∀ r2 M2, (fun (M : pMem) (r : Option pV) (M' : pMem) => (((hasQ (mI M 158) a ∧ hasQ (mI M 158) b) ∧ a ≠ b ∧ 0 ≤ w ∧ w ≤ 1) → ∃ v : Int, r = some (.inl v) ∧ vsQ (wtD M) (pgD M) (mI M 158) (mI M 153 9) (if a < b then a else b).toNat (if a < b then b else a).toNat w v) ∧ (¬ ((hasQ (mI M 158) a ∧ hasQ (mI M 158) b) ∧ a ≠ b ∧ 0 ≤ w ∧ w ≤ 1) → r = some (.inl (-1))) ∧ frD oQ M M' ∧ JD M') M1 r2 M2 → r2 = some (.inl u) ∧ (-2147483648 ≤ u ∧ u < 2147483648) ∧ IV M2 := by
  intro r1 M1 q1
  dsimp only at q1 ⊢
  obtain ⟨rfl, hc⟩ := q1
  have hJ1 := JC_cch hV.1 hc
  have hk1 := kpC_cch hc
  have hi := kpC_hi hk1
  refine ⟨_, rfl, IV_d hV hJ1 hk1, fun r2 M2 q2 => ?_⟩
  rw [hi_wt hi, hi_pg hi, hi 158 (by omega), hi 153 (by omega)] at q2
  obtain ⟨g1, g2, f1, j1⟩ := q2
  have hF := IV_q hV hJ1 hk1 j1 (oQ_P f1)
  by_cases hb : ((hasQ (mI M 158) a ∧ hasQ (mI M 158) b) ∧ a ≠ b ∧ 0 ≤ w ∧ w ≤ 1)
  · obtain ⟨u, rfl, hv⟩ := g1 hb
    have hb2 : (hasK M a ∧ hasK M b) ∧ a ≠ b := ⟨⟨(iv_K hV a).mpr hb.1.1, (iv_K hV b).mpr hb.1.2⟩, hb.2.1⟩
    have x1 := hb.1.1
    have x2 := hb.1.2
    obtain ⟨e, e1, e2⟩ := vs_agree hV (by split <;> omega) (by split <;> omega) (by omega) hv
    rw [if_pos hb2, e]
    exact ⟨rfl, by omega, hF⟩
  · have hr2 := g2 hb
    subst hr2
    by_cases hb2 : (hasK M a ∧ hasK M b) ∧ a ≠ b
    · have hw : ¬ (0 ≤ w ∧ w ≤ 1) := fun z => hb ⟨⟨(iv_K hV a).mp hb2.1.1, (iv_K hV b).mp hb2.1.2⟩, hb2.2, z⟩
      rw [if_pos hb2]
      unfold vsF
      rw [if_neg (by omega), if_neg (by omega)]
      exact ⟨rfl, by omega, hF⟩
    · rw [if_neg hb2]
      exact ⟨rfl, by omega, hF⟩
theorem a_touch {M : pMem} {p k : Int} (hi_p : -2147483648 ≤ p ∧ p < 2147483648) (hi_k : -2147483648 ≤ k ∧ k < 2147483648) (hV : IV M) : ∀ r1 M1, (fun (r : Option pV) (M' : pMem) => ((isP M p ∧ 0 < mI M (38 + 5 * p.toNat) 4 ∧ -1 ≤ k ∧ k < 5) → r = some (.inl (sg (fun qq => b01 (soS (wtC M) (pgC M) (mI M 2) (mI M 0 13) (mI M 0 14) qq ≠ soS (wtC M) (pgC M) (up (mI M 2) p.toNat k) (mI M 0 13) (mI M 0 14) qq)) (mI M 0 12).toNat)) ∧ JC M' ∧ kpC M M') ∧ (¬ (isP M p ∧ 0 < mI M (38 + 5 * p.toNat) 4 ∧ -1 ≤ k ∧ k < 5) → r = some (.inl (-1)) ∧ M' = M)) r1 M1 → ∃ u : Int, r1 = some (.inl u) ∧ JD M1 ∧ ∀ r2 M2, (fun (M : pMem) (r : Option pV) (M' : pMem) => ((isQ M p ∧ 0 < mI M 154 p.toNat ∧ -1 ≤ k ∧ k < 5) → r = some (.inl (sg (fun q => b01 ((soS (wtD M) (pgD M) (up (mI M 158) p.toNat k) (mI M 153 7) (mI M 153 8) q) ≠ (soS (wtD M) (pgD M) (mI M 158) (mI M 153 7) (mI M 153 8) q))) (mI M 153 0).toNat)) ∧ frD oP M M' ∧ JD M') ∧ (¬ (isQ M p ∧ 0 < mI M 154 p.toNat ∧ -1 ≤ k ∧ k < 5) → r = some (.inl (-1)) ∧ M' = M)) M1 r2 M2 → r2 = some (.inl u) ∧ (-2147483648 ≤ u ∧ u < 2147483648) ∧ IV M2 := by
  intro r1 M1 q1
  dsimp only at q1 ⊢
  have hn := hV.2.1.2.1
  by_cases hc : (isP M p ∧ 0 < mI M (38 + 5 * p.toNat) 4 ∧ -1 ≤ k ∧ k < 5)
  · obtain ⟨rfl, hJ1, hk1⟩ := q1.1 hc
    have hi := kpC_hi hk1
    have hq := (iv_P hV p).mp hc.1
    have hp16 := iv_q16 hV hq
    refine ⟨_, rfl, IV_d hV hJ1 hk1, fun r2 M2 q2 => ?_⟩
    rw [isQ_hi hi, hi_wt hi, hi_pg hi, hi 158 (by omega), hi 154 (by omega), hi 153 (by omega)] at q2
    obtain ⟨rfl, f1, j1⟩ := q2.1 ⟨hq, by rw [← iv_b hV hp16.1]; exact hc.2.1, hc.2.2⟩
    obtain ⟨c1, c2, c3, c4, c5⟩ := hV.2.2
    have ct : tlE (up (mI M 2) p.toNat k) (up (mI M 158) p.toNat k) := fun q hq => by
      by_cases z : q = p.toNat
      · subst z; rw [up_s, up_s]
      · rw [up_n z, up_n z]; exact c4 q hq
    have e : sg (fun qq => b01 (soS (wtC M) (pgC M) (mI M 2) (mI M 0 13) (mI M 0 14) qq ≠ soS (wtC M) (pgC M) (up (mI M 2) p.toNat k) (mI M 0 13) (mI M 0 14) qq)) (mI M 0 12).toNat = sg (fun q => b01 (soS (wtD M) (pgD M) (up (mI M 158) p.toNat k) (mI M 153 7) (mI M 153 8) q ≠ soS (wtD M) (pgD M) (mI M 158) (mI M 153 7) (mI M 153 8) q)) (mI M 153 0).toNat := by
      rw [c1]
      refine sg_congr (fun q hq => b01_iff ?_)
      rw [c2, c3.1, c3.2.1, soS_E c5 c4 _ _ _ (by omega), soS_E c5 ct _ _ _ (by omega)]
      exact ⟨fun z => fun y => z y.symm, fun z => fun y => z y.symm⟩
    rw [e]
    have r1 := sg_nonneg (f := fun q => b01 (soS (wtD M) (pgD M) (up (mI M 158) p.toNat k) (mI M 153 7) (mI M 153 8) q ≠ soS (wtD M) (pgD M) (mI M 158) (mI M 153 7) (mI M 153 8) q)) (n := (mI M 153 0).toNat) (fun p _ => (b01_r _).1)
    have r2 := sg_ub (f := fun q => b01 (soS (wtD M) (pgD M) (up (mI M 158) p.toNat k) (mI M 153 7) (mI M 153 8) q ≠ soS (wtD M) (pgD M) (mI M 158) (mI M 153 7) (mI M 153 8) q)) (b := 1) (n := (mI M 153 0).toNat) (fun p _ => (b01_r _).2)
    exact ⟨rfl, by omega, IV_q hV hJ1 hk1 j1 f1⟩
  · obtain ⟨rfl, rfl⟩ := q1.2 hc
    refine ⟨_, rfl, hV.2.1, fun r2 M2 q2 => ?_⟩
    have hn : ¬ (isQ M1 p ∧ 0 < mI M1 154 p.toNat ∧ -1 ≤ k ∧ k < 5) := fun z => hc ⟨(iv_P hV p).mpr z.1, by rw [iv_b hV (iv_q16 hV z.1).1]; exact z.2.1, z.2.2⟩
    obtain ⟨rfl, rfl⟩ := q2.2 hn
    exact ⟨rfl, by omega, hV⟩
