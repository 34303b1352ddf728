/-! ===== alike: the questions ===== -/
theorem a_kind {M : pMem} {k w : Int} (hi_k : -2147483648 ≤ k ∧ k < 2147483648) (hi_w : -2147483648 ≤ w ∧ w < 2147483648) (hV : IV M) : ∀ r1 M1, (fun (r : Option pV) (M' : pMem) => r = some (.inl (if 0 ≤ k ∧ k < 5 then (if w = 0 then mI M (118 + 7 * k.toNat) 2 else if w = 1 then mI M (118 + 7 * k.toNat + 1) 4 else -1) else -1)) ∧ M' = M) r1 M1 → ∃ u : Int, r1 = some (.inl u) ∧ JD M1 ∧ ∀ r2 M2, (fun (M : pMem) (r : Option pV) (M' : pMem) => r = some (.inl (if 0 ≤ k ∧ k < 5 then (if w = 0 then kTn (mI M 158) k else if w = 1 then (spc (pgD M) (mI M 158) k 99 : Int) else -1) else -1)) ∧ frD oQ M M' ∧ JD M') M1 r2 M2 → r2 = some (.inl u) ∧ (-2147483648 ≤ u ∧ u < 2147483648) ∧ IV M2 := by
  intro r1 M1 q1
  dsimp only at q1 ⊢
  obtain ⟨rfl, rfl⟩ := q1
  refine ⟨_, rfl, hV.2.1, fun r2 M2 q2 => ?_⟩
  obtain ⟨rfl, f1, j1⟩ := q2
  by_cases hk : 0 ≤ k ∧ k < 5
  · obtain ⟨q, rfl⟩ := Int.eq_ofNat_of_zero_le hk.1
    obtain ⟨a1, a2, a3⟩ := iv_kd hV (k := q) (by omega)
    have hr := kn_r (pgD M1) (mI M1 158) (q : Int) 1
    have hs := spc_16 (G := pgD M1) (T := mI M1 158) (k := (q : Int)) (fun p hp => (hV.2.1.2.2.2.2.1.2.1 p hp).1)
    rw [if_pos hk, if_pos hk, Int.toNat_natCast, a1, a2]
    refine ⟨rfl, ?_, IV_q hV hV.1 kpC_rf j1 (oQ_P f1)⟩
    split
    · omega
    · split <;> omega
  · rw [if_neg hk, if_neg hk]
    exact ⟨rfl, by omega, IV_q hV hV.1 kpC_rf j1 (oQ_P f1)⟩
theorem a_spot {M : pMem} {k i w : Int} (hi_k : -2147483648 ≤ k ∧ k < 2147483648) (hi_i : -2147483648 ≤ i ∧ i < 2147483648) (hi_w : -2147483648 ≤ w ∧ w < 2147483648) (hV : IV M) : ∀ r1 M1, (fun (r : Option pV) (M' : pMem) => r = some (.inl (if (0 ≤ k ∧ k < 5) ∧ 0 ≤ i ∧ i ≤ mI M (118 + 7 * k.toNat + 1) 4 - 1 then (if w = 0 then mI M (118 + 7 * k.toNat + 1 + 1) i.toNat else if w = 1 then mI M (118 + 7 * k.toNat + 1 + 2) i.toNat else if w = 2 then mI M (118 + 7 * k.toNat + 1 + 3) i.toNat else if w = 3 then mI M (118 + 7 * k.toNat + 1 + 4) i.toNat else -1) else -1)) ∧ M' = M) r1 M1 → ∃ u : Int, r1 = some (.inl u) ∧ JD M1 ∧ ∀ r2 M2, (fun (M : pMem) (r : Option pV) (M' : pMem) => (((0 ≤ k ∧ k < 5) ∧ 0 ≤ i ∧ i ≤ (spc (pgD M) (mI M 158) k 99 : Int) - 1) → ∃ tot n Z, isKd (pgD M) (mI M 158) k tot n Z ∧ r = some (.inl (if w = 0 then Z.2.2.1 i.toNat else if w = 1 then Z.1 i.toNat else if w = 2 then Z.2.1 i.toNat else if w = 3 then Z.2.2.2 i.toNat else -1))) ∧ (¬ ((0 ≤ k ∧ k < 5) ∧ 0 ≤ i ∧ i ≤ (spc (pgD M) (mI M 158) k 99 : Int) - 1) → r = some (.inl (-1))) ∧ frD oQ M M' ∧ JD M') M1 r2 M2 → r2 = some (.inl u) ∧ (-2147483648 ≤ u ∧ u < 2147483648) ∧ IV M2 := by
  intro r1 M1 q1
  dsimp only at q1 ⊢
  obtain ⟨rfl, rfl⟩ := q1
  refine ⟨_, rfl, hV.2.1, fun r2 M2 q2 => ?_⟩
  obtain ⟨g1, g2, f1, j1⟩ := q2
  by_cases hk : 0 ≤ k ∧ k < 5
  · obtain ⟨q, rfl⟩ := Int.eq_ofNat_of_zero_le hk.1
    obtain ⟨a1, a2, a3⟩ := iv_kd hV (k := q) (by omega)
    rw [Int.toNat_natCast, a2]
    by_cases hc : (0 ≤ (q : Int) ∧ (q : Int) < 5) ∧ 0 ≤ i ∧ i ≤ (spc (pgD M1) (mI M1 158) (q : Int) 99 : Int) - 1
    · obtain ⟨tot, n, Z, z1, z2⟩ := g1 hc
      obtain ⟨-, e2, e3⟩ := isKd_one a3 z1
      have hn : i.toNat < nSp M1 (118 + 7 * q) := by rw [a3.2.1]; omega
      obtain ⟨y1, y2, y3, y4⟩ := e3 i.toNat hn
      obtain ⟨x1, x2, x3, x4⟩ := (isKd_ok hV.2.1.2.2.2.2.1.2 a3).2.1 i.toNat hn
      have y1 : mI M1 (118 + 7 * q + 1 + 2) i.toNat = Z.1 i.toNat := y1
      have y2 : mI M1 (118 + 7 * q + 1 + 3) i.toNat = Z.2.1 i.toNat := y2
      have y3 : mI M1 (118 + 7 * q + 1 + 1) i.toNat = Z.2.2.1 i.toNat := y3
      have y4 : mI M1 (118 + 7 * q + 1 + 4) i.toNat = Z.2.2.2 i.toNat := y4
      have x1 : 0 ≤ mI M1 (118 + 7 * q + 1 + 2) i.toNat ∧ mI M1 (118 + 7 * q + 1 + 2) i.toNat ≤ 63 := x1
      have x2 : 0 ≤ mI M1 (118 + 7 * q + 1 + 3) i.toNat ∧ mI M1 (118 + 7 * q + 1 + 3) i.toNat ≤ 63 := x2
      have x3 : 1 ≤ mI M1 (118 + 7 * q + 1 + 1) i.toNat ∧ mI M1 (118 + 7 * q + 1 + 1) i.toNat ≤ 99 := x3
      have x4 : mI M1 (118 + 7 * q + 1 + 4) i.toNat = 0 ∨ mI M1 (118 + 7 * q + 1 + 4) i.toNat = 1 := x4
      rw [if_pos hc]
      refine ⟨by rw [z2, y1, y2, y3, y4], ?_, IV_q hV hV.1 kpC_rf j1 (oQ_P f1)⟩
      split
      · omega
      · split
        · omega
        · split
          · omega
          · split <;> omega
    · rw [if_neg hc]
      exact ⟨g2 hc, by omega, IV_q hV hV.1 kpC_rf j1 (oQ_P f1)⟩
  · rw [if_neg (fun z => hk z.1)]
    exact ⟨g2 (fun z => hk z.1), by omega, IV_q hV hV.1 kpC_rf j1 (oQ_P f1)⟩
theorem a_lay {M : pMem} {p k w : Int} (hi_p : -2147483648 ≤ p ∧ p < 2147483648) (hi_k : -2147483648 ≤ k ∧ k < 2147483648) (hi_w : -2147483648 ≤ w ∧ w < 2147483648) (hV : IV M) : ∀ r1 M1, (fun (r : Option pV) (M' : pMem) => r = some (.inl (if isP M p ∧ hasK M k then (if w = 0 then ckF M (118 + 7 * k.toNat) p.toNat / 341812114609 else if 10 ≤ w ∧ w - 10 < mI M (38 + 5 * p.toNat) 4 then dgF (ckF M (118 + 7 * k.toNat) p.toNat) (w - 10).toNat else -1) else -1)) ∧ cch M M') r1 M1 → ∃ u : Int, r1 = some (.inl u) ∧ JD M1 ∧ ∀ r2 M2, (fun (M : pMem) (r : Option pV) (M' : pMem) => r = some (.inl (if (isQ M p ∧ hasQ (mI M 158) k) then (if w = 0 then (kyS (wtD M) (pgD M) (mI M 158) p.toNat k.toNat) / 341812114609 else if 10 ≤ w ∧ w - 10 < mI M 154 p.toNat then dgF (kyS (wtD M) (pgD M) (mI M 158) p.toNat k.toNat) (w - 10).toNat else -1) else -1)) ∧ frD oQ M M' ∧ JD M') M1 r2 M2 → r2 = some (.inl u) ∧ (-2147483648 ≤ u ∧ u < 2147483648) ∧ IV M2 := by
  intro r1 M1 q1
  dsimp only at q1 ⊢
  obtain ⟨rfl, hc⟩ := q1
  have hJ1 := JC_cch hV.1 hc
  have hk1 := kpC_cch hc
  have hi := kpC_hi hk1
  refine ⟨_, rfl, IV_d hV hJ1 hk1, fun r2 M2 q2 => ?_⟩
  rw [hi_wt hi, hi_pg hi, hi 158 (by omega), hi 154 (by omega)] at q2
  obtain ⟨rfl, f1, j1⟩ := q2
  by_cases hb : isQ M p ∧ hasQ (mI M 158) k
  · have hb2 : isP M p ∧ hasK M k := ⟨(iv_P hV p).mpr hb.1, (iv_K hV k).mpr hb.2⟩
    have hb1 : isQ M1 p ∧ hasQ (mI M 158) k := ⟨by rw [isQ_hi hi]; exact hb.1, hb.2⟩
    obtain ⟨hp16, hpe⟩ := iv_q16 hV hb.1
    obtain ⟨q, rfl, hq5, -⟩ := hasQ_n hb.2
    obtain ⟨e1, e2, e3⟩ := iv_ky hV hp16 hq5
    rw [if_pos hb2, if_pos hb1, Int.toNat_natCast, e1, iv_b hV hp16]
    refine ⟨rfl, ?_, IV_q hV hJ1 hk1 j1 (oQ_P f1)⟩
    split
    · omega
    · split
      · unfold dgF; split <;> omega
      · omega
  · have hb2 : ¬ (isP M p ∧ hasK M k) := fun z => hb ⟨(iv_P hV p).mp z.1, (iv_K hV k).mp z.2⟩
    have hb1 : ¬ (isQ M1 p ∧ hasQ (mI M 158) k) := fun z => hb ⟨by rw [← isQ_hi hi]; exact z.1, z.2⟩
    rw [if_neg hb2, if_neg hb1]
    exact ⟨rfl, by omega, IV_q hV hJ1 hk1 j1 (oQ_P f1)⟩
theorem a_moved {M : pMem} {p k y : Int} (hi_p : -2147483648 ≤ p ∧ p < 2147483648) (hi_k : -2147483648 ≤ k ∧ k < 2147483648) (hi_y : -2147483648 ≤ y ∧ y < 2147483648) (hV : IV M) : ∀ r1 M1, (fun (r : Option pV) (M' : pMem) => r = some (.inl (if isP M p ∧ hasK M k then (if y = 0 then ckF M (118 + 7 * k.toNat) p.toNat / 6975757441 % 49 / 7 - 3 else ckF M (118 + 7 * k.toNat) p.toNat / 6975757441 % 49 % 7 - 3) else -10)) ∧ cch M M') r1 M1 → ∃ u : Int, r1 = some (.inl u) ∧ JD M1 ∧ ∀ r2 M2, (fun (M : pMem) (r : Option pV) (M' : pMem) => r = some (.inl (if (isQ M p ∧ hasQ (mI M 158) k) then (if y = 0 then dxo ((kyS (wtD M) (pgD M) (mI M 158) p.toNat k.toNat) / 6975757441 % 49).toNat else dyo ((kyS (wtD M) (pgD M) (mI M 158) p.toNat k.toNat) / 6975757441 % 49).toNat) else -10)) ∧ frD oQ M M' ∧ JD M') M1 r2 M2 → r2 = some (.inl u) ∧ (-2147483648 ≤ u ∧ u < 2147483648) ∧ IV M2 := by
  intro r1 M1 q1
  dsimp only at q1 ⊢
  obtain ⟨rfl, hc⟩ := q1
  have hJ1 := JC_cch hV.1 hc
  have hk1 := kpC_cch hc
  have hi := kpC_hi hk1
  refine ⟨_, rfl, IV_d hV hJ1 hk1, fun r2 M2 q2 => ?_⟩
  rw [hi_wt hi, hi_pg hi, hi 158 (by omega)] at q2
  obtain ⟨rfl, f1, j1⟩ := q2
  by_cases hb : isQ M p ∧ hasQ (mI M 158) k
  · have hb2 : isP M p ∧ hasK M k := ⟨(iv_P hV p).mpr hb.1, (iv_K hV k).mpr hb.2⟩
    have hb1 : isQ M1 p ∧ hasQ (mI M 158) k := ⟨by rw [isQ_hi hi]; exact hb.1, hb.2⟩
    obtain ⟨hp16, hpe⟩ := iv_q16 hV hb.1
    obtain ⟨q, rfl, hq5, -⟩ := hasQ_n hb.2
    obtain ⟨e1, e2, e3⟩ := iv_ky hV hp16 hq5
    rw [if_pos hb2, if_pos hb1, Int.toNat_natCast, e1]
    generalize kyS (wtD M) (pgD M) (mI M 158) p.toNat q = K at e2 e3
    have x1 : dxo (K / 6975757441 % 49).toNat = K / 6975757441 % 49 / 7 - 3 := by unfold dxo; omega
    have x2 : dyo (K / 6975757441 % 49).toNat = K / 6975757441 % 49 % 7 - 3 := by unfold dyo; omega
    rw [x1, x2]
    refine ⟨rfl, ?_, IV_q hV hJ1 hk1 j1 (oQ_P f1)⟩
    split <;> omega
  · have hb2 : ¬ (isP M p ∧ hasK M k) := fun z => hb ⟨(iv_P hV p).mp z.1, (iv_K hV k).mp z.2⟩
    have hb1 : ¬ (isQ M1 p ∧ hasQ (mI M 158) k) := fun z => hb ⟨by rw [← isQ_hi hi]; exact z.1, z.2⟩
    rw [if_neg hb2, if_neg hb1]
    exact ⟨rfl, by omega, IV_q hV hJ1 hk1 j1 (oQ_P f1)⟩
theorem a_read {M : pMem} {p k i : Int} (hi_p : -2147483648 ≤ p ∧ p < 2147483648) (hi_k : -2147483648 ≤ k ∧ k < 2147483648) (hi_i : -2147483648 ≤ i ∧ i < 2147483648) (hV : IV M) : ∀ r1 M1, (fun (r : Option pV) (M' : pMem) => r = some (.inl (if (isP M p ∧ hasK M k) ∧ 0 ≤ i ∧ i ≤ mI M (118 + 7 * k.toNat + 1) 4 - 1 then rdF (ckF M (118 + 7 * k.toNat) p.toNat) i (mI M (38 + 5 * p.toNat + 1)) 0 ((pgC M).1 p.toNat) else -1)) ∧ cch M M') r1 M1 → ∃ u : Int, r1 = some (.inl u) ∧ JD M1 ∧ ∀ r2 M2, (fun (M : pMem) (r : Option pV) (M' : pMem) => r = some (.inl (if ((isQ M p ∧ hasQ (mI M 158) k) ∧ 0 ≤ i ∧ i ≤ (spc (pgD M) (mI M 158) k 99 : Int) - 1) then rdF (kyS (wtD M) (pgD M) (mI M 158) p.toNat k.toNat) i ((pgD M).2 p.toNat).2.2 0 ((pgD M).1 p.toNat) else -1)) ∧ frD oQ M M' ∧ JD M') M1 r2 M2 → r2 = some (.inl u) ∧ (-2147483648 ≤ u ∧ u < 2147483648) ∧ IV M2 := by
  intro r1 M1 q1
  dsimp only at q1 ⊢
  obtain ⟨rfl, hc⟩ := q1
  have hJ1 := JC_cch hV.1 hc
  have hk1 := kpC_cch hc
  have hi := kpC_hi hk1
  refine ⟨_, rfl, IV_d hV hJ1 hk1, fun r2 M2 q2 => ?_⟩
  rw [hi_wt hi, hi_pg hi, hi 158 (by omega)] at q2
  obtain ⟨rfl, f1, j1⟩ := q2
  by_cases hb : isQ M p ∧ hasQ (mI M 158) k
  · have hb2 : isP M p ∧ hasK M k := ⟨(iv_P hV p).mpr hb.1, (iv_K hV k).mpr hb.2⟩
    have hb1 : isQ M1 p ∧ hasQ (mI M 158) k := ⟨by rw [isQ_hi hi]; exact hb.1, hb.2⟩
    obtain ⟨hp16, hpe⟩ := iv_q16 hV hb.1
    obtain ⟨q, rfl, hq5, -⟩ := hasQ_n hb.2
    obtain ⟨e1, e2, e3⟩ := iv_ky hV hp16 hq5
    obtain ⟨a1, a2, a3⟩ := iv_kd hV hq5
    obtain ⟨e4, e5⟩ := hV.2.2.2.2.2.2 p.toNat hp16
    have hbx := (hV.1.2.1.2.1 p.toNat hp16)
    by_cases hi2 : 0 ≤ i ∧ i ≤ (spc (pgD M) (mI M 158) (q : Int) 99 : Int) - 1
    · have hA : (isP M p ∧ hasK M (q : Int)) ∧ 0 ≤ i ∧ i ≤ mI M (118 + 7 * (q : Int).toNat + 1) 4 - 1 := ⟨hb2, by rw [Int.toNat_natCast, a2]; exact hi2⟩
      have hB : (isQ M1 p ∧ hasQ (mI M 158) (q : Int)) ∧ 0 ≤ i ∧ i ≤ (spc (pgD M) (mI M 158) (q : Int) 99 : Int) - 1 := ⟨hb1, hi2⟩
      rw [if_pos hA, if_pos hB, Int.toNat_natCast, e1]
      have e6 : rdF (kyS (wtD M) (pgD M) (mI M 158) p.toNat q) i (mI M (38 + 5 * p.toNat + 1)) 0 ((pgC M).1 p.toNat) = rdF (kyS (wtD M) (pgD M) (mI M 158) p.toNat q) i ((pgD M).2 p.toNat).2.2 0 ((pgD M).1 p.toNat) := by
        rw [← e4]
        exact rdF_E (fun a _ ha => (e5 a (by omega)).2.2)
      refine ⟨by rw [e6], ?_, IV_q hV hJ1 hk1 j1 (oQ_P f1)⟩
      rcases rdF_sp (kyS (wtD M) (pgD M) (mI M 158) p.toNat q) i (mI M (38 + 5 * p.toNat + 1)) ((pgC M).1 p.toNat) 0 with ⟨z, -⟩ | ⟨a, z1, z2, z3, z4⟩
      · rw [z]; omega
      · rw [z4]
        have : 1 ≤ mI M (38 + 5 * p.toNat + 1) a ∧ mI M (38 + 5 * p.toNat + 1) a ≤ 99 := (hbx.2 a (by omega)).2.2
        omega
    · have hA : ¬ ((isP M p ∧ hasK M (q : Int)) ∧ 0 ≤ i ∧ i ≤ mI M (118 + 7 * (q : Int).toNat + 1) 4 - 1) := fun z => hi2 (by have z2 := z.2; rw [Int.toNat_natCast, a2] at z2; exact z2)
      have hB : ¬ ((isQ M1 p ∧ hasQ (mI M 158) (q : Int)) ∧ 0 ≤ i ∧ i ≤ (spc (pgD M) (mI M 158) (q : Int) 99 : Int) - 1) := fun z => hi2 z.2
      rw [if_neg hA, if_neg hB]
      exact ⟨rfl, by omega, IV_q hV hJ1 hk1 j1 (oQ_P f1)⟩
  · have hb2 : ¬ (isP M p ∧ hasK M k) := fun z => hb ⟨(iv_P hV p).mp z.1, (iv_K hV k).mp z.2⟩
    have hb1 : ¬ (isQ M1 p ∧ hasQ (mI M 158) k) := fun z => hb ⟨by rw [← isQ_hi hi]; exact z.1, z.2⟩
    have hA : ¬ ((isP M p ∧ hasK M k) ∧ 0 ≤ i ∧ i ≤ mI M (118 + 7 * k.toNat + 1) 4 - 1) := fun z => hb2 z.1
    have hB : ¬ ((isQ M1 p ∧ hasQ (mI M 158) k) ∧ 0 ≤ i ∧ i ≤ (spc (pgD M) (mI M 158) k 99 : Int) - 1) := fun z => hb1 z.1
    rw [if_neg hA, if_neg hB]
    exact ⟨rfl, by omega, IV_q hV hJ1 hk1 j1 (oQ_P f1)⟩
theorem a_sorted {M : pMem} {p : Int} (hi_p : -2147483648 ≤ p ∧ p < 2147483648) (hV : IV M) : ∀ r1 M1, (fun (r : Option pV) (M' : pMem) => r = some (.inl (if isP M p then soM M p.toNat else -1)) ∧ cch M M') r1 M1 → ∃ u : Int, r1 = some (.inl u) ∧ JD M1 ∧ ∀ r2 M2, (fun (M : pMem) (r : Option pV) (M' : pMem) => r = some (.inl (if isQ M p then (soS (wtD M) (pgD M) (mI M 158) (mI M 153 7) (mI M 153 8) p.toNat) else -1)) ∧ frD oP M M' ∧ JD M') M1 r2 M2 → r2 = some (.inl u) ∧ (-2147483648 ≤ u ∧ u < 2147483648) ∧ IV M2 := by
  intro r1 M1 q1
  dsimp only at q1 ⊢
  obtain ⟨rfl, hc⟩ := q1
  have hJ1 := JC_cch hV.1 hc
  have hk1 := kpC_cch hc
  have hi := kpC_hi hk1
  refine ⟨_, rfl, IV_d hV hJ1 hk1, fun r2 M2 q2 => ?_⟩
  rw [hi_wt hi, hi_pg hi, hi 158 (by omega)] at q2
  obtain ⟨rfl, f1, j1⟩ := q2
  by_cases hb : isQ M p
  · have hb2 := (iv_P hV p).mpr hb
    obtain ⟨hp16, hpe⟩ := iv_q16 hV hb
    have hb1 : isQ M1 p := by rw [isQ_hi hi]; exact hb
    rw [if_pos hb1, if_pos hb2, iv_so hV hp16, hi 153 (by omega)]
    have := soS_r (wtD M) (pgD M) (mI M 158) (mI M 153 7) (mI M 153 8) p.toNat
    exact ⟨rfl, by omega, IV_q hV hJ1 hk1 j1 f1⟩
  · have hb2 : ¬ isP M p := fun z => hb ((iv_P hV p).mp z)
    have hb1 : ¬ isQ M1 p := by rw [isQ_hi hi]; exact hb
    rw [if_neg hb1, if_neg hb2]
    exact ⟨rfl, by omega, IV_q hV hJ1 hk1 j1 f1⟩
theorem lkF_r {T so sp : Nat → Int} : ∀ n : Nat, -1 ≤ (lkF T so sp n).1 ∧ (lkF T so sp n).1 ≤ (n : Int)
  | 0 => by simp [lkF]
  | n + 1 => by
    have := lkF_r (T := T) (so := so) (sp := sp) n
    simp only [lkF]
    split
    · dsimp only; omega
    · omega
theorem a_look {M : pMem} (hV : IV M) : ∀ r1 M1, (fun (r : Option pV) (M' : pMem) => r = some (.inl (lkF (mI M 2) (soM M) (spM M) (mI M 0 12).toNat).1) ∧ cch M M') r1 M1 → ∃ u : Int, r1 = some (.inl u) ∧ JD M1 ∧ ∀ r2 M2, (fun (M : pMem) (r : Option pV) (M' : pMem) => r = some (.inl (lkF (mI M 158) (soS (wtD M) (pgD M) (mI M 158) (mI M 153 7) (mI M 153 8)) (fun q => (rkS (wtD M) (pgD M) (mI M 158) q).2.2 - (rkS (wtD M) (pgD M) (mI M 158) q).2.1) (mI M 153 0).toNat).1) ∧ frD oP M M' ∧ JD M') M1 r2 M2 → r2 = some (.inl u) ∧ (-2147483648 ≤ u ∧ u < 2147483648) ∧ IV M2 := by
  intro r1 M1 q1
  dsimp only at q1 ⊢
  obtain ⟨rfl, hc⟩ := q1
  have hJ1 := JC_cch hV.1 hc
  have hk1 := kpC_cch hc
  have hi := kpC_hi hk1
  refine ⟨_, rfl, IV_d hV hJ1 hk1, fun r2 M2 q2 => ?_⟩
  rw [hi_wt hi, hi_pg hi, hi 158 (by omega), hi 153 (by omega)] at q2
  obtain ⟨rfl, f1, j1⟩ := q2
  have hn := hV.2.1.2.1
  rw [iv_n hV]
  have e : lkF (mI M 2) (soM M) (spM M) (mI M 153 0).toNat = lkF (mI M 158) (soS (wtD M) (pgD M) (mI M 158) (mI M 153 7) (mI M 153 8)) (fun q => (rkS (wtD M) (pgD M) (mI M 158) q).2.2 - (rkS (wtD M) (pgD M) (mI M 158) q).2.1) (mI M 153 0).toNat := lkF_E (fun p hp => ⟨hV.2.2.2.2.2.1 p (by omega), iv_so hV (by omega), by unfold spM; rw [iv_rk hV (by omega)]⟩)
  have hr := lkF_r (T := mI M 2) (so := soM M) (sp := spM M) (mI M 153 0).toNat
  exact ⟨by rw [e], by omega, IV_q hV hJ1 hk1 j1 f1⟩
theorem iv_ls {M : pMem} (h : IV M) {p : Nat} (hp : p < 16) : lsM M p ↔ lsD M p := by
  unfold lsM lsD
  rw [iv_so h hp, h.2.2.2.2.2.1 p hp]
theorem nr_S {M : pMem} (hJ : JC M) {p q : Nat} (hp : p < q) (hq : q < 16) : nrF M p q = nrS (wtC M) (pgC M) p q := by
  obtain ⟨a1, a2⟩ := hJ.2.1.2.1 p (by omega)
  obtain ⟨b1, b2⟩ := hJ.2.1.2.1 q hq
  obtain ⟨K, hK⟩ := isKey_ex hJ.2.2.1 a2 (spB_ok hJ.2.1.2 hq) a1 (show (pgC M).1 q ≤ 16 by omega)
  rw [nrS_e hK]
  refine nrF_e ⟨K, ?_, rfl⟩
  exact isKey_congr (Z := spB ((pgC M).2 q)) (fun _ _ => ⟨rfl, rfl, rfl⟩) (fun s hs => ⟨rfl, rfl, rfl, (hJ.2.2.2.2.2.2.2.1 q s hq hs).symm⟩) hK
theorem iv_ne {M : pMem} (h : IV M) {p q : Nat} (hp : p < q) (hq : q < 16) : neM M p q ↔ neD M p q := by
  unfold neM neD
  rw [nr_S h.1 hp hq, h.2.2.2.1, nrS_E h.2.2.2.2.2.2 _ (by omega) hq, h.2.2.2.2.1.2.2]
theorem iv_hp {M : pMem} (h : IV M) {H : Nat → Int} (hh : hpS (mI M 0 12).toNat (lsM M) (neM M) H) : hpS (mI M 153 0).toNat (lsD M) (neD M) H := by
  have hn := h.2.1.2.1
  rw [iv_n h] at hh
  exact hpS_E (fun p hp => iv_ls h (by omega)) (fun p q hp hq => iv_ne h hp (by omega)) hh
theorem hi_ls {M N : pMem} (h : hiE M N) : lsD N = lsD M := by funext p; unfold lsD; rw [hi_wt h, hi_pg h, h 158 (by omega), h 153 (by omega)]
theorem hi_ne {M N : pMem} (h : hiE M N) : neD N = neD M := by funext p q; unfold neD; rw [hi_wt h, hi_pg h, h 153 (by omega)]
theorem hp_r {n : Nat} {L : Nat → Prop} {E : Nat → Nat → Prop} {H : Nat → Int} (h : hpS n L E H) {p : Nat} (hp : p < n) : -1 ≤ H p ∧ H p ≤ (p : Int) := by
  by_cases z : L p
  · obtain ⟨q, q1, q2, -, -⟩ := h.1.2 p hp z; omega
  · have := h.1.1 p hp z; omega
theorem a_heap {M : pMem} {p : Int} (hi_p : -2147483648 ≤ p ∧ p < 2147483648) (hV : IV M) : ∀ r1 M1, (fun (r : Option pV) (M' : pMem) => (isP M p → ∃ H : Nat → Int, hpS (mI M 0 12).toNat (lsM M) (neM M) H ∧ r = some (.inl (H p.toNat))) ∧ (¬ isP M p → r = some (.inl (-1))) ∧ cch M M') r1 M1 → ∃ u : Int, r1 = some (.inl u) ∧ JD M1 ∧ ∀ r2 M2, (fun (M : pMem) (r : Option pV) (M' : pMem) => (isQ M p → ∃ H : Nat → Int, hpS (mI M 153 0).toNat (lsD M) (neD M) H ∧ r = some (.inl (H p.toNat))) ∧ (¬ isQ M p → r = some (.inl (-1))) ∧ frD oP M M' ∧ JD M') M1 r2 M2 → r2 = some (.inl u) ∧ (-2147483648 ≤ u ∧ u < 2147483648) ∧ IV M2 := by
  intro r1 M1 q1
  dsimp only at q1 ⊢
  obtain ⟨g1, g2, hc⟩ := q1
  have hJ1 := JC_cch hV.1 hc
  have hk1 := kpC_cch hc
  have hi := kpC_hi hk1
  have hn := hV.2.1.2.1
  by_cases hb : isQ M p
  · obtain ⟨H, hH, rfl⟩ := g1 ((iv_P hV p).mpr hb)
    obtain ⟨hp16, hpe⟩ := iv_q16 hV hb
    refine ⟨_, rfl, IV_d hV hJ1 hk1, fun r2 M2 q2 => ?_⟩
    rw [isQ_hi hi, hi_ls hi, hi_ne hi, hi 153 (by omega)] at q2
    obtain ⟨m1, -, f1, j1⟩ := q2
    obtain ⟨H2, hH2, rfl⟩ := m1 hb
    have hH3 := iv_hp hV hH
    have hlt : p.toNat < (mI M 153 0).toNat := by have := hb.2; omega
    have e := hpS_one hH3 hH2 p.toNat hlt
    have hr := hp_r hH3 hlt
    exact ⟨by rw [e], by omega, IV_q hV hJ1 hk1 j1 f1⟩
  · obtain rfl := g2 (fun z => hb ((iv_P hV p).mp z))
    refine ⟨_, rfl, IV_d hV hJ1 hk1, fun r2 M2 q2 => ?_⟩
    rw [isQ_hi hi] at q2
    obtain ⟨-, m2, f1, j1⟩ := q2
    exact ⟨m2 hb, by omega, IV_q hV hJ1 hk1 j1 f1⟩
theorem a_heaps {M : pMem} (hV : IV M) : ∀ r1 M1, (fun (r : Option pV) (M' : pMem) => ∃ H : Nat → Int, hpS (mI M 0 12).toNat (lsM M) (neM M) H ∧ r = some (.inl (sg (fun p => b01 (H p = (p : Int))) (mI M 0 12).toNat)) ∧ cch M M') r1 M1 → ∃ u : Int, r1 = some (.inl u) ∧ JD M1 ∧ ∀ r2 M2, (fun (M : pMem) (r : Option pV) (M' : pMem) => ∃ H : Nat → Int, hpS (mI M 153 0).toNat (lsD M) (neD M) H ∧ r = some (.inl (sg (fun p => b01 (H p = (p : Int))) (mI M 153 0).toNat)) ∧ frD oP M M' ∧ JD M') M1 r2 M2 → r2 = some (.inl u) ∧ (-2147483648 ≤ u ∧ u < 2147483648) ∧ IV M2 := by
  intro r1 M1 q1
  dsimp only at q1 ⊢
  obtain ⟨H, hH, rfl, hc⟩ := q1
  have hJ1 := JC_cch hV.1 hc
  have hk1 := kpC_cch hc
  have hi := kpC_hi hk1
  have hn := hV.2.1.2.1
  refine ⟨_, rfl, IV_d hV hJ1 hk1, fun r2 M2 q2 => ?_⟩
  rw [hi_ls hi, hi_ne hi, hi 153 (by omega)] at q2
  obtain ⟨H2, hH2, rfl, f1, j1⟩ := q2
  have hH3 := iv_hp hV hH
  have e : sg (fun p => b01 (H p = (p : Int))) (mI M 153 0).toNat = sg (fun p => b01 (H2 p = (p : Int))) (mI M 153 0).toNat := sg_congr (fun p hp => by rw [hpS_one hH3 hH2 p hp])
  rw [iv_n hV, e]
  have r1 := sg_nonneg (f := fun p => b01 (H2 p = (p : Int))) (n := (mI M 153 0).toNat) (fun p _ => (b01_r _).1)
  have r2 := sg_ub (f := fun p => b01 (H2 p = (p : Int))) (b := 1) (n := (mI M 153 0).toNat) (fun p _ => (b01_r _).2)
  exact ⟨rfl, by omega, IV_q hV hJ1 hk1 j1 f1⟩
