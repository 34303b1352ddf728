/-! ===== the two answer alike ===== -/
section
variable {M : pMem}
theorem iv_n (h : IV M) : mI M 0 12 = mI M 153 0 := h.2.2.1
theorem iv_P (h : IV M) (p : Int) : isP M p ↔ isQ M p := by unfold isP isQ; rw [iv_n h]
theorem iv_kd (h : IV M) {k : Nat} (hk : k < 5) : mI M (118 + 7 * k) 2 = kTn (mI M 158) (k : Int) ∧ mI M (118 + 7 * k + 1) 4 = (spc (pgD M) (mI M 158) (k : Int) 99 : Int) ∧ isKd (pgD M) (mI M 158) (k : Int) (mI M (118 + 7 * k) 2) (nSp M (118 + 7 * k)) (shS M (118 + 7 * k + 1)) := by
  obtain ⟨k1, k2⟩ := h.1.2.2.2.2.2.2.2.2.1 k hk
  have k3 := isKd_E h.2.2.2.2.2.2 h.2.2.2.2.2.1 k2
  exact ⟨k3.1, by rw [k1.1, k3.2.1], k3⟩
theorem iv_K (h : IV M) (k : Int) : hasK M k ↔ hasQ (mI M 158) k := by
  unfold hasK hasQ
  constructor
  · rintro ⟨a, b, c⟩
    obtain ⟨q, rfl⟩ := Int.eq_ofNat_of_zero_le a
    rw [Int.toNat_natCast, (iv_kd h (by omega)).1] at c
    exact ⟨a, b, c⟩
  · rintro ⟨a, b, c⟩
    obtain ⟨q, rfl⟩ := Int.eq_ofNat_of_zero_le a
    refine ⟨a, b, ?_⟩
    rw [Int.toNat_natCast, (iv_kd h (by omega)).1]
    exact c
theorem iv_ky (h : IV M) {p k : Nat} (hp : p < 16) (hk : k < 5) : ckF M (118 + 7 * k) p = kyS (wtD M) (pgD M) (mI M 158) p k ∧ 0 ≤ kyS (wtD M) (pgD M) (mI M 158) p k ∧ kyS (wtD M) (pgD M) (mI M 158) p k ≤ 5000000000000000 := by
  obtain ⟨k1, k2⟩ := h.1.2.2.2.2.2.2.2.2.1 k hk
  have e := ckF_S h.1.2.1 h.1.2.2.1 hp k1 k2
  have e2 : ckF M (118 + 7 * k) p = kyS (wtD M) (pgD M) (mI M 158) p k := by
    rw [e.2, h.2.2.2.1]; exact kyS_E h.2.2.2.2.2.2 h.2.2.2.2.2.1 _ hp k
  have := ck_r h.1 hk hp e.1
  rw [e2] at this
  exact ⟨e2, this⟩
theorem iv_rk (h : IV M) {p : Nat} (hp : p < 16) : rkM M kap p 5 = rkS (wtD M) (pgD M) (mI M 158) p := by
  rw [rkM_S (κ := kap) h.1.2.1 h.1.2.2.1 hp h.1.2.2.2.2.2.2.2.2.1, h.2.2.2.1]
  exact rkS_E h.2.2.2.2.2.2 h.2.2.2.2.2.1 _ hp
theorem iv_so (h : IV M) {p : Nat} (hp : p < 16) : soM M p = soS (wtD M) (pgD M) (mI M 158) (mI M 153 7) (mI M 153 8) p := by
  unfold soM soS
  rw [iv_rk h hp, h.2.2.2.2.1.1, h.2.2.2.2.1.2.1]
theorem iv_b (h : IV M) {p : Nat} (hp : p < 16) : mI M (38 + 5 * p) 4 = mI M 154 p := by
  rw [h.1.2.1.1 p hp, h.2.1.2.2.2.2.1.1 p hp, (h.2.2.2.2.2.2 p hp).1]
theorem iv_q16 (h : IV M) {p : Int} (hp : isQ M p) : p.toNat < 16 ∧ (p.toNat : Int) = p := by
  have := h.2.1.2.1
  unfold isQ at hp
  omega
theorem isQ_hi {N : pMem} (h : hiE M N) (p : Int) : isQ N p = isQ M p := by unfold isQ; rw [h 153 (by omega)]
end
theorem a_page {M : pMem} (hV : IV M) : ∀ r1 M1, (fun (r : Option pV) (M' : pMem) => (mI M 0 12 < 16 → r = some (.inl (mI M 0 12)) ∧ M' = stI M 0 12 (mI M 0 12 + 1) ∧ JC M') ∧ (¬ mI M 0 12 < 16 → r = some (.inl (-1)) ∧ M' = M)) r1 M1 → ∃ u : Int, r1 = some (.inl u) ∧ JD M1 ∧ ∀ r2 M2, (fun (M : pMem) (r : Option pV) (M' : pMem) => (mI M 153 0 < 16 → r = some (.inl (mI M 153 0)) ∧ M' = (stI (stI (stI (stI M 154 (mI M 153 0).toNat 0) 158 (mI M 153 0).toNat (-1)) 153 0 (mI M 153 0 + 1)) 153 10 0) ∧ JD M') ∧ (¬ mI M 153 0 < 16 → r = some (.inl (-1)) ∧ M' = M)) M1 r2 M2 → r2 = some (.inl u) ∧ (-2147483648 ≤ u ∧ u < 2147483648) ∧ IV M2 := by
  intro r1 M1 q1
  dsimp only at q1 ⊢
  have hn := hV.2.1.2.1
  have en := iv_n hV
  by_cases hc : mI M 0 12 < 16
  · obtain ⟨rfl, rfl, hJ⟩ := q1.1 hc
    have hi : hiE M (stI M 0 12 (mI M 0 12 + 1)) := fun b hb => stI_rowN _ _ _ (by omega)
    refine ⟨_, rfl, JD_hi hV.2.1 hi hJ.1, fun r2 M2 q2 => ?_⟩
    rw [hi 153 (by omega), ← en] at q2
    obtain ⟨rfl, rfl, hJ2⟩ := q2.1 hc
    refine ⟨rfl, by omega, JC_lo hJ ⟨fun b j hb => ⟨by rw [stI_n _ _ (by omega), stI_n _ _ (by omega), stI_n _ _ (by omega), stI_n _ _ (by omega)], rfl⟩, fun _ _ => rfl⟩, hJ2, ?_⟩
    obtain ⟨q, hq⟩ : ∃ q : Nat, mI M 0 12 = (q : Int) := ⟨(mI M 0 12).toNat, by omega⟩
    have hq16 : q < 16 := by omega
    have hz := hV.1.2.2.2.2.2.1 q hq16 (by omega)
    obtain ⟨c1, c2, c3, c4, c5⟩ := hV.2.2
    rw [hq, Int.toNat_natCast]
    generalize hR : stI (stI (stI (stI (stI M 0 12 ((q : Int) + 1)) 154 q 0) 158 q (-1)) 153 0 ((q : Int) + 1)) 153 10 0 = R
    have eo : ∀ b, b ≠ 0 → b ≠ 153 → b ≠ 154 → b ≠ 158 → mI R b = mI M b := fun b x0 x1 x2 x3 => by rw [← hR, stI_rowN _ _ _ x1, stI_rowN _ _ _ x1, stI_rowN _ _ _ x3, stI_rowN _ _ _ x2, stI_rowN _ _ _ x0]
    have e0 : ∀ j, j ≠ 12 → mI R 0 j = mI M 0 j := fun j hj => by rw [← hR, stI_n _ _ (by omega), stI_n _ _ (by omega), stI_n _ _ (by omega), stI_n _ _ (by omega), stI_n _ _ (by omega)]
    have e3 : ∀ j, j ≠ 0 → j ≠ 10 → mI R 153 j = mI M 153 j := fun j h1 h2 => by rw [← hR, stI_n _ _ (by omega), stI_n _ _ (by omega), stI_n _ _ (by omega), stI_n _ _ (by omega), stI_n _ _ (by omega)]
    have e4 : mI R 154 = up (mI M 154) q 0 := by rw [← hR, stI_rowN _ _ _ (by decide), stI_rowN _ _ _ (by decide), stI_rowN _ _ _ (by decide), stI_row, stI_rowN _ _ _ (by decide)]
    have e8 : mI R 158 = up (mI M 158) q (-1) := by rw [← hR, stI_rowN _ _ _ (by decide), stI_rowN _ _ _ (by decide), stI_row, stI_rowN _ _ _ (by decide), stI_rowN _ _ _ (by decide)]
    refine ⟨?_, ?_, ?_, fun p hp => ?_, fun p hp => ?_⟩
    · rw [← hR]; simp [mI, stI]
    · rw [show wtC R = wtC M by unfold wtC; rw [eo 4 (by decide) (by decide) (by decide) (by decide)], show wtD R = wtD M by unfold wtD; rw [eo 159 (by decide) (by decide) (by decide) (by decide)]]; exact c2
    · rw [e0 13 (by decide), e0 14 (by decide), e0 15 (by decide), e3 7 (by decide) (by decide), e3 8 (by decide) (by decide), e3 9 (by decide) (by decide)]; exact c3
    · rw [eo 2 (by decide) (by decide) (by decide) (by decide), e8]
      by_cases z : p = q
      · subst z; rw [up_s]; exact hz.2
      · rw [up_n z]; exact c4 p hp
    · have eG := pgC_kp (M := M) (N := R) (fun b j x y => by rw [eo b (by omega) (by omega) (by omega) (by omega)]) p hp
      have eD : (pgD R).2 p = (pgD M).2 p := by unfold pgD; dsimp only; rw [eo 155 (by decide) (by decide) (by decide) (by decide), eo 156 (by decide) (by decide) (by decide) (by decide), eo 157 (by decide) (by decide) (by decide) (by decide)]
      rw [eG.1, eG.2, eD]
      by_cases z : p = q
      · subst z
        have ec : (pgD R).1 p = 0 := by show (mI R 154 p).toNat = 0; rw [e4, up_s]; rfl
        rw [hz.1, ec]
        exact ⟨rfl, fun i hi => by omega⟩
      · have ec : (pgD R).1 p = (pgD M).1 p := by show (mI R 154 p).toNat = _; rw [e4, up_n z]; rfl
        rw [ec]; exact c5 p hp
  · obtain ⟨rfl, rfl⟩ := q1.2 hc
    refine ⟨_, rfl, hV.2.1, fun r2 M2 q2 => ?_⟩
    rw [← en] at q2
    obtain ⟨rfl, rfl⟩ := q2.2 hc
    exact ⟨rfl, by omega, hV⟩
theorem a_told {M : pMem} {p : Int} (hi_p : -2147483648 ≤ p ∧ p < 2147483648) (hV : IV M) : ∀ r1 M1, (fun (r : Option pV) (M' : pMem) => r = some (.inl (if isP M p then mI M 2 p.toNat else -1)) ∧ M' = M) r1 M1 → ∃ u : Int, r1 = some (.inl u) ∧ JD M1 ∧ ∀ r2 M2, (fun (M : pMem) (r : Option pV) (M' : pMem) => r = some (.inl (if isQ M p then mI M 158 p.toNat else -1)) ∧ M' = M) M1 r2 M2 → r2 = some (.inl u) ∧ (-2147483648 ≤ u ∧ u < 2147483648) ∧ IV M2 := by
  intro r1 M1 q1
  dsimp only at q1 ⊢
  obtain ⟨rfl, rfl⟩ := q1
  refine ⟨_, rfl, hV.2.1, fun r2 M2 q2 => ?_⟩
  obtain ⟨rfl, rfl⟩ := q2
  have e : (if isP M2 p then mI M2 2 p.toNat else -1) = (if isQ M2 p then mI M2 158 p.toNat else -1) := by
    by_cases z : isQ M2 p
    · rw [if_pos z, if_pos ((iv_P hV p).mpr z)]; exact hV.2.2.2.2.2.1 _ (iv_q16 hV z).1
    · rw [if_neg z, if_neg (fun y => z ((iv_P hV p).mp y))]
  refine ⟨by rw [e], ?_, hV⟩
  split
  · next z => have := hV.1.2.2.2.2.1 p.toNat (by have := hV.1.2.2.2.1; omega); omega
  · omega
theorem a_about {M : pMem} {w : Int} (hi_w : -2147483648 ≤ w ∧ w < 2147483648) (hV : IV M) : ∀ r1 M1, (fun (r : Option pV) (M' : pMem) => r = some (.inl (if w = 0 then mI M 0 12 else if w = 1 then mI M 4 0 else if w = 2 then mI M 4 1 else if w = 3 then mI M 4 2 else if w = 4 then mI M 4 3 else if w = 5 then mI M 4 4 else if w = 6 then mI M 0 13 else if w = 7 then mI M 0 14 else if w = 8 then mI M 0 15 else if 20 ≤ w ∧ isP M (w - 20) then mI M (38 + 5 * (w - 20).toNat) 4 else -1)) ∧ M' = M) r1 M1 → ∃ u : Int, r1 = some (.inl u) ∧ JD M1 ∧ ∀ r2 M2, (fun (M : pMem) (r : Option pV) (M' : pMem) => r = some (.inl (if w = 0 then mI M 153 0 else if w = 1 then mI M 159 0 else if w = 2 then mI M 159 1 else if w = 3 then mI M 159 2 else if w = 4 then mI M 159 3 else if w = 5 then mI M 159 4 else if w = 6 then mI M 153 7 else if w = 7 then mI M 153 8 else if w = 8 then mI M 153 9 else if 20 ≤ w ∧ isQ M (w - 20) then mI M 154 (w - 20).toNat else -1)) ∧ M' = M) M1 r2 M2 → r2 = some (.inl u) ∧ (-2147483648 ≤ u ∧ u < 2147483648) ∧ IV M2 := by
  intro r1 M1 q1
  dsimp only at q1 ⊢
  obtain ⟨rfl, rfl⟩ := q1
  refine ⟨_, rfl, hV.2.1, fun r2 M2 q2 => ?_⟩
  obtain ⟨rfl, rfl⟩ := q2
  obtain ⟨c1, c2, c3, c4, c5⟩ := hV.2.2
  have w0 : mI M2 4 0 = mI M2 159 0 := congrArg (fun z : pWt => z.1) c2
  have w1 : mI M2 4 1 = mI M2 159 1 := congrArg (fun z : pWt => z.2.1) c2
  have w2 : mI M2 4 2 = mI M2 159 2 := congrArg (fun z : pWt => z.2.2.1) c2
  have w3 : mI M2 4 3 = mI M2 159 3 := congrArg (fun z : pWt => z.2.2.2.1) c2
  have w4 : mI M2 4 4 = mI M2 159 4 := congrArg (fun z : pWt => z.2.2.2.2) c2
  have ww := hV.2.1.2.2.1
  unfold wtOk wtD at ww
  dsimp only at ww
  have hbd := hV.2.1.2.2.2.1
  unfold bdD at hbd
  have hn := hV.2.1.2.1
  have hbx : ∀ q, q < 16 → 0 ≤ mI M2 154 q ∧ mI M2 154 q ≤ 8 := fun q hq => by
    have h1 := hV.2.1.2.2.2.2.1.1 q hq
    have h2 := (hV.2.1.2.2.2.2.1.2.1 q hq).1
    omega
  have e : (if 20 ≤ w ∧ isP M2 (w - 20) then mI M2 (38 + 5 * (w - 20).toNat) 4 else -1) = (if 20 ≤ w ∧ isQ M2 (w - 20) then mI M2 154 (w - 20).toNat else -1) := by
    by_cases z : 20 ≤ w ∧ isQ M2 (w - 20)
    · rw [if_pos z, if_pos ⟨z.1, (iv_P hV _).mpr z.2⟩]; exact iv_b hV (iv_q16 hV z.2).1
    · rw [if_neg z, if_neg (fun y => z ⟨y.1, (iv_P hV _).mp y.2⟩)]
  rw [e, w0, w1, w2, w3, w4, c1, c3.1, c3.2.1, c3.2.2]
  refine ⟨rfl, ?_, hV⟩
  have hl : -2147483648 ≤ (if 20 ≤ w ∧ isQ M2 (w - 20) then mI M2 154 (w - 20).toNat else -1) ∧ (if 20 ≤ w ∧ isQ M2 (w - 20) then mI M2 154 (w - 20).toNat else -1) < 2147483648 := by
    by_cases z : 20 ≤ w ∧ isQ M2 (w - 20)
    · rw [if_pos z]; have := hbx _ (iv_q16 hV z.2).1; omega
    · rw [if_neg z]; omega
  split
  · omega
  · split
    · omega
    · split
      · omega
      · split
        · omega
        · split
          · omega
          · split
            · omega
            · split
              · omega
              · split
                · omega
                · split
                  · omega
                  · exact hl
