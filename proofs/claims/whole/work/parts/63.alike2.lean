/-! ===== alike: bounds, weights, tell, box ===== -/
theorem a_bounds {M : pMem} {l v h : Int} (hi_l : -2147483648 ≤ l ∧ l < 2147483648) (hi_v : -2147483648 ≤ v ∧ v < 2147483648) (hi_h : -2147483648 ≤ h ∧ h < 2147483648) (hV : IV M) : ∀ r1 M1, (fun (r : Option pV) (M' : pMem) => (((0 ≤ l ∧ l ≤ 1000) ∧ (0 ≤ v ∧ v ≤ 1000) ∧ (0 ≤ h ∧ h ≤ 1000)) → r = some (.inl 1) ∧ M' = stI (stI (stI M 0 13 l) 0 14 v) 0 15 h ∧ JC M') ∧ (¬ ((0 ≤ l ∧ l ≤ 1000) ∧ (0 ≤ v ∧ v ≤ 1000) ∧ (0 ≤ h ∧ h ≤ 1000)) → r = some (.inl 0) ∧ M' = M)) r1 M1 → ∃ u : Int, r1 = some (.inl u) ∧ JD M1 ∧ ∀ r2 M2, (fun (M : pMem) (r : Option pV) (M' : pMem) => (((0 ≤ l ∧ l ≤ 1000) ∧ (0 ≤ v ∧ v ≤ 1000) ∧ (0 ≤ h ∧ h ≤ 1000)) → r = some (.inl 1) ∧ M' = (stI (stI (stI M 153 7 l) 153 8 v) 153 9 h) ∧ JD M') ∧ (¬ ((0 ≤ l ∧ l ≤ 1000) ∧ (0 ≤ v ∧ v ≤ 1000) ∧ (0 ≤ h ∧ h ≤ 1000)) → r = some (.inl 0) ∧ M' = M)) M1 r2 M2 → r2 = some (.inl u) ∧ (-2147483648 ≤ u ∧ u < 2147483648) ∧ IV M2 := by
  intro r1 M1 q1
  dsimp only at q1 ⊢
  by_cases hc : (0 ≤ l ∧ l ≤ 1000) ∧ (0 ≤ v ∧ v ≤ 1000) ∧ (0 ≤ h ∧ h ≤ 1000)
  · obtain ⟨rfl, rfl, hJ⟩ := q1.1 hc
    have hi : hiE M (stI (stI (stI M 0 13 l) 0 14 v) 0 15 h) := fun b hb => (stI_rowN _ _ _ (by omega)).trans ((stI_rowN _ _ _ (by omega)).trans (stI_rowN _ _ _ (by omega)))
    refine ⟨_, rfl, JD_hi hV.2.1 hi hJ.1, fun r2 M2 q2 => ?_⟩
    obtain ⟨rfl, hM2, hJ2⟩ := q2.1 hc
    have hlo : loE (stI (stI (stI M 0 13 l) 0 14 v) 0 15 h) M2 := by
      subst hM2
      exact ⟨fun b j hb => ⟨by rw [stI_n _ _ (by omega), stI_n _ _ (by omega), stI_n _ _ (by omega)], rfl⟩, fun _ _ => rfl⟩
    refine ⟨rfl, by omega, JC_lo hJ hlo, hJ2, ?_⟩
    obtain ⟨c1, c2, c3, c4, c5⟩ := hV.2.2
    have eo : ∀ b, b ≠ 0 → b ≠ 153 → mI M2 b = mI M b := fun b x0 x1 => by subst hM2; rw [stI_rowN _ _ _ x1, stI_rowN _ _ _ x1, stI_rowN _ _ _ x1, stI_rowN _ _ _ x0, stI_rowN _ _ _ x0, stI_rowN _ _ _ x0]
    have e12 : mI M2 0 12 = mI M 0 12 := by subst hM2; simp [mI, stI]
    have e30 : mI M2 153 0 = mI M 153 0 := by subst hM2; simp [mI, stI]
    have eb : mI M2 0 13 = mI M2 153 7 ∧ mI M2 0 14 = mI M2 153 8 ∧ mI M2 0 15 = mI M2 153 9 := by subst hM2; simp [mI, stI]
    refine ⟨by rw [e12, e30]; exact c1, ?_, eb, fun p hp => by rw [eo 2 (by decide) (by decide), eo 158 (by decide) (by decide)]; exact c4 p hp, fun p hp => ?_⟩
    · rw [show wtC M2 = wtC M by unfold wtC; rw [eo 4 (by decide) (by decide)], show wtD M2 = wtD M by unfold wtD; rw [eo 159 (by decide) (by decide)]]; exact c2
    · have eG := pgC_kp (M := M) (N := M2) (fun b j x y => by rw [eo b (by omega) (by omega)]) p hp
      rw [eG.1, eG.2, show pgD M2 = pgD M by unfold pgD; rw [eo 154 (by decide) (by decide), eo 155 (by decide) (by decide), eo 156 (by decide) (by decide), eo 157 (by decide) (by decide)]]
      exact c5 p hp
  · obtain ⟨rfl, rfl⟩ := q1.2 hc
    refine ⟨_, rfl, hV.2.1, fun r2 M2 q2 => ?_⟩
    obtain ⟨rfl, rfl⟩ := q2.2 hc
    exact ⟨rfl, by omega, hV⟩
theorem a_weights {M : pMem} {m1 m2 m3 m4 m5 : Int} (hi_m1 : -2147483648 ≤ m1 ∧ m1 < 2147483648) (hi_m2 : -2147483648 ≤ m2 ∧ m2 < 2147483648) (hi_m3 : -2147483648 ≤ m3 ∧ m3 < 2147483648) (hi_m4 : -2147483648 ≤ m4 ∧ m4 < 2147483648) (hi_m5 : -2147483648 ≤ m5 ∧ m5 < 2147483648) (hV : IV M) : ∀ r1 M1, (fun (r : Option pV) (M' : pMem) => (((0 ≤ m1 ∧ m1 ≤ 9) ∧ (0 ≤ m2 ∧ m2 ≤ 9) ∧ (0 ≤ m3 ∧ m3 ≤ 99) ∧ (0 ≤ m4 ∧ m4 ≤ 99) ∧ (0 ≤ m5 ∧ m5 ≤ 99)) → r = some (.inl 1) ∧ JC M' ∧ wtC M' = (m1, m2, m3, m4, m5) ∧ (∀ b j, b ≠ 4 → b ≠ 36 → mI M' b j = mI M b j) ∧ ∀ b j, mR M' b j = mR M b j) ∧ (¬ ((0 ≤ m1 ∧ m1 ≤ 9) ∧ (0 ≤ m2 ∧ m2 ≤ 9) ∧ (0 ≤ m3 ∧ m3 ≤ 99) ∧ (0 ≤ m4 ∧ m4 ≤ 99) ∧ (0 ≤ m5 ∧ m5 ≤ 99)) → r = some (.inl 0) ∧ M' = M)) r1 M1 → ∃ u : Int, r1 = some (.inl u) ∧ JD M1 ∧ ∀ r2 M2, (fun (M : pMem) (r : Option pV) (M' : pMem) => (((0 ≤ m1 ∧ m1 ≤ 9) ∧ (0 ≤ m2 ∧ m2 ≤ 9) ∧ (0 ≤ m3 ∧ m3 ≤ 99) ∧ (0 ≤ m4 ∧ m4 ≤ 99) ∧ (0 ≤ m5 ∧ m5 ≤ 99)) → r = some (.inl 1) ∧ M' = (stI (stI (stI (stI (stI (stI M 159 0 m1) 159 1 m2) 159 2 m3) 159 3 m4) 159 4 m5) 153 10 0) ∧ JD M' ∧ wtD M' = (m1, m2, m3, m4, m5)) ∧ (¬ ((0 ≤ m1 ∧ m1 ≤ 9) ∧ (0 ≤ m2 ∧ m2 ≤ 9) ∧ (0 ≤ m3 ∧ m3 ≤ 99) ∧ (0 ≤ m4 ∧ m4 ≤ 99) ∧ (0 ≤ m5 ∧ m5 ≤ 99)) → r = some (.inl 0) ∧ M' = M)) M1 r2 M2 → r2 = some (.inl u) ∧ (-2147483648 ≤ u ∧ u < 2147483648) ∧ IV M2 := by
  intro r1 M1 q1
  dsimp only at q1 ⊢
  by_cases hc : ((0 ≤ m1 ∧ m1 ≤ 9) ∧ (0 ≤ m2 ∧ m2 ≤ 9) ∧ (0 ≤ m3 ∧ m3 ≤ 99) ∧ (0 ≤ m4 ∧ m4 ≤ 99) ∧ (0 ≤ m5 ∧ m5 ≤ 99))
  · obtain ⟨rfl, hJ, hw, hk, hr⟩ := q1.1 hc
    have hi : hiE M M1 := fun b hb => funext (fun j => hk b j (by omega) (by omega))
    refine ⟨_, rfl, JD_hi hV.2.1 hi hJ.1, fun r2 M2 q2 => ?_⟩
    obtain ⟨rfl, hM2, hJ2, hw2⟩ := q2.1 hc
    have hlo : loE M1 M2 := by
      subst hM2
      exact ⟨fun b j hb => ⟨by rw [stI_n _ _ (by omega), stI_n _ _ (by omega), stI_n _ _ (by omega), stI_n _ _ (by omega), stI_n _ _ (by omega), stI_n _ _ (by omega)], rfl⟩, fun _ _ => rfl⟩
    refine ⟨rfl, by omega, JC_lo hJ hlo, hJ2, ?_⟩
    obtain ⟨c1, c2, c3, c4, c5⟩ := hV.2.2
    have eo : ∀ b j, b < 153 → b ≠ 4 → b ≠ 36 → mI M2 b j = mI M b j := fun b j x0 x1 x2 => (hlo.1 b j x0).1.trans (hk b j x1 x2)
    have eh : ∀ b j, 153 ≤ b → b ≠ 159 → (b ≠ 153 ∨ j ≠ 10) → mI M2 b j = mI M b j := fun b j x0 x1 x2 => by
      subst hM2
      rw [stI_n _ _ (by omega), stI_n _ _ (by omega), stI_n _ _ (by omega), stI_n _ _ (by omega), stI_n _ _ (by omega), stI_n _ _ (by omega)]
      exact hk b j (by omega) (by omega)
    have er : ∀ b, 153 < b → b ≠ 159 → mI M2 b = mI M b := fun b x0 x1 => funext (fun j => eh b j (by omega) x1 (by omega))
    refine ⟨by rw [eo 0 12 (by omega) (by omega) (by omega), eh 153 0 (by omega) (by omega) (by omega)]; exact c1, ?_, ?_, fun p hp => by rw [eo 2 p (by omega) (by omega) (by omega), er 158 (by decide) (by decide)]; exact c4 p hp, fun p hp => ?_⟩
    · rw [hw2, ← hw]; unfold wtC; rw [(hlo.1 4 0 (by omega)).1, (hlo.1 4 1 (by omega)).1, (hlo.1 4 2 (by omega)).1, (hlo.1 4 3 (by omega)).1, (hlo.1 4 4 (by omega)).1]
    · rw [eo 0 13 (by omega) (by omega) (by omega), eo 0 14 (by omega) (by omega) (by omega), eo 0 15 (by omega) (by omega) (by omega), eh 153 7 (by omega) (by omega) (by omega), eh 153 8 (by omega) (by omega) (by omega), eh 153 9 (by omega) (by omega) (by omega)]; exact c3
    · have eG := pgC_kp (M := M) (N := M2) (fun b j x y => eo b j (by omega) (by omega) (by omega)) p hp
      rw [eG.1, eG.2, show pgD M2 = pgD M by unfold pgD; rw [er 154 (by decide) (by decide), er 155 (by decide) (by decide), er 156 (by decide) (by decide), er 157 (by decide) (by decide)]]
      exact c5 p hp
  · obtain ⟨rfl, rfl⟩ := q1.2 hc
    refine ⟨_, rfl, hV.2.1, fun r2 M2 q2 => ?_⟩
    obtain ⟨rfl, rfl⟩ := q2.2 hc
    exact ⟨rfl, by omega, hV⟩
theorem a_tell {M : pMem} {p k : Int} (hi_p : -2147483648 ≤ p ∧ p < 2147483648) (hi_k : -2147483648 ≤ k ∧ k < 2147483648) (hV : IV M) : ∀ r1 M1, (fun (r : Option pV) (M' : pMem) => ((isP M p ∧ 0 < mI M (38 + 5 * p.toNat) 4 ∧ -1 ≤ k ∧ k < 5) → r = some (.inl 1) ∧ JC M' ∧ agr (fun b => (b < 118 ∧ b ≠ 2 ∧ b ≠ 16 ∧ b ≠ 17 ∧ b ≠ 18) ∨ 153 ≤ b) M M' ∧ mI M' 2 = up (mI M 2) p.toNat k) ∧ (¬ (isP M p ∧ 0 < mI M (38 + 5 * p.toNat) 4 ∧ -1 ≤ k ∧ k < 5) → r = some (.inl 0) ∧ M' = M)) r1 M1 → ∃ u : Int, r1 = some (.inl u) ∧ JD M1 ∧ ∀ r2 M2, (fun (M : pMem) (r : Option pV) (M' : pMem) => ((isQ M p ∧ 0 < mI M 154 p.toNat ∧ -1 ≤ k ∧ k < 5) → r = some (.inl 1) ∧ M' = (stI (stI M 158 p.toNat k) 153 10 0) ∧ JD M') ∧ (¬ (isQ M p ∧ 0 < mI M 154 p.toNat ∧ -1 ≤ k ∧ k < 5) → r = some (.inl 0) ∧ M' = M)) M1 r2 M2 → r2 = some (.inl u) ∧ (-2147483648 ≤ u ∧ u < 2147483648) ∧ IV M2 := by
  intro r1 M1 q1
  dsimp only at q1 ⊢
  by_cases hc : isP M p ∧ 0 < mI M (38 + 5 * p.toNat) 4 ∧ -1 ≤ k ∧ k < 5
  · obtain ⟨rfl, hJ, hag, h2⟩ := q1.1 hc
    have hi : hiE M M1 := fun b hb => funext (fun j => (hag.1 b j (Or.inr hb)).1)
    have hq := (iv_P hV p).mp hc.1
    have hp16 := iv_q16 hV hq
    refine ⟨_, rfl, JD_hi hV.2.1 hi hJ.1, fun r2 M2 q2 => ?_⟩
    rw [isQ_hi hi, hi 154 (by omega)] at q2
    obtain ⟨rfl, hM2, hJ2⟩ := q2.1 ⟨hq, by rw [← iv_b hV hp16.1]; exact hc.2.1, hc.2.2⟩
    have hlo : loE M1 M2 := by
      subst hM2
      exact ⟨fun b j hb => ⟨by rw [stI_n _ _ (by omega), stI_n _ _ (by omega)], rfl⟩, fun _ _ => rfl⟩
    refine ⟨rfl, by omega, JC_lo hJ hlo, hJ2, ?_⟩
    obtain ⟨c1, c2, c3, c4, c5⟩ := hV.2.2
    have eo : ∀ b j, (b < 118 ∧ b ≠ 2 ∧ b ≠ 16 ∧ b ≠ 17 ∧ b ≠ 18) → mI M2 b j = mI M b j := fun b j x0 => (hlo.1 b j (by omega)).1.trans (hag.1 b j (Or.inl x0)).1
    have eh : ∀ b j, 153 ≤ b → b ≠ 158 → (b ≠ 153 ∨ j ≠ 10) → mI M2 b j = mI M b j := fun b j x0 x1 x2 => by
      subst hM2
      rw [stI_n _ _ (by omega), stI_n _ _ (by omega)]
      exact (hag.1 b j (Or.inr x0)).1
    have er : ∀ b, 153 < b → b ≠ 158 → mI M2 b = mI M b := fun b x0 x1 => funext (fun j => eh b j (by omega) x1 (by omega))
    have e8 : mI M2 158 = up (mI M 158) p.toNat k := by subst hM2; rw [stI_rowN _ _ _ (by decide), stI_row, hi 158 (by omega)]
    refine ⟨by rw [eo 0 12 (by omega), eh 153 0 (by omega) (by omega) (by omega)]; exact c1, ?_, ?_, fun q hq => ?_, fun q hq => ?_⟩
    · rw [show wtC M2 = wtC M by unfold wtC; rw [eo 4 0 (by omega), eo 4 1 (by omega), eo 4 2 (by omega), eo 4 3 (by omega), eo 4 4 (by omega)], show wtD M2 = wtD M by unfold wtD; rw [er 159 (by decide) (by decide)]]; exact c2
    · rw [eo 0 13 (by omega), eo 0 14 (by omega), eo 0 15 (by omega), eh 153 7 (by omega) (by omega) (by omega), eh 153 8 (by omega) (by omega) (by omega), eh 153 9 (by omega) (by omega) (by omega)]; exact c3
    · rw [(hlo.1 2 q (by omega)).1, h2, e8]
      by_cases z : q = p.toNat
      · subst z; rw [up_s, up_s]
      · rw [up_n z, up_n z]; exact c4 q hq
    · have eG := pgC_kp (M := M) (N := M2) (fun b j x y => eo b j (by omega)) q hq
      rw [eG.1, eG.2, show pgD M2 = pgD M by unfold pgD; rw [er 154 (by decide) (by decide), er 155 (by decide) (by decide), er 156 (by decide) (by decide), er 157 (by decide) (by decide)]]
      exact c5 q hq
  · obtain ⟨rfl, rfl⟩ := q1.2 hc
    refine ⟨_, rfl, hV.2.1, fun r2 M2 q2 => ?_⟩
    have hn : ¬ (isQ M1 p ∧ 0 < mI M1 154 p.toNat ∧ -1 ≤ k ∧ k < 5) := fun z => hc ⟨(iv_P hV p).mpr z.1, by rw [iv_b hV (iv_q16 hV z.1).1]; exact z.2.1, z.2.2⟩
    obtain ⟨rfl, rfl⟩ := q2.2 hn
    exact ⟨rfl, by omega, hV⟩
theorem box_c {M : pMem} {p x y c : Int} (hV : IV M) : (isP M p ∧ (0 ≤ x ∧ x ≤ 63) ∧ (0 ≤ y ∧ y ≤ 63) ∧ (1 ≤ c ∧ c ≤ 99) ∧ (pgC M).1 p.toNat < 8 ∧ ∀ j, j < (pgC M).1 p.toNat → mI M (38 + 5 * p.toNat + 1) j ≠ c) ↔ (isQ M p ∧ (0 ≤ x ∧ x ≤ 63) ∧ (0 ≤ y ∧ y ≤ 63) ∧ (1 ≤ c ∧ c ≤ 99) ∧ (pgD M).1 p.toNat < 8 ∧ ∀ j, j < (pgD M).1 p.toNat → mI M 157 (8 * p.toNat + j) ≠ c) := by
  constructor
  · rintro ⟨h1, h2, h3, h4, h5, h6⟩
    have hq := (iv_P hV p).mp h1
    obtain ⟨e1, e2⟩ := hV.2.2.2.2.2.2 p.toNat (iv_q16 hV hq).1
    refine ⟨hq, h2, h3, h4, by rw [← e1]; exact h5, fun j hj => ?_⟩
    rw [← e1] at hj
    have e3 : mI M (38 + 5 * p.toNat + 1) j = mI M 157 (8 * p.toNat + j) := (e2 j hj).2.2
    rw [← e3]; exact h6 j hj
  · rintro ⟨h1, h2, h3, h4, h5, h6⟩
    obtain ⟨e1, e2⟩ := hV.2.2.2.2.2.2 p.toNat (iv_q16 hV h1).1
    refine ⟨(iv_P hV p).mpr h1, h2, h3, h4, by rw [e1]; exact h5, fun j hj => ?_⟩
    have e3 : mI M (38 + 5 * p.toNat + 1) j = mI M 157 (8 * p.toNat + j) := (e2 j hj).2.2
    rw [e1] at hj
    rw [e3]; exact h6 j hj
theorem a_box {M : pMem} {p x y c : Int} (hi_p : -2147483648 ≤ p ∧ p < 2147483648) (hi_x : -2147483648 ≤ x ∧ x < 2147483648) (hi_y : -2147483648 ≤ y ∧ y < 2147483648) (hi_c : -2147483648 ≤ c ∧ c < 2147483648) (hV : IV M) : ∀ r1 M1, (fun (r : Option pV) (M' : pMem) => ((isP M p ∧ (0 ≤ x ∧ x ≤ 63) ∧ (0 ≤ y ∧ y ≤ 63) ∧ (1 ≤ c ∧ c ≤ 99) ∧ (pgC M).1 p.toNat < 8 ∧ ∀ j, j < (pgC M).1 p.toNat → mI M (38 + 5 * p.toNat + 1) j ≠ c) → r = some (.inl (((pgC M).1 p.toNat : Nat) : Int)) ∧ JC M' ∧ (∀ b j, (b < 118 ∧ b ≠ 16 ∧ b ≠ 17 ∧ b ≠ 18 ∧ b ≠ 36 ∨ 153 ≤ b) → mI M' b j = mI (shAdd M (38 + 5 * p.toNat) ((pgC M).1 p.toNat) c x y 1) b j) ∧ ∀ b j, mR M' b j = mR M b j) ∧ (¬ (isP M p ∧ (0 ≤ x ∧ x ≤ 63) ∧ (0 ≤ y ∧ y ≤ 63) ∧ (1 ≤ c ∧ c ≤ 99) ∧ (pgC M).1 p.toNat < 8 ∧ ∀ j, j < (pgC M).1 p.toNat → mI M (38 + 5 * p.toNat + 1) j ≠ c) → r = some (.inl (-1)) ∧ M' = M)) r1 M1 → ∃ u : Int, r1 = some (.inl u) ∧ JD M1 ∧ ∀ r2 M2, (fun (M : pMem) (r : Option pV) (M' : pMem) => ((isQ M p ∧ (0 ≤ x ∧ x ≤ 63) ∧ (0 ≤ y ∧ y ≤ 63) ∧ (1 ≤ c ∧ c ≤ 99) ∧ ((pgD M).1 p.toNat) < 8 ∧ ∀ j, j < ((pgD M).1 p.toNat) → mI M 157 (8 * p.toNat + j) ≠ c) → r = some (.inl ((((pgD M).1 p.toNat) : Nat) : Int)) ∧ M' = (stI (stI (stI (stI (stI M 155 (8 * p.toNat + ((pgD M).1 p.toNat)) x) 156 (8 * p.toNat + ((pgD M).1 p.toNat)) y) 157 (8 * p.toNat + ((pgD M).1 p.toNat)) c) 154 p.toNat ((((pgD M).1 p.toNat) : Int) + 1)) 153 10 0) ∧ JD M') ∧ (¬ (isQ M p ∧ (0 ≤ x ∧ x ≤ 63) ∧ (0 ≤ y ∧ y ≤ 63) ∧ (1 ≤ c ∧ c ≤ 99) ∧ ((pgD M).1 p.toNat) < 8 ∧ ∀ j, j < ((pgD M).1 p.toNat) → mI M 157 (8 * p.toNat + j) ≠ c) → r = some (.inl (-1)) ∧ M' = M)) M1 r2 M2 → r2 = some (.inl u) ∧ (-2147483648 ≤ u ∧ u < 2147483648) ∧ IV M2 := by
  intro r1 M1 q1
  dsimp only at q1 ⊢
  by_cases hc : (isP M p ∧ (0 ≤ x ∧ x ≤ 63) ∧ (0 ≤ y ∧ y ≤ 63) ∧ (1 ≤ c ∧ c ≤ 99) ∧ (pgC M).1 p.toNat < 8 ∧ ∀ j, j < (pgC M).1 p.toNat → mI M (38 + 5 * p.toNat + 1) j ≠ c)
  · obtain ⟨rfl, hJ, hk, hr⟩ := q1.1 hc
    have hc2 := (box_c hV).mp hc
    obtain ⟨hq16, hqp⟩ := iv_q16 hV hc2.1
    have hi : hiE M M1 := fun b hb => funext (fun j => (hk b j (Or.inr hb)).trans (shAdd_o (by omega)))
    refine ⟨_, rfl, JD_hi hV.2.1 hi hJ.1, fun r2 M2 q2 => ?_⟩
    rw [isQ_hi hi, hi_pg hi, hi 157 (by omega)] at q2
    obtain ⟨rfl, hM2, hJ2⟩ := q2.1 hc2
    obtain ⟨q, hq⟩ : ∃ q, q = p.toNat := ⟨_, rfl⟩
    rw [← hq] at hM2 hk hq16
    obtain ⟨e1, e2⟩ := hV.2.2.2.2.2.2 q hq16
    have h8 : (pgC M).1 q < 8 := by rw [hq]; exact hc.2.2.2.2.1
    obtain ⟨nb, hnb⟩ : ∃ nb, nb = (pgC M).1 q := ⟨_, rfl⟩
    rw [← e1, ← hnb] at hM2
    rw [← hnb] at hk h8
    have hlo : loE M1 M2 := by
      subst hM2
      exact ⟨fun b j hb => ⟨by rw [stI_n _ _ (by omega), stI_n _ _ (by omega), stI_n _ _ (by omega), stI_n _ _ (by omega), stI_n _ _ (by omega)], rfl⟩, fun _ _ => rfl⟩
    refine ⟨by rw [← hq, ← e1], by rw [← hq, ← hnb]; omega, JC_lo hJ hlo, hJ2, ?_⟩
    obtain ⟨c1, c2, c3, c4, c5⟩ := hV.2.2
    have eo : ∀ b j, (b < 38 ∧ b ≠ 16 ∧ b ≠ 17 ∧ b ≠ 18 ∧ b ≠ 36) → mI M2 b j = mI M b j := fun b j x0 => (hlo.1 b j (by omega)).1.trans ((hk b j (Or.inl (by omega))).trans (shAdd_o (by omega)))
    have ep : ∀ b, 38 ≤ b → b < 118 → mI M2 b = mI (shAdd M (38 + 5 * q) nb c x y 1) b := fun b x0 x1 => funext (fun j => (hlo.1 b j (by omega)).1.trans (hk b j (Or.inl (by omega))))
    have eh : ∀ b j, (b = 153 ∧ j ≠ 10 ∨ b = 158 ∨ b = 159) → mI M2 b j = mI M b j := fun b j x0 => by
      have e := congrFun (hi b (by omega)) j
      subst hM2
      rw [stI_n _ _ (by omega), stI_n _ _ (by omega), stI_n _ _ (by omega), stI_n _ _ (by omega), stI_n _ _ (by omega)]
      exact e
    have e4 : mI M2 154 = up (mI M 154) q ((nb : Int) + 1) := by subst hM2; rw [stI_rowN _ _ _ (by decide), stI_row, stI_rowN _ _ _ (by decide), stI_rowN _ _ _ (by decide), stI_rowN _ _ _ (by decide), hi 154 (by omega)]
    have e5 : mI M2 155 = up (mI M 155) (8 * q + nb) x := by subst hM2; rw [stI_rowN _ _ _ (by decide), stI_rowN _ _ _ (by decide), stI_rowN _ _ _ (by decide), stI_rowN _ _ _ (by decide), stI_row, hi 155 (by omega)]
    have e6 : mI M2 156 = up (mI M 156) (8 * q + nb) y := by subst hM2; rw [stI_rowN _ _ _ (by decide), stI_rowN _ _ _ (by decide), stI_rowN _ _ _ (by decide), stI_row, stI_rowN _ _ _ (by decide), hi 156 (by omega)]
    have e7 : mI M2 157 = up (mI M 157) (8 * q + nb) c := by subst hM2; rw [stI_rowN _ _ _ (by decide), stI_rowN _ _ _ (by decide), stI_row, stI_rowN _ _ _ (by decide), stI_rowN _ _ _ (by decide), hi 157 (by omega)]
    refine ⟨by rw [eo 0 12 (by omega), eh 153 0 (by omega)]; exact c1, ?_, ?_, fun s hs => by rw [eo 2 s (by omega), eh 158 s (by omega)]; exact c4 s hs, fun s hs => ?_⟩
    · rw [show wtC M2 = wtC M by unfold wtC; rw [eo 4 0 (by omega), eo 4 1 (by omega), eo 4 2 (by omega), eo 4 3 (by omega), eo 4 4 (by omega)], show wtD M2 = wtD M by unfold wtD; rw [eh 159 0 (by omega), eh 159 1 (by omega), eh 159 2 (by omega), eh 159 3 (by omega), eh 159 4 (by omega)]]; exact c2
    · rw [eo 0 13 (by omega), eo 0 14 (by omega), eo 0 15 (by omega), eh 153 7 (by omega), eh 153 8 (by omega), eh 153 9 (by omega)]; exact c3
    · obtain ⟨f1, f2⟩ := c5 s hs
      have g8 : (pgC M).1 s ≤ 8 := (hV.1.2.1.2.1 s hs).1
      by_cases z : s = q
      · subst z
        have x1 : (pgC M2).1 s = nb + 1 := by
          show (mI M2 (38 + 5 * s) 4).toNat = _
          rw [ep _ (by omega) (by omega), shAdd_c]; omega
        have x2 : (pgD M2).1 s = nb + 1 := by
          show (mI M2 154 s).toNat = _
          rw [e4, up_s]; omega
        refine ⟨by rw [x1, x2], fun i hi2 => ?_⟩
        rw [x1] at hi2
        show mI M2 (38 + 5 * s + 2) i = mI M2 155 (8 * s + i) ∧ mI M2 (38 + 5 * s + 3) i = mI M2 156 (8 * s + i) ∧ mI M2 (38 + 5 * s + 1) i = mI M2 157 (8 * s + i)
        rw [ep (38 + 5 * s + 2) (by omega) (by omega), ep (38 + 5 * s + 3) (by omega) (by omega), ep (38 + 5 * s + 1) (by omega) (by omega), shAdd_1, shAdd_2, shAdd_3, e5, e6, e7]
        by_cases y2 : i = nb
        · subst y2; rw [up_s, up_s, up_s, up_s, up_s, up_s]; exact ⟨rfl, rfl, rfl⟩
        · rw [up_n y2, up_n y2, up_n y2, up_n (by omega), up_n (by omega), up_n (by omega)]
          exact f2 i (by omega)
      · have hO : ∀ b, (38 + 5 * s ≤ b ∧ b ≤ 38 + 5 * s + 4) → mI M2 b = mI M b := fun b x0 => by
          rw [ep b (by omega) (by omega)]
          funext j
          exact shAdd_o (by omega)
        have x1 : (pgC M2).1 s = (pgC M).1 s := by
          show (mI M2 (38 + 5 * s) 4).toNat = _
          rw [hO _ (by omega)]; rfl
        have x2 : (pgD M2).1 s = (pgD M).1 s := by
          show (mI M2 154 s).toNat = _
          rw [e4, up_n z]; rfl
        refine ⟨by rw [x1, x2]; exact f1, fun i hi2 => ?_⟩
        rw [x1] at hi2
        show mI M2 (38 + 5 * s + 2) i = mI M2 155 (8 * s + i) ∧ mI M2 (38 + 5 * s + 3) i = mI M2 156 (8 * s + i) ∧ mI M2 (38 + 5 * s + 1) i = mI M2 157 (8 * s + i)
        rw [hO (38 + 5 * s + 2) (by omega), hO (38 + 5 * s + 3) (by omega), hO (38 + 5 * s + 1) (by omega), e5, e6, e7, up_n (by omega), up_n (by omega), up_n (by omega)]
        exact f2 i hi2
  · obtain ⟨rfl, rfl⟩ := q1.2 hc
    refine ⟨_, rfl, hV.2.1, fun r2 M2 q2 => ?_⟩
    obtain ⟨rfl, rfl⟩ := q2.2 (fun z => hc ((box_c hV).mpr z))
    exact ⟨rfl, by omega, hV⟩
