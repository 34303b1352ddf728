/-! ===== the model's pages, kinds and invariant ===== -/
def pgD (M : pMem) : pPg := (fun p => (mI M 154 p).toNat, fun p => (fun i => mI M 155 (8 * p + i), fun i => mI M 156 (8 * p + i), fun i => mI M 157 (8 * p + i)))
def kdS (M : pMem) (k : Nat) : pS := (fun i => mI M 163 (16 * k + i), fun i => mI M 164 (16 * k + i), fun i => mI M 162 (16 * k + i), fun i => mI M 165 (16 * k + i))
def nsD (M : pMem) (k : Nat) : Nat := (mI M 161 k).toNat
def mdOk (M : pMem) : Prop := (∀ k, k < 5 → mI M 161 k = ((nsD M k : Nat) : Int) ∧ isKd (pgD M) (mI M 158) (k : Int) (mI M 160 k) (nsD M k) (kdS M k)) ∧ ∀ p k, p < 16 → k < 5 → mI M 176 (5 * p + k) = -1 ∨ mI M 176 (5 * p + k) = coS (wtD M) (pgD M) (mI M 158) p k
def pgN (M : pMem) : Prop := (∀ p, p < 16 → mI M 154 p = (((pgD M).1 p : Nat) : Int)) ∧ pgOk (pgD M)
def bdD (M : pMem) : Prop := (0 ≤ mI M 153 7 ∧ mI M 153 7 ≤ 1000) ∧ (0 ≤ mI M 153 8 ∧ mI M 153 8 ≤ 1000) ∧ (0 ≤ mI M 153 9 ∧ mI M 153 9 ≤ 1000)
def tlD (M : pMem) : Prop := (∀ p, p < 16 → -1 ≤ mI M 158 p ∧ mI M 158 p < 5) ∧ ∀ p : Nat, p < 16 → mI M 153 0 ≤ (p : Int) → mI M 158 p = -1
def JD (M : pMem) : Prop := pW M ∧ (0 ≤ mI M 153 0 ∧ mI M 153 0 ≤ 16) ∧ wtOk (wtD M) ∧ bdD M ∧ pgN M ∧ tlD M ∧ (mI M 153 10 = 0 ∨ (mI M 153 10 = 1 ∧ mdOk M))
/-- what no question changes; what its helpers don't -/
def oP (b j : Nat) : Prop := b < 153 ∨ (154 ≤ b ∧ b ≤ 159) ∨ (b = 153 ∧ (j = 0 ∨ j = 7 ∨ j = 8 ∨ j = 9))
def oQ (b j : Nat) : Prop := b < 153 ∨ (154 ≤ b ∧ b ≤ 159) ∨ b = 178 ∨ b = 179 ∨ (b = 153 ∧ (j = 0 ∨ j = 7 ∨ j = 8 ∨ j = 9 ∨ j = 34 ∨ j = 35 ∨ j = 36))
def oL (b j : Nat) : Prop := oP b j ∨ b = 178 ∨ b = 179
/-- nor these, once the kinds are made -/
def oM (b j : Nat) : Prop := oQ b j ∨ (160 ≤ b ∧ b ≤ 165) ∨ (b = 153 ∧ j = 10)
section
variable {O : Nat → Nat → Prop} {M N : pMem}
theorem frD_pg (h : frD O M N) (hb : ∀ b j, 154 ≤ b → b ≤ 157 → O b j) : pgD N = pgD M := by
  unfold pgD
  rw [frD_row h (fun j => hb 154 j (by decide) (by decide)), frD_row h (fun j => hb 155 j (by decide) (by decide)), frD_row h (fun j => hb 156 j (by decide) (by decide)), frD_row h (fun j => hb 157 j (by decide) (by decide))]
theorem frD_kd (h : frD O M N) (hb : ∀ b j, 162 ≤ b → b ≤ 165 → O b j) (k : Nat) : kdS N k = kdS M k := by
  unfold kdS
  rw [frD_row h (fun j => hb 162 j (by decide) (by decide)), frD_row h (fun j => hb 163 j (by decide) (by decide)), frD_row h (fun j => hb 164 j (by decide) (by decide)), frD_row h (fun j => hb 165 j (by decide) (by decide))]
theorem oQ_L (h : frD oQ M N) : frD oL M N := frD_su h (fun b j hb => by unfold oL oP at hb; unfold oQ; omega)
theorem oL_P (h : frD oL M N) : frD oP M N := frD_su h (fun b j hb => Or.inl hb)
theorem oQ_P (h : frD oQ M N) : frD oP M N := oL_P (oQ_L h)
theorem oP_pg (h : frD oP M N) : pgD N = pgD M := frD_pg h (fun b j _ _ => by unfold oP; omega)
theorem oP_wt (h : frD oP M N) : wtD N = wtD M := frD_wt h (fun j => by unfold oP; omega)
theorem oP_T (h : frD oP M N) : mI N 158 = mI M 158 := frD_row h (fun j => by unfold oP; omega)
theorem oQ_pg (h : frD oQ M N) : pgD N = pgD M := oP_pg (oQ_P h)
theorem oQ_wt (h : frD oQ M N) : wtD N = wtD M := oP_wt (oQ_P h)
theorem oQ_T (h : frD oQ M N) : mI N 158 = mI M 158 := oP_T (oQ_P h)
theorem JD_fp (hJ : JD M) (h : frD oP M N) (hm : mI N 153 10 = 0 ∨ (mI N 153 10 = 1 ∧ mdOk N)) : JD N := by
  obtain ⟨h1, h2, h3, h4, h5, h6, h7⟩ := hJ
  have e0 := h.1 153 0 (by unfold oP; omega)
  have e7 := h.1 153 7 (by unfold oP; omega)
  have e8 := h.1 153 8 (by unfold oP; omega)
  have e9 := h.1 153 9 (by unfold oP; omega)
  refine ⟨frD_W h h1, by rw [e0]; exact h2, by rw [oP_wt h]; exact h3, by unfold bdD; rw [e7, e8, e9]; exact h4, ?_, ?_, hm⟩
  · unfold pgN; rw [oP_pg h, frD_row h (fun j => by unfold oP; omega)]; exact h5
  · unfold tlD; rw [oP_T h, e0]; exact h6
theorem JD_fr (hJ : JD M) (h : frD oQ M N) (hm : mI N 153 10 = 0 ∨ (mI N 153 10 = 1 ∧ mdOk N)) : JD N := JD_fp hJ (oQ_P h) hm
/-- cells 178 and on, and what looks found, are nothing that the made kinds rest on -/
def oK (b j : Nat) : Prop := b ≠ 178 ∧ b ≠ 179 ∧ (b ≠ 153 ∨ (j ≠ 34 ∧ j ≠ 35 ∧ j ≠ 36))
theorem JD_K (hJ : JD M) (h : frD oK M N) : JD N := by
  have hp : frD oP M N := frD_su h (fun b j hb => by unfold oP at hb; unfold oK; omega)
  have e10 := h.1 153 10 (by unfold oK; omega)
  refine JD_fp hJ hp ?_
  rw [e10]
  rcases hJ.2.2.2.2.2.2 with z | ⟨z1, z2, z3⟩
  · exact Or.inl z
  · refine Or.inr ⟨z1, fun k hk => ?_, fun p k hp2 hk => ?_⟩
    · have en : nsD N k = nsD M k := by unfold nsD; rw [frD_row h (fun j => by unfold oK; omega)]
      rw [en, oP_pg hp, oP_T hp, frD_kd h (fun b j _ _ => by unfold oK; omega), h.1 161 k (by unfold oK; omega), h.1 160 k (by unfold oK; omega)]
      exact z2 k hk
    · rw [oP_wt hp, oP_pg hp, oP_T hp, h.1 176 _ (by unfold oK; omega)]
      exact z3 p k hp2 hk
theorem oM_Q (h : frD oM M N) : frD oQ M N := frD_su h (fun b j hb => Or.inl hb)
/-- a made one stays made -/
theorem mdOk_fr (hm : mdOk M) (h : frD oM M N) (hc : ∀ p k, p < 16 → k < 5 → mI N 176 (5 * p + k) = mI M 176 (5 * p + k) ∨ mI N 176 (5 * p + k) = coS (wtD M) (pgD M) (mI M 158) p k) : mdOk N := by
  have hq := oM_Q h
  have en : ∀ k, nsD N k = nsD M k := fun k => by unfold nsD; rw [frD_row h (fun j => by unfold oM; omega)]
  refine ⟨fun k hk => ?_, fun p k hp hk => ?_⟩
  · rw [en, oQ_pg hq, oQ_T hq, frD_kd h (fun b j _ _ => by unfold oM; omega), h.1 161 k (by unfold oM; omega), h.1 160 k (by unfold oM; omega)]
    exact hm.1 k hk
  · rw [oQ_wt hq, oQ_pg hq, oQ_T hq]
    rcases hc p k hp hk with z | z
    · rw [z]; exact hm.2 p k hp hk
    · exact Or.inr z
end
def made (M : pMem) : Prop := JD M ∧ mI M 153 10 = 1
theorem made_ok {M : pMem} (h : made M) : mdOk M := by
  rcases h.1.2.2.2.2.2.2 with z | z
  · have := h.2; omega
  · exact z.2
theorem made_fr {M N : pMem} (hm : made M) (h : frD oM M N) (hc : ∀ p k, p < 16 → k < 5 → mI N 176 (5 * p + k) = mI M 176 (5 * p + k) ∨ mI N 176 (5 * p + k) = coS (wtD M) (pgD M) (mI M 158) p k) : made N := by
  have e10 : mI N 153 10 = 1 := (h.1 153 10 (by unfold oM; omega)).trans hm.2
  exact ⟨JD_fr hm.1 (oM_Q h) (Or.inr ⟨e10, mdOk_fr (made_ok hm) h hc⟩), e10⟩
/-! ===== boxWith ===== -/
def bwV (G : pPg) (p : Nat) (c : Int) : Int := if ixC G p c = -1 then -1 else 8 * (p : Int) + ixC G p c
theorem bwV_r {G : pPg} {p : Nat} {c : Int} (h8 : G.1 p ≤ 8) (hp : p < 16) : -1 ≤ bwV G p c ∧ bwV G p c < 128 := by
  unfold bwV
  rcases ixC_sp G p c with ⟨a, _⟩ | ⟨j, a, b, d⟩
  · rw [if_pos a]; omega
  · rw [if_neg (by omega)]; omega
theorem bwV_0 {G : pPg} {p : Nat} {c : Int} : 0 ≤ bwV G p c ↔ ixC G p c ≠ -1 := by
  unfold bwV
  rcases ixC_sp G p c with ⟨a, _⟩ | ⟨j, a, b, d⟩
  · rw [if_pos a]; simp [a]
  · rw [if_neg (by omega)]; constructor <;> omega
theorem bwV_e {G : pPg} {p : Nat} {c v : Int} {n : Nat} (hG : pgOk G) (hp : p < 16) (hn : n = G.1 p) (h : (v = -1 ∧ ∀ i, i < n → (G.2 p).2.2 i ≠ c) ∨ ∃ i : Nat, i < n ∧ (G.2 p).2.2 i = c ∧ v = 8 * (p : Int) + (i : Int)) : v = bwV G p c := by
  subst hn
  unfold bwV
  rcases ixC_sp G p c with ⟨a, a2⟩ | ⟨j, a, b, d⟩
  · rw [if_pos a]
    rcases h with ⟨z, -⟩ | ⟨i, z1, z2, -⟩
    · exact z
    · exact absurd z2 (a2 i z1)
  · rw [if_neg (by omega), d]
    rcases h with ⟨-, z⟩ | ⟨i, z1, z2, z3⟩
    · exact absurd b (z j a)
    · have := hG.2 p i j hp z1 a (by rw [z2, b])
      omega
theorem c_boxWith {g : pG} {M : pMem} {p : Nat} {c : Int} (hW : pW M) (hG : pgN M) (hp : p < 16) (hi_c : -2147483648 ≤ c ∧ c < 2147483648) : pCn g 1 0 0 yX6_boxWith cX6_boxWith 5 (some .int) SH SH M [.inr (.inr 153), .inl (p : Int), .inl c] (fun r M' => r = some (.inl (bwV (pgD M) p c)) ∧ M' = M) := by
  refine pCn_intro mt_X6_boxWith (fun X C => ?_)
  have hn := hG.1 p hp
  have h8 := (hG.2.1 p hp).1
  have hbx := (hG.2.1 p hp).2
  have lp : ∀ (j : Nat) (v : Int), j ≤ ((pgD M).1 p) → ((v = -1 ∧ ∀ i, i < j → ((pgD M).2 p).2.2 i ≠ c) ∨ ∃ i : Nat, i < j ∧ ((pgD M).2 p).2.2 i = c ∧ v = 8 * (p : Int) + (i : Int)) → pE g 5 X (pMQ g SH (fun r M' => r = some (.inl (bwV (pgD M) p c)) ∧ M' = M) X 0 0) SH M 0 0 8 [some (.inr (.inr 153)), some (.inl (p : Int)), some (.inl c), some (.inl v), some (.inl (8 * (p : Int) + (j : Int)))] [] := by
    refine p_for (((pgD M).1 p)) _ _ ?_ ?_
    · rintro v hv
      refine e_iload C dX6_boxWith_8 rfl ?_
      refine e_bipush C dX6_boxWith_10 ?_
      refine e_iload_n C dX6_boxWith_12 rfl ?_
      refine e_imul C dX6_boxWith_13 ?_
      refine e_aload_n C dX6_boxWith_14 rfl ?_
      refine e_getR C f_X6_7 sh_153 (hW 153 1 154 rfl) dX6_boxWith_15 ?_
      refine e_iload_n C dX6_boxWith_18 rfl ?_
      refine e_iaload C dX6_boxWith_19 sh_154 _ rfl (by omega) ?_
      rw [hn]
      refine e_iadd C dX6_boxWith_20 ?_
      refine e_icmp_ge C (tgt := 48) dX6_boxWith_21 (by decide) (by omega) (by omega) (fun h_21 => ?_) (fun h_21 => by exfalso; omega)
      refine e_iload_n C dX6_boxWith_48 rfl ?_
      exact e_ireturn C dX6_boxWith_49 ⟨by rw [bwV_e hG.2 hp rfl hv], rfl⟩
    · rintro j v hj hv ih
      have hcj : 1 ≤ mI M 157 (8 * p + j) ∧ mI M 157 (8 * p + j) ≤ 99 := (hbx j hj).2.2
      refine e_iload C dX6_boxWith_8 rfl ?_
      refine e_bipush C dX6_boxWith_10 ?_
      refine e_iload_n C dX6_boxWith_12 rfl ?_
      refine e_imul C dX6_boxWith_13 ?_
      refine e_aload_n C dX6_boxWith_14 rfl ?_
      refine e_getR C f_X6_7 sh_153 (hW 153 1 154 rfl) dX6_boxWith_15 ?_
      refine e_iload_n C dX6_boxWith_18 rfl ?_
      refine e_iaload C dX6_boxWith_19 sh_154 _ rfl (by omega) ?_
      rw [hn]
      refine e_iadd C dX6_boxWith_20 ?_
      refine e_icmp_ge C (tgt := 48) dX6_boxWith_21 (by decide) (by omega) (by omega) (fun h_21 => by exfalso; omega) (fun h_21 => ?_)
      refine e_aload_n C dX6_boxWith_24 rfl ?_
      refine e_getR C f_X6_19 sh_153 (hW 153 4 157 rfl) dX6_boxWith_25 ?_
      refine e_iload C dX6_boxWith_28 rfl ?_
      refine e_iaload C dX6_boxWith_30 sh_157 (8 * p + j) (by omega) (by omega) ?_
      refine e_iload_n C dX6_boxWith_31 rfl ?_
      refine e_icmp_ne C (tgt := 40) dX6_boxWith_32 (by decide) (by omega) (by omega) (fun h_32 => ?_) (fun h_32 => ?_)
      · have hI : ((v = -1 ∧ ∀ i, i < j + 1 → ((pgD M).2 p).2.2 i ≠ c) ∨ ∃ i : Nat, i < j + 1 ∧ ((pgD M).2 p).2.2 i = c ∧ v = 8 * (p : Int) + (i : Int)) := by
          rcases hv with ⟨z1, z2⟩ | ⟨i, z1, z2, z3⟩
          · refine Or.inl ⟨z1, fun i hi => ?_⟩
            by_cases e : i = j
            · subst e; exact h_32
            · exact z2 i (by omega)
          · exact Or.inr ⟨i, by omega, z2, z3⟩
        refine e_iload_n C dX6_boxWith_40 rfl ?_
        refine e_istore_n C dX6_boxWith_41 ?_
        refine e_iinc C dX6_boxWith_42 rfl ?_
        refine e_goto C (tgt := 8) dX6_boxWith_45 (by decide) ?_
        rw [show (8 * (p : Int) + (j : Int) + 1) = 8 * (p : Int) + ((j + 1 : Nat) : Int) by omega]
        exact ih _ hI
      · have hI : (((8 * (p : Int) + (j : Int)) = -1 ∧ ∀ i, i < j + 1 → ((pgD M).2 p).2.2 i ≠ c) ∨ ∃ i : Nat, i < j + 1 ∧ ((pgD M).2 p).2.2 i = c ∧ (8 * (p : Int) + (j : Int)) = 8 * (p : Int) + (i : Int)) := Or.inr ⟨j, by omega, Classical.not_not.mp h_32, rfl⟩
        refine e_iload C dX6_boxWith_35 rfl ?_
        refine e_goto C (tgt := 41) dX6_boxWith_37 (by decide) ?_
        refine e_istore_n C dX6_boxWith_41 ?_
        refine e_iinc C dX6_boxWith_42 rfl ?_
        refine e_goto C (tgt := 8) dX6_boxWith_45 (by decide) ?_
        rw [show (8 * (p : Int) + (j : Int) + 1) = 8 * (p : Int) + ((j + 1 : Nat) : Int) by omega]
        exact ih _ hI
  show pE g 5 X _ SH M 0 0 0 [some (.inr (.inr 153)), some (.inl (p : Int)), some (.inl c), none, none] []
  refine e_iconst C dX6_boxWith_0 ?_
  refine e_istore_n C dX6_boxWith_1 ?_
  refine e_bipush C dX6_boxWith_2 ?_
  refine e_iload_n C dX6_boxWith_4 rfl ?_
  refine e_imul C dX6_boxWith_5 ?_
  refine e_istore C dX6_boxWith_6 ?_
  have hz := lp 0 (-1) (by omega) (Or.inl ⟨rfl, fun i hi => by omega⟩)
  rw [show 8 * (p : Int) + ((0 : Nat) : Int) = 8 * (p : Int) by omega] at hz
  exact hz
/-! ===== middle ===== -/
def mdI (f : Nat → Int) (i k : Nat) : Prop := k ≤ i ∧ ∀ a b, a < b → b ≤ i → b ≠ k → f a ≤ f b
theorem mdI_0 {f : Nat → Int} {i : Nat} (h : srt f i) : mdI f i i := ⟨Nat.le_refl _, fun a b h1 h2 h3 => h a b (by omega) (by omega)⟩
theorem mdI_z {f : Nat → Int} {i : Nat} (h : mdI f i 0) : srt f (i + 1) := fun a b h1 h2 => by
  by_cases e : a = b
  · subst e; exact Int.le_refl _
  · exact h.2 a b (by omega) (by omega) (by omega)
theorem mdI_e {f : Nat → Int} {i k : Nat} (h : mdI f i (k + 1)) (hk : f k ≤ f (k + 1)) : srt f (i + 1) := fun a b h1 h2 => by
  by_cases e : a = b
  · subst e; exact Int.le_refl _
  · by_cases e2 : b = k + 1
    · subst e2
      by_cases e3 : a = k
      · subst e3; exact hk
      · exact Int.le_trans (h.2 a k (by omega) (by have := h.1; omega) (by omega)) hk
    · exact h.2 a b (by omega) (by omega) e2
theorem mdI_s {f : Nat → Int} {i k : Nat} (h : mdI f i (k + 1)) (hk : f (k + 1) < f k) : mdI (up (up f (k + 1) (f k)) k (f (k + 1))) i k := by
  have hki := h.1
  refine ⟨by omega, fun a b h1 h2 h3 => ?_⟩
  have hb : up (up f (k + 1) (f k)) k (f (k + 1)) b = if b = k + 1 then f k else f b := by
    rw [up_n h3]; rfl
  rw [hb]
  by_cases e : b = k + 1
  · rw [if_pos e]
    by_cases e2 : a = k
    · subst e2; rw [up_s]; omega
    · rw [up_n e2, up_n (by omega)]; exact h.2 a k (by omega) (by omega) (by omega)
  · rw [if_neg e]
    by_cases e2 : a = k
    · subst e2; rw [up_s]; exact h.2 (a + 1) b (by omega) h2 e
    · rw [up_n e2]
      by_cases e3 : a = k + 1
      · subst e3; rw [up_s]; exact h.2 k b (by omega) h2 e
      · rw [up_n e3]; exact h.2 a b h1 h2 e
theorem cnL_up {f : Nat → Int} {n j : Nat} {v t : Int} (hj : j < n) : cnL (up f j v) n t = cnL f n t - b01 (f j ≤ t) + b01 (v ≤ t) := by
  unfold cnL
  have e : sg (fun i => b01 (up f j v i ≤ t)) n = sg (up (fun i => b01 (f i ≤ t)) j (b01 (v ≤ t))) n := sg_congr (fun i _ => by
    by_cases z : i = j
    · subst z; rw [up_s, up_s]
    · rw [up_n z, up_n z])
  rw [e, sg_up hj]
theorem cnL_sw {f : Nat → Int} {n k : Nat} {t : Int} (hk : k + 1 < n) : cnL (up (up f (k + 1) (f k)) k (f (k + 1))) n t = cnL f n t := by
  rw [cnL_up (by omega), cnL_up hk, up_n (by omega)]; omega
theorem c_middleD {g : pG} {M : pMem} {n : Nat} (hW : pW M) (hn : 0 < n ∧ n ≤ 16) (hr : ∀ j, j < n → 0 ≤ mI M 177 j ∧ mI M 177 j ≤ 63) : pCn g 1 0 0 yX6_middle cX6_middle 5 (some .int) SH SH M [.inr (.inr 153), .inl (n : Int)] (fun r M' => ∃ f : Nat → Int, r = some (.inl (f ((n - 1) / 2))) ∧ M' = wrI M 177 f ∧ srt f n ∧ ∀ t, cnL f n t = cnL (mI M 177) n t) := by
  refine pCn_intro mt_X6_middle (fun X C => ?_)
  have l1 : ∀ (i : Nat) (f : Nat → Int), i ≤ n → (1 ≤ i ∧ srt f i ∧ (∀ t, cnL f n t = cnL (mI M 177) n t) ∧ ∀ j, j < n → 0 ≤ f j ∧ f j ≤ 63) → pE g 5 X (pMQ g SH (fun r M' => ∃ f : Nat → Int, r = some (.inl (f ((n - 1) / 2))) ∧ M' = wrI M 177 f ∧ srt f n ∧ ∀ t, cnL f n t = cnL (mI M 177) n t) X 0 0) SH (wrI M 177 f) 0 0 2 [some (.inr (.inr 153)), some (.inl (n : Int)), some (.inl (i : Int)), none, none] [] := by
    refine p_for (n) _ _ ?_ ?_
    · rintro f ⟨g0, g1, g2, g3⟩
      refine e_iload_n C dX6_middle_2 rfl ?_
      refine e_iload_n C dX6_middle_3 rfl ?_
      refine e_icmp_ge C (tgt := 74) dX6_middle_4 (by decide) (by omega) (by omega) (fun h_4 => ?_) (fun h_4 => by exfalso; omega)
      refine e_aload_n C dX6_middle_74 rfl ?_
      refine e_getR C f_X6_90 sh_153 (hW 153 33 177 rfl) dX6_middle_75 ?_
      refine e_iload_n C dX6_middle_78 rfl ?_
      refine e_iconst C dX6_middle_79 ?_
      refine e_isub C dX6_middle_80 ?_
      refine e_iconst C dX6_middle_81 ?_
      refine e_idiv C dX6_middle_82 (by omega) (by omega) (by omega) (by omega) ?_
      refine e_iaload C dX6_middle_83 sh_177 ((n - 1) / 2) (by omega) (by omega) ?_
      rw [wrI_s]
      exact e_ireturn C dX6_middle_84 ⟨f, rfl, rfl, g1, g2⟩
    · rintro i f hi ⟨g0, g1, g2, g3⟩ ih
      refine e_iload_n C dX6_middle_2 rfl ?_
      refine e_iload_n C dX6_middle_3 rfl ?_
      refine e_icmp_ge C (tgt := 74) dX6_middle_4 (by decide) (by omega) (by omega) (fun h_4 => by exfalso; omega) (fun h_4 => ?_)
      refine e_iload_n C dX6_middle_7 rfl ?_
      refine e_istore_n C dX6_middle_8 ?_
      have l2 : ∀ s : Nat × (Nat → Int), (mdI s.2 i s.1 ∧ (∀ t, cnL s.2 n t = cnL (mI M 177) n t) ∧ ∀ j, j < n → 0 ≤ s.2 j ∧ s.2 j ≤ 63) → pE g 5 X (pMQ g SH (fun r M' => ∃ f : Nat → Int, r = some (.inl (f ((n - 1) / 2))) ∧ M' = wrI M 177 f ∧ srt f n ∧ ∀ t, cnL f n t = cnL (mI M 177) n t) X 0 0) SH (wrI M 177 s.2) 0 0 9 [some (.inr (.inr 153)), some (.inl (n : Int)), some (.inl (i : Int)), some (.inl (s.1 : Int)), none] [] := by
        refine p_loop _ _ (fun s => s.1) ?_
        rintro ⟨k, f⟩ ⟨g1, g2, g3⟩ rec2
        dsimp only at g1 g2 g3 ⊢
        cases k with
        | zero =>
          refine e_iload_n C dX6_middle_9 rfl ?_
          refine e_if_le C (tgt := 68) dX6_middle_10 (by decide) (by omega) (fun h_10 => ?_) (fun h_10 => by exfalso; omega)
          refine e_iinc C dX6_middle_68 rfl ?_
          refine e_goto C (tgt := 2) dX6_middle_71 (by decide) ?_
          refine pE_f 3 ?_
          rw [show ((i : Int) + 1) = ((i + 1 : Nat) : Int) by omega]
          exact ih f ⟨by omega, mdI_z g1, g2, g3⟩
        | succ k =>
          have hki := g1.1
          have r1 := g3 k (by omega)
          have r2 := g3 (k + 1) (by omega)
          refine e_iload_n C dX6_middle_9 rfl ?_
          refine e_if_le C (tgt := 68) dX6_middle_10 (by decide) (by omega) (fun h_10 => by exfalso; omega) (fun h_10 => ?_)
          refine e_aload_n C dX6_middle_13 rfl ?_
          refine e_getR C f_X6_90 sh_153 (hW 153 33 177 rfl) dX6_middle_14 ?_
          refine e_iload_n C dX6_middle_17 rfl ?_
          refine e_iconst C dX6_middle_18 ?_
          refine e_isub C dX6_middle_19 ?_
          refine e_iaload C dX6_middle_20 sh_177 k (by omega) (by omega) ?_
          rw [wrI_s]
          refine e_aload_n C dX6_middle_21 rfl ?_
          refine e_getR C f_X6_90 sh_153 (hW 153 33 177 rfl) dX6_middle_22 ?_
          refine e_iload_n C dX6_middle_25 rfl ?_
          refine e_iaload C dX6_middle_26 sh_177 _ rfl (by omega) ?_
          rw [wrI_s]
          refine e_icmp_le C (tgt := 68) dX6_middle_27 (by decide) (by omega) (by omega) (fun h_27 => ?_) (fun h_27 => ?_)
          · have hI := mdI_e g1 h_27
            refine e_iinc C dX6_middle_68 rfl ?_
            refine e_goto C (tgt := 2) dX6_middle_71 (by decide) ?_
            refine pE_f 3 ?_
            rw [show ((i : Int) + 1) = ((i + 1 : Nat) : Int) by omega]
            exact ih f ⟨by omega, hI, g2, g3⟩
          · have hI : mdI (up (up f (k + 1) (f k)) k (f (k + 1))) i k := mdI_s g1 (by omega)
            refine e_aload_n C dX6_middle_30 rfl ?_
            refine e_getR C f_X6_90 sh_153 (hW 153 33 177 rfl) dX6_middle_31 ?_
            refine e_iload_n C dX6_middle_34 rfl ?_
            refine e_iaload C dX6_middle_35 sh_177 _ rfl (by omega) ?_
            rw [wrI_s]
            refine e_istore C dX6_middle_36 ?_
            refine e_aload_n C dX6_middle_38 rfl ?_
            refine e_getR C f_X6_90 sh_153 (hW 153 33 177 rfl) dX6_middle_39 ?_
            refine e_iload_n C dX6_middle_42 rfl ?_
            refine e_aload_n C dX6_middle_43 rfl ?_
            refine e_getR C f_X6_90 sh_153 (hW 153 33 177 rfl) dX6_middle_44 ?_
            refine e_iload_n C dX6_middle_47 rfl ?_
            refine e_iconst C dX6_middle_48 ?_
            refine e_isub C dX6_middle_49 ?_
            refine e_iaload C dX6_middle_50 sh_177 k (by omega) (by omega) ?_
            rw [wrI_s]
            refine e_iastore C dX6_middle_51 sh_177 _ rfl (by omega) ?_
            rw [stI_wr]
            refine e_aload_n C dX6_middle_52 rfl ?_
            refine e_getR C f_X6_90 sh_153 (hW 153 33 177 rfl) dX6_middle_53 ?_
            refine e_iload_n C dX6_middle_56 rfl ?_
            refine e_iconst C dX6_middle_57 ?_
            refine e_isub C dX6_middle_58 ?_
            refine e_iload C dX6_middle_59 rfl ?_
            refine e_iastore C dX6_middle_61 sh_177 k (by omega) (by omega) ?_
            rw [stI_wr]
            refine e_iinc C dX6_middle_62 rfl ?_
            refine e_goto C (tgt := 9) dX6_middle_65 (by decide) ?_
            refine pE_f 4 ?_
            refine pE_to (rec2 (k, (up (up f (k + 1) (f k)) k (f (k + 1)))) ⟨hI, fun t => by rw [cnL_sw (by omega)]; exact g2 t, fun j hj => ?_⟩ (by dsimp only; omega)) rfl (by rw [show (((k + 1 : Nat) : Int) + -1) = (k : Int) by omega]; rfl) rfl
            dsimp only
            unfold up
            split
            · exact r2
            · split
              · exact r1
              · exact g3 j hj
      exact l2 (i, f) ⟨mdI_0 g1, g2, g3⟩
  show pE g 5 X _ SH M 0 0 0 [some (.inr (.inr 153)), some (.inl (n : Int)), none, none, none] []
  refine e_iconst C dX6_middle_0 ?_
  refine e_istore_n C dX6_middle_1 ?_
  have hz := l1 1 (mI M 177) (by omega) ⟨Nat.le_refl _, fun a b h1 h2 => by rw [show a = b by omega]; exact Int.le_refl _, fun _ => rfl, hr⟩
  rw [wrI_e] at hz
  exact hz
