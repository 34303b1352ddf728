/-! ===== the model: byMove ===== -/
theorem pE_f {g : pG} {nL : Nat} {X : pX} {Qf : State → Prop} {S : List pShp} {M : pMem} {cs sl pc : Nat} {L : List (Option pV)} {st : List pV} (i : Nat) (k : pE g nL X Qf S M cs sl pc (L.set i none) st) : pE g nL X Qf S M cs sl pc L st := by
  obtain ⟨p, l, e, R, s, m, args, below, meth, c⟩ := X
  intro H locs ls hR hS hl
  refine k H locs ls hR hS ⟨hl.1, hl.2.1, fun j v hv => hl.2.2 j v ?_⟩
  rw [List.getElem?_set] at hv
  by_cases e : i = j
  · rw [if_pos e] at hv
    split at hv <;> simp at hv
  · rw [if_neg e] at hv; exact hv
def wtD (M : pMem) : pWt := (mI M 159 0, mI M 159 1, mI M 159 2, mI M 159 3, mI M 159 4)
def bxD (M : pMem) : pB := (mI M 166, mI M 167, mI M 168)
def spD (M : pMem) : pS := (mI M 169, mI M 170, mI M 171, mI M 172)
/-- what byMove answers -/
def bmK (w : pWt) (nb ns : Nat) (A : pB) (Z : pS) (q : Nat) (F : Nat → Int) (v : Int) : Prop := (∀ φ, vA nb ns φ → cnF nb ns F φ → v ≤ cst w nb ns A Z q φ) ∧ (v < 1000000 → ∃ φ, vA nb ns φ ∧ cnF nb ns F φ ∧ v = cst w nb ns A Z q φ)
theorem bmK_of {w : pWt} {nb ns q : Nat} {A : pB} {Z : pS} {F : Nat → Int} {v : Int} (hm : 0 ≤ mvc w q) (h : bmR (ly w A Z q) (msv w Z) w.2.2.2.2 nb ns F v) : bmK w nb ns A Z q F (v + mvc w q) := by
  have e : ∀ φ, cst w nb ns A Z q φ = bmV (ly w A Z q) (msv w Z) w.2.2.2.2 nb ns φ + mvc w q := fun φ => by
    unfold cst bmV
    have : sg (fun b => gC w ns A Z q b (φ b)) nb = sg (fun b => gcV (ly w A Z q) (msv w Z) w.2.2.2.2 ns b (φ b)) nb := rfl
    rw [this]; omega
  refine ⟨fun φ h1 h2 => by rw [e]; have := h.1 φ h1 h2; omega, fun hlt => ?_⟩
  obtain ⟨φ, h1, h2, h3⟩ := h.2 (by omega)
  exact ⟨φ, h1, h2, by rw [e, h3]⟩
def dpI (Ly : Nat → Nat → Int) (ms : Nat → Int) (nb : Nat) (F : Nat → Int) (s b0 t0 : Nat) (row row2 : Nat → Int) : Prop :=
  (∀ set, set < 2 ^ nb → ¬ dpW nb F s → row2 set ≤ row set + ms s) ∧
  (∀ set b, set < 2 ^ nb → b < nb → (b < b0 ∨ (b = b0 ∧ set < t0)) → dpA nb F s b → set.testBit b = false → row2 (set ||| 2 ^ b) ≤ row set + Ly b s) ∧
  (∀ set, set < 2 ^ nb → row2 set = 1000000 ∨ (¬ dpW nb F s ∧ row2 set = row set + ms s) ∨ ∃ t b, t < 2 ^ nb ∧ b < nb ∧ dpA nb F s b ∧ t.testBit b = false ∧ set = t ||| 2 ^ b ∧ row2 set = row t + Ly b s)
section
variable {Ly : Nat → Nat → Int} {ms : Nat → Int} {nb : Nat} {F : Nat → Int} {s b0 t0 : Nat} {row row2 : Nat → Int}
theorem dpI_S (h : dpI Ly ms nb F s nb 0 row row2) : dpS Ly ms nb F s row row2 := ⟨h.1, fun set b h1 h2 h3 h4 => h.2.1 set b h1 h2 (Or.inl h2) h3 h4, h.2.2⟩
theorem dpI_skip (h : dpI Ly ms nb F s b0 0 row row2) (hA : ¬ dpA nb F s b0) : dpI Ly ms nb F s (b0 + 1) 0 row row2 := ⟨h.1, fun set b h1 h2 h3 h4 h5 => by
  by_cases e : b = b0
  · subst e; exact absurd h4 hA
  · exact h.2.1 set b h1 h2 (Or.inl (by omega)) h4 h5, h.2.2⟩
theorem dpI_full (h : dpI Ly ms nb F s b0 (2 ^ nb) row row2) : dpI Ly ms nb F s (b0 + 1) 0 row row2 := ⟨h.1, fun set b h1 h2 h3 h4 h5 => h.2.1 set b h1 h2 (by omega) h4 h5, h.2.2⟩
theorem dpI_bit (h : dpI Ly ms nb F s b0 t0 row row2) (hb : t0.testBit b0 = true) : dpI Ly ms nb F s b0 (t0 + 1) row row2 := ⟨h.1, fun set b h1 h2 h3 h4 h5 => by
  by_cases e : b = b0 ∧ set = t0
  · obtain ⟨e1, e2⟩ := e; subst e1; subst e2; rw [hb] at h5; exact absurd h5 (by decide)
  · exact h.2.1 set b h1 h2 (by omega) h4 h5, h.2.2⟩
theorem dpI_no (h : dpI Ly ms nb F s b0 t0 row row2) (hb : row2 (t0 ||| 2 ^ b0) ≤ row t0 + Ly b0 s) : dpI Ly ms nb F s b0 (t0 + 1) row row2 := ⟨h.1, fun set b h1 h2 h3 h4 h5 => by
  by_cases e : b = b0 ∧ set = t0
  · obtain ⟨e1, e2⟩ := e; subst e1; subst e2; exact hb
  · exact h.2.1 set b h1 h2 (by omega) h4 h5, h.2.2⟩
theorem dpI_up (h : dpI Ly ms nb F s b0 t0 row row2) (ht : t0 < 2 ^ nb) (hb0 : b0 < nb) (hA : dpA nb F s b0) (hbit : t0.testBit b0 = false) (hb : row t0 + Ly b0 s < row2 (t0 ||| 2 ^ b0)) : dpI Ly ms nb F s b0 (t0 + 1) row (up row2 (t0 ||| 2 ^ b0) (row t0 + Ly b0 s)) := by
  have hle : ∀ t, up row2 (t0 ||| 2 ^ b0) (row t0 + Ly b0 s) t ≤ row2 t := fun t => by
    by_cases e : t = t0 ||| 2 ^ b0
    · rw [e, up_s]; omega
    · rw [up_n e]; exact Int.le_refl _
  refine ⟨fun set h1 h2 => Int.le_trans (hle set) (h.1 set h1 h2), fun set b h1 h2 h3 h4 h5 => ?_, fun set h1 => ?_⟩
  · by_cases e : b = b0 ∧ set = t0
    · obtain ⟨e1, e2⟩ := e; subst e1; subst e2; rw [up_s]; exact Int.le_refl _
    · exact Int.le_trans (hle _) (h.2.1 set b h1 h2 (by omega) h4 h5)
  · by_cases e : set = t0 ||| 2 ^ b0
    · rw [e, up_s]; exact Or.inr (Or.inr ⟨t0, b0, ht, hb0, hA, hbit, rfl, rfl⟩)
    · rw [up_n e]; exact h.2.2 set h1
end
theorem up_sh {f : Nat → Int} {k T : Nat} {v : Int} : (fun t => up f (k + T) v (k + t)) = up (fun t => f (k + t)) T v := by
  funext t
  by_cases e : t = T
  · subst e; rw [up_s, up_s]
  · rw [up_n e, up_n (by omega)]
theorem c_in {g : pG} {M : pMem} {v a b : Int} (hi_v : -2147483648 ≤ v ∧ v < 2147483648) (hi_a : -2147483648 ≤ a ∧ a < 2147483648) (hi_b : -2147483648 ≤ b ∧ b < 2147483648) : pCn g 1 0 0 yX6_in cX6_in 3 (some .boolean) SH SH M [.inl v, .inl a, .inl b] (fun r M' => r = some (.inl (if a ≤ v ∧ v ≤ b then 1 else 0)) ∧ M' = M) := by
  refine pCn_intro mt_X6_in (fun X C => ?_)
  show pE g 3 X _ SH M 0 0 0 [some (.inl v), some (.inl a), some (.inl b)] []
  refine e_iload_n C dX6_in_0 rfl ?_
  refine e_iload_n C dX6_in_1 rfl ?_
  refine e_icmp_lt C (tgt := 14) dX6_in_2 (by decide) (by omega) (by omega) (fun h_2 => ?_) (fun h_2 => ?_)
  · refine e_iconst C dX6_in_14 ?_
    exact e_zreturn C dX6_in_15 (by first | exact Or.inl rfl | exact Or.inr rfl) ⟨by first | rw [if_pos (by omega)] | rw [if_neg (by omega)], rfl⟩
  · refine e_iload_n C dX6_in_5 rfl ?_
    refine e_iload_n C dX6_in_6 rfl ?_
    refine e_icmp_gt C (tgt := 14) dX6_in_7 (by decide) (by omega) (by omega) (fun h_7 => ?_) (fun h_7 => ?_)
    · refine e_iconst C dX6_in_14 ?_
      exact e_zreturn C dX6_in_15 (by first | exact Or.inl rfl | exact Or.inr rfl) ⟨by first | rw [if_pos (by omega)] | rw [if_neg (by omega)], rfl⟩
    · refine e_iconst C dX6_in_10 ?_
      refine e_goto C (tgt := 15) dX6_in_11 (by decide) ?_
      exact e_zreturn C dX6_in_15 (by first | exact Or.inl rfl | exact Or.inr rfl) ⟨by first | rw [if_pos (by omega)] | rw [if_neg (by omega)], rfl⟩
theorem c_apart {g : pG} {M : pMem} {u v : Int} (hi_u : -2147483648 ≤ u ∧ u < 2147483648) (hi_v : -2147483648 ≤ v ∧ v < 2147483648) : pCn g 1 0 0 yX6_apart cX6_apart 2 (some .int) SH SH M [.inl u, .inl v] (fun r M' => r = some (.inl ((u - v).natAbs : Int)) ∧ M' = M) := by
  refine pCn_intro mt_X6_apart (fun X C => ?_)
  show pE g 2 X _ SH M 0 0 0 [some (.inl u), some (.inl v)] []
  refine e_iload_n C dX6_apart_0 rfl ?_
  refine e_iload_n C dX6_apart_1 rfl ?_
  refine e_icmp_le C (tgt := 11) dX6_apart_2 (by decide) (by omega) (by omega) (fun h_2 => ?_) (fun h_2 => ?_)
  · refine e_iload_n C dX6_apart_11 rfl ?_
    refine e_iload_n C dX6_apart_12 rfl ?_
    refine e_isub C dX6_apart_13 ?_
    exact e_ireturn C dX6_apart_14 ⟨by congr 2; omega, rfl⟩
  · refine e_iload_n C dX6_apart_5 rfl ?_
    refine e_iload_n C dX6_apart_6 rfl ?_
    refine e_isub C dX6_apart_7 ?_
    refine e_goto C (tgt := 14) dX6_apart_8 (by decide) ?_
    exact e_ireturn C dX6_apart_14 ⟨by congr 2; omega, rfl⟩
theorem c_lays {g : pG} {M : pMem} {nb ns b s q : Nat} (hW : pW M) (hw : wtOk (wtD M)) (hbx : bxOk nb (bxD M)) (hsp : spOk ns (spD M)) (h8 : nb ≤ 8) (h16 : ns ≤ 16) (hb : b < nb) (hs : s < ns) (hq : q < 49) : pCn g 2 0 0 yX6_lays cX6_lays 5 (some .int) SH SH M [.inr (.inr 153), .inl (b : Int), .inl (s : Int), .inl (dxo q), .inl (dyo q)] (fun r M' => r = some (.inl (ly (wtD M) (bxD M) (spD M) q b s)) ∧ M' = M) := by
  refine pCn_intro mt_X6_lays (fun X C => ?_)
  have h1 := hbx b hb
  have h2 := hsp s hs
  have h3 := dxo_r hq
  have h4 := dyo_r hq
  unfold bxD at h1
  unfold spD at h2
  dsimp only at h1 h2
  show pE g 5 X _ SH M 0 0 0 [some (.inr (.inr 153)), some (.inl (b : Int)), some (.inl (s : Int)), some (.inl (dxo q)), some (.inl (dyo q))] []
  refine e_aload_n C dX6_lays_0 rfl ?_
  refine e_getR C f_X6_25 sh_153 (hW 153 6 159 rfl) dX6_lays_1 ?_
  refine e_iconst C dX6_lays_4 ?_
  refine e_iaload C dX6_lays_5 sh_159 1 rfl (by decide) ?_
  refine e_aload_n C dX6_lays_6 rfl ?_
  refine e_getR C f_X6_57 sh_153 (hW 153 18 166 rfl) dX6_lays_7 ?_
  refine e_iload_n C dX6_lays_10 rfl ?_
  refine e_iaload C dX6_lays_11 sh_166 _ rfl (by omega) ?_
  refine e_iload_n C dX6_lays_12 rfl ?_
  refine e_iadd C dX6_lays_13 ?_
  refine e_aload_n C dX6_lays_14 rfl ?_
  refine e_getR C f_X6_66 sh_153 (hW 153 22 169 rfl) dX6_lays_15 ?_
  refine e_iload_n C dX6_lays_18 rfl ?_
  refine e_iaload C dX6_lays_19 sh_169 _ rfl (by omega) ?_
  refine e_callS C (c_apart (u := mI M 166 b + dxo q) (v := mI M 169 s) (by omega) (by omega)) mt_X6_apart s_X6_132 dX6_lays_20 (fun ra Ma hqa => ?_)
  obtain ⟨rfl, hMa⟩ := hqa
  subst Ma
  dsimp only [Option.toList_some, List.singleton_append]
  refine e_aload_n C dX6_lays_23 rfl ?_
  refine e_getR C f_X6_60 sh_153 (hW 153 19 167 rfl) dX6_lays_24 ?_
  refine e_iload_n C dX6_lays_27 rfl ?_
  refine e_iaload C dX6_lays_28 sh_167 _ rfl (by omega) ?_
  refine e_iload C dX6_lays_29 rfl ?_
  refine e_iadd C dX6_lays_31 ?_
  refine e_aload_n C dX6_lays_32 rfl ?_
  refine e_getR C f_X6_69 sh_153 (hW 153 23 170 rfl) dX6_lays_33 ?_
  refine e_iload_n C dX6_lays_36 rfl ?_
  refine e_iaload C dX6_lays_37 sh_170 _ rfl (by omega) ?_
  refine e_callS C (c_apart (u := mI M 167 b + dyo q) (v := mI M 170 s) (by omega) (by omega)) mt_X6_apart s_X6_132 dX6_lays_38 (fun rb Mb hqb => ?_)
  obtain ⟨rfl, hMb⟩ := hqb
  subst Mb
  dsimp only [Option.toList_some, List.singleton_append]
  refine e_iadd C dX6_lays_41 ?_
  refine e_imul C dX6_lays_42 ?_
  refine e_aload_n C dX6_lays_43 rfl ?_
  refine e_getR C f_X6_63 sh_153 (hW 153 20 168 rfl) dX6_lays_44 ?_
  refine e_iload_n C dX6_lays_47 rfl ?_
  refine e_iaload C dX6_lays_48 sh_168 _ rfl (by omega) ?_
  refine e_aload_n C dX6_lays_49 rfl ?_
  refine e_getR C f_X6_72 sh_153 (hW 153 24 171 rfl) dX6_lays_50 ?_
  refine e_iload_n C dX6_lays_53 rfl ?_
  refine e_iaload C dX6_lays_54 sh_171 _ rfl (by omega) ?_
  refine e_icmp_ne C (tgt := 62) dX6_lays_55 (by decide) (by omega) (by omega) (fun h_55 => ?_) (fun h_55 => ?_)
  · refine e_aload_n C dX6_lays_62 rfl ?_
    refine e_getR C f_X6_25 sh_153 (hW 153 6 159 rfl) dX6_lays_63 ?_
    refine e_iconst C dX6_lays_66 ?_
    refine e_iaload C dX6_lays_67 sh_159 2 rfl (by decide) ?_
    refine e_iadd C dX6_lays_68 ?_
    exact e_ireturn C dX6_lays_69 ⟨by unfold ly wtD bxD spD; dsimp only; (first | rw [if_pos (by omega)] | rw [if_neg (by omega)]); rw [show mI M 166 b - mI M 169 s + dxo q = mI M 166 b + dxo q - mI M 169 s by omega, show mI M 167 b - mI M 170 s + dyo q = mI M 167 b + dyo q - mI M 170 s by omega], rfl⟩
  · refine e_iconst C dX6_lays_58 ?_
    refine e_goto C (tgt := 68) dX6_lays_59 (by decide) ?_
    refine e_iadd C dX6_lays_68 ?_
    exact e_ireturn C dX6_lays_69 ⟨by unfold ly wtD bxD spD; dsimp only; (first | rw [if_pos (by omega)] | rw [if_neg (by omega)]); rw [show mI M 166 b - mI M 169 s + dxo q = mI M 166 b + dxo q - mI M 169 s by omega, show mI M 167 b - mI M 170 s + dyo q = mI M 167 b + dyo q - mI M 170 s by omega], rfl⟩
