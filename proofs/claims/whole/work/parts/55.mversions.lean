/-! ===== the model's versions ===== -/
theorem kd_dis {G : pPg} {T : Nat → Int} {k tot : Int} {n : Nat} {Z : pS} (h : isKd G T k tot n Z) : ∀ s t, s < n → t < n → Z.2.2.1 s = Z.2.2.1 t → s = t := fun s t hs ht he => by
  rw [h.2.1] at hs ht
  obtain ⟨e, e1, e2, e3, e4⟩ := spc_at hs
  obtain ⟨f, f1, f2, f3, f4⟩ := spc_at ht
  have a1 := (h.2.2 e e1 e2 e3).1
  have b1 := (h.2.2 f f1 f2 f3).1
  rw [e4] at a1
  rw [f4] at b1
  have : e = f := by omega
  subst this
  omega
def swV (Z : pS) (n k : Nat) (c : Int) : Int := if fnS Z n c = -1 then -1 else 16 * (k : Int) + fnS Z n c
theorem fnS_sp (Z : pS) (n : Nat) (c : Int) : (fnS Z n c = -1 ∧ ∀ j, j < n → Z.2.2.1 j ≠ c) ∨ ∃ j, j < n ∧ Z.2.2.1 j = c ∧ fnS Z n c = (j : Int) := by
  rcases fndI_sp Z.2.2.1 c n 0 with ⟨a, b⟩ | ⟨j, a, b, d, e⟩
  · exact Or.inl ⟨a, fun j hj => b j (Nat.zero_le _) (by omega)⟩
  · exact Or.inr ⟨j, by omega, d, e⟩
theorem swV_e {Z : pS} {n k : Nat} {c v : Int} (hd : ∀ s t, s < n → t < n → Z.2.2.1 s = Z.2.2.1 t → s = t) (h : (v = -1 ∧ ∀ i, i < n → Z.2.2.1 i ≠ c) ∨ ∃ i : Nat, i < n ∧ Z.2.2.1 i = c ∧ v = 16 * (k : Int) + (i : Int)) : v = swV Z n k c := by
  unfold swV
  rcases fnS_sp Z n c with ⟨a, a2⟩ | ⟨j, a, b, d⟩
  · rw [if_pos a]
    rcases h with ⟨z, -⟩ | ⟨i, z1, z2, -⟩
    · exact z
    · exact absurd z2 (a2 i z1)
  · rw [if_neg (by omega), d]
    rcases h with ⟨-, z⟩ | ⟨i, z1, z2, z3⟩
    · exact absurd b (z j a)
    · have := hd i j z1 a (by rw [z2, b])
      omega
theorem swV_r {Z : pS} {n k : Nat} {c : Int} (h : n ≤ 16) (hk : k < 5) : -1 ≤ swV Z n k c ∧ swV Z n k c < 80 ∧ (swV Z n k c < 0 ↔ fnS Z n c = -1) := by
  unfold swV
  rcases fnS_sp Z n c with ⟨a, a2⟩ | ⟨j, a, b, d⟩
  · rw [if_pos a]; exact ⟨by omega, by omega, by simp [a]⟩
  · rw [if_neg (by omega), d]; exact ⟨by omega, by omega, by constructor <;> intro z <;> omega⟩
theorem c_spotWith {g : pG} {M : pMem} {k : Nat} {c : Int} (hW : pW M) (hk : k < 5) (hn : mI M 161 k = ((nsD M k : Nat) : Int)) (h16 : nsD M k ≤ 16) (hsp : spOk (nsD M k) (kdS M k)) (hd : ∀ s t, s < nsD M k → t < nsD M k → (kdS M k).2.2.1 s = (kdS M k).2.2.1 t → s = t) (hi_c : -2147483648 ≤ c ∧ c < 2147483648) : pCn g 1 0 0 yX6_spotWith cX6_spotWith 5 (some .int) SH SH M [.inr (.inr 153), .inl (k : Int), .inl c] (fun r M' => r = some (.inl (swV (kdS M k) (nsD M k) k c)) ∧ M' = M) := by
  refine pCn_intro mt_X6_spotWith (fun X C => ?_)
  have lp : ∀ (j : Nat) (v : Int), j ≤ (nsD M k) → ((v = -1 ∧ ∀ i, i < j → (kdS M k).2.2.1 i ≠ c) ∨ ∃ i : Nat, i < j ∧ (kdS M k).2.2.1 i = c ∧ v = 16 * (k : Int) + (i : Int)) → pE g 5 X (pMQ g SH (fun r M' => r = some (.inl (swV (kdS M k) (nsD M k) k c)) ∧ M' = M) X 0 0) SH M 0 0 8 [some (.inr (.inr 153)), some (.inl (k : Int)), some (.inl c), some (.inl v), some (.inl (16 * (k : Int) + (j : Int)))] [] := by
    refine p_for ((nsD M k)) _ _ ?_ ?_
    · rintro v hv
      refine e_iload C dX6_spotWith_8 rfl ?_
      refine e_bipush C dX6_spotWith_10 ?_
      refine e_iload_n C dX6_spotWith_12 rfl ?_
      refine e_imul C dX6_spotWith_13 ?_
      refine e_aload_n C dX6_spotWith_14 rfl ?_
      refine e_getR C f_X6_41 sh_153 (hW 153 12 161 rfl) dX6_spotWith_15 ?_
      refine e_iload_n C dX6_spotWith_18 rfl ?_
      refine e_iaload C dX6_spotWith_19 sh_161 _ rfl (by omega) ?_
      rw [hn]
      refine e_iadd C dX6_spotWith_20 ?_
      refine e_icmp_ge C (tgt := 48) dX6_spotWith_21 (by decide) (by omega) (by omega) (fun h_21 => ?_) (fun h_21 => by exfalso; omega)
      refine e_iload_n C dX6_spotWith_48 rfl ?_
      exact e_ireturn C dX6_spotWith_49 ⟨by rw [swV_e hd hv], rfl⟩
    · rintro j v hj hv ih
      have hcj : 1 ≤ mI M 162 (16 * k + j) ∧ mI M 162 (16 * k + j) ≤ 99 := (hsp j hj).2.2.1
      refine e_iload C dX6_spotWith_8 rfl ?_
      refine e_bipush C dX6_spotWith_10 ?_
      refine e_iload_n C dX6_spotWith_12 rfl ?_
      refine e_imul C dX6_spotWith_13 ?_
      refine e_aload_n C dX6_spotWith_14 rfl ?_
      refine e_getR C f_X6_41 sh_153 (hW 153 12 161 rfl) dX6_spotWith_15 ?_
      refine e_iload_n C dX6_spotWith_18 rfl ?_
      refine e_iaload C dX6_spotWith_19 sh_161 _ rfl (by omega) ?_
      rw [hn]
      refine e_iadd C dX6_spotWith_20 ?_
      refine e_icmp_ge C (tgt := 48) dX6_spotWith_21 (by decide) (by omega) (by omega) (fun h_21 => by exfalso; omega) (fun h_21 => ?_)
      refine e_aload_n C dX6_spotWith_24 rfl ?_
      refine e_getR C f_X6_44 sh_153 (hW 153 13 162 rfl) dX6_spotWith_25 ?_
      refine e_iload C dX6_spotWith_28 rfl ?_
      refine e_iaload C dX6_spotWith_30 sh_162 (16 * k + j) (by omega) (by omega) ?_
      refine e_iload_n C dX6_spotWith_31 rfl ?_
      refine e_icmp_ne C (tgt := 40) dX6_spotWith_32 (by decide) (by omega) (by omega) (fun h_32 => ?_) (fun h_32 => ?_)
      · have hI : ((v = -1 ∧ ∀ i, i < j + 1 → (kdS M k).2.2.1 i ≠ c) ∨ ∃ i : Nat, i < j + 1 ∧ (kdS M k).2.2.1 i = c ∧ v = 16 * (k : Int) + (i : Int)) := by
          rcases hv with ⟨z1, z2⟩ | ⟨i, z1, z2, z3⟩
          · refine Or.inl ⟨z1, fun i hi => ?_⟩
            by_cases e : i = j
            · subst e; exact h_32
            · exact z2 i (by omega)
          · exact Or.inr ⟨i, by omega, z2, z3⟩
        refine e_iload_n C dX6_spotWith_40 rfl ?_
        refine e_istore_n C dX6_spotWith_41 ?_
        refine e_iinc C dX6_spotWith_42 rfl ?_
        refine e_goto C (tgt := 8) dX6_spotWith_45 (by decide) ?_
        rw [show (16 * (k : Int) + (j : Int) + 1) = 16 * (k : Int) + ((j + 1 : Nat) : Int) by omega]
        exact ih _ hI
      · have hI : (((16 * (k : Int) + (j : Int)) = -1 ∧ ∀ i, i < j + 1 → (kdS M k).2.2.1 i ≠ c) ∨ ∃ i : Nat, i < j + 1 ∧ (kdS M k).2.2.1 i = c ∧ (16 * (k : Int) + (j : Int)) = 16 * (k : Int) + (i : Int)) := Or.inr ⟨j, by omega, Classical.not_not.mp h_32, rfl⟩
        refine e_iload C dX6_spotWith_35 rfl ?_
        refine e_goto C (tgt := 41) dX6_spotWith_37 (by decide) ?_
        refine e_istore_n C dX6_spotWith_41 ?_
        refine e_iinc C dX6_spotWith_42 rfl ?_
        refine e_goto C (tgt := 8) dX6_spotWith_45 (by decide) ?_
        rw [show (16 * (k : Int) + (j : Int) + 1) = 16 * (k : Int) + ((j + 1 : Nat) : Int) by omega]
        exact ih _ hI
  show pE g 5 X _ SH M 0 0 0 [some (.inr (.inr 153)), some (.inl (k : Int)), some (.inl c), none, none] []
  refine e_iconst C dX6_spotWith_0 ?_
  refine e_istore_n C dX6_spotWith_1 ?_
  refine e_bipush C dX6_spotWith_2 ?_
  refine e_iload_n C dX6_spotWith_4 rfl ?_
  refine e_imul C dX6_spotWith_5 ?_
  refine e_istore C dX6_spotWith_6 ?_
  have hz := lp 0 (-1) (by omega) (Or.inl ⟨rfl, fun i hi => by omega⟩)
  rw [show 16 * (k : Int) + ((0 : Nat) : Int) = 16 * (k : Int) by omega] at hz
  exact hz
theorem c_toldBy {g : pG} {M : pMem} {a e : Nat} (hm : made M) (ha : a < 5) (he : e < 5) : pCn g 2 0 0 yX6_toldBy cX6_toldBy 7 (some .int) SH SH M [.inr (.inr 153), .inl (a : Int), .inl (e : Int)] (fun r M' => r = some (.inl (apS (kdS M a) (nsD M a) (kdS M e) (nsD M e))) ∧ M' = M) := by
  refine pCn_intro mt_X6_toldBy (fun X C => ?_)
  have hW := hm.1.1
  obtain ⟨m1, m2, m3, m4⟩ := made_kd hm ha
  obtain ⟨o1, o2, o3, o4⟩ := made_kd hm he
  have hd1 := kd_dis m4
  have hd2 := kd_dis o4
  have lp : ∀ (i : Nat) (lm : Int), i ≤ 100 → (1 ≤ i ∧ (lm = -1 ∨ (1 ≤ lm ∧ lm ≤ 99)) ∧ apF (fnS (kdS M a) (nsD M a)) (fnS (kdS M e) (nsD M e)) (dfS (kdS M a) (nsD M a) (kdS M e) (nsD M e)) (100 - i) (i : Int) lm = apS (kdS M a) (nsD M a) (kdS M e) (nsD M e)) → pE g 7 X (pMQ g SH (fun r M' => r = some (.inl (apS (kdS M a) (nsD M a) (kdS M e) (nsD M e))) ∧ M' = M) X 0 0) SH M 0 0 5 [some (.inr (.inr 153)), some (.inl (a : Int)), some (.inl (e : Int)), some (.inl lm), some (.inl (i : Int)), none, none] [] := by
    refine p_for (100) _ _ ?_ ?_
    · rintro lm ⟨h1, h2, h3⟩
      refine e_iload C dX6_toldBy_5 rfl ?_
      refine e_bipush C dX6_toldBy_7 ?_
      refine e_icmp_ge C (tgt := 108) dX6_toldBy_9 (by decide) (by omega) (by omega) (fun h_9 => ?_) (fun h_9 => by exfalso; omega)
      refine e_iload_n C dX6_toldBy_108 rfl ?_
      exact e_ireturn C dX6_toldBy_109 ⟨by rw [← h3]; rfl, rfl⟩
    · rintro i lm hi ⟨h1, h2, h3⟩ ih
      have h3 : True → apF (fnS (kdS M a) (nsD M a)) (fnS (kdS M e) (nsD M e)) (dfS (kdS M a) (nsD M a) (kdS M e) (nsD M e)) (100 - i) (i : Int) lm = apS (kdS M a) (nsD M a) (kdS M e) (nsD M e) := fun _ => h3
      have hst : True → apF (fnS (kdS M a) (nsD M a)) (fnS (kdS M e) (nsD M e)) (dfS (kdS M a) (nsD M a) (kdS M e) (nsD M e)) (100 - i) (i : Int) lm = if ¬ ((fnS (kdS M a) (nsD M a) (i : Int) = -1) ↔ (fnS (kdS M e) (nsD M e) (i : Int) = -1)) then (i : Int) else apF (fnS (kdS M a) (nsD M a)) (fnS (kdS M e) (nsD M e)) (dfS (kdS M a) (nsD M a) (kdS M e) (nsD M e)) (100 - (i + 1)) ((i : Int) + 1) (if lm = -1 ∧ fnS (kdS M a) (nsD M a) (i : Int) ≠ -1 ∧ dfS (kdS M a) (nsD M a) (kdS M e) (nsD M e) (i : Int) = true then (i : Int) else lm) := fun _ => by
        rw [show 100 - i = (100 - (i + 1)) + 1 by omega]; rfl
      have nx : ∀ l2, ((fnS (kdS M a) (nsD M a) (i : Int) = -1) ↔ (fnS (kdS M e) (nsD M e) (i : Int) = -1)) → l2 = (if lm = -1 ∧ fnS (kdS M a) (nsD M a) (i : Int) ≠ -1 ∧ dfS (kdS M a) (nsD M a) (kdS M e) (nsD M e) (i : Int) = true then (i : Int) else lm) → pE g 7 X (pMQ g SH (fun r M' => r = some (.inl (apS (kdS M a) (nsD M a) (kdS M e) (nsD M e))) ∧ M' = M) X 0 0) SH M 0 0 5 [some (.inr (.inr 153)), some (.inl (a : Int)), some (.inl (e : Int)), some (.inl l2), some (.inl ((i + 1 : Nat) : Int)), none, none] [] := fun l2 hq hl => by
        refine ih l2 ⟨by omega, ?_, ?_⟩
        · rw [hl]; split
          · right; omega
          · exact h2
        · rw [← h3 trivial, hst trivial, if_neg (fun z => z hq), ← hl]; rfl
      have r1 := swV_r (Z := (kdS M a)) (c := (i : Int)) m2 ha
      have r2 := swV_r (Z := (kdS M e)) (c := (i : Int)) o2 he
      refine e_iload C dX6_toldBy_5 rfl ?_
      refine e_bipush C dX6_toldBy_7 ?_
      refine e_icmp_ge C (tgt := 108) dX6_toldBy_9 (by decide) (by omega) (by omega) (fun h_9 => by exfalso; omega) (fun h_9 => ?_)
      refine e_aload_n C dX6_toldBy_12 rfl ?_
      refine e_iload_n C dX6_toldBy_13 rfl ?_
      refine e_iload C dX6_toldBy_14 rfl ?_
      refine e_callV C (c_spotWith (M := M) (k := a) (c := (i : Int)) hW ha m1 m2 m3 hd1 (by omega)) mt_X6_spotWith s_X6_207 dX6_toldBy_16 6 sh_153 rfl (fun ra Ma hqa => ?_)
      obtain ⟨rfl, hMa⟩ := hqa
      subst Ma
      dsimp only [Option.toList_some, List.singleton_append]
      refine e_istore C dX6_toldBy_19 ?_
      refine e_aload_n C dX6_toldBy_21 rfl ?_
      refine e_iload_n C dX6_toldBy_22 rfl ?_
      refine e_iload C dX6_toldBy_23 rfl ?_
      refine e_callV C (c_spotWith (M := M) (k := e) (c := (i : Int)) hW he o1 o2 o3 hd2 (by omega)) mt_X6_spotWith s_X6_207 dX6_toldBy_25 6 sh_153 rfl (fun rb Mb hqb => ?_)
      obtain ⟨rfl, hMb⟩ := hqb
      subst Mb
      dsimp only [Option.toList_some, List.singleton_append]
      refine e_istore C dX6_toldBy_28 ?_
      refine e_iload C dX6_toldBy_30 rfl ?_
      refine e_if_lt C (tgt := 39) dX6_toldBy_32 (by decide) (by omega) (fun h_32 => ?_) (fun h_32 => ?_)
      · have q1 : fnS (kdS M a) (nsD M a) (i : Int) = -1 := r1.2.2.mp h_32
        refine e_iconst C dX6_toldBy_39 ?_
        refine e_iload C dX6_toldBy_40 rfl ?_
        refine e_if_lt C (tgt := 49) dX6_toldBy_42 (by decide) (by omega) (fun h_42 => ?_) (fun h_42 => ?_)
        · have q2 : fnS (kdS M e) (nsD M e) (i : Int) = -1 := r2.2.2.mp h_42
          refine e_iconst C dX6_toldBy_49 ?_
          refine e_icmp_eq C (tgt := 56) dX6_toldBy_50 (by decide) (by decide) (by decide) (fun h_50 => ?_) (fun h_50 => ?_)
          · have hqe : (fnS (kdS M a) (nsD M a) (i : Int) = -1) ↔ (fnS (kdS M e) (nsD M e) (i : Int) = -1) := by first | (exfalso; omega) | exact ⟨fun _ => q2, fun _ => q1⟩ | exact ⟨fun z => absurd z q1, fun z => absurd z q2⟩
            refine e_iload_n C dX6_toldBy_56 rfl ?_
            refine e_if_ge C (tgt := 102) dX6_toldBy_57 (by decide) (by omega) (fun h_57 => ?_) (fun h_57 => ?_)
            · have hl : True → (if lm = -1 ∧ fnS (kdS M a) (nsD M a) (i : Int) ≠ -1 ∧ dfS (kdS M a) (nsD M a) (kdS M e) (nsD M e) (i : Int) = true then (i : Int) else lm) = lm := fun _ => if_neg (fun z => by omega)
              refine e_iinc C dX6_toldBy_102 rfl ?_
              refine e_goto C (tgt := 5) dX6_toldBy_105 (by decide) ?_
              refine pE_f 6 ?_
              refine pE_f 5 ?_
              rw [show ((i : Int) + 1) = ((i + 1 : Nat) : Int) by omega]
              exact nx _ hqe (hl trivial).symm
            · refine e_iload C dX6_toldBy_60 rfl ?_
              refine e_if_lt C (tgt := 102) dX6_toldBy_62 (by decide) (by omega) (fun h_62 => ?_) (fun h_62 => ?_)
              · have hl : True → (if lm = -1 ∧ fnS (kdS M a) (nsD M a) (i : Int) ≠ -1 ∧ dfS (kdS M a) (nsD M a) (kdS M e) (nsD M e) (i : Int) = true then (i : Int) else lm) = lm := fun _ => if_neg (fun z => by first | exact z.2.1 q1 | (exfalso; omega))
                refine e_iinc C dX6_toldBy_102 rfl ?_
                refine e_goto C (tgt := 5) dX6_toldBy_105 (by decide) ?_
                refine pE_f 6 ?_
                refine pE_f 5 ?_
                rw [show ((i : Int) + 1) = ((i + 1 : Nat) : Int) by omega]
                exact nx _ hqe (hl trivial).symm
              · obtain ⟨j1, hj1, hj2⟩ : ∃ j1 : Nat, fnS (kdS M a) (nsD M a) (i : Int) = (j1 : Int) ∧ j1 < (nsD M a) := by
                  rcases fnS_sp (kdS M a) (nsD M a) (i : Int) with ⟨z, _⟩ | ⟨j, z2, _, z⟩
                  · first | exact absurd z q1 | (exfalso; omega)
                  · exact ⟨j, z, z2⟩
                obtain ⟨j2, hj3, hj4⟩ : ∃ j2 : Nat, fnS (kdS M e) (nsD M e) (i : Int) = (j2 : Int) ∧ j2 < (nsD M e) := by
                  rcases fnS_sp (kdS M e) (nsD M e) (i : Int) with ⟨z, _⟩ | ⟨j, z2, _, z⟩
                  · first | exact absurd (hqe.mpr z) q1 | (exfalso; omega)
                  · exact ⟨j, z, z2⟩
                have s1 : swV (kdS M a) (nsD M a) a (i : Int) = ((16 * a + j1 : Nat) : Int) := by unfold swV; rw [if_neg (by omega), hj1]; omega
                have s2 : swV (kdS M e) (nsD M e) e (i : Int) = ((16 * e + j2 : Nat) : Int) := by unfold swV; rw [if_neg (by omega), hj3]; omega
                obtain ⟨zx, zy, -, -⟩ := m3 j1 hj2
                obtain ⟨yx, yy, -, -⟩ := o3 j2 hj4
                have zx : 0 ≤ mI M 163 (16 * a + j1) ∧ mI M 163 (16 * a + j1) ≤ 63 := zx
                have zy : 0 ≤ mI M 164 (16 * a + j1) ∧ mI M 164 (16 * a + j1) ≤ 63 := zy
                have yx : 0 ≤ mI M 163 (16 * e + j2) ∧ mI M 163 (16 * e + j2) ≤ 63 := yx
                have yy : 0 ≤ mI M 164 (16 * e + j2) ∧ mI M 164 (16 * e + j2) ≤ 63 := yy
                have hlm : lm = -1 := by omega
                have hdf : dfS (kdS M a) (nsD M a) (kdS M e) (nsD M e) (i : Int) = decide (mI M 163 (16 * a + j1) ≠ mI M 163 (16 * e + j2) ∨ mI M 164 (16 * a + j1) ≠ mI M 164 (16 * e + j2)) := by unfold dfS; rw [hj1, hj3]; rfl
                refine e_aload_n C dX6_toldBy_65 rfl ?_
                refine e_getR C f_X6_47 sh_153 (hW 153 14 163 rfl) dX6_toldBy_66 ?_
                refine e_iload C dX6_toldBy_69 rfl ?_
                refine e_iaload C dX6_toldBy_71 sh_163 (16 * a + j1) s1 (by omega) ?_
                refine e_aload_n C dX6_toldBy_72 rfl ?_
                refine e_getR C f_X6_47 sh_153 (hW 153 14 163 rfl) dX6_toldBy_73 ?_
                refine e_iload C dX6_toldBy_76 rfl ?_
                refine e_iaload C dX6_toldBy_78 sh_163 (16 * e + j2) s2 (by omega) ?_
                refine e_icmp_ne C (tgt := 99) dX6_toldBy_79 (by decide) (by omega) (by omega) (fun h_79 => ?_) (fun h_79 => ?_)
                · have hl : True → (if lm = -1 ∧ fnS (kdS M a) (nsD M a) (i : Int) ≠ -1 ∧ dfS (kdS M a) (nsD M a) (kdS M e) (nsD M e) (i : Int) = true then (i : Int) else lm) = (i : Int) := fun _ => if_pos ⟨hlm, by omega, by rw [hdf]; exact decide_eq_true (Or.inl h_79)⟩
                  refine e_iload C dX6_toldBy_99 rfl ?_
                  refine e_istore_n C dX6_toldBy_101 ?_
                  refine e_iinc C dX6_toldBy_102 rfl ?_
                  refine e_goto C (tgt := 5) dX6_toldBy_105 (by decide) ?_
                  refine pE_f 6 ?_
                  refine pE_f 5 ?_
                  rw [show ((i : Int) + 1) = ((i + 1 : Nat) : Int) by omega]
                  exact nx _ hqe (hl trivial).symm
                · refine e_aload_n C dX6_toldBy_82 rfl ?_
                  refine e_getR C f_X6_50 sh_153 (hW 153 15 164 rfl) dX6_toldBy_83 ?_
                  refine e_iload C dX6_toldBy_86 rfl ?_
                  refine e_iaload C dX6_toldBy_88 sh_164 (16 * a + j1) s1 (by omega) ?_
                  refine e_aload_n C dX6_toldBy_89 rfl ?_
                  refine e_getR C f_X6_50 sh_153 (hW 153 15 164 rfl) dX6_toldBy_90 ?_
                  refine e_iload C dX6_toldBy_93 rfl ?_
                  refine e_iaload C dX6_toldBy_95 sh_164 (16 * e + j2) s2 (by omega) ?_
                  refine e_icmp_eq C (tgt := 102) dX6_toldBy_96 (by decide) (by omega) (by omega) (fun h_96 => ?_) (fun h_96 => ?_)
                  · have hl : True → (if lm = -1 ∧ fnS (kdS M a) (nsD M a) (i : Int) ≠ -1 ∧ dfS (kdS M a) (nsD M a) (kdS M e) (nsD M e) (i : Int) = true then (i : Int) else lm) = lm := fun _ => if_neg (fun z => by have := of_decide_eq_true (hdf ▸ z.2.2); omega)
                    refine e_iinc C dX6_toldBy_102 rfl ?_
                    refine e_goto C (tgt := 5) dX6_toldBy_105 (by decide) ?_
                    refine pE_f 6 ?_
                    refine pE_f 5 ?_
                    rw [show ((i : Int) + 1) = ((i + 1 : Nat) : Int) by omega]
                    exact nx _ hqe (hl trivial).symm
                  · have hl : True → (if lm = -1 ∧ fnS (kdS M a) (nsD M a) (i : Int) ≠ -1 ∧ dfS (kdS M a) (nsD M a) (kdS M e) (nsD M e) (i : Int) = true then (i : Int) else lm) = (i : Int) := fun _ => if_pos ⟨hlm, by omega, by rw [hdf]; exact decide_eq_true (Or.inr h_96)⟩
                    refine e_iload C dX6_toldBy_99 rfl ?_
                    refine e_istore_n C dX6_toldBy_101 ?_
                    refine e_iinc C dX6_toldBy_102 rfl ?_
                    refine e_goto C (tgt := 5) dX6_toldBy_105 (by decide) ?_
                    refine pE_f 6 ?_
                    refine pE_f 5 ?_
                    rw [show ((i : Int) + 1) = ((i + 1 : Nat) : Int) by omega]
                    exact nx _ hqe (hl trivial).symm
          · have hne : ¬ ((fnS (kdS M a) (nsD M a) (i : Int) = -1) ↔ (fnS (kdS M e) (nsD M e) (i : Int) = -1)) := fun z => by first | exact h_50 rfl | exact q2 (z.mp q1) | exact q1 (z.mpr q2)
            refine e_iload C dX6_toldBy_53 rfl ?_
            exact e_ireturn C dX6_toldBy_55 ⟨by rw [← h3 trivial, hst trivial, if_pos hne], rfl⟩
        · have q2 : fnS (kdS M e) (nsD M e) (i : Int) ≠ -1 := fun z => h_42 (r2.2.2.mpr z)
          refine e_iconst C dX6_toldBy_45 ?_
          refine e_goto C (tgt := 50) dX6_toldBy_46 (by decide) ?_
          refine e_icmp_eq C (tgt := 56) dX6_toldBy_50 (by decide) (by decide) (by decide) (fun h_50 => ?_) (fun h_50 => ?_)
          · have hqe : (fnS (kdS M a) (nsD M a) (i : Int) = -1) ↔ (fnS (kdS M e) (nsD M e) (i : Int) = -1) := by first | (exfalso; omega) | exact ⟨fun _ => q2, fun _ => q1⟩ | exact ⟨fun z => absurd z q1, fun z => absurd z q2⟩
            refine e_iload_n C dX6_toldBy_56 rfl ?_
            refine e_if_ge C (tgt := 102) dX6_toldBy_57 (by decide) (by omega) (fun h_57 => ?_) (fun h_57 => ?_)
            · have hl : True → (if lm = -1 ∧ fnS (kdS M a) (nsD M a) (i : Int) ≠ -1 ∧ dfS (kdS M a) (nsD M a) (kdS M e) (nsD M e) (i : Int) = true then (i : Int) else lm) = lm := fun _ => if_neg (fun z => by omega)
              refine e_iinc C dX6_toldBy_102 rfl ?_
              refine e_goto C (tgt := 5) dX6_toldBy_105 (by decide) ?_
              refine pE_f 6 ?_
              refine pE_f 5 ?_
              rw [show ((i : Int) + 1) = ((i + 1 : Nat) : Int) by omega]
              exact nx _ hqe (hl trivial).symm
            · refine e_iload C dX6_toldBy_60 rfl ?_
              refine e_if_lt C (tgt := 102) dX6_toldBy_62 (by decide) (by omega) (fun h_62 => ?_) (fun h_62 => ?_)
              · have hl : True → (if lm = -1 ∧ fnS (kdS M a) (nsD M a) (i : Int) ≠ -1 ∧ dfS (kdS M a) (nsD M a) (kdS M e) (nsD M e) (i : Int) = true then (i : Int) else lm) = lm := fun _ => if_neg (fun z => by first | exact z.2.1 q1 | (exfalso; omega))
                refine e_iinc C dX6_toldBy_102 rfl ?_
                refine e_goto C (tgt := 5) dX6_toldBy_105 (by decide) ?_
                refine pE_f 6 ?_
                refine pE_f 5 ?_
                rw [show ((i : Int) + 1) = ((i + 1 : Nat) : Int) by omega]
                exact nx _ hqe (hl trivial).symm
              · obtain ⟨j1, hj1, hj2⟩ : ∃ j1 : Nat, fnS (kdS M a) (nsD M a) (i : Int) = (j1 : Int) ∧ j1 < (nsD M a) := by
                  rcases fnS_sp (kdS M a) (nsD M a) (i : Int) with ⟨z, _⟩ | ⟨j, z2, _, z⟩
                  · first | exact absurd z q1 | (exfalso; omega)
                  · exact ⟨j, z, z2⟩
                obtain ⟨j2, hj3, hj4⟩ : ∃ j2 : Nat, fnS (kdS M e) (nsD M e) (i : Int) = (j2 : Int) ∧ j2 < (nsD M e) := by
                  rcases fnS_sp (kdS M e) (nsD M e) (i : Int) with ⟨z, _⟩ | ⟨j, z2, _, z⟩
                  · first | exact absurd (hqe.mpr z) q1 | (exfalso; omega)
                  · exact ⟨j, z, z2⟩
                have s1 : swV (kdS M a) (nsD M a) a (i : Int) = ((16 * a + j1 : Nat) : Int) := by unfold swV; rw [if_neg (by omega), hj1]; omega
                have s2 : swV (kdS M e) (nsD M e) e (i : Int) = ((16 * e + j2 : Nat) : Int) := by unfold swV; rw [if_neg (by omega), hj3]; omega
                obtain ⟨zx, zy, -, -⟩ := m3 j1 hj2
                obtain ⟨yx, yy, -, -⟩ := o3 j2 hj4
                have zx : 0 ≤ mI M 163 (16 * a + j1) ∧ mI M 163 (16 * a + j1) ≤ 63 := zx
                have zy : 0 ≤ mI M 164 (16 * a + j1) ∧ mI M 164 (16 * a + j1) ≤ 63 := zy
                have yx : 0 ≤ mI M 163 (16 * e + j2) ∧ mI M 163 (16 * e + j2) ≤ 63 := yx
                have yy : 0 ≤ mI M 164 (16 * e + j2) ∧ mI M 164 (16 * e + j2) ≤ 63 := yy
                have hlm : lm = -1 := by omega
                have hdf : dfS (kdS M a) (nsD M a) (kdS M e) (nsD M e) (i : Int) = decide (mI M 163 (16 * a + j1) ≠ mI M 163 (16 * e + j2) ∨ mI M 164 (16 * a + j1) ≠ mI M 164 (16 * e + j2)) := by unfold dfS; rw [hj1, hj3]; rfl
                refine e_aload_n C dX6_toldBy_65 rfl ?_
                refine e_getR C f_X6_47 sh_153 (hW 153 14 163 rfl) dX6_toldBy_66 ?_
                refine e_iload C dX6_toldBy_69 rfl ?_
                refine e_iaload C dX6_toldBy_71 sh_163 (16 * a + j1) s1 (by omega) ?_
                refine e_aload_n C dX6_toldBy_72 rfl ?_
                refine e_getR C f_X6_47 sh_153 (hW 153 14 163 rfl) dX6_toldBy_73 ?_
                refine e_iload C dX6_toldBy_76 rfl ?_
                refine e_iaload C dX6_toldBy_78 sh_163 (16 * e + j2) s2 (by omega) ?_
                refine e_icmp_ne C (tgt := 99) dX6_toldBy_79 (by decide) (by omega) (by omega) (fun h_79 => ?_) (fun h_79 => ?_)
                · have hl : True → (if lm = -1 ∧ fnS (kdS M a) (nsD M a) (i : Int) ≠ -1 ∧ dfS (kdS M a) (nsD M a) (kdS M e) (nsD M e) (i : Int) = true then (i : Int) else lm) = (i : Int) := fun _ => if_pos ⟨hlm, by omega, by rw [hdf]; exact decide_eq_true (Or.inl h_79)⟩
                  refine e_iload C dX6_toldBy_99 rfl ?_
                  refine e_istore_n C dX6_toldBy_101 ?_
                  refine e_iinc C dX6_toldBy_102 rfl ?_
                  refine e_goto C (tgt := 5) dX6_toldBy_105 (by decide) ?_
                  refine pE_f 6 ?_
                  refine pE_f 5 ?_
                  rw [show ((i : Int) + 1) = ((i + 1 : Nat) : Int) by omega]
                  exact nx _ hqe (hl trivial).symm
                · refine e_aload_n C dX6_toldBy_82 rfl ?_
                  refine e_getR C f_X6_50 sh_153 (hW 153 15 164 rfl) dX6_toldBy_83 ?_
                  refine e_iload C dX6_toldBy_86 rfl ?_
                  refine e_iaload C dX6_toldBy_88 sh_164 (16 * a + j1) s1 (by omega) ?_
                  refine e_aload_n C dX6_toldBy_89 rfl ?_
                  refine e_getR C f_X6_50 sh_153 (hW 153 15 164 rfl) dX6_toldBy_90 ?_
                  refine e_iload C dX6_toldBy_93 rfl ?_
                  refine e_iaload C dX6_toldBy_95 sh_164 (16 * e + j2) s2 (by omega) ?_
                  refine e_icmp_eq C (tgt := 102) dX6_toldBy_96 (by decide) (by omega) (by omega) (fun h_96 => ?_) (fun h_96 => ?_)
                  · have hl : True → (if lm = -1 ∧ fnS (kdS M a) (nsD M a) (i : Int) ≠ -1 ∧ dfS (kdS M a) (nsD M a) (kdS M e) (nsD M e) (i : Int) = true then (i : Int) else lm) = lm := fun _ => if_neg (fun z => by have := of_decide_eq_true (hdf ▸ z.2.2); omega)
                    refine e_iinc C dX6_toldBy_102 rfl ?_
                    refine e_goto C (tgt := 5) dX6_toldBy_105 (by decide) ?_
                    refine pE_f 6 ?_
                    refine pE_f 5 ?_
                    rw [show ((i : Int) + 1) = ((i + 1 : Nat) : Int) by omega]
                    exact nx _ hqe (hl trivial).symm
                  · have hl : True → (if lm = -1 ∧ fnS (kdS M a) (nsD M a) (i : Int) ≠ -1 ∧ dfS (kdS M a) (nsD M a) (kdS M e) (nsD M e) (i : Int) = true then (i : Int) else lm) = (i : Int) := fun _ => if_pos ⟨hlm, by omega, by rw [hdf]; exact decide_eq_true (Or.inr h_96)⟩
                    refine e_iload C dX6_toldBy_99 rfl ?_
                    refine e_istore_n C dX6_toldBy_101 ?_
                    refine e_iinc C dX6_toldBy_102 rfl ?_
                    refine e_goto C (tgt := 5) dX6_toldBy_105 (by decide) ?_
                    refine pE_f 6 ?_
                    refine pE_f 5 ?_
                    rw [show ((i : Int) + 1) = ((i + 1 : Nat) : Int) by omega]
                    exact nx _ hqe (hl trivial).symm
          · have hne : ¬ ((fnS (kdS M a) (nsD M a) (i : Int) = -1) ↔ (fnS (kdS M e) (nsD M e) (i : Int) = -1)) := fun z => by first | exact h_50 rfl | exact q2 (z.mp q1) | exact q1 (z.mpr q2)
            refine e_iload C dX6_toldBy_53 rfl ?_
            exact e_ireturn C dX6_toldBy_55 ⟨by rw [← h3 trivial, hst trivial, if_pos hne], rfl⟩
      · have q1 : fnS (kdS M a) (nsD M a) (i : Int) ≠ -1 := fun z => h_32 (r1.2.2.mpr z)
        refine e_iconst C dX6_toldBy_35 ?_
        refine e_goto C (tgt := 40) dX6_toldBy_36 (by decide) ?_
        refine e_iload C dX6_toldBy_40 rfl ?_
        refine e_if_lt C (tgt := 49) dX6_toldBy_42 (by decide) (by omega) (fun h_42 => ?_) (fun h_42 => ?_)
        · have q2 : fnS (kdS M e) (nsD M e) (i : Int) = -1 := r2.2.2.mp h_42
          refine e_iconst C dX6_toldBy_49 ?_
          refine e_icmp_eq C (tgt := 56) dX6_toldBy_50 (by decide) (by decide) (by decide) (fun h_50 => ?_) (fun h_50 => ?_)
          · have hqe : (fnS (kdS M a) (nsD M a) (i : Int) = -1) ↔ (fnS (kdS M e) (nsD M e) (i : Int) = -1) := by first | (exfalso; omega) | exact ⟨fun _ => q2, fun _ => q1⟩ | exact ⟨fun z => absurd z q1, fun z => absurd z q2⟩
            refine e_iload_n C dX6_toldBy_56 rfl ?_
            refine e_if_ge C (tgt := 102) dX6_toldBy_57 (by decide) (by omega) (fun h_57 => ?_) (fun h_57 => ?_)
            · have hl : True → (if lm = -1 ∧ fnS (kdS M a) (nsD M a) (i : Int) ≠ -1 ∧ dfS (kdS M a) (nsD M a) (kdS M e) (nsD M e) (i : Int) = true then (i : Int) else lm) = lm := fun _ => if_neg (fun z => by omega)
              refine e_iinc C dX6_toldBy_102 rfl ?_
              refine e_goto C (tgt := 5) dX6_toldBy_105 (by decide) ?_
              refine pE_f 6 ?_
              refine pE_f 5 ?_
              rw [show ((i : Int) + 1) = ((i + 1 : Nat) : Int) by omega]
              exact nx _ hqe (hl trivial).symm
            · refine e_iload C dX6_toldBy_60 rfl ?_
              refine e_if_lt C (tgt := 102) dX6_toldBy_62 (by decide) (by omega) (fun h_62 => ?_) (fun h_62 => ?_)
              · have hl : True → (if lm = -1 ∧ fnS (kdS M a) (nsD M a) (i : Int) ≠ -1 ∧ dfS (kdS M a) (nsD M a) (kdS M e) (nsD M e) (i : Int) = true then (i : Int) else lm) = lm := fun _ => if_neg (fun z => by first | exact z.2.1 q1 | (exfalso; omega))
                refine e_iinc C dX6_toldBy_102 rfl ?_
                refine e_goto C (tgt := 5) dX6_toldBy_105 (by decide) ?_
                refine pE_f 6 ?_
                refine pE_f 5 ?_
                rw [show ((i : Int) + 1) = ((i + 1 : Nat) : Int) by omega]
                exact nx _ hqe (hl trivial).symm
              · obtain ⟨j1, hj1, hj2⟩ : ∃ j1 : Nat, fnS (kdS M a) (nsD M a) (i : Int) = (j1 : Int) ∧ j1 < (nsD M a) := by
                  rcases fnS_sp (kdS M a) (nsD M a) (i : Int) with ⟨z, _⟩ | ⟨j, z2, _, z⟩
                  · first | exact absurd z q1 | (exfalso; omega)
                  · exact ⟨j, z, z2⟩
                obtain ⟨j2, hj3, hj4⟩ : ∃ j2 : Nat, fnS (kdS M e) (nsD M e) (i : Int) = (j2 : Int) ∧ j2 < (nsD M e) := by
                  rcases fnS_sp (kdS M e) (nsD M e) (i : Int) with ⟨z, _⟩ | ⟨j, z2, _, z⟩
                  · first | exact absurd (hqe.mpr z) q1 | (exfalso; omega)
                  · exact ⟨j, z, z2⟩
                have s1 : swV (kdS M a) (nsD M a) a (i : Int) = ((16 * a + j1 : Nat) : Int) := by unfold swV; rw [if_neg (by omega), hj1]; omega
                have s2 : swV (kdS M e) (nsD M e) e (i : Int) = ((16 * e + j2 : Nat) : Int) := by unfold swV; rw [if_neg (by omega), hj3]; omega
                obtain ⟨zx, zy, -, -⟩ := m3 j1 hj2
                obtain ⟨yx, yy, -, -⟩ := o3 j2 hj4
                have zx : 0 ≤ mI M 163 (16 * a + j1) ∧ mI M 163 (16 * a + j1) ≤ 63 := zx
                have zy : 0 ≤ mI M 164 (16 * a + j1) ∧ mI M 164 (16 * a + j1) ≤ 63 := zy
                have yx : 0 ≤ mI M 163 (16 * e + j2) ∧ mI M 163 (16 * e + j2) ≤ 63 := yx
                have yy : 0 ≤ mI M 164 (16 * e + j2) ∧ mI M 164 (16 * e + j2) ≤ 63 := yy
                have hlm : lm = -1 := by omega
                have hdf : dfS (kdS M a) (nsD M a) (kdS M e) (nsD M e) (i : Int) = decide (mI M 163 (16 * a + j1) ≠ mI M 163 (16 * e + j2) ∨ mI M 164 (16 * a + j1) ≠ mI M 164 (16 * e + j2)) := by unfold dfS; rw [hj1, hj3]; rfl
                refine e_aload_n C dX6_toldBy_65 rfl ?_
                refine e_getR C f_X6_47 sh_153 (hW 153 14 163 rfl) dX6_toldBy_66 ?_
                refine e_iload C dX6_toldBy_69 rfl ?_
                refine e_iaload C dX6_toldBy_71 sh_163 (16 * a + j1) s1 (by omega) ?_
                refine e_aload_n C dX6_toldBy_72 rfl ?_
                refine e_getR C f_X6_47 sh_153 (hW 153 14 163 rfl) dX6_toldBy_73 ?_
                refine e_iload C dX6_toldBy_76 rfl ?_
                refine e_iaload C dX6_toldBy_78 sh_163 (16 * e + j2) s2 (by omega) ?_
                refine e_icmp_ne C (tgt := 99) dX6_toldBy_79 (by decide) (by omega) (by omega) (fun h_79 => ?_) (fun h_79 => ?_)
                · have hl : True → (if lm = -1 ∧ fnS (kdS M a) (nsD M a) (i : Int) ≠ -1 ∧ dfS (kdS M a) (nsD M a) (kdS M e) (nsD M e) (i : Int) = true then (i : Int) else lm) = (i : Int) := fun _ => if_pos ⟨hlm, by omega, by rw [hdf]; exact decide_eq_true (Or.inl h_79)⟩
                  refine e_iload C dX6_toldBy_99 rfl ?_
                  refine e_istore_n C dX6_toldBy_101 ?_
                  refine e_iinc C dX6_toldBy_102 rfl ?_
                  refine e_goto C (tgt := 5) dX6_toldBy_105 (by decide) ?_
                  refine pE_f 6 ?_
                  refine pE_f 5 ?_
                  rw [show ((i : Int) + 1) = ((i + 1 : Nat) : Int) by omega]
                  exact nx _ hqe (hl trivial).symm
                · refine e_aload_n C dX6_toldBy_82 rfl ?_
                  refine e_getR C f_X6_50 sh_153 (hW 153 15 164 rfl) dX6_toldBy_83 ?_
                  refine e_iload C dX6_toldBy_86 rfl ?_
                  refine e_iaload C dX6_toldBy_88 sh_164 (16 * a + j1) s1 (by omega) ?_
                  refine e_aload_n C dX6_toldBy_89 rfl ?_
                  refine e_getR C f_X6_50 sh_153 (hW 153 15 164 rfl) dX6_toldBy_90 ?_
                  refine e_iload C dX6_toldBy_93 rfl ?_
                  refine e_iaload C dX6_toldBy_95 sh_164 (16 * e + j2) s2 (by omega) ?_
                  refine e_icmp_eq C (tgt := 102) dX6_toldBy_96 (by decide) (by omega) (by omega) (fun h_96 => ?_) (fun h_96 => ?_)
                  · have hl : True → (if lm = -1 ∧ fnS (kdS M a) (nsD M a) (i : Int) ≠ -1 ∧ dfS (kdS M a) (nsD M a) (kdS M e) (nsD M e) (i : Int) = true then (i : Int) else lm) = lm := fun _ => if_neg (fun z => by have := of_decide_eq_true (hdf ▸ z.2.2); omega)
                    refine e_iinc C dX6_toldBy_102 rfl ?_
                    refine e_goto C (tgt := 5) dX6_toldBy_105 (by decide) ?_
                    refine pE_f 6 ?_
                    refine pE_f 5 ?_
                    rw [show ((i : Int) + 1) = ((i + 1 : Nat) : Int) by omega]
                    exact nx _ hqe (hl trivial).symm
                  · have hl : True → (if lm = -1 ∧ fnS (kdS M a) (nsD M a) (i : Int) ≠ -1 ∧ dfS (kdS M a) (nsD M a) (kdS M e) (nsD M e) (i : Int) = true then (i : Int) else lm) = (i : Int) := fun _ => if_pos ⟨hlm, by omega, by rw [hdf]; exact decide_eq_true (Or.inr h_96)⟩
                    refine e_iload C dX6_toldBy_99 rfl ?_
                    refine e_istore_n C dX6_toldBy_101 ?_
                    refine e_iinc C dX6_toldBy_102 rfl ?_
                    refine e_goto C (tgt := 5) dX6_toldBy_105 (by decide) ?_
                    refine pE_f 6 ?_
                    refine pE_f 5 ?_
                    rw [show ((i : Int) + 1) = ((i + 1 : Nat) : Int) by omega]
                    exact nx _ hqe (hl trivial).symm
          · have hne : ¬ ((fnS (kdS M a) (nsD M a) (i : Int) = -1) ↔ (fnS (kdS M e) (nsD M e) (i : Int) = -1)) := fun z => by first | exact h_50 rfl | exact q2 (z.mp q1) | exact q1 (z.mpr q2)
            refine e_iload C dX6_toldBy_53 rfl ?_
            exact e_ireturn C dX6_toldBy_55 ⟨by rw [← h3 trivial, hst trivial, if_pos hne], rfl⟩
        · have q2 : fnS (kdS M e) (nsD M e) (i : Int) ≠ -1 := fun z => h_42 (r2.2.2.mpr z)
          refine e_iconst C dX6_toldBy_45 ?_
          refine e_goto C (tgt := 50) dX6_toldBy_46 (by decide) ?_
          refine e_icmp_eq C (tgt := 56) dX6_toldBy_50 (by decide) (by decide) (by decide) (fun h_50 => ?_) (fun h_50 => ?_)
          · have hqe : (fnS (kdS M a) (nsD M a) (i : Int) = -1) ↔ (fnS (kdS M e) (nsD M e) (i : Int) = -1) := by first | (exfalso; omega) | exact ⟨fun _ => q2, fun _ => q1⟩ | exact ⟨fun z => absurd z q1, fun z => absurd z q2⟩
            refine e_iload_n C dX6_toldBy_56 rfl ?_
            refine e_if_ge C (tgt := 102) dX6_toldBy_57 (by decide) (by omega) (fun h_57 => ?_) (fun h_57 => ?_)
            · have hl : True → (if lm = -1 ∧ fnS (kdS M a) (nsD M a) (i : Int) ≠ -1 ∧ dfS (kdS M a) (nsD M a) (kdS M e) (nsD M e) (i : Int) = true then (i : Int) else lm) = lm := fun _ => if_neg (fun z => by omega)
              refine e_iinc C dX6_toldBy_102 rfl ?_
              refine e_goto C (tgt := 5) dX6_toldBy_105 (by decide) ?_
              refine pE_f 6 ?_
              refine pE_f 5 ?_
              rw [show ((i : Int) + 1) = ((i + 1 : Nat) : Int) by omega]
              exact nx _ hqe (hl trivial).symm
            · refine e_iload C dX6_toldBy_60 rfl ?_
              refine e_if_lt C (tgt := 102) dX6_toldBy_62 (by decide) (by omega) (fun h_62 => ?_) (fun h_62 => ?_)
              · have hl : True → (if lm = -1 ∧ fnS (kdS M a) (nsD M a) (i : Int) ≠ -1 ∧ dfS (kdS M a) (nsD M a) (kdS M e) (nsD M e) (i : Int) = true then (i : Int) else lm) = lm := fun _ => if_neg (fun z => by first | exact z.2.1 q1 | (exfalso; omega))
                refine e_iinc C dX6_toldBy_102 rfl ?_
                refine e_goto C (tgt := 5) dX6_toldBy_105 (by decide) ?_
                refine pE_f 6 ?_
                refine pE_f 5 ?_
                rw [show ((i : Int) + 1) = ((i + 1 : Nat) : Int) by omega]
                exact nx _ hqe (hl trivial).symm
              · obtain ⟨j1, hj1, hj2⟩ : ∃ j1 : Nat, fnS (kdS M a) (nsD M a) (i : Int) = (j1 : Int) ∧ j1 < (nsD M a) := by
                  rcases fnS_sp (kdS M a) (nsD M a) (i : Int) with ⟨z, _⟩ | ⟨j, z2, _, z⟩
                  · first | exact absurd z q1 | (exfalso; omega)
                  · exact ⟨j, z, z2⟩
                obtain ⟨j2, hj3, hj4⟩ : ∃ j2 : Nat, fnS (kdS M e) (nsD M e) (i : Int) = (j2 : Int) ∧ j2 < (nsD M e) := by
                  rcases fnS_sp (kdS M e) (nsD M e) (i : Int) with ⟨z, _⟩ | ⟨j, z2, _, z⟩
                  · first | exact absurd (hqe.mpr z) q1 | (exfalso; omega)
                  · exact ⟨j, z, z2⟩
                have s1 : swV (kdS M a) (nsD M a) a (i : Int) = ((16 * a + j1 : Nat) : Int) := by unfold swV; rw [if_neg (by omega), hj1]; omega
                have s2 : swV (kdS M e) (nsD M e) e (i : Int) = ((16 * e + j2 : Nat) : Int) := by unfold swV; rw [if_neg (by omega), hj3]; omega
                obtain ⟨zx, zy, -, -⟩ := m3 j1 hj2
                obtain ⟨yx, yy, -, -⟩ := o3 j2 hj4
                have zx : 0 ≤ mI M 163 (16 * a + j1) ∧ mI M 163 (16 * a + j1) ≤ 63 := zx
                have zy : 0 ≤ mI M 164 (16 * a + j1) ∧ mI M 164 (16 * a + j1) ≤ 63 := zy
                have yx : 0 ≤ mI M 163 (16 * e + j2) ∧ mI M 163 (16 * e + j2) ≤ 63 := yx
                have yy : 0 ≤ mI M 164 (16 * e + j2) ∧ mI M 164 (16 * e + j2) ≤ 63 := yy
                have hlm : lm = -1 := by omega
                have hdf : dfS (kdS M a) (nsD M a) (kdS M e) (nsD M e) (i : Int) = decide (mI M 163 (16 * a + j1) ≠ mI M 163 (16 * e + j2) ∨ mI M 164 (16 * a + j1) ≠ mI M 164 (16 * e + j2)) := by unfold dfS; rw [hj1, hj3]; rfl
                refine e_aload_n C dX6_toldBy_65 rfl ?_
                refine e_getR C f_X6_47 sh_153 (hW 153 14 163 rfl) dX6_toldBy_66 ?_
                refine e_iload C dX6_toldBy_69 rfl ?_
                refine e_iaload C dX6_toldBy_71 sh_163 (16 * a + j1) s1 (by omega) ?_
                refine e_aload_n C dX6_toldBy_72 rfl ?_
                refine e_getR C f_X6_47 sh_153 (hW 153 14 163 rfl) dX6_toldBy_73 ?_
                refine e_iload C dX6_toldBy_76 rfl ?_
                refine e_iaload C dX6_toldBy_78 sh_163 (16 * e + j2) s2 (by omega) ?_
                refine e_icmp_ne C (tgt := 99) dX6_toldBy_79 (by decide) (by omega) (by omega) (fun h_79 => ?_) (fun h_79 => ?_)
                · have hl : True → (if lm = -1 ∧ fnS (kdS M a) (nsD M a) (i : Int) ≠ -1 ∧ dfS (kdS M a) (nsD M a) (kdS M e) (nsD M e) (i : Int) = true then (i : Int) else lm) = (i : Int) := fun _ => if_pos ⟨hlm, by omega, by rw [hdf]; exact decide_eq_true (Or.inl h_79)⟩
                  refine e_iload C dX6_toldBy_99 rfl ?_
                  refine e_istore_n C dX6_toldBy_101 ?_
                  refine e_iinc C dX6_toldBy_102 rfl ?_
                  refine e_goto C (tgt := 5) dX6_toldBy_105 (by decide) ?_
                  refine pE_f 6 ?_
                  refine pE_f 5 ?_
                  rw [show ((i : Int) + 1) = ((i + 1 : Nat) : Int) by omega]
                  exact nx _ hqe (hl trivial).symm
                · refine e_aload_n C dX6_toldBy_82 rfl ?_
                  refine e_getR C f_X6_50 sh_153 (hW 153 15 164 rfl) dX6_toldBy_83 ?_
                  refine e_iload C dX6_toldBy_86 rfl ?_
                  refine e_iaload C dX6_toldBy_88 sh_164 (16 * a + j1) s1 (by omega) ?_
                  refine e_aload_n C dX6_toldBy_89 rfl ?_
                  refine e_getR C f_X6_50 sh_153 (hW 153 15 164 rfl) dX6_toldBy_90 ?_
                  refine e_iload C dX6_toldBy_93 rfl ?_
                  refine e_iaload C dX6_toldBy_95 sh_164 (16 * e + j2) s2 (by omega) ?_
                  refine e_icmp_eq C (tgt := 102) dX6_toldBy_96 (by decide) (by omega) (by omega) (fun h_96 => ?_) (fun h_96 => ?_)
                  · have hl : True → (if lm = -1 ∧ fnS (kdS M a) (nsD M a) (i : Int) ≠ -1 ∧ dfS (kdS M a) (nsD M a) (kdS M e) (nsD M e) (i : Int) = true then (i : Int) else lm) = lm := fun _ => if_neg (fun z => by have := of_decide_eq_true (hdf ▸ z.2.2); omega)
                    refine e_iinc C dX6_toldBy_102 rfl ?_
                    refine e_goto C (tgt := 5) dX6_toldBy_105 (by decide) ?_
                    refine pE_f 6 ?_
                    refine pE_f 5 ?_
                    rw [show ((i : Int) + 1) = ((i + 1 : Nat) : Int) by omega]
                    exact nx _ hqe (hl trivial).symm
                  · have hl : True → (if lm = -1 ∧ fnS (kdS M a) (nsD M a) (i : Int) ≠ -1 ∧ dfS (kdS M a) (nsD M a) (kdS M e) (nsD M e) (i : Int) = true then (i : Int) else lm) = (i : Int) := fun _ => if_pos ⟨hlm, by omega, by rw [hdf]; exact decide_eq_true (Or.inr h_96)⟩
                    refine e_iload C dX6_toldBy_99 rfl ?_
                    refine e_istore_n C dX6_toldBy_101 ?_
                    refine e_iinc C dX6_toldBy_102 rfl ?_
                    refine e_goto C (tgt := 5) dX6_toldBy_105 (by decide) ?_
                    refine pE_f 6 ?_
                    refine pE_f 5 ?_
                    rw [show ((i : Int) + 1) = ((i + 1 : Nat) : Int) by omega]
                    exact nx _ hqe (hl trivial).symm
          · have hne : ¬ ((fnS (kdS M a) (nsD M a) (i : Int) = -1) ↔ (fnS (kdS M e) (nsD M e) (i : Int) = -1)) := fun z => by first | exact h_50 rfl | exact q2 (z.mp q1) | exact q1 (z.mpr q2)
            refine e_iload C dX6_toldBy_53 rfl ?_
            exact e_ireturn C dX6_toldBy_55 ⟨by rw [← h3 trivial, hst trivial, if_pos hne], rfl⟩
  show pE g 7 X _ SH M 0 0 0 [some (.inr (.inr 153)), some (.inl (a : Int)), some (.inl (e : Int)), none, none, none, none] []
  refine e_iconst C dX6_toldBy_0 ?_
  refine e_istore_n C dX6_toldBy_1 ?_
  refine e_iconst C dX6_toldBy_2 ?_
  refine e_istore C dX6_toldBy_3 ?_
  exact lp 1 (-1) (by omega) ⟨Nat.le_refl _, Or.inl rfl, rfl⟩
def bB (Z : pS) : pB := (Z.1, Z.2.1, Z.2.2.1)
theorem c_areVersions {g : pG} {M : pMem} {a e : Nat} (hm : made M) (ha : a < 5) (he : e < 5) : pCn g 5 0 0 yX6_areVersions cX6_areVersions 4 (some .boolean) SH SH M [.inr (.inr 153), .inl (a : Int), .inl (e : Int)] (fun r M' => ∃ K, isKey (wtD M) (if 8 < nsD M a then 8 else nsD M a) (nsD M e) (bB (kdS M a)) (kdS M e) K ∧ r = some (.inl (if K / 341812114609 ≤ mI M 153 9 then 1 else 0)) ∧ frD oQ M M' ∧ JD M') := by
  refine pCn_intro mt_X6_areVersions (fun X C => ?_)
  have hW := hm.1.1
  obtain ⟨m1, m2, m3, m4⟩ := made_kd hm ha
  obtain ⟨o1, o2, o3, o4⟩ := made_kd hm he
  have hbd := hm.1.2.2.2.1
  unfold bdD at hbd
  obtain ⟨nb, hnb⟩ : ∃ nb, nb = (if 8 < nsD M a then 8 else nsD M a) := ⟨_, rfl⟩
  have hnb8 : nb ≤ 8 ∧ nb ≤ nsD M a := by rw [hnb]; split <;> omega
  have hbA : bxOk nb (bB (kdS M a)) := fun b hb => by
    obtain ⟨z1, z2, z3, -⟩ := m3 b (by omega)
    exact ⟨z1, z2, z3⟩
  obtain ⟨K, hK⟩ := isKey_ex hm.1.2.2.1 hbA o3 hnb8.1 o2
  have hKr := isKey_r hm.1.2.2.1 hbA o3 hnb8.1 o2 hK
  rw [← hnb]
  have lp : ∀ (b : Nat) (N : pMem), b ≤ nb → (frD oTp M N ∧ mI N 153 17 = (nb : Int) ∧ ∀ i, i < b → mI N 166 i = (kdS M a).1 i ∧ mI N 167 i = (kdS M a).2.1 i ∧ mI N 168 i = (kdS M a).2.2.1 i) → pE g 4 X (pMQ g SH (fun r M' => ∃ K, isKey (wtD M) nb (nsD M e) (bB (kdS M a)) (kdS M e) K ∧ r = some (.inl (if K / 341812114609 ≤ mI M 153 9 then 1 else 0)) ∧ frD oQ M M' ∧ JD M') X 0 0) SH N 0 0 28 [some (.inr (.inr 153)), some (.inl (a : Int)), some (.inl (e : Int)), some (.inl (b : Int))] [] := by
    refine p_for (nb) _ _ ?_ ?_
    · rintro N ⟨hf, h17, hi⟩
      have hWN := frD_W hf hW
      have hs1 : mI N 161 e = ((nsD N e : Nat) : Int) := by unfold nsD; rw [hf.1 161 e (by unfold oTp; omega)]; exact o1
      have eN : nsD N e = nsD M e := by unfold nsD; rw [hf.1 161 e (by unfold oTp; omega)]
      have eK : kdS N e = kdS M e := frD_kd hf (fun b j _ _ => by unfold oTp; omega) e
      refine e_iload_n C dX6_areVersions_28 rfl ?_
      refine e_aload_n C dX6_areVersions_29 rfl ?_
      refine e_getI C f_X6_135 sh_153 dX6_areVersions_30 ?_
      rw [h17]
      refine e_icmp_ge C (tgt := 93) dX6_areVersions_33 (by decide) (by omega) (by omega) (fun h_33 => ?_) (fun h_33 => by exfalso; omega)
      refine e_aload_n C dX6_areVersions_93 rfl ?_
      refine e_iload_n C dX6_areVersions_94 rfl ?_
      refine e_callV C (c_takesSpots (M := N) (k := e) hWN he hs1 (by rw [eN]; exact o2) (by rw [eN, eK]; exact o3)) mt_X6_takesSpots s_X6_162 dX6_areVersions_95 6 sh_153 rfl (fun rt Mt hqt => ?_)
      obtain ⟨rfl, t1, t2, t3⟩ := hqt
      dsimp only [Option.toList_none, List.nil_append]
      rw [eN] at t2 t3
      rw [eK] at t3
      have hft : frD oC M Mt := frD_tr (frD_su hf (fun b j hb => by unfold oC oM oQ at hb; unfold oTp; omega)) (frD_su t1 (fun b j hb => by unfold oC oM oQ at hb; unfold oTs; omega))
      have hfp : frD oP M Mt := oQ_P (frD_su hft (fun b j hb => Or.inl (Or.inl hb)))
      have hxe : ∀ b, b < nb → mI Mt 166 b = (kdS M a).1 b ∧ mI Mt 167 b = (kdS M a).2.1 b ∧ mI Mt 168 b = (kdS M a).2.2.1 b := fun b hb => by
        rw [t1.1 166 b (by unfold oTs; omega), t1.1 167 b (by unfold oTs; omega), t1.1 168 b (by unfold oTs; omega)]; exact hi b hb
      have hbxN : bxOk nb (bxD Mt) := fun b hb => by
        obtain ⟨z1, z2, z3⟩ := hxe b hb
        show (0 ≤ mI Mt 166 b ∧ mI Mt 166 b ≤ 63) ∧ (0 ≤ mI Mt 167 b ∧ mI Mt 167 b ≤ 63) ∧ (1 ≤ mI Mt 168 b ∧ mI Mt 168 b ≤ 99)
        rw [z1, z2, z3]; exact hbA b hb
      have hspN : spOk (nsD M e) (spD Mt) := fun s hs => by
        obtain ⟨z1, z2, z3, z4⟩ := t3 s hs
        show (0 ≤ mI Mt 169 s ∧ mI Mt 169 s ≤ 63) ∧ (0 ≤ mI Mt 170 s ∧ mI Mt 170 s ≤ 63) ∧ (1 ≤ mI Mt 171 s ∧ mI Mt 171 s ≤ 99) ∧ (mI Mt 172 s = 0 ∨ mI Mt 172 s = 1)
        rw [z1, z2, z3, z4]; exact o3 s hs
      have hKt : isKey (wtD Mt) nb (nsD M e) (bxD Mt) (spD Mt) K := by
        rw [oP_wt hfp]
        refine isKey_congr (fun b hb => ?_) (fun s hs => ?_) hK
        · obtain ⟨z1, z2, z3⟩ := hxe b hb
          exact ⟨z1.symm, z2.symm, z3.symm⟩
        · obtain ⟨z1, z2, z3, z4⟩ := t3 s hs
          exact ⟨z1.symm, z2.symm, z3.symm, z4.symm⟩
      refine e_aload_n C dX6_areVersions_98 rfl ?_
      refine e_callV C (c_seeks (M := Mt) (nb := nb) (ns := nsD M e) (K := K) (frD_W hft hW) ((t1.1 153 17 (by unfold oTs; omega)).trans h17) t2 hnb8.1 o2 (by rw [oP_wt hfp]; exact hm.1.2.2.1) hbxN hspN hKt) mt_X6_seeks s_X6_165 dX6_areVersions_99 6 sh_153 rfl (fun rs Ms hqs => ?_)
      obtain ⟨rfl, s1, s2, -, -, -⟩ := hqs
      dsimp only [Option.toList_none, List.nil_append]
      have hfs : frD oC M Ms := frD_tr hft (frD_su s1 (fun b j hb => by unfold oC oM oQ at hb; unfold oSk; omega))
      have hJs := JD_C hm.1 hfs
      have hfl : frD oQ M Ms := frD_su hfs (fun b j hb => Or.inl (Or.inl hb))
      have e9 : mI Ms 153 9 = mI M 153 9 := hfl.1 153 9 (by unfold oQ; omega)
      refine e_aload_n C dX6_areVersions_102 rfl ?_
      refine e_getI C f_X6_146 sh_153 dX6_areVersions_103 ?_
      rw [s2]
      refine e_aload_n C dX6_areVersions_106 rfl ?_
      refine e_getI C f_X6_35 sh_153 dX6_areVersions_107 ?_
      rw [e9]
      refine e_icmp_gt C (tgt := 117) dX6_areVersions_110 (by decide) (by omega) (by omega) (fun h_110 => ?_) (fun h_110 => ?_)
      · skip
        refine e_iconst C dX6_areVersions_117 ?_
        first | exact e_zreturn C dX6_areVersions_118 (Or.inr rfl) ⟨K, hK, by rw [if_pos (by omega)], hfl, hJs⟩ | exact e_zreturn C dX6_areVersions_118 (Or.inl rfl) ⟨K, hK, by rw [if_neg (by omega)], hfl, hJs⟩
      · skip
        refine e_iconst C dX6_areVersions_113 ?_
        refine e_goto C (tgt := 118) dX6_areVersions_114 (by decide) ?_
        first | exact e_zreturn C dX6_areVersions_118 (Or.inr rfl) ⟨K, hK, by rw [if_pos (by omega)], hfl, hJs⟩ | exact e_zreturn C dX6_areVersions_118 (Or.inl rfl) ⟨K, hK, by rw [if_neg (by omega)], hfl, hJs⟩
    · rintro b N hb ⟨hf, h17, hi⟩ ih
      have hWN := frD_W hf hW
      have e162 : mI N 162 = mI M 162 := frD_row hf (fun j => by unfold oTp; omega)
      have e163 : mI N 163 = mI M 163 := frD_row hf (fun j => by unfold oTp; omega)
      have e164 : mI N 164 = mI M 164 := frD_row hf (fun j => by unfold oTp; omega)
      refine e_iload_n C dX6_areVersions_28 rfl ?_
      refine e_aload_n C dX6_areVersions_29 rfl ?_
      refine e_getI C f_X6_135 sh_153 dX6_areVersions_30 ?_
      rw [h17]
      refine e_icmp_ge C (tgt := 93) dX6_areVersions_33 (by decide) (by omega) (by omega) (fun h_33 => by exfalso; omega) (fun h_33 => ?_)
      refine e_aload_n C dX6_areVersions_36 rfl ?_
      refine e_getR C f_X6_57 sh_153 (hWN 153 18 166 rfl) dX6_areVersions_37 ?_
      refine e_iload_n C dX6_areVersions_40 rfl ?_
      refine e_aload_n C dX6_areVersions_41 rfl ?_
      refine e_getR C f_X6_47 sh_153 (hWN 153 14 163 rfl) dX6_areVersions_42 ?_
      refine e_bipush C dX6_areVersions_45 ?_
      refine e_iload_n C dX6_areVersions_47 rfl ?_
      refine e_imul C dX6_areVersions_48 ?_
      refine e_iload_n C dX6_areVersions_49 rfl ?_
      refine e_iadd C dX6_areVersions_50 ?_
      refine e_iaload C dX6_areVersions_51 sh_163 (16 * a + b) (by omega) (by omega) ?_
      rw [e163]
      refine e_iastore C dX6_areVersions_52 sh_166 _ rfl (by omega) ?_
      refine e_aload_n C dX6_areVersions_53 rfl ?_
      refine e_getR C f_X6_60 sh_153 (hWN 153 19 167 rfl) dX6_areVersions_54 ?_
      refine e_iload_n C dX6_areVersions_57 rfl ?_
      refine e_aload_n C dX6_areVersions_58 rfl ?_
      refine e_getR C f_X6_50 sh_153 (hWN 153 15 164 rfl) dX6_areVersions_59 ?_
      refine e_bipush C dX6_areVersions_62 ?_
      refine e_iload_n C dX6_areVersions_64 rfl ?_
      refine e_imul C dX6_areVersions_65 ?_
      refine e_iload_n C dX6_areVersions_66 rfl ?_
      refine e_iadd C dX6_areVersions_67 ?_
      refine e_iaload C dX6_areVersions_68 sh_164 (16 * a + b) (by omega) (by omega) ?_
      rw [stI_rowN _ _ _ (by decide), e164]
      refine e_iastore C dX6_areVersions_69 sh_167 _ rfl (by omega) ?_
      refine e_aload_n C dX6_areVersions_70 rfl ?_
      refine e_getR C f_X6_63 sh_153 (hWN 153 20 168 rfl) dX6_areVersions_71 ?_
      refine e_iload_n C dX6_areVersions_74 rfl ?_
      refine e_aload_n C dX6_areVersions_75 rfl ?_
      refine e_getR C f_X6_44 sh_153 (hWN 153 13 162 rfl) dX6_areVersions_76 ?_
      refine e_bipush C dX6_areVersions_79 ?_
      refine e_iload_n C dX6_areVersions_81 rfl ?_
      refine e_imul C dX6_areVersions_82 ?_
      refine e_iload_n C dX6_areVersions_83 rfl ?_
      refine e_iadd C dX6_areVersions_84 ?_
      refine e_iaload C dX6_areVersions_85 sh_162 (16 * a + b) (by omega) (by omega) ?_
      rw [stI_rowN _ _ _ (by decide), stI_rowN _ _ _ (by decide), e162]
      refine e_iastore C dX6_areVersions_86 sh_168 _ rfl (by omega) ?_
      refine e_iinc C dX6_areVersions_87 rfl ?_
      refine e_goto C (tgt := 28) dX6_areVersions_90 (by decide) ?_
      rw [show ((b : Int) + 1) = ((b + 1 : Nat) : Int) by omega]
      refine ih _ ⟨frD_tr hf (frD_tr (frD_tr (frD_st (fun z => by unfold oTp at z; omega)) (frD_st (fun z => by unfold oTp at z; omega))) (frD_st (fun z => by unfold oTp at z; omega))), by rw [stI_n _ _ (by omega), stI_n _ _ (by omega), stI_n _ _ (by omega)]; exact h17, fun i hib => ?_⟩
      rw [stI_rowN _ _ _ (by decide), stI_rowN _ _ _ (by decide), stI_row, stI_rowN _ _ _ (by decide), stI_row, stI_rowN _ _ _ (by decide), stI_row, stI_rowN _ _ _ (by decide), stI_rowN _ _ _ (by decide)]
      by_cases z : i = b
      · subst z; rw [up_s, up_s, up_s]; exact ⟨rfl, rfl, rfl⟩
      · rw [up_n z, up_n z, up_n z]; exact hi i (by omega)
  show pE g 4 X _ SH M 0 0 0 [some (.inr (.inr 153)), some (.inl (a : Int)), some (.inl (e : Int)), none] []
  refine e_aload_n C dX6_areVersions_0 rfl ?_
  refine e_aload_n C dX6_areVersions_1 rfl ?_
  refine e_getR C f_X6_41 sh_153 (hW 153 12 161 rfl) dX6_areVersions_2 ?_
  refine e_iload_n C dX6_areVersions_5 rfl ?_
  refine e_iaload C dX6_areVersions_6 sh_161 _ rfl (by omega) ?_
  rw [m1]
  refine e_bipush C dX6_areVersions_7 ?_
  refine e_icmp_ge C (tgt := 21) dX6_areVersions_9 (by decide) (by omega) (by omega) (fun h_9 => ?_) (fun h_9 => ?_)
  · have hne : (8 : Int) = (nb : Int) := by rw [hnb]; split <;> omega
    refine e_bipush C dX6_areVersions_21 ?_
    refine e_putI C f_X6_135 sh_153 (hd := dX6_areVersions_23) (hfin := (fun CC T h => by obtain ⟨h1, -⟩ := h; cases h1; rfl)) ?_
    refine e_iconst C dX6_areVersions_26 ?_
    refine e_istore_n C dX6_areVersions_27 ?_
    rw [hne]
    exact lp 0 _ (by omega) ⟨frD_st (fun z => by unfold oTp at z; omega), stI_s _ _ _ _, fun i hi => by omega⟩
  · have hne : ((nsD M a : Nat) : Int) = (nb : Int) := by rw [hnb]; split <;> omega
    refine e_aload_n C dX6_areVersions_12 rfl ?_
    refine e_getR C f_X6_41 sh_153 (hW 153 12 161 rfl) dX6_areVersions_13 ?_
    refine e_iload_n C dX6_areVersions_16 rfl ?_
    refine e_iaload C dX6_areVersions_17 sh_161 _ rfl (by omega) ?_
    rw [m1]
    refine e_goto C (tgt := 23) dX6_areVersions_18 (by decide) ?_
    refine e_putI C f_X6_135 sh_153 (hd := dX6_areVersions_23) (hfin := (fun CC T h => by obtain ⟨h1, -⟩ := h; cases h1; rfl)) ?_
    refine e_iconst C dX6_areVersions_26 ?_
    refine e_istore_n C dX6_areVersions_27 ?_
    rw [hne]
    exact lp 0 _ (by omega) ⟨frD_st (fun z => by unfold oTp at z; omega), stI_s _ _ _ _, fun i hi => by omega⟩
def vsQ (w : pWt) (G : pPg) (T : Nat → Int) (hb : Int) (i j : Nat) (wt r : Int) : Prop := ∃ tot n Z tot2 m Y, isKd G T (i : Int) tot n Z ∧ isKd G T (j : Int) tot2 m Y ∧ (wt = 1 → r = apS Z n Y m) ∧ (wt = 0 → ∃ K, isKey w (if 8 < n then 8 else n) m (bB Z) Y K ∧ r = if K / 341812114609 ≤ hb then 1 else 0)
theorem c_versionsD {g : pG} {M : pMem}  {a : Int} {b : Int} {w : Int} (hi_a : -2147483648 ≤ a ∧ a < 2147483648) (hi_b : -2147483648 ≤ b ∧ b < 2147483648) (hi_w : -2147483648 ≤ w ∧ w < 2147483648) (hJ : JD M) : pCn g 6 0 0 yX6_versions cX6_versions 6 (some .int) SH SH M [.inr (.inr 153), .inl a, .inl b, .inl w] (fun r M' => (((hasQ (mI M 158) a ∧ hasQ (mI M 158) b) ∧ a ≠ b ∧ 0 ≤ w ∧ w ≤ 1) → ∃ v : Int, r = some (.inl v) ∧ vsQ (wtD M) (pgD M) (mI M 158) (mI M 153 9) (if a < b then a else b).toNat (if a < b then b else a).toNat w v) ∧ (¬ ((hasQ (mI M 158) a ∧ hasQ (mI M 158) b) ∧ a ≠ b ∧ 0 ≤ w ∧ w ≤ 1) → r = some (.inl (-1))) ∧ frD oQ M M' ∧ JD M') := by
  refine pCn_intro mt_X6_versions (fun X C => ?_)
  have hW := hJ.1
  show pE g 6 X _ SH M 0 0 0 [some (.inr (.inr 153)), some (.inl a), some (.inl b), some (.inl w), none, none] []
  refine e_aload_n C dX6_versions_0 rfl ?_
  refine e_iload_n C dX6_versions_1 rfl ?_
  refine e_callV C (c_isKindD (M := M) hi_a hJ) mt_X6_isKind s_X6_168 dX6_versions_2 6 sh_153 rfl (fun ra Ma hqa => ?_)
  obtain ⟨rfl, ka1, ka2⟩ := hqa
  dsimp only [Option.toList_some, List.singleton_append]
  refine e_if_eq C (tgt := 30) dX6_versions_5 (by decide) (by split <;> omega) (fun h_5 => ?_) (fun h_5 => ?_)
  · have hall : ¬ ((hasQ (mI M 158) a ∧ hasQ (mI M 158) b) ∧ a ≠ b ∧ 0 ≤ w ∧ w ≤ 1) := fun z => ite0.mp h_5 z.1.1
    refine e_iconst C dX6_versions_30 ?_
    first | exact e_ireturn C dX6_versions_31 ⟨fun z => absurd z hall, fun _ => rfl, ka1, ka2.1⟩ | exact e_ireturn C dX6_versions_31 ⟨fun z => absurd z hall, fun _ => rfl, hfb, kb2.1⟩
  · have hka := ite1.mp h_5
    refine e_aload_n C dX6_versions_8 rfl ?_
    refine e_iload_n C dX6_versions_9 rfl ?_
    refine e_callV C (c_isKindD (M := Ma) hi_b ka2.1) mt_X6_isKind s_X6_168 dX6_versions_10 6 sh_153 rfl (fun rb Mb hqb => ?_)
    obtain ⟨rfl, kb1, kb2⟩ := hqb
    dsimp only [Option.toList_some, List.singleton_append]
    rw [oQ_T ka1]
    have hfb := frD_tr ka1 kb1
    refine e_if_eq C (tgt := 30) dX6_versions_13 (by decide) (by split <;> omega) (fun h_13 => ?_) (fun h_13 => ?_)
    · have hall : ¬ ((hasQ (mI M 158) a ∧ hasQ (mI M 158) b) ∧ a ≠ b ∧ 0 ≤ w ∧ w ≤ 1) := fun z => ite0.mp h_13 z.1.2
      refine e_iconst C dX6_versions_30 ?_
      first | exact e_ireturn C dX6_versions_31 ⟨fun z => absurd z hall, fun _ => rfl, ka1, ka2.1⟩ | exact e_ireturn C dX6_versions_31 ⟨fun z => absurd z hall, fun _ => rfl, hfb, kb2.1⟩
    · have hkb := ite1.mp h_13
      refine e_iload_n C dX6_versions_16 rfl ?_
      refine e_iload_n C dX6_versions_17 rfl ?_
      refine e_icmp_eq C (tgt := 30) dX6_versions_18 (by decide) (by omega) (by omega) (fun h_18 => ?_) (fun h_18 => ?_)
      · have hall : ¬ ((hasQ (mI M 158) a ∧ hasQ (mI M 158) b) ∧ a ≠ b ∧ 0 ≤ w ∧ w ≤ 1) := fun z => z.2.1 h_18
        refine e_iconst C dX6_versions_30 ?_
        first | exact e_ireturn C dX6_versions_31 ⟨fun z => absurd z hall, fun _ => rfl, ka1, ka2.1⟩ | exact e_ireturn C dX6_versions_31 ⟨fun z => absurd z hall, fun _ => rfl, hfb, kb2.1⟩
      · refine e_iload_n C dX6_versions_21 rfl ?_
        refine e_iconst C dX6_versions_22 ?_
        refine e_iconst C dX6_versions_23 ?_
        refine e_callS C (c_in (M := Mb) (v := w) (a := 0) (b := 1) hi_w (by omega) (by omega)) mt_X6_in s_X6_102 dX6_versions_24 (fun ri Mi hqi => ?_)
        obtain ⟨rfl, hMi⟩ := hqi
        subst Mi
        dsimp only [Option.toList_some, List.singleton_append]
        refine e_if_ne C (tgt := 32) dX6_versions_27 (by decide) (by split <;> omega) (fun h_27 => ?_) (fun h_27 => ?_)
        · have hw2 := ite1.mp h_27
          have hall : ((hasQ (mI M 158) a ∧ hasQ (mI M 158) b) ∧ a ≠ b ∧ 0 ≤ w ∧ w ≤ 1) := ⟨⟨hka, hkb⟩, h_18, hw2⟩
          obtain ⟨ia, rfl, hia, -⟩ := hasQ_n hka
          obtain ⟨ib, rfl, hib, -⟩ := hasQ_n hkb
          have hkia := (made_kd kb2 hia).2.2.2
          have hkib := (made_kd kb2 hib).2.2.2
          rw [oQ_pg hfb, oQ_T hfb] at hkia hkib
          by_cases hab : (ia : Int) < (ib : Int)
          · skip
            refine e_iload_n C dX6_versions_32 rfl ?_
            refine e_iload_n C dX6_versions_33 rfl ?_
            refine e_icmp_ge C (tgt := 41) dX6_versions_34 (by decide) (by omega) (by omega) (fun h_34 => by exfalso; omega) (fun h_34 => ?_)
            refine e_iload_n C dX6_versions_37 rfl ?_
            refine e_goto C (tgt := 42) dX6_versions_38 (by decide) ?_
            refine e_istore C dX6_versions_42 ?_
            refine e_iload_n C dX6_versions_44 rfl ?_
            refine e_iload_n C dX6_versions_45 rfl ?_
            refine e_icmp_ge C (tgt := 53) dX6_versions_46 (by decide) (by omega) (by omega) (fun h_46 => by exfalso; omega) (fun h_46 => ?_)
            refine e_iload_n C dX6_versions_49 rfl ?_
            refine e_goto C (tgt := 54) dX6_versions_50 (by decide) ?_
            refine e_istore C dX6_versions_54 ?_
            refine e_iload_n C dX6_versions_56 rfl ?_
            refine e_iconst C dX6_versions_57 ?_
            refine e_icmp_ne C (tgt := 72) dX6_versions_58 (by decide) (by omega) (by omega) (fun h_58 => ?_) (fun h_58 => ?_)
            · skip
              refine e_aload_n C dX6_versions_72 rfl ?_
              refine e_iload C dX6_versions_73 rfl ?_
              refine e_iload C dX6_versions_75 rfl ?_
              refine e_callV C (c_areVersions (M := Mb) (a := ia) (e := ib) kb2 hia hib) mt_X6_areVersions s_X6_213 dX6_versions_77 6 sh_153 rfl (fun rv Mv hqv => ?_)
              obtain ⟨K, hK, rfl, v1, v2⟩ := hqv
              dsimp only [Option.toList_some, List.singleton_append]
              refine e_if_eq C (tgt := 87) dX6_versions_80 (by decide) (by split <;> omega) (fun h_80 => ?_) (fun h_80 => ?_)
              · have hv0 := ite0.mp h_80
                refine e_iconst C dX6_versions_87 ?_
                first
                  | exact e_ireturn C dX6_versions_88 ⟨fun _ => ⟨_, rfl, by
                      rw [if_pos hab, if_pos hab, Int.toNat_natCast, Int.toNat_natCast]
                      refine ⟨_, _, _, _, _, _, hkia, hkib, fun _ => rfl, fun z => by omega⟩⟩, fun z => absurd hall z, hfb, kb2.1⟩
                  | exact e_ireturn C dX6_versions_88 ⟨fun _ => ⟨_, rfl, by
                      rw [if_pos hab, if_pos hab, Int.toNat_natCast, Int.toNat_natCast]
                      refine ⟨_, _, _, _, _, _, hkia, hkib, fun z => by omega, fun _ => ⟨K, by rw [← oQ_wt hfb]; exact hK, ?_⟩⟩
                      rw [← hfb.1 153 9 (by unfold oQ; omega)]
                      first | rw [if_pos hv0] | rw [if_neg hv0]⟩, fun z => absurd hall z, frD_tr hfb v1, v2⟩
              · have hv0 := ite1.mp h_80
                refine e_iconst C dX6_versions_83 ?_
                refine e_goto C (tgt := 88) dX6_versions_84 (by decide) ?_
                first
                  | exact e_ireturn C dX6_versions_88 ⟨fun _ => ⟨_, rfl, by
                      rw [if_pos hab, if_pos hab, Int.toNat_natCast, Int.toNat_natCast]
                      refine ⟨_, _, _, _, _, _, hkia, hkib, fun _ => rfl, fun z => by omega⟩⟩, fun z => absurd hall z, hfb, kb2.1⟩
                  | exact e_ireturn C dX6_versions_88 ⟨fun _ => ⟨_, rfl, by
                      rw [if_pos hab, if_pos hab, Int.toNat_natCast, Int.toNat_natCast]
                      refine ⟨_, _, _, _, _, _, hkia, hkib, fun z => by omega, fun _ => ⟨K, by rw [← oQ_wt hfb]; exact hK, ?_⟩⟩
                      rw [← hfb.1 153 9 (by unfold oQ; omega)]
                      first | rw [if_pos hv0] | rw [if_neg hv0]⟩, fun z => absurd hall z, frD_tr hfb v1, v2⟩
            · skip
              refine e_aload_n C dX6_versions_61 rfl ?_
              refine e_iload C dX6_versions_62 rfl ?_
              refine e_iload C dX6_versions_64 rfl ?_
              refine e_callV C (c_toldBy (M := Mb) (a := ia) (e := ib) kb2 hia hib) mt_X6_toldBy s_X6_210 dX6_versions_66 6 sh_153 rfl (fun rt Mt hqt => ?_)
              obtain ⟨rfl, hMt⟩ := hqt
              subst Mt
              dsimp only [Option.toList_some, List.singleton_append]
              refine e_goto C (tgt := 88) dX6_versions_69 (by decide) ?_
              first
                | exact e_ireturn C dX6_versions_88 ⟨fun _ => ⟨_, rfl, by
                    rw [if_pos hab, if_pos hab, Int.toNat_natCast, Int.toNat_natCast]
                    refine ⟨_, _, _, _, _, _, hkia, hkib, fun _ => rfl, fun z => by omega⟩⟩, fun z => absurd hall z, hfb, kb2.1⟩
                | exact e_ireturn C dX6_versions_88 ⟨fun _ => ⟨_, rfl, by
                    rw [if_pos hab, if_pos hab, Int.toNat_natCast, Int.toNat_natCast]
                    refine ⟨_, _, _, _, _, _, hkia, hkib, fun z => by omega, fun _ => ⟨K, by rw [← oQ_wt hfb]; exact hK, ?_⟩⟩
                    rw [← hfb.1 153 9 (by unfold oQ; omega)]
                    first | rw [if_pos hv0] | rw [if_neg hv0]⟩, fun z => absurd hall z, frD_tr hfb v1, v2⟩
          · skip
            refine e_iload_n C dX6_versions_32 rfl ?_
            refine e_iload_n C dX6_versions_33 rfl ?_
            refine e_icmp_ge C (tgt := 41) dX6_versions_34 (by decide) (by omega) (by omega) (fun h_34 => ?_) (fun h_34 => by exfalso; omega)
            refine e_iload_n C dX6_versions_41 rfl ?_
            refine e_istore C dX6_versions_42 ?_
            refine e_iload_n C dX6_versions_44 rfl ?_
            refine e_iload_n C dX6_versions_45 rfl ?_
            refine e_icmp_ge C (tgt := 53) dX6_versions_46 (by decide) (by omega) (by omega) (fun h_46 => ?_) (fun h_46 => by exfalso; omega)
            refine e_iload_n C dX6_versions_53 rfl ?_
            refine e_istore C dX6_versions_54 ?_
            refine e_iload_n C dX6_versions_56 rfl ?_
            refine e_iconst C dX6_versions_57 ?_
            refine e_icmp_ne C (tgt := 72) dX6_versions_58 (by decide) (by omega) (by omega) (fun h_58 => ?_) (fun h_58 => ?_)
            · skip
              refine e_aload_n C dX6_versions_72 rfl ?_
              refine e_iload C dX6_versions_73 rfl ?_
              refine e_iload C dX6_versions_75 rfl ?_
              refine e_callV C (c_areVersions (M := Mb) (a := ib) (e := ia) kb2 hib hia) mt_X6_areVersions s_X6_213 dX6_versions_77 6 sh_153 rfl (fun rv Mv hqv => ?_)
              obtain ⟨K, hK, rfl, v1, v2⟩ := hqv
              dsimp only [Option.toList_some, List.singleton_append]
              refine e_if_eq C (tgt := 87) dX6_versions_80 (by decide) (by split <;> omega) (fun h_80 => ?_) (fun h_80 => ?_)
              · have hv0 := ite0.mp h_80
                refine e_iconst C dX6_versions_87 ?_
                first
                  | exact e_ireturn C dX6_versions_88 ⟨fun _ => ⟨_, rfl, by
                      rw [if_neg hab, if_neg hab, Int.toNat_natCast, Int.toNat_natCast]
                      refine ⟨_, _, _, _, _, _, hkib, hkia, fun _ => rfl, fun z => by omega⟩⟩, fun z => absurd hall z, hfb, kb2.1⟩
                  | exact e_ireturn C dX6_versions_88 ⟨fun _ => ⟨_, rfl, by
                      rw [if_neg hab, if_neg hab, Int.toNat_natCast, Int.toNat_natCast]
                      refine ⟨_, _, _, _, _, _, hkib, hkia, fun z => by omega, fun _ => ⟨K, by rw [← oQ_wt hfb]; exact hK, ?_⟩⟩
                      rw [← hfb.1 153 9 (by unfold oQ; omega)]
                      first | rw [if_pos hv0] | rw [if_neg hv0]⟩, fun z => absurd hall z, frD_tr hfb v1, v2⟩
              · have hv0 := ite1.mp h_80
                refine e_iconst C dX6_versions_83 ?_
                refine e_goto C (tgt := 88) dX6_versions_84 (by decide) ?_
                first
                  | exact e_ireturn C dX6_versions_88 ⟨fun _ => ⟨_, rfl, by
                      rw [if_neg hab, if_neg hab, Int.toNat_natCast, Int.toNat_natCast]
                      refine ⟨_, _, _, _, _, _, hkib, hkia, fun _ => rfl, fun z => by omega⟩⟩, fun z => absurd hall z, hfb, kb2.1⟩
                  | exact e_ireturn C dX6_versions_88 ⟨fun _ => ⟨_, rfl, by
                      rw [if_neg hab, if_neg hab, Int.toNat_natCast, Int.toNat_natCast]
                      refine ⟨_, _, _, _, _, _, hkib, hkia, fun z => by omega, fun _ => ⟨K, by rw [← oQ_wt hfb]; exact hK, ?_⟩⟩
                      rw [← hfb.1 153 9 (by unfold oQ; omega)]
                      first | rw [if_pos hv0] | rw [if_neg hv0]⟩, fun z => absurd hall z, frD_tr hfb v1, v2⟩
            · skip
              refine e_aload_n C dX6_versions_61 rfl ?_
              refine e_iload C dX6_versions_62 rfl ?_
              refine e_iload C dX6_versions_64 rfl ?_
              refine e_callV C (c_toldBy (M := Mb) (a := ib) (e := ia) kb2 hib hia) mt_X6_toldBy s_X6_210 dX6_versions_66 6 sh_153 rfl (fun rt Mt hqt => ?_)
              obtain ⟨rfl, hMt⟩ := hqt
              subst Mt
              dsimp only [Option.toList_some, List.singleton_append]
              refine e_goto C (tgt := 88) dX6_versions_69 (by decide) ?_
              first
                | exact e_ireturn C dX6_versions_88 ⟨fun _ => ⟨_, rfl, by
                    rw [if_neg hab, if_neg hab, Int.toNat_natCast, Int.toNat_natCast]
                    refine ⟨_, _, _, _, _, _, hkib, hkia, fun _ => rfl, fun z => by omega⟩⟩, fun z => absurd hall z, hfb, kb2.1⟩
                | exact e_ireturn C dX6_versions_88 ⟨fun _ => ⟨_, rfl, by
                    rw [if_neg hab, if_neg hab, Int.toNat_natCast, Int.toNat_natCast]
                    refine ⟨_, _, _, _, _, _, hkib, hkia, fun z => by omega, fun _ => ⟨K, by rw [← oQ_wt hfb]; exact hK, ?_⟩⟩
                    rw [← hfb.1 153 9 (by unfold oQ; omega)]
                    first | rw [if_pos hv0] | rw [if_neg hv0]⟩, fun z => absurd hall z, frD_tr hfb v1, v2⟩
        · have hall : ¬ ((hasQ (mI M 158) a ∧ hasQ (mI M 158) b) ∧ a ≠ b ∧ 0 ≤ w ∧ w ≤ 1) := fun z => h_27 (ite1.mpr z.2.2)
          refine e_iconst C dX6_versions_30 ?_
          first | exact e_ireturn C dX6_versions_31 ⟨fun z => absurd z hall, fun _ => rfl, ka1, ka2.1⟩ | exact e_ireturn C dX6_versions_31 ⟨fun z => absurd z hall, fun _ => rfl, hfb, kb2.1⟩
