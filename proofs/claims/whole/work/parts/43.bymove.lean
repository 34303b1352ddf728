theorem c_byMove {g : pG} {M : pMem} {nb ns q : Nat} (hW : pW M) (hnb : mI M 153 17 = (nb : Int)) (hns : mI M 153 21 = (ns : Int)) (h8 : nb ≤ 8) (h16 : ns ≤ 16) (hw : wtOk (wtD M)) (hbx : bxOk nb (bxD M)) (hsp : spOk ns (spD M)) (hq : q < 49) (hF : ∀ b, b < nb → -2 ≤ mI M 174 b ∧ mI M 174 b < (ns : Int)) (hFi : ∀ a b, a < nb → b < nb → mI M 174 a = mI M 174 b → 0 ≤ mI M 174 a → a = b) : pCn g 3 0 0 yX6_byMove cX6_byMove 11 (some .int) SH SH M [.inr (.inr 153), .inl (dxo q), .inl (dyo q)] (fun r M' => ∃ (v : Int) (f : Nat → Int), r = some (.inl v) ∧ M' = wrI M 173 f ∧ bmK (wtD M) nb ns (bxD M) (spD M) q (mI M 174) v ∧ 0 ≤ v ∧ v ≤ 2000000) := by
  refine pCn_intro mt_X6_byMove (fun X C => ?_)
  have hA8 : 2 ^ nb ≤ 256 := Nat.pow_le_pow_right (n := 2) (j := 8) (by decide) h8
  have hA1 : 0 < 2 ^ nb := Nat.pow_pos (by decide)
  have hw2 := hw
  unfold wtOk wtD at hw2
  dsimp only at hw2
  have hdx := dxo_r hq
  have hdy := dyo_r hq
  have hmv := mvc_r hw hq
  have hex : 0 ≤ mI M 159 4 ∧ mI M 159 4 ≤ 99 := hw2.2.2.2.2
  have hxr : ∀ x : Nat, 0 ≤ exV (mI M 159 4) nb x ∧ exV (mI M 159 4) nb x ≤ 792 := fun x => by
    refine ⟨sg_nonneg (fun b _ => by split <;> omega), ?_⟩
    have := sg_ub (f := fun b => if x.testBit b = true then 0 else mI M 159 4) (b := 99) (n := nb) (fun b _ => by split <;> omega)
    unfold exV
    omega
  have l3 : ∀ f : Nat → Int, dpR (ly (wtD M) (bxD M) (spD M) q) (msv (wtD M) (spD M)) nb ns (mI M 174) ns (fun x => f (256 * ns + x)) → (∀ x, x < 2 ^ nb → 0 ≤ f (256 * ns + x) ∧ f (256 * ns + x) ≤ 1002000) → ∀ (t : Nat) (s : Int × Unit), t ≤ (2 ^ nb) → ((s.1 = 1000000 ∨ ∃ x, x < t ∧ s.1 = f (256 * ns + x) + exV (mI M 159 4) nb x) ∧ (∀ x, x < t → s.1 ≤ f (256 * ns + x) + exV (mI M 159 4) nb x) ∧ 0 ≤ s.1 ∧ s.1 ≤ 1000000) → pE g 11 X (pMQ g SH (fun r M' => ∃ (v : Int) (f : Nat → Int), r = some (.inl v) ∧ M' = wrI M 173 f ∧ bmK (wtD M) nb ns (bxD M) (spD M) q (mI M 174) v ∧ 0 ≤ v ∧ v ≤ 2000000) X 0 0) SH (wrI M 173 f) 0 0 353 [some (.inr (.inr 153)), some (.inl (dxo q)), some (.inl (dyo q)), some (.inl ((2 ^ nb : Nat) : Int)), some (.inl s.1), some (.inl (t : Int)), none, none, none, none, none] [] := by
    intro f hdp hfr
    refine p_for ((2 ^ nb)) _ _ ?_ ?_
    · rintro ⟨s1, u⟩ ⟨i1, i2, hr1, hr2⟩
      refine e_iload C dX6_byMove_353 rfl ?_
      refine e_iload_n C dX6_byMove_355 rfl ?_
      refine e_icmp_ge C (tgt := 442) dX6_byMove_356 (by decide) (by omega) (by omega) (fun h_356 => ?_) (fun h_356 => by exfalso; omega)
      refine e_iload C dX6_byMove_442 rfl ?_
      refine e_aload_n C dX6_byMove_444 rfl ?_
      refine e_getR C f_X6_25 sh_153 (hW 153 6 159 rfl) dX6_byMove_445 ?_
      refine e_iconst C dX6_byMove_448 ?_
      refine e_iaload C dX6_byMove_449 sh_159 0 rfl (by decide) ?_
      refine e_iload_n C dX6_byMove_450 rfl ?_
      refine e_iconst C dX6_byMove_451 ?_
      refine e_callS C (c_apart (u := dxo q) (v := 0) (by omega) (by omega)) mt_X6_apart s_X6_132 dX6_byMove_452 (fun ra Ma hqa => ?_)
      obtain ⟨rfl, hMa⟩ := hqa
      subst Ma
      dsimp only [Option.toList_some, List.singleton_append]
      refine e_iload_n C dX6_byMove_455 rfl ?_
      refine e_iconst C dX6_byMove_456 ?_
      refine e_callS C (c_apart (u := dyo q) (v := 0) (by omega) (by omega)) mt_X6_apart s_X6_132 dX6_byMove_457 (fun rb Mb hqb => ?_)
      obtain ⟨rfl, hMb⟩ := hqb
      subst Mb
      dsimp only [Option.toList_some, List.singleton_append]
      refine e_iadd C dX6_byMove_460 ?_
      refine e_imul C dX6_byMove_461 ?_
      refine e_iadd C dX6_byMove_462 ?_
      exact e_ireturn C dX6_byMove_463 ⟨s1 + mvc (wtD M) q, f, by unfold mvc wtD; dsimp only; rw [Int.sub_zero, Int.sub_zero]; rfl, rfl, bmK_of hmv.1 (dp_fin (row := fun x => f (256 * ns + x)) (fun b hb => (hF b hb).2) hex.1 hdp (fun x hx => i2 x hx) i1), by omega, by omega⟩
    · rintro t ⟨s1, u⟩ hi ⟨i1, i2, hr1, hr2⟩ ih
      have hft := hfr t hi
      refine e_iload C dX6_byMove_353 rfl ?_
      refine e_iload_n C dX6_byMove_355 rfl ?_
      refine e_icmp_ge C (tgt := 442) dX6_byMove_356 (by decide) (by omega) (by omega) (fun h_356 => by exfalso; omega) (fun h_356 => ?_)
      refine e_aload_n C dX6_byMove_359 rfl ?_
      refine e_getR C f_X6_78 sh_153 (hW 153 26 173 rfl) dX6_byMove_360 ?_
      refine e_sipush C dX6_byMove_363 ?_
      refine e_aload_n C dX6_byMove_366 rfl ?_
      refine e_getI C f_X6_139 sh_153 dX6_byMove_367 ?_
      rw [show mI (wrI M 173 f) 153 21 = mI M 153 21 from rfl, hns]
      refine e_imul C dX6_byMove_370 ?_
      refine e_iload C dX6_byMove_371 rfl ?_
      refine e_iadd C dX6_byMove_373 ?_
      refine e_iaload C dX6_byMove_374 sh_173 (256 * ns + t) (by omega) (by omega) ?_
      rw [wrI_s]
      refine e_istore C dX6_byMove_375 ?_
      refine e_iconst C dX6_byMove_377 ?_
      refine e_istore C dX6_byMove_378 ?_
      have li : ∀ (i : Nat) (u : Unit), i ≤ nb → True → pE g 11 X (pMQ g SH (fun r M' => ∃ (v : Int) (f : Nat → Int), r = some (.inl v) ∧ M' = wrI M 173 f ∧ bmK (wtD M) nb ns (bxD M) (spD M) q (mI M 174) v ∧ 0 ≤ v ∧ v ≤ 2000000) X 0 0) SH (wrI M 173 f) 0 0 380 [some (.inr (.inr 153)), some (.inl (dxo q)), some (.inl (dyo q)), some (.inl ((2 ^ nb : Nat) : Int)), some (.inl s1), some (.inl (t : Int)), some (.inl (f (256 * ns + t) + sg (fun b => if t.testBit b = true then 0 else (mI M 159 4)) i)), some (.inl (i : Int)), none, none, none] [] := by
        refine p_for (nb) _ _ ?_ ?_
        · rintro u hu
          refine e_iload C dX6_byMove_380 rfl ?_
          refine e_aload_n C dX6_byMove_382 rfl ?_
          refine e_getI C f_X6_135 sh_153 dX6_byMove_383 ?_
          rw [show mI (wrI M 173 f) 153 17 = mI M 153 17 from rfl, hnb]
          have hxt := hxr t
          have hsm : sg (fun b => if t.testBit b = true then 0 else (mI M 159 4)) nb = exV (mI M 159 4) nb t := rfl
          rw [hsm]
          refine e_icmp_ge C (tgt := 420) dX6_byMove_386 (by decide) (by omega) (by omega) (fun h_386 => ?_) (fun h_386 => by exfalso; omega)
          refine e_iload C dX6_byMove_420 rfl ?_
          refine e_iload C dX6_byMove_422 rfl ?_
          refine e_icmp_ge C (tgt := 432) dX6_byMove_424 (by decide) (by omega) (by omega) (fun h_424 => ?_) (fun h_424 => ?_)
          · have hI : ((s1 = 1000000 ∨ ∃ x, x < t + 1 ∧ s1 = f (256 * ns + x) + exV (mI M 159 4) nb x) ∧ (∀ x, x < t + 1 → s1 ≤ f (256 * ns + x) + exV (mI M 159 4) nb x) ∧ 0 ≤ s1 ∧ s1 ≤ 1000000) := by
              refine ⟨?_, fun x hx => ?_, hr1, hr2⟩
              · rcases i1 with z | ⟨x, hx, z⟩
                · exact Or.inl z
                · exact Or.inr ⟨x, by omega, z⟩
              · by_cases e : x = t
                · subst e; exact h_424
                · exact i2 x (by omega)
            refine e_iload C dX6_byMove_432 rfl ?_
            refine e_istore C dX6_byMove_434 ?_
            refine e_iinc C dX6_byMove_436 rfl ?_
            refine e_goto C (tgt := 353) dX6_byMove_439 (by decide) ?_
            refine pE_f 7 ?_
            refine pE_f 6 ?_
            rw [show ((t : Int) + 1) = ((t + 1 : Nat) : Int) by omega]
            exact ih (_, ()) hI
          · have hI : (((f (256 * ns + t) + exV (mI M 159 4) nb t) = 1000000 ∨ ∃ x, x < t + 1 ∧ (f (256 * ns + t) + exV (mI M 159 4) nb t) = f (256 * ns + x) + exV (mI M 159 4) nb x) ∧ (∀ x, x < t + 1 → (f (256 * ns + t) + exV (mI M 159 4) nb t) ≤ f (256 * ns + x) + exV (mI M 159 4) nb x) ∧ 0 ≤ (f (256 * ns + t) + exV (mI M 159 4) nb t) ∧ (f (256 * ns + t) + exV (mI M 159 4) nb t) ≤ 1000000) := by
              refine ⟨Or.inr ⟨t, by omega, rfl⟩, fun x hx => ?_, by omega, by omega⟩
              by_cases e : x = t
              · subst e; exact Int.le_refl _
              · have := i2 x (by omega)
                have h9 : (f (256 * ns + t) + exV (mI M 159 4) nb t) < s1 := Int.lt_of_not_ge h_424
                exact Int.le_trans (Int.le_of_lt h9) this
            refine e_iload C dX6_byMove_427 rfl ?_
            refine e_goto C (tgt := 434) dX6_byMove_429 (by decide) ?_
            refine e_istore C dX6_byMove_434 ?_
            refine e_iinc C dX6_byMove_436 rfl ?_
            refine e_goto C (tgt := 353) dX6_byMove_439 (by decide) ?_
            refine pE_f 7 ?_
            refine pE_f 6 ?_
            rw [show ((t : Int) + 1) = ((t + 1 : Nat) : Int) by omega]
            exact ih (_, ()) hI
        · rintro i u hi hu ih2
          refine e_iload C dX6_byMove_380 rfl ?_
          refine e_aload_n C dX6_byMove_382 rfl ?_
          refine e_getI C f_X6_135 sh_153 dX6_byMove_383 ?_
          rw [show mI (wrI M 173 f) 153 17 = mI M 153 17 from rfl, hnb]
          refine e_icmp_ge C (tgt := 420) dX6_byMove_386 (by decide) (by omega) (by omega) (fun h_386 => by exfalso; omega) (fun h_386 => ?_)
          refine e_iload C dX6_byMove_389 rfl ?_
          refine e_iload C dX6_byMove_391 rfl ?_
          refine e_iload C dX6_byMove_393 rfl ?_
          refine e_ishr C (a := t) (b := i) dX6_byMove_395 (by omega) (by omega) ?_
          refine e_iconst C dX6_byMove_396 ?_
          refine e_iand C (a := t / 2 ^ i) (b := 1) dX6_byMove_397 ?_
          refine e_if_ne C (tgt := 410) dX6_byMove_398 (by decide) (by have := bit_le t i; omega) (fun h_398 => ?_) (fun h_398 => ?_)
          · have hb : t.testBit i = true := (bit_1 t i).mp (by have := bit_le t i; omega)
            have hsm : sg (fun b => if t.testBit b = true then 0 else (mI M 159 4)) (i + 1) = sg (fun b => if t.testBit b = true then 0 else (mI M 159 4)) i + 0 := by simp only [sg]; rw [if_pos hb]
            refine e_iconst C dX6_byMove_410 ?_
            refine e_iadd C dX6_byMove_411 ?_
            refine e_istore C dX6_byMove_412 ?_
            refine e_iinc C dX6_byMove_414 rfl ?_
            refine e_goto C (tgt := 380) dX6_byMove_417 (by decide) ?_
            rw [show ((i : Int) + 1) = ((i + 1 : Nat) : Int) by omega, Int.add_assoc]
            refine pE_to (ih2 () trivial) rfl ?_ rfl
            rw [hsm]
            rfl
          · have hb : ¬ t.testBit i = true := fun z => by have := (bit_1 t i).mpr z; omega
            have hsm : sg (fun b => if t.testBit b = true then 0 else (mI M 159 4)) (i + 1) = sg (fun b => if t.testBit b = true then 0 else (mI M 159 4)) i + mI M 159 4 := by simp only [sg]; rw [if_neg hb]
            refine e_aload_n C dX6_byMove_401 rfl ?_
            refine e_getR C f_X6_25 sh_153 (hW 153 6 159 rfl) dX6_byMove_402 ?_
            refine e_iconst C dX6_byMove_405 ?_
            refine e_iaload C dX6_byMove_406 sh_159 4 rfl (by decide) ?_
            refine e_goto C (tgt := 411) dX6_byMove_407 (by decide) ?_
            refine e_iadd C dX6_byMove_411 ?_
            refine e_istore C dX6_byMove_412 ?_
            refine e_iinc C dX6_byMove_414 rfl ?_
            refine e_goto C (tgt := 380) dX6_byMove_417 (by decide) ?_
            rw [show ((i : Int) + 1) = ((i + 1 : Nat) : Int) by omega, Int.add_assoc]
            refine pE_to (ih2 () trivial) rfl ?_ rfl
            rw [hsm]
            rfl
      refine pE_to (li 0 () (by omega) trivial) rfl ?_ rfl
      simp only [sg, Int.add_zero]
      rfl
  have l2 : ∀ (s : Nat) (f : Nat → Int), s ≤ ns → (dpR (ly (wtD M) (bxD M) (spD M) q) (msv (wtD M) (spD M)) nb ns (mI M 174) s (fun x => f (256 * s + x)) ∧ ∀ x, x < 2 ^ nb → 0 ≤ f (256 * s + x) ∧ f (256 * s + x) ≤ 1000000 + 99 * (s : Int)) → pE g 11 X (pMQ g SH (fun r M' => ∃ (v : Int) (f : Nat → Int), r = some (.inl v) ∧ M' = wrI M 173 f ∧ bmK (wtD M) nb ns (bxD M) (spD M) q (mI M 174) v ∧ 0 ≤ v ∧ v ≤ 2000000) X 0 0) SH (wrI M 173 f) 0 0 43 [some (.inr (.inr 153)), some (.inl (dxo q)), some (.inl (dyo q)), some (.inl ((2 ^ nb : Nat) : Int)), some (.inl (s : Int)), none, none, none, none, none, none] [] := by
    refine p_for (ns) _ _ ?_ ?_
    · rintro f ⟨hdp, hfr⟩
      refine e_iload C dX6_byMove_43 rfl ?_
      refine e_aload_n C dX6_byMove_45 rfl ?_
      refine e_getI C f_X6_139 sh_153 dX6_byMove_46 ?_
      rw [show mI (wrI M 173 f) 153 21 = mI M 153 21 from rfl, hns]
      refine e_icmp_ge C (tgt := 346) dX6_byMove_49 (by decide) (by omega) (by omega) (fun h_49 => ?_) (fun h_49 => by exfalso; omega)
      refine e_ldc C (1000000) k_X6_138 dX6_byMove_346 ?_
      refine e_istore C dX6_byMove_348 ?_
      refine e_iconst C dX6_byMove_350 ?_
      refine e_istore C dX6_byMove_351 ?_
      exact l3 f hdp (fun x hx => by have := hfr x hx; omega) 0 (1000000, ()) (by omega) ⟨Or.inl rfl, fun x hx => by omega, by decide, by decide⟩
    · rintro s f hs ⟨hdp, hfr⟩ ih
      have c79 : pE g 11 X (pMQ g SH (fun r M' => ∃ (v : Int) (f : Nat → Int), r = some (.inl v) ∧ M' = wrI M 173 f ∧ bmK (wtD M) nb ns (bxD M) (spD M) q (mI M 174) v ∧ 0 ≤ v ∧ v ≤ 2000000) X 0 0) SH (wrI M 173 f) 0 0 79 [some (.inr (.inr 153)), some (.inl (dxo q)), some (.inl (dyo q)), some (.inl ((2 ^ nb : Nat) : Int)), some (.inl (s : Int)), none, none, none, none, none, none] [.inl (msv (wtD M) (spD M) s)] := by
        refine e_istore C dX6_byMove_79 ?_
        refine e_iconst C dX6_byMove_81 ?_
        refine e_istore C dX6_byMove_82 ?_
        refine e_iconst C dX6_byMove_84 ?_
        refine e_istore C dX6_byMove_85 ?_
        have lw : ∀ (i : Nat) (u : Int), i ≤ nb → ((u = 1 ∧ dpW i (mI M 174) s) ∨ (u = 0 ∧ ¬ dpW i (mI M 174) s)) → pE g 11 X (pMQ g SH (fun r M' => ∃ (v : Int) (f : Nat → Int), r = some (.inl v) ∧ M' = wrI M 173 f ∧ bmK (wtD M) nb ns (bxD M) (spD M) q (mI M 174) v ∧ 0 ≤ v ∧ v ≤ 2000000) X 0 0) SH (wrI M 173 f) 0 0 87 [some (.inr (.inr 153)), some (.inl (dxo q)), some (.inl (dyo q)), some (.inl ((2 ^ nb : Nat) : Int)), some (.inl (s : Int)), some (.inl (msv (wtD M) (spD M) s)), some (.inl u), some (.inl (i : Int)), none, none, none] [] := by
          refine p_for (nb) _ _ ?_ ?_
          · rintro u hu
            refine e_iload C dX6_byMove_87 rfl ?_
            refine e_aload_n C dX6_byMove_89 rfl ?_
            refine e_getI C f_X6_135 sh_153 dX6_byMove_90 ?_
            rw [show mI (wrI M 173 f) 153 17 = mI M 153 17 from rfl, hnb]
            refine e_icmp_ge C (tgt := 126) dX6_byMove_93 (by decide) (by omega) (by omega) (fun h_93 => ?_) (fun h_93 => by exfalso; omega)
            refine e_iconst C dX6_byMove_126 ?_
            refine e_istore C dX6_byMove_127 ?_
            have lb : ∀ (b : Nat) (f2 : Nat → Int), b ≤ nb → ((∀ j, j < 256 * (s + 1) → f2 j = f j) ∧ dpI (ly (wtD M) (bxD M) (spD M) q) (msv (wtD M) (spD M)) nb (mI M 174) s b 0 (fun x => f (256 * s + x)) (fun x => f2 (256 * (s + 1) + x)) ∧ ∀ x, x < 2 ^ nb → 0 ≤ f2 (256 * (s + 1) + x) ∧ f2 (256 * (s + 1) + x) ≤ 1000000 + 99 * ((s : Int) + 1)) → pE g 11 X (pMQ g SH (fun r M' => ∃ (v : Int) (f : Nat → Int), r = some (.inl v) ∧ M' = wrI M 173 f ∧ bmK (wtD M) nb ns (bxD M) (spD M) q (mI M 174) v ∧ 0 ≤ v ∧ v ≤ 2000000) X 0 0) SH (wrI M 173 f2) 0 0 187 [some (.inr (.inr 153)), some (.inl (dxo q)), some (.inl (dyo q)), some (.inl ((2 ^ nb : Nat) : Int)), some (.inl (s : Int)), some (.inl (msv (wtD M) (spD M) s)), some (.inl u), some (.inl (b : Int)), none, none, none] [] := by
              refine p_for (nb) _ _ ?_ ?_
              · rintro f2 ⟨g1, g2, g3⟩
                refine e_iload C dX6_byMove_187 rfl ?_
                refine e_aload_n C dX6_byMove_189 rfl ?_
                refine e_getI C f_X6_135 sh_153 dX6_byMove_190 ?_
                rw [show mI (wrI M 173 f2) 153 17 = mI M 153 17 from rfl, hnb]
                refine e_icmp_ge C (tgt := 340) dX6_byMove_193 (by decide) (by omega) (by omega) (fun h_193 => ?_) (fun h_193 => by exfalso; omega)
                refine e_iinc C dX6_byMove_340 rfl ?_
                refine e_goto C (tgt := 43) dX6_byMove_343 (by decide) ?_
                refine pE_f 7 ?_
                refine pE_f 6 ?_
                refine pE_f 5 ?_
                rw [show ((s : Int) + 1) = ((s + 1 : Nat) : Int) by omega]
                exact ih f2 ⟨dp_step (row := fun x => f (256 * s + x)) hs hFi (fun b hb => (ly_r hw hbx hsp hq hb hs).1) (msv_r hw _ s).1 hdp (dpI_S g2), fun x hx => by have := g3 x hx; omega⟩
              · rintro b f2 hb ⟨g1, g2, g3⟩ ih
                have c228 : dpA nb (mI M 174) s b → pE g 11 X (pMQ g SH (fun r M' => ∃ (v : Int) (f : Nat → Int), r = some (.inl v) ∧ M' = wrI M 173 f ∧ bmK (wtD M) nb ns (bxD M) (spD M) q (mI M 174) v ∧ 0 ≤ v ∧ v ≤ 2000000) X 0 0) SH (wrI M 173 f2) 0 0 228 [some (.inr (.inr 153)), some (.inl (dxo q)), some (.inl (dyo q)), some (.inl ((2 ^ nb : Nat) : Int)), some (.inl (s : Int)), some (.inl (msv (wtD M) (spD M) s)), some (.inl u), some (.inl (b : Int)), none, none, none] [] := by
                  intro hA
                  refine e_aload_n C dX6_byMove_228 rfl ?_
                  refine e_iload C dX6_byMove_229 rfl ?_
                  refine e_iload C dX6_byMove_231 rfl ?_
                  refine e_iload_n C dX6_byMove_233 rfl ?_
                  refine e_iload_n C dX6_byMove_234 rfl ?_
                  refine e_callV C (c_lays (M := wrI M 173 f2) (nb := nb) (ns := ns) (b := b) (s := s) (q := q) hW hw hbx hsp h8 h16 hb hs hq) mt_X6_lays s_X6_142 dX6_byMove_235 6 sh_153 rfl (fun rl Ml hql => ?_)
                  obtain ⟨rfl, hMl⟩ := hql
                  subst Ml
                  dsimp only [Option.toList_some, List.singleton_append]
                  rw [show ly (wtD (wrI M 173 f2)) (bxD (wrI M 173 f2)) (spD (wrI M 173 f2)) q b s = (ly (wtD M) (bxD M) (spD M) q b s) from rfl]
                  refine e_istore C dX6_byMove_238 ?_
                  refine e_iconst C dX6_byMove_240 ?_
                  refine e_istore C dX6_byMove_241 ?_
                  have ls : ∀ (t : Nat) (f2 : Nat → Int), t ≤ (2 ^ nb) → ((∀ j, j < 256 * (s + 1) → f2 j = f j) ∧ dpI (ly (wtD M) (bxD M) (spD M) q) (msv (wtD M) (spD M)) nb (mI M 174) s b t (fun x => f (256 * s + x)) (fun x => f2 (256 * (s + 1) + x)) ∧ ∀ x, x < 2 ^ nb → 0 ≤ f2 (256 * (s + 1) + x) ∧ f2 (256 * (s + 1) + x) ≤ 1000000 + 99 * ((s : Int) + 1)) → pE g 11 X (pMQ g SH (fun r M' => ∃ (v : Int) (f : Nat → Int), r = some (.inl v) ∧ M' = wrI M 173 f ∧ bmK (wtD M) nb ns (bxD M) (spD M) q (mI M 174) v ∧ 0 ≤ v ∧ v ≤ 2000000) X 0 0) SH (wrI M 173 f2) 0 0 243 [some (.inr (.inr 153)), some (.inl (dxo q)), some (.inl (dyo q)), some (.inl ((2 ^ nb : Nat) : Int)), some (.inl (s : Int)), some (.inl (msv (wtD M) (spD M) s)), some (.inl u), some (.inl (b : Int)), some (.inl (ly (wtD M) (bxD M) (spD M) q b s)), some (.inl (t : Int)), none] [] := by
                    refine p_for ((2 ^ nb)) _ _ ?_ ?_
                    · rintro f2 ⟨g1, g2, g3⟩
                      refine e_iload C dX6_byMove_243 rfl ?_
                      refine e_iload_n C dX6_byMove_245 rfl ?_
                      refine e_icmp_ge C (tgt := 334) dX6_byMove_246 (by decide) (by omega) (by omega) (fun h_246 => ?_) (fun h_246 => by exfalso; omega)
                      refine e_iinc C dX6_byMove_334 rfl ?_
                      refine e_goto C (tgt := 187) dX6_byMove_337 (by decide) ?_
                      refine pE_f 9 ?_
                      refine pE_f 8 ?_
                      rw [show ((b : Int) + 1) = ((b + 1 : Nat) : Int) by omega]
                      exact ih f2 ⟨g1, dpI_full g2, g3⟩
                    · rintro t f2 ht ⟨g1, g2, g3⟩ ih
                      have hlt : t ||| 2 ^ b < 2 ^ nb := Nat.or_lt_two_pow ht (Nat.pow_lt_pow_right (by decide) hb)
                      have hl0 := ly_r hw hbx hsp hq hb hs
                      have gx := g3 _ hlt
                      have gr := hfr t ht
                      refine e_iload C dX6_byMove_243 rfl ?_
                      refine e_iload_n C dX6_byMove_245 rfl ?_
                      refine e_icmp_ge C (tgt := 334) dX6_byMove_246 (by decide) (by omega) (by omega) (fun h_246 => by exfalso; omega) (fun h_246 => ?_)
                      refine e_sipush C dX6_byMove_249 ?_
                      refine e_iload C dX6_byMove_252 rfl ?_
                      refine e_iconst C dX6_byMove_254 ?_
                      refine e_iadd C dX6_byMove_255 ?_
                      refine e_imul C dX6_byMove_256 ?_
                      refine e_iload C dX6_byMove_257 rfl ?_
                      refine e_iconst C dX6_byMove_259 ?_
                      refine e_iload C dX6_byMove_260 rfl ?_
                      refine e_ishl C (a := 1) (b := b) dX6_byMove_262 (by omega) (by rw [Nat.one_mul]; exact Nat.pow_lt_pow_right (by decide) (by omega)) ?_
                      refine e_ior C (a := t) (b := 1 * 2 ^ b) dX6_byMove_263 ?_
                      rw [Nat.one_mul]
                      refine e_iadd C dX6_byMove_264 ?_
                      refine e_istore C dX6_byMove_265 ?_
                      refine e_iload C dX6_byMove_267 rfl ?_
                      refine e_iload C dX6_byMove_269 rfl ?_
                      refine e_ishr C (a := t) (b := b) dX6_byMove_271 (by omega) (by omega) ?_
                      refine e_iconst C dX6_byMove_272 ?_
                      refine e_iand C (a := t / 2 ^ b) (b := 1) dX6_byMove_273 ?_
                      refine e_if_ne C (tgt := 328) dX6_byMove_274 (by decide) (by have := bit_le t b; omega) (fun h_274 => ?_) (fun h_274 => ?_)
                      · have hbt : t.testBit b = true := (bit_1 t b).mp (by have := bit_le t b; omega)
                        have hI : ((∀ j, j < 256 * (s + 1) → f2 j = f j) ∧ dpI (ly (wtD M) (bxD M) (spD M) q) (msv (wtD M) (spD M)) nb (mI M 174) s b (t + 1) (fun x => f (256 * s + x)) (fun x => f2 (256 * (s + 1) + x)) ∧ ∀ x, x < 2 ^ nb → 0 ≤ f2 (256 * (s + 1) + x) ∧ f2 (256 * (s + 1) + x) ≤ 1000000 + 99 * ((s : Int) + 1)) := ⟨g1, dpI_bit g2 hbt, g3⟩
                        refine e_iinc C dX6_byMove_328 rfl ?_
                        refine e_goto C (tgt := 243) dX6_byMove_331 (by decide) ?_
                        refine pE_f 10 ?_
                        rw [show ((t : Int) + 1) = ((t + 1 : Nat) : Int) by omega]
                        exact ih _ hI
                      · have hbt : t.testBit b = false := by
                          cases z : t.testBit b with
                          | true => have := (bit_1 t b).mpr z; omega
                          | false => rfl
                        refine e_aload_n C dX6_byMove_277 rfl ?_
                        refine e_getR C f_X6_78 sh_153 (hW 153 26 173 rfl) dX6_byMove_278 ?_
                        refine e_sipush C dX6_byMove_281 ?_
                        refine e_iload C dX6_byMove_284 rfl ?_
                        refine e_imul C dX6_byMove_286 ?_
                        refine e_iload C dX6_byMove_287 rfl ?_
                        refine e_iadd C dX6_byMove_289 ?_
                        refine e_iaload C dX6_byMove_290 sh_173 (256 * s + t) (by omega) (by omega) ?_
                        rw [wrI_s, g1 _ (by omega)]
                        refine e_iload C dX6_byMove_291 rfl ?_
                        refine e_iadd C dX6_byMove_293 ?_
                        refine e_aload_n C dX6_byMove_294 rfl ?_
                        refine e_getR C f_X6_78 sh_153 (hW 153 26 173 rfl) dX6_byMove_295 ?_
                        refine e_iload C dX6_byMove_298 rfl ?_
                        refine e_iaload C dX6_byMove_300 sh_173 (256 * (s + 1) + (t ||| 2 ^ b)) (by omega) (by omega) ?_
                        rw [wrI_s]
                        refine e_icmp_ge C (tgt := 328) dX6_byMove_301 (by decide) (by omega) (by omega) (fun h_301 => ?_) (fun h_301 => ?_)
                        · have hI : ((∀ j, j < 256 * (s + 1) → f2 j = f j) ∧ dpI (ly (wtD M) (bxD M) (spD M) q) (msv (wtD M) (spD M)) nb (mI M 174) s b (t + 1) (fun x => f (256 * s + x)) (fun x => f2 (256 * (s + 1) + x)) ∧ ∀ x, x < 2 ^ nb → 0 ≤ f2 (256 * (s + 1) + x) ∧ f2 (256 * (s + 1) + x) ≤ 1000000 + 99 * ((s : Int) + 1)) := ⟨g1, dpI_no g2 h_301, g3⟩
                          refine e_iinc C dX6_byMove_328 rfl ?_
                          refine e_goto C (tgt := 243) dX6_byMove_331 (by decide) ?_
                          refine pE_f 10 ?_
                          rw [show ((t : Int) + 1) = ((t + 1 : Nat) : Int) by omega]
                          exact ih _ hI
                        · have hI : ((∀ j, j < 256 * (s + 1) → (up f2 (256 * (s + 1) + (t ||| 2 ^ b)) (f (256 * s + t) + (ly (wtD M) (bxD M) (spD M) q b s))) j = f j) ∧ dpI (ly (wtD M) (bxD M) (spD M) q) (msv (wtD M) (spD M)) nb (mI M 174) s b (t + 1) (fun x => f (256 * s + x)) (fun x => (up f2 (256 * (s + 1) + (t ||| 2 ^ b)) (f (256 * s + t) + (ly (wtD M) (bxD M) (spD M) q b s))) (256 * (s + 1) + x)) ∧ ∀ x, x < 2 ^ nb → 0 ≤ (up f2 (256 * (s + 1) + (t ||| 2 ^ b)) (f (256 * s + t) + (ly (wtD M) (bxD M) (spD M) q b s))) (256 * (s + 1) + x) ∧ (up f2 (256 * (s + 1) + (t ||| 2 ^ b)) (f (256 * s + t) + (ly (wtD M) (bxD M) (spD M) q b s))) (256 * (s + 1) + x) ≤ 1000000 + 99 * ((s : Int) + 1)) := by
                            refine ⟨fun j hj => ?_, ?_, fun x hx => ?_⟩
                            · rw [up_n (by omega)]; exact g1 j hj
                            · rw [up_sh]; exact dpI_up g2 ht hb hA hbt (Int.lt_of_not_ge h_301)
                            · by_cases e : x = (t ||| 2 ^ b)
                              · subst e; rw [up_s]; omega
                              · rw [up_n (by omega)]; exact g3 x hx
                          refine e_aload_n C dX6_byMove_304 rfl ?_
                          refine e_getR C f_X6_78 sh_153 (hW 153 26 173 rfl) dX6_byMove_305 ?_
                          refine e_iload C dX6_byMove_308 rfl ?_
                          refine e_aload_n C dX6_byMove_310 rfl ?_
                          refine e_getR C f_X6_78 sh_153 (hW 153 26 173 rfl) dX6_byMove_311 ?_
                          refine e_sipush C dX6_byMove_314 ?_
                          refine e_iload C dX6_byMove_317 rfl ?_
                          refine e_imul C dX6_byMove_319 ?_
                          refine e_iload C dX6_byMove_320 rfl ?_
                          refine e_iadd C dX6_byMove_322 ?_
                          refine e_iaload C dX6_byMove_323 sh_173 (256 * s + t) (by omega) (by omega) ?_
                          rw [wrI_s, g1 _ (by omega)]
                          refine e_iload C dX6_byMove_324 rfl ?_
                          refine e_iadd C dX6_byMove_326 ?_
                          refine e_iastore C dX6_byMove_327 sh_173 (256 * (s + 1) + (t ||| 2 ^ b)) (by omega) (by omega) ?_
                          rw [stI_wr]
                          refine e_iinc C dX6_byMove_328 rfl ?_
                          refine e_goto C (tgt := 243) dX6_byMove_331 (by decide) ?_
                          refine pE_f 10 ?_
                          rw [show ((t : Int) + 1) = ((t + 1 : Nat) : Int) by omega]
                          exact ih _ hI
                  exact ls 0 f2 (by omega) ⟨g1, g2, g3⟩
                refine e_iload C dX6_byMove_187 rfl ?_
                refine e_aload_n C dX6_byMove_189 rfl ?_
                refine e_getI C f_X6_135 sh_153 dX6_byMove_190 ?_
                rw [show mI (wrI M 173 f2) 153 17 = mI M 153 17 from rfl, hnb]
                refine e_icmp_ge C (tgt := 340) dX6_byMove_193 (by decide) (by omega) (by omega) (fun h_193 => by exfalso; omega) (fun h_193 => ?_)
                refine e_aload_n C dX6_byMove_196 rfl ?_
                refine e_getR C f_X6_81 sh_153 (hW 153 27 174 rfl) dX6_byMove_197 ?_
                refine e_iload C dX6_byMove_200 rfl ?_
                refine e_iaload C dX6_byMove_202 sh_174 _ rfl (by omega) ?_
                rw [wrI_n _ _ _ (by decide)]
                have hFb := hF b hb
                refine e_iload C dX6_byMove_203 rfl ?_
                refine e_icmp_eq C (tgt := 228) dX6_byMove_205 (by decide) (by omega) (by omega) (fun h_205 => ?_) (fun h_205 => ?_)
                · have hA : dpA nb (mI M 174) s b := Or.inl h_205
                  exact c228 hA
                · refine e_aload_n C dX6_byMove_208 rfl ?_
                  refine e_getR C f_X6_81 sh_153 (hW 153 27 174 rfl) dX6_byMove_209 ?_
                  refine e_iload C dX6_byMove_212 rfl ?_
                  refine e_iaload C dX6_byMove_214 sh_174 _ rfl (by omega) ?_
                  rw [wrI_n _ _ _ (by decide)]
                  refine e_bipush C dX6_byMove_215 ?_
                  refine e_icmp_ne C (tgt := 334) dX6_byMove_217 (by decide) (by omega) (by omega) (fun h_217 => ?_) (fun h_217 => ?_)
                  · have hnA : ¬ dpA nb (mI M 174) s b := fun z => by rcases z with z | ⟨z, -⟩ <;> omega
                    refine e_iinc C dX6_byMove_334 rfl ?_
                    refine e_goto C (tgt := 187) dX6_byMove_337 (by decide) ?_
                    rw [show ((b : Int) + 1) = ((b + 1 : Nat) : Int) by omega]
                    exact ih f2 ⟨g1, dpI_skip g2 hnA, g3⟩
                  · refine e_iload C dX6_byMove_220 rfl ?_
                    refine e_if_eq C (tgt := 228) dX6_byMove_222 (by decide) (by omega) (fun h_222 => ?_) (fun h_222 => ?_)
                    · have hA : dpA nb (mI M 174) s b := Or.inr ⟨by omega, by rcases hu with ⟨z, -⟩ | ⟨-, z⟩; (· omega); exact z⟩
                      exact c228 hA
                    · have hnA : ¬ dpA nb (mI M 174) s b := fun z => by
                        rcases z with z | ⟨-, z⟩
                        · omega
                        · rcases hu with ⟨-, y⟩ | ⟨y, -⟩
                          · exact z y
                          · omega
                      refine e_goto C (tgt := 334) dX6_byMove_225 (by decide) ?_
                      refine e_iinc C dX6_byMove_334 rfl ?_
                      refine e_goto C (tgt := 187) dX6_byMove_337 (by decide) ?_
                      rw [show ((b : Int) + 1) = ((b + 1 : Nat) : Int) by omega]
                      exact ih f2 ⟨g1, dpI_skip g2 hnA, g3⟩
            have lc : ∀ (t : Nat) (f2 : Nat → Int), t ≤ (2 ^ nb) → ((∀ j, j < 256 * (s + 1) → f2 j = f j) ∧ ∀ x, x < t → f2 (256 * (s + 1) + x) = if u = 1 then 1000000 else f (256 * s + x) + (msv (wtD M) (spD M) s)) → pE g 11 X (pMQ g SH (fun r M' => ∃ (v : Int) (f : Nat → Int), r = some (.inl v) ∧ M' = wrI M 173 f ∧ bmK (wtD M) nb ns (bxD M) (spD M) q (mI M 174) v ∧ 0 ≤ v ∧ v ≤ 2000000) X 0 0) SH (wrI M 173 f2) 0 0 129 [some (.inr (.inr 153)), some (.inl (dxo q)), some (.inl (dyo q)), some (.inl ((2 ^ nb : Nat) : Int)), some (.inl (s : Int)), some (.inl (msv (wtD M) (spD M) s)), some (.inl u), some (.inl (t : Int)), none, none, none] [] := by
              refine p_for ((2 ^ nb)) _ _ ?_ ?_
              · rintro f2 ⟨g1, g2⟩
                refine e_iload C dX6_byMove_129 rfl ?_
                refine e_iload_n C dX6_byMove_131 rfl ?_
                refine e_icmp_ge C (tgt := 184) dX6_byMove_132 (by decide) (by omega) (by omega) (fun h_132 => ?_) (fun h_132 => by exfalso; omega)
                refine e_iconst C dX6_byMove_184 ?_
                refine e_istore C dX6_byMove_185 ?_
                have hms := msv_r hw (spD M) s
                have hm2 : ∀ x, x < 2 ^ nb → f2 (256 * (s + 1) + x) = if u = 1 then 1000000 else f (256 * s + x) + (msv (wtD M) (spD M) s) := g2
                refine lb 0 f2 (by omega) ⟨g1, ⟨fun x hx hW2 => ?_, fun x b _ _ h => by omega, fun x hx => ?_⟩, fun x hx => ?_⟩
                · dsimp only
                  rw [hm2 x hx]
                  rcases hu with ⟨-, z⟩ | ⟨z, -⟩
                  · exact absurd z hW2
                  · rw [if_neg (by omega)]; exact Int.le_refl _
                · dsimp only
                  rw [hm2 x hx]
                  rcases hu with ⟨z, -⟩ | ⟨z, z2⟩
                  · rw [if_pos z]; exact Or.inl rfl
                  · rw [if_neg (by omega)]; exact Or.inr (Or.inl ⟨z2, rfl⟩)
                · rw [hm2 x hx]
                  have := hfr x hx
                  split <;> omega
              · rintro t f2 ht ⟨g1, g2⟩ ih
                have gr := hfr t ht
                refine e_iload C dX6_byMove_129 rfl ?_
                refine e_iload_n C dX6_byMove_131 rfl ?_
                refine e_icmp_ge C (tgt := 184) dX6_byMove_132 (by decide) (by omega) (by omega) (fun h_132 => by exfalso; omega) (fun h_132 => ?_)
                refine e_aload_n C dX6_byMove_135 rfl ?_
                refine e_getR C f_X6_78 sh_153 (hW 153 26 173 rfl) dX6_byMove_136 ?_
                refine e_sipush C dX6_byMove_139 ?_
                refine e_iload C dX6_byMove_142 rfl ?_
                refine e_iconst C dX6_byMove_144 ?_
                refine e_iadd C dX6_byMove_145 ?_
                refine e_imul C dX6_byMove_146 ?_
                refine e_iload C dX6_byMove_147 rfl ?_
                refine e_iadd C dX6_byMove_149 ?_
                refine e_iload C dX6_byMove_150 rfl ?_
                refine e_if_eq C (tgt := 160) dX6_byMove_152 (by decide) (by omega) (fun h_152 => ?_) (fun h_152 => ?_)
                · have hI : ((∀ j, j < 256 * (s + 1) → (up f2 (256 * (s + 1) + t) (f (256 * s + t) + (msv (wtD M) (spD M) s))) j = f j) ∧ ∀ x, x < (t + 1) → (up f2 (256 * (s + 1) + t) (f (256 * s + t) + (msv (wtD M) (spD M) s))) (256 * (s + 1) + x) = if u = 1 then 1000000 else f (256 * s + x) + (msv (wtD M) (spD M) s)) := by
                    refine ⟨fun j hj => ?_, fun x hx => ?_⟩
                    · rw [up_n (by omega)]; exact g1 j hj
                    · by_cases e : x = t
                      · subst e; rw [up_s, if_neg (by omega)]
                      · rw [up_n (by omega)]; exact g2 x (by omega)
                  refine e_aload_n C dX6_byMove_160 rfl ?_
                  refine e_getR C f_X6_78 sh_153 (hW 153 26 173 rfl) dX6_byMove_161 ?_
                  refine e_sipush C dX6_byMove_164 ?_
                  refine e_iload C dX6_byMove_167 rfl ?_
                  refine e_imul C dX6_byMove_169 ?_
                  refine e_iload C dX6_byMove_170 rfl ?_
                  refine e_iadd C dX6_byMove_172 ?_
                  refine e_iaload C dX6_byMove_173 sh_173 (256 * s + t) (by omega) (by omega) ?_
                  rw [wrI_s, g1 _ (by omega)]
                  refine e_iload C dX6_byMove_174 rfl ?_
                  refine e_iadd C dX6_byMove_176 ?_
                  refine e_iastore C dX6_byMove_177 sh_173 (256 * (s + 1) + t) (by omega) (by omega) ?_
                  rw [stI_wr]
                  refine e_iinc C dX6_byMove_178 rfl ?_
                  refine e_goto C (tgt := 129) dX6_byMove_181 (by decide) ?_
                  rw [show ((t : Int) + 1) = ((t + 1 : Nat) : Int) by omega]
                  exact ih _ hI
                · have hI : ((∀ j, j < 256 * (s + 1) → (up f2 (256 * (s + 1) + t) 1000000) j = f j) ∧ ∀ x, x < (t + 1) → (up f2 (256 * (s + 1) + t) 1000000) (256 * (s + 1) + x) = if u = 1 then 1000000 else f (256 * s + x) + (msv (wtD M) (spD M) s)) := by
                    refine ⟨fun j hj => ?_, fun x hx => ?_⟩
                    · rw [up_n (by omega)]; exact g1 j hj
                    · by_cases e : x = t
                      · subst e; rw [up_s, if_pos (by omega)]
                      · rw [up_n (by omega)]; exact g2 x (by omega)
                  refine e_ldc C (1000000) k_X6_138 dX6_byMove_155 ?_
                  refine e_goto C (tgt := 177) dX6_byMove_157 (by decide) ?_
                  refine e_iastore C dX6_byMove_177 sh_173 (256 * (s + 1) + t) (by omega) (by omega) ?_
                  rw [stI_wr]
                  refine e_iinc C dX6_byMove_178 rfl ?_
                  refine e_goto C (tgt := 129) dX6_byMove_181 (by decide) ?_
                  rw [show ((t : Int) + 1) = ((t + 1 : Nat) : Int) by omega]
                  exact ih _ hI
            exact lc 0 f (by omega) ⟨fun _ _ => rfl, fun x hx => by omega⟩
          · rintro i u hi hu ih
            refine e_iload C dX6_byMove_87 rfl ?_
            refine e_aload_n C dX6_byMove_89 rfl ?_
            refine e_getI C f_X6_135 sh_153 dX6_byMove_90 ?_
            rw [show mI (wrI M 173 f) 153 17 = mI M 153 17 from rfl, hnb]
            refine e_icmp_ge C (tgt := 126) dX6_byMove_93 (by decide) (by omega) (by omega) (fun h_93 => by exfalso; omega) (fun h_93 => ?_)
            refine e_iload C dX6_byMove_96 rfl ?_
            refine e_if_ne C (tgt := 113) dX6_byMove_98 (by decide) (by omega) (fun h_98 => ?_) (fun h_98 => ?_)
            · have hn : dpW (i + 1) (mI M 174) s := by
                rcases hu with ⟨-, c, hc, z⟩ | ⟨z, -⟩
                · exact ⟨c, by omega, z⟩
                · omega
              refine e_iconst C dX6_byMove_113 ?_
              refine e_goto C (tgt := 118) dX6_byMove_114 (by decide) ?_
              refine e_istore C dX6_byMove_118 ?_
              refine e_iinc C dX6_byMove_120 rfl ?_
              refine e_goto C (tgt := 87) dX6_byMove_123 (by decide) ?_
              rw [show ((i : Int) + 1) = ((i + 1 : Nat) : Int) by omega]
              first | exact ih _ (Or.inl ⟨rfl, hn⟩) | exact ih _ (Or.inr ⟨rfl, hn⟩)
            · refine e_aload_n C dX6_byMove_101 rfl ?_
              refine e_getR C f_X6_81 sh_153 (hW 153 27 174 rfl) dX6_byMove_102 ?_
              refine e_iload C dX6_byMove_105 rfl ?_
              refine e_iaload C dX6_byMove_107 sh_174 _ rfl (by omega) ?_
              rw [wrI_n _ _ _ (by decide)]
              have hFb := hF i hi
              refine e_iload C dX6_byMove_108 rfl ?_
              refine e_icmp_ne C (tgt := 117) dX6_byMove_110 (by decide) (by omega) (by omega) (fun h_110 => ?_) (fun h_110 => ?_)
              · have hn : ¬ dpW (i + 1) (mI M 174) s := fun ⟨c, hc, z⟩ => by
                  by_cases e : c = i
                  · subst e; exact h_110 z
                  · rcases hu with ⟨y, -⟩ | ⟨-, y⟩
                    · omega
                    · exact y ⟨c, by omega, z⟩
                refine e_iconst C dX6_byMove_117 ?_
                refine e_istore C dX6_byMove_118 ?_
                refine e_iinc C dX6_byMove_120 rfl ?_
                refine e_goto C (tgt := 87) dX6_byMove_123 (by decide) ?_
                rw [show ((i : Int) + 1) = ((i + 1 : Nat) : Int) by omega]
                first | exact ih _ (Or.inl ⟨rfl, hn⟩) | exact ih _ (Or.inr ⟨rfl, hn⟩)
              · have hn : dpW (i + 1) (mI M 174) s := ⟨i, by omega, by omega⟩
                refine e_iconst C dX6_byMove_113 ?_
                refine e_goto C (tgt := 118) dX6_byMove_114 (by decide) ?_
                refine e_istore C dX6_byMove_118 ?_
                refine e_iinc C dX6_byMove_120 rfl ?_
                refine e_goto C (tgt := 87) dX6_byMove_123 (by decide) ?_
                rw [show ((i : Int) + 1) = ((i + 1 : Nat) : Int) by omega]
                first | exact ih _ (Or.inl ⟨rfl, hn⟩) | exact ih _ (Or.inr ⟨rfl, hn⟩)
        exact lw 0 0 (by omega) (Or.inr ⟨rfl, fun ⟨c, hc, _⟩ => by omega⟩)
      refine e_iload C dX6_byMove_43 rfl ?_
      refine e_aload_n C dX6_byMove_45 rfl ?_
      refine e_getI C f_X6_139 sh_153 dX6_byMove_46 ?_
      rw [show mI (wrI M 173 f) 153 21 = mI M 153 21 from rfl, hns]
      refine e_icmp_ge C (tgt := 346) dX6_byMove_49 (by decide) (by omega) (by omega) (fun h_49 => by exfalso; omega) (fun h_49 => ?_)
      refine e_aload_n C dX6_byMove_52 rfl ?_
      refine e_getR C f_X6_75 sh_153 (hW 153 25 172 rfl) dX6_byMove_53 ?_
      refine e_iload C dX6_byMove_56 rfl ?_
      refine e_baload C dX6_byMove_58 sh_172 _ rfl (by omega) ?_
      rw [wrI_n _ _ _ (by decide)]
      have hmu : mI M 172 s = 0 ∨ mI M 172 s = 1 := (hsp s hs).2.2.2
      refine e_if_eq C (tgt := 71) dX6_byMove_59 (by decide) (by omega) (fun h_59 => ?_) (fun h_59 => ?_)
      · have hm : (msv (wtD M) (spD M) s) = mI M 159 3 / 2 := by unfold msv; rw [if_pos (show (spD M).2.2.2 s = 0 from h_59)]; rfl
        refine e_aload_n C dX6_byMove_71 rfl ?_
        refine e_getR C f_X6_25 sh_153 (hW 153 6 159 rfl) dX6_byMove_72 ?_
        refine e_iconst C dX6_byMove_75 ?_
        refine e_iaload C dX6_byMove_76 sh_159 3 rfl (by decide) ?_
        rw [wrI_n _ _ _ (by decide)]
        refine e_iconst C dX6_byMove_77 ?_
        refine e_idiv C dX6_byMove_78 (by omega) (by omega) (by omega) (by omega) ?_
        rw [hm] at c79
        exact c79
      · have hm : (msv (wtD M) (spD M) s) = mI M 159 3 := by unfold msv; rw [if_neg (show ¬ (spD M).2.2.2 s = 0 from h_59)]; rfl
        refine e_aload_n C dX6_byMove_62 rfl ?_
        refine e_getR C f_X6_25 sh_153 (hW 153 6 159 rfl) dX6_byMove_63 ?_
        refine e_iconst C dX6_byMove_66 ?_
        refine e_iaload C dX6_byMove_67 sh_159 3 rfl (by decide) ?_
        rw [wrI_n _ _ _ (by decide)]
        refine e_goto C (tgt := 79) dX6_byMove_68 (by decide) ?_
        rw [hm] at c79
        exact c79
  have l1 : ∀ (t : Nat) (f : Nat → Int), t ≤ (2 ^ nb) → (∀ x, x < t → f x = if x = 0 then 0 else 1000000) → pE g 11 X (pMQ g SH (fun r M' => ∃ (v : Int) (f : Nat → Int), r = some (.inl v) ∧ M' = wrI M 173 f ∧ bmK (wtD M) nb ns (bxD M) (spD M) q (mI M 174) v ∧ 0 ≤ v ∧ v ≤ 2000000) X 0 0) SH (wrI M 173 f) 0 0 10 [some (.inr (.inr 153)), some (.inl (dxo q)), some (.inl (dyo q)), some (.inl ((2 ^ nb : Nat) : Int)), some (.inl (t : Int)), none, none, none, none, none, none] [] := by
    refine p_for ((2 ^ nb)) _ _ ?_ ?_
    · rintro f h1
      refine e_iload C dX6_byMove_10 rfl ?_
      refine e_iload_n C dX6_byMove_12 rfl ?_
      refine e_icmp_ge C (tgt := 40) dX6_byMove_13 (by decide) (by omega) (by omega) (fun h_13 => ?_) (fun h_13 => by exfalso; omega)
      refine e_iconst C dX6_byMove_40 ?_
      refine e_istore C dX6_byMove_41 ?_
      have hi2 : ∀ x, x < 2 ^ nb → f (256 * 0 + x) = if x = 0 then 0 else 1000000 := fun x hx => by rw [show 256 * 0 + x = x by omega]; exact h1 x hx
      refine l2 0 f (by omega) ⟨dp_0 (fun b hb => (hF b hb).1) ?_ (fun x hx hx0 => ?_), fun x hx => ?_⟩
      · have := hi2 0 hA1
        simpa using this
      · have := hi2 x hx
        rw [if_neg hx0] at this; exact this
      · rw [hi2 x hx]; split <;> omega
    · rintro t f ht h1 ih
      refine e_iload C dX6_byMove_10 rfl ?_
      refine e_iload_n C dX6_byMove_12 rfl ?_
      refine e_icmp_ge C (tgt := 40) dX6_byMove_13 (by decide) (by omega) (by omega) (fun h_13 => by exfalso; omega) (fun h_13 => ?_)
      refine e_aload_n C dX6_byMove_16 rfl ?_
      refine e_getR C f_X6_78 sh_153 (hW 153 26 173 rfl) dX6_byMove_17 ?_
      refine e_iload C dX6_byMove_20 rfl ?_
      refine e_iload C dX6_byMove_22 rfl ?_
      refine e_if_ne C (tgt := 31) dX6_byMove_24 (by decide) (by omega) (fun h_24 => ?_) (fun h_24 => ?_)
      · have hI : ∀ x, x < t + 1 → up f t 1000000 x = if x = 0 then 0 else 1000000 := fun x hx => by
          by_cases e : x = t
          · subst e; rw [up_s, if_neg (by omega)]
          · rw [up_n e]; exact h1 x (by omega)
        refine e_ldc C (1000000) k_X6_138 dX6_byMove_31 ?_
        refine e_iastore C dX6_byMove_33 sh_173 t rfl (by omega) ?_
        rw [stI_wr]
        refine e_iinc C dX6_byMove_34 rfl ?_
        refine e_goto C (tgt := 10) dX6_byMove_37 (by decide) ?_
        rw [show ((t : Int) + 1) = ((t + 1 : Nat) : Int) by omega]
        exact ih _ hI
      · have hI : ∀ x, x < t + 1 → up f t 0 x = if x = 0 then 0 else 1000000 := fun x hx => by
          by_cases e : x = t
          · subst e; rw [up_s, if_pos (by omega)]
          · rw [up_n e]; exact h1 x (by omega)
        refine e_iconst C dX6_byMove_27 ?_
        refine e_goto C (tgt := 33) dX6_byMove_28 (by decide) ?_
        refine e_iastore C dX6_byMove_33 sh_173 t rfl (by omega) ?_
        rw [stI_wr]
        refine e_iinc C dX6_byMove_34 rfl ?_
        refine e_goto C (tgt := 10) dX6_byMove_37 (by decide) ?_
        rw [show ((t : Int) + 1) = ((t + 1 : Nat) : Int) by omega]
        exact ih _ hI
  show pE g 11 X _ SH M 0 0 0 [some (.inr (.inr 153)), some (.inl (dxo q)), some (.inl (dyo q)), none, none, none, none, none, none, none, none] []
  refine e_iconst C dX6_byMove_0 ?_
  refine e_aload_n C dX6_byMove_1 rfl ?_
  refine e_getI C f_X6_135 sh_153 dX6_byMove_2 ?_
  rw [hnb]
  refine e_ishl C (a := 1) (b := nb) dX6_byMove_5 (by omega) (by rw [Nat.one_mul]; exact Nat.pow_lt_pow_right (by decide) (by omega)) ?_
  rw [Nat.one_mul]
  refine e_istore_n C dX6_byMove_6 ?_
  refine e_iconst C dX6_byMove_7 ?_
  refine e_istore C dX6_byMove_8 ?_
  have hz := l1 0 (mI M 173) (by omega) (fun x hx => by omega)
  rw [wrI_e] at hz
  exact hz
