/-! ===== the law, from its entry to its end ===== -/
theorem iniC_kp {M N : pMem} (h : kp 153 M N) (hi : iniC M) : iniC N := by
  obtain ⟨h1, h2, h3, h4, h5, h6⟩ := hi
  exact ⟨by rw [wtC_kp h (by omega)]; exact h1, b0C_kp h (by omega) h2, pgC0_kp h (by omega) h3, kdC0_kp h (by omega) h4, fun k p hk hp => by rw [(h _ p (by omega)).2]; exact h5 k p hk hp, fun q r hq hr => by rw [(h 36 _ (by omega)).1]; exact h6 q r hq hr⟩
theorem IV_0 {M : pMem} (hW : pW M) (h : iniC M) (h2 : iniD M) : IV M := by
  refine ⟨JC_0 hW h, JD_0 hW h2, ?_⟩
  obtain ⟨a1, ⟨a2, a3, a4, a5⟩, a6, a7, a8, a9⟩ := h
  obtain ⟨b1, b2, ⟨b3, b4, b5⟩, b6, b7, b8⟩ := h2
  refine ⟨by rw [a2, b1], by rw [a1, b7], ⟨by rw [a3, b3], by rw [a4, b4], by rw [a5, b5]⟩, fun p hp => by rw [(a6 p hp).2, b6 p hp], fun p hp => ?_⟩
  have x1 : (pgC M).1 p = 0 := by show (mI M (38 + 5 * p) 4).toNat = 0; rw [(a6 p hp).1]; rfl
  have x2 : (pgD M).1 p = 0 := by show (mI M 154 p).toNat = 0; rw [b8]; rfl
  exact ⟨by rw [x1, x2], fun i hi => by rw [x1] at hi; omega⟩
theorem l_loop {p : Program} {e : Env} {s : State} {m : MethodId} {below : List Frame} {meth : Method} {c : Code} {l : Launch} {b L : Nat} {xs : Nat → Int32} {g : pG} (hL : L ≤ 3072) (C0 : lw_At p s m meth c b L xs) (C : pCx g (lawY meth) code 4 ret 11 600000 7302250 (p, l, e, room_1, s, m, #[Value.ref b], below, meth, c)) (hX : pScr g (p, l, e, room_1, s, m, #[Value.ref b], below, meth, c) L xs) (hgs : g.2.2.2.1 = s.heap.size) : ∀ q : Nat × pMem, (q.1 ≤ L + 6 ∧ IV q.2) → pE g 4 (p, l, e, room_1, s, m, #[Value.ref b], below, meth, c) (lw_Z below #[Value.ref b] s) SH q.2 180 7722 18 [some (.inr (.inr 1000000)), some (.inr (.inr 0)), some (.inr (.inr 153)), some (.inl (q.1 : Int))] [] := by
  obtain ⟨hx, hb, hr, hml, hown, hts, hXs, hbl, hlocks, hgv⟩ := id C0
  refine p_loop _ _ (fun q => L + 12 - q.1) ?_
  rintro ⟨i, M⟩ ⟨h1, hV⟩ rec2
  dsimp only at h1 hV ⊢
  have kk : i + 6 ≤ L → ∀ M2, IV M2 → pE g 4 (p, l, e, room_1, s, m, #[Value.ref b], below, meth, c) (lw_Z below #[Value.ref b] s) SH M2 180 7722 18 [some (.inr (.inr 1000000)), some (.inr (.inr 0)), some (.inr (.inr 153)), some (.inl ((i : Int) + 6))] [] := fun hi M2 h2 => by
    have hz := rec2 (i + 6, M2) ⟨by dsimp only; omega, h2⟩ (by dsimp only; omega)
    dsimp only at hz
    rw [show ((i + 6 : Nat) : Int) = (i : Int) + 6 by omega] at hz
    exact hz
  refine e_iload_n C dL_law_18 rfl ?_
  refine e_aload_n C dL_law_19 rfl ?_
  refine e_slen C hX dL_law_20 ?_
  refine e_bipush C dL_law_21 ?_
  refine e_isub C dL_law_23 ?_
  refine e_icmp_gt C (tgt := 746) dL_law_24 (by decide) (by omega) (by omega) (fun h_24 => ?_) (fun h_24 => ?_)
  · refine e_iconst C dL_law_746 ?_
    intro H locs ls hR hS hl
    show W p l e room_1 s m #[Value.ref b] below meth c H locs 180 7722 (lw_Z below #[Value.ref b] s) (F0 m 747 ls [Value.int (Int32.ofInt 1)])
    rw [show Int32.ofInt 1 = 1 by decide +kernel]
    refine va_forget (fun q hq => ?_) (W.widen (k := 600000) (n := 7302250) (by decide) (by decide) (lw_ret hx hb hr hlocks dL_law_747))
    have hz := hS.2.2 q hq
    unfold pA at hz
    rw [hgs] at hz
    exact hz
  · have hi : i + 6 ≤ L := by omega
    obtain ⟨a, ha⟩ := i32_nat (xs i)
    refine e_aload_n C dL_law_27 rfl ?_
    refine e_iload_n C dL_law_28 rfl ?_
    refine e_sload C hX dL_law_29 i rfl (by omega) ha ?_
    refine e_bipush C dL_law_30 ?_
    refine e_iand C (a := a) (b := 31) dL_law_32 ?_
    have hop : a &&& 31 < 32 := Nat.lt_of_le_of_lt Nat.and_le_right (by decide)
    generalize a &&& 31 = w at hop ⊢
    rcases (show w = 0 ∨ w = 1 ∨ w = 2 ∨ w = 3 ∨ w = 4 ∨ w = 5 ∨ w = 6 ∨ w = 7 ∨ w = 8 ∨ w = 9 ∨ w = 10 ∨ w = 11 ∨ w = 12 ∨ w = 13 ∨ w = 14 ∨ w = 15 ∨ w = 16 ∨ w = 17 ∨ 18 ≤ w by omega) with rfl | rfl | rfl | rfl | rfl | rfl | rfl | rfl | rfl | rfl | rfl | rfl | rfl | rfl | rfl | rfl | rfl | rfl | hw
    · refine e_tabIn C (x := ((0 : Nat) : Int)) (off := 87) (tgt := 120) dL_law_33 (by decide) (by decide) (by decide) (by decide) (by decide) ?_
      exact l_page C hX hV hi hL (kk hi)
    · refine e_tabIn C (x := ((1 : Nat) : Int)) (off := 100) (tgt := 133) dL_law_33 (by decide) (by decide) (by decide) (by decide) (by decide) ?_
      exact l_box C hX hV hi hL (kk hi)
    · refine e_tabIn C (x := ((2 : Nat) : Int)) (off := 153) (tgt := 186) dL_law_33 (by decide) (by decide) (by decide) (by decide) (by decide) ?_
      exact l_tell C hX hV hi hL (kk hi)
    · refine e_tabIn C (x := ((3 : Nat) : Int)) (off := 186) (tgt := 219) dL_law_33 (by decide) (by decide) (by decide) (by decide) (by decide) ?_
      exact l_weights C hX hV hi hL (kk hi)
    · refine e_tabIn C (x := ((4 : Nat) : Int)) (off := 249) (tgt := 282) dL_law_33 (by decide) (by decide) (by decide) (by decide) (by decide) ?_
      exact l_bounds C hX hV hi hL (kk hi)
    · refine e_tabIn C (x := ((5 : Nat) : Int)) (off := 292) (tgt := 325) dL_law_33 (by decide) (by decide) (by decide) (by decide) (by decide) ?_
      exact l_kind C hX hV hi hL (kk hi)
    · refine e_tabIn C (x := ((6 : Nat) : Int)) (off := 325) (tgt := 358) dL_law_33 (by decide) (by decide) (by decide) (by decide) (by decide) ?_
      exact l_spot C hX hV hi hL (kk hi)
    · refine e_tabIn C (x := ((7 : Nat) : Int)) (off := 368) (tgt := 401) dL_law_33 (by decide) (by decide) (by decide) (by decide) (by decide) ?_
      exact l_lay C hX hV hi hL (kk hi)
    · refine e_tabIn C (x := ((8 : Nat) : Int)) (off := 411) (tgt := 444) dL_law_33 (by decide) (by decide) (by decide) (by decide) (by decide) ?_
      exact l_moved C hX hV hi hL (kk hi)
    · refine e_tabIn C (x := ((9 : Nat) : Int)) (off := 470) (tgt := 503) dL_law_33 (by decide) (by decide) (by decide) (by decide) (by decide) ?_
      exact l_read C hX hV hi hL (kk hi)
    · refine e_tabIn C (x := ((10 : Nat) : Int)) (off := 513) (tgt := 546) dL_law_33 (by decide) (by decide) (by decide) (by decide) (by decide) ?_
      exact l_sorted C hX hV hi hL (kk hi)
    · refine e_tabIn C (x := ((11 : Nat) : Int)) (off := 536) (tgt := 569) dL_law_33 (by decide) (by decide) (by decide) (by decide) (by decide) ?_
      exact l_told C hX hV hi hL (kk hi)
    · refine e_tabIn C (x := ((12 : Nat) : Int)) (off := 559) (tgt := 592) dL_law_33 (by decide) (by decide) (by decide) (by decide) (by decide) ?_
      exact l_look C hX hV hi hL (kk hi)
    · refine e_tabIn C (x := ((13 : Nat) : Int)) (off := 572) (tgt := 605) dL_law_33 (by decide) (by decide) (by decide) (by decide) (by decide) ?_
      exact l_heaps C hX hV hi hL (kk hi)
    · refine e_tabIn C (x := ((14 : Nat) : Int)) (off := 585) (tgt := 618) dL_law_33 (by decide) (by decide) (by decide) (by decide) (by decide) ?_
      exact l_heap C hX hV hi hL (kk hi)
    · refine e_tabIn C (x := ((15 : Nat) : Int)) (off := 608) (tgt := 641) dL_law_33 (by decide) (by decide) (by decide) (by decide) (by decide) ?_
      exact l_versions C hX hV hi hL (kk hi)
    · refine e_tabIn C (x := ((16 : Nat) : Int)) (off := 651) (tgt := 684) dL_law_33 (by decide) (by decide) (by decide) (by decide) (by decide) ?_
      exact l_touch C hX hV hi hL (kk hi)
    · refine e_tabIn C (x := ((17 : Nat) : Int)) (off := 684) (tgt := 717) dL_law_33 (by decide) (by decide) (by decide) (by decide) (by decide) ?_
      exact l_about C hX hV hi hL (kk hi)
    · refine e_tabOut C (x := (w : Int)) (tgt := 740) dL_law_33 (by omega) (Or.inr (by omega)) (by decide) ?_
      refine e_iinc C dL_law_740 rfl ?_
      refine e_goto C (tgt := 18) dL_law_743 (by decide) ?_
      exact kk hi M hV
theorem whole_start {p : Program} {e : Env} {s : State} {m : MethodId} {below : List Frame} {meth : Method} {c : Code} (l : Launch) {b L : Nat} {xs : Nat → Int32} (hL : L ≤ 3072) (C0 : lw_At p s m meth c b L xs) : W p l e room_1 s m #[Value.ref b] below meth c s.heap [] 0 0 (lw_Z below #[Value.ref b] s) (entryFrame m ([Value.ref b] : List Value).toArray 4) := by
  obtain ⟨g, C, hX, hR0, hgs, hgb⟩ := lw_entry (e := e) (below := below) l hL C0
  have law : ∀ M : pMem, pE g 4 (p, l, e, room_1, s, m, #[Value.ref b], below, meth, c) (lw_Z below #[Value.ref b] s) (SHp 0) M 0 0 0 [some (.inr (.inr 1000000)), none, none, none] [] := by
    intro M
    have h0 : pIv 0 [] M := fun a i b _ hb => absurd hb (Nat.not_lt_zero b)
    have h1 : pIv 1 [] (zero M 0) := w_drop (w_new h0) rfl
    refine n_new C sh_0 pcl5 pdf5 cl_L_7 dL_law_0 (by decide) ?_
    refine e_dup C dL_law_3 ?_
    refine e_callI C (i_class (M := zero M 0) h1) mt_X5_init s_L_9 dL_law_4 (fun r1 M1 q1 => ?_)
    obtain ⟨rfl, p1, ini⟩ := q1
    dsimp only [Option.toList_none, List.nil_append]
    refine e_astore_n C dL_law_7 ?_
    have h2 : pIv 154 [] (zero M1 153) := w_drop (w_new p1) rfl
    refine n_new C sh_153 pcl6 pdf6 cl_L_10 dL_law_8 (by decide) ?_
    refine e_dup C dL_law_11 ?_
    refine e_callI C (i_model (M := zero M1 153) h2 (zero_s _ _ _) (zero_s _ _ _)) mt_X6_init s_L_12 dL_law_12 (fun r2 M2 q2 => ?_)
    obtain ⟨rfl, k1, p2, ini2⟩ := q2
    dsimp only [Option.toList_none, List.nil_append]
    refine e_astore_n C dL_law_15 ?_
    refine e_iconst C dL_law_16 ?_
    refine e_istore_n C dL_law_17 ?_
    have hW : pW M2 := fun a i b hr => p2 a i b hr (rt_all hr).2.1 List.not_mem_nil
    have hV := IV_0 hW (iniC_kp (kp_tr (kp_z (Nat.le_refl _)) k1) ini) ini2
    have hz := l_loop hL C0 C hX hgs (0, M2) ⟨by dsimp only; omega, hV⟩
    exact pE_c (pE_S hz shp_180) rfl rfl
  obtain ⟨h1, h2, h3⟩ := lv_entry ([.ref b]) (n := 4) (Nat.le_of_ble_eq_true rfl)
  rw [lg_entry_eq]
  refine law (fun _ _ => 0, fun _ _ => 0, fun _ _ => none) s.heap [] _ (hR0 _) va_S.rf ⟨h1, h2, fun i v hi => ?_⟩
  match i, hi with
  | 0, hi =>
    cases hi
    have hz := h3 (0, .ref b) List.mem_cons_self
    have he : prv g (.inr (.inr 1000000)) = .ref b := by
      show Value.ref (pad g 1000000) = _
      rw [show pad g 1000000 = g.2.2.2.2.1 from rfl, hgb]
    rw [he]
    exact hz
  | 1, hi => cases hi
  | 2, hi => cases hi
  | 3, hi => cases hi
  | i + 4, hi => simp at hi
