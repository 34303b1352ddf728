/-! ===== class and model hold the same pages ===== -/
def pgE (G H : pPg) : Prop := ∀ p, p < 16 → G.1 p = H.1 p ∧ ∀ i, i < G.1 p → (G.2 p).1 i = (H.2 p).1 i ∧ (G.2 p).2.1 i = (H.2 p).2.1 i ∧ (G.2 p).2.2 i = (H.2 p).2.2 i
theorem pgE_sy {G H : pPg} (h : pgE G H) : pgE H G := fun p hp => ⟨(h p hp).1.symm, fun i hi => by
  rw [← (h p hp).1] at hi
  obtain ⟨a, b, c⟩ := (h p hp).2 i hi
  exact ⟨a.symm, b.symm, c.symm⟩⟩
theorem fndI_E {f h : Nat → Int} {c : Int} : ∀ {n i : Nat}, (∀ j, i ≤ j → j < i + n → f j = h j) → fndI f c i n = fndI h c i n
  | 0, _, _ => rfl
  | n + 1, i, e => by
    simp only [fndI]
    rw [e i (Nat.le_refl _) (by omega), fndI_E (fun j h1 h2 => e j (by omega) (by omega))]
theorem ixC_E {G H : pPg} (h : pgE G H) {p : Nat} (hp : p < 16) (c : Int) : ixC G p c = ixC H p c := by
  unfold ixC
  rw [← (h p hp).1]
  exact fndI_E (fun j _ hj => ((h p hp).2 j (by omega)).2.2)
def tlE (T U : Nat → Int) : Prop := ∀ p, p < 16 → T p = U p
theorem onK_E {G H : pPg} {T U : Nat → Int} (h : pgE G H) (ht : tlE T U) {k c : Int} {p : Nat} (hp : p < 16) : onK G T k c p = onK H U k c p := by
  unfold onK; rw [ht p hp, ixC_E h hp]
theorem kTn_E {T U : Nat → Int} (ht : tlE T U) (k : Int) : kTn T k = kTn U k := sg_congr (fun p hp => by rw [ht p hp])
theorem knC_E {G H : pPg} {T U : Nat → Int} (h : pgE G H) (ht : tlE T U) (k c : Int) : knC G T k c = knC H U k c := sg_congr (fun p hp => by rw [onK_E h ht hp])
theorem ixC_at {G H : pPg} (h : pgE G H) {p : Nat} (hp : p < 16) {c : Int} (hi : ixC G p c ≠ -1) : (G.2 p).1 (ixC G p c).toNat = (H.2 p).1 (ixC H p c).toNat ∧ (G.2 p).2.1 (ixC G p c).toNat = (H.2 p).2.1 (ixC H p c).toNat := by
  rw [← ixC_E h hp]
  rcases ixC_sp G p c with ⟨a, _⟩ | ⟨j, a, b, d⟩
  · exact absurd a hi
  · rw [d, Int.toNat_natCast]
    exact ⟨((h p hp).2 j a).1, ((h p hp).2 j a).2.1⟩
theorem cvX_E {G H : pPg} {T U : Nat → Int} (h : pgE G H) (ht : tlE T U) (k c : Int) : cvX G T k c = cvX H U k c := by
  funext t
  refine sg_congr (fun p hp => b01_iff ?_)
  rw [onK_E h ht hp]
  refine and_congr_right (fun ho => ?_)
  have hi : ixC G p c ≠ -1 := by
    rw [← onK_E h ht hp] at ho
    exact (of_decide_eq_true ho).2
  rw [(ixC_at h hp hi).1]
theorem cvY_E {G H : pPg} {T U : Nat → Int} (h : pgE G H) (ht : tlE T U) (k c : Int) : cvY G T k c = cvY H U k c := by
  funext t
  refine sg_congr (fun p hp => b01_iff ?_)
  rw [onK_E h ht hp]
  refine and_congr_right (fun ho => ?_)
  have hi : ixC G p c ≠ -1 := by
    rw [← onK_E h ht hp] at ho
    exact (of_decide_eq_true ho).2
  rw [(ixC_at h hp hi).2]
theorem isSp_E {G H : pPg} {T U : Nat → Int} (h : pgE G H) (ht : tlE T U) (k c : Int) : isSp G T k c = isSp H U k c := by unfold isSp; rw [knC_E h ht, kTn_E ht]
theorem spc_E {G H : pPg} {T U : Nat → Int} (h : pgE G H) (ht : tlE T U) (k : Int) : ∀ c, spc G T k c = spc H U k c
  | 0 => rfl
  | c + 1 => by simp only [spc]; rw [spc_E h ht k c, isSp_E h ht]
theorem isKd_E {G H : pPg} {T U : Nat → Int} (h : pgE G H) (ht : tlE T U) {k tot : Int} {n : Nat} {Z : pS} (hk : isKd G T k tot n Z) : isKd H U k tot n Z := by
  refine ⟨by rw [← kTn_E ht]; exact hk.1, by rw [← spc_E h ht]; exact hk.2.1, fun e h1 h2 h3 => ?_⟩
  have := hk.2.2 e h1 h2 (by rw [isSp_E h ht]; exact h3)
  rw [spc_E h ht, cvX_E h ht, cvY_E h ht, knC_E h ht, kTn_E ht] at this
  exact this
theorem kyS_E {G H : pPg} {T U : Nat → Int} (h : pgE G H) (ht : tlE T U) (w : pWt) {p : Nat} (hp : p < 16) (k : Nat) : kyS w G T p k = kyS w H U p k := by
  have key : ∀ {G H : pPg} {T U : Nat → Int}, pgE G H → tlE T U → ∀ K, (∃ tot ns Z, isKd G T (k : Int) tot ns Z ∧ isKey w (G.1 p) ns (G.2 p) Z K) → (∃ tot ns Z, isKd H U (k : Int) tot ns Z ∧ isKey w (H.1 p) ns (H.2 p) Z K) := by
    rintro G H T U h ht K ⟨tot, ns, Z, h1, h2⟩
    refine ⟨tot, ns, Z, isKd_E h ht h1, ?_⟩
    rw [← (h p hp).1]
    exact isKey_congr (fun b hb => (h p hp).2 b hb) (fun _ _ => ⟨rfl, rfl, rfl, rfl⟩) h2
  unfold kyS
  congr 1
  funext K
  exact propext ⟨key h ht K, key (pgE_sy h) (fun q hq => (ht q hq).symm) K⟩
theorem coS_E {G H : pPg} {T U : Nat → Int} (h : pgE G H) (ht : tlE T U) (w : pWt) {p : Nat} (hp : p < 16) (k : Nat) : coS w G T p k = coS w H U p k := by unfold coS; rw [kyS_E h ht w hp]
theorem rkS_E {G H : pPg} {T U : Nat → Int} (h : pgE G H) (ht : tlE T U) (w : pWt) {p : Nat} (hp : p < 16) : rkS w G T p = rkS w H U p := by
  unfold rkS
  exact rkF_congr (fun k hk => ⟨by rw [kTn_E ht], fun _ => coS_E h ht w hp k⟩)
theorem soS_E {G H : pPg} {T U : Nat → Int} (h : pgE G H) (ht : tlE T U) (w : pWt) (l v : Int) {p : Nat} (hp : p < 16) : soS w G T l v p = soS w H U l v p := by unfold soS; rw [rkS_E h ht w hp]
theorem nrS_E {G H : pPg} (h : pgE G H) (w : pWt) {p q : Nat} (hp : p < 16) (hq : q < 16) : nrS w G p q = nrS w H p q := by
  have key : ∀ {G H : pPg}, pgE G H → ∀ K, isKey w (G.1 p) (G.1 q) (G.2 p) (spB (G.2 q)) K → isKey w (H.1 p) (H.1 q) (H.2 p) (spB (H.2 q)) K := by
    intro G H h K h2
    rw [← (h p hp).1, ← (h q hq).1]
    exact isKey_congr (fun b hb => (h p hp).2 b hb) (fun s hs => by
      obtain ⟨a, b, c⟩ := (h q hq).2 s hs
      exact ⟨a, b, c, rfl⟩) h2
  unfold nrS
  congr 1
  funext v
  exact propext ⟨fun ⟨K, h1, h2⟩ => ⟨K, key h K h1, h2⟩, fun ⟨K, h1, h2⟩ => ⟨K, key (pgE_sy h) K h1, h2⟩⟩
theorem hpS_E {n : Nat} {L L2 : Nat → Prop} {E E2 : Nat → Nat → Prop} {H : Nat → Int} (hL : ∀ p, p < n → (L p ↔ L2 p)) (hE : ∀ p q, p < q → q < n → (E p q ↔ E2 p q)) (h : hpS n L E H) : hpS n L2 E2 H := by
  have hc : ∀ a b, cnG n L E a b → cnG n L2 E2 a b := fun a b hh S hS => hh S (fun x y h1 h2 l1 l2 e => hS x y h1 h2 ((hL x (by omega)).mp l1) ((hL y h2).mp l2) ((hE x y h1 h2).mp e))
  refine ⟨⟨fun p hp hl => h.1.1 p hp (fun z => hl ((hL p hp).mp z)), fun p hp hl => ?_⟩, fun p q h1 h2 l1 l2 e => h.2 p q h1 h2 ((hL p (by omega)).mpr l1) ((hL q h2).mpr l2) ((hE p q h1 h2).mpr e)⟩
  obtain ⟨q, q1, q2, q3, q4⟩ := h.1.2 p hp ((hL p hp).mpr hl)
  exact ⟨q, q1, q2, (hL q (by omega)).mp q3, hc _ _ q4⟩
theorem lkF_E {T T2 so so2 sp sp2 : Nat → Int} : ∀ {n : Nat}, (∀ p, p < n → T p = T2 p ∧ so p = so2 p ∧ sp p = sp2 p) → lkF T so sp n = lkF T2 so2 sp2 n
  | 0, _ => rfl
  | n + 1, h => by
    simp only [lkF]
    rw [lkF_E (fun p hp => h p (by omega)), (h n (by omega)).1, (h n (by omega)).2.1, (h n (by omega)).2.2]
theorem rdF_E {K i : Int} {cd c2 : Nat → Int} : ∀ {n b : Nat}, (∀ a, b ≤ a → a < b + n → cd a = c2 a) → rdF K i cd b n = rdF K i c2 b n
  | 0, _, _ => rfl
  | n + 1, b, h => by
    simp only [rdF]
    rw [h b (Nat.le_refl _) (by omega), rdF_E (fun a h1 h2 => h a (by omega) (by omega))]
theorem apF_E {f f2 h h2 : Int → Int} {d d2 : Int → Bool} (hf : ∀ c, f c = f2 c) (hh : ∀ c, h c = h2 c) (hd : ∀ c, f c ≠ -1 → h c ≠ -1 → d c = d2 c) : ∀ (n : Nat) (c m : Int), apF f h d n c m = apF f2 h2 d2 n c m
  | 0, _, _ => rfl
  | n + 1, c, m => by
    simp only [apF]
    rw [← hf c, ← hh c]
    by_cases e : (f c = -1) ↔ (h c = -1)
    · have i1 : (if m = -1 ∧ f c ≠ -1 ∧ d c = true then c else m) = (if m = -1 ∧ f c ≠ -1 ∧ d2 c = true then c else m) := by
        by_cases e2 : f c = -1
        · rw [if_neg (fun z => z.2.1 e2), if_neg (fun z => z.2.1 e2)]
        · rw [hd c e2 (fun z => e2 (e.mpr z))]
      rw [i1, if_neg (c := ¬ ((f c = -1) ↔ (h c = -1))) (fun z => z e), if_neg (c := ¬ ((f c = -1) ↔ (h c = -1))) (fun z => z e)]
      exact apF_E hf hh hd n _ _
    · rw [if_pos e, if_pos e]
def zE (n : Nat) (Z Y : pS) : Prop := ∀ s, s < n → Z.1 s = Y.1 s ∧ Z.2.1 s = Y.2.1 s ∧ Z.2.2.1 s = Y.2.2.1 s ∧ Z.2.2.2 s = Y.2.2.2 s
theorem fnS_E {n : Nat} {Z Y : pS} (h : zE n Z Y) (c : Int) : fnS Z n c = fnS Y n c := fndI_E (fun j _ hj => (h j (by omega)).2.2.1)
theorem fnS_at {n : Nat} {Z : pS} {c : Int} (h : fnS Z n c ≠ -1) : (fnS Z n c).toNat < n := by
  rcases fnS_sp Z n c with ⟨a, _⟩ | ⟨j, a, b, d⟩
  · exact absurd a h
  · rw [d, Int.toNat_natCast]; exact a
theorem apS_E {n m : Nat} {Z Z2 Y Y2 : pS} (h : zE n Z Z2) (h2 : zE m Y Y2) : apS Z n Y m = apS Z2 n Y2 m := by
  unfold apS
  refine apF_E (fnS_E h) (fnS_E h2) (fun c e1 e2 => ?_) 99 1 (-1)
  unfold dfS
  rw [← fnS_E h, ← fnS_E h2, (h _ (fnS_at e1)).1, (h _ (fnS_at e1)).2.1, (h2 _ (fnS_at e2)).1, (h2 _ (fnS_at e2)).2.1]
/-! ===== the coupling ===== -/
def CP (M : pMem) : Prop := mI M 0 12 = mI M 153 0 ∧ wtC M = wtD M ∧ (mI M 0 13 = mI M 153 7 ∧ mI M 0 14 = mI M 153 8 ∧ mI M 0 15 = mI M 153 9) ∧ tlE (mI M 2) (mI M 158) ∧ pgE (pgC M) (pgD M)
def IV (M : pMem) : Prop := JC M ∧ JD M ∧ CP M
def hiE (M N : pMem) : Prop := ∀ b, 153 ≤ b → mI N b = mI M b
def loE (M N : pMem) : Prop := (∀ b j, b < 153 → mI N b j = mI M b j ∧ mL N b j = mL M b j) ∧ ∀ b j, mR N b j = mR M b j
theorem hi_pg {M N : pMem} (h : hiE M N) : pgD N = pgD M := by unfold pgD; rw [h 154 (by omega), h 155 (by omega), h 156 (by omega), h 157 (by omega)]
theorem hi_wt {M N : pMem} (h : hiE M N) : wtD N = wtD M := by unfold wtD; rw [h 159 (by omega)]
theorem JD_hi {M N : pMem} (hJ : JD M) (h : hiE M N) (hW : pW N) : JD N := by
  obtain ⟨h1, h2, h3, h4, h5, h6, h7⟩ := hJ
  refine ⟨hW, by rw [h 153 (by omega)]; exact h2, by rw [hi_wt h]; exact h3, by unfold bdD; rw [h 153 (by omega)]; exact h4, by unfold pgN; rw [hi_pg h, h 154 (by omega)]; exact h5, by unfold tlD; rw [h 158 (by omega), h 153 (by omega)]; exact h6, ?_⟩
  have e1 : ∀ k, nsD N k = nsD M k := fun k => by unfold nsD; rw [h 161 (by omega)]
  have e2 : ∀ k, kdS N k = kdS M k := fun k => by unfold kdS; rw [h 162 (by omega), h 163 (by omega), h 164 (by omega), h 165 (by omega)]
  unfold mdOk
  rw [h 153 (by omega)]
  rcases h7 with z | ⟨z1, z2, z3⟩
  · exact Or.inl z
  · refine Or.inr ⟨z1, fun k hk => ?_, fun p k hp hk => ?_⟩
    · rw [e1, e2, hi_pg h, h 158 (by omega), h 160 (by omega), h 161 (by omega)]; exact z2 k hk
    · rw [hi_wt h, hi_pg h, h 158 (by omega), h 176 (by omega)]; exact z3 p k hp hk
theorem JC_lo {M N : pMem} (hJ : JC M) (h : loE M N) : JC N := by
  have hag : agr (fun b => b < 153) M N := ⟨h.1, h.2⟩
  have hpg : ∀ b, 38 ≤ b → b < 118 → b < 153 := fun b _ _ => by omega
  obtain ⟨h1, h2, h3, h4, h5, h6, h7, h8, h9, h10⟩ := hJ
  have e0 : ∀ j, mI N 0 j = mI M 0 j := fun j => (h.1 0 j (by omega)).1
  have e2 : mI N 2 = mI M 2 := funext (fun j => (h.1 2 j (by omega)).1)
  have ew : wtC N = wtC M := ag_wt hag (by omega)
  have eG : ∀ p, p < 16 → (pgC N).1 p = (pgC M).1 p ∧ (pgC N).2 p = (pgC M).2 p := fun p hp => pgC_ag hag hpg hp
  have esm : ∀ k, sameK (pgC M) (pgC N) (mI M 2) (mI M 2) k := fun k q hq => ⟨Iff.rfl, fun _ => ⟨(eG q hq).1.symm, (eG q hq).2.symm⟩⟩
  refine ⟨agr_W hag h1, ag_pgM hag hpg h2, by rw [ew]; exact h3, by rw [e0]; exact h4, by rw [e2]; exact h5, fun p hp hq => by rw [(eG p hp).1, e2]; rw [e0] at hq; exact h6 p hp hq, by rw [e0, e0, e0]; exact h7, fun p i hp hi => by rw [(eG p hp).1] at hi; rw [(h.1 _ i (by omega)).1]; exact h8 p i hp hi, fun k hk => ?_, fun p q hp hq => ?_⟩
  · obtain ⟨k1, k2⟩ := h9 k hk
    refine ⟨ag_kd hag (by omega) hpg (fun b _ _ => by omega) k1, ?_⟩
    have ens : nSp N (118 + 7 * k) = nSp M (118 + 7 * k) := by unfold nSp; rw [(h.1 _ 4 (by omega)).1]
    rw [e2, ens, ag_shS hag (fun b _ _ => by omega), (h.1 _ 2 (by omega)).1]
    exact isKd_same (esm _) k2
  · rw [(h.1 36 _ (by omega)).1]
    rcases h10 p q hp hq with z | z
    · exact Or.inl z
    · exact Or.inr ((ag_nr hag (by omega) hpg (by omega) hq _).mpr z)
theorem oP_lo {M N : pMem} (h : frD oP M N) : loE M N := ⟨fun b j hb => ⟨h.1 b j (Or.inl hb), h.2.1 b j⟩, h.2.2⟩
theorem kpC_hi {M N : pMem} (h : kpC M N) : hiE M N := fun b hb => funext (fun j => h.1 b j (by omega))
theorem pgC_kp {M N : pMem} (h : ∀ b j, 38 ≤ b → b < 118 → mI N b j = mI M b j) : ∀ p, p < 16 → (pgC N).1 p = (pgC M).1 p ∧ (pgC N).2 p = (pgC M).2 p := fun p hp => by
  have e : ∀ b, 38 ≤ b → b < 118 → mI N b = mI M b := fun b h1 h2 => funext (fun j => h b j h1 h2)
  unfold pgC shB
  dsimp only
  rw [e _ (by omega) (by omega), e _ (by omega) (by omega), e _ (by omega) (by omega), e _ (by omega) (by omega)]
  exact ⟨rfl, rfl⟩
theorem CP_same {M N : pMem} (h : CP M) (a : ∀ b j, (b < 4 ∨ (b = 4 ∧ j < 5) ∨ (38 ≤ b ∧ b < 118)) → mI N b j = mI M b j) (c : ∀ b j, ((154 ≤ b ∧ b ≤ 159) ∨ (b = 153 ∧ (j = 0 ∨ j = 7 ∨ j = 8 ∨ j = 9))) → mI N b j = mI M b j) : CP N := by
  obtain ⟨h1, h2, h3, h4, h5⟩ := h
  have eR : ∀ b, 154 ≤ b → b ≤ 159 → mI N b = mI M b := fun b x y => funext (fun j => c b j (by omega))
  have ew : wtD N = wtD M := by unfold wtD; rw [eR 159 (by omega) (by omega)]
  have ec : wtC N = wtC M := by unfold wtC; rw [a 4 0 (by omega), a 4 1 (by omega), a 4 2 (by omega), a 4 3 (by omega), a 4 4 (by omega)]
  have eg : pgD N = pgD M := by unfold pgD; rw [eR 154 (by omega) (by omega), eR 155 (by omega) (by omega), eR 156 (by omega) (by omega), eR 157 (by omega) (by omega)]
  have eG := pgC_kp (M := M) (N := N) (fun b j x y => a b j (by omega))
  refine ⟨by rw [a 0 12 (by omega), c 153 0 (by omega)]; exact h1, by rw [ew, ec]; exact h2, by rw [a 0 13 (by omega), a 0 14 (by omega), a 0 15 (by omega), c 153 7 (by omega), c 153 8 (by omega), c 153 9 (by omega)]; exact h3, fun p hp => by rw [a 2 p (by omega), eR 158 (by omega) (by omega)]; exact h4 p hp, fun p hp => ?_⟩
  rw [(eG p hp).1, (eG p hp).2, eg]
  exact h5 p hp
/-- behind a question to both -/
theorem IV_q {M N R : pMem} (h : IV M) (hc : JC N) (hk : kpC M N) (hd : JD R) (hr : frD oP N R) : IV R := by
  have h1 : CP N := CP_same h.2.2 (fun b j z => hk.1 b j (by omega)) (fun b j z => hk.1 b j (by omega))
  exact ⟨JC_lo hc (oP_lo hr), hd, CP_same h1 (fun b j z => hr.1 b j (by unfold oP; omega)) (fun b j z => hr.1 b j (by unfold oP; omega))⟩
theorem IV_d {M N : pMem} (h : IV M) (hc : JC N) (hk : kpC M N) : JD N := JD_hi h.2.1 (kpC_hi hk) hc.1
theorem kpC_rf {M : pMem} : kpC M M := ⟨fun _ _ _ => rfl, fun _ _ _ => rfl⟩
