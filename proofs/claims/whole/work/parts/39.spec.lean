/-! ===== the answers, as numbers of the pages, the tellings, the weights and the bounds ===== -/
theorem isKey_ex {w : pWt} {nb ns : Nat} {A : pB} {Z : pS} (hw : wtOk w) (hA : bxOk nb A) (hZ : spOk ns Z) (h8 : nb ≤ 8) (hn : ns ≤ 16) : ∃ K, isKey w nb ns A Z K := by
  have h : ∀ n : Nat, (∃ q, q < 49 ∧ ∃ φ, vA nb ns φ ∧ key w nb ns A Z q φ ≤ (n : Int)) → ∃ K, isKey w nb ns A Z K := by
    intro n
    induction n with
    | zero =>
      rintro ⟨q, hq, φ, hφ, hk⟩
      refine ⟨key w nb ns A Z q φ, fun q2 hq2 φ2 hφ2 => ?_, q, hq, φ, hφ, rfl⟩
      have := (key_nn hw hA hZ hq2 h8 hn hφ2).1
      omega
    | succ n ih =>
      rintro ⟨q, hq, φ, hφ, hk⟩
      by_cases hx : ∃ q, q < 49 ∧ ∃ φ, vA nb ns φ ∧ key w nb ns A Z q φ ≤ (n : Int)
      · exact ih hx
      · refine ⟨key w nb ns A Z q φ, fun q2 hq2 φ2 hφ2 => ?_, q, hq, φ, hφ, rfl⟩
        rcases Int.lt_or_le (n : Int) (key w nb ns A Z q2 φ2) with z | z
        · omega
        · exact absurd ⟨q2, hq2, φ2, hφ2, z⟩ hx
  refine h (key w nb ns A Z 0 (fun _ => ns)).toNat ⟨0, by omega, fun _ => ns, vA_none nb ns, ?_⟩
  have := (key_nn hw hA hZ (q := 0) (by omega) h8 hn (vA_none nb ns)).1
  omega
noncomputable def kyS (w : pWt) (G : pPg) (T : Nat → Int) (p k : Nat) : Int := Classical.epsilon (fun K => ∃ tot ns Z, isKd G T (k : Int) tot ns Z ∧ isKey w (G.1 p) ns (G.2 p) Z K)
theorem kyS_e {w : pWt} {G : pPg} {T : Nat → Int} {p k ns : Nat} {tot K : Int} {Z : pS} (h1 : isKd G T (k : Int) tot ns Z) (h2 : isKey w (G.1 p) ns (G.2 p) Z K) : kyS w G T p k = K := by
  obtain ⟨tot2, ns2, Z2, h3, h4⟩ := Classical.epsilon_spec (p := fun K => ∃ tot ns Z, isKd G T (k : Int) tot ns Z ∧ isKey w (G.1 p) ns (G.2 p) Z K) ⟨K, tot, ns, Z, h1, h2⟩
  obtain ⟨-, e2, e3⟩ := isKd_one h3 h1
  subst e2
  exact isKey_one (isKey_congr (fun b _ => ⟨rfl, rfl, rfl⟩) e3 h4) h2
noncomputable def coS (w : pWt) (G : pPg) (T : Nat → Int) (p k : Nat) : Int := kyS w G T p k / 341812114609
noncomputable def rkS (w : pWt) (G : pPg) (T : Nat → Int) (p : Nat) : Int × Int × Int := rkF (fun k => decide (0 < kTn T (k : Int))) (coS w G T p) 5
noncomputable def soS (w : pWt) (G : pPg) (T : Nat → Int) (lim gap : Int) (p : Nat) : Int := ansI (rkS w G T p).1 (rkS w G T p).2.1 (rkS w G T p).2.2 lim gap
theorem ckF_S {M : pMem} {a p k : Nat} {T : Nat → Int} (hG : pgM M) (hw : wtOk (wtC M)) (hp : p < 16) (hk : kdOk M a) (h : isKd (pgC M) T (k : Int) (mI M a 2) (nSp M a) (shS M (a + 1))) : ckOk M a p (ckF M a p) ∧ ckF M a p = kyS (wtC M) (pgC M) T p k := by
  obtain ⟨K, hK⟩ := isKey_ex (ns := nSp M a) (Z := shS M (a + 1)) hw (hG.2.1 p hp).2 hk.2.2.1 (hG.2.1 p hp).1 hk.2.1
  have : ckOk M a p K := hK
  rw [ckF_e this]
  exact ⟨this, (kyS_e h hK).symm⟩
theorem rkM_S {M : pMem} {κ : Nat → Nat} {p : Nat} {T : Nat → Int} (hG : pgM M) (hw : wtOk (wtC M)) (hp : p < 16) (h : ∀ k, k < 5 → kdOk M (κ k) ∧ isKd (pgC M) T (k : Int) (mI M (κ k) 2) (nSp M (κ k)) (shS M (κ k + 1))) : rkM M κ p 5 = rkS (wtC M) (pgC M) T p := by
  refine rkF_congr (fun k hk => ?_)
  obtain ⟨h1, h2⟩ := h k hk
  refine ⟨?_, fun _ => ?_⟩
  · unfold onM; rw [h2.1]
  · unfold coM coS; rw [(ckF_S hG hw hp h1 h2).2]
theorem soM_S {M : pMem} (hJ : JC M) {p : Nat} (hp : p < 16) : soM M p = soS (wtC M) (pgC M) (mI M 2) (mI M 0 13) (mI M 0 14) p := by
  unfold soM soS
  rw [rkM_S (κ := kap) hJ.2.1 hJ.2.2.1 hp hJ.2.2.2.2.2.2.2.2.1]
theorem spM_S {M : pMem} (hJ : JC M) {p : Nat} (hp : p < 16) : spM M p = (rkS (wtC M) (pgC M) (mI M 2) p).2.2 - (rkS (wtC M) (pgC M) (mI M 2) p).2.1 := by
  unfold spM
  rw [rkM_S (κ := kap) hJ.2.1 hJ.2.2.1 hp hJ.2.2.2.2.2.2.2.2.1]
/-! ===== trying a telling ===== -/
theorem stR_s (M : pMem) (a i v : Nat) : mR (stR M a i v) a i = some v := by simp [mR, stR]
theorem stR_n {M : pMem} {a i v b j : Nat} (h : b ≠ a ∨ j ≠ i) : mR (stR M a i v) b j = mR M b j := by
  rcases h with h | h <;> simp [mR, stR, h]
theorem rt_21 (j : Nat) : RT 21 j = none := by
  show (RTl.getD 21 []).getD j none = none
  have : RTl.getD 21 [] = [] := rfl
  rw [this]; rfl
theorem pW_21 {M : pMem} (h : pW M) (i v : Nat) : pW (stR M 21 i v) := fun a j b hb => by
  by_cases e : a = 21
  · subst e; exact absurd ((rt_21 j).symm.trans hb) (by simp)
  · rw [stR_n (Or.inl e)]; exact h a j b hb
def gdK (M : pMem) (T : Nat → Int) (i a : Nat) : Prop := mR M 21 i = some a ∧ kaK a ∧ kdOk M a ∧ isKd (pgC M) T (i : Int) (mI M a 2) (nSp M a) (shS M (a + 1))
/-- the cells that no try touches -/
def trO (b : Nat) : Prop := b < 16 ∨ b = 19 ∨ 36 ≤ b
def tryd (M N : pMem) : Prop := (∀ b j, trO b → mI N b j = mI M b j ∧ mL N b j = mL M b j) ∧ ∀ b j, b ≠ 21 → mR N b j = mR M b j
theorem tryd_rf (M : pMem) : tryd M M := ⟨fun _ _ _ => ⟨rfl, rfl⟩, fun _ _ _ => rfl⟩
theorem tryd_tr {M N R : pMem} (h : tryd M N) (h2 : tryd N R) : tryd M R := ⟨fun b j hb => ⟨(h2.1 b j hb).1.trans (h.1 b j hb).1, (h2.1 b j hb).2.trans (h.1 b j hb).2⟩, fun b j hb => (h2.2 b j hb).trans (h.2 b j hb)⟩
theorem tryd_row {M N : pMem} (h : tryd M N) {b : Nat} (hb : trO b) : mI N b = mI M b := funext (fun j => (h.1 b j hb).1)
theorem tryd_W {M N : pMem} (h : tryd M N) (hW : pW M) : pW N := fun a j b hb => by
  by_cases e : a = 21
  · subst e; exact absurd ((rt_21 j).symm.trans hb) (by simp)
  · rw [h.2 a j e]; exact hW a j b hb
theorem tryd_pg {M N : pMem} (h : tryd M N) : pgC N = pgC M := by
  unfold pgC
  have e1 : (fun p => (mI N (38 + 5 * p) 4).toNat) = (fun p => (mI M (38 + 5 * p) 4).toNat) := funext (fun p => by rw [tryd_row h (by unfold trO; omega)])
  have e2 : (fun p => shB N (38 + 5 * p)) = (fun p => shB M (38 + 5 * p)) := funext (fun p => by unfold shB; rw [tryd_row h (by unfold trO; omega), tryd_row h (by unfold trO; omega), tryd_row h (by unfold trO; omega)])
  rw [e1, e2]
theorem JC_tryd {M N : pMem} (hJ : JC M) (h : tryd M N) : JC N := by
  obtain ⟨h1, h2, h3, h4, h5, h6, h7, h8, h9, h10⟩ := hJ
  have e0 : ∀ j, mI N 0 j = mI M 0 j := fun j => (h.1 0 j (by unfold trO; omega)).1
  have e2 : mI N 2 = mI M 2 := tryd_row h (by unfold trO; omega)
  have ew : wtC N = wtC M := by unfold wtC; rw [tryd_row h (by unfold trO; omega)]
  have epg := tryd_pg h
  have ens : ∀ k, nSp N (118 + 7 * k) = nSp M (118 + 7 * k) := fun k => by unfold nSp; rw [tryd_row h (by unfold trO; omega)]
  have esS : ∀ a, 36 ≤ a → shS N a = shS M a := fun a ha => by unfold shS; rw [tryd_row h (by unfold trO; omega), tryd_row h (by unfold trO; omega), tryd_row h (by unfold trO; omega), tryd_row h (by unfold trO; omega)]
  have esB : ∀ a, 36 ≤ a → shB N a = shB M a := fun a ha => by unfold shB; rw [tryd_row h (by unfold trO; omega), tryd_row h (by unfold trO; omega), tryd_row h (by unfold trO; omega)]
  unfold JC
  rw [ew, epg, e0, e0, e0, e0, e2]
  refine ⟨tryd_W h h1, ?_, h3, h4, h5, h6, h7, fun p i hp hi => ?_, fun k hk => ⟨?_, ?_⟩, fun p q hp hq => ?_⟩
  · unfold pgM; rw [epg]; exact ⟨fun p hp => by rw [tryd_row h (by unfold trO; omega)]; exact h2.1 p hp, h2.2⟩
  · rw [tryd_row h (by unfold trO; omega)]; exact h8 p i hp hi
  · obtain ⟨k1, k2, k3, k4, k5⟩ := (h9 k hk).1
    unfold kdOk
    rw [ens, esS _ (by omega), tryd_row h (by unfold trO; omega), tryd_row h (by unfold trO; omega)]
    refine ⟨k1, k2, k3, k4, fun p hp => ?_⟩
    unfold ckOk
    rw [ew, epg, ens, esS _ (by omega), esB _ (by omega), (h.1 _ p (by unfold trO; omega)).2]; exact k5 p hp
  · rw [ens, esS _ (by omega), tryd_row h (by unfold trO; omega)]; exact (h9 k hk).2
  · unfold nrOk
    rw [ew, epg, esS _ (by omega), esB _ (by omega), tryd_row h (by unfold trO; omega)]; exact h10 p q hp hq
theorem gdK_n {M N : pMem} {T : Nat → Int} {i a e k : Nat} (h : gdK M T i a) (hik : i ≠ k) (hae : a ≠ e) (he : e = 22 ∨ e = 29) (hag : agr (mkO e) M N) : gdK (stR N 21 k e) T i a := by
  obtain ⟨h1, h2, h3, h4⟩ := h
  have hpg : ∀ b, 38 ≤ b → b < 118 → mkO e b := fun b _ _ => by unfold mkO; omega
  have hka : ∀ b, a ≤ b → b ≤ a + 6 → mkO e b := fun b _ _ => by unfold kaK at h2; unfold mkO; omega
  refine ⟨by rw [stR_n (Or.inr hik), hag.2]; exact h1, h2, ?_, ?_⟩
  · exact ag_kd (N := N) hag (by unfold mkO; omega) hpg hka h3
  · show isKd (pgC N) T (i : Int) (mI N a 2) (nSp N a) (shS N (a + 1))
    have ens : nSp N a = nSp M a := by unfold nSp; rw [ag_row hag (hka _ (by omega) (by omega))]
    rw [ens, ag_shS hag (fun b _ _ => hka b (by omega) (by omega)), ag_row hag (hka a (by omega) (by omega))]
    exact isKd_same (sameK_pg hag hpg) h4
def tmk (M R : pMem) (e : Nat) (k : Int) : Prop := (¬ (0 ≤ k ∧ k < 5) ∧ R = M) ∨ ((0 ≤ k ∧ k < 5) ∧ ∃ N, R = stR N 21 k.toNat e ∧ agr (mkO e) M N ∧ gdK R (mI M 20) k.toNat e)
theorem c_tryMaking {g : pG} {M : pMem} {e : Nat} {k : Int} (hW : pW M) (he : e = 22 ∨ e = 29) (hG : pgM M) (hT : ∀ p, p < 16 → -1 ≤ mI M 20 p ∧ mI M 20 p < 5) (hi_k : -2147483648 ≤ k ∧ k < 2147483648) : pCn g 4 0 0 yX5_tryMaking cX5_tryMaking 3 none SH SH M [.inr (.inr 0), .inr (.inr e), .inl k] (fun r M' => r = none ∧ tmk M M' e k) := by
  refine pCn_intro mt_X5_tryMaking (fun X C => ?_)
  have hka : kaK e := by unfold kaK; omega
  have hse : SH[e]? = some (.inl 0) := by rcases he with rfl | rfl <;> rfl
  show pE g 3 X _ SH M 0 0 0 [some (.inr (.inr 0)), some (.inr (.inr e)), some (.inl k)] []
  refine e_iload_n C dX5_tryMaking_0 rfl ?_
  refine e_callS C (c_isKind hi_k) mt_X5_isKind s_X5_129 dX5_tryMaking_1 (fun r M1 hq => ?_)
  obtain ⟨rfl, hM⟩ := hq
  subst M1
  dsimp only [Option.toList_some, List.singleton_append]
  refine e_if_eq C (tgt := 31) dX5_tryMaking_4 (by decide) (by split <;> omega) (fun h_4 => ?_) (fun h_4 => ?_)
  · have b4 := ite0.mp h_4
    exact e_return C dX5_tryMaking_31 ⟨rfl, Or.inl ⟨b4, rfl⟩⟩
  · have b4 := ite1.mp h_4
    obtain ⟨q, rfl⟩ : ∃ q : Nat, k = (q : Int) := ⟨k.toNat, by omega⟩
    refine e_aload_n C dX5_tryMaking_7 rfl ?_
    refine e_getR C f_X5_35 sh_0 (hW 0 4 15 rfl) dX5_tryMaking_8 ?_
    refine e_aload_n C dX5_tryMaking_11 rfl ?_
    refine e_iload_n C dX5_tryMaking_12 rfl ?_
    refine e_aload_n C dX5_tryMaking_13 rfl ?_
    refine e_getR C f_X5_11 sh_0 (hW 0 0 1 rfl) dX5_tryMaking_14 ?_
    refine e_aload_n C dX5_tryMaking_17 rfl ?_
    refine e_getR C f_X5_46 sh_0 (hW 0 6 20 rfl) dX5_tryMaking_18 ?_
    refine e_callV C (c_make (M := M) (a := e) (ta := 20) (T := mI M 20) (k := (q : Int)) hW (pKd_ka hW hka) (by omega) rfl (Or.inr rfl) (fun p hp => ⟨rfl, hT p hp⟩) b4 hG) mt_X2_make s_X5_210 dX5_tryMaking_21 2 sh_15 rfl (fun rm Mm hqm => ?_)
    obtain ⟨rfl, hag, hkd, hct, hly⟩ := hqm
    dsimp only [Option.toList_none, List.nil_append]
    have hWm := agr_W hag hW
    refine e_aload_n C dX5_tryMaking_24 rfl ?_
    refine e_getR C f_X5_49 sh_0 (hWm 0 7 21 rfl) dX5_tryMaking_25 ?_
    refine e_iload_n C dX5_tryMaking_28 rfl ?_
    refine e_aload_n C dX5_tryMaking_29 rfl ?_
    refine e_aastore4 C dX5_tryMaking_30 sh_21 hse q rfl (by omega) ?_
    refine e_return C dX5_tryMaking_31 ⟨rfl, ?_⟩
    by_cases hz : 0 ≤ (q : Int) ∧ (q : Int) < 5
    · refine Or.inr ⟨hz, Mm, rfl, hag, ?_⟩
      rw [Int.toNat_natCast]
      have hpg : ∀ b, 38 ≤ b → b < 118 → mkO e b := fun b _ _ => by unfold mkO; omega
      have hk2 : isKd (pgC Mm) (mI M 20) (q : Int) (mI Mm e 2) (nSp Mm e) (shS Mm (e + 1)) := isKd_same (sameK_pg hag hpg) hkd
      obtain ⟨a1, a2, a3, a4⟩ := isKd_ok (ag_pgM hag hpg hG).2 hk2
      exact ⟨stR_s _ _ _ _, hka, ⟨hct, a1, a2, ⟨a3, a4⟩, fun p hp => Or.inl (hly p hp)⟩, hk2⟩
    · exact absurd b4 hz
