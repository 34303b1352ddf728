/-! ===== the class's memory ===== -/
def kaK (a : Nat) : Prop := a = 22 ∨ a = 29 ∨ a = 118 ∨ a = 125 ∨ a = 132 ∨ a = 139 ∨ a = 146
theorem pKd_ka {M : pMem} (hW : pW M) {a : Nat} (h : kaK a) : pKd M a := by
  rcases h with rfl | rfl | rfl | rfl | rfl | rfl | rfl
  · exact pKd_left hW
  · exact pKd_join hW
  · exact pKd_kind hW (p := 0) (by decide)
  · exact pKd_kind hW (p := 1) (by decide)
  · exact pKd_kind hW (p := 2) (by decide)
  · exact pKd_kind hW (p := 3) (by decide)
  · exact pKd_kind hW (p := 4) (by decide)
theorem kaK_k {k : Nat} (h : k < 5) : kaK (118 + 7 * k) := by unfold kaK; omega
def nSp (M : pMem) (a : Nat) : Nat := (mI M (a + 1) 4).toNat
def ckOk (M : pMem) (a p : Nat) (v : Int) : Prop := isKey (wtC M) ((pgC M).1 p) (nSp M a) (shB M (38 + 5 * p)) (shS M (a + 1)) v
def kdOk (M : pMem) (a : Nat) : Prop := mI M (a + 1) 4 = ((nSp M a : Nat) : Int) ∧ nSp M a ≤ 16 ∧ spOk (nSp M a) (shS M (a + 1)) ∧ (0 ≤ mI M a 2 ∧ mI M a 2 ≤ 16) ∧ ∀ p, p < 16 → mL M (a + 6) p = -1 ∨ ckOk M a p (mL M (a + 6) p)
def nrOk (M : pMem) (p q : Nat) (v : Int) : Prop := ∃ K, isKey (wtC M) ((pgC M).1 p) ((pgC M).1 q) (shB M (38 + 5 * p)) (shS M (38 + 5 * q)) K ∧ v = K / 341812114609
/-- only what may be found again has changed: the layer's and the ranking's cells, layings and costs that are kept -/
def cch (M N : pMem) : Prop := (∀ b j, mR N b j = mR M b j) ∧ (∀ b j, (b < 4 ∨ (b = 4 ∧ j < 5) ∨ 15 ≤ b) → b ≠ 19 → b ≠ 36 → b ≠ 37 → mI N b j = mI M b j) ∧ (∀ a, kaK a → ∀ p, p < 16 → mL N (a + 6) p = mL M (a + 6) p ∨ ckOk M a p (mL N (a + 6) p)) ∧ ∀ p q, p < q → q < 16 → mI N 36 (p * 16 + q) = mI M 36 (p * 16 + q) ∨ nrOk M p q (mI N 36 (p * 16 + q))
theorem cch_rf (M : pMem) : cch M M := ⟨fun _ _ => rfl, fun _ _ _ _ _ _ => rfl, fun _ _ _ _ => Or.inl rfl, fun _ _ _ _ => Or.inl rfl⟩
theorem cch_row {M N : pMem} (h : cch M N) {b : Nat} (hb : 15 ≤ b) (h1 : b ≠ 19) (h2 : b ≠ 36) (h3 : b ≠ 37) : mI N b = mI M b := funext (fun j => h.2.1 b j (Or.inr (Or.inr hb)) h1 h2 h3)
theorem cch_wt {M N : pMem} (h : cch M N) : wtC N = wtC M := by
  unfold wtC
  rw [h.2.1 4 0 (by omega) (by decide) (by decide) (by decide), h.2.1 4 1 (by omega) (by decide) (by decide) (by decide), h.2.1 4 2 (by omega) (by decide) (by decide) (by decide), h.2.1 4 3 (by omega) (by decide) (by decide) (by decide), h.2.1 4 4 (by omega) (by decide) (by decide) (by decide)]
theorem cch_shB {M N : pMem} (h : cch M N) (p : Nat) : shB N (38 + 5 * p) = shB M (38 + 5 * p) := by
  unfold shB
  rw [cch_row h (by omega) (by omega) (by omega) (by omega), cch_row h (by omega) (by omega) (by omega) (by omega), cch_row h (by omega) (by omega) (by omega) (by omega)]
theorem cch_shS {M N : pMem} (h : cch M N) (p : Nat) : shS N (38 + 5 * p) = shS M (38 + 5 * p) := by
  unfold shS
  rw [cch_row h (by omega) (by omega) (by omega) (by omega), cch_row h (by omega) (by omega) (by omega) (by omega), cch_row h (by omega) (by omega) (by omega) (by omega), cch_row h (by omega) (by omega) (by omega) (by omega)]
theorem cch_shK {M N : pMem} (h : cch M N) {a : Nat} (ha : kaK a) : shS N (a + 1) = shS M (a + 1) := by
  unfold shS
  unfold kaK at ha
  rw [cch_row h (by omega) (by omega) (by omega) (by omega), cch_row h (by omega) (by omega) (by omega) (by omega), cch_row h (by omega) (by omega) (by omega) (by omega), cch_row h (by omega) (by omega) (by omega) (by omega)]
theorem cch_pg {M N : pMem} (h : cch M N) : pgC N = pgC M := by
  unfold pgC
  have e1 : (fun p => (mI N (38 + 5 * p) 4).toNat) = (fun p => (mI M (38 + 5 * p) 4).toNat) := funext (fun p => by rw [cch_row h (by omega) (by omega) (by omega) (by omega)])
  have e2 : (fun p => shB N (38 + 5 * p)) = (fun p => shB M (38 + 5 * p)) := funext (fun p => cch_shB h p)
  rw [e1, e2]
theorem cch_ns {M N : pMem} (h : cch M N) {a : Nat} (ha : kaK a) : nSp N a = nSp M a := by
  unfold nSp; unfold kaK at ha; rw [cch_row h (by omega) (by omega) (by omega) (by omega)]
theorem cch_ck {M N : pMem} (h : cch M N) {a p : Nat} {v : Int} (ha : kaK a) : ckOk N a p v ↔ ckOk M a p v := by
  unfold ckOk; rw [cch_wt h, cch_pg h, cch_ns h ha, cch_shB h, cch_shK h ha]
theorem cch_nr {M N : pMem} (h : cch M N) {p q : Nat} {v : Int} : nrOk N p q v ↔ nrOk M p q v := by
  unfold nrOk; rw [cch_wt h, cch_pg h, cch_shB h, cch_shS h]
theorem cch_tr {M N R : pMem} (h : cch M N) (h2 : cch N R) : cch M R := by
  refine ⟨fun b j => (h2.1 b j).trans (h.1 b j), fun b j hb h1 h3 h4 => (h2.2.1 b j hb h1 h3 h4).trans (h.2.1 b j hb h1 h3 h4), fun a ha p hp => ?_, fun p q h1 h3 => ?_⟩
  · rcases h2.2.2.1 a ha p hp with z | z
    · rw [z]; exact h.2.2.1 a ha p hp
    · exact Or.inr ((cch_ck h ha).mp z)
  · rcases h2.2.2.2 p q h1 h3 with z | z
    · rw [z]; exact h.2.2.2 p q h1 h3
    · exact Or.inr ((cch_nr h).mp z)
theorem cch_kd {M N : pMem} (h : cch M N) {a : Nat} (ha : kaK a) (hk : kdOk M a) : kdOk N a := by
  have e2 : mI N a 2 = mI M a 2 := by unfold kaK at ha; exact h.2.1 a 2 (by omega) (by omega) (by omega) (by omega)
  have e4 : mI N (a + 1) 4 = mI M (a + 1) 4 := by unfold kaK at ha; exact h.2.1 (a + 1) 4 (by omega) (by omega) (by omega) (by omega)
  unfold kdOk at hk ⊢
  rw [cch_ns h ha, cch_shK h ha, e2, e4]
  refine ⟨hk.1, hk.2.1, hk.2.2.1, hk.2.2.2.1, fun p hp => ?_⟩
  rw [cch_ck h ha]
  rcases h.2.2.1 a ha p hp with z | z
  · rw [z]; exact hk.2.2.2.2 p hp
  · exact Or.inr z
theorem cch_W {M N : pMem} (h : cch M N) (hW : pW M) : pW N := fun a i b hb => (h.1 a i).trans (hW a i b hb)
theorem cch_pM {M N : pMem} (h : cch M N) (hG : pgM M) : pgM N := by
  unfold pgM at hG ⊢
  rw [cch_pg h]
  exact ⟨fun p hp => by rw [cch_row h (by omega) (by omega) (by omega) (by omega)]; exact hG.1 p hp, hG.2⟩
theorem cch_agO {M N : pMem} (h : agO M N) : cch M N := by
  refine ⟨h.2.2, fun b j hb _ _ _ => ?_, fun a ha p _ => Or.inl ?_, fun p q _ _ => Or.inl (h.1 36 _ (by omega)).1⟩
  · rcases hb with z | ⟨z, z2⟩ | z
    · exact (h.1 b j (by omega)).1
    · rw [z]; exact h.2.1 j z2
    · exact (h.1 b j (by omega)).1
  · unfold kaK at ha; exact (h.1 (a + 6) p (by omega)).2
theorem cch_stL {M : pMem} {a p : Nat} {v : Int} (hp : p < 16) (hv : ckOk M a p v) : cch M (stL M (a + 6) p v) := by
  refine ⟨fun _ _ => rfl, fun _ _ _ _ _ _ => rfl, fun e he q hq => ?_, fun _ _ _ _ => Or.inl rfl⟩
  by_cases h : e = a ∧ q = p
  · obtain ⟨rfl, rfl⟩ := h
    rw [stL_s]; exact Or.inr hv
  · exact Or.inl (stL_n _ _ (by omega))
theorem cch_19 {M : pMem} {i : Nat} {v : Int} : cch M (stI M 19 i v) := by
  refine ⟨fun _ _ => rfl, fun b j _ h1 _ _ => stI_n _ _ (Or.inl h1), fun _ _ _ _ => Or.inl rfl, fun _ _ _ _ => Or.inl (stI_n _ _ (by omega))⟩
theorem c_laying {g : pG} {M : pMem} {a p : Nat} (hW : pW M) (hG : pgM M) (hw : wtOk (wtC M)) (hp : p < 16) (ha : kaK a) (hk : kdOk M a) :
    pCn g 5 0 0 yX5_laying cX5_laying 3 (some .long) SH SH M [.inr (.inr 0), .inl (p : Int), .inr (.inr a)] (fun r M' => ∃ K : Int, r = some (.inr (.inl K)) ∧ ckOk M a p K ∧ cch M M' ∧ ∀ b j, 15 ≤ b → mI M' b j = mI M b j) := by
  refine pCn_intro mt_X5_laying (fun X C => ?_)
  have hA := pKd_ka hW ha
  obtain ⟨k1, k2, k3, k4, k5⟩ := id hk
  have hn8 := (hG.2.1 p hp).1
  have hbx := (hG.2.1 p hp).2
  have hbx2 : bxOk ((pgC M).1 p) (shB M (38 + 5 * p)) := hbx
  have hka : 15 ≤ a + 1 := by unfold kaK at ha; omega
  have hrg : ∀ v, ckOk M a p v → 0 ≤ v ∧ v ≤ 5000000000000000 := fun v hv => isKey_r hw hbx2 k3 hn8 k2 hv
  have hr1 : -1 ≤ mL M (a + 6) p ∧ mL M (a + 6) p ≤ 5000000000000000 := by
    rcases k5 p hp with z | z
    · omega
    · have := hrg _ z; omega
  show pE g 3 X _ SH M 0 0 0 [some (.inr (.inr 0)), some (.inl (p : Int)), some (.inr (.inr a))] []
  refine e_aload_n C dX5_laying_0 rfl ?_
  refine e_getR C f_X5_214 hA.1 hA.2.2.2.2 dX5_laying_1 ?_
  refine e_iload_n C dX5_laying_4 rfl ?_
  refine e_laload C dX5_laying_5 hA.2.2.2.1 _ rfl (by omega) ?_
  refine e_ldc2 C (-1) k_X5_218 dX5_laying_6 ?_
  refine e_lcmp C dX5_laying_9 (by omega) (by omega) ?_
  rcases k5 p hp with hm | hv
  · rw [hm, if_neg (by decide), if_pos (by decide)]
    refine e_if_ne C (tgt := 36) dX5_laying_10 (by decide) (by omega) (fun h => absurd rfl h) (fun _ => ?_)
    refine e_aload_n C dX5_laying_13 rfl ?_
    refine e_getR C f_X5_214 hA.1 hA.2.2.2.2 dX5_laying_14 ?_
    refine e_iload_n C dX5_laying_17 rfl ?_
    refine e_aload_n C dX5_laying_18 rfl ?_
    refine e_getR C f_X5_28 sh_0 (hW 0 3 4 rfl) dX5_laying_19 ?_
    refine e_aload_n C dX5_laying_22 rfl ?_
    refine e_getR C f_X5_11 sh_0 (hW 0 0 1 rfl) dX5_laying_23 ?_
    refine e_iload_n C dX5_laying_26 rfl ?_
    refine e_aaload3 C dX5_laying_27 sh_1 _ rfl (by omega) (hW 1 p _ (rt_page p hp).1) ?_
    refine e_aload_n C dX5_laying_28 rfl ?_
    refine e_getR C f_X5_133 hA.1 hA.2.1 dX5_laying_29 ?_
    refine e_callV C (c_cheapest (M := M) (a := 38 + 5 * p) (e := a + 1) (Na := 8) (Ne := 16) (ca := (pgC M).1 p) (ns := nSp M a) (nb := (pgC M).1 p) hW (hG.1 p hp) k1 (by rw [if_neg (by omega)]) (pSh_page hW hp) hA.2.2.1 (by omega) hka ⟨hn8, by decide⟩ ⟨k2, by decide⟩ hw hbx2 k3) mt_X1_cheapest s_X5_195 dX5_laying_32 1 sh_4 rfl (fun r M1 hq => ?_)
    obtain ⟨K, rfl, hK, hag⟩ := hq
    dsimp only [Option.toList_some, List.singleton_append]
    have hc1 := cch_agO hag
    have hck : ckOk M a p K := hK
    have hW1 := cch_W hc1 hW
    have hA1 := pKd_ka hW1 ha
    refine e_lastore C dX5_laying_35 hA.2.2.2.1 _ rfl (by omega) ?_
    refine e_aload_n C dX5_laying_36 rfl ?_
    refine e_getR C f_X5_214 hA.1 hA1.2.2.2.2 dX5_laying_37 ?_
    refine e_iload_n C dX5_laying_40 rfl ?_
    refine e_laload C dX5_laying_41 hA.2.2.2.1 _ rfl (by omega) ?_
    rw [stL_s]
    exact e_lreturn C dX5_laying_42 ⟨K, rfl, hck, cch_tr hc1 (cch_stL hp ((cch_ck hc1 ha).mpr hck)), fun b j hb => (hag.1 b j (Or.inr hb)).1⟩
  · have := hrg _ hv
    refine e_if_ne C (tgt := 36) dX5_laying_10 (by decide) (by (repeat' split) <;> omega) (fun _ => ?_) (fun h => by (repeat' split at h) <;> omega)
    refine e_aload_n C dX5_laying_36 rfl ?_
    refine e_getR C f_X5_214 hA.1 hA.2.2.2.2 dX5_laying_37 ?_
    refine e_iload_n C dX5_laying_40 rfl ?_
    refine e_laload C dX5_laying_41 hA.2.2.2.1 _ rfl (by omega) ?_
    exact e_lreturn C dX5_laying_42 ⟨_, rfl, hv, cch_rf M, fun _ _ _ => rfl⟩
/-! ===== ranking a page ===== -/
noncomputable def ckF (M : pMem) (a p : Nat) : Int := Classical.epsilon (fun v => ckOk M a p v)
theorem ckF_e {M : pMem} {a p : Nat} {v : Int} (h : ckOk M a p v) : ckF M a p = v := isKey_one (Classical.epsilon_spec (p := fun v => ckOk M a p v) ⟨v, h⟩) h
def rk1 (s : Int × Int × Int) (k c : Int) : Int × Int × Int := if c < s.2.1 then (k, c, s.2.1) else if c < s.2.2 then (s.1, s.2.1, c) else s
def rkF (on : Nat → Bool) (c : Nat → Int) : Nat → Int × Int × Int
  | 0 => (-1, 1000000, 1000000)
  | k + 1 => if on k = true then rk1 (rkF on c k) (k : Int) (c k) else rkF on c k
theorem rkF_congr {on on' : Nat → Bool} {c c' : Nat → Int} : ∀ {n : Nat}, (∀ k, k < n → on k = on' k ∧ (on k = true → c k = c' k)) → rkF on c n = rkF on' c' n
  | 0, _ => rfl
  | n + 1, h => by
    simp only [rkF]
    rw [rkF_congr (fun k hk => h k (by omega)), (h n (by omega)).1]
    split
    · next q => rw [(h n (by omega)).2 (by rw [(h n (by omega)).1]; exact q)]
    · rfl
theorem rk1_r {t : Int × Int × Int} {k c : Int} (h : (-1 ≤ t.1 ∧ t.1 < 5) ∧ (0 ≤ t.2.1 ∧ t.2.1 ≤ 1000000) ∧ (0 ≤ t.2.2 ∧ t.2.2 ≤ 1000000)) (hk : 0 ≤ k ∧ k < 5) (hc : 0 ≤ c ∧ c ≤ 1000000) : (-1 ≤ (rk1 t k c).1 ∧ (rk1 t k c).1 < 5) ∧ (0 ≤ (rk1 t k c).2.1 ∧ (rk1 t k c).2.1 ≤ 1000000) ∧ (0 ≤ (rk1 t k c).2.2 ∧ (rk1 t k c).2.2 ≤ 1000000) := by
  unfold rk1
  split
  · dsimp only; omega
  · split
    · dsimp only; omega
    · exact h
def onM (M : pMem) (κ : Nat → Nat) (k : Nat) : Bool := decide (0 < mI M (κ k) 2)
noncomputable def coM (M : pMem) (κ : Nat → Nat) (p k : Nat) : Int := ckF M (κ k) p / 341812114609
noncomputable def rkM (M : pMem) (κ : Nat → Nat) (p n : Nat) : Int × Int × Int := rkF (onM M κ) (coM M κ p) n
def rkH (M : pMem) (t : Int × Int × Int) : Prop := mI M 19 0 = t.1 ∧ mI M 19 1 = t.2.1 ∧ mI M 19 2 = t.2.2
theorem takeM_o {M : pMem} {k c : Int} {b j : Nat} (h : b ≠ 19) : mI (takeM M k c) b j = mI M b j := by
  unfold takeM
  split
  · rw [stI_n _ _ (Or.inl h), stI_n _ _ (Or.inl h), stI_n _ _ (Or.inl h)]
  · split
    · rw [stI_n _ _ (Or.inl h)]
    · rfl
theorem rk_take {M : pMem} {t : Int × Int × Int} {k c : Int} (h : rkH M t) : rkH (takeM M k c) (rk1 t k c) ∧ cch M (takeM M k c) := by
  obtain ⟨h0, h1, h2⟩ := h
  unfold takeM rk1
  rw [h1, h2]
  split
  · exact ⟨⟨stI_s _ _ _ _, by rw [stI_n _ _ (by decide), stI_s], by rw [stI_n _ _ (by decide), stI_n _ _ (by decide), stI_s]⟩, cch_tr cch_19 (cch_tr cch_19 cch_19)⟩
  · split
    · exact ⟨⟨by rw [stI_n _ _ (by decide)]; exact h0, by rw [stI_n _ _ (by decide)]; exact h1, stI_s _ _ _ _⟩, cch_19⟩
    · exact ⟨⟨h0, h1, h2⟩, cch_rf M⟩
theorem c_rank {g : pG} {M : pMem} {ar p : Nat} {κ : Nat → Nat} (hW : pW M) (hG : pgM M) (hw : wtOk (wtC M)) (hp : p < 16) (hsr : SH[ar]? = some (.inr (4, 5))) (hκ : ∀ k, k < 5 → mR M ar k = some (κ k) ∧ kaK (κ k) ∧ kdOk M (κ k)) (hlm : 0 ≤ mI M 0 13 ∧ mI M 0 13 ≤ 1000) (hgp : 0 ≤ mI M 0 14 ∧ mI M 0 14 ≤ 1000) :
    pCn g 6 0 0 yX5_rank cX5_rank 4 (some .int) SH SH M [.inr (.inr 0), .inl (p : Int), .inr (.inr ar)] (fun r M' => r = some (.inl (ansI (rkM M κ p 5).1 (rkM M κ p 5).2.1 (rkM M κ p 5).2.2 (mI M 0 13) (mI M 0 14))) ∧ (rkH M' (rkM M κ p 5) ∧ rkOk M') ∧ cch M M' ∧ ∀ b j, 15 ≤ b → b ≠ 19 → mI M' b j = mI M b j) := by
  refine pCn_intro mt_X5_rank (fun X C => ?_)
  have hn8 := (hG.2.1 p hp).1
  have hbx2 : bxOk ((pgC M).1 p) (shB M (38 + 5 * p)) := (hG.2.1 p hp).2
  have loop : ∀ (k : Nat) (N : pMem), k ≤ 5 → (cch M N ∧ rkH N (rkM M κ p k) ∧ rkOk N ∧ ∀ b j, 15 ≤ b → b ≠ 19 → mI N b j = mI M b j) → pE g 4 X (pMQ g SH (fun r M' => r = some (.inl (ansI (rkM M κ p 5).1 (rkM M κ p 5).2.1 (rkM M κ p 5).2.2 (mI M 0 13) (mI M 0 14))) ∧ (rkH M' (rkM M κ p 5) ∧ rkOk M') ∧ cch M M' ∧ ∀ b j, 15 ≤ b → b ≠ 19 → mI M' b j = mI M b j) X 0 0) SH N 0 0 9 [some (.inr (.inr 0)), some (.inl (p : Int)), some (.inr (.inr ar)), some (.inl (k : Int))] [] := by
    refine p_for 5 _ _ ?_ ?_
    · rintro N ⟨hcN, hH, hO, hsm⟩
      have hWN := cch_W hcN hW
      have e13 : mI N 0 13 = mI M 0 13 := hcN.2.1 0 13 (by omega) (by decide) (by decide) (by decide)
      have e14 : mI N 0 14 = mI M 0 14 := hcN.2.1 0 14 (by omega) (by decide) (by decide) (by decide)
      refine e_iload_n C dX5_rank_9 rfl ?_
      refine e_iconst C dX5_rank_10 ?_
      refine e_icmp_ge C (tgt := 48) dX5_rank_11 (by decide) (by omega) (by omega) (fun h_11 => ?_) (fun h_11 => by exfalso; omega)
      refine e_aload_n C dX5_rank_48 rfl ?_
      refine e_getR C f_X5_42 sh_0 (hWN 0 5 19 rfl) dX5_rank_49 ?_
      refine e_aload_n C dX5_rank_52 rfl ?_
      refine e_getI C f_X5_70 sh_0 dX5_rank_53 ?_
      rw [e13]
      refine e_aload_n C dX5_rank_56 rfl ?_
      refine e_getI C f_X5_73 sh_0 dX5_rank_57 ?_
      rw [e14]
      refine e_callV C (c_answer (M := N) (lim := mI M 0 13) (gap := mI M 0 14) (by omega) (by omega) hO) mt_X3_answer s_X5_237 dX5_rank_60 3 sh_19 rfl (fun r M1 hq => ?_)
      obtain ⟨rfl, hM⟩ := hq
      subst M1
      dsimp only [Option.toList_some, List.singleton_append]
      exact e_ireturn C dX5_rank_63 ⟨by rw [hH.1, hH.2.1, hH.2.2], ⟨hH, hO⟩, hcN, hsm⟩
    · rintro k N hk5 ⟨hcN, hH, hO, hsm⟩ ih
      have hWN := cch_W hcN hW
      have hkκ := (hκ k hk5).2.1
      have hKk := pKd_ka hWN hkκ
      have hkd : kdOk N (κ k) := cch_kd hcN hkκ (hκ k hk5).2.2
      have e2 : mI N (κ k) 2 = mI M (κ k) 2 := by unfold kaK at hkκ; exact hcN.2.1 _ 2 (by omega) (by omega) (by omega) (by omega)
      have hkr := (hκ k hk5).2.2.2.2.2.1
      by_cases hon : 0 < mI M (κ k) 2
      · refine e_iload_n C dX5_rank_9 rfl ?_
        refine e_iconst C dX5_rank_10 ?_
        refine e_icmp_ge C (tgt := 48) dX5_rank_11 (by decide) (by omega) (by omega) (fun h_11 => by exfalso; omega) (fun h_11 => ?_)
        refine e_aload_n C dX5_rank_14 rfl ?_
        refine e_iload_n C dX5_rank_15 rfl ?_
        refine e_aaload4 C dX5_rank_16 hsr _ rfl (by omega) ((hcN.1 _ _).trans (hκ k hk5).1) ?_
        refine e_getI C f_X5_132 hKk.1 dX5_rank_17 ?_
        rw [e2]
        refine e_if_le C (tgt := 42) dX5_rank_20 (by decide) (by omega) (fun h_20 => by exfalso; omega) (fun h_20 => ?_)
        refine e_aload_n C dX5_rank_23 rfl ?_
        refine e_getR C f_X5_42 sh_0 (hWN 0 5 19 rfl) dX5_rank_24 ?_
        refine e_iload_n C dX5_rank_27 rfl ?_
        refine e_aload_n C dX5_rank_28 rfl ?_
        refine e_iload_n C dX5_rank_29 rfl ?_
        refine e_aload_n C dX5_rank_30 rfl ?_
        refine e_iload_n C dX5_rank_31 rfl ?_
        refine e_aaload4 C dX5_rank_32 hsr _ rfl (by omega) ((hcN.1 _ _).trans (hκ k hk5).1) ?_
        refine e_callV C (c_laying (M := N) (a := κ k) (p := p) hWN (cch_pM hcN hG) (by rw [cch_wt hcN]; exact hw) hp hkκ hkd) mt_X5_laying s_X5_153 dX5_rank_33 5 sh_0 rfl (fun r M1 hq => ?_)
        obtain ⟨K, rfl, hK, hc2, hsame⟩ := hq
        dsimp only [Option.toList_some, List.singleton_append]
        have hK' := (cch_ck hcN hkκ).mp hK
        have hKr := isKey_r hw hbx2 (hκ k hk5).2.2.2.2.1 hn8 (hκ k hk5).2.2.2.1 hK'
        have hWM := cch_W hc2 hWN
        have hcM := cch_tr hcN hc2
        refine e_callS C (c_costIn (K := K) (by omega)) mt_X5_costIn s_X5_157 dX5_rank_36 (fun r2 M2 hq2 => ?_)
        obtain ⟨rfl, hM2⟩ := hq2
        subst M2
        dsimp only [Option.toList_some, List.singleton_append]
        have hH2 : rkH M1 (rkM M κ p k) := ⟨(hsame 19 0 (by decide)).trans hH.1, (hsame 19 1 (by decide)).trans hH.2.1, (hsame 19 2 (by decide)).trans hH.2.2⟩
        have hO2 : rkOk M1 := by unfold rkOk at hO ⊢; rw [hsame 19 0 (by decide), hsame 19 1 (by decide), hsame 19 2 (by decide)]; exact hO
        refine e_callV C (c_take (k := (k : Int)) (c := K / 341812114609) (by omega) hO2) mt_X3_take s_X5_234 dX5_rank_39 3 sh_19 rfl (fun r3 M3 hq3 => ?_)
        obtain ⟨rfl, hM3⟩ := hq3
        subst M3
        dsimp only [Option.toList_none, List.nil_append]
        refine e_iinc C dX5_rank_42 rfl ?_
        refine e_goto C (tgt := 9) dX5_rank_45 (by decide) ?_
        have hst : rkM M κ p (k + 1) = rk1 (rkM M κ p k) (k : Int) (K / 341812114609) := by
          unfold rkM
          simp only [rkF]
          rw [if_pos (show onM M κ k = true from decide_eq_true hon), show coM M κ p k = K / 341812114609 from by unfold coM; rw [ckF_e hK']]
        obtain ⟨t1, t2⟩ := rk_take (k := (k : Int)) (c := K / 341812114609) hH2
        rw [← hst] at t1
        refine ih _ ⟨cch_tr hcM t2, t1, ?_, fun b j hb h19 => ?_⟩
        rotate_left
        · rw [takeM_o h19, hsame b j hb]; exact hsm b j hb h19
        unfold rkOk at hO2 ⊢
        rw [hH2.1, hH2.2.1, hH2.2.2] at hO2
        rw [t1.1, t1.2.1, t1.2.2, hst]
        exact rk1_r hO2 (by omega) (by omega)
      · refine e_iload_n C dX5_rank_9 rfl ?_
        refine e_iconst C dX5_rank_10 ?_
        refine e_icmp_ge C (tgt := 48) dX5_rank_11 (by decide) (by omega) (by omega) (fun h_11 => by exfalso; omega) (fun h_11 => ?_)
        refine e_aload_n C dX5_rank_14 rfl ?_
        refine e_iload_n C dX5_rank_15 rfl ?_
        refine e_aaload4 C dX5_rank_16 hsr _ rfl (by omega) ((hcN.1 _ _).trans (hκ k hk5).1) ?_
        refine e_getI C f_X5_132 hKk.1 dX5_rank_17 ?_
        rw [e2]
        refine e_if_le C (tgt := 42) dX5_rank_20 (by decide) (by omega) (fun h_20 => ?_) (fun h_20 => by exfalso; omega)
        refine e_iinc C dX5_rank_42 rfl ?_
        refine e_goto C (tgt := 9) dX5_rank_45 (by decide) ?_
        refine ih N ⟨hcN, ?_, hO, hsm⟩
        have hst : rkM M κ p (k + 1) = rkM M κ p k := by
          unfold rkM
          simp only [rkF]
          rw [if_neg (show ¬ onM M κ k = true from fun q => hon (of_decide_eq_true q))]
        rw [hst]; exact hH
  show pE g 4 X _ SH M 0 0 0 [some (.inr (.inr 0)), some (.inl (p : Int)), some (.inr (.inr ar)), none] []
  refine e_aload_n C dX5_rank_0 rfl ?_
  refine e_getR C f_X5_42 sh_0 (hW 0 5 19 rfl) dX5_rank_1 ?_
  refine e_callV C (c_rclear (M := M)) mt_X3_clear s_X5_231 dX5_rank_4 3 sh_19 rfl (fun r M1 hq => ?_)
  obtain ⟨rfl, hM⟩ := hq
  subst M1
  dsimp only [Option.toList_none, List.nil_append]
  refine e_iconst C dX5_rank_7 ?_
  refine e_istore_n C dX5_rank_8 ?_
  exact loop 0 (stI (stI (stI M 19 0 (-1)) 19 1 1000000) 19 2 1000000) (by omega) ⟨cch_tr cch_19 (cch_tr cch_19 cch_19), ⟨by rw [stI_n _ _ (by decide), stI_n _ _ (by decide), stI_s]; rfl, by rw [stI_n _ _ (by decide), stI_s]; rfl, stI_s _ _ _ _⟩, by
    unfold rkOk
    rw [show mI (stI (stI (stI M 19 0 (-1)) 19 1 1000000) 19 2 1000000) 19 0 = -1 by rw [stI_n _ _ (by decide), stI_n _ _ (by decide), stI_s], show mI (stI (stI (stI M 19 0 (-1)) 19 1 1000000) 19 2 1000000) 19 1 = 1000000 by rw [stI_n _ _ (by decide), stI_s], stI_s]
    decide, fun b j _ h19 => by rw [stI_n _ _ (Or.inl h19), stI_n _ _ (Or.inl h19), stI_n _ _ (Or.inl h19)]⟩
