/-! ===== heaps: the least page that a chain leads to ===== -/
def cnG (n : Nat) (L : Nat → Prop) (E : Nat → Nat → Prop) (a b : Nat) : Prop := ∀ S : Nat → Prop, (∀ x y, x < y → y < n → L x → L y → E x y → (S x ↔ S y)) → (S a ↔ S b)
theorem cnG_rf {n : Nat} {L : Nat → Prop} {E : Nat → Nat → Prop} (a : Nat) : cnG n L E a a := fun _ _ => Iff.rfl
theorem cnG_tr {n : Nat} {L : Nat → Prop} {E : Nat → Nat → Prop} {a b c : Nat} (h : cnG n L E a b) (h2 : cnG n L E b c) : cnG n L E a c := fun S hS => (h S hS).trans (h2 S hS)
theorem cnG_sy {n : Nat} {L : Nat → Prop} {E : Nat → Nat → Prop} {a b : Nat} (h : cnG n L E a b) : cnG n L E b a := fun S hS => (h S hS).symm
theorem cnG_e {n : Nat} {L : Nat → Prop} {E : Nat → Nat → Prop} {a b : Nat} (h : a < b) (hb : b < n) (h1 : L a) (h2 : L b) (h3 : E a b) : cnG n L E a b := fun _ hS => hS a b h hb h1 h2 h3
/-- labels: of loose pages a loose page not above them that a chain leads to -/
def hpI (n : Nat) (L : Nat → Prop) (E : Nat → Nat → Prop) (H : Nat → Int) : Prop := (∀ p, p < n → ¬ L p → H p = -1) ∧ ∀ p, p < n → L p → ∃ q : Nat, H p = (q : Int) ∧ q ≤ p ∧ L q ∧ cnG n L E p q
def hpS (n : Nat) (L : Nat → Prop) (E : Nat → Nat → Prop) (H : Nat → Int) : Prop := hpI n L E H ∧ ∀ p q, p < q → q < n → L p → L q → E p q → H p = H q
theorem hpS_one {n : Nat} {L : Nat → Prop} {E : Nat → Nat → Prop} {H J : Nat → Int} (h : hpS n L E H) (h2 : hpS n L E J) : ∀ p, p < n → H p = J p := by
  have key : ∀ (H J : Nat → Int), hpS n L E H → hpS n L E J → ∀ p, p < n → L p → J p ≤ H p := by
    intro H J h h2 p hp hL
    obtain ⟨q, q1, q2, q3, q4⟩ := h.1.2 p hp hL
    have e : J p = J q := by
      have := q4 (fun x => J p = J x) (fun x y hxy hy hx1 hy1 hE => by rw [h2.2 x y hxy hy hx1 hy1 hE])
      exact this.mp rfl
    obtain ⟨r, r1, r2, r3, r4⟩ := h2.1.2 q (by omega) q3
    omega
  intro p hp
  by_cases hL : L p
  · have a := key H J h h2 p hp hL
    have b := key J H h2 h p hp hL
    omega
  · rw [h.1.1 p hp hL, h2.1.1 p hp hL]
theorem hpI_0 {n : Nat} {L : Nat → Prop} {E : Nat → Nat → Prop} {H : Nat → Int} (h1 : ∀ p, p < n → L p → H p = (p : Int)) (h2 : ∀ p, p < n → ¬ L p → H p = -1) : hpI n L E H := ⟨h2, fun p hp hL => ⟨p, h1 p hp hL, Nat.le_refl _, hL, cnG_rf p⟩⟩
theorem hpI_j {n : Nat} {L : Nat → Prop} {E : Nat → Nat → Prop} {H J : Nat → Int} {a b : Nat} (h : hpI n L E H) (hab : a < b) (hb : b < n) (ha1 : L a) (hb1 : L b) (hE : E a b) (hJ : ∀ i, i < n → J i = if H i = (if H a < H b then H b else H a) then (if H a < H b then H a else H b) else H i) : hpI n L E J ∧ (∀ p q, p < n → q < n → H p = H q → J p = J q) ∧ J a = J b := by
  obtain ⟨qa, a1, a2, a3, a4⟩ := h.2 a (by omega) ha1
  obtain ⟨qb, b1, b2, b3, b4⟩ := h.2 b hb hb1
  have hc : cnG n L E qa qb := cnG_tr (cnG_sy a4) (cnG_tr (cnG_e hab hb ha1 hb1 hE) b4)
  refine ⟨⟨fun p hp hL => ?_, fun p hp hL => ?_⟩, fun p q hp hq e => by rw [hJ p hp, hJ q hq, e], ?_⟩
  · have := h.1 p hp hL
    rw [hJ p hp, this, if_neg]
    split <;> omega
  · obtain ⟨q, q1, q2, q3, q4⟩ := h.2 p hp hL
    rw [hJ p hp]
    by_cases hlt : H a < H b
    · rw [if_pos hlt, if_pos hlt]
      by_cases e : H p = H b
      · rw [if_pos e]
        have eq : q = qb := by omega
        subst eq
        exact ⟨qa, a1, by omega, a3, cnG_tr q4 (cnG_sy hc)⟩
      · rw [if_neg e]; exact ⟨q, q1, q2, q3, q4⟩
    · rw [if_neg hlt, if_neg hlt]
      by_cases e : H p = H a
      · rw [if_pos e]
        have eq : q = qa := by omega
        subst eq
        exact ⟨qb, b1, by omega, b3, cnG_tr q4 hc⟩
      · rw [if_neg e]; exact ⟨q, q1, q2, q3, q4⟩
  · rw [hJ a (by omega), hJ b hb]
    by_cases hlt : H a < H b
    · rw [if_pos hlt, if_pos hlt, if_neg (by omega), if_pos rfl]
    · rw [if_neg hlt, if_neg hlt, if_pos rfl]
      by_cases e : H b = H a
      · rw [if_pos e]
      · rw [if_neg e]
/-! ===== findHeaps ===== -/
def kap (k : Nat) : Nat := 118 + 7 * k
noncomputable def soM (M : pMem) (p : Nat) : Int := ansI (rkM M kap p 5).1 (rkM M kap p 5).2.1 (rkM M kap p 5).2.2 (mI M 0 13) (mI M 0 14)
def lsM (M : pMem) (p : Nat) : Prop := mI M 2 p = -1 ∧ soM M p = 10
def neM (M : pMem) (p q : Nat) : Prop := nrF M p q ≤ mI M 0 15
theorem ckF_c {M N : pMem} (h : cch M N) {a : Nat} (ha : kaK a) (p : Nat) : ckF N a p = ckF M a p := by
  unfold ckF
  have : (fun v => ckOk N a p v) = (fun v => ckOk M a p v) := funext (fun v => propext (cch_ck h ha))
  rw [this]
theorem rkM_c {M N : pMem} (h : cch M N) {κ : Nat → Nat} (hκ : ∀ k, k < 5 → kaK (κ k)) (p : Nat) : rkM N κ p 5 = rkM M κ p 5 := by
  unfold rkM
  refine rkF_congr (fun k hk => ⟨?_, fun _ => ?_⟩)
  · unfold onM
    have ha := hκ k hk
    rw [show mI N (κ k) 2 = mI M (κ k) 2 from by unfold kaK at ha; exact h.2.1 _ 2 (by omega) (by omega) (by omega) (by omega)]
  · unfold coM; rw [ckF_c h (hκ k hk)]
theorem soM_c {M N : pMem} (h : cch M N) (p : Nat) : soM N p = soM M p := by
  unfold soM
  rw [rkM_c (κ := kap) h (fun k hk => kaK_k hk), h.2.1 0 13 (by omega) (by decide) (by decide) (by decide), h.2.1 0 14 (by omega) (by decide) (by decide) (by decide)]
theorem nrF_c {M N : pMem} (h : cch M N) (p q : Nat) : nrF N p q = nrF M p q := by
  unfold nrF
  have : (fun v => nrOk N p q v) = (fun v => nrOk M p q v) := funext (fun v => propext (cch_nr h))
  rw [this]
theorem c_rankK {g : pG} {M : pMem} {p : Nat} (hJ : JC M) (hp : p < 16) :
    pCn g 6 0 0 yX5_rank cX5_rank 4 (some .int) SH SH M [.inr (.inr 0), .inl (p : Int), .inr (.inr 3)] (fun r M' => r = some (.inl (soM M p)) ∧ (rkH M' (rkM M kap p 5) ∧ rkOk M') ∧ cch M M' ∧ ∀ b j, 15 ≤ b → b ≠ 19 → mI M' b j = mI M b j) :=
  c_rank (κ := kap) hJ.1 hJ.2.1 hJ.2.2.1 hp rfl (fun k hk => ⟨hJ.1 3 k _ (rt_kind k hk).1, kaK_k hk, (hJ.2.2.2.2.2.2.2.2.1 k hk).1⟩) hJ.2.2.2.2.2.2.1.1 hJ.2.2.2.2.2.2.1.2.1
theorem ansI_r {b l n lim gap : Int} (h : -1 ≤ b ∧ b < 5) : -1 ≤ ansI b l n lim gap ∧ ansI b l n lim gap ≤ 11 := by
  unfold ansI; split
  · omega
  · split <;> omega
theorem rkF_b {on : Nat → Bool} {c : Nat → Int} : ∀ {n : Nat}, n ≤ 5 → -1 ≤ (rkF on c n).1 ∧ (rkF on c n).1 < 5
  | 0, _ => by simp [rkF]
  | n + 1, h => by
    have ih := rkF_b (on := on) (c := c) (n := n) (by omega)
    simp only [rkF]
    split
    · unfold rk1
      split
      · dsimp only; omega
      · split
        · exact ih
        · exact ih
    · exact ih
theorem soM_r (M : pMem) (p : Nat) : -1 ≤ soM M p ∧ soM M p ≤ 11 := ansI_r (rkF_b (Nat.le_refl _))
theorem c_findHeaps {g : pG} {M : pMem} {n : Nat} (hJ : JC M) (hn : mI M 0 12 = (n : Int)) :
    pCn g 7 0 0 yX5_findHeaps cX5_findHeaps 3 none SH SH M [.inr (.inr 0)] (fun r M' => r = none ∧ cch M M' ∧ hpS n (lsM M) (neM M) (mI M' 37)) := by
  refine pCn_intro mt_X5_findHeaps (fun X C => ?_)
  have hn16 : n ≤ 16 := by have := hJ.2.2.2.1; omega
  have hnr := hJ.2.2.2.2.2.2.1.2.2
  have lo : ∀ (i : Nat) (s : pMem × Option pV), i ≤ n → (cch M s.1 ∧ hpI n (lsM M) (neM M) (mI s.1 37) ∧ ∀ p q, p < i → p < q → q < n → lsM M p → lsM M q → neM M p q → mI s.1 37 p = mI s.1 37 q) → pE g 3 X (pMQ g SH (fun r M' => r = none ∧ cch M M' ∧ hpS n (lsM M) (neM M) (mI M' 37)) X 0 0) SH s.1 0 0 63 [some (.inr (.inr 0)), some (.inl (i : Int)), s.2] [] := by
    refine p_for n _ _ ?_ ?_
    · rintro ⟨N, x2⟩ ⟨hc, hI, hE⟩
      dsimp only at hc hI hE ⊢
      have hWN := cch_W hc hJ.1
      have e12 : mI N 0 12 = (n : Int) := (hc.2.1 0 12 (by omega) (by decide) (by decide) (by decide)).trans hn
      refine e_iload_n C dX5_findHeaps_63 rfl ?_
      refine e_aload_n C dX5_findHeaps_64 rfl ?_
      refine e_getI C f_X5_66 sh_0 dX5_findHeaps_65 ?_
      rw [e12]
      refine e_icmp_ge C (tgt := 159) dX5_findHeaps_68 (by decide) (by omega) (by omega) (fun h_68 => ?_) (fun h_68 => by exfalso; omega)
      exact e_return C dX5_findHeaps_159 ⟨rfl, hc, hI, fun p q hp hq => hE p q (by omega) hp hq⟩
    · rintro i ⟨N0, x2⟩ hi ⟨hc0, hI0, hE0⟩ ih
      dsimp only at hc0 hI0 hE0 ih ⊢
      have inn : ∀ (u : Nat) (N : pMem), u ≤ n → (i < u ∧ cch M N ∧ hpI n (lsM M) (neM M) (mI N 37) ∧ (∀ p q, p < i → p < q → q < n → lsM M p → lsM M q → neM M p q → mI N 37 p = mI N 37 q) ∧ ∀ q, i < q → q < u → lsM M i → lsM M q → neM M i q → mI N 37 i = mI N 37 q) → pE g 3 X (pMQ g SH (fun r M' => r = none ∧ cch M M' ∧ hpS n (lsM M) (neM M) (mI M' 37)) X 0 0) SH N 0 0 75 [some (.inr (.inr 0)), some (.inl (i : Int)), some (.inl (u : Int))] [] := by
        refine p_for n _ _ ?_ ?_
        · rintro N ⟨-, hc, hI, hE, hU⟩
          have hWN := cch_W hc hJ.1
          have e12 : mI N 0 12 = (n : Int) := (hc.2.1 0 12 (by omega) (by decide) (by decide) (by decide)).trans hn
          refine e_iload_n C dX5_findHeaps_75 rfl ?_
          refine e_aload_n C dX5_findHeaps_76 rfl ?_
          refine e_getI C f_X5_66 sh_0 dX5_findHeaps_77 ?_
          rw [e12]
          refine e_icmp_ge C (tgt := 153) dX5_findHeaps_80 (by decide) (by omega) (by omega) (fun h_80 => ?_) (fun h_80 => by exfalso; omega)
          refine e_iinc C dX5_findHeaps_153 rfl ?_
          refine e_goto C (tgt := 63) dX5_findHeaps_156 (by decide) ?_
          refine ih (N, _) ⟨hc, hI, fun p q hp hpq hq => ?_⟩
          rcases Nat.lt_or_ge p i with z | z
          · exact hE p q z hpq hq
          · have : p = i := by omega
            subst this; exact hU q hpq hq
        · rintro u N hu ⟨hiu, hc, hI, hE, hU⟩ ih2
          have hWN := cch_W hc hJ.1
          have e12 : mI N 0 12 = (n : Int) := (hc.2.1 0 12 (by omega) (by decide) (by decide) (by decide)).trans hn
          have e15 : mI N 0 15 = mI M 0 15 := hc.2.1 0 15 (by omega) (by decide) (by decide) (by decide)
          have hri : ∀ x, x < n → -1 ≤ mI N 37 x ∧ mI N 37 x < 16 := fun x hx => by
            by_cases hL : lsM M x
            · obtain ⟨q, q1, q2, -, -⟩ := hI.2 x hx hL; omega
            · have := hI.1 x hx hL; omega
          have hr1 := hri i (by omega)
          have hr2 := hri u hu
          have hLs : ∀ x, x < n → mI N 37 x ≠ -1 → lsM M x := fun x hx hne => Classical.byContradiction (fun q => hne (hI.1 x hx q))
          have skip : (lsM M i → lsM M u → neM M i u → mI N 37 i = mI N 37 u) → i < u + 1 ∧ cch M N ∧ hpI n (lsM M) (neM M) (mI N 37) ∧ (∀ p q, p < i → p < q → q < n → lsM M p → lsM M q → neM M p q → mI N 37 p = mI N 37 q) ∧ ∀ q, i < q → q < u + 1 → lsM M i → lsM M q → neM M i q → mI N 37 i = mI N 37 q := fun hs => ⟨by omega, hc, hI, hE, fun q h1 h2 => by
            rcases Nat.lt_or_ge q u with z | z
            · exact hU q h1 z
            · have : q = u := by omega
              subst this; exact hs⟩
          by_cases hLi : lsM M i
          rotate_left
          · refine e_iload_n C dX5_findHeaps_75 rfl ?_
            refine e_aload_n C dX5_findHeaps_76 rfl ?_
            refine e_getI C f_X5_66 sh_0 dX5_findHeaps_77 ?_
            rw [e12]
            refine e_icmp_ge C (tgt := 153) dX5_findHeaps_80 (by decide) (by omega) (by omega) (fun h_80 => by exfalso; omega) (fun h_80 => ?_)
            refine e_aload_n C dX5_findHeaps_83 rfl ?_
            refine e_getR C f_X5_63 sh_0 (hWN 0 11 37 rfl) dX5_findHeaps_84 ?_
            refine e_iload_n C dX5_findHeaps_87 rfl ?_
            refine e_iaload C dX5_findHeaps_88 sh_37 _ rfl (by omega) ?_
            refine e_iconst C dX5_findHeaps_89 ?_
            refine e_icmp_eq C (tgt := 147) dX5_findHeaps_90 (by decide) (by omega) (by omega) (fun h_90 => ?_) (fun h_90 => by exact absurd (hI.1 i (by omega) hLi) h_90)
            refine e_iinc C dX5_findHeaps_147 rfl ?_
            refine e_goto C (tgt := 75) dX5_findHeaps_150 (by decide) ?_
            exact ih2 N (skip (fun q => absurd q hLi))
          by_cases hLu : lsM M u
          rotate_left
          · refine e_iload_n C dX5_findHeaps_75 rfl ?_
            refine e_aload_n C dX5_findHeaps_76 rfl ?_
            refine e_getI C f_X5_66 sh_0 dX5_findHeaps_77 ?_
            rw [e12]
            refine e_icmp_ge C (tgt := 153) dX5_findHeaps_80 (by decide) (by omega) (by omega) (fun h_80 => by exfalso; omega) (fun h_80 => ?_)
            refine e_aload_n C dX5_findHeaps_83 rfl ?_
            refine e_getR C f_X5_63 sh_0 (hWN 0 11 37 rfl) dX5_findHeaps_84 ?_
            refine e_iload_n C dX5_findHeaps_87 rfl ?_
            refine e_iaload C dX5_findHeaps_88 sh_37 _ rfl (by omega) ?_
            refine e_iconst C dX5_findHeaps_89 ?_
            refine e_icmp_eq C (tgt := 147) dX5_findHeaps_90 (by decide) (by omega) (by omega) (fun h_90 => by obtain ⟨q, q1, -⟩ := hI.2 i (by omega) hLi; exfalso; omega) (fun h_90 => ?_)
            refine e_aload_n C dX5_findHeaps_93 rfl ?_
            refine e_getR C f_X5_63 sh_0 (hWN 0 11 37 rfl) dX5_findHeaps_94 ?_
            refine e_iload_n C dX5_findHeaps_97 rfl ?_
            refine e_iaload C dX5_findHeaps_98 sh_37 _ rfl (by omega) ?_
            refine e_iconst C dX5_findHeaps_99 ?_
            refine e_icmp_eq C (tgt := 147) dX5_findHeaps_100 (by decide) (by omega) (by omega) (fun h_100 => ?_) (fun h_100 => by exact absurd (hI.1 u hu hLu) h_100)
            refine e_iinc C dX5_findHeaps_147 rfl ?_
            refine e_goto C (tgt := 75) dX5_findHeaps_150 (by decide) ?_
            exact ih2 N (skip (fun _ q => absurd q hLu))
          obtain ⟨qi, qi1, qi2, -, -⟩ := hI.2 i (by omega) hLi
          obtain ⟨qu, qu1, qu2, -, -⟩ := hI.2 u hu hLu
          by_cases heq : mI N 37 i = mI N 37 u
          · refine e_iload_n C dX5_findHeaps_75 rfl ?_
            refine e_aload_n C dX5_findHeaps_76 rfl ?_
            refine e_getI C f_X5_66 sh_0 dX5_findHeaps_77 ?_
            rw [e12]
            refine e_icmp_ge C (tgt := 153) dX5_findHeaps_80 (by decide) (by omega) (by omega) (fun h_80 => by exfalso; omega) (fun h_80 => ?_)
            refine e_aload_n C dX5_findHeaps_83 rfl ?_
            refine e_getR C f_X5_63 sh_0 (hWN 0 11 37 rfl) dX5_findHeaps_84 ?_
            refine e_iload_n C dX5_findHeaps_87 rfl ?_
            refine e_iaload C dX5_findHeaps_88 sh_37 _ rfl (by omega) ?_
            refine e_iconst C dX5_findHeaps_89 ?_
            refine e_icmp_eq C (tgt := 147) dX5_findHeaps_90 (by decide) (by omega) (by omega) (fun h_90 => by exfalso; omega) (fun h_90 => ?_)
            refine e_aload_n C dX5_findHeaps_93 rfl ?_
            refine e_getR C f_X5_63 sh_0 (hWN 0 11 37 rfl) dX5_findHeaps_94 ?_
            refine e_iload_n C dX5_findHeaps_97 rfl ?_
            refine e_iaload C dX5_findHeaps_98 sh_37 _ rfl (by omega) ?_
            refine e_iconst C dX5_findHeaps_99 ?_
            refine e_icmp_eq C (tgt := 147) dX5_findHeaps_100 (by decide) (by omega) (by omega) (fun h_100 => by exfalso; omega) (fun h_100 => ?_)
            refine e_aload_n C dX5_findHeaps_103 rfl ?_
            refine e_getR C f_X5_63 sh_0 (hWN 0 11 37 rfl) dX5_findHeaps_104 ?_
            refine e_iload_n C dX5_findHeaps_107 rfl ?_
            refine e_iaload C dX5_findHeaps_108 sh_37 _ rfl (by omega) ?_
            refine e_aload_n C dX5_findHeaps_109 rfl ?_
            refine e_getR C f_X5_63 sh_0 (hWN 0 11 37 rfl) dX5_findHeaps_110 ?_
            refine e_iload_n C dX5_findHeaps_113 rfl ?_
            refine e_iaload C dX5_findHeaps_114 sh_37 _ rfl (by omega) ?_
            refine e_icmp_eq C (tgt := 147) dX5_findHeaps_115 (by decide) (by omega) (by omega) (fun h_115 => ?_) (fun h_115 => by exfalso; omega)
            refine e_iinc C dX5_findHeaps_147 rfl ?_
            refine e_goto C (tgt := 75) dX5_findHeaps_150 (by decide) ?_
            exact ih2 N (skip (fun _ _ _ => heq))
          refine e_iload_n C dX5_findHeaps_75 rfl ?_
          refine e_aload_n C dX5_findHeaps_76 rfl ?_
          refine e_getI C f_X5_66 sh_0 dX5_findHeaps_77 ?_
          rw [e12]
          refine e_icmp_ge C (tgt := 153) dX5_findHeaps_80 (by decide) (by omega) (by omega) (fun h_80 => by exfalso; omega) (fun h_80 => ?_)
          refine e_aload_n C dX5_findHeaps_83 rfl ?_
          refine e_getR C f_X5_63 sh_0 (hWN 0 11 37 rfl) dX5_findHeaps_84 ?_
          refine e_iload_n C dX5_findHeaps_87 rfl ?_
          refine e_iaload C dX5_findHeaps_88 sh_37 _ rfl (by omega) ?_
          refine e_iconst C dX5_findHeaps_89 ?_
          refine e_icmp_eq C (tgt := 147) dX5_findHeaps_90 (by decide) (by omega) (by omega) (fun h_90 => by exfalso; omega) (fun h_90 => ?_)
          refine e_aload_n C dX5_findHeaps_93 rfl ?_
          refine e_getR C f_X5_63 sh_0 (hWN 0 11 37 rfl) dX5_findHeaps_94 ?_
          refine e_iload_n C dX5_findHeaps_97 rfl ?_
          refine e_iaload C dX5_findHeaps_98 sh_37 _ rfl (by omega) ?_
          refine e_iconst C dX5_findHeaps_99 ?_
          refine e_icmp_eq C (tgt := 147) dX5_findHeaps_100 (by decide) (by omega) (by omega) (fun h_100 => by exfalso; omega) (fun h_100 => ?_)
          refine e_aload_n C dX5_findHeaps_103 rfl ?_
          refine e_getR C f_X5_63 sh_0 (hWN 0 11 37 rfl) dX5_findHeaps_104 ?_
          refine e_iload_n C dX5_findHeaps_107 rfl ?_
          refine e_iaload C dX5_findHeaps_108 sh_37 _ rfl (by omega) ?_
          refine e_aload_n C dX5_findHeaps_109 rfl ?_
          refine e_getR C f_X5_63 sh_0 (hWN 0 11 37 rfl) dX5_findHeaps_110 ?_
          refine e_iload_n C dX5_findHeaps_113 rfl ?_
          refine e_iaload C dX5_findHeaps_114 sh_37 _ rfl (by omega) ?_
          refine e_icmp_eq C (tgt := 147) dX5_findHeaps_115 (by decide) (by omega) (by omega) (fun h_115 => by exfalso; omega) (fun h_115 => ?_)
          refine e_aload_n C dX5_findHeaps_118 rfl ?_
          refine e_iload_n C dX5_findHeaps_119 rfl ?_
          refine e_iload_n C dX5_findHeaps_120 rfl ?_
          refine e_callV C (c_nearCost (M := N) (p := i) (q := u) (JC_cch hJ hc) hiu (by omega)) mt_X5_nearCost s_X5_240 dX5_findHeaps_121 5 sh_0 rfl (fun r M1 hq => ?_)
          obtain ⟨v, rfl, hv, hc2, hsm⟩ := hq
          dsimp only [Option.toList_some, List.singleton_append]
          have hcM := cch_tr hc hc2
          have hvM := (cch_nr hc).mp hv
          have hvF := nrF_e hvM
          have hvr : 0 ≤ v ∧ v ≤ 100000 := by
            obtain ⟨K, k1, k2⟩ := hvM
            have := isKey_r hJ.2.2.1 (hJ.2.1.2.1 i (by omega)).2 (spOk_pg hJ (q := u) (by omega)) (hJ.2.1.2.1 i (by omega)).1 (by have := (hJ.2.1.2.1 u (by omega)).1; omega) k1
            omega
          have hW1 := cch_W hcM hJ.1
          have f15 : mI M1 0 15 = mI M 0 15 := hcM.2.1 0 15 (by omega) (by decide) (by decide) (by decide)
          have f12 : mI M1 0 12 = (n : Int) := (hcM.2.1 0 12 (by omega) (by decide) (by decide) (by decide)).trans hn
          have f37 : mI M1 37 = mI N 37 := funext (fun j => hsm 37 j (by decide) (by decide))
          refine e_aload_n C dX5_findHeaps_124 rfl ?_
          refine e_getI C f_X5_76 sh_0 dX5_findHeaps_125 ?_
          rw [f15]
          refine e_icmp_gt C (tgt := 147) dX5_findHeaps_128 (by decide) (by omega) (by omega) (fun h => ?_) (fun h => ?_)
          · refine e_iinc C dX5_findHeaps_147 rfl ?_
            refine e_goto C (tgt := 75) dX5_findHeaps_150 (by decide) ?_
            refine ih2 M1 ?_
            have hsk := skip (fun _ _ hne => absurd hne (by unfold neM; omega))
            rw [f37]
            exact ⟨hsk.1, hcM, hsk.2.2⟩
          · refine e_aload_n C dX5_findHeaps_131 rfl ?_
            refine e_aload_n C dX5_findHeaps_132 rfl ?_
            refine e_getR C f_X5_63 sh_0 (hW1 0 11 37 rfl) dX5_findHeaps_133 ?_
            refine e_iload_n C dX5_findHeaps_136 rfl ?_
            refine e_iaload C dX5_findHeaps_137 sh_37 _ rfl (by omega) ?_
            rw [f37]
            refine e_aload_n C dX5_findHeaps_138 rfl ?_
            refine e_getR C f_X5_63 sh_0 (hW1 0 11 37 rfl) dX5_findHeaps_139 ?_
            refine e_iload_n C dX5_findHeaps_142 rfl ?_
            refine e_iaload C dX5_findHeaps_143 sh_37 _ rfl (by omega) ?_
            rw [f37]
            refine pE_M (wrI_e M1 37).symm ?_
            refine e_callV C (c_joinHeaps (M := M1) (n := n) (x := mI N 37 i) (y := mI N 37 u) (f := mI M1 37) hW1 f12 hn16 (by omega) (by omega) (by rw [f37]; exact hri)) mt_X5_joinHeaps s_X5_243 dX5_findHeaps_144 5 sh_0 rfl (fun r2 M2 hq2 => ?_)
            obtain ⟨f2, rfl, rfl, hf2⟩ := hq2
            dsimp only [Option.toList_none, List.nil_append]
            rw [f37] at hf2
            obtain ⟨j1, j2, j3⟩ := hpI_j (E := neM M) hI hiu hu hLi hLu (show neM M i u by unfold neM; omega) hf2
            have e37 : mI (wrI M1 37 f2) 37 = f2 := funext (fun j => wrI_s _ _ _ _)
            have hc3 : cch M (wrI M1 37 f2) := by
              refine cch_tr hcM ⟨fun _ _ => rfl, fun b j _ _ _ h1 => wrI_n _ _ _ h1, fun _ _ _ _ => Or.inl rfl, fun _ _ _ _ => Or.inl (wrI_n _ _ _ (by decide))⟩
            refine e_iinc C dX5_findHeaps_147 rfl ?_
            refine e_goto C (tgt := 75) dX5_findHeaps_150 (by decide) ?_
            refine ih2 (wrI M1 37 f2) ?_
            rw [e37]
            refine ⟨by omega, hc3, j1, fun p q h1 h2 h3 h4 h5 h6 => j2 p q (by omega) h3 (hE p q h1 h2 h3 h4 h5 h6), fun q h1 h2 h4 h5 h6 => ?_⟩
            rcases Nat.lt_or_ge q u with z | z
            · exact j2 i q (by omega) (by omega) (hU q h1 z h4 h5 h6)
            · have : q = u := by omega
              subst this; exact j3
      have hWN := cch_W hc0 hJ.1
      have e12 : mI N0 0 12 = (n : Int) := (hc0.2.1 0 12 (by omega) (by decide) (by decide) (by decide)).trans hn
      refine e_iload_n C dX5_findHeaps_63 rfl ?_
      refine e_aload_n C dX5_findHeaps_64 rfl ?_
      refine e_getI C f_X5_66 sh_0 dX5_findHeaps_65 ?_
      rw [e12]
      refine e_icmp_ge C (tgt := 159) dX5_findHeaps_68 (by decide) (by omega) (by omega) (fun h_68 => by exfalso; omega) (fun h_68 => ?_)
      refine e_iload_n C dX5_findHeaps_71 rfl ?_
      refine e_iconst C dX5_findHeaps_72 ?_
      refine e_iadd C dX5_findHeaps_73 ?_
      refine e_istore_n C dX5_findHeaps_74 ?_
      exact inn (i + 1) N0 (by omega) ⟨by omega, hc0, hI0, hE0, fun q h1 h2 => by omega⟩
  have l1 : ∀ (i : Nat) (s : pMem × Option pV), i ≤ n → (cch M s.1 ∧ (∀ p, p < i → lsM M p → mI s.1 37 p = (p : Int)) ∧ ∀ p, p < i → ¬ lsM M p → mI s.1 37 p = -1) → pE g 3 X (pMQ g SH (fun r M' => r = none ∧ cch M M' ∧ hpS n (lsM M) (neM M) (mI M' 37)) X 0 0) SH s.1 0 0 2 [some (.inr (.inr 0)), some (.inl (i : Int)), s.2] [] := by
    refine p_for n _ _ ?_ ?_
    · rintro ⟨N, x2⟩ ⟨hc, h1, h2⟩
      dsimp only at hc h1 h2 ⊢
      have hWN := cch_W hc hJ.1
      have e12 : mI N 0 12 = (n : Int) := (hc.2.1 0 12 (by omega) (by decide) (by decide) (by decide)).trans hn
      refine e_iload_n C dX5_findHeaps_2 rfl ?_
      refine e_aload_n C dX5_findHeaps_3 rfl ?_
      refine e_getI C f_X5_66 sh_0 dX5_findHeaps_4 ?_
      rw [e12]
      refine e_icmp_ge C (tgt := 61) dX5_findHeaps_7 (by decide) (by omega) (by omega) (fun h_7 => ?_) (fun h_7 => by exfalso; omega)
      refine e_iconst C dX5_findHeaps_61 ?_
      refine e_istore_n C dX5_findHeaps_62 ?_
      exact lo 0 (N, x2) (by omega) ⟨hc, hpI_0 h1 h2, fun p q hp => absurd hp (Nat.not_lt_zero p)⟩
    · rintro i ⟨N, x2⟩ hi ⟨hc, h1, h2⟩ ih
      dsimp only at hc h1 h2 ih ⊢
      have hWN := cch_W hc hJ.1
      have e12 : mI N 0 12 = (n : Int) := (hc.2.1 0 12 (by omega) (by decide) (by decide) (by decide)).trans hn
      have eT : mI N 2 i = mI M 2 i := hc.2.1 2 i (by omega) (by decide) (by decide) (by decide)
      have hTr := hJ.2.2.2.2.1 i (by omega)
      have yes : ∀ R : pMem, cch M R → (∀ j, mI R 37 j = mI N 37 j) → lsM M i → cch M (stI R 37 i (i : Int)) ∧ (∀ p, p < i + 1 → lsM M p → mI (stI R 37 i (i : Int)) 37 p = (p : Int)) ∧ ∀ p, p < i + 1 → ¬ lsM M p → mI (stI R 37 i (i : Int)) 37 p = -1 := fun R hR hs hL => by
        refine ⟨cch_tr hR cch_37, fun p hp hl => ?_, fun p hp hl => ?_⟩
        · by_cases e : p = i
          · subst e; exact stI_s _ _ _ _
          · rw [stI_n _ _ (by omega), hs]; exact h1 p (by omega) hl
        · have e : p ≠ i := fun e => hl (e ▸ hL)
          rw [stI_n _ _ (by omega), hs]; exact h2 p (by omega) hl
      have no : ∀ R : pMem, cch M R → (∀ j, mI R 37 j = mI N 37 j) → ¬ lsM M i → cch M (stI R 37 i (-1)) ∧ (∀ p, p < i + 1 → lsM M p → mI (stI R 37 i (-1)) 37 p = (p : Int)) ∧ ∀ p, p < i + 1 → ¬ lsM M p → mI (stI R 37 i (-1)) 37 p = -1 := fun R hR hs hL => by
        refine ⟨cch_tr hR cch_37, fun p hp hl => ?_, fun p hp hl => ?_⟩
        · have e : p ≠ i := fun e => hL (e ▸ hl)
          rw [stI_n _ _ (by omega), hs]; exact h1 p (by omega) hl
        · by_cases e : p = i
          · subst e; exact stI_s _ _ _ _
          · rw [stI_n _ _ (by omega), hs]; exact h2 p (by omega) hl
      by_cases hT : mI M 2 i = -1
      rotate_left
      · refine e_iload_n C dX5_findHeaps_2 rfl ?_
        refine e_aload_n C dX5_findHeaps_3 rfl ?_
        refine e_getI C f_X5_66 sh_0 dX5_findHeaps_4 ?_
        rw [e12]
        refine e_icmp_ge C (tgt := 61) dX5_findHeaps_7 (by decide) (by omega) (by omega) (fun h_7 => by exfalso; omega) (fun h_7 => ?_)
        refine e_aload_n C dX5_findHeaps_10 rfl ?_
        refine e_getR C f_X5_15 sh_0 (hWN 0 1 2 rfl) dX5_findHeaps_11 ?_
        refine e_iload_n C dX5_findHeaps_14 rfl ?_
        refine e_iaload C dX5_findHeaps_15 sh_2 _ rfl (by omega) ?_
        rw [eT]
        refine e_iconst C dX5_findHeaps_16 ?_
        refine e_icmp_ne C (tgt := 38) dX5_findHeaps_17 (by decide) (by omega) (by omega) (fun h_17 => ?_) (fun h_17 => by exact absurd (fun e => hT e) h_17)
        refine e_iconst C dX5_findHeaps_38 ?_
        refine e_istore_n C dX5_findHeaps_39 ?_
        refine e_aload_n C dX5_findHeaps_40 rfl ?_
        refine e_getR C f_X5_63 sh_0 (hWN 0 11 37 rfl) dX5_findHeaps_41 ?_
        refine e_iload_n C dX5_findHeaps_44 rfl ?_
        refine e_iload_n C dX5_findHeaps_45 rfl ?_
        refine e_if_eq C (tgt := 53) dX5_findHeaps_46 (by decide) (by omega) (fun h_46 => ?_) (fun h_46 => by exact absurd rfl h_46)
        refine e_iconst C dX5_findHeaps_53 ?_
        refine e_iastore C dX5_findHeaps_54 sh_37 _ rfl (by omega) ?_
        refine e_iinc C dX5_findHeaps_55 rfl ?_
        refine e_goto C (tgt := 2) dX5_findHeaps_58 (by decide) ?_
        exact ih (_, _) (no N hc (fun _ => rfl) (fun q => hT q.1))
      refine e_iload_n C dX5_findHeaps_2 rfl ?_
      refine e_aload_n C dX5_findHeaps_3 rfl ?_
      refine e_getI C f_X5_66 sh_0 dX5_findHeaps_4 ?_
      rw [e12]
      refine e_icmp_ge C (tgt := 61) dX5_findHeaps_7 (by decide) (by omega) (by omega) (fun h_7 => by exfalso; omega) (fun h_7 => ?_)
      refine e_aload_n C dX5_findHeaps_10 rfl ?_
      refine e_getR C f_X5_15 sh_0 (hWN 0 1 2 rfl) dX5_findHeaps_11 ?_
      refine e_iload_n C dX5_findHeaps_14 rfl ?_
      refine e_iaload C dX5_findHeaps_15 sh_2 _ rfl (by omega) ?_
      rw [eT]
      refine e_iconst C dX5_findHeaps_16 ?_
      refine e_icmp_ne C (tgt := 38) dX5_findHeaps_17 (by decide) (by omega) (by omega) (fun h_17 => by exact absurd hT h_17) (fun h_17 => ?_)
      refine e_aload_n C dX5_findHeaps_20 rfl ?_
      refine e_iload_n C dX5_findHeaps_21 rfl ?_
      refine e_aload_n C dX5_findHeaps_22 rfl ?_
      refine e_getR C f_X5_21 sh_0 (hWN 0 2 3 rfl) dX5_findHeaps_23 ?_
      refine e_callV C (c_rankK (M := N) (p := i) (JC_cch hJ hc) (by omega)) mt_X5_rank s_X5_174 dX5_findHeaps_26 5 sh_0 rfl (fun r M1 hq => ?_)
      obtain ⟨rfl, hrk, hc2, hsm⟩ := hq
      dsimp only [Option.toList_some, List.singleton_append]
      rw [soM_c hc]
      have hsr := soM_r M i
      have hcM := cch_tr hc hc2
      have hW1 := cch_W hcM hJ.1
      have f37 : ∀ j, mI M1 37 j = mI N 37 j := fun j => hsm 37 j (by decide) (by decide)
      refine e_bipush C dX5_findHeaps_29 ?_
      refine e_icmp_ne C (tgt := 38) dX5_findHeaps_31 (by decide) (by omega) (by omega) (fun h => ?_) (fun h => ?_)
      · refine e_iconst C dX5_findHeaps_38 ?_
        refine e_istore_n C dX5_findHeaps_39 ?_
        refine e_aload_n C dX5_findHeaps_40 rfl ?_
        refine e_getR C f_X5_63 sh_0 (hW1 0 11 37 rfl) dX5_findHeaps_41 ?_
        refine e_iload_n C dX5_findHeaps_44 rfl ?_
        refine e_iload_n C dX5_findHeaps_45 rfl ?_
        refine e_if_eq C (tgt := 53) dX5_findHeaps_46 (by decide) (by omega) (fun h_46 => ?_) (fun h_46 => by exact absurd rfl h_46)
        refine e_iconst C dX5_findHeaps_53 ?_
        refine e_iastore C dX5_findHeaps_54 sh_37 _ rfl (by omega) ?_
        refine e_iinc C dX5_findHeaps_55 rfl ?_
        refine e_goto C (tgt := 2) dX5_findHeaps_58 (by decide) ?_
        exact ih (_, _) (no M1 hcM f37 (fun q => h q.2))
      · refine e_iconst C dX5_findHeaps_34 ?_
        refine e_goto C (tgt := 39) dX5_findHeaps_35 (by decide) ?_
        refine e_istore_n C dX5_findHeaps_39 ?_
        refine e_aload_n C dX5_findHeaps_40 rfl ?_
        refine e_getR C f_X5_63 sh_0 (hW1 0 11 37 rfl) dX5_findHeaps_41 ?_
        refine e_iload_n C dX5_findHeaps_44 rfl ?_
        refine e_iload_n C dX5_findHeaps_45 rfl ?_
        refine e_if_eq C (tgt := 53) dX5_findHeaps_46 (by decide) (by omega) (fun h_46 => by exact absurd h_46 (by decide)) (fun h_46 => ?_)
        refine e_iload_n C dX5_findHeaps_49 rfl ?_
        refine e_goto C (tgt := 54) dX5_findHeaps_50 (by decide) ?_
        refine e_iastore C dX5_findHeaps_54 sh_37 _ rfl (by omega) ?_
        refine e_iinc C dX5_findHeaps_55 rfl ?_
        refine e_goto C (tgt := 2) dX5_findHeaps_58 (by decide) ?_
        exact ih (_, _) (yes M1 hcM f37 ⟨hT, Classical.not_not.mp h⟩)
  show pE g 3 X _ SH M 0 0 0 [some (.inr (.inr 0)), none, none] []
  refine e_iconst C dX5_findHeaps_0 ?_
  refine e_istore_n C dX5_findHeaps_1 ?_
  exact l1 0 (M, none) (by omega) ⟨cch_rf M, fun p hp => absurd hp (Nat.not_lt_zero p), fun p hp => absurd hp (Nat.not_lt_zero p)⟩
