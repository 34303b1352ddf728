/-! ===== digits of a key; the first cheapest move; the first cheapest laying ===== -/
theorem p17s (n : Nat) : (17 : Int) ^ (n + 1) = 17 * 17 ^ n := by rw [Int.pow_succ]; exact Int.mul_comm _ _
theorem p17p (n : Nat) : (0 : Int) < 17 ^ n := Int.pow_pos (by decide)
theorem dg_hi (d : Nat → Int) : ∀ n, n ≤ 8 → ∃ h : Int, sg (fun b => d b * 17 ^ (7 - b)) n = h * 17 ^ (8 - n)
  | 0, _ => ⟨0, by simp [sg]⟩
  | n + 1, hn => by
    obtain ⟨h, e⟩ := dg_hi d n (by omega)
    refine ⟨17 * h + d n, ?_⟩
    simp only [sg]
    rw [e, show 8 - n = (7 - n) + 1 by omega, p17s, show 8 - (n + 1) = 7 - n by omega, Int.add_mul, Int.mul_comm 17 h, Int.mul_assoc]
theorem dg_lo (d : Nat → Int) (hd : ∀ b, 0 ≤ d b ∧ d b ≤ 16) (m : Nat) : ∀ k, m + k ≤ 8 → 0 ≤ sg (fun i => d (m + i) * 17 ^ (7 - (m + i))) k ∧ sg (fun i => d (m + i) * 17 ^ (7 - (m + i))) k ≤ 17 ^ (8 - m) - 17 ^ (8 - (m + k))
  | 0, _ => by simp [sg]
  | k + 1, hk => by
    have ih := dg_lo d hd m k (by omega)
    simp only [sg]
    have e : (17 : Int) ^ (8 - (m + k)) = 17 * 17 ^ (7 - (m + k)) := by rw [show 8 - (m + k) = (7 - (m + k)) + 1 by omega, p17s]
    rw [show 8 - (m + (k + 1)) = 7 - (m + k) by omega]
    rw [e] at ih
    have h1 := Int.mul_le_mul_of_nonneg_right (hd (m + k)).2 (Int.le_of_lt (p17p (7 - (m + k))))
    have h2 := Int.mul_nonneg (hd (m + k)).1 (Int.le_of_lt (p17p (7 - (m + k))))
    have := p17p (7 - (m + k))
    omega
/-- a sum of digits, cut at one of them -/
theorem dg_cut (d : Nat → Int) (hd : ∀ b, 0 ≤ d b ∧ d b ≤ 16) {n b : Nat} (hb : b < n) (hn : n ≤ 8) : ∃ low : Int, 0 ≤ low ∧ low < 17 ^ (7 - b) ∧ sg (fun b => d b * 17 ^ (7 - b)) n = sg (fun b => d b * 17 ^ (7 - b)) b + d b * 17 ^ (7 - b) + low := by
  obtain ⟨k, rfl⟩ : ∃ k, n = (b + 1) + k := ⟨n - (b + 1), by omega⟩
  have h := dg_lo d hd (b + 1) k hn
  refine ⟨sg (fun i => d (b + 1 + i) * 17 ^ (7 - (b + 1 + i))) k, h.1, ?_, ?_⟩
  · have := p17p (8 - (b + 1 + k))
    rw [show 8 - (b + 1) = 7 - b by omega] at h
    omega
  · rw [sg_cut]; simp only [sg]
theorem dg_at (d : Nat → Int) (hd : ∀ b, 0 ≤ d b ∧ d b ≤ 16) {n b : Nat} (hb : b < n) (hn : n ≤ 8) (Y : Int) : (Y * 6975757441 + sg (fun b => d b * 17 ^ (7 - b)) n) / 17 ^ (7 - b) % 17 = d b := by
  obtain ⟨low, l1, l2, e⟩ := dg_cut d hd hb hn
  obtain ⟨h, eh⟩ := dg_hi d b (by omega)
  have e8 : (6975757441 : Int) = 17 ^ b * 17 ^ (8 - b) := by rw [← Int.pow_add, show b + (8 - b) = 8 by omega]; rfl
  have e7 : (17 : Int) ^ (8 - b) = 17 * 17 ^ (7 - b) := by rw [show 8 - b = (7 - b) + 1 by omega, p17s]
  have hp := p17p (7 - b)
  have tot : Y * 6975757441 + sg (fun b => d b * 17 ^ (7 - b)) n = low + ((Y * 17 ^ b + h) * 17 + d b) * 17 ^ (7 - b) := by
    rw [e, eh, e8, e7]
    rw [Int.add_mul, Int.add_mul, Int.add_mul]
    rw [← Int.mul_assoc Y, Int.mul_assoc (Y * 17 ^ b) 17, Int.mul_assoc h 17]
    omega
  rw [tot, Int.add_mul_ediv_right _ _ (by omega), Int.ediv_eq_zero_of_lt l1 l2]
  have := hd b
  omega
def lvD (ns : Nat) (φ : Nat → Nat) (b : Nat) : Int := if φ b < ns then (φ b : Int) else -1
section
variable {w : pWt} {nb ns : Nat} {A : pB} {Z : pS}
theorem key_div {q : Nat} {φ : Nat → Nat} (hq : q < 49) (h8 : nb ≤ 8) (h16 : ns ≤ 16) : key w nb ns A Z q φ / 341812114609 = cst w nb ns A Z q φ ∧ key w nb ns A Z q φ / 6975757441 % 49 = (q : Int) := by
  have h := dgs_r h8 h16 φ
  rw [key_eq]
  constructor <;> omega
theorem key_dg {q b : Nat} {φ : Nat → Nat} (h8 : nb ≤ 8) (h16 : ns ≤ 16) (hb : b < nb) : dgF (key w nb ns A Z q φ) b = lvD ns φ b := by
  have e : key w nb ns A Z q φ = (cst w nb ns A Z q φ * 49 + (q : Int)) * 6975757441 + sg (fun b => dgt ns (φ b) * 17 ^ (7 - b)) nb := by
    rw [key_eq]; unfold dgs; omega
  have h := dg_at (fun b => dgt ns (φ b)) (fun b => dgt_r h16) hb h8 (cst w nb ns A Z q φ * 49 + (q : Int))
  unfold dgF
  rw [e, h]
  unfold lvD dgt
  by_cases z : φ b < ns
  · simp only [z, if_true]; rw [if_neg (by omega)]
  · simp only [z, if_false, if_true]
/-- the least over all layings by one move -/
def mcQ (w : pWt) (nb ns : Nat) (A : pB) (Z : pS) (q : Nat) (v : Int) : Prop := (∀ φ, vA nb ns φ → v ≤ cst w nb ns A Z q φ) ∧ ∃ φ, vA nb ns φ ∧ v = cst w nb ns A Z q φ
theorem mcQ_of {q : Nat} {F : Nat → Int} {v : Int} (hw : wtOk w) (hA : bxOk nb A) (hZ : spOk ns Z) (hq : q < 49) (h8 : nb ≤ 8) (h16 : ns ≤ 16) (hF : ∀ b, b < nb → F b = -2) (h : bmK w nb ns A Z q F v) : mcQ w nb ns A Z q v := by
  have hc : ∀ φ, cnF nb ns F φ := fun φ b hb => Or.inl (hF b hb)
  refine ⟨fun φ hφ => h.1 φ hφ (hc φ), ?_⟩
  have h1 := h.1 _ (vA_none nb ns) (hc _)
  have h2 := cst_ub (φ := fun _ => ns) hw hA hZ hq h8 h16
  obtain ⟨φ, a, -, c⟩ := h.2 (by omega)
  exact ⟨φ, a, c⟩
/-- what seeks holds after n moves -/
def skI (w : pWt) (nb ns : Nat) (A : pB) (Z : pS) (n : Nat) (c dx dy : Int) : Prop := (n = 0 ∧ c = 1000000) ∨ ∃ q, q < n ∧ dx = dxo q ∧ dy = dyo q ∧ mcQ w nb ns A Z q c ∧ (∀ p, p < q → ∀ φ, vA nb ns φ → c < cst w nb ns A Z p φ) ∧ ∀ p, p < n → ∀ φ, vA nb ns φ → c ≤ cst w nb ns A Z p φ
theorem skI_yes {n : Nat} {c dx dy v : Int} (h : skI w nb ns A Z n c dx dy) (hm : mcQ w nb ns A Z n v) (hlt : v < c) : skI w nb ns A Z (n + 1) v (dxo n) (dyo n) := by
  refine Or.inr ⟨n, by omega, rfl, rfl, hm, fun p hp φ hφ => ?_, fun p hp φ hφ => ?_⟩
  · rcases h with ⟨h0, -⟩ | ⟨q, h1, h2, h3, h4, h5, h6⟩
    · omega
    · have := h6 p hp φ hφ; omega
  · by_cases e : p = n
    · subst e; exact hm.1 φ hφ
    · rcases h with ⟨h0, -⟩ | ⟨q, h1, h2, h3, h4, h5, h6⟩
      · omega
      · have := h6 p (by omega) φ hφ; omega
theorem skI_no {n : Nat} {c dx dy v : Int} (h : skI w nb ns A Z n c dx dy) (hm : mcQ w nb ns A Z n v) (hv : v < 1000000) (hge : c ≤ v) : skI w nb ns A Z (n + 1) c dx dy := by
  rcases h with ⟨h0, h1⟩ | ⟨q, h1, h2, h3, h4, h5, h6⟩
  · omega
  · refine Or.inr ⟨q, by omega, h2, h3, h4, h5, fun p hp φ hφ => ?_⟩
    by_cases e : p = n
    · subst e; have := hm.1 φ hφ; omega
    · exact h6 p (by omega) φ hφ
theorem skI_end {c dx dy K : Int} (h8 : nb ≤ 8) (h16 : ns ≤ 16) (h : skI w nb ns A Z 49 c dx dy) (hK : isKey w nb ns A Z K) : c = K / 341812114609 ∧ dx = dxo (K / 6975757441 % 49).toNat ∧ dy = dyo (K / 6975757441 % 49).toNat := by
  rcases h with ⟨h0, -⟩ | ⟨q, h1, h2, h3, ⟨h4, φ, hφ, h4e⟩, h5, h6⟩
  · omega
  · obtain ⟨k1, p, hp, ψ, hψ, k2⟩ := hK
    have a1 := k1 q h1 φ hφ
    have b1 := key_div (w := w) (A := A) (Z := Z) (φ := ψ) hp h8 h16
    rw [← k2] at b1
    rw [k2, key_eq, key_eq] at a1
    have d1 := dgs_r h8 h16 φ
    have d2 := dgs_r h8 h16 ψ
    have e1 := h6 p hp ψ hψ
    have e2 : q = p := by
      rcases Nat.lt_trichotomy p q with z | z | z
      · have := h5 p z ψ hψ; omega
      · exact z.symm
      · omega
    have e3 : (K / 6975757441 % 49).toNat = q := by omega
    rw [e3]
    exact ⟨by omega, h2, h3⟩
/-- the greedy choice of places: the spot that the least laying gives, and no other before it -/
theorem grd_lt {q b : Nat} {φ ψ : Nat → Nat} (h8 : nb ≤ 8) (h16 : ns ≤ 16) (hb : b < nb) (hq : q < 49) (hmin : ∀ q, q < 49 → ∀ φ, vA nb ns φ → key w nb ns A Z q ψ ≤ key w nb ns A Z q φ ∨ True) : True := trivial
theorem dgs_lt {b : Nat} {φ ψ : Nat → Nat} (h8 : nb ≤ 8) (h16 : ns ≤ 16) (hb : b < nb) (he : ∀ a, a < b → dgt ns (φ a) = dgt ns (ψ a)) (hl : dgt ns (φ b) < dgt ns (ψ b)) : dgs nb ns φ < dgs nb ns ψ := by
  obtain ⟨l1, a1, a2, a3⟩ := dg_cut (fun b => dgt ns (φ b)) (fun b => dgt_r h16) hb h8
  obtain ⟨l2, c1, c2, c3⟩ := dg_cut (fun b => dgt ns (ψ b)) (fun b => dgt_r h16) hb h8
  unfold dgs
  rw [a3, c3]
  have e : sg (fun b => dgt ns (φ b) * 17 ^ (7 - b)) b = sg (fun b => dgt ns (ψ b) * 17 ^ (7 - b)) b := sg_congr (fun a ha => by rw [he a ha])
  rw [e]
  have hm := Int.mul_le_mul_of_nonneg_right (show dgt ns (φ b) + 1 ≤ dgt ns (ψ b) by omega) (Int.le_of_lt (p17p (7 - b)))
  rw [Int.add_mul, Int.one_mul] at hm
  omega
/-- fixed as the least laying has it before b, s at b, free behind -/
def fxD (ns : Nat) (ψ : Nat → Nat) (b s : Nat) (F : Nat → Int) (nb : Nat) : Prop := ∀ a, a < nb → F a = if a < b then lvD ns ψ a else if a = b then (s : Int) else -2
theorem grd_is {q b s : Nat} {ψ : Nat → Nat} {F : Nat → Int} {v : Int} (hw : wtOk w) (hA : bxOk nb A) (hZ : spOk ns Z) (hq : q < 49) (h8 : nb ≤ 8) (h16 : ns ≤ 16) (hb : b < nb) (hψ : vA nb ns ψ) (hK : isKey w nb ns A Z (key w nb ns A Z q ψ)) (hF : fxD ns ψ b s F nb) (hs : s < ns) (hle : s ≤ ψ b) (h : bmK w nb ns A Z q F v) : v = cst w nb ns A Z q ψ ↔ s = ψ b := by
  have low : ∀ φ, vA nb ns φ → cst w nb ns A Z q ψ ≤ cst w nb ns A Z q φ := fun φ hφ => by
    have a1 := hK.1 q hq φ hφ
    rw [key_eq, key_eq] at a1
    have d1 := dgs_r h8 h16 φ
    have d2 := dgs_r h8 h16 ψ
    omega
  have ub := cst_ub (φ := ψ) hw hA hZ hq h8 h16
  constructor
  · intro hv
    obtain ⟨φ, p1, p2, p3⟩ := h.2 (by omega)
    rcases Nat.lt_or_ge s (ψ b) with z | z
    · exfalso
      have hd : dgs nb ns φ < dgs nb ns ψ := by
        refine dgs_lt h8 h16 hb (fun a ha => ?_) ?_
        · have f := hF a (by omega)
          rw [if_pos ha] at f
          have c := p2 a (by omega)
          have v1 := p1.1 a (by omega)
          have v2 := hψ.1 a (by omega)
          unfold lvD at f
          unfold dgt
          by_cases y : ψ a < ns
          · rw [if_pos y] at f
            have : φ a = ψ a := by omega
            rw [this]
          · rw [if_neg y] at f
            rw [if_neg (by omega), if_neg y]
        · have f := hF b hb
          rw [if_neg (by omega), if_pos rfl] at f
          have c := p2 b hb
          have : φ b = s := by omega
          have v2 := hψ.1 b hb
          unfold dgt
          rw [this, if_pos hs]
          split <;> omega
      have a1 := hK.1 q hq φ p1
      rw [key_eq, key_eq, ← p3, hv] at a1
      omega
    · omega
  · intro e
    subst e
    have c : cnF nb ns F ψ := fun a ha => by
      have f := hF a ha
      have v2 := hψ.1 a ha
      by_cases y1 : a < b
      · rw [if_pos y1] at f
        unfold lvD at f
        by_cases y2 : ψ a < ns
        · rw [if_pos y2] at f; exact Or.inr (Or.inl ⟨by omega, f.symm⟩)
        · rw [if_neg y2] at f; exact Or.inr (Or.inr ⟨f, by omega⟩)
      · rw [if_neg y1] at f
        by_cases y3 : a = b
        · rw [if_pos y3] at f; subst y3; exact Or.inr (Or.inl ⟨by omega, f.symm⟩)
        · rw [if_neg y3] at f; exact Or.inl f
    have a1 := h.1 ψ hψ c
    obtain ⟨φ, p1, p2, p3⟩ := h.2 (by omega)
    have := low φ p1
    omega
end
