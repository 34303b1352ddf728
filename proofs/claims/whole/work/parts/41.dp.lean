/-! ===== the table of the model's byMove: spots one after the other, over sets of boxes ===== -/
def upM (φ : Nat → Nat) (i v : Nat) : Nat → Nat := fun j => if j = i then v else φ j
theorem upM_s {φ : Nat → Nat} {i v : Nat} : upM φ i v i = v := by simp [upM]
theorem upM_n {φ : Nat → Nat} {i j v : Nat} (h : j ≠ i) : upM φ i v j = φ j := by simp [upM, h]
def dpF (nb ns : Nat) (F : Nat → Int) (s set : Nat) (φ : Nat → Nat) : Prop :=
  (∀ b, b < nb → (set.testBit b = true ∧ φ b < s) ∨ (set.testBit b = false ∧ φ b = ns)) ∧
  (∀ a b, a < nb → b < nb → a ≠ b → φ a = φ b → φ a = ns) ∧
  (∀ b, b < nb → F b = -2 ∨ (0 ≤ F b ∧ F b < (s : Int) ∧ (φ b : Int) = F b) ∨ ((F b = -1 ∨ (s : Int) ≤ F b) ∧ φ b = ns))
def dpV (Ly : Nat → Nat → Int) (ms : Nat → Int) (nb s : Nat) (φ : Nat → Nat) : Int := sg ms s + sg (fun b => if φ b < s then Ly b (φ b) - ms (φ b) else 0) nb
def dpR (Ly : Nat → Nat → Int) (ms : Nat → Int) (nb ns : Nat) (F : Nat → Int) (s : Nat) (row : Nat → Int) : Prop := ∀ set, set < 2 ^ nb → (∀ φ, dpF nb ns F s set φ → row set ≤ dpV Ly ms nb s φ) ∧ (row set < 1000000 → ∃ φ, dpF nb ns F s set φ ∧ dpV Ly ms nb s φ = row set)
def dpW (nb : Nat) (F : Nat → Int) (s : Nat) : Prop := ∃ b, b < nb ∧ F b = (s : Int)
def dpA (nb : Nat) (F : Nat → Int) (s b : Nat) : Prop := F b = (s : Int) ∨ (F b = -2 ∧ ¬ dpW nb F s)
def dpS (Ly : Nat → Nat → Int) (ms : Nat → Int) (nb : Nat) (F : Nat → Int) (s : Nat) (row row2 : Nat → Int) : Prop :=
  (∀ set, set < 2 ^ nb → ¬ dpW nb F s → row2 set ≤ row set + ms s) ∧
  (∀ set b, set < 2 ^ nb → b < nb → dpA nb F s b → set.testBit b = false → row2 (set ||| 2 ^ b) ≤ row set + Ly b s) ∧
  (∀ set, set < 2 ^ nb → row2 set = 1000000 ∨ (¬ dpW nb F s ∧ row2 set = row set + ms s) ∨ ∃ t b, t < 2 ^ nb ∧ b < nb ∧ dpA nb F s b ∧ t.testBit b = false ∧ set = t ||| 2 ^ b ∧ row2 set = row t + Ly b s)
theorem dp_0 {Ly : Nat → Nat → Int} {ms : Nat → Int} {nb ns : Nat} {F : Nat → Int} {row : Nat → Int} (hF : ∀ b, b < nb → -2 ≤ F b) (h0 : row 0 = 0) (h1 : ∀ set, set < 2 ^ nb → set ≠ 0 → row set = 1000000) : dpR Ly ms nb ns F 0 row := by
  intro set hs
  by_cases e : set = 0
  · subst e
    have hv : ∀ φ : Nat → Nat, dpV Ly ms nb 0 φ = 0 := fun φ => by
      unfold dpV
      have : sg (fun b => if φ b < 0 then Ly b (φ b) - ms (φ b) else 0) nb = sg (fun _ => 0) nb := sg_congr (fun i _ => by simp)
      rw [this]
      have h2 : ∀ n, sg (fun _ => (0 : Int)) n = 0 := fun n => by
        induction n with
        | zero => rfl
        | succ n ih => simp only [sg]; rw [ih]; rfl
      rw [h2]; rfl
    refine ⟨fun φ _ => by rw [hv, h0]; exact Int.le_refl _, fun _ => ⟨fun _ => ns, ⟨fun b _ => Or.inr ⟨Nat.zero_testBit b, rfl⟩, fun _ _ _ _ _ _ => rfl, fun b hb => ?_⟩, by rw [hv, h0]⟩⟩
    have := hF b hb
    by_cases e2 : F b = -2
    · exact Or.inl e2
    · exact Or.inr (Or.inr ⟨by omega, rfl⟩)
  · refine ⟨fun φ hφ => ?_, fun h => by rw [h1 set hs e] at h; omega⟩
    exfalso
    apply e
    apply Nat.eq_of_testBit_eq
    intro i
    rw [Nat.zero_testBit]
    by_cases hi : i < nb
    · rcases hφ.1 i hi with ⟨-, z⟩ | ⟨z, -⟩
      · omega
      · exact z
    · exact Nat.testBit_lt_two_pow (Nat.lt_of_lt_of_le hs (Nat.pow_le_pow_right (by decide) (by omega)))
theorem dpV_no {Ly : Nat → Nat → Int} {ms : Nat → Int} {nb s : Nat} {φ : Nat → Nat} (h : ∀ b, b < nb → φ b ≠ s) : dpV Ly ms nb (s + 1) φ = dpV Ly ms nb s φ + ms s := by
  unfold dpV
  have : sg (fun b => if φ b < s + 1 then Ly b (φ b) - ms (φ b) else 0) nb = sg (fun b => if φ b < s then Ly b (φ b) - ms (φ b) else 0) nb := sg_congr (fun b hb => by
    have := h b hb
    by_cases z : φ b < s
    · simp only [z, if_true]; rw [if_pos (by omega)]
    · simp only [z, if_false]; rw [if_neg (by omega)])
  rw [this]; simp only [sg]; omega
theorem dpV_on {Ly : Nat → Nat → Int} {ms : Nat → Int} {nb s b : Nat} {φ : Nat → Nat} (hb : b < nb) (h : ∀ c, c < nb → c ≠ b → φ c ≠ s) (h2 : ¬ φ b < s) : dpV Ly ms nb (s + 1) (upM φ b s) = dpV Ly ms nb s φ + Ly b s := by
  unfold dpV
  have e : sg (fun c => if upM φ b s c < s + 1 then Ly c (upM φ b s c) - ms (upM φ b s c) else 0) nb = sg (up (fun c => if φ c < s then Ly c (φ c) - ms (φ c) else 0) b (Ly b s - ms s)) nb := sg_congr (fun c hc => by
    by_cases z : c = b
    · subst z; rw [up_s, upM_s, if_pos (by omega)]
    · rw [up_n z, upM_n z]
      have := h c hc z
      by_cases y : φ c < s
      · rw [if_pos (by omega), if_pos y]
      · rw [if_neg (by omega), if_neg y])
  rw [e, sg_up hb, if_neg h2]; simp only [sg]; omega
theorem or_xor_bit {n b : Nat} (h : n.testBit b = true) : ((n ^^^ 2 ^ b) ||| 2 ^ b) = n ∧ (n ^^^ 2 ^ b).testBit b = false ∧ ∀ c, c ≠ b → (n ^^^ 2 ^ b).testBit c = n.testBit c := by
  have x : ∀ c, (n ^^^ 2 ^ b).testBit c = (n.testBit c != decide (c = b)) := fun c => by
    rw [Nat.testBit_xor]
    by_cases e : c = b
    · subst e; simp
    · have h2 : b ≠ c := fun z => e z.symm
      simp [Nat.testBit_two_pow_of_ne h2, e]
  refine ⟨Nat.eq_of_testBit_eq (fun i => ?_), by rw [x]; simp [h], fun c hc => by rw [x]; simp [hc]⟩
  rw [bit_or, x]
  by_cases e : i = b
  · subst e; simp [h]
  · simp [e]
theorem dp_step {Ly : Nat → Nat → Int} {ms : Nat → Int} {nb ns s : Nat} {F : Nat → Int} {row row2 : Nat → Int} (hs : s < ns) (hF : ∀ a b, a < nb → b < nb → F a = F b → 0 ≤ F a → a = b) (hL : ∀ b, b < nb → 0 ≤ Ly b s) (hm : 0 ≤ ms s) (h : dpR Ly ms nb ns F s row) (hS : dpS Ly ms nb F s row row2) : dpR Ly ms nb ns F (s + 1) row2 := by
  obtain ⟨S1, S2, S3⟩ := hS
  intro set hset
  refine ⟨fun φ hφ => ?_, fun hlt => ?_⟩
  · obtain ⟨f1, f2, f3⟩ := hφ
    by_cases hx : ∃ b, b < nb ∧ φ b = s
    · obtain ⟨b, hb, hbs⟩ := hx
      have hbit : set.testBit b = true := by
        rcases f1 b hb with ⟨z, -⟩ | ⟨-, z⟩
        · exact z
        · omega
      obtain ⟨o1, o2, o3⟩ := or_xor_bit hbit
      have hne : ∀ c, c < nb → c ≠ b → φ c ≠ s := fun c hc hcb z => by
        have := f2 c b hc hb hcb (by omega)
        omega
      have hA : dpA nb F s b := by
        rcases f3 b hb with z | ⟨z1, z2, z3⟩ | ⟨z1, z2⟩
        · refine Or.inr ⟨z, fun ⟨c, hc, hcs⟩ => ?_⟩
          rcases f3 c hc with y | ⟨y1, y2, y3⟩ | ⟨y1, y2⟩
          · omega
          · by_cases e : c = b
            · subst e; omega
            · exact hne c hc e (by omega)
          · omega
        · exact Or.inl (by omega)
        · omega
      have hsz : (set ^^^ 2 ^ b) < 2 ^ nb := Nat.xor_lt_two_pow hset (Nat.pow_lt_pow_right (by decide) hb)
      have hq := S2 (set ^^^ 2 ^ b) b hsz hb hA o2
      rw [o1] at hq
      have hfe : dpF nb ns F s (set ^^^ 2 ^ b) (upM φ b ns) := by
        refine ⟨fun c hc => ?_, fun a c ha hc hac he => ?_, fun c hc => ?_⟩
        · by_cases e : c = b
          · subst e; exact Or.inr ⟨o2, upM_s⟩
          · rw [o3 c e, upM_n e]
            have := hne c hc e
            rcases f1 c hc with ⟨y1, y2⟩ | y
            · exact Or.inl ⟨y1, by omega⟩
            · exact Or.inr y
        · by_cases ea : a = b
          · subst ea; exact upM_s
          · rw [upM_n ea] at he ⊢
            by_cases ec : c = b
            · subst ec; rw [upM_s] at he; exact he
            · rw [upM_n ec] at he; exact f2 a c ha hc hac he
        · by_cases e : c = b
          · subst e
            rw [upM_s]
            rcases f3 c hc with z | ⟨z1, z2, z3⟩ | ⟨z1, z2⟩
            · exact Or.inl z
            · exact Or.inr (Or.inr ⟨Or.inr (by omega), rfl⟩)
            · omega
          · rw [upM_n e]
            have := hne c hc e
            rcases f3 c hc with z | ⟨z1, z2, z3⟩ | ⟨z1, z2⟩
            · exact Or.inl z
            · exact Or.inr (Or.inl ⟨z1, by omega, z3⟩)
            · exact Or.inr (Or.inr ⟨by omega, z2⟩)
      have hv := (h _ hsz).1 _ hfe
      have hval := dpV_on (Ly := Ly) (ms := ms) (φ := upM φ b ns) (s := s) hb (fun c hc hcb => by rw [upM_n hcb]; exact hne c hc hcb) (by rw [upM_s]; omega)
      have hid : upM (upM φ b ns) b s = φ := by
        funext c
        by_cases e : c = b
        · subst e; rw [upM_s]; exact hbs.symm
        · rw [upM_n e, upM_n e]
      rw [hid] at hval
      omega
    · have hne : ∀ c, c < nb → φ c ≠ s := fun c hc z => hx ⟨c, hc, z⟩
      have hW : ¬ dpW nb F s := fun ⟨c, hc, hcs⟩ => by
        have := hne c hc
        rcases f3 c hc with y | ⟨y1, y2, y3⟩ | ⟨y1, y2⟩ <;> omega
      have hfe : dpF nb ns F s set φ := by
        refine ⟨fun c hc => ?_, f2, fun c hc => ?_⟩
        · have := hne c hc
          rcases f1 c hc with ⟨y1, y2⟩ | y
          · exact Or.inl ⟨y1, by omega⟩
          · exact Or.inr y
        · have := hne c hc
          rcases f3 c hc with z | ⟨z1, z2, z3⟩ | ⟨z1, z2⟩
          · exact Or.inl z
          · exact Or.inr (Or.inl ⟨z1, by omega, z3⟩)
          · exact Or.inr (Or.inr ⟨by omega, z2⟩)
      have h1 := (h set hset).1 φ hfe
      have h2 := S1 set hset hW
      rw [dpV_no hne]
      omega
  · rcases S3 set hset with z | ⟨hW, z⟩ | ⟨t, b, ht, hb, hA, htb, he, z⟩
    · omega
    · obtain ⟨φ, ⟨f1, f2, f3⟩, hv⟩ := (h set hset).2 (by omega)
      have hne : ∀ c, c < nb → φ c ≠ s := fun c hc => by
        rcases f1 c hc with ⟨-, y⟩ | ⟨-, y⟩ <;> omega
      refine ⟨φ, ⟨fun c hc => ?_, f2, fun c hc => ?_⟩, by rw [dpV_no hne]; omega⟩
      · rcases f1 c hc with ⟨y1, y2⟩ | y
        · exact Or.inl ⟨y1, by omega⟩
        · exact Or.inr y
      · rcases f3 c hc with y | ⟨y1, y2, y3⟩ | ⟨y1, y2⟩
        · exact Or.inl y
        · exact Or.inr (Or.inl ⟨y1, by omega, y3⟩)
        · have : F c ≠ (s : Int) := fun q => hW ⟨c, hc, q⟩
          exact Or.inr (Or.inr ⟨by omega, y2⟩)
    · have := hL b hb
      obtain ⟨φ, ⟨f1, f2, f3⟩, hv⟩ := (h t ht).2 (by omega)
      have hne : ∀ c, c < nb → φ c ≠ s := fun c hc => by
        rcases f1 c hc with ⟨-, y⟩ | ⟨-, y⟩ <;> omega
      have hbn : φ b = ns := by
        rcases f1 b hb with ⟨y, -⟩ | ⟨-, y⟩
        · rw [htb] at y; exact absurd y (by decide)
        · exact y
      refine ⟨upM φ b s, ⟨fun c hc => ?_, fun a c ha hc hac hee => ?_, fun c hc => ?_⟩, by rw [dpV_on hb (fun c hc _ => hne c hc) (by omega)]; omega⟩
      · rw [he, bit_or]
        by_cases e : c = b
        · subst e; rw [upM_s]; exact Or.inl ⟨by simp, by omega⟩
        · rw [upM_n e]
          rcases f1 c hc with ⟨y1, y2⟩ | ⟨y1, y2⟩
          · exact Or.inl ⟨by simp [y1], by omega⟩
          · exact Or.inr ⟨by simp [y1, e], y2⟩
      · by_cases ea : a = b
        · subst ea
          rw [upM_s, upM_n (fun q => hac q.symm)] at hee
          exact absurd hee.symm (hne c hc)
        · rw [upM_n ea] at hee ⊢
          by_cases ec : c = b
          · subst ec; rw [upM_s] at hee; exact absurd hee (hne a ha)
          · rw [upM_n ec] at hee; exact f2 a c ha hc hac hee
      · by_cases e : c = b
        · subst e
          rw [upM_s]
          rcases hA with y | ⟨y, -⟩
          · exact Or.inr (Or.inl ⟨by omega, by omega, y.symm⟩)
          · exact Or.inl y
        · rw [upM_n e]
          rcases f3 c hc with y | ⟨y1, y2, y3⟩ | ⟨y1, y2⟩
          · exact Or.inl y
          · exact Or.inr (Or.inl ⟨y1, by omega, y3⟩)
          · have hn : F c ≠ (s : Int) := fun q => by
              rcases hA with w | ⟨-, w⟩
              · exact e (hF c b hc hb (by omega) (by omega))
              · exact w ⟨c, hc, q⟩
            exact Or.inr (Or.inr ⟨by omega, y2⟩)
/-! the end: what is not laid is extra -/
def cnF (nb ns : Nat) (F : Nat → Int) (φ : Nat → Nat) : Prop := ∀ b, b < nb → F b = -2 ∨ (0 ≤ F b ∧ (φ b : Int) = F b) ∨ (F b = -1 ∧ φ b = ns)
def exV (ex : Int) (nb set : Nat) : Int := sg (fun b => if set.testBit b = true then 0 else ex) nb
def gcV (Ly : Nat → Nat → Int) (ms : Nat → Int) (ex : Int) (ns b c : Nat) : Int := if c < ns then Ly b c - ms c else ex
def bmV (Ly : Nat → Nat → Int) (ms : Nat → Int) (ex : Int) (nb ns : Nat) (φ : Nat → Nat) : Int := sg ms ns + sg (fun b => gcV Ly ms ex ns b (φ b)) nb
def bmR (Ly : Nat → Nat → Int) (ms : Nat → Int) (ex : Int) (nb ns : Nat) (F : Nat → Int) (v : Int) : Prop := (∀ φ, vA nb ns φ → cnF nb ns F φ → v ≤ bmV Ly ms ex nb ns φ) ∧ (v < 1000000 → ∃ φ, vA nb ns φ ∧ cnF nb ns F φ ∧ v = bmV Ly ms ex nb ns φ)
def stS (ns : Nat) (φ : Nat → Nat) : Nat → Nat
  | 0 => 0
  | n + 1 => if φ n < ns then stS ns φ n ||| 2 ^ n else stS ns φ n
theorem stS_t (ns : Nat) (φ : Nat → Nat) : ∀ n i, (stS ns φ n).testBit i = decide (i < n ∧ φ i < ns)
  | 0, i => by simp [stS]
  | n + 1, i => by
    simp only [stS]
    by_cases e : i = n
    · subst e
      split
      · rename_i h; rw [bit_or]; simp [h]
      · rename_i h; rw [stS_t ns φ i i]; simp [h]
    · have : (i < n + 1 ∧ φ i < ns) ↔ (i < n ∧ φ i < ns) := by omega
      split
      · rw [bit_or, stS_t ns φ n i]; simp [e, this]
      · rw [stS_t ns φ n i]; simp [this]
theorem stS_l (ns : Nat) (φ : Nat → Nat) : ∀ n, stS ns φ n < 2 ^ n
  | 0 => by simp [stS]
  | n + 1 => by
    have h := stS_l ns φ n
    have h2 : stS ns φ n < 2 ^ (n + 1) := Nat.lt_of_lt_of_le h (Nat.pow_le_pow_right (by decide) (by omega))
    simp only [stS]
    split
    · exact Nat.or_lt_two_pow h2 (Nat.pow_lt_pow_right (by decide) (by omega))
    · exact h2
theorem dp_val {Ly : Nat → Nat → Int} {ms : Nat → Int} {ex : Int} {nb ns set : Nat} {F : Nat → Int} {φ : Nat → Nat} (h : dpF nb ns F ns set φ) : dpV Ly ms nb ns φ + exV ex nb set = bmV Ly ms ex nb ns φ := by
  unfold dpV exV bmV
  rw [Int.add_assoc, ← sg_add]
  congr 1
  refine sg_congr (fun b hb => ?_)
  unfold gcV
  rcases h.1 b hb with ⟨y1, y2⟩ | ⟨y1, y2⟩
  · rw [if_pos y2, if_pos y1, if_pos y2]; omega
  · rw [if_neg (by omega), if_neg (by simp [y1]), if_neg (by omega)]; omega
theorem dp_full {nb ns : Nat} {F : Nat → Int} {φ : Nat → Nat} (hF : ∀ b, b < nb → F b < (ns : Int)) (hv : vA nb ns φ) (hc : cnF nb ns F φ) : dpF nb ns F ns (stS ns φ nb) φ := by
  refine ⟨fun b hb => ?_, hv.2, fun b hb => ?_⟩
  · rw [stS_t]
    have := hv.1 b hb
    by_cases z : φ b < ns
    · exact Or.inl ⟨by simp [hb, z], z⟩
    · exact Or.inr ⟨by simp [z], by omega⟩
  · have := hF b hb
    rcases hc b hb with z | ⟨z1, z2⟩ | ⟨z1, z2⟩
    · exact Or.inl z
    · exact Or.inr (Or.inl ⟨z1, this, z2⟩)
    · exact Or.inr (Or.inr ⟨Or.inl z1, z2⟩)
theorem dp_fin {Ly : Nat → Nat → Int} {ms : Nat → Int} {ex v : Int} {nb ns : Nat} {F : Nat → Int} {row : Nat → Int} (hF : ∀ b, b < nb → F b < (ns : Int)) (hex : 0 ≤ ex) (h : dpR Ly ms nb ns F ns row) (h1 : ∀ set, set < 2 ^ nb → v ≤ row set + exV ex nb set) (h2 : v = 1000000 ∨ ∃ set, set < 2 ^ nb ∧ v = row set + exV ex nb set) : bmR Ly ms ex nb ns F v := by
  refine ⟨fun φ hv hc => ?_, fun hlt => ?_⟩
  · have hd := dp_full hF hv hc
    have a1 := h1 _ (stS_l ns φ nb)
    have a2 := (h _ (stS_l ns φ nb)).1 φ hd
    have a3 := dp_val (Ly := Ly) (ms := ms) (ex := ex) hd
    omega
  · rcases h2 with z | ⟨set, hs, z⟩
    · omega
    · have hx : 0 ≤ exV ex nb set := sg_nonneg (fun b _ => by split <;> omega)
      obtain ⟨φ, hd, hv⟩ := (h set hs).2 (by omega)
      refine ⟨φ, ⟨fun b hb => ?_, hd.2.1⟩, fun b hb => ?_, by rw [← dp_val hd, hv]; exact z⟩
      · rcases hd.1 b hb with ⟨-, y⟩ | ⟨-, y⟩ <;> omega
      · have := hF b hb
        rcases hd.2.2 b hb with y | ⟨y1, y2, y3⟩ | ⟨y1, y2⟩
        · exact Or.inl y
        · exact Or.inr (Or.inl ⟨y1, y3⟩)
        · exact Or.inr (Or.inr ⟨by omega, y2⟩)
