/-! ===== sums of whole numbers ===== -/
def sg (f : Nat → Int) : Nat → Int
  | 0 => 0
  | n + 1 => sg f n + f n
theorem sg_congr {f h : Nat → Int} : ∀ {n : Nat}, (∀ i, i < n → f i = h i) → sg f n = sg h n
  | 0, _ => rfl
  | n + 1, hh => by simp only [sg]; rw [sg_congr (fun i hi => hh i (by omega)), hh n (by omega)]
theorem sg_le {f h : Nat → Int} : ∀ {n : Nat}, (∀ i, i < n → f i ≤ h i) → sg f n ≤ sg h n
  | 0, _ => Int.le_refl _
  | n + 1, hh => by
    have h1 := sg_le (n := n) (fun i hi => hh i (by omega))
    have h2 := hh n (by omega)
    simp only [sg]; omega
theorem sg_add (f h : Nat → Int) : ∀ n, sg (fun i => f i + h i) n = sg f n + sg h n
  | 0 => rfl
  | n + 1 => by simp only [sg]; rw [sg_add f h n]; omega
theorem sg_mul (k : Int) (f : Nat → Int) : ∀ n, sg (fun i => k * f i) n = k * sg f n
  | 0 => by simp [sg]
  | n + 1 => by simp only [sg]; rw [sg_mul k f n, Int.mul_add]
theorem sg_up {f : Nat → Int} {i : Nat} {v : Int} : ∀ {n : Nat}, i < n → sg (up f i v) n = sg f n - f i + v
  | 0, h => absurd h (Nat.not_lt_zero i)
  | n + 1, h => by
    simp only [sg]
    rcases Nat.lt_or_ge i n with q | q
    · rw [sg_up q, up_n (by omega)]; omega
    · have e : i = n := by omega
      subst e
      rw [up_s, sg_congr (f := up f i v) (h := f) (fun j hj => up_n (by omega))]; omega
theorem sg_o {f : Nat → Int} {i n : Nat} {v : Int} (h : n ≤ i) : sg (up f i v) n = sg f n := sg_congr (fun j hj => up_n (by omega))
theorem sg_nonneg {f : Nat → Int} {n : Nat} (h : ∀ i, i < n → 0 ≤ f i) : 0 ≤ sg f n := by
  have : ∀ m, sg (fun _ => 0) m = 0 := fun m => by induction m with
    | zero => rfl
    | succ m ih => simp only [sg]; omega
  rw [← this n]; exact sg_le h
theorem sg_ub {f : Nat → Int} {b : Int} : ∀ {n : Nat}, (∀ i, i < n → f i ≤ b) → sg f n ≤ (n : Int) * b
  | 0, _ => by simp [sg]
  | n + 1, hh => by
    have h1 := sg_ub (n := n) (fun i hi => hh i (by omega))
    have h2 := hh n (by omega)
    simp only [sg]; rw [show ((n + 1 : Nat) : Int) * b = (n : Int) * b + b by rw [Int.natCast_add, Int.add_mul]; simp]; omega
theorem sg_lb {f : Nat → Int} {b : Int} : ∀ {n : Nat}, (∀ i, i < n → b ≤ f i) → (n : Int) * b ≤ sg f n
  | 0, _ => by simp [sg]
  | n + 1, hh => by
    have h1 := sg_lb (n := n) (fun i hi => hh i (by omega))
    have h2 := hh n (by omega)
    simp only [sg]; rw [show ((n + 1 : Nat) : Int) * b = (n : Int) * b + b by rw [Int.natCast_add, Int.add_mul]; simp]; omega
/-! ===== boxes on columns: column ns takes what isn't laid ===== -/
def vA (nb ns : Nat) (φ : Nat → Nat) : Prop := (∀ b, b < nb → φ b ≤ ns) ∧ ∀ a b, a < nb → b < nb → a ≠ b → φ a = φ b → φ a = ns
def isMn (nb ns : Nat) (w : Nat → Nat → Int) (d : Int) : Prop := (∃ φ, vA nb ns φ ∧ sg (fun b => w b (φ b)) nb = d) ∧ ∀ φ, vA nb ns φ → d ≤ sg (fun b => w b (φ b)) nb
theorem isMn_one {nb ns : Nat} {w : Nat → Nat → Int} {d e : Int} (h1 : isMn nb ns w d) (h2 : isMn nb ns w e) : d = e := by
  obtain ⟨⟨f1, a1, b1⟩, c1⟩ := h1
  obtain ⟨⟨f2, a2, b2⟩, c2⟩ := h2
  have q1 := c1 f2 a2
  have q2 := c2 f1 a1
  omega
theorem vA_less {nb ns : Nat} {φ : Nat → Nat} (h : vA (nb + 1) ns φ) : vA nb ns φ := ⟨fun b hb => h.1 b (by omega), fun a b ha hb => h.2 a b (by omega) (by omega)⟩
/-- columns' prices, none above 0: those of the boxes' columns sum up to no less than all -/
theorem hu_ge (ns : Nat) (φ : Nat → Nat) : ∀ (k : Nat) (v : Nat → Int), vA k ns φ → v ns = 0 → (∀ c, c < ns → v c ≤ 0) → sg v ns ≤ sg (fun b => v (φ b)) k
  | 0, v, _, _, h => by
    have := sg_ub (f := v) (b := 0) (n := ns) (fun i hi => h i hi)
    simp only [sg]; omega
  | k + 1, v, hA, h0, h => by
    simp only [sg]
    have h1 := hA.1 k (by omega)
    rcases Nat.lt_or_ge (φ k) ns with q | q
    · have ih := hu_ge ns φ k (up v (φ k) 0) (vA_less hA) (by rw [up_n (by omega)]; exact h0) (fun c hc => by
        by_cases e : c = φ k
        · subst e; rw [up_s]; omega
        · rw [up_n e]; exact h c hc)
      rw [sg_up q] at ih
      rw [sg_congr (f := fun b => up v (φ k) 0 (φ b)) (h := fun b => v (φ b)) (fun b hb => by
        refine up_n (fun e => ?_)
        have := hA.2 b k (by omega) (by omega) (by omega) e
        omega)] at ih
      omega
    · have e : φ k = ns := by omega
      rw [e, h0]
      have ih := hu_ge ns φ k v (vA_less hA) h0 h
      omega
/-- and if every column whose price isn't 0 has a box: just to all -/
theorem hu_eq (ns : Nat) (φ : Nat → Nat) : ∀ (k : Nat) (v : Nat → Int), vA k ns φ → v ns = 0 → (∀ c, c < ns → v c ≠ 0 → ∃ b, b < k ∧ φ b = c) → sg (fun b => v (φ b)) k = sg v ns
  | 0, v, _, _, h => by
    have : ∀ i, i < ns → v i = 0 := fun i hi => Classical.byContradiction (fun q => by obtain ⟨b, hb, _⟩ := h i hi q; omega)
    rw [sg_congr (f := v) (h := fun _ => 0) this]
    simp only [sg]
    have h2 := sg_ub (f := fun _ => (0 : Int)) (b := 0) (n := ns) (fun _ _ => Int.le_refl _)
    have h3 := sg_lb (f := fun _ => (0 : Int)) (b := 0) (n := ns) (fun _ _ => Int.le_refl _)
    omega
  | k + 1, v, hA, h0, h => by
    simp only [sg]
    have h1 := hA.1 k (by omega)
    rcases Nat.lt_or_ge (φ k) ns with q | q
    · have ih := hu_eq ns φ k (up v (φ k) 0) (vA_less hA) (by rw [up_n (by omega)]; exact h0) (fun c hc hne => by
        by_cases e : c = φ k
        · subst e; rw [up_s] at hne; exact absurd rfl hne
        · rw [up_n e] at hne
          obtain ⟨b, hb, e2⟩ := h c hc hne
          refine ⟨b, ?_, e2⟩
          rcases Nat.lt_or_ge b k with z | z
          · exact z
          · have : b = k := by omega
            subst this; exact absurd e2.symm e)
      rw [sg_up q] at ih
      rw [sg_congr (f := fun b => up v (φ k) 0 (φ b)) (h := fun b => v (φ b)) (fun b hb => by
        refine up_n (fun e => ?_)
        have := hA.2 b k (by omega) (by omega) (by omega) e
        omega)] at ih
      omega
    · have e : φ k = ns := by omega
      rw [e, h0]
      have ih := hu_eq ns φ k v (vA_less hA) h0 (fun c hc hne => by
        obtain ⟨b, hb, e2⟩ := h c hc hne
        refine ⟨b, ?_, e2⟩
        rcases Nat.lt_or_ge b k with z | z
        · exact z
        · have : b = k := by omega
          subst this; omega)
      omega
/-- what holds when k boxes are laid: u, v the prices, o the box on a column (-1: none) -/
def huI (k ns : Nat) (w : Nat → Nat → Int) (u v o : Nat → Int) : Prop :=
  (∀ b c, b < k → c ≤ ns → u b + v c ≤ w b c) ∧ (∀ c, c < ns → v c ≤ 0) ∧ v ns = 0 ∧ o ns = -1 ∧ (∀ c, c < ns → o c = -1 → v c = 0) ∧
  (∀ c, c < ns → o c ≠ -1 → ∃ b : Nat, b < k ∧ o c = (b : Int) ∧ w b c = u b + v c) ∧ (∀ c e, c < ns → e < ns → o c ≠ -1 → o c = o e → c = e) ∧
  ∀ b : Nat, b < k → (∃ c, c < ns ∧ o c = (b : Int)) ∨ w b ns = u b
theorem huI_min {k ns : Nat} {w : Nat → Nat → Int} {u v o : Nat → Int} (h : huI k ns w u v o) : isMn k ns w (sg u k + sg v ns) := by
  obtain ⟨h1, h2, h3, h4, h5, h6, h7, h8⟩ := h
  constructor
  · have hex : ∀ b : Nat, ∃ c : Nat, b < k → (c < ns ∧ o c = (b : Int)) ∨ (c = ns ∧ w b ns = u b ∧ ∀ e, e < ns → o e ≠ (b : Int)) := by
      intro b
      by_cases hb : b < k
      · by_cases hc : ∃ c, c < ns ∧ o c = (b : Int)
        · obtain ⟨c, hc1, hc2⟩ := hc
          exact ⟨c, fun _ => Or.inl ⟨hc1, hc2⟩⟩
        · rcases h8 b hb with q | q
          · exact absurd q hc
          · exact ⟨ns, fun _ => Or.inr ⟨rfl, q, fun e he e2 => hc ⟨e, he, e2⟩⟩⟩
      · exact ⟨0, fun q => absurd q hb⟩
    obtain ⟨φ, hφ⟩ := Classical.axiomOfChoice hex
    have hA : vA k ns φ := by
      refine ⟨fun b hb => ?_, fun a b ha hb hne he => ?_⟩
      · rcases hφ b hb with q | q <;> omega
      · rcases hφ a ha with q | q
        · rcases hφ b hb with z | z
          · have e1 := q.2
            have e2 := z.2
            rw [he] at e1
            omega
          · omega
        · exact q.1
    refine ⟨φ, hA, ?_⟩
    have ht : ∀ b, b < k → w b (φ b) = u b + v (φ b) := by
      intro b hb
      rcases hφ b hb with q | q
      · obtain ⟨b2, hb2, e1, e2⟩ := h6 (φ b) q.1 (by rw [q.2]; omega)
        have : b2 = b := by have := q.2; omega
        subst this; exact e2
      · rw [q.1, h3, q.2.1]; omega
    rw [sg_congr ht, sg_add]
    rw [hu_eq ns φ k v hA h3 (fun c hc hne => by
      have hoc : o c ≠ -1 := fun q => hne (h5 c hc q)
      obtain ⟨b, hb, e1, -⟩ := h6 c hc hoc
      refine ⟨b, hb, ?_⟩
      rcases hφ b hb with q | q
      · exact (h7 c (φ b) hc q.1 hoc (by rw [q.2, e1])).symm
      · exact absurd e1 (q.2.2 c hc))]
  · intro φ hA
    have q1 := hu_ge ns φ k v hA h3 h2
    have q2 := sg_le (f := fun b => u b + v (φ b)) (h := fun b => w b (φ b)) (n := k) (fun b hb => h1 b (φ b) hb (hA.1 b hb))
    rw [sg_add] at q2
    omega
