/-! ===== kinds: bounds ===== -/
theorem fndI_sp (f : Nat → Int) (c : Int) : ∀ (n i : Nat), (fndI f c i n = -1 ∧ ∀ j, i ≤ j → j < i + n → f j ≠ c) ∨ ∃ j, i ≤ j ∧ j < i + n ∧ f j = c ∧ fndI f c i n = (j : Int)
  | 0, i => Or.inl ⟨rfl, fun j h1 h2 => by omega⟩
  | n + 1, i => by
    simp only [fndI]
    by_cases h : f i = c
    · rw [if_pos h]; exact Or.inr ⟨i, Nat.le_refl _, by omega, h, rfl⟩
    · rw [if_neg h]
      rcases fndI_sp f c n (i + 1) with ⟨a, b⟩ | ⟨j, a, b, d, e⟩
      · refine Or.inl ⟨a, fun j h1 h2 => ?_⟩
        by_cases e : j = i
        · rw [e]; exact h
        · exact b j (by omega) (by omega)
      · exact Or.inr ⟨j, by omega, by omega, d, e⟩
theorem ixC_sp (G : pPg) (p : Nat) (c : Int) : (ixC G p c = -1 ∧ ∀ j, j < G.1 p → (G.2 p).2.2 j ≠ c) ∨ ∃ j, j < G.1 p ∧ (G.2 p).2.2 j = c ∧ ixC G p c = (j : Int) := by
  rcases fndI_sp (G.2 p).2.2 c (G.1 p) 0 with ⟨a, b⟩ | ⟨j, a, b, d, e⟩
  · exact Or.inl ⟨a, fun j hj => b j (Nat.zero_le _) (by omega)⟩
  · exact Or.inr ⟨j, by omega, d, e⟩
theorem sg_sw (f : Nat → Nat → Int) (m : Nat) : ∀ n, sg (fun i => sg (fun j => f i j) m) n = sg (fun j => sg (fun i => f i j) n) m
  | 0 => by
    have h2 := sg_ub (f := fun _ => (0 : Int)) (b := 0) (n := m) (fun _ _ => Int.le_refl _)
    have h3 := sg_lb (f := fun _ => (0 : Int)) (b := 0) (n := m) (fun _ _ => Int.le_refl _)
    simp only [sg]; omega
  | n + 1 => by simp only [sg]; rw [sg_sw f m n, ← sg_add]
theorem sg_hit (x : Int) : ∀ n : Nat, sg (fun c => b01 (x = ((c + 1 : Nat) : Int))) n ≤ b01 (1 ≤ x ∧ x ≤ n)
  | 0 => by simp only [sg]; exact (b01_r _).1
  | n + 1 => by
    have ih := sg_hit x n
    simp only [sg]
    by_cases h : x = ((n + 1 : Nat) : Int)
    · have e1 : b01 (x = ((n + 1 : Nat) : Int)) = 1 := if_pos h
      have e2 : b01 (1 ≤ x ∧ x ≤ (n : Int)) = 0 := if_neg (by omega)
      have e3 : b01 (1 ≤ x ∧ x ≤ ((n + 1 : Nat) : Int)) = 1 := if_pos (by omega)
      omega
    · have e1 : b01 (x = ((n + 1 : Nat) : Int)) = 0 := if_neg h
      by_cases h2 : 1 ≤ x ∧ x ≤ (n : Int)
      · have e3 : b01 (1 ≤ x ∧ x ≤ ((n + 1 : Nat) : Int)) = 1 := if_pos (by omega)
        have := (b01_r (1 ≤ x ∧ x ≤ (n : Int))).2
        omega
      · have e2 : b01 (1 ≤ x ∧ x ≤ (n : Int)) = 0 := if_neg h2
        have := (b01_r (1 ≤ x ∧ x ≤ ((n + 1 : Nat) : Int))).1
        omega
theorem kn_page {G : pPg} {T : Nat → Int} {k : Int} {p : Nat} (h8 : G.1 p ≤ 8) : sg (fun c => b01 (onK G T k ((c + 1 : Nat) : Int) p = true)) 99 ≤ 8 * b01 (T p = k) := by
  by_cases h : T p = k
  · have e : b01 (T p = k) = 1 := if_pos h
    rw [e]
    have h1 : sg (fun c => b01 (onK G T k ((c + 1 : Nat) : Int) p = true)) 99 ≤ sg (fun c => sg (fun i => b01 ((G.2 p).2.2 i = ((c + 1 : Nat) : Int))) (G.1 p)) 99 := sg_le (fun c _ => by
      rcases ixC_sp G p ((c + 1 : Nat) : Int) with ⟨a, _⟩ | ⟨j, a, b, d⟩
      · have : b01 (onK G T k ((c + 1 : Nat) : Int) p = true) = 0 := if_neg (fun q => (of_decide_eq_true q).2 a)
        rw [this]; exact sg_nonneg (fun i _ => (b01_r _).1)
      · have h2 : b01 ((G.2 p).2.2 j = ((c + 1 : Nat) : Int)) = 1 := if_pos b
        have h3 : b01 ((G.2 p).2.2 j = ((c + 1 : Nat) : Int)) ≤ sg (fun i => b01 ((G.2 p).2.2 i = ((c + 1 : Nat) : Int))) (G.1 p) := by
          obtain ⟨m, hm⟩ : ∃ m, G.1 p = j + (1 + m) := ⟨G.1 p - j - 1, by omega⟩
          rw [hm, sg_cut, sg_cut]
          have := sg_nonneg (f := fun i => b01 ((G.2 p).2.2 i = ((c + 1 : Nat) : Int))) (n := j) (fun i _ => (b01_r _).1)
          have := sg_nonneg (f := fun i => b01 ((G.2 p).2.2 (j + (1 + i)) = ((c + 1 : Nat) : Int))) (n := m) (fun i _ => (b01_r _).1)
          simp only [sg, Nat.add_zero] at *
          omega
        have := (b01_r (onK G T k ((c + 1 : Nat) : Int) p = true)).2
        omega)
    rw [sg_sw] at h1
    have h4 := sg_ub (f := fun i => sg (fun c => b01 ((G.2 p).2.2 i = ((c + 1 : Nat) : Int))) 99) (b := 1) (n := G.1 p) (fun i _ => by
      have := sg_hit ((G.2 p).2.2 i) 99
      have := (b01_r (1 ≤ (G.2 p).2.2 i ∧ (G.2 p).2.2 i ≤ ((99 : Nat) : Int))).2
      omega)
    omega
  · have e : b01 (T p = k) = 0 := if_neg h
    rw [e]
    have := sg_ub (f := fun c => b01 (onK G T k ((c + 1 : Nat) : Int) p = true)) (b := 0) (n := 99) (fun c _ => by
      have : b01 (onK G T k ((c + 1 : Nat) : Int) p = true) = 0 := if_neg (fun q => h (of_decide_eq_true q).1)
      omega)
    omega
theorem kn_r (G : pPg) (T : Nat → Int) (k c : Int) : 0 ≤ knC G T k c ∧ knC G T k c ≤ kTn T k ∧ 0 ≤ kTn T k ∧ kTn T k ≤ 16 := by
  refine ⟨sg_nonneg (fun p _ => (b01_r _).1), sg_le (fun p _ => ?_), sg_nonneg (fun p _ => (b01_r _).1), ?_⟩
  · by_cases h : T p = k
    · have e : b01 (T p = k) = 1 := if_pos h
      have := (b01_r (onK G T k c p = true)).2
      omega
    · have : b01 (onK G T k c p = true) = 0 := if_neg (fun q => h (of_decide_eq_true q).1)
      have := (b01_r (T p = k)).1
      omega
  · have := sg_ub (f := fun p => b01 (T p = k)) (b := 1) (n := 16) (fun p _ => (b01_r _).2)
    unfold kTn; omega
theorem kn_sum {G : pPg} {T : Nat → Int} {k : Int} (h8 : ∀ p, p < 16 → G.1 p ≤ 8) : sg (fun c => knC G T k ((c + 1 : Nat) : Int)) 99 ≤ 8 * kTn T k := by
  unfold knC kTn
  rw [sg_sw, ← sg_mul]
  exact sg_le (fun p hp => kn_page (h8 p hp))
theorem spc_sum {G : pPg} {T : Nat → Int} {k : Int} : ∀ c : Nat, kTn T k * (spc G T k c : Int) ≤ 2 * sg (fun c => knC G T k ((c + 1 : Nat) : Int)) c
  | 0 => by simp [spc, sg]
  | c + 1 => by
    have ih := spc_sum (G := G) (T := T) (k := k) c
    simp only [spc, sg]
    have hk := kn_r G T k ((c + 1 : Nat) : Int)
    split
    · next h =>
      have h2 := (of_decide_eq_true h).2
      rw [show ((spc G T k c + 1 : Nat) : Int) = (spc G T k c : Int) + 1 from rfl, Int.mul_add]; omega
    · rw [Nat.add_zero]; omega
theorem spc_16 {G : pPg} {T : Nat → Int} {k : Int} (h8 : ∀ p, p < 16 → G.1 p ≤ 8) : spc G T k 99 ≤ 16 := by
  have h1 := spc_sum (G := G) (T := T) (k := k) 99
  have h2 := kn_sum (G := G) (T := T) (k := k) h8
  have h3 := kn_r G T k 1
  rcases Int.lt_or_le 0 (kTn T k) with q | q
  · refine Classical.byContradiction (fun z => ?_)
    have h4 : kTn T k * 17 ≤ kTn T k * (spc G T k 99 : Int) := Int.mul_le_mul_of_nonneg_left (by omega) (by omega)
    omega
  · have : ∀ c, spc G T k c = 0 := fun c => by
      induction c with
      | zero => rfl
      | succ c ih =>
        simp only [spc]
        rw [ih, if_neg]
        intro h
        have := (of_decide_eq_true h).1
        have := kn_r G T k ((c + 1 : Nat) : Int)
        omega
    rw [this]; omega
def pgOk (G : pPg) : Prop := (∀ p, p < 16 → G.1 p ≤ 8 ∧ bxOk (G.1 p) (G.2 p)) ∧ ∀ p i j, p < 16 → i < G.1 p → j < G.1 p → (G.2 p).2.2 i = (G.2 p).2.2 j → i = j
theorem cv_r {G : pPg} {T : Nat → Int} {k c : Int} (h : pgOk G) : cvX G T k c 63 = knC G T k c ∧ cvX G T k c (0 - 1) = 0 ∧ cvY G T k c 63 = knC G T k c ∧ cvY G T k c (0 - 1) = 0 := by
  have hv : ∀ p, p < 16 → onK G T k c p = true → (0 ≤ (G.2 p).1 (ixC G p c).toNat ∧ (G.2 p).1 (ixC G p c).toNat ≤ 63) ∧ (0 ≤ (G.2 p).2.1 (ixC G p c).toNat ∧ (G.2 p).2.1 (ixC G p c).toNat ≤ 63) := by
    intro p hp ho
    rcases ixC_sp G p c with ⟨a, _⟩ | ⟨j, a, b, d⟩
    · exact absurd a (of_decide_eq_true ho).2
    · rw [d, Int.toNat_natCast]
      have := (h.1 p hp).2 j a
      exact ⟨this.1, this.2.1⟩
  have z : ∀ (f : Nat → Int), (∀ p, p < 16 → f p = 0) → sg f 16 = 0 := fun f hf => by
    have h1 := sg_ub (f := f) (b := 0) (n := 16) (fun p hp => by rw [hf p hp]; exact Int.le_refl _)
    have h2 := sg_lb (f := f) (b := 0) (n := 16) (fun p hp => by rw [hf p hp]; exact Int.le_refl _)
    omega
  refine ⟨sg_congr (fun p hp => ?_), z _ (fun p hp => ?_), sg_congr (fun p hp => ?_), z _ (fun p hp => ?_)⟩
  · by_cases ho : onK G T k c p = true
    · have := hv p hp ho
      unfold b01; rw [if_pos ⟨ho, by omega⟩, if_pos ho]
    · unfold b01; rw [if_neg (fun q => ho q.1), if_neg ho]
  · unfold b01; rw [if_neg]; intro q
    have := hv p hp q.1
    have := q.2
    omega
  · by_cases ho : onK G T k c p = true
    · have := hv p hp ho
      unfold b01; rw [if_pos ⟨ho, by omega⟩, if_pos ho]
    · unfold b01; rw [if_neg (fun q => ho q.1), if_neg ho]
  · unfold b01; rw [if_neg]; intro q
    have := hv p hp q.1
    have := q.2
    omega
theorem isKd_ok {G : pPg} {T : Nat → Int} {k tot : Int} {n : Nat} {Z : pS} (hG : pgOk G) (h : isKd G T k tot n Z) : n ≤ 16 ∧ spOk n Z ∧ 0 ≤ tot ∧ tot ≤ 16 := by
  have h3 := kn_r G T k 1
  refine ⟨by rw [h.2.1]; exact spc_16 (fun p hp => (hG.1 p hp).1), fun s hs => ?_, by rw [h.1]; omega, by rw [h.1]; omega⟩
  rw [h.2.1] at hs
  obtain ⟨e, e1, e2, e3, e4⟩ := spc_at hs
  obtain ⟨a1, a2, a3, a4⟩ := h.2.2 e e1 e2 e3
  rw [e4] at a1 a2 a3 a4
  have hk := kn_r G T k (e : Int)
  have hpos : 0 < knC G T k (e : Int) := (of_decide_eq_true e3).1
  obtain ⟨c1, c2, c3, c4⟩ := cv_r (T := T) (k := k) (c := (e : Int)) hG
  have hn : ((knC G T k (e : Int)).toNat : Int) = knC G T k (e : Int) := by omega
  exact ⟨isMed_r (by omega) a2 (by rw [hn]; exact c1) c2, isMed_r (by omega) a3 (by rw [hn]; exact c3) c4, by omega, by rw [a4]; unfold b01; split <;> simp⟩
