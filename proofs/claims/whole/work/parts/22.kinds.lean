/-! ===== kinds: counting, the middle one ===== -/
def b01 (c : Prop) [Decidable c] : Int := if c then 1 else 0
theorem b01_r (c : Prop) [Decidable c] : 0 ≤ b01 c ∧ b01 c ≤ 1 := by unfold b01; split <;> omega
/-- how many of f's first n are at most t -/
def cnL (f : Nat → Int) (n : Nat) (t : Int) : Int := sg (fun i => b01 (f i ≤ t)) n
def srt (f : Nat → Int) (n : Nat) : Prop := ∀ i j, i ≤ j → j < n → f i ≤ f j
theorem sg_cut (f : Nat → Int) (m : Nat) : ∀ n, sg f (m + n) = sg f m + sg (fun i => f (m + i)) n
  | 0 => by simp [sg]
  | n + 1 => by rw [← Nat.add_assoc]; simp only [sg]; rw [sg_cut f m n]; omega
theorem cnL_ge {f : Nat → Int} {n j : Nat} {t : Int} (hj : j ≤ n) (h : ∀ i, i < j → f i ≤ t) : (j : Int) ≤ cnL f n t := by
  unfold cnL
  obtain ⟨m, rfl⟩ : ∃ m, n = j + m := ⟨n - j, by omega⟩
  rw [sg_cut]
  have h1 := sg_nonneg (f := fun i => b01 (f (j + i) ≤ t)) (n := m) (fun i _ => (b01_r _).1)
  have h2 := sg_lb (f := fun i => b01 (f i ≤ t)) (b := 1) (n := j) (fun i hi => by unfold b01; rw [if_pos (h i hi)]; exact Int.le_refl _)
  omega
theorem cnL_le {f : Nat → Int} {n j : Nat} {t : Int} (hj : j ≤ n) (h : ∀ i, j ≤ i → i < n → t < f i) : cnL f n t ≤ (j : Int) := by
  unfold cnL
  obtain ⟨m, rfl⟩ : ∃ m, n = j + m := ⟨n - j, by omega⟩
  rw [sg_cut]
  have h1 := sg_ub (f := fun i => b01 (f (j + i) ≤ t)) (b := 0) (n := m) (fun i hi => by
    have := h (j + i) (by omega) (by omega)
    unfold b01; rw [if_neg (by omega)]; exact Int.le_refl _)
  have h2 := sg_ub (f := fun i => b01 (f i ≤ t)) (b := 1) (n := j) (fun i hi => (b01_r _).2)
  omega
theorem srt_one {f h : Nat → Int} {n : Nat} (hf : srt f n) (hh : srt h n) (he : ∀ t, cnL f n t = cnL h n t) : ∀ j, j < n → f j = h j := by
  have key : ∀ (f h : Nat → Int), srt f n → srt h n → (∀ t, cnL f n t = cnL h n t) → ∀ j, j < n → ¬ f j < h j := by
    intro f h hf hh he j hj hlt
    have h1 := cnL_ge (f := f) (n := n) (j := j + 1) (t := f j) (by omega) (fun i hi => hf i j (by omega) hj)
    have h2 := cnL_le (f := h) (n := n) (j := j) (t := f j) (by omega) (fun i h1 h2 => by have := hh j i h1 h2; omega)
    have := he (f j)
    omega
  intro j hj
  have a := key f h hf hh he j hj
  have b := key h f hh hf (fun t => (he t).symm) j hj
  omega
/-- the middle one of a row whose counts are cv: of an even number the lower one -/
def isMed (cv : Int → Int) (n : Nat) (m : Int) : Prop := ∃ f : Nat → Int, srt f n ∧ (∀ t, cnL f n t = cv t) ∧ m = f ((n - 1) / 2)
theorem isMed_one {cv : Int → Int} {n : Nat} {m k : Int} (hn : 0 < n) (h : isMed cv n m) (h2 : isMed cv n k) : m = k := by
  obtain ⟨f, a1, a2, a3⟩ := h
  obtain ⟨e, b1, b2, b3⟩ := h2
  rw [a3, b3]
  exact srt_one a1 b1 (fun t => by rw [a2, b2]) _ (by omega)
theorem isMed_r {cv : Int → Int} {n : Nat} {m lo hi : Int} (hn : 0 < n) (h : isMed cv n m) (h1 : cv hi = (n : Int)) (h2 : cv (lo - 1) = 0) : lo ≤ m ∧ m ≤ hi := by
  obtain ⟨f, a1, a2, a3⟩ := h
  have hj : (n - 1) / 2 < n := by omega
  rw [a3]
  constructor
  · refine Classical.byContradiction (fun q => ?_)
    have h3 := cnL_ge (f := f) (n := n) (j := (n - 1) / 2 + 1) (t := lo - 1) (by omega) (fun i hi => by have := a1 i ((n - 1) / 2) (by omega) hj; omega)
    rw [a2, h2] at h3; omega
  · refine Classical.byContradiction (fun q => ?_)
    have h3 := cnL_le (f := f) (n := n) (j := (n - 1) / 2) (t := hi) (by omega) (fun i hi1 hi2 => by have := a1 ((n - 1) / 2) i hi1 hi2; omega)
    rw [a2, h1] at h3; omega
/-- putting one more into a risen row: everything from place d on moves up -/
def put1 (f : Nat → Int) (n d : Nat) (v : Int) : Nat → Int := fun i => if i < d then f i else if i = d then v else if i ≤ n then f (i - 1) else f i
theorem put1_s {f : Nat → Int} {n d : Nat} {v : Int} (hs : srt f n) (hd : d ≤ n) (h1 : ∀ i, i < d → f i ≤ v) (h2 : ∀ i, d ≤ i → i < n → v ≤ f i) : srt (put1 f n d v) (n + 1) := by
  intro i j hij hj
  unfold put1
  split <;> split <;> (try split) <;> (try split) <;> (try split) <;> (try split) <;> first
    | omega
    | (exact hs _ _ (by omega) (by omega))
    | (exact h1 _ (by omega))
    | (exact h2 _ (by omega) (by omega))
    | (exact Int.le_trans (h1 _ (by omega)) (h2 _ (by omega) (by omega)))
theorem put1_c {f : Nat → Int} {n d : Nat} {v : Int} (hd : d ≤ n) (t : Int) : cnL (put1 f n d v) (n + 1) t = cnL f n t + b01 (v ≤ t) := by
  unfold cnL
  obtain ⟨m, rfl⟩ : ∃ m, n = d + m := ⟨n - d, by omega⟩
  rw [show d + m + 1 = d + (m + 1) by omega, sg_cut, sg_cut (fun i => b01 (f i ≤ t))]
  have e1 : sg (fun i => b01 (put1 f (d + m) d v i ≤ t)) d = sg (fun i => b01 (f i ≤ t)) d := sg_congr (fun i hi => by unfold put1; rw [if_pos hi])
  have e2 : ∀ k, k ≤ m → sg (fun i => b01 (put1 f (d + m) d v (d + i) ≤ t)) (k + 1) = b01 (v ≤ t) + sg (fun i => b01 (f (d + i) ≤ t)) k := by
    intro k
    induction k with
    | zero =>
      intro _
      simp only [sg]
      unfold put1
      rw [if_neg (by omega), if_pos (by omega)]; omega
    | succ k ih =>
      intro hk
      have := ih (by omega)
      simp only [sg] at this ⊢
      rw [this]
      have e3 : put1 f (d + m) d v (d + (k + 1)) = f (d + k) := by
        unfold put1
        rw [if_neg (by omega), if_neg (by omega), if_pos (by omega), show d + (k + 1) - 1 = d + k by omega]
      rw [e3]; omega
  rw [e1, e2 m (Nat.le_refl _)]; omega
/-! ===== the pages of a kind ===== -/
/-- pages: numbers of boxes, boxes; T: what they are told -/
abbrev pPg : Type := (Nat → Nat) × (Nat → pB)
/-- the box of page p that has code c (-1: none) -/
def ixC (G : pPg) (p : Nat) (c : Int) : Int := fndI (G.2 p).2.2 c 0 (G.1 p)
def onK (G : pPg) (T : Nat → Int) (k c : Int) (p : Nat) : Bool := decide (T p = k ∧ ixC G p c ≠ -1)
def kTn (T : Nat → Int) (k : Int) : Int := sg (fun p => b01 (T p = k)) 16
def knC (G : pPg) (T : Nat → Int) (k c : Int) : Int := sg (fun p => b01 (onK G T k c p = true)) 16
def cvX (G : pPg) (T : Nat → Int) (k c t : Int) : Int := sg (fun p => b01 (onK G T k c p = true ∧ (G.2 p).1 (ixC G p c).toNat ≤ t)) 16
def cvY (G : pPg) (T : Nat → Int) (k c t : Int) : Int := sg (fun p => b01 (onK G T k c p = true ∧ (G.2 p).2.1 (ixC G p c).toNat ≤ t)) 16
def isSp (G : pPg) (T : Nat → Int) (k c : Int) : Bool := decide (0 < knC G T k c ∧ kTn T k ≤ 2 * knC G T k c)
/-- how many of the codes 1 .. c are spots -/
def spc (G : pPg) (T : Nat → Int) (k : Int) : Nat → Nat
  | 0 => 0
  | c + 1 => spc G T k c + (if isSp G T k ((c + 1 : Nat) : Int) = true then 1 else 0)
/-- the spots that stand when the codes 1 .. c have been looked at -/
def kdP (G : pPg) (T : Nat → Int) (k : Int) (c : Nat) (Z : pS) : Prop := ∀ e : Nat, 1 ≤ e → e ≤ c → isSp G T k (e : Int) = true → Z.2.2.1 (spc G T k (e - 1)) = (e : Int) ∧ isMed (cvX G T k (e : Int)) (knC G T k (e : Int)).toNat (Z.1 (spc G T k (e - 1))) ∧ isMed (cvY G T k (e : Int)) (knC G T k (e : Int)).toNat (Z.2.1 (spc G T k (e - 1))) ∧ Z.2.2.2 (spc G T k (e - 1)) = b01 (knC G T k (e : Int) = kTn T k)
/-- a kind's data: its pages, its number of spots, its spots -/
def isKd (G : pPg) (T : Nat → Int) (k : Int) (tot : Int) (n : Nat) (Z : pS) : Prop := tot = kTn T k ∧ n = spc G T k 99 ∧ kdP G T k 99 Z
theorem spc_mono {G : pPg} {T : Nat → Int} {k : Int} {a : Nat} : ∀ {b : Nat}, a ≤ b → spc G T k a ≤ spc G T k b
  | 0, h => by rw [show a = 0 by omega]; exact Nat.le_refl _
  | b + 1, h => by
    rcases Nat.lt_or_ge a (b + 1) with q | q
    · have := spc_mono (G := G) (T := T) (k := k) (show a ≤ b by omega)
      simp only [spc]; omega
    · rw [show a = b + 1 by omega]; exact Nat.le_refl _
theorem spc_at {G : pPg} {T : Nat → Int} {k : Int} {i : Nat} : ∀ {c : Nat}, i < spc G T k c → ∃ e, 1 ≤ e ∧ e ≤ c ∧ isSp G T k (e : Int) = true ∧ spc G T k (e - 1) = i
  | 0, h => by simp [spc] at h
  | c + 1, h => by
    rcases Nat.lt_or_ge i (spc G T k c) with q | q
    · obtain ⟨e, e1, e2, e3, e4⟩ := spc_at q
      exact ⟨e, e1, by omega, e3, e4⟩
    · simp only [spc] at h
      split at h
      · next hs => exact ⟨c + 1, by omega, Nat.le_refl _, hs, by rw [Nat.add_sub_cancel]; omega⟩
      · omega
theorem isKd_one {G : pPg} {T : Nat → Int} {k tot tot2 : Int} {n n2 : Nat} {Z Z2 : pS} (h : isKd G T k tot n Z) (h2 : isKd G T k tot2 n2 Z2) : tot = tot2 ∧ n = n2 ∧ ∀ s, s < n → Z.1 s = Z2.1 s ∧ Z.2.1 s = Z2.2.1 s ∧ Z.2.2.1 s = Z2.2.2.1 s ∧ Z.2.2.2 s = Z2.2.2.2 s := by
  refine ⟨h.1.trans h2.1.symm, h.2.1.trans h2.2.1.symm, fun s hs => ?_⟩
  rw [h.2.1] at hs
  obtain ⟨e, e1, e2, e3, e4⟩ := spc_at hs
  obtain ⟨a1, a2, a3, a4⟩ := h.2.2 e e1 e2 e3
  obtain ⟨b1, b2, b3, b4⟩ := h2.2.2 e e1 e2 e3
  rw [e4] at a1 a2 a3 a4 b1 b2 b3 b4
  have hpos : 0 < (knC G T k (e : Int)).toNat := by
    have : 0 < knC G T k (e : Int) := (of_decide_eq_true e3).1
    omega
  exact ⟨isMed_one hpos a2 b2, isMed_one hpos a3 b3, a1.trans b1.symm, a4.trans b4.symm⟩
