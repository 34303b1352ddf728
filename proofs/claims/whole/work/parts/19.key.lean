/-! ===== what a laying costs, and its key ===== -/
/-- boxes: x, y, code; spots: x, y, code, always; weights: move, far, code, miss, extra -/
abbrev pB : Type := (Nat → Int) × (Nat → Int) × (Nat → Int)
abbrev pS : Type := (Nat → Int) × (Nat → Int) × (Nat → Int) × (Nat → Int)
abbrev pWt : Type := Int × Int × Int × Int × Int
/-- box b on spot s by move q -/
def ly (w : pWt) (A : pB) (Z : pS) (q b s : Nat) : Int := w.2.1 * (((A.1 b - Z.1 s + dxo q).natAbs : Int) + ((A.2.1 b - Z.2.1 s + dyo q).natAbs : Int)) + (if A.2.2 b = Z.2.2.1 s then 0 else w.2.2.1)
/-- nothing on spot s -/
def msv (w : pWt) (Z : pS) (s : Nat) : Int := if Z.2.2.2 s = 0 then w.2.2.2.1 / 2 else w.2.2.2.1
/-- what box b adds, on column c of ns (ns: not laid) -/
def gC (w : pWt) (ns : Nat) (A : pB) (Z : pS) (q b c : Nat) : Int := if c < ns then ly w A Z q b c - msv w Z c else w.2.2.2.2
def dgt (ns c : Nat) : Int := if c < ns then (c : Int) else 16
def gW (w : pWt) (ns : Nat) (A : pB) (Z : pS) (q b c : Nat) : Int := gC w ns A Z q b c * 341812114609 + dgt ns c * 17 ^ (7 - b)
def mvc (w : pWt) (q : Nat) : Int := w.1 * (((dxo q).natAbs : Int) + ((dyo q).natAbs : Int))
/-- the cost of a laying -/
def cst (w : pWt) (nb ns : Nat) (A : pB) (Z : pS) (q : Nat) (φ : Nat → Nat) : Int := mvc w q + sg (msv w Z) ns + sg (fun b => gC w ns A Z q b (φ b)) nb
/-- its key: cost, move, spots -/
def key (w : pWt) (nb ns : Nat) (A : pB) (Z : pS) (q : Nat) (φ : Nat → Nat) : Int := (sg (msv w Z) ns + mvc w q) * 341812114609 + (q : Int) * 6975757441 + sg (fun b => gW w ns A Z q b (φ b)) nb
def isKey (w : pWt) (nb ns : Nat) (A : pB) (Z : pS) (K : Int) : Prop := (∀ q, q < 49 → ∀ φ, vA nb ns φ → K ≤ key w nb ns A Z q φ) ∧ ∃ q, q < 49 ∧ ∃ φ, vA nb ns φ ∧ K = key w nb ns A Z q φ
theorem isKey_one {w : pWt} {nb ns : Nat} {A : pB} {Z : pS} {K J : Int} (h : isKey w nb ns A Z K) (h2 : isKey w nb ns A Z J) : K = J := by
  obtain ⟨a1, q1, b1, f1, c1, d1⟩ := h
  obtain ⟨a2, q2, b2, f2, c2, d2⟩ := h2
  have e1 := a1 q2 b2 f2 c2
  have e2 := a2 q1 b1 f1 c1
  omega
def wtOk (w : pWt) : Prop := (0 ≤ w.1 ∧ w.1 ≤ 9) ∧ (0 ≤ w.2.1 ∧ w.2.1 ≤ 9) ∧ (0 ≤ w.2.2.1 ∧ w.2.2.1 ≤ 99) ∧ (0 ≤ w.2.2.2.1 ∧ w.2.2.2.1 ≤ 99) ∧ (0 ≤ w.2.2.2.2 ∧ w.2.2.2.2 ≤ 99)
def bxOk (nb : Nat) (A : pB) : Prop := ∀ b, b < nb → (0 ≤ A.1 b ∧ A.1 b ≤ 63) ∧ (0 ≤ A.2.1 b ∧ A.2.1 b ≤ 63) ∧ (1 ≤ A.2.2 b ∧ A.2.2 b ≤ 99)
def spOk (ns : Nat) (Z : pS) : Prop := ∀ s, s < ns → (0 ≤ Z.1 s ∧ Z.1 s ≤ 63) ∧ (0 ≤ Z.2.1 s ∧ Z.2.1 s ≤ 63) ∧ (1 ≤ Z.2.2.1 s ∧ Z.2.2.1 s ≤ 99) ∧ (Z.2.2.2 s = 0 ∨ Z.2.2.2 s = 1)
theorem dxo_r {q : Nat} (h : q < 49) : -3 ≤ dxo q ∧ dxo q ≤ 3 := by unfold dxo; omega
theorem dyo_r {q : Nat} (h : q < 49) : -3 ≤ dyo q ∧ dyo q ≤ 3 := by unfold dyo; omega
theorem msv_r {w : pWt} (h : wtOk w) (Z : pS) (s : Nat) : 0 ≤ msv w Z s ∧ msv w Z s ≤ 99 := by
  have := h.2.2.2.1
  unfold msv; split <;> omega
theorem ly_r {w : pWt} {nb ns q b s : Nat} {A : pB} {Z : pS} (hw : wtOk w) (hA : bxOk nb A) (hZ : spOk ns Z) (hq : q < 49) (hb : b < nb) (hs : s < ns) : 0 ≤ ly w A Z q b s ∧ ly w A Z q b s ≤ 1287 := by
  obtain ⟨a1, a2, a3⟩ := hA b hb
  obtain ⟨z1, z2, z3, z4⟩ := hZ s hs
  have h1 := dxo_r hq
  have h2 := dyo_r hq
  have hd : 0 ≤ ((A.1 b - Z.1 s + dxo q).natAbs : Int) + ((A.2.1 b - Z.2.1 s + dyo q).natAbs : Int) ∧ ((A.1 b - Z.1 s + dxo q).natAbs : Int) + ((A.2.1 b - Z.2.1 s + dyo q).natAbs : Int) ≤ 132 := by omega
  have hf := hw.2.1
  have e1 := Int.mul_nonneg hf.1 hd.1
  have e2 : w.2.1 * (((A.1 b - Z.1 s + dxo q).natAbs : Int) + ((A.2.1 b - Z.2.1 s + dyo q).natAbs : Int)) ≤ 9 * 132 := Int.mul_le_mul hf.2 hd.2 hd.1 (by decide)
  have hc := hw.2.2.1
  unfold ly; split <;> omega
theorem gC_r {w : pWt} {nb ns q b c : Nat} {A : pB} {Z : pS} (hw : wtOk w) (hA : bxOk nb A) (hZ : spOk ns Z) (hq : q < 49) (hb : b < nb) : -99 ≤ gC w ns A Z q b c ∧ gC w ns A Z q b c ≤ 1287 := by
  unfold gC
  split
  · next h =>
    have := ly_r hw hA hZ hq hb h
    have := msv_r hw Z c
    omega
  · have := hw.2.2.2.2; omega
theorem p17_r (b : Nat) : (1 : Int) ≤ 17 ^ (7 - b) ∧ (17 : Int) ^ (7 - b) ≤ 410338673 := by
  rcases Nat.lt_or_ge b 8 with h | h
  · rcases (show b = 0 ∨ b = 1 ∨ b = 2 ∨ b = 3 ∨ b = 4 ∨ b = 5 ∨ b = 6 ∨ b = 7 by omega) with rfl | rfl | rfl | rfl | rfl | rfl | rfl | rfl <;> decide
  · rw [show 7 - b = 0 by omega]; decide
theorem dgt_r {ns c : Nat} (h : ns ≤ 16) : 0 ≤ dgt ns c ∧ dgt ns c ≤ 16 := by unfold dgt; split <;> omega
theorem dp_r {ns c : Nat} (h : ns ≤ 16) (b : Nat) : 0 ≤ dgt ns c * 17 ^ (7 - b) ∧ dgt ns c * 17 ^ (7 - b) ≤ 6565418768 := by
  have h1 := p17_r b
  have h2 := dgt_r (c := c) h
  have e1 := Int.mul_nonneg h2.1 (show (0 : Int) ≤ 17 ^ (7 - b) by omega)
  have e2 : dgt ns c * 17 ^ (7 - b) ≤ 16 * 410338673 := Int.mul_le_mul h2.2 h1.2 (by omega) (by decide)
  omega
theorem gW_r {w : pWt} {nb ns q b c : Nat} {A : pB} {Z : pS} (hw : wtOk w) (hA : bxOk nb A) (hZ : spOk ns Z) (hq : q < 49) (hb : b < nb) (hn : ns ≤ 16) : -444355748991700 ≤ gW w ns A Z q b c ∧ gW w ns A Z q b c ≤ 444355748991700 := by
  have h1 := gC_r (c := c) hw hA hZ hq hb
  have h2 := dp_r (c := c) hn b
  unfold gW; omega
theorem mvc_r {w : pWt} {q : Nat} (hw : wtOk w) (hq : q < 49) : 0 ≤ mvc w q ∧ mvc w q ≤ 54 := by
  have h1 := dxo_r hq
  have h2 := dyo_r hq
  have hab : 0 ≤ ((dxo q).natAbs : Int) + ((dyo q).natAbs : Int) ∧ ((dxo q).natAbs : Int) + ((dyo q).natAbs : Int) ≤ 6 := by omega
  have e1 := Int.mul_nonneg hw.1.1 hab.1
  have e2 : w.1 * (((dxo q).natAbs : Int) + ((dyo q).natAbs : Int)) ≤ 9 * 6 := Int.mul_le_mul hw.1.2 hab.2 hab.1 (by decide)
  unfold mvc; omega
theorem smv_r {w : pWt} (hw : wtOk w) (Z : pS) {ns : Nat} (hn : ns ≤ 16) : 0 ≤ sg (msv w Z) ns ∧ sg (msv w Z) ns ≤ 1584 := by
  have h1 := sg_nonneg (f := msv w Z) (n := ns) (fun i _ => (msv_r hw Z i).1)
  have h2 := sg_ub (f := msv w Z) (b := 99) (n := ns) (fun i _ => (msv_r hw Z i).2)
  omega
/-- the boxes' digits, below a unit of the move -/
def dgs (nb ns : Nat) (φ : Nat → Nat) : Int := sg (fun b => dgt ns (φ b) * 17 ^ (7 - b)) nb
theorem key_eq (w : pWt) (nb ns : Nat) (A : pB) (Z : pS) (q : Nat) (φ : Nat → Nat) : key w nb ns A Z q φ = cst w nb ns A Z q φ * 341812114609 + (q : Int) * 6975757441 + dgs nb ns φ := by
  unfold key cst dgs gW
  rw [sg_add]
  have e : sg (fun b => gC w ns A Z q b (φ b) * 341812114609) nb = sg (fun b => gC w ns A Z q b (φ b)) nb * 341812114609 := by
    rw [Int.mul_comm (sg _ nb), ← sg_mul]
    exact sg_congr (fun b _ => Int.mul_comm _ _)
  rw [e]; omega
theorem dgs_r {nb ns : Nat} (h8 : nb ≤ 8) (hn : ns ≤ 16) (φ : Nat → Nat) : 0 ≤ dgs nb ns φ ∧ dgs nb ns φ < 6975757441 := by
  have h0 : 0 ≤ dgs nb ns φ := sg_nonneg (fun b _ => (dp_r hn b).1)
  refine ⟨h0, ?_⟩
  have h1 : dgs nb ns φ ≤ sg (fun b => 16 * 17 ^ (7 - b)) nb := sg_le (fun b _ => Int.mul_le_mul_of_nonneg_right (dgt_r hn).2 (by have := p17_r b; omega))
  have h2 : sg (fun b => 16 * 17 ^ (7 - b)) nb < (6975757441 : Int) := by
    rcases (show nb = 0 ∨ nb = 1 ∨ nb = 2 ∨ nb = 3 ∨ nb = 4 ∨ nb = 5 ∨ nb = 6 ∨ nb = 7 ∨ nb = 8 by omega) with rfl | rfl | rfl | rfl | rfl | rfl | rfl | rfl | rfl <;> decide
  omega
theorem cst_nn {w : pWt} {nb ns q : Nat} {A : pB} {Z : pS} {φ : Nat → Nat} (hw : wtOk w) (hA : bxOk nb A) (hZ : spOk ns Z) (hq : q < 49) (hφ : vA nb ns φ) : 0 ≤ cst w nb ns A Z q φ := by
  have h1 := hu_ge ns φ nb (fun c => if c < ns then -(msv w Z c) else 0) hφ (by simp) (fun c hc => by rw [if_pos hc]; have := (msv_r hw Z c).1; omega)
  have h2 : sg (fun c => if c < ns then -(msv w Z c) else 0) ns = -1 * sg (msv w Z) ns := by
    rw [← sg_mul]; exact sg_congr (fun c hc => by rw [if_pos hc]; omega)
  have h3 : sg (fun b => if φ b < ns then -(msv w Z (φ b)) else 0) nb ≤ sg (fun b => gC w ns A Z q b (φ b)) nb := sg_le (fun b hb => by
    unfold gC
    split
    · next h => have := (ly_r hw hA hZ hq hb h).1; omega
    · have := hw.2.2.2.2; omega)
  have h4 := mvc_r hw hq
  unfold cst
  omega
theorem cst_ub {w : pWt} {nb ns q : Nat} {A : pB} {Z : pS} {φ : Nat → Nat} (hw : wtOk w) (hA : bxOk nb A) (hZ : spOk ns Z) (hq : q < 49) (h8 : nb ≤ 8) (hn : ns ≤ 16) : cst w nb ns A Z q φ ≤ 12000 := by
  have h1 := sg_ub (f := fun b => gC w ns A Z q b (φ b)) (b := 1287) (n := nb) (fun b hb => (gC_r hw hA hZ hq hb).2)
  have h2 := mvc_r hw hq
  have h3 := smv_r hw Z hn
  unfold cst; omega
theorem key_nn {w : pWt} {nb ns q : Nat} {A : pB} {Z : pS} {φ : Nat → Nat} (hw : wtOk w) (hA : bxOk nb A) (hZ : spOk ns Z) (hq : q < 49) (h8 : nb ≤ 8) (hn : ns ≤ 16) (hφ : vA nb ns φ) : 0 ≤ key w nb ns A Z q φ ∧ key w nb ns A Z q φ ≤ 5000000000000000 := by
  rw [key_eq]
  have h1 := cst_nn hw hA hZ hq hφ
  have h2 := cst_ub (φ := φ) hw hA hZ hq h8 hn
  have h3 := dgs_r h8 hn φ
  omega
theorem vA_none (nb ns : Nat) : vA nb ns (fun _ => ns) := ⟨fun _ _ => Nat.le_refl _, fun _ _ _ _ _ _ => rfl⟩
theorem isKey_r {w : pWt} {nb ns : Nat} {A : pB} {Z : pS} {K : Int} (hw : wtOk w) (hA : bxOk nb A) (hZ : spOk ns Z) (h8 : nb ≤ 8) (hn : ns ≤ 16) (h : isKey w nb ns A Z K) : 0 ≤ K ∧ K ≤ 5000000000000000 := by
  obtain ⟨-, q, hq, φ, hφ, e⟩ := h
  rw [e]; exact key_nn hw hA hZ hq h8 hn hφ
theorem gW_congr {w : pWt} {ns : Nat} {A A' : pB} {Z Z' : pS} {q b c : Nat} (hA : A.1 b = A'.1 b ∧ A.2.1 b = A'.2.1 b ∧ A.2.2 b = A'.2.2 b) (hZ : ∀ s, s < ns → Z.1 s = Z'.1 s ∧ Z.2.1 s = Z'.2.1 s ∧ Z.2.2.1 s = Z'.2.2.1 s ∧ Z.2.2.2 s = Z'.2.2.2 s) : gC w ns A Z q b c = gC w ns A' Z' q b c := by
  unfold gC
  split
  · next h =>
    obtain ⟨z1, z2, z3, z4⟩ := hZ c h
    unfold ly msv
    rw [hA.1, hA.2.1, hA.2.2, z1, z2, z3, z4]
  · rfl
theorem msv_congr {w : pWt} {Z Z' : pS} {s : Nat} (h : Z.2.2.2 s = Z'.2.2.2 s) : msv w Z s = msv w Z' s := by unfold msv; rw [h]
theorem cst_congr {w : pWt} {nb ns : Nat} {A A' : pB} {Z Z' : pS} (hA : ∀ b, b < nb → A.1 b = A'.1 b ∧ A.2.1 b = A'.2.1 b ∧ A.2.2 b = A'.2.2 b) (hZ : ∀ s, s < ns → Z.1 s = Z'.1 s ∧ Z.2.1 s = Z'.2.1 s ∧ Z.2.2.1 s = Z'.2.2.1 s ∧ Z.2.2.2 s = Z'.2.2.2 s) (q : Nat) (φ : Nat → Nat) : cst w nb ns A Z q φ = cst w nb ns A' Z' q φ := by
  unfold cst
  rw [sg_congr (f := msv w Z) (h := msv w Z') (fun s hs => msv_congr (hZ s hs).2.2.2), sg_congr (f := fun b => gC w ns A Z q b (φ b)) (h := fun b => gC w ns A' Z' q b (φ b)) (fun b hb => gW_congr (hA b hb) hZ)]
theorem key_congr {w : pWt} {nb ns : Nat} {A A' : pB} {Z Z' : pS} (hA : ∀ b, b < nb → A.1 b = A'.1 b ∧ A.2.1 b = A'.2.1 b ∧ A.2.2 b = A'.2.2 b) (hZ : ∀ s, s < ns → Z.1 s = Z'.1 s ∧ Z.2.1 s = Z'.2.1 s ∧ Z.2.2.1 s = Z'.2.2.1 s ∧ Z.2.2.2 s = Z'.2.2.2 s) (q : Nat) (φ : Nat → Nat) : key w nb ns A Z q φ = key w nb ns A' Z' q φ := by
  rw [key_eq, key_eq, cst_congr hA hZ]
theorem isKey_congr {w : pWt} {nb ns : Nat} {A A' : pB} {Z Z' : pS} {K : Int} (hA : ∀ b, b < nb → A.1 b = A'.1 b ∧ A.2.1 b = A'.2.1 b ∧ A.2.2 b = A'.2.2 b) (hZ : ∀ s, s < ns → Z.1 s = Z'.1 s ∧ Z.2.1 s = Z'.2.1 s ∧ Z.2.2.1 s = Z'.2.2.1 s ∧ Z.2.2.2 s = Z'.2.2.2 s) (h : isKey w nb ns A Z K) : isKey w nb ns A' Z' K := by
  refine ⟨fun q hq φ hφ => ?_, ?_⟩
  · rw [← key_congr hA hZ]; exact h.1 q hq φ hφ
  · obtain ⟨q, hq, φ, hφ, e⟩ := h.2
    exact ⟨q, hq, φ, hφ, by rw [← key_congr hA hZ]; exact e⟩
