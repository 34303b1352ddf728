/-! ===== the order of spots changes no cost ===== -/
def isMc (w : pWt) (nb ns : Nat) (A : pB) (Z : pS) (c : Int) : Prop := (∀ q, q < 49 → ∀ φ, vA nb ns φ → c ≤ cst w nb ns A Z q φ) ∧ ∃ q, q < 49 ∧ ∃ φ, vA nb ns φ ∧ c = cst w nb ns A Z q φ
theorem isMc_of {w : pWt} {nb ns : Nat} {A : pB} {Z : pS} {K : Int} (h8 : nb ≤ 8) (h16 : ns ≤ 16) (h : isKey w nb ns A Z K) : isMc w nb ns A Z (K / 341812114609) := by
  obtain ⟨h1, q, hq, φ, hφ, e⟩ := h
  have hd := (key_div (w := w) (A := A) (Z := Z) (φ := φ) hq h8 h16).1
  rw [← e] at hd
  refine ⟨fun p hp ψ hψ => ?_, q, hq, φ, hφ, hd⟩
  have h2 := h1 p hp ψ hψ
  rw [hd]
  rw [e, key_eq, key_eq] at h2
  have d1 := dgs_r h8 h16 φ
  have d2 := dgs_r h8 h16 ψ
  omega
def piM (ns : Nat) (π φ : Nat → Nat) : Nat → Nat := fun b => if φ b < ns then π (φ b) else ns
theorem cst_pi {w : pWt} {nb ns q : Nat} {A : pB} {Z Y : pS} {π φ : Nat → Nat} (hφ : vA nb ns φ) (hπ : ∀ s, s < ns → π s < ns ∧ Y.1 s = Z.1 (π s) ∧ Y.2.1 s = Z.2.1 (π s) ∧ Y.2.2.1 s = Z.2.2.1 (π s)) (h1 : ∀ s, s < ns → Z.2.2.2 s = 1 ∧ Y.2.2.2 s = 1) : cst w nb ns A Y q φ = cst w nb ns A Z q (piM ns π φ) := by
  have hm : ∀ s, s < ns → msv w Y s = w.2.2.2.1 ∧ msv w Z s = w.2.2.2.1 := fun s hs => by
    unfold msv
    rw [(h1 s hs).1, (h1 s hs).2]
    simp
  unfold cst
  rw [sg_congr (f := msv w Y) (h := msv w Z) (fun s hs => by rw [(hm s hs).1, (hm s hs).2])]
  congr 1
  refine sg_congr (fun b hb => ?_)
  unfold gC piM
  by_cases z : φ b < ns
  · obtain ⟨p1, p2, p3, p4⟩ := hπ _ z
    simp only [z, if_true]
    rw [if_pos p1, (hm _ z).1, (hm _ p1).2]
    unfold ly
    rw [p2, p3, p4]
  · simp only [z, if_false]
    rw [if_neg (by omega)]
theorem vA_pi {nb ns : Nat} {π φ : Nat → Nat} (hφ : vA nb ns φ) (hπ : ∀ s, s < ns → π s < ns) (hi : ∀ s t, s < ns → t < ns → π s = π t → s = t) : vA nb ns (piM ns π φ) := by
  refine ⟨fun b hb => ?_, fun a b ha hb hab he => ?_⟩
  · unfold piM; split
    · rename_i z; have := hπ _ z; omega
    · exact Nat.le_refl _
  · unfold piM at he ⊢
    by_cases z : φ a < ns
    · rw [if_pos z] at he ⊢
      by_cases y : φ b < ns
      · rw [if_pos y] at he
        have := hφ.2 a b ha hb hab (hi _ _ z y he)
        omega
      · rw [if_neg y] at he
        have := hπ _ z
        omega
    · rw [if_neg z]
theorem isMc_le {w : pWt} {nb ns : Nat} {A : pB} {Z Y : pS} {c d : Int} (hZ : isMc w nb ns A Z c) (hY : isMc w nb ns A Y d) (hπ : ∀ s, s < ns → ∃ t, t < ns ∧ Y.1 s = Z.1 t ∧ Y.2.1 s = Z.2.1 t ∧ Y.2.2.1 s = Z.2.2.1 t) (hd : ∀ s t, s < ns → t < ns → Y.2.2.1 s = Y.2.2.1 t → s = t) (h1 : ∀ s, s < ns → Z.2.2.2 s = 1 ∧ Y.2.2.2 s = 1) : c ≤ d := by
  have hex : ∀ s : Nat, ∃ t : Nat, s < ns → t < ns ∧ Y.1 s = Z.1 t ∧ Y.2.1 s = Z.2.1 t ∧ Y.2.2.1 s = Z.2.2.1 t := fun s => by
    by_cases z : s < ns
    · obtain ⟨t, ht⟩ := hπ s z
      exact ⟨t, fun _ => ht⟩
    · exact ⟨0, fun y => absurd y z⟩
  obtain ⟨π, hp⟩ := Classical.axiomOfChoice hex
  obtain ⟨-, q, hq, φ, hφ, e⟩ := hY
  rw [e, cst_pi hφ hp h1]
  exact hZ.1 q hq _ (vA_pi hφ (fun s hs => (hp s hs).1) (fun s t hs ht he => hd s t hs ht (by rw [(hp s hs).2.2.2, (hp t ht).2.2.2, he])))
theorem isMc_eq {w : pWt} {nb ns : Nat} {A : pB} {Z Y : pS} {c d : Int} (hZ : isMc w nb ns A Z c) (hY : isMc w nb ns A Y d) (hπ : ∀ s, s < ns → ∃ t, t < ns ∧ Y.1 s = Z.1 t ∧ Y.2.1 s = Z.2.1 t ∧ Y.2.2.1 s = Z.2.2.1 t) (hσ : ∀ s, s < ns → ∃ t, t < ns ∧ Z.1 s = Y.1 t ∧ Z.2.1 s = Y.2.1 t ∧ Z.2.2.1 s = Y.2.2.1 t) (hd : ∀ s t, s < ns → t < ns → Y.2.2.1 s = Y.2.2.1 t → s = t) (hd2 : ∀ s t, s < ns → t < ns → Z.2.2.1 s = Z.2.2.1 t → s = t) (h1 : ∀ s, s < ns → Z.2.2.2 s = 1 ∧ Y.2.2.2 s = 1) : d = c := by
  have a := isMc_le hZ hY hπ hd h1
  have b := isMc_le hY hZ hσ hd2 (fun s hs => (h1 s hs).symm)
  omega
/-! ===== a page's boxes by rising codes ===== -/
def pcn (G : pPg) (b : Nat) : Nat → Nat
  | 0 => 0
  | c + 1 => pcn G b c + (if ixC G b ((c + 1 : Nat) : Int) ≠ -1 then 1 else 0)
theorem pcn_no {G : pPg} {b c : Nat} (hc : 1 ≤ c) (h : ixC G b (c : Int) = -1) : pcn G b c = pcn G b (c - 1) := by
  obtain ⟨d, rfl⟩ : ∃ d, c = d + 1 := ⟨c - 1, by omega⟩
  rw [Nat.add_sub_cancel]; simp only [pcn]; rw [if_neg (fun z => z h)]; rfl
theorem pcn_yes {G : pPg} {b c : Nat} (hc : 1 ≤ c) (h : ixC G b (c : Int) ≠ -1) : pcn G b c = pcn G b (c - 1) + 1 := by
  obtain ⟨d, rfl⟩ : ∃ d, c = d + 1 := ⟨c - 1, by omega⟩
  rw [Nat.add_sub_cancel]; simp only [pcn]; rw [if_pos h]
theorem pcn_mono {G : pPg} {b a : Nat} : ∀ {c : Nat}, a ≤ c → pcn G b a ≤ pcn G b c
  | 0, h => by rw [show a = 0 by omega]; exact Nat.le_refl _
  | c + 1, h => by
    rcases Nat.lt_or_ge a (c + 1) with q | q
    · have := pcn_mono (G := G) (b := b) (show a ≤ c by omega)
      simp only [pcn]; omega
    · rw [show a = c + 1 by omega]; exact Nat.le_refl _
theorem pcn_at {G : pPg} {b i : Nat} : ∀ {c : Nat}, i < pcn G b c → ∃ e, 1 ≤ e ∧ e ≤ c ∧ ixC G b (e : Int) ≠ -1 ∧ pcn G b (e - 1) = i
  | 0, h => by simp [pcn] at h
  | c + 1, h => by
    rcases Nat.lt_or_ge i (pcn G b c) with q | q
    · obtain ⟨e, e1, e2, e3, e4⟩ := pcn_at q
      exact ⟨e, e1, by omega, e3, e4⟩
    · simp only [pcn] at h
      split at h
      · next hs => exact ⟨c + 1, by omega, Nat.le_refl _, hs, by rw [Nat.add_sub_cancel]; omega⟩
      · omega
theorem hit_b {G : pPg} {b : Nat} {c : Int} (hG : pgOk G) (hb : b < 16) : sg (fun i => b01 ((G.2 b).2.2 i = c)) (G.1 b) = b01 (ixC G b c ≠ -1) := by
  have z0 : ∀ n, sg (fun _ => (0 : Int)) n = 0 := fun n => by
    have h2 := sg_ub (f := fun _ => (0 : Int)) (b := 0) (n := n) (fun _ _ => Int.le_refl _)
    have h3 := sg_lb (f := fun _ => (0 : Int)) (b := 0) (n := n) (fun _ _ => Int.le_refl _)
    omega
  rcases ixC_sp G b c with ⟨a, a2⟩ | ⟨j, a, a2, d⟩
  · rw [show b01 (ixC G b c ≠ -1) = 0 from if_neg (fun z => z a), sg_congr (f := fun i => b01 ((G.2 b).2.2 i = c)) (h := fun _ => 0) (fun i hi => if_neg (a2 i hi)), z0]
  · rw [show b01 (ixC G b c ≠ -1) = 1 from if_pos (by omega), sg_congr (f := fun i => b01 ((G.2 b).2.2 i = c)) (h := up (fun _ => 0) j 1) (fun i hi => by
      by_cases e : i = j
      · subst e; rw [up_s]; exact if_pos a2
      · rw [up_n e]; exact if_neg (fun q => e (hG.2 b i j hb hi a (by rw [q, a2])))), sg_up a, z0]
    rfl
theorem hit_c (x : Int) : ∀ n : Nat, sg (fun c => b01 (x = ((c + 1 : Nat) : Int))) n = b01 (1 ≤ x ∧ x ≤ n)
  | 0 => by simp only [sg]; exact (if_neg (by omega)).symm
  | n + 1 => by
    simp only [sg]
    rw [hit_c x n]
    unfold b01
    by_cases h : x = ((n + 1 : Nat) : Int)
    · rw [if_neg (by omega), if_pos h, if_pos (by omega)]; rfl
    · by_cases h2 : 1 ≤ x ∧ x ≤ (n : Int)
      · rw [if_pos h2, if_neg h, if_pos (by omega)]; rfl
      · rw [if_neg h2, if_neg h, if_neg (by omega)]; rfl
theorem pcn_s (G : pPg) (b : Nat) : ∀ n : Nat, (pcn G b n : Int) = sg (fun c => b01 (ixC G b ((c + 1 : Nat) : Int) ≠ -1)) n
  | 0 => rfl
  | n + 1 => by
    simp only [pcn, sg]
    rw [← pcn_s G b n]
    unfold b01
    split <;> simp
theorem pcn_99 {G : pPg} {b : Nat} (hG : pgOk G) (hb : b < 16) : pcn G b 99 = G.1 b := by
  have h1 := pcn_s G b 99
  rw [sg_congr (f := fun c => b01 (ixC G b ((c + 1 : Nat) : Int) ≠ -1)) (h := fun c => sg (fun i => b01 ((G.2 b).2.2 i = ((c + 1 : Nat) : Int))) (G.1 b)) (fun c _ => (hit_b hG hb).symm), sg_sw, sg_congr (f := fun i => sg (fun c => b01 ((G.2 b).2.2 i = ((c + 1 : Nat) : Int))) 99) (h := fun _ => 1) (fun i hi => by
    rw [hit_c]
    have := ((hG.1 b hb).2 i hi).2.2
    exact if_pos (by omega))] at h1
  have h2 := sg_ub (f := fun _ => (1 : Int)) (b := 1) (n := G.1 b) (fun _ _ => Int.le_refl _)
  have h3 := sg_lb (f := fun _ => (1 : Int)) (b := 1) (n := G.1 b) (fun _ _ => Int.le_refl _)
  omega
def pcP (G : pPg) (b c : Nat) (Z : pS) : Prop := ∀ e : Nat, 1 ≤ e → e ≤ c → ixC G b (e : Int) ≠ -1 → Z.1 (pcn G b (e - 1)) = (G.2 b).1 (ixC G b (e : Int)).toNat ∧ Z.2.1 (pcn G b (e - 1)) = (G.2 b).2.1 (ixC G b (e : Int)).toNat ∧ Z.2.2.1 (pcn G b (e - 1)) = (e : Int) ∧ Z.2.2.2 (pcn G b (e - 1)) = 1
theorem pcP_no {G : pPg} {b c : Nat} {Z : pS} (h : pcP G b (c - 1) Z) (hn : ixC G b (c : Int) = -1) : pcP G b c Z := fun e h1 h2 h3 => by
  by_cases z : e = c
  · subst z; exact absurd hn h3
  · exact h e h1 (by omega) h3
theorem pcP_yes {G : pPg} {b c : Nat} {Z Y : pS} (h : pcP G b (c - 1) Z) (hc : 1 ≤ c) (e1 : Y.1 = up Z.1 (pcn G b (c - 1)) ((G.2 b).1 (ixC G b (c : Int)).toNat)) (e2 : Y.2.1 = up Z.2.1 (pcn G b (c - 1)) ((G.2 b).2.1 (ixC G b (c : Int)).toNat)) (e3 : Y.2.2.1 = up Z.2.2.1 (pcn G b (c - 1)) (c : Int)) (e4 : Y.2.2.2 = up Z.2.2.2 (pcn G b (c - 1)) 1) : pcP G b c Y := fun e h1 h2 h3 => by
  rw [e1, e2, e3, e4]
  by_cases z : e = c
  · subst z; rw [up_s, up_s, up_s, up_s]; exact ⟨rfl, rfl, rfl, rfl⟩
  · have hlt : pcn G b (e - 1) < pcn G b (c - 1) := by
      have a1 := pcn_mono (G := G) (b := b) (show e ≤ c - 1 by omega)
      have a2 := pcn_yes h1 h3
      omega
    rw [up_n (by omega), up_n (by omega), up_n (by omega), up_n (by omega)]
    exact h e h1 (by omega) h3
def spB (A : pB) : pS := (A.1, A.2.1, A.2.2, fun _ => 1)
noncomputable def nrS (w : pWt) (G : pPg) (a b : Nat) : Int := Classical.epsilon (fun v => ∃ K, isKey w (G.1 a) (G.1 b) (G.2 a) (spB (G.2 b)) K ∧ v = K / 341812114609)
theorem nrS_e {w : pWt} {G : pPg} {a b : Nat} {K : Int} (h : isKey w (G.1 a) (G.1 b) (G.2 a) (spB (G.2 b)) K) : nrS w G a b = K / 341812114609 := by
  obtain ⟨K2, h2, e⟩ := Classical.epsilon_spec (p := fun v => ∃ K, isKey w (G.1 a) (G.1 b) (G.2 a) (spB (G.2 b)) K ∧ v = K / 341812114609) ⟨_, K, h, rfl⟩
  unfold nrS
  rw [e, isKey_one h2 h]
theorem spB_ok {G : pPg} {b : Nat} (hG : pgOk G) (hb : b < 16) : spOk (G.1 b) (spB (G.2 b)) := fun s hs => by
  obtain ⟨z1, z2, z3⟩ := (hG.1 b hb).2 s hs
  exact ⟨z1, z2, z3, Or.inr rfl⟩
/-- sorted or not: the same cost -/
theorem nr_srt {w : pWt} {G : pPg} {a b : Nat} {Z : pS} {K : Int} (hw : wtOk w) (hG : pgOk G) (ha : a < 16) (hb : b < 16) (hZ : pcP G b 99 Z) (h : isKey w (G.1 a) (G.1 b) (G.2 a) Z K) : K / 341812114609 = nrS w G a b := by
  obtain ⟨a1, a2⟩ := hG.1 a ha
  obtain ⟨b1, b2⟩ := hG.1 b hb
  have h99 := pcn_99 hG hb
  obtain ⟨J, hJ⟩ := isKey_ex hw a2 (spB_ok hG hb) a1 (show G.1 b ≤ 16 by omega)
  rw [nrS_e hJ]
  have at_ : ∀ s, s < G.1 b → ∃ e : Nat, 1 ≤ e ∧ e ≤ 99 ∧ ixC G b (e : Int) ≠ -1 ∧ pcn G b (e - 1) = s ∧ Z.1 s = (G.2 b).1 (ixC G b (e : Int)).toNat ∧ Z.2.1 s = (G.2 b).2.1 (ixC G b (e : Int)).toNat ∧ Z.2.2.1 s = (e : Int) ∧ Z.2.2.2 s = 1 := fun s hs => by
    rw [← h99] at hs
    obtain ⟨e, e1, e2, e3, e4⟩ := pcn_at hs
    obtain ⟨z1, z2, z3, z4⟩ := hZ e e1 e2 e3
    rw [e4] at z1 z2 z3 z4
    exact ⟨e, e1, e2, e3, e4, z1, z2, z3, z4⟩
  refine isMc_eq (isMc_of a1 (by omega) hJ) (isMc_of a1 (by omega) h) (fun s hs => ?_) (fun s hs => ?_) (fun s t hs ht he => ?_) (fun s t hs ht he => hG.2 b s t hb hs ht he) (fun s hs => ?_)
  · obtain ⟨e, e1, e2, e3, e4, z1, z2, z3, z4⟩ := at_ s hs
    rcases ixC_sp G b (e : Int) with ⟨y, -⟩ | ⟨j, y1, y2, y3⟩
    · exact absurd y e3
    · refine ⟨j, y1, ?_, ?_, ?_⟩
      · rw [z1, y3]; rfl
      · rw [z2, y3]; rfl
      · rw [z3, ← y2]; rfl
  · have hcr := (b2 s hs).2.2
    obtain ⟨e, he⟩ : ∃ e : Nat, (G.2 b).2.2 s = (e : Int) := ⟨((G.2 b).2.2 s).toNat, by omega⟩
    rcases ixC_sp G b (e : Int) with ⟨y, y2⟩ | ⟨j, y1, y2, y3⟩
    · exact absurd he (y2 s hs)
    · have hjs := hG.2 b j s hb y1 hs (by rw [y2, he])
      subst hjs
      obtain ⟨z1, z2, z3, z4⟩ := hZ e (by omega) (by omega) (by omega)
      refine ⟨pcn G b (e - 1), ?_, ?_, ?_, ?_⟩
      · have m1 := pcn_yes (G := G) (b := b) (c := e) (by omega) (by omega)
        have m2 := pcn_mono (G := G) (b := b) (show e ≤ 99 by omega)
        omega
      · rw [z1, y3]; rfl
      · rw [z2, y3]; rfl
      · rw [z3, ← he]; rfl
  · obtain ⟨e, e1, e2, e3, e4, z1, z2, z3, z4⟩ := at_ s hs
    obtain ⟨e', f1, f2, f3, f4, y1, y2, y3, y4⟩ := at_ t ht
    rw [z3, y3] at he
    have : e = e' := by omega
    subst this
    omega
  · obtain ⟨e, e1, e2, e3, e4, z1, z2, z3, z4⟩ := at_ s hs
    exact ⟨rfl, z4⟩
theorem JD_C {M N : pMem} (hJ : JD M) (h : frD oC M N) : JD N := by
  have hp : frD oP M N := oQ_P (frD_su h (fun b j hb => Or.inl (Or.inl hb)))
  have e10 := h.1 153 10 (by unfold oC oM; omega)
  refine JD_fp hJ hp ?_
  rw [e10]
  rcases hJ.2.2.2.2.2.2 with z | ⟨z1, z2, z3⟩
  · exact Or.inl z
  · refine Or.inr ⟨z1, fun k hk => ?_, fun p k hp2 hk => ?_⟩
    · have en : nsD N k = nsD M k := by unfold nsD; rw [frD_row h (fun j => by unfold oC oM; omega)]
      rw [en, oP_pg hp, oP_T hp, frD_kd h (fun b j _ _ => by unfold oC oM; omega), h.1 161 k (by unfold oC oM; omega), h.1 160 k (by unfold oC oM; omega)]
      exact z2 k hk
    · rw [oP_wt hp, oP_pg hp, oP_T hp, h.1 176 _ (by unfold oC; omega)]
      exact z3 p k hp2 hk
def nrI (M : pMem) (a b c : Nat) (N : pMem) : Prop := frD oC M N ∧ mI N 153 17 = (((pgD M).1 a : Nat) : Int) ∧ (∀ i, i < (pgD M).1 a → mI N 166 i = ((pgD M).2 a).1 i ∧ mI N 167 i = ((pgD M).2 a).2.1 i ∧ mI N 168 i = ((pgD M).2 a).2.2 i) ∧ mI N 153 21 = (pcn (pgD M) b (c - 1) : Int) ∧ pcP (pgD M) b (c - 1) (spD N)
theorem c_isNear {g : pG} {M : pMem} {a b : Nat} (hJ : JD M) (ha : a < 16) (hb : b < 16) : pCn g 5 0 0 yX6_isNear cX6_isNear 5 (some .boolean) SH SH M [.inr (.inr 153), .inl (a : Int), .inl (b : Int)] (fun r M' => r = some (.inl (if (nrS (wtD M) (pgD M) a b) ≤ mI M 153 9 then 1 else 0)) ∧ frD oL M M' ∧ JD M') := by
  refine pCn_intro mt_X6_isNear (fun X C => ?_)
  have hW := hJ.1
  have hG := hJ.2.2.2.2.1
  obtain ⟨a1, a2⟩ := hG.2.1 a ha
  obtain ⟨b1, b2⟩ := hG.2.1 b hb
  have h99 := pcn_99 hG.2 hb
  have hw := hJ.2.2.1
  have hbd := hJ.2.2.2.1
  unfold bdD at hbd
  have lp : ∀ (c : Nat) (N : pMem), c ≤ 100 → (1 ≤ c ∧ nrI M a b c N) → pE g 5 X (pMQ g SH (fun r M' => r = some (.inl (if (nrS (wtD M) (pgD M) a b) ≤ mI M 153 9 then 1 else 0)) ∧ frD oL M M' ∧ JD M') X 0 0) SH N 0 0 12 [some (.inr (.inr 153)), some (.inl (a : Int)), some (.inl (b : Int)), some (.inl (c : Int)), none] [] := by
    refine p_for (100) _ _ ?_ ?_
    · rintro N ⟨hc1, hN⟩
      obtain ⟨g1, g2, g3, g4, g5⟩ := hN
      have hWN := frD_W g1 hW
      have hfq : frD oP M N := oQ_P (frD_su g1 (fun b j hb => Or.inl (Or.inl hb)))
      have e99 : pcn (pgD M) b (100 - 1) = (pgD M).1 b := h99
      rw [e99] at g4
      have hbxN : bxOk ((pgD M).1 a) (bxD N) := fun i hi => by
        obtain ⟨z1, z2, z3⟩ := g3 i hi
        show (0 ≤ mI N 166 i ∧ mI N 166 i ≤ 63) ∧ (0 ≤ mI N 167 i ∧ mI N 167 i ≤ 63) ∧ (1 ≤ mI N 168 i ∧ mI N 168 i ≤ 99)
        rw [z1, z2, z3]; exact a2 i hi
      have hspN : spOk ((pgD M).1 b) (spD N) := fun s hs => by
        rw [← h99] at hs
        obtain ⟨e, e1, e2, e3, e4⟩ := pcn_at hs
        obtain ⟨z1, z2, z3, z4⟩ := g5 e e1 e2 e3
        rw [e4] at z1 z2 z3 z4
        rcases ixC_sp (pgD M) b (e : Int) with ⟨y, -⟩ | ⟨j, y1, y2, y3⟩
        · exact absurd y e3
        · rw [y3, Int.toNat_natCast] at z1 z2
          obtain ⟨x1, x2, x3⟩ := b2 j y1
          rw [z1, z2, z3, z4]
          exact ⟨x1, x2, by omega, Or.inr rfl⟩
      have hK : ∃ K, isKey (wtD N) ((pgD M).1 a) ((pgD M).1 b) (bxD N) (spD N) K := by
        refine isKey_ex (by rw [oP_wt hfq]; exact hw) hbxN hspN a1 (by omega)
      obtain ⟨K, hK⟩ := hK
      have hKr := isKey_r (by rw [oP_wt hfq]; exact hw) hbxN hspN a1 (show (pgD M).1 b ≤ 16 by omega) hK
      have hke : K / 341812114609 = nrS (wtD M) (pgD M) a b := by
        refine nr_srt hw hG.2 ha hb g5 ?_
        rw [← oP_wt hfq]
        exact isKey_congr (fun i hi => g3 i hi) (fun s _ => ⟨rfl, rfl, rfl, rfl⟩) hK
      refine e_iload_n C dX6_isNear_12 rfl ?_
      refine e_bipush C dX6_isNear_13 ?_
      refine e_icmp_ge C (tgt := 99) dX6_isNear_15 (by decide) (by omega) (by omega) (fun h_15 => ?_) (fun h_15 => by exfalso; omega)
      refine e_aload_n C dX6_isNear_99 rfl ?_
      refine e_callV C (c_seeks (M := N) (nb := (pgD M).1 a) (ns := (pgD M).1 b) (K := K) hWN g2 g4 a1 (by omega) (by rw [oP_wt hfq]; exact hw) hbxN hspN hK) mt_X6_seeks s_X6_165 dX6_isNear_100 6 sh_153 rfl (fun rs Ms hqs => ?_)
      obtain ⟨rfl, s1, s2, -, -, -⟩ := hqs
      dsimp only [Option.toList_none, List.nil_append]
      have hfs : frD oC M Ms := frD_tr g1 (frD_su s1 (fun b j hb => by unfold oC oM oQ at hb; unfold oSk; omega))
      have hJs := JD_C hJ hfs
      have hfl : frD oL M Ms := oQ_L (frD_su hfs (fun b j hb => Or.inl (Or.inl hb)))
      have e9 : mI Ms 153 9 = mI M 153 9 := hfl.1 153 9 (by unfold oL oP; omega)
      refine e_aload_n C dX6_isNear_103 rfl ?_
      refine e_getI C f_X6_146 sh_153 dX6_isNear_104 ?_
      rw [s2, hke]
      rw [hke] at s2
      refine e_aload_n C dX6_isNear_107 rfl ?_
      refine e_getI C f_X6_35 sh_153 dX6_isNear_108 ?_
      rw [e9]
      refine e_icmp_gt C (tgt := 118) dX6_isNear_111 (by decide) (by rw [← hke]; omega) (by omega) (fun h_111 => ?_) (fun h_111 => ?_)
      · skip
        refine e_iconst C dX6_isNear_118 ?_
        first | exact e_zreturn C dX6_isNear_119 (Or.inr rfl) ⟨by rw [if_pos (by omega)], hfl, hJs⟩ | exact e_zreturn C dX6_isNear_119 (Or.inl rfl) ⟨by rw [if_neg (by omega)], hfl, hJs⟩
      · skip
        refine e_iconst C dX6_isNear_114 ?_
        refine e_goto C (tgt := 119) dX6_isNear_115 (by decide) ?_
        first | exact e_zreturn C dX6_isNear_119 (Or.inr rfl) ⟨by rw [if_pos (by omega)], hfl, hJs⟩ | exact e_zreturn C dX6_isNear_119 (Or.inl rfl) ⟨by rw [if_neg (by omega)], hfl, hJs⟩
    · rintro c N hc ⟨hc1, hN⟩ ih
      obtain ⟨g1, g2, g3, g4, g5⟩ := hN
      have hWN := frD_W g1 hW
      have hfq : frD oP M N := oQ_P (frD_su g1 (fun b j hb => Or.inl (Or.inl hb)))
      have hpg : pgN N := by unfold pgN; rw [oP_pg hfq, frD_row hfq (fun j => by unfold oP; omega)]; exact hG
      have hbr := bwV_r (G := pgD M) (c := (c : Int)) b1 hb
      have hsn : pcn (pgD M) b (c - 1) ≤ 8 := by
        have := pcn_mono (G := pgD M) (b := b) (show c - 1 ≤ 99 by omega)
        omega
      have e155 : mI N 155 = mI M 155 := frD_row hfq (fun j => by unfold oP; omega)
      have e156 : mI N 156 = mI M 156 := frD_row hfq (fun j => by unfold oP; omega)
      refine e_iload_n C dX6_isNear_12 rfl ?_
      refine e_bipush C dX6_isNear_13 ?_
      refine e_icmp_ge C (tgt := 99) dX6_isNear_15 (by decide) (by omega) (by omega) (fun h_15 => by exfalso; omega) (fun h_15 => ?_)
      refine e_aload_n C dX6_isNear_18 rfl ?_
      refine e_iload_n C dX6_isNear_19 rfl ?_
      refine e_iload_n C dX6_isNear_20 rfl ?_
      refine e_callV C (c_boxWith (M := N) (p := b) (c := (c : Int)) hWN hpg hb (by omega)) mt_X6_boxWith s_X6_121 dX6_isNear_21 6 sh_153 rfl (fun rb Mb hqb => ?_)
      obtain ⟨rfl, hMb⟩ := hqb
      subst Mb
      dsimp only [Option.toList_some, List.singleton_append]
      rw [oP_pg hfq]
      refine e_istore C dX6_isNear_24 ?_
      refine e_iload C dX6_isNear_26 rfl ?_
      refine e_if_lt C (tgt := 93) dX6_isNear_28 (by decide) (by omega) (fun h_28 => ?_) (fun h_28 => ?_)
      · have hno : ixC (pgD M) b (c : Int) = -1 := Classical.byContradiction (fun y => by have := bwV_0.mpr y; omega)
        have hI : 1 ≤ c + 1 ∧ nrI M a b (c + 1) N := ⟨by omega, g1, g2, g3, by rw [Nat.add_sub_cancel, pcn_no hc1 hno]; exact g4, by rw [Nat.add_sub_cancel]; exact pcP_no g5 hno⟩
        refine e_iinc C dX6_isNear_93 rfl ?_
        refine e_goto C (tgt := 12) dX6_isNear_96 (by decide) ?_
        refine pE_f 4 ?_
        rw [show ((c : Int) + 1) = ((c + 1 : Nat) : Int) by omega]
        exact ih _ hI
      · have hye : ixC (pgD M) b (c : Int) ≠ -1 := bwV_0.mp (by omega)
        obtain ⟨j, hj1, hj2, hj3⟩ : ∃ j, j < (pgD M).1 b ∧ ((pgD M).2 b).2.2 j = (c : Int) ∧ ixC (pgD M) b (c : Int) = (j : Int) := by
          rcases ixC_sp (pgD M) b (c : Int) with ⟨y, -⟩ | y
          · exact absurd y hye
          · exact y
        have hbe : bwV (pgD M) b (c : Int) = ((8 * b + j : Nat) : Int) := by unfold bwV; rw [if_neg (by omega), hj3]; omega
        have hsn2 : pcn (pgD M) b (c - 1) < 8 := by
          have m1 := pcn_yes (G := (pgD M)) (b := b) (c := c) hc1 hye
          have m2 := pcn_mono (G := (pgD M)) (b := b) (show c ≤ 99 by omega)
          omega
        have hI : 1 ≤ c + 1 ∧ nrI M a b (c + 1) (stI (stI (stI (stI (stI N 169 (pcn (pgD M) b (c - 1)) (mI M 155 (8 * b + j))) 170 (pcn (pgD M) b (c - 1)) (mI M 156 (8 * b + j))) 171 (pcn (pgD M) b (c - 1)) (c : Int)) 172 (pcn (pgD M) b (c - 1)) 1) 153 21 (((pcn (pgD M) b (c - 1)) : Int) + 1)) := by
          refine ⟨by omega, ?_, ?_, fun i hi => ?_, ?_, ?_⟩
          · exact frD_tr g1 (frD_tr (frD_tr (frD_tr (frD_tr (frD_st (fun z => by unfold oC oM oQ at z; omega)) (frD_st (fun z => by unfold oC oM oQ at z; omega))) (frD_st (fun z => by unfold oC oM oQ at z; omega))) (frD_st (fun z => by unfold oC oM oQ at z; omega))) (frD_st (fun z => by unfold oC oM oQ at z; omega)))
          · rw [stI_n _ _ (by omega), stI_n _ _ (by omega), stI_n _ _ (by omega), stI_n _ _ (by omega), stI_n _ _ (by omega)]; exact g2
          · rw [stI_rowN _ _ _ (by decide), stI_rowN _ _ _ (by decide), stI_rowN _ _ _ (by decide), stI_rowN _ _ _ (by decide), stI_rowN _ _ _ (by decide), stI_rowN _ _ _ (by decide), stI_rowN _ _ _ (by decide), stI_rowN _ _ _ (by decide), stI_rowN _ _ _ (by decide), stI_rowN _ _ _ (by decide), stI_rowN _ _ _ (by decide), stI_rowN _ _ _ (by decide), stI_rowN _ _ _ (by decide), stI_rowN _ _ _ (by decide), stI_rowN _ _ _ (by decide)]
            exact g3 i hi
          · rw [stI_s, Nat.add_sub_cancel, pcn_yes hc1 hye]; omega
          · rw [Nat.add_sub_cancel]
            refine pcP_yes g5 hc1 ?_ ?_ ?_ ?_
            · show mI (stI (stI (stI (stI (stI N 169 (pcn (pgD M) b (c - 1)) (mI M 155 (8 * b + j))) 170 (pcn (pgD M) b (c - 1)) (mI M 156 (8 * b + j))) 171 (pcn (pgD M) b (c - 1)) (c : Int)) 172 (pcn (pgD M) b (c - 1)) 1) 153 21 (((pcn (pgD M) b (c - 1)) : Int) + 1)) 169 = _
              rw [stI_rowN _ _ _ (by decide), stI_rowN _ _ _ (by decide), stI_rowN _ _ _ (by decide), stI_rowN _ _ _ (by decide), stI_row, hj3]; rfl
            · show mI (stI (stI (stI (stI (stI N 169 (pcn (pgD M) b (c - 1)) (mI M 155 (8 * b + j))) 170 (pcn (pgD M) b (c - 1)) (mI M 156 (8 * b + j))) 171 (pcn (pgD M) b (c - 1)) (c : Int)) 172 (pcn (pgD M) b (c - 1)) 1) 153 21 (((pcn (pgD M) b (c - 1)) : Int) + 1)) 170 = _
              rw [stI_rowN _ _ _ (by decide), stI_rowN _ _ _ (by decide), stI_rowN _ _ _ (by decide), stI_row, stI_rowN _ _ _ (by decide), hj3]; rfl
            · show mI (stI (stI (stI (stI (stI N 169 (pcn (pgD M) b (c - 1)) (mI M 155 (8 * b + j))) 170 (pcn (pgD M) b (c - 1)) (mI M 156 (8 * b + j))) 171 (pcn (pgD M) b (c - 1)) (c : Int)) 172 (pcn (pgD M) b (c - 1)) 1) 153 21 (((pcn (pgD M) b (c - 1)) : Int) + 1)) 171 = _
              rw [stI_rowN _ _ _ (by decide), stI_rowN _ _ _ (by decide), stI_row, stI_rowN _ _ _ (by decide), stI_rowN _ _ _ (by decide)]; rfl
            · show mI (stI (stI (stI (stI (stI N 169 (pcn (pgD M) b (c - 1)) (mI M 155 (8 * b + j))) 170 (pcn (pgD M) b (c - 1)) (mI M 156 (8 * b + j))) 171 (pcn (pgD M) b (c - 1)) (c : Int)) 172 (pcn (pgD M) b (c - 1)) 1) 153 21 (((pcn (pgD M) b (c - 1)) : Int) + 1)) 172 = _
              rw [stI_rowN _ _ _ (by decide), stI_row, stI_rowN _ _ _ (by decide), stI_rowN _ _ _ (by decide), stI_rowN _ _ _ (by decide)]; rfl
        refine e_aload_n C dX6_isNear_31 rfl ?_
        refine e_getR C f_X6_66 sh_153 (hWN 153 22 169 rfl) dX6_isNear_32 ?_
        refine e_aload_n C dX6_isNear_35 rfl ?_
        refine e_getI C f_X6_139 sh_153 dX6_isNear_36 ?_
        rw [g4]
        refine e_aload_n C dX6_isNear_39 rfl ?_
        refine e_getR C f_X6_13 sh_153 (hWN 153 2 155 rfl) dX6_isNear_40 ?_
        refine e_iload C dX6_isNear_43 rfl ?_
        refine e_iaload C dX6_isNear_45 sh_155 (8 * b + j) (by omega) (by omega) ?_
        rw [e155]
        refine e_iastore C dX6_isNear_46 sh_169 _ rfl (by omega) ?_
        refine e_aload_n C dX6_isNear_47 rfl ?_
        refine e_getR C f_X6_69 sh_153 (hWN 153 23 170 rfl) dX6_isNear_48 ?_
        refine e_aload_n C dX6_isNear_51 rfl ?_
        refine e_getI C f_X6_139 sh_153 dX6_isNear_52 ?_
        rw [stI_n _ _ (by omega), g4]
        refine e_aload_n C dX6_isNear_55 rfl ?_
        refine e_getR C f_X6_16 sh_153 (hWN 153 3 156 rfl) dX6_isNear_56 ?_
        refine e_iload C dX6_isNear_59 rfl ?_
        refine e_iaload C dX6_isNear_61 sh_156 (8 * b + j) (by omega) (by omega) ?_
        rw [stI_rowN _ _ _ (by decide), e156]
        refine e_iastore C dX6_isNear_62 sh_170 _ rfl (by omega) ?_
        refine e_aload_n C dX6_isNear_63 rfl ?_
        refine e_getR C f_X6_72 sh_153 (hWN 153 24 171 rfl) dX6_isNear_64 ?_
        refine e_aload_n C dX6_isNear_67 rfl ?_
        refine e_getI C f_X6_139 sh_153 dX6_isNear_68 ?_
        rw [stI_n _ _ (by omega), stI_n _ _ (by omega), g4]
        refine e_iload_n C dX6_isNear_71 rfl ?_
        refine e_iastore C dX6_isNear_72 sh_171 _ rfl (by omega) ?_
        refine e_aload_n C dX6_isNear_73 rfl ?_
        refine e_getR C f_X6_75 sh_153 (hWN 153 25 172 rfl) dX6_isNear_74 ?_
        refine e_aload_n C dX6_isNear_77 rfl ?_
        refine e_getI C f_X6_139 sh_153 dX6_isNear_78 ?_
        rw [stI_n _ _ (by omega), stI_n _ _ (by omega), stI_n _ _ (by omega), g4]
        refine e_iconst C dX6_isNear_81 ?_
        refine e_bastore C dX6_isNear_82 sh_172 _ rfl (by omega) (Or.inr rfl) ?_
        refine e_aload_n C dX6_isNear_83 rfl ?_
        refine e_dup C dX6_isNear_84 ?_
        refine e_getI C f_X6_139 sh_153 dX6_isNear_85 ?_
        rw [stI_n _ _ (by omega), stI_n _ _ (by omega), stI_n _ _ (by omega), stI_n _ _ (by omega), g4]
        refine e_iconst C dX6_isNear_88 ?_
        refine e_iadd C dX6_isNear_89 ?_
        refine e_putI C f_X6_139 sh_153 (hd := dX6_isNear_90) (hfin := (fun CC T h => by obtain ⟨h1, -⟩ := h; cases h1; rfl)) ?_
        refine e_iinc C dX6_isNear_93 rfl ?_
        refine e_goto C (tgt := 12) dX6_isNear_96 (by decide) ?_
        refine pE_f 4 ?_
        rw [show ((c : Int) + 1) = ((c + 1 : Nat) : Int) by omega]
        exact ih _ hI
  show pE g 5 X _ SH M 0 0 0 [some (.inr (.inr 153)), some (.inl (a : Int)), some (.inl (b : Int)), none, none] []
  refine e_aload_n C dX6_isNear_0 rfl ?_
  refine e_iload_n C dX6_isNear_1 rfl ?_
  refine e_callV C (c_takesPage (M := M) (p := a) hW hG ha) mt_X6_takesPage s_X6_158 dX6_isNear_2 6 sh_153 rfl (fun rt Mt hqt => ?_)
  obtain ⟨rfl, t1, t2, t3⟩ := hqt
  dsimp only [Option.toList_none, List.nil_append]
  refine e_aload_n C dX6_isNear_5 rfl ?_
  refine e_iconst C dX6_isNear_6 ?_
  refine e_putI C f_X6_139 sh_153 (hd := dX6_isNear_7) (hfin := (fun CC T h => by obtain ⟨h1, -⟩ := h; cases h1; rfl)) ?_
  refine e_iconst C dX6_isNear_10 ?_
  refine e_istore_n C dX6_isNear_11 ?_
  exact lp 1 _ (by omega) ⟨Nat.le_refl _, frD_tr (frD_su t1 (fun b j hb => by unfold oC oM oQ at hb; unfold oTp; omega)) (frD_st (fun z => by unfold oC oM oQ at z; omega)), by rw [stI_n _ _ (by omega)]; exact t2, fun i hi => by rw [stI_rowN _ _ _ (by decide), stI_rowN _ _ _ (by decide), stI_rowN _ _ _ (by decide)]; exact t3 i hi, by rw [stI_s]; rfl, fun e h1 h2 => by omega⟩
