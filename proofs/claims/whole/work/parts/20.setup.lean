/-! ===== setting up ===== -/
def shB (M : pMem) (a : Nat) : pB := (mI M (a + 2), mI M (a + 3), mI M (a + 1))
def shS (M : pMem) (a : Nat) : pS := (mI M (a + 2), mI M (a + 3), mI M (a + 1), mI M (a + 4))
def wtC (M : pMem) : pWt := (mI M 4 0, mI M 4 1, mI M 4 2, mI M 4 3, mI M 4 4)
def SM (M : pMem) (am : Int) (r5 r6 r7 r8 : Nat → Int) : pMem := wrL (wrL (wrI (wrI (stL M 4 7 am) 5 r5) 6 r6) 7 r7) 8 r8
section PSM
variable {M : pMem} {am : Int} {r5 r6 r7 r8 : Nat → Int}
theorem SM_I {a : Nat} (j : Nat) (h : a ≠ 5 ∧ a ≠ 6) : mI (SM M am r5 r6 r7 r8) a j = mI M a j := by
  show (if a = 6 then r6 j else if a = 5 then r5 j else M.1 a j) = M.1 a j
  rw [if_neg h.2, if_neg h.1]
theorem SM_am (x : Int) : stL (SM M am r5 r6 r7 r8) 4 7 x = SM M x r5 r6 r7 r8 := by
  unfold SM wrL wrI stL
  simp only [Prod.mk.injEq, and_true, true_and]
  funext b i; (repeat' split) <;> simp_all
theorem SM_5 (j : Nat) (x : Int) : stI (SM M am r5 r6 r7 r8) 5 j x = SM M am (up r5 j x) r6 r7 r8 := by
  unfold SM wrL wrI stL stI up
  simp only [Prod.mk.injEq, and_true]
  funext b i; (repeat' split) <;> simp_all
theorem SM_6 (j : Nat) (x : Int) : stI (SM M am r5 r6 r7 r8) 6 j x = SM M am r5 (up r6 j x) r7 r8 := by
  unfold SM wrL wrI stL stI up
  simp only [Prod.mk.injEq, and_true]
  funext b i; (repeat' split) <;> simp_all
theorem SM_7 (j : Nat) (x : Int) : stL (SM M am r5 r6 r7 r8) 7 j x = SM M am r5 r6 (up r7 j x) r8 := by
  unfold SM wrL wrI stL up
  simp only [Prod.mk.injEq, and_true, true_and]
  funext b i; (repeat' split) <;> simp_all
theorem SM_8 (j : Nat) (x : Int) : stL (SM M am r5 r6 r7 r8) 8 j x = SM M am r5 r6 r7 (up r8 j x) := by
  unfold SM wrL wrI stL up
  simp only [Prod.mk.injEq, and_true, true_and]
  funext b i; (repeat' split) <;> simp_all
theorem SM_e : M = SM M (mL M 4 7) (mI M 5) (mI M 6) (mL M 7) (mL M 8) := by
  unfold SM
  have h1 : ∀ (N : pMem) (a : Nat) (f : Nat → Int), f = mI N a → wrI N a f = N := fun N a f h => by rw [h]; exact wrI_e N a
  have h2 : ∀ (N : pMem) (a : Nat) (f : Nat → Int), f = mL N a → wrL N a f = N := fun N a f h => by rw [h]; exact wrL_e N a
  have h3 : stL M 4 7 (mL M 4 7) = M := by
    unfold stL
    have : (fun b j => if b = 4 ∧ j = 7 then mL M 4 7 else M.2.1 b j) = M.2.1 := by
      funext b j
      split
      · next e => rw [e.1, e.2]; rfl
      · rfl
    rw [this]
  rw [h3, h1 M 5 _ rfl, h1 M 6 _ rfl, h2 M 7 _ rfl, h2 M 8 _ rfl]
end PSM
def suV (w : pWt) (A : pB) (Z : pS) (i c : Nat) : Int := ((if A.2.2 i = Z.2.2.1 c then 0 else w.2.2.1) - msv w Z c) * 341812114609 + (c : Int) * 17 ^ (7 - i)
def suE (w : pWt) (A : pB) (Z : pS) (r5 r6 r7 : Nat → Int) (i c : Nat) : Prop := r5 (i * 17 + c) = A.1 i - Z.1 c ∧ r6 (i * 17 + c) = A.2.1 i - Z.2.1 c ∧ r7 (i * 17 + c) = suV w A Z i c
def suI (w : pWt) (nb : Nat) (A : pB) (Z : pS) (s b : Nat) (r5 r6 r7 : Nat → Int) : Prop := (∀ c i, c < s → i < nb → suE w A Z r5 r6 r7 i c) ∧ ∀ i, i < b → suE w A Z r5 r6 r7 i s
def suP (w : pWt) (ns nb : Nat) (A : pB) (Z : pS) (am : Int) (r5 r6 r7 r8 : Nat → Int) : Prop := am = sg (msv w Z) ns ∧ (∀ c i, c < ns → i < nb → suE w A Z r5 r6 r7 i c) ∧ ∀ i, i < nb → r8 (i * 17 + ns) = w.2.2.2.2 * 341812114609 + 16 * 17 ^ (7 - i)
theorem suE_up {w : pWt} {A : pB} {Z : pS} {r5 r6 r7 : Nat → Int} {i c j : Nat} {x z v : Int} (h : suE w A Z r5 r6 r7 i c) (hj : i * 17 + c ≠ j) : suE w A Z (up r5 j x) (up r6 j z) (up r7 j v) i c := by
  unfold suE at h ⊢
  rw [up_n hj, up_n hj, up_n hj]; exact h
theorem c_setUp {g : pG} {M : pMem} {a e Na Ne : Nat} (hW : pW M) {ns nb : Nat} (hns : mI M 4 6 = (ns : Int)) (hn16 : ns ≤ 16) (hnb : mI M 4 5 = (nb : Int)) (hn8 : nb ≤ 8) (hA : pSh M a Na) (hE : pSh M e Ne) (ha : 15 ≤ a) (he : 15 ≤ e) (hNa : nb ≤ Na ∧ Na ≤ 16) (hNe : ns ≤ Ne ∧ Ne ≤ 16) (hw : wtOk (wtC M)) (hbx : bxOk nb (shB M a)) (hsp : spOk ns (shS M e)) :
    pCn g 1 0 0 yX1_setUp cX1_setUp 8 none SH SH M [.inr (.inr 4), .inr (.inr a), .inr (.inr e)] (fun r M' => ∃ (am : Int) (r5 r6 r7 r8 : Nat → Int), r = none ∧ M' = SM M am r5 r6 r7 r8 ∧ suP (wtC M) ns nb (shB M a) (shS M e) am r5 r6 r7 r8) := by
  refine pCn_intro mt_X1_setUp (fun X C => ?_)
  have hw3 : 0 ≤ mI M 4 2 ∧ mI M 4 2 ≤ 99 := hw.2.2.1
  have hw4 : 0 ≤ mI M 4 3 ∧ mI M 4 3 ≤ 99 := hw.2.2.2.1
  have hw5 : 0 ≤ mI M 4 4 ∧ mI M 4 4 ≤ 99 := hw.2.2.2.2
  have l3 : ∀ (b : Nat) (s : Int × (Nat → Int) × (Nat → Int) × (Nat → Int) × (Nat → Int) × Option pV × Option pV × Option pV × Option pV), b ≤ nb → (s.1 = sg (msv (wtC M) (shS M e)) ns ∧ (∀ c i, c < ns → i < nb → suE (wtC M) (shB M a) (shS M e) s.2.1 s.2.2.1 s.2.2.2.1 i c) ∧ ∀ i, i < b → s.2.2.2.2.1 (i * 17 + ns) = (wtC M).2.2.2.2 * 341812114609 + 16 * 17 ^ (7 - i)) → pE g 8 X (pMQ g SH (fun r M' => ∃ (am : Int) (r5 r6 r7 r8 : Nat → Int), r = none ∧ M' = SM M am r5 r6 r7 r8 ∧ suP (wtC M) ns nb (shB M a) (shS M e) am r5 r6 r7 r8) X 0 0) SH (SM M s.1 s.2.1 s.2.2.1 s.2.2.2.1 s.2.2.2.2.1) 0 0 181 [some (.inr (.inr 4)), some (.inr (.inr a)), some (.inr (.inr e)), some (.inl (b : Int)), s.2.2.2.2.2.1, s.2.2.2.2.2.2.1, s.2.2.2.2.2.2.2.1, s.2.2.2.2.2.2.2.2] [] := by
    refine p_for nb _ _ ?_ ?_
    · rintro ⟨am, r5, r6, r7, r8, x4, x5, x6, x7⟩ ⟨h1, h2, h3⟩
      dsimp only at h1 h2 h3 ⊢
      refine e_iload_n C dX1_setUp_181 rfl ?_
      refine e_aload_n C dX1_setUp_182 rfl ?_
      refine e_getI C f_X1_27 sh_4 dX1_setUp_183 ?_
      rw [SM_I _ (by decide), hnb]
      refine e_icmp_ge C (tgt := 228) dX1_setUp_186 (by decide) (by omega) (by omega) (fun h_186 => ?_) (fun h_186 => by exfalso; omega)
      exact e_return C dX1_setUp_228 ⟨am, r5, r6, r7, r8, rfl, rfl, h1, h2, h3⟩
    · rintro b ⟨am, r5, r6, r7, r8, x4, x5, x6, x7⟩ hb ⟨h1, h2, h3⟩ ih
      dsimp only at h1 h2 h3 ih ⊢
      refine e_iload_n C dX1_setUp_181 rfl ?_
      refine e_aload_n C dX1_setUp_182 rfl ?_
      refine e_getI C f_X1_27 sh_4 dX1_setUp_183 ?_
      rw [SM_I _ (by decide), hnb]
      refine e_icmp_ge C (tgt := 228) dX1_setUp_186 (by decide) (by omega) (by omega) (fun h_186 => by exfalso; omega) (fun h_186 => ?_)
      refine e_aload_n C dX1_setUp_189 rfl ?_
      refine e_getR C f_X1_52 sh_4 (hW 4 12 8 rfl) dX1_setUp_190 ?_
      refine e_iload_n C dX1_setUp_193 rfl ?_
      refine e_bipush C dX1_setUp_194 ?_
      refine e_imul C dX1_setUp_196 ?_
      refine e_aload_n C dX1_setUp_197 rfl ?_
      refine e_getI C f_X1_30 sh_4 dX1_setUp_198 ?_
      rw [SM_I _ (by decide), hns]
      refine e_iadd C dX1_setUp_201 ?_
      refine e_aload_n C dX1_setUp_202 rfl ?_
      refine e_getI C f_X1_24 sh_4 dX1_setUp_203 ?_
      rw [SM_I _ (by decide)]
      refine e_i2l C dX1_setUp_206 (by omega) ?_
      refine e_ldc2 C (341812114609) k_X1_107 dX1_setUp_207 ?_
      refine e_lmul C dX1_setUp_210 ?_
      refine e_ldc2 C (16) k_X1_112 dX1_setUp_211 ?_
      refine e_getsN C rfl dX1_setUp_214 ?_
      refine e_iload_n C dX1_setUp_217 rfl ?_
      refine e_units C dX1_setUp_218 b rfl (by omega) ?_
      refine e_lmul C dX1_setUp_219 ?_
      refine e_ladd C dX1_setUp_220 ?_
      refine e_lastore C dX1_setUp_221 sh_8 (b * 17 + ns) (by omega) (by omega) ?_
      rw [SM_8]
      refine e_iinc C dX1_setUp_222 rfl ?_
      refine e_goto C (tgt := 181) dX1_setUp_225 (by decide) ?_
      refine ih (am, r5, r6, r7, up r8 (b * 17 + ns) (mI M 4 4 * 341812114609 + 16 * 17 ^ (7 - b)), x4, x5, x6, x7) ⟨h1, h2, fun i hi => ?_⟩
      dsimp only
      by_cases eq : i = b
      · subst eq; rw [up_s]; rfl
      · rw [up_n (by omega)]; exact h3 i (by omega)
  have l1 : ∀ (s : Nat) (t : Int × (Nat → Int) × (Nat → Int) × (Nat → Int) × (Nat → Int) × Option pV × Option pV × Option pV × Option pV), s ≤ ns → (t.1 = sg (msv (wtC M) (shS M e)) s ∧ suI (wtC M) nb (shB M a) (shS M e) s 0 t.2.1 t.2.2.1 t.2.2.2.1) → pE g 8 X (pMQ g SH (fun r M' => ∃ (am : Int) (r5 r6 r7 r8 : Nat → Int), r = none ∧ M' = SM M am r5 r6 r7 r8 ∧ suP (wtC M) ns nb (shB M a) (shS M e) am r5 r6 r7 r8) X 0 0) SH (SM M t.1 t.2.1 t.2.2.1 t.2.2.2.1 t.2.2.2.2.1) 0 0 7 [some (.inr (.inr 4)), some (.inr (.inr a)), some (.inr (.inr e)), some (.inl (s : Int)), t.2.2.2.2.2.1, t.2.2.2.2.2.2.1, t.2.2.2.2.2.2.2.1, t.2.2.2.2.2.2.2.2] [] := by
    refine p_for ns _ _ ?_ ?_
    · rintro ⟨am, r5, r6, r7, r8, x4, x5, x6, x7⟩ ⟨h1, h2⟩
      dsimp only at h1 h2 ⊢
      refine e_iload_n C dX1_setUp_7 rfl ?_
      refine e_aload_n C dX1_setUp_8 rfl ?_
      refine e_getI C f_X1_30 sh_4 dX1_setUp_9 ?_
      rw [SM_I _ (by decide), hns]
      refine e_icmp_ge C (tgt := 179) dX1_setUp_12 (by decide) (by omega) (by omega) (fun h_12 => ?_) (fun h_12 => by exfalso; omega)
      refine e_iconst C dX1_setUp_179 ?_
      refine e_istore_n C dX1_setUp_180 ?_
      exact l3 0 (am, r5, r6, r7, r8, x4, x5, x6, x7) (by omega) ⟨h1, h2.1, fun i hi => absurd hi (Nat.not_lt_zero i)⟩
    · rintro s ⟨am, r5, r6, r7, r8, x4, x5, x6, x7⟩ hs ⟨h1, h2⟩ ih
      dsimp only at h1 h2 ih ⊢
      obtain ⟨z1, z2, z3, z4⟩ := hsp s hs
      have z1' : 0 ≤ mI M (e + 2) s ∧ mI M (e + 2) s ≤ 63 := z1
      have z2' : 0 ≤ mI M (e + 3) s ∧ mI M (e + 3) s ≤ 63 := z2
      have z3' : 1 ≤ mI M (e + 1) s ∧ mI M (e + 1) s ≤ 99 := z3
      have z4' : mI M (e + 4) s = 0 ∨ mI M (e + 4) s = 1 := z4
      have hms := msv_r hw (shS M e) s
      have l2 : ∀ (b : Nat) (t : (Nat → Int) × (Nat → Int) × (Nat → Int) × Option pV × Option pV), b ≤ nb → suI (wtC M) nb (shB M a) (shS M e) s b t.1 t.2.1 t.2.2.1 → pE g 8 X (pMQ g SH (fun r M' => ∃ (am : Int) (r5 r6 r7 r8 : Nat → Int), r = none ∧ M' = SM M am r5 r6 r7 r8 ∧ suP (wtC M) ns nb (shB M a) (shS M e) am r5 r6 r7 r8) X 0 0) SH (SM M (am + msv (wtC M) (shS M e) s) t.1 t.2.1 t.2.2.1 r8) 0 0 54 [some (.inr (.inr 4)), some (.inr (.inr a)), some (.inr (.inr e)), some (.inl (s : Int)), some (.inl (msv (wtC M) (shS M e) s)), some (.inl (b : Int)), t.2.2.2.1, t.2.2.2.2] [] := by
        refine p_for nb _ _ ?_ ?_
        · rintro ⟨t5, t6, t7, y6, y7⟩ h3
          dsimp only at h3 ⊢
          refine e_iload C dX1_setUp_54 rfl ?_
          refine e_aload_n C dX1_setUp_56 rfl ?_
          refine e_getI C f_X1_27 sh_4 dX1_setUp_57 ?_
          rw [SM_I _ (by decide), hnb]
          refine e_icmp_ge C (tgt := 173) dX1_setUp_60 (by decide) (by omega) (by omega) (fun h_60 => ?_) (fun h_60 => by exfalso; omega)
          refine e_iinc C dX1_setUp_173 rfl ?_
          refine e_goto C (tgt := 7) dX1_setUp_176 (by decide) ?_
          refine ih (am + msv (wtC M) (shS M e) s, t5, t6, t7, r8, _, _, _, _) ⟨by dsimp only; simp only [sg]; rw [h1], fun c i hc hi => ?_, fun i hi => absurd hi (Nat.not_lt_zero i)⟩
          rcases Nat.lt_or_ge c s with q | q
          · exact h3.1 c i q hi
          · have : c = s := by omega
            subst this; exact h3.2 i hi
        · rintro b ⟨t5, t6, t7, y6, y7⟩ hb h3 ih2
          dsimp only at h3 ih2 ⊢
          obtain ⟨b1, b2, b3⟩ := hbx b hb
          have b1' : 0 ≤ mI M (a + 2) b ∧ mI M (a + 2) b ≤ 63 := b1
          have b2' : 0 ≤ mI M (a + 3) b ∧ mI M (a + 3) b ≤ 63 := b2
          have b3' : 1 ≤ mI M (a + 1) b ∧ mI M (a + 1) b ≤ 99 := b3
          have nx : suI (wtC M) nb (shB M a) (shS M e) s (b + 1) (up t5 (b * 17 + s) (mI M (a + 2) b - mI M (e + 2) s)) (up t6 (b * 17 + s) (mI M (a + 3) b - mI M (e + 3) s)) (up t7 (b * 17 + s) (suV (wtC M) (shB M a) (shS M e) b s)) := by
            refine ⟨fun c i hc hi => suE_up (h3.1 c i hc hi) (by omega), fun i hi => ?_⟩
            by_cases eq : i = b
            · subst eq; exact ⟨up_s, up_s, up_s⟩
            · exact suE_up (h3.2 i (by omega)) (by omega)
          by_cases hcd : mI M (a + 1) b = mI M (e + 1) s
          · have hv : suV (wtC M) (shB M a) (shS M e) b s = (0 - msv (wtC M) (shS M e) s) * 341812114609 + (s : Int) * 17 ^ (7 - b) := by unfold suV; rw [if_pos (show (shB M a).2.2 b = (shS M e).2.2.1 s from hcd)]
            rw [hv] at nx
            refine e_iload C dX1_setUp_54 rfl ?_
            refine e_aload_n C dX1_setUp_56 rfl ?_
            refine e_getI C f_X1_27 sh_4 dX1_setUp_57 ?_
            rw [SM_I _ (by decide), hnb]
            refine e_icmp_ge C (tgt := 173) dX1_setUp_60 (by decide) (by omega) (by omega) (fun h_60 => by exfalso; omega) (fun h_60 => ?_)
            refine e_iload C dX1_setUp_63 rfl ?_
            refine e_bipush C dX1_setUp_65 ?_
            refine e_imul C dX1_setUp_67 ?_
            refine e_iload_n C dX1_setUp_68 rfl ?_
            refine e_iadd C dX1_setUp_69 ?_
            refine e_istore C dX1_setUp_70 ?_
            refine e_aload_n C dX1_setUp_72 rfl ?_
            refine e_getR C f_X1_98 hA.1 hA.2.2.2.2.2.1 dX1_setUp_73 ?_
            refine e_iload C dX1_setUp_76 rfl ?_
            refine e_iaload C dX1_setUp_78 hA.2.1 _ rfl (by omega) ?_
            rw [SM_I _ (by omega)]
            refine e_aload_n C dX1_setUp_79 rfl ?_
            refine e_getR C f_X1_98 hE.1 hE.2.2.2.2.2.1 dX1_setUp_80 ?_
            refine e_iload_n C dX1_setUp_83 rfl ?_
            refine e_iaload C dX1_setUp_84 hE.2.1 _ rfl (by omega) ?_
            rw [SM_I _ (by omega)]
            refine e_icmp_ne C (tgt := 92) dX1_setUp_85 (by decide) (by omega) (by omega) (fun h_85 => by exact absurd hcd h_85) (fun h_85 => ?_)
            refine e_iconst C dX1_setUp_88 ?_
            refine e_goto C (tgt := 96) dX1_setUp_89 (by decide) ?_
            refine e_istore C dX1_setUp_96 ?_
            refine e_aload_n C dX1_setUp_98 rfl ?_
            refine e_getR C f_X1_41 sh_4 (hW 4 9 5 rfl) dX1_setUp_99 ?_
            refine e_iload C dX1_setUp_102 rfl ?_
            refine e_aload_n C dX1_setUp_104 rfl ?_
            refine e_getR C f_X1_101 hA.1 hA.2.2.2.2.2.2.1 dX1_setUp_105 ?_
            refine e_iload C dX1_setUp_108 rfl ?_
            refine e_iaload C dX1_setUp_110 hA.2.2.1 _ rfl (by omega) ?_
            rw [SM_I _ (by omega)]
            refine e_aload_n C dX1_setUp_111 rfl ?_
            refine e_getR C f_X1_101 hE.1 hE.2.2.2.2.2.2.1 dX1_setUp_112 ?_
            refine e_iload_n C dX1_setUp_115 rfl ?_
            refine e_iaload C dX1_setUp_116 hE.2.2.1 _ rfl (by omega) ?_
            rw [SM_I _ (by omega)]
            refine e_isub C dX1_setUp_117 ?_
            refine e_iastore C dX1_setUp_118 sh_5 (b * 17 + s) (by omega) (by omega) ?_
            rw [SM_5]
            refine e_aload_n C dX1_setUp_119 rfl ?_
            refine e_getR C f_X1_45 sh_4 (hW 4 10 6 rfl) dX1_setUp_120 ?_
            refine e_iload C dX1_setUp_123 rfl ?_
            refine e_aload_n C dX1_setUp_125 rfl ?_
            refine e_getR C f_X1_104 hA.1 hA.2.2.2.2.2.2.2.1 dX1_setUp_126 ?_
            refine e_iload C dX1_setUp_129 rfl ?_
            refine e_iaload C dX1_setUp_131 hA.2.2.2.1 _ rfl (by omega) ?_
            rw [SM_I _ (by omega)]
            refine e_aload_n C dX1_setUp_132 rfl ?_
            refine e_getR C f_X1_104 hE.1 hE.2.2.2.2.2.2.2.1 dX1_setUp_133 ?_
            refine e_iload_n C dX1_setUp_136 rfl ?_
            refine e_iaload C dX1_setUp_137 hE.2.2.2.1 _ rfl (by omega) ?_
            rw [SM_I _ (by omega)]
            refine e_isub C dX1_setUp_138 ?_
            refine e_iastore C dX1_setUp_139 sh_6 (b * 17 + s) (by omega) (by omega) ?_
            rw [SM_6]
            refine e_aload_n C dX1_setUp_140 rfl ?_
            refine e_getR C f_X1_48 sh_4 (hW 4 11 7 rfl) dX1_setUp_141 ?_
            refine e_iload C dX1_setUp_144 rfl ?_
            refine e_iload C dX1_setUp_146 rfl ?_
            refine e_iload C dX1_setUp_148 rfl ?_
            refine e_isub C dX1_setUp_150 ?_
            refine e_i2l C dX1_setUp_151 (by omega) ?_
            refine e_ldc2 C (341812114609) k_X1_107 dX1_setUp_152 ?_
            refine e_lmul C dX1_setUp_155 ?_
            refine e_iload_n C dX1_setUp_156 rfl ?_
            refine e_i2l C dX1_setUp_157 (by omega) ?_
            refine e_getsN C rfl dX1_setUp_158 ?_
            refine e_iload C dX1_setUp_161 rfl ?_
            refine e_units C dX1_setUp_163 b rfl (by omega) ?_
            refine e_lmul C dX1_setUp_164 ?_
            refine e_ladd C dX1_setUp_165 ?_
            refine e_lastore C dX1_setUp_166 sh_7 (b * 17 + s) (by omega) (by omega) ?_
            rw [SM_7]
            refine e_iinc C dX1_setUp_167 rfl ?_
            refine e_goto C (tgt := 54) dX1_setUp_170 (by decide) ?_
            exact ih2 (_, _, _, _, _) nx
          · have hv : suV (wtC M) (shB M a) (shS M e) b s = (mI M 4 2 - msv (wtC M) (shS M e) s) * 341812114609 + (s : Int) * 17 ^ (7 - b) := by unfold suV; rw [if_neg (show ¬ (shB M a).2.2 b = (shS M e).2.2.1 s from hcd)]; rfl
            rw [hv] at nx
            refine e_iload C dX1_setUp_54 rfl ?_
            refine e_aload_n C dX1_setUp_56 rfl ?_
            refine e_getI C f_X1_27 sh_4 dX1_setUp_57 ?_
            rw [SM_I _ (by decide), hnb]
            refine e_icmp_ge C (tgt := 173) dX1_setUp_60 (by decide) (by omega) (by omega) (fun h_60 => by exfalso; omega) (fun h_60 => ?_)
            refine e_iload C dX1_setUp_63 rfl ?_
            refine e_bipush C dX1_setUp_65 ?_
            refine e_imul C dX1_setUp_67 ?_
            refine e_iload_n C dX1_setUp_68 rfl ?_
            refine e_iadd C dX1_setUp_69 ?_
            refine e_istore C dX1_setUp_70 ?_
            refine e_aload_n C dX1_setUp_72 rfl ?_
            refine e_getR C f_X1_98 hA.1 hA.2.2.2.2.2.1 dX1_setUp_73 ?_
            refine e_iload C dX1_setUp_76 rfl ?_
            refine e_iaload C dX1_setUp_78 hA.2.1 _ rfl (by omega) ?_
            rw [SM_I _ (by omega)]
            refine e_aload_n C dX1_setUp_79 rfl ?_
            refine e_getR C f_X1_98 hE.1 hE.2.2.2.2.2.1 dX1_setUp_80 ?_
            refine e_iload_n C dX1_setUp_83 rfl ?_
            refine e_iaload C dX1_setUp_84 hE.2.1 _ rfl (by omega) ?_
            rw [SM_I _ (by omega)]
            refine e_icmp_ne C (tgt := 92) dX1_setUp_85 (by decide) (by omega) (by omega) (fun h_85 => ?_) (fun h_85 => by exact absurd (fun eq => hcd eq) h_85)
            refine e_aload_n C dX1_setUp_92 rfl ?_
            refine e_getI C f_X1_18 sh_4 dX1_setUp_93 ?_
            rw [SM_I _ (by decide)]
            refine e_istore C dX1_setUp_96 ?_
            refine e_aload_n C dX1_setUp_98 rfl ?_
            refine e_getR C f_X1_41 sh_4 (hW 4 9 5 rfl) dX1_setUp_99 ?_
            refine e_iload C dX1_setUp_102 rfl ?_
            refine e_aload_n C dX1_setUp_104 rfl ?_
            refine e_getR C f_X1_101 hA.1 hA.2.2.2.2.2.2.1 dX1_setUp_105 ?_
            refine e_iload C dX1_setUp_108 rfl ?_
            refine e_iaload C dX1_setUp_110 hA.2.2.1 _ rfl (by omega) ?_
            rw [SM_I _ (by omega)]
            refine e_aload_n C dX1_setUp_111 rfl ?_
            refine e_getR C f_X1_101 hE.1 hE.2.2.2.2.2.2.1 dX1_setUp_112 ?_
            refine e_iload_n C dX1_setUp_115 rfl ?_
            refine e_iaload C dX1_setUp_116 hE.2.2.1 _ rfl (by omega) ?_
            rw [SM_I _ (by omega)]
            refine e_isub C dX1_setUp_117 ?_
            refine e_iastore C dX1_setUp_118 sh_5 (b * 17 + s) (by omega) (by omega) ?_
            rw [SM_5]
            refine e_aload_n C dX1_setUp_119 rfl ?_
            refine e_getR C f_X1_45 sh_4 (hW 4 10 6 rfl) dX1_setUp_120 ?_
            refine e_iload C dX1_setUp_123 rfl ?_
            refine e_aload_n C dX1_setUp_125 rfl ?_
            refine e_getR C f_X1_104 hA.1 hA.2.2.2.2.2.2.2.1 dX1_setUp_126 ?_
            refine e_iload C dX1_setUp_129 rfl ?_
            refine e_iaload C dX1_setUp_131 hA.2.2.2.1 _ rfl (by omega) ?_
            rw [SM_I _ (by omega)]
            refine e_aload_n C dX1_setUp_132 rfl ?_
            refine e_getR C f_X1_104 hE.1 hE.2.2.2.2.2.2.2.1 dX1_setUp_133 ?_
            refine e_iload_n C dX1_setUp_136 rfl ?_
            refine e_iaload C dX1_setUp_137 hE.2.2.2.1 _ rfl (by omega) ?_
            rw [SM_I _ (by omega)]
            refine e_isub C dX1_setUp_138 ?_
            refine e_iastore C dX1_setUp_139 sh_6 (b * 17 + s) (by omega) (by omega) ?_
            rw [SM_6]
            refine e_aload_n C dX1_setUp_140 rfl ?_
            refine e_getR C f_X1_48 sh_4 (hW 4 11 7 rfl) dX1_setUp_141 ?_
            refine e_iload C dX1_setUp_144 rfl ?_
            refine e_iload C dX1_setUp_146 rfl ?_
            refine e_iload C dX1_setUp_148 rfl ?_
            refine e_isub C dX1_setUp_150 ?_
            refine e_i2l C dX1_setUp_151 (by omega) ?_
            refine e_ldc2 C (341812114609) k_X1_107 dX1_setUp_152 ?_
            refine e_lmul C dX1_setUp_155 ?_
            refine e_iload_n C dX1_setUp_156 rfl ?_
            refine e_i2l C dX1_setUp_157 (by omega) ?_
            refine e_getsN C rfl dX1_setUp_158 ?_
            refine e_iload C dX1_setUp_161 rfl ?_
            refine e_units C dX1_setUp_163 b rfl (by omega) ?_
            refine e_lmul C dX1_setUp_164 ?_
            refine e_ladd C dX1_setUp_165 ?_
            refine e_lastore C dX1_setUp_166 sh_7 (b * 17 + s) (by omega) (by omega) ?_
            rw [SM_7]
            refine e_iinc C dX1_setUp_167 rfl ?_
            refine e_goto C (tgt := 54) dX1_setUp_170 (by decide) ?_
            exact ih2 (_, _, _, _, _) nx
      have c37 : pE g 8 X (pMQ g SH (fun r M' => ∃ (am : Int) (r5 r6 r7 r8 : Nat → Int), r = none ∧ M' = SM M am r5 r6 r7 r8 ∧ suP (wtC M) ns nb (shB M a) (shS M e) am r5 r6 r7 r8) X 0 0) SH (SM M am r5 r6 r7 r8) 0 0 37 [some (.inr (.inr 4)), some (.inr (.inr a)), some (.inr (.inr e)), some (.inl (s : Int)), x4, x5, x6, x7] [.inl (msv (wtC M) (shS M e) s)] := by
        refine e_istore C dX1_setUp_37 ?_
        refine e_aload_n C dX1_setUp_39 rfl ?_
        refine e_dup C dX1_setUp_40 ?_
        refine e_getL C f_X1_33 sh_4 dX1_setUp_41 ?_
        rw [show mL (SM M am r5 r6 r7 r8) 4 7 = am from rfl]
        refine e_iload C dX1_setUp_44 rfl ?_
        refine e_i2l C dX1_setUp_46 (by omega) ?_
        refine e_ladd C dX1_setUp_47 ?_
        refine e_putL C f_X1_33 sh_4 (hd := dX1_setUp_48) (hfin := (fun CC T h => by obtain ⟨h1, -⟩ := h; cases h1; rfl)) ?_
        rw [SM_am]
        refine e_iconst C dX1_setUp_51 ?_
        refine e_istore C dX1_setUp_52 ?_
        exact l2 0 (r5, r6, r7, _, _) (by omega) h2
      refine e_iload_n C dX1_setUp_7 rfl ?_
      refine e_aload_n C dX1_setUp_8 rfl ?_
      refine e_getI C f_X1_30 sh_4 dX1_setUp_9 ?_
      rw [SM_I _ (by decide), hns]
      refine e_icmp_ge C (tgt := 179) dX1_setUp_12 (by decide) (by omega) (by omega) (fun h_12 => by exfalso; omega) (fun h_12 => ?_)
      refine e_aload_n C dX1_setUp_15 rfl ?_
      refine e_getR C f_X1_95 hE.1 hE.2.2.2.2.2.2.2.2 dX1_setUp_16 ?_
      refine e_iload_n C dX1_setUp_19 rfl ?_
      refine e_baload C dX1_setUp_20 hE.2.2.2.2.1 _ rfl (by omega) ?_
      rw [SM_I _ (by omega)]
      refine e_if_eq C (tgt := 31) dX1_setUp_21 (by decide) (by omega) (fun h_21 => ?_) (fun h_21 => ?_)
      · refine e_aload_n C dX1_setUp_31 rfl ?_
        refine e_getI C f_X1_21 sh_4 dX1_setUp_32 ?_
        rw [SM_I _ (by decide)]
        refine e_iconst C dX1_setUp_35 ?_
        refine e_idiv C dX1_setUp_36 (by omega) (by omega) (by omega) (by omega) ?_
        exact pE_to c37 rfl rfl (by unfold msv; first | (rw [if_pos (show (shS M e).2.2.2 s = 0 from h_21)]; rfl) | (rw [if_neg (show ¬ (shS M e).2.2.2 s = 0 from h_21)]; rfl))
      · refine e_aload_n C dX1_setUp_24 rfl ?_
        refine e_getI C f_X1_21 sh_4 dX1_setUp_25 ?_
        rw [SM_I _ (by decide)]
        refine e_goto C (tgt := 37) dX1_setUp_28 (by decide) ?_
        exact pE_to c37 rfl rfl (by unfold msv; first | (rw [if_pos (show (shS M e).2.2.2 s = 0 from h_21)]; rfl) | (rw [if_neg (show ¬ (shS M e).2.2.2 s = 0 from h_21)]; rfl))
  show pE g 8 X _ SH M 0 0 0 [some (.inr (.inr 4)), some (.inr (.inr a)), some (.inr (.inr e)), none, none, none, none, none] []
  refine e_aload_n C dX1_setUp_0 rfl ?_
  refine e_lconst C 0 dX1_setUp_1 ?_
  refine e_putL C f_X1_33 sh_4 (hd := dX1_setUp_2) (hfin := (fun CC T h => by obtain ⟨h1, -⟩ := h; cases h1; rfl)) ?_
  refine pE_M (show stL M 4 7 0 = SM M 0 (mI M 5) (mI M 6) (mL M 7) (mL M 8) from by rw [← SM_am (am := mL M 4 7), ← SM_e]) ?_
  refine e_iconst C dX1_setUp_5 ?_
  refine e_istore_n C dX1_setUp_6 ?_
  exact l1 0 (0, mI M 5, mI M 6, mL M 7, mL M 8, none, none, none, none) (by omega) ⟨rfl, fun c i hc => absurd hc (Nat.not_lt_zero c), fun i hi => absurd hi (Nat.not_lt_zero i)⟩
