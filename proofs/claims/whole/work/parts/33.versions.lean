/-! ===== versions ===== -/
/-- by which code two kinds' spots are told apart: from code c on, n codes, m the least one so far whose places differ -/
def apF (f h : Int → Int) (dif : Int → Bool) : Nat → Int → Int → Int
  | 0, _, m => m
  | n + 1, c, m => if ¬ ((f c = -1) ↔ (h c = -1)) then c else apF f h dif n (c + 1) (if m = -1 ∧ f c ≠ -1 ∧ dif c = true then c else m)
def fnS (Z : pS) (n : Nat) (c : Int) : Int := fndI Z.2.2.1 c 0 n
def dfS (Z : pS) (n : Nat) (Y : pS) (m : Nat) (c : Int) : Bool := decide (Z.1 (fnS Z n c).toNat ≠ Y.1 (fnS Y m c).toNat ∨ Z.2.1 (fnS Z n c).toNat ≠ Y.2.1 (fnS Y m c).toNat)
def apS (Z : pS) (n : Nat) (Y : pS) (m : Nat) : Int := apF (fnS Z n) (fnS Y m) (dfS Z n Y m) 99 1 (-1)
theorem c_codeApart {g : pG} {M : pMem} {a e n m : Nat} (hA : pSh M a 16) (hE : pSh M e 16) (hn : mI M a 4 = (n : Int)) (hm : mI M e 4 = (m : Int)) (hn16 : n ≤ 16) (hm16 : m ≤ 16) (hZ : spOk n (shS M a)) (hY : spOk m (shS M e)) :
    pCn g 2 0 0 yX5_codeApart cX5_codeApart 6 (some .int) SH SH M [.inr (.inr a), .inr (.inr e)] (fun r M' => r = some (.inl (apS (shS M a) n (shS M e) m)) ∧ M' = M) := by
  refine pCn_intro mt_X5_codeApart (fun X C => ?_)
  have hfz : ∀ i, i < n → -2147483648 ≤ mI M (a + 1) i ∧ mI M (a + 1) i < 2147483648 := fun i hi => by
    have h := (hZ i hi).2.2.1
    have h : 1 ≤ mI M (a + 1) i ∧ mI M (a + 1) i ≤ 99 := h
    omega
  have hfy : ∀ i, i < m → -2147483648 ≤ mI M (e + 1) i ∧ mI M (e + 1) i < 2147483648 := fun i hi => by
    have h := (hY i hi).2.2.1
    have h : 1 ≤ mI M (e + 1) i ∧ mI M (e + 1) i ≤ 99 := h
    omega
  have loop : ∀ (i : Nat) (s : Int × Option pV × Option pV), i ≤ 100 → (1 ≤ i ∧ (s.1 = -1 ∨ (1 ≤ s.1 ∧ s.1 ≤ 99)) ∧ apF (fnS (shS M a) n) (fnS (shS M e) m) (dfS (shS M a) n (shS M e) m) (100 - i) (i : Int) s.1 = apS (shS M a) n (shS M e) m) → pE g 6 X (pMQ g SH (fun r M' => r = some (.inl (apS (shS M a) n (shS M e) m)) ∧ M' = M) X 0 0) SH M 0 0 4 [some (.inr (.inr a)), some (.inr (.inr e)), some (.inl s.1), some (.inl (i : Int)), s.2.1, s.2.2] [] := by
    refine p_for 100 _ _ ?_ ?_
    · rintro ⟨lm, x4, x5⟩ ⟨h1, h2, h3⟩
      dsimp only at h1 h2 h3 ⊢
      refine e_iload_n C dX5_codeApart_4 rfl ?_
      refine e_bipush C dX5_codeApart_5 ?_
      refine e_icmp_gt C (tgt := 104) dX5_codeApart_7 (by decide) (by omega) (by omega) (fun h_7 => ?_) (fun h_7 => by exfalso; omega)
      refine e_iload_n C dX5_codeApart_104 rfl ?_
      exact e_ireturn C dX5_codeApart_105 ⟨by rw [← h3]; rfl, rfl⟩
    · rintro i ⟨lm, x4, x5⟩ hi ⟨h1, h2, h3⟩ ih
      dsimp only at h1 h2 h3 ih ⊢
      have h3 : True → apF (fnS (shS M a) n) (fnS (shS M e) m) (dfS (shS M a) n (shS M e) m) (100 - i) (i : Int) lm = apS (shS M a) n (shS M e) m := fun _ => h3
      have hst : True → apF (fnS (shS M a) n) (fnS (shS M e) m) (dfS (shS M a) n (shS M e) m) (100 - i) (i : Int) lm = if ¬ ((fnS (shS M a) n (i : Int) = -1) ↔ (fnS (shS M e) m (i : Int) = -1)) then (i : Int) else apF (fnS (shS M a) n) (fnS (shS M e) m) (dfS (shS M a) n (shS M e) m) (100 - (i + 1)) ((i : Int) + 1) (if lm = -1 ∧ fnS (shS M a) n (i : Int) ≠ -1 ∧ dfS (shS M a) n (shS M e) m (i : Int) = true then (i : Int) else lm) := fun _ => by
        rw [show 100 - i = (100 - (i + 1)) + 1 by omega]; rfl
      have nx : ∀ l2 x4 x5, ((fnS (shS M a) n (i : Int) = -1) ↔ (fnS (shS M e) m (i : Int) = -1)) → l2 = (if lm = -1 ∧ fnS (shS M a) n (i : Int) ≠ -1 ∧ dfS (shS M a) n (shS M e) m (i : Int) = true then (i : Int) else lm) → pE g 6 X (pMQ g SH (fun r M' => r = some (.inl (apS (shS M a) n (shS M e) m)) ∧ M' = M) X 0 0) SH M 0 0 4 [some (.inr (.inr a)), some (.inr (.inr e)), some (.inl l2), some (.inl ((i + 1 : Nat) : Int)), x4, x5] [] := fun l2 x4 x5 hq hl => by
        refine ih (l2, x4, x5) ⟨by omega, ?_, ?_⟩
        · dsimp only; rw [hl]; split
          · right; omega
          · exact h2
        · dsimp only
          rw [← h3 trivial, hst trivial, if_neg (fun z => z hq), ← hl]; rfl
      refine e_iload_n C dX5_codeApart_4 rfl ?_
      refine e_bipush C dX5_codeApart_5 ?_
      refine e_icmp_gt C (tgt := 104) dX5_codeApart_7 (by decide) (by omega) (by omega) (fun h_7 => by exfalso; omega) (fun h_7 => ?_)
      refine e_aload_n C dX5_codeApart_10 rfl ?_
      refine e_iload_n C dX5_codeApart_11 rfl ?_
      refine e_callV C (c_find (M := M) (a := a) (N := 16) (n := n) (c := (i : Int)) hA hn hn16 (by decide) (by omega) hfz) mt_X4_find s_X5_96 dX5_codeApart_12 4 hA.1 rfl (fun r1 M1 hq1 => ?_)
      obtain ⟨rfl, hM1⟩ := hq1
      subst M1
      dsimp only [Option.toList_some, List.singleton_append]
      rw [show fndI (mI M (a + 1)) (i : Int) 0 n = fnS (shS M a) n (i : Int) from rfl]
      refine e_istore C dX5_codeApart_15 ?_
      refine e_aload_n C dX5_codeApart_17 rfl ?_
      refine e_iload_n C dX5_codeApart_18 rfl ?_
      refine e_callV C (c_find (M := M) (a := e) (N := 16) (n := m) (c := (i : Int)) hE hm hm16 (by decide) (by omega) hfy) mt_X4_find s_X5_96 dX5_codeApart_19 4 hE.1 rfl (fun r2 M2 hq2 => ?_)
      obtain ⟨rfl, hM2⟩ := hq2
      subst M2
      dsimp only [Option.toList_some, List.singleton_append]
      rw [show fndI (mI M (e + 1)) (i : Int) 0 m = fnS (shS M e) m (i : Int) from rfl]
      have sp1 := fndI_sp (shS M a).2.2.1 (i : Int) n 0
      have sp2 := fndI_sp (shS M e).2.2.1 (i : Int) m 0
      rw [show fndI (shS M a).2.2.1 (i : Int) 0 n = fnS (shS M a) n (i : Int) from rfl] at sp1
      rw [show fndI (shS M e).2.2.1 (i : Int) 0 m = fnS (shS M e) m (i : Int) from rfl] at sp2
      have rf1 : -1 ≤ fnS (shS M a) n (i : Int) ∧ fnS (shS M a) n (i : Int) < 16 := by
        rcases sp1 with ⟨z, _⟩ | ⟨j, _, z2, _, z⟩ <;> omega
      have rf2 : -1 ≤ fnS (shS M e) m (i : Int) ∧ fnS (shS M e) m (i : Int) < 16 := by
        rcases sp2 with ⟨z, _⟩ | ⟨j, _, z2, _, z⟩ <;> omega
      refine e_istore C dX5_codeApart_22 ?_
      refine e_iload C dX5_codeApart_24 rfl ?_
      refine e_iconst C dX5_codeApart_26 ?_
      refine e_icmp_ne C (tgt := 34) dX5_codeApart_27 (by decide) (by omega) (by omega) (fun h_27 => ?_) (fun h_27 => ?_)
      · refine e_iconst C dX5_codeApart_34 ?_
        refine e_iload C dX5_codeApart_35 rfl ?_
        refine e_iconst C dX5_codeApart_37 ?_
        refine e_icmp_ne C (tgt := 45) dX5_codeApart_38 (by decide) (by omega) (by omega) (fun h_38 => ?_) (fun h_38 => ?_)
        · refine e_iconst C dX5_codeApart_45 ?_
          refine e_icmp_eq C (tgt := 51) dX5_codeApart_46 (by decide) (by omega) (by omega) (fun h_46 => ?_) (fun h_46 => ?_)
          · have hqe : (fnS (shS M a) n (i : Int) = -1) ↔ (fnS (shS M e) m (i : Int) = -1) := by first | (exfalso; omega) | omega
            refine e_iload_n C dX5_codeApart_51 rfl ?_
            refine e_iconst C dX5_codeApart_52 ?_
            refine e_icmp_ne C (tgt := 98) dX5_codeApart_53 (by decide) (by clear sp1 sp2; omega) (by omega) (fun h_53 => ?_) (fun h_53 => ?_)
            · have hl : True → (if lm = -1 ∧ fnS (shS M a) n (i : Int) ≠ -1 ∧ dfS (shS M a) n (shS M e) m (i : Int) = true then (i : Int) else lm) = lm := fun _ => if_neg (fun z => h_53 z.1)
              refine e_iinc C dX5_codeApart_98 rfl ?_
              refine e_goto C (tgt := 4) dX5_codeApart_101 (by decide) ?_
              exact nx _ _ _ hqe (hl trivial).symm
            · refine e_iload C dX5_codeApart_56 rfl ?_
              refine e_iconst C dX5_codeApart_58 ?_
              refine e_icmp_eq C (tgt := 98) dX5_codeApart_59 (by decide) (by omega) (by omega) (fun h_59 => ?_) (fun h_59 => ?_)
              · have hl : True → (if lm = -1 ∧ fnS (shS M a) n (i : Int) ≠ -1 ∧ dfS (shS M a) n (shS M e) m (i : Int) = true then (i : Int) else lm) = lm := fun _ => if_neg (fun z => z.2.1 h_59)
                refine e_iinc C dX5_codeApart_98 rfl ?_
                refine e_goto C (tgt := 4) dX5_codeApart_101 (by decide) ?_
                exact nx _ _ _ hqe (hl trivial).symm
              · obtain ⟨j1, hj1, hj2⟩ : ∃ j1 : Nat, fnS (shS M a) n (i : Int) = (j1 : Int) ∧ j1 < n := by
                  rcases sp1 with ⟨z, _⟩ | ⟨j, _, z2, _, z⟩
                  · exact absurd z h_59
                  · exact ⟨j, z, by omega⟩
                obtain ⟨j2, hj3, hj4⟩ : ∃ j2 : Nat, fnS (shS M e) m (i : Int) = (j2 : Int) ∧ j2 < m := by
                  rcases sp2 with ⟨z, _⟩ | ⟨j, _, z2, _, z⟩
                  · exact absurd (hqe.mpr z) h_59
                  · exact ⟨j, z, by omega⟩
                obtain ⟨zx, zy, -, -⟩ := hZ j1 hj2
                obtain ⟨yx, yy, -, -⟩ := hY j2 hj4
                have zx : 0 ≤ mI M (a + 2) j1 ∧ mI M (a + 2) j1 ≤ 63 := zx
                have zy : 0 ≤ mI M (a + 3) j1 ∧ mI M (a + 3) j1 ≤ 63 := zy
                have yx : 0 ≤ mI M (e + 2) j2 ∧ mI M (e + 2) j2 ≤ 63 := yx
                have yy : 0 ≤ mI M (e + 3) j2 ∧ mI M (e + 3) j2 ≤ 63 := yy
                have hdf : dfS (shS M a) n (shS M e) m (i : Int) = decide (mI M (a + 2) j1 ≠ mI M (e + 2) j2 ∨ mI M (a + 3) j1 ≠ mI M (e + 3) j2) := by unfold dfS; rw [hj1, hj3]; rfl
                refine e_aload_n C dX5_codeApart_62 rfl ?_
                refine e_getR C f_X5_140 hA.1 hA.2.2.2.2.2.2.1 dX5_codeApart_63 ?_
                refine e_iload C dX5_codeApart_66 rfl ?_
                refine e_iaload C dX5_codeApart_68 hA.2.2.1 j1 hj1 (by omega) ?_
                refine e_aload_n C dX5_codeApart_69 rfl ?_
                refine e_getR C f_X5_140 hE.1 hE.2.2.2.2.2.2.1 dX5_codeApart_70 ?_
                refine e_iload C dX5_codeApart_73 rfl ?_
                refine e_iaload C dX5_codeApart_75 hE.2.2.1 j2 hj3 (by omega) ?_
                refine e_icmp_ne C (tgt := 96) dX5_codeApart_76 (by decide) (by omega) (by omega) (fun h_76 => ?_) (fun h_76 => ?_)
                · have hl : True → (if lm = -1 ∧ fnS (shS M a) n (i : Int) ≠ -1 ∧ dfS (shS M a) n (shS M e) m (i : Int) = true then (i : Int) else lm) = (i : Int) := fun _ => if_pos ⟨Classical.not_not.mp h_53, h_59, by rw [hdf]; exact decide_eq_true (Or.inl h_76)⟩
                  refine e_iload_n C dX5_codeApart_96 rfl ?_
                  refine e_istore_n C dX5_codeApart_97 ?_
                  refine e_iinc C dX5_codeApart_98 rfl ?_
                  refine e_goto C (tgt := 4) dX5_codeApart_101 (by decide) ?_
                  exact nx _ _ _ hqe (hl trivial).symm
                · refine e_aload_n C dX5_codeApart_79 rfl ?_
                  refine e_getR C f_X5_143 hA.1 hA.2.2.2.2.2.2.2.1 dX5_codeApart_80 ?_
                  refine e_iload C dX5_codeApart_83 rfl ?_
                  refine e_iaload C dX5_codeApart_85 hA.2.2.2.1 j1 hj1 (by omega) ?_
                  refine e_aload_n C dX5_codeApart_86 rfl ?_
                  refine e_getR C f_X5_143 hE.1 hE.2.2.2.2.2.2.2.1 dX5_codeApart_87 ?_
                  refine e_iload C dX5_codeApart_90 rfl ?_
                  refine e_iaload C dX5_codeApart_92 hE.2.2.2.1 j2 hj3 (by omega) ?_
                  refine e_icmp_eq C (tgt := 98) dX5_codeApart_93 (by decide) (by omega) (by omega) (fun h_93 => ?_) (fun h_93 => ?_)
                  · have hl : True → (if lm = -1 ∧ fnS (shS M a) n (i : Int) ≠ -1 ∧ dfS (shS M a) n (shS M e) m (i : Int) = true then (i : Int) else lm) = lm := fun _ => if_neg (fun z => by have := of_decide_eq_true (hdf ▸ z.2.2); omega)
                    refine e_iinc C dX5_codeApart_98 rfl ?_
                    refine e_goto C (tgt := 4) dX5_codeApart_101 (by decide) ?_
                    exact nx _ _ _ hqe (hl trivial).symm
                  · have hl : True → (if lm = -1 ∧ fnS (shS M a) n (i : Int) ≠ -1 ∧ dfS (shS M a) n (shS M e) m (i : Int) = true then (i : Int) else lm) = (i : Int) := fun _ => if_pos ⟨Classical.not_not.mp h_53, h_59, by rw [hdf]; exact decide_eq_true (Or.inr h_93)⟩
                    refine e_iload_n C dX5_codeApart_96 rfl ?_
                    refine e_istore_n C dX5_codeApart_97 ?_
                    refine e_iinc C dX5_codeApart_98 rfl ?_
                    refine e_goto C (tgt := 4) dX5_codeApart_101 (by decide) ?_
                    exact nx _ _ _ hqe (hl trivial).symm
          · have hne : ¬ ((fnS (shS M a) n (i : Int) = -1) ↔ (fnS (shS M e) m (i : Int) = -1)) := fun z => by first | exact h_46 rfl | omega
            refine e_iload_n C dX5_codeApart_49 rfl ?_
            exact e_ireturn C dX5_codeApart_50 ⟨by rw [← h3 trivial, hst trivial, if_pos hne], rfl⟩
        · refine e_iconst C dX5_codeApart_41 ?_
          refine e_goto C (tgt := 46) dX5_codeApart_42 (by decide) ?_
          refine e_icmp_eq C (tgt := 51) dX5_codeApart_46 (by decide) (by omega) (by omega) (fun h_46 => ?_) (fun h_46 => ?_)
          · have hqe : (fnS (shS M a) n (i : Int) = -1) ↔ (fnS (shS M e) m (i : Int) = -1) := by first | (exfalso; omega) | omega
            refine e_iload_n C dX5_codeApart_51 rfl ?_
            refine e_iconst C dX5_codeApart_52 ?_
            refine e_icmp_ne C (tgt := 98) dX5_codeApart_53 (by decide) (by clear sp1 sp2; omega) (by omega) (fun h_53 => ?_) (fun h_53 => ?_)
            · have hl : True → (if lm = -1 ∧ fnS (shS M a) n (i : Int) ≠ -1 ∧ dfS (shS M a) n (shS M e) m (i : Int) = true then (i : Int) else lm) = lm := fun _ => if_neg (fun z => h_53 z.1)
              refine e_iinc C dX5_codeApart_98 rfl ?_
              refine e_goto C (tgt := 4) dX5_codeApart_101 (by decide) ?_
              exact nx _ _ _ hqe (hl trivial).symm
            · refine e_iload C dX5_codeApart_56 rfl ?_
              refine e_iconst C dX5_codeApart_58 ?_
              refine e_icmp_eq C (tgt := 98) dX5_codeApart_59 (by decide) (by omega) (by omega) (fun h_59 => ?_) (fun h_59 => ?_)
              · have hl : True → (if lm = -1 ∧ fnS (shS M a) n (i : Int) ≠ -1 ∧ dfS (shS M a) n (shS M e) m (i : Int) = true then (i : Int) else lm) = lm := fun _ => if_neg (fun z => z.2.1 h_59)
                refine e_iinc C dX5_codeApart_98 rfl ?_
                refine e_goto C (tgt := 4) dX5_codeApart_101 (by decide) ?_
                exact nx _ _ _ hqe (hl trivial).symm
              · obtain ⟨j1, hj1, hj2⟩ : ∃ j1 : Nat, fnS (shS M a) n (i : Int) = (j1 : Int) ∧ j1 < n := by
                  rcases sp1 with ⟨z, _⟩ | ⟨j, _, z2, _, z⟩
                  · exact absurd z h_59
                  · exact ⟨j, z, by omega⟩
                obtain ⟨j2, hj3, hj4⟩ : ∃ j2 : Nat, fnS (shS M e) m (i : Int) = (j2 : Int) ∧ j2 < m := by
                  rcases sp2 with ⟨z, _⟩ | ⟨j, _, z2, _, z⟩
                  · exact absurd (hqe.mpr z) h_59
                  · exact ⟨j, z, by omega⟩
                obtain ⟨zx, zy, -, -⟩ := hZ j1 hj2
                obtain ⟨yx, yy, -, -⟩ := hY j2 hj4
                have zx : 0 ≤ mI M (a + 2) j1 ∧ mI M (a + 2) j1 ≤ 63 := zx
                have zy : 0 ≤ mI M (a + 3) j1 ∧ mI M (a + 3) j1 ≤ 63 := zy
                have yx : 0 ≤ mI M (e + 2) j2 ∧ mI M (e + 2) j2 ≤ 63 := yx
                have yy : 0 ≤ mI M (e + 3) j2 ∧ mI M (e + 3) j2 ≤ 63 := yy
                have hdf : dfS (shS M a) n (shS M e) m (i : Int) = decide (mI M (a + 2) j1 ≠ mI M (e + 2) j2 ∨ mI M (a + 3) j1 ≠ mI M (e + 3) j2) := by unfold dfS; rw [hj1, hj3]; rfl
                refine e_aload_n C dX5_codeApart_62 rfl ?_
                refine e_getR C f_X5_140 hA.1 hA.2.2.2.2.2.2.1 dX5_codeApart_63 ?_
                refine e_iload C dX5_codeApart_66 rfl ?_
                refine e_iaload C dX5_codeApart_68 hA.2.2.1 j1 hj1 (by omega) ?_
                refine e_aload_n C dX5_codeApart_69 rfl ?_
                refine e_getR C f_X5_140 hE.1 hE.2.2.2.2.2.2.1 dX5_codeApart_70 ?_
                refine e_iload C dX5_codeApart_73 rfl ?_
                refine e_iaload C dX5_codeApart_75 hE.2.2.1 j2 hj3 (by omega) ?_
                refine e_icmp_ne C (tgt := 96) dX5_codeApart_76 (by decide) (by omega) (by omega) (fun h_76 => ?_) (fun h_76 => ?_)
                · have hl : True → (if lm = -1 ∧ fnS (shS M a) n (i : Int) ≠ -1 ∧ dfS (shS M a) n (shS M e) m (i : Int) = true then (i : Int) else lm) = (i : Int) := fun _ => if_pos ⟨Classical.not_not.mp h_53, h_59, by rw [hdf]; exact decide_eq_true (Or.inl h_76)⟩
                  refine e_iload_n C dX5_codeApart_96 rfl ?_
                  refine e_istore_n C dX5_codeApart_97 ?_
                  refine e_iinc C dX5_codeApart_98 rfl ?_
                  refine e_goto C (tgt := 4) dX5_codeApart_101 (by decide) ?_
                  exact nx _ _ _ hqe (hl trivial).symm
                · refine e_aload_n C dX5_codeApart_79 rfl ?_
                  refine e_getR C f_X5_143 hA.1 hA.2.2.2.2.2.2.2.1 dX5_codeApart_80 ?_
                  refine e_iload C dX5_codeApart_83 rfl ?_
                  refine e_iaload C dX5_codeApart_85 hA.2.2.2.1 j1 hj1 (by omega) ?_
                  refine e_aload_n C dX5_codeApart_86 rfl ?_
                  refine e_getR C f_X5_143 hE.1 hE.2.2.2.2.2.2.2.1 dX5_codeApart_87 ?_
                  refine e_iload C dX5_codeApart_90 rfl ?_
                  refine e_iaload C dX5_codeApart_92 hE.2.2.2.1 j2 hj3 (by omega) ?_
                  refine e_icmp_eq C (tgt := 98) dX5_codeApart_93 (by decide) (by omega) (by omega) (fun h_93 => ?_) (fun h_93 => ?_)
                  · have hl : True → (if lm = -1 ∧ fnS (shS M a) n (i : Int) ≠ -1 ∧ dfS (shS M a) n (shS M e) m (i : Int) = true then (i : Int) else lm) = lm := fun _ => if_neg (fun z => by have := of_decide_eq_true (hdf ▸ z.2.2); omega)
                    refine e_iinc C dX5_codeApart_98 rfl ?_
                    refine e_goto C (tgt := 4) dX5_codeApart_101 (by decide) ?_
                    exact nx _ _ _ hqe (hl trivial).symm
                  · have hl : True → (if lm = -1 ∧ fnS (shS M a) n (i : Int) ≠ -1 ∧ dfS (shS M a) n (shS M e) m (i : Int) = true then (i : Int) else lm) = (i : Int) := fun _ => if_pos ⟨Classical.not_not.mp h_53, h_59, by rw [hdf]; exact decide_eq_true (Or.inr h_93)⟩
                    refine e_iload_n C dX5_codeApart_96 rfl ?_
                    refine e_istore_n C dX5_codeApart_97 ?_
                    refine e_iinc C dX5_codeApart_98 rfl ?_
                    refine e_goto C (tgt := 4) dX5_codeApart_101 (by decide) ?_
                    exact nx _ _ _ hqe (hl trivial).symm
          · have hne : ¬ ((fnS (shS M a) n (i : Int) = -1) ↔ (fnS (shS M e) m (i : Int) = -1)) := fun z => by first | exact h_46 rfl | omega
            refine e_iload_n C dX5_codeApart_49 rfl ?_
            exact e_ireturn C dX5_codeApart_50 ⟨by rw [← h3 trivial, hst trivial, if_pos hne], rfl⟩
      · refine e_iconst C dX5_codeApart_30 ?_
        refine e_goto C (tgt := 35) dX5_codeApart_31 (by decide) ?_
        refine e_iload C dX5_codeApart_35 rfl ?_
        refine e_iconst C dX5_codeApart_37 ?_
        refine e_icmp_ne C (tgt := 45) dX5_codeApart_38 (by decide) (by omega) (by omega) (fun h_38 => ?_) (fun h_38 => ?_)
        · refine e_iconst C dX5_codeApart_45 ?_
          refine e_icmp_eq C (tgt := 51) dX5_codeApart_46 (by decide) (by omega) (by omega) (fun h_46 => ?_) (fun h_46 => ?_)
          · have hqe : (fnS (shS M a) n (i : Int) = -1) ↔ (fnS (shS M e) m (i : Int) = -1) := by first | (exfalso; omega) | omega
            refine e_iload_n C dX5_codeApart_51 rfl ?_
            refine e_iconst C dX5_codeApart_52 ?_
            refine e_icmp_ne C (tgt := 98) dX5_codeApart_53 (by decide) (by clear sp1 sp2; omega) (by omega) (fun h_53 => ?_) (fun h_53 => ?_)
            · have hl : True → (if lm = -1 ∧ fnS (shS M a) n (i : Int) ≠ -1 ∧ dfS (shS M a) n (shS M e) m (i : Int) = true then (i : Int) else lm) = lm := fun _ => if_neg (fun z => h_53 z.1)
              refine e_iinc C dX5_codeApart_98 rfl ?_
              refine e_goto C (tgt := 4) dX5_codeApart_101 (by decide) ?_
              exact nx _ _ _ hqe (hl trivial).symm
            · refine e_iload C dX5_codeApart_56 rfl ?_
              refine e_iconst C dX5_codeApart_58 ?_
              refine e_icmp_eq C (tgt := 98) dX5_codeApart_59 (by decide) (by omega) (by omega) (fun h_59 => ?_) (fun h_59 => ?_)
              · have hl : True → (if lm = -1 ∧ fnS (shS M a) n (i : Int) ≠ -1 ∧ dfS (shS M a) n (shS M e) m (i : Int) = true then (i : Int) else lm) = lm := fun _ => if_neg (fun z => z.2.1 h_59)
                refine e_iinc C dX5_codeApart_98 rfl ?_
                refine e_goto C (tgt := 4) dX5_codeApart_101 (by decide) ?_
                exact nx _ _ _ hqe (hl trivial).symm
              · obtain ⟨j1, hj1, hj2⟩ : ∃ j1 : Nat, fnS (shS M a) n (i : Int) = (j1 : Int) ∧ j1 < n := by
                  rcases sp1 with ⟨z, _⟩ | ⟨j, _, z2, _, z⟩
                  · exact absurd z h_59
                  · exact ⟨j, z, by omega⟩
                obtain ⟨j2, hj3, hj4⟩ : ∃ j2 : Nat, fnS (shS M e) m (i : Int) = (j2 : Int) ∧ j2 < m := by
                  rcases sp2 with ⟨z, _⟩ | ⟨j, _, z2, _, z⟩
                  · exact absurd (hqe.mpr z) h_59
                  · exact ⟨j, z, by omega⟩
                obtain ⟨zx, zy, -, -⟩ := hZ j1 hj2
                obtain ⟨yx, yy, -, -⟩ := hY j2 hj4
                have zx : 0 ≤ mI M (a + 2) j1 ∧ mI M (a + 2) j1 ≤ 63 := zx
                have zy : 0 ≤ mI M (a + 3) j1 ∧ mI M (a + 3) j1 ≤ 63 := zy
                have yx : 0 ≤ mI M (e + 2) j2 ∧ mI M (e + 2) j2 ≤ 63 := yx
                have yy : 0 ≤ mI M (e + 3) j2 ∧ mI M (e + 3) j2 ≤ 63 := yy
                have hdf : dfS (shS M a) n (shS M e) m (i : Int) = decide (mI M (a + 2) j1 ≠ mI M (e + 2) j2 ∨ mI M (a + 3) j1 ≠ mI M (e + 3) j2) := by unfold dfS; rw [hj1, hj3]; rfl
                refine e_aload_n C dX5_codeApart_62 rfl ?_
                refine e_getR C f_X5_140 hA.1 hA.2.2.2.2.2.2.1 dX5_codeApart_63 ?_
                refine e_iload C dX5_codeApart_66 rfl ?_
                refine e_iaload C dX5_codeApart_68 hA.2.2.1 j1 hj1 (by omega) ?_
                refine e_aload_n C dX5_codeApart_69 rfl ?_
                refine e_getR C f_X5_140 hE.1 hE.2.2.2.2.2.2.1 dX5_codeApart_70 ?_
                refine e_iload C dX5_codeApart_73 rfl ?_
                refine e_iaload C dX5_codeApart_75 hE.2.2.1 j2 hj3 (by omega) ?_
                refine e_icmp_ne C (tgt := 96) dX5_codeApart_76 (by decide) (by omega) (by omega) (fun h_76 => ?_) (fun h_76 => ?_)
                · have hl : True → (if lm = -1 ∧ fnS (shS M a) n (i : Int) ≠ -1 ∧ dfS (shS M a) n (shS M e) m (i : Int) = true then (i : Int) else lm) = (i : Int) := fun _ => if_pos ⟨Classical.not_not.mp h_53, h_59, by rw [hdf]; exact decide_eq_true (Or.inl h_76)⟩
                  refine e_iload_n C dX5_codeApart_96 rfl ?_
                  refine e_istore_n C dX5_codeApart_97 ?_
                  refine e_iinc C dX5_codeApart_98 rfl ?_
                  refine e_goto C (tgt := 4) dX5_codeApart_101 (by decide) ?_
                  exact nx _ _ _ hqe (hl trivial).symm
                · refine e_aload_n C dX5_codeApart_79 rfl ?_
                  refine e_getR C f_X5_143 hA.1 hA.2.2.2.2.2.2.2.1 dX5_codeApart_80 ?_
                  refine e_iload C dX5_codeApart_83 rfl ?_
                  refine e_iaload C dX5_codeApart_85 hA.2.2.2.1 j1 hj1 (by omega) ?_
                  refine e_aload_n C dX5_codeApart_86 rfl ?_
                  refine e_getR C f_X5_143 hE.1 hE.2.2.2.2.2.2.2.1 dX5_codeApart_87 ?_
                  refine e_iload C dX5_codeApart_90 rfl ?_
                  refine e_iaload C dX5_codeApart_92 hE.2.2.2.1 j2 hj3 (by omega) ?_
                  refine e_icmp_eq C (tgt := 98) dX5_codeApart_93 (by decide) (by omega) (by omega) (fun h_93 => ?_) (fun h_93 => ?_)
                  · have hl : True → (if lm = -1 ∧ fnS (shS M a) n (i : Int) ≠ -1 ∧ dfS (shS M a) n (shS M e) m (i : Int) = true then (i : Int) else lm) = lm := fun _ => if_neg (fun z => by have := of_decide_eq_true (hdf ▸ z.2.2); omega)
                    refine e_iinc C dX5_codeApart_98 rfl ?_
                    refine e_goto C (tgt := 4) dX5_codeApart_101 (by decide) ?_
                    exact nx _ _ _ hqe (hl trivial).symm
                  · have hl : True → (if lm = -1 ∧ fnS (shS M a) n (i : Int) ≠ -1 ∧ dfS (shS M a) n (shS M e) m (i : Int) = true then (i : Int) else lm) = (i : Int) := fun _ => if_pos ⟨Classical.not_not.mp h_53, h_59, by rw [hdf]; exact decide_eq_true (Or.inr h_93)⟩
                    refine e_iload_n C dX5_codeApart_96 rfl ?_
                    refine e_istore_n C dX5_codeApart_97 ?_
                    refine e_iinc C dX5_codeApart_98 rfl ?_
                    refine e_goto C (tgt := 4) dX5_codeApart_101 (by decide) ?_
                    exact nx _ _ _ hqe (hl trivial).symm
          · have hne : ¬ ((fnS (shS M a) n (i : Int) = -1) ↔ (fnS (shS M e) m (i : Int) = -1)) := fun z => by first | exact h_46 rfl | omega
            refine e_iload_n C dX5_codeApart_49 rfl ?_
            exact e_ireturn C dX5_codeApart_50 ⟨by rw [← h3 trivial, hst trivial, if_pos hne], rfl⟩
        · refine e_iconst C dX5_codeApart_41 ?_
          refine e_goto C (tgt := 46) dX5_codeApart_42 (by decide) ?_
          refine e_icmp_eq C (tgt := 51) dX5_codeApart_46 (by decide) (by omega) (by omega) (fun h_46 => ?_) (fun h_46 => ?_)
          · have hqe : (fnS (shS M a) n (i : Int) = -1) ↔ (fnS (shS M e) m (i : Int) = -1) := by first | (exfalso; omega) | omega
            refine e_iload_n C dX5_codeApart_51 rfl ?_
            refine e_iconst C dX5_codeApart_52 ?_
            refine e_icmp_ne C (tgt := 98) dX5_codeApart_53 (by decide) (by clear sp1 sp2; omega) (by omega) (fun h_53 => ?_) (fun h_53 => ?_)
            · have hl : True → (if lm = -1 ∧ fnS (shS M a) n (i : Int) ≠ -1 ∧ dfS (shS M a) n (shS M e) m (i : Int) = true then (i : Int) else lm) = lm := fun _ => if_neg (fun z => h_53 z.1)
              refine e_iinc C dX5_codeApart_98 rfl ?_
              refine e_goto C (tgt := 4) dX5_codeApart_101 (by decide) ?_
              exact nx _ _ _ hqe (hl trivial).symm
            · refine e_iload C dX5_codeApart_56 rfl ?_
              refine e_iconst C dX5_codeApart_58 ?_
              refine e_icmp_eq C (tgt := 98) dX5_codeApart_59 (by decide) (by omega) (by omega) (fun h_59 => ?_) (fun h_59 => ?_)
              · have hl : True → (if lm = -1 ∧ fnS (shS M a) n (i : Int) ≠ -1 ∧ dfS (shS M a) n (shS M e) m (i : Int) = true then (i : Int) else lm) = lm := fun _ => if_neg (fun z => z.2.1 h_59)
                refine e_iinc C dX5_codeApart_98 rfl ?_
                refine e_goto C (tgt := 4) dX5_codeApart_101 (by decide) ?_
                exact nx _ _ _ hqe (hl trivial).symm
              · obtain ⟨j1, hj1, hj2⟩ : ∃ j1 : Nat, fnS (shS M a) n (i : Int) = (j1 : Int) ∧ j1 < n := by
                  rcases sp1 with ⟨z, _⟩ | ⟨j, _, z2, _, z⟩
                  · exact absurd z h_59
                  · exact ⟨j, z, by omega⟩
                obtain ⟨j2, hj3, hj4⟩ : ∃ j2 : Nat, fnS (shS M e) m (i : Int) = (j2 : Int) ∧ j2 < m := by
                  rcases sp2 with ⟨z, _⟩ | ⟨j, _, z2, _, z⟩
                  · exact absurd (hqe.mpr z) h_59
                  · exact ⟨j, z, by omega⟩
                obtain ⟨zx, zy, -, -⟩ := hZ j1 hj2
                obtain ⟨yx, yy, -, -⟩ := hY j2 hj4
                have zx : 0 ≤ mI M (a + 2) j1 ∧ mI M (a + 2) j1 ≤ 63 := zx
                have zy : 0 ≤ mI M (a + 3) j1 ∧ mI M (a + 3) j1 ≤ 63 := zy
                have yx : 0 ≤ mI M (e + 2) j2 ∧ mI M (e + 2) j2 ≤ 63 := yx
                have yy : 0 ≤ mI M (e + 3) j2 ∧ mI M (e + 3) j2 ≤ 63 := yy
                have hdf : dfS (shS M a) n (shS M e) m (i : Int) = decide (mI M (a + 2) j1 ≠ mI M (e + 2) j2 ∨ mI M (a + 3) j1 ≠ mI M (e + 3) j2) := by unfold dfS; rw [hj1, hj3]; rfl
                refine e_aload_n C dX5_codeApart_62 rfl ?_
                refine e_getR C f_X5_140 hA.1 hA.2.2.2.2.2.2.1 dX5_codeApart_63 ?_
                refine e_iload C dX5_codeApart_66 rfl ?_
                refine e_iaload C dX5_codeApart_68 hA.2.2.1 j1 hj1 (by omega) ?_
                refine e_aload_n C dX5_codeApart_69 rfl ?_
                refine e_getR C f_X5_140 hE.1 hE.2.2.2.2.2.2.1 dX5_codeApart_70 ?_
                refine e_iload C dX5_codeApart_73 rfl ?_
                refine e_iaload C dX5_codeApart_75 hE.2.2.1 j2 hj3 (by omega) ?_
                refine e_icmp_ne C (tgt := 96) dX5_codeApart_76 (by decide) (by omega) (by omega) (fun h_76 => ?_) (fun h_76 => ?_)
                · have hl : True → (if lm = -1 ∧ fnS (shS M a) n (i : Int) ≠ -1 ∧ dfS (shS M a) n (shS M e) m (i : Int) = true then (i : Int) else lm) = (i : Int) := fun _ => if_pos ⟨Classical.not_not.mp h_53, h_59, by rw [hdf]; exact decide_eq_true (Or.inl h_76)⟩
                  refine e_iload_n C dX5_codeApart_96 rfl ?_
                  refine e_istore_n C dX5_codeApart_97 ?_
                  refine e_iinc C dX5_codeApart_98 rfl ?_
                  refine e_goto C (tgt := 4) dX5_codeApart_101 (by decide) ?_
                  exact nx _ _ _ hqe (hl trivial).symm
                · refine e_aload_n C dX5_codeApart_79 rfl ?_
                  refine e_getR C f_X5_143 hA.1 hA.2.2.2.2.2.2.2.1 dX5_codeApart_80 ?_
                  refine e_iload C dX5_codeApart_83 rfl ?_
                  refine e_iaload C dX5_codeApart_85 hA.2.2.2.1 j1 hj1 (by omega) ?_
                  refine e_aload_n C dX5_codeApart_86 rfl ?_
                  refine e_getR C f_X5_143 hE.1 hE.2.2.2.2.2.2.2.1 dX5_codeApart_87 ?_
                  refine e_iload C dX5_codeApart_90 rfl ?_
                  refine e_iaload C dX5_codeApart_92 hE.2.2.2.1 j2 hj3 (by omega) ?_
                  refine e_icmp_eq C (tgt := 98) dX5_codeApart_93 (by decide) (by omega) (by omega) (fun h_93 => ?_) (fun h_93 => ?_)
                  · have hl : True → (if lm = -1 ∧ fnS (shS M a) n (i : Int) ≠ -1 ∧ dfS (shS M a) n (shS M e) m (i : Int) = true then (i : Int) else lm) = lm := fun _ => if_neg (fun z => by have := of_decide_eq_true (hdf ▸ z.2.2); omega)
                    refine e_iinc C dX5_codeApart_98 rfl ?_
                    refine e_goto C (tgt := 4) dX5_codeApart_101 (by decide) ?_
                    exact nx _ _ _ hqe (hl trivial).symm
                  · have hl : True → (if lm = -1 ∧ fnS (shS M a) n (i : Int) ≠ -1 ∧ dfS (shS M a) n (shS M e) m (i : Int) = true then (i : Int) else lm) = (i : Int) := fun _ => if_pos ⟨Classical.not_not.mp h_53, h_59, by rw [hdf]; exact decide_eq_true (Or.inr h_93)⟩
                    refine e_iload_n C dX5_codeApart_96 rfl ?_
                    refine e_istore_n C dX5_codeApart_97 ?_
                    refine e_iinc C dX5_codeApart_98 rfl ?_
                    refine e_goto C (tgt := 4) dX5_codeApart_101 (by decide) ?_
                    exact nx _ _ _ hqe (hl trivial).symm
          · have hne : ¬ ((fnS (shS M a) n (i : Int) = -1) ↔ (fnS (shS M e) m (i : Int) = -1)) := fun z => by first | exact h_46 rfl | omega
            refine e_iload_n C dX5_codeApart_49 rfl ?_
            exact e_ireturn C dX5_codeApart_50 ⟨by rw [← h3 trivial, hst trivial, if_pos hne], rfl⟩
  show pE g 6 X _ SH M 0 0 0 [some (.inr (.inr a)), some (.inr (.inr e)), none, none, none, none] []
  refine e_iconst C dX5_codeApart_0 ?_
  refine e_istore_n C dX5_codeApart_1 ?_
  refine e_iconst C dX5_codeApart_2 ?_
  refine e_istore_n C dX5_codeApart_3 ?_
  exact loop 1 (-1, none, none) (by omega) ⟨Nat.le_refl _, Or.inl rfl, rfl⟩
