/-! ===== laying one more box by the cheapest chain ===== -/
/-- the box that stands behind a column of the chain: f = -1 is the new box k itself -/
def mvr (k : Nat) (o : Nat → Int) (f : Int) : Nat := if f = -1 then k else (o f.toNat).toNat
/-- what holds all along: prices and the boxes that are laid -/
def huB (k ns : Nat) (w : Nat → Nat → Int) (u v o : Nat → Int) : Prop := huI k ns w u v o
/-- the columns reached, in the order rk; t of them -/
def huR (k ns t : Nat) (w : Nat → Nat → Int) (u v o cf rc : Nat → Int) (rk : Nat → Nat) : Prop :=
  (∀ c, c ≤ ns → rc c = 0 ∨ rc c = 1) ∧ rc ns = 0 ∧ (∀ c, c < ns → rc c = 1 → o c ≠ -1) ∧ sg rc ns = (t : Int) ∧
  (∀ c, c < ns → rc c = 1 → rk c < t) ∧
  (∀ c, c < ns → rc c = 1 → (cf c = -1 ∨ ∃ f : Nat, cf c = (f : Int) ∧ f < ns ∧ rc f = 1 ∧ rk f < rk c) ∧ w (mvr k o (cf c)) c = u (mvr k o (cf c)) + v c) ∧
  (∀ c, c < ns → rc c = 1 → u k + v c ≤ w k c)
/-- at the loop's head -/
def huS (k ns t : Nat) (w : Nat → Nat → Int) (u v o sl cf rc : Nat → Int) (frm : Int) (rk : Nat → Nat) (D B : Int) : Prop :=
  huI k ns w u v o ∧ huR k ns t w u v o cf rc rk ∧
  ((t = 0 ∧ frm = -1 ∧ u k = 0 ∧ ∀ c, c ≤ ns → sl c = 1152921504606846976) ∨
   (0 < t ∧ (∃ f : Nat, frm = (f : Int) ∧ f < ns ∧ rc f = 1) ∧ -B ≤ u k ∧ (∀ c, c ≤ ns → rc c = 0 → 0 ≤ sl c ∧ sl c ≤ w k c - u k - v c ∧ (∀ f : Nat, f < ns → rc f = 1 → (f : Int) ≠ frm → sl c ≤ w (o f).toNat c - u (o f).toNat - v c) ∧
     (cf c = -1 ∨ ∃ f : Nat, cf c = (f : Int) ∧ f < ns ∧ rc f = 1) ∧ sl c = w (mvr k o (cf c)) c - u (mvr k o (cf c)) - v c))) ∧
  sg u (k + 1) + sg v ns = D
/-- behind the raise of prices: q is the nearest column -/
def huT (k ns t : Nat) (w : Nat → Nat → Int) (u v o sl cf rc : Nat → Int) (rk : Nat → Nat) (q : Nat) (D B : Int) : Prop :=
  huI k ns w u v o ∧ huR k ns t w u v o cf rc rk ∧ -B ≤ u k ∧
  (∀ c, c ≤ ns → rc c = 0 → 0 ≤ sl c ∧ sl c ≤ w k c - u k - v c ∧ (∀ f : Nat, f < ns → rc f = 1 → sl c ≤ w (o f).toNat c - u (o f).toNat - v c) ∧
     (cf c = -1 ∨ ∃ f : Nat, cf c = (f : Int) ∧ f < ns ∧ rc f = 1) ∧ sl c = w (mvr k o (cf c)) c - u (mvr k o (cf c)) - v c) ∧
  q ≤ ns ∧ rc q = 0 ∧ sl q = 0 ∧ sg u (k + 1) + sg v ns = D
theorem huI_o {k ns : Nat} {w : Nat → Nat → Int} {u v o : Nat → Int} (h : huI k ns w u v o) {c : Nat} (hc : c < ns) (ho : o c ≠ -1) : ∃ b : Nat, b < k ∧ o c = (b : Int) ∧ (o c).toNat = b ∧ w b c = u b + v c := by
  obtain ⟨b, h1, h2, h3⟩ := h.2.2.2.2.2.1 c hc ho
  exact ⟨b, h1, h2, by rw [h2]; rfl, h3⟩
/-- how reach looks from a box -/
def rchd (ns : Nat) (w : Nat → Nat → Int) (u v sl cf rc sl' cf' : Nat → Int) (m : Nat) (frm : Int) (q : Nat) : Prop :=
  (∀ c, c ≤ ns → rc c = 1 → sl' c = sl c ∧ cf' c = cf c) ∧
  (∀ c, c ≤ ns → rc c = 0 → (w m c - u m - v c < sl c ∧ sl' c = w m c - u m - v c ∧ cf' c = frm) ∨ (sl c ≤ w m c - u m - v c ∧ sl' c = sl c ∧ cf' c = cf c)) ∧
  q ≤ ns ∧ rc q = 0 ∧ ∀ c, c ≤ ns → rc c = 0 → sl' q ≤ sl' c
/-- how prices are raised -/
def rsd (k ns : Nat) (u v o sl rc u' v' sl' : Nat → Int) (x : Int) : Prop :=
  u' k = u k + x ∧ (∀ c, c < ns → rc c = 1 → u' (o c).toNat = u (o c).toNat + x) ∧ (∀ b, b < k → (∀ c, c < ns → rc c = 1 → (o c).toNat ≠ b) → u' b = u b) ∧
  (∀ c, c ≤ ns → rc c = 1 → v' c = v c - x ∧ sl' c = sl c) ∧ (∀ c, c ≤ ns → rc c = 0 → v' c = v c ∧ sl' c = sl c - x)
theorem sg_two {ns : Nat} {rc v v' : Nat → Int} {x : Int} (h1 : ∀ c, c < ns → rc c = 1 → v' c = v c - x) (h2 : ∀ c, c < ns → rc c = 0 → v' c = v c) (h0 : ∀ c, c < ns → rc c = 0 ∨ rc c = 1) : sg v' ns = sg v ns - x * sg rc ns := by
  induction ns with
  | zero => simp [sg]
  | succ n ih =>
    simp only [sg]
    rw [ih (fun c hc => h1 c (by omega)) (fun c hc => h2 c (by omega)) (fun c hc => h0 c (by omega))]
    rcases h0 n (by omega) with q | q
    · rw [h2 n (by omega) q, q, Int.mul_add]; omega
    · rw [h1 n (by omega) q, q, Int.mul_add]; omega
/-- the boxes on reached columns, raised by x each: the sum grows by x for each such column -/
theorem sg_boxes {k : Nat} {x : Int} : ∀ (ns : Nat) (o rc u u' : Nat → Int), (∀ c, c < ns → rc c = 0 ∨ rc c = 1) → (∀ c, c < ns → rc c = 1 → 0 ≤ o c ∧ o c < k) → (∀ c e, c < ns → e < ns → rc c = 1 → rc e = 1 → o c = o e → c = e) →
    (∀ c, c < ns → rc c = 1 → u' (o c).toNat = u (o c).toNat + x) → (∀ b, b < k → (∀ c, c < ns → rc c = 1 → (o c).toNat ≠ b) → u' b = u b) → sg u' k = sg u k + x * sg rc ns
  | 0, o, rc, u, u', h0, ho, hi, h1, h2 => by
    rw [sg_congr (f := u') (h := u) (fun b hb => h2 b hb (fun c hc => absurd hc (Nat.not_lt_zero c)))]; simp [sg]
  | n + 1, o, rc, u, u', h0, ho, hi, h1, h2 => by
    simp only [sg]
    rcases h0 n (by omega) with q | q
    · rw [sg_boxes n o rc u u' (fun c hc => h0 c (by omega)) (fun c hc => ho c (by omega)) (fun c e hc he => hi c e (by omega) (by omega)) (fun c hc => h1 c (by omega)) (fun b hb hh => h2 b hb (fun c hc hr => by
        rcases Nat.lt_or_ge c n with z | z
        · exact hh c z hr
        · have : c = n := by omega
          subst this; omega)), q, Int.add_zero]
    · have hon := ho n (by omega) q
      have hu := h1 n (by omega) q
      have ih := sg_boxes n o rc (up u (o n).toNat (u (o n).toNat + x)) u' (fun c hc => h0 c (by omega)) (fun c hc => ho c (by omega)) (fun c e hc he => hi c e (by omega) (by omega)) (fun c hc hr => by
          have hne : (o c).toNat ≠ (o n).toNat := fun e => by
            have := ho c (by omega) hr
            have := hi c n (by omega) (by omega) hr q (by omega)
            omega
          rw [up_n hne]; exact h1 c (by omega) hr) (fun b hb hh => by
          by_cases e : b = (o n).toNat
          · subst e; rw [up_s]; exact hu
          · rw [up_n e]; exact h2 b hb (fun c hc hr => by
              rcases Nat.lt_or_ge c n with z | z
              · exact hh c z hr
              · have : c = n := by omega
                subst this; exact fun e2 => e e2.symm))
      rw [ih, sg_up (by omega), q]
      rw [Int.mul_add]; omega
theorem hu_step {k ns t : Nat} {w : Nat → Nat → Int} {u v o sl cf rc u' v' sl1 cf1 sl2 : Nat → Int} {frm : Int} {rk : Nat → Nat} {D B : Int} {q : Nat}
    (hB : ∀ b c, b ≤ k → c ≤ ns → -B ≤ w b c) (hBB : ∀ b c, b ≤ k → c ≤ ns → w b c ≤ B) (hB0 : 0 ≤ B ∧ 4 * B < 1152921504606846976)
    (h : huS k ns t w u v o sl cf rc frm rk D B) (hr : rchd ns w u v sl cf rc sl1 cf1 (mvr k o frm) frm q) (hs : rsd k ns u v o sl1 rc u' v' sl2 (sl1 q)) :
    huT k ns t w u' v' o sl2 cf1 rc rk q (D + sl1 q) B ∧ (0 < t → 0 ≤ sl1 q) := by
  obtain ⟨hI, hR, hL, hD⟩ := h
  obtain ⟨r1, r2, r3, r4, r5, r6, r7⟩ := id hR
  obtain ⟨i1, i2, i3, i4, i5, i6, i7, i8⟩ := id hI
  obtain ⟨q1, q2, q3, q4, q5⟩ := hr
  obtain ⟨s1, s2, s3, s4, s5⟩ := hs
  -- the mover looked from
  have hmk : mvr k o frm ≤ k := by
    unfold mvr
    split
    · exact Nat.le_refl _
    · next hne =>
      rcases hL with ⟨_, e1, _⟩ | ⟨_, ⟨f, e1, e2, e3⟩, _⟩
      · exact absurd e1 hne
      · rw [e1]
        obtain ⟨b, b1, b2, b3, b4⟩ := huI_o hI e2 (r3 f e2 e3)
        show (o ((f : Int).toNat)).toNat ≤ k
        rw [Int.toNat_natCast, b3]; omega
  -- what the slack says now, of all movers, before the raise
  have A : ∀ c, c ≤ ns → rc c = 0 → (0 < t → 0 ≤ sl1 c) ∧ sl1 c ≤ w k c - u k - v c ∧ (∀ f : Nat, f < ns → rc f = 1 → sl1 c ≤ w (o f).toNat c - u (o f).toNat - v c) ∧ (cf1 c = -1 ∨ ∃ f : Nat, cf1 c = (f : Int) ∧ f < ns ∧ rc f = 1) ∧ sl1 c = w (mvr k o (cf1 c)) c - u (mvr k o (cf1 c)) - v c := by
    intro c hc h0
    have hq := q2 c hc h0
    rcases hL with ⟨e0, e1, e2, e3⟩ | ⟨e0, ⟨f0, e1, e2, e3⟩, e4, e5⟩
    · -- the first look
      subst e1
      have hm : mvr k o (-1) = k := rfl
      rw [hm] at hq
      have hvc : v c ≤ 0 := by
        rcases Nat.lt_or_ge c ns with z | z
        · exact i2 c z
        · have : c = ns := by omega
          rw [this, i3]; omega
      have hvb : -(2 * B) ≤ v c := by
        rcases Nat.lt_or_ge c ns with z | z
        · by_cases ho : o c = -1
          · rw [i5 c z ho]; omega
          · obtain ⟨b, b1, b2, b3, b4⟩ := huI_o hI z ho
            have w1 := hB b c (by omega) hc
            have w2 := i1 b ns b1 (Nat.le_refl _)
            have w3 := hBB b ns (by omega) (Nat.le_refl _)
            omega
        · have : c = ns := by omega
          rw [this, i3]; omega
      have w1 := hB k c (Nat.le_refl _) hc
      have w2 := hBB k c (Nat.le_refl _) hc
      have e3c := e3 c hc
      refine ⟨fun z => absurd e0 (by omega), ?_, fun f hf hrf => ?_, ?_, ?_⟩
      · rcases hq with ⟨z1, z2, z3⟩ | ⟨z1, z2, z3⟩ <;> omega
      · exact absurd (r5 f hf hrf) (by omega)
      · rcases hq with ⟨z1, z2, z3⟩ | ⟨z1, z2, z3⟩
        · exact Or.inl z3
        · omega
      · rcases hq with ⟨z1, z2, z3⟩ | ⟨z1, z2, z3⟩
        · rw [z3, hm]; exact z2
        · omega
    · obtain ⟨g1, g2, g3, g4, g5⟩ := e5 c hc h0
      have hm : mvr k o frm = (o f0).toNat := by
        unfold mvr
        rw [if_neg (by omega), e1, Int.toNat_natCast]
      obtain ⟨b, b1, b2, b3, b4⟩ := huI_o hI e2 (r3 f0 e2 e3)
      have hfe := i1 b c b1 hc
      rw [hm] at hq
      refine ⟨fun _ => ?_, ?_, fun f hf hrf => ?_, ?_, ?_⟩
      · rcases hq with ⟨z1, z2, z3⟩ | ⟨z1, z2, z3⟩
        · rw [z2, b3]; omega
        · omega
      · rcases hq with ⟨z1, z2, z3⟩ | ⟨z1, z2, z3⟩ <;> omega
      · by_cases hff : f = f0
        · subst hff
          rcases hq with ⟨z1, z2, z3⟩ | ⟨z1, z2, z3⟩ <;> omega
        · have := g3 f hf hrf (by omega)
          rcases hq with ⟨z1, z2, z3⟩ | ⟨z1, z2, z3⟩ <;> omega
      · rcases hq with ⟨z1, z2, z3⟩ | ⟨z1, z2, z3⟩
        · exact Or.inr ⟨f0, by rw [z3, e1], e2, e3⟩
        · rw [z3]; exact g4
      · rcases hq with ⟨z1, z2, z3⟩ | ⟨z1, z2, z3⟩
        · rw [z3, hm]; exact z2
        · rw [z3, z2]; exact g5
  have hx := A q q3 q4
  have hpos : 0 < t → 0 ≤ sl1 q := hx.1
  -- movers' prices
  have um : ∀ f : Nat, f < ns → rc f = 1 → u' (o f).toNat = u (o f).toNat + sl1 q := s2
  have ub : ∀ b, b < k → u b ≤ u' b ∨ u' b = u b + sl1 q := by
    intro b hb
    by_cases hex : ∃ c, c < ns ∧ rc c = 1 ∧ (o c).toNat = b
    · obtain ⟨c, c1, c2, c3⟩ := hex
      right; rw [← c3]; exact s2 c c1 c2
    · left
      rw [s3 b hb (fun c c1 c2 c3 => hex ⟨c, c1, c2, c3⟩)]; omega
  have t0 : t = 0 → ∀ c, c < ns → rc c = 0 := by
    intro e c hc
    rcases r1 c (by omega) with z | z
    · exact z
    · exact absurd (r5 c hc z) (by omega)
  have mvk : ∀ c, c < ns → rc c = 1 → u' (mvr k o (cf c)) = u (mvr k o (cf c)) + sl1 q := by
    intro c hc hrc
    rcases (r6 c hc hrc).1 with z | ⟨f, z1, z2, z3, z4⟩
    · rw [z]; exact s1
    · have : mvr k o (cf c) = (o f).toNat := by unfold mvr; rw [if_neg (by omega), z1, Int.toNat_natCast]
      rw [this]; exact um f z2 z3
  have rcl : ∀ c, c ≤ ns → rc c = 1 → c < ns := by
    intro c hc h1
    rcases Nat.lt_or_ge c ns with z | z
    · exact z
    · have : c = ns := by omega
      rw [this, r2] at h1; omega
  -- the prices go on being fit
  have F : ∀ b c, b < k → c ≤ ns → u' b + v' c ≤ w b c := by
    intro b c hb hc
    have h1 := i1 b c hb hc
    rcases r1 c hc with z | z
    · rw [(s5 c hc z).1]
      by_cases hex : ∃ f, f < ns ∧ rc f = 1 ∧ (o f).toNat = b
      · obtain ⟨f, c1, c2, c3⟩ := hex
        have := (A c hc z).2.2.1 f c1 c2
        have h5 := q5 c hc z
        have := um f c1 c2
        rw [c3] at *
        omega
      · rw [s3 b hb (fun c c1 c2 c3 => hex ⟨c, c1, c2, c3⟩)]; exact h1
    · rw [(s4 c hc z).1]
      have ht : 0 < t := Nat.lt_of_le_of_lt (Nat.zero_le _) (r5 c (rcl c hc z) z)
      have := hpos ht
      rcases ub b hb with y | y
      · by_cases hex : ∃ f, f < ns ∧ rc f = 1 ∧ (o f).toNat = b
        · obtain ⟨f, c1, c2, c3⟩ := hex
          have := um f c1 c2
          rw [c3] at this
          omega
        · rw [s3 b hb (fun c c1 c2 c3 => hex ⟨c, c1, c2, c3⟩)]; omega
      · omega
  have hI' : huI k ns w u' v' o := by
    refine ⟨F, fun c hc => ?_, ?_, i4, fun c hc ho => ?_, fun c hc ho => ?_, i7, fun b hb => ?_⟩
    · have h2 := i2 c hc
      rcases r1 c (by omega) with z | z
      · rw [(s5 c (by omega) z).1]; exact h2
      · rw [(s4 c (by omega) z).1]
        have := hpos (Nat.lt_of_le_of_lt (Nat.zero_le _) (r5 c hc z))
        omega
    · rw [(s5 ns (Nat.le_refl _) r2).1]; exact i3
    · rcases r1 c (by omega) with z | z
      · rw [(s5 c (by omega) z).1]; exact i5 c hc ho
      · exact absurd ho (r3 c hc z)
    · obtain ⟨b, b1, b2, b3, b4⟩ := huI_o hI hc ho
      refine ⟨b, b1, b2, ?_⟩
      rcases r1 c (by omega) with z | z
      · rw [(s5 c (by omega) z).1, s3 b b1 (fun e e1 e2 e3 => ?_)]
        · exact b4
        · have e4 := huI_o hI e1 (r3 e e1 e2)
          obtain ⟨b', _, f2, f3, _⟩ := e4
          have : c = e := i7 c e hc e1 ho (by omega)
          subst this; omega
      · have := um c hc z
        rw [b3] at this
        rw [(s4 c (by omega) z).1, this]; omega
    · rcases i8 b hb with z | z
      · exact Or.inl z
      · by_cases hex : ∃ f, f < ns ∧ rc f = 1 ∧ (o f).toNat = b
        · obtain ⟨f, c1, c2, c3⟩ := hex
          obtain ⟨b', g1, g2, g3, g4⟩ := huI_o hI c1 (r3 f c1 c2)
          exact Or.inl ⟨f, c1, by omega⟩
        · right
          rw [s3 b hb (fun c c1 c2 c3 => hex ⟨c, c1, c2, c3⟩)]; exact z
  refine ⟨⟨hI', ⟨r1, r2, r3, r4, r5, fun c hc hrc => ?_, fun c hc hrc => ?_⟩, ?_, fun c hc h0 => ?_, q3, q4, ?_, ?_⟩, hpos⟩
  · have hcf := (q1 c (by omega) hrc).2
    rw [hcf]
    refine ⟨(r6 c hc hrc).1, ?_⟩
    have := (r6 c hc hrc).2
    rw [mvk c hc hrc, (s4 c (by omega) hrc).1]; omega
  · have := r7 c hc hrc
    rw [s1, (s4 c (by omega) hrc).1]; omega
  · rw [s1]
    rcases hL with ⟨e0, e1, e2, e3⟩ | ⟨e0, _, e4, _⟩
    · have w1 := hx.2.2.2.2
      have hcf : mvr k o (cf1 q) = k := by
        rcases hx.2.2.2.1 with z | ⟨f, z1, z2, z3⟩
        · rw [z]; rfl
        · exact absurd (t0 e0 f z2) (by omega)
      rw [hcf] at w1
      have w2 := hB k q (Nat.le_refl _) q3
      have hvc : v q ≤ 0 := by
        rcases Nat.lt_or_ge q ns with z | z
        · exact i2 q z
        · have : q = ns := by omega
          rw [this, i3]; omega
      omega
    · have := hpos e0
      omega
  · obtain ⟨g1, g2, g3, g4, g5⟩ := A c hc h0
    have h5 := q5 c hc h0
    obtain ⟨z1, z2⟩ := s5 c hc h0
    have hmu : u' (mvr k o (cf1 c)) = u (mvr k o (cf1 c)) + sl1 q := by
      rcases g4 with y | ⟨f, y1, y2, y3⟩
      · rw [y]; exact s1
      · have : mvr k o (cf1 c) = (o f).toNat := by unfold mvr; rw [if_neg (by omega), y1, Int.toNat_natCast]
        rw [this]; exact um f y2 y3
    refine ⟨by omega, by omega, fun f hf hrf => ?_, g4, by omega⟩
    have := g3 f hf hrf
    have := um f hf hrf
    omega
  · rw [(s5 q q3 q4).2]; omega
  · have e1 : sg u' k = sg u k + sl1 q * sg rc ns := sg_boxes ns o rc u u' (fun c hc => r1 c (by omega)) (fun c hc hrc => by
      obtain ⟨b, b1, b2, -, -⟩ := huI_o hI hc (r3 c hc hrc)
      omega) (fun c e hc he hrc _ heq => i7 c e hc he (r3 c hc hrc) heq) s2 s3
    have e2 : sg v' ns = sg v ns - sl1 q * sg rc ns := sg_two (fun c hc hrc => (s4 c (by omega) hrc).1) (fun c hc hrc => (s5 c (by omega) hrc).1) (fun c hc => r1 c (by omega))
    have hD' : sg u k + u k + sg v ns = D := hD
    show sg u' k + u' k + sg v' ns = D + sl1 q
    rw [e1, e2, s1]; omega
theorem hu_next {k ns t : Nat} {w : Nat → Nat → Int} {u v o sl cf rc : Nat → Int} {rk : Nat → Nat} {D B : Int} {q : Nat} (h : huT k ns t w u v o sl cf rc rk q D B) (ho : o q ≠ -1) :
    huS k ns (t + 1) w u v o sl cf (up rc q 1) (q : Int) (fun c => if c = q then t else rk c) D B := by
  obtain ⟨hI, ⟨r1, r2, r3, r4, r5, r6, r7⟩, hk, hS, q1, q2, q3, hD⟩ := h
  have hq : q < ns := by
    rcases Nat.lt_or_ge q ns with z | z
    · exact z
    · have : q = ns := by omega
      rw [this] at ho; exact absurd hI.2.2.2.1 ho
  obtain ⟨g1, g2, g3, g4, g5⟩ := hS q q1 q2
  have hup : ∀ c, c ≠ q → up rc q 1 c = rc c := fun c hc => up_n hc
  refine ⟨hI, ⟨fun c hc => ?_, ?_, fun c hc hrc => ?_, ?_, fun c hc hrc => ?_, fun c hc hrc => ?_, fun c hc hrc => ?_⟩, Or.inr ⟨by omega, ⟨q, rfl, hq, up_s⟩, hk, fun c hc h0 => ?_⟩, hD⟩
  · by_cases e : c = q
    · subst e; rw [up_s]; exact Or.inr rfl
    · rw [hup c e]; exact r1 c hc
  · rw [hup ns (by omega)]; exact r2
  · by_cases e : c = q
    · subst e; exact ho
    · rw [hup c e] at hrc; exact r3 c hc hrc
  · rw [sg_up hq, r4, q2]; omega
  · dsimp only
    by_cases e : c = q
    · rw [if_pos e]; omega
    · rw [if_neg e]; rw [hup c e] at hrc; have := r5 c hc hrc; omega
  · by_cases e : c = q
    · subst e
      refine ⟨?_, by omega⟩
      rcases g4 with z | ⟨f, z1, z2, z3⟩
      · exact Or.inl z
      · have hfc : f ≠ c := fun e => by rw [e] at z3; omega
        refine Or.inr ⟨f, z1, z2, by rw [hup f hfc]; exact z3, ?_⟩
        dsimp only
        rw [if_neg hfc, if_pos rfl]; exact r5 f z2 z3
    · rw [hup c e] at hrc
      obtain ⟨y1, y2⟩ := r6 c hc hrc
      refine ⟨?_, y2⟩
      rcases y1 with z | ⟨f, z1, z2, z3, z4⟩
      · exact Or.inl z
      · have hfc : f ≠ q := fun e => by rw [e] at z3; omega
        refine Or.inr ⟨f, z1, z2, by rw [hup f hfc]; exact z3, ?_⟩
        dsimp only
        rw [if_neg hfc, if_neg e]; exact z4
  · by_cases e : c = q
    · subst e; omega
    · rw [hup c e] at hrc; exact r7 c hc hrc
  · have e : c ≠ q := fun e => by subst e; rw [up_s] at h0; omega
    rw [hup c e] at h0
    obtain ⟨y1, y2, y3, y4, y5⟩ := hS c hc h0
    refine ⟨y1, y2, fun f hf hrf hne => ?_, ?_, y5⟩
    · have hfq : f ≠ q := fun e => hne (by rw [e])
      rw [hup f hfq] at hrf; exact y3 f hf hrf
    · rcases y4 with z | ⟨f, z1, z2, z3⟩
      · exact Or.inl z
      · have hfc : f ≠ q := fun e => by rw [e] at z3; omega
        exact Or.inr ⟨f, z1, z2, by rw [hup f hfc]; exact z3⟩
/-! ===== handing columns on ===== -/
def huP (k ns : Nat) (w : Nat → Nat → Int) (u v o cf rc : Nat → Int) (rk : Nat → Nat) (r col : Nat) (o' : Nat → Int) : Prop :=
  (∀ b c, b < k + 1 → c ≤ ns → u b + v c ≤ w b c) ∧ (∀ c, c < ns → v c ≤ 0) ∧ v ns = 0 ∧ o' ns = -1 ∧ (∀ c, c < ns → c ≠ col → o' c = -1 → v c = 0) ∧
  (∀ c, c < ns → c ≠ col → o' c ≠ -1 → ∃ b : Nat, b < k ∧ o' c = (b : Int) ∧ w b c = u b + v c) ∧ (∀ c e, c < ns → e < ns → c ≠ col → e ≠ col → o' c ≠ -1 → o' c = o' e → c = e) ∧
  (∀ b : Nat, b < k → (∃ c, c < ns ∧ c ≠ col ∧ o' c = (b : Int)) ∨ w b ns = u b) ∧
  col ≤ ns ∧ (rc col = 1 → r ≤ rk col) ∧
  ((cf col = -1 ∧ w k col = u k + v col) ∨ ∃ f : Nat, cf col = (f : Int) ∧ f < ns ∧ rc f = 1 ∧ rk f < r ∧ f ≠ col ∧ w (o' f).toNat col = u (o' f).toNat + v col) ∧
  (∀ c, c < ns → rc c = 1 → rk c < r → o' c = o c ∧ o c ≠ -1 ∧ ((cf c = -1 ∧ w k c = u k + v c) ∨ ∃ f : Nat, cf c = (f : Int) ∧ f < ns ∧ rc f = 1 ∧ rk f < rk c ∧ w (o f).toNat c = u (o f).toNat + v c))
theorem huP_start {k ns t : Nat} {w : Nat → Nat → Int} {u v o sl cf rc : Nat → Int} {rk : Nat → Nat} {D B : Int} {q : Nat} (h : huT k ns t w u v o sl cf rc rk q D B) (ho : o q = -1) :
    huP k ns w u v o cf rc rk t q o ∧ t ≤ ns := by
  obtain ⟨hI, ⟨r1, r2, r3, r4, r5, r6, r7⟩, hk, hS, q1, q2, q3, hD⟩ := h
  obtain ⟨i1, i2, i3, i4, i5, i6, i7, i8⟩ := id hI
  obtain ⟨g1, g2, g3, g4, g5⟩ := hS q q1 q2
  refine ⟨⟨fun b c hb hc => ?_, i2, i3, i4, fun c hc _ => i5 c hc, fun c hc _ => i6 c hc, fun c e hc he _ _ => i7 c e hc he, fun b hb => ?_, q1, fun z => by omega, ?_, fun c hc hrc hlt => ?_⟩, ?_⟩
  · rcases Nat.lt_or_ge b k with z | z
    · exact i1 b c z hc
    · have e : b = k := by omega
      subst e
      rcases r1 c hc with y | y
      · have := (hS c hc y).2.1
        have := (hS c hc y).1
        omega
      · have hcn : c < ns := by
          rcases Nat.lt_or_ge c ns with x | x
          · exact x
          · have : c = ns := by omega
            rw [this, r2] at y; omega
        exact r7 c hcn y
  · rcases i8 b hb with ⟨c, c1, c2⟩ | z
    · refine Or.inl ⟨c, c1, fun e => ?_, c2⟩
      rw [e, ho] at c2; omega
    · exact Or.inr z
  · rcases g4 with z | ⟨f, z1, z2, z3⟩
    · have e : mvr k o (cf q) = k := by rw [z]; rfl
      rw [e] at g5
      exact Or.inl ⟨z, by omega⟩
    · have e : mvr k o (cf q) = (o f).toNat := by unfold mvr; rw [if_neg (by omega), z1, Int.toNat_natCast]
      rw [e] at g5
      exact Or.inr ⟨f, z1, z2, z3, r5 f z2 z3, fun e => by rw [e] at z3; omega, by omega⟩
  · refine ⟨rfl, r3 c hc hrc, ?_⟩
    obtain ⟨y1, y2⟩ := r6 c hc hrc
    rcases y1 with z | ⟨f, z1, z2, z3, z4⟩
    · have e : mvr k o (cf c) = k := by rw [z]; rfl
      rw [e] at y2
      exact Or.inl ⟨z, y2⟩
    · have e : mvr k o (cf c) = (o f).toNat := by unfold mvr; rw [if_neg (by omega), z1, Int.toNat_natCast]
      rw [e] at y2
      exact Or.inr ⟨f, z1, z2, z3, z4, y2⟩
  · have h1 := sg_ub (f := rc) (b := 1) (n := ns) (fun i hi => by rcases r1 i (by omega) with z | z <;> omega)
    omega
/-- what the column gets: the box k, or that of the column before -/
def hnd (k ns col : Nat) (o' : Nat → Int) (f : Int) : Nat → Int := if col < ns then up o' col (if f = -1 then (k : Int) else o' f.toNat) else o'
theorem huP_step {k ns : Nat} {w : Nat → Nat → Int} {u v o cf rc : Nat → Int} {rk : Nat → Nat} {r col : Nat} {o' : Nat → Int} (h : huP k ns w u v o cf rc rk r col o') :
    (cf col = -1 ∧ huI (k + 1) ns w u v (hnd k ns col o' (-1))) ∨ ∃ f : Nat, cf col = (f : Int) ∧ f < ns ∧ rk f < r ∧ (0 ≤ o' f ∧ o' f < k) ∧ huP k ns w u v o cf rc rk (rk f) f (hnd k ns col o' (f : Int)) := by
  obtain ⟨h1, h2, h3, h4, h5, h6, h7, h8, h9, h10, h11, h12⟩ := h
  rcases h11 with ⟨e1, e2⟩ | ⟨f, e1, e2, e3, e4, e5, e6⟩
  · refine Or.inl ⟨e1, ?_⟩
    unfold hnd
    rw [if_pos rfl]
    by_cases hc : col < ns
    · rw [if_pos hc]
      refine ⟨h1, h2, h3, by rw [up_n (by omega)]; exact h4, fun c hc2 hm => ?_, fun c hc2 hm => ?_, fun c e hc2 he2 hm heq => ?_, fun b hb => ?_⟩
      · by_cases e : c = col
        · subst e; rw [up_s] at hm; omega
        · rw [up_n e] at hm; exact h5 c hc2 e hm
      · by_cases e : c = col
        · subst e; exact ⟨k, by omega, up_s, e2⟩
        · rw [up_n e] at hm ⊢
          obtain ⟨b, b1, b2, b3⟩ := h6 c hc2 e hm
          exact ⟨b, by omega, b2, b3⟩
      · by_cases ec : c = col
        · by_cases ee : e = col
          · omega
          · rw [ec, up_s, up_n ee] at heq
            obtain ⟨b, b1, b2, b3⟩ := h6 e he2 ee (by omega)
            omega
        · by_cases ee : e = col
          · rw [ee, up_s, up_n ec] at heq
            obtain ⟨b, b1, b2, b3⟩ := h6 c hc2 ec (by omega)
            omega
          · rw [up_n ec] at hm heq
            rw [up_n ee] at heq
            exact h7 c e hc2 he2 ec ee hm heq
      · rcases Nat.lt_or_ge b k with z | z
        · rcases h8 b z with ⟨c, c1, c2, c3⟩ | y
          · exact Or.inl ⟨c, c1, by rw [up_n c2]; exact c3⟩
          · exact Or.inr y
        · have : b = k := by omega
          subst this
          exact Or.inl ⟨col, hc, up_s⟩
    · rw [if_neg hc]
      have e : col = ns := by omega
      refine ⟨h1, h2, h3, h4, fun c hc2 hm => h5 c hc2 (by omega) hm, fun c hc2 hm => ?_, fun c e hc2 he2 hm heq => h7 c e hc2 he2 (by omega) (by omega) hm heq, fun b hb => ?_⟩
      · obtain ⟨b, b1, b2, b3⟩ := h6 c hc2 (by omega) hm
        exact ⟨b, by omega, b2, b3⟩
      · rcases Nat.lt_or_ge b k with z | z
        · rcases h8 b z with ⟨c, c1, c2, c3⟩ | y
          · exact Or.inl ⟨c, c1, c3⟩
          · exact Or.inr y
        · have : b = k := by omega
          subst this
          right
          rw [e, h3] at e2; omega
  · obtain ⟨y1, y2, y3⟩ := h12 f e2 e3 e4
    obtain ⟨bf, f1, f2, f3⟩ := h6 f e2 e5 (by rw [y1]; exact y2)
    have f4 : (o' f).toNat = bf := by rw [f2]; rfl
    rw [f4] at e6
    refine Or.inr ⟨f, e1, e2, e4, by omega, ?_⟩
    have hu : ∀ c, c ≠ col → hnd k ns col o' (f : Int) c = o' c := by
      intro c hc
      unfold hnd
      split
      · exact up_n hc
      · rfl
    have hcu : col < ns → hnd k ns col o' (f : Int) col = (bf : Int) := by
      intro hc
      unfold hnd
      rw [if_pos hc, up_s, if_neg (by omega), Int.toNat_natCast]; exact f2
    refine ⟨h1, h2, h3, ?_, fun c hc hne hm => ?_, fun c hc hne hm => ?_, fun c e hc he hnc hne hm heq => ?_, fun b hb => ?_, by omega, fun _ => Nat.le_refl _, ?_, fun c hc hrc hlt => ?_⟩
    · by_cases e : ns = col
      · unfold hnd; rw [if_neg (by omega)]; exact h4
      · rw [hu ns e]; exact h4
    · by_cases e : c = col
      · rw [e, hcu (by omega)] at hm; omega
      · rw [hu c e] at hm; exact h5 c hc e hm
    · by_cases e : c = col
      · subst e; exact ⟨bf, f1, hcu hc, e6⟩
      · rw [hu c e] at hm ⊢; exact h6 c hc e hm
    · by_cases ec : c = col
      · by_cases ee : e = col
        · omega
        · rw [ec, hcu (by omega), hu e ee] at heq
          have := h7 f e e2 he e5 ee (by omega) (by omega)
          exact absurd this.symm hne
      · by_cases ee : e = col
        · rw [ee, hcu (by omega), hu c ec] at heq
          have := h7 c f hc e2 ec e5 (by omega) (by omega)
          exact absurd this hnc
        · rw [hu c ec] at hm heq
          rw [hu e ee] at heq
          exact h7 c e hc he ec ee hm heq
    · rcases h8 b hb with ⟨c, c1, c2, c3⟩ | y
      · by_cases e : c = f
        · subst e
          have hbb : b = bf := by omega
          subst hbb
          by_cases hcol : col < ns
          · exact Or.inl ⟨col, hcol, fun e => e5 e.symm, hcu hcol⟩
          · have : col = ns := by omega
            right; rw [this, h3] at e6; omega
        · exact Or.inl ⟨c, c1, e, by rw [hu c c2]; exact c3⟩
      · exact Or.inr y
    · rcases y3 with ⟨z1, z2⟩ | ⟨f', z1, z2, z3, z4, z5⟩
      · exact Or.inl ⟨z1, z2⟩
      · have hf'c : f' ≠ col := fun e => by
          subst e
          have := h10 z3
          omega
        obtain ⟨x1, x2, x3⟩ := h12 f' z2 z3 (by omega)
        refine Or.inr ⟨f', z1, z2, z3, z4, fun e => by subst e; omega, ?_⟩
        rw [hu f' hf'c, x1]; exact z5
    · have hcc : c ≠ col := fun e => by
        subst e
        have := h10 hrc
        omega
      obtain ⟨x1, x2, x3⟩ := h12 c hc hrc (by omega)
      exact ⟨by rw [hu c hcc]; exact x1, x2, x3⟩
