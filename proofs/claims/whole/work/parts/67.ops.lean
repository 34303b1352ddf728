/-! ===== the law ===== -/
theorem i32_r (x : Int32) : -2147483648 ≤ x.toInt ∧ x.toInt < 2147483648 := ⟨Int32.le_toInt x, Int32.toInt_lt x⟩
theorem i32_nat (x : Int32) : ∃ a : Nat, Int32.ofInt (a : Int) = x := by
  refine ⟨(x.toInt % 4294967296).toNat, ?_⟩
  have h0 : (((x.toInt % 4294967296).toNat : Nat) : Int) = x.toInt % 4294967296 := by omega
  rw [h0, ← Int32.toInt_inj, Int32.toInt_ofInt]
  have hr := i32_r x
  have e : (Int32.size : Int) = 4294967296 := rfl
  have h1 := Int.emod_bmod x.toInt Int32.size
  rw [show (4294967296 : Int) = (Int32.size : Int) from rfl, h1]
  exact Int.bmod_eq_of_le_mul_two (by omega) (by omega)
theorem l_page {g : pG} {meth : Method} {X : pX} {Qf : State → Prop} (C : pCx g (lawY meth) code 4 ret 11 600000 7302250 X) {L : Nat} {xs : Nat → Int32} (hX : pScr g X L xs) {M : pMem} (hV : IV M) {i : Nat} (hi : i + 6 ≤ L) (hL : L ≤ 3072) (kk : ∀ M2, IV M2 → pE g 4 X Qf SH M2 180 7722 18 [some (.inr (.inr 1000000)), some (.inr (.inr 0)), some (.inr (.inr 153)), some (.inl ((i : Int) + 6))] []) : pE g 4 X Qf SH M 180 7722 120 [some (.inr (.inr 1000000)), some (.inr (.inr 0)), some (.inr (.inr 153)), some (.inl (i : Int))] [] := by
  refine e_aload_n C dL_law_120 rfl ?_
  refine e_callV C (c_page (M := M)   hV.1) mt_X5_page s_L_13 dL_law_121 5 sh_0 rfl (fun r1 M1 q1 => ?_)
  obtain ⟨u, rfl, jd, ag⟩ := a_page   hV r1 M1 q1
  dsimp only [Option.toList_some, List.singleton_append]
  refine e_aload_n C dL_law_124 rfl ?_
  refine e_callV C (c_pageD (M := M1)   jd) mt_X6_page s_L_17 dL_law_125 6 sh_153 rfl (fun r2 M2 q2 => ?_)
  obtain ⟨rfl, hu, hI⟩ := ag r2 M2 q2
  dsimp only [Option.toList_some, List.singleton_append]
  refine e_icmp_eq C (tgt := 740) dL_law_128 (by decide) hu hu (fun h_128 => ?_) (fun h_128 => by exact absurd rfl h_128)
  refine e_iinc C dL_law_740 rfl ?_
  refine e_goto C (tgt := 18) dL_law_743 (by decide) ?_
  exact kk M2 hI
theorem l_box {g : pG} {meth : Method} {X : pX} {Qf : State → Prop} (C : pCx g (lawY meth) code 4 ret 11 600000 7302250 X) {L : Nat} {xs : Nat → Int32} (hX : pScr g X L xs) {M : pMem} (hV : IV M) {i : Nat} (hi : i + 6 ≤ L) (hL : L ≤ 3072) (kk : ∀ M2, IV M2 → pE g 4 X Qf SH M2 180 7722 18 [some (.inr (.inr 1000000)), some (.inr (.inr 0)), some (.inr (.inr 153)), some (.inl ((i : Int) + 6))] []) : pE g 4 X Qf SH M 180 7722 133 [some (.inr (.inr 1000000)), some (.inr (.inr 0)), some (.inr (.inr 153)), some (.inl (i : Int))] [] := by
  refine e_aload_n C dL_law_133 rfl ?_
  refine e_aload_n C dL_law_134 rfl ?_
  refine e_iload_n C dL_law_135 rfl ?_
  refine e_iconst C dL_law_136 ?_
  refine e_iadd C dL_law_137 ?_
  refine e_sload C hX dL_law_138 (i + 1) (by omega) (by omega) (Int32.ofInt_toInt _) ?_
  refine e_aload_n C dL_law_139 rfl ?_
  refine e_iload_n C dL_law_140 rfl ?_
  refine e_iconst C dL_law_141 ?_
  refine e_iadd C dL_law_142 ?_
  refine e_sload C hX dL_law_143 (i + 2) (by omega) (by omega) (Int32.ofInt_toInt _) ?_
  refine e_aload_n C dL_law_144 rfl ?_
  refine e_iload_n C dL_law_145 rfl ?_
  refine e_iconst C dL_law_146 ?_
  refine e_iadd C dL_law_147 ?_
  refine e_sload C hX dL_law_148 (i + 3) (by omega) (by omega) (Int32.ofInt_toInt _) ?_
  refine e_aload_n C dL_law_149 rfl ?_
  refine e_iload_n C dL_law_150 rfl ?_
  refine e_iconst C dL_law_151 ?_
  refine e_iadd C dL_law_152 ?_
  refine e_sload C hX dL_law_153 (i + 4) (by omega) (by omega) (Int32.ofInt_toInt _) ?_
  refine e_callV C (c_box (M := M) (p := (xs (i + 1)).toInt) (x := (xs (i + 2)).toInt) (y := (xs (i + 3)).toInt) (c := (xs (i + 4)).toInt) (i32_r (xs (i + 1))) (i32_r (xs (i + 2))) (i32_r (xs (i + 3))) (i32_r (xs (i + 4))) hV.1) mt_X5_box s_L_18 dL_law_154 5 sh_0 rfl (fun r1 M1 q1 => ?_)
  obtain ⟨u, rfl, jd, ag⟩ := a_box (p := (xs (i + 1)).toInt) (x := (xs (i + 2)).toInt) (y := (xs (i + 3)).toInt) (c := (xs (i + 4)).toInt) (i32_r (xs (i + 1))) (i32_r (xs (i + 2))) (i32_r (xs (i + 3))) (i32_r (xs (i + 4))) hV r1 M1 q1
  dsimp only [Option.toList_some, List.singleton_append]
  refine e_aload_n C dL_law_157 rfl ?_
  refine e_aload_n C dL_law_158 rfl ?_
  refine e_iload_n C dL_law_159 rfl ?_
  refine e_iconst C dL_law_160 ?_
  refine e_iadd C dL_law_161 ?_
  refine e_sload C hX dL_law_162 (i + 1) (by omega) (by omega) (Int32.ofInt_toInt _) ?_
  refine e_aload_n C dL_law_163 rfl ?_
  refine e_iload_n C dL_law_164 rfl ?_
  refine e_iconst C dL_law_165 ?_
  refine e_iadd C dL_law_166 ?_
  refine e_sload C hX dL_law_167 (i + 2) (by omega) (by omega) (Int32.ofInt_toInt _) ?_
  refine e_aload_n C dL_law_168 rfl ?_
  refine e_iload_n C dL_law_169 rfl ?_
  refine e_iconst C dL_law_170 ?_
  refine e_iadd C dL_law_171 ?_
  refine e_sload C hX dL_law_172 (i + 3) (by omega) (by omega) (Int32.ofInt_toInt _) ?_
  refine e_aload_n C dL_law_173 rfl ?_
  refine e_iload_n C dL_law_174 rfl ?_
  refine e_iconst C dL_law_175 ?_
  refine e_iadd C dL_law_176 ?_
  refine e_sload C hX dL_law_177 (i + 4) (by omega) (by omega) (Int32.ofInt_toInt _) ?_
  refine e_callV C (c_boxD (M := M1) (p := (xs (i + 1)).toInt) (x := (xs (i + 2)).toInt) (y := (xs (i + 3)).toInt) (c := (xs (i + 4)).toInt) (i32_r (xs (i + 1))) (i32_r (xs (i + 2))) (i32_r (xs (i + 3))) (i32_r (xs (i + 4))) jd) mt_X6_box s_L_22 dL_law_178 6 sh_153 rfl (fun r2 M2 q2 => ?_)
  obtain ⟨rfl, hu, hI⟩ := ag r2 M2 q2
  dsimp only [Option.toList_some, List.singleton_append]
  refine e_icmp_eq C (tgt := 740) dL_law_181 (by decide) hu hu (fun h_181 => ?_) (fun h_181 => by exact absurd rfl h_181)
  refine e_iinc C dL_law_740 rfl ?_
  refine e_goto C (tgt := 18) dL_law_743 (by decide) ?_
  exact kk M2 hI
theorem l_tell {g : pG} {meth : Method} {X : pX} {Qf : State → Prop} (C : pCx g (lawY meth) code 4 ret 11 600000 7302250 X) {L : Nat} {xs : Nat → Int32} (hX : pScr g X L xs) {M : pMem} (hV : IV M) {i : Nat} (hi : i + 6 ≤ L) (hL : L ≤ 3072) (kk : ∀ M2, IV M2 → pE g 4 X Qf SH M2 180 7722 18 [some (.inr (.inr 1000000)), some (.inr (.inr 0)), some (.inr (.inr 153)), some (.inl ((i : Int) + 6))] []) : pE g 4 X Qf SH M 180 7722 186 [some (.inr (.inr 1000000)), some (.inr (.inr 0)), some (.inr (.inr 153)), some (.inl (i : Int))] [] := by
  refine e_aload_n C dL_law_186 rfl ?_
  refine e_aload_n C dL_law_187 rfl ?_
  refine e_iload_n C dL_law_188 rfl ?_
  refine e_iconst C dL_law_189 ?_
  refine e_iadd C dL_law_190 ?_
  refine e_sload C hX dL_law_191 (i + 1) (by omega) (by omega) (Int32.ofInt_toInt _) ?_
  refine e_aload_n C dL_law_192 rfl ?_
  refine e_iload_n C dL_law_193 rfl ?_
  refine e_iconst C dL_law_194 ?_
  refine e_iadd C dL_law_195 ?_
  refine e_sload C hX dL_law_196 (i + 2) (by omega) (by omega) (Int32.ofInt_toInt _) ?_
  refine e_callV C (c_tell (M := M) (p := (xs (i + 1)).toInt) (k := (xs (i + 2)).toInt) (i32_r (xs (i + 1))) (i32_r (xs (i + 2))) hV.1) mt_X5_tell s_L_23 dL_law_197 5 sh_0 rfl (fun r1 M1 q1 => ?_)
  obtain ⟨u, rfl, jd, ag⟩ := a_tell (p := (xs (i + 1)).toInt) (k := (xs (i + 2)).toInt) (i32_r (xs (i + 1))) (i32_r (xs (i + 2))) hV r1 M1 q1
  dsimp only [Option.toList_some, List.singleton_append]
  refine e_aload_n C dL_law_200 rfl ?_
  refine e_aload_n C dL_law_201 rfl ?_
  refine e_iload_n C dL_law_202 rfl ?_
  refine e_iconst C dL_law_203 ?_
  refine e_iadd C dL_law_204 ?_
  refine e_sload C hX dL_law_205 (i + 1) (by omega) (by omega) (Int32.ofInt_toInt _) ?_
  refine e_aload_n C dL_law_206 rfl ?_
  refine e_iload_n C dL_law_207 rfl ?_
  refine e_iconst C dL_law_208 ?_
  refine e_iadd C dL_law_209 ?_
  refine e_sload C hX dL_law_210 (i + 2) (by omega) (by omega) (Int32.ofInt_toInt _) ?_
  refine e_callV C (c_tellD (M := M1) (p := (xs (i + 1)).toInt) (k := (xs (i + 2)).toInt) (i32_r (xs (i + 1))) (i32_r (xs (i + 2))) jd) mt_X6_tell s_L_27 dL_law_211 6 sh_153 rfl (fun r2 M2 q2 => ?_)
  obtain ⟨rfl, hu, hI⟩ := ag r2 M2 q2
  dsimp only [Option.toList_some, List.singleton_append]
  refine e_icmp_eq C (tgt := 740) dL_law_214 (by decide) hu hu (fun h_214 => ?_) (fun h_214 => by exact absurd rfl h_214)
  refine e_iinc C dL_law_740 rfl ?_
  refine e_goto C (tgt := 18) dL_law_743 (by decide) ?_
  exact kk M2 hI
theorem l_weights {g : pG} {meth : Method} {X : pX} {Qf : State → Prop} (C : pCx g (lawY meth) code 4 ret 11 600000 7302250 X) {L : Nat} {xs : Nat → Int32} (hX : pScr g X L xs) {M : pMem} (hV : IV M) {i : Nat} (hi : i + 6 ≤ L) (hL : L ≤ 3072) (kk : ∀ M2, IV M2 → pE g 4 X Qf SH M2 180 7722 18 [some (.inr (.inr 1000000)), some (.inr (.inr 0)), some (.inr (.inr 153)), some (.inl ((i : Int) + 6))] []) : pE g 4 X Qf SH M 180 7722 219 [some (.inr (.inr 1000000)), some (.inr (.inr 0)), some (.inr (.inr 153)), some (.inl (i : Int))] [] := by
  refine e_aload_n C dL_law_219 rfl ?_
  refine e_aload_n C dL_law_220 rfl ?_
  refine e_iload_n C dL_law_221 rfl ?_
  refine e_iconst C dL_law_222 ?_
  refine e_iadd C dL_law_223 ?_
  refine e_sload C hX dL_law_224 (i + 1) (by omega) (by omega) (Int32.ofInt_toInt _) ?_
  refine e_aload_n C dL_law_225 rfl ?_
  refine e_iload_n C dL_law_226 rfl ?_
  refine e_iconst C dL_law_227 ?_
  refine e_iadd C dL_law_228 ?_
  refine e_sload C hX dL_law_229 (i + 2) (by omega) (by omega) (Int32.ofInt_toInt _) ?_
  refine e_aload_n C dL_law_230 rfl ?_
  refine e_iload_n C dL_law_231 rfl ?_
  refine e_iconst C dL_law_232 ?_
  refine e_iadd C dL_law_233 ?_
  refine e_sload C hX dL_law_234 (i + 3) (by omega) (by omega) (Int32.ofInt_toInt _) ?_
  refine e_aload_n C dL_law_235 rfl ?_
  refine e_iload_n C dL_law_236 rfl ?_
  refine e_iconst C dL_law_237 ?_
  refine e_iadd C dL_law_238 ?_
  refine e_sload C hX dL_law_239 (i + 4) (by omega) (by omega) (Int32.ofInt_toInt _) ?_
  refine e_aload_n C dL_law_240 rfl ?_
  refine e_iload_n C dL_law_241 rfl ?_
  refine e_iconst C dL_law_242 ?_
  refine e_iadd C dL_law_243 ?_
  refine e_sload C hX dL_law_244 (i + 5) (by omega) (by omega) (Int32.ofInt_toInt _) ?_
  refine e_callV C (c_weights (M := M) (m1 := (xs (i + 1)).toInt) (m2 := (xs (i + 2)).toInt) (m3 := (xs (i + 3)).toInt) (m4 := (xs (i + 4)).toInt) (m5 := (xs (i + 5)).toInt) (i32_r (xs (i + 1))) (i32_r (xs (i + 2))) (i32_r (xs (i + 3))) (i32_r (xs (i + 4))) (i32_r (xs (i + 5))) hV.1) mt_X5_weights s_L_28 dL_law_245 5 sh_0 rfl (fun r1 M1 q1 => ?_)
  obtain ⟨u, rfl, jd, ag⟩ := a_weights (m1 := (xs (i + 1)).toInt) (m2 := (xs (i + 2)).toInt) (m3 := (xs (i + 3)).toInt) (m4 := (xs (i + 4)).toInt) (m5 := (xs (i + 5)).toInt) (i32_r (xs (i + 1))) (i32_r (xs (i + 2))) (i32_r (xs (i + 3))) (i32_r (xs (i + 4))) (i32_r (xs (i + 5))) hV r1 M1 q1
  dsimp only [Option.toList_some, List.singleton_append]
  refine e_aload_n C dL_law_248 rfl ?_
  refine e_aload_n C dL_law_249 rfl ?_
  refine e_iload_n C dL_law_250 rfl ?_
  refine e_iconst C dL_law_251 ?_
  refine e_iadd C dL_law_252 ?_
  refine e_sload C hX dL_law_253 (i + 1) (by omega) (by omega) (Int32.ofInt_toInt _) ?_
  refine e_aload_n C dL_law_254 rfl ?_
  refine e_iload_n C dL_law_255 rfl ?_
  refine e_iconst C dL_law_256 ?_
  refine e_iadd C dL_law_257 ?_
  refine e_sload C hX dL_law_258 (i + 2) (by omega) (by omega) (Int32.ofInt_toInt _) ?_
  refine e_aload_n C dL_law_259 rfl ?_
  refine e_iload_n C dL_law_260 rfl ?_
  refine e_iconst C dL_law_261 ?_
  refine e_iadd C dL_law_262 ?_
  refine e_sload C hX dL_law_263 (i + 3) (by omega) (by omega) (Int32.ofInt_toInt _) ?_
  refine e_aload_n C dL_law_264 rfl ?_
  refine e_iload_n C dL_law_265 rfl ?_
  refine e_iconst C dL_law_266 ?_
  refine e_iadd C dL_law_267 ?_
  refine e_sload C hX dL_law_268 (i + 4) (by omega) (by omega) (Int32.ofInt_toInt _) ?_
  refine e_aload_n C dL_law_269 rfl ?_
  refine e_iload_n C dL_law_270 rfl ?_
  refine e_iconst C dL_law_271 ?_
  refine e_iadd C dL_law_272 ?_
  refine e_sload C hX dL_law_273 (i + 5) (by omega) (by omega) (Int32.ofInt_toInt _) ?_
  refine e_callV C (c_weightsD (M := M1) (m1 := (xs (i + 1)).toInt) (m2 := (xs (i + 2)).toInt) (m3 := (xs (i + 3)).toInt) (m4 := (xs (i + 4)).toInt) (m5 := (xs (i + 5)).toInt) (i32_r (xs (i + 1))) (i32_r (xs (i + 2))) (i32_r (xs (i + 3))) (i32_r (xs (i + 4))) (i32_r (xs (i + 5))) jd) mt_X6_weights s_L_32 dL_law_274 6 sh_153 rfl (fun r2 M2 q2 => ?_)
  obtain ⟨rfl, hu, hI⟩ := ag r2 M2 q2
  dsimp only [Option.toList_some, List.singleton_append]
  refine e_icmp_eq C (tgt := 740) dL_law_277 (by decide) hu hu (fun h_277 => ?_) (fun h_277 => by exact absurd rfl h_277)
  refine e_iinc C dL_law_740 rfl ?_
  refine e_goto C (tgt := 18) dL_law_743 (by decide) ?_
  exact kk M2 hI
theorem l_bounds {g : pG} {meth : Method} {X : pX} {Qf : State → Prop} (C : pCx g (lawY meth) code 4 ret 11 600000 7302250 X) {L : Nat} {xs : Nat → Int32} (hX : pScr g X L xs) {M : pMem} (hV : IV M) {i : Nat} (hi : i + 6 ≤ L) (hL : L ≤ 3072) (kk : ∀ M2, IV M2 → pE g 4 X Qf SH M2 180 7722 18 [some (.inr (.inr 1000000)), some (.inr (.inr 0)), some (.inr (.inr 153)), some (.inl ((i : Int) + 6))] []) : pE g 4 X Qf SH M 180 7722 282 [some (.inr (.inr 1000000)), some (.inr (.inr 0)), some (.inr (.inr 153)), some (.inl (i : Int))] [] := by
  refine e_aload_n C dL_law_282 rfl ?_
  refine e_aload_n C dL_law_283 rfl ?_
  refine e_iload_n C dL_law_284 rfl ?_
  refine e_iconst C dL_law_285 ?_
  refine e_iadd C dL_law_286 ?_
  refine e_sload C hX dL_law_287 (i + 1) (by omega) (by omega) (Int32.ofInt_toInt _) ?_
  refine e_aload_n C dL_law_288 rfl ?_
  refine e_iload_n C dL_law_289 rfl ?_
  refine e_iconst C dL_law_290 ?_
  refine e_iadd C dL_law_291 ?_
  refine e_sload C hX dL_law_292 (i + 2) (by omega) (by omega) (Int32.ofInt_toInt _) ?_
  refine e_aload_n C dL_law_293 rfl ?_
  refine e_iload_n C dL_law_294 rfl ?_
  refine e_iconst C dL_law_295 ?_
  refine e_iadd C dL_law_296 ?_
  refine e_sload C hX dL_law_297 (i + 3) (by omega) (by omega) (Int32.ofInt_toInt _) ?_
  refine e_callV C (c_bounds (M := M) (l := (xs (i + 1)).toInt) (v := (xs (i + 2)).toInt) (h := (xs (i + 3)).toInt) (i32_r (xs (i + 1))) (i32_r (xs (i + 2))) (i32_r (xs (i + 3))) hV.1) mt_X5_bounds s_L_33 dL_law_298 5 sh_0 rfl (fun r1 M1 q1 => ?_)
  obtain ⟨u, rfl, jd, ag⟩ := a_bounds (l := (xs (i + 1)).toInt) (v := (xs (i + 2)).toInt) (h := (xs (i + 3)).toInt) (i32_r (xs (i + 1))) (i32_r (xs (i + 2))) (i32_r (xs (i + 3))) hV r1 M1 q1
  dsimp only [Option.toList_some, List.singleton_append]
  refine e_aload_n C dL_law_301 rfl ?_
  refine e_aload_n C dL_law_302 rfl ?_
  refine e_iload_n C dL_law_303 rfl ?_
  refine e_iconst C dL_law_304 ?_
  refine e_iadd C dL_law_305 ?_
  refine e_sload C hX dL_law_306 (i + 1) (by omega) (by omega) (Int32.ofInt_toInt _) ?_
  refine e_aload_n C dL_law_307 rfl ?_
  refine e_iload_n C dL_law_308 rfl ?_
  refine e_iconst C dL_law_309 ?_
  refine e_iadd C dL_law_310 ?_
  refine e_sload C hX dL_law_311 (i + 2) (by omega) (by omega) (Int32.ofInt_toInt _) ?_
  refine e_aload_n C dL_law_312 rfl ?_
  refine e_iload_n C dL_law_313 rfl ?_
  refine e_iconst C dL_law_314 ?_
  refine e_iadd C dL_law_315 ?_
  refine e_sload C hX dL_law_316 (i + 3) (by omega) (by omega) (Int32.ofInt_toInt _) ?_
  refine e_callV C (c_boundsD (M := M1) (l := (xs (i + 1)).toInt) (v := (xs (i + 2)).toInt) (h := (xs (i + 3)).toInt) (i32_r (xs (i + 1))) (i32_r (xs (i + 2))) (i32_r (xs (i + 3))) jd) mt_X6_bounds s_L_37 dL_law_317 6 sh_153 rfl (fun r2 M2 q2 => ?_)
  obtain ⟨rfl, hu, hI⟩ := ag r2 M2 q2
  dsimp only [Option.toList_some, List.singleton_append]
  refine e_icmp_eq C (tgt := 740) dL_law_320 (by decide) hu hu (fun h_320 => ?_) (fun h_320 => by exact absurd rfl h_320)
  refine e_iinc C dL_law_740 rfl ?_
  refine e_goto C (tgt := 18) dL_law_743 (by decide) ?_
  exact kk M2 hI
theorem l_kind {g : pG} {meth : Method} {X : pX} {Qf : State → Prop} (C : pCx g (lawY meth) code 4 ret 11 600000 7302250 X) {L : Nat} {xs : Nat → Int32} (hX : pScr g X L xs) {M : pMem} (hV : IV M) {i : Nat} (hi : i + 6 ≤ L) (hL : L ≤ 3072) (kk : ∀ M2, IV M2 → pE g 4 X Qf SH M2 180 7722 18 [some (.inr (.inr 1000000)), some (.inr (.inr 0)), some (.inr (.inr 153)), some (.inl ((i : Int) + 6))] []) : pE g 4 X Qf SH M 180 7722 325 [some (.inr (.inr 1000000)), some (.inr (.inr 0)), some (.inr (.inr 153)), some (.inl (i : Int))] [] := by
  refine e_aload_n C dL_law_325 rfl ?_
  refine e_aload_n C dL_law_326 rfl ?_
  refine e_iload_n C dL_law_327 rfl ?_
  refine e_iconst C dL_law_328 ?_
  refine e_iadd C dL_law_329 ?_
  refine e_sload C hX dL_law_330 (i + 1) (by omega) (by omega) (Int32.ofInt_toInt _) ?_
  refine e_aload_n C dL_law_331 rfl ?_
  refine e_iload_n C dL_law_332 rfl ?_
  refine e_iconst C dL_law_333 ?_
  refine e_iadd C dL_law_334 ?_
  refine e_sload C hX dL_law_335 (i + 2) (by omega) (by omega) (Int32.ofInt_toInt _) ?_
  refine e_callV C (c_kind (M := M) (k := (xs (i + 1)).toInt) (w := (xs (i + 2)).toInt) (i32_r (xs (i + 1))) (i32_r (xs (i + 2))) hV.1) mt_X5_kind s_L_38 dL_law_336 5 sh_0 rfl (fun r1 M1 q1 => ?_)
  obtain ⟨u, rfl, jd, ag⟩ := a_kind (k := (xs (i + 1)).toInt) (w := (xs (i + 2)).toInt) (i32_r (xs (i + 1))) (i32_r (xs (i + 2))) hV r1 M1 q1
  dsimp only [Option.toList_some, List.singleton_append]
  refine e_aload_n C dL_law_339 rfl ?_
  refine e_aload_n C dL_law_340 rfl ?_
  refine e_iload_n C dL_law_341 rfl ?_
  refine e_iconst C dL_law_342 ?_
  refine e_iadd C dL_law_343 ?_
  refine e_sload C hX dL_law_344 (i + 1) (by omega) (by omega) (Int32.ofInt_toInt _) ?_
  refine e_aload_n C dL_law_345 rfl ?_
  refine e_iload_n C dL_law_346 rfl ?_
  refine e_iconst C dL_law_347 ?_
  refine e_iadd C dL_law_348 ?_
  refine e_sload C hX dL_law_349 (i + 2) (by omega) (by omega) (Int32.ofInt_toInt _) ?_
  refine e_callV C (c_kindD (M := M1) (k := (xs (i + 1)).toInt) (w := (xs (i + 2)).toInt) (i32_r (xs (i + 1))) (i32_r (xs (i + 2))) jd) mt_X6_kind s_L_42 dL_law_350 6 sh_153 rfl (fun r2 M2 q2 => ?_)
  obtain ⟨rfl, hu, hI⟩ := ag r2 M2 q2
  dsimp only [Option.toList_some, List.singleton_append]
  refine e_icmp_eq C (tgt := 740) dL_law_353 (by decide) hu hu (fun h_353 => ?_) (fun h_353 => by exact absurd rfl h_353)
  refine e_iinc C dL_law_740 rfl ?_
  refine e_goto C (tgt := 18) dL_law_743 (by decide) ?_
  exact kk M2 hI
theorem l_spot {g : pG} {meth : Method} {X : pX} {Qf : State → Prop} (C : pCx g (lawY meth) code 4 ret 11 600000 7302250 X) {L : Nat} {xs : Nat → Int32} (hX : pScr g X L xs) {M : pMem} (hV : IV M) {i : Nat} (hi : i + 6 ≤ L) (hL : L ≤ 3072) (kk : ∀ M2, IV M2 → pE g 4 X Qf SH M2 180 7722 18 [some (.inr (.inr 1000000)), some (.inr (.inr 0)), some (.inr (.inr 153)), some (.inl ((i : Int) + 6))] []) : pE g 4 X Qf SH M 180 7722 358 [some (.inr (.inr 1000000)), some (.inr (.inr 0)), some (.inr (.inr 153)), some (.inl (i : Int))] [] := by
  refine e_aload_n C dL_law_358 rfl ?_
  refine e_aload_n C dL_law_359 rfl ?_
  refine e_iload_n C dL_law_360 rfl ?_
  refine e_iconst C dL_law_361 ?_
  refine e_iadd C dL_law_362 ?_
  refine e_sload C hX dL_law_363 (i + 1) (by omega) (by omega) (Int32.ofInt_toInt _) ?_
  refine e_aload_n C dL_law_364 rfl ?_
  refine e_iload_n C dL_law_365 rfl ?_
  refine e_iconst C dL_law_366 ?_
  refine e_iadd C dL_law_367 ?_
  refine e_sload C hX dL_law_368 (i + 2) (by omega) (by omega) (Int32.ofInt_toInt _) ?_
  refine e_aload_n C dL_law_369 rfl ?_
  refine e_iload_n C dL_law_370 rfl ?_
  refine e_iconst C dL_law_371 ?_
  refine e_iadd C dL_law_372 ?_
  refine e_sload C hX dL_law_373 (i + 3) (by omega) (by omega) (Int32.ofInt_toInt _) ?_
  refine e_callV C (c_spot (M := M) (k := (xs (i + 1)).toInt) (i := (xs (i + 2)).toInt) (w := (xs (i + 3)).toInt) (i32_r (xs (i + 1))) (i32_r (xs (i + 2))) (i32_r (xs (i + 3))) hV.1) mt_X5_spot s_L_43 dL_law_374 5 sh_0 rfl (fun r1 M1 q1 => ?_)
  obtain ⟨u, rfl, jd, ag⟩ := a_spot (k := (xs (i + 1)).toInt) (i := (xs (i + 2)).toInt) (w := (xs (i + 3)).toInt) (i32_r (xs (i + 1))) (i32_r (xs (i + 2))) (i32_r (xs (i + 3))) hV r1 M1 q1
  dsimp only [Option.toList_some, List.singleton_append]
  refine e_aload_n C dL_law_377 rfl ?_
  refine e_aload_n C dL_law_378 rfl ?_
  refine e_iload_n C dL_law_379 rfl ?_
  refine e_iconst C dL_law_380 ?_
  refine e_iadd C dL_law_381 ?_
  refine e_sload C hX dL_law_382 (i + 1) (by omega) (by omega) (Int32.ofInt_toInt _) ?_
  refine e_aload_n C dL_law_383 rfl ?_
  refine e_iload_n C dL_law_384 rfl ?_
  refine e_iconst C dL_law_385 ?_
  refine e_iadd C dL_law_386 ?_
  refine e_sload C hX dL_law_387 (i + 2) (by omega) (by omega) (Int32.ofInt_toInt _) ?_
  refine e_aload_n C dL_law_388 rfl ?_
  refine e_iload_n C dL_law_389 rfl ?_
  refine e_iconst C dL_law_390 ?_
  refine e_iadd C dL_law_391 ?_
  refine e_sload C hX dL_law_392 (i + 3) (by omega) (by omega) (Int32.ofInt_toInt _) ?_
  refine e_callV C (c_spotD (M := M1) (k := (xs (i + 1)).toInt) (i := (xs (i + 2)).toInt) (w := (xs (i + 3)).toInt) (i32_r (xs (i + 1))) (i32_r (xs (i + 2))) (i32_r (xs (i + 3))) jd) mt_X6_spot s_L_47 dL_law_393 6 sh_153 rfl (fun r2 M2 q2 => ?_)
  obtain ⟨rfl, hu, hI⟩ := ag r2 M2 q2
  dsimp only [Option.toList_some, List.singleton_append]
  refine e_icmp_eq C (tgt := 740) dL_law_396 (by decide) hu hu (fun h_396 => ?_) (fun h_396 => by exact absurd rfl h_396)
  refine e_iinc C dL_law_740 rfl ?_
  refine e_goto C (tgt := 18) dL_law_743 (by decide) ?_
  exact kk M2 hI
theorem l_lay {g : pG} {meth : Method} {X : pX} {Qf : State → Prop} (C : pCx g (lawY meth) code 4 ret 11 600000 7302250 X) {L : Nat} {xs : Nat → Int32} (hX : pScr g X L xs) {M : pMem} (hV : IV M) {i : Nat} (hi : i + 6 ≤ L) (hL : L ≤ 3072) (kk : ∀ M2, IV M2 → pE g 4 X Qf SH M2 180 7722 18 [some (.inr (.inr 1000000)), some (.inr (.inr 0)), some (.inr (.inr 153)), some (.inl ((i : Int) + 6))] []) : pE g 4 X Qf SH M 180 7722 401 [some (.inr (.inr 1000000)), some (.inr (.inr 0)), some (.inr (.inr 153)), some (.inl (i : Int))] [] := by
  refine e_aload_n C dL_law_401 rfl ?_
  refine e_aload_n C dL_law_402 rfl ?_
  refine e_iload_n C dL_law_403 rfl ?_
  refine e_iconst C dL_law_404 ?_
  refine e_iadd C dL_law_405 ?_
  refine e_sload C hX dL_law_406 (i + 1) (by omega) (by omega) (Int32.ofInt_toInt _) ?_
  refine e_aload_n C dL_law_407 rfl ?_
  refine e_iload_n C dL_law_408 rfl ?_
  refine e_iconst C dL_law_409 ?_
  refine e_iadd C dL_law_410 ?_
  refine e_sload C hX dL_law_411 (i + 2) (by omega) (by omega) (Int32.ofInt_toInt _) ?_
  refine e_aload_n C dL_law_412 rfl ?_
  refine e_iload_n C dL_law_413 rfl ?_
  refine e_iconst C dL_law_414 ?_
  refine e_iadd C dL_law_415 ?_
  refine e_sload C hX dL_law_416 (i + 3) (by omega) (by omega) (Int32.ofInt_toInt _) ?_
  refine e_callV C (c_lay (M := M) (p := (xs (i + 1)).toInt) (k := (xs (i + 2)).toInt) (w := (xs (i + 3)).toInt) (i32_r (xs (i + 1))) (i32_r (xs (i + 2))) (i32_r (xs (i + 3))) hV.1) mt_X5_lay s_L_48 dL_law_417 5 sh_0 rfl (fun r1 M1 q1 => ?_)
  obtain ⟨u, rfl, jd, ag⟩ := a_lay (p := (xs (i + 1)).toInt) (k := (xs (i + 2)).toInt) (w := (xs (i + 3)).toInt) (i32_r (xs (i + 1))) (i32_r (xs (i + 2))) (i32_r (xs (i + 3))) hV r1 M1 q1
  dsimp only [Option.toList_some, List.singleton_append]
  refine e_aload_n C dL_law_420 rfl ?_
  refine e_aload_n C dL_law_421 rfl ?_
  refine e_iload_n C dL_law_422 rfl ?_
  refine e_iconst C dL_law_423 ?_
  refine e_iadd C dL_law_424 ?_
  refine e_sload C hX dL_law_425 (i + 1) (by omega) (by omega) (Int32.ofInt_toInt _) ?_
  refine e_aload_n C dL_law_426 rfl ?_
  refine e_iload_n C dL_law_427 rfl ?_
  refine e_iconst C dL_law_428 ?_
  refine e_iadd C dL_law_429 ?_
  refine e_sload C hX dL_law_430 (i + 2) (by omega) (by omega) (Int32.ofInt_toInt _) ?_
  refine e_aload_n C dL_law_431 rfl ?_
  refine e_iload_n C dL_law_432 rfl ?_
  refine e_iconst C dL_law_433 ?_
  refine e_iadd C dL_law_434 ?_
  refine e_sload C hX dL_law_435 (i + 3) (by omega) (by omega) (Int32.ofInt_toInt _) ?_
  refine e_callV C (c_layD (M := M1) (p := (xs (i + 1)).toInt) (k := (xs (i + 2)).toInt) (w := (xs (i + 3)).toInt) (i32_r (xs (i + 1))) (i32_r (xs (i + 2))) (i32_r (xs (i + 3))) jd) mt_X6_lay s_L_51 dL_law_436 6 sh_153 rfl (fun r2 M2 q2 => ?_)
  obtain ⟨rfl, hu, hI⟩ := ag r2 M2 q2
  dsimp only [Option.toList_some, List.singleton_append]
  refine e_icmp_eq C (tgt := 740) dL_law_439 (by decide) hu hu (fun h_439 => ?_) (fun h_439 => by exact absurd rfl h_439)
  refine e_iinc C dL_law_740 rfl ?_
  refine e_goto C (tgt := 18) dL_law_743 (by decide) ?_
  exact kk M2 hI
theorem l_moved {g : pG} {meth : Method} {X : pX} {Qf : State → Prop} (C : pCx g (lawY meth) code 4 ret 11 600000 7302250 X) {L : Nat} {xs : Nat → Int32} (hX : pScr g X L xs) {M : pMem} (hV : IV M) {i : Nat} (hi : i + 6 ≤ L) (hL : L ≤ 3072) (kk : ∀ M2, IV M2 → pE g 4 X Qf SH M2 180 7722 18 [some (.inr (.inr 1000000)), some (.inr (.inr 0)), some (.inr (.inr 153)), some (.inl ((i : Int) + 6))] []) : pE g 4 X Qf SH M 180 7722 444 [some (.inr (.inr 1000000)), some (.inr (.inr 0)), some (.inr (.inr 153)), some (.inl (i : Int))] [] := by
  have h3r := i32_r (xs (i + 3))
  by_cases h3 : (xs (i + 3)).toInt = 0
  · refine e_aload_n C dL_law_444 rfl ?_
    refine e_aload_n C dL_law_445 rfl ?_
    refine e_iload_n C dL_law_446 rfl ?_
    refine e_iconst C dL_law_447 ?_
    refine e_iadd C dL_law_448 ?_
    refine e_sload C hX dL_law_449 (i + 1) (by omega) (by omega) (Int32.ofInt_toInt _) ?_
    refine e_aload_n C dL_law_450 rfl ?_
    refine e_iload_n C dL_law_451 rfl ?_
    refine e_iconst C dL_law_452 ?_
    refine e_iadd C dL_law_453 ?_
    refine e_sload C hX dL_law_454 (i + 2) (by omega) (by omega) (Int32.ofInt_toInt _) ?_
    refine e_aload_n C dL_law_455 rfl ?_
    refine e_iload_n C dL_law_456 rfl ?_
    refine e_iconst C dL_law_457 ?_
    refine e_iadd C dL_law_458 ?_
    refine e_sload C hX dL_law_459 (i + 3) (by omega) (by omega) (Int32.ofInt_toInt _) ?_
    refine e_if_eq C (tgt := 467) dL_law_460 (by decide) h3r (fun h_460 => ?_) (fun h_460 => by exfalso; omega)
    refine e_iconst C dL_law_467 ?_
    refine e_callV C (c_moved (M := M) (p := (xs (i + 1)).toInt) (k := (xs (i + 2)).toInt) (y := 0) (i32_r (xs (i + 1))) (i32_r (xs (i + 2))) (by decide) hV.1) mt_X5_moved s_L_52 dL_law_468 5 sh_0 rfl (fun r1 M1 q1 => ?_)
    obtain ⟨u, rfl, jd, ag⟩ := a_moved (p := (xs (i + 1)).toInt) (k := (xs (i + 2)).toInt) (y := 0) (i32_r (xs (i + 1))) (i32_r (xs (i + 2))) (by decide) hV r1 M1 q1
    dsimp only [Option.toList_some, List.singleton_append]
    refine e_aload_n C dL_law_471 rfl ?_
    refine e_aload_n C dL_law_472 rfl ?_
    refine e_iload_n C dL_law_473 rfl ?_
    refine e_iconst C dL_law_474 ?_
    refine e_iadd C dL_law_475 ?_
    refine e_sload C hX dL_law_476 (i + 1) (by omega) (by omega) (Int32.ofInt_toInt _) ?_
    refine e_aload_n C dL_law_477 rfl ?_
    refine e_iload_n C dL_law_478 rfl ?_
    refine e_iconst C dL_law_479 ?_
    refine e_iadd C dL_law_480 ?_
    refine e_sload C hX dL_law_481 (i + 2) (by omega) (by omega) (Int32.ofInt_toInt _) ?_
    refine e_aload_n C dL_law_482 rfl ?_
    refine e_iload_n C dL_law_483 rfl ?_
    refine e_iconst C dL_law_484 ?_
    refine e_iadd C dL_law_485 ?_
    refine e_sload C hX dL_law_486 (i + 3) (by omega) (by omega) (Int32.ofInt_toInt _) ?_
    refine e_if_eq C (tgt := 494) dL_law_487 (by decide) h3r (fun h_487 => ?_) (fun h_487 => by exfalso; omega)
    refine e_iconst C dL_law_494 ?_
    refine e_callV C (c_movedD (M := M1) (p := (xs (i + 1)).toInt) (k := (xs (i + 2)).toInt) (y := 0) (i32_r (xs (i + 1))) (i32_r (xs (i + 2))) (by decide) jd) mt_X6_moved s_L_56 dL_law_495 6 sh_153 rfl (fun r2 M2 q2 => ?_)
    obtain ⟨rfl, hu, hI⟩ := ag r2 M2 q2
    dsimp only [Option.toList_some, List.singleton_append]
    refine e_icmp_eq C (tgt := 740) dL_law_498 (by decide) hu hu (fun h_498 => ?_) (fun h_498 => by exact absurd rfl h_498)
    refine e_iinc C dL_law_740 rfl ?_
    refine e_goto C (tgt := 18) dL_law_743 (by decide) ?_
    exact kk M2 hI
  · refine e_aload_n C dL_law_444 rfl ?_
    refine e_aload_n C dL_law_445 rfl ?_
    refine e_iload_n C dL_law_446 rfl ?_
    refine e_iconst C dL_law_447 ?_
    refine e_iadd C dL_law_448 ?_
    refine e_sload C hX dL_law_449 (i + 1) (by omega) (by omega) (Int32.ofInt_toInt _) ?_
    refine e_aload_n C dL_law_450 rfl ?_
    refine e_iload_n C dL_law_451 rfl ?_
    refine e_iconst C dL_law_452 ?_
    refine e_iadd C dL_law_453 ?_
    refine e_sload C hX dL_law_454 (i + 2) (by omega) (by omega) (Int32.ofInt_toInt _) ?_
    refine e_aload_n C dL_law_455 rfl ?_
    refine e_iload_n C dL_law_456 rfl ?_
    refine e_iconst C dL_law_457 ?_
    refine e_iadd C dL_law_458 ?_
    refine e_sload C hX dL_law_459 (i + 3) (by omega) (by omega) (Int32.ofInt_toInt _) ?_
    refine e_if_eq C (tgt := 467) dL_law_460 (by decide) h3r (fun h_460 => by exfalso; omega) (fun h_460 => ?_)
    refine e_iconst C dL_law_463 ?_
    refine e_goto C (tgt := 468) dL_law_464 (by decide) ?_
    refine e_callV C (c_moved (M := M) (p := (xs (i + 1)).toInt) (k := (xs (i + 2)).toInt) (y := 1) (i32_r (xs (i + 1))) (i32_r (xs (i + 2))) (by decide) hV.1) mt_X5_moved s_L_52 dL_law_468 5 sh_0 rfl (fun r1 M1 q1 => ?_)
    obtain ⟨u, rfl, jd, ag⟩ := a_moved (p := (xs (i + 1)).toInt) (k := (xs (i + 2)).toInt) (y := 1) (i32_r (xs (i + 1))) (i32_r (xs (i + 2))) (by decide) hV r1 M1 q1
    dsimp only [Option.toList_some, List.singleton_append]
    refine e_aload_n C dL_law_471 rfl ?_
    refine e_aload_n C dL_law_472 rfl ?_
    refine e_iload_n C dL_law_473 rfl ?_
    refine e_iconst C dL_law_474 ?_
    refine e_iadd C dL_law_475 ?_
    refine e_sload C hX dL_law_476 (i + 1) (by omega) (by omega) (Int32.ofInt_toInt _) ?_
    refine e_aload_n C dL_law_477 rfl ?_
    refine e_iload_n C dL_law_478 rfl ?_
    refine e_iconst C dL_law_479 ?_
    refine e_iadd C dL_law_480 ?_
    refine e_sload C hX dL_law_481 (i + 2) (by omega) (by omega) (Int32.ofInt_toInt _) ?_
    refine e_aload_n C dL_law_482 rfl ?_
    refine e_iload_n C dL_law_483 rfl ?_
    refine e_iconst C dL_law_484 ?_
    refine e_iadd C dL_law_485 ?_
    refine e_sload C hX dL_law_486 (i + 3) (by omega) (by omega) (Int32.ofInt_toInt _) ?_
    refine e_if_eq C (tgt := 494) dL_law_487 (by decide) h3r (fun h_487 => by exfalso; omega) (fun h_487 => ?_)
    refine e_iconst C dL_law_490 ?_
    refine e_goto C (tgt := 495) dL_law_491 (by decide) ?_
    refine e_callV C (c_movedD (M := M1) (p := (xs (i + 1)).toInt) (k := (xs (i + 2)).toInt) (y := 1) (i32_r (xs (i + 1))) (i32_r (xs (i + 2))) (by decide) jd) mt_X6_moved s_L_56 dL_law_495 6 sh_153 rfl (fun r2 M2 q2 => ?_)
    obtain ⟨rfl, hu, hI⟩ := ag r2 M2 q2
    dsimp only [Option.toList_some, List.singleton_append]
    refine e_icmp_eq C (tgt := 740) dL_law_498 (by decide) hu hu (fun h_498 => ?_) (fun h_498 => by exact absurd rfl h_498)
    refine e_iinc C dL_law_740 rfl ?_
    refine e_goto C (tgt := 18) dL_law_743 (by decide) ?_
    exact kk M2 hI
theorem l_read {g : pG} {meth : Method} {X : pX} {Qf : State → Prop} (C : pCx g (lawY meth) code 4 ret 11 600000 7302250 X) {L : Nat} {xs : Nat → Int32} (hX : pScr g X L xs) {M : pMem} (hV : IV M) {i : Nat} (hi : i + 6 ≤ L) (hL : L ≤ 3072) (kk : ∀ M2, IV M2 → pE g 4 X Qf SH M2 180 7722 18 [some (.inr (.inr 1000000)), some (.inr (.inr 0)), some (.inr (.inr 153)), some (.inl ((i : Int) + 6))] []) : pE g 4 X Qf SH M 180 7722 503 [some (.inr (.inr 1000000)), some (.inr (.inr 0)), some (.inr (.inr 153)), some (.inl (i : Int))] [] := by
  refine e_aload_n C dL_law_503 rfl ?_
  refine e_aload_n C dL_law_504 rfl ?_
  refine e_iload_n C dL_law_505 rfl ?_
  refine e_iconst C dL_law_506 ?_
  refine e_iadd C dL_law_507 ?_
  refine e_sload C hX dL_law_508 (i + 1) (by omega) (by omega) (Int32.ofInt_toInt _) ?_
  refine e_aload_n C dL_law_509 rfl ?_
  refine e_iload_n C dL_law_510 rfl ?_
  refine e_iconst C dL_law_511 ?_
  refine e_iadd C dL_law_512 ?_
  refine e_sload C hX dL_law_513 (i + 2) (by omega) (by omega) (Int32.ofInt_toInt _) ?_
  refine e_aload_n C dL_law_514 rfl ?_
  refine e_iload_n C dL_law_515 rfl ?_
  refine e_iconst C dL_law_516 ?_
  refine e_iadd C dL_law_517 ?_
  refine e_sload C hX dL_law_518 (i + 3) (by omega) (by omega) (Int32.ofInt_toInt _) ?_
  refine e_callV C (c_read (M := M) (p := (xs (i + 1)).toInt) (k := (xs (i + 2)).toInt) (i := (xs (i + 3)).toInt) (i32_r (xs (i + 1))) (i32_r (xs (i + 2))) (i32_r (xs (i + 3))) hV.1) mt_X5_read s_L_57 dL_law_519 5 sh_0 rfl (fun r1 M1 q1 => ?_)
  obtain ⟨u, rfl, jd, ag⟩ := a_read (p := (xs (i + 1)).toInt) (k := (xs (i + 2)).toInt) (i := (xs (i + 3)).toInt) (i32_r (xs (i + 1))) (i32_r (xs (i + 2))) (i32_r (xs (i + 3))) hV r1 M1 q1
  dsimp only [Option.toList_some, List.singleton_append]
  refine e_aload_n C dL_law_522 rfl ?_
  refine e_aload_n C dL_law_523 rfl ?_
  refine e_iload_n C dL_law_524 rfl ?_
  refine e_iconst C dL_law_525 ?_
  refine e_iadd C dL_law_526 ?_
  refine e_sload C hX dL_law_527 (i + 1) (by omega) (by omega) (Int32.ofInt_toInt _) ?_
  refine e_aload_n C dL_law_528 rfl ?_
  refine e_iload_n C dL_law_529 rfl ?_
  refine e_iconst C dL_law_530 ?_
  refine e_iadd C dL_law_531 ?_
  refine e_sload C hX dL_law_532 (i + 2) (by omega) (by omega) (Int32.ofInt_toInt _) ?_
  refine e_aload_n C dL_law_533 rfl ?_
  refine e_iload_n C dL_law_534 rfl ?_
  refine e_iconst C dL_law_535 ?_
  refine e_iadd C dL_law_536 ?_
  refine e_sload C hX dL_law_537 (i + 3) (by omega) (by omega) (Int32.ofInt_toInt _) ?_
  refine e_callV C (c_readD (M := M1) (p := (xs (i + 1)).toInt) (k := (xs (i + 2)).toInt) (i := (xs (i + 3)).toInt) (i32_r (xs (i + 1))) (i32_r (xs (i + 2))) (i32_r (xs (i + 3))) jd) mt_X6_read s_L_60 dL_law_538 6 sh_153 rfl (fun r2 M2 q2 => ?_)
  obtain ⟨rfl, hu, hI⟩ := ag r2 M2 q2
  dsimp only [Option.toList_some, List.singleton_append]
  refine e_icmp_eq C (tgt := 740) dL_law_541 (by decide) hu hu (fun h_541 => ?_) (fun h_541 => by exact absurd rfl h_541)
  refine e_iinc C dL_law_740 rfl ?_
  refine e_goto C (tgt := 18) dL_law_743 (by decide) ?_
  exact kk M2 hI
theorem l_sorted {g : pG} {meth : Method} {X : pX} {Qf : State → Prop} (C : pCx g (lawY meth) code 4 ret 11 600000 7302250 X) {L : Nat} {xs : Nat → Int32} (hX : pScr g X L xs) {M : pMem} (hV : IV M) {i : Nat} (hi : i + 6 ≤ L) (hL : L ≤ 3072) (kk : ∀ M2, IV M2 → pE g 4 X Qf SH M2 180 7722 18 [some (.inr (.inr 1000000)), some (.inr (.inr 0)), some (.inr (.inr 153)), some (.inl ((i : Int) + 6))] []) : pE g 4 X Qf SH M 180 7722 546 [some (.inr (.inr 1000000)), some (.inr (.inr 0)), some (.inr (.inr 153)), some (.inl (i : Int))] [] := by
  refine e_aload_n C dL_law_546 rfl ?_
  refine e_aload_n C dL_law_547 rfl ?_
  refine e_iload_n C dL_law_548 rfl ?_
  refine e_iconst C dL_law_549 ?_
  refine e_iadd C dL_law_550 ?_
  refine e_sload C hX dL_law_551 (i + 1) (by omega) (by omega) (Int32.ofInt_toInt _) ?_
  refine e_callV C (c_sorted (M := M) (p := (xs (i + 1)).toInt) (i32_r (xs (i + 1))) hV.1) mt_X5_sorted s_L_61 dL_law_552 5 sh_0 rfl (fun r1 M1 q1 => ?_)
  obtain ⟨u, rfl, jd, ag⟩ := a_sorted (p := (xs (i + 1)).toInt) (i32_r (xs (i + 1))) hV r1 M1 q1
  dsimp only [Option.toList_some, List.singleton_append]
  refine e_aload_n C dL_law_555 rfl ?_
  refine e_aload_n C dL_law_556 rfl ?_
  refine e_iload_n C dL_law_557 rfl ?_
  refine e_iconst C dL_law_558 ?_
  refine e_iadd C dL_law_559 ?_
  refine e_sload C hX dL_law_560 (i + 1) (by omega) (by omega) (Int32.ofInt_toInt _) ?_
  refine e_callV C (c_sortedD (M := M1) (p := (xs (i + 1)).toInt) (i32_r (xs (i + 1))) jd) mt_X6_sorted s_L_65 dL_law_561 6 sh_153 rfl (fun r2 M2 q2 => ?_)
  obtain ⟨rfl, hu, hI⟩ := ag r2 M2 q2
  dsimp only [Option.toList_some, List.singleton_append]
  refine e_icmp_eq C (tgt := 740) dL_law_564 (by decide) hu hu (fun h_564 => ?_) (fun h_564 => by exact absurd rfl h_564)
  refine e_iinc C dL_law_740 rfl ?_
  refine e_goto C (tgt := 18) dL_law_743 (by decide) ?_
  exact kk M2 hI
theorem l_told {g : pG} {meth : Method} {X : pX} {Qf : State → Prop} (C : pCx g (lawY meth) code 4 ret 11 600000 7302250 X) {L : Nat} {xs : Nat → Int32} (hX : pScr g X L xs) {M : pMem} (hV : IV M) {i : Nat} (hi : i + 6 ≤ L) (hL : L ≤ 3072) (kk : ∀ M2, IV M2 → pE g 4 X Qf SH M2 180 7722 18 [some (.inr (.inr 1000000)), some (.inr (.inr 0)), some (.inr (.inr 153)), some (.inl ((i : Int) + 6))] []) : pE g 4 X Qf SH M 180 7722 569 [some (.inr (.inr 1000000)), some (.inr (.inr 0)), some (.inr (.inr 153)), some (.inl (i : Int))] [] := by
  refine e_aload_n C dL_law_569 rfl ?_
  refine e_aload_n C dL_law_570 rfl ?_
  refine e_iload_n C dL_law_571 rfl ?_
  refine e_iconst C dL_law_572 ?_
  refine e_iadd C dL_law_573 ?_
  refine e_sload C hX dL_law_574 (i + 1) (by omega) (by omega) (Int32.ofInt_toInt _) ?_
  refine e_callV C (c_told (M := M) (p := (xs (i + 1)).toInt) (i32_r (xs (i + 1))) hV.1) mt_X5_told s_L_66 dL_law_575 5 sh_0 rfl (fun r1 M1 q1 => ?_)
  obtain ⟨u, rfl, jd, ag⟩ := a_told (p := (xs (i + 1)).toInt) (i32_r (xs (i + 1))) hV r1 M1 q1
  dsimp only [Option.toList_some, List.singleton_append]
  refine e_aload_n C dL_law_578 rfl ?_
  refine e_aload_n C dL_law_579 rfl ?_
  refine e_iload_n C dL_law_580 rfl ?_
  refine e_iconst C dL_law_581 ?_
  refine e_iadd C dL_law_582 ?_
  refine e_sload C hX dL_law_583 (i + 1) (by omega) (by omega) (Int32.ofInt_toInt _) ?_
  refine e_callV C (c_toldD (M := M1) (p := (xs (i + 1)).toInt) (i32_r (xs (i + 1))) jd) mt_X6_told s_L_69 dL_law_584 6 sh_153 rfl (fun r2 M2 q2 => ?_)
  obtain ⟨rfl, hu, hI⟩ := ag r2 M2 q2
  dsimp only [Option.toList_some, List.singleton_append]
  refine e_icmp_eq C (tgt := 740) dL_law_587 (by decide) hu hu (fun h_587 => ?_) (fun h_587 => by exact absurd rfl h_587)
  refine e_iinc C dL_law_740 rfl ?_
  refine e_goto C (tgt := 18) dL_law_743 (by decide) ?_
  exact kk M2 hI
theorem l_look {g : pG} {meth : Method} {X : pX} {Qf : State → Prop} (C : pCx g (lawY meth) code 4 ret 11 600000 7302250 X) {L : Nat} {xs : Nat → Int32} (hX : pScr g X L xs) {M : pMem} (hV : IV M) {i : Nat} (hi : i + 6 ≤ L) (hL : L ≤ 3072) (kk : ∀ M2, IV M2 → pE g 4 X Qf SH M2 180 7722 18 [some (.inr (.inr 1000000)), some (.inr (.inr 0)), some (.inr (.inr 153)), some (.inl ((i : Int) + 6))] []) : pE g 4 X Qf SH M 180 7722 592 [some (.inr (.inr 1000000)), some (.inr (.inr 0)), some (.inr (.inr 153)), some (.inl (i : Int))] [] := by
  refine e_aload_n C dL_law_592 rfl ?_
  refine e_callV C (c_look (M := M)   hV.1) mt_X5_look s_L_70 dL_law_593 5 sh_0 rfl (fun r1 M1 q1 => ?_)
  obtain ⟨u, rfl, jd, ag⟩ := a_look   hV r1 M1 q1
  dsimp only [Option.toList_some, List.singleton_append]
  refine e_aload_n C dL_law_596 rfl ?_
  refine e_callV C (c_lookD (M := M1)   jd) mt_X6_look s_L_73 dL_law_597 6 sh_153 rfl (fun r2 M2 q2 => ?_)
  obtain ⟨rfl, hu, hI⟩ := ag r2 M2 q2
  dsimp only [Option.toList_some, List.singleton_append]
  refine e_icmp_eq C (tgt := 740) dL_law_600 (by decide) hu hu (fun h_600 => ?_) (fun h_600 => by exact absurd rfl h_600)
  refine e_iinc C dL_law_740 rfl ?_
  refine e_goto C (tgt := 18) dL_law_743 (by decide) ?_
  exact kk M2 hI
theorem l_heaps {g : pG} {meth : Method} {X : pX} {Qf : State → Prop} (C : pCx g (lawY meth) code 4 ret 11 600000 7302250 X) {L : Nat} {xs : Nat → Int32} (hX : pScr g X L xs) {M : pMem} (hV : IV M) {i : Nat} (hi : i + 6 ≤ L) (hL : L ≤ 3072) (kk : ∀ M2, IV M2 → pE g 4 X Qf SH M2 180 7722 18 [some (.inr (.inr 1000000)), some (.inr (.inr 0)), some (.inr (.inr 153)), some (.inl ((i : Int) + 6))] []) : pE g 4 X Qf SH M 180 7722 605 [some (.inr (.inr 1000000)), some (.inr (.inr 0)), some (.inr (.inr 153)), some (.inl (i : Int))] [] := by
  refine e_aload_n C dL_law_605 rfl ?_
  refine e_callV C (c_heaps (M := M)   hV.1) mt_X5_heaps s_L_74 dL_law_606 5 sh_0 rfl (fun r1 M1 q1 => ?_)
  obtain ⟨u, rfl, jd, ag⟩ := a_heaps   hV r1 M1 q1
  dsimp only [Option.toList_some, List.singleton_append]
  refine e_aload_n C dL_law_609 rfl ?_
  refine e_callV C (c_heapsD (M := M1)   jd) mt_X6_heaps s_L_77 dL_law_610 6 sh_153 rfl (fun r2 M2 q2 => ?_)
  obtain ⟨rfl, hu, hI⟩ := ag r2 M2 q2
  dsimp only [Option.toList_some, List.singleton_append]
  refine e_icmp_eq C (tgt := 740) dL_law_613 (by decide) hu hu (fun h_613 => ?_) (fun h_613 => by exact absurd rfl h_613)
  refine e_iinc C dL_law_740 rfl ?_
  refine e_goto C (tgt := 18) dL_law_743 (by decide) ?_
  exact kk M2 hI
theorem l_heap {g : pG} {meth : Method} {X : pX} {Qf : State → Prop} (C : pCx g (lawY meth) code 4 ret 11 600000 7302250 X) {L : Nat} {xs : Nat → Int32} (hX : pScr g X L xs) {M : pMem} (hV : IV M) {i : Nat} (hi : i + 6 ≤ L) (hL : L ≤ 3072) (kk : ∀ M2, IV M2 → pE g 4 X Qf SH M2 180 7722 18 [some (.inr (.inr 1000000)), some (.inr (.inr 0)), some (.inr (.inr 153)), some (.inl ((i : Int) + 6))] []) : pE g 4 X Qf SH M 180 7722 618 [some (.inr (.inr 1000000)), some (.inr (.inr 0)), some (.inr (.inr 153)), some (.inl (i : Int))] [] := by
  refine e_aload_n C dL_law_618 rfl ?_
  refine e_aload_n C dL_law_619 rfl ?_
  refine e_iload_n C dL_law_620 rfl ?_
  refine e_iconst C dL_law_621 ?_
  refine e_iadd C dL_law_622 ?_
  refine e_sload C hX dL_law_623 (i + 1) (by omega) (by omega) (Int32.ofInt_toInt _) ?_
  refine e_callV C (c_heap (M := M) (p := (xs (i + 1)).toInt) (i32_r (xs (i + 1))) hV.1) mt_X5_heap s_L_78 dL_law_624 5 sh_0 rfl (fun r1 M1 q1 => ?_)
  obtain ⟨u, rfl, jd, ag⟩ := a_heap (p := (xs (i + 1)).toInt) (i32_r (xs (i + 1))) hV r1 M1 q1
  dsimp only [Option.toList_some, List.singleton_append]
  refine e_aload_n C dL_law_627 rfl ?_
  refine e_aload_n C dL_law_628 rfl ?_
  refine e_iload_n C dL_law_629 rfl ?_
  refine e_iconst C dL_law_630 ?_
  refine e_iadd C dL_law_631 ?_
  refine e_sload C hX dL_law_632 (i + 1) (by omega) (by omega) (Int32.ofInt_toInt _) ?_
  refine e_callV C (c_heapD (M := M1) (p := (xs (i + 1)).toInt) (i32_r (xs (i + 1))) jd) mt_X6_heap s_L_81 dL_law_633 6 sh_153 rfl (fun r2 M2 q2 => ?_)
  obtain ⟨rfl, hu, hI⟩ := ag r2 M2 q2
  dsimp only [Option.toList_some, List.singleton_append]
  refine e_icmp_eq C (tgt := 740) dL_law_636 (by decide) hu hu (fun h_636 => ?_) (fun h_636 => by exact absurd rfl h_636)
  refine e_iinc C dL_law_740 rfl ?_
  refine e_goto C (tgt := 18) dL_law_743 (by decide) ?_
  exact kk M2 hI
theorem l_versions {g : pG} {meth : Method} {X : pX} {Qf : State → Prop} (C : pCx g (lawY meth) code 4 ret 11 600000 7302250 X) {L : Nat} {xs : Nat → Int32} (hX : pScr g X L xs) {M : pMem} (hV : IV M) {i : Nat} (hi : i + 6 ≤ L) (hL : L ≤ 3072) (kk : ∀ M2, IV M2 → pE g 4 X Qf SH M2 180 7722 18 [some (.inr (.inr 1000000)), some (.inr (.inr 0)), some (.inr (.inr 153)), some (.inl ((i : Int) + 6))] []) : pE g 4 X Qf SH M 180 7722 641 [some (.inr (.inr 1000000)), some (.inr (.inr 0)), some (.inr (.inr 153)), some (.inl (i : Int))] [] := by
  refine e_aload_n C dL_law_641 rfl ?_
  refine e_aload_n C dL_law_642 rfl ?_
  refine e_iload_n C dL_law_643 rfl ?_
  refine e_iconst C dL_law_644 ?_
  refine e_iadd C dL_law_645 ?_
  refine e_sload C hX dL_law_646 (i + 1) (by omega) (by omega) (Int32.ofInt_toInt _) ?_
  refine e_aload_n C dL_law_647 rfl ?_
  refine e_iload_n C dL_law_648 rfl ?_
  refine e_iconst C dL_law_649 ?_
  refine e_iadd C dL_law_650 ?_
  refine e_sload C hX dL_law_651 (i + 2) (by omega) (by omega) (Int32.ofInt_toInt _) ?_
  refine e_aload_n C dL_law_652 rfl ?_
  refine e_iload_n C dL_law_653 rfl ?_
  refine e_iconst C dL_law_654 ?_
  refine e_iadd C dL_law_655 ?_
  refine e_sload C hX dL_law_656 (i + 3) (by omega) (by omega) (Int32.ofInt_toInt _) ?_
  refine e_callV C (c_versions (M := M) (a := (xs (i + 1)).toInt) (b := (xs (i + 2)).toInt) (w := (xs (i + 3)).toInt) (i32_r (xs (i + 1))) (i32_r (xs (i + 2))) (i32_r (xs (i + 3))) hV.1) mt_X5_versions s_L_82 dL_law_657 5 sh_0 rfl (fun r1 M1 q1 => ?_)
  obtain ⟨u, rfl, jd, ag⟩ := a_versions (a := (xs (i + 1)).toInt) (b := (xs (i + 2)).toInt) (w := (xs (i + 3)).toInt) (i32_r (xs (i + 1))) (i32_r (xs (i + 2))) (i32_r (xs (i + 3))) hV r1 M1 q1
  dsimp only [Option.toList_some, List.singleton_append]
  refine e_aload_n C dL_law_660 rfl ?_
  refine e_aload_n C dL_law_661 rfl ?_
  refine e_iload_n C dL_law_662 rfl ?_
  refine e_iconst C dL_law_663 ?_
  refine e_iadd C dL_law_664 ?_
  refine e_sload C hX dL_law_665 (i + 1) (by omega) (by omega) (Int32.ofInt_toInt _) ?_
  refine e_aload_n C dL_law_666 rfl ?_
  refine e_iload_n C dL_law_667 rfl ?_
  refine e_iconst C dL_law_668 ?_
  refine e_iadd C dL_law_669 ?_
  refine e_sload C hX dL_law_670 (i + 2) (by omega) (by omega) (Int32.ofInt_toInt _) ?_
  refine e_aload_n C dL_law_671 rfl ?_
  refine e_iload_n C dL_law_672 rfl ?_
  refine e_iconst C dL_law_673 ?_
  refine e_iadd C dL_law_674 ?_
  refine e_sload C hX dL_law_675 (i + 3) (by omega) (by omega) (Int32.ofInt_toInt _) ?_
  refine e_callV C (c_versionsD (M := M1) (a := (xs (i + 1)).toInt) (b := (xs (i + 2)).toInt) (w := (xs (i + 3)).toInt) (i32_r (xs (i + 1))) (i32_r (xs (i + 2))) (i32_r (xs (i + 3))) jd) mt_X6_versions s_L_85 dL_law_676 6 sh_153 rfl (fun r2 M2 q2 => ?_)
  obtain ⟨rfl, hu, hI⟩ := ag r2 M2 q2
  dsimp only [Option.toList_some, List.singleton_append]
  refine e_icmp_eq C (tgt := 740) dL_law_679 (by decide) hu hu (fun h_679 => ?_) (fun h_679 => by exact absurd rfl h_679)
  refine e_iinc C dL_law_740 rfl ?_
  refine e_goto C (tgt := 18) dL_law_743 (by decide) ?_
  exact kk M2 hI
theorem l_touch {g : pG} {meth : Method} {X : pX} {Qf : State → Prop} (C : pCx g (lawY meth) code 4 ret 11 600000 7302250 X) {L : Nat} {xs : Nat → Int32} (hX : pScr g X L xs) {M : pMem} (hV : IV M) {i : Nat} (hi : i + 6 ≤ L) (hL : L ≤ 3072) (kk : ∀ M2, IV M2 → pE g 4 X Qf SH M2 180 7722 18 [some (.inr (.inr 1000000)), some (.inr (.inr 0)), some (.inr (.inr 153)), some (.inl ((i : Int) + 6))] []) : pE g 4 X Qf SH M 180 7722 684 [some (.inr (.inr 1000000)), some (.inr (.inr 0)), some (.inr (.inr 153)), some (.inl (i : Int))] [] := by
  refine e_aload_n C dL_law_684 rfl ?_
  refine e_aload_n C dL_law_685 rfl ?_
  refine e_iload_n C dL_law_686 rfl ?_
  refine e_iconst C dL_law_687 ?_
  refine e_iadd C dL_law_688 ?_
  refine e_sload C hX dL_law_689 (i + 1) (by omega) (by omega) (Int32.ofInt_toInt _) ?_
  refine e_aload_n C dL_law_690 rfl ?_
  refine e_iload_n C dL_law_691 rfl ?_
  refine e_iconst C dL_law_692 ?_
  refine e_iadd C dL_law_693 ?_
  refine e_sload C hX dL_law_694 (i + 2) (by omega) (by omega) (Int32.ofInt_toInt _) ?_
  refine e_callV C (c_touch (M := M) (p := (xs (i + 1)).toInt) (k := (xs (i + 2)).toInt) (i32_r (xs (i + 1))) (i32_r (xs (i + 2))) hV.1) mt_X5_touch s_L_86 dL_law_695 5 sh_0 rfl (fun r1 M1 q1 => ?_)
  obtain ⟨u, rfl, jd, ag⟩ := a_touch (p := (xs (i + 1)).toInt) (k := (xs (i + 2)).toInt) (i32_r (xs (i + 1))) (i32_r (xs (i + 2))) hV r1 M1 q1
  dsimp only [Option.toList_some, List.singleton_append]
  refine e_aload_n C dL_law_698 rfl ?_
  refine e_aload_n C dL_law_699 rfl ?_
  refine e_iload_n C dL_law_700 rfl ?_
  refine e_iconst C dL_law_701 ?_
  refine e_iadd C dL_law_702 ?_
  refine e_sload C hX dL_law_703 (i + 1) (by omega) (by omega) (Int32.ofInt_toInt _) ?_
  refine e_aload_n C dL_law_704 rfl ?_
  refine e_iload_n C dL_law_705 rfl ?_
  refine e_iconst C dL_law_706 ?_
  refine e_iadd C dL_law_707 ?_
  refine e_sload C hX dL_law_708 (i + 2) (by omega) (by omega) (Int32.ofInt_toInt _) ?_
  refine e_callV C (c_touchD (M := M1) (p := (xs (i + 1)).toInt) (k := (xs (i + 2)).toInt) (i32_r (xs (i + 1))) (i32_r (xs (i + 2))) jd) mt_X6_touch s_L_89 dL_law_709 6 sh_153 rfl (fun r2 M2 q2 => ?_)
  obtain ⟨rfl, hu, hI⟩ := ag r2 M2 q2
  dsimp only [Option.toList_some, List.singleton_append]
  refine e_icmp_eq C (tgt := 740) dL_law_712 (by decide) hu hu (fun h_712 => ?_) (fun h_712 => by exact absurd rfl h_712)
  refine e_iinc C dL_law_740 rfl ?_
  refine e_goto C (tgt := 18) dL_law_743 (by decide) ?_
  exact kk M2 hI
theorem l_about {g : pG} {meth : Method} {X : pX} {Qf : State → Prop} (C : pCx g (lawY meth) code 4 ret 11 600000 7302250 X) {L : Nat} {xs : Nat → Int32} (hX : pScr g X L xs) {M : pMem} (hV : IV M) {i : Nat} (hi : i + 6 ≤ L) (hL : L ≤ 3072) (kk : ∀ M2, IV M2 → pE g 4 X Qf SH M2 180 7722 18 [some (.inr (.inr 1000000)), some (.inr (.inr 0)), some (.inr (.inr 153)), some (.inl ((i : Int) + 6))] []) : pE g 4 X Qf SH M 180 7722 717 [some (.inr (.inr 1000000)), some (.inr (.inr 0)), some (.inr (.inr 153)), some (.inl (i : Int))] [] := by
  refine e_aload_n C dL_law_717 rfl ?_
  refine e_aload_n C dL_law_718 rfl ?_
  refine e_iload_n C dL_law_719 rfl ?_
  refine e_iconst C dL_law_720 ?_
  refine e_iadd C dL_law_721 ?_
  refine e_sload C hX dL_law_722 (i + 1) (by omega) (by omega) (Int32.ofInt_toInt _) ?_
  refine e_callV C (c_about (M := M) (w := (xs (i + 1)).toInt) (i32_r (xs (i + 1))) hV.1) mt_X5_about s_L_90 dL_law_723 5 sh_0 rfl (fun r1 M1 q1 => ?_)
  obtain ⟨u, rfl, jd, ag⟩ := a_about (w := (xs (i + 1)).toInt) (i32_r (xs (i + 1))) hV r1 M1 q1
  dsimp only [Option.toList_some, List.singleton_append]
  refine e_aload_n C dL_law_726 rfl ?_
  refine e_aload_n C dL_law_727 rfl ?_
  refine e_iload_n C dL_law_728 rfl ?_
  refine e_iconst C dL_law_729 ?_
  refine e_iadd C dL_law_730 ?_
  refine e_sload C hX dL_law_731 (i + 1) (by omega) (by omega) (Int32.ofInt_toInt _) ?_
  refine e_callV C (c_aboutD (M := M1) (w := (xs (i + 1)).toInt) (i32_r (xs (i + 1))) jd) mt_X6_about s_L_93 dL_law_732 6 sh_153 rfl (fun r2 M2 q2 => ?_)
  obtain ⟨rfl, hu, hI⟩ := ag r2 M2 q2
  dsimp only [Option.toList_some, List.singleton_append]
  refine e_icmp_eq C (tgt := 740) dL_law_735 (by decide) hu hu (fun h_735 => ?_) (fun h_735 => by exact absurd rfl h_735)
  refine e_iinc C dL_law_740 rfl ?_
  refine e_goto C (tgt := 18) dL_law_743 (by decide) ?_
  exact kk M2 hI
