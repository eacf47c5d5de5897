theorem en_use {T : u_T} {ty : Nat → FieldType} {n k : Nat} {fs : List ed_f} {g : ed_g} (h1 : ∀ j, j < n → parseFieldDescriptor (T j).2.2.1 = some (ty j)) (h2 : ∀ j, j < n → (fs[j]?).any (en_ok (ty j)) = true) : ∀ (ty0 : Nat → FieldType), (∀ j, j < n → parseFieldDescriptor (T j).2.2.1 = some (ty0 j)) → ∀ j, j < n → defaultValue (ty0 j) = vp_V (fs.mapIdx (fun i f => ed_cv g (ed_fv (fun _ _ => 0) (fun _ _ => 0) k i f))) j := by
  intro ty0 h j hj
  have e : ty0 j = ty j := Option.some.inj ((h j hj).symm.trans (h1 j hj))
  rw [e]
  exact en_of h2 j hj
/-- a settling, at the class and at the reference -/
def SOK (g : ed_g) (l : Launch) (I : ed_I) (L : ed_L) : Prop := ∀ post : ed_post, (∀ k I1 L1, (0 ≤ k ∧ k ≤ 2) → (∀ post2 : ed_post, (∀ w I2 L2, Ok2 k I2 L2 ∧ Eq2 k L2 w → post2 (.inl (some (.long (lZ w)))) Yw I2 L2) → ed_Ct g l mM_settle 7 0 0 [.ref 79] Yw I1 L1 post2) → post (.inl (some (.int (iZ k)))) Yw I1 L1) → ed_Ct g l mL_settle 7 1 6 [.ref 0, .ref 112] Yw I L post
set_option maxRecDepth 100000 in
set_option maxHeartbeats 4000000 in
theorem w_testator {g : ed_g} {x : ed_x} {post : ed_post} {mc ms cells slots N : Nat} {I : ed_I} {L : ed_L} {rm : Room} {X : Int → Int} (C : Cx g x mL_law rm) (hX : Sc g x N X) (h : Rel I L) {i : Int} (hi : 0 ≤ i ∧ i + 5 ≤ (N : Int)) (hR : 14 ≤ rm.frames ∧ 500 ≤ rm.locals ∧ cells + 8 ≤ rm.cells ∧ slots + 48 ≤ rm.slots) (kk : ∀ I2 L2, Rel I2 L2 → Gd g x post mc ms mL_law.2.2.1 (cells + 8) (slots + 48) Yw I2 L2 1521 [(0, .retAddr 0), (1, .ref 0), (2, .ref 79), (3, .ref 112), (4, .int (iZ i))] []) : Gd g x post mc ms mL_law.2.2.1 cells slots Yw I L 140 [(0, .retAddr 0), (1, .ref 0), (2, .ref 79), (3, .ref 112), (4, .int (iZ i))] [] := by
  refine r_ald C dL_law_140 rfl ?_
  refine r_aldX C dL_law_141 rfl ?_
  refine r_ild C dL_law_142 rfl ?_
  refine r_ik C dL_law_144 ?_
  refine r_iadd C dL_law_145 ?_
  refine r_sld C dL_law_146 hX ⟨by omega, by omega⟩ ?_
  refine r_callS C lzL_testator dL_law_147 [_, _] [] rfl rfl (Nat.le_of_ble_eq_true rfl) ⟨Nat.le_trans (Nat.le_of_ble_eq_true rfl : 5 + 7 ≤ 14) hR.1, Nat.le_trans (Nat.le_of_ble_eq_true rfl : 8 + (mL_testator.2.2.1 + 11) + (40 * 5 + 84) ≤ 500) hR.2.1, by omega, by omega⟩ rfl (ld_testator C.2.2.2.2.2.1 h.hd (hX.rng _) (fun k I1 L1 h1 => ?_))
  refine r_ist C dL_law_150 (by decide) (ls' := [(0, _), (1, _), (2, _), (3, _), (4, _), (5, _)]) rfl ?_
  refine r_ald C dL_law_152 rfl ?_
  refine r_aldX C dL_law_153 rfl ?_
  refine r_ild C dL_law_154 rfl ?_
  refine r_ik C dL_law_156 ?_
  refine r_iadd C dL_law_157 ?_
  refine r_sld C dL_law_158 hX ⟨by omega, by omega⟩ ?_
  refine r_callV C lzM_testator dL_law_159 _ [_] [] rfl rfl rfl rfl rfl (Nat.le_of_ble_eq_true rfl) ⟨Nat.le_trans (Nat.le_of_ble_eq_true rfl : 3 + 7 ≤ 14) hR.1, Nat.le_trans (Nat.le_of_ble_eq_true rfl : 8 + (mM_testator.2.2.1 + 11) + (40 * 3 + 84) ≤ 500) hR.2.1, by omega, by omega⟩ rfl (md_testator C.2.2.2.2.2.1 (h.hm.of (lf_testator h1)) (hX.rng _) (fun I2 L2 h2 => ?_))
  obtain ⟨q1, q2, q3⟩ := xx_testator h h1 h2
  refine r_ald C dL_law_162 rfl ?_
  refine r_callV C lzM_thrown dL_law_163 _ [] [] rfl rfl rfl rfl rfl (Nat.le_of_ble_eq_true rfl) ⟨Nat.le_trans (Nat.le_of_ble_eq_true rfl : 0 + 7 ≤ 14) hR.1, Nat.le_trans (Nat.le_of_ble_eq_true rfl : 8 + (mM_thrown.2.2.1 + 11) + (40 * 0 + 84) ≤ 500) hR.2.1, by omega, by omega⟩ rfl (cM_thrown C.2.2.2.2.2.1 ?_)
  refine r_ild C dL_law_166 rfl ?_
  refine r_icmp_eq C dL_law_168 (by omega) (fun _ => ?_) (fun b9 => absurd q1 b9)
  refine r_goto C dL_law_173 ?_
  exact Gd.wide (by omega) (by omega) (Gd.drop (ls2 := [(5, _)]) (kk _ _ q3))
set_option maxRecDepth 100000 in
set_option maxHeartbeats 4000000 in
theorem w_person {g : ed_g} {x : ed_x} {post : ed_post} {mc ms cells slots N : Nat} {I : ed_I} {L : ed_L} {rm : Room} {X : Int → Int} (C : Cx g x mL_law rm) (hX : Sc g x N X) (h : Rel I L) {i : Int} (hi : 0 ≤ i ∧ i + 5 ≤ (N : Int)) (hR : 14 ≤ rm.frames ∧ 500 ≤ rm.locals ∧ cells + 8 ≤ rm.cells ∧ slots + 48 ≤ rm.slots) (kk : ∀ I2 L2, Rel I2 L2 → Gd g x post mc ms mL_law.2.2.1 (cells + 8) (slots + 48) Yw I2 L2 1521 [(0, .retAddr 0), (1, .ref 0), (2, .ref 79), (3, .ref 112), (4, .int (iZ i))] []) : Gd g x post mc ms mL_law.2.2.1 cells slots Yw I L 176 [(0, .retAddr 0), (1, .ref 0), (2, .ref 79), (3, .ref 112), (4, .int (iZ i))] [] := by
  refine r_ald C dL_law_176 rfl ?_
  refine r_aldX C dL_law_177 rfl ?_
  refine r_ild C dL_law_178 rfl ?_
  refine r_ik C dL_law_180 ?_
  refine r_iadd C dL_law_181 ?_
  refine r_sld C dL_law_182 hX ⟨by omega, by omega⟩ ?_
  refine r_aldX C dL_law_183 rfl ?_
  refine r_ild C dL_law_184 rfl ?_
  refine r_ik C dL_law_186 ?_
  refine r_iadd C dL_law_187 ?_
  refine r_sld C dL_law_188 hX ⟨by omega, by omega⟩ ?_
  refine r_callS C lzL_person dL_law_189 [_, _, _] [] rfl rfl (Nat.le_of_ble_eq_true rfl) ⟨Nat.le_trans (Nat.le_of_ble_eq_true rfl : 5 + 7 ≤ 14) hR.1, Nat.le_trans (Nat.le_of_ble_eq_true rfl : 8 + (mL_person.2.2.1 + 11) + (40 * 5 + 84) ≤ 500) hR.2.1, by omega, by omega⟩ rfl (ld_person C.2.2.2.2.2.1 h.hd (hX.rng _) (hX.rng _) (fun k I1 L1 h1 => ?_))
  refine r_ist C dL_law_192 (by decide) (ls' := [(0, _), (1, _), (2, _), (3, _), (4, _), (5, _)]) rfl ?_
  refine r_ald C dL_law_194 rfl ?_
  refine r_aldX C dL_law_195 rfl ?_
  refine r_ild C dL_law_196 rfl ?_
  refine r_ik C dL_law_198 ?_
  refine r_iadd C dL_law_199 ?_
  refine r_sld C dL_law_200 hX ⟨by omega, by omega⟩ ?_
  refine r_aldX C dL_law_201 rfl ?_
  refine r_ild C dL_law_202 rfl ?_
  refine r_ik C dL_law_204 ?_
  refine r_iadd C dL_law_205 ?_
  refine r_sld C dL_law_206 hX ⟨by omega, by omega⟩ ?_
  refine r_callV C lzM_person dL_law_207 _ [_, _] [] rfl rfl rfl rfl rfl (Nat.le_of_ble_eq_true rfl) ⟨Nat.le_trans (Nat.le_of_ble_eq_true rfl : 3 + 7 ≤ 14) hR.1, Nat.le_trans (Nat.le_of_ble_eq_true rfl : 8 + (mM_person.2.2.1 + 11) + (40 * 3 + 84) ≤ 500) hR.2.1, by omega, by omega⟩ rfl (md_person C.2.2.2.2.2.1 (h.hm.of (lf_person h1)) (hX.rng _) (hX.rng _) (fun I2 L2 h2 => ?_))
  obtain ⟨q1, q2, q3⟩ := xx_person h h1 h2
  refine r_ald C dL_law_210 rfl ?_
  refine r_callV C lzM_thrown dL_law_211 _ [] [] rfl rfl rfl rfl rfl (Nat.le_of_ble_eq_true rfl) ⟨Nat.le_trans (Nat.le_of_ble_eq_true rfl : 0 + 7 ≤ 14) hR.1, Nat.le_trans (Nat.le_of_ble_eq_true rfl : 8 + (mM_thrown.2.2.1 + 11) + (40 * 0 + 84) ≤ 500) hR.2.1, by omega, by omega⟩ rfl (cM_thrown C.2.2.2.2.2.1 ?_)
  refine r_ild C dL_law_214 rfl ?_
  refine r_icmp_eq C dL_law_216 (by omega) (fun _ => ?_) (fun b9 => absurd q1 b9)
  refine r_goto C dL_law_221 ?_
  exact Gd.wide (by omega) (by omega) (Gd.drop (ls2 := [(5, _)]) (kk _ _ q3))
set_option maxRecDepth 100000 in
set_option maxHeartbeats 4000000 in
theorem w_asset {g : ed_g} {x : ed_x} {post : ed_post} {mc ms cells slots N : Nat} {I : ed_I} {L : ed_L} {rm : Room} {X : Int → Int} (C : Cx g x mL_law rm) (hX : Sc g x N X) (h : Rel I L) {i : Int} (hi : 0 ≤ i ∧ i + 5 ≤ (N : Int)) (hR : 14 ≤ rm.frames ∧ 500 ≤ rm.locals ∧ cells + 8 ≤ rm.cells ∧ slots + 48 ≤ rm.slots) (kk : ∀ I2 L2, Rel I2 L2 → Gd g x post mc ms mL_law.2.2.1 (cells + 8) (slots + 48) Yw I2 L2 1521 [(0, .retAddr 0), (1, .ref 0), (2, .ref 79), (3, .ref 112), (4, .int (iZ i))] []) : Gd g x post mc ms mL_law.2.2.1 cells slots Yw I L 224 [(0, .retAddr 0), (1, .ref 0), (2, .ref 79), (3, .ref 112), (4, .int (iZ i))] [] := by
  refine r_ald C dL_law_224 rfl ?_
  refine r_aldX C dL_law_225 rfl ?_
  refine r_ild C dL_law_226 rfl ?_
  refine r_ik C dL_law_228 ?_
  refine r_iadd C dL_law_229 ?_
  refine r_sld C dL_law_230 hX ⟨by omega, by omega⟩ ?_
  refine r_aldX C dL_law_231 rfl ?_
  refine r_ild C dL_law_232 rfl ?_
  refine r_ik C dL_law_234 ?_
  refine r_iadd C dL_law_235 ?_
  refine r_sld C dL_law_236 hX ⟨by omega, by omega⟩ ?_
  refine r_i2l C dL_law_237 (hX.rng _) ?_
  refine r_ik C dL_law_238 ?_
  refine r_lshl C dL_law_240 ?_
  refine r_aldX C dL_law_241 rfl ?_
  refine r_ild C dL_law_242 rfl ?_
  refine r_ik C dL_law_244 ?_
  refine r_iadd C dL_law_245 ?_
  refine r_sld C dL_law_246 hX ⟨by omega, by omega⟩ ?_
  refine r_i2l C dL_law_247 (hX.rng _) ?_
  refine r_lk C dL_law_248 ?_
  refine r_land C dL_law_251 ?_
  refine r_lorJ C dL_law_252 ?_
  refine r_aldX C dL_law_253 rfl ?_
  refine r_ild C dL_law_254 rfl ?_
  refine r_ik C dL_law_256 ?_
  refine r_iadd C dL_law_257 ?_
  refine r_sld C dL_law_258 hX ⟨by omega, by omega⟩ ?_
  refine r_if_eq C dL_law_259 (hX.rng _) (fun b1 => ?_) (fun b1 => ?_)
  · refine r_ik C dL_law_266 ?_
    refine r_callS C lzL_asset dL_law_267 [_, _, _, _] [] rfl rfl (Nat.le_of_ble_eq_true rfl) ⟨Nat.le_trans (Nat.le_of_ble_eq_true rfl : 5 + 7 ≤ 14) hR.1, Nat.le_trans (Nat.le_of_ble_eq_true rfl : 8 + (mL_asset.2.2.1 + 11) + (40 * 5 + 84) ≤ 500) hR.2.1, by omega, by omega⟩ rfl (ld_asset C.2.2.2.2.2.1 h.hd (hX.rng _) (jl_rng _ _) (by omega) (fun k I1 L1 h1 => ?_))
    refine r_ist C dL_law_270 (by decide) (ls' := [(0, _), (1, _), (2, _), (3, _), (4, _), (5, _)]) rfl ?_
    refine r_ald C dL_law_272 rfl ?_
    refine r_aldX C dL_law_273 rfl ?_
    refine r_ild C dL_law_274 rfl ?_
    refine r_ik C dL_law_276 ?_
    refine r_iadd C dL_law_277 ?_
    refine r_sld C dL_law_278 hX ⟨by omega, by omega⟩ ?_
    refine r_aldX C dL_law_279 rfl ?_
    refine r_ild C dL_law_280 rfl ?_
    refine r_ik C dL_law_282 ?_
    refine r_iadd C dL_law_283 ?_
    refine r_sld C dL_law_284 hX ⟨by omega, by omega⟩ ?_
    refine r_i2l C dL_law_285 (hX.rng _) ?_
    refine r_ik C dL_law_286 ?_
    refine r_lshl C dL_law_288 ?_
    refine r_aldX C dL_law_289 rfl ?_
    refine r_ild C dL_law_290 rfl ?_
    refine r_ik C dL_law_292 ?_
    refine r_iadd C dL_law_293 ?_
    refine r_sld C dL_law_294 hX ⟨by omega, by omega⟩ ?_
    refine r_i2l C dL_law_295 (hX.rng _) ?_
    refine r_lk C dL_law_296 ?_
    refine r_land C dL_law_299 ?_
    refine r_lorJ C dL_law_300 ?_
    refine r_aldX C dL_law_301 rfl ?_
    refine r_ild C dL_law_302 rfl ?_
    refine r_ik C dL_law_304 ?_
    refine r_iadd C dL_law_305 ?_
    refine r_sld C dL_law_306 hX ⟨by omega, by omega⟩ ?_
    refine r_if_eq C dL_law_307 (hX.rng _) (fun _ => ?_) (fun b2 => absurd b1 b2)
    refine r_ik C dL_law_314 ?_
    refine r_callV C lzM_asset dL_law_315 _ [_, _, _] [] rfl rfl rfl rfl rfl (Nat.le_of_ble_eq_true rfl) ⟨Nat.le_trans (Nat.le_of_ble_eq_true rfl : 3 + 7 ≤ 14) hR.1, Nat.le_trans (Nat.le_of_ble_eq_true rfl : 8 + (mM_asset.2.2.1 + 11) + (40 * 3 + 84) ≤ 500) hR.2.1, by omega, by omega⟩ rfl (md_asset C.2.2.2.2.2.1 (h.hm.of (lf_asset h1)) (hX.rng _) (jl_rng _ _) (by omega) (fun I2 L2 h2 => ?_))
    obtain ⟨q1, q2, q3⟩ := xx_asset h (by omega) h1 h2
    refine r_ald C dL_law_318 rfl ?_
    refine r_callV C lzM_thrown dL_law_319 _ [] [] rfl rfl rfl rfl rfl (Nat.le_of_ble_eq_true rfl) ⟨Nat.le_trans (Nat.le_of_ble_eq_true rfl : 0 + 7 ≤ 14) hR.1, Nat.le_trans (Nat.le_of_ble_eq_true rfl : 8 + (mM_thrown.2.2.1 + 11) + (40 * 0 + 84) ≤ 500) hR.2.1, by omega, by omega⟩ rfl (cM_thrown C.2.2.2.2.2.1 ?_)
    refine r_ild C dL_law_322 rfl ?_
    refine r_icmp_eq C dL_law_324 (by omega) (fun _ => ?_) (fun b9 => absurd q1 b9)
    refine r_goto C dL_law_329 ?_
    exact Gd.wide (by omega) (by omega) (Gd.drop (ls2 := [(5, _)]) (kk _ _ q3))
  · refine r_ik C dL_law_262 ?_
    refine r_goto C dL_law_263 ?_
    refine r_callS C lzL_asset dL_law_267 [_, _, _, _] [] rfl rfl (Nat.le_of_ble_eq_true rfl) ⟨Nat.le_trans (Nat.le_of_ble_eq_true rfl : 5 + 7 ≤ 14) hR.1, Nat.le_trans (Nat.le_of_ble_eq_true rfl : 8 + (mL_asset.2.2.1 + 11) + (40 * 5 + 84) ≤ 500) hR.2.1, by omega, by omega⟩ rfl (ld_asset C.2.2.2.2.2.1 h.hd (hX.rng _) (jl_rng _ _) (by omega) (fun k I1 L1 h1 => ?_))
    refine r_ist C dL_law_270 (by decide) (ls' := [(0, _), (1, _), (2, _), (3, _), (4, _), (5, _)]) rfl ?_
    refine r_ald C dL_law_272 rfl ?_
    refine r_aldX C dL_law_273 rfl ?_
    refine r_ild C dL_law_274 rfl ?_
    refine r_ik C dL_law_276 ?_
    refine r_iadd C dL_law_277 ?_
    refine r_sld C dL_law_278 hX ⟨by omega, by omega⟩ ?_
    refine r_aldX C dL_law_279 rfl ?_
    refine r_ild C dL_law_280 rfl ?_
    refine r_ik C dL_law_282 ?_
    refine r_iadd C dL_law_283 ?_
    refine r_sld C dL_law_284 hX ⟨by omega, by omega⟩ ?_
    refine r_i2l C dL_law_285 (hX.rng _) ?_
    refine r_ik C dL_law_286 ?_
    refine r_lshl C dL_law_288 ?_
    refine r_aldX C dL_law_289 rfl ?_
    refine r_ild C dL_law_290 rfl ?_
    refine r_ik C dL_law_292 ?_
    refine r_iadd C dL_law_293 ?_
    refine r_sld C dL_law_294 hX ⟨by omega, by omega⟩ ?_
    refine r_i2l C dL_law_295 (hX.rng _) ?_
    refine r_lk C dL_law_296 ?_
    refine r_land C dL_law_299 ?_
    refine r_lorJ C dL_law_300 ?_
    refine r_aldX C dL_law_301 rfl ?_
    refine r_ild C dL_law_302 rfl ?_
    refine r_ik C dL_law_304 ?_
    refine r_iadd C dL_law_305 ?_
    refine r_sld C dL_law_306 hX ⟨by omega, by omega⟩ ?_
    refine r_if_eq C dL_law_307 (hX.rng _) (fun b2 => absurd b2 b1) (fun _ => ?_)
    refine r_ik C dL_law_310 ?_
    refine r_goto C dL_law_311 ?_
    refine r_callV C lzM_asset dL_law_315 _ [_, _, _] [] rfl rfl rfl rfl rfl (Nat.le_of_ble_eq_true rfl) ⟨Nat.le_trans (Nat.le_of_ble_eq_true rfl : 3 + 7 ≤ 14) hR.1, Nat.le_trans (Nat.le_of_ble_eq_true rfl : 8 + (mM_asset.2.2.1 + 11) + (40 * 3 + 84) ≤ 500) hR.2.1, by omega, by omega⟩ rfl (md_asset C.2.2.2.2.2.1 (h.hm.of (lf_asset h1)) (hX.rng _) (jl_rng _ _) (by omega) (fun I2 L2 h2 => ?_))
    obtain ⟨q1, q2, q3⟩ := xx_asset h (by omega) h1 h2
    refine r_ald C dL_law_318 rfl ?_
    refine r_callV C lzM_thrown dL_law_319 _ [] [] rfl rfl rfl rfl rfl (Nat.le_of_ble_eq_true rfl) ⟨Nat.le_trans (Nat.le_of_ble_eq_true rfl : 0 + 7 ≤ 14) hR.1, Nat.le_trans (Nat.le_of_ble_eq_true rfl : 8 + (mM_thrown.2.2.1 + 11) + (40 * 0 + 84) ≤ 500) hR.2.1, by omega, by omega⟩ rfl (cM_thrown C.2.2.2.2.2.1 ?_)
    refine r_ild C dL_law_322 rfl ?_
    refine r_icmp_eq C dL_law_324 (by omega) (fun _ => ?_) (fun b9 => absurd q1 b9)
    refine r_goto C dL_law_329 ?_
    exact Gd.wide (by omega) (by omega) (Gd.drop (ls2 := [(5, _)]) (kk _ _ q3))
set_option maxRecDepth 100000 in
set_option maxHeartbeats 4000000 in
theorem w_revalue {g : ed_g} {x : ed_x} {post : ed_post} {mc ms cells slots N : Nat} {I : ed_I} {L : ed_L} {rm : Room} {X : Int → Int} (C : Cx g x mL_law rm) (hX : Sc g x N X) (h : Rel I L) {i : Int} (hi : 0 ≤ i ∧ i + 5 ≤ (N : Int)) (hR : 14 ≤ rm.frames ∧ 500 ≤ rm.locals ∧ cells + 8 ≤ rm.cells ∧ slots + 48 ≤ rm.slots) (kk : ∀ I2 L2, Rel I2 L2 → Gd g x post mc ms mL_law.2.2.1 (cells + 8) (slots + 48) Yw I2 L2 1521 [(0, .retAddr 0), (1, .ref 0), (2, .ref 79), (3, .ref 112), (4, .int (iZ i))] []) : Gd g x post mc ms mL_law.2.2.1 cells slots Yw I L 332 [(0, .retAddr 0), (1, .ref 0), (2, .ref 79), (3, .ref 112), (4, .int (iZ i))] [] := by
  refine r_ald C dL_law_332 rfl ?_
  refine r_aldX C dL_law_333 rfl ?_
  refine r_ild C dL_law_334 rfl ?_
  refine r_ik C dL_law_336 ?_
  refine r_iadd C dL_law_337 ?_
  refine r_sld C dL_law_338 hX ⟨by omega, by omega⟩ ?_
  refine r_aldX C dL_law_339 rfl ?_
  refine r_ild C dL_law_340 rfl ?_
  refine r_ik C dL_law_342 ?_
  refine r_iadd C dL_law_343 ?_
  refine r_sld C dL_law_344 hX ⟨by omega, by omega⟩ ?_
  refine r_i2l C dL_law_345 (hX.rng _) ?_
  refine r_ik C dL_law_346 ?_
  refine r_lshl C dL_law_348 ?_
  refine r_aldX C dL_law_349 rfl ?_
  refine r_ild C dL_law_350 rfl ?_
  refine r_ik C dL_law_352 ?_
  refine r_iadd C dL_law_353 ?_
  refine r_sld C dL_law_354 hX ⟨by omega, by omega⟩ ?_
  refine r_i2l C dL_law_355 (hX.rng _) ?_
  refine r_lk C dL_law_356 ?_
  refine r_land C dL_law_359 ?_
  refine r_lorJ C dL_law_360 ?_
  refine r_ald C dL_law_361 rfl ?_
  refine r_callS C lzL_revalue dL_law_362 [_, _, _, _] [] rfl rfl (Nat.le_of_ble_eq_true rfl) ⟨Nat.le_trans (Nat.le_of_ble_eq_true rfl : 5 + 7 ≤ 14) hR.1, Nat.le_trans (Nat.le_of_ble_eq_true rfl : 8 + (mL_revalue.2.2.1 + 11) + (40 * 5 + 84) ≤ 500) hR.2.1, by omega, by omega⟩ rfl (ld_revalue C.2.2.2.2.2.1 h.hd (hX.rng _) (jl_rng _ _) (fun k I1 L1 h1 => ?_))
  refine r_ist C dL_law_365 (by decide) (ls' := [(0, _), (1, _), (2, _), (3, _), (4, _), (5, _)]) rfl ?_
  refine r_ald C dL_law_367 rfl ?_
  refine r_aldX C dL_law_368 rfl ?_
  refine r_ild C dL_law_369 rfl ?_
  refine r_ik C dL_law_371 ?_
  refine r_iadd C dL_law_372 ?_
  refine r_sld C dL_law_373 hX ⟨by omega, by omega⟩ ?_
  refine r_aldX C dL_law_374 rfl ?_
  refine r_ild C dL_law_375 rfl ?_
  refine r_ik C dL_law_377 ?_
  refine r_iadd C dL_law_378 ?_
  refine r_sld C dL_law_379 hX ⟨by omega, by omega⟩ ?_
  refine r_i2l C dL_law_380 (hX.rng _) ?_
  refine r_ik C dL_law_381 ?_
  refine r_lshl C dL_law_383 ?_
  refine r_aldX C dL_law_384 rfl ?_
  refine r_ild C dL_law_385 rfl ?_
  refine r_ik C dL_law_387 ?_
  refine r_iadd C dL_law_388 ?_
  refine r_sld C dL_law_389 hX ⟨by omega, by omega⟩ ?_
  refine r_i2l C dL_law_390 (hX.rng _) ?_
  refine r_lk C dL_law_391 ?_
  refine r_land C dL_law_394 ?_
  refine r_lorJ C dL_law_395 ?_
  refine r_callV C lzM_revalue dL_law_396 _ [_, _] [] rfl rfl rfl rfl rfl (Nat.le_of_ble_eq_true rfl) ⟨Nat.le_trans (Nat.le_of_ble_eq_true rfl : 3 + 7 ≤ 14) hR.1, Nat.le_trans (Nat.le_of_ble_eq_true rfl : 8 + (mM_revalue.2.2.1 + 11) + (40 * 3 + 84) ≤ 500) hR.2.1, by omega, by omega⟩ rfl (md_revalue C.2.2.2.2.2.1 (h.hm.of (lf_revalue h1)) (hX.rng _) (jl_rng _ _) (fun w9 I2 L2 h2 => ?_))
  obtain ⟨⟨q1, q2, q3⟩, q4⟩ := xx_revalue h h1 h2
  refine r_lst C dL_law_399 (by decide) (ls' := [(0, _), (1, _), (2, _), (3, _), (4, _), (5, _), (6, _)]) rfl ?_
  refine r_ald C dL_law_401 rfl ?_
  refine r_callV C lzM_thrown dL_law_402 _ [] [] rfl rfl rfl rfl rfl (Nat.le_of_ble_eq_true rfl) ⟨Nat.le_trans (Nat.le_of_ble_eq_true rfl : 0 + 7 ≤ 14) hR.1, Nat.le_trans (Nat.le_of_ble_eq_true rfl : 8 + (mM_thrown.2.2.1 + 11) + (40 * 0 + 84) ≤ 500) hR.2.1, by omega, by omega⟩ rfl (cM_thrown C.2.2.2.2.2.1 ?_)
  refine r_ild C dL_law_405 rfl ?_
  refine r_icmp_eq C dL_law_407 (by omega) (fun _ => ?_) (fun b9 => absurd q1 b9)
  refine r_ild C dL_law_412 rfl ?_
  refine r_if_ne C dL_law_414 (by omega) (fun b9 => ?_) (fun b9 => ?_)
  · refine r_goto C dL_law_428 ?_
    exact Gd.wide (by omega) (by omega) (Gd.drop (ls2 := [(5, _), (6, _)]) (kk _ _ q3))
  · have q5 := q4 b9
    refine r_ald C dL_law_417 rfl ?_
    refine r_ik C dL_law_418 ?_
    refine r_lald C dL_law_419 rfl ⟨by omega, by omega⟩ (by decide) ?_
    refine r_lld C dL_law_420 rfl ?_
    refine r_lc_eq C dL_law_422 dL_law_423 (by omega) (fun _ => ?_) (fun b9 => absurd q5.1 b9)
    refine r_goto C dL_law_428 ?_
    exact Gd.wide (by omega) (by omega) (Gd.drop (ls2 := [(5, _), (6, _)]) (kk _ _ q3))
set_option maxRecDepth 100000 in
set_option maxHeartbeats 4000000 in
theorem w_gone {g : ed_g} {x : ed_x} {post : ed_post} {mc ms cells slots N : Nat} {I : ed_I} {L : ed_L} {rm : Room} {X : Int → Int} (C : Cx g x mL_law rm) (hX : Sc g x N X) (h : Rel I L) {i : Int} (hi : 0 ≤ i ∧ i + 5 ≤ (N : Int)) (hR : 14 ≤ rm.frames ∧ 500 ≤ rm.locals ∧ cells + 8 ≤ rm.cells ∧ slots + 48 ≤ rm.slots) (kk : ∀ I2 L2, Rel I2 L2 → Gd g x post mc ms mL_law.2.2.1 (cells + 8) (slots + 48) Yw I2 L2 1521 [(0, .retAddr 0), (1, .ref 0), (2, .ref 79), (3, .ref 112), (4, .int (iZ i))] []) : Gd g x post mc ms mL_law.2.2.1 cells slots Yw I L 431 [(0, .retAddr 0), (1, .ref 0), (2, .ref 79), (3, .ref 112), (4, .int (iZ i))] [] := by
  refine r_ald C dL_law_431 rfl ?_
  refine r_aldX C dL_law_432 rfl ?_
  refine r_ild C dL_law_433 rfl ?_
  refine r_ik C dL_law_435 ?_
  refine r_iadd C dL_law_436 ?_
  refine r_sld C dL_law_437 hX ⟨by omega, by omega⟩ ?_
  refine r_callS C lzL_gone dL_law_438 [_, _] [] rfl rfl (Nat.le_of_ble_eq_true rfl) ⟨Nat.le_trans (Nat.le_of_ble_eq_true rfl : 5 + 7 ≤ 14) hR.1, Nat.le_trans (Nat.le_of_ble_eq_true rfl : 8 + (mL_gone.2.2.1 + 11) + (40 * 5 + 84) ≤ 500) hR.2.1, by omega, by omega⟩ rfl (ld_gone C.2.2.2.2.2.1 h.hd (hX.rng _) (fun k I1 L1 h1 => ?_))
  refine r_ist C dL_law_441 (by decide) (ls' := [(0, _), (1, _), (2, _), (3, _), (4, _), (5, _)]) rfl ?_
  refine r_ald C dL_law_443 rfl ?_
  refine r_aldX C dL_law_444 rfl ?_
  refine r_ild C dL_law_445 rfl ?_
  refine r_ik C dL_law_447 ?_
  refine r_iadd C dL_law_448 ?_
  refine r_sld C dL_law_449 hX ⟨by omega, by omega⟩ ?_
  refine r_callV C lzM_gone dL_law_450 _ [_] [] rfl rfl rfl rfl rfl (Nat.le_of_ble_eq_true rfl) ⟨Nat.le_trans (Nat.le_of_ble_eq_true rfl : 3 + 7 ≤ 14) hR.1, Nat.le_trans (Nat.le_of_ble_eq_true rfl : 8 + (mM_gone.2.2.1 + 11) + (40 * 3 + 84) ≤ 500) hR.2.1, by omega, by omega⟩ rfl (md_gone C.2.2.2.2.2.1 (h.hm.of (lf_gone h1)) (hX.rng _) (fun I2 L2 h2 => ?_))
  obtain ⟨q1, q2, q3⟩ := xx_gone h h1 h2
  refine r_ald C dL_law_453 rfl ?_
  refine r_callV C lzM_thrown dL_law_454 _ [] [] rfl rfl rfl rfl rfl (Nat.le_of_ble_eq_true rfl) ⟨Nat.le_trans (Nat.le_of_ble_eq_true rfl : 0 + 7 ≤ 14) hR.1, Nat.le_trans (Nat.le_of_ble_eq_true rfl : 8 + (mM_thrown.2.2.1 + 11) + (40 * 0 + 84) ≤ 500) hR.2.1, by omega, by omega⟩ rfl (cM_thrown C.2.2.2.2.2.1 ?_)
  refine r_ild C dL_law_457 rfl ?_
  refine r_icmp_eq C dL_law_459 (by omega) (fun _ => ?_) (fun b9 => absurd q1 b9)
  refine r_goto C dL_law_464 ?_
  exact Gd.wide (by omega) (by omega) (Gd.drop (ls2 := [(5, _)]) (kk _ _ q3))
set_option maxRecDepth 100000 in
set_option maxHeartbeats 4000000 in
theorem w_gift {g : ed_g} {x : ed_x} {post : ed_post} {mc ms cells slots N : Nat} {I : ed_I} {L : ed_L} {rm : Room} {X : Int → Int} (C : Cx g x mL_law rm) (hX : Sc g x N X) (h : Rel I L) {i : Int} (hi : 0 ≤ i ∧ i + 5 ≤ (N : Int)) (hR : 14 ≤ rm.frames ∧ 500 ≤ rm.locals ∧ cells + 8 ≤ rm.cells ∧ slots + 48 ≤ rm.slots) (kk : ∀ I2 L2, Rel I2 L2 → Gd g x post mc ms mL_law.2.2.1 (cells + 8) (slots + 48) Yw I2 L2 1521 [(0, .retAddr 0), (1, .ref 0), (2, .ref 79), (3, .ref 112), (4, .int (iZ i))] []) : Gd g x post mc ms mL_law.2.2.1 cells slots Yw I L 467 [(0, .retAddr 0), (1, .ref 0), (2, .ref 79), (3, .ref 112), (4, .int (iZ i))] [] := by
  refine r_ald C dL_law_467 rfl ?_
  refine r_aldX C dL_law_468 rfl ?_
  refine r_ild C dL_law_469 rfl ?_
  refine r_ik C dL_law_471 ?_
  refine r_iadd C dL_law_472 ?_
  refine r_sld C dL_law_473 hX ⟨by omega, by omega⟩ ?_
  refine r_aldX C dL_law_474 rfl ?_
  refine r_ild C dL_law_475 rfl ?_
  refine r_ik C dL_law_477 ?_
  refine r_iadd C dL_law_478 ?_
  refine r_sld C dL_law_479 hX ⟨by omega, by omega⟩ ?_
  refine r_callS C lzL_gift dL_law_480 [_, _, _] [] rfl rfl (Nat.le_of_ble_eq_true rfl) ⟨Nat.le_trans (Nat.le_of_ble_eq_true rfl : 5 + 7 ≤ 14) hR.1, Nat.le_trans (Nat.le_of_ble_eq_true rfl : 8 + (mL_gift.2.2.1 + 11) + (40 * 5 + 84) ≤ 500) hR.2.1, by omega, by omega⟩ rfl (ld_gift C.2.2.2.2.2.1 h.hd (hX.rng _) (hX.rng _) (fun k I1 L1 h1 => ?_))
  refine r_ist C dL_law_483 (by decide) (ls' := [(0, _), (1, _), (2, _), (3, _), (4, _), (5, _)]) rfl ?_
  refine r_ald C dL_law_485 rfl ?_
  refine r_aldX C dL_law_486 rfl ?_
  refine r_ild C dL_law_487 rfl ?_
  refine r_ik C dL_law_489 ?_
  refine r_iadd C dL_law_490 ?_
  refine r_sld C dL_law_491 hX ⟨by omega, by omega⟩ ?_
  refine r_aldX C dL_law_492 rfl ?_
  refine r_ild C dL_law_493 rfl ?_
  refine r_ik C dL_law_495 ?_
  refine r_iadd C dL_law_496 ?_
  refine r_sld C dL_law_497 hX ⟨by omega, by omega⟩ ?_
  refine r_callV C lzM_gift dL_law_498 _ [_, _] [] rfl rfl rfl rfl rfl (Nat.le_of_ble_eq_true rfl) ⟨Nat.le_trans (Nat.le_of_ble_eq_true rfl : 3 + 7 ≤ 14) hR.1, Nat.le_trans (Nat.le_of_ble_eq_true rfl : 8 + (mM_gift.2.2.1 + 11) + (40 * 3 + 84) ≤ 500) hR.2.1, by omega, by omega⟩ rfl (md_gift C.2.2.2.2.2.1 (h.hm.of (lf_gift h1)) (hX.rng _) (hX.rng _) (fun I2 L2 h2 => ?_))
  obtain ⟨q1, q2, q3⟩ := xx_gift h h1 h2
  refine r_ald C dL_law_501 rfl ?_
  refine r_callV C lzM_thrown dL_law_502 _ [] [] rfl rfl rfl rfl rfl (Nat.le_of_ble_eq_true rfl) ⟨Nat.le_trans (Nat.le_of_ble_eq_true rfl : 0 + 7 ≤ 14) hR.1, Nat.le_trans (Nat.le_of_ble_eq_true rfl : 8 + (mM_thrown.2.2.1 + 11) + (40 * 0 + 84) ≤ 500) hR.2.1, by omega, by omega⟩ rfl (cM_thrown C.2.2.2.2.2.1 ?_)
  refine r_ild C dL_law_505 rfl ?_
  refine r_icmp_eq C dL_law_507 (by omega) (fun _ => ?_) (fun b9 => absurd q1 b9)
  refine r_goto C dL_law_512 ?_
  exact Gd.wide (by omega) (by omega) (Gd.drop (ls2 := [(5, _)]) (kk _ _ q3))
set_option maxRecDepth 100000 in
set_option maxHeartbeats 4000000 in
theorem w_legacy {g : ed_g} {x : ed_x} {post : ed_post} {mc ms cells slots N : Nat} {I : ed_I} {L : ed_L} {rm : Room} {X : Int → Int} (C : Cx g x mL_law rm) (hX : Sc g x N X) (h : Rel I L) {i : Int} (hi : 0 ≤ i ∧ i + 5 ≤ (N : Int)) (hR : 14 ≤ rm.frames ∧ 500 ≤ rm.locals ∧ cells + 8 ≤ rm.cells ∧ slots + 48 ≤ rm.slots) (kk : ∀ I2 L2, Rel I2 L2 → Gd g x post mc ms mL_law.2.2.1 (cells + 8) (slots + 48) Yw I2 L2 1521 [(0, .retAddr 0), (1, .ref 0), (2, .ref 79), (3, .ref 112), (4, .int (iZ i))] []) : Gd g x post mc ms mL_law.2.2.1 cells slots Yw I L 515 [(0, .retAddr 0), (1, .ref 0), (2, .ref 79), (3, .ref 112), (4, .int (iZ i))] [] := by
  refine r_ald C dL_law_515 rfl ?_
  refine r_aldX C dL_law_516 rfl ?_
  refine r_ild C dL_law_517 rfl ?_
  refine r_ik C dL_law_519 ?_
  refine r_iadd C dL_law_520 ?_
  refine r_sld C dL_law_521 hX ⟨by omega, by omega⟩ ?_
  refine r_aldX C dL_law_522 rfl ?_
  refine r_ild C dL_law_523 rfl ?_
  refine r_ik C dL_law_525 ?_
  refine r_iadd C dL_law_526 ?_
  refine r_sld C dL_law_527 hX ⟨by omega, by omega⟩ ?_
  refine r_i2l C dL_law_528 (hX.rng _) ?_
  refine r_ik C dL_law_529 ?_
  refine r_lshl C dL_law_531 ?_
  refine r_aldX C dL_law_532 rfl ?_
  refine r_ild C dL_law_533 rfl ?_
  refine r_ik C dL_law_535 ?_
  refine r_iadd C dL_law_536 ?_
  refine r_sld C dL_law_537 hX ⟨by omega, by omega⟩ ?_
  refine r_i2l C dL_law_538 (hX.rng _) ?_
  refine r_lk C dL_law_539 ?_
  refine r_land C dL_law_542 ?_
  refine r_lorJ C dL_law_543 ?_
  refine r_aldX C dL_law_544 rfl ?_
  refine r_ild C dL_law_545 rfl ?_
  refine r_ik C dL_law_547 ?_
  refine r_iadd C dL_law_548 ?_
  refine r_sld C dL_law_549 hX ⟨by omega, by omega⟩ ?_
  refine r_callS C lzL_legacy dL_law_550 [_, _, _, _] [] rfl rfl (Nat.le_of_ble_eq_true rfl) ⟨Nat.le_trans (Nat.le_of_ble_eq_true rfl : 5 + 7 ≤ 14) hR.1, Nat.le_trans (Nat.le_of_ble_eq_true rfl : 8 + (mL_legacy.2.2.1 + 11) + (40 * 5 + 84) ≤ 500) hR.2.1, by omega, by omega⟩ rfl (ld_legacy C.2.2.2.2.2.1 h.hd (hX.rng _) (hX.rng _) (jl_rng _ _) (fun k I1 L1 h1 => ?_))
  refine r_ist C dL_law_553 (by decide) (ls' := [(0, _), (1, _), (2, _), (3, _), (4, _), (5, _)]) rfl ?_
  refine r_ald C dL_law_555 rfl ?_
  refine r_aldX C dL_law_556 rfl ?_
  refine r_ild C dL_law_557 rfl ?_
  refine r_ik C dL_law_559 ?_
  refine r_iadd C dL_law_560 ?_
  refine r_sld C dL_law_561 hX ⟨by omega, by omega⟩ ?_
  refine r_aldX C dL_law_562 rfl ?_
  refine r_ild C dL_law_563 rfl ?_
  refine r_ik C dL_law_565 ?_
  refine r_iadd C dL_law_566 ?_
  refine r_sld C dL_law_567 hX ⟨by omega, by omega⟩ ?_
  refine r_i2l C dL_law_568 (hX.rng _) ?_
  refine r_ik C dL_law_569 ?_
  refine r_lshl C dL_law_571 ?_
  refine r_aldX C dL_law_572 rfl ?_
  refine r_ild C dL_law_573 rfl ?_
  refine r_ik C dL_law_575 ?_
  refine r_iadd C dL_law_576 ?_
  refine r_sld C dL_law_577 hX ⟨by omega, by omega⟩ ?_
  refine r_i2l C dL_law_578 (hX.rng _) ?_
  refine r_lk C dL_law_579 ?_
  refine r_land C dL_law_582 ?_
  refine r_lorJ C dL_law_583 ?_
  refine r_aldX C dL_law_584 rfl ?_
  refine r_ild C dL_law_585 rfl ?_
  refine r_ik C dL_law_587 ?_
  refine r_iadd C dL_law_588 ?_
  refine r_sld C dL_law_589 hX ⟨by omega, by omega⟩ ?_
  refine r_callV C lzM_legacy dL_law_590 _ [_, _, _] [] rfl rfl rfl rfl rfl (Nat.le_of_ble_eq_true rfl) ⟨Nat.le_trans (Nat.le_of_ble_eq_true rfl : 3 + 7 ≤ 14) hR.1, Nat.le_trans (Nat.le_of_ble_eq_true rfl : 8 + (mM_legacy.2.2.1 + 11) + (40 * 3 + 84) ≤ 500) hR.2.1, by omega, by omega⟩ rfl (md_legacy C.2.2.2.2.2.1 (h.hm.of (lf_legacy h1)) (hX.rng _) (hX.rng _) (jl_rng _ _) (fun I2 L2 h2 => ?_))
  obtain ⟨q1, q2, q3⟩ := xx_legacy h h1 h2
  refine r_ald C dL_law_593 rfl ?_
  refine r_callV C lzM_thrown dL_law_594 _ [] [] rfl rfl rfl rfl rfl (Nat.le_of_ble_eq_true rfl) ⟨Nat.le_trans (Nat.le_of_ble_eq_true rfl : 0 + 7 ≤ 14) hR.1, Nat.le_trans (Nat.le_of_ble_eq_true rfl : 8 + (mM_thrown.2.2.1 + 11) + (40 * 0 + 84) ≤ 500) hR.2.1, by omega, by omega⟩ rfl (cM_thrown C.2.2.2.2.2.1 ?_)
  refine r_ild C dL_law_597 rfl ?_
  refine r_icmp_eq C dL_law_599 (by omega) (fun _ => ?_) (fun b9 => absurd q1 b9)
  refine r_goto C dL_law_604 ?_
  exact Gd.wide (by omega) (by omega) (Gd.drop (ls2 := [(5, _)]) (kk _ _ q3))
set_option maxRecDepth 100000 in
set_option maxHeartbeats 4000000 in
theorem w_annuity {g : ed_g} {x : ed_x} {post : ed_post} {mc ms cells slots N : Nat} {I : ed_I} {L : ed_L} {rm : Room} {X : Int → Int} (C : Cx g x mL_law rm) (hX : Sc g x N X) (h : Rel I L) {i : Int} (hi : 0 ≤ i ∧ i + 5 ≤ (N : Int)) (hR : 14 ≤ rm.frames ∧ 500 ≤ rm.locals ∧ cells + 8 ≤ rm.cells ∧ slots + 48 ≤ rm.slots) (kk : ∀ I2 L2, Rel I2 L2 → Gd g x post mc ms mL_law.2.2.1 (cells + 8) (slots + 48) Yw I2 L2 1521 [(0, .retAddr 0), (1, .ref 0), (2, .ref 79), (3, .ref 112), (4, .int (iZ i))] []) : Gd g x post mc ms mL_law.2.2.1 cells slots Yw I L 607 [(0, .retAddr 0), (1, .ref 0), (2, .ref 79), (3, .ref 112), (4, .int (iZ i))] [] := by
  refine r_ald C dL_law_607 rfl ?_
  refine r_aldX C dL_law_608 rfl ?_
  refine r_ild C dL_law_609 rfl ?_
  refine r_ik C dL_law_611 ?_
  refine r_iadd C dL_law_612 ?_
  refine r_sld C dL_law_613 hX ⟨by omega, by omega⟩ ?_
  refine r_aldX C dL_law_614 rfl ?_
  refine r_ild C dL_law_615 rfl ?_
  refine r_ik C dL_law_617 ?_
  refine r_iadd C dL_law_618 ?_
  refine r_sld C dL_law_619 hX ⟨by omega, by omega⟩ ?_
  refine r_i2l C dL_law_620 (hX.rng _) ?_
  refine r_ik C dL_law_621 ?_
  refine r_lshl C dL_law_623 ?_
  refine r_aldX C dL_law_624 rfl ?_
  refine r_ild C dL_law_625 rfl ?_
  refine r_ik C dL_law_627 ?_
  refine r_iadd C dL_law_628 ?_
  refine r_sld C dL_law_629 hX ⟨by omega, by omega⟩ ?_
  refine r_i2l C dL_law_630 (hX.rng _) ?_
  refine r_lk C dL_law_631 ?_
  refine r_land C dL_law_634 ?_
  refine r_lorJ C dL_law_635 ?_
  refine r_aldX C dL_law_636 rfl ?_
  refine r_ild C dL_law_637 rfl ?_
  refine r_ik C dL_law_639 ?_
  refine r_iadd C dL_law_640 ?_
  refine r_sld C dL_law_641 hX ⟨by omega, by omega⟩ ?_
  refine r_callS C lzL_annuity dL_law_642 [_, _, _, _] [] rfl rfl (Nat.le_of_ble_eq_true rfl) ⟨Nat.le_trans (Nat.le_of_ble_eq_true rfl : 5 + 7 ≤ 14) hR.1, Nat.le_trans (Nat.le_of_ble_eq_true rfl : 8 + (mL_annuity.2.2.1 + 11) + (40 * 5 + 84) ≤ 500) hR.2.1, by omega, by omega⟩ rfl (ld_annuity C.2.2.2.2.2.1 h.hd (hX.rng _) (hX.rng _) (jl_rng _ _) (fun k I1 L1 h1 => ?_))
  refine r_ist C dL_law_645 (by decide) (ls' := [(0, _), (1, _), (2, _), (3, _), (4, _), (5, _)]) rfl ?_
  refine r_ald C dL_law_647 rfl ?_
  refine r_aldX C dL_law_648 rfl ?_
  refine r_ild C dL_law_649 rfl ?_
  refine r_ik C dL_law_651 ?_
  refine r_iadd C dL_law_652 ?_
  refine r_sld C dL_law_653 hX ⟨by omega, by omega⟩ ?_
  refine r_aldX C dL_law_654 rfl ?_
  refine r_ild C dL_law_655 rfl ?_
  refine r_ik C dL_law_657 ?_
  refine r_iadd C dL_law_658 ?_
  refine r_sld C dL_law_659 hX ⟨by omega, by omega⟩ ?_
  refine r_i2l C dL_law_660 (hX.rng _) ?_
  refine r_ik C dL_law_661 ?_
  refine r_lshl C dL_law_663 ?_
  refine r_aldX C dL_law_664 rfl ?_
  refine r_ild C dL_law_665 rfl ?_
  refine r_ik C dL_law_667 ?_
  refine r_iadd C dL_law_668 ?_
  refine r_sld C dL_law_669 hX ⟨by omega, by omega⟩ ?_
  refine r_i2l C dL_law_670 (hX.rng _) ?_
  refine r_lk C dL_law_671 ?_
  refine r_land C dL_law_674 ?_
  refine r_lorJ C dL_law_675 ?_
  refine r_aldX C dL_law_676 rfl ?_
  refine r_ild C dL_law_677 rfl ?_
  refine r_ik C dL_law_679 ?_
  refine r_iadd C dL_law_680 ?_
  refine r_sld C dL_law_681 hX ⟨by omega, by omega⟩ ?_
  refine r_callV C lzM_annuity dL_law_682 _ [_, _, _] [] rfl rfl rfl rfl rfl (Nat.le_of_ble_eq_true rfl) ⟨Nat.le_trans (Nat.le_of_ble_eq_true rfl : 3 + 7 ≤ 14) hR.1, Nat.le_trans (Nat.le_of_ble_eq_true rfl : 8 + (mM_annuity.2.2.1 + 11) + (40 * 3 + 84) ≤ 500) hR.2.1, by omega, by omega⟩ rfl (md_annuity C.2.2.2.2.2.1 (h.hm.of (lf_annuity h1)) (hX.rng _) (hX.rng _) (jl_rng _ _) (fun I2 L2 h2 => ?_))
  obtain ⟨q1, q2, q3⟩ := xx_annuity h h1 h2
  refine r_ald C dL_law_685 rfl ?_
  refine r_callV C lzM_thrown dL_law_686 _ [] [] rfl rfl rfl rfl rfl (Nat.le_of_ble_eq_true rfl) ⟨Nat.le_trans (Nat.le_of_ble_eq_true rfl : 0 + 7 ≤ 14) hR.1, Nat.le_trans (Nat.le_of_ble_eq_true rfl : 8 + (mM_thrown.2.2.1 + 11) + (40 * 0 + 84) ≤ 500) hR.2.1, by omega, by omega⟩ rfl (cM_thrown C.2.2.2.2.2.1 ?_)
  refine r_ild C dL_law_689 rfl ?_
  refine r_icmp_eq C dL_law_691 (by omega) (fun _ => ?_) (fun b9 => absurd q1 b9)
  refine r_goto C dL_law_696 ?_
  exact Gd.wide (by omega) (by omega) (Gd.drop (ls2 := [(5, _)]) (kk _ _ q3))
set_option maxRecDepth 100000 in
set_option maxHeartbeats 4000000 in
theorem w_residue {g : ed_g} {x : ed_x} {post : ed_post} {mc ms cells slots N : Nat} {I : ed_I} {L : ed_L} {rm : Room} {X : Int → Int} (C : Cx g x mL_law rm) (hX : Sc g x N X) (h : Rel I L) {i : Int} (hi : 0 ≤ i ∧ i + 5 ≤ (N : Int)) (hR : 14 ≤ rm.frames ∧ 500 ≤ rm.locals ∧ cells + 8 ≤ rm.cells ∧ slots + 48 ≤ rm.slots) (kk : ∀ I2 L2, Rel I2 L2 → Gd g x post mc ms mL_law.2.2.1 (cells + 8) (slots + 48) Yw I2 L2 1521 [(0, .retAddr 0), (1, .ref 0), (2, .ref 79), (3, .ref 112), (4, .int (iZ i))] []) : Gd g x post mc ms mL_law.2.2.1 cells slots Yw I L 699 [(0, .retAddr 0), (1, .ref 0), (2, .ref 79), (3, .ref 112), (4, .int (iZ i))] [] := by
  refine r_ald C dL_law_699 rfl ?_
  refine r_aldX C dL_law_700 rfl ?_
  refine r_ild C dL_law_701 rfl ?_
  refine r_ik C dL_law_703 ?_
  refine r_iadd C dL_law_704 ?_
  refine r_sld C dL_law_705 hX ⟨by omega, by omega⟩ ?_
  refine r_aldX C dL_law_706 rfl ?_
  refine r_ild C dL_law_707 rfl ?_
  refine r_ik C dL_law_709 ?_
  refine r_iadd C dL_law_710 ?_
  refine r_sld C dL_law_711 hX ⟨by omega, by omega⟩ ?_
  refine r_callS C lzL_residue dL_law_712 [_, _, _] [] rfl rfl (Nat.le_of_ble_eq_true rfl) ⟨Nat.le_trans (Nat.le_of_ble_eq_true rfl : 5 + 7 ≤ 14) hR.1, Nat.le_trans (Nat.le_of_ble_eq_true rfl : 8 + (mL_residue.2.2.1 + 11) + (40 * 5 + 84) ≤ 500) hR.2.1, by omega, by omega⟩ rfl (ld_residue C.2.2.2.2.2.1 h.hd (hX.rng _) (hX.rng _) (fun k I1 L1 h1 => ?_))
  refine r_ist C dL_law_715 (by decide) (ls' := [(0, _), (1, _), (2, _), (3, _), (4, _), (5, _)]) rfl ?_
  refine r_ald C dL_law_717 rfl ?_
  refine r_aldX C dL_law_718 rfl ?_
  refine r_ild C dL_law_719 rfl ?_
  refine r_ik C dL_law_721 ?_
  refine r_iadd C dL_law_722 ?_
  refine r_sld C dL_law_723 hX ⟨by omega, by omega⟩ ?_
  refine r_aldX C dL_law_724 rfl ?_
  refine r_ild C dL_law_725 rfl ?_
  refine r_ik C dL_law_727 ?_
  refine r_iadd C dL_law_728 ?_
  refine r_sld C dL_law_729 hX ⟨by omega, by omega⟩ ?_
  refine r_callV C lzM_residue dL_law_730 _ [_, _] [] rfl rfl rfl rfl rfl (Nat.le_of_ble_eq_true rfl) ⟨Nat.le_trans (Nat.le_of_ble_eq_true rfl : 3 + 7 ≤ 14) hR.1, Nat.le_trans (Nat.le_of_ble_eq_true rfl : 8 + (mM_residue.2.2.1 + 11) + (40 * 3 + 84) ≤ 500) hR.2.1, by omega, by omega⟩ rfl (md_residue C.2.2.2.2.2.1 (h.hm.of (lf_residue h1)) (hX.rng _) (hX.rng _) (fun I2 L2 h2 => ?_))
  obtain ⟨q1, q2, q3⟩ := xx_residue h h1 h2
  refine r_ald C dL_law_733 rfl ?_
  refine r_callV C lzM_thrown dL_law_734 _ [] [] rfl rfl rfl rfl rfl (Nat.le_of_ble_eq_true rfl) ⟨Nat.le_trans (Nat.le_of_ble_eq_true rfl : 0 + 7 ≤ 14) hR.1, Nat.le_trans (Nat.le_of_ble_eq_true rfl : 8 + (mM_thrown.2.2.1 + 11) + (40 * 0 + 84) ≤ 500) hR.2.1, by omega, by omega⟩ rfl (cM_thrown C.2.2.2.2.2.1 ?_)
  refine r_ild C dL_law_737 rfl ?_
  refine r_icmp_eq C dL_law_739 (by omega) (fun _ => ?_) (fun b9 => absurd q1 b9)
  refine r_goto C dL_law_744 ?_
  exact Gd.wide (by omega) (by omega) (Gd.drop (ls2 := [(5, _)]) (kk _ _ q3))
set_option maxRecDepth 100000 in
set_option maxHeartbeats 4000000 in
theorem w_strike {g : ed_g} {x : ed_x} {post : ed_post} {mc ms cells slots N : Nat} {I : ed_I} {L : ed_L} {rm : Room} {X : Int → Int} (C : Cx g x mL_law rm) (hX : Sc g x N X) (h : Rel I L) {i : Int} (hi : 0 ≤ i ∧ i + 5 ≤ (N : Int)) (hR : 14 ≤ rm.frames ∧ 500 ≤ rm.locals ∧ cells + 8 ≤ rm.cells ∧ slots + 48 ≤ rm.slots) (kk : ∀ I2 L2, Rel I2 L2 → Gd g x post mc ms mL_law.2.2.1 (cells + 8) (slots + 48) Yw I2 L2 1521 [(0, .retAddr 0), (1, .ref 0), (2, .ref 79), (3, .ref 112), (4, .int (iZ i))] []) : Gd g x post mc ms mL_law.2.2.1 cells slots Yw I L 747 [(0, .retAddr 0), (1, .ref 0), (2, .ref 79), (3, .ref 112), (4, .int (iZ i))] [] := by
  refine r_ald C dL_law_747 rfl ?_
  refine r_aldX C dL_law_748 rfl ?_
  refine r_ild C dL_law_749 rfl ?_
  refine r_ik C dL_law_751 ?_
  refine r_iadd C dL_law_752 ?_
  refine r_sld C dL_law_753 hX ⟨by omega, by omega⟩ ?_
  refine r_callS C lzL_strike dL_law_754 [_, _] [] rfl rfl (Nat.le_of_ble_eq_true rfl) ⟨Nat.le_trans (Nat.le_of_ble_eq_true rfl : 5 + 7 ≤ 14) hR.1, Nat.le_trans (Nat.le_of_ble_eq_true rfl : 8 + (mL_strike.2.2.1 + 11) + (40 * 5 + 84) ≤ 500) hR.2.1, by omega, by omega⟩ rfl (ld_strike C.2.2.2.2.2.1 h.hd (hX.rng _) (fun k I1 L1 h1 => ?_))
  refine r_ist C dL_law_757 (by decide) (ls' := [(0, _), (1, _), (2, _), (3, _), (4, _), (5, _)]) rfl ?_
  refine r_ald C dL_law_759 rfl ?_
  refine r_aldX C dL_law_760 rfl ?_
  refine r_ild C dL_law_761 rfl ?_
  refine r_ik C dL_law_763 ?_
  refine r_iadd C dL_law_764 ?_
  refine r_sld C dL_law_765 hX ⟨by omega, by omega⟩ ?_
  refine r_callV C lzM_strike dL_law_766 _ [_] [] rfl rfl rfl rfl rfl (Nat.le_of_ble_eq_true rfl) ⟨Nat.le_trans (Nat.le_of_ble_eq_true rfl : 3 + 7 ≤ 14) hR.1, Nat.le_trans (Nat.le_of_ble_eq_true rfl : 8 + (mM_strike.2.2.1 + 11) + (40 * 3 + 84) ≤ 500) hR.2.1, by omega, by omega⟩ rfl (md_strike C.2.2.2.2.2.1 (h.hm.of (lf_strike h1)) (hX.rng _) (fun I2 L2 h2 => ?_))
  obtain ⟨q1, q2, q3⟩ := xx_strike h h1 h2
  refine r_ald C dL_law_769 rfl ?_
  refine r_callV C lzM_thrown dL_law_770 _ [] [] rfl rfl rfl rfl rfl (Nat.le_of_ble_eq_true rfl) ⟨Nat.le_trans (Nat.le_of_ble_eq_true rfl : 0 + 7 ≤ 14) hR.1, Nat.le_trans (Nat.le_of_ble_eq_true rfl : 8 + (mM_thrown.2.2.1 + 11) + (40 * 0 + 84) ≤ 500) hR.2.1, by omega, by omega⟩ rfl (cM_thrown C.2.2.2.2.2.1 ?_)
  refine r_ild C dL_law_773 rfl ?_
  refine r_icmp_eq C dL_law_775 (by omega) (fun _ => ?_) (fun b9 => absurd q1 b9)
  refine r_goto C dL_law_780 ?_
  exact Gd.wide (by omega) (by omega) (Gd.drop (ls2 := [(5, _)]) (kk _ _ q3))
set_option maxRecDepth 100000 in
set_option maxHeartbeats 4000000 in
theorem w_taker {g : ed_g} {x : ed_x} {post : ed_post} {mc ms cells slots N : Nat} {I : ed_I} {L : ed_L} {rm : Room} {X : Int → Int} (C : Cx g x mL_law rm) (hX : Sc g x N X) (h : Rel I L) {i : Int} (hi : 0 ≤ i ∧ i + 5 ≤ (N : Int)) (hR : 14 ≤ rm.frames ∧ 500 ≤ rm.locals ∧ cells + 8 ≤ rm.cells ∧ slots + 48 ≤ rm.slots) (kk : ∀ I2 L2, Rel I2 L2 → Gd g x post mc ms mL_law.2.2.1 (cells + 8) (slots + 48) Yw I2 L2 1521 [(0, .retAddr 0), (1, .ref 0), (2, .ref 79), (3, .ref 112), (4, .int (iZ i))] []) : Gd g x post mc ms mL_law.2.2.1 cells slots Yw I L 783 [(0, .retAddr 0), (1, .ref 0), (2, .ref 79), (3, .ref 112), (4, .int (iZ i))] [] := by
  refine r_ald C dL_law_783 rfl ?_
  refine r_aldX C dL_law_784 rfl ?_
  refine r_ild C dL_law_785 rfl ?_
  refine r_ik C dL_law_787 ?_
  refine r_iadd C dL_law_788 ?_
  refine r_sld C dL_law_789 hX ⟨by omega, by omega⟩ ?_
  refine r_aldX C dL_law_790 rfl ?_
  refine r_ild C dL_law_791 rfl ?_
  refine r_ik C dL_law_793 ?_
  refine r_iadd C dL_law_794 ?_
  refine r_sld C dL_law_795 hX ⟨by omega, by omega⟩ ?_
  refine r_aldX C dL_law_796 rfl ?_
  refine r_ild C dL_law_797 rfl ?_
  refine r_ik C dL_law_799 ?_
  refine r_iadd C dL_law_800 ?_
  refine r_sld C dL_law_801 hX ⟨by omega, by omega⟩ ?_
  refine r_callS C lzL_taker dL_law_802 [_, _, _, _] [] rfl rfl (Nat.le_of_ble_eq_true rfl) ⟨Nat.le_trans (Nat.le_of_ble_eq_true rfl : 5 + 7 ≤ 14) hR.1, Nat.le_trans (Nat.le_of_ble_eq_true rfl : 8 + (mL_taker.2.2.1 + 11) + (40 * 5 + 84) ≤ 500) hR.2.1, by omega, by omega⟩ rfl (ld_taker C.2.2.2.2.2.1 h.hd (hX.rng _) (hX.rng _) (hX.rng _) (fun k I1 L1 h1 => ?_))
  refine r_ist C dL_law_805 (by decide) (ls' := [(0, _), (1, _), (2, _), (3, _), (4, _), (5, _)]) rfl ?_
  refine r_ald C dL_law_807 rfl ?_
  refine r_aldX C dL_law_808 rfl ?_
  refine r_ild C dL_law_809 rfl ?_
  refine r_ik C dL_law_811 ?_
  refine r_iadd C dL_law_812 ?_
  refine r_sld C dL_law_813 hX ⟨by omega, by omega⟩ ?_
  refine r_aldX C dL_law_814 rfl ?_
  refine r_ild C dL_law_815 rfl ?_
  refine r_ik C dL_law_817 ?_
  refine r_iadd C dL_law_818 ?_
  refine r_sld C dL_law_819 hX ⟨by omega, by omega⟩ ?_
  refine r_aldX C dL_law_820 rfl ?_
  refine r_ild C dL_law_821 rfl ?_
  refine r_ik C dL_law_823 ?_
  refine r_iadd C dL_law_824 ?_
  refine r_sld C dL_law_825 hX ⟨by omega, by omega⟩ ?_
  refine r_callV C lzM_taker dL_law_826 _ [_, _, _] [] rfl rfl rfl rfl rfl (Nat.le_of_ble_eq_true rfl) ⟨Nat.le_trans (Nat.le_of_ble_eq_true rfl : 3 + 7 ≤ 14) hR.1, Nat.le_trans (Nat.le_of_ble_eq_true rfl : 8 + (mM_taker.2.2.1 + 11) + (40 * 3 + 84) ≤ 500) hR.2.1, by omega, by omega⟩ rfl (md_taker C.2.2.2.2.2.1 (h.hm.of (lf_taker h1)) (hX.rng _) (hX.rng _) (hX.rng _) (fun I2 L2 h2 => ?_))
  obtain ⟨q1, q2, q3⟩ := xx_taker h h1 h2
  refine r_ald C dL_law_829 rfl ?_
  refine r_callV C lzM_thrown dL_law_830 _ [] [] rfl rfl rfl rfl rfl (Nat.le_of_ble_eq_true rfl) ⟨Nat.le_trans (Nat.le_of_ble_eq_true rfl : 0 + 7 ≤ 14) hR.1, Nat.le_trans (Nat.le_of_ble_eq_true rfl : 8 + (mM_thrown.2.2.1 + 11) + (40 * 0 + 84) ≤ 500) hR.2.1, by omega, by omega⟩ rfl (cM_thrown C.2.2.2.2.2.1 ?_)
  refine r_ild C dL_law_833 rfl ?_
  refine r_icmp_eq C dL_law_835 (by omega) (fun _ => ?_) (fun b9 => absurd q1 b9)
  refine r_goto C dL_law_840 ?_
  exact Gd.wide (by omega) (by omega) (Gd.drop (ls2 := [(5, _)]) (kk _ _ q3))
set_option maxRecDepth 100000 in
set_option maxHeartbeats 4000000 in
theorem w_charge {g : ed_g} {x : ed_x} {post : ed_post} {mc ms cells slots N : Nat} {I : ed_I} {L : ed_L} {rm : Room} {X : Int → Int} (C : Cx g x mL_law rm) (hX : Sc g x N X) (h : Rel I L) {i : Int} (hi : 0 ≤ i ∧ i + 5 ≤ (N : Int)) (hR : 14 ≤ rm.frames ∧ 500 ≤ rm.locals ∧ cells + 8 ≤ rm.cells ∧ slots + 48 ≤ rm.slots) (kk : ∀ I2 L2, Rel I2 L2 → Gd g x post mc ms mL_law.2.2.1 (cells + 8) (slots + 48) Yw I2 L2 1521 [(0, .retAddr 0), (1, .ref 0), (2, .ref 79), (3, .ref 112), (4, .int (iZ i))] []) : Gd g x post mc ms mL_law.2.2.1 cells slots Yw I L 843 [(0, .retAddr 0), (1, .ref 0), (2, .ref 79), (3, .ref 112), (4, .int (iZ i))] [] := by
  refine r_ald C dL_law_843 rfl ?_
  refine r_aldX C dL_law_844 rfl ?_
  refine r_ild C dL_law_845 rfl ?_
  refine r_ik C dL_law_847 ?_
  refine r_iadd C dL_law_848 ?_
  refine r_sld C dL_law_849 hX ⟨by omega, by omega⟩ ?_
  refine r_aldX C dL_law_850 rfl ?_
  refine r_ild C dL_law_851 rfl ?_
  refine r_ik C dL_law_853 ?_
  refine r_iadd C dL_law_854 ?_
  refine r_sld C dL_law_855 hX ⟨by omega, by omega⟩ ?_
  refine r_if_eq C dL_law_856 (hX.rng _) (fun b1 => ?_) (fun b1 => ?_)
  · refine r_ik C dL_law_863 ?_
    refine r_callS C lzL_charge dL_law_864 [_, _, _] [] rfl rfl (Nat.le_of_ble_eq_true rfl) ⟨Nat.le_trans (Nat.le_of_ble_eq_true rfl : 5 + 7 ≤ 14) hR.1, Nat.le_trans (Nat.le_of_ble_eq_true rfl : 8 + (mL_charge.2.2.1 + 11) + (40 * 5 + 84) ≤ 500) hR.2.1, by omega, by omega⟩ rfl (ld_charge C.2.2.2.2.2.1 h.hd (hX.rng _) (by omega) (fun k I1 L1 h1 => ?_))
    refine r_ist C dL_law_867 (by decide) (ls' := [(0, _), (1, _), (2, _), (3, _), (4, _), (5, _)]) rfl ?_
    refine r_ald C dL_law_869 rfl ?_
    refine r_aldX C dL_law_870 rfl ?_
    refine r_ild C dL_law_871 rfl ?_
    refine r_ik C dL_law_873 ?_
    refine r_iadd C dL_law_874 ?_
    refine r_sld C dL_law_875 hX ⟨by omega, by omega⟩ ?_
    refine r_aldX C dL_law_876 rfl ?_
    refine r_ild C dL_law_877 rfl ?_
    refine r_ik C dL_law_879 ?_
    refine r_iadd C dL_law_880 ?_
    refine r_sld C dL_law_881 hX ⟨by omega, by omega⟩ ?_
    refine r_if_eq C dL_law_882 (hX.rng _) (fun _ => ?_) (fun b2 => absurd b1 b2)
    refine r_ik C dL_law_889 ?_
    refine r_callV C lzM_charge dL_law_890 _ [_, _] [] rfl rfl rfl rfl rfl (Nat.le_of_ble_eq_true rfl) ⟨Nat.le_trans (Nat.le_of_ble_eq_true rfl : 3 + 7 ≤ 14) hR.1, Nat.le_trans (Nat.le_of_ble_eq_true rfl : 8 + (mM_charge.2.2.1 + 11) + (40 * 3 + 84) ≤ 500) hR.2.1, by omega, by omega⟩ rfl (md_charge C.2.2.2.2.2.1 (h.hm.of (lf_charge h1)) (hX.rng _) (by omega) (fun I2 L2 h2 => ?_))
    obtain ⟨q1, q2, q3⟩ := xx_charge h (by omega) h1 h2
    refine r_ald C dL_law_893 rfl ?_
    refine r_callV C lzM_thrown dL_law_894 _ [] [] rfl rfl rfl rfl rfl (Nat.le_of_ble_eq_true rfl) ⟨Nat.le_trans (Nat.le_of_ble_eq_true rfl : 0 + 7 ≤ 14) hR.1, Nat.le_trans (Nat.le_of_ble_eq_true rfl : 8 + (mM_thrown.2.2.1 + 11) + (40 * 0 + 84) ≤ 500) hR.2.1, by omega, by omega⟩ rfl (cM_thrown C.2.2.2.2.2.1 ?_)
    refine r_ild C dL_law_897 rfl ?_
    refine r_icmp_eq C dL_law_899 (by omega) (fun _ => ?_) (fun b9 => absurd q1 b9)
    refine r_goto C dL_law_904 ?_
    exact Gd.wide (by omega) (by omega) (Gd.drop (ls2 := [(5, _)]) (kk _ _ q3))
  · refine r_ik C dL_law_859 ?_
    refine r_goto C dL_law_860 ?_
    refine r_callS C lzL_charge dL_law_864 [_, _, _] [] rfl rfl (Nat.le_of_ble_eq_true rfl) ⟨Nat.le_trans (Nat.le_of_ble_eq_true rfl : 5 + 7 ≤ 14) hR.1, Nat.le_trans (Nat.le_of_ble_eq_true rfl : 8 + (mL_charge.2.2.1 + 11) + (40 * 5 + 84) ≤ 500) hR.2.1, by omega, by omega⟩ rfl (ld_charge C.2.2.2.2.2.1 h.hd (hX.rng _) (by omega) (fun k I1 L1 h1 => ?_))
    refine r_ist C dL_law_867 (by decide) (ls' := [(0, _), (1, _), (2, _), (3, _), (4, _), (5, _)]) rfl ?_
    refine r_ald C dL_law_869 rfl ?_
    refine r_aldX C dL_law_870 rfl ?_
    refine r_ild C dL_law_871 rfl ?_
    refine r_ik C dL_law_873 ?_
    refine r_iadd C dL_law_874 ?_
    refine r_sld C dL_law_875 hX ⟨by omega, by omega⟩ ?_
    refine r_aldX C dL_law_876 rfl ?_
    refine r_ild C dL_law_877 rfl ?_
    refine r_ik C dL_law_879 ?_
    refine r_iadd C dL_law_880 ?_
    refine r_sld C dL_law_881 hX ⟨by omega, by omega⟩ ?_
    refine r_if_eq C dL_law_882 (hX.rng _) (fun b2 => absurd b2 b1) (fun _ => ?_)
    refine r_ik C dL_law_885 ?_
    refine r_goto C dL_law_886 ?_
    refine r_callV C lzM_charge dL_law_890 _ [_, _] [] rfl rfl rfl rfl rfl (Nat.le_of_ble_eq_true rfl) ⟨Nat.le_trans (Nat.le_of_ble_eq_true rfl : 3 + 7 ≤ 14) hR.1, Nat.le_trans (Nat.le_of_ble_eq_true rfl : 8 + (mM_charge.2.2.1 + 11) + (40 * 3 + 84) ≤ 500) hR.2.1, by omega, by omega⟩ rfl (md_charge C.2.2.2.2.2.1 (h.hm.of (lf_charge h1)) (hX.rng _) (by omega) (fun I2 L2 h2 => ?_))
    obtain ⟨q1, q2, q3⟩ := xx_charge h (by omega) h1 h2
    refine r_ald C dL_law_893 rfl ?_
    refine r_callV C lzM_thrown dL_law_894 _ [] [] rfl rfl rfl rfl rfl (Nat.le_of_ble_eq_true rfl) ⟨Nat.le_trans (Nat.le_of_ble_eq_true rfl : 0 + 7 ≤ 14) hR.1, Nat.le_trans (Nat.le_of_ble_eq_true rfl : 8 + (mM_thrown.2.2.1 + 11) + (40 * 0 + 84) ≤ 500) hR.2.1, by omega, by omega⟩ rfl (cM_thrown C.2.2.2.2.2.1 ?_)
    refine r_ild C dL_law_897 rfl ?_
    refine r_icmp_eq C dL_law_899 (by omega) (fun _ => ?_) (fun b9 => absurd q1 b9)
    refine r_goto C dL_law_904 ?_
    exact Gd.wide (by omega) (by omega) (Gd.drop (ls2 := [(5, _)]) (kk _ _ q3))
set_option maxRecDepth 100000 in
set_option maxHeartbeats 4000000 in
theorem w_debt {g : ed_g} {x : ed_x} {post : ed_post} {mc ms cells slots N : Nat} {I : ed_I} {L : ed_L} {rm : Room} {X : Int → Int} (C : Cx g x mL_law rm) (hX : Sc g x N X) (h : Rel I L) {i : Int} (hi : 0 ≤ i ∧ i + 5 ≤ (N : Int)) (hR : 14 ≤ rm.frames ∧ 500 ≤ rm.locals ∧ cells + 8 ≤ rm.cells ∧ slots + 48 ≤ rm.slots) (kk : ∀ I2 L2, Rel I2 L2 → Gd g x post mc ms mL_law.2.2.1 (cells + 8) (slots + 48) Yw I2 L2 1521 [(0, .retAddr 0), (1, .ref 0), (2, .ref 79), (3, .ref 112), (4, .int (iZ i))] []) : Gd g x post mc ms mL_law.2.2.1 cells slots Yw I L 907 [(0, .retAddr 0), (1, .ref 0), (2, .ref 79), (3, .ref 112), (4, .int (iZ i))] [] := by
  refine r_ald C dL_law_907 rfl ?_
  refine r_aldX C dL_law_908 rfl ?_
  refine r_ild C dL_law_909 rfl ?_
  refine r_ik C dL_law_911 ?_
  refine r_iadd C dL_law_912 ?_
  refine r_sld C dL_law_913 hX ⟨by omega, by omega⟩ ?_
  refine r_aldX C dL_law_914 rfl ?_
  refine r_ild C dL_law_915 rfl ?_
  refine r_ik C dL_law_917 ?_
  refine r_iadd C dL_law_918 ?_
  refine r_sld C dL_law_919 hX ⟨by omega, by omega⟩ ?_
  refine r_i2l C dL_law_920 (hX.rng _) ?_
  refine r_ik C dL_law_921 ?_
  refine r_lshl C dL_law_923 ?_
  refine r_aldX C dL_law_924 rfl ?_
  refine r_ild C dL_law_925 rfl ?_
  refine r_ik C dL_law_927 ?_
  refine r_iadd C dL_law_928 ?_
  refine r_sld C dL_law_929 hX ⟨by omega, by omega⟩ ?_
  refine r_i2l C dL_law_930 (hX.rng _) ?_
  refine r_lk C dL_law_931 ?_
  refine r_land C dL_law_934 ?_
  refine r_lorJ C dL_law_935 ?_
  refine r_aldX C dL_law_936 rfl ?_
  refine r_ild C dL_law_937 rfl ?_
  refine r_ik C dL_law_939 ?_
  refine r_iadd C dL_law_940 ?_
  refine r_sld C dL_law_941 hX ⟨by omega, by omega⟩ ?_
  refine r_callS C lzL_debt dL_law_942 [_, _, _, _] [] rfl rfl (Nat.le_of_ble_eq_true rfl) ⟨Nat.le_trans (Nat.le_of_ble_eq_true rfl : 5 + 7 ≤ 14) hR.1, Nat.le_trans (Nat.le_of_ble_eq_true rfl : 8 + (mL_debt.2.2.1 + 11) + (40 * 5 + 84) ≤ 500) hR.2.1, by omega, by omega⟩ rfl (ld_debt C.2.2.2.2.2.1 h.hd (hX.rng _) (hX.rng _) (jl_rng _ _) (fun k I1 L1 h1 => ?_))
  refine r_ist C dL_law_945 (by decide) (ls' := [(0, _), (1, _), (2, _), (3, _), (4, _), (5, _)]) rfl ?_
  refine r_ald C dL_law_947 rfl ?_
  refine r_aldX C dL_law_948 rfl ?_
  refine r_ild C dL_law_949 rfl ?_
  refine r_ik C dL_law_951 ?_
  refine r_iadd C dL_law_952 ?_
  refine r_sld C dL_law_953 hX ⟨by omega, by omega⟩ ?_
  refine r_aldX C dL_law_954 rfl ?_
  refine r_ild C dL_law_955 rfl ?_
  refine r_ik C dL_law_957 ?_
  refine r_iadd C dL_law_958 ?_
  refine r_sld C dL_law_959 hX ⟨by omega, by omega⟩ ?_
  refine r_i2l C dL_law_960 (hX.rng _) ?_
  refine r_ik C dL_law_961 ?_
  refine r_lshl C dL_law_963 ?_
  refine r_aldX C dL_law_964 rfl ?_
  refine r_ild C dL_law_965 rfl ?_
  refine r_ik C dL_law_967 ?_
  refine r_iadd C dL_law_968 ?_
  refine r_sld C dL_law_969 hX ⟨by omega, by omega⟩ ?_
  refine r_i2l C dL_law_970 (hX.rng _) ?_
  refine r_lk C dL_law_971 ?_
  refine r_land C dL_law_974 ?_
  refine r_lorJ C dL_law_975 ?_
  refine r_aldX C dL_law_976 rfl ?_
  refine r_ild C dL_law_977 rfl ?_
  refine r_ik C dL_law_979 ?_
  refine r_iadd C dL_law_980 ?_
  refine r_sld C dL_law_981 hX ⟨by omega, by omega⟩ ?_
  refine r_callV C lzM_debt dL_law_982 _ [_, _, _] [] rfl rfl rfl rfl rfl (Nat.le_of_ble_eq_true rfl) ⟨Nat.le_trans (Nat.le_of_ble_eq_true rfl : 3 + 7 ≤ 14) hR.1, Nat.le_trans (Nat.le_of_ble_eq_true rfl : 8 + (mM_debt.2.2.1 + 11) + (40 * 3 + 84) ≤ 500) hR.2.1, by omega, by omega⟩ rfl (md_debt C.2.2.2.2.2.1 (h.hm.of (lf_debt h1)) (hX.rng _) (hX.rng _) (jl_rng _ _) (fun I2 L2 h2 => ?_))
  obtain ⟨q1, q2, q3⟩ := xx_debt h h1 h2
  refine r_ald C dL_law_985 rfl ?_
  refine r_callV C lzM_thrown dL_law_986 _ [] [] rfl rfl rfl rfl rfl (Nat.le_of_ble_eq_true rfl) ⟨Nat.le_trans (Nat.le_of_ble_eq_true rfl : 0 + 7 ≤ 14) hR.1, Nat.le_trans (Nat.le_of_ble_eq_true rfl : 8 + (mM_thrown.2.2.1 + 11) + (40 * 0 + 84) ≤ 500) hR.2.1, by omega, by omega⟩ rfl (cM_thrown C.2.2.2.2.2.1 ?_)
  refine r_ild C dL_law_989 rfl ?_
  refine r_icmp_eq C dL_law_991 (by omega) (fun _ => ?_) (fun b9 => absurd q1 b9)
  refine r_goto C dL_law_996 ?_
  exact Gd.wide (by omega) (by omega) (Gd.drop (ls2 := [(5, _)]) (kk _ _ q3))
set_option maxRecDepth 100000 in
set_option maxHeartbeats 4000000 in
theorem w_settle {g : ed_g} {x : ed_x} {post : ed_post} {mc ms cells slots N : Nat} {I : ed_I} {L : ed_L} {rm : Room} {X : Int → Int} (C : Cx g x mL_law rm) (hX : Sc g x N X) (h : Rel I L) (hset : SOK g x.2.1 I L) {i : Int} (hi : 0 ≤ i ∧ i + 5 ≤ (N : Int)) (hR : 14 ≤ rm.frames ∧ 500 ≤ rm.locals ∧ cells + 8 ≤ rm.cells ∧ slots + 48 ≤ rm.slots) (kk : ∀ I2 L2, Rel I2 L2 → Gd g x post mc ms mL_law.2.2.1 (cells + 8) (slots + 48) Yw I2 L2 1521 [(0, .retAddr 0), (1, .ref 0), (2, .ref 79), (3, .ref 112), (4, .int (iZ i))] []) : Gd g x post mc ms mL_law.2.2.1 cells slots Yw I L 999 [(0, .retAddr 0), (1, .ref 0), (2, .ref 79), (3, .ref 112), (4, .int (iZ i))] [] := by
  refine r_ald C dL_law_999 rfl ?_
  refine r_ald C dL_law_1000 rfl ?_
  refine r_callS C lzL_settle dL_law_1001 [_, _] [] rfl rfl (Nat.le_of_ble_eq_true rfl) ⟨Nat.le_trans (Nat.le_of_ble_eq_true rfl : 7 + 7 ≤ 14) hR.1, Nat.le_trans (Nat.le_of_ble_eq_true rfl : 8 + (mL_settle.2.2.1 + 11) + (40 * 7 + 84) ≤ 500) hR.2.1, by omega, by omega⟩ rfl (hset _ (fun k I1 L1 k01 h1 => ?_))
  refine r_ist C dL_law_1004 (by decide) (ls' := [(0, _), (1, _), (2, _), (3, _), (4, _), (5, _)]) rfl ?_
  refine r_ald C dL_law_1006 rfl ?_
  refine r_callV C lzM_settle dL_law_1007 _ [] [] rfl rfl rfl rfl rfl (Nat.le_of_ble_eq_true rfl) ⟨Nat.le_trans (Nat.le_of_ble_eq_true rfl : 7 + 7 ≤ 14) hR.1, Nat.le_trans (Nat.le_of_ble_eq_true rfl : 8 + (mM_settle.2.2.1 + 11) + (40 * 7 + 84) ≤ 500) hR.2.1, by omega, by omega⟩ rfl (h1 _ (fun w9 I2 L2 q => ?_))
  obtain ⟨⟨q1, q2, q3⟩, q4⟩ := q
  refine r_lst C dL_law_1010 (by decide) (ls' := [(0, _), (1, _), (2, _), (3, _), (4, _), (5, _), (6, _)]) rfl ?_
  refine r_ald C dL_law_1012 rfl ?_
  refine r_callV C lzM_thrown dL_law_1013 _ [] [] rfl rfl rfl rfl rfl (Nat.le_of_ble_eq_true rfl) ⟨Nat.le_trans (Nat.le_of_ble_eq_true rfl : 0 + 7 ≤ 14) hR.1, Nat.le_trans (Nat.le_of_ble_eq_true rfl : 8 + (mM_thrown.2.2.1 + 11) + (40 * 0 + 84) ≤ 500) hR.2.1, by omega, by omega⟩ rfl (cM_thrown C.2.2.2.2.2.1 ?_)
  refine r_ild C dL_law_1016 rfl ?_
  refine r_icmp_eq C dL_law_1018 (by omega) (fun _ => ?_) (fun b9 => absurd q1 b9)
  refine r_ild C dL_law_1023 rfl ?_
  refine r_if_ne C dL_law_1025 (by omega) (fun b9 => ?_) (fun b9 => ?_)
  · refine r_goto C dL_law_1039 ?_
    exact Gd.wide (by omega) (by omega) (Gd.drop (ls2 := [(5, _), (6, _)]) (kk _ _ q3))
  · have q5 := q4 b9
    refine r_ald C dL_law_1028 rfl ?_
    refine r_ik C dL_law_1029 ?_
    refine r_lald C dL_law_1030 rfl ⟨by omega, by omega⟩ (by decide) ?_
    refine r_lld C dL_law_1031 rfl ?_
    refine r_lc_eq C dL_law_1033 dL_law_1034 (by omega) (fun _ => ?_) (fun b9 => absurd q5.1 b9)
    refine r_goto C dL_law_1039 ?_
    exact Gd.wide (by omega) (by omega) (Gd.drop (ls2 := [(5, _), (6, _)]) (kk _ _ q3))
set_option maxRecDepth 100000 in
set_option maxHeartbeats 4000000 in
theorem w_gets {g : ed_g} {x : ed_x} {post : ed_post} {mc ms cells slots N : Nat} {I : ed_I} {L : ed_L} {rm : Room} {X : Int → Int} (C : Cx g x mL_law rm) (hX : Sc g x N X) (h : Rel I L) {i : Int} (hi : 0 ≤ i ∧ i + 5 ≤ (N : Int)) (hR : 14 ≤ rm.frames ∧ 500 ≤ rm.locals ∧ cells + 8 ≤ rm.cells ∧ slots + 48 ≤ rm.slots) (kk : ∀ I2 L2, Rel I2 L2 → Gd g x post mc ms mL_law.2.2.1 (cells + 8) (slots + 48) Yw I2 L2 1521 [(0, .retAddr 0), (1, .ref 0), (2, .ref 79), (3, .ref 112), (4, .int (iZ i))] []) : Gd g x post mc ms mL_law.2.2.1 cells slots Yw I L 1042 [(0, .retAddr 0), (1, .ref 0), (2, .ref 79), (3, .ref 112), (4, .int (iZ i))] [] := by
  refine r_ald C dL_law_1042 rfl ?_
  refine r_aldX C dL_law_1043 rfl ?_
  refine r_ild C dL_law_1044 rfl ?_
  refine r_ik C dL_law_1046 ?_
  refine r_iadd C dL_law_1047 ?_
  refine r_sld C dL_law_1048 hX ⟨by omega, by omega⟩ ?_
  refine r_aldX C dL_law_1049 rfl ?_
  refine r_ild C dL_law_1050 rfl ?_
  refine r_ik C dL_law_1052 ?_
  refine r_iadd C dL_law_1053 ?_
  refine r_sld C dL_law_1054 hX ⟨by omega, by omega⟩ ?_
  refine r_ald C dL_law_1055 rfl ?_
  refine r_callS C lzL_gets dL_law_1056 [_, _, _, _] [] rfl rfl (Nat.le_of_ble_eq_true rfl) ⟨Nat.le_trans (Nat.le_of_ble_eq_true rfl : 5 + 7 ≤ 14) hR.1, Nat.le_trans (Nat.le_of_ble_eq_true rfl : 8 + (mL_gets.2.2.1 + 11) + (40 * 5 + 84) ≤ 500) hR.2.1, by omega, by omega⟩ rfl (ld_gets C.2.2.2.2.2.1 h.hd (hX.rng _) (hX.rng _) (fun k I1 L1 h1 => ?_))
  refine r_ist C dL_law_1059 (by decide) (ls' := [(0, _), (1, _), (2, _), (3, _), (4, _), (5, _)]) rfl ?_
  refine r_ald C dL_law_1061 rfl ?_
  refine r_aldX C dL_law_1062 rfl ?_
  refine r_ild C dL_law_1063 rfl ?_
  refine r_ik C dL_law_1065 ?_
  refine r_iadd C dL_law_1066 ?_
  refine r_sld C dL_law_1067 hX ⟨by omega, by omega⟩ ?_
  refine r_aldX C dL_law_1068 rfl ?_
  refine r_ild C dL_law_1069 rfl ?_
  refine r_ik C dL_law_1071 ?_
  refine r_iadd C dL_law_1072 ?_
  refine r_sld C dL_law_1073 hX ⟨by omega, by omega⟩ ?_
  refine r_callV C lzM_gets dL_law_1074 _ [_, _] [] rfl rfl rfl rfl rfl (Nat.le_of_ble_eq_true rfl) ⟨Nat.le_trans (Nat.le_of_ble_eq_true rfl : 3 + 7 ≤ 14) hR.1, Nat.le_trans (Nat.le_of_ble_eq_true rfl : 8 + (mM_gets.2.2.1 + 11) + (40 * 3 + 84) ≤ 500) hR.2.1, by omega, by omega⟩ rfl (md_gets C.2.2.2.2.2.1 (h.hm.of (lf_gets h1)) (hX.rng _) (hX.rng _) (fun w9 I2 L2 h2 => ?_))
  obtain ⟨⟨q1, q2, q3⟩, q4⟩ := xx_gets h h1 h2
  refine r_lst C dL_law_1077 (by decide) (ls' := [(0, _), (1, _), (2, _), (3, _), (4, _), (5, _), (6, _)]) rfl ?_
  refine r_ald C dL_law_1079 rfl ?_
  refine r_callV C lzM_thrown dL_law_1080 _ [] [] rfl rfl rfl rfl rfl (Nat.le_of_ble_eq_true rfl) ⟨Nat.le_trans (Nat.le_of_ble_eq_true rfl : 0 + 7 ≤ 14) hR.1, Nat.le_trans (Nat.le_of_ble_eq_true rfl : 8 + (mM_thrown.2.2.1 + 11) + (40 * 0 + 84) ≤ 500) hR.2.1, by omega, by omega⟩ rfl (cM_thrown C.2.2.2.2.2.1 ?_)
  refine r_ild C dL_law_1083 rfl ?_
  refine r_icmp_eq C dL_law_1085 (by omega) (fun _ => ?_) (fun b9 => absurd q1 b9)
  refine r_ild C dL_law_1090 rfl ?_
  refine r_if_ne C dL_law_1092 (by omega) (fun b9 => ?_) (fun b9 => ?_)
  · refine r_goto C dL_law_1106 ?_
    exact Gd.wide (by omega) (by omega) (Gd.drop (ls2 := [(5, _), (6, _)]) (kk _ _ q3))
  · have q5 := q4 b9
    refine r_ald C dL_law_1095 rfl ?_
    refine r_ik C dL_law_1096 ?_
    refine r_lald C dL_law_1097 rfl ⟨by omega, by omega⟩ (by decide) ?_
    refine r_lld C dL_law_1098 rfl ?_
    refine r_lc_eq C dL_law_1100 dL_law_1101 (by omega) (fun _ => ?_) (fun b9 => absurd q5.1 b9)
    refine r_goto C dL_law_1106 ?_
    exact Gd.wide (by omega) (by omega) (Gd.drop (ls2 := [(5, _), (6, _)]) (kk _ _ q3))
set_option maxRecDepth 100000 in
set_option maxHeartbeats 4000000 in
theorem w_assetTo {g : ed_g} {x : ed_x} {post : ed_post} {mc ms cells slots N : Nat} {I : ed_I} {L : ed_L} {rm : Room} {X : Int → Int} (C : Cx g x mL_law rm) (hX : Sc g x N X) (h : Rel I L) {i : Int} (hi : 0 ≤ i ∧ i + 5 ≤ (N : Int)) (hR : 14 ≤ rm.frames ∧ 500 ≤ rm.locals ∧ cells + 8 ≤ rm.cells ∧ slots + 48 ≤ rm.slots) (kk : ∀ I2 L2, Rel I2 L2 → Gd g x post mc ms mL_law.2.2.1 (cells + 8) (slots + 48) Yw I2 L2 1521 [(0, .retAddr 0), (1, .ref 0), (2, .ref 79), (3, .ref 112), (4, .int (iZ i))] []) : Gd g x post mc ms mL_law.2.2.1 cells slots Yw I L 1109 [(0, .retAddr 0), (1, .ref 0), (2, .ref 79), (3, .ref 112), (4, .int (iZ i))] [] := by
  refine r_ald C dL_law_1109 rfl ?_
  refine r_aldX C dL_law_1110 rfl ?_
  refine r_ild C dL_law_1111 rfl ?_
  refine r_ik C dL_law_1113 ?_
  refine r_iadd C dL_law_1114 ?_
  refine r_sld C dL_law_1115 hX ⟨by omega, by omega⟩ ?_
  refine r_ald C dL_law_1116 rfl ?_
  refine r_callS C lzL_assetTo dL_law_1117 [_, _, _] [] rfl rfl (Nat.le_of_ble_eq_true rfl) ⟨Nat.le_trans (Nat.le_of_ble_eq_true rfl : 5 + 7 ≤ 14) hR.1, Nat.le_trans (Nat.le_of_ble_eq_true rfl : 8 + (mL_assetTo.2.2.1 + 11) + (40 * 5 + 84) ≤ 500) hR.2.1, by omega, by omega⟩ rfl (ld_assetTo C.2.2.2.2.2.1 h.hd (hX.rng _) (fun k I1 L1 h1 => ?_))
  refine r_ist C dL_law_1120 (by decide) (ls' := [(0, _), (1, _), (2, _), (3, _), (4, _), (5, _)]) rfl ?_
  refine r_ald C dL_law_1122 rfl ?_
  refine r_aldX C dL_law_1123 rfl ?_
  refine r_ild C dL_law_1124 rfl ?_
  refine r_ik C dL_law_1126 ?_
  refine r_iadd C dL_law_1127 ?_
  refine r_sld C dL_law_1128 hX ⟨by omega, by omega⟩ ?_
  refine r_callV C lzM_assetTo dL_law_1129 _ [_] [] rfl rfl rfl rfl rfl (Nat.le_of_ble_eq_true rfl) ⟨Nat.le_trans (Nat.le_of_ble_eq_true rfl : 3 + 7 ≤ 14) hR.1, Nat.le_trans (Nat.le_of_ble_eq_true rfl : 8 + (mM_assetTo.2.2.1 + 11) + (40 * 3 + 84) ≤ 500) hR.2.1, by omega, by omega⟩ rfl (md_assetTo C.2.2.2.2.2.1 (h.hm.of (lf_assetTo h1)) (hX.rng _) (fun w9 I2 L2 h2 => ?_))
  obtain ⟨⟨q1, q2, q3⟩, q4⟩ := xx_assetTo h h1 h2
  refine r_ist C dL_law_1132 (by decide) (ls' := [(0, _), (1, _), (2, _), (3, _), (4, _), (5, _), (6, _)]) rfl ?_
  refine r_ald C dL_law_1134 rfl ?_
  refine r_callV C lzM_thrown dL_law_1135 _ [] [] rfl rfl rfl rfl rfl (Nat.le_of_ble_eq_true rfl) ⟨Nat.le_trans (Nat.le_of_ble_eq_true rfl : 0 + 7 ≤ 14) hR.1, Nat.le_trans (Nat.le_of_ble_eq_true rfl : 8 + (mM_thrown.2.2.1 + 11) + (40 * 0 + 84) ≤ 500) hR.2.1, by omega, by omega⟩ rfl (cM_thrown C.2.2.2.2.2.1 ?_)
  refine r_ild C dL_law_1138 rfl ?_
  refine r_icmp_eq C dL_law_1140 (by omega) (fun _ => ?_) (fun b9 => absurd q1 b9)
  refine r_ild C dL_law_1145 rfl ?_
  refine r_if_ne C dL_law_1147 (by omega) (fun b9 => ?_) (fun b9 => ?_)
  · refine r_goto C dL_law_1162 ?_
    exact Gd.wide (by omega) (by omega) (Gd.drop (ls2 := [(5, _), (6, _)]) (kk _ _ q3))
  · have q5 := q4 b9
    refine r_ald C dL_law_1150 rfl ?_
    refine r_ik C dL_law_1151 ?_
    refine r_lald C dL_law_1152 rfl ⟨by omega, by omega⟩ (by decide) ?_
    refine r_ild C dL_law_1153 rfl ?_
    refine r_i2l C dL_law_1155 ⟨by omega, by omega⟩ ?_
    refine r_lc_eq C dL_law_1156 dL_law_1157 (by omega) (fun _ => ?_) (fun b9 => absurd q5.1 b9)
    refine r_goto C dL_law_1162 ?_
    exact Gd.wide (by omega) (by omega) (Gd.drop (ls2 := [(5, _), (6, _)]) (kk _ _ q3))
set_option maxRecDepth 100000 in
set_option maxHeartbeats 4000000 in
theorem w_clauseState {g : ed_g} {x : ed_x} {post : ed_post} {mc ms cells slots N : Nat} {I : ed_I} {L : ed_L} {rm : Room} {X : Int → Int} (C : Cx g x mL_law rm) (hX : Sc g x N X) (h : Rel I L) {i : Int} (hi : 0 ≤ i ∧ i + 5 ≤ (N : Int)) (hR : 14 ≤ rm.frames ∧ 500 ≤ rm.locals ∧ cells + 8 ≤ rm.cells ∧ slots + 48 ≤ rm.slots) (kk : ∀ I2 L2, Rel I2 L2 → Gd g x post mc ms mL_law.2.2.1 (cells + 8) (slots + 48) Yw I2 L2 1521 [(0, .retAddr 0), (1, .ref 0), (2, .ref 79), (3, .ref 112), (4, .int (iZ i))] []) : Gd g x post mc ms mL_law.2.2.1 cells slots Yw I L 1165 [(0, .retAddr 0), (1, .ref 0), (2, .ref 79), (3, .ref 112), (4, .int (iZ i))] [] := by
  refine r_ald C dL_law_1165 rfl ?_
  refine r_aldX C dL_law_1166 rfl ?_
  refine r_ild C dL_law_1167 rfl ?_
  refine r_ik C dL_law_1169 ?_
  refine r_iadd C dL_law_1170 ?_
  refine r_sld C dL_law_1171 hX ⟨by omega, by omega⟩ ?_
  refine r_ald C dL_law_1172 rfl ?_
  refine r_callS C lzL_clauseState dL_law_1173 [_, _, _] [] rfl rfl (Nat.le_of_ble_eq_true rfl) ⟨Nat.le_trans (Nat.le_of_ble_eq_true rfl : 5 + 7 ≤ 14) hR.1, Nat.le_trans (Nat.le_of_ble_eq_true rfl : 8 + (mL_clauseState.2.2.1 + 11) + (40 * 5 + 84) ≤ 500) hR.2.1, by omega, by omega⟩ rfl (ld_clauseState C.2.2.2.2.2.1 h.hd (hX.rng _) (fun k I1 L1 h1 => ?_))
  refine r_ist C dL_law_1176 (by decide) (ls' := [(0, _), (1, _), (2, _), (3, _), (4, _), (5, _)]) rfl ?_
  refine r_ald C dL_law_1178 rfl ?_
  refine r_aldX C dL_law_1179 rfl ?_
  refine r_ild C dL_law_1180 rfl ?_
  refine r_ik C dL_law_1182 ?_
  refine r_iadd C dL_law_1183 ?_
  refine r_sld C dL_law_1184 hX ⟨by omega, by omega⟩ ?_
  refine r_callV C lzM_clauseState dL_law_1185 _ [_] [] rfl rfl rfl rfl rfl (Nat.le_of_ble_eq_true rfl) ⟨Nat.le_trans (Nat.le_of_ble_eq_true rfl : 3 + 7 ≤ 14) hR.1, Nat.le_trans (Nat.le_of_ble_eq_true rfl : 8 + (mM_clauseState.2.2.1 + 11) + (40 * 3 + 84) ≤ 500) hR.2.1, by omega, by omega⟩ rfl (md_clauseState C.2.2.2.2.2.1 (h.hm.of (lf_clauseState h1)) (hX.rng _) (fun w9 I2 L2 h2 => ?_))
  obtain ⟨⟨q1, q2, q3⟩, q4⟩ := xx_clauseState h h1 h2
  refine r_ist C dL_law_1188 (by decide) (ls' := [(0, _), (1, _), (2, _), (3, _), (4, _), (5, _), (6, _)]) rfl ?_
  refine r_ald C dL_law_1190 rfl ?_
  refine r_callV C lzM_thrown dL_law_1191 _ [] [] rfl rfl rfl rfl rfl (Nat.le_of_ble_eq_true rfl) ⟨Nat.le_trans (Nat.le_of_ble_eq_true rfl : 0 + 7 ≤ 14) hR.1, Nat.le_trans (Nat.le_of_ble_eq_true rfl : 8 + (mM_thrown.2.2.1 + 11) + (40 * 0 + 84) ≤ 500) hR.2.1, by omega, by omega⟩ rfl (cM_thrown C.2.2.2.2.2.1 ?_)
  refine r_ild C dL_law_1194 rfl ?_
  refine r_icmp_eq C dL_law_1196 (by omega) (fun _ => ?_) (fun b9 => absurd q1 b9)
  refine r_ild C dL_law_1201 rfl ?_
  refine r_if_ne C dL_law_1203 (by omega) (fun b9 => ?_) (fun b9 => ?_)
  · refine r_goto C dL_law_1218 ?_
    exact Gd.wide (by omega) (by omega) (Gd.drop (ls2 := [(5, _), (6, _)]) (kk _ _ q3))
  · have q5 := q4 b9
    refine r_ald C dL_law_1206 rfl ?_
    refine r_ik C dL_law_1207 ?_
    refine r_lald C dL_law_1208 rfl ⟨by omega, by omega⟩ (by decide) ?_
    refine r_ild C dL_law_1209 rfl ?_
    refine r_i2l C dL_law_1211 ⟨by omega, by omega⟩ ?_
    refine r_lc_eq C dL_law_1212 dL_law_1213 (by omega) (fun _ => ?_) (fun b9 => absurd q5.1 b9)
    refine r_goto C dL_law_1218 ?_
    exact Gd.wide (by omega) (by omega) (Gd.drop (ls2 := [(5, _), (6, _)]) (kk _ _ q3))
set_option maxRecDepth 100000 in
set_option maxHeartbeats 4000000 in
theorem w_told {g : ed_g} {x : ed_x} {post : ed_post} {mc ms cells slots N : Nat} {I : ed_I} {L : ed_L} {rm : Room} {X : Int → Int} (C : Cx g x mL_law rm) (hX : Sc g x N X) (h : Rel I L) {i : Int} (hi : 0 ≤ i ∧ i + 5 ≤ (N : Int)) (hR : 14 ≤ rm.frames ∧ 500 ≤ rm.locals ∧ cells + 8 ≤ rm.cells ∧ slots + 48 ≤ rm.slots) (kk : ∀ I2 L2, Rel I2 L2 → Gd g x post mc ms mL_law.2.2.1 (cells + 8) (slots + 48) Yw I2 L2 1521 [(0, .retAddr 0), (1, .ref 0), (2, .ref 79), (3, .ref 112), (4, .int (iZ i))] []) : Gd g x post mc ms mL_law.2.2.1 cells slots Yw I L 1221 [(0, .retAddr 0), (1, .ref 0), (2, .ref 79), (3, .ref 112), (4, .int (iZ i))] [] := by
  refine r_ald C dL_law_1221 rfl ?_
  refine r_aldX C dL_law_1222 rfl ?_
  refine r_ild C dL_law_1223 rfl ?_
  refine r_ik C dL_law_1225 ?_
  refine r_iadd C dL_law_1226 ?_
  refine r_sld C dL_law_1227 hX ⟨by omega, by omega⟩ ?_
  refine r_aldX C dL_law_1228 rfl ?_
  refine r_ild C dL_law_1229 rfl ?_
  refine r_ik C dL_law_1231 ?_
  refine r_iadd C dL_law_1232 ?_
  refine r_sld C dL_law_1233 hX ⟨by omega, by omega⟩ ?_
  refine r_ald C dL_law_1234 rfl ?_
  refine r_callS C lzL_told dL_law_1235 [_, _, _, _] [] rfl rfl (Nat.le_of_ble_eq_true rfl) ⟨Nat.le_trans (Nat.le_of_ble_eq_true rfl : 5 + 7 ≤ 14) hR.1, Nat.le_trans (Nat.le_of_ble_eq_true rfl : 8 + (mL_told.2.2.1 + 11) + (40 * 5 + 84) ≤ 500) hR.2.1, by omega, by omega⟩ rfl (ld_told C.2.2.2.2.2.1 h.hd (hX.rng _) (hX.rng _) (fun k I1 L1 h1 => ?_))
  refine r_ist C dL_law_1238 (by decide) (ls' := [(0, _), (1, _), (2, _), (3, _), (4, _), (5, _)]) rfl ?_
  refine r_ald C dL_law_1240 rfl ?_
  refine r_aldX C dL_law_1241 rfl ?_
  refine r_ild C dL_law_1242 rfl ?_
  refine r_ik C dL_law_1244 ?_
  refine r_iadd C dL_law_1245 ?_
  refine r_sld C dL_law_1246 hX ⟨by omega, by omega⟩ ?_
  refine r_aldX C dL_law_1247 rfl ?_
  refine r_ild C dL_law_1248 rfl ?_
  refine r_ik C dL_law_1250 ?_
  refine r_iadd C dL_law_1251 ?_
  refine r_sld C dL_law_1252 hX ⟨by omega, by omega⟩ ?_
  refine r_callV C lzM_told dL_law_1253 _ [_, _] [] rfl rfl rfl rfl rfl (Nat.le_of_ble_eq_true rfl) ⟨Nat.le_trans (Nat.le_of_ble_eq_true rfl : 3 + 7 ≤ 14) hR.1, Nat.le_trans (Nat.le_of_ble_eq_true rfl : 8 + (mM_told.2.2.1 + 11) + (40 * 3 + 84) ≤ 500) hR.2.1, by omega, by omega⟩ rfl (md_told C.2.2.2.2.2.1 (h.hm.of (lf_told h1)) (hX.rng _) (hX.rng _) (fun w9 I2 L2 h2 => ?_))
  obtain ⟨⟨q1, q2, q3⟩, q4⟩ := xx_told h h1 h2
  refine r_lst C dL_law_1256 (by decide) (ls' := [(0, _), (1, _), (2, _), (3, _), (4, _), (5, _), (6, _)]) rfl ?_
  refine r_ald C dL_law_1258 rfl ?_
  refine r_callV C lzM_thrown dL_law_1259 _ [] [] rfl rfl rfl rfl rfl (Nat.le_of_ble_eq_true rfl) ⟨Nat.le_trans (Nat.le_of_ble_eq_true rfl : 0 + 7 ≤ 14) hR.1, Nat.le_trans (Nat.le_of_ble_eq_true rfl : 8 + (mM_thrown.2.2.1 + 11) + (40 * 0 + 84) ≤ 500) hR.2.1, by omega, by omega⟩ rfl (cM_thrown C.2.2.2.2.2.1 ?_)
  refine r_ild C dL_law_1262 rfl ?_
  refine r_icmp_eq C dL_law_1264 (by omega) (fun _ => ?_) (fun b9 => absurd q1 b9)
  refine r_ild C dL_law_1269 rfl ?_
  refine r_if_ne C dL_law_1271 (by omega) (fun b9 => ?_) (fun b9 => ?_)
  · refine r_goto C dL_law_1285 ?_
    exact Gd.wide (by omega) (by omega) (Gd.drop (ls2 := [(5, _), (6, _)]) (kk _ _ q3))
  · have q5 := q4 b9
    refine r_ald C dL_law_1274 rfl ?_
    refine r_ik C dL_law_1275 ?_
    refine r_lald C dL_law_1276 rfl ⟨by omega, by omega⟩ (by decide) ?_
    refine r_lld C dL_law_1277 rfl ?_
    refine r_lc_eq C dL_law_1279 dL_law_1280 (by omega) (fun _ => ?_) (fun b9 => absurd q5.1 b9)
    refine r_goto C dL_law_1285 ?_
    exact Gd.wide (by omega) (by omega) (Gd.drop (ls2 := [(5, _), (6, _)]) (kk _ _ q3))
set_option maxRecDepth 100000 in
set_option maxHeartbeats 4000000 in
theorem w_paid {g : ed_g} {x : ed_x} {post : ed_post} {mc ms cells slots N : Nat} {I : ed_I} {L : ed_L} {rm : Room} {X : Int → Int} (C : Cx g x mL_law rm) (hX : Sc g x N X) (h : Rel I L) {i : Int} (hi : 0 ≤ i ∧ i + 5 ≤ (N : Int)) (hR : 14 ≤ rm.frames ∧ 500 ≤ rm.locals ∧ cells + 8 ≤ rm.cells ∧ slots + 48 ≤ rm.slots) (kk : ∀ I2 L2, Rel I2 L2 → Gd g x post mc ms mL_law.2.2.1 (cells + 8) (slots + 48) Yw I2 L2 1521 [(0, .retAddr 0), (1, .ref 0), (2, .ref 79), (3, .ref 112), (4, .int (iZ i))] []) : Gd g x post mc ms mL_law.2.2.1 cells slots Yw I L 1288 [(0, .retAddr 0), (1, .ref 0), (2, .ref 79), (3, .ref 112), (4, .int (iZ i))] [] := by
  refine r_ald C dL_law_1288 rfl ?_
  refine r_aldX C dL_law_1289 rfl ?_
  refine r_ild C dL_law_1290 rfl ?_
  refine r_ik C dL_law_1292 ?_
  refine r_iadd C dL_law_1293 ?_
  refine r_sld C dL_law_1294 hX ⟨by omega, by omega⟩ ?_
  refine r_ald C dL_law_1295 rfl ?_
  refine r_callS C lzL_paid dL_law_1296 [_, _, _] [] rfl rfl (Nat.le_of_ble_eq_true rfl) ⟨Nat.le_trans (Nat.le_of_ble_eq_true rfl : 5 + 7 ≤ 14) hR.1, Nat.le_trans (Nat.le_of_ble_eq_true rfl : 8 + (mL_paid.2.2.1 + 11) + (40 * 5 + 84) ≤ 500) hR.2.1, by omega, by omega⟩ rfl (ld_paid C.2.2.2.2.2.1 h.hd (hX.rng _) (fun k I1 L1 h1 => ?_))
  refine r_ist C dL_law_1299 (by decide) (ls' := [(0, _), (1, _), (2, _), (3, _), (4, _), (5, _)]) rfl ?_
  refine r_ald C dL_law_1301 rfl ?_
  refine r_aldX C dL_law_1302 rfl ?_
  refine r_ild C dL_law_1303 rfl ?_
  refine r_ik C dL_law_1305 ?_
  refine r_iadd C dL_law_1306 ?_
  refine r_sld C dL_law_1307 hX ⟨by omega, by omega⟩ ?_
  refine r_callV C lzM_paid dL_law_1308 _ [_] [] rfl rfl rfl rfl rfl (Nat.le_of_ble_eq_true rfl) ⟨Nat.le_trans (Nat.le_of_ble_eq_true rfl : 3 + 7 ≤ 14) hR.1, Nat.le_trans (Nat.le_of_ble_eq_true rfl : 8 + (mM_paid.2.2.1 + 11) + (40 * 3 + 84) ≤ 500) hR.2.1, by omega, by omega⟩ rfl (md_paid C.2.2.2.2.2.1 (h.hm.of (lf_paid h1)) (hX.rng _) (fun w9 I2 L2 h2 => ?_))
  obtain ⟨⟨q1, q2, q3⟩, q4⟩ := xx_paid h h1 h2
  refine r_lst C dL_law_1311 (by decide) (ls' := [(0, _), (1, _), (2, _), (3, _), (4, _), (5, _), (6, _)]) rfl ?_
  refine r_ald C dL_law_1313 rfl ?_
  refine r_callV C lzM_thrown dL_law_1314 _ [] [] rfl rfl rfl rfl rfl (Nat.le_of_ble_eq_true rfl) ⟨Nat.le_trans (Nat.le_of_ble_eq_true rfl : 0 + 7 ≤ 14) hR.1, Nat.le_trans (Nat.le_of_ble_eq_true rfl : 8 + (mM_thrown.2.2.1 + 11) + (40 * 0 + 84) ≤ 500) hR.2.1, by omega, by omega⟩ rfl (cM_thrown C.2.2.2.2.2.1 ?_)
  refine r_ild C dL_law_1317 rfl ?_
  refine r_icmp_eq C dL_law_1319 (by omega) (fun _ => ?_) (fun b9 => absurd q1 b9)
  refine r_ild C dL_law_1324 rfl ?_
  refine r_if_ne C dL_law_1326 (by omega) (fun b9 => ?_) (fun b9 => ?_)
  · refine r_goto C dL_law_1340 ?_
    exact Gd.wide (by omega) (by omega) (Gd.drop (ls2 := [(5, _), (6, _)]) (kk _ _ q3))
  · have q5 := q4 b9
    refine r_ald C dL_law_1329 rfl ?_
    refine r_ik C dL_law_1330 ?_
    refine r_lald C dL_law_1331 rfl ⟨by omega, by omega⟩ (by decide) ?_
    refine r_lld C dL_law_1332 rfl ?_
    refine r_lc_eq C dL_law_1334 dL_law_1335 (by omega) (fun _ => ?_) (fun b9 => absurd q5.1 b9)
    refine r_goto C dL_law_1340 ?_
    exact Gd.wide (by omega) (by omega) (Gd.drop (ls2 := [(5, _), (6, _)]) (kk _ _ q3))
set_option maxRecDepth 100000 in
set_option maxHeartbeats 4000000 in
theorem w_sum {g : ed_g} {x : ed_x} {post : ed_post} {mc ms cells slots N : Nat} {I : ed_I} {L : ed_L} {rm : Room} {X : Int → Int} (C : Cx g x mL_law rm) (hX : Sc g x N X) (h : Rel I L) {i : Int} (hi : 0 ≤ i ∧ i + 5 ≤ (N : Int)) (hR : 14 ≤ rm.frames ∧ 500 ≤ rm.locals ∧ cells + 8 ≤ rm.cells ∧ slots + 48 ≤ rm.slots) (kk : ∀ I2 L2, Rel I2 L2 → Gd g x post mc ms mL_law.2.2.1 (cells + 8) (slots + 48) Yw I2 L2 1521 [(0, .retAddr 0), (1, .ref 0), (2, .ref 79), (3, .ref 112), (4, .int (iZ i))] []) : Gd g x post mc ms mL_law.2.2.1 cells slots Yw I L 1343 [(0, .retAddr 0), (1, .ref 0), (2, .ref 79), (3, .ref 112), (4, .int (iZ i))] [] := by
  refine r_ald C dL_law_1343 rfl ?_
  refine r_aldX C dL_law_1344 rfl ?_
  refine r_ild C dL_law_1345 rfl ?_
  refine r_ik C dL_law_1347 ?_
  refine r_iadd C dL_law_1348 ?_
  refine r_sld C dL_law_1349 hX ⟨by omega, by omega⟩ ?_
  refine r_ald C dL_law_1350 rfl ?_
  refine r_callS C lzL_sum dL_law_1351 [_, _, _] [] rfl rfl (Nat.le_of_ble_eq_true rfl) ⟨Nat.le_trans (Nat.le_of_ble_eq_true rfl : 5 + 7 ≤ 14) hR.1, Nat.le_trans (Nat.le_of_ble_eq_true rfl : 8 + (mL_sum.2.2.1 + 11) + (40 * 5 + 84) ≤ 500) hR.2.1, by omega, by omega⟩ rfl (ld_sum C.2.2.2.2.2.1 h.hd (hX.rng _) (fun k I1 L1 h1 => ?_))
  refine r_ist C dL_law_1354 (by decide) (ls' := [(0, _), (1, _), (2, _), (3, _), (4, _), (5, _)]) rfl ?_
  refine r_ald C dL_law_1356 rfl ?_
  refine r_aldX C dL_law_1357 rfl ?_
  refine r_ild C dL_law_1358 rfl ?_
  refine r_ik C dL_law_1360 ?_
  refine r_iadd C dL_law_1361 ?_
  refine r_sld C dL_law_1362 hX ⟨by omega, by omega⟩ ?_
  refine r_callV C lzM_sum dL_law_1363 _ [_] [] rfl rfl rfl rfl rfl (Nat.le_of_ble_eq_true rfl) ⟨Nat.le_trans (Nat.le_of_ble_eq_true rfl : 3 + 7 ≤ 14) hR.1, Nat.le_trans (Nat.le_of_ble_eq_true rfl : 8 + (mM_sum.2.2.1 + 11) + (40 * 3 + 84) ≤ 500) hR.2.1, by omega, by omega⟩ rfl (md_sum C.2.2.2.2.2.1 (h.hm.of (lf_sum h1)) (hX.rng _) (fun w9 I2 L2 h2 => ?_))
  obtain ⟨⟨q1, q2, q3⟩, q4⟩ := xx_sum h h1 h2
  refine r_lst C dL_law_1366 (by decide) (ls' := [(0, _), (1, _), (2, _), (3, _), (4, _), (5, _), (6, _)]) rfl ?_
  refine r_ald C dL_law_1368 rfl ?_
  refine r_callV C lzM_thrown dL_law_1369 _ [] [] rfl rfl rfl rfl rfl (Nat.le_of_ble_eq_true rfl) ⟨Nat.le_trans (Nat.le_of_ble_eq_true rfl : 0 + 7 ≤ 14) hR.1, Nat.le_trans (Nat.le_of_ble_eq_true rfl : 8 + (mM_thrown.2.2.1 + 11) + (40 * 0 + 84) ≤ 500) hR.2.1, by omega, by omega⟩ rfl (cM_thrown C.2.2.2.2.2.1 ?_)
  refine r_ild C dL_law_1372 rfl ?_
  refine r_icmp_eq C dL_law_1374 (by omega) (fun _ => ?_) (fun b9 => absurd q1 b9)
  refine r_ild C dL_law_1379 rfl ?_
  refine r_if_ne C dL_law_1381 (by omega) (fun b9 => ?_) (fun b9 => ?_)
  · refine r_goto C dL_law_1395 ?_
    exact Gd.wide (by omega) (by omega) (Gd.drop (ls2 := [(5, _), (6, _)]) (kk _ _ q3))
  · have q5 := q4 b9
    refine r_ald C dL_law_1384 rfl ?_
    refine r_ik C dL_law_1385 ?_
    refine r_lald C dL_law_1386 rfl ⟨by omega, by omega⟩ (by decide) ?_
    refine r_lld C dL_law_1387 rfl ?_
    refine r_lc_eq C dL_law_1389 dL_law_1390 (by omega) (fun _ => ?_) (fun b9 => absurd q5.1 b9)
    refine r_goto C dL_law_1395 ?_
    exact Gd.wide (by omega) (by omega) (Gd.drop (ls2 := [(5, _), (6, _)]) (kk _ _ q3))
set_option maxRecDepth 100000 in
set_option maxHeartbeats 4000000 in
theorem w_close {g : ed_g} {x : ed_x} {post : ed_post} {mc ms cells slots N : Nat} {I : ed_I} {L : ed_L} {rm : Room} {X : Int → Int} (C : Cx g x mL_law rm) (hX : Sc g x N X) (h : Rel I L) {i : Int} (hi : 0 ≤ i ∧ i + 5 ≤ (N : Int)) (hR : 14 ≤ rm.frames ∧ 500 ≤ rm.locals ∧ cells + 8 ≤ rm.cells ∧ slots + 48 ≤ rm.slots) (kk : ∀ I2 L2, Rel I2 L2 → Gd g x post mc ms mL_law.2.2.1 (cells + 8) (slots + 48) Yw I2 L2 1521 [(0, .retAddr 0), (1, .ref 0), (2, .ref 79), (3, .ref 112), (4, .int (iZ i))] []) : Gd g x post mc ms mL_law.2.2.1 cells slots Yw I L 1398 [(0, .retAddr 0), (1, .ref 0), (2, .ref 79), (3, .ref 112), (4, .int (iZ i))] [] := by
  refine r_ald C dL_law_1398 rfl ?_
  refine r_callS C lzL_close dL_law_1399 [_] [] rfl rfl (Nat.le_of_ble_eq_true rfl) ⟨Nat.le_trans (Nat.le_of_ble_eq_true rfl : 5 + 7 ≤ 14) hR.1, Nat.le_trans (Nat.le_of_ble_eq_true rfl : 8 + (mL_close.2.2.1 + 11) + (40 * 5 + 84) ≤ 500) hR.2.1, by omega, by omega⟩ rfl (ld_close C.2.2.2.2.2.1 h.hd  (fun k I1 L1 h1 => ?_))
  refine r_ist C dL_law_1402 (by decide) (ls' := [(0, _), (1, _), (2, _), (3, _), (4, _), (5, _)]) rfl ?_
  refine r_ald C dL_law_1404 rfl ?_
  refine r_callV C lzM_close dL_law_1405 _ [] [] rfl rfl rfl rfl rfl (Nat.le_of_ble_eq_true rfl) ⟨Nat.le_trans (Nat.le_of_ble_eq_true rfl : 1 + 7 ≤ 14) hR.1, Nat.le_trans (Nat.le_of_ble_eq_true rfl : 8 + (mM_close.2.2.1 + 11) + (40 * 1 + 84) ≤ 500) hR.2.1, by omega, by omega⟩ rfl (md_close C.2.2.2.2.2.1 (h.hm.of (lf_close h1))  (fun I2 L2 h2 => ?_))
  obtain ⟨q1, q2, q3⟩ := xx_close h h1 h2
  refine r_ald C dL_law_1408 rfl ?_
  refine r_callV C lzM_thrown dL_law_1409 _ [] [] rfl rfl rfl rfl rfl (Nat.le_of_ble_eq_true rfl) ⟨Nat.le_trans (Nat.le_of_ble_eq_true rfl : 0 + 7 ≤ 14) hR.1, Nat.le_trans (Nat.le_of_ble_eq_true rfl : 8 + (mM_thrown.2.2.1 + 11) + (40 * 0 + 84) ≤ 500) hR.2.1, by omega, by omega⟩ rfl (cM_thrown C.2.2.2.2.2.1 ?_)
  refine r_ild C dL_law_1412 rfl ?_
  refine r_icmp_eq C dL_law_1414 (by omega) (fun _ => ?_) (fun b9 => absurd q1 b9)
  refine r_goto C dL_law_1419 ?_
  exact Gd.wide (by omega) (by omega) (Gd.drop (ls2 := [(5, _)]) (kk _ _ q3))
set_option maxRecDepth 100000 in
set_option maxHeartbeats 4000000 in
theorem w_worth {g : ed_g} {x : ed_x} {post : ed_post} {mc ms cells slots N : Nat} {I : ed_I} {L : ed_L} {rm : Room} {X : Int → Int} (C : Cx g x mL_law rm) (hX : Sc g x N X) (h : Rel I L) {i : Int} (hi : 0 ≤ i ∧ i + 5 ≤ (N : Int)) (hR : 14 ≤ rm.frames ∧ 500 ≤ rm.locals ∧ cells + 8 ≤ rm.cells ∧ slots + 48 ≤ rm.slots) (kk : ∀ I2 L2, Rel I2 L2 → Gd g x post mc ms mL_law.2.2.1 (cells + 8) (slots + 48) Yw I2 L2 1521 [(0, .retAddr 0), (1, .ref 0), (2, .ref 79), (3, .ref 112), (4, .int (iZ i))] []) : Gd g x post mc ms mL_law.2.2.1 cells slots Yw I L 1422 [(0, .retAddr 0), (1, .ref 0), (2, .ref 79), (3, .ref 112), (4, .int (iZ i))] [] := by
  refine r_ald C dL_law_1422 rfl ?_
  refine r_aldX C dL_law_1423 rfl ?_
  refine r_ild C dL_law_1424 rfl ?_
  refine r_ik C dL_law_1426 ?_
  refine r_iadd C dL_law_1427 ?_
  refine r_sld C dL_law_1428 hX ⟨by omega, by omega⟩ ?_
  refine r_i2l C dL_law_1429 (hX.rng _) ?_
  refine r_ik C dL_law_1430 ?_
  refine r_lshl C dL_law_1432 ?_
  refine r_aldX C dL_law_1433 rfl ?_
  refine r_ild C dL_law_1434 rfl ?_
  refine r_ik C dL_law_1436 ?_
  refine r_iadd C dL_law_1437 ?_
  refine r_sld C dL_law_1438 hX ⟨by omega, by omega⟩ ?_
  refine r_i2l C dL_law_1439 (hX.rng _) ?_
  refine r_lk C dL_law_1440 ?_
  refine r_land C dL_law_1443 ?_
  refine r_lorJ C dL_law_1444 ?_
  refine r_aldX C dL_law_1445 rfl ?_
  refine r_ild C dL_law_1446 rfl ?_
  refine r_ik C dL_law_1448 ?_
  refine r_iadd C dL_law_1449 ?_
  refine r_sld C dL_law_1450 hX ⟨by omega, by omega⟩ ?_
  refine r_ald C dL_law_1451 rfl ?_
  refine r_callS C lzL_worth dL_law_1452 [_, _, _, _] [] rfl rfl (Nat.le_of_ble_eq_true rfl) ⟨Nat.le_trans (Nat.le_of_ble_eq_true rfl : 5 + 7 ≤ 14) hR.1, Nat.le_trans (Nat.le_of_ble_eq_true rfl : 8 + (mL_worth.2.2.1 + 11) + (40 * 5 + 84) ≤ 500) hR.2.1, by omega, by omega⟩ rfl (ld_worth C.2.2.2.2.2.1 h.hd (hX.rng _) (jl_rng _ _) (fun k I1 L1 h1 => ?_))
  refine r_ist C dL_law_1455 (by decide) (ls' := [(0, _), (1, _), (2, _), (3, _), (4, _), (5, _)]) rfl ?_
  refine r_ald C dL_law_1457 rfl ?_
  refine r_aldX C dL_law_1458 rfl ?_
  refine r_ild C dL_law_1459 rfl ?_
  refine r_ik C dL_law_1461 ?_
  refine r_iadd C dL_law_1462 ?_
  refine r_sld C dL_law_1463 hX ⟨by omega, by omega⟩ ?_
  refine r_i2l C dL_law_1464 (hX.rng _) ?_
  refine r_ik C dL_law_1465 ?_
  refine r_lshl C dL_law_1467 ?_
  refine r_aldX C dL_law_1468 rfl ?_
  refine r_ild C dL_law_1469 rfl ?_
  refine r_ik C dL_law_1471 ?_
  refine r_iadd C dL_law_1472 ?_
  refine r_sld C dL_law_1473 hX ⟨by omega, by omega⟩ ?_
  refine r_i2l C dL_law_1474 (hX.rng _) ?_
  refine r_lk C dL_law_1475 ?_
  refine r_land C dL_law_1478 ?_
  refine r_lorJ C dL_law_1479 ?_
  refine r_aldX C dL_law_1480 rfl ?_
  refine r_ild C dL_law_1481 rfl ?_
  refine r_ik C dL_law_1483 ?_
  refine r_iadd C dL_law_1484 ?_
  refine r_sld C dL_law_1485 hX ⟨by omega, by omega⟩ ?_
  refine r_callV C lzM_worth dL_law_1486 _ [_, _] [] rfl rfl rfl rfl rfl (Nat.le_of_ble_eq_true rfl) ⟨Nat.le_trans (Nat.le_of_ble_eq_true rfl : 2 + 7 ≤ 14) hR.1, Nat.le_trans (Nat.le_of_ble_eq_true rfl : 8 + (mM_worth.2.2.1 + 11) + (40 * 2 + 84) ≤ 500) hR.2.1, by omega, by omega⟩ rfl (md_worth C.2.2.2.2.2.1 (h.hm.of (lf_worth h1)) (hX.rng _) (jl_rng _ _) (fun w9 I2 L2 h2 => ?_))
  obtain ⟨⟨q1, q2, q3⟩, q4⟩ := xx_worth h h1 h2
  refine r_lst C dL_law_1489 (by decide) (ls' := [(0, _), (1, _), (2, _), (3, _), (4, _), (5, _), (6, _)]) rfl ?_
  refine r_ald C dL_law_1491 rfl ?_
  refine r_callV C lzM_thrown dL_law_1492 _ [] [] rfl rfl rfl rfl rfl (Nat.le_of_ble_eq_true rfl) ⟨Nat.le_trans (Nat.le_of_ble_eq_true rfl : 0 + 7 ≤ 14) hR.1, Nat.le_trans (Nat.le_of_ble_eq_true rfl : 8 + (mM_thrown.2.2.1 + 11) + (40 * 0 + 84) ≤ 500) hR.2.1, by omega, by omega⟩ rfl (cM_thrown C.2.2.2.2.2.1 ?_)
  refine r_ild C dL_law_1495 rfl ?_
  refine r_icmp_eq C dL_law_1497 (by omega) (fun _ => ?_) (fun b9 => absurd q1 b9)
  refine r_ild C dL_law_1502 rfl ?_
  refine r_if_ne C dL_law_1504 (by omega) (fun b9 => ?_) (fun b9 => ?_)
  · refine r_goto C dL_law_1518 ?_
    exact Gd.wide (by omega) (by omega) (Gd.drop (ls2 := [(5, _), (6, _)]) (kk _ _ q3))
  · have q5 := q4 b9
    refine r_ald C dL_law_1507 rfl ?_
    refine r_ik C dL_law_1508 ?_
    refine r_lald C dL_law_1509 rfl ⟨by omega, by omega⟩ (by decide) ?_
    refine r_lld C dL_law_1510 rfl ?_
    refine r_lc_eq C dL_law_1512 dL_law_1513 (by omega) (fun _ => ?_) (fun b9 => absurd q5.1 b9)
    refine r_goto C dL_law_1518 ?_
    exact Gd.wide (by omega) (by omega) (Gd.drop (ls2 := [(5, _), (6, _)]) (kk _ _ q3))
set_option maxRecDepth 100000 in
set_option maxHeartbeats 4000000 in
theorem w_loop {g : ed_g} {x : ed_x} {post : ed_post} {mc ms N : Nat} {rm : Room} {X : Int → Int} (C : Cx g x mL_law rm) (hX : Sc g x N X) (hf : 14 ≤ rm.frames ∧ 500 ≤ rm.locals ∧ mc ≤ rm.cells ∧ ms ≤ rm.slots) (hset : ∀ (i : Int) (I : ed_I) (L : ed_L), 0 ≤ i → i + 5 ≤ (N : Int) → (i = 0 → I 1 0 = 0) → Rel I L → SOK g x.2.1 I L) (hp : ∀ I L, post (.inl (some (.int (iZ 1)))) Yw I L) : ∀ (q : Nat) (cells slots : Nat) (I : ed_I) (L : ed_L) (i : Int), ((N : Int) - i).toNat < q → 0 ≤ i ∧ i ≤ (N : Int) → (i = 0 → I 1 0 = 0) → Rel I L → (cells : Int) + 2 * ((N : Int) - i) ≤ mc ∧ (slots : Int) + 10 * ((N : Int) - i) ≤ ms → Gd g x post mc ms mL_law.2.2.1 cells slots Yw I L 23 [(0, .retAddr 0), (1, .ref 0), (2, .ref 79), (3, .ref 112), (4, .int (iZ i))] [] := by
  intro q
  induction q with
  | zero => intro cells slots I L i h; omega
  | succ q ih =>
    intro cells slots I L i hq hi h0 h hc
    have hN := hX.1
    refine r_ild C dL_law_23 rfl ?_
    refine r_aldX C dL_law_25 rfl ?_
    refine r_slen C dL_law_26 hX ?_
    refine r_ik C dL_law_27 ?_
    refine r_isub C dL_law_28 ?_
    refine r_icmp_gt C dL_law_29 (by omega) (fun b29 => ?_) (fun b29 => ?_)
    · refine r_ik C dL_law_1527 ?_
      exact r_zret C dL_law_1528 rfl (Or.inr rfl) (by omega) (by omega) (hp _ _)
    · have hR : 14 ≤ rm.frames ∧ 500 ≤ rm.locals ∧ cells + 8 ≤ rm.cells ∧ slots + 48 ≤ rm.slots := ⟨hf.1, hf.2.1, by omega, by omega⟩
      have kk : ∀ I2 L2, Rel I2 L2 → Gd g x post mc ms mL_law.2.2.1 (cells + 8) (slots + 48) Yw I2 L2 1521 [(0, .retAddr 0), (1, .ref 0), (2, .ref 79), (3, .ref 112), (4, .int (iZ i))] [] := by
        intro I2 L2 h2
        refine r_iinc C dL_law_1521 (by decide) rfl (ls' := [(0, _), (1, _), (2, _), (3, _), (4, _)]) rfl ?_
        refine r_goto C dL_law_1524 ?_
        exact ih (cells + 8) (slots + 48) I2 L2 (i + 5) (by omega) (by omega) (fun e => absurd e (by omega)) h2 (by omega)
      refine r_aldX C dL_law_32 rfl ?_
      refine r_ild C dL_law_33 rfl ?_
      refine r_sld C dL_law_35 hX ⟨by omega, by omega⟩ ?_
      refine r_ik C dL_law_36 ?_
      refine r_iandJ C dL_law_38 ?_
      have hj := j31_rng (X i)
      generalize j31 (X i) = v at hj
      have hv : v = 0 ∨ v = 1 ∨ v = 2 ∨ v = 3 ∨ v = 4 ∨ v = 5 ∨ v = 6 ∨ v = 7 ∨ v = 8 ∨ v = 9 ∨ v = 10 ∨ v = 11 ∨ v = 12 ∨ v = 13 ∨ v = 14 ∨ v = 15 ∨ v = 16 ∨ v = 17 ∨ v = 18 ∨ v = 19 ∨ v = 20 ∨ v = 21 ∨ 21 < v := by omega
      rcases hv with e | e | e | e | e | e | e | e | e | e | e | e | e | e | e | e | e | e | e | e | e | e | e
      · subst e; exact r_sw C (by omega) dL_law_39 (off := 101) (by omega) (by omega) rfl rfl (w_testator C hX h ⟨hi.1, by omega⟩ hR kk)
      · subst e; exact r_sw C (by omega) dL_law_39 (off := 137) (by omega) (by omega) rfl rfl (w_person C hX h ⟨hi.1, by omega⟩ hR kk)
      · subst e; exact r_sw C (by omega) dL_law_39 (off := 185) (by omega) (by omega) rfl rfl (w_asset C hX h ⟨hi.1, by omega⟩ hR kk)
      · subst e; exact r_sw C (by omega) dL_law_39 (off := 293) (by omega) (by omega) rfl rfl (w_revalue C hX h ⟨hi.1, by omega⟩ hR kk)
      · subst e; exact r_sw C (by omega) dL_law_39 (off := 392) (by omega) (by omega) rfl rfl (w_gone C hX h ⟨hi.1, by omega⟩ hR kk)
      · subst e; exact r_sw C (by omega) dL_law_39 (off := 428) (by omega) (by omega) rfl rfl (w_gift C hX h ⟨hi.1, by omega⟩ hR kk)
      · subst e; exact r_sw C (by omega) dL_law_39 (off := 476) (by omega) (by omega) rfl rfl (w_legacy C hX h ⟨hi.1, by omega⟩ hR kk)
      · subst e; exact r_sw C (by omega) dL_law_39 (off := 568) (by omega) (by omega) rfl rfl (w_annuity C hX h ⟨hi.1, by omega⟩ hR kk)
      · subst e; exact r_sw C (by omega) dL_law_39 (off := 660) (by omega) (by omega) rfl rfl (w_residue C hX h ⟨hi.1, by omega⟩ hR kk)
      · subst e; exact r_sw C (by omega) dL_law_39 (off := 708) (by omega) (by omega) rfl rfl (w_strike C hX h ⟨hi.1, by omega⟩ hR kk)
      · subst e; exact r_sw C (by omega) dL_law_39 (off := 744) (by omega) (by omega) rfl rfl (w_taker C hX h ⟨hi.1, by omega⟩ hR kk)
      · subst e; exact r_sw C (by omega) dL_law_39 (off := 804) (by omega) (by omega) rfl rfl (w_charge C hX h ⟨hi.1, by omega⟩ hR kk)
      · subst e; exact r_sw C (by omega) dL_law_39 (off := 868) (by omega) (by omega) rfl rfl (w_debt C hX h ⟨hi.1, by omega⟩ hR kk)
      · subst e; exact r_sw C (by omega) dL_law_39 (off := 960) (by omega) (by omega) rfl rfl (w_settle C hX h (hset i I L hi.1 (by omega) h0 h) ⟨hi.1, by omega⟩ hR kk)
      · subst e; exact r_sw C (by omega) dL_law_39 (off := 1003) (by omega) (by omega) rfl rfl (w_gets C hX h ⟨hi.1, by omega⟩ hR kk)
      · subst e; exact r_sw C (by omega) dL_law_39 (off := 1070) (by omega) (by omega) rfl rfl (w_assetTo C hX h ⟨hi.1, by omega⟩ hR kk)
      · subst e; exact r_sw C (by omega) dL_law_39 (off := 1126) (by omega) (by omega) rfl rfl (w_clauseState C hX h ⟨hi.1, by omega⟩ hR kk)
      · subst e; exact r_sw C (by omega) dL_law_39 (off := 1182) (by omega) (by omega) rfl rfl (w_told C hX h ⟨hi.1, by omega⟩ hR kk)
      · subst e; exact r_sw C (by omega) dL_law_39 (off := 1249) (by omega) (by omega) rfl rfl (w_paid C hX h ⟨hi.1, by omega⟩ hR kk)
      · subst e; exact r_sw C (by omega) dL_law_39 (off := 1304) (by omega) (by omega) rfl rfl (w_sum C hX h ⟨hi.1, by omega⟩ hR kk)
      · subst e; exact r_sw C (by omega) dL_law_39 (off := 1359) (by omega) (by omega) rfl rfl (w_close C hX h ⟨hi.1, by omega⟩ hR kk)
      · subst e; exact r_sw C (by omega) dL_law_39 (off := 1383) (by omega) (by omega) rfl rfl (w_worth C hX h ⟨hi.1, by omega⟩ hR kk)
      · exact r_swD C (by omega) dL_law_39 (Or.inr (by omega)) rfl (Gd.wide (by omega) (by omega) (kk _ _ h))
set_option maxRecDepth 100000 in
set_option maxHeartbeats 4000000 in
theorem w_law {g : ed_g} {x : ed_x} {post : ed_post} {mc ms N : Nat} {rm : Room} {X : Int → Int} (C : Cx g x mL_law rm) (hX : Sc g x N X) (hf : 14 ≤ rm.frames ∧ 500 ≤ rm.locals ∧ mc ≤ rm.cells ∧ ms ≤ rm.slots) (hset : ∀ (i : Int) (I : ed_I) (L : ed_L), 0 ≤ i → i + 5 ≤ (N : Int) → (i = 0 → I 1 0 = 0) → Rel I L → SOK g x.2.1 I L) (hp : ∀ I L, post (.inl (some (.int (iZ 1)))) Yw I L) (hc : 113 + 2 * N ≤ mc ∧ 2970 + 10 * N ≤ ms) : Gd g x post mc ms mL_law.2.2.1 0 0 (true, []) (fun _ _ => 0) (fun _ _ => 0) 0 [(0, .retAddr 0)] [] := by
  refine r_new (ci := 0) (k := 0) (r := ("EstateDesk", eT0, 8)) C dL_law_0 rfl rfl (tb1 16 rfl) (tb1 17 rfl) (tb1 1 rfl) [.inl none, .inl none, .inl none, .inl none, .inl none, .inr false, .inr false, .inr false] (en_use et0.1 (by decide +kernel)) ⟨by omega, by show _ + 8 ≤ _; omega⟩ rfl ?_
  refine Gd.wide (c2 := 1) (s2 := 8) (Nat.le_of_ble_eq_true rfl) (Nat.le_of_ble_eq_true rfl) ?_
  refine r_dup C dL_law_3 rfl ?_
  refine r_callI C lzD_init ⟨91, dL_law_4.1, rfl, Or.inl (tb1 18 rfl), tb1 19 rfl, rfl, rfl⟩ 0 [] [_] rfl rfl (Nat.le_of_ble_eq_true rfl) ⟨Nat.le_trans (Nat.le_of_ble_eq_true rfl : 3 + 7 ≤ 14) hf.1, Nat.le_trans (Nat.le_of_ble_eq_true rfl : 8 + (mD_init.2.2.1 + 11) + (40 * 3 + 84) ≤ 500) hf.2.1, by omega, by omega⟩ rfl (cD_init C.2.2.2.2.2.1 ?_)
  refine Gd.wide (c2 := 79) (s2 := 1489) (Nat.le_of_ble_eq_true rfl) (Nat.le_of_ble_eq_true rfl) ?_
  refine r_ast C dL_law_7 (by decide) (ls' := [(0, _), (1, _)]) rfl ?_
  refine r_new (ci := 7) (k := 79) (r := ("EstateDeskModel", eT7, 37)) C dL_law_8 rfl rfl (tb3 181 rfl) (tb3 182 rfl) (tb1 8 rfl) [.inr false, .inr false, .inr false, .inr false, .inr false, .inl none, .inl none, .inl none, .inl none, .inl none, .inl none, .inl none, .inl none, .inl none, .inl none, .inl none, .inl none, .inl none, .inl none, .inl none, .inl none, .inl none, .inl none, .inl none, .inl none, .inl none, .inl none, .inl none, .inl none, .inl none, .inl none, .inl none, .inl none, .inl none, .inl none, .inl none, .inl none] (en_use et7.1 (by decide +kernel)) ⟨by omega, by show _ + 37 ≤ _; omega⟩ rfl ?_
  refine Gd.wide (c2 := 80) (s2 := 1526) (Nat.le_of_ble_eq_true rfl) (Nat.le_of_ble_eq_true rfl) ?_
  refine r_dup C dL_law_11 rfl ?_
  refine r_callI C lzM_init ⟨94, dL_law_12.1, rfl, Or.inl (tb3 183 rfl), tb3 184 rfl, rfl, rfl⟩ 79 [] [_] rfl rfl (Nat.le_of_ble_eq_true rfl) ⟨Nat.le_trans (Nat.le_of_ble_eq_true rfl : 3 + 7 ≤ 14) hf.1, Nat.le_trans (Nat.le_of_ble_eq_true rfl : 8 + (mM_init.2.2.1 + 11) + (40 * 3 + 84) ≤ 500) hf.2.1, by omega, by omega⟩ rfl (cM_init C.2.2.2.2.2.1 ?_)
  refine Gd.wide (c2 := 112) (s2 := 2969) (Nat.le_of_ble_eq_true rfl) (Nat.le_of_ble_eq_true rfl) ?_
  refine r_ast C dL_law_15 (by decide) (ls' := [(0, _), (1, _), (2, _)]) rfl ?_
  refine r_ik C dL_law_16 ?_
  refine r_newa (N := 1) (k := 112) C dL_law_17 rfl (Or.inr (Or.inr ⟨rfl, rfl⟩)) (tb1 55 rfl) (by decide) (fun _ => rfl) (fun _ => rfl) ⟨by omega, by omega⟩ rfl ?_
  refine Gd.wide (c2 := 113) (s2 := 2970) (Nat.le_of_ble_eq_true rfl) (Nat.le_of_ble_eq_true rfl) ?_
  refine r_ast C dL_law_19 (by decide) (ls' := [(0, _), (1, _), (2, _), (3, _)]) rfl ?_
  refine r_ik C dL_law_20 ?_
  refine r_ist C dL_law_21 (by decide) (ls' := [(0, _), (1, _), (2, _), (3, _), (4, _)]) rfl ?_
  refine Gd.loose rfl ?_
  exact w_loop C hX hf hset hp (N + 1) _ _ _ _ 0 (by omega) (by omega) (fun _ => rfl) rel_0 (by omega)
