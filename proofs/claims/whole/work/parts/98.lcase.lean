/-! THE LAW: its cases -/
theorem lwc_0 {Γ : gC} {Ξ : cO} {Q : State → Prop} {σX σM : Nat → Nat} {b L i c : Nat} {xs : Nat → Int32} {vX vM : gV} {a : Ab} (hX : cx_X Γ Ξ cL_law RL 4) (hR : Γ.2.2.2.1 = cx_R 13 600000 7302250) (hs : scr Γ Ξ b L xs) (hL : L ≤ 384) (hi : i + 6 ≤ L) (hc : c < 900000) (hI : InvX vX a c) (hM : InvM vM a) (hK : lw_K Γ Ξ Q σX σM b i c) : cx_G Γ Ξ Q 4 139 4654 (gx_w LX σX Ξ.1 vX) (gx_w LM σM Ξ.1 vM) 184 [(3, .int (nI i)), (2, .ref (σM 0)), (1, .ref (σX 0)), (0, .ref b)] [] := by
  obtain ⟨⟨r1, v1⟩, e1, h1, I1⟩ := (type_X hI (by omega) : OKX (f_X7_type (xs (i + 1)) (xs (i + 2)) vX) (sp_type (xs (i + 1)) (xs (i + 2)) a) c)
  obtain ⟨⟨r2, v2⟩, e2, h2, I2⟩ := (type_M hM : OKM (f_X8_type (xs (i + 1)) (xs (i + 2)) vM) (sp_type (xs (i + 1)) (xs (i + 2)) a))
  have h1 : r1 = (sp_type (xs (i + 1)) (xs (i + 2)) a).1 := h1
  have h2 : r2 = (sp_type (xs (i + 1)) (xs (i + 2)) a).1 := h2
  refine cb_aload_n (n := 185) hX 2 dL_law_184 rfl rfl rfl ?_
  refine lw_arg (p1 := 186) (p2 := 187) (p3 := 188) (p4 := 189) (p5 := 190) hX hs 1 rfl (by omega) hL rfl ⟨rfl, rfl, rfl, rfl, rfl⟩ dL_law_185 dL_law_186 dL_law_187 dL_law_188 dL_law_189 ?_
  refine lw_arg (p1 := 191) (p2 := 192) (p3 := 193) (p4 := 194) (p5 := 195) hX hs 2 rfl (by omega) hL rfl ⟨rfl, rfl, rfl, rfl, rfl⟩ dL_law_190 dL_law_191 dL_law_192 dL_law_193 dL_law_194 ?_
  refine cb_virtI (n := 198) (q := 0) (As := [.int (xs (i + 1)), .int (xs (i + 2))]) (st := []) hX hR kc_X7 ly_X7 mv_X7_type ml_L_13 (m_X7_type Γ.2.1 (σX, Ξ.1, Ξ.2.1, gA LX σX) _ _ vX e1) rfl ⟨rfl, rfl⟩ rfl rfl rfl dL_law_195 rfl rfl ?_
  refine cb_comm ?_
  refine cb_aload_n (n := 199) hX 1 dL_law_198 rfl rfl rfl ?_
  refine lw_arg (p1 := 200) (p2 := 201) (p3 := 202) (p4 := 203) (p5 := 204) hX hs 1 rfl (by omega) hL rfl ⟨rfl, rfl, rfl, rfl, rfl⟩ dL_law_199 dL_law_200 dL_law_201 dL_law_202 dL_law_203 ?_
  refine lw_arg (p1 := 205) (p2 := 206) (p3 := 207) (p4 := 208) (p5 := 209) hX hs 2 rfl (by omega) hL rfl ⟨rfl, rfl, rfl, rfl, rfl⟩ dL_law_204 dL_law_205 dL_law_206 dL_law_207 dL_law_208 ?_
  refine cb_virtI (n := 212) (q := 0) (As := [.int (xs (i + 1)), .int (xs (i + 2))]) (st := [.int r1]) hX hR kc_X8 ly_X8 mv_X8_type ml_L_17 (m_X8_type Γ.2.1 (σM, Ξ.1, Ξ.2.1, gA LM σM) _ _ vM e2) rfl ⟨rfl, rfl⟩ rfl rfl rfl dL_law_209 rfl rfl ?_
  refine cb_eqT (tgt := 1198) hX (h1.trans h2.symm) dL_law_212 (by decide) ?_
  refine cb_comm ?_
  exact hK v1 v2 _ (c + 1) (by omega) I1 I2
theorem lwc_1 {Γ : gC} {Ξ : cO} {Q : State → Prop} {σX σM : Nat → Nat} {b L i c : Nat} {xs : Nat → Int32} {vX vM : gV} {a : Ab} (hX : cx_X Γ Ξ cL_law RL 4) (hR : Γ.2.2.2.1 = cx_R 13 600000 7302250) (hs : scr Γ Ξ b L xs) (hL : L ≤ 384) (hi : i + 6 ≤ L) (hc : c < 900000) (hI : InvX vX a c) (hM : InvM vM a) (hK : lw_K Γ Ξ Q σX σM b i c) : cx_G Γ Ξ Q 4 139 4654 (gx_w LX σX Ξ.1 vX) (gx_w LM σM Ξ.1 vM) 217 [(3, .int (nI i)), (2, .ref (σM 0)), (1, .ref (σX 0)), (0, .ref b)] [] := by
  obtain ⟨⟨r1, v1⟩, e1, h1, I1⟩ := (wipe_X hI (by omega) : OKX (f_X7_wipe (xs (i + 1)) vX) (sp_wipe (xs (i + 1)) a) c)
  obtain ⟨⟨r2, v2⟩, e2, h2, I2⟩ := (wipe_M hM : OKM (f_X8_wipe (xs (i + 1)) vM) (sp_wipe (xs (i + 1)) a))
  have h1 : r1 = (sp_wipe (xs (i + 1)) a).1 := h1
  have h2 : r2 = (sp_wipe (xs (i + 1)) a).1 := h2
  refine cb_aload_n (n := 218) hX 2 dL_law_217 rfl rfl rfl ?_
  refine lw_arg (p1 := 219) (p2 := 220) (p3 := 221) (p4 := 222) (p5 := 223) hX hs 1 rfl (by omega) hL rfl ⟨rfl, rfl, rfl, rfl, rfl⟩ dL_law_218 dL_law_219 dL_law_220 dL_law_221 dL_law_222 ?_
  refine cb_virtI (n := 226) (q := 0) (As := [.int (xs (i + 1))]) (st := []) hX hR kc_X7 ly_X7 mv_X7_wipe ml_L_18 (m_X7_wipe Γ.2.1 (σX, Ξ.1, Ξ.2.1, gA LX σX) _ vX e1) rfl ⟨rfl, rfl⟩ rfl rfl rfl dL_law_223 rfl rfl ?_
  refine cb_comm ?_
  refine cb_aload_n (n := 227) hX 1 dL_law_226 rfl rfl rfl ?_
  refine lw_arg (p1 := 228) (p2 := 229) (p3 := 230) (p4 := 231) (p5 := 232) hX hs 1 rfl (by omega) hL rfl ⟨rfl, rfl, rfl, rfl, rfl⟩ dL_law_227 dL_law_228 dL_law_229 dL_law_230 dL_law_231 ?_
  refine cb_virtI (n := 235) (q := 0) (As := [.int (xs (i + 1))]) (st := [.int r1]) hX hR kc_X8 ly_X8 mv_X8_wipe ml_L_22 (m_X8_wipe Γ.2.1 (σM, Ξ.1, Ξ.2.1, gA LM σM) _ vM e2) rfl ⟨rfl, rfl⟩ rfl rfl rfl dL_law_232 rfl rfl ?_
  refine cb_eqT (tgt := 1198) hX (h1.trans h2.symm) dL_law_235 (by decide) ?_
  refine cb_comm ?_
  exact hK v1 v2 _ (c + 1) (by omega) I1 I2
theorem lwc_2 {Γ : gC} {Ξ : cO} {Q : State → Prop} {σX σM : Nat → Nat} {b L i c : Nat} {xs : Nat → Int32} {vX vM : gV} {a : Ab} (hX : cx_X Γ Ξ cL_law RL 4) (hR : Γ.2.2.2.1 = cx_R 13 600000 7302250) (hs : scr Γ Ξ b L xs) (hL : L ≤ 384) (hi : i + 6 ≤ L) (hc : c < 900000) (hI : InvX vX a c) (hM : InvM vM a) (hK : lw_K Γ Ξ Q σX σM b i c) : cx_G Γ Ξ Q 4 139 4654 (gx_w LX σX Ξ.1 vX) (gx_w LM σM Ξ.1 vM) 240 [(3, .int (nI i)), (2, .ref (σM 0)), (1, .ref (σX 0)), (0, .ref b)] [] := by
  obtain ⟨⟨r1, v1⟩, e1, h1, I1⟩ := (undo_X hI (by omega) : OKX (f_X7_undo (xs (i + 1)) vX) (sp_undo (xs (i + 1)) a) c)
  obtain ⟨⟨r2, v2⟩, e2, h2, I2⟩ := (undo_M hM : OKM (f_X8_undo (xs (i + 1)) vM) (sp_undo (xs (i + 1)) a))
  have h1 : r1 = (sp_undo (xs (i + 1)) a).1 := h1
  have h2 : r2 = (sp_undo (xs (i + 1)) a).1 := h2
  refine cb_aload_n (n := 241) hX 2 dL_law_240 rfl rfl rfl ?_
  refine lw_arg (p1 := 242) (p2 := 243) (p3 := 244) (p4 := 245) (p5 := 246) hX hs 1 rfl (by omega) hL rfl ⟨rfl, rfl, rfl, rfl, rfl⟩ dL_law_241 dL_law_242 dL_law_243 dL_law_244 dL_law_245 ?_
  refine cb_virtI (n := 249) (q := 0) (As := [.int (xs (i + 1))]) (st := []) hX hR kc_X7 ly_X7 mv_X7_undo ml_L_23 (m_X7_undo Γ.2.1 (σX, Ξ.1, Ξ.2.1, gA LX σX) _ vX e1) rfl ⟨rfl, rfl⟩ rfl rfl rfl dL_law_246 rfl rfl ?_
  refine cb_comm ?_
  refine cb_aload_n (n := 250) hX 1 dL_law_249 rfl rfl rfl ?_
  refine lw_arg (p1 := 251) (p2 := 252) (p3 := 253) (p4 := 254) (p5 := 255) hX hs 1 rfl (by omega) hL rfl ⟨rfl, rfl, rfl, rfl, rfl⟩ dL_law_250 dL_law_251 dL_law_252 dL_law_253 dL_law_254 ?_
  refine cb_virtI (n := 258) (q := 0) (As := [.int (xs (i + 1))]) (st := [.int r1]) hX hR kc_X8 ly_X8 mv_X8_undo ml_L_26 (m_X8_undo Γ.2.1 (σM, Ξ.1, Ξ.2.1, gA LM σM) _ vM e2) rfl ⟨rfl, rfl⟩ rfl rfl rfl dL_law_255 rfl rfl ?_
  refine cb_eqT (tgt := 1198) hX (h1.trans h2.symm) dL_law_258 (by decide) ?_
  refine cb_comm ?_
  exact hK v1 v2 _ (c + 1) (by omega) I1 I2
theorem lwc_3 {Γ : gC} {Ξ : cO} {Q : State → Prop} {σX σM : Nat → Nat} {b L i c : Nat} {xs : Nat → Int32} {vX vM : gV} {a : Ab} (hX : cx_X Γ Ξ cL_law RL 4) (hR : Γ.2.2.2.1 = cx_R 13 600000 7302250) (hs : scr Γ Ξ b L xs) (hL : L ≤ 384) (hi : i + 6 ≤ L) (hc : c < 900000) (hI : InvX vX a c) (hM : InvM vM a) (hK : lw_K Γ Ξ Q σX σM b i c) : cx_G Γ Ξ Q 4 139 4654 (gx_w LX σX Ξ.1 vX) (gx_w LM σM Ξ.1 vM) 263 [(3, .int (nI i)), (2, .ref (σM 0)), (1, .ref (σX 0)), (0, .ref b)] [] := by
  obtain ⟨⟨r1, v1⟩, e1, h1, I1⟩ := (fault_X hI (by omega) : OKX (f_X7_fault (xs (i + 1)) vX) (sp_fault (xs (i + 1)) a) c)
  obtain ⟨⟨r2, v2⟩, e2, h2, I2⟩ := (fault_M hM : OKM (f_X8_fault (xs (i + 1)) vM) (sp_fault (xs (i + 1)) a))
  have h1 : r1 = (sp_fault (xs (i + 1)) a).1 := h1
  have h2 : r2 = (sp_fault (xs (i + 1)) a).1 := h2
  refine cb_aload_n (n := 264) hX 2 dL_law_263 rfl rfl rfl ?_
  refine lw_arg (p1 := 265) (p2 := 266) (p3 := 267) (p4 := 268) (p5 := 269) hX hs 1 rfl (by omega) hL rfl ⟨rfl, rfl, rfl, rfl, rfl⟩ dL_law_264 dL_law_265 dL_law_266 dL_law_267 dL_law_268 ?_
  refine cb_virtI (n := 272) (q := 0) (As := [.int (xs (i + 1))]) (st := []) hX hR kc_X7 ly_X7 mv_X7_fault ml_L_27 (m_X7_fault Γ.2.1 (σX, Ξ.1, Ξ.2.1, gA LX σX) _ vX e1) rfl ⟨rfl, rfl⟩ rfl rfl rfl dL_law_269 rfl rfl ?_
  refine cb_comm ?_
  refine cb_aload_n (n := 273) hX 1 dL_law_272 rfl rfl rfl ?_
  refine lw_arg (p1 := 274) (p2 := 275) (p3 := 276) (p4 := 277) (p5 := 278) hX hs 1 rfl (by omega) hL rfl ⟨rfl, rfl, rfl, rfl, rfl⟩ dL_law_273 dL_law_274 dL_law_275 dL_law_276 dL_law_277 ?_
  refine cb_virtI (n := 281) (q := 0) (As := [.int (xs (i + 1))]) (st := [.int r1]) hX hR kc_X8 ly_X8 mv_X8_fault ml_L_30 (m_X8_fault Γ.2.1 (σM, Ξ.1, Ξ.2.1, gA LM σM) _ vM e2) rfl ⟨rfl, rfl⟩ rfl rfl rfl dL_law_278 rfl rfl ?_
  refine cb_eqT (tgt := 1198) hX (h1.trans h2.symm) dL_law_281 (by decide) ?_
  refine cb_comm ?_
  exact hK v1 v2 _ (c + 1) (by omega) I1 I2
theorem lwc_4 {Γ : gC} {Ξ : cO} {Q : State → Prop} {σX σM : Nat → Nat} {b L i c : Nat} {xs : Nat → Int32} {vX vM : gV} {a : Ab} (hX : cx_X Γ Ξ cL_law RL 4) (hR : Γ.2.2.2.1 = cx_R 13 600000 7302250) (hs : scr Γ Ξ b L xs) (hL : L ≤ 384) (hi : i + 6 ≤ L) (hc : c < 900000) (hI : InvX vX a c) (hM : InvM vM a) (hK : lw_K Γ Ξ Q σX σM b i c) : cx_G Γ Ξ Q 4 139 4654 (gx_w LX σX Ξ.1 vX) (gx_w LM σM Ξ.1 vM) 286 [(3, .int (nI i)), (2, .ref (σM 0)), (1, .ref (σX 0)), (0, .ref b)] [] := by
  obtain ⟨⟨r1, v1⟩, e1, h1, I1⟩ := (rider_X hI (by omega) : OKX (f_X7_rider (xs (i + 1)) (xs (i + 2)) vX) (sp_rider (xs (i + 1)) (xs (i + 2)) a) c)
  obtain ⟨⟨r2, v2⟩, e2, h2, I2⟩ := (rider_M hM : OKM (f_X8_rider (xs (i + 1)) (xs (i + 2)) vM) (sp_rider (xs (i + 1)) (xs (i + 2)) a))
  have h1 : r1 = (sp_rider (xs (i + 1)) (xs (i + 2)) a).1 := h1
  have h2 : r2 = (sp_rider (xs (i + 1)) (xs (i + 2)) a).1 := h2
  refine cb_aload_n (n := 287) hX 2 dL_law_286 rfl rfl rfl ?_
  refine lw_arg (p1 := 288) (p2 := 289) (p3 := 290) (p4 := 291) (p5 := 292) hX hs 1 rfl (by omega) hL rfl ⟨rfl, rfl, rfl, rfl, rfl⟩ dL_law_287 dL_law_288 dL_law_289 dL_law_290 dL_law_291 ?_
  refine lw_arg (p1 := 293) (p2 := 294) (p3 := 295) (p4 := 296) (p5 := 297) hX hs 2 rfl (by omega) hL rfl ⟨rfl, rfl, rfl, rfl, rfl⟩ dL_law_292 dL_law_293 dL_law_294 dL_law_295 dL_law_296 ?_
  refine cb_virtI (n := 300) (q := 0) (As := [.int (xs (i + 1)), .int (xs (i + 2))]) (st := []) hX hR kc_X7 ly_X7 mv_X7_rider ml_L_31 (m_X7_rider Γ.2.1 (σX, Ξ.1, Ξ.2.1, gA LX σX) _ _ vX e1) rfl ⟨rfl, rfl⟩ rfl rfl rfl dL_law_297 rfl rfl ?_
  refine cb_comm ?_
  refine cb_aload_n (n := 301) hX 1 dL_law_300 rfl rfl rfl ?_
  refine lw_arg (p1 := 302) (p2 := 303) (p3 := 304) (p4 := 305) (p5 := 306) hX hs 1 rfl (by omega) hL rfl ⟨rfl, rfl, rfl, rfl, rfl⟩ dL_law_301 dL_law_302 dL_law_303 dL_law_304 dL_law_305 ?_
  refine lw_arg (p1 := 307) (p2 := 308) (p3 := 309) (p4 := 310) (p5 := 311) hX hs 2 rfl (by omega) hL rfl ⟨rfl, rfl, rfl, rfl, rfl⟩ dL_law_306 dL_law_307 dL_law_308 dL_law_309 dL_law_310 ?_
  refine cb_virtI (n := 314) (q := 0) (As := [.int (xs (i + 1)), .int (xs (i + 2))]) (st := [.int r1]) hX hR kc_X8 ly_X8 mv_X8_rider ml_L_34 (m_X8_rider Γ.2.1 (σM, Ξ.1, Ξ.2.1, gA LM σM) _ _ vM e2) rfl ⟨rfl, rfl⟩ rfl rfl rfl dL_law_311 rfl rfl ?_
  refine cb_eqT (tgt := 1198) hX (h1.trans h2.symm) dL_law_314 (by decide) ?_
  refine cb_comm ?_
  exact hK v1 v2 _ (c + 1) (by omega) I1 I2
theorem lwc_5 {Γ : gC} {Ξ : cO} {Q : State → Prop} {σX σM : Nat → Nat} {b L i c : Nat} {xs : Nat → Int32} {vX vM : gV} {a : Ab} (hX : cx_X Γ Ξ cL_law RL 4) (hR : Γ.2.2.2.1 = cx_R 13 600000 7302250) (hs : scr Γ Ξ b L xs) (hL : L ≤ 384) (hi : i + 6 ≤ L) (hc : c < 900000) (hI : InvX vX a c) (hM : InvM vM a) (hK : lw_K Γ Ξ Q σX σM b i c) : cx_G Γ Ξ Q 4 139 4654 (gx_w LX σX Ξ.1 vX) (gx_w LM σM Ξ.1 vM) 319 [(3, .int (nI i)), (2, .ref (σM 0)), (1, .ref (σX 0)), (0, .ref b)] [] := by
  obtain ⟨⟨r1, v1⟩, e1, h1, I1⟩ := (worth_X hI (by omega) : OKX (f_X7_worth (xs (i + 1)) (xs (i + 2)) vX) (sp_worth (xs (i + 1)) (xs (i + 2)) a) c)
  obtain ⟨⟨r2, v2⟩, e2, h2, I2⟩ := (worth_M hM : OKM (f_X8_worth (xs (i + 1)) (xs (i + 2)) vM) (sp_worth (xs (i + 1)) (xs (i + 2)) a))
  have h1 : r1 = (sp_worth (xs (i + 1)) (xs (i + 2)) a).1 := h1
  have h2 : r2 = (sp_worth (xs (i + 1)) (xs (i + 2)) a).1 := h2
  refine cb_aload_n (n := 320) hX 2 dL_law_319 rfl rfl rfl ?_
  refine lw_arg (p1 := 321) (p2 := 322) (p3 := 323) (p4 := 324) (p5 := 325) hX hs 1 rfl (by omega) hL rfl ⟨rfl, rfl, rfl, rfl, rfl⟩ dL_law_320 dL_law_321 dL_law_322 dL_law_323 dL_law_324 ?_
  refine lw_arg (p1 := 326) (p2 := 327) (p3 := 328) (p4 := 329) (p5 := 330) hX hs 2 rfl (by omega) hL rfl ⟨rfl, rfl, rfl, rfl, rfl⟩ dL_law_325 dL_law_326 dL_law_327 dL_law_328 dL_law_329 ?_
  refine cb_virtI (n := 333) (q := 0) (As := [.int (xs (i + 1)), .int (xs (i + 2))]) (st := []) hX hR kc_X7 ly_X7 mv_X7_worth ml_L_35 (m_X7_worth Γ.2.1 (σX, Ξ.1, Ξ.2.1, gA LX σX) _ _ vX e1) rfl ⟨rfl, rfl⟩ rfl rfl rfl dL_law_330 rfl rfl ?_
  refine cb_comm ?_
  refine cb_aload_n (n := 334) hX 1 dL_law_333 rfl rfl rfl ?_
  refine lw_arg (p1 := 335) (p2 := 336) (p3 := 337) (p4 := 338) (p5 := 339) hX hs 1 rfl (by omega) hL rfl ⟨rfl, rfl, rfl, rfl, rfl⟩ dL_law_334 dL_law_335 dL_law_336 dL_law_337 dL_law_338 ?_
  refine lw_arg (p1 := 340) (p2 := 341) (p3 := 342) (p4 := 343) (p5 := 344) hX hs 2 rfl (by omega) hL rfl ⟨rfl, rfl, rfl, rfl, rfl⟩ dL_law_339 dL_law_340 dL_law_341 dL_law_342 dL_law_343 ?_
  refine cb_virtI (n := 347) (q := 0) (As := [.int (xs (i + 1)), .int (xs (i + 2))]) (st := [.int r1]) hX hR kc_X8 ly_X8 mv_X8_worth ml_L_38 (m_X8_worth Γ.2.1 (σM, Ξ.1, Ξ.2.1, gA LM σM) _ _ vM e2) rfl ⟨rfl, rfl⟩ rfl rfl rfl dL_law_344 rfl rfl ?_
  refine cb_eqT (tgt := 1198) hX (h1.trans h2.symm) dL_law_347 (by decide) ?_
  refine cb_comm ?_
  exact hK v1 v2 _ (c + 1) (by omega) I1 I2
theorem lwc_6 {Γ : gC} {Ξ : cO} {Q : State → Prop} {σX σM : Nat → Nat} {b L i c : Nat} {xs : Nat → Int32} {vX vM : gV} {a : Ab} (hX : cx_X Γ Ξ cL_law RL 4) (hR : Γ.2.2.2.1 = cx_R 13 600000 7302250) (hs : scr Γ Ξ b L xs) (hL : L ≤ 384) (hi : i + 6 ≤ L) (hc : c < 900000) (hI : InvX vX a c) (hM : InvM vM a) (hK : lw_K Γ Ξ Q σX σM b i c) : cx_G Γ Ξ Q 4 139 4654 (gx_w LX σX Ξ.1 vX) (gx_w LM σM Ξ.1 vM) 352 [(3, .int (nI i)), (2, .ref (σM 0)), (1, .ref (σX 0)), (0, .ref b)] [] := by
  obtain ⟨⟨r1, v1⟩, e1, h1, I1⟩ := (set_X hI (by omega) : OKX (f_X7_set (xs (i + 1)) (xs (i + 2)) vX) (sp_set (xs (i + 1)) (xs (i + 2)) a) c)
  obtain ⟨⟨r2, v2⟩, e2, h2, I2⟩ := (set_M hM : OKM (f_X8_set (xs (i + 1)) (xs (i + 2)) vM) (sp_set (xs (i + 1)) (xs (i + 2)) a))
  have h1 : r1 = (sp_set (xs (i + 1)) (xs (i + 2)) a).1 := h1
  have h2 : r2 = (sp_set (xs (i + 1)) (xs (i + 2)) a).1 := h2
  refine cb_aload_n (n := 353) hX 2 dL_law_352 rfl rfl rfl ?_
  refine lw_arg (p1 := 354) (p2 := 355) (p3 := 356) (p4 := 357) (p5 := 358) hX hs 1 rfl (by omega) hL rfl ⟨rfl, rfl, rfl, rfl, rfl⟩ dL_law_353 dL_law_354 dL_law_355 dL_law_356 dL_law_357 ?_
  refine lw_arg (p1 := 359) (p2 := 360) (p3 := 361) (p4 := 362) (p5 := 363) hX hs 2 rfl (by omega) hL rfl ⟨rfl, rfl, rfl, rfl, rfl⟩ dL_law_358 dL_law_359 dL_law_360 dL_law_361 dL_law_362 ?_
  refine cb_virtI (n := 366) (q := 0) (As := [.int (xs (i + 1)), .int (xs (i + 2))]) (st := []) hX hR kc_X7 ly_X7 mv_X7_set ml_L_39 (m_X7_set Γ.2.1 (σX, Ξ.1, Ξ.2.1, gA LX σX) _ _ vX e1) rfl ⟨rfl, rfl⟩ rfl rfl rfl dL_law_363 rfl rfl ?_
  refine cb_comm ?_
  refine cb_aload_n (n := 367) hX 1 dL_law_366 rfl rfl rfl ?_
  refine lw_arg (p1 := 368) (p2 := 369) (p3 := 370) (p4 := 371) (p5 := 372) hX hs 1 rfl (by omega) hL rfl ⟨rfl, rfl, rfl, rfl, rfl⟩ dL_law_367 dL_law_368 dL_law_369 dL_law_370 dL_law_371 ?_
  refine lw_arg (p1 := 373) (p2 := 374) (p3 := 375) (p4 := 376) (p5 := 377) hX hs 2 rfl (by omega) hL rfl ⟨rfl, rfl, rfl, rfl, rfl⟩ dL_law_372 dL_law_373 dL_law_374 dL_law_375 dL_law_376 ?_
  refine cb_virtI (n := 380) (q := 0) (As := [.int (xs (i + 1)), .int (xs (i + 2))]) (st := [.int r1]) hX hR kc_X8 ly_X8 mv_X8_set ml_L_42 (m_X8_set Γ.2.1 (σM, Ξ.1, Ξ.2.1, gA LM σM) _ _ vM e2) rfl ⟨rfl, rfl⟩ rfl rfl rfl dL_law_377 rfl rfl ?_
  refine cb_eqT (tgt := 1198) hX (h1.trans h2.symm) dL_law_380 (by decide) ?_
  refine cb_comm ?_
  exact hK v1 v2 _ (c + 1) (by omega) I1 I2
theorem lwc_7 {Γ : gC} {Ξ : cO} {Q : State → Prop} {σX σM : Nat → Nat} {b L i c : Nat} {xs : Nat → Int32} {vX vM : gV} {a : Ab} (hX : cx_X Γ Ξ cL_law RL 4) (hR : Γ.2.2.2.1 = cx_R 13 600000 7302250) (hs : scr Γ Ξ b L xs) (hL : L ≤ 384) (hi : i + 6 ≤ L) (hc : c < 900000) (hI : InvX vX a c) (hM : InvM vM a) (hK : lw_K Γ Ξ Q σX σM b i c) : cx_G Γ Ξ Q 4 139 4654 (gx_w LX σX Ξ.1 vX) (gx_w LM σM Ξ.1 vM) 385 [(3, .int (nI i)), (2, .ref (σM 0)), (1, .ref (σX 0)), (0, .ref b)] [] := by
  obtain ⟨⟨r1, v1⟩, e1, h1, I1⟩ := (has_X hI (by omega) : OKX (f_X7_has (xs (i + 1)) (xs (i + 2)) vX) (sp_has (xs (i + 1)) (xs (i + 2)) a) c)
  obtain ⟨⟨r2, v2⟩, e2, h2, I2⟩ := (has_M hM : OKM (f_X8_has (xs (i + 1)) (xs (i + 2)) vM) (sp_has (xs (i + 1)) (xs (i + 2)) a))
  have h1 : r1 = (sp_has (xs (i + 1)) (xs (i + 2)) a).1 := h1
  have h2 : r2 = (sp_has (xs (i + 1)) (xs (i + 2)) a).1 := h2
  refine cb_aload_n (n := 386) hX 2 dL_law_385 rfl rfl rfl ?_
  refine lw_arg (p1 := 387) (p2 := 388) (p3 := 389) (p4 := 390) (p5 := 391) hX hs 1 rfl (by omega) hL rfl ⟨rfl, rfl, rfl, rfl, rfl⟩ dL_law_386 dL_law_387 dL_law_388 dL_law_389 dL_law_390 ?_
  refine lw_arg (p1 := 392) (p2 := 393) (p3 := 394) (p4 := 395) (p5 := 396) hX hs 2 rfl (by omega) hL rfl ⟨rfl, rfl, rfl, rfl, rfl⟩ dL_law_391 dL_law_392 dL_law_393 dL_law_394 dL_law_395 ?_
  refine cb_virtI (n := 399) (q := 0) (As := [.int (xs (i + 1)), .int (xs (i + 2))]) (st := []) hX hR kc_X7 ly_X7 mv_X7_has ml_L_43 (m_X7_has Γ.2.1 (σX, Ξ.1, Ξ.2.1, gA LX σX) _ _ vX e1) rfl ⟨rfl, rfl⟩ rfl rfl rfl dL_law_396 rfl rfl ?_
  refine cb_comm ?_
  refine cb_aload_n (n := 400) hX 1 dL_law_399 rfl rfl rfl ?_
  refine lw_arg (p1 := 401) (p2 := 402) (p3 := 403) (p4 := 404) (p5 := 405) hX hs 1 rfl (by omega) hL rfl ⟨rfl, rfl, rfl, rfl, rfl⟩ dL_law_400 dL_law_401 dL_law_402 dL_law_403 dL_law_404 ?_
  refine lw_arg (p1 := 406) (p2 := 407) (p3 := 408) (p4 := 409) (p5 := 410) hX hs 2 rfl (by omega) hL rfl ⟨rfl, rfl, rfl, rfl, rfl⟩ dL_law_405 dL_law_406 dL_law_407 dL_law_408 dL_law_409 ?_
  refine cb_virtI (n := 413) (q := 0) (As := [.int (xs (i + 1)), .int (xs (i + 2))]) (st := [.int r1]) hX hR kc_X8 ly_X8 mv_X8_has ml_L_46 (m_X8_has Γ.2.1 (σM, Ξ.1, Ξ.2.1, gA LM σM) _ _ vM e2) rfl ⟨rfl, rfl⟩ rfl rfl rfl dL_law_410 rfl rfl ?_
  refine cb_eqT (tgt := 1198) hX (h1.trans h2.symm) dL_law_413 (by decide) ?_
  refine cb_comm ?_
  exact hK v1 v2 _ (c + 1) (by omega) I1 I2
theorem lwc_8 {Γ : gC} {Ξ : cO} {Q : State → Prop} {σX σM : Nat → Nat} {b L i c : Nat} {xs : Nat → Int32} {vX vM : gV} {a : Ab} (hX : cx_X Γ Ξ cL_law RL 4) (hR : Γ.2.2.2.1 = cx_R 13 600000 7302250) (hs : scr Γ Ξ b L xs) (hL : L ≤ 384) (hi : i + 6 ≤ L) (hc : c < 900000) (hI : InvX vX a c) (hM : InvM vM a) (hK : lw_K Γ Ξ Q σX σM b i c) : cx_G Γ Ξ Q 4 139 4654 (gx_w LX σX Ξ.1 vX) (gx_w LM σM Ξ.1 vM) 418 [(3, .int (nI i)), (2, .ref (σM 0)), (1, .ref (σX 0)), (0, .ref b)] [] := by
  obtain ⟨⟨r1, v1⟩, e1, h1, I1⟩ := (torn_X hI (by omega) : OKX (f_X7_torn (xs (i + 1)) (xs (i + 2)) vX) (sp_torn (xs (i + 1)) (xs (i + 2)) a) c)
  obtain ⟨⟨r2, v2⟩, e2, h2, I2⟩ := (torn_M hM : OKM (f_X8_torn (xs (i + 1)) (xs (i + 2)) vM) (sp_torn (xs (i + 1)) (xs (i + 2)) a))
  have h1 : r1 = (sp_torn (xs (i + 1)) (xs (i + 2)) a).1 := h1
  have h2 : r2 = (sp_torn (xs (i + 1)) (xs (i + 2)) a).1 := h2
  refine cb_aload_n (n := 419) hX 2 dL_law_418 rfl rfl rfl ?_
  refine lw_arg (p1 := 420) (p2 := 421) (p3 := 422) (p4 := 423) (p5 := 424) hX hs 1 rfl (by omega) hL rfl ⟨rfl, rfl, rfl, rfl, rfl⟩ dL_law_419 dL_law_420 dL_law_421 dL_law_422 dL_law_423 ?_
  refine lw_arg (p1 := 425) (p2 := 426) (p3 := 427) (p4 := 428) (p5 := 429) hX hs 2 rfl (by omega) hL rfl ⟨rfl, rfl, rfl, rfl, rfl⟩ dL_law_424 dL_law_425 dL_law_426 dL_law_427 dL_law_428 ?_
  refine cb_virtI (n := 432) (q := 0) (As := [.int (xs (i + 1)), .int (xs (i + 2))]) (st := []) hX hR kc_X7 ly_X7 mv_X7_torn ml_L_47 (m_X7_torn Γ.2.1 (σX, Ξ.1, Ξ.2.1, gA LX σX) _ _ vX e1) rfl ⟨rfl, rfl⟩ rfl rfl rfl dL_law_429 rfl rfl ?_
  refine cb_comm ?_
  refine cb_aload_n (n := 433) hX 1 dL_law_432 rfl rfl rfl ?_
  refine lw_arg (p1 := 434) (p2 := 435) (p3 := 436) (p4 := 437) (p5 := 438) hX hs 1 rfl (by omega) hL rfl ⟨rfl, rfl, rfl, rfl, rfl⟩ dL_law_433 dL_law_434 dL_law_435 dL_law_436 dL_law_437 ?_
  refine lw_arg (p1 := 439) (p2 := 440) (p3 := 441) (p4 := 442) (p5 := 443) hX hs 2 rfl (by omega) hL rfl ⟨rfl, rfl, rfl, rfl, rfl⟩ dL_law_438 dL_law_439 dL_law_440 dL_law_441 dL_law_442 ?_
  refine cb_virtI (n := 446) (q := 0) (As := [.int (xs (i + 1)), .int (xs (i + 2))]) (st := [.int r1]) hX hR kc_X8 ly_X8 mv_X8_torn ml_L_50 (m_X8_torn Γ.2.1 (σM, Ξ.1, Ξ.2.1, gA LM σM) _ _ vM e2) rfl ⟨rfl, rfl⟩ rfl rfl rfl dL_law_443 rfl rfl ?_
  refine cb_eqT (tgt := 1198) hX (h1.trans h2.symm) dL_law_446 (by decide) ?_
  refine cb_comm ?_
  exact hK v1 v2 _ (c + 1) (by omega) I1 I2
theorem lwc_9 {Γ : gC} {Ξ : cO} {Q : State → Prop} {σX σM : Nat → Nat} {b L i c : Nat} {xs : Nat → Int32} {vX vM : gV} {a : Ab} (hX : cx_X Γ Ξ cL_law RL 4) (hR : Γ.2.2.2.1 = cx_R 13 600000 7302250) (hs : scr Γ Ξ b L xs) (hL : L ≤ 384) (hi : i + 6 ≤ L) (hc : c < 900000) (hI : InvX vX a c) (hM : InvM vM a) (hK : lw_K Γ Ξ Q σX σM b i c) : cx_G Γ Ξ Q 4 139 4654 (gx_w LX σX Ξ.1 vX) (gx_w LM σM Ξ.1 vM) 451 [(3, .int (nI i)), (2, .ref (σM 0)), (1, .ref (σX 0)), (0, .ref b)] [] := by
  obtain ⟨⟨r1, v1⟩, e1, h1, I1⟩ := (bag_X hI (by omega) : OKX (f_X7_bag (xs (i + 1)) (xs (i + 2)) vX) (sp_bag (xs (i + 1)) (xs (i + 2)) a) c)
  obtain ⟨⟨r2, v2⟩, e2, h2, I2⟩ := (bag_M hM : OKM (f_X8_bag (xs (i + 1)) (xs (i + 2)) vM) (sp_bag (xs (i + 1)) (xs (i + 2)) a))
  have h1 : r1 = (sp_bag (xs (i + 1)) (xs (i + 2)) a).1 := h1
  have h2 : r2 = (sp_bag (xs (i + 1)) (xs (i + 2)) a).1 := h2
  refine cb_aload_n (n := 452) hX 2 dL_law_451 rfl rfl rfl ?_
  refine lw_arg (p1 := 453) (p2 := 454) (p3 := 455) (p4 := 456) (p5 := 457) hX hs 1 rfl (by omega) hL rfl ⟨rfl, rfl, rfl, rfl, rfl⟩ dL_law_452 dL_law_453 dL_law_454 dL_law_455 dL_law_456 ?_
  refine lw_arg (p1 := 458) (p2 := 459) (p3 := 460) (p4 := 461) (p5 := 462) hX hs 2 rfl (by omega) hL rfl ⟨rfl, rfl, rfl, rfl, rfl⟩ dL_law_457 dL_law_458 dL_law_459 dL_law_460 dL_law_461 ?_
  refine cb_virtI (n := 465) (q := 0) (As := [.int (xs (i + 1)), .int (xs (i + 2))]) (st := []) hX hR kc_X7 ly_X7 mv_X7_bag ml_L_51 (m_X7_bag Γ.2.1 (σX, Ξ.1, Ξ.2.1, gA LX σX) _ _ vX e1) rfl ⟨rfl, rfl⟩ rfl rfl rfl dL_law_462 rfl rfl ?_
  refine cb_comm ?_
  refine cb_aload_n (n := 466) hX 1 dL_law_465 rfl rfl rfl ?_
  refine lw_arg (p1 := 467) (p2 := 468) (p3 := 469) (p4 := 470) (p5 := 471) hX hs 1 rfl (by omega) hL rfl ⟨rfl, rfl, rfl, rfl, rfl⟩ dL_law_466 dL_law_467 dL_law_468 dL_law_469 dL_law_470 ?_
  refine lw_arg (p1 := 472) (p2 := 473) (p3 := 474) (p4 := 475) (p5 := 476) hX hs 2 rfl (by omega) hL rfl ⟨rfl, rfl, rfl, rfl, rfl⟩ dL_law_471 dL_law_472 dL_law_473 dL_law_474 dL_law_475 ?_
  refine cb_virtI (n := 479) (q := 0) (As := [.int (xs (i + 1)), .int (xs (i + 2))]) (st := [.int r1]) hX hR kc_X8 ly_X8 mv_X8_bag ml_L_54 (m_X8_bag Γ.2.1 (σM, Ξ.1, Ξ.2.1, gA LM σM) _ _ vM e2) rfl ⟨rfl, rfl⟩ rfl rfl rfl dL_law_476 rfl rfl ?_
  refine cb_eqT (tgt := 1198) hX (h1.trans h2.symm) dL_law_479 (by decide) ?_
  refine cb_comm ?_
  exact hK v1 v2 _ (c + 1) (by omega) I1 I2
theorem lwc_10 {Γ : gC} {Ξ : cO} {Q : State → Prop} {σX σM : Nat → Nat} {b L i c : Nat} {xs : Nat → Int32} {vX vM : gV} {a : Ab} (hX : cx_X Γ Ξ cL_law RL 4) (hR : Γ.2.2.2.1 = cx_R 13 600000 7302250) (hs : scr Γ Ξ b L xs) (hL : L ≤ 384) (hi : i + 6 ≤ L) (hc : c < 900000) (hI : InvX vX a c) (hM : InvM vM a) (hK : lw_K Γ Ξ Q σX σM b i c) : cx_G Γ Ξ Q 4 139 4654 (gx_w LX σX Ξ.1 vX) (gx_w LM σM Ξ.1 vM) 484 [(3, .int (nI i)), (2, .ref (σM 0)), (1, .ref (σX 0)), (0, .ref b)] [] := by
  obtain ⟨⟨r1, v1⟩, e1, h1, I1⟩ := (gets_X hI (by omega) : OKX (f_X7_gets (xs (i + 1)) vX) (sp_gets (xs (i + 1)) a) c)
  obtain ⟨⟨r2, v2⟩, e2, h2, I2⟩ := (gets_M hM : OKM (f_X8_gets (xs (i + 1)) vM) (sp_gets (xs (i + 1)) a))
  have h1 : r1 = (sp_gets (xs (i + 1)) a).1 := h1
  have h2 : r2 = (sp_gets (xs (i + 1)) a).1 := h2
  refine cb_aload_n (n := 485) hX 2 dL_law_484 rfl rfl rfl ?_
  refine lw_arg (p1 := 486) (p2 := 487) (p3 := 488) (p4 := 489) (p5 := 490) hX hs 1 rfl (by omega) hL rfl ⟨rfl, rfl, rfl, rfl, rfl⟩ dL_law_485 dL_law_486 dL_law_487 dL_law_488 dL_law_489 ?_
  refine cb_virtI (n := 493) (q := 0) (As := [.int (xs (i + 1))]) (st := []) hX hR kc_X7 ly_X7 mv_X7_gets ml_L_55 (m_X7_gets Γ.2.1 (σX, Ξ.1, Ξ.2.1, gA LX σX) _ vX e1) rfl ⟨rfl, rfl⟩ rfl rfl rfl dL_law_490 rfl rfl ?_
  refine cb_comm ?_
  refine cb_aload_n (n := 494) hX 1 dL_law_493 rfl rfl rfl ?_
  refine lw_arg (p1 := 495) (p2 := 496) (p3 := 497) (p4 := 498) (p5 := 499) hX hs 1 rfl (by omega) hL rfl ⟨rfl, rfl, rfl, rfl, rfl⟩ dL_law_494 dL_law_495 dL_law_496 dL_law_497 dL_law_498 ?_
  refine cb_virtI (n := 502) (q := 0) (As := [.int (xs (i + 1))]) (st := [.int r1]) hX hR kc_X8 ly_X8 mv_X8_gets ml_L_58 (m_X8_gets Γ.2.1 (σM, Ξ.1, Ξ.2.1, gA LM σM) _ vM e2) rfl ⟨rfl, rfl⟩ rfl rfl rfl dL_law_499 rfl rfl ?_
  refine cb_eqT (tgt := 1198) hX (h1.trans h2.symm) dL_law_502 (by decide) ?_
  refine cb_comm ?_
  exact hK v1 v2 _ (c + 1) (by omega) I1 I2
theorem lwc_11 {Γ : gC} {Ξ : cO} {Q : State → Prop} {σX σM : Nat → Nat} {b L i c : Nat} {xs : Nat → Int32} {vX vM : gV} {a : Ab} (hX : cx_X Γ Ξ cL_law RL 4) (hR : Γ.2.2.2.1 = cx_R 13 600000 7302250) (hs : scr Γ Ξ b L xs) (hL : L ≤ 384) (hi : i + 6 ≤ L) (hc : c < 900000) (hI : InvX vX a c) (hM : InvM vM a) (hK : lw_K Γ Ξ Q σX σM b i c) : cx_G Γ Ξ Q 4 139 4654 (gx_w LX σX Ξ.1 vX) (gx_w LM σM Ξ.1 vM) 507 [(3, .int (nI i)), (2, .ref (σM 0)), (1, .ref (σX 0)), (0, .ref b)] [] := by
  obtain ⟨⟨r1, v1⟩, e1, h1, I1⟩ := (first_X hI (by omega) : OKX (f_X7_first (xs (i + 1)) vX) (sp_first (xs (i + 1)) a) c)
  obtain ⟨⟨r2, v2⟩, e2, h2, I2⟩ := (first_M hM : OKM (f_X8_first (xs (i + 1)) vM) (sp_first (xs (i + 1)) a))
  have h1 : r1 = (sp_first (xs (i + 1)) a).1 := h1
  have h2 : r2 = (sp_first (xs (i + 1)) a).1 := h2
  refine cb_aload_n (n := 508) hX 2 dL_law_507 rfl rfl rfl ?_
  refine lw_arg (p1 := 509) (p2 := 510) (p3 := 511) (p4 := 512) (p5 := 513) hX hs 1 rfl (by omega) hL rfl ⟨rfl, rfl, rfl, rfl, rfl⟩ dL_law_508 dL_law_509 dL_law_510 dL_law_511 dL_law_512 ?_
  refine cb_virtI (n := 516) (q := 0) (As := [.int (xs (i + 1))]) (st := []) hX hR kc_X7 ly_X7 mv_X7_first ml_L_59 (m_X7_first Γ.2.1 (σX, Ξ.1, Ξ.2.1, gA LX σX) _ vX e1) rfl ⟨rfl, rfl⟩ rfl rfl rfl dL_law_513 rfl rfl ?_
  refine cb_comm ?_
  refine cb_aload_n (n := 517) hX 1 dL_law_516 rfl rfl rfl ?_
  refine lw_arg (p1 := 518) (p2 := 519) (p3 := 520) (p4 := 521) (p5 := 522) hX hs 1 rfl (by omega) hL rfl ⟨rfl, rfl, rfl, rfl, rfl⟩ dL_law_517 dL_law_518 dL_law_519 dL_law_520 dL_law_521 ?_
  refine cb_virtI (n := 525) (q := 0) (As := [.int (xs (i + 1))]) (st := [.int r1]) hX hR kc_X8 ly_X8 mv_X8_first ml_L_62 (m_X8_first Γ.2.1 (σM, Ξ.1, Ξ.2.1, gA LM σM) _ vM e2) rfl ⟨rfl, rfl⟩ rfl rfl rfl dL_law_522 rfl rfl ?_
  refine cb_eqT (tgt := 1198) hX (h1.trans h2.symm) dL_law_525 (by decide) ?_
  refine cb_comm ?_
  exact hK v1 v2 _ (c + 1) (by omega) I1 I2
theorem lwc_12 {Γ : gC} {Ξ : cO} {Q : State → Prop} {σX σM : Nat → Nat} {b L i c : Nat} {xs : Nat → Int32} {vX vM : gV} {a : Ab} (hX : cx_X Γ Ξ cL_law RL 4) (hR : Γ.2.2.2.1 = cx_R 13 600000 7302250) (hs : scr Γ Ξ b L xs) (hL : L ≤ 384) (hi : i + 6 ≤ L) (hc : c < 900000) (hI : InvX vX a c) (hM : InvM vM a) (hK : lw_K Γ Ξ Q σX σM b i c) : cx_G Γ Ξ Q 4 139 4654 (gx_w LX σX Ξ.1 vX) (gx_w LM σM Ξ.1 vM) 530 [(3, .int (nI i)), (2, .ref (σM 0)), (1, .ref (σX 0)), (0, .ref b)] [] := by
  obtain ⟨⟨r1, v1⟩, e1, h1, I1⟩ := (still_X hI (by omega) : OKX (f_X7_still  vX) (sp_still  a) c)
  obtain ⟨⟨r2, v2⟩, e2, h2, I2⟩ := (still_M hM : OKM (f_X8_still  vM) (sp_still  a))
  have h1 : r1 = (sp_still  a).1 := h1
  have h2 : r2 = (sp_still  a).1 := h2
  refine cb_aload_n (n := 531) hX 2 dL_law_530 rfl rfl rfl ?_
  refine cb_virtI (n := 534) (q := 0) (As := []) (st := []) hX hR kc_X7 ly_X7 mv_X7_still ml_L_63 (m_X7_still Γ.2.1 (σX, Ξ.1, Ξ.2.1, gA LX σX)  vX e1) rfl ⟨rfl, rfl⟩ rfl rfl rfl dL_law_531 rfl rfl ?_
  refine cb_comm ?_
  refine cb_aload_n (n := 535) hX 1 dL_law_534 rfl rfl rfl ?_
  refine cb_virtI (n := 538) (q := 0) (As := []) (st := [.int r1]) hX hR kc_X8 ly_X8 mv_X8_still ml_L_67 (m_X8_still Γ.2.1 (σM, Ξ.1, Ξ.2.1, gA LM σM)  vM e2) rfl ⟨rfl, rfl⟩ rfl rfl rfl dL_law_535 rfl rfl ?_
  refine cb_eqT (tgt := 1198) hX (h1.trans h2.symm) dL_law_538 (by decide) ?_
  refine cb_comm ?_
  exact hK v1 v2 _ (c + 1) (by omega) I1 I2
theorem lwc_13 {Γ : gC} {Ξ : cO} {Q : State → Prop} {σX σM : Nat → Nat} {b L i c : Nat} {xs : Nat → Int32} {vX vM : gV} {a : Ab} (hX : cx_X Γ Ξ cL_law RL 4) (hR : Γ.2.2.2.1 = cx_R 13 600000 7302250) (hs : scr Γ Ξ b L xs) (hL : L ≤ 384) (hi : i + 6 ≤ L) (hc : c < 900000) (hI : InvX vX a c) (hM : InvM vM a) (hK : lw_K Γ Ξ Q σX σM b i c) : cx_G Γ Ξ Q 4 139 4654 (gx_w LX σX Ξ.1 vX) (gx_w LM σM Ξ.1 vM) 543 [(3, .int (nI i)), (2, .ref (σM 0)), (1, .ref (σX 0)), (0, .ref b)] [] := by
  obtain ⟨⟨r1, v1⟩, e1, h1, I1⟩ := (served_X hI (by omega) : OKX (f_X7_served (xs (i + 1)) vX) (sp_served (xs (i + 1)) a) c)
  obtain ⟨⟨r2, v2⟩, e2, h2, I2⟩ := (served_M hM : OKM (f_X8_served (xs (i + 1)) vM) (sp_served (xs (i + 1)) a))
  have h1 : r1 = (sp_served (xs (i + 1)) a).1 := h1
  have h2 : r2 = (sp_served (xs (i + 1)) a).1 := h2
  refine cb_aload_n (n := 544) hX 2 dL_law_543 rfl rfl rfl ?_
  refine lw_arg (p1 := 545) (p2 := 546) (p3 := 547) (p4 := 548) (p5 := 549) hX hs 1 rfl (by omega) hL rfl ⟨rfl, rfl, rfl, rfl, rfl⟩ dL_law_544 dL_law_545 dL_law_546 dL_law_547 dL_law_548 ?_
  refine cb_virtI (n := 552) (q := 0) (As := [.int (xs (i + 1))]) (st := []) hX hR kc_X7 ly_X7 mv_X7_served ml_L_68 (m_X7_served Γ.2.1 (σX, Ξ.1, Ξ.2.1, gA LX σX) _ vX e1) rfl ⟨rfl, rfl⟩ rfl rfl rfl dL_law_549 rfl rfl ?_
  refine cb_comm ?_
  refine cb_aload_n (n := 553) hX 1 dL_law_552 rfl rfl rfl ?_
  refine lw_arg (p1 := 554) (p2 := 555) (p3 := 556) (p4 := 557) (p5 := 558) hX hs 1 rfl (by omega) hL rfl ⟨rfl, rfl, rfl, rfl, rfl⟩ dL_law_553 dL_law_554 dL_law_555 dL_law_556 dL_law_557 ?_
  refine cb_virtI (n := 561) (q := 0) (As := [.int (xs (i + 1))]) (st := [.int r1]) hX hR kc_X8 ly_X8 mv_X8_served ml_L_71 (m_X8_served Γ.2.1 (σM, Ξ.1, Ξ.2.1, gA LM σM) _ vM e2) rfl ⟨rfl, rfl⟩ rfl rfl rfl dL_law_558 rfl rfl ?_
  refine cb_eqT (tgt := 1198) hX (h1.trans h2.symm) dL_law_561 (by decide) ?_
  refine cb_comm ?_
  exact hK v1 v2 _ (c + 1) (by omega) I1 I2
theorem lwc_14 {Γ : gC} {Ξ : cO} {Q : State → Prop} {σX σM : Nat → Nat} {b L i c : Nat} {xs : Nat → Int32} {vX vM : gV} {a : Ab} (hX : cx_X Γ Ξ cL_law RL 4) (hR : Γ.2.2.2.1 = cx_R 13 600000 7302250) (hs : scr Γ Ξ b L xs) (hL : L ≤ 384) (hi : i + 6 ≤ L) (hc : c < 900000) (hI : InvX vX a c) (hM : InvM vM a) (hK : lw_K Γ Ξ Q σX σM b i c) : cx_G Γ Ξ Q 4 139 4654 (gx_w LX σX Ξ.1 vX) (gx_w LM σM Ξ.1 vM) 566 [(3, .int (nI i)), (2, .ref (σM 0)), (1, .ref (σX 0)), (0, .ref b)] [] := by
  obtain ⟨⟨r1, v1⟩, e1, h1, I1⟩ := (rings_X hI (by omega) : OKX (f_X7_rings (xs (i + 1)) vX) (sp_rings (xs (i + 1)) a) c)
  obtain ⟨⟨r2, v2⟩, e2, h2, I2⟩ := (rings_M hM : OKM (f_X8_rings (xs (i + 1)) vM) (sp_rings (xs (i + 1)) a))
  have h1 : r1 = (sp_rings (xs (i + 1)) a).1 := h1
  have h2 : r2 = (sp_rings (xs (i + 1)) a).1 := h2
  refine cb_aload_n (n := 567) hX 2 dL_law_566 rfl rfl rfl ?_
  refine lw_arg (p1 := 568) (p2 := 569) (p3 := 570) (p4 := 571) (p5 := 572) hX hs 1 rfl (by omega) hL rfl ⟨rfl, rfl, rfl, rfl, rfl⟩ dL_law_567 dL_law_568 dL_law_569 dL_law_570 dL_law_571 ?_
  refine cb_virtI (n := 575) (q := 0) (As := [.int (xs (i + 1))]) (st := []) hX hR kc_X7 ly_X7 mv_X7_rings ml_L_72 (m_X7_rings Γ.2.1 (σX, Ξ.1, Ξ.2.1, gA LX σX) _ vX e1) rfl ⟨rfl, rfl⟩ rfl rfl rfl dL_law_572 rfl rfl ?_
  refine cb_comm ?_
  refine cb_aload_n (n := 576) hX 1 dL_law_575 rfl rfl rfl ?_
  refine lw_arg (p1 := 577) (p2 := 578) (p3 := 579) (p4 := 580) (p5 := 581) hX hs 1 rfl (by omega) hL rfl ⟨rfl, rfl, rfl, rfl, rfl⟩ dL_law_576 dL_law_577 dL_law_578 dL_law_579 dL_law_580 ?_
  refine cb_virtI (n := 584) (q := 0) (As := [.int (xs (i + 1))]) (st := [.int r1]) hX hR kc_X8 ly_X8 mv_X8_rings ml_L_75 (m_X8_rings Γ.2.1 (σM, Ξ.1, Ξ.2.1, gA LM σM) _ vM e2) rfl ⟨rfl, rfl⟩ rfl rfl rfl dL_law_581 rfl rfl ?_
  refine cb_eqT (tgt := 1198) hX (h1.trans h2.symm) dL_law_584 (by decide) ?_
  refine cb_comm ?_
  exact hK v1 v2 _ (c + 1) (by omega) I1 I2
theorem lwc_15 {Γ : gC} {Ξ : cO} {Q : State → Prop} {σX σM : Nat → Nat} {b L i c : Nat} {xs : Nat → Int32} {vX vM : gV} {a : Ab} (hX : cx_X Γ Ξ cL_law RL 4) (hR : Γ.2.2.2.1 = cx_R 13 600000 7302250) (hs : scr Γ Ξ b L xs) (hL : L ≤ 384) (hi : i + 6 ≤ L) (hc : c < 900000) (hI : InvX vX a c) (hM : InvM vM a) (hK : lw_K Γ Ξ Q σX σM b i c) : cx_G Γ Ξ Q 4 139 4654 (gx_w LX σX Ξ.1 vX) (gx_w LM σM Ξ.1 vM) 589 [(3, .int (nI i)), (2, .ref (σM 0)), (1, .ref (σX 0)), (0, .ref b)] [] := by
  obtain ⟨⟨r1, v1⟩, e1, h1, I1⟩ := (open_X hI (by omega) : OKX (f_X7_open (xs (i + 1)) (xs (i + 2)) vX) (sp_open (xs (i + 1)) (xs (i + 2)) a) c)
  obtain ⟨⟨r2, v2⟩, e2, h2, I2⟩ := (open_M hM : OKM (f_X8_open (xs (i + 1)) (xs (i + 2)) vM) (sp_open (xs (i + 1)) (xs (i + 2)) a))
  have h1 : r1 = (sp_open (xs (i + 1)) (xs (i + 2)) a).1 := h1
  have h2 : r2 = (sp_open (xs (i + 1)) (xs (i + 2)) a).1 := h2
  refine cb_aload_n (n := 590) hX 2 dL_law_589 rfl rfl rfl ?_
  refine lw_arg (p1 := 591) (p2 := 592) (p3 := 593) (p4 := 594) (p5 := 595) hX hs 1 rfl (by omega) hL rfl ⟨rfl, rfl, rfl, rfl, rfl⟩ dL_law_590 dL_law_591 dL_law_592 dL_law_593 dL_law_594 ?_
  refine lw_arg (p1 := 596) (p2 := 597) (p3 := 598) (p4 := 599) (p5 := 600) hX hs 2 rfl (by omega) hL rfl ⟨rfl, rfl, rfl, rfl, rfl⟩ dL_law_595 dL_law_596 dL_law_597 dL_law_598 dL_law_599 ?_
  refine cb_virtI (n := 603) (q := 0) (As := [.int (xs (i + 1)), .int (xs (i + 2))]) (st := []) hX hR kc_X7 ly_X7 mv_X7_open ml_L_76 (m_X7_open Γ.2.1 (σX, Ξ.1, Ξ.2.1, gA LX σX) _ _ vX e1) rfl ⟨rfl, rfl⟩ rfl rfl rfl dL_law_600 rfl rfl ?_
  refine cb_comm ?_
  refine cb_aload_n (n := 604) hX 1 dL_law_603 rfl rfl rfl ?_
  refine lw_arg (p1 := 605) (p2 := 606) (p3 := 607) (p4 := 608) (p5 := 609) hX hs 1 rfl (by omega) hL rfl ⟨rfl, rfl, rfl, rfl, rfl⟩ dL_law_604 dL_law_605 dL_law_606 dL_law_607 dL_law_608 ?_
  refine lw_arg (p1 := 610) (p2 := 611) (p3 := 612) (p4 := 613) (p5 := 614) hX hs 2 rfl (by omega) hL rfl ⟨rfl, rfl, rfl, rfl, rfl⟩ dL_law_609 dL_law_610 dL_law_611 dL_law_612 dL_law_613 ?_
  refine cb_virtI (n := 617) (q := 0) (As := [.int (xs (i + 1)), .int (xs (i + 2))]) (st := [.int r1]) hX hR kc_X8 ly_X8 mv_X8_open ml_L_79 (m_X8_open Γ.2.1 (σM, Ξ.1, Ξ.2.1, gA LM σM) _ _ vM e2) rfl ⟨rfl, rfl⟩ rfl rfl rfl dL_law_614 rfl rfl ?_
  refine cb_eqT (tgt := 1198) hX (h1.trans h2.symm) dL_law_617 (by decide) ?_
  refine cb_comm ?_
  exact hK v1 v2 _ (c + 1) (by omega) I1 I2
theorem lwc_16 {Γ : gC} {Ξ : cO} {Q : State → Prop} {σX σM : Nat → Nat} {b L i c : Nat} {xs : Nat → Int32} {vX vM : gV} {a : Ab} (hX : cx_X Γ Ξ cL_law RL 4) (hR : Γ.2.2.2.1 = cx_R 13 600000 7302250) (hs : scr Γ Ξ b L xs) (hL : L ≤ 384) (hi : i + 6 ≤ L) (hc : c < 900000) (hI : InvX vX a c) (hM : InvM vM a) (hK : lw_K Γ Ξ Q σX σM b i c) : cx_G Γ Ξ Q 4 139 4654 (gx_w LX σX Ξ.1 vX) (gx_w LM σM Ξ.1 vM) 622 [(3, .int (nI i)), (2, .ref (σM 0)), (1, .ref (σX 0)), (0, .ref b)] [] := by
  obtain ⟨⟨r1, v1⟩, e1, h1, I1⟩ := (least_X hI (by omega) : OKX (f_X7_least (xs (i + 1)) vX) (sp_least (xs (i + 1)) a) c)
  obtain ⟨⟨r2, v2⟩, e2, h2, I2⟩ := (least_M hM : OKM (f_X8_least (xs (i + 1)) vM) (sp_least (xs (i + 1)) a))
  have h1 : r1 = (sp_least (xs (i + 1)) a).1 := h1
  have h2 : r2 = (sp_least (xs (i + 1)) a).1 := h2
  refine cb_aload_n (n := 623) hX 2 dL_law_622 rfl rfl rfl ?_
  refine lw_arg (p1 := 624) (p2 := 625) (p3 := 626) (p4 := 627) (p5 := 628) hX hs 1 rfl (by omega) hL rfl ⟨rfl, rfl, rfl, rfl, rfl⟩ dL_law_623 dL_law_624 dL_law_625 dL_law_626 dL_law_627 ?_
  refine cb_virtI (n := 631) (q := 0) (As := [.int (xs (i + 1))]) (st := []) hX hR kc_X7 ly_X7 mv_X7_least ml_L_80 (m_X7_least Γ.2.1 (σX, Ξ.1, Ξ.2.1, gA LX σX) _ vX e1) rfl ⟨rfl, rfl⟩ rfl rfl rfl dL_law_628 rfl rfl ?_
  refine cb_comm ?_
  refine cb_aload_n (n := 632) hX 1 dL_law_631 rfl rfl rfl ?_
  refine lw_arg (p1 := 633) (p2 := 634) (p3 := 635) (p4 := 636) (p5 := 637) hX hs 1 rfl (by omega) hL rfl ⟨rfl, rfl, rfl, rfl, rfl⟩ dL_law_632 dL_law_633 dL_law_634 dL_law_635 dL_law_636 ?_
  refine cb_virtI (n := 640) (q := 0) (As := [.int (xs (i + 1))]) (st := [.int r1]) hX hR kc_X8 ly_X8 mv_X8_least ml_L_83 (m_X8_least Γ.2.1 (σM, Ξ.1, Ξ.2.1, gA LM σM) _ vM e2) rfl ⟨rfl, rfl⟩ rfl rfl rfl dL_law_637 rfl rfl ?_
  refine cb_eqT (tgt := 1198) hX (h1.trans h2.symm) dL_law_640 (by decide) ?_
  refine cb_comm ?_
  exact hK v1 v2 _ (c + 1) (by omega) I1 I2
theorem lwc_17 {Γ : gC} {Ξ : cO} {Q : State → Prop} {σX σM : Nat → Nat} {b L i c : Nat} {xs : Nat → Int32} {vX vM : gV} {a : Ab} (hX : cx_X Γ Ξ cL_law RL 4) (hR : Γ.2.2.2.1 = cx_R 13 600000 7302250) (hs : scr Γ Ξ b L xs) (hL : L ≤ 384) (hi : i + 6 ≤ L) (hc : c < 900000) (hI : InvX vX a c) (hM : InvM vM a) (hK : lw_K Γ Ξ Q σX σM b i c) : cx_G Γ Ξ Q 4 139 4654 (gx_w LX σX Ξ.1 vX) (gx_w LM σM Ξ.1 vM) 645 [(3, .int (nI i)), (2, .ref (σM 0)), (1, .ref (σX 0)), (0, .ref b)] [] := by
  obtain ⟨⟨r1, v1⟩, e1, h1, I1⟩ := (top_X hI (by omega) : OKX (f_X7_top (xs (i + 1)) vX) (sp_top (xs (i + 1)) a) c)
  obtain ⟨⟨r2, v2⟩, e2, h2, I2⟩ := (top_M hM : OKM (f_X8_top (xs (i + 1)) vM) (sp_top (xs (i + 1)) a))
  have h1 : r1 = (sp_top (xs (i + 1)) a).1 := h1
  have h2 : r2 = (sp_top (xs (i + 1)) a).1 := h2
  refine cb_aload_n (n := 646) hX 2 dL_law_645 rfl rfl rfl ?_
  refine lw_arg (p1 := 647) (p2 := 648) (p3 := 649) (p4 := 650) (p5 := 651) hX hs 1 rfl (by omega) hL rfl ⟨rfl, rfl, rfl, rfl, rfl⟩ dL_law_646 dL_law_647 dL_law_648 dL_law_649 dL_law_650 ?_
  refine cb_virtI (n := 654) (q := 0) (As := [.int (xs (i + 1))]) (st := []) hX hR kc_X7 ly_X7 mv_X7_top ml_L_84 (m_X7_top Γ.2.1 (σX, Ξ.1, Ξ.2.1, gA LX σX) _ vX e1) rfl ⟨rfl, rfl⟩ rfl rfl rfl dL_law_651 rfl rfl ?_
  refine cb_comm ?_
  refine cb_aload_n (n := 655) hX 1 dL_law_654 rfl rfl rfl ?_
  refine lw_arg (p1 := 656) (p2 := 657) (p3 := 658) (p4 := 659) (p5 := 660) hX hs 1 rfl (by omega) hL rfl ⟨rfl, rfl, rfl, rfl, rfl⟩ dL_law_655 dL_law_656 dL_law_657 dL_law_658 dL_law_659 ?_
  refine cb_virtI (n := 663) (q := 0) (As := [.int (xs (i + 1))]) (st := [.int r1]) hX hR kc_X8 ly_X8 mv_X8_top ml_L_87 (m_X8_top Γ.2.1 (σM, Ξ.1, Ξ.2.1, gA LM σM) _ vM e2) rfl ⟨rfl, rfl⟩ rfl rfl rfl dL_law_660 rfl rfl ?_
  refine cb_eqT (tgt := 1198) hX (h1.trans h2.symm) dL_law_663 (by decide) ?_
  refine cb_comm ?_
  exact hK v1 v2 _ (c + 1) (by omega) I1 I2
theorem lwc_18 {Γ : gC} {Ξ : cO} {Q : State → Prop} {σX σM : Nat → Nat} {b L i c : Nat} {xs : Nat → Int32} {vX vM : gV} {a : Ab} (hX : cx_X Γ Ξ cL_law RL 4) (hR : Γ.2.2.2.1 = cx_R 13 600000 7302250) (hs : scr Γ Ξ b L xs) (hL : L ≤ 384) (hi : i + 6 ≤ L) (hc : c < 900000) (hI : InvX vX a c) (hM : InvM vM a) (hK : lw_K Γ Ξ Q σX σM b i c) : cx_G Γ Ξ Q 4 139 4654 (gx_w LX σX Ξ.1 vX) (gx_w LM σM Ξ.1 vM) 668 [(3, .int (nI i)), (2, .ref (σM 0)), (1, .ref (σX 0)), (0, .ref b)] [] := by
  obtain ⟨⟨r1, v1⟩, e1, h1, I1⟩ := (seen_X hI (by omega) : OKX (f_X7_seen (xs (i + 1)) (xs (i + 2)) (xs (i + 3)) vX) (sp_seen (xs (i + 1)) (xs (i + 2)) (xs (i + 3)) a) c)
  obtain ⟨⟨r2, v2⟩, e2, h2, I2⟩ := (seenM hM : OKM (f_X8_seen (xs (i + 1)) (xs (i + 2)) (xs (i + 3)) vM) (sp_seen (xs (i + 1)) (xs (i + 2)) (xs (i + 3)) a))
  have h1 : r1 = (sp_seen (xs (i + 1)) (xs (i + 2)) (xs (i + 3)) a).1 := h1
  have h2 : r2 = (sp_seen (xs (i + 1)) (xs (i + 2)) (xs (i + 3)) a).1 := h2
  refine cb_aload_n (n := 669) hX 2 dL_law_668 rfl rfl rfl ?_
  refine lw_arg (p1 := 670) (p2 := 671) (p3 := 672) (p4 := 673) (p5 := 674) hX hs 1 rfl (by omega) hL rfl ⟨rfl, rfl, rfl, rfl, rfl⟩ dL_law_669 dL_law_670 dL_law_671 dL_law_672 dL_law_673 ?_
  refine lw_arg (p1 := 675) (p2 := 676) (p3 := 677) (p4 := 678) (p5 := 679) hX hs 2 rfl (by omega) hL rfl ⟨rfl, rfl, rfl, rfl, rfl⟩ dL_law_674 dL_law_675 dL_law_676 dL_law_677 dL_law_678 ?_
  refine lw_arg (p1 := 680) (p2 := 681) (p3 := 682) (p4 := 683) (p5 := 684) hX hs 3 rfl (by omega) hL rfl ⟨rfl, rfl, rfl, rfl, rfl⟩ dL_law_679 dL_law_680 dL_law_681 dL_law_682 dL_law_683 ?_
  refine cb_virtI (n := 687) (q := 0) (As := [.int (xs (i + 1)), .int (xs (i + 2)), .int (xs (i + 3))]) (st := []) hX hR kc_X7 ly_X7 mv_X7_seen ml_L_88 (m_X7_seen Γ.2.1 (σX, Ξ.1, Ξ.2.1, gA LX σX) _ _ _ vX e1) rfl ⟨rfl, rfl⟩ rfl rfl rfl dL_law_684 rfl rfl ?_
  refine cb_comm ?_
  refine cb_aload_n (n := 688) hX 1 dL_law_687 rfl rfl rfl ?_
  refine lw_arg (p1 := 689) (p2 := 690) (p3 := 691) (p4 := 692) (p5 := 693) hX hs 1 rfl (by omega) hL rfl ⟨rfl, rfl, rfl, rfl, rfl⟩ dL_law_688 dL_law_689 dL_law_690 dL_law_691 dL_law_692 ?_
  refine lw_arg (p1 := 694) (p2 := 695) (p3 := 696) (p4 := 697) (p5 := 698) hX hs 2 rfl (by omega) hL rfl ⟨rfl, rfl, rfl, rfl, rfl⟩ dL_law_693 dL_law_694 dL_law_695 dL_law_696 dL_law_697 ?_
  refine lw_arg (p1 := 699) (p2 := 700) (p3 := 701) (p4 := 702) (p5 := 703) hX hs 3 rfl (by omega) hL rfl ⟨rfl, rfl, rfl, rfl, rfl⟩ dL_law_698 dL_law_699 dL_law_700 dL_law_701 dL_law_702 ?_
  refine cb_virtI (n := 706) (q := 0) (As := [.int (xs (i + 1)), .int (xs (i + 2)), .int (xs (i + 3))]) (st := [.int r1]) hX hR kc_X8 ly_X8 mv_X8_seen ml_L_92 (m_X8_seen Γ.2.1 (σM, Ξ.1, Ξ.2.1, gA LM σM) _ _ _ vM e2) rfl ⟨rfl, rfl⟩ rfl rfl rfl dL_law_703 rfl rfl ?_
  refine cb_eqT (tgt := 1198) hX (h1.trans h2.symm) dL_law_706 (by decide) ?_
  refine cb_comm ?_
  exact hK v1 v2 _ (c + 1) (by omega) I1 I2
theorem lwc_19 {Γ : gC} {Ξ : cO} {Q : State → Prop} {σX σM : Nat → Nat} {b L i c : Nat} {xs : Nat → Int32} {vX vM : gV} {a : Ab} (hX : cx_X Γ Ξ cL_law RL 4) (hR : Γ.2.2.2.1 = cx_R 13 600000 7302250) (hs : scr Γ Ξ b L xs) (hL : L ≤ 384) (hi : i + 6 ≤ L) (hc : c < 900000) (hI : InvX vX a c) (hM : InvM vM a) (hK : lw_K Γ Ξ Q σX σM b i c) : cx_G Γ Ξ Q 4 139 4654 (gx_w LX σX Ξ.1 vX) (gx_w LM σM Ξ.1 vM) 711 [(3, .int (nI i)), (2, .ref (σM 0)), (1, .ref (σX 0)), (0, .ref b)] [] := by
  obtain ⟨⟨r1, v1⟩, e1, h1, I1⟩ := (forget_X hI (by omega) : OKX (f_X7_forget  vX) (sp_forget  a) c)
  obtain ⟨⟨r2, v2⟩, e2, h2, I2⟩ := (forget_M hM : OKM (f_X8_forget  vM) (sp_forget  a))
  have h1 : r1 = (sp_forget  a).1 := h1
  have h2 : r2 = (sp_forget  a).1 := h2
  refine cb_aload_n (n := 712) hX 2 dL_law_711 rfl rfl rfl ?_
  refine cb_virtI (n := 715) (q := 0) (As := []) (st := []) hX hR kc_X7 ly_X7 mv_X7_forget ml_L_93 (m_X7_forget Γ.2.1 (σX, Ξ.1, Ξ.2.1, gA LX σX)  vX e1) rfl ⟨rfl, rfl⟩ rfl rfl rfl dL_law_712 rfl rfl ?_
  refine cb_comm ?_
  refine cb_aload_n (n := 716) hX 1 dL_law_715 rfl rfl rfl ?_
  refine cb_virtI (n := 719) (q := 0) (As := []) (st := [.int r1]) hX hR kc_X8 ly_X8 mv_X8_forget ml_L_96 (m_X8_forget Γ.2.1 (σM, Ξ.1, Ξ.2.1, gA LM σM)  vM e2) rfl ⟨rfl, rfl⟩ rfl rfl rfl dL_law_716 rfl rfl ?_
  refine cb_eqT (tgt := 1198) hX (h1.trans h2.symm) dL_law_719 (by decide) ?_
  refine cb_comm ?_
  exact hK v1 v2 _ (c + 1) (by omega) I1 I2
theorem lwc_20 {Γ : gC} {Ξ : cO} {Q : State → Prop} {σX σM : Nat → Nat} {b L i c : Nat} {xs : Nat → Int32} {vX vM : gV} {a : Ab} (hX : cx_X Γ Ξ cL_law RL 4) (hR : Γ.2.2.2.1 = cx_R 13 600000 7302250) (hs : scr Γ Ξ b L xs) (hL : L ≤ 384) (hi : i + 6 ≤ L) (hc : c < 900000) (hI : InvX vX a c) (hM : InvM vM a) (hK : lw_K Γ Ξ Q σX σM b i c) : cx_G Γ Ξ Q 4 139 4654 (gx_w LX σX Ξ.1 vX) (gx_w LM σM Ξ.1 vM) 724 [(3, .int (nI i)), (2, .ref (σM 0)), (1, .ref (σX 0)), (0, .ref b)] [] := by
  obtain ⟨⟨r1, v1⟩, e1, h1, I1⟩ := (read_X hI (by omega) : OKX (f_X7_read (xs (i + 1)) vX) (sp_read (xs (i + 1)) a) c)
  obtain ⟨⟨r2, v2⟩, e2, h2, I2⟩ := (read_M hM : OKM (f_X8_read (xs (i + 1)) vM) (sp_read (xs (i + 1)) a))
  have h1 : r1 = (sp_read (xs (i + 1)) a).1 := h1
  have h2 : r2 = (sp_read (xs (i + 1)) a).1 := h2
  refine cb_aload_n (n := 725) hX 2 dL_law_724 rfl rfl rfl ?_
  refine lw_arg (p1 := 726) (p2 := 727) (p3 := 728) (p4 := 729) (p5 := 730) hX hs 1 rfl (by omega) hL rfl ⟨rfl, rfl, rfl, rfl, rfl⟩ dL_law_725 dL_law_726 dL_law_727 dL_law_728 dL_law_729 ?_
  refine cb_virtI (n := 733) (q := 0) (As := [.int (xs (i + 1))]) (st := []) hX hR kc_X7 ly_X7 mv_X7_read ml_L_97 (m_X7_read Γ.2.1 (σX, Ξ.1, Ξ.2.1, gA LX σX) _ vX e1) rfl ⟨rfl, rfl⟩ rfl rfl rfl dL_law_730 rfl rfl ?_
  refine cb_comm ?_
  refine cb_aload_n (n := 734) hX 1 dL_law_733 rfl rfl rfl ?_
  refine lw_arg (p1 := 735) (p2 := 736) (p3 := 737) (p4 := 738) (p5 := 739) hX hs 1 rfl (by omega) hL rfl ⟨rfl, rfl, rfl, rfl, rfl⟩ dL_law_734 dL_law_735 dL_law_736 dL_law_737 dL_law_738 ?_
  refine cb_virtI (n := 742) (q := 0) (As := [.int (xs (i + 1))]) (st := [.int r1]) hX hR kc_X8 ly_X8 mv_X8_read ml_L_100 (m_X8_read Γ.2.1 (σM, Ξ.1, Ξ.2.1, gA LM σM) _ vM e2) rfl ⟨rfl, rfl⟩ rfl rfl rfl dL_law_739 rfl rfl ?_
  refine cb_eqT (tgt := 1198) hX (h1.trans h2.symm) dL_law_742 (by decide) ?_
  refine cb_comm ?_
  exact hK v1 v2 _ (c + 1) (by omega) I1 I2
theorem lwc_21 {Γ : gC} {Ξ : cO} {Q : State → Prop} {σX σM : Nat → Nat} {b L i c : Nat} {xs : Nat → Int32} {vX vM : gV} {a : Ab} (hX : cx_X Γ Ξ cL_law RL 4) (hR : Γ.2.2.2.1 = cx_R 13 600000 7302250) (hs : scr Γ Ξ b L xs) (hL : L ≤ 384) (hi : i + 6 ≤ L) (hc : c < 900000) (hI : InvX vX a c) (hM : InvM vM a) (hK : lw_K Γ Ξ Q σX σM b i c) : cx_G Γ Ξ Q 4 139 4654 (gx_w LX σX Ξ.1 vX) (gx_w LM σM Ξ.1 vM) 747 [(3, .int (nI i)), (2, .ref (σM 0)), (1, .ref (σX 0)), (0, .ref b)] [] := by
  obtain ⟨⟨r1, v1⟩, e1, h1, I1⟩ := (had_X hI (by omega) : OKX (f_X7_had (xs (i + 1)) vX) (sp_had (xs (i + 1)) a) c)
  obtain ⟨⟨r2, v2⟩, e2, h2, I2⟩ := (had_M hM : OKM (f_X8_had (xs (i + 1)) vM) (sp_had (xs (i + 1)) a))
  have h1 : r1 = (sp_had (xs (i + 1)) a).1 := h1
  have h2 : r2 = (sp_had (xs (i + 1)) a).1 := h2
  refine cb_aload_n (n := 748) hX 2 dL_law_747 rfl rfl rfl ?_
  refine lw_arg (p1 := 749) (p2 := 750) (p3 := 751) (p4 := 752) (p5 := 753) hX hs 1 rfl (by omega) hL rfl ⟨rfl, rfl, rfl, rfl, rfl⟩ dL_law_748 dL_law_749 dL_law_750 dL_law_751 dL_law_752 ?_
  refine cb_virtI (n := 756) (q := 0) (As := [.int (xs (i + 1))]) (st := []) hX hR kc_X7 ly_X7 mv_X7_had ml_L_101 (m_X7_had Γ.2.1 (σX, Ξ.1, Ξ.2.1, gA LX σX) _ vX e1) rfl ⟨rfl, rfl⟩ rfl rfl rfl dL_law_753 rfl rfl ?_
  refine cb_comm ?_
  refine cb_aload_n (n := 757) hX 1 dL_law_756 rfl rfl rfl ?_
  refine lw_arg (p1 := 758) (p2 := 759) (p3 := 760) (p4 := 761) (p5 := 762) hX hs 1 rfl (by omega) hL rfl ⟨rfl, rfl, rfl, rfl, rfl⟩ dL_law_757 dL_law_758 dL_law_759 dL_law_760 dL_law_761 ?_
  refine cb_virtI (n := 765) (q := 0) (As := [.int (xs (i + 1))]) (st := [.int r1]) hX hR kc_X8 ly_X8 mv_X8_had ml_L_104 (m_X8_had Γ.2.1 (σM, Ξ.1, Ξ.2.1, gA LM σM) _ vM e2) rfl ⟨rfl, rfl⟩ rfl rfl rfl dL_law_762 rfl rfl ?_
  refine cb_eqT (tgt := 1198) hX (h1.trans h2.symm) dL_law_765 (by decide) ?_
  refine cb_comm ?_
  exact hK v1 v2 _ (c + 1) (by omega) I1 I2
theorem lwc_22 {Γ : gC} {Ξ : cO} {Q : State → Prop} {σX σM : Nat → Nat} {b L i c : Nat} {xs : Nat → Int32} {vX vM : gV} {a : Ab} (hX : cx_X Γ Ξ cL_law RL 4) (hR : Γ.2.2.2.1 = cx_R 13 600000 7302250) (hs : scr Γ Ξ b L xs) (hL : L ≤ 384) (hi : i + 6 ≤ L) (hc : c < 900000) (hI : InvX vX a c) (hM : InvM vM a) (hK : lw_K Γ Ξ Q σX σM b i c) : cx_G Γ Ξ Q 4 139 4654 (gx_w LX σX Ξ.1 vX) (gx_w LM σM Ξ.1 vM) 770 [(3, .int (nI i)), (2, .ref (σM 0)), (1, .ref (σX 0)), (0, .ref b)] [] := by
  obtain ⟨⟨r1, v1⟩, e1, h1, I1⟩ := (was_X hI (by omega) : OKX (f_X7_was  vX) (sp_was  a) c)
  obtain ⟨⟨r2, v2⟩, e2, h2, I2⟩ := (was_M hM : OKM (f_X8_was  vM) (sp_was  a))
  have h1 : r1 = (sp_was  a).1 := h1
  have h2 : r2 = (sp_was  a).1 := h2
  refine cb_aload_n (n := 771) hX 2 dL_law_770 rfl rfl rfl ?_
  refine cb_virtI (n := 774) (q := 0) (As := []) (st := []) hX hR kc_X7 ly_X7 mv_X7_was ml_L_105 (m_X7_was Γ.2.1 (σX, Ξ.1, Ξ.2.1, gA LX σX)  vX e1) rfl ⟨rfl, rfl⟩ rfl rfl rfl dL_law_771 rfl rfl ?_
  refine cb_comm ?_
  refine cb_aload_n (n := 775) hX 1 dL_law_774 rfl rfl rfl ?_
  refine cb_virtI (n := 778) (q := 0) (As := []) (st := [.int r1]) hX hR kc_X8 ly_X8 mv_X8_was ml_L_108 (m_X8_was Γ.2.1 (σM, Ξ.1, Ξ.2.1, gA LM σM)  vM e2) rfl ⟨rfl, rfl⟩ rfl rfl rfl dL_law_775 rfl rfl ?_
  refine cb_eqT (tgt := 1198) hX (h1.trans h2.symm) dL_law_778 (by decide) ?_
  refine cb_comm ?_
  exact hK v1 v2 _ (c + 1) (by omega) I1 I2
theorem lwc_23 {Γ : gC} {Ξ : cO} {Q : State → Prop} {σX σM : Nat → Nat} {b L i c : Nat} {xs : Nat → Int32} {vX vM : gV} {a : Ab} (hX : cx_X Γ Ξ cL_law RL 4) (hR : Γ.2.2.2.1 = cx_R 13 600000 7302250) (hs : scr Γ Ξ b L xs) (hL : L ≤ 384) (hi : i + 6 ≤ L) (hc : c < 900000) (hI : InvX vX a c) (hM : InvM vM a) (hK : lw_K Γ Ξ Q σX σM b i c) : cx_G Γ Ξ Q 4 139 4654 (gx_w LX σX Ξ.1 vX) (gx_w LM σM Ξ.1 vM) 783 [(3, .int (nI i)), (2, .ref (σM 0)), (1, .ref (σX 0)), (0, .ref b)] [] := by
  obtain ⟨⟨r1, v1⟩, e1, h1, I1⟩ := (ask_X hI (by omega) : OKX (f_X7_ask (xs (i + 1)) vX) (sp_ask (xs (i + 1)) a) c)
  obtain ⟨⟨r2, v2⟩, e2, h2, I2⟩ := (ask_M hM : OKM (f_X8_ask (xs (i + 1)) vM) (sp_ask (xs (i + 1)) a))
  have h1 : r1 = (sp_ask (xs (i + 1)) a).1 := h1
  have h2 : r2 = (sp_ask (xs (i + 1)) a).1 := h2
  refine cb_aload_n (n := 784) hX 2 dL_law_783 rfl rfl rfl ?_
  refine lw_arg (p1 := 785) (p2 := 786) (p3 := 787) (p4 := 788) (p5 := 789) hX hs 1 rfl (by omega) hL rfl ⟨rfl, rfl, rfl, rfl, rfl⟩ dL_law_784 dL_law_785 dL_law_786 dL_law_787 dL_law_788 ?_
  refine cb_virtI (n := 792) (q := 0) (As := [.int (xs (i + 1))]) (st := []) hX hR kc_X7 ly_X7 mv_X7_ask ml_L_109 (m_X7_ask Γ.2.1 (σX, Ξ.1, Ξ.2.1, gA LX σX) _ vX e1) rfl ⟨rfl, rfl⟩ rfl rfl rfl dL_law_789 rfl rfl ?_
  refine cb_comm ?_
  refine cb_aload_n (n := 793) hX 1 dL_law_792 rfl rfl rfl ?_
  refine lw_arg (p1 := 794) (p2 := 795) (p3 := 796) (p4 := 797) (p5 := 798) hX hs 1 rfl (by omega) hL rfl ⟨rfl, rfl, rfl, rfl, rfl⟩ dL_law_793 dL_law_794 dL_law_795 dL_law_796 dL_law_797 ?_
  refine cb_virtI (n := 801) (q := 0) (As := [.int (xs (i + 1))]) (st := [.int r1]) hX hR kc_X8 ly_X8 mv_X8_ask ml_L_112 (m_X8_ask Γ.2.1 (σM, Ξ.1, Ξ.2.1, gA LM σM) _ vM e2) rfl ⟨rfl, rfl⟩ rfl rfl rfl dL_law_798 rfl rfl ?_
  refine cb_eqT (tgt := 1198) hX (h1.trans h2.symm) dL_law_801 (by decide) ?_
  refine cb_comm ?_
  exact hK v1 v2 _ (c + 1) (by omega) I1 I2
theorem lwc_24 {Γ : gC} {Ξ : cO} {Q : State → Prop} {σX σM : Nat → Nat} {b L i c : Nat} {xs : Nat → Int32} {vX vM : gV} {a : Ab} (hX : cx_X Γ Ξ cL_law RL 4) (hR : Γ.2.2.2.1 = cx_R 13 600000 7302250) (hs : scr Γ Ξ b L xs) (hL : L ≤ 384) (hi : i + 6 ≤ L) (hc : c < 900000) (hI : InvX vX a c) (hM : InvM vM a) (hK : lw_K Γ Ξ Q σX σM b i c) : cx_G Γ Ξ Q 4 139 4654 (gx_w LX σX Ξ.1 vX) (gx_w LM σM Ξ.1 vM) 806 [(3, .int (nI i)), (2, .ref (σM 0)), (1, .ref (σX 0)), (0, .ref b)] [] := by
  obtain ⟨⟨r1, v1⟩, e1, h1, I1⟩ := (maybe_X hI (by omega) : OKL (f_X7_maybe (xs (i + 1)) (xs (i + 2)) (xs (i + 3)) (xs (i + 4)) vX) (sp_maybe (xs (i + 1)) (xs (i + 2)) (xs (i + 3)) (xs (i + 4)) a) c)
  obtain ⟨⟨r2, v2⟩, e2, h2, I2⟩ := (maybe_M hM : OKLM (f_X8_maybe (xs (i + 1)) (xs (i + 2)) (xs (i + 3)) (xs (i + 4)) vM) (sp_maybe (xs (i + 1)) (xs (i + 2)) (xs (i + 3)) (xs (i + 4)) a))
  have h1 : r1 = (sp_maybe (xs (i + 1)) (xs (i + 2)) (xs (i + 3)) (xs (i + 4)) a).1 := h1
  have h2 : r2 = (sp_maybe (xs (i + 1)) (xs (i + 2)) (xs (i + 3)) (xs (i + 4)) a).1 := h2
  refine cb_aload_n (n := 807) hX 2 dL_law_806 rfl rfl rfl ?_
  refine lw_arg (p1 := 808) (p2 := 809) (p3 := 810) (p4 := 811) (p5 := 812) hX hs 1 rfl (by omega) hL rfl ⟨rfl, rfl, rfl, rfl, rfl⟩ dL_law_807 dL_law_808 dL_law_809 dL_law_810 dL_law_811 ?_
  refine lw_arg (p1 := 813) (p2 := 814) (p3 := 815) (p4 := 816) (p5 := 817) hX hs 2 rfl (by omega) hL rfl ⟨rfl, rfl, rfl, rfl, rfl⟩ dL_law_812 dL_law_813 dL_law_814 dL_law_815 dL_law_816 ?_
  refine lw_arg (p1 := 818) (p2 := 819) (p3 := 820) (p4 := 821) (p5 := 822) hX hs 3 rfl (by omega) hL rfl ⟨rfl, rfl, rfl, rfl, rfl⟩ dL_law_817 dL_law_818 dL_law_819 dL_law_820 dL_law_821 ?_
  refine lw_arg (p1 := 823) (p2 := 824) (p3 := 825) (p4 := 826) (p5 := 827) hX hs 4 rfl (by omega) hL rfl ⟨rfl, rfl, rfl, rfl, rfl⟩ dL_law_822 dL_law_823 dL_law_824 dL_law_825 dL_law_826 ?_
  refine cb_virtJ (n := 830) (q := 0) (As := [.int (xs (i + 1)), .int (xs (i + 2)), .int (xs (i + 3)), .int (xs (i + 4))]) (st := []) hX hR kc_X7 ly_X7 mv_X7_maybe ml_L_113 (m_X7_maybe Γ.2.1 (σX, Ξ.1, Ξ.2.1, gA LX σX) _ _ _ _ vX e1) rfl ⟨rfl, rfl⟩ rfl rfl rfl dL_law_827 rfl rfl ?_
  refine cb_comm ?_
  refine cb_aload_n (n := 831) hX 1 dL_law_830 rfl rfl rfl ?_
  refine lw_arg (p1 := 832) (p2 := 833) (p3 := 834) (p4 := 835) (p5 := 836) hX hs 1 rfl (by omega) hL rfl ⟨rfl, rfl, rfl, rfl, rfl⟩ dL_law_831 dL_law_832 dL_law_833 dL_law_834 dL_law_835 ?_
  refine lw_arg (p1 := 837) (p2 := 838) (p3 := 839) (p4 := 840) (p5 := 841) hX hs 2 rfl (by omega) hL rfl ⟨rfl, rfl, rfl, rfl, rfl⟩ dL_law_836 dL_law_837 dL_law_838 dL_law_839 dL_law_840 ?_
  refine lw_arg (p1 := 842) (p2 := 843) (p3 := 844) (p4 := 845) (p5 := 846) hX hs 3 rfl (by omega) hL rfl ⟨rfl, rfl, rfl, rfl, rfl⟩ dL_law_841 dL_law_842 dL_law_843 dL_law_844 dL_law_845 ?_
  refine lw_arg (p1 := 847) (p2 := 848) (p3 := 849) (p4 := 850) (p5 := 851) hX hs 4 rfl (by omega) hL rfl ⟨rfl, rfl, rfl, rfl, rfl⟩ dL_law_846 dL_law_847 dL_law_848 dL_law_849 dL_law_850 ?_
  refine cb_virtJ (n := 854) (q := 0) (As := [.int (xs (i + 1)), .int (xs (i + 2)), .int (xs (i + 3)), .int (xs (i + 4))]) (st := [.long r1]) hX hR kc_X8 ly_X8 mv_X8_maybe ml_L_117 (m_X8_maybe Γ.2.1 (σM, Ξ.1, Ξ.2.1, gA LM σM) _ _ _ _ vM e2) rfl ⟨rfl, rfl⟩ rfl rfl rfl dL_law_851 rfl rfl ?_
  refine cb_leqT (p2 := 855) (tgt := 1198) hX (h1.trans h2.symm) dL_law_854 rfl dL_law_855 (by decide) ?_
  refine cb_comm ?_
  exact hK v1 v2 _ (c + 1) (by omega) I1 I2
theorem lwc_25 {Γ : gC} {Ξ : cO} {Q : State → Prop} {σX σM : Nat → Nat} {b L i c : Nat} {xs : Nat → Int32} {vX vM : gV} {a : Ab} (hX : cx_X Γ Ξ cL_law RL 4) (hR : Γ.2.2.2.1 = cx_R 13 600000 7302250) (hs : scr Γ Ξ b L xs) (hL : L ≤ 384) (hi : i + 6 ≤ L) (hc : c < 900000) (hI : InvX vX a c) (hM : InvM vM a) (hK : lw_K Γ Ξ Q σX σM b i c) : cx_G Γ Ξ Q 4 139 4654 (gx_w LX σX Ξ.1 vX) (gx_w LM σM Ξ.1 vM) 860 [(3, .int (nI i)), (2, .ref (σM 0)), (1, .ref (σX 0)), (0, .ref b)] [] := by
  obtain ⟨⟨r1, v1⟩, e1, h1, I1⟩ := (depot_X hI (by omega) : OKX (f_X7_depot (xs (i + 1)) (xs (i + 2)) (xs (i + 3)) vX) (sp_depot (xs (i + 1)) (xs (i + 2)) (xs (i + 3)) a) c)
  obtain ⟨⟨r2, v2⟩, e2, h2, I2⟩ := (depot_M hM : OKM (f_X8_depot (xs (i + 1)) (xs (i + 2)) (xs (i + 3)) vM) (sp_depot (xs (i + 1)) (xs (i + 2)) (xs (i + 3)) a))
  have h1 : r1 = (sp_depot (xs (i + 1)) (xs (i + 2)) (xs (i + 3)) a).1 := h1
  have h2 : r2 = (sp_depot (xs (i + 1)) (xs (i + 2)) (xs (i + 3)) a).1 := h2
  refine cb_aload_n (n := 861) hX 2 dL_law_860 rfl rfl rfl ?_
  refine lw_arg (p1 := 862) (p2 := 863) (p3 := 864) (p4 := 865) (p5 := 866) hX hs 1 rfl (by omega) hL rfl ⟨rfl, rfl, rfl, rfl, rfl⟩ dL_law_861 dL_law_862 dL_law_863 dL_law_864 dL_law_865 ?_
  refine lw_arg (p1 := 867) (p2 := 868) (p3 := 869) (p4 := 870) (p5 := 871) hX hs 2 rfl (by omega) hL rfl ⟨rfl, rfl, rfl, rfl, rfl⟩ dL_law_866 dL_law_867 dL_law_868 dL_law_869 dL_law_870 ?_
  refine lw_arg (p1 := 872) (p2 := 873) (p3 := 874) (p4 := 875) (p5 := 876) hX hs 3 rfl (by omega) hL rfl ⟨rfl, rfl, rfl, rfl, rfl⟩ dL_law_871 dL_law_872 dL_law_873 dL_law_874 dL_law_875 ?_
  refine cb_virtI (n := 879) (q := 0) (As := [.int (xs (i + 1)), .int (xs (i + 2)), .int (xs (i + 3))]) (st := []) hX hR kc_X7 ly_X7 mv_X7_depot ml_L_118 (m_X7_depot Γ.2.1 (σX, Ξ.1, Ξ.2.1, gA LX σX) _ _ _ vX e1) rfl ⟨rfl, rfl⟩ rfl rfl rfl dL_law_876 rfl rfl ?_
  refine cb_comm ?_
  refine cb_aload_n (n := 880) hX 1 dL_law_879 rfl rfl rfl ?_
  refine lw_arg (p1 := 881) (p2 := 882) (p3 := 883) (p4 := 884) (p5 := 885) hX hs 1 rfl (by omega) hL rfl ⟨rfl, rfl, rfl, rfl, rfl⟩ dL_law_880 dL_law_881 dL_law_882 dL_law_883 dL_law_884 ?_
  refine lw_arg (p1 := 886) (p2 := 887) (p3 := 888) (p4 := 889) (p5 := 890) hX hs 2 rfl (by omega) hL rfl ⟨rfl, rfl, rfl, rfl, rfl⟩ dL_law_885 dL_law_886 dL_law_887 dL_law_888 dL_law_889 ?_
  refine lw_arg (p1 := 891) (p2 := 892) (p3 := 893) (p4 := 894) (p5 := 895) hX hs 3 rfl (by omega) hL rfl ⟨rfl, rfl, rfl, rfl, rfl⟩ dL_law_890 dL_law_891 dL_law_892 dL_law_893 dL_law_894 ?_
  refine cb_virtI (n := 898) (q := 0) (As := [.int (xs (i + 1)), .int (xs (i + 2)), .int (xs (i + 3))]) (st := [.int r1]) hX hR kc_X8 ly_X8 mv_X8_depot ml_L_121 (m_X8_depot Γ.2.1 (σM, Ξ.1, Ξ.2.1, gA LM σM) _ _ _ vM e2) rfl ⟨rfl, rfl⟩ rfl rfl rfl dL_law_895 rfl rfl ?_
  refine cb_eqT (tgt := 1198) hX (h1.trans h2.symm) dL_law_898 (by decide) ?_
  refine cb_comm ?_
  exact hK v1 v2 _ (c + 1) (by omega) I1 I2
theorem lwc_26 {Γ : gC} {Ξ : cO} {Q : State → Prop} {σX σM : Nat → Nat} {b L i c : Nat} {xs : Nat → Int32} {vX vM : gV} {a : Ab} (hX : cx_X Γ Ξ cL_law RL 4) (hR : Γ.2.2.2.1 = cx_R 13 600000 7302250) (hs : scr Γ Ξ b L xs) (hL : L ≤ 384) (hi : i + 6 ≤ L) (hc : c < 900000) (hI : InvX vX a c) (hM : InvM vM a) (hK : lw_K Γ Ξ Q σX σM b i c) : cx_G Γ Ξ Q 4 139 4654 (gx_w LX σX Ξ.1 vX) (gx_w LM σM Ξ.1 vM) 903 [(3, .int (nI i)), (2, .ref (σM 0)), (1, .ref (σX 0)), (0, .ref b)] [] := by
  obtain ⟨⟨r1, v1⟩, e1, h1, I1⟩ := (sheet_X hI (by omega) : OKX (f_X7_sheet (xs (i + 1)) (xs (i + 2)) (xs (i + 3)) vX) (sp_sheet (xs (i + 1)) (xs (i + 2)) (xs (i + 3)) a) c)
  obtain ⟨⟨r2, v2⟩, e2, h2, I2⟩ := (sheet_M hM : OKM (f_X8_sheet (xs (i + 1)) (xs (i + 2)) (xs (i + 3)) vM) (sp_sheet (xs (i + 1)) (xs (i + 2)) (xs (i + 3)) a))
  have h1 : r1 = (sp_sheet (xs (i + 1)) (xs (i + 2)) (xs (i + 3)) a).1 := h1
  have h2 : r2 = (sp_sheet (xs (i + 1)) (xs (i + 2)) (xs (i + 3)) a).1 := h2
  refine cb_aload_n (n := 904) hX 2 dL_law_903 rfl rfl rfl ?_
  refine lw_arg (p1 := 905) (p2 := 906) (p3 := 907) (p4 := 908) (p5 := 909) hX hs 1 rfl (by omega) hL rfl ⟨rfl, rfl, rfl, rfl, rfl⟩ dL_law_904 dL_law_905 dL_law_906 dL_law_907 dL_law_908 ?_
  refine lw_arg (p1 := 910) (p2 := 911) (p3 := 912) (p4 := 913) (p5 := 914) hX hs 2 rfl (by omega) hL rfl ⟨rfl, rfl, rfl, rfl, rfl⟩ dL_law_909 dL_law_910 dL_law_911 dL_law_912 dL_law_913 ?_
  refine lw_arg (p1 := 915) (p2 := 916) (p3 := 917) (p4 := 918) (p5 := 919) hX hs 3 rfl (by omega) hL rfl ⟨rfl, rfl, rfl, rfl, rfl⟩ dL_law_914 dL_law_915 dL_law_916 dL_law_917 dL_law_918 ?_
  refine cb_virtI (n := 922) (q := 0) (As := [.int (xs (i + 1)), .int (xs (i + 2)), .int (xs (i + 3))]) (st := []) hX hR kc_X7 ly_X7 mv_X7_sheet ml_L_122 (m_X7_sheet Γ.2.1 (σX, Ξ.1, Ξ.2.1, gA LX σX) _ _ _ vX e1) rfl ⟨rfl, rfl⟩ rfl rfl rfl dL_law_919 rfl rfl ?_
  refine cb_comm ?_
  refine cb_aload_n (n := 923) hX 1 dL_law_922 rfl rfl rfl ?_
  refine lw_arg (p1 := 924) (p2 := 925) (p3 := 926) (p4 := 927) (p5 := 928) hX hs 1 rfl (by omega) hL rfl ⟨rfl, rfl, rfl, rfl, rfl⟩ dL_law_923 dL_law_924 dL_law_925 dL_law_926 dL_law_927 ?_
  refine lw_arg (p1 := 929) (p2 := 930) (p3 := 931) (p4 := 932) (p5 := 933) hX hs 2 rfl (by omega) hL rfl ⟨rfl, rfl, rfl, rfl, rfl⟩ dL_law_928 dL_law_929 dL_law_930 dL_law_931 dL_law_932 ?_
  refine lw_arg (p1 := 934) (p2 := 935) (p3 := 936) (p4 := 937) (p5 := 938) hX hs 3 rfl (by omega) hL rfl ⟨rfl, rfl, rfl, rfl, rfl⟩ dL_law_933 dL_law_934 dL_law_935 dL_law_936 dL_law_937 ?_
  refine cb_virtI (n := 941) (q := 0) (As := [.int (xs (i + 1)), .int (xs (i + 2)), .int (xs (i + 3))]) (st := [.int r1]) hX hR kc_X8 ly_X8 mv_X8_sheet ml_L_125 (m_X8_sheet Γ.2.1 (σM, Ξ.1, Ξ.2.1, gA LM σM) _ _ _ vM e2) rfl ⟨rfl, rfl⟩ rfl rfl rfl dL_law_938 rfl rfl ?_
  refine cb_eqT (tgt := 1198) hX (h1.trans h2.symm) dL_law_941 (by decide) ?_
  refine cb_comm ?_
  exact hK v1 v2 _ (c + 1) (by omega) I1 I2
theorem lwc_27 {Γ : gC} {Ξ : cO} {Q : State → Prop} {σX σM : Nat → Nat} {b L i c : Nat} {xs : Nat → Int32} {vX vM : gV} {a : Ab} (hX : cx_X Γ Ξ cL_law RL 4) (hR : Γ.2.2.2.1 = cx_R 13 600000 7302250) (hs : scr Γ Ξ b L xs) (hL : L ≤ 384) (hi : i + 6 ≤ L) (hc : c < 900000) (hI : InvX vX a c) (hM : InvM vM a) (hK : lw_K Γ Ξ Q σX σM b i c) : cx_G Γ Ξ Q 4 139 4654 (gx_w LX σX Ξ.1 vX) (gx_w LM σM Ξ.1 vM) 946 [(3, .int (nI i)), (2, .ref (σM 0)), (1, .ref (σX 0)), (0, .ref b)] [] := by
  obtain ⟨⟨r1, v1⟩, e1, h1, I1⟩ := (lose_X hI (by omega) : OKX (f_X7_lose (xs (i + 1)) vX) (sp_lose (xs (i + 1)) a) c)
  obtain ⟨⟨r2, v2⟩, e2, h2, I2⟩ := (lose_M hM : OKM (f_X8_lose (xs (i + 1)) vM) (sp_lose (xs (i + 1)) a))
  have h1 : r1 = (sp_lose (xs (i + 1)) a).1 := h1
  have h2 : r2 = (sp_lose (xs (i + 1)) a).1 := h2
  refine cb_aload_n (n := 947) hX 2 dL_law_946 rfl rfl rfl ?_
  refine lw_arg (p1 := 948) (p2 := 949) (p3 := 950) (p4 := 951) (p5 := 952) hX hs 1 rfl (by omega) hL rfl ⟨rfl, rfl, rfl, rfl, rfl⟩ dL_law_947 dL_law_948 dL_law_949 dL_law_950 dL_law_951 ?_
  refine cb_virtI (n := 955) (q := 0) (As := [.int (xs (i + 1))]) (st := []) hX hR kc_X7 ly_X7 mv_X7_lose ml_L_126 (m_X7_lose Γ.2.1 (σX, Ξ.1, Ξ.2.1, gA LX σX) _ vX e1) rfl ⟨rfl, rfl⟩ rfl rfl rfl dL_law_952 rfl rfl ?_
  refine cb_comm ?_
  refine cb_aload_n (n := 956) hX 1 dL_law_955 rfl rfl rfl ?_
  refine lw_arg (p1 := 957) (p2 := 958) (p3 := 959) (p4 := 960) (p5 := 961) hX hs 1 rfl (by omega) hL rfl ⟨rfl, rfl, rfl, rfl, rfl⟩ dL_law_956 dL_law_957 dL_law_958 dL_law_959 dL_law_960 ?_
  refine cb_virtI (n := 964) (q := 0) (As := [.int (xs (i + 1))]) (st := [.int r1]) hX hR kc_X8 ly_X8 mv_X8_lose ml_L_129 (m_X8_lose Γ.2.1 (σM, Ξ.1, Ξ.2.1, gA LM σM) _ vM e2) rfl ⟨rfl, rfl⟩ rfl rfl rfl dL_law_961 rfl rfl ?_
  refine cb_eqT (tgt := 1198) hX (h1.trans h2.symm) dL_law_964 (by decide) ?_
  refine cb_comm ?_
  exact hK v1 v2 _ (c + 1) (by omega) I1 I2
theorem lwc_28 {Γ : gC} {Ξ : cO} {Q : State → Prop} {σX σM : Nat → Nat} {b L i c : Nat} {xs : Nat → Int32} {vX vM : gV} {a : Ab} (hX : cx_X Γ Ξ cL_law RL 4) (hR : Γ.2.2.2.1 = cx_R 13 600000 7302250) (hs : scr Γ Ξ b L xs) (hL : L ≤ 384) (hi : i + 6 ≤ L) (hc : c < 900000) (hI : InvX vX a c) (hM : InvM vM a) (hK : lw_K Γ Ξ Q σX σM b i c) : cx_G Γ Ξ Q 4 139 4654 (gx_w LX σX Ξ.1 vX) (gx_w LM σM Ξ.1 vM) 969 [(3, .int (nI i)), (2, .ref (σM 0)), (1, .ref (σX 0)), (0, .ref b)] [] := by
  obtain ⟨⟨r1, v1⟩, e1, h1, I1⟩ := (lay_X hI (by omega) : OKX (f_X7_lay (xs (i + 1)) (xs (i + 2)) (xs (i + 3)) (xs (i + 4)) vX) (sp_lay (xs (i + 1)) (xs (i + 2)) (xs (i + 3)) (xs (i + 4)) a) c)
  obtain ⟨⟨r2, v2⟩, e2, h2, I2⟩ := (lay_M hM : OKM (f_X8_lay (xs (i + 1)) (xs (i + 2)) (xs (i + 3)) (xs (i + 4)) vM) (sp_lay (xs (i + 1)) (xs (i + 2)) (xs (i + 3)) (xs (i + 4)) a))
  have h1 : r1 = (sp_lay (xs (i + 1)) (xs (i + 2)) (xs (i + 3)) (xs (i + 4)) a).1 := h1
  have h2 : r2 = (sp_lay (xs (i + 1)) (xs (i + 2)) (xs (i + 3)) (xs (i + 4)) a).1 := h2
  refine cb_aload_n (n := 970) hX 2 dL_law_969 rfl rfl rfl ?_
  refine lw_arg (p1 := 971) (p2 := 972) (p3 := 973) (p4 := 974) (p5 := 975) hX hs 1 rfl (by omega) hL rfl ⟨rfl, rfl, rfl, rfl, rfl⟩ dL_law_970 dL_law_971 dL_law_972 dL_law_973 dL_law_974 ?_
  refine lw_arg (p1 := 976) (p2 := 977) (p3 := 978) (p4 := 979) (p5 := 980) hX hs 2 rfl (by omega) hL rfl ⟨rfl, rfl, rfl, rfl, rfl⟩ dL_law_975 dL_law_976 dL_law_977 dL_law_978 dL_law_979 ?_
  refine lw_arg (p1 := 981) (p2 := 982) (p3 := 983) (p4 := 984) (p5 := 985) hX hs 3 rfl (by omega) hL rfl ⟨rfl, rfl, rfl, rfl, rfl⟩ dL_law_980 dL_law_981 dL_law_982 dL_law_983 dL_law_984 ?_
  refine lw_arg (p1 := 986) (p2 := 987) (p3 := 988) (p4 := 989) (p5 := 990) hX hs 4 rfl (by omega) hL rfl ⟨rfl, rfl, rfl, rfl, rfl⟩ dL_law_985 dL_law_986 dL_law_987 dL_law_988 dL_law_989 ?_
  refine cb_virtI (n := 993) (q := 0) (As := [.int (xs (i + 1)), .int (xs (i + 2)), .int (xs (i + 3)), .int (xs (i + 4))]) (st := []) hX hR kc_X7 ly_X7 mv_X7_lay ml_L_130 (m_X7_lay Γ.2.1 (σX, Ξ.1, Ξ.2.1, gA LX σX) _ _ _ _ vX e1) rfl ⟨rfl, rfl⟩ rfl rfl rfl dL_law_990 rfl rfl ?_
  refine cb_comm ?_
  refine cb_aload_n (n := 994) hX 1 dL_law_993 rfl rfl rfl ?_
  refine lw_arg (p1 := 995) (p2 := 996) (p3 := 997) (p4 := 998) (p5 := 999) hX hs 1 rfl (by omega) hL rfl ⟨rfl, rfl, rfl, rfl, rfl⟩ dL_law_994 dL_law_995 dL_law_996 dL_law_997 dL_law_998 ?_
  refine lw_arg (p1 := 1000) (p2 := 1001) (p3 := 1002) (p4 := 1003) (p5 := 1004) hX hs 2 rfl (by omega) hL rfl ⟨rfl, rfl, rfl, rfl, rfl⟩ dL_law_999 dL_law_1000 dL_law_1001 dL_law_1002 dL_law_1003 ?_
  refine lw_arg (p1 := 1005) (p2 := 1006) (p3 := 1007) (p4 := 1008) (p5 := 1009) hX hs 3 rfl (by omega) hL rfl ⟨rfl, rfl, rfl, rfl, rfl⟩ dL_law_1004 dL_law_1005 dL_law_1006 dL_law_1007 dL_law_1008 ?_
  refine lw_arg (p1 := 1010) (p2 := 1011) (p3 := 1012) (p4 := 1013) (p5 := 1014) hX hs 4 rfl (by omega) hL rfl ⟨rfl, rfl, rfl, rfl, rfl⟩ dL_law_1009 dL_law_1010 dL_law_1011 dL_law_1012 dL_law_1013 ?_
  refine cb_virtI (n := 1017) (q := 0) (As := [.int (xs (i + 1)), .int (xs (i + 2)), .int (xs (i + 3)), .int (xs (i + 4))]) (st := [.int r1]) hX hR kc_X8 ly_X8 mv_X8_lay ml_L_134 (m_X8_lay Γ.2.1 (σM, Ξ.1, Ξ.2.1, gA LM σM) _ _ _ _ vM e2) rfl ⟨rfl, rfl⟩ rfl rfl rfl dL_law_1014 rfl rfl ?_
  refine cb_eqT (tgt := 1198) hX (h1.trans h2.symm) dL_law_1017 (by decide) ?_
  refine cb_comm ?_
  exact hK v1 v2 _ (c + 1) (by omega) I1 I2
theorem lwc_29 {Γ : gC} {Ξ : cO} {Q : State → Prop} {σX σM : Nat → Nat} {b L i c : Nat} {xs : Nat → Int32} {vX vM : gV} {a : Ab} (hX : cx_X Γ Ξ cL_law RL 4) (hR : Γ.2.2.2.1 = cx_R 13 600000 7302250) (hs : scr Γ Ξ b L xs) (hL : L ≤ 384) (hi : i + 6 ≤ L) (hc : c < 900000) (hI : InvX vX a c) (hM : InvM vM a) (hK : lw_K Γ Ξ Q σX σM b i c) : cx_G Γ Ξ Q 4 139 4654 (gx_w LX σX Ξ.1 vX) (gx_w LM σM Ξ.1 vM) 1022 [(3, .int (nI i)), (2, .ref (σM 0)), (1, .ref (σX 0)), (0, .ref b)] [] := by
  obtain ⟨⟨r1, v1⟩, e1, h1, I1⟩ := (get_X hI (by omega) : OKX (f_X7_get (xs (i + 1)) (xs (i + 2)) (xs (i + 3)) vX) (sp_get (xs (i + 1)) (xs (i + 2)) (xs (i + 3)) a) c)
  obtain ⟨⟨r2, v2⟩, e2, h2, I2⟩ := (get_M hM : OKM (f_X8_get (xs (i + 1)) (xs (i + 2)) (xs (i + 3)) vM) (sp_get (xs (i + 1)) (xs (i + 2)) (xs (i + 3)) a))
  have h1 : r1 = (sp_get (xs (i + 1)) (xs (i + 2)) (xs (i + 3)) a).1 := h1
  have h2 : r2 = (sp_get (xs (i + 1)) (xs (i + 2)) (xs (i + 3)) a).1 := h2
  refine cb_aload_n (n := 1023) hX 2 dL_law_1022 rfl rfl rfl ?_
  refine lw_arg (p1 := 1024) (p2 := 1025) (p3 := 1026) (p4 := 1027) (p5 := 1028) hX hs 1 rfl (by omega) hL rfl ⟨rfl, rfl, rfl, rfl, rfl⟩ dL_law_1023 dL_law_1024 dL_law_1025 dL_law_1026 dL_law_1027 ?_
  refine lw_arg (p1 := 1029) (p2 := 1030) (p3 := 1031) (p4 := 1032) (p5 := 1033) hX hs 2 rfl (by omega) hL rfl ⟨rfl, rfl, rfl, rfl, rfl⟩ dL_law_1028 dL_law_1029 dL_law_1030 dL_law_1031 dL_law_1032 ?_
  refine lw_arg (p1 := 1034) (p2 := 1035) (p3 := 1036) (p4 := 1037) (p5 := 1038) hX hs 3 rfl (by omega) hL rfl ⟨rfl, rfl, rfl, rfl, rfl⟩ dL_law_1033 dL_law_1034 dL_law_1035 dL_law_1036 dL_law_1037 ?_
  refine cb_virtI (n := 1041) (q := 0) (As := [.int (xs (i + 1)), .int (xs (i + 2)), .int (xs (i + 3))]) (st := []) hX hR kc_X7 ly_X7 mv_X7_get ml_L_135 (m_X7_get Γ.2.1 (σX, Ξ.1, Ξ.2.1, gA LX σX) _ _ _ vX e1) rfl ⟨rfl, rfl⟩ rfl rfl rfl dL_law_1038 rfl rfl ?_
  refine cb_comm ?_
  refine cb_aload_n (n := 1042) hX 1 dL_law_1041 rfl rfl rfl ?_
  refine lw_arg (p1 := 1043) (p2 := 1044) (p3 := 1045) (p4 := 1046) (p5 := 1047) hX hs 1 rfl (by omega) hL rfl ⟨rfl, rfl, rfl, rfl, rfl⟩ dL_law_1042 dL_law_1043 dL_law_1044 dL_law_1045 dL_law_1046 ?_
  refine lw_arg (p1 := 1048) (p2 := 1049) (p3 := 1050) (p4 := 1051) (p5 := 1052) hX hs 2 rfl (by omega) hL rfl ⟨rfl, rfl, rfl, rfl, rfl⟩ dL_law_1047 dL_law_1048 dL_law_1049 dL_law_1050 dL_law_1051 ?_
  refine lw_arg (p1 := 1053) (p2 := 1054) (p3 := 1055) (p4 := 1056) (p5 := 1057) hX hs 3 rfl (by omega) hL rfl ⟨rfl, rfl, rfl, rfl, rfl⟩ dL_law_1052 dL_law_1053 dL_law_1054 dL_law_1055 dL_law_1056 ?_
  refine cb_virtI (n := 1060) (q := 0) (As := [.int (xs (i + 1)), .int (xs (i + 2)), .int (xs (i + 3))]) (st := [.int r1]) hX hR kc_X8 ly_X8 mv_X8_get ml_L_138 (m_X8_get Γ.2.1 (σM, Ξ.1, Ξ.2.1, gA LM σM) _ _ _ vM e2) rfl ⟨rfl, rfl⟩ rfl rfl rfl dL_law_1057 rfl rfl ?_
  refine cb_eqT (tgt := 1198) hX (h1.trans h2.symm) dL_law_1060 (by decide) ?_
  refine cb_comm ?_
  exact hK v1 v2 _ (c + 1) (by omega) I1 I2
theorem lwc_30 {Γ : gC} {Ξ : cO} {Q : State → Prop} {σX σM : Nat → Nat} {b L i c : Nat} {xs : Nat → Int32} {vX vM : gV} {a : Ab} (hX : cx_X Γ Ξ cL_law RL 4) (hR : Γ.2.2.2.1 = cx_R 13 600000 7302250) (hs : scr Γ Ξ b L xs) (hL : L ≤ 384) (hi : i + 6 ≤ L) (hc : c < 900000) (hI : InvX vX a c) (hM : InvM vM a) (hK : lw_K Γ Ξ Q σX σM b i c) : cx_G Γ Ξ Q 4 139 4654 (gx_w LX σX Ξ.1 vX) (gx_w LM σM Ξ.1 vM) 1065 [(3, .int (nI i)), (2, .ref (σM 0)), (1, .ref (σX 0)), (0, .ref b)] [] := by
  obtain ⟨⟨r1, v1⟩, e1, h1, I1⟩ := (copy_X hI (by omega) : OKX (f_X7_copy (xs (i + 1)) (xs (i + 2)) (xs (i + 3)) (xs (i + 4)) (xs (i + 5)) vX) (sp_copy (xs (i + 1)) (xs (i + 2)) (xs (i + 3)) (xs (i + 4)) (xs (i + 5)) a) c)
  obtain ⟨⟨r2, v2⟩, e2, h2, I2⟩ := (copy_M hM : OKM (f_X8_copy (xs (i + 1)) (xs (i + 2)) (xs (i + 3)) (xs (i + 4)) (xs (i + 5)) vM) (sp_copy (xs (i + 1)) (xs (i + 2)) (xs (i + 3)) (xs (i + 4)) (xs (i + 5)) a))
  have h1 : r1 = (sp_copy (xs (i + 1)) (xs (i + 2)) (xs (i + 3)) (xs (i + 4)) (xs (i + 5)) a).1 := h1
  have h2 : r2 = (sp_copy (xs (i + 1)) (xs (i + 2)) (xs (i + 3)) (xs (i + 4)) (xs (i + 5)) a).1 := h2
  refine cb_aload_n (n := 1066) hX 2 dL_law_1065 rfl rfl rfl ?_
  refine lw_arg (p1 := 1067) (p2 := 1068) (p3 := 1069) (p4 := 1070) (p5 := 1071) hX hs 1 rfl (by omega) hL rfl ⟨rfl, rfl, rfl, rfl, rfl⟩ dL_law_1066 dL_law_1067 dL_law_1068 dL_law_1069 dL_law_1070 ?_
  refine lw_arg (p1 := 1072) (p2 := 1073) (p3 := 1074) (p4 := 1075) (p5 := 1076) hX hs 2 rfl (by omega) hL rfl ⟨rfl, rfl, rfl, rfl, rfl⟩ dL_law_1071 dL_law_1072 dL_law_1073 dL_law_1074 dL_law_1075 ?_
  refine lw_arg (p1 := 1077) (p2 := 1078) (p3 := 1079) (p4 := 1080) (p5 := 1081) hX hs 3 rfl (by omega) hL rfl ⟨rfl, rfl, rfl, rfl, rfl⟩ dL_law_1076 dL_law_1077 dL_law_1078 dL_law_1079 dL_law_1080 ?_
  refine lw_arg (p1 := 1082) (p2 := 1083) (p3 := 1084) (p4 := 1085) (p5 := 1086) hX hs 4 rfl (by omega) hL rfl ⟨rfl, rfl, rfl, rfl, rfl⟩ dL_law_1081 dL_law_1082 dL_law_1083 dL_law_1084 dL_law_1085 ?_
  refine lw_arg (p1 := 1087) (p2 := 1088) (p3 := 1089) (p4 := 1090) (p5 := 1091) hX hs 5 rfl (by omega) hL rfl ⟨rfl, rfl, rfl, rfl, rfl⟩ dL_law_1086 dL_law_1087 dL_law_1088 dL_law_1089 dL_law_1090 ?_
  refine cb_virtI (n := 1094) (q := 0) (As := [.int (xs (i + 1)), .int (xs (i + 2)), .int (xs (i + 3)), .int (xs (i + 4)), .int (xs (i + 5))]) (st := []) hX hR kc_X7 ly_X7 mv_X7_copy ml_L_139 (m_X7_copy Γ.2.1 (σX, Ξ.1, Ξ.2.1, gA LX σX) _ _ _ _ _ vX e1) rfl ⟨rfl, rfl⟩ rfl rfl rfl dL_law_1091 rfl rfl ?_
  refine cb_comm ?_
  refine cb_aload_n (n := 1095) hX 1 dL_law_1094 rfl rfl rfl ?_
  refine lw_arg (p1 := 1096) (p2 := 1097) (p3 := 1098) (p4 := 1099) (p5 := 1100) hX hs 1 rfl (by omega) hL rfl ⟨rfl, rfl, rfl, rfl, rfl⟩ dL_law_1095 dL_law_1096 dL_law_1097 dL_law_1098 dL_law_1099 ?_
  refine lw_arg (p1 := 1101) (p2 := 1102) (p3 := 1103) (p4 := 1104) (p5 := 1105) hX hs 2 rfl (by omega) hL rfl ⟨rfl, rfl, rfl, rfl, rfl⟩ dL_law_1100 dL_law_1101 dL_law_1102 dL_law_1103 dL_law_1104 ?_
  refine lw_arg (p1 := 1106) (p2 := 1107) (p3 := 1108) (p4 := 1109) (p5 := 1110) hX hs 3 rfl (by omega) hL rfl ⟨rfl, rfl, rfl, rfl, rfl⟩ dL_law_1105 dL_law_1106 dL_law_1107 dL_law_1108 dL_law_1109 ?_
  refine lw_arg (p1 := 1111) (p2 := 1112) (p3 := 1113) (p4 := 1114) (p5 := 1115) hX hs 4 rfl (by omega) hL rfl ⟨rfl, rfl, rfl, rfl, rfl⟩ dL_law_1110 dL_law_1111 dL_law_1112 dL_law_1113 dL_law_1114 ?_
  refine lw_arg (p1 := 1116) (p2 := 1117) (p3 := 1118) (p4 := 1119) (p5 := 1120) hX hs 5 rfl (by omega) hL rfl ⟨rfl, rfl, rfl, rfl, rfl⟩ dL_law_1115 dL_law_1116 dL_law_1117 dL_law_1118 dL_law_1119 ?_
  refine cb_virtI (n := 1123) (q := 0) (As := [.int (xs (i + 1)), .int (xs (i + 2)), .int (xs (i + 3)), .int (xs (i + 4)), .int (xs (i + 5))]) (st := [.int r1]) hX hR kc_X8 ly_X8 mv_X8_copy ml_L_143 (m_X8_copy Γ.2.1 (σM, Ξ.1, Ξ.2.1, gA LM σM) _ _ _ _ _ vM e2) rfl ⟨rfl, rfl⟩ rfl rfl rfl dL_law_1120 rfl rfl ?_
  refine cb_eqT (tgt := 1198) hX (h1.trans h2.symm) dL_law_1123 (by decide) ?_
  refine cb_comm ?_
  exact hK v1 v2 _ (c + 1) (by omega) I1 I2
theorem lwc_31 {Γ : gC} {Ξ : cO} {Q : State → Prop} {σX σM : Nat → Nat} {b L i c : Nat} {xs : Nat → Int32} {vX vM : gV} {a : Ab} (hX : cx_X Γ Ξ cL_law RL 4) (hR : Γ.2.2.2.1 = cx_R 13 600000 7302250) (hs : scr Γ Ξ b L xs) (hL : L ≤ 384) (hi : i + 6 ≤ L) (hc : c < 900000) (hI : InvX vX a c) (hM : InvM vM a) (hK : lw_K Γ Ξ Q σX σM b i c) : cx_G Γ Ξ Q 4 139 4654 (gx_w LX σX Ξ.1 vX) (gx_w LM σM Ξ.1 vM) 1128 [(3, .int (nI i)), (2, .ref (σM 0)), (1, .ref (σX 0)), (0, .ref b)] [] := by
  obtain ⟨⟨r1, v1⟩, e1, h1, I1⟩ := (write_X hI (by omega) : OKX (f_X7_write (xs (i + 1)) (xs (i + 2)) vX) (sp_write (xs (i + 1)) (xs (i + 2)) a) c)
  obtain ⟨⟨r2, v2⟩, e2, h2, I2⟩ := (write_M hM : OKM (f_X8_write (xs (i + 1)) (xs (i + 2)) vM) (sp_write (xs (i + 1)) (xs (i + 2)) a))
  have h1 : r1 = (sp_write (xs (i + 1)) (xs (i + 2)) a).1 := h1
  have h2 : r2 = (sp_write (xs (i + 1)) (xs (i + 2)) a).1 := h2
  refine cb_aload_n (n := 1129) hX 2 dL_law_1128 rfl rfl rfl ?_
  refine lw_arg (p1 := 1130) (p2 := 1131) (p3 := 1132) (p4 := 1133) (p5 := 1134) hX hs 1 rfl (by omega) hL rfl ⟨rfl, rfl, rfl, rfl, rfl⟩ dL_law_1129 dL_law_1130 dL_law_1131 dL_law_1132 dL_law_1133 ?_
  refine lw_arg (p1 := 1135) (p2 := 1136) (p3 := 1137) (p4 := 1138) (p5 := 1139) hX hs 2 rfl (by omega) hL rfl ⟨rfl, rfl, rfl, rfl, rfl⟩ dL_law_1134 dL_law_1135 dL_law_1136 dL_law_1137 dL_law_1138 ?_
  refine cb_virtI (n := 1142) (q := 0) (As := [.int (xs (i + 1)), .int (xs (i + 2))]) (st := []) hX hR kc_X7 ly_X7 mv_X7_write ml_L_144 (m_X7_write Γ.2.1 (σX, Ξ.1, Ξ.2.1, gA LX σX) _ _ vX e1) rfl ⟨rfl, rfl⟩ rfl rfl rfl dL_law_1139 rfl rfl ?_
  refine cb_comm ?_
  refine cb_aload_n (n := 1143) hX 1 dL_law_1142 rfl rfl rfl ?_
  refine lw_arg (p1 := 1144) (p2 := 1145) (p3 := 1146) (p4 := 1147) (p5 := 1148) hX hs 1 rfl (by omega) hL rfl ⟨rfl, rfl, rfl, rfl, rfl⟩ dL_law_1143 dL_law_1144 dL_law_1145 dL_law_1146 dL_law_1147 ?_
  refine lw_arg (p1 := 1149) (p2 := 1150) (p3 := 1151) (p4 := 1152) (p5 := 1153) hX hs 2 rfl (by omega) hL rfl ⟨rfl, rfl, rfl, rfl, rfl⟩ dL_law_1148 dL_law_1149 dL_law_1150 dL_law_1151 dL_law_1152 ?_
  refine cb_virtI (n := 1156) (q := 0) (As := [.int (xs (i + 1)), .int (xs (i + 2))]) (st := [.int r1]) hX hR kc_X8 ly_X8 mv_X8_write ml_L_147 (m_X8_write Γ.2.1 (σM, Ξ.1, Ξ.2.1, gA LM σM) _ _ vM e2) rfl ⟨rfl, rfl⟩ rfl rfl rfl dL_law_1153 rfl rfl ?_
  refine cb_eqT (tgt := 1198) hX (h1.trans h2.symm) dL_law_1156 (by decide) ?_
  refine cb_comm ?_
  exact hK v1 v2 _ (c + 1) (by omega) I1 I2
theorem lwc_32 {Γ : gC} {Ξ : cO} {Q : State → Prop} {σX σM : Nat → Nat} {b L i c : Nat} {xs : Nat → Int32} {vX vM : gV} {a : Ab} (hX : cx_X Γ Ξ cL_law RL 4) (hR : Γ.2.2.2.1 = cx_R 13 600000 7302250) (hs : scr Γ Ξ b L xs) (hL : L ≤ 384) (hi : i + 6 ≤ L) (hc : c < 900000) (hI : InvX vX a c) (hM : InvM vM a) (hK : lw_K Γ Ξ Q σX σM b i c) : cx_G Γ Ξ Q 4 139 4654 (gx_w LX σX Ξ.1 vX) (gx_w LM σM Ξ.1 vM) 1161 [(3, .int (nI i)), (2, .ref (σM 0)), (1, .ref (σX 0)), (0, .ref b)] [] := by
  obtain ⟨⟨r1, v1⟩, e1, h1, I1⟩ := (count_X hI (by omega) : OKX (f_X7_count (xs (i + 1)) vX) (sp_count (xs (i + 1)) a) c)
  obtain ⟨⟨r2, v2⟩, e2, h2, I2⟩ := (count_M hM : OKM (f_X8_count (xs (i + 1)) vM) (sp_count (xs (i + 1)) a))
  have h1 : r1 = (sp_count (xs (i + 1)) a).1 := h1
  have h2 : r2 = (sp_count (xs (i + 1)) a).1 := h2
  refine cb_aload_n (n := 1162) hX 2 dL_law_1161 rfl rfl rfl ?_
  refine lw_arg (p1 := 1163) (p2 := 1164) (p3 := 1165) (p4 := 1166) (p5 := 1167) hX hs 1 rfl (by omega) hL rfl ⟨rfl, rfl, rfl, rfl, rfl⟩ dL_law_1162 dL_law_1163 dL_law_1164 dL_law_1165 dL_law_1166 ?_
  refine cb_virtI (n := 1170) (q := 0) (As := [.int (xs (i + 1))]) (st := []) hX hR kc_X7 ly_X7 mv_X7_count ml_L_148 (m_X7_count Γ.2.1 (σX, Ξ.1, Ξ.2.1, gA LX σX) _ vX e1) rfl ⟨rfl, rfl⟩ rfl rfl rfl dL_law_1167 rfl rfl ?_
  refine cb_comm ?_
  refine cb_aload_n (n := 1171) hX 1 dL_law_1170 rfl rfl rfl ?_
  refine lw_arg (p1 := 1172) (p2 := 1173) (p3 := 1174) (p4 := 1175) (p5 := 1176) hX hs 1 rfl (by omega) hL rfl ⟨rfl, rfl, rfl, rfl, rfl⟩ dL_law_1171 dL_law_1172 dL_law_1173 dL_law_1174 dL_law_1175 ?_
  refine cb_virtI (n := 1179) (q := 0) (As := [.int (xs (i + 1))]) (st := [.int r1]) hX hR kc_X8 ly_X8 mv_X8_count ml_L_151 (m_X8_count Γ.2.1 (σM, Ξ.1, Ξ.2.1, gA LM σM) _ vM e2) rfl ⟨rfl, rfl⟩ rfl rfl rfl dL_law_1176 rfl rfl ?_
  refine cb_eqT (tgt := 1198) hX (h1.trans h2.symm) dL_law_1179 (by decide) ?_
  refine cb_comm ?_
  exact hK v1 v2 _ (c + 1) (by omega) I1 I2
theorem lwc_33 {Γ : gC} {Ξ : cO} {Q : State → Prop} {σX σM : Nat → Nat} {b L i c : Nat} {xs : Nat → Int32} {vX vM : gV} {a : Ab} (hX : cx_X Γ Ξ cL_law RL 4) (hR : Γ.2.2.2.1 = cx_R 13 600000 7302250) (hs : scr Γ Ξ b L xs) (hL : L ≤ 384) (hi : i + 6 ≤ L) (hc : c < 900000) (hI : InvX vX a c) (hM : InvM vM a) (hK : lw_K Γ Ξ Q σX σM b i c) : cx_G Γ Ξ Q 4 139 4654 (gx_w LX σX Ξ.1 vX) (gx_w LM σM Ξ.1 vM) 1184 [(3, .int (nI i)), (2, .ref (σM 0)), (1, .ref (σX 0)), (0, .ref b)] [] := by
  obtain ⟨⟨r1, v1⟩, e1, h1, I1⟩ := digest_X hI (by omega)
  obtain ⟨⟨r2, v2⟩, e2, h2, I2⟩ := digest_M hM
  have h1 : r1 = sp_digest a := h1
  have h2 : r2 = sp_digest a := h2
  refine cb_aload_n (n := 1185) hX 2 dL_law_1184 rfl rfl rfl ?_
  refine cb_virtJ (n := 1188) (q := 0) (As := []) (st := []) hX hR kc_X7 ly_X7 mv_X7_digest ml_L_152 (m_X7_digest Γ.2.1 (σX, Ξ.1, Ξ.2.1, gA LX σX)  vX e1) rfl ⟨rfl, rfl⟩ rfl rfl rfl dL_law_1185 rfl rfl ?_
  refine cb_comm ?_
  refine cb_aload_n (n := 1189) hX 1 dL_law_1188 rfl rfl rfl ?_
  refine cb_virtJ (n := 1192) (q := 0) (As := []) (st := [.long r1]) hX hR kc_X8 ly_X8 mv_X8_digest ml_L_156 (m_X8_digest Γ.2.1 (σM, Ξ.1, Ξ.2.1, gA LM σM)  vM e2) rfl ⟨rfl, rfl⟩ rfl rfl rfl dL_law_1189 rfl rfl ?_
  refine cb_leqT (p2 := 1193) (tgt := 1198) hX (h1.trans h2.symm) dL_law_1192 rfl dL_law_1193 (by decide) ?_
  refine cb_comm ?_
  exact hK v1 v2 _ (c + 300) (by omega) I1 I2
