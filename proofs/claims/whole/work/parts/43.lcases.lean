theorem zc_okX {C : xT} {EX : xE} {EM : mE} {b L : Nat} {xs : Nat → Int32} (hC : zc C EX EM b L xs) : xOk (GX EX) := hC.2.2.2.2.2.2.2.2.1
theorem zc_okM {C : xT} {EX : xE} {EM : mE} {b L : Nat} {xs : Nat → Int32} (hC : zc C EX EM b L xs) : xOk (GM EM) := hC.2.2.2.2.2.2.2.2.2.1
set_option maxRecDepth 100000 in
set_option maxHeartbeats 4000000 in
theorem law_c0 {C : xT} {EX : xE} {EM : mE} {b L : Nat} {xs : Nat → Int32} {Q : State → Prop} {σX σM σX' σM' : xS} {x3 r : Int32} {N : Nat} (hC : zc C EX EM b L xs) (i1 : vp_in (x3 + 1) L) (i2 : vp_in (x3 + 2) L) (i3 : vp_in (x3 + 3) L) (i4 : vp_in (x3 + 4) L) (i5 : vp_in (x3 + 5) L) (hX : cw_feed N (xs (x3 + 1).toNatClampNeg) (xs (x3 + 2).toNatClampNeg) (xs (x3 + 3).toNatClampNeg) (xs (x3 + 4).toNatClampNeg) (xs (x3 + 5).toNatClampNeg) σX = some (r, σX')) (hM : m_feed N (xs (x3 + 1).toNatClampNeg) (xs (x3 + 2).toNatClampNeg) (xs (x3 + 3).toNatClampNeg) (xs (x3 + 4).toNatClampNeg) (xs (x3 + 5).toNatClampNeg) σM = some (r, σM')) (k : zw C EX EM Q σX' σM' 920 [(0, .ref b), (1, .ref (EX.2.2.1 0)), (2, .ref (EM.2.2.1 0)), (3, .int x3)] []) : zw C EX EM Q σX σM 152 [(0, .ref b), (1, .ref (EX.2.2.1 0)), (2, .ref (EM.2.2.1 0)), (3, .int x3)] [] := by
  refine zr_aload_n (pc' := 153) 1 hC dL_law_152 rfl rfl rfl ?_
  refine zr_aload_n (pc' := 154) 0 hC dL_law_153 rfl rfl rfl ?_
  refine zr_iload_n (pc' := 155) 3 hC dL_law_154 rfl rfl rfl ?_
  refine zr_iconst (pc' := 156) 1 hC dL_law_155 rfl (by decide) ?_
  refine zr_iadd (pc' := 157) hC dL_law_156 rfl ?_
  refine zr_sld (pc' := 158) hC dL_law_157 rfl i1 ?_
  refine zr_aload_n (pc' := 159) 0 hC dL_law_158 rfl rfl rfl ?_
  refine zr_iload_n (pc' := 160) 3 hC dL_law_159 rfl rfl rfl ?_
  refine zr_iconst (pc' := 161) 2 hC dL_law_160 rfl (by decide) ?_
  refine zr_iadd (pc' := 162) hC dL_law_161 rfl ?_
  refine zr_sld (pc' := 163) hC dL_law_162 rfl i2 ?_
  refine zr_aload_n (pc' := 164) 0 hC dL_law_163 rfl rfl rfl ?_
  refine zr_iload_n (pc' := 165) 3 hC dL_law_164 rfl rfl rfl ?_
  refine zr_iconst (pc' := 166) 3 hC dL_law_165 rfl (by decide) ?_
  refine zr_iadd (pc' := 167) hC dL_law_166 rfl ?_
  refine zr_sld (pc' := 168) hC dL_law_167 rfl i3 ?_
  refine zr_aload_n (pc' := 169) 0 hC dL_law_168 rfl rfl rfl ?_
  refine zr_iload_n (pc' := 170) 3 hC dL_law_169 rfl rfl rfl ?_
  refine zr_iconst (pc' := 171) 4 hC dL_law_170 rfl (by decide) ?_
  refine zr_iadd (pc' := 172) hC dL_law_171 rfl ?_
  refine zr_sld (pc' := 173) hC dL_law_172 rfl i4 ?_
  refine zr_aload_n (pc' := 174) 0 hC dL_law_173 rfl rfl rfl ?_
  refine zr_iload_n (pc' := 175) 3 hC dL_law_174 rfl rfl rfl ?_
  refine zr_iconst (pc' := 176) 5 hC dL_law_175 rfl (by decide) ?_
  refine zr_iadd (pc' := 177) hC dL_law_176 rfl ?_
  refine zr_sld (pc' := 178) hC dL_law_177 rfl i5 ?_
  refine zr_callX (pc' := 181) (rmy := k2_rm 1 22) [.int (xs (x3 + 1).toNatClampNeg), .int (xs (x3 + 2).toNatClampNeg), .int (xs (x3 + 3).toNatClampNeg), .int (xs (x3 + 4).toNatClampNeg), .int (xs (x3 + 5).toNatClampNeg)] hC dL_law_178 rfl kL_13 rfl rfl rfl ⟨by decide, by decide⟩ rfl (Nat.le_of_ble_eq_true rfl) (c_cw_feed (zc_okX hC) hX) ?_
  refine zr_aload_n (pc' := 182) 2 hC dL_law_181 rfl rfl rfl ?_
  refine zr_aload_n (pc' := 183) 0 hC dL_law_182 rfl rfl rfl ?_
  refine zr_iload_n (pc' := 184) 3 hC dL_law_183 rfl rfl rfl ?_
  refine zr_iconst (pc' := 185) 1 hC dL_law_184 rfl (by decide) ?_
  refine zr_iadd (pc' := 186) hC dL_law_185 rfl ?_
  refine zr_sld (pc' := 187) hC dL_law_186 rfl i1 ?_
  refine zr_aload_n (pc' := 188) 0 hC dL_law_187 rfl rfl rfl ?_
  refine zr_iload_n (pc' := 189) 3 hC dL_law_188 rfl rfl rfl ?_
  refine zr_iconst (pc' := 190) 2 hC dL_law_189 rfl (by decide) ?_
  refine zr_iadd (pc' := 191) hC dL_law_190 rfl ?_
  refine zr_sld (pc' := 192) hC dL_law_191 rfl i2 ?_
  refine zr_aload_n (pc' := 193) 0 hC dL_law_192 rfl rfl rfl ?_
  refine zr_iload_n (pc' := 194) 3 hC dL_law_193 rfl rfl rfl ?_
  refine zr_iconst (pc' := 195) 3 hC dL_law_194 rfl (by decide) ?_
  refine zr_iadd (pc' := 196) hC dL_law_195 rfl ?_
  refine zr_sld (pc' := 197) hC dL_law_196 rfl i3 ?_
  refine zr_aload_n (pc' := 198) 0 hC dL_law_197 rfl rfl rfl ?_
  refine zr_iload_n (pc' := 199) 3 hC dL_law_198 rfl rfl rfl ?_
  refine zr_iconst (pc' := 200) 4 hC dL_law_199 rfl (by decide) ?_
  refine zr_iadd (pc' := 201) hC dL_law_200 rfl ?_
  refine zr_sld (pc' := 202) hC dL_law_201 rfl i4 ?_
  refine zr_aload_n (pc' := 203) 0 hC dL_law_202 rfl rfl rfl ?_
  refine zr_iload_n (pc' := 204) 3 hC dL_law_203 rfl rfl rfl ?_
  refine zr_iconst (pc' := 205) 5 hC dL_law_204 rfl (by decide) ?_
  refine zr_iadd (pc' := 206) hC dL_law_205 rfl ?_
  refine zr_sld (pc' := 207) hC dL_law_206 rfl i5 ?_
  refine zr_callM (pc' := 210) (rmy := k2_rm 0 0) [.int (xs (x3 + 1).toNatClampNeg), .int (xs (x3 + 2).toNatClampNeg), .int (xs (x3 + 3).toNatClampNeg), .int (xs (x3 + 4).toNatClampNeg), .int (xs (x3 + 5).toNatClampNeg)] hC dL_law_207 rfl kL_17 rfl rfl rfl ⟨by decide, by decide⟩ rfl (Nat.le_of_ble_eq_true rfl) (c_m_feed (zc_okM hC) hM) ?_
  refine zr_icmp_eq (pc' := 213) 920 hC dL_law_210 rfl (by decide) ?_
  exact k
set_option maxRecDepth 100000 in
set_option maxHeartbeats 4000000 in
theorem law_c1 {C : xT} {EX : xE} {EM : mE} {b L : Nat} {xs : Nat → Int32} {Q : State → Prop} {σX σM σX' σM' : xS} {x3 r : Int32} {N : Nat} (hC : zc C EX EM b L xs) (i1 : vp_in (x3 + 1) L) (hX : cw_end N (xs (x3 + 1).toNatClampNeg) σX = some (r, σX')) (hM : m_end N (xs (x3 + 1).toNatClampNeg) σM = some (r, σM')) (k : zw C EX EM Q σX' σM' 920 [(0, .ref b), (1, .ref (EX.2.2.1 0)), (2, .ref (EM.2.2.1 0)), (3, .int x3)] []) : zw C EX EM Q σX σM 215 [(0, .ref b), (1, .ref (EX.2.2.1 0)), (2, .ref (EM.2.2.1 0)), (3, .int x3)] [] := by
  refine zr_aload_n (pc' := 216) 1 hC dL_law_215 rfl rfl rfl ?_
  refine zr_aload_n (pc' := 217) 0 hC dL_law_216 rfl rfl rfl ?_
  refine zr_iload_n (pc' := 218) 3 hC dL_law_217 rfl rfl rfl ?_
  refine zr_iconst (pc' := 219) 1 hC dL_law_218 rfl (by decide) ?_
  refine zr_iadd (pc' := 220) hC dL_law_219 rfl ?_
  refine zr_sld (pc' := 221) hC dL_law_220 rfl i1 ?_
  refine zr_callX (pc' := 224) (rmy := k2_rm 1 21) [.int (xs (x3 + 1).toNatClampNeg)] hC dL_law_221 rfl kL_18 rfl rfl rfl ⟨by decide, by decide⟩ rfl (Nat.le_of_ble_eq_true rfl) (c_cw_end (zc_okX hC) hX) ?_
  refine zr_aload_n (pc' := 225) 2 hC dL_law_224 rfl rfl rfl ?_
  refine zr_aload_n (pc' := 226) 0 hC dL_law_225 rfl rfl rfl ?_
  refine zr_iload_n (pc' := 227) 3 hC dL_law_226 rfl rfl rfl ?_
  refine zr_iconst (pc' := 228) 1 hC dL_law_227 rfl (by decide) ?_
  refine zr_iadd (pc' := 229) hC dL_law_228 rfl ?_
  refine zr_sld (pc' := 230) hC dL_law_229 rfl i1 ?_
  refine zr_callM (pc' := 233) (rmy := k2_rm 0 0) [.int (xs (x3 + 1).toNatClampNeg)] hC dL_law_230 rfl kL_22 rfl rfl rfl ⟨by decide, by decide⟩ rfl (Nat.le_of_ble_eq_true rfl) (c_m_end (zc_okM hC) hM) ?_
  refine zr_icmp_eq (pc' := 236) 920 hC dL_law_233 rfl (by decide) ?_
  exact k
set_option maxRecDepth 100000 in
set_option maxHeartbeats 4000000 in
theorem law_c2 {C : xT} {EX : xE} {EM : mE} {b L : Nat} {xs : Nat → Int32} {Q : State → Prop} {σX σM σX' σM' : xS} {x3 r : Int32} {N : Nat} (hC : zc C EX EM b L xs) (i1 : vp_in (x3 + 1) L) (i2 : vp_in (x3 + 2) L) (i3 : vp_in (x3 + 3) L) (hX : cw_form N (xs (x3 + 1).toNatClampNeg) (xs (x3 + 2).toNatClampNeg) (xs (x3 + 3).toNatClampNeg) σX = some (r, σX')) (hM : m_form N (xs (x3 + 1).toNatClampNeg) (xs (x3 + 2).toNatClampNeg) (xs (x3 + 3).toNatClampNeg) σM = some (r, σM')) (k : zw C EX EM Q σX' σM' 920 [(0, .ref b), (1, .ref (EX.2.2.1 0)), (2, .ref (EM.2.2.1 0)), (3, .int x3)] []) : zw C EX EM Q σX σM 238 [(0, .ref b), (1, .ref (EX.2.2.1 0)), (2, .ref (EM.2.2.1 0)), (3, .int x3)] [] := by
  refine zr_aload_n (pc' := 239) 1 hC dL_law_238 rfl rfl rfl ?_
  refine zr_aload_n (pc' := 240) 0 hC dL_law_239 rfl rfl rfl ?_
  refine zr_iload_n (pc' := 241) 3 hC dL_law_240 rfl rfl rfl ?_
  refine zr_iconst (pc' := 242) 1 hC dL_law_241 rfl (by decide) ?_
  refine zr_iadd (pc' := 243) hC dL_law_242 rfl ?_
  refine zr_sld (pc' := 244) hC dL_law_243 rfl i1 ?_
  refine zr_aload_n (pc' := 245) 0 hC dL_law_244 rfl rfl rfl ?_
  refine zr_iload_n (pc' := 246) 3 hC dL_law_245 rfl rfl rfl ?_
  refine zr_iconst (pc' := 247) 2 hC dL_law_246 rfl (by decide) ?_
  refine zr_iadd (pc' := 248) hC dL_law_247 rfl ?_
  refine zr_sld (pc' := 249) hC dL_law_248 rfl i2 ?_
  refine zr_aload_n (pc' := 250) 0 hC dL_law_249 rfl rfl rfl ?_
  refine zr_iload_n (pc' := 251) 3 hC dL_law_250 rfl rfl rfl ?_
  refine zr_iconst (pc' := 252) 3 hC dL_law_251 rfl (by decide) ?_
  refine zr_iadd (pc' := 253) hC dL_law_252 rfl ?_
  refine zr_sld (pc' := 254) hC dL_law_253 rfl i3 ?_
  refine zr_callX (pc' := 257) (rmy := k2_rm 9 195) [.int (xs (x3 + 1).toNatClampNeg), .int (xs (x3 + 2).toNatClampNeg), .int (xs (x3 + 3).toNatClampNeg)] hC dL_law_254 rfl kL_23 rfl rfl rfl ⟨by decide, by decide⟩ rfl (Nat.le_of_ble_eq_true rfl) (c_cw_form (zc_okX hC) hX) ?_
  refine zr_aload_n (pc' := 258) 2 hC dL_law_257 rfl rfl rfl ?_
  refine zr_aload_n (pc' := 259) 0 hC dL_law_258 rfl rfl rfl ?_
  refine zr_iload_n (pc' := 260) 3 hC dL_law_259 rfl rfl rfl ?_
  refine zr_iconst (pc' := 261) 1 hC dL_law_260 rfl (by decide) ?_
  refine zr_iadd (pc' := 262) hC dL_law_261 rfl ?_
  refine zr_sld (pc' := 263) hC dL_law_262 rfl i1 ?_
  refine zr_aload_n (pc' := 264) 0 hC dL_law_263 rfl rfl rfl ?_
  refine zr_iload_n (pc' := 265) 3 hC dL_law_264 rfl rfl rfl ?_
  refine zr_iconst (pc' := 266) 2 hC dL_law_265 rfl (by decide) ?_
  refine zr_iadd (pc' := 267) hC dL_law_266 rfl ?_
  refine zr_sld (pc' := 268) hC dL_law_267 rfl i2 ?_
  refine zr_aload_n (pc' := 269) 0 hC dL_law_268 rfl rfl rfl ?_
  refine zr_iload_n (pc' := 270) 3 hC dL_law_269 rfl rfl rfl ?_
  refine zr_iconst (pc' := 271) 3 hC dL_law_270 rfl (by decide) ?_
  refine zr_iadd (pc' := 272) hC dL_law_271 rfl ?_
  refine zr_sld (pc' := 273) hC dL_law_272 rfl i3 ?_
  refine zr_callM (pc' := 276) (rmy := k2_rm 4 89) [.int (xs (x3 + 1).toNatClampNeg), .int (xs (x3 + 2).toNatClampNeg), .int (xs (x3 + 3).toNatClampNeg)] hC dL_law_273 rfl kL_27 rfl rfl rfl ⟨by decide, by decide⟩ rfl (Nat.le_of_ble_eq_true rfl) (c_m_form (zc_okM hC) hM) ?_
  refine zr_icmp_eq (pc' := 279) 920 hC dL_law_276 rfl (by decide) ?_
  exact k
set_option maxRecDepth 100000 in
set_option maxHeartbeats 4000000 in
theorem law_c3 {C : xT} {EX : xE} {EM : mE} {b L : Nat} {xs : Nat → Int32} {Q : State → Prop} {σX σM σX' σM' : xS} {x3 r : Int32} {N : Nat} (hC : zc C EX EM b L xs) (i1 : vp_in (x3 + 1) L) (hX : cw_fault N (xs (x3 + 1).toNatClampNeg) σX = some (r, σX')) (hM : m_fault N (xs (x3 + 1).toNatClampNeg) σM = some (r, σM')) (k : zw C EX EM Q σX' σM' 920 [(0, .ref b), (1, .ref (EX.2.2.1 0)), (2, .ref (EM.2.2.1 0)), (3, .int x3)] []) : zw C EX EM Q σX σM 281 [(0, .ref b), (1, .ref (EX.2.2.1 0)), (2, .ref (EM.2.2.1 0)), (3, .int x3)] [] := by
  refine zr_aload_n (pc' := 282) 1 hC dL_law_281 rfl rfl rfl ?_
  refine zr_aload_n (pc' := 283) 0 hC dL_law_282 rfl rfl rfl ?_
  refine zr_iload_n (pc' := 284) 3 hC dL_law_283 rfl rfl rfl ?_
  refine zr_iconst (pc' := 285) 1 hC dL_law_284 rfl (by decide) ?_
  refine zr_iadd (pc' := 286) hC dL_law_285 rfl ?_
  refine zr_sld (pc' := 287) hC dL_law_286 rfl i1 ?_
  refine zr_callX (pc' := 290) (rmy := k2_rm 1 20) [.int (xs (x3 + 1).toNatClampNeg)] hC dL_law_287 rfl kL_28 rfl rfl rfl ⟨by decide, by decide⟩ rfl (Nat.le_of_ble_eq_true rfl) (c_cw_fault (zc_okX hC) hX) ?_
  refine zr_aload_n (pc' := 291) 2 hC dL_law_290 rfl rfl rfl ?_
  refine zr_aload_n (pc' := 292) 0 hC dL_law_291 rfl rfl rfl ?_
  refine zr_iload_n (pc' := 293) 3 hC dL_law_292 rfl rfl rfl ?_
  refine zr_iconst (pc' := 294) 1 hC dL_law_293 rfl (by decide) ?_
  refine zr_iadd (pc' := 295) hC dL_law_294 rfl ?_
  refine zr_sld (pc' := 296) hC dL_law_295 rfl i1 ?_
  refine zr_callM (pc' := 299) (rmy := k2_rm 0 0) [.int (xs (x3 + 1).toNatClampNeg)] hC dL_law_296 rfl kL_32 rfl rfl rfl ⟨by decide, by decide⟩ rfl (Nat.le_of_ble_eq_true rfl) (c_m_fault (zc_okM hC) hM) ?_
  refine zr_icmp_eq (pc' := 302) 920 hC dL_law_299 rfl (by decide) ?_
  exact k
set_option maxRecDepth 100000 in
set_option maxHeartbeats 4000000 in
theorem law_c4 {C : xT} {EX : xE} {EM : mE} {b L : Nat} {xs : Nat → Int32} {Q : State → Prop} {σX σM σX' σM' : xS} {x3 r : Int32} {N : Nat} (hC : zc C EX EM b L xs) (i1 : vp_in (x3 + 1) L) (i2 : vp_in (x3 + 2) L) (i3 : vp_in (x3 + 3) L) (hX : cw_solid N (xs (x3 + 1).toNatClampNeg) (xs (x3 + 2).toNatClampNeg) (xs (x3 + 3).toNatClampNeg) σX = some (r, σX')) (hM : m_solid N (xs (x3 + 1).toNatClampNeg) (xs (x3 + 2).toNatClampNeg) (xs (x3 + 3).toNatClampNeg) σM = some (r, σM')) (k : zw C EX EM Q σX' σM' 920 [(0, .ref b), (1, .ref (EX.2.2.1 0)), (2, .ref (EM.2.2.1 0)), (3, .int x3)] []) : zw C EX EM Q σX σM 304 [(0, .ref b), (1, .ref (EX.2.2.1 0)), (2, .ref (EM.2.2.1 0)), (3, .int x3)] [] := by
  refine zr_aload_n (pc' := 305) 1 hC dL_law_304 rfl rfl rfl ?_
  refine zr_aload_n (pc' := 306) 0 hC dL_law_305 rfl rfl rfl ?_
  refine zr_iload_n (pc' := 307) 3 hC dL_law_306 rfl rfl rfl ?_
  refine zr_iconst (pc' := 308) 1 hC dL_law_307 rfl (by decide) ?_
  refine zr_iadd (pc' := 309) hC dL_law_308 rfl ?_
  refine zr_sld (pc' := 310) hC dL_law_309 rfl i1 ?_
  refine zr_aload_n (pc' := 311) 0 hC dL_law_310 rfl rfl rfl ?_
  refine zr_iload_n (pc' := 312) 3 hC dL_law_311 rfl rfl rfl ?_
  refine zr_iconst (pc' := 313) 2 hC dL_law_312 rfl (by decide) ?_
  refine zr_iadd (pc' := 314) hC dL_law_313 rfl ?_
  refine zr_sld (pc' := 315) hC dL_law_314 rfl i2 ?_
  refine zr_aload_n (pc' := 316) 0 hC dL_law_315 rfl rfl rfl ?_
  refine zr_iload_n (pc' := 317) 3 hC dL_law_316 rfl rfl rfl ?_
  refine zr_iconst (pc' := 318) 3 hC dL_law_317 rfl (by decide) ?_
  refine zr_iadd (pc' := 319) hC dL_law_318 rfl ?_
  refine zr_sld (pc' := 320) hC dL_law_319 rfl i3 ?_
  refine zr_callX (pc' := 323) (rmy := k2_rm 1 24) [.int (xs (x3 + 1).toNatClampNeg), .int (xs (x3 + 2).toNatClampNeg), .int (xs (x3 + 3).toNatClampNeg)] hC dL_law_320 rfl kL_33 rfl rfl rfl ⟨by decide, by decide⟩ rfl (Nat.le_of_ble_eq_true rfl) (c_cw_solid (zc_okX hC) hX) ?_
  refine zr_aload_n (pc' := 324) 2 hC dL_law_323 rfl rfl rfl ?_
  refine zr_aload_n (pc' := 325) 0 hC dL_law_324 rfl rfl rfl ?_
  refine zr_iload_n (pc' := 326) 3 hC dL_law_325 rfl rfl rfl ?_
  refine zr_iconst (pc' := 327) 1 hC dL_law_326 rfl (by decide) ?_
  refine zr_iadd (pc' := 328) hC dL_law_327 rfl ?_
  refine zr_sld (pc' := 329) hC dL_law_328 rfl i1 ?_
  refine zr_aload_n (pc' := 330) 0 hC dL_law_329 rfl rfl rfl ?_
  refine zr_iload_n (pc' := 331) 3 hC dL_law_330 rfl rfl rfl ?_
  refine zr_iconst (pc' := 332) 2 hC dL_law_331 rfl (by decide) ?_
  refine zr_iadd (pc' := 333) hC dL_law_332 rfl ?_
  refine zr_sld (pc' := 334) hC dL_law_333 rfl i2 ?_
  refine zr_aload_n (pc' := 335) 0 hC dL_law_334 rfl rfl rfl ?_
  refine zr_iload_n (pc' := 336) 3 hC dL_law_335 rfl rfl rfl ?_
  refine zr_iconst (pc' := 337) 3 hC dL_law_336 rfl (by decide) ?_
  refine zr_iadd (pc' := 338) hC dL_law_337 rfl ?_
  refine zr_sld (pc' := 339) hC dL_law_338 rfl i3 ?_
  refine zr_callM (pc' := 342) (rmy := k2_rm 1 22) [.int (xs (x3 + 1).toNatClampNeg), .int (xs (x3 + 2).toNatClampNeg), .int (xs (x3 + 3).toNatClampNeg)] hC dL_law_339 rfl kL_36 rfl rfl rfl ⟨by decide, by decide⟩ rfl (Nat.le_of_ble_eq_true rfl) (c_m_solid (zc_okM hC) hM) ?_
  refine zr_icmp_eq (pc' := 345) 920 hC dL_law_342 rfl (by decide) ?_
  exact k
set_option maxRecDepth 100000 in
set_option maxHeartbeats 4000000 in
theorem law_c5 {C : xT} {EX : xE} {EM : mE} {b L : Nat} {xs : Nat → Int32} {Q : State → Prop} {σX σM σX' σM' : xS} {x3 r : Int32} {N : Nat} (hC : zc C EX EM b L xs) (i1 : vp_in (x3 + 1) L) (i2 : vp_in (x3 + 2) L) (i3 : vp_in (x3 + 3) L) (hX : cw_free N (xs (x3 + 1).toNatClampNeg) (xs (x3 + 2).toNatClampNeg) (xs (x3 + 3).toNatClampNeg) σX = some (r, σX')) (hM : m_free N (xs (x3 + 1).toNatClampNeg) (xs (x3 + 2).toNatClampNeg) (xs (x3 + 3).toNatClampNeg) σM = some (r, σM')) (k : zw C EX EM Q σX' σM' 920 [(0, .ref b), (1, .ref (EX.2.2.1 0)), (2, .ref (EM.2.2.1 0)), (3, .int x3)] []) : zw C EX EM Q σX σM 347 [(0, .ref b), (1, .ref (EX.2.2.1 0)), (2, .ref (EM.2.2.1 0)), (3, .int x3)] [] := by
  refine zr_aload_n (pc' := 348) 1 hC dL_law_347 rfl rfl rfl ?_
  refine zr_aload_n (pc' := 349) 0 hC dL_law_348 rfl rfl rfl ?_
  refine zr_iload_n (pc' := 350) 3 hC dL_law_349 rfl rfl rfl ?_
  refine zr_iconst (pc' := 351) 1 hC dL_law_350 rfl (by decide) ?_
  refine zr_iadd (pc' := 352) hC dL_law_351 rfl ?_
  refine zr_sld (pc' := 353) hC dL_law_352 rfl i1 ?_
  refine zr_aload_n (pc' := 354) 0 hC dL_law_353 rfl rfl rfl ?_
  refine zr_iload_n (pc' := 355) 3 hC dL_law_354 rfl rfl rfl ?_
  refine zr_iconst (pc' := 356) 2 hC dL_law_355 rfl (by decide) ?_
  refine zr_iadd (pc' := 357) hC dL_law_356 rfl ?_
  refine zr_sld (pc' := 358) hC dL_law_357 rfl i2 ?_
  refine zr_aload_n (pc' := 359) 0 hC dL_law_358 rfl rfl rfl ?_
  refine zr_iload_n (pc' := 360) 3 hC dL_law_359 rfl rfl rfl ?_
  refine zr_iconst (pc' := 361) 3 hC dL_law_360 rfl (by decide) ?_
  refine zr_iadd (pc' := 362) hC dL_law_361 rfl ?_
  refine zr_sld (pc' := 363) hC dL_law_362 rfl i3 ?_
  refine zr_callX (pc' := 366) (rmy := k2_rm 2 48) [.int (xs (x3 + 1).toNatClampNeg), .int (xs (x3 + 2).toNatClampNeg), .int (xs (x3 + 3).toNatClampNeg)] hC dL_law_363 rfl kL_37 rfl rfl rfl ⟨by decide, by decide⟩ rfl (Nat.le_of_ble_eq_true rfl) (c_cw_free (zc_okX hC) hX) ?_
  refine zr_aload_n (pc' := 367) 2 hC dL_law_366 rfl rfl rfl ?_
  refine zr_aload_n (pc' := 368) 0 hC dL_law_367 rfl rfl rfl ?_
  refine zr_iload_n (pc' := 369) 3 hC dL_law_368 rfl rfl rfl ?_
  refine zr_iconst (pc' := 370) 1 hC dL_law_369 rfl (by decide) ?_
  refine zr_iadd (pc' := 371) hC dL_law_370 rfl ?_
  refine zr_sld (pc' := 372) hC dL_law_371 rfl i1 ?_
  refine zr_aload_n (pc' := 373) 0 hC dL_law_372 rfl rfl rfl ?_
  refine zr_iload_n (pc' := 374) 3 hC dL_law_373 rfl rfl rfl ?_
  refine zr_iconst (pc' := 375) 2 hC dL_law_374 rfl (by decide) ?_
  refine zr_iadd (pc' := 376) hC dL_law_375 rfl ?_
  refine zr_sld (pc' := 377) hC dL_law_376 rfl i2 ?_
  refine zr_aload_n (pc' := 378) 0 hC dL_law_377 rfl rfl rfl ?_
  refine zr_iload_n (pc' := 379) 3 hC dL_law_378 rfl rfl rfl ?_
  refine zr_iconst (pc' := 380) 3 hC dL_law_379 rfl (by decide) ?_
  refine zr_iadd (pc' := 381) hC dL_law_380 rfl ?_
  refine zr_sld (pc' := 382) hC dL_law_381 rfl i3 ?_
  refine zr_callM (pc' := 385) (rmy := k2_rm 1 23) [.int (xs (x3 + 1).toNatClampNeg), .int (xs (x3 + 2).toNatClampNeg), .int (xs (x3 + 3).toNatClampNeg)] hC dL_law_382 rfl kL_40 rfl rfl rfl ⟨by decide, by decide⟩ rfl (Nat.le_of_ble_eq_true rfl) (c_m_free (zc_okM hC) hM) ?_
  refine zr_icmp_eq (pc' := 388) 920 hC dL_law_385 rfl (by decide) ?_
  exact k
set_option maxRecDepth 100000 in
set_option maxHeartbeats 4000000 in
theorem law_c6 {C : xT} {EX : xE} {EM : mE} {b L : Nat} {xs : Nat → Int32} {Q : State → Prop} {σX σM σX' σM' : xS} {x3 r : Int32} {N : Nat} (hC : zc C EX EM b L xs) (hX : cw_shut N  σX = some (r, σX')) (hM : m_shut N  σM = some (r, σM')) (k : zw C EX EM Q σX' σM' 920 [(0, .ref b), (1, .ref (EX.2.2.1 0)), (2, .ref (EM.2.2.1 0)), (3, .int x3)] []) : zw C EX EM Q σX σM 390 [(0, .ref b), (1, .ref (EX.2.2.1 0)), (2, .ref (EM.2.2.1 0)), (3, .int x3)] [] := by
  refine zr_aload_n (pc' := 391) 1 hC dL_law_390 rfl rfl rfl ?_
  refine zr_callX (pc' := 394) (rmy := k2_rm 2 43) [] hC dL_law_391 rfl kL_41 rfl rfl rfl ⟨by decide, by decide⟩ rfl (Nat.le_of_ble_eq_true rfl) (c_cw_shut (zc_okX hC) hX) ?_
  refine zr_aload_n (pc' := 395) 2 hC dL_law_394 rfl rfl rfl ?_
  refine zr_callM (pc' := 398) (rmy := k2_rm 1 22) [] hC dL_law_395 rfl kL_45 rfl rfl rfl ⟨by decide, by decide⟩ rfl (Nat.le_of_ble_eq_true rfl) (c_m_shut (zc_okM hC) hM) ?_
  refine zr_icmp_eq (pc' := 401) 920 hC dL_law_398 rfl (by decide) ?_
  exact k
set_option maxRecDepth 100000 in
set_option maxHeartbeats 4000000 in
theorem law_c7 {C : xT} {EX : xE} {EM : mE} {b L : Nat} {xs : Nat → Int32} {Q : State → Prop} {σX σM σX' σM' : xS} {x3 r : Int32} {N : Nat} (hC : zc C EX EM b L xs) (hX : cw_draw N  σX = some (r, σX')) (hM : m_draw N  σM = some (r, σM')) (k : zw C EX EM Q σX' σM' 920 [(0, .ref b), (1, .ref (EX.2.2.1 0)), (2, .ref (EM.2.2.1 0)), (3, .int x3)] []) : zw C EX EM Q σX σM 403 [(0, .ref b), (1, .ref (EX.2.2.1 0)), (2, .ref (EM.2.2.1 0)), (3, .int x3)] [] := by
  refine zr_aload_n (pc' := 404) 1 hC dL_law_403 rfl rfl rfl ?_
  refine zr_callX (pc' := 407) (rmy := k2_rm 6 142) [] hC dL_law_404 rfl kL_46 rfl rfl rfl ⟨by decide, by decide⟩ rfl (Nat.le_of_ble_eq_true rfl) (c_cw_draw (zc_okX hC) hX) ?_
  refine zr_aload_n (pc' := 408) 2 hC dL_law_407 rfl rfl rfl ?_
  refine zr_callM (pc' := 411) (rmy := k2_rm 4 108) [] hC dL_law_408 rfl kL_49 rfl rfl rfl ⟨by decide, by decide⟩ rfl (Nat.le_of_ble_eq_true rfl) (c_m_draw (zc_okM hC) hM) ?_
  refine zr_icmp_eq (pc' := 414) 920 hC dL_law_411 rfl (by decide) ?_
  exact k
set_option maxRecDepth 100000 in
set_option maxHeartbeats 4000000 in
theorem law_c8 {C : xT} {EX : xE} {EM : mE} {b L : Nat} {xs : Nat → Int32} {Q : State → Prop} {σX σM σX' σM' : xS} {x3 r : Int32} {N : Nat} (hC : zc C EX EM b L xs) (i1 : vp_in (x3 + 1) L) (hX : cw_way N (xs (x3 + 1).toNatClampNeg) σX = some (r, σX')) (hM : m_way N (xs (x3 + 1).toNatClampNeg) σM = some (r, σM')) (k : zw C EX EM Q σX' σM' 920 [(0, .ref b), (1, .ref (EX.2.2.1 0)), (2, .ref (EM.2.2.1 0)), (3, .int x3)] []) : zw C EX EM Q σX σM 416 [(0, .ref b), (1, .ref (EX.2.2.1 0)), (2, .ref (EM.2.2.1 0)), (3, .int x3)] [] := by
  refine zr_aload_n (pc' := 417) 1 hC dL_law_416 rfl rfl rfl ?_
  refine zr_aload_n (pc' := 418) 0 hC dL_law_417 rfl rfl rfl ?_
  refine zr_iload_n (pc' := 419) 3 hC dL_law_418 rfl rfl rfl ?_
  refine zr_iconst (pc' := 420) 1 hC dL_law_419 rfl (by decide) ?_
  refine zr_iadd (pc' := 421) hC dL_law_420 rfl ?_
  refine zr_sld (pc' := 422) hC dL_law_421 rfl i1 ?_
  refine zr_callX (pc' := 425) (rmy := k2_rm 1 21) [.int (xs (x3 + 1).toNatClampNeg)] hC dL_law_422 rfl kL_50 rfl rfl rfl ⟨by decide, by decide⟩ rfl (Nat.le_of_ble_eq_true rfl) (c_cw_way (zc_okX hC) hX) ?_
  refine zr_aload_n (pc' := 426) 2 hC dL_law_425 rfl rfl rfl ?_
  refine zr_aload_n (pc' := 427) 0 hC dL_law_426 rfl rfl rfl ?_
  refine zr_iload_n (pc' := 428) 3 hC dL_law_427 rfl rfl rfl ?_
  refine zr_iconst (pc' := 429) 1 hC dL_law_428 rfl (by decide) ?_
  refine zr_iadd (pc' := 430) hC dL_law_429 rfl ?_
  refine zr_sld (pc' := 431) hC dL_law_430 rfl i1 ?_
  refine zr_callM (pc' := 434) (rmy := k2_rm 0 0) [.int (xs (x3 + 1).toNatClampNeg)] hC dL_law_431 rfl kL_53 rfl rfl rfl ⟨by decide, by decide⟩ rfl (Nat.le_of_ble_eq_true rfl) (c_m_way (zc_okM hC) hM) ?_
  refine zr_icmp_eq (pc' := 437) 920 hC dL_law_434 rfl (by decide) ?_
  exact k
set_option maxRecDepth 100000 in
set_option maxHeartbeats 4000000 in
theorem law_c9 {C : xT} {EX : xE} {EM : mE} {b L : Nat} {xs : Nat → Int32} {Q : State → Prop} {σX σM σX' σM' : xS} {x3 r : Int32} {N : Nat} (hC : zc C EX EM b L xs) (i1 : vp_in (x3 + 1) L) (i2 : vp_in (x3 + 2) L) (i3 : vp_in (x3 + 3) L) (hX : cw_pieceAt N (xs (x3 + 1).toNatClampNeg) (xs (x3 + 2).toNatClampNeg) (xs (x3 + 3).toNatClampNeg) σX = some (r, σX')) (hM : m_pieceAt N (xs (x3 + 1).toNatClampNeg) (xs (x3 + 2).toNatClampNeg) (xs (x3 + 3).toNatClampNeg) σM = some (r, σM')) (k : zw C EX EM Q σX' σM' 920 [(0, .ref b), (1, .ref (EX.2.2.1 0)), (2, .ref (EM.2.2.1 0)), (3, .int x3)] []) : zw C EX EM Q σX σM 439 [(0, .ref b), (1, .ref (EX.2.2.1 0)), (2, .ref (EM.2.2.1 0)), (3, .int x3)] [] := by
  refine zr_aload_n (pc' := 440) 1 hC dL_law_439 rfl rfl rfl ?_
  refine zr_aload_n (pc' := 441) 0 hC dL_law_440 rfl rfl rfl ?_
  refine zr_iload_n (pc' := 442) 3 hC dL_law_441 rfl rfl rfl ?_
  refine zr_iconst (pc' := 443) 1 hC dL_law_442 rfl (by decide) ?_
  refine zr_iadd (pc' := 444) hC dL_law_443 rfl ?_
  refine zr_sld (pc' := 445) hC dL_law_444 rfl i1 ?_
  refine zr_aload_n (pc' := 446) 0 hC dL_law_445 rfl rfl rfl ?_
  refine zr_iload_n (pc' := 447) 3 hC dL_law_446 rfl rfl rfl ?_
  refine zr_iconst (pc' := 448) 2 hC dL_law_447 rfl (by decide) ?_
  refine zr_iadd (pc' := 449) hC dL_law_448 rfl ?_
  refine zr_sld (pc' := 450) hC dL_law_449 rfl i2 ?_
  refine zr_aload_n (pc' := 451) 0 hC dL_law_450 rfl rfl rfl ?_
  refine zr_iload_n (pc' := 452) 3 hC dL_law_451 rfl rfl rfl ?_
  refine zr_iconst (pc' := 453) 3 hC dL_law_452 rfl (by decide) ?_
  refine zr_iadd (pc' := 454) hC dL_law_453 rfl ?_
  refine zr_sld (pc' := 455) hC dL_law_454 rfl i3 ?_
  refine zr_callX (pc' := 458) (rmy := k2_rm 2 48) [.int (xs (x3 + 1).toNatClampNeg), .int (xs (x3 + 2).toNatClampNeg), .int (xs (x3 + 3).toNatClampNeg)] hC dL_law_455 rfl kL_54 rfl rfl rfl ⟨by decide, by decide⟩ rfl (Nat.le_of_ble_eq_true rfl) (c_cw_pieceAt (zc_okX hC) hX) ?_
  refine zr_aload_n (pc' := 459) 2 hC dL_law_458 rfl rfl rfl ?_
  refine zr_aload_n (pc' := 460) 0 hC dL_law_459 rfl rfl rfl ?_
  refine zr_iload_n (pc' := 461) 3 hC dL_law_460 rfl rfl rfl ?_
  refine zr_iconst (pc' := 462) 1 hC dL_law_461 rfl (by decide) ?_
  refine zr_iadd (pc' := 463) hC dL_law_462 rfl ?_
  refine zr_sld (pc' := 464) hC dL_law_463 rfl i1 ?_
  refine zr_aload_n (pc' := 465) 0 hC dL_law_464 rfl rfl rfl ?_
  refine zr_iload_n (pc' := 466) 3 hC dL_law_465 rfl rfl rfl ?_
  refine zr_iconst (pc' := 467) 2 hC dL_law_466 rfl (by decide) ?_
  refine zr_iadd (pc' := 468) hC dL_law_467 rfl ?_
  refine zr_sld (pc' := 469) hC dL_law_468 rfl i2 ?_
  refine zr_aload_n (pc' := 470) 0 hC dL_law_469 rfl rfl rfl ?_
  refine zr_iload_n (pc' := 471) 3 hC dL_law_470 rfl rfl rfl ?_
  refine zr_iconst (pc' := 472) 3 hC dL_law_471 rfl (by decide) ?_
  refine zr_iadd (pc' := 473) hC dL_law_472 rfl ?_
  refine zr_sld (pc' := 474) hC dL_law_473 rfl i3 ?_
  refine zr_callM (pc' := 477) (rmy := k2_rm 1 23) [.int (xs (x3 + 1).toNatClampNeg), .int (xs (x3 + 2).toNatClampNeg), .int (xs (x3 + 3).toNatClampNeg)] hC dL_law_474 rfl kL_57 rfl rfl rfl ⟨by decide, by decide⟩ rfl (Nat.le_of_ble_eq_true rfl) (c_m_pieceAt (zc_okM hC) hM) ?_
  refine zr_icmp_eq (pc' := 480) 920 hC dL_law_477 rfl (by decide) ?_
  exact k
set_option maxRecDepth 100000 in
set_option maxHeartbeats 4000000 in
theorem law_c10 {C : xT} {EX : xE} {EM : mE} {b L : Nat} {xs : Nat → Int32} {Q : State → Prop} {σX σM σX' σM' : xS} {x3 r : Int32} {N : Nat} (hC : zc C EX EM b L xs) (i1 : vp_in (x3 + 1) L) (i2 : vp_in (x3 + 2) L) (hX : cw_piece N (xs (x3 + 1).toNatClampNeg) (xs (x3 + 2).toNatClampNeg) σX = some (r, σX')) (hM : m_piece N (xs (x3 + 1).toNatClampNeg) (xs (x3 + 2).toNatClampNeg) σM = some (r, σM')) (k : zw C EX EM Q σX' σM' 920 [(0, .ref b), (1, .ref (EX.2.2.1 0)), (2, .ref (EM.2.2.1 0)), (3, .int x3)] []) : zw C EX EM Q σX σM 482 [(0, .ref b), (1, .ref (EX.2.2.1 0)), (2, .ref (EM.2.2.1 0)), (3, .int x3)] [] := by
  refine zr_aload_n (pc' := 483) 1 hC dL_law_482 rfl rfl rfl ?_
  refine zr_aload_n (pc' := 484) 0 hC dL_law_483 rfl rfl rfl ?_
  refine zr_iload_n (pc' := 485) 3 hC dL_law_484 rfl rfl rfl ?_
  refine zr_iconst (pc' := 486) 1 hC dL_law_485 rfl (by decide) ?_
  refine zr_iadd (pc' := 487) hC dL_law_486 rfl ?_
  refine zr_sld (pc' := 488) hC dL_law_487 rfl i1 ?_
  refine zr_aload_n (pc' := 489) 0 hC dL_law_488 rfl rfl rfl ?_
  refine zr_iload_n (pc' := 490) 3 hC dL_law_489 rfl rfl rfl ?_
  refine zr_iconst (pc' := 491) 2 hC dL_law_490 rfl (by decide) ?_
  refine zr_iadd (pc' := 492) hC dL_law_491 rfl ?_
  refine zr_sld (pc' := 493) hC dL_law_492 rfl i2 ?_
  refine zr_callX (pc' := 496) (rmy := k2_rm 3 56) [.int (xs (x3 + 1).toNatClampNeg), .int (xs (x3 + 2).toNatClampNeg)] hC dL_law_493 rfl kL_58 rfl rfl rfl ⟨by decide, by decide⟩ rfl (Nat.le_of_ble_eq_true rfl) (c_cw_piece (zc_okX hC) hX) ?_
  refine zr_aload_n (pc' := 497) 2 hC dL_law_496 rfl rfl rfl ?_
  refine zr_aload_n (pc' := 498) 0 hC dL_law_497 rfl rfl rfl ?_
  refine zr_iload_n (pc' := 499) 3 hC dL_law_498 rfl rfl rfl ?_
  refine zr_iconst (pc' := 500) 1 hC dL_law_499 rfl (by decide) ?_
  refine zr_iadd (pc' := 501) hC dL_law_500 rfl ?_
  refine zr_sld (pc' := 502) hC dL_law_501 rfl i1 ?_
  refine zr_aload_n (pc' := 503) 0 hC dL_law_502 rfl rfl rfl ?_
  refine zr_iload_n (pc' := 504) 3 hC dL_law_503 rfl rfl rfl ?_
  refine zr_iconst (pc' := 505) 2 hC dL_law_504 rfl (by decide) ?_
  refine zr_iadd (pc' := 506) hC dL_law_505 rfl ?_
  refine zr_sld (pc' := 507) hC dL_law_506 rfl i2 ?_
  refine zr_callM (pc' := 510) (rmy := k2_rm 1 21) [.int (xs (x3 + 1).toNatClampNeg), .int (xs (x3 + 2).toNatClampNeg)] hC dL_law_507 rfl kL_62 rfl rfl rfl ⟨by decide, by decide⟩ rfl (Nat.le_of_ble_eq_true rfl) (c_m_piece (zc_okM hC) hM) ?_
  refine zr_icmp_eq (pc' := 513) 920 hC dL_law_510 rfl (by decide) ?_
  exact k
set_option maxRecDepth 100000 in
set_option maxHeartbeats 4000000 in
theorem law_c11 {C : xT} {EX : xE} {EM : mE} {b L : Nat} {xs : Nat → Int32} {Q : State → Prop} {σX σM σX' σM' : xS} {x3 r : Int32} {N : Nat} (hC : zc C EX EM b L xs) (i1 : vp_in (x3 + 1) L) (i2 : vp_in (x3 + 2) L) (hX : cw_wear N (xs (x3 + 1).toNatClampNeg) (xs (x3 + 2).toNatClampNeg) σX = some (r, σX')) (hM : m_wear N (xs (x3 + 1).toNatClampNeg) (xs (x3 + 2).toNatClampNeg) σM = some (r, σM')) (k : zw C EX EM Q σX' σM' 920 [(0, .ref b), (1, .ref (EX.2.2.1 0)), (2, .ref (EM.2.2.1 0)), (3, .int x3)] []) : zw C EX EM Q σX σM 515 [(0, .ref b), (1, .ref (EX.2.2.1 0)), (2, .ref (EM.2.2.1 0)), (3, .int x3)] [] := by
  refine zr_aload_n (pc' := 516) 1 hC dL_law_515 rfl rfl rfl ?_
  refine zr_aload_n (pc' := 517) 0 hC dL_law_516 rfl rfl rfl ?_
  refine zr_iload_n (pc' := 518) 3 hC dL_law_517 rfl rfl rfl ?_
  refine zr_iconst (pc' := 519) 1 hC dL_law_518 rfl (by decide) ?_
  refine zr_iadd (pc' := 520) hC dL_law_519 rfl ?_
  refine zr_sld (pc' := 521) hC dL_law_520 rfl i1 ?_
  refine zr_aload_n (pc' := 522) 0 hC dL_law_521 rfl rfl rfl ?_
  refine zr_iload_n (pc' := 523) 3 hC dL_law_522 rfl rfl rfl ?_
  refine zr_iconst (pc' := 524) 2 hC dL_law_523 rfl (by decide) ?_
  refine zr_iadd (pc' := 525) hC dL_law_524 rfl ?_
  refine zr_sld (pc' := 526) hC dL_law_525 rfl i2 ?_
  refine zr_callX (pc' := 529) (rmy := k2_rm 1 22) [.int (xs (x3 + 1).toNatClampNeg), .int (xs (x3 + 2).toNatClampNeg)] hC dL_law_526 rfl kL_63 rfl rfl rfl ⟨by decide, by decide⟩ rfl (Nat.le_of_ble_eq_true rfl) (c_cw_wear (zc_okX hC) hX) ?_
  refine zr_aload_n (pc' := 530) 2 hC dL_law_529 rfl rfl rfl ?_
  refine zr_aload_n (pc' := 531) 0 hC dL_law_530 rfl rfl rfl ?_
  refine zr_iload_n (pc' := 532) 3 hC dL_law_531 rfl rfl rfl ?_
  refine zr_iconst (pc' := 533) 1 hC dL_law_532 rfl (by decide) ?_
  refine zr_iadd (pc' := 534) hC dL_law_533 rfl ?_
  refine zr_sld (pc' := 535) hC dL_law_534 rfl i1 ?_
  refine zr_aload_n (pc' := 536) 0 hC dL_law_535 rfl rfl rfl ?_
  refine zr_iload_n (pc' := 537) 3 hC dL_law_536 rfl rfl rfl ?_
  refine zr_iconst (pc' := 538) 2 hC dL_law_537 rfl (by decide) ?_
  refine zr_iadd (pc' := 539) hC dL_law_538 rfl ?_
  refine zr_sld (pc' := 540) hC dL_law_539 rfl i2 ?_
  refine zr_callM (pc' := 543) (rmy := k2_rm 1 22) [.int (xs (x3 + 1).toNatClampNeg), .int (xs (x3 + 2).toNatClampNeg)] hC dL_law_540 rfl kL_67 rfl rfl rfl ⟨by decide, by decide⟩ rfl (Nat.le_of_ble_eq_true rfl) (c_m_wear (zc_okM hC) hM) ?_
  refine zr_icmp_eq (pc' := 546) 920 hC dL_law_543 rfl (by decide) ?_
  exact k
set_option maxRecDepth 100000 in
set_option maxHeartbeats 4000000 in
theorem law_c12 {C : xT} {EX : xE} {EM : mE} {b L : Nat} {xs : Nat → Int32} {Q : State → Prop} {σX σM σX' σM' : xS} {x3 r : Int32} {N : Nat} (hC : zc C EX EM b L xs) (i1 : vp_in (x3 + 1) L) (hX : cw_pour N (xs (x3 + 1).toNatClampNeg) σX = some (r, σX')) (hM : m_pour N (xs (x3 + 1).toNatClampNeg) σM = some (r, σM')) (k : zw C EX EM Q σX' σM' 920 [(0, .ref b), (1, .ref (EX.2.2.1 0)), (2, .ref (EM.2.2.1 0)), (3, .int x3)] []) : zw C EX EM Q σX σM 548 [(0, .ref b), (1, .ref (EX.2.2.1 0)), (2, .ref (EM.2.2.1 0)), (3, .int x3)] [] := by
  refine zr_aload_n (pc' := 549) 1 hC dL_law_548 rfl rfl rfl ?_
  refine zr_aload_n (pc' := 550) 0 hC dL_law_549 rfl rfl rfl ?_
  refine zr_iload_n (pc' := 551) 3 hC dL_law_550 rfl rfl rfl ?_
  refine zr_iconst (pc' := 552) 1 hC dL_law_551 rfl (by decide) ?_
  refine zr_iadd (pc' := 553) hC dL_law_552 rfl ?_
  refine zr_sld (pc' := 554) hC dL_law_553 rfl i1 ?_
  refine zr_callX (pc' := 557) (rmy := k2_rm 4 78) [.int (xs (x3 + 1).toNatClampNeg)] hC dL_law_554 rfl kL_68 rfl rfl rfl ⟨by decide, by decide⟩ rfl (Nat.le_of_ble_eq_true rfl) (c_cw_pour (zc_okX hC) hX) ?_
  refine zr_aload_n (pc' := 558) 2 hC dL_law_557 rfl rfl rfl ?_
  refine zr_aload_n (pc' := 559) 0 hC dL_law_558 rfl rfl rfl ?_
  refine zr_iload_n (pc' := 560) 3 hC dL_law_559 rfl rfl rfl ?_
  refine zr_iconst (pc' := 561) 1 hC dL_law_560 rfl (by decide) ?_
  refine zr_iadd (pc' := 562) hC dL_law_561 rfl ?_
  refine zr_sld (pc' := 563) hC dL_law_562 rfl i1 ?_
  refine zr_callM (pc' := 566) (rmy := k2_rm 2 42) [.int (xs (x3 + 1).toNatClampNeg)] hC dL_law_563 rfl kL_71 rfl rfl rfl ⟨by decide, by decide⟩ rfl (Nat.le_of_ble_eq_true rfl) (c_m_pour (zc_okM hC) hM) ?_
  refine zr_icmp_eq (pc' := 569) 920 hC dL_law_566 rfl (by decide) ?_
  exact k
set_option maxRecDepth 100000 in
set_option maxHeartbeats 4000000 in
theorem law_c13 {C : xT} {EX : xE} {EM : mE} {b L : Nat} {xs : Nat → Int32} {Q : State → Prop} {σX σM σX' σM' : xS} {x3 r : Int32} {N : Nat} (hC : zc C EX EM b L xs) (i1 : vp_in (x3 + 1) L) (hX : cw_mend N (xs (x3 + 1).toNatClampNeg) σX = some (r, σX')) (hM : m_mend N (xs (x3 + 1).toNatClampNeg) σM = some (r, σM')) (k : zw C EX EM Q σX' σM' 920 [(0, .ref b), (1, .ref (EX.2.2.1 0)), (2, .ref (EM.2.2.1 0)), (3, .int x3)] []) : zw C EX EM Q σX σM 571 [(0, .ref b), (1, .ref (EX.2.2.1 0)), (2, .ref (EM.2.2.1 0)), (3, .int x3)] [] := by
  refine zr_aload_n (pc' := 572) 1 hC dL_law_571 rfl rfl rfl ?_
  refine zr_aload_n (pc' := 573) 0 hC dL_law_572 rfl rfl rfl ?_
  refine zr_iload_n (pc' := 574) 3 hC dL_law_573 rfl rfl rfl ?_
  refine zr_iconst (pc' := 575) 1 hC dL_law_574 rfl (by decide) ?_
  refine zr_iadd (pc' := 576) hC dL_law_575 rfl ?_
  refine zr_sld (pc' := 577) hC dL_law_576 rfl i1 ?_
  refine zr_callX (pc' := 580) (rmy := k2_rm 2 42) [.int (xs (x3 + 1).toNatClampNeg)] hC dL_law_577 rfl kL_72 rfl rfl rfl ⟨by decide, by decide⟩ rfl (Nat.le_of_ble_eq_true rfl) (c_cw_mend (zc_okX hC) hX) ?_
  refine zr_aload_n (pc' := 581) 2 hC dL_law_580 rfl rfl rfl ?_
  refine zr_aload_n (pc' := 582) 0 hC dL_law_581 rfl rfl rfl ?_
  refine zr_iload_n (pc' := 583) 3 hC dL_law_582 rfl rfl rfl ?_
  refine zr_iconst (pc' := 584) 1 hC dL_law_583 rfl (by decide) ?_
  refine zr_iadd (pc' := 585) hC dL_law_584 rfl ?_
  refine zr_sld (pc' := 586) hC dL_law_585 rfl i1 ?_
  refine zr_callM (pc' := 589) (rmy := k2_rm 1 21) [.int (xs (x3 + 1).toNatClampNeg)] hC dL_law_586 rfl kL_75 rfl rfl rfl ⟨by decide, by decide⟩ rfl (Nat.le_of_ble_eq_true rfl) (c_m_mend (zc_okM hC) hM) ?_
  refine zr_icmp_eq (pc' := 592) 920 hC dL_law_589 rfl (by decide) ?_
  exact k
set_option maxRecDepth 100000 in
set_option maxHeartbeats 4000000 in
theorem law_c14 {C : xT} {EX : xE} {EM : mE} {b L : Nat} {xs : Nat → Int32} {Q : State → Prop} {σX σM σX' σM' : xS} {x3 r : Int32} {N : Nat} (hC : zc C EX EM b L xs) (i1 : vp_in (x3 + 1) L) (hX : cw_run N (xs (x3 + 1).toNatClampNeg) σX = some (r, σX')) (hM : m_run N (xs (x3 + 1).toNatClampNeg) σM = some (r, σM')) (k : zw C EX EM Q σX' σM' 920 [(0, .ref b), (1, .ref (EX.2.2.1 0)), (2, .ref (EM.2.2.1 0)), (3, .int x3)] []) : zw C EX EM Q σX σM 594 [(0, .ref b), (1, .ref (EX.2.2.1 0)), (2, .ref (EM.2.2.1 0)), (3, .int x3)] [] := by
  refine zr_aload_n (pc' := 595) 1 hC dL_law_594 rfl rfl rfl ?_
  refine zr_aload_n (pc' := 596) 0 hC dL_law_595 rfl rfl rfl ?_
  refine zr_iload_n (pc' := 597) 3 hC dL_law_596 rfl rfl rfl ?_
  refine zr_iconst (pc' := 598) 1 hC dL_law_597 rfl (by decide) ?_
  refine zr_iadd (pc' := 599) hC dL_law_598 rfl ?_
  refine zr_sld (pc' := 600) hC dL_law_599 rfl i1 ?_
  refine zr_callX (pc' := 603) (rmy := k2_rm 5 104) [.int (xs (x3 + 1).toNatClampNeg)] hC dL_law_600 rfl kL_76 rfl rfl rfl ⟨by decide, by decide⟩ rfl (Nat.le_of_ble_eq_true rfl) (c_cw_run (zc_okX hC) hX) ?_
  refine zr_aload_n (pc' := 604) 2 hC dL_law_603 rfl rfl rfl ?_
  refine zr_aload_n (pc' := 605) 0 hC dL_law_604 rfl rfl rfl ?_
  refine zr_iload_n (pc' := 606) 3 hC dL_law_605 rfl rfl rfl ?_
  refine zr_iconst (pc' := 607) 1 hC dL_law_606 rfl (by decide) ?_
  refine zr_iadd (pc' := 608) hC dL_law_607 rfl ?_
  refine zr_sld (pc' := 609) hC dL_law_608 rfl i1 ?_
  refine zr_callM (pc' := 612) (rmy := k2_rm 2 42) [.int (xs (x3 + 1).toNatClampNeg)] hC dL_law_609 rfl kL_79 rfl rfl rfl ⟨by decide, by decide⟩ rfl (Nat.le_of_ble_eq_true rfl) (c_m_run (zc_okM hC) hM) ?_
  refine zr_icmp_eq (pc' := 615) 920 hC dL_law_612 rfl (by decide) ?_
  exact k
set_option maxRecDepth 100000 in
set_option maxHeartbeats 4000000 in
theorem law_c15 {C : xT} {EX : xE} {EM : mE} {b L : Nat} {xs : Nat → Int32} {Q : State → Prop} {σX σM σX' σM' : xS} {x3 r : Int32} {N : Nat} (hC : zc C EX EM b L xs) (i1 : vp_in (x3 + 1) L) (hX : cw_dry N (xs (x3 + 1).toNatClampNeg) σX = some (r, σX')) (hM : m_dry N (xs (x3 + 1).toNatClampNeg) σM = some (r, σM')) (k : zw C EX EM Q σX' σM' 920 [(0, .ref b), (1, .ref (EX.2.2.1 0)), (2, .ref (EM.2.2.1 0)), (3, .int x3)] []) : zw C EX EM Q σX σM 617 [(0, .ref b), (1, .ref (EX.2.2.1 0)), (2, .ref (EM.2.2.1 0)), (3, .int x3)] [] := by
  refine zr_aload_n (pc' := 618) 1 hC dL_law_617 rfl rfl rfl ?_
  refine zr_aload_n (pc' := 619) 0 hC dL_law_618 rfl rfl rfl ?_
  refine zr_iload_n (pc' := 620) 3 hC dL_law_619 rfl rfl rfl ?_
  refine zr_iconst (pc' := 621) 1 hC dL_law_620 rfl (by decide) ?_
  refine zr_iadd (pc' := 622) hC dL_law_621 rfl ?_
  refine zr_sld (pc' := 623) hC dL_law_622 rfl i1 ?_
  refine zr_callX (pc' := 626) (rmy := k2_rm 1 22) [.int (xs (x3 + 1).toNatClampNeg)] hC dL_law_623 rfl kL_80 rfl rfl rfl ⟨by decide, by decide⟩ rfl (Nat.le_of_ble_eq_true rfl) (c_cw_dry (zc_okX hC) hX) ?_
  refine zr_aload_n (pc' := 627) 2 hC dL_law_626 rfl rfl rfl ?_
  refine zr_aload_n (pc' := 628) 0 hC dL_law_627 rfl rfl rfl ?_
  refine zr_iload_n (pc' := 629) 3 hC dL_law_628 rfl rfl rfl ?_
  refine zr_iconst (pc' := 630) 1 hC dL_law_629 rfl (by decide) ?_
  refine zr_iadd (pc' := 631) hC dL_law_630 rfl ?_
  refine zr_sld (pc' := 632) hC dL_law_631 rfl i1 ?_
  refine zr_callM (pc' := 635) (rmy := k2_rm 1 22) [.int (xs (x3 + 1).toNatClampNeg)] hC dL_law_632 rfl kL_83 rfl rfl rfl ⟨by decide, by decide⟩ rfl (Nat.le_of_ble_eq_true rfl) (c_m_dry (zc_okM hC) hM) ?_
  refine zr_icmp_eq (pc' := 638) 920 hC dL_law_635 rfl (by decide) ?_
  exact k
set_option maxRecDepth 100000 in
set_option maxHeartbeats 4000000 in
theorem law_c16 {C : xT} {EX : xE} {EM : mE} {b L : Nat} {xs : Nat → Int32} {Q : State → Prop} {σX σM σX' σM' : xS} {x3 r : Int32} {N : Nat} (hC : zc C EX EM b L xs) (i1 : vp_in (x3 + 1) L) (i2 : vp_in (x3 + 2) L) (i3 : vp_in (x3 + 3) L) (hX : cw_order N (xs (x3 + 1).toNatClampNeg) (xs (x3 + 2).toNatClampNeg) (xs (x3 + 3).toNatClampNeg) σX = some (r, σX')) (hM : m_order N (xs (x3 + 1).toNatClampNeg) (xs (x3 + 2).toNatClampNeg) (xs (x3 + 3).toNatClampNeg) σM = some (r, σM')) (k : zw C EX EM Q σX' σM' 920 [(0, .ref b), (1, .ref (EX.2.2.1 0)), (2, .ref (EM.2.2.1 0)), (3, .int x3)] []) : zw C EX EM Q σX σM 640 [(0, .ref b), (1, .ref (EX.2.2.1 0)), (2, .ref (EM.2.2.1 0)), (3, .int x3)] [] := by
  refine zr_aload_n (pc' := 641) 1 hC dL_law_640 rfl rfl rfl ?_
  refine zr_aload_n (pc' := 642) 0 hC dL_law_641 rfl rfl rfl ?_
  refine zr_iload_n (pc' := 643) 3 hC dL_law_642 rfl rfl rfl ?_
  refine zr_iconst (pc' := 644) 1 hC dL_law_643 rfl (by decide) ?_
  refine zr_iadd (pc' := 645) hC dL_law_644 rfl ?_
  refine zr_sld (pc' := 646) hC dL_law_645 rfl i1 ?_
  refine zr_aload_n (pc' := 647) 0 hC dL_law_646 rfl rfl rfl ?_
  refine zr_iload_n (pc' := 648) 3 hC dL_law_647 rfl rfl rfl ?_
  refine zr_iconst (pc' := 649) 2 hC dL_law_648 rfl (by decide) ?_
  refine zr_iadd (pc' := 650) hC dL_law_649 rfl ?_
  refine zr_sld (pc' := 651) hC dL_law_650 rfl i2 ?_
  refine zr_aload_n (pc' := 652) 0 hC dL_law_651 rfl rfl rfl ?_
  refine zr_iload_n (pc' := 653) 3 hC dL_law_652 rfl rfl rfl ?_
  refine zr_iconst (pc' := 654) 3 hC dL_law_653 rfl (by decide) ?_
  refine zr_iadd (pc' := 655) hC dL_law_654 rfl ?_
  refine zr_sld (pc' := 656) hC dL_law_655 rfl i3 ?_
  refine zr_callX (pc' := 659) (rmy := k2_rm 1 25) [.int (xs (x3 + 1).toNatClampNeg), .int (xs (x3 + 2).toNatClampNeg), .int (xs (x3 + 3).toNatClampNeg)] hC dL_law_656 rfl kL_84 rfl rfl rfl ⟨by decide, by decide⟩ rfl (Nat.le_of_ble_eq_true rfl) (c_cw_order (zc_okX hC) hX) ?_
  refine zr_aload_n (pc' := 660) 2 hC dL_law_659 rfl rfl rfl ?_
  refine zr_aload_n (pc' := 661) 0 hC dL_law_660 rfl rfl rfl ?_
  refine zr_iload_n (pc' := 662) 3 hC dL_law_661 rfl rfl rfl ?_
  refine zr_iconst (pc' := 663) 1 hC dL_law_662 rfl (by decide) ?_
  refine zr_iadd (pc' := 664) hC dL_law_663 rfl ?_
  refine zr_sld (pc' := 665) hC dL_law_664 rfl i1 ?_
  refine zr_aload_n (pc' := 666) 0 hC dL_law_665 rfl rfl rfl ?_
  refine zr_iload_n (pc' := 667) 3 hC dL_law_666 rfl rfl rfl ?_
  refine zr_iconst (pc' := 668) 2 hC dL_law_667 rfl (by decide) ?_
  refine zr_iadd (pc' := 669) hC dL_law_668 rfl ?_
  refine zr_sld (pc' := 670) hC dL_law_669 rfl i2 ?_
  refine zr_aload_n (pc' := 671) 0 hC dL_law_670 rfl rfl rfl ?_
  refine zr_iload_n (pc' := 672) 3 hC dL_law_671 rfl rfl rfl ?_
  refine zr_iconst (pc' := 673) 3 hC dL_law_672 rfl (by decide) ?_
  refine zr_iadd (pc' := 674) hC dL_law_673 rfl ?_
  refine zr_sld (pc' := 675) hC dL_law_674 rfl i3 ?_
  refine zr_callM (pc' := 678) (rmy := k2_rm 1 22) [.int (xs (x3 + 1).toNatClampNeg), .int (xs (x3 + 2).toNatClampNeg), .int (xs (x3 + 3).toNatClampNeg)] hC dL_law_675 rfl kL_87 rfl rfl rfl ⟨by decide, by decide⟩ rfl (Nat.le_of_ble_eq_true rfl) (c_m_order (zc_okM hC) hM) ?_
  refine zr_icmp_eq (pc' := 681) 920 hC dL_law_678 rfl (by decide) ?_
  exact k
set_option maxRecDepth 100000 in
set_option maxHeartbeats 4000000 in
theorem law_c17 {C : xT} {EX : xE} {EM : mE} {b L : Nat} {xs : Nat → Int32} {Q : State → Prop} {σX σM σX' σM' : xS} {x3 r : Int32} {N : Nat} (hC : zc C EX EM b L xs) (i1 : vp_in (x3 + 1) L) (hX : cw_cancel N (xs (x3 + 1).toNatClampNeg) σX = some (r, σX')) (hM : m_cancel N (xs (x3 + 1).toNatClampNeg) σM = some (r, σM')) (k : zw C EX EM Q σX' σM' 920 [(0, .ref b), (1, .ref (EX.2.2.1 0)), (2, .ref (EM.2.2.1 0)), (3, .int x3)] []) : zw C EX EM Q σX σM 683 [(0, .ref b), (1, .ref (EX.2.2.1 0)), (2, .ref (EM.2.2.1 0)), (3, .int x3)] [] := by
  refine zr_aload_n (pc' := 684) 1 hC dL_law_683 rfl rfl rfl ?_
  refine zr_aload_n (pc' := 685) 0 hC dL_law_684 rfl rfl rfl ?_
  refine zr_iload_n (pc' := 686) 3 hC dL_law_685 rfl rfl rfl ?_
  refine zr_iconst (pc' := 687) 1 hC dL_law_686 rfl (by decide) ?_
  refine zr_iadd (pc' := 688) hC dL_law_687 rfl ?_
  refine zr_sld (pc' := 689) hC dL_law_688 rfl i1 ?_
  refine zr_callX (pc' := 692) (rmy := k2_rm 1 21) [.int (xs (x3 + 1).toNatClampNeg)] hC dL_law_689 rfl kL_88 rfl rfl rfl ⟨by decide, by decide⟩ rfl (Nat.le_of_ble_eq_true rfl) (c_cw_cancel (zc_okX hC) hX) ?_
  refine zr_aload_n (pc' := 693) 2 hC dL_law_692 rfl rfl rfl ?_
  refine zr_aload_n (pc' := 694) 0 hC dL_law_693 rfl rfl rfl ?_
  refine zr_iload_n (pc' := 695) 3 hC dL_law_694 rfl rfl rfl ?_
  refine zr_iconst (pc' := 696) 1 hC dL_law_695 rfl (by decide) ?_
  refine zr_iadd (pc' := 697) hC dL_law_696 rfl ?_
  refine zr_sld (pc' := 698) hC dL_law_697 rfl i1 ?_
  refine zr_callM (pc' := 701) (rmy := k2_rm 0 0) [.int (xs (x3 + 1).toNatClampNeg)] hC dL_law_698 rfl kL_91 rfl rfl rfl ⟨by decide, by decide⟩ rfl (Nat.le_of_ble_eq_true rfl) (c_m_cancel (zc_okM hC) hM) ?_
  refine zr_icmp_eq (pc' := 704) 920 hC dL_law_701 rfl (by decide) ?_
  exact k
set_option maxRecDepth 100000 in
set_option maxHeartbeats 4000000 in
theorem law_c18 {C : xT} {EX : xE} {EM : mE} {b L : Nat} {xs : Nat → Int32} {Q : State → Prop} {σX σM σX' σM' : xS} {x3 r : Int32} {N : Nat} (hC : zc C EX EM b L xs) (hX : cw_row N  σX = some (r, σX')) (hM : m_row N  σM = some (r, σM')) (k : zw C EX EM Q σX' σM' 920 [(0, .ref b), (1, .ref (EX.2.2.1 0)), (2, .ref (EM.2.2.1 0)), (3, .int x3)] []) : zw C EX EM Q σX σM 706 [(0, .ref b), (1, .ref (EX.2.2.1 0)), (2, .ref (EM.2.2.1 0)), (3, .int x3)] [] := by
  refine zr_aload_n (pc' := 707) 1 hC dL_law_706 rfl rfl rfl ?_
  refine zr_callX (pc' := 710) (rmy := k2_rm 4 83) [] hC dL_law_707 rfl kL_92 rfl rfl rfl ⟨by decide, by decide⟩ rfl (Nat.le_of_ble_eq_true rfl) (c_cw_row (zc_okX hC) hX) ?_
  refine zr_aload_n (pc' := 711) 2 hC dL_law_710 rfl rfl rfl ?_
  refine zr_callM (pc' := 714) (rmy := k2_rm 2 46) [] hC dL_law_711 rfl kL_95 rfl rfl rfl ⟨by decide, by decide⟩ rfl (Nat.le_of_ble_eq_true rfl) (c_m_row (zc_okM hC) hM) ?_
  refine zr_icmp_eq (pc' := 717) 920 hC dL_law_714 rfl (by decide) ?_
  exact k
set_option maxRecDepth 100000 in
set_option maxHeartbeats 4000000 in
theorem law_c19 {C : xT} {EX : xE} {EM : mE} {b L : Nat} {xs : Nat → Int32} {Q : State → Prop} {σX σM σX' σM' : xS} {x3 r : Int32} {N : Nat} (hC : zc C EX EM b L xs) (i1 : vp_in (x3 + 1) L) (hX : cw_next N (xs (x3 + 1).toNatClampNeg) σX = some (r, σX')) (hM : m_next_ N (xs (x3 + 1).toNatClampNeg) σM = some (r, σM')) (k : zw C EX EM Q σX' σM' 920 [(0, .ref b), (1, .ref (EX.2.2.1 0)), (2, .ref (EM.2.2.1 0)), (3, .int x3)] []) : zw C EX EM Q σX σM 719 [(0, .ref b), (1, .ref (EX.2.2.1 0)), (2, .ref (EM.2.2.1 0)), (3, .int x3)] [] := by
  refine zr_aload_n (pc' := 720) 1 hC dL_law_719 rfl rfl rfl ?_
  refine zr_aload_n (pc' := 721) 0 hC dL_law_720 rfl rfl rfl ?_
  refine zr_iload_n (pc' := 722) 3 hC dL_law_721 rfl rfl rfl ?_
  refine zr_iconst (pc' := 723) 1 hC dL_law_722 rfl (by decide) ?_
  refine zr_iadd (pc' := 724) hC dL_law_723 rfl ?_
  refine zr_sld (pc' := 725) hC dL_law_724 rfl i1 ?_
  refine zr_callX (pc' := 728) (rmy := k2_rm 1 21) [.int (xs (x3 + 1).toNatClampNeg)] hC dL_law_725 rfl kL_96 rfl rfl rfl ⟨by decide, by decide⟩ rfl (Nat.le_of_ble_eq_true rfl) (c_cw_next (zc_okX hC) hX) ?_
  refine zr_aload_n (pc' := 729) 2 hC dL_law_728 rfl rfl rfl ?_
  refine zr_aload_n (pc' := 730) 0 hC dL_law_729 rfl rfl rfl ?_
  refine zr_iload_n (pc' := 731) 3 hC dL_law_730 rfl rfl rfl ?_
  refine zr_iconst (pc' := 732) 1 hC dL_law_731 rfl (by decide) ?_
  refine zr_iadd (pc' := 733) hC dL_law_732 rfl ?_
  refine zr_sld (pc' := 734) hC dL_law_733 rfl i1 ?_
  refine zr_callM (pc' := 737) (rmy := k2_rm 0 0) [.int (xs (x3 + 1).toNatClampNeg)] hC dL_law_734 rfl kL_99 rfl rfl rfl ⟨by decide, by decide⟩ rfl (Nat.le_of_ble_eq_true rfl) (c_m_next_ (zc_okM hC) hM) ?_
  refine zr_icmp_eq (pc' := 740) 920 hC dL_law_737 rfl (by decide) ?_
  exact k
set_option maxRecDepth 100000 in
set_option maxHeartbeats 4000000 in
theorem law_c20 {C : xT} {EX : xE} {EM : mE} {b L : Nat} {xs : Nat → Int32} {Q : State → Prop} {σX σM σX' σM' : xS} {x3 r : Int32} {N : Nat} (hC : zc C EX EM b L xs) (i1 : vp_in (x3 + 1) L) (hX : cw_late N (xs (x3 + 1).toNatClampNeg) σX = some (r, σX')) (hM : m_late N (xs (x3 + 1).toNatClampNeg) σM = some (r, σM')) (k : zw C EX EM Q σX' σM' 920 [(0, .ref b), (1, .ref (EX.2.2.1 0)), (2, .ref (EM.2.2.1 0)), (3, .int x3)] []) : zw C EX EM Q σX σM 742 [(0, .ref b), (1, .ref (EX.2.2.1 0)), (2, .ref (EM.2.2.1 0)), (3, .int x3)] [] := by
  refine zr_aload_n (pc' := 743) 1 hC dL_law_742 rfl rfl rfl ?_
  refine zr_aload_n (pc' := 744) 0 hC dL_law_743 rfl rfl rfl ?_
  refine zr_iload_n (pc' := 745) 3 hC dL_law_744 rfl rfl rfl ?_
  refine zr_iconst (pc' := 746) 1 hC dL_law_745 rfl (by decide) ?_
  refine zr_iadd (pc' := 747) hC dL_law_746 rfl ?_
  refine zr_sld (pc' := 748) hC dL_law_747 rfl i1 ?_
  refine zr_callX (pc' := 751) (rmy := k2_rm 1 21) [.int (xs (x3 + 1).toNatClampNeg)] hC dL_law_748 rfl kL_100 rfl rfl rfl ⟨by decide, by decide⟩ rfl (Nat.le_of_ble_eq_true rfl) (c_cw_late (zc_okX hC) hX) ?_
  refine zr_aload_n (pc' := 752) 2 hC dL_law_751 rfl rfl rfl ?_
  refine zr_aload_n (pc' := 753) 0 hC dL_law_752 rfl rfl rfl ?_
  refine zr_iload_n (pc' := 754) 3 hC dL_law_753 rfl rfl rfl ?_
  refine zr_iconst (pc' := 755) 1 hC dL_law_754 rfl (by decide) ?_
  refine zr_iadd (pc' := 756) hC dL_law_755 rfl ?_
  refine zr_sld (pc' := 757) hC dL_law_756 rfl i1 ?_
  refine zr_callM (pc' := 760) (rmy := k2_rm 0 0) [.int (xs (x3 + 1).toNatClampNeg)] hC dL_law_757 rfl kL_103 rfl rfl rfl ⟨by decide, by decide⟩ rfl (Nat.le_of_ble_eq_true rfl) (c_m_late (zc_okM hC) hM) ?_
  refine zr_icmp_eq (pc' := 763) 920 hC dL_law_760 rfl (by decide) ?_
  exact k
set_option maxRecDepth 100000 in
set_option maxHeartbeats 4000000 in
theorem law_c21 {C : xT} {EX : xE} {EM : mE} {b L : Nat} {xs : Nat → Int32} {Q : State → Prop} {σX σM σX' σM' : xS} {x3 r : Int32} {N : Nat} (hC : zc C EX EM b L xs) (i1 : vp_in (x3 + 1) L) (i2 : vp_in (x3 + 2) L) (i3 : vp_in (x3 + 3) L) (hX : cw_cast N (xs (x3 + 1).toNatClampNeg) (xs (x3 + 2).toNatClampNeg) (xs (x3 + 3).toNatClampNeg) σX = some (r, σX')) (hM : m_cast N (xs (x3 + 1).toNatClampNeg) (xs (x3 + 2).toNatClampNeg) (xs (x3 + 3).toNatClampNeg) σM = some (r, σM')) (k : zw C EX EM Q σX' σM' 920 [(0, .ref b), (1, .ref (EX.2.2.1 0)), (2, .ref (EM.2.2.1 0)), (3, .int x3)] []) : zw C EX EM Q σX σM 765 [(0, .ref b), (1, .ref (EX.2.2.1 0)), (2, .ref (EM.2.2.1 0)), (3, .int x3)] [] := by
  refine zr_aload_n (pc' := 766) 1 hC dL_law_765 rfl rfl rfl ?_
  refine zr_aload_n (pc' := 767) 0 hC dL_law_766 rfl rfl rfl ?_
  refine zr_iload_n (pc' := 768) 3 hC dL_law_767 rfl rfl rfl ?_
  refine zr_iconst (pc' := 769) 1 hC dL_law_768 rfl (by decide) ?_
  refine zr_iadd (pc' := 770) hC dL_law_769 rfl ?_
  refine zr_sld (pc' := 771) hC dL_law_770 rfl i1 ?_
  refine zr_aload_n (pc' := 772) 0 hC dL_law_771 rfl rfl rfl ?_
  refine zr_iload_n (pc' := 773) 3 hC dL_law_772 rfl rfl rfl ?_
  refine zr_iconst (pc' := 774) 2 hC dL_law_773 rfl (by decide) ?_
  refine zr_iadd (pc' := 775) hC dL_law_774 rfl ?_
  refine zr_sld (pc' := 776) hC dL_law_775 rfl i2 ?_
  refine zr_aload_n (pc' := 777) 0 hC dL_law_776 rfl rfl rfl ?_
  refine zr_iload_n (pc' := 778) 3 hC dL_law_777 rfl rfl rfl ?_
  refine zr_iconst (pc' := 779) 3 hC dL_law_778 rfl (by decide) ?_
  refine zr_iadd (pc' := 780) hC dL_law_779 rfl ?_
  refine zr_sld (pc' := 781) hC dL_law_780 rfl i3 ?_
  refine zr_callX (pc' := 784) (rmy := k2_rm 1 23) [.int (xs (x3 + 1).toNatClampNeg), .int (xs (x3 + 2).toNatClampNeg), .int (xs (x3 + 3).toNatClampNeg)] hC dL_law_781 rfl kL_104 rfl rfl rfl ⟨by decide, by decide⟩ rfl (Nat.le_of_ble_eq_true rfl) (c_cw_cast (zc_okX hC) hX) ?_
  refine zr_aload_n (pc' := 785) 2 hC dL_law_784 rfl rfl rfl ?_
  refine zr_aload_n (pc' := 786) 0 hC dL_law_785 rfl rfl rfl ?_
  refine zr_iload_n (pc' := 787) 3 hC dL_law_786 rfl rfl rfl ?_
  refine zr_iconst (pc' := 788) 1 hC dL_law_787 rfl (by decide) ?_
  refine zr_iadd (pc' := 789) hC dL_law_788 rfl ?_
  refine zr_sld (pc' := 790) hC dL_law_789 rfl i1 ?_
  refine zr_aload_n (pc' := 791) 0 hC dL_law_790 rfl rfl rfl ?_
  refine zr_iload_n (pc' := 792) 3 hC dL_law_791 rfl rfl rfl ?_
  refine zr_iconst (pc' := 793) 2 hC dL_law_792 rfl (by decide) ?_
  refine zr_iadd (pc' := 794) hC dL_law_793 rfl ?_
  refine zr_sld (pc' := 795) hC dL_law_794 rfl i2 ?_
  refine zr_aload_n (pc' := 796) 0 hC dL_law_795 rfl rfl rfl ?_
  refine zr_iload_n (pc' := 797) 3 hC dL_law_796 rfl rfl rfl ?_
  refine zr_iconst (pc' := 798) 3 hC dL_law_797 rfl (by decide) ?_
  refine zr_iadd (pc' := 799) hC dL_law_798 rfl ?_
  refine zr_sld (pc' := 800) hC dL_law_799 rfl i3 ?_
  refine zr_callM (pc' := 803) (rmy := k2_rm 1 22) [.int (xs (x3 + 1).toNatClampNeg), .int (xs (x3 + 2).toNatClampNeg), .int (xs (x3 + 3).toNatClampNeg)] hC dL_law_800 rfl kL_108 rfl rfl rfl ⟨by decide, by decide⟩ rfl (Nat.le_of_ble_eq_true rfl) (c_m_cast (zc_okM hC) hM) ?_
  refine zr_icmp_eq (pc' := 806) 920 hC dL_law_803 rfl (by decide) ?_
  exact k
set_option maxRecDepth 100000 in
set_option maxHeartbeats 4000000 in
theorem law_c22 {C : xT} {EX : xE} {EM : mE} {b L : Nat} {xs : Nat → Int32} {Q : State → Prop} {σX σM σX' σM' : xS} {x3 r : Int32} {N : Nat} (hC : zc C EX EM b L xs) (i1 : vp_in (x3 + 1) L) (i2 : vp_in (x3 + 2) L) (i3 : vp_in (x3 + 3) L) (hX : cw_copies N (xs (x3 + 1).toNatClampNeg) (xs (x3 + 2).toNatClampNeg) (xs (x3 + 3).toNatClampNeg) σX = some (r, σX')) (hM : m_copies N (xs (x3 + 1).toNatClampNeg) (xs (x3 + 2).toNatClampNeg) (xs (x3 + 3).toNatClampNeg) σM = some (r, σM')) (k : zw C EX EM Q σX' σM' 920 [(0, .ref b), (1, .ref (EX.2.2.1 0)), (2, .ref (EM.2.2.1 0)), (3, .int x3)] []) : zw C EX EM Q σX σM 808 [(0, .ref b), (1, .ref (EX.2.2.1 0)), (2, .ref (EM.2.2.1 0)), (3, .int x3)] [] := by
  refine zr_aload_n (pc' := 809) 1 hC dL_law_808 rfl rfl rfl ?_
  refine zr_aload_n (pc' := 810) 0 hC dL_law_809 rfl rfl rfl ?_
  refine zr_iload_n (pc' := 811) 3 hC dL_law_810 rfl rfl rfl ?_
  refine zr_iconst (pc' := 812) 1 hC dL_law_811 rfl (by decide) ?_
  refine zr_iadd (pc' := 813) hC dL_law_812 rfl ?_
  refine zr_sld (pc' := 814) hC dL_law_813 rfl i1 ?_
  refine zr_aload_n (pc' := 815) 0 hC dL_law_814 rfl rfl rfl ?_
  refine zr_iload_n (pc' := 816) 3 hC dL_law_815 rfl rfl rfl ?_
  refine zr_iconst (pc' := 817) 2 hC dL_law_816 rfl (by decide) ?_
  refine zr_iadd (pc' := 818) hC dL_law_817 rfl ?_
  refine zr_sld (pc' := 819) hC dL_law_818 rfl i2 ?_
  refine zr_aload_n (pc' := 820) 0 hC dL_law_819 rfl rfl rfl ?_
  refine zr_iload_n (pc' := 821) 3 hC dL_law_820 rfl rfl rfl ?_
  refine zr_iconst (pc' := 822) 3 hC dL_law_821 rfl (by decide) ?_
  refine zr_iadd (pc' := 823) hC dL_law_822 rfl ?_
  refine zr_sld (pc' := 824) hC dL_law_823 rfl i3 ?_
  refine zr_callX (pc' := 827) (rmy := k2_rm 1 23) [.int (xs (x3 + 1).toNatClampNeg), .int (xs (x3 + 2).toNatClampNeg), .int (xs (x3 + 3).toNatClampNeg)] hC dL_law_824 rfl kL_109 rfl rfl rfl ⟨by decide, by decide⟩ rfl (Nat.le_of_ble_eq_true rfl) (c_cw_copies (zc_okX hC) hX) ?_
  refine zr_aload_n (pc' := 828) 2 hC dL_law_827 rfl rfl rfl ?_
  refine zr_aload_n (pc' := 829) 0 hC dL_law_828 rfl rfl rfl ?_
  refine zr_iload_n (pc' := 830) 3 hC dL_law_829 rfl rfl rfl ?_
  refine zr_iconst (pc' := 831) 1 hC dL_law_830 rfl (by decide) ?_
  refine zr_iadd (pc' := 832) hC dL_law_831 rfl ?_
  refine zr_sld (pc' := 833) hC dL_law_832 rfl i1 ?_
  refine zr_aload_n (pc' := 834) 0 hC dL_law_833 rfl rfl rfl ?_
  refine zr_iload_n (pc' := 835) 3 hC dL_law_834 rfl rfl rfl ?_
  refine zr_iconst (pc' := 836) 2 hC dL_law_835 rfl (by decide) ?_
  refine zr_iadd (pc' := 837) hC dL_law_836 rfl ?_
  refine zr_sld (pc' := 838) hC dL_law_837 rfl i2 ?_
  refine zr_aload_n (pc' := 839) 0 hC dL_law_838 rfl rfl rfl ?_
  refine zr_iload_n (pc' := 840) 3 hC dL_law_839 rfl rfl rfl ?_
  refine zr_iconst (pc' := 841) 3 hC dL_law_840 rfl (by decide) ?_
  refine zr_iadd (pc' := 842) hC dL_law_841 rfl ?_
  refine zr_sld (pc' := 843) hC dL_law_842 rfl i3 ?_
  refine zr_callM (pc' := 846) (rmy := k2_rm 1 22) [.int (xs (x3 + 1).toNatClampNeg), .int (xs (x3 + 2).toNatClampNeg), .int (xs (x3 + 3).toNatClampNeg)] hC dL_law_843 rfl kL_112 rfl rfl rfl ⟨by decide, by decide⟩ rfl (Nat.le_of_ble_eq_true rfl) (c_m_copies (zc_okM hC) hM) ?_
  refine zr_icmp_eq (pc' := 849) 920 hC dL_law_846 rfl (by decide) ?_
  exact k
set_option maxRecDepth 100000 in
set_option maxHeartbeats 4000000 in
theorem law_c23 {C : xT} {EX : xE} {EM : mE} {b L : Nat} {xs : Nat → Int32} {Q : State → Prop} {σX σM σX' σM' : xS} {x3 r : Int32} {N : Nat} (hC : zc C EX EM b L xs) (i1 : vp_in (x3 + 1) L) (hX : cw_mother N (xs (x3 + 1).toNatClampNeg) σX = some (r, σX')) (hM : m_mother N (xs (x3 + 1).toNatClampNeg) σM = some (r, σM')) (k : zw C EX EM Q σX' σM' 920 [(0, .ref b), (1, .ref (EX.2.2.1 0)), (2, .ref (EM.2.2.1 0)), (3, .int x3)] []) : zw C EX EM Q σX σM 851 [(0, .ref b), (1, .ref (EX.2.2.1 0)), (2, .ref (EM.2.2.1 0)), (3, .int x3)] [] := by
  refine zr_aload_n (pc' := 852) 1 hC dL_law_851 rfl rfl rfl ?_
  refine zr_aload_n (pc' := 853) 0 hC dL_law_852 rfl rfl rfl ?_
  refine zr_iload_n (pc' := 854) 3 hC dL_law_853 rfl rfl rfl ?_
  refine zr_iconst (pc' := 855) 1 hC dL_law_854 rfl (by decide) ?_
  refine zr_iadd (pc' := 856) hC dL_law_855 rfl ?_
  refine zr_sld (pc' := 857) hC dL_law_856 rfl i1 ?_
  refine zr_callX (pc' := 860) (rmy := k2_rm 3 70) [.int (xs (x3 + 1).toNatClampNeg)] hC dL_law_857 rfl kL_113 rfl rfl rfl ⟨by decide, by decide⟩ rfl (Nat.le_of_ble_eq_true rfl) (c_cw_mother (zc_okX hC) hX) ?_
  refine zr_aload_n (pc' := 861) 2 hC dL_law_860 rfl rfl rfl ?_
  refine zr_aload_n (pc' := 862) 0 hC dL_law_861 rfl rfl rfl ?_
  refine zr_iload_n (pc' := 863) 3 hC dL_law_862 rfl rfl rfl ?_
  refine zr_iconst (pc' := 864) 1 hC dL_law_863 rfl (by decide) ?_
  refine zr_iadd (pc' := 865) hC dL_law_864 rfl ?_
  refine zr_sld (pc' := 866) hC dL_law_865 rfl i1 ?_
  refine zr_callM (pc' := 869) (rmy := k2_rm 2 43) [.int (xs (x3 + 1).toNatClampNeg)] hC dL_law_866 rfl kL_116 rfl rfl rfl ⟨by decide, by decide⟩ rfl (Nat.le_of_ble_eq_true rfl) (c_m_mother (zc_okM hC) hM) ?_
  refine zr_icmp_eq (pc' := 872) 920 hC dL_law_869 rfl (by decide) ?_
  exact k
set_option maxRecDepth 100000 in
set_option maxHeartbeats 4000000 in
theorem law_c24 {C : xT} {EX : xE} {EM : mE} {b L : Nat} {xs : Nat → Int32} {Q : State → Prop} {σX σM σX' σM' : xS} {x3 r : Int32} {N : Nat} (hC : zc C EX EM b L xs) (i1 : vp_in (x3 + 1) L) (hX : cw_steps N (xs (x3 + 1).toNatClampNeg) σX = some (r, σX')) (hM : m_steps N (xs (x3 + 1).toNatClampNeg) σM = some (r, σM')) (k : zw C EX EM Q σX' σM' 920 [(0, .ref b), (1, .ref (EX.2.2.1 0)), (2, .ref (EM.2.2.1 0)), (3, .int x3)] []) : zw C EX EM Q σX σM 874 [(0, .ref b), (1, .ref (EX.2.2.1 0)), (2, .ref (EM.2.2.1 0)), (3, .int x3)] [] := by
  refine zr_aload_n (pc' := 875) 1 hC dL_law_874 rfl rfl rfl ?_
  refine zr_aload_n (pc' := 876) 0 hC dL_law_875 rfl rfl rfl ?_
  refine zr_iload_n (pc' := 877) 3 hC dL_law_876 rfl rfl rfl ?_
  refine zr_iconst (pc' := 878) 1 hC dL_law_877 rfl (by decide) ?_
  refine zr_iadd (pc' := 879) hC dL_law_878 rfl ?_
  refine zr_sld (pc' := 880) hC dL_law_879 rfl i1 ?_
  refine zr_callX (pc' := 883) (rmy := k2_rm 4 94) [.int (xs (x3 + 1).toNatClampNeg)] hC dL_law_880 rfl kL_117 rfl rfl rfl ⟨by decide, by decide⟩ rfl (Nat.le_of_ble_eq_true rfl) (c_cw_steps (zc_okX hC) hX) ?_
  refine zr_aload_n (pc' := 884) 2 hC dL_law_883 rfl rfl rfl ?_
  refine zr_aload_n (pc' := 885) 0 hC dL_law_884 rfl rfl rfl ?_
  refine zr_iload_n (pc' := 886) 3 hC dL_law_885 rfl rfl rfl ?_
  refine zr_iconst (pc' := 887) 1 hC dL_law_886 rfl (by decide) ?_
  refine zr_iadd (pc' := 888) hC dL_law_887 rfl ?_
  refine zr_sld (pc' := 889) hC dL_law_888 rfl i1 ?_
  refine zr_callM (pc' := 892) (rmy := k2_rm 3 66) [.int (xs (x3 + 1).toNatClampNeg)] hC dL_law_889 rfl kL_120 rfl rfl rfl ⟨by decide, by decide⟩ rfl (Nat.le_of_ble_eq_true rfl) (c_m_steps (zc_okM hC) hM) ?_
  refine zr_icmp_eq (pc' := 895) 920 hC dL_law_892 rfl (by decide) ?_
  exact k
set_option maxRecDepth 100000 in
set_option maxHeartbeats 4000000 in
theorem law_c25 {C : xT} {EX : xE} {EM : mE} {b L : Nat} {xs : Nat → Int32} {Q : State → Prop} {σX σM σX' σM' : xS} {x3 r : Int32} {N : Nat} (hC : zc C EX EM b L xs) (i1 : vp_in (x3 + 1) L) (hX : cw_told N (xs (x3 + 1).toNatClampNeg) σX = some (r, σX')) (hM : m_told N (xs (x3 + 1).toNatClampNeg) σM = some (r, σM')) (k : zw C EX EM Q σX' σM' 920 [(0, .ref b), (1, .ref (EX.2.2.1 0)), (2, .ref (EM.2.2.1 0)), (3, .int x3)] []) : zw C EX EM Q σX σM 897 [(0, .ref b), (1, .ref (EX.2.2.1 0)), (2, .ref (EM.2.2.1 0)), (3, .int x3)] [] := by
  refine zr_aload_n (pc' := 898) 1 hC dL_law_897 rfl rfl rfl ?_
  refine zr_aload_n (pc' := 899) 0 hC dL_law_898 rfl rfl rfl ?_
  refine zr_iload_n (pc' := 900) 3 hC dL_law_899 rfl rfl rfl ?_
  refine zr_iconst (pc' := 901) 1 hC dL_law_900 rfl (by decide) ?_
  refine zr_iadd (pc' := 902) hC dL_law_901 rfl ?_
  refine zr_sld (pc' := 903) hC dL_law_902 rfl i1 ?_
  refine zr_callX (pc' := 906) (rmy := k2_rm 4 93) [.int (xs (x3 + 1).toNatClampNeg)] hC dL_law_903 rfl kL_121 rfl rfl rfl ⟨by decide, by decide⟩ rfl (Nat.le_of_ble_eq_true rfl) (c_cw_told (zc_okX hC) hX) ?_
  refine zr_aload_n (pc' := 907) 2 hC dL_law_906 rfl rfl rfl ?_
  refine zr_aload_n (pc' := 908) 0 hC dL_law_907 rfl rfl rfl ?_
  refine zr_iload_n (pc' := 909) 3 hC dL_law_908 rfl rfl rfl ?_
  refine zr_iconst (pc' := 910) 1 hC dL_law_909 rfl (by decide) ?_
  refine zr_iadd (pc' := 911) hC dL_law_910 rfl ?_
  refine zr_sld (pc' := 912) hC dL_law_911 rfl i1 ?_
  refine zr_callM (pc' := 915) (rmy := k2_rm 3 66) [.int (xs (x3 + 1).toNatClampNeg)] hC dL_law_912 rfl kL_124 rfl rfl rfl ⟨by decide, by decide⟩ rfl (Nat.le_of_ble_eq_true rfl) (c_m_told (zc_okM hC) hM) ?_
  refine zr_icmp_eq (pc' := 918) 920 hC dL_law_915 rfl (by decide) ?_
  exact k
