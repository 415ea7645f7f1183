/-! the law: a call and its answers -/
abbrev mL_law : MD := (yL_law, cL_law, 4, some .boolean)

set_option maxRecDepth 4000 in
theorem lc_lay {G : GL} {d p N : Nat} {hp : HP} (I : INV p N hp) {i : Nat} (hi : (i : Int) + 6 ≤ ((G.2.2.2.2.2 0).1 : Nat)) (hfr : ∀ j, -2147483648 ≤ (G.2.2.2.2.2 0).2 j ∧ (G.2.2.2.2.2 0).2 j < 2147483648) {Q : Option AV → HP → Nat → Prop} (hq : ∀ h, INV p N h → Ex G (d + 41) 0 0 mL_law 901 [vr 1000000, vr 0, vr 92, vi i] [] h 615 Q) : Ex G (d + 41) 0 0 mL_law 144 [vr 1000000, vr 0, vr 92, vi i] [] hp 615 Q := by
  have hob : isob hp 0 6 := by
    obtain ⟨-, -, S, T, W, Sm, Tm, c, -⟩ := I
    exact c.1.1.ob
  refine Ex.glob (fun hgl => ?_)
  refine x_aload_n (pc := 144) dL_law_144 rfl ?_
  refine x_aload_n (pc := 145) dL_law_145 rfl ?_
  refine x_iload_n (pc := 146) dL_law_146 rfl ?_
  refine x_iconst (pc := 147) dL_law_147 ?_
  refine x_iadd (pc := 148) dL_law_148 ?_
  refine x_ialdX (pc := 149) (j := 0) dL_law_149 (by omega) (hgl 0 (by omega)) (by omega) (by omega) ?_
  refine x_aload_n (pc := 150) dL_law_150 rfl ?_
  refine x_iload_n (pc := 151) dL_law_151 rfl ?_
  refine x_iconst (pc := 152) dL_law_152 ?_
  refine x_iadd (pc := 153) dL_law_153 ?_
  refine x_ialdX (pc := 154) (j := 0) dL_law_154 (by omega) (hgl 0 (by omega)) (by omega) (by omega) ?_
  refine x_aload_n (pc := 155) dL_law_155 rfl ?_
  refine x_iload_n (pc := 156) dL_law_156 rfl ?_
  refine x_iconst (pc := 157) dL_law_157 ?_
  refine x_iadd (pc := 158) dL_law_158 ?_
  refine x_ialdX (pc := 159) (j := 0) dL_law_159 (by omega) (hgl 0 (by omega)) (by omega) (by omega) ?_
  refine x_y3 (pc := 160) dL_law_160 wX6_lay iX6_lay kL_21 (by decide) rfl (Nat.le_of_ble_eq_true rfl) hob (by omega) (cs_lay (D := d) (Nat.le_refl 615) I (hfr _) (hfr _) (hfr _)) (fun v1 h1 e1 => ?_)
  obtain ⟨w, e2, hob2, ct2⟩ := e1
  subst e2
  refine Ex.glob (fun hgl2 => ?_)
  refine x_aload_n (pc := 163) dL_law_163 rfl ?_
  refine x_aload_n (pc := 164) dL_law_164 rfl ?_
  refine x_iload_n (pc := 165) dL_law_165 rfl ?_
  refine x_iconst (pc := 166) dL_law_166 ?_
  refine x_iadd (pc := 167) dL_law_167 ?_
  refine x_ialdX (pc := 168) (j := 0) dL_law_168 (by omega) (hgl2 0 (by omega)) (by omega) (by omega) ?_
  refine x_aload_n (pc := 169) dL_law_169 rfl ?_
  refine x_iload_n (pc := 170) dL_law_170 rfl ?_
  refine x_iconst (pc := 171) dL_law_171 ?_
  refine x_iadd (pc := 172) dL_law_172 ?_
  refine x_ialdX (pc := 173) (j := 0) dL_law_173 (by omega) (hgl2 0 (by omega)) (by omega) (by omega) ?_
  refine x_aload_n (pc := 174) dL_law_174 rfl ?_
  refine x_iload_n (pc := 175) dL_law_175 rfl ?_
  refine x_iconst (pc := 176) dL_law_176 ?_
  refine x_iadd (pc := 177) dL_law_177 ?_
  refine x_ialdX (pc := 178) (j := 0) dL_law_178 (by omega) (hgl2 0 (by omega)) (by omega) (by omega) ?_
  refine x_y3 (pc := 179) dL_law_179 wX7_lay iX7_lay kL_25 (by decide) rfl (Nat.le_of_ble_eq_true rfl) hob2 (by omega) ct2 (fun v2 h2 e3 => ?_)
  obtain ⟨e4, I2⟩ := e3
  subst e4
  refine x_same (pc := 182) (tgt := 901) dL_law_182 (by decide) ?_
  exact hq _ I2

set_option maxRecDepth 4000 in
theorem lc_set {G : GL} {d p N : Nat} {hp : HP} (I : INV p N hp) {i : Nat} (hi : (i : Int) + 6 ≤ ((G.2.2.2.2.2 0).1 : Nat)) (hfr : ∀ j, -2147483648 ≤ (G.2.2.2.2.2 0).2 j ∧ (G.2.2.2.2.2 0).2 j < 2147483648) {Q : Option AV → HP → Nat → Prop} (hq : ∀ h, INV p N h → Ex G (d + 41) 0 0 mL_law 901 [vr 1000000, vr 0, vr 92, vi i] [] h 615 Q) : Ex G (d + 41) 0 0 mL_law 187 [vr 1000000, vr 0, vr 92, vi i] [] hp 615 Q := by
  have hob : isob hp 0 6 := by
    obtain ⟨-, -, S, T, W, Sm, Tm, c, -⟩ := I
    exact c.1.1.ob
  refine Ex.glob (fun hgl => ?_)
  refine x_aload_n (pc := 187) dL_law_187 rfl ?_
  refine x_aload_n (pc := 188) dL_law_188 rfl ?_
  refine x_iload_n (pc := 189) dL_law_189 rfl ?_
  refine x_iconst (pc := 190) dL_law_190 ?_
  refine x_iadd (pc := 191) dL_law_191 ?_
  refine x_ialdX (pc := 192) (j := 0) dL_law_192 (by omega) (hgl 0 (by omega)) (by omega) (by omega) ?_
  refine x_aload_n (pc := 193) dL_law_193 rfl ?_
  refine x_iload_n (pc := 194) dL_law_194 rfl ?_
  refine x_iconst (pc := 195) dL_law_195 ?_
  refine x_iadd (pc := 196) dL_law_196 ?_
  refine x_ialdX (pc := 197) (j := 0) dL_law_197 (by omega) (hgl 0 (by omega)) (by omega) (by omega) ?_
  refine x_aload_n (pc := 198) dL_law_198 rfl ?_
  refine x_iload_n (pc := 199) dL_law_199 rfl ?_
  refine x_iconst (pc := 200) dL_law_200 ?_
  refine x_iadd (pc := 201) dL_law_201 ?_
  refine x_ialdX (pc := 202) (j := 0) dL_law_202 (by omega) (hgl 0 (by omega)) (by omega) (by omega) ?_
  refine x_aload_n (pc := 203) dL_law_203 rfl ?_
  refine x_iload_n (pc := 204) dL_law_204 rfl ?_
  refine x_iconst (pc := 205) dL_law_205 ?_
  refine x_iadd (pc := 206) dL_law_206 ?_
  refine x_ialdX (pc := 207) (j := 0) dL_law_207 (by omega) (hgl 0 (by omega)) (by omega) (by omega) ?_
  refine x_aload_n (pc := 208) dL_law_208 rfl ?_
  refine x_iload_n (pc := 209) dL_law_209 rfl ?_
  refine x_iconst (pc := 210) dL_law_210 ?_
  refine x_iadd (pc := 211) dL_law_211 ?_
  refine x_ialdX (pc := 212) (j := 0) dL_law_212 (by omega) (hgl 0 (by omega)) (by omega) (by omega) ?_
  refine x_y5 (pc := 213) dL_law_213 wX6_set iX6_set kL_26 (by decide) rfl (Nat.le_of_ble_eq_true rfl) hob (by omega) (cs_set (D := d) (Nat.le_refl 615) I (hfr _) (hfr _) (hfr _) (hfr _) (hfr _)) (fun v1 h1 e1 => ?_)
  obtain ⟨w, e2, hob2, ct2⟩ := e1
  subst e2
  refine Ex.glob (fun hgl2 => ?_)
  refine x_aload_n (pc := 216) dL_law_216 rfl ?_
  refine x_aload_n (pc := 217) dL_law_217 rfl ?_
  refine x_iload_n (pc := 218) dL_law_218 rfl ?_
  refine x_iconst (pc := 219) dL_law_219 ?_
  refine x_iadd (pc := 220) dL_law_220 ?_
  refine x_ialdX (pc := 221) (j := 0) dL_law_221 (by omega) (hgl2 0 (by omega)) (by omega) (by omega) ?_
  refine x_aload_n (pc := 222) dL_law_222 rfl ?_
  refine x_iload_n (pc := 223) dL_law_223 rfl ?_
  refine x_iconst (pc := 224) dL_law_224 ?_
  refine x_iadd (pc := 225) dL_law_225 ?_
  refine x_ialdX (pc := 226) (j := 0) dL_law_226 (by omega) (hgl2 0 (by omega)) (by omega) (by omega) ?_
  refine x_aload_n (pc := 227) dL_law_227 rfl ?_
  refine x_iload_n (pc := 228) dL_law_228 rfl ?_
  refine x_iconst (pc := 229) dL_law_229 ?_
  refine x_iadd (pc := 230) dL_law_230 ?_
  refine x_ialdX (pc := 231) (j := 0) dL_law_231 (by omega) (hgl2 0 (by omega)) (by omega) (by omega) ?_
  refine x_aload_n (pc := 232) dL_law_232 rfl ?_
  refine x_iload_n (pc := 233) dL_law_233 rfl ?_
  refine x_iconst (pc := 234) dL_law_234 ?_
  refine x_iadd (pc := 235) dL_law_235 ?_
  refine x_ialdX (pc := 236) (j := 0) dL_law_236 (by omega) (hgl2 0 (by omega)) (by omega) (by omega) ?_
  refine x_aload_n (pc := 237) dL_law_237 rfl ?_
  refine x_iload_n (pc := 238) dL_law_238 rfl ?_
  refine x_iconst (pc := 239) dL_law_239 ?_
  refine x_iadd (pc := 240) dL_law_240 ?_
  refine x_ialdX (pc := 241) (j := 0) dL_law_241 (by omega) (hgl2 0 (by omega)) (by omega) (by omega) ?_
  refine x_y5 (pc := 242) dL_law_242 wX7_set iX7_set kL_30 (by decide) rfl (Nat.le_of_ble_eq_true rfl) hob2 (by omega) ct2 (fun v2 h2 e3 => ?_)
  obtain ⟨e4, I2⟩ := e3
  subst e4
  refine x_same (pc := 245) (tgt := 901) dL_law_245 (by decide) ?_
  exact hq _ I2

set_option maxRecDepth 4000 in
theorem lc_get {G : GL} {d p N : Nat} {hp : HP} (I : INV p N hp) {i : Nat} (hi : (i : Int) + 6 ≤ ((G.2.2.2.2.2 0).1 : Nat)) (hfr : ∀ j, -2147483648 ≤ (G.2.2.2.2.2 0).2 j ∧ (G.2.2.2.2.2 0).2 j < 2147483648) {Q : Option AV → HP → Nat → Prop} (hq : ∀ h, INV p N h → Ex G (d + 41) 0 0 mL_law 901 [vr 1000000, vr 0, vr 92, vi i] [] h 615 Q) : Ex G (d + 41) 0 0 mL_law 250 [vr 1000000, vr 0, vr 92, vi i] [] hp 615 Q := by
  have hob : isob hp 0 6 := by
    obtain ⟨-, -, S, T, W, Sm, Tm, c, -⟩ := I
    exact c.1.1.ob
  refine Ex.glob (fun hgl => ?_)
  refine x_aload_n (pc := 250) dL_law_250 rfl ?_
  refine x_aload_n (pc := 251) dL_law_251 rfl ?_
  refine x_iload_n (pc := 252) dL_law_252 rfl ?_
  refine x_iconst (pc := 253) dL_law_253 ?_
  refine x_iadd (pc := 254) dL_law_254 ?_
  refine x_ialdX (pc := 255) (j := 0) dL_law_255 (by omega) (hgl 0 (by omega)) (by omega) (by omega) ?_
  refine x_aload_n (pc := 256) dL_law_256 rfl ?_
  refine x_iload_n (pc := 257) dL_law_257 rfl ?_
  refine x_iconst (pc := 258) dL_law_258 ?_
  refine x_iadd (pc := 259) dL_law_259 ?_
  refine x_ialdX (pc := 260) (j := 0) dL_law_260 (by omega) (hgl 0 (by omega)) (by omega) (by omega) ?_
  refine x_aload_n (pc := 261) dL_law_261 rfl ?_
  refine x_iload_n (pc := 262) dL_law_262 rfl ?_
  refine x_iconst (pc := 263) dL_law_263 ?_
  refine x_iadd (pc := 264) dL_law_264 ?_
  refine x_ialdX (pc := 265) (j := 0) dL_law_265 (by omega) (hgl 0 (by omega)) (by omega) (by omega) ?_
  refine x_aload_n (pc := 266) dL_law_266 rfl ?_
  refine x_iload_n (pc := 267) dL_law_267 rfl ?_
  refine x_iconst (pc := 268) dL_law_268 ?_
  refine x_iadd (pc := 269) dL_law_269 ?_
  refine x_ialdX (pc := 270) (j := 0) dL_law_270 (by omega) (hgl 0 (by omega)) (by omega) (by omega) ?_
  refine x_y4 (pc := 271) dL_law_271 wX6_get iX6_get kL_31 (by decide) rfl (Nat.le_of_ble_eq_true rfl) hob (by omega) (cs_get (D := d) (Nat.le_refl 615) I (hfr _) (hfr _) (hfr _) (hfr _)) (fun v1 h1 e1 => ?_)
  obtain ⟨w, e2, hob2, ct2⟩ := e1
  subst e2
  refine Ex.glob (fun hgl2 => ?_)
  refine x_aload_n (pc := 274) dL_law_274 rfl ?_
  refine x_aload_n (pc := 275) dL_law_275 rfl ?_
  refine x_iload_n (pc := 276) dL_law_276 rfl ?_
  refine x_iconst (pc := 277) dL_law_277 ?_
  refine x_iadd (pc := 278) dL_law_278 ?_
  refine x_ialdX (pc := 279) (j := 0) dL_law_279 (by omega) (hgl2 0 (by omega)) (by omega) (by omega) ?_
  refine x_aload_n (pc := 280) dL_law_280 rfl ?_
  refine x_iload_n (pc := 281) dL_law_281 rfl ?_
  refine x_iconst (pc := 282) dL_law_282 ?_
  refine x_iadd (pc := 283) dL_law_283 ?_
  refine x_ialdX (pc := 284) (j := 0) dL_law_284 (by omega) (hgl2 0 (by omega)) (by omega) (by omega) ?_
  refine x_aload_n (pc := 285) dL_law_285 rfl ?_
  refine x_iload_n (pc := 286) dL_law_286 rfl ?_
  refine x_iconst (pc := 287) dL_law_287 ?_
  refine x_iadd (pc := 288) dL_law_288 ?_
  refine x_ialdX (pc := 289) (j := 0) dL_law_289 (by omega) (hgl2 0 (by omega)) (by omega) (by omega) ?_
  refine x_aload_n (pc := 290) dL_law_290 rfl ?_
  refine x_iload_n (pc := 291) dL_law_291 rfl ?_
  refine x_iconst (pc := 292) dL_law_292 ?_
  refine x_iadd (pc := 293) dL_law_293 ?_
  refine x_ialdX (pc := 294) (j := 0) dL_law_294 (by omega) (hgl2 0 (by omega)) (by omega) (by omega) ?_
  refine x_y4 (pc := 295) dL_law_295 wX7_get iX7_get kL_35 (by decide) rfl (Nat.le_of_ble_eq_true rfl) hob2 (by omega) ct2 (fun v2 h2 e3 => ?_)
  obtain ⟨e4, I2⟩ := e3
  subst e4
  refine x_same (pc := 298) (tgt := 901) dL_law_298 (by decide) ?_
  exact hq _ I2

set_option maxRecDepth 4000 in
theorem lc_size {G : GL} {d p N : Nat} {hp : HP} (I : INV p N hp) {i : Nat} (hi : (i : Int) + 6 ≤ ((G.2.2.2.2.2 0).1 : Nat)) (hfr : ∀ j, -2147483648 ≤ (G.2.2.2.2.2 0).2 j ∧ (G.2.2.2.2.2 0).2 j < 2147483648) {Q : Option AV → HP → Nat → Prop} (hq : ∀ h, INV p N h → Ex G (d + 41) 0 0 mL_law 901 [vr 1000000, vr 0, vr 92, vi i] [] h 615 Q) : Ex G (d + 41) 0 0 mL_law 303 [vr 1000000, vr 0, vr 92, vi i] [] hp 615 Q := by
  have hob : isob hp 0 6 := by
    obtain ⟨-, -, S, T, W, Sm, Tm, c, -⟩ := I
    exact c.1.1.ob
  refine Ex.glob (fun hgl => ?_)
  refine x_aload_n (pc := 303) dL_law_303 rfl ?_
  refine x_aload_n (pc := 304) dL_law_304 rfl ?_
  refine x_iload_n (pc := 305) dL_law_305 rfl ?_
  refine x_iconst (pc := 306) dL_law_306 ?_
  refine x_iadd (pc := 307) dL_law_307 ?_
  refine x_ialdX (pc := 308) (j := 0) dL_law_308 (by omega) (hgl 0 (by omega)) (by omega) (by omega) ?_
  refine x_aload_n (pc := 309) dL_law_309 rfl ?_
  refine x_iload_n (pc := 310) dL_law_310 rfl ?_
  refine x_iconst (pc := 311) dL_law_311 ?_
  refine x_iadd (pc := 312) dL_law_312 ?_
  refine x_ialdX (pc := 313) (j := 0) dL_law_313 (by omega) (hgl 0 (by omega)) (by omega) (by omega) ?_
  refine x_y2 (pc := 314) dL_law_314 wX6_size iX6_size kL_36 (by decide) rfl (Nat.le_of_ble_eq_true rfl) hob (by omega) (cs_size (D := d) (Nat.le_refl 615) I (hfr _) (hfr _)) (fun v1 h1 e1 => ?_)
  obtain ⟨w, e2, hob2, ct2⟩ := e1
  subst e2
  refine Ex.glob (fun hgl2 => ?_)
  refine x_aload_n (pc := 317) dL_law_317 rfl ?_
  refine x_aload_n (pc := 318) dL_law_318 rfl ?_
  refine x_iload_n (pc := 319) dL_law_319 rfl ?_
  refine x_iconst (pc := 320) dL_law_320 ?_
  refine x_iadd (pc := 321) dL_law_321 ?_
  refine x_ialdX (pc := 322) (j := 0) dL_law_322 (by omega) (hgl2 0 (by omega)) (by omega) (by omega) ?_
  refine x_aload_n (pc := 323) dL_law_323 rfl ?_
  refine x_iload_n (pc := 324) dL_law_324 rfl ?_
  refine x_iconst (pc := 325) dL_law_325 ?_
  refine x_iadd (pc := 326) dL_law_326 ?_
  refine x_ialdX (pc := 327) (j := 0) dL_law_327 (by omega) (hgl2 0 (by omega)) (by omega) (by omega) ?_
  refine x_y2 (pc := 328) dL_law_328 wX7_size iX7_size kL_40 (by decide) rfl (Nat.le_of_ble_eq_true rfl) hob2 (by omega) ct2 (fun v2 h2 e3 => ?_)
  obtain ⟨e4, I2⟩ := e3
  subst e4
  refine x_same (pc := 331) (tgt := 901) dL_law_331 (by decide) ?_
  exact hq _ I2

set_option maxRecDepth 4000 in
theorem lc_ways {G : GL} {d p N : Nat} {hp : HP} (I : INV p N hp) {i : Nat} (hi : (i : Int) + 6 ≤ ((G.2.2.2.2.2 0).1 : Nat)) (hfr : ∀ j, -2147483648 ≤ (G.2.2.2.2.2 0).2 j ∧ (G.2.2.2.2.2 0).2 j < 2147483648) {Q : Option AV → HP → Nat → Prop} (hq : ∀ h, INV p N h → Ex G (d + 41) 0 0 mL_law 901 [vr 1000000, vr 0, vr 92, vi i] [] h 615 Q) : Ex G (d + 41) 0 0 mL_law 336 [vr 1000000, vr 0, vr 92, vi i] [] hp 615 Q := by
  have hob : isob hp 0 6 := by
    obtain ⟨-, -, S, T, W, Sm, Tm, c, -⟩ := I
    exact c.1.1.ob
  refine Ex.glob (fun hgl => ?_)
  refine x_aload_n (pc := 336) dL_law_336 rfl ?_
  refine x_aload_n (pc := 337) dL_law_337 rfl ?_
  refine x_iload_n (pc := 338) dL_law_338 rfl ?_
  refine x_iconst (pc := 339) dL_law_339 ?_
  refine x_iadd (pc := 340) dL_law_340 ?_
  refine x_ialdX (pc := 341) (j := 0) dL_law_341 (by omega) (hgl 0 (by omega)) (by omega) (by omega) ?_
  refine x_y1 (pc := 342) dL_law_342 wX6_ways iX6_ways kL_41 (by decide) rfl (Nat.le_of_ble_eq_true rfl) hob (by omega) (cs_ways (D := d) (Nat.le_refl 615) I (hfr _)) (fun v1 h1 e1 => ?_)
  obtain ⟨w, e2, hob2, ct2⟩ := e1
  subst e2
  refine Ex.glob (fun hgl2 => ?_)
  refine x_aload_n (pc := 345) dL_law_345 rfl ?_
  refine x_aload_n (pc := 346) dL_law_346 rfl ?_
  refine x_iload_n (pc := 347) dL_law_347 rfl ?_
  refine x_iconst (pc := 348) dL_law_348 ?_
  refine x_iadd (pc := 349) dL_law_349 ?_
  refine x_ialdX (pc := 350) (j := 0) dL_law_350 (by omega) (hgl2 0 (by omega)) (by omega) (by omega) ?_
  refine x_y1 (pc := 351) dL_law_351 wX7_ways iX7_ways kL_45 (by decide) rfl (Nat.le_of_ble_eq_true rfl) hob2 (by omega) ct2 (fun v2 h2 e3 => ?_)
  obtain ⟨e4, I2⟩ := e3
  subst e4
  refine x_same (pc := 354) (tgt := 901) dL_law_354 (by decide) ?_
  exact hq _ I2

set_option maxRecDepth 4000 in
theorem lc_span {G : GL} {d p N : Nat} {hp : HP} (I : INV p N hp) {i : Nat} (hi : (i : Int) + 6 ≤ ((G.2.2.2.2.2 0).1 : Nat)) (hfr : ∀ j, -2147483648 ≤ (G.2.2.2.2.2 0).2 j ∧ (G.2.2.2.2.2 0).2 j < 2147483648) {Q : Option AV → HP → Nat → Prop} (hq : ∀ h, INV p N h → Ex G (d + 41) 0 0 mL_law 901 [vr 1000000, vr 0, vr 92, vi i] [] h 615 Q) : Ex G (d + 41) 0 0 mL_law 359 [vr 1000000, vr 0, vr 92, vi i] [] hp 615 Q := by
  have hob : isob hp 0 6 := by
    obtain ⟨-, -, S, T, W, Sm, Tm, c, -⟩ := I
    exact c.1.1.ob
  refine Ex.glob (fun hgl => ?_)
  refine x_aload_n (pc := 359) dL_law_359 rfl ?_
  refine x_aload_n (pc := 360) dL_law_360 rfl ?_
  refine x_iload_n (pc := 361) dL_law_361 rfl ?_
  refine x_iconst (pc := 362) dL_law_362 ?_
  refine x_iadd (pc := 363) dL_law_363 ?_
  refine x_ialdX (pc := 364) (j := 0) dL_law_364 (by omega) (hgl 0 (by omega)) (by omega) (by omega) ?_
  refine x_aload_n (pc := 365) dL_law_365 rfl ?_
  refine x_iload_n (pc := 366) dL_law_366 rfl ?_
  refine x_iconst (pc := 367) dL_law_367 ?_
  refine x_iadd (pc := 368) dL_law_368 ?_
  refine x_ialdX (pc := 369) (j := 0) dL_law_369 (by omega) (hgl 0 (by omega)) (by omega) (by omega) ?_
  refine x_aload_n (pc := 370) dL_law_370 rfl ?_
  refine x_iload_n (pc := 371) dL_law_371 rfl ?_
  refine x_iconst (pc := 372) dL_law_372 ?_
  refine x_iadd (pc := 373) dL_law_373 ?_
  refine x_ialdX (pc := 374) (j := 0) dL_law_374 (by omega) (hgl 0 (by omega)) (by omega) (by omega) ?_
  refine x_aload_n (pc := 375) dL_law_375 rfl ?_
  refine x_iload_n (pc := 376) dL_law_376 rfl ?_
  refine x_iconst (pc := 377) dL_law_377 ?_
  refine x_iadd (pc := 378) dL_law_378 ?_
  refine x_ialdX (pc := 379) (j := 0) dL_law_379 (by omega) (hgl 0 (by omega)) (by omega) (by omega) ?_
  refine x_y4 (pc := 380) dL_law_380 wX6_span iX6_span kL_46 (by decide) rfl (Nat.le_of_ble_eq_true rfl) hob (by omega) (cs_span (D := d) (Nat.le_refl 615) I (hfr _) (hfr _) (hfr _) (hfr _)) (fun v1 h1 e1 => ?_)
  obtain ⟨w, e2, hob2, ct2⟩ := e1
  subst e2
  refine Ex.glob (fun hgl2 => ?_)
  refine x_aload_n (pc := 383) dL_law_383 rfl ?_
  refine x_aload_n (pc := 384) dL_law_384 rfl ?_
  refine x_iload_n (pc := 385) dL_law_385 rfl ?_
  refine x_iconst (pc := 386) dL_law_386 ?_
  refine x_iadd (pc := 387) dL_law_387 ?_
  refine x_ialdX (pc := 388) (j := 0) dL_law_388 (by omega) (hgl2 0 (by omega)) (by omega) (by omega) ?_
  refine x_aload_n (pc := 389) dL_law_389 rfl ?_
  refine x_iload_n (pc := 390) dL_law_390 rfl ?_
  refine x_iconst (pc := 391) dL_law_391 ?_
  refine x_iadd (pc := 392) dL_law_392 ?_
  refine x_ialdX (pc := 393) (j := 0) dL_law_393 (by omega) (hgl2 0 (by omega)) (by omega) (by omega) ?_
  refine x_aload_n (pc := 394) dL_law_394 rfl ?_
  refine x_iload_n (pc := 395) dL_law_395 rfl ?_
  refine x_iconst (pc := 396) dL_law_396 ?_
  refine x_iadd (pc := 397) dL_law_397 ?_
  refine x_ialdX (pc := 398) (j := 0) dL_law_398 (by omega) (hgl2 0 (by omega)) (by omega) (by omega) ?_
  refine x_aload_n (pc := 399) dL_law_399 rfl ?_
  refine x_iload_n (pc := 400) dL_law_400 rfl ?_
  refine x_iconst (pc := 401) dL_law_401 ?_
  refine x_iadd (pc := 402) dL_law_402 ?_
  refine x_ialdX (pc := 403) (j := 0) dL_law_403 (by omega) (hgl2 0 (by omega)) (by omega) (by omega) ?_
  refine x_y4 (pc := 404) dL_law_404 wX7_span iX7_span kL_50 (by decide) rfl (Nat.le_of_ble_eq_true rfl) hob2 (by omega) ct2 (fun v2 h2 e3 => ?_)
  obtain ⟨e4, I2⟩ := e3
  subst e4
  refine x_same (pc := 407) (tgt := 901) dL_law_407 (by decide) ?_
  exact hq _ I2

set_option maxRecDepth 4000 in
theorem lc_beside {G : GL} {d p N : Nat} {hp : HP} (I : INV p N hp) {i : Nat} (hi : (i : Int) + 6 ≤ ((G.2.2.2.2.2 0).1 : Nat)) (hfr : ∀ j, -2147483648 ≤ (G.2.2.2.2.2 0).2 j ∧ (G.2.2.2.2.2 0).2 j < 2147483648) {Q : Option AV → HP → Nat → Prop} (hq : ∀ h, INV p N h → Ex G (d + 41) 0 0 mL_law 901 [vr 1000000, vr 0, vr 92, vi i] [] h 615 Q) : Ex G (d + 41) 0 0 mL_law 412 [vr 1000000, vr 0, vr 92, vi i] [] hp 615 Q := by
  have hob : isob hp 0 6 := by
    obtain ⟨-, -, S, T, W, Sm, Tm, c, -⟩ := I
    exact c.1.1.ob
  refine Ex.glob (fun hgl => ?_)
  refine x_aload_n (pc := 412) dL_law_412 rfl ?_
  refine x_aload_n (pc := 413) dL_law_413 rfl ?_
  refine x_iload_n (pc := 414) dL_law_414 rfl ?_
  refine x_iconst (pc := 415) dL_law_415 ?_
  refine x_iadd (pc := 416) dL_law_416 ?_
  refine x_ialdX (pc := 417) (j := 0) dL_law_417 (by omega) (hgl 0 (by omega)) (by omega) (by omega) ?_
  refine x_aload_n (pc := 418) dL_law_418 rfl ?_
  refine x_iload_n (pc := 419) dL_law_419 rfl ?_
  refine x_iconst (pc := 420) dL_law_420 ?_
  refine x_iadd (pc := 421) dL_law_421 ?_
  refine x_ialdX (pc := 422) (j := 0) dL_law_422 (by omega) (hgl 0 (by omega)) (by omega) (by omega) ?_
  refine x_aload_n (pc := 423) dL_law_423 rfl ?_
  refine x_iload_n (pc := 424) dL_law_424 rfl ?_
  refine x_iconst (pc := 425) dL_law_425 ?_
  refine x_iadd (pc := 426) dL_law_426 ?_
  refine x_ialdX (pc := 427) (j := 0) dL_law_427 (by omega) (hgl 0 (by omega)) (by omega) (by omega) ?_
  refine x_y3 (pc := 428) dL_law_428 wX6_beside iX6_beside kL_51 (by decide) rfl (Nat.le_of_ble_eq_true rfl) hob (by omega) (cs_beside (D := d) (Nat.le_refl 615) I (hfr _) (hfr _) (hfr _)) (fun v1 h1 e1 => ?_)
  obtain ⟨w, e2, hob2, ct2⟩ := e1
  subst e2
  refine Ex.glob (fun hgl2 => ?_)
  refine x_aload_n (pc := 431) dL_law_431 rfl ?_
  refine x_aload_n (pc := 432) dL_law_432 rfl ?_
  refine x_iload_n (pc := 433) dL_law_433 rfl ?_
  refine x_iconst (pc := 434) dL_law_434 ?_
  refine x_iadd (pc := 435) dL_law_435 ?_
  refine x_ialdX (pc := 436) (j := 0) dL_law_436 (by omega) (hgl2 0 (by omega)) (by omega) (by omega) ?_
  refine x_aload_n (pc := 437) dL_law_437 rfl ?_
  refine x_iload_n (pc := 438) dL_law_438 rfl ?_
  refine x_iconst (pc := 439) dL_law_439 ?_
  refine x_iadd (pc := 440) dL_law_440 ?_
  refine x_ialdX (pc := 441) (j := 0) dL_law_441 (by omega) (hgl2 0 (by omega)) (by omega) (by omega) ?_
  refine x_aload_n (pc := 442) dL_law_442 rfl ?_
  refine x_iload_n (pc := 443) dL_law_443 rfl ?_
  refine x_iconst (pc := 444) dL_law_444 ?_
  refine x_iadd (pc := 445) dL_law_445 ?_
  refine x_ialdX (pc := 446) (j := 0) dL_law_446 (by omega) (hgl2 0 (by omega)) (by omega) (by omega) ?_
  refine x_y3 (pc := 447) dL_law_447 wX7_beside iX7_beside kL_54 (by decide) rfl (Nat.le_of_ble_eq_true rfl) hob2 (by omega) ct2 (fun v2 h2 e3 => ?_)
  obtain ⟨e4, I2⟩ := e3
  subst e4
  refine x_same (pc := 450) (tgt := 901) dL_law_450 (by decide) ?_
  exact hq _ I2

set_option maxRecDepth 4000 in
theorem lc_mix {G : GL} {d p N : Nat} {hp : HP} (I : INV p N hp) {i : Nat} (hi : (i : Int) + 6 ≤ ((G.2.2.2.2.2 0).1 : Nat)) (hfr : ∀ j, -2147483648 ≤ (G.2.2.2.2.2 0).2 j ∧ (G.2.2.2.2.2 0).2 j < 2147483648) {Q : Option AV → HP → Nat → Prop} (hq : ∀ h, INV p N h → Ex G (d + 41) 0 0 mL_law 901 [vr 1000000, vr 0, vr 92, vi i] [] h 615 Q) : Ex G (d + 41) 0 0 mL_law 455 [vr 1000000, vr 0, vr 92, vi i] [] hp 615 Q := by
  have hob : isob hp 0 6 := by
    obtain ⟨-, -, S, T, W, Sm, Tm, c, -⟩ := I
    exact c.1.1.ob
  refine Ex.glob (fun hgl => ?_)
  refine x_aload_n (pc := 455) dL_law_455 rfl ?_
  refine x_aload_n (pc := 456) dL_law_456 rfl ?_
  refine x_iload_n (pc := 457) dL_law_457 rfl ?_
  refine x_iconst (pc := 458) dL_law_458 ?_
  refine x_iadd (pc := 459) dL_law_459 ?_
  refine x_ialdX (pc := 460) (j := 0) dL_law_460 (by omega) (hgl 0 (by omega)) (by omega) (by omega) ?_
  refine x_aload_n (pc := 461) dL_law_461 rfl ?_
  refine x_iload_n (pc := 462) dL_law_462 rfl ?_
  refine x_iconst (pc := 463) dL_law_463 ?_
  refine x_iadd (pc := 464) dL_law_464 ?_
  refine x_ialdX (pc := 465) (j := 0) dL_law_465 (by omega) (hgl 0 (by omega)) (by omega) (by omega) ?_
  refine x_aload_n (pc := 466) dL_law_466 rfl ?_
  refine x_iload_n (pc := 467) dL_law_467 rfl ?_
  refine x_iconst (pc := 468) dL_law_468 ?_
  refine x_iadd (pc := 469) dL_law_469 ?_
  refine x_ialdX (pc := 470) (j := 0) dL_law_470 (by omega) (hgl 0 (by omega)) (by omega) (by omega) ?_
  refine x_aload_n (pc := 471) dL_law_471 rfl ?_
  refine x_iload_n (pc := 472) dL_law_472 rfl ?_
  refine x_iconst (pc := 473) dL_law_473 ?_
  refine x_iadd (pc := 474) dL_law_474 ?_
  refine x_ialdX (pc := 475) (j := 0) dL_law_475 (by omega) (hgl 0 (by omega)) (by omega) (by omega) ?_
  refine x_aload_n (pc := 476) dL_law_476 rfl ?_
  refine x_iload_n (pc := 477) dL_law_477 rfl ?_
  refine x_iconst (pc := 478) dL_law_478 ?_
  refine x_iadd (pc := 479) dL_law_479 ?_
  refine x_ialdX (pc := 480) (j := 0) dL_law_480 (by omega) (hgl 0 (by omega)) (by omega) (by omega) ?_
  refine x_y5 (pc := 481) dL_law_481 wX6_mix iX6_mix kL_55 (by decide) rfl (Nat.le_of_ble_eq_true rfl) hob (by omega) (cs_mix (D := d) (Nat.le_refl 615) I (hfr _) (hfr _) (hfr _) (hfr _) (hfr _)) (fun v1 h1 e1 => ?_)
  obtain ⟨w, e2, hob2, ct2⟩ := e1
  subst e2
  refine Ex.glob (fun hgl2 => ?_)
  refine x_aload_n (pc := 484) dL_law_484 rfl ?_
  refine x_aload_n (pc := 485) dL_law_485 rfl ?_
  refine x_iload_n (pc := 486) dL_law_486 rfl ?_
  refine x_iconst (pc := 487) dL_law_487 ?_
  refine x_iadd (pc := 488) dL_law_488 ?_
  refine x_ialdX (pc := 489) (j := 0) dL_law_489 (by omega) (hgl2 0 (by omega)) (by omega) (by omega) ?_
  refine x_aload_n (pc := 490) dL_law_490 rfl ?_
  refine x_iload_n (pc := 491) dL_law_491 rfl ?_
  refine x_iconst (pc := 492) dL_law_492 ?_
  refine x_iadd (pc := 493) dL_law_493 ?_
  refine x_ialdX (pc := 494) (j := 0) dL_law_494 (by omega) (hgl2 0 (by omega)) (by omega) (by omega) ?_
  refine x_aload_n (pc := 495) dL_law_495 rfl ?_
  refine x_iload_n (pc := 496) dL_law_496 rfl ?_
  refine x_iconst (pc := 497) dL_law_497 ?_
  refine x_iadd (pc := 498) dL_law_498 ?_
  refine x_ialdX (pc := 499) (j := 0) dL_law_499 (by omega) (hgl2 0 (by omega)) (by omega) (by omega) ?_
  refine x_aload_n (pc := 500) dL_law_500 rfl ?_
  refine x_iload_n (pc := 501) dL_law_501 rfl ?_
  refine x_iconst (pc := 502) dL_law_502 ?_
  refine x_iadd (pc := 503) dL_law_503 ?_
  refine x_ialdX (pc := 504) (j := 0) dL_law_504 (by omega) (hgl2 0 (by omega)) (by omega) (by omega) ?_
  refine x_aload_n (pc := 505) dL_law_505 rfl ?_
  refine x_iload_n (pc := 506) dL_law_506 rfl ?_
  refine x_iconst (pc := 507) dL_law_507 ?_
  refine x_iadd (pc := 508) dL_law_508 ?_
  refine x_ialdX (pc := 509) (j := 0) dL_law_509 (by omega) (hgl2 0 (by omega)) (by omega) (by omega) ?_
  refine x_y5 (pc := 510) dL_law_510 wX7_mix iX7_mix kL_58 (by decide) rfl (Nat.le_of_ble_eq_true rfl) hob2 (by omega) ct2 (fun v2 h2 e3 => ?_)
  obtain ⟨e4, I2⟩ := e3
  subst e4
  refine x_same (pc := 513) (tgt := 901) dL_law_513 (by decide) ?_
  exact hq _ I2

set_option maxRecDepth 4000 in
theorem lc_turn {G : GL} {d p N : Nat} {hp : HP} (I : INV p N hp) {i : Nat} (hi : (i : Int) + 6 ≤ ((G.2.2.2.2.2 0).1 : Nat)) (hfr : ∀ j, -2147483648 ≤ (G.2.2.2.2.2 0).2 j ∧ (G.2.2.2.2.2 0).2 j < 2147483648) {Q : Option AV → HP → Nat → Prop} (hq : ∀ h, INV p N h → Ex G (d + 41) 0 0 mL_law 901 [vr 1000000, vr 0, vr 92, vi i] [] h 615 Q) : Ex G (d + 41) 0 0 mL_law 518 [vr 1000000, vr 0, vr 92, vi i] [] hp 615 Q := by
  have hob : isob hp 0 6 := by
    obtain ⟨-, -, S, T, W, Sm, Tm, c, -⟩ := I
    exact c.1.1.ob
  refine Ex.glob (fun hgl => ?_)
  refine x_aload_n (pc := 518) dL_law_518 rfl ?_
  refine x_aload_n (pc := 519) dL_law_519 rfl ?_
  refine x_iload_n (pc := 520) dL_law_520 rfl ?_
  refine x_iconst (pc := 521) dL_law_521 ?_
  refine x_iadd (pc := 522) dL_law_522 ?_
  refine x_ialdX (pc := 523) (j := 0) dL_law_523 (by omega) (hgl 0 (by omega)) (by omega) (by omega) ?_
  refine x_aload_n (pc := 524) dL_law_524 rfl ?_
  refine x_iload_n (pc := 525) dL_law_525 rfl ?_
  refine x_iconst (pc := 526) dL_law_526 ?_
  refine x_iadd (pc := 527) dL_law_527 ?_
  refine x_ialdX (pc := 528) (j := 0) dL_law_528 (by omega) (hgl 0 (by omega)) (by omega) (by omega) ?_
  refine x_aload_n (pc := 529) dL_law_529 rfl ?_
  refine x_iload_n (pc := 530) dL_law_530 rfl ?_
  refine x_iconst (pc := 531) dL_law_531 ?_
  refine x_iadd (pc := 532) dL_law_532 ?_
  refine x_ialdX (pc := 533) (j := 0) dL_law_533 (by omega) (hgl 0 (by omega)) (by omega) (by omega) ?_
  refine x_y3 (pc := 534) dL_law_534 wX6_turn iX6_turn kL_59 (by decide) rfl (Nat.le_of_ble_eq_true rfl) hob (by omega) (cs_turn (D := d) (Nat.le_refl 615) I (hfr _) (hfr _) (hfr _)) (fun v1 h1 e1 => ?_)
  obtain ⟨w, e2, hob2, ct2⟩ := e1
  subst e2
  refine Ex.glob (fun hgl2 => ?_)
  refine x_aload_n (pc := 537) dL_law_537 rfl ?_
  refine x_aload_n (pc := 538) dL_law_538 rfl ?_
  refine x_iload_n (pc := 539) dL_law_539 rfl ?_
  refine x_iconst (pc := 540) dL_law_540 ?_
  refine x_iadd (pc := 541) dL_law_541 ?_
  refine x_ialdX (pc := 542) (j := 0) dL_law_542 (by omega) (hgl2 0 (by omega)) (by omega) (by omega) ?_
  refine x_aload_n (pc := 543) dL_law_543 rfl ?_
  refine x_iload_n (pc := 544) dL_law_544 rfl ?_
  refine x_iconst (pc := 545) dL_law_545 ?_
  refine x_iadd (pc := 546) dL_law_546 ?_
  refine x_ialdX (pc := 547) (j := 0) dL_law_547 (by omega) (hgl2 0 (by omega)) (by omega) (by omega) ?_
  refine x_aload_n (pc := 548) dL_law_548 rfl ?_
  refine x_iload_n (pc := 549) dL_law_549 rfl ?_
  refine x_iconst (pc := 550) dL_law_550 ?_
  refine x_iadd (pc := 551) dL_law_551 ?_
  refine x_ialdX (pc := 552) (j := 0) dL_law_552 (by omega) (hgl2 0 (by omega)) (by omega) (by omega) ?_
  refine x_y3 (pc := 553) dL_law_553 wX7_turn iX7_turn kL_63 (by decide) rfl (Nat.le_of_ble_eq_true rfl) hob2 (by omega) ct2 (fun v2 h2 e3 => ?_)
  obtain ⟨e4, I2⟩ := e3
  subst e4
  refine x_same (pc := 556) (tgt := 901) dL_law_556 (by decide) ?_
  exact hq _ I2

set_option maxRecDepth 4000 in
theorem lc_maps {G : GL} {d p N : Nat} {hp : HP} (I : INV p N hp) {i : Nat} (hi : (i : Int) + 6 ≤ ((G.2.2.2.2.2 0).1 : Nat)) (hfr : ∀ j, -2147483648 ≤ (G.2.2.2.2.2 0).2 j ∧ (G.2.2.2.2.2 0).2 j < 2147483648) {Q : Option AV → HP → Nat → Prop} (hq : ∀ h, INV p N h → Ex G (d + 41) 0 0 mL_law 901 [vr 1000000, vr 0, vr 92, vi i] [] h 615 Q) : Ex G (d + 41) 0 0 mL_law 561 [vr 1000000, vr 0, vr 92, vi i] [] hp 615 Q := by
  have hob : isob hp 0 6 := by
    obtain ⟨-, -, S, T, W, Sm, Tm, c, -⟩ := I
    exact c.1.1.ob
  refine Ex.glob (fun hgl => ?_)
  refine x_aload_n (pc := 561) dL_law_561 rfl ?_
  refine x_aload_n (pc := 562) dL_law_562 rfl ?_
  refine x_iload_n (pc := 563) dL_law_563 rfl ?_
  refine x_iconst (pc := 564) dL_law_564 ?_
  refine x_iadd (pc := 565) dL_law_565 ?_
  refine x_ialdX (pc := 566) (j := 0) dL_law_566 (by omega) (hgl 0 (by omega)) (by omega) (by omega) ?_
  refine x_aload_n (pc := 567) dL_law_567 rfl ?_
  refine x_iload_n (pc := 568) dL_law_568 rfl ?_
  refine x_iconst (pc := 569) dL_law_569 ?_
  refine x_iadd (pc := 570) dL_law_570 ?_
  refine x_ialdX (pc := 571) (j := 0) dL_law_571 (by omega) (hgl 0 (by omega)) (by omega) (by omega) ?_
  refine x_y2 (pc := 572) dL_law_572 wX6_maps iX6_maps kL_64 (by decide) rfl (Nat.le_of_ble_eq_true rfl) hob (by omega) (cs_maps (D := d) (Nat.le_refl 615) I (hfr _) (hfr _)) (fun v1 h1 e1 => ?_)
  obtain ⟨w, e2, hob2, ct2⟩ := e1
  subst e2
  refine Ex.glob (fun hgl2 => ?_)
  refine x_aload_n (pc := 575) dL_law_575 rfl ?_
  refine x_aload_n (pc := 576) dL_law_576 rfl ?_
  refine x_iload_n (pc := 577) dL_law_577 rfl ?_
  refine x_iconst (pc := 578) dL_law_578 ?_
  refine x_iadd (pc := 579) dL_law_579 ?_
  refine x_ialdX (pc := 580) (j := 0) dL_law_580 (by omega) (hgl2 0 (by omega)) (by omega) (by omega) ?_
  refine x_aload_n (pc := 581) dL_law_581 rfl ?_
  refine x_iload_n (pc := 582) dL_law_582 rfl ?_
  refine x_iconst (pc := 583) dL_law_583 ?_
  refine x_iadd (pc := 584) dL_law_584 ?_
  refine x_ialdX (pc := 585) (j := 0) dL_law_585 (by omega) (hgl2 0 (by omega)) (by omega) (by omega) ?_
  refine x_y2 (pc := 586) dL_law_586 wX7_maps iX7_maps kL_67 (by decide) rfl (Nat.le_of_ble_eq_true rfl) hob2 (by omega) ct2 (fun v2 h2 e3 => ?_)
  obtain ⟨e4, I2⟩ := e3
  subst e4
  refine x_same (pc := 589) (tgt := 901) dL_law_589 (by decide) ?_
  exact hq _ I2

set_option maxRecDepth 4000 in
theorem lc_bends {G : GL} {d p N : Nat} {hp : HP} (I : INV p N hp) {i : Nat} (hi : (i : Int) + 6 ≤ ((G.2.2.2.2.2 0).1 : Nat)) (hfr : ∀ j, -2147483648 ≤ (G.2.2.2.2.2 0).2 j ∧ (G.2.2.2.2.2 0).2 j < 2147483648) {Q : Option AV → HP → Nat → Prop} (hq : ∀ h, INV p N h → Ex G (d + 41) 0 0 mL_law 901 [vr 1000000, vr 0, vr 92, vi i] [] h 615 Q) : Ex G (d + 41) 0 0 mL_law 594 [vr 1000000, vr 0, vr 92, vi i] [] hp 615 Q := by
  have hob : isob hp 0 6 := by
    obtain ⟨-, -, S, T, W, Sm, Tm, c, -⟩ := I
    exact c.1.1.ob
  refine Ex.glob (fun hgl => ?_)
  refine x_aload_n (pc := 594) dL_law_594 rfl ?_
  refine x_aload_n (pc := 595) dL_law_595 rfl ?_
  refine x_iload_n (pc := 596) dL_law_596 rfl ?_
  refine x_iconst (pc := 597) dL_law_597 ?_
  refine x_iadd (pc := 598) dL_law_598 ?_
  refine x_ialdX (pc := 599) (j := 0) dL_law_599 (by omega) (hgl 0 (by omega)) (by omega) (by omega) ?_
  refine x_aload_n (pc := 600) dL_law_600 rfl ?_
  refine x_iload_n (pc := 601) dL_law_601 rfl ?_
  refine x_iconst (pc := 602) dL_law_602 ?_
  refine x_iadd (pc := 603) dL_law_603 ?_
  refine x_ialdX (pc := 604) (j := 0) dL_law_604 (by omega) (hgl 0 (by omega)) (by omega) (by omega) ?_
  refine x_y2 (pc := 605) dL_law_605 wX6_bends iX6_bends kL_68 (by decide) rfl (Nat.le_of_ble_eq_true rfl) hob (by omega) (cs_bends (D := d) (Nat.le_refl 615) I (hfr _) (hfr _)) (fun v1 h1 e1 => ?_)
  obtain ⟨w, e2, hob2, ct2⟩ := e1
  subst e2
  refine Ex.glob (fun hgl2 => ?_)
  refine x_aload_n (pc := 608) dL_law_608 rfl ?_
  refine x_aload_n (pc := 609) dL_law_609 rfl ?_
  refine x_iload_n (pc := 610) dL_law_610 rfl ?_
  refine x_iconst (pc := 611) dL_law_611 ?_
  refine x_iadd (pc := 612) dL_law_612 ?_
  refine x_ialdX (pc := 613) (j := 0) dL_law_613 (by omega) (hgl2 0 (by omega)) (by omega) (by omega) ?_
  refine x_aload_n (pc := 614) dL_law_614 rfl ?_
  refine x_iload_n (pc := 615) dL_law_615 rfl ?_
  refine x_iconst (pc := 616) dL_law_616 ?_
  refine x_iadd (pc := 617) dL_law_617 ?_
  refine x_ialdX (pc := 618) (j := 0) dL_law_618 (by omega) (hgl2 0 (by omega)) (by omega) (by omega) ?_
  refine x_y2 (pc := 619) dL_law_619 wX7_bends iX7_bends kL_71 (by decide) rfl (Nat.le_of_ble_eq_true rfl) hob2 (by omega) ct2 (fun v2 h2 e3 => ?_)
  obtain ⟨e4, I2⟩ := e3
  subst e4
  refine x_same (pc := 622) (tgt := 901) dL_law_622 (by decide) ?_
  exact hq _ I2

set_option maxRecDepth 4000 in
theorem lc_form {G : GL} {d p N : Nat} {hp : HP} (I : INV p N hp) {i : Nat} (hi : (i : Int) + 6 ≤ ((G.2.2.2.2.2 0).1 : Nat)) (hfr : ∀ j, -2147483648 ≤ (G.2.2.2.2.2 0).2 j ∧ (G.2.2.2.2.2 0).2 j < 2147483648) {Q : Option AV → HP → Nat → Prop} (hq : ∀ h, INV p N h → Ex G (d + 41) 0 0 mL_law 901 [vr 1000000, vr 0, vr 92, vi i] [] h 615 Q) : Ex G (d + 41) 0 0 mL_law 627 [vr 1000000, vr 0, vr 92, vi i] [] hp 615 Q := by
  have hob : isob hp 0 6 := by
    obtain ⟨-, -, S, T, W, Sm, Tm, c, -⟩ := I
    exact c.1.1.ob
  refine Ex.glob (fun hgl => ?_)
  refine x_aload_n (pc := 627) dL_law_627 rfl ?_
  refine x_aload_n (pc := 628) dL_law_628 rfl ?_
  refine x_iload_n (pc := 629) dL_law_629 rfl ?_
  refine x_iconst (pc := 630) dL_law_630 ?_
  refine x_iadd (pc := 631) dL_law_631 ?_
  refine x_ialdX (pc := 632) (j := 0) dL_law_632 (by omega) (hgl 0 (by omega)) (by omega) (by omega) ?_
  refine x_aload_n (pc := 633) dL_law_633 rfl ?_
  refine x_iload_n (pc := 634) dL_law_634 rfl ?_
  refine x_iconst (pc := 635) dL_law_635 ?_
  refine x_iadd (pc := 636) dL_law_636 ?_
  refine x_ialdX (pc := 637) (j := 0) dL_law_637 (by omega) (hgl 0 (by omega)) (by omega) (by omega) ?_
  refine x_y2 (pc := 638) dL_law_638 wX6_form iX6_form kL_72 (by decide) rfl (Nat.le_of_ble_eq_true rfl) hob (by omega) (cs_form (D := d) (Nat.le_refl 615) I (hfr _) (hfr _)) (fun v1 h1 e1 => ?_)
  obtain ⟨w, e2, hob2, ct2⟩ := e1
  subst e2
  refine Ex.glob (fun hgl2 => ?_)
  refine x_aload_n (pc := 641) dL_law_641 rfl ?_
  refine x_aload_n (pc := 642) dL_law_642 rfl ?_
  refine x_iload_n (pc := 643) dL_law_643 rfl ?_
  refine x_iconst (pc := 644) dL_law_644 ?_
  refine x_iadd (pc := 645) dL_law_645 ?_
  refine x_ialdX (pc := 646) (j := 0) dL_law_646 (by omega) (hgl2 0 (by omega)) (by omega) (by omega) ?_
  refine x_aload_n (pc := 647) dL_law_647 rfl ?_
  refine x_iload_n (pc := 648) dL_law_648 rfl ?_
  refine x_iconst (pc := 649) dL_law_649 ?_
  refine x_iadd (pc := 650) dL_law_650 ?_
  refine x_ialdX (pc := 651) (j := 0) dL_law_651 (by omega) (hgl2 0 (by omega)) (by omega) (by omega) ?_
  refine x_y2 (pc := 652) dL_law_652 wX7_form iX7_form kL_75 (by decide) rfl (Nat.le_of_ble_eq_true rfl) hob2 (by omega) ct2 (fun v2 h2 e3 => ?_)
  obtain ⟨e4, I2⟩ := e3
  subst e4
  refine x_same (pc := 655) (tgt := 901) dL_law_655 (by decide) ?_
  exact hq _ I2

set_option maxRecDepth 4000 in
theorem lc_spans {G : GL} {d p N : Nat} {hp : HP} (I : INV p N hp) {i : Nat} (hi : (i : Int) + 6 ≤ ((G.2.2.2.2.2 0).1 : Nat)) (hfr : ∀ j, -2147483648 ≤ (G.2.2.2.2.2 0).2 j ∧ (G.2.2.2.2.2 0).2 j < 2147483648) {Q : Option AV → HP → Nat → Prop} (hq : ∀ h, INV p N h → Ex G (d + 41) 0 0 mL_law 901 [vr 1000000, vr 0, vr 92, vi i] [] h 615 Q) : Ex G (d + 41) 0 0 mL_law 660 [vr 1000000, vr 0, vr 92, vi i] [] hp 615 Q := by
  have hob : isob hp 0 6 := by
    obtain ⟨-, -, S, T, W, Sm, Tm, c, -⟩ := I
    exact c.1.1.ob
  refine Ex.glob (fun hgl => ?_)
  refine x_aload_n (pc := 660) dL_law_660 rfl ?_
  refine x_aload_n (pc := 661) dL_law_661 rfl ?_
  refine x_iload_n (pc := 662) dL_law_662 rfl ?_
  refine x_iconst (pc := 663) dL_law_663 ?_
  refine x_iadd (pc := 664) dL_law_664 ?_
  refine x_ialdX (pc := 665) (j := 0) dL_law_665 (by omega) (hgl 0 (by omega)) (by omega) (by omega) ?_
  refine x_aload_n (pc := 666) dL_law_666 rfl ?_
  refine x_iload_n (pc := 667) dL_law_667 rfl ?_
  refine x_iconst (pc := 668) dL_law_668 ?_
  refine x_iadd (pc := 669) dL_law_669 ?_
  refine x_ialdX (pc := 670) (j := 0) dL_law_670 (by omega) (hgl 0 (by omega)) (by omega) (by omega) ?_
  refine x_aload_n (pc := 671) dL_law_671 rfl ?_
  refine x_iload_n (pc := 672) dL_law_672 rfl ?_
  refine x_iconst (pc := 673) dL_law_673 ?_
  refine x_iadd (pc := 674) dL_law_674 ?_
  refine x_ialdX (pc := 675) (j := 0) dL_law_675 (by omega) (hgl 0 (by omega)) (by omega) (by omega) ?_
  refine x_y3 (pc := 676) dL_law_676 wX6_spans iX6_spans kL_76 (by decide) rfl (Nat.le_of_ble_eq_true rfl) hob (by omega) (cs_spans (D := d) (Nat.le_refl 615) I (hfr _) (hfr _) (hfr _)) (fun v1 h1 e1 => ?_)
  obtain ⟨w, e2, hob2, ct2⟩ := e1
  subst e2
  refine Ex.glob (fun hgl2 => ?_)
  refine x_aload_n (pc := 679) dL_law_679 rfl ?_
  refine x_aload_n (pc := 680) dL_law_680 rfl ?_
  refine x_iload_n (pc := 681) dL_law_681 rfl ?_
  refine x_iconst (pc := 682) dL_law_682 ?_
  refine x_iadd (pc := 683) dL_law_683 ?_
  refine x_ialdX (pc := 684) (j := 0) dL_law_684 (by omega) (hgl2 0 (by omega)) (by omega) (by omega) ?_
  refine x_aload_n (pc := 685) dL_law_685 rfl ?_
  refine x_iload_n (pc := 686) dL_law_686 rfl ?_
  refine x_iconst (pc := 687) dL_law_687 ?_
  refine x_iadd (pc := 688) dL_law_688 ?_
  refine x_ialdX (pc := 689) (j := 0) dL_law_689 (by omega) (hgl2 0 (by omega)) (by omega) (by omega) ?_
  refine x_aload_n (pc := 690) dL_law_690 rfl ?_
  refine x_iload_n (pc := 691) dL_law_691 rfl ?_
  refine x_iconst (pc := 692) dL_law_692 ?_
  refine x_iadd (pc := 693) dL_law_693 ?_
  refine x_ialdX (pc := 694) (j := 0) dL_law_694 (by omega) (hgl2 0 (by omega)) (by omega) (by omega) ?_
  refine x_y3 (pc := 695) dL_law_695 wX7_spans iX7_spans kL_79 (by decide) rfl (Nat.le_of_ble_eq_true rfl) hob2 (by omega) ct2 (fun v2 h2 e3 => ?_)
  obtain ⟨e4, I2⟩ := e3
  subst e4
  refine x_same (pc := 698) (tgt := 901) dL_law_698 (by decide) ?_
  exact hq _ I2

set_option maxRecDepth 4000 in
theorem lc_like {G : GL} {d p N : Nat} {hp : HP} (I : INV p N hp) {i : Nat} (hi : (i : Int) + 6 ≤ ((G.2.2.2.2.2 0).1 : Nat)) (hfr : ∀ j, -2147483648 ≤ (G.2.2.2.2.2 0).2 j ∧ (G.2.2.2.2.2 0).2 j < 2147483648) {Q : Option AV → HP → Nat → Prop} (hq : ∀ h, INV p N h → Ex G (d + 41) 0 0 mL_law 901 [vr 1000000, vr 0, vr 92, vi i] [] h 615 Q) : Ex G (d + 41) 0 0 mL_law 703 [vr 1000000, vr 0, vr 92, vi i] [] hp 615 Q := by
  have hob : isob hp 0 6 := by
    obtain ⟨-, -, S, T, W, Sm, Tm, c, -⟩ := I
    exact c.1.1.ob
  refine Ex.glob (fun hgl => ?_)
  refine x_aload_n (pc := 703) dL_law_703 rfl ?_
  refine x_aload_n (pc := 704) dL_law_704 rfl ?_
  refine x_iload_n (pc := 705) dL_law_705 rfl ?_
  refine x_iconst (pc := 706) dL_law_706 ?_
  refine x_iadd (pc := 707) dL_law_707 ?_
  refine x_ialdX (pc := 708) (j := 0) dL_law_708 (by omega) (hgl 0 (by omega)) (by omega) (by omega) ?_
  refine x_aload_n (pc := 709) dL_law_709 rfl ?_
  refine x_iload_n (pc := 710) dL_law_710 rfl ?_
  refine x_iconst (pc := 711) dL_law_711 ?_
  refine x_iadd (pc := 712) dL_law_712 ?_
  refine x_ialdX (pc := 713) (j := 0) dL_law_713 (by omega) (hgl 0 (by omega)) (by omega) (by omega) ?_
  refine x_y2 (pc := 714) dL_law_714 wX6_like iX6_like kL_80 (by decide) rfl (Nat.le_of_ble_eq_true rfl) hob (by omega) (cs_like (D := d) (Nat.le_refl 615) I (hfr _) (hfr _)) (fun v1 h1 e1 => ?_)
  obtain ⟨w, e2, hob2, ct2⟩ := e1
  subst e2
  refine Ex.glob (fun hgl2 => ?_)
  refine x_aload_n (pc := 717) dL_law_717 rfl ?_
  refine x_aload_n (pc := 718) dL_law_718 rfl ?_
  refine x_iload_n (pc := 719) dL_law_719 rfl ?_
  refine x_iconst (pc := 720) dL_law_720 ?_
  refine x_iadd (pc := 721) dL_law_721 ?_
  refine x_ialdX (pc := 722) (j := 0) dL_law_722 (by omega) (hgl2 0 (by omega)) (by omega) (by omega) ?_
  refine x_aload_n (pc := 723) dL_law_723 rfl ?_
  refine x_iload_n (pc := 724) dL_law_724 rfl ?_
  refine x_iconst (pc := 725) dL_law_725 ?_
  refine x_iadd (pc := 726) dL_law_726 ?_
  refine x_ialdX (pc := 727) (j := 0) dL_law_727 (by omega) (hgl2 0 (by omega)) (by omega) (by omega) ?_
  refine x_y2 (pc := 728) dL_law_728 wX7_like iX7_like kL_84 (by decide) rfl (Nat.le_of_ble_eq_true rfl) hob2 (by omega) ct2 (fun v2 h2 e3 => ?_)
  obtain ⟨e4, I2⟩ := e3
  subst e4
  refine x_same (pc := 731) (tgt := 901) dL_law_731 (by decide) ?_
  exact hq _ I2

set_option maxRecDepth 4000 in
theorem lc_rank {G : GL} {d p N : Nat} {hp : HP} (I : INV p N hp) {i : Nat} (hi : (i : Int) + 6 ≤ ((G.2.2.2.2.2 0).1 : Nat)) (hfr : ∀ j, -2147483648 ≤ (G.2.2.2.2.2 0).2 j ∧ (G.2.2.2.2.2 0).2 j < 2147483648) {Q : Option AV → HP → Nat → Prop} (hq : ∀ h, INV p N h → Ex G (d + 41) 0 0 mL_law 901 [vr 1000000, vr 0, vr 92, vi i] [] h 615 Q) : Ex G (d + 41) 0 0 mL_law 736 [vr 1000000, vr 0, vr 92, vi i] [] hp 615 Q := by
  have hob : isob hp 0 6 := by
    obtain ⟨-, -, S, T, W, Sm, Tm, c, -⟩ := I
    exact c.1.1.ob
  refine Ex.glob (fun hgl => ?_)
  refine x_aload_n (pc := 736) dL_law_736 rfl ?_
  refine x_aload_n (pc := 737) dL_law_737 rfl ?_
  refine x_iload_n (pc := 738) dL_law_738 rfl ?_
  refine x_iconst (pc := 739) dL_law_739 ?_
  refine x_iadd (pc := 740) dL_law_740 ?_
  refine x_ialdX (pc := 741) (j := 0) dL_law_741 (by omega) (hgl 0 (by omega)) (by omega) (by omega) ?_
  refine x_aload_n (pc := 742) dL_law_742 rfl ?_
  refine x_iload_n (pc := 743) dL_law_743 rfl ?_
  refine x_iconst (pc := 744) dL_law_744 ?_
  refine x_iadd (pc := 745) dL_law_745 ?_
  refine x_ialdX (pc := 746) (j := 0) dL_law_746 (by omega) (hgl 0 (by omega)) (by omega) (by omega) ?_
  refine x_aload_n (pc := 747) dL_law_747 rfl ?_
  refine x_iload_n (pc := 748) dL_law_748 rfl ?_
  refine x_iconst (pc := 749) dL_law_749 ?_
  refine x_iadd (pc := 750) dL_law_750 ?_
  refine x_ialdX (pc := 751) (j := 0) dL_law_751 (by omega) (hgl 0 (by omega)) (by omega) (by omega) ?_
  refine x_y3 (pc := 752) dL_law_752 wX6_rank iX6_rank kL_85 (by decide) rfl (Nat.le_of_ble_eq_true rfl) hob (by omega) (cs_rank (D := d) (Nat.le_refl 615) I (hfr _) (hfr _) (hfr _)) (fun v1 h1 e1 => ?_)
  obtain ⟨w, e2, hob2, ct2⟩ := e1
  subst e2
  refine Ex.glob (fun hgl2 => ?_)
  refine x_aload_n (pc := 755) dL_law_755 rfl ?_
  refine x_aload_n (pc := 756) dL_law_756 rfl ?_
  refine x_iload_n (pc := 757) dL_law_757 rfl ?_
  refine x_iconst (pc := 758) dL_law_758 ?_
  refine x_iadd (pc := 759) dL_law_759 ?_
  refine x_ialdX (pc := 760) (j := 0) dL_law_760 (by omega) (hgl2 0 (by omega)) (by omega) (by omega) ?_
  refine x_aload_n (pc := 761) dL_law_761 rfl ?_
  refine x_iload_n (pc := 762) dL_law_762 rfl ?_
  refine x_iconst (pc := 763) dL_law_763 ?_
  refine x_iadd (pc := 764) dL_law_764 ?_
  refine x_ialdX (pc := 765) (j := 0) dL_law_765 (by omega) (hgl2 0 (by omega)) (by omega) (by omega) ?_
  refine x_aload_n (pc := 766) dL_law_766 rfl ?_
  refine x_iload_n (pc := 767) dL_law_767 rfl ?_
  refine x_iconst (pc := 768) dL_law_768 ?_
  refine x_iadd (pc := 769) dL_law_769 ?_
  refine x_ialdX (pc := 770) (j := 0) dL_law_770 (by omega) (hgl2 0 (by omega)) (by omega) (by omega) ?_
  refine x_y3 (pc := 771) dL_law_771 wX7_rank iX7_rank kL_88 (by decide) rfl (Nat.le_of_ble_eq_true rfl) hob2 (by omega) ct2 (fun v2 h2 e3 => ?_)
  obtain ⟨e4, I2⟩ := e3
  subst e4
  refine x_same (pc := 774) (tgt := 901) dL_law_774 (by decide) ?_
  exact hq _ I2

set_option maxRecDepth 4000 in
theorem lc_far {G : GL} {d p N : Nat} {hp : HP} (I : INV p N hp) {i : Nat} (hi : (i : Int) + 6 ≤ ((G.2.2.2.2.2 0).1 : Nat)) (hfr : ∀ j, -2147483648 ≤ (G.2.2.2.2.2 0).2 j ∧ (G.2.2.2.2.2 0).2 j < 2147483648) {Q : Option AV → HP → Nat → Prop} (hq : ∀ h, INV p N h → Ex G (d + 41) 0 0 mL_law 901 [vr 1000000, vr 0, vr 92, vi i] [] h 615 Q) : Ex G (d + 41) 0 0 mL_law 779 [vr 1000000, vr 0, vr 92, vi i] [] hp 615 Q := by
  have hob : isob hp 0 6 := by
    obtain ⟨-, -, S, T, W, Sm, Tm, c, -⟩ := I
    exact c.1.1.ob
  refine Ex.glob (fun hgl => ?_)
  refine x_aload_n (pc := 779) dL_law_779 rfl ?_
  refine x_aload_n (pc := 780) dL_law_780 rfl ?_
  refine x_iload_n (pc := 781) dL_law_781 rfl ?_
  refine x_iconst (pc := 782) dL_law_782 ?_
  refine x_iadd (pc := 783) dL_law_783 ?_
  refine x_ialdX (pc := 784) (j := 0) dL_law_784 (by omega) (hgl 0 (by omega)) (by omega) (by omega) ?_
  refine x_aload_n (pc := 785) dL_law_785 rfl ?_
  refine x_iload_n (pc := 786) dL_law_786 rfl ?_
  refine x_iconst (pc := 787) dL_law_787 ?_
  refine x_iadd (pc := 788) dL_law_788 ?_
  refine x_ialdX (pc := 789) (j := 0) dL_law_789 (by omega) (hgl 0 (by omega)) (by omega) (by omega) ?_
  refine x_y2 (pc := 790) dL_law_790 wX6_far iX6_far kL_89 (by decide) rfl (Nat.le_of_ble_eq_true rfl) hob (by omega) (cs_far (D := d) (Nat.le_refl 615) I (hfr _) (hfr _)) (fun v1 h1 e1 => ?_)
  obtain ⟨w, e2, hob2, ct2⟩ := e1
  subst e2
  refine Ex.glob (fun hgl2 => ?_)
  refine x_aload_n (pc := 793) dL_law_793 rfl ?_
  refine x_aload_n (pc := 794) dL_law_794 rfl ?_
  refine x_iload_n (pc := 795) dL_law_795 rfl ?_
  refine x_iconst (pc := 796) dL_law_796 ?_
  refine x_iadd (pc := 797) dL_law_797 ?_
  refine x_ialdX (pc := 798) (j := 0) dL_law_798 (by omega) (hgl2 0 (by omega)) (by omega) (by omega) ?_
  refine x_aload_n (pc := 799) dL_law_799 rfl ?_
  refine x_iload_n (pc := 800) dL_law_800 rfl ?_
  refine x_iconst (pc := 801) dL_law_801 ?_
  refine x_iadd (pc := 802) dL_law_802 ?_
  refine x_ialdX (pc := 803) (j := 0) dL_law_803 (by omega) (hgl2 0 (by omega)) (by omega) (by omega) ?_
  refine x_y2 (pc := 804) dL_law_804 wX7_far iX7_far kL_92 (by decide) rfl (Nat.le_of_ble_eq_true rfl) hob2 (by omega) ct2 (fun v2 h2 e3 => ?_)
  obtain ⟨e4, I2⟩ := e3
  subst e4
  refine x_same (pc := 807) (tgt := 901) dL_law_807 (by decide) ?_
  exact hq _ I2

set_option maxRecDepth 4000 in
theorem lc_kind {G : GL} {d p N : Nat} {hp : HP} (I : INV p N hp) {i : Nat} (hi : (i : Int) + 6 ≤ ((G.2.2.2.2.2 0).1 : Nat)) (hfr : ∀ j, -2147483648 ≤ (G.2.2.2.2.2 0).2 j ∧ (G.2.2.2.2.2 0).2 j < 2147483648) {Q : Option AV → HP → Nat → Prop} (hq : ∀ h, INV p N h → Ex G (d + 41) 0 0 mL_law 901 [vr 1000000, vr 0, vr 92, vi i] [] h 615 Q) : Ex G (d + 41) 0 0 mL_law 812 [vr 1000000, vr 0, vr 92, vi i] [] hp 615 Q := by
  have hob : isob hp 0 6 := by
    obtain ⟨-, -, S, T, W, Sm, Tm, c, -⟩ := I
    exact c.1.1.ob
  refine Ex.glob (fun hgl => ?_)
  refine x_aload_n (pc := 812) dL_law_812 rfl ?_
  refine x_aload_n (pc := 813) dL_law_813 rfl ?_
  refine x_iload_n (pc := 814) dL_law_814 rfl ?_
  refine x_iconst (pc := 815) dL_law_815 ?_
  refine x_iadd (pc := 816) dL_law_816 ?_
  refine x_ialdX (pc := 817) (j := 0) dL_law_817 (by omega) (hgl 0 (by omega)) (by omega) (by omega) ?_
  refine x_aload_n (pc := 818) dL_law_818 rfl ?_
  refine x_iload_n (pc := 819) dL_law_819 rfl ?_
  refine x_iconst (pc := 820) dL_law_820 ?_
  refine x_iadd (pc := 821) dL_law_821 ?_
  refine x_ialdX (pc := 822) (j := 0) dL_law_822 (by omega) (hgl 0 (by omega)) (by omega) (by omega) ?_
  refine x_y2 (pc := 823) dL_law_823 wX6_kind iX6_kind kL_93 (by decide) rfl (Nat.le_of_ble_eq_true rfl) hob (by omega) (cs_kind (D := d) (Nat.le_refl 615) I (hfr _) (hfr _)) (fun v1 h1 e1 => ?_)
  obtain ⟨w, e2, hob2, ct2⟩ := e1
  subst e2
  refine Ex.glob (fun hgl2 => ?_)
  refine x_aload_n (pc := 826) dL_law_826 rfl ?_
  refine x_aload_n (pc := 827) dL_law_827 rfl ?_
  refine x_iload_n (pc := 828) dL_law_828 rfl ?_
  refine x_iconst (pc := 829) dL_law_829 ?_
  refine x_iadd (pc := 830) dL_law_830 ?_
  refine x_ialdX (pc := 831) (j := 0) dL_law_831 (by omega) (hgl2 0 (by omega)) (by omega) (by omega) ?_
  refine x_aload_n (pc := 832) dL_law_832 rfl ?_
  refine x_iload_n (pc := 833) dL_law_833 rfl ?_
  refine x_iconst (pc := 834) dL_law_834 ?_
  refine x_iadd (pc := 835) dL_law_835 ?_
  refine x_ialdX (pc := 836) (j := 0) dL_law_836 (by omega) (hgl2 0 (by omega)) (by omega) (by omega) ?_
  refine x_y2 (pc := 837) dL_law_837 wX7_kind iX7_kind kL_96 (by decide) rfl (Nat.le_of_ble_eq_true rfl) hob2 (by omega) ct2 (fun v2 h2 e3 => ?_)
  obtain ⟨e4, I2⟩ := e3
  subst e4
  refine x_same (pc := 840) (tgt := 901) dL_law_840 (by decide) ?_
  exact hq _ I2

set_option maxRecDepth 4000 in
theorem lc_roots {G : GL} {d p N : Nat} {hp : HP} (I : INV p N hp) {i : Nat} (hi : (i : Int) + 6 ≤ ((G.2.2.2.2.2 0).1 : Nat)) (hfr : ∀ j, -2147483648 ≤ (G.2.2.2.2.2 0).2 j ∧ (G.2.2.2.2.2 0).2 j < 2147483648) {Q : Option AV → HP → Nat → Prop} (hq : ∀ h, INV p N h → Ex G (d + 41) 0 0 mL_law 901 [vr 1000000, vr 0, vr 92, vi i] [] h 615 Q) : Ex G (d + 41) 0 0 mL_law 845 [vr 1000000, vr 0, vr 92, vi i] [] hp 615 Q := by
  have hob : isob hp 0 6 := by
    obtain ⟨-, -, S, T, W, Sm, Tm, c, -⟩ := I
    exact c.1.1.ob
  refine Ex.glob (fun hgl => ?_)
  refine x_aload_n (pc := 845) dL_law_845 rfl ?_
  refine x_aload_n (pc := 846) dL_law_846 rfl ?_
  refine x_iload_n (pc := 847) dL_law_847 rfl ?_
  refine x_iconst (pc := 848) dL_law_848 ?_
  refine x_iadd (pc := 849) dL_law_849 ?_
  refine x_ialdX (pc := 850) (j := 0) dL_law_850 (by omega) (hgl 0 (by omega)) (by omega) (by omega) ?_
  refine x_aload_n (pc := 851) dL_law_851 rfl ?_
  refine x_iload_n (pc := 852) dL_law_852 rfl ?_
  refine x_iconst (pc := 853) dL_law_853 ?_
  refine x_iadd (pc := 854) dL_law_854 ?_
  refine x_ialdX (pc := 855) (j := 0) dL_law_855 (by omega) (hgl 0 (by omega)) (by omega) (by omega) ?_
  refine x_y2 (pc := 856) dL_law_856 wX6_roots iX6_roots kL_97 (by decide) rfl (Nat.le_of_ble_eq_true rfl) hob (by omega) (cs_roots (D := d) (Nat.le_refl 615) I (hfr _) (hfr _)) (fun v1 h1 e1 => ?_)
  obtain ⟨w, e2, hob2, ct2⟩ := e1
  subst e2
  refine Ex.glob (fun hgl2 => ?_)
  refine x_aload_n (pc := 859) dL_law_859 rfl ?_
  refine x_aload_n (pc := 860) dL_law_860 rfl ?_
  refine x_iload_n (pc := 861) dL_law_861 rfl ?_
  refine x_iconst (pc := 862) dL_law_862 ?_
  refine x_iadd (pc := 863) dL_law_863 ?_
  refine x_ialdX (pc := 864) (j := 0) dL_law_864 (by omega) (hgl2 0 (by omega)) (by omega) (by omega) ?_
  refine x_aload_n (pc := 865) dL_law_865 rfl ?_
  refine x_iload_n (pc := 866) dL_law_866 rfl ?_
  refine x_iconst (pc := 867) dL_law_867 ?_
  refine x_iadd (pc := 868) dL_law_868 ?_
  refine x_ialdX (pc := 869) (j := 0) dL_law_869 (by omega) (hgl2 0 (by omega)) (by omega) (by omega) ?_
  refine x_y2 (pc := 870) dL_law_870 wX7_roots iX7_roots kL_100 (by decide) rfl (Nat.le_of_ble_eq_true rfl) hob2 (by omega) ct2 (fun v2 h2 e3 => ?_)
  obtain ⟨e4, I2⟩ := e3
  subst e4
  refine x_same (pc := 873) (tgt := 901) dL_law_873 (by decide) ?_
  exact hq _ I2

set_option maxRecDepth 4000 in
theorem lc_count {G : GL} {d p N : Nat} {hp : HP} (I : INV p N hp) {i : Nat} (hi : (i : Int) + 6 ≤ ((G.2.2.2.2.2 0).1 : Nat)) (hfr : ∀ j, -2147483648 ≤ (G.2.2.2.2.2 0).2 j ∧ (G.2.2.2.2.2 0).2 j < 2147483648) {Q : Option AV → HP → Nat → Prop} (hq : ∀ h, INV p N h → Ex G (d + 41) 0 0 mL_law 901 [vr 1000000, vr 0, vr 92, vi i] [] h 615 Q) : Ex G (d + 41) 0 0 mL_law 878 [vr 1000000, vr 0, vr 92, vi i] [] hp 615 Q := by
  have hob : isob hp 0 6 := by
    obtain ⟨-, -, S, T, W, Sm, Tm, c, -⟩ := I
    exact c.1.1.ob
  refine Ex.glob (fun hgl => ?_)
  refine x_aload_n (pc := 878) dL_law_878 rfl ?_
  refine x_aload_n (pc := 879) dL_law_879 rfl ?_
  refine x_iload_n (pc := 880) dL_law_880 rfl ?_
  refine x_iconst (pc := 881) dL_law_881 ?_
  refine x_iadd (pc := 882) dL_law_882 ?_
  refine x_ialdX (pc := 883) (j := 0) dL_law_883 (by omega) (hgl 0 (by omega)) (by omega) (by omega) ?_
  refine x_y1 (pc := 884) dL_law_884 wX6_count iX6_count kL_101 (by decide) rfl (Nat.le_of_ble_eq_true rfl) hob (by omega) (cs_count (D := d) (Nat.le_refl 615) I (hfr _)) (fun v1 h1 e1 => ?_)
  obtain ⟨w, e2, hob2, ct2⟩ := e1
  subst e2
  refine Ex.glob (fun hgl2 => ?_)
  refine x_aload_n (pc := 887) dL_law_887 rfl ?_
  refine x_aload_n (pc := 888) dL_law_888 rfl ?_
  refine x_iload_n (pc := 889) dL_law_889 rfl ?_
  refine x_iconst (pc := 890) dL_law_890 ?_
  refine x_iadd (pc := 891) dL_law_891 ?_
  refine x_ialdX (pc := 892) (j := 0) dL_law_892 (by omega) (hgl2 0 (by omega)) (by omega) (by omega) ?_
  refine x_y1 (pc := 893) dL_law_893 wX7_count iX7_count kL_104 (by decide) rfl (Nat.le_of_ble_eq_true rfl) hob2 (by omega) ct2 (fun v2 h2 e3 => ?_)
  obtain ⟨e4, I2⟩ := e3
  subst e4
  refine x_same (pc := 896) (tgt := 901) dL_law_896 (by decide) ?_
  exact hq _ I2

set_option maxRecDepth 4000 in
theorem k_law {G : GL} {d p N : Nat} (hL : (G.2.2.2.2.2 0).1 ≤ 3074) (hfr : ∀ j, -2147483648 ≤ (G.2.2.2.2.2 0).2 j ∧ (G.2.2.2.2.2 0).2 j < 2147483648) {Q : Option AV → HP → Nat → Prop} (hq : ∀ h, Q (some (vi 1)) h 615) :
    ∀ q, q ≤ (G.2.2.2.2.2 0).1 → ∀ hp, INV p N hp → Ex G (d + 41) 0 0 mL_law 38 [vr 1000000, vr 0, vr 92, vi (2 + 6 * q : Nat)] [] hp 615 Q := by
  refine down (fun hp I => ?_) (fun q hq1 ih hp I => ?_)
  · refine Ex.glob (fun hgl => ?_)
    refine x_iload_n (pc := 38) dL_law_38 rfl ?_
    refine x_aload_n (pc := 39) dL_law_39 rfl ?_
    refine x_alenX (pc := 40) (j := 0) dL_law_40 (by omega) (hgl 0 (by omega)) ?_
    refine x_bipush (pc := 41) dL_law_41 (by decide) ?_
    refine x_isub (pc := 43) dL_law_43 ?_
    refine x_icmp_gt (pc := 44) (tgt := 907) dL_law_44 (by decide) (by omega) (by omega) (fun c44 => ?_) (fun c44 => ?_)
    · refine x_iconst (pc := 907) dL_law_907 ?_
      refine x_zret (pc := 908) dL_law_908 rfl (Or.inr rfl) (hq _)
    · exact absurd c44 (by omega)
  · have nx : ∀ h, INV p N h → Ex G (d + 41) 0 0 mL_law 901 [vr 1000000, vr 0, vr 92, vi (2 + 6 * q : Nat)] [] h 615 Q := fun h I2 => by
      refine x_iinc (pc := 901) dL_law_901 rfl (by decide) rfl ?_
      show Ex _ _ _ _ _ _ [_, _, _, _] _ _ _ _
      refine x_goto (pc := 904) (tgt := 38) dL_law_904 (by decide) ?_
      exact ih h I2
    refine Ex.glob (fun hgl => ?_)
    refine x_iload_n (pc := 38) dL_law_38 rfl ?_
    refine x_aload_n (pc := 39) dL_law_39 rfl ?_
    refine x_alenX (pc := 40) (j := 0) dL_law_40 (by omega) (hgl 0 (by omega)) ?_
    refine x_bipush (pc := 41) dL_law_41 (by decide) ?_
    refine x_isub (pc := 43) dL_law_43 ?_
    refine x_icmp_gt (pc := 44) (tgt := 907) dL_law_44 (by decide) (by omega) (by omega) (fun c44 => ?_) (fun c44 => ?_)
    · refine x_iconst (pc := 907) dL_law_907 ?_
      refine x_zret (pc := 908) dL_law_908 rfl (Or.inr rfl) (hq _)
    · refine x_aload_n (pc := 47) dL_law_47 rfl ?_
      refine x_iload_n (pc := 48) dL_law_48 rfl ?_
      refine x_ialdX (pc := 49) (j := 0) dL_law_49 (by omega) (hgl 0 (by omega)) (by omega) (by omega) ?_
      refine x_bipush (pc := 50) dL_law_50 (by decide) ?_
      refine x_iand 5 (pc := 52) dL_law_52 (by decide) (by decide +kernel) ?_
      have hm0 := Int.emod_nonneg ((G.2.2.2.2.2 0).2 ((2 + 6 * q : Nat) : Int).toNat) (show (2 ^ 5 : Int) ≠ 0 by decide)
      have hm1 := Int.emod_lt_of_pos ((G.2.2.2.2.2 0).2 ((2 + 6 * q : Nat) : Int).toNat) (show (0 : Int) < 2 ^ 5 by decide)
      rw [show (2 ^ 5 : Int) = 32 by decide] at hm0 hm1
      by_cases e0 : (G.2.2.2.2.2 0).2 ((2 + 6 * q : Nat) : Int).toNat % 2 ^ 5 = 0
      · rw [e0]
        exact x_tableIn (pc := 53) (tgt := 144) (off := 91) dL_law_53 (by decide) (by decide) (by decide) (by decide) (by decide) (lc_lay I (by omega) hfr (fun h I2 => nx h I2))
      by_cases e1 : (G.2.2.2.2.2 0).2 ((2 + 6 * q : Nat) : Int).toNat % 2 ^ 5 = 1
      · rw [e1]
        exact x_tableIn (pc := 53) (tgt := 187) (off := 134) dL_law_53 (by decide) (by decide) (by decide) (by decide) (by decide) (lc_set I (by omega) hfr (fun h I2 => nx h I2))
      by_cases e2 : (G.2.2.2.2.2 0).2 ((2 + 6 * q : Nat) : Int).toNat % 2 ^ 5 = 2
      · rw [e2]
        exact x_tableIn (pc := 53) (tgt := 250) (off := 197) dL_law_53 (by decide) (by decide) (by decide) (by decide) (by decide) (lc_get I (by omega) hfr (fun h I2 => nx h I2))
      by_cases e3 : (G.2.2.2.2.2 0).2 ((2 + 6 * q : Nat) : Int).toNat % 2 ^ 5 = 3
      · rw [e3]
        exact x_tableIn (pc := 53) (tgt := 303) (off := 250) dL_law_53 (by decide) (by decide) (by decide) (by decide) (by decide) (lc_size I (by omega) hfr (fun h I2 => nx h I2))
      by_cases e4 : (G.2.2.2.2.2 0).2 ((2 + 6 * q : Nat) : Int).toNat % 2 ^ 5 = 4
      · rw [e4]
        exact x_tableIn (pc := 53) (tgt := 336) (off := 283) dL_law_53 (by decide) (by decide) (by decide) (by decide) (by decide) (lc_ways I (by omega) hfr (fun h I2 => nx h I2))
      by_cases e5 : (G.2.2.2.2.2 0).2 ((2 + 6 * q : Nat) : Int).toNat % 2 ^ 5 = 5
      · rw [e5]
        exact x_tableIn (pc := 53) (tgt := 359) (off := 306) dL_law_53 (by decide) (by decide) (by decide) (by decide) (by decide) (lc_span I (by omega) hfr (fun h I2 => nx h I2))
      by_cases e6 : (G.2.2.2.2.2 0).2 ((2 + 6 * q : Nat) : Int).toNat % 2 ^ 5 = 6
      · rw [e6]
        exact x_tableIn (pc := 53) (tgt := 412) (off := 359) dL_law_53 (by decide) (by decide) (by decide) (by decide) (by decide) (lc_beside I (by omega) hfr (fun h I2 => nx h I2))
      by_cases e7 : (G.2.2.2.2.2 0).2 ((2 + 6 * q : Nat) : Int).toNat % 2 ^ 5 = 7
      · rw [e7]
        exact x_tableIn (pc := 53) (tgt := 455) (off := 402) dL_law_53 (by decide) (by decide) (by decide) (by decide) (by decide) (lc_mix I (by omega) hfr (fun h I2 => nx h I2))
      by_cases e8 : (G.2.2.2.2.2 0).2 ((2 + 6 * q : Nat) : Int).toNat % 2 ^ 5 = 8
      · rw [e8]
        exact x_tableIn (pc := 53) (tgt := 518) (off := 465) dL_law_53 (by decide) (by decide) (by decide) (by decide) (by decide) (lc_turn I (by omega) hfr (fun h I2 => nx h I2))
      by_cases e9 : (G.2.2.2.2.2 0).2 ((2 + 6 * q : Nat) : Int).toNat % 2 ^ 5 = 9
      · rw [e9]
        exact x_tableIn (pc := 53) (tgt := 561) (off := 508) dL_law_53 (by decide) (by decide) (by decide) (by decide) (by decide) (lc_maps I (by omega) hfr (fun h I2 => nx h I2))
      by_cases e10 : (G.2.2.2.2.2 0).2 ((2 + 6 * q : Nat) : Int).toNat % 2 ^ 5 = 10
      · rw [e10]
        exact x_tableIn (pc := 53) (tgt := 594) (off := 541) dL_law_53 (by decide) (by decide) (by decide) (by decide) (by decide) (lc_bends I (by omega) hfr (fun h I2 => nx h I2))
      by_cases e11 : (G.2.2.2.2.2 0).2 ((2 + 6 * q : Nat) : Int).toNat % 2 ^ 5 = 11
      · rw [e11]
        exact x_tableIn (pc := 53) (tgt := 627) (off := 574) dL_law_53 (by decide) (by decide) (by decide) (by decide) (by decide) (lc_form I (by omega) hfr (fun h I2 => nx h I2))
      by_cases e12 : (G.2.2.2.2.2 0).2 ((2 + 6 * q : Nat) : Int).toNat % 2 ^ 5 = 12
      · rw [e12]
        exact x_tableIn (pc := 53) (tgt := 660) (off := 607) dL_law_53 (by decide) (by decide) (by decide) (by decide) (by decide) (lc_spans I (by omega) hfr (fun h I2 => nx h I2))
      by_cases e13 : (G.2.2.2.2.2 0).2 ((2 + 6 * q : Nat) : Int).toNat % 2 ^ 5 = 13
      · rw [e13]
        exact x_tableIn (pc := 53) (tgt := 703) (off := 650) dL_law_53 (by decide) (by decide) (by decide) (by decide) (by decide) (lc_like I (by omega) hfr (fun h I2 => nx h I2))
      by_cases e14 : (G.2.2.2.2.2 0).2 ((2 + 6 * q : Nat) : Int).toNat % 2 ^ 5 = 14
      · rw [e14]
        exact x_tableIn (pc := 53) (tgt := 736) (off := 683) dL_law_53 (by decide) (by decide) (by decide) (by decide) (by decide) (lc_rank I (by omega) hfr (fun h I2 => nx h I2))
      by_cases e15 : (G.2.2.2.2.2 0).2 ((2 + 6 * q : Nat) : Int).toNat % 2 ^ 5 = 15
      · rw [e15]
        exact x_tableIn (pc := 53) (tgt := 779) (off := 726) dL_law_53 (by decide) (by decide) (by decide) (by decide) (by decide) (lc_far I (by omega) hfr (fun h I2 => nx h I2))
      by_cases e16 : (G.2.2.2.2.2 0).2 ((2 + 6 * q : Nat) : Int).toNat % 2 ^ 5 = 16
      · rw [e16]
        exact x_tableIn (pc := 53) (tgt := 812) (off := 759) dL_law_53 (by decide) (by decide) (by decide) (by decide) (by decide) (lc_kind I (by omega) hfr (fun h I2 => nx h I2))
      by_cases e17 : (G.2.2.2.2.2 0).2 ((2 + 6 * q : Nat) : Int).toNat % 2 ^ 5 = 17
      · rw [e17]
        exact x_tableIn (pc := 53) (tgt := 845) (off := 792) dL_law_53 (by decide) (by decide) (by decide) (by decide) (by decide) (lc_roots I (by omega) hfr (fun h I2 => nx h I2))
      by_cases e18 : (G.2.2.2.2.2 0).2 ((2 + 6 * q : Nat) : Int).toNat % 2 ^ 5 = 18
      · rw [e18]
        exact x_tableIn (pc := 53) (tgt := 878) (off := 825) dL_law_53 (by decide) (by decide) (by decide) (by decide) (by decide) (lc_count I (by omega) hfr (fun h I2 => nx h I2))
      exact x_tableOut (pc := 53) (tgt := 901) dL_law_53 (by rw [show (2 ^ 5 : Int) = 32 by decide]; omega) (by rw [show (2 ^ 5 : Int) = 32 by decide]; rw [show (2 ^ 5 : Int) = 32 by decide] at e0 e1 e2 e3 e4 e5 e6 e7 e8 e9 e10 e11 e12 e13 e14 e15 e16 e17 e18; omega) (by decide) (nx hp I)
