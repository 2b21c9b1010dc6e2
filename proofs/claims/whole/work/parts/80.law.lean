set_option maxRecDepth 20000 in
theorem lc_letter {g1 g2 g3 : ClassId} {L : Nat} {xs : Nat → Int32} {n m i : zP} {cf : Nat → Int32} {ca : Nat → Nat → Int32} {f : Nat → Int32} {ar : Nat → Nat → Int32} {a : Nat} (hI : Inv n i cf ca f ar) (ha : a + 4 ≤ L) (hL : L ≤ 2048) (k : ∀ (n m i : zP) (cf : Nat → Int32) (ca : Nat → Nat → Int32) (f : Nat → Int32) (ar : Nat → Nat → Int32), Inv n i cf ca f ar → R (g1, g2, g3, L, xs) mL_law 925 [(0, .ref 4000), (1, .ref 0), (2, .ref 100), (3, .int (nI a))] [] (hC (g1, g2, g3, L, xs) n m i cf ca, hM (g1, g2, g3, L, xs) f ar) (fun r _ => r = some (.int 1))) : R (g1, g2, g3, L, xs) mL_law 172 [(0, .ref 4000), (1, .ref 0), (2, .ref 100), (3, .int (nI a))] [] (hC (g1, g2, g3, L, xs) n m i cf ca, hM (g1, g2, g3, L, xs) f ar) (fun r _ => r = some (.int 1)) := by
  refine R_aload_n 173 dL_law_172 rfl rfl ?_
  refine R_aload_n 174 dL_law_173 rfl rfl ?_
  refine R_iload_n 175 dL_law_174 rfl rfl ?_
  refine R_iconst 176 dL_law_175 rfl (v := 1) (by decide) ?_
  refine R_iadd 177 dL_law_176 rfl ?_
  refine R_iro 178 dL_law_177 rfl rfl (la_in (k := 1) ha hL (by decide)) ?_
  refine R_callVi 181 eX6_letter_0 dL_law_178 rfl kX6_letter lL_13 rfl rfl rfl rfl rfl rfl rfl ?_
  refine R_aload_n 182 dL_law_181 rfl rfl ?_
  refine R_aload_n 183 dL_law_182 rfl rfl ?_
  refine R_iload_n 184 dL_law_183 rfl rfl ?_
  refine R_iconst 185 dL_law_184 rfl (v := 1) (by decide) ?_
  refine R_iadd 186 dL_law_185 rfl ?_
  refine R_iro 187 dL_law_186 rfl rfl (la_in (k := 1) ha hL (by decide)) ?_
  refine R_callVi 190 (eX7_letter (iv_17 hI)) dL_law_187 rfl kX7_letter lL_17 rfl rfl rfl rfl rfl rfl rfl ?_
  refine R_icmp_eq 193 925 dL_law_190 rfl (by decide) (fun c1 => ?_) (fun c1 => ?_)
  ·
    exact k n m i ((sX6_letter n m cf ca (xs ((nI a) + 1).toNatClampNeg)).2.1) ((sX6_letter n m cf ca (xs ((nI a) + 1).toNatClampNeg)).2.2) ((sX7_letter f ar (xs ((nI a) + 1).toNatClampNeg)).2.1) ((sX7_letter f ar (xs ((nI a) + 1).toNatClampNeg)).2.2) (pu_letter (m := m) hI _).2
  ·
    refine R_iconst 194 dL_law_193 rfl (v := 0) (by decide) ?_
    refine R_ireturn dL_law_194 rfl (by decide) ?_
    exact absurd (pu_letter (m := m) hI _).1 c1
set_option maxRecDepth 20000 in
theorem lc_parlour {g1 g2 g3 : ClassId} {L : Nat} {xs : Nat → Int32} {n m i : zP} {cf : Nat → Int32} {ca : Nat → Nat → Int32} {f : Nat → Int32} {ar : Nat → Nat → Int32} {a : Nat} (hI : Inv n i cf ca f ar) (ha : a + 4 ≤ L) (hL : L ≤ 2048) (k : ∀ (n m i : zP) (cf : Nat → Int32) (ca : Nat → Nat → Int32) (f : Nat → Int32) (ar : Nat → Nat → Int32), Inv n i cf ca f ar → R (g1, g2, g3, L, xs) mL_law 925 [(0, .ref 4000), (1, .ref 0), (2, .ref 100), (3, .int (nI a))] [] (hC (g1, g2, g3, L, xs) n m i cf ca, hM (g1, g2, g3, L, xs) f ar) (fun r _ => r = some (.int 1))) : R (g1, g2, g3, L, xs) mL_law 195 [(0, .ref 4000), (1, .ref 0), (2, .ref 100), (3, .int (nI a))] [] (hC (g1, g2, g3, L, xs) n m i cf ca, hM (g1, g2, g3, L, xs) f ar) (fun r _ => r = some (.int 1)) := by
  refine R_aload_n 196 dL_law_195 rfl rfl ?_
  refine R_callVi 199 (eX6_parlour_0 (iv_ch hI) (iv_l96 hI)) dL_law_196 rfl kX6_parlour lL_18 rfl rfl rfl rfl rfl rfl rfl ?_
  refine R_aload_n 200 dL_law_199 rfl rfl ?_
  refine R_callVi 203 (eX7_parlour (iv_17 hI) (iv_mk hI) (iv_tz hI)) dL_law_200 rfl kX7_parlour lL_22 rfl rfl rfl rfl rfl rfl rfl ?_
  refine R_icmp_eq 206 925 dL_law_203 rfl (by decide) (fun c1 => ?_) (fun c1 => ?_)
  ·
    exact k ((sX6_parlour n m cf ca).2.1) ((sX6_parlour n m cf ca).2.2.1) i ((sX6_parlour n m cf ca).2.2.2.1) ((sX6_parlour n m cf ca).2.2.2.2) ((sX7_parlour f ar).2.1) ((sX7_parlour f ar).2.2) (pu_parlour (m := m) hI).2
  ·
    refine R_iconst 207 dL_law_206 rfl (v := 0) (by decide) ?_
    refine R_ireturn dL_law_207 rfl (by decide) ?_
    exact absurd (pu_parlour (m := m) hI).1 c1
set_option maxRecDepth 20000 in
theorem lc_person {g1 g2 g3 : ClassId} {L : Nat} {xs : Nat → Int32} {n m i : zP} {cf : Nat → Int32} {ca : Nat → Nat → Int32} {f : Nat → Int32} {ar : Nat → Nat → Int32} {a : Nat} (hI : Inv n i cf ca f ar) (ha : a + 4 ≤ L) (hL : L ≤ 2048) (k : ∀ (n m i : zP) (cf : Nat → Int32) (ca : Nat → Nat → Int32) (f : Nat → Int32) (ar : Nat → Nat → Int32), Inv n i cf ca f ar → R (g1, g2, g3, L, xs) mL_law 925 [(0, .ref 4000), (1, .ref 0), (2, .ref 100), (3, .int (nI a))] [] (hC (g1, g2, g3, L, xs) n m i cf ca, hM (g1, g2, g3, L, xs) f ar) (fun r _ => r = some (.int 1))) : R (g1, g2, g3, L, xs) mL_law 208 [(0, .ref 4000), (1, .ref 0), (2, .ref 100), (3, .int (nI a))] [] (hC (g1, g2, g3, L, xs) n m i cf ca, hM (g1, g2, g3, L, xs) f ar) (fun r _ => r = some (.int 1)) := by
  refine R_aload_n 209 dL_law_208 rfl rfl ?_
  refine R_aload_n 210 dL_law_209 rfl rfl ?_
  refine R_iload_n 211 dL_law_210 rfl rfl ?_
  refine R_iconst 212 dL_law_211 rfl (v := 1) (by decide) ?_
  refine R_iadd 213 dL_law_212 rfl ?_
  refine R_iro 214 dL_law_213 rfl rfl (la_in (k := 1) ha hL (by decide)) ?_
  refine R_aload_n 215 dL_law_214 rfl rfl ?_
  refine R_iload_n 216 dL_law_215 rfl rfl ?_
  refine R_iconst 217 dL_law_216 rfl (v := 2) (by decide) ?_
  refine R_iadd 218 dL_law_217 rfl ?_
  refine R_iro 219 dL_law_218 rfl rfl (la_in (k := 2) ha hL (by decide)) ?_
  refine R_callVi 222 eX6_person_0 dL_law_219 rfl kX6_person lL_23 rfl rfl rfl rfl rfl rfl rfl ?_
  refine R_aload_n 223 dL_law_222 rfl rfl ?_
  refine R_aload_n 224 dL_law_223 rfl rfl ?_
  refine R_iload_n 225 dL_law_224 rfl rfl ?_
  refine R_iconst 226 dL_law_225 rfl (v := 1) (by decide) ?_
  refine R_iadd 227 dL_law_226 rfl ?_
  refine R_iro 228 dL_law_227 rfl rfl (la_in (k := 1) ha hL (by decide)) ?_
  refine R_aload_n 229 dL_law_228 rfl rfl ?_
  refine R_iload_n 230 dL_law_229 rfl rfl ?_
  refine R_iconst 231 dL_law_230 rfl (v := 2) (by decide) ?_
  refine R_iadd 232 dL_law_231 rfl ?_
  refine R_iro 233 dL_law_232 rfl rfl (la_in (k := 2) ha hL (by decide)) ?_
  refine R_callVi 236 (eX7_person (iv_mk hI)) dL_law_233 rfl kX7_person lL_27 rfl rfl rfl rfl rfl rfl rfl ?_
  refine R_icmp_eq 239 925 dL_law_236 rfl (by decide) (fun c1 => ?_) (fun c1 => ?_)
  ·
    exact k n m i cf ((sX6_person n m cf ca (xs ((nI a) + 1).toNatClampNeg) (xs ((nI a) + 2).toNatClampNeg)).2) f ((sX7_person f ar (xs ((nI a) + 1).toNatClampNeg) (xs ((nI a) + 2).toNatClampNeg)).2) (pu_person (m := m) hI _ _).2
  ·
    refine R_iconst 240 dL_law_239 rfl (v := 0) (by decide) ?_
    refine R_ireturn dL_law_240 rfl (by decide) ?_
    exact absurd (pu_person (m := m) hI _ _).1 c1
set_option maxRecDepth 20000 in
theorem lc_bothers {g1 g2 g3 : ClassId} {L : Nat} {xs : Nat → Int32} {n m i : zP} {cf : Nat → Int32} {ca : Nat → Nat → Int32} {f : Nat → Int32} {ar : Nat → Nat → Int32} {a : Nat} (hI : Inv n i cf ca f ar) (ha : a + 4 ≤ L) (hL : L ≤ 2048) (k : ∀ (n m i : zP) (cf : Nat → Int32) (ca : Nat → Nat → Int32) (f : Nat → Int32) (ar : Nat → Nat → Int32), Inv n i cf ca f ar → R (g1, g2, g3, L, xs) mL_law 925 [(0, .ref 4000), (1, .ref 0), (2, .ref 100), (3, .int (nI a))] [] (hC (g1, g2, g3, L, xs) n m i cf ca, hM (g1, g2, g3, L, xs) f ar) (fun r _ => r = some (.int 1))) : R (g1, g2, g3, L, xs) mL_law 241 [(0, .ref 4000), (1, .ref 0), (2, .ref 100), (3, .int (nI a))] [] (hC (g1, g2, g3, L, xs) n m i cf ca, hM (g1, g2, g3, L, xs) f ar) (fun r _ => r = some (.int 1)) := by
  refine R_aload_n 242 dL_law_241 rfl rfl ?_
  refine R_aload_n 243 dL_law_242 rfl rfl ?_
  refine R_iload_n 244 dL_law_243 rfl rfl ?_
  refine R_iconst 245 dL_law_244 rfl (v := 1) (by decide) ?_
  refine R_iadd 246 dL_law_245 rfl ?_
  refine R_iro 247 dL_law_246 rfl rfl (la_in (k := 1) ha hL (by decide)) ?_
  refine R_aload_n 248 dL_law_247 rfl rfl ?_
  refine R_iload_n 249 dL_law_248 rfl rfl ?_
  refine R_iconst 250 dL_law_249 rfl (v := 2) (by decide) ?_
  refine R_iadd 251 dL_law_250 rfl ?_
  refine R_iro 252 dL_law_251 rfl rfl (la_in (k := 2) ha hL (by decide)) ?_
  refine R_callVi 255 eX6_bothers_0 dL_law_252 rfl kX6_bothers lL_28 rfl rfl rfl rfl rfl rfl rfl ?_
  refine R_aload_n 256 dL_law_255 rfl rfl ?_
  refine R_aload_n 257 dL_law_256 rfl rfl ?_
  refine R_iload_n 258 dL_law_257 rfl rfl ?_
  refine R_iconst 259 dL_law_258 rfl (v := 1) (by decide) ?_
  refine R_iadd 260 dL_law_259 rfl ?_
  refine R_iro 261 dL_law_260 rfl rfl (la_in (k := 1) ha hL (by decide)) ?_
  refine R_aload_n 262 dL_law_261 rfl rfl ?_
  refine R_iload_n 263 dL_law_262 rfl rfl ?_
  refine R_iconst 264 dL_law_263 rfl (v := 2) (by decide) ?_
  refine R_iadd 265 dL_law_264 rfl ?_
  refine R_iro 266 dL_law_265 rfl rfl (la_in (k := 2) ha hL (by decide)) ?_
  refine R_callVi 269 (eX7_bothers (iv_mk hI)) dL_law_266 rfl kX7_bothers lL_31 rfl rfl rfl rfl rfl rfl rfl ?_
  refine R_icmp_eq 272 925 dL_law_269 rfl (by decide) (fun c1 => ?_) (fun c1 => ?_)
  ·
    exact k n m i cf ((sX6_bothers n m cf ca (xs ((nI a) + 1).toNatClampNeg) (xs ((nI a) + 2).toNatClampNeg)).2) f ((sX7_bothers f ar (xs ((nI a) + 1).toNatClampNeg) (xs ((nI a) + 2).toNatClampNeg)).2) (pu_bothers (m := m) hI _ _).2
  ·
    refine R_iconst 273 dL_law_272 rfl (v := 0) (by decide) ?_
    refine R_ireturn dL_law_273 rfl (by decide) ?_
    exact absurd (pu_bothers (m := m) hI _ _).1 c1
set_option maxRecDepth 20000 in
theorem lc_place {g1 g2 g3 : ClassId} {L : Nat} {xs : Nat → Int32} {n m i : zP} {cf : Nat → Int32} {ca : Nat → Nat → Int32} {f : Nat → Int32} {ar : Nat → Nat → Int32} {a : Nat} (hI : Inv n i cf ca f ar) (ha : a + 4 ≤ L) (hL : L ≤ 2048) (k : ∀ (n m i : zP) (cf : Nat → Int32) (ca : Nat → Nat → Int32) (f : Nat → Int32) (ar : Nat → Nat → Int32), Inv n i cf ca f ar → R (g1, g2, g3, L, xs) mL_law 925 [(0, .ref 4000), (1, .ref 0), (2, .ref 100), (3, .int (nI a))] [] (hC (g1, g2, g3, L, xs) n m i cf ca, hM (g1, g2, g3, L, xs) f ar) (fun r _ => r = some (.int 1))) : R (g1, g2, g3, L, xs) mL_law 274 [(0, .ref 4000), (1, .ref 0), (2, .ref 100), (3, .int (nI a))] [] (hC (g1, g2, g3, L, xs) n m i cf ca, hM (g1, g2, g3, L, xs) f ar) (fun r _ => r = some (.int 1)) := by
  refine R_aload_n 275 dL_law_274 rfl rfl ?_
  refine R_aload_n 276 dL_law_275 rfl rfl ?_
  refine R_iload_n 277 dL_law_276 rfl rfl ?_
  refine R_iconst 278 dL_law_277 rfl (v := 1) (by decide) ?_
  refine R_iadd 279 dL_law_278 rfl ?_
  refine R_iro 280 dL_law_279 rfl rfl (la_in (k := 1) ha hL (by decide)) ?_
  refine R_callVi 283 eX6_place_0 dL_law_280 rfl kX6_place lL_32 rfl rfl rfl rfl rfl rfl rfl ?_
  refine R_aload_n 284 dL_law_283 rfl rfl ?_
  refine R_aload_n 285 dL_law_284 rfl rfl ?_
  refine R_iload_n 286 dL_law_285 rfl rfl ?_
  refine R_iconst 287 dL_law_286 rfl (v := 1) (by decide) ?_
  refine R_iadd 288 dL_law_287 rfl ?_
  refine R_iro 289 dL_law_288 rfl rfl (la_in (k := 1) ha hL (by decide)) ?_
  refine R_callVi 292 eX7_place dL_law_289 rfl kX7_place lL_35 rfl rfl rfl rfl rfl rfl rfl ?_
  refine R_icmp_eq 295 925 dL_law_292 rfl (by decide) (fun c1 => ?_) (fun c1 => ?_)
  ·
    exact k n m i cf ((sX6_place n m cf ca (xs ((nI a) + 1).toNatClampNeg)).2) f ((sX7_place f ar (xs ((nI a) + 1).toNatClampNeg)).2) (pu_place (m := m) hI _).2
  ·
    refine R_iconst 296 dL_law_295 rfl (v := 0) (by decide) ?_
    refine R_ireturn dL_law_296 rfl (by decide) ?_
    exact absurd (pu_place (m := m) hI _).1 c1
set_option maxRecDepth 20000 in
theorem lc_set {g1 g2 g3 : ClassId} {L : Nat} {xs : Nat → Int32} {n m i : zP} {cf : Nat → Int32} {ca : Nat → Nat → Int32} {f : Nat → Int32} {ar : Nat → Nat → Int32} {a : Nat} (hI : Inv n i cf ca f ar) (ha : a + 4 ≤ L) (hL : L ≤ 2048) (k : ∀ (n m i : zP) (cf : Nat → Int32) (ca : Nat → Nat → Int32) (f : Nat → Int32) (ar : Nat → Nat → Int32), Inv n i cf ca f ar → R (g1, g2, g3, L, xs) mL_law 925 [(0, .ref 4000), (1, .ref 0), (2, .ref 100), (3, .int (nI a))] [] (hC (g1, g2, g3, L, xs) n m i cf ca, hM (g1, g2, g3, L, xs) f ar) (fun r _ => r = some (.int 1))) : R (g1, g2, g3, L, xs) mL_law 297 [(0, .ref 4000), (1, .ref 0), (2, .ref 100), (3, .int (nI a))] [] (hC (g1, g2, g3, L, xs) n m i cf ca, hM (g1, g2, g3, L, xs) f ar) (fun r _ => r = some (.int 1)) := by
  refine R_aload_n 298 dL_law_297 rfl rfl ?_
  refine R_aload_n 299 dL_law_298 rfl rfl ?_
  refine R_iload_n 300 dL_law_299 rfl rfl ?_
  refine R_iconst 301 dL_law_300 rfl (v := 1) (by decide) ?_
  refine R_iadd 302 dL_law_301 rfl ?_
  refine R_iro 303 dL_law_302 rfl rfl (la_in (k := 1) ha hL (by decide)) ?_
  refine R_aload_n 304 dL_law_303 rfl rfl ?_
  refine R_iload_n 305 dL_law_304 rfl rfl ?_
  refine R_iconst 306 dL_law_305 rfl (v := 2) (by decide) ?_
  refine R_iadd 307 dL_law_306 rfl ?_
  refine R_iro 308 dL_law_307 rfl rfl (la_in (k := 2) ha hL (by decide)) ?_
  refine R_callVi 311 eX6_set_0 dL_law_308 rfl kX6_set lL_36 rfl rfl rfl rfl rfl rfl rfl ?_
  refine R_aload_n 312 dL_law_311 rfl rfl ?_
  refine R_aload_n 313 dL_law_312 rfl rfl ?_
  refine R_iload_n 314 dL_law_313 rfl rfl ?_
  refine R_iconst 315 dL_law_314 rfl (v := 1) (by decide) ?_
  refine R_iadd 316 dL_law_315 rfl ?_
  refine R_iro 317 dL_law_316 rfl rfl (la_in (k := 1) ha hL (by decide)) ?_
  refine R_aload_n 318 dL_law_317 rfl rfl ?_
  refine R_iload_n 319 dL_law_318 rfl rfl ?_
  refine R_iconst 320 dL_law_319 rfl (v := 2) (by decide) ?_
  refine R_iadd 321 dL_law_320 rfl ?_
  refine R_iro 322 dL_law_321 rfl rfl (la_in (k := 2) ha hL (by decide)) ?_
  refine R_callVi 325 eX7_set dL_law_322 rfl kX7_set lL_39 rfl rfl rfl rfl rfl rfl rfl ?_
  refine R_icmp_eq 328 925 dL_law_325 rfl (by decide) (fun c1 => ?_) (fun c1 => ?_)
  ·
    exact k ((sX6_set n m cf ca (xs ((nI a) + 1).toNatClampNeg) (xs ((nI a) + 2).toNatClampNeg)).2.1) m i cf ((sX6_set n m cf ca (xs ((nI a) + 1).toNatClampNeg) (xs ((nI a) + 2).toNatClampNeg)).2.2) f ((sX7_set f ar (xs ((nI a) + 1).toNatClampNeg) (xs ((nI a) + 2).toNatClampNeg)).2) (pu_set (m := m) hI _ _).2
  ·
    refine R_iconst 329 dL_law_328 rfl (v := 0) (by decide) ?_
    refine R_ireturn dL_law_329 rfl (by decide) ?_
    exact absurd (pu_set (m := m) hI _ _).1 c1
set_option maxRecDepth 20000 in
theorem lc_kind {g1 g2 g3 : ClassId} {L : Nat} {xs : Nat → Int32} {n m i : zP} {cf : Nat → Int32} {ca : Nat → Nat → Int32} {f : Nat → Int32} {ar : Nat → Nat → Int32} {a : Nat} (hI : Inv n i cf ca f ar) (ha : a + 4 ≤ L) (hL : L ≤ 2048) (k : ∀ (n m i : zP) (cf : Nat → Int32) (ca : Nat → Nat → Int32) (f : Nat → Int32) (ar : Nat → Nat → Int32), Inv n i cf ca f ar → R (g1, g2, g3, L, xs) mL_law 925 [(0, .ref 4000), (1, .ref 0), (2, .ref 100), (3, .int (nI a))] [] (hC (g1, g2, g3, L, xs) n m i cf ca, hM (g1, g2, g3, L, xs) f ar) (fun r _ => r = some (.int 1))) : R (g1, g2, g3, L, xs) mL_law 330 [(0, .ref 4000), (1, .ref 0), (2, .ref 100), (3, .int (nI a))] [] (hC (g1, g2, g3, L, xs) n m i cf ca, hM (g1, g2, g3, L, xs) f ar) (fun r _ => r = some (.int 1)) := by
  refine R_aload_n 331 dL_law_330 rfl rfl ?_
  refine R_aload_n 332 dL_law_331 rfl rfl ?_
  refine R_iload_n 333 dL_law_332 rfl rfl ?_
  refine R_iconst 334 dL_law_333 rfl (v := 1) (by decide) ?_
  refine R_iadd 335 dL_law_334 rfl ?_
  refine R_iro 336 dL_law_335 rfl rfl (la_in (k := 1) ha hL (by decide)) ?_
  refine R_aload_n 337 dL_law_336 rfl rfl ?_
  refine R_iload_n 338 dL_law_337 rfl rfl ?_
  refine R_iconst 339 dL_law_338 rfl (v := 2) (by decide) ?_
  refine R_iadd 340 dL_law_339 rfl ?_
  refine R_iro 341 dL_law_340 rfl rfl (la_in (k := 2) ha hL (by decide)) ?_
  refine R_callVi 344 eX6_kind_0 dL_law_341 rfl kX6_kind lL_40 rfl rfl rfl rfl rfl rfl rfl ?_
  refine R_aload_n 345 dL_law_344 rfl rfl ?_
  refine R_aload_n 346 dL_law_345 rfl rfl ?_
  refine R_iload_n 347 dL_law_346 rfl rfl ?_
  refine R_iconst 348 dL_law_347 rfl (v := 1) (by decide) ?_
  refine R_iadd 349 dL_law_348 rfl ?_
  refine R_iro 350 dL_law_349 rfl rfl (la_in (k := 1) ha hL (by decide)) ?_
  refine R_aload_n 351 dL_law_350 rfl rfl ?_
  refine R_iload_n 352 dL_law_351 rfl rfl ?_
  refine R_iconst 353 dL_law_352 rfl (v := 2) (by decide) ?_
  refine R_iadd 354 dL_law_353 rfl ?_
  refine R_iro 355 dL_law_354 rfl rfl (la_in (k := 2) ha hL (by decide)) ?_
  refine R_callVi 358 eX7_kind dL_law_355 rfl kX7_kind lL_43 rfl rfl rfl rfl rfl rfl rfl ?_
  refine R_icmp_eq 361 925 dL_law_358 rfl (by decide) (fun c1 => ?_) (fun c1 => ?_)
  ·
    exact k ((sX6_kind n m cf ca (xs ((nI a) + 1).toNatClampNeg) (xs ((nI a) + 2).toNatClampNeg)).2.1) m i cf ((sX6_kind n m cf ca (xs ((nI a) + 1).toNatClampNeg) (xs ((nI a) + 2).toNatClampNeg)).2.2) ((sX7_kind f ar (xs ((nI a) + 1).toNatClampNeg) (xs ((nI a) + 2).toNatClampNeg)).2.1) ((sX7_kind f ar (xs ((nI a) + 1).toNatClampNeg) (xs ((nI a) + 2).toNatClampNeg)).2.2) (pu_kind (m := m) hI _ _).2
  ·
    refine R_iconst 362 dL_law_361 rfl (v := 0) (by decide) ?_
    refine R_ireturn dL_law_362 rfl (by decide) ?_
    exact absurd (pu_kind (m := m) hI _ _).1 c1
set_option maxRecDepth 20000 in
theorem lc_turn {g1 g2 g3 : ClassId} {L : Nat} {xs : Nat → Int32} {n m i : zP} {cf : Nat → Int32} {ca : Nat → Nat → Int32} {f : Nat → Int32} {ar : Nat → Nat → Int32} {a : Nat} (hI : Inv n i cf ca f ar) (ha : a + 4 ≤ L) (hL : L ≤ 2048) (k : ∀ (n m i : zP) (cf : Nat → Int32) (ca : Nat → Nat → Int32) (f : Nat → Int32) (ar : Nat → Nat → Int32), Inv n i cf ca f ar → R (g1, g2, g3, L, xs) mL_law 925 [(0, .ref 4000), (1, .ref 0), (2, .ref 100), (3, .int (nI a))] [] (hC (g1, g2, g3, L, xs) n m i cf ca, hM (g1, g2, g3, L, xs) f ar) (fun r _ => r = some (.int 1))) : R (g1, g2, g3, L, xs) mL_law 363 [(0, .ref 4000), (1, .ref 0), (2, .ref 100), (3, .int (nI a))] [] (hC (g1, g2, g3, L, xs) n m i cf ca, hM (g1, g2, g3, L, xs) f ar) (fun r _ => r = some (.int 1)) := by
  refine R_aload_n 364 dL_law_363 rfl rfl ?_
  refine R_aload_n 365 dL_law_364 rfl rfl ?_
  refine R_iload_n 366 dL_law_365 rfl rfl ?_
  refine R_iconst 367 dL_law_366 rfl (v := 1) (by decide) ?_
  refine R_iadd 368 dL_law_367 rfl ?_
  refine R_iro 369 dL_law_368 rfl rfl (la_in (k := 1) ha hL (by decide)) ?_
  refine R_callVi 372 eX6_turn_0 dL_law_369 rfl kX6_turn lL_44 rfl rfl rfl rfl rfl rfl rfl ?_
  refine R_aload_n 373 dL_law_372 rfl rfl ?_
  refine R_aload_n 374 dL_law_373 rfl rfl ?_
  refine R_iload_n 375 dL_law_374 rfl rfl ?_
  refine R_iconst 376 dL_law_375 rfl (v := 1) (by decide) ?_
  refine R_iadd 377 dL_law_376 rfl ?_
  refine R_iro 378 dL_law_377 rfl rfl (la_in (k := 1) ha hL (by decide)) ?_
  refine R_callVi 381 (eX7_turn (iv_mk hI)) dL_law_378 rfl kX7_turn lL_47 rfl rfl rfl rfl rfl rfl rfl ?_
  refine R_icmp_eq 384 925 dL_law_381 rfl (by decide) (fun c1 => ?_) (fun c1 => ?_)
  ·
    exact k ((sX6_turn n m cf ca (xs ((nI a) + 1).toNatClampNeg)).2.1) m i cf ((sX6_turn n m cf ca (xs ((nI a) + 1).toNatClampNeg)).2.2) ((sX7_turn f ar (xs ((nI a) + 1).toNatClampNeg)).2.1) ((sX7_turn f ar (xs ((nI a) + 1).toNatClampNeg)).2.2) (pu_turn (m := m) hI _).2
  ·
    refine R_iconst 385 dL_law_384 rfl (v := 0) (by decide) ?_
    refine R_ireturn dL_law_385 rfl (by decide) ?_
    exact absurd (pu_turn (m := m) hI _).1 c1
set_option maxRecDepth 20000 in
theorem lc_drifts {g1 g2 g3 : ClassId} {L : Nat} {xs : Nat → Int32} {n m i : zP} {cf : Nat → Int32} {ca : Nat → Nat → Int32} {f : Nat → Int32} {ar : Nat → Nat → Int32} {a : Nat} (hI : Inv n i cf ca f ar) (ha : a + 4 ≤ L) (hL : L ≤ 2048) (k : ∀ (n m i : zP) (cf : Nat → Int32) (ca : Nat → Nat → Int32) (f : Nat → Int32) (ar : Nat → Nat → Int32), Inv n i cf ca f ar → R (g1, g2, g3, L, xs) mL_law 925 [(0, .ref 4000), (1, .ref 0), (2, .ref 100), (3, .int (nI a))] [] (hC (g1, g2, g3, L, xs) n m i cf ca, hM (g1, g2, g3, L, xs) f ar) (fun r _ => r = some (.int 1))) : R (g1, g2, g3, L, xs) mL_law 386 [(0, .ref 4000), (1, .ref 0), (2, .ref 100), (3, .int (nI a))] [] (hC (g1, g2, g3, L, xs) n m i cf ca, hM (g1, g2, g3, L, xs) f ar) (fun r _ => r = some (.int 1)) := by
  refine R_aload_n 387 dL_law_386 rfl rfl ?_
  refine R_aload_n 388 dL_law_387 rfl rfl ?_
  refine R_iload_n 389 dL_law_388 rfl rfl ?_
  refine R_iconst 390 dL_law_389 rfl (v := 1) (by decide) ?_
  refine R_iadd 391 dL_law_390 rfl ?_
  refine R_iro 392 dL_law_391 rfl rfl (la_in (k := 1) ha hL (by decide)) ?_
  refine R_callVi 395 eX6_drifts_0 dL_law_392 rfl kX6_drifts lL_48 rfl rfl rfl rfl rfl rfl rfl ?_
  refine R_aload_n 396 dL_law_395 rfl rfl ?_
  refine R_aload_n 397 dL_law_396 rfl rfl ?_
  refine R_iload_n 398 dL_law_397 rfl rfl ?_
  refine R_iconst 399 dL_law_398 rfl (v := 1) (by decide) ?_
  refine R_iadd 400 dL_law_399 rfl ?_
  refine R_iro 401 dL_law_400 rfl rfl (la_in (k := 1) ha hL (by decide)) ?_
  refine R_callVi 404 eX7_drifts dL_law_401 rfl kX7_drifts lL_51 rfl rfl rfl rfl rfl rfl rfl ?_
  refine R_icmp_eq 407 925 dL_law_404 rfl (by decide) (fun c1 => ?_) (fun c1 => ?_)
  ·
    exact k n m i cf ((sX6_drifts n m cf ca (xs ((nI a) + 1).toNatClampNeg)).2) f ((sX7_drifts f ar (xs ((nI a) + 1).toNatClampNeg)).2) (pu_drifts (m := m) hI _).2
  ·
    refine R_iconst 408 dL_law_407 rfl (v := 0) (by decide) ?_
    refine R_ireturn dL_law_408 rfl (by decide) ?_
    exact absurd (pu_drifts (m := m) hI _).1 c1
set_option maxRecDepth 20000 in
theorem lc_go {g1 g2 g3 : ClassId} {L : Nat} {xs : Nat → Int32} {n m i : zP} {cf : Nat → Int32} {ca : Nat → Nat → Int32} {f : Nat → Int32} {ar : Nat → Nat → Int32} {a : Nat} (hI : Inv n i cf ca f ar) (ha : a + 4 ≤ L) (hL : L ≤ 2048) (k : ∀ (n m i : zP) (cf : Nat → Int32) (ca : Nat → Nat → Int32) (f : Nat → Int32) (ar : Nat → Nat → Int32), Inv n i cf ca f ar → R (g1, g2, g3, L, xs) mL_law 925 [(0, .ref 4000), (1, .ref 0), (2, .ref 100), (3, .int (nI a))] [] (hC (g1, g2, g3, L, xs) n m i cf ca, hM (g1, g2, g3, L, xs) f ar) (fun r _ => r = some (.int 1))) : R (g1, g2, g3, L, xs) mL_law 409 [(0, .ref 4000), (1, .ref 0), (2, .ref 100), (3, .int (nI a))] [] (hC (g1, g2, g3, L, xs) n m i cf ca, hM (g1, g2, g3, L, xs) f ar) (fun r _ => r = some (.int 1)) := by
  refine R_aload_n 410 dL_law_409 rfl rfl ?_
  refine R_aload_n 411 dL_law_410 rfl rfl ?_
  refine R_iload_n 412 dL_law_411 rfl rfl ?_
  refine R_iconst 413 dL_law_412 rfl (v := 1) (by decide) ?_
  refine R_iadd 414 dL_law_413 rfl ?_
  refine R_iro 415 dL_law_414 rfl rfl (la_in (k := 1) ha hL (by decide)) ?_
  refine R_callVi 418 eX6_go_0 dL_law_415 rfl kX6_go lL_52 rfl rfl rfl rfl rfl rfl rfl ?_
  refine R_aload_n 419 dL_law_418 rfl rfl ?_
  refine R_aload_n 420 dL_law_419 rfl rfl ?_
  refine R_iload_n 421 dL_law_420 rfl rfl ?_
  refine R_iconst 422 dL_law_421 rfl (v := 1) (by decide) ?_
  refine R_iadd 423 dL_law_422 rfl ?_
  refine R_iro 424 dL_law_423 rfl rfl (la_in (k := 1) ha hL (by decide)) ?_
  refine R_callVi 427 (eX7_go (iv_mk hI)) dL_law_424 rfl kX7_go lL_55 rfl rfl rfl rfl rfl rfl rfl ?_
  refine R_icmp_eq 430 925 dL_law_427 rfl (by decide) (fun c1 => ?_) (fun c1 => ?_)
  ·
    exact k ((sX6_go n m cf ca (xs ((nI a) + 1).toNatClampNeg)).2.1) m i ((sX6_go n m cf ca (xs ((nI a) + 1).toNatClampNeg)).2.2.1) ((sX6_go n m cf ca (xs ((nI a) + 1).toNatClampNeg)).2.2.2) ((sX7_go f ar (xs ((nI a) + 1).toNatClampNeg)).2.1) ((sX7_go f ar (xs ((nI a) + 1).toNatClampNeg)).2.2) (pu_go (m := m) hI _).2
  ·
    refine R_iconst 431 dL_law_430 rfl (v := 0) (by decide) ?_
    refine R_ireturn dL_law_431 rfl (by decide) ?_
    exact absurd (pu_go (m := m) hI _).1 c1
set_option maxRecDepth 20000 in
theorem lc_cost {g1 g2 g3 : ClassId} {L : Nat} {xs : Nat → Int32} {n m i : zP} {cf : Nat → Int32} {ca : Nat → Nat → Int32} {f : Nat → Int32} {ar : Nat → Nat → Int32} {a : Nat} (hI : Inv n i cf ca f ar) (ha : a + 4 ≤ L) (hL : L ≤ 2048) (k : ∀ (n m i : zP) (cf : Nat → Int32) (ca : Nat → Nat → Int32) (f : Nat → Int32) (ar : Nat → Nat → Int32), Inv n i cf ca f ar → R (g1, g2, g3, L, xs) mL_law 925 [(0, .ref 4000), (1, .ref 0), (2, .ref 100), (3, .int (nI a))] [] (hC (g1, g2, g3, L, xs) n m i cf ca, hM (g1, g2, g3, L, xs) f ar) (fun r _ => r = some (.int 1))) : R (g1, g2, g3, L, xs) mL_law 432 [(0, .ref 4000), (1, .ref 0), (2, .ref 100), (3, .int (nI a))] [] (hC (g1, g2, g3, L, xs) n m i cf ca, hM (g1, g2, g3, L, xs) f ar) (fun r _ => r = some (.int 1)) := by
  refine R_aload_n 433 dL_law_432 rfl rfl ?_
  refine R_aload_n 434 dL_law_433 rfl rfl ?_
  refine R_iload_n 435 dL_law_434 rfl rfl ?_
  refine R_iconst 436 dL_law_435 rfl (v := 1) (by decide) ?_
  refine R_iadd 437 dL_law_436 rfl ?_
  refine R_iro 438 dL_law_437 rfl rfl (la_in (k := 1) ha hL (by decide)) ?_
  refine R_aload_n 439 dL_law_438 rfl rfl ?_
  refine R_iload_n 440 dL_law_439 rfl rfl ?_
  refine R_iconst 441 dL_law_440 rfl (v := 2) (by decide) ?_
  refine R_iadd 442 dL_law_441 rfl ?_
  refine R_iro 443 dL_law_442 rfl rfl (la_in (k := 2) ha hL (by decide)) ?_
  refine R_callVi 446 eX6_cost_0 dL_law_443 rfl kX6_cost lL_56 rfl rfl rfl rfl rfl rfl rfl ?_
  refine R_aload_n 447 dL_law_446 rfl rfl ?_
  refine R_aload_n 448 dL_law_447 rfl rfl ?_
  refine R_iload_n 449 dL_law_448 rfl rfl ?_
  refine R_iconst 450 dL_law_449 rfl (v := 1) (by decide) ?_
  refine R_iadd 451 dL_law_450 rfl ?_
  refine R_iro 452 dL_law_451 rfl rfl (la_in (k := 1) ha hL (by decide)) ?_
  refine R_aload_n 453 dL_law_452 rfl rfl ?_
  refine R_iload_n 454 dL_law_453 rfl rfl ?_
  refine R_iconst 455 dL_law_454 rfl (v := 2) (by decide) ?_
  refine R_iadd 456 dL_law_455 rfl ?_
  refine R_iro 457 dL_law_456 rfl rfl (la_in (k := 2) ha hL (by decide)) ?_
  refine R_callVi 460 (eX7_cost (iv_mk hI)) dL_law_457 rfl kX7_cost lL_59 rfl rfl rfl rfl rfl rfl rfl ?_
  refine R_icmp_eq 463 925 dL_law_460 rfl (by decide) (fun c1 => ?_) (fun c1 => ?_)
  ·
    exact k n ((sX6_cost n m cf ca (xs ((nI a) + 1).toNatClampNeg) (xs ((nI a) + 2).toNatClampNeg)).2.1) i ((sX6_cost n m cf ca (xs ((nI a) + 1).toNatClampNeg) (xs ((nI a) + 2).toNatClampNeg)).2.2.1) ((sX6_cost n m cf ca (xs ((nI a) + 1).toNatClampNeg) (xs ((nI a) + 2).toNatClampNeg)).2.2.2) ((sX7_cost f ar (xs ((nI a) + 1).toNatClampNeg) (xs ((nI a) + 2).toNatClampNeg)).2.1) ((sX7_cost f ar (xs ((nI a) + 1).toNatClampNeg) (xs ((nI a) + 2).toNatClampNeg)).2.2) (pu_cost (m := m) hI _ _).2
  ·
    refine R_iconst 464 dL_law_463 rfl (v := 0) (by decide) ?_
    refine R_ireturn dL_law_464 rfl (by decide) ?_
    exact absurd (pu_cost (m := m) hI _ _).1 c1
set_option maxRecDepth 20000 in
theorem lc_at {g1 g2 g3 : ClassId} {L : Nat} {xs : Nat → Int32} {n m i : zP} {cf : Nat → Int32} {ca : Nat → Nat → Int32} {f : Nat → Int32} {ar : Nat → Nat → Int32} {a : Nat} (hI : Inv n i cf ca f ar) (ha : a + 4 ≤ L) (hL : L ≤ 2048) (k : ∀ (n m i : zP) (cf : Nat → Int32) (ca : Nat → Nat → Int32) (f : Nat → Int32) (ar : Nat → Nat → Int32), Inv n i cf ca f ar → R (g1, g2, g3, L, xs) mL_law 925 [(0, .ref 4000), (1, .ref 0), (2, .ref 100), (3, .int (nI a))] [] (hC (g1, g2, g3, L, xs) n m i cf ca, hM (g1, g2, g3, L, xs) f ar) (fun r _ => r = some (.int 1))) : R (g1, g2, g3, L, xs) mL_law 465 [(0, .ref 4000), (1, .ref 0), (2, .ref 100), (3, .int (nI a))] [] (hC (g1, g2, g3, L, xs) n m i cf ca, hM (g1, g2, g3, L, xs) f ar) (fun r _ => r = some (.int 1)) := by
  refine R_aload_n 466 dL_law_465 rfl rfl ?_
  refine R_aload_n 467 dL_law_466 rfl rfl ?_
  refine R_iload_n 468 dL_law_467 rfl rfl ?_
  refine R_iconst 469 dL_law_468 rfl (v := 1) (by decide) ?_
  refine R_iadd 470 dL_law_469 rfl ?_
  refine R_iro 471 dL_law_470 rfl rfl (la_in (k := 1) ha hL (by decide)) ?_
  refine R_callVi 474 eX6_at_0 dL_law_471 rfl kX6_at lL_60 rfl rfl rfl rfl rfl rfl rfl ?_
  refine R_aload_n 475 dL_law_474 rfl rfl ?_
  refine R_aload_n 476 dL_law_475 rfl rfl ?_
  refine R_iload_n 477 dL_law_476 rfl rfl ?_
  refine R_iconst 478 dL_law_477 rfl (v := 1) (by decide) ?_
  refine R_iadd 479 dL_law_478 rfl ?_
  refine R_iro 480 dL_law_479 rfl rfl (la_in (k := 1) ha hL (by decide)) ?_
  refine R_callVi 483 (eX7_at (iv_mk hI)) dL_law_480 rfl kX7_at lL_63 rfl rfl rfl rfl rfl rfl rfl ?_
  refine R_icmp_eq 486 925 dL_law_483 rfl (by decide) (fun c1 => ?_) (fun c1 => ?_)
  ·
    exact k n ((sX6_at n m cf ca (xs ((nI a) + 1).toNatClampNeg)).2.1) i ((sX6_at n m cf ca (xs ((nI a) + 1).toNatClampNeg)).2.2.1) ((sX6_at n m cf ca (xs ((nI a) + 1).toNatClampNeg)).2.2.2) ((sX7_at f ar (xs ((nI a) + 1).toNatClampNeg)).2.1) ((sX7_at f ar (xs ((nI a) + 1).toNatClampNeg)).2.2) (pu_at (m := m) hI _).2
  ·
    refine R_iconst 487 dL_law_486 rfl (v := 0) (by decide) ?_
    refine R_ireturn dL_law_487 rfl (by decide) ?_
    exact absurd (pu_at (m := m) hI _).1 c1
set_option maxRecDepth 20000 in
theorem lc_of {g1 g2 g3 : ClassId} {L : Nat} {xs : Nat → Int32} {n m i : zP} {cf : Nat → Int32} {ca : Nat → Nat → Int32} {f : Nat → Int32} {ar : Nat → Nat → Int32} {a : Nat} (hI : Inv n i cf ca f ar) (ha : a + 4 ≤ L) (hL : L ≤ 2048) (k : ∀ (n m i : zP) (cf : Nat → Int32) (ca : Nat → Nat → Int32) (f : Nat → Int32) (ar : Nat → Nat → Int32), Inv n i cf ca f ar → R (g1, g2, g3, L, xs) mL_law 925 [(0, .ref 4000), (1, .ref 0), (2, .ref 100), (3, .int (nI a))] [] (hC (g1, g2, g3, L, xs) n m i cf ca, hM (g1, g2, g3, L, xs) f ar) (fun r _ => r = some (.int 1))) : R (g1, g2, g3, L, xs) mL_law 488 [(0, .ref 4000), (1, .ref 0), (2, .ref 100), (3, .int (nI a))] [] (hC (g1, g2, g3, L, xs) n m i cf ca, hM (g1, g2, g3, L, xs) f ar) (fun r _ => r = some (.int 1)) := by
  refine R_aload_n 489 dL_law_488 rfl rfl ?_
  refine R_aload_n 490 dL_law_489 rfl rfl ?_
  refine R_iload_n 491 dL_law_490 rfl rfl ?_
  refine R_iconst 492 dL_law_491 rfl (v := 1) (by decide) ?_
  refine R_iadd 493 dL_law_492 rfl ?_
  refine R_iro 494 dL_law_493 rfl rfl (la_in (k := 1) ha hL (by decide)) ?_
  refine R_aload_n 495 dL_law_494 rfl rfl ?_
  refine R_iload_n 496 dL_law_495 rfl rfl ?_
  refine R_iconst 497 dL_law_496 rfl (v := 2) (by decide) ?_
  refine R_iadd 498 dL_law_497 rfl ?_
  refine R_iro 499 dL_law_498 rfl rfl (la_in (k := 2) ha hL (by decide)) ?_
  refine R_aload_n 500 dL_law_499 rfl rfl ?_
  refine R_iload_n 501 dL_law_500 rfl rfl ?_
  refine R_iconst 502 dL_law_501 rfl (v := 3) (by decide) ?_
  refine R_iadd 503 dL_law_502 rfl ?_
  refine R_iro 504 dL_law_503 rfl rfl (la_in (k := 3) ha hL (by decide)) ?_
  refine R_callVi 507 eX6_of_0 dL_law_504 rfl kX6_of lL_64 rfl rfl rfl rfl rfl rfl rfl ?_
  refine R_aload_n 508 dL_law_507 rfl rfl ?_
  refine R_aload_n 509 dL_law_508 rfl rfl ?_
  refine R_iload_n 510 dL_law_509 rfl rfl ?_
  refine R_iconst 511 dL_law_510 rfl (v := 1) (by decide) ?_
  refine R_iadd 512 dL_law_511 rfl ?_
  refine R_iro 513 dL_law_512 rfl rfl (la_in (k := 1) ha hL (by decide)) ?_
  refine R_aload_n 514 dL_law_513 rfl rfl ?_
  refine R_iload_n 515 dL_law_514 rfl rfl ?_
  refine R_iconst 516 dL_law_515 rfl (v := 2) (by decide) ?_
  refine R_iadd 517 dL_law_516 rfl ?_
  refine R_iro 518 dL_law_517 rfl rfl (la_in (k := 2) ha hL (by decide)) ?_
  refine R_aload_n 519 dL_law_518 rfl rfl ?_
  refine R_iload_n 520 dL_law_519 rfl rfl ?_
  refine R_iconst 521 dL_law_520 rfl (v := 3) (by decide) ?_
  refine R_iadd 522 dL_law_521 rfl ?_
  refine R_iro 523 dL_law_522 rfl rfl (la_in (k := 3) ha hL (by decide)) ?_
  refine R_callVi 526 (eX7_of (iv_mk hI)) dL_law_523 rfl kX7_of lL_68 rfl rfl rfl rfl rfl rfl rfl ?_
  refine R_icmp_eq 529 925 dL_law_526 rfl (by decide) (fun c1 => ?_) (fun c1 => ?_)
  ·
    exact k n ((sX6_of n m cf ca (xs ((nI a) + 1).toNatClampNeg) (xs ((nI a) + 2).toNatClampNeg) (xs ((nI a) + 3).toNatClampNeg)).2.1) i ((sX6_of n m cf ca (xs ((nI a) + 1).toNatClampNeg) (xs ((nI a) + 2).toNatClampNeg) (xs ((nI a) + 3).toNatClampNeg)).2.2.1) ((sX6_of n m cf ca (xs ((nI a) + 1).toNatClampNeg) (xs ((nI a) + 2).toNatClampNeg) (xs ((nI a) + 3).toNatClampNeg)).2.2.2) ((sX7_of f ar (xs ((nI a) + 1).toNatClampNeg) (xs ((nI a) + 2).toNatClampNeg) (xs ((nI a) + 3).toNatClampNeg)).2.1) ((sX7_of f ar (xs ((nI a) + 1).toNatClampNeg) (xs ((nI a) + 2).toNatClampNeg) (xs ((nI a) + 3).toNatClampNeg)).2.2) (pu_of (m := m) hI _ _ _).2
  ·
    refine R_iconst 530 dL_law_529 rfl (v := 0) (by decide) ?_
    refine R_ireturn dL_law_530 rfl (by decide) ?_
    exact absurd (pu_of (m := m) hI _ _ _).1 c1
set_option maxRecDepth 20000 in
theorem lc_best {g1 g2 g3 : ClassId} {L : Nat} {xs : Nat → Int32} {n m i : zP} {cf : Nat → Int32} {ca : Nat → Nat → Int32} {f : Nat → Int32} {ar : Nat → Nat → Int32} {a : Nat} (hI : Inv n i cf ca f ar) (ha : a + 4 ≤ L) (hL : L ≤ 2048) (k : ∀ (n m i : zP) (cf : Nat → Int32) (ca : Nat → Nat → Int32) (f : Nat → Int32) (ar : Nat → Nat → Int32), Inv n i cf ca f ar → R (g1, g2, g3, L, xs) mL_law 925 [(0, .ref 4000), (1, .ref 0), (2, .ref 100), (3, .int (nI a))] [] (hC (g1, g2, g3, L, xs) n m i cf ca, hM (g1, g2, g3, L, xs) f ar) (fun r _ => r = some (.int 1))) : R (g1, g2, g3, L, xs) mL_law 531 [(0, .ref 4000), (1, .ref 0), (2, .ref 100), (3, .int (nI a))] [] (hC (g1, g2, g3, L, xs) n m i cf ca, hM (g1, g2, g3, L, xs) f ar) (fun r _ => r = some (.int 1)) := by
  refine R_aload_n 532 dL_law_531 rfl rfl ?_
  refine R_aload_n 533 dL_law_532 rfl rfl ?_
  refine R_iload_n 534 dL_law_533 rfl rfl ?_
  refine R_iconst 535 dL_law_534 rfl (v := 1) (by decide) ?_
  refine R_iadd 536 dL_law_535 rfl ?_
  refine R_iro 537 dL_law_536 rfl rfl (la_in (k := 1) ha hL (by decide)) ?_
  refine R_aload_n 538 dL_law_537 rfl rfl ?_
  refine R_iload_n 539 dL_law_538 rfl rfl ?_
  refine R_iconst 540 dL_law_539 rfl (v := 2) (by decide) ?_
  refine R_iadd 541 dL_law_540 rfl ?_
  refine R_iro 542 dL_law_541 rfl rfl (la_in (k := 2) ha hL (by decide)) ?_
  refine R_callVi 545 (eX6_best_0 (iv_sz hI)) dL_law_542 rfl kX6_best lL_69 rfl rfl rfl rfl rfl rfl rfl ?_
  refine R_aload_n 546 dL_law_545 rfl rfl ?_
  refine R_aload_n 547 dL_law_546 rfl rfl ?_
  refine R_iload_n 548 dL_law_547 rfl rfl ?_
  refine R_iconst 549 dL_law_548 rfl (v := 1) (by decide) ?_
  refine R_iadd 550 dL_law_549 rfl ?_
  refine R_iro 551 dL_law_550 rfl rfl (la_in (k := 1) ha hL (by decide)) ?_
  refine R_aload_n 552 dL_law_551 rfl rfl ?_
  refine R_iload_n 553 dL_law_552 rfl rfl ?_
  refine R_iconst 554 dL_law_553 rfl (v := 2) (by decide) ?_
  refine R_iadd 555 dL_law_554 rfl ?_
  refine R_iro 556 dL_law_555 rfl rfl (la_in (k := 2) ha hL (by decide)) ?_
  refine R_callVi 559 (eX7_best (iv_mk hI)) dL_law_556 rfl kX7_best lL_72 rfl rfl rfl rfl rfl rfl rfl ?_
  refine R_icmp_eq 562 925 dL_law_559 rfl (by decide) (fun c1 => ?_) (fun c1 => ?_)
  ·
    exact k n ((sX6_best n m cf ca (xs ((nI a) + 1).toNatClampNeg) (xs ((nI a) + 2).toNatClampNeg)).2.1) i ((sX6_best n m cf ca (xs ((nI a) + 1).toNatClampNeg) (xs ((nI a) + 2).toNatClampNeg)).2.2.1) ((sX6_best n m cf ca (xs ((nI a) + 1).toNatClampNeg) (xs ((nI a) + 2).toNatClampNeg)).2.2.2) ((sX7_best f ar (xs ((nI a) + 1).toNatClampNeg) (xs ((nI a) + 2).toNatClampNeg)).2.1) ((sX7_best f ar (xs ((nI a) + 1).toNatClampNeg) (xs ((nI a) + 2).toNatClampNeg)).2.2) (pu_best (m := m) hI _ _).2
  ·
    refine R_iconst 563 dL_law_562 rfl (v := 0) (by decide) ?_
    refine R_ireturn dL_law_563 rfl (by decide) ?_
    exact absurd (pu_best (m := m) hI _ _).1 c1
set_option maxRecDepth 20000 in
theorem lc_finer {g1 g2 g3 : ClassId} {L : Nat} {xs : Nat → Int32} {n m i : zP} {cf : Nat → Int32} {ca : Nat → Nat → Int32} {f : Nat → Int32} {ar : Nat → Nat → Int32} {a : Nat} (hI : Inv n i cf ca f ar) (ha : a + 4 ≤ L) (hL : L ≤ 2048) (k : ∀ (n m i : zP) (cf : Nat → Int32) (ca : Nat → Nat → Int32) (f : Nat → Int32) (ar : Nat → Nat → Int32), Inv n i cf ca f ar → R (g1, g2, g3, L, xs) mL_law 925 [(0, .ref 4000), (1, .ref 0), (2, .ref 100), (3, .int (nI a))] [] (hC (g1, g2, g3, L, xs) n m i cf ca, hM (g1, g2, g3, L, xs) f ar) (fun r _ => r = some (.int 1))) : R (g1, g2, g3, L, xs) mL_law 564 [(0, .ref 4000), (1, .ref 0), (2, .ref 100), (3, .int (nI a))] [] (hC (g1, g2, g3, L, xs) n m i cf ca, hM (g1, g2, g3, L, xs) f ar) (fun r _ => r = some (.int 1)) := by
  refine R_aload_n 565 dL_law_564 rfl rfl ?_
  refine R_aload_n 566 dL_law_565 rfl rfl ?_
  refine R_iload_n 567 dL_law_566 rfl rfl ?_
  refine R_iconst 568 dL_law_567 rfl (v := 1) (by decide) ?_
  refine R_iadd 569 dL_law_568 rfl ?_
  refine R_iro 570 dL_law_569 rfl rfl (la_in (k := 1) ha hL (by decide)) ?_
  refine R_aload_n 571 dL_law_570 rfl rfl ?_
  refine R_iload_n 572 dL_law_571 rfl rfl ?_
  refine R_iconst 573 dL_law_572 rfl (v := 2) (by decide) ?_
  refine R_iadd 574 dL_law_573 rfl ?_
  refine R_iro 575 dL_law_574 rfl rfl (la_in (k := 2) ha hL (by decide)) ?_
  refine R_callVi 578 eX6_finer_0 dL_law_575 rfl kX6_finer lL_73 rfl rfl rfl rfl rfl rfl rfl ?_
  refine R_aload_n 579 dL_law_578 rfl rfl ?_
  refine R_aload_n 580 dL_law_579 rfl rfl ?_
  refine R_iload_n 581 dL_law_580 rfl rfl ?_
  refine R_iconst 582 dL_law_581 rfl (v := 1) (by decide) ?_
  refine R_iadd 583 dL_law_582 rfl ?_
  refine R_iro 584 dL_law_583 rfl rfl (la_in (k := 1) ha hL (by decide)) ?_
  refine R_aload_n 585 dL_law_584 rfl rfl ?_
  refine R_iload_n 586 dL_law_585 rfl rfl ?_
  refine R_iconst 587 dL_law_586 rfl (v := 2) (by decide) ?_
  refine R_iadd 588 dL_law_587 rfl ?_
  refine R_iro 589 dL_law_588 rfl rfl (la_in (k := 2) ha hL (by decide)) ?_
  refine R_callVi 592 (eX7_finer (iv_mk hI)) dL_law_589 rfl kX7_finer lL_76 rfl rfl rfl rfl rfl rfl rfl ?_
  refine R_icmp_eq 595 925 dL_law_592 rfl (by decide) (fun c1 => ?_) (fun c1 => ?_)
  ·
    exact k n ((sX6_finer n m cf ca (xs ((nI a) + 1).toNatClampNeg) (xs ((nI a) + 2).toNatClampNeg)).2.1) i ((sX6_finer n m cf ca (xs ((nI a) + 1).toNatClampNeg) (xs ((nI a) + 2).toNatClampNeg)).2.2.1) ((sX6_finer n m cf ca (xs ((nI a) + 1).toNatClampNeg) (xs ((nI a) + 2).toNatClampNeg)).2.2.2) ((sX7_finer f ar (xs ((nI a) + 1).toNatClampNeg) (xs ((nI a) + 2).toNatClampNeg)).2.1) ((sX7_finer f ar (xs ((nI a) + 1).toNatClampNeg) (xs ((nI a) + 2).toNatClampNeg)).2.2) (pu_finer (m := m) hI _ _).2
  ·
    refine R_iconst 596 dL_law_595 rfl (v := 0) (by decide) ?_
    refine R_ireturn dL_law_596 rfl (by decide) ?_
    exact absurd (pu_finer (m := m) hI _ _).1 c1
set_option maxRecDepth 20000 in
theorem lc_mark {g1 g2 g3 : ClassId} {L : Nat} {xs : Nat → Int32} {n m i : zP} {cf : Nat → Int32} {ca : Nat → Nat → Int32} {f : Nat → Int32} {ar : Nat → Nat → Int32} {a : Nat} (hI : Inv n i cf ca f ar) (ha : a + 4 ≤ L) (hL : L ≤ 2048) (k : ∀ (n m i : zP) (cf : Nat → Int32) (ca : Nat → Nat → Int32) (f : Nat → Int32) (ar : Nat → Nat → Int32), Inv n i cf ca f ar → R (g1, g2, g3, L, xs) mL_law 925 [(0, .ref 4000), (1, .ref 0), (2, .ref 100), (3, .int (nI a))] [] (hC (g1, g2, g3, L, xs) n m i cf ca, hM (g1, g2, g3, L, xs) f ar) (fun r _ => r = some (.int 1))) : R (g1, g2, g3, L, xs) mL_law 597 [(0, .ref 4000), (1, .ref 0), (2, .ref 100), (3, .int (nI a))] [] (hC (g1, g2, g3, L, xs) n m i cf ca, hM (g1, g2, g3, L, xs) f ar) (fun r _ => r = some (.int 1)) := by
  refine R_aload_n 598 dL_law_597 rfl rfl ?_
  refine R_aload_n 599 dL_law_598 rfl rfl ?_
  refine R_iload_n 600 dL_law_599 rfl rfl ?_
  refine R_iconst 601 dL_law_600 rfl (v := 1) (by decide) ?_
  refine R_iadd 602 dL_law_601 rfl ?_
  refine R_iro 603 dL_law_602 rfl rfl (la_in (k := 1) ha hL (by decide)) ?_
  refine R_callVi 606 eX6_mark_0 dL_law_603 rfl kX6_mark lL_77 rfl rfl rfl rfl rfl rfl rfl ?_
  refine R_aload_n 607 dL_law_606 rfl rfl ?_
  refine R_aload_n 608 dL_law_607 rfl rfl ?_
  refine R_iload_n 609 dL_law_608 rfl rfl ?_
  refine R_iconst 610 dL_law_609 rfl (v := 1) (by decide) ?_
  refine R_iadd 611 dL_law_610 rfl ?_
  refine R_iro 612 dL_law_611 rfl rfl (la_in (k := 1) ha hL (by decide)) ?_
  refine R_callVi 615 (eX7_mark (iv_mk hI)) dL_law_612 rfl kX7_mark lL_80 rfl rfl rfl rfl rfl rfl rfl ?_
  refine R_icmp_eq 618 925 dL_law_615 rfl (by decide) (fun c1 => ?_) (fun c1 => ?_)
  ·
    exact k n ((sX6_mark n m cf ca (xs ((nI a) + 1).toNatClampNeg)).2.1) i ((sX6_mark n m cf ca (xs ((nI a) + 1).toNatClampNeg)).2.2.1) ((sX6_mark n m cf ca (xs ((nI a) + 1).toNatClampNeg)).2.2.2) ((sX7_mark f ar (xs ((nI a) + 1).toNatClampNeg)).2.1) ((sX7_mark f ar (xs ((nI a) + 1).toNatClampNeg)).2.2) (pu_mark (m := m) hI _).2
  ·
    refine R_iconst 619 dL_law_618 rfl (v := 0) (by decide) ?_
    refine R_ireturn dL_law_619 rfl (by decide) ?_
    exact absurd (pu_mark (m := m) hI _).1 c1
set_option maxRecDepth 20000 in
theorem lc_most {g1 g2 g3 : ClassId} {L : Nat} {xs : Nat → Int32} {n m i : zP} {cf : Nat → Int32} {ca : Nat → Nat → Int32} {f : Nat → Int32} {ar : Nat → Nat → Int32} {a : Nat} (hI : Inv n i cf ca f ar) (ha : a + 4 ≤ L) (hL : L ≤ 2048) (k : ∀ (n m i : zP) (cf : Nat → Int32) (ca : Nat → Nat → Int32) (f : Nat → Int32) (ar : Nat → Nat → Int32), Inv n i cf ca f ar → R (g1, g2, g3, L, xs) mL_law 925 [(0, .ref 4000), (1, .ref 0), (2, .ref 100), (3, .int (nI a))] [] (hC (g1, g2, g3, L, xs) n m i cf ca, hM (g1, g2, g3, L, xs) f ar) (fun r _ => r = some (.int 1))) : R (g1, g2, g3, L, xs) mL_law 620 [(0, .ref 4000), (1, .ref 0), (2, .ref 100), (3, .int (nI a))] [] (hC (g1, g2, g3, L, xs) n m i cf ca, hM (g1, g2, g3, L, xs) f ar) (fun r _ => r = some (.int 1)) := by
  refine R_aload_n 621 dL_law_620 rfl rfl ?_
  refine R_aload_n 622 dL_law_621 rfl rfl ?_
  refine R_iload_n 623 dL_law_622 rfl rfl ?_
  refine R_iconst 624 dL_law_623 rfl (v := 1) (by decide) ?_
  refine R_iadd 625 dL_law_624 rfl ?_
  refine R_iro 626 dL_law_625 rfl rfl (la_in (k := 1) ha hL (by decide)) ?_
  refine R_callVi 629 eX6_most_0 dL_law_626 rfl kX6_most lL_81 rfl rfl rfl rfl rfl rfl rfl ?_
  refine R_aload_n 630 dL_law_629 rfl rfl ?_
  refine R_aload_n 631 dL_law_630 rfl rfl ?_
  refine R_iload_n 632 dL_law_631 rfl rfl ?_
  refine R_iconst 633 dL_law_632 rfl (v := 1) (by decide) ?_
  refine R_iadd 634 dL_law_633 rfl ?_
  refine R_iro 635 dL_law_634 rfl rfl (la_in (k := 1) ha hL (by decide)) ?_
  refine R_callVi 638 (eX7_most (iv_mk hI)) dL_law_635 rfl kX7_most lL_84 rfl rfl rfl rfl rfl rfl rfl ?_
  refine R_icmp_eq 641 925 dL_law_638 rfl (by decide) (fun c1 => ?_) (fun c1 => ?_)
  ·
    exact k n ((sX6_most n m cf ca (xs ((nI a) + 1).toNatClampNeg)).2.1) i ((sX6_most n m cf ca (xs ((nI a) + 1).toNatClampNeg)).2.2.1) ((sX6_most n m cf ca (xs ((nI a) + 1).toNatClampNeg)).2.2.2) ((sX7_most f ar (xs ((nI a) + 1).toNatClampNeg)).2.1) ((sX7_most f ar (xs ((nI a) + 1).toNatClampNeg)).2.2) (pu_most (m := m) hI _).2
  ·
    refine R_iconst 642 dL_law_641 rfl (v := 0) (by decide) ?_
    refine R_ireturn dL_law_642 rfl (by decide) ?_
    exact absurd (pu_most (m := m) hI _).1 c1
set_option maxRecDepth 20000 in
theorem lc_between {g1 g2 g3 : ClassId} {L : Nat} {xs : Nat → Int32} {n m i : zP} {cf : Nat → Int32} {ca : Nat → Nat → Int32} {f : Nat → Int32} {ar : Nat → Nat → Int32} {a : Nat} (hI : Inv n i cf ca f ar) (ha : a + 4 ≤ L) (hL : L ≤ 2048) (k : ∀ (n m i : zP) (cf : Nat → Int32) (ca : Nat → Nat → Int32) (f : Nat → Int32) (ar : Nat → Nat → Int32), Inv n i cf ca f ar → R (g1, g2, g3, L, xs) mL_law 925 [(0, .ref 4000), (1, .ref 0), (2, .ref 100), (3, .int (nI a))] [] (hC (g1, g2, g3, L, xs) n m i cf ca, hM (g1, g2, g3, L, xs) f ar) (fun r _ => r = some (.int 1))) : R (g1, g2, g3, L, xs) mL_law 643 [(0, .ref 4000), (1, .ref 0), (2, .ref 100), (3, .int (nI a))] [] (hC (g1, g2, g3, L, xs) n m i cf ca, hM (g1, g2, g3, L, xs) f ar) (fun r _ => r = some (.int 1)) := by
  refine R_aload_n 644 dL_law_643 rfl rfl ?_
  refine R_aload_n 645 dL_law_644 rfl rfl ?_
  refine R_iload_n 646 dL_law_645 rfl rfl ?_
  refine R_iconst 647 dL_law_646 rfl (v := 1) (by decide) ?_
  refine R_iadd 648 dL_law_647 rfl ?_
  refine R_iro 649 dL_law_648 rfl rfl (la_in (k := 1) ha hL (by decide)) ?_
  refine R_callVi 652 eX6_between_0 dL_law_649 rfl kX6_between lL_85 rfl rfl rfl rfl rfl rfl rfl ?_
  refine R_aload_n 653 dL_law_652 rfl rfl ?_
  refine R_aload_n 654 dL_law_653 rfl rfl ?_
  refine R_iload_n 655 dL_law_654 rfl rfl ?_
  refine R_iconst 656 dL_law_655 rfl (v := 1) (by decide) ?_
  refine R_iadd 657 dL_law_656 rfl ?_
  refine R_iro 658 dL_law_657 rfl rfl (la_in (k := 1) ha hL (by decide)) ?_
  refine R_callVi 661 (eX7_between (iv_mk hI)) dL_law_658 rfl kX7_between lL_88 rfl rfl rfl rfl rfl rfl rfl ?_
  refine R_icmp_eq 664 925 dL_law_661 rfl (by decide) (fun c1 => ?_) (fun c1 => ?_)
  ·
    exact k n ((sX6_between n m cf ca (xs ((nI a) + 1).toNatClampNeg)).2.1) i ((sX6_between n m cf ca (xs ((nI a) + 1).toNatClampNeg)).2.2.1) ((sX6_between n m cf ca (xs ((nI a) + 1).toNatClampNeg)).2.2.2) ((sX7_between f ar (xs ((nI a) + 1).toNatClampNeg)).2.1) ((sX7_between f ar (xs ((nI a) + 1).toNatClampNeg)).2.2) (pu_between (m := m) hI _).2
  ·
    refine R_iconst 665 dL_law_664 rfl (v := 0) (by decide) ?_
    refine R_ireturn dL_law_665 rfl (by decide) ?_
    exact absurd (pu_between (m := m) hI _).1 c1
set_option maxRecDepth 20000 in
theorem lc_leave {g1 g2 g3 : ClassId} {L : Nat} {xs : Nat → Int32} {n m i : zP} {cf : Nat → Int32} {ca : Nat → Nat → Int32} {f : Nat → Int32} {ar : Nat → Nat → Int32} {a : Nat} (hI : Inv n i cf ca f ar) (ha : a + 4 ≤ L) (hL : L ≤ 2048) (k : ∀ (n m i : zP) (cf : Nat → Int32) (ca : Nat → Nat → Int32) (f : Nat → Int32) (ar : Nat → Nat → Int32), Inv n i cf ca f ar → R (g1, g2, g3, L, xs) mL_law 925 [(0, .ref 4000), (1, .ref 0), (2, .ref 100), (3, .int (nI a))] [] (hC (g1, g2, g3, L, xs) n m i cf ca, hM (g1, g2, g3, L, xs) f ar) (fun r _ => r = some (.int 1))) : R (g1, g2, g3, L, xs) mL_law 666 [(0, .ref 4000), (1, .ref 0), (2, .ref 100), (3, .int (nI a))] [] (hC (g1, g2, g3, L, xs) n m i cf ca, hM (g1, g2, g3, L, xs) f ar) (fun r _ => r = some (.int 1)) := by
  refine R_aload_n 667 dL_law_666 rfl rfl ?_
  refine R_aload_n 668 dL_law_667 rfl rfl ?_
  refine R_iload_n 669 dL_law_668 rfl rfl ?_
  refine R_iconst 670 dL_law_669 rfl (v := 1) (by decide) ?_
  refine R_iadd 671 dL_law_670 rfl ?_
  refine R_iro 672 dL_law_671 rfl rfl (la_in (k := 1) ha hL (by decide)) ?_
  refine R_callVi 675 eX6_leave_0 dL_law_672 rfl kX6_leave lL_89 rfl rfl rfl rfl rfl rfl rfl ?_
  refine R_aload_n 676 dL_law_675 rfl rfl ?_
  refine R_aload_n 677 dL_law_676 rfl rfl ?_
  refine R_iload_n 678 dL_law_677 rfl rfl ?_
  refine R_iconst 679 dL_law_678 rfl (v := 1) (by decide) ?_
  refine R_iadd 680 dL_law_679 rfl ?_
  refine R_iro 681 dL_law_680 rfl rfl (la_in (k := 1) ha hL (by decide)) ?_
  refine R_callVi 684 (eX7_leave (iv_mk hI)) dL_law_681 rfl kX7_leave lL_92 rfl rfl rfl rfl rfl rfl rfl ?_
  refine R_icmp_eq 687 925 dL_law_684 rfl (by decide) (fun c1 => ?_) (fun c1 => ?_)
  ·
    exact k n ((sX6_leave n m cf ca (xs ((nI a) + 1).toNatClampNeg)).2.1) i ((sX6_leave n m cf ca (xs ((nI a) + 1).toNatClampNeg)).2.2.1) ((sX6_leave n m cf ca (xs ((nI a) + 1).toNatClampNeg)).2.2.2) ((sX7_leave f ar (xs ((nI a) + 1).toNatClampNeg)).2.1) ((sX7_leave f ar (xs ((nI a) + 1).toNatClampNeg)).2.2) (pu_leave (m := m) hI _).2
  ·
    refine R_iconst 688 dL_law_687 rfl (v := 0) (by decide) ?_
    refine R_ireturn dL_law_688 rfl (by decide) ?_
    exact absurd (pu_leave (m := m) hI _).1 c1
set_option maxRecDepth 20000 in
theorem lc_holds {g1 g2 g3 : ClassId} {L : Nat} {xs : Nat → Int32} {n m i : zP} {cf : Nat → Int32} {ca : Nat → Nat → Int32} {f : Nat → Int32} {ar : Nat → Nat → Int32} {a : Nat} (hI : Inv n i cf ca f ar) (ha : a + 4 ≤ L) (hL : L ≤ 2048) (k : ∀ (n m i : zP) (cf : Nat → Int32) (ca : Nat → Nat → Int32) (f : Nat → Int32) (ar : Nat → Nat → Int32), Inv n i cf ca f ar → R (g1, g2, g3, L, xs) mL_law 925 [(0, .ref 4000), (1, .ref 0), (2, .ref 100), (3, .int (nI a))] [] (hC (g1, g2, g3, L, xs) n m i cf ca, hM (g1, g2, g3, L, xs) f ar) (fun r _ => r = some (.int 1))) : R (g1, g2, g3, L, xs) mL_law 689 [(0, .ref 4000), (1, .ref 0), (2, .ref 100), (3, .int (nI a))] [] (hC (g1, g2, g3, L, xs) n m i cf ca, hM (g1, g2, g3, L, xs) f ar) (fun r _ => r = some (.int 1)) := by
  refine R_aload_n 690 dL_law_689 rfl rfl ?_
  refine R_aload_n 691 dL_law_690 rfl rfl ?_
  refine R_iload_n 692 dL_law_691 rfl rfl ?_
  refine R_iconst 693 dL_law_692 rfl (v := 1) (by decide) ?_
  refine R_iadd 694 dL_law_693 rfl ?_
  refine R_iro 695 dL_law_694 rfl rfl (la_in (k := 1) ha hL (by decide)) ?_
  refine R_callVi 698 eX6_holds_0 dL_law_695 rfl kX6_holds lL_93 rfl rfl rfl rfl rfl rfl rfl ?_
  refine R_aload_n 699 dL_law_698 rfl rfl ?_
  refine R_aload_n 700 dL_law_699 rfl rfl ?_
  refine R_iload_n 701 dL_law_700 rfl rfl ?_
  refine R_iconst 702 dL_law_701 rfl (v := 1) (by decide) ?_
  refine R_iadd 703 dL_law_702 rfl ?_
  refine R_iro 704 dL_law_703 rfl rfl (la_in (k := 1) ha hL (by decide)) ?_
  refine R_callVi 707 (eX7_holds (iv_mk hI)) dL_law_704 rfl kX7_holds lL_96 rfl rfl rfl rfl rfl rfl rfl ?_
  refine R_icmp_eq 710 925 dL_law_707 rfl (by decide) (fun c1 => ?_) (fun c1 => ?_)
  ·
    exact k n ((sX6_holds n m cf ca (xs ((nI a) + 1).toNatClampNeg)).2.1) i ((sX6_holds n m cf ca (xs ((nI a) + 1).toNatClampNeg)).2.2.1) ((sX6_holds n m cf ca (xs ((nI a) + 1).toNatClampNeg)).2.2.2) ((sX7_holds f ar (xs ((nI a) + 1).toNatClampNeg)).2.1) ((sX7_holds f ar (xs ((nI a) + 1).toNatClampNeg)).2.2) (pu_holds (m := m) hI _).2
  ·
    refine R_iconst 711 dL_law_710 rfl (v := 0) (by decide) ?_
    refine R_ireturn dL_law_711 rfl (by decide) ?_
    exact absurd (pu_holds (m := m) hI _).1 c1
set_option maxRecDepth 20000 in
theorem lc_setAt {g1 g2 g3 : ClassId} {L : Nat} {xs : Nat → Int32} {n m i : zP} {cf : Nat → Int32} {ca : Nat → Nat → Int32} {f : Nat → Int32} {ar : Nat → Nat → Int32} {a : Nat} (hI : Inv n i cf ca f ar) (ha : a + 4 ≤ L) (hL : L ≤ 2048) (k : ∀ (n m i : zP) (cf : Nat → Int32) (ca : Nat → Nat → Int32) (f : Nat → Int32) (ar : Nat → Nat → Int32), Inv n i cf ca f ar → R (g1, g2, g3, L, xs) mL_law 925 [(0, .ref 4000), (1, .ref 0), (2, .ref 100), (3, .int (nI a))] [] (hC (g1, g2, g3, L, xs) n m i cf ca, hM (g1, g2, g3, L, xs) f ar) (fun r _ => r = some (.int 1))) : R (g1, g2, g3, L, xs) mL_law 712 [(0, .ref 4000), (1, .ref 0), (2, .ref 100), (3, .int (nI a))] [] (hC (g1, g2, g3, L, xs) n m i cf ca, hM (g1, g2, g3, L, xs) f ar) (fun r _ => r = some (.int 1)) := by
  refine R_aload_n 713 dL_law_712 rfl rfl ?_
  refine R_callVi 716 eX6_setAt_0 dL_law_713 rfl kX6_setAt lL_97 rfl rfl rfl rfl rfl rfl rfl ?_
  refine R_aload_n 717 dL_law_716 rfl rfl ?_
  refine R_callVi 720 (eX7_setAt (iv_mk hI)) dL_law_717 rfl kX7_setAt lL_100 rfl rfl rfl rfl rfl rfl rfl ?_
  refine R_icmp_eq 723 925 dL_law_720 rfl (by decide) (fun c1 => ?_) (fun c1 => ?_)
  ·
    exact k n ((sX6_setAt n m cf ca).2.1) i ((sX6_setAt n m cf ca).2.2.1) ((sX6_setAt n m cf ca).2.2.2) ((sX7_setAt f ar).2.1) ((sX7_setAt f ar).2.2) (pu_setAt (m := m) hI).2
  ·
    refine R_iconst 724 dL_law_723 rfl (v := 0) (by decide) ?_
    refine R_ireturn dL_law_724 rfl (by decide) ?_
    exact absurd (pu_setAt (m := m) hI).1 c1
set_option maxRecDepth 20000 in
theorem lc_steadyFrom {g1 g2 g3 : ClassId} {L : Nat} {xs : Nat → Int32} {n m i : zP} {cf : Nat → Int32} {ca : Nat → Nat → Int32} {f : Nat → Int32} {ar : Nat → Nat → Int32} {a : Nat} (hI : Inv n i cf ca f ar) (ha : a + 4 ≤ L) (hL : L ≤ 2048) (k : ∀ (n m i : zP) (cf : Nat → Int32) (ca : Nat → Nat → Int32) (f : Nat → Int32) (ar : Nat → Nat → Int32), Inv n i cf ca f ar → R (g1, g2, g3, L, xs) mL_law 925 [(0, .ref 4000), (1, .ref 0), (2, .ref 100), (3, .int (nI a))] [] (hC (g1, g2, g3, L, xs) n m i cf ca, hM (g1, g2, g3, L, xs) f ar) (fun r _ => r = some (.int 1))) : R (g1, g2, g3, L, xs) mL_law 725 [(0, .ref 4000), (1, .ref 0), (2, .ref 100), (3, .int (nI a))] [] (hC (g1, g2, g3, L, xs) n m i cf ca, hM (g1, g2, g3, L, xs) f ar) (fun r _ => r = some (.int 1)) := by
  refine R_aload_n 726 dL_law_725 rfl rfl ?_
  refine R_callVi 729 eX6_steadyFrom_0 dL_law_726 rfl kX6_steadyFrom lL_101 rfl rfl rfl rfl rfl rfl rfl ?_
  refine R_aload_n 730 dL_law_729 rfl rfl ?_
  refine R_callVi 733 eX7_steadyFrom dL_law_730 rfl kX7_steadyFrom lL_104 rfl rfl rfl rfl rfl rfl rfl ?_
  refine R_icmp_eq 736 925 dL_law_733 rfl (by decide) (fun c1 => ?_) (fun c1 => ?_)
  ·
    exact k n m i cf ca f ar hI
  ·
    refine R_iconst 737 dL_law_736 rfl (v := 0) (by decide) ?_
    refine R_ireturn dL_law_737 rfl (by decide) ?_
    exact absurd (pu_steadyFrom hI).1 c1
set_option maxRecDepth 20000 in
theorem lc_whoLast {g1 g2 g3 : ClassId} {L : Nat} {xs : Nat → Int32} {n m i : zP} {cf : Nat → Int32} {ca : Nat → Nat → Int32} {f : Nat → Int32} {ar : Nat → Nat → Int32} {a : Nat} (hI : Inv n i cf ca f ar) (ha : a + 4 ≤ L) (hL : L ≤ 2048) (k : ∀ (n m i : zP) (cf : Nat → Int32) (ca : Nat → Nat → Int32) (f : Nat → Int32) (ar : Nat → Nat → Int32), Inv n i cf ca f ar → R (g1, g2, g3, L, xs) mL_law 925 [(0, .ref 4000), (1, .ref 0), (2, .ref 100), (3, .int (nI a))] [] (hC (g1, g2, g3, L, xs) n m i cf ca, hM (g1, g2, g3, L, xs) f ar) (fun r _ => r = some (.int 1))) : R (g1, g2, g3, L, xs) mL_law 738 [(0, .ref 4000), (1, .ref 0), (2, .ref 100), (3, .int (nI a))] [] (hC (g1, g2, g3, L, xs) n m i cf ca, hM (g1, g2, g3, L, xs) f ar) (fun r _ => r = some (.int 1)) := by
  refine R_aload_n 739 dL_law_738 rfl rfl ?_
  refine R_aload_n 740 dL_law_739 rfl rfl ?_
  refine R_iload_n 741 dL_law_740 rfl rfl ?_
  refine R_iconst 742 dL_law_741 rfl (v := 1) (by decide) ?_
  refine R_iadd 743 dL_law_742 rfl ?_
  refine R_iro 744 dL_law_743 rfl rfl (la_in (k := 1) ha hL (by decide)) ?_
  refine R_callVi 747 eX6_whoLast_0 dL_law_744 rfl kX6_whoLast lL_105 rfl rfl rfl rfl rfl rfl rfl ?_
  refine R_aload_n 748 dL_law_747 rfl rfl ?_
  refine R_aload_n 749 dL_law_748 rfl rfl ?_
  refine R_iload_n 750 dL_law_749 rfl rfl ?_
  refine R_iconst 751 dL_law_750 rfl (v := 1) (by decide) ?_
  refine R_iadd 752 dL_law_751 rfl ?_
  refine R_iro 753 dL_law_752 rfl rfl (la_in (k := 1) ha hL (by decide)) ?_
  refine R_callVi 756 (eX7_whoLast (iv_mk hI)) dL_law_753 rfl kX7_whoLast lL_108 rfl rfl rfl rfl rfl rfl rfl ?_
  refine R_icmp_eq 759 925 dL_law_756 rfl (by decide) (fun c1 => ?_) (fun c1 => ?_)
  ·
    exact k n ((sX6_whoLast n m cf ca (xs ((nI a) + 1).toNatClampNeg)).2.1) i ((sX6_whoLast n m cf ca (xs ((nI a) + 1).toNatClampNeg)).2.2.1) ((sX6_whoLast n m cf ca (xs ((nI a) + 1).toNatClampNeg)).2.2.2) ((sX7_whoLast f ar (xs ((nI a) + 1).toNatClampNeg)).2.1) ((sX7_whoLast f ar (xs ((nI a) + 1).toNatClampNeg)).2.2) (pu_whoLast (m := m) hI _).2
  ·
    refine R_iconst 760 dL_law_759 rfl (v := 0) (by decide) ?_
    refine R_ireturn dL_law_760 rfl (by decide) ?_
    exact absurd (pu_whoLast (m := m) hI _).1 c1
set_option maxRecDepth 20000 in
theorem lc_when {g1 g2 g3 : ClassId} {L : Nat} {xs : Nat → Int32} {n m i : zP} {cf : Nat → Int32} {ca : Nat → Nat → Int32} {f : Nat → Int32} {ar : Nat → Nat → Int32} {a : Nat} (hI : Inv n i cf ca f ar) (ha : a + 4 ≤ L) (hL : L ≤ 2048) (k : ∀ (n m i : zP) (cf : Nat → Int32) (ca : Nat → Nat → Int32) (f : Nat → Int32) (ar : Nat → Nat → Int32), Inv n i cf ca f ar → R (g1, g2, g3, L, xs) mL_law 925 [(0, .ref 4000), (1, .ref 0), (2, .ref 100), (3, .int (nI a))] [] (hC (g1, g2, g3, L, xs) n m i cf ca, hM (g1, g2, g3, L, xs) f ar) (fun r _ => r = some (.int 1))) : R (g1, g2, g3, L, xs) mL_law 761 [(0, .ref 4000), (1, .ref 0), (2, .ref 100), (3, .int (nI a))] [] (hC (g1, g2, g3, L, xs) n m i cf ca, hM (g1, g2, g3, L, xs) f ar) (fun r _ => r = some (.int 1)) := by
  refine R_aload_n 762 dL_law_761 rfl rfl ?_
  refine R_aload_n 763 dL_law_762 rfl rfl ?_
  refine R_iload_n 764 dL_law_763 rfl rfl ?_
  refine R_iconst 765 dL_law_764 rfl (v := 1) (by decide) ?_
  refine R_iadd 766 dL_law_765 rfl ?_
  refine R_iro 767 dL_law_766 rfl rfl (la_in (k := 1) ha hL (by decide)) ?_
  refine R_callVi 770 eX6_when_0 dL_law_767 rfl kX6_when lL_109 rfl rfl rfl rfl rfl rfl rfl ?_
  refine R_aload_n 771 dL_law_770 rfl rfl ?_
  refine R_aload_n 772 dL_law_771 rfl rfl ?_
  refine R_iload_n 773 dL_law_772 rfl rfl ?_
  refine R_iconst 774 dL_law_773 rfl (v := 1) (by decide) ?_
  refine R_iadd 775 dL_law_774 rfl ?_
  refine R_iro 776 dL_law_775 rfl rfl (la_in (k := 1) ha hL (by decide)) ?_
  refine R_callVi 779 (eX7_when (iv_mk hI)) dL_law_776 rfl kX7_when lL_112 rfl rfl rfl rfl rfl rfl rfl ?_
  refine R_icmp_eq 782 925 dL_law_779 rfl (by decide) (fun c1 => ?_) (fun c1 => ?_)
  ·
    exact k n ((sX6_when n m cf ca (xs ((nI a) + 1).toNatClampNeg)).2.1) i ((sX6_when n m cf ca (xs ((nI a) + 1).toNatClampNeg)).2.2.1) ((sX6_when n m cf ca (xs ((nI a) + 1).toNatClampNeg)).2.2.2) ((sX7_when f ar (xs ((nI a) + 1).toNatClampNeg)).2.1) ((sX7_when f ar (xs ((nI a) + 1).toNatClampNeg)).2.2) (pu_when (m := m) hI _).2
  ·
    refine R_iconst 783 dL_law_782 rfl (v := 0) (by decide) ?_
    refine R_ireturn dL_law_783 rfl (by decide) ?_
    exact absurd (pu_when (m := m) hI _).1 c1
set_option maxRecDepth 20000 in
theorem lc_row {g1 g2 g3 : ClassId} {L : Nat} {xs : Nat → Int32} {n m i : zP} {cf : Nat → Int32} {ca : Nat → Nat → Int32} {f : Nat → Int32} {ar : Nat → Nat → Int32} {a : Nat} (hI : Inv n i cf ca f ar) (ha : a + 4 ≤ L) (hL : L ≤ 2048) (k : ∀ (n m i : zP) (cf : Nat → Int32) (ca : Nat → Nat → Int32) (f : Nat → Int32) (ar : Nat → Nat → Int32), Inv n i cf ca f ar → R (g1, g2, g3, L, xs) mL_law 925 [(0, .ref 4000), (1, .ref 0), (2, .ref 100), (3, .int (nI a))] [] (hC (g1, g2, g3, L, xs) n m i cf ca, hM (g1, g2, g3, L, xs) f ar) (fun r _ => r = some (.int 1))) : R (g1, g2, g3, L, xs) mL_law 784 [(0, .ref 4000), (1, .ref 0), (2, .ref 100), (3, .int (nI a))] [] (hC (g1, g2, g3, L, xs) n m i cf ca, hM (g1, g2, g3, L, xs) f ar) (fun r _ => r = some (.int 1)) := by
  refine R_aload_n 785 dL_law_784 rfl rfl ?_
  refine R_aload_n 786 dL_law_785 rfl rfl ?_
  refine R_iload_n 787 dL_law_786 rfl rfl ?_
  refine R_iconst 788 dL_law_787 rfl (v := 1) (by decide) ?_
  refine R_iadd 789 dL_law_788 rfl ?_
  refine R_iro 790 dL_law_789 rfl rfl (la_in (k := 1) ha hL (by decide)) ?_
  refine R_callVi 793 (eX6_row_0 (iv_r0 hI)) dL_law_790 rfl kX6_row lL_113 rfl rfl rfl rfl rfl rfl rfl ?_
  refine R_aload_n 794 dL_law_793 rfl rfl ?_
  refine R_aload_n 795 dL_law_794 rfl rfl ?_
  refine R_iload_n 796 dL_law_795 rfl rfl ?_
  refine R_iconst 797 dL_law_796 rfl (v := 1) (by decide) ?_
  refine R_iadd 798 dL_law_797 rfl ?_
  refine R_iro 799 dL_law_798 rfl rfl (la_in (k := 1) ha hL (by decide)) ?_
  refine R_callVi 802 (eX7_row (iv_35 hI)) dL_law_799 rfl kX7_row lL_116 rfl rfl rfl rfl rfl rfl rfl ?_
  refine R_icmp_eq 805 925 dL_law_802 rfl (by decide) (fun c1 => ?_) (fun c1 => ?_)
  ·
    exact k n m i ((sX6_row n m cf ca (xs ((nI a) + 1).toNatClampNeg)).2.1) ((sX6_row n m cf ca (xs ((nI a) + 1).toNatClampNeg)).2.2) ((sX7_row f ar (xs ((nI a) + 1).toNatClampNeg)).2.1) ((sX7_row f ar (xs ((nI a) + 1).toNatClampNeg)).2.2) (pu_row (m := m) hI _).2
  ·
    refine R_iconst 806 dL_law_805 rfl (v := 0) (by decide) ?_
    refine R_ireturn dL_law_806 rfl (by decide) ?_
    exact absurd (pu_row (m := m) hI _).1 c1
set_option maxRecDepth 20000 in
theorem lc_kept {g1 g2 g3 : ClassId} {L : Nat} {xs : Nat → Int32} {n m i : zP} {cf : Nat → Int32} {ca : Nat → Nat → Int32} {f : Nat → Int32} {ar : Nat → Nat → Int32} {a : Nat} (hI : Inv n i cf ca f ar) (ha : a + 4 ≤ L) (hL : L ≤ 2048) (k : ∀ (n m i : zP) (cf : Nat → Int32) (ca : Nat → Nat → Int32) (f : Nat → Int32) (ar : Nat → Nat → Int32), Inv n i cf ca f ar → R (g1, g2, g3, L, xs) mL_law 925 [(0, .ref 4000), (1, .ref 0), (2, .ref 100), (3, .int (nI a))] [] (hC (g1, g2, g3, L, xs) n m i cf ca, hM (g1, g2, g3, L, xs) f ar) (fun r _ => r = some (.int 1))) : R (g1, g2, g3, L, xs) mL_law 807 [(0, .ref 4000), (1, .ref 0), (2, .ref 100), (3, .int (nI a))] [] (hC (g1, g2, g3, L, xs) n m i cf ca, hM (g1, g2, g3, L, xs) f ar) (fun r _ => r = some (.int 1)) := by
  refine R_aload_n 808 dL_law_807 rfl rfl ?_
  refine R_aload_n 809 dL_law_808 rfl rfl ?_
  refine R_iload_n 810 dL_law_809 rfl rfl ?_
  refine R_iconst 811 dL_law_810 rfl (v := 1) (by decide) ?_
  refine R_iadd 812 dL_law_811 rfl ?_
  refine R_iro 813 dL_law_812 rfl rfl (la_in (k := 1) ha hL (by decide)) ?_
  refine R_callVi 816 (eX6_kept_0 (iv_c12 hI)) dL_law_813 rfl kX6_kept lL_117 rfl rfl rfl rfl rfl rfl rfl ?_
  refine R_aload_n 817 dL_law_816 rfl rfl ?_
  refine R_aload_n 818 dL_law_817 rfl rfl ?_
  refine R_iload_n 819 dL_law_818 rfl rfl ?_
  refine R_iconst 820 dL_law_819 rfl (v := 1) (by decide) ?_
  refine R_iadd 821 dL_law_820 rfl ?_
  refine R_iro 822 dL_law_821 rfl rfl (la_in (k := 1) ha hL (by decide)) ?_
  refine R_callVi 825 (eX7_kept (iv_mk hI) (iv_12 hI)) dL_law_822 rfl kX7_kept lL_120 rfl rfl rfl rfl rfl rfl rfl ?_
  refine R_icmp_eq 828 925 dL_law_825 rfl (by decide) (fun c1 => ?_) (fun c1 => ?_)
  ·
    exact k n ((sX6_kept n m cf ca (xs ((nI a) + 1).toNatClampNeg)).2.1) i ((sX6_kept n m cf ca (xs ((nI a) + 1).toNatClampNeg)).2.2.1) ((sX6_kept n m cf ca (xs ((nI a) + 1).toNatClampNeg)).2.2.2) ((sX7_kept f ar (xs ((nI a) + 1).toNatClampNeg)).2.1) ((sX7_kept f ar (xs ((nI a) + 1).toNatClampNeg)).2.2) (pu_kept (m := m) hI _).2
  ·
    refine R_iconst 829 dL_law_828 rfl (v := 0) (by decide) ?_
    refine R_ireturn dL_law_829 rfl (by decide) ?_
    exact absurd (pu_kept (m := m) hI _).1 c1
set_option maxRecDepth 20000 in
theorem lc_judge {g1 g2 g3 : ClassId} {L : Nat} {xs : Nat → Int32} {n m i : zP} {cf : Nat → Int32} {ca : Nat → Nat → Int32} {f : Nat → Int32} {ar : Nat → Nat → Int32} {a : Nat} (hI : Inv n i cf ca f ar) (ha : a + 4 ≤ L) (hL : L ≤ 2048) (k : ∀ (n m i : zP) (cf : Nat → Int32) (ca : Nat → Nat → Int32) (f : Nat → Int32) (ar : Nat → Nat → Int32), Inv n i cf ca f ar → R (g1, g2, g3, L, xs) mL_law 925 [(0, .ref 4000), (1, .ref 0), (2, .ref 100), (3, .int (nI a))] [] (hC (g1, g2, g3, L, xs) n m i cf ca, hM (g1, g2, g3, L, xs) f ar) (fun r _ => r = some (.int 1))) : R (g1, g2, g3, L, xs) mL_law 830 [(0, .ref 4000), (1, .ref 0), (2, .ref 100), (3, .int (nI a))] [] (hC (g1, g2, g3, L, xs) n m i cf ca, hM (g1, g2, g3, L, xs) f ar) (fun r _ => r = some (.int 1)) := by
  refine R_aload_n 831 dL_law_830 rfl rfl ?_
  refine R_callVi 834 (eX6_judge_0 (iv_c12 hI)) dL_law_831 rfl kX6_judge lL_121 rfl rfl rfl rfl rfl rfl rfl ?_
  refine R_aload_n 835 dL_law_834 rfl rfl ?_
  refine R_callVi 838 (eX7_judge (iv_mk hI) (iv_12 hI)) dL_law_835 rfl kX7_judge lL_124 rfl rfl rfl rfl rfl rfl rfl ?_
  refine R_icmp_eq 841 925 dL_law_838 rfl (by decide) (fun c1 => ?_) (fun c1 => ?_)
  ·
    exact k n ((sX6_judge n m cf ca).2.1) i ((sX6_judge n m cf ca).2.2.1) ((sX6_judge n m cf ca).2.2.2) ((sX7_judge f ar).2.1) ((sX7_judge f ar).2.2) (pu_judge (m := m) hI).2
  ·
    refine R_iconst 842 dL_law_841 rfl (v := 0) (by decide) ?_
    refine R_ireturn dL_law_842 rfl (by decide) ?_
    exact absurd (pu_judge (m := m) hI).1 c1
set_option maxRecDepth 20000 in
theorem lc_lots {g1 g2 g3 : ClassId} {L : Nat} {xs : Nat → Int32} {n m i : zP} {cf : Nat → Int32} {ca : Nat → Nat → Int32} {f : Nat → Int32} {ar : Nat → Nat → Int32} {a : Nat} (hI : Inv n i cf ca f ar) (ha : a + 4 ≤ L) (hL : L ≤ 2048) (k : ∀ (n m i : zP) (cf : Nat → Int32) (ca : Nat → Nat → Int32) (f : Nat → Int32) (ar : Nat → Nat → Int32), Inv n i cf ca f ar → R (g1, g2, g3, L, xs) mL_law 925 [(0, .ref 4000), (1, .ref 0), (2, .ref 100), (3, .int (nI a))] [] (hC (g1, g2, g3, L, xs) n m i cf ca, hM (g1, g2, g3, L, xs) f ar) (fun r _ => r = some (.int 1))) : R (g1, g2, g3, L, xs) mL_law 843 [(0, .ref 4000), (1, .ref 0), (2, .ref 100), (3, .int (nI a))] [] (hC (g1, g2, g3, L, xs) n m i cf ca, hM (g1, g2, g3, L, xs) f ar) (fun r _ => r = some (.int 1)) := by
  refine R_aload_n 844 dL_law_843 rfl rfl ?_
  refine R_aload_n 845 dL_law_844 rfl rfl ?_
  refine R_iload_n 846 dL_law_845 rfl rfl ?_
  refine R_iconst 847 dL_law_846 rfl (v := 1) (by decide) ?_
  refine R_iadd 848 dL_law_847 rfl ?_
  refine R_iro 849 dL_law_848 rfl rfl (la_in (k := 1) ha hL (by decide)) ?_
  refine R_aload_n 850 dL_law_849 rfl rfl ?_
  refine R_iload_n 851 dL_law_850 rfl rfl ?_
  refine R_iconst 852 dL_law_851 rfl (v := 2) (by decide) ?_
  refine R_iadd 853 dL_law_852 rfl ?_
  refine R_iro 854 dL_law_853 rfl rfl (la_in (k := 2) ha hL (by decide)) ?_
  refine R_callVi 857 eX6_lots_0 dL_law_854 rfl kX6_lots lL_125 rfl rfl rfl rfl rfl rfl rfl ?_
  refine R_aload_n 858 dL_law_857 rfl rfl ?_
  refine R_aload_n 859 dL_law_858 rfl rfl ?_
  refine R_iload_n 860 dL_law_859 rfl rfl ?_
  refine R_iconst 861 dL_law_860 rfl (v := 1) (by decide) ?_
  refine R_iadd 862 dL_law_861 rfl ?_
  refine R_iro 863 dL_law_862 rfl rfl (la_in (k := 1) ha hL (by decide)) ?_
  refine R_aload_n 864 dL_law_863 rfl rfl ?_
  refine R_iload_n 865 dL_law_864 rfl rfl ?_
  refine R_iconst 866 dL_law_865 rfl (v := 2) (by decide) ?_
  refine R_iadd 867 dL_law_866 rfl ?_
  refine R_iro 868 dL_law_867 rfl rfl (la_in (k := 2) ha hL (by decide)) ?_
  refine R_callVi 871 (eX7_lots (iv_mk hI)) dL_law_868 rfl kX7_lots lL_128 rfl rfl rfl rfl rfl rfl rfl ?_
  refine R_icmp_eq 874 925 dL_law_871 rfl (by decide) (fun c1 => ?_) (fun c1 => ?_)
  ·
    exact k n ((sX6_lots n m cf ca (xs ((nI a) + 1).toNatClampNeg) (xs ((nI a) + 2).toNatClampNeg)).2.1) i ((sX6_lots n m cf ca (xs ((nI a) + 1).toNatClampNeg) (xs ((nI a) + 2).toNatClampNeg)).2.2.1) ((sX6_lots n m cf ca (xs ((nI a) + 1).toNatClampNeg) (xs ((nI a) + 2).toNatClampNeg)).2.2.2) ((sX7_lots f ar (xs ((nI a) + 1).toNatClampNeg) (xs ((nI a) + 2).toNatClampNeg)).2.1) ((sX7_lots f ar (xs ((nI a) + 1).toNatClampNeg) (xs ((nI a) + 2).toNatClampNeg)).2.2) (pu_lots (m := m) hI _ _).2
  ·
    refine R_iconst 875 dL_law_874 rfl (v := 0) (by decide) ?_
    refine R_ireturn dL_law_875 rfl (by decide) ?_
    exact absurd (pu_lots (m := m) hI _ _).1 c1
set_option maxRecDepth 20000 in
theorem lc_image {g1 g2 g3 : ClassId} {L : Nat} {xs : Nat → Int32} {n m i : zP} {cf : Nat → Int32} {ca : Nat → Nat → Int32} {f : Nat → Int32} {ar : Nat → Nat → Int32} {a : Nat} (hI : Inv n i cf ca f ar) (ha : a + 4 ≤ L) (hL : L ≤ 2048) (k : ∀ (n m i : zP) (cf : Nat → Int32) (ca : Nat → Nat → Int32) (f : Nat → Int32) (ar : Nat → Nat → Int32), Inv n i cf ca f ar → R (g1, g2, g3, L, xs) mL_law 925 [(0, .ref 4000), (1, .ref 0), (2, .ref 100), (3, .int (nI a))] [] (hC (g1, g2, g3, L, xs) n m i cf ca, hM (g1, g2, g3, L, xs) f ar) (fun r _ => r = some (.int 1))) : R (g1, g2, g3, L, xs) mL_law 876 [(0, .ref 4000), (1, .ref 0), (2, .ref 100), (3, .int (nI a))] [] (hC (g1, g2, g3, L, xs) n m i cf ca, hM (g1, g2, g3, L, xs) f ar) (fun r _ => r = some (.int 1)) := by
  refine R_aload_n 877 dL_law_876 rfl rfl ?_
  refine R_callVi 880 eX6_image_0 dL_law_877 rfl kX6_image lL_129 rfl rfl rfl rfl rfl rfl rfl ?_
  refine R_aload_n 881 dL_law_880 rfl rfl ?_
  refine R_callVi 884 eX7_image dL_law_881 rfl kX7_image lL_132 rfl rfl rfl rfl rfl rfl rfl ?_
  refine R_icmp_eq 887 925 dL_law_884 rfl (by decide) (fun c1 => ?_) (fun c1 => ?_)
  ·
    exact k n m ((sX6_image n m i cf ca).2.1) ((sX6_image n m i cf ca).2.2) ca ((sX7_image f ar).2.1) ((sX7_image f ar).2.2) (pu_image (m := m) hI).2
  ·
    refine R_iconst 888 dL_law_887 rfl (v := 0) (by decide) ?_
    refine R_ireturn dL_law_888 rfl (by decide) ?_
    exact absurd (pu_image (m := m) hI).1 c1
set_option maxRecDepth 20000 in
theorem lc_on {g1 g2 g3 : ClassId} {L : Nat} {xs : Nat → Int32} {n m i : zP} {cf : Nat → Int32} {ca : Nat → Nat → Int32} {f : Nat → Int32} {ar : Nat → Nat → Int32} {a : Nat} (hI : Inv n i cf ca f ar) (ha : a + 4 ≤ L) (hL : L ≤ 2048) (k : ∀ (n m i : zP) (cf : Nat → Int32) (ca : Nat → Nat → Int32) (f : Nat → Int32) (ar : Nat → Nat → Int32), Inv n i cf ca f ar → R (g1, g2, g3, L, xs) mL_law 925 [(0, .ref 4000), (1, .ref 0), (2, .ref 100), (3, .int (nI a))] [] (hC (g1, g2, g3, L, xs) n m i cf ca, hM (g1, g2, g3, L, xs) f ar) (fun r _ => r = some (.int 1))) : R (g1, g2, g3, L, xs) mL_law 889 [(0, .ref 4000), (1, .ref 0), (2, .ref 100), (3, .int (nI a))] [] (hC (g1, g2, g3, L, xs) n m i cf ca, hM (g1, g2, g3, L, xs) f ar) (fun r _ => r = some (.int 1)) := by
  refine R_aload_n 890 dL_law_889 rfl rfl ?_
  refine R_callVi 893 eX6_on_0 dL_law_890 rfl kX6_on lL_133 rfl rfl rfl rfl rfl rfl rfl ?_
  refine R_aload_n 894 dL_law_893 rfl rfl ?_
  refine R_callVi 897 eX7_on dL_law_894 rfl kX7_on lL_136 rfl rfl rfl rfl rfl rfl rfl ?_
  refine R_icmp_eq 900 925 dL_law_897 rfl (by decide) (fun c1 => ?_) (fun c1 => ?_)
  ·
    exact k ((sX6_on n m i cf ca).2.1) m i cf ((sX6_on n m i cf ca).2.2) ((sX7_on f ar).2.1) ((sX7_on f ar).2.2) (pu_on (m := m) hI).2
  ·
    refine R_iconst 901 dL_law_900 rfl (v := 0) (by decide) ?_
    refine R_ireturn dL_law_901 rfl (by decide) ?_
    exact absurd (pu_on (m := m) hI).1 c1
set_option maxRecDepth 20000 in
theorem lc_count {g1 g2 g3 : ClassId} {L : Nat} {xs : Nat → Int32} {n m i : zP} {cf : Nat → Int32} {ca : Nat → Nat → Int32} {f : Nat → Int32} {ar : Nat → Nat → Int32} {a : Nat} (hI : Inv n i cf ca f ar) (ha : a + 4 ≤ L) (hL : L ≤ 2048) (k : ∀ (n m i : zP) (cf : Nat → Int32) (ca : Nat → Nat → Int32) (f : Nat → Int32) (ar : Nat → Nat → Int32), Inv n i cf ca f ar → R (g1, g2, g3, L, xs) mL_law 925 [(0, .ref 4000), (1, .ref 0), (2, .ref 100), (3, .int (nI a))] [] (hC (g1, g2, g3, L, xs) n m i cf ca, hM (g1, g2, g3, L, xs) f ar) (fun r _ => r = some (.int 1))) : R (g1, g2, g3, L, xs) mL_law 902 [(0, .ref 4000), (1, .ref 0), (2, .ref 100), (3, .int (nI a))] [] (hC (g1, g2, g3, L, xs) n m i cf ca, hM (g1, g2, g3, L, xs) f ar) (fun r _ => r = some (.int 1)) := by
  refine R_aload_n 903 dL_law_902 rfl rfl ?_
  refine R_aload_n 904 dL_law_903 rfl rfl ?_
  refine R_iload_n 905 dL_law_904 rfl rfl ?_
  refine R_iconst 906 dL_law_905 rfl (v := 1) (by decide) ?_
  refine R_iadd 907 dL_law_906 rfl ?_
  refine R_iro 908 dL_law_907 rfl rfl (la_in (k := 1) ha hL (by decide)) ?_
  refine R_callVi 911 eX6_count_0 dL_law_908 rfl kX6_count lL_137 rfl rfl rfl rfl rfl rfl rfl ?_
  refine R_aload_n 912 dL_law_911 rfl rfl ?_
  refine R_aload_n 913 dL_law_912 rfl rfl ?_
  refine R_iload_n 914 dL_law_913 rfl rfl ?_
  refine R_iconst 915 dL_law_914 rfl (v := 1) (by decide) ?_
  refine R_iadd 916 dL_law_915 rfl ?_
  refine R_iro 917 dL_law_916 rfl rfl (la_in (k := 1) ha hL (by decide)) ?_
  refine R_callVi 920 (eX7_count (iv_mk hI)) dL_law_917 rfl kX7_count lL_140 rfl rfl rfl rfl rfl rfl rfl ?_
  refine R_icmp_eq 923 925 dL_law_920 rfl (by decide) (fun c1 => ?_) (fun c1 => ?_)
  ·
    exact k n m i cf ca f ar hI
  ·
    refine R_iconst 924 dL_law_923 rfl (v := 0) (by decide) ?_
    refine R_ireturn dL_law_924 rfl (by decide) ?_
    exact absurd (pu_count hI _).1 c1
theorem la_stop {L a : Nat} (hL : L ≤ 2048) (ha : a ≤ 3000) (h : ¬ a + 4 ≤ L) : Int32.ofNat L - 4 < nI a := by
  have e : Int32.ofNat L = nI L := rfl
  rw [e, Int32.lt_iff_toInt_lt, Int32.toInt_sub, nI_toInt (by omega), nI_toInt (by omega), show (4 : Int32).toInt = 4 by decide, Int.bmod_eq_of_le (by omega) (by omega)]
  omega
theorem la_go {L a : Nat} (hL : L ≤ 2048) (h : a + 4 ≤ L) : ¬ Int32.ofNat L - 4 < nI a := by
  have e : Int32.ofNat L = nI L := rfl
  rw [e, Int32.lt_iff_toInt_lt, Int32.toInt_sub, nI_toInt (by omega), nI_toInt (by omega), show (4 : Int32).toInt = 4 by decide, Int.bmod_eq_of_le (by omega) (by omega)]
  omega
set_option maxRecDepth 20000 in
theorem la_turn {g1 g2 g3 : ClassId} {L : Nat} {xs : Nat → Int32} {n m i : zP} {cf : Nat → Int32} {ca : Nat → Nat → Int32} {f : Nat → Int32} {ar : Nat → Nat → Int32} {a : Nat} (hI : Inv n i cf ca f ar) (ha : a + 4 ≤ L) (hL : L ≤ 2048) (k : ∀ (n m i : zP) (cf : Nat → Int32) (ca : Nat → Nat → Int32) (f : Nat → Int32) (ar : Nat → Nat → Int32), Inv n i cf ca f ar → R (g1, g2, g3, L, xs) mL_law 925 [(0, .ref 4000), (1, .ref 0), (2, .ref 100), (3, .int (nI a))] [] (hC (g1, g2, g3, L, xs) n m i cf ca, hM (g1, g2, g3, L, xs) f ar) (fun r _ => r = some (.int 1))) : R (g1, g2, g3, L, xs) mL_law 26 [(0, .ref 4000), (1, .ref 0), (2, .ref 100), (3, .int (nI a))] [] (hC (g1, g2, g3, L, xs) n m i cf ca, hM (g1, g2, g3, L, xs) f ar) (fun r _ => r = some (.int 1)) := by
  refine R_aload_n 27 dL_law_26 rfl rfl ?_
  refine R_iload_n 28 dL_law_27 rfl rfl ?_
  refine R_iro 29 dL_law_28 rfl rfl (la_0 ha hL) ?_
  refine R_bipush 31 dL_law_29 rfl (v := 31) (by decide) ?_
  refine R_iand 32 dL_law_31 rfl ?_
  by_cases c1 : ((xs (nI a).toNatClampNeg) &&& 31) = 0
  ·
    refine R_tableAt 172 (off := 140) 0 c1 dL_law_32 (by decide) (by decide) ?_
    exact lc_letter hI ha hL k
  by_cases c2 : ((xs (nI a).toNatClampNeg) &&& 31) = 1
  ·
    refine R_tableAt 195 (off := 163) 1 c2 dL_law_32 (by decide) (by decide) ?_
    exact lc_parlour hI ha hL k
  by_cases c3 : ((xs (nI a).toNatClampNeg) &&& 31) = 2
  ·
    refine R_tableAt 208 (off := 176) 2 c3 dL_law_32 (by decide) (by decide) ?_
    exact lc_person hI ha hL k
  by_cases c4 : ((xs (nI a).toNatClampNeg) &&& 31) = 3
  ·
    refine R_tableAt 241 (off := 209) 3 c4 dL_law_32 (by decide) (by decide) ?_
    exact lc_bothers hI ha hL k
  by_cases c5 : ((xs (nI a).toNatClampNeg) &&& 31) = 4
  ·
    refine R_tableAt 274 (off := 242) 4 c5 dL_law_32 (by decide) (by decide) ?_
    exact lc_place hI ha hL k
  by_cases c6 : ((xs (nI a).toNatClampNeg) &&& 31) = 5
  ·
    refine R_tableAt 297 (off := 265) 5 c6 dL_law_32 (by decide) (by decide) ?_
    exact lc_set hI ha hL k
  by_cases c7 : ((xs (nI a).toNatClampNeg) &&& 31) = 6
  ·
    refine R_tableAt 330 (off := 298) 6 c7 dL_law_32 (by decide) (by decide) ?_
    exact lc_kind hI ha hL k
  by_cases c8 : ((xs (nI a).toNatClampNeg) &&& 31) = 7
  ·
    refine R_tableAt 363 (off := 331) 7 c8 dL_law_32 (by decide) (by decide) ?_
    exact lc_turn hI ha hL k
  by_cases c9 : ((xs (nI a).toNatClampNeg) &&& 31) = 8
  ·
    refine R_tableAt 386 (off := 354) 8 c9 dL_law_32 (by decide) (by decide) ?_
    exact lc_drifts hI ha hL k
  by_cases c10 : ((xs (nI a).toNatClampNeg) &&& 31) = 9
  ·
    refine R_tableAt 409 (off := 377) 9 c10 dL_law_32 (by decide) (by decide) ?_
    exact lc_go hI ha hL k
  by_cases c11 : ((xs (nI a).toNatClampNeg) &&& 31) = 10
  ·
    refine R_tableAt 432 (off := 400) 10 c11 dL_law_32 (by decide) (by decide) ?_
    exact lc_cost hI ha hL k
  by_cases c12 : ((xs (nI a).toNatClampNeg) &&& 31) = 11
  ·
    refine R_tableAt 465 (off := 433) 11 c12 dL_law_32 (by decide) (by decide) ?_
    exact lc_at hI ha hL k
  by_cases c13 : ((xs (nI a).toNatClampNeg) &&& 31) = 12
  ·
    refine R_tableAt 488 (off := 456) 12 c13 dL_law_32 (by decide) (by decide) ?_
    exact lc_of hI ha hL k
  by_cases c14 : ((xs (nI a).toNatClampNeg) &&& 31) = 13
  ·
    refine R_tableAt 531 (off := 499) 13 c14 dL_law_32 (by decide) (by decide) ?_
    exact lc_best hI ha hL k
  by_cases c15 : ((xs (nI a).toNatClampNeg) &&& 31) = 14
  ·
    refine R_tableAt 564 (off := 532) 14 c15 dL_law_32 (by decide) (by decide) ?_
    exact lc_finer hI ha hL k
  by_cases c16 : ((xs (nI a).toNatClampNeg) &&& 31) = 15
  ·
    refine R_tableAt 597 (off := 565) 15 c16 dL_law_32 (by decide) (by decide) ?_
    exact lc_mark hI ha hL k
  by_cases c17 : ((xs (nI a).toNatClampNeg) &&& 31) = 16
  ·
    refine R_tableAt 620 (off := 588) 16 c17 dL_law_32 (by decide) (by decide) ?_
    exact lc_most hI ha hL k
  by_cases c18 : ((xs (nI a).toNatClampNeg) &&& 31) = 17
  ·
    refine R_tableAt 643 (off := 611) 17 c18 dL_law_32 (by decide) (by decide) ?_
    exact lc_between hI ha hL k
  by_cases c19 : ((xs (nI a).toNatClampNeg) &&& 31) = 18
  ·
    refine R_tableAt 666 (off := 634) 18 c19 dL_law_32 (by decide) (by decide) ?_
    exact lc_leave hI ha hL k
  by_cases c20 : ((xs (nI a).toNatClampNeg) &&& 31) = 19
  ·
    refine R_tableAt 689 (off := 657) 19 c20 dL_law_32 (by decide) (by decide) ?_
    exact lc_holds hI ha hL k
  by_cases c21 : ((xs (nI a).toNatClampNeg) &&& 31) = 20
  ·
    refine R_tableAt 712 (off := 680) 20 c21 dL_law_32 (by decide) (by decide) ?_
    exact lc_setAt hI ha hL k
  by_cases c22 : ((xs (nI a).toNatClampNeg) &&& 31) = 21
  ·
    refine R_tableAt 725 (off := 693) 21 c22 dL_law_32 (by decide) (by decide) ?_
    exact lc_steadyFrom hI ha hL k
  by_cases c23 : ((xs (nI a).toNatClampNeg) &&& 31) = 22
  ·
    refine R_tableAt 738 (off := 706) 22 c23 dL_law_32 (by decide) (by decide) ?_
    exact lc_whoLast hI ha hL k
  by_cases c24 : ((xs (nI a).toNatClampNeg) &&& 31) = 23
  ·
    refine R_tableAt 761 (off := 729) 23 c24 dL_law_32 (by decide) (by decide) ?_
    exact lc_when hI ha hL k
  by_cases c25 : ((xs (nI a).toNatClampNeg) &&& 31) = 24
  ·
    refine R_tableAt 784 (off := 752) 24 c25 dL_law_32 (by decide) (by decide) ?_
    exact lc_row hI ha hL k
  by_cases c26 : ((xs (nI a).toNatClampNeg) &&& 31) = 25
  ·
    refine R_tableAt 807 (off := 775) 25 c26 dL_law_32 (by decide) (by decide) ?_
    exact lc_kept hI ha hL k
  by_cases c27 : ((xs (nI a).toNatClampNeg) &&& 31) = 26
  ·
    refine R_tableAt 830 (off := 798) 26 c27 dL_law_32 (by decide) (by decide) ?_
    exact lc_judge hI ha hL k
  by_cases c28 : ((xs (nI a).toNatClampNeg) &&& 31) = 27
  ·
    refine R_tableAt 843 (off := 811) 27 c28 dL_law_32 (by decide) (by decide) ?_
    exact lc_lots hI ha hL k
  by_cases c29 : ((xs (nI a).toNatClampNeg) &&& 31) = 28
  ·
    refine R_tableAt 876 (off := 844) 28 c29 dL_law_32 (by decide) (by decide) ?_
    exact lc_image hI ha hL k
  by_cases c30 : ((xs (nI a).toNatClampNeg) &&& 31) = 29
  ·
    refine R_tableAt 889 (off := 857) 29 c30 dL_law_32 (by decide) (by decide) ?_
    exact lc_on hI ha hL k
  by_cases c31 : ((xs (nI a).toNatClampNeg) &&& 31) = 30
  ·
    refine R_tableAt 902 (off := 870) 30 c31 dL_law_32 (by decide) (by decide) ?_
    exact lc_count hI ha hL k
  refine R_tableD 925 [0, 1, 2, 3, 4, 5, 6, 7, 8, 9, 10, 11, 12, 13, 14, 15, 16, 17, 18, 19, 20, 21, 22, 23, 24, 25, 26, 27, 28, 29, 30] dL_law_32 (List.forall_mem_cons.mpr ⟨lv_neT c1 (show (0 : Int32).toInt = 0 by decide), List.forall_mem_cons.mpr ⟨lv_neT c2 (show (1 : Int32).toInt = 1 by decide), List.forall_mem_cons.mpr ⟨lv_neT c3 (show (2 : Int32).toInt = 2 by decide), List.forall_mem_cons.mpr ⟨lv_neT c4 (show (3 : Int32).toInt = 3 by decide), List.forall_mem_cons.mpr ⟨lv_neT c5 (show (4 : Int32).toInt = 4 by decide), List.forall_mem_cons.mpr ⟨lv_neT c6 (show (5 : Int32).toInt = 5 by decide), List.forall_mem_cons.mpr ⟨lv_neT c7 (show (6 : Int32).toInt = 6 by decide), List.forall_mem_cons.mpr ⟨lv_neT c8 (show (7 : Int32).toInt = 7 by decide), List.forall_mem_cons.mpr ⟨lv_neT c9 (show (8 : Int32).toInt = 8 by decide), List.forall_mem_cons.mpr ⟨lv_neT c10 (show (9 : Int32).toInt = 9 by decide), List.forall_mem_cons.mpr ⟨lv_neT c11 (show (10 : Int32).toInt = 10 by decide), List.forall_mem_cons.mpr ⟨lv_neT c12 (show (11 : Int32).toInt = 11 by decide), List.forall_mem_cons.mpr ⟨lv_neT c13 (show (12 : Int32).toInt = 12 by decide), List.forall_mem_cons.mpr ⟨lv_neT c14 (show (13 : Int32).toInt = 13 by decide), List.forall_mem_cons.mpr ⟨lv_neT c15 (show (14 : Int32).toInt = 14 by decide), List.forall_mem_cons.mpr ⟨lv_neT c16 (show (15 : Int32).toInt = 15 by decide), List.forall_mem_cons.mpr ⟨lv_neT c17 (show (16 : Int32).toInt = 16 by decide), List.forall_mem_cons.mpr ⟨lv_neT c18 (show (17 : Int32).toInt = 17 by decide), List.forall_mem_cons.mpr ⟨lv_neT c19 (show (18 : Int32).toInt = 18 by decide), List.forall_mem_cons.mpr ⟨lv_neT c20 (show (19 : Int32).toInt = 19 by decide), List.forall_mem_cons.mpr ⟨lv_neT c21 (show (20 : Int32).toInt = 20 by decide), List.forall_mem_cons.mpr ⟨lv_neT c22 (show (21 : Int32).toInt = 21 by decide), List.forall_mem_cons.mpr ⟨lv_neT c23 (show (22 : Int32).toInt = 22 by decide), List.forall_mem_cons.mpr ⟨lv_neT c24 (show (23 : Int32).toInt = 23 by decide), List.forall_mem_cons.mpr ⟨lv_neT c25 (show (24 : Int32).toInt = 24 by decide), List.forall_mem_cons.mpr ⟨lv_neT c26 (show (25 : Int32).toInt = 25 by decide), List.forall_mem_cons.mpr ⟨lv_neT c27 (show (26 : Int32).toInt = 26 by decide), List.forall_mem_cons.mpr ⟨lv_neT c28 (show (27 : Int32).toInt = 27 by decide), List.forall_mem_cons.mpr ⟨lv_neT c29 (show (28 : Int32).toInt = 28 by decide), List.forall_mem_cons.mpr ⟨lv_neT c30 (show (29 : Int32).toInt = 29 by decide), List.forall_mem_cons.mpr ⟨lv_neT c31 (show (30 : Int32).toInt = 30 by decide), fun _ h => absurd h List.not_mem_nil⟩⟩⟩⟩⟩⟩⟩⟩⟩⟩⟩⟩⟩⟩⟩⟩⟩⟩⟩⟩⟩⟩⟩⟩⟩⟩⟩⟩⟩⟩⟩) (by decide) (by decide) ?_
  exact k n m i cf ca f ar hI
theorem la_loop {g1 g2 g3 : ClassId} {L : Nat} {xs : Nat → Int32} (hL : L ≤ 2048) : ∀ (j a : Nat) (n m i : zP) (cf : Nat → Int32) (ca : Nat → Nat → Int32) (f : Nat → Int32) (ar : Nat → Nat → Int32), Inv n i cf ca f ar → L ≤ a + 4 * j → a ≤ 3000 → R (g1, g2, g3, L, xs) mL_law 18 [(0, .ref 4000), (1, .ref 0), (2, .ref 100), (3, .int (nI a))] [] (hC (g1, g2, g3, L, xs) n m i cf ca, hM (g1, g2, g3, L, xs) f ar) (fun r _ => r = some (.int 1)) := by
  intro j
  induction j with
  | zero =>
    intro a n m i cf ca f ar hI hj ha
    refine R_iload_n 19 dL_law_18 rfl rfl ?_
    refine R_aload_n 20 dL_law_19 rfl rfl ?_
    refine R_rolen 21 dL_law_20 rfl rfl ?_
    refine R_iconst 22 dL_law_21 rfl (v := 4) (by decide) ?_
    refine R_isub 23 dL_law_22 rfl ?_
    refine R_icmp_gt 26 931 dL_law_23 rfl (by decide) (fun _ => ?_) (fun c => absurd (la_stop hL ha (by omega)) c)
    refine R_iconst 932 dL_law_931 rfl (v := 1) (by decide) ?_
    refine R_ireturn dL_law_932 rfl (by decide) ?_
    exact rfl
  | succ j ih =>
    intro a n m i cf ca f ar hI hj ha
    refine R_iload_n 19 dL_law_18 rfl rfl ?_
    refine R_aload_n 20 dL_law_19 rfl rfl ?_
    refine R_rolen 21 dL_law_20 rfl rfl ?_
    refine R_iconst 22 dL_law_21 rfl (v := 4) (by decide) ?_
    refine R_isub 23 dL_law_22 rfl ?_
    by_cases hc : a + 4 ≤ L
    · refine R_icmp_gt 26 931 dL_law_23 rfl (by decide) (fun c => absurd c (la_go hL hc)) (fun _ => ?_)
      refine la_turn hI hc hL (fun n m i cf ca f ar hI => ?_)
      refine R_iinc 928 dL_law_925 rfl rfl (v := nI (a + 4)) (nI_add a 4) rfl (by decide) (loc' := [(0, .ref 4000), (1, .ref 0), (2, .ref 100), (3, .int (nI (a + 4)))]) rfl ?_
      refine R_goto 18 dL_law_928 (by decide) ?_
      exact ih (a + 4) n m i cf ca f ar hI (by omega) (by omega)
    · refine R_icmp_gt 26 931 dL_law_23 rfl (by decide) (fun _ => ?_) (fun c => absurd (la_stop hL ha hc) c)
      refine R_iconst 932 dL_law_931 rfl (v := 1) (by decide) ?_
      refine R_ireturn dL_law_932 rfl (by decide) ?_
      exact rfl
