theorem zw_toInt (x : Int32) : zw x.toInt = x.toInt := by unfold zw; rw [zi_toInt]
theorem zwl_toInt (x : Int64) : zwl x.toInt = x.toInt := by unfold zwl; rw [zl_toInt]
theorem zw_iadd {i L : Nat} (j : Nat) (hi : i + 6 ≤ L) (hL : L ≤ 3072) (hj : j ≤ 6 := by decide) : zw ((i : Int) + (j : Int)) = ((i + j : Nat) : Int) := by
  rw [zw_id (by omega)]
  omega
def zS0 (N : Nat) (R : Nat → zH → Prop) : Prop := ∀ (c : Nat) (h : zH), c < 512 → R c h → ∀ (a1 : Int) (a2 : Int) (a3 : Int) (a4 : Int) (a5 : Int) (_ : zw a1 = a1) (_ : zw a2 = a2) (_ : zw a3 = a3) (_ : zw a4 = a4) (_ : zw a5 = a5), ∃ (r s : Int) (h1 : zH) (h2 : zH), fX10_feed N a1 a2 a3 a4 a5 h = some (r, h1) ∧ fX11_feed N a1 a2 a3 a4 a5 h1 = some (s, h2) ∧ zi r = zi s ∧ R (c + 1) h2
set_option maxRecDepth 20000 in
set_option maxHeartbeats 4000000 in
theorem law_case0 {υ : zU} (C : yV υ RL code 7 ret) {σ : zSg} (hG : zG σ (yA υ) (ys υ) (ys υ).heap) (hRm : yR υ = room_1) {α : Nat → Nat} {nn : Nat} (hn : zN ≤ nn ∧ nn ≤ zN + 1) {b0 L oa i c k n : Nat} {xs : Nat → Int32} {ex : va_W} (hX : va_X b0 L xs (ys υ) (ys υ).heap) (hbl : b0 < (ys υ).heap.size) (hbA : ¬ yA υ b0) (hL : L ≤ 3072) (hi : i + 6 ≤ L) (hc : c < 512) (hkn : k ≤ (yR υ).cells ∧ n ≤ (yR υ).slots) {N : Nat} {R : Nat → zH → Prop} (HR : zS0 N R) {h : zH} (hRc : R c h) (kk : ∀ h2, R (c + 1) h2 → zY υ (zws (ycy υ) α nn h2 ++ ex) k n 1360 [(0, .ref b0), (1, .ref (α 0)), (2, .ref (α 14)), (3, .ref oa), (4, .int (zi (i : Int)))] []) : zY υ (zws (ycy υ) α nn h ++ ex) k n 204 [(0, .ref b0), (1, .ref (α 0)), (2, .ref (α 14)), (3, .ref oa), (4, .int (zi (i : Int)))] [] := by
  obtain ⟨r, s, h1, h2, e1, e2, e3, hR⟩ := HR c h hc hRc ((xs (i + 1)).toInt) ((xs (i + 2)).toInt) ((xs (i + 3)).toInt) ((xs (i + 4)).toInt) ((xs (i + 5)).toInt) (zw_toInt _) (zw_toInt _) (zw_toInt _) (zw_toInt _) (zw_toInt _)
  refine y_aload_n (q := 205) C dL_law_204 1 rfl rfl rfl ?_
  refine y_aload_n (q := 206) C dL_law_205 0 rfl rfl rfl ?_
  refine y_iload (q := 208) C dL_law_206 4 rfl rfl ?_
  refine y_iconst (q := 209) (v := zi 1) C dL_law_208 rfl rfl ?_
  refine y_iadd (q := 210) C dL_law_209 rfl ?_
  refine y_sld (q := 211) (j := i + 1) C hX hbl hbA (zw_iadd 1 hi hL) (by omega) dL_law_210 rfl ?_
  refine y_aload_n (q := 212) C dL_law_211 0 rfl rfl rfl ?_
  refine y_iload (q := 214) C dL_law_212 4 rfl rfl ?_
  refine y_iconst (q := 215) (v := zi 2) C dL_law_214 rfl rfl ?_
  refine y_iadd (q := 216) C dL_law_215 rfl ?_
  refine y_sld (q := 217) (j := i + 2) C hX hbl hbA (zw_iadd 2 hi hL) (by omega) dL_law_216 rfl ?_
  refine y_aload_n (q := 218) C dL_law_217 0 rfl rfl rfl ?_
  refine y_iload (q := 220) C dL_law_218 4 rfl rfl ?_
  refine y_iconst (q := 221) (v := zi 3) C dL_law_220 rfl rfl ?_
  refine y_iadd (q := 222) C dL_law_221 rfl ?_
  refine y_sld (q := 223) (j := i + 3) C hX hbl hbA (zw_iadd 3 hi hL) (by omega) dL_law_222 rfl ?_
  refine y_aload_n (q := 224) C dL_law_223 0 rfl rfl rfl ?_
  refine y_iload (q := 226) C dL_law_224 4 rfl rfl ?_
  refine y_iconst (q := 227) (v := zi 4) C dL_law_226 rfl rfl ?_
  refine y_iadd (q := 228) C dL_law_227 rfl ?_
  refine y_sld (q := 229) (j := i + 4) C hX hbl hbA (zw_iadd 4 hi hL) (by omega) dL_law_228 rfl ?_
  refine y_aload_n (q := 230) C dL_law_229 0 rfl rfl rfl ?_
  refine y_iload (q := 232) C dL_law_230 4 rfl rfl ?_
  refine y_iconst (q := 233) (v := zi 5) C dL_law_232 rfl rfl ?_
  refine y_iadd (q := 234) C dL_law_233 rfl ?_
  refine y_sld (q := 235) (j := i + 5) C hX hbl hbA (zw_iadd 5 hi hL) (by omega) dL_law_234 rfl ?_
  refine y_callV (q := 238) (o := 0) (d := 2000) (av := [.int (zi (xs (i + 1)).toInt), .int (zi (xs (i + 2)).toInt), .int (zi (xs (i + 3)).toInt), .int (zi (xs (i + 4)).toInt), .int (zi (xs (i + 5)).toInt)]) (rest := []) (stk2 := [.int (zi r)]) C hG hn clX10 zo_0 kd_0 (M_fX10_feed (by decide) e1) mY_X10_feed ⟨by rw [hRm]; exact Nat.le_of_ble_eq_true rfl, by rw [hRm]; exact Nat.le_of_ble_eq_true rfl⟩ hkn q_320 (Nat.le_of_ble_eq_true rfl) dL_law_235 rfl rfl rfl ?_
  refine y_aload_n (q := 239) C dL_law_238 2 rfl rfl rfl ?_
  refine y_aload_n (q := 240) C dL_law_239 0 rfl rfl rfl ?_
  refine y_iload (q := 242) C dL_law_240 4 rfl rfl ?_
  refine y_iconst (q := 243) (v := zi 1) C dL_law_242 rfl rfl ?_
  refine y_iadd (q := 244) C dL_law_243 rfl ?_
  refine y_sld (q := 245) (j := i + 1) C hX hbl hbA (zw_iadd 1 hi hL) (by omega) dL_law_244 rfl ?_
  refine y_aload_n (q := 246) C dL_law_245 0 rfl rfl rfl ?_
  refine y_iload (q := 248) C dL_law_246 4 rfl rfl ?_
  refine y_iconst (q := 249) (v := zi 2) C dL_law_248 rfl rfl ?_
  refine y_iadd (q := 250) C dL_law_249 rfl ?_
  refine y_sld (q := 251) (j := i + 2) C hX hbl hbA (zw_iadd 2 hi hL) (by omega) dL_law_250 rfl ?_
  refine y_aload_n (q := 252) C dL_law_251 0 rfl rfl rfl ?_
  refine y_iload (q := 254) C dL_law_252 4 rfl rfl ?_
  refine y_iconst (q := 255) (v := zi 3) C dL_law_254 rfl rfl ?_
  refine y_iadd (q := 256) C dL_law_255 rfl ?_
  refine y_sld (q := 257) (j := i + 3) C hX hbl hbA (zw_iadd 3 hi hL) (by omega) dL_law_256 rfl ?_
  refine y_aload_n (q := 258) C dL_law_257 0 rfl rfl rfl ?_
  refine y_iload (q := 260) C dL_law_258 4 rfl rfl ?_
  refine y_iconst (q := 261) (v := zi 4) C dL_law_260 rfl rfl ?_
  refine y_iadd (q := 262) C dL_law_261 rfl ?_
  refine y_sld (q := 263) (j := i + 4) C hX hbl hbA (zw_iadd 4 hi hL) (by omega) dL_law_262 rfl ?_
  refine y_aload_n (q := 264) C dL_law_263 0 rfl rfl rfl ?_
  refine y_iload (q := 266) C dL_law_264 4 rfl rfl ?_
  refine y_iconst (q := 267) (v := zi 5) C dL_law_266 rfl rfl ?_
  refine y_iadd (q := 268) C dL_law_267 rfl ?_
  refine y_sld (q := 269) (j := i + 5) C hX hbl hbA (zw_iadd 5 hi hL) (by omega) dL_law_268 rfl ?_
  refine y_callV (q := 272) (o := 14) (d := 2000) (av := [.int (zi (xs (i + 1)).toInt), .int (zi (xs (i + 2)).toInt), .int (zi (xs (i + 3)).toInt), .int (zi (xs (i + 4)).toInt), .int (zi (xs (i + 5)).toInt)]) (rest := [.int (zi r)]) (stk2 := [.int (zi s), .int (zi r)]) C hG hn clX11 zo_14 kd_14 (M_fX11_feed (by decide) e2) mY_X11_feed ⟨by rw [hRm]; exact Nat.le_of_ble_eq_true rfl, by rw [hRm]; exact Nat.le_of_ble_eq_true rfl⟩ hkn q_1257 (Nat.le_of_ble_eq_true rfl) dL_law_269 rfl rfl rfl ?_
  refine y_icmp_eqT (tgt := 1360) C e3 dL_law_272 (by decide) ?_
  exact kk h2 hR
def zS1 (N : Nat) (R : Nat → zH → Prop) : Prop := ∀ (c : Nat) (h : zH), c < 512 → R c h → ∀ (a1 : Int) (_ : zw a1 = a1), ∃ (r s : Int) (h1 : zH) (h2 : zH), fX10_end a1 h = (r, h1) ∧ fX11_end a1 h1 = (s, h2) ∧ zi r = zi s ∧ R (c + 1) h2
set_option maxRecDepth 20000 in
set_option maxHeartbeats 4000000 in
theorem law_case1 {υ : zU} (C : yV υ RL code 7 ret) {σ : zSg} (hG : zG σ (yA υ) (ys υ) (ys υ).heap) (hRm : yR υ = room_1) {α : Nat → Nat} {nn : Nat} (hn : zN ≤ nn ∧ nn ≤ zN + 1) {b0 L oa i c k n : Nat} {xs : Nat → Int32} {ex : va_W} (hX : va_X b0 L xs (ys υ) (ys υ).heap) (hbl : b0 < (ys υ).heap.size) (hbA : ¬ yA υ b0) (hL : L ≤ 3072) (hi : i + 6 ≤ L) (hc : c < 512) (hkn : k ≤ (yR υ).cells ∧ n ≤ (yR υ).slots) {N : Nat} {R : Nat → zH → Prop} (HR : zS1 N R) {h : zH} (hRc : R c h) (kk : ∀ h2, R (c + 1) h2 → zY υ (zws (ycy υ) α nn h2 ++ ex) k n 1360 [(0, .ref b0), (1, .ref (α 0)), (2, .ref (α 14)), (3, .ref oa), (4, .int (zi (i : Int)))] []) : zY υ (zws (ycy υ) α nn h ++ ex) k n 277 [(0, .ref b0), (1, .ref (α 0)), (2, .ref (α 14)), (3, .ref oa), (4, .int (zi (i : Int)))] [] := by
  obtain ⟨r, s, h1, h2, e1, e2, e3, hR⟩ := HR c h hc hRc ((xs (i + 1)).toInt) (zw_toInt _)
  refine y_aload_n (q := 278) C dL_law_277 1 rfl rfl rfl ?_
  refine y_aload_n (q := 279) C dL_law_278 0 rfl rfl rfl ?_
  refine y_iload (q := 281) C dL_law_279 4 rfl rfl ?_
  refine y_iconst (q := 282) (v := zi 1) C dL_law_281 rfl rfl ?_
  refine y_iadd (q := 283) C dL_law_282 rfl ?_
  refine y_sld (q := 284) (j := i + 1) C hX hbl hbA (zw_iadd 1 hi hL) (by omega) dL_law_283 rfl ?_
  refine y_callV (q := 287) (o := 0) (d := 2000) (av := [.int (zi (xs (i + 1)).toInt)]) (rest := []) (stk2 := [.int (zi r)]) C hG hn clX10 zo_0 kd_0 (M_fX10_end (by decide) e1) mY_X10_end ⟨by rw [hRm]; exact Nat.le_of_ble_eq_true rfl, by rw [hRm]; exact Nat.le_of_ble_eq_true rfl⟩ hkn q_334 (Nat.le_of_ble_eq_true rfl) dL_law_284 rfl rfl rfl ?_
  refine y_aload_n (q := 288) C dL_law_287 2 rfl rfl rfl ?_
  refine y_aload_n (q := 289) C dL_law_288 0 rfl rfl rfl ?_
  refine y_iload (q := 291) C dL_law_289 4 rfl rfl ?_
  refine y_iconst (q := 292) (v := zi 1) C dL_law_291 rfl rfl ?_
  refine y_iadd (q := 293) C dL_law_292 rfl ?_
  refine y_sld (q := 294) (j := i + 1) C hX hbl hbA (zw_iadd 1 hi hL) (by omega) dL_law_293 rfl ?_
  refine y_callV (q := 297) (o := 14) (d := 2000) (av := [.int (zi (xs (i + 1)).toInt)]) (rest := [.int (zi r)]) (stk2 := [.int (zi s), .int (zi r)]) C hG hn clX11 zo_14 kd_14 (M_fX11_end (by decide) e2) mY_X11_end ⟨by rw [hRm]; exact Nat.le_of_ble_eq_true rfl, by rw [hRm]; exact Nat.le_of_ble_eq_true rfl⟩ hkn q_1264 (Nat.le_of_ble_eq_true rfl) dL_law_294 rfl rfl rfl ?_
  refine y_icmp_eqT (tgt := 1360) C e3 dL_law_297 (by decide) ?_
  exact kk h2 hR
def zS2 (N : Nat) (R : Nat → zH → Prop) : Prop := ∀ (c : Nat) (h : zH), c < 512 → R c h → ∀ (a1 : Int) (_ : zw a1 = a1), ∃ (r s : Int) (h1 : zH) (h2 : zH), fX10_fault N a1 h = some (r, h1) ∧ fX11_fault N a1 h1 = some (s, h2) ∧ zi r = zi s ∧ R (c + 1) h2
set_option maxRecDepth 20000 in
set_option maxHeartbeats 4000000 in
theorem law_case2 {υ : zU} (C : yV υ RL code 7 ret) {σ : zSg} (hG : zG σ (yA υ) (ys υ) (ys υ).heap) (hRm : yR υ = room_1) {α : Nat → Nat} {nn : Nat} (hn : zN ≤ nn ∧ nn ≤ zN + 1) {b0 L oa i c k n : Nat} {xs : Nat → Int32} {ex : va_W} (hX : va_X b0 L xs (ys υ) (ys υ).heap) (hbl : b0 < (ys υ).heap.size) (hbA : ¬ yA υ b0) (hL : L ≤ 3072) (hi : i + 6 ≤ L) (hc : c < 512) (hkn : k ≤ (yR υ).cells ∧ n ≤ (yR υ).slots) {N : Nat} {R : Nat → zH → Prop} (HR : zS2 N R) {h : zH} (hRc : R c h) (kk : ∀ h2, R (c + 1) h2 → zY υ (zws (ycy υ) α nn h2 ++ ex) k n 1360 [(0, .ref b0), (1, .ref (α 0)), (2, .ref (α 14)), (3, .ref oa), (4, .int (zi (i : Int)))] []) : zY υ (zws (ycy υ) α nn h ++ ex) k n 302 [(0, .ref b0), (1, .ref (α 0)), (2, .ref (α 14)), (3, .ref oa), (4, .int (zi (i : Int)))] [] := by
  obtain ⟨r, s, h1, h2, e1, e2, e3, hR⟩ := HR c h hc hRc ((xs (i + 1)).toInt) (zw_toInt _)
  refine y_aload_n (q := 303) C dL_law_302 1 rfl rfl rfl ?_
  refine y_aload_n (q := 304) C dL_law_303 0 rfl rfl rfl ?_
  refine y_iload (q := 306) C dL_law_304 4 rfl rfl ?_
  refine y_iconst (q := 307) (v := zi 1) C dL_law_306 rfl rfl ?_
  refine y_iadd (q := 308) C dL_law_307 rfl ?_
  refine y_sld (q := 309) (j := i + 1) C hX hbl hbA (zw_iadd 1 hi hL) (by omega) dL_law_308 rfl ?_
  refine y_callV (q := 312) (o := 0) (d := 2000) (av := [.int (zi (xs (i + 1)).toInt)]) (rest := []) (stk2 := [.int (zi r)]) C hG hn clX10 zo_0 kd_0 (M_fX10_fault (by decide) e1) mY_X10_fault ⟨by rw [hRm]; exact Nat.le_of_ble_eq_true rfl, by rw [hRm]; exact Nat.le_of_ble_eq_true rfl⟩ hkn q_338 (Nat.le_of_ble_eq_true rfl) dL_law_309 rfl rfl rfl ?_
  refine y_aload_n (q := 313) C dL_law_312 2 rfl rfl rfl ?_
  refine y_aload_n (q := 314) C dL_law_313 0 rfl rfl rfl ?_
  refine y_iload (q := 316) C dL_law_314 4 rfl rfl ?_
  refine y_iconst (q := 317) (v := zi 1) C dL_law_316 rfl rfl ?_
  refine y_iadd (q := 318) C dL_law_317 rfl ?_
  refine y_sld (q := 319) (j := i + 1) C hX hbl hbA (zw_iadd 1 hi hL) (by omega) dL_law_318 rfl ?_
  refine y_callV (q := 322) (o := 14) (d := 2000) (av := [.int (zi (xs (i + 1)).toInt)]) (rest := [.int (zi r)]) (stk2 := [.int (zi s), .int (zi r)]) C hG hn clX11 zo_14 kd_14 (M_fX11_fault (by decide) e2) mY_X11_fault ⟨by rw [hRm]; exact Nat.le_of_ble_eq_true rfl, by rw [hRm]; exact Nat.le_of_ble_eq_true rfl⟩ hkn q_1268 (Nat.le_of_ble_eq_true rfl) dL_law_319 rfl rfl rfl ?_
  refine y_icmp_eqT (tgt := 1360) C e3 dL_law_322 (by decide) ?_
  exact kk h2 hR
def zS3 (N : Nat) (R : Nat → zH → Prop) : Prop := ∀ (c : Nat) (h : zH), c < 512 → R c h → ∀ (a1 : Int) (_ : zw a1 = a1), ∃ (r s : Int) (h1 : zH) (h2 : zH), fX10_text N a1 h = some (r, h1) ∧ fX11_text N a1 h1 = some (s, h2) ∧ zi r = zi s ∧ R (c + 1) h2
set_option maxRecDepth 20000 in
set_option maxHeartbeats 4000000 in
theorem law_case3 {υ : zU} (C : yV υ RL code 7 ret) {σ : zSg} (hG : zG σ (yA υ) (ys υ) (ys υ).heap) (hRm : yR υ = room_1) {α : Nat → Nat} {nn : Nat} (hn : zN ≤ nn ∧ nn ≤ zN + 1) {b0 L oa i c k n : Nat} {xs : Nat → Int32} {ex : va_W} (hX : va_X b0 L xs (ys υ) (ys υ).heap) (hbl : b0 < (ys υ).heap.size) (hbA : ¬ yA υ b0) (hL : L ≤ 3072) (hi : i + 6 ≤ L) (hc : c < 512) (hkn : k ≤ (yR υ).cells ∧ n ≤ (yR υ).slots) {N : Nat} {R : Nat → zH → Prop} (HR : zS3 N R) {h : zH} (hRc : R c h) (kk : ∀ h2, R (c + 1) h2 → zY υ (zws (ycy υ) α nn h2 ++ ex) k n 1360 [(0, .ref b0), (1, .ref (α 0)), (2, .ref (α 14)), (3, .ref oa), (4, .int (zi (i : Int)))] []) : zY υ (zws (ycy υ) α nn h ++ ex) k n 327 [(0, .ref b0), (1, .ref (α 0)), (2, .ref (α 14)), (3, .ref oa), (4, .int (zi (i : Int)))] [] := by
  obtain ⟨r, s, h1, h2, e1, e2, e3, hR⟩ := HR c h hc hRc ((xs (i + 1)).toInt) (zw_toInt _)
  refine y_aload_n (q := 328) C dL_law_327 1 rfl rfl rfl ?_
  refine y_aload_n (q := 329) C dL_law_328 0 rfl rfl rfl ?_
  refine y_iload (q := 331) C dL_law_329 4 rfl rfl ?_
  refine y_iconst (q := 332) (v := zi 1) C dL_law_331 rfl rfl ?_
  refine y_iadd (q := 333) C dL_law_332 rfl ?_
  refine y_sld (q := 334) (j := i + 1) C hX hbl hbA (zw_iadd 1 hi hL) (by omega) dL_law_333 rfl ?_
  refine y_callV (q := 337) (o := 0) (d := 2000) (av := [.int (zi (xs (i + 1)).toInt)]) (rest := []) (stk2 := [.int (zi r)]) C hG hn clX10 zo_0 kd_0 (M_fX10_text (by decide) e1) mY_X10_text ⟨by rw [hRm]; exact Nat.le_of_ble_eq_true rfl, by rw [hRm]; exact Nat.le_of_ble_eq_true rfl⟩ hkn q_566 (Nat.le_of_ble_eq_true rfl) dL_law_334 rfl rfl rfl ?_
  refine y_aload_n (q := 338) C dL_law_337 2 rfl rfl rfl ?_
  refine y_aload_n (q := 339) C dL_law_338 0 rfl rfl rfl ?_
  refine y_iload (q := 341) C dL_law_339 4 rfl rfl ?_
  refine y_iconst (q := 342) (v := zi 1) C dL_law_341 rfl rfl ?_
  refine y_iadd (q := 343) C dL_law_342 rfl ?_
  refine y_sld (q := 344) (j := i + 1) C hX hbl hbA (zw_iadd 1 hi hL) (by omega) dL_law_343 rfl ?_
  refine y_callV (q := 347) (o := 14) (d := 2000) (av := [.int (zi (xs (i + 1)).toInt)]) (rest := [.int (zi r)]) (stk2 := [.int (zi s), .int (zi r)]) C hG hn clX11 zo_14 kd_14 (M_fX11_text (by decide) e2) mY_X11_text ⟨by rw [hRm]; exact Nat.le_of_ble_eq_true rfl, by rw [hRm]; exact Nat.le_of_ble_eq_true rfl⟩ hkn q_1406 (Nat.le_of_ble_eq_true rfl) dL_law_344 rfl rfl rfl ?_
  refine y_icmp_eqT (tgt := 1360) C e3 dL_law_347 (by decide) ?_
  exact kk h2 hR
def zS4 (N : Nat) (R : Nat → zH → Prop) : Prop := ∀ (c : Nat) (h : zH), c < 512 → R c h → ∀ (a1 : Int) (_ : zw a1 = a1), ∃ (r s : Int), fX10_sun a1 h = r ∧ fX11_sun a1 h = some s ∧ zi r = zi s ∧ R (c + 1) h
set_option maxRecDepth 20000 in
set_option maxHeartbeats 4000000 in
theorem law_case4 {υ : zU} (C : yV υ RL code 7 ret) {σ : zSg} (hG : zG σ (yA υ) (ys υ) (ys υ).heap) (hRm : yR υ = room_1) {α : Nat → Nat} {nn : Nat} (hn : zN ≤ nn ∧ nn ≤ zN + 1) {b0 L oa i c k n : Nat} {xs : Nat → Int32} {ex : va_W} (hX : va_X b0 L xs (ys υ) (ys υ).heap) (hbl : b0 < (ys υ).heap.size) (hbA : ¬ yA υ b0) (hL : L ≤ 3072) (hi : i + 6 ≤ L) (hc : c < 512) (hkn : k ≤ (yR υ).cells ∧ n ≤ (yR υ).slots) {N : Nat} {R : Nat → zH → Prop} (HR : zS4 N R) {h : zH} (hRc : R c h) (kk : ∀ h2, R (c + 1) h2 → zY υ (zws (ycy υ) α nn h2 ++ ex) k n 1360 [(0, .ref b0), (1, .ref (α 0)), (2, .ref (α 14)), (3, .ref oa), (4, .int (zi (i : Int)))] []) : zY υ (zws (ycy υ) α nn h ++ ex) k n 352 [(0, .ref b0), (1, .ref (α 0)), (2, .ref (α 14)), (3, .ref oa), (4, .int (zi (i : Int)))] [] := by
  obtain ⟨r, s, e1, e2, e3, hR⟩ := HR c h hc hRc ((xs (i + 1)).toInt) (zw_toInt _)
  refine y_aload_n (q := 353) C dL_law_352 1 rfl rfl rfl ?_
  refine y_aload_n (q := 354) C dL_law_353 0 rfl rfl rfl ?_
  refine y_iload (q := 356) C dL_law_354 4 rfl rfl ?_
  refine y_iconst (q := 357) (v := zi 1) C dL_law_356 rfl rfl ?_
  refine y_iadd (q := 358) C dL_law_357 rfl ?_
  refine y_sld (q := 359) (j := i + 1) C hX hbl hbA (zw_iadd 1 hi hL) (by omega) dL_law_358 rfl ?_
  refine y_callV (q := 362) (o := 0) (d := 2000) (av := [.int (zi (xs (i + 1)).toInt)]) (rest := []) (stk2 := [.int (zi r)]) C hG hn clX10 zo_0 kd_0 (M_fX10_sun (by decide) e1) mY_X10_sun ⟨by rw [hRm]; exact Nat.le_of_ble_eq_true rfl, by rw [hRm]; exact Nat.le_of_ble_eq_true rfl⟩ hkn q_621 (Nat.le_of_ble_eq_true rfl) dL_law_359 rfl rfl rfl ?_
  refine y_aload_n (q := 363) C dL_law_362 2 rfl rfl rfl ?_
  refine y_aload_n (q := 364) C dL_law_363 0 rfl rfl rfl ?_
  refine y_iload (q := 366) C dL_law_364 4 rfl rfl ?_
  refine y_iconst (q := 367) (v := zi 1) C dL_law_366 rfl rfl ?_
  refine y_iadd (q := 368) C dL_law_367 rfl ?_
  refine y_sld (q := 369) (j := i + 1) C hX hbl hbA (zw_iadd 1 hi hL) (by omega) dL_law_368 rfl ?_
  refine y_callV (q := 372) (o := 14) (d := 2000) (av := [.int (zi (xs (i + 1)).toInt)]) (rest := [.int (zi r)]) (stk2 := [.int (zi s), .int (zi r)]) C hG hn clX11 zo_14 kd_14 (M_fX11_sun (by decide) e2) mY_X11_sun ⟨by rw [hRm]; exact Nat.le_of_ble_eq_true rfl, by rw [hRm]; exact Nat.le_of_ble_eq_true rfl⟩ hkn q_1418 (Nat.le_of_ble_eq_true rfl) dL_law_369 rfl rfl rfl ?_
  refine y_icmp_eqT (tgt := 1360) C e3 dL_law_372 (by decide) ?_
  exact kk h hR
def zS6 (N : Nat) (R : Nat → zH → Prop) : Prop := ∀ (c : Nat) (h : zH), c < 512 → R c h → ∀ (a1 : Int) (a2 : Int) (_ : zw a1 = a1) (_ : zw a2 = a2), ∃ (r s : Int), fX10_desk N a1 a2 h = some r ∧ fX11_desk N a1 a2 h = some s ∧ zi r = zi s ∧ R (c + 1) h
set_option maxRecDepth 20000 in
set_option maxHeartbeats 4000000 in
theorem law_case6 {υ : zU} (C : yV υ RL code 7 ret) {σ : zSg} (hG : zG σ (yA υ) (ys υ) (ys υ).heap) (hRm : yR υ = room_1) {α : Nat → Nat} {nn : Nat} (hn : zN ≤ nn ∧ nn ≤ zN + 1) {b0 L oa i c k n : Nat} {xs : Nat → Int32} {ex : va_W} (hX : va_X b0 L xs (ys υ) (ys υ).heap) (hbl : b0 < (ys υ).heap.size) (hbA : ¬ yA υ b0) (hL : L ≤ 3072) (hi : i + 6 ≤ L) (hc : c < 512) (hkn : k ≤ (yR υ).cells ∧ n ≤ (yR υ).slots) {N : Nat} {R : Nat → zH → Prop} (HR : zS6 N R) {h : zH} (hRc : R c h) (kk : ∀ h2, R (c + 1) h2 → zY υ (zws (ycy υ) α nn h2 ++ ex) k n 1360 [(0, .ref b0), (1, .ref (α 0)), (2, .ref (α 14)), (3, .ref oa), (4, .int (zi (i : Int)))] []) : zY υ (zws (ycy υ) α nn h ++ ex) k n 445 [(0, .ref b0), (1, .ref (α 0)), (2, .ref (α 14)), (3, .ref oa), (4, .int (zi (i : Int)))] [] := by
  obtain ⟨r, s, e1, e2, e3, hR⟩ := HR c h hc hRc ((xs (i + 1)).toInt) ((xs (i + 2)).toInt) (zw_toInt _) (zw_toInt _)
  refine y_aload_n (q := 446) C dL_law_445 1 rfl rfl rfl ?_
  refine y_aload_n (q := 447) C dL_law_446 0 rfl rfl rfl ?_
  refine y_iload (q := 449) C dL_law_447 4 rfl rfl ?_
  refine y_iconst (q := 450) (v := zi 1) C dL_law_449 rfl rfl ?_
  refine y_iadd (q := 451) C dL_law_450 rfl ?_
  refine y_sld (q := 452) (j := i + 1) C hX hbl hbA (zw_iadd 1 hi hL) (by omega) dL_law_451 rfl ?_
  refine y_aload_n (q := 453) C dL_law_452 0 rfl rfl rfl ?_
  refine y_iload (q := 455) C dL_law_453 4 rfl rfl ?_
  refine y_iconst (q := 456) (v := zi 2) C dL_law_455 rfl rfl ?_
  refine y_iadd (q := 457) C dL_law_456 rfl ?_
  refine y_sld (q := 458) (j := i + 2) C hX hbl hbA (zw_iadd 2 hi hL) (by omega) dL_law_457 rfl ?_
  refine y_callV (q := 461) (o := 0) (d := 2000) (av := [.int (zi (xs (i + 1)).toInt), .int (zi (xs (i + 2)).toInt)]) (rest := []) (stk2 := [.int (zi r)]) C hG hn clX10 zo_0 kd_0 (M_fX10_desk (by decide) e1) mY_X10_desk ⟨by rw [hRm]; exact Nat.le_of_ble_eq_true rfl, by rw [hRm]; exact Nat.le_of_ble_eq_true rfl⟩ hkn q_630 (Nat.le_of_ble_eq_true rfl) dL_law_458 rfl rfl rfl ?_
  refine y_aload_n (q := 462) C dL_law_461 2 rfl rfl rfl ?_
  refine y_aload_n (q := 463) C dL_law_462 0 rfl rfl rfl ?_
  refine y_iload (q := 465) C dL_law_463 4 rfl rfl ?_
  refine y_iconst (q := 466) (v := zi 1) C dL_law_465 rfl rfl ?_
  refine y_iadd (q := 467) C dL_law_466 rfl ?_
  refine y_sld (q := 468) (j := i + 1) C hX hbl hbA (zw_iadd 1 hi hL) (by omega) dL_law_467 rfl ?_
  refine y_aload_n (q := 469) C dL_law_468 0 rfl rfl rfl ?_
  refine y_iload (q := 471) C dL_law_469 4 rfl rfl ?_
  refine y_iconst (q := 472) (v := zi 2) C dL_law_471 rfl rfl ?_
  refine y_iadd (q := 473) C dL_law_472 rfl ?_
  refine y_sld (q := 474) (j := i + 2) C hX hbl hbA (zw_iadd 2 hi hL) (by omega) dL_law_473 rfl ?_
  refine y_callV (q := 477) (o := 14) (d := 2000) (av := [.int (zi (xs (i + 1)).toInt), .int (zi (xs (i + 2)).toInt)]) (rest := [.int (zi r)]) (stk2 := [.int (zi s), .int (zi r)]) C hG hn clX11 zo_14 kd_14 (M_fX11_desk (by decide) e2) mY_X11_desk ⟨by rw [hRm]; exact Nat.le_of_ble_eq_true rfl, by rw [hRm]; exact Nat.le_of_ble_eq_true rfl⟩ hkn q_1434 (Nat.le_of_ble_eq_true rfl) dL_law_474 rfl rfl rfl ?_
  refine y_icmp_eqT (tgt := 1360) C e3 dL_law_477 (by decide) ?_
  exact kk h hR
def zS7 (N : Nat) (R : Nat → zH → Prop) : Prop := ∀ (c : Nat) (h : zH), c < 512 → R c h → ∀ (a1 : Int) (a2 : Int) (_ : zw a1 = a1) (_ : zw a2 = a2), ∃ (r s : Int), fX10_paper a1 a2 h = r ∧ fX11_paper a1 a2 h = some s ∧ zi r = zi s ∧ R (c + 1) h
set_option maxRecDepth 20000 in
set_option maxHeartbeats 4000000 in
theorem law_case7 {υ : zU} (C : yV υ RL code 7 ret) {σ : zSg} (hG : zG σ (yA υ) (ys υ) (ys υ).heap) (hRm : yR υ = room_1) {α : Nat → Nat} {nn : Nat} (hn : zN ≤ nn ∧ nn ≤ zN + 1) {b0 L oa i c k n : Nat} {xs : Nat → Int32} {ex : va_W} (hX : va_X b0 L xs (ys υ) (ys υ).heap) (hbl : b0 < (ys υ).heap.size) (hbA : ¬ yA υ b0) (hL : L ≤ 3072) (hi : i + 6 ≤ L) (hc : c < 512) (hkn : k ≤ (yR υ).cells ∧ n ≤ (yR υ).slots) {N : Nat} {R : Nat → zH → Prop} (HR : zS7 N R) {h : zH} (hRc : R c h) (kk : ∀ h2, R (c + 1) h2 → zY υ (zws (ycy υ) α nn h2 ++ ex) k n 1360 [(0, .ref b0), (1, .ref (α 0)), (2, .ref (α 14)), (3, .ref oa), (4, .int (zi (i : Int)))] []) : zY υ (zws (ycy υ) α nn h ++ ex) k n 482 [(0, .ref b0), (1, .ref (α 0)), (2, .ref (α 14)), (3, .ref oa), (4, .int (zi (i : Int)))] [] := by
  obtain ⟨r, s, e1, e2, e3, hR⟩ := HR c h hc hRc ((xs (i + 1)).toInt) ((xs (i + 2)).toInt) (zw_toInt _) (zw_toInt _)
  refine y_aload_n (q := 483) C dL_law_482 1 rfl rfl rfl ?_
  refine y_aload_n (q := 484) C dL_law_483 0 rfl rfl rfl ?_
  refine y_iload (q := 486) C dL_law_484 4 rfl rfl ?_
  refine y_iconst (q := 487) (v := zi 1) C dL_law_486 rfl rfl ?_
  refine y_iadd (q := 488) C dL_law_487 rfl ?_
  refine y_sld (q := 489) (j := i + 1) C hX hbl hbA (zw_iadd 1 hi hL) (by omega) dL_law_488 rfl ?_
  refine y_aload_n (q := 490) C dL_law_489 0 rfl rfl rfl ?_
  refine y_iload (q := 492) C dL_law_490 4 rfl rfl ?_
  refine y_iconst (q := 493) (v := zi 2) C dL_law_492 rfl rfl ?_
  refine y_iadd (q := 494) C dL_law_493 rfl ?_
  refine y_sld (q := 495) (j := i + 2) C hX hbl hbA (zw_iadd 2 hi hL) (by omega) dL_law_494 rfl ?_
  refine y_callV (q := 498) (o := 0) (d := 2000) (av := [.int (zi (xs (i + 1)).toInt), .int (zi (xs (i + 2)).toInt)]) (rest := []) (stk2 := [.int (zi r)]) C hG hn clX10 zo_0 kd_0 (M_fX10_paper (by decide) e1) mY_X10_paper ⟨by rw [hRm]; exact Nat.le_of_ble_eq_true rfl, by rw [hRm]; exact Nat.le_of_ble_eq_true rfl⟩ hkn q_656 (Nat.le_of_ble_eq_true rfl) dL_law_495 rfl rfl rfl ?_
  refine y_aload_n (q := 499) C dL_law_498 2 rfl rfl rfl ?_
  refine y_aload_n (q := 500) C dL_law_499 0 rfl rfl rfl ?_
  refine y_iload (q := 502) C dL_law_500 4 rfl rfl ?_
  refine y_iconst (q := 503) (v := zi 1) C dL_law_502 rfl rfl ?_
  refine y_iadd (q := 504) C dL_law_503 rfl ?_
  refine y_sld (q := 505) (j := i + 1) C hX hbl hbA (zw_iadd 1 hi hL) (by omega) dL_law_504 rfl ?_
  refine y_aload_n (q := 506) C dL_law_505 0 rfl rfl rfl ?_
  refine y_iload (q := 508) C dL_law_506 4 rfl rfl ?_
  refine y_iconst (q := 509) (v := zi 2) C dL_law_508 rfl rfl ?_
  refine y_iadd (q := 510) C dL_law_509 rfl ?_
  refine y_sld (q := 511) (j := i + 2) C hX hbl hbA (zw_iadd 2 hi hL) (by omega) dL_law_510 rfl ?_
  refine y_callV (q := 514) (o := 14) (d := 2000) (av := [.int (zi (xs (i + 1)).toInt), .int (zi (xs (i + 2)).toInt)]) (rest := [.int (zi r)]) (stk2 := [.int (zi s), .int (zi r)]) C hG hn clX11 zo_14 kd_14 (M_fX11_paper (by decide) e2) mY_X11_paper ⟨by rw [hRm]; exact Nat.le_of_ble_eq_true rfl, by rw [hRm]; exact Nat.le_of_ble_eq_true rfl⟩ hkn q_1462 (Nat.le_of_ble_eq_true rfl) dL_law_511 rfl rfl rfl ?_
  refine y_icmp_eqT (tgt := 1360) C e3 dL_law_514 (by decide) ?_
  exact kk h hR
def zS8 (N : Nat) (R : Nat → zH → Prop) : Prop := ∀ (c : Nat) (h : zH), c < 512 → R c h → ∀ (a1 : Int) (_ : zw a1 = a1), ∃ (r s : Int) (h1 : zH) (h2 : zH), fX10_rule a1 h = (r, h1) ∧ fX11_rule a1 h1 = (s, h2) ∧ zi r = zi s ∧ R (c + 1) h2
set_option maxRecDepth 20000 in
set_option maxHeartbeats 4000000 in
theorem law_case8 {υ : zU} (C : yV υ RL code 7 ret) {σ : zSg} (hG : zG σ (yA υ) (ys υ) (ys υ).heap) (hRm : yR υ = room_1) {α : Nat → Nat} {nn : Nat} (hn : zN ≤ nn ∧ nn ≤ zN + 1) {b0 L oa i c k n : Nat} {xs : Nat → Int32} {ex : va_W} (hX : va_X b0 L xs (ys υ) (ys υ).heap) (hbl : b0 < (ys υ).heap.size) (hbA : ¬ yA υ b0) (hL : L ≤ 3072) (hi : i + 6 ≤ L) (hc : c < 512) (hkn : k ≤ (yR υ).cells ∧ n ≤ (yR υ).slots) {N : Nat} {R : Nat → zH → Prop} (HR : zS8 N R) {h : zH} (hRc : R c h) (kk : ∀ h2, R (c + 1) h2 → zY υ (zws (ycy υ) α nn h2 ++ ex) k n 1360 [(0, .ref b0), (1, .ref (α 0)), (2, .ref (α 14)), (3, .ref oa), (4, .int (zi (i : Int)))] []) : zY υ (zws (ycy υ) α nn h ++ ex) k n 519 [(0, .ref b0), (1, .ref (α 0)), (2, .ref (α 14)), (3, .ref oa), (4, .int (zi (i : Int)))] [] := by
  obtain ⟨r, s, h1, h2, e1, e2, e3, hR⟩ := HR c h hc hRc ((xs (i + 1)).toInt) (zw_toInt _)
  refine y_aload_n (q := 520) C dL_law_519 1 rfl rfl rfl ?_
  refine y_aload_n (q := 521) C dL_law_520 0 rfl rfl rfl ?_
  refine y_iload (q := 523) C dL_law_521 4 rfl rfl ?_
  refine y_iconst (q := 524) (v := zi 1) C dL_law_523 rfl rfl ?_
  refine y_iadd (q := 525) C dL_law_524 rfl ?_
  refine y_sld (q := 526) (j := i + 1) C hX hbl hbA (zw_iadd 1 hi hL) (by omega) dL_law_525 rfl ?_
  refine y_callV (q := 529) (o := 0) (d := 2000) (av := [.int (zi (xs (i + 1)).toInt)]) (rest := []) (stk2 := [.int (zi r)]) C hG hn clX10 zo_0 kd_0 (M_fX10_rule (by decide) e1) mY_X10_rule ⟨by rw [hRm]; exact Nat.le_of_ble_eq_true rfl, by rw [hRm]; exact Nat.le_of_ble_eq_true rfl⟩ hkn q_660 (Nat.le_of_ble_eq_true rfl) dL_law_526 rfl rfl rfl ?_
  refine y_aload_n (q := 530) C dL_law_529 2 rfl rfl rfl ?_
  refine y_aload_n (q := 531) C dL_law_530 0 rfl rfl rfl ?_
  refine y_iload (q := 533) C dL_law_531 4 rfl rfl ?_
  refine y_iconst (q := 534) (v := zi 1) C dL_law_533 rfl rfl ?_
  refine y_iadd (q := 535) C dL_law_534 rfl ?_
  refine y_sld (q := 536) (j := i + 1) C hX hbl hbA (zw_iadd 1 hi hL) (by omega) dL_law_535 rfl ?_
  refine y_callV (q := 539) (o := 14) (d := 2000) (av := [.int (zi (xs (i + 1)).toInt)]) (rest := [.int (zi r)]) (stk2 := [.int (zi s), .int (zi r)]) C hG hn clX11 zo_14 kd_14 (M_fX11_rule (by decide) e2) mY_X11_rule ⟨by rw [hRm]; exact Nat.le_of_ble_eq_true rfl, by rw [hRm]; exact Nat.le_of_ble_eq_true rfl⟩ hkn q_1470 (Nat.le_of_ble_eq_true rfl) dL_law_536 rfl rfl rfl ?_
  refine y_icmp_eqT (tgt := 1360) C e3 dL_law_539 (by decide) ?_
  exact kk h2 hR
def zS9 (N : Nat) (R : Nat → zH → Prop) : Prop := ∀ (c : Nat) (h : zH), c < 512 → R c h → ∀ (a1 : Int) (_ : zw a1 = a1), ∃ (r s : Int) (h1 : zH) (h2 : zH), fX10_eclipse a1 h = (r, h1) ∧ fX11_eclipse a1 h1 = (s, h2) ∧ zi r = zi s ∧ R (c + 1) h2
set_option maxRecDepth 20000 in
set_option maxHeartbeats 4000000 in
theorem law_case9 {υ : zU} (C : yV υ RL code 7 ret) {σ : zSg} (hG : zG σ (yA υ) (ys υ) (ys υ).heap) (hRm : yR υ = room_1) {α : Nat → Nat} {nn : Nat} (hn : zN ≤ nn ∧ nn ≤ zN + 1) {b0 L oa i c k n : Nat} {xs : Nat → Int32} {ex : va_W} (hX : va_X b0 L xs (ys υ) (ys υ).heap) (hbl : b0 < (ys υ).heap.size) (hbA : ¬ yA υ b0) (hL : L ≤ 3072) (hi : i + 6 ≤ L) (hc : c < 512) (hkn : k ≤ (yR υ).cells ∧ n ≤ (yR υ).slots) {N : Nat} {R : Nat → zH → Prop} (HR : zS9 N R) {h : zH} (hRc : R c h) (kk : ∀ h2, R (c + 1) h2 → zY υ (zws (ycy υ) α nn h2 ++ ex) k n 1360 [(0, .ref b0), (1, .ref (α 0)), (2, .ref (α 14)), (3, .ref oa), (4, .int (zi (i : Int)))] []) : zY υ (zws (ycy υ) α nn h ++ ex) k n 544 [(0, .ref b0), (1, .ref (α 0)), (2, .ref (α 14)), (3, .ref oa), (4, .int (zi (i : Int)))] [] := by
  obtain ⟨r, s, h1, h2, e1, e2, e3, hR⟩ := HR c h hc hRc ((xs (i + 1)).toInt) (zw_toInt _)
  refine y_aload_n (q := 545) C dL_law_544 1 rfl rfl rfl ?_
  refine y_aload_n (q := 546) C dL_law_545 0 rfl rfl rfl ?_
  refine y_iload (q := 548) C dL_law_546 4 rfl rfl ?_
  refine y_iconst (q := 549) (v := zi 1) C dL_law_548 rfl rfl ?_
  refine y_iadd (q := 550) C dL_law_549 rfl ?_
  refine y_sld (q := 551) (j := i + 1) C hX hbl hbA (zw_iadd 1 hi hL) (by omega) dL_law_550 rfl ?_
  refine y_callV (q := 554) (o := 0) (d := 2000) (av := [.int (zi (xs (i + 1)).toInt)]) (rest := []) (stk2 := [.int (zi r)]) C hG hn clX10 zo_0 kd_0 (M_fX10_eclipse (by decide) e1) mY_X10_eclipse ⟨by rw [hRm]; exact Nat.le_of_ble_eq_true rfl, by rw [hRm]; exact Nat.le_of_ble_eq_true rfl⟩ hkn q_664 (Nat.le_of_ble_eq_true rfl) dL_law_551 rfl rfl rfl ?_
  refine y_aload_n (q := 555) C dL_law_554 2 rfl rfl rfl ?_
  refine y_aload_n (q := 556) C dL_law_555 0 rfl rfl rfl ?_
  refine y_iload (q := 558) C dL_law_556 4 rfl rfl ?_
  refine y_iconst (q := 559) (v := zi 1) C dL_law_558 rfl rfl ?_
  refine y_iadd (q := 560) C dL_law_559 rfl ?_
  refine y_sld (q := 561) (j := i + 1) C hX hbl hbA (zw_iadd 1 hi hL) (by omega) dL_law_560 rfl ?_
  refine y_callV (q := 564) (o := 14) (d := 2000) (av := [.int (zi (xs (i + 1)).toInt)]) (rest := [.int (zi r)]) (stk2 := [.int (zi s), .int (zi r)]) C hG hn clX11 zo_14 kd_14 (M_fX11_eclipse (by decide) e2) mY_X11_eclipse ⟨by rw [hRm]; exact Nat.le_of_ble_eq_true rfl, by rw [hRm]; exact Nat.le_of_ble_eq_true rfl⟩ hkn q_1474 (Nat.le_of_ble_eq_true rfl) dL_law_561 rfl rfl rfl ?_
  refine y_icmp_eqT (tgt := 1360) C e3 dL_law_564 (by decide) ?_
  exact kk h2 hR
def zS10 (N : Nat) (R : Nat → zH → Prop) : Prop := ∀ (c : Nat) (h : zH), c < 512 → R c h → ∀ (a1 : Int) (a2 : Int) (_ : zw a1 = a1) (_ : zw a2 = a2), ∃ (r s : Int) (h1 : zH) (h2 : zH), fX10_file N a1 a2 h = some (r, h1) ∧ fX11_file N a1 a2 h1 = some (s, h2) ∧ zi r = zi s ∧ R (c + 1) h2
set_option maxRecDepth 20000 in
set_option maxHeartbeats 4000000 in
theorem law_case10 {υ : zU} (C : yV υ RL code 7 ret) {σ : zSg} (hG : zG σ (yA υ) (ys υ) (ys υ).heap) (hRm : yR υ = room_1) {α : Nat → Nat} {nn : Nat} (hn : zN ≤ nn ∧ nn ≤ zN + 1) {b0 L oa i c k n : Nat} {xs : Nat → Int32} {ex : va_W} (hX : va_X b0 L xs (ys υ) (ys υ).heap) (hbl : b0 < (ys υ).heap.size) (hbA : ¬ yA υ b0) (hL : L ≤ 3072) (hi : i + 6 ≤ L) (hc : c < 512) (hkn : k ≤ (yR υ).cells ∧ n ≤ (yR υ).slots) {N : Nat} {R : Nat → zH → Prop} (HR : zS10 N R) {h : zH} (hRc : R c h) (kk : ∀ h2, R (c + 1) h2 → zY υ (zws (ycy υ) α nn h2 ++ ex) k n 1360 [(0, .ref b0), (1, .ref (α 0)), (2, .ref (α 14)), (3, .ref oa), (4, .int (zi (i : Int)))] []) : zY υ (zws (ycy υ) α nn h ++ ex) k n 569 [(0, .ref b0), (1, .ref (α 0)), (2, .ref (α 14)), (3, .ref oa), (4, .int (zi (i : Int)))] [] := by
  obtain ⟨r, s, h1, h2, e1, e2, e3, hR⟩ := HR c h hc hRc ((xs (i + 1)).toInt) ((xs (i + 2)).toInt) (zw_toInt _) (zw_toInt _)
  refine y_aload_n (q := 570) C dL_law_569 1 rfl rfl rfl ?_
  refine y_aload_n (q := 571) C dL_law_570 0 rfl rfl rfl ?_
  refine y_iload (q := 573) C dL_law_571 4 rfl rfl ?_
  refine y_iconst (q := 574) (v := zi 1) C dL_law_573 rfl rfl ?_
  refine y_iadd (q := 575) C dL_law_574 rfl ?_
  refine y_sld (q := 576) (j := i + 1) C hX hbl hbA (zw_iadd 1 hi hL) (by omega) dL_law_575 rfl ?_
  refine y_aload_n (q := 577) C dL_law_576 0 rfl rfl rfl ?_
  refine y_iload (q := 579) C dL_law_577 4 rfl rfl ?_
  refine y_iconst (q := 580) (v := zi 2) C dL_law_579 rfl rfl ?_
  refine y_iadd (q := 581) C dL_law_580 rfl ?_
  refine y_sld (q := 582) (j := i + 2) C hX hbl hbA (zw_iadd 2 hi hL) (by omega) dL_law_581 rfl ?_
  refine y_callV (q := 585) (o := 0) (d := 2000) (av := [.int (zi (xs (i + 1)).toInt), .int (zi (xs (i + 2)).toInt)]) (rest := []) (stk2 := [.int (zi r)]) C hG hn clX10 zo_0 kd_0 (M_fX10_file (by decide) e1) mY_X10_file ⟨by rw [hRm]; exact Nat.le_of_ble_eq_true rfl, by rw [hRm]; exact Nat.le_of_ble_eq_true rfl⟩ hkn q_668 (Nat.le_of_ble_eq_true rfl) dL_law_582 rfl rfl rfl ?_
  refine y_aload_n (q := 586) C dL_law_585 2 rfl rfl rfl ?_
  refine y_aload_n (q := 587) C dL_law_586 0 rfl rfl rfl ?_
  refine y_iload (q := 589) C dL_law_587 4 rfl rfl ?_
  refine y_iconst (q := 590) (v := zi 1) C dL_law_589 rfl rfl ?_
  refine y_iadd (q := 591) C dL_law_590 rfl ?_
  refine y_sld (q := 592) (j := i + 1) C hX hbl hbA (zw_iadd 1 hi hL) (by omega) dL_law_591 rfl ?_
  refine y_aload_n (q := 593) C dL_law_592 0 rfl rfl rfl ?_
  refine y_iload (q := 595) C dL_law_593 4 rfl rfl ?_
  refine y_iconst (q := 596) (v := zi 2) C dL_law_595 rfl rfl ?_
  refine y_iadd (q := 597) C dL_law_596 rfl ?_
  refine y_sld (q := 598) (j := i + 2) C hX hbl hbA (zw_iadd 2 hi hL) (by omega) dL_law_597 rfl ?_
  refine y_callV (q := 601) (o := 14) (d := 2000) (av := [.int (zi (xs (i + 1)).toInt), .int (zi (xs (i + 2)).toInt)]) (rest := [.int (zi r)]) (stk2 := [.int (zi s), .int (zi r)]) C hG hn clX11 zo_14 kd_14 (M_fX11_file (by decide) e2) mY_X11_file ⟨by rw [hRm]; exact Nat.le_of_ble_eq_true rfl, by rw [hRm]; exact Nat.le_of_ble_eq_true rfl⟩ hkn q_1478 (Nat.le_of_ble_eq_true rfl) dL_law_598 rfl rfl rfl ?_
  refine y_icmp_eqT (tgt := 1360) C e3 dL_law_601 (by decide) ?_
  exact kk h2 hR
def zS11 (N : Nat) (R : Nat → zH → Prop) : Prop := ∀ (c : Nat) (h : zH), c < 512 → R c h → ∀ (a1 : Int) (_ : zw a1 = a1), ∃ (r s : Int) (h1 : zH) (h2 : zH), fX10_withdraw N a1 h = some (r, h1) ∧ fX11_withdraw N a1 h1 = some (s, h2) ∧ zi r = zi s ∧ R (c + 1) h2
set_option maxRecDepth 20000 in
set_option maxHeartbeats 4000000 in
theorem law_case11 {υ : zU} (C : yV υ RL code 7 ret) {σ : zSg} (hG : zG σ (yA υ) (ys υ) (ys υ).heap) (hRm : yR υ = room_1) {α : Nat → Nat} {nn : Nat} (hn : zN ≤ nn ∧ nn ≤ zN + 1) {b0 L oa i c k n : Nat} {xs : Nat → Int32} {ex : va_W} (hX : va_X b0 L xs (ys υ) (ys υ).heap) (hbl : b0 < (ys υ).heap.size) (hbA : ¬ yA υ b0) (hL : L ≤ 3072) (hi : i + 6 ≤ L) (hc : c < 512) (hkn : k ≤ (yR υ).cells ∧ n ≤ (yR υ).slots) {N : Nat} {R : Nat → zH → Prop} (HR : zS11 N R) {h : zH} (hRc : R c h) (kk : ∀ h2, R (c + 1) h2 → zY υ (zws (ycy υ) α nn h2 ++ ex) k n 1360 [(0, .ref b0), (1, .ref (α 0)), (2, .ref (α 14)), (3, .ref oa), (4, .int (zi (i : Int)))] []) : zY υ (zws (ycy υ) α nn h ++ ex) k n 606 [(0, .ref b0), (1, .ref (α 0)), (2, .ref (α 14)), (3, .ref oa), (4, .int (zi (i : Int)))] [] := by
  obtain ⟨r, s, h1, h2, e1, e2, e3, hR⟩ := HR c h hc hRc ((xs (i + 1)).toInt) (zw_toInt _)
  refine y_aload_n (q := 607) C dL_law_606 1 rfl rfl rfl ?_
  refine y_aload_n (q := 608) C dL_law_607 0 rfl rfl rfl ?_
  refine y_iload (q := 610) C dL_law_608 4 rfl rfl ?_
  refine y_iconst (q := 611) (v := zi 1) C dL_law_610 rfl rfl ?_
  refine y_iadd (q := 612) C dL_law_611 rfl ?_
  refine y_sld (q := 613) (j := i + 1) C hX hbl hbA (zw_iadd 1 hi hL) (by omega) dL_law_612 rfl ?_
  refine y_callV (q := 616) (o := 0) (d := 2000) (av := [.int (zi (xs (i + 1)).toInt)]) (rest := []) (stk2 := [.int (zi r)]) C hG hn clX10 zo_0 kd_0 (M_fX10_withdraw (by decide) e1) mY_X10_withdraw ⟨by rw [hRm]; exact Nat.le_of_ble_eq_true rfl, by rw [hRm]; exact Nat.le_of_ble_eq_true rfl⟩ hkn q_701 (Nat.le_of_ble_eq_true rfl) dL_law_613 rfl rfl rfl ?_
  refine y_aload_n (q := 617) C dL_law_616 2 rfl rfl rfl ?_
  refine y_aload_n (q := 618) C dL_law_617 0 rfl rfl rfl ?_
  refine y_iload (q := 620) C dL_law_618 4 rfl rfl ?_
  refine y_iconst (q := 621) (v := zi 1) C dL_law_620 rfl rfl ?_
  refine y_iadd (q := 622) C dL_law_621 rfl ?_
  refine y_sld (q := 623) (j := i + 1) C hX hbl hbA (zw_iadd 1 hi hL) (by omega) dL_law_622 rfl ?_
  refine y_callV (q := 626) (o := 14) (d := 2000) (av := [.int (zi (xs (i + 1)).toInt)]) (rest := [.int (zi r)]) (stk2 := [.int (zi s), .int (zi r)]) C hG hn clX11 zo_14 kd_14 (M_fX11_withdraw (by decide) e2) mY_X11_withdraw ⟨by rw [hRm]; exact Nat.le_of_ble_eq_true rfl, by rw [hRm]; exact Nat.le_of_ble_eq_true rfl⟩ hkn q_1498 (Nat.le_of_ble_eq_true rfl) dL_law_623 rfl rfl rfl ?_
  refine y_icmp_eqT (tgt := 1360) C e3 dL_law_626 (by decide) ?_
  exact kk h2 hR
def zS12 (N : Nat) (R : Nat → zH → Prop) : Prop := ∀ (c : Nat) (h : zH), c < 512 → R c h → ∀ (a1 : Int) (_ : zw a1 = a1), ∃ (r s : Int) (h1 : zH) (h2 : zH), fX10_go N a1 h = some (r, h1) ∧ fX11_go N a1 h1 = some (s, h2) ∧ zi r = zi s ∧ R (c + 1) h2
set_option maxRecDepth 20000 in
set_option maxHeartbeats 4000000 in
theorem law_case12 {υ : zU} (C : yV υ RL code 7 ret) {σ : zSg} (hG : zG σ (yA υ) (ys υ) (ys υ).heap) (hRm : yR υ = room_1) {α : Nat → Nat} {nn : Nat} (hn : zN ≤ nn ∧ nn ≤ zN + 1) {b0 L oa i c k n : Nat} {xs : Nat → Int32} {ex : va_W} (hX : va_X b0 L xs (ys υ) (ys υ).heap) (hbl : b0 < (ys υ).heap.size) (hbA : ¬ yA υ b0) (hL : L ≤ 3072) (hi : i + 6 ≤ L) (hc : c < 512) (hkn : k ≤ (yR υ).cells ∧ n ≤ (yR υ).slots) {N : Nat} {R : Nat → zH → Prop} (HR : zS12 N R) {h : zH} (hRc : R c h) (kk : ∀ h2, R (c + 1) h2 → zY υ (zws (ycy υ) α nn h2 ++ ex) k n 1360 [(0, .ref b0), (1, .ref (α 0)), (2, .ref (α 14)), (3, .ref oa), (4, .int (zi (i : Int)))] []) : zY υ (zws (ycy υ) α nn h ++ ex) k n 631 [(0, .ref b0), (1, .ref (α 0)), (2, .ref (α 14)), (3, .ref oa), (4, .int (zi (i : Int)))] [] := by
  obtain ⟨r, s, h1, h2, e1, e2, e3, hR⟩ := HR c h hc hRc ((xs (i + 1)).toInt) (zw_toInt _)
  refine y_aload_n (q := 632) C dL_law_631 1 rfl rfl rfl ?_
  refine y_aload_n (q := 633) C dL_law_632 0 rfl rfl rfl ?_
  refine y_iload (q := 635) C dL_law_633 4 rfl rfl ?_
  refine y_iconst (q := 636) (v := zi 1) C dL_law_635 rfl rfl ?_
  refine y_iadd (q := 637) C dL_law_636 rfl ?_
  refine y_sld (q := 638) (j := i + 1) C hX hbl hbA (zw_iadd 1 hi hL) (by omega) dL_law_637 rfl ?_
  refine y_callV (q := 641) (o := 0) (d := 2000) (av := [.int (zi (xs (i + 1)).toInt)]) (rest := []) (stk2 := [.int (zi r)]) C hG hn clX10 zo_0 kd_0 (M_fX10_go (by decide) e1) mY_X10_go ⟨by rw [hRm]; exact Nat.le_of_ble_eq_true rfl, by rw [hRm]; exact Nat.le_of_ble_eq_true rfl⟩ hkn q_709 (Nat.le_of_ble_eq_true rfl) dL_law_638 rfl rfl rfl ?_
  refine y_aload_n (q := 642) C dL_law_641 2 rfl rfl rfl ?_
  refine y_aload_n (q := 643) C dL_law_642 0 rfl rfl rfl ?_
  refine y_iload (q := 645) C dL_law_643 4 rfl rfl ?_
  refine y_iconst (q := 646) (v := zi 1) C dL_law_645 rfl rfl ?_
  refine y_iadd (q := 647) C dL_law_646 rfl ?_
  refine y_sld (q := 648) (j := i + 1) C hX hbl hbA (zw_iadd 1 hi hL) (by omega) dL_law_647 rfl ?_
  refine y_callV (q := 651) (o := 14) (d := 2000) (av := [.int (zi (xs (i + 1)).toInt)]) (rest := [.int (zi r)]) (stk2 := [.int (zi s), .int (zi r)]) C hG hn clX11 zo_14 kd_14 (M_fX11_go (by decide) e2) mY_X11_go ⟨by rw [hRm]; exact Nat.le_of_ble_eq_true rfl, by rw [hRm]; exact Nat.le_of_ble_eq_true rfl⟩ hkn q_1510 (Nat.le_of_ble_eq_true rfl) dL_law_648 rfl rfl rfl ?_
  refine y_icmp_eqT (tgt := 1360) C e3 dL_law_651 (by decide) ?_
  exact kk h2 hR
def zS13 (N : Nat) (R : Nat → zH → Prop) : Prop := ∀ (c : Nat) (h : zH), c < 512 → R c h → ∀ (a1 : Int) (_ : zw a1 = a1), ∃ (r s : Int) (h1 : zH) (h2 : zH), fX10_toil N a1 h = some (r, h1) ∧ fX11_toil N a1 h1 = some (s, h2) ∧ zi r = zi s ∧ R (c + 1) h2
set_option maxRecDepth 20000 in
set_option maxHeartbeats 4000000 in
theorem law_case13 {υ : zU} (C : yV υ RL code 7 ret) {σ : zSg} (hG : zG σ (yA υ) (ys υ) (ys υ).heap) (hRm : yR υ = room_1) {α : Nat → Nat} {nn : Nat} (hn : zN ≤ nn ∧ nn ≤ zN + 1) {b0 L oa i c k n : Nat} {xs : Nat → Int32} {ex : va_W} (hX : va_X b0 L xs (ys υ) (ys υ).heap) (hbl : b0 < (ys υ).heap.size) (hbA : ¬ yA υ b0) (hL : L ≤ 3072) (hi : i + 6 ≤ L) (hc : c < 512) (hkn : k ≤ (yR υ).cells ∧ n ≤ (yR υ).slots) {N : Nat} {R : Nat → zH → Prop} (HR : zS13 N R) {h : zH} (hRc : R c h) (kk : ∀ h2, R (c + 1) h2 → zY υ (zws (ycy υ) α nn h2 ++ ex) k n 1360 [(0, .ref b0), (1, .ref (α 0)), (2, .ref (α 14)), (3, .ref oa), (4, .int (zi (i : Int)))] []) : zY υ (zws (ycy υ) α nn h ++ ex) k n 656 [(0, .ref b0), (1, .ref (α 0)), (2, .ref (α 14)), (3, .ref oa), (4, .int (zi (i : Int)))] [] := by
  obtain ⟨r, s, h1, h2, e1, e2, e3, hR⟩ := HR c h hc hRc ((xs (i + 1)).toInt) (zw_toInt _)
  refine y_aload_n (q := 657) C dL_law_656 1 rfl rfl rfl ?_
  refine y_aload_n (q := 658) C dL_law_657 0 rfl rfl rfl ?_
  refine y_iload (q := 660) C dL_law_658 4 rfl rfl ?_
  refine y_iconst (q := 661) (v := zi 1) C dL_law_660 rfl rfl ?_
  refine y_iadd (q := 662) C dL_law_661 rfl ?_
  refine y_sld (q := 663) (j := i + 1) C hX hbl hbA (zw_iadd 1 hi hL) (by omega) dL_law_662 rfl ?_
  refine y_callV (q := 666) (o := 0) (d := 2000) (av := [.int (zi (xs (i + 1)).toInt)]) (rest := []) (stk2 := [.int (zi r)]) C hG hn clX10 zo_0 kd_0 (M_fX10_toil (by decide) e1) mY_X10_toil ⟨by rw [hRm]; exact Nat.le_of_ble_eq_true rfl, by rw [hRm]; exact Nat.le_of_ble_eq_true rfl⟩ hkn q_770 (Nat.le_of_ble_eq_true rfl) dL_law_663 rfl rfl rfl ?_
  refine y_aload_n (q := 667) C dL_law_666 2 rfl rfl rfl ?_
  refine y_aload_n (q := 668) C dL_law_667 0 rfl rfl rfl ?_
  refine y_iload (q := 670) C dL_law_668 4 rfl rfl ?_
  refine y_iconst (q := 671) (v := zi 1) C dL_law_670 rfl rfl ?_
  refine y_iadd (q := 672) C dL_law_671 rfl ?_
  refine y_sld (q := 673) (j := i + 1) C hX hbl hbA (zw_iadd 1 hi hL) (by omega) dL_law_672 rfl ?_
  refine y_callV (q := 676) (o := 14) (d := 2000) (av := [.int (zi (xs (i + 1)).toInt)]) (rest := [.int (zi r)]) (stk2 := [.int (zi s), .int (zi r)]) C hG hn clX11 zo_14 kd_14 (M_fX11_toil (by decide) e2) mY_X11_toil ⟨by rw [hRm]; exact Nat.le_of_ble_eq_true rfl, by rw [hRm]; exact Nat.le_of_ble_eq_true rfl⟩ hkn q_1722 (Nat.le_of_ble_eq_true rfl) dL_law_673 rfl rfl rfl ?_
  refine y_icmp_eqT (tgt := 1360) C e3 dL_law_676 (by decide) ?_
  exact kk h2 hR
def zS14 (N : Nat) (R : Nat → zH → Prop) : Prop := ∀ (c : Nat) (h : zH), c < 512 → R c h → ∀ (a1 : Int) (a2 : Int) (_ : zw a1 = a1) (_ : zwl a2 = a2), ∃ (r s : Int) (h1 : zH) (h2 : zH), fX10_years N a1 a2 h = some (r, h1) ∧ fX11_years N a1 a2 h1 = some (s, h2) ∧ zi r = zi s ∧ R (c + 1) h2
set_option maxRecDepth 20000 in
set_option maxHeartbeats 4000000 in
theorem law_case14 {υ : zU} (C : yV υ RL code 7 ret) {σ : zSg} (hG : zG σ (yA υ) (ys υ) (ys υ).heap) (hRm : yR υ = room_1) {α : Nat → Nat} {nn : Nat} (hn : zN ≤ nn ∧ nn ≤ zN + 1) {b0 L oa i c k n : Nat} {xs : Nat → Int32} {ex : va_W} (hX : va_X b0 L xs (ys υ) (ys υ).heap) (hbl : b0 < (ys υ).heap.size) (hbA : ¬ yA υ b0) (hL : L ≤ 3072) (hi : i + 6 ≤ L) (hc : c < 512) (hkn : k ≤ (yR υ).cells ∧ n ≤ (yR υ).slots) {N : Nat} {R : Nat → zH → Prop} (HR : zS14 N R) {h : zH} (hRc : R c h) (kk : ∀ h2, R (c + 1) h2 → zY υ (zws (ycy υ) α nn h2 ++ ex) k n 1360 [(0, .ref b0), (1, .ref (α 0)), (2, .ref (α 14)), (3, .ref oa), (4, .int (zi (i : Int)))] []) : zY υ (zws (ycy υ) α nn h ++ ex) k n 681 [(0, .ref b0), (1, .ref (α 0)), (2, .ref (α 14)), (3, .ref oa), (4, .int (zi (i : Int)))] [] := by
  obtain ⟨r, s, h1, h2, e1, e2, e3, hR⟩ := HR c h hc hRc ((xs (i + 1)).toInt) (((((xs (i + 2)).toInt64 <<< ((32 : Int32).toInt64 &&& 63)) ||| ((xs (i + 3)).toInt64 &&& 4294967295)) : Int64).toInt) (zw_toInt _) (zwl_toInt _)
  refine y_aload_n (q := 682) C dL_law_681 1 rfl rfl rfl ?_
  refine y_aload_n (q := 683) C dL_law_682 0 rfl rfl rfl ?_
  refine y_iload (q := 685) C dL_law_683 4 rfl rfl ?_
  refine y_iconst (q := 686) (v := zi 1) C dL_law_685 rfl rfl ?_
  refine y_iadd (q := 687) C dL_law_686 rfl ?_
  refine y_sld (q := 688) (j := i + 1) C hX hbl hbA (zw_iadd 1 hi hL) (by omega) dL_law_687 rfl ?_
  refine y_aload_n (q := 689) C dL_law_688 0 rfl rfl rfl ?_
  refine y_iload (q := 691) C dL_law_689 4 rfl rfl ?_
  refine y_iconst (q := 692) (v := zi 2) C dL_law_691 rfl rfl ?_
  refine y_iadd (q := 693) C dL_law_692 rfl ?_
  refine y_sld (q := 694) (j := i + 2) C hX hbl hbA (zw_iadd 2 hi hL) (by omega) dL_law_693 rfl ?_
  rw [zi_toInt]
  refine y_i2l (q := 695) C dL_law_694 rfl ?_
  refine y_bipush (q := 697) (v := 32) C dL_law_695 (by decide) rfl ?_
  refine y_lshl (q := 698) C dL_law_697 rfl ?_
  refine y_aload_n (q := 699) C dL_law_698 0 rfl rfl rfl ?_
  refine y_iload (q := 701) C dL_law_699 4 rfl rfl ?_
  refine y_iconst (q := 702) (v := zi 3) C dL_law_701 rfl rfl ?_
  refine y_iadd (q := 703) C dL_law_702 rfl ?_
  refine y_sld (q := 704) (j := i + 3) C hX hbl hbA (zw_iadd 3 hi hL) (by omega) dL_law_703 rfl ?_
  rw [zi_toInt]
  refine y_i2l (q := 705) C dL_law_704 rfl ?_
  refine y_ldc2 (q := 708) (v := 4294967295) C q_1759 dL_law_705 rfl ?_
  refine y_land (q := 709) C dL_law_708 rfl ?_
  refine y_lor (q := 710) C dL_law_709 rfl ?_
  refine y_callV (q := 713) (o := 0) (d := 2000) (av := [.int (zi (xs (i + 1)).toInt), .long (zl ((((xs (i + 2)).toInt64 <<< ((32 : Int32).toInt64 &&& 63)) ||| ((xs (i + 3)).toInt64 &&& 4294967295)) : Int64).toInt)]) (rest := []) (stk2 := [.int (zi r)]) C hG hn clX10 zo_0 kd_0 (M_fX10_years (by decide) e1) mY_X10_years ⟨by rw [hRm]; exact Nat.le_of_ble_eq_true rfl, by rw [hRm]; exact Nat.le_of_ble_eq_true rfl⟩ hkn q_811 (Nat.le_of_ble_eq_true rfl) dL_law_710 rfl rfl rfl ?_
  refine y_aload_n (q := 714) C dL_law_713 2 rfl rfl rfl ?_
  refine y_aload_n (q := 715) C dL_law_714 0 rfl rfl rfl ?_
  refine y_iload (q := 717) C dL_law_715 4 rfl rfl ?_
  refine y_iconst (q := 718) (v := zi 1) C dL_law_717 rfl rfl ?_
  refine y_iadd (q := 719) C dL_law_718 rfl ?_
  refine y_sld (q := 720) (j := i + 1) C hX hbl hbA (zw_iadd 1 hi hL) (by omega) dL_law_719 rfl ?_
  refine y_aload_n (q := 721) C dL_law_720 0 rfl rfl rfl ?_
  refine y_iload (q := 723) C dL_law_721 4 rfl rfl ?_
  refine y_iconst (q := 724) (v := zi 2) C dL_law_723 rfl rfl ?_
  refine y_iadd (q := 725) C dL_law_724 rfl ?_
  refine y_sld (q := 726) (j := i + 2) C hX hbl hbA (zw_iadd 2 hi hL) (by omega) dL_law_725 rfl ?_
  rw [zi_toInt]
  refine y_i2l (q := 727) C dL_law_726 rfl ?_
  refine y_bipush (q := 729) (v := 32) C dL_law_727 (by decide) rfl ?_
  refine y_lshl (q := 730) C dL_law_729 rfl ?_
  refine y_aload_n (q := 731) C dL_law_730 0 rfl rfl rfl ?_
  refine y_iload (q := 733) C dL_law_731 4 rfl rfl ?_
  refine y_iconst (q := 734) (v := zi 3) C dL_law_733 rfl rfl ?_
  refine y_iadd (q := 735) C dL_law_734 rfl ?_
  refine y_sld (q := 736) (j := i + 3) C hX hbl hbA (zw_iadd 3 hi hL) (by omega) dL_law_735 rfl ?_
  rw [zi_toInt]
  refine y_i2l (q := 737) C dL_law_736 rfl ?_
  refine y_ldc2 (q := 740) (v := 4294967295) C q_1759 dL_law_737 rfl ?_
  refine y_land (q := 741) C dL_law_740 rfl ?_
  refine y_lor (q := 742) C dL_law_741 rfl ?_
  refine y_callV (q := 745) (o := 14) (d := 2000) (av := [.int (zi (xs (i + 1)).toInt), .long (zl ((((xs (i + 2)).toInt64 <<< ((32 : Int32).toInt64 &&& 63)) ||| ((xs (i + 3)).toInt64 &&& 4294967295)) : Int64).toInt)]) (rest := [.int (zi r)]) (stk2 := [.int (zi s), .int (zi r)]) C hG hn clX11 zo_14 kd_14 (M_fX11_years (by decide) e2) mY_X11_years ⟨by rw [hRm]; exact Nat.le_of_ble_eq_true rfl, by rw [hRm]; exact Nat.le_of_ble_eq_true rfl⟩ hkn q_1737 (Nat.le_of_ble_eq_true rfl) dL_law_742 rfl rfl rfl ?_
  refine y_icmp_eqT (tgt := 1360) C e3 dL_law_745 (by decide) ?_
  exact kk h2 hR
def zS15 (N : Nat) (R : Nat → zH → Prop) : Prop := ∀ (c : Nat) (h : zH), c < 512 → R c h → ∀ (_ : True), ∃ (r s : Int) (h1 : zH) (h2 : zH), fX10_undo h = some (r, h1) ∧ fX11_undo N h1 = some (s, h2) ∧ zi r = zi s ∧ R (c + 1) h2
set_option maxRecDepth 20000 in
set_option maxHeartbeats 4000000 in
theorem law_case15 {υ : zU} (C : yV υ RL code 7 ret) {σ : zSg} (hG : zG σ (yA υ) (ys υ) (ys υ).heap) (hRm : yR υ = room_1) {α : Nat → Nat} {nn : Nat} (hn : zN ≤ nn ∧ nn ≤ zN + 1) {b0 L oa i c k n : Nat} {xs : Nat → Int32} {ex : va_W} (hX : va_X b0 L xs (ys υ) (ys υ).heap) (hbl : b0 < (ys υ).heap.size) (hbA : ¬ yA υ b0) (hL : L ≤ 3072) (hi : i + 6 ≤ L) (hc : c < 512) (hkn : k ≤ (yR υ).cells ∧ n ≤ (yR υ).slots) {N : Nat} {R : Nat → zH → Prop} (HR : zS15 N R) {h : zH} (hRc : R c h) (kk : ∀ h2, R (c + 1) h2 → zY υ (zws (ycy υ) α nn h2 ++ ex) k n 1360 [(0, .ref b0), (1, .ref (α 0)), (2, .ref (α 14)), (3, .ref oa), (4, .int (zi (i : Int)))] []) : zY υ (zws (ycy υ) α nn h ++ ex) k n 750 [(0, .ref b0), (1, .ref (α 0)), (2, .ref (α 14)), (3, .ref oa), (4, .int (zi (i : Int)))] [] := by
  obtain ⟨r, s, h1, h2, e1, e2, e3, hR⟩ := HR c h hc hRc trivial
  refine y_aload_n (q := 751) C dL_law_750 1 rfl rfl rfl ?_
  refine y_callV (q := 754) (o := 0) (d := 2000) (av := []) (rest := []) (stk2 := [.int (zi r)]) C hG hn clX10 zo_0 kd_0 (M_fX10_undo (by decide) e1) mY_X10_undo ⟨by rw [hRm]; exact Nat.le_of_ble_eq_true rfl, by rw [hRm]; exact Nat.le_of_ble_eq_true rfl⟩ hkn q_821 (Nat.le_of_ble_eq_true rfl) dL_law_751 rfl rfl rfl ?_
  refine y_aload_n (q := 755) C dL_law_754 2 rfl rfl rfl ?_
  refine y_callV (q := 758) (o := 14) (d := 2000) (av := []) (rest := [.int (zi r)]) (stk2 := [.int (zi s), .int (zi r)]) C hG hn clX11 zo_14 kd_14 (M_fX11_undo (by decide) e2) mY_X11_undo ⟨by rw [hRm]; exact Nat.le_of_ble_eq_true rfl, by rw [hRm]; exact Nat.le_of_ble_eq_true rfl⟩ hkn q_1574 (Nat.le_of_ble_eq_true rfl) dL_law_755 rfl rfl rfl ?_
  refine y_icmp_eqT (tgt := 1360) C e3 dL_law_758 (by decide) ?_
  exact kk h2 hR
def zS16 (N : Nat) (R : Nat → zH → Prop) : Prop := ∀ (c : Nat) (h : zH), c < 512 → R c h → ∀ (a1 : Int) (a2 : Int) (_ : zw a1 = a1) (_ : zw a2 = a2), ∃ (r s : Int), fX10_log a1 a2 h = r ∧ fX11_log a1 a2 h = some s ∧ zi r = zi s ∧ R (c + 1) h
set_option maxRecDepth 20000 in
set_option maxHeartbeats 4000000 in
theorem law_case16 {υ : zU} (C : yV υ RL code 7 ret) {σ : zSg} (hG : zG σ (yA υ) (ys υ) (ys υ).heap) (hRm : yR υ = room_1) {α : Nat → Nat} {nn : Nat} (hn : zN ≤ nn ∧ nn ≤ zN + 1) {b0 L oa i c k n : Nat} {xs : Nat → Int32} {ex : va_W} (hX : va_X b0 L xs (ys υ) (ys υ).heap) (hbl : b0 < (ys υ).heap.size) (hbA : ¬ yA υ b0) (hL : L ≤ 3072) (hi : i + 6 ≤ L) (hc : c < 512) (hkn : k ≤ (yR υ).cells ∧ n ≤ (yR υ).slots) {N : Nat} {R : Nat → zH → Prop} (HR : zS16 N R) {h : zH} (hRc : R c h) (kk : ∀ h2, R (c + 1) h2 → zY υ (zws (ycy υ) α nn h2 ++ ex) k n 1360 [(0, .ref b0), (1, .ref (α 0)), (2, .ref (α 14)), (3, .ref oa), (4, .int (zi (i : Int)))] []) : zY υ (zws (ycy υ) α nn h ++ ex) k n 763 [(0, .ref b0), (1, .ref (α 0)), (2, .ref (α 14)), (3, .ref oa), (4, .int (zi (i : Int)))] [] := by
  obtain ⟨r, s, e1, e2, e3, hR⟩ := HR c h hc hRc ((xs (i + 1)).toInt) ((xs (i + 2)).toInt) (zw_toInt _) (zw_toInt _)
  refine y_aload_n (q := 764) C dL_law_763 1 rfl rfl rfl ?_
  refine y_aload_n (q := 765) C dL_law_764 0 rfl rfl rfl ?_
  refine y_iload (q := 767) C dL_law_765 4 rfl rfl ?_
  refine y_iconst (q := 768) (v := zi 1) C dL_law_767 rfl rfl ?_
  refine y_iadd (q := 769) C dL_law_768 rfl ?_
  refine y_sld (q := 770) (j := i + 1) C hX hbl hbA (zw_iadd 1 hi hL) (by omega) dL_law_769 rfl ?_
  refine y_aload_n (q := 771) C dL_law_770 0 rfl rfl rfl ?_
  refine y_iload (q := 773) C dL_law_771 4 rfl rfl ?_
  refine y_iconst (q := 774) (v := zi 2) C dL_law_773 rfl rfl ?_
  refine y_iadd (q := 775) C dL_law_774 rfl ?_
  refine y_sld (q := 776) (j := i + 2) C hX hbl hbA (zw_iadd 2 hi hL) (by omega) dL_law_775 rfl ?_
  refine y_callV (q := 779) (o := 0) (d := 2000) (av := [.int (zi (xs (i + 1)).toInt), .int (zi (xs (i + 2)).toInt)]) (rest := []) (stk2 := [.int (zi r)]) C hG hn clX10 zo_0 kd_0 (M_fX10_log (by decide) e1) mY_X10_log ⟨by rw [hRm]; exact Nat.le_of_ble_eq_true rfl, by rw [hRm]; exact Nat.le_of_ble_eq_true rfl⟩ hkn q_829 (Nat.le_of_ble_eq_true rfl) dL_law_776 rfl rfl rfl ?_
  refine y_aload_n (q := 780) C dL_law_779 2 rfl rfl rfl ?_
  refine y_aload_n (q := 781) C dL_law_780 0 rfl rfl rfl ?_
  refine y_iload (q := 783) C dL_law_781 4 rfl rfl ?_
  refine y_iconst (q := 784) (v := zi 1) C dL_law_783 rfl rfl ?_
  refine y_iadd (q := 785) C dL_law_784 rfl ?_
  refine y_sld (q := 786) (j := i + 1) C hX hbl hbA (zw_iadd 1 hi hL) (by omega) dL_law_785 rfl ?_
  refine y_aload_n (q := 787) C dL_law_786 0 rfl rfl rfl ?_
  refine y_iload (q := 789) C dL_law_787 4 rfl rfl ?_
  refine y_iconst (q := 790) (v := zi 2) C dL_law_789 rfl rfl ?_
  refine y_iadd (q := 791) C dL_law_790 rfl ?_
  refine y_sld (q := 792) (j := i + 2) C hX hbl hbA (zw_iadd 2 hi hL) (by omega) dL_law_791 rfl ?_
  refine y_callV (q := 795) (o := 14) (d := 2000) (av := [.int (zi (xs (i + 1)).toInt), .int (zi (xs (i + 2)).toInt)]) (rest := [.int (zi r)]) (stk2 := [.int (zi s), .int (zi r)]) C hG hn clX11 zo_14 kd_14 (M_fX11_log (by decide) e2) mY_X11_log ⟨by rw [hRm]; exact Nat.le_of_ble_eq_true rfl, by rw [hRm]; exact Nat.le_of_ble_eq_true rfl⟩ hkn q_1578 (Nat.le_of_ble_eq_true rfl) dL_law_792 rfl rfl rfl ?_
  refine y_icmp_eqT (tgt := 1360) C e3 dL_law_795 (by decide) ?_
  exact kk h hR
def zS17 (N : Nat) (R : Nat → zH → Prop) : Prop := ∀ (c : Nat) (h : zH), c < 512 → R c h → ∀ (a1 : Int) (a2 : Int) (a3 : Int) (_ : zw a1 = a1) (_ : zw a2 = a2) (_ : zw a3 = a3), ∃ (r s : Int), fX10_step a1 a2 a3 h = r ∧ fX11_step a1 a2 a3 h = some s ∧ zi r = zi s ∧ R (c + 1) h
set_option maxRecDepth 20000 in
set_option maxHeartbeats 4000000 in
theorem law_case17 {υ : zU} (C : yV υ RL code 7 ret) {σ : zSg} (hG : zG σ (yA υ) (ys υ) (ys υ).heap) (hRm : yR υ = room_1) {α : Nat → Nat} {nn : Nat} (hn : zN ≤ nn ∧ nn ≤ zN + 1) {b0 L oa i c k n : Nat} {xs : Nat → Int32} {ex : va_W} (hX : va_X b0 L xs (ys υ) (ys υ).heap) (hbl : b0 < (ys υ).heap.size) (hbA : ¬ yA υ b0) (hL : L ≤ 3072) (hi : i + 6 ≤ L) (hc : c < 512) (hkn : k ≤ (yR υ).cells ∧ n ≤ (yR υ).slots) {N : Nat} {R : Nat → zH → Prop} (HR : zS17 N R) {h : zH} (hRc : R c h) (kk : ∀ h2, R (c + 1) h2 → zY υ (zws (ycy υ) α nn h2 ++ ex) k n 1360 [(0, .ref b0), (1, .ref (α 0)), (2, .ref (α 14)), (3, .ref oa), (4, .int (zi (i : Int)))] []) : zY υ (zws (ycy υ) α nn h ++ ex) k n 800 [(0, .ref b0), (1, .ref (α 0)), (2, .ref (α 14)), (3, .ref oa), (4, .int (zi (i : Int)))] [] := by
  obtain ⟨r, s, e1, e2, e3, hR⟩ := HR c h hc hRc ((xs (i + 1)).toInt) ((xs (i + 2)).toInt) ((xs (i + 3)).toInt) (zw_toInt _) (zw_toInt _) (zw_toInt _)
  refine y_aload_n (q := 801) C dL_law_800 1 rfl rfl rfl ?_
  refine y_aload_n (q := 802) C dL_law_801 0 rfl rfl rfl ?_
  refine y_iload (q := 804) C dL_law_802 4 rfl rfl ?_
  refine y_iconst (q := 805) (v := zi 1) C dL_law_804 rfl rfl ?_
  refine y_iadd (q := 806) C dL_law_805 rfl ?_
  refine y_sld (q := 807) (j := i + 1) C hX hbl hbA (zw_iadd 1 hi hL) (by omega) dL_law_806 rfl ?_
  refine y_aload_n (q := 808) C dL_law_807 0 rfl rfl rfl ?_
  refine y_iload (q := 810) C dL_law_808 4 rfl rfl ?_
  refine y_iconst (q := 811) (v := zi 2) C dL_law_810 rfl rfl ?_
  refine y_iadd (q := 812) C dL_law_811 rfl ?_
  refine y_sld (q := 813) (j := i + 2) C hX hbl hbA (zw_iadd 2 hi hL) (by omega) dL_law_812 rfl ?_
  refine y_aload_n (q := 814) C dL_law_813 0 rfl rfl rfl ?_
  refine y_iload (q := 816) C dL_law_814 4 rfl rfl ?_
  refine y_iconst (q := 817) (v := zi 3) C dL_law_816 rfl rfl ?_
  refine y_iadd (q := 818) C dL_law_817 rfl ?_
  refine y_sld (q := 819) (j := i + 3) C hX hbl hbA (zw_iadd 3 hi hL) (by omega) dL_law_818 rfl ?_
  refine y_callV (q := 822) (o := 0) (d := 2000) (av := [.int (zi (xs (i + 1)).toInt), .int (zi (xs (i + 2)).toInt), .int (zi (xs (i + 3)).toInt)]) (rest := []) (stk2 := [.int (zi r)]) C hG hn clX10 zo_0 kd_0 (M_fX10_step (by decide) e1) mY_X10_step ⟨by rw [hRm]; exact Nat.le_of_ble_eq_true rfl, by rw [hRm]; exact Nat.le_of_ble_eq_true rfl⟩ hkn q_846 (Nat.le_of_ble_eq_true rfl) dL_law_819 rfl rfl rfl ?_
  refine y_aload_n (q := 823) C dL_law_822 2 rfl rfl rfl ?_
  refine y_aload_n (q := 824) C dL_law_823 0 rfl rfl rfl ?_
  refine y_iload (q := 826) C dL_law_824 4 rfl rfl ?_
  refine y_iconst (q := 827) (v := zi 1) C dL_law_826 rfl rfl ?_
  refine y_iadd (q := 828) C dL_law_827 rfl ?_
  refine y_sld (q := 829) (j := i + 1) C hX hbl hbA (zw_iadd 1 hi hL) (by omega) dL_law_828 rfl ?_
  refine y_aload_n (q := 830) C dL_law_829 0 rfl rfl rfl ?_
  refine y_iload (q := 832) C dL_law_830 4 rfl rfl ?_
  refine y_iconst (q := 833) (v := zi 2) C dL_law_832 rfl rfl ?_
  refine y_iadd (q := 834) C dL_law_833 rfl ?_
  refine y_sld (q := 835) (j := i + 2) C hX hbl hbA (zw_iadd 2 hi hL) (by omega) dL_law_834 rfl ?_
  refine y_aload_n (q := 836) C dL_law_835 0 rfl rfl rfl ?_
  refine y_iload (q := 838) C dL_law_836 4 rfl rfl ?_
  refine y_iconst (q := 839) (v := zi 3) C dL_law_838 rfl rfl ?_
  refine y_iadd (q := 840) C dL_law_839 rfl ?_
  refine y_sld (q := 841) (j := i + 3) C hX hbl hbA (zw_iadd 3 hi hL) (by omega) dL_law_840 rfl ?_
  refine y_callV (q := 844) (o := 14) (d := 2000) (av := [.int (zi (xs (i + 1)).toInt), .int (zi (xs (i + 2)).toInt), .int (zi (xs (i + 3)).toInt)]) (rest := [.int (zi r)]) (stk2 := [.int (zi s), .int (zi r)]) C hG hn clX11 zo_14 kd_14 (M_fX11_step (by decide) e2) mY_X11_step ⟨by rw [hRm]; exact Nat.le_of_ble_eq_true rfl, by rw [hRm]; exact Nat.le_of_ble_eq_true rfl⟩ hkn q_1582 (Nat.le_of_ble_eq_true rfl) dL_law_841 rfl rfl rfl ?_
  refine y_icmp_eqT (tgt := 1360) C e3 dL_law_844 (by decide) ?_
  exact kk h hR
def zS18 (N : Nat) (R : Nat → zH → Prop) : Prop := ∀ (c : Nat) (h : zH), c < 512 → R c h → ∀ (a1 : Int) (_ : zw a1 = a1), ∃ (r s : Int) (h1 : zH) (h2 : zH), fX10_run N a1 h = some (r, h1) ∧ fX11_run N a1 h1 = some (s, h2) ∧ zi r = zi s ∧ R (c + 1) h2
set_option maxRecDepth 20000 in
set_option maxHeartbeats 4000000 in
theorem law_case18 {υ : zU} (C : yV υ RL code 7 ret) {σ : zSg} (hG : zG σ (yA υ) (ys υ) (ys υ).heap) (hRm : yR υ = room_1) {α : Nat → Nat} {nn : Nat} (hn : zN ≤ nn ∧ nn ≤ zN + 1) {b0 L oa i c k n : Nat} {xs : Nat → Int32} {ex : va_W} (hX : va_X b0 L xs (ys υ) (ys υ).heap) (hbl : b0 < (ys υ).heap.size) (hbA : ¬ yA υ b0) (hL : L ≤ 3072) (hi : i + 6 ≤ L) (hc : c < 512) (hkn : k ≤ (yR υ).cells ∧ n ≤ (yR υ).slots) {N : Nat} {R : Nat → zH → Prop} (HR : zS18 N R) {h : zH} (hRc : R c h) (kk : ∀ h2, R (c + 1) h2 → zY υ (zws (ycy υ) α nn h2 ++ ex) k n 1360 [(0, .ref b0), (1, .ref (α 0)), (2, .ref (α 14)), (3, .ref oa), (4, .int (zi (i : Int)))] []) : zY υ (zws (ycy υ) α nn h ++ ex) k n 849 [(0, .ref b0), (1, .ref (α 0)), (2, .ref (α 14)), (3, .ref oa), (4, .int (zi (i : Int)))] [] := by
  obtain ⟨r, s, h1, h2, e1, e2, e3, hR⟩ := HR c h hc hRc ((xs (i + 1)).toInt) (zw_toInt _)
  refine y_aload_n (q := 850) C dL_law_849 1 rfl rfl rfl ?_
  refine y_aload_n (q := 851) C dL_law_850 0 rfl rfl rfl ?_
  refine y_iload (q := 853) C dL_law_851 4 rfl rfl ?_
  refine y_iconst (q := 854) (v := zi 1) C dL_law_853 rfl rfl ?_
  refine y_iadd (q := 855) C dL_law_854 rfl ?_
  refine y_sld (q := 856) (j := i + 1) C hX hbl hbA (zw_iadd 1 hi hL) (by omega) dL_law_855 rfl ?_
  refine y_callV (q := 859) (o := 0) (d := 2000) (av := [.int (zi (xs (i + 1)).toInt)]) (rest := []) (stk2 := [.int (zi r)]) C hG hn clX10 zo_0 kd_0 (M_fX10_run (by decide) e1) mY_X10_run ⟨by rw [hRm]; exact Nat.le_of_ble_eq_true rfl, by rw [hRm]; exact Nat.le_of_ble_eq_true rfl⟩ hkn q_862 (Nat.le_of_ble_eq_true rfl) dL_law_856 rfl rfl rfl ?_
  refine y_aload_n (q := 860) C dL_law_859 2 rfl rfl rfl ?_
  refine y_aload_n (q := 861) C dL_law_860 0 rfl rfl rfl ?_
  refine y_iload (q := 863) C dL_law_861 4 rfl rfl ?_
  refine y_iconst (q := 864) (v := zi 1) C dL_law_863 rfl rfl ?_
  refine y_iadd (q := 865) C dL_law_864 rfl ?_
  refine y_sld (q := 866) (j := i + 1) C hX hbl hbA (zw_iadd 1 hi hL) (by omega) dL_law_865 rfl ?_
  refine y_callV (q := 869) (o := 14) (d := 2000) (av := [.int (zi (xs (i + 1)).toInt)]) (rest := [.int (zi r)]) (stk2 := [.int (zi s), .int (zi r)]) C hG hn clX11 zo_14 kd_14 (M_fX11_run (by decide) e2) mY_X11_run ⟨by rw [hRm]; exact Nat.le_of_ble_eq_true rfl, by rw [hRm]; exact Nat.le_of_ble_eq_true rfl⟩ hkn q_1590 (Nat.le_of_ble_eq_true rfl) dL_law_866 rfl rfl rfl ?_
  refine y_icmp_eqT (tgt := 1360) C e3 dL_law_869 (by decide) ?_
  exact kk h2 hR
def zS19 (N : Nat) (R : Nat → zH → Prop) : Prop := ∀ (c : Nat) (h : zH), c < 512 → R c h → ∀ (a1 : Int) (_ : zw a1 = a1), ∃ (r s : Int) (h1 : zH) (h2 : zH), fX10_perform N a1 h = some (r, h1) ∧ fX11_perform N a1 h1 = some (s, h2) ∧ zi r = zi s ∧ R (c + 1) h2
set_option maxRecDepth 20000 in
set_option maxHeartbeats 4000000 in
theorem law_case19 {υ : zU} (C : yV υ RL code 7 ret) {σ : zSg} (hG : zG σ (yA υ) (ys υ) (ys υ).heap) (hRm : yR υ = room_1) {α : Nat → Nat} {nn : Nat} (hn : zN ≤ nn ∧ nn ≤ zN + 1) {b0 L oa i c k n : Nat} {xs : Nat → Int32} {ex : va_W} (hX : va_X b0 L xs (ys υ) (ys υ).heap) (hbl : b0 < (ys υ).heap.size) (hbA : ¬ yA υ b0) (hL : L ≤ 3072) (hi : i + 6 ≤ L) (hc : c < 512) (hkn : k ≤ (yR υ).cells ∧ n ≤ (yR υ).slots) {N : Nat} {R : Nat → zH → Prop} (HR : zS19 N R) {h : zH} (hRc : R c h) (kk : ∀ h2, R (c + 1) h2 → zY υ (zws (ycy υ) α nn h2 ++ ex) k n 1360 [(0, .ref b0), (1, .ref (α 0)), (2, .ref (α 14)), (3, .ref oa), (4, .int (zi (i : Int)))] []) : zY υ (zws (ycy υ) α nn h ++ ex) k n 874 [(0, .ref b0), (1, .ref (α 0)), (2, .ref (α 14)), (3, .ref oa), (4, .int (zi (i : Int)))] [] := by
  obtain ⟨r, s, h1, h2, e1, e2, e3, hR⟩ := HR c h hc hRc ((xs (i + 1)).toInt) (zw_toInt _)
  refine y_aload_n (q := 875) C dL_law_874 1 rfl rfl rfl ?_
  refine y_aload_n (q := 876) C dL_law_875 0 rfl rfl rfl ?_
  refine y_iload (q := 878) C dL_law_876 4 rfl rfl ?_
  refine y_iconst (q := 879) (v := zi 1) C dL_law_878 rfl rfl ?_
  refine y_iadd (q := 880) C dL_law_879 rfl ?_
  refine y_sld (q := 881) (j := i + 1) C hX hbl hbA (zw_iadd 1 hi hL) (by omega) dL_law_880 rfl ?_
  refine y_callV (q := 884) (o := 0) (d := 2000) (av := [.int (zi (xs (i + 1)).toInt)]) (rest := []) (stk2 := [.int (zi r)]) C hG hn clX10 zo_0 kd_0 (M_fX10_perform (by decide) e1) mY_X10_perform ⟨by rw [hRm]; exact Nat.le_of_ble_eq_true rfl, by rw [hRm]; exact Nat.le_of_ble_eq_true rfl⟩ hkn q_882 (Nat.le_of_ble_eq_true rfl) dL_law_881 rfl rfl rfl ?_
  refine y_aload_n (q := 885) C dL_law_884 2 rfl rfl rfl ?_
  refine y_aload_n (q := 886) C dL_law_885 0 rfl rfl rfl ?_
  refine y_iload (q := 888) C dL_law_886 4 rfl rfl ?_
  refine y_iconst (q := 889) (v := zi 1) C dL_law_888 rfl rfl ?_
  refine y_iadd (q := 890) C dL_law_889 rfl ?_
  refine y_sld (q := 891) (j := i + 1) C hX hbl hbA (zw_iadd 1 hi hL) (by omega) dL_law_890 rfl ?_
  refine y_callV (q := 894) (o := 14) (d := 2000) (av := [.int (zi (xs (i + 1)).toInt)]) (rest := [.int (zi r)]) (stk2 := [.int (zi s), .int (zi r)]) C hG hn clX11 zo_14 kd_14 (M_fX11_perform (by decide) e2) mY_X11_perform ⟨by rw [hRm]; exact Nat.le_of_ble_eq_true rfl, by rw [hRm]; exact Nat.le_of_ble_eq_true rfl⟩ hkn q_1611 (Nat.le_of_ble_eq_true rfl) dL_law_891 rfl rfl rfl ?_
  refine y_icmp_eqT (tgt := 1360) C e3 dL_law_894 (by decide) ?_
  exact kk h2 hR
def zS20 (N : Nat) (R : Nat → zH → Prop) : Prop := ∀ (c : Nat) (h : zH), c < 512 → R c h → ∀ (a1 : Int) (a2 : Int) (a3 : Int) (_ : zw a1 = a1) (_ : zw a2 = a2) (_ : zw a3 = a3), ∃ (r s : Int) (h1 : zH) (h2 : zH), fX10_ahead N a1 a2 a3 h = some (r, h1) ∧ fX11_ahead N a1 a2 a3 h1 = some (s, h2) ∧ zi r = zi s ∧ R (c + 1) h2
set_option maxRecDepth 20000 in
set_option maxHeartbeats 4000000 in
theorem law_case20 {υ : zU} (C : yV υ RL code 7 ret) {σ : zSg} (hG : zG σ (yA υ) (ys υ) (ys υ).heap) (hRm : yR υ = room_1) {α : Nat → Nat} {nn : Nat} (hn : zN ≤ nn ∧ nn ≤ zN + 1) {b0 L oa i c k n : Nat} {xs : Nat → Int32} {ex : va_W} (hX : va_X b0 L xs (ys υ) (ys υ).heap) (hbl : b0 < (ys υ).heap.size) (hbA : ¬ yA υ b0) (hL : L ≤ 3072) (hi : i + 6 ≤ L) (hc : c < 512) (hkn : k ≤ (yR υ).cells ∧ n ≤ (yR υ).slots) {N : Nat} {R : Nat → zH → Prop} (HR : zS20 N R) {h : zH} (hRc : R c h) (kk : ∀ h2, R (c + 1) h2 → zY υ (zws (ycy υ) α nn h2 ++ ex) k n 1360 [(0, .ref b0), (1, .ref (α 0)), (2, .ref (α 14)), (3, .ref oa), (4, .int (zi (i : Int)))] []) : zY υ (zws (ycy υ) α nn h ++ ex) k n 899 [(0, .ref b0), (1, .ref (α 0)), (2, .ref (α 14)), (3, .ref oa), (4, .int (zi (i : Int)))] [] := by
  obtain ⟨r, s, h1, h2, e1, e2, e3, hR⟩ := HR c h hc hRc ((xs (i + 1)).toInt) ((xs (i + 2)).toInt) ((xs (i + 3)).toInt) (zw_toInt _) (zw_toInt _) (zw_toInt _)
  refine y_aload_n (q := 900) C dL_law_899 1 rfl rfl rfl ?_
  refine y_aload_n (q := 901) C dL_law_900 0 rfl rfl rfl ?_
  refine y_iload (q := 903) C dL_law_901 4 rfl rfl ?_
  refine y_iconst (q := 904) (v := zi 1) C dL_law_903 rfl rfl ?_
  refine y_iadd (q := 905) C dL_law_904 rfl ?_
  refine y_sld (q := 906) (j := i + 1) C hX hbl hbA (zw_iadd 1 hi hL) (by omega) dL_law_905 rfl ?_
  refine y_aload_n (q := 907) C dL_law_906 0 rfl rfl rfl ?_
  refine y_iload (q := 909) C dL_law_907 4 rfl rfl ?_
  refine y_iconst (q := 910) (v := zi 2) C dL_law_909 rfl rfl ?_
  refine y_iadd (q := 911) C dL_law_910 rfl ?_
  refine y_sld (q := 912) (j := i + 2) C hX hbl hbA (zw_iadd 2 hi hL) (by omega) dL_law_911 rfl ?_
  refine y_aload_n (q := 913) C dL_law_912 0 rfl rfl rfl ?_
  refine y_iload (q := 915) C dL_law_913 4 rfl rfl ?_
  refine y_iconst (q := 916) (v := zi 3) C dL_law_915 rfl rfl ?_
  refine y_iadd (q := 917) C dL_law_916 rfl ?_
  refine y_sld (q := 918) (j := i + 3) C hX hbl hbA (zw_iadd 3 hi hL) (by omega) dL_law_917 rfl ?_
  refine y_callV (q := 921) (o := 0) (d := 2000) (av := [.int (zi (xs (i + 1)).toInt), .int (zi (xs (i + 2)).toInt), .int (zi (xs (i + 3)).toInt)]) (rest := []) (stk2 := [.int (zi r)]) C hG hn clX10 zo_0 kd_0 (M_fX10_ahead (by decide) e1) mY_X10_ahead ⟨by rw [hRm]; exact Nat.le_of_ble_eq_true rfl, by rw [hRm]; exact Nat.le_of_ble_eq_true rfl⟩ hkn q_886 (Nat.le_of_ble_eq_true rfl) dL_law_918 rfl rfl rfl ?_
  refine y_aload_n (q := 922) C dL_law_921 2 rfl rfl rfl ?_
  refine y_aload_n (q := 923) C dL_law_922 0 rfl rfl rfl ?_
  refine y_iload (q := 925) C dL_law_923 4 rfl rfl ?_
  refine y_iconst (q := 926) (v := zi 1) C dL_law_925 rfl rfl ?_
  refine y_iadd (q := 927) C dL_law_926 rfl ?_
  refine y_sld (q := 928) (j := i + 1) C hX hbl hbA (zw_iadd 1 hi hL) (by omega) dL_law_927 rfl ?_
  refine y_aload_n (q := 929) C dL_law_928 0 rfl rfl rfl ?_
  refine y_iload (q := 931) C dL_law_929 4 rfl rfl ?_
  refine y_iconst (q := 932) (v := zi 2) C dL_law_931 rfl rfl ?_
  refine y_iadd (q := 933) C dL_law_932 rfl ?_
  refine y_sld (q := 934) (j := i + 2) C hX hbl hbA (zw_iadd 2 hi hL) (by omega) dL_law_933 rfl ?_
  refine y_aload_n (q := 935) C dL_law_934 0 rfl rfl rfl ?_
  refine y_iload (q := 937) C dL_law_935 4 rfl rfl ?_
  refine y_iconst (q := 938) (v := zi 3) C dL_law_937 rfl rfl ?_
  refine y_iadd (q := 939) C dL_law_938 rfl ?_
  refine y_sld (q := 940) (j := i + 3) C hX hbl hbA (zw_iadd 3 hi hL) (by omega) dL_law_939 rfl ?_
  refine y_callV (q := 943) (o := 14) (d := 2000) (av := [.int (zi (xs (i + 1)).toInt), .int (zi (xs (i + 2)).toInt), .int (zi (xs (i + 3)).toInt)]) (rest := [.int (zi r)]) (stk2 := [.int (zi s), .int (zi r)]) C hG hn clX11 zo_14 kd_14 (M_fX11_ahead (by decide) e2) mY_X11_ahead ⟨by rw [hRm]; exact Nat.le_of_ble_eq_true rfl, by rw [hRm]; exact Nat.le_of_ble_eq_true rfl⟩ hkn q_1615 (Nat.le_of_ble_eq_true rfl) dL_law_940 rfl rfl rfl ?_
  refine y_icmp_eqT (tgt := 1360) C e3 dL_law_943 (by decide) ?_
  exact kk h2 hR
def zS21 (N : Nat) (R : Nat → zH → Prop) : Prop := ∀ (c : Nat) (h : zH), c < 512 → R c h → ∀ (a1 : Int) (_ : zw a1 = a1), ∃ (r s : Int), fX10_needed N a1 h = some r ∧ fX11_needed N a1 h = some s ∧ zi r = zi s ∧ R (c + 1) h
set_option maxRecDepth 20000 in
set_option maxHeartbeats 4000000 in
theorem law_case21 {υ : zU} (C : yV υ RL code 7 ret) {σ : zSg} (hG : zG σ (yA υ) (ys υ) (ys υ).heap) (hRm : yR υ = room_1) {α : Nat → Nat} {nn : Nat} (hn : zN ≤ nn ∧ nn ≤ zN + 1) {b0 L oa i c k n : Nat} {xs : Nat → Int32} {ex : va_W} (hX : va_X b0 L xs (ys υ) (ys υ).heap) (hbl : b0 < (ys υ).heap.size) (hbA : ¬ yA υ b0) (hL : L ≤ 3072) (hi : i + 6 ≤ L) (hc : c < 512) (hkn : k ≤ (yR υ).cells ∧ n ≤ (yR υ).slots) {N : Nat} {R : Nat → zH → Prop} (HR : zS21 N R) {h : zH} (hRc : R c h) (kk : ∀ h2, R (c + 1) h2 → zY υ (zws (ycy υ) α nn h2 ++ ex) k n 1360 [(0, .ref b0), (1, .ref (α 0)), (2, .ref (α 14)), (3, .ref oa), (4, .int (zi (i : Int)))] []) : zY υ (zws (ycy υ) α nn h ++ ex) k n 948 [(0, .ref b0), (1, .ref (α 0)), (2, .ref (α 14)), (3, .ref oa), (4, .int (zi (i : Int)))] [] := by
  obtain ⟨r, s, e1, e2, e3, hR⟩ := HR c h hc hRc ((xs (i + 1)).toInt) (zw_toInt _)
  refine y_aload_n (q := 949) C dL_law_948 1 rfl rfl rfl ?_
  refine y_aload_n (q := 950) C dL_law_949 0 rfl rfl rfl ?_
  refine y_iload (q := 952) C dL_law_950 4 rfl rfl ?_
  refine y_iconst (q := 953) (v := zi 1) C dL_law_952 rfl rfl ?_
  refine y_iadd (q := 954) C dL_law_953 rfl ?_
  refine y_sld (q := 955) (j := i + 1) C hX hbl hbA (zw_iadd 1 hi hL) (by omega) dL_law_954 rfl ?_
  refine y_callV (q := 958) (o := 0) (d := 2000) (av := [.int (zi (xs (i + 1)).toInt)]) (rest := []) (stk2 := [.int (zi r)]) C hG hn clX10 zo_0 kd_0 (M_fX10_needed (by decide) e1) mY_X10_needed ⟨by rw [hRm]; exact Nat.le_of_ble_eq_true rfl, by rw [hRm]; exact Nat.le_of_ble_eq_true rfl⟩ hkn q_890 (Nat.le_of_ble_eq_true rfl) dL_law_955 rfl rfl rfl ?_
  refine y_aload_n (q := 959) C dL_law_958 2 rfl rfl rfl ?_
  refine y_aload_n (q := 960) C dL_law_959 0 rfl rfl rfl ?_
  refine y_iload (q := 962) C dL_law_960 4 rfl rfl ?_
  refine y_iconst (q := 963) (v := zi 1) C dL_law_962 rfl rfl ?_
  refine y_iadd (q := 964) C dL_law_963 rfl ?_
  refine y_sld (q := 965) (j := i + 1) C hX hbl hbA (zw_iadd 1 hi hL) (by omega) dL_law_964 rfl ?_
  refine y_callV (q := 968) (o := 14) (d := 2000) (av := [.int (zi (xs (i + 1)).toInt)]) (rest := [.int (zi r)]) (stk2 := [.int (zi s), .int (zi r)]) C hG hn clX11 zo_14 kd_14 (M_fX11_needed (by decide) e2) mY_X11_needed ⟨by rw [hRm]; exact Nat.le_of_ble_eq_true rfl, by rw [hRm]; exact Nat.le_of_ble_eq_true rfl⟩ hkn q_1619 (Nat.le_of_ble_eq_true rfl) dL_law_965 rfl rfl rfl ?_
  refine y_icmp_eqT (tgt := 1360) C e3 dL_law_968 (by decide) ?_
  exact kk h hR
def zS22 (N : Nat) (R : Nat → zH → Prop) : Prop := ∀ (c : Nat) (h : zH), c < 512 → R c h → ∀ (_ : True), ∃ (r s : Int), fX10_ring N h = some r ∧ fX11_ring N h = some s ∧ zi r = zi s ∧ R (c + 1) h
set_option maxRecDepth 20000 in
set_option maxHeartbeats 4000000 in
theorem law_case22 {υ : zU} (C : yV υ RL code 7 ret) {σ : zSg} (hG : zG σ (yA υ) (ys υ) (ys υ).heap) (hRm : yR υ = room_1) {α : Nat → Nat} {nn : Nat} (hn : zN ≤ nn ∧ nn ≤ zN + 1) {b0 L oa i c k n : Nat} {xs : Nat → Int32} {ex : va_W} (hX : va_X b0 L xs (ys υ) (ys υ).heap) (hbl : b0 < (ys υ).heap.size) (hbA : ¬ yA υ b0) (hL : L ≤ 3072) (hi : i + 6 ≤ L) (hc : c < 512) (hkn : k ≤ (yR υ).cells ∧ n ≤ (yR υ).slots) {N : Nat} {R : Nat → zH → Prop} (HR : zS22 N R) {h : zH} (hRc : R c h) (kk : ∀ h2, R (c + 1) h2 → zY υ (zws (ycy υ) α nn h2 ++ ex) k n 1360 [(0, .ref b0), (1, .ref (α 0)), (2, .ref (α 14)), (3, .ref oa), (4, .int (zi (i : Int)))] []) : zY υ (zws (ycy υ) α nn h ++ ex) k n 973 [(0, .ref b0), (1, .ref (α 0)), (2, .ref (α 14)), (3, .ref oa), (4, .int (zi (i : Int)))] [] := by
  obtain ⟨r, s, e1, e2, e3, hR⟩ := HR c h hc hRc trivial
  refine y_aload_n (q := 974) C dL_law_973 1 rfl rfl rfl ?_
  refine y_callV (q := 977) (o := 0) (d := 2000) (av := []) (rest := []) (stk2 := [.int (zi r)]) C hG hn clX10 zo_0 kd_0 (M_fX10_ring (by decide) e1) mY_X10_ring ⟨by rw [hRm]; exact Nat.le_of_ble_eq_true rfl, by rw [hRm]; exact Nat.le_of_ble_eq_true rfl⟩ hkn q_894 (Nat.le_of_ble_eq_true rfl) dL_law_974 rfl rfl rfl ?_
  refine y_aload_n (q := 978) C dL_law_977 2 rfl rfl rfl ?_
  refine y_callV (q := 981) (o := 14) (d := 2000) (av := []) (rest := [.int (zi r)]) (stk2 := [.int (zi s), .int (zi r)]) C hG hn clX11 zo_14 kd_14 (M_fX11_ring (by decide) e2) mY_X11_ring ⟨by rw [hRm]; exact Nat.le_of_ble_eq_true rfl, by rw [hRm]; exact Nat.le_of_ble_eq_true rfl⟩ hkn q_1627 (Nat.le_of_ble_eq_true rfl) dL_law_978 rfl rfl rfl ?_
  refine y_icmp_eqT (tgt := 1360) C e3 dL_law_981 (by decide) ?_
  exact kk h hR
def zS23 (N : Nat) (R : Nat → zH → Prop) : Prop := ∀ (c : Nat) (h : zH), c < 512 → R c h → ∀ (a1 : Int) (a2 : Int) (_ : zw a1 = a1) (_ : zw a2 = a2), ∃ (r s : Int) (h1 : zH) (h2 : zH), fX10_soonest N a1 a2 h = some (r, h1) ∧ fX11_soonest N a1 a2 h1 = some (s, h2) ∧ zi r = zi s ∧ R (c + 1) h2
set_option maxRecDepth 20000 in
set_option maxHeartbeats 4000000 in
theorem law_case23 {υ : zU} (C : yV υ RL code 7 ret) {σ : zSg} (hG : zG σ (yA υ) (ys υ) (ys υ).heap) (hRm : yR υ = room_1) {α : Nat → Nat} {nn : Nat} (hn : zN ≤ nn ∧ nn ≤ zN + 1) {b0 L oa i c k n : Nat} {xs : Nat → Int32} {ex : va_W} (hX : va_X b0 L xs (ys υ) (ys υ).heap) (hbl : b0 < (ys υ).heap.size) (hbA : ¬ yA υ b0) (hL : L ≤ 3072) (hi : i + 6 ≤ L) (hc : c < 512) (hkn : k ≤ (yR υ).cells ∧ n ≤ (yR υ).slots) {N : Nat} {R : Nat → zH → Prop} (HR : zS23 N R) {h : zH} (hRc : R c h) (kk : ∀ h2, R (c + 1) h2 → zY υ (zws (ycy υ) α nn h2 ++ ex) k n 1360 [(0, .ref b0), (1, .ref (α 0)), (2, .ref (α 14)), (3, .ref oa), (4, .int (zi (i : Int)))] []) : zY υ (zws (ycy υ) α nn h ++ ex) k n 986 [(0, .ref b0), (1, .ref (α 0)), (2, .ref (α 14)), (3, .ref oa), (4, .int (zi (i : Int)))] [] := by
  obtain ⟨r, s, h1, h2, e1, e2, e3, hR⟩ := HR c h hc hRc ((xs (i + 1)).toInt) ((xs (i + 2)).toInt) (zw_toInt _) (zw_toInt _)
  refine y_aload_n (q := 987) C dL_law_986 1 rfl rfl rfl ?_
  refine y_aload_n (q := 988) C dL_law_987 0 rfl rfl rfl ?_
  refine y_iload (q := 990) C dL_law_988 4 rfl rfl ?_
  refine y_iconst (q := 991) (v := zi 1) C dL_law_990 rfl rfl ?_
  refine y_iadd (q := 992) C dL_law_991 rfl ?_
  refine y_sld (q := 993) (j := i + 1) C hX hbl hbA (zw_iadd 1 hi hL) (by omega) dL_law_992 rfl ?_
  refine y_aload_n (q := 994) C dL_law_993 0 rfl rfl rfl ?_
  refine y_iload (q := 996) C dL_law_994 4 rfl rfl ?_
  refine y_iconst (q := 997) (v := zi 2) C dL_law_996 rfl rfl ?_
  refine y_iadd (q := 998) C dL_law_997 rfl ?_
  refine y_sld (q := 999) (j := i + 2) C hX hbl hbA (zw_iadd 2 hi hL) (by omega) dL_law_998 rfl ?_
  refine y_callV (q := 1002) (o := 0) (d := 2000) (av := [.int (zi (xs (i + 1)).toInt), .int (zi (xs (i + 2)).toInt)]) (rest := []) (stk2 := [.int (zi r)]) C hG hn clX10 zo_0 kd_0 (M_fX10_soonest (by decide) e1) mY_X10_soonest ⟨by rw [hRm]; exact Nat.le_of_ble_eq_true rfl, by rw [hRm]; exact Nat.le_of_ble_eq_true rfl⟩ hkn q_899 (Nat.le_of_ble_eq_true rfl) dL_law_999 rfl rfl rfl ?_
  refine y_aload_n (q := 1003) C dL_law_1002 2 rfl rfl rfl ?_
  refine y_aload_n (q := 1004) C dL_law_1003 0 rfl rfl rfl ?_
  refine y_iload (q := 1006) C dL_law_1004 4 rfl rfl ?_
  refine y_iconst (q := 1007) (v := zi 1) C dL_law_1006 rfl rfl ?_
  refine y_iadd (q := 1008) C dL_law_1007 rfl ?_
  refine y_sld (q := 1009) (j := i + 1) C hX hbl hbA (zw_iadd 1 hi hL) (by omega) dL_law_1008 rfl ?_
  refine y_aload_n (q := 1010) C dL_law_1009 0 rfl rfl rfl ?_
  refine y_iload (q := 1012) C dL_law_1010 4 rfl rfl ?_
  refine y_iconst (q := 1013) (v := zi 2) C dL_law_1012 rfl rfl ?_
  refine y_iadd (q := 1014) C dL_law_1013 rfl ?_
  refine y_sld (q := 1015) (j := i + 2) C hX hbl hbA (zw_iadd 2 hi hL) (by omega) dL_law_1014 rfl ?_
  refine y_callV (q := 1018) (o := 14) (d := 2000) (av := [.int (zi (xs (i + 1)).toInt), .int (zi (xs (i + 2)).toInt)]) (rest := [.int (zi r)]) (stk2 := [.int (zi s), .int (zi r)]) C hG hn clX11 zo_14 kd_14 (M_fX11_soonest (by decide) e2) mY_X11_soonest ⟨by rw [hRm]; exact Nat.le_of_ble_eq_true rfl, by rw [hRm]; exact Nat.le_of_ble_eq_true rfl⟩ hkn q_1631 (Nat.le_of_ble_eq_true rfl) dL_law_1015 rfl rfl rfl ?_
  refine y_icmp_eqT (tgt := 1360) C e3 dL_law_1018 (by decide) ?_
  exact kk h2 hR
def zS24 (N : Nat) (R : Nat → zH → Prop) : Prop := ∀ (c : Nat) (h : zH), c < 512 → R c h → ∀ (a1 : Int) (_ : zw a1 = a1), ∃ (r s : Int) (h1 : zH), fX10_waived N a1 h = some (r, h1) ∧ fX11_waived N a1 h1 = some s ∧ zi r = zi s ∧ R (c + 1) h1
set_option maxRecDepth 20000 in
set_option maxHeartbeats 4000000 in
theorem law_case24 {υ : zU} (C : yV υ RL code 7 ret) {σ : zSg} (hG : zG σ (yA υ) (ys υ) (ys υ).heap) (hRm : yR υ = room_1) {α : Nat → Nat} {nn : Nat} (hn : zN ≤ nn ∧ nn ≤ zN + 1) {b0 L oa i c k n : Nat} {xs : Nat → Int32} {ex : va_W} (hX : va_X b0 L xs (ys υ) (ys υ).heap) (hbl : b0 < (ys υ).heap.size) (hbA : ¬ yA υ b0) (hL : L ≤ 3072) (hi : i + 6 ≤ L) (hc : c < 512) (hkn : k ≤ (yR υ).cells ∧ n ≤ (yR υ).slots) {N : Nat} {R : Nat → zH → Prop} (HR : zS24 N R) {h : zH} (hRc : R c h) (kk : ∀ h2, R (c + 1) h2 → zY υ (zws (ycy υ) α nn h2 ++ ex) k n 1360 [(0, .ref b0), (1, .ref (α 0)), (2, .ref (α 14)), (3, .ref oa), (4, .int (zi (i : Int)))] []) : zY υ (zws (ycy υ) α nn h ++ ex) k n 1023 [(0, .ref b0), (1, .ref (α 0)), (2, .ref (α 14)), (3, .ref oa), (4, .int (zi (i : Int)))] [] := by
  obtain ⟨r, s, h1, e1, e2, e3, hR⟩ := HR c h hc hRc ((xs (i + 1)).toInt) (zw_toInt _)
  refine y_aload_n (q := 1024) C dL_law_1023 1 rfl rfl rfl ?_
  refine y_aload_n (q := 1025) C dL_law_1024 0 rfl rfl rfl ?_
  refine y_iload (q := 1027) C dL_law_1025 4 rfl rfl ?_
  refine y_iconst (q := 1028) (v := zi 1) C dL_law_1027 rfl rfl ?_
  refine y_iadd (q := 1029) C dL_law_1028 rfl ?_
  refine y_sld (q := 1030) (j := i + 1) C hX hbl hbA (zw_iadd 1 hi hL) (by omega) dL_law_1029 rfl ?_
  refine y_callV (q := 1033) (o := 0) (d := 2000) (av := [.int (zi (xs (i + 1)).toInt)]) (rest := []) (stk2 := [.int (zi r)]) C hG hn clX10 zo_0 kd_0 (M_fX10_waived (by decide) e1) mY_X10_waived ⟨by rw [hRm]; exact Nat.le_of_ble_eq_true rfl, by rw [hRm]; exact Nat.le_of_ble_eq_true rfl⟩ hkn q_916 (Nat.le_of_ble_eq_true rfl) dL_law_1030 rfl rfl rfl ?_
  refine y_aload_n (q := 1034) C dL_law_1033 2 rfl rfl rfl ?_
  refine y_aload_n (q := 1035) C dL_law_1034 0 rfl rfl rfl ?_
  refine y_iload (q := 1037) C dL_law_1035 4 rfl rfl ?_
  refine y_iconst (q := 1038) (v := zi 1) C dL_law_1037 rfl rfl ?_
  refine y_iadd (q := 1039) C dL_law_1038 rfl ?_
  refine y_sld (q := 1040) (j := i + 1) C hX hbl hbA (zw_iadd 1 hi hL) (by omega) dL_law_1039 rfl ?_
  refine y_callV (q := 1043) (o := 14) (d := 2000) (av := [.int (zi (xs (i + 1)).toInt)]) (rest := [.int (zi r)]) (stk2 := [.int (zi s), .int (zi r)]) C hG hn clX11 zo_14 kd_14 (M_fX11_waived (by decide) e2) mY_X11_waived ⟨by rw [hRm]; exact Nat.le_of_ble_eq_true rfl, by rw [hRm]; exact Nat.le_of_ble_eq_true rfl⟩ hkn q_1651 (Nat.le_of_ble_eq_true rfl) dL_law_1040 rfl rfl rfl ?_
  refine y_icmp_eqT (tgt := 1360) C e3 dL_law_1043 (by decide) ?_
  exact kk h1 hR
def zS25 (N : Nat) (R : Nat → zH → Prop) : Prop := ∀ (c : Nat) (h : zH), c < 512 → R c h → ∀ (_ : True), ∃ (r s : Int) (h1 : zH) (h2 : zH), fX10_earliest N h = some (r, h1) ∧ fX11_earliest N h1 = some (s, h2) ∧ zi r = zi s ∧ R (c + 1) h2
set_option maxRecDepth 20000 in
set_option maxHeartbeats 4000000 in
theorem law_case25 {υ : zU} (C : yV υ RL code 7 ret) {σ : zSg} (hG : zG σ (yA υ) (ys υ) (ys υ).heap) (hRm : yR υ = room_1) {α : Nat → Nat} {nn : Nat} (hn : zN ≤ nn ∧ nn ≤ zN + 1) {b0 L oa i c k n : Nat} {xs : Nat → Int32} {ex : va_W} (hX : va_X b0 L xs (ys υ) (ys υ).heap) (hbl : b0 < (ys υ).heap.size) (hbA : ¬ yA υ b0) (hL : L ≤ 3072) (hi : i + 6 ≤ L) (hc : c < 512) (hkn : k ≤ (yR υ).cells ∧ n ≤ (yR υ).slots) {N : Nat} {R : Nat → zH → Prop} (HR : zS25 N R) {h : zH} (hRc : R c h) (kk : ∀ h2, R (c + 1) h2 → zY υ (zws (ycy υ) α nn h2 ++ ex) k n 1360 [(0, .ref b0), (1, .ref (α 0)), (2, .ref (α 14)), (3, .ref oa), (4, .int (zi (i : Int)))] []) : zY υ (zws (ycy υ) α nn h ++ ex) k n 1048 [(0, .ref b0), (1, .ref (α 0)), (2, .ref (α 14)), (3, .ref oa), (4, .int (zi (i : Int)))] [] := by
  obtain ⟨r, s, h1, h2, e1, e2, e3, hR⟩ := HR c h hc hRc trivial
  refine y_aload_n (q := 1049) C dL_law_1048 1 rfl rfl rfl ?_
  refine y_callV (q := 1052) (o := 0) (d := 2000) (av := []) (rest := []) (stk2 := [.int (zi r)]) C hG hn clX10 zo_0 kd_0 (M_fX10_earliest (by decide) e1) mY_X10_earliest ⟨by rw [hRm]; exact Nat.le_of_ble_eq_true rfl, by rw [hRm]; exact Nat.le_of_ble_eq_true rfl⟩ hkn q_924 (Nat.le_of_ble_eq_true rfl) dL_law_1049 rfl rfl rfl ?_
  refine y_aload_n (q := 1053) C dL_law_1052 2 rfl rfl rfl ?_
  refine y_callV (q := 1056) (o := 14) (d := 2000) (av := []) (rest := [.int (zi r)]) (stk2 := [.int (zi s), .int (zi r)]) C hG hn clX11 zo_14 kd_14 (M_fX11_earliest (by decide) e2) mY_X11_earliest ⟨by rw [hRm]; exact Nat.le_of_ble_eq_true rfl, by rw [hRm]; exact Nat.le_of_ble_eq_true rfl⟩ hkn q_1659 (Nat.le_of_ble_eq_true rfl) dL_law_1053 rfl rfl rfl ?_
  refine y_icmp_eqT (tgt := 1360) C e3 dL_law_1056 (by decide) ?_
  exact kk h2 hR
def zS26 (N : Nat) (R : Nat → zH → Prop) : Prop := ∀ (c : Nat) (h : zH), c < 512 → R c h → ∀ (a1 : Int) (a2 : Int) (_ : zw a1 = a1) (_ : zw a2 = a2), ∃ (r s : Int) (h1 : zH) (h2 : zH), fX10_share N a1 a2 h = some (r, h1) ∧ fX11_share N a1 a2 h1 = some (s, h2) ∧ zi r = zi s ∧ R (c + 1) h2
set_option maxRecDepth 20000 in
set_option maxHeartbeats 4000000 in
theorem law_case26 {υ : zU} (C : yV υ RL code 7 ret) {σ : zSg} (hG : zG σ (yA υ) (ys υ) (ys υ).heap) (hRm : yR υ = room_1) {α : Nat → Nat} {nn : Nat} (hn : zN ≤ nn ∧ nn ≤ zN + 1) {b0 L oa i c k n : Nat} {xs : Nat → Int32} {ex : va_W} (hX : va_X b0 L xs (ys υ) (ys υ).heap) (hbl : b0 < (ys υ).heap.size) (hbA : ¬ yA υ b0) (hL : L ≤ 3072) (hi : i + 6 ≤ L) (hc : c < 512) (hkn : k ≤ (yR υ).cells ∧ n ≤ (yR υ).slots) {N : Nat} {R : Nat → zH → Prop} (HR : zS26 N R) {h : zH} (hRc : R c h) (kk : ∀ h2, R (c + 1) h2 → zY υ (zws (ycy υ) α nn h2 ++ ex) k n 1360 [(0, .ref b0), (1, .ref (α 0)), (2, .ref (α 14)), (3, .ref oa), (4, .int (zi (i : Int)))] []) : zY υ (zws (ycy υ) α nn h ++ ex) k n 1061 [(0, .ref b0), (1, .ref (α 0)), (2, .ref (α 14)), (3, .ref oa), (4, .int (zi (i : Int)))] [] := by
  obtain ⟨r, s, h1, h2, e1, e2, e3, hR⟩ := HR c h hc hRc ((xs (i + 1)).toInt) ((xs (i + 2)).toInt) (zw_toInt _) (zw_toInt _)
  refine y_aload_n (q := 1062) C dL_law_1061 1 rfl rfl rfl ?_
  refine y_aload_n (q := 1063) C dL_law_1062 0 rfl rfl rfl ?_
  refine y_iload (q := 1065) C dL_law_1063 4 rfl rfl ?_
  refine y_iconst (q := 1066) (v := zi 1) C dL_law_1065 rfl rfl ?_
  refine y_iadd (q := 1067) C dL_law_1066 rfl ?_
  refine y_sld (q := 1068) (j := i + 1) C hX hbl hbA (zw_iadd 1 hi hL) (by omega) dL_law_1067 rfl ?_
  refine y_aload_n (q := 1069) C dL_law_1068 0 rfl rfl rfl ?_
  refine y_iload (q := 1071) C dL_law_1069 4 rfl rfl ?_
  refine y_iconst (q := 1072) (v := zi 2) C dL_law_1071 rfl rfl ?_
  refine y_iadd (q := 1073) C dL_law_1072 rfl ?_
  refine y_sld (q := 1074) (j := i + 2) C hX hbl hbA (zw_iadd 2 hi hL) (by omega) dL_law_1073 rfl ?_
  refine y_callV (q := 1077) (o := 0) (d := 2000) (av := [.int (zi (xs (i + 1)).toInt), .int (zi (xs (i + 2)).toInt)]) (rest := []) (stk2 := [.int (zi r)]) C hG hn clX10 zo_0 kd_0 (M_fX10_share (by decide) e1) mY_X10_share ⟨by rw [hRm]; exact Nat.le_of_ble_eq_true rfl, by rw [hRm]; exact Nat.le_of_ble_eq_true rfl⟩ hkn q_928 (Nat.le_of_ble_eq_true rfl) dL_law_1074 rfl rfl rfl ?_
  refine y_aload_n (q := 1078) C dL_law_1077 2 rfl rfl rfl ?_
  refine y_aload_n (q := 1079) C dL_law_1078 0 rfl rfl rfl ?_
  refine y_iload (q := 1081) C dL_law_1079 4 rfl rfl ?_
  refine y_iconst (q := 1082) (v := zi 1) C dL_law_1081 rfl rfl ?_
  refine y_iadd (q := 1083) C dL_law_1082 rfl ?_
  refine y_sld (q := 1084) (j := i + 1) C hX hbl hbA (zw_iadd 1 hi hL) (by omega) dL_law_1083 rfl ?_
  refine y_aload_n (q := 1085) C dL_law_1084 0 rfl rfl rfl ?_
  refine y_iload (q := 1087) C dL_law_1085 4 rfl rfl ?_
  refine y_iconst (q := 1088) (v := zi 2) C dL_law_1087 rfl rfl ?_
  refine y_iadd (q := 1089) C dL_law_1088 rfl ?_
  refine y_sld (q := 1090) (j := i + 2) C hX hbl hbA (zw_iadd 2 hi hL) (by omega) dL_law_1089 rfl ?_
  refine y_callV (q := 1093) (o := 14) (d := 2000) (av := [.int (zi (xs (i + 1)).toInt), .int (zi (xs (i + 2)).toInt)]) (rest := [.int (zi r)]) (stk2 := [.int (zi s), .int (zi r)]) C hG hn clX11 zo_14 kd_14 (M_fX11_share (by decide) e2) mY_X11_share ⟨by rw [hRm]; exact Nat.le_of_ble_eq_true rfl, by rw [hRm]; exact Nat.le_of_ble_eq_true rfl⟩ hkn q_1663 (Nat.le_of_ble_eq_true rfl) dL_law_1090 rfl rfl rfl ?_
  refine y_icmp_eqT (tgt := 1360) C e3 dL_law_1093 (by decide) ?_
  exact kk h2 hR
def zS28 (N : Nat) (R : Nat → zH → Prop) : Prop := ∀ (c : Nat) (h : zH), c < 512 → R c h → ∀ (a1 : Int) (a2 : Int) (a3 : Int) (a4 : Int) (_ : zw a1 = a1) (_ : zw a2 = a2) (_ : zw a3 = a3) (_ : zw a4 = a4), ∃ (r s : Int), fX10_bribes N a1 a2 a3 a4 = some r ∧ fX11_bribes a1 a2 a3 a4 = some s ∧ zi r = zi s ∧ R (c + 1) h
set_option maxRecDepth 20000 in
set_option maxHeartbeats 4000000 in
theorem law_case28 {υ : zU} (C : yV υ RL code 7 ret) {σ : zSg} (hG : zG σ (yA υ) (ys υ) (ys υ).heap) (hRm : yR υ = room_1) {α : Nat → Nat} {nn : Nat} (hn : zN ≤ nn ∧ nn ≤ zN + 1) {b0 L oa i c k n : Nat} {xs : Nat → Int32} {ex : va_W} (hX : va_X b0 L xs (ys υ) (ys υ).heap) (hbl : b0 < (ys υ).heap.size) (hbA : ¬ yA υ b0) (hL : L ≤ 3072) (hi : i + 6 ≤ L) (hc : c < 512) (hkn : k ≤ (yR υ).cells ∧ n ≤ (yR υ).slots) {N : Nat} {R : Nat → zH → Prop} (HR : zS28 N R) {h : zH} (hRc : R c h) (kk : ∀ h2, R (c + 1) h2 → zY υ (zws (ycy υ) α nn h2 ++ ex) k n 1360 [(0, .ref b0), (1, .ref (α 0)), (2, .ref (α 14)), (3, .ref oa), (4, .int (zi (i : Int)))] []) : zY υ (zws (ycy υ) α nn h ++ ex) k n 1123 [(0, .ref b0), (1, .ref (α 0)), (2, .ref (α 14)), (3, .ref oa), (4, .int (zi (i : Int)))] [] := by
  obtain ⟨r, s, e1, e2, e3, hR⟩ := HR c h hc hRc ((xs (i + 1)).toInt) ((xs (i + 2)).toInt) ((xs (i + 3)).toInt) ((xs (i + 4)).toInt) (zw_toInt _) (zw_toInt _) (zw_toInt _) (zw_toInt _)
  refine y_aload_n (q := 1124) C dL_law_1123 1 rfl rfl rfl ?_
  refine y_aload_n (q := 1125) C dL_law_1124 0 rfl rfl rfl ?_
  refine y_iload (q := 1127) C dL_law_1125 4 rfl rfl ?_
  refine y_iconst (q := 1128) (v := zi 1) C dL_law_1127 rfl rfl ?_
  refine y_iadd (q := 1129) C dL_law_1128 rfl ?_
  refine y_sld (q := 1130) (j := i + 1) C hX hbl hbA (zw_iadd 1 hi hL) (by omega) dL_law_1129 rfl ?_
  refine y_aload_n (q := 1131) C dL_law_1130 0 rfl rfl rfl ?_
  refine y_iload (q := 1133) C dL_law_1131 4 rfl rfl ?_
  refine y_iconst (q := 1134) (v := zi 2) C dL_law_1133 rfl rfl ?_
  refine y_iadd (q := 1135) C dL_law_1134 rfl ?_
  refine y_sld (q := 1136) (j := i + 2) C hX hbl hbA (zw_iadd 2 hi hL) (by omega) dL_law_1135 rfl ?_
  refine y_aload_n (q := 1137) C dL_law_1136 0 rfl rfl rfl ?_
  refine y_iload (q := 1139) C dL_law_1137 4 rfl rfl ?_
  refine y_iconst (q := 1140) (v := zi 3) C dL_law_1139 rfl rfl ?_
  refine y_iadd (q := 1141) C dL_law_1140 rfl ?_
  refine y_sld (q := 1142) (j := i + 3) C hX hbl hbA (zw_iadd 3 hi hL) (by omega) dL_law_1141 rfl ?_
  refine y_aload_n (q := 1143) C dL_law_1142 0 rfl rfl rfl ?_
  refine y_iload (q := 1145) C dL_law_1143 4 rfl rfl ?_
  refine y_iconst (q := 1146) (v := zi 4) C dL_law_1145 rfl rfl ?_
  refine y_iadd (q := 1147) C dL_law_1146 rfl ?_
  refine y_sld (q := 1148) (j := i + 4) C hX hbl hbA (zw_iadd 4 hi hL) (by omega) dL_law_1147 rfl ?_
  refine y_callV (q := 1151) (o := 0) (d := 2000) (av := [.int (zi (xs (i + 1)).toInt), .int (zi (xs (i + 2)).toInt), .int (zi (xs (i + 3)).toInt), .int (zi (xs (i + 4)).toInt)]) (rest := []) (stk2 := [.int (zi r)]) C hG hn clX10 zo_0 kd_0 (M_fX10_bribes (by decide) e1) mY_X10_bribes ⟨by rw [hRm]; exact Nat.le_of_ble_eq_true rfl, by rw [hRm]; exact Nat.le_of_ble_eq_true rfl⟩ hkn q_970 (Nat.le_of_ble_eq_true rfl) dL_law_1148 rfl rfl rfl ?_
  refine y_aload_n (q := 1152) C dL_law_1151 2 rfl rfl rfl ?_
  refine y_aload_n (q := 1153) C dL_law_1152 0 rfl rfl rfl ?_
  refine y_iload (q := 1155) C dL_law_1153 4 rfl rfl ?_
  refine y_iconst (q := 1156) (v := zi 1) C dL_law_1155 rfl rfl ?_
  refine y_iadd (q := 1157) C dL_law_1156 rfl ?_
  refine y_sld (q := 1158) (j := i + 1) C hX hbl hbA (zw_iadd 1 hi hL) (by omega) dL_law_1157 rfl ?_
  refine y_aload_n (q := 1159) C dL_law_1158 0 rfl rfl rfl ?_
  refine y_iload (q := 1161) C dL_law_1159 4 rfl rfl ?_
  refine y_iconst (q := 1162) (v := zi 2) C dL_law_1161 rfl rfl ?_
  refine y_iadd (q := 1163) C dL_law_1162 rfl ?_
  refine y_sld (q := 1164) (j := i + 2) C hX hbl hbA (zw_iadd 2 hi hL) (by omega) dL_law_1163 rfl ?_
  refine y_aload_n (q := 1165) C dL_law_1164 0 rfl rfl rfl ?_
  refine y_iload (q := 1167) C dL_law_1165 4 rfl rfl ?_
  refine y_iconst (q := 1168) (v := zi 3) C dL_law_1167 rfl rfl ?_
  refine y_iadd (q := 1169) C dL_law_1168 rfl ?_
  refine y_sld (q := 1170) (j := i + 3) C hX hbl hbA (zw_iadd 3 hi hL) (by omega) dL_law_1169 rfl ?_
  refine y_aload_n (q := 1171) C dL_law_1170 0 rfl rfl rfl ?_
  refine y_iload (q := 1173) C dL_law_1171 4 rfl rfl ?_
  refine y_iconst (q := 1174) (v := zi 4) C dL_law_1173 rfl rfl ?_
  refine y_iadd (q := 1175) C dL_law_1174 rfl ?_
  refine y_sld (q := 1176) (j := i + 4) C hX hbl hbA (zw_iadd 4 hi hL) (by omega) dL_law_1175 rfl ?_
  refine y_callV (q := 1179) (o := 14) (d := 2000) (av := [.int (zi (xs (i + 1)).toInt), .int (zi (xs (i + 2)).toInt), .int (zi (xs (i + 3)).toInt), .int (zi (xs (i + 4)).toInt)]) (rest := [.int (zi r)]) (stk2 := [.int (zi s), .int (zi r)]) C hG hn clX11 zo_14 kd_14 (M_fX11_bribes (by decide) e2) mY_X11_bribes ⟨by rw [hRm]; exact Nat.le_of_ble_eq_true rfl, by rw [hRm]; exact Nat.le_of_ble_eq_true rfl⟩ hkn q_1690 (Nat.le_of_ble_eq_true rfl) dL_law_1176 rfl rfl rfl ?_
  refine y_icmp_eqT (tgt := 1360) C e3 dL_law_1179 (by decide) ?_
  exact kk h hR
def zS29 (N : Nat) (R : Nat → zH → Prop) : Prop := ∀ (c : Nat) (h : zH), c < 512 → R c h → ∀ (a1 : Int) (a2 : Int) (_ : zw a1 = a1) (_ : zw a2 = a2), ∃ (r s : Int) (h1 : zH) (h2 : zH), fX10_see a1 a2 h = (r, h1) ∧ fX11_see a1 a2 h1 = some (s, h2) ∧ zi r = zi s ∧ R (c + 1) h2
set_option maxRecDepth 20000 in
set_option maxHeartbeats 4000000 in
theorem law_case29 {υ : zU} (C : yV υ RL code 7 ret) {σ : zSg} (hG : zG σ (yA υ) (ys υ) (ys υ).heap) (hRm : yR υ = room_1) {α : Nat → Nat} {nn : Nat} (hn : zN ≤ nn ∧ nn ≤ zN + 1) {b0 L oa i c k n : Nat} {xs : Nat → Int32} {ex : va_W} (hX : va_X b0 L xs (ys υ) (ys υ).heap) (hbl : b0 < (ys υ).heap.size) (hbA : ¬ yA υ b0) (hL : L ≤ 3072) (hi : i + 6 ≤ L) (hc : c < 512) (hkn : k ≤ (yR υ).cells ∧ n ≤ (yR υ).slots) {N : Nat} {R : Nat → zH → Prop} (HR : zS29 N R) {h : zH} (hRc : R c h) (kk : ∀ h2, R (c + 1) h2 → zY υ (zws (ycy υ) α nn h2 ++ ex) k n 1360 [(0, .ref b0), (1, .ref (α 0)), (2, .ref (α 14)), (3, .ref oa), (4, .int (zi (i : Int)))] []) : zY υ (zws (ycy υ) α nn h ++ ex) k n 1184 [(0, .ref b0), (1, .ref (α 0)), (2, .ref (α 14)), (3, .ref oa), (4, .int (zi (i : Int)))] [] := by
  obtain ⟨r, s, h1, h2, e1, e2, e3, hR⟩ := HR c h hc hRc ((xs (i + 1)).toInt) ((xs (i + 2)).toInt) (zw_toInt _) (zw_toInt _)
  refine y_aload_n (q := 1185) C dL_law_1184 1 rfl rfl rfl ?_
  refine y_aload_n (q := 1186) C dL_law_1185 0 rfl rfl rfl ?_
  refine y_iload (q := 1188) C dL_law_1186 4 rfl rfl ?_
  refine y_iconst (q := 1189) (v := zi 1) C dL_law_1188 rfl rfl ?_
  refine y_iadd (q := 1190) C dL_law_1189 rfl ?_
  refine y_sld (q := 1191) (j := i + 1) C hX hbl hbA (zw_iadd 1 hi hL) (by omega) dL_law_1190 rfl ?_
  refine y_aload_n (q := 1192) C dL_law_1191 0 rfl rfl rfl ?_
  refine y_iload (q := 1194) C dL_law_1192 4 rfl rfl ?_
  refine y_iconst (q := 1195) (v := zi 2) C dL_law_1194 rfl rfl ?_
  refine y_iadd (q := 1196) C dL_law_1195 rfl ?_
  refine y_sld (q := 1197) (j := i + 2) C hX hbl hbA (zw_iadd 2 hi hL) (by omega) dL_law_1196 rfl ?_
  refine y_callV (q := 1200) (o := 0) (d := 2000) (av := [.int (zi (xs (i + 1)).toInt), .int (zi (xs (i + 2)).toInt)]) (rest := []) (stk2 := [.int (zi r)]) C hG hn clX10 zo_0 kd_0 (M_fX10_see (by decide) e1) mY_X10_see ⟨by rw [hRm]; exact Nat.le_of_ble_eq_true rfl, by rw [hRm]; exact Nat.le_of_ble_eq_true rfl⟩ hkn q_980 (Nat.le_of_ble_eq_true rfl) dL_law_1197 rfl rfl rfl ?_
  refine y_aload_n (q := 1201) C dL_law_1200 2 rfl rfl rfl ?_
  refine y_aload_n (q := 1202) C dL_law_1201 0 rfl rfl rfl ?_
  refine y_iload (q := 1204) C dL_law_1202 4 rfl rfl ?_
  refine y_iconst (q := 1205) (v := zi 1) C dL_law_1204 rfl rfl ?_
  refine y_iadd (q := 1206) C dL_law_1205 rfl ?_
  refine y_sld (q := 1207) (j := i + 1) C hX hbl hbA (zw_iadd 1 hi hL) (by omega) dL_law_1206 rfl ?_
  refine y_aload_n (q := 1208) C dL_law_1207 0 rfl rfl rfl ?_
  refine y_iload (q := 1210) C dL_law_1208 4 rfl rfl ?_
  refine y_iconst (q := 1211) (v := zi 2) C dL_law_1210 rfl rfl ?_
  refine y_iadd (q := 1212) C dL_law_1211 rfl ?_
  refine y_sld (q := 1213) (j := i + 2) C hX hbl hbA (zw_iadd 2 hi hL) (by omega) dL_law_1212 rfl ?_
  refine y_callV (q := 1216) (o := 14) (d := 2000) (av := [.int (zi (xs (i + 1)).toInt), .int (zi (xs (i + 2)).toInt)]) (rest := [.int (zi r)]) (stk2 := [.int (zi s), .int (zi r)]) C hG hn clX11 zo_14 kd_14 (M_fX11_see (by decide) e2) mY_X11_see ⟨by rw [hRm]; exact Nat.le_of_ble_eq_true rfl, by rw [hRm]; exact Nat.le_of_ble_eq_true rfl⟩ hkn q_1697 (Nat.le_of_ble_eq_true rfl) dL_law_1213 rfl rfl rfl ?_
  refine y_icmp_eqT (tgt := 1360) C e3 dL_law_1216 (by decide) ?_
  exact kk h2 hR
def zS30 (N : Nat) (R : Nat → zH → Prop) : Prop := ∀ (c : Nat) (h : zH), c < 512 → R c h → ∀ (a1 : Int) (_ : zw a1 = a1), ∃ (r s : Int) (h1 : zH), fX10_could N a1 h = some (r, h1) ∧ fX11_could N a1 h1 = some s ∧ zi r = zi s ∧ R (c + 1) h1
set_option maxRecDepth 20000 in
set_option maxHeartbeats 4000000 in
theorem law_case30 {υ : zU} (C : yV υ RL code 7 ret) {σ : zSg} (hG : zG σ (yA υ) (ys υ) (ys υ).heap) (hRm : yR υ = room_1) {α : Nat → Nat} {nn : Nat} (hn : zN ≤ nn ∧ nn ≤ zN + 1) {b0 L oa i c k n : Nat} {xs : Nat → Int32} {ex : va_W} (hX : va_X b0 L xs (ys υ) (ys υ).heap) (hbl : b0 < (ys υ).heap.size) (hbA : ¬ yA υ b0) (hL : L ≤ 3072) (hi : i + 6 ≤ L) (hc : c < 512) (hkn : k ≤ (yR υ).cells ∧ n ≤ (yR υ).slots) {N : Nat} {R : Nat → zH → Prop} (HR : zS30 N R) {h : zH} (hRc : R c h) (kk : ∀ h2, R (c + 1) h2 → zY υ (zws (ycy υ) α nn h2 ++ ex) k n 1360 [(0, .ref b0), (1, .ref (α 0)), (2, .ref (α 14)), (3, .ref oa), (4, .int (zi (i : Int)))] []) : zY υ (zws (ycy υ) α nn h ++ ex) k n 1221 [(0, .ref b0), (1, .ref (α 0)), (2, .ref (α 14)), (3, .ref oa), (4, .int (zi (i : Int)))] [] := by
  obtain ⟨r, s, h1, e1, e2, e3, hR⟩ := HR c h hc hRc ((xs (i + 1)).toInt) (zw_toInt _)
  refine y_aload_n (q := 1222) C dL_law_1221 1 rfl rfl rfl ?_
  refine y_aload_n (q := 1223) C dL_law_1222 0 rfl rfl rfl ?_
  refine y_iload (q := 1225) C dL_law_1223 4 rfl rfl ?_
  refine y_iconst (q := 1226) (v := zi 1) C dL_law_1225 rfl rfl ?_
  refine y_iadd (q := 1227) C dL_law_1226 rfl ?_
  refine y_sld (q := 1228) (j := i + 1) C hX hbl hbA (zw_iadd 1 hi hL) (by omega) dL_law_1227 rfl ?_
  refine y_callV (q := 1231) (o := 0) (d := 2000) (av := [.int (zi (xs (i + 1)).toInt)]) (rest := []) (stk2 := [.int (zi r)]) C hG hn clX10 zo_0 kd_0 (M_fX10_could (by decide) e1) mY_X10_could ⟨by rw [hRm]; exact Nat.le_of_ble_eq_true rfl, by rw [hRm]; exact Nat.le_of_ble_eq_true rfl⟩ hkn q_989 (Nat.le_of_ble_eq_true rfl) dL_law_1228 rfl rfl rfl ?_
  refine y_aload_n (q := 1232) C dL_law_1231 2 rfl rfl rfl ?_
  refine y_aload_n (q := 1233) C dL_law_1232 0 rfl rfl rfl ?_
  refine y_iload (q := 1235) C dL_law_1233 4 rfl rfl ?_
  refine y_iconst (q := 1236) (v := zi 1) C dL_law_1235 rfl rfl ?_
  refine y_iadd (q := 1237) C dL_law_1236 rfl ?_
  refine y_sld (q := 1238) (j := i + 1) C hX hbl hbA (zw_iadd 1 hi hL) (by omega) dL_law_1237 rfl ?_
  refine y_callV (q := 1241) (o := 14) (d := 2000) (av := [.int (zi (xs (i + 1)).toInt)]) (rest := [.int (zi r)]) (stk2 := [.int (zi s), .int (zi r)]) C hG hn clX11 zo_14 kd_14 (M_fX11_could (by decide) e2) mY_X11_could ⟨by rw [hRm]; exact Nat.le_of_ble_eq_true rfl, by rw [hRm]; exact Nat.le_of_ble_eq_true rfl⟩ hkn q_1701 (Nat.le_of_ble_eq_true rfl) dL_law_1238 rfl rfl rfl ?_
  refine y_icmp_eqT (tgt := 1360) C e3 dL_law_1241 (by decide) ?_
  exact kk h1 hR
def zS31 (N : Nat) (R : Nat → zH → Prop) : Prop := ∀ (c : Nat) (h : zH), c < 512 → R c h → ∀ (_ : True), ∃ (r s : Int) (h1 : zH), fX10_sure N h = some (r, h1) ∧ fX11_sure N h1 = some s ∧ zi r = zi s ∧ R (c + 1) h1
set_option maxRecDepth 20000 in
set_option maxHeartbeats 4000000 in
theorem law_case31 {υ : zU} (C : yV υ RL code 7 ret) {σ : zSg} (hG : zG σ (yA υ) (ys υ) (ys υ).heap) (hRm : yR υ = room_1) {α : Nat → Nat} {nn : Nat} (hn : zN ≤ nn ∧ nn ≤ zN + 1) {b0 L oa i c k n : Nat} {xs : Nat → Int32} {ex : va_W} (hX : va_X b0 L xs (ys υ) (ys υ).heap) (hbl : b0 < (ys υ).heap.size) (hbA : ¬ yA υ b0) (hL : L ≤ 3072) (hi : i + 6 ≤ L) (hc : c < 512) (hkn : k ≤ (yR υ).cells ∧ n ≤ (yR υ).slots) {N : Nat} {R : Nat → zH → Prop} (HR : zS31 N R) {h : zH} (hRc : R c h) (kk : ∀ h2, R (c + 1) h2 → zY υ (zws (ycy υ) α nn h2 ++ ex) k n 1360 [(0, .ref b0), (1, .ref (α 0)), (2, .ref (α 14)), (3, .ref oa), (4, .int (zi (i : Int)))] []) : zY υ (zws (ycy υ) α nn h ++ ex) k n 1246 [(0, .ref b0), (1, .ref (α 0)), (2, .ref (α 14)), (3, .ref oa), (4, .int (zi (i : Int)))] [] := by
  obtain ⟨r, s, h1, e1, e2, e3, hR⟩ := HR c h hc hRc trivial
  refine y_aload_n (q := 1247) C dL_law_1246 1 rfl rfl rfl ?_
  refine y_callV (q := 1250) (o := 0) (d := 2000) (av := []) (rest := []) (stk2 := [.int (zi r)]) C hG hn clX10 zo_0 kd_0 (M_fX10_sure (by decide) e1) mY_X10_sure ⟨by rw [hRm]; exact Nat.le_of_ble_eq_true rfl, by rw [hRm]; exact Nat.le_of_ble_eq_true rfl⟩ hkn q_1002 (Nat.le_of_ble_eq_true rfl) dL_law_1247 rfl rfl rfl ?_
  refine y_aload_n (q := 1251) C dL_law_1250 2 rfl rfl rfl ?_
  refine y_callV (q := 1254) (o := 14) (d := 2000) (av := []) (rest := [.int (zi r)]) (stk2 := [.int (zi s), .int (zi r)]) C hG hn clX11 zo_14 kd_14 (M_fX11_sure (by decide) e2) mY_X11_sure ⟨by rw [hRm]; exact Nat.le_of_ble_eq_true rfl, by rw [hRm]; exact Nat.le_of_ble_eq_true rfl⟩ hkn q_1709 (Nat.le_of_ble_eq_true rfl) dL_law_1251 rfl rfl rfl ?_
  refine y_icmp_eqT (tgt := 1360) C e3 dL_law_1254 (by decide) ?_
  exact kk h1 hR
def zS32 (N : Nat) (R : Nat → zH → Prop) : Prop := ∀ (c : Nat) (h : zH), c < 512 → R c h → ∀ (_ : True), ∃ (r s : Int) (h1 : zH), fX10_wrong N h = some (r, h1) ∧ fX11_wrong N h1 = some s ∧ zi r = zi s ∧ R (c + 1) h1
set_option maxRecDepth 20000 in
set_option maxHeartbeats 4000000 in
theorem law_case32 {υ : zU} (C : yV υ RL code 7 ret) {σ : zSg} (hG : zG σ (yA υ) (ys υ) (ys υ).heap) (hRm : yR υ = room_1) {α : Nat → Nat} {nn : Nat} (hn : zN ≤ nn ∧ nn ≤ zN + 1) {b0 L oa i c k n : Nat} {xs : Nat → Int32} {ex : va_W} (hX : va_X b0 L xs (ys υ) (ys υ).heap) (hbl : b0 < (ys υ).heap.size) (hbA : ¬ yA υ b0) (hL : L ≤ 3072) (hi : i + 6 ≤ L) (hc : c < 512) (hkn : k ≤ (yR υ).cells ∧ n ≤ (yR υ).slots) {N : Nat} {R : Nat → zH → Prop} (HR : zS32 N R) {h : zH} (hRc : R c h) (kk : ∀ h2, R (c + 1) h2 → zY υ (zws (ycy υ) α nn h2 ++ ex) k n 1360 [(0, .ref b0), (1, .ref (α 0)), (2, .ref (α 14)), (3, .ref oa), (4, .int (zi (i : Int)))] []) : zY υ (zws (ycy υ) α nn h ++ ex) k n 1259 [(0, .ref b0), (1, .ref (α 0)), (2, .ref (α 14)), (3, .ref oa), (4, .int (zi (i : Int)))] [] := by
  obtain ⟨r, s, h1, e1, e2, e3, hR⟩ := HR c h hc hRc trivial
  refine y_aload_n (q := 1260) C dL_law_1259 1 rfl rfl rfl ?_
  refine y_callV (q := 1263) (o := 0) (d := 2000) (av := []) (rest := []) (stk2 := [.int (zi r)]) C hG hn clX10 zo_0 kd_0 (M_fX10_wrong (by decide) e1) mY_X10_wrong ⟨by rw [hRm]; exact Nat.le_of_ble_eq_true rfl, by rw [hRm]; exact Nat.le_of_ble_eq_true rfl⟩ hkn q_1006 (Nat.le_of_ble_eq_true rfl) dL_law_1260 rfl rfl rfl ?_
  refine y_aload_n (q := 1264) C dL_law_1263 2 rfl rfl rfl ?_
  refine y_callV (q := 1267) (o := 14) (d := 2000) (av := []) (rest := [.int (zi r)]) (stk2 := [.int (zi s), .int (zi r)]) C hG hn clX11 zo_14 kd_14 (M_fX11_wrong (by decide) e2) mY_X11_wrong ⟨by rw [hRm]; exact Nat.le_of_ble_eq_true rfl, by rw [hRm]; exact Nat.le_of_ble_eq_true rfl⟩ hkn q_1713 (Nat.le_of_ble_eq_true rfl) dL_law_1264 rfl rfl rfl ?_
  refine y_icmp_eqT (tgt := 1360) C e3 dL_law_1267 (by decide) ?_
  exact kk h1 hR
def zS33 (N : Nat) (R : Nat → zH → Prop) : Prop := ∀ (c : Nat) (h : zH), c < 512 → R c h → ∀ (a1 : Int) (a2 : Int) (_ : zw a1 = a1) (_ : zw a2 = a2), ∃ (r s : Int), fX10_works N a1 a2 h = some r ∧ fX11_works N a1 a2 h = some s ∧ zi r = zi s ∧ R (c + 1) h
set_option maxRecDepth 20000 in
set_option maxHeartbeats 4000000 in
theorem law_case33 {υ : zU} (C : yV υ RL code 7 ret) {σ : zSg} (hG : zG σ (yA υ) (ys υ) (ys υ).heap) (hRm : yR υ = room_1) {α : Nat → Nat} {nn : Nat} (hn : zN ≤ nn ∧ nn ≤ zN + 1) {b0 L oa i c k n : Nat} {xs : Nat → Int32} {ex : va_W} (hX : va_X b0 L xs (ys υ) (ys υ).heap) (hbl : b0 < (ys υ).heap.size) (hbA : ¬ yA υ b0) (hL : L ≤ 3072) (hi : i + 6 ≤ L) (hc : c < 512) (hkn : k ≤ (yR υ).cells ∧ n ≤ (yR υ).slots) {N : Nat} {R : Nat → zH → Prop} (HR : zS33 N R) {h : zH} (hRc : R c h) (kk : ∀ h2, R (c + 1) h2 → zY υ (zws (ycy υ) α nn h2 ++ ex) k n 1360 [(0, .ref b0), (1, .ref (α 0)), (2, .ref (α 14)), (3, .ref oa), (4, .int (zi (i : Int)))] []) : zY υ (zws (ycy υ) α nn h ++ ex) k n 1272 [(0, .ref b0), (1, .ref (α 0)), (2, .ref (α 14)), (3, .ref oa), (4, .int (zi (i : Int)))] [] := by
  obtain ⟨r, s, e1, e2, e3, hR⟩ := HR c h hc hRc ((xs (i + 1)).toInt) ((xs (i + 2)).toInt) (zw_toInt _) (zw_toInt _)
  refine y_aload_n (q := 1273) C dL_law_1272 1 rfl rfl rfl ?_
  refine y_aload_n (q := 1274) C dL_law_1273 0 rfl rfl rfl ?_
  refine y_iload (q := 1276) C dL_law_1274 4 rfl rfl ?_
  refine y_iconst (q := 1277) (v := zi 1) C dL_law_1276 rfl rfl ?_
  refine y_iadd (q := 1278) C dL_law_1277 rfl ?_
  refine y_sld (q := 1279) (j := i + 1) C hX hbl hbA (zw_iadd 1 hi hL) (by omega) dL_law_1278 rfl ?_
  refine y_aload_n (q := 1280) C dL_law_1279 0 rfl rfl rfl ?_
  refine y_iload (q := 1282) C dL_law_1280 4 rfl rfl ?_
  refine y_iconst (q := 1283) (v := zi 2) C dL_law_1282 rfl rfl ?_
  refine y_iadd (q := 1284) C dL_law_1283 rfl ?_
  refine y_sld (q := 1285) (j := i + 2) C hX hbl hbA (zw_iadd 2 hi hL) (by omega) dL_law_1284 rfl ?_
  refine y_callV (q := 1288) (o := 0) (d := 2000) (av := [.int (zi (xs (i + 1)).toInt), .int (zi (xs (i + 2)).toInt)]) (rest := []) (stk2 := [.int (zi r)]) C hG hn clX10 zo_0 kd_0 (M_fX10_works (by decide) e1) mY_X10_works ⟨by rw [hRm]; exact Nat.le_of_ble_eq_true rfl, by rw [hRm]; exact Nat.le_of_ble_eq_true rfl⟩ hkn q_1011 (Nat.le_of_ble_eq_true rfl) dL_law_1285 rfl rfl rfl ?_
  refine y_aload_n (q := 1289) C dL_law_1288 2 rfl rfl rfl ?_
  refine y_aload_n (q := 1290) C dL_law_1289 0 rfl rfl rfl ?_
  refine y_iload (q := 1292) C dL_law_1290 4 rfl rfl ?_
  refine y_iconst (q := 1293) (v := zi 1) C dL_law_1292 rfl rfl ?_
  refine y_iadd (q := 1294) C dL_law_1293 rfl ?_
  refine y_sld (q := 1295) (j := i + 1) C hX hbl hbA (zw_iadd 1 hi hL) (by omega) dL_law_1294 rfl ?_
  refine y_aload_n (q := 1296) C dL_law_1295 0 rfl rfl rfl ?_
  refine y_iload (q := 1298) C dL_law_1296 4 rfl rfl ?_
  refine y_iconst (q := 1299) (v := zi 2) C dL_law_1298 rfl rfl ?_
  refine y_iadd (q := 1300) C dL_law_1299 rfl ?_
  refine y_sld (q := 1301) (j := i + 2) C hX hbl hbA (zw_iadd 2 hi hL) (by omega) dL_law_1300 rfl ?_
  refine y_callV (q := 1304) (o := 14) (d := 2000) (av := [.int (zi (xs (i + 1)).toInt), .int (zi (xs (i + 2)).toInt)]) (rest := [.int (zi r)]) (stk2 := [.int (zi s), .int (zi r)]) C hG hn clX11 zo_14 kd_14 (M_fX11_works (by decide) e2) mY_X11_works ⟨by rw [hRm]; exact Nat.le_of_ble_eq_true rfl, by rw [hRm]; exact Nat.le_of_ble_eq_true rfl⟩ hkn q_1717 (Nat.le_of_ble_eq_true rfl) dL_law_1301 rfl rfl rfl ?_
  refine y_icmp_eqT (tgt := 1360) C e3 dL_law_1304 (by decide) ?_
  exact kk h hR
def zS34 (N : Nat) (R : Nat → zH → Prop) : Prop := ∀ (c : Nat) (h : zH), c < 512 → R c h → ∀ (_ : True), ∃ (r s : Int) (h1 : zH) (h2 : zH), fX10_image h = some (r, h1) ∧ fX11_image N h1 = some (s, h2) ∧ zi r = zi s ∧ R (c + 1) h2
set_option maxRecDepth 20000 in
set_option maxHeartbeats 4000000 in
theorem law_case34 {υ : zU} (C : yV υ RL code 7 ret) {σ : zSg} (hG : zG σ (yA υ) (ys υ) (ys υ).heap) (hRm : yR υ = room_1) {α : Nat → Nat} {nn : Nat} (hn : zN ≤ nn ∧ nn ≤ zN + 1) {b0 L oa i c k n : Nat} {xs : Nat → Int32} {ex : va_W} (hX : va_X b0 L xs (ys υ) (ys υ).heap) (hbl : b0 < (ys υ).heap.size) (hbA : ¬ yA υ b0) (hL : L ≤ 3072) (hi : i + 6 ≤ L) (hc : c < 512) (hkn : k ≤ (yR υ).cells ∧ n ≤ (yR υ).slots) {N : Nat} {R : Nat → zH → Prop} (HR : zS34 N R) {h : zH} (hRc : R c h) (kk : ∀ h2, R (c + 1) h2 → zY υ (zws (ycy υ) α nn h2 ++ ex) k n 1360 [(0, .ref b0), (1, .ref (α 0)), (2, .ref (α 14)), (3, .ref oa), (4, .int (zi (i : Int)))] []) : zY υ (zws (ycy υ) α nn h ++ ex) k n 1309 [(0, .ref b0), (1, .ref (α 0)), (2, .ref (α 14)), (3, .ref oa), (4, .int (zi (i : Int)))] [] := by
  obtain ⟨r, s, h1, h2, e1, e2, e3, hR⟩ := HR c h hc hRc trivial
  refine y_aload_n (q := 1310) C dL_law_1309 1 rfl rfl rfl ?_
  refine y_callV (q := 1313) (o := 0) (d := 2000) (av := []) (rest := []) (stk2 := [.int (zi r)]) C hG hn clX10 zo_0 kd_0 (M_fX10_image (by decide) e1) mY_X10_image ⟨by rw [hRm]; exact Nat.le_of_ble_eq_true rfl, by rw [hRm]; exact Nat.le_of_ble_eq_true rfl⟩ hkn q_1015 (Nat.le_of_ble_eq_true rfl) dL_law_1310 rfl rfl rfl ?_
  refine y_aload_n (q := 1314) C dL_law_1313 2 rfl rfl rfl ?_
  refine y_callV (q := 1317) (o := 14) (d := 2000) (av := []) (rest := [.int (zi r)]) (stk2 := [.int (zi s), .int (zi r)]) C hG hn clX11 zo_14 kd_14 (M_fX11_image (by decide) e2) mY_X11_image ⟨by rw [hRm]; exact Nat.le_of_ble_eq_true rfl, by rw [hRm]; exact Nat.le_of_ble_eq_true rfl⟩ hkn q_1747 (Nat.le_of_ble_eq_true rfl) dL_law_1314 rfl rfl rfl ?_
  refine y_icmp_eqT (tgt := 1360) C e3 dL_law_1317 (by decide) ?_
  exact kk h2 hR
def zS35 (N : Nat) (R : Nat → zH → Prop) : Prop := ∀ (c : Nat) (h : zH), c < 512 → R c h → ∀ (_ : True), ∃ (r s : Int) (h1 : zH) (h2 : zH), fX10_back h = some (r, h1) ∧ fX11_back N h1 = some (s, h2) ∧ zi r = zi s ∧ R (c + 1) h2
set_option maxRecDepth 20000 in
set_option maxHeartbeats 4000000 in
theorem law_case35 {υ : zU} (C : yV υ RL code 7 ret) {σ : zSg} (hG : zG σ (yA υ) (ys υ) (ys υ).heap) (hRm : yR υ = room_1) {α : Nat → Nat} {nn : Nat} (hn : zN ≤ nn ∧ nn ≤ zN + 1) {b0 L oa i c k n : Nat} {xs : Nat → Int32} {ex : va_W} (hX : va_X b0 L xs (ys υ) (ys υ).heap) (hbl : b0 < (ys υ).heap.size) (hbA : ¬ yA υ b0) (hL : L ≤ 3072) (hi : i + 6 ≤ L) (hc : c < 512) (hkn : k ≤ (yR υ).cells ∧ n ≤ (yR υ).slots) {N : Nat} {R : Nat → zH → Prop} (HR : zS35 N R) {h : zH} (hRc : R c h) (kk : ∀ h2, R (c + 1) h2 → zY υ (zws (ycy υ) α nn h2 ++ ex) k n 1360 [(0, .ref b0), (1, .ref (α 0)), (2, .ref (α 14)), (3, .ref oa), (4, .int (zi (i : Int)))] []) : zY υ (zws (ycy υ) α nn h ++ ex) k n 1322 [(0, .ref b0), (1, .ref (α 0)), (2, .ref (α 14)), (3, .ref oa), (4, .int (zi (i : Int)))] [] := by
  obtain ⟨r, s, h1, h2, e1, e2, e3, hR⟩ := HR c h hc hRc trivial
  refine y_aload_n (q := 1323) C dL_law_1322 1 rfl rfl rfl ?_
  refine y_callV (q := 1326) (o := 0) (d := 2000) (av := []) (rest := []) (stk2 := [.int (zi r)]) C hG hn clX10 zo_0 kd_0 (M_fX10_back (by decide) e1) mY_X10_back ⟨by rw [hRm]; exact Nat.le_of_ble_eq_true rfl, by rw [hRm]; exact Nat.le_of_ble_eq_true rfl⟩ hkn q_1019 (Nat.le_of_ble_eq_true rfl) dL_law_1323 rfl rfl rfl ?_
  refine y_aload_n (q := 1327) C dL_law_1326 2 rfl rfl rfl ?_
  refine y_callV (q := 1330) (o := 14) (d := 2000) (av := []) (rest := [.int (zi r)]) (stk2 := [.int (zi s), .int (zi r)]) C hG hn clX11 zo_14 kd_14 (M_fX11_back (by decide) e2) mY_X11_back ⟨by rw [hRm]; exact Nat.le_of_ble_eq_true rfl, by rw [hRm]; exact Nat.le_of_ble_eq_true rfl⟩ hkn q_1751 (Nat.le_of_ble_eq_true rfl) dL_law_1327 rfl rfl rfl ?_
  refine y_icmp_eqT (tgt := 1360) C e3 dL_law_1330 (by decide) ?_
  exact kk h2 hR
def zS36 (N : Nat) (R : Nat → zH → Prop) : Prop := ∀ (c : Nat) (h : zH), c < 512 → R c h → ∀ (a1 : Int) (_ : zw a1 = a1), ∃ (r s : Int), fX10_count a1 h = r ∧ fX11_count a1 h = s ∧ zi r = zi s ∧ R (c + 1) h
set_option maxRecDepth 20000 in
set_option maxHeartbeats 4000000 in
theorem law_case36 {υ : zU} (C : yV υ RL code 7 ret) {σ : zSg} (hG : zG σ (yA υ) (ys υ) (ys υ).heap) (hRm : yR υ = room_1) {α : Nat → Nat} {nn : Nat} (hn : zN ≤ nn ∧ nn ≤ zN + 1) {b0 L oa i c k n : Nat} {xs : Nat → Int32} {ex : va_W} (hX : va_X b0 L xs (ys υ) (ys υ).heap) (hbl : b0 < (ys υ).heap.size) (hbA : ¬ yA υ b0) (hL : L ≤ 3072) (hi : i + 6 ≤ L) (hc : c < 512) (hkn : k ≤ (yR υ).cells ∧ n ≤ (yR υ).slots) {N : Nat} {R : Nat → zH → Prop} (HR : zS36 N R) {h : zH} (hRc : R c h) (kk : ∀ h2, R (c + 1) h2 → zY υ (zws (ycy υ) α nn h2 ++ ex) k n 1360 [(0, .ref b0), (1, .ref (α 0)), (2, .ref (α 14)), (3, .ref oa), (4, .int (zi (i : Int)))] []) : zY υ (zws (ycy υ) α nn h ++ ex) k n 1335 [(0, .ref b0), (1, .ref (α 0)), (2, .ref (α 14)), (3, .ref oa), (4, .int (zi (i : Int)))] [] := by
  obtain ⟨r, s, e1, e2, e3, hR⟩ := HR c h hc hRc ((xs (i + 1)).toInt) (zw_toInt _)
  refine y_aload_n (q := 1336) C dL_law_1335 1 rfl rfl rfl ?_
  refine y_aload_n (q := 1337) C dL_law_1336 0 rfl rfl rfl ?_
  refine y_iload (q := 1339) C dL_law_1337 4 rfl rfl ?_
  refine y_iconst (q := 1340) (v := zi 1) C dL_law_1339 rfl rfl ?_
  refine y_iadd (q := 1341) C dL_law_1340 rfl ?_
  refine y_sld (q := 1342) (j := i + 1) C hX hbl hbA (zw_iadd 1 hi hL) (by omega) dL_law_1341 rfl ?_
  refine y_callV (q := 1345) (o := 0) (d := 2000) (av := [.int (zi (xs (i + 1)).toInt)]) (rest := []) (stk2 := [.int (zi r)]) C hG hn clX10 zo_0 kd_0 (M_fX10_count (by decide) e1) mY_X10_count ⟨by rw [hRm]; exact Nat.le_of_ble_eq_true rfl, by rw [hRm]; exact Nat.le_of_ble_eq_true rfl⟩ hkn q_1023 (Nat.le_of_ble_eq_true rfl) dL_law_1342 rfl rfl rfl ?_
  refine y_aload_n (q := 1346) C dL_law_1345 2 rfl rfl rfl ?_
  refine y_aload_n (q := 1347) C dL_law_1346 0 rfl rfl rfl ?_
  refine y_iload (q := 1349) C dL_law_1347 4 rfl rfl ?_
  refine y_iconst (q := 1350) (v := zi 1) C dL_law_1349 rfl rfl ?_
  refine y_iadd (q := 1351) C dL_law_1350 rfl ?_
  refine y_sld (q := 1352) (j := i + 1) C hX hbl hbA (zw_iadd 1 hi hL) (by omega) dL_law_1351 rfl ?_
  refine y_callV (q := 1355) (o := 14) (d := 2000) (av := [.int (zi (xs (i + 1)).toInt)]) (rest := [.int (zi r)]) (stk2 := [.int (zi s), .int (zi r)]) C hG hn clX11 zo_14 kd_14 (M_fX11_count (by decide) e2) mY_X11_count ⟨by rw [hRm]; exact Nat.le_of_ble_eq_true rfl, by rw [hRm]; exact Nat.le_of_ble_eq_true rfl⟩ hkn q_1755 (Nat.le_of_ble_eq_true rfl) dL_law_1352 rfl rfl rfl ?_
  refine y_icmp_eqT (tgt := 1360) C e3 dL_law_1355 (by decide) ?_
  exact kk h hR
