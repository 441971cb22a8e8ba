/-! ===== the law: one row a case ===== -/
abbrev ZL (E : zE) (X : zX) (Q : State → Prop) (pc : Nat) (Lc : List (Nat × zV)) (S : List zV) (M : zM) (ce sl : Nat) : Prop := zZ cL_law RL (xh X).name 4 E room_1 X Q pc Lc S M ce sl
set_option maxRecDepth 20000 in
theorem lc0 {E : zE} {X : zX} {Q : State → Prop} {b L : Nat} {sc : Nat → Int32} (hs : lwS E X b L sc) {x a : Nat} {i : Int} {M : zM} {ce sl : Nat} (i0 : 0 ≤ i) (i1 : i + 4 ≤ L) (hce : ce + 2 ≤ 600000) (hsl : sl + 80 ≤ 7302250) (hKx : zK M x = (7, 5))
    (h : ∃ P1 : Int → zM → Prop, zCi E mX6_space 40 0 0 [vR (some x), vI (scv sc (i + 1))] M P1 ∧ ∀ r1 M1, P1 r1 M1 → zK M1 a = (8, 25) ∧ ∃ P2 : Int → zM → Prop, zCi E mX7_space 40 0 0 [vR (some a), vI (scv sc (i + 1))] M1 P2 ∧ ∀ r2 M2, P2 r2 M2 → r1 = r2 ∧ ZL E X Q 769 [(0, vR (some b)), (1, vR (some x)), (2, vR (some a)), (3, vI i)] [] M2 (ce + 0 + 0) (sl + 0 + 0)) :
    ZL E X Q 140 [(0, vR (some b)), (1, vR (some x)), (2, vR (some a)), (3, vI i)] [] M ce sl := by
  have hL := hs.2.2.2
  refine z_aload_n 1 dL_law_140 rfl ?_
  refine z_aload_n 0 dL_law_141 rfl ?_
  refine z_iload_n 3 dL_law_142 rfl ?_
  refine z_iconst dL_law_143 (by decide) ?_
  refine z_iadd dL_law_144 (by unfold zin; omega) ?_
  refine z_sld hs (by omega) (by omega) dL_law_145 ?_
  obtain ⟨P1, c1, h⟩ := h
  refine y_Vi (as := [vI (scv sc (i + 1))]) mv_L_13 dL_law_146 c1 hKx rfl rfl (Nat.le_of_ble_eq_true rfl) (by omega) (by omega) (fun r1 M1 p1 => ?_)
  have h := h r1 M1 p1
  refine z_aload_n 2 dL_law_149 rfl ?_
  refine z_aload_n 0 dL_law_150 rfl ?_
  refine z_iload_n 3 dL_law_151 rfl ?_
  refine z_iconst dL_law_152 (by decide) ?_
  refine z_iadd dL_law_153 (by unfold zin; omega) ?_
  refine z_sld hs (by omega) (by omega) dL_law_154 ?_
  obtain ⟨hKa, P2, c2, h⟩ := h
  refine y_Vi (as := [vI (scv sc (i + 1))]) mv_L_17 dL_law_155 c2 hKa rfl rfl (Nat.le_of_ble_eq_true rfl) (by omega) (by omega) (fun r2 M2 p2 => ?_)
  have h := h r2 M2 p2
  refine z_icmp_eq (tgt := 769) dL_law_158 (by decide) (fun _ => h.2) (fun q => absurd h.1 q)
set_option maxRecDepth 20000 in
theorem lc1 {E : zE} {X : zX} {Q : State → Prop} {b L : Nat} {sc : Nat → Int32} (hs : lwS E X b L sc) {x a : Nat} {i : Int} {M : zM} {ce sl : Nat} (i0 : 0 ≤ i) (i1 : i + 4 ≤ L) (hce : ce + 2 ≤ 600000) (hsl : sl + 80 ≤ 7302250) (hKx : zK M x = (7, 5))
    (h : ∃ P1 : Int → zM → Prop, zCi E mX6_near 40 0 0 [vR (some x), vI (scv sc (i + 1)), vI (scv sc (i + 2))] M P1 ∧ ∀ r1 M1, P1 r1 M1 → zK M1 a = (8, 25) ∧ ∃ P2 : Int → zM → Prop, zCi E mX7_near 40 0 0 [vR (some a), vI (scv sc (i + 1)), vI (scv sc (i + 2))] M1 P2 ∧ ∀ r2 M2, P2 r2 M2 → r1 = r2 ∧ ZL E X Q 769 [(0, vR (some b)), (1, vR (some x)), (2, vR (some a)), (3, vI i)] [] M2 (ce + 0 + 0) (sl + 0 + 0)) :
    ZL E X Q 163 [(0, vR (some b)), (1, vR (some x)), (2, vR (some a)), (3, vI i)] [] M ce sl := by
  have hL := hs.2.2.2
  refine z_aload_n 1 dL_law_163 rfl ?_
  refine z_aload_n 0 dL_law_164 rfl ?_
  refine z_iload_n 3 dL_law_165 rfl ?_
  refine z_iconst dL_law_166 (by decide) ?_
  refine z_iadd dL_law_167 (by unfold zin; omega) ?_
  refine z_sld hs (by omega) (by omega) dL_law_168 ?_
  refine z_aload_n 0 dL_law_169 rfl ?_
  refine z_iload_n 3 dL_law_170 rfl ?_
  refine z_iconst dL_law_171 (by decide) ?_
  refine z_iadd dL_law_172 (by unfold zin; omega) ?_
  refine z_sld hs (by omega) (by omega) dL_law_173 ?_
  obtain ⟨P1, c1, h⟩ := h
  refine y_Vi (as := [vI (scv sc (i + 1)), vI (scv sc (i + 2))]) mv_L_18 dL_law_174 c1 hKx rfl rfl (Nat.le_of_ble_eq_true rfl) (by omega) (by omega) (fun r1 M1 p1 => ?_)
  have h := h r1 M1 p1
  refine z_aload_n 2 dL_law_177 rfl ?_
  refine z_aload_n 0 dL_law_178 rfl ?_
  refine z_iload_n 3 dL_law_179 rfl ?_
  refine z_iconst dL_law_180 (by decide) ?_
  refine z_iadd dL_law_181 (by unfold zin; omega) ?_
  refine z_sld hs (by omega) (by omega) dL_law_182 ?_
  refine z_aload_n 0 dL_law_183 rfl ?_
  refine z_iload_n 3 dL_law_184 rfl ?_
  refine z_iconst dL_law_185 (by decide) ?_
  refine z_iadd dL_law_186 (by unfold zin; omega) ?_
  refine z_sld hs (by omega) (by omega) dL_law_187 ?_
  obtain ⟨hKa, P2, c2, h⟩ := h
  refine y_Vi (as := [vI (scv sc (i + 1)), vI (scv sc (i + 2))]) mv_L_22 dL_law_188 c2 hKa rfl rfl (Nat.le_of_ble_eq_true rfl) (by omega) (by omega) (fun r2 M2 p2 => ?_)
  have h := h r2 M2 p2
  refine z_icmp_eq (tgt := 769) dL_law_191 (by decide) (fun _ => h.2) (fun q => absurd h.1 q)
set_option maxRecDepth 20000 in
theorem lc2 {E : zE} {X : zX} {Q : State → Prop} {b L : Nat} {sc : Nat → Int32} (hs : lwS E X b L sc) {x a : Nat} {i : Int} {M : zM} {ce sl : Nat} (i0 : 0 ≤ i) (i1 : i + 4 ≤ L) (hce : ce + 2 ≤ 600000) (hsl : sl + 80 ≤ 7302250) (hKx : zK M x = (7, 5))
    (h : ∃ P1 : Int → zM → Prop, zCi E mX6_gang 40 0 0 [vR (some x), vI (scv sc (i + 1)), vI (scv sc (i + 2))] M P1 ∧ ∀ r1 M1, P1 r1 M1 → zK M1 a = (8, 25) ∧ ∃ P2 : Int → zM → Prop, zCi E mX7_gang 40 0 0 [vR (some a), vI (scv sc (i + 1)), vI (scv sc (i + 2))] M1 P2 ∧ ∀ r2 M2, P2 r2 M2 → r1 = r2 ∧ ZL E X Q 769 [(0, vR (some b)), (1, vR (some x)), (2, vR (some a)), (3, vI i)] [] M2 (ce + 0 + 0) (sl + 0 + 0)) :
    ZL E X Q 196 [(0, vR (some b)), (1, vR (some x)), (2, vR (some a)), (3, vI i)] [] M ce sl := by
  have hL := hs.2.2.2
  refine z_aload_n 1 dL_law_196 rfl ?_
  refine z_aload_n 0 dL_law_197 rfl ?_
  refine z_iload_n 3 dL_law_198 rfl ?_
  refine z_iconst dL_law_199 (by decide) ?_
  refine z_iadd dL_law_200 (by unfold zin; omega) ?_
  refine z_sld hs (by omega) (by omega) dL_law_201 ?_
  refine z_aload_n 0 dL_law_202 rfl ?_
  refine z_iload_n 3 dL_law_203 rfl ?_
  refine z_iconst dL_law_204 (by decide) ?_
  refine z_iadd dL_law_205 (by unfold zin; omega) ?_
  refine z_sld hs (by omega) (by omega) dL_law_206 ?_
  obtain ⟨P1, c1, h⟩ := h
  refine y_Vi (as := [vI (scv sc (i + 1)), vI (scv sc (i + 2))]) mv_L_23 dL_law_207 c1 hKx rfl rfl (Nat.le_of_ble_eq_true rfl) (by omega) (by omega) (fun r1 M1 p1 => ?_)
  have h := h r1 M1 p1
  refine z_aload_n 2 dL_law_210 rfl ?_
  refine z_aload_n 0 dL_law_211 rfl ?_
  refine z_iload_n 3 dL_law_212 rfl ?_
  refine z_iconst dL_law_213 (by decide) ?_
  refine z_iadd dL_law_214 (by unfold zin; omega) ?_
  refine z_sld hs (by omega) (by omega) dL_law_215 ?_
  refine z_aload_n 0 dL_law_216 rfl ?_
  refine z_iload_n 3 dL_law_217 rfl ?_
  refine z_iconst dL_law_218 (by decide) ?_
  refine z_iadd dL_law_219 (by unfold zin; omega) ?_
  refine z_sld hs (by omega) (by omega) dL_law_220 ?_
  obtain ⟨hKa, P2, c2, h⟩ := h
  refine y_Vi (as := [vI (scv sc (i + 1)), vI (scv sc (i + 2))]) mv_L_26 dL_law_221 c2 hKa rfl rfl (Nat.le_of_ble_eq_true rfl) (by omega) (by omega) (fun r2 M2 p2 => ?_)
  have h := h r2 M2 p2
  refine z_icmp_eq (tgt := 769) dL_law_224 (by decide) (fun _ => h.2) (fun q => absurd h.1 q)
set_option maxRecDepth 20000 in
theorem lc3 {E : zE} {X : zX} {Q : State → Prop} {b L : Nat} {sc : Nat → Int32} (hs : lwS E X b L sc) {x a : Nat} {i : Int} {M : zM} {ce sl : Nat} (i0 : 0 ≤ i) (i1 : i + 4 ≤ L) (hce : ce + 2 ≤ 600000) (hsl : sl + 80 ≤ 7302250) (hKx : zK M x = (7, 5))
    (h : ∃ P1 : Int → zM → Prop, zCi E mX6_good 40 0 0 [vR (some x), vI (scv sc (i + 1)), vI (scv sc (i + 2))] M P1 ∧ ∀ r1 M1, P1 r1 M1 → zK M1 a = (8, 25) ∧ ∃ P2 : Int → zM → Prop, zCi E mX7_good 40 0 0 [vR (some a), vI (scv sc (i + 1)), vI (scv sc (i + 2))] M1 P2 ∧ ∀ r2 M2, P2 r2 M2 → r1 = r2 ∧ ZL E X Q 769 [(0, vR (some b)), (1, vR (some x)), (2, vR (some a)), (3, vI i)] [] M2 (ce + 0 + 0) (sl + 0 + 0)) :
    ZL E X Q 229 [(0, vR (some b)), (1, vR (some x)), (2, vR (some a)), (3, vI i)] [] M ce sl := by
  have hL := hs.2.2.2
  refine z_aload_n 1 dL_law_229 rfl ?_
  refine z_aload_n 0 dL_law_230 rfl ?_
  refine z_iload_n 3 dL_law_231 rfl ?_
  refine z_iconst dL_law_232 (by decide) ?_
  refine z_iadd dL_law_233 (by unfold zin; omega) ?_
  refine z_sld hs (by omega) (by omega) dL_law_234 ?_
  refine z_aload_n 0 dL_law_235 rfl ?_
  refine z_iload_n 3 dL_law_236 rfl ?_
  refine z_iconst dL_law_237 (by decide) ?_
  refine z_iadd dL_law_238 (by unfold zin; omega) ?_
  refine z_sld hs (by omega) (by omega) dL_law_239 ?_
  obtain ⟨P1, c1, h⟩ := h
  refine y_Vi (as := [vI (scv sc (i + 1)), vI (scv sc (i + 2))]) mv_L_27 dL_law_240 c1 hKx rfl rfl (Nat.le_of_ble_eq_true rfl) (by omega) (by omega) (fun r1 M1 p1 => ?_)
  have h := h r1 M1 p1
  refine z_aload_n 2 dL_law_243 rfl ?_
  refine z_aload_n 0 dL_law_244 rfl ?_
  refine z_iload_n 3 dL_law_245 rfl ?_
  refine z_iconst dL_law_246 (by decide) ?_
  refine z_iadd dL_law_247 (by unfold zin; omega) ?_
  refine z_sld hs (by omega) (by omega) dL_law_248 ?_
  refine z_aload_n 0 dL_law_249 rfl ?_
  refine z_iload_n 3 dL_law_250 rfl ?_
  refine z_iconst dL_law_251 (by decide) ?_
  refine z_iadd dL_law_252 (by unfold zin; omega) ?_
  refine z_sld hs (by omega) (by omega) dL_law_253 ?_
  obtain ⟨hKa, P2, c2, h⟩ := h
  refine y_Vi (as := [vI (scv sc (i + 1)), vI (scv sc (i + 2))]) mv_L_30 dL_law_254 c2 hKa rfl rfl (Nat.le_of_ble_eq_true rfl) (by omega) (by omega) (fun r2 M2 p2 => ?_)
  have h := h r2 M2 p2
  refine z_icmp_eq (tgt := 769) dL_law_257 (by decide) (fun _ => h.2) (fun q => absurd h.1 q)
set_option maxRecDepth 20000 in
theorem lc4 {E : zE} {X : zX} {Q : State → Prop} {b L : Nat} {sc : Nat → Int32} (hs : lwS E X b L sc) {x a : Nat} {i : Int} {M : zM} {ce sl : Nat} (i0 : 0 ≤ i) (i1 : i + 4 ≤ L) (hce : ce + 2 ≤ 600000) (hsl : sl + 80 ≤ 7302250) (hKx : zK M x = (7, 5))
    (h : ∃ P1 : Int → zM → Prop, zCi E mX6_bar 40 0 0 [vR (some x), vI (scv sc (i + 1)), vI (scv sc (i + 2)), vI (scv sc (i + 3))] M P1 ∧ ∀ r1 M1, P1 r1 M1 → zK M1 a = (8, 25) ∧ ∃ P2 : Int → zM → Prop, zCi E mX7_bar 40 0 0 [vR (some a), vI (scv sc (i + 1)), vI (scv sc (i + 2)), vI (scv sc (i + 3))] M1 P2 ∧ ∀ r2 M2, P2 r2 M2 → r1 = r2 ∧ ZL E X Q 769 [(0, vR (some b)), (1, vR (some x)), (2, vR (some a)), (3, vI i)] [] M2 (ce + 0 + 0) (sl + 0 + 0)) :
    ZL E X Q 262 [(0, vR (some b)), (1, vR (some x)), (2, vR (some a)), (3, vI i)] [] M ce sl := by
  have hL := hs.2.2.2
  refine z_aload_n 1 dL_law_262 rfl ?_
  refine z_aload_n 0 dL_law_263 rfl ?_
  refine z_iload_n 3 dL_law_264 rfl ?_
  refine z_iconst dL_law_265 (by decide) ?_
  refine z_iadd dL_law_266 (by unfold zin; omega) ?_
  refine z_sld hs (by omega) (by omega) dL_law_267 ?_
  refine z_aload_n 0 dL_law_268 rfl ?_
  refine z_iload_n 3 dL_law_269 rfl ?_
  refine z_iconst dL_law_270 (by decide) ?_
  refine z_iadd dL_law_271 (by unfold zin; omega) ?_
  refine z_sld hs (by omega) (by omega) dL_law_272 ?_
  refine z_aload_n 0 dL_law_273 rfl ?_
  refine z_iload_n 3 dL_law_274 rfl ?_
  refine z_iconst dL_law_275 (by decide) ?_
  refine z_iadd dL_law_276 (by unfold zin; omega) ?_
  refine z_sld hs (by omega) (by omega) dL_law_277 ?_
  obtain ⟨P1, c1, h⟩ := h
  refine y_Vi (as := [vI (scv sc (i + 1)), vI (scv sc (i + 2)), vI (scv sc (i + 3))]) mv_L_31 dL_law_278 c1 hKx rfl rfl (Nat.le_of_ble_eq_true rfl) (by omega) (by omega) (fun r1 M1 p1 => ?_)
  have h := h r1 M1 p1
  refine z_aload_n 2 dL_law_281 rfl ?_
  refine z_aload_n 0 dL_law_282 rfl ?_
  refine z_iload_n 3 dL_law_283 rfl ?_
  refine z_iconst dL_law_284 (by decide) ?_
  refine z_iadd dL_law_285 (by unfold zin; omega) ?_
  refine z_sld hs (by omega) (by omega) dL_law_286 ?_
  refine z_aload_n 0 dL_law_287 rfl ?_
  refine z_iload_n 3 dL_law_288 rfl ?_
  refine z_iconst dL_law_289 (by decide) ?_
  refine z_iadd dL_law_290 (by unfold zin; omega) ?_
  refine z_sld hs (by omega) (by omega) dL_law_291 ?_
  refine z_aload_n 0 dL_law_292 rfl ?_
  refine z_iload_n 3 dL_law_293 rfl ?_
  refine z_iconst dL_law_294 (by decide) ?_
  refine z_iadd dL_law_295 (by unfold zin; omega) ?_
  refine z_sld hs (by omega) (by omega) dL_law_296 ?_
  obtain ⟨hKa, P2, c2, h⟩ := h
  refine y_Vi (as := [vI (scv sc (i + 1)), vI (scv sc (i + 2)), vI (scv sc (i + 3))]) mv_L_35 dL_law_297 c2 hKa rfl rfl (Nat.le_of_ble_eq_true rfl) (by omega) (by omega) (fun r2 M2 p2 => ?_)
  have h := h r2 M2 p2
  refine z_icmp_eq (tgt := 769) dL_law_300 (by decide) (fun _ => h.2) (fun q => absurd h.1 q)
set_option maxRecDepth 20000 in
theorem lc5 {E : zE} {X : zX} {Q : State → Prop} {b L : Nat} {sc : Nat → Int32} (hs : lwS E X b L sc) {x a : Nat} {i : Int} {M : zM} {ce sl : Nat} (i0 : 0 ≤ i) (i1 : i + 4 ≤ L) (hce : ce + 2 ≤ 600000) (hsl : sl + 80 ≤ 7302250) (hKx : zK M x = (7, 5))
    (h : ∃ P1 : Int → zM → Prop, zCi E mX6_work 40 1 16 [vR (some x), vI (scv sc (i + 1)), vI (scv sc (i + 2))] M P1 ∧ ∀ r1 M1, P1 r1 M1 → zK M1 a = (8, 25) ∧ ∃ P2 : Int → zM → Prop, zCi E mX7_work 40 0 0 [vR (some a), vI (scv sc (i + 1)), vI (scv sc (i + 2))] M1 P2 ∧ ∀ r2 M2, P2 r2 M2 → r1 = r2 ∧ ZL E X Q 769 [(0, vR (some b)), (1, vR (some x)), (2, vR (some a)), (3, vI i)] [] M2 (ce + 1 + 0) (sl + 16 + 0)) :
    ZL E X Q 305 [(0, vR (some b)), (1, vR (some x)), (2, vR (some a)), (3, vI i)] [] M ce sl := by
  have hL := hs.2.2.2
  refine z_aload_n 1 dL_law_305 rfl ?_
  refine z_aload_n 0 dL_law_306 rfl ?_
  refine z_iload_n 3 dL_law_307 rfl ?_
  refine z_iconst dL_law_308 (by decide) ?_
  refine z_iadd dL_law_309 (by unfold zin; omega) ?_
  refine z_sld hs (by omega) (by omega) dL_law_310 ?_
  refine z_aload_n 0 dL_law_311 rfl ?_
  refine z_iload_n 3 dL_law_312 rfl ?_
  refine z_iconst dL_law_313 (by decide) ?_
  refine z_iadd dL_law_314 (by unfold zin; omega) ?_
  refine z_sld hs (by omega) (by omega) dL_law_315 ?_
  obtain ⟨P1, c1, h⟩ := h
  refine y_Vi (as := [vI (scv sc (i + 1)), vI (scv sc (i + 2))]) mv_L_36 dL_law_316 c1 hKx rfl rfl (Nat.le_of_ble_eq_true rfl) (by omega) (by omega) (fun r1 M1 p1 => ?_)
  have h := h r1 M1 p1
  refine z_aload_n 2 dL_law_319 rfl ?_
  refine z_aload_n 0 dL_law_320 rfl ?_
  refine z_iload_n 3 dL_law_321 rfl ?_
  refine z_iconst dL_law_322 (by decide) ?_
  refine z_iadd dL_law_323 (by unfold zin; omega) ?_
  refine z_sld hs (by omega) (by omega) dL_law_324 ?_
  refine z_aload_n 0 dL_law_325 rfl ?_
  refine z_iload_n 3 dL_law_326 rfl ?_
  refine z_iconst dL_law_327 (by decide) ?_
  refine z_iadd dL_law_328 (by unfold zin; omega) ?_
  refine z_sld hs (by omega) (by omega) dL_law_329 ?_
  obtain ⟨hKa, P2, c2, h⟩ := h
  refine y_Vi (as := [vI (scv sc (i + 1)), vI (scv sc (i + 2))]) mv_L_40 dL_law_330 c2 hKa rfl rfl (Nat.le_of_ble_eq_true rfl) (by omega) (by omega) (fun r2 M2 p2 => ?_)
  have h := h r2 M2 p2
  refine z_icmp_eq (tgt := 769) dL_law_333 (by decide) (fun _ => h.2) (fun q => absurd h.1 q)
set_option maxRecDepth 20000 in
theorem lc6 {E : zE} {X : zX} {Q : State → Prop} {b L : Nat} {sc : Nat → Int32} (hs : lwS E X b L sc) {x a : Nat} {i : Int} {M : zM} {ce sl : Nat} (i0 : 0 ≤ i) (i1 : i + 4 ≤ L) (hce : ce + 2 ≤ 600000) (hsl : sl + 80 ≤ 7302250) (hKx : zK M x = (7, 5))
    (h : ∃ P1 : Int → zM → Prop, zCi E mX6_need 40 0 0 [vR (some x), vI (scv sc (i + 1)), vI (scv sc (i + 2))] M P1 ∧ ∀ r1 M1, P1 r1 M1 → zK M1 a = (8, 25) ∧ ∃ P2 : Int → zM → Prop, zCi E mX7_need 40 0 0 [vR (some a), vI (scv sc (i + 1)), vI (scv sc (i + 2))] M1 P2 ∧ ∀ r2 M2, P2 r2 M2 → r1 = r2 ∧ ZL E X Q 769 [(0, vR (some b)), (1, vR (some x)), (2, vR (some a)), (3, vI i)] [] M2 (ce + 0 + 0) (sl + 0 + 0)) :
    ZL E X Q 338 [(0, vR (some b)), (1, vR (some x)), (2, vR (some a)), (3, vI i)] [] M ce sl := by
  have hL := hs.2.2.2
  refine z_aload_n 1 dL_law_338 rfl ?_
  refine z_aload_n 0 dL_law_339 rfl ?_
  refine z_iload_n 3 dL_law_340 rfl ?_
  refine z_iconst dL_law_341 (by decide) ?_
  refine z_iadd dL_law_342 (by unfold zin; omega) ?_
  refine z_sld hs (by omega) (by omega) dL_law_343 ?_
  refine z_aload_n 0 dL_law_344 rfl ?_
  refine z_iload_n 3 dL_law_345 rfl ?_
  refine z_iconst dL_law_346 (by decide) ?_
  refine z_iadd dL_law_347 (by unfold zin; omega) ?_
  refine z_sld hs (by omega) (by omega) dL_law_348 ?_
  obtain ⟨P1, c1, h⟩ := h
  refine y_Vi (as := [vI (scv sc (i + 1)), vI (scv sc (i + 2))]) mv_L_41 dL_law_349 c1 hKx rfl rfl (Nat.le_of_ble_eq_true rfl) (by omega) (by omega) (fun r1 M1 p1 => ?_)
  have h := h r1 M1 p1
  refine z_aload_n 2 dL_law_352 rfl ?_
  refine z_aload_n 0 dL_law_353 rfl ?_
  refine z_iload_n 3 dL_law_354 rfl ?_
  refine z_iconst dL_law_355 (by decide) ?_
  refine z_iadd dL_law_356 (by unfold zin; omega) ?_
  refine z_sld hs (by omega) (by omega) dL_law_357 ?_
  refine z_aload_n 0 dL_law_358 rfl ?_
  refine z_iload_n 3 dL_law_359 rfl ?_
  refine z_iconst dL_law_360 (by decide) ?_
  refine z_iadd dL_law_361 (by unfold zin; omega) ?_
  refine z_sld hs (by omega) (by omega) dL_law_362 ?_
  obtain ⟨hKa, P2, c2, h⟩ := h
  refine y_Vi (as := [vI (scv sc (i + 1)), vI (scv sc (i + 2))]) mv_L_44 dL_law_363 c2 hKa rfl rfl (Nat.le_of_ble_eq_true rfl) (by omega) (by omega) (fun r2 M2 p2 => ?_)
  have h := h r2 M2 p2
  refine z_icmp_eq (tgt := 769) dL_law_366 (by decide) (fun _ => h.2) (fun q => absurd h.1 q)
set_option maxRecDepth 20000 in
theorem lc7 {E : zE} {X : zX} {Q : State → Prop} {b L : Nat} {sc : Nat → Int32} (hs : lwS E X b L sc) {x a : Nat} {i : Int} {M : zM} {ce sl : Nat} (i0 : 0 ≤ i) (i1 : i + 4 ≤ L) (hce : ce + 2 ≤ 600000) (hsl : sl + 80 ≤ 7302250) (hKx : zK M x = (7, 5))
    (h : ∃ P1 : Int → zM → Prop, zCi E mX6_tells 40 0 0 [vR (some x), vI (scv sc (i + 1)), vI (scv sc (i + 2))] M P1 ∧ ∀ r1 M1, P1 r1 M1 → zK M1 a = (8, 25) ∧ ∃ P2 : Int → zM → Prop, zCi E mX7_tells 40 0 0 [vR (some a), vI (scv sc (i + 1)), vI (scv sc (i + 2))] M1 P2 ∧ ∀ r2 M2, P2 r2 M2 → r1 = r2 ∧ ZL E X Q 769 [(0, vR (some b)), (1, vR (some x)), (2, vR (some a)), (3, vI i)] [] M2 (ce + 0 + 0) (sl + 0 + 0)) :
    ZL E X Q 371 [(0, vR (some b)), (1, vR (some x)), (2, vR (some a)), (3, vI i)] [] M ce sl := by
  have hL := hs.2.2.2
  refine z_aload_n 1 dL_law_371 rfl ?_
  refine z_aload_n 0 dL_law_372 rfl ?_
  refine z_iload_n 3 dL_law_373 rfl ?_
  refine z_iconst dL_law_374 (by decide) ?_
  refine z_iadd dL_law_375 (by unfold zin; omega) ?_
  refine z_sld hs (by omega) (by omega) dL_law_376 ?_
  refine z_aload_n 0 dL_law_377 rfl ?_
  refine z_iload_n 3 dL_law_378 rfl ?_
  refine z_iconst dL_law_379 (by decide) ?_
  refine z_iadd dL_law_380 (by unfold zin; omega) ?_
  refine z_sld hs (by omega) (by omega) dL_law_381 ?_
  obtain ⟨P1, c1, h⟩ := h
  refine y_Vi (as := [vI (scv sc (i + 1)), vI (scv sc (i + 2))]) mv_L_45 dL_law_382 c1 hKx rfl rfl (Nat.le_of_ble_eq_true rfl) (by omega) (by omega) (fun r1 M1 p1 => ?_)
  have h := h r1 M1 p1
  refine z_aload_n 2 dL_law_385 rfl ?_
  refine z_aload_n 0 dL_law_386 rfl ?_
  refine z_iload_n 3 dL_law_387 rfl ?_
  refine z_iconst dL_law_388 (by decide) ?_
  refine z_iadd dL_law_389 (by unfold zin; omega) ?_
  refine z_sld hs (by omega) (by omega) dL_law_390 ?_
  refine z_aload_n 0 dL_law_391 rfl ?_
  refine z_iload_n 3 dL_law_392 rfl ?_
  refine z_iconst dL_law_393 (by decide) ?_
  refine z_iadd dL_law_394 (by unfold zin; omega) ?_
  refine z_sld hs (by omega) (by omega) dL_law_395 ?_
  obtain ⟨hKa, P2, c2, h⟩ := h
  refine y_Vi (as := [vI (scv sc (i + 1)), vI (scv sc (i + 2))]) mv_L_48 dL_law_396 c2 hKa rfl rfl (Nat.le_of_ble_eq_true rfl) (by omega) (by omega) (fun r2 M2 p2 => ?_)
  have h := h r2 M2 p2
  refine z_icmp_eq (tgt := 769) dL_law_399 (by decide) (fun _ => h.2) (fun q => absurd h.1 q)
set_option maxRecDepth 20000 in
theorem lc8 {E : zE} {X : zX} {Q : State → Prop} {b L : Nat} {sc : Nat → Int32} (hs : lwS E X b L sc) {x a : Nat} {i : Int} {M : zM} {ce sl : Nat} (i0 : 0 ≤ i) (i1 : i + 4 ≤ L) (hce : ce + 2 ≤ 600000) (hsl : sl + 80 ≤ 7302250) (hKx : zK M x = (7, 5))
    (h : ∃ P1 : Int → zM → Prop, zCi E mX6_put 40 0 0 [vR (some x), vI (scv sc (i + 1)), vI (scv sc (i + 2))] M P1 ∧ ∀ r1 M1, P1 r1 M1 → zK M1 a = (8, 25) ∧ ∃ P2 : Int → zM → Prop, zCi E mX7_put 40 0 0 [vR (some a), vI (scv sc (i + 1)), vI (scv sc (i + 2))] M1 P2 ∧ ∀ r2 M2, P2 r2 M2 → r1 = r2 ∧ ZL E X Q 769 [(0, vR (some b)), (1, vR (some x)), (2, vR (some a)), (3, vI i)] [] M2 (ce + 0 + 0) (sl + 0 + 0)) :
    ZL E X Q 404 [(0, vR (some b)), (1, vR (some x)), (2, vR (some a)), (3, vI i)] [] M ce sl := by
  have hL := hs.2.2.2
  refine z_aload_n 1 dL_law_404 rfl ?_
  refine z_aload_n 0 dL_law_405 rfl ?_
  refine z_iload_n 3 dL_law_406 rfl ?_
  refine z_iconst dL_law_407 (by decide) ?_
  refine z_iadd dL_law_408 (by unfold zin; omega) ?_
  refine z_sld hs (by omega) (by omega) dL_law_409 ?_
  refine z_aload_n 0 dL_law_410 rfl ?_
  refine z_iload_n 3 dL_law_411 rfl ?_
  refine z_iconst dL_law_412 (by decide) ?_
  refine z_iadd dL_law_413 (by unfold zin; omega) ?_
  refine z_sld hs (by omega) (by omega) dL_law_414 ?_
  obtain ⟨P1, c1, h⟩ := h
  refine y_Vi (as := [vI (scv sc (i + 1)), vI (scv sc (i + 2))]) mv_L_49 dL_law_415 c1 hKx rfl rfl (Nat.le_of_ble_eq_true rfl) (by omega) (by omega) (fun r1 M1 p1 => ?_)
  have h := h r1 M1 p1
  refine z_aload_n 2 dL_law_418 rfl ?_
  refine z_aload_n 0 dL_law_419 rfl ?_
  refine z_iload_n 3 dL_law_420 rfl ?_
  refine z_iconst dL_law_421 (by decide) ?_
  refine z_iadd dL_law_422 (by unfold zin; omega) ?_
  refine z_sld hs (by omega) (by omega) dL_law_423 ?_
  refine z_aload_n 0 dL_law_424 rfl ?_
  refine z_iload_n 3 dL_law_425 rfl ?_
  refine z_iconst dL_law_426 (by decide) ?_
  refine z_iadd dL_law_427 (by unfold zin; omega) ?_
  refine z_sld hs (by omega) (by omega) dL_law_428 ?_
  obtain ⟨hKa, P2, c2, h⟩ := h
  refine y_Vi (as := [vI (scv sc (i + 1)), vI (scv sc (i + 2))]) mv_L_52 dL_law_429 c2 hKa rfl rfl (Nat.le_of_ble_eq_true rfl) (by omega) (by omega) (fun r2 M2 p2 => ?_)
  have h := h r2 M2 p2
  refine z_icmp_eq (tgt := 769) dL_law_432 (by decide) (fun _ => h.2) (fun q => absurd h.1 q)
set_option maxRecDepth 20000 in
theorem lc9 {E : zE} {X : zX} {Q : State → Prop} {b L : Nat} {sc : Nat → Int32} (hs : lwS E X b L sc) {x a : Nat} {i : Int} {M : zM} {ce sl : Nat} (i0 : 0 ≤ i) (i1 : i + 4 ≤ L) (hce : ce + 2 ≤ 600000) (hsl : sl + 80 ≤ 7302250) (hKx : zK M x = (7, 5))
    (h : ∃ P1 : Int → zM → Prop, zCi E mX6_take 40 0 0 [vR (some x), vI (scv sc (i + 1))] M P1 ∧ ∀ r1 M1, P1 r1 M1 → zK M1 a = (8, 25) ∧ ∃ P2 : Int → zM → Prop, zCi E mX7_take 40 0 0 [vR (some a), vI (scv sc (i + 1))] M1 P2 ∧ ∀ r2 M2, P2 r2 M2 → r1 = r2 ∧ ZL E X Q 769 [(0, vR (some b)), (1, vR (some x)), (2, vR (some a)), (3, vI i)] [] M2 (ce + 0 + 0) (sl + 0 + 0)) :
    ZL E X Q 437 [(0, vR (some b)), (1, vR (some x)), (2, vR (some a)), (3, vI i)] [] M ce sl := by
  have hL := hs.2.2.2
  refine z_aload_n 1 dL_law_437 rfl ?_
  refine z_aload_n 0 dL_law_438 rfl ?_
  refine z_iload_n 3 dL_law_439 rfl ?_
  refine z_iconst dL_law_440 (by decide) ?_
  refine z_iadd dL_law_441 (by unfold zin; omega) ?_
  refine z_sld hs (by omega) (by omega) dL_law_442 ?_
  obtain ⟨P1, c1, h⟩ := h
  refine y_Vi (as := [vI (scv sc (i + 1))]) mv_L_53 dL_law_443 c1 hKx rfl rfl (Nat.le_of_ble_eq_true rfl) (by omega) (by omega) (fun r1 M1 p1 => ?_)
  have h := h r1 M1 p1
  refine z_aload_n 2 dL_law_446 rfl ?_
  refine z_aload_n 0 dL_law_447 rfl ?_
  refine z_iload_n 3 dL_law_448 rfl ?_
  refine z_iconst dL_law_449 (by decide) ?_
  refine z_iadd dL_law_450 (by unfold zin; omega) ?_
  refine z_sld hs (by omega) (by omega) dL_law_451 ?_
  obtain ⟨hKa, P2, c2, h⟩ := h
  refine y_Vi (as := [vI (scv sc (i + 1))]) mv_L_57 dL_law_452 c2 hKa rfl rfl (Nat.le_of_ble_eq_true rfl) (by omega) (by omega) (fun r2 M2 p2 => ?_)
  have h := h r2 M2 p2
  refine z_icmp_eq (tgt := 769) dL_law_455 (by decide) (fun _ => h.2) (fun q => absurd h.1 q)
set_option maxRecDepth 20000 in
theorem lc10 {E : zE} {X : zX} {Q : State → Prop} {b L : Nat} {sc : Nat → Int32} (hs : lwS E X b L sc) {x a : Nat} {i : Int} {M : zM} {ce sl : Nat} (i0 : 0 ≤ i) (i1 : i + 4 ≤ L) (hce : ce + 2 ≤ 600000) (hsl : sl + 80 ≤ 7302250) (hKx : zK M x = (7, 5))
    (h : ∃ P1 : Int → zM → Prop, zCi E mX6_may 40 0 0 [vR (some x), vI (scv sc (i + 1)), vI (scv sc (i + 2))] M P1 ∧ ∀ r1 M1, P1 r1 M1 → zK M1 a = (8, 25) ∧ ∃ P2 : Int → zM → Prop, zCi E mX7_may 40 0 0 [vR (some a), vI (scv sc (i + 1)), vI (scv sc (i + 2))] M1 P2 ∧ ∀ r2 M2, P2 r2 M2 → r1 = r2 ∧ ZL E X Q 769 [(0, vR (some b)), (1, vR (some x)), (2, vR (some a)), (3, vI i)] [] M2 (ce + 0 + 0) (sl + 0 + 0)) :
    ZL E X Q 460 [(0, vR (some b)), (1, vR (some x)), (2, vR (some a)), (3, vI i)] [] M ce sl := by
  have hL := hs.2.2.2
  refine z_aload_n 1 dL_law_460 rfl ?_
  refine z_aload_n 0 dL_law_461 rfl ?_
  refine z_iload_n 3 dL_law_462 rfl ?_
  refine z_iconst dL_law_463 (by decide) ?_
  refine z_iadd dL_law_464 (by unfold zin; omega) ?_
  refine z_sld hs (by omega) (by omega) dL_law_465 ?_
  refine z_aload_n 0 dL_law_466 rfl ?_
  refine z_iload_n 3 dL_law_467 rfl ?_
  refine z_iconst dL_law_468 (by decide) ?_
  refine z_iadd dL_law_469 (by unfold zin; omega) ?_
  refine z_sld hs (by omega) (by omega) dL_law_470 ?_
  obtain ⟨P1, c1, h⟩ := h
  refine y_Vi (as := [vI (scv sc (i + 1)), vI (scv sc (i + 2))]) mv_L_58 dL_law_471 c1 hKx rfl rfl (Nat.le_of_ble_eq_true rfl) (by omega) (by omega) (fun r1 M1 p1 => ?_)
  have h := h r1 M1 p1
  refine z_aload_n 2 dL_law_474 rfl ?_
  refine z_aload_n 0 dL_law_475 rfl ?_
  refine z_iload_n 3 dL_law_476 rfl ?_
  refine z_iconst dL_law_477 (by decide) ?_
  refine z_iadd dL_law_478 (by unfold zin; omega) ?_
  refine z_sld hs (by omega) (by omega) dL_law_479 ?_
  refine z_aload_n 0 dL_law_480 rfl ?_
  refine z_iload_n 3 dL_law_481 rfl ?_
  refine z_iconst dL_law_482 (by decide) ?_
  refine z_iadd dL_law_483 (by unfold zin; omega) ?_
  refine z_sld hs (by omega) (by omega) dL_law_484 ?_
  obtain ⟨hKa, P2, c2, h⟩ := h
  refine y_Vi (as := [vI (scv sc (i + 1)), vI (scv sc (i + 2))]) mv_L_61 dL_law_485 c2 hKa rfl rfl (Nat.le_of_ble_eq_true rfl) (by omega) (by omega) (fun r2 M2 p2 => ?_)
  have h := h r2 M2 p2
  refine z_icmp_eq (tgt := 769) dL_law_488 (by decide) (fun _ => h.2) (fun q => absurd h.1 q)
set_option maxRecDepth 20000 in
theorem lc11 {E : zE} {X : zX} {Q : State → Prop} {b L : Nat} {sc : Nat → Int32} (hs : lwS E X b L sc) {x a : Nat} {i : Int} {M : zM} {ce sl : Nat} (i0 : 0 ≤ i) (i1 : i + 4 ≤ L) (hce : ce + 2 ≤ 600000) (hsl : sl + 80 ≤ 7302250) (hKx : zK M x = (7, 5))
    (h : ∃ P1 : Int → zM → Prop, zCi E mX6_first 40 0 0 [vR (some x), vI (scv sc (i + 1)), vI (scv sc (i + 2))] M P1 ∧ ∀ r1 M1, P1 r1 M1 → zK M1 a = (8, 25) ∧ ∃ P2 : Int → zM → Prop, zCi E mX7_first 40 0 0 [vR (some a), vI (scv sc (i + 1)), vI (scv sc (i + 2))] M1 P2 ∧ ∀ r2 M2, P2 r2 M2 → r1 = r2 ∧ ZL E X Q 769 [(0, vR (some b)), (1, vR (some x)), (2, vR (some a)), (3, vI i)] [] M2 (ce + 0 + 0) (sl + 0 + 0)) :
    ZL E X Q 493 [(0, vR (some b)), (1, vR (some x)), (2, vR (some a)), (3, vI i)] [] M ce sl := by
  have hL := hs.2.2.2
  refine z_aload_n 1 dL_law_493 rfl ?_
  refine z_aload_n 0 dL_law_494 rfl ?_
  refine z_iload_n 3 dL_law_495 rfl ?_
  refine z_iconst dL_law_496 (by decide) ?_
  refine z_iadd dL_law_497 (by unfold zin; omega) ?_
  refine z_sld hs (by omega) (by omega) dL_law_498 ?_
  refine z_aload_n 0 dL_law_499 rfl ?_
  refine z_iload_n 3 dL_law_500 rfl ?_
  refine z_iconst dL_law_501 (by decide) ?_
  refine z_iadd dL_law_502 (by unfold zin; omega) ?_
  refine z_sld hs (by omega) (by omega) dL_law_503 ?_
  obtain ⟨P1, c1, h⟩ := h
  refine y_Vi (as := [vI (scv sc (i + 1)), vI (scv sc (i + 2))]) mv_L_62 dL_law_504 c1 hKx rfl rfl (Nat.le_of_ble_eq_true rfl) (by omega) (by omega) (fun r1 M1 p1 => ?_)
  have h := h r1 M1 p1
  refine z_aload_n 2 dL_law_507 rfl ?_
  refine z_aload_n 0 dL_law_508 rfl ?_
  refine z_iload_n 3 dL_law_509 rfl ?_
  refine z_iconst dL_law_510 (by decide) ?_
  refine z_iadd dL_law_511 (by unfold zin; omega) ?_
  refine z_sld hs (by omega) (by omega) dL_law_512 ?_
  refine z_aload_n 0 dL_law_513 rfl ?_
  refine z_iload_n 3 dL_law_514 rfl ?_
  refine z_iconst dL_law_515 (by decide) ?_
  refine z_iadd dL_law_516 (by unfold zin; omega) ?_
  refine z_sld hs (by omega) (by omega) dL_law_517 ?_
  obtain ⟨hKa, P2, c2, h⟩ := h
  refine y_Vi (as := [vI (scv sc (i + 1)), vI (scv sc (i + 2))]) mv_L_65 dL_law_518 c2 hKa rfl rfl (Nat.le_of_ble_eq_true rfl) (by omega) (by omega) (fun r2 M2 p2 => ?_)
  have h := h r2 M2 p2
  refine z_icmp_eq (tgt := 769) dL_law_521 (by decide) (fun _ => h.2) (fun q => absurd h.1 q)
set_option maxRecDepth 20000 in
theorem lc12 {E : zE} {X : zX} {Q : State → Prop} {b L : Nat} {sc : Nat → Int32} (hs : lwS E X b L sc) {x a : Nat} {i : Int} {M : zM} {ce sl : Nat} (i0 : 0 ≤ i) (i1 : i + 4 ≤ L) (hce : ce + 2 ≤ 600000) (hsl : sl + 80 ≤ 7302250) (hKx : zK M x = (7, 5))
    (h : ∃ P1 : Int → zM → Prop, zCi E mX6_why 40 0 0 [vR (some x), vI (scv sc (i + 1))] M P1 ∧ ∀ r1 M1, P1 r1 M1 → zK M1 a = (8, 25) ∧ ∃ P2 : Int → zM → Prop, zCi E mX7_why 40 0 0 [vR (some a), vI (scv sc (i + 1))] M1 P2 ∧ ∀ r2 M2, P2 r2 M2 → r1 = r2 ∧ ZL E X Q 769 [(0, vR (some b)), (1, vR (some x)), (2, vR (some a)), (3, vI i)] [] M2 (ce + 0 + 0) (sl + 0 + 0)) :
    ZL E X Q 526 [(0, vR (some b)), (1, vR (some x)), (2, vR (some a)), (3, vI i)] [] M ce sl := by
  have hL := hs.2.2.2
  refine z_aload_n 1 dL_law_526 rfl ?_
  refine z_aload_n 0 dL_law_527 rfl ?_
  refine z_iload_n 3 dL_law_528 rfl ?_
  refine z_iconst dL_law_529 (by decide) ?_
  refine z_iadd dL_law_530 (by unfold zin; omega) ?_
  refine z_sld hs (by omega) (by omega) dL_law_531 ?_
  obtain ⟨P1, c1, h⟩ := h
  refine y_Vi (as := [vI (scv sc (i + 1))]) mv_L_66 dL_law_532 c1 hKx rfl rfl (Nat.le_of_ble_eq_true rfl) (by omega) (by omega) (fun r1 M1 p1 => ?_)
  have h := h r1 M1 p1
  refine z_aload_n 2 dL_law_535 rfl ?_
  refine z_aload_n 0 dL_law_536 rfl ?_
  refine z_iload_n 3 dL_law_537 rfl ?_
  refine z_iconst dL_law_538 (by decide) ?_
  refine z_iadd dL_law_539 (by unfold zin; omega) ?_
  refine z_sld hs (by omega) (by omega) dL_law_540 ?_
  obtain ⟨hKa, P2, c2, h⟩ := h
  refine y_Vi (as := [vI (scv sc (i + 1))]) mv_L_69 dL_law_541 c2 hKa rfl rfl (Nat.le_of_ble_eq_true rfl) (by omega) (by omega) (fun r2 M2 p2 => ?_)
  have h := h r2 M2 p2
  refine z_icmp_eq (tgt := 769) dL_law_544 (by decide) (fun _ => h.2) (fun q => absurd h.1 q)
set_option maxRecDepth 20000 in
theorem lc13 {E : zE} {X : zX} {Q : State → Prop} {b L : Nat} {sc : Nat → Int32} (hs : lwS E X b L sc) {x a : Nat} {i : Int} {M : zM} {ce sl : Nat} (i0 : 0 ≤ i) (i1 : i + 4 ≤ L) (hce : ce + 2 ≤ 600000) (hsl : sl + 80 ≤ 7302250) (hKx : zK M x = (7, 5))
    (h : ∃ P1 : Int → zM → Prop, zCi E mX6_told 40 0 0 [vR (some x), vI (scv sc (i + 1)), vI (scv sc (i + 2))] M P1 ∧ ∀ r1 M1, P1 r1 M1 → zK M1 a = (8, 25) ∧ ∃ P2 : Int → zM → Prop, zCi E mX7_told 40 0 0 [vR (some a), vI (scv sc (i + 1)), vI (scv sc (i + 2))] M1 P2 ∧ ∀ r2 M2, P2 r2 M2 → r1 = r2 ∧ ZL E X Q 769 [(0, vR (some b)), (1, vR (some x)), (2, vR (some a)), (3, vI i)] [] M2 (ce + 0 + 0) (sl + 0 + 0)) :
    ZL E X Q 549 [(0, vR (some b)), (1, vR (some x)), (2, vR (some a)), (3, vI i)] [] M ce sl := by
  have hL := hs.2.2.2
  refine z_aload_n 1 dL_law_549 rfl ?_
  refine z_aload_n 0 dL_law_550 rfl ?_
  refine z_iload_n 3 dL_law_551 rfl ?_
  refine z_iconst dL_law_552 (by decide) ?_
  refine z_iadd dL_law_553 (by unfold zin; omega) ?_
  refine z_sld hs (by omega) (by omega) dL_law_554 ?_
  refine z_aload_n 0 dL_law_555 rfl ?_
  refine z_iload_n 3 dL_law_556 rfl ?_
  refine z_iconst dL_law_557 (by decide) ?_
  refine z_iadd dL_law_558 (by unfold zin; omega) ?_
  refine z_sld hs (by omega) (by omega) dL_law_559 ?_
  obtain ⟨P1, c1, h⟩ := h
  refine y_Vi (as := [vI (scv sc (i + 1)), vI (scv sc (i + 2))]) mv_L_70 dL_law_560 c1 hKx rfl rfl (Nat.le_of_ble_eq_true rfl) (by omega) (by omega) (fun r1 M1 p1 => ?_)
  have h := h r1 M1 p1
  refine z_aload_n 2 dL_law_563 rfl ?_
  refine z_aload_n 0 dL_law_564 rfl ?_
  refine z_iload_n 3 dL_law_565 rfl ?_
  refine z_iconst dL_law_566 (by decide) ?_
  refine z_iadd dL_law_567 (by unfold zin; omega) ?_
  refine z_sld hs (by omega) (by omega) dL_law_568 ?_
  refine z_aload_n 0 dL_law_569 rfl ?_
  refine z_iload_n 3 dL_law_570 rfl ?_
  refine z_iconst dL_law_571 (by decide) ?_
  refine z_iadd dL_law_572 (by unfold zin; omega) ?_
  refine z_sld hs (by omega) (by omega) dL_law_573 ?_
  obtain ⟨hKa, P2, c2, h⟩ := h
  refine y_Vi (as := [vI (scv sc (i + 1)), vI (scv sc (i + 2))]) mv_L_73 dL_law_574 c2 hKa rfl rfl (Nat.le_of_ble_eq_true rfl) (by omega) (by omega) (fun r2 M2 p2 => ?_)
  have h := h r2 M2 p2
  refine z_icmp_eq (tgt := 769) dL_law_577 (by decide) (fun _ => h.2) (fun q => absurd h.1 q)
set_option maxRecDepth 20000 in
theorem lc14 {E : zE} {X : zX} {Q : State → Prop} {b L : Nat} {sc : Nat → Int32} (hs : lwS E X b L sc) {x a : Nat} {i : Int} {M : zM} {ce sl : Nat} (i0 : 0 ≤ i) (i1 : i + 4 ≤ L) (hce : ce + 2 ≤ 600000) (hsl : sl + 80 ≤ 7302250) (hKx : zK M x = (7, 5))
    (h : ∃ P1 : Int → zM → Prop, zCi E mX6_load 40 0 0 [vR (some x), vI (scv sc (i + 1)), vI (scv sc (i + 2))] M P1 ∧ ∀ r1 M1, P1 r1 M1 → zK M1 a = (8, 25) ∧ ∃ P2 : Int → zM → Prop, zCi E mX7_load 40 0 0 [vR (some a), vI (scv sc (i + 1)), vI (scv sc (i + 2))] M1 P2 ∧ ∀ r2 M2, P2 r2 M2 → r1 = r2 ∧ ZL E X Q 769 [(0, vR (some b)), (1, vR (some x)), (2, vR (some a)), (3, vI i)] [] M2 (ce + 0 + 0) (sl + 0 + 0)) :
    ZL E X Q 582 [(0, vR (some b)), (1, vR (some x)), (2, vR (some a)), (3, vI i)] [] M ce sl := by
  have hL := hs.2.2.2
  refine z_aload_n 1 dL_law_582 rfl ?_
  refine z_aload_n 0 dL_law_583 rfl ?_
  refine z_iload_n 3 dL_law_584 rfl ?_
  refine z_iconst dL_law_585 (by decide) ?_
  refine z_iadd dL_law_586 (by unfold zin; omega) ?_
  refine z_sld hs (by omega) (by omega) dL_law_587 ?_
  refine z_aload_n 0 dL_law_588 rfl ?_
  refine z_iload_n 3 dL_law_589 rfl ?_
  refine z_iconst dL_law_590 (by decide) ?_
  refine z_iadd dL_law_591 (by unfold zin; omega) ?_
  refine z_sld hs (by omega) (by omega) dL_law_592 ?_
  obtain ⟨P1, c1, h⟩ := h
  refine y_Vi (as := [vI (scv sc (i + 1)), vI (scv sc (i + 2))]) mv_L_74 dL_law_593 c1 hKx rfl rfl (Nat.le_of_ble_eq_true rfl) (by omega) (by omega) (fun r1 M1 p1 => ?_)
  have h := h r1 M1 p1
  refine z_aload_n 2 dL_law_596 rfl ?_
  refine z_aload_n 0 dL_law_597 rfl ?_
  refine z_iload_n 3 dL_law_598 rfl ?_
  refine z_iconst dL_law_599 (by decide) ?_
  refine z_iadd dL_law_600 (by unfold zin; omega) ?_
  refine z_sld hs (by omega) (by omega) dL_law_601 ?_
  refine z_aload_n 0 dL_law_602 rfl ?_
  refine z_iload_n 3 dL_law_603 rfl ?_
  refine z_iconst dL_law_604 (by decide) ?_
  refine z_iadd dL_law_605 (by unfold zin; omega) ?_
  refine z_sld hs (by omega) (by omega) dL_law_606 ?_
  obtain ⟨hKa, P2, c2, h⟩ := h
  refine y_Vi (as := [vI (scv sc (i + 1)), vI (scv sc (i + 2))]) mv_L_77 dL_law_607 c2 hKa rfl rfl (Nat.le_of_ble_eq_true rfl) (by omega) (by omega) (fun r2 M2 p2 => ?_)
  have h := h r2 M2 p2
  refine z_icmp_eq (tgt := 769) dL_law_610 (by decide) (fun _ => h.2) (fun q => absurd h.1 q)
set_option maxRecDepth 20000 in
theorem lc15 {E : zE} {X : zX} {Q : State → Prop} {b L : Nat} {sc : Nat → Int32} (hs : lwS E X b L sc) {x a : Nat} {i : Int} {M : zM} {ce sl : Nat} (i0 : 0 ≤ i) (i1 : i + 4 ≤ L) (hce : ce + 2 ≤ 600000) (hsl : sl + 80 ≤ 7302250) (hKx : zK M x = (7, 5))
    (h : ∃ P1 : Int → zM → Prop, zCi E mX6_plan 40 0 0 [vR (some x)] M P1 ∧ ∀ r1 M1, P1 r1 M1 → zK M1 a = (8, 25) ∧ ∃ P2 : Int → zM → Prop, zCi E mX7_plan 40 2 80 [vR (some a)] M1 P2 ∧ ∀ r2 M2, P2 r2 M2 → r1 = r2 ∧ ZL E X Q 769 [(0, vR (some b)), (1, vR (some x)), (2, vR (some a)), (3, vI i)] [] M2 (ce + 0 + 2) (sl + 0 + 80)) :
    ZL E X Q 615 [(0, vR (some b)), (1, vR (some x)), (2, vR (some a)), (3, vI i)] [] M ce sl := by
  have hL := hs.2.2.2
  refine z_aload_n 1 dL_law_615 rfl ?_
  obtain ⟨P1, c1, h⟩ := h
  refine y_Vi (as := []) mv_L_78 dL_law_616 c1 hKx rfl rfl (Nat.le_of_ble_eq_true rfl) (by omega) (by omega) (fun r1 M1 p1 => ?_)
  have h := h r1 M1 p1
  refine z_aload_n 2 dL_law_619 rfl ?_
  obtain ⟨hKa, P2, c2, h⟩ := h
  refine y_Vi (as := []) mv_L_82 dL_law_620 c2 hKa rfl rfl (Nat.le_of_ble_eq_true rfl) (by omega) (by omega) (fun r2 M2 p2 => ?_)
  have h := h r2 M2 p2
  refine z_icmp_eq (tgt := 769) dL_law_623 (by decide) (fun _ => h.2) (fun q => absurd h.1 q)
set_option maxRecDepth 20000 in
theorem lc16 {E : zE} {X : zX} {Q : State → Prop} {b L : Nat} {sc : Nat → Int32} (hs : lwS E X b L sc) {x a : Nat} {i : Int} {M : zM} {ce sl : Nat} (i0 : 0 ≤ i) (i1 : i + 4 ≤ L) (hce : ce + 2 ≤ 600000) (hsl : sl + 80 ≤ 7302250) (hKx : zK M x = (7, 5))
    (h : ∃ P1 : Int → zM → Prop, zCi E mX6_best 40 0 0 [vR (some x)] M P1 ∧ ∀ r1 M1, P1 r1 M1 → zK M1 a = (8, 25) ∧ ∃ P2 : Int → zM → Prop, zCi E mX7_best 40 0 0 [vR (some a)] M1 P2 ∧ ∀ r2 M2, P2 r2 M2 → r1 = r2 ∧ ZL E X Q 769 [(0, vR (some b)), (1, vR (some x)), (2, vR (some a)), (3, vI i)] [] M2 (ce + 0 + 0) (sl + 0 + 0)) :
    ZL E X Q 628 [(0, vR (some b)), (1, vR (some x)), (2, vR (some a)), (3, vI i)] [] M ce sl := by
  have hL := hs.2.2.2
  refine z_aload_n 1 dL_law_628 rfl ?_
  obtain ⟨P1, c1, h⟩ := h
  refine y_Vi (as := []) mv_L_83 dL_law_629 c1 hKx rfl rfl (Nat.le_of_ble_eq_true rfl) (by omega) (by omega) (fun r1 M1 p1 => ?_)
  have h := h r1 M1 p1
  refine z_aload_n 2 dL_law_632 rfl ?_
  obtain ⟨hKa, P2, c2, h⟩ := h
  refine y_Vi (as := []) mv_L_86 dL_law_633 c2 hKa rfl rfl (Nat.le_of_ble_eq_true rfl) (by omega) (by omega) (fun r2 M2 p2 => ?_)
  have h := h r2 M2 p2
  refine z_icmp_eq (tgt := 769) dL_law_636 (by decide) (fun _ => h.2) (fun q => absurd h.1 q)
set_option maxRecDepth 20000 in
theorem lc17 {E : zE} {X : zX} {Q : State → Prop} {b L : Nat} {sc : Nat → Int32} (hs : lwS E X b L sc) {x a : Nat} {i : Int} {M : zM} {ce sl : Nat} (i0 : 0 ≤ i) (i1 : i + 4 ≤ L) (hce : ce + 2 ≤ 600000) (hsl : sl + 80 ≤ 7302250) (hKx : zK M x = (7, 5))
    (h : ∃ P1 : Int → zM → Prop, zCi E mX6_end 40 0 0 [vR (some x)] M P1 ∧ ∀ r1 M1, P1 r1 M1 → zK M1 a = (8, 25) ∧ ∃ P2 : Int → zM → Prop, zCi E mX7_end 40 0 0 [vR (some a)] M1 P2 ∧ ∀ r2 M2, P2 r2 M2 → r1 = r2 ∧ ZL E X Q 769 [(0, vR (some b)), (1, vR (some x)), (2, vR (some a)), (3, vI i)] [] M2 (ce + 0 + 0) (sl + 0 + 0)) :
    ZL E X Q 641 [(0, vR (some b)), (1, vR (some x)), (2, vR (some a)), (3, vI i)] [] M ce sl := by
  have hL := hs.2.2.2
  refine z_aload_n 1 dL_law_641 rfl ?_
  obtain ⟨P1, c1, h⟩ := h
  refine y_Vi (as := []) mv_L_87 dL_law_642 c1 hKx rfl rfl (Nat.le_of_ble_eq_true rfl) (by omega) (by omega) (fun r1 M1 p1 => ?_)
  have h := h r1 M1 p1
  refine z_aload_n 2 dL_law_645 rfl ?_
  obtain ⟨hKa, P2, c2, h⟩ := h
  refine y_Vi (as := []) mv_L_90 dL_law_646 c2 hKa rfl rfl (Nat.le_of_ble_eq_true rfl) (by omega) (by omega) (fun r2 M2 p2 => ?_)
  have h := h r2 M2 p2
  refine z_icmp_eq (tgt := 769) dL_law_649 (by decide) (fun _ => h.2) (fun q => absurd h.1 q)
set_option maxRecDepth 20000 in
theorem lc18 {E : zE} {X : zX} {Q : State → Prop} {b L : Nat} {sc : Nat → Int32} (hs : lwS E X b L sc) {x a : Nat} {i : Int} {M : zM} {ce sl : Nat} (i0 : 0 ≤ i) (i1 : i + 4 ≤ L) (hce : ce + 2 ≤ 600000) (hsl : sl + 80 ≤ 7302250) (hKx : zK M x = (7, 5))
    (h : ∃ P1 : Int → zM → Prop, zCi E mX6_bound 40 0 0 [vR (some x)] M P1 ∧ ∀ r1 M1, P1 r1 M1 → zK M1 a = (8, 25) ∧ ∃ P2 : Int → zM → Prop, zCi E mX7_bound 40 0 0 [vR (some a)] M1 P2 ∧ ∀ r2 M2, P2 r2 M2 → r1 = r2 ∧ ZL E X Q 769 [(0, vR (some b)), (1, vR (some x)), (2, vR (some a)), (3, vI i)] [] M2 (ce + 0 + 0) (sl + 0 + 0)) :
    ZL E X Q 654 [(0, vR (some b)), (1, vR (some x)), (2, vR (some a)), (3, vI i)] [] M ce sl := by
  have hL := hs.2.2.2
  refine z_aload_n 1 dL_law_654 rfl ?_
  obtain ⟨P1, c1, h⟩ := h
  refine y_Vi (as := []) mv_L_91 dL_law_655 c1 hKx rfl rfl (Nat.le_of_ble_eq_true rfl) (by omega) (by omega) (fun r1 M1 p1 => ?_)
  have h := h r1 M1 p1
  refine z_aload_n 2 dL_law_658 rfl ?_
  obtain ⟨hKa, P2, c2, h⟩ := h
  refine y_Vi (as := []) mv_L_94 dL_law_659 c2 hKa rfl rfl (Nat.le_of_ble_eq_true rfl) (by omega) (by omega) (fun r2 M2 p2 => ?_)
  have h := h r2 M2 p2
  refine z_icmp_eq (tgt := 769) dL_law_662 (by decide) (fun _ => h.2) (fun q => absurd h.1 q)
set_option maxRecDepth 20000 in
theorem lc19 {E : zE} {X : zX} {Q : State → Prop} {b L : Nat} {sc : Nat → Int32} (hs : lwS E X b L sc) {x a : Nat} {i : Int} {M : zM} {ce sl : Nat} (i0 : 0 ≤ i) (i1 : i + 4 ≤ L) (hce : ce + 2 ≤ 600000) (hsl : sl + 80 ≤ 7302250) (hKx : zK M x = (7, 5))
    (h : ∃ P1 : Int → zM → Prop, zCi E mX6_go 40 0 0 [vR (some x), vI (scv sc (i + 1))] M P1 ∧ ∀ r1 M1, P1 r1 M1 → zK M1 a = (8, 25) ∧ ∃ P2 : Int → zM → Prop, zCi E mX7_go 40 0 0 [vR (some a), vI (scv sc (i + 1))] M1 P2 ∧ ∀ r2 M2, P2 r2 M2 → r1 = r2 ∧ ZL E X Q 769 [(0, vR (some b)), (1, vR (some x)), (2, vR (some a)), (3, vI i)] [] M2 (ce + 0 + 0) (sl + 0 + 0)) :
    ZL E X Q 667 [(0, vR (some b)), (1, vR (some x)), (2, vR (some a)), (3, vI i)] [] M ce sl := by
  have hL := hs.2.2.2
  refine z_aload_n 1 dL_law_667 rfl ?_
  refine z_aload_n 0 dL_law_668 rfl ?_
  refine z_iload_n 3 dL_law_669 rfl ?_
  refine z_iconst dL_law_670 (by decide) ?_
  refine z_iadd dL_law_671 (by unfold zin; omega) ?_
  refine z_sld hs (by omega) (by omega) dL_law_672 ?_
  obtain ⟨P1, c1, h⟩ := h
  refine y_Vi (as := [vI (scv sc (i + 1))]) mv_L_95 dL_law_673 c1 hKx rfl rfl (Nat.le_of_ble_eq_true rfl) (by omega) (by omega) (fun r1 M1 p1 => ?_)
  have h := h r1 M1 p1
  refine z_aload_n 2 dL_law_676 rfl ?_
  refine z_aload_n 0 dL_law_677 rfl ?_
  refine z_iload_n 3 dL_law_678 rfl ?_
  refine z_iconst dL_law_679 (by decide) ?_
  refine z_iadd dL_law_680 (by unfold zin; omega) ?_
  refine z_sld hs (by omega) (by omega) dL_law_681 ?_
  obtain ⟨hKa, P2, c2, h⟩ := h
  refine y_Vi (as := [vI (scv sc (i + 1))]) mv_L_98 dL_law_682 c2 hKa rfl rfl (Nat.le_of_ble_eq_true rfl) (by omega) (by omega) (fun r2 M2 p2 => ?_)
  have h := h r2 M2 p2
  refine z_icmp_eq (tgt := 769) dL_law_685 (by decide) (fun _ => h.2) (fun q => absurd h.1 q)
set_option maxRecDepth 20000 in
theorem lc20 {E : zE} {X : zX} {Q : State → Prop} {b L : Nat} {sc : Nat → Int32} (hs : lwS E X b L sc) {x a : Nat} {i : Int} {M : zM} {ce sl : Nat} (i0 : 0 ≤ i) (i1 : i + 4 ≤ L) (hce : ce + 2 ≤ 600000) (hsl : sl + 80 ≤ 7302250) (hKx : zK M x = (7, 5))
    (h : ∃ P1 : Int → zM → Prop, zCi E mX6_fail 40 0 0 [vR (some x), vI (scv sc (i + 1))] M P1 ∧ ∀ r1 M1, P1 r1 M1 → zK M1 a = (8, 25) ∧ ∃ P2 : Int → zM → Prop, zCi E mX7_fail 40 1 40 [vR (some a), vI (scv sc (i + 1))] M1 P2 ∧ ∀ r2 M2, P2 r2 M2 → r1 = r2 ∧ ZL E X Q 769 [(0, vR (some b)), (1, vR (some x)), (2, vR (some a)), (3, vI i)] [] M2 (ce + 0 + 1) (sl + 0 + 40)) :
    ZL E X Q 690 [(0, vR (some b)), (1, vR (some x)), (2, vR (some a)), (3, vI i)] [] M ce sl := by
  have hL := hs.2.2.2
  refine z_aload_n 1 dL_law_690 rfl ?_
  refine z_aload_n 0 dL_law_691 rfl ?_
  refine z_iload_n 3 dL_law_692 rfl ?_
  refine z_iconst dL_law_693 (by decide) ?_
  refine z_iadd dL_law_694 (by unfold zin; omega) ?_
  refine z_sld hs (by omega) (by omega) dL_law_695 ?_
  obtain ⟨P1, c1, h⟩ := h
  refine y_Vi (as := [vI (scv sc (i + 1))]) mv_L_99 dL_law_696 c1 hKx rfl rfl (Nat.le_of_ble_eq_true rfl) (by omega) (by omega) (fun r1 M1 p1 => ?_)
  have h := h r1 M1 p1
  refine z_aload_n 2 dL_law_699 rfl ?_
  refine z_aload_n 0 dL_law_700 rfl ?_
  refine z_iload_n 3 dL_law_701 rfl ?_
  refine z_iconst dL_law_702 (by decide) ?_
  refine z_iadd dL_law_703 (by unfold zin; omega) ?_
  refine z_sld hs (by omega) (by omega) dL_law_704 ?_
  obtain ⟨hKa, P2, c2, h⟩ := h
  refine y_Vi (as := [vI (scv sc (i + 1))]) mv_L_102 dL_law_705 c2 hKa rfl rfl (Nat.le_of_ble_eq_true rfl) (by omega) (by omega) (fun r2 M2 p2 => ?_)
  have h := h r2 M2 p2
  refine z_icmp_eq (tgt := 769) dL_law_708 (by decide) (fun _ => h.2) (fun q => absurd h.1 q)
set_option maxRecDepth 20000 in
theorem lc21 {E : zE} {X : zX} {Q : State → Prop} {b L : Nat} {sc : Nat → Int32} (hs : lwS E X b L sc) {x a : Nat} {i : Int} {M : zM} {ce sl : Nat} (i0 : 0 ≤ i) (i1 : i + 4 ≤ L) (hce : ce + 2 ≤ 600000) (hsl : sl + 80 ≤ 7302250) (hKx : zK M x = (7, 5))
    (h : ∃ P1 : Int → zM → Prop, zCi E mX6_more 40 0 0 [vR (some x), vI (scv sc (i + 1)), vI (scv sc (i + 2))] M P1 ∧ ∀ r1 M1, P1 r1 M1 → zK M1 a = (8, 25) ∧ ∃ P2 : Int → zM → Prop, zCi E mX7_more 40 0 0 [vR (some a), vI (scv sc (i + 1)), vI (scv sc (i + 2))] M1 P2 ∧ ∀ r2 M2, P2 r2 M2 → r1 = r2 ∧ ZL E X Q 769 [(0, vR (some b)), (1, vR (some x)), (2, vR (some a)), (3, vI i)] [] M2 (ce + 0 + 0) (sl + 0 + 0)) :
    ZL E X Q 713 [(0, vR (some b)), (1, vR (some x)), (2, vR (some a)), (3, vI i)] [] M ce sl := by
  have hL := hs.2.2.2
  refine z_aload_n 1 dL_law_713 rfl ?_
  refine z_aload_n 0 dL_law_714 rfl ?_
  refine z_iload_n 3 dL_law_715 rfl ?_
  refine z_iconst dL_law_716 (by decide) ?_
  refine z_iadd dL_law_717 (by unfold zin; omega) ?_
  refine z_sld hs (by omega) (by omega) dL_law_718 ?_
  refine z_aload_n 0 dL_law_719 rfl ?_
  refine z_iload_n 3 dL_law_720 rfl ?_
  refine z_iconst dL_law_721 (by decide) ?_
  refine z_iadd dL_law_722 (by unfold zin; omega) ?_
  refine z_sld hs (by omega) (by omega) dL_law_723 ?_
  obtain ⟨P1, c1, h⟩ := h
  refine y_Vi (as := [vI (scv sc (i + 1)), vI (scv sc (i + 2))]) mv_L_103 dL_law_724 c1 hKx rfl rfl (Nat.le_of_ble_eq_true rfl) (by omega) (by omega) (fun r1 M1 p1 => ?_)
  have h := h r1 M1 p1
  refine z_aload_n 2 dL_law_727 rfl ?_
  refine z_aload_n 0 dL_law_728 rfl ?_
  refine z_iload_n 3 dL_law_729 rfl ?_
  refine z_iconst dL_law_730 (by decide) ?_
  refine z_iadd dL_law_731 (by unfold zin; omega) ?_
  refine z_sld hs (by omega) (by omega) dL_law_732 ?_
  refine z_aload_n 0 dL_law_733 rfl ?_
  refine z_iload_n 3 dL_law_734 rfl ?_
  refine z_iconst dL_law_735 (by decide) ?_
  refine z_iadd dL_law_736 (by unfold zin; omega) ?_
  refine z_sld hs (by omega) (by omega) dL_law_737 ?_
  obtain ⟨hKa, P2, c2, h⟩ := h
  refine y_Vi (as := [vI (scv sc (i + 1)), vI (scv sc (i + 2))]) mv_L_106 dL_law_738 c2 hKa rfl rfl (Nat.le_of_ble_eq_true rfl) (by omega) (by omega) (fun r2 M2 p2 => ?_)
  have h := h r2 M2 p2
  refine z_icmp_eq (tgt := 769) dL_law_741 (by decide) (fun _ => h.2) (fun q => absurd h.1 q)
set_option maxRecDepth 20000 in
theorem lc22 {E : zE} {X : zX} {Q : State → Prop} {b L : Nat} {sc : Nat → Int32} (hs : lwS E X b L sc) {x a : Nat} {i : Int} {M : zM} {ce sl : Nat} (i0 : 0 ≤ i) (i1 : i + 4 ≤ L) (hce : ce + 2 ≤ 600000) (hsl : sl + 80 ≤ 7302250) (hKx : zK M x = (7, 5))
    (h : ∃ P1 : Int → zM → Prop, zCi E mX6_count 40 0 0 [vR (some x), vI (scv sc (i + 1))] M P1 ∧ ∀ r1 M1, P1 r1 M1 → zK M1 a = (8, 25) ∧ ∃ P2 : Int → zM → Prop, zCi E mX7_count 40 0 0 [vR (some a), vI (scv sc (i + 1))] M1 P2 ∧ ∀ r2 M2, P2 r2 M2 → r1 = r2 ∧ ZL E X Q 769 [(0, vR (some b)), (1, vR (some x)), (2, vR (some a)), (3, vI i)] [] M2 (ce + 0 + 0) (sl + 0 + 0)) :
    ZL E X Q 746 [(0, vR (some b)), (1, vR (some x)), (2, vR (some a)), (3, vI i)] [] M ce sl := by
  have hL := hs.2.2.2
  refine z_aload_n 1 dL_law_746 rfl ?_
  refine z_aload_n 0 dL_law_747 rfl ?_
  refine z_iload_n 3 dL_law_748 rfl ?_
  refine z_iconst dL_law_749 (by decide) ?_
  refine z_iadd dL_law_750 (by unfold zin; omega) ?_
  refine z_sld hs (by omega) (by omega) dL_law_751 ?_
  obtain ⟨P1, c1, h⟩ := h
  refine y_Vi (as := [vI (scv sc (i + 1))]) mv_L_107 dL_law_752 c1 hKx rfl rfl (Nat.le_of_ble_eq_true rfl) (by omega) (by omega) (fun r1 M1 p1 => ?_)
  have h := h r1 M1 p1
  refine z_aload_n 2 dL_law_755 rfl ?_
  refine z_aload_n 0 dL_law_756 rfl ?_
  refine z_iload_n 3 dL_law_757 rfl ?_
  refine z_iconst dL_law_758 (by decide) ?_
  refine z_iadd dL_law_759 (by unfold zin; omega) ?_
  refine z_sld hs (by omega) (by omega) dL_law_760 ?_
  obtain ⟨hKa, P2, c2, h⟩ := h
  refine y_Vi (as := [vI (scv sc (i + 1))]) mv_L_110 dL_law_761 c2 hKa rfl rfl (Nat.le_of_ble_eq_true rfl) (by omega) (by omega) (fun r2 M2 p2 => ?_)
  have h := h r2 M2 p2
  refine z_icmp_eq (tgt := 769) dL_law_764 (by decide) (fun _ => h.2) (fun q => absurd h.1 q)
