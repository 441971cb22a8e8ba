def mJ13_bitCount_95d88 : zF := (yJ13_bitCount_95d88, cJ13_bitCount_95d88, 2, (some .int))
set_option maxRecDepth 20000 in
theorem kw_44 : Cond.initialized "java/lang/Long" ∈ zT := zT_of 44 rfl rfl
set_option maxRecDepth 20000 in
theorem kc_354 : Cond.code yJ13_bitCount_95d88 cJ13_bitCount_95d88 2 (some .int) ∈ zT := zT_of 389 rfl rfl
theorem mmJ13_bitCount_95d88 : zMm mJ13_bitCount_95d88 1 := ⟨kw_44, kc_354, by decide +kernel, by decide⟩
set_option maxRecDepth 20000 in
theorem kw_390 : Cond.constantLong "java/lang/Long" (314 : Nat) (6148914691236517205 : Int64) ∈ zT := zT_of 390 rfl rfl
set_option maxRecDepth 20000 in
theorem kw_391 : Cond.constantLong "java/lang/Long" (316 : Nat) (3689348814741910323 : Int64) ∈ zT := zT_of 391 rfl rfl
set_option maxRecDepth 20000 in
theorem kw_392 : Cond.constantLong "java/lang/Long" (318 : Nat) (1085102592571150095 : Int64) ∈ zT := zT_of 392 rfl rfl
def mX5_init : zF := (yX5_init, cX5_init, 4, none)
set_option maxRecDepth 20000 in
theorem kw_43 : Cond.initialized "RefitYard$Work" ∈ zT := zT_of 43 rfl rfl
set_option maxRecDepth 20000 in
theorem kc_244 : Cond.code yX5_init cX5_init 4 none ∈ zT := zT_of 279 rfl rfl
theorem mmX5_init : zMm mX5_init 3 := ⟨kw_43, kc_244, by decide +kernel, by decide⟩
set_option maxRecDepth 20000 in
theorem kw_280 : Cond.methodLink "RefitYard$Work" (3 : Nat) ⟨"java/lang/Object", "<init>", "()V"⟩ ∈ zT := zT_of 280 rfl rfl
set_option maxRecDepth 20000 in
theorem kw_52 : Cond.instanceMethod ⟨"java/lang/Object", "<init>", "()V"⟩ ∈ zT := zT_of 52 rfl rfl
set_option maxRecDepth 20000 in
theorem oi_X5_3 : Cond.methodLink RX5 3 Lib.objectInit ∈ zT ∧ Cond.instanceMethod Lib.objectInit ∈ zT ∧ Cond.code Lib.objectInit ⟨#[0xb1]⟩ 1 none ∈ zT := ⟨kw_280, kw_52, zT_of 53 rfl rfl⟩
set_option maxRecDepth 20000 in
theorem kw_317 : Cond.fieldLink "RefitYard$Work" (9 : Nat) "RefitYard$Work" "shift" "I" ∈ zT := zT_of 317 rfl rfl
set_option maxRecDepth 20000 in
theorem uk_X5 : ∀ k, k < 16 → u_lay RX5 TX5 k ∈ zT
  | 0, _ => zT_of 338 rfl rfl
  | 1, _ => zT_of 340 rfl rfl
  | 2, _ => zT_of 342 rfl rfl
  | 3, _ => zT_of 344 rfl rfl
  | 4, _ => zT_of 346 rfl rfl
  | 5, _ => zT_of 348 rfl rfl
  | 6, _ => zT_of 350 rfl rfl
  | 7, _ => zT_of 352 rfl rfl
  | 8, _ => zT_of 354 rfl rfl
  | 9, _ => zT_of 356 rfl rfl
  | 10, _ => zT_of 358 rfl rfl
  | 11, _ => zT_of 360 rfl rfl
  | 12, _ => zT_of 362 rfl rfl
  | 13, _ => zT_of 364 rfl rfl
  | 14, _ => zT_of 366 rfl rfl
  | 15, _ => zT_of 368 rfl rfl
  | n + 16, h => absurd h (by omega)
theorem ui_X5 : ∀ w ∈ u_ws RX5 TX5 16, w ∈ zT := fun w hw => by
  obtain ⟨k, hk, rfl⟩ := List.mem_map.mp hw
  exact uk_X5 k (List.mem_range.mp hk)
theorem fl_X5_9 : zFl RX5 9 6 8 16 .int false := ⟨RX5, TX5, 8, rfl, by decide, rfl, by decide, ui_X5, kw_317, rfl, tyX5_ok, nmX5, rfl, rfl⟩
set_option maxRecDepth 20000 in
theorem kw_282 : Cond.fieldLink "RefitYard$Work" (15 : Nat) "RefitYard$Work" "number" "I" ∈ zT := zT_of 282 rfl rfl
theorem fl_X5_15 : zFl RX5 15 6 0 16 .int true := ⟨RX5, TX5, 0, rfl, by decide, rfl, by decide, ui_X5, kw_282, rfl, tyX5_ok, nmX5, rfl, rfl⟩
set_option maxRecDepth 20000 in
theorem kw_284 : Cond.fieldLink "RefitYard$Work" (18 : Nat) "RefitYard$Work" "bit" "J" ∈ zT := zT_of 284 rfl rfl
theorem fl_X5_18 : zFl RX5 18 6 1 16 .long true := ⟨RX5, TX5, 1, rfl, by decide, rfl, by decide, ui_X5, kw_284, rfl, tyX5_ok, nmX5, rfl, rfl⟩
set_option maxRecDepth 20000 in
theorem kw_307 : Cond.fieldLink "RefitYard$Work" (22 : Nat) "RefitYard$Work" "good" "I" ∈ zT := zT_of 307 rfl rfl
theorem fl_X5_22 : zFl RX5 22 6 6 16 .int true := ⟨RX5, TX5, 6, rfl, by decide, rfl, by decide, ui_X5, kw_307, rfl, tyX5_ok, nmX5, rfl, rfl⟩
set_option maxRecDepth 20000 in
theorem kw_299 : Cond.fieldLink "RefitYard$Work" (25 : Nat) "RefitYard$Work" "space" "I" ∈ zT := zT_of 299 rfl rfl
theorem fl_X5_25 : zFl RX5 25 6 4 16 .int true := ⟨RX5, TX5, 4, rfl, by decide, rfl, by decide, ui_X5, kw_299, rfl, tyX5_ok, nmX5, rfl, rfl⟩
set_option maxRecDepth 20000 in
theorem kw_304 : Cond.fieldLink "RefitYard$Work" (28 : Nat) "RefitYard$Work" "kind" "I" ∈ zT := zT_of 304 rfl rfl
theorem fl_X5_28 : zFl RX5 28 6 5 16 .int true := ⟨RX5, TX5, 5, rfl, by decide, rfl, by decide, ui_X5, kw_304, rfl, tyX5_ok, nmX5, rfl, rfl⟩
set_option maxRecDepth 20000 in
theorem kw_289 : Cond.fieldLink "RefitYard$Work" (31 : Nat) "RefitYard$Work" "trade" "I" ∈ zT := zT_of 289 rfl rfl
theorem fl_X5_31 : zFl RX5 31 6 2 16 .int true := ⟨RX5, TX5, 2, rfl, by decide, rfl, by decide, ui_X5, kw_289, rfl, tyX5_ok, nmX5, rfl, rfl⟩
set_option maxRecDepth 20000 in
theorem kw_294 : Cond.fieldLink "RefitYard$Work" (34 : Nat) "RefitYard$Work" "hands" "I" ∈ zT := zT_of 294 rfl rfl
theorem fl_X5_34 : zFl RX5 34 6 3 16 .int true := ⟨RX5, TX5, 3, rfl, by decide, rfl, by decide, ui_X5, kw_294, rfl, tyX5_ok, nmX5, rfl, rfl⟩
set_option maxRecDepth 20000 in
theorem kw_281 : Cond.constant "RefitYard$Work" (37 : Nat) (100000 : Int32) ∈ zT := zT_of 281 rfl rfl
set_option maxRecDepth 20000 in
theorem kw_311 : Cond.fieldLink "RefitYard$Work" (38 : Nat) "RefitYard$Work" "length" "I" ∈ zT := zT_of 311 rfl rfl
theorem fl_X5_38 : zFl RX5 38 6 7 16 .int false := ⟨RX5, TX5, 7, rfl, by decide, rfl, by decide, ui_X5, kw_311, rfl, tyX5_ok, nmX5, rfl, rfl⟩
def mX5_isOpen : zF := (yX5_isOpen, cX5_isOpen, 1, (some .boolean))
set_option maxRecDepth 20000 in
theorem kc_400 : Cond.code yX5_isOpen cX5_isOpen 1 (some .boolean) ∈ zT := zT_of 435 rfl rfl
theorem mmX5_isOpen : zMm mX5_isOpen 0 := ⟨kw_43, kc_400, by decide +kernel, by decide⟩
def mX5_behind : zF := (yX5_behind, cX5_behind, 1, (some .int))
set_option maxRecDepth 20000 in
theorem kc_423 : Cond.code yX5_behind cX5_behind 1 (some .int) ∈ zT := zT_of 458 rfl rfl
theorem mmX5_behind : zMm mX5_behind 0 := ⟨kw_43, kc_423, by decide +kernel, by decide⟩
def mX5_hasBegun : zF := (yX5_hasBegun, cX5_hasBegun, 2, (some .boolean))
set_option maxRecDepth 20000 in
theorem kc_396 : Cond.code yX5_hasBegun cX5_hasBegun 2 (some .boolean) ∈ zT := zT_of 431 rfl rfl
theorem mmX5_hasBegun : zMm mX5_hasBegun 1 := ⟨kw_43, kc_396, by decide +kernel, by decide⟩
set_option maxRecDepth 20000 in
theorem kw_432 : Cond.methodLink "RefitYard$Work" (41 : Nat) ⟨"RefitYard$Work", "isOpen", "()Z"⟩ ∈ zT := zT_of 432 rfl rfl
set_option maxRecDepth 20000 in
theorem kw_433 : Cond.instanceMethod ⟨"RefitYard$Work", "isOpen", "()Z"⟩ ∈ zT := zT_of 433 rfl rfl
set_option maxRecDepth 20000 in
theorem kw_434 : Cond.selects "RefitYard$Work" ⟨"RefitYard$Work", "isOpen", "()Z"⟩ ⟨"RefitYard$Work", "isOpen", "()Z"⟩ ∈ zT := zT_of 434 rfl rfl
theorem mv_X5_41 : zMV RX5 41 mX5_isOpen 0 6 16 := ⟨mmX5_isOpen, ⟨kw_432, kw_433, kw_434⟩, TX5, rfl, by decide, by decide⟩
def mX5_isDone : zF := (yX5_isDone, cX5_isDone, 2, (some .boolean))
set_option maxRecDepth 20000 in
theorem kc_516 : Cond.code yX5_isDone cX5_isDone 2 (some .boolean) ∈ zT := zT_of 551 rfl rfl
theorem mmX5_isDone : zMm mX5_isDone 1 := ⟨kw_43, kc_516, by decide +kernel, by decide⟩
set_option maxRecDepth 20000 in
theorem kw_552 : Cond.methodLink "RefitYard$Work" (45 : Nat) ⟨"RefitYard$Work", "behind", "()I"⟩ ∈ zT := zT_of 552 rfl rfl
set_option maxRecDepth 20000 in
theorem kw_456 : Cond.instanceMethod ⟨"RefitYard$Work", "behind", "()I"⟩ ∈ zT := zT_of 456 rfl rfl
set_option maxRecDepth 20000 in
theorem kw_457 : Cond.selects "RefitYard$Work" ⟨"RefitYard$Work", "behind", "()I"⟩ ⟨"RefitYard$Work", "behind", "()I"⟩ ∈ zT := zT_of 457 rfl rfl
theorem mv_X5_45 : zMV RX5 45 mX5_behind 0 6 16 := ⟨mmX5_behind, ⟨kw_552, kw_456, kw_457⟩, TX5, rfl, by decide, by decide⟩
def mX5_leansOn : zF := (yX5_leansOn, cX5_leansOn, 2, (some .boolean))
set_option maxRecDepth 20000 in
theorem kc_365 : Cond.code yX5_leansOn cX5_leansOn 2 (some .boolean) ∈ zT := zT_of 400 rfl rfl
theorem mmX5_leansOn : zMm mX5_leansOn 1 := ⟨kw_43, kc_365, by decide +kernel, by decide⟩
set_option maxRecDepth 20000 in
theorem kw_331 : Cond.fieldLink "RefitYard$Work" (49 : Nat) "RefitYard$Work" "needs" "J" ∈ zT := zT_of 331 rfl rfl
theorem fl_X5_49 : zFl RX5 49 6 12 16 .long false := ⟨RX5, TX5, 12, rfl, by decide, rfl, by decide, ui_X5, kw_331, rfl, tyX5_ok, nmX5, rfl, rfl⟩
def mX5_hangsOn : zF := (yX5_hangsOn, cX5_hangsOn, 2, (some .boolean))
set_option maxRecDepth 20000 in
theorem kc_392 : Cond.code yX5_hangsOn cX5_hangsOn 2 (some .boolean) ∈ zT := zT_of 427 rfl rfl
theorem mmX5_hangsOn : zMm mX5_hangsOn 1 := ⟨kw_43, kc_392, by decide +kernel, by decide⟩
set_option maxRecDepth 20000 in
theorem kw_334 : Cond.fieldLink "RefitYard$Work" (52 : Nat) "RefitYard$Work" "under" "J" ∈ zT := zT_of 334 rfl rfl
theorem fl_X5_52 : zFl RX5 52 6 13 16 .long false := ⟨RX5, TX5, 13, rfl, by decide, rfl, by decide, ui_X5, kw_334, rfl, tyX5_ok, nmX5, rfl, rfl⟩
def mX5_isReady : zF := (yX5_isReady, cX5_isReady, 3, (some .boolean))
set_option maxRecDepth 20000 in
theorem kc_542 : Cond.code yX5_isReady cX5_isReady 3 (some .boolean) ∈ zT := zT_of 577 rfl rfl
theorem mmX5_isReady : zMm mX5_isReady 1 := ⟨kw_43, kc_542, by decide +kernel, by decide⟩
set_option maxRecDepth 20000 in
theorem kw_578 : Cond.constantLong "RefitYard$Work" (55 : Nat) (-1 : Int64) ∈ zT := zT_of 578 rfl rfl
def mX5_wholeWay : zF := (yX5_wholeWay, cX5_wholeWay, 1, (some .int))
set_option maxRecDepth 20000 in
theorem kc_376 : Cond.code yX5_wholeWay cX5_wholeWay 1 (some .int) ∈ zT := zT_of 411 rfl rfl
theorem mmX5_wholeWay : zMm mX5_wholeWay 0 := ⟨kw_43, kc_376, by decide +kernel, by decide⟩
set_option maxRecDepth 20000 in
theorem kw_325 : Cond.fieldLink "RefitYard$Work" (57 : Nat) "RefitYard$Work" "early" "I" ∈ zT := zT_of 325 rfl rfl
theorem fl_X5_57 : zFl RX5 57 6 10 16 .int false := ⟨RX5, TX5, 10, rfl, by decide, rfl, by decide, ui_X5, kw_325, rfl, tyX5_ok, nmX5, rfl, rfl⟩
set_option maxRecDepth 20000 in
theorem kw_328 : Cond.fieldLink "RefitYard$Work" (60 : Nat) "RefitYard$Work" "tail" "I" ∈ zT := zT_of 328 rfl rfl
theorem fl_X5_60 : zFl RX5 60 6 11 16 .int false := ⟨RX5, TX5, 11, rfl, by decide, rfl, by decide, ui_X5, kw_328, rfl, tyX5_ok, nmX5, rfl, rfl⟩
def mX1_init : zF := (yX1_init, cX1_init, 1, none)
set_option maxRecDepth 20000 in
theorem kw_37 : Cond.initialized "RefitYard$Ground" ∈ zT := zT_of 37 rfl rfl
set_option maxRecDepth 20000 in
theorem kc_23 : Cond.code yX1_init cX1_init 1 none ∈ zT := zT_of 58 rfl rfl
theorem mmX1_init : zMm mX1_init 0 := ⟨kw_37, kc_23, by decide +kernel, by decide⟩
set_option maxRecDepth 20000 in
theorem kw_59 : Cond.methodLink "RefitYard$Ground" (3 : Nat) ⟨"java/lang/Object", "<init>", "()V"⟩ ∈ zT := zT_of 59 rfl rfl
set_option maxRecDepth 20000 in
theorem oi_X1_3 : Cond.methodLink RX1 3 Lib.objectInit ∈ zT ∧ Cond.instanceMethod Lib.objectInit ∈ zT ∧ Cond.code Lib.objectInit ⟨#[0xb1]⟩ 1 none ∈ zT := ⟨kw_59, kw_52, zT_of 53 rfl rfl⟩
set_option maxRecDepth 20000 in
theorem kw_80 : Cond.arrayClass .int ∈ zT := zT_of 80 rfl rfl
set_option maxRecDepth 20000 in
theorem kw_60 : Cond.fieldLink "RefitYard$Ground" (9 : Nat) "RefitYard$Ground" "bears" "[I" ∈ zT := zT_of 60 rfl rfl
set_option maxRecDepth 20000 in
theorem uk_X1 : ∀ k, k < 5 → u_lay RX1 TX1 k ∈ zT
  | 0, _ => zT_of 69 rfl rfl
  | 1, _ => zT_of 71 rfl rfl
  | 2, _ => zT_of 73 rfl rfl
  | 3, _ => zT_of 75 rfl rfl
  | 4, _ => zT_of 77 rfl rfl
  | n + 5, h => absurd h (by omega)
theorem ui_X1 : ∀ w ∈ u_ws RX1 TX1 5, w ∈ zT := fun w hw => by
  obtain ⟨k, hk, rfl⟩ := List.mem_map.mp hw
  exact uk_X1 k (List.mem_range.mp hk)
theorem fl_X1_9 : zFl RX1 9 2 0 5 (.array .int) true := ⟨RX1, TX1, 0, rfl, by decide, rfl, by decide, ui_X1, kw_60, rfl, tyX1_ok, nmX1, rfl, rfl⟩
set_option maxRecDepth 20000 in
theorem kw_63 : Cond.fieldLink "RefitYard$Ground" (15 : Nat) "RefitYard$Ground" "neighbours" "[I" ∈ zT := zT_of 63 rfl rfl
theorem fl_X1_15 : zFl RX1 15 2 1 5 (.array .int) true := ⟨RX1, TX1, 1, rfl, by decide, rfl, by decide, ui_X1, kw_63, rfl, tyX1_ok, nmX1, rfl, rfl⟩
set_option maxRecDepth 20000 in
theorem kw_64 : Cond.fieldLink "RefitYard$Ground" (18 : Nat) "RefitYard$Ground" "barred" "[I" ∈ zT := zT_of 64 rfl rfl
theorem fl_X1_18 : zFl RX1 18 2 2 5 (.array .int) true := ⟨RX1, TX1, 2, rfl, by decide, rfl, by decide, ui_X1, kw_64, rfl, tyX1_ok, nmX1, rfl, rfl⟩
def mX1_addSpace : zF := (yX1_addSpace, cX1_addSpace, 2, (some .int))
set_option maxRecDepth 20000 in
theorem kc_176 : Cond.code yX1_addSpace cX1_addSpace 2 (some .int) ∈ zT := zT_of 211 rfl rfl
theorem mmX1_addSpace : zMm mX1_addSpace 1 := ⟨kw_37, kc_176, by decide +kernel, by decide⟩
set_option maxRecDepth 20000 in
theorem kw_65 : Cond.fieldLink "RefitYard$Ground" (21 : Nat) "RefitYard$Ground" "spaces" "I" ∈ zT := zT_of 65 rfl rfl
theorem fl_X1_21 : zFl RX1 21 2 3 5 .int false := ⟨RX1, TX1, 3, rfl, by decide, rfl, by decide, ui_X1, kw_65, rfl, tyX1_ok, nmX1, rfl, rfl⟩
def mX1_hasSpace : zF := (yX1_hasSpace, cX1_hasSpace, 2, (some .boolean))
set_option maxRecDepth 20000 in
theorem kc_184 : Cond.code yX1_hasSpace cX1_hasSpace 2 (some .boolean) ∈ zT := zT_of 219 rfl rfl
theorem mmX1_hasSpace : zMm mX1_hasSpace 1 := ⟨kw_37, kc_184, by decide +kernel, by decide⟩
def mX1_areNear : zF := (yX1_areNear, cX1_areNear, 3, (some .boolean))
set_option maxRecDepth 20000 in
theorem kc_188 : Cond.code yX1_areNear cX1_areNear 3 (some .boolean) ∈ zT := zT_of 223 rfl rfl
theorem mmX1_areNear : zMm mX1_areNear 2 := ⟨kw_37, kc_188, by decide +kernel, by decide⟩
def mX1_join : zF := (yX1_join, cX1_join, 3, none)
set_option maxRecDepth 20000 in
theorem kc_192 : Cond.code yX1_join cX1_join 3 none ∈ zT := zT_of 227 rfl rfl
theorem mmX1_join : zMm mX1_join 2 := ⟨kw_37, kc_192, by decide +kernel, by decide⟩
def mX1_isBarred : zF := (yX1_isBarred, cX1_isBarred, 4, (some .boolean))
set_option maxRecDepth 20000 in
theorem kc_208 : Cond.code yX1_isBarred cX1_isBarred 4 (some .boolean) ∈ zT := zT_of 243 rfl rfl
theorem mmX1_isBarred : zMm mX1_isBarred 3 := ⟨kw_37, kc_208, by decide +kernel, by decide⟩
def mX1_forbid : zF := (yX1_forbid, cX1_forbid, 4, none)
set_option maxRecDepth 20000 in
theorem kc_235 : Cond.code yX1_forbid cX1_forbid 4 none ∈ zT := zT_of 270 rfl rfl
theorem mmX1_forbid : zMm mX1_forbid 3 := ⟨kw_37, kc_235, by decide +kernel, by decide⟩
set_option maxRecDepth 20000 in
theorem kw_67 : Cond.fieldLink "RefitYard$Ground" (25 : Nat) "RefitYard$Ground" "bars" "I" ∈ zT := zT_of 67 rfl rfl
theorem fl_X1_25 : zFl RX1 25 2 4 5 .int false := ⟨RX1, TX1, 4, rfl, by decide, rfl, by decide, ui_X1, kw_67, rfl, tyX1_ok, nmX1, rfl, rfl⟩
def mX1_keepsApart : zF := (yX1_keepsApart, cX1_keepsApart, 3, (some .boolean))
set_option maxRecDepth 20000 in
theorem kc_204 : Cond.code yX1_keepsApart cX1_keepsApart 3 (some .boolean) ∈ zT := zT_of 239 rfl rfl
theorem mmX1_keepsApart : zMm mX1_keepsApart 2 := ⟨kw_37, kc_204, by decide +kernel, by decide⟩
set_option maxRecDepth 20000 in
theorem kw_305 : Cond.fieldLink "RefitYard$Ground" (28 : Nat) "RefitYard$Work" "kind" "I" ∈ zT := zT_of 305 rfl rfl
theorem fl_X1_28 : zFl RX1 28 6 5 16 .int true := ⟨RX5, TX5, 5, rfl, by decide, rfl, by decide, ui_X5, kw_305, rfl, tyX5_ok, nmX5, rfl, rfl⟩
set_option maxRecDepth 20000 in
theorem kw_240 : Cond.methodLink "RefitYard$Ground" (33 : Nat) ⟨"RefitYard$Ground", "isBarred", "(III)Z"⟩ ∈ zT := zT_of 240 rfl rfl
set_option maxRecDepth 20000 in
theorem kw_241 : Cond.instanceMethod ⟨"RefitYard$Ground", "isBarred", "(III)Z"⟩ ∈ zT := zT_of 241 rfl rfl
set_option maxRecDepth 20000 in
theorem kw_242 : Cond.selects "RefitYard$Ground" ⟨"RefitYard$Ground", "isBarred", "(III)Z"⟩ ⟨"RefitYard$Ground", "isBarred", "(III)Z"⟩ ∈ zT := zT_of 242 rfl rfl
theorem mv_X1_33 : zMV RX1 33 mX1_isBarred 3 2 5 := ⟨mmX1_isBarred, ⟨kw_240, kw_241, kw_242⟩, TX1, rfl, by decide, by decide⟩
set_option maxRecDepth 20000 in
theorem kw_302 : Cond.fieldLink "RefitYard$Ground" (37 : Nat) "RefitYard$Work" "space" "I" ∈ zT := zT_of 302 rfl rfl
theorem fl_X1_37 : zFl RX1 37 6 4 16 .int true := ⟨RX5, TX5, 4, rfl, by decide, rfl, by decide, ui_X5, kw_302, rfl, tyX5_ok, nmX5, rfl, rfl⟩
set_option maxRecDepth 20000 in
theorem kw_244 : Cond.methodLink "RefitYard$Ground" (40 : Nat) ⟨"RefitYard$Ground", "areNear", "(II)Z"⟩ ∈ zT := zT_of 244 rfl rfl
set_option maxRecDepth 20000 in
theorem kw_221 : Cond.instanceMethod ⟨"RefitYard$Ground", "areNear", "(II)Z"⟩ ∈ zT := zT_of 221 rfl rfl
set_option maxRecDepth 20000 in
theorem kw_222 : Cond.selects "RefitYard$Ground" ⟨"RefitYard$Ground", "areNear", "(II)Z"⟩ ⟨"RefitYard$Ground", "areNear", "(II)Z"⟩ ∈ zT := zT_of 222 rfl rfl
theorem mv_X1_40 : zMV RX1 40 mX1_areNear 2 2 5 := ⟨mmX1_areNear, ⟨kw_244, kw_221, kw_222⟩, TX1, rfl, by decide, by decide⟩
def mX7_init : zF := (yX7_init, cX7_init, 1, none)
set_option maxRecDepth 20000 in
theorem kw_42 : Cond.initialized "RefitYardModel" ∈ zT := zT_of 42 rfl rfl
set_option maxRecDepth 20000 in
theorem kc_647 : Cond.code yX7_init cX7_init 1 none ∈ zT := zT_of 682 rfl rfl
theorem mmX7_init : zMm mX7_init 0 := ⟨kw_42, kc_647, by decide +kernel, by decide⟩
set_option maxRecDepth 20000 in
theorem kw_683 : Cond.methodLink "RefitYardModel" (1 : Nat) ⟨"java/lang/Object", "<init>", "()V"⟩ ∈ zT := zT_of 683 rfl rfl
set_option maxRecDepth 20000 in
theorem oi_X7_1 : Cond.methodLink RX7 1 Lib.objectInit ∈ zT ∧ Cond.instanceMethod Lib.objectInit ∈ zT ∧ Cond.code Lib.objectInit ⟨#[0xb1]⟩ 1 none ∈ zT := ⟨kw_683, kw_52, zT_of 53 rfl rfl⟩
set_option maxRecDepth 20000 in
theorem kw_686 : Cond.fieldLink "RefitYardModel" (9 : Nat) "RefitYardModel" "bears" "[I" ∈ zT := zT_of 686 rfl rfl
set_option maxRecDepth 20000 in
theorem uk_X7 : ∀ k, k < 25 → u_lay RX7 TX7 k ∈ zT
  | 0, _ => zT_of 709 rfl rfl
  | 1, _ => zT_of 711 rfl rfl
  | 2, _ => zT_of 713 rfl rfl
  | 3, _ => zT_of 715 rfl rfl
  | 4, _ => zT_of 717 rfl rfl
  | 5, _ => zT_of 719 rfl rfl
  | 6, _ => zT_of 721 rfl rfl
  | 7, _ => zT_of 723 rfl rfl
  | 8, _ => zT_of 725 rfl rfl
  | 9, _ => zT_of 727 rfl rfl
  | 10, _ => zT_of 729 rfl rfl
  | 11, _ => zT_of 731 rfl rfl
  | 12, _ => zT_of 733 rfl rfl
  | 13, _ => zT_of 735 rfl rfl
  | 14, _ => zT_of 737 rfl rfl
  | 15, _ => zT_of 739 rfl rfl
  | 16, _ => zT_of 741 rfl rfl
  | 17, _ => zT_of 743 rfl rfl
  | 18, _ => zT_of 745 rfl rfl
  | 19, _ => zT_of 747 rfl rfl
  | 20, _ => zT_of 749 rfl rfl
  | 21, _ => zT_of 751 rfl rfl
  | 22, _ => zT_of 753 rfl rfl
  | 23, _ => zT_of 755 rfl rfl
  | 24, _ => zT_of 757 rfl rfl
  | n + 25, h => absurd h (by omega)
theorem ui_X7 : ∀ w ∈ u_ws RX7 TX7 25, w ∈ zT := fun w hw => by
  obtain ⟨k, hk, rfl⟩ := List.mem_map.mp hw
  exact uk_X7 k (List.mem_range.mp hk)
theorem fl_X7_9 : zFl RX7 9 8 2 25 (.array .int) true := ⟨RX7, TX7, 2, rfl, by decide, rfl, by decide, ui_X7, kw_686, rfl, tyX7_ok, nmX7, rfl, rfl⟩
set_option maxRecDepth 20000 in
theorem kw_760 : Cond.arrayClass .boolean ∈ zT := zT_of 760 rfl rfl
set_option maxRecDepth 20000 in
theorem kw_687 : Cond.fieldLink "RefitYardModel" (13 : Nat) "RefitYardModel" "isNear" "[Z" ∈ zT := zT_of 687 rfl rfl
theorem fl_X7_13 : zFl RX7 13 8 3 25 (.array .boolean) true := ⟨RX7, TX7, 3, rfl, by decide, rfl, by decide, ui_X7, kw_687, rfl, tyX7_ok, nmX7, rfl, rfl⟩
set_option maxRecDepth 20000 in
theorem kw_688 : Cond.fieldLink "RefitYardModel" (17 : Nat) "RefitYardModel" "hands" "[I" ∈ zT := zT_of 688 rfl rfl
theorem fl_X7_17 : zFl RX7 17 8 4 25 (.array .int) true := ⟨RX7, TX7, 4, rfl, by decide, rfl, by decide, ui_X7, kw_688, rfl, tyX7_ok, nmX7, rfl, rfl⟩
set_option maxRecDepth 20000 in
theorem kw_689 : Cond.fieldLink "RefitYardModel" (20 : Nat) "RefitYardModel" "goods" "[I" ∈ zT := zT_of 689 rfl rfl
theorem fl_X7_20 : zFl RX7 20 8 5 25 (.array .int) true := ⟨RX7, TX7, 5, rfl, by decide, rfl, by decide, ui_X7, kw_689, rfl, tyX7_ok, nmX7, rfl, rfl⟩
set_option maxRecDepth 20000 in
theorem kw_691 : Cond.fieldLink "RefitYardModel" (23 : Nat) "RefitYardModel" "barred" "[I" ∈ zT := zT_of 691 rfl rfl
theorem fl_X7_23 : zFl RX7 23 8 7 25 (.array .int) true := ⟨RX7, TX7, 7, rfl, by decide, rfl, by decide, ui_X7, kw_691, rfl, tyX7_ok, nmX7, rfl, rfl⟩
set_option maxRecDepth 20000 in
theorem kw_693 : Cond.fieldLink "RefitYardModel" (26 : Nat) "RefitYardModel" "length" "[I" ∈ zT := zT_of 693 rfl rfl
theorem fl_X7_26 : zFl RX7 26 8 9 25 (.array .int) true := ⟨RX7, TX7, 9, rfl, by decide, rfl, by decide, ui_X7, kw_693, rfl, tyX7_ok, nmX7, rfl, rfl⟩
set_option maxRecDepth 20000 in
theorem kw_694 : Cond.fieldLink "RefitYardModel" (29 : Nat) "RefitYardModel" "trade" "[I" ∈ zT := zT_of 694 rfl rfl
theorem fl_X7_29 : zFl RX7 29 8 10 25 (.array .int) true := ⟨RX7, TX7, 10, rfl, by decide, rfl, by decide, ui_X7, kw_694, rfl, tyX7_ok, nmX7, rfl, rfl⟩
set_option maxRecDepth 20000 in
theorem kw_695 : Cond.fieldLink "RefitYardModel" (32 : Nat) "RefitYardModel" "asks" "[I" ∈ zT := zT_of 695 rfl rfl
theorem fl_X7_32 : zFl RX7 32 8 11 25 (.array .int) true := ⟨RX7, TX7, 11, rfl, by decide, rfl, by decide, ui_X7, kw_695, rfl, tyX7_ok, nmX7, rfl, rfl⟩
set_option maxRecDepth 20000 in
theorem kw_696 : Cond.fieldLink "RefitYardModel" (35 : Nat) "RefitYardModel" "space" "[I" ∈ zT := zT_of 696 rfl rfl
theorem fl_X7_35 : zFl RX7 35 8 12 25 (.array .int) true := ⟨RX7, TX7, 12, rfl, by decide, rfl, by decide, ui_X7, kw_696, rfl, tyX7_ok, nmX7, rfl, rfl⟩
set_option maxRecDepth 20000 in
theorem kw_697 : Cond.fieldLink "RefitYardModel" (38 : Nat) "RefitYardModel" "kind" "[I" ∈ zT := zT_of 697 rfl rfl
theorem fl_X7_38 : zFl RX7 38 8 13 25 (.array .int) true := ⟨RX7, TX7, 13, rfl, by decide, rfl, by decide, ui_X7, kw_697, rfl, tyX7_ok, nmX7, rfl, rfl⟩
set_option maxRecDepth 20000 in
theorem kw_698 : Cond.fieldLink "RefitYardModel" (41 : Nat) "RefitYardModel" "good" "[I" ∈ zT := zT_of 698 rfl rfl
theorem fl_X7_41 : zFl RX7 41 8 14 25 (.array .int) true := ⟨RX7, TX7, 14, rfl, by decide, rfl, by decide, ui_X7, kw_698, rfl, tyX7_ok, nmX7, rfl, rfl⟩
set_option maxRecDepth 20000 in
theorem kw_699 : Cond.fieldLink "RefitYardModel" (44 : Nat) "RefitYardModel" "shift" "[I" ∈ zT := zT_of 699 rfl rfl
theorem fl_X7_44 : zFl RX7 44 8 15 25 (.array .int) true := ⟨RX7, TX7, 15, rfl, by decide, rfl, by decide, ui_X7, kw_699, rfl, tyX7_ok, nmX7, rfl, rfl⟩
set_option maxRecDepth 20000 in
theorem kw_700 : Cond.fieldLink "RefitYardModel" (47 : Nat) "RefitYardModel" "again" "[I" ∈ zT := zT_of 700 rfl rfl
theorem fl_X7_47 : zFl RX7 47 8 16 25 (.array .int) true := ⟨RX7, TX7, 16, rfl, by decide, rfl, by decide, ui_X7, kw_700, rfl, tyX7_ok, nmX7, rfl, rfl⟩
set_option maxRecDepth 20000 in
theorem kw_701 : Cond.fieldLink "RefitYardModel" (50 : Nat) "RefitYardModel" "needs" "[Z" ∈ zT := zT_of 701 rfl rfl
theorem fl_X7_50 : zFl RX7 50 8 17 25 (.array .boolean) true := ⟨RX7, TX7, 17, rfl, by decide, rfl, by decide, ui_X7, kw_701, rfl, tyX7_ok, nmX7, rfl, rfl⟩
set_option maxRecDepth 20000 in
theorem kw_702 : Cond.fieldLink "RefitYardModel" (53 : Nat) "RefitYardModel" "tells" "[Z" ∈ zT := zT_of 702 rfl rfl
theorem fl_X7_53 : zFl RX7 53 8 18 25 (.array .boolean) true := ⟨RX7, TX7, 18, rfl, by decide, rfl, by decide, ui_X7, kw_702, rfl, tyX7_ok, nmX7, rfl, rfl⟩
set_option maxRecDepth 20000 in
theorem kw_703 : Cond.fieldLink "RefitYardModel" (56 : Nat) "RefitYardModel" "isTried" "[Z" ∈ zT := zT_of 703 rfl rfl
theorem fl_X7_56 : zFl RX7 56 8 19 25 (.array .boolean) true := ⟨RX7, TX7, 19, rfl, by decide, rfl, by decide, ui_X7, kw_703, rfl, tyX7_ok, nmX7, rfl, rfl⟩
set_option maxRecDepth 20000 in
theorem kw_704 : Cond.fieldLink "RefitYardModel" (59 : Nat) "RefitYardModel" "early" "[I" ∈ zT := zT_of 704 rfl rfl
theorem fl_X7_59 : zFl RX7 59 8 20 25 (.array .int) true := ⟨RX7, TX7, 20, rfl, by decide, rfl, by decide, ui_X7, kw_704, rfl, tyX7_ok, nmX7, rfl, rfl⟩
set_option maxRecDepth 20000 in
theorem kw_705 : Cond.fieldLink "RefitYardModel" (62 : Nat) "RefitYardModel" "tail" "[I" ∈ zT := zT_of 705 rfl rfl
theorem fl_X7_62 : zFl RX7 62 8 21 25 (.array .int) true := ⟨RX7, TX7, 21, rfl, by decide, rfl, by decide, ui_X7, kw_705, rfl, tyX7_ok, nmX7, rfl, rfl⟩
set_option maxRecDepth 20000 in
theorem kw_706 : Cond.fieldLink "RefitYardModel" (65 : Nat) "RefitYardModel" "order" "[I" ∈ zT := zT_of 706 rfl rfl
theorem fl_X7_65 : zFl RX7 65 8 22 25 (.array .int) true := ⟨RX7, TX7, 22, rfl, by decide, rfl, by decide, ui_X7, kw_706, rfl, tyX7_ok, nmX7, rfl, rfl⟩
set_option maxRecDepth 20000 in
theorem kw_707 : Cond.fieldLink "RefitYardModel" (68 : Nat) "RefitYardModel" "choice" "[I" ∈ zT := zT_of 707 rfl rfl
theorem fl_X7_68 : zFl RX7 68 8 23 25 (.array .int) true := ⟨RX7, TX7, 23, rfl, by decide, rfl, by decide, ui_X7, kw_707, rfl, tyX7_ok, nmX7, rfl, rfl⟩
set_option maxRecDepth 20000 in
theorem kw_708 : Cond.fieldLink "RefitYardModel" (71 : Nat) "RefitYardModel" "bestShift" "[I" ∈ zT := zT_of 708 rfl rfl
theorem fl_X7_71 : zFl RX7 71 8 24 25 (.array .int) true := ⟨RX7, TX7, 24, rfl, by decide, rfl, by decide, ui_X7, kw_708, rfl, tyX7_ok, nmX7, rfl, rfl⟩
def mX7_in : zF := (yX7_in, cX7_in, 3, (some .boolean))
set_option maxRecDepth 20000 in
theorem kc_732 : Cond.code yX7_in cX7_in 3 (some .boolean) ∈ zT := zT_of 767 rfl rfl
theorem mmX7_in : zMm mX7_in 3 := ⟨kw_42, kc_732, by decide +kernel, by decide⟩
def mX7_isWork : zF := (yX7_isWork, cX7_isWork, 2, (some .boolean))
set_option maxRecDepth 20000 in
theorem kc_765 : Cond.code yX7_isWork cX7_isWork 2 (some .boolean) ∈ zT := zT_of 800 rfl rfl
theorem mmX7_isWork : zMm mX7_isWork 1 := ⟨kw_42, kc_765, by decide +kernel, by decide⟩
set_option maxRecDepth 20000 in
theorem kw_692 : Cond.fieldLink "RefitYardModel" (74 : Nat) "RefitYardModel" "works" "I" ∈ zT := zT_of 692 rfl rfl
theorem fl_X7_74 : zFl RX7 74 8 8 25 .int false := ⟨RX7, TX7, 8, rfl, by decide, rfl, by decide, ui_X7, kw_692, rfl, tyX7_ok, nmX7, rfl, rfl⟩
set_option maxRecDepth 20000 in
theorem kw_765 : Cond.methodLink "RefitYardModel" (78 : Nat) ⟨"RefitYardModel", "in", "(III)Z"⟩ ∈ zT := zT_of 765 rfl rfl
set_option maxRecDepth 20000 in
theorem kw_766 : Cond.static ⟨"RefitYardModel", "in", "(III)Z"⟩ ∈ zT := zT_of 766 rfl rfl
theorem ms_X7_78 : zMS RX7 78 mX7_in 3 := ⟨mmX7_in, kw_765, kw_766⟩
def mX7_space : zF := (yX7_space, cX7_space, 2, (some .int))
set_option maxRecDepth 20000 in
theorem kc_729 : Cond.code yX7_space cX7_space 2 (some .int) ∈ zT := zT_of 764 rfl rfl
theorem mmX7_space : zMm mX7_space 1 := ⟨kw_42, kc_729, by decide +kernel, by decide⟩
set_option maxRecDepth 20000 in
theorem kw_685 : Cond.fieldLink "RefitYardModel" (82 : Nat) "RefitYardModel" "spaces" "I" ∈ zT := zT_of 685 rfl rfl
theorem fl_X7_82 : zFl RX7 82 8 1 25 .int false := ⟨RX7, TX7, 1, rfl, by decide, rfl, by decide, ui_X7, kw_685, rfl, tyX7_ok, nmX7, rfl, rfl⟩
def mX7_near : zF := (yX7_near, cX7_near, 3, (some .boolean))
set_option maxRecDepth 20000 in
theorem kc_736 : Cond.code yX7_near cX7_near 3 (some .boolean) ∈ zT := zT_of 771 rfl rfl
theorem mmX7_near : zMm mX7_near 2 := ⟨kw_42, kc_736, by decide +kernel, by decide⟩
def mX7_gang : zF := (yX7_gang, cX7_gang, 3, (some .boolean))
set_option maxRecDepth 20000 in
theorem kc_740 : Cond.code yX7_gang cX7_gang 3 (some .boolean) ∈ zT := zT_of 775 rfl rfl
theorem mmX7_gang : zMm mX7_gang 2 := ⟨kw_42, kc_740, by decide +kernel, by decide⟩
def mX7_good : zF := (yX7_good, cX7_good, 3, (some .boolean))
set_option maxRecDepth 20000 in
theorem kc_744 : Cond.code yX7_good cX7_good 3 (some .boolean) ∈ zT := zT_of 779 rfl rfl
theorem mmX7_good : zMm mX7_good 2 := ⟨kw_42, kc_744, by decide +kernel, by decide⟩
def mX7_bar : zF := (yX7_bar, cX7_bar, 4, (some .boolean))
set_option maxRecDepth 20000 in
theorem kc_748 : Cond.code yX7_bar cX7_bar 4 (some .boolean) ∈ zT := zT_of 783 rfl rfl
theorem mmX7_bar : zMm mX7_bar 3 := ⟨kw_42, kc_748, by decide +kernel, by decide⟩
set_option maxRecDepth 20000 in
theorem kw_690 : Cond.fieldLink "RefitYardModel" (85 : Nat) "RefitYardModel" "bars" "I" ∈ zT := zT_of 690 rfl rfl
theorem fl_X7_85 : zFl RX7 85 8 6 25 .int false := ⟨RX7, TX7, 6, rfl, by decide, rfl, by decide, ui_X7, kw_690, rfl, tyX7_ok, nmX7, rfl, rfl⟩
def mX7_work : zF := (yX7_work, cX7_work, 8, (some .int))
set_option maxRecDepth 20000 in
theorem kc_752 : Cond.code yX7_work cX7_work 8 (some .int) ∈ zT := zT_of 787 rfl rfl
theorem mmX7_work : zMm mX7_work 2 := ⟨kw_42, kc_752, by decide +kernel, by decide⟩
set_option maxRecDepth 20000 in
theorem kw_788 : Cond.constant "RefitYardModel" (88 : Nat) (100000 : Int32) ∈ zT := zT_of 788 rfl rfl
def mX7_isPut : zF := (yX7_isPut, cX7_isPut, 2, (some .boolean))
set_option maxRecDepth 20000 in
theorem kc_773 : Cond.code yX7_isPut cX7_isPut 2 (some .boolean) ∈ zT := zT_of 808 rfl rfl
theorem mmX7_isPut : zMm mX7_isPut 1 := ⟨kw_42, kc_773, by decide +kernel, by decide⟩
def mX7_isBegun : zF := (yX7_isBegun, cX7_isBegun, 2, (some .boolean))
set_option maxRecDepth 20000 in
theorem kc_769 : Cond.code yX7_isBegun cX7_isBegun 2 (some .boolean) ∈ zT := zT_of 804 rfl rfl
theorem mmX7_isBegun : zMm mX7_isBegun 1 := ⟨kw_42, kc_769, by decide +kernel, by decide⟩
set_option maxRecDepth 20000 in
theorem kw_805 : Cond.methodLink "RefitYardModel" (89 : Nat) ⟨"RefitYardModel", "isPut", "(I)Z"⟩ ∈ zT := zT_of 805 rfl rfl
set_option maxRecDepth 20000 in
theorem kw_807 : Cond.instanceMethod ⟨"RefitYardModel", "isPut", "(I)Z"⟩ ∈ zT := zT_of 807 rfl rfl
set_option maxRecDepth 20000 in
theorem kw_22 : Cond.selects "RefitYardModel" ⟨"RefitYardModel", "isPut", "(I)Z"⟩ ⟨"RefitYardModel", "isPut", "(I)Z"⟩ ∈ zT := zT_of 22 rfl rfl
theorem mv_X7_89 : zMV RX7 89 mX7_isPut 1 8 25 := ⟨mmX7_isPut, ⟨kw_805, kw_807, kw_22⟩, TX7, rfl, by decide, by decide⟩
set_option maxRecDepth 20000 in
theorem kw_684 : Cond.fieldLink "RefitYardModel" (93 : Nat) "RefitYardModel" "now" "I" ∈ zT := zT_of 684 rfl rfl
theorem fl_X7_93 : zFl RX7 93 8 0 25 .int false := ⟨RX7, TX7, 0, rfl, by decide, rfl, by decide, ui_X7, kw_684, rfl, tyX7_ok, nmX7, rfl, rfl⟩
def mX7_endOf : zF := (yX7_endOf, cX7_endOf, 2, (some .int))
set_option maxRecDepth 20000 in
theorem kc_801 : Cond.code yX7_endOf cX7_endOf 2 (some .int) ∈ zT := zT_of 836 rfl rfl
theorem mmX7_endOf : zMm mX7_endOf 1 := ⟨kw_42, kc_801, by decide +kernel, by decide⟩
def mX7_isDone : zF := (yX7_isDone, cX7_isDone, 2, (some .boolean))
set_option maxRecDepth 20000 in
theorem kc_868 : Cond.code yX7_isDone cX7_isDone 2 (some .boolean) ∈ zT := zT_of 903 rfl rfl
theorem mmX7_isDone : zMm mX7_isDone 1 := ⟨kw_42, kc_868, by decide +kernel, by decide⟩
set_option maxRecDepth 20000 in
theorem kw_833 : Cond.methodLink "RefitYardModel" (96 : Nat) ⟨"RefitYardModel", "endOf", "(I)I"⟩ ∈ zT := zT_of 833 rfl rfl
set_option maxRecDepth 20000 in
theorem kw_835 : Cond.instanceMethod ⟨"RefitYardModel", "endOf", "(I)I"⟩ ∈ zT := zT_of 835 rfl rfl
set_option maxRecDepth 20000 in
theorem kw_25 : Cond.selects "RefitYardModel" ⟨"RefitYardModel", "endOf", "(I)I"⟩ ⟨"RefitYardModel", "endOf", "(I)I"⟩ ∈ zT := zT_of 25 rfl rfl
theorem mv_X7_96 : zMV RX7 96 mX7_endOf 1 8 25 := ⟨mmX7_endOf, ⟨kw_833, kw_835, kw_25⟩, TX7, rfl, by decide, by decide⟩
def mX7_hangs : zF := (yX7_hangs, cX7_hangs, 7, (some .boolean))
set_option maxRecDepth 20000 in
theorem kc_777 : Cond.code yX7_hangs cX7_hangs 7 (some .boolean) ∈ zT := zT_of 812 rfl rfl
theorem mmX7_hangs : zMm mX7_hangs 2 := ⟨kw_42, kc_777, by decide +kernel, by decide⟩
def mX7_canNeed : zF := (yX7_canNeed, cX7_canNeed, 3, (some .boolean))
set_option maxRecDepth 20000 in
theorem kc_761 : Cond.code yX7_canNeed cX7_canNeed 3 (some .boolean) ∈ zT := zT_of 796 rfl rfl
theorem mmX7_canNeed : zMm mX7_canNeed 2 := ⟨kw_42, kc_761, by decide +kernel, by decide⟩
set_option maxRecDepth 20000 in
theorem kw_797 : Cond.methodLink "RefitYardModel" (100 : Nat) ⟨"RefitYardModel", "isWork", "(I)Z"⟩ ∈ zT := zT_of 797 rfl rfl
set_option maxRecDepth 20000 in
theorem kw_799 : Cond.instanceMethod ⟨"RefitYardModel", "isWork", "(I)Z"⟩ ∈ zT := zT_of 799 rfl rfl
set_option maxRecDepth 20000 in
theorem kw_20 : Cond.selects "RefitYardModel" ⟨"RefitYardModel", "isWork", "(I)Z"⟩ ⟨"RefitYardModel", "isWork", "(I)Z"⟩ ∈ zT := zT_of 20 rfl rfl
theorem mv_X7_100 : zMV RX7 100 mX7_isWork 1 8 25 := ⟨mmX7_isWork, ⟨kw_797, kw_799, kw_20⟩, TX7, rfl, by decide, by decide⟩
set_option maxRecDepth 20000 in
theorem kw_801 : Cond.methodLink "RefitYardModel" (103 : Nat) ⟨"RefitYardModel", "isBegun", "(I)Z"⟩ ∈ zT := zT_of 801 rfl rfl
set_option maxRecDepth 20000 in
theorem kw_803 : Cond.instanceMethod ⟨"RefitYardModel", "isBegun", "(I)Z"⟩ ∈ zT := zT_of 803 rfl rfl
set_option maxRecDepth 20000 in
theorem kw_21 : Cond.selects "RefitYardModel" ⟨"RefitYardModel", "isBegun", "(I)Z"⟩ ⟨"RefitYardModel", "isBegun", "(I)Z"⟩ ∈ zT := zT_of 21 rfl rfl
theorem mv_X7_103 : zMV RX7 103 mX7_isBegun 1 8 25 := ⟨mmX7_isBegun, ⟨kw_801, kw_803, kw_21⟩, TX7, rfl, by decide, by decide⟩
set_option maxRecDepth 20000 in
theorem kw_809 : Cond.methodLink "RefitYardModel" (106 : Nat) ⟨"RefitYardModel", "hangs", "(II)Z"⟩ ∈ zT := zT_of 809 rfl rfl
set_option maxRecDepth 20000 in
theorem kw_811 : Cond.instanceMethod ⟨"RefitYardModel", "hangs", "(II)Z"⟩ ∈ zT := zT_of 811 rfl rfl
set_option maxRecDepth 20000 in
theorem kw_23 : Cond.selects "RefitYardModel" ⟨"RefitYardModel", "hangs", "(II)Z"⟩ ⟨"RefitYardModel", "hangs", "(II)Z"⟩ ∈ zT := zT_of 23 rfl rfl
theorem mv_X7_106 : zMV RX7 106 mX7_hangs 2 8 25 := ⟨mmX7_hangs, ⟨kw_809, kw_811, kw_23⟩, TX7, rfl, by decide, by decide⟩
def mX7_need : zF := (yX7_need, cX7_need, 3, (some .boolean))
set_option maxRecDepth 20000 in
theorem kc_757 : Cond.code yX7_need cX7_need 3 (some .boolean) ∈ zT := zT_of 792 rfl rfl
theorem mmX7_need : zMm mX7_need 2 := ⟨kw_42, kc_757, by decide +kernel, by decide⟩
set_option maxRecDepth 20000 in
theorem kw_793 : Cond.methodLink "RefitYardModel" (110 : Nat) ⟨"RefitYardModel", "canNeed", "(II)Z"⟩ ∈ zT := zT_of 793 rfl rfl
set_option maxRecDepth 20000 in
theorem kw_795 : Cond.instanceMethod ⟨"RefitYardModel", "canNeed", "(II)Z"⟩ ∈ zT := zT_of 795 rfl rfl
set_option maxRecDepth 20000 in
theorem kw_19 : Cond.selects "RefitYardModel" ⟨"RefitYardModel", "canNeed", "(II)Z"⟩ ⟨"RefitYardModel", "canNeed", "(II)Z"⟩ ∈ zT := zT_of 19 rfl rfl
theorem mv_X7_110 : zMV RX7 110 mX7_canNeed 2 8 25 := ⟨mmX7_canNeed, ⟨kw_793, kw_795, kw_19⟩, TX7, rfl, by decide, by decide⟩
def mX7_tells : zF := (yX7_tells, cX7_tells, 3, (some .boolean))
set_option maxRecDepth 20000 in
theorem kc_781 : Cond.code yX7_tells cX7_tells 3 (some .boolean) ∈ zT := zT_of 816 rfl rfl
theorem mmX7_tells : zMm mX7_tells 2 := ⟨kw_42, kc_781, by decide +kernel, by decide⟩
def mX7_put : zF := (yX7_put, cX7_put, 3, (some .boolean))
set_option maxRecDepth 20000 in
theorem kc_785 : Cond.code yX7_put cX7_put 3 (some .boolean) ∈ zT := zT_of 820 rfl rfl
theorem mmX7_put : zMm mX7_put 2 := ⟨kw_42, kc_785, by decide +kernel, by decide⟩
def mX7_take : zF := (yX7_take, cX7_take, 2, (some .boolean))
set_option maxRecDepth 20000 in
theorem kc_789 : Cond.code yX7_take cX7_take 2 (some .boolean) ∈ zT := zT_of 824 rfl rfl
theorem mmX7_take : zMm mX7_take 1 := ⟨kw_42, kc_789, by decide +kernel, by decide⟩
def mX7_isIn : zF := (yX7_isIn, cX7_isIn, 3, (some .boolean))
set_option maxRecDepth 20000 in
theorem kc_809 : Cond.code yX7_isIn cX7_isIn 3 (some .boolean) ∈ zT := zT_of 844 rfl rfl
theorem mmX7_isIn : zMm mX7_isIn 2 := ⟨kw_42, kc_809, by decide +kernel, by decide⟩
def mX7_isBarred : zF := (yX7_isBarred, cX7_isBarred, 4, (some .boolean))
set_option maxRecDepth 20000 in
theorem kc_813 : Cond.code yX7_isBarred cX7_isBarred 4 (some .boolean) ∈ zT := zT_of 848 rfl rfl
theorem mmX7_isBarred : zMm mX7_isBarred 2 := ⟨kw_42, kc_813, by decide +kernel, by decide⟩
def mX7_breaks : zF := (yX7_breaks, cX7_breaks, 4, (some .int))
set_option maxRecDepth 20000 in
theorem kc_797 : Cond.code yX7_breaks cX7_breaks 4 (some .int) ∈ zT := zT_of 832 rfl rfl
theorem mmX7_breaks : zMm mX7_breaks 2 := ⟨kw_42, kc_797, by decide +kernel, by decide⟩
def mX7_isBroken : zF := (yX7_isBroken, cX7_isBroken, 6, (some .boolean))
set_option maxRecDepth 20000 in
theorem kc_805 : Cond.code yX7_isBroken cX7_isBroken 6 (some .boolean) ∈ zT := zT_of 840 rfl rfl
theorem mmX7_isBroken : zMm mX7_isBroken 3 := ⟨kw_42, kc_805, by decide +kernel, by decide⟩
set_option maxRecDepth 20000 in
theorem kw_837 : Cond.methodLink "RefitYardModel" (113 : Nat) ⟨"RefitYardModel", "isBroken", "(III)Z"⟩ ∈ zT := zT_of 837 rfl rfl
set_option maxRecDepth 20000 in
theorem kw_839 : Cond.instanceMethod ⟨"RefitYardModel", "isBroken", "(III)Z"⟩ ∈ zT := zT_of 839 rfl rfl
set_option maxRecDepth 20000 in
theorem kw_26 : Cond.selects "RefitYardModel" ⟨"RefitYardModel", "isBroken", "(III)Z"⟩ ⟨"RefitYardModel", "isBroken", "(III)Z"⟩ ∈ zT := zT_of 26 rfl rfl
theorem mv_X7_113 : zMV RX7 113 mX7_isBroken 3 8 25 := ⟨mmX7_isBroken, ⟨kw_837, kw_839, kw_26⟩, TX7, rfl, by decide, by decide⟩
set_option maxRecDepth 20000 in
theorem kw_841 : Cond.methodLink "RefitYardModel" (116 : Nat) ⟨"RefitYardModel", "isIn", "(II)Z"⟩ ∈ zT := zT_of 841 rfl rfl
set_option maxRecDepth 20000 in
theorem kw_843 : Cond.instanceMethod ⟨"RefitYardModel", "isIn", "(II)Z"⟩ ∈ zT := zT_of 843 rfl rfl
set_option maxRecDepth 20000 in
theorem kw_27 : Cond.selects "RefitYardModel" ⟨"RefitYardModel", "isIn", "(II)Z"⟩ ⟨"RefitYardModel", "isIn", "(II)Z"⟩ ∈ zT := zT_of 27 rfl rfl
theorem mv_X7_116 : zMV RX7 116 mX7_isIn 2 8 25 := ⟨mmX7_isIn, ⟨kw_841, kw_843, kw_27⟩, TX7, rfl, by decide, by decide⟩
theorem zo_2_4 (z : Int) (q0 : ¬ z = 2) (q1 : ¬ z = 3) (q2 : ¬ z = 4) : z < 2 ∨ 4 < z := by omega
set_option maxRecDepth 20000 in
theorem kw_845 : Cond.methodLink "RefitYardModel" (119 : Nat) ⟨"RefitYardModel", "isBarred", "(II)Z"⟩ ∈ zT := zT_of 845 rfl rfl
set_option maxRecDepth 20000 in
theorem kw_847 : Cond.instanceMethod ⟨"RefitYardModel", "isBarred", "(II)Z"⟩ ∈ zT := zT_of 847 rfl rfl
set_option maxRecDepth 20000 in
theorem kw_28 : Cond.selects "RefitYardModel" ⟨"RefitYardModel", "isBarred", "(II)Z"⟩ ⟨"RefitYardModel", "isBarred", "(II)Z"⟩ ∈ zT := zT_of 28 rfl rfl
theorem mv_X7_119 : zMV RX7 119 mX7_isBarred 2 8 25 := ⟨mmX7_isBarred, ⟨kw_845, kw_847, kw_28⟩, TX7, rfl, by decide, by decide⟩
def mX7_isBad : zF := (yX7_isBad, cX7_isBad, 4, (some .boolean))
set_option maxRecDepth 20000 in
theorem kc_821 : Cond.code yX7_isBad cX7_isBad 4 (some .boolean) ∈ zT := zT_of 856 rfl rfl
theorem mmX7_isBad : zMm mX7_isBad 1 := ⟨kw_42, kc_821, by decide +kernel, by decide⟩
set_option maxRecDepth 20000 in
theorem kw_829 : Cond.methodLink "RefitYardModel" (122 : Nat) ⟨"RefitYardModel", "breaks", "(II)I"⟩ ∈ zT := zT_of 829 rfl rfl
set_option maxRecDepth 20000 in
theorem kw_831 : Cond.instanceMethod ⟨"RefitYardModel", "breaks", "(II)I"⟩ ∈ zT := zT_of 831 rfl rfl
set_option maxRecDepth 20000 in
theorem kw_24 : Cond.selects "RefitYardModel" ⟨"RefitYardModel", "breaks", "(II)I"⟩ ⟨"RefitYardModel", "breaks", "(II)I"⟩ ∈ zT := zT_of 24 rfl rfl
theorem mv_X7_122 : zMV RX7 122 mX7_breaks 2 8 25 := ⟨mmX7_breaks, ⟨kw_829, kw_831, kw_24⟩, TX7, rfl, by decide, by decide⟩
def mX7_why : zF := (yX7_why, cX7_why, 5, (some .int))
set_option maxRecDepth 20000 in
theorem kc_793 : Cond.code yX7_why cX7_why 5 (some .int) ∈ zT := zT_of 828 rfl rfl
theorem mmX7_why : zMm mX7_why 1 := ⟨kw_42, kc_793, by decide +kernel, by decide⟩
def mX7_may : zF := (yX7_may, cX7_may, 6, (some .boolean))
set_option maxRecDepth 20000 in
theorem kc_817 : Cond.code yX7_may cX7_may 6 (some .boolean) ∈ zT := zT_of 852 rfl rfl
theorem mmX7_may : zMm mX7_may 2 := ⟨kw_42, kc_817, by decide +kernel, by decide⟩
set_option maxRecDepth 20000 in
theorem kw_853 : Cond.methodLink "RefitYardModel" (126 : Nat) ⟨"RefitYardModel", "isBad", "(I)Z"⟩ ∈ zT := zT_of 853 rfl rfl
set_option maxRecDepth 20000 in
theorem kw_855 : Cond.instanceMethod ⟨"RefitYardModel", "isBad", "(I)Z"⟩ ∈ zT := zT_of 855 rfl rfl
set_option maxRecDepth 20000 in
theorem kw_29 : Cond.selects "RefitYardModel" ⟨"RefitYardModel", "isBad", "(I)Z"⟩ ⟨"RefitYardModel", "isBad", "(I)Z"⟩ ∈ zT := zT_of 29 rfl rfl
theorem mv_X7_126 : zMV RX7 126 mX7_isBad 1 8 25 := ⟨mmX7_isBad, ⟨kw_853, kw_855, kw_29⟩, TX7, rfl, by decide, by decide⟩
def mX7_first : zF := (yX7_first, cX7_first, 4, (some .int))
set_option maxRecDepth 20000 in
theorem kc_825 : Cond.code yX7_first cX7_first 4 (some .int) ∈ zT := zT_of 860 rfl rfl
theorem mmX7_first : zMm mX7_first 2 := ⟨kw_42, kc_825, by decide +kernel, by decide⟩
set_option maxRecDepth 20000 in
theorem kw_861 : Cond.methodLink "RefitYardModel" (129 : Nat) ⟨"RefitYardModel", "may", "(II)Z"⟩ ∈ zT := zT_of 861 rfl rfl
set_option maxRecDepth 20000 in
theorem kw_850 : Cond.instanceMethod ⟨"RefitYardModel", "may", "(II)Z"⟩ ∈ zT := zT_of 850 rfl rfl
set_option maxRecDepth 20000 in
theorem kw_851 : Cond.selects "RefitYardModel" ⟨"RefitYardModel", "may", "(II)Z"⟩ ⟨"RefitYardModel", "may", "(II)Z"⟩ ∈ zT := zT_of 851 rfl rfl
theorem mv_X7_129 : zMV RX7 129 mX7_may 2 8 25 := ⟨mmX7_may, ⟨kw_861, kw_850, kw_851⟩, TX7, rfl, by decide, by decide⟩
def mX7_way : zF := (yX7_way, cX7_way, 4, (some .int))
set_option maxRecDepth 20000 in
theorem kc_834 : Cond.code yX7_way cX7_way 4 (some .int) ∈ zT := zT_of 869 rfl rfl
theorem mmX7_way : zMm mX7_way 0 := ⟨kw_42, kc_834, by decide +kernel, by decide⟩
def mX7_slack : zF := (yX7_slack, cX7_slack, 3, (some .int))
set_option maxRecDepth 20000 in
theorem kc_842 : Cond.code yX7_slack cX7_slack 3 (some .int) ∈ zT := zT_of 877 rfl rfl
theorem mmX7_slack : zMm mX7_slack 2 := ⟨kw_42, kc_842, by decide +kernel, by decide⟩
def mX7_bound : zF := (yX7_bound, cX7_bound, 6, (some .int))
set_option maxRecDepth 20000 in
theorem kc_830 : Cond.code yX7_bound cX7_bound 6 (some .int) ∈ zT := zT_of 865 rfl rfl
theorem mmX7_bound : zMm mX7_bound 0 := ⟨kw_42, kc_830, by decide +kernel, by decide⟩
set_option maxRecDepth 20000 in
theorem kw_866 : Cond.methodLink "RefitYardModel" (132 : Nat) ⟨"RefitYardModel", "way", "()I"⟩ ∈ zT := zT_of 866 rfl rfl
set_option maxRecDepth 20000 in
theorem kw_868 : Cond.instanceMethod ⟨"RefitYardModel", "way", "()I"⟩ ∈ zT := zT_of 868 rfl rfl
set_option maxRecDepth 20000 in
theorem kw_30 : Cond.selects "RefitYardModel" ⟨"RefitYardModel", "way", "()I"⟩ ⟨"RefitYardModel", "way", "()I"⟩ ∈ zT := zT_of 30 rfl rfl
theorem mv_X7_132 : zMV RX7 132 mX7_way 0 8 25 := ⟨mmX7_way, ⟨kw_866, kw_868, kw_30⟩, TX7, rfl, by decide, by decide⟩
def mX7_isReady : zF := (yX7_isReady, cX7_isReady, 4, (some .boolean))
set_option maxRecDepth 20000 in
theorem kc_846 : Cond.code yX7_isReady cX7_isReady 4 (some .boolean) ∈ zT := zT_of 881 rfl rfl
theorem mmX7_isReady : zMm mX7_isReady 1 := ⟨kw_42, kc_846, by decide +kernel, by decide⟩
def mX7_plan : zF := (yX7_plan, cX7_plan, 8, (some .int))
set_option maxRecDepth 20000 in
theorem kc_838 : Cond.code yX7_plan cX7_plan 8 (some .int) ∈ zT := zT_of 873 rfl rfl
theorem mmX7_plan : zMm mX7_plan 0 := ⟨kw_42, kc_838, by decide +kernel, by decide⟩
set_option maxRecDepth 20000 in
theorem kw_874 : Cond.methodLink "RefitYardModel" (136 : Nat) ⟨"RefitYardModel", "slack", "(II)I"⟩ ∈ zT := zT_of 874 rfl rfl
set_option maxRecDepth 20000 in
theorem kw_876 : Cond.instanceMethod ⟨"RefitYardModel", "slack", "(II)I"⟩ ∈ zT := zT_of 876 rfl rfl
set_option maxRecDepth 20000 in
theorem kw_31 : Cond.selects "RefitYardModel" ⟨"RefitYardModel", "slack", "(II)I"⟩ ⟨"RefitYardModel", "slack", "(II)I"⟩ ∈ zT := zT_of 31 rfl rfl
theorem mv_X7_136 : zMV RX7 136 mX7_slack 2 8 25 := ⟨mmX7_slack, ⟨kw_874, kw_876, kw_31⟩, TX7, rfl, by decide, by decide⟩
set_option maxRecDepth 20000 in
theorem kw_882 : Cond.methodLink "RefitYardModel" (142 : Nat) ⟨"RefitYardModel", "first", "(II)I"⟩ ∈ zT := zT_of 882 rfl rfl
set_option maxRecDepth 20000 in
theorem kw_858 : Cond.instanceMethod ⟨"RefitYardModel", "first", "(II)I"⟩ ∈ zT := zT_of 858 rfl rfl
set_option maxRecDepth 20000 in
theorem kw_859 : Cond.selects "RefitYardModel" ⟨"RefitYardModel", "first", "(II)I"⟩ ⟨"RefitYardModel", "first", "(II)I"⟩ ∈ zT := zT_of 859 rfl rfl
theorem mv_X7_142 : zMV RX7 142 mX7_first 2 8 25 := ⟨mmX7_first, ⟨kw_882, kw_858, kw_859⟩, TX7, rfl, by decide, by decide⟩
set_option maxRecDepth 20000 in
theorem kw_878 : Cond.methodLink "RefitYardModel" (139 : Nat) ⟨"RefitYardModel", "isReady", "(I)Z"⟩ ∈ zT := zT_of 878 rfl rfl
set_option maxRecDepth 20000 in
theorem kw_880 : Cond.instanceMethod ⟨"RefitYardModel", "isReady", "(I)Z"⟩ ∈ zT := zT_of 880 rfl rfl
set_option maxRecDepth 20000 in
theorem kw_32 : Cond.selects "RefitYardModel" ⟨"RefitYardModel", "isReady", "(I)Z"⟩ ⟨"RefitYardModel", "isReady", "(I)Z"⟩ ∈ zT := zT_of 32 rfl rfl
theorem mv_X7_139 : zMV RX7 139 mX7_isReady 1 8 25 := ⟨mmX7_isReady, ⟨kw_878, kw_880, kw_32⟩, TX7, rfl, by decide, by decide⟩
def mX7_end : zF := (yX7_end, cX7_end, 3, (some .int))
set_option maxRecDepth 20000 in
theorem kc_851 : Cond.code yX7_end cX7_end 3 (some .int) ∈ zT := zT_of 886 rfl rfl
theorem mmX7_end : zMm mX7_end 0 := ⟨kw_42, kc_851, by decide +kernel, by decide⟩
def mX7_best : zF := (yX7_best, cX7_best, 5, (some .int))
set_option maxRecDepth 20000 in
theorem kc_855 : Cond.code yX7_best cX7_best 5 (some .int) ∈ zT := zT_of 890 rfl rfl
theorem mmX7_best : zMm mX7_best 0 := ⟨kw_42, kc_855, by decide +kernel, by decide⟩
set_option maxRecDepth 20000 in
theorem kw_891 : Cond.methodLink "RefitYardModel" (145 : Nat) ⟨"RefitYardModel", "end", "()I"⟩ ∈ zT := zT_of 891 rfl rfl
set_option maxRecDepth 20000 in
theorem kw_884 : Cond.instanceMethod ⟨"RefitYardModel", "end", "()I"⟩ ∈ zT := zT_of 884 rfl rfl
set_option maxRecDepth 20000 in
theorem kw_885 : Cond.selects "RefitYardModel" ⟨"RefitYardModel", "end", "()I"⟩ ⟨"RefitYardModel", "end", "()I"⟩ ∈ zT := zT_of 885 rfl rfl
theorem mv_X7_145 : zMV RX7 145 mX7_end 0 8 25 := ⟨mmX7_end, ⟨kw_891, kw_884, kw_885⟩, TX7, rfl, by decide, by decide⟩
def mX7_go : zF := (yX7_go, cX7_go, 2, (some .int))
set_option maxRecDepth 20000 in
theorem kc_860 : Cond.code yX7_go cX7_go 2 (some .int) ∈ zT := zT_of 895 rfl rfl
theorem mmX7_go : zMm mX7_go 1 := ⟨kw_42, kc_860, by decide +kernel, by decide⟩
def mX7_fail : zF := (yX7_fail, cX7_fail, 6, (some .int))
set_option maxRecDepth 20000 in
theorem kc_864 : Cond.code yX7_fail cX7_fail 6 (some .int) ∈ zT := zT_of 899 rfl rfl
theorem mmX7_fail : zMm mX7_fail 1 := ⟨kw_42, kc_864, by decide +kernel, by decide⟩
set_option maxRecDepth 20000 in
theorem kw_900 : Cond.methodLink "RefitYardModel" (148 : Nat) ⟨"RefitYardModel", "isDone", "(I)Z"⟩ ∈ zT := zT_of 900 rfl rfl
set_option maxRecDepth 20000 in
theorem kw_902 : Cond.instanceMethod ⟨"RefitYardModel", "isDone", "(I)Z"⟩ ∈ zT := zT_of 902 rfl rfl
set_option maxRecDepth 20000 in
theorem kw_33 : Cond.selects "RefitYardModel" ⟨"RefitYardModel", "isDone", "(I)Z"⟩ ⟨"RefitYardModel", "isDone", "(I)Z"⟩ ∈ zT := zT_of 33 rfl rfl
theorem mv_X7_148 : zMV RX7 148 mX7_isDone 1 8 25 := ⟨mmX7_isDone, ⟨kw_900, kw_902, kw_33⟩, TX7, rfl, by decide, by decide⟩
def mX7_more : zF := (yX7_more, cX7_more, 3, (some .int))
set_option maxRecDepth 20000 in
theorem kc_872 : Cond.code yX7_more cX7_more 3 (some .int) ∈ zT := zT_of 907 rfl rfl
theorem mmX7_more : zMm mX7_more 2 := ⟨kw_42, kc_872, by decide +kernel, by decide⟩
def mX7_stateOf : zF := (yX7_stateOf, cX7_stateOf, 2, (some .int))
set_option maxRecDepth 20000 in
theorem kc_880 : Cond.code yX7_stateOf cX7_stateOf 2 (some .int) ∈ zT := zT_of 915 rfl rfl
theorem mmX7_stateOf : zMm mX7_stateOf 1 := ⟨kw_42, kc_880, by decide +kernel, by decide⟩
def mX7_told : zF := (yX7_told, cX7_told, 6, (some .int))
set_option maxRecDepth 20000 in
theorem kc_876 : Cond.code yX7_told cX7_told 6 (some .int) ∈ zT := zT_of 911 rfl rfl
theorem mmX7_told : zMm mX7_told 2 := ⟨kw_42, kc_876, by decide +kernel, by decide⟩
set_option maxRecDepth 20000 in
theorem kw_912 : Cond.methodLink "RefitYardModel" (151 : Nat) ⟨"RefitYardModel", "stateOf", "(I)I"⟩ ∈ zT := zT_of 912 rfl rfl
set_option maxRecDepth 20000 in
theorem kw_914 : Cond.instanceMethod ⟨"RefitYardModel", "stateOf", "(I)I"⟩ ∈ zT := zT_of 914 rfl rfl
set_option maxRecDepth 20000 in
theorem kw_34 : Cond.selects "RefitYardModel" ⟨"RefitYardModel", "stateOf", "(I)I"⟩ ⟨"RefitYardModel", "stateOf", "(I)I"⟩ ∈ zT := zT_of 34 rfl rfl
theorem mv_X7_151 : zMV RX7 151 mX7_stateOf 1 8 25 := ⟨mmX7_stateOf, ⟨kw_912, kw_914, kw_34⟩, TX7, rfl, by decide, by decide⟩
theorem zo_0_12 (z : Int) (q0 : ¬ z = 0) (q1 : ¬ z = 1) (q2 : ¬ z = 2) (q3 : ¬ z = 3) (q4 : ¬ z = 4) (q5 : ¬ z = 5) (q6 : ¬ z = 6) (q7 : ¬ z = 7) (q8 : ¬ z = 8) (q9 : ¬ z = 9) (q10 : ¬ z = 10) (q11 : ¬ z = 11) (q12 : ¬ z = 12) : z < 0 ∨ 12 < z := by omega
def mX7_load : zF := (yX7_load, cX7_load, 5, (some .int))
set_option maxRecDepth 20000 in
theorem kc_884 : Cond.code yX7_load cX7_load 5 (some .int) ∈ zT := zT_of 919 rfl rfl
theorem mmX7_load : zMm mX7_load 2 := ⟨kw_42, kc_884, by decide +kernel, by decide⟩
def mX7_count : zF := (yX7_count, cX7_count, 4, (some .int))
set_option maxRecDepth 20000 in
theorem kc_888 : Cond.code yX7_count cX7_count 4 (some .int) ∈ zT := zT_of 923 rfl rfl
theorem mmX7_count : zMm mX7_count 1 := ⟨kw_42, kc_888, by decide +kernel, by decide⟩
theorem zo_0_6 (z : Int) (q0 : ¬ z = 0) (q1 : ¬ z = 1) (q2 : ¬ z = 2) (q3 : ¬ z = 3) (q4 : ¬ z = 4) (q5 : ¬ z = 5) (q6 : ¬ z = 6) : z < 0 ∨ 6 < z := by omega
def mX0_init : zF := (yX0_init, cX0_init, 1, none)
set_option maxRecDepth 20000 in
theorem kw_39 : Cond.initialized "RefitYard$Board" ∈ zT := zT_of 39 rfl rfl
set_option maxRecDepth 20000 in
theorem kc_88 : Cond.code yX0_init cX0_init 1 none ∈ zT := zT_of 123 rfl rfl
theorem mmX0_init : zMm mX0_init 0 := ⟨kw_39, kc_88, by decide +kernel, by decide⟩
set_option maxRecDepth 20000 in
theorem kw_124 : Cond.methodLink "RefitYard$Board" (3 : Nat) ⟨"java/lang/Object", "<init>", "()V"⟩ ∈ zT := zT_of 124 rfl rfl
set_option maxRecDepth 20000 in
theorem oi_X0_3 : Cond.methodLink RX0 3 Lib.objectInit ∈ zT ∧ Cond.instanceMethod Lib.objectInit ∈ zT ∧ Cond.code Lib.objectInit ⟨#[0xb1]⟩ 1 none ∈ zT := ⟨kw_124, kw_52, zT_of 53 rfl rfl⟩
set_option maxRecDepth 20000 in
theorem kw_118 : Cond.arrayClass .long ∈ zT := zT_of 118 rfl rfl
set_option maxRecDepth 20000 in
theorem kw_127 : Cond.fieldLink "RefitYard$Board" (9 : Nat) "RefitYard$Board" "within" "[J" ∈ zT := zT_of 127 rfl rfl
set_option maxRecDepth 20000 in
theorem uk_X0 : ∀ k, k < 3 → u_lay RX0 TX0 k ∈ zT
  | 0, _ => zT_of 135 rfl rfl
  | 1, _ => zT_of 137 rfl rfl
  | 2, _ => zT_of 139 rfl rfl
  | n + 3, h => absurd h (by omega)
theorem ui_X0 : ∀ w ∈ u_ws RX0 TX0 3, w ∈ zT := fun w hw => by
  obtain ⟨k, hk, rfl⟩ := List.mem_map.mp hw
  exact uk_X0 k (List.mem_range.mp hk)
theorem fl_X0_9 : zFl RX0 9 1 0 3 (.array .long) true := ⟨RX0, TX0, 0, rfl, by decide, rfl, by decide, ui_X0, kw_127, rfl, tyX0_ok, nmX0, rfl, rfl⟩
set_option maxRecDepth 20000 in
theorem kw_125 : Cond.classLink "RefitYard$Board" (15 : Nat) "[[I" ∈ zT := zT_of 125 rfl rfl
set_option maxRecDepth 20000 in
theorem kw_130 : Cond.fieldLink "RefitYard$Board" (17 : Nat) "RefitYard$Board" "hands" "[[I" ∈ zT := zT_of 130 rfl rfl
theorem fl_X0_17 : zFl RX0 17 1 1 3 (.array (.array .int)) true := ⟨RX0, TX0, 1, rfl, by decide, rfl, by decide, ui_X0, kw_130, rfl, tyX0_ok, nmX0, rfl, rfl⟩
def mX0_lay : zF := (yX0_lay, cX0_lay, 5, none)
set_option maxRecDepth 20000 in
theorem kc_428 : Cond.code yX0_lay cX0_lay 5 none ∈ zT := zT_of 463 rfl rfl
theorem mmX0_lay : zMm mX0_lay 2 := ⟨kw_39, kc_428, by decide +kernel, by decide⟩
set_option maxRecDepth 20000 in
theorem kw_318 : Cond.fieldLink "RefitYard$Board" (20 : Nat) "RefitYard$Work" "shift" "I" ∈ zT := zT_of 318 rfl rfl
theorem fl_X0_20 : zFl RX0 20 6 8 16 .int false := ⟨RX5, TX5, 8, rfl, by decide, rfl, by decide, ui_X5, kw_318, rfl, tyX5_ok, nmX5, rfl, rfl⟩
set_option maxRecDepth 20000 in
theorem kw_290 : Cond.fieldLink "RefitYard$Board" (26 : Nat) "RefitYard$Work" "trade" "I" ∈ zT := zT_of 290 rfl rfl
theorem fl_X0_26 : zFl RX0 26 6 2 16 .int true := ⟨RX5, TX5, 2, rfl, by decide, rfl, by decide, ui_X5, kw_290, rfl, tyX5_ok, nmX5, rfl, rfl⟩
set_option maxRecDepth 20000 in
theorem kw_455 : Cond.methodLink "RefitYard$Board" (29 : Nat) ⟨"RefitYard$Work", "behind", "()I"⟩ ∈ zT := zT_of 455 rfl rfl
theorem mv_X0_29 : zMV RX0 29 mX5_behind 0 6 16 := ⟨mmX5_behind, ⟨kw_455, kw_456, kw_457⟩, TX5, rfl, by decide, by decide⟩
set_option maxRecDepth 20000 in
theorem kw_285 : Cond.fieldLink "RefitYard$Board" (33 : Nat) "RefitYard$Work" "bit" "J" ∈ zT := zT_of 285 rfl rfl
theorem fl_X0_33 : zFl RX0 33 6 1 16 .long true := ⟨RX5, TX5, 1, rfl, by decide, rfl, by decide, ui_X5, kw_285, rfl, tyX5_ok, nmX5, rfl, rfl⟩
set_option maxRecDepth 20000 in
theorem kw_295 : Cond.fieldLink "RefitYard$Board" (37 : Nat) "RefitYard$Work" "hands" "I" ∈ zT := zT_of 295 rfl rfl
theorem fl_X0_37 : zFl RX0 37 6 3 16 .int true := ⟨RX5, TX5, 3, rfl, by decide, rfl, by decide, ui_X5, kw_295, rfl, tyX5_ok, nmX5, rfl, rfl⟩
def mX0_lift : zF := (yX0_lift, cX0_lift, 4, none)
set_option maxRecDepth 20000 in
theorem kc_418 : Cond.code yX0_lift cX0_lift 4 none ∈ zT := zT_of 453 rfl rfl
theorem mmX0_lift : zMm mX0_lift 1 := ⟨kw_39, kc_418, by decide +kernel, by decide⟩
set_option maxRecDepth 20000 in
theorem kw_454 : Cond.methodLink "RefitYard$Board" (39 : Nat) ⟨"RefitYard$Work", "isOpen", "()Z"⟩ ∈ zT := zT_of 454 rfl rfl
theorem mv_X0_39 : zMV RX0 39 mX5_isOpen 0 6 16 := ⟨mmX5_isOpen, ⟨kw_454, kw_433, kw_434⟩, TX5, rfl, by decide, by decide⟩
set_option maxRecDepth 20000 in
theorem kw_459 : Cond.constantLong "RefitYard$Board" (43 : Nat) (-1 : Int64) ∈ zT := zT_of 459 rfl rfl
def mX0_lengthen : zF := (yX0_lengthen, cX0_lengthen, 4, none)
set_option maxRecDepth 20000 in
theorem kc_634 : Cond.code yX0_lengthen cX0_lengthen 4 none ∈ zT := zT_of 669 rfl rfl
theorem mmX0_lengthen : zMm mX0_lengthen 2 := ⟨kw_39, kc_634, by decide +kernel, by decide⟩
set_option maxRecDepth 20000 in
theorem kw_670 : Cond.methodLink "RefitYard$Board" (45 : Nat) ⟨"RefitYard$Board", "lift", "(LRefitYard$Work;)V"⟩ ∈ zT := zT_of 670 rfl rfl
set_option maxRecDepth 20000 in
theorem kw_451 : Cond.instanceMethod ⟨"RefitYard$Board", "lift", "(LRefitYard$Work;)V"⟩ ∈ zT := zT_of 451 rfl rfl
set_option maxRecDepth 20000 in
theorem kw_452 : Cond.selects "RefitYard$Board" ⟨"RefitYard$Board", "lift", "(LRefitYard$Work;)V"⟩ ⟨"RefitYard$Board", "lift", "(LRefitYard$Work;)V"⟩ ∈ zT := zT_of 452 rfl rfl
theorem mv_X0_45 : zMV RX0 45 mX0_lift 1 1 3 := ⟨mmX0_lift, ⟨kw_670, kw_451, kw_452⟩, TX0, rfl, by decide, by decide⟩
set_option maxRecDepth 20000 in
theorem kw_312 : Cond.fieldLink "RefitYard$Board" (49 : Nat) "RefitYard$Work" "length" "I" ∈ zT := zT_of 312 rfl rfl
theorem fl_X0_49 : zFl RX0 49 6 7 16 .int false := ⟨RX5, TX5, 7, rfl, by decide, rfl, by decide, ui_X5, kw_312, rfl, tyX5_ok, nmX5, rfl, rfl⟩
set_option maxRecDepth 20000 in
theorem kw_671 : Cond.methodLink "RefitYard$Board" (52 : Nat) ⟨"RefitYard$Board", "lay", "(LRefitYard$Work;I)V"⟩ ∈ zT := zT_of 671 rfl rfl
set_option maxRecDepth 20000 in
theorem kw_461 : Cond.instanceMethod ⟨"RefitYard$Board", "lay", "(LRefitYard$Work;I)V"⟩ ∈ zT := zT_of 461 rfl rfl
set_option maxRecDepth 20000 in
theorem kw_462 : Cond.selects "RefitYard$Board" ⟨"RefitYard$Board", "lay", "(LRefitYard$Work;I)V"⟩ ⟨"RefitYard$Board", "lay", "(LRefitYard$Work;I)V"⟩ ∈ zT := zT_of 462 rfl rfl
theorem mv_X0_52 : zMV RX0 52 mX0_lay 2 1 3 := ⟨mmX0_lay, ⟨kw_671, kw_461, kw_462⟩, TX0, rfl, by decide, by decide⟩
def mX2_init : zF := (yX2_init, cX2_init, 1, none)
set_option maxRecDepth 20000 in
theorem kw_38 : Cond.initialized "RefitYard$Net" ∈ zT := zT_of 38 rfl rfl
set_option maxRecDepth 20000 in
theorem kc_50 : Cond.code yX2_init cX2_init 1 none ∈ zT := zT_of 85 rfl rfl
theorem mmX2_init : zMm mX2_init 0 := ⟨kw_38, kc_50, by decide +kernel, by decide⟩
set_option maxRecDepth 20000 in
theorem kw_86 : Cond.methodLink "RefitYard$Net" (3 : Nat) ⟨"java/lang/Object", "<init>", "()V"⟩ ∈ zT := zT_of 86 rfl rfl
set_option maxRecDepth 20000 in
theorem oi_X2_3 : Cond.methodLink RX2 3 Lib.objectInit ∈ zT ∧ Cond.instanceMethod Lib.objectInit ∈ zT ∧ Cond.code Lib.objectInit ⟨#[0xb1]⟩ 1 none ∈ zT := ⟨kw_86, kw_52, zT_of 53 rfl rfl⟩
set_option maxRecDepth 20000 in
theorem kw_87 : Cond.classLink "RefitYard$Net" (9 : Nat) "RefitYard$Work" ∈ zT := zT_of 87 rfl rfl
set_option maxRecDepth 20000 in
theorem kw_89 : Cond.fieldLink "RefitYard$Net" (11 : Nat) "RefitYard$Net" "works" "[LRefitYard$Work;" ∈ zT := zT_of 89 rfl rfl
set_option maxRecDepth 20000 in
theorem uk_X2 : ∀ k, k < 6 → u_lay RX2 TX2 k ∈ zT
  | 0, _ => zT_of 105 rfl rfl
  | 1, _ => zT_of 107 rfl rfl
  | 2, _ => zT_of 109 rfl rfl
  | 3, _ => zT_of 111 rfl rfl
  | 4, _ => zT_of 113 rfl rfl
  | 5, _ => zT_of 115 rfl rfl
  | n + 6, h => absurd h (by omega)
theorem ui_X2 : ∀ w ∈ u_ws RX2 TX2 6, w ∈ zT := fun w hw => by
  obtain ⟨k, hk, rfl⟩ := List.mem_map.mp hw
  exact uk_X2 k (List.mem_range.mp hk)
theorem fl_X2_11 : zFl RX2 11 3 0 6 (.array (.object "RefitYard$Work")) true := ⟨RX2, TX2, 0, rfl, by decide, rfl, by decide, ui_X2, kw_89, rfl, tyX2_ok, nmX2, rfl, rfl⟩
set_option maxRecDepth 20000 in
theorem kw_93 : Cond.fieldLink "RefitYard$Net" (17 : Nat) "RefitYard$Net" "ranked" "[I" ∈ zT := zT_of 93 rfl rfl
theorem fl_X2_17 : zFl RX2 17 3 1 6 (.array .int) true := ⟨RX2, TX2, 1, rfl, by decide, rfl, by decide, ui_X2, kw_93, rfl, tyX2_ok, nmX2, rfl, rfl⟩
set_option maxRecDepth 20000 in
theorem kw_94 : Cond.fieldLink "RefitYard$Net" (21 : Nat) "RefitYard$Net" "takers" "[J" ∈ zT := zT_of 94 rfl rfl
theorem fl_X2_21 : zFl RX2 21 3 2 6 (.array .long) true := ⟨RX2, TX2, 2, rfl, by decide, rfl, by decide, ui_X2, kw_94, rfl, tyX2_ok, nmX2, rfl, rfl⟩
set_option maxRecDepth 20000 in
theorem kw_97 : Cond.fieldLink "RefitYard$Net" (25 : Nat) "RefitYard$Net" "dwellers" "[J" ∈ zT := zT_of 97 rfl rfl
theorem fl_X2_25 : zFl RX2 25 3 3 6 (.array .long) true := ⟨RX2, TX2, 3, rfl, by decide, rfl, by decide, ui_X2, kw_97, rfl, tyX2_ok, nmX2, rfl, rfl⟩
def mX2_find : zF := (yX2_find, cX2_find, 2, (some (.object "RefitYard$Work")))
set_option maxRecDepth 20000 in
theorem kc_384 : Cond.code yX2_find cX2_find 2 (some (.object "RefitYard$Work")) ∈ zT := zT_of 419 rfl rfl
theorem mmX2_find : zMm mX2_find 1 := ⟨kw_38, kc_384, by decide +kernel, by decide⟩
set_option maxRecDepth 20000 in
theorem kw_99 : Cond.fieldLink "RefitYard$Net" (28 : Nat) "RefitYard$Net" "size" "I" ∈ zT := zT_of 99 rfl rfl
theorem fl_X2_28 : zFl RX2 28 3 4 6 .int false := ⟨RX2, TX2, 4, rfl, by decide, rfl, by decide, ui_X2, kw_99, rfl, tyX2_ok, nmX2, rfl, rfl⟩
def mX2_addWork : zF := (yX2_addWork, cX2_addWork, 2, none)
set_option maxRecDepth 20000 in
theorem kc_343 : Cond.code yX2_addWork cX2_addWork 2 none ∈ zT := zT_of 378 rfl rfl
theorem mmX2_addWork : zMm mX2_addWork 1 := ⟨kw_38, kc_343, by decide +kernel, by decide⟩
set_option maxRecDepth 20000 in
theorem kw_300 : Cond.fieldLink "RefitYard$Net" (32 : Nat) "RefitYard$Work" "space" "I" ∈ zT := zT_of 300 rfl rfl
theorem fl_X2_32 : zFl RX2 32 6 4 16 .int true := ⟨RX5, TX5, 4, rfl, by decide, rfl, by decide, ui_X5, kw_300, rfl, tyX5_ok, nmX5, rfl, rfl⟩
set_option maxRecDepth 20000 in
theorem kw_286 : Cond.fieldLink "RefitYard$Net" (35 : Nat) "RefitYard$Work" "bit" "J" ∈ zT := zT_of 286 rfl rfl
theorem fl_X2_35 : zFl RX2 35 6 1 16 .long true := ⟨RX5, TX5, 1, rfl, by decide, rfl, by decide, ui_X5, kw_286, rfl, tyX5_ok, nmX5, rfl, rfl⟩
set_option maxRecDepth 20000 in
theorem kw_308 : Cond.fieldLink "RefitYard$Net" (39 : Nat) "RefitYard$Work" "good" "I" ∈ zT := zT_of 308 rfl rfl
theorem fl_X2_39 : zFl RX2 39 6 6 16 .int true := ⟨RX5, TX5, 6, rfl, by decide, rfl, by decide, ui_X5, kw_308, rfl, tyX5_ok, nmX5, rfl, rfl⟩
def mX2_weigh : zF := (yX2_weigh, cX2_weigh, 2, none)
set_option maxRecDepth 20000 in
theorem kc_347 : Cond.code yX2_weigh cX2_weigh 2 none ∈ zT := zT_of 382 rfl rfl
theorem mmX2_weigh : zMm mX2_weigh 0 := ⟨kw_38, kc_347, by decide +kernel, by decide⟩
set_option maxRecDepth 20000 in
theorem kw_379 : Cond.methodLink "RefitYard$Net" (42 : Nat) ⟨"RefitYard$Net", "weigh", "()V"⟩ ∈ zT := zT_of 379 rfl rfl
set_option maxRecDepth 20000 in
theorem kw_380 : Cond.instanceMethod ⟨"RefitYard$Net", "weigh", "()V"⟩ ∈ zT := zT_of 380 rfl rfl
set_option maxRecDepth 20000 in
theorem kw_381 : Cond.selects "RefitYard$Net" ⟨"RefitYard$Net", "weigh", "()V"⟩ ⟨"RefitYard$Net", "weigh", "()V"⟩ ∈ zT := zT_of 381 rfl rfl
theorem mv_X2_42 : zMV RX2 42 mX2_weigh 0 3 6 := ⟨mmX2_weigh, ⟨kw_379, kw_380, kw_381⟩, TX2, rfl, by decide, by decide⟩
def mX2_link : zF := (yX2_link, cX2_link, 7, none)
set_option maxRecDepth 20000 in
theorem kc_405 : Cond.code yX2_link cX2_link 7 none ∈ zT := zT_of 440 rfl rfl
theorem mmX2_link : zMm mX2_link 2 := ⟨kw_38, kc_405, by decide +kernel, by decide⟩
set_option maxRecDepth 20000 in
theorem kw_330 : Cond.fieldLink "RefitYard$Net" (45 : Nat) "RefitYard$Work" "needs" "J" ∈ zT := zT_of 330 rfl rfl
theorem fl_X2_45 : zFl RX2 45 6 12 16 .long false := ⟨RX5, TX5, 12, rfl, by decide, rfl, by decide, ui_X5, kw_330, rfl, tyX5_ok, nmX5, rfl, rfl⟩
set_option maxRecDepth 20000 in
theorem kw_333 : Cond.fieldLink "RefitYard$Net" (48 : Nat) "RefitYard$Work" "under" "J" ∈ zT := zT_of 333 rfl rfl
theorem fl_X2_48 : zFl RX2 48 6 13 16 .long false := ⟨RX5, TX5, 13, rfl, by decide, rfl, by decide, ui_X5, kw_333, rfl, tyX5_ok, nmX5, rfl, rfl⟩
set_option maxRecDepth 20000 in
theorem kw_441 : Cond.methodLink "RefitYard$Net" (51 : Nat) ⟨"RefitYard$Work", "hangsOn", "(LRefitYard$Work;)Z"⟩ ∈ zT := zT_of 441 rfl rfl
set_option maxRecDepth 20000 in
theorem kw_425 : Cond.instanceMethod ⟨"RefitYard$Work", "hangsOn", "(LRefitYard$Work;)Z"⟩ ∈ zT := zT_of 425 rfl rfl
set_option maxRecDepth 20000 in
theorem kw_426 : Cond.selects "RefitYard$Work" ⟨"RefitYard$Work", "hangsOn", "(LRefitYard$Work;)Z"⟩ ⟨"RefitYard$Work", "hangsOn", "(LRefitYard$Work;)Z"⟩ ∈ zT := zT_of 426 rfl rfl
theorem mv_X2_51 : zMV RX2 51 mX5_hangsOn 1 6 16 := ⟨mmX5_hangsOn, ⟨kw_441, kw_425, kw_426⟩, TX5, rfl, by decide, by decide⟩
def mX2_rank : zF := (yX2_rank, cX2_rank, 4, none)
set_option maxRecDepth 20000 in
theorem kc_351 : Cond.code yX2_rank cX2_rank 4 none ∈ zT := zT_of 386 rfl rfl
theorem mmX2_rank : zMm mX2_rank 0 := ⟨kw_38, kc_351, by decide +kernel, by decide⟩
set_option maxRecDepth 20000 in
theorem kw_383 : Cond.methodLink "RefitYard$Net" (55 : Nat) ⟨"RefitYard$Net", "rank", "()V"⟩ ∈ zT := zT_of 383 rfl rfl
set_option maxRecDepth 20000 in
theorem kw_385 : Cond.instanceMethod ⟨"RefitYard$Net", "rank", "()V"⟩ ∈ zT := zT_of 385 rfl rfl
set_option maxRecDepth 20000 in
theorem kw_2 : Cond.selects "RefitYard$Net" ⟨"RefitYard$Net", "rank", "()V"⟩ ⟨"RefitYard$Net", "rank", "()V"⟩ ∈ zT := zT_of 2 rfl rfl
theorem mv_X2_55 : zMV RX2 55 mX2_rank 0 3 6 := ⟨mmX2_rank, ⟨kw_383, kw_385, kw_2⟩, TX2, rfl, by decide, by decide⟩
set_option maxRecDepth 20000 in
theorem kw_324 : Cond.fieldLink "RefitYard$Net" (58 : Nat) "RefitYard$Work" "early" "I" ∈ zT := zT_of 324 rfl rfl
theorem fl_X2_58 : zFl RX2 58 6 10 16 .int false := ⟨RX5, TX5, 10, rfl, by decide, rfl, by decide, ui_X5, kw_324, rfl, tyX5_ok, nmX5, rfl, rfl⟩
set_option maxRecDepth 20000 in
theorem kw_327 : Cond.fieldLink "RefitYard$Net" (61 : Nat) "RefitYard$Work" "tail" "I" ∈ zT := zT_of 327 rfl rfl
theorem fl_X2_61 : zFl RX2 61 6 11 16 .int false := ⟨RX5, TX5, 11, rfl, by decide, rfl, by decide, ui_X5, kw_327, rfl, tyX5_ok, nmX5, rfl, rfl⟩
def mX2_pushEarly : zF := (yX2_pushEarly, cX2_pushEarly, 4, none)
set_option maxRecDepth 20000 in
theorem kc_361 : Cond.code yX2_pushEarly cX2_pushEarly 4 none ∈ zT := zT_of 396 rfl rfl
theorem mmX2_pushEarly : zMm mX2_pushEarly 1 := ⟨kw_38, kc_361, by decide +kernel, by decide⟩
set_option maxRecDepth 20000 in
theorem kw_393 : Cond.methodLink "RefitYard$Net" (64 : Nat) ⟨"RefitYard$Net", "pushEarly", "(LRefitYard$Work;)V"⟩ ∈ zT := zT_of 393 rfl rfl
set_option maxRecDepth 20000 in
theorem kw_395 : Cond.instanceMethod ⟨"RefitYard$Net", "pushEarly", "(LRefitYard$Work;)V"⟩ ∈ zT := zT_of 395 rfl rfl
set_option maxRecDepth 20000 in
theorem kw_3 : Cond.selects "RefitYard$Net" ⟨"RefitYard$Net", "pushEarly", "(LRefitYard$Work;)V"⟩ ⟨"RefitYard$Net", "pushEarly", "(LRefitYard$Work;)V"⟩ ∈ zT := zT_of 3 rfl rfl
theorem mv_X2_64 : zMV RX2 64 mX2_pushEarly 1 3 6 := ⟨mmX2_pushEarly, ⟨kw_393, kw_395, kw_3⟩, TX2, rfl, by decide, by decide⟩
set_option maxRecDepth 20000 in
theorem kw_103 : Cond.fieldLink "RefitYard$Net" (71 : Nat) "RefitYard$Net" "way" "I" ∈ zT := zT_of 103 rfl rfl
theorem fl_X2_71 : zFl RX2 71 3 5 6 .int false := ⟨RX2, TX2, 5, rfl, by decide, rfl, by decide, ui_X2, kw_103, rfl, tyX2_ok, nmX2, rfl, rfl⟩
def mX2_pushTail : zF := (yX2_pushTail, cX2_pushTail, 4, none)
set_option maxRecDepth 20000 in
theorem kc_372 : Cond.code yX2_pushTail cX2_pushTail 4 none ∈ zT := zT_of 407 rfl rfl
theorem mmX2_pushTail : zMm mX2_pushTail 1 := ⟨kw_38, kc_372, by decide +kernel, by decide⟩
set_option maxRecDepth 20000 in
theorem kw_404 : Cond.methodLink "RefitYard$Net" (68 : Nat) ⟨"RefitYard$Net", "pushTail", "(LRefitYard$Work;)V"⟩ ∈ zT := zT_of 404 rfl rfl
set_option maxRecDepth 20000 in
theorem kw_406 : Cond.instanceMethod ⟨"RefitYard$Net", "pushTail", "(LRefitYard$Work;)V"⟩ ∈ zT := zT_of 406 rfl rfl
set_option maxRecDepth 20000 in
theorem kw_4 : Cond.selects "RefitYard$Net" ⟨"RefitYard$Net", "pushTail", "(LRefitYard$Work;)V"⟩ ⟨"RefitYard$Net", "pushTail", "(LRefitYard$Work;)V"⟩ ∈ zT := zT_of 4 rfl rfl
theorem mv_X2_68 : zMV RX2 68 mX2_pushTail 1 3 6 := ⟨mmX2_pushTail, ⟨kw_404, kw_406, kw_4⟩, TX2, rfl, by decide, by decide⟩
set_option maxRecDepth 20000 in
theorem kw_408 : Cond.methodLink "RefitYard$Net" (74 : Nat) ⟨"RefitYard$Work", "wholeWay", "()I"⟩ ∈ zT := zT_of 408 rfl rfl
set_option maxRecDepth 20000 in
theorem kw_409 : Cond.instanceMethod ⟨"RefitYard$Work", "wholeWay", "()I"⟩ ∈ zT := zT_of 409 rfl rfl
set_option maxRecDepth 20000 in
theorem kw_410 : Cond.selects "RefitYard$Work" ⟨"RefitYard$Work", "wholeWay", "()I"⟩ ⟨"RefitYard$Work", "wholeWay", "()I"⟩ ∈ zT := zT_of 410 rfl rfl
theorem mv_X2_74 : zMV RX2 74 mX5_wholeWay 0 6 16 := ⟨mmX5_wholeWay, ⟨kw_408, kw_409, kw_410⟩, TX5, rfl, by decide, by decide⟩
set_option maxRecDepth 20000 in
theorem kw_401 : Cond.methodLink "RefitYard$Net" (78 : Nat) ⟨"java/lang/Math", "max", "(II)I"⟩ ∈ zT := zT_of 401 rfl rfl
set_option maxRecDepth 20000 in
theorem kw_402 : Cond.static ⟨"java/lang/Math", "max", "(II)I"⟩ ∈ zT := zT_of 402 rfl rfl
set_option maxRecDepth 20000 in
theorem kw_45 : Cond.initialized "java/lang/Math" ∈ zT := zT_of 45 rfl rfl
set_option maxRecDepth 20000 in
theorem mm_X2_78 : Cond.methodLink RX2 78 Lib.Math.max.name ∈ zT ∧ Cond.static Lib.Math.max.name ∈ zT ∧ Cond.initialized "java/lang/Math" ∈ zT ∧ Cond.code Lib.Math.max.name Lib.Math.max.code 2 (some .int) ∈ zT := ⟨kw_401, kw_402, kw_45, zT_of 403 rfl rfl⟩
set_option maxRecDepth 20000 in
theorem kw_387 : Cond.methodLink "RefitYard$Net" (84 : Nat) ⟨"java/lang/Long", "bitCount", "(J)I"⟩ ∈ zT := zT_of 387 rfl rfl
set_option maxRecDepth 20000 in
theorem kw_388 : Cond.static ⟨"java/lang/Long", "bitCount", "(J)I"⟩ ∈ zT := zT_of 388 rfl rfl
theorem ms_X2_84 : zMS RX2 84 mJ13_bitCount_95d88 1 := ⟨mmJ13_bitCount_95d88, kw_387, kw_388⟩
set_option maxRecDepth 20000 in
theorem kw_397 : Cond.methodLink "RefitYard$Net" (90 : Nat) ⟨"RefitYard$Work", "leansOn", "(LRefitYard$Work;)Z"⟩ ∈ zT := zT_of 397 rfl rfl
set_option maxRecDepth 20000 in
theorem kw_398 : Cond.instanceMethod ⟨"RefitYard$Work", "leansOn", "(LRefitYard$Work;)Z"⟩ ∈ zT := zT_of 398 rfl rfl
set_option maxRecDepth 20000 in
theorem kw_399 : Cond.selects "RefitYard$Work" ⟨"RefitYard$Work", "leansOn", "(LRefitYard$Work;)Z"⟩ ⟨"RefitYard$Work", "leansOn", "(LRefitYard$Work;)Z"⟩ ∈ zT := zT_of 399 rfl rfl
theorem mv_X2_90 : zMV RX2 90 mX5_leansOn 1 6 16 := ⟨mmX5_leansOn, ⟨kw_397, kw_398, kw_399⟩, TX5, rfl, by decide, by decide⟩
set_option maxRecDepth 20000 in
theorem kw_314 : Cond.fieldLink "RefitYard$Net" (93 : Nat) "RefitYard$Work" "length" "I" ∈ zT := zT_of 314 rfl rfl
theorem fl_X2_93 : zFl RX2 93 6 7 16 .int false := ⟨RX5, TX5, 7, rfl, by decide, rfl, by decide, ui_X5, kw_314, rfl, tyX5_ok, nmX5, rfl, rfl⟩
def mX2_slackOf : zF := (yX2_slackOf, cX2_slackOf, 2, (some .int))
set_option maxRecDepth 20000 in
theorem kc_521 : Cond.code yX2_slackOf cX2_slackOf 2 (some .int) ∈ zT := zT_of 556 rfl rfl
theorem mmX2_slackOf : zMm mX2_slackOf 1 := ⟨kw_38, kc_521, by decide +kernel, by decide⟩
def mX2_allThatArePut : zF := (yX2_allThatArePut, cX2_allThatArePut, 4, (some .long))
set_option maxRecDepth 20000 in
theorem kc_538 : Cond.code yX2_allThatArePut cX2_allThatArePut 4 (some .long) ∈ zT := zT_of 573 rfl rfl
theorem mmX2_allThatArePut : zMm mX2_allThatArePut 0 := ⟨kw_38, kc_538, by decide +kernel, by decide⟩
set_option maxRecDepth 20000 in
theorem kw_485 : Cond.methodLink "RefitYard$Net" (96 : Nat) ⟨"RefitYard$Work", "isOpen", "()Z"⟩ ∈ zT := zT_of 485 rfl rfl
theorem mv_X2_96 : zMV RX2 96 mX5_isOpen 0 6 16 := ⟨mmX5_isOpen, ⟨kw_485, kw_433, kw_434⟩, TX5, rfl, by decide, by decide⟩
def mX2_allDone : zF := (yX2_allDone, cX2_allDone, 5, (some .long))
set_option maxRecDepth 20000 in
theorem kc_621 : Cond.code yX2_allDone cX2_allDone 5 (some .long) ∈ zT := zT_of 656 rfl rfl
theorem mmX2_allDone : zMm mX2_allDone 1 := ⟨kw_38, kc_621, by decide +kernel, by decide⟩
set_option maxRecDepth 20000 in
theorem kw_657 : Cond.methodLink "RefitYard$Net" (100 : Nat) ⟨"RefitYard$Work", "isDone", "(I)Z"⟩ ∈ zT := zT_of 657 rfl rfl
set_option maxRecDepth 20000 in
theorem kw_549 : Cond.instanceMethod ⟨"RefitYard$Work", "isDone", "(I)Z"⟩ ∈ zT := zT_of 549 rfl rfl
set_option maxRecDepth 20000 in
theorem kw_550 : Cond.selects "RefitYard$Work" ⟨"RefitYard$Work", "isDone", "(I)Z"⟩ ⟨"RefitYard$Work", "isDone", "(I)Z"⟩ ∈ zT := zT_of 550 rfl rfl
theorem mv_X2_100 : zMV RX2 100 mX5_isDone 1 6 16 := ⟨mmX5_isDone, ⟨kw_657, kw_549, kw_550⟩, TX5, rfl, by decide, by decide⟩
def mX2_mostPressing : zF := (yX2_mostPressing, cX2_mostPressing, 9, (some (.object "RefitYard$Work")))
set_option maxRecDepth 20000 in
theorem kc_534 : Cond.code yX2_mostPressing cX2_mostPressing 9 (some (.object "RefitYard$Work")) ∈ zT := zT_of 569 rfl rfl
theorem mmX2_mostPressing : zMm mX2_mostPressing 1 := ⟨kw_38, kc_534, by decide +kernel, by decide⟩
set_option maxRecDepth 20000 in
theorem kw_570 : Cond.methodLink "RefitYard$Net" (104 : Nat) ⟨"RefitYard$Net", "allThatArePut", "()J"⟩ ∈ zT := zT_of 570 rfl rfl
set_option maxRecDepth 20000 in
theorem kw_571 : Cond.instanceMethod ⟨"RefitYard$Net", "allThatArePut", "()J"⟩ ∈ zT := zT_of 571 rfl rfl
set_option maxRecDepth 20000 in
theorem kw_572 : Cond.selects "RefitYard$Net" ⟨"RefitYard$Net", "allThatArePut", "()J"⟩ ⟨"RefitYard$Net", "allThatArePut", "()J"⟩ ∈ zT := zT_of 572 rfl rfl
theorem mv_X2_104 : zMV RX2 104 mX2_allThatArePut 0 3 6 := ⟨mmX2_allThatArePut, ⟨kw_570, kw_571, kw_572⟩, TX2, rfl, by decide, by decide⟩
set_option maxRecDepth 20000 in
theorem kw_579 : Cond.methodLink "RefitYard$Net" (112 : Nat) ⟨"RefitYard$Net", "slackOf", "(LRefitYard$Work;)I"⟩ ∈ zT := zT_of 579 rfl rfl
set_option maxRecDepth 20000 in
theorem kw_554 : Cond.instanceMethod ⟨"RefitYard$Net", "slackOf", "(LRefitYard$Work;)I"⟩ ∈ zT := zT_of 554 rfl rfl
set_option maxRecDepth 20000 in
theorem kw_555 : Cond.selects "RefitYard$Net" ⟨"RefitYard$Net", "slackOf", "(LRefitYard$Work;)I"⟩ ⟨"RefitYard$Net", "slackOf", "(LRefitYard$Work;)I"⟩ ∈ zT := zT_of 555 rfl rfl
theorem mv_X2_112 : zMV RX2 112 mX2_slackOf 1 3 6 := ⟨mmX2_slackOf, ⟨kw_579, kw_554, kw_555⟩, TX2, rfl, by decide, by decide⟩
set_option maxRecDepth 20000 in
theorem kw_574 : Cond.methodLink "RefitYard$Net" (108 : Nat) ⟨"RefitYard$Work", "isReady", "(J)Z"⟩ ∈ zT := zT_of 574 rfl rfl
set_option maxRecDepth 20000 in
theorem kw_575 : Cond.instanceMethod ⟨"RefitYard$Work", "isReady", "(J)Z"⟩ ∈ zT := zT_of 575 rfl rfl
set_option maxRecDepth 20000 in
theorem kw_576 : Cond.selects "RefitYard$Work" ⟨"RefitYard$Work", "isReady", "(J)Z"⟩ ⟨"RefitYard$Work", "isReady", "(J)Z"⟩ ∈ zT := zT_of 576 rfl rfl
theorem mv_X2_108 : zMV RX2 108 mX5_isReady 1 6 16 := ⟨mmX5_isReady, ⟨kw_574, kw_575, kw_576⟩, TX5, rfl, by decide, by decide⟩
def mX2_readyFrom : zF := (yX2_readyFrom, cX2_readyFrom, 5, (some .int))
set_option maxRecDepth 20000 in
theorem kc_458 : Cond.code yX2_readyFrom cX2_readyFrom 5 (some .int) ∈ zT := zT_of 493 rfl rfl
theorem mmX2_readyFrom : zMm mX2_readyFrom 1 := ⟨kw_38, kc_458, by decide +kernel, by decide⟩
set_option maxRecDepth 20000 in
theorem kw_494 : Cond.methodLink "RefitYard$Net" (116 : Nat) ⟨"RefitYard$Work", "behind", "()I"⟩ ∈ zT := zT_of 494 rfl rfl
theorem mv_X2_116 : zMV RX2 116 mX5_behind 0 6 16 := ⟨mmX5_behind, ⟨kw_494, kw_456, kw_457⟩, TX5, rfl, by decide, by decide⟩
def mX2_dueBy : zF := (yX2_dueBy, cX2_dueBy, 5, (some .int))
set_option maxRecDepth 20000 in
theorem kc_449 : Cond.code yX2_dueBy cX2_dueBy 5 (some .int) ∈ zT := zT_of 484 rfl rfl
theorem mmX2_dueBy : zMm mX2_dueBy 1 := ⟨kw_38, kc_449, by decide +kernel, by decide⟩
set_option maxRecDepth 20000 in
theorem kw_321 : Cond.fieldLink "RefitYard$Net" (119 : Nat) "RefitYard$Work" "shift" "I" ∈ zT := zT_of 321 rfl rfl
theorem fl_X2_119 : zFl RX2 119 6 8 16 .int false := ⟨RX5, TX5, 8, rfl, by decide, rfl, by decide, ui_X5, kw_321, rfl, tyX5_ok, nmX5, rfl, rfl⟩
set_option maxRecDepth 20000 in
theorem kw_486 : Cond.methodLink "RefitYard$Net" (122 : Nat) ⟨"java/lang/Math", "min", "(II)I"⟩ ∈ zT := zT_of 486 rfl rfl
set_option maxRecDepth 20000 in
theorem kw_487 : Cond.static ⟨"java/lang/Math", "min", "(II)I"⟩ ∈ zT := zT_of 487 rfl rfl
set_option maxRecDepth 20000 in
theorem mm_X2_122 : Cond.methodLink RX2 122 Lib.Math.min.name ∈ zT ∧ Cond.static Lib.Math.min.name ∈ zT ∧ Cond.initialized "java/lang/Math" ∈ zT ∧ Cond.code Lib.Math.min.name Lib.Math.min.code 2 (some .int) ∈ zT := ⟨kw_486, kw_487, kw_45, zT_of 488 rfl rfl⟩
def mX2_openedWith : zF := (yX2_openedWith, cX2_openedWith, 8, (some .long))
set_option maxRecDepth 20000 in
theorem kc_617 : Cond.code yX2_openedWith cX2_openedWith 8 (some .long) ∈ zT := zT_of 652 rfl rfl
theorem mmX2_openedWith : zMm mX2_openedWith 2 := ⟨kw_38, kc_617, by decide +kernel, by decide⟩
set_option maxRecDepth 20000 in
theorem kw_653 : Cond.methodLink "RefitYard$Net" (125 : Nat) ⟨"RefitYard$Net", "allDone", "(I)J"⟩ ∈ zT := zT_of 653 rfl rfl
set_option maxRecDepth 20000 in
theorem kw_654 : Cond.instanceMethod ⟨"RefitYard$Net", "allDone", "(I)J"⟩ ∈ zT := zT_of 654 rfl rfl
set_option maxRecDepth 20000 in
theorem kw_655 : Cond.selects "RefitYard$Net" ⟨"RefitYard$Net", "allDone", "(I)J"⟩ ⟨"RefitYard$Net", "allDone", "(I)J"⟩ ∈ zT := zT_of 655 rfl rfl
theorem mv_X2_125 : zMV RX2 125 mX2_allDone 1 3 6 := ⟨mmX2_allDone, ⟨kw_653, kw_654, kw_655⟩, TX2, rfl, by decide, by decide⟩
set_option maxRecDepth 20000 in
theorem kw_336 : Cond.fieldLink "RefitYard$Net" (129 : Nat) "RefitYard$Work" "toldOf" "J" ∈ zT := zT_of 336 rfl rfl
theorem fl_X2_129 : zFl RX2 129 6 14 16 .long false := ⟨RX5, TX5, 14, rfl, by decide, rfl, by decide, ui_X5, kw_336, rfl, tyX5_ok, nmX5, rfl, rfl⟩
def mX2_needersOf : zF := (yX2_needersOf, cX2_needersOf, 6, (some .long))
set_option maxRecDepth 20000 in
theorem kc_626 : Cond.code yX2_needersOf cX2_needersOf 6 (some .long) ∈ zT := zT_of 661 rfl rfl
theorem mmX2_needersOf : zMm mX2_needersOf 1 := ⟨kw_38, kc_626, by decide +kernel, by decide⟩
set_option maxRecDepth 20000 in
theorem kw_658 : Cond.methodLink "RefitYard$Net" (132 : Nat) ⟨"RefitYard$Net", "needersOf", "(J)J"⟩ ∈ zT := zT_of 658 rfl rfl
set_option maxRecDepth 20000 in
theorem kw_660 : Cond.instanceMethod ⟨"RefitYard$Net", "needersOf", "(J)J"⟩ ∈ zT := zT_of 660 rfl rfl
set_option maxRecDepth 20000 in
theorem kw_18 : Cond.selects "RefitYard$Net" ⟨"RefitYard$Net", "needersOf", "(J)J"⟩ ⟨"RefitYard$Net", "needersOf", "(J)J"⟩ ∈ zT := zT_of 18 rfl rfl
theorem mv_X2_132 : zMV RX2 132 mX2_needersOf 1 3 6 := ⟨mmX2_needersOf, ⟨kw_658, kw_660, kw_18⟩, TX2, rfl, by decide, by decide⟩
def mX2_askedOfTrade : zF := (yX2_askedOfTrade, cX2_askedOfTrade, 4, (some .int))
set_option maxRecDepth 20000 in
theorem kc_586 : Cond.code yX2_askedOfTrade cX2_askedOfTrade 4 (some .int) ∈ zT := zT_of 621 rfl rfl
theorem mmX2_askedOfTrade : zMm mX2_askedOfTrade 1 := ⟨kw_38, kc_586, by decide +kernel, by decide⟩
set_option maxRecDepth 20000 in
theorem kw_293 : Cond.fieldLink "RefitYard$Net" (136 : Nat) "RefitYard$Work" "trade" "I" ∈ zT := zT_of 293 rfl rfl
theorem fl_X2_136 : zFl RX2 136 6 2 16 .int true := ⟨RX5, TX5, 2, rfl, by decide, rfl, by decide, ui_X5, kw_293, rfl, tyX5_ok, nmX5, rfl, rfl⟩
set_option maxRecDepth 20000 in
theorem kw_298 : Cond.fieldLink "RefitYard$Net" (139 : Nat) "RefitYard$Work" "hands" "I" ∈ zT := zT_of 298 rfl rfl
theorem fl_X2_139 : zFl RX2 139 6 3 16 .int true := ⟨RX5, TX5, 3, rfl, by decide, rfl, by decide, ui_X5, kw_298, rfl, tyX5_ok, nmX5, rfl, rfl⟩
def mX2_askedOfGood : zF := (yX2_askedOfGood, cX2_askedOfGood, 2, (some .int))
set_option maxRecDepth 20000 in
theorem kc_596 : Cond.code yX2_askedOfGood cX2_askedOfGood 2 (some .int) ∈ zT := zT_of 631 rfl rfl
theorem mmX2_askedOfGood : zMm mX2_askedOfGood 1 := ⟨kw_38, kc_596, by decide +kernel, by decide⟩
def mX2_lengthOf : zF := (yX2_lengthOf, cX2_lengthOf, 5, (some .int))
set_option maxRecDepth 20000 in
theorem kc_600 : Cond.code yX2_lengthOf cX2_lengthOf 5 (some .int) ∈ zT := zT_of 635 rfl rfl
theorem mmX2_lengthOf : zMm mX2_lengthOf 1 := ⟨kw_38, kc_600, by decide +kernel, by decide⟩
set_option maxRecDepth 20000 in
theorem kw_632 : Cond.methodLink "RefitYard$Net" (142 : Nat) ⟨"RefitYard$Net", "lengthOf", "(J)I"⟩ ∈ zT := zT_of 632 rfl rfl
set_option maxRecDepth 20000 in
theorem kw_634 : Cond.instanceMethod ⟨"RefitYard$Net", "lengthOf", "(J)I"⟩ ∈ zT := zT_of 634 rfl rfl
set_option maxRecDepth 20000 in
theorem kw_17 : Cond.selects "RefitYard$Net" ⟨"RefitYard$Net", "lengthOf", "(J)I"⟩ ⟨"RefitYard$Net", "lengthOf", "(J)I"⟩ ∈ zT := zT_of 17 rfl rfl
theorem mv_X2_142 : zMV RX2 142 mX2_lengthOf 1 3 6 := ⟨mmX2_lengthOf, ⟨kw_632, kw_634, kw_17⟩, TX2, rfl, by decide, by decide⟩
def mX2_askedOfSpace : zF := (yX2_askedOfSpace, cX2_askedOfSpace, 2, (some .int))
set_option maxRecDepth 20000 in
theorem kc_604 : Cond.code yX2_askedOfSpace cX2_askedOfSpace 2 (some .int) ∈ zT := zT_of 639 rfl rfl
theorem mmX2_askedOfSpace : zMm mX2_askedOfSpace 1 := ⟨kw_38, kc_604, by decide +kernel, by decide⟩
def mX4_init : zF := (yX4_init, cX4_init, 4, none)
set_option maxRecDepth 20000 in
theorem kw_40 : Cond.initialized "RefitYard$Rules" ∈ zT := zT_of 40 rfl rfl
set_option maxRecDepth 20000 in
theorem kc_111 : Cond.code yX4_init cX4_init 4 none ∈ zT := zT_of 146 rfl rfl
theorem mmX4_init : zMm mX4_init 3 := ⟨kw_40, kc_111, by decide +kernel, by decide⟩
set_option maxRecDepth 20000 in
theorem kw_147 : Cond.methodLink "RefitYard$Rules" (3 : Nat) ⟨"java/lang/Object", "<init>", "()V"⟩ ∈ zT := zT_of 147 rfl rfl
set_option maxRecDepth 20000 in
theorem oi_X4_3 : Cond.methodLink RX4 3 Lib.objectInit ∈ zT ∧ Cond.instanceMethod Lib.objectInit ∈ zT ∧ Cond.code Lib.objectInit ⟨#[0xb1]⟩ 1 none ∈ zT := ⟨kw_147, kw_52, zT_of 53 rfl rfl⟩
set_option maxRecDepth 20000 in
theorem kw_148 : Cond.fieldLink "RefitYard$Rules" (9 : Nat) "RefitYard$Rules" "gangs" "[I" ∈ zT := zT_of 148 rfl rfl
set_option maxRecDepth 20000 in
theorem uk_X4 : ∀ k, k < 5 → u_lay RX4 TX4 k ∈ zT
  | 0, _ => zT_of 155 rfl rfl
  | 1, _ => zT_of 157 rfl rfl
  | 2, _ => zT_of 159 rfl rfl
  | 3, _ => zT_of 161 rfl rfl
  | 4, _ => zT_of 163 rfl rfl
  | n + 5, h => absurd h (by omega)
theorem ui_X4 : ∀ w ∈ u_ws RX4 TX4 5, w ∈ zT := fun w hw => by
  obtain ⟨k, hk, rfl⟩ := List.mem_map.mp hw
  exact uk_X4 k (List.mem_range.mp hk)
theorem fl_X4_9 : zFl RX4 9 5 0 5 (.array .int) true := ⟨RX4, TX4, 0, rfl, by decide, rfl, by decide, ui_X4, kw_148, rfl, tyX4_ok, nmX4, rfl, rfl⟩
set_option maxRecDepth 20000 in
theorem kw_150 : Cond.fieldLink "RefitYard$Rules" (15 : Nat) "RefitYard$Rules" "goods" "[I" ∈ zT := zT_of 150 rfl rfl
theorem fl_X4_15 : zFl RX4 15 5 1 5 (.array .int) true := ⟨RX4, TX4, 1, rfl, by decide, rfl, by decide, ui_X4, kw_150, rfl, tyX4_ok, nmX4, rfl, rfl⟩
set_option maxRecDepth 20000 in
theorem kw_152 : Cond.fieldLink "RefitYard$Rules" (18 : Nat) "RefitYard$Rules" "ground" "LRefitYard$Ground;" ∈ zT := zT_of 152 rfl rfl
theorem fl_X4_18 : zFl RX4 18 5 2 5 (.object "RefitYard$Ground") true := ⟨RX4, TX4, 2, rfl, by decide, rfl, by decide, ui_X4, kw_152, rfl, tyX4_ok, nmX4, rfl, rfl⟩
set_option maxRecDepth 20000 in
theorem kw_153 : Cond.fieldLink "RefitYard$Rules" (22 : Nat) "RefitYard$Rules" "net" "LRefitYard$Net;" ∈ zT := zT_of 153 rfl rfl
theorem fl_X4_22 : zFl RX4 22 5 3 5 (.object "RefitYard$Net") true := ⟨RX4, TX4, 3, rfl, by decide, rfl, by decide, ui_X4, kw_153, rfl, tyX4_ok, nmX4, rfl, rfl⟩
set_option maxRecDepth 20000 in
theorem kw_154 : Cond.fieldLink "RefitYard$Rules" (26 : Nat) "RefitYard$Rules" "board" "LRefitYard$Board;" ∈ zT := zT_of 154 rfl rfl
theorem fl_X4_26 : zFl RX4 26 5 4 5 (.object "RefitYard$Board") true := ⟨RX4, TX4, 4, rfl, by decide, rfl, by decide, ui_X4, kw_154, rfl, tyX4_ok, nmX4, rfl, rfl⟩
def mX4_markFoes : zF := (yX4_markFoes, cX4_markFoes, 2, none)
set_option maxRecDepth 20000 in
theorem kc_196 : Cond.code yX4_markFoes cX4_markFoes 2 none ∈ zT := zT_of 231 rfl rfl
theorem mmX4_markFoes : zMm mX4_markFoes 0 := ⟨kw_40, kc_196, by decide +kernel, by decide⟩
set_option maxRecDepth 20000 in
theorem kw_100 : Cond.fieldLink "RefitYard$Rules" (30 : Nat) "RefitYard$Net" "size" "I" ∈ zT := zT_of 100 rfl rfl
theorem fl_X4_30 : zFl RX4 30 3 4 6 .int false := ⟨RX2, TX2, 4, rfl, by decide, rfl, by decide, ui_X2, kw_100, rfl, tyX2_ok, nmX2, rfl, rfl⟩
set_option maxRecDepth 20000 in
theorem kw_90 : Cond.fieldLink "RefitYard$Rules" (36 : Nat) "RefitYard$Net" "works" "[LRefitYard$Work;" ∈ zT := zT_of 90 rfl rfl
theorem fl_X4_36 : zFl RX4 36 3 0 6 (.array (.object "RefitYard$Work")) true := ⟨RX2, TX2, 0, rfl, by decide, rfl, by decide, ui_X2, kw_90, rfl, tyX2_ok, nmX2, rfl, rfl⟩
def mX4_foesOf : zF := (yX4_foesOf, cX4_foesOf, 6, (some .long))
set_option maxRecDepth 20000 in
theorem kc_200 : Cond.code yX4_foesOf cX4_foesOf 6 (some .long) ∈ zT := zT_of 235 rfl rfl
theorem mmX4_foesOf : zMm mX4_foesOf 1 := ⟨kw_40, kc_200, by decide +kernel, by decide⟩
set_option maxRecDepth 20000 in
theorem kw_232 : Cond.methodLink "RefitYard$Rules" (40 : Nat) ⟨"RefitYard$Rules", "foesOf", "(LRefitYard$Work;)J"⟩ ∈ zT := zT_of 232 rfl rfl
set_option maxRecDepth 20000 in
theorem kw_234 : Cond.instanceMethod ⟨"RefitYard$Rules", "foesOf", "(LRefitYard$Work;)J"⟩ ∈ zT := zT_of 234 rfl rfl
set_option maxRecDepth 20000 in
theorem kw_0 : Cond.selects "RefitYard$Rules" ⟨"RefitYard$Rules", "foesOf", "(LRefitYard$Work;)J"⟩ ⟨"RefitYard$Rules", "foesOf", "(LRefitYard$Work;)J"⟩ ∈ zT := zT_of 0 rfl rfl
theorem mv_X4_40 : zMV RX4 40 mX4_foesOf 1 5 5 := ⟨mmX4_foesOf, ⟨kw_232, kw_234, kw_0⟩, TX4, rfl, by decide, by decide⟩
set_option maxRecDepth 20000 in
theorem kw_337 : Cond.fieldLink "RefitYard$Rules" (44 : Nat) "RefitYard$Work" "foes" "J" ∈ zT := zT_of 337 rfl rfl
theorem fl_X4_44 : zFl RX4 44 6 15 16 .long false := ⟨RX5, TX5, 15, rfl, by decide, rfl, by decide, ui_X5, kw_337, rfl, tyX5_ok, nmX5, rfl, rfl⟩
set_option maxRecDepth 20000 in
theorem kw_236 : Cond.methodLink "RefitYard$Rules" (50 : Nat) ⟨"RefitYard$Ground", "keepsApart", "(LRefitYard$Work;LRefitYard$Work;)Z"⟩ ∈ zT := zT_of 236 rfl rfl
set_option maxRecDepth 20000 in
theorem kw_237 : Cond.instanceMethod ⟨"RefitYard$Ground", "keepsApart", "(LRefitYard$Work;LRefitYard$Work;)Z"⟩ ∈ zT := zT_of 237 rfl rfl
set_option maxRecDepth 20000 in
theorem kw_238 : Cond.selects "RefitYard$Ground" ⟨"RefitYard$Ground", "keepsApart", "(LRefitYard$Work;LRefitYard$Work;)Z"⟩ ⟨"RefitYard$Ground", "keepsApart", "(LRefitYard$Work;LRefitYard$Work;)Z"⟩ ∈ zT := zT_of 238 rfl rfl
theorem mv_X4_50 : zMV RX4 50 mX1_keepsApart 2 2 5 := ⟨mmX1_keepsApart, ⟨kw_236, kw_237, kw_238⟩, TX1, rfl, by decide, by decide⟩
set_option maxRecDepth 20000 in
theorem kw_287 : Cond.fieldLink "RefitYard$Rules" (56 : Nat) "RefitYard$Work" "bit" "J" ∈ zT := zT_of 287 rfl rfl
theorem fl_X4_56 : zFl RX4 56 6 1 16 .long true := ⟨RX5, TX5, 1, rfl, by decide, rfl, by decide, ui_X5, kw_287, rfl, tyX5_ok, nmX5, rfl, rfl⟩
def mX4_isBroken : zF := (yX4_isBroken, cX4_isBroken, 4, (some .boolean))
set_option maxRecDepth 20000 in
theorem kc_499 : Cond.code yX4_isBroken cX4_isBroken 4 (some .boolean) ∈ zT := zT_of 534 rfl rfl
theorem mmX4_isBroken : zMm mX4_isBroken 3 := ⟨kw_40, kc_499, by decide +kernel, by decide⟩
set_option maxRecDepth 20000 in
theorem kw_319 : Cond.fieldLink "RefitYard$Rules" (59 : Nat) "RefitYard$Work" "shift" "I" ∈ zT := zT_of 319 rfl rfl
theorem fl_X4_59 : zFl RX4 59 6 8 16 .int false := ⟨RX5, TX5, 8, rfl, by decide, rfl, by decide, ui_X5, kw_319, rfl, tyX5_ok, nmX5, rfl, rfl⟩
set_option maxRecDepth 20000 in
theorem kw_490 : Cond.methodLink "RefitYard$Rules" (62 : Nat) ⟨"RefitYard$Net", "readyFrom", "(LRefitYard$Work;)I"⟩ ∈ zT := zT_of 490 rfl rfl
set_option maxRecDepth 20000 in
theorem kw_491 : Cond.instanceMethod ⟨"RefitYard$Net", "readyFrom", "(LRefitYard$Work;)I"⟩ ∈ zT := zT_of 491 rfl rfl
set_option maxRecDepth 20000 in
theorem kw_492 : Cond.selects "RefitYard$Net" ⟨"RefitYard$Net", "readyFrom", "(LRefitYard$Work;)I"⟩ ⟨"RefitYard$Net", "readyFrom", "(LRefitYard$Work;)I"⟩ ∈ zT := zT_of 492 rfl rfl
theorem mv_X4_62 : zMV RX4 62 mX2_readyFrom 1 3 6 := ⟨mmX2_readyFrom, ⟨kw_490, kw_491, kw_492⟩, TX2, rfl, by decide, by decide⟩
def mX4_lacksHands : zF := (yX4_lacksHands, cX4_lacksHands, 5, (some .boolean))
set_option maxRecDepth 20000 in
theorem kc_467 : Cond.code yX4_lacksHands cX4_lacksHands 5 (some .boolean) ∈ zT := zT_of 502 rfl rfl
theorem mmX4_lacksHands : zMm mX4_lacksHands 2 := ⟨kw_40, kc_467, by decide +kernel, by decide⟩
set_option maxRecDepth 20000 in
theorem kw_499 : Cond.methodLink "RefitYard$Rules" (66 : Nat) ⟨"RefitYard$Rules", "lacksHands", "(LRefitYard$Work;I)Z"⟩ ∈ zT := zT_of 499 rfl rfl
set_option maxRecDepth 20000 in
theorem kw_501 : Cond.instanceMethod ⟨"RefitYard$Rules", "lacksHands", "(LRefitYard$Work;I)Z"⟩ ∈ zT := zT_of 501 rfl rfl
set_option maxRecDepth 20000 in
theorem kw_7 : Cond.selects "RefitYard$Rules" ⟨"RefitYard$Rules", "lacksHands", "(LRefitYard$Work;I)Z"⟩ ⟨"RefitYard$Rules", "lacksHands", "(LRefitYard$Work;I)Z"⟩ ∈ zT := zT_of 7 rfl rfl
theorem mv_X4_66 : zMV RX4 66 mX4_lacksHands 2 5 5 := ⟨mmX4_lacksHands, ⟨kw_499, kw_501, kw_7⟩, TX4, rfl, by decide, by decide⟩
def mX4_lacksGood : zF := (yX4_lacksGood, cX4_lacksGood, 5, (some .boolean))
set_option maxRecDepth 20000 in
theorem kc_471 : Cond.code yX4_lacksGood cX4_lacksGood 5 (some .boolean) ∈ zT := zT_of 506 rfl rfl
theorem mmX4_lacksGood : zMm mX4_lacksGood 2 := ⟨kw_40, kc_471, by decide +kernel, by decide⟩
set_option maxRecDepth 20000 in
theorem kw_503 : Cond.methodLink "RefitYard$Rules" (70 : Nat) ⟨"RefitYard$Rules", "lacksGood", "(LRefitYard$Work;I)Z"⟩ ∈ zT := zT_of 503 rfl rfl
set_option maxRecDepth 20000 in
theorem kw_505 : Cond.instanceMethod ⟨"RefitYard$Rules", "lacksGood", "(LRefitYard$Work;I)Z"⟩ ∈ zT := zT_of 505 rfl rfl
set_option maxRecDepth 20000 in
theorem kw_8 : Cond.selects "RefitYard$Rules" ⟨"RefitYard$Rules", "lacksGood", "(LRefitYard$Work;I)Z"⟩ ⟨"RefitYard$Rules", "lacksGood", "(LRefitYard$Work;I)Z"⟩ ∈ zT := zT_of 8 rfl rfl
theorem mv_X4_70 : zMV RX4 70 mX4_lacksGood 2 5 5 := ⟨mmX4_lacksGood, ⟨kw_503, kw_505, kw_8⟩, TX4, rfl, by decide, by decide⟩
def mX4_lacksRoom : zF := (yX4_lacksRoom, cX4_lacksRoom, 5, (some .boolean))
set_option maxRecDepth 20000 in
theorem kc_476 : Cond.code yX4_lacksRoom cX4_lacksRoom 5 (some .boolean) ∈ zT := zT_of 511 rfl rfl
theorem mmX4_lacksRoom : zMm mX4_lacksRoom 2 := ⟨kw_40, kc_476, by decide +kernel, by decide⟩
set_option maxRecDepth 20000 in
theorem kw_508 : Cond.methodLink "RefitYard$Rules" (73 : Nat) ⟨"RefitYard$Rules", "lacksRoom", "(LRefitYard$Work;I)Z"⟩ ∈ zT := zT_of 508 rfl rfl
set_option maxRecDepth 20000 in
theorem kw_510 : Cond.instanceMethod ⟨"RefitYard$Rules", "lacksRoom", "(LRefitYard$Work;I)Z"⟩ ∈ zT := zT_of 510 rfl rfl
set_option maxRecDepth 20000 in
theorem kw_9 : Cond.selects "RefitYard$Rules" ⟨"RefitYard$Rules", "lacksRoom", "(LRefitYard$Work;I)Z"⟩ ⟨"RefitYard$Rules", "lacksRoom", "(LRefitYard$Work;I)Z"⟩ ∈ zT := zT_of 9 rfl rfl
theorem mv_X4_73 : zMV RX4 73 mX4_lacksRoom 2 5 5 := ⟨mmX4_lacksRoom, ⟨kw_508, kw_510, kw_9⟩, TX4, rfl, by decide, by decide⟩
def mX4_meetsFoe : zF := (yX4_meetsFoe, cX4_meetsFoe, 3, (some .boolean))
set_option maxRecDepth 20000 in
theorem kc_480 : Cond.code yX4_meetsFoe cX4_meetsFoe 3 (some .boolean) ∈ zT := zT_of 515 rfl rfl
theorem mmX4_meetsFoe : zMm mX4_meetsFoe 2 := ⟨kw_40, kc_480, by decide +kernel, by decide⟩
set_option maxRecDepth 20000 in
theorem kw_512 : Cond.methodLink "RefitYard$Rules" (76 : Nat) ⟨"RefitYard$Rules", "meetsFoe", "(LRefitYard$Work;I)Z"⟩ ∈ zT := zT_of 512 rfl rfl
set_option maxRecDepth 20000 in
theorem kw_514 : Cond.instanceMethod ⟨"RefitYard$Rules", "meetsFoe", "(LRefitYard$Work;I)Z"⟩ ∈ zT := zT_of 514 rfl rfl
set_option maxRecDepth 20000 in
theorem kw_10 : Cond.selects "RefitYard$Rules" ⟨"RefitYard$Rules", "meetsFoe", "(LRefitYard$Work;I)Z"⟩ ⟨"RefitYard$Rules", "meetsFoe", "(LRefitYard$Work;I)Z"⟩ ∈ zT := zT_of 10 rfl rfl
theorem mv_X4_76 : zMV RX4 76 mX4_meetsFoe 2 5 5 := ⟨mmX4_meetsFoe, ⟨kw_512, kw_514, kw_10⟩, TX4, rfl, by decide, by decide⟩
theorem zo_1_5 (z : Int) (q0 : ¬ z = 1) (q1 : ¬ z = 2) (q2 : ¬ z = 3) (q3 : ¬ z = 4) (q4 : ¬ z = 5) : z < 1 ∨ 5 < z := by omega
set_option maxRecDepth 20000 in
theorem kw_131 : Cond.fieldLink "RefitYard$Rules" (79 : Nat) "RefitYard$Board" "hands" "[[I" ∈ zT := zT_of 131 rfl rfl
theorem fl_X4_79 : zFl RX4 79 1 1 3 (.array (.array .int)) true := ⟨RX0, TX0, 1, rfl, by decide, rfl, by decide, ui_X0, kw_131, rfl, tyX0_ok, nmX0, rfl, rfl⟩
set_option maxRecDepth 20000 in
theorem kw_291 : Cond.fieldLink "RefitYard$Rules" (85 : Nat) "RefitYard$Work" "trade" "I" ∈ zT := zT_of 291 rfl rfl
theorem fl_X4_85 : zFl RX4 85 6 2 16 .int true := ⟨RX5, TX5, 2, rfl, by decide, rfl, by decide, ui_X5, kw_291, rfl, tyX5_ok, nmX5, rfl, rfl⟩
set_option maxRecDepth 20000 in
theorem kw_128 : Cond.fieldLink "RefitYard$Rules" (88 : Nat) "RefitYard$Board" "within" "[J" ∈ zT := zT_of 128 rfl rfl
theorem fl_X4_88 : zFl RX4 88 1 0 3 (.array .long) true := ⟨RX0, TX0, 0, rfl, by decide, rfl, by decide, ui_X0, kw_128, rfl, tyX0_ok, nmX0, rfl, rfl⟩
set_option maxRecDepth 20000 in
theorem kw_296 : Cond.fieldLink "RefitYard$Rules" (92 : Nat) "RefitYard$Work" "hands" "I" ∈ zT := zT_of 296 rfl rfl
theorem fl_X4_92 : zFl RX4 92 6 3 16 .int true := ⟨RX5, TX5, 3, rfl, by decide, rfl, by decide, ui_X5, kw_296, rfl, tyX5_ok, nmX5, rfl, rfl⟩
set_option maxRecDepth 20000 in
theorem kw_309 : Cond.fieldLink "RefitYard$Rules" (94 : Nat) "RefitYard$Work" "good" "I" ∈ zT := zT_of 309 rfl rfl
theorem fl_X4_94 : zFl RX4 94 6 6 16 .int true := ⟨RX5, TX5, 6, rfl, by decide, rfl, by decide, ui_X5, kw_309, rfl, tyX5_ok, nmX5, rfl, rfl⟩
set_option maxRecDepth 20000 in
theorem kw_95 : Cond.fieldLink "RefitYard$Rules" (97 : Nat) "RefitYard$Net" "takers" "[J" ∈ zT := zT_of 95 rfl rfl
theorem fl_X4_97 : zFl RX4 97 3 2 6 (.array .long) true := ⟨RX2, TX2, 2, rfl, by decide, rfl, by decide, ui_X2, kw_95, rfl, tyX2_ok, nmX2, rfl, rfl⟩
set_option maxRecDepth 20000 in
theorem kw_507 : Cond.methodLink "RefitYard$Rules" (100 : Nat) ⟨"java/lang/Long", "bitCount", "(J)I"⟩ ∈ zT := zT_of 507 rfl rfl
theorem ms_X4_100 : zMS RX4 100 mJ13_bitCount_95d88 1 := ⟨mmJ13_bitCount_95d88, kw_507, kw_388⟩
set_option maxRecDepth 20000 in
theorem kw_98 : Cond.fieldLink "RefitYard$Rules" (106 : Nat) "RefitYard$Net" "dwellers" "[J" ∈ zT := zT_of 98 rfl rfl
theorem fl_X4_106 : zFl RX4 106 3 3 6 (.array .long) true := ⟨RX2, TX2, 3, rfl, by decide, rfl, by decide, ui_X2, kw_98, rfl, tyX2_ok, nmX2, rfl, rfl⟩
set_option maxRecDepth 20000 in
theorem kw_301 : Cond.fieldLink "RefitYard$Rules" (109 : Nat) "RefitYard$Work" "space" "I" ∈ zT := zT_of 301 rfl rfl
theorem fl_X4_109 : zFl RX4 109 6 4 16 .int true := ⟨RX5, TX5, 4, rfl, by decide, rfl, by decide, ui_X5, kw_301, rfl, tyX5_ok, nmX5, rfl, rfl⟩
set_option maxRecDepth 20000 in
theorem kw_61 : Cond.fieldLink "RefitYard$Rules" (112 : Nat) "RefitYard$Ground" "bears" "[I" ∈ zT := zT_of 61 rfl rfl
theorem fl_X4_112 : zFl RX4 112 2 0 5 (.array .int) true := ⟨RX1, TX1, 0, rfl, by decide, rfl, by decide, ui_X1, kw_61, rfl, tyX1_ok, nmX1, rfl, rfl⟩
def mX4_isFree : zF := (yX4_isFree, cX4_isFree, 3, (some .boolean))
set_option maxRecDepth 20000 in
theorem kc_463 : Cond.code yX4_isFree cX4_isFree 3 (some .boolean) ∈ zT := zT_of 498 rfl rfl
theorem mmX4_isFree : zMm mX4_isFree 2 := ⟨kw_40, kc_463, by decide +kernel, by decide⟩
def mX4_leastBroken : zF := (yX4_leastBroken, cX4_leastBroken, 3, (some .int))
set_option maxRecDepth 20000 in
theorem kc_489 : Cond.code yX4_leastBroken cX4_leastBroken 3 (some .int) ∈ zT := zT_of 524 rfl rfl
theorem mmX4_leastBroken : zMm mX4_leastBroken 1 := ⟨kw_40, kc_489, by decide +kernel, by decide⟩
def mX4_leastShift : zF := (yX4_leastShift, cX4_leastShift, 4, (some .int))
set_option maxRecDepth 20000 in
theorem kc_493 : Cond.code yX4_leastShift cX4_leastShift 4 (some .int) ∈ zT := zT_of 528 rfl rfl
theorem mmX4_leastShift : zMm mX4_leastShift 2 := ⟨kw_40, kc_493, by decide +kernel, by decide⟩
set_option maxRecDepth 20000 in
theorem kw_525 : Cond.methodLink "RefitYard$Rules" (115 : Nat) ⟨"RefitYard$Rules", "leastShift", "(LRefitYard$Work;I)I"⟩ ∈ zT := zT_of 525 rfl rfl
set_option maxRecDepth 20000 in
theorem kw_526 : Cond.instanceMethod ⟨"RefitYard$Rules", "leastShift", "(LRefitYard$Work;I)I"⟩ ∈ zT := zT_of 526 rfl rfl
set_option maxRecDepth 20000 in
theorem kw_527 : Cond.selects "RefitYard$Rules" ⟨"RefitYard$Rules", "leastShift", "(LRefitYard$Work;I)I"⟩ ⟨"RefitYard$Rules", "leastShift", "(LRefitYard$Work;I)I"⟩ ∈ zT := zT_of 527 rfl rfl
theorem mv_X4_115 : zMV RX4 115 mX4_leastShift 2 5 5 := ⟨mmX4_leastShift, ⟨kw_525, kw_526, kw_527⟩, TX4, rfl, by decide, by decide⟩
set_option maxRecDepth 20000 in
theorem kw_529 : Cond.methodLink "RefitYard$Rules" (119 : Nat) ⟨"RefitYard$Work", "isOpen", "()Z"⟩ ∈ zT := zT_of 529 rfl rfl
theorem mv_X4_119 : zMV RX4 119 mX5_isOpen 0 6 16 := ⟨mmX5_isOpen, ⟨kw_529, kw_433, kw_434⟩, TX5, rfl, by decide, by decide⟩
set_option maxRecDepth 20000 in
theorem kw_530 : Cond.methodLink "RefitYard$Rules" (123 : Nat) ⟨"RefitYard$Work", "behind", "()I"⟩ ∈ zT := zT_of 530 rfl rfl
theorem mv_X4_123 : zMV RX4 123 mX5_behind 0 6 16 := ⟨mmX5_behind, ⟨kw_530, kw_456, kw_457⟩, TX5, rfl, by decide, by decide⟩
set_option maxRecDepth 20000 in
theorem kw_531 : Cond.methodLink "RefitYard$Rules" (127 : Nat) ⟨"RefitYard$Rules", "isBroken", "(LRefitYard$Work;II)Z"⟩ ∈ zT := zT_of 531 rfl rfl
set_option maxRecDepth 20000 in
theorem kw_533 : Cond.instanceMethod ⟨"RefitYard$Rules", "isBroken", "(LRefitYard$Work;II)Z"⟩ ∈ zT := zT_of 533 rfl rfl
set_option maxRecDepth 20000 in
theorem kw_11 : Cond.selects "RefitYard$Rules" ⟨"RefitYard$Rules", "isBroken", "(LRefitYard$Work;II)Z"⟩ ⟨"RefitYard$Rules", "isBroken", "(LRefitYard$Work;II)Z"⟩ ∈ zT := zT_of 11 rfl rfl
theorem mv_X4_127 : zMV RX4 127 mX4_isBroken 3 5 5 := ⟨mmX4_isBroken, ⟨kw_531, kw_533, kw_11⟩, TX4, rfl, by decide, by decide⟩
def mX4_firstPlace : zF := (yX4_firstPlace, cX4_firstPlace, 6, (some .int))
set_option maxRecDepth 20000 in
theorem kc_445 : Cond.code yX4_firstPlace cX4_firstPlace 6 (some .int) ∈ zT := zT_of 480 rfl rfl
theorem mmX4_firstPlace : zMm mX4_firstPlace 2 := ⟨kw_40, kc_445, by decide +kernel, by decide⟩
set_option maxRecDepth 20000 in
theorem kw_481 : Cond.methodLink "RefitYard$Rules" (131 : Nat) ⟨"RefitYard$Net", "dueBy", "(LRefitYard$Work;)I"⟩ ∈ zT := zT_of 481 rfl rfl
set_option maxRecDepth 20000 in
theorem kw_482 : Cond.instanceMethod ⟨"RefitYard$Net", "dueBy", "(LRefitYard$Work;)I"⟩ ∈ zT := zT_of 482 rfl rfl
set_option maxRecDepth 20000 in
theorem kw_483 : Cond.selects "RefitYard$Net" ⟨"RefitYard$Net", "dueBy", "(LRefitYard$Work;)I"⟩ ⟨"RefitYard$Net", "dueBy", "(LRefitYard$Work;)I"⟩ ∈ zT := zT_of 483 rfl rfl
theorem mv_X4_131 : zMV RX4 131 mX2_dueBy 1 3 6 := ⟨mmX2_dueBy, ⟨kw_481, kw_482, kw_483⟩, TX2, rfl, by decide, by decide⟩
set_option maxRecDepth 20000 in
theorem kw_134 : Cond.fieldLink "RefitYard$Rules" (134 : Nat) "RefitYard$Board" "now" "I" ∈ zT := zT_of 134 rfl rfl
theorem fl_X4_134 : zFl RX4 134 1 2 3 .int false := ⟨RX0, TX0, 2, rfl, by decide, rfl, by decide, ui_X0, kw_134, rfl, tyX0_ok, nmX0, rfl, rfl⟩
set_option maxRecDepth 20000 in
theorem kw_489 : Cond.methodLink "RefitYard$Rules" (137 : Nat) ⟨"java/lang/Math", "max", "(II)I"⟩ ∈ zT := zT_of 489 rfl rfl
set_option maxRecDepth 20000 in
theorem mm_X4_137 : Cond.methodLink RX4 137 Lib.Math.max.name ∈ zT ∧ Cond.static Lib.Math.max.name ∈ zT ∧ Cond.initialized "java/lang/Math" ∈ zT ∧ Cond.code Lib.Math.max.name Lib.Math.max.code 2 (some .int) ∈ zT := ⟨kw_489, kw_402, kw_45, zT_of 403 rfl rfl⟩
set_option maxRecDepth 20000 in
theorem kw_495 : Cond.methodLink "RefitYard$Rules" (143 : Nat) ⟨"RefitYard$Rules", "isFree", "(LRefitYard$Work;I)Z"⟩ ∈ zT := zT_of 495 rfl rfl
set_option maxRecDepth 20000 in
theorem kw_497 : Cond.instanceMethod ⟨"RefitYard$Rules", "isFree", "(LRefitYard$Work;I)Z"⟩ ∈ zT := zT_of 497 rfl rfl
set_option maxRecDepth 20000 in
theorem kw_6 : Cond.selects "RefitYard$Rules" ⟨"RefitYard$Rules", "isFree", "(LRefitYard$Work;I)Z"⟩ ⟨"RefitYard$Rules", "isFree", "(LRefitYard$Work;I)Z"⟩ ∈ zT := zT_of 6 rfl rfl
theorem mv_X4_143 : zMV RX4 143 mX4_isFree 2 5 5 := ⟨mmX4_isFree, ⟨kw_495, kw_497, kw_6⟩, TX4, rfl, by decide, by decide⟩
set_option maxRecDepth 20000 in
theorem kw_316 : Cond.fieldLink "RefitYard$Rules" (146 : Nat) "RefitYard$Work" "length" "I" ∈ zT := zT_of 316 rfl rfl
theorem fl_X4_146 : zFl RX4 146 6 7 16 .int false := ⟨RX5, TX5, 7, rfl, by decide, rfl, by decide, ui_X5, kw_316, rfl, tyX5_ok, nmX5, rfl, rfl⟩
def mX3_init : zF := (yX3_init, cX3_init, 4, none)
set_option maxRecDepth 20000 in
theorem kw_41 : Cond.initialized "RefitYard$Orders" ∈ zT := zT_of 41 rfl rfl
set_option maxRecDepth 20000 in
theorem kc_135 : Cond.code yX3_init cX3_init 4 none ∈ zT := zT_of 170 rfl rfl
theorem mmX3_init : zMm mX3_init 3 := ⟨kw_41, kc_135, by decide +kernel, by decide⟩
set_option maxRecDepth 20000 in
theorem kw_171 : Cond.methodLink "RefitYard$Orders" (3 : Nat) ⟨"java/lang/Object", "<init>", "()V"⟩ ∈ zT := zT_of 171 rfl rfl
set_option maxRecDepth 20000 in
theorem oi_X3_3 : Cond.methodLink RX3 3 Lib.objectInit ∈ zT ∧ Cond.instanceMethod Lib.objectInit ∈ zT ∧ Cond.code Lib.objectInit ⟨#[0xb1]⟩ 1 none ∈ zT := ⟨kw_171, kw_52, zT_of 53 rfl rfl⟩
set_option maxRecDepth 20000 in
theorem kw_172 : Cond.fieldLink "RefitYard$Orders" (9 : Nat) "RefitYard$Orders" "places" "[I" ∈ zT := zT_of 172 rfl rfl
set_option maxRecDepth 20000 in
theorem uk_X3 : ∀ k, k < 5 → u_lay RX3 TX3 k ∈ zT
  | 0, _ => zT_of 177 rfl rfl
  | 1, _ => zT_of 179 rfl rfl
  | 2, _ => zT_of 181 rfl rfl
  | 3, _ => zT_of 183 rfl rfl
  | 4, _ => zT_of 185 rfl rfl
  | n + 5, h => absurd h (by omega)
theorem ui_X3 : ∀ w ∈ u_ws RX3 TX3 5, w ∈ zT := fun w hw => by
  obtain ⟨k, hk, rfl⟩ := List.mem_map.mp hw
  exact uk_X3 k (List.mem_range.mp hk)
theorem fl_X3_9 : zFl RX3 9 4 0 5 (.array .int) true := ⟨RX3, TX3, 0, rfl, by decide, rfl, by decide, ui_X3, kw_172, rfl, tyX3_ok, nmX3, rfl, rfl⟩
set_option maxRecDepth 20000 in
theorem kw_173 : Cond.fieldLink "RefitYard$Orders" (15 : Nat) "RefitYard$Orders" "net" "LRefitYard$Net;" ∈ zT := zT_of 173 rfl rfl
theorem fl_X3_15 : zFl RX3 15 4 1 5 (.object "RefitYard$Net") true := ⟨RX3, TX3, 1, rfl, by decide, rfl, by decide, ui_X3, kw_173, rfl, tyX3_ok, nmX3, rfl, rfl⟩
set_option maxRecDepth 20000 in
theorem kw_174 : Cond.fieldLink "RefitYard$Orders" (19 : Nat) "RefitYard$Orders" "board" "LRefitYard$Board;" ∈ zT := zT_of 174 rfl rfl
theorem fl_X3_19 : zFl RX3 19 4 2 5 (.object "RefitYard$Board") true := ⟨RX3, TX3, 2, rfl, by decide, rfl, by decide, ui_X3, kw_174, rfl, tyX3_ok, nmX3, rfl, rfl⟩
set_option maxRecDepth 20000 in
theorem kw_175 : Cond.fieldLink "RefitYard$Orders" (23 : Nat) "RefitYard$Orders" "rules" "LRefitYard$Rules;" ∈ zT := zT_of 175 rfl rfl
theorem fl_X3_23 : zFl RX3 23 4 3 5 (.object "RefitYard$Rules") true := ⟨RX3, TX3, 3, rfl, by decide, rfl, by decide, ui_X3, kw_175, rfl, tyX3_ok, nmX3, rfl, rfl⟩
def mX3_layBest : zF := (yX3_layBest, cX3_layBest, 2, (some .int))
set_option maxRecDepth 20000 in
theorem kc_553 : Cond.code yX3_layBest cX3_layBest 2 (some .int) ∈ zT := zT_of 588 rfl rfl
theorem mmX3_layBest : zMm mX3_layBest 0 := ⟨kw_41, kc_553, by decide +kernel, by decide⟩
set_option maxRecDepth 20000 in
theorem kw_176 : Cond.fieldLink "RefitYard$Orders" (27 : Nat) "RefitYard$Orders" "soonest" "I" ∈ zT := zT_of 176 rfl rfl
theorem fl_X3_27 : zFl RX3 27 4 4 5 .int false := ⟨RX3, TX3, 4, rfl, by decide, rfl, by decide, ui_X3, kw_176, rfl, tyX3_ok, nmX3, rfl, rfl⟩
def mX3_layNext : zF := (yX3_layNext, cX3_layNext, 6, none)
set_option maxRecDepth 20000 in
theorem kc_557 : Cond.code yX3_layNext cX3_layNext 6 none ∈ zT := zT_of 592 rfl rfl
theorem mmX3_layNext : zMm mX3_layNext 2 := ⟨kw_41, kc_557, by decide +kernel, by decide⟩
set_option maxRecDepth 20000 in
theorem kw_589 : Cond.methodLink "RefitYard$Orders" (31 : Nat) ⟨"RefitYard$Orders", "layNext", "(II)V"⟩ ∈ zT := zT_of 589 rfl rfl
set_option maxRecDepth 20000 in
theorem kw_591 : Cond.instanceMethod ⟨"RefitYard$Orders", "layNext", "(II)V"⟩ ∈ zT := zT_of 591 rfl rfl
set_option maxRecDepth 20000 in
theorem kw_14 : Cond.selects "RefitYard$Orders" ⟨"RefitYard$Orders", "layNext", "(II)V"⟩ ⟨"RefitYard$Orders", "layNext", "(II)V"⟩ ∈ zT := zT_of 14 rfl rfl
theorem mv_X3_31 : zMV RX3 31 mX3_layNext 2 4 5 := ⟨mmX3_layNext, ⟨kw_589, kw_591, kw_14⟩, TX3, rfl, by decide, by decide⟩
set_option maxRecDepth 20000 in
theorem kw_101 : Cond.fieldLink "RefitYard$Orders" (35 : Nat) "RefitYard$Net" "size" "I" ∈ zT := zT_of 101 rfl rfl
theorem fl_X3_35 : zFl RX3 35 3 4 6 .int false := ⟨RX2, TX2, 4, rfl, by decide, rfl, by decide, ui_X2, kw_101, rfl, tyX2_ok, nmX2, rfl, rfl⟩
set_option maxRecDepth 20000 in
theorem kw_91 : Cond.fieldLink "RefitYard$Orders" (40 : Nat) "RefitYard$Net" "works" "[LRefitYard$Work;" ∈ zT := zT_of 91 rfl rfl
theorem fl_X3_40 : zFl RX3 40 3 0 6 (.array (.object "RefitYard$Work")) true := ⟨RX2, TX2, 0, rfl, by decide, rfl, by decide, ui_X2, kw_91, rfl, tyX2_ok, nmX2, rfl, rfl⟩
set_option maxRecDepth 20000 in
theorem kw_605 : Cond.methodLink "RefitYard$Orders" (44 : Nat) ⟨"RefitYard$Board", "lay", "(LRefitYard$Work;I)V"⟩ ∈ zT := zT_of 605 rfl rfl
theorem mv_X3_44 : zMV RX3 44 mX0_lay 2 1 3 := ⟨mmX0_lay, ⟨kw_605, kw_461, kw_462⟩, TX0, rfl, by decide, by decide⟩
def mX3_keep : zF := (yX3_keep, cX3_keep, 3, none)
set_option maxRecDepth 20000 in
theorem kc_561 : Cond.code yX3_keep cX3_keep 3 none ∈ zT := zT_of 596 rfl rfl
theorem mmX3_keep : zMm mX3_keep 1 := ⟨kw_41, kc_561, by decide +kernel, by decide⟩
set_option maxRecDepth 20000 in
theorem kw_593 : Cond.methodLink "RefitYard$Orders" (50 : Nat) ⟨"RefitYard$Orders", "keep", "(I)V"⟩ ∈ zT := zT_of 593 rfl rfl
set_option maxRecDepth 20000 in
theorem kw_595 : Cond.instanceMethod ⟨"RefitYard$Orders", "keep", "(I)V"⟩ ∈ zT := zT_of 595 rfl rfl
set_option maxRecDepth 20000 in
theorem kw_15 : Cond.selects "RefitYard$Orders" ⟨"RefitYard$Orders", "keep", "(I)V"⟩ ⟨"RefitYard$Orders", "keep", "(I)V"⟩ ∈ zT := zT_of 15 rfl rfl
theorem mv_X3_50 : zMV RX3 50 mX3_keep 1 4 5 := ⟨mmX3_keep, ⟨kw_593, kw_595, kw_15⟩, TX3, rfl, by decide, by decide⟩
set_option maxRecDepth 20000 in
theorem kw_597 : Cond.methodLink "RefitYard$Orders" (54 : Nat) ⟨"RefitYard$Net", "allThatArePut", "()J"⟩ ∈ zT := zT_of 597 rfl rfl
theorem mv_X3_54 : zMV RX3 54 mX2_allThatArePut 0 3 6 := ⟨mmX2_allThatArePut, ⟨kw_597, kw_571, kw_572⟩, TX2, rfl, by decide, by decide⟩
set_option maxRecDepth 20000 in
theorem kw_598 : Cond.methodLink "RefitYard$Orders" (58 : Nat) ⟨"RefitYard$Work", "isReady", "(J)Z"⟩ ∈ zT := zT_of 598 rfl rfl
theorem mv_X3_58 : zMV RX3 58 mX5_isReady 1 6 16 := ⟨mmX5_isReady, ⟨kw_598, kw_575, kw_576⟩, TX5, rfl, by decide, by decide⟩
def mX3_layAndGoOn : zF := (yX3_layAndGoOn, cX3_layAndGoOn, 5, none)
set_option maxRecDepth 20000 in
theorem kc_567 : Cond.code yX3_layAndGoOn cX3_layAndGoOn 5 none ∈ zT := zT_of 602 rfl rfl
theorem mmX3_layAndGoOn : zMm mX3_layAndGoOn 3 := ⟨kw_41, kc_567, by decide +kernel, by decide⟩
set_option maxRecDepth 20000 in
theorem kw_599 : Cond.methodLink "RefitYard$Orders" (64 : Nat) ⟨"RefitYard$Orders", "layAndGoOn", "(LRefitYard$Work;II)V"⟩ ∈ zT := zT_of 599 rfl rfl
set_option maxRecDepth 20000 in
theorem kw_601 : Cond.instanceMethod ⟨"RefitYard$Orders", "layAndGoOn", "(LRefitYard$Work;II)V"⟩ ∈ zT := zT_of 601 rfl rfl
set_option maxRecDepth 20000 in
theorem kw_16 : Cond.selects "RefitYard$Orders" ⟨"RefitYard$Orders", "layAndGoOn", "(LRefitYard$Work;II)V"⟩ ⟨"RefitYard$Orders", "layAndGoOn", "(LRefitYard$Work;II)V"⟩ ∈ zT := zT_of 16 rfl rfl
theorem mv_X3_64 : zMV RX3 64 mX3_layAndGoOn 3 4 5 := ⟨mmX3_layAndGoOn, ⟨kw_599, kw_601, kw_16⟩, TX3, rfl, by decide, by decide⟩
set_option maxRecDepth 20000 in
theorem kw_603 : Cond.methodLink "RefitYard$Orders" (68 : Nat) ⟨"RefitYard$Rules", "firstPlace", "(LRefitYard$Work;I)I"⟩ ∈ zT := zT_of 603 rfl rfl
set_option maxRecDepth 20000 in
theorem kw_478 : Cond.instanceMethod ⟨"RefitYard$Rules", "firstPlace", "(LRefitYard$Work;I)I"⟩ ∈ zT := zT_of 478 rfl rfl
set_option maxRecDepth 20000 in
theorem kw_479 : Cond.selects "RefitYard$Rules" ⟨"RefitYard$Rules", "firstPlace", "(LRefitYard$Work;I)I"⟩ ⟨"RefitYard$Rules", "firstPlace", "(LRefitYard$Work;I)I"⟩ ∈ zT := zT_of 479 rfl rfl
theorem mv_X3_68 : zMV RX3 68 mX4_firstPlace 2 5 5 := ⟨mmX4_firstPlace, ⟨kw_603, kw_478, kw_479⟩, TX4, rfl, by decide, by decide⟩
set_option maxRecDepth 20000 in
theorem kw_313 : Cond.fieldLink "RefitYard$Orders" (74 : Nat) "RefitYard$Work" "length" "I" ∈ zT := zT_of 313 rfl rfl
theorem fl_X3_74 : zFl RX3 74 6 7 16 .int false := ⟨RX5, TX5, 7, rfl, by decide, rfl, by decide, ui_X5, kw_313, rfl, tyX5_ok, nmX5, rfl, rfl⟩
set_option maxRecDepth 20000 in
theorem kw_604 : Cond.methodLink "RefitYard$Orders" (77 : Nat) ⟨"java/lang/Math", "max", "(II)I"⟩ ∈ zT := zT_of 604 rfl rfl
set_option maxRecDepth 20000 in
theorem mm_X3_77 : Cond.methodLink RX3 77 Lib.Math.max.name ∈ zT ∧ Cond.static Lib.Math.max.name ∈ zT ∧ Cond.initialized "java/lang/Math" ∈ zT ∧ Cond.code Lib.Math.max.name Lib.Math.max.code 2 (some .int) ∈ zT := ⟨kw_604, kw_402, kw_45, zT_of 403 rfl rfl⟩
set_option maxRecDepth 20000 in
theorem kw_606 : Cond.methodLink "RefitYard$Orders" (83 : Nat) ⟨"RefitYard$Work", "behind", "()I"⟩ ∈ zT := zT_of 606 rfl rfl
theorem mv_X3_83 : zMV RX3 83 mX5_behind 0 6 16 := ⟨mmX5_behind, ⟨kw_606, kw_456, kw_457⟩, TX5, rfl, by decide, by decide⟩
set_option maxRecDepth 20000 in
theorem kw_607 : Cond.methodLink "RefitYard$Orders" (87 : Nat) ⟨"RefitYard$Board", "lift", "(LRefitYard$Work;)V"⟩ ∈ zT := zT_of 607 rfl rfl
theorem mv_X3_87 : zMV RX3 87 mX0_lift 1 1 3 := ⟨mmX0_lift, ⟨kw_607, kw_451, kw_452⟩, TX0, rfl, by decide, by decide⟩
set_option maxRecDepth 20000 in
theorem kw_320 : Cond.fieldLink "RefitYard$Orders" (91 : Nat) "RefitYard$Work" "shift" "I" ∈ zT := zT_of 320 rfl rfl
theorem fl_X3_91 : zFl RX3 91 6 8 16 .int false := ⟨RX5, TX5, 8, rfl, by decide, rfl, by decide, ui_X5, kw_320, rfl, tyX5_ok, nmX5, rfl, rfl⟩
def mX6_init : zF := (yX6_init, cX6_init, 1, none)
set_option maxRecDepth 20000 in
theorem kw_36 : Cond.initialized "RefitYard" ∈ zT := zT_of 36 rfl rfl
set_option maxRecDepth 20000 in
theorem kc_15 : Cond.code yX6_init cX6_init 1 none ∈ zT := zT_of 50 rfl rfl
theorem mmX6_init : zMm mX6_init 0 := ⟨kw_36, kc_15, by decide +kernel, by decide⟩
set_option maxRecDepth 20000 in
theorem kw_51 : Cond.methodLink "RefitYard" (1 : Nat) ⟨"java/lang/Object", "<init>", "()V"⟩ ∈ zT := zT_of 51 rfl rfl
set_option maxRecDepth 20000 in
theorem oi_X6_1 : Cond.methodLink RX6 1 Lib.objectInit ∈ zT ∧ Cond.instanceMethod Lib.objectInit ∈ zT ∧ Cond.code Lib.objectInit ⟨#[0xb1]⟩ 1 none ∈ zT := ⟨kw_51, kw_52, zT_of 53 rfl rfl⟩
set_option maxRecDepth 20000 in
theorem kw_54 : Cond.classLink "RefitYard" (7 : Nat) "RefitYard$Ground" ∈ zT := zT_of 54 rfl rfl
set_option maxRecDepth 20000 in
theorem kw_55 : Cond.instantiable "RefitYard$Ground" (5 : Nat) ∈ zT := zT_of 55 rfl rfl
theorem nw_X6_7 : zNw RX6 7 2 5 := ⟨RX1, TX1, rfl, by decide, by decide, ui_X1, tyX1_ok, kw_54, kw_55, kw_37, by decide⟩
set_option maxRecDepth 20000 in
theorem kw_57 : Cond.instanceMethod ⟨"RefitYard$Ground", "<init>", "()V"⟩ ∈ zT := zT_of 57 rfl rfl
theorem mi_X6_9 : zMI RX6 9 mX1_init 0 := ⟨mmX1_init, rfl, rfl, kw_57, Or.inr ⟨"RefitYard", List.mem_of_getElem? (i := 0) rfl⟩⟩
set_option maxRecDepth 20000 in
theorem kw_188 : Cond.fieldLink "RefitYard" (10 : Nat) "RefitYard" "ground" "LRefitYard$Ground;" ∈ zT := zT_of 188 rfl rfl
set_option maxRecDepth 20000 in
theorem uk_X6 : ∀ k, k < 5 → u_lay RX6 TX6 k ∈ zT
  | 0, _ => zT_of 193 rfl rfl
  | 1, _ => zT_of 195 rfl rfl
  | 2, _ => zT_of 197 rfl rfl
  | 3, _ => zT_of 199 rfl rfl
  | 4, _ => zT_of 201 rfl rfl
  | n + 5, h => absurd h (by omega)
theorem ui_X6 : ∀ w ∈ u_ws RX6 TX6 5, w ∈ zT := fun w hw => by
  obtain ⟨k, hk, rfl⟩ := List.mem_map.mp hw
  exact uk_X6 k (List.mem_range.mp hk)
theorem fl_X6_10 : zFl RX6 10 7 0 5 (.object "RefitYard$Ground") true := ⟨RX6, TX6, 0, rfl, by decide, rfl, by decide, ui_X6, kw_188, rfl, tyX6_ok, nmX6, rfl, rfl⟩
set_option maxRecDepth 20000 in
theorem kw_81 : Cond.classLink "RefitYard" (16 : Nat) "RefitYard$Net" ∈ zT := zT_of 81 rfl rfl
set_option maxRecDepth 20000 in
theorem kw_82 : Cond.instantiable "RefitYard$Net" (6 : Nat) ∈ zT := zT_of 82 rfl rfl
theorem nw_X6_16 : zNw RX6 16 3 6 := ⟨RX2, TX2, rfl, by decide, by decide, ui_X2, tyX2_ok, kw_81, kw_82, kw_38, by decide⟩
set_option maxRecDepth 20000 in
theorem kw_84 : Cond.instanceMethod ⟨"RefitYard$Net", "<init>", "()V"⟩ ∈ zT := zT_of 84 rfl rfl
theorem mi_X6_18 : zMI RX6 18 mX2_init 0 := ⟨mmX2_init, rfl, rfl, kw_84, Or.inr ⟨"RefitYard", List.mem_of_getElem? (i := 1) rfl⟩⟩
set_option maxRecDepth 20000 in
theorem kw_189 : Cond.fieldLink "RefitYard" (19 : Nat) "RefitYard" "net" "LRefitYard$Net;" ∈ zT := zT_of 189 rfl rfl
theorem fl_X6_19 : zFl RX6 19 7 1 5 (.object "RefitYard$Net") true := ⟨RX6, TX6, 1, rfl, by decide, rfl, by decide, ui_X6, kw_189, rfl, tyX6_ok, nmX6, rfl, rfl⟩
set_option maxRecDepth 20000 in
theorem kw_119 : Cond.classLink "RefitYard" (23 : Nat) "RefitYard$Board" ∈ zT := zT_of 119 rfl rfl
set_option maxRecDepth 20000 in
theorem kw_120 : Cond.instantiable "RefitYard$Board" (3 : Nat) ∈ zT := zT_of 120 rfl rfl
theorem nw_X6_23 : zNw RX6 23 1 3 := ⟨RX0, TX0, rfl, by decide, by decide, ui_X0, tyX0_ok, kw_119, kw_120, kw_39, by decide⟩
set_option maxRecDepth 20000 in
theorem kw_122 : Cond.instanceMethod ⟨"RefitYard$Board", "<init>", "()V"⟩ ∈ zT := zT_of 122 rfl rfl
theorem mi_X6_25 : zMI RX6 25 mX0_init 0 := ⟨mmX0_init, rfl, rfl, kw_122, Or.inr ⟨"RefitYard", List.mem_of_getElem? (i := 2) rfl⟩⟩
set_option maxRecDepth 20000 in
theorem kw_190 : Cond.fieldLink "RefitYard" (26 : Nat) "RefitYard" "board" "LRefitYard$Board;" ∈ zT := zT_of 190 rfl rfl
theorem fl_X6_26 : zFl RX6 26 7 2 5 (.object "RefitYard$Board") true := ⟨RX6, TX6, 2, rfl, by decide, rfl, by decide, ui_X6, kw_190, rfl, tyX6_ok, nmX6, rfl, rfl⟩
set_option maxRecDepth 20000 in
theorem kw_142 : Cond.classLink "RefitYard" (30 : Nat) "RefitYard$Rules" ∈ zT := zT_of 142 rfl rfl
set_option maxRecDepth 20000 in
theorem kw_143 : Cond.instantiable "RefitYard$Rules" (5 : Nat) ∈ zT := zT_of 143 rfl rfl
theorem nw_X6_30 : zNw RX6 30 5 5 := ⟨RX4, TX4, rfl, by decide, by decide, ui_X4, tyX4_ok, kw_142, kw_143, kw_40, by decide⟩
set_option maxRecDepth 20000 in
theorem kw_145 : Cond.instanceMethod ⟨"RefitYard$Rules", "<init>", "(LRefitYard$Ground;LRefitYard$Net;LRefitYard$Board;)V"⟩ ∈ zT := zT_of 145 rfl rfl
set_option maxRecDepth 20000 in
theorem kw_144 : Cond.methodLink "RefitYard" (32 : Nat) ⟨"RefitYard$Rules", "<init>", "(LRefitYard$Ground;LRefitYard$Net;LRefitYard$Board;)V"⟩ ∈ zT := zT_of 144 rfl rfl
theorem mi_X6_32 : zMI RX6 32 mX4_init 3 := ⟨mmX4_init, rfl, rfl, kw_145, Or.inl kw_144⟩
set_option maxRecDepth 20000 in
theorem kw_191 : Cond.fieldLink "RefitYard" (35 : Nat) "RefitYard" "rules" "LRefitYard$Rules;" ∈ zT := zT_of 191 rfl rfl
theorem fl_X6_35 : zFl RX6 35 7 3 5 (.object "RefitYard$Rules") true := ⟨RX6, TX6, 3, rfl, by decide, rfl, by decide, ui_X6, kw_191, rfl, tyX6_ok, nmX6, rfl, rfl⟩
set_option maxRecDepth 20000 in
theorem kw_166 : Cond.classLink "RefitYard" (39 : Nat) "RefitYard$Orders" ∈ zT := zT_of 166 rfl rfl
set_option maxRecDepth 20000 in
theorem kw_167 : Cond.instantiable "RefitYard$Orders" (5 : Nat) ∈ zT := zT_of 167 rfl rfl
theorem nw_X6_39 : zNw RX6 39 4 5 := ⟨RX3, TX3, rfl, by decide, by decide, ui_X3, tyX3_ok, kw_166, kw_167, kw_41, by decide⟩
set_option maxRecDepth 20000 in
theorem kw_169 : Cond.instanceMethod ⟨"RefitYard$Orders", "<init>", "(LRefitYard$Net;LRefitYard$Board;LRefitYard$Rules;)V"⟩ ∈ zT := zT_of 169 rfl rfl
set_option maxRecDepth 20000 in
theorem kw_168 : Cond.methodLink "RefitYard" (41 : Nat) ⟨"RefitYard$Orders", "<init>", "(LRefitYard$Net;LRefitYard$Board;LRefitYard$Rules;)V"⟩ ∈ zT := zT_of 168 rfl rfl
theorem mi_X6_41 : zMI RX6 41 mX3_init 3 := ⟨mmX3_init, rfl, rfl, kw_169, Or.inl kw_168⟩
set_option maxRecDepth 20000 in
theorem kw_192 : Cond.fieldLink "RefitYard" (44 : Nat) "RefitYard" "orders" "LRefitYard$Orders;" ∈ zT := zT_of 192 rfl rfl
theorem fl_X6_44 : zFl RX6 44 7 4 5 (.object "RefitYard$Orders") true := ⟨RX6, TX6, 4, rfl, by decide, rfl, by decide, ui_X6, kw_192, rfl, tyX6_ok, nmX6, rfl, rfl⟩
def mX6_space : zF := (yX6_space, cX6_space, 2, (some .int))
set_option maxRecDepth 20000 in
theorem kc_172 : Cond.code yX6_space cX6_space 2 (some .int) ∈ zT := zT_of 207 rfl rfl
theorem mmX6_space : zMm mX6_space 1 := ⟨kw_36, kc_172, by decide +kernel, by decide⟩
set_option maxRecDepth 20000 in
theorem kw_66 : Cond.fieldLink "RefitYard" (48 : Nat) "RefitYard$Ground" "spaces" "I" ∈ zT := zT_of 66 rfl rfl
theorem fl_X6_48 : zFl RX6 48 2 3 5 .int false := ⟨RX1, TX1, 3, rfl, by decide, rfl, by decide, ui_X1, kw_66, rfl, tyX1_ok, nmX1, rfl, rfl⟩
set_option maxRecDepth 20000 in
theorem kw_208 : Cond.methodLink "RefitYard" (52 : Nat) ⟨"RefitYard$Ground", "addSpace", "(I)I"⟩ ∈ zT := zT_of 208 rfl rfl
set_option maxRecDepth 20000 in
theorem kw_209 : Cond.instanceMethod ⟨"RefitYard$Ground", "addSpace", "(I)I"⟩ ∈ zT := zT_of 209 rfl rfl
set_option maxRecDepth 20000 in
theorem kw_210 : Cond.selects "RefitYard$Ground" ⟨"RefitYard$Ground", "addSpace", "(I)I"⟩ ⟨"RefitYard$Ground", "addSpace", "(I)I"⟩ ∈ zT := zT_of 210 rfl rfl
theorem mv_X6_52 : zMV RX6 52 mX1_addSpace 1 2 5 := ⟨mmX1_addSpace, ⟨kw_208, kw_209, kw_210⟩, TX1, rfl, by decide, by decide⟩
def mX6_near : zF := (yX6_near, cX6_near, 3, (some .boolean))
set_option maxRecDepth 20000 in
theorem kc_180 : Cond.code yX6_near cX6_near 3 (some .boolean) ∈ zT := zT_of 215 rfl rfl
theorem mmX6_near : zMm mX6_near 2 := ⟨kw_36, kc_180, by decide +kernel, by decide⟩
set_option maxRecDepth 20000 in
theorem kw_216 : Cond.methodLink "RefitYard" (56 : Nat) ⟨"RefitYard$Ground", "hasSpace", "(I)Z"⟩ ∈ zT := zT_of 216 rfl rfl
set_option maxRecDepth 20000 in
theorem kw_217 : Cond.instanceMethod ⟨"RefitYard$Ground", "hasSpace", "(I)Z"⟩ ∈ zT := zT_of 217 rfl rfl
set_option maxRecDepth 20000 in
theorem kw_218 : Cond.selects "RefitYard$Ground" ⟨"RefitYard$Ground", "hasSpace", "(I)Z"⟩ ⟨"RefitYard$Ground", "hasSpace", "(I)Z"⟩ ∈ zT := zT_of 218 rfl rfl
theorem mv_X6_56 : zMV RX6 56 mX1_hasSpace 1 2 5 := ⟨mmX1_hasSpace, ⟨kw_216, kw_217, kw_218⟩, TX1, rfl, by decide, by decide⟩
set_option maxRecDepth 20000 in
theorem kw_220 : Cond.methodLink "RefitYard" (60 : Nat) ⟨"RefitYard$Ground", "areNear", "(II)Z"⟩ ∈ zT := zT_of 220 rfl rfl
theorem mv_X6_60 : zMV RX6 60 mX1_areNear 2 2 5 := ⟨mmX1_areNear, ⟨kw_220, kw_221, kw_222⟩, TX1, rfl, by decide, by decide⟩
set_option maxRecDepth 20000 in
theorem kw_224 : Cond.methodLink "RefitYard" (64 : Nat) ⟨"RefitYard$Ground", "join", "(II)V"⟩ ∈ zT := zT_of 224 rfl rfl
set_option maxRecDepth 20000 in
theorem kw_225 : Cond.instanceMethod ⟨"RefitYard$Ground", "join", "(II)V"⟩ ∈ zT := zT_of 225 rfl rfl
set_option maxRecDepth 20000 in
theorem kw_226 : Cond.selects "RefitYard$Ground" ⟨"RefitYard$Ground", "join", "(II)V"⟩ ⟨"RefitYard$Ground", "join", "(II)V"⟩ ∈ zT := zT_of 226 rfl rfl
theorem mv_X6_64 : zMV RX6 64 mX1_join 2 2 5 := ⟨mmX1_join, ⟨kw_224, kw_225, kw_226⟩, TX1, rfl, by decide, by decide⟩
set_option maxRecDepth 20000 in
theorem kw_228 : Cond.methodLink "RefitYard" (68 : Nat) ⟨"RefitYard$Rules", "markFoes", "()V"⟩ ∈ zT := zT_of 228 rfl rfl
set_option maxRecDepth 20000 in
theorem kw_229 : Cond.instanceMethod ⟨"RefitYard$Rules", "markFoes", "()V"⟩ ∈ zT := zT_of 229 rfl rfl
set_option maxRecDepth 20000 in
theorem kw_230 : Cond.selects "RefitYard$Rules" ⟨"RefitYard$Rules", "markFoes", "()V"⟩ ⟨"RefitYard$Rules", "markFoes", "()V"⟩ ∈ zT := zT_of 230 rfl rfl
theorem mv_X6_68 : zMV RX6 68 mX4_markFoes 0 5 5 := ⟨mmX4_markFoes, ⟨kw_228, kw_229, kw_230⟩, TX4, rfl, by decide, by decide⟩
def mX6_gang : zF := (yX6_gang, cX6_gang, 3, (some .boolean))
set_option maxRecDepth 20000 in
theorem kc_213 : Cond.code yX6_gang cX6_gang 3 (some .boolean) ∈ zT := zT_of 248 rfl rfl
theorem mmX6_gang : zMm mX6_gang 2 := ⟨kw_36, kc_213, by decide +kernel, by decide⟩
def mX6_isTrade : zF := (yX6_isTrade, cX6_isTrade, 1, (some .boolean))
set_option maxRecDepth 20000 in
theorem kc_216 : Cond.code yX6_isTrade cX6_isTrade 1 (some .boolean) ∈ zT := zT_of 251 rfl rfl
theorem mmX6_isTrade : zMm mX6_isTrade 1 := ⟨kw_36, kc_216, by decide +kernel, by decide⟩
set_option maxRecDepth 20000 in
theorem kw_249 : Cond.methodLink "RefitYard" (71 : Nat) ⟨"RefitYard", "isTrade", "(I)Z"⟩ ∈ zT := zT_of 249 rfl rfl
set_option maxRecDepth 20000 in
theorem kw_250 : Cond.static ⟨"RefitYard", "isTrade", "(I)Z"⟩ ∈ zT := zT_of 250 rfl rfl
theorem ms_X6_71 : zMS RX6 71 mX6_isTrade 1 := ⟨mmX6_isTrade, kw_249, kw_250⟩
set_option maxRecDepth 20000 in
theorem kw_149 : Cond.fieldLink "RefitYard" (74 : Nat) "RefitYard$Rules" "gangs" "[I" ∈ zT := zT_of 149 rfl rfl
theorem fl_X6_74 : zFl RX6 74 5 0 5 (.array .int) true := ⟨RX4, TX4, 0, rfl, by decide, rfl, by decide, ui_X4, kw_149, rfl, tyX4_ok, nmX4, rfl, rfl⟩
def mX6_good : zF := (yX6_good, cX6_good, 3, (some .boolean))
set_option maxRecDepth 20000 in
theorem kc_220 : Cond.code yX6_good cX6_good 3 (some .boolean) ∈ zT := zT_of 255 rfl rfl
theorem mmX6_good : zMm mX6_good 2 := ⟨kw_36, kc_220, by decide +kernel, by decide⟩
def mX6_isGood : zF := (yX6_isGood, cX6_isGood, 1, (some .boolean))
set_option maxRecDepth 20000 in
theorem kc_223 : Cond.code yX6_isGood cX6_isGood 1 (some .boolean) ∈ zT := zT_of 258 rfl rfl
theorem mmX6_isGood : zMm mX6_isGood 1 := ⟨kw_36, kc_223, by decide +kernel, by decide⟩
set_option maxRecDepth 20000 in
theorem kw_256 : Cond.methodLink "RefitYard" (78 : Nat) ⟨"RefitYard", "isGood", "(I)Z"⟩ ∈ zT := zT_of 256 rfl rfl
set_option maxRecDepth 20000 in
theorem kw_257 : Cond.static ⟨"RefitYard", "isGood", "(I)Z"⟩ ∈ zT := zT_of 257 rfl rfl
theorem ms_X6_78 : zMS RX6 78 mX6_isGood 1 := ⟨mmX6_isGood, kw_256, kw_257⟩
set_option maxRecDepth 20000 in
theorem kw_151 : Cond.fieldLink "RefitYard" (81 : Nat) "RefitYard$Rules" "goods" "[I" ∈ zT := zT_of 151 rfl rfl
theorem fl_X6_81 : zFl RX6 81 5 1 5 (.array .int) true := ⟨RX4, TX4, 1, rfl, by decide, rfl, by decide, ui_X4, kw_151, rfl, tyX4_ok, nmX4, rfl, rfl⟩
def mX6_bar : zF := (yX6_bar, cX6_bar, 4, (some .boolean))
set_option maxRecDepth 20000 in
theorem kc_227 : Cond.code yX6_bar cX6_bar 4 (some .boolean) ∈ zT := zT_of 262 rfl rfl
theorem mmX6_bar : zMm mX6_bar 3 := ⟨kw_36, kc_227, by decide +kernel, by decide⟩
def mX6_isKind : zF := (yX6_isKind, cX6_isKind, 1, (some .boolean))
set_option maxRecDepth 20000 in
theorem kc_230 : Cond.code yX6_isKind cX6_isKind 1 (some .boolean) ∈ zT := zT_of 265 rfl rfl
theorem mmX6_isKind : zMm mX6_isKind 1 := ⟨kw_36, kc_230, by decide +kernel, by decide⟩
set_option maxRecDepth 20000 in
theorem kw_263 : Cond.methodLink "RefitYard" (84 : Nat) ⟨"RefitYard", "isKind", "(I)Z"⟩ ∈ zT := zT_of 263 rfl rfl
set_option maxRecDepth 20000 in
theorem kw_264 : Cond.static ⟨"RefitYard", "isKind", "(I)Z"⟩ ∈ zT := zT_of 264 rfl rfl
theorem ms_X6_84 : zMS RX6 84 mX6_isKind 1 := ⟨mmX6_isKind, kw_263, kw_264⟩
set_option maxRecDepth 20000 in
theorem kw_266 : Cond.methodLink "RefitYard" (87 : Nat) ⟨"RefitYard$Ground", "isBarred", "(III)Z"⟩ ∈ zT := zT_of 266 rfl rfl
theorem mv_X6_87 : zMV RX6 87 mX1_isBarred 3 2 5 := ⟨mmX1_isBarred, ⟨kw_266, kw_241, kw_242⟩, TX1, rfl, by decide, by decide⟩
set_option maxRecDepth 20000 in
theorem kw_267 : Cond.methodLink "RefitYard" (91 : Nat) ⟨"RefitYard$Ground", "forbid", "(III)V"⟩ ∈ zT := zT_of 267 rfl rfl
set_option maxRecDepth 20000 in
theorem kw_268 : Cond.instanceMethod ⟨"RefitYard$Ground", "forbid", "(III)V"⟩ ∈ zT := zT_of 268 rfl rfl
set_option maxRecDepth 20000 in
theorem kw_269 : Cond.selects "RefitYard$Ground" ⟨"RefitYard$Ground", "forbid", "(III)V"⟩ ⟨"RefitYard$Ground", "forbid", "(III)V"⟩ ∈ zT := zT_of 269 rfl rfl
theorem mv_X6_91 : zMV RX6 91 mX1_forbid 3 2 5 := ⟨mmX1_forbid, ⟨kw_267, kw_268, kw_269⟩, TX1, rfl, by decide, by decide⟩
def mX6_work : zF := (yX6_work, cX6_work, 4, (some .int))
set_option maxRecDepth 20000 in
theorem kc_239 : Cond.code yX6_work cX6_work 4 (some .int) ∈ zT := zT_of 274 rfl rfl
theorem mmX6_work : zMm mX6_work 2 := ⟨kw_36, kc_239, by decide +kernel, by decide⟩
set_option maxRecDepth 20000 in
theorem kw_102 : Cond.fieldLink "RefitYard" (95 : Nat) "RefitYard$Net" "size" "I" ∈ zT := zT_of 102 rfl rfl
theorem fl_X6_95 : zFl RX6 95 3 4 6 .int false := ⟨RX2, TX2, 4, rfl, by decide, rfl, by decide, ui_X2, kw_102, rfl, tyX2_ok, nmX2, rfl, rfl⟩
set_option maxRecDepth 20000 in
theorem kw_275 : Cond.classLink "RefitYard" (98 : Nat) "RefitYard$Work" ∈ zT := zT_of 275 rfl rfl
set_option maxRecDepth 20000 in
theorem kw_276 : Cond.instantiable "RefitYard$Work" (16 : Nat) ∈ zT := zT_of 276 rfl rfl
theorem nw_X6_98 : zNw RX6 98 6 16 := ⟨RX5, TX5, rfl, by decide, by decide, ui_X5, tyX5_ok, kw_275, kw_276, kw_43, by decide⟩
set_option maxRecDepth 20000 in
theorem kw_278 : Cond.instanceMethod ⟨"RefitYard$Work", "<init>", "(III)V"⟩ ∈ zT := zT_of 278 rfl rfl
set_option maxRecDepth 20000 in
theorem kw_277 : Cond.methodLink "RefitYard" (100 : Nat) ⟨"RefitYard$Work", "<init>", "(III)V"⟩ ∈ zT := zT_of 277 rfl rfl
theorem mi_X6_100 : zMI RX6 100 mX5_init 3 := ⟨mmX5_init, rfl, rfl, kw_278, Or.inl kw_277⟩
def mX6_canBe : zF := (yX6_canBe, cX6_canBe, 2, (some .boolean))
set_option maxRecDepth 20000 in
theorem kc_339 : Cond.code yX6_canBe cX6_canBe 2 (some .boolean) ∈ zT := zT_of 374 rfl rfl
theorem mmX6_canBe : zMm mX6_canBe 1 := ⟨kw_36, kc_339, by decide +kernel, by decide⟩
set_option maxRecDepth 20000 in
theorem kw_371 : Cond.methodLink "RefitYard" (102 : Nat) ⟨"RefitYard", "canBe", "(LRefitYard$Work;)Z"⟩ ∈ zT := zT_of 371 rfl rfl
set_option maxRecDepth 20000 in
theorem kw_373 : Cond.instanceMethod ⟨"RefitYard", "canBe", "(LRefitYard$Work;)Z"⟩ ∈ zT := zT_of 373 rfl rfl
set_option maxRecDepth 20000 in
theorem kw_1 : Cond.selects "RefitYard" ⟨"RefitYard", "canBe", "(LRefitYard$Work;)Z"⟩ ⟨"RefitYard", "canBe", "(LRefitYard$Work;)Z"⟩ ∈ zT := zT_of 1 rfl rfl
theorem mv_X6_102 : zMV RX6 102 mX6_canBe 1 7 5 := ⟨mmX6_canBe, ⟨kw_371, kw_373, kw_1⟩, TX6, rfl, by decide, by decide⟩
set_option maxRecDepth 20000 in
theorem kw_375 : Cond.methodLink "RefitYard" (106 : Nat) ⟨"RefitYard$Net", "addWork", "(LRefitYard$Work;)V"⟩ ∈ zT := zT_of 375 rfl rfl
set_option maxRecDepth 20000 in
theorem kw_376 : Cond.instanceMethod ⟨"RefitYard$Net", "addWork", "(LRefitYard$Work;)V"⟩ ∈ zT := zT_of 376 rfl rfl
set_option maxRecDepth 20000 in
theorem kw_377 : Cond.selects "RefitYard$Net" ⟨"RefitYard$Net", "addWork", "(LRefitYard$Work;)V"⟩ ⟨"RefitYard$Net", "addWork", "(LRefitYard$Work;)V"⟩ ∈ zT := zT_of 377 rfl rfl
theorem mv_X6_106 : zMV RX6 106 mX2_addWork 1 3 6 := ⟨mmX2_addWork, ⟨kw_375, kw_376, kw_377⟩, TX2, rfl, by decide, by decide⟩
set_option maxRecDepth 20000 in
theorem kw_283 : Cond.fieldLink "RefitYard" (110 : Nat) "RefitYard$Work" "number" "I" ∈ zT := zT_of 283 rfl rfl
theorem fl_X6_110 : zFl RX6 110 6 0 16 .int true := ⟨RX5, TX5, 0, rfl, by decide, rfl, by decide, ui_X5, kw_283, rfl, tyX5_ok, nmX5, rfl, rfl⟩
def mX6_need : zF := (yX6_need, cX6_need, 5, (some .boolean))
set_option maxRecDepth 20000 in
theorem kc_380 : Cond.code yX6_need cX6_need 5 (some .boolean) ∈ zT := zT_of 415 rfl rfl
theorem mmX6_need : zMm mX6_need 2 := ⟨kw_36, kc_380, by decide +kernel, by decide⟩
set_option maxRecDepth 20000 in
theorem kw_416 : Cond.methodLink "RefitYard" (113 : Nat) ⟨"RefitYard$Net", "find", "(I)LRefitYard$Work;"⟩ ∈ zT := zT_of 416 rfl rfl
set_option maxRecDepth 20000 in
theorem kw_417 : Cond.instanceMethod ⟨"RefitYard$Net", "find", "(I)LRefitYard$Work;"⟩ ∈ zT := zT_of 417 rfl rfl
set_option maxRecDepth 20000 in
theorem kw_418 : Cond.selects "RefitYard$Net" ⟨"RefitYard$Net", "find", "(I)LRefitYard$Work;"⟩ ⟨"RefitYard$Net", "find", "(I)LRefitYard$Work;"⟩ ∈ zT := zT_of 418 rfl rfl
theorem mv_X6_113 : zMV RX6 113 mX2_find 1 3 6 := ⟨mmX2_find, ⟨kw_416, kw_417, kw_418⟩, TX2, rfl, by decide, by decide⟩
def mX6_mayLean : zF := (yX6_mayLean, cX6_mayLean, 3, (some .boolean))
set_option maxRecDepth 20000 in
theorem kc_388 : Cond.code yX6_mayLean cX6_mayLean 3 (some .boolean) ∈ zT := zT_of 423 rfl rfl
theorem mmX6_mayLean : zMm mX6_mayLean 2 := ⟨kw_36, kc_388, by decide +kernel, by decide⟩
set_option maxRecDepth 20000 in
theorem kw_420 : Cond.methodLink "RefitYard" (117 : Nat) ⟨"RefitYard", "mayLean", "(LRefitYard$Work;LRefitYard$Work;)Z"⟩ ∈ zT := zT_of 420 rfl rfl
set_option maxRecDepth 20000 in
theorem kw_422 : Cond.instanceMethod ⟨"RefitYard", "mayLean", "(LRefitYard$Work;LRefitYard$Work;)Z"⟩ ∈ zT := zT_of 422 rfl rfl
set_option maxRecDepth 20000 in
theorem kw_5 : Cond.selects "RefitYard" ⟨"RefitYard", "mayLean", "(LRefitYard$Work;LRefitYard$Work;)Z"⟩ ⟨"RefitYard", "mayLean", "(LRefitYard$Work;LRefitYard$Work;)Z"⟩ ∈ zT := zT_of 5 rfl rfl
theorem mv_X6_117 : zMV RX6 117 mX6_mayLean 2 7 5 := ⟨mmX6_mayLean, ⟨kw_420, kw_422, kw_5⟩, TX6, rfl, by decide, by decide⟩
set_option maxRecDepth 20000 in
theorem kw_436 : Cond.methodLink "RefitYard" (121 : Nat) ⟨"RefitYard$Work", "leansOn", "(LRefitYard$Work;)Z"⟩ ∈ zT := zT_of 436 rfl rfl
theorem mv_X6_121 : zMV RX6 121 mX5_leansOn 1 6 16 := ⟨mmX5_leansOn, ⟨kw_436, kw_398, kw_399⟩, TX5, rfl, by decide, by decide⟩
set_option maxRecDepth 20000 in
theorem kw_437 : Cond.methodLink "RefitYard" (124 : Nat) ⟨"RefitYard$Net", "link", "(LRefitYard$Work;LRefitYard$Work;)V"⟩ ∈ zT := zT_of 437 rfl rfl
set_option maxRecDepth 20000 in
theorem kw_438 : Cond.instanceMethod ⟨"RefitYard$Net", "link", "(LRefitYard$Work;LRefitYard$Work;)V"⟩ ∈ zT := zT_of 438 rfl rfl
set_option maxRecDepth 20000 in
theorem kw_439 : Cond.selects "RefitYard$Net" ⟨"RefitYard$Net", "link", "(LRefitYard$Work;LRefitYard$Work;)V"⟩ ⟨"RefitYard$Net", "link", "(LRefitYard$Work;LRefitYard$Work;)V"⟩ ∈ zT := zT_of 439 rfl rfl
theorem mv_X6_124 : zMV RX6 124 mX2_link 2 3 6 := ⟨mmX2_link, ⟨kw_437, kw_438, kw_439⟩, TX2, rfl, by decide, by decide⟩
def mX6_tells : zF := (yX6_tells, cX6_tells, 5, (some .boolean))
set_option maxRecDepth 20000 in
theorem kc_410 : Cond.code yX6_tells cX6_tells 5 (some .boolean) ∈ zT := zT_of 445 rfl rfl
theorem mmX6_tells : zMm mX6_tells 2 := ⟨kw_36, kc_410, by decide +kernel, by decide⟩
set_option maxRecDepth 20000 in
theorem kw_306 : Cond.fieldLink "RefitYard" (128 : Nat) "RefitYard$Work" "kind" "I" ∈ zT := zT_of 306 rfl rfl
theorem fl_X6_128 : zFl RX6 128 6 5 16 .int true := ⟨RX5, TX5, 5, rfl, by decide, rfl, by decide, ui_X5, kw_306, rfl, tyX5_ok, nmX5, rfl, rfl⟩
set_option maxRecDepth 20000 in
theorem kw_335 : Cond.fieldLink "RefitYard" (131 : Nat) "RefitYard$Work" "toldOf" "J" ∈ zT := zT_of 335 rfl rfl
theorem fl_X6_131 : zFl RX6 131 6 14 16 .long false := ⟨RX5, TX5, 14, rfl, by decide, rfl, by decide, ui_X5, kw_335, rfl, tyX5_ok, nmX5, rfl, rfl⟩
set_option maxRecDepth 20000 in
theorem kw_288 : Cond.fieldLink "RefitYard" (135 : Nat) "RefitYard$Work" "bit" "J" ∈ zT := zT_of 288 rfl rfl
theorem fl_X6_135 : zFl RX6 135 6 1 16 .long true := ⟨RX5, TX5, 1, rfl, by decide, rfl, by decide, ui_X5, kw_288, rfl, tyX5_ok, nmX5, rfl, rfl⟩
def mX6_put : zF := (yX6_put, cX6_put, 4, (some .boolean))
set_option maxRecDepth 20000 in
theorem kc_414 : Cond.code yX6_put cX6_put 4 (some .boolean) ∈ zT := zT_of 449 rfl rfl
theorem mmX6_put : zMm mX6_put 2 := ⟨kw_36, kc_414, by decide +kernel, by decide⟩
set_option maxRecDepth 20000 in
theorem kw_133 : Cond.fieldLink "RefitYard" (138 : Nat) "RefitYard$Board" "now" "I" ∈ zT := zT_of 133 rfl rfl
theorem fl_X6_138 : zFl RX6 138 1 2 3 .int false := ⟨RX0, TX0, 2, rfl, by decide, rfl, by decide, ui_X0, kw_133, rfl, tyX0_ok, nmX0, rfl, rfl⟩
set_option maxRecDepth 20000 in
theorem kw_428 : Cond.methodLink "RefitYard" (141 : Nat) ⟨"RefitYard$Work", "hasBegun", "(I)Z"⟩ ∈ zT := zT_of 428 rfl rfl
set_option maxRecDepth 20000 in
theorem kw_429 : Cond.instanceMethod ⟨"RefitYard$Work", "hasBegun", "(I)Z"⟩ ∈ zT := zT_of 429 rfl rfl
set_option maxRecDepth 20000 in
theorem kw_430 : Cond.selects "RefitYard$Work" ⟨"RefitYard$Work", "hasBegun", "(I)Z"⟩ ⟨"RefitYard$Work", "hasBegun", "(I)Z"⟩ ∈ zT := zT_of 430 rfl rfl
theorem mv_X6_141 : zMV RX6 141 mX5_hasBegun 1 6 16 := ⟨mmX5_hasBegun, ⟨kw_428, kw_429, kw_430⟩, TX5, rfl, by decide, by decide⟩
set_option maxRecDepth 20000 in
theorem kw_315 : Cond.fieldLink "RefitYard" (144 : Nat) "RefitYard$Work" "length" "I" ∈ zT := zT_of 315 rfl rfl
theorem fl_X6_144 : zFl RX6 144 6 7 16 .int false := ⟨RX5, TX5, 7, rfl, by decide, rfl, by decide, ui_X5, kw_315, rfl, tyX5_ok, nmX5, rfl, rfl⟩
set_option maxRecDepth 20000 in
theorem kw_450 : Cond.methodLink "RefitYard" (147 : Nat) ⟨"RefitYard$Board", "lift", "(LRefitYard$Work;)V"⟩ ∈ zT := zT_of 450 rfl rfl
theorem mv_X6_147 : zMV RX6 147 mX0_lift 1 1 3 := ⟨mmX0_lift, ⟨kw_450, kw_451, kw_452⟩, TX0, rfl, by decide, by decide⟩
set_option maxRecDepth 20000 in
theorem kw_460 : Cond.methodLink "RefitYard" (150 : Nat) ⟨"RefitYard$Board", "lay", "(LRefitYard$Work;I)V"⟩ ∈ zT := zT_of 460 rfl rfl
theorem mv_X6_150 : zMV RX6 150 mX0_lay 2 1 3 := ⟨mmX0_lay, ⟨kw_460, kw_461, kw_462⟩, TX0, rfl, by decide, by decide⟩
def mX6_take : zF := (yX6_take, cX6_take, 3, (some .boolean))
set_option maxRecDepth 20000 in
theorem kc_432 : Cond.code yX6_take cX6_take 3 (some .boolean) ∈ zT := zT_of 467 rfl rfl
theorem mmX6_take : zMm mX6_take 1 := ⟨kw_36, kc_432, by decide +kernel, by decide⟩
set_option maxRecDepth 20000 in
theorem kw_468 : Cond.methodLink "RefitYard" (154 : Nat) ⟨"RefitYard$Work", "isOpen", "()Z"⟩ ∈ zT := zT_of 468 rfl rfl
theorem mv_X6_154 : zMV RX6 154 mX5_isOpen 0 6 16 := ⟨mmX5_isOpen, ⟨kw_468, kw_433, kw_434⟩, TX5, rfl, by decide, by decide⟩
def mX6_may : zF := (yX6_may, cX6_may, 3, (some .boolean))
set_option maxRecDepth 20000 in
theorem kc_437 : Cond.code yX6_may cX6_may 3 (some .boolean) ∈ zT := zT_of 472 rfl rfl
theorem mmX6_may : zMm mX6_may 2 := ⟨kw_36, kc_437, by decide +kernel, by decide⟩
def mX6_first : zF := (yX6_first, cX6_first, 4, (some .int))
set_option maxRecDepth 20000 in
theorem kc_441 : Cond.code yX6_first cX6_first 4 (some .int) ∈ zT := zT_of 476 rfl rfl
theorem mmX6_first : zMm mX6_first 2 := ⟨kw_36, kc_441, by decide +kernel, by decide⟩
set_option maxRecDepth 20000 in
theorem kw_473 : Cond.methodLink "RefitYard" (158 : Nat) ⟨"RefitYard", "first", "(II)I"⟩ ∈ zT := zT_of 473 rfl rfl
set_option maxRecDepth 20000 in
theorem kw_474 : Cond.instanceMethod ⟨"RefitYard", "first", "(II)I"⟩ ∈ zT := zT_of 474 rfl rfl
set_option maxRecDepth 20000 in
theorem kw_475 : Cond.selects "RefitYard" ⟨"RefitYard", "first", "(II)I"⟩ ⟨"RefitYard", "first", "(II)I"⟩ ∈ zT := zT_of 475 rfl rfl
theorem mv_X6_158 : zMV RX6 158 mX6_first 2 7 5 := ⟨mmX6_first, ⟨kw_473, kw_474, kw_475⟩, TX6, rfl, by decide, by decide⟩
set_option maxRecDepth 20000 in
theorem kw_477 : Cond.methodLink "RefitYard" (162 : Nat) ⟨"RefitYard$Rules", "firstPlace", "(LRefitYard$Work;I)I"⟩ ∈ zT := zT_of 477 rfl rfl
theorem mv_X6_162 : zMV RX6 162 mX4_firstPlace 2 5 5 := ⟨mmX4_firstPlace, ⟨kw_477, kw_478, kw_479⟩, TX4, rfl, by decide, by decide⟩
def mX6_why : zF := (yX6_why, cX6_why, 5, (some .int))
set_option maxRecDepth 20000 in
theorem kc_485 : Cond.code yX6_why cX6_why 5 (some .int) ∈ zT := zT_of 520 rfl rfl
theorem mmX6_why : zMm mX6_why 1 := ⟨kw_36, kc_485, by decide +kernel, by decide⟩
set_option maxRecDepth 20000 in
theorem kw_92 : Cond.fieldLink "RefitYard" (166 : Nat) "RefitYard$Net" "works" "[LRefitYard$Work;" ∈ zT := zT_of 92 rfl rfl
theorem fl_X6_166 : zFl RX6 166 3 0 6 (.array (.object "RefitYard$Work")) true := ⟨RX2, TX2, 0, rfl, by decide, rfl, by decide, ui_X2, kw_92, rfl, tyX2_ok, nmX2, rfl, rfl⟩
set_option maxRecDepth 20000 in
theorem kw_521 : Cond.methodLink "RefitYard" (170 : Nat) ⟨"RefitYard$Rules", "leastBroken", "(LRefitYard$Work;)I"⟩ ∈ zT := zT_of 521 rfl rfl
set_option maxRecDepth 20000 in
theorem kw_522 : Cond.instanceMethod ⟨"RefitYard$Rules", "leastBroken", "(LRefitYard$Work;)I"⟩ ∈ zT := zT_of 522 rfl rfl
set_option maxRecDepth 20000 in
theorem kw_523 : Cond.selects "RefitYard$Rules" ⟨"RefitYard$Rules", "leastBroken", "(LRefitYard$Work;)I"⟩ ⟨"RefitYard$Rules", "leastBroken", "(LRefitYard$Work;)I"⟩ ∈ zT := zT_of 523 rfl rfl
theorem mv_X6_170 : zMV RX6 170 mX4_leastBroken 1 5 5 := ⟨mmX4_leastBroken, ⟨kw_521, kw_522, kw_523⟩, TX4, rfl, by decide, by decide⟩
def mX6_partOfBreak : zF := (yX6_partOfBreak, cX6_partOfBreak, 4, (some .int))
set_option maxRecDepth 20000 in
theorem kc_503 : Cond.code yX6_partOfBreak cX6_partOfBreak 4 (some .int) ∈ zT := zT_of 538 rfl rfl
theorem mmX6_partOfBreak : zMm mX6_partOfBreak 3 := ⟨kw_36, kc_503, by decide +kernel, by decide⟩
set_option maxRecDepth 20000 in
theorem kw_535 : Cond.methodLink "RefitYard" (174 : Nat) ⟨"RefitYard", "partOfBreak", "(LRefitYard$Work;II)I"⟩ ∈ zT := zT_of 535 rfl rfl
set_option maxRecDepth 20000 in
theorem kw_537 : Cond.instanceMethod ⟨"RefitYard", "partOfBreak", "(LRefitYard$Work;II)I"⟩ ∈ zT := zT_of 537 rfl rfl
set_option maxRecDepth 20000 in
theorem kw_12 : Cond.selects "RefitYard" ⟨"RefitYard", "partOfBreak", "(LRefitYard$Work;II)I"⟩ ⟨"RefitYard", "partOfBreak", "(LRefitYard$Work;II)I"⟩ ∈ zT := zT_of 12 rfl rfl
theorem mv_X6_174 : zMV RX6 174 mX6_partOfBreak 3 7 5 := ⟨mmX6_partOfBreak, ⟨kw_535, kw_537, kw_12⟩, TX6, rfl, by decide, by decide⟩
def mX6_told : zF := (yX6_told, cX6_told, 4, (some .int))
set_option maxRecDepth 20000 in
theorem kc_508 : Cond.code yX6_told cX6_told 4 (some .int) ∈ zT := zT_of 543 rfl rfl
theorem mmX6_told : zMm mX6_told 2 := ⟨kw_36, kc_508, by decide +kernel, by decide⟩
set_option maxRecDepth 20000 in
theorem kw_292 : Cond.fieldLink "RefitYard" (178 : Nat) "RefitYard$Work" "trade" "I" ∈ zT := zT_of 292 rfl rfl
theorem fl_X6_178 : zFl RX6 178 6 2 16 .int true := ⟨RX5, TX5, 2, rfl, by decide, rfl, by decide, ui_X5, kw_292, rfl, tyX5_ok, nmX5, rfl, rfl⟩
set_option maxRecDepth 20000 in
theorem kw_297 : Cond.fieldLink "RefitYard" (181 : Nat) "RefitYard$Work" "hands" "I" ∈ zT := zT_of 297 rfl rfl
theorem fl_X6_181 : zFl RX6 181 6 3 16 .int true := ⟨RX5, TX5, 3, rfl, by decide, rfl, by decide, ui_X5, kw_297, rfl, tyX5_ok, nmX5, rfl, rfl⟩
set_option maxRecDepth 20000 in
theorem kw_303 : Cond.fieldLink "RefitYard" (184 : Nat) "RefitYard$Work" "space" "I" ∈ zT := zT_of 303 rfl rfl
theorem fl_X6_184 : zFl RX6 184 6 4 16 .int true := ⟨RX5, TX5, 4, rfl, by decide, rfl, by decide, ui_X5, kw_303, rfl, tyX5_ok, nmX5, rfl, rfl⟩
set_option maxRecDepth 20000 in
theorem kw_310 : Cond.fieldLink "RefitYard" (187 : Nat) "RefitYard$Work" "good" "I" ∈ zT := zT_of 310 rfl rfl
theorem fl_X6_187 : zFl RX6 187 6 6 16 .int true := ⟨RX5, TX5, 6, rfl, by decide, rfl, by decide, ui_X5, kw_310, rfl, tyX5_ok, nmX5, rfl, rfl⟩
def mX6_stateOf : zF := (yX6_stateOf, cX6_stateOf, 2, (some .int))
set_option maxRecDepth 20000 in
theorem kc_512 : Cond.code yX6_stateOf cX6_stateOf 2 (some .int) ∈ zT := zT_of 547 rfl rfl
theorem mmX6_stateOf : zMm mX6_stateOf 1 := ⟨kw_36, kc_512, by decide +kernel, by decide⟩
set_option maxRecDepth 20000 in
theorem kw_544 : Cond.methodLink "RefitYard" (190 : Nat) ⟨"RefitYard", "stateOf", "(LRefitYard$Work;)I"⟩ ∈ zT := zT_of 544 rfl rfl
set_option maxRecDepth 20000 in
theorem kw_546 : Cond.instanceMethod ⟨"RefitYard", "stateOf", "(LRefitYard$Work;)I"⟩ ∈ zT := zT_of 546 rfl rfl
set_option maxRecDepth 20000 in
theorem kw_13 : Cond.selects "RefitYard" ⟨"RefitYard", "stateOf", "(LRefitYard$Work;)I"⟩ ⟨"RefitYard", "stateOf", "(LRefitYard$Work;)I"⟩ ∈ zT := zT_of 13 rfl rfl
theorem mv_X6_190 : zMV RX6 190 mX6_stateOf 1 7 5 := ⟨mmX6_stateOf, ⟨kw_544, kw_546, kw_13⟩, TX6, rfl, by decide, by decide⟩
set_option maxRecDepth 20000 in
theorem kw_322 : Cond.fieldLink "RefitYard" (193 : Nat) "RefitYard$Work" "shift" "I" ∈ zT := zT_of 322 rfl rfl
theorem fl_X6_193 : zFl RX6 193 6 8 16 .int false := ⟨RX5, TX5, 8, rfl, by decide, rfl, by decide, ui_X5, kw_322, rfl, tyX5_ok, nmX5, rfl, rfl⟩
set_option maxRecDepth 20000 in
theorem kw_326 : Cond.fieldLink "RefitYard" (196 : Nat) "RefitYard$Work" "early" "I" ∈ zT := zT_of 326 rfl rfl
theorem fl_X6_196 : zFl RX6 196 6 10 16 .int false := ⟨RX5, TX5, 10, rfl, by decide, rfl, by decide, ui_X5, kw_326, rfl, tyX5_ok, nmX5, rfl, rfl⟩
set_option maxRecDepth 20000 in
theorem kw_329 : Cond.fieldLink "RefitYard" (199 : Nat) "RefitYard$Work" "tail" "I" ∈ zT := zT_of 329 rfl rfl
theorem fl_X6_199 : zFl RX6 199 6 11 16 .int false := ⟨RX5, TX5, 11, rfl, by decide, rfl, by decide, ui_X5, kw_329, rfl, tyX5_ok, nmX5, rfl, rfl⟩
set_option maxRecDepth 20000 in
theorem kw_553 : Cond.methodLink "RefitYard" (202 : Nat) ⟨"RefitYard$Net", "slackOf", "(LRefitYard$Work;)I"⟩ ∈ zT := zT_of 553 rfl rfl
theorem mv_X6_202 : zMV RX6 202 mX2_slackOf 1 3 6 := ⟨mmX2_slackOf, ⟨kw_553, kw_554, kw_555⟩, TX2, rfl, by decide, by decide⟩
set_option maxRecDepth 20000 in
theorem kw_332 : Cond.fieldLink "RefitYard" (205 : Nat) "RefitYard$Work" "needs" "J" ∈ zT := zT_of 332 rfl rfl
theorem fl_X6_205 : zFl RX6 205 6 12 16 .long false := ⟨RX5, TX5, 12, rfl, by decide, rfl, by decide, ui_X5, kw_332, rfl, tyX5_ok, nmX5, rfl, rfl⟩
set_option maxRecDepth 20000 in
theorem kw_557 : Cond.methodLink "RefitYard" (208 : Nat) ⟨"java/lang/Long", "bitCount", "(J)I"⟩ ∈ zT := zT_of 557 rfl rfl
theorem ms_X6_208 : zMS RX6 208 mJ13_bitCount_95d88 1 := ⟨mmJ13_bitCount_95d88, kw_557, kw_388⟩
set_option maxRecDepth 20000 in
theorem kw_323 : Cond.fieldLink "RefitYard" (214 : Nat) "RefitYard$Work" "reopened" "I" ∈ zT := zT_of 323 rfl rfl
theorem fl_X6_214 : zFl RX6 214 6 9 16 .int false := ⟨RX5, TX5, 9, rfl, by decide, rfl, by decide, ui_X5, kw_323, rfl, tyX5_ok, nmX5, rfl, rfl⟩
def mX6_load : zF := (yX6_load, cX6_load, 3, (some .int))
set_option maxRecDepth 20000 in
theorem kc_526 : Cond.code yX6_load cX6_load 3 (some .int) ∈ zT := zT_of 561 rfl rfl
theorem mmX6_load : zMm mX6_load 2 := ⟨kw_36, kc_526, by decide +kernel, by decide⟩
set_option maxRecDepth 20000 in
theorem kw_129 : Cond.fieldLink "RefitYard" (220 : Nat) "RefitYard$Board" "within" "[J" ∈ zT := zT_of 129 rfl rfl
theorem fl_X6_220 : zFl RX6 220 1 0 3 (.array .long) true := ⟨RX0, TX0, 0, rfl, by decide, rfl, by decide, ui_X0, kw_129, rfl, tyX0_ok, nmX0, rfl, rfl⟩
set_option maxRecDepth 20000 in
theorem kw_96 : Cond.fieldLink "RefitYard" (224 : Nat) "RefitYard$Net" "takers" "[J" ∈ zT := zT_of 96 rfl rfl
theorem fl_X6_224 : zFl RX6 224 3 2 6 (.array .long) true := ⟨RX2, TX2, 2, rfl, by decide, rfl, by decide, ui_X2, kw_96, rfl, tyX2_ok, nmX2, rfl, rfl⟩
set_option maxRecDepth 20000 in
theorem kw_132 : Cond.fieldLink "RefitYard" (217 : Nat) "RefitYard$Board" "hands" "[[I" ∈ zT := zT_of 132 rfl rfl
theorem fl_X6_217 : zFl RX6 217 1 1 3 (.array (.array .int)) true := ⟨RX0, TX0, 1, rfl, by decide, rfl, by decide, ui_X0, kw_132, rfl, tyX0_ok, nmX0, rfl, rfl⟩
def mX6_plan : zF := (yX6_plan, cX6_plan, 7, (some .int))
set_option maxRecDepth 20000 in
theorem kc_530 : Cond.code yX6_plan cX6_plan 7 (some .int) ∈ zT := zT_of 565 rfl rfl
theorem mmX6_plan : zMm mX6_plan 0 := ⟨kw_36, kc_530, by decide +kernel, by decide⟩
set_option maxRecDepth 20000 in
theorem kw_566 : Cond.methodLink "RefitYard" (227 : Nat) ⟨"RefitYard$Net", "mostPressing", "(J)LRefitYard$Work;"⟩ ∈ zT := zT_of 566 rfl rfl
set_option maxRecDepth 20000 in
theorem kw_567 : Cond.instanceMethod ⟨"RefitYard$Net", "mostPressing", "(J)LRefitYard$Work;"⟩ ∈ zT := zT_of 567 rfl rfl
set_option maxRecDepth 20000 in
theorem kw_568 : Cond.selects "RefitYard$Net" ⟨"RefitYard$Net", "mostPressing", "(J)LRefitYard$Work;"⟩ ⟨"RefitYard$Net", "mostPressing", "(J)LRefitYard$Work;"⟩ ∈ zT := zT_of 568 rfl rfl
theorem mv_X6_227 : zMV RX6 227 mX2_mostPressing 1 3 6 := ⟨mmX2_mostPressing, ⟨kw_566, kw_567, kw_568⟩, TX2, rfl, by decide, by decide⟩
def mX6_best : zF := (yX6_best, cX6_best, 1, (some .int))
set_option maxRecDepth 20000 in
theorem kc_548 : Cond.code yX6_best cX6_best 1 (some .int) ∈ zT := zT_of 583 rfl rfl
theorem mmX6_best : zMm mX6_best 0 := ⟨kw_36, kc_548, by decide +kernel, by decide⟩
set_option maxRecDepth 20000 in
theorem kw_584 : Cond.methodLink "RefitYard" (231 : Nat) ⟨"RefitYard$Net", "allThatArePut", "()J"⟩ ∈ zT := zT_of 584 rfl rfl
theorem mv_X6_231 : zMV RX6 231 mX2_allThatArePut 0 3 6 := ⟨mmX2_allThatArePut, ⟨kw_584, kw_571, kw_572⟩, TX2, rfl, by decide, by decide⟩
set_option maxRecDepth 20000 in
theorem kw_585 : Cond.methodLink "RefitYard" (235 : Nat) ⟨"RefitYard$Orders", "layBest", "()I"⟩ ∈ zT := zT_of 585 rfl rfl
set_option maxRecDepth 20000 in
theorem kw_586 : Cond.instanceMethod ⟨"RefitYard$Orders", "layBest", "()I"⟩ ∈ zT := zT_of 586 rfl rfl
set_option maxRecDepth 20000 in
theorem kw_587 : Cond.selects "RefitYard$Orders" ⟨"RefitYard$Orders", "layBest", "()I"⟩ ⟨"RefitYard$Orders", "layBest", "()I"⟩ ∈ zT := zT_of 587 rfl rfl
theorem mv_X6_235 : zMV RX6 235 mX3_layBest 0 4 5 := ⟨mmX3_layBest, ⟨kw_585, kw_586, kw_587⟩, TX3, rfl, by decide, by decide⟩
def mX6_end : zF := (yX6_end, cX6_end, 4, (some .int))
set_option maxRecDepth 20000 in
theorem kc_576 : Cond.code yX6_end cX6_end 4 (some .int) ∈ zT := zT_of 611 rfl rfl
theorem mmX6_end : zMm mX6_end 0 := ⟨kw_36, kc_576, by decide +kernel, by decide⟩
set_option maxRecDepth 20000 in
theorem kw_612 : Cond.methodLink "RefitYard" (239 : Nat) ⟨"RefitYard$Work", "behind", "()I"⟩ ∈ zT := zT_of 612 rfl rfl
theorem mv_X6_239 : zMV RX6 239 mX5_behind 0 6 16 := ⟨mmX5_behind, ⟨kw_612, kw_456, kw_457⟩, TX5, rfl, by decide, by decide⟩
set_option maxRecDepth 20000 in
theorem kw_613 : Cond.methodLink "RefitYard" (242 : Nat) ⟨"java/lang/Math", "max", "(II)I"⟩ ∈ zT := zT_of 613 rfl rfl
set_option maxRecDepth 20000 in
theorem mm_X6_242 : Cond.methodLink RX6 242 Lib.Math.max.name ∈ zT ∧ Cond.static Lib.Math.max.name ∈ zT ∧ Cond.initialized "java/lang/Math" ∈ zT ∧ Cond.code Lib.Math.max.name Lib.Math.max.code 2 (some .int) ∈ zT := ⟨kw_613, kw_402, kw_45, zT_of 403 rfl rfl⟩
def mX6_bound : zF := (yX6_bound, cX6_bound, 3, (some .int))
set_option maxRecDepth 20000 in
theorem kc_582 : Cond.code yX6_bound cX6_bound 3 (some .int) ∈ zT := zT_of 617 rfl rfl
theorem mmX6_bound : zMm mX6_bound 0 := ⟨kw_36, kc_582, by decide +kernel, by decide⟩
set_option maxRecDepth 20000 in
theorem kw_104 : Cond.fieldLink "RefitYard" (247 : Nat) "RefitYard$Net" "way" "I" ∈ zT := zT_of 104 rfl rfl
theorem fl_X6_247 : zFl RX6 247 3 5 6 .int false := ⟨RX2, TX2, 5, rfl, by decide, rfl, by decide, ui_X2, kw_104, rfl, tyX2_ok, nmX2, rfl, rfl⟩
set_option maxRecDepth 20000 in
theorem kw_618 : Cond.methodLink "RefitYard" (250 : Nat) ⟨"RefitYard$Net", "askedOfTrade", "(I)I"⟩ ∈ zT := zT_of 618 rfl rfl
set_option maxRecDepth 20000 in
theorem kw_619 : Cond.instanceMethod ⟨"RefitYard$Net", "askedOfTrade", "(I)I"⟩ ∈ zT := zT_of 619 rfl rfl
set_option maxRecDepth 20000 in
theorem kw_620 : Cond.selects "RefitYard$Net" ⟨"RefitYard$Net", "askedOfTrade", "(I)I"⟩ ⟨"RefitYard$Net", "askedOfTrade", "(I)I"⟩ ∈ zT := zT_of 620 rfl rfl
theorem mv_X6_250 : zMV RX6 250 mX2_askedOfTrade 1 3 6 := ⟨mmX2_askedOfTrade, ⟨kw_618, kw_619, kw_620⟩, TX2, rfl, by decide, by decide⟩
def mX6_shiftsFor : zF := (yX6_shiftsFor, cX6_shiftsFor, 2, (some .int))
set_option maxRecDepth 20000 in
theorem kc_589 : Cond.code yX6_shiftsFor cX6_shiftsFor 2 (some .int) ∈ zT := zT_of 624 rfl rfl
theorem mmX6_shiftsFor : zMm mX6_shiftsFor 2 := ⟨kw_36, kc_589, by decide +kernel, by decide⟩
set_option maxRecDepth 20000 in
theorem kw_622 : Cond.methodLink "RefitYard" (253 : Nat) ⟨"RefitYard", "shiftsFor", "(II)I"⟩ ∈ zT := zT_of 622 rfl rfl
set_option maxRecDepth 20000 in
theorem kw_623 : Cond.static ⟨"RefitYard", "shiftsFor", "(II)I"⟩ ∈ zT := zT_of 623 rfl rfl
theorem ms_X6_253 : zMS RX6 253 mX6_shiftsFor 2 := ⟨mmX6_shiftsFor, kw_622, kw_623⟩
def mX6_greater : zF := (yX6_greater, cX6_greater, 2, (some .int))
set_option maxRecDepth 20000 in
theorem kc_592 : Cond.code yX6_greater cX6_greater 2 (some .int) ∈ zT := zT_of 627 rfl rfl
theorem mmX6_greater : zMm mX6_greater 2 := ⟨kw_36, kc_592, by decide +kernel, by decide⟩
set_option maxRecDepth 20000 in
theorem kw_625 : Cond.methodLink "RefitYard" (256 : Nat) ⟨"RefitYard", "greater", "(II)I"⟩ ∈ zT := zT_of 625 rfl rfl
set_option maxRecDepth 20000 in
theorem kw_626 : Cond.static ⟨"RefitYard", "greater", "(II)I"⟩ ∈ zT := zT_of 626 rfl rfl
theorem ms_X6_256 : zMS RX6 256 mX6_greater 2 := ⟨mmX6_greater, kw_625, kw_626⟩
set_option maxRecDepth 20000 in
theorem kw_628 : Cond.methodLink "RefitYard" (259 : Nat) ⟨"RefitYard$Net", "askedOfGood", "(I)I"⟩ ∈ zT := zT_of 628 rfl rfl
set_option maxRecDepth 20000 in
theorem kw_629 : Cond.instanceMethod ⟨"RefitYard$Net", "askedOfGood", "(I)I"⟩ ∈ zT := zT_of 629 rfl rfl
set_option maxRecDepth 20000 in
theorem kw_630 : Cond.selects "RefitYard$Net" ⟨"RefitYard$Net", "askedOfGood", "(I)I"⟩ ⟨"RefitYard$Net", "askedOfGood", "(I)I"⟩ ∈ zT := zT_of 630 rfl rfl
theorem mv_X6_259 : zMV RX6 259 mX2_askedOfGood 1 3 6 := ⟨mmX2_askedOfGood, ⟨kw_628, kw_629, kw_630⟩, TX2, rfl, by decide, by decide⟩
set_option maxRecDepth 20000 in
theorem kw_636 : Cond.methodLink "RefitYard" (262 : Nat) ⟨"RefitYard$Net", "askedOfSpace", "(I)I"⟩ ∈ zT := zT_of 636 rfl rfl
set_option maxRecDepth 20000 in
theorem kw_637 : Cond.instanceMethod ⟨"RefitYard$Net", "askedOfSpace", "(I)I"⟩ ∈ zT := zT_of 637 rfl rfl
set_option maxRecDepth 20000 in
theorem kw_638 : Cond.selects "RefitYard$Net" ⟨"RefitYard$Net", "askedOfSpace", "(I)I"⟩ ⟨"RefitYard$Net", "askedOfSpace", "(I)I"⟩ ∈ zT := zT_of 638 rfl rfl
theorem mv_X6_262 : zMV RX6 262 mX2_askedOfSpace 1 3 6 := ⟨mmX2_askedOfSpace, ⟨kw_636, kw_637, kw_638⟩, TX2, rfl, by decide, by decide⟩
set_option maxRecDepth 20000 in
theorem kw_62 : Cond.fieldLink "RefitYard" (265 : Nat) "RefitYard$Ground" "bears" "[I" ∈ zT := zT_of 62 rfl rfl
theorem fl_X6_265 : zFl RX6 265 2 0 5 (.array .int) true := ⟨RX1, TX1, 0, rfl, by decide, rfl, by decide, ui_X1, kw_62, rfl, tyX1_ok, nmX1, rfl, rfl⟩
def mX6_go : zF := (yX6_go, cX6_go, 2, (some .int))
set_option maxRecDepth 20000 in
theorem kc_608 : Cond.code yX6_go cX6_go 2 (some .int) ∈ zT := zT_of 643 rfl rfl
theorem mmX6_go : zMm mX6_go 1 := ⟨kw_36, kc_608, by decide +kernel, by decide⟩
set_option maxRecDepth 20000 in
theorem kw_644 : Cond.methodLink "RefitYard" (268 : Nat) ⟨"java/lang/Math", "min", "(II)I"⟩ ∈ zT := zT_of 644 rfl rfl
set_option maxRecDepth 20000 in
theorem mm_X6_268 : Cond.methodLink RX6 268 Lib.Math.min.name ∈ zT ∧ Cond.static Lib.Math.min.name ∈ zT ∧ Cond.initialized "java/lang/Math" ∈ zT ∧ Cond.code Lib.Math.min.name Lib.Math.min.code 2 (some .int) ∈ zT := ⟨kw_644, kw_487, kw_45, zT_of 488 rfl rfl⟩
def mX6_fail : zF := (yX6_fail, cX6_fail, 7, (some .int))
set_option maxRecDepth 20000 in
theorem kc_613 : Cond.code yX6_fail cX6_fail 7 (some .int) ∈ zT := zT_of 648 rfl rfl
theorem mmX6_fail : zMm mX6_fail 1 := ⟨kw_36, kc_613, by decide +kernel, by decide⟩
set_option maxRecDepth 20000 in
theorem kw_548 : Cond.methodLink "RefitYard" (271 : Nat) ⟨"RefitYard$Work", "isDone", "(I)Z"⟩ ∈ zT := zT_of 548 rfl rfl
theorem mv_X6_271 : zMV RX6 271 mX5_isDone 1 6 16 := ⟨mmX5_isDone, ⟨kw_548, kw_549, kw_550⟩, TX5, rfl, by decide, by decide⟩
set_option maxRecDepth 20000 in
theorem kw_649 : Cond.methodLink "RefitYard" (274 : Nat) ⟨"RefitYard$Net", "openedWith", "(LRefitYard$Work;I)J"⟩ ∈ zT := zT_of 649 rfl rfl
set_option maxRecDepth 20000 in
theorem kw_650 : Cond.instanceMethod ⟨"RefitYard$Net", "openedWith", "(LRefitYard$Work;I)J"⟩ ∈ zT := zT_of 650 rfl rfl
set_option maxRecDepth 20000 in
theorem kw_651 : Cond.selects "RefitYard$Net" ⟨"RefitYard$Net", "openedWith", "(LRefitYard$Work;I)J"⟩ ⟨"RefitYard$Net", "openedWith", "(LRefitYard$Work;I)J"⟩ ∈ zT := zT_of 651 rfl rfl
theorem mv_X6_274 : zMV RX6 274 mX2_openedWith 2 3 6 := ⟨mmX2_openedWith, ⟨kw_649, kw_650, kw_651⟩, TX2, rfl, by decide, by decide⟩
def mX6_more : zF := (yX6_more, cX6_more, 4, (some .int))
set_option maxRecDepth 20000 in
theorem kc_630 : Cond.code yX6_more cX6_more 4 (some .int) ∈ zT := zT_of 665 rfl rfl
theorem mmX6_more : zMm mX6_more 2 := ⟨kw_36, kc_630, by decide +kernel, by decide⟩
set_option maxRecDepth 20000 in
theorem kw_666 : Cond.methodLink "RefitYard" (278 : Nat) ⟨"RefitYard$Board", "lengthen", "(LRefitYard$Work;I)V"⟩ ∈ zT := zT_of 666 rfl rfl
set_option maxRecDepth 20000 in
theorem kw_667 : Cond.instanceMethod ⟨"RefitYard$Board", "lengthen", "(LRefitYard$Work;I)V"⟩ ∈ zT := zT_of 667 rfl rfl
set_option maxRecDepth 20000 in
theorem kw_668 : Cond.selects "RefitYard$Board" ⟨"RefitYard$Board", "lengthen", "(LRefitYard$Work;I)V"⟩ ⟨"RefitYard$Board", "lengthen", "(LRefitYard$Work;I)V"⟩ ∈ zT := zT_of 668 rfl rfl
theorem mv_X6_278 : zMV RX6 278 mX0_lengthen 2 1 3 := ⟨mmX0_lengthen, ⟨kw_666, kw_667, kw_668⟩, TX0, rfl, by decide, by decide⟩
set_option maxRecDepth 20000 in
theorem kw_672 : Cond.methodLink "RefitYard" (281 : Nat) ⟨"RefitYard$Net", "weigh", "()V"⟩ ∈ zT := zT_of 672 rfl rfl
theorem mv_X6_281 : zMV RX6 281 mX2_weigh 0 3 6 := ⟨mmX2_weigh, ⟨kw_672, kw_380, kw_381⟩, TX2, rfl, by decide, by decide⟩
def mX6_count : zF := (yX6_count, cX6_count, 2, (some .int))
set_option maxRecDepth 20000 in
theorem kc_641 : Cond.code yX6_count cX6_count 2 (some .int) ∈ zT := zT_of 676 rfl rfl
theorem mmX6_count : zMm mX6_count 1 := ⟨kw_36, kc_641, by decide +kernel, by decide⟩
set_option maxRecDepth 20000 in
theorem kw_677 : Cond.methodLink "RefitYard" (284 : Nat) ⟨"RefitYard$Net", "allDone", "(I)J"⟩ ∈ zT := zT_of 677 rfl rfl
theorem mv_X6_284 : zMV RX6 284 mX2_allDone 1 3 6 := ⟨mmX2_allDone, ⟨kw_677, kw_654, kw_655⟩, TX2, rfl, by decide, by decide⟩
set_option maxRecDepth 20000 in
theorem kw_68 : Cond.fieldLink "RefitYard" (288 : Nat) "RefitYard$Ground" "bars" "I" ∈ zT := zT_of 68 rfl rfl
theorem fl_X6_288 : zFl RX6 288 2 4 5 .int false := ⟨RX1, TX1, 4, rfl, by decide, rfl, by decide, ui_X1, kw_68, rfl, tyX1_ok, nmX1, rfl, rfl⟩
set_option maxRecDepth 20000 in
theorem kw_424 : Cond.methodLink "RefitYard" (291 : Nat) ⟨"RefitYard$Work", "hangsOn", "(LRefitYard$Work;)Z"⟩ ∈ zT := zT_of 424 rfl rfl
theorem mv_X6_291 : zMV RX6 291 mX5_hangsOn 1 6 16 := ⟨mmX5_hangsOn, ⟨kw_424, kw_425, kw_426⟩, TX5, rfl, by decide, by decide⟩
set_option maxRecDepth 20000 in
theorem kw_539 : Cond.methodLink "RefitYard" (294 : Nat) ⟨"RefitYard$Rules", "leastShift", "(LRefitYard$Work;I)I"⟩ ∈ zT := zT_of 539 rfl rfl
theorem mv_X6_294 : zMV RX6 294 mX4_leastShift 2 5 5 := ⟨mmX4_leastShift, ⟨kw_539, kw_526, kw_527⟩, TX4, rfl, by decide, by decide⟩
theorem zo_0_2 (z : Int) (q0 : ¬ z = 0) (q1 : ¬ z = 1) (q2 : ¬ z = 2) : z < 0 ∨ 2 < z := by omega
