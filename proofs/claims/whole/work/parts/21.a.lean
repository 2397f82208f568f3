def bL_law_2690 (xs : Nat → Int32) (L : Nat) (L23 : Mem × Int32 → Prop) (M : Mem) (y4 : Int32) : Prop :=
  ∀ v466 : Int32, v466 = y4 + 6 → L23 (M, v466)
def bL_law_224 (xs : Nat → Int32) (L : Nat) (L23 : Mem × Int32 → Prop) (M : Mem) (y4 : Int32) : Prop :=
  vp_in (y4 + 1) L ∧ vp_in (y4 + 2) L ∧ vp_in (y4 + 3) L ∧ vp_in (y4 + 4) L ∧ vp_in (y4 + 5) L ∧ pX10_feed M (xs (tn (y4 + 1))) (xs (tn (y4 + 2))) (xs (tn (y4 + 3))) (xs (tn (y4 + 4))) (xs (tn (y4 + 5))) (fun r461 M462 => pX11_feed M462 (xs (tn (y4 + 1))) (xs (tn (y4 + 2))) (xs (tn (y4 + 3))) (xs (tn (y4 + 4))) (xs (tn (y4 + 5))) (fun r463 M464 => ((r461 = r463 → bL_law_2690 xs L L23 M464 y4) ∧ (¬ r461 = r463 → False))))
def bL_law_350 (xs : Nat → Int32) (L : Nat) (L23 : Mem × Int32 → Prop) (M : Mem) (y4 : Int32) : Prop :=
  bL_law_2690 xs L L23 M y4
def bL_law_297 (xs : Nat → Int32) (L : Nat) (L23 : Mem × Int32 → Prop) (M : Mem) (y4 : Int32) : Prop :=
  vp_in (y4 + 1) L ∧ pL_add M (xs (tn (y4 + 1))) (fun r447 M448 => pX11_add M448 (xs (tn (y4 + 1))) (fun r449 M450 => pX11_thrown M450 (fun r451 M452 => ((r451 = r447 → ((¬ r447 = 0 → bL_law_350 xs L L23 M452 y4) ∧ (r447 = 0 → (((lg_cmp (M452.2 9000 0 (tn 0)) (Int32.toInt64 r449)) = 0 → bL_law_350 xs L L23 M452 y4) ∧ (¬ (lg_cmp (M452.2 9000 0 (tn 0)) (Int32.toInt64 r449)) = 0 → False))))) ∧ (¬ r451 = r447 → False)))))
def bL_law_406 (xs : Nat → Int32) (L : Nat) (L23 : Mem × Int32 → Prop) (M : Mem) (y4 : Int32) : Prop :=
  bL_law_2690 xs L L23 M y4
def bL_law_353 (xs : Nat → Int32) (L : Nat) (L23 : Mem × Int32 → Prop) (M : Mem) (y4 : Int32) : Prop :=
  vp_in (y4 + 1) L ∧ pL_ask M (xs (tn (y4 + 1))) (fun r437 M438 => pX11_ask M438 (xs (tn (y4 + 1))) (fun r439 M440 => pX11_thrown M440 (fun r441 M442 => ((r441 = r437 → ((¬ r437 = 0 → bL_law_406 xs L L23 M442 y4) ∧ (r437 = 0 → (((lg_cmp (M442.2 9000 0 (tn 0)) (Int32.toInt64 r439)) = 0 → bL_law_406 xs L L23 M442 y4) ∧ (¬ (lg_cmp (M442.2 9000 0 (tn 0)) (Int32.toInt64 r439)) = 0 → False))))) ∧ (¬ r441 = r437 → False)))))
def bL_law_409 (xs : Nat → Int32) (L : Nat) (L23 : Mem × Int32 → Prop) (M : Mem) (y4 : Int32) : Prop :=
  pX10_fault M (fun r431 M432 => pX11_fault M432 (fun r433 M434 => ((r431 = r433 → bL_law_2690 xs L L23 M434 y4) ∧ (¬ r431 = r433 → False))))
def bL_law_475 (xs : Nat → Int32) (L : Nat) (L23 : Mem × Int32 → Prop) (M : Mem) (y4 : Int32) : Prop :=
  bL_law_2690 xs L L23 M y4
def bL_law_422 (xs : Nat → Int32) (L : Nat) (L23 : Mem × Int32 → Prop) (M : Mem) (y4 : Int32) : Prop :=
  vp_in (y4 + 1) L ∧ pL_find M (xs (tn (y4 + 1))) (fun r422 M423 => pX11_find M423 (xs (tn (y4 + 1))) (fun r424 M425 => pX11_thrown M425 (fun r426 M427 => ((r426 = r422 → ((¬ r422 = 0 → bL_law_475 xs L L23 M427 y4) ∧ (r422 = 0 → (((lg_cmp (M427.2 9000 0 (tn 0)) (Int32.toInt64 r424)) = 0 → bL_law_475 xs L L23 M427 y4) ∧ (¬ (lg_cmp (M427.2 9000 0 (tn 0)) (Int32.toInt64 r424)) = 0 → False))))) ∧ (¬ r426 = r422 → False)))))
def bL_law_531 (xs : Nat → Int32) (L : Nat) (L23 : Mem × Int32 → Prop) (M : Mem) (y4 : Int32) : Prop :=
  bL_law_2690 xs L L23 M y4
def bL_law_478 (xs : Nat → Int32) (L : Nat) (L23 : Mem × Int32 → Prop) (M : Mem) (y4 : Int32) : Prop :=
  vp_in (y4 + 1) L ∧ pL_remove M (xs (tn (y4 + 1))) (fun r412 M413 => pX11_remove M413 (xs (tn (y4 + 1))) (fun r414 M415 => pX11_thrown M415 (fun r416 M417 => ((r416 = r412 → ((¬ r412 = 0 → bL_law_531 xs L L23 M417 y4) ∧ (r412 = 0 → (((lg_cmp (M417.2 9000 0 (tn 0)) (Int32.toInt64 r414)) = 0 → bL_law_531 xs L L23 M417 y4) ∧ (¬ (lg_cmp (M417.2 9000 0 (tn 0)) (Int32.toInt64 r414)) = 0 → False))))) ∧ (¬ r416 = r412 → False)))))
def bL_law_587 (xs : Nat → Int32) (L : Nat) (L23 : Mem × Int32 → Prop) (M : Mem) (y4 : Int32) : Prop :=
  bL_law_2690 xs L L23 M y4
def bL_law_534 (xs : Nat → Int32) (L : Nat) (L23 : Mem × Int32 → Prop) (M : Mem) (y4 : Int32) : Prop :=
  vp_in (y4 + 1) L ∧ pL_repack M (xs (tn (y4 + 1))) (fun r402 M403 => pX11_repack M403 (xs (tn (y4 + 1))) (fun r404 M405 => pX11_thrown M405 (fun r406 M407 => ((r406 = r402 → ((¬ r402 = 0 → bL_law_587 xs L L23 M407 y4) ∧ (r402 = 0 → (((lg_cmp (M407.2 9000 0 (tn 0)) (Int32.toInt64 r404)) = 0 → bL_law_587 xs L L23 M407 y4) ∧ (¬ (lg_cmp (M407.2 9000 0 (tn 0)) (Int32.toInt64 r404)) = 0 → False))))) ∧ (¬ r406 = r402 → False)))))
def bL_law_643 (xs : Nat → Int32) (L : Nat) (L23 : Mem × Int32 → Prop) (M : Mem) (y4 : Int32) : Prop :=
  bL_law_2690 xs L L23 M y4
def bL_law_590 (xs : Nat → Int32) (L : Nat) (L23 : Mem × Int32 → Prop) (M : Mem) (y4 : Int32) : Prop :=
  vp_in (y4 + 1) L ∧ pL_told M (xs (tn (y4 + 1))) (fun r392 M393 => pX11_told M393 (xs (tn (y4 + 1))) (fun r394 M395 => pX11_thrown M395 (fun r396 M397 => ((r396 = r392 → ((¬ r392 = 0 → bL_law_643 xs L L23 M397 y4) ∧ (r392 = 0 → (((lg_cmp (M397.2 9000 0 (tn 0)) (Int32.toInt64 r394)) = 0 → bL_law_643 xs L L23 M397 y4) ∧ (¬ (lg_cmp (M397.2 9000 0 (tn 0)) (Int32.toInt64 r394)) = 0 → False))))) ∧ (¬ r396 = r392 → False)))))
def bL_law_711 (xs : Nat → Int32) (L : Nat) (L23 : Mem × Int32 → Prop) (M : Mem) (y4 : Int32) : Prop :=
  bL_law_2690 xs L L23 M y4
def bL_law_646 (xs : Nat → Int32) (L : Nat) (L23 : Mem × Int32 → Prop) (M : Mem) (y4 : Int32) : Prop :=
  vp_in (y4 + 1) L ∧ vp_in (y4 + 2) L ∧ pL_document M (xs (tn (y4 + 1))) (xs (tn (y4 + 2))) (fun r382 M383 => pX11_document M383 (xs (tn (y4 + 1))) (xs (tn (y4 + 2))) (fun r384 M385 => pX11_thrown M385 (fun r386 M387 => ((r386 = r382 → ((¬ r382 = 0 → bL_law_711 xs L L23 M387 y4) ∧ (r382 = 0 → (((lg_cmp (M387.2 9000 0 (tn 0)) (Int32.toInt64 r384)) = 0 → bL_law_711 xs L L23 M387 y4) ∧ (¬ (lg_cmp (M387.2 9000 0 (tn 0)) (Int32.toInt64 r384)) = 0 → False))))) ∧ (¬ r386 = r382 → False)))))
def bL_law_779 (xs : Nat → Int32) (L : Nat) (L23 : Mem × Int32 → Prop) (M : Mem) (y4 : Int32) : Prop :=
  bL_law_2690 xs L L23 M y4
def bL_law_714 (xs : Nat → Int32) (L : Nat) (L23 : Mem × Int32 → Prop) (M : Mem) (y4 : Int32) : Prop :=
  vp_in (y4 + 1) L ∧ vp_in (y4 + 2) L ∧ pL_at M (xs (tn (y4 + 1))) (xs (tn (y4 + 2))) (fun r371 M372 => pX11_at M372 (xs (tn (y4 + 1))) (xs (tn (y4 + 2))) (fun r373 M374 => pX11_thrown M374 (fun r375 M376 => ((r375 = r371 → ((¬ r371 = 0 → bL_law_779 xs L L23 M376 y4) ∧ (r371 = 0 → (((lg_cmp (M376.2 9000 0 (tn 0)) (Int32.toInt64 r373)) = 0 → bL_law_779 xs L L23 M376 y4) ∧ (¬ (lg_cmp (M376.2 9000 0 (tn 0)) (Int32.toInt64 r373)) = 0 → False))))) ∧ (¬ r375 = r371 → False)))))
def bL_law_847 (xs : Nat → Int32) (L : Nat) (L23 : Mem × Int32 → Prop) (M : Mem) (y4 : Int32) : Prop :=
  bL_law_2690 xs L L23 M y4
def bL_law_782 (xs : Nat → Int32) (L : Nat) (L23 : Mem × Int32 → Prop) (M : Mem) (y4 : Int32) : Prop :=
  vp_in (y4 + 1) L ∧ vp_in (y4 + 2) L ∧ pL_word M (xs (tn (y4 + 1))) (xs (tn (y4 + 2))) (fun r360 M361 => pX11_word M361 (xs (tn (y4 + 1))) (xs (tn (y4 + 2))) (fun r362 M363 => pX11_thrown M363 (fun r364 M365 => ((r364 = r360 → ((¬ r360 = 0 → bL_law_847 xs L L23 M365 y4) ∧ (r360 = 0 → (((lg_cmp (M365.2 9000 0 (tn 0)) (Int32.toInt64 r362)) = 0 → bL_law_847 xs L L23 M365 y4) ∧ (¬ (lg_cmp (M365.2 9000 0 (tn 0)) (Int32.toInt64 r362)) = 0 → False))))) ∧ (¬ r364 = r360 → False)))))
def bL_law_915 (xs : Nat → Int32) (L : Nat) (L23 : Mem × Int32 → Prop) (M : Mem) (y4 : Int32) : Prop :=
  bL_law_2690 xs L L23 M y4
def bL_law_850 (xs : Nat → Int32) (L : Nat) (L23 : Mem × Int32 → Prop) (M : Mem) (y4 : Int32) : Prop :=
  vp_in (y4 + 1) L ∧ vp_in (y4 + 2) L ∧ pL_letter M (xs (tn (y4 + 1))) (xs (tn (y4 + 2))) (fun r349 M350 => pX11_letter M350 (xs (tn (y4 + 1))) (xs (tn (y4 + 2))) (fun r351 M352 => pX11_thrown M352 (fun r353 M354 => ((r353 = r349 → ((¬ r349 = 0 → bL_law_915 xs L L23 M354 y4) ∧ (r349 = 0 → (((lg_cmp (M354.2 9000 0 (tn 0)) (Int32.toInt64 r351)) = 0 → bL_law_915 xs L L23 M354 y4) ∧ (¬ (lg_cmp (M354.2 9000 0 (tn 0)) (Int32.toInt64 r351)) = 0 → False))))) ∧ (¬ r353 = r349 → False)))))
def bL_law_995 (xs : Nat → Int32) (L : Nat) (L23 : Mem × Int32 → Prop) (M : Mem) (y4 : Int32) : Prop :=
  bL_law_2690 xs L L23 M y4
def bL_law_918 (xs : Nat → Int32) (L : Nat) (L23 : Mem × Int32 → Prop) (M : Mem) (y4 : Int32) : Prop :=
  vp_in (y4 + 1) L ∧ vp_in (y4 + 2) L ∧ vp_in (y4 + 3) L ∧ pL_block M (xs (tn (y4 + 1))) (xs (tn (y4 + 2))) (xs (tn (y4 + 3))) (fun r338 M339 => pX11_block M339 (xs (tn (y4 + 1))) (xs (tn (y4 + 2))) (xs (tn (y4 + 3))) (fun r340 M341 => pX11_thrown M341 (fun r342 M343 => ((r342 = r338 → ((¬ r338 = 0 → bL_law_995 xs L L23 M343 y4) ∧ (r338 = 0 → (((lg_cmp (M343.2 9000 0 (tn 0)) (Int32.toInt64 r340)) = 0 → bL_law_995 xs L L23 M343 y4) ∧ (¬ (lg_cmp (M343.2 9000 0 (tn 0)) (Int32.toInt64 r340)) = 0 → False))))) ∧ (¬ r342 = r338 → False)))))
def bL_law_1075 (xs : Nat → Int32) (L : Nat) (L23 : Mem × Int32 → Prop) (M : Mem) (y4 : Int32) : Prop :=
  bL_law_2690 xs L L23 M y4
def bL_law_998 (xs : Nat → Int32) (L : Nat) (L23 : Mem × Int32 → Prop) (M : Mem) (y4 : Int32) : Prop :=
  vp_in (y4 + 1) L ∧ vp_in (y4 + 2) L ∧ vp_in (y4 + 3) L ∧ pL_posting M (xs (tn (y4 + 1))) (xs (tn (y4 + 2))) (xs (tn (y4 + 3))) (fun r326 M327 => pX11_posting M327 (xs (tn (y4 + 1))) (xs (tn (y4 + 2))) (xs (tn (y4 + 3))) (fun r328 M329 => pX11_thrown M329 (fun r330 M331 => ((r330 = r326 → ((¬ r326 = 0 → bL_law_1075 xs L L23 M331 y4) ∧ (r326 = 0 → (((lg_cmp (M331.2 9000 0 (tn 0)) (Int32.toInt64 r328)) = 0 → bL_law_1075 xs L L23 M331 y4) ∧ (¬ (lg_cmp (M331.2 9000 0 (tn 0)) (Int32.toInt64 r328)) = 0 → False))))) ∧ (¬ r330 = r326 → False)))))
def bL_law_1155 (xs : Nat → Int32) (L : Nat) (L23 : Mem × Int32 → Prop) (M : Mem) (y4 : Int32) : Prop :=
  bL_law_2690 xs L L23 M y4
def bL_law_1078 (xs : Nat → Int32) (L : Nat) (L23 : Mem × Int32 → Prop) (M : Mem) (y4 : Int32) : Prop :=
  vp_in (y4 + 1) L ∧ vp_in (y4 + 2) L ∧ vp_in (y4 + 3) L ∧ pL_position M (xs (tn (y4 + 1))) (xs (tn (y4 + 2))) (xs (tn (y4 + 3))) (fun r314 M315 => pX11_position M315 (xs (tn (y4 + 1))) (xs (tn (y4 + 2))) (xs (tn (y4 + 3))) (fun r316 M317 => pX11_thrown M317 (fun r318 M319 => ((r318 = r314 → ((¬ r314 = 0 → bL_law_1155 xs L L23 M319 y4) ∧ (r314 = 0 → (((lg_cmp (M319.2 9000 0 (tn 0)) (Int32.toInt64 r316)) = 0 → bL_law_1155 xs L L23 M319 y4) ∧ (¬ (lg_cmp (M319.2 9000 0 (tn 0)) (Int32.toInt64 r316)) = 0 → False))))) ∧ (¬ r318 = r314 → False)))))
def bL_law_1211 (xs : Nat → Int32) (L : Nat) (L23 : Mem × Int32 → Prop) (M : Mem) (y4 : Int32) : Prop :=
  bL_law_2690 xs L L23 M y4
def bL_law_1158 (xs : Nat → Int32) (L : Nat) (L23 : Mem × Int32 → Prop) (M : Mem) (y4 : Int32) : Prop :=
  vp_in (y4 + 1) L ∧ pL_common M (xs (tn (y4 + 1))) (fun r302 M303 => pX11_common M303 (xs (tn (y4 + 1))) (fun r304 M305 => pX11_thrown M305 (fun r306 M307 => ((r306 = r302 → ((¬ r302 = 0 → bL_law_1211 xs L L23 M307 y4) ∧ (r302 = 0 → (((lg_cmp (M307.2 9000 0 (tn 0)) (Int32.toInt64 r304)) = 0 → bL_law_1211 xs L L23 M307 y4) ∧ (¬ (lg_cmp (M307.2 9000 0 (tn 0)) (Int32.toInt64 r304)) = 0 → False))))) ∧ (¬ r306 = r302 → False)))))
def bL_law_1279 (xs : Nat → Int32) (L : Nat) (L23 : Mem × Int32 → Prop) (M : Mem) (y4 : Int32) : Prop :=
  bL_law_2690 xs L L23 M y4
def bL_law_1214 (xs : Nat → Int32) (L : Nat) (L23 : Mem × Int32 → Prop) (M : Mem) (y4 : Int32) : Prop :=
  vp_in (y4 + 1) L ∧ vp_in (y4 + 2) L ∧ pL_alike M (xs (tn (y4 + 1))) (xs (tn (y4 + 2))) (fun r292 M293 => pX11_alike M293 (xs (tn (y4 + 1))) (xs (tn (y4 + 2))) (fun r294 M295 => pX11_thrown M295 (fun r296 M297 => ((r296 = r292 → ((¬ r292 = 0 → bL_law_1279 xs L L23 M297 y4) ∧ (r292 = 0 → (((lg_cmp (M297.2 9000 0 (tn 0)) (Int32.toInt64 r294)) = 0 → bL_law_1279 xs L L23 M297 y4) ∧ (¬ (lg_cmp (M297.2 9000 0 (tn 0)) (Int32.toInt64 r294)) = 0 → False))))) ∧ (¬ r296 = r292 → False)))))
def bL_law_1347 (xs : Nat → Int32) (L : Nat) (L23 : Mem × Int32 → Prop) (M : Mem) (y4 : Int32) : Prop :=
  bL_law_2690 xs L L23 M y4
def bL_law_1282 (xs : Nat → Int32) (L : Nat) (L23 : Mem × Int32 → Prop) (M : Mem) (y4 : Int32) : Prop :=
  vp_in (y4 + 1) L ∧ vp_in (y4 + 2) L ∧ pL_scored M (xs (tn (y4 + 1))) (xs (tn (y4 + 2))) (fun r281 M282 => pX11_scored M282 (xs (tn (y4 + 1))) (xs (tn (y4 + 2))) (fun r283 M284 => pX11_thrown M284 (fun r285 M286 => ((r285 = r281 → ((¬ r281 = 0 → bL_law_1347 xs L L23 M286 y4) ∧ (r281 = 0 → (((lg_cmp (M286.2 9000 0 (tn 0)) (Int32.toInt64 r283)) = 0 → bL_law_1347 xs L L23 M286 y4) ∧ (¬ (lg_cmp (M286.2 9000 0 (tn 0)) (Int32.toInt64 r283)) = 0 → False))))) ∧ (¬ r285 = r281 → False)))))
def bL_law_1403 (xs : Nat → Int32) (L : Nat) (L23 : Mem × Int32 → Prop) (M : Mem) (y4 : Int32) : Prop :=
  bL_law_2690 xs L L23 M y4
def bL_law_1350 (xs : Nat → Int32) (L : Nat) (L23 : Mem × Int32 → Prop) (M : Mem) (y4 : Int32) : Prop :=
  vp_in (y4 + 1) L ∧ pL_why M (xs (tn (y4 + 1))) (fun r270 M271 => pX11_why M271 (xs (tn (y4 + 1))) (fun r272 M273 => pX11_thrown M273 (fun r274 M275 => ((r274 = r270 → ((¬ r270 = 0 → bL_law_1403 xs L L23 M275 y4) ∧ (r270 = 0 → (((lg_cmp (M275.2 9000 0 (tn 0)) (Int32.toInt64 r272)) = 0 → bL_law_1403 xs L L23 M275 y4) ∧ (¬ (lg_cmp (M275.2 9000 0 (tn 0)) (Int32.toInt64 r272)) = 0 → False))))) ∧ (¬ r274 = r270 → False)))))
def bL_law_1459 (xs : Nat → Int32) (L : Nat) (L23 : Mem × Int32 → Prop) (M : Mem) (y4 : Int32) : Prop :=
  bL_law_2690 xs L L23 M y4
def bL_law_1406 (xs : Nat → Int32) (L : Nat) (L23 : Mem × Int32 → Prop) (M : Mem) (y4 : Int32) : Prop :=
  vp_in (y4 + 1) L ∧ pL_score M (xs (tn (y4 + 1))) (fun r260 M261 => pX11_score M261 (xs (tn (y4 + 1))) (fun r262 M263 => pX11_thrown M263 (fun r264 M265 => ((r264 = r260 → ((¬ r260 = 0 → bL_law_1459 xs L L23 M265 y4) ∧ (r260 = 0 → (((lg_cmp (M265.2 9000 0 (tn 0)) (Int32.toInt64 r262)) = 0 → bL_law_1459 xs L L23 M265 y4) ∧ (¬ (lg_cmp (M265.2 9000 0 (tn 0)) (Int32.toInt64 r262)) = 0 → False))))) ∧ (¬ r264 = r260 → False)))))
def bL_law_1515 (xs : Nat → Int32) (L : Nat) (L23 : Mem × Int32 → Prop) (M : Mem) (y4 : Int32) : Prop :=
  bL_law_2690 xs L L23 M y4
def bL_law_1462 (xs : Nat → Int32) (L : Nat) (L23 : Mem × Int32 → Prop) (M : Mem) (y4 : Int32) : Prop :=
  vp_in (y4 + 1) L ∧ pL_near M (xs (tn (y4 + 1))) (fun r250 M251 => pX11_near M251 (xs (tn (y4 + 1))) (fun r252 M253 => pX11_thrown M253 (fun r254 M255 => ((r254 = r250 → ((¬ r250 = 0 → bL_law_1515 xs L L23 M255 y4) ∧ (r250 = 0 → (((lg_cmp (M255.2 9000 0 (tn 0)) (Int32.toInt64 r252)) = 0 → bL_law_1515 xs L L23 M255 y4) ∧ (¬ (lg_cmp (M255.2 9000 0 (tn 0)) (Int32.toInt64 r252)) = 0 → False))))) ∧ (¬ r254 = r250 → False)))))
def bL_law_1583 (xs : Nat → Int32) (L : Nat) (L23 : Mem × Int32 → Prop) (M : Mem) (y4 : Int32) : Prop :=
  bL_law_2690 xs L L23 M y4
def bL_law_1518 (xs : Nat → Int32) (L : Nat) (L23 : Mem × Int32 → Prop) (M : Mem) (y4 : Int32) : Prop :=
  vp_in (y4 + 1) L ∧ vp_in (y4 + 2) L ∧ pL_window M (xs (tn (y4 + 1))) (xs (tn (y4 + 2))) (fun r240 M241 => pX11_window M241 (xs (tn (y4 + 1))) (xs (tn (y4 + 2))) (fun r242 M243 => pX11_thrown M243 (fun r244 M245 => ((r244 = r240 → ((¬ r240 = 0 → bL_law_1583 xs L L23 M245 y4) ∧ (r240 = 0 → (((lg_cmp (M245.2 9000 0 (tn 0)) (Int32.toInt64 r242)) = 0 → bL_law_1583 xs L L23 M245 y4) ∧ (¬ (lg_cmp (M245.2 9000 0 (tn 0)) (Int32.toInt64 r242)) = 0 → False))))) ∧ (¬ r244 = r240 → False)))))
def bL_law_1586 (xs : Nat → Int32) (L : Nat) (L23 : Mem × Int32 → Prop) (M : Mem) (y4 : Int32) : Prop :=
  pX10_answers M (fun r233 M234 => pX11_answers M234 (fun r235 M236 => ((r233 = r235 → bL_law_2690 xs L L23 M236 y4) ∧ (¬ r233 = r235 → False))))
def bL_law_1664 (xs : Nat → Int32) (L : Nat) (L23 : Mem × Int32 → Prop) (M : Mem) (y4 : Int32) : Prop :=
  bL_law_2690 xs L L23 M y4
def bL_law_1599 (xs : Nat → Int32) (L : Nat) (L23 : Mem × Int32 → Prop) (M : Mem) (y4 : Int32) : Prop :=
  vp_in (y4 + 1) L ∧ vp_in (y4 + 2) L ∧ pL_answer M (xs (tn (y4 + 1))) (xs (tn (y4 + 2))) (fun r224 M225 => pX11_answer M225 (xs (tn (y4 + 1))) (xs (tn (y4 + 2))) (fun r226 M227 => pX11_thrown M227 (fun r228 M229 => ((r228 = r224 → ((¬ r224 = 0 → bL_law_1664 xs L L23 M229 y4) ∧ (r224 = 0 → (((lg_cmp (M229.2 9000 0 (tn 0)) (Int32.toInt64 r226)) = 0 → bL_law_1664 xs L L23 M229 y4) ∧ (¬ (lg_cmp (M229.2 9000 0 (tn 0)) (Int32.toInt64 r226)) = 0 → False))))) ∧ (¬ r228 = r224 → False)))))
def bL_law_1720 (xs : Nat → Int32) (L : Nat) (L23 : Mem × Int32 → Prop) (M : Mem) (y4 : Int32) : Prop :=
  bL_law_2690 xs L L23 M y4
def bL_law_1667 (xs : Nat → Int32) (L : Nat) (L23 : Mem × Int32 → Prop) (M : Mem) (y4 : Int32) : Prop :=
  vp_in (y4 + 1) L ∧ pL_place M (xs (tn (y4 + 1))) (fun r213 M214 => pX11_place M214 (xs (tn (y4 + 1))) (fun r215 M216 => pX11_thrown M216 (fun r217 M218 => ((r217 = r213 → ((¬ r213 = 0 → bL_law_1720 xs L L23 M218 y4) ∧ (r213 = 0 → (((lg_cmp (M218.2 9000 0 (tn 0)) (Int32.toInt64 r215)) = 0 → bL_law_1720 xs L L23 M218 y4) ∧ (¬ (lg_cmp (M218.2 9000 0 (tn 0)) (Int32.toInt64 r215)) = 0 → False))))) ∧ (¬ r217 = r213 → False)))))
def bL_law_1788 (xs : Nat → Int32) (L : Nat) (L23 : Mem × Int32 → Prop) (M : Mem) (y4 : Int32) : Prop :=
  bL_law_2690 xs L L23 M y4
def bL_law_1723 (xs : Nat → Int32) (L : Nat) (L23 : Mem × Int32 → Prop) (M : Mem) (y4 : Int32) : Prop :=
  vp_in (y4 + 1) L ∧ vp_in (y4 + 2) L ∧ pL_early M (xs (tn (y4 + 1))) (xs (tn (y4 + 2))) (fun r203 M204 => pX11_early M204 (xs (tn (y4 + 1))) (xs (tn (y4 + 2))) (fun r205 M206 => pX11_thrown M206 (fun r207 M208 => ((r207 = r203 → ((¬ r203 = 0 → bL_law_1788 xs L L23 M208 y4) ∧ (r203 = 0 → (((lg_cmp (M208.2 9000 0 (tn 0)) (Int32.toInt64 r205)) = 0 → bL_law_1788 xs L L23 M208 y4) ∧ (¬ (lg_cmp (M208.2 9000 0 (tn 0)) (Int32.toInt64 r205)) = 0 → False))))) ∧ (¬ r207 = r203 → False)))))
def bL_law_1856 (xs : Nat → Int32) (L : Nat) (L23 : Mem × Int32 → Prop) (M : Mem) (y4 : Int32) : Prop :=
  bL_law_2690 xs L L23 M y4
def bL_law_1791 (xs : Nat → Int32) (L : Nat) (L23 : Mem × Int32 → Prop) (M : Mem) (y4 : Int32) : Prop :=
  vp_in (y4 + 1) L ∧ vp_in (y4 + 2) L ∧ pL_best M (xs (tn (y4 + 1))) (xs (tn (y4 + 2))) (fun r192 M193 => pX11_best M193 (xs (tn (y4 + 1))) (xs (tn (y4 + 2))) (fun r194 M195 => pX11_thrown M195 (fun r196 M197 => ((r196 = r192 → ((¬ r192 = 0 → bL_law_1856 xs L L23 M197 y4) ∧ (r192 = 0 → (((lg_cmp (M197.2 9000 0 (tn 0)) (Int32.toInt64 r194)) = 0 → bL_law_1856 xs L L23 M197 y4) ∧ (¬ (lg_cmp (M197.2 9000 0 (tn 0)) (Int32.toInt64 r194)) = 0 → False))))) ∧ (¬ r196 = r192 → False)))))
def bL_law_1936 (xs : Nat → Int32) (L : Nat) (L23 : Mem × Int32 → Prop) (M : Mem) (y4 : Int32) : Prop :=
  bL_law_2690 xs L L23 M y4
def bL_law_1859 (xs : Nat → Int32) (L : Nat) (L23 : Mem × Int32 → Prop) (M : Mem) (y4 : Int32) : Prop :=
  vp_in (y4 + 1) L ∧ vp_in (y4 + 2) L ∧ vp_in (y4 + 3) L ∧ pL_opened M (xs (tn (y4 + 1))) (xs (tn (y4 + 2))) (xs (tn (y4 + 3))) (fun r181 M182 => pX11_opened M182 (xs (tn (y4 + 1))) (xs (tn (y4 + 2))) (xs (tn (y4 + 3))) (fun r183 M184 => pX11_thrown M184 (fun r185 M186 => ((r185 = r181 → ((¬ r181 = 0 → bL_law_1936 xs L L23 M186 y4) ∧ (r181 = 0 → (((lg_cmp (M186.2 9000 0 (tn 0)) (Int32.toInt64 r183)) = 0 → bL_law_1936 xs L L23 M186 y4) ∧ (¬ (lg_cmp (M186.2 9000 0 (tn 0)) (Int32.toInt64 r183)) = 0 → False))))) ∧ (¬ r185 = r181 → False)))))
def bL_law_2004 (xs : Nat → Int32) (L : Nat) (L23 : Mem × Int32 → Prop) (M : Mem) (y4 : Int32) : Prop :=
  bL_law_2690 xs L L23 M y4
def bL_law_1939 (xs : Nat → Int32) (L : Nat) (L23 : Mem × Int32 → Prop) (M : Mem) (y4 : Int32) : Prop :=
  vp_in (y4 + 1) L ∧ vp_in (y4 + 2) L ∧ pL_inside M (xs (tn (y4 + 1))) (xs (tn (y4 + 2))) (fun r169 M170 => pX11_inside M170 (xs (tn (y4 + 1))) (xs (tn (y4 + 2))) (fun r171 M172 => pX11_thrown M172 (fun r173 M174 => ((r173 = r169 → ((¬ r169 = 0 → bL_law_2004 xs L L23 M174 y4) ∧ (r169 = 0 → (((lg_cmp (M174.2 9000 0 (tn 0)) (Int32.toInt64 r171)) = 0 → bL_law_2004 xs L L23 M174 y4) ∧ (¬ (lg_cmp (M174.2 9000 0 (tn 0)) (Int32.toInt64 r171)) = 0 → False))))) ∧ (¬ r173 = r169 → False)))))
def bL_law_2060 (xs : Nat → Int32) (L : Nat) (L23 : Mem × Int32 → Prop) (M : Mem) (y4 : Int32) : Prop :=
  bL_law_2690 xs L L23 M y4
def bL_law_2007 (xs : Nat → Int32) (L : Nat) (L23 : Mem × Int32 → Prop) (M : Mem) (y4 : Int32) : Prop :=
  vp_in (y4 + 1) L ∧ pL_bits M (xs (tn (y4 + 1))) (fun r158 M159 => pX11_bits M159 (xs (tn (y4 + 1))) (fun r160 M161 => pX11_thrown M161 (fun r162 M163 => ((r162 = r158 → ((¬ r158 = 0 → bL_law_2060 xs L L23 M163 y4) ∧ (r158 = 0 → (((lg_cmp (M163.2 9000 0 (tn 0)) (Int32.toInt64 r160)) = 0 → bL_law_2060 xs L L23 M163 y4) ∧ (¬ (lg_cmp (M163.2 9000 0 (tn 0)) (Int32.toInt64 r160)) = 0 → False))))) ∧ (¬ r162 = r158 → False)))))
def bL_law_2063 (xs : Nat → Int32) (L : Nat) (L23 : Mem × Int32 → Prop) (M : Mem) (y4 : Int32) : Prop :=
  pX10_thrift M (fun r152 M153 => pX11_thrift M153 (fun r154 M155 => ((r152 = r154 → bL_law_2690 xs L L23 M155 y4) ∧ (¬ r152 = r154 → False))))
def bL_law_2141 (xs : Nat → Int32) (L : Nat) (L23 : Mem × Int32 → Prop) (M : Mem) (y4 : Int32) : Prop :=
  bL_law_2690 xs L L23 M y4
def bL_law_2076 (xs : Nat → Int32) (L : Nat) (L23 : Mem × Int32 → Prop) (M : Mem) (y4 : Int32) : Prop :=
  vp_in (y4 + 1) L ∧ vp_in (y4 + 2) L ∧ pL_swift M (xs (tn (y4 + 1))) (xs (tn (y4 + 2))) (fun r143 M144 => pX11_swift M144 (xs (tn (y4 + 1))) (xs (tn (y4 + 2))) (fun r145 M146 => pX11_thrown M146 (fun r147 M148 => ((r147 = r143 → ((¬ r143 = 0 → bL_law_2141 xs L L23 M148 y4) ∧ (r143 = 0 → (((lg_cmp (M148.2 9000 0 (tn 0)) (Int32.toInt64 r145)) = 0 → bL_law_2141 xs L L23 M148 y4) ∧ (¬ (lg_cmp (M148.2 9000 0 (tn 0)) (Int32.toInt64 r145)) = 0 → False))))) ∧ (¬ r147 = r143 → False)))))
def bL_law_2209 (xs : Nat → Int32) (L : Nat) (L23 : Mem × Int32 → Prop) (M : Mem) (y4 : Int32) : Prop :=
  bL_law_2690 xs L L23 M y4
def bL_law_2144 (xs : Nat → Int32) (L : Nat) (L23 : Mem × Int32 → Prop) (M : Mem) (y4 : Int32) : Prop :=
  vp_in (y4 + 1) L ∧ vp_in (y4 + 2) L ∧ pL_blockOf M (xs (tn (y4 + 1))) (xs (tn (y4 + 2))) (fun r132 M133 => pX11_blockOf M133 (xs (tn (y4 + 1))) (xs (tn (y4 + 2))) (fun r134 M135 => pX11_thrown M135 (fun r136 M137 => ((r136 = r132 → ((¬ r132 = 0 → bL_law_2209 xs L L23 M137 y4) ∧ (r132 = 0 → (((lg_cmp (M137.2 9000 0 (tn 0)) (Int32.toInt64 r134)) = 0 → bL_law_2209 xs L L23 M137 y4) ∧ (¬ (lg_cmp (M137.2 9000 0 (tn 0)) (Int32.toInt64 r134)) = 0 → False))))) ∧ (¬ r136 = r132 → False)))))
def bL_law_2212 (xs : Nat → Int32) (L : Nat) (L23 : Mem × Int32 → Prop) (M : Mem) (y4 : Int32) : Prop :=
  pX10_full M (fun r125 M126 => pX11_full M126 (fun r127 M128 => ((r125 = r127 → bL_law_2690 xs L L23 M128 y4) ∧ (¬ r125 = r127 → False))))
def bL_law_2278 (xs : Nat → Int32) (L : Nat) (L23 : Mem × Int32 → Prop) (M : Mem) (y4 : Int32) : Prop :=
  bL_law_2690 xs L L23 M y4
def bL_law_2225 (xs : Nat → Int32) (L : Nat) (L23 : Mem × Int32 → Prop) (M : Mem) (y4 : Int32) : Prop :=
  vp_in (y4 + 1) L ∧ pL_spread M (xs (tn (y4 + 1))) (fun r116 M117 => pX11_spread M117 (xs (tn (y4 + 1))) (fun r118 M119 => pX11_thrown M119 (fun r120 M121 => ((r120 = r116 → ((¬ r116 = 0 → bL_law_2278 xs L L23 M121 y4) ∧ (r116 = 0 → (((lg_cmp (M121.2 9000 0 (tn 0)) (Int32.toInt64 r118)) = 0 → bL_law_2278 xs L L23 M121 y4) ∧ (¬ (lg_cmp (M121.2 9000 0 (tn 0)) (Int32.toInt64 r118)) = 0 → False))))) ∧ (¬ r120 = r116 → False)))))
def bL_law_2334 (xs : Nat → Int32) (L : Nat) (L23 : Mem × Int32 → Prop) (M : Mem) (y4 : Int32) : Prop :=
  bL_law_2690 xs L L23 M y4
def bL_law_2281 (xs : Nat → Int32) (L : Nat) (L23 : Mem × Int32 → Prop) (M : Mem) (y4 : Int32) : Prop :=
  vp_in (y4 + 1) L ∧ pL_nearest M (xs (tn (y4 + 1))) (fun r106 M107 => pX11_nearest M107 (xs (tn (y4 + 1))) (fun r108 M109 => pX11_thrown M109 (fun r110 M111 => ((r110 = r106 → ((¬ r106 = 0 → bL_law_2334 xs L L23 M111 y4) ∧ (r106 = 0 → (((lg_cmp (M111.2 9000 0 (tn 0)) (Int32.toInt64 r108)) = 0 → bL_law_2334 xs L L23 M111 y4) ∧ (¬ (lg_cmp (M111.2 9000 0 (tn 0)) (Int32.toInt64 r108)) = 0 → False))))) ∧ (¬ r110 = r106 → False)))))
def bL_law_2390 (xs : Nat → Int32) (L : Nat) (L23 : Mem × Int32 → Prop) (M : Mem) (y4 : Int32) : Prop :=
  bL_law_2690 xs L L23 M y4
def bL_law_2337 (xs : Nat → Int32) (L : Nat) (L23 : Mem × Int32 → Prop) (M : Mem) (y4 : Int32) : Prop :=
  vp_in (y4 + 1) L ∧ pL_rarest M (xs (tn (y4 + 1))) (fun r96 M97 => pX11_rarest M97 (xs (tn (y4 + 1))) (fun r98 M99 => pX11_thrown M99 (fun r100 M101 => ((r100 = r96 → ((¬ r96 = 0 → bL_law_2390 xs L L23 M101 y4) ∧ (r96 = 0 → (((lg_cmp (M101.2 9000 0 (tn 0)) (Int32.toInt64 r98)) = 0 → bL_law_2390 xs L L23 M101 y4) ∧ (¬ (lg_cmp (M101.2 9000 0 (tn 0)) (Int32.toInt64 r98)) = 0 → False))))) ∧ (¬ r100 = r96 → False)))))
def bL_law_2458 (xs : Nat → Int32) (L : Nat) (L23 : Mem × Int32 → Prop) (M : Mem) (y4 : Int32) : Prop :=
  bL_law_2690 xs L L23 M y4
def bL_law_2393 (xs : Nat → Int32) (L : Nat) (L23 : Mem × Int32 → Prop) (M : Mem) (y4 : Int32) : Prop :=
  vp_in (y4 + 1) L ∧ vp_in (y4 + 2) L ∧ pL_points M (xs (tn (y4 + 1))) (xs (tn (y4 + 2))) (fun r86 M87 => pX11_points M87 (xs (tn (y4 + 1))) (xs (tn (y4 + 2))) (fun r88 M89 => pX11_thrown M89 (fun r90 M91 => ((r90 = r86 → ((¬ r86 = 0 → bL_law_2458 xs L L23 M91 y4) ∧ (r86 = 0 → (((lg_cmp (M91.2 9000 0 (tn 0)) (Int32.toInt64 r88)) = 0 → bL_law_2458 xs L L23 M91 y4) ∧ (¬ (lg_cmp (M91.2 9000 0 (tn 0)) (Int32.toInt64 r88)) = 0 → False))))) ∧ (¬ r90 = r86 → False)))))
def bL_law_2526 (xs : Nat → Int32) (L : Nat) (L23 : Mem × Int32 → Prop) (M : Mem) (y4 : Int32) : Prop :=
  bL_law_2690 xs L L23 M y4
def bL_law_2461 (xs : Nat → Int32) (L : Nat) (L23 : Mem × Int32 → Prop) (M : Mem) (y4 : Int32) : Prop :=
  vp_in (y4 + 1) L ∧ vp_in (y4 + 2) L ∧ pL_phrase M (xs (tn (y4 + 1))) (xs (tn (y4 + 2))) (fun r75 M76 => pX11_phrase M76 (xs (tn (y4 + 1))) (xs (tn (y4 + 2))) (fun r77 M78 => pX11_thrown M78 (fun r79 M80 => ((r79 = r75 → ((¬ r75 = 0 → bL_law_2526 xs L L23 M80 y4) ∧ (r75 = 0 → (((lg_cmp (M80.2 9000 0 (tn 0)) (Int32.toInt64 r77)) = 0 → bL_law_2526 xs L L23 M80 y4) ∧ (¬ (lg_cmp (M80.2 9000 0 (tn 0)) (Int32.toInt64 r77)) = 0 → False))))) ∧ (¬ r79 = r75 → False)))))
def bL_law_2594 (xs : Nat → Int32) (L : Nat) (L23 : Mem × Int32 → Prop) (M : Mem) (y4 : Int32) : Prop :=
  bL_law_2690 xs L L23 M y4
def bL_law_2529 (xs : Nat → Int32) (L : Nat) (L23 : Mem × Int32 → Prop) (M : Mem) (y4 : Int32) : Prop :=
  vp_in (y4 + 1) L ∧ vp_in (y4 + 2) L ∧ pL_depth M (xs (tn (y4 + 1))) (xs (tn (y4 + 2))) (fun r64 M65 => pX11_depth M65 (xs (tn (y4 + 1))) (xs (tn (y4 + 2))) (fun r66 M67 => pX11_thrown M67 (fun r68 M69 => ((r68 = r64 → ((¬ r64 = 0 → bL_law_2594 xs L L23 M69 y4) ∧ (r64 = 0 → (((lg_cmp (M69.2 9000 0 (tn 0)) (Int32.toInt64 r66)) = 0 → bL_law_2594 xs L L23 M69 y4) ∧ (¬ (lg_cmp (M69.2 9000 0 (tn 0)) (Int32.toInt64 r66)) = 0 → False))))) ∧ (¬ r68 = r64 → False)))))
def bL_law_2662 (xs : Nat → Int32) (L : Nat) (L23 : Mem × Int32 → Prop) (M : Mem) (y4 : Int32) : Prop :=
  bL_law_2690 xs L L23 M y4
def bL_law_2597 (xs : Nat → Int32) (L : Nat) (L23 : Mem × Int32 → Prop) (M : Mem) (y4 : Int32) : Prop :=
  vp_in (y4 + 1) L ∧ vp_in (y4 + 2) L ∧ pL_without M (xs (tn (y4 + 1))) (xs (tn (y4 + 2))) (fun r53 M54 => pX11_without M54 (xs (tn (y4 + 1))) (xs (tn (y4 + 2))) (fun r55 M56 => pX11_thrown M56 (fun r57 M58 => ((r57 = r53 → ((¬ r53 = 0 → bL_law_2662 xs L L23 M58 y4) ∧ (r53 = 0 → (((lg_cmp (M58.2 9000 0 (tn 0)) (Int32.toInt64 r55)) = 0 → bL_law_2662 xs L L23 M58 y4) ∧ (¬ (lg_cmp (M58.2 9000 0 (tn 0)) (Int32.toInt64 r55)) = 0 → False))))) ∧ (¬ r57 = r53 → False)))))
def bL_law_2665 (xs : Nat → Int32) (L : Nat) (L23 : Mem × Int32 → Prop) (M : Mem) (y4 : Int32) : Prop :=
  vp_in (y4 + 1) L ∧ pX10_status M (xs (tn (y4 + 1))) (fun r46 M47 => pX11_status M47 (xs (tn (y4 + 1))) (fun r48 M49 => ((r46 = r48 → bL_law_2690 xs L L23 M49 y4) ∧ (¬ r46 = r48 → False))))
def bL_law_23 (xs : Nat → Int32) (L : Nat) (L23 : Mem × Int32 → Prop) (M : Mem) (y4 : Int32) : Prop :=
  ((((nI L) - 6) < y4 → True) ∧ (¬ ((nI L) - 6) < y4 → vp_in y4 L ∧ ((((xs (tn y4)) &&& 63) = 0 → bL_law_224 xs L L23 M y4) ∧ (((xs (tn y4)) &&& 63) = 1 → bL_law_297 xs L L23 M y4) ∧ (((xs (tn y4)) &&& 63) = 2 → bL_law_353 xs L L23 M y4) ∧ (((xs (tn y4)) &&& 63) = 3 → bL_law_409 xs L L23 M y4) ∧ (((xs (tn y4)) &&& 63) = 4 → bL_law_422 xs L L23 M y4) ∧ (((xs (tn y4)) &&& 63) = 5 → bL_law_478 xs L L23 M y4) ∧ (((xs (tn y4)) &&& 63) = 6 → bL_law_534 xs L L23 M y4) ∧ (((xs (tn y4)) &&& 63) = 7 → bL_law_590 xs L L23 M y4) ∧ (((xs (tn y4)) &&& 63) = 8 → bL_law_646 xs L L23 M y4) ∧ (((xs (tn y4)) &&& 63) = 9 → bL_law_714 xs L L23 M y4) ∧ (((xs (tn y4)) &&& 63) = 10 → bL_law_782 xs L L23 M y4) ∧ (((xs (tn y4)) &&& 63) = 11 → bL_law_850 xs L L23 M y4) ∧ (((xs (tn y4)) &&& 63) = 12 → bL_law_918 xs L L23 M y4) ∧ (((xs (tn y4)) &&& 63) = 13 → bL_law_998 xs L L23 M y4) ∧ (((xs (tn y4)) &&& 63) = 14 → bL_law_1078 xs L L23 M y4) ∧ (((xs (tn y4)) &&& 63) = 15 → bL_law_1158 xs L L23 M y4) ∧ (((xs (tn y4)) &&& 63) = 16 → bL_law_1214 xs L L23 M y4) ∧ (((xs (tn y4)) &&& 63) = 17 → bL_law_1282 xs L L23 M y4) ∧ (((xs (tn y4)) &&& 63) = 18 → bL_law_1350 xs L L23 M y4) ∧ (((xs (tn y4)) &&& 63) = 19 → bL_law_1406 xs L L23 M y4) ∧ (((xs (tn y4)) &&& 63) = 20 → bL_law_1462 xs L L23 M y4) ∧ (((xs (tn y4)) &&& 63) = 21 → bL_law_1518 xs L L23 M y4) ∧ (((xs (tn y4)) &&& 63) = 22 → bL_law_1586 xs L L23 M y4) ∧ (((xs (tn y4)) &&& 63) = 23 → bL_law_1599 xs L L23 M y4) ∧ (((xs (tn y4)) &&& 63) = 24 → bL_law_1667 xs L L23 M y4) ∧ (((xs (tn y4)) &&& 63) = 25 → bL_law_1723 xs L L23 M y4) ∧ (((xs (tn y4)) &&& 63) = 26 → bL_law_1791 xs L L23 M y4) ∧ (((xs (tn y4)) &&& 63) = 27 → bL_law_1859 xs L L23 M y4) ∧ (((xs (tn y4)) &&& 63) = 28 → bL_law_1939 xs L L23 M y4) ∧ (((xs (tn y4)) &&& 63) = 29 → bL_law_2007 xs L L23 M y4) ∧ (((xs (tn y4)) &&& 63) = 30 → bL_law_2063 xs L L23 M y4) ∧ (((xs (tn y4)) &&& 63) = 31 → bL_law_2076 xs L L23 M y4) ∧ (((xs (tn y4)) &&& 63) = 32 → bL_law_2144 xs L L23 M y4) ∧ (((xs (tn y4)) &&& 63) = 33 → bL_law_2212 xs L L23 M y4) ∧ (((xs (tn y4)) &&& 63) = 34 → bL_law_2225 xs L L23 M y4) ∧ (((xs (tn y4)) &&& 63) = 35 → bL_law_2281 xs L L23 M y4) ∧ (((xs (tn y4)) &&& 63) = 36 → bL_law_2337 xs L L23 M y4) ∧ (((xs (tn y4)) &&& 63) = 37 → bL_law_2393 xs L L23 M y4) ∧ (((xs (tn y4)) &&& 63) = 38 → bL_law_2461 xs L L23 M y4) ∧ (((xs (tn y4)) &&& 63) = 39 → bL_law_2529 xs L L23 M y4) ∧ (((xs (tn y4)) &&& 63) = 40 → bL_law_2597 xs L L23 M y4) ∧ (((xs (tn y4)) &&& 63) = 41 → bL_law_2665 xs L L23 M y4) ∧ (¬ ((xs (tn y4)) &&& 63) = 0 → ¬ ((xs (tn y4)) &&& 63) = 1 → ¬ ((xs (tn y4)) &&& 63) = 2 → ¬ ((xs (tn y4)) &&& 63) = 3 → ¬ ((xs (tn y4)) &&& 63) = 4 → ¬ ((xs (tn y4)) &&& 63) = 5 → ¬ ((xs (tn y4)) &&& 63) = 6 → ¬ ((xs (tn y4)) &&& 63) = 7 → ¬ ((xs (tn y4)) &&& 63) = 8 → ¬ ((xs (tn y4)) &&& 63) = 9 → ¬ ((xs (tn y4)) &&& 63) = 10 → ¬ ((xs (tn y4)) &&& 63) = 11 → ¬ ((xs (tn y4)) &&& 63) = 12 → ¬ ((xs (tn y4)) &&& 63) = 13 → ¬ ((xs (tn y4)) &&& 63) = 14 → ¬ ((xs (tn y4)) &&& 63) = 15 → ¬ ((xs (tn y4)) &&& 63) = 16 → ¬ ((xs (tn y4)) &&& 63) = 17 → ¬ ((xs (tn y4)) &&& 63) = 18 → ¬ ((xs (tn y4)) &&& 63) = 19 → ¬ ((xs (tn y4)) &&& 63) = 20 → ¬ ((xs (tn y4)) &&& 63) = 21 → ¬ ((xs (tn y4)) &&& 63) = 22 → ¬ ((xs (tn y4)) &&& 63) = 23 → ¬ ((xs (tn y4)) &&& 63) = 24 → ¬ ((xs (tn y4)) &&& 63) = 25 → ¬ ((xs (tn y4)) &&& 63) = 26 → ¬ ((xs (tn y4)) &&& 63) = 27 → ¬ ((xs (tn y4)) &&& 63) = 28 → ¬ ((xs (tn y4)) &&& 63) = 29 → ¬ ((xs (tn y4)) &&& 63) = 30 → ¬ ((xs (tn y4)) &&& 63) = 31 → ¬ ((xs (tn y4)) &&& 63) = 32 → ¬ ((xs (tn y4)) &&& 63) = 33 → ¬ ((xs (tn y4)) &&& 63) = 34 → ¬ ((xs (tn y4)) &&& 63) = 35 → ¬ ((xs (tn y4)) &&& 63) = 36 → ¬ ((xs (tn y4)) &&& 63) = 37 → ¬ ((xs (tn y4)) &&& 63) = 38 → ¬ ((xs (tn y4)) &&& 63) = 39 → ¬ ((xs (tn y4)) &&& 63) = 40 → ¬ ((xs (tn y4)) &&& 63) = 41 → bL_law_2690 xs L L23 M y4))))
