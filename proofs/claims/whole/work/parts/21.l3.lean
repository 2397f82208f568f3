set_option maxRecDepth 100000 in
set_option maxHeartbeats 400000 in
theorem wL_law_2458 {Γ : Gam} {G : Gm} {Qf : State → Prop} {xs : Nat → Int32} {b L ce sl : Nat} (hG : Gd G) (C : Cx Γ G cL_law 7 RL (some .boolean) room_1) (hl0 : (gl Γ).stackTraces = false) (hX : va_X b L xs (gs Γ) (gs Γ).heap) (hbl : b < (gs Γ).heap.size) (hbA : ¬ gA G b) (hNc : va_Nc EI EN (gs Γ)) (hQf : (gar Γ) = #[Value.ref b] ∧ Qf = lw_Z (gbe Γ) #[Value.ref b] (gs Γ)) (hA9 : ∀ q, gA G q → (gs Γ).heap.size ≤ q) (hc9 : ce + 8 ≤ room_1.cells) (hs9 : sl + 48 ≤ room_1.slots) (hc0 : ce ≤ room_1.cells) (hs0 : sl ≤ room_1.slots) {L23 : Mem × Int32 → Prop} (hL23 : ∀ s, L23 s → X Γ G Qf 7 (ce + 8) (sl + 48) 23 [(4, .int s.2), (0, .ref b), (1, .ref (ga G 10 0)), (2, .ref (ga G 11 0)), (3, .ref (ga G 9000 0))] [] s.1) (M : Mem) (y4 : Int32) (h : bL_law_2458 xs L L23 M y4) : X Γ G Qf 7 (ce + 1) (sl + 6) 2458 [(4, .int y4), (0, .ref b), (1, .ref (ga G 10 0)), (2, .ref (ga G 11 0)), (3, .ref (ga G 9000 0))] [] M := by
  unfold bL_law_2458 at h
  refine x_goto (tgt := 2690) C dL_law_2458 (by decide) ?_
  refine X_widen (c1 := ce + 4) (s1 := sl + 24) (Nat.add_le_add_left (Nat.le_of_ble_eq_true rfl) ce) (Nat.add_le_add_left (Nat.le_of_ble_eq_true rfl) sl) ?_
  refine X_sub (lv' := [(4, .int y4), (0, .ref b), (1, .ref (ga G 10 0)), (2, .ref (ga G 11 0)), (3, .ref (ga G 9000 0))]) [0, 1, 2, 3, 4] rfl ?_
  exact wL_law_2690 hG C hl0 hX hbl hbA hNc hQf hA9 hc9 hs9 hc0 hs0 hL23 M y4 h
set_option maxRecDepth 100000 in
set_option maxHeartbeats 400000 in
theorem wL_law_2393 {Γ : Gam} {G : Gm} {Qf : State → Prop} {xs : Nat → Int32} {b L ce sl : Nat} (hG : Gd G) (C : Cx Γ G cL_law 7 RL (some .boolean) room_1) (hl0 : (gl Γ).stackTraces = false) (hX : va_X b L xs (gs Γ) (gs Γ).heap) (hbl : b < (gs Γ).heap.size) (hbA : ¬ gA G b) (hNc : va_Nc EI EN (gs Γ)) (hQf : (gar Γ) = #[Value.ref b] ∧ Qf = lw_Z (gbe Γ) #[Value.ref b] (gs Γ)) (hA9 : ∀ q, gA G q → (gs Γ).heap.size ≤ q) (hc9 : ce + 8 ≤ room_1.cells) (hs9 : sl + 48 ≤ room_1.slots) (hc0 : ce ≤ room_1.cells) (hs0 : sl ≤ room_1.slots) {L23 : Mem × Int32 → Prop} (hL23 : ∀ s, L23 s → X Γ G Qf 7 (ce + 8) (sl + 48) 23 [(4, .int s.2), (0, .ref b), (1, .ref (ga G 10 0)), (2, .ref (ga G 11 0)), (3, .ref (ga G 9000 0))] [] s.1) (M : Mem) (y4 : Int32) (h : bL_law_2393 xs L L23 M y4) : X Γ G Qf 7 (ce + 0) (sl + 0) 2393 [(4, .int y4), (0, .ref b), (1, .ref (ga G 10 0)), (2, .ref (ga G 11 0)), (3, .ref (ga G 9000 0))] [] M := by
  unfold bL_law_2393 at h
  refine x_aload_n C dL_law_2393 2 rfl ?_
  refine x_aload_n C dL_law_2394 1 rfl ?_
  refine x_iload C dL_law_2395 0 rfl ?_
  refine x_iconst (v := 1) C dL_law_2397 rfl ?_
  refine x_iadd C dL_law_2398 ?_
  obtain ⟨f84, h⟩ := h
  refine x_sld C hX hbl hbA f84 dL_law_2399 ?_
  refine x_aload_n C dL_law_2400 1 rfl ?_
  refine x_iload C dL_law_2401 0 rfl ?_
  refine x_iconst (v := 2) C dL_law_2403 rfl ?_
  refine x_iadd C dL_law_2404 ?_
  obtain ⟨f85, h⟩ := h
  refine x_sld C hX hbl hbA f85 dL_law_2405 ?_
  refine x_aload_n C dL_law_2406 4 rfl ?_
  refine x_lcall (rest := []) (ce1 := ce + 1) (sl1 := sl + 6) C sl_L_254 hNc (kL_points hG hl0 _ _ _ h) rfl rfl (Nat.le_of_ble_eq_true rfl) ⟨Nat.le_of_ble_eq_true rfl, Nat.le_of_ble_eq_true rfl⟩ rfl rfl ⟨Nat.le_trans (Nat.add_le_add_left (Nat.le_of_ble_eq_true rfl) ce) hc9, Nat.le_trans (Nat.add_le_add_left (Nat.le_of_ble_eq_true rfl) sl) hs9⟩ dL_law_2407 (fun r86 M87 h => ?_)
  refine x_istore (lv' := [(5, .int r86), (4, .int y4), (0, .ref b), (1, .ref (ga G 10 0)), (2, .ref (ga G 11 0)), (3, .ref (ga G 9000 0))]) C dL_law_2410 (Nat.le_of_ble_eq_true rfl) rfl ?_
  refine x_aload_n C dL_law_2412 4 rfl ?_
  refine x_aload_n C dL_law_2413 2 rfl ?_
  refine x_iload C dL_law_2414 1 rfl ?_
  refine x_iconst (v := 1) C dL_law_2416 rfl ?_
  refine x_iadd C dL_law_2417 ?_
  refine x_sld C hX hbl hbA f84 dL_law_2418 ?_
  refine x_aload_n C dL_law_2419 2 rfl ?_
  refine x_iload C dL_law_2420 1 rfl ?_
  refine x_iconst (v := 2) C dL_law_2422 rfl ?_
  refine x_iadd C dL_law_2423 ?_
  refine x_sld C hX hbl hbA f85 dL_law_2424 ?_
  refine x_calli (rest := []) (ce1 := ce + 1) (sl1 := sl + 6) C sv_L_256 ob11 z11 (kX11_points hG _ _ _ h) rfl rfl (Nat.le_of_ble_eq_true rfl) ⟨Nat.le_of_ble_eq_true rfl, Nat.le_of_ble_eq_true rfl⟩ rfl rfl ⟨Nat.le_trans (Nat.add_le_add_left (Nat.le_of_ble_eq_true rfl) ce) hc9, Nat.le_trans (Nat.add_le_add_left (Nat.le_of_ble_eq_true rfl) sl) hs9⟩ dL_law_2425 (fun r88 M89 h => ?_)
  refine x_istore (lv' := [(6, .int r88), (5, .int r86), (4, .int y4), (0, .ref b), (1, .ref (ga G 10 0)), (2, .ref (ga G 11 0)), (3, .ref (ga G 9000 0))]) C dL_law_2428 (Nat.le_of_ble_eq_true rfl) rfl ?_
  refine x_aload_n C dL_law_2430 5 rfl ?_
  refine x_calli (rest := []) (ce1 := ce + 1) (sl1 := sl + 6) C sv_L_139 ob11 z11 (kX11_thrown hG _ h) rfl rfl (Nat.le_of_ble_eq_true rfl) ⟨Nat.le_of_ble_eq_true rfl, Nat.le_of_ble_eq_true rfl⟩ rfl rfl ⟨Nat.le_trans (Nat.add_le_add_left (Nat.le_of_ble_eq_true rfl) ce) hc9, Nat.le_trans (Nat.add_le_add_left (Nat.le_of_ble_eq_true rfl) sl) hs9⟩ dL_law_2431 (fun r90 M91 h => ?_)
  refine x_iload C dL_law_2434 1 rfl ?_
  refine x_icmp_eq (tgt := 2441) C dL_law_2436 (by decide) (fun c92 => ?_) (fun c92 => ?_)
  · replace h := h.1 c92
    refine x_iload C dL_law_2441 1 rfl ?_
    refine x_if_ne (tgt := 2458) C dL_law_2443 (by decide) (fun c93 => ?_) (fun c93 => ?_)
    · replace h := h.1 c93
      refine X_sub (lv' := [(4, .int y4), (0, .ref b), (1, .ref (ga G 10 0)), (2, .ref (ga G 11 0)), (3, .ref (ga G 9000 0))]) [2, 3, 4, 5, 6] rfl ?_
      exact wL_law_2458 hG C hl0 hX hbl hbA hNc hQf hA9 hc9 hs9 hc0 hs0 hL23 M91 y4 h
    · replace h := h.2 c93
      refine x_aload_n C dL_law_2446 6 rfl ?_
      refine x_iconst (v := 0) C dL_law_2447 rfl ?_
      refine al_9000 C z9000 (vp_l (by decide)) dL_law_2448 ?_
      refine x_iload C dL_law_2449 0 rfl ?_
      refine x_i2l C dL_law_2451 ?_
      refine x_lcmp C dL_law_2452 ?_
      refine x_if_eq (tgt := 2458) C dL_law_2453 (by decide) (fun c94 => ?_) (fun c94 => ?_)
      · replace h := h.1 c94
        refine X_sub (lv' := [(4, .int y4), (0, .ref b), (1, .ref (ga G 10 0)), (2, .ref (ga G 11 0)), (3, .ref (ga G 9000 0))]) [2, 3, 4, 5, 6] rfl ?_
        exact wL_law_2458 hG C hl0 hX hbl hbA hNc hQf hA9 hc9 hs9 hc0 hs0 hL23 M91 y4 h
      · replace h := h.2 c94
        refine x_iconst (v := 0) C dL_law_2456 rfl ?_
        exact h.elim
  · replace h := h.2 c92
    refine x_iconst (v := 0) C dL_law_2439 rfl ?_
    exact h.elim
set_option maxRecDepth 100000 in
set_option maxHeartbeats 400000 in
theorem wL_law_2526 {Γ : Gam} {G : Gm} {Qf : State → Prop} {xs : Nat → Int32} {b L ce sl : Nat} (hG : Gd G) (C : Cx Γ G cL_law 7 RL (some .boolean) room_1) (hl0 : (gl Γ).stackTraces = false) (hX : va_X b L xs (gs Γ) (gs Γ).heap) (hbl : b < (gs Γ).heap.size) (hbA : ¬ gA G b) (hNc : va_Nc EI EN (gs Γ)) (hQf : (gar Γ) = #[Value.ref b] ∧ Qf = lw_Z (gbe Γ) #[Value.ref b] (gs Γ)) (hA9 : ∀ q, gA G q → (gs Γ).heap.size ≤ q) (hc9 : ce + 8 ≤ room_1.cells) (hs9 : sl + 48 ≤ room_1.slots) (hc0 : ce ≤ room_1.cells) (hs0 : sl ≤ room_1.slots) {L23 : Mem × Int32 → Prop} (hL23 : ∀ s, L23 s → X Γ G Qf 7 (ce + 8) (sl + 48) 23 [(4, .int s.2), (0, .ref b), (1, .ref (ga G 10 0)), (2, .ref (ga G 11 0)), (3, .ref (ga G 9000 0))] [] s.1) (M : Mem) (y4 : Int32) (h : bL_law_2526 xs L L23 M y4) : X Γ G Qf 7 (ce + 1) (sl + 6) 2526 [(4, .int y4), (0, .ref b), (1, .ref (ga G 10 0)), (2, .ref (ga G 11 0)), (3, .ref (ga G 9000 0))] [] M := by
  unfold bL_law_2526 at h
  refine x_goto (tgt := 2690) C dL_law_2526 (by decide) ?_
  refine X_widen (c1 := ce + 4) (s1 := sl + 24) (Nat.add_le_add_left (Nat.le_of_ble_eq_true rfl) ce) (Nat.add_le_add_left (Nat.le_of_ble_eq_true rfl) sl) ?_
  refine X_sub (lv' := [(4, .int y4), (0, .ref b), (1, .ref (ga G 10 0)), (2, .ref (ga G 11 0)), (3, .ref (ga G 9000 0))]) [0, 1, 2, 3, 4] rfl ?_
  exact wL_law_2690 hG C hl0 hX hbl hbA hNc hQf hA9 hc9 hs9 hc0 hs0 hL23 M y4 h
set_option maxRecDepth 100000 in
set_option maxHeartbeats 400000 in
theorem wL_law_2461 {Γ : Gam} {G : Gm} {Qf : State → Prop} {xs : Nat → Int32} {b L ce sl : Nat} (hG : Gd G) (C : Cx Γ G cL_law 7 RL (some .boolean) room_1) (hl0 : (gl Γ).stackTraces = false) (hX : va_X b L xs (gs Γ) (gs Γ).heap) (hbl : b < (gs Γ).heap.size) (hbA : ¬ gA G b) (hNc : va_Nc EI EN (gs Γ)) (hQf : (gar Γ) = #[Value.ref b] ∧ Qf = lw_Z (gbe Γ) #[Value.ref b] (gs Γ)) (hA9 : ∀ q, gA G q → (gs Γ).heap.size ≤ q) (hc9 : ce + 8 ≤ room_1.cells) (hs9 : sl + 48 ≤ room_1.slots) (hc0 : ce ≤ room_1.cells) (hs0 : sl ≤ room_1.slots) {L23 : Mem × Int32 → Prop} (hL23 : ∀ s, L23 s → X Γ G Qf 7 (ce + 8) (sl + 48) 23 [(4, .int s.2), (0, .ref b), (1, .ref (ga G 10 0)), (2, .ref (ga G 11 0)), (3, .ref (ga G 9000 0))] [] s.1) (M : Mem) (y4 : Int32) (h : bL_law_2461 xs L L23 M y4) : X Γ G Qf 7 (ce + 0) (sl + 0) 2461 [(4, .int y4), (0, .ref b), (1, .ref (ga G 10 0)), (2, .ref (ga G 11 0)), (3, .ref (ga G 9000 0))] [] M := by
  unfold bL_law_2461 at h
  refine x_aload_n C dL_law_2461 2 rfl ?_
  refine x_aload_n C dL_law_2462 1 rfl ?_
  refine x_iload C dL_law_2463 0 rfl ?_
  refine x_iconst (v := 1) C dL_law_2465 rfl ?_
  refine x_iadd C dL_law_2466 ?_
  obtain ⟨f73, h⟩ := h
  refine x_sld C hX hbl hbA f73 dL_law_2467 ?_
  refine x_aload_n C dL_law_2468 1 rfl ?_
  refine x_iload C dL_law_2469 0 rfl ?_
  refine x_iconst (v := 2) C dL_law_2471 rfl ?_
  refine x_iadd C dL_law_2472 ?_
  obtain ⟨f74, h⟩ := h
  refine x_sld C hX hbl hbA f74 dL_law_2473 ?_
  refine x_aload_n C dL_law_2474 4 rfl ?_
  refine x_lcall (rest := []) (ce1 := ce + 1) (sl1 := sl + 6) C sl_L_257 hNc (kL_phrase hG hl0 _ _ _ h) rfl rfl (Nat.le_of_ble_eq_true rfl) ⟨Nat.le_of_ble_eq_true rfl, Nat.le_of_ble_eq_true rfl⟩ rfl rfl ⟨Nat.le_trans (Nat.add_le_add_left (Nat.le_of_ble_eq_true rfl) ce) hc9, Nat.le_trans (Nat.add_le_add_left (Nat.le_of_ble_eq_true rfl) sl) hs9⟩ dL_law_2475 (fun r75 M76 h => ?_)
  refine x_istore (lv' := [(5, .int r75), (4, .int y4), (0, .ref b), (1, .ref (ga G 10 0)), (2, .ref (ga G 11 0)), (3, .ref (ga G 9000 0))]) C dL_law_2478 (Nat.le_of_ble_eq_true rfl) rfl ?_
  refine x_aload_n C dL_law_2480 4 rfl ?_
  refine x_aload_n C dL_law_2481 2 rfl ?_
  refine x_iload C dL_law_2482 1 rfl ?_
  refine x_iconst (v := 1) C dL_law_2484 rfl ?_
  refine x_iadd C dL_law_2485 ?_
  refine x_sld C hX hbl hbA f73 dL_law_2486 ?_
  refine x_aload_n C dL_law_2487 2 rfl ?_
  refine x_iload C dL_law_2488 1 rfl ?_
  refine x_iconst (v := 2) C dL_law_2490 rfl ?_
  refine x_iadd C dL_law_2491 ?_
  refine x_sld C hX hbl hbA f74 dL_law_2492 ?_
  refine x_calli (rest := []) (ce1 := ce + 1) (sl1 := sl + 6) C sv_L_259 ob11 z11 (kX11_phrase hG _ _ _ h) rfl rfl (Nat.le_of_ble_eq_true rfl) ⟨Nat.le_of_ble_eq_true rfl, Nat.le_of_ble_eq_true rfl⟩ rfl rfl ⟨Nat.le_trans (Nat.add_le_add_left (Nat.le_of_ble_eq_true rfl) ce) hc9, Nat.le_trans (Nat.add_le_add_left (Nat.le_of_ble_eq_true rfl) sl) hs9⟩ dL_law_2493 (fun r77 M78 h => ?_)
  refine x_istore (lv' := [(6, .int r77), (5, .int r75), (4, .int y4), (0, .ref b), (1, .ref (ga G 10 0)), (2, .ref (ga G 11 0)), (3, .ref (ga G 9000 0))]) C dL_law_2496 (Nat.le_of_ble_eq_true rfl) rfl ?_
  refine x_aload_n C dL_law_2498 5 rfl ?_
  refine x_calli (rest := []) (ce1 := ce + 1) (sl1 := sl + 6) C sv_L_139 ob11 z11 (kX11_thrown hG _ h) rfl rfl (Nat.le_of_ble_eq_true rfl) ⟨Nat.le_of_ble_eq_true rfl, Nat.le_of_ble_eq_true rfl⟩ rfl rfl ⟨Nat.le_trans (Nat.add_le_add_left (Nat.le_of_ble_eq_true rfl) ce) hc9, Nat.le_trans (Nat.add_le_add_left (Nat.le_of_ble_eq_true rfl) sl) hs9⟩ dL_law_2499 (fun r79 M80 h => ?_)
  refine x_iload C dL_law_2502 1 rfl ?_
  refine x_icmp_eq (tgt := 2509) C dL_law_2504 (by decide) (fun c81 => ?_) (fun c81 => ?_)
  · replace h := h.1 c81
    refine x_iload C dL_law_2509 1 rfl ?_
    refine x_if_ne (tgt := 2526) C dL_law_2511 (by decide) (fun c82 => ?_) (fun c82 => ?_)
    · replace h := h.1 c82
      refine X_sub (lv' := [(4, .int y4), (0, .ref b), (1, .ref (ga G 10 0)), (2, .ref (ga G 11 0)), (3, .ref (ga G 9000 0))]) [2, 3, 4, 5, 6] rfl ?_
      exact wL_law_2526 hG C hl0 hX hbl hbA hNc hQf hA9 hc9 hs9 hc0 hs0 hL23 M80 y4 h
    · replace h := h.2 c82
      refine x_aload_n C dL_law_2514 6 rfl ?_
      refine x_iconst (v := 0) C dL_law_2515 rfl ?_
      refine al_9000 C z9000 (vp_l (by decide)) dL_law_2516 ?_
      refine x_iload C dL_law_2517 0 rfl ?_
      refine x_i2l C dL_law_2519 ?_
      refine x_lcmp C dL_law_2520 ?_
      refine x_if_eq (tgt := 2526) C dL_law_2521 (by decide) (fun c83 => ?_) (fun c83 => ?_)
      · replace h := h.1 c83
        refine X_sub (lv' := [(4, .int y4), (0, .ref b), (1, .ref (ga G 10 0)), (2, .ref (ga G 11 0)), (3, .ref (ga G 9000 0))]) [2, 3, 4, 5, 6] rfl ?_
        exact wL_law_2526 hG C hl0 hX hbl hbA hNc hQf hA9 hc9 hs9 hc0 hs0 hL23 M80 y4 h
      · replace h := h.2 c83
        refine x_iconst (v := 0) C dL_law_2524 rfl ?_
        exact h.elim
  · replace h := h.2 c81
    refine x_iconst (v := 0) C dL_law_2507 rfl ?_
    exact h.elim
set_option maxRecDepth 100000 in
set_option maxHeartbeats 400000 in
theorem wL_law_2594 {Γ : Gam} {G : Gm} {Qf : State → Prop} {xs : Nat → Int32} {b L ce sl : Nat} (hG : Gd G) (C : Cx Γ G cL_law 7 RL (some .boolean) room_1) (hl0 : (gl Γ).stackTraces = false) (hX : va_X b L xs (gs Γ) (gs Γ).heap) (hbl : b < (gs Γ).heap.size) (hbA : ¬ gA G b) (hNc : va_Nc EI EN (gs Γ)) (hQf : (gar Γ) = #[Value.ref b] ∧ Qf = lw_Z (gbe Γ) #[Value.ref b] (gs Γ)) (hA9 : ∀ q, gA G q → (gs Γ).heap.size ≤ q) (hc9 : ce + 8 ≤ room_1.cells) (hs9 : sl + 48 ≤ room_1.slots) (hc0 : ce ≤ room_1.cells) (hs0 : sl ≤ room_1.slots) {L23 : Mem × Int32 → Prop} (hL23 : ∀ s, L23 s → X Γ G Qf 7 (ce + 8) (sl + 48) 23 [(4, .int s.2), (0, .ref b), (1, .ref (ga G 10 0)), (2, .ref (ga G 11 0)), (3, .ref (ga G 9000 0))] [] s.1) (M : Mem) (y4 : Int32) (h : bL_law_2594 xs L L23 M y4) : X Γ G Qf 7 (ce + 3) (sl + 18) 2594 [(4, .int y4), (0, .ref b), (1, .ref (ga G 10 0)), (2, .ref (ga G 11 0)), (3, .ref (ga G 9000 0))] [] M := by
  unfold bL_law_2594 at h
  refine x_goto (tgt := 2690) C dL_law_2594 (by decide) ?_
  refine X_widen (c1 := ce + 4) (s1 := sl + 24) (Nat.add_le_add_left (Nat.le_of_ble_eq_true rfl) ce) (Nat.add_le_add_left (Nat.le_of_ble_eq_true rfl) sl) ?_
  refine X_sub (lv' := [(4, .int y4), (0, .ref b), (1, .ref (ga G 10 0)), (2, .ref (ga G 11 0)), (3, .ref (ga G 9000 0))]) [0, 1, 2, 3, 4] rfl ?_
  exact wL_law_2690 hG C hl0 hX hbl hbA hNc hQf hA9 hc9 hs9 hc0 hs0 hL23 M y4 h
set_option maxRecDepth 100000 in
set_option maxHeartbeats 400000 in
theorem wL_law_2529 {Γ : Gam} {G : Gm} {Qf : State → Prop} {xs : Nat → Int32} {b L ce sl : Nat} (hG : Gd G) (C : Cx Γ G cL_law 7 RL (some .boolean) room_1) (hl0 : (gl Γ).stackTraces = false) (hX : va_X b L xs (gs Γ) (gs Γ).heap) (hbl : b < (gs Γ).heap.size) (hbA : ¬ gA G b) (hNc : va_Nc EI EN (gs Γ)) (hQf : (gar Γ) = #[Value.ref b] ∧ Qf = lw_Z (gbe Γ) #[Value.ref b] (gs Γ)) (hA9 : ∀ q, gA G q → (gs Γ).heap.size ≤ q) (hc9 : ce + 8 ≤ room_1.cells) (hs9 : sl + 48 ≤ room_1.slots) (hc0 : ce ≤ room_1.cells) (hs0 : sl ≤ room_1.slots) {L23 : Mem × Int32 → Prop} (hL23 : ∀ s, L23 s → X Γ G Qf 7 (ce + 8) (sl + 48) 23 [(4, .int s.2), (0, .ref b), (1, .ref (ga G 10 0)), (2, .ref (ga G 11 0)), (3, .ref (ga G 9000 0))] [] s.1) (M : Mem) (y4 : Int32) (h : bL_law_2529 xs L L23 M y4) : X Γ G Qf 7 (ce + 0) (sl + 0) 2529 [(4, .int y4), (0, .ref b), (1, .ref (ga G 10 0)), (2, .ref (ga G 11 0)), (3, .ref (ga G 9000 0))] [] M := by
  unfold bL_law_2529 at h
  refine x_aload_n C dL_law_2529 2 rfl ?_
  refine x_aload_n C dL_law_2530 1 rfl ?_
  refine x_iload C dL_law_2531 0 rfl ?_
  refine x_iconst (v := 1) C dL_law_2533 rfl ?_
  refine x_iadd C dL_law_2534 ?_
  obtain ⟨f62, h⟩ := h
  refine x_sld C hX hbl hbA f62 dL_law_2535 ?_
  refine x_aload_n C dL_law_2536 1 rfl ?_
  refine x_iload C dL_law_2537 0 rfl ?_
  refine x_iconst (v := 2) C dL_law_2539 rfl ?_
  refine x_iadd C dL_law_2540 ?_
  obtain ⟨f63, h⟩ := h
  refine x_sld C hX hbl hbA f63 dL_law_2541 ?_
  refine x_aload_n C dL_law_2542 4 rfl ?_
  refine x_lcall (rest := []) (ce1 := ce + 3) (sl1 := sl + 18) C sl_L_260 hNc (kL_depth hG hl0 _ _ _ h) rfl rfl (Nat.le_of_ble_eq_true rfl) ⟨Nat.le_of_ble_eq_true rfl, Nat.le_of_ble_eq_true rfl⟩ rfl rfl ⟨Nat.le_trans (Nat.add_le_add_left (Nat.le_of_ble_eq_true rfl) ce) hc9, Nat.le_trans (Nat.add_le_add_left (Nat.le_of_ble_eq_true rfl) sl) hs9⟩ dL_law_2543 (fun r64 M65 h => ?_)
  refine x_istore (lv' := [(5, .int r64), (4, .int y4), (0, .ref b), (1, .ref (ga G 10 0)), (2, .ref (ga G 11 0)), (3, .ref (ga G 9000 0))]) C dL_law_2546 (Nat.le_of_ble_eq_true rfl) rfl ?_
  refine x_aload_n C dL_law_2548 4 rfl ?_
  refine x_aload_n C dL_law_2549 2 rfl ?_
  refine x_iload C dL_law_2550 1 rfl ?_
  refine x_iconst (v := 1) C dL_law_2552 rfl ?_
  refine x_iadd C dL_law_2553 ?_
  refine x_sld C hX hbl hbA f62 dL_law_2554 ?_
  refine x_aload_n C dL_law_2555 2 rfl ?_
  refine x_iload C dL_law_2556 1 rfl ?_
  refine x_iconst (v := 2) C dL_law_2558 rfl ?_
  refine x_iadd C dL_law_2559 ?_
  refine x_sld C hX hbl hbA f63 dL_law_2560 ?_
  refine x_calli (rest := []) (ce1 := ce + 3) (sl1 := sl + 18) C sv_L_262 ob11 z11 (kX11_depth hG _ _ _ h) rfl rfl (Nat.le_of_ble_eq_true rfl) ⟨Nat.le_of_ble_eq_true rfl, Nat.le_of_ble_eq_true rfl⟩ rfl rfl ⟨Nat.le_trans (Nat.add_le_add_left (Nat.le_of_ble_eq_true rfl) ce) hc9, Nat.le_trans (Nat.add_le_add_left (Nat.le_of_ble_eq_true rfl) sl) hs9⟩ dL_law_2561 (fun r66 M67 h => ?_)
  refine x_istore (lv' := [(6, .int r66), (5, .int r64), (4, .int y4), (0, .ref b), (1, .ref (ga G 10 0)), (2, .ref (ga G 11 0)), (3, .ref (ga G 9000 0))]) C dL_law_2564 (Nat.le_of_ble_eq_true rfl) rfl ?_
  refine x_aload_n C dL_law_2566 5 rfl ?_
  refine x_calli (rest := []) (ce1 := ce + 3) (sl1 := sl + 18) C sv_L_139 ob11 z11 (kX11_thrown hG _ h) rfl rfl (Nat.le_of_ble_eq_true rfl) ⟨Nat.le_of_ble_eq_true rfl, Nat.le_of_ble_eq_true rfl⟩ rfl rfl ⟨Nat.le_trans (Nat.add_le_add_left (Nat.le_of_ble_eq_true rfl) ce) hc9, Nat.le_trans (Nat.add_le_add_left (Nat.le_of_ble_eq_true rfl) sl) hs9⟩ dL_law_2567 (fun r68 M69 h => ?_)
  refine x_iload C dL_law_2570 1 rfl ?_
  refine x_icmp_eq (tgt := 2577) C dL_law_2572 (by decide) (fun c70 => ?_) (fun c70 => ?_)
  · replace h := h.1 c70
    refine x_iload C dL_law_2577 1 rfl ?_
    refine x_if_ne (tgt := 2594) C dL_law_2579 (by decide) (fun c71 => ?_) (fun c71 => ?_)
    · replace h := h.1 c71
      refine X_sub (lv' := [(4, .int y4), (0, .ref b), (1, .ref (ga G 10 0)), (2, .ref (ga G 11 0)), (3, .ref (ga G 9000 0))]) [2, 3, 4, 5, 6] rfl ?_
      exact wL_law_2594 hG C hl0 hX hbl hbA hNc hQf hA9 hc9 hs9 hc0 hs0 hL23 M69 y4 h
    · replace h := h.2 c71
      refine x_aload_n C dL_law_2582 6 rfl ?_
      refine x_iconst (v := 0) C dL_law_2583 rfl ?_
      refine al_9000 C z9000 (vp_l (by decide)) dL_law_2584 ?_
      refine x_iload C dL_law_2585 0 rfl ?_
      refine x_i2l C dL_law_2587 ?_
      refine x_lcmp C dL_law_2588 ?_
      refine x_if_eq (tgt := 2594) C dL_law_2589 (by decide) (fun c72 => ?_) (fun c72 => ?_)
      · replace h := h.1 c72
        refine X_sub (lv' := [(4, .int y4), (0, .ref b), (1, .ref (ga G 10 0)), (2, .ref (ga G 11 0)), (3, .ref (ga G 9000 0))]) [2, 3, 4, 5, 6] rfl ?_
        exact wL_law_2594 hG C hl0 hX hbl hbA hNc hQf hA9 hc9 hs9 hc0 hs0 hL23 M69 y4 h
      · replace h := h.2 c72
        refine x_iconst (v := 0) C dL_law_2592 rfl ?_
        exact h.elim
  · replace h := h.2 c70
    refine x_iconst (v := 0) C dL_law_2575 rfl ?_
    exact h.elim
set_option maxRecDepth 100000 in
set_option maxHeartbeats 400000 in
theorem wL_law_2662 {Γ : Gam} {G : Gm} {Qf : State → Prop} {xs : Nat → Int32} {b L ce sl : Nat} (hG : Gd G) (C : Cx Γ G cL_law 7 RL (some .boolean) room_1) (hl0 : (gl Γ).stackTraces = false) (hX : va_X b L xs (gs Γ) (gs Γ).heap) (hbl : b < (gs Γ).heap.size) (hbA : ¬ gA G b) (hNc : va_Nc EI EN (gs Γ)) (hQf : (gar Γ) = #[Value.ref b] ∧ Qf = lw_Z (gbe Γ) #[Value.ref b] (gs Γ)) (hA9 : ∀ q, gA G q → (gs Γ).heap.size ≤ q) (hc9 : ce + 8 ≤ room_1.cells) (hs9 : sl + 48 ≤ room_1.slots) (hc0 : ce ≤ room_1.cells) (hs0 : sl ≤ room_1.slots) {L23 : Mem × Int32 → Prop} (hL23 : ∀ s, L23 s → X Γ G Qf 7 (ce + 8) (sl + 48) 23 [(4, .int s.2), (0, .ref b), (1, .ref (ga G 10 0)), (2, .ref (ga G 11 0)), (3, .ref (ga G 9000 0))] [] s.1) (M : Mem) (y4 : Int32) (h : bL_law_2662 xs L L23 M y4) : X Γ G Qf 7 (ce + 1) (sl + 6) 2662 [(4, .int y4), (0, .ref b), (1, .ref (ga G 10 0)), (2, .ref (ga G 11 0)), (3, .ref (ga G 9000 0))] [] M := by
  unfold bL_law_2662 at h
  refine x_goto (tgt := 2690) C dL_law_2662 (by decide) ?_
  refine X_widen (c1 := ce + 4) (s1 := sl + 24) (Nat.add_le_add_left (Nat.le_of_ble_eq_true rfl) ce) (Nat.add_le_add_left (Nat.le_of_ble_eq_true rfl) sl) ?_
  refine X_sub (lv' := [(4, .int y4), (0, .ref b), (1, .ref (ga G 10 0)), (2, .ref (ga G 11 0)), (3, .ref (ga G 9000 0))]) [0, 1, 2, 3, 4] rfl ?_
  exact wL_law_2690 hG C hl0 hX hbl hbA hNc hQf hA9 hc9 hs9 hc0 hs0 hL23 M y4 h
set_option maxRecDepth 100000 in
set_option maxHeartbeats 400000 in
theorem wL_law_2597 {Γ : Gam} {G : Gm} {Qf : State → Prop} {xs : Nat → Int32} {b L ce sl : Nat} (hG : Gd G) (C : Cx Γ G cL_law 7 RL (some .boolean) room_1) (hl0 : (gl Γ).stackTraces = false) (hX : va_X b L xs (gs Γ) (gs Γ).heap) (hbl : b < (gs Γ).heap.size) (hbA : ¬ gA G b) (hNc : va_Nc EI EN (gs Γ)) (hQf : (gar Γ) = #[Value.ref b] ∧ Qf = lw_Z (gbe Γ) #[Value.ref b] (gs Γ)) (hA9 : ∀ q, gA G q → (gs Γ).heap.size ≤ q) (hc9 : ce + 8 ≤ room_1.cells) (hs9 : sl + 48 ≤ room_1.slots) (hc0 : ce ≤ room_1.cells) (hs0 : sl ≤ room_1.slots) {L23 : Mem × Int32 → Prop} (hL23 : ∀ s, L23 s → X Γ G Qf 7 (ce + 8) (sl + 48) 23 [(4, .int s.2), (0, .ref b), (1, .ref (ga G 10 0)), (2, .ref (ga G 11 0)), (3, .ref (ga G 9000 0))] [] s.1) (M : Mem) (y4 : Int32) (h : bL_law_2597 xs L L23 M y4) : X Γ G Qf 7 (ce + 0) (sl + 0) 2597 [(4, .int y4), (0, .ref b), (1, .ref (ga G 10 0)), (2, .ref (ga G 11 0)), (3, .ref (ga G 9000 0))] [] M := by
  unfold bL_law_2597 at h
  refine x_aload_n C dL_law_2597 2 rfl ?_
  refine x_aload_n C dL_law_2598 1 rfl ?_
  refine x_iload C dL_law_2599 0 rfl ?_
  refine x_iconst (v := 1) C dL_law_2601 rfl ?_
  refine x_iadd C dL_law_2602 ?_
  obtain ⟨f51, h⟩ := h
  refine x_sld C hX hbl hbA f51 dL_law_2603 ?_
  refine x_aload_n C dL_law_2604 1 rfl ?_
  refine x_iload C dL_law_2605 0 rfl ?_
  refine x_iconst (v := 2) C dL_law_2607 rfl ?_
  refine x_iadd C dL_law_2608 ?_
  obtain ⟨f52, h⟩ := h
  refine x_sld C hX hbl hbA f52 dL_law_2609 ?_
  refine x_aload_n C dL_law_2610 4 rfl ?_
  refine x_lcall (rest := []) (ce1 := ce + 1) (sl1 := sl + 6) C sl_L_263 hNc (kL_without hG hl0 _ _ _ h) rfl rfl (Nat.le_of_ble_eq_true rfl) ⟨Nat.le_of_ble_eq_true rfl, Nat.le_of_ble_eq_true rfl⟩ rfl rfl ⟨Nat.le_trans (Nat.add_le_add_left (Nat.le_of_ble_eq_true rfl) ce) hc9, Nat.le_trans (Nat.add_le_add_left (Nat.le_of_ble_eq_true rfl) sl) hs9⟩ dL_law_2611 (fun r53 M54 h => ?_)
  refine x_istore (lv' := [(5, .int r53), (4, .int y4), (0, .ref b), (1, .ref (ga G 10 0)), (2, .ref (ga G 11 0)), (3, .ref (ga G 9000 0))]) C dL_law_2614 (Nat.le_of_ble_eq_true rfl) rfl ?_
  refine x_aload_n C dL_law_2616 4 rfl ?_
  refine x_aload_n C dL_law_2617 2 rfl ?_
  refine x_iload C dL_law_2618 1 rfl ?_
  refine x_iconst (v := 1) C dL_law_2620 rfl ?_
  refine x_iadd C dL_law_2621 ?_
  refine x_sld C hX hbl hbA f51 dL_law_2622 ?_
  refine x_aload_n C dL_law_2623 2 rfl ?_
  refine x_iload C dL_law_2624 1 rfl ?_
  refine x_iconst (v := 2) C dL_law_2626 rfl ?_
  refine x_iadd C dL_law_2627 ?_
  refine x_sld C hX hbl hbA f52 dL_law_2628 ?_
  refine x_calli (rest := []) (ce1 := ce + 1) (sl1 := sl + 6) C sv_L_265 ob11 z11 (kX11_without hG _ _ _ h) rfl rfl (Nat.le_of_ble_eq_true rfl) ⟨Nat.le_of_ble_eq_true rfl, Nat.le_of_ble_eq_true rfl⟩ rfl rfl ⟨Nat.le_trans (Nat.add_le_add_left (Nat.le_of_ble_eq_true rfl) ce) hc9, Nat.le_trans (Nat.add_le_add_left (Nat.le_of_ble_eq_true rfl) sl) hs9⟩ dL_law_2629 (fun r55 M56 h => ?_)
  refine x_istore (lv' := [(6, .int r55), (5, .int r53), (4, .int y4), (0, .ref b), (1, .ref (ga G 10 0)), (2, .ref (ga G 11 0)), (3, .ref (ga G 9000 0))]) C dL_law_2632 (Nat.le_of_ble_eq_true rfl) rfl ?_
  refine x_aload_n C dL_law_2634 5 rfl ?_
  refine x_calli (rest := []) (ce1 := ce + 1) (sl1 := sl + 6) C sv_L_139 ob11 z11 (kX11_thrown hG _ h) rfl rfl (Nat.le_of_ble_eq_true rfl) ⟨Nat.le_of_ble_eq_true rfl, Nat.le_of_ble_eq_true rfl⟩ rfl rfl ⟨Nat.le_trans (Nat.add_le_add_left (Nat.le_of_ble_eq_true rfl) ce) hc9, Nat.le_trans (Nat.add_le_add_left (Nat.le_of_ble_eq_true rfl) sl) hs9⟩ dL_law_2635 (fun r57 M58 h => ?_)
  refine x_iload C dL_law_2638 1 rfl ?_
  refine x_icmp_eq (tgt := 2645) C dL_law_2640 (by decide) (fun c59 => ?_) (fun c59 => ?_)
  · replace h := h.1 c59
    refine x_iload C dL_law_2645 1 rfl ?_
    refine x_if_ne (tgt := 2662) C dL_law_2647 (by decide) (fun c60 => ?_) (fun c60 => ?_)
    · replace h := h.1 c60
      refine X_sub (lv' := [(4, .int y4), (0, .ref b), (1, .ref (ga G 10 0)), (2, .ref (ga G 11 0)), (3, .ref (ga G 9000 0))]) [2, 3, 4, 5, 6] rfl ?_
      exact wL_law_2662 hG C hl0 hX hbl hbA hNc hQf hA9 hc9 hs9 hc0 hs0 hL23 M58 y4 h
    · replace h := h.2 c60
      refine x_aload_n C dL_law_2650 6 rfl ?_
      refine x_iconst (v := 0) C dL_law_2651 rfl ?_
      refine al_9000 C z9000 (vp_l (by decide)) dL_law_2652 ?_
      refine x_iload C dL_law_2653 0 rfl ?_
      refine x_i2l C dL_law_2655 ?_
      refine x_lcmp C dL_law_2656 ?_
      refine x_if_eq (tgt := 2662) C dL_law_2657 (by decide) (fun c61 => ?_) (fun c61 => ?_)
      · replace h := h.1 c61
        refine X_sub (lv' := [(4, .int y4), (0, .ref b), (1, .ref (ga G 10 0)), (2, .ref (ga G 11 0)), (3, .ref (ga G 9000 0))]) [2, 3, 4, 5, 6] rfl ?_
        exact wL_law_2662 hG C hl0 hX hbl hbA hNc hQf hA9 hc9 hs9 hc0 hs0 hL23 M58 y4 h
      · replace h := h.2 c61
        refine x_iconst (v := 0) C dL_law_2660 rfl ?_
        exact h.elim
  · replace h := h.2 c59
    refine x_iconst (v := 0) C dL_law_2643 rfl ?_
    exact h.elim
set_option maxRecDepth 100000 in
set_option maxHeartbeats 400000 in
theorem wL_law_2665 {Γ : Gam} {G : Gm} {Qf : State → Prop} {xs : Nat → Int32} {b L ce sl : Nat} (hG : Gd G) (C : Cx Γ G cL_law 7 RL (some .boolean) room_1) (hl0 : (gl Γ).stackTraces = false) (hX : va_X b L xs (gs Γ) (gs Γ).heap) (hbl : b < (gs Γ).heap.size) (hbA : ¬ gA G b) (hNc : va_Nc EI EN (gs Γ)) (hQf : (gar Γ) = #[Value.ref b] ∧ Qf = lw_Z (gbe Γ) #[Value.ref b] (gs Γ)) (hA9 : ∀ q, gA G q → (gs Γ).heap.size ≤ q) (hc9 : ce + 8 ≤ room_1.cells) (hs9 : sl + 48 ≤ room_1.slots) (hc0 : ce ≤ room_1.cells) (hs0 : sl ≤ room_1.slots) {L23 : Mem × Int32 → Prop} (hL23 : ∀ s, L23 s → X Γ G Qf 7 (ce + 8) (sl + 48) 23 [(4, .int s.2), (0, .ref b), (1, .ref (ga G 10 0)), (2, .ref (ga G 11 0)), (3, .ref (ga G 9000 0))] [] s.1) (M : Mem) (y4 : Int32) (h : bL_law_2665 xs L L23 M y4) : X Γ G Qf 7 (ce + 0) (sl + 0) 2665 [(4, .int y4), (0, .ref b), (1, .ref (ga G 10 0)), (2, .ref (ga G 11 0)), (3, .ref (ga G 9000 0))] [] M := by
  unfold bL_law_2665 at h
  refine x_aload_n C dL_law_2665 2 rfl ?_
  refine x_aload_n C dL_law_2666 1 rfl ?_
  refine x_iload C dL_law_2667 0 rfl ?_
  refine x_iconst (v := 1) C dL_law_2669 rfl ?_
  refine x_iadd C dL_law_2670 ?_
  obtain ⟨f45, h⟩ := h
  refine x_sld C hX hbl hbA f45 dL_law_2671 ?_
  refine x_calli (rest := []) (ce1 := ce + 0) (sl1 := sl + 0) C sv_L_266 ob10 z10 (kX10_status hG _ _ h) rfl rfl (Nat.le_of_ble_eq_true rfl) ⟨Nat.le_of_ble_eq_true rfl, Nat.le_of_ble_eq_true rfl⟩ rfl rfl ⟨Nat.le_trans (Nat.add_le_add_left (Nat.le_of_ble_eq_true rfl) ce) hc9, Nat.le_trans (Nat.add_le_add_left (Nat.le_of_ble_eq_true rfl) sl) hs9⟩ dL_law_2672 (fun r46 M47 h => ?_)
  refine x_aload_n C dL_law_2675 3 rfl ?_
  refine x_aload_n C dL_law_2676 1 rfl ?_
  refine x_iload C dL_law_2677 0 rfl ?_
  refine x_iconst (v := 1) C dL_law_2679 rfl ?_
  refine x_iadd C dL_law_2680 ?_
  refine x_sld C hX hbl hbA f45 dL_law_2681 ?_
  refine x_calli (rest := [.int r46]) (ce1 := ce + 0) (sl1 := sl + 0) C sv_L_269 ob11 z11 (kX11_status hG _ _ h) rfl rfl (Nat.le_of_ble_eq_true rfl) ⟨Nat.le_of_ble_eq_true rfl, Nat.le_of_ble_eq_true rfl⟩ rfl rfl ⟨Nat.le_trans (Nat.add_le_add_left (Nat.le_of_ble_eq_true rfl) ce) hc9, Nat.le_trans (Nat.add_le_add_left (Nat.le_of_ble_eq_true rfl) sl) hs9⟩ dL_law_2682 (fun r48 M49 h => ?_)
  refine x_icmp_eq (tgt := 2690) C dL_law_2685 (by decide) (fun c50 => ?_) (fun c50 => ?_)
  · replace h := h.1 c50
    refine X_widen (c1 := ce + 4) (s1 := sl + 24) (Nat.add_le_add_left (Nat.le_of_ble_eq_true rfl) ce) (Nat.add_le_add_left (Nat.le_of_ble_eq_true rfl) sl) ?_
    refine X_sub (lv' := [(4, .int y4), (0, .ref b), (1, .ref (ga G 10 0)), (2, .ref (ga G 11 0)), (3, .ref (ga G 9000 0))]) [0, 1, 2, 3, 4] rfl ?_
    exact wL_law_2690 hG C hl0 hX hbl hbA hNc hQf hA9 hc9 hs9 hc0 hs0 hL23 M49 y4 h
  · replace h := h.2 c50
    refine x_iconst (v := 0) C dL_law_2688 rfl ?_
    exact h.elim
set_option maxRecDepth 100000 in
set_option maxHeartbeats 400000 in
theorem wL_law_23 {Γ : Gam} {G : Gm} {Qf : State → Prop} {xs : Nat → Int32} {b L ce sl : Nat} (hG : Gd G) (C : Cx Γ G cL_law 7 RL (some .boolean) room_1) (hl0 : (gl Γ).stackTraces = false) (hX : va_X b L xs (gs Γ) (gs Γ).heap) (hbl : b < (gs Γ).heap.size) (hbA : ¬ gA G b) (hNc : va_Nc EI EN (gs Γ)) (hQf : (gar Γ) = #[Value.ref b] ∧ Qf = lw_Z (gbe Γ) #[Value.ref b] (gs Γ)) (hA9 : ∀ q, gA G q → (gs Γ).heap.size ≤ q) (hc9 : ce + 8 ≤ room_1.cells) (hs9 : sl + 48 ≤ room_1.slots) (hc0 : ce ≤ room_1.cells) (hs0 : sl ≤ room_1.slots) {L23 : Mem × Int32 → Prop} (hL23 : ∀ s, L23 s → X Γ G Qf 7 (ce + 8) (sl + 48) 23 [(4, .int s.2), (0, .ref b), (1, .ref (ga G 10 0)), (2, .ref (ga G 11 0)), (3, .ref (ga G 9000 0))] [] s.1) (M : Mem) (y4 : Int32) (h : bL_law_23 xs L L23 M y4) : X Γ G Qf 7 ce sl 23 [(4, .int y4), (0, .ref b), (1, .ref (ga G 10 0)), (2, .ref (ga G 11 0)), (3, .ref (ga G 9000 0))] [] M := by
  unfold bL_law_23 at h
  show X Γ G Qf 7 (ce + 0) (sl + 0) 23 [(4, .int y4), (0, .ref b), (1, .ref (ga G 10 0)), (2, .ref (ga G 11 0)), (3, .ref (ga G 9000 0))] [] M
  refine x_iload C dL_law_23 0 rfl ?_
  refine x_aload_n C dL_law_25 1 rfl ?_
  refine x_slen C hX hbl hbA dL_law_26 ?_
  refine x_bipush (v := 6) C dL_law_27 rfl ?_
  refine x_isub C dL_law_29 ?_
  refine x_icmp_gt (tgt := 2696) C dL_law_30 (by decide) (fun c1 => ?_) (fun c1 => ?_)
  · replace h := h.1 c1
    refine x_iconst (v := 1) C dL_law_2696 rfl ?_
    exact x_lret1 C hQf hA9 hc0 hs0 dL_law_2697
  · replace h := h.2 c1
    refine x_aload_n C dL_law_33 1 rfl ?_
    refine x_iload C dL_law_34 0 rfl ?_
    obtain ⟨f2, h⟩ := h
    refine x_sld C hX hbl hbA f2 dL_law_36 ?_
    refine x_bipush (v := 63) C dL_law_37 rfl ?_
    refine x_iand C dL_law_39 ?_
    by_cases c3 : ((xs (tn y4)) &&& 63) = 0
    · replace h := h.1 c3
      refine x_tabIn (v := 0) (tgt := 224) C dL_law_40 c3 (by decide) (by decide) rfl (by decide) ?_
      refine X_sub (lv' := [(4, .int y4), (0, .ref b), (1, .ref (ga G 10 0)), (2, .ref (ga G 11 0)), (3, .ref (ga G 9000 0))]) [0, 1, 2, 3, 4] rfl ?_
      exact wL_law_224 hG C hl0 hX hbl hbA hNc hQf hA9 hc9 hs9 hc0 hs0 hL23 M y4 h
    by_cases c4 : ((xs (tn y4)) &&& 63) = 1
    · replace h := h.2.1 c4
      refine x_tabIn (v := 1) (tgt := 297) C dL_law_40 c4 (by decide) (by decide) rfl (by decide) ?_
      refine X_sub (lv' := [(4, .int y4), (0, .ref b), (1, .ref (ga G 10 0)), (2, .ref (ga G 11 0)), (3, .ref (ga G 9000 0))]) [0, 1, 2, 3, 4] rfl ?_
      exact wL_law_297 hG C hl0 hX hbl hbA hNc hQf hA9 hc9 hs9 hc0 hs0 hL23 M y4 h
    by_cases c5 : ((xs (tn y4)) &&& 63) = 2
    · replace h := h.2.2.1 c5
      refine x_tabIn (v := 2) (tgt := 353) C dL_law_40 c5 (by decide) (by decide) rfl (by decide) ?_
      refine X_sub (lv' := [(4, .int y4), (0, .ref b), (1, .ref (ga G 10 0)), (2, .ref (ga G 11 0)), (3, .ref (ga G 9000 0))]) [0, 1, 2, 3, 4] rfl ?_
      exact wL_law_353 hG C hl0 hX hbl hbA hNc hQf hA9 hc9 hs9 hc0 hs0 hL23 M y4 h
    by_cases c6 : ((xs (tn y4)) &&& 63) = 3
    · replace h := h.2.2.2.1 c6
      refine x_tabIn (v := 3) (tgt := 409) C dL_law_40 c6 (by decide) (by decide) rfl (by decide) ?_
      refine X_sub (lv' := [(4, .int y4), (0, .ref b), (1, .ref (ga G 10 0)), (2, .ref (ga G 11 0)), (3, .ref (ga G 9000 0))]) [0, 1, 2, 3, 4] rfl ?_
      exact wL_law_409 hG C hl0 hX hbl hbA hNc hQf hA9 hc9 hs9 hc0 hs0 hL23 M y4 h
    by_cases c7 : ((xs (tn y4)) &&& 63) = 4
    · replace h := h.2.2.2.2.1 c7
      refine x_tabIn (v := 4) (tgt := 422) C dL_law_40 c7 (by decide) (by decide) rfl (by decide) ?_
      refine X_sub (lv' := [(4, .int y4), (0, .ref b), (1, .ref (ga G 10 0)), (2, .ref (ga G 11 0)), (3, .ref (ga G 9000 0))]) [0, 1, 2, 3, 4] rfl ?_
      exact wL_law_422 hG C hl0 hX hbl hbA hNc hQf hA9 hc9 hs9 hc0 hs0 hL23 M y4 h
    by_cases c8 : ((xs (tn y4)) &&& 63) = 5
    · replace h := h.2.2.2.2.2.1 c8
      refine x_tabIn (v := 5) (tgt := 478) C dL_law_40 c8 (by decide) (by decide) rfl (by decide) ?_
      refine X_sub (lv' := [(4, .int y4), (0, .ref b), (1, .ref (ga G 10 0)), (2, .ref (ga G 11 0)), (3, .ref (ga G 9000 0))]) [0, 1, 2, 3, 4] rfl ?_
      exact wL_law_478 hG C hl0 hX hbl hbA hNc hQf hA9 hc9 hs9 hc0 hs0 hL23 M y4 h
    by_cases c9 : ((xs (tn y4)) &&& 63) = 6
    · replace h := h.2.2.2.2.2.2.1 c9
      refine x_tabIn (v := 6) (tgt := 534) C dL_law_40 c9 (by decide) (by decide) rfl (by decide) ?_
      refine X_sub (lv' := [(4, .int y4), (0, .ref b), (1, .ref (ga G 10 0)), (2, .ref (ga G 11 0)), (3, .ref (ga G 9000 0))]) [0, 1, 2, 3, 4] rfl ?_
      exact wL_law_534 hG C hl0 hX hbl hbA hNc hQf hA9 hc9 hs9 hc0 hs0 hL23 M y4 h
    by_cases c10 : ((xs (tn y4)) &&& 63) = 7
    · replace h := h.2.2.2.2.2.2.2.1 c10
      refine x_tabIn (v := 7) (tgt := 590) C dL_law_40 c10 (by decide) (by decide) rfl (by decide) ?_
      refine X_sub (lv' := [(4, .int y4), (0, .ref b), (1, .ref (ga G 10 0)), (2, .ref (ga G 11 0)), (3, .ref (ga G 9000 0))]) [0, 1, 2, 3, 4] rfl ?_
      exact wL_law_590 hG C hl0 hX hbl hbA hNc hQf hA9 hc9 hs9 hc0 hs0 hL23 M y4 h
    by_cases c11 : ((xs (tn y4)) &&& 63) = 8
    · replace h := h.2.2.2.2.2.2.2.2.1 c11
      refine x_tabIn (v := 8) (tgt := 646) C dL_law_40 c11 (by decide) (by decide) rfl (by decide) ?_
      refine X_sub (lv' := [(4, .int y4), (0, .ref b), (1, .ref (ga G 10 0)), (2, .ref (ga G 11 0)), (3, .ref (ga G 9000 0))]) [0, 1, 2, 3, 4] rfl ?_
      exact wL_law_646 hG C hl0 hX hbl hbA hNc hQf hA9 hc9 hs9 hc0 hs0 hL23 M y4 h
    by_cases c12 : ((xs (tn y4)) &&& 63) = 9
    · replace h := h.2.2.2.2.2.2.2.2.2.1 c12
      refine x_tabIn (v := 9) (tgt := 714) C dL_law_40 c12 (by decide) (by decide) rfl (by decide) ?_
      refine X_sub (lv' := [(4, .int y4), (0, .ref b), (1, .ref (ga G 10 0)), (2, .ref (ga G 11 0)), (3, .ref (ga G 9000 0))]) [0, 1, 2, 3, 4] rfl ?_
      exact wL_law_714 hG C hl0 hX hbl hbA hNc hQf hA9 hc9 hs9 hc0 hs0 hL23 M y4 h
    by_cases c13 : ((xs (tn y4)) &&& 63) = 10
    · replace h := h.2.2.2.2.2.2.2.2.2.2.1 c13
      refine x_tabIn (v := 10) (tgt := 782) C dL_law_40 c13 (by decide) (by decide) rfl (by decide) ?_
      refine X_sub (lv' := [(4, .int y4), (0, .ref b), (1, .ref (ga G 10 0)), (2, .ref (ga G 11 0)), (3, .ref (ga G 9000 0))]) [0, 1, 2, 3, 4] rfl ?_
      exact wL_law_782 hG C hl0 hX hbl hbA hNc hQf hA9 hc9 hs9 hc0 hs0 hL23 M y4 h
    by_cases c14 : ((xs (tn y4)) &&& 63) = 11
    · replace h := h.2.2.2.2.2.2.2.2.2.2.2.1 c14
      refine x_tabIn (v := 11) (tgt := 850) C dL_law_40 c14 (by decide) (by decide) rfl (by decide) ?_
      refine X_sub (lv' := [(4, .int y4), (0, .ref b), (1, .ref (ga G 10 0)), (2, .ref (ga G 11 0)), (3, .ref (ga G 9000 0))]) [0, 1, 2, 3, 4] rfl ?_
      exact wL_law_850 hG C hl0 hX hbl hbA hNc hQf hA9 hc9 hs9 hc0 hs0 hL23 M y4 h
    by_cases c15 : ((xs (tn y4)) &&& 63) = 12
    · replace h := h.2.2.2.2.2.2.2.2.2.2.2.2.1 c15
      refine x_tabIn (v := 12) (tgt := 918) C dL_law_40 c15 (by decide) (by decide) rfl (by decide) ?_
      refine X_sub (lv' := [(4, .int y4), (0, .ref b), (1, .ref (ga G 10 0)), (2, .ref (ga G 11 0)), (3, .ref (ga G 9000 0))]) [0, 1, 2, 3, 4] rfl ?_
      exact wL_law_918 hG C hl0 hX hbl hbA hNc hQf hA9 hc9 hs9 hc0 hs0 hL23 M y4 h
    by_cases c16 : ((xs (tn y4)) &&& 63) = 13
    · replace h := h.2.2.2.2.2.2.2.2.2.2.2.2.2.1 c16
      refine x_tabIn (v := 13) (tgt := 998) C dL_law_40 c16 (by decide) (by decide) rfl (by decide) ?_
      refine X_sub (lv' := [(4, .int y4), (0, .ref b), (1, .ref (ga G 10 0)), (2, .ref (ga G 11 0)), (3, .ref (ga G 9000 0))]) [0, 1, 2, 3, 4] rfl ?_
      exact wL_law_998 hG C hl0 hX hbl hbA hNc hQf hA9 hc9 hs9 hc0 hs0 hL23 M y4 h
    by_cases c17 : ((xs (tn y4)) &&& 63) = 14
    · replace h := h.2.2.2.2.2.2.2.2.2.2.2.2.2.2.1 c17
      refine x_tabIn (v := 14) (tgt := 1078) C dL_law_40 c17 (by decide) (by decide) rfl (by decide) ?_
      refine X_sub (lv' := [(4, .int y4), (0, .ref b), (1, .ref (ga G 10 0)), (2, .ref (ga G 11 0)), (3, .ref (ga G 9000 0))]) [0, 1, 2, 3, 4] rfl ?_
      exact wL_law_1078 hG C hl0 hX hbl hbA hNc hQf hA9 hc9 hs9 hc0 hs0 hL23 M y4 h
    by_cases c18 : ((xs (tn y4)) &&& 63) = 15
    · replace h := h.2.2.2.2.2.2.2.2.2.2.2.2.2.2.2.1 c18
      refine x_tabIn (v := 15) (tgt := 1158) C dL_law_40 c18 (by decide) (by decide) rfl (by decide) ?_
      refine X_sub (lv' := [(4, .int y4), (0, .ref b), (1, .ref (ga G 10 0)), (2, .ref (ga G 11 0)), (3, .ref (ga G 9000 0))]) [0, 1, 2, 3, 4] rfl ?_
      exact wL_law_1158 hG C hl0 hX hbl hbA hNc hQf hA9 hc9 hs9 hc0 hs0 hL23 M y4 h
    by_cases c19 : ((xs (tn y4)) &&& 63) = 16
    · replace h := h.2.2.2.2.2.2.2.2.2.2.2.2.2.2.2.2.1 c19
      refine x_tabIn (v := 16) (tgt := 1214) C dL_law_40 c19 (by decide) (by decide) rfl (by decide) ?_
      refine X_sub (lv' := [(4, .int y4), (0, .ref b), (1, .ref (ga G 10 0)), (2, .ref (ga G 11 0)), (3, .ref (ga G 9000 0))]) [0, 1, 2, 3, 4] rfl ?_
      exact wL_law_1214 hG C hl0 hX hbl hbA hNc hQf hA9 hc9 hs9 hc0 hs0 hL23 M y4 h
    by_cases c20 : ((xs (tn y4)) &&& 63) = 17
    · replace h := h.2.2.2.2.2.2.2.2.2.2.2.2.2.2.2.2.2.1 c20
      refine x_tabIn (v := 17) (tgt := 1282) C dL_law_40 c20 (by decide) (by decide) rfl (by decide) ?_
      refine X_sub (lv' := [(4, .int y4), (0, .ref b), (1, .ref (ga G 10 0)), (2, .ref (ga G 11 0)), (3, .ref (ga G 9000 0))]) [0, 1, 2, 3, 4] rfl ?_
      exact wL_law_1282 hG C hl0 hX hbl hbA hNc hQf hA9 hc9 hs9 hc0 hs0 hL23 M y4 h
    by_cases c21 : ((xs (tn y4)) &&& 63) = 18
    · replace h := h.2.2.2.2.2.2.2.2.2.2.2.2.2.2.2.2.2.2.1 c21
      refine x_tabIn (v := 18) (tgt := 1350) C dL_law_40 c21 (by decide) (by decide) rfl (by decide) ?_
      refine X_sub (lv' := [(4, .int y4), (0, .ref b), (1, .ref (ga G 10 0)), (2, .ref (ga G 11 0)), (3, .ref (ga G 9000 0))]) [0, 1, 2, 3, 4] rfl ?_
      exact wL_law_1350 hG C hl0 hX hbl hbA hNc hQf hA9 hc9 hs9 hc0 hs0 hL23 M y4 h
    by_cases c22 : ((xs (tn y4)) &&& 63) = 19
    · replace h := h.2.2.2.2.2.2.2.2.2.2.2.2.2.2.2.2.2.2.2.1 c22
      refine x_tabIn (v := 19) (tgt := 1406) C dL_law_40 c22 (by decide) (by decide) rfl (by decide) ?_
      refine X_sub (lv' := [(4, .int y4), (0, .ref b), (1, .ref (ga G 10 0)), (2, .ref (ga G 11 0)), (3, .ref (ga G 9000 0))]) [0, 1, 2, 3, 4] rfl ?_
      exact wL_law_1406 hG C hl0 hX hbl hbA hNc hQf hA9 hc9 hs9 hc0 hs0 hL23 M y4 h
    by_cases c23 : ((xs (tn y4)) &&& 63) = 20
    · replace h := h.2.2.2.2.2.2.2.2.2.2.2.2.2.2.2.2.2.2.2.2.1 c23
      refine x_tabIn (v := 20) (tgt := 1462) C dL_law_40 c23 (by decide) (by decide) rfl (by decide) ?_
      refine X_sub (lv' := [(4, .int y4), (0, .ref b), (1, .ref (ga G 10 0)), (2, .ref (ga G 11 0)), (3, .ref (ga G 9000 0))]) [0, 1, 2, 3, 4] rfl ?_
      exact wL_law_1462 hG C hl0 hX hbl hbA hNc hQf hA9 hc9 hs9 hc0 hs0 hL23 M y4 h
    by_cases c24 : ((xs (tn y4)) &&& 63) = 21
    · replace h := h.2.2.2.2.2.2.2.2.2.2.2.2.2.2.2.2.2.2.2.2.2.1 c24
      refine x_tabIn (v := 21) (tgt := 1518) C dL_law_40 c24 (by decide) (by decide) rfl (by decide) ?_
      refine X_sub (lv' := [(4, .int y4), (0, .ref b), (1, .ref (ga G 10 0)), (2, .ref (ga G 11 0)), (3, .ref (ga G 9000 0))]) [0, 1, 2, 3, 4] rfl ?_
      exact wL_law_1518 hG C hl0 hX hbl hbA hNc hQf hA9 hc9 hs9 hc0 hs0 hL23 M y4 h
    by_cases c25 : ((xs (tn y4)) &&& 63) = 22
    · replace h := h.2.2.2.2.2.2.2.2.2.2.2.2.2.2.2.2.2.2.2.2.2.2.1 c25
      refine x_tabIn (v := 22) (tgt := 1586) C dL_law_40 c25 (by decide) (by decide) rfl (by decide) ?_
      refine X_sub (lv' := [(4, .int y4), (0, .ref b), (1, .ref (ga G 10 0)), (2, .ref (ga G 11 0)), (3, .ref (ga G 9000 0))]) [0, 1, 2, 3, 4] rfl ?_
      exact wL_law_1586 hG C hl0 hX hbl hbA hNc hQf hA9 hc9 hs9 hc0 hs0 hL23 M y4 h
    by_cases c26 : ((xs (tn y4)) &&& 63) = 23
    · replace h := h.2.2.2.2.2.2.2.2.2.2.2.2.2.2.2.2.2.2.2.2.2.2.2.1 c26
      refine x_tabIn (v := 23) (tgt := 1599) C dL_law_40 c26 (by decide) (by decide) rfl (by decide) ?_
      refine X_sub (lv' := [(4, .int y4), (0, .ref b), (1, .ref (ga G 10 0)), (2, .ref (ga G 11 0)), (3, .ref (ga G 9000 0))]) [0, 1, 2, 3, 4] rfl ?_
      exact wL_law_1599 hG C hl0 hX hbl hbA hNc hQf hA9 hc9 hs9 hc0 hs0 hL23 M y4 h
    by_cases c27 : ((xs (tn y4)) &&& 63) = 24
    · replace h := h.2.2.2.2.2.2.2.2.2.2.2.2.2.2.2.2.2.2.2.2.2.2.2.2.1 c27
      refine x_tabIn (v := 24) (tgt := 1667) C dL_law_40 c27 (by decide) (by decide) rfl (by decide) ?_
      refine X_sub (lv' := [(4, .int y4), (0, .ref b), (1, .ref (ga G 10 0)), (2, .ref (ga G 11 0)), (3, .ref (ga G 9000 0))]) [0, 1, 2, 3, 4] rfl ?_
      exact wL_law_1667 hG C hl0 hX hbl hbA hNc hQf hA9 hc9 hs9 hc0 hs0 hL23 M y4 h
    by_cases c28 : ((xs (tn y4)) &&& 63) = 25
    · replace h := h.2.2.2.2.2.2.2.2.2.2.2.2.2.2.2.2.2.2.2.2.2.2.2.2.2.1 c28
      refine x_tabIn (v := 25) (tgt := 1723) C dL_law_40 c28 (by decide) (by decide) rfl (by decide) ?_
      refine X_sub (lv' := [(4, .int y4), (0, .ref b), (1, .ref (ga G 10 0)), (2, .ref (ga G 11 0)), (3, .ref (ga G 9000 0))]) [0, 1, 2, 3, 4] rfl ?_
      exact wL_law_1723 hG C hl0 hX hbl hbA hNc hQf hA9 hc9 hs9 hc0 hs0 hL23 M y4 h
    by_cases c29 : ((xs (tn y4)) &&& 63) = 26
    · replace h := h.2.2.2.2.2.2.2.2.2.2.2.2.2.2.2.2.2.2.2.2.2.2.2.2.2.2.1 c29
      refine x_tabIn (v := 26) (tgt := 1791) C dL_law_40 c29 (by decide) (by decide) rfl (by decide) ?_
      refine X_sub (lv' := [(4, .int y4), (0, .ref b), (1, .ref (ga G 10 0)), (2, .ref (ga G 11 0)), (3, .ref (ga G 9000 0))]) [0, 1, 2, 3, 4] rfl ?_
      exact wL_law_1791 hG C hl0 hX hbl hbA hNc hQf hA9 hc9 hs9 hc0 hs0 hL23 M y4 h
    by_cases c30 : ((xs (tn y4)) &&& 63) = 27
    · replace h := h.2.2.2.2.2.2.2.2.2.2.2.2.2.2.2.2.2.2.2.2.2.2.2.2.2.2.2.1 c30
      refine x_tabIn (v := 27) (tgt := 1859) C dL_law_40 c30 (by decide) (by decide) rfl (by decide) ?_
      refine X_sub (lv' := [(4, .int y4), (0, .ref b), (1, .ref (ga G 10 0)), (2, .ref (ga G 11 0)), (3, .ref (ga G 9000 0))]) [0, 1, 2, 3, 4] rfl ?_
      exact wL_law_1859 hG C hl0 hX hbl hbA hNc hQf hA9 hc9 hs9 hc0 hs0 hL23 M y4 h
    by_cases c31 : ((xs (tn y4)) &&& 63) = 28
    · replace h := h.2.2.2.2.2.2.2.2.2.2.2.2.2.2.2.2.2.2.2.2.2.2.2.2.2.2.2.2.1 c31
      refine x_tabIn (v := 28) (tgt := 1939) C dL_law_40 c31 (by decide) (by decide) rfl (by decide) ?_
      refine X_sub (lv' := [(4, .int y4), (0, .ref b), (1, .ref (ga G 10 0)), (2, .ref (ga G 11 0)), (3, .ref (ga G 9000 0))]) [0, 1, 2, 3, 4] rfl ?_
      exact wL_law_1939 hG C hl0 hX hbl hbA hNc hQf hA9 hc9 hs9 hc0 hs0 hL23 M y4 h
    by_cases c32 : ((xs (tn y4)) &&& 63) = 29
    · replace h := h.2.2.2.2.2.2.2.2.2.2.2.2.2.2.2.2.2.2.2.2.2.2.2.2.2.2.2.2.2.1 c32
      refine x_tabIn (v := 29) (tgt := 2007) C dL_law_40 c32 (by decide) (by decide) rfl (by decide) ?_
      refine X_sub (lv' := [(4, .int y4), (0, .ref b), (1, .ref (ga G 10 0)), (2, .ref (ga G 11 0)), (3, .ref (ga G 9000 0))]) [0, 1, 2, 3, 4] rfl ?_
      exact wL_law_2007 hG C hl0 hX hbl hbA hNc hQf hA9 hc9 hs9 hc0 hs0 hL23 M y4 h
    by_cases c33 : ((xs (tn y4)) &&& 63) = 30
    · replace h := h.2.2.2.2.2.2.2.2.2.2.2.2.2.2.2.2.2.2.2.2.2.2.2.2.2.2.2.2.2.2.1 c33
      refine x_tabIn (v := 30) (tgt := 2063) C dL_law_40 c33 (by decide) (by decide) rfl (by decide) ?_
      refine X_sub (lv' := [(4, .int y4), (0, .ref b), (1, .ref (ga G 10 0)), (2, .ref (ga G 11 0)), (3, .ref (ga G 9000 0))]) [0, 1, 2, 3, 4] rfl ?_
      exact wL_law_2063 hG C hl0 hX hbl hbA hNc hQf hA9 hc9 hs9 hc0 hs0 hL23 M y4 h
    by_cases c34 : ((xs (tn y4)) &&& 63) = 31
    · replace h := h.2.2.2.2.2.2.2.2.2.2.2.2.2.2.2.2.2.2.2.2.2.2.2.2.2.2.2.2.2.2.2.1 c34
      refine x_tabIn (v := 31) (tgt := 2076) C dL_law_40 c34 (by decide) (by decide) rfl (by decide) ?_
      refine X_sub (lv' := [(4, .int y4), (0, .ref b), (1, .ref (ga G 10 0)), (2, .ref (ga G 11 0)), (3, .ref (ga G 9000 0))]) [0, 1, 2, 3, 4] rfl ?_
      exact wL_law_2076 hG C hl0 hX hbl hbA hNc hQf hA9 hc9 hs9 hc0 hs0 hL23 M y4 h
    by_cases c35 : ((xs (tn y4)) &&& 63) = 32
    · replace h := h.2.2.2.2.2.2.2.2.2.2.2.2.2.2.2.2.2.2.2.2.2.2.2.2.2.2.2.2.2.2.2.2.1 c35
      refine x_tabIn (v := 32) (tgt := 2144) C dL_law_40 c35 (by decide) (by decide) rfl (by decide) ?_
      refine X_sub (lv' := [(4, .int y4), (0, .ref b), (1, .ref (ga G 10 0)), (2, .ref (ga G 11 0)), (3, .ref (ga G 9000 0))]) [0, 1, 2, 3, 4] rfl ?_
      exact wL_law_2144 hG C hl0 hX hbl hbA hNc hQf hA9 hc9 hs9 hc0 hs0 hL23 M y4 h
    by_cases c36 : ((xs (tn y4)) &&& 63) = 33
    · replace h := h.2.2.2.2.2.2.2.2.2.2.2.2.2.2.2.2.2.2.2.2.2.2.2.2.2.2.2.2.2.2.2.2.2.1 c36
      refine x_tabIn (v := 33) (tgt := 2212) C dL_law_40 c36 (by decide) (by decide) rfl (by decide) ?_
      refine X_sub (lv' := [(4, .int y4), (0, .ref b), (1, .ref (ga G 10 0)), (2, .ref (ga G 11 0)), (3, .ref (ga G 9000 0))]) [0, 1, 2, 3, 4] rfl ?_
      exact wL_law_2212 hG C hl0 hX hbl hbA hNc hQf hA9 hc9 hs9 hc0 hs0 hL23 M y4 h
    by_cases c37 : ((xs (tn y4)) &&& 63) = 34
    · replace h := h.2.2.2.2.2.2.2.2.2.2.2.2.2.2.2.2.2.2.2.2.2.2.2.2.2.2.2.2.2.2.2.2.2.2.1 c37
      refine x_tabIn (v := 34) (tgt := 2225) C dL_law_40 c37 (by decide) (by decide) rfl (by decide) ?_
      refine X_sub (lv' := [(4, .int y4), (0, .ref b), (1, .ref (ga G 10 0)), (2, .ref (ga G 11 0)), (3, .ref (ga G 9000 0))]) [0, 1, 2, 3, 4] rfl ?_
      exact wL_law_2225 hG C hl0 hX hbl hbA hNc hQf hA9 hc9 hs9 hc0 hs0 hL23 M y4 h
    by_cases c38 : ((xs (tn y4)) &&& 63) = 35
    · replace h := h.2.2.2.2.2.2.2.2.2.2.2.2.2.2.2.2.2.2.2.2.2.2.2.2.2.2.2.2.2.2.2.2.2.2.2.1 c38
      refine x_tabIn (v := 35) (tgt := 2281) C dL_law_40 c38 (by decide) (by decide) rfl (by decide) ?_
      refine X_sub (lv' := [(4, .int y4), (0, .ref b), (1, .ref (ga G 10 0)), (2, .ref (ga G 11 0)), (3, .ref (ga G 9000 0))]) [0, 1, 2, 3, 4] rfl ?_
      exact wL_law_2281 hG C hl0 hX hbl hbA hNc hQf hA9 hc9 hs9 hc0 hs0 hL23 M y4 h
    by_cases c39 : ((xs (tn y4)) &&& 63) = 36
    · replace h := h.2.2.2.2.2.2.2.2.2.2.2.2.2.2.2.2.2.2.2.2.2.2.2.2.2.2.2.2.2.2.2.2.2.2.2.2.1 c39
      refine x_tabIn (v := 36) (tgt := 2337) C dL_law_40 c39 (by decide) (by decide) rfl (by decide) ?_
      refine X_sub (lv' := [(4, .int y4), (0, .ref b), (1, .ref (ga G 10 0)), (2, .ref (ga G 11 0)), (3, .ref (ga G 9000 0))]) [0, 1, 2, 3, 4] rfl ?_
      exact wL_law_2337 hG C hl0 hX hbl hbA hNc hQf hA9 hc9 hs9 hc0 hs0 hL23 M y4 h
    by_cases c40 : ((xs (tn y4)) &&& 63) = 37
    · replace h := h.2.2.2.2.2.2.2.2.2.2.2.2.2.2.2.2.2.2.2.2.2.2.2.2.2.2.2.2.2.2.2.2.2.2.2.2.2.1 c40
      refine x_tabIn (v := 37) (tgt := 2393) C dL_law_40 c40 (by decide) (by decide) rfl (by decide) ?_
      refine X_sub (lv' := [(4, .int y4), (0, .ref b), (1, .ref (ga G 10 0)), (2, .ref (ga G 11 0)), (3, .ref (ga G 9000 0))]) [0, 1, 2, 3, 4] rfl ?_
      exact wL_law_2393 hG C hl0 hX hbl hbA hNc hQf hA9 hc9 hs9 hc0 hs0 hL23 M y4 h
    by_cases c41 : ((xs (tn y4)) &&& 63) = 38
    · replace h := h.2.2.2.2.2.2.2.2.2.2.2.2.2.2.2.2.2.2.2.2.2.2.2.2.2.2.2.2.2.2.2.2.2.2.2.2.2.2.1 c41
      refine x_tabIn (v := 38) (tgt := 2461) C dL_law_40 c41 (by decide) (by decide) rfl (by decide) ?_
      refine X_sub (lv' := [(4, .int y4), (0, .ref b), (1, .ref (ga G 10 0)), (2, .ref (ga G 11 0)), (3, .ref (ga G 9000 0))]) [0, 1, 2, 3, 4] rfl ?_
      exact wL_law_2461 hG C hl0 hX hbl hbA hNc hQf hA9 hc9 hs9 hc0 hs0 hL23 M y4 h
    by_cases c42 : ((xs (tn y4)) &&& 63) = 39
    · replace h := h.2.2.2.2.2.2.2.2.2.2.2.2.2.2.2.2.2.2.2.2.2.2.2.2.2.2.2.2.2.2.2.2.2.2.2.2.2.2.2.1 c42
      refine x_tabIn (v := 39) (tgt := 2529) C dL_law_40 c42 (by decide) (by decide) rfl (by decide) ?_
      refine X_sub (lv' := [(4, .int y4), (0, .ref b), (1, .ref (ga G 10 0)), (2, .ref (ga G 11 0)), (3, .ref (ga G 9000 0))]) [0, 1, 2, 3, 4] rfl ?_
      exact wL_law_2529 hG C hl0 hX hbl hbA hNc hQf hA9 hc9 hs9 hc0 hs0 hL23 M y4 h
    by_cases c43 : ((xs (tn y4)) &&& 63) = 40
    · replace h := h.2.2.2.2.2.2.2.2.2.2.2.2.2.2.2.2.2.2.2.2.2.2.2.2.2.2.2.2.2.2.2.2.2.2.2.2.2.2.2.2.1 c43
      refine x_tabIn (v := 40) (tgt := 2597) C dL_law_40 c43 (by decide) (by decide) rfl (by decide) ?_
      refine X_sub (lv' := [(4, .int y4), (0, .ref b), (1, .ref (ga G 10 0)), (2, .ref (ga G 11 0)), (3, .ref (ga G 9000 0))]) [0, 1, 2, 3, 4] rfl ?_
      exact wL_law_2597 hG C hl0 hX hbl hbA hNc hQf hA9 hc9 hs9 hc0 hs0 hL23 M y4 h
    by_cases c44 : ((xs (tn y4)) &&& 63) = 41
    · replace h := h.2.2.2.2.2.2.2.2.2.2.2.2.2.2.2.2.2.2.2.2.2.2.2.2.2.2.2.2.2.2.2.2.2.2.2.2.2.2.2.2.2.1 c44
      refine x_tabIn (v := 41) (tgt := 2665) C dL_law_40 c44 (by decide) (by decide) rfl (by decide) ?_
      refine X_sub (lv' := [(4, .int y4), (0, .ref b), (1, .ref (ga G 10 0)), (2, .ref (ga G 11 0)), (3, .ref (ga G 9000 0))]) [0, 1, 2, 3, 4] rfl ?_
      exact wL_law_2665 hG C hl0 hX hbl hbA hNc hQf hA9 hc9 hs9 hc0 hs0 hL23 M y4 h
    replace h := h.2.2.2.2.2.2.2.2.2.2.2.2.2.2.2.2.2.2.2.2.2.2.2.2.2.2.2.2.2.2.2.2.2.2.2.2.2.2.2.2.2.2 c3 c4 c5 c6 c7 c8 c9 c10 c11 c12 c13 c14 c15 c16 c17 c18 c19 c20 c21 c22 c23 c24 c25 c26 c27 c28 c29 c30 c31 c32 c33 c34 c35 c36 c37 c38 c39 c40 c41 c42 c43 c44
    refine x_tabOut (tgt := 2690) C dL_law_40 (by have ac3 := lv_neT (a := 0) c3 rfl; have ac4 := lv_neT (a := 1) c4 rfl; have ac5 := lv_neT (a := 2) c5 rfl; have ac6 := lv_neT (a := 3) c6 rfl; have ac7 := lv_neT (a := 4) c7 rfl; have ac8 := lv_neT (a := 5) c8 rfl; have ac9 := lv_neT (a := 6) c9 rfl; have ac10 := lv_neT (a := 7) c10 rfl; have ac11 := lv_neT (a := 8) c11 rfl; have ac12 := lv_neT (a := 9) c12 rfl; have ac13 := lv_neT (a := 10) c13 rfl; have ac14 := lv_neT (a := 11) c14 rfl; have ac15 := lv_neT (a := 12) c15 rfl; have ac16 := lv_neT (a := 13) c16 rfl; have ac17 := lv_neT (a := 14) c17 rfl; have ac18 := lv_neT (a := 15) c18 rfl; have ac19 := lv_neT (a := 16) c19 rfl; have ac20 := lv_neT (a := 17) c20 rfl; have ac21 := lv_neT (a := 18) c21 rfl; have ac22 := lv_neT (a := 19) c22 rfl; have ac23 := lv_neT (a := 20) c23 rfl; have ac24 := lv_neT (a := 21) c24 rfl; have ac25 := lv_neT (a := 22) c25 rfl; have ac26 := lv_neT (a := 23) c26 rfl; have ac27 := lv_neT (a := 24) c27 rfl; have ac28 := lv_neT (a := 25) c28 rfl; have ac29 := lv_neT (a := 26) c29 rfl; have ac30 := lv_neT (a := 27) c30 rfl; have ac31 := lv_neT (a := 28) c31 rfl; have ac32 := lv_neT (a := 29) c32 rfl; have ac33 := lv_neT (a := 30) c33 rfl; have ac34 := lv_neT (a := 31) c34 rfl; have ac35 := lv_neT (a := 32) c35 rfl; have ac36 := lv_neT (a := 33) c36 rfl; have ac37 := lv_neT (a := 34) c37 rfl; have ac38 := lv_neT (a := 35) c38 rfl; have ac39 := lv_neT (a := 36) c39 rfl; have ac40 := lv_neT (a := 37) c40 rfl; have ac41 := lv_neT (a := 38) c41 rfl; have ac42 := lv_neT (a := 39) c42 rfl; have ac43 := lv_neT (a := 40) c43 rfl; have ac44 := lv_neT (a := 41) c44 rfl; omega) (by decide) ?_
    refine X_widen (c1 := ce + 4) (s1 := sl + 24) (Nat.add_le_add_left (Nat.le_of_ble_eq_true rfl) ce) (Nat.add_le_add_left (Nat.le_of_ble_eq_true rfl) sl) ?_
    refine X_sub (lv' := [(4, .int y4), (0, .ref b), (1, .ref (ga G 10 0)), (2, .ref (ga G 11 0)), (3, .ref (ga G 9000 0))]) [0, 1, 2, 3, 4] rfl ?_
    exact wL_law_2690 hG C hl0 hX hbl hbA hNc hQf hA9 hc9 hs9 hc0 hs0 hL23 M y4 h
def pL_law (xs : Nat → Int32) (L : Nat) (n : Nat) (M : Mem) (y4 : Int32) : Prop := lp (fun L23 s => bL_law_23 xs L L23 s.1 s.2) n (M, y4)
theorem wL_law {Γ : Gam} {G : Gm} {Qf : State → Prop} {xs : Nat → Int32} {b L : Nat} (hG : Gd G) (C : Cx Γ G cL_law 7 RL (some .boolean) room_1) (hl0 : (gl Γ).stackTraces = false) (hX : va_X b L xs (gs Γ) (gs Γ).heap) (hbl : b < (gs Γ).heap.size) (hbA : ¬ gA G b) (hNc : va_Nc EI EN (gs Γ)) (hQf : (gar Γ) = #[Value.ref b] ∧ Qf = lw_Z (gbe Γ) #[Value.ref b] (gs Γ)) (hA9 : ∀ q, gA G q → (gs Γ).heap.size ≤ q) : ∀ (n : Nat) (M : Mem) (y4 : Int32) (ce sl : Nat), pL_law xs L n M y4 → ce + 8 * n ≤ room_1.cells → sl + 48 * n ≤ room_1.slots → X Γ G Qf 7 ce sl 23 [(4, .int y4), (0, .ref b), (1, .ref (ga G 10 0)), (2, .ref (ga G 11 0)), (3, .ref (ga G 9000 0))] [] M
  | 0, _, _, _, _, h, _, _ => h.elim
  | n + 1, M, y4, ce, sl, h, h1, h2 => wL_law_23 hG C hl0 hX hbl hbA hNc hQf hA9 (by omega) (by omega) (by omega) (by omega) (L23 := fun s => pL_law xs L n s.1 s.2) (fun s hs => wL_law hG C hl0 hX hbl hbA hNc hQf hA9 n s.1 s.2 (ce + 8) (sl + 48) hs (by omega) (by omega)) M y4 h
