set_option maxRecDepth 100000 in
set_option maxHeartbeats 400000 in
theorem wL_law_2690 {Γ : Gam} {G : Gm} {Qf : State → Prop} {xs : Nat → Int32} {b L ce sl : Nat} (hG : Gd G) (C : Cx Γ G cL_law 7 RL (some .boolean) room_1) (hl0 : (gl Γ).stackTraces = false) (hX : va_X b L xs (gs Γ) (gs Γ).heap) (hbl : b < (gs Γ).heap.size) (hbA : ¬ gA G b) (hNc : va_Nc EI EN (gs Γ)) (hQf : (gar Γ) = #[Value.ref b] ∧ Qf = lw_Z (gbe Γ) #[Value.ref b] (gs Γ)) (hA9 : ∀ q, gA G q → (gs Γ).heap.size ≤ q) (hc9 : ce + 8 ≤ room_1.cells) (hs9 : sl + 48 ≤ room_1.slots) (hc0 : ce ≤ room_1.cells) (hs0 : sl ≤ room_1.slots) {L23 : Mem × Int32 → Prop} (hL23 : ∀ s, L23 s → X Γ G Qf 7 (ce + 8) (sl + 48) 23 [(4, .int s.2), (0, .ref b), (1, .ref (ga G 10 0)), (2, .ref (ga G 11 0)), (3, .ref (ga G 9000 0))] [] s.1) (M : Mem) (y4 : Int32) (h : bL_law_2690 xs L L23 M y4) : X Γ G Qf 7 (ce + 4) (sl + 24) 2690 [(4, .int y4), (0, .ref b), (1, .ref (ga G 10 0)), (2, .ref (ga G 11 0)), (3, .ref (ga G 9000 0))] [] M := by
  unfold bL_law_2690 at h
  obtain ⟨v466, ev466⟩ : ∃ z : Int32, z = y4 + 6 := ⟨_, rfl⟩
  replace h := h v466 ev466
  refine x_iinc (v := v466) (lv' := [(4, .int v466), (0, .ref b), (1, .ref (ga G 10 0)), (2, .ref (ga G 11 0)), (3, .ref (ga G 9000 0))]) (j := 0) C dL_law_2690 rfl (by rw [ev466]; rfl) (Nat.le_of_ble_eq_true rfl) rfl ?_
  refine x_goto (tgt := 23) C dL_law_2693 (by decide) ?_
  refine X_widen (c1 := ce + 8) (s1 := sl + 48) (Nat.add_le_add_left (Nat.le_of_ble_eq_true rfl) ce) (Nat.add_le_add_left (Nat.le_of_ble_eq_true rfl) sl) ?_
  refine X_sub (lv' := [(4, .int v466), (0, .ref b), (1, .ref (ga G 10 0)), (2, .ref (ga G 11 0)), (3, .ref (ga G 9000 0))]) [0, 1, 2, 3, 4] rfl ?_
  exact hL23 (M, v466) h
set_option maxRecDepth 100000 in
set_option maxHeartbeats 400000 in
theorem wL_law_224 {Γ : Gam} {G : Gm} {Qf : State → Prop} {xs : Nat → Int32} {b L ce sl : Nat} (hG : Gd G) (C : Cx Γ G cL_law 7 RL (some .boolean) room_1) (hl0 : (gl Γ).stackTraces = false) (hX : va_X b L xs (gs Γ) (gs Γ).heap) (hbl : b < (gs Γ).heap.size) (hbA : ¬ gA G b) (hNc : va_Nc EI EN (gs Γ)) (hQf : (gar Γ) = #[Value.ref b] ∧ Qf = lw_Z (gbe Γ) #[Value.ref b] (gs Γ)) (hA9 : ∀ q, gA G q → (gs Γ).heap.size ≤ q) (hc9 : ce + 8 ≤ room_1.cells) (hs9 : sl + 48 ≤ room_1.slots) (hc0 : ce ≤ room_1.cells) (hs0 : sl ≤ room_1.slots) {L23 : Mem × Int32 → Prop} (hL23 : ∀ s, L23 s → X Γ G Qf 7 (ce + 8) (sl + 48) 23 [(4, .int s.2), (0, .ref b), (1, .ref (ga G 10 0)), (2, .ref (ga G 11 0)), (3, .ref (ga G 9000 0))] [] s.1) (M : Mem) (y4 : Int32) (h : bL_law_224 xs L L23 M y4) : X Γ G Qf 7 (ce + 0) (sl + 0) 224 [(4, .int y4), (0, .ref b), (1, .ref (ga G 10 0)), (2, .ref (ga G 11 0)), (3, .ref (ga G 9000 0))] [] M := by
  unfold bL_law_224 at h
  refine x_aload_n C dL_law_224 2 rfl ?_
  refine x_aload_n C dL_law_225 1 rfl ?_
  refine x_iload C dL_law_226 0 rfl ?_
  refine x_iconst (v := 1) C dL_law_228 rfl ?_
  refine x_iadd C dL_law_229 ?_
  obtain ⟨f456, h⟩ := h
  refine x_sld C hX hbl hbA f456 dL_law_230 ?_
  refine x_aload_n C dL_law_231 1 rfl ?_
  refine x_iload C dL_law_232 0 rfl ?_
  refine x_iconst (v := 2) C dL_law_234 rfl ?_
  refine x_iadd C dL_law_235 ?_
  obtain ⟨f457, h⟩ := h
  refine x_sld C hX hbl hbA f457 dL_law_236 ?_
  refine x_aload_n C dL_law_237 1 rfl ?_
  refine x_iload C dL_law_238 0 rfl ?_
  refine x_iconst (v := 3) C dL_law_240 rfl ?_
  refine x_iadd C dL_law_241 ?_
  obtain ⟨f458, h⟩ := h
  refine x_sld C hX hbl hbA f458 dL_law_242 ?_
  refine x_aload_n C dL_law_243 1 rfl ?_
  refine x_iload C dL_law_244 0 rfl ?_
  refine x_iconst (v := 4) C dL_law_246 rfl ?_
  refine x_iadd C dL_law_247 ?_
  obtain ⟨f459, h⟩ := h
  refine x_sld C hX hbl hbA f459 dL_law_248 ?_
  refine x_aload_n C dL_law_249 1 rfl ?_
  refine x_iload C dL_law_250 0 rfl ?_
  refine x_iconst (v := 5) C dL_law_252 rfl ?_
  refine x_iadd C dL_law_253 ?_
  obtain ⟨f460, h⟩ := h
  refine x_sld C hX hbl hbA f460 dL_law_254 ?_
  refine x_calli (rest := []) (ce1 := ce + 0) (sl1 := sl + 0) C sv_L_128 ob10 z10 (kX10_feed hG _ _ _ _ _ _ h) rfl rfl (Nat.le_of_ble_eq_true rfl) ⟨Nat.le_of_ble_eq_true rfl, Nat.le_of_ble_eq_true rfl⟩ rfl rfl ⟨Nat.le_trans (Nat.add_le_add_left (Nat.le_of_ble_eq_true rfl) ce) hc9, Nat.le_trans (Nat.add_le_add_left (Nat.le_of_ble_eq_true rfl) sl) hs9⟩ dL_law_255 (fun r461 M462 h => ?_)
  refine x_aload_n C dL_law_258 3 rfl ?_
  refine x_aload_n C dL_law_259 1 rfl ?_
  refine x_iload C dL_law_260 0 rfl ?_
  refine x_iconst (v := 1) C dL_law_262 rfl ?_
  refine x_iadd C dL_law_263 ?_
  refine x_sld C hX hbl hbA f456 dL_law_264 ?_
  refine x_aload_n C dL_law_265 1 rfl ?_
  refine x_iload C dL_law_266 0 rfl ?_
  refine x_iconst (v := 2) C dL_law_268 rfl ?_
  refine x_iadd C dL_law_269 ?_
  refine x_sld C hX hbl hbA f457 dL_law_270 ?_
  refine x_aload_n C dL_law_271 1 rfl ?_
  refine x_iload C dL_law_272 0 rfl ?_
  refine x_iconst (v := 3) C dL_law_274 rfl ?_
  refine x_iadd C dL_law_275 ?_
  refine x_sld C hX hbl hbA f458 dL_law_276 ?_
  refine x_aload_n C dL_law_277 1 rfl ?_
  refine x_iload C dL_law_278 0 rfl ?_
  refine x_iconst (v := 4) C dL_law_280 rfl ?_
  refine x_iadd C dL_law_281 ?_
  refine x_sld C hX hbl hbA f459 dL_law_282 ?_
  refine x_aload_n C dL_law_283 1 rfl ?_
  refine x_iload C dL_law_284 0 rfl ?_
  refine x_iconst (v := 5) C dL_law_286 rfl ?_
  refine x_iadd C dL_law_287 ?_
  refine x_sld C hX hbl hbA f460 dL_law_288 ?_
  refine x_calli (rest := [.int r461]) (ce1 := ce + 0) (sl1 := sl + 0) C sv_L_132 ob11 z11 (kX11_feed hG _ _ _ _ _ _ h) rfl rfl (Nat.le_of_ble_eq_true rfl) ⟨Nat.le_of_ble_eq_true rfl, Nat.le_of_ble_eq_true rfl⟩ rfl rfl ⟨Nat.le_trans (Nat.add_le_add_left (Nat.le_of_ble_eq_true rfl) ce) hc9, Nat.le_trans (Nat.add_le_add_left (Nat.le_of_ble_eq_true rfl) sl) hs9⟩ dL_law_289 (fun r463 M464 h => ?_)
  refine x_icmp_eq (tgt := 2690) C dL_law_292 (by decide) (fun c465 => ?_) (fun c465 => ?_)
  · replace h := h.1 c465
    refine X_widen (c1 := ce + 4) (s1 := sl + 24) (Nat.add_le_add_left (Nat.le_of_ble_eq_true rfl) ce) (Nat.add_le_add_left (Nat.le_of_ble_eq_true rfl) sl) ?_
    refine X_sub (lv' := [(4, .int y4), (0, .ref b), (1, .ref (ga G 10 0)), (2, .ref (ga G 11 0)), (3, .ref (ga G 9000 0))]) [0, 1, 2, 3, 4] rfl ?_
    exact wL_law_2690 hG C hl0 hX hbl hbA hNc hQf hA9 hc9 hs9 hc0 hs0 hL23 M464 y4 h
  · replace h := h.2 c465
    refine x_iconst (v := 0) C dL_law_295 rfl ?_
    exact h.elim
set_option maxRecDepth 100000 in
set_option maxHeartbeats 400000 in
theorem wL_law_350 {Γ : Gam} {G : Gm} {Qf : State → Prop} {xs : Nat → Int32} {b L ce sl : Nat} (hG : Gd G) (C : Cx Γ G cL_law 7 RL (some .boolean) room_1) (hl0 : (gl Γ).stackTraces = false) (hX : va_X b L xs (gs Γ) (gs Γ).heap) (hbl : b < (gs Γ).heap.size) (hbA : ¬ gA G b) (hNc : va_Nc EI EN (gs Γ)) (hQf : (gar Γ) = #[Value.ref b] ∧ Qf = lw_Z (gbe Γ) #[Value.ref b] (gs Γ)) (hA9 : ∀ q, gA G q → (gs Γ).heap.size ≤ q) (hc9 : ce + 8 ≤ room_1.cells) (hs9 : sl + 48 ≤ room_1.slots) (hc0 : ce ≤ room_1.cells) (hs0 : sl ≤ room_1.slots) {L23 : Mem × Int32 → Prop} (hL23 : ∀ s, L23 s → X Γ G Qf 7 (ce + 8) (sl + 48) 23 [(4, .int s.2), (0, .ref b), (1, .ref (ga G 10 0)), (2, .ref (ga G 11 0)), (3, .ref (ga G 9000 0))] [] s.1) (M : Mem) (y4 : Int32) (h : bL_law_350 xs L L23 M y4) : X Γ G Qf 7 (ce + 2) (sl + 12) 350 [(4, .int y4), (0, .ref b), (1, .ref (ga G 10 0)), (2, .ref (ga G 11 0)), (3, .ref (ga G 9000 0))] [] M := by
  unfold bL_law_350 at h
  refine x_goto (tgt := 2690) C dL_law_350 (by decide) ?_
  refine X_widen (c1 := ce + 4) (s1 := sl + 24) (Nat.add_le_add_left (Nat.le_of_ble_eq_true rfl) ce) (Nat.add_le_add_left (Nat.le_of_ble_eq_true rfl) sl) ?_
  refine X_sub (lv' := [(4, .int y4), (0, .ref b), (1, .ref (ga G 10 0)), (2, .ref (ga G 11 0)), (3, .ref (ga G 9000 0))]) [0, 1, 2, 3, 4] rfl ?_
  exact wL_law_2690 hG C hl0 hX hbl hbA hNc hQf hA9 hc9 hs9 hc0 hs0 hL23 M y4 h
set_option maxRecDepth 100000 in
set_option maxHeartbeats 400000 in
theorem wL_law_297 {Γ : Gam} {G : Gm} {Qf : State → Prop} {xs : Nat → Int32} {b L ce sl : Nat} (hG : Gd G) (C : Cx Γ G cL_law 7 RL (some .boolean) room_1) (hl0 : (gl Γ).stackTraces = false) (hX : va_X b L xs (gs Γ) (gs Γ).heap) (hbl : b < (gs Γ).heap.size) (hbA : ¬ gA G b) (hNc : va_Nc EI EN (gs Γ)) (hQf : (gar Γ) = #[Value.ref b] ∧ Qf = lw_Z (gbe Γ) #[Value.ref b] (gs Γ)) (hA9 : ∀ q, gA G q → (gs Γ).heap.size ≤ q) (hc9 : ce + 8 ≤ room_1.cells) (hs9 : sl + 48 ≤ room_1.slots) (hc0 : ce ≤ room_1.cells) (hs0 : sl ≤ room_1.slots) {L23 : Mem × Int32 → Prop} (hL23 : ∀ s, L23 s → X Γ G Qf 7 (ce + 8) (sl + 48) 23 [(4, .int s.2), (0, .ref b), (1, .ref (ga G 10 0)), (2, .ref (ga G 11 0)), (3, .ref (ga G 9000 0))] [] s.1) (M : Mem) (y4 : Int32) (h : bL_law_297 xs L L23 M y4) : X Γ G Qf 7 (ce + 0) (sl + 0) 297 [(4, .int y4), (0, .ref b), (1, .ref (ga G 10 0)), (2, .ref (ga G 11 0)), (3, .ref (ga G 9000 0))] [] M := by
  unfold bL_law_297 at h
  refine x_aload_n C dL_law_297 2 rfl ?_
  refine x_aload_n C dL_law_298 1 rfl ?_
  refine x_iload C dL_law_299 0 rfl ?_
  refine x_iconst (v := 1) C dL_law_301 rfl ?_
  refine x_iadd C dL_law_302 ?_
  obtain ⟨f446, h⟩ := h
  refine x_sld C hX hbl hbA f446 dL_law_303 ?_
  refine x_aload_n C dL_law_304 4 rfl ?_
  refine x_lcall (rest := []) (ce1 := ce + 2) (sl1 := sl + 12) C sl_L_133 hNc (kL_add hG hl0 _ _ h) rfl rfl (Nat.le_of_ble_eq_true rfl) ⟨Nat.le_of_ble_eq_true rfl, Nat.le_of_ble_eq_true rfl⟩ rfl rfl ⟨Nat.le_trans (Nat.add_le_add_left (Nat.le_of_ble_eq_true rfl) ce) hc9, Nat.le_trans (Nat.add_le_add_left (Nat.le_of_ble_eq_true rfl) sl) hs9⟩ dL_law_305 (fun r447 M448 h => ?_)
  refine x_istore (lv' := [(5, .int r447), (4, .int y4), (0, .ref b), (1, .ref (ga G 10 0)), (2, .ref (ga G 11 0)), (3, .ref (ga G 9000 0))]) C dL_law_308 (Nat.le_of_ble_eq_true rfl) rfl ?_
  refine x_aload_n C dL_law_310 4 rfl ?_
  refine x_aload_n C dL_law_311 2 rfl ?_
  refine x_iload C dL_law_312 1 rfl ?_
  refine x_iconst (v := 1) C dL_law_314 rfl ?_
  refine x_iadd C dL_law_315 ?_
  refine x_sld C hX hbl hbA f446 dL_law_316 ?_
  refine x_calli (rest := []) (ce1 := ce + 2) (sl1 := sl + 12) C sv_L_138 ob11 z11 (kX11_add hG _ _ h) rfl rfl (Nat.le_of_ble_eq_true rfl) ⟨Nat.le_of_ble_eq_true rfl, Nat.le_of_ble_eq_true rfl⟩ rfl rfl ⟨Nat.le_trans (Nat.add_le_add_left (Nat.le_of_ble_eq_true rfl) ce) hc9, Nat.le_trans (Nat.add_le_add_left (Nat.le_of_ble_eq_true rfl) sl) hs9⟩ dL_law_317 (fun r449 M450 h => ?_)
  refine x_istore (lv' := [(6, .int r449), (5, .int r447), (4, .int y4), (0, .ref b), (1, .ref (ga G 10 0)), (2, .ref (ga G 11 0)), (3, .ref (ga G 9000 0))]) C dL_law_320 (Nat.le_of_ble_eq_true rfl) rfl ?_
  refine x_aload_n C dL_law_322 5 rfl ?_
  refine x_calli (rest := []) (ce1 := ce + 2) (sl1 := sl + 12) C sv_L_139 ob11 z11 (kX11_thrown hG _ h) rfl rfl (Nat.le_of_ble_eq_true rfl) ⟨Nat.le_of_ble_eq_true rfl, Nat.le_of_ble_eq_true rfl⟩ rfl rfl ⟨Nat.le_trans (Nat.add_le_add_left (Nat.le_of_ble_eq_true rfl) ce) hc9, Nat.le_trans (Nat.add_le_add_left (Nat.le_of_ble_eq_true rfl) sl) hs9⟩ dL_law_323 (fun r451 M452 h => ?_)
  refine x_iload C dL_law_326 1 rfl ?_
  refine x_icmp_eq (tgt := 333) C dL_law_328 (by decide) (fun c453 => ?_) (fun c453 => ?_)
  · replace h := h.1 c453
    refine x_iload C dL_law_333 1 rfl ?_
    refine x_if_ne (tgt := 350) C dL_law_335 (by decide) (fun c454 => ?_) (fun c454 => ?_)
    · replace h := h.1 c454
      refine X_sub (lv' := [(4, .int y4), (0, .ref b), (1, .ref (ga G 10 0)), (2, .ref (ga G 11 0)), (3, .ref (ga G 9000 0))]) [2, 3, 4, 5, 6] rfl ?_
      exact wL_law_350 hG C hl0 hX hbl hbA hNc hQf hA9 hc9 hs9 hc0 hs0 hL23 M452 y4 h
    · replace h := h.2 c454
      refine x_aload_n C dL_law_338 6 rfl ?_
      refine x_iconst (v := 0) C dL_law_339 rfl ?_
      refine al_9000 C z9000 (vp_l (by decide)) dL_law_340 ?_
      refine x_iload C dL_law_341 0 rfl ?_
      refine x_i2l C dL_law_343 ?_
      refine x_lcmp C dL_law_344 ?_
      refine x_if_eq (tgt := 350) C dL_law_345 (by decide) (fun c455 => ?_) (fun c455 => ?_)
      · replace h := h.1 c455
        refine X_sub (lv' := [(4, .int y4), (0, .ref b), (1, .ref (ga G 10 0)), (2, .ref (ga G 11 0)), (3, .ref (ga G 9000 0))]) [2, 3, 4, 5, 6] rfl ?_
        exact wL_law_350 hG C hl0 hX hbl hbA hNc hQf hA9 hc9 hs9 hc0 hs0 hL23 M452 y4 h
      · replace h := h.2 c455
        refine x_iconst (v := 0) C dL_law_348 rfl ?_
        exact h.elim
  · replace h := h.2 c453
    refine x_iconst (v := 0) C dL_law_331 rfl ?_
    exact h.elim
set_option maxRecDepth 100000 in
set_option maxHeartbeats 400000 in
theorem wL_law_406 {Γ : Gam} {G : Gm} {Qf : State → Prop} {xs : Nat → Int32} {b L ce sl : Nat} (hG : Gd G) (C : Cx Γ G cL_law 7 RL (some .boolean) room_1) (hl0 : (gl Γ).stackTraces = false) (hX : va_X b L xs (gs Γ) (gs Γ).heap) (hbl : b < (gs Γ).heap.size) (hbA : ¬ gA G b) (hNc : va_Nc EI EN (gs Γ)) (hQf : (gar Γ) = #[Value.ref b] ∧ Qf = lw_Z (gbe Γ) #[Value.ref b] (gs Γ)) (hA9 : ∀ q, gA G q → (gs Γ).heap.size ≤ q) (hc9 : ce + 8 ≤ room_1.cells) (hs9 : sl + 48 ≤ room_1.slots) (hc0 : ce ≤ room_1.cells) (hs0 : sl ≤ room_1.slots) {L23 : Mem × Int32 → Prop} (hL23 : ∀ s, L23 s → X Γ G Qf 7 (ce + 8) (sl + 48) 23 [(4, .int s.2), (0, .ref b), (1, .ref (ga G 10 0)), (2, .ref (ga G 11 0)), (3, .ref (ga G 9000 0))] [] s.1) (M : Mem) (y4 : Int32) (h : bL_law_406 xs L L23 M y4) : X Γ G Qf 7 (ce + 1) (sl + 6) 406 [(4, .int y4), (0, .ref b), (1, .ref (ga G 10 0)), (2, .ref (ga G 11 0)), (3, .ref (ga G 9000 0))] [] M := by
  unfold bL_law_406 at h
  refine x_goto (tgt := 2690) C dL_law_406 (by decide) ?_
  refine X_widen (c1 := ce + 4) (s1 := sl + 24) (Nat.add_le_add_left (Nat.le_of_ble_eq_true rfl) ce) (Nat.add_le_add_left (Nat.le_of_ble_eq_true rfl) sl) ?_
  refine X_sub (lv' := [(4, .int y4), (0, .ref b), (1, .ref (ga G 10 0)), (2, .ref (ga G 11 0)), (3, .ref (ga G 9000 0))]) [0, 1, 2, 3, 4] rfl ?_
  exact wL_law_2690 hG C hl0 hX hbl hbA hNc hQf hA9 hc9 hs9 hc0 hs0 hL23 M y4 h
set_option maxRecDepth 100000 in
set_option maxHeartbeats 400000 in
theorem wL_law_353 {Γ : Gam} {G : Gm} {Qf : State → Prop} {xs : Nat → Int32} {b L ce sl : Nat} (hG : Gd G) (C : Cx Γ G cL_law 7 RL (some .boolean) room_1) (hl0 : (gl Γ).stackTraces = false) (hX : va_X b L xs (gs Γ) (gs Γ).heap) (hbl : b < (gs Γ).heap.size) (hbA : ¬ gA G b) (hNc : va_Nc EI EN (gs Γ)) (hQf : (gar Γ) = #[Value.ref b] ∧ Qf = lw_Z (gbe Γ) #[Value.ref b] (gs Γ)) (hA9 : ∀ q, gA G q → (gs Γ).heap.size ≤ q) (hc9 : ce + 8 ≤ room_1.cells) (hs9 : sl + 48 ≤ room_1.slots) (hc0 : ce ≤ room_1.cells) (hs0 : sl ≤ room_1.slots) {L23 : Mem × Int32 → Prop} (hL23 : ∀ s, L23 s → X Γ G Qf 7 (ce + 8) (sl + 48) 23 [(4, .int s.2), (0, .ref b), (1, .ref (ga G 10 0)), (2, .ref (ga G 11 0)), (3, .ref (ga G 9000 0))] [] s.1) (M : Mem) (y4 : Int32) (h : bL_law_353 xs L L23 M y4) : X Γ G Qf 7 (ce + 0) (sl + 0) 353 [(4, .int y4), (0, .ref b), (1, .ref (ga G 10 0)), (2, .ref (ga G 11 0)), (3, .ref (ga G 9000 0))] [] M := by
  unfold bL_law_353 at h
  refine x_aload_n C dL_law_353 2 rfl ?_
  refine x_aload_n C dL_law_354 1 rfl ?_
  refine x_iload C dL_law_355 0 rfl ?_
  refine x_iconst (v := 1) C dL_law_357 rfl ?_
  refine x_iadd C dL_law_358 ?_
  obtain ⟨f436, h⟩ := h
  refine x_sld C hX hbl hbA f436 dL_law_359 ?_
  refine x_aload_n C dL_law_360 4 rfl ?_
  refine x_lcall (rest := []) (ce1 := ce + 1) (sl1 := sl + 6) C sl_L_143 hNc (kL_ask hG hl0 _ _ h) rfl rfl (Nat.le_of_ble_eq_true rfl) ⟨Nat.le_of_ble_eq_true rfl, Nat.le_of_ble_eq_true rfl⟩ rfl rfl ⟨Nat.le_trans (Nat.add_le_add_left (Nat.le_of_ble_eq_true rfl) ce) hc9, Nat.le_trans (Nat.add_le_add_left (Nat.le_of_ble_eq_true rfl) sl) hs9⟩ dL_law_361 (fun r437 M438 h => ?_)
  refine x_istore (lv' := [(5, .int r437), (4, .int y4), (0, .ref b), (1, .ref (ga G 10 0)), (2, .ref (ga G 11 0)), (3, .ref (ga G 9000 0))]) C dL_law_364 (Nat.le_of_ble_eq_true rfl) rfl ?_
  refine x_aload_n C dL_law_366 4 rfl ?_
  refine x_aload_n C dL_law_367 2 rfl ?_
  refine x_iload C dL_law_368 1 rfl ?_
  refine x_iconst (v := 1) C dL_law_370 rfl ?_
  refine x_iadd C dL_law_371 ?_
  refine x_sld C hX hbl hbA f436 dL_law_372 ?_
  refine x_calli (rest := []) (ce1 := ce + 1) (sl1 := sl + 6) C sv_L_145 ob11 z11 (kX11_ask hG _ _ h) rfl rfl (Nat.le_of_ble_eq_true rfl) ⟨Nat.le_of_ble_eq_true rfl, Nat.le_of_ble_eq_true rfl⟩ rfl rfl ⟨Nat.le_trans (Nat.add_le_add_left (Nat.le_of_ble_eq_true rfl) ce) hc9, Nat.le_trans (Nat.add_le_add_left (Nat.le_of_ble_eq_true rfl) sl) hs9⟩ dL_law_373 (fun r439 M440 h => ?_)
  refine x_istore (lv' := [(6, .int r439), (5, .int r437), (4, .int y4), (0, .ref b), (1, .ref (ga G 10 0)), (2, .ref (ga G 11 0)), (3, .ref (ga G 9000 0))]) C dL_law_376 (Nat.le_of_ble_eq_true rfl) rfl ?_
  refine x_aload_n C dL_law_378 5 rfl ?_
  refine x_calli (rest := []) (ce1 := ce + 1) (sl1 := sl + 6) C sv_L_139 ob11 z11 (kX11_thrown hG _ h) rfl rfl (Nat.le_of_ble_eq_true rfl) ⟨Nat.le_of_ble_eq_true rfl, Nat.le_of_ble_eq_true rfl⟩ rfl rfl ⟨Nat.le_trans (Nat.add_le_add_left (Nat.le_of_ble_eq_true rfl) ce) hc9, Nat.le_trans (Nat.add_le_add_left (Nat.le_of_ble_eq_true rfl) sl) hs9⟩ dL_law_379 (fun r441 M442 h => ?_)
  refine x_iload C dL_law_382 1 rfl ?_
  refine x_icmp_eq (tgt := 389) C dL_law_384 (by decide) (fun c443 => ?_) (fun c443 => ?_)
  · replace h := h.1 c443
    refine x_iload C dL_law_389 1 rfl ?_
    refine x_if_ne (tgt := 406) C dL_law_391 (by decide) (fun c444 => ?_) (fun c444 => ?_)
    · replace h := h.1 c444
      refine X_sub (lv' := [(4, .int y4), (0, .ref b), (1, .ref (ga G 10 0)), (2, .ref (ga G 11 0)), (3, .ref (ga G 9000 0))]) [2, 3, 4, 5, 6] rfl ?_
      exact wL_law_406 hG C hl0 hX hbl hbA hNc hQf hA9 hc9 hs9 hc0 hs0 hL23 M442 y4 h
    · replace h := h.2 c444
      refine x_aload_n C dL_law_394 6 rfl ?_
      refine x_iconst (v := 0) C dL_law_395 rfl ?_
      refine al_9000 C z9000 (vp_l (by decide)) dL_law_396 ?_
      refine x_iload C dL_law_397 0 rfl ?_
      refine x_i2l C dL_law_399 ?_
      refine x_lcmp C dL_law_400 ?_
      refine x_if_eq (tgt := 406) C dL_law_401 (by decide) (fun c445 => ?_) (fun c445 => ?_)
      · replace h := h.1 c445
        refine X_sub (lv' := [(4, .int y4), (0, .ref b), (1, .ref (ga G 10 0)), (2, .ref (ga G 11 0)), (3, .ref (ga G 9000 0))]) [2, 3, 4, 5, 6] rfl ?_
        exact wL_law_406 hG C hl0 hX hbl hbA hNc hQf hA9 hc9 hs9 hc0 hs0 hL23 M442 y4 h
      · replace h := h.2 c445
        refine x_iconst (v := 0) C dL_law_404 rfl ?_
        exact h.elim
  · replace h := h.2 c443
    refine x_iconst (v := 0) C dL_law_387 rfl ?_
    exact h.elim
set_option maxRecDepth 100000 in
set_option maxHeartbeats 400000 in
theorem wL_law_409 {Γ : Gam} {G : Gm} {Qf : State → Prop} {xs : Nat → Int32} {b L ce sl : Nat} (hG : Gd G) (C : Cx Γ G cL_law 7 RL (some .boolean) room_1) (hl0 : (gl Γ).stackTraces = false) (hX : va_X b L xs (gs Γ) (gs Γ).heap) (hbl : b < (gs Γ).heap.size) (hbA : ¬ gA G b) (hNc : va_Nc EI EN (gs Γ)) (hQf : (gar Γ) = #[Value.ref b] ∧ Qf = lw_Z (gbe Γ) #[Value.ref b] (gs Γ)) (hA9 : ∀ q, gA G q → (gs Γ).heap.size ≤ q) (hc9 : ce + 8 ≤ room_1.cells) (hs9 : sl + 48 ≤ room_1.slots) (hc0 : ce ≤ room_1.cells) (hs0 : sl ≤ room_1.slots) {L23 : Mem × Int32 → Prop} (hL23 : ∀ s, L23 s → X Γ G Qf 7 (ce + 8) (sl + 48) 23 [(4, .int s.2), (0, .ref b), (1, .ref (ga G 10 0)), (2, .ref (ga G 11 0)), (3, .ref (ga G 9000 0))] [] s.1) (M : Mem) (y4 : Int32) (h : bL_law_409 xs L L23 M y4) : X Γ G Qf 7 (ce + 0) (sl + 0) 409 [(4, .int y4), (0, .ref b), (1, .ref (ga G 10 0)), (2, .ref (ga G 11 0)), (3, .ref (ga G 9000 0))] [] M := by
  unfold bL_law_409 at h
  refine x_aload_n C dL_law_409 2 rfl ?_
  refine x_calli (rest := []) (ce1 := ce + 0) (sl1 := sl + 0) C sv_L_146 ob10 z10 (kX10_fault hG _ h) rfl rfl (Nat.le_of_ble_eq_true rfl) ⟨Nat.le_of_ble_eq_true rfl, Nat.le_of_ble_eq_true rfl⟩ rfl rfl ⟨Nat.le_trans (Nat.add_le_add_left (Nat.le_of_ble_eq_true rfl) ce) hc9, Nat.le_trans (Nat.add_le_add_left (Nat.le_of_ble_eq_true rfl) sl) hs9⟩ dL_law_410 (fun r431 M432 h => ?_)
  refine x_aload_n C dL_law_413 3 rfl ?_
  refine x_calli (rest := [.int r431]) (ce1 := ce + 0) (sl1 := sl + 0) C sv_L_149 ob11 z11 (kX11_fault hG _ h) rfl rfl (Nat.le_of_ble_eq_true rfl) ⟨Nat.le_of_ble_eq_true rfl, Nat.le_of_ble_eq_true rfl⟩ rfl rfl ⟨Nat.le_trans (Nat.add_le_add_left (Nat.le_of_ble_eq_true rfl) ce) hc9, Nat.le_trans (Nat.add_le_add_left (Nat.le_of_ble_eq_true rfl) sl) hs9⟩ dL_law_414 (fun r433 M434 h => ?_)
  refine x_icmp_eq (tgt := 2690) C dL_law_417 (by decide) (fun c435 => ?_) (fun c435 => ?_)
  · replace h := h.1 c435
    refine X_widen (c1 := ce + 4) (s1 := sl + 24) (Nat.add_le_add_left (Nat.le_of_ble_eq_true rfl) ce) (Nat.add_le_add_left (Nat.le_of_ble_eq_true rfl) sl) ?_
    refine X_sub (lv' := [(4, .int y4), (0, .ref b), (1, .ref (ga G 10 0)), (2, .ref (ga G 11 0)), (3, .ref (ga G 9000 0))]) [0, 1, 2, 3, 4] rfl ?_
    exact wL_law_2690 hG C hl0 hX hbl hbA hNc hQf hA9 hc9 hs9 hc0 hs0 hL23 M434 y4 h
  · replace h := h.2 c435
    refine x_iconst (v := 0) C dL_law_420 rfl ?_
    exact h.elim
set_option maxRecDepth 100000 in
set_option maxHeartbeats 400000 in
theorem wL_law_475 {Γ : Gam} {G : Gm} {Qf : State → Prop} {xs : Nat → Int32} {b L ce sl : Nat} (hG : Gd G) (C : Cx Γ G cL_law 7 RL (some .boolean) room_1) (hl0 : (gl Γ).stackTraces = false) (hX : va_X b L xs (gs Γ) (gs Γ).heap) (hbl : b < (gs Γ).heap.size) (hbA : ¬ gA G b) (hNc : va_Nc EI EN (gs Γ)) (hQf : (gar Γ) = #[Value.ref b] ∧ Qf = lw_Z (gbe Γ) #[Value.ref b] (gs Γ)) (hA9 : ∀ q, gA G q → (gs Γ).heap.size ≤ q) (hc9 : ce + 8 ≤ room_1.cells) (hs9 : sl + 48 ≤ room_1.slots) (hc0 : ce ≤ room_1.cells) (hs0 : sl ≤ room_1.slots) {L23 : Mem × Int32 → Prop} (hL23 : ∀ s, L23 s → X Γ G Qf 7 (ce + 8) (sl + 48) 23 [(4, .int s.2), (0, .ref b), (1, .ref (ga G 10 0)), (2, .ref (ga G 11 0)), (3, .ref (ga G 9000 0))] [] s.1) (M : Mem) (y4 : Int32) (h : bL_law_475 xs L L23 M y4) : X Γ G Qf 7 (ce + 1) (sl + 6) 475 [(4, .int y4), (0, .ref b), (1, .ref (ga G 10 0)), (2, .ref (ga G 11 0)), (3, .ref (ga G 9000 0))] [] M := by
  unfold bL_law_475 at h
  refine x_goto (tgt := 2690) C dL_law_475 (by decide) ?_
  refine X_widen (c1 := ce + 4) (s1 := sl + 24) (Nat.add_le_add_left (Nat.le_of_ble_eq_true rfl) ce) (Nat.add_le_add_left (Nat.le_of_ble_eq_true rfl) sl) ?_
  refine X_sub (lv' := [(4, .int y4), (0, .ref b), (1, .ref (ga G 10 0)), (2, .ref (ga G 11 0)), (3, .ref (ga G 9000 0))]) [0, 1, 2, 3, 4] rfl ?_
  exact wL_law_2690 hG C hl0 hX hbl hbA hNc hQf hA9 hc9 hs9 hc0 hs0 hL23 M y4 h
set_option maxRecDepth 100000 in
set_option maxHeartbeats 400000 in
theorem wL_law_422 {Γ : Gam} {G : Gm} {Qf : State → Prop} {xs : Nat → Int32} {b L ce sl : Nat} (hG : Gd G) (C : Cx Γ G cL_law 7 RL (some .boolean) room_1) (hl0 : (gl Γ).stackTraces = false) (hX : va_X b L xs (gs Γ) (gs Γ).heap) (hbl : b < (gs Γ).heap.size) (hbA : ¬ gA G b) (hNc : va_Nc EI EN (gs Γ)) (hQf : (gar Γ) = #[Value.ref b] ∧ Qf = lw_Z (gbe Γ) #[Value.ref b] (gs Γ)) (hA9 : ∀ q, gA G q → (gs Γ).heap.size ≤ q) (hc9 : ce + 8 ≤ room_1.cells) (hs9 : sl + 48 ≤ room_1.slots) (hc0 : ce ≤ room_1.cells) (hs0 : sl ≤ room_1.slots) {L23 : Mem × Int32 → Prop} (hL23 : ∀ s, L23 s → X Γ G Qf 7 (ce + 8) (sl + 48) 23 [(4, .int s.2), (0, .ref b), (1, .ref (ga G 10 0)), (2, .ref (ga G 11 0)), (3, .ref (ga G 9000 0))] [] s.1) (M : Mem) (y4 : Int32) (h : bL_law_422 xs L L23 M y4) : X Γ G Qf 7 (ce + 0) (sl + 0) 422 [(4, .int y4), (0, .ref b), (1, .ref (ga G 10 0)), (2, .ref (ga G 11 0)), (3, .ref (ga G 9000 0))] [] M := by
  unfold bL_law_422 at h
  refine x_aload_n C dL_law_422 2 rfl ?_
  refine x_aload_n C dL_law_423 1 rfl ?_
  refine x_iload C dL_law_424 0 rfl ?_
  refine x_iconst (v := 1) C dL_law_426 rfl ?_
  refine x_iadd C dL_law_427 ?_
  obtain ⟨f421, h⟩ := h
  refine x_sld C hX hbl hbA f421 dL_law_428 ?_
  refine x_aload_n C dL_law_429 4 rfl ?_
  refine x_lcall (rest := []) (ce1 := ce + 1) (sl1 := sl + 6) C sl_L_150 hNc (kL_find hG hl0 _ _ h) rfl rfl (Nat.le_of_ble_eq_true rfl) ⟨Nat.le_of_ble_eq_true rfl, Nat.le_of_ble_eq_true rfl⟩ rfl rfl ⟨Nat.le_trans (Nat.add_le_add_left (Nat.le_of_ble_eq_true rfl) ce) hc9, Nat.le_trans (Nat.add_le_add_left (Nat.le_of_ble_eq_true rfl) sl) hs9⟩ dL_law_430 (fun r422 M423 h => ?_)
  refine x_istore (lv' := [(5, .int r422), (4, .int y4), (0, .ref b), (1, .ref (ga G 10 0)), (2, .ref (ga G 11 0)), (3, .ref (ga G 9000 0))]) C dL_law_433 (Nat.le_of_ble_eq_true rfl) rfl ?_
  refine x_aload_n C dL_law_435 4 rfl ?_
  refine x_aload_n C dL_law_436 2 rfl ?_
  refine x_iload C dL_law_437 1 rfl ?_
  refine x_iconst (v := 1) C dL_law_439 rfl ?_
  refine x_iadd C dL_law_440 ?_
  refine x_sld C hX hbl hbA f421 dL_law_441 ?_
  refine x_calli (rest := []) (ce1 := ce + 1) (sl1 := sl + 6) C sv_L_152 ob11 z11 (kX11_find hG _ _ h) rfl rfl (Nat.le_of_ble_eq_true rfl) ⟨Nat.le_of_ble_eq_true rfl, Nat.le_of_ble_eq_true rfl⟩ rfl rfl ⟨Nat.le_trans (Nat.add_le_add_left (Nat.le_of_ble_eq_true rfl) ce) hc9, Nat.le_trans (Nat.add_le_add_left (Nat.le_of_ble_eq_true rfl) sl) hs9⟩ dL_law_442 (fun r424 M425 h => ?_)
  refine x_istore (lv' := [(6, .int r424), (5, .int r422), (4, .int y4), (0, .ref b), (1, .ref (ga G 10 0)), (2, .ref (ga G 11 0)), (3, .ref (ga G 9000 0))]) C dL_law_445 (Nat.le_of_ble_eq_true rfl) rfl ?_
  refine x_aload_n C dL_law_447 5 rfl ?_
  refine x_calli (rest := []) (ce1 := ce + 1) (sl1 := sl + 6) C sv_L_139 ob11 z11 (kX11_thrown hG _ h) rfl rfl (Nat.le_of_ble_eq_true rfl) ⟨Nat.le_of_ble_eq_true rfl, Nat.le_of_ble_eq_true rfl⟩ rfl rfl ⟨Nat.le_trans (Nat.add_le_add_left (Nat.le_of_ble_eq_true rfl) ce) hc9, Nat.le_trans (Nat.add_le_add_left (Nat.le_of_ble_eq_true rfl) sl) hs9⟩ dL_law_448 (fun r426 M427 h => ?_)
  refine x_iload C dL_law_451 1 rfl ?_
  refine x_icmp_eq (tgt := 458) C dL_law_453 (by decide) (fun c428 => ?_) (fun c428 => ?_)
  · replace h := h.1 c428
    refine x_iload C dL_law_458 1 rfl ?_
    refine x_if_ne (tgt := 475) C dL_law_460 (by decide) (fun c429 => ?_) (fun c429 => ?_)
    · replace h := h.1 c429
      refine X_sub (lv' := [(4, .int y4), (0, .ref b), (1, .ref (ga G 10 0)), (2, .ref (ga G 11 0)), (3, .ref (ga G 9000 0))]) [2, 3, 4, 5, 6] rfl ?_
      exact wL_law_475 hG C hl0 hX hbl hbA hNc hQf hA9 hc9 hs9 hc0 hs0 hL23 M427 y4 h
    · replace h := h.2 c429
      refine x_aload_n C dL_law_463 6 rfl ?_
      refine x_iconst (v := 0) C dL_law_464 rfl ?_
      refine al_9000 C z9000 (vp_l (by decide)) dL_law_465 ?_
      refine x_iload C dL_law_466 0 rfl ?_
      refine x_i2l C dL_law_468 ?_
      refine x_lcmp C dL_law_469 ?_
      refine x_if_eq (tgt := 475) C dL_law_470 (by decide) (fun c430 => ?_) (fun c430 => ?_)
      · replace h := h.1 c430
        refine X_sub (lv' := [(4, .int y4), (0, .ref b), (1, .ref (ga G 10 0)), (2, .ref (ga G 11 0)), (3, .ref (ga G 9000 0))]) [2, 3, 4, 5, 6] rfl ?_
        exact wL_law_475 hG C hl0 hX hbl hbA hNc hQf hA9 hc9 hs9 hc0 hs0 hL23 M427 y4 h
      · replace h := h.2 c430
        refine x_iconst (v := 0) C dL_law_473 rfl ?_
        exact h.elim
  · replace h := h.2 c428
    refine x_iconst (v := 0) C dL_law_456 rfl ?_
    exact h.elim
set_option maxRecDepth 100000 in
set_option maxHeartbeats 400000 in
theorem wL_law_531 {Γ : Gam} {G : Gm} {Qf : State → Prop} {xs : Nat → Int32} {b L ce sl : Nat} (hG : Gd G) (C : Cx Γ G cL_law 7 RL (some .boolean) room_1) (hl0 : (gl Γ).stackTraces = false) (hX : va_X b L xs (gs Γ) (gs Γ).heap) (hbl : b < (gs Γ).heap.size) (hbA : ¬ gA G b) (hNc : va_Nc EI EN (gs Γ)) (hQf : (gar Γ) = #[Value.ref b] ∧ Qf = lw_Z (gbe Γ) #[Value.ref b] (gs Γ)) (hA9 : ∀ q, gA G q → (gs Γ).heap.size ≤ q) (hc9 : ce + 8 ≤ room_1.cells) (hs9 : sl + 48 ≤ room_1.slots) (hc0 : ce ≤ room_1.cells) (hs0 : sl ≤ room_1.slots) {L23 : Mem × Int32 → Prop} (hL23 : ∀ s, L23 s → X Γ G Qf 7 (ce + 8) (sl + 48) 23 [(4, .int s.2), (0, .ref b), (1, .ref (ga G 10 0)), (2, .ref (ga G 11 0)), (3, .ref (ga G 9000 0))] [] s.1) (M : Mem) (y4 : Int32) (h : bL_law_531 xs L L23 M y4) : X Γ G Qf 7 (ce + 2) (sl + 12) 531 [(4, .int y4), (0, .ref b), (1, .ref (ga G 10 0)), (2, .ref (ga G 11 0)), (3, .ref (ga G 9000 0))] [] M := by
  unfold bL_law_531 at h
  refine x_goto (tgt := 2690) C dL_law_531 (by decide) ?_
  refine X_widen (c1 := ce + 4) (s1 := sl + 24) (Nat.add_le_add_left (Nat.le_of_ble_eq_true rfl) ce) (Nat.add_le_add_left (Nat.le_of_ble_eq_true rfl) sl) ?_
  refine X_sub (lv' := [(4, .int y4), (0, .ref b), (1, .ref (ga G 10 0)), (2, .ref (ga G 11 0)), (3, .ref (ga G 9000 0))]) [0, 1, 2, 3, 4] rfl ?_
  exact wL_law_2690 hG C hl0 hX hbl hbA hNc hQf hA9 hc9 hs9 hc0 hs0 hL23 M y4 h
set_option maxRecDepth 100000 in
set_option maxHeartbeats 400000 in
theorem wL_law_478 {Γ : Gam} {G : Gm} {Qf : State → Prop} {xs : Nat → Int32} {b L ce sl : Nat} (hG : Gd G) (C : Cx Γ G cL_law 7 RL (some .boolean) room_1) (hl0 : (gl Γ).stackTraces = false) (hX : va_X b L xs (gs Γ) (gs Γ).heap) (hbl : b < (gs Γ).heap.size) (hbA : ¬ gA G b) (hNc : va_Nc EI EN (gs Γ)) (hQf : (gar Γ) = #[Value.ref b] ∧ Qf = lw_Z (gbe Γ) #[Value.ref b] (gs Γ)) (hA9 : ∀ q, gA G q → (gs Γ).heap.size ≤ q) (hc9 : ce + 8 ≤ room_1.cells) (hs9 : sl + 48 ≤ room_1.slots) (hc0 : ce ≤ room_1.cells) (hs0 : sl ≤ room_1.slots) {L23 : Mem × Int32 → Prop} (hL23 : ∀ s, L23 s → X Γ G Qf 7 (ce + 8) (sl + 48) 23 [(4, .int s.2), (0, .ref b), (1, .ref (ga G 10 0)), (2, .ref (ga G 11 0)), (3, .ref (ga G 9000 0))] [] s.1) (M : Mem) (y4 : Int32) (h : bL_law_478 xs L L23 M y4) : X Γ G Qf 7 (ce + 0) (sl + 0) 478 [(4, .int y4), (0, .ref b), (1, .ref (ga G 10 0)), (2, .ref (ga G 11 0)), (3, .ref (ga G 9000 0))] [] M := by
  unfold bL_law_478 at h
  refine x_aload_n C dL_law_478 2 rfl ?_
  refine x_aload_n C dL_law_479 1 rfl ?_
  refine x_iload C dL_law_480 0 rfl ?_
  refine x_iconst (v := 1) C dL_law_482 rfl ?_
  refine x_iadd C dL_law_483 ?_
  obtain ⟨f411, h⟩ := h
  refine x_sld C hX hbl hbA f411 dL_law_484 ?_
  refine x_aload_n C dL_law_485 4 rfl ?_
  refine x_lcall (rest := []) (ce1 := ce + 2) (sl1 := sl + 12) C sl_L_153 hNc (kL_remove hG hl0 _ _ h) rfl rfl (Nat.le_of_ble_eq_true rfl) ⟨Nat.le_of_ble_eq_true rfl, Nat.le_of_ble_eq_true rfl⟩ rfl rfl ⟨Nat.le_trans (Nat.add_le_add_left (Nat.le_of_ble_eq_true rfl) ce) hc9, Nat.le_trans (Nat.add_le_add_left (Nat.le_of_ble_eq_true rfl) sl) hs9⟩ dL_law_486 (fun r412 M413 h => ?_)
  refine x_istore (lv' := [(5, .int r412), (4, .int y4), (0, .ref b), (1, .ref (ga G 10 0)), (2, .ref (ga G 11 0)), (3, .ref (ga G 9000 0))]) C dL_law_489 (Nat.le_of_ble_eq_true rfl) rfl ?_
  refine x_aload_n C dL_law_491 4 rfl ?_
  refine x_aload_n C dL_law_492 2 rfl ?_
  refine x_iload C dL_law_493 1 rfl ?_
  refine x_iconst (v := 1) C dL_law_495 rfl ?_
  refine x_iadd C dL_law_496 ?_
  refine x_sld C hX hbl hbA f411 dL_law_497 ?_
  refine x_calli (rest := []) (ce1 := ce + 2) (sl1 := sl + 12) C sv_L_155 ob11 z11 (kX11_remove hG _ _ h) rfl rfl (Nat.le_of_ble_eq_true rfl) ⟨Nat.le_of_ble_eq_true rfl, Nat.le_of_ble_eq_true rfl⟩ rfl rfl ⟨Nat.le_trans (Nat.add_le_add_left (Nat.le_of_ble_eq_true rfl) ce) hc9, Nat.le_trans (Nat.add_le_add_left (Nat.le_of_ble_eq_true rfl) sl) hs9⟩ dL_law_498 (fun r414 M415 h => ?_)
  refine x_istore (lv' := [(6, .int r414), (5, .int r412), (4, .int y4), (0, .ref b), (1, .ref (ga G 10 0)), (2, .ref (ga G 11 0)), (3, .ref (ga G 9000 0))]) C dL_law_501 (Nat.le_of_ble_eq_true rfl) rfl ?_
  refine x_aload_n C dL_law_503 5 rfl ?_
  refine x_calli (rest := []) (ce1 := ce + 2) (sl1 := sl + 12) C sv_L_139 ob11 z11 (kX11_thrown hG _ h) rfl rfl (Nat.le_of_ble_eq_true rfl) ⟨Nat.le_of_ble_eq_true rfl, Nat.le_of_ble_eq_true rfl⟩ rfl rfl ⟨Nat.le_trans (Nat.add_le_add_left (Nat.le_of_ble_eq_true rfl) ce) hc9, Nat.le_trans (Nat.add_le_add_left (Nat.le_of_ble_eq_true rfl) sl) hs9⟩ dL_law_504 (fun r416 M417 h => ?_)
  refine x_iload C dL_law_507 1 rfl ?_
  refine x_icmp_eq (tgt := 514) C dL_law_509 (by decide) (fun c418 => ?_) (fun c418 => ?_)
  · replace h := h.1 c418
    refine x_iload C dL_law_514 1 rfl ?_
    refine x_if_ne (tgt := 531) C dL_law_516 (by decide) (fun c419 => ?_) (fun c419 => ?_)
    · replace h := h.1 c419
      refine X_sub (lv' := [(4, .int y4), (0, .ref b), (1, .ref (ga G 10 0)), (2, .ref (ga G 11 0)), (3, .ref (ga G 9000 0))]) [2, 3, 4, 5, 6] rfl ?_
      exact wL_law_531 hG C hl0 hX hbl hbA hNc hQf hA9 hc9 hs9 hc0 hs0 hL23 M417 y4 h
    · replace h := h.2 c419
      refine x_aload_n C dL_law_519 6 rfl ?_
      refine x_iconst (v := 0) C dL_law_520 rfl ?_
      refine al_9000 C z9000 (vp_l (by decide)) dL_law_521 ?_
      refine x_iload C dL_law_522 0 rfl ?_
      refine x_i2l C dL_law_524 ?_
      refine x_lcmp C dL_law_525 ?_
      refine x_if_eq (tgt := 531) C dL_law_526 (by decide) (fun c420 => ?_) (fun c420 => ?_)
      · replace h := h.1 c420
        refine X_sub (lv' := [(4, .int y4), (0, .ref b), (1, .ref (ga G 10 0)), (2, .ref (ga G 11 0)), (3, .ref (ga G 9000 0))]) [2, 3, 4, 5, 6] rfl ?_
        exact wL_law_531 hG C hl0 hX hbl hbA hNc hQf hA9 hc9 hs9 hc0 hs0 hL23 M417 y4 h
      · replace h := h.2 c420
        refine x_iconst (v := 0) C dL_law_529 rfl ?_
        exact h.elim
  · replace h := h.2 c418
    refine x_iconst (v := 0) C dL_law_512 rfl ?_
    exact h.elim
set_option maxRecDepth 100000 in
set_option maxHeartbeats 400000 in
theorem wL_law_587 {Γ : Gam} {G : Gm} {Qf : State → Prop} {xs : Nat → Int32} {b L ce sl : Nat} (hG : Gd G) (C : Cx Γ G cL_law 7 RL (some .boolean) room_1) (hl0 : (gl Γ).stackTraces = false) (hX : va_X b L xs (gs Γ) (gs Γ).heap) (hbl : b < (gs Γ).heap.size) (hbA : ¬ gA G b) (hNc : va_Nc EI EN (gs Γ)) (hQf : (gar Γ) = #[Value.ref b] ∧ Qf = lw_Z (gbe Γ) #[Value.ref b] (gs Γ)) (hA9 : ∀ q, gA G q → (gs Γ).heap.size ≤ q) (hc9 : ce + 8 ≤ room_1.cells) (hs9 : sl + 48 ≤ room_1.slots) (hc0 : ce ≤ room_1.cells) (hs0 : sl ≤ room_1.slots) {L23 : Mem × Int32 → Prop} (hL23 : ∀ s, L23 s → X Γ G Qf 7 (ce + 8) (sl + 48) 23 [(4, .int s.2), (0, .ref b), (1, .ref (ga G 10 0)), (2, .ref (ga G 11 0)), (3, .ref (ga G 9000 0))] [] s.1) (M : Mem) (y4 : Int32) (h : bL_law_587 xs L L23 M y4) : X Γ G Qf 7 (ce + 1) (sl + 6) 587 [(4, .int y4), (0, .ref b), (1, .ref (ga G 10 0)), (2, .ref (ga G 11 0)), (3, .ref (ga G 9000 0))] [] M := by
  unfold bL_law_587 at h
  refine x_goto (tgt := 2690) C dL_law_587 (by decide) ?_
  refine X_widen (c1 := ce + 4) (s1 := sl + 24) (Nat.add_le_add_left (Nat.le_of_ble_eq_true rfl) ce) (Nat.add_le_add_left (Nat.le_of_ble_eq_true rfl) sl) ?_
  refine X_sub (lv' := [(4, .int y4), (0, .ref b), (1, .ref (ga G 10 0)), (2, .ref (ga G 11 0)), (3, .ref (ga G 9000 0))]) [0, 1, 2, 3, 4] rfl ?_
  exact wL_law_2690 hG C hl0 hX hbl hbA hNc hQf hA9 hc9 hs9 hc0 hs0 hL23 M y4 h
set_option maxRecDepth 100000 in
set_option maxHeartbeats 400000 in
theorem wL_law_534 {Γ : Gam} {G : Gm} {Qf : State → Prop} {xs : Nat → Int32} {b L ce sl : Nat} (hG : Gd G) (C : Cx Γ G cL_law 7 RL (some .boolean) room_1) (hl0 : (gl Γ).stackTraces = false) (hX : va_X b L xs (gs Γ) (gs Γ).heap) (hbl : b < (gs Γ).heap.size) (hbA : ¬ gA G b) (hNc : va_Nc EI EN (gs Γ)) (hQf : (gar Γ) = #[Value.ref b] ∧ Qf = lw_Z (gbe Γ) #[Value.ref b] (gs Γ)) (hA9 : ∀ q, gA G q → (gs Γ).heap.size ≤ q) (hc9 : ce + 8 ≤ room_1.cells) (hs9 : sl + 48 ≤ room_1.slots) (hc0 : ce ≤ room_1.cells) (hs0 : sl ≤ room_1.slots) {L23 : Mem × Int32 → Prop} (hL23 : ∀ s, L23 s → X Γ G Qf 7 (ce + 8) (sl + 48) 23 [(4, .int s.2), (0, .ref b), (1, .ref (ga G 10 0)), (2, .ref (ga G 11 0)), (3, .ref (ga G 9000 0))] [] s.1) (M : Mem) (y4 : Int32) (h : bL_law_534 xs L L23 M y4) : X Γ G Qf 7 (ce + 0) (sl + 0) 534 [(4, .int y4), (0, .ref b), (1, .ref (ga G 10 0)), (2, .ref (ga G 11 0)), (3, .ref (ga G 9000 0))] [] M := by
  unfold bL_law_534 at h
  refine x_aload_n C dL_law_534 2 rfl ?_
  refine x_aload_n C dL_law_535 1 rfl ?_
  refine x_iload C dL_law_536 0 rfl ?_
  refine x_iconst (v := 1) C dL_law_538 rfl ?_
  refine x_iadd C dL_law_539 ?_
  obtain ⟨f401, h⟩ := h
  refine x_sld C hX hbl hbA f401 dL_law_540 ?_
  refine x_aload_n C dL_law_541 4 rfl ?_
  refine x_lcall (rest := []) (ce1 := ce + 1) (sl1 := sl + 6) C sl_L_156 hNc (kL_repack hG hl0 _ _ h) rfl rfl (Nat.le_of_ble_eq_true rfl) ⟨Nat.le_of_ble_eq_true rfl, Nat.le_of_ble_eq_true rfl⟩ rfl rfl ⟨Nat.le_trans (Nat.add_le_add_left (Nat.le_of_ble_eq_true rfl) ce) hc9, Nat.le_trans (Nat.add_le_add_left (Nat.le_of_ble_eq_true rfl) sl) hs9⟩ dL_law_542 (fun r402 M403 h => ?_)
  refine x_istore (lv' := [(5, .int r402), (4, .int y4), (0, .ref b), (1, .ref (ga G 10 0)), (2, .ref (ga G 11 0)), (3, .ref (ga G 9000 0))]) C dL_law_545 (Nat.le_of_ble_eq_true rfl) rfl ?_
  refine x_aload_n C dL_law_547 4 rfl ?_
  refine x_aload_n C dL_law_548 2 rfl ?_
  refine x_iload C dL_law_549 1 rfl ?_
  refine x_iconst (v := 1) C dL_law_551 rfl ?_
  refine x_iadd C dL_law_552 ?_
  refine x_sld C hX hbl hbA f401 dL_law_553 ?_
  refine x_calli (rest := []) (ce1 := ce + 1) (sl1 := sl + 6) C sv_L_158 ob11 z11 (kX11_repack hG _ _ h) rfl rfl (Nat.le_of_ble_eq_true rfl) ⟨Nat.le_of_ble_eq_true rfl, Nat.le_of_ble_eq_true rfl⟩ rfl rfl ⟨Nat.le_trans (Nat.add_le_add_left (Nat.le_of_ble_eq_true rfl) ce) hc9, Nat.le_trans (Nat.add_le_add_left (Nat.le_of_ble_eq_true rfl) sl) hs9⟩ dL_law_554 (fun r404 M405 h => ?_)
  refine x_istore (lv' := [(6, .int r404), (5, .int r402), (4, .int y4), (0, .ref b), (1, .ref (ga G 10 0)), (2, .ref (ga G 11 0)), (3, .ref (ga G 9000 0))]) C dL_law_557 (Nat.le_of_ble_eq_true rfl) rfl ?_
  refine x_aload_n C dL_law_559 5 rfl ?_
  refine x_calli (rest := []) (ce1 := ce + 1) (sl1 := sl + 6) C sv_L_139 ob11 z11 (kX11_thrown hG _ h) rfl rfl (Nat.le_of_ble_eq_true rfl) ⟨Nat.le_of_ble_eq_true rfl, Nat.le_of_ble_eq_true rfl⟩ rfl rfl ⟨Nat.le_trans (Nat.add_le_add_left (Nat.le_of_ble_eq_true rfl) ce) hc9, Nat.le_trans (Nat.add_le_add_left (Nat.le_of_ble_eq_true rfl) sl) hs9⟩ dL_law_560 (fun r406 M407 h => ?_)
  refine x_iload C dL_law_563 1 rfl ?_
  refine x_icmp_eq (tgt := 570) C dL_law_565 (by decide) (fun c408 => ?_) (fun c408 => ?_)
  · replace h := h.1 c408
    refine x_iload C dL_law_570 1 rfl ?_
    refine x_if_ne (tgt := 587) C dL_law_572 (by decide) (fun c409 => ?_) (fun c409 => ?_)
    · replace h := h.1 c409
      refine X_sub (lv' := [(4, .int y4), (0, .ref b), (1, .ref (ga G 10 0)), (2, .ref (ga G 11 0)), (3, .ref (ga G 9000 0))]) [2, 3, 4, 5, 6] rfl ?_
      exact wL_law_587 hG C hl0 hX hbl hbA hNc hQf hA9 hc9 hs9 hc0 hs0 hL23 M407 y4 h
    · replace h := h.2 c409
      refine x_aload_n C dL_law_575 6 rfl ?_
      refine x_iconst (v := 0) C dL_law_576 rfl ?_
      refine al_9000 C z9000 (vp_l (by decide)) dL_law_577 ?_
      refine x_iload C dL_law_578 0 rfl ?_
      refine x_i2l C dL_law_580 ?_
      refine x_lcmp C dL_law_581 ?_
      refine x_if_eq (tgt := 587) C dL_law_582 (by decide) (fun c410 => ?_) (fun c410 => ?_)
      · replace h := h.1 c410
        refine X_sub (lv' := [(4, .int y4), (0, .ref b), (1, .ref (ga G 10 0)), (2, .ref (ga G 11 0)), (3, .ref (ga G 9000 0))]) [2, 3, 4, 5, 6] rfl ?_
        exact wL_law_587 hG C hl0 hX hbl hbA hNc hQf hA9 hc9 hs9 hc0 hs0 hL23 M407 y4 h
      · replace h := h.2 c410
        refine x_iconst (v := 0) C dL_law_585 rfl ?_
        exact h.elim
  · replace h := h.2 c408
    refine x_iconst (v := 0) C dL_law_568 rfl ?_
    exact h.elim
set_option maxRecDepth 100000 in
set_option maxHeartbeats 400000 in
theorem wL_law_643 {Γ : Gam} {G : Gm} {Qf : State → Prop} {xs : Nat → Int32} {b L ce sl : Nat} (hG : Gd G) (C : Cx Γ G cL_law 7 RL (some .boolean) room_1) (hl0 : (gl Γ).stackTraces = false) (hX : va_X b L xs (gs Γ) (gs Γ).heap) (hbl : b < (gs Γ).heap.size) (hbA : ¬ gA G b) (hNc : va_Nc EI EN (gs Γ)) (hQf : (gar Γ) = #[Value.ref b] ∧ Qf = lw_Z (gbe Γ) #[Value.ref b] (gs Γ)) (hA9 : ∀ q, gA G q → (gs Γ).heap.size ≤ q) (hc9 : ce + 8 ≤ room_1.cells) (hs9 : sl + 48 ≤ room_1.slots) (hc0 : ce ≤ room_1.cells) (hs0 : sl ≤ room_1.slots) {L23 : Mem × Int32 → Prop} (hL23 : ∀ s, L23 s → X Γ G Qf 7 (ce + 8) (sl + 48) 23 [(4, .int s.2), (0, .ref b), (1, .ref (ga G 10 0)), (2, .ref (ga G 11 0)), (3, .ref (ga G 9000 0))] [] s.1) (M : Mem) (y4 : Int32) (h : bL_law_643 xs L L23 M y4) : X Γ G Qf 7 (ce + 1) (sl + 6) 643 [(4, .int y4), (0, .ref b), (1, .ref (ga G 10 0)), (2, .ref (ga G 11 0)), (3, .ref (ga G 9000 0))] [] M := by
  unfold bL_law_643 at h
  refine x_goto (tgt := 2690) C dL_law_643 (by decide) ?_
  refine X_widen (c1 := ce + 4) (s1 := sl + 24) (Nat.add_le_add_left (Nat.le_of_ble_eq_true rfl) ce) (Nat.add_le_add_left (Nat.le_of_ble_eq_true rfl) sl) ?_
  refine X_sub (lv' := [(4, .int y4), (0, .ref b), (1, .ref (ga G 10 0)), (2, .ref (ga G 11 0)), (3, .ref (ga G 9000 0))]) [0, 1, 2, 3, 4] rfl ?_
  exact wL_law_2690 hG C hl0 hX hbl hbA hNc hQf hA9 hc9 hs9 hc0 hs0 hL23 M y4 h
set_option maxRecDepth 100000 in
set_option maxHeartbeats 400000 in
theorem wL_law_590 {Γ : Gam} {G : Gm} {Qf : State → Prop} {xs : Nat → Int32} {b L ce sl : Nat} (hG : Gd G) (C : Cx Γ G cL_law 7 RL (some .boolean) room_1) (hl0 : (gl Γ).stackTraces = false) (hX : va_X b L xs (gs Γ) (gs Γ).heap) (hbl : b < (gs Γ).heap.size) (hbA : ¬ gA G b) (hNc : va_Nc EI EN (gs Γ)) (hQf : (gar Γ) = #[Value.ref b] ∧ Qf = lw_Z (gbe Γ) #[Value.ref b] (gs Γ)) (hA9 : ∀ q, gA G q → (gs Γ).heap.size ≤ q) (hc9 : ce + 8 ≤ room_1.cells) (hs9 : sl + 48 ≤ room_1.slots) (hc0 : ce ≤ room_1.cells) (hs0 : sl ≤ room_1.slots) {L23 : Mem × Int32 → Prop} (hL23 : ∀ s, L23 s → X Γ G Qf 7 (ce + 8) (sl + 48) 23 [(4, .int s.2), (0, .ref b), (1, .ref (ga G 10 0)), (2, .ref (ga G 11 0)), (3, .ref (ga G 9000 0))] [] s.1) (M : Mem) (y4 : Int32) (h : bL_law_590 xs L L23 M y4) : X Γ G Qf 7 (ce + 0) (sl + 0) 590 [(4, .int y4), (0, .ref b), (1, .ref (ga G 10 0)), (2, .ref (ga G 11 0)), (3, .ref (ga G 9000 0))] [] M := by
  unfold bL_law_590 at h
  refine x_aload_n C dL_law_590 2 rfl ?_
  refine x_aload_n C dL_law_591 1 rfl ?_
  refine x_iload C dL_law_592 0 rfl ?_
  refine x_iconst (v := 1) C dL_law_594 rfl ?_
  refine x_iadd C dL_law_595 ?_
  obtain ⟨f391, h⟩ := h
  refine x_sld C hX hbl hbA f391 dL_law_596 ?_
  refine x_aload_n C dL_law_597 4 rfl ?_
  refine x_lcall (rest := []) (ce1 := ce + 1) (sl1 := sl + 6) C sl_L_159 hNc (kL_told hG hl0 _ _ h) rfl rfl (Nat.le_of_ble_eq_true rfl) ⟨Nat.le_of_ble_eq_true rfl, Nat.le_of_ble_eq_true rfl⟩ rfl rfl ⟨Nat.le_trans (Nat.add_le_add_left (Nat.le_of_ble_eq_true rfl) ce) hc9, Nat.le_trans (Nat.add_le_add_left (Nat.le_of_ble_eq_true rfl) sl) hs9⟩ dL_law_598 (fun r392 M393 h => ?_)
  refine x_istore (lv' := [(5, .int r392), (4, .int y4), (0, .ref b), (1, .ref (ga G 10 0)), (2, .ref (ga G 11 0)), (3, .ref (ga G 9000 0))]) C dL_law_601 (Nat.le_of_ble_eq_true rfl) rfl ?_
  refine x_aload_n C dL_law_603 4 rfl ?_
  refine x_aload_n C dL_law_604 2 rfl ?_
  refine x_iload C dL_law_605 1 rfl ?_
  refine x_iconst (v := 1) C dL_law_607 rfl ?_
  refine x_iadd C dL_law_608 ?_
  refine x_sld C hX hbl hbA f391 dL_law_609 ?_
  refine x_calli (rest := []) (ce1 := ce + 1) (sl1 := sl + 6) C sv_L_161 ob11 z11 (kX11_told hG _ _ h) rfl rfl (Nat.le_of_ble_eq_true rfl) ⟨Nat.le_of_ble_eq_true rfl, Nat.le_of_ble_eq_true rfl⟩ rfl rfl ⟨Nat.le_trans (Nat.add_le_add_left (Nat.le_of_ble_eq_true rfl) ce) hc9, Nat.le_trans (Nat.add_le_add_left (Nat.le_of_ble_eq_true rfl) sl) hs9⟩ dL_law_610 (fun r394 M395 h => ?_)
  refine x_istore (lv' := [(6, .int r394), (5, .int r392), (4, .int y4), (0, .ref b), (1, .ref (ga G 10 0)), (2, .ref (ga G 11 0)), (3, .ref (ga G 9000 0))]) C dL_law_613 (Nat.le_of_ble_eq_true rfl) rfl ?_
  refine x_aload_n C dL_law_615 5 rfl ?_
  refine x_calli (rest := []) (ce1 := ce + 1) (sl1 := sl + 6) C sv_L_139 ob11 z11 (kX11_thrown hG _ h) rfl rfl (Nat.le_of_ble_eq_true rfl) ⟨Nat.le_of_ble_eq_true rfl, Nat.le_of_ble_eq_true rfl⟩ rfl rfl ⟨Nat.le_trans (Nat.add_le_add_left (Nat.le_of_ble_eq_true rfl) ce) hc9, Nat.le_trans (Nat.add_le_add_left (Nat.le_of_ble_eq_true rfl) sl) hs9⟩ dL_law_616 (fun r396 M397 h => ?_)
  refine x_iload C dL_law_619 1 rfl ?_
  refine x_icmp_eq (tgt := 626) C dL_law_621 (by decide) (fun c398 => ?_) (fun c398 => ?_)
  · replace h := h.1 c398
    refine x_iload C dL_law_626 1 rfl ?_
    refine x_if_ne (tgt := 643) C dL_law_628 (by decide) (fun c399 => ?_) (fun c399 => ?_)
    · replace h := h.1 c399
      refine X_sub (lv' := [(4, .int y4), (0, .ref b), (1, .ref (ga G 10 0)), (2, .ref (ga G 11 0)), (3, .ref (ga G 9000 0))]) [2, 3, 4, 5, 6] rfl ?_
      exact wL_law_643 hG C hl0 hX hbl hbA hNc hQf hA9 hc9 hs9 hc0 hs0 hL23 M397 y4 h
    · replace h := h.2 c399
      refine x_aload_n C dL_law_631 6 rfl ?_
      refine x_iconst (v := 0) C dL_law_632 rfl ?_
      refine al_9000 C z9000 (vp_l (by decide)) dL_law_633 ?_
      refine x_iload C dL_law_634 0 rfl ?_
      refine x_i2l C dL_law_636 ?_
      refine x_lcmp C dL_law_637 ?_
      refine x_if_eq (tgt := 643) C dL_law_638 (by decide) (fun c400 => ?_) (fun c400 => ?_)
      · replace h := h.1 c400
        refine X_sub (lv' := [(4, .int y4), (0, .ref b), (1, .ref (ga G 10 0)), (2, .ref (ga G 11 0)), (3, .ref (ga G 9000 0))]) [2, 3, 4, 5, 6] rfl ?_
        exact wL_law_643 hG C hl0 hX hbl hbA hNc hQf hA9 hc9 hs9 hc0 hs0 hL23 M397 y4 h
      · replace h := h.2 c400
        refine x_iconst (v := 0) C dL_law_641 rfl ?_
        exact h.elim
  · replace h := h.2 c398
    refine x_iconst (v := 0) C dL_law_624 rfl ?_
    exact h.elim
set_option maxRecDepth 100000 in
set_option maxHeartbeats 400000 in
theorem wL_law_711 {Γ : Gam} {G : Gm} {Qf : State → Prop} {xs : Nat → Int32} {b L ce sl : Nat} (hG : Gd G) (C : Cx Γ G cL_law 7 RL (some .boolean) room_1) (hl0 : (gl Γ).stackTraces = false) (hX : va_X b L xs (gs Γ) (gs Γ).heap) (hbl : b < (gs Γ).heap.size) (hbA : ¬ gA G b) (hNc : va_Nc EI EN (gs Γ)) (hQf : (gar Γ) = #[Value.ref b] ∧ Qf = lw_Z (gbe Γ) #[Value.ref b] (gs Γ)) (hA9 : ∀ q, gA G q → (gs Γ).heap.size ≤ q) (hc9 : ce + 8 ≤ room_1.cells) (hs9 : sl + 48 ≤ room_1.slots) (hc0 : ce ≤ room_1.cells) (hs0 : sl ≤ room_1.slots) {L23 : Mem × Int32 → Prop} (hL23 : ∀ s, L23 s → X Γ G Qf 7 (ce + 8) (sl + 48) 23 [(4, .int s.2), (0, .ref b), (1, .ref (ga G 10 0)), (2, .ref (ga G 11 0)), (3, .ref (ga G 9000 0))] [] s.1) (M : Mem) (y4 : Int32) (h : bL_law_711 xs L L23 M y4) : X Γ G Qf 7 (ce + 2) (sl + 12) 711 [(4, .int y4), (0, .ref b), (1, .ref (ga G 10 0)), (2, .ref (ga G 11 0)), (3, .ref (ga G 9000 0))] [] M := by
  unfold bL_law_711 at h
  refine x_goto (tgt := 2690) C dL_law_711 (by decide) ?_
  refine X_widen (c1 := ce + 4) (s1 := sl + 24) (Nat.add_le_add_left (Nat.le_of_ble_eq_true rfl) ce) (Nat.add_le_add_left (Nat.le_of_ble_eq_true rfl) sl) ?_
  refine X_sub (lv' := [(4, .int y4), (0, .ref b), (1, .ref (ga G 10 0)), (2, .ref (ga G 11 0)), (3, .ref (ga G 9000 0))]) [0, 1, 2, 3, 4] rfl ?_
  exact wL_law_2690 hG C hl0 hX hbl hbA hNc hQf hA9 hc9 hs9 hc0 hs0 hL23 M y4 h
set_option maxRecDepth 100000 in
set_option maxHeartbeats 400000 in
theorem wL_law_646 {Γ : Gam} {G : Gm} {Qf : State → Prop} {xs : Nat → Int32} {b L ce sl : Nat} (hG : Gd G) (C : Cx Γ G cL_law 7 RL (some .boolean) room_1) (hl0 : (gl Γ).stackTraces = false) (hX : va_X b L xs (gs Γ) (gs Γ).heap) (hbl : b < (gs Γ).heap.size) (hbA : ¬ gA G b) (hNc : va_Nc EI EN (gs Γ)) (hQf : (gar Γ) = #[Value.ref b] ∧ Qf = lw_Z (gbe Γ) #[Value.ref b] (gs Γ)) (hA9 : ∀ q, gA G q → (gs Γ).heap.size ≤ q) (hc9 : ce + 8 ≤ room_1.cells) (hs9 : sl + 48 ≤ room_1.slots) (hc0 : ce ≤ room_1.cells) (hs0 : sl ≤ room_1.slots) {L23 : Mem × Int32 → Prop} (hL23 : ∀ s, L23 s → X Γ G Qf 7 (ce + 8) (sl + 48) 23 [(4, .int s.2), (0, .ref b), (1, .ref (ga G 10 0)), (2, .ref (ga G 11 0)), (3, .ref (ga G 9000 0))] [] s.1) (M : Mem) (y4 : Int32) (h : bL_law_646 xs L L23 M y4) : X Γ G Qf 7 (ce + 0) (sl + 0) 646 [(4, .int y4), (0, .ref b), (1, .ref (ga G 10 0)), (2, .ref (ga G 11 0)), (3, .ref (ga G 9000 0))] [] M := by
  unfold bL_law_646 at h
  refine x_aload_n C dL_law_646 2 rfl ?_
  refine x_aload_n C dL_law_647 1 rfl ?_
  refine x_iload C dL_law_648 0 rfl ?_
  refine x_iconst (v := 1) C dL_law_650 rfl ?_
  refine x_iadd C dL_law_651 ?_
  obtain ⟨f380, h⟩ := h
  refine x_sld C hX hbl hbA f380 dL_law_652 ?_
  refine x_aload_n C dL_law_653 1 rfl ?_
  refine x_iload C dL_law_654 0 rfl ?_
  refine x_iconst (v := 2) C dL_law_656 rfl ?_
  refine x_iadd C dL_law_657 ?_
  obtain ⟨f381, h⟩ := h
  refine x_sld C hX hbl hbA f381 dL_law_658 ?_
  refine x_aload_n C dL_law_659 4 rfl ?_
  refine x_lcall (rest := []) (ce1 := ce + 2) (sl1 := sl + 12) C sl_L_162 hNc (kL_document hG hl0 _ _ _ h) rfl rfl (Nat.le_of_ble_eq_true rfl) ⟨Nat.le_of_ble_eq_true rfl, Nat.le_of_ble_eq_true rfl⟩ rfl rfl ⟨Nat.le_trans (Nat.add_le_add_left (Nat.le_of_ble_eq_true rfl) ce) hc9, Nat.le_trans (Nat.add_le_add_left (Nat.le_of_ble_eq_true rfl) sl) hs9⟩ dL_law_660 (fun r382 M383 h => ?_)
  refine x_istore (lv' := [(5, .int r382), (4, .int y4), (0, .ref b), (1, .ref (ga G 10 0)), (2, .ref (ga G 11 0)), (3, .ref (ga G 9000 0))]) C dL_law_663 (Nat.le_of_ble_eq_true rfl) rfl ?_
  refine x_aload_n C dL_law_665 4 rfl ?_
  refine x_aload_n C dL_law_666 2 rfl ?_
  refine x_iload C dL_law_667 1 rfl ?_
  refine x_iconst (v := 1) C dL_law_669 rfl ?_
  refine x_iadd C dL_law_670 ?_
  refine x_sld C hX hbl hbA f380 dL_law_671 ?_
  refine x_aload_n C dL_law_672 2 rfl ?_
  refine x_iload C dL_law_673 1 rfl ?_
  refine x_iconst (v := 2) C dL_law_675 rfl ?_
  refine x_iadd C dL_law_676 ?_
  refine x_sld C hX hbl hbA f381 dL_law_677 ?_
  refine x_calli (rest := []) (ce1 := ce + 2) (sl1 := sl + 12) C sv_L_165 ob11 z11 (kX11_document hG _ _ _ h) rfl rfl (Nat.le_of_ble_eq_true rfl) ⟨Nat.le_of_ble_eq_true rfl, Nat.le_of_ble_eq_true rfl⟩ rfl rfl ⟨Nat.le_trans (Nat.add_le_add_left (Nat.le_of_ble_eq_true rfl) ce) hc9, Nat.le_trans (Nat.add_le_add_left (Nat.le_of_ble_eq_true rfl) sl) hs9⟩ dL_law_678 (fun r384 M385 h => ?_)
  refine x_istore (lv' := [(6, .int r384), (5, .int r382), (4, .int y4), (0, .ref b), (1, .ref (ga G 10 0)), (2, .ref (ga G 11 0)), (3, .ref (ga G 9000 0))]) C dL_law_681 (Nat.le_of_ble_eq_true rfl) rfl ?_
  refine x_aload_n C dL_law_683 5 rfl ?_
  refine x_calli (rest := []) (ce1 := ce + 2) (sl1 := sl + 12) C sv_L_139 ob11 z11 (kX11_thrown hG _ h) rfl rfl (Nat.le_of_ble_eq_true rfl) ⟨Nat.le_of_ble_eq_true rfl, Nat.le_of_ble_eq_true rfl⟩ rfl rfl ⟨Nat.le_trans (Nat.add_le_add_left (Nat.le_of_ble_eq_true rfl) ce) hc9, Nat.le_trans (Nat.add_le_add_left (Nat.le_of_ble_eq_true rfl) sl) hs9⟩ dL_law_684 (fun r386 M387 h => ?_)
  refine x_iload C dL_law_687 1 rfl ?_
  refine x_icmp_eq (tgt := 694) C dL_law_689 (by decide) (fun c388 => ?_) (fun c388 => ?_)
  · replace h := h.1 c388
    refine x_iload C dL_law_694 1 rfl ?_
    refine x_if_ne (tgt := 711) C dL_law_696 (by decide) (fun c389 => ?_) (fun c389 => ?_)
    · replace h := h.1 c389
      refine X_sub (lv' := [(4, .int y4), (0, .ref b), (1, .ref (ga G 10 0)), (2, .ref (ga G 11 0)), (3, .ref (ga G 9000 0))]) [2, 3, 4, 5, 6] rfl ?_
      exact wL_law_711 hG C hl0 hX hbl hbA hNc hQf hA9 hc9 hs9 hc0 hs0 hL23 M387 y4 h
    · replace h := h.2 c389
      refine x_aload_n C dL_law_699 6 rfl ?_
      refine x_iconst (v := 0) C dL_law_700 rfl ?_
      refine al_9000 C z9000 (vp_l (by decide)) dL_law_701 ?_
      refine x_iload C dL_law_702 0 rfl ?_
      refine x_i2l C dL_law_704 ?_
      refine x_lcmp C dL_law_705 ?_
      refine x_if_eq (tgt := 711) C dL_law_706 (by decide) (fun c390 => ?_) (fun c390 => ?_)
      · replace h := h.1 c390
        refine X_sub (lv' := [(4, .int y4), (0, .ref b), (1, .ref (ga G 10 0)), (2, .ref (ga G 11 0)), (3, .ref (ga G 9000 0))]) [2, 3, 4, 5, 6] rfl ?_
        exact wL_law_711 hG C hl0 hX hbl hbA hNc hQf hA9 hc9 hs9 hc0 hs0 hL23 M387 y4 h
      · replace h := h.2 c390
        refine x_iconst (v := 0) C dL_law_709 rfl ?_
        exact h.elim
  · replace h := h.2 c388
    refine x_iconst (v := 0) C dL_law_692 rfl ?_
    exact h.elim
set_option maxRecDepth 100000 in
set_option maxHeartbeats 400000 in
theorem wL_law_779 {Γ : Gam} {G : Gm} {Qf : State → Prop} {xs : Nat → Int32} {b L ce sl : Nat} (hG : Gd G) (C : Cx Γ G cL_law 7 RL (some .boolean) room_1) (hl0 : (gl Γ).stackTraces = false) (hX : va_X b L xs (gs Γ) (gs Γ).heap) (hbl : b < (gs Γ).heap.size) (hbA : ¬ gA G b) (hNc : va_Nc EI EN (gs Γ)) (hQf : (gar Γ) = #[Value.ref b] ∧ Qf = lw_Z (gbe Γ) #[Value.ref b] (gs Γ)) (hA9 : ∀ q, gA G q → (gs Γ).heap.size ≤ q) (hc9 : ce + 8 ≤ room_1.cells) (hs9 : sl + 48 ≤ room_1.slots) (hc0 : ce ≤ room_1.cells) (hs0 : sl ≤ room_1.slots) {L23 : Mem × Int32 → Prop} (hL23 : ∀ s, L23 s → X Γ G Qf 7 (ce + 8) (sl + 48) 23 [(4, .int s.2), (0, .ref b), (1, .ref (ga G 10 0)), (2, .ref (ga G 11 0)), (3, .ref (ga G 9000 0))] [] s.1) (M : Mem) (y4 : Int32) (h : bL_law_779 xs L L23 M y4) : X Γ G Qf 7 (ce + 1) (sl + 6) 779 [(4, .int y4), (0, .ref b), (1, .ref (ga G 10 0)), (2, .ref (ga G 11 0)), (3, .ref (ga G 9000 0))] [] M := by
  unfold bL_law_779 at h
  refine x_goto (tgt := 2690) C dL_law_779 (by decide) ?_
  refine X_widen (c1 := ce + 4) (s1 := sl + 24) (Nat.add_le_add_left (Nat.le_of_ble_eq_true rfl) ce) (Nat.add_le_add_left (Nat.le_of_ble_eq_true rfl) sl) ?_
  refine X_sub (lv' := [(4, .int y4), (0, .ref b), (1, .ref (ga G 10 0)), (2, .ref (ga G 11 0)), (3, .ref (ga G 9000 0))]) [0, 1, 2, 3, 4] rfl ?_
  exact wL_law_2690 hG C hl0 hX hbl hbA hNc hQf hA9 hc9 hs9 hc0 hs0 hL23 M y4 h
set_option maxRecDepth 100000 in
set_option maxHeartbeats 400000 in
theorem wL_law_714 {Γ : Gam} {G : Gm} {Qf : State → Prop} {xs : Nat → Int32} {b L ce sl : Nat} (hG : Gd G) (C : Cx Γ G cL_law 7 RL (some .boolean) room_1) (hl0 : (gl Γ).stackTraces = false) (hX : va_X b L xs (gs Γ) (gs Γ).heap) (hbl : b < (gs Γ).heap.size) (hbA : ¬ gA G b) (hNc : va_Nc EI EN (gs Γ)) (hQf : (gar Γ) = #[Value.ref b] ∧ Qf = lw_Z (gbe Γ) #[Value.ref b] (gs Γ)) (hA9 : ∀ q, gA G q → (gs Γ).heap.size ≤ q) (hc9 : ce + 8 ≤ room_1.cells) (hs9 : sl + 48 ≤ room_1.slots) (hc0 : ce ≤ room_1.cells) (hs0 : sl ≤ room_1.slots) {L23 : Mem × Int32 → Prop} (hL23 : ∀ s, L23 s → X Γ G Qf 7 (ce + 8) (sl + 48) 23 [(4, .int s.2), (0, .ref b), (1, .ref (ga G 10 0)), (2, .ref (ga G 11 0)), (3, .ref (ga G 9000 0))] [] s.1) (M : Mem) (y4 : Int32) (h : bL_law_714 xs L L23 M y4) : X Γ G Qf 7 (ce + 0) (sl + 0) 714 [(4, .int y4), (0, .ref b), (1, .ref (ga G 10 0)), (2, .ref (ga G 11 0)), (3, .ref (ga G 9000 0))] [] M := by
  unfold bL_law_714 at h
  refine x_aload_n C dL_law_714 2 rfl ?_
  refine x_aload_n C dL_law_715 1 rfl ?_
  refine x_iload C dL_law_716 0 rfl ?_
  refine x_iconst (v := 1) C dL_law_718 rfl ?_
  refine x_iadd C dL_law_719 ?_
  obtain ⟨f369, h⟩ := h
  refine x_sld C hX hbl hbA f369 dL_law_720 ?_
  refine x_aload_n C dL_law_721 1 rfl ?_
  refine x_iload C dL_law_722 0 rfl ?_
  refine x_iconst (v := 2) C dL_law_724 rfl ?_
  refine x_iadd C dL_law_725 ?_
  obtain ⟨f370, h⟩ := h
  refine x_sld C hX hbl hbA f370 dL_law_726 ?_
  refine x_aload_n C dL_law_727 4 rfl ?_
  refine x_lcall (rest := []) (ce1 := ce + 1) (sl1 := sl + 6) C sl_L_166 hNc (kL_at hG hl0 _ _ _ h) rfl rfl (Nat.le_of_ble_eq_true rfl) ⟨Nat.le_of_ble_eq_true rfl, Nat.le_of_ble_eq_true rfl⟩ rfl rfl ⟨Nat.le_trans (Nat.add_le_add_left (Nat.le_of_ble_eq_true rfl) ce) hc9, Nat.le_trans (Nat.add_le_add_left (Nat.le_of_ble_eq_true rfl) sl) hs9⟩ dL_law_728 (fun r371 M372 h => ?_)
  refine x_istore (lv' := [(5, .int r371), (4, .int y4), (0, .ref b), (1, .ref (ga G 10 0)), (2, .ref (ga G 11 0)), (3, .ref (ga G 9000 0))]) C dL_law_731 (Nat.le_of_ble_eq_true rfl) rfl ?_
  refine x_aload_n C dL_law_733 4 rfl ?_
  refine x_aload_n C dL_law_734 2 rfl ?_
  refine x_iload C dL_law_735 1 rfl ?_
  refine x_iconst (v := 1) C dL_law_737 rfl ?_
  refine x_iadd C dL_law_738 ?_
  refine x_sld C hX hbl hbA f369 dL_law_739 ?_
  refine x_aload_n C dL_law_740 2 rfl ?_
  refine x_iload C dL_law_741 1 rfl ?_
  refine x_iconst (v := 2) C dL_law_743 rfl ?_
  refine x_iadd C dL_law_744 ?_
  refine x_sld C hX hbl hbA f370 dL_law_745 ?_
  refine x_calli (rest := []) (ce1 := ce + 1) (sl1 := sl + 6) C sv_L_168 ob11 z11 (kX11_at hG _ _ _ h) rfl rfl (Nat.le_of_ble_eq_true rfl) ⟨Nat.le_of_ble_eq_true rfl, Nat.le_of_ble_eq_true rfl⟩ rfl rfl ⟨Nat.le_trans (Nat.add_le_add_left (Nat.le_of_ble_eq_true rfl) ce) hc9, Nat.le_trans (Nat.add_le_add_left (Nat.le_of_ble_eq_true rfl) sl) hs9⟩ dL_law_746 (fun r373 M374 h => ?_)
  refine x_istore (lv' := [(6, .int r373), (5, .int r371), (4, .int y4), (0, .ref b), (1, .ref (ga G 10 0)), (2, .ref (ga G 11 0)), (3, .ref (ga G 9000 0))]) C dL_law_749 (Nat.le_of_ble_eq_true rfl) rfl ?_
  refine x_aload_n C dL_law_751 5 rfl ?_
  refine x_calli (rest := []) (ce1 := ce + 1) (sl1 := sl + 6) C sv_L_139 ob11 z11 (kX11_thrown hG _ h) rfl rfl (Nat.le_of_ble_eq_true rfl) ⟨Nat.le_of_ble_eq_true rfl, Nat.le_of_ble_eq_true rfl⟩ rfl rfl ⟨Nat.le_trans (Nat.add_le_add_left (Nat.le_of_ble_eq_true rfl) ce) hc9, Nat.le_trans (Nat.add_le_add_left (Nat.le_of_ble_eq_true rfl) sl) hs9⟩ dL_law_752 (fun r375 M376 h => ?_)
  refine x_iload C dL_law_755 1 rfl ?_
  refine x_icmp_eq (tgt := 762) C dL_law_757 (by decide) (fun c377 => ?_) (fun c377 => ?_)
  · replace h := h.1 c377
    refine x_iload C dL_law_762 1 rfl ?_
    refine x_if_ne (tgt := 779) C dL_law_764 (by decide) (fun c378 => ?_) (fun c378 => ?_)
    · replace h := h.1 c378
      refine X_sub (lv' := [(4, .int y4), (0, .ref b), (1, .ref (ga G 10 0)), (2, .ref (ga G 11 0)), (3, .ref (ga G 9000 0))]) [2, 3, 4, 5, 6] rfl ?_
      exact wL_law_779 hG C hl0 hX hbl hbA hNc hQf hA9 hc9 hs9 hc0 hs0 hL23 M376 y4 h
    · replace h := h.2 c378
      refine x_aload_n C dL_law_767 6 rfl ?_
      refine x_iconst (v := 0) C dL_law_768 rfl ?_
      refine al_9000 C z9000 (vp_l (by decide)) dL_law_769 ?_
      refine x_iload C dL_law_770 0 rfl ?_
      refine x_i2l C dL_law_772 ?_
      refine x_lcmp C dL_law_773 ?_
      refine x_if_eq (tgt := 779) C dL_law_774 (by decide) (fun c379 => ?_) (fun c379 => ?_)
      · replace h := h.1 c379
        refine X_sub (lv' := [(4, .int y4), (0, .ref b), (1, .ref (ga G 10 0)), (2, .ref (ga G 11 0)), (3, .ref (ga G 9000 0))]) [2, 3, 4, 5, 6] rfl ?_
        exact wL_law_779 hG C hl0 hX hbl hbA hNc hQf hA9 hc9 hs9 hc0 hs0 hL23 M376 y4 h
      · replace h := h.2 c379
        refine x_iconst (v := 0) C dL_law_777 rfl ?_
        exact h.elim
  · replace h := h.2 c377
    refine x_iconst (v := 0) C dL_law_760 rfl ?_
    exact h.elim
set_option maxRecDepth 100000 in
set_option maxHeartbeats 400000 in
theorem wL_law_847 {Γ : Gam} {G : Gm} {Qf : State → Prop} {xs : Nat → Int32} {b L ce sl : Nat} (hG : Gd G) (C : Cx Γ G cL_law 7 RL (some .boolean) room_1) (hl0 : (gl Γ).stackTraces = false) (hX : va_X b L xs (gs Γ) (gs Γ).heap) (hbl : b < (gs Γ).heap.size) (hbA : ¬ gA G b) (hNc : va_Nc EI EN (gs Γ)) (hQf : (gar Γ) = #[Value.ref b] ∧ Qf = lw_Z (gbe Γ) #[Value.ref b] (gs Γ)) (hA9 : ∀ q, gA G q → (gs Γ).heap.size ≤ q) (hc9 : ce + 8 ≤ room_1.cells) (hs9 : sl + 48 ≤ room_1.slots) (hc0 : ce ≤ room_1.cells) (hs0 : sl ≤ room_1.slots) {L23 : Mem × Int32 → Prop} (hL23 : ∀ s, L23 s → X Γ G Qf 7 (ce + 8) (sl + 48) 23 [(4, .int s.2), (0, .ref b), (1, .ref (ga G 10 0)), (2, .ref (ga G 11 0)), (3, .ref (ga G 9000 0))] [] s.1) (M : Mem) (y4 : Int32) (h : bL_law_847 xs L L23 M y4) : X Γ G Qf 7 (ce + 2) (sl + 12) 847 [(4, .int y4), (0, .ref b), (1, .ref (ga G 10 0)), (2, .ref (ga G 11 0)), (3, .ref (ga G 9000 0))] [] M := by
  unfold bL_law_847 at h
  refine x_goto (tgt := 2690) C dL_law_847 (by decide) ?_
  refine X_widen (c1 := ce + 4) (s1 := sl + 24) (Nat.add_le_add_left (Nat.le_of_ble_eq_true rfl) ce) (Nat.add_le_add_left (Nat.le_of_ble_eq_true rfl) sl) ?_
  refine X_sub (lv' := [(4, .int y4), (0, .ref b), (1, .ref (ga G 10 0)), (2, .ref (ga G 11 0)), (3, .ref (ga G 9000 0))]) [0, 1, 2, 3, 4] rfl ?_
  exact wL_law_2690 hG C hl0 hX hbl hbA hNc hQf hA9 hc9 hs9 hc0 hs0 hL23 M y4 h
set_option maxRecDepth 100000 in
set_option maxHeartbeats 400000 in
theorem wL_law_782 {Γ : Gam} {G : Gm} {Qf : State → Prop} {xs : Nat → Int32} {b L ce sl : Nat} (hG : Gd G) (C : Cx Γ G cL_law 7 RL (some .boolean) room_1) (hl0 : (gl Γ).stackTraces = false) (hX : va_X b L xs (gs Γ) (gs Γ).heap) (hbl : b < (gs Γ).heap.size) (hbA : ¬ gA G b) (hNc : va_Nc EI EN (gs Γ)) (hQf : (gar Γ) = #[Value.ref b] ∧ Qf = lw_Z (gbe Γ) #[Value.ref b] (gs Γ)) (hA9 : ∀ q, gA G q → (gs Γ).heap.size ≤ q) (hc9 : ce + 8 ≤ room_1.cells) (hs9 : sl + 48 ≤ room_1.slots) (hc0 : ce ≤ room_1.cells) (hs0 : sl ≤ room_1.slots) {L23 : Mem × Int32 → Prop} (hL23 : ∀ s, L23 s → X Γ G Qf 7 (ce + 8) (sl + 48) 23 [(4, .int s.2), (0, .ref b), (1, .ref (ga G 10 0)), (2, .ref (ga G 11 0)), (3, .ref (ga G 9000 0))] [] s.1) (M : Mem) (y4 : Int32) (h : bL_law_782 xs L L23 M y4) : X Γ G Qf 7 (ce + 0) (sl + 0) 782 [(4, .int y4), (0, .ref b), (1, .ref (ga G 10 0)), (2, .ref (ga G 11 0)), (3, .ref (ga G 9000 0))] [] M := by
  unfold bL_law_782 at h
  refine x_aload_n C dL_law_782 2 rfl ?_
  refine x_aload_n C dL_law_783 1 rfl ?_
  refine x_iload C dL_law_784 0 rfl ?_
  refine x_iconst (v := 1) C dL_law_786 rfl ?_
  refine x_iadd C dL_law_787 ?_
  obtain ⟨f358, h⟩ := h
  refine x_sld C hX hbl hbA f358 dL_law_788 ?_
  refine x_aload_n C dL_law_789 1 rfl ?_
  refine x_iload C dL_law_790 0 rfl ?_
  refine x_iconst (v := 2) C dL_law_792 rfl ?_
  refine x_iadd C dL_law_793 ?_
  obtain ⟨f359, h⟩ := h
  refine x_sld C hX hbl hbA f359 dL_law_794 ?_
  refine x_aload_n C dL_law_795 4 rfl ?_
  refine x_lcall (rest := []) (ce1 := ce + 2) (sl1 := sl + 12) C sl_L_169 hNc (kL_word hG hl0 _ _ _ h) rfl rfl (Nat.le_of_ble_eq_true rfl) ⟨Nat.le_of_ble_eq_true rfl, Nat.le_of_ble_eq_true rfl⟩ rfl rfl ⟨Nat.le_trans (Nat.add_le_add_left (Nat.le_of_ble_eq_true rfl) ce) hc9, Nat.le_trans (Nat.add_le_add_left (Nat.le_of_ble_eq_true rfl) sl) hs9⟩ dL_law_796 (fun r360 M361 h => ?_)
  refine x_istore (lv' := [(5, .int r360), (4, .int y4), (0, .ref b), (1, .ref (ga G 10 0)), (2, .ref (ga G 11 0)), (3, .ref (ga G 9000 0))]) C dL_law_799 (Nat.le_of_ble_eq_true rfl) rfl ?_
  refine x_aload_n C dL_law_801 4 rfl ?_
  refine x_aload_n C dL_law_802 2 rfl ?_
  refine x_iload C dL_law_803 1 rfl ?_
  refine x_iconst (v := 1) C dL_law_805 rfl ?_
  refine x_iadd C dL_law_806 ?_
  refine x_sld C hX hbl hbA f358 dL_law_807 ?_
  refine x_aload_n C dL_law_808 2 rfl ?_
  refine x_iload C dL_law_809 1 rfl ?_
  refine x_iconst (v := 2) C dL_law_811 rfl ?_
  refine x_iadd C dL_law_812 ?_
  refine x_sld C hX hbl hbA f359 dL_law_813 ?_
  refine x_calli (rest := []) (ce1 := ce + 2) (sl1 := sl + 12) C sv_L_171 ob11 z11 (kX11_word hG _ _ _ h) rfl rfl (Nat.le_of_ble_eq_true rfl) ⟨Nat.le_of_ble_eq_true rfl, Nat.le_of_ble_eq_true rfl⟩ rfl rfl ⟨Nat.le_trans (Nat.add_le_add_left (Nat.le_of_ble_eq_true rfl) ce) hc9, Nat.le_trans (Nat.add_le_add_left (Nat.le_of_ble_eq_true rfl) sl) hs9⟩ dL_law_814 (fun r362 M363 h => ?_)
  refine x_istore (lv' := [(6, .int r362), (5, .int r360), (4, .int y4), (0, .ref b), (1, .ref (ga G 10 0)), (2, .ref (ga G 11 0)), (3, .ref (ga G 9000 0))]) C dL_law_817 (Nat.le_of_ble_eq_true rfl) rfl ?_
  refine x_aload_n C dL_law_819 5 rfl ?_
  refine x_calli (rest := []) (ce1 := ce + 2) (sl1 := sl + 12) C sv_L_139 ob11 z11 (kX11_thrown hG _ h) rfl rfl (Nat.le_of_ble_eq_true rfl) ⟨Nat.le_of_ble_eq_true rfl, Nat.le_of_ble_eq_true rfl⟩ rfl rfl ⟨Nat.le_trans (Nat.add_le_add_left (Nat.le_of_ble_eq_true rfl) ce) hc9, Nat.le_trans (Nat.add_le_add_left (Nat.le_of_ble_eq_true rfl) sl) hs9⟩ dL_law_820 (fun r364 M365 h => ?_)
  refine x_iload C dL_law_823 1 rfl ?_
  refine x_icmp_eq (tgt := 830) C dL_law_825 (by decide) (fun c366 => ?_) (fun c366 => ?_)
  · replace h := h.1 c366
    refine x_iload C dL_law_830 1 rfl ?_
    refine x_if_ne (tgt := 847) C dL_law_832 (by decide) (fun c367 => ?_) (fun c367 => ?_)
    · replace h := h.1 c367
      refine X_sub (lv' := [(4, .int y4), (0, .ref b), (1, .ref (ga G 10 0)), (2, .ref (ga G 11 0)), (3, .ref (ga G 9000 0))]) [2, 3, 4, 5, 6] rfl ?_
      exact wL_law_847 hG C hl0 hX hbl hbA hNc hQf hA9 hc9 hs9 hc0 hs0 hL23 M365 y4 h
    · replace h := h.2 c367
      refine x_aload_n C dL_law_835 6 rfl ?_
      refine x_iconst (v := 0) C dL_law_836 rfl ?_
      refine al_9000 C z9000 (vp_l (by decide)) dL_law_837 ?_
      refine x_iload C dL_law_838 0 rfl ?_
      refine x_i2l C dL_law_840 ?_
      refine x_lcmp C dL_law_841 ?_
      refine x_if_eq (tgt := 847) C dL_law_842 (by decide) (fun c368 => ?_) (fun c368 => ?_)
      · replace h := h.1 c368
        refine X_sub (lv' := [(4, .int y4), (0, .ref b), (1, .ref (ga G 10 0)), (2, .ref (ga G 11 0)), (3, .ref (ga G 9000 0))]) [2, 3, 4, 5, 6] rfl ?_
        exact wL_law_847 hG C hl0 hX hbl hbA hNc hQf hA9 hc9 hs9 hc0 hs0 hL23 M365 y4 h
      · replace h := h.2 c368
        refine x_iconst (v := 0) C dL_law_845 rfl ?_
        exact h.elim
  · replace h := h.2 c366
    refine x_iconst (v := 0) C dL_law_828 rfl ?_
    exact h.elim
set_option maxRecDepth 100000 in
set_option maxHeartbeats 400000 in
theorem wL_law_915 {Γ : Gam} {G : Gm} {Qf : State → Prop} {xs : Nat → Int32} {b L ce sl : Nat} (hG : Gd G) (C : Cx Γ G cL_law 7 RL (some .boolean) room_1) (hl0 : (gl Γ).stackTraces = false) (hX : va_X b L xs (gs Γ) (gs Γ).heap) (hbl : b < (gs Γ).heap.size) (hbA : ¬ gA G b) (hNc : va_Nc EI EN (gs Γ)) (hQf : (gar Γ) = #[Value.ref b] ∧ Qf = lw_Z (gbe Γ) #[Value.ref b] (gs Γ)) (hA9 : ∀ q, gA G q → (gs Γ).heap.size ≤ q) (hc9 : ce + 8 ≤ room_1.cells) (hs9 : sl + 48 ≤ room_1.slots) (hc0 : ce ≤ room_1.cells) (hs0 : sl ≤ room_1.slots) {L23 : Mem × Int32 → Prop} (hL23 : ∀ s, L23 s → X Γ G Qf 7 (ce + 8) (sl + 48) 23 [(4, .int s.2), (0, .ref b), (1, .ref (ga G 10 0)), (2, .ref (ga G 11 0)), (3, .ref (ga G 9000 0))] [] s.1) (M : Mem) (y4 : Int32) (h : bL_law_915 xs L L23 M y4) : X Γ G Qf 7 (ce + 1) (sl + 6) 915 [(4, .int y4), (0, .ref b), (1, .ref (ga G 10 0)), (2, .ref (ga G 11 0)), (3, .ref (ga G 9000 0))] [] M := by
  unfold bL_law_915 at h
  refine x_goto (tgt := 2690) C dL_law_915 (by decide) ?_
  refine X_widen (c1 := ce + 4) (s1 := sl + 24) (Nat.add_le_add_left (Nat.le_of_ble_eq_true rfl) ce) (Nat.add_le_add_left (Nat.le_of_ble_eq_true rfl) sl) ?_
  refine X_sub (lv' := [(4, .int y4), (0, .ref b), (1, .ref (ga G 10 0)), (2, .ref (ga G 11 0)), (3, .ref (ga G 9000 0))]) [0, 1, 2, 3, 4] rfl ?_
  exact wL_law_2690 hG C hl0 hX hbl hbA hNc hQf hA9 hc9 hs9 hc0 hs0 hL23 M y4 h
set_option maxRecDepth 100000 in
set_option maxHeartbeats 400000 in
theorem wL_law_850 {Γ : Gam} {G : Gm} {Qf : State → Prop} {xs : Nat → Int32} {b L ce sl : Nat} (hG : Gd G) (C : Cx Γ G cL_law 7 RL (some .boolean) room_1) (hl0 : (gl Γ).stackTraces = false) (hX : va_X b L xs (gs Γ) (gs Γ).heap) (hbl : b < (gs Γ).heap.size) (hbA : ¬ gA G b) (hNc : va_Nc EI EN (gs Γ)) (hQf : (gar Γ) = #[Value.ref b] ∧ Qf = lw_Z (gbe Γ) #[Value.ref b] (gs Γ)) (hA9 : ∀ q, gA G q → (gs Γ).heap.size ≤ q) (hc9 : ce + 8 ≤ room_1.cells) (hs9 : sl + 48 ≤ room_1.slots) (hc0 : ce ≤ room_1.cells) (hs0 : sl ≤ room_1.slots) {L23 : Mem × Int32 → Prop} (hL23 : ∀ s, L23 s → X Γ G Qf 7 (ce + 8) (sl + 48) 23 [(4, .int s.2), (0, .ref b), (1, .ref (ga G 10 0)), (2, .ref (ga G 11 0)), (3, .ref (ga G 9000 0))] [] s.1) (M : Mem) (y4 : Int32) (h : bL_law_850 xs L L23 M y4) : X Γ G Qf 7 (ce + 0) (sl + 0) 850 [(4, .int y4), (0, .ref b), (1, .ref (ga G 10 0)), (2, .ref (ga G 11 0)), (3, .ref (ga G 9000 0))] [] M := by
  unfold bL_law_850 at h
  refine x_aload_n C dL_law_850 2 rfl ?_
  refine x_aload_n C dL_law_851 1 rfl ?_
  refine x_iload C dL_law_852 0 rfl ?_
  refine x_iconst (v := 1) C dL_law_854 rfl ?_
  refine x_iadd C dL_law_855 ?_
  obtain ⟨f347, h⟩ := h
  refine x_sld C hX hbl hbA f347 dL_law_856 ?_
  refine x_aload_n C dL_law_857 1 rfl ?_
  refine x_iload C dL_law_858 0 rfl ?_
  refine x_iconst (v := 2) C dL_law_860 rfl ?_
  refine x_iadd C dL_law_861 ?_
  obtain ⟨f348, h⟩ := h
  refine x_sld C hX hbl hbA f348 dL_law_862 ?_
  refine x_aload_n C dL_law_863 4 rfl ?_
  refine x_lcall (rest := []) (ce1 := ce + 1) (sl1 := sl + 6) C sl_L_172 hNc (kL_letter hG hl0 _ _ _ h) rfl rfl (Nat.le_of_ble_eq_true rfl) ⟨Nat.le_of_ble_eq_true rfl, Nat.le_of_ble_eq_true rfl⟩ rfl rfl ⟨Nat.le_trans (Nat.add_le_add_left (Nat.le_of_ble_eq_true rfl) ce) hc9, Nat.le_trans (Nat.add_le_add_left (Nat.le_of_ble_eq_true rfl) sl) hs9⟩ dL_law_864 (fun r349 M350 h => ?_)
  refine x_istore (lv' := [(5, .int r349), (4, .int y4), (0, .ref b), (1, .ref (ga G 10 0)), (2, .ref (ga G 11 0)), (3, .ref (ga G 9000 0))]) C dL_law_867 (Nat.le_of_ble_eq_true rfl) rfl ?_
  refine x_aload_n C dL_law_869 4 rfl ?_
  refine x_aload_n C dL_law_870 2 rfl ?_
  refine x_iload C dL_law_871 1 rfl ?_
  refine x_iconst (v := 1) C dL_law_873 rfl ?_
  refine x_iadd C dL_law_874 ?_
  refine x_sld C hX hbl hbA f347 dL_law_875 ?_
  refine x_aload_n C dL_law_876 2 rfl ?_
  refine x_iload C dL_law_877 1 rfl ?_
  refine x_iconst (v := 2) C dL_law_879 rfl ?_
  refine x_iadd C dL_law_880 ?_
  refine x_sld C hX hbl hbA f348 dL_law_881 ?_
  refine x_calli (rest := []) (ce1 := ce + 1) (sl1 := sl + 6) C sv_L_174 ob11 z11 (kX11_letter hG _ _ _ h) rfl rfl (Nat.le_of_ble_eq_true rfl) ⟨Nat.le_of_ble_eq_true rfl, Nat.le_of_ble_eq_true rfl⟩ rfl rfl ⟨Nat.le_trans (Nat.add_le_add_left (Nat.le_of_ble_eq_true rfl) ce) hc9, Nat.le_trans (Nat.add_le_add_left (Nat.le_of_ble_eq_true rfl) sl) hs9⟩ dL_law_882 (fun r351 M352 h => ?_)
  refine x_istore (lv' := [(6, .int r351), (5, .int r349), (4, .int y4), (0, .ref b), (1, .ref (ga G 10 0)), (2, .ref (ga G 11 0)), (3, .ref (ga G 9000 0))]) C dL_law_885 (Nat.le_of_ble_eq_true rfl) rfl ?_
  refine x_aload_n C dL_law_887 5 rfl ?_
  refine x_calli (rest := []) (ce1 := ce + 1) (sl1 := sl + 6) C sv_L_139 ob11 z11 (kX11_thrown hG _ h) rfl rfl (Nat.le_of_ble_eq_true rfl) ⟨Nat.le_of_ble_eq_true rfl, Nat.le_of_ble_eq_true rfl⟩ rfl rfl ⟨Nat.le_trans (Nat.add_le_add_left (Nat.le_of_ble_eq_true rfl) ce) hc9, Nat.le_trans (Nat.add_le_add_left (Nat.le_of_ble_eq_true rfl) sl) hs9⟩ dL_law_888 (fun r353 M354 h => ?_)
  refine x_iload C dL_law_891 1 rfl ?_
  refine x_icmp_eq (tgt := 898) C dL_law_893 (by decide) (fun c355 => ?_) (fun c355 => ?_)
  · replace h := h.1 c355
    refine x_iload C dL_law_898 1 rfl ?_
    refine x_if_ne (tgt := 915) C dL_law_900 (by decide) (fun c356 => ?_) (fun c356 => ?_)
    · replace h := h.1 c356
      refine X_sub (lv' := [(4, .int y4), (0, .ref b), (1, .ref (ga G 10 0)), (2, .ref (ga G 11 0)), (3, .ref (ga G 9000 0))]) [2, 3, 4, 5, 6] rfl ?_
      exact wL_law_915 hG C hl0 hX hbl hbA hNc hQf hA9 hc9 hs9 hc0 hs0 hL23 M354 y4 h
    · replace h := h.2 c356
      refine x_aload_n C dL_law_903 6 rfl ?_
      refine x_iconst (v := 0) C dL_law_904 rfl ?_
      refine al_9000 C z9000 (vp_l (by decide)) dL_law_905 ?_
      refine x_iload C dL_law_906 0 rfl ?_
      refine x_i2l C dL_law_908 ?_
      refine x_lcmp C dL_law_909 ?_
      refine x_if_eq (tgt := 915) C dL_law_910 (by decide) (fun c357 => ?_) (fun c357 => ?_)
      · replace h := h.1 c357
        refine X_sub (lv' := [(4, .int y4), (0, .ref b), (1, .ref (ga G 10 0)), (2, .ref (ga G 11 0)), (3, .ref (ga G 9000 0))]) [2, 3, 4, 5, 6] rfl ?_
        exact wL_law_915 hG C hl0 hX hbl hbA hNc hQf hA9 hc9 hs9 hc0 hs0 hL23 M354 y4 h
      · replace h := h.2 c357
        refine x_iconst (v := 0) C dL_law_913 rfl ?_
        exact h.elim
  · replace h := h.2 c355
    refine x_iconst (v := 0) C dL_law_896 rfl ?_
    exact h.elim
set_option maxRecDepth 100000 in
set_option maxHeartbeats 400000 in
theorem wL_law_995 {Γ : Gam} {G : Gm} {Qf : State → Prop} {xs : Nat → Int32} {b L ce sl : Nat} (hG : Gd G) (C : Cx Γ G cL_law 7 RL (some .boolean) room_1) (hl0 : (gl Γ).stackTraces = false) (hX : va_X b L xs (gs Γ) (gs Γ).heap) (hbl : b < (gs Γ).heap.size) (hbA : ¬ gA G b) (hNc : va_Nc EI EN (gs Γ)) (hQf : (gar Γ) = #[Value.ref b] ∧ Qf = lw_Z (gbe Γ) #[Value.ref b] (gs Γ)) (hA9 : ∀ q, gA G q → (gs Γ).heap.size ≤ q) (hc9 : ce + 8 ≤ room_1.cells) (hs9 : sl + 48 ≤ room_1.slots) (hc0 : ce ≤ room_1.cells) (hs0 : sl ≤ room_1.slots) {L23 : Mem × Int32 → Prop} (hL23 : ∀ s, L23 s → X Γ G Qf 7 (ce + 8) (sl + 48) 23 [(4, .int s.2), (0, .ref b), (1, .ref (ga G 10 0)), (2, .ref (ga G 11 0)), (3, .ref (ga G 9000 0))] [] s.1) (M : Mem) (y4 : Int32) (h : bL_law_995 xs L L23 M y4) : X Γ G Qf 7 (ce + 3) (sl + 18) 995 [(4, .int y4), (0, .ref b), (1, .ref (ga G 10 0)), (2, .ref (ga G 11 0)), (3, .ref (ga G 9000 0))] [] M := by
  unfold bL_law_995 at h
  refine x_goto (tgt := 2690) C dL_law_995 (by decide) ?_
  refine X_widen (c1 := ce + 4) (s1 := sl + 24) (Nat.add_le_add_left (Nat.le_of_ble_eq_true rfl) ce) (Nat.add_le_add_left (Nat.le_of_ble_eq_true rfl) sl) ?_
  refine X_sub (lv' := [(4, .int y4), (0, .ref b), (1, .ref (ga G 10 0)), (2, .ref (ga G 11 0)), (3, .ref (ga G 9000 0))]) [0, 1, 2, 3, 4] rfl ?_
  exact wL_law_2690 hG C hl0 hX hbl hbA hNc hQf hA9 hc9 hs9 hc0 hs0 hL23 M y4 h
