set_option maxRecDepth 100000 in
set_option maxHeartbeats 400000 in
theorem wL_law_918 {Γ : Gam} {G : Gm} {Qf : State → Prop} {xs : Nat → Int32} {b L ce sl : Nat} (hG : Gd G) (C : Cx Γ G cL_law 7 RL (some .boolean) room_1) (hl0 : (gl Γ).stackTraces = false) (hX : va_X b L xs (gs Γ) (gs Γ).heap) (hbl : b < (gs Γ).heap.size) (hbA : ¬ gA G b) (hNc : va_Nc EI EN (gs Γ)) (hQf : (gar Γ) = #[Value.ref b] ∧ Qf = lw_Z (gbe Γ) #[Value.ref b] (gs Γ)) (hA9 : ∀ q, gA G q → (gs Γ).heap.size ≤ q) (hc9 : ce + 8 ≤ room_1.cells) (hs9 : sl + 48 ≤ room_1.slots) (hc0 : ce ≤ room_1.cells) (hs0 : sl ≤ room_1.slots) {L23 : Mem × Int32 → Prop} (hL23 : ∀ s, L23 s → X Γ G Qf 7 (ce + 8) (sl + 48) 23 [(4, .int s.2), (0, .ref b), (1, .ref (ga G 10 0)), (2, .ref (ga G 11 0)), (3, .ref (ga G 9000 0))] [] s.1) (M : Mem) (y4 : Int32) (h : bL_law_918 xs L L23 M y4) : X Γ G Qf 7 (ce + 0) (sl + 0) 918 [(4, .int y4), (0, .ref b), (1, .ref (ga G 10 0)), (2, .ref (ga G 11 0)), (3, .ref (ga G 9000 0))] [] M := by
  unfold bL_law_918 at h
  refine x_aload_n C dL_law_918 2 rfl ?_
  refine x_aload_n C dL_law_919 1 rfl ?_
  refine x_iload C dL_law_920 0 rfl ?_
  refine x_iconst (v := 1) C dL_law_922 rfl ?_
  refine x_iadd C dL_law_923 ?_
  obtain ⟨f335, h⟩ := h
  refine x_sld C hX hbl hbA f335 dL_law_924 ?_
  refine x_aload_n C dL_law_925 1 rfl ?_
  refine x_iload C dL_law_926 0 rfl ?_
  refine x_iconst (v := 2) C dL_law_928 rfl ?_
  refine x_iadd C dL_law_929 ?_
  obtain ⟨f336, h⟩ := h
  refine x_sld C hX hbl hbA f336 dL_law_930 ?_
  refine x_aload_n C dL_law_931 1 rfl ?_
  refine x_iload C dL_law_932 0 rfl ?_
  refine x_iconst (v := 3) C dL_law_934 rfl ?_
  refine x_iadd C dL_law_935 ?_
  obtain ⟨f337, h⟩ := h
  refine x_sld C hX hbl hbA f337 dL_law_936 ?_
  refine x_aload_n C dL_law_937 4 rfl ?_
  refine x_lcall (rest := []) (ce1 := ce + 3) (sl1 := sl + 18) C sl_L_175 hNc (kL_block hG hl0 _ _ _ _ h) rfl rfl (Nat.le_of_ble_eq_true rfl) ⟨Nat.le_of_ble_eq_true rfl, Nat.le_of_ble_eq_true rfl⟩ rfl rfl ⟨Nat.le_trans (Nat.add_le_add_left (Nat.le_of_ble_eq_true rfl) ce) hc9, Nat.le_trans (Nat.add_le_add_left (Nat.le_of_ble_eq_true rfl) sl) hs9⟩ dL_law_938 (fun r338 M339 h => ?_)
  refine x_istore (lv' := [(5, .int r338), (4, .int y4), (0, .ref b), (1, .ref (ga G 10 0)), (2, .ref (ga G 11 0)), (3, .ref (ga G 9000 0))]) C dL_law_941 (Nat.le_of_ble_eq_true rfl) rfl ?_
  refine x_aload_n C dL_law_943 4 rfl ?_
  refine x_aload_n C dL_law_944 2 rfl ?_
  refine x_iload C dL_law_945 1 rfl ?_
  refine x_iconst (v := 1) C dL_law_947 rfl ?_
  refine x_iadd C dL_law_948 ?_
  refine x_sld C hX hbl hbA f335 dL_law_949 ?_
  refine x_aload_n C dL_law_950 2 rfl ?_
  refine x_iload C dL_law_951 1 rfl ?_
  refine x_iconst (v := 2) C dL_law_953 rfl ?_
  refine x_iadd C dL_law_954 ?_
  refine x_sld C hX hbl hbA f336 dL_law_955 ?_
  refine x_aload_n C dL_law_956 2 rfl ?_
  refine x_iload C dL_law_957 1 rfl ?_
  refine x_iconst (v := 3) C dL_law_959 rfl ?_
  refine x_iadd C dL_law_960 ?_
  refine x_sld C hX hbl hbA f337 dL_law_961 ?_
  refine x_calli (rest := []) (ce1 := ce + 3) (sl1 := sl + 18) C sv_L_178 ob11 z11 (kX11_block hG _ _ _ _ h) rfl rfl (Nat.le_of_ble_eq_true rfl) ⟨Nat.le_of_ble_eq_true rfl, Nat.le_of_ble_eq_true rfl⟩ rfl rfl ⟨Nat.le_trans (Nat.add_le_add_left (Nat.le_of_ble_eq_true rfl) ce) hc9, Nat.le_trans (Nat.add_le_add_left (Nat.le_of_ble_eq_true rfl) sl) hs9⟩ dL_law_962 (fun r340 M341 h => ?_)
  refine x_istore (lv' := [(6, .int r340), (5, .int r338), (4, .int y4), (0, .ref b), (1, .ref (ga G 10 0)), (2, .ref (ga G 11 0)), (3, .ref (ga G 9000 0))]) C dL_law_965 (Nat.le_of_ble_eq_true rfl) rfl ?_
  refine x_aload_n C dL_law_967 5 rfl ?_
  refine x_calli (rest := []) (ce1 := ce + 3) (sl1 := sl + 18) C sv_L_139 ob11 z11 (kX11_thrown hG _ h) rfl rfl (Nat.le_of_ble_eq_true rfl) ⟨Nat.le_of_ble_eq_true rfl, Nat.le_of_ble_eq_true rfl⟩ rfl rfl ⟨Nat.le_trans (Nat.add_le_add_left (Nat.le_of_ble_eq_true rfl) ce) hc9, Nat.le_trans (Nat.add_le_add_left (Nat.le_of_ble_eq_true rfl) sl) hs9⟩ dL_law_968 (fun r342 M343 h => ?_)
  refine x_iload C dL_law_971 1 rfl ?_
  refine x_icmp_eq (tgt := 978) C dL_law_973 (by decide) (fun c344 => ?_) (fun c344 => ?_)
  · replace h := h.1 c344
    refine x_iload C dL_law_978 1 rfl ?_
    refine x_if_ne (tgt := 995) C dL_law_980 (by decide) (fun c345 => ?_) (fun c345 => ?_)
    · replace h := h.1 c345
      refine X_sub (lv' := [(4, .int y4), (0, .ref b), (1, .ref (ga G 10 0)), (2, .ref (ga G 11 0)), (3, .ref (ga G 9000 0))]) [2, 3, 4, 5, 6] rfl ?_
      exact wL_law_995 hG C hl0 hX hbl hbA hNc hQf hA9 hc9 hs9 hc0 hs0 hL23 M343 y4 h
    · replace h := h.2 c345
      refine x_aload_n C dL_law_983 6 rfl ?_
      refine x_iconst (v := 0) C dL_law_984 rfl ?_
      refine al_9000 C z9000 (vp_l (by decide)) dL_law_985 ?_
      refine x_iload C dL_law_986 0 rfl ?_
      refine x_i2l C dL_law_988 ?_
      refine x_lcmp C dL_law_989 ?_
      refine x_if_eq (tgt := 995) C dL_law_990 (by decide) (fun c346 => ?_) (fun c346 => ?_)
      · replace h := h.1 c346
        refine X_sub (lv' := [(4, .int y4), (0, .ref b), (1, .ref (ga G 10 0)), (2, .ref (ga G 11 0)), (3, .ref (ga G 9000 0))]) [2, 3, 4, 5, 6] rfl ?_
        exact wL_law_995 hG C hl0 hX hbl hbA hNc hQf hA9 hc9 hs9 hc0 hs0 hL23 M343 y4 h
      · replace h := h.2 c346
        refine x_iconst (v := 0) C dL_law_993 rfl ?_
        exact h.elim
  · replace h := h.2 c344
    refine x_iconst (v := 0) C dL_law_976 rfl ?_
    exact h.elim
set_option maxRecDepth 100000 in
set_option maxHeartbeats 400000 in
theorem wL_law_1075 {Γ : Gam} {G : Gm} {Qf : State → Prop} {xs : Nat → Int32} {b L ce sl : Nat} (hG : Gd G) (C : Cx Γ G cL_law 7 RL (some .boolean) room_1) (hl0 : (gl Γ).stackTraces = false) (hX : va_X b L xs (gs Γ) (gs Γ).heap) (hbl : b < (gs Γ).heap.size) (hbA : ¬ gA G b) (hNc : va_Nc EI EN (gs Γ)) (hQf : (gar Γ) = #[Value.ref b] ∧ Qf = lw_Z (gbe Γ) #[Value.ref b] (gs Γ)) (hA9 : ∀ q, gA G q → (gs Γ).heap.size ≤ q) (hc9 : ce + 8 ≤ room_1.cells) (hs9 : sl + 48 ≤ room_1.slots) (hc0 : ce ≤ room_1.cells) (hs0 : sl ≤ room_1.slots) {L23 : Mem × Int32 → Prop} (hL23 : ∀ s, L23 s → X Γ G Qf 7 (ce + 8) (sl + 48) 23 [(4, .int s.2), (0, .ref b), (1, .ref (ga G 10 0)), (2, .ref (ga G 11 0)), (3, .ref (ga G 9000 0))] [] s.1) (M : Mem) (y4 : Int32) (h : bL_law_1075 xs L L23 M y4) : X Γ G Qf 7 (ce + 3) (sl + 18) 1075 [(4, .int y4), (0, .ref b), (1, .ref (ga G 10 0)), (2, .ref (ga G 11 0)), (3, .ref (ga G 9000 0))] [] M := by
  unfold bL_law_1075 at h
  refine x_goto (tgt := 2690) C dL_law_1075 (by decide) ?_
  refine X_widen (c1 := ce + 4) (s1 := sl + 24) (Nat.add_le_add_left (Nat.le_of_ble_eq_true rfl) ce) (Nat.add_le_add_left (Nat.le_of_ble_eq_true rfl) sl) ?_
  refine X_sub (lv' := [(4, .int y4), (0, .ref b), (1, .ref (ga G 10 0)), (2, .ref (ga G 11 0)), (3, .ref (ga G 9000 0))]) [0, 1, 2, 3, 4] rfl ?_
  exact wL_law_2690 hG C hl0 hX hbl hbA hNc hQf hA9 hc9 hs9 hc0 hs0 hL23 M y4 h
set_option maxRecDepth 100000 in
set_option maxHeartbeats 400000 in
theorem wL_law_998 {Γ : Gam} {G : Gm} {Qf : State → Prop} {xs : Nat → Int32} {b L ce sl : Nat} (hG : Gd G) (C : Cx Γ G cL_law 7 RL (some .boolean) room_1) (hl0 : (gl Γ).stackTraces = false) (hX : va_X b L xs (gs Γ) (gs Γ).heap) (hbl : b < (gs Γ).heap.size) (hbA : ¬ gA G b) (hNc : va_Nc EI EN (gs Γ)) (hQf : (gar Γ) = #[Value.ref b] ∧ Qf = lw_Z (gbe Γ) #[Value.ref b] (gs Γ)) (hA9 : ∀ q, gA G q → (gs Γ).heap.size ≤ q) (hc9 : ce + 8 ≤ room_1.cells) (hs9 : sl + 48 ≤ room_1.slots) (hc0 : ce ≤ room_1.cells) (hs0 : sl ≤ room_1.slots) {L23 : Mem × Int32 → Prop} (hL23 : ∀ s, L23 s → X Γ G Qf 7 (ce + 8) (sl + 48) 23 [(4, .int s.2), (0, .ref b), (1, .ref (ga G 10 0)), (2, .ref (ga G 11 0)), (3, .ref (ga G 9000 0))] [] s.1) (M : Mem) (y4 : Int32) (h : bL_law_998 xs L L23 M y4) : X Γ G Qf 7 (ce + 0) (sl + 0) 998 [(4, .int y4), (0, .ref b), (1, .ref (ga G 10 0)), (2, .ref (ga G 11 0)), (3, .ref (ga G 9000 0))] [] M := by
  unfold bL_law_998 at h
  refine x_aload_n C dL_law_998 2 rfl ?_
  refine x_aload_n C dL_law_999 1 rfl ?_
  refine x_iload C dL_law_1000 0 rfl ?_
  refine x_iconst (v := 1) C dL_law_1002 rfl ?_
  refine x_iadd C dL_law_1003 ?_
  obtain ⟨f323, h⟩ := h
  refine x_sld C hX hbl hbA f323 dL_law_1004 ?_
  refine x_aload_n C dL_law_1005 1 rfl ?_
  refine x_iload C dL_law_1006 0 rfl ?_
  refine x_iconst (v := 2) C dL_law_1008 rfl ?_
  refine x_iadd C dL_law_1009 ?_
  obtain ⟨f324, h⟩ := h
  refine x_sld C hX hbl hbA f324 dL_law_1010 ?_
  refine x_aload_n C dL_law_1011 1 rfl ?_
  refine x_iload C dL_law_1012 0 rfl ?_
  refine x_iconst (v := 3) C dL_law_1014 rfl ?_
  refine x_iadd C dL_law_1015 ?_
  obtain ⟨f325, h⟩ := h
  refine x_sld C hX hbl hbA f325 dL_law_1016 ?_
  refine x_aload_n C dL_law_1017 4 rfl ?_
  refine x_lcall (rest := []) (ce1 := ce + 3) (sl1 := sl + 18) C sl_L_179 hNc (kL_posting hG hl0 _ _ _ _ h) rfl rfl (Nat.le_of_ble_eq_true rfl) ⟨Nat.le_of_ble_eq_true rfl, Nat.le_of_ble_eq_true rfl⟩ rfl rfl ⟨Nat.le_trans (Nat.add_le_add_left (Nat.le_of_ble_eq_true rfl) ce) hc9, Nat.le_trans (Nat.add_le_add_left (Nat.le_of_ble_eq_true rfl) sl) hs9⟩ dL_law_1018 (fun r326 M327 h => ?_)
  refine x_istore (lv' := [(5, .int r326), (4, .int y4), (0, .ref b), (1, .ref (ga G 10 0)), (2, .ref (ga G 11 0)), (3, .ref (ga G 9000 0))]) C dL_law_1021 (Nat.le_of_ble_eq_true rfl) rfl ?_
  refine x_aload_n C dL_law_1023 4 rfl ?_
  refine x_aload_n C dL_law_1024 2 rfl ?_
  refine x_iload C dL_law_1025 1 rfl ?_
  refine x_iconst (v := 1) C dL_law_1027 rfl ?_
  refine x_iadd C dL_law_1028 ?_
  refine x_sld C hX hbl hbA f323 dL_law_1029 ?_
  refine x_aload_n C dL_law_1030 2 rfl ?_
  refine x_iload C dL_law_1031 1 rfl ?_
  refine x_iconst (v := 2) C dL_law_1033 rfl ?_
  refine x_iadd C dL_law_1034 ?_
  refine x_sld C hX hbl hbA f324 dL_law_1035 ?_
  refine x_aload_n C dL_law_1036 2 rfl ?_
  refine x_iload C dL_law_1037 1 rfl ?_
  refine x_iconst (v := 3) C dL_law_1039 rfl ?_
  refine x_iadd C dL_law_1040 ?_
  refine x_sld C hX hbl hbA f325 dL_law_1041 ?_
  refine x_calli (rest := []) (ce1 := ce + 3) (sl1 := sl + 18) C sv_L_181 ob11 z11 (kX11_posting hG _ _ _ _ h) rfl rfl (Nat.le_of_ble_eq_true rfl) ⟨Nat.le_of_ble_eq_true rfl, Nat.le_of_ble_eq_true rfl⟩ rfl rfl ⟨Nat.le_trans (Nat.add_le_add_left (Nat.le_of_ble_eq_true rfl) ce) hc9, Nat.le_trans (Nat.add_le_add_left (Nat.le_of_ble_eq_true rfl) sl) hs9⟩ dL_law_1042 (fun r328 M329 h => ?_)
  refine x_istore (lv' := [(6, .int r328), (5, .int r326), (4, .int y4), (0, .ref b), (1, .ref (ga G 10 0)), (2, .ref (ga G 11 0)), (3, .ref (ga G 9000 0))]) C dL_law_1045 (Nat.le_of_ble_eq_true rfl) rfl ?_
  refine x_aload_n C dL_law_1047 5 rfl ?_
  refine x_calli (rest := []) (ce1 := ce + 3) (sl1 := sl + 18) C sv_L_139 ob11 z11 (kX11_thrown hG _ h) rfl rfl (Nat.le_of_ble_eq_true rfl) ⟨Nat.le_of_ble_eq_true rfl, Nat.le_of_ble_eq_true rfl⟩ rfl rfl ⟨Nat.le_trans (Nat.add_le_add_left (Nat.le_of_ble_eq_true rfl) ce) hc9, Nat.le_trans (Nat.add_le_add_left (Nat.le_of_ble_eq_true rfl) sl) hs9⟩ dL_law_1048 (fun r330 M331 h => ?_)
  refine x_iload C dL_law_1051 1 rfl ?_
  refine x_icmp_eq (tgt := 1058) C dL_law_1053 (by decide) (fun c332 => ?_) (fun c332 => ?_)
  · replace h := h.1 c332
    refine x_iload C dL_law_1058 1 rfl ?_
    refine x_if_ne (tgt := 1075) C dL_law_1060 (by decide) (fun c333 => ?_) (fun c333 => ?_)
    · replace h := h.1 c333
      refine X_sub (lv' := [(4, .int y4), (0, .ref b), (1, .ref (ga G 10 0)), (2, .ref (ga G 11 0)), (3, .ref (ga G 9000 0))]) [2, 3, 4, 5, 6] rfl ?_
      exact wL_law_1075 hG C hl0 hX hbl hbA hNc hQf hA9 hc9 hs9 hc0 hs0 hL23 M331 y4 h
    · replace h := h.2 c333
      refine x_aload_n C dL_law_1063 6 rfl ?_
      refine x_iconst (v := 0) C dL_law_1064 rfl ?_
      refine al_9000 C z9000 (vp_l (by decide)) dL_law_1065 ?_
      refine x_iload C dL_law_1066 0 rfl ?_
      refine x_i2l C dL_law_1068 ?_
      refine x_lcmp C dL_law_1069 ?_
      refine x_if_eq (tgt := 1075) C dL_law_1070 (by decide) (fun c334 => ?_) (fun c334 => ?_)
      · replace h := h.1 c334
        refine X_sub (lv' := [(4, .int y4), (0, .ref b), (1, .ref (ga G 10 0)), (2, .ref (ga G 11 0)), (3, .ref (ga G 9000 0))]) [2, 3, 4, 5, 6] rfl ?_
        exact wL_law_1075 hG C hl0 hX hbl hbA hNc hQf hA9 hc9 hs9 hc0 hs0 hL23 M331 y4 h
      · replace h := h.2 c334
        refine x_iconst (v := 0) C dL_law_1073 rfl ?_
        exact h.elim
  · replace h := h.2 c332
    refine x_iconst (v := 0) C dL_law_1056 rfl ?_
    exact h.elim
set_option maxRecDepth 100000 in
set_option maxHeartbeats 400000 in
theorem wL_law_1155 {Γ : Gam} {G : Gm} {Qf : State → Prop} {xs : Nat → Int32} {b L ce sl : Nat} (hG : Gd G) (C : Cx Γ G cL_law 7 RL (some .boolean) room_1) (hl0 : (gl Γ).stackTraces = false) (hX : va_X b L xs (gs Γ) (gs Γ).heap) (hbl : b < (gs Γ).heap.size) (hbA : ¬ gA G b) (hNc : va_Nc EI EN (gs Γ)) (hQf : (gar Γ) = #[Value.ref b] ∧ Qf = lw_Z (gbe Γ) #[Value.ref b] (gs Γ)) (hA9 : ∀ q, gA G q → (gs Γ).heap.size ≤ q) (hc9 : ce + 8 ≤ room_1.cells) (hs9 : sl + 48 ≤ room_1.slots) (hc0 : ce ≤ room_1.cells) (hs0 : sl ≤ room_1.slots) {L23 : Mem × Int32 → Prop} (hL23 : ∀ s, L23 s → X Γ G Qf 7 (ce + 8) (sl + 48) 23 [(4, .int s.2), (0, .ref b), (1, .ref (ga G 10 0)), (2, .ref (ga G 11 0)), (3, .ref (ga G 9000 0))] [] s.1) (M : Mem) (y4 : Int32) (h : bL_law_1155 xs L L23 M y4) : X Γ G Qf 7 (ce + 2) (sl + 12) 1155 [(4, .int y4), (0, .ref b), (1, .ref (ga G 10 0)), (2, .ref (ga G 11 0)), (3, .ref (ga G 9000 0))] [] M := by
  unfold bL_law_1155 at h
  refine x_goto (tgt := 2690) C dL_law_1155 (by decide) ?_
  refine X_widen (c1 := ce + 4) (s1 := sl + 24) (Nat.add_le_add_left (Nat.le_of_ble_eq_true rfl) ce) (Nat.add_le_add_left (Nat.le_of_ble_eq_true rfl) sl) ?_
  refine X_sub (lv' := [(4, .int y4), (0, .ref b), (1, .ref (ga G 10 0)), (2, .ref (ga G 11 0)), (3, .ref (ga G 9000 0))]) [0, 1, 2, 3, 4] rfl ?_
  exact wL_law_2690 hG C hl0 hX hbl hbA hNc hQf hA9 hc9 hs9 hc0 hs0 hL23 M y4 h
set_option maxRecDepth 100000 in
set_option maxHeartbeats 400000 in
theorem wL_law_1078 {Γ : Gam} {G : Gm} {Qf : State → Prop} {xs : Nat → Int32} {b L ce sl : Nat} (hG : Gd G) (C : Cx Γ G cL_law 7 RL (some .boolean) room_1) (hl0 : (gl Γ).stackTraces = false) (hX : va_X b L xs (gs Γ) (gs Γ).heap) (hbl : b < (gs Γ).heap.size) (hbA : ¬ gA G b) (hNc : va_Nc EI EN (gs Γ)) (hQf : (gar Γ) = #[Value.ref b] ∧ Qf = lw_Z (gbe Γ) #[Value.ref b] (gs Γ)) (hA9 : ∀ q, gA G q → (gs Γ).heap.size ≤ q) (hc9 : ce + 8 ≤ room_1.cells) (hs9 : sl + 48 ≤ room_1.slots) (hc0 : ce ≤ room_1.cells) (hs0 : sl ≤ room_1.slots) {L23 : Mem × Int32 → Prop} (hL23 : ∀ s, L23 s → X Γ G Qf 7 (ce + 8) (sl + 48) 23 [(4, .int s.2), (0, .ref b), (1, .ref (ga G 10 0)), (2, .ref (ga G 11 0)), (3, .ref (ga G 9000 0))] [] s.1) (M : Mem) (y4 : Int32) (h : bL_law_1078 xs L L23 M y4) : X Γ G Qf 7 (ce + 0) (sl + 0) 1078 [(4, .int y4), (0, .ref b), (1, .ref (ga G 10 0)), (2, .ref (ga G 11 0)), (3, .ref (ga G 9000 0))] [] M := by
  unfold bL_law_1078 at h
  refine x_aload_n C dL_law_1078 2 rfl ?_
  refine x_aload_n C dL_law_1079 1 rfl ?_
  refine x_iload C dL_law_1080 0 rfl ?_
  refine x_iconst (v := 1) C dL_law_1082 rfl ?_
  refine x_iadd C dL_law_1083 ?_
  obtain ⟨f311, h⟩ := h
  refine x_sld C hX hbl hbA f311 dL_law_1084 ?_
  refine x_aload_n C dL_law_1085 1 rfl ?_
  refine x_iload C dL_law_1086 0 rfl ?_
  refine x_iconst (v := 2) C dL_law_1088 rfl ?_
  refine x_iadd C dL_law_1089 ?_
  obtain ⟨f312, h⟩ := h
  refine x_sld C hX hbl hbA f312 dL_law_1090 ?_
  refine x_aload_n C dL_law_1091 1 rfl ?_
  refine x_iload C dL_law_1092 0 rfl ?_
  refine x_iconst (v := 3) C dL_law_1094 rfl ?_
  refine x_iadd C dL_law_1095 ?_
  obtain ⟨f313, h⟩ := h
  refine x_sld C hX hbl hbA f313 dL_law_1096 ?_
  refine x_aload_n C dL_law_1097 4 rfl ?_
  refine x_lcall (rest := []) (ce1 := ce + 2) (sl1 := sl + 12) C sl_L_182 hNc (kL_position hG hl0 _ _ _ _ h) rfl rfl (Nat.le_of_ble_eq_true rfl) ⟨Nat.le_of_ble_eq_true rfl, Nat.le_of_ble_eq_true rfl⟩ rfl rfl ⟨Nat.le_trans (Nat.add_le_add_left (Nat.le_of_ble_eq_true rfl) ce) hc9, Nat.le_trans (Nat.add_le_add_left (Nat.le_of_ble_eq_true rfl) sl) hs9⟩ dL_law_1098 (fun r314 M315 h => ?_)
  refine x_istore (lv' := [(5, .int r314), (4, .int y4), (0, .ref b), (1, .ref (ga G 10 0)), (2, .ref (ga G 11 0)), (3, .ref (ga G 9000 0))]) C dL_law_1101 (Nat.le_of_ble_eq_true rfl) rfl ?_
  refine x_aload_n C dL_law_1103 4 rfl ?_
  refine x_aload_n C dL_law_1104 2 rfl ?_
  refine x_iload C dL_law_1105 1 rfl ?_
  refine x_iconst (v := 1) C dL_law_1107 rfl ?_
  refine x_iadd C dL_law_1108 ?_
  refine x_sld C hX hbl hbA f311 dL_law_1109 ?_
  refine x_aload_n C dL_law_1110 2 rfl ?_
  refine x_iload C dL_law_1111 1 rfl ?_
  refine x_iconst (v := 2) C dL_law_1113 rfl ?_
  refine x_iadd C dL_law_1114 ?_
  refine x_sld C hX hbl hbA f312 dL_law_1115 ?_
  refine x_aload_n C dL_law_1116 2 rfl ?_
  refine x_iload C dL_law_1117 1 rfl ?_
  refine x_iconst (v := 3) C dL_law_1119 rfl ?_
  refine x_iadd C dL_law_1120 ?_
  refine x_sld C hX hbl hbA f313 dL_law_1121 ?_
  refine x_calli (rest := []) (ce1 := ce + 2) (sl1 := sl + 12) C sv_L_184 ob11 z11 (kX11_position hG _ _ _ _ h) rfl rfl (Nat.le_of_ble_eq_true rfl) ⟨Nat.le_of_ble_eq_true rfl, Nat.le_of_ble_eq_true rfl⟩ rfl rfl ⟨Nat.le_trans (Nat.add_le_add_left (Nat.le_of_ble_eq_true rfl) ce) hc9, Nat.le_trans (Nat.add_le_add_left (Nat.le_of_ble_eq_true rfl) sl) hs9⟩ dL_law_1122 (fun r316 M317 h => ?_)
  refine x_istore (lv' := [(6, .int r316), (5, .int r314), (4, .int y4), (0, .ref b), (1, .ref (ga G 10 0)), (2, .ref (ga G 11 0)), (3, .ref (ga G 9000 0))]) C dL_law_1125 (Nat.le_of_ble_eq_true rfl) rfl ?_
  refine x_aload_n C dL_law_1127 5 rfl ?_
  refine x_calli (rest := []) (ce1 := ce + 2) (sl1 := sl + 12) C sv_L_139 ob11 z11 (kX11_thrown hG _ h) rfl rfl (Nat.le_of_ble_eq_true rfl) ⟨Nat.le_of_ble_eq_true rfl, Nat.le_of_ble_eq_true rfl⟩ rfl rfl ⟨Nat.le_trans (Nat.add_le_add_left (Nat.le_of_ble_eq_true rfl) ce) hc9, Nat.le_trans (Nat.add_le_add_left (Nat.le_of_ble_eq_true rfl) sl) hs9⟩ dL_law_1128 (fun r318 M319 h => ?_)
  refine x_iload C dL_law_1131 1 rfl ?_
  refine x_icmp_eq (tgt := 1138) C dL_law_1133 (by decide) (fun c320 => ?_) (fun c320 => ?_)
  · replace h := h.1 c320
    refine x_iload C dL_law_1138 1 rfl ?_
    refine x_if_ne (tgt := 1155) C dL_law_1140 (by decide) (fun c321 => ?_) (fun c321 => ?_)
    · replace h := h.1 c321
      refine X_sub (lv' := [(4, .int y4), (0, .ref b), (1, .ref (ga G 10 0)), (2, .ref (ga G 11 0)), (3, .ref (ga G 9000 0))]) [2, 3, 4, 5, 6] rfl ?_
      exact wL_law_1155 hG C hl0 hX hbl hbA hNc hQf hA9 hc9 hs9 hc0 hs0 hL23 M319 y4 h
    · replace h := h.2 c321
      refine x_aload_n C dL_law_1143 6 rfl ?_
      refine x_iconst (v := 0) C dL_law_1144 rfl ?_
      refine al_9000 C z9000 (vp_l (by decide)) dL_law_1145 ?_
      refine x_iload C dL_law_1146 0 rfl ?_
      refine x_i2l C dL_law_1148 ?_
      refine x_lcmp C dL_law_1149 ?_
      refine x_if_eq (tgt := 1155) C dL_law_1150 (by decide) (fun c322 => ?_) (fun c322 => ?_)
      · replace h := h.1 c322
        refine X_sub (lv' := [(4, .int y4), (0, .ref b), (1, .ref (ga G 10 0)), (2, .ref (ga G 11 0)), (3, .ref (ga G 9000 0))]) [2, 3, 4, 5, 6] rfl ?_
        exact wL_law_1155 hG C hl0 hX hbl hbA hNc hQf hA9 hc9 hs9 hc0 hs0 hL23 M319 y4 h
      · replace h := h.2 c322
        refine x_iconst (v := 0) C dL_law_1153 rfl ?_
        exact h.elim
  · replace h := h.2 c320
    refine x_iconst (v := 0) C dL_law_1136 rfl ?_
    exact h.elim
set_option maxRecDepth 100000 in
set_option maxHeartbeats 400000 in
theorem wL_law_1211 {Γ : Gam} {G : Gm} {Qf : State → Prop} {xs : Nat → Int32} {b L ce sl : Nat} (hG : Gd G) (C : Cx Γ G cL_law 7 RL (some .boolean) room_1) (hl0 : (gl Γ).stackTraces = false) (hX : va_X b L xs (gs Γ) (gs Γ).heap) (hbl : b < (gs Γ).heap.size) (hbA : ¬ gA G b) (hNc : va_Nc EI EN (gs Γ)) (hQf : (gar Γ) = #[Value.ref b] ∧ Qf = lw_Z (gbe Γ) #[Value.ref b] (gs Γ)) (hA9 : ∀ q, gA G q → (gs Γ).heap.size ≤ q) (hc9 : ce + 8 ≤ room_1.cells) (hs9 : sl + 48 ≤ room_1.slots) (hc0 : ce ≤ room_1.cells) (hs0 : sl ≤ room_1.slots) {L23 : Mem × Int32 → Prop} (hL23 : ∀ s, L23 s → X Γ G Qf 7 (ce + 8) (sl + 48) 23 [(4, .int s.2), (0, .ref b), (1, .ref (ga G 10 0)), (2, .ref (ga G 11 0)), (3, .ref (ga G 9000 0))] [] s.1) (M : Mem) (y4 : Int32) (h : bL_law_1211 xs L L23 M y4) : X Γ G Qf 7 (ce + 1) (sl + 6) 1211 [(4, .int y4), (0, .ref b), (1, .ref (ga G 10 0)), (2, .ref (ga G 11 0)), (3, .ref (ga G 9000 0))] [] M := by
  unfold bL_law_1211 at h
  refine x_goto (tgt := 2690) C dL_law_1211 (by decide) ?_
  refine X_widen (c1 := ce + 4) (s1 := sl + 24) (Nat.add_le_add_left (Nat.le_of_ble_eq_true rfl) ce) (Nat.add_le_add_left (Nat.le_of_ble_eq_true rfl) sl) ?_
  refine X_sub (lv' := [(4, .int y4), (0, .ref b), (1, .ref (ga G 10 0)), (2, .ref (ga G 11 0)), (3, .ref (ga G 9000 0))]) [0, 1, 2, 3, 4] rfl ?_
  exact wL_law_2690 hG C hl0 hX hbl hbA hNc hQf hA9 hc9 hs9 hc0 hs0 hL23 M y4 h
set_option maxRecDepth 100000 in
set_option maxHeartbeats 400000 in
theorem wL_law_1158 {Γ : Gam} {G : Gm} {Qf : State → Prop} {xs : Nat → Int32} {b L ce sl : Nat} (hG : Gd G) (C : Cx Γ G cL_law 7 RL (some .boolean) room_1) (hl0 : (gl Γ).stackTraces = false) (hX : va_X b L xs (gs Γ) (gs Γ).heap) (hbl : b < (gs Γ).heap.size) (hbA : ¬ gA G b) (hNc : va_Nc EI EN (gs Γ)) (hQf : (gar Γ) = #[Value.ref b] ∧ Qf = lw_Z (gbe Γ) #[Value.ref b] (gs Γ)) (hA9 : ∀ q, gA G q → (gs Γ).heap.size ≤ q) (hc9 : ce + 8 ≤ room_1.cells) (hs9 : sl + 48 ≤ room_1.slots) (hc0 : ce ≤ room_1.cells) (hs0 : sl ≤ room_1.slots) {L23 : Mem × Int32 → Prop} (hL23 : ∀ s, L23 s → X Γ G Qf 7 (ce + 8) (sl + 48) 23 [(4, .int s.2), (0, .ref b), (1, .ref (ga G 10 0)), (2, .ref (ga G 11 0)), (3, .ref (ga G 9000 0))] [] s.1) (M : Mem) (y4 : Int32) (h : bL_law_1158 xs L L23 M y4) : X Γ G Qf 7 (ce + 0) (sl + 0) 1158 [(4, .int y4), (0, .ref b), (1, .ref (ga G 10 0)), (2, .ref (ga G 11 0)), (3, .ref (ga G 9000 0))] [] M := by
  unfold bL_law_1158 at h
  refine x_aload_n C dL_law_1158 2 rfl ?_
  refine x_aload_n C dL_law_1159 1 rfl ?_
  refine x_iload C dL_law_1160 0 rfl ?_
  refine x_iconst (v := 1) C dL_law_1162 rfl ?_
  refine x_iadd C dL_law_1163 ?_
  obtain ⟨f301, h⟩ := h
  refine x_sld C hX hbl hbA f301 dL_law_1164 ?_
  refine x_aload_n C dL_law_1165 4 rfl ?_
  refine x_lcall (rest := []) (ce1 := ce + 1) (sl1 := sl + 6) C sl_L_185 hNc (kL_common hG hl0 _ _ h) rfl rfl (Nat.le_of_ble_eq_true rfl) ⟨Nat.le_of_ble_eq_true rfl, Nat.le_of_ble_eq_true rfl⟩ rfl rfl ⟨Nat.le_trans (Nat.add_le_add_left (Nat.le_of_ble_eq_true rfl) ce) hc9, Nat.le_trans (Nat.add_le_add_left (Nat.le_of_ble_eq_true rfl) sl) hs9⟩ dL_law_1166 (fun r302 M303 h => ?_)
  refine x_istore (lv' := [(5, .int r302), (4, .int y4), (0, .ref b), (1, .ref (ga G 10 0)), (2, .ref (ga G 11 0)), (3, .ref (ga G 9000 0))]) C dL_law_1169 (Nat.le_of_ble_eq_true rfl) rfl ?_
  refine x_aload_n C dL_law_1171 4 rfl ?_
  refine x_aload_n C dL_law_1172 2 rfl ?_
  refine x_iload C dL_law_1173 1 rfl ?_
  refine x_iconst (v := 1) C dL_law_1175 rfl ?_
  refine x_iadd C dL_law_1176 ?_
  refine x_sld C hX hbl hbA f301 dL_law_1177 ?_
  refine x_calli (rest := []) (ce1 := ce + 1) (sl1 := sl + 6) C sv_L_187 ob11 z11 (kX11_common hG _ _ h) rfl rfl (Nat.le_of_ble_eq_true rfl) ⟨Nat.le_of_ble_eq_true rfl, Nat.le_of_ble_eq_true rfl⟩ rfl rfl ⟨Nat.le_trans (Nat.add_le_add_left (Nat.le_of_ble_eq_true rfl) ce) hc9, Nat.le_trans (Nat.add_le_add_left (Nat.le_of_ble_eq_true rfl) sl) hs9⟩ dL_law_1178 (fun r304 M305 h => ?_)
  refine x_istore (lv' := [(6, .int r304), (5, .int r302), (4, .int y4), (0, .ref b), (1, .ref (ga G 10 0)), (2, .ref (ga G 11 0)), (3, .ref (ga G 9000 0))]) C dL_law_1181 (Nat.le_of_ble_eq_true rfl) rfl ?_
  refine x_aload_n C dL_law_1183 5 rfl ?_
  refine x_calli (rest := []) (ce1 := ce + 1) (sl1 := sl + 6) C sv_L_139 ob11 z11 (kX11_thrown hG _ h) rfl rfl (Nat.le_of_ble_eq_true rfl) ⟨Nat.le_of_ble_eq_true rfl, Nat.le_of_ble_eq_true rfl⟩ rfl rfl ⟨Nat.le_trans (Nat.add_le_add_left (Nat.le_of_ble_eq_true rfl) ce) hc9, Nat.le_trans (Nat.add_le_add_left (Nat.le_of_ble_eq_true rfl) sl) hs9⟩ dL_law_1184 (fun r306 M307 h => ?_)
  refine x_iload C dL_law_1187 1 rfl ?_
  refine x_icmp_eq (tgt := 1194) C dL_law_1189 (by decide) (fun c308 => ?_) (fun c308 => ?_)
  · replace h := h.1 c308
    refine x_iload C dL_law_1194 1 rfl ?_
    refine x_if_ne (tgt := 1211) C dL_law_1196 (by decide) (fun c309 => ?_) (fun c309 => ?_)
    · replace h := h.1 c309
      refine X_sub (lv' := [(4, .int y4), (0, .ref b), (1, .ref (ga G 10 0)), (2, .ref (ga G 11 0)), (3, .ref (ga G 9000 0))]) [2, 3, 4, 5, 6] rfl ?_
      exact wL_law_1211 hG C hl0 hX hbl hbA hNc hQf hA9 hc9 hs9 hc0 hs0 hL23 M307 y4 h
    · replace h := h.2 c309
      refine x_aload_n C dL_law_1199 6 rfl ?_
      refine x_iconst (v := 0) C dL_law_1200 rfl ?_
      refine al_9000 C z9000 (vp_l (by decide)) dL_law_1201 ?_
      refine x_iload C dL_law_1202 0 rfl ?_
      refine x_i2l C dL_law_1204 ?_
      refine x_lcmp C dL_law_1205 ?_
      refine x_if_eq (tgt := 1211) C dL_law_1206 (by decide) (fun c310 => ?_) (fun c310 => ?_)
      · replace h := h.1 c310
        refine X_sub (lv' := [(4, .int y4), (0, .ref b), (1, .ref (ga G 10 0)), (2, .ref (ga G 11 0)), (3, .ref (ga G 9000 0))]) [2, 3, 4, 5, 6] rfl ?_
        exact wL_law_1211 hG C hl0 hX hbl hbA hNc hQf hA9 hc9 hs9 hc0 hs0 hL23 M307 y4 h
      · replace h := h.2 c310
        refine x_iconst (v := 0) C dL_law_1209 rfl ?_
        exact h.elim
  · replace h := h.2 c308
    refine x_iconst (v := 0) C dL_law_1192 rfl ?_
    exact h.elim
set_option maxRecDepth 100000 in
set_option maxHeartbeats 400000 in
theorem wL_law_1279 {Γ : Gam} {G : Gm} {Qf : State → Prop} {xs : Nat → Int32} {b L ce sl : Nat} (hG : Gd G) (C : Cx Γ G cL_law 7 RL (some .boolean) room_1) (hl0 : (gl Γ).stackTraces = false) (hX : va_X b L xs (gs Γ) (gs Γ).heap) (hbl : b < (gs Γ).heap.size) (hbA : ¬ gA G b) (hNc : va_Nc EI EN (gs Γ)) (hQf : (gar Γ) = #[Value.ref b] ∧ Qf = lw_Z (gbe Γ) #[Value.ref b] (gs Γ)) (hA9 : ∀ q, gA G q → (gs Γ).heap.size ≤ q) (hc9 : ce + 8 ≤ room_1.cells) (hs9 : sl + 48 ≤ room_1.slots) (hc0 : ce ≤ room_1.cells) (hs0 : sl ≤ room_1.slots) {L23 : Mem × Int32 → Prop} (hL23 : ∀ s, L23 s → X Γ G Qf 7 (ce + 8) (sl + 48) 23 [(4, .int s.2), (0, .ref b), (1, .ref (ga G 10 0)), (2, .ref (ga G 11 0)), (3, .ref (ga G 9000 0))] [] s.1) (M : Mem) (y4 : Int32) (h : bL_law_1279 xs L L23 M y4) : X Γ G Qf 7 (ce + 2) (sl + 12) 1279 [(4, .int y4), (0, .ref b), (1, .ref (ga G 10 0)), (2, .ref (ga G 11 0)), (3, .ref (ga G 9000 0))] [] M := by
  unfold bL_law_1279 at h
  refine x_goto (tgt := 2690) C dL_law_1279 (by decide) ?_
  refine X_widen (c1 := ce + 4) (s1 := sl + 24) (Nat.add_le_add_left (Nat.le_of_ble_eq_true rfl) ce) (Nat.add_le_add_left (Nat.le_of_ble_eq_true rfl) sl) ?_
  refine X_sub (lv' := [(4, .int y4), (0, .ref b), (1, .ref (ga G 10 0)), (2, .ref (ga G 11 0)), (3, .ref (ga G 9000 0))]) [0, 1, 2, 3, 4] rfl ?_
  exact wL_law_2690 hG C hl0 hX hbl hbA hNc hQf hA9 hc9 hs9 hc0 hs0 hL23 M y4 h
set_option maxRecDepth 100000 in
set_option maxHeartbeats 400000 in
theorem wL_law_1214 {Γ : Gam} {G : Gm} {Qf : State → Prop} {xs : Nat → Int32} {b L ce sl : Nat} (hG : Gd G) (C : Cx Γ G cL_law 7 RL (some .boolean) room_1) (hl0 : (gl Γ).stackTraces = false) (hX : va_X b L xs (gs Γ) (gs Γ).heap) (hbl : b < (gs Γ).heap.size) (hbA : ¬ gA G b) (hNc : va_Nc EI EN (gs Γ)) (hQf : (gar Γ) = #[Value.ref b] ∧ Qf = lw_Z (gbe Γ) #[Value.ref b] (gs Γ)) (hA9 : ∀ q, gA G q → (gs Γ).heap.size ≤ q) (hc9 : ce + 8 ≤ room_1.cells) (hs9 : sl + 48 ≤ room_1.slots) (hc0 : ce ≤ room_1.cells) (hs0 : sl ≤ room_1.slots) {L23 : Mem × Int32 → Prop} (hL23 : ∀ s, L23 s → X Γ G Qf 7 (ce + 8) (sl + 48) 23 [(4, .int s.2), (0, .ref b), (1, .ref (ga G 10 0)), (2, .ref (ga G 11 0)), (3, .ref (ga G 9000 0))] [] s.1) (M : Mem) (y4 : Int32) (h : bL_law_1214 xs L L23 M y4) : X Γ G Qf 7 (ce + 0) (sl + 0) 1214 [(4, .int y4), (0, .ref b), (1, .ref (ga G 10 0)), (2, .ref (ga G 11 0)), (3, .ref (ga G 9000 0))] [] M := by
  unfold bL_law_1214 at h
  refine x_aload_n C dL_law_1214 2 rfl ?_
  refine x_aload_n C dL_law_1215 1 rfl ?_
  refine x_iload C dL_law_1216 0 rfl ?_
  refine x_iconst (v := 1) C dL_law_1218 rfl ?_
  refine x_iadd C dL_law_1219 ?_
  obtain ⟨f290, h⟩ := h
  refine x_sld C hX hbl hbA f290 dL_law_1220 ?_
  refine x_aload_n C dL_law_1221 1 rfl ?_
  refine x_iload C dL_law_1222 0 rfl ?_
  refine x_iconst (v := 2) C dL_law_1224 rfl ?_
  refine x_iadd C dL_law_1225 ?_
  obtain ⟨f291, h⟩ := h
  refine x_sld C hX hbl hbA f291 dL_law_1226 ?_
  refine x_aload_n C dL_law_1227 4 rfl ?_
  refine x_lcall (rest := []) (ce1 := ce + 2) (sl1 := sl + 12) C sl_L_188 hNc (kL_alike hG hl0 _ _ _ h) rfl rfl (Nat.le_of_ble_eq_true rfl) ⟨Nat.le_of_ble_eq_true rfl, Nat.le_of_ble_eq_true rfl⟩ rfl rfl ⟨Nat.le_trans (Nat.add_le_add_left (Nat.le_of_ble_eq_true rfl) ce) hc9, Nat.le_trans (Nat.add_le_add_left (Nat.le_of_ble_eq_true rfl) sl) hs9⟩ dL_law_1228 (fun r292 M293 h => ?_)
  refine x_istore (lv' := [(5, .int r292), (4, .int y4), (0, .ref b), (1, .ref (ga G 10 0)), (2, .ref (ga G 11 0)), (3, .ref (ga G 9000 0))]) C dL_law_1231 (Nat.le_of_ble_eq_true rfl) rfl ?_
  refine x_aload_n C dL_law_1233 4 rfl ?_
  refine x_aload_n C dL_law_1234 2 rfl ?_
  refine x_iload C dL_law_1235 1 rfl ?_
  refine x_iconst (v := 1) C dL_law_1237 rfl ?_
  refine x_iadd C dL_law_1238 ?_
  refine x_sld C hX hbl hbA f290 dL_law_1239 ?_
  refine x_aload_n C dL_law_1240 2 rfl ?_
  refine x_iload C dL_law_1241 1 rfl ?_
  refine x_iconst (v := 2) C dL_law_1243 rfl ?_
  refine x_iadd C dL_law_1244 ?_
  refine x_sld C hX hbl hbA f291 dL_law_1245 ?_
  refine x_calli (rest := []) (ce1 := ce + 2) (sl1 := sl + 12) C sv_L_190 ob11 z11 (kX11_alike hG _ _ _ h) rfl rfl (Nat.le_of_ble_eq_true rfl) ⟨Nat.le_of_ble_eq_true rfl, Nat.le_of_ble_eq_true rfl⟩ rfl rfl ⟨Nat.le_trans (Nat.add_le_add_left (Nat.le_of_ble_eq_true rfl) ce) hc9, Nat.le_trans (Nat.add_le_add_left (Nat.le_of_ble_eq_true rfl) sl) hs9⟩ dL_law_1246 (fun r294 M295 h => ?_)
  refine x_istore (lv' := [(6, .int r294), (5, .int r292), (4, .int y4), (0, .ref b), (1, .ref (ga G 10 0)), (2, .ref (ga G 11 0)), (3, .ref (ga G 9000 0))]) C dL_law_1249 (Nat.le_of_ble_eq_true rfl) rfl ?_
  refine x_aload_n C dL_law_1251 5 rfl ?_
  refine x_calli (rest := []) (ce1 := ce + 2) (sl1 := sl + 12) C sv_L_139 ob11 z11 (kX11_thrown hG _ h) rfl rfl (Nat.le_of_ble_eq_true rfl) ⟨Nat.le_of_ble_eq_true rfl, Nat.le_of_ble_eq_true rfl⟩ rfl rfl ⟨Nat.le_trans (Nat.add_le_add_left (Nat.le_of_ble_eq_true rfl) ce) hc9, Nat.le_trans (Nat.add_le_add_left (Nat.le_of_ble_eq_true rfl) sl) hs9⟩ dL_law_1252 (fun r296 M297 h => ?_)
  refine x_iload C dL_law_1255 1 rfl ?_
  refine x_icmp_eq (tgt := 1262) C dL_law_1257 (by decide) (fun c298 => ?_) (fun c298 => ?_)
  · replace h := h.1 c298
    refine x_iload C dL_law_1262 1 rfl ?_
    refine x_if_ne (tgt := 1279) C dL_law_1264 (by decide) (fun c299 => ?_) (fun c299 => ?_)
    · replace h := h.1 c299
      refine X_sub (lv' := [(4, .int y4), (0, .ref b), (1, .ref (ga G 10 0)), (2, .ref (ga G 11 0)), (3, .ref (ga G 9000 0))]) [2, 3, 4, 5, 6] rfl ?_
      exact wL_law_1279 hG C hl0 hX hbl hbA hNc hQf hA9 hc9 hs9 hc0 hs0 hL23 M297 y4 h
    · replace h := h.2 c299
      refine x_aload_n C dL_law_1267 6 rfl ?_
      refine x_iconst (v := 0) C dL_law_1268 rfl ?_
      refine al_9000 C z9000 (vp_l (by decide)) dL_law_1269 ?_
      refine x_iload C dL_law_1270 0 rfl ?_
      refine x_i2l C dL_law_1272 ?_
      refine x_lcmp C dL_law_1273 ?_
      refine x_if_eq (tgt := 1279) C dL_law_1274 (by decide) (fun c300 => ?_) (fun c300 => ?_)
      · replace h := h.1 c300
        refine X_sub (lv' := [(4, .int y4), (0, .ref b), (1, .ref (ga G 10 0)), (2, .ref (ga G 11 0)), (3, .ref (ga G 9000 0))]) [2, 3, 4, 5, 6] rfl ?_
        exact wL_law_1279 hG C hl0 hX hbl hbA hNc hQf hA9 hc9 hs9 hc0 hs0 hL23 M297 y4 h
      · replace h := h.2 c300
        refine x_iconst (v := 0) C dL_law_1277 rfl ?_
        exact h.elim
  · replace h := h.2 c298
    refine x_iconst (v := 0) C dL_law_1260 rfl ?_
    exact h.elim
set_option maxRecDepth 100000 in
set_option maxHeartbeats 400000 in
theorem wL_law_1347 {Γ : Gam} {G : Gm} {Qf : State → Prop} {xs : Nat → Int32} {b L ce sl : Nat} (hG : Gd G) (C : Cx Γ G cL_law 7 RL (some .boolean) room_1) (hl0 : (gl Γ).stackTraces = false) (hX : va_X b L xs (gs Γ) (gs Γ).heap) (hbl : b < (gs Γ).heap.size) (hbA : ¬ gA G b) (hNc : va_Nc EI EN (gs Γ)) (hQf : (gar Γ) = #[Value.ref b] ∧ Qf = lw_Z (gbe Γ) #[Value.ref b] (gs Γ)) (hA9 : ∀ q, gA G q → (gs Γ).heap.size ≤ q) (hc9 : ce + 8 ≤ room_1.cells) (hs9 : sl + 48 ≤ room_1.slots) (hc0 : ce ≤ room_1.cells) (hs0 : sl ≤ room_1.slots) {L23 : Mem × Int32 → Prop} (hL23 : ∀ s, L23 s → X Γ G Qf 7 (ce + 8) (sl + 48) 23 [(4, .int s.2), (0, .ref b), (1, .ref (ga G 10 0)), (2, .ref (ga G 11 0)), (3, .ref (ga G 9000 0))] [] s.1) (M : Mem) (y4 : Int32) (h : bL_law_1347 xs L L23 M y4) : X Γ G Qf 7 (ce + 1) (sl + 6) 1347 [(4, .int y4), (0, .ref b), (1, .ref (ga G 10 0)), (2, .ref (ga G 11 0)), (3, .ref (ga G 9000 0))] [] M := by
  unfold bL_law_1347 at h
  refine x_goto (tgt := 2690) C dL_law_1347 (by decide) ?_
  refine X_widen (c1 := ce + 4) (s1 := sl + 24) (Nat.add_le_add_left (Nat.le_of_ble_eq_true rfl) ce) (Nat.add_le_add_left (Nat.le_of_ble_eq_true rfl) sl) ?_
  refine X_sub (lv' := [(4, .int y4), (0, .ref b), (1, .ref (ga G 10 0)), (2, .ref (ga G 11 0)), (3, .ref (ga G 9000 0))]) [0, 1, 2, 3, 4] rfl ?_
  exact wL_law_2690 hG C hl0 hX hbl hbA hNc hQf hA9 hc9 hs9 hc0 hs0 hL23 M y4 h
set_option maxRecDepth 100000 in
set_option maxHeartbeats 400000 in
theorem wL_law_1282 {Γ : Gam} {G : Gm} {Qf : State → Prop} {xs : Nat → Int32} {b L ce sl : Nat} (hG : Gd G) (C : Cx Γ G cL_law 7 RL (some .boolean) room_1) (hl0 : (gl Γ).stackTraces = false) (hX : va_X b L xs (gs Γ) (gs Γ).heap) (hbl : b < (gs Γ).heap.size) (hbA : ¬ gA G b) (hNc : va_Nc EI EN (gs Γ)) (hQf : (gar Γ) = #[Value.ref b] ∧ Qf = lw_Z (gbe Γ) #[Value.ref b] (gs Γ)) (hA9 : ∀ q, gA G q → (gs Γ).heap.size ≤ q) (hc9 : ce + 8 ≤ room_1.cells) (hs9 : sl + 48 ≤ room_1.slots) (hc0 : ce ≤ room_1.cells) (hs0 : sl ≤ room_1.slots) {L23 : Mem × Int32 → Prop} (hL23 : ∀ s, L23 s → X Γ G Qf 7 (ce + 8) (sl + 48) 23 [(4, .int s.2), (0, .ref b), (1, .ref (ga G 10 0)), (2, .ref (ga G 11 0)), (3, .ref (ga G 9000 0))] [] s.1) (M : Mem) (y4 : Int32) (h : bL_law_1282 xs L L23 M y4) : X Γ G Qf 7 (ce + 0) (sl + 0) 1282 [(4, .int y4), (0, .ref b), (1, .ref (ga G 10 0)), (2, .ref (ga G 11 0)), (3, .ref (ga G 9000 0))] [] M := by
  unfold bL_law_1282 at h
  refine x_aload_n C dL_law_1282 2 rfl ?_
  refine x_aload_n C dL_law_1283 1 rfl ?_
  refine x_iload C dL_law_1284 0 rfl ?_
  refine x_iconst (v := 1) C dL_law_1286 rfl ?_
  refine x_iadd C dL_law_1287 ?_
  obtain ⟨f279, h⟩ := h
  refine x_sld C hX hbl hbA f279 dL_law_1288 ?_
  refine x_aload_n C dL_law_1289 1 rfl ?_
  refine x_iload C dL_law_1290 0 rfl ?_
  refine x_iconst (v := 2) C dL_law_1292 rfl ?_
  refine x_iadd C dL_law_1293 ?_
  obtain ⟨f280, h⟩ := h
  refine x_sld C hX hbl hbA f280 dL_law_1294 ?_
  refine x_aload_n C dL_law_1295 4 rfl ?_
  refine x_lcall (rest := []) (ce1 := ce + 1) (sl1 := sl + 6) C sl_L_191 hNc (kL_scored hG hl0 _ _ _ h) rfl rfl (Nat.le_of_ble_eq_true rfl) ⟨Nat.le_of_ble_eq_true rfl, Nat.le_of_ble_eq_true rfl⟩ rfl rfl ⟨Nat.le_trans (Nat.add_le_add_left (Nat.le_of_ble_eq_true rfl) ce) hc9, Nat.le_trans (Nat.add_le_add_left (Nat.le_of_ble_eq_true rfl) sl) hs9⟩ dL_law_1296 (fun r281 M282 h => ?_)
  refine x_istore (lv' := [(5, .int r281), (4, .int y4), (0, .ref b), (1, .ref (ga G 10 0)), (2, .ref (ga G 11 0)), (3, .ref (ga G 9000 0))]) C dL_law_1299 (Nat.le_of_ble_eq_true rfl) rfl ?_
  refine x_aload_n C dL_law_1301 4 rfl ?_
  refine x_aload_n C dL_law_1302 2 rfl ?_
  refine x_iload C dL_law_1303 1 rfl ?_
  refine x_iconst (v := 1) C dL_law_1305 rfl ?_
  refine x_iadd C dL_law_1306 ?_
  refine x_sld C hX hbl hbA f279 dL_law_1307 ?_
  refine x_aload_n C dL_law_1308 2 rfl ?_
  refine x_iload C dL_law_1309 1 rfl ?_
  refine x_iconst (v := 2) C dL_law_1311 rfl ?_
  refine x_iadd C dL_law_1312 ?_
  refine x_sld C hX hbl hbA f280 dL_law_1313 ?_
  refine x_calli (rest := []) (ce1 := ce + 1) (sl1 := sl + 6) C sv_L_193 ob11 z11 (kX11_scored hG _ _ _ h) rfl rfl (Nat.le_of_ble_eq_true rfl) ⟨Nat.le_of_ble_eq_true rfl, Nat.le_of_ble_eq_true rfl⟩ rfl rfl ⟨Nat.le_trans (Nat.add_le_add_left (Nat.le_of_ble_eq_true rfl) ce) hc9, Nat.le_trans (Nat.add_le_add_left (Nat.le_of_ble_eq_true rfl) sl) hs9⟩ dL_law_1314 (fun r283 M284 h => ?_)
  refine x_istore (lv' := [(6, .int r283), (5, .int r281), (4, .int y4), (0, .ref b), (1, .ref (ga G 10 0)), (2, .ref (ga G 11 0)), (3, .ref (ga G 9000 0))]) C dL_law_1317 (Nat.le_of_ble_eq_true rfl) rfl ?_
  refine x_aload_n C dL_law_1319 5 rfl ?_
  refine x_calli (rest := []) (ce1 := ce + 1) (sl1 := sl + 6) C sv_L_139 ob11 z11 (kX11_thrown hG _ h) rfl rfl (Nat.le_of_ble_eq_true rfl) ⟨Nat.le_of_ble_eq_true rfl, Nat.le_of_ble_eq_true rfl⟩ rfl rfl ⟨Nat.le_trans (Nat.add_le_add_left (Nat.le_of_ble_eq_true rfl) ce) hc9, Nat.le_trans (Nat.add_le_add_left (Nat.le_of_ble_eq_true rfl) sl) hs9⟩ dL_law_1320 (fun r285 M286 h => ?_)
  refine x_iload C dL_law_1323 1 rfl ?_
  refine x_icmp_eq (tgt := 1330) C dL_law_1325 (by decide) (fun c287 => ?_) (fun c287 => ?_)
  · replace h := h.1 c287
    refine x_iload C dL_law_1330 1 rfl ?_
    refine x_if_ne (tgt := 1347) C dL_law_1332 (by decide) (fun c288 => ?_) (fun c288 => ?_)
    · replace h := h.1 c288
      refine X_sub (lv' := [(4, .int y4), (0, .ref b), (1, .ref (ga G 10 0)), (2, .ref (ga G 11 0)), (3, .ref (ga G 9000 0))]) [2, 3, 4, 5, 6] rfl ?_
      exact wL_law_1347 hG C hl0 hX hbl hbA hNc hQf hA9 hc9 hs9 hc0 hs0 hL23 M286 y4 h
    · replace h := h.2 c288
      refine x_aload_n C dL_law_1335 6 rfl ?_
      refine x_iconst (v := 0) C dL_law_1336 rfl ?_
      refine al_9000 C z9000 (vp_l (by decide)) dL_law_1337 ?_
      refine x_iload C dL_law_1338 0 rfl ?_
      refine x_i2l C dL_law_1340 ?_
      refine x_lcmp C dL_law_1341 ?_
      refine x_if_eq (tgt := 1347) C dL_law_1342 (by decide) (fun c289 => ?_) (fun c289 => ?_)
      · replace h := h.1 c289
        refine X_sub (lv' := [(4, .int y4), (0, .ref b), (1, .ref (ga G 10 0)), (2, .ref (ga G 11 0)), (3, .ref (ga G 9000 0))]) [2, 3, 4, 5, 6] rfl ?_
        exact wL_law_1347 hG C hl0 hX hbl hbA hNc hQf hA9 hc9 hs9 hc0 hs0 hL23 M286 y4 h
      · replace h := h.2 c289
        refine x_iconst (v := 0) C dL_law_1345 rfl ?_
        exact h.elim
  · replace h := h.2 c287
    refine x_iconst (v := 0) C dL_law_1328 rfl ?_
    exact h.elim
set_option maxRecDepth 100000 in
set_option maxHeartbeats 400000 in
theorem wL_law_1403 {Γ : Gam} {G : Gm} {Qf : State → Prop} {xs : Nat → Int32} {b L ce sl : Nat} (hG : Gd G) (C : Cx Γ G cL_law 7 RL (some .boolean) room_1) (hl0 : (gl Γ).stackTraces = false) (hX : va_X b L xs (gs Γ) (gs Γ).heap) (hbl : b < (gs Γ).heap.size) (hbA : ¬ gA G b) (hNc : va_Nc EI EN (gs Γ)) (hQf : (gar Γ) = #[Value.ref b] ∧ Qf = lw_Z (gbe Γ) #[Value.ref b] (gs Γ)) (hA9 : ∀ q, gA G q → (gs Γ).heap.size ≤ q) (hc9 : ce + 8 ≤ room_1.cells) (hs9 : sl + 48 ≤ room_1.slots) (hc0 : ce ≤ room_1.cells) (hs0 : sl ≤ room_1.slots) {L23 : Mem × Int32 → Prop} (hL23 : ∀ s, L23 s → X Γ G Qf 7 (ce + 8) (sl + 48) 23 [(4, .int s.2), (0, .ref b), (1, .ref (ga G 10 0)), (2, .ref (ga G 11 0)), (3, .ref (ga G 9000 0))] [] s.1) (M : Mem) (y4 : Int32) (h : bL_law_1403 xs L L23 M y4) : X Γ G Qf 7 (ce + 1) (sl + 6) 1403 [(4, .int y4), (0, .ref b), (1, .ref (ga G 10 0)), (2, .ref (ga G 11 0)), (3, .ref (ga G 9000 0))] [] M := by
  unfold bL_law_1403 at h
  refine x_goto (tgt := 2690) C dL_law_1403 (by decide) ?_
  refine X_widen (c1 := ce + 4) (s1 := sl + 24) (Nat.add_le_add_left (Nat.le_of_ble_eq_true rfl) ce) (Nat.add_le_add_left (Nat.le_of_ble_eq_true rfl) sl) ?_
  refine X_sub (lv' := [(4, .int y4), (0, .ref b), (1, .ref (ga G 10 0)), (2, .ref (ga G 11 0)), (3, .ref (ga G 9000 0))]) [0, 1, 2, 3, 4] rfl ?_
  exact wL_law_2690 hG C hl0 hX hbl hbA hNc hQf hA9 hc9 hs9 hc0 hs0 hL23 M y4 h
set_option maxRecDepth 100000 in
set_option maxHeartbeats 400000 in
theorem wL_law_1350 {Γ : Gam} {G : Gm} {Qf : State → Prop} {xs : Nat → Int32} {b L ce sl : Nat} (hG : Gd G) (C : Cx Γ G cL_law 7 RL (some .boolean) room_1) (hl0 : (gl Γ).stackTraces = false) (hX : va_X b L xs (gs Γ) (gs Γ).heap) (hbl : b < (gs Γ).heap.size) (hbA : ¬ gA G b) (hNc : va_Nc EI EN (gs Γ)) (hQf : (gar Γ) = #[Value.ref b] ∧ Qf = lw_Z (gbe Γ) #[Value.ref b] (gs Γ)) (hA9 : ∀ q, gA G q → (gs Γ).heap.size ≤ q) (hc9 : ce + 8 ≤ room_1.cells) (hs9 : sl + 48 ≤ room_1.slots) (hc0 : ce ≤ room_1.cells) (hs0 : sl ≤ room_1.slots) {L23 : Mem × Int32 → Prop} (hL23 : ∀ s, L23 s → X Γ G Qf 7 (ce + 8) (sl + 48) 23 [(4, .int s.2), (0, .ref b), (1, .ref (ga G 10 0)), (2, .ref (ga G 11 0)), (3, .ref (ga G 9000 0))] [] s.1) (M : Mem) (y4 : Int32) (h : bL_law_1350 xs L L23 M y4) : X Γ G Qf 7 (ce + 0) (sl + 0) 1350 [(4, .int y4), (0, .ref b), (1, .ref (ga G 10 0)), (2, .ref (ga G 11 0)), (3, .ref (ga G 9000 0))] [] M := by
  unfold bL_law_1350 at h
  refine x_aload_n C dL_law_1350 2 rfl ?_
  refine x_aload_n C dL_law_1351 1 rfl ?_
  refine x_iload C dL_law_1352 0 rfl ?_
  refine x_iconst (v := 1) C dL_law_1354 rfl ?_
  refine x_iadd C dL_law_1355 ?_
  obtain ⟨f269, h⟩ := h
  refine x_sld C hX hbl hbA f269 dL_law_1356 ?_
  refine x_aload_n C dL_law_1357 4 rfl ?_
  refine x_lcall (rest := []) (ce1 := ce + 1) (sl1 := sl + 6) C sl_L_194 hNc (kL_why hG hl0 _ _ h) rfl rfl (Nat.le_of_ble_eq_true rfl) ⟨Nat.le_of_ble_eq_true rfl, Nat.le_of_ble_eq_true rfl⟩ rfl rfl ⟨Nat.le_trans (Nat.add_le_add_left (Nat.le_of_ble_eq_true rfl) ce) hc9, Nat.le_trans (Nat.add_le_add_left (Nat.le_of_ble_eq_true rfl) sl) hs9⟩ dL_law_1358 (fun r270 M271 h => ?_)
  refine x_istore (lv' := [(5, .int r270), (4, .int y4), (0, .ref b), (1, .ref (ga G 10 0)), (2, .ref (ga G 11 0)), (3, .ref (ga G 9000 0))]) C dL_law_1361 (Nat.le_of_ble_eq_true rfl) rfl ?_
  refine x_aload_n C dL_law_1363 4 rfl ?_
  refine x_aload_n C dL_law_1364 2 rfl ?_
  refine x_iload C dL_law_1365 1 rfl ?_
  refine x_iconst (v := 1) C dL_law_1367 rfl ?_
  refine x_iadd C dL_law_1368 ?_
  refine x_sld C hX hbl hbA f269 dL_law_1369 ?_
  refine x_calli (rest := []) (ce1 := ce + 1) (sl1 := sl + 6) C sv_L_196 ob11 z11 (kX11_why hG _ _ h) rfl rfl (Nat.le_of_ble_eq_true rfl) ⟨Nat.le_of_ble_eq_true rfl, Nat.le_of_ble_eq_true rfl⟩ rfl rfl ⟨Nat.le_trans (Nat.add_le_add_left (Nat.le_of_ble_eq_true rfl) ce) hc9, Nat.le_trans (Nat.add_le_add_left (Nat.le_of_ble_eq_true rfl) sl) hs9⟩ dL_law_1370 (fun r272 M273 h => ?_)
  refine x_istore (lv' := [(6, .int r272), (5, .int r270), (4, .int y4), (0, .ref b), (1, .ref (ga G 10 0)), (2, .ref (ga G 11 0)), (3, .ref (ga G 9000 0))]) C dL_law_1373 (Nat.le_of_ble_eq_true rfl) rfl ?_
  refine x_aload_n C dL_law_1375 5 rfl ?_
  refine x_calli (rest := []) (ce1 := ce + 1) (sl1 := sl + 6) C sv_L_139 ob11 z11 (kX11_thrown hG _ h) rfl rfl (Nat.le_of_ble_eq_true rfl) ⟨Nat.le_of_ble_eq_true rfl, Nat.le_of_ble_eq_true rfl⟩ rfl rfl ⟨Nat.le_trans (Nat.add_le_add_left (Nat.le_of_ble_eq_true rfl) ce) hc9, Nat.le_trans (Nat.add_le_add_left (Nat.le_of_ble_eq_true rfl) sl) hs9⟩ dL_law_1376 (fun r274 M275 h => ?_)
  refine x_iload C dL_law_1379 1 rfl ?_
  refine x_icmp_eq (tgt := 1386) C dL_law_1381 (by decide) (fun c276 => ?_) (fun c276 => ?_)
  · replace h := h.1 c276
    refine x_iload C dL_law_1386 1 rfl ?_
    refine x_if_ne (tgt := 1403) C dL_law_1388 (by decide) (fun c277 => ?_) (fun c277 => ?_)
    · replace h := h.1 c277
      refine X_sub (lv' := [(4, .int y4), (0, .ref b), (1, .ref (ga G 10 0)), (2, .ref (ga G 11 0)), (3, .ref (ga G 9000 0))]) [2, 3, 4, 5, 6] rfl ?_
      exact wL_law_1403 hG C hl0 hX hbl hbA hNc hQf hA9 hc9 hs9 hc0 hs0 hL23 M275 y4 h
    · replace h := h.2 c277
      refine x_aload_n C dL_law_1391 6 rfl ?_
      refine x_iconst (v := 0) C dL_law_1392 rfl ?_
      refine al_9000 C z9000 (vp_l (by decide)) dL_law_1393 ?_
      refine x_iload C dL_law_1394 0 rfl ?_
      refine x_i2l C dL_law_1396 ?_
      refine x_lcmp C dL_law_1397 ?_
      refine x_if_eq (tgt := 1403) C dL_law_1398 (by decide) (fun c278 => ?_) (fun c278 => ?_)
      · replace h := h.1 c278
        refine X_sub (lv' := [(4, .int y4), (0, .ref b), (1, .ref (ga G 10 0)), (2, .ref (ga G 11 0)), (3, .ref (ga G 9000 0))]) [2, 3, 4, 5, 6] rfl ?_
        exact wL_law_1403 hG C hl0 hX hbl hbA hNc hQf hA9 hc9 hs9 hc0 hs0 hL23 M275 y4 h
      · replace h := h.2 c278
        refine x_iconst (v := 0) C dL_law_1401 rfl ?_
        exact h.elim
  · replace h := h.2 c276
    refine x_iconst (v := 0) C dL_law_1384 rfl ?_
    exact h.elim
set_option maxRecDepth 100000 in
set_option maxHeartbeats 400000 in
theorem wL_law_1459 {Γ : Gam} {G : Gm} {Qf : State → Prop} {xs : Nat → Int32} {b L ce sl : Nat} (hG : Gd G) (C : Cx Γ G cL_law 7 RL (some .boolean) room_1) (hl0 : (gl Γ).stackTraces = false) (hX : va_X b L xs (gs Γ) (gs Γ).heap) (hbl : b < (gs Γ).heap.size) (hbA : ¬ gA G b) (hNc : va_Nc EI EN (gs Γ)) (hQf : (gar Γ) = #[Value.ref b] ∧ Qf = lw_Z (gbe Γ) #[Value.ref b] (gs Γ)) (hA9 : ∀ q, gA G q → (gs Γ).heap.size ≤ q) (hc9 : ce + 8 ≤ room_1.cells) (hs9 : sl + 48 ≤ room_1.slots) (hc0 : ce ≤ room_1.cells) (hs0 : sl ≤ room_1.slots) {L23 : Mem × Int32 → Prop} (hL23 : ∀ s, L23 s → X Γ G Qf 7 (ce + 8) (sl + 48) 23 [(4, .int s.2), (0, .ref b), (1, .ref (ga G 10 0)), (2, .ref (ga G 11 0)), (3, .ref (ga G 9000 0))] [] s.1) (M : Mem) (y4 : Int32) (h : bL_law_1459 xs L L23 M y4) : X Γ G Qf 7 (ce + 1) (sl + 6) 1459 [(4, .int y4), (0, .ref b), (1, .ref (ga G 10 0)), (2, .ref (ga G 11 0)), (3, .ref (ga G 9000 0))] [] M := by
  unfold bL_law_1459 at h
  refine x_goto (tgt := 2690) C dL_law_1459 (by decide) ?_
  refine X_widen (c1 := ce + 4) (s1 := sl + 24) (Nat.add_le_add_left (Nat.le_of_ble_eq_true rfl) ce) (Nat.add_le_add_left (Nat.le_of_ble_eq_true rfl) sl) ?_
  refine X_sub (lv' := [(4, .int y4), (0, .ref b), (1, .ref (ga G 10 0)), (2, .ref (ga G 11 0)), (3, .ref (ga G 9000 0))]) [0, 1, 2, 3, 4] rfl ?_
  exact wL_law_2690 hG C hl0 hX hbl hbA hNc hQf hA9 hc9 hs9 hc0 hs0 hL23 M y4 h
set_option maxRecDepth 100000 in
set_option maxHeartbeats 400000 in
theorem wL_law_1406 {Γ : Gam} {G : Gm} {Qf : State → Prop} {xs : Nat → Int32} {b L ce sl : Nat} (hG : Gd G) (C : Cx Γ G cL_law 7 RL (some .boolean) room_1) (hl0 : (gl Γ).stackTraces = false) (hX : va_X b L xs (gs Γ) (gs Γ).heap) (hbl : b < (gs Γ).heap.size) (hbA : ¬ gA G b) (hNc : va_Nc EI EN (gs Γ)) (hQf : (gar Γ) = #[Value.ref b] ∧ Qf = lw_Z (gbe Γ) #[Value.ref b] (gs Γ)) (hA9 : ∀ q, gA G q → (gs Γ).heap.size ≤ q) (hc9 : ce + 8 ≤ room_1.cells) (hs9 : sl + 48 ≤ room_1.slots) (hc0 : ce ≤ room_1.cells) (hs0 : sl ≤ room_1.slots) {L23 : Mem × Int32 → Prop} (hL23 : ∀ s, L23 s → X Γ G Qf 7 (ce + 8) (sl + 48) 23 [(4, .int s.2), (0, .ref b), (1, .ref (ga G 10 0)), (2, .ref (ga G 11 0)), (3, .ref (ga G 9000 0))] [] s.1) (M : Mem) (y4 : Int32) (h : bL_law_1406 xs L L23 M y4) : X Γ G Qf 7 (ce + 0) (sl + 0) 1406 [(4, .int y4), (0, .ref b), (1, .ref (ga G 10 0)), (2, .ref (ga G 11 0)), (3, .ref (ga G 9000 0))] [] M := by
  unfold bL_law_1406 at h
  refine x_aload_n C dL_law_1406 2 rfl ?_
  refine x_aload_n C dL_law_1407 1 rfl ?_
  refine x_iload C dL_law_1408 0 rfl ?_
  refine x_iconst (v := 1) C dL_law_1410 rfl ?_
  refine x_iadd C dL_law_1411 ?_
  obtain ⟨f259, h⟩ := h
  refine x_sld C hX hbl hbA f259 dL_law_1412 ?_
  refine x_aload_n C dL_law_1413 4 rfl ?_
  refine x_lcall (rest := []) (ce1 := ce + 1) (sl1 := sl + 6) C sl_L_197 hNc (kL_score hG hl0 _ _ h) rfl rfl (Nat.le_of_ble_eq_true rfl) ⟨Nat.le_of_ble_eq_true rfl, Nat.le_of_ble_eq_true rfl⟩ rfl rfl ⟨Nat.le_trans (Nat.add_le_add_left (Nat.le_of_ble_eq_true rfl) ce) hc9, Nat.le_trans (Nat.add_le_add_left (Nat.le_of_ble_eq_true rfl) sl) hs9⟩ dL_law_1414 (fun r260 M261 h => ?_)
  refine x_istore (lv' := [(5, .int r260), (4, .int y4), (0, .ref b), (1, .ref (ga G 10 0)), (2, .ref (ga G 11 0)), (3, .ref (ga G 9000 0))]) C dL_law_1417 (Nat.le_of_ble_eq_true rfl) rfl ?_
  refine x_aload_n C dL_law_1419 4 rfl ?_
  refine x_aload_n C dL_law_1420 2 rfl ?_
  refine x_iload C dL_law_1421 1 rfl ?_
  refine x_iconst (v := 1) C dL_law_1423 rfl ?_
  refine x_iadd C dL_law_1424 ?_
  refine x_sld C hX hbl hbA f259 dL_law_1425 ?_
  refine x_calli (rest := []) (ce1 := ce + 1) (sl1 := sl + 6) C sv_L_199 ob11 z11 (kX11_score hG _ _ h) rfl rfl (Nat.le_of_ble_eq_true rfl) ⟨Nat.le_of_ble_eq_true rfl, Nat.le_of_ble_eq_true rfl⟩ rfl rfl ⟨Nat.le_trans (Nat.add_le_add_left (Nat.le_of_ble_eq_true rfl) ce) hc9, Nat.le_trans (Nat.add_le_add_left (Nat.le_of_ble_eq_true rfl) sl) hs9⟩ dL_law_1426 (fun r262 M263 h => ?_)
  refine x_istore (lv' := [(6, .int r262), (5, .int r260), (4, .int y4), (0, .ref b), (1, .ref (ga G 10 0)), (2, .ref (ga G 11 0)), (3, .ref (ga G 9000 0))]) C dL_law_1429 (Nat.le_of_ble_eq_true rfl) rfl ?_
  refine x_aload_n C dL_law_1431 5 rfl ?_
  refine x_calli (rest := []) (ce1 := ce + 1) (sl1 := sl + 6) C sv_L_139 ob11 z11 (kX11_thrown hG _ h) rfl rfl (Nat.le_of_ble_eq_true rfl) ⟨Nat.le_of_ble_eq_true rfl, Nat.le_of_ble_eq_true rfl⟩ rfl rfl ⟨Nat.le_trans (Nat.add_le_add_left (Nat.le_of_ble_eq_true rfl) ce) hc9, Nat.le_trans (Nat.add_le_add_left (Nat.le_of_ble_eq_true rfl) sl) hs9⟩ dL_law_1432 (fun r264 M265 h => ?_)
  refine x_iload C dL_law_1435 1 rfl ?_
  refine x_icmp_eq (tgt := 1442) C dL_law_1437 (by decide) (fun c266 => ?_) (fun c266 => ?_)
  · replace h := h.1 c266
    refine x_iload C dL_law_1442 1 rfl ?_
    refine x_if_ne (tgt := 1459) C dL_law_1444 (by decide) (fun c267 => ?_) (fun c267 => ?_)
    · replace h := h.1 c267
      refine X_sub (lv' := [(4, .int y4), (0, .ref b), (1, .ref (ga G 10 0)), (2, .ref (ga G 11 0)), (3, .ref (ga G 9000 0))]) [2, 3, 4, 5, 6] rfl ?_
      exact wL_law_1459 hG C hl0 hX hbl hbA hNc hQf hA9 hc9 hs9 hc0 hs0 hL23 M265 y4 h
    · replace h := h.2 c267
      refine x_aload_n C dL_law_1447 6 rfl ?_
      refine x_iconst (v := 0) C dL_law_1448 rfl ?_
      refine al_9000 C z9000 (vp_l (by decide)) dL_law_1449 ?_
      refine x_iload C dL_law_1450 0 rfl ?_
      refine x_i2l C dL_law_1452 ?_
      refine x_lcmp C dL_law_1453 ?_
      refine x_if_eq (tgt := 1459) C dL_law_1454 (by decide) (fun c268 => ?_) (fun c268 => ?_)
      · replace h := h.1 c268
        refine X_sub (lv' := [(4, .int y4), (0, .ref b), (1, .ref (ga G 10 0)), (2, .ref (ga G 11 0)), (3, .ref (ga G 9000 0))]) [2, 3, 4, 5, 6] rfl ?_
        exact wL_law_1459 hG C hl0 hX hbl hbA hNc hQf hA9 hc9 hs9 hc0 hs0 hL23 M265 y4 h
      · replace h := h.2 c268
        refine x_iconst (v := 0) C dL_law_1457 rfl ?_
        exact h.elim
  · replace h := h.2 c266
    refine x_iconst (v := 0) C dL_law_1440 rfl ?_
    exact h.elim
set_option maxRecDepth 100000 in
set_option maxHeartbeats 400000 in
theorem wL_law_1515 {Γ : Gam} {G : Gm} {Qf : State → Prop} {xs : Nat → Int32} {b L ce sl : Nat} (hG : Gd G) (C : Cx Γ G cL_law 7 RL (some .boolean) room_1) (hl0 : (gl Γ).stackTraces = false) (hX : va_X b L xs (gs Γ) (gs Γ).heap) (hbl : b < (gs Γ).heap.size) (hbA : ¬ gA G b) (hNc : va_Nc EI EN (gs Γ)) (hQf : (gar Γ) = #[Value.ref b] ∧ Qf = lw_Z (gbe Γ) #[Value.ref b] (gs Γ)) (hA9 : ∀ q, gA G q → (gs Γ).heap.size ≤ q) (hc9 : ce + 8 ≤ room_1.cells) (hs9 : sl + 48 ≤ room_1.slots) (hc0 : ce ≤ room_1.cells) (hs0 : sl ≤ room_1.slots) {L23 : Mem × Int32 → Prop} (hL23 : ∀ s, L23 s → X Γ G Qf 7 (ce + 8) (sl + 48) 23 [(4, .int s.2), (0, .ref b), (1, .ref (ga G 10 0)), (2, .ref (ga G 11 0)), (3, .ref (ga G 9000 0))] [] s.1) (M : Mem) (y4 : Int32) (h : bL_law_1515 xs L L23 M y4) : X Γ G Qf 7 (ce + 1) (sl + 6) 1515 [(4, .int y4), (0, .ref b), (1, .ref (ga G 10 0)), (2, .ref (ga G 11 0)), (3, .ref (ga G 9000 0))] [] M := by
  unfold bL_law_1515 at h
  refine x_goto (tgt := 2690) C dL_law_1515 (by decide) ?_
  refine X_widen (c1 := ce + 4) (s1 := sl + 24) (Nat.add_le_add_left (Nat.le_of_ble_eq_true rfl) ce) (Nat.add_le_add_left (Nat.le_of_ble_eq_true rfl) sl) ?_
  refine X_sub (lv' := [(4, .int y4), (0, .ref b), (1, .ref (ga G 10 0)), (2, .ref (ga G 11 0)), (3, .ref (ga G 9000 0))]) [0, 1, 2, 3, 4] rfl ?_
  exact wL_law_2690 hG C hl0 hX hbl hbA hNc hQf hA9 hc9 hs9 hc0 hs0 hL23 M y4 h
set_option maxRecDepth 100000 in
set_option maxHeartbeats 400000 in
theorem wL_law_1462 {Γ : Gam} {G : Gm} {Qf : State → Prop} {xs : Nat → Int32} {b L ce sl : Nat} (hG : Gd G) (C : Cx Γ G cL_law 7 RL (some .boolean) room_1) (hl0 : (gl Γ).stackTraces = false) (hX : va_X b L xs (gs Γ) (gs Γ).heap) (hbl : b < (gs Γ).heap.size) (hbA : ¬ gA G b) (hNc : va_Nc EI EN (gs Γ)) (hQf : (gar Γ) = #[Value.ref b] ∧ Qf = lw_Z (gbe Γ) #[Value.ref b] (gs Γ)) (hA9 : ∀ q, gA G q → (gs Γ).heap.size ≤ q) (hc9 : ce + 8 ≤ room_1.cells) (hs9 : sl + 48 ≤ room_1.slots) (hc0 : ce ≤ room_1.cells) (hs0 : sl ≤ room_1.slots) {L23 : Mem × Int32 → Prop} (hL23 : ∀ s, L23 s → X Γ G Qf 7 (ce + 8) (sl + 48) 23 [(4, .int s.2), (0, .ref b), (1, .ref (ga G 10 0)), (2, .ref (ga G 11 0)), (3, .ref (ga G 9000 0))] [] s.1) (M : Mem) (y4 : Int32) (h : bL_law_1462 xs L L23 M y4) : X Γ G Qf 7 (ce + 0) (sl + 0) 1462 [(4, .int y4), (0, .ref b), (1, .ref (ga G 10 0)), (2, .ref (ga G 11 0)), (3, .ref (ga G 9000 0))] [] M := by
  unfold bL_law_1462 at h
  refine x_aload_n C dL_law_1462 2 rfl ?_
  refine x_aload_n C dL_law_1463 1 rfl ?_
  refine x_iload C dL_law_1464 0 rfl ?_
  refine x_iconst (v := 1) C dL_law_1466 rfl ?_
  refine x_iadd C dL_law_1467 ?_
  obtain ⟨f249, h⟩ := h
  refine x_sld C hX hbl hbA f249 dL_law_1468 ?_
  refine x_aload_n C dL_law_1469 4 rfl ?_
  refine x_lcall (rest := []) (ce1 := ce + 1) (sl1 := sl + 6) C sl_L_200 hNc (kL_near hG hl0 _ _ h) rfl rfl (Nat.le_of_ble_eq_true rfl) ⟨Nat.le_of_ble_eq_true rfl, Nat.le_of_ble_eq_true rfl⟩ rfl rfl ⟨Nat.le_trans (Nat.add_le_add_left (Nat.le_of_ble_eq_true rfl) ce) hc9, Nat.le_trans (Nat.add_le_add_left (Nat.le_of_ble_eq_true rfl) sl) hs9⟩ dL_law_1470 (fun r250 M251 h => ?_)
  refine x_istore (lv' := [(5, .int r250), (4, .int y4), (0, .ref b), (1, .ref (ga G 10 0)), (2, .ref (ga G 11 0)), (3, .ref (ga G 9000 0))]) C dL_law_1473 (Nat.le_of_ble_eq_true rfl) rfl ?_
  refine x_aload_n C dL_law_1475 4 rfl ?_
  refine x_aload_n C dL_law_1476 2 rfl ?_
  refine x_iload C dL_law_1477 1 rfl ?_
  refine x_iconst (v := 1) C dL_law_1479 rfl ?_
  refine x_iadd C dL_law_1480 ?_
  refine x_sld C hX hbl hbA f249 dL_law_1481 ?_
  refine x_calli (rest := []) (ce1 := ce + 1) (sl1 := sl + 6) C sv_L_202 ob11 z11 (kX11_near hG _ _ h) rfl rfl (Nat.le_of_ble_eq_true rfl) ⟨Nat.le_of_ble_eq_true rfl, Nat.le_of_ble_eq_true rfl⟩ rfl rfl ⟨Nat.le_trans (Nat.add_le_add_left (Nat.le_of_ble_eq_true rfl) ce) hc9, Nat.le_trans (Nat.add_le_add_left (Nat.le_of_ble_eq_true rfl) sl) hs9⟩ dL_law_1482 (fun r252 M253 h => ?_)
  refine x_istore (lv' := [(6, .int r252), (5, .int r250), (4, .int y4), (0, .ref b), (1, .ref (ga G 10 0)), (2, .ref (ga G 11 0)), (3, .ref (ga G 9000 0))]) C dL_law_1485 (Nat.le_of_ble_eq_true rfl) rfl ?_
  refine x_aload_n C dL_law_1487 5 rfl ?_
  refine x_calli (rest := []) (ce1 := ce + 1) (sl1 := sl + 6) C sv_L_139 ob11 z11 (kX11_thrown hG _ h) rfl rfl (Nat.le_of_ble_eq_true rfl) ⟨Nat.le_of_ble_eq_true rfl, Nat.le_of_ble_eq_true rfl⟩ rfl rfl ⟨Nat.le_trans (Nat.add_le_add_left (Nat.le_of_ble_eq_true rfl) ce) hc9, Nat.le_trans (Nat.add_le_add_left (Nat.le_of_ble_eq_true rfl) sl) hs9⟩ dL_law_1488 (fun r254 M255 h => ?_)
  refine x_iload C dL_law_1491 1 rfl ?_
  refine x_icmp_eq (tgt := 1498) C dL_law_1493 (by decide) (fun c256 => ?_) (fun c256 => ?_)
  · replace h := h.1 c256
    refine x_iload C dL_law_1498 1 rfl ?_
    refine x_if_ne (tgt := 1515) C dL_law_1500 (by decide) (fun c257 => ?_) (fun c257 => ?_)
    · replace h := h.1 c257
      refine X_sub (lv' := [(4, .int y4), (0, .ref b), (1, .ref (ga G 10 0)), (2, .ref (ga G 11 0)), (3, .ref (ga G 9000 0))]) [2, 3, 4, 5, 6] rfl ?_
      exact wL_law_1515 hG C hl0 hX hbl hbA hNc hQf hA9 hc9 hs9 hc0 hs0 hL23 M255 y4 h
    · replace h := h.2 c257
      refine x_aload_n C dL_law_1503 6 rfl ?_
      refine x_iconst (v := 0) C dL_law_1504 rfl ?_
      refine al_9000 C z9000 (vp_l (by decide)) dL_law_1505 ?_
      refine x_iload C dL_law_1506 0 rfl ?_
      refine x_i2l C dL_law_1508 ?_
      refine x_lcmp C dL_law_1509 ?_
      refine x_if_eq (tgt := 1515) C dL_law_1510 (by decide) (fun c258 => ?_) (fun c258 => ?_)
      · replace h := h.1 c258
        refine X_sub (lv' := [(4, .int y4), (0, .ref b), (1, .ref (ga G 10 0)), (2, .ref (ga G 11 0)), (3, .ref (ga G 9000 0))]) [2, 3, 4, 5, 6] rfl ?_
        exact wL_law_1515 hG C hl0 hX hbl hbA hNc hQf hA9 hc9 hs9 hc0 hs0 hL23 M255 y4 h
      · replace h := h.2 c258
        refine x_iconst (v := 0) C dL_law_1513 rfl ?_
        exact h.elim
  · replace h := h.2 c256
    refine x_iconst (v := 0) C dL_law_1496 rfl ?_
    exact h.elim
set_option maxRecDepth 100000 in
set_option maxHeartbeats 400000 in
theorem wL_law_1583 {Γ : Gam} {G : Gm} {Qf : State → Prop} {xs : Nat → Int32} {b L ce sl : Nat} (hG : Gd G) (C : Cx Γ G cL_law 7 RL (some .boolean) room_1) (hl0 : (gl Γ).stackTraces = false) (hX : va_X b L xs (gs Γ) (gs Γ).heap) (hbl : b < (gs Γ).heap.size) (hbA : ¬ gA G b) (hNc : va_Nc EI EN (gs Γ)) (hQf : (gar Γ) = #[Value.ref b] ∧ Qf = lw_Z (gbe Γ) #[Value.ref b] (gs Γ)) (hA9 : ∀ q, gA G q → (gs Γ).heap.size ≤ q) (hc9 : ce + 8 ≤ room_1.cells) (hs9 : sl + 48 ≤ room_1.slots) (hc0 : ce ≤ room_1.cells) (hs0 : sl ≤ room_1.slots) {L23 : Mem × Int32 → Prop} (hL23 : ∀ s, L23 s → X Γ G Qf 7 (ce + 8) (sl + 48) 23 [(4, .int s.2), (0, .ref b), (1, .ref (ga G 10 0)), (2, .ref (ga G 11 0)), (3, .ref (ga G 9000 0))] [] s.1) (M : Mem) (y4 : Int32) (h : bL_law_1583 xs L L23 M y4) : X Γ G Qf 7 (ce + 2) (sl + 12) 1583 [(4, .int y4), (0, .ref b), (1, .ref (ga G 10 0)), (2, .ref (ga G 11 0)), (3, .ref (ga G 9000 0))] [] M := by
  unfold bL_law_1583 at h
  refine x_goto (tgt := 2690) C dL_law_1583 (by decide) ?_
  refine X_widen (c1 := ce + 4) (s1 := sl + 24) (Nat.add_le_add_left (Nat.le_of_ble_eq_true rfl) ce) (Nat.add_le_add_left (Nat.le_of_ble_eq_true rfl) sl) ?_
  refine X_sub (lv' := [(4, .int y4), (0, .ref b), (1, .ref (ga G 10 0)), (2, .ref (ga G 11 0)), (3, .ref (ga G 9000 0))]) [0, 1, 2, 3, 4] rfl ?_
  exact wL_law_2690 hG C hl0 hX hbl hbA hNc hQf hA9 hc9 hs9 hc0 hs0 hL23 M y4 h
set_option maxRecDepth 100000 in
set_option maxHeartbeats 400000 in
theorem wL_law_1518 {Γ : Gam} {G : Gm} {Qf : State → Prop} {xs : Nat → Int32} {b L ce sl : Nat} (hG : Gd G) (C : Cx Γ G cL_law 7 RL (some .boolean) room_1) (hl0 : (gl Γ).stackTraces = false) (hX : va_X b L xs (gs Γ) (gs Γ).heap) (hbl : b < (gs Γ).heap.size) (hbA : ¬ gA G b) (hNc : va_Nc EI EN (gs Γ)) (hQf : (gar Γ) = #[Value.ref b] ∧ Qf = lw_Z (gbe Γ) #[Value.ref b] (gs Γ)) (hA9 : ∀ q, gA G q → (gs Γ).heap.size ≤ q) (hc9 : ce + 8 ≤ room_1.cells) (hs9 : sl + 48 ≤ room_1.slots) (hc0 : ce ≤ room_1.cells) (hs0 : sl ≤ room_1.slots) {L23 : Mem × Int32 → Prop} (hL23 : ∀ s, L23 s → X Γ G Qf 7 (ce + 8) (sl + 48) 23 [(4, .int s.2), (0, .ref b), (1, .ref (ga G 10 0)), (2, .ref (ga G 11 0)), (3, .ref (ga G 9000 0))] [] s.1) (M : Mem) (y4 : Int32) (h : bL_law_1518 xs L L23 M y4) : X Γ G Qf 7 (ce + 0) (sl + 0) 1518 [(4, .int y4), (0, .ref b), (1, .ref (ga G 10 0)), (2, .ref (ga G 11 0)), (3, .ref (ga G 9000 0))] [] M := by
  unfold bL_law_1518 at h
  refine x_aload_n C dL_law_1518 2 rfl ?_
  refine x_aload_n C dL_law_1519 1 rfl ?_
  refine x_iload C dL_law_1520 0 rfl ?_
  refine x_iconst (v := 1) C dL_law_1522 rfl ?_
  refine x_iadd C dL_law_1523 ?_
  obtain ⟨f238, h⟩ := h
  refine x_sld C hX hbl hbA f238 dL_law_1524 ?_
  refine x_aload_n C dL_law_1525 1 rfl ?_
  refine x_iload C dL_law_1526 0 rfl ?_
  refine x_iconst (v := 2) C dL_law_1528 rfl ?_
  refine x_iadd C dL_law_1529 ?_
  obtain ⟨f239, h⟩ := h
  refine x_sld C hX hbl hbA f239 dL_law_1530 ?_
  refine x_aload_n C dL_law_1531 4 rfl ?_
  refine x_lcall (rest := []) (ce1 := ce + 2) (sl1 := sl + 12) C sl_L_203 hNc (kL_window hG hl0 _ _ _ h) rfl rfl (Nat.le_of_ble_eq_true rfl) ⟨Nat.le_of_ble_eq_true rfl, Nat.le_of_ble_eq_true rfl⟩ rfl rfl ⟨Nat.le_trans (Nat.add_le_add_left (Nat.le_of_ble_eq_true rfl) ce) hc9, Nat.le_trans (Nat.add_le_add_left (Nat.le_of_ble_eq_true rfl) sl) hs9⟩ dL_law_1532 (fun r240 M241 h => ?_)
  refine x_istore (lv' := [(5, .int r240), (4, .int y4), (0, .ref b), (1, .ref (ga G 10 0)), (2, .ref (ga G 11 0)), (3, .ref (ga G 9000 0))]) C dL_law_1535 (Nat.le_of_ble_eq_true rfl) rfl ?_
  refine x_aload_n C dL_law_1537 4 rfl ?_
  refine x_aload_n C dL_law_1538 2 rfl ?_
  refine x_iload C dL_law_1539 1 rfl ?_
  refine x_iconst (v := 1) C dL_law_1541 rfl ?_
  refine x_iadd C dL_law_1542 ?_
  refine x_sld C hX hbl hbA f238 dL_law_1543 ?_
  refine x_aload_n C dL_law_1544 2 rfl ?_
  refine x_iload C dL_law_1545 1 rfl ?_
  refine x_iconst (v := 2) C dL_law_1547 rfl ?_
  refine x_iadd C dL_law_1548 ?_
  refine x_sld C hX hbl hbA f239 dL_law_1549 ?_
  refine x_calli (rest := []) (ce1 := ce + 2) (sl1 := sl + 12) C sv_L_205 ob11 z11 (kX11_window hG _ _ _ h) rfl rfl (Nat.le_of_ble_eq_true rfl) ⟨Nat.le_of_ble_eq_true rfl, Nat.le_of_ble_eq_true rfl⟩ rfl rfl ⟨Nat.le_trans (Nat.add_le_add_left (Nat.le_of_ble_eq_true rfl) ce) hc9, Nat.le_trans (Nat.add_le_add_left (Nat.le_of_ble_eq_true rfl) sl) hs9⟩ dL_law_1550 (fun r242 M243 h => ?_)
  refine x_istore (lv' := [(6, .int r242), (5, .int r240), (4, .int y4), (0, .ref b), (1, .ref (ga G 10 0)), (2, .ref (ga G 11 0)), (3, .ref (ga G 9000 0))]) C dL_law_1553 (Nat.le_of_ble_eq_true rfl) rfl ?_
  refine x_aload_n C dL_law_1555 5 rfl ?_
  refine x_calli (rest := []) (ce1 := ce + 2) (sl1 := sl + 12) C sv_L_139 ob11 z11 (kX11_thrown hG _ h) rfl rfl (Nat.le_of_ble_eq_true rfl) ⟨Nat.le_of_ble_eq_true rfl, Nat.le_of_ble_eq_true rfl⟩ rfl rfl ⟨Nat.le_trans (Nat.add_le_add_left (Nat.le_of_ble_eq_true rfl) ce) hc9, Nat.le_trans (Nat.add_le_add_left (Nat.le_of_ble_eq_true rfl) sl) hs9⟩ dL_law_1556 (fun r244 M245 h => ?_)
  refine x_iload C dL_law_1559 1 rfl ?_
  refine x_icmp_eq (tgt := 1566) C dL_law_1561 (by decide) (fun c246 => ?_) (fun c246 => ?_)
  · replace h := h.1 c246
    refine x_iload C dL_law_1566 1 rfl ?_
    refine x_if_ne (tgt := 1583) C dL_law_1568 (by decide) (fun c247 => ?_) (fun c247 => ?_)
    · replace h := h.1 c247
      refine X_sub (lv' := [(4, .int y4), (0, .ref b), (1, .ref (ga G 10 0)), (2, .ref (ga G 11 0)), (3, .ref (ga G 9000 0))]) [2, 3, 4, 5, 6] rfl ?_
      exact wL_law_1583 hG C hl0 hX hbl hbA hNc hQf hA9 hc9 hs9 hc0 hs0 hL23 M245 y4 h
    · replace h := h.2 c247
      refine x_aload_n C dL_law_1571 6 rfl ?_
      refine x_iconst (v := 0) C dL_law_1572 rfl ?_
      refine al_9000 C z9000 (vp_l (by decide)) dL_law_1573 ?_
      refine x_iload C dL_law_1574 0 rfl ?_
      refine x_i2l C dL_law_1576 ?_
      refine x_lcmp C dL_law_1577 ?_
      refine x_if_eq (tgt := 1583) C dL_law_1578 (by decide) (fun c248 => ?_) (fun c248 => ?_)
      · replace h := h.1 c248
        refine X_sub (lv' := [(4, .int y4), (0, .ref b), (1, .ref (ga G 10 0)), (2, .ref (ga G 11 0)), (3, .ref (ga G 9000 0))]) [2, 3, 4, 5, 6] rfl ?_
        exact wL_law_1583 hG C hl0 hX hbl hbA hNc hQf hA9 hc9 hs9 hc0 hs0 hL23 M245 y4 h
      · replace h := h.2 c248
        refine x_iconst (v := 0) C dL_law_1581 rfl ?_
        exact h.elim
  · replace h := h.2 c246
    refine x_iconst (v := 0) C dL_law_1564 rfl ?_
    exact h.elim
set_option maxRecDepth 100000 in
set_option maxHeartbeats 400000 in
theorem wL_law_1586 {Γ : Gam} {G : Gm} {Qf : State → Prop} {xs : Nat → Int32} {b L ce sl : Nat} (hG : Gd G) (C : Cx Γ G cL_law 7 RL (some .boolean) room_1) (hl0 : (gl Γ).stackTraces = false) (hX : va_X b L xs (gs Γ) (gs Γ).heap) (hbl : b < (gs Γ).heap.size) (hbA : ¬ gA G b) (hNc : va_Nc EI EN (gs Γ)) (hQf : (gar Γ) = #[Value.ref b] ∧ Qf = lw_Z (gbe Γ) #[Value.ref b] (gs Γ)) (hA9 : ∀ q, gA G q → (gs Γ).heap.size ≤ q) (hc9 : ce + 8 ≤ room_1.cells) (hs9 : sl + 48 ≤ room_1.slots) (hc0 : ce ≤ room_1.cells) (hs0 : sl ≤ room_1.slots) {L23 : Mem × Int32 → Prop} (hL23 : ∀ s, L23 s → X Γ G Qf 7 (ce + 8) (sl + 48) 23 [(4, .int s.2), (0, .ref b), (1, .ref (ga G 10 0)), (2, .ref (ga G 11 0)), (3, .ref (ga G 9000 0))] [] s.1) (M : Mem) (y4 : Int32) (h : bL_law_1586 xs L L23 M y4) : X Γ G Qf 7 (ce + 0) (sl + 0) 1586 [(4, .int y4), (0, .ref b), (1, .ref (ga G 10 0)), (2, .ref (ga G 11 0)), (3, .ref (ga G 9000 0))] [] M := by
  unfold bL_law_1586 at h
  refine x_aload_n C dL_law_1586 2 rfl ?_
  refine x_calli (rest := []) (ce1 := ce + 0) (sl1 := sl + 0) C sv_L_206 ob10 z10 (kX10_answers hG _ h) rfl rfl (Nat.le_of_ble_eq_true rfl) ⟨Nat.le_of_ble_eq_true rfl, Nat.le_of_ble_eq_true rfl⟩ rfl rfl ⟨Nat.le_trans (Nat.add_le_add_left (Nat.le_of_ble_eq_true rfl) ce) hc9, Nat.le_trans (Nat.add_le_add_left (Nat.le_of_ble_eq_true rfl) sl) hs9⟩ dL_law_1587 (fun r233 M234 h => ?_)
  refine x_aload_n C dL_law_1590 3 rfl ?_
  refine x_calli (rest := [.int r233]) (ce1 := ce + 0) (sl1 := sl + 0) C sv_L_209 ob11 z11 (kX11_answers hG _ h) rfl rfl (Nat.le_of_ble_eq_true rfl) ⟨Nat.le_of_ble_eq_true rfl, Nat.le_of_ble_eq_true rfl⟩ rfl rfl ⟨Nat.le_trans (Nat.add_le_add_left (Nat.le_of_ble_eq_true rfl) ce) hc9, Nat.le_trans (Nat.add_le_add_left (Nat.le_of_ble_eq_true rfl) sl) hs9⟩ dL_law_1591 (fun r235 M236 h => ?_)
  refine x_icmp_eq (tgt := 2690) C dL_law_1594 (by decide) (fun c237 => ?_) (fun c237 => ?_)
  · replace h := h.1 c237
    refine X_widen (c1 := ce + 4) (s1 := sl + 24) (Nat.add_le_add_left (Nat.le_of_ble_eq_true rfl) ce) (Nat.add_le_add_left (Nat.le_of_ble_eq_true rfl) sl) ?_
    refine X_sub (lv' := [(4, .int y4), (0, .ref b), (1, .ref (ga G 10 0)), (2, .ref (ga G 11 0)), (3, .ref (ga G 9000 0))]) [0, 1, 2, 3, 4] rfl ?_
    exact wL_law_2690 hG C hl0 hX hbl hbA hNc hQf hA9 hc9 hs9 hc0 hs0 hL23 M236 y4 h
  · replace h := h.2 c237
    refine x_iconst (v := 0) C dL_law_1597 rfl ?_
    exact h.elim
set_option maxRecDepth 100000 in
set_option maxHeartbeats 400000 in
theorem wL_law_1664 {Γ : Gam} {G : Gm} {Qf : State → Prop} {xs : Nat → Int32} {b L ce sl : Nat} (hG : Gd G) (C : Cx Γ G cL_law 7 RL (some .boolean) room_1) (hl0 : (gl Γ).stackTraces = false) (hX : va_X b L xs (gs Γ) (gs Γ).heap) (hbl : b < (gs Γ).heap.size) (hbA : ¬ gA G b) (hNc : va_Nc EI EN (gs Γ)) (hQf : (gar Γ) = #[Value.ref b] ∧ Qf = lw_Z (gbe Γ) #[Value.ref b] (gs Γ)) (hA9 : ∀ q, gA G q → (gs Γ).heap.size ≤ q) (hc9 : ce + 8 ≤ room_1.cells) (hs9 : sl + 48 ≤ room_1.slots) (hc0 : ce ≤ room_1.cells) (hs0 : sl ≤ room_1.slots) {L23 : Mem × Int32 → Prop} (hL23 : ∀ s, L23 s → X Γ G Qf 7 (ce + 8) (sl + 48) 23 [(4, .int s.2), (0, .ref b), (1, .ref (ga G 10 0)), (2, .ref (ga G 11 0)), (3, .ref (ga G 9000 0))] [] s.1) (M : Mem) (y4 : Int32) (h : bL_law_1664 xs L L23 M y4) : X Γ G Qf 7 (ce + 2) (sl + 12) 1664 [(4, .int y4), (0, .ref b), (1, .ref (ga G 10 0)), (2, .ref (ga G 11 0)), (3, .ref (ga G 9000 0))] [] M := by
  unfold bL_law_1664 at h
  refine x_goto (tgt := 2690) C dL_law_1664 (by decide) ?_
  refine X_widen (c1 := ce + 4) (s1 := sl + 24) (Nat.add_le_add_left (Nat.le_of_ble_eq_true rfl) ce) (Nat.add_le_add_left (Nat.le_of_ble_eq_true rfl) sl) ?_
  refine X_sub (lv' := [(4, .int y4), (0, .ref b), (1, .ref (ga G 10 0)), (2, .ref (ga G 11 0)), (3, .ref (ga G 9000 0))]) [0, 1, 2, 3, 4] rfl ?_
  exact wL_law_2690 hG C hl0 hX hbl hbA hNc hQf hA9 hc9 hs9 hc0 hs0 hL23 M y4 h
set_option maxRecDepth 100000 in
set_option maxHeartbeats 400000 in
theorem wL_law_1599 {Γ : Gam} {G : Gm} {Qf : State → Prop} {xs : Nat → Int32} {b L ce sl : Nat} (hG : Gd G) (C : Cx Γ G cL_law 7 RL (some .boolean) room_1) (hl0 : (gl Γ).stackTraces = false) (hX : va_X b L xs (gs Γ) (gs Γ).heap) (hbl : b < (gs Γ).heap.size) (hbA : ¬ gA G b) (hNc : va_Nc EI EN (gs Γ)) (hQf : (gar Γ) = #[Value.ref b] ∧ Qf = lw_Z (gbe Γ) #[Value.ref b] (gs Γ)) (hA9 : ∀ q, gA G q → (gs Γ).heap.size ≤ q) (hc9 : ce + 8 ≤ room_1.cells) (hs9 : sl + 48 ≤ room_1.slots) (hc0 : ce ≤ room_1.cells) (hs0 : sl ≤ room_1.slots) {L23 : Mem × Int32 → Prop} (hL23 : ∀ s, L23 s → X Γ G Qf 7 (ce + 8) (sl + 48) 23 [(4, .int s.2), (0, .ref b), (1, .ref (ga G 10 0)), (2, .ref (ga G 11 0)), (3, .ref (ga G 9000 0))] [] s.1) (M : Mem) (y4 : Int32) (h : bL_law_1599 xs L L23 M y4) : X Γ G Qf 7 (ce + 0) (sl + 0) 1599 [(4, .int y4), (0, .ref b), (1, .ref (ga G 10 0)), (2, .ref (ga G 11 0)), (3, .ref (ga G 9000 0))] [] M := by
  unfold bL_law_1599 at h
  refine x_aload_n C dL_law_1599 2 rfl ?_
  refine x_aload_n C dL_law_1600 1 rfl ?_
  refine x_iload C dL_law_1601 0 rfl ?_
  refine x_iconst (v := 1) C dL_law_1603 rfl ?_
  refine x_iadd C dL_law_1604 ?_
  obtain ⟨f222, h⟩ := h
  refine x_sld C hX hbl hbA f222 dL_law_1605 ?_
  refine x_aload_n C dL_law_1606 1 rfl ?_
  refine x_iload C dL_law_1607 0 rfl ?_
  refine x_iconst (v := 2) C dL_law_1609 rfl ?_
  refine x_iadd C dL_law_1610 ?_
  obtain ⟨f223, h⟩ := h
  refine x_sld C hX hbl hbA f223 dL_law_1611 ?_
  refine x_aload_n C dL_law_1612 4 rfl ?_
  refine x_lcall (rest := []) (ce1 := ce + 2) (sl1 := sl + 12) C sl_L_210 hNc (kL_answer hG hl0 _ _ _ h) rfl rfl (Nat.le_of_ble_eq_true rfl) ⟨Nat.le_of_ble_eq_true rfl, Nat.le_of_ble_eq_true rfl⟩ rfl rfl ⟨Nat.le_trans (Nat.add_le_add_left (Nat.le_of_ble_eq_true rfl) ce) hc9, Nat.le_trans (Nat.add_le_add_left (Nat.le_of_ble_eq_true rfl) sl) hs9⟩ dL_law_1613 (fun r224 M225 h => ?_)
  refine x_istore (lv' := [(5, .int r224), (4, .int y4), (0, .ref b), (1, .ref (ga G 10 0)), (2, .ref (ga G 11 0)), (3, .ref (ga G 9000 0))]) C dL_law_1616 (Nat.le_of_ble_eq_true rfl) rfl ?_
  refine x_aload_n C dL_law_1618 4 rfl ?_
  refine x_aload_n C dL_law_1619 2 rfl ?_
  refine x_iload C dL_law_1620 1 rfl ?_
  refine x_iconst (v := 1) C dL_law_1622 rfl ?_
  refine x_iadd C dL_law_1623 ?_
  refine x_sld C hX hbl hbA f222 dL_law_1624 ?_
  refine x_aload_n C dL_law_1625 2 rfl ?_
  refine x_iload C dL_law_1626 1 rfl ?_
  refine x_iconst (v := 2) C dL_law_1628 rfl ?_
  refine x_iadd C dL_law_1629 ?_
  refine x_sld C hX hbl hbA f223 dL_law_1630 ?_
  refine x_calli (rest := []) (ce1 := ce + 2) (sl1 := sl + 12) C sv_L_212 ob11 z11 (kX11_answer hG _ _ _ h) rfl rfl (Nat.le_of_ble_eq_true rfl) ⟨Nat.le_of_ble_eq_true rfl, Nat.le_of_ble_eq_true rfl⟩ rfl rfl ⟨Nat.le_trans (Nat.add_le_add_left (Nat.le_of_ble_eq_true rfl) ce) hc9, Nat.le_trans (Nat.add_le_add_left (Nat.le_of_ble_eq_true rfl) sl) hs9⟩ dL_law_1631 (fun r226 M227 h => ?_)
  refine x_istore (lv' := [(6, .int r226), (5, .int r224), (4, .int y4), (0, .ref b), (1, .ref (ga G 10 0)), (2, .ref (ga G 11 0)), (3, .ref (ga G 9000 0))]) C dL_law_1634 (Nat.le_of_ble_eq_true rfl) rfl ?_
  refine x_aload_n C dL_law_1636 5 rfl ?_
  refine x_calli (rest := []) (ce1 := ce + 2) (sl1 := sl + 12) C sv_L_139 ob11 z11 (kX11_thrown hG _ h) rfl rfl (Nat.le_of_ble_eq_true rfl) ⟨Nat.le_of_ble_eq_true rfl, Nat.le_of_ble_eq_true rfl⟩ rfl rfl ⟨Nat.le_trans (Nat.add_le_add_left (Nat.le_of_ble_eq_true rfl) ce) hc9, Nat.le_trans (Nat.add_le_add_left (Nat.le_of_ble_eq_true rfl) sl) hs9⟩ dL_law_1637 (fun r228 M229 h => ?_)
  refine x_iload C dL_law_1640 1 rfl ?_
  refine x_icmp_eq (tgt := 1647) C dL_law_1642 (by decide) (fun c230 => ?_) (fun c230 => ?_)
  · replace h := h.1 c230
    refine x_iload C dL_law_1647 1 rfl ?_
    refine x_if_ne (tgt := 1664) C dL_law_1649 (by decide) (fun c231 => ?_) (fun c231 => ?_)
    · replace h := h.1 c231
      refine X_sub (lv' := [(4, .int y4), (0, .ref b), (1, .ref (ga G 10 0)), (2, .ref (ga G 11 0)), (3, .ref (ga G 9000 0))]) [2, 3, 4, 5, 6] rfl ?_
      exact wL_law_1664 hG C hl0 hX hbl hbA hNc hQf hA9 hc9 hs9 hc0 hs0 hL23 M229 y4 h
    · replace h := h.2 c231
      refine x_aload_n C dL_law_1652 6 rfl ?_
      refine x_iconst (v := 0) C dL_law_1653 rfl ?_
      refine al_9000 C z9000 (vp_l (by decide)) dL_law_1654 ?_
      refine x_iload C dL_law_1655 0 rfl ?_
      refine x_i2l C dL_law_1657 ?_
      refine x_lcmp C dL_law_1658 ?_
      refine x_if_eq (tgt := 1664) C dL_law_1659 (by decide) (fun c232 => ?_) (fun c232 => ?_)
      · replace h := h.1 c232
        refine X_sub (lv' := [(4, .int y4), (0, .ref b), (1, .ref (ga G 10 0)), (2, .ref (ga G 11 0)), (3, .ref (ga G 9000 0))]) [2, 3, 4, 5, 6] rfl ?_
        exact wL_law_1664 hG C hl0 hX hbl hbA hNc hQf hA9 hc9 hs9 hc0 hs0 hL23 M229 y4 h
      · replace h := h.2 c232
        refine x_iconst (v := 0) C dL_law_1662 rfl ?_
        exact h.elim
  · replace h := h.2 c230
    refine x_iconst (v := 0) C dL_law_1645 rfl ?_
    exact h.elim
