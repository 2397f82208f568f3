def rmX11_word : Room := { frames := 5, cells := 0, slots := 0, locals := 124 }
def pX11_word (M : Mem) (x1 : Int32) (x2 : Int32) (Q : Int32 → Mem → Prop) : Prop :=
  ∀ M1 : Mem, M1 = up1 M 1200 0 0 0 → pX11_isWord M1 x1 (fun r2 M3 => ((¬ r2 = 0 → pX11_bad M3 0 1 0 (fun r5 M6 => ((¬ r5 = 0 → Q 0 M6) ∧ (r5 = 0 → pX11_in M6 x2 0 6 (fun r8 M9 => ((¬ r8 = 0 → pX11_bad M9 0 2 1 (fun r11 M12 => ((r11 = 0 → pX11_gathers M12 x1 (fun M15 => ((x2 = 0 → Q (M15.1 1237 0 0) M15) ∧ (x2 = 1 → pX11_timesInAll M15 x1 (fun r18 M19 => Q r18 M19)) ∧ (x2 = 2 → pX11_blocksOf M15 (M15.1 1237 0 0) (M15.1 1211 0 0) (fun r21 M22 => Q r21 M22)) ∧ (x2 = 3 → pX11_topOfList M15 x1 (fun r24 M25 => Q r24 M25)) ∧ (x2 = 4 → pX11_rare M15 x1 (fun r27 M28 => Q r27 M28)) ∧ (x2 = 5 → pX11_bitsOf M15 x1 (M15.1 1211 0 0) (fun r30 M31 => Q r30 M31)) ∧ (¬ x2 = 0 → ¬ x2 = 1 → ¬ x2 = 2 → ¬ x2 = 3 → ¬ x2 = 4 → ¬ x2 = 5 → vp_in x1 256 ∧ Q (M15.1 1215 0 (tn x1)) M15)))) ∧ (¬ r11 = 0 → Q 0 M12)))) ∧ (r8 = 0 → pX11_bad M9 1 2 1 (fun r33 M34 => ((r33 = 0 → pX11_gathers M34 x1 (fun M37 => ((x2 = 0 → Q (M37.1 1237 0 0) M37) ∧ (x2 = 1 → pX11_timesInAll M37 x1 (fun r40 M41 => Q r40 M41)) ∧ (x2 = 2 → pX11_blocksOf M37 (M37.1 1237 0 0) (M37.1 1211 0 0) (fun r43 M44 => Q r43 M44)) ∧ (x2 = 3 → pX11_topOfList M37 x1 (fun r46 M47 => Q r46 M47)) ∧ (x2 = 4 → pX11_rare M37 x1 (fun r49 M50 => Q r49 M50)) ∧ (x2 = 5 → pX11_bitsOf M37 x1 (M37.1 1211 0 0) (fun r52 M53 => Q r52 M53)) ∧ (¬ x2 = 0 → ¬ x2 = 1 → ¬ x2 = 2 → ¬ x2 = 3 → ¬ x2 = 4 → ¬ x2 = 5 → vp_in x1 256 ∧ Q (M37.1 1215 0 (tn x1)) M37)))) ∧ (¬ r33 = 0 → Q 0 M34)))))))))) ∧ (r2 = 0 → pX11_bad M3 1 1 0 (fun r55 M56 => ((¬ r55 = 0 → Q 0 M56) ∧ (r55 = 0 → pX11_in M56 x2 0 6 (fun r58 M59 => ((¬ r58 = 0 → pX11_bad M59 0 2 1 (fun r61 M62 => ((r61 = 0 → pX11_gathers M62 x1 (fun M65 => ((x2 = 0 → Q (M65.1 1237 0 0) M65) ∧ (x2 = 1 → pX11_timesInAll M65 x1 (fun r68 M69 => Q r68 M69)) ∧ (x2 = 2 → pX11_blocksOf M65 (M65.1 1237 0 0) (M65.1 1211 0 0) (fun r71 M72 => Q r71 M72)) ∧ (x2 = 3 → pX11_topOfList M65 x1 (fun r74 M75 => Q r74 M75)) ∧ (x2 = 4 → pX11_rare M65 x1 (fun r77 M78 => Q r77 M78)) ∧ (x2 = 5 → pX11_bitsOf M65 x1 (M65.1 1211 0 0) (fun r80 M81 => Q r80 M81)) ∧ (¬ x2 = 0 → ¬ x2 = 1 → ¬ x2 = 2 → ¬ x2 = 3 → ¬ x2 = 4 → ¬ x2 = 5 → vp_in x1 256 ∧ Q (M65.1 1215 0 (tn x1)) M65)))) ∧ (¬ r61 = 0 → Q 0 M62)))) ∧ (r58 = 0 → pX11_bad M59 1 2 1 (fun r83 M84 => ((r83 = 0 → pX11_gathers M84 x1 (fun M87 => ((x2 = 0 → Q (M87.1 1237 0 0) M87) ∧ (x2 = 1 → pX11_timesInAll M87 x1 (fun r90 M91 => Q r90 M91)) ∧ (x2 = 2 → pX11_blocksOf M87 (M87.1 1237 0 0) (M87.1 1211 0 0) (fun r93 M94 => Q r93 M94)) ∧ (x2 = 3 → pX11_topOfList M87 x1 (fun r96 M97 => Q r96 M97)) ∧ (x2 = 4 → pX11_rare M87 x1 (fun r99 M100 => Q r99 M100)) ∧ (x2 = 5 → pX11_bitsOf M87 x1 (M87.1 1211 0 0) (fun r102 M103 => Q r102 M103)) ∧ (¬ x2 = 0 → ¬ x2 = 1 → ¬ x2 = 2 → ¬ x2 = 3 → ¬ x2 = 4 → ¬ x2 = 5 → vp_in x1 256 ∧ Q (M87.1 1215 0 (tn x1)) M87)))) ∧ (¬ r83 = 0 → Q 0 M84))))))))))))
set_option maxRecDepth 100000 in
set_option maxHeartbeats 400000 in
theorem kX11_word {l : Launch} {G : Gm} (hG : Gd G) (M : Mem) (x1 : Int32) (x2 : Int32) {Q : Int32 → Mem → Prop} (h : pX11_word M x1 x2 Q) : Cti l G yX11_word cX11_word 3 .int rmX11_word [.ref (ga G 11 0), .int x1, .int x2] M Q := by
  refine cti_of (own := RX11) (by decide +kernel) rfl (Nat.le_of_ble_eq_true rfl) hG (fun Γ Qf hl C E => ?_)
  subst hl
  show X Γ G Qf 3 0 0 0 [(0, .ref (ga G 11 0)), (1, .int x1), (2, .int x2)] [] M
  unfold pX11_word at h
  refine x_aload_n C dX11_word_0 0 rfl ?_
  refine x_iconst (v := 0) C dX11_word_1 rfl ?_
  refine pf_11_0 C q143 z11 dX11_word_2 ?_
  refine X_nameM (fun M1 eM1 => ?_)
  replace h := h M1 eM1
  refine x_aload_n C dX11_word_5 0 rfl ?_
  refine x_aload_n C dX11_word_6 0 rfl ?_
  refine x_iload_n C dX11_word_7 1 rfl ?_
  refine x_calli (rest := [.ref (ga G 11 0)]) C sv_X11_414 ob11 z11 (kX11_isWord hG _ _ h) rfl rfl (Nat.le_of_ble_eq_true rfl) ⟨Nat.le_of_ble_eq_true rfl, Nat.le_of_ble_eq_true rfl⟩ rfl rfl ⟨Nat.le_of_ble_eq_true rfl, Nat.le_of_ble_eq_true rfl⟩ dX11_word_8 (fun r2 M3 h => ?_)
  refine x_if_ne (tgt := 18) C dX11_word_11 (by decide) (fun c4 => ?_) (fun c4 => ?_)
  · replace h := h.1 c4
    refine x_iconst (v := 0) C dX11_word_18 rfl ?_
    refine x_iconst (v := 1) C dX11_word_19 rfl ?_
    refine x_iconst (v := 0) C dX11_word_20 rfl ?_
    refine x_calli (rest := []) C sv_X11_179 ob11 z11 (kX11_bad hG _ _ _ _ h) rfl rfl (Nat.le_of_ble_eq_true rfl) ⟨Nat.le_of_ble_eq_true rfl, Nat.le_of_ble_eq_true rfl⟩ rfl rfl ⟨Nat.le_of_ble_eq_true rfl, Nat.le_of_ble_eq_true rfl⟩ dX11_word_21 (fun r5 M6 h => ?_)
    refine x_if_ne (tgt := 51) C dX11_word_24 (by decide) (fun c7 => ?_) (fun c7 => ?_)
    · replace h := h.1 c7
      refine x_iconst (v := 0) C dX11_word_51 rfl ?_
      exact x_iret C E h (Nat.le_of_ble_eq_true rfl) (Nat.le_of_ble_eq_true rfl) dX11_word_52
    · replace h := h.2 c7
      refine x_aload_n C dX11_word_27 0 rfl ?_
      refine x_iload_n C dX11_word_28 2 rfl ?_
      refine x_iconst (v := 0) C dX11_word_29 rfl ?_
      refine x_bipush (v := 6) C dX11_word_30 rfl ?_
      refine x_scalli (rest := [.ref (ga G 11 0)]) C ss_X11_172 (kX11_in hG _ _ _ _ h) rfl rfl (Nat.le_of_ble_eq_true rfl) ⟨Nat.le_of_ble_eq_true rfl, Nat.le_of_ble_eq_true rfl⟩ rfl rfl ⟨Nat.le_of_ble_eq_true rfl, Nat.le_of_ble_eq_true rfl⟩ dX11_word_32 (fun r8 M9 h => ?_)
      refine x_if_ne (tgt := 42) C dX11_word_35 (by decide) (fun c10 => ?_) (fun c10 => ?_)
      · replace h := h.1 c10
        refine x_iconst (v := 0) C dX11_word_42 rfl ?_
        refine x_iconst (v := 2) C dX11_word_43 rfl ?_
        refine x_iconst (v := 1) C dX11_word_44 rfl ?_
        refine x_calli (rest := []) C sv_X11_179 ob11 z11 (kX11_bad hG _ _ _ _ h) rfl rfl (Nat.le_of_ble_eq_true rfl) ⟨Nat.le_of_ble_eq_true rfl, Nat.le_of_ble_eq_true rfl⟩ rfl rfl ⟨Nat.le_of_ble_eq_true rfl, Nat.le_of_ble_eq_true rfl⟩ dX11_word_45 (fun r11 M12 h => ?_)
        refine x_if_eq (tgt := 53) C dX11_word_48 (by decide) (fun c13 => ?_) (fun c13 => ?_)
        · replace h := h.1 c13
          refine x_aload_n C dX11_word_53 0 rfl ?_
          refine x_iload_n C dX11_word_54 1 rfl ?_
          refine x_callv (rest := []) C sv_X11_252 ob11 z11 (kX11_gathers hG _ _ h) rfl rfl (Nat.le_of_ble_eq_true rfl) ⟨Nat.le_of_ble_eq_true rfl, Nat.le_of_ble_eq_true rfl⟩ rfl rfl ⟨Nat.le_of_ble_eq_true rfl, Nat.le_of_ble_eq_true rfl⟩ dX11_word_55 (fun M15 h => ?_)
          refine x_iload_n C dX11_word_58 2 rfl ?_
          by_cases c16 : x2 = 0
          · replace h := h.1 c16
            refine x_tabIn (v := 0) (tgt := 96) C dX11_word_59 c16 (by decide) (by decide) rfl (by decide) ?_
            refine x_aload_n C dX11_word_96 0 rfl ?_
            refine gf_11_37 C q181 z11 dX11_word_97 ?_
            exact x_iret C E h (Nat.le_of_ble_eq_true rfl) (Nat.le_of_ble_eq_true rfl) dX11_word_100
          by_cases c17 : x2 = 1
          · replace h := h.2.1 c17
            refine x_tabIn (v := 1) (tgt := 101) C dX11_word_59 c17 (by decide) (by decide) rfl (by decide) ?_
            refine x_aload_n C dX11_word_101 0 rfl ?_
            refine x_iload_n C dX11_word_102 1 rfl ?_
            refine x_calli (rest := []) C sv_X11_417 ob11 z11 (kX11_timesInAll hG _ _ h) rfl rfl (Nat.le_of_ble_eq_true rfl) ⟨Nat.le_of_ble_eq_true rfl, Nat.le_of_ble_eq_true rfl⟩ rfl rfl ⟨Nat.le_of_ble_eq_true rfl, Nat.le_of_ble_eq_true rfl⟩ dX11_word_103 (fun r18 M19 h => ?_)
            exact x_iret C E h (Nat.le_of_ble_eq_true rfl) (Nat.le_of_ble_eq_true rfl) dX11_word_106
          by_cases c20 : x2 = 2
          · replace h := h.2.2.1 c20
            refine x_tabIn (v := 2) (tgt := 107) C dX11_word_59 c20 (by decide) (by decide) rfl (by decide) ?_
            refine x_aload_n C dX11_word_107 0 rfl ?_
            refine gf_11_37 C q181 z11 dX11_word_108 ?_
            refine x_aload_n C dX11_word_111 0 rfl ?_
            refine gf_11_11 C q209 z11 dX11_word_112 ?_
            refine x_scalli (rest := []) C ss_X11_314 (kX11_blocksOf hG _ _ _ h) rfl rfl (Nat.le_of_ble_eq_true rfl) ⟨Nat.le_of_ble_eq_true rfl, Nat.le_of_ble_eq_true rfl⟩ rfl rfl ⟨Nat.le_of_ble_eq_true rfl, Nat.le_of_ble_eq_true rfl⟩ dX11_word_115 (fun r21 M22 h => ?_)
            exact x_iret C E h (Nat.le_of_ble_eq_true rfl) (Nat.le_of_ble_eq_true rfl) dX11_word_118
          by_cases c23 : x2 = 3
          · replace h := h.2.2.2.1 c23
            refine x_tabIn (v := 3) (tgt := 119) C dX11_word_59 c23 (by decide) (by decide) rfl (by decide) ?_
            refine x_aload_n C dX11_word_119 0 rfl ?_
            refine x_iload_n C dX11_word_120 1 rfl ?_
            refine x_calli (rest := []) C sv_X11_420 ob11 z11 (kX11_topOfList hG _ _ h) rfl rfl (Nat.le_of_ble_eq_true rfl) ⟨Nat.le_of_ble_eq_true rfl, Nat.le_of_ble_eq_true rfl⟩ rfl rfl ⟨Nat.le_of_ble_eq_true rfl, Nat.le_of_ble_eq_true rfl⟩ dX11_word_121 (fun r24 M25 h => ?_)
            exact x_iret C E h (Nat.le_of_ble_eq_true rfl) (Nat.le_of_ble_eq_true rfl) dX11_word_124
          by_cases c26 : x2 = 4
          · replace h := h.2.2.2.2.1 c26
            refine x_tabIn (v := 4) (tgt := 125) C dX11_word_59 c26 (by decide) (by decide) rfl (by decide) ?_
            refine x_aload_n C dX11_word_125 0 rfl ?_
            refine x_iload_n C dX11_word_126 1 rfl ?_
            refine x_calli (rest := []) C sv_X11_290 ob11 z11 (kX11_rare hG _ _ h) rfl rfl (Nat.le_of_ble_eq_true rfl) ⟨Nat.le_of_ble_eq_true rfl, Nat.le_of_ble_eq_true rfl⟩ rfl rfl ⟨Nat.le_of_ble_eq_true rfl, Nat.le_of_ble_eq_true rfl⟩ dX11_word_127 (fun r27 M28 h => ?_)
            exact x_iret C E h (Nat.le_of_ble_eq_true rfl) (Nat.le_of_ble_eq_true rfl) dX11_word_130
          by_cases c29 : x2 = 5
          · replace h := h.2.2.2.2.2.1 c29
            refine x_tabIn (v := 5) (tgt := 131) C dX11_word_59 c29 (by decide) (by decide) rfl (by decide) ?_
            refine x_aload_n C dX11_word_131 0 rfl ?_
            refine x_iload_n C dX11_word_132 1 rfl ?_
            refine x_aload_n C dX11_word_133 0 rfl ?_
            refine gf_11_11 C q209 z11 dX11_word_134 ?_
            refine x_calli (rest := []) C sv_X11_278 ob11 z11 (kX11_bitsOf hG _ _ _ h) rfl rfl (Nat.le_of_ble_eq_true rfl) ⟨Nat.le_of_ble_eq_true rfl, Nat.le_of_ble_eq_true rfl⟩ rfl rfl ⟨Nat.le_of_ble_eq_true rfl, Nat.le_of_ble_eq_true rfl⟩ dX11_word_137 (fun r30 M31 h => ?_)
            exact x_iret C E h (Nat.le_of_ble_eq_true rfl) (Nat.le_of_ble_eq_true rfl) dX11_word_140
          replace h := h.2.2.2.2.2.2 c16 c17 c20 c23 c26 c29
          refine x_tabOut (tgt := 141) C dX11_word_59 (by have ac16 := lv_neT (a := 0) c16 rfl; have ac17 := lv_neT (a := 1) c17 rfl; have ac20 := lv_neT (a := 2) c20 rfl; have ac23 := lv_neT (a := 3) c23 rfl; have ac26 := lv_neT (a := 4) c26 rfl; have ac29 := lv_neT (a := 5) c29 rfl; omega) (by decide) ?_
          refine x_aload_n C dX11_word_141 0 rfl ?_
          refine gf_11_15 C q157 z11 dX11_word_142 ?_
          refine x_iload_n C dX11_word_145 1 rfl ?_
          obtain ⟨f32, h⟩ := h
          refine al_1215 C z1215 f32 dX11_word_146 ?_
          exact x_iret C E h (Nat.le_of_ble_eq_true rfl) (Nat.le_of_ble_eq_true rfl) dX11_word_147
        · replace h := h.2 c13
          refine x_iconst (v := 0) C dX11_word_51 rfl ?_
          exact x_iret C E h (Nat.le_of_ble_eq_true rfl) (Nat.le_of_ble_eq_true rfl) dX11_word_52
      · replace h := h.2 c10
        refine x_iconst (v := 1) C dX11_word_38 rfl ?_
        refine x_goto (tgt := 43) C dX11_word_39 (by decide) ?_
        refine x_iconst (v := 2) C dX11_word_43 rfl ?_
        refine x_iconst (v := 1) C dX11_word_44 rfl ?_
        refine x_calli (rest := []) C sv_X11_179 ob11 z11 (kX11_bad hG _ _ _ _ h) rfl rfl (Nat.le_of_ble_eq_true rfl) ⟨Nat.le_of_ble_eq_true rfl, Nat.le_of_ble_eq_true rfl⟩ rfl rfl ⟨Nat.le_of_ble_eq_true rfl, Nat.le_of_ble_eq_true rfl⟩ dX11_word_45 (fun r33 M34 h => ?_)
        refine x_if_eq (tgt := 53) C dX11_word_48 (by decide) (fun c35 => ?_) (fun c35 => ?_)
        · replace h := h.1 c35
          refine x_aload_n C dX11_word_53 0 rfl ?_
          refine x_iload_n C dX11_word_54 1 rfl ?_
          refine x_callv (rest := []) C sv_X11_252 ob11 z11 (kX11_gathers hG _ _ h) rfl rfl (Nat.le_of_ble_eq_true rfl) ⟨Nat.le_of_ble_eq_true rfl, Nat.le_of_ble_eq_true rfl⟩ rfl rfl ⟨Nat.le_of_ble_eq_true rfl, Nat.le_of_ble_eq_true rfl⟩ dX11_word_55 (fun M37 h => ?_)
          refine x_iload_n C dX11_word_58 2 rfl ?_
          by_cases c38 : x2 = 0
          · replace h := h.1 c38
            refine x_tabIn (v := 0) (tgt := 96) C dX11_word_59 c38 (by decide) (by decide) rfl (by decide) ?_
            refine x_aload_n C dX11_word_96 0 rfl ?_
            refine gf_11_37 C q181 z11 dX11_word_97 ?_
            exact x_iret C E h (Nat.le_of_ble_eq_true rfl) (Nat.le_of_ble_eq_true rfl) dX11_word_100
          by_cases c39 : x2 = 1
          · replace h := h.2.1 c39
            refine x_tabIn (v := 1) (tgt := 101) C dX11_word_59 c39 (by decide) (by decide) rfl (by decide) ?_
            refine x_aload_n C dX11_word_101 0 rfl ?_
            refine x_iload_n C dX11_word_102 1 rfl ?_
            refine x_calli (rest := []) C sv_X11_417 ob11 z11 (kX11_timesInAll hG _ _ h) rfl rfl (Nat.le_of_ble_eq_true rfl) ⟨Nat.le_of_ble_eq_true rfl, Nat.le_of_ble_eq_true rfl⟩ rfl rfl ⟨Nat.le_of_ble_eq_true rfl, Nat.le_of_ble_eq_true rfl⟩ dX11_word_103 (fun r40 M41 h => ?_)
            exact x_iret C E h (Nat.le_of_ble_eq_true rfl) (Nat.le_of_ble_eq_true rfl) dX11_word_106
          by_cases c42 : x2 = 2
          · replace h := h.2.2.1 c42
            refine x_tabIn (v := 2) (tgt := 107) C dX11_word_59 c42 (by decide) (by decide) rfl (by decide) ?_
            refine x_aload_n C dX11_word_107 0 rfl ?_
            refine gf_11_37 C q181 z11 dX11_word_108 ?_
            refine x_aload_n C dX11_word_111 0 rfl ?_
            refine gf_11_11 C q209 z11 dX11_word_112 ?_
            refine x_scalli (rest := []) C ss_X11_314 (kX11_blocksOf hG _ _ _ h) rfl rfl (Nat.le_of_ble_eq_true rfl) ⟨Nat.le_of_ble_eq_true rfl, Nat.le_of_ble_eq_true rfl⟩ rfl rfl ⟨Nat.le_of_ble_eq_true rfl, Nat.le_of_ble_eq_true rfl⟩ dX11_word_115 (fun r43 M44 h => ?_)
            exact x_iret C E h (Nat.le_of_ble_eq_true rfl) (Nat.le_of_ble_eq_true rfl) dX11_word_118
          by_cases c45 : x2 = 3
          · replace h := h.2.2.2.1 c45
            refine x_tabIn (v := 3) (tgt := 119) C dX11_word_59 c45 (by decide) (by decide) rfl (by decide) ?_
            refine x_aload_n C dX11_word_119 0 rfl ?_
            refine x_iload_n C dX11_word_120 1 rfl ?_
            refine x_calli (rest := []) C sv_X11_420 ob11 z11 (kX11_topOfList hG _ _ h) rfl rfl (Nat.le_of_ble_eq_true rfl) ⟨Nat.le_of_ble_eq_true rfl, Nat.le_of_ble_eq_true rfl⟩ rfl rfl ⟨Nat.le_of_ble_eq_true rfl, Nat.le_of_ble_eq_true rfl⟩ dX11_word_121 (fun r46 M47 h => ?_)
            exact x_iret C E h (Nat.le_of_ble_eq_true rfl) (Nat.le_of_ble_eq_true rfl) dX11_word_124
          by_cases c48 : x2 = 4
          · replace h := h.2.2.2.2.1 c48
            refine x_tabIn (v := 4) (tgt := 125) C dX11_word_59 c48 (by decide) (by decide) rfl (by decide) ?_
            refine x_aload_n C dX11_word_125 0 rfl ?_
            refine x_iload_n C dX11_word_126 1 rfl ?_
            refine x_calli (rest := []) C sv_X11_290 ob11 z11 (kX11_rare hG _ _ h) rfl rfl (Nat.le_of_ble_eq_true rfl) ⟨Nat.le_of_ble_eq_true rfl, Nat.le_of_ble_eq_true rfl⟩ rfl rfl ⟨Nat.le_of_ble_eq_true rfl, Nat.le_of_ble_eq_true rfl⟩ dX11_word_127 (fun r49 M50 h => ?_)
            exact x_iret C E h (Nat.le_of_ble_eq_true rfl) (Nat.le_of_ble_eq_true rfl) dX11_word_130
          by_cases c51 : x2 = 5
          · replace h := h.2.2.2.2.2.1 c51
            refine x_tabIn (v := 5) (tgt := 131) C dX11_word_59 c51 (by decide) (by decide) rfl (by decide) ?_
            refine x_aload_n C dX11_word_131 0 rfl ?_
            refine x_iload_n C dX11_word_132 1 rfl ?_
            refine x_aload_n C dX11_word_133 0 rfl ?_
            refine gf_11_11 C q209 z11 dX11_word_134 ?_
            refine x_calli (rest := []) C sv_X11_278 ob11 z11 (kX11_bitsOf hG _ _ _ h) rfl rfl (Nat.le_of_ble_eq_true rfl) ⟨Nat.le_of_ble_eq_true rfl, Nat.le_of_ble_eq_true rfl⟩ rfl rfl ⟨Nat.le_of_ble_eq_true rfl, Nat.le_of_ble_eq_true rfl⟩ dX11_word_137 (fun r52 M53 h => ?_)
            exact x_iret C E h (Nat.le_of_ble_eq_true rfl) (Nat.le_of_ble_eq_true rfl) dX11_word_140
          replace h := h.2.2.2.2.2.2 c38 c39 c42 c45 c48 c51
          refine x_tabOut (tgt := 141) C dX11_word_59 (by have ac38 := lv_neT (a := 0) c38 rfl; have ac39 := lv_neT (a := 1) c39 rfl; have ac42 := lv_neT (a := 2) c42 rfl; have ac45 := lv_neT (a := 3) c45 rfl; have ac48 := lv_neT (a := 4) c48 rfl; have ac51 := lv_neT (a := 5) c51 rfl; omega) (by decide) ?_
          refine x_aload_n C dX11_word_141 0 rfl ?_
          refine gf_11_15 C q157 z11 dX11_word_142 ?_
          refine x_iload_n C dX11_word_145 1 rfl ?_
          obtain ⟨f54, h⟩ := h
          refine al_1215 C z1215 f54 dX11_word_146 ?_
          exact x_iret C E h (Nat.le_of_ble_eq_true rfl) (Nat.le_of_ble_eq_true rfl) dX11_word_147
        · replace h := h.2 c35
          refine x_iconst (v := 0) C dX11_word_51 rfl ?_
          exact x_iret C E h (Nat.le_of_ble_eq_true rfl) (Nat.le_of_ble_eq_true rfl) dX11_word_52
  · replace h := h.2 c4
    refine x_iconst (v := 1) C dX11_word_14 rfl ?_
    refine x_goto (tgt := 19) C dX11_word_15 (by decide) ?_
    refine x_iconst (v := 1) C dX11_word_19 rfl ?_
    refine x_iconst (v := 0) C dX11_word_20 rfl ?_
    refine x_calli (rest := []) C sv_X11_179 ob11 z11 (kX11_bad hG _ _ _ _ h) rfl rfl (Nat.le_of_ble_eq_true rfl) ⟨Nat.le_of_ble_eq_true rfl, Nat.le_of_ble_eq_true rfl⟩ rfl rfl ⟨Nat.le_of_ble_eq_true rfl, Nat.le_of_ble_eq_true rfl⟩ dX11_word_21 (fun r55 M56 h => ?_)
    refine x_if_ne (tgt := 51) C dX11_word_24 (by decide) (fun c57 => ?_) (fun c57 => ?_)
    · replace h := h.1 c57
      refine x_iconst (v := 0) C dX11_word_51 rfl ?_
      exact x_iret C E h (Nat.le_of_ble_eq_true rfl) (Nat.le_of_ble_eq_true rfl) dX11_word_52
    · replace h := h.2 c57
      refine x_aload_n C dX11_word_27 0 rfl ?_
      refine x_iload_n C dX11_word_28 2 rfl ?_
      refine x_iconst (v := 0) C dX11_word_29 rfl ?_
      refine x_bipush (v := 6) C dX11_word_30 rfl ?_
      refine x_scalli (rest := [.ref (ga G 11 0)]) C ss_X11_172 (kX11_in hG _ _ _ _ h) rfl rfl (Nat.le_of_ble_eq_true rfl) ⟨Nat.le_of_ble_eq_true rfl, Nat.le_of_ble_eq_true rfl⟩ rfl rfl ⟨Nat.le_of_ble_eq_true rfl, Nat.le_of_ble_eq_true rfl⟩ dX11_word_32 (fun r58 M59 h => ?_)
      refine x_if_ne (tgt := 42) C dX11_word_35 (by decide) (fun c60 => ?_) (fun c60 => ?_)
      · replace h := h.1 c60
        refine x_iconst (v := 0) C dX11_word_42 rfl ?_
        refine x_iconst (v := 2) C dX11_word_43 rfl ?_
        refine x_iconst (v := 1) C dX11_word_44 rfl ?_
        refine x_calli (rest := []) C sv_X11_179 ob11 z11 (kX11_bad hG _ _ _ _ h) rfl rfl (Nat.le_of_ble_eq_true rfl) ⟨Nat.le_of_ble_eq_true rfl, Nat.le_of_ble_eq_true rfl⟩ rfl rfl ⟨Nat.le_of_ble_eq_true rfl, Nat.le_of_ble_eq_true rfl⟩ dX11_word_45 (fun r61 M62 h => ?_)
        refine x_if_eq (tgt := 53) C dX11_word_48 (by decide) (fun c63 => ?_) (fun c63 => ?_)
        · replace h := h.1 c63
          refine x_aload_n C dX11_word_53 0 rfl ?_
          refine x_iload_n C dX11_word_54 1 rfl ?_
          refine x_callv (rest := []) C sv_X11_252 ob11 z11 (kX11_gathers hG _ _ h) rfl rfl (Nat.le_of_ble_eq_true rfl) ⟨Nat.le_of_ble_eq_true rfl, Nat.le_of_ble_eq_true rfl⟩ rfl rfl ⟨Nat.le_of_ble_eq_true rfl, Nat.le_of_ble_eq_true rfl⟩ dX11_word_55 (fun M65 h => ?_)
          refine x_iload_n C dX11_word_58 2 rfl ?_
          by_cases c66 : x2 = 0
          · replace h := h.1 c66
            refine x_tabIn (v := 0) (tgt := 96) C dX11_word_59 c66 (by decide) (by decide) rfl (by decide) ?_
            refine x_aload_n C dX11_word_96 0 rfl ?_
            refine gf_11_37 C q181 z11 dX11_word_97 ?_
            exact x_iret C E h (Nat.le_of_ble_eq_true rfl) (Nat.le_of_ble_eq_true rfl) dX11_word_100
          by_cases c67 : x2 = 1
          · replace h := h.2.1 c67
            refine x_tabIn (v := 1) (tgt := 101) C dX11_word_59 c67 (by decide) (by decide) rfl (by decide) ?_
            refine x_aload_n C dX11_word_101 0 rfl ?_
            refine x_iload_n C dX11_word_102 1 rfl ?_
            refine x_calli (rest := []) C sv_X11_417 ob11 z11 (kX11_timesInAll hG _ _ h) rfl rfl (Nat.le_of_ble_eq_true rfl) ⟨Nat.le_of_ble_eq_true rfl, Nat.le_of_ble_eq_true rfl⟩ rfl rfl ⟨Nat.le_of_ble_eq_true rfl, Nat.le_of_ble_eq_true rfl⟩ dX11_word_103 (fun r68 M69 h => ?_)
            exact x_iret C E h (Nat.le_of_ble_eq_true rfl) (Nat.le_of_ble_eq_true rfl) dX11_word_106
          by_cases c70 : x2 = 2
          · replace h := h.2.2.1 c70
            refine x_tabIn (v := 2) (tgt := 107) C dX11_word_59 c70 (by decide) (by decide) rfl (by decide) ?_
            refine x_aload_n C dX11_word_107 0 rfl ?_
            refine gf_11_37 C q181 z11 dX11_word_108 ?_
            refine x_aload_n C dX11_word_111 0 rfl ?_
            refine gf_11_11 C q209 z11 dX11_word_112 ?_
            refine x_scalli (rest := []) C ss_X11_314 (kX11_blocksOf hG _ _ _ h) rfl rfl (Nat.le_of_ble_eq_true rfl) ⟨Nat.le_of_ble_eq_true rfl, Nat.le_of_ble_eq_true rfl⟩ rfl rfl ⟨Nat.le_of_ble_eq_true rfl, Nat.le_of_ble_eq_true rfl⟩ dX11_word_115 (fun r71 M72 h => ?_)
            exact x_iret C E h (Nat.le_of_ble_eq_true rfl) (Nat.le_of_ble_eq_true rfl) dX11_word_118
          by_cases c73 : x2 = 3
          · replace h := h.2.2.2.1 c73
            refine x_tabIn (v := 3) (tgt := 119) C dX11_word_59 c73 (by decide) (by decide) rfl (by decide) ?_
            refine x_aload_n C dX11_word_119 0 rfl ?_
            refine x_iload_n C dX11_word_120 1 rfl ?_
            refine x_calli (rest := []) C sv_X11_420 ob11 z11 (kX11_topOfList hG _ _ h) rfl rfl (Nat.le_of_ble_eq_true rfl) ⟨Nat.le_of_ble_eq_true rfl, Nat.le_of_ble_eq_true rfl⟩ rfl rfl ⟨Nat.le_of_ble_eq_true rfl, Nat.le_of_ble_eq_true rfl⟩ dX11_word_121 (fun r74 M75 h => ?_)
            exact x_iret C E h (Nat.le_of_ble_eq_true rfl) (Nat.le_of_ble_eq_true rfl) dX11_word_124
          by_cases c76 : x2 = 4
          · replace h := h.2.2.2.2.1 c76
            refine x_tabIn (v := 4) (tgt := 125) C dX11_word_59 c76 (by decide) (by decide) rfl (by decide) ?_
            refine x_aload_n C dX11_word_125 0 rfl ?_
            refine x_iload_n C dX11_word_126 1 rfl ?_
            refine x_calli (rest := []) C sv_X11_290 ob11 z11 (kX11_rare hG _ _ h) rfl rfl (Nat.le_of_ble_eq_true rfl) ⟨Nat.le_of_ble_eq_true rfl, Nat.le_of_ble_eq_true rfl⟩ rfl rfl ⟨Nat.le_of_ble_eq_true rfl, Nat.le_of_ble_eq_true rfl⟩ dX11_word_127 (fun r77 M78 h => ?_)
            exact x_iret C E h (Nat.le_of_ble_eq_true rfl) (Nat.le_of_ble_eq_true rfl) dX11_word_130
          by_cases c79 : x2 = 5
          · replace h := h.2.2.2.2.2.1 c79
            refine x_tabIn (v := 5) (tgt := 131) C dX11_word_59 c79 (by decide) (by decide) rfl (by decide) ?_
            refine x_aload_n C dX11_word_131 0 rfl ?_
            refine x_iload_n C dX11_word_132 1 rfl ?_
            refine x_aload_n C dX11_word_133 0 rfl ?_
            refine gf_11_11 C q209 z11 dX11_word_134 ?_
            refine x_calli (rest := []) C sv_X11_278 ob11 z11 (kX11_bitsOf hG _ _ _ h) rfl rfl (Nat.le_of_ble_eq_true rfl) ⟨Nat.le_of_ble_eq_true rfl, Nat.le_of_ble_eq_true rfl⟩ rfl rfl ⟨Nat.le_of_ble_eq_true rfl, Nat.le_of_ble_eq_true rfl⟩ dX11_word_137 (fun r80 M81 h => ?_)
            exact x_iret C E h (Nat.le_of_ble_eq_true rfl) (Nat.le_of_ble_eq_true rfl) dX11_word_140
          replace h := h.2.2.2.2.2.2 c66 c67 c70 c73 c76 c79
          refine x_tabOut (tgt := 141) C dX11_word_59 (by have ac66 := lv_neT (a := 0) c66 rfl; have ac67 := lv_neT (a := 1) c67 rfl; have ac70 := lv_neT (a := 2) c70 rfl; have ac73 := lv_neT (a := 3) c73 rfl; have ac76 := lv_neT (a := 4) c76 rfl; have ac79 := lv_neT (a := 5) c79 rfl; omega) (by decide) ?_
          refine x_aload_n C dX11_word_141 0 rfl ?_
          refine gf_11_15 C q157 z11 dX11_word_142 ?_
          refine x_iload_n C dX11_word_145 1 rfl ?_
          obtain ⟨f82, h⟩ := h
          refine al_1215 C z1215 f82 dX11_word_146 ?_
          exact x_iret C E h (Nat.le_of_ble_eq_true rfl) (Nat.le_of_ble_eq_true rfl) dX11_word_147
        · replace h := h.2 c63
          refine x_iconst (v := 0) C dX11_word_51 rfl ?_
          exact x_iret C E h (Nat.le_of_ble_eq_true rfl) (Nat.le_of_ble_eq_true rfl) dX11_word_52
      · replace h := h.2 c60
        refine x_iconst (v := 1) C dX11_word_38 rfl ?_
        refine x_goto (tgt := 43) C dX11_word_39 (by decide) ?_
        refine x_iconst (v := 2) C dX11_word_43 rfl ?_
        refine x_iconst (v := 1) C dX11_word_44 rfl ?_
        refine x_calli (rest := []) C sv_X11_179 ob11 z11 (kX11_bad hG _ _ _ _ h) rfl rfl (Nat.le_of_ble_eq_true rfl) ⟨Nat.le_of_ble_eq_true rfl, Nat.le_of_ble_eq_true rfl⟩ rfl rfl ⟨Nat.le_of_ble_eq_true rfl, Nat.le_of_ble_eq_true rfl⟩ dX11_word_45 (fun r83 M84 h => ?_)
        refine x_if_eq (tgt := 53) C dX11_word_48 (by decide) (fun c85 => ?_) (fun c85 => ?_)
        · replace h := h.1 c85
          refine x_aload_n C dX11_word_53 0 rfl ?_
          refine x_iload_n C dX11_word_54 1 rfl ?_
          refine x_callv (rest := []) C sv_X11_252 ob11 z11 (kX11_gathers hG _ _ h) rfl rfl (Nat.le_of_ble_eq_true rfl) ⟨Nat.le_of_ble_eq_true rfl, Nat.le_of_ble_eq_true rfl⟩ rfl rfl ⟨Nat.le_of_ble_eq_true rfl, Nat.le_of_ble_eq_true rfl⟩ dX11_word_55 (fun M87 h => ?_)
          refine x_iload_n C dX11_word_58 2 rfl ?_
          by_cases c88 : x2 = 0
          · replace h := h.1 c88
            refine x_tabIn (v := 0) (tgt := 96) C dX11_word_59 c88 (by decide) (by decide) rfl (by decide) ?_
            refine x_aload_n C dX11_word_96 0 rfl ?_
            refine gf_11_37 C q181 z11 dX11_word_97 ?_
            exact x_iret C E h (Nat.le_of_ble_eq_true rfl) (Nat.le_of_ble_eq_true rfl) dX11_word_100
          by_cases c89 : x2 = 1
          · replace h := h.2.1 c89
            refine x_tabIn (v := 1) (tgt := 101) C dX11_word_59 c89 (by decide) (by decide) rfl (by decide) ?_
            refine x_aload_n C dX11_word_101 0 rfl ?_
            refine x_iload_n C dX11_word_102 1 rfl ?_
            refine x_calli (rest := []) C sv_X11_417 ob11 z11 (kX11_timesInAll hG _ _ h) rfl rfl (Nat.le_of_ble_eq_true rfl) ⟨Nat.le_of_ble_eq_true rfl, Nat.le_of_ble_eq_true rfl⟩ rfl rfl ⟨Nat.le_of_ble_eq_true rfl, Nat.le_of_ble_eq_true rfl⟩ dX11_word_103 (fun r90 M91 h => ?_)
            exact x_iret C E h (Nat.le_of_ble_eq_true rfl) (Nat.le_of_ble_eq_true rfl) dX11_word_106
          by_cases c92 : x2 = 2
          · replace h := h.2.2.1 c92
            refine x_tabIn (v := 2) (tgt := 107) C dX11_word_59 c92 (by decide) (by decide) rfl (by decide) ?_
            refine x_aload_n C dX11_word_107 0 rfl ?_
            refine gf_11_37 C q181 z11 dX11_word_108 ?_
            refine x_aload_n C dX11_word_111 0 rfl ?_
            refine gf_11_11 C q209 z11 dX11_word_112 ?_
            refine x_scalli (rest := []) C ss_X11_314 (kX11_blocksOf hG _ _ _ h) rfl rfl (Nat.le_of_ble_eq_true rfl) ⟨Nat.le_of_ble_eq_true rfl, Nat.le_of_ble_eq_true rfl⟩ rfl rfl ⟨Nat.le_of_ble_eq_true rfl, Nat.le_of_ble_eq_true rfl⟩ dX11_word_115 (fun r93 M94 h => ?_)
            exact x_iret C E h (Nat.le_of_ble_eq_true rfl) (Nat.le_of_ble_eq_true rfl) dX11_word_118
          by_cases c95 : x2 = 3
          · replace h := h.2.2.2.1 c95
            refine x_tabIn (v := 3) (tgt := 119) C dX11_word_59 c95 (by decide) (by decide) rfl (by decide) ?_
            refine x_aload_n C dX11_word_119 0 rfl ?_
            refine x_iload_n C dX11_word_120 1 rfl ?_
            refine x_calli (rest := []) C sv_X11_420 ob11 z11 (kX11_topOfList hG _ _ h) rfl rfl (Nat.le_of_ble_eq_true rfl) ⟨Nat.le_of_ble_eq_true rfl, Nat.le_of_ble_eq_true rfl⟩ rfl rfl ⟨Nat.le_of_ble_eq_true rfl, Nat.le_of_ble_eq_true rfl⟩ dX11_word_121 (fun r96 M97 h => ?_)
            exact x_iret C E h (Nat.le_of_ble_eq_true rfl) (Nat.le_of_ble_eq_true rfl) dX11_word_124
          by_cases c98 : x2 = 4
          · replace h := h.2.2.2.2.1 c98
            refine x_tabIn (v := 4) (tgt := 125) C dX11_word_59 c98 (by decide) (by decide) rfl (by decide) ?_
            refine x_aload_n C dX11_word_125 0 rfl ?_
            refine x_iload_n C dX11_word_126 1 rfl ?_
            refine x_calli (rest := []) C sv_X11_290 ob11 z11 (kX11_rare hG _ _ h) rfl rfl (Nat.le_of_ble_eq_true rfl) ⟨Nat.le_of_ble_eq_true rfl, Nat.le_of_ble_eq_true rfl⟩ rfl rfl ⟨Nat.le_of_ble_eq_true rfl, Nat.le_of_ble_eq_true rfl⟩ dX11_word_127 (fun r99 M100 h => ?_)
            exact x_iret C E h (Nat.le_of_ble_eq_true rfl) (Nat.le_of_ble_eq_true rfl) dX11_word_130
          by_cases c101 : x2 = 5
          · replace h := h.2.2.2.2.2.1 c101
            refine x_tabIn (v := 5) (tgt := 131) C dX11_word_59 c101 (by decide) (by decide) rfl (by decide) ?_
            refine x_aload_n C dX11_word_131 0 rfl ?_
            refine x_iload_n C dX11_word_132 1 rfl ?_
            refine x_aload_n C dX11_word_133 0 rfl ?_
            refine gf_11_11 C q209 z11 dX11_word_134 ?_
            refine x_calli (rest := []) C sv_X11_278 ob11 z11 (kX11_bitsOf hG _ _ _ h) rfl rfl (Nat.le_of_ble_eq_true rfl) ⟨Nat.le_of_ble_eq_true rfl, Nat.le_of_ble_eq_true rfl⟩ rfl rfl ⟨Nat.le_of_ble_eq_true rfl, Nat.le_of_ble_eq_true rfl⟩ dX11_word_137 (fun r102 M103 h => ?_)
            exact x_iret C E h (Nat.le_of_ble_eq_true rfl) (Nat.le_of_ble_eq_true rfl) dX11_word_140
          replace h := h.2.2.2.2.2.2 c88 c89 c92 c95 c98 c101
          refine x_tabOut (tgt := 141) C dX11_word_59 (by have ac88 := lv_neT (a := 0) c88 rfl; have ac89 := lv_neT (a := 1) c89 rfl; have ac92 := lv_neT (a := 2) c92 rfl; have ac95 := lv_neT (a := 3) c95 rfl; have ac98 := lv_neT (a := 4) c98 rfl; have ac101 := lv_neT (a := 5) c101 rfl; omega) (by decide) ?_
          refine x_aload_n C dX11_word_141 0 rfl ?_
          refine gf_11_15 C q157 z11 dX11_word_142 ?_
          refine x_iload_n C dX11_word_145 1 rfl ?_
          obtain ⟨f104, h⟩ := h
          refine al_1215 C z1215 f104 dX11_word_146 ?_
          exact x_iret C E h (Nat.le_of_ble_eq_true rfl) (Nat.le_of_ble_eq_true rfl) dX11_word_147
        · replace h := h.2 c85
          refine x_iconst (v := 0) C dX11_word_51 rfl ?_
          exact x_iret C E h (Nat.le_of_ble_eq_true rfl) (Nat.le_of_ble_eq_true rfl) dX11_word_52
def rmX11_letter : Room := { frames := 2, cells := 0, slots := 0, locals := 43 }
def bX11_letter_64 (x1 : Int32) (x2 : Int32) (Q : Int32 → Mem → Prop) (L64 : Mem × Int64 × Int32 → Prop) (M : Mem) (y3 : Int64) (y5 : Int32) : Prop :=
  ((y5 ≤ x2 → Q ((Int64.toInt32 (y3 - y3 / 27 * 27)) - 1) M) ∧ (¬ y5 ≤ x2 → ∀ v24 : Int64, v24 = (y3 / 27) → ∀ v25 : Int32, v25 = y5 + (-1) → L64 (M, v24, v25)))
def pX11_letter (M : Mem) (x1 : Int32) (x2 : Int32) (Q : Int32 → Mem → Prop) : Prop :=
  ∀ M1 : Mem, M1 = up1 M 1200 0 0 0 → pX11_isWord M1 x1 (fun r2 M3 => ((¬ r2 = 0 → pX11_bad M3 0 1 0 (fun r5 M6 => ((r5 = 0 → vp_in x1 256 ∧ pX11_in M6 x2 0 ((M6.1 1215 0 (tn x1)) - 1) (fun r9 M10 => ((¬ r9 = 0 → ∀ v12 : Int64, v12 = (M10.2 1216 0 (tn x1)) → ∀ v13 : Int32, v13 = ((M10.1 1215 0 (tn x1)) - 1) → ∃ n : Nat, lp (fun L s => bX11_letter_64 x1 x2 Q L s.1 s.2.1 s.2.2) n (M10, v12, v13)) ∧ (r9 = 0 → Q (-1) M10)))) ∧ (¬ r5 = 0 → Q 0 M6)))) ∧ (r2 = 0 → pX11_bad M3 1 1 0 (fun r14 M15 => ((r14 = 0 → vp_in x1 256 ∧ pX11_in M15 x2 0 ((M15.1 1215 0 (tn x1)) - 1) (fun r18 M19 => ((¬ r18 = 0 → ∀ v21 : Int64, v21 = (M19.2 1216 0 (tn x1)) → ∀ v22 : Int32, v22 = ((M19.1 1215 0 (tn x1)) - 1) → ∃ n : Nat, lp (fun L s => bX11_letter_64 x1 x2 Q L s.1 s.2.1 s.2.2) n (M19, v21, v22)) ∧ (r18 = 0 → Q (-1) M19)))) ∧ (¬ r14 = 0 → Q 0 M15))))))
set_option maxRecDepth 100000 in
set_option maxHeartbeats 400000 in
theorem wX11_letter_64 {Γ : Gam} {G : Gm} {Qf : State → Prop} (hG : Gd G) (C : Cx Γ G cX11_letter 6 RX11 (some .int) rmX11_letter) {x1 : Int32} {x2 : Int32} {Q : Int32 → Mem → Prop} (E : EndI Γ G Qf rmX11_letter Q) {L64 : Mem × Int64 × Int32 → Prop} (hL64 : ∀ s, L64 s → X Γ G Qf 6 0 0 64 [(2, .int x2), (3, .long s.2.1), (5, .int s.2.2)] [] s.1) (M : Mem) (y3 : Int64) (y5 : Int32) (h : bX11_letter_64 x1 x2 Q L64 M y3 y5) : X Γ G Qf 6 0 0 64 [(2, .int x2), (3, .long y3), (5, .int y5)] [] M := by
  unfold bX11_letter_64 at h
  refine x_iload C dX11_letter_64 2 rfl ?_
  refine x_iload_n C dX11_letter_66 0 rfl ?_
  refine x_icmp_le (tgt := 82) C dX11_letter_67 (by decide) (fun c23 => ?_) (fun c23 => ?_)
  · replace h := h.1 c23
    refine x_lload_n C dX11_letter_82 1 rfl ?_
    refine x_ldc2 C q153 dX11_letter_83 ?_
    refine x_lrem C dX11_letter_86 (by decide) ?_
    refine x_l2i C dX11_letter_87 ?_
    refine x_iconst (v := 1) C dX11_letter_88 rfl ?_
    refine x_isub C dX11_letter_89 ?_
    exact x_iret C E h (Nat.le_of_ble_eq_true rfl) (Nat.le_of_ble_eq_true rfl) dX11_letter_90
  · replace h := h.2 c23
    refine x_lload_n C dX11_letter_70 1 rfl ?_
    refine x_ldc2 C q153 dX11_letter_71 ?_
    refine x_ldiv C dX11_letter_74 (by decide) ?_
    refine X_nameL (fun v24 ev24 => ?_)
    replace h := h v24 ev24
    refine x_lstore_n (lv' := [(3, .long v24), (2, .int x2), (5, .int y5)]) C dX11_letter_75 rfl (Nat.le_of_ble_eq_true rfl) rfl ?_
    obtain ⟨v25, ev25⟩ : ∃ z : Int32, z = y5 + (-1) := ⟨_, rfl⟩
    replace h := h v25 ev25
    refine x_iinc (v := v25) (lv' := [(5, .int v25), (3, .long v24), (2, .int x2)]) (j := 2) C dX11_letter_76 rfl (by rw [ev25]; rfl) (Nat.le_of_ble_eq_true rfl) rfl ?_
    refine x_goto (tgt := 64) C dX11_letter_79 (by decide) ?_
    refine X_sub (lv' := [(2, .int x2), (3, .long v24), (5, .int v25)]) [2, 1, 0] rfl ?_
    have w9 := hL64 (M, v24, v25) h
    dsimp only at w9
    exact w9
set_option maxRecDepth 100000 in
set_option maxHeartbeats 400000 in
theorem kX11_letter {l : Launch} {G : Gm} (hG : Gd G) (M : Mem) (x1 : Int32) (x2 : Int32) {Q : Int32 → Mem → Prop} (h : pX11_letter M x1 x2 Q) : Cti l G yX11_letter cX11_letter 6 .int rmX11_letter [.ref (ga G 11 0), .int x1, .int x2] M Q := by
  refine cti_of (own := RX11) (by decide +kernel) rfl (Nat.le_of_ble_eq_true rfl) hG (fun Γ Qf hl C E => ?_)
  subst hl
  show X Γ G Qf 6 0 0 0 [(0, .ref (ga G 11 0)), (1, .int x1), (2, .int x2)] [] M
  unfold pX11_letter at h
  refine x_aload_n C dX11_letter_0 0 rfl ?_
  refine x_iconst (v := 0) C dX11_letter_1 rfl ?_
  refine pf_11_0 C q143 z11 dX11_letter_2 ?_
  refine X_nameM (fun M1 eM1 => ?_)
  replace h := h M1 eM1
  refine x_aload_n C dX11_letter_5 0 rfl ?_
  refine x_aload_n C dX11_letter_6 0 rfl ?_
  refine x_iload_n C dX11_letter_7 1 rfl ?_
  refine x_calli (rest := [.ref (ga G 11 0)]) C sv_X11_414 ob11 z11 (kX11_isWord hG _ _ h) rfl rfl (Nat.le_of_ble_eq_true rfl) ⟨Nat.le_of_ble_eq_true rfl, Nat.le_of_ble_eq_true rfl⟩ rfl rfl ⟨Nat.le_of_ble_eq_true rfl, Nat.le_of_ble_eq_true rfl⟩ dX11_letter_8 (fun r2 M3 h => ?_)
  refine x_if_ne (tgt := 18) C dX11_letter_11 (by decide) (fun c4 => ?_) (fun c4 => ?_)
  · replace h := h.1 c4
    refine x_iconst (v := 0) C dX11_letter_18 rfl ?_
    refine x_iconst (v := 1) C dX11_letter_19 rfl ?_
    refine x_iconst (v := 0) C dX11_letter_20 rfl ?_
    refine x_calli (rest := []) C sv_X11_179 ob11 z11 (kX11_bad hG _ _ _ _ h) rfl rfl (Nat.le_of_ble_eq_true rfl) ⟨Nat.le_of_ble_eq_true rfl, Nat.le_of_ble_eq_true rfl⟩ rfl rfl ⟨Nat.le_of_ble_eq_true rfl, Nat.le_of_ble_eq_true rfl⟩ dX11_letter_21 (fun r5 M6 h => ?_)
    refine x_if_eq (tgt := 29) C dX11_letter_24 (by decide) (fun c7 => ?_) (fun c7 => ?_)
    · replace h := h.1 c7
      refine x_iload_n C dX11_letter_29 2 rfl ?_
      refine x_iconst (v := 0) C dX11_letter_30 rfl ?_
      refine x_aload_n C dX11_letter_31 0 rfl ?_
      refine gf_11_15 C q157 z11 dX11_letter_32 ?_
      refine x_iload_n C dX11_letter_35 1 rfl ?_
      obtain ⟨f8, h⟩ := h
      refine al_1215 C z1215 f8 dX11_letter_36 ?_
      refine x_iconst (v := 1) C dX11_letter_37 rfl ?_
      refine x_isub C dX11_letter_38 ?_
      refine x_scalli (rest := []) C ss_X11_172 (kX11_in hG _ _ _ _ h) rfl rfl (Nat.le_of_ble_eq_true rfl) ⟨Nat.le_of_ble_eq_true rfl, Nat.le_of_ble_eq_true rfl⟩ rfl rfl ⟨Nat.le_of_ble_eq_true rfl, Nat.le_of_ble_eq_true rfl⟩ dX11_letter_39 (fun r9 M10 h => ?_)
      refine x_if_ne (tgt := 47) C dX11_letter_42 (by decide) (fun c11 => ?_) (fun c11 => ?_)
      · replace h := h.1 c11
        refine x_aload_n C dX11_letter_47 0 rfl ?_
        refine gf_11_16 C q156 z11 dX11_letter_48 ?_
        refine x_iload_n C dX11_letter_51 1 rfl ?_
        refine al_1216 C z1216 f8 dX11_letter_52 ?_
        refine X_nameL (fun v12 ev12 => ?_)
        replace h := h v12 ev12
        refine x_lstore_n (lv' := [(3, .long v12), (0, .ref (ga G 11 0)), (1, .int x1), (2, .int x2)]) C dX11_letter_53 rfl (Nat.le_of_ble_eq_true rfl) rfl ?_
        refine x_aload_n C dX11_letter_54 1 rfl ?_
        refine gf_11_15 C q157 z11 dX11_letter_55 ?_
        refine x_iload_n C dX11_letter_58 2 rfl ?_
        refine al_1215 C z1215 f8 dX11_letter_59 ?_
        refine x_iconst (v := 1) C dX11_letter_60 rfl ?_
        refine x_isub C dX11_letter_61 ?_
        refine X_name (fun v13 ev13 => ?_)
        replace h := h v13 ev13
        refine x_istore (lv' := [(5, .int v13), (3, .long v12), (0, .ref (ga G 11 0)), (1, .int x1), (2, .int x2)]) C dX11_letter_62 (Nat.le_of_ble_eq_true rfl) rfl ?_
        obtain ⟨n9, h⟩ := h
        refine X_sub (lv' := [(2, .int x2), (3, .long v12), (5, .int v13)]) [4, 1, 0] rfl ?_
        have hb : ∀ (L : Mem × Int64 × Int32 → Prop) (s : Mem × Int64 × Int32), (∀ t, L t → X Γ G Qf 6 0 0 64 [(2, .int x2), (3, .long t.2.1), (5, .int t.2.2)] [] t.1) → bX11_letter_64 x1 x2 Q L s.1 s.2.1 s.2.2 → X Γ G Qf 6 0 0 64 [(2, .int x2), (3, .long s.2.1), (5, .int s.2.2)] [] s.1 := fun L s hL h => wX11_letter_64 hG C E hL s.1 s.2.1 s.2.2 h
        have w9 := lp_walk (P := fun s : Mem × Int64 × Int32 => X Γ G Qf 6 0 0 64 [(2, .int x2), (3, .long s.2.1), (5, .int s.2.2)] [] s.1) h hb
        dsimp only at w9
        exact w9
      · replace h := h.2 c11
        refine x_iconst (v := (-1)) C dX11_letter_45 rfl ?_
        exact x_iret C E h (Nat.le_of_ble_eq_true rfl) (Nat.le_of_ble_eq_true rfl) dX11_letter_46
    · replace h := h.2 c7
      refine x_iconst (v := 0) C dX11_letter_27 rfl ?_
      exact x_iret C E h (Nat.le_of_ble_eq_true rfl) (Nat.le_of_ble_eq_true rfl) dX11_letter_28
  · replace h := h.2 c4
    refine x_iconst (v := 1) C dX11_letter_14 rfl ?_
    refine x_goto (tgt := 19) C dX11_letter_15 (by decide) ?_
    refine x_iconst (v := 1) C dX11_letter_19 rfl ?_
    refine x_iconst (v := 0) C dX11_letter_20 rfl ?_
    refine x_calli (rest := []) C sv_X11_179 ob11 z11 (kX11_bad hG _ _ _ _ h) rfl rfl (Nat.le_of_ble_eq_true rfl) ⟨Nat.le_of_ble_eq_true rfl, Nat.le_of_ble_eq_true rfl⟩ rfl rfl ⟨Nat.le_of_ble_eq_true rfl, Nat.le_of_ble_eq_true rfl⟩ dX11_letter_21 (fun r14 M15 h => ?_)
    refine x_if_eq (tgt := 29) C dX11_letter_24 (by decide) (fun c16 => ?_) (fun c16 => ?_)
    · replace h := h.1 c16
      refine x_iload_n C dX11_letter_29 2 rfl ?_
      refine x_iconst (v := 0) C dX11_letter_30 rfl ?_
      refine x_aload_n C dX11_letter_31 0 rfl ?_
      refine gf_11_15 C q157 z11 dX11_letter_32 ?_
      refine x_iload_n C dX11_letter_35 1 rfl ?_
      obtain ⟨f17, h⟩ := h
      refine al_1215 C z1215 f17 dX11_letter_36 ?_
      refine x_iconst (v := 1) C dX11_letter_37 rfl ?_
      refine x_isub C dX11_letter_38 ?_
      refine x_scalli (rest := []) C ss_X11_172 (kX11_in hG _ _ _ _ h) rfl rfl (Nat.le_of_ble_eq_true rfl) ⟨Nat.le_of_ble_eq_true rfl, Nat.le_of_ble_eq_true rfl⟩ rfl rfl ⟨Nat.le_of_ble_eq_true rfl, Nat.le_of_ble_eq_true rfl⟩ dX11_letter_39 (fun r18 M19 h => ?_)
      refine x_if_ne (tgt := 47) C dX11_letter_42 (by decide) (fun c20 => ?_) (fun c20 => ?_)
      · replace h := h.1 c20
        refine x_aload_n C dX11_letter_47 0 rfl ?_
        refine gf_11_16 C q156 z11 dX11_letter_48 ?_
        refine x_iload_n C dX11_letter_51 1 rfl ?_
        refine al_1216 C z1216 f17 dX11_letter_52 ?_
        refine X_nameL (fun v21 ev21 => ?_)
        replace h := h v21 ev21
        refine x_lstore_n (lv' := [(3, .long v21), (0, .ref (ga G 11 0)), (1, .int x1), (2, .int x2)]) C dX11_letter_53 rfl (Nat.le_of_ble_eq_true rfl) rfl ?_
        refine x_aload_n C dX11_letter_54 1 rfl ?_
        refine gf_11_15 C q157 z11 dX11_letter_55 ?_
        refine x_iload_n C dX11_letter_58 2 rfl ?_
        refine al_1215 C z1215 f17 dX11_letter_59 ?_
        refine x_iconst (v := 1) C dX11_letter_60 rfl ?_
        refine x_isub C dX11_letter_61 ?_
        refine X_name (fun v22 ev22 => ?_)
        replace h := h v22 ev22
        refine x_istore (lv' := [(5, .int v22), (3, .long v21), (0, .ref (ga G 11 0)), (1, .int x1), (2, .int x2)]) C dX11_letter_62 (Nat.le_of_ble_eq_true rfl) rfl ?_
        obtain ⟨n9, h⟩ := h
        refine X_sub (lv' := [(2, .int x2), (3, .long v21), (5, .int v22)]) [4, 1, 0] rfl ?_
        have hb : ∀ (L : Mem × Int64 × Int32 → Prop) (s : Mem × Int64 × Int32), (∀ t, L t → X Γ G Qf 6 0 0 64 [(2, .int x2), (3, .long t.2.1), (5, .int t.2.2)] [] t.1) → bX11_letter_64 x1 x2 Q L s.1 s.2.1 s.2.2 → X Γ G Qf 6 0 0 64 [(2, .int x2), (3, .long s.2.1), (5, .int s.2.2)] [] s.1 := fun L s hL h => wX11_letter_64 hG C E hL s.1 s.2.1 s.2.2 h
        have w9 := lp_walk (P := fun s : Mem × Int64 × Int32 => X Γ G Qf 6 0 0 64 [(2, .int x2), (3, .long s.2.1), (5, .int s.2.2)] [] s.1) h hb
        dsimp only at w9
        exact w9
      · replace h := h.2 c20
        refine x_iconst (v := (-1)) C dX11_letter_45 rfl ?_
        exact x_iret C E h (Nat.le_of_ble_eq_true rfl) (Nat.le_of_ble_eq_true rfl) dX11_letter_46
    · replace h := h.2 c16
      refine x_iconst (v := 0) C dX11_letter_27 rfl ?_
      exact x_iret C E h (Nat.le_of_ble_eq_true rfl) (Nat.le_of_ble_eq_true rfl) dX11_letter_28
def rmX11_isBlock : Room := { frames := 2, cells := 0, slots := 0, locals := 43 }
def pX11_isBlock (M : Mem) (x1 : Int32) (x2 : Int32) (Q : Int32 → Mem → Prop) : Prop :=
  pX11_isWord M x1 (fun r1 M2 => ((¬ r1 = 0 → pX11_gathers M2 x1 (fun M5 => pX11_blocksOf M5 (M5.1 1237 0 0) (M5.1 1211 0 0) (fun r6 M7 => pX11_in M7 x2 0 (r6 - 1) (fun r8 M9 => bz r8 ∧ Q r8 M9)))) ∧ (r1 = 0 → Q 0 M2)))
set_option maxRecDepth 100000 in
set_option maxHeartbeats 400000 in
theorem kX11_isBlock {l : Launch} {G : Gm} (hG : Gd G) (M : Mem) (x1 : Int32) (x2 : Int32) {Q : Int32 → Mem → Prop} (h : pX11_isBlock M x1 x2 Q) : Cti l G yX11_isBlock cX11_isBlock 3 .boolean rmX11_isBlock [.ref (ga G 11 0), .int x1, .int x2] M Q := by
  refine cti_of (own := RX11) (by decide +kernel) rfl (Nat.le_of_ble_eq_true rfl) hG (fun Γ Qf hl C E => ?_)
  subst hl
  show X Γ G Qf 3 0 0 0 [(0, .ref (ga G 11 0)), (1, .int x1), (2, .int x2)] [] M
  unfold pX11_isBlock at h
  refine x_aload_n C dX11_isBlock_0 0 rfl ?_
  refine x_iload_n C dX11_isBlock_1 1 rfl ?_
  refine x_calli (rest := []) C sv_X11_414 ob11 z11 (kX11_isWord hG _ _ h) rfl rfl (Nat.le_of_ble_eq_true rfl) ⟨Nat.le_of_ble_eq_true rfl, Nat.le_of_ble_eq_true rfl⟩ rfl rfl ⟨Nat.le_of_ble_eq_true rfl, Nat.le_of_ble_eq_true rfl⟩ dX11_isBlock_2 (fun r1 M2 h => ?_)
  refine x_if_ne (tgt := 10) C dX11_isBlock_5 (by decide) (fun c3 => ?_) (fun c3 => ?_)
  · replace h := h.1 c3
    refine x_aload_n C dX11_isBlock_10 0 rfl ?_
    refine x_iload_n C dX11_isBlock_11 1 rfl ?_
    refine x_callv (rest := []) C sv_X11_252 ob11 z11 (kX11_gathers hG _ _ h) rfl rfl (Nat.le_of_ble_eq_true rfl) ⟨Nat.le_of_ble_eq_true rfl, Nat.le_of_ble_eq_true rfl⟩ rfl rfl ⟨Nat.le_of_ble_eq_true rfl, Nat.le_of_ble_eq_true rfl⟩ dX11_isBlock_12 (fun M5 h => ?_)
    refine x_iload_n C dX11_isBlock_15 2 rfl ?_
    refine x_iconst (v := 0) C dX11_isBlock_16 rfl ?_
    refine x_aload_n C dX11_isBlock_17 0 rfl ?_
    refine gf_11_37 C q181 z11 dX11_isBlock_18 ?_
    refine x_aload_n C dX11_isBlock_21 0 rfl ?_
    refine gf_11_11 C q209 z11 dX11_isBlock_22 ?_
    refine x_scalli (rest := [.int 0, .int x2]) C ss_X11_314 (kX11_blocksOf hG _ _ _ h) rfl rfl (Nat.le_of_ble_eq_true rfl) ⟨Nat.le_of_ble_eq_true rfl, Nat.le_of_ble_eq_true rfl⟩ rfl rfl ⟨Nat.le_of_ble_eq_true rfl, Nat.le_of_ble_eq_true rfl⟩ dX11_isBlock_25 (fun r6 M7 h => ?_)
    refine x_iconst (v := 1) C dX11_isBlock_28 rfl ?_
    refine x_isub C dX11_isBlock_29 ?_
    refine x_scalli (rest := []) C ss_X11_172 (kX11_in hG _ _ _ _ h) rfl rfl (Nat.le_of_ble_eq_true rfl) ⟨Nat.le_of_ble_eq_true rfl, Nat.le_of_ble_eq_true rfl⟩ rfl rfl ⟨Nat.le_of_ble_eq_true rfl, Nat.le_of_ble_eq_true rfl⟩ dX11_isBlock_30 (fun r8 M9 h => ?_)
    obtain ⟨f10, h⟩ := h
    exact x_zret C E h (bz_nar f10) (Nat.le_of_ble_eq_true rfl) (Nat.le_of_ble_eq_true rfl) dX11_isBlock_33
  · replace h := h.2 c3
    refine x_iconst (v := 0) C dX11_isBlock_8 rfl ?_
    exact x_zret C E h rfl (Nat.le_of_ble_eq_true rfl) (Nat.le_of_ble_eq_true rfl) dX11_isBlock_9
