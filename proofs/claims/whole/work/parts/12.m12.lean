def rmX11_block : Room := { frames := 4, cells := 0, slots := 0, locals := 100 }
def pX11_block (M : Mem) (x1 : Int32) (x2 : Int32) (x3 : Int32) (Q : Int32 → Mem → Prop) : Prop :=
  ∀ M1 : Mem, M1 = up1 M 1200 0 0 0 → pX11_isBlock M1 x1 x2 (fun r2 M3 => ((¬ r2 = 0 → pX11_bad M3 0 1 0 (fun r5 M6 => ((¬ r5 = 0 → Q 0 M6) ∧ (r5 = 0 → pX11_in M6 x3 0 7 (fun r8 M9 => ((¬ r8 = 0 → pX11_bad M9 0 2 1 (fun r11 M12 => ((r11 = 0 → ∀ v14 : Int32, v14 = (x2 * (M12.1 1211 0 0)) → pX11_less M12 (M12.1 1237 0 0) (v14 + (M12.1 1211 0 0)) (fun r15 M16 => ((x3 = 0 → vp_in v14 64 ∧ Q (M16.1 1238 0 (tn v14)) M16) ∧ (x3 = 1 → vp_in (r15 - 1) 64 ∧ Q (M16.1 1238 0 (tn (r15 - 1))) M16) ∧ (x3 = 2 → Q (r15 - v14) M16) ∧ (x3 = 3 → pX11_top M16 x1 v14 r15 (fun r23 M24 => Q r23 M24)) ∧ (x3 = 4 → pX11_bitsOfBlock M16 x1 v14 r15 (fun r26 M27 => Q r26 M27)) ∧ (¬ x3 = 0 → ¬ x3 = 1 → ¬ x3 = 2 → ¬ x3 = 3 → ¬ x3 = 4 → pX11_width M16 x1 v14 r15 (x3 - 5) (fun r28 M29 => Q r28 M29))))) ∧ (¬ r11 = 0 → Q 0 M12)))) ∧ (r8 = 0 → pX11_bad M9 1 2 1 (fun r30 M31 => ((r30 = 0 → ∀ v33 : Int32, v33 = (x2 * (M31.1 1211 0 0)) → pX11_less M31 (M31.1 1237 0 0) (v33 + (M31.1 1211 0 0)) (fun r34 M35 => ((x3 = 0 → vp_in v33 64 ∧ Q (M35.1 1238 0 (tn v33)) M35) ∧ (x3 = 1 → vp_in (r34 - 1) 64 ∧ Q (M35.1 1238 0 (tn (r34 - 1))) M35) ∧ (x3 = 2 → Q (r34 - v33) M35) ∧ (x3 = 3 → pX11_top M35 x1 v33 r34 (fun r42 M43 => Q r42 M43)) ∧ (x3 = 4 → pX11_bitsOfBlock M35 x1 v33 r34 (fun r45 M46 => Q r45 M46)) ∧ (¬ x3 = 0 → ¬ x3 = 1 → ¬ x3 = 2 → ¬ x3 = 3 → ¬ x3 = 4 → pX11_width M35 x1 v33 r34 (x3 - 5) (fun r47 M48 => Q r47 M48))))) ∧ (¬ r30 = 0 → Q 0 M31)))))))))) ∧ (r2 = 0 → pX11_bad M3 1 1 0 (fun r49 M50 => ((¬ r49 = 0 → Q 0 M50) ∧ (r49 = 0 → pX11_in M50 x3 0 7 (fun r52 M53 => ((¬ r52 = 0 → pX11_bad M53 0 2 1 (fun r55 M56 => ((r55 = 0 → ∀ v58 : Int32, v58 = (x2 * (M56.1 1211 0 0)) → pX11_less M56 (M56.1 1237 0 0) (v58 + (M56.1 1211 0 0)) (fun r59 M60 => ((x3 = 0 → vp_in v58 64 ∧ Q (M60.1 1238 0 (tn v58)) M60) ∧ (x3 = 1 → vp_in (r59 - 1) 64 ∧ Q (M60.1 1238 0 (tn (r59 - 1))) M60) ∧ (x3 = 2 → Q (r59 - v58) M60) ∧ (x3 = 3 → pX11_top M60 x1 v58 r59 (fun r67 M68 => Q r67 M68)) ∧ (x3 = 4 → pX11_bitsOfBlock M60 x1 v58 r59 (fun r70 M71 => Q r70 M71)) ∧ (¬ x3 = 0 → ¬ x3 = 1 → ¬ x3 = 2 → ¬ x3 = 3 → ¬ x3 = 4 → pX11_width M60 x1 v58 r59 (x3 - 5) (fun r72 M73 => Q r72 M73))))) ∧ (¬ r55 = 0 → Q 0 M56)))) ∧ (r52 = 0 → pX11_bad M53 1 2 1 (fun r74 M75 => ((r74 = 0 → ∀ v77 : Int32, v77 = (x2 * (M75.1 1211 0 0)) → pX11_less M75 (M75.1 1237 0 0) (v77 + (M75.1 1211 0 0)) (fun r78 M79 => ((x3 = 0 → vp_in v77 64 ∧ Q (M79.1 1238 0 (tn v77)) M79) ∧ (x3 = 1 → vp_in (r78 - 1) 64 ∧ Q (M79.1 1238 0 (tn (r78 - 1))) M79) ∧ (x3 = 2 → Q (r78 - v77) M79) ∧ (x3 = 3 → pX11_top M79 x1 v77 r78 (fun r86 M87 => Q r86 M87)) ∧ (x3 = 4 → pX11_bitsOfBlock M79 x1 v77 r78 (fun r89 M90 => Q r89 M90)) ∧ (¬ x3 = 0 → ¬ x3 = 1 → ¬ x3 = 2 → ¬ x3 = 3 → ¬ x3 = 4 → pX11_width M79 x1 v77 r78 (x3 - 5) (fun r91 M92 => Q r91 M92))))) ∧ (¬ r74 = 0 → Q 0 M75))))))))))))
set_option maxRecDepth 100000 in
set_option maxHeartbeats 400000 in
theorem kX11_block {l : Launch} {G : Gm} (hG : Gd G) (M : Mem) (x1 : Int32) (x2 : Int32) (x3 : Int32) {Q : Int32 → Mem → Prop} (h : pX11_block M x1 x2 x3 Q) : Cti l G yX11_block cX11_block 6 .int rmX11_block [.ref (ga G 11 0), .int x1, .int x2, .int x3] M Q := by
  refine cti_of (own := RX11) (by decide +kernel) rfl (Nat.le_of_ble_eq_true rfl) hG (fun Γ Qf hl C E => ?_)
  subst hl
  show X Γ G Qf 6 0 0 0 [(0, .ref (ga G 11 0)), (1, .int x1), (2, .int x2), (3, .int x3)] [] M
  unfold pX11_block at h
  refine x_aload_n C dX11_block_0 0 rfl ?_
  refine x_iconst (v := 0) C dX11_block_1 rfl ?_
  refine pf_11_0 C q143 z11 dX11_block_2 ?_
  refine X_nameM (fun M1 eM1 => ?_)
  replace h := h M1 eM1
  refine x_aload_n C dX11_block_5 0 rfl ?_
  refine x_aload_n C dX11_block_6 0 rfl ?_
  refine x_iload_n C dX11_block_7 1 rfl ?_
  refine x_iload_n C dX11_block_8 2 rfl ?_
  refine x_calli (rest := [.ref (ga G 11 0)]) C sv_X11_423 ob11 z11 (kX11_isBlock hG _ _ _ h) rfl rfl (Nat.le_of_ble_eq_true rfl) ⟨Nat.le_of_ble_eq_true rfl, Nat.le_of_ble_eq_true rfl⟩ rfl rfl ⟨Nat.le_of_ble_eq_true rfl, Nat.le_of_ble_eq_true rfl⟩ dX11_block_9 (fun r2 M3 h => ?_)
  refine x_if_ne (tgt := 19) C dX11_block_12 (by decide) (fun c4 => ?_) (fun c4 => ?_)
  · replace h := h.1 c4
    refine x_iconst (v := 0) C dX11_block_19 rfl ?_
    refine x_iconst (v := 1) C dX11_block_20 rfl ?_
    refine x_iconst (v := 0) C dX11_block_21 rfl ?_
    refine x_calli (rest := []) C sv_X11_179 ob11 z11 (kX11_bad hG _ _ _ _ h) rfl rfl (Nat.le_of_ble_eq_true rfl) ⟨Nat.le_of_ble_eq_true rfl, Nat.le_of_ble_eq_true rfl⟩ rfl rfl ⟨Nat.le_of_ble_eq_true rfl, Nat.le_of_ble_eq_true rfl⟩ dX11_block_22 (fun r5 M6 h => ?_)
    refine x_if_ne (tgt := 52) C dX11_block_25 (by decide) (fun c7 => ?_) (fun c7 => ?_)
    · replace h := h.1 c7
      refine x_iconst (v := 0) C dX11_block_52 rfl ?_
      exact x_iret C E h (Nat.le_of_ble_eq_true rfl) (Nat.le_of_ble_eq_true rfl) dX11_block_53
    · replace h := h.2 c7
      refine x_aload_n C dX11_block_28 0 rfl ?_
      refine x_iload_n C dX11_block_29 3 rfl ?_
      refine x_iconst (v := 0) C dX11_block_30 rfl ?_
      refine x_bipush (v := 7) C dX11_block_31 rfl ?_
      refine x_scalli (rest := [.ref (ga G 11 0)]) C ss_X11_172 (kX11_in hG _ _ _ _ h) rfl rfl (Nat.le_of_ble_eq_true rfl) ⟨Nat.le_of_ble_eq_true rfl, Nat.le_of_ble_eq_true rfl⟩ rfl rfl ⟨Nat.le_of_ble_eq_true rfl, Nat.le_of_ble_eq_true rfl⟩ dX11_block_33 (fun r8 M9 h => ?_)
      refine x_if_ne (tgt := 43) C dX11_block_36 (by decide) (fun c10 => ?_) (fun c10 => ?_)
      · replace h := h.1 c10
        refine x_iconst (v := 0) C dX11_block_43 rfl ?_
        refine x_iconst (v := 2) C dX11_block_44 rfl ?_
        refine x_iconst (v := 1) C dX11_block_45 rfl ?_
        refine x_calli (rest := []) C sv_X11_179 ob11 z11 (kX11_bad hG _ _ _ _ h) rfl rfl (Nat.le_of_ble_eq_true rfl) ⟨Nat.le_of_ble_eq_true rfl, Nat.le_of_ble_eq_true rfl⟩ rfl rfl ⟨Nat.le_of_ble_eq_true rfl, Nat.le_of_ble_eq_true rfl⟩ dX11_block_46 (fun r11 M12 h => ?_)
        refine x_if_eq (tgt := 54) C dX11_block_49 (by decide) (fun c13 => ?_) (fun c13 => ?_)
        · replace h := h.1 c13
          refine x_iload_n C dX11_block_54 2 rfl ?_
          refine x_aload_n C dX11_block_55 0 rfl ?_
          refine gf_11_11 C q209 z11 dX11_block_56 ?_
          refine x_imul C dX11_block_59 ?_
          refine X_name (fun v14 ev14 => ?_)
          replace h := h v14 ev14
          refine x_istore (lv' := [(4, .int v14), (0, .ref (ga G 11 0)), (1, .int x1), (2, .int x2), (3, .int x3)]) C dX11_block_60 (Nat.le_of_ble_eq_true rfl) rfl ?_
          refine x_aload_n C dX11_block_62 1 rfl ?_
          refine gf_11_37 C q181 z11 dX11_block_63 ?_
          refine x_iload C dX11_block_66 0 rfl ?_
          refine x_aload_n C dX11_block_68 1 rfl ?_
          refine gf_11_11 C q209 z11 dX11_block_69 ?_
          refine x_iadd C dX11_block_72 ?_
          refine x_scalli (rest := []) C ss_X11_236 (kX11_less hG _ _ _ h) rfl rfl (Nat.le_of_ble_eq_true rfl) ⟨Nat.le_of_ble_eq_true rfl, Nat.le_of_ble_eq_true rfl⟩ rfl rfl ⟨Nat.le_of_ble_eq_true rfl, Nat.le_of_ble_eq_true rfl⟩ dX11_block_73 (fun r15 M16 h => ?_)
          refine x_istore (lv' := [(5, .int r15), (4, .int v14), (0, .ref (ga G 11 0)), (1, .int x1), (2, .int x2), (3, .int x3)]) C dX11_block_76 (Nat.le_of_ble_eq_true rfl) rfl ?_
          refine x_iload_n C dX11_block_78 5 rfl ?_
          by_cases c17 : x3 = 0
          · replace h := h.1 c17
            refine x_tabIn (v := 0) (tgt := 112) C dX11_block_79 c17 (by decide) (by decide) rfl (by decide) ?_
            refine x_aload_n C dX11_block_112 2 rfl ?_
            refine gf_11_38 C q182 z11 dX11_block_113 ?_
            refine x_iload C dX11_block_116 1 rfl ?_
            obtain ⟨f18, h⟩ := h
            refine al_1238 C z1238 f18 dX11_block_118 ?_
            exact x_iret C E h (Nat.le_of_ble_eq_true rfl) (Nat.le_of_ble_eq_true rfl) dX11_block_119
          by_cases c19 : x3 = 1
          · replace h := h.2.1 c19
            refine x_tabIn (v := 1) (tgt := 120) C dX11_block_79 c19 (by decide) (by decide) rfl (by decide) ?_
            refine x_aload_n C dX11_block_120 2 rfl ?_
            refine gf_11_38 C q182 z11 dX11_block_121 ?_
            refine x_iload C dX11_block_124 0 rfl ?_
            refine x_iconst (v := 1) C dX11_block_126 rfl ?_
            refine x_isub C dX11_block_127 ?_
            obtain ⟨f20, h⟩ := h
            refine al_1238 C z1238 f20 dX11_block_128 ?_
            exact x_iret C E h (Nat.le_of_ble_eq_true rfl) (Nat.le_of_ble_eq_true rfl) dX11_block_129
          by_cases c21 : x3 = 2
          · replace h := h.2.2.1 c21
            refine x_tabIn (v := 2) (tgt := 130) C dX11_block_79 c21 (by decide) (by decide) rfl (by decide) ?_
            refine x_iload C dX11_block_130 0 rfl ?_
            refine x_iload C dX11_block_132 1 rfl ?_
            refine x_isub C dX11_block_134 ?_
            exact x_iret C E h (Nat.le_of_ble_eq_true rfl) (Nat.le_of_ble_eq_true rfl) dX11_block_135
          by_cases c22 : x3 = 3
          · replace h := h.2.2.2.1 c22
            refine x_tabIn (v := 3) (tgt := 136) C dX11_block_79 c22 (by decide) (by decide) rfl (by decide) ?_
            refine x_aload_n C dX11_block_136 2 rfl ?_
            refine x_iload_n C dX11_block_137 3 rfl ?_
            refine x_iload C dX11_block_138 1 rfl ?_
            refine x_iload C dX11_block_140 0 rfl ?_
            refine x_calli (rest := []) C sv_X11_411 ob11 z11 (kX11_top hG _ _ _ _ h) rfl rfl (Nat.le_of_ble_eq_true rfl) ⟨Nat.le_of_ble_eq_true rfl, Nat.le_of_ble_eq_true rfl⟩ rfl rfl ⟨Nat.le_of_ble_eq_true rfl, Nat.le_of_ble_eq_true rfl⟩ dX11_block_142 (fun r23 M24 h => ?_)
            exact x_iret C E h (Nat.le_of_ble_eq_true rfl) (Nat.le_of_ble_eq_true rfl) dX11_block_145
          by_cases c25 : x3 = 4
          · replace h := h.2.2.2.2.1 c25
            refine x_tabIn (v := 4) (tgt := 146) C dX11_block_79 c25 (by decide) (by decide) rfl (by decide) ?_
            refine x_aload_n C dX11_block_146 2 rfl ?_
            refine x_iload_n C dX11_block_147 3 rfl ?_
            refine x_iload C dX11_block_148 1 rfl ?_
            refine x_iload C dX11_block_150 0 rfl ?_
            refine x_calli (rest := []) C sv_X11_274 ob11 z11 (kX11_bitsOfBlock hG _ _ _ _ h) rfl rfl (Nat.le_of_ble_eq_true rfl) ⟨Nat.le_of_ble_eq_true rfl, Nat.le_of_ble_eq_true rfl⟩ rfl rfl ⟨Nat.le_of_ble_eq_true rfl, Nat.le_of_ble_eq_true rfl⟩ dX11_block_152 (fun r26 M27 h => ?_)
            exact x_iret C E h (Nat.le_of_ble_eq_true rfl) (Nat.le_of_ble_eq_true rfl) dX11_block_155
          replace h := h.2.2.2.2.2 c17 c19 c21 c22 c25
          refine x_tabOut (tgt := 156) C dX11_block_79 (by have ac17 := lv_neT (a := 0) c17 rfl; have ac19 := lv_neT (a := 1) c19 rfl; have ac21 := lv_neT (a := 2) c21 rfl; have ac22 := lv_neT (a := 3) c22 rfl; have ac25 := lv_neT (a := 4) c25 rfl; omega) (by decide) ?_
          refine x_aload_n C dX11_block_156 2 rfl ?_
          refine x_iload_n C dX11_block_157 3 rfl ?_
          refine x_iload C dX11_block_158 1 rfl ?_
          refine x_iload C dX11_block_160 0 rfl ?_
          refine x_iload_n C dX11_block_162 5 rfl ?_
          refine x_iconst (v := 5) C dX11_block_163 rfl ?_
          refine x_isub C dX11_block_164 ?_
          refine x_calli (rest := []) C sv_X11_270 ob11 z11 (kX11_width hG _ _ _ _ _ h) rfl rfl (Nat.le_of_ble_eq_true rfl) ⟨Nat.le_of_ble_eq_true rfl, Nat.le_of_ble_eq_true rfl⟩ rfl rfl ⟨Nat.le_of_ble_eq_true rfl, Nat.le_of_ble_eq_true rfl⟩ dX11_block_165 (fun r28 M29 h => ?_)
          exact x_iret C E h (Nat.le_of_ble_eq_true rfl) (Nat.le_of_ble_eq_true rfl) dX11_block_168
        · replace h := h.2 c13
          refine x_iconst (v := 0) C dX11_block_52 rfl ?_
          exact x_iret C E h (Nat.le_of_ble_eq_true rfl) (Nat.le_of_ble_eq_true rfl) dX11_block_53
      · replace h := h.2 c10
        refine x_iconst (v := 1) C dX11_block_39 rfl ?_
        refine x_goto (tgt := 44) C dX11_block_40 (by decide) ?_
        refine x_iconst (v := 2) C dX11_block_44 rfl ?_
        refine x_iconst (v := 1) C dX11_block_45 rfl ?_
        refine x_calli (rest := []) C sv_X11_179 ob11 z11 (kX11_bad hG _ _ _ _ h) rfl rfl (Nat.le_of_ble_eq_true rfl) ⟨Nat.le_of_ble_eq_true rfl, Nat.le_of_ble_eq_true rfl⟩ rfl rfl ⟨Nat.le_of_ble_eq_true rfl, Nat.le_of_ble_eq_true rfl⟩ dX11_block_46 (fun r30 M31 h => ?_)
        refine x_if_eq (tgt := 54) C dX11_block_49 (by decide) (fun c32 => ?_) (fun c32 => ?_)
        · replace h := h.1 c32
          refine x_iload_n C dX11_block_54 2 rfl ?_
          refine x_aload_n C dX11_block_55 0 rfl ?_
          refine gf_11_11 C q209 z11 dX11_block_56 ?_
          refine x_imul C dX11_block_59 ?_
          refine X_name (fun v33 ev33 => ?_)
          replace h := h v33 ev33
          refine x_istore (lv' := [(4, .int v33), (0, .ref (ga G 11 0)), (1, .int x1), (2, .int x2), (3, .int x3)]) C dX11_block_60 (Nat.le_of_ble_eq_true rfl) rfl ?_
          refine x_aload_n C dX11_block_62 1 rfl ?_
          refine gf_11_37 C q181 z11 dX11_block_63 ?_
          refine x_iload C dX11_block_66 0 rfl ?_
          refine x_aload_n C dX11_block_68 1 rfl ?_
          refine gf_11_11 C q209 z11 dX11_block_69 ?_
          refine x_iadd C dX11_block_72 ?_
          refine x_scalli (rest := []) C ss_X11_236 (kX11_less hG _ _ _ h) rfl rfl (Nat.le_of_ble_eq_true rfl) ⟨Nat.le_of_ble_eq_true rfl, Nat.le_of_ble_eq_true rfl⟩ rfl rfl ⟨Nat.le_of_ble_eq_true rfl, Nat.le_of_ble_eq_true rfl⟩ dX11_block_73 (fun r34 M35 h => ?_)
          refine x_istore (lv' := [(5, .int r34), (4, .int v33), (0, .ref (ga G 11 0)), (1, .int x1), (2, .int x2), (3, .int x3)]) C dX11_block_76 (Nat.le_of_ble_eq_true rfl) rfl ?_
          refine x_iload_n C dX11_block_78 5 rfl ?_
          by_cases c36 : x3 = 0
          · replace h := h.1 c36
            refine x_tabIn (v := 0) (tgt := 112) C dX11_block_79 c36 (by decide) (by decide) rfl (by decide) ?_
            refine x_aload_n C dX11_block_112 2 rfl ?_
            refine gf_11_38 C q182 z11 dX11_block_113 ?_
            refine x_iload C dX11_block_116 1 rfl ?_
            obtain ⟨f37, h⟩ := h
            refine al_1238 C z1238 f37 dX11_block_118 ?_
            exact x_iret C E h (Nat.le_of_ble_eq_true rfl) (Nat.le_of_ble_eq_true rfl) dX11_block_119
          by_cases c38 : x3 = 1
          · replace h := h.2.1 c38
            refine x_tabIn (v := 1) (tgt := 120) C dX11_block_79 c38 (by decide) (by decide) rfl (by decide) ?_
            refine x_aload_n C dX11_block_120 2 rfl ?_
            refine gf_11_38 C q182 z11 dX11_block_121 ?_
            refine x_iload C dX11_block_124 0 rfl ?_
            refine x_iconst (v := 1) C dX11_block_126 rfl ?_
            refine x_isub C dX11_block_127 ?_
            obtain ⟨f39, h⟩ := h
            refine al_1238 C z1238 f39 dX11_block_128 ?_
            exact x_iret C E h (Nat.le_of_ble_eq_true rfl) (Nat.le_of_ble_eq_true rfl) dX11_block_129
          by_cases c40 : x3 = 2
          · replace h := h.2.2.1 c40
            refine x_tabIn (v := 2) (tgt := 130) C dX11_block_79 c40 (by decide) (by decide) rfl (by decide) ?_
            refine x_iload C dX11_block_130 0 rfl ?_
            refine x_iload C dX11_block_132 1 rfl ?_
            refine x_isub C dX11_block_134 ?_
            exact x_iret C E h (Nat.le_of_ble_eq_true rfl) (Nat.le_of_ble_eq_true rfl) dX11_block_135
          by_cases c41 : x3 = 3
          · replace h := h.2.2.2.1 c41
            refine x_tabIn (v := 3) (tgt := 136) C dX11_block_79 c41 (by decide) (by decide) rfl (by decide) ?_
            refine x_aload_n C dX11_block_136 2 rfl ?_
            refine x_iload_n C dX11_block_137 3 rfl ?_
            refine x_iload C dX11_block_138 1 rfl ?_
            refine x_iload C dX11_block_140 0 rfl ?_
            refine x_calli (rest := []) C sv_X11_411 ob11 z11 (kX11_top hG _ _ _ _ h) rfl rfl (Nat.le_of_ble_eq_true rfl) ⟨Nat.le_of_ble_eq_true rfl, Nat.le_of_ble_eq_true rfl⟩ rfl rfl ⟨Nat.le_of_ble_eq_true rfl, Nat.le_of_ble_eq_true rfl⟩ dX11_block_142 (fun r42 M43 h => ?_)
            exact x_iret C E h (Nat.le_of_ble_eq_true rfl) (Nat.le_of_ble_eq_true rfl) dX11_block_145
          by_cases c44 : x3 = 4
          · replace h := h.2.2.2.2.1 c44
            refine x_tabIn (v := 4) (tgt := 146) C dX11_block_79 c44 (by decide) (by decide) rfl (by decide) ?_
            refine x_aload_n C dX11_block_146 2 rfl ?_
            refine x_iload_n C dX11_block_147 3 rfl ?_
            refine x_iload C dX11_block_148 1 rfl ?_
            refine x_iload C dX11_block_150 0 rfl ?_
            refine x_calli (rest := []) C sv_X11_274 ob11 z11 (kX11_bitsOfBlock hG _ _ _ _ h) rfl rfl (Nat.le_of_ble_eq_true rfl) ⟨Nat.le_of_ble_eq_true rfl, Nat.le_of_ble_eq_true rfl⟩ rfl rfl ⟨Nat.le_of_ble_eq_true rfl, Nat.le_of_ble_eq_true rfl⟩ dX11_block_152 (fun r45 M46 h => ?_)
            exact x_iret C E h (Nat.le_of_ble_eq_true rfl) (Nat.le_of_ble_eq_true rfl) dX11_block_155
          replace h := h.2.2.2.2.2 c36 c38 c40 c41 c44
          refine x_tabOut (tgt := 156) C dX11_block_79 (by have ac36 := lv_neT (a := 0) c36 rfl; have ac38 := lv_neT (a := 1) c38 rfl; have ac40 := lv_neT (a := 2) c40 rfl; have ac41 := lv_neT (a := 3) c41 rfl; have ac44 := lv_neT (a := 4) c44 rfl; omega) (by decide) ?_
          refine x_aload_n C dX11_block_156 2 rfl ?_
          refine x_iload_n C dX11_block_157 3 rfl ?_
          refine x_iload C dX11_block_158 1 rfl ?_
          refine x_iload C dX11_block_160 0 rfl ?_
          refine x_iload_n C dX11_block_162 5 rfl ?_
          refine x_iconst (v := 5) C dX11_block_163 rfl ?_
          refine x_isub C dX11_block_164 ?_
          refine x_calli (rest := []) C sv_X11_270 ob11 z11 (kX11_width hG _ _ _ _ _ h) rfl rfl (Nat.le_of_ble_eq_true rfl) ⟨Nat.le_of_ble_eq_true rfl, Nat.le_of_ble_eq_true rfl⟩ rfl rfl ⟨Nat.le_of_ble_eq_true rfl, Nat.le_of_ble_eq_true rfl⟩ dX11_block_165 (fun r47 M48 h => ?_)
          exact x_iret C E h (Nat.le_of_ble_eq_true rfl) (Nat.le_of_ble_eq_true rfl) dX11_block_168
        · replace h := h.2 c32
          refine x_iconst (v := 0) C dX11_block_52 rfl ?_
          exact x_iret C E h (Nat.le_of_ble_eq_true rfl) (Nat.le_of_ble_eq_true rfl) dX11_block_53
  · replace h := h.2 c4
    refine x_iconst (v := 1) C dX11_block_15 rfl ?_
    refine x_goto (tgt := 20) C dX11_block_16 (by decide) ?_
    refine x_iconst (v := 1) C dX11_block_20 rfl ?_
    refine x_iconst (v := 0) C dX11_block_21 rfl ?_
    refine x_calli (rest := []) C sv_X11_179 ob11 z11 (kX11_bad hG _ _ _ _ h) rfl rfl (Nat.le_of_ble_eq_true rfl) ⟨Nat.le_of_ble_eq_true rfl, Nat.le_of_ble_eq_true rfl⟩ rfl rfl ⟨Nat.le_of_ble_eq_true rfl, Nat.le_of_ble_eq_true rfl⟩ dX11_block_22 (fun r49 M50 h => ?_)
    refine x_if_ne (tgt := 52) C dX11_block_25 (by decide) (fun c51 => ?_) (fun c51 => ?_)
    · replace h := h.1 c51
      refine x_iconst (v := 0) C dX11_block_52 rfl ?_
      exact x_iret C E h (Nat.le_of_ble_eq_true rfl) (Nat.le_of_ble_eq_true rfl) dX11_block_53
    · replace h := h.2 c51
      refine x_aload_n C dX11_block_28 0 rfl ?_
      refine x_iload_n C dX11_block_29 3 rfl ?_
      refine x_iconst (v := 0) C dX11_block_30 rfl ?_
      refine x_bipush (v := 7) C dX11_block_31 rfl ?_
      refine x_scalli (rest := [.ref (ga G 11 0)]) C ss_X11_172 (kX11_in hG _ _ _ _ h) rfl rfl (Nat.le_of_ble_eq_true rfl) ⟨Nat.le_of_ble_eq_true rfl, Nat.le_of_ble_eq_true rfl⟩ rfl rfl ⟨Nat.le_of_ble_eq_true rfl, Nat.le_of_ble_eq_true rfl⟩ dX11_block_33 (fun r52 M53 h => ?_)
      refine x_if_ne (tgt := 43) C dX11_block_36 (by decide) (fun c54 => ?_) (fun c54 => ?_)
      · replace h := h.1 c54
        refine x_iconst (v := 0) C dX11_block_43 rfl ?_
        refine x_iconst (v := 2) C dX11_block_44 rfl ?_
        refine x_iconst (v := 1) C dX11_block_45 rfl ?_
        refine x_calli (rest := []) C sv_X11_179 ob11 z11 (kX11_bad hG _ _ _ _ h) rfl rfl (Nat.le_of_ble_eq_true rfl) ⟨Nat.le_of_ble_eq_true rfl, Nat.le_of_ble_eq_true rfl⟩ rfl rfl ⟨Nat.le_of_ble_eq_true rfl, Nat.le_of_ble_eq_true rfl⟩ dX11_block_46 (fun r55 M56 h => ?_)
        refine x_if_eq (tgt := 54) C dX11_block_49 (by decide) (fun c57 => ?_) (fun c57 => ?_)
        · replace h := h.1 c57
          refine x_iload_n C dX11_block_54 2 rfl ?_
          refine x_aload_n C dX11_block_55 0 rfl ?_
          refine gf_11_11 C q209 z11 dX11_block_56 ?_
          refine x_imul C dX11_block_59 ?_
          refine X_name (fun v58 ev58 => ?_)
          replace h := h v58 ev58
          refine x_istore (lv' := [(4, .int v58), (0, .ref (ga G 11 0)), (1, .int x1), (2, .int x2), (3, .int x3)]) C dX11_block_60 (Nat.le_of_ble_eq_true rfl) rfl ?_
          refine x_aload_n C dX11_block_62 1 rfl ?_
          refine gf_11_37 C q181 z11 dX11_block_63 ?_
          refine x_iload C dX11_block_66 0 rfl ?_
          refine x_aload_n C dX11_block_68 1 rfl ?_
          refine gf_11_11 C q209 z11 dX11_block_69 ?_
          refine x_iadd C dX11_block_72 ?_
          refine x_scalli (rest := []) C ss_X11_236 (kX11_less hG _ _ _ h) rfl rfl (Nat.le_of_ble_eq_true rfl) ⟨Nat.le_of_ble_eq_true rfl, Nat.le_of_ble_eq_true rfl⟩ rfl rfl ⟨Nat.le_of_ble_eq_true rfl, Nat.le_of_ble_eq_true rfl⟩ dX11_block_73 (fun r59 M60 h => ?_)
          refine x_istore (lv' := [(5, .int r59), (4, .int v58), (0, .ref (ga G 11 0)), (1, .int x1), (2, .int x2), (3, .int x3)]) C dX11_block_76 (Nat.le_of_ble_eq_true rfl) rfl ?_
          refine x_iload_n C dX11_block_78 5 rfl ?_
          by_cases c61 : x3 = 0
          · replace h := h.1 c61
            refine x_tabIn (v := 0) (tgt := 112) C dX11_block_79 c61 (by decide) (by decide) rfl (by decide) ?_
            refine x_aload_n C dX11_block_112 2 rfl ?_
            refine gf_11_38 C q182 z11 dX11_block_113 ?_
            refine x_iload C dX11_block_116 1 rfl ?_
            obtain ⟨f62, h⟩ := h
            refine al_1238 C z1238 f62 dX11_block_118 ?_
            exact x_iret C E h (Nat.le_of_ble_eq_true rfl) (Nat.le_of_ble_eq_true rfl) dX11_block_119
          by_cases c63 : x3 = 1
          · replace h := h.2.1 c63
            refine x_tabIn (v := 1) (tgt := 120) C dX11_block_79 c63 (by decide) (by decide) rfl (by decide) ?_
            refine x_aload_n C dX11_block_120 2 rfl ?_
            refine gf_11_38 C q182 z11 dX11_block_121 ?_
            refine x_iload C dX11_block_124 0 rfl ?_
            refine x_iconst (v := 1) C dX11_block_126 rfl ?_
            refine x_isub C dX11_block_127 ?_
            obtain ⟨f64, h⟩ := h
            refine al_1238 C z1238 f64 dX11_block_128 ?_
            exact x_iret C E h (Nat.le_of_ble_eq_true rfl) (Nat.le_of_ble_eq_true rfl) dX11_block_129
          by_cases c65 : x3 = 2
          · replace h := h.2.2.1 c65
            refine x_tabIn (v := 2) (tgt := 130) C dX11_block_79 c65 (by decide) (by decide) rfl (by decide) ?_
            refine x_iload C dX11_block_130 0 rfl ?_
            refine x_iload C dX11_block_132 1 rfl ?_
            refine x_isub C dX11_block_134 ?_
            exact x_iret C E h (Nat.le_of_ble_eq_true rfl) (Nat.le_of_ble_eq_true rfl) dX11_block_135
          by_cases c66 : x3 = 3
          · replace h := h.2.2.2.1 c66
            refine x_tabIn (v := 3) (tgt := 136) C dX11_block_79 c66 (by decide) (by decide) rfl (by decide) ?_
            refine x_aload_n C dX11_block_136 2 rfl ?_
            refine x_iload_n C dX11_block_137 3 rfl ?_
            refine x_iload C dX11_block_138 1 rfl ?_
            refine x_iload C dX11_block_140 0 rfl ?_
            refine x_calli (rest := []) C sv_X11_411 ob11 z11 (kX11_top hG _ _ _ _ h) rfl rfl (Nat.le_of_ble_eq_true rfl) ⟨Nat.le_of_ble_eq_true rfl, Nat.le_of_ble_eq_true rfl⟩ rfl rfl ⟨Nat.le_of_ble_eq_true rfl, Nat.le_of_ble_eq_true rfl⟩ dX11_block_142 (fun r67 M68 h => ?_)
            exact x_iret C E h (Nat.le_of_ble_eq_true rfl) (Nat.le_of_ble_eq_true rfl) dX11_block_145
          by_cases c69 : x3 = 4
          · replace h := h.2.2.2.2.1 c69
            refine x_tabIn (v := 4) (tgt := 146) C dX11_block_79 c69 (by decide) (by decide) rfl (by decide) ?_
            refine x_aload_n C dX11_block_146 2 rfl ?_
            refine x_iload_n C dX11_block_147 3 rfl ?_
            refine x_iload C dX11_block_148 1 rfl ?_
            refine x_iload C dX11_block_150 0 rfl ?_
            refine x_calli (rest := []) C sv_X11_274 ob11 z11 (kX11_bitsOfBlock hG _ _ _ _ h) rfl rfl (Nat.le_of_ble_eq_true rfl) ⟨Nat.le_of_ble_eq_true rfl, Nat.le_of_ble_eq_true rfl⟩ rfl rfl ⟨Nat.le_of_ble_eq_true rfl, Nat.le_of_ble_eq_true rfl⟩ dX11_block_152 (fun r70 M71 h => ?_)
            exact x_iret C E h (Nat.le_of_ble_eq_true rfl) (Nat.le_of_ble_eq_true rfl) dX11_block_155
          replace h := h.2.2.2.2.2 c61 c63 c65 c66 c69
          refine x_tabOut (tgt := 156) C dX11_block_79 (by have ac61 := lv_neT (a := 0) c61 rfl; have ac63 := lv_neT (a := 1) c63 rfl; have ac65 := lv_neT (a := 2) c65 rfl; have ac66 := lv_neT (a := 3) c66 rfl; have ac69 := lv_neT (a := 4) c69 rfl; omega) (by decide) ?_
          refine x_aload_n C dX11_block_156 2 rfl ?_
          refine x_iload_n C dX11_block_157 3 rfl ?_
          refine x_iload C dX11_block_158 1 rfl ?_
          refine x_iload C dX11_block_160 0 rfl ?_
          refine x_iload_n C dX11_block_162 5 rfl ?_
          refine x_iconst (v := 5) C dX11_block_163 rfl ?_
          refine x_isub C dX11_block_164 ?_
          refine x_calli (rest := []) C sv_X11_270 ob11 z11 (kX11_width hG _ _ _ _ _ h) rfl rfl (Nat.le_of_ble_eq_true rfl) ⟨Nat.le_of_ble_eq_true rfl, Nat.le_of_ble_eq_true rfl⟩ rfl rfl ⟨Nat.le_of_ble_eq_true rfl, Nat.le_of_ble_eq_true rfl⟩ dX11_block_165 (fun r72 M73 h => ?_)
          exact x_iret C E h (Nat.le_of_ble_eq_true rfl) (Nat.le_of_ble_eq_true rfl) dX11_block_168
        · replace h := h.2 c57
          refine x_iconst (v := 0) C dX11_block_52 rfl ?_
          exact x_iret C E h (Nat.le_of_ble_eq_true rfl) (Nat.le_of_ble_eq_true rfl) dX11_block_53
      · replace h := h.2 c54
        refine x_iconst (v := 1) C dX11_block_39 rfl ?_
        refine x_goto (tgt := 44) C dX11_block_40 (by decide) ?_
        refine x_iconst (v := 2) C dX11_block_44 rfl ?_
        refine x_iconst (v := 1) C dX11_block_45 rfl ?_
        refine x_calli (rest := []) C sv_X11_179 ob11 z11 (kX11_bad hG _ _ _ _ h) rfl rfl (Nat.le_of_ble_eq_true rfl) ⟨Nat.le_of_ble_eq_true rfl, Nat.le_of_ble_eq_true rfl⟩ rfl rfl ⟨Nat.le_of_ble_eq_true rfl, Nat.le_of_ble_eq_true rfl⟩ dX11_block_46 (fun r74 M75 h => ?_)
        refine x_if_eq (tgt := 54) C dX11_block_49 (by decide) (fun c76 => ?_) (fun c76 => ?_)
        · replace h := h.1 c76
          refine x_iload_n C dX11_block_54 2 rfl ?_
          refine x_aload_n C dX11_block_55 0 rfl ?_
          refine gf_11_11 C q209 z11 dX11_block_56 ?_
          refine x_imul C dX11_block_59 ?_
          refine X_name (fun v77 ev77 => ?_)
          replace h := h v77 ev77
          refine x_istore (lv' := [(4, .int v77), (0, .ref (ga G 11 0)), (1, .int x1), (2, .int x2), (3, .int x3)]) C dX11_block_60 (Nat.le_of_ble_eq_true rfl) rfl ?_
          refine x_aload_n C dX11_block_62 1 rfl ?_
          refine gf_11_37 C q181 z11 dX11_block_63 ?_
          refine x_iload C dX11_block_66 0 rfl ?_
          refine x_aload_n C dX11_block_68 1 rfl ?_
          refine gf_11_11 C q209 z11 dX11_block_69 ?_
          refine x_iadd C dX11_block_72 ?_
          refine x_scalli (rest := []) C ss_X11_236 (kX11_less hG _ _ _ h) rfl rfl (Nat.le_of_ble_eq_true rfl) ⟨Nat.le_of_ble_eq_true rfl, Nat.le_of_ble_eq_true rfl⟩ rfl rfl ⟨Nat.le_of_ble_eq_true rfl, Nat.le_of_ble_eq_true rfl⟩ dX11_block_73 (fun r78 M79 h => ?_)
          refine x_istore (lv' := [(5, .int r78), (4, .int v77), (0, .ref (ga G 11 0)), (1, .int x1), (2, .int x2), (3, .int x3)]) C dX11_block_76 (Nat.le_of_ble_eq_true rfl) rfl ?_
          refine x_iload_n C dX11_block_78 5 rfl ?_
          by_cases c80 : x3 = 0
          · replace h := h.1 c80
            refine x_tabIn (v := 0) (tgt := 112) C dX11_block_79 c80 (by decide) (by decide) rfl (by decide) ?_
            refine x_aload_n C dX11_block_112 2 rfl ?_
            refine gf_11_38 C q182 z11 dX11_block_113 ?_
            refine x_iload C dX11_block_116 1 rfl ?_
            obtain ⟨f81, h⟩ := h
            refine al_1238 C z1238 f81 dX11_block_118 ?_
            exact x_iret C E h (Nat.le_of_ble_eq_true rfl) (Nat.le_of_ble_eq_true rfl) dX11_block_119
          by_cases c82 : x3 = 1
          · replace h := h.2.1 c82
            refine x_tabIn (v := 1) (tgt := 120) C dX11_block_79 c82 (by decide) (by decide) rfl (by decide) ?_
            refine x_aload_n C dX11_block_120 2 rfl ?_
            refine gf_11_38 C q182 z11 dX11_block_121 ?_
            refine x_iload C dX11_block_124 0 rfl ?_
            refine x_iconst (v := 1) C dX11_block_126 rfl ?_
            refine x_isub C dX11_block_127 ?_
            obtain ⟨f83, h⟩ := h
            refine al_1238 C z1238 f83 dX11_block_128 ?_
            exact x_iret C E h (Nat.le_of_ble_eq_true rfl) (Nat.le_of_ble_eq_true rfl) dX11_block_129
          by_cases c84 : x3 = 2
          · replace h := h.2.2.1 c84
            refine x_tabIn (v := 2) (tgt := 130) C dX11_block_79 c84 (by decide) (by decide) rfl (by decide) ?_
            refine x_iload C dX11_block_130 0 rfl ?_
            refine x_iload C dX11_block_132 1 rfl ?_
            refine x_isub C dX11_block_134 ?_
            exact x_iret C E h (Nat.le_of_ble_eq_true rfl) (Nat.le_of_ble_eq_true rfl) dX11_block_135
          by_cases c85 : x3 = 3
          · replace h := h.2.2.2.1 c85
            refine x_tabIn (v := 3) (tgt := 136) C dX11_block_79 c85 (by decide) (by decide) rfl (by decide) ?_
            refine x_aload_n C dX11_block_136 2 rfl ?_
            refine x_iload_n C dX11_block_137 3 rfl ?_
            refine x_iload C dX11_block_138 1 rfl ?_
            refine x_iload C dX11_block_140 0 rfl ?_
            refine x_calli (rest := []) C sv_X11_411 ob11 z11 (kX11_top hG _ _ _ _ h) rfl rfl (Nat.le_of_ble_eq_true rfl) ⟨Nat.le_of_ble_eq_true rfl, Nat.le_of_ble_eq_true rfl⟩ rfl rfl ⟨Nat.le_of_ble_eq_true rfl, Nat.le_of_ble_eq_true rfl⟩ dX11_block_142 (fun r86 M87 h => ?_)
            exact x_iret C E h (Nat.le_of_ble_eq_true rfl) (Nat.le_of_ble_eq_true rfl) dX11_block_145
          by_cases c88 : x3 = 4
          · replace h := h.2.2.2.2.1 c88
            refine x_tabIn (v := 4) (tgt := 146) C dX11_block_79 c88 (by decide) (by decide) rfl (by decide) ?_
            refine x_aload_n C dX11_block_146 2 rfl ?_
            refine x_iload_n C dX11_block_147 3 rfl ?_
            refine x_iload C dX11_block_148 1 rfl ?_
            refine x_iload C dX11_block_150 0 rfl ?_
            refine x_calli (rest := []) C sv_X11_274 ob11 z11 (kX11_bitsOfBlock hG _ _ _ _ h) rfl rfl (Nat.le_of_ble_eq_true rfl) ⟨Nat.le_of_ble_eq_true rfl, Nat.le_of_ble_eq_true rfl⟩ rfl rfl ⟨Nat.le_of_ble_eq_true rfl, Nat.le_of_ble_eq_true rfl⟩ dX11_block_152 (fun r89 M90 h => ?_)
            exact x_iret C E h (Nat.le_of_ble_eq_true rfl) (Nat.le_of_ble_eq_true rfl) dX11_block_155
          replace h := h.2.2.2.2.2 c80 c82 c84 c85 c88
          refine x_tabOut (tgt := 156) C dX11_block_79 (by have ac80 := lv_neT (a := 0) c80 rfl; have ac82 := lv_neT (a := 1) c82 rfl; have ac84 := lv_neT (a := 2) c84 rfl; have ac85 := lv_neT (a := 3) c85 rfl; have ac88 := lv_neT (a := 4) c88 rfl; omega) (by decide) ?_
          refine x_aload_n C dX11_block_156 2 rfl ?_
          refine x_iload_n C dX11_block_157 3 rfl ?_
          refine x_iload C dX11_block_158 1 rfl ?_
          refine x_iload C dX11_block_160 0 rfl ?_
          refine x_iload_n C dX11_block_162 5 rfl ?_
          refine x_iconst (v := 5) C dX11_block_163 rfl ?_
          refine x_isub C dX11_block_164 ?_
          refine x_calli (rest := []) C sv_X11_270 ob11 z11 (kX11_width hG _ _ _ _ _ h) rfl rfl (Nat.le_of_ble_eq_true rfl) ⟨Nat.le_of_ble_eq_true rfl, Nat.le_of_ble_eq_true rfl⟩ rfl rfl ⟨Nat.le_of_ble_eq_true rfl, Nat.le_of_ble_eq_true rfl⟩ dX11_block_165 (fun r91 M92 h => ?_)
          exact x_iret C E h (Nat.le_of_ble_eq_true rfl) (Nat.le_of_ble_eq_true rfl) dX11_block_168
        · replace h := h.2 c76
          refine x_iconst (v := 0) C dX11_block_52 rfl ?_
          exact x_iret C E h (Nat.le_of_ble_eq_true rfl) (Nat.le_of_ble_eq_true rfl) dX11_block_53
def rmX11_isPosting : Room := { frames := 2, cells := 0, slots := 0, locals := 43 }
def pX11_isPosting (M : Mem) (x1 : Int32) (x2 : Int32) (Q : Int32 → Mem → Prop) : Prop :=
  pX11_isWord M x1 (fun r1 M2 => ((¬ r1 = 0 → pX11_gathers M2 x1 (fun M5 => pX11_in M5 x2 0 ((M5.1 1237 0 0) - 1) (fun r6 M7 => bz r6 ∧ Q r6 M7))) ∧ (r1 = 0 → Q 0 M2)))
set_option maxRecDepth 100000 in
set_option maxHeartbeats 400000 in
theorem kX11_isPosting {l : Launch} {G : Gm} (hG : Gd G) (M : Mem) (x1 : Int32) (x2 : Int32) {Q : Int32 → Mem → Prop} (h : pX11_isPosting M x1 x2 Q) : Cti l G yX11_isPosting cX11_isPosting 3 .boolean rmX11_isPosting [.ref (ga G 11 0), .int x1, .int x2] M Q := by
  refine cti_of (own := RX11) (by decide +kernel) rfl (Nat.le_of_ble_eq_true rfl) hG (fun Γ Qf hl C E => ?_)
  subst hl
  show X Γ G Qf 3 0 0 0 [(0, .ref (ga G 11 0)), (1, .int x1), (2, .int x2)] [] M
  unfold pX11_isPosting at h
  refine x_aload_n C dX11_isPosting_0 0 rfl ?_
  refine x_iload_n C dX11_isPosting_1 1 rfl ?_
  refine x_calli (rest := []) C sv_X11_414 ob11 z11 (kX11_isWord hG _ _ h) rfl rfl (Nat.le_of_ble_eq_true rfl) ⟨Nat.le_of_ble_eq_true rfl, Nat.le_of_ble_eq_true rfl⟩ rfl rfl ⟨Nat.le_of_ble_eq_true rfl, Nat.le_of_ble_eq_true rfl⟩ dX11_isPosting_2 (fun r1 M2 h => ?_)
  refine x_if_ne (tgt := 10) C dX11_isPosting_5 (by decide) (fun c3 => ?_) (fun c3 => ?_)
  · replace h := h.1 c3
    refine x_aload_n C dX11_isPosting_10 0 rfl ?_
    refine x_iload_n C dX11_isPosting_11 1 rfl ?_
    refine x_callv (rest := []) C sv_X11_252 ob11 z11 (kX11_gathers hG _ _ h) rfl rfl (Nat.le_of_ble_eq_true rfl) ⟨Nat.le_of_ble_eq_true rfl, Nat.le_of_ble_eq_true rfl⟩ rfl rfl ⟨Nat.le_of_ble_eq_true rfl, Nat.le_of_ble_eq_true rfl⟩ dX11_isPosting_12 (fun M5 h => ?_)
    refine x_iload_n C dX11_isPosting_15 2 rfl ?_
    refine x_iconst (v := 0) C dX11_isPosting_16 rfl ?_
    refine x_aload_n C dX11_isPosting_17 0 rfl ?_
    refine gf_11_37 C q181 z11 dX11_isPosting_18 ?_
    refine x_iconst (v := 1) C dX11_isPosting_21 rfl ?_
    refine x_isub C dX11_isPosting_22 ?_
    refine x_scalli (rest := []) C ss_X11_172 (kX11_in hG _ _ _ _ h) rfl rfl (Nat.le_of_ble_eq_true rfl) ⟨Nat.le_of_ble_eq_true rfl, Nat.le_of_ble_eq_true rfl⟩ rfl rfl ⟨Nat.le_of_ble_eq_true rfl, Nat.le_of_ble_eq_true rfl⟩ dX11_isPosting_23 (fun r6 M7 h => ?_)
    obtain ⟨f8, h⟩ := h
    exact x_zret C E h (bz_nar f8) (Nat.le_of_ble_eq_true rfl) (Nat.le_of_ble_eq_true rfl) dX11_isPosting_26
  · replace h := h.2 c3
    refine x_iconst (v := 0) C dX11_isPosting_8 rfl ?_
    exact x_zret C E h rfl (Nat.le_of_ble_eq_true rfl) (Nat.le_of_ble_eq_true rfl) dX11_isPosting_9
def rmX11_posting : Room := { frames := 3, cells := 0, slots := 0, locals := 65 }
def pX11_posting (M : Mem) (x1 : Int32) (x2 : Int32) (x3 : Int32) (Q : Int32 → Mem → Prop) : Prop :=
  ∀ M1 : Mem, M1 = up1 M 1200 0 0 0 → pX11_isPosting M1 x1 x2 (fun r2 M3 => ((¬ r2 = 0 → pX11_bad M3 0 1 0 (fun r5 M6 => ((¬ r5 = 0 → Q 0 M6) ∧ (r5 = 0 → pX11_in M6 x3 0 3 (fun r8 M9 => ((¬ r8 = 0 → pX11_bad M9 0 2 1 (fun r11 M12 => ((r11 = 0 → ((¬ x3 = 0 → ((¬ x3 = 1 → ((¬ x3 = 2 → (¬ (M12.1 1211 0 0) = 0) ∧ Q (x2 / (M12.1 1211 0 0)) M12) ∧ (x3 = 2 → vp_in x2 64 ∧ pX11_gain M12 x1 (M12.1 1238 0 (tn x2)) (fun r19 M20 => Q r19 M20)))) ∧ (x3 = 1 → vp_in x1 256 ∧ vp_in x2 64 ∧ vp_in (M12.1 1238 0 (tn x2)) 64 ∧ Q (M12.1 6217 (tn x1) (tn (M12.1 1238 0 (tn x2)))) M12))) ∧ (x3 = 0 → vp_in x2 64 ∧ Q (M12.1 1238 0 (tn x2)) M12))) ∧ (¬ r11 = 0 → Q 0 M12)))) ∧ (r8 = 0 → pX11_bad M9 1 2 1 (fun r25 M26 => ((r25 = 0 → ((¬ x3 = 0 → ((¬ x3 = 1 → ((¬ x3 = 2 → (¬ (M26.1 1211 0 0) = 0) ∧ Q (x2 / (M26.1 1211 0 0)) M26) ∧ (x3 = 2 → vp_in x2 64 ∧ pX11_gain M26 x1 (M26.1 1238 0 (tn x2)) (fun r33 M34 => Q r33 M34)))) ∧ (x3 = 1 → vp_in x1 256 ∧ vp_in x2 64 ∧ vp_in (M26.1 1238 0 (tn x2)) 64 ∧ Q (M26.1 6217 (tn x1) (tn (M26.1 1238 0 (tn x2)))) M26))) ∧ (x3 = 0 → vp_in x2 64 ∧ Q (M26.1 1238 0 (tn x2)) M26))) ∧ (¬ r25 = 0 → Q 0 M26)))))))))) ∧ (r2 = 0 → pX11_bad M3 1 1 0 (fun r39 M40 => ((¬ r39 = 0 → Q 0 M40) ∧ (r39 = 0 → pX11_in M40 x3 0 3 (fun r42 M43 => ((¬ r42 = 0 → pX11_bad M43 0 2 1 (fun r45 M46 => ((r45 = 0 → ((¬ x3 = 0 → ((¬ x3 = 1 → ((¬ x3 = 2 → (¬ (M46.1 1211 0 0) = 0) ∧ Q (x2 / (M46.1 1211 0 0)) M46) ∧ (x3 = 2 → vp_in x2 64 ∧ pX11_gain M46 x1 (M46.1 1238 0 (tn x2)) (fun r53 M54 => Q r53 M54)))) ∧ (x3 = 1 → vp_in x1 256 ∧ vp_in x2 64 ∧ vp_in (M46.1 1238 0 (tn x2)) 64 ∧ Q (M46.1 6217 (tn x1) (tn (M46.1 1238 0 (tn x2)))) M46))) ∧ (x3 = 0 → vp_in x2 64 ∧ Q (M46.1 1238 0 (tn x2)) M46))) ∧ (¬ r45 = 0 → Q 0 M46)))) ∧ (r42 = 0 → pX11_bad M43 1 2 1 (fun r59 M60 => ((r59 = 0 → ((¬ x3 = 0 → ((¬ x3 = 1 → ((¬ x3 = 2 → (¬ (M60.1 1211 0 0) = 0) ∧ Q (x2 / (M60.1 1211 0 0)) M60) ∧ (x3 = 2 → vp_in x2 64 ∧ pX11_gain M60 x1 (M60.1 1238 0 (tn x2)) (fun r67 M68 => Q r67 M68)))) ∧ (x3 = 1 → vp_in x1 256 ∧ vp_in x2 64 ∧ vp_in (M60.1 1238 0 (tn x2)) 64 ∧ Q (M60.1 6217 (tn x1) (tn (M60.1 1238 0 (tn x2)))) M60))) ∧ (x3 = 0 → vp_in x2 64 ∧ Q (M60.1 1238 0 (tn x2)) M60))) ∧ (¬ r59 = 0 → Q 0 M60))))))))))))
set_option maxRecDepth 100000 in
set_option maxHeartbeats 400000 in
theorem kX11_posting {l : Launch} {G : Gm} (hG : Gd G) (M : Mem) (x1 : Int32) (x2 : Int32) (x3 : Int32) {Q : Int32 → Mem → Prop} (h : pX11_posting M x1 x2 x3 Q) : Cti l G yX11_posting cX11_posting 4 .int rmX11_posting [.ref (ga G 11 0), .int x1, .int x2, .int x3] M Q := by
  refine cti_of (own := RX11) (by decide +kernel) rfl (Nat.le_of_ble_eq_true rfl) hG (fun Γ Qf hl C E => ?_)
  subst hl
  show X Γ G Qf 4 0 0 0 [(0, .ref (ga G 11 0)), (1, .int x1), (2, .int x2), (3, .int x3)] [] M
  unfold pX11_posting at h
  refine x_aload_n C dX11_posting_0 0 rfl ?_
  refine x_iconst (v := 0) C dX11_posting_1 rfl ?_
  refine pf_11_0 C q143 z11 dX11_posting_2 ?_
  refine X_nameM (fun M1 eM1 => ?_)
  replace h := h M1 eM1
  refine x_aload_n C dX11_posting_5 0 rfl ?_
  refine x_aload_n C dX11_posting_6 0 rfl ?_
  refine x_iload_n C dX11_posting_7 1 rfl ?_
  refine x_iload_n C dX11_posting_8 2 rfl ?_
  refine x_calli (rest := [.ref (ga G 11 0)]) C sv_X11_427 ob11 z11 (kX11_isPosting hG _ _ _ h) rfl rfl (Nat.le_of_ble_eq_true rfl) ⟨Nat.le_of_ble_eq_true rfl, Nat.le_of_ble_eq_true rfl⟩ rfl rfl ⟨Nat.le_of_ble_eq_true rfl, Nat.le_of_ble_eq_true rfl⟩ dX11_posting_9 (fun r2 M3 h => ?_)
  refine x_if_ne (tgt := 19) C dX11_posting_12 (by decide) (fun c4 => ?_) (fun c4 => ?_)
  · replace h := h.1 c4
    refine x_iconst (v := 0) C dX11_posting_19 rfl ?_
    refine x_iconst (v := 1) C dX11_posting_20 rfl ?_
    refine x_iconst (v := 0) C dX11_posting_21 rfl ?_
    refine x_calli (rest := []) C sv_X11_179 ob11 z11 (kX11_bad hG _ _ _ _ h) rfl rfl (Nat.le_of_ble_eq_true rfl) ⟨Nat.le_of_ble_eq_true rfl, Nat.le_of_ble_eq_true rfl⟩ rfl rfl ⟨Nat.le_of_ble_eq_true rfl, Nat.le_of_ble_eq_true rfl⟩ dX11_posting_22 (fun r5 M6 h => ?_)
    refine x_if_ne (tgt := 51) C dX11_posting_25 (by decide) (fun c7 => ?_) (fun c7 => ?_)
    · replace h := h.1 c7
      refine x_iconst (v := 0) C dX11_posting_51 rfl ?_
      exact x_iret C E h (Nat.le_of_ble_eq_true rfl) (Nat.le_of_ble_eq_true rfl) dX11_posting_52
    · replace h := h.2 c7
      refine x_aload_n C dX11_posting_28 0 rfl ?_
      refine x_iload_n C dX11_posting_29 3 rfl ?_
      refine x_iconst (v := 0) C dX11_posting_30 rfl ?_
      refine x_iconst (v := 3) C dX11_posting_31 rfl ?_
      refine x_scalli (rest := [.ref (ga G 11 0)]) C ss_X11_172 (kX11_in hG _ _ _ _ h) rfl rfl (Nat.le_of_ble_eq_true rfl) ⟨Nat.le_of_ble_eq_true rfl, Nat.le_of_ble_eq_true rfl⟩ rfl rfl ⟨Nat.le_of_ble_eq_true rfl, Nat.le_of_ble_eq_true rfl⟩ dX11_posting_32 (fun r8 M9 h => ?_)
      refine x_if_ne (tgt := 42) C dX11_posting_35 (by decide) (fun c10 => ?_) (fun c10 => ?_)
      · replace h := h.1 c10
        refine x_iconst (v := 0) C dX11_posting_42 rfl ?_
        refine x_iconst (v := 2) C dX11_posting_43 rfl ?_
        refine x_iconst (v := 1) C dX11_posting_44 rfl ?_
        refine x_calli (rest := []) C sv_X11_179 ob11 z11 (kX11_bad hG _ _ _ _ h) rfl rfl (Nat.le_of_ble_eq_true rfl) ⟨Nat.le_of_ble_eq_true rfl, Nat.le_of_ble_eq_true rfl⟩ rfl rfl ⟨Nat.le_of_ble_eq_true rfl, Nat.le_of_ble_eq_true rfl⟩ dX11_posting_45 (fun r11 M12 h => ?_)
        refine x_if_eq (tgt := 53) C dX11_posting_48 (by decide) (fun c13 => ?_) (fun c13 => ?_)
        · replace h := h.1 c13
          refine x_iload_n C dX11_posting_53 3 rfl ?_
          refine x_if_ne (tgt := 66) C dX11_posting_54 (by decide) (fun c14 => ?_) (fun c14 => ?_)
          · replace h := h.1 c14
            refine x_iload_n C dX11_posting_66 3 rfl ?_
            refine x_iconst (v := 1) C dX11_posting_67 rfl ?_
            refine x_icmp_ne (tgt := 87) C dX11_posting_68 (by decide) (fun c15 => ?_) (fun c15 => ?_)
            · replace h := h.1 c15
              refine x_iload_n C dX11_posting_87 3 rfl ?_
              refine x_iconst (v := 2) C dX11_posting_88 rfl ?_
              refine x_icmp_ne (tgt := 106) C dX11_posting_89 (by decide) (fun c16 => ?_) (fun c16 => ?_)
              · replace h := h.1 c16
                refine x_iload_n C dX11_posting_106 2 rfl ?_
                refine x_aload_n C dX11_posting_107 0 rfl ?_
                refine gf_11_11 C q209 z11 dX11_posting_108 ?_
                obtain ⟨f17, h⟩ := h
                refine x_idiv C dX11_posting_111 f17 ?_
                exact x_iret C E h (Nat.le_of_ble_eq_true rfl) (Nat.le_of_ble_eq_true rfl) dX11_posting_112
              · replace h := h.2 c16
                refine x_aload_n C dX11_posting_92 0 rfl ?_
                refine x_iload_n C dX11_posting_93 1 rfl ?_
                refine x_aload_n C dX11_posting_94 0 rfl ?_
                refine gf_11_38 C q182 z11 dX11_posting_95 ?_
                refine x_iload_n C dX11_posting_98 2 rfl ?_
                obtain ⟨f18, h⟩ := h
                refine al_1238 C z1238 f18 dX11_posting_99 ?_
                refine x_calli (rest := []) C sv_X11_258 ob11 z11 (kX11_gain hG _ _ _ h) rfl rfl (Nat.le_of_ble_eq_true rfl) ⟨Nat.le_of_ble_eq_true rfl, Nat.le_of_ble_eq_true rfl⟩ rfl rfl ⟨Nat.le_of_ble_eq_true rfl, Nat.le_of_ble_eq_true rfl⟩ dX11_posting_100 (fun r19 M20 h => ?_)
                refine x_goto (tgt := 112) C dX11_posting_103 (by decide) ?_
                exact x_iret C E h (Nat.le_of_ble_eq_true rfl) (Nat.le_of_ble_eq_true rfl) dX11_posting_112
            · replace h := h.2 c15
              refine x_aload_n C dX11_posting_71 0 rfl ?_
              refine gf_11_17 C q163 z11 dX11_posting_72 ?_
              refine x_iload_n C dX11_posting_75 1 rfl ?_
              obtain ⟨f21, h⟩ := h
              refine al_1217 C z1217 f21 dX11_posting_76 ?_
              refine x_aload_n C dX11_posting_77 0 rfl ?_
              refine gf_11_38 C q182 z11 dX11_posting_78 ?_
              refine x_iload_n C dX11_posting_81 2 rfl ?_
              obtain ⟨f22, h⟩ := h
              refine al_1238 C z1238 f22 dX11_posting_82 ?_
              obtain ⟨f23, h⟩ := h
              refine al_6217 C (vp_lt f21) f23 dX11_posting_83 ?_
              refine x_goto (tgt := 112) C dX11_posting_84 (by decide) ?_
              exact x_iret C E h (Nat.le_of_ble_eq_true rfl) (Nat.le_of_ble_eq_true rfl) dX11_posting_112
          · replace h := h.2 c14
            refine x_aload_n C dX11_posting_57 0 rfl ?_
            refine gf_11_38 C q182 z11 dX11_posting_58 ?_
            refine x_iload_n C dX11_posting_61 2 rfl ?_
            obtain ⟨f24, h⟩ := h
            refine al_1238 C z1238 f24 dX11_posting_62 ?_
            refine x_goto (tgt := 112) C dX11_posting_63 (by decide) ?_
            exact x_iret C E h (Nat.le_of_ble_eq_true rfl) (Nat.le_of_ble_eq_true rfl) dX11_posting_112
        · replace h := h.2 c13
          refine x_iconst (v := 0) C dX11_posting_51 rfl ?_
          exact x_iret C E h (Nat.le_of_ble_eq_true rfl) (Nat.le_of_ble_eq_true rfl) dX11_posting_52
      · replace h := h.2 c10
        refine x_iconst (v := 1) C dX11_posting_38 rfl ?_
        refine x_goto (tgt := 43) C dX11_posting_39 (by decide) ?_
        refine x_iconst (v := 2) C dX11_posting_43 rfl ?_
        refine x_iconst (v := 1) C dX11_posting_44 rfl ?_
        refine x_calli (rest := []) C sv_X11_179 ob11 z11 (kX11_bad hG _ _ _ _ h) rfl rfl (Nat.le_of_ble_eq_true rfl) ⟨Nat.le_of_ble_eq_true rfl, Nat.le_of_ble_eq_true rfl⟩ rfl rfl ⟨Nat.le_of_ble_eq_true rfl, Nat.le_of_ble_eq_true rfl⟩ dX11_posting_45 (fun r25 M26 h => ?_)
        refine x_if_eq (tgt := 53) C dX11_posting_48 (by decide) (fun c27 => ?_) (fun c27 => ?_)
        · replace h := h.1 c27
          refine x_iload_n C dX11_posting_53 3 rfl ?_
          refine x_if_ne (tgt := 66) C dX11_posting_54 (by decide) (fun c28 => ?_) (fun c28 => ?_)
          · replace h := h.1 c28
            refine x_iload_n C dX11_posting_66 3 rfl ?_
            refine x_iconst (v := 1) C dX11_posting_67 rfl ?_
            refine x_icmp_ne (tgt := 87) C dX11_posting_68 (by decide) (fun c29 => ?_) (fun c29 => ?_)
            · replace h := h.1 c29
              refine x_iload_n C dX11_posting_87 3 rfl ?_
              refine x_iconst (v := 2) C dX11_posting_88 rfl ?_
              refine x_icmp_ne (tgt := 106) C dX11_posting_89 (by decide) (fun c30 => ?_) (fun c30 => ?_)
              · replace h := h.1 c30
                refine x_iload_n C dX11_posting_106 2 rfl ?_
                refine x_aload_n C dX11_posting_107 0 rfl ?_
                refine gf_11_11 C q209 z11 dX11_posting_108 ?_
                obtain ⟨f31, h⟩ := h
                refine x_idiv C dX11_posting_111 f31 ?_
                exact x_iret C E h (Nat.le_of_ble_eq_true rfl) (Nat.le_of_ble_eq_true rfl) dX11_posting_112
              · replace h := h.2 c30
                refine x_aload_n C dX11_posting_92 0 rfl ?_
                refine x_iload_n C dX11_posting_93 1 rfl ?_
                refine x_aload_n C dX11_posting_94 0 rfl ?_
                refine gf_11_38 C q182 z11 dX11_posting_95 ?_
                refine x_iload_n C dX11_posting_98 2 rfl ?_
                obtain ⟨f32, h⟩ := h
                refine al_1238 C z1238 f32 dX11_posting_99 ?_
                refine x_calli (rest := []) C sv_X11_258 ob11 z11 (kX11_gain hG _ _ _ h) rfl rfl (Nat.le_of_ble_eq_true rfl) ⟨Nat.le_of_ble_eq_true rfl, Nat.le_of_ble_eq_true rfl⟩ rfl rfl ⟨Nat.le_of_ble_eq_true rfl, Nat.le_of_ble_eq_true rfl⟩ dX11_posting_100 (fun r33 M34 h => ?_)
                refine x_goto (tgt := 112) C dX11_posting_103 (by decide) ?_
                exact x_iret C E h (Nat.le_of_ble_eq_true rfl) (Nat.le_of_ble_eq_true rfl) dX11_posting_112
            · replace h := h.2 c29
              refine x_aload_n C dX11_posting_71 0 rfl ?_
              refine gf_11_17 C q163 z11 dX11_posting_72 ?_
              refine x_iload_n C dX11_posting_75 1 rfl ?_
              obtain ⟨f35, h⟩ := h
              refine al_1217 C z1217 f35 dX11_posting_76 ?_
              refine x_aload_n C dX11_posting_77 0 rfl ?_
              refine gf_11_38 C q182 z11 dX11_posting_78 ?_
              refine x_iload_n C dX11_posting_81 2 rfl ?_
              obtain ⟨f36, h⟩ := h
              refine al_1238 C z1238 f36 dX11_posting_82 ?_
              obtain ⟨f37, h⟩ := h
              refine al_6217 C (vp_lt f35) f37 dX11_posting_83 ?_
              refine x_goto (tgt := 112) C dX11_posting_84 (by decide) ?_
              exact x_iret C E h (Nat.le_of_ble_eq_true rfl) (Nat.le_of_ble_eq_true rfl) dX11_posting_112
          · replace h := h.2 c28
            refine x_aload_n C dX11_posting_57 0 rfl ?_
            refine gf_11_38 C q182 z11 dX11_posting_58 ?_
            refine x_iload_n C dX11_posting_61 2 rfl ?_
            obtain ⟨f38, h⟩ := h
            refine al_1238 C z1238 f38 dX11_posting_62 ?_
            refine x_goto (tgt := 112) C dX11_posting_63 (by decide) ?_
            exact x_iret C E h (Nat.le_of_ble_eq_true rfl) (Nat.le_of_ble_eq_true rfl) dX11_posting_112
        · replace h := h.2 c27
          refine x_iconst (v := 0) C dX11_posting_51 rfl ?_
          exact x_iret C E h (Nat.le_of_ble_eq_true rfl) (Nat.le_of_ble_eq_true rfl) dX11_posting_52
  · replace h := h.2 c4
    refine x_iconst (v := 1) C dX11_posting_15 rfl ?_
    refine x_goto (tgt := 20) C dX11_posting_16 (by decide) ?_
    refine x_iconst (v := 1) C dX11_posting_20 rfl ?_
    refine x_iconst (v := 0) C dX11_posting_21 rfl ?_
    refine x_calli (rest := []) C sv_X11_179 ob11 z11 (kX11_bad hG _ _ _ _ h) rfl rfl (Nat.le_of_ble_eq_true rfl) ⟨Nat.le_of_ble_eq_true rfl, Nat.le_of_ble_eq_true rfl⟩ rfl rfl ⟨Nat.le_of_ble_eq_true rfl, Nat.le_of_ble_eq_true rfl⟩ dX11_posting_22 (fun r39 M40 h => ?_)
    refine x_if_ne (tgt := 51) C dX11_posting_25 (by decide) (fun c41 => ?_) (fun c41 => ?_)
    · replace h := h.1 c41
      refine x_iconst (v := 0) C dX11_posting_51 rfl ?_
      exact x_iret C E h (Nat.le_of_ble_eq_true rfl) (Nat.le_of_ble_eq_true rfl) dX11_posting_52
    · replace h := h.2 c41
      refine x_aload_n C dX11_posting_28 0 rfl ?_
      refine x_iload_n C dX11_posting_29 3 rfl ?_
      refine x_iconst (v := 0) C dX11_posting_30 rfl ?_
      refine x_iconst (v := 3) C dX11_posting_31 rfl ?_
      refine x_scalli (rest := [.ref (ga G 11 0)]) C ss_X11_172 (kX11_in hG _ _ _ _ h) rfl rfl (Nat.le_of_ble_eq_true rfl) ⟨Nat.le_of_ble_eq_true rfl, Nat.le_of_ble_eq_true rfl⟩ rfl rfl ⟨Nat.le_of_ble_eq_true rfl, Nat.le_of_ble_eq_true rfl⟩ dX11_posting_32 (fun r42 M43 h => ?_)
      refine x_if_ne (tgt := 42) C dX11_posting_35 (by decide) (fun c44 => ?_) (fun c44 => ?_)
      · replace h := h.1 c44
        refine x_iconst (v := 0) C dX11_posting_42 rfl ?_
        refine x_iconst (v := 2) C dX11_posting_43 rfl ?_
        refine x_iconst (v := 1) C dX11_posting_44 rfl ?_
        refine x_calli (rest := []) C sv_X11_179 ob11 z11 (kX11_bad hG _ _ _ _ h) rfl rfl (Nat.le_of_ble_eq_true rfl) ⟨Nat.le_of_ble_eq_true rfl, Nat.le_of_ble_eq_true rfl⟩ rfl rfl ⟨Nat.le_of_ble_eq_true rfl, Nat.le_of_ble_eq_true rfl⟩ dX11_posting_45 (fun r45 M46 h => ?_)
        refine x_if_eq (tgt := 53) C dX11_posting_48 (by decide) (fun c47 => ?_) (fun c47 => ?_)
        · replace h := h.1 c47
          refine x_iload_n C dX11_posting_53 3 rfl ?_
          refine x_if_ne (tgt := 66) C dX11_posting_54 (by decide) (fun c48 => ?_) (fun c48 => ?_)
          · replace h := h.1 c48
            refine x_iload_n C dX11_posting_66 3 rfl ?_
            refine x_iconst (v := 1) C dX11_posting_67 rfl ?_
            refine x_icmp_ne (tgt := 87) C dX11_posting_68 (by decide) (fun c49 => ?_) (fun c49 => ?_)
            · replace h := h.1 c49
              refine x_iload_n C dX11_posting_87 3 rfl ?_
              refine x_iconst (v := 2) C dX11_posting_88 rfl ?_
              refine x_icmp_ne (tgt := 106) C dX11_posting_89 (by decide) (fun c50 => ?_) (fun c50 => ?_)
              · replace h := h.1 c50
                refine x_iload_n C dX11_posting_106 2 rfl ?_
                refine x_aload_n C dX11_posting_107 0 rfl ?_
                refine gf_11_11 C q209 z11 dX11_posting_108 ?_
                obtain ⟨f51, h⟩ := h
                refine x_idiv C dX11_posting_111 f51 ?_
                exact x_iret C E h (Nat.le_of_ble_eq_true rfl) (Nat.le_of_ble_eq_true rfl) dX11_posting_112
              · replace h := h.2 c50
                refine x_aload_n C dX11_posting_92 0 rfl ?_
                refine x_iload_n C dX11_posting_93 1 rfl ?_
                refine x_aload_n C dX11_posting_94 0 rfl ?_
                refine gf_11_38 C q182 z11 dX11_posting_95 ?_
                refine x_iload_n C dX11_posting_98 2 rfl ?_
                obtain ⟨f52, h⟩ := h
                refine al_1238 C z1238 f52 dX11_posting_99 ?_
                refine x_calli (rest := []) C sv_X11_258 ob11 z11 (kX11_gain hG _ _ _ h) rfl rfl (Nat.le_of_ble_eq_true rfl) ⟨Nat.le_of_ble_eq_true rfl, Nat.le_of_ble_eq_true rfl⟩ rfl rfl ⟨Nat.le_of_ble_eq_true rfl, Nat.le_of_ble_eq_true rfl⟩ dX11_posting_100 (fun r53 M54 h => ?_)
                refine x_goto (tgt := 112) C dX11_posting_103 (by decide) ?_
                exact x_iret C E h (Nat.le_of_ble_eq_true rfl) (Nat.le_of_ble_eq_true rfl) dX11_posting_112
            · replace h := h.2 c49
              refine x_aload_n C dX11_posting_71 0 rfl ?_
              refine gf_11_17 C q163 z11 dX11_posting_72 ?_
              refine x_iload_n C dX11_posting_75 1 rfl ?_
              obtain ⟨f55, h⟩ := h
              refine al_1217 C z1217 f55 dX11_posting_76 ?_
              refine x_aload_n C dX11_posting_77 0 rfl ?_
              refine gf_11_38 C q182 z11 dX11_posting_78 ?_
              refine x_iload_n C dX11_posting_81 2 rfl ?_
              obtain ⟨f56, h⟩ := h
              refine al_1238 C z1238 f56 dX11_posting_82 ?_
              obtain ⟨f57, h⟩ := h
              refine al_6217 C (vp_lt f55) f57 dX11_posting_83 ?_
              refine x_goto (tgt := 112) C dX11_posting_84 (by decide) ?_
              exact x_iret C E h (Nat.le_of_ble_eq_true rfl) (Nat.le_of_ble_eq_true rfl) dX11_posting_112
          · replace h := h.2 c48
            refine x_aload_n C dX11_posting_57 0 rfl ?_
            refine gf_11_38 C q182 z11 dX11_posting_58 ?_
            refine x_iload_n C dX11_posting_61 2 rfl ?_
            obtain ⟨f58, h⟩ := h
            refine al_1238 C z1238 f58 dX11_posting_62 ?_
            refine x_goto (tgt := 112) C dX11_posting_63 (by decide) ?_
            exact x_iret C E h (Nat.le_of_ble_eq_true rfl) (Nat.le_of_ble_eq_true rfl) dX11_posting_112
        · replace h := h.2 c47
          refine x_iconst (v := 0) C dX11_posting_51 rfl ?_
          exact x_iret C E h (Nat.le_of_ble_eq_true rfl) (Nat.le_of_ble_eq_true rfl) dX11_posting_52
      · replace h := h.2 c44
        refine x_iconst (v := 1) C dX11_posting_38 rfl ?_
        refine x_goto (tgt := 43) C dX11_posting_39 (by decide) ?_
        refine x_iconst (v := 2) C dX11_posting_43 rfl ?_
        refine x_iconst (v := 1) C dX11_posting_44 rfl ?_
        refine x_calli (rest := []) C sv_X11_179 ob11 z11 (kX11_bad hG _ _ _ _ h) rfl rfl (Nat.le_of_ble_eq_true rfl) ⟨Nat.le_of_ble_eq_true rfl, Nat.le_of_ble_eq_true rfl⟩ rfl rfl ⟨Nat.le_of_ble_eq_true rfl, Nat.le_of_ble_eq_true rfl⟩ dX11_posting_45 (fun r59 M60 h => ?_)
        refine x_if_eq (tgt := 53) C dX11_posting_48 (by decide) (fun c61 => ?_) (fun c61 => ?_)
        · replace h := h.1 c61
          refine x_iload_n C dX11_posting_53 3 rfl ?_
          refine x_if_ne (tgt := 66) C dX11_posting_54 (by decide) (fun c62 => ?_) (fun c62 => ?_)
          · replace h := h.1 c62
            refine x_iload_n C dX11_posting_66 3 rfl ?_
            refine x_iconst (v := 1) C dX11_posting_67 rfl ?_
            refine x_icmp_ne (tgt := 87) C dX11_posting_68 (by decide) (fun c63 => ?_) (fun c63 => ?_)
            · replace h := h.1 c63
              refine x_iload_n C dX11_posting_87 3 rfl ?_
              refine x_iconst (v := 2) C dX11_posting_88 rfl ?_
              refine x_icmp_ne (tgt := 106) C dX11_posting_89 (by decide) (fun c64 => ?_) (fun c64 => ?_)
              · replace h := h.1 c64
                refine x_iload_n C dX11_posting_106 2 rfl ?_
                refine x_aload_n C dX11_posting_107 0 rfl ?_
                refine gf_11_11 C q209 z11 dX11_posting_108 ?_
                obtain ⟨f65, h⟩ := h
                refine x_idiv C dX11_posting_111 f65 ?_
                exact x_iret C E h (Nat.le_of_ble_eq_true rfl) (Nat.le_of_ble_eq_true rfl) dX11_posting_112
              · replace h := h.2 c64
                refine x_aload_n C dX11_posting_92 0 rfl ?_
                refine x_iload_n C dX11_posting_93 1 rfl ?_
                refine x_aload_n C dX11_posting_94 0 rfl ?_
                refine gf_11_38 C q182 z11 dX11_posting_95 ?_
                refine x_iload_n C dX11_posting_98 2 rfl ?_
                obtain ⟨f66, h⟩ := h
                refine al_1238 C z1238 f66 dX11_posting_99 ?_
                refine x_calli (rest := []) C sv_X11_258 ob11 z11 (kX11_gain hG _ _ _ h) rfl rfl (Nat.le_of_ble_eq_true rfl) ⟨Nat.le_of_ble_eq_true rfl, Nat.le_of_ble_eq_true rfl⟩ rfl rfl ⟨Nat.le_of_ble_eq_true rfl, Nat.le_of_ble_eq_true rfl⟩ dX11_posting_100 (fun r67 M68 h => ?_)
                refine x_goto (tgt := 112) C dX11_posting_103 (by decide) ?_
                exact x_iret C E h (Nat.le_of_ble_eq_true rfl) (Nat.le_of_ble_eq_true rfl) dX11_posting_112
            · replace h := h.2 c63
              refine x_aload_n C dX11_posting_71 0 rfl ?_
              refine gf_11_17 C q163 z11 dX11_posting_72 ?_
              refine x_iload_n C dX11_posting_75 1 rfl ?_
              obtain ⟨f69, h⟩ := h
              refine al_1217 C z1217 f69 dX11_posting_76 ?_
              refine x_aload_n C dX11_posting_77 0 rfl ?_
              refine gf_11_38 C q182 z11 dX11_posting_78 ?_
              refine x_iload_n C dX11_posting_81 2 rfl ?_
              obtain ⟨f70, h⟩ := h
              refine al_1238 C z1238 f70 dX11_posting_82 ?_
              obtain ⟨f71, h⟩ := h
              refine al_6217 C (vp_lt f69) f71 dX11_posting_83 ?_
              refine x_goto (tgt := 112) C dX11_posting_84 (by decide) ?_
              exact x_iret C E h (Nat.le_of_ble_eq_true rfl) (Nat.le_of_ble_eq_true rfl) dX11_posting_112
          · replace h := h.2 c62
            refine x_aload_n C dX11_posting_57 0 rfl ?_
            refine gf_11_38 C q182 z11 dX11_posting_58 ?_
            refine x_iload_n C dX11_posting_61 2 rfl ?_
            obtain ⟨f72, h⟩ := h
            refine al_1238 C z1238 f72 dX11_posting_62 ?_
            refine x_goto (tgt := 112) C dX11_posting_63 (by decide) ?_
            exact x_iret C E h (Nat.le_of_ble_eq_true rfl) (Nat.le_of_ble_eq_true rfl) dX11_posting_112
        · replace h := h.2 c61
          refine x_iconst (v := 0) C dX11_posting_51 rfl ?_
          exact x_iret C E h (Nat.le_of_ble_eq_true rfl) (Nat.le_of_ble_eq_true rfl) dX11_posting_52
