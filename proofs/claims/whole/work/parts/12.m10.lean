def rmX11_document : Room := { frames := 2, cells := 0, slots := 0, locals := 43 }
def pX11_document (M : Mem) (x1 : Int32) (x2 : Int32) (Q : Int32 → Mem → Prop) : Prop :=
  ∀ M1 : Mem, M1 = up1 M 1200 0 0 0 → pX11_isDocument M1 x1 (fun r2 M3 => ((¬ r2 = 0 → pX11_bad M3 0 1 0 (fun r5 M6 => ((¬ r5 = 0 → Q 0 M6) ∧ (r5 = 0 → pX11_in M6 x2 0 4 (fun r8 M9 => ((¬ r8 = 0 → pX11_bad M9 0 2 1 (fun r11 M12 => ((r11 = 0 → ((x2 = 0 → vp_in x1 64 ∧ Q (M12.1 1213 0 (tn x1)) M12) ∧ (x2 = 1 → pX11_unlike M12 x1 (fun r17 M18 => Q r17 M18)) ∧ (x2 = 2 → vp_in x1 64 ∧ ((¬ (M12.1 1214 0 (tn x1)) = 2 → Q 0 M12) ∧ ((M12.1 1214 0 (tn x1)) = 2 → Q 1 M12))) ∧ (x2 = 3 → pX11_mostOften M12 x1 (fun r23 M24 => Q r23 M24)) ∧ (¬ x2 = 0 → ¬ x2 = 1 → ¬ x2 = 2 → ¬ x2 = 3 → pX11_mostOften M12 x1 (fun r25 M26 => vp_in r25 256 ∧ vp_in x1 64 ∧ Q (M26.1 6217 (tn r25) (tn x1)) M26)))) ∧ (¬ r11 = 0 → Q 0 M12)))) ∧ (r8 = 0 → pX11_bad M9 1 2 1 (fun r29 M30 => ((r29 = 0 → ((x2 = 0 → vp_in x1 64 ∧ Q (M30.1 1213 0 (tn x1)) M30) ∧ (x2 = 1 → pX11_unlike M30 x1 (fun r35 M36 => Q r35 M36)) ∧ (x2 = 2 → vp_in x1 64 ∧ ((¬ (M30.1 1214 0 (tn x1)) = 2 → Q 0 M30) ∧ ((M30.1 1214 0 (tn x1)) = 2 → Q 1 M30))) ∧ (x2 = 3 → pX11_mostOften M30 x1 (fun r41 M42 => Q r41 M42)) ∧ (¬ x2 = 0 → ¬ x2 = 1 → ¬ x2 = 2 → ¬ x2 = 3 → pX11_mostOften M30 x1 (fun r43 M44 => vp_in r43 256 ∧ vp_in x1 64 ∧ Q (M44.1 6217 (tn r43) (tn x1)) M44)))) ∧ (¬ r29 = 0 → Q 0 M30)))))))))) ∧ (r2 = 0 → pX11_bad M3 1 1 0 (fun r47 M48 => ((¬ r47 = 0 → Q 0 M48) ∧ (r47 = 0 → pX11_in M48 x2 0 4 (fun r50 M51 => ((¬ r50 = 0 → pX11_bad M51 0 2 1 (fun r53 M54 => ((r53 = 0 → ((x2 = 0 → vp_in x1 64 ∧ Q (M54.1 1213 0 (tn x1)) M54) ∧ (x2 = 1 → pX11_unlike M54 x1 (fun r59 M60 => Q r59 M60)) ∧ (x2 = 2 → vp_in x1 64 ∧ ((¬ (M54.1 1214 0 (tn x1)) = 2 → Q 0 M54) ∧ ((M54.1 1214 0 (tn x1)) = 2 → Q 1 M54))) ∧ (x2 = 3 → pX11_mostOften M54 x1 (fun r65 M66 => Q r65 M66)) ∧ (¬ x2 = 0 → ¬ x2 = 1 → ¬ x2 = 2 → ¬ x2 = 3 → pX11_mostOften M54 x1 (fun r67 M68 => vp_in r67 256 ∧ vp_in x1 64 ∧ Q (M68.1 6217 (tn r67) (tn x1)) M68)))) ∧ (¬ r53 = 0 → Q 0 M54)))) ∧ (r50 = 0 → pX11_bad M51 1 2 1 (fun r71 M72 => ((r71 = 0 → ((x2 = 0 → vp_in x1 64 ∧ Q (M72.1 1213 0 (tn x1)) M72) ∧ (x2 = 1 → pX11_unlike M72 x1 (fun r77 M78 => Q r77 M78)) ∧ (x2 = 2 → vp_in x1 64 ∧ ((¬ (M72.1 1214 0 (tn x1)) = 2 → Q 0 M72) ∧ ((M72.1 1214 0 (tn x1)) = 2 → Q 1 M72))) ∧ (x2 = 3 → pX11_mostOften M72 x1 (fun r83 M84 => Q r83 M84)) ∧ (¬ x2 = 0 → ¬ x2 = 1 → ¬ x2 = 2 → ¬ x2 = 3 → pX11_mostOften M72 x1 (fun r85 M86 => vp_in r85 256 ∧ vp_in x1 64 ∧ Q (M86.1 6217 (tn r85) (tn x1)) M86)))) ∧ (¬ r71 = 0 → Q 0 M72))))))))))))
set_option maxRecDepth 100000 in
set_option maxHeartbeats 400000 in
theorem kX11_document {l : Launch} {G : Gm} (hG : Gd G) (M : Mem) (x1 : Int32) (x2 : Int32) {Q : Int32 → Mem → Prop} (h : pX11_document M x1 x2 Q) : Cti l G yX11_document cX11_document 3 .int rmX11_document [.ref (ga G 11 0), .int x1, .int x2] M Q := by
  refine cti_of (own := RX11) (by decide +kernel) rfl (Nat.le_of_ble_eq_true rfl) hG (fun Γ Qf hl C E => ?_)
  subst hl
  show X Γ G Qf 3 0 0 0 [(0, .ref (ga G 11 0)), (1, .int x1), (2, .int x2)] [] M
  unfold pX11_document at h
  refine x_aload_n C dX11_document_0 0 rfl ?_
  refine x_iconst (v := 0) C dX11_document_1 rfl ?_
  refine pf_11_0 C q143 z11 dX11_document_2 ?_
  refine X_nameM (fun M1 eM1 => ?_)
  replace h := h M1 eM1
  refine x_aload_n C dX11_document_5 0 rfl ?_
  refine x_aload_n C dX11_document_6 0 rfl ?_
  refine x_iload_n C dX11_document_7 1 rfl ?_
  refine x_calli (rest := [.ref (ga G 11 0)]) C sv_X11_402 ob11 z11 (kX11_isDocument hG _ _ h) rfl rfl (Nat.le_of_ble_eq_true rfl) ⟨Nat.le_of_ble_eq_true rfl, Nat.le_of_ble_eq_true rfl⟩ rfl rfl ⟨Nat.le_of_ble_eq_true rfl, Nat.le_of_ble_eq_true rfl⟩ dX11_document_8 (fun r2 M3 h => ?_)
  refine x_if_ne (tgt := 18) C dX11_document_11 (by decide) (fun c4 => ?_) (fun c4 => ?_)
  · replace h := h.1 c4
    refine x_iconst (v := 0) C dX11_document_18 rfl ?_
    refine x_iconst (v := 1) C dX11_document_19 rfl ?_
    refine x_iconst (v := 0) C dX11_document_20 rfl ?_
    refine x_calli (rest := []) C sv_X11_179 ob11 z11 (kX11_bad hG _ _ _ _ h) rfl rfl (Nat.le_of_ble_eq_true rfl) ⟨Nat.le_of_ble_eq_true rfl, Nat.le_of_ble_eq_true rfl⟩ rfl rfl ⟨Nat.le_of_ble_eq_true rfl, Nat.le_of_ble_eq_true rfl⟩ dX11_document_21 (fun r5 M6 h => ?_)
    refine x_if_ne (tgt := 50) C dX11_document_24 (by decide) (fun c7 => ?_) (fun c7 => ?_)
    · replace h := h.1 c7
      refine x_iconst (v := 0) C dX11_document_50 rfl ?_
      exact x_iret C E h (Nat.le_of_ble_eq_true rfl) (Nat.le_of_ble_eq_true rfl) dX11_document_51
    · replace h := h.2 c7
      refine x_aload_n C dX11_document_27 0 rfl ?_
      refine x_iload_n C dX11_document_28 2 rfl ?_
      refine x_iconst (v := 0) C dX11_document_29 rfl ?_
      refine x_iconst (v := 4) C dX11_document_30 rfl ?_
      refine x_scalli (rest := [.ref (ga G 11 0)]) C ss_X11_172 (kX11_in hG _ _ _ _ h) rfl rfl (Nat.le_of_ble_eq_true rfl) ⟨Nat.le_of_ble_eq_true rfl, Nat.le_of_ble_eq_true rfl⟩ rfl rfl ⟨Nat.le_of_ble_eq_true rfl, Nat.le_of_ble_eq_true rfl⟩ dX11_document_31 (fun r8 M9 h => ?_)
      refine x_if_ne (tgt := 41) C dX11_document_34 (by decide) (fun c10 => ?_) (fun c10 => ?_)
      · replace h := h.1 c10
        refine x_iconst (v := 0) C dX11_document_41 rfl ?_
        refine x_iconst (v := 2) C dX11_document_42 rfl ?_
        refine x_iconst (v := 1) C dX11_document_43 rfl ?_
        refine x_calli (rest := []) C sv_X11_179 ob11 z11 (kX11_bad hG _ _ _ _ h) rfl rfl (Nat.le_of_ble_eq_true rfl) ⟨Nat.le_of_ble_eq_true rfl, Nat.le_of_ble_eq_true rfl⟩ rfl rfl ⟨Nat.le_of_ble_eq_true rfl, Nat.le_of_ble_eq_true rfl⟩ dX11_document_44 (fun r11 M12 h => ?_)
        refine x_if_eq (tgt := 52) C dX11_document_47 (by decide) (fun c13 => ?_) (fun c13 => ?_)
        · replace h := h.1 c13
          refine x_iload_n C dX11_document_52 2 rfl ?_
          by_cases c14 : x2 = 0
          · replace h := h.1 c14
            refine x_tabIn (v := 0) (tgt := 84) C dX11_document_53 c14 (by decide) (by decide) rfl (by decide) ?_
            refine x_aload_n C dX11_document_84 0 rfl ?_
            refine gf_11_13 C q161 z11 dX11_document_85 ?_
            refine x_iload_n C dX11_document_88 1 rfl ?_
            obtain ⟨f15, h⟩ := h
            refine al_1213 C z1213 f15 dX11_document_89 ?_
            exact x_iret C E h (Nat.le_of_ble_eq_true rfl) (Nat.le_of_ble_eq_true rfl) dX11_document_90
          by_cases c16 : x2 = 1
          · replace h := h.2.1 c16
            refine x_tabIn (v := 1) (tgt := 91) C dX11_document_53 c16 (by decide) (by decide) rfl (by decide) ?_
            refine x_aload_n C dX11_document_91 0 rfl ?_
            refine x_iload_n C dX11_document_92 1 rfl ?_
            refine x_calli (rest := []) C sv_X11_405 ob11 z11 (kX11_unlike hG _ _ h) rfl rfl (Nat.le_of_ble_eq_true rfl) ⟨Nat.le_of_ble_eq_true rfl, Nat.le_of_ble_eq_true rfl⟩ rfl rfl ⟨Nat.le_of_ble_eq_true rfl, Nat.le_of_ble_eq_true rfl⟩ dX11_document_93 (fun r17 M18 h => ?_)
            exact x_iret C E h (Nat.le_of_ble_eq_true rfl) (Nat.le_of_ble_eq_true rfl) dX11_document_96
          by_cases c19 : x2 = 2
          · replace h := h.2.2.1 c19
            refine x_tabIn (v := 2) (tgt := 97) C dX11_document_53 c19 (by decide) (by decide) rfl (by decide) ?_
            refine x_aload_n C dX11_document_97 0 rfl ?_
            refine gf_11_14 C q162 z11 dX11_document_98 ?_
            refine x_iload_n C dX11_document_101 1 rfl ?_
            obtain ⟨f20, h⟩ := h
            refine al_1214 C z1214 f20 dX11_document_102 ?_
            refine x_iconst (v := 2) C dX11_document_103 rfl ?_
            refine x_icmp_ne (tgt := 111) C dX11_document_104 (by decide) (fun c21 => ?_) (fun c21 => ?_)
            · replace h := h.1 c21
              refine x_iconst (v := 0) C dX11_document_111 rfl ?_
              exact x_iret C E h (Nat.le_of_ble_eq_true rfl) (Nat.le_of_ble_eq_true rfl) dX11_document_112
            · replace h := h.2 c21
              refine x_iconst (v := 1) C dX11_document_107 rfl ?_
              refine x_goto (tgt := 112) C dX11_document_108 (by decide) ?_
              exact x_iret C E h (Nat.le_of_ble_eq_true rfl) (Nat.le_of_ble_eq_true rfl) dX11_document_112
          by_cases c22 : x2 = 3
          · replace h := h.2.2.2.1 c22
            refine x_tabIn (v := 3) (tgt := 113) C dX11_document_53 c22 (by decide) (by decide) rfl (by decide) ?_
            refine x_aload_n C dX11_document_113 0 rfl ?_
            refine x_iload_n C dX11_document_114 1 rfl ?_
            refine x_calli (rest := []) C sv_X11_408 ob11 z11 (kX11_mostOften hG _ _ h) rfl rfl (Nat.le_of_ble_eq_true rfl) ⟨Nat.le_of_ble_eq_true rfl, Nat.le_of_ble_eq_true rfl⟩ rfl rfl ⟨Nat.le_of_ble_eq_true rfl, Nat.le_of_ble_eq_true rfl⟩ dX11_document_115 (fun r23 M24 h => ?_)
            exact x_iret C E h (Nat.le_of_ble_eq_true rfl) (Nat.le_of_ble_eq_true rfl) dX11_document_118
          replace h := h.2.2.2.2 c14 c16 c19 c22
          refine x_tabOut (tgt := 119) C dX11_document_53 (by have ac14 := lv_neT (a := 0) c14 rfl; have ac16 := lv_neT (a := 1) c16 rfl; have ac19 := lv_neT (a := 2) c19 rfl; have ac22 := lv_neT (a := 3) c22 rfl; omega) (by decide) ?_
          refine x_aload_n C dX11_document_119 0 rfl ?_
          refine gf_11_17 C q163 z11 dX11_document_120 ?_
          refine x_aload_n C dX11_document_123 0 rfl ?_
          refine x_iload_n C dX11_document_124 1 rfl ?_
          refine x_calli (rest := [.ref (ga G 1217 0)]) C sv_X11_408 ob11 z11 (kX11_mostOften hG _ _ h) rfl rfl (Nat.le_of_ble_eq_true rfl) ⟨Nat.le_of_ble_eq_true rfl, Nat.le_of_ble_eq_true rfl⟩ rfl rfl ⟨Nat.le_of_ble_eq_true rfl, Nat.le_of_ble_eq_true rfl⟩ dX11_document_125 (fun r25 M26 h => ?_)
          obtain ⟨f27, h⟩ := h
          refine al_1217 C z1217 f27 dX11_document_128 ?_
          refine x_iload_n C dX11_document_129 1 rfl ?_
          obtain ⟨f28, h⟩ := h
          refine al_6217 C (vp_lt f27) f28 dX11_document_130 ?_
          exact x_iret C E h (Nat.le_of_ble_eq_true rfl) (Nat.le_of_ble_eq_true rfl) dX11_document_131
        · replace h := h.2 c13
          refine x_iconst (v := 0) C dX11_document_50 rfl ?_
          exact x_iret C E h (Nat.le_of_ble_eq_true rfl) (Nat.le_of_ble_eq_true rfl) dX11_document_51
      · replace h := h.2 c10
        refine x_iconst (v := 1) C dX11_document_37 rfl ?_
        refine x_goto (tgt := 42) C dX11_document_38 (by decide) ?_
        refine x_iconst (v := 2) C dX11_document_42 rfl ?_
        refine x_iconst (v := 1) C dX11_document_43 rfl ?_
        refine x_calli (rest := []) C sv_X11_179 ob11 z11 (kX11_bad hG _ _ _ _ h) rfl rfl (Nat.le_of_ble_eq_true rfl) ⟨Nat.le_of_ble_eq_true rfl, Nat.le_of_ble_eq_true rfl⟩ rfl rfl ⟨Nat.le_of_ble_eq_true rfl, Nat.le_of_ble_eq_true rfl⟩ dX11_document_44 (fun r29 M30 h => ?_)
        refine x_if_eq (tgt := 52) C dX11_document_47 (by decide) (fun c31 => ?_) (fun c31 => ?_)
        · replace h := h.1 c31
          refine x_iload_n C dX11_document_52 2 rfl ?_
          by_cases c32 : x2 = 0
          · replace h := h.1 c32
            refine x_tabIn (v := 0) (tgt := 84) C dX11_document_53 c32 (by decide) (by decide) rfl (by decide) ?_
            refine x_aload_n C dX11_document_84 0 rfl ?_
            refine gf_11_13 C q161 z11 dX11_document_85 ?_
            refine x_iload_n C dX11_document_88 1 rfl ?_
            obtain ⟨f33, h⟩ := h
            refine al_1213 C z1213 f33 dX11_document_89 ?_
            exact x_iret C E h (Nat.le_of_ble_eq_true rfl) (Nat.le_of_ble_eq_true rfl) dX11_document_90
          by_cases c34 : x2 = 1
          · replace h := h.2.1 c34
            refine x_tabIn (v := 1) (tgt := 91) C dX11_document_53 c34 (by decide) (by decide) rfl (by decide) ?_
            refine x_aload_n C dX11_document_91 0 rfl ?_
            refine x_iload_n C dX11_document_92 1 rfl ?_
            refine x_calli (rest := []) C sv_X11_405 ob11 z11 (kX11_unlike hG _ _ h) rfl rfl (Nat.le_of_ble_eq_true rfl) ⟨Nat.le_of_ble_eq_true rfl, Nat.le_of_ble_eq_true rfl⟩ rfl rfl ⟨Nat.le_of_ble_eq_true rfl, Nat.le_of_ble_eq_true rfl⟩ dX11_document_93 (fun r35 M36 h => ?_)
            exact x_iret C E h (Nat.le_of_ble_eq_true rfl) (Nat.le_of_ble_eq_true rfl) dX11_document_96
          by_cases c37 : x2 = 2
          · replace h := h.2.2.1 c37
            refine x_tabIn (v := 2) (tgt := 97) C dX11_document_53 c37 (by decide) (by decide) rfl (by decide) ?_
            refine x_aload_n C dX11_document_97 0 rfl ?_
            refine gf_11_14 C q162 z11 dX11_document_98 ?_
            refine x_iload_n C dX11_document_101 1 rfl ?_
            obtain ⟨f38, h⟩ := h
            refine al_1214 C z1214 f38 dX11_document_102 ?_
            refine x_iconst (v := 2) C dX11_document_103 rfl ?_
            refine x_icmp_ne (tgt := 111) C dX11_document_104 (by decide) (fun c39 => ?_) (fun c39 => ?_)
            · replace h := h.1 c39
              refine x_iconst (v := 0) C dX11_document_111 rfl ?_
              exact x_iret C E h (Nat.le_of_ble_eq_true rfl) (Nat.le_of_ble_eq_true rfl) dX11_document_112
            · replace h := h.2 c39
              refine x_iconst (v := 1) C dX11_document_107 rfl ?_
              refine x_goto (tgt := 112) C dX11_document_108 (by decide) ?_
              exact x_iret C E h (Nat.le_of_ble_eq_true rfl) (Nat.le_of_ble_eq_true rfl) dX11_document_112
          by_cases c40 : x2 = 3
          · replace h := h.2.2.2.1 c40
            refine x_tabIn (v := 3) (tgt := 113) C dX11_document_53 c40 (by decide) (by decide) rfl (by decide) ?_
            refine x_aload_n C dX11_document_113 0 rfl ?_
            refine x_iload_n C dX11_document_114 1 rfl ?_
            refine x_calli (rest := []) C sv_X11_408 ob11 z11 (kX11_mostOften hG _ _ h) rfl rfl (Nat.le_of_ble_eq_true rfl) ⟨Nat.le_of_ble_eq_true rfl, Nat.le_of_ble_eq_true rfl⟩ rfl rfl ⟨Nat.le_of_ble_eq_true rfl, Nat.le_of_ble_eq_true rfl⟩ dX11_document_115 (fun r41 M42 h => ?_)
            exact x_iret C E h (Nat.le_of_ble_eq_true rfl) (Nat.le_of_ble_eq_true rfl) dX11_document_118
          replace h := h.2.2.2.2 c32 c34 c37 c40
          refine x_tabOut (tgt := 119) C dX11_document_53 (by have ac32 := lv_neT (a := 0) c32 rfl; have ac34 := lv_neT (a := 1) c34 rfl; have ac37 := lv_neT (a := 2) c37 rfl; have ac40 := lv_neT (a := 3) c40 rfl; omega) (by decide) ?_
          refine x_aload_n C dX11_document_119 0 rfl ?_
          refine gf_11_17 C q163 z11 dX11_document_120 ?_
          refine x_aload_n C dX11_document_123 0 rfl ?_
          refine x_iload_n C dX11_document_124 1 rfl ?_
          refine x_calli (rest := [.ref (ga G 1217 0)]) C sv_X11_408 ob11 z11 (kX11_mostOften hG _ _ h) rfl rfl (Nat.le_of_ble_eq_true rfl) ⟨Nat.le_of_ble_eq_true rfl, Nat.le_of_ble_eq_true rfl⟩ rfl rfl ⟨Nat.le_of_ble_eq_true rfl, Nat.le_of_ble_eq_true rfl⟩ dX11_document_125 (fun r43 M44 h => ?_)
          obtain ⟨f45, h⟩ := h
          refine al_1217 C z1217 f45 dX11_document_128 ?_
          refine x_iload_n C dX11_document_129 1 rfl ?_
          obtain ⟨f46, h⟩ := h
          refine al_6217 C (vp_lt f45) f46 dX11_document_130 ?_
          exact x_iret C E h (Nat.le_of_ble_eq_true rfl) (Nat.le_of_ble_eq_true rfl) dX11_document_131
        · replace h := h.2 c31
          refine x_iconst (v := 0) C dX11_document_50 rfl ?_
          exact x_iret C E h (Nat.le_of_ble_eq_true rfl) (Nat.le_of_ble_eq_true rfl) dX11_document_51
  · replace h := h.2 c4
    refine x_iconst (v := 1) C dX11_document_14 rfl ?_
    refine x_goto (tgt := 19) C dX11_document_15 (by decide) ?_
    refine x_iconst (v := 1) C dX11_document_19 rfl ?_
    refine x_iconst (v := 0) C dX11_document_20 rfl ?_
    refine x_calli (rest := []) C sv_X11_179 ob11 z11 (kX11_bad hG _ _ _ _ h) rfl rfl (Nat.le_of_ble_eq_true rfl) ⟨Nat.le_of_ble_eq_true rfl, Nat.le_of_ble_eq_true rfl⟩ rfl rfl ⟨Nat.le_of_ble_eq_true rfl, Nat.le_of_ble_eq_true rfl⟩ dX11_document_21 (fun r47 M48 h => ?_)
    refine x_if_ne (tgt := 50) C dX11_document_24 (by decide) (fun c49 => ?_) (fun c49 => ?_)
    · replace h := h.1 c49
      refine x_iconst (v := 0) C dX11_document_50 rfl ?_
      exact x_iret C E h (Nat.le_of_ble_eq_true rfl) (Nat.le_of_ble_eq_true rfl) dX11_document_51
    · replace h := h.2 c49
      refine x_aload_n C dX11_document_27 0 rfl ?_
      refine x_iload_n C dX11_document_28 2 rfl ?_
      refine x_iconst (v := 0) C dX11_document_29 rfl ?_
      refine x_iconst (v := 4) C dX11_document_30 rfl ?_
      refine x_scalli (rest := [.ref (ga G 11 0)]) C ss_X11_172 (kX11_in hG _ _ _ _ h) rfl rfl (Nat.le_of_ble_eq_true rfl) ⟨Nat.le_of_ble_eq_true rfl, Nat.le_of_ble_eq_true rfl⟩ rfl rfl ⟨Nat.le_of_ble_eq_true rfl, Nat.le_of_ble_eq_true rfl⟩ dX11_document_31 (fun r50 M51 h => ?_)
      refine x_if_ne (tgt := 41) C dX11_document_34 (by decide) (fun c52 => ?_) (fun c52 => ?_)
      · replace h := h.1 c52
        refine x_iconst (v := 0) C dX11_document_41 rfl ?_
        refine x_iconst (v := 2) C dX11_document_42 rfl ?_
        refine x_iconst (v := 1) C dX11_document_43 rfl ?_
        refine x_calli (rest := []) C sv_X11_179 ob11 z11 (kX11_bad hG _ _ _ _ h) rfl rfl (Nat.le_of_ble_eq_true rfl) ⟨Nat.le_of_ble_eq_true rfl, Nat.le_of_ble_eq_true rfl⟩ rfl rfl ⟨Nat.le_of_ble_eq_true rfl, Nat.le_of_ble_eq_true rfl⟩ dX11_document_44 (fun r53 M54 h => ?_)
        refine x_if_eq (tgt := 52) C dX11_document_47 (by decide) (fun c55 => ?_) (fun c55 => ?_)
        · replace h := h.1 c55
          refine x_iload_n C dX11_document_52 2 rfl ?_
          by_cases c56 : x2 = 0
          · replace h := h.1 c56
            refine x_tabIn (v := 0) (tgt := 84) C dX11_document_53 c56 (by decide) (by decide) rfl (by decide) ?_
            refine x_aload_n C dX11_document_84 0 rfl ?_
            refine gf_11_13 C q161 z11 dX11_document_85 ?_
            refine x_iload_n C dX11_document_88 1 rfl ?_
            obtain ⟨f57, h⟩ := h
            refine al_1213 C z1213 f57 dX11_document_89 ?_
            exact x_iret C E h (Nat.le_of_ble_eq_true rfl) (Nat.le_of_ble_eq_true rfl) dX11_document_90
          by_cases c58 : x2 = 1
          · replace h := h.2.1 c58
            refine x_tabIn (v := 1) (tgt := 91) C dX11_document_53 c58 (by decide) (by decide) rfl (by decide) ?_
            refine x_aload_n C dX11_document_91 0 rfl ?_
            refine x_iload_n C dX11_document_92 1 rfl ?_
            refine x_calli (rest := []) C sv_X11_405 ob11 z11 (kX11_unlike hG _ _ h) rfl rfl (Nat.le_of_ble_eq_true rfl) ⟨Nat.le_of_ble_eq_true rfl, Nat.le_of_ble_eq_true rfl⟩ rfl rfl ⟨Nat.le_of_ble_eq_true rfl, Nat.le_of_ble_eq_true rfl⟩ dX11_document_93 (fun r59 M60 h => ?_)
            exact x_iret C E h (Nat.le_of_ble_eq_true rfl) (Nat.le_of_ble_eq_true rfl) dX11_document_96
          by_cases c61 : x2 = 2
          · replace h := h.2.2.1 c61
            refine x_tabIn (v := 2) (tgt := 97) C dX11_document_53 c61 (by decide) (by decide) rfl (by decide) ?_
            refine x_aload_n C dX11_document_97 0 rfl ?_
            refine gf_11_14 C q162 z11 dX11_document_98 ?_
            refine x_iload_n C dX11_document_101 1 rfl ?_
            obtain ⟨f62, h⟩ := h
            refine al_1214 C z1214 f62 dX11_document_102 ?_
            refine x_iconst (v := 2) C dX11_document_103 rfl ?_
            refine x_icmp_ne (tgt := 111) C dX11_document_104 (by decide) (fun c63 => ?_) (fun c63 => ?_)
            · replace h := h.1 c63
              refine x_iconst (v := 0) C dX11_document_111 rfl ?_
              exact x_iret C E h (Nat.le_of_ble_eq_true rfl) (Nat.le_of_ble_eq_true rfl) dX11_document_112
            · replace h := h.2 c63
              refine x_iconst (v := 1) C dX11_document_107 rfl ?_
              refine x_goto (tgt := 112) C dX11_document_108 (by decide) ?_
              exact x_iret C E h (Nat.le_of_ble_eq_true rfl) (Nat.le_of_ble_eq_true rfl) dX11_document_112
          by_cases c64 : x2 = 3
          · replace h := h.2.2.2.1 c64
            refine x_tabIn (v := 3) (tgt := 113) C dX11_document_53 c64 (by decide) (by decide) rfl (by decide) ?_
            refine x_aload_n C dX11_document_113 0 rfl ?_
            refine x_iload_n C dX11_document_114 1 rfl ?_
            refine x_calli (rest := []) C sv_X11_408 ob11 z11 (kX11_mostOften hG _ _ h) rfl rfl (Nat.le_of_ble_eq_true rfl) ⟨Nat.le_of_ble_eq_true rfl, Nat.le_of_ble_eq_true rfl⟩ rfl rfl ⟨Nat.le_of_ble_eq_true rfl, Nat.le_of_ble_eq_true rfl⟩ dX11_document_115 (fun r65 M66 h => ?_)
            exact x_iret C E h (Nat.le_of_ble_eq_true rfl) (Nat.le_of_ble_eq_true rfl) dX11_document_118
          replace h := h.2.2.2.2 c56 c58 c61 c64
          refine x_tabOut (tgt := 119) C dX11_document_53 (by have ac56 := lv_neT (a := 0) c56 rfl; have ac58 := lv_neT (a := 1) c58 rfl; have ac61 := lv_neT (a := 2) c61 rfl; have ac64 := lv_neT (a := 3) c64 rfl; omega) (by decide) ?_
          refine x_aload_n C dX11_document_119 0 rfl ?_
          refine gf_11_17 C q163 z11 dX11_document_120 ?_
          refine x_aload_n C dX11_document_123 0 rfl ?_
          refine x_iload_n C dX11_document_124 1 rfl ?_
          refine x_calli (rest := [.ref (ga G 1217 0)]) C sv_X11_408 ob11 z11 (kX11_mostOften hG _ _ h) rfl rfl (Nat.le_of_ble_eq_true rfl) ⟨Nat.le_of_ble_eq_true rfl, Nat.le_of_ble_eq_true rfl⟩ rfl rfl ⟨Nat.le_of_ble_eq_true rfl, Nat.le_of_ble_eq_true rfl⟩ dX11_document_125 (fun r67 M68 h => ?_)
          obtain ⟨f69, h⟩ := h
          refine al_1217 C z1217 f69 dX11_document_128 ?_
          refine x_iload_n C dX11_document_129 1 rfl ?_
          obtain ⟨f70, h⟩ := h
          refine al_6217 C (vp_lt f69) f70 dX11_document_130 ?_
          exact x_iret C E h (Nat.le_of_ble_eq_true rfl) (Nat.le_of_ble_eq_true rfl) dX11_document_131
        · replace h := h.2 c55
          refine x_iconst (v := 0) C dX11_document_50 rfl ?_
          exact x_iret C E h (Nat.le_of_ble_eq_true rfl) (Nat.le_of_ble_eq_true rfl) dX11_document_51
      · replace h := h.2 c52
        refine x_iconst (v := 1) C dX11_document_37 rfl ?_
        refine x_goto (tgt := 42) C dX11_document_38 (by decide) ?_
        refine x_iconst (v := 2) C dX11_document_42 rfl ?_
        refine x_iconst (v := 1) C dX11_document_43 rfl ?_
        refine x_calli (rest := []) C sv_X11_179 ob11 z11 (kX11_bad hG _ _ _ _ h) rfl rfl (Nat.le_of_ble_eq_true rfl) ⟨Nat.le_of_ble_eq_true rfl, Nat.le_of_ble_eq_true rfl⟩ rfl rfl ⟨Nat.le_of_ble_eq_true rfl, Nat.le_of_ble_eq_true rfl⟩ dX11_document_44 (fun r71 M72 h => ?_)
        refine x_if_eq (tgt := 52) C dX11_document_47 (by decide) (fun c73 => ?_) (fun c73 => ?_)
        · replace h := h.1 c73
          refine x_iload_n C dX11_document_52 2 rfl ?_
          by_cases c74 : x2 = 0
          · replace h := h.1 c74
            refine x_tabIn (v := 0) (tgt := 84) C dX11_document_53 c74 (by decide) (by decide) rfl (by decide) ?_
            refine x_aload_n C dX11_document_84 0 rfl ?_
            refine gf_11_13 C q161 z11 dX11_document_85 ?_
            refine x_iload_n C dX11_document_88 1 rfl ?_
            obtain ⟨f75, h⟩ := h
            refine al_1213 C z1213 f75 dX11_document_89 ?_
            exact x_iret C E h (Nat.le_of_ble_eq_true rfl) (Nat.le_of_ble_eq_true rfl) dX11_document_90
          by_cases c76 : x2 = 1
          · replace h := h.2.1 c76
            refine x_tabIn (v := 1) (tgt := 91) C dX11_document_53 c76 (by decide) (by decide) rfl (by decide) ?_
            refine x_aload_n C dX11_document_91 0 rfl ?_
            refine x_iload_n C dX11_document_92 1 rfl ?_
            refine x_calli (rest := []) C sv_X11_405 ob11 z11 (kX11_unlike hG _ _ h) rfl rfl (Nat.le_of_ble_eq_true rfl) ⟨Nat.le_of_ble_eq_true rfl, Nat.le_of_ble_eq_true rfl⟩ rfl rfl ⟨Nat.le_of_ble_eq_true rfl, Nat.le_of_ble_eq_true rfl⟩ dX11_document_93 (fun r77 M78 h => ?_)
            exact x_iret C E h (Nat.le_of_ble_eq_true rfl) (Nat.le_of_ble_eq_true rfl) dX11_document_96
          by_cases c79 : x2 = 2
          · replace h := h.2.2.1 c79
            refine x_tabIn (v := 2) (tgt := 97) C dX11_document_53 c79 (by decide) (by decide) rfl (by decide) ?_
            refine x_aload_n C dX11_document_97 0 rfl ?_
            refine gf_11_14 C q162 z11 dX11_document_98 ?_
            refine x_iload_n C dX11_document_101 1 rfl ?_
            obtain ⟨f80, h⟩ := h
            refine al_1214 C z1214 f80 dX11_document_102 ?_
            refine x_iconst (v := 2) C dX11_document_103 rfl ?_
            refine x_icmp_ne (tgt := 111) C dX11_document_104 (by decide) (fun c81 => ?_) (fun c81 => ?_)
            · replace h := h.1 c81
              refine x_iconst (v := 0) C dX11_document_111 rfl ?_
              exact x_iret C E h (Nat.le_of_ble_eq_true rfl) (Nat.le_of_ble_eq_true rfl) dX11_document_112
            · replace h := h.2 c81
              refine x_iconst (v := 1) C dX11_document_107 rfl ?_
              refine x_goto (tgt := 112) C dX11_document_108 (by decide) ?_
              exact x_iret C E h (Nat.le_of_ble_eq_true rfl) (Nat.le_of_ble_eq_true rfl) dX11_document_112
          by_cases c82 : x2 = 3
          · replace h := h.2.2.2.1 c82
            refine x_tabIn (v := 3) (tgt := 113) C dX11_document_53 c82 (by decide) (by decide) rfl (by decide) ?_
            refine x_aload_n C dX11_document_113 0 rfl ?_
            refine x_iload_n C dX11_document_114 1 rfl ?_
            refine x_calli (rest := []) C sv_X11_408 ob11 z11 (kX11_mostOften hG _ _ h) rfl rfl (Nat.le_of_ble_eq_true rfl) ⟨Nat.le_of_ble_eq_true rfl, Nat.le_of_ble_eq_true rfl⟩ rfl rfl ⟨Nat.le_of_ble_eq_true rfl, Nat.le_of_ble_eq_true rfl⟩ dX11_document_115 (fun r83 M84 h => ?_)
            exact x_iret C E h (Nat.le_of_ble_eq_true rfl) (Nat.le_of_ble_eq_true rfl) dX11_document_118
          replace h := h.2.2.2.2 c74 c76 c79 c82
          refine x_tabOut (tgt := 119) C dX11_document_53 (by have ac74 := lv_neT (a := 0) c74 rfl; have ac76 := lv_neT (a := 1) c76 rfl; have ac79 := lv_neT (a := 2) c79 rfl; have ac82 := lv_neT (a := 3) c82 rfl; omega) (by decide) ?_
          refine x_aload_n C dX11_document_119 0 rfl ?_
          refine gf_11_17 C q163 z11 dX11_document_120 ?_
          refine x_aload_n C dX11_document_123 0 rfl ?_
          refine x_iload_n C dX11_document_124 1 rfl ?_
          refine x_calli (rest := [.ref (ga G 1217 0)]) C sv_X11_408 ob11 z11 (kX11_mostOften hG _ _ h) rfl rfl (Nat.le_of_ble_eq_true rfl) ⟨Nat.le_of_ble_eq_true rfl, Nat.le_of_ble_eq_true rfl⟩ rfl rfl ⟨Nat.le_of_ble_eq_true rfl, Nat.le_of_ble_eq_true rfl⟩ dX11_document_125 (fun r85 M86 h => ?_)
          obtain ⟨f87, h⟩ := h
          refine al_1217 C z1217 f87 dX11_document_128 ?_
          refine x_iload_n C dX11_document_129 1 rfl ?_
          obtain ⟨f88, h⟩ := h
          refine al_6217 C (vp_lt f87) f88 dX11_document_130 ?_
          exact x_iret C E h (Nat.le_of_ble_eq_true rfl) (Nat.le_of_ble_eq_true rfl) dX11_document_131
        · replace h := h.2 c73
          refine x_iconst (v := 0) C dX11_document_50 rfl ?_
          exact x_iret C E h (Nat.le_of_ble_eq_true rfl) (Nat.le_of_ble_eq_true rfl) dX11_document_51
def rmX11_at : Room := { frames := 2, cells := 0, slots := 0, locals := 43 }
def pX11_at (M : Mem) (x1 : Int32) (x2 : Int32) (Q : Int32 → Mem → Prop) : Prop :=
  ∀ M1 : Mem, M1 = up1 M 1200 0 0 0 → pX11_isDocument M1 x1 (fun r2 M3 => ((¬ r2 = 0 → pX11_bad M3 0 1 0 (fun r5 M6 => ((r5 = 0 → vp_in x1 64 ∧ pX11_in M6 x2 0 ((M6.1 1213 0 (tn x1)) - 1) (fun r9 M10 => ((r9 = 0 → Q (-1) M10) ∧ (¬ r9 = 0 → vp_in x2 150 ∧ Q (M10.1 6212 (tn x1) (tn x2)) M10)))) ∧ (¬ r5 = 0 → Q 0 M6)))) ∧ (r2 = 0 → pX11_bad M3 1 1 0 (fun r13 M14 => ((r13 = 0 → vp_in x1 64 ∧ pX11_in M14 x2 0 ((M14.1 1213 0 (tn x1)) - 1) (fun r17 M18 => ((r17 = 0 → Q (-1) M18) ∧ (¬ r17 = 0 → vp_in x2 150 ∧ Q (M18.1 6212 (tn x1) (tn x2)) M18)))) ∧ (¬ r13 = 0 → Q 0 M14))))))
set_option maxRecDepth 100000 in
set_option maxHeartbeats 400000 in
theorem kX11_at {l : Launch} {G : Gm} (hG : Gd G) (M : Mem) (x1 : Int32) (x2 : Int32) {Q : Int32 → Mem → Prop} (h : pX11_at M x1 x2 Q) : Cti l G yX11_at cX11_at 3 .int rmX11_at [.ref (ga G 11 0), .int x1, .int x2] M Q := by
  refine cti_of (own := RX11) (by decide +kernel) rfl (Nat.le_of_ble_eq_true rfl) hG (fun Γ Qf hl C E => ?_)
  subst hl
  show X Γ G Qf 3 0 0 0 [(0, .ref (ga G 11 0)), (1, .int x1), (2, .int x2)] [] M
  unfold pX11_at at h
  refine x_aload_n C dX11_at_0 0 rfl ?_
  refine x_iconst (v := 0) C dX11_at_1 rfl ?_
  refine pf_11_0 C q143 z11 dX11_at_2 ?_
  refine X_nameM (fun M1 eM1 => ?_)
  replace h := h M1 eM1
  refine x_aload_n C dX11_at_5 0 rfl ?_
  refine x_aload_n C dX11_at_6 0 rfl ?_
  refine x_iload_n C dX11_at_7 1 rfl ?_
  refine x_calli (rest := [.ref (ga G 11 0)]) C sv_X11_402 ob11 z11 (kX11_isDocument hG _ _ h) rfl rfl (Nat.le_of_ble_eq_true rfl) ⟨Nat.le_of_ble_eq_true rfl, Nat.le_of_ble_eq_true rfl⟩ rfl rfl ⟨Nat.le_of_ble_eq_true rfl, Nat.le_of_ble_eq_true rfl⟩ dX11_at_8 (fun r2 M3 h => ?_)
  refine x_if_ne (tgt := 18) C dX11_at_11 (by decide) (fun c4 => ?_) (fun c4 => ?_)
  · replace h := h.1 c4
    refine x_iconst (v := 0) C dX11_at_18 rfl ?_
    refine x_iconst (v := 1) C dX11_at_19 rfl ?_
    refine x_iconst (v := 0) C dX11_at_20 rfl ?_
    refine x_calli (rest := []) C sv_X11_179 ob11 z11 (kX11_bad hG _ _ _ _ h) rfl rfl (Nat.le_of_ble_eq_true rfl) ⟨Nat.le_of_ble_eq_true rfl, Nat.le_of_ble_eq_true rfl⟩ rfl rfl ⟨Nat.le_of_ble_eq_true rfl, Nat.le_of_ble_eq_true rfl⟩ dX11_at_21 (fun r5 M6 h => ?_)
    refine x_if_eq (tgt := 29) C dX11_at_24 (by decide) (fun c7 => ?_) (fun c7 => ?_)
    · replace h := h.1 c7
      refine x_iload_n C dX11_at_29 2 rfl ?_
      refine x_iconst (v := 0) C dX11_at_30 rfl ?_
      refine x_aload_n C dX11_at_31 0 rfl ?_
      refine gf_11_13 C q161 z11 dX11_at_32 ?_
      refine x_iload_n C dX11_at_35 1 rfl ?_
      obtain ⟨f8, h⟩ := h
      refine al_1213 C z1213 f8 dX11_at_36 ?_
      refine x_iconst (v := 1) C dX11_at_37 rfl ?_
      refine x_isub C dX11_at_38 ?_
      refine x_scalli (rest := []) C ss_X11_172 (kX11_in hG _ _ _ _ h) rfl rfl (Nat.le_of_ble_eq_true rfl) ⟨Nat.le_of_ble_eq_true rfl, Nat.le_of_ble_eq_true rfl⟩ rfl rfl ⟨Nat.le_of_ble_eq_true rfl, Nat.le_of_ble_eq_true rfl⟩ dX11_at_39 (fun r9 M10 h => ?_)
      refine x_if_eq (tgt := 56) C dX11_at_42 (by decide) (fun c11 => ?_) (fun c11 => ?_)
      · replace h := h.1 c11
        refine x_iconst (v := (-1)) C dX11_at_56 rfl ?_
        exact x_iret C E h (Nat.le_of_ble_eq_true rfl) (Nat.le_of_ble_eq_true rfl) dX11_at_57
      · replace h := h.2 c11
        refine x_aload_n C dX11_at_45 0 rfl ?_
        refine gf_11_12 C q158 z11 dX11_at_46 ?_
        refine x_iload_n C dX11_at_49 1 rfl ?_
        refine al_1212 C z1212 f8 dX11_at_50 ?_
        refine x_iload_n C dX11_at_51 2 rfl ?_
        obtain ⟨f12, h⟩ := h
        refine al_6212 C (vp_lt f8) f12 dX11_at_52 ?_
        refine x_goto (tgt := 57) C dX11_at_53 (by decide) ?_
        exact x_iret C E h (Nat.le_of_ble_eq_true rfl) (Nat.le_of_ble_eq_true rfl) dX11_at_57
    · replace h := h.2 c7
      refine x_iconst (v := 0) C dX11_at_27 rfl ?_
      exact x_iret C E h (Nat.le_of_ble_eq_true rfl) (Nat.le_of_ble_eq_true rfl) dX11_at_28
  · replace h := h.2 c4
    refine x_iconst (v := 1) C dX11_at_14 rfl ?_
    refine x_goto (tgt := 19) C dX11_at_15 (by decide) ?_
    refine x_iconst (v := 1) C dX11_at_19 rfl ?_
    refine x_iconst (v := 0) C dX11_at_20 rfl ?_
    refine x_calli (rest := []) C sv_X11_179 ob11 z11 (kX11_bad hG _ _ _ _ h) rfl rfl (Nat.le_of_ble_eq_true rfl) ⟨Nat.le_of_ble_eq_true rfl, Nat.le_of_ble_eq_true rfl⟩ rfl rfl ⟨Nat.le_of_ble_eq_true rfl, Nat.le_of_ble_eq_true rfl⟩ dX11_at_21 (fun r13 M14 h => ?_)
    refine x_if_eq (tgt := 29) C dX11_at_24 (by decide) (fun c15 => ?_) (fun c15 => ?_)
    · replace h := h.1 c15
      refine x_iload_n C dX11_at_29 2 rfl ?_
      refine x_iconst (v := 0) C dX11_at_30 rfl ?_
      refine x_aload_n C dX11_at_31 0 rfl ?_
      refine gf_11_13 C q161 z11 dX11_at_32 ?_
      refine x_iload_n C dX11_at_35 1 rfl ?_
      obtain ⟨f16, h⟩ := h
      refine al_1213 C z1213 f16 dX11_at_36 ?_
      refine x_iconst (v := 1) C dX11_at_37 rfl ?_
      refine x_isub C dX11_at_38 ?_
      refine x_scalli (rest := []) C ss_X11_172 (kX11_in hG _ _ _ _ h) rfl rfl (Nat.le_of_ble_eq_true rfl) ⟨Nat.le_of_ble_eq_true rfl, Nat.le_of_ble_eq_true rfl⟩ rfl rfl ⟨Nat.le_of_ble_eq_true rfl, Nat.le_of_ble_eq_true rfl⟩ dX11_at_39 (fun r17 M18 h => ?_)
      refine x_if_eq (tgt := 56) C dX11_at_42 (by decide) (fun c19 => ?_) (fun c19 => ?_)
      · replace h := h.1 c19
        refine x_iconst (v := (-1)) C dX11_at_56 rfl ?_
        exact x_iret C E h (Nat.le_of_ble_eq_true rfl) (Nat.le_of_ble_eq_true rfl) dX11_at_57
      · replace h := h.2 c19
        refine x_aload_n C dX11_at_45 0 rfl ?_
        refine gf_11_12 C q158 z11 dX11_at_46 ?_
        refine x_iload_n C dX11_at_49 1 rfl ?_
        refine al_1212 C z1212 f16 dX11_at_50 ?_
        refine x_iload_n C dX11_at_51 2 rfl ?_
        obtain ⟨f20, h⟩ := h
        refine al_6212 C (vp_lt f16) f20 dX11_at_52 ?_
        refine x_goto (tgt := 57) C dX11_at_53 (by decide) ?_
        exact x_iret C E h (Nat.le_of_ble_eq_true rfl) (Nat.le_of_ble_eq_true rfl) dX11_at_57
    · replace h := h.2 c15
      refine x_iconst (v := 0) C dX11_at_27 rfl ?_
      exact x_iret C E h (Nat.le_of_ble_eq_true rfl) (Nat.le_of_ble_eq_true rfl) dX11_at_28
def rmX11_timesInAll : Room := { frames := 2, cells := 0, slots := 0, locals := 43 }
def bX11_timesInAll_9 (x1 : Int32) (Q : Int32 → Mem → Prop) (L9 : Mem × Int32 × Int32 → Prop) (M : Mem) (y2 : Int32) (y3 : Int32) : Prop :=
  (((M.1 1237 0 0) ≤ y3 → Q y2 M) ∧ (¬ (M.1 1237 0 0) ≤ y3 → vp_in x1 256 ∧ vp_in y3 64 ∧ vp_in (M.1 1238 0 (tn y3)) 64 ∧ ∀ v7 : Int32, v7 = (y2 + (M.1 6217 (tn x1) (tn (M.1 1238 0 (tn y3))))) → ∀ v8 : Int32, v8 = y3 + 1 → L9 (M, v7, v8)))
def pX11_timesInAll (M : Mem) (x1 : Int32) (Q : Int32 → Mem → Prop) : Prop :=
  pX11_gathers M x1 (fun M2 => ∃ n : Nat, lp (fun L s => bX11_timesInAll_9 x1 Q L s.1 s.2.1 s.2.2) n (M2, 0, 0))
set_option maxRecDepth 100000 in
set_option maxHeartbeats 400000 in
theorem wX11_timesInAll_9 {Γ : Gam} {G : Gm} {Qf : State → Prop} (hG : Gd G) (C : Cx Γ G cX11_timesInAll 4 RX11 (some .int) rmX11_timesInAll) {x1 : Int32} {Q : Int32 → Mem → Prop} (E : EndI Γ G Qf rmX11_timesInAll Q) {L9 : Mem × Int32 × Int32 → Prop} (hL9 : ∀ s, L9 s → X Γ G Qf 4 0 0 9 [(0, .ref (ga G 11 0)), (1, .int x1), (2, .int s.2.1), (3, .int s.2.2)] [] s.1) (M : Mem) (y2 : Int32) (y3 : Int32) (h : bX11_timesInAll_9 x1 Q L9 M y2 y3) : X Γ G Qf 4 0 0 9 [(0, .ref (ga G 11 0)), (1, .int x1), (2, .int y2), (3, .int y3)] [] M := by
  unfold bX11_timesInAll_9 at h
  refine x_iload_n C dX11_timesInAll_9 3 rfl ?_
  refine x_aload_n C dX11_timesInAll_10 0 rfl ?_
  refine gf_11_37 C q181 z11 dX11_timesInAll_11 ?_
  refine x_icmp_ge (tgt := 39) C dX11_timesInAll_14 (by decide) (fun c3 => ?_) (fun c3 => ?_)
  · replace h := h.1 c3
    refine x_iload_n C dX11_timesInAll_39 2 rfl ?_
    exact x_iret C E h (Nat.le_of_ble_eq_true rfl) (Nat.le_of_ble_eq_true rfl) dX11_timesInAll_40
  · replace h := h.2 c3
    refine x_iload_n C dX11_timesInAll_17 2 rfl ?_
    refine x_aload_n C dX11_timesInAll_18 0 rfl ?_
    refine gf_11_17 C q163 z11 dX11_timesInAll_19 ?_
    refine x_iload_n C dX11_timesInAll_22 1 rfl ?_
    obtain ⟨f4, h⟩ := h
    refine al_1217 C z1217 f4 dX11_timesInAll_23 ?_
    refine x_aload_n C dX11_timesInAll_24 0 rfl ?_
    refine gf_11_38 C q182 z11 dX11_timesInAll_25 ?_
    refine x_iload_n C dX11_timesInAll_28 3 rfl ?_
    obtain ⟨f5, h⟩ := h
    refine al_1238 C z1238 f5 dX11_timesInAll_29 ?_
    obtain ⟨f6, h⟩ := h
    refine al_6217 C (vp_lt f4) f6 dX11_timesInAll_30 ?_
    refine x_iadd C dX11_timesInAll_31 ?_
    refine X_name (fun v7 ev7 => ?_)
    replace h := h v7 ev7
    refine x_istore_n (lv' := [(2, .int v7), (0, .ref (ga G 11 0)), (1, .int x1), (3, .int y3)]) C dX11_timesInAll_32 rfl (Nat.le_of_ble_eq_true rfl) rfl ?_
    obtain ⟨v8, ev8⟩ : ∃ z : Int32, z = y3 + 1 := ⟨_, rfl⟩
    replace h := h v8 ev8
    refine x_iinc (v := v8) (lv' := [(3, .int v8), (2, .int v7), (0, .ref (ga G 11 0)), (1, .int x1)]) (j := 3) C dX11_timesInAll_33 rfl (by rw [ev8]; rfl) (Nat.le_of_ble_eq_true rfl) rfl ?_
    refine x_goto (tgt := 9) C dX11_timesInAll_36 (by decide) ?_
    refine X_sub (lv' := [(0, .ref (ga G 11 0)), (1, .int x1), (2, .int v7), (3, .int v8)]) [2, 3, 1, 0] rfl ?_
    have w9 := hL9 (M, v7, v8) h
    dsimp only at w9
    exact w9
set_option maxRecDepth 100000 in
set_option maxHeartbeats 400000 in
theorem kX11_timesInAll {l : Launch} {G : Gm} (hG : Gd G) (M : Mem) (x1 : Int32) {Q : Int32 → Mem → Prop} (h : pX11_timesInAll M x1 Q) : Cti l G yX11_timesInAll cX11_timesInAll 4 .int rmX11_timesInAll [.ref (ga G 11 0), .int x1] M Q := by
  refine cti_of (own := RX11) (by decide +kernel) rfl (Nat.le_of_ble_eq_true rfl) hG (fun Γ Qf hl C E => ?_)
  subst hl
  show X Γ G Qf 4 0 0 0 [(0, .ref (ga G 11 0)), (1, .int x1)] [] M
  unfold pX11_timesInAll at h
  refine x_aload_n C dX11_timesInAll_0 0 rfl ?_
  refine x_iload_n C dX11_timesInAll_1 1 rfl ?_
  refine x_callv (rest := []) C sv_X11_252 ob11 z11 (kX11_gathers hG _ _ h) rfl rfl (Nat.le_of_ble_eq_true rfl) ⟨Nat.le_of_ble_eq_true rfl, Nat.le_of_ble_eq_true rfl⟩ rfl rfl ⟨Nat.le_of_ble_eq_true rfl, Nat.le_of_ble_eq_true rfl⟩ dX11_timesInAll_2 (fun M2 h => ?_)
  refine x_iconst (v := 0) C dX11_timesInAll_5 rfl ?_
  refine x_istore_n (lv' := [(2, .int 0), (0, .ref (ga G 11 0)), (1, .int x1)]) C dX11_timesInAll_6 rfl (Nat.le_of_ble_eq_true rfl) rfl ?_
  refine x_iconst (v := 0) C dX11_timesInAll_7 rfl ?_
  refine x_istore_n (lv' := [(3, .int 0), (2, .int 0), (0, .ref (ga G 11 0)), (1, .int x1)]) C dX11_timesInAll_8 rfl (Nat.le_of_ble_eq_true rfl) rfl ?_
  obtain ⟨n9, h⟩ := h
  refine X_sub (lv' := [(0, .ref (ga G 11 0)), (1, .int x1), (2, .int 0), (3, .int 0)]) [2, 3, 1, 0] rfl ?_
  have hb : ∀ (L : Mem × Int32 × Int32 → Prop) (s : Mem × Int32 × Int32), (∀ t, L t → X Γ G Qf 4 0 0 9 [(0, .ref (ga G 11 0)), (1, .int x1), (2, .int t.2.1), (3, .int t.2.2)] [] t.1) → bX11_timesInAll_9 x1 Q L s.1 s.2.1 s.2.2 → X Γ G Qf 4 0 0 9 [(0, .ref (ga G 11 0)), (1, .int x1), (2, .int s.2.1), (3, .int s.2.2)] [] s.1 := fun L s hL h => wX11_timesInAll_9 hG C E hL s.1 s.2.1 s.2.2 h
  have w9 := lp_walk (P := fun s : Mem × Int32 × Int32 => X Γ G Qf 4 0 0 9 [(0, .ref (ga G 11 0)), (1, .int x1), (2, .int s.2.1), (3, .int s.2.2)] [] s.1) h hb
  dsimp only at w9
  exact w9
def rmX11_topOfList : Room := { frames := 2, cells := 0, slots := 0, locals := 47 }
def pX11_topOfList (M : Mem) (x1 : Int32) (Q : Int32 → Mem → Prop) : Prop :=
  pX11_gathers M x1 (fun M2 => pX11_top M2 x1 0 (M2.1 1237 0 0) (fun r3 M4 => Q r3 M4))
set_option maxRecDepth 100000 in
set_option maxHeartbeats 400000 in
theorem kX11_topOfList {l : Launch} {G : Gm} (hG : Gd G) (M : Mem) (x1 : Int32) {Q : Int32 → Mem → Prop} (h : pX11_topOfList M x1 Q) : Cti l G yX11_topOfList cX11_topOfList 2 .int rmX11_topOfList [.ref (ga G 11 0), .int x1] M Q := by
  refine cti_of (own := RX11) (by decide +kernel) rfl (Nat.le_of_ble_eq_true rfl) hG (fun Γ Qf hl C E => ?_)
  subst hl
  show X Γ G Qf 2 0 0 0 [(0, .ref (ga G 11 0)), (1, .int x1)] [] M
  unfold pX11_topOfList at h
  refine x_aload_n C dX11_topOfList_0 0 rfl ?_
  refine x_iload_n C dX11_topOfList_1 1 rfl ?_
  refine x_callv (rest := []) C sv_X11_252 ob11 z11 (kX11_gathers hG _ _ h) rfl rfl (Nat.le_of_ble_eq_true rfl) ⟨Nat.le_of_ble_eq_true rfl, Nat.le_of_ble_eq_true rfl⟩ rfl rfl ⟨Nat.le_of_ble_eq_true rfl, Nat.le_of_ble_eq_true rfl⟩ dX11_topOfList_2 (fun M2 h => ?_)
  refine x_aload_n C dX11_topOfList_5 0 rfl ?_
  refine x_iload_n C dX11_topOfList_6 1 rfl ?_
  refine x_iconst (v := 0) C dX11_topOfList_7 rfl ?_
  refine x_aload_n C dX11_topOfList_8 0 rfl ?_
  refine gf_11_37 C q181 z11 dX11_topOfList_9 ?_
  refine x_calli (rest := []) C sv_X11_411 ob11 z11 (kX11_top hG _ _ _ _ h) rfl rfl (Nat.le_of_ble_eq_true rfl) ⟨Nat.le_of_ble_eq_true rfl, Nat.le_of_ble_eq_true rfl⟩ rfl rfl ⟨Nat.le_of_ble_eq_true rfl, Nat.le_of_ble_eq_true rfl⟩ dX11_topOfList_12 (fun r3 M4 h => ?_)
  exact x_iret C E h (Nat.le_of_ble_eq_true rfl) (Nat.le_of_ble_eq_true rfl) dX11_topOfList_15
