def rmX11_early : Room := { frames := 9, cells := 0, slots := 0, locals := 210 }
def pX11_early (M : Mem) (x1 : Int32) (x2 : Int32) (Q : Int32 → Mem → Prop) : Prop :=
  ∀ M1 : Mem, M1 = up1 M 1200 0 0 0 → pX11_in M1 x1 1 10 (fun r2 M3 => ((r2 = 0 → pX11_bad M3 1 1 1 (fun r5 M6 => ((r5 = 0 → pX11_goesEarly M6 x1 (M6.1 1211 0 0) (fun M9 => ((x2 = 0 → Q (M9.1 1256 0 0) M9) ∧ (x2 = 1 → pX11_floor M9 x1 (fun r12 M13 => Q r12 M13)) ∧ (x2 = 2 → Q (M9.1 1257 0 0) M9) ∧ (x2 = 3 → Q (M9.1 1258 0 0) M9) ∧ (x2 = 4 → Q (M9.1 1259 0 0) M9) ∧ (x2 = 5 → Q (M9.1 1260 0 0) M9) ∧ (x2 = 6 → Q (M9.1 1261 0 0) M9) ∧ (x2 = 7 → Q (M9.1 1262 0 0) M9) ∧ (¬ x2 = 0 → ¬ x2 = 1 → ¬ x2 = 2 → ¬ x2 = 3 → ¬ x2 = 4 → ¬ x2 = 5 → ¬ x2 = 6 → ¬ x2 = 7 → pX11_spared M9 (fun r20 M21 => Q r20 M21))))) ∧ (¬ r5 = 0 → Q 0 M6)))) ∧ (¬ r2 = 0 → pX11_in M3 x2 0 8 (fun r22 M23 => ((¬ r22 = 0 → pX11_bad M23 0 1 1 (fun r25 M26 => ((r25 = 0 → pX11_goesEarly M26 x1 (M26.1 1211 0 0) (fun M29 => ((x2 = 0 → Q (M29.1 1256 0 0) M29) ∧ (x2 = 1 → pX11_floor M29 x1 (fun r32 M33 => Q r32 M33)) ∧ (x2 = 2 → Q (M29.1 1257 0 0) M29) ∧ (x2 = 3 → Q (M29.1 1258 0 0) M29) ∧ (x2 = 4 → Q (M29.1 1259 0 0) M29) ∧ (x2 = 5 → Q (M29.1 1260 0 0) M29) ∧ (x2 = 6 → Q (M29.1 1261 0 0) M29) ∧ (x2 = 7 → Q (M29.1 1262 0 0) M29) ∧ (¬ x2 = 0 → ¬ x2 = 1 → ¬ x2 = 2 → ¬ x2 = 3 → ¬ x2 = 4 → ¬ x2 = 5 → ¬ x2 = 6 → ¬ x2 = 7 → pX11_spared M29 (fun r40 M41 => Q r40 M41))))) ∧ (¬ r25 = 0 → Q 0 M26)))) ∧ (r22 = 0 → pX11_bad M23 1 1 1 (fun r42 M43 => ((r42 = 0 → pX11_goesEarly M43 x1 (M43.1 1211 0 0) (fun M46 => ((x2 = 0 → Q (M46.1 1256 0 0) M46) ∧ (x2 = 1 → pX11_floor M46 x1 (fun r49 M50 => Q r49 M50)) ∧ (x2 = 2 → Q (M46.1 1257 0 0) M46) ∧ (x2 = 3 → Q (M46.1 1258 0 0) M46) ∧ (x2 = 4 → Q (M46.1 1259 0 0) M46) ∧ (x2 = 5 → Q (M46.1 1260 0 0) M46) ∧ (x2 = 6 → Q (M46.1 1261 0 0) M46) ∧ (x2 = 7 → Q (M46.1 1262 0 0) M46) ∧ (¬ x2 = 0 → ¬ x2 = 1 → ¬ x2 = 2 → ¬ x2 = 3 → ¬ x2 = 4 → ¬ x2 = 5 → ¬ x2 = 6 → ¬ x2 = 7 → pX11_spared M46 (fun r57 M58 => Q r57 M58))))) ∧ (¬ r42 = 0 → Q 0 M43)))))))))
set_option maxRecDepth 100000 in
set_option maxHeartbeats 400000 in
theorem kX11_early {l : Launch} {G : Gm} (hG : Gd G) (M : Mem) (x1 : Int32) (x2 : Int32) {Q : Int32 → Mem → Prop} (h : pX11_early M x1 x2 Q) : Cti l G yX11_early cX11_early 3 .int rmX11_early [.ref (ga G 11 0), .int x1, .int x2] M Q := by
  refine cti_of (own := RX11) (by decide +kernel) rfl (Nat.le_of_ble_eq_true rfl) hG (fun Γ Qf hl C E => ?_)
  subst hl
  show X Γ G Qf 3 0 0 0 [(0, .ref (ga G 11 0)), (1, .int x1), (2, .int x2)] [] M
  unfold pX11_early at h
  refine x_aload_n C dX11_early_0 0 rfl ?_
  refine x_iconst (v := 0) C dX11_early_1 rfl ?_
  refine pf_11_0 C q143 z11 dX11_early_2 ?_
  refine X_nameM (fun M1 eM1 => ?_)
  replace h := h M1 eM1
  refine x_aload_n C dX11_early_5 0 rfl ?_
  refine x_iload_n C dX11_early_6 1 rfl ?_
  refine x_iconst (v := 1) C dX11_early_7 rfl ?_
  refine x_bipush (v := 10) C dX11_early_8 rfl ?_
  refine x_scalli (rest := [.ref (ga G 11 0)]) C ss_X11_172 (kX11_in hG _ _ _ _ h) rfl rfl (Nat.le_of_ble_eq_true rfl) ⟨Nat.le_of_ble_eq_true rfl, Nat.le_of_ble_eq_true rfl⟩ rfl rfl ⟨Nat.le_of_ble_eq_true rfl, Nat.le_of_ble_eq_true rfl⟩ dX11_early_10 (fun r2 M3 h => ?_)
  refine x_if_eq (tgt := 26) C dX11_early_13 (by decide) (fun c4 => ?_) (fun c4 => ?_)
  · replace h := h.1 c4
    refine x_iconst (v := 1) C dX11_early_26 rfl ?_
    refine x_goto (tgt := 31) C dX11_early_27 (by decide) ?_
    refine x_iconst (v := 1) C dX11_early_31 rfl ?_
    refine x_iconst (v := 1) C dX11_early_32 rfl ?_
    refine x_calli (rest := []) C sv_X11_179 ob11 z11 (kX11_bad hG _ _ _ _ h) rfl rfl (Nat.le_of_ble_eq_true rfl) ⟨Nat.le_of_ble_eq_true rfl, Nat.le_of_ble_eq_true rfl⟩ rfl rfl ⟨Nat.le_of_ble_eq_true rfl, Nat.le_of_ble_eq_true rfl⟩ dX11_early_33 (fun r5 M6 h => ?_)
    refine x_if_eq (tgt := 41) C dX11_early_36 (by decide) (fun c7 => ?_) (fun c7 => ?_)
    · replace h := h.1 c7
      refine x_aload_n C dX11_early_41 0 rfl ?_
      refine x_iload_n C dX11_early_42 1 rfl ?_
      refine x_aload_n C dX11_early_43 0 rfl ?_
      refine gf_11_11 C q209 z11 dX11_early_44 ?_
      refine x_callv (rest := []) C sv_X11_445 ob11 z11 (kX11_goesEarly hG _ _ _ h) rfl rfl (Nat.le_of_ble_eq_true rfl) ⟨Nat.le_of_ble_eq_true rfl, Nat.le_of_ble_eq_true rfl⟩ rfl rfl ⟨Nat.le_of_ble_eq_true rfl, Nat.le_of_ble_eq_true rfl⟩ dX11_early_47 (fun M9 h => ?_)
      refine x_iload_n C dX11_early_50 2 rfl ?_
      by_cases c10 : x2 = 0
      · replace h := h.1 c10
        refine x_tabIn (v := 0) (tgt := 96) C dX11_early_51 c10 (by decide) (by decide) rfl (by decide) ?_
        refine x_aload_n C dX11_early_96 0 rfl ?_
        refine gf_11_56 C q203 z11 dX11_early_97 ?_
        exact x_iret C E h (Nat.le_of_ble_eq_true rfl) (Nat.le_of_ble_eq_true rfl) dX11_early_100
      by_cases c11 : x2 = 1
      · replace h := h.2.1 c11
        refine x_tabIn (v := 1) (tgt := 101) C dX11_early_51 c11 (by decide) (by decide) rfl (by decide) ?_
        refine x_aload_n C dX11_early_101 0 rfl ?_
        refine x_iload_n C dX11_early_102 1 rfl ?_
        refine x_calli (rest := []) C sv_X11_353 ob11 z11 (kX11_floor hG _ _ h) rfl rfl (Nat.le_of_ble_eq_true rfl) ⟨Nat.le_of_ble_eq_true rfl, Nat.le_of_ble_eq_true rfl⟩ rfl rfl ⟨Nat.le_of_ble_eq_true rfl, Nat.le_of_ble_eq_true rfl⟩ dX11_early_103 (fun r12 M13 h => ?_)
        exact x_iret C E h (Nat.le_of_ble_eq_true rfl) (Nat.le_of_ble_eq_true rfl) dX11_early_106
      by_cases c14 : x2 = 2
      · replace h := h.2.2.1 c14
        refine x_tabIn (v := 2) (tgt := 107) C dX11_early_51 c14 (by decide) (by decide) rfl (by decide) ?_
        refine x_aload_n C dX11_early_107 0 rfl ?_
        refine gf_11_57 C q207 z11 dX11_early_108 ?_
        exact x_iret C E h (Nat.le_of_ble_eq_true rfl) (Nat.le_of_ble_eq_true rfl) dX11_early_111
      by_cases c15 : x2 = 3
      · replace h := h.2.2.2.1 c15
        refine x_tabIn (v := 3) (tgt := 112) C dX11_early_51 c15 (by decide) (by decide) rfl (by decide) ?_
        refine x_aload_n C dX11_early_112 0 rfl ?_
        refine gf_11_58 C q199 z11 dX11_early_113 ?_
        exact x_iret C E h (Nat.le_of_ble_eq_true rfl) (Nat.le_of_ble_eq_true rfl) dX11_early_116
      by_cases c16 : x2 = 4
      · replace h := h.2.2.2.2.1 c16
        refine x_tabIn (v := 4) (tgt := 117) C dX11_early_51 c16 (by decide) (by decide) rfl (by decide) ?_
        refine x_aload_n C dX11_early_117 0 rfl ?_
        refine gf_11_59 C q200 z11 dX11_early_118 ?_
        exact x_iret C E h (Nat.le_of_ble_eq_true rfl) (Nat.le_of_ble_eq_true rfl) dX11_early_121
      by_cases c17 : x2 = 5
      · replace h := h.2.2.2.2.2.1 c17
        refine x_tabIn (v := 5) (tgt := 122) C dX11_early_51 c17 (by decide) (by decide) rfl (by decide) ?_
        refine x_aload_n C dX11_early_122 0 rfl ?_
        refine gf_11_60 C q198 z11 dX11_early_123 ?_
        exact x_iret C E h (Nat.le_of_ble_eq_true rfl) (Nat.le_of_ble_eq_true rfl) dX11_early_126
      by_cases c18 : x2 = 6
      · replace h := h.2.2.2.2.2.2.1 c18
        refine x_tabIn (v := 6) (tgt := 127) C dX11_early_51 c18 (by decide) (by decide) rfl (by decide) ?_
        refine x_aload_n C dX11_early_127 0 rfl ?_
        refine gf_11_61 C q208 z11 dX11_early_128 ?_
        exact x_iret C E h (Nat.le_of_ble_eq_true rfl) (Nat.le_of_ble_eq_true rfl) dX11_early_131
      by_cases c19 : x2 = 7
      · replace h := h.2.2.2.2.2.2.2.1 c19
        refine x_tabIn (v := 7) (tgt := 132) C dX11_early_51 c19 (by decide) (by decide) rfl (by decide) ?_
        refine x_aload_n C dX11_early_132 0 rfl ?_
        refine gf_11_62 C q206 z11 dX11_early_133 ?_
        exact x_iret C E h (Nat.le_of_ble_eq_true rfl) (Nat.le_of_ble_eq_true rfl) dX11_early_136
      replace h := h.2.2.2.2.2.2.2.2 c10 c11 c14 c15 c16 c17 c18 c19
      refine x_tabOut (tgt := 137) C dX11_early_51 (by have ac10 := lv_neT (a := 0) c10 rfl; have ac11 := lv_neT (a := 1) c11 rfl; have ac14 := lv_neT (a := 2) c14 rfl; have ac15 := lv_neT (a := 3) c15 rfl; have ac16 := lv_neT (a := 4) c16 rfl; have ac17 := lv_neT (a := 5) c17 rfl; have ac18 := lv_neT (a := 6) c18 rfl; have ac19 := lv_neT (a := 7) c19 rfl; omega) (by decide) ?_
      refine x_aload_n C dX11_early_137 0 rfl ?_
      refine x_calli (rest := []) C sv_X11_448 ob11 z11 (kX11_spared hG _ h) rfl rfl (Nat.le_of_ble_eq_true rfl) ⟨Nat.le_of_ble_eq_true rfl, Nat.le_of_ble_eq_true rfl⟩ rfl rfl ⟨Nat.le_of_ble_eq_true rfl, Nat.le_of_ble_eq_true rfl⟩ dX11_early_138 (fun r20 M21 h => ?_)
      exact x_iret C E h (Nat.le_of_ble_eq_true rfl) (Nat.le_of_ble_eq_true rfl) dX11_early_141
    · replace h := h.2 c7
      refine x_iconst (v := 0) C dX11_early_39 rfl ?_
      exact x_iret C E h (Nat.le_of_ble_eq_true rfl) (Nat.le_of_ble_eq_true rfl) dX11_early_40
  · replace h := h.2 c4
    refine x_iload_n C dX11_early_16 2 rfl ?_
    refine x_iconst (v := 0) C dX11_early_17 rfl ?_
    refine x_bipush (v := 8) C dX11_early_18 rfl ?_
    refine x_scalli (rest := [.ref (ga G 11 0)]) C ss_X11_172 (kX11_in hG _ _ _ _ h) rfl rfl (Nat.le_of_ble_eq_true rfl) ⟨Nat.le_of_ble_eq_true rfl, Nat.le_of_ble_eq_true rfl⟩ rfl rfl ⟨Nat.le_of_ble_eq_true rfl, Nat.le_of_ble_eq_true rfl⟩ dX11_early_20 (fun r22 M23 h => ?_)
    refine x_if_ne (tgt := 30) C dX11_early_23 (by decide) (fun c24 => ?_) (fun c24 => ?_)
    · replace h := h.1 c24
      refine x_iconst (v := 0) C dX11_early_30 rfl ?_
      refine x_iconst (v := 1) C dX11_early_31 rfl ?_
      refine x_iconst (v := 1) C dX11_early_32 rfl ?_
      refine x_calli (rest := []) C sv_X11_179 ob11 z11 (kX11_bad hG _ _ _ _ h) rfl rfl (Nat.le_of_ble_eq_true rfl) ⟨Nat.le_of_ble_eq_true rfl, Nat.le_of_ble_eq_true rfl⟩ rfl rfl ⟨Nat.le_of_ble_eq_true rfl, Nat.le_of_ble_eq_true rfl⟩ dX11_early_33 (fun r25 M26 h => ?_)
      refine x_if_eq (tgt := 41) C dX11_early_36 (by decide) (fun c27 => ?_) (fun c27 => ?_)
      · replace h := h.1 c27
        refine x_aload_n C dX11_early_41 0 rfl ?_
        refine x_iload_n C dX11_early_42 1 rfl ?_
        refine x_aload_n C dX11_early_43 0 rfl ?_
        refine gf_11_11 C q209 z11 dX11_early_44 ?_
        refine x_callv (rest := []) C sv_X11_445 ob11 z11 (kX11_goesEarly hG _ _ _ h) rfl rfl (Nat.le_of_ble_eq_true rfl) ⟨Nat.le_of_ble_eq_true rfl, Nat.le_of_ble_eq_true rfl⟩ rfl rfl ⟨Nat.le_of_ble_eq_true rfl, Nat.le_of_ble_eq_true rfl⟩ dX11_early_47 (fun M29 h => ?_)
        refine x_iload_n C dX11_early_50 2 rfl ?_
        by_cases c30 : x2 = 0
        · replace h := h.1 c30
          refine x_tabIn (v := 0) (tgt := 96) C dX11_early_51 c30 (by decide) (by decide) rfl (by decide) ?_
          refine x_aload_n C dX11_early_96 0 rfl ?_
          refine gf_11_56 C q203 z11 dX11_early_97 ?_
          exact x_iret C E h (Nat.le_of_ble_eq_true rfl) (Nat.le_of_ble_eq_true rfl) dX11_early_100
        by_cases c31 : x2 = 1
        · replace h := h.2.1 c31
          refine x_tabIn (v := 1) (tgt := 101) C dX11_early_51 c31 (by decide) (by decide) rfl (by decide) ?_
          refine x_aload_n C dX11_early_101 0 rfl ?_
          refine x_iload_n C dX11_early_102 1 rfl ?_
          refine x_calli (rest := []) C sv_X11_353 ob11 z11 (kX11_floor hG _ _ h) rfl rfl (Nat.le_of_ble_eq_true rfl) ⟨Nat.le_of_ble_eq_true rfl, Nat.le_of_ble_eq_true rfl⟩ rfl rfl ⟨Nat.le_of_ble_eq_true rfl, Nat.le_of_ble_eq_true rfl⟩ dX11_early_103 (fun r32 M33 h => ?_)
          exact x_iret C E h (Nat.le_of_ble_eq_true rfl) (Nat.le_of_ble_eq_true rfl) dX11_early_106
        by_cases c34 : x2 = 2
        · replace h := h.2.2.1 c34
          refine x_tabIn (v := 2) (tgt := 107) C dX11_early_51 c34 (by decide) (by decide) rfl (by decide) ?_
          refine x_aload_n C dX11_early_107 0 rfl ?_
          refine gf_11_57 C q207 z11 dX11_early_108 ?_
          exact x_iret C E h (Nat.le_of_ble_eq_true rfl) (Nat.le_of_ble_eq_true rfl) dX11_early_111
        by_cases c35 : x2 = 3
        · replace h := h.2.2.2.1 c35
          refine x_tabIn (v := 3) (tgt := 112) C dX11_early_51 c35 (by decide) (by decide) rfl (by decide) ?_
          refine x_aload_n C dX11_early_112 0 rfl ?_
          refine gf_11_58 C q199 z11 dX11_early_113 ?_
          exact x_iret C E h (Nat.le_of_ble_eq_true rfl) (Nat.le_of_ble_eq_true rfl) dX11_early_116
        by_cases c36 : x2 = 4
        · replace h := h.2.2.2.2.1 c36
          refine x_tabIn (v := 4) (tgt := 117) C dX11_early_51 c36 (by decide) (by decide) rfl (by decide) ?_
          refine x_aload_n C dX11_early_117 0 rfl ?_
          refine gf_11_59 C q200 z11 dX11_early_118 ?_
          exact x_iret C E h (Nat.le_of_ble_eq_true rfl) (Nat.le_of_ble_eq_true rfl) dX11_early_121
        by_cases c37 : x2 = 5
        · replace h := h.2.2.2.2.2.1 c37
          refine x_tabIn (v := 5) (tgt := 122) C dX11_early_51 c37 (by decide) (by decide) rfl (by decide) ?_
          refine x_aload_n C dX11_early_122 0 rfl ?_
          refine gf_11_60 C q198 z11 dX11_early_123 ?_
          exact x_iret C E h (Nat.le_of_ble_eq_true rfl) (Nat.le_of_ble_eq_true rfl) dX11_early_126
        by_cases c38 : x2 = 6
        · replace h := h.2.2.2.2.2.2.1 c38
          refine x_tabIn (v := 6) (tgt := 127) C dX11_early_51 c38 (by decide) (by decide) rfl (by decide) ?_
          refine x_aload_n C dX11_early_127 0 rfl ?_
          refine gf_11_61 C q208 z11 dX11_early_128 ?_
          exact x_iret C E h (Nat.le_of_ble_eq_true rfl) (Nat.le_of_ble_eq_true rfl) dX11_early_131
        by_cases c39 : x2 = 7
        · replace h := h.2.2.2.2.2.2.2.1 c39
          refine x_tabIn (v := 7) (tgt := 132) C dX11_early_51 c39 (by decide) (by decide) rfl (by decide) ?_
          refine x_aload_n C dX11_early_132 0 rfl ?_
          refine gf_11_62 C q206 z11 dX11_early_133 ?_
          exact x_iret C E h (Nat.le_of_ble_eq_true rfl) (Nat.le_of_ble_eq_true rfl) dX11_early_136
        replace h := h.2.2.2.2.2.2.2.2 c30 c31 c34 c35 c36 c37 c38 c39
        refine x_tabOut (tgt := 137) C dX11_early_51 (by have ac30 := lv_neT (a := 0) c30 rfl; have ac31 := lv_neT (a := 1) c31 rfl; have ac34 := lv_neT (a := 2) c34 rfl; have ac35 := lv_neT (a := 3) c35 rfl; have ac36 := lv_neT (a := 4) c36 rfl; have ac37 := lv_neT (a := 5) c37 rfl; have ac38 := lv_neT (a := 6) c38 rfl; have ac39 := lv_neT (a := 7) c39 rfl; omega) (by decide) ?_
        refine x_aload_n C dX11_early_137 0 rfl ?_
        refine x_calli (rest := []) C sv_X11_448 ob11 z11 (kX11_spared hG _ h) rfl rfl (Nat.le_of_ble_eq_true rfl) ⟨Nat.le_of_ble_eq_true rfl, Nat.le_of_ble_eq_true rfl⟩ rfl rfl ⟨Nat.le_of_ble_eq_true rfl, Nat.le_of_ble_eq_true rfl⟩ dX11_early_138 (fun r40 M41 h => ?_)
        exact x_iret C E h (Nat.le_of_ble_eq_true rfl) (Nat.le_of_ble_eq_true rfl) dX11_early_141
      · replace h := h.2 c27
        refine x_iconst (v := 0) C dX11_early_39 rfl ?_
        exact x_iret C E h (Nat.le_of_ble_eq_true rfl) (Nat.le_of_ble_eq_true rfl) dX11_early_40
    · replace h := h.2 c24
      refine x_iconst (v := 1) C dX11_early_26 rfl ?_
      refine x_goto (tgt := 31) C dX11_early_27 (by decide) ?_
      refine x_iconst (v := 1) C dX11_early_31 rfl ?_
      refine x_iconst (v := 1) C dX11_early_32 rfl ?_
      refine x_calli (rest := []) C sv_X11_179 ob11 z11 (kX11_bad hG _ _ _ _ h) rfl rfl (Nat.le_of_ble_eq_true rfl) ⟨Nat.le_of_ble_eq_true rfl, Nat.le_of_ble_eq_true rfl⟩ rfl rfl ⟨Nat.le_of_ble_eq_true rfl, Nat.le_of_ble_eq_true rfl⟩ dX11_early_33 (fun r42 M43 h => ?_)
      refine x_if_eq (tgt := 41) C dX11_early_36 (by decide) (fun c44 => ?_) (fun c44 => ?_)
      · replace h := h.1 c44
        refine x_aload_n C dX11_early_41 0 rfl ?_
        refine x_iload_n C dX11_early_42 1 rfl ?_
        refine x_aload_n C dX11_early_43 0 rfl ?_
        refine gf_11_11 C q209 z11 dX11_early_44 ?_
        refine x_callv (rest := []) C sv_X11_445 ob11 z11 (kX11_goesEarly hG _ _ _ h) rfl rfl (Nat.le_of_ble_eq_true rfl) ⟨Nat.le_of_ble_eq_true rfl, Nat.le_of_ble_eq_true rfl⟩ rfl rfl ⟨Nat.le_of_ble_eq_true rfl, Nat.le_of_ble_eq_true rfl⟩ dX11_early_47 (fun M46 h => ?_)
        refine x_iload_n C dX11_early_50 2 rfl ?_
        by_cases c47 : x2 = 0
        · replace h := h.1 c47
          refine x_tabIn (v := 0) (tgt := 96) C dX11_early_51 c47 (by decide) (by decide) rfl (by decide) ?_
          refine x_aload_n C dX11_early_96 0 rfl ?_
          refine gf_11_56 C q203 z11 dX11_early_97 ?_
          exact x_iret C E h (Nat.le_of_ble_eq_true rfl) (Nat.le_of_ble_eq_true rfl) dX11_early_100
        by_cases c48 : x2 = 1
        · replace h := h.2.1 c48
          refine x_tabIn (v := 1) (tgt := 101) C dX11_early_51 c48 (by decide) (by decide) rfl (by decide) ?_
          refine x_aload_n C dX11_early_101 0 rfl ?_
          refine x_iload_n C dX11_early_102 1 rfl ?_
          refine x_calli (rest := []) C sv_X11_353 ob11 z11 (kX11_floor hG _ _ h) rfl rfl (Nat.le_of_ble_eq_true rfl) ⟨Nat.le_of_ble_eq_true rfl, Nat.le_of_ble_eq_true rfl⟩ rfl rfl ⟨Nat.le_of_ble_eq_true rfl, Nat.le_of_ble_eq_true rfl⟩ dX11_early_103 (fun r49 M50 h => ?_)
          exact x_iret C E h (Nat.le_of_ble_eq_true rfl) (Nat.le_of_ble_eq_true rfl) dX11_early_106
        by_cases c51 : x2 = 2
        · replace h := h.2.2.1 c51
          refine x_tabIn (v := 2) (tgt := 107) C dX11_early_51 c51 (by decide) (by decide) rfl (by decide) ?_
          refine x_aload_n C dX11_early_107 0 rfl ?_
          refine gf_11_57 C q207 z11 dX11_early_108 ?_
          exact x_iret C E h (Nat.le_of_ble_eq_true rfl) (Nat.le_of_ble_eq_true rfl) dX11_early_111
        by_cases c52 : x2 = 3
        · replace h := h.2.2.2.1 c52
          refine x_tabIn (v := 3) (tgt := 112) C dX11_early_51 c52 (by decide) (by decide) rfl (by decide) ?_
          refine x_aload_n C dX11_early_112 0 rfl ?_
          refine gf_11_58 C q199 z11 dX11_early_113 ?_
          exact x_iret C E h (Nat.le_of_ble_eq_true rfl) (Nat.le_of_ble_eq_true rfl) dX11_early_116
        by_cases c53 : x2 = 4
        · replace h := h.2.2.2.2.1 c53
          refine x_tabIn (v := 4) (tgt := 117) C dX11_early_51 c53 (by decide) (by decide) rfl (by decide) ?_
          refine x_aload_n C dX11_early_117 0 rfl ?_
          refine gf_11_59 C q200 z11 dX11_early_118 ?_
          exact x_iret C E h (Nat.le_of_ble_eq_true rfl) (Nat.le_of_ble_eq_true rfl) dX11_early_121
        by_cases c54 : x2 = 5
        · replace h := h.2.2.2.2.2.1 c54
          refine x_tabIn (v := 5) (tgt := 122) C dX11_early_51 c54 (by decide) (by decide) rfl (by decide) ?_
          refine x_aload_n C dX11_early_122 0 rfl ?_
          refine gf_11_60 C q198 z11 dX11_early_123 ?_
          exact x_iret C E h (Nat.le_of_ble_eq_true rfl) (Nat.le_of_ble_eq_true rfl) dX11_early_126
        by_cases c55 : x2 = 6
        · replace h := h.2.2.2.2.2.2.1 c55
          refine x_tabIn (v := 6) (tgt := 127) C dX11_early_51 c55 (by decide) (by decide) rfl (by decide) ?_
          refine x_aload_n C dX11_early_127 0 rfl ?_
          refine gf_11_61 C q208 z11 dX11_early_128 ?_
          exact x_iret C E h (Nat.le_of_ble_eq_true rfl) (Nat.le_of_ble_eq_true rfl) dX11_early_131
        by_cases c56 : x2 = 7
        · replace h := h.2.2.2.2.2.2.2.1 c56
          refine x_tabIn (v := 7) (tgt := 132) C dX11_early_51 c56 (by decide) (by decide) rfl (by decide) ?_
          refine x_aload_n C dX11_early_132 0 rfl ?_
          refine gf_11_62 C q206 z11 dX11_early_133 ?_
          exact x_iret C E h (Nat.le_of_ble_eq_true rfl) (Nat.le_of_ble_eq_true rfl) dX11_early_136
        replace h := h.2.2.2.2.2.2.2.2 c47 c48 c51 c52 c53 c54 c55 c56
        refine x_tabOut (tgt := 137) C dX11_early_51 (by have ac47 := lv_neT (a := 0) c47 rfl; have ac48 := lv_neT (a := 1) c48 rfl; have ac51 := lv_neT (a := 2) c51 rfl; have ac52 := lv_neT (a := 3) c52 rfl; have ac53 := lv_neT (a := 4) c53 rfl; have ac54 := lv_neT (a := 5) c54 rfl; have ac55 := lv_neT (a := 6) c55 rfl; have ac56 := lv_neT (a := 7) c56 rfl; omega) (by decide) ?_
        refine x_aload_n C dX11_early_137 0 rfl ?_
        refine x_calli (rest := []) C sv_X11_448 ob11 z11 (kX11_spared hG _ h) rfl rfl (Nat.le_of_ble_eq_true rfl) ⟨Nat.le_of_ble_eq_true rfl, Nat.le_of_ble_eq_true rfl⟩ rfl rfl ⟨Nat.le_of_ble_eq_true rfl, Nat.le_of_ble_eq_true rfl⟩ dX11_early_138 (fun r57 M58 h => ?_)
        exact x_iret C E h (Nat.le_of_ble_eq_true rfl) (Nat.le_of_ble_eq_true rfl) dX11_early_141
      · replace h := h.2 c44
        refine x_iconst (v := 0) C dX11_early_39 rfl ?_
        exact x_iret C E h (Nat.le_of_ble_eq_true rfl) (Nat.le_of_ble_eq_true rfl) dX11_early_40
def rmX11_best : Room := { frames := 9, cells := 0, slots := 0, locals := 210 }
def pX11_best (M : Mem) (x1 : Int32) (x2 : Int32) (Q : Int32 → Mem → Prop) : Prop :=
  ∀ M1 : Mem, M1 = up1 M 1200 0 0 0 → pX11_in M1 x1 1 10 (fun r2 M3 => ((¬ r2 = 0 → pX11_bad M3 0 1 1 (fun r5 M6 => ((r5 = 0 → pX11_goesEarly M6 x1 (M6.1 1211 0 0) (fun M9 => pX11_in M9 x2 0 ((M9.1 1256 0 0) - 1) (fun r10 M11 => ((r10 = 0 → Q (-1) M11) ∧ (¬ r10 = 0 → vp_in x2 11 ∧ Q (M11.1 1254 0 (tn x2)) M11))))) ∧ (¬ r5 = 0 → Q 0 M6)))) ∧ (r2 = 0 → pX11_bad M3 1 1 1 (fun r14 M15 => ((r14 = 0 → pX11_goesEarly M15 x1 (M15.1 1211 0 0) (fun M18 => pX11_in M18 x2 0 ((M18.1 1256 0 0) - 1) (fun r19 M20 => ((r19 = 0 → Q (-1) M20) ∧ (¬ r19 = 0 → vp_in x2 11 ∧ Q (M20.1 1254 0 (tn x2)) M20))))) ∧ (¬ r14 = 0 → Q 0 M15))))))
set_option maxRecDepth 100000 in
set_option maxHeartbeats 400000 in
theorem kX11_best {l : Launch} {G : Gm} (hG : Gd G) (M : Mem) (x1 : Int32) (x2 : Int32) {Q : Int32 → Mem → Prop} (h : pX11_best M x1 x2 Q) : Cti l G yX11_best cX11_best 3 .int rmX11_best [.ref (ga G 11 0), .int x1, .int x2] M Q := by
  refine cti_of (own := RX11) (by decide +kernel) rfl (Nat.le_of_ble_eq_true rfl) hG (fun Γ Qf hl C E => ?_)
  subst hl
  show X Γ G Qf 3 0 0 0 [(0, .ref (ga G 11 0)), (1, .int x1), (2, .int x2)] [] M
  unfold pX11_best at h
  refine x_aload_n C dX11_best_0 0 rfl ?_
  refine x_iconst (v := 0) C dX11_best_1 rfl ?_
  refine pf_11_0 C q143 z11 dX11_best_2 ?_
  refine X_nameM (fun M1 eM1 => ?_)
  replace h := h M1 eM1
  refine x_aload_n C dX11_best_5 0 rfl ?_
  refine x_iload_n C dX11_best_6 1 rfl ?_
  refine x_iconst (v := 1) C dX11_best_7 rfl ?_
  refine x_bipush (v := 10) C dX11_best_8 rfl ?_
  refine x_scalli (rest := [.ref (ga G 11 0)]) C ss_X11_172 (kX11_in hG _ _ _ _ h) rfl rfl (Nat.le_of_ble_eq_true rfl) ⟨Nat.le_of_ble_eq_true rfl, Nat.le_of_ble_eq_true rfl⟩ rfl rfl ⟨Nat.le_of_ble_eq_true rfl, Nat.le_of_ble_eq_true rfl⟩ dX11_best_10 (fun r2 M3 h => ?_)
  refine x_if_ne (tgt := 20) C dX11_best_13 (by decide) (fun c4 => ?_) (fun c4 => ?_)
  · replace h := h.1 c4
    refine x_iconst (v := 0) C dX11_best_20 rfl ?_
    refine x_iconst (v := 1) C dX11_best_21 rfl ?_
    refine x_iconst (v := 1) C dX11_best_22 rfl ?_
    refine x_calli (rest := []) C sv_X11_179 ob11 z11 (kX11_bad hG _ _ _ _ h) rfl rfl (Nat.le_of_ble_eq_true rfl) ⟨Nat.le_of_ble_eq_true rfl, Nat.le_of_ble_eq_true rfl⟩ rfl rfl ⟨Nat.le_of_ble_eq_true rfl, Nat.le_of_ble_eq_true rfl⟩ dX11_best_23 (fun r5 M6 h => ?_)
    refine x_if_eq (tgt := 31) C dX11_best_26 (by decide) (fun c7 => ?_) (fun c7 => ?_)
    · replace h := h.1 c7
      refine x_aload_n C dX11_best_31 0 rfl ?_
      refine x_iload_n C dX11_best_32 1 rfl ?_
      refine x_aload_n C dX11_best_33 0 rfl ?_
      refine gf_11_11 C q209 z11 dX11_best_34 ?_
      refine x_callv (rest := []) C sv_X11_445 ob11 z11 (kX11_goesEarly hG _ _ _ h) rfl rfl (Nat.le_of_ble_eq_true rfl) ⟨Nat.le_of_ble_eq_true rfl, Nat.le_of_ble_eq_true rfl⟩ rfl rfl ⟨Nat.le_of_ble_eq_true rfl, Nat.le_of_ble_eq_true rfl⟩ dX11_best_37 (fun M9 h => ?_)
      refine x_iload_n C dX11_best_40 2 rfl ?_
      refine x_iconst (v := 0) C dX11_best_41 rfl ?_
      refine x_aload_n C dX11_best_42 0 rfl ?_
      refine gf_11_56 C q203 z11 dX11_best_43 ?_
      refine x_iconst (v := 1) C dX11_best_46 rfl ?_
      refine x_isub C dX11_best_47 ?_
      refine x_scalli (rest := []) C ss_X11_172 (kX11_in hG _ _ _ _ h) rfl rfl (Nat.le_of_ble_eq_true rfl) ⟨Nat.le_of_ble_eq_true rfl, Nat.le_of_ble_eq_true rfl⟩ rfl rfl ⟨Nat.le_of_ble_eq_true rfl, Nat.le_of_ble_eq_true rfl⟩ dX11_best_48 (fun r10 M11 h => ?_)
      refine x_if_eq (tgt := 63) C dX11_best_51 (by decide) (fun c12 => ?_) (fun c12 => ?_)
      · replace h := h.1 c12
        refine x_iconst (v := (-1)) C dX11_best_63 rfl ?_
        exact x_iret C E h (Nat.le_of_ble_eq_true rfl) (Nat.le_of_ble_eq_true rfl) dX11_best_64
      · replace h := h.2 c12
        refine x_aload_n C dX11_best_54 0 rfl ?_
        refine gf_11_54 C q205 z11 dX11_best_55 ?_
        refine x_iload_n C dX11_best_58 2 rfl ?_
        obtain ⟨f13, h⟩ := h
        refine al_1254 C z1254 f13 dX11_best_59 ?_
        refine x_goto (tgt := 64) C dX11_best_60 (by decide) ?_
        exact x_iret C E h (Nat.le_of_ble_eq_true rfl) (Nat.le_of_ble_eq_true rfl) dX11_best_64
    · replace h := h.2 c7
      refine x_iconst (v := 0) C dX11_best_29 rfl ?_
      exact x_iret C E h (Nat.le_of_ble_eq_true rfl) (Nat.le_of_ble_eq_true rfl) dX11_best_30
  · replace h := h.2 c4
    refine x_iconst (v := 1) C dX11_best_16 rfl ?_
    refine x_goto (tgt := 21) C dX11_best_17 (by decide) ?_
    refine x_iconst (v := 1) C dX11_best_21 rfl ?_
    refine x_iconst (v := 1) C dX11_best_22 rfl ?_
    refine x_calli (rest := []) C sv_X11_179 ob11 z11 (kX11_bad hG _ _ _ _ h) rfl rfl (Nat.le_of_ble_eq_true rfl) ⟨Nat.le_of_ble_eq_true rfl, Nat.le_of_ble_eq_true rfl⟩ rfl rfl ⟨Nat.le_of_ble_eq_true rfl, Nat.le_of_ble_eq_true rfl⟩ dX11_best_23 (fun r14 M15 h => ?_)
    refine x_if_eq (tgt := 31) C dX11_best_26 (by decide) (fun c16 => ?_) (fun c16 => ?_)
    · replace h := h.1 c16
      refine x_aload_n C dX11_best_31 0 rfl ?_
      refine x_iload_n C dX11_best_32 1 rfl ?_
      refine x_aload_n C dX11_best_33 0 rfl ?_
      refine gf_11_11 C q209 z11 dX11_best_34 ?_
      refine x_callv (rest := []) C sv_X11_445 ob11 z11 (kX11_goesEarly hG _ _ _ h) rfl rfl (Nat.le_of_ble_eq_true rfl) ⟨Nat.le_of_ble_eq_true rfl, Nat.le_of_ble_eq_true rfl⟩ rfl rfl ⟨Nat.le_of_ble_eq_true rfl, Nat.le_of_ble_eq_true rfl⟩ dX11_best_37 (fun M18 h => ?_)
      refine x_iload_n C dX11_best_40 2 rfl ?_
      refine x_iconst (v := 0) C dX11_best_41 rfl ?_
      refine x_aload_n C dX11_best_42 0 rfl ?_
      refine gf_11_56 C q203 z11 dX11_best_43 ?_
      refine x_iconst (v := 1) C dX11_best_46 rfl ?_
      refine x_isub C dX11_best_47 ?_
      refine x_scalli (rest := []) C ss_X11_172 (kX11_in hG _ _ _ _ h) rfl rfl (Nat.le_of_ble_eq_true rfl) ⟨Nat.le_of_ble_eq_true rfl, Nat.le_of_ble_eq_true rfl⟩ rfl rfl ⟨Nat.le_of_ble_eq_true rfl, Nat.le_of_ble_eq_true rfl⟩ dX11_best_48 (fun r19 M20 h => ?_)
      refine x_if_eq (tgt := 63) C dX11_best_51 (by decide) (fun c21 => ?_) (fun c21 => ?_)
      · replace h := h.1 c21
        refine x_iconst (v := (-1)) C dX11_best_63 rfl ?_
        exact x_iret C E h (Nat.le_of_ble_eq_true rfl) (Nat.le_of_ble_eq_true rfl) dX11_best_64
      · replace h := h.2 c21
        refine x_aload_n C dX11_best_54 0 rfl ?_
        refine gf_11_54 C q205 z11 dX11_best_55 ?_
        refine x_iload_n C dX11_best_58 2 rfl ?_
        obtain ⟨f22, h⟩ := h
        refine al_1254 C z1254 f22 dX11_best_59 ?_
        refine x_goto (tgt := 64) C dX11_best_60 (by decide) ?_
        exact x_iret C E h (Nat.le_of_ble_eq_true rfl) (Nat.le_of_ble_eq_true rfl) dX11_best_64
    · replace h := h.2 c16
      refine x_iconst (v := 0) C dX11_best_29 rfl ?_
      exact x_iret C E h (Nat.le_of_ble_eq_true rfl) (Nat.le_of_ble_eq_true rfl) dX11_best_30
def rmX11_opened : Room := { frames := 9, cells := 0, slots := 0, locals := 210 }
def bX11_opened_45 (x1 : Int32) (x2 : Int32) (x3 : Int32) (Q : Int32 → Mem → Prop) (M : Mem) (y4 : Int32) : Prop :=
  ((¬ y4 = 0 → pX11_bad M 0 1 0 (fun r12 M13 => ((¬ r12 = 0 → Q 0 M13) ∧ (r12 = 0 → pX11_in M13 x1 1 10 (fun r15 M16 => ((¬ r15 = 0 → pX11_bad M16 0 2 1 (fun r18 M19 => ((r18 = 0 → pX11_goesEarly M19 x1 (M19.1 1211 0 0) (fun M22 => vp_in x2 24 ∧ vp_in x3 32 ∧ Q (M22.1 6245 (tn x2) (tn x3)) M22)) ∧ (¬ r18 = 0 → Q 0 M19)))) ∧ (r15 = 0 → pX11_bad M16 1 2 1 (fun r25 M26 => ((r25 = 0 → pX11_goesEarly M26 x1 (M26.1 1211 0 0) (fun M29 => vp_in x2 24 ∧ vp_in x3 32 ∧ Q (M29.1 6245 (tn x2) (tn x3)) M29)) ∧ (¬ r25 = 0 → Q 0 M26)))))))))) ∧ (y4 = 0 → pX11_bad M 1 1 0 (fun r32 M33 => ((¬ r32 = 0 → Q 0 M33) ∧ (r32 = 0 → pX11_in M33 x1 1 10 (fun r35 M36 => ((¬ r35 = 0 → pX11_bad M36 0 2 1 (fun r38 M39 => ((r38 = 0 → pX11_goesEarly M39 x1 (M39.1 1211 0 0) (fun M42 => vp_in x2 24 ∧ vp_in x3 32 ∧ Q (M42.1 6245 (tn x2) (tn x3)) M42)) ∧ (¬ r38 = 0 → Q 0 M39)))) ∧ (r35 = 0 → pX11_bad M36 1 2 1 (fun r45 M46 => ((r45 = 0 → pX11_goesEarly M46 x1 (M46.1 1211 0 0) (fun M49 => vp_in x2 24 ∧ vp_in x3 32 ∧ Q (M49.1 6245 (tn x2) (tn x3)) M49)) ∧ (¬ r45 = 0 → Q 0 M46)))))))))))
def bX11_opened_42 (x1 : Int32) (x2 : Int32) (x3 : Int32) (Q : Int32 → Mem → Prop) (M : Mem) : Prop :=
  bX11_opened_45 x1 x2 x3 Q M 0
def pX11_opened (M : Mem) (x1 : Int32) (x2 : Int32) (x3 : Int32) (Q : Int32 → Mem → Prop) : Prop :=
  ∀ M1 : Mem, M1 = up1 M 1200 0 0 0 → pX11_in M1 x2 0 ((M1.1 1218 0 0) - 1) (fun r2 M3 => ((r2 = 0 → bX11_opened_42 x1 x2 x3 Q M3) ∧ (¬ r2 = 0 → pX11_less M3 x2 23 (fun r5 M6 => vp_in r5 24 ∧ pX11_isBlock M6 (M6.1 1225 0 (tn r5)) x3 (fun r8 M9 => ((r8 = 0 → bX11_opened_42 x1 x2 x3 Q M9) ∧ (¬ r8 = 0 → bX11_opened_45 x1 x2 x3 Q M9 1)))))))
set_option maxRecDepth 100000 in
set_option maxHeartbeats 400000 in
theorem wX11_opened_45 {Γ : Gam} {G : Gm} {Qf : State → Prop} (hG : Gd G) (C : Cx Γ G cX11_opened 5 RX11 (some .int) rmX11_opened) {x1 : Int32} {x2 : Int32} {x3 : Int32} {Q : Int32 → Mem → Prop} (E : EndI Γ G Qf rmX11_opened Q) (M : Mem) (y4 : Int32) (h : bX11_opened_45 x1 x2 x3 Q M y4) : X Γ G Qf 5 0 0 45 [(0, .ref (ga G 11 0)), (1, .int x1), (2, .int x2), (3, .int x3), (4, .int y4)] [] M := by
  unfold bX11_opened_45 at h
  refine x_aload_n C dX11_opened_45 0 rfl ?_
  refine x_iload C dX11_opened_46 4 rfl ?_
  refine x_if_ne (tgt := 55) C dX11_opened_48 (by decide) (fun c11 => ?_) (fun c11 => ?_)
  · replace h := h.1 c11
    refine x_iconst (v := 0) C dX11_opened_55 rfl ?_
    refine x_iconst (v := 1) C dX11_opened_56 rfl ?_
    refine x_iconst (v := 0) C dX11_opened_57 rfl ?_
    refine x_calli (rest := []) C sv_X11_179 ob11 z11 (kX11_bad hG _ _ _ _ h) rfl rfl (Nat.le_of_ble_eq_true rfl) ⟨Nat.le_of_ble_eq_true rfl, Nat.le_of_ble_eq_true rfl⟩ rfl rfl ⟨Nat.le_of_ble_eq_true rfl, Nat.le_of_ble_eq_true rfl⟩ dX11_opened_58 (fun r12 M13 h => ?_)
    refine x_if_ne (tgt := 88) C dX11_opened_61 (by decide) (fun c14 => ?_) (fun c14 => ?_)
    · replace h := h.1 c14
      refine x_iconst (v := 0) C dX11_opened_88 rfl ?_
      exact x_iret C E h (Nat.le_of_ble_eq_true rfl) (Nat.le_of_ble_eq_true rfl) dX11_opened_89
    · replace h := h.2 c14
      refine x_aload_n C dX11_opened_64 0 rfl ?_
      refine x_iload_n C dX11_opened_65 1 rfl ?_
      refine x_iconst (v := 1) C dX11_opened_66 rfl ?_
      refine x_bipush (v := 10) C dX11_opened_67 rfl ?_
      refine x_scalli (rest := [.ref (ga G 11 0)]) C ss_X11_172 (kX11_in hG _ _ _ _ h) rfl rfl (Nat.le_of_ble_eq_true rfl) ⟨Nat.le_of_ble_eq_true rfl, Nat.le_of_ble_eq_true rfl⟩ rfl rfl ⟨Nat.le_of_ble_eq_true rfl, Nat.le_of_ble_eq_true rfl⟩ dX11_opened_69 (fun r15 M16 h => ?_)
      refine x_if_ne (tgt := 79) C dX11_opened_72 (by decide) (fun c17 => ?_) (fun c17 => ?_)
      · replace h := h.1 c17
        refine x_iconst (v := 0) C dX11_opened_79 rfl ?_
        refine x_iconst (v := 2) C dX11_opened_80 rfl ?_
        refine x_iconst (v := 1) C dX11_opened_81 rfl ?_
        refine x_calli (rest := []) C sv_X11_179 ob11 z11 (kX11_bad hG _ _ _ _ h) rfl rfl (Nat.le_of_ble_eq_true rfl) ⟨Nat.le_of_ble_eq_true rfl, Nat.le_of_ble_eq_true rfl⟩ rfl rfl ⟨Nat.le_of_ble_eq_true rfl, Nat.le_of_ble_eq_true rfl⟩ dX11_opened_82 (fun r18 M19 h => ?_)
        refine x_if_eq (tgt := 90) C dX11_opened_85 (by decide) (fun c20 => ?_) (fun c20 => ?_)
        · replace h := h.1 c20
          refine x_aload_n C dX11_opened_90 0 rfl ?_
          refine x_iload_n C dX11_opened_91 1 rfl ?_
          refine x_aload_n C dX11_opened_92 0 rfl ?_
          refine gf_11_11 C q209 z11 dX11_opened_93 ?_
          refine x_callv (rest := []) C sv_X11_445 ob11 z11 (kX11_goesEarly hG _ _ _ h) rfl rfl (Nat.le_of_ble_eq_true rfl) ⟨Nat.le_of_ble_eq_true rfl, Nat.le_of_ble_eq_true rfl⟩ rfl rfl ⟨Nat.le_of_ble_eq_true rfl, Nat.le_of_ble_eq_true rfl⟩ dX11_opened_96 (fun M22 h => ?_)
          refine x_aload_n C dX11_opened_99 0 rfl ?_
          refine gf_11_45 C q196 z11 dX11_opened_100 ?_
          refine x_iload_n C dX11_opened_103 2 rfl ?_
          obtain ⟨f23, h⟩ := h
          refine al_1245 C z1245 f23 dX11_opened_104 ?_
          refine x_iload_n C dX11_opened_105 3 rfl ?_
          obtain ⟨f24, h⟩ := h
          refine al_6245 C (vp_lt f23) f24 dX11_opened_106 ?_
          exact x_iret C E h (Nat.le_of_ble_eq_true rfl) (Nat.le_of_ble_eq_true rfl) dX11_opened_107
        · replace h := h.2 c20
          refine x_iconst (v := 0) C dX11_opened_88 rfl ?_
          exact x_iret C E h (Nat.le_of_ble_eq_true rfl) (Nat.le_of_ble_eq_true rfl) dX11_opened_89
      · replace h := h.2 c17
        refine x_iconst (v := 1) C dX11_opened_75 rfl ?_
        refine x_goto (tgt := 80) C dX11_opened_76 (by decide) ?_
        refine x_iconst (v := 2) C dX11_opened_80 rfl ?_
        refine x_iconst (v := 1) C dX11_opened_81 rfl ?_
        refine x_calli (rest := []) C sv_X11_179 ob11 z11 (kX11_bad hG _ _ _ _ h) rfl rfl (Nat.le_of_ble_eq_true rfl) ⟨Nat.le_of_ble_eq_true rfl, Nat.le_of_ble_eq_true rfl⟩ rfl rfl ⟨Nat.le_of_ble_eq_true rfl, Nat.le_of_ble_eq_true rfl⟩ dX11_opened_82 (fun r25 M26 h => ?_)
        refine x_if_eq (tgt := 90) C dX11_opened_85 (by decide) (fun c27 => ?_) (fun c27 => ?_)
        · replace h := h.1 c27
          refine x_aload_n C dX11_opened_90 0 rfl ?_
          refine x_iload_n C dX11_opened_91 1 rfl ?_
          refine x_aload_n C dX11_opened_92 0 rfl ?_
          refine gf_11_11 C q209 z11 dX11_opened_93 ?_
          refine x_callv (rest := []) C sv_X11_445 ob11 z11 (kX11_goesEarly hG _ _ _ h) rfl rfl (Nat.le_of_ble_eq_true rfl) ⟨Nat.le_of_ble_eq_true rfl, Nat.le_of_ble_eq_true rfl⟩ rfl rfl ⟨Nat.le_of_ble_eq_true rfl, Nat.le_of_ble_eq_true rfl⟩ dX11_opened_96 (fun M29 h => ?_)
          refine x_aload_n C dX11_opened_99 0 rfl ?_
          refine gf_11_45 C q196 z11 dX11_opened_100 ?_
          refine x_iload_n C dX11_opened_103 2 rfl ?_
          obtain ⟨f30, h⟩ := h
          refine al_1245 C z1245 f30 dX11_opened_104 ?_
          refine x_iload_n C dX11_opened_105 3 rfl ?_
          obtain ⟨f31, h⟩ := h
          refine al_6245 C (vp_lt f30) f31 dX11_opened_106 ?_
          exact x_iret C E h (Nat.le_of_ble_eq_true rfl) (Nat.le_of_ble_eq_true rfl) dX11_opened_107
        · replace h := h.2 c27
          refine x_iconst (v := 0) C dX11_opened_88 rfl ?_
          exact x_iret C E h (Nat.le_of_ble_eq_true rfl) (Nat.le_of_ble_eq_true rfl) dX11_opened_89
  · replace h := h.2 c11
    refine x_iconst (v := 1) C dX11_opened_51 rfl ?_
    refine x_goto (tgt := 56) C dX11_opened_52 (by decide) ?_
    refine x_iconst (v := 1) C dX11_opened_56 rfl ?_
    refine x_iconst (v := 0) C dX11_opened_57 rfl ?_
    refine x_calli (rest := []) C sv_X11_179 ob11 z11 (kX11_bad hG _ _ _ _ h) rfl rfl (Nat.le_of_ble_eq_true rfl) ⟨Nat.le_of_ble_eq_true rfl, Nat.le_of_ble_eq_true rfl⟩ rfl rfl ⟨Nat.le_of_ble_eq_true rfl, Nat.le_of_ble_eq_true rfl⟩ dX11_opened_58 (fun r32 M33 h => ?_)
    refine x_if_ne (tgt := 88) C dX11_opened_61 (by decide) (fun c34 => ?_) (fun c34 => ?_)
    · replace h := h.1 c34
      refine x_iconst (v := 0) C dX11_opened_88 rfl ?_
      exact x_iret C E h (Nat.le_of_ble_eq_true rfl) (Nat.le_of_ble_eq_true rfl) dX11_opened_89
    · replace h := h.2 c34
      refine x_aload_n C dX11_opened_64 0 rfl ?_
      refine x_iload_n C dX11_opened_65 1 rfl ?_
      refine x_iconst (v := 1) C dX11_opened_66 rfl ?_
      refine x_bipush (v := 10) C dX11_opened_67 rfl ?_
      refine x_scalli (rest := [.ref (ga G 11 0)]) C ss_X11_172 (kX11_in hG _ _ _ _ h) rfl rfl (Nat.le_of_ble_eq_true rfl) ⟨Nat.le_of_ble_eq_true rfl, Nat.le_of_ble_eq_true rfl⟩ rfl rfl ⟨Nat.le_of_ble_eq_true rfl, Nat.le_of_ble_eq_true rfl⟩ dX11_opened_69 (fun r35 M36 h => ?_)
      refine x_if_ne (tgt := 79) C dX11_opened_72 (by decide) (fun c37 => ?_) (fun c37 => ?_)
      · replace h := h.1 c37
        refine x_iconst (v := 0) C dX11_opened_79 rfl ?_
        refine x_iconst (v := 2) C dX11_opened_80 rfl ?_
        refine x_iconst (v := 1) C dX11_opened_81 rfl ?_
        refine x_calli (rest := []) C sv_X11_179 ob11 z11 (kX11_bad hG _ _ _ _ h) rfl rfl (Nat.le_of_ble_eq_true rfl) ⟨Nat.le_of_ble_eq_true rfl, Nat.le_of_ble_eq_true rfl⟩ rfl rfl ⟨Nat.le_of_ble_eq_true rfl, Nat.le_of_ble_eq_true rfl⟩ dX11_opened_82 (fun r38 M39 h => ?_)
        refine x_if_eq (tgt := 90) C dX11_opened_85 (by decide) (fun c40 => ?_) (fun c40 => ?_)
        · replace h := h.1 c40
          refine x_aload_n C dX11_opened_90 0 rfl ?_
          refine x_iload_n C dX11_opened_91 1 rfl ?_
          refine x_aload_n C dX11_opened_92 0 rfl ?_
          refine gf_11_11 C q209 z11 dX11_opened_93 ?_
          refine x_callv (rest := []) C sv_X11_445 ob11 z11 (kX11_goesEarly hG _ _ _ h) rfl rfl (Nat.le_of_ble_eq_true rfl) ⟨Nat.le_of_ble_eq_true rfl, Nat.le_of_ble_eq_true rfl⟩ rfl rfl ⟨Nat.le_of_ble_eq_true rfl, Nat.le_of_ble_eq_true rfl⟩ dX11_opened_96 (fun M42 h => ?_)
          refine x_aload_n C dX11_opened_99 0 rfl ?_
          refine gf_11_45 C q196 z11 dX11_opened_100 ?_
          refine x_iload_n C dX11_opened_103 2 rfl ?_
          obtain ⟨f43, h⟩ := h
          refine al_1245 C z1245 f43 dX11_opened_104 ?_
          refine x_iload_n C dX11_opened_105 3 rfl ?_
          obtain ⟨f44, h⟩ := h
          refine al_6245 C (vp_lt f43) f44 dX11_opened_106 ?_
          exact x_iret C E h (Nat.le_of_ble_eq_true rfl) (Nat.le_of_ble_eq_true rfl) dX11_opened_107
        · replace h := h.2 c40
          refine x_iconst (v := 0) C dX11_opened_88 rfl ?_
          exact x_iret C E h (Nat.le_of_ble_eq_true rfl) (Nat.le_of_ble_eq_true rfl) dX11_opened_89
      · replace h := h.2 c37
        refine x_iconst (v := 1) C dX11_opened_75 rfl ?_
        refine x_goto (tgt := 80) C dX11_opened_76 (by decide) ?_
        refine x_iconst (v := 2) C dX11_opened_80 rfl ?_
        refine x_iconst (v := 1) C dX11_opened_81 rfl ?_
        refine x_calli (rest := []) C sv_X11_179 ob11 z11 (kX11_bad hG _ _ _ _ h) rfl rfl (Nat.le_of_ble_eq_true rfl) ⟨Nat.le_of_ble_eq_true rfl, Nat.le_of_ble_eq_true rfl⟩ rfl rfl ⟨Nat.le_of_ble_eq_true rfl, Nat.le_of_ble_eq_true rfl⟩ dX11_opened_82 (fun r45 M46 h => ?_)
        refine x_if_eq (tgt := 90) C dX11_opened_85 (by decide) (fun c47 => ?_) (fun c47 => ?_)
        · replace h := h.1 c47
          refine x_aload_n C dX11_opened_90 0 rfl ?_
          refine x_iload_n C dX11_opened_91 1 rfl ?_
          refine x_aload_n C dX11_opened_92 0 rfl ?_
          refine gf_11_11 C q209 z11 dX11_opened_93 ?_
          refine x_callv (rest := []) C sv_X11_445 ob11 z11 (kX11_goesEarly hG _ _ _ h) rfl rfl (Nat.le_of_ble_eq_true rfl) ⟨Nat.le_of_ble_eq_true rfl, Nat.le_of_ble_eq_true rfl⟩ rfl rfl ⟨Nat.le_of_ble_eq_true rfl, Nat.le_of_ble_eq_true rfl⟩ dX11_opened_96 (fun M49 h => ?_)
          refine x_aload_n C dX11_opened_99 0 rfl ?_
          refine gf_11_45 C q196 z11 dX11_opened_100 ?_
          refine x_iload_n C dX11_opened_103 2 rfl ?_
          obtain ⟨f50, h⟩ := h
          refine al_1245 C z1245 f50 dX11_opened_104 ?_
          refine x_iload_n C dX11_opened_105 3 rfl ?_
          obtain ⟨f51, h⟩ := h
          refine al_6245 C (vp_lt f50) f51 dX11_opened_106 ?_
          exact x_iret C E h (Nat.le_of_ble_eq_true rfl) (Nat.le_of_ble_eq_true rfl) dX11_opened_107
        · replace h := h.2 c47
          refine x_iconst (v := 0) C dX11_opened_88 rfl ?_
          exact x_iret C E h (Nat.le_of_ble_eq_true rfl) (Nat.le_of_ble_eq_true rfl) dX11_opened_89
set_option maxRecDepth 100000 in
set_option maxHeartbeats 400000 in
theorem wX11_opened_42 {Γ : Gam} {G : Gm} {Qf : State → Prop} (hG : Gd G) (C : Cx Γ G cX11_opened 5 RX11 (some .int) rmX11_opened) {x1 : Int32} {x2 : Int32} {x3 : Int32} {Q : Int32 → Mem → Prop} (E : EndI Γ G Qf rmX11_opened Q) (M : Mem) (h : bX11_opened_42 x1 x2 x3 Q M) : X Γ G Qf 5 0 0 42 [(0, .ref (ga G 11 0)), (1, .int x1), (2, .int x2), (3, .int x3)] [] M := by
  unfold bX11_opened_42 at h
  refine x_iconst (v := 0) C dX11_opened_42 rfl ?_
  refine x_istore (lv' := [(4, .int 0), (0, .ref (ga G 11 0)), (1, .int x1), (2, .int x2), (3, .int x3)]) C dX11_opened_43 (Nat.le_of_ble_eq_true rfl) rfl ?_
  refine X_sub (lv' := [(0, .ref (ga G 11 0)), (1, .int x1), (2, .int x2), (3, .int x3), (4, .int 0)]) [1, 2, 3, 4, 0] rfl ?_
  exact wX11_opened_45 hG C E M 0 h
set_option maxRecDepth 100000 in
set_option maxHeartbeats 400000 in
theorem kX11_opened {l : Launch} {G : Gm} (hG : Gd G) (M : Mem) (x1 : Int32) (x2 : Int32) (x3 : Int32) {Q : Int32 → Mem → Prop} (h : pX11_opened M x1 x2 x3 Q) : Cti l G yX11_opened cX11_opened 5 .int rmX11_opened [.ref (ga G 11 0), .int x1, .int x2, .int x3] M Q := by
  refine cti_of (own := RX11) (by decide +kernel) rfl (Nat.le_of_ble_eq_true rfl) hG (fun Γ Qf hl C E => ?_)
  subst hl
  show X Γ G Qf 5 0 0 0 [(0, .ref (ga G 11 0)), (1, .int x1), (2, .int x2), (3, .int x3)] [] M
  unfold pX11_opened at h
  refine x_aload_n C dX11_opened_0 0 rfl ?_
  refine x_iconst (v := 0) C dX11_opened_1 rfl ?_
  refine pf_11_0 C q143 z11 dX11_opened_2 ?_
  refine X_nameM (fun M1 eM1 => ?_)
  replace h := h M1 eM1
  refine x_iload_n C dX11_opened_5 2 rfl ?_
  refine x_iconst (v := 0) C dX11_opened_6 rfl ?_
  refine x_aload_n C dX11_opened_7 0 rfl ?_
  refine gf_11_18 C q168 z11 dX11_opened_8 ?_
  refine x_iconst (v := 1) C dX11_opened_11 rfl ?_
  refine x_isub C dX11_opened_12 ?_
  refine x_scalli (rest := []) C ss_X11_172 (kX11_in hG _ _ _ _ h) rfl rfl (Nat.le_of_ble_eq_true rfl) ⟨Nat.le_of_ble_eq_true rfl, Nat.le_of_ble_eq_true rfl⟩ rfl rfl ⟨Nat.le_of_ble_eq_true rfl, Nat.le_of_ble_eq_true rfl⟩ dX11_opened_13 (fun r2 M3 h => ?_)
  refine x_if_eq (tgt := 42) C dX11_opened_16 (by decide) (fun c4 => ?_) (fun c4 => ?_)
  · replace h := h.1 c4
    refine X_sub (lv' := [(0, .ref (ga G 11 0)), (1, .int x1), (2, .int x2), (3, .int x3)]) [0, 1, 2, 3] rfl ?_
    exact wX11_opened_42 hG C E M3 h
  · replace h := h.2 c4
    refine x_aload_n C dX11_opened_19 0 rfl ?_
    refine x_aload_n C dX11_opened_20 0 rfl ?_
    refine gf_11_25 C q169 z11 dX11_opened_21 ?_
    refine x_iload_n C dX11_opened_24 2 rfl ?_
    refine x_bipush (v := 23) C dX11_opened_25 rfl ?_
    refine x_scalli (rest := [.ref (ga G 1225 0), .ref (ga G 11 0)]) C ss_X11_236 (kX11_less hG _ _ _ h) rfl rfl (Nat.le_of_ble_eq_true rfl) ⟨Nat.le_of_ble_eq_true rfl, Nat.le_of_ble_eq_true rfl⟩ rfl rfl ⟨Nat.le_of_ble_eq_true rfl, Nat.le_of_ble_eq_true rfl⟩ dX11_opened_27 (fun r5 M6 h => ?_)
    obtain ⟨f7, h⟩ := h
    refine al_1225 C z1225 f7 dX11_opened_30 ?_
    refine x_iload_n C dX11_opened_31 3 rfl ?_
    refine x_calli (rest := []) C sv_X11_423 ob11 z11 (kX11_isBlock hG _ _ _ h) rfl rfl (Nat.le_of_ble_eq_true rfl) ⟨Nat.le_of_ble_eq_true rfl, Nat.le_of_ble_eq_true rfl⟩ rfl rfl ⟨Nat.le_of_ble_eq_true rfl, Nat.le_of_ble_eq_true rfl⟩ dX11_opened_32 (fun r8 M9 h => ?_)
    refine x_if_eq (tgt := 42) C dX11_opened_35 (by decide) (fun c10 => ?_) (fun c10 => ?_)
    · replace h := h.1 c10
      refine X_sub (lv' := [(0, .ref (ga G 11 0)), (1, .int x1), (2, .int x2), (3, .int x3)]) [0, 1, 2, 3] rfl ?_
      exact wX11_opened_42 hG C E M9 h
    · replace h := h.2 c10
      refine x_iconst (v := 1) C dX11_opened_38 rfl ?_
      refine x_goto (tgt := 43) C dX11_opened_39 (by decide) ?_
      refine x_istore (lv' := [(4, .int 1), (0, .ref (ga G 11 0)), (1, .int x1), (2, .int x2), (3, .int x3)]) C dX11_opened_43 (Nat.le_of_ble_eq_true rfl) rfl ?_
      refine X_sub (lv' := [(0, .ref (ga G 11 0)), (1, .int x1), (2, .int x2), (3, .int x3), (4, .int 1)]) [1, 2, 3, 4, 0] rfl ?_
      exact wX11_opened_45 hG C E M9 1 h
def rmX11_inside : Room := { frames := 5, cells := 0, slots := 0, locals := 111 }
def bX11_inside_97 (x1 : Int32) (x2 : Int32) (Q : Int32 → Mem → Prop) (L40 : Mem × Int32 × Int32 → Prop) (M : Mem) (y3 : Int32) (y4 : Int32) : Prop :=
  ∀ v25 : Int32, v25 = y4 + 1 → L40 (M, y3, v25)
def bX11_inside_40 (x1 : Int32) (x2 : Int32) (Q : Int32 → Mem → Prop) (L40 : Mem × Int32 × Int32 → Prop) (M : Mem) (y3 : Int32) (y4 : Int32) : Prop :=
  ((((x2 + 1) * (M.1 1211 0 0)) ≤ y4 → Q y3 M) ∧ (¬ ((x2 + 1) * (M.1 1211 0 0)) ≤ y4 → pX11_gathers M x1 (fun M15 => (((M15.1 1237 0 0) ≤ y4 → bX11_inside_97 x1 x2 Q L40 M15 y3 y4) ∧ (¬ (M15.1 1237 0 0) ≤ y4 → vp_in y4 64 ∧ pX11_whyNot M15 (M15.1 1238 0 (tn y4)) (fun r18 M19 => ((¬ r18 = 0 → bX11_inside_97 x1 x2 Q L40 M19 y3 y4) ∧ (r18 = 0 → pX11_scoreOf M19 (M19.1 1238 0 (tn y4)) (fun r21 M22 => pX11_more M22 y3 r21 (fun r23 M24 => bX11_inside_97 x1 x2 Q L40 M24 r23 y4))))))))))
def pX11_inside (M : Mem) (x1 : Int32) (x2 : Int32) (Q : Int32 → Mem → Prop) : Prop :=
  ∀ M1 : Mem, M1 = up1 M 1200 0 0 0 → pX11_isBlock M1 x1 x2 (fun r2 M3 => ((¬ r2 = 0 → pX11_bad M3 0 1 0 (fun r5 M6 => ((r5 = 0 → ∀ v8 : Int32, v8 = (x2 * (M6.1 1211 0 0)) → ∃ n : Nat, lp (fun L s => bX11_inside_40 x1 x2 Q L s.1 s.2.1 s.2.2) n (M6, 0, v8)) ∧ (¬ r5 = 0 → Q 0 M6)))) ∧ (r2 = 0 → pX11_bad M3 1 1 0 (fun r9 M10 => ((r9 = 0 → ∀ v12 : Int32, v12 = (x2 * (M10.1 1211 0 0)) → ∃ n : Nat, lp (fun L s => bX11_inside_40 x1 x2 Q L s.1 s.2.1 s.2.2) n (M10, 0, v12)) ∧ (¬ r9 = 0 → Q 0 M10))))))
set_option maxRecDepth 100000 in
set_option maxHeartbeats 400000 in
theorem wX11_inside_97 {Γ : Gam} {G : Gm} {Qf : State → Prop} (hG : Gd G) (C : Cx Γ G cX11_inside 5 RX11 (some .int) rmX11_inside) {x1 : Int32} {x2 : Int32} {Q : Int32 → Mem → Prop} (E : EndI Γ G Qf rmX11_inside Q) {L40 : Mem × Int32 × Int32 → Prop} (hL40 : ∀ s, L40 s → X Γ G Qf 5 0 0 40 [(0, .ref (ga G 11 0)), (1, .int x1), (2, .int x2), (3, .int s.2.1), (4, .int s.2.2)] [] s.1) (M : Mem) (y3 : Int32) (y4 : Int32) (h : bX11_inside_97 x1 x2 Q L40 M y3 y4) : X Γ G Qf 5 0 0 97 [(0, .ref (ga G 11 0)), (1, .int x1), (2, .int x2), (3, .int y3), (4, .int y4)] [] M := by
  unfold bX11_inside_97 at h
  obtain ⟨v25, ev25⟩ : ∃ z : Int32, z = y4 + 1 := ⟨_, rfl⟩
  replace h := h v25 ev25
  refine x_iinc (v := v25) (lv' := [(4, .int v25), (0, .ref (ga G 11 0)), (1, .int x1), (2, .int x2), (3, .int y3)]) (j := 4) C dX11_inside_97 rfl (by rw [ev25]; rfl) (Nat.le_of_ble_eq_true rfl) rfl ?_
  refine x_goto (tgt := 40) C dX11_inside_100 (by decide) ?_
  refine X_sub (lv' := [(0, .ref (ga G 11 0)), (1, .int x1), (2, .int x2), (3, .int y3), (4, .int v25)]) [1, 2, 3, 4, 0] rfl ?_
  have w9 := hL40 (M, y3, v25) h
  dsimp only at w9
  exact w9
set_option maxRecDepth 100000 in
set_option maxHeartbeats 400000 in
theorem wX11_inside_40 {Γ : Gam} {G : Gm} {Qf : State → Prop} (hG : Gd G) (C : Cx Γ G cX11_inside 5 RX11 (some .int) rmX11_inside) {x1 : Int32} {x2 : Int32} {Q : Int32 → Mem → Prop} (E : EndI Γ G Qf rmX11_inside Q) {L40 : Mem × Int32 × Int32 → Prop} (hL40 : ∀ s, L40 s → X Γ G Qf 5 0 0 40 [(0, .ref (ga G 11 0)), (1, .int x1), (2, .int x2), (3, .int s.2.1), (4, .int s.2.2)] [] s.1) (M : Mem) (y3 : Int32) (y4 : Int32) (h : bX11_inside_40 x1 x2 Q L40 M y3 y4) : X Γ G Qf 5 0 0 40 [(0, .ref (ga G 11 0)), (1, .int x1), (2, .int x2), (3, .int y3), (4, .int y4)] [] M := by
  unfold bX11_inside_40 at h
  refine x_iload C dX11_inside_40 4 rfl ?_
  refine x_iload_n C dX11_inside_42 2 rfl ?_
  refine x_iconst (v := 1) C dX11_inside_43 rfl ?_
  refine x_iadd C dX11_inside_44 ?_
  refine x_aload_n C dX11_inside_45 0 rfl ?_
  refine gf_11_11 C q209 z11 dX11_inside_46 ?_
  refine x_imul C dX11_inside_49 ?_
  refine x_icmp_ge (tgt := 103) C dX11_inside_50 (by decide) (fun c13 => ?_) (fun c13 => ?_)
  · replace h := h.1 c13
    refine x_iload_n C dX11_inside_103 3 rfl ?_
    exact x_iret C E h (Nat.le_of_ble_eq_true rfl) (Nat.le_of_ble_eq_true rfl) dX11_inside_104
  · replace h := h.2 c13
    refine x_aload_n C dX11_inside_53 0 rfl ?_
    refine x_iload_n C dX11_inside_54 1 rfl ?_
    refine x_callv (rest := []) C sv_X11_252 ob11 z11 (kX11_gathers hG _ _ h) rfl rfl (Nat.le_of_ble_eq_true rfl) ⟨Nat.le_of_ble_eq_true rfl, Nat.le_of_ble_eq_true rfl⟩ rfl rfl ⟨Nat.le_of_ble_eq_true rfl, Nat.le_of_ble_eq_true rfl⟩ dX11_inside_55 (fun M15 h => ?_)
    refine x_iload C dX11_inside_58 4 rfl ?_
    refine x_aload_n C dX11_inside_60 0 rfl ?_
    refine gf_11_37 C q181 z11 dX11_inside_61 ?_
    refine x_icmp_ge (tgt := 97) C dX11_inside_64 (by decide) (fun c16 => ?_) (fun c16 => ?_)
    · replace h := h.1 c16
      refine X_sub (lv' := [(0, .ref (ga G 11 0)), (1, .int x1), (2, .int x2), (3, .int y3), (4, .int y4)]) [0, 1, 2, 3, 4] rfl ?_
      exact wX11_inside_97 hG C E hL40 M15 y3 y4 h
    · replace h := h.2 c16
      refine x_aload_n C dX11_inside_67 0 rfl ?_
      refine x_aload_n C dX11_inside_68 0 rfl ?_
      refine gf_11_38 C q182 z11 dX11_inside_69 ?_
      refine x_iload C dX11_inside_72 4 rfl ?_
      obtain ⟨f17, h⟩ := h
      refine al_1238 C z1238 f17 dX11_inside_74 ?_
      refine x_calli (rest := []) C sv_X11_302 ob11 z11 (kX11_whyNot hG _ _ h) rfl rfl (Nat.le_of_ble_eq_true rfl) ⟨Nat.le_of_ble_eq_true rfl, Nat.le_of_ble_eq_true rfl⟩ rfl rfl ⟨Nat.le_of_ble_eq_true rfl, Nat.le_of_ble_eq_true rfl⟩ dX11_inside_75 (fun r18 M19 h => ?_)
      refine x_if_ne (tgt := 97) C dX11_inside_78 (by decide) (fun c20 => ?_) (fun c20 => ?_)
      · replace h := h.1 c20
        refine X_sub (lv' := [(0, .ref (ga G 11 0)), (1, .int x1), (2, .int x2), (3, .int y3), (4, .int y4)]) [0, 1, 2, 3, 4] rfl ?_
        exact wX11_inside_97 hG C E hL40 M19 y3 y4 h
      · replace h := h.2 c20
        refine x_iload_n C dX11_inside_81 3 rfl ?_
        refine x_aload_n C dX11_inside_82 0 rfl ?_
        refine x_aload_n C dX11_inside_83 0 rfl ?_
        refine gf_11_38 C q182 z11 dX11_inside_84 ?_
        refine x_iload C dX11_inside_87 4 rfl ?_
        refine al_1238 C z1238 f17 dX11_inside_89 ?_
        refine x_calli (rest := [.int y3]) C sv_X11_305 ob11 z11 (kX11_scoreOf hG _ _ h) rfl rfl (Nat.le_of_ble_eq_true rfl) ⟨Nat.le_of_ble_eq_true rfl, Nat.le_of_ble_eq_true rfl⟩ rfl rfl ⟨Nat.le_of_ble_eq_true rfl, Nat.le_of_ble_eq_true rfl⟩ dX11_inside_90 (fun r21 M22 h => ?_)
        refine x_scalli (rest := []) C ss_X11_261 (kX11_more hG _ _ _ h) rfl rfl (Nat.le_of_ble_eq_true rfl) ⟨Nat.le_of_ble_eq_true rfl, Nat.le_of_ble_eq_true rfl⟩ rfl rfl ⟨Nat.le_of_ble_eq_true rfl, Nat.le_of_ble_eq_true rfl⟩ dX11_inside_93 (fun r23 M24 h => ?_)
        refine x_istore_n (lv' := [(3, .int r23), (0, .ref (ga G 11 0)), (1, .int x1), (2, .int x2), (4, .int y4)]) C dX11_inside_96 rfl (Nat.le_of_ble_eq_true rfl) rfl ?_
        refine X_sub (lv' := [(0, .ref (ga G 11 0)), (1, .int x1), (2, .int x2), (3, .int r23), (4, .int y4)]) [1, 2, 3, 0, 4] rfl ?_
        exact wX11_inside_97 hG C E hL40 M24 r23 y4 h
set_option maxRecDepth 100000 in
set_option maxHeartbeats 400000 in
theorem kX11_inside {l : Launch} {G : Gm} (hG : Gd G) (M : Mem) (x1 : Int32) (x2 : Int32) {Q : Int32 → Mem → Prop} (h : pX11_inside M x1 x2 Q) : Cti l G yX11_inside cX11_inside 5 .int rmX11_inside [.ref (ga G 11 0), .int x1, .int x2] M Q := by
  refine cti_of (own := RX11) (by decide +kernel) rfl (Nat.le_of_ble_eq_true rfl) hG (fun Γ Qf hl C E => ?_)
  subst hl
  show X Γ G Qf 5 0 0 0 [(0, .ref (ga G 11 0)), (1, .int x1), (2, .int x2)] [] M
  unfold pX11_inside at h
  refine x_aload_n C dX11_inside_0 0 rfl ?_
  refine x_iconst (v := 0) C dX11_inside_1 rfl ?_
  refine pf_11_0 C q143 z11 dX11_inside_2 ?_
  refine X_nameM (fun M1 eM1 => ?_)
  replace h := h M1 eM1
  refine x_aload_n C dX11_inside_5 0 rfl ?_
  refine x_aload_n C dX11_inside_6 0 rfl ?_
  refine x_iload_n C dX11_inside_7 1 rfl ?_
  refine x_iload_n C dX11_inside_8 2 rfl ?_
  refine x_calli (rest := [.ref (ga G 11 0)]) C sv_X11_423 ob11 z11 (kX11_isBlock hG _ _ _ h) rfl rfl (Nat.le_of_ble_eq_true rfl) ⟨Nat.le_of_ble_eq_true rfl, Nat.le_of_ble_eq_true rfl⟩ rfl rfl ⟨Nat.le_of_ble_eq_true rfl, Nat.le_of_ble_eq_true rfl⟩ dX11_inside_9 (fun r2 M3 h => ?_)
  refine x_if_ne (tgt := 19) C dX11_inside_12 (by decide) (fun c4 => ?_) (fun c4 => ?_)
  · replace h := h.1 c4
    refine x_iconst (v := 0) C dX11_inside_19 rfl ?_
    refine x_iconst (v := 1) C dX11_inside_20 rfl ?_
    refine x_iconst (v := 0) C dX11_inside_21 rfl ?_
    refine x_calli (rest := []) C sv_X11_179 ob11 z11 (kX11_bad hG _ _ _ _ h) rfl rfl (Nat.le_of_ble_eq_true rfl) ⟨Nat.le_of_ble_eq_true rfl, Nat.le_of_ble_eq_true rfl⟩ rfl rfl ⟨Nat.le_of_ble_eq_true rfl, Nat.le_of_ble_eq_true rfl⟩ dX11_inside_22 (fun r5 M6 h => ?_)
    refine x_if_eq (tgt := 30) C dX11_inside_25 (by decide) (fun c7 => ?_) (fun c7 => ?_)
    · replace h := h.1 c7
      refine x_iconst (v := 0) C dX11_inside_30 rfl ?_
      refine x_istore_n (lv' := [(3, .int 0), (0, .ref (ga G 11 0)), (1, .int x1), (2, .int x2)]) C dX11_inside_31 rfl (Nat.le_of_ble_eq_true rfl) rfl ?_
      refine x_iload_n C dX11_inside_32 3 rfl ?_
      refine x_aload_n C dX11_inside_33 1 rfl ?_
      refine gf_11_11 C q209 z11 dX11_inside_34 ?_
      refine x_imul C dX11_inside_37 ?_
      refine X_name (fun v8 ev8 => ?_)
      replace h := h v8 ev8
      refine x_istore (lv' := [(4, .int v8), (3, .int 0), (0, .ref (ga G 11 0)), (1, .int x1), (2, .int x2)]) C dX11_inside_38 (Nat.le_of_ble_eq_true rfl) rfl ?_
      obtain ⟨n9, h⟩ := h
      refine X_sub (lv' := [(0, .ref (ga G 11 0)), (1, .int x1), (2, .int x2), (3, .int 0), (4, .int v8)]) [2, 3, 4, 1, 0] rfl ?_
      have hb : ∀ (L : Mem × Int32 × Int32 → Prop) (s : Mem × Int32 × Int32), (∀ t, L t → X Γ G Qf 5 0 0 40 [(0, .ref (ga G 11 0)), (1, .int x1), (2, .int x2), (3, .int t.2.1), (4, .int t.2.2)] [] t.1) → bX11_inside_40 x1 x2 Q L s.1 s.2.1 s.2.2 → X Γ G Qf 5 0 0 40 [(0, .ref (ga G 11 0)), (1, .int x1), (2, .int x2), (3, .int s.2.1), (4, .int s.2.2)] [] s.1 := fun L s hL h => wX11_inside_40 hG C E hL s.1 s.2.1 s.2.2 h
      have w9 := lp_walk (P := fun s : Mem × Int32 × Int32 => X Γ G Qf 5 0 0 40 [(0, .ref (ga G 11 0)), (1, .int x1), (2, .int x2), (3, .int s.2.1), (4, .int s.2.2)] [] s.1) h hb
      dsimp only at w9
      exact w9
    · replace h := h.2 c7
      refine x_iconst (v := 0) C dX11_inside_28 rfl ?_
      exact x_iret C E h (Nat.le_of_ble_eq_true rfl) (Nat.le_of_ble_eq_true rfl) dX11_inside_29
  · replace h := h.2 c4
    refine x_iconst (v := 1) C dX11_inside_15 rfl ?_
    refine x_goto (tgt := 20) C dX11_inside_16 (by decide) ?_
    refine x_iconst (v := 1) C dX11_inside_20 rfl ?_
    refine x_iconst (v := 0) C dX11_inside_21 rfl ?_
    refine x_calli (rest := []) C sv_X11_179 ob11 z11 (kX11_bad hG _ _ _ _ h) rfl rfl (Nat.le_of_ble_eq_true rfl) ⟨Nat.le_of_ble_eq_true rfl, Nat.le_of_ble_eq_true rfl⟩ rfl rfl ⟨Nat.le_of_ble_eq_true rfl, Nat.le_of_ble_eq_true rfl⟩ dX11_inside_22 (fun r9 M10 h => ?_)
    refine x_if_eq (tgt := 30) C dX11_inside_25 (by decide) (fun c11 => ?_) (fun c11 => ?_)
    · replace h := h.1 c11
      refine x_iconst (v := 0) C dX11_inside_30 rfl ?_
      refine x_istore_n (lv' := [(3, .int 0), (0, .ref (ga G 11 0)), (1, .int x1), (2, .int x2)]) C dX11_inside_31 rfl (Nat.le_of_ble_eq_true rfl) rfl ?_
      refine x_iload_n C dX11_inside_32 3 rfl ?_
      refine x_aload_n C dX11_inside_33 1 rfl ?_
      refine gf_11_11 C q209 z11 dX11_inside_34 ?_
      refine x_imul C dX11_inside_37 ?_
      refine X_name (fun v12 ev12 => ?_)
      replace h := h v12 ev12
      refine x_istore (lv' := [(4, .int v12), (3, .int 0), (0, .ref (ga G 11 0)), (1, .int x1), (2, .int x2)]) C dX11_inside_38 (Nat.le_of_ble_eq_true rfl) rfl ?_
      obtain ⟨n9, h⟩ := h
      refine X_sub (lv' := [(0, .ref (ga G 11 0)), (1, .int x1), (2, .int x2), (3, .int 0), (4, .int v12)]) [2, 3, 4, 1, 0] rfl ?_
      have hb : ∀ (L : Mem × Int32 × Int32 → Prop) (s : Mem × Int32 × Int32), (∀ t, L t → X Γ G Qf 5 0 0 40 [(0, .ref (ga G 11 0)), (1, .int x1), (2, .int x2), (3, .int t.2.1), (4, .int t.2.2)] [] t.1) → bX11_inside_40 x1 x2 Q L s.1 s.2.1 s.2.2 → X Γ G Qf 5 0 0 40 [(0, .ref (ga G 11 0)), (1, .int x1), (2, .int x2), (3, .int s.2.1), (4, .int s.2.2)] [] s.1 := fun L s hL h => wX11_inside_40 hG C E hL s.1 s.2.1 s.2.2 h
      have w9 := lp_walk (P := fun s : Mem × Int32 × Int32 => X Γ G Qf 5 0 0 40 [(0, .ref (ga G 11 0)), (1, .int x1), (2, .int x2), (3, .int s.2.1), (4, .int s.2.2)] [] s.1) h hb
      dsimp only at w9
      exact w9
    · replace h := h.2 c11
      refine x_iconst (v := 0) C dX11_inside_28 rfl ?_
      exact x_iret C E h (Nat.le_of_ble_eq_true rfl) (Nat.le_of_ble_eq_true rfl) dX11_inside_29
