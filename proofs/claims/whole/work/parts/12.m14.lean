def rmX11_scored : Room := { frames := 3, cells := 0, slots := 0, locals := 68 }
def pX11_scored (M : Mem) (x1 : Int32) (x2 : Int32) (Q : Int32 → Mem → Prop) : Prop :=
  ∀ M1 : Mem, M1 = up1 M 1200 0 0 0 → pX11_in M1 x2 0 3 (fun r2 M3 => ((¬ r2 = 0 → pX11_bad M3 0 1 1 (fun r5 M6 => ((r5 = 0 → pX11_in M6 x1 0 ((M6.1 1218 0 0) - 1) (fun r8 M9 => ((¬ r8 = 0 → vp_in x1 24 ∧ ∀ v12 : Int32, v12 = (M9.1 1225 0 (tn x1)) → ((¬ x2 = 0 → ((¬ x2 = 1 → ((¬ x2 = 2 → pX11_rare M9 v12 (fun r16 M17 => pX11_topOfList M17 v12 (fun r18 M19 => Q (((M9.1 1226 0 (tn x1)) * r16) * r18) M19))) ∧ (x2 = 2 → pX11_isMust M9 v12 (fun r20 M21 => ((r20 = 0 → Q 0 M21) ∧ (¬ r20 = 0 → Q 1 M21)))))) ∧ (x2 = 1 → Q (M9.1 1226 0 (tn x1)) M9))) ∧ (x2 = 0 → Q v12 M9))) ∧ (r8 = 0 → Q (-1) M9)))) ∧ (¬ r5 = 0 → Q 0 M6)))) ∧ (r2 = 0 → pX11_bad M3 1 1 1 (fun r23 M24 => ((r23 = 0 → pX11_in M24 x1 0 ((M24.1 1218 0 0) - 1) (fun r26 M27 => ((¬ r26 = 0 → vp_in x1 24 ∧ ∀ v30 : Int32, v30 = (M27.1 1225 0 (tn x1)) → ((¬ x2 = 0 → ((¬ x2 = 1 → ((¬ x2 = 2 → pX11_rare M27 v30 (fun r34 M35 => pX11_topOfList M35 v30 (fun r36 M37 => Q (((M27.1 1226 0 (tn x1)) * r34) * r36) M37))) ∧ (x2 = 2 → pX11_isMust M27 v30 (fun r38 M39 => ((r38 = 0 → Q 0 M39) ∧ (¬ r38 = 0 → Q 1 M39)))))) ∧ (x2 = 1 → Q (M27.1 1226 0 (tn x1)) M27))) ∧ (x2 = 0 → Q v30 M27))) ∧ (r26 = 0 → Q (-1) M27)))) ∧ (¬ r23 = 0 → Q 0 M24))))))
set_option maxRecDepth 100000 in
set_option maxHeartbeats 400000 in
theorem kX11_scored {l : Launch} {G : Gm} (hG : Gd G) (M : Mem) (x1 : Int32) (x2 : Int32) {Q : Int32 → Mem → Prop} (h : pX11_scored M x1 x2 Q) : Cti l G yX11_scored cX11_scored 4 .int rmX11_scored [.ref (ga G 11 0), .int x1, .int x2] M Q := by
  refine cti_of (own := RX11) (by decide +kernel) rfl (Nat.le_of_ble_eq_true rfl) hG (fun Γ Qf hl C E => ?_)
  subst hl
  show X Γ G Qf 4 0 0 0 [(0, .ref (ga G 11 0)), (1, .int x1), (2, .int x2)] [] M
  unfold pX11_scored at h
  refine x_aload_n C dX11_scored_0 0 rfl ?_
  refine x_iconst (v := 0) C dX11_scored_1 rfl ?_
  refine pf_11_0 C q143 z11 dX11_scored_2 ?_
  refine X_nameM (fun M1 eM1 => ?_)
  replace h := h M1 eM1
  refine x_aload_n C dX11_scored_5 0 rfl ?_
  refine x_iload_n C dX11_scored_6 2 rfl ?_
  refine x_iconst (v := 0) C dX11_scored_7 rfl ?_
  refine x_iconst (v := 3) C dX11_scored_8 rfl ?_
  refine x_scalli (rest := [.ref (ga G 11 0)]) C ss_X11_172 (kX11_in hG _ _ _ _ h) rfl rfl (Nat.le_of_ble_eq_true rfl) ⟨Nat.le_of_ble_eq_true rfl, Nat.le_of_ble_eq_true rfl⟩ rfl rfl ⟨Nat.le_of_ble_eq_true rfl, Nat.le_of_ble_eq_true rfl⟩ dX11_scored_9 (fun r2 M3 h => ?_)
  refine x_if_ne (tgt := 19) C dX11_scored_12 (by decide) (fun c4 => ?_) (fun c4 => ?_)
  · replace h := h.1 c4
    refine x_iconst (v := 0) C dX11_scored_19 rfl ?_
    refine x_iconst (v := 1) C dX11_scored_20 rfl ?_
    refine x_iconst (v := 1) C dX11_scored_21 rfl ?_
    refine x_calli (rest := []) C sv_X11_179 ob11 z11 (kX11_bad hG _ _ _ _ h) rfl rfl (Nat.le_of_ble_eq_true rfl) ⟨Nat.le_of_ble_eq_true rfl, Nat.le_of_ble_eq_true rfl⟩ rfl rfl ⟨Nat.le_of_ble_eq_true rfl, Nat.le_of_ble_eq_true rfl⟩ dX11_scored_22 (fun r5 M6 h => ?_)
    refine x_if_eq (tgt := 30) C dX11_scored_25 (by decide) (fun c7 => ?_) (fun c7 => ?_)
    · replace h := h.1 c7
      refine x_iload_n C dX11_scored_30 1 rfl ?_
      refine x_iconst (v := 0) C dX11_scored_31 rfl ?_
      refine x_aload_n C dX11_scored_32 0 rfl ?_
      refine gf_11_18 C q168 z11 dX11_scored_33 ?_
      refine x_iconst (v := 1) C dX11_scored_36 rfl ?_
      refine x_isub C dX11_scored_37 ?_
      refine x_scalli (rest := []) C ss_X11_172 (kX11_in hG _ _ _ _ h) rfl rfl (Nat.le_of_ble_eq_true rfl) ⟨Nat.le_of_ble_eq_true rfl, Nat.le_of_ble_eq_true rfl⟩ rfl rfl ⟨Nat.le_of_ble_eq_true rfl, Nat.le_of_ble_eq_true rfl⟩ dX11_scored_38 (fun r8 M9 h => ?_)
      refine x_if_ne (tgt := 46) C dX11_scored_41 (by decide) (fun c10 => ?_) (fun c10 => ?_)
      · replace h := h.1 c10
        refine x_aload_n C dX11_scored_46 0 rfl ?_
        refine gf_11_25 C q169 z11 dX11_scored_47 ?_
        refine x_iload_n C dX11_scored_50 1 rfl ?_
        obtain ⟨f11, h⟩ := h
        refine al_1225 C z1225 f11 dX11_scored_51 ?_
        refine X_name (fun v12 ev12 => ?_)
        replace h := h v12 ev12
        refine x_istore_n (lv' := [(3, .int v12), (0, .ref (ga G 11 0)), (1, .int x1), (2, .int x2)]) C dX11_scored_52 rfl (Nat.le_of_ble_eq_true rfl) rfl ?_
        refine x_iload_n C dX11_scored_53 3 rfl ?_
        refine x_if_ne (tgt := 61) C dX11_scored_54 (by decide) (fun c13 => ?_) (fun c13 => ?_)
        · replace h := h.1 c13
          refine x_iload_n C dX11_scored_61 3 rfl ?_
          refine x_iconst (v := 1) C dX11_scored_62 rfl ?_
          refine x_icmp_ne (tgt := 75) C dX11_scored_63 (by decide) (fun c14 => ?_) (fun c14 => ?_)
          · replace h := h.1 c14
            refine x_iload_n C dX11_scored_75 3 rfl ?_
            refine x_iconst (v := 2) C dX11_scored_76 rfl ?_
            refine x_icmp_ne (tgt := 96) C dX11_scored_77 (by decide) (fun c15 => ?_) (fun c15 => ?_)
            · replace h := h.1 c15
              refine x_aload_n C dX11_scored_96 1 rfl ?_
              refine gf_11_26 C q170 z11 dX11_scored_97 ?_
              refine x_iload_n C dX11_scored_100 2 rfl ?_
              refine al_1226 C z1226 f11 dX11_scored_101 ?_
              refine x_aload_n C dX11_scored_102 1 rfl ?_
              refine x_iload_n C dX11_scored_103 0 rfl ?_
              refine x_calli (rest := [.int (M9.1 1226 0 (tn x1))]) C sv_X11_290 ob11 z11 (kX11_rare hG _ _ h) rfl rfl (Nat.le_of_ble_eq_true rfl) ⟨Nat.le_of_ble_eq_true rfl, Nat.le_of_ble_eq_true rfl⟩ rfl rfl ⟨Nat.le_of_ble_eq_true rfl, Nat.le_of_ble_eq_true rfl⟩ dX11_scored_104 (fun r16 M17 h => ?_)
              refine x_imul C dX11_scored_107 ?_
              refine x_aload_n C dX11_scored_108 1 rfl ?_
              refine x_iload_n C dX11_scored_109 0 rfl ?_
              refine x_calli (rest := [.int ((M9.1 1226 0 (tn x1)) * r16)]) C sv_X11_420 ob11 z11 (kX11_topOfList hG _ _ h) rfl rfl (Nat.le_of_ble_eq_true rfl) ⟨Nat.le_of_ble_eq_true rfl, Nat.le_of_ble_eq_true rfl⟩ rfl rfl ⟨Nat.le_of_ble_eq_true rfl, Nat.le_of_ble_eq_true rfl⟩ dX11_scored_110 (fun r18 M19 h => ?_)
              refine x_imul C dX11_scored_113 ?_
              exact x_iret C E h (Nat.le_of_ble_eq_true rfl) (Nat.le_of_ble_eq_true rfl) dX11_scored_114
            · replace h := h.2 c15
              refine x_aload_n C dX11_scored_80 1 rfl ?_
              refine x_iload_n C dX11_scored_81 0 rfl ?_
              refine x_calli (rest := []) C sv_X11_436 ob11 z11 (kX11_isMust hG _ _ h) rfl rfl (Nat.le_of_ble_eq_true rfl) ⟨Nat.le_of_ble_eq_true rfl, Nat.le_of_ble_eq_true rfl⟩ rfl rfl ⟨Nat.le_of_ble_eq_true rfl, Nat.le_of_ble_eq_true rfl⟩ dX11_scored_82 (fun r20 M21 h => ?_)
              refine x_if_eq (tgt := 92) C dX11_scored_85 (by decide) (fun c22 => ?_) (fun c22 => ?_)
              · replace h := h.1 c22
                refine x_iconst (v := 0) C dX11_scored_92 rfl ?_
                refine x_goto (tgt := 114) C dX11_scored_93 (by decide) ?_
                exact x_iret C E h (Nat.le_of_ble_eq_true rfl) (Nat.le_of_ble_eq_true rfl) dX11_scored_114
              · replace h := h.2 c22
                refine x_iconst (v := 1) C dX11_scored_88 rfl ?_
                refine x_goto (tgt := 114) C dX11_scored_89 (by decide) ?_
                exact x_iret C E h (Nat.le_of_ble_eq_true rfl) (Nat.le_of_ble_eq_true rfl) dX11_scored_114
          · replace h := h.2 c14
            refine x_aload_n C dX11_scored_66 1 rfl ?_
            refine gf_11_26 C q170 z11 dX11_scored_67 ?_
            refine x_iload_n C dX11_scored_70 2 rfl ?_
            refine al_1226 C z1226 f11 dX11_scored_71 ?_
            refine x_goto (tgt := 114) C dX11_scored_72 (by decide) ?_
            exact x_iret C E h (Nat.le_of_ble_eq_true rfl) (Nat.le_of_ble_eq_true rfl) dX11_scored_114
        · replace h := h.2 c13
          refine x_iload_n C dX11_scored_57 0 rfl ?_
          refine x_goto (tgt := 114) C dX11_scored_58 (by decide) ?_
          exact x_iret C E h (Nat.le_of_ble_eq_true rfl) (Nat.le_of_ble_eq_true rfl) dX11_scored_114
      · replace h := h.2 c10
        refine x_iconst (v := (-1)) C dX11_scored_44 rfl ?_
        exact x_iret C E h (Nat.le_of_ble_eq_true rfl) (Nat.le_of_ble_eq_true rfl) dX11_scored_45
    · replace h := h.2 c7
      refine x_iconst (v := 0) C dX11_scored_28 rfl ?_
      exact x_iret C E h (Nat.le_of_ble_eq_true rfl) (Nat.le_of_ble_eq_true rfl) dX11_scored_29
  · replace h := h.2 c4
    refine x_iconst (v := 1) C dX11_scored_15 rfl ?_
    refine x_goto (tgt := 20) C dX11_scored_16 (by decide) ?_
    refine x_iconst (v := 1) C dX11_scored_20 rfl ?_
    refine x_iconst (v := 1) C dX11_scored_21 rfl ?_
    refine x_calli (rest := []) C sv_X11_179 ob11 z11 (kX11_bad hG _ _ _ _ h) rfl rfl (Nat.le_of_ble_eq_true rfl) ⟨Nat.le_of_ble_eq_true rfl, Nat.le_of_ble_eq_true rfl⟩ rfl rfl ⟨Nat.le_of_ble_eq_true rfl, Nat.le_of_ble_eq_true rfl⟩ dX11_scored_22 (fun r23 M24 h => ?_)
    refine x_if_eq (tgt := 30) C dX11_scored_25 (by decide) (fun c25 => ?_) (fun c25 => ?_)
    · replace h := h.1 c25
      refine x_iload_n C dX11_scored_30 1 rfl ?_
      refine x_iconst (v := 0) C dX11_scored_31 rfl ?_
      refine x_aload_n C dX11_scored_32 0 rfl ?_
      refine gf_11_18 C q168 z11 dX11_scored_33 ?_
      refine x_iconst (v := 1) C dX11_scored_36 rfl ?_
      refine x_isub C dX11_scored_37 ?_
      refine x_scalli (rest := []) C ss_X11_172 (kX11_in hG _ _ _ _ h) rfl rfl (Nat.le_of_ble_eq_true rfl) ⟨Nat.le_of_ble_eq_true rfl, Nat.le_of_ble_eq_true rfl⟩ rfl rfl ⟨Nat.le_of_ble_eq_true rfl, Nat.le_of_ble_eq_true rfl⟩ dX11_scored_38 (fun r26 M27 h => ?_)
      refine x_if_ne (tgt := 46) C dX11_scored_41 (by decide) (fun c28 => ?_) (fun c28 => ?_)
      · replace h := h.1 c28
        refine x_aload_n C dX11_scored_46 0 rfl ?_
        refine gf_11_25 C q169 z11 dX11_scored_47 ?_
        refine x_iload_n C dX11_scored_50 1 rfl ?_
        obtain ⟨f29, h⟩ := h
        refine al_1225 C z1225 f29 dX11_scored_51 ?_
        refine X_name (fun v30 ev30 => ?_)
        replace h := h v30 ev30
        refine x_istore_n (lv' := [(3, .int v30), (0, .ref (ga G 11 0)), (1, .int x1), (2, .int x2)]) C dX11_scored_52 rfl (Nat.le_of_ble_eq_true rfl) rfl ?_
        refine x_iload_n C dX11_scored_53 3 rfl ?_
        refine x_if_ne (tgt := 61) C dX11_scored_54 (by decide) (fun c31 => ?_) (fun c31 => ?_)
        · replace h := h.1 c31
          refine x_iload_n C dX11_scored_61 3 rfl ?_
          refine x_iconst (v := 1) C dX11_scored_62 rfl ?_
          refine x_icmp_ne (tgt := 75) C dX11_scored_63 (by decide) (fun c32 => ?_) (fun c32 => ?_)
          · replace h := h.1 c32
            refine x_iload_n C dX11_scored_75 3 rfl ?_
            refine x_iconst (v := 2) C dX11_scored_76 rfl ?_
            refine x_icmp_ne (tgt := 96) C dX11_scored_77 (by decide) (fun c33 => ?_) (fun c33 => ?_)
            · replace h := h.1 c33
              refine x_aload_n C dX11_scored_96 1 rfl ?_
              refine gf_11_26 C q170 z11 dX11_scored_97 ?_
              refine x_iload_n C dX11_scored_100 2 rfl ?_
              refine al_1226 C z1226 f29 dX11_scored_101 ?_
              refine x_aload_n C dX11_scored_102 1 rfl ?_
              refine x_iload_n C dX11_scored_103 0 rfl ?_
              refine x_calli (rest := [.int (M27.1 1226 0 (tn x1))]) C sv_X11_290 ob11 z11 (kX11_rare hG _ _ h) rfl rfl (Nat.le_of_ble_eq_true rfl) ⟨Nat.le_of_ble_eq_true rfl, Nat.le_of_ble_eq_true rfl⟩ rfl rfl ⟨Nat.le_of_ble_eq_true rfl, Nat.le_of_ble_eq_true rfl⟩ dX11_scored_104 (fun r34 M35 h => ?_)
              refine x_imul C dX11_scored_107 ?_
              refine x_aload_n C dX11_scored_108 1 rfl ?_
              refine x_iload_n C dX11_scored_109 0 rfl ?_
              refine x_calli (rest := [.int ((M27.1 1226 0 (tn x1)) * r34)]) C sv_X11_420 ob11 z11 (kX11_topOfList hG _ _ h) rfl rfl (Nat.le_of_ble_eq_true rfl) ⟨Nat.le_of_ble_eq_true rfl, Nat.le_of_ble_eq_true rfl⟩ rfl rfl ⟨Nat.le_of_ble_eq_true rfl, Nat.le_of_ble_eq_true rfl⟩ dX11_scored_110 (fun r36 M37 h => ?_)
              refine x_imul C dX11_scored_113 ?_
              exact x_iret C E h (Nat.le_of_ble_eq_true rfl) (Nat.le_of_ble_eq_true rfl) dX11_scored_114
            · replace h := h.2 c33
              refine x_aload_n C dX11_scored_80 1 rfl ?_
              refine x_iload_n C dX11_scored_81 0 rfl ?_
              refine x_calli (rest := []) C sv_X11_436 ob11 z11 (kX11_isMust hG _ _ h) rfl rfl (Nat.le_of_ble_eq_true rfl) ⟨Nat.le_of_ble_eq_true rfl, Nat.le_of_ble_eq_true rfl⟩ rfl rfl ⟨Nat.le_of_ble_eq_true rfl, Nat.le_of_ble_eq_true rfl⟩ dX11_scored_82 (fun r38 M39 h => ?_)
              refine x_if_eq (tgt := 92) C dX11_scored_85 (by decide) (fun c40 => ?_) (fun c40 => ?_)
              · replace h := h.1 c40
                refine x_iconst (v := 0) C dX11_scored_92 rfl ?_
                refine x_goto (tgt := 114) C dX11_scored_93 (by decide) ?_
                exact x_iret C E h (Nat.le_of_ble_eq_true rfl) (Nat.le_of_ble_eq_true rfl) dX11_scored_114
              · replace h := h.2 c40
                refine x_iconst (v := 1) C dX11_scored_88 rfl ?_
                refine x_goto (tgt := 114) C dX11_scored_89 (by decide) ?_
                exact x_iret C E h (Nat.le_of_ble_eq_true rfl) (Nat.le_of_ble_eq_true rfl) dX11_scored_114
          · replace h := h.2 c32
            refine x_aload_n C dX11_scored_66 1 rfl ?_
            refine gf_11_26 C q170 z11 dX11_scored_67 ?_
            refine x_iload_n C dX11_scored_70 2 rfl ?_
            refine al_1226 C z1226 f29 dX11_scored_71 ?_
            refine x_goto (tgt := 114) C dX11_scored_72 (by decide) ?_
            exact x_iret C E h (Nat.le_of_ble_eq_true rfl) (Nat.le_of_ble_eq_true rfl) dX11_scored_114
        · replace h := h.2 c31
          refine x_iload_n C dX11_scored_57 0 rfl ?_
          refine x_goto (tgt := 114) C dX11_scored_58 (by decide) ?_
          exact x_iret C E h (Nat.le_of_ble_eq_true rfl) (Nat.le_of_ble_eq_true rfl) dX11_scored_114
      · replace h := h.2 c28
        refine x_iconst (v := (-1)) C dX11_scored_44 rfl ?_
        exact x_iret C E h (Nat.le_of_ble_eq_true rfl) (Nat.le_of_ble_eq_true rfl) dX11_scored_45
    · replace h := h.2 c25
      refine x_iconst (v := 0) C dX11_scored_28 rfl ?_
      exact x_iret C E h (Nat.le_of_ble_eq_true rfl) (Nat.le_of_ble_eq_true rfl) dX11_scored_29
def rmX11_why : Room := { frames := 2, cells := 0, slots := 0, locals := 48 }
def pX11_why (M : Mem) (x1 : Int32) (Q : Int32 → Mem → Prop) : Prop :=
  ∀ M1 : Mem, M1 = up1 M 1200 0 0 0 → pX11_isDocument M1 x1 (fun r2 M3 => ((¬ r2 = 0 → pX11_bad M3 0 1 0 (fun r5 M6 => ((r5 = 0 → pX11_whyNot M6 x1 (fun r8 M9 => Q r8 M9)) ∧ (¬ r5 = 0 → Q 0 M6)))) ∧ (r2 = 0 → pX11_bad M3 1 1 0 (fun r10 M11 => ((r10 = 0 → pX11_whyNot M11 x1 (fun r13 M14 => Q r13 M14)) ∧ (¬ r10 = 0 → Q 0 M11))))))
set_option maxRecDepth 100000 in
set_option maxHeartbeats 400000 in
theorem kX11_why {l : Launch} {G : Gm} (hG : Gd G) (M : Mem) (x1 : Int32) {Q : Int32 → Mem → Prop} (h : pX11_why M x1 Q) : Cti l G yX11_why cX11_why 2 .int rmX11_why [.ref (ga G 11 0), .int x1] M Q := by
  refine cti_of (own := RX11) (by decide +kernel) rfl (Nat.le_of_ble_eq_true rfl) hG (fun Γ Qf hl C E => ?_)
  subst hl
  show X Γ G Qf 2 0 0 0 [(0, .ref (ga G 11 0)), (1, .int x1)] [] M
  unfold pX11_why at h
  refine x_aload_n C dX11_why_0 0 rfl ?_
  refine x_iconst (v := 0) C dX11_why_1 rfl ?_
  refine pf_11_0 C q143 z11 dX11_why_2 ?_
  refine X_nameM (fun M1 eM1 => ?_)
  replace h := h M1 eM1
  refine x_aload_n C dX11_why_5 0 rfl ?_
  refine x_aload_n C dX11_why_6 0 rfl ?_
  refine x_iload_n C dX11_why_7 1 rfl ?_
  refine x_calli (rest := [.ref (ga G 11 0)]) C sv_X11_402 ob11 z11 (kX11_isDocument hG _ _ h) rfl rfl (Nat.le_of_ble_eq_true rfl) ⟨Nat.le_of_ble_eq_true rfl, Nat.le_of_ble_eq_true rfl⟩ rfl rfl ⟨Nat.le_of_ble_eq_true rfl, Nat.le_of_ble_eq_true rfl⟩ dX11_why_8 (fun r2 M3 h => ?_)
  refine x_if_ne (tgt := 18) C dX11_why_11 (by decide) (fun c4 => ?_) (fun c4 => ?_)
  · replace h := h.1 c4
    refine x_iconst (v := 0) C dX11_why_18 rfl ?_
    refine x_iconst (v := 1) C dX11_why_19 rfl ?_
    refine x_iconst (v := 0) C dX11_why_20 rfl ?_
    refine x_calli (rest := []) C sv_X11_179 ob11 z11 (kX11_bad hG _ _ _ _ h) rfl rfl (Nat.le_of_ble_eq_true rfl) ⟨Nat.le_of_ble_eq_true rfl, Nat.le_of_ble_eq_true rfl⟩ rfl rfl ⟨Nat.le_of_ble_eq_true rfl, Nat.le_of_ble_eq_true rfl⟩ dX11_why_21 (fun r5 M6 h => ?_)
    refine x_if_eq (tgt := 29) C dX11_why_24 (by decide) (fun c7 => ?_) (fun c7 => ?_)
    · replace h := h.1 c7
      refine x_aload_n C dX11_why_29 0 rfl ?_
      refine x_iload_n C dX11_why_30 1 rfl ?_
      refine x_calli (rest := []) C sv_X11_302 ob11 z11 (kX11_whyNot hG _ _ h) rfl rfl (Nat.le_of_ble_eq_true rfl) ⟨Nat.le_of_ble_eq_true rfl, Nat.le_of_ble_eq_true rfl⟩ rfl rfl ⟨Nat.le_of_ble_eq_true rfl, Nat.le_of_ble_eq_true rfl⟩ dX11_why_31 (fun r8 M9 h => ?_)
      exact x_iret C E h (Nat.le_of_ble_eq_true rfl) (Nat.le_of_ble_eq_true rfl) dX11_why_34
    · replace h := h.2 c7
      refine x_iconst (v := 0) C dX11_why_27 rfl ?_
      exact x_iret C E h (Nat.le_of_ble_eq_true rfl) (Nat.le_of_ble_eq_true rfl) dX11_why_28
  · replace h := h.2 c4
    refine x_iconst (v := 1) C dX11_why_14 rfl ?_
    refine x_goto (tgt := 19) C dX11_why_15 (by decide) ?_
    refine x_iconst (v := 1) C dX11_why_19 rfl ?_
    refine x_iconst (v := 0) C dX11_why_20 rfl ?_
    refine x_calli (rest := []) C sv_X11_179 ob11 z11 (kX11_bad hG _ _ _ _ h) rfl rfl (Nat.le_of_ble_eq_true rfl) ⟨Nat.le_of_ble_eq_true rfl, Nat.le_of_ble_eq_true rfl⟩ rfl rfl ⟨Nat.le_of_ble_eq_true rfl, Nat.le_of_ble_eq_true rfl⟩ dX11_why_21 (fun r10 M11 h => ?_)
    refine x_if_eq (tgt := 29) C dX11_why_24 (by decide) (fun c12 => ?_) (fun c12 => ?_)
    · replace h := h.1 c12
      refine x_aload_n C dX11_why_29 0 rfl ?_
      refine x_iload_n C dX11_why_30 1 rfl ?_
      refine x_calli (rest := []) C sv_X11_302 ob11 z11 (kX11_whyNot hG _ _ h) rfl rfl (Nat.le_of_ble_eq_true rfl) ⟨Nat.le_of_ble_eq_true rfl, Nat.le_of_ble_eq_true rfl⟩ rfl rfl ⟨Nat.le_of_ble_eq_true rfl, Nat.le_of_ble_eq_true rfl⟩ dX11_why_31 (fun r13 M14 h => ?_)
      exact x_iret C E h (Nat.le_of_ble_eq_true rfl) (Nat.le_of_ble_eq_true rfl) dX11_why_34
    · replace h := h.2 c12
      refine x_iconst (v := 0) C dX11_why_27 rfl ?_
      exact x_iret C E h (Nat.le_of_ble_eq_true rfl) (Nat.le_of_ble_eq_true rfl) dX11_why_28
def rmX11_score : Room := { frames := 5, cells := 0, slots := 0, locals := 111 }
def pX11_score (M : Mem) (x1 : Int32) (Q : Int32 → Mem → Prop) : Prop :=
  ∀ M1 : Mem, M1 = up1 M 1200 0 0 0 → pX11_isDocument M1 x1 (fun r2 M3 => ((¬ r2 = 0 → pX11_bad M3 0 1 0 (fun r5 M6 => ((r5 = 0 → pX11_scoreOf M6 x1 (fun r8 M9 => Q r8 M9)) ∧ (¬ r5 = 0 → Q 0 M6)))) ∧ (r2 = 0 → pX11_bad M3 1 1 0 (fun r10 M11 => ((r10 = 0 → pX11_scoreOf M11 x1 (fun r13 M14 => Q r13 M14)) ∧ (¬ r10 = 0 → Q 0 M11))))))
set_option maxRecDepth 100000 in
set_option maxHeartbeats 400000 in
theorem kX11_score {l : Launch} {G : Gm} (hG : Gd G) (M : Mem) (x1 : Int32) {Q : Int32 → Mem → Prop} (h : pX11_score M x1 Q) : Cti l G yX11_score cX11_score 2 .int rmX11_score [.ref (ga G 11 0), .int x1] M Q := by
  refine cti_of (own := RX11) (by decide +kernel) rfl (Nat.le_of_ble_eq_true rfl) hG (fun Γ Qf hl C E => ?_)
  subst hl
  show X Γ G Qf 2 0 0 0 [(0, .ref (ga G 11 0)), (1, .int x1)] [] M
  unfold pX11_score at h
  refine x_aload_n C dX11_score_0 0 rfl ?_
  refine x_iconst (v := 0) C dX11_score_1 rfl ?_
  refine pf_11_0 C q143 z11 dX11_score_2 ?_
  refine X_nameM (fun M1 eM1 => ?_)
  replace h := h M1 eM1
  refine x_aload_n C dX11_score_5 0 rfl ?_
  refine x_aload_n C dX11_score_6 0 rfl ?_
  refine x_iload_n C dX11_score_7 1 rfl ?_
  refine x_calli (rest := [.ref (ga G 11 0)]) C sv_X11_402 ob11 z11 (kX11_isDocument hG _ _ h) rfl rfl (Nat.le_of_ble_eq_true rfl) ⟨Nat.le_of_ble_eq_true rfl, Nat.le_of_ble_eq_true rfl⟩ rfl rfl ⟨Nat.le_of_ble_eq_true rfl, Nat.le_of_ble_eq_true rfl⟩ dX11_score_8 (fun r2 M3 h => ?_)
  refine x_if_ne (tgt := 18) C dX11_score_11 (by decide) (fun c4 => ?_) (fun c4 => ?_)
  · replace h := h.1 c4
    refine x_iconst (v := 0) C dX11_score_18 rfl ?_
    refine x_iconst (v := 1) C dX11_score_19 rfl ?_
    refine x_iconst (v := 0) C dX11_score_20 rfl ?_
    refine x_calli (rest := []) C sv_X11_179 ob11 z11 (kX11_bad hG _ _ _ _ h) rfl rfl (Nat.le_of_ble_eq_true rfl) ⟨Nat.le_of_ble_eq_true rfl, Nat.le_of_ble_eq_true rfl⟩ rfl rfl ⟨Nat.le_of_ble_eq_true rfl, Nat.le_of_ble_eq_true rfl⟩ dX11_score_21 (fun r5 M6 h => ?_)
    refine x_if_eq (tgt := 29) C dX11_score_24 (by decide) (fun c7 => ?_) (fun c7 => ?_)
    · replace h := h.1 c7
      refine x_aload_n C dX11_score_29 0 rfl ?_
      refine x_iload_n C dX11_score_30 1 rfl ?_
      refine x_calli (rest := []) C sv_X11_305 ob11 z11 (kX11_scoreOf hG _ _ h) rfl rfl (Nat.le_of_ble_eq_true rfl) ⟨Nat.le_of_ble_eq_true rfl, Nat.le_of_ble_eq_true rfl⟩ rfl rfl ⟨Nat.le_of_ble_eq_true rfl, Nat.le_of_ble_eq_true rfl⟩ dX11_score_31 (fun r8 M9 h => ?_)
      exact x_iret C E h (Nat.le_of_ble_eq_true rfl) (Nat.le_of_ble_eq_true rfl) dX11_score_34
    · replace h := h.2 c7
      refine x_iconst (v := 0) C dX11_score_27 rfl ?_
      exact x_iret C E h (Nat.le_of_ble_eq_true rfl) (Nat.le_of_ble_eq_true rfl) dX11_score_28
  · replace h := h.2 c4
    refine x_iconst (v := 1) C dX11_score_14 rfl ?_
    refine x_goto (tgt := 19) C dX11_score_15 (by decide) ?_
    refine x_iconst (v := 1) C dX11_score_19 rfl ?_
    refine x_iconst (v := 0) C dX11_score_20 rfl ?_
    refine x_calli (rest := []) C sv_X11_179 ob11 z11 (kX11_bad hG _ _ _ _ h) rfl rfl (Nat.le_of_ble_eq_true rfl) ⟨Nat.le_of_ble_eq_true rfl, Nat.le_of_ble_eq_true rfl⟩ rfl rfl ⟨Nat.le_of_ble_eq_true rfl, Nat.le_of_ble_eq_true rfl⟩ dX11_score_21 (fun r10 M11 h => ?_)
    refine x_if_eq (tgt := 29) C dX11_score_24 (by decide) (fun c12 => ?_) (fun c12 => ?_)
    · replace h := h.1 c12
      refine x_aload_n C dX11_score_29 0 rfl ?_
      refine x_iload_n C dX11_score_30 1 rfl ?_
      refine x_calli (rest := []) C sv_X11_305 ob11 z11 (kX11_scoreOf hG _ _ h) rfl rfl (Nat.le_of_ble_eq_true rfl) ⟨Nat.le_of_ble_eq_true rfl, Nat.le_of_ble_eq_true rfl⟩ rfl rfl ⟨Nat.le_of_ble_eq_true rfl, Nat.le_of_ble_eq_true rfl⟩ dX11_score_31 (fun r13 M14 h => ?_)
      exact x_iret C E h (Nat.le_of_ble_eq_true rfl) (Nat.le_of_ble_eq_true rfl) dX11_score_34
    · replace h := h.2 c12
      refine x_iconst (v := 0) C dX11_score_27 rfl ?_
      exact x_iret C E h (Nat.le_of_ble_eq_true rfl) (Nat.le_of_ble_eq_true rfl) dX11_score_28
def rmX11_near : Room := { frames := 3, cells := 0, slots := 0, locals := 72 }
def pX11_near (M : Mem) (x1 : Int32) (Q : Int32 → Mem → Prop) : Prop :=
  ∀ M1 : Mem, M1 = up1 M 1200 0 0 0 → pX11_isDocument M1 x1 (fun r2 M3 => ((¬ r2 = 0 → pX11_bad M3 0 1 0 (fun r5 M6 => ((r5 = 0 → pX11_nearOf M6 x1 (fun r8 M9 => Q r8 M9)) ∧ (¬ r5 = 0 → Q 0 M6)))) ∧ (r2 = 0 → pX11_bad M3 1 1 0 (fun r10 M11 => ((r10 = 0 → pX11_nearOf M11 x1 (fun r13 M14 => Q r13 M14)) ∧ (¬ r10 = 0 → Q 0 M11))))))
set_option maxRecDepth 100000 in
set_option maxHeartbeats 400000 in
theorem kX11_near {l : Launch} {G : Gm} (hG : Gd G) (M : Mem) (x1 : Int32) {Q : Int32 → Mem → Prop} (h : pX11_near M x1 Q) : Cti l G yX11_near cX11_near 2 .int rmX11_near [.ref (ga G 11 0), .int x1] M Q := by
  refine cti_of (own := RX11) (by decide +kernel) rfl (Nat.le_of_ble_eq_true rfl) hG (fun Γ Qf hl C E => ?_)
  subst hl
  show X Γ G Qf 2 0 0 0 [(0, .ref (ga G 11 0)), (1, .int x1)] [] M
  unfold pX11_near at h
  refine x_aload_n C dX11_near_0 0 rfl ?_
  refine x_iconst (v := 0) C dX11_near_1 rfl ?_
  refine pf_11_0 C q143 z11 dX11_near_2 ?_
  refine X_nameM (fun M1 eM1 => ?_)
  replace h := h M1 eM1
  refine x_aload_n C dX11_near_5 0 rfl ?_
  refine x_aload_n C dX11_near_6 0 rfl ?_
  refine x_iload_n C dX11_near_7 1 rfl ?_
  refine x_calli (rest := [.ref (ga G 11 0)]) C sv_X11_402 ob11 z11 (kX11_isDocument hG _ _ h) rfl rfl (Nat.le_of_ble_eq_true rfl) ⟨Nat.le_of_ble_eq_true rfl, Nat.le_of_ble_eq_true rfl⟩ rfl rfl ⟨Nat.le_of_ble_eq_true rfl, Nat.le_of_ble_eq_true rfl⟩ dX11_near_8 (fun r2 M3 h => ?_)
  refine x_if_ne (tgt := 18) C dX11_near_11 (by decide) (fun c4 => ?_) (fun c4 => ?_)
  · replace h := h.1 c4
    refine x_iconst (v := 0) C dX11_near_18 rfl ?_
    refine x_iconst (v := 1) C dX11_near_19 rfl ?_
    refine x_iconst (v := 0) C dX11_near_20 rfl ?_
    refine x_calli (rest := []) C sv_X11_179 ob11 z11 (kX11_bad hG _ _ _ _ h) rfl rfl (Nat.le_of_ble_eq_true rfl) ⟨Nat.le_of_ble_eq_true rfl, Nat.le_of_ble_eq_true rfl⟩ rfl rfl ⟨Nat.le_of_ble_eq_true rfl, Nat.le_of_ble_eq_true rfl⟩ dX11_near_21 (fun r5 M6 h => ?_)
    refine x_if_eq (tgt := 29) C dX11_near_24 (by decide) (fun c7 => ?_) (fun c7 => ?_)
    · replace h := h.1 c7
      refine x_aload_n C dX11_near_29 0 rfl ?_
      refine x_iload_n C dX11_near_30 1 rfl ?_
      refine x_calli (rest := []) C sv_X11_293 ob11 z11 (kX11_nearOf hG _ _ h) rfl rfl (Nat.le_of_ble_eq_true rfl) ⟨Nat.le_of_ble_eq_true rfl, Nat.le_of_ble_eq_true rfl⟩ rfl rfl ⟨Nat.le_of_ble_eq_true rfl, Nat.le_of_ble_eq_true rfl⟩ dX11_near_31 (fun r8 M9 h => ?_)
      exact x_iret C E h (Nat.le_of_ble_eq_true rfl) (Nat.le_of_ble_eq_true rfl) dX11_near_34
    · replace h := h.2 c7
      refine x_iconst (v := 0) C dX11_near_27 rfl ?_
      exact x_iret C E h (Nat.le_of_ble_eq_true rfl) (Nat.le_of_ble_eq_true rfl) dX11_near_28
  · replace h := h.2 c4
    refine x_iconst (v := 1) C dX11_near_14 rfl ?_
    refine x_goto (tgt := 19) C dX11_near_15 (by decide) ?_
    refine x_iconst (v := 1) C dX11_near_19 rfl ?_
    refine x_iconst (v := 0) C dX11_near_20 rfl ?_
    refine x_calli (rest := []) C sv_X11_179 ob11 z11 (kX11_bad hG _ _ _ _ h) rfl rfl (Nat.le_of_ble_eq_true rfl) ⟨Nat.le_of_ble_eq_true rfl, Nat.le_of_ble_eq_true rfl⟩ rfl rfl ⟨Nat.le_of_ble_eq_true rfl, Nat.le_of_ble_eq_true rfl⟩ dX11_near_21 (fun r10 M11 h => ?_)
    refine x_if_eq (tgt := 29) C dX11_near_24 (by decide) (fun c12 => ?_) (fun c12 => ?_)
    · replace h := h.1 c12
      refine x_aload_n C dX11_near_29 0 rfl ?_
      refine x_iload_n C dX11_near_30 1 rfl ?_
      refine x_calli (rest := []) C sv_X11_293 ob11 z11 (kX11_nearOf hG _ _ h) rfl rfl (Nat.le_of_ble_eq_true rfl) ⟨Nat.le_of_ble_eq_true rfl, Nat.le_of_ble_eq_true rfl⟩ rfl rfl ⟨Nat.le_of_ble_eq_true rfl, Nat.le_of_ble_eq_true rfl⟩ dX11_near_31 (fun r13 M14 h => ?_)
      exact x_iret C E h (Nat.le_of_ble_eq_true rfl) (Nat.le_of_ble_eq_true rfl) dX11_near_34
    · replace h := h.2 c12
      refine x_iconst (v := 0) C dX11_near_27 rfl ?_
      exact x_iret C E h (Nat.le_of_ble_eq_true rfl) (Nat.le_of_ble_eq_true rfl) dX11_near_28
def rmX11_endOf : Room := { frames := 1, cells := 0, slots := 0, locals := 21 }
def bX11_endOf_95 (x1 : Int32) (x2 : Int32) (Q : Int32 → Mem → Prop) (L5 : Mem × Int32 × Int32 → Prop) (M : Mem) (y3 : Int32) (y4 : Int32) : Prop :=
  ∀ v16 : Int32, v16 = y4 + 1 → L5 (M, y3, v16)
def bX11_endOf_73 (x1 : Int32) (x2 : Int32) (Q : Int32 → Mem → Prop) (L5 : Mem × Int32 × Int32 → Prop) (M : Mem) (y3 : Int32) (y4 : Int32) (y5 : Int32) : Prop :=
  vp_in x1 64 ∧ ((¬ y5 = (M.1 1213 0 (tn x1)) → pX11_more M y3 y5 (fun r14 M15 => bX11_endOf_95 x1 x2 Q L5 M15 r14 y4)) ∧ (y5 = (M.1 1213 0 (tn x1)) → Q 300 M))
def bX11_endOf_37 (x1 : Int32) (x2 : Int32) (Q : Int32 → Mem → Prop) (L5 : Mem × Int32 × Int32 → Prop) (L37 : Mem × Int32 × Int32 × Int32 → Prop) (M : Mem) (y3 : Int32) (y4 : Int32) (y5 : Int32) : Prop :=
  vp_in x1 64 ∧ (((M.1 1213 0 (tn x1)) ≤ y5 → bX11_endOf_73 x1 x2 Q L5 M y3 y4 y5) ∧ (¬ (M.1 1213 0 (tn x1)) ≤ y5 → vp_in y5 150 ∧ vp_in y4 24 ∧ (((M.1 6212 (tn x1) (tn y5)) = (M.1 1225 0 (tn y4)) → bX11_endOf_73 x1 x2 Q L5 M y3 y4 y5) ∧ (¬ (M.1 6212 (tn x1) (tn y5)) = (M.1 1225 0 (tn y4)) → ∀ v11 : Int32, v11 = y5 + 1 → L37 (M, y3, y4, v11)))))
def bX11_endOf_5 (x1 : Int32) (x2 : Int32) (Q : Int32 → Mem → Prop) (L5 : Mem × Int32 × Int32 → Prop) (M : Mem) (y3 : Int32) (y4 : Int32) : Prop :=
  (((M.1 1218 0 0) ≤ y4 → Q y3 M) ∧ (¬ (M.1 1218 0 0) ≤ y4 → vp_in y4 24 ∧ vp_in (M.1 1225 0 (tn y4)) 256 ∧ vp_in x1 64 ∧ ((¬ (M.1 6217 (tn (M.1 1225 0 (tn y4))) (tn x1)) = 0 → ∃ n : Nat, lp (fun L s => bX11_endOf_37 x1 x2 Q L5 L s.1 s.2.1 s.2.2.1 s.2.2.2) n (M, y3, y4, x2)) ∧ ((M.1 6217 (tn (M.1 1225 0 (tn y4))) (tn x1)) = 0 → bX11_endOf_95 x1 x2 Q L5 M y3 y4))))
def pX11_endOf (M : Mem) (x1 : Int32) (x2 : Int32) (Q : Int32 → Mem → Prop) : Prop :=
  ∃ n : Nat, lp (fun L s => bX11_endOf_5 x1 x2 Q L s.1 s.2.1 s.2.2) n (M, x2, 0)
set_option maxRecDepth 100000 in
set_option maxHeartbeats 400000 in
theorem wX11_endOf_95 {Γ : Gam} {G : Gm} {Qf : State → Prop} (hG : Gd G) (C : Cx Γ G cX11_endOf 6 RX11 (some .int) rmX11_endOf) {x1 : Int32} {x2 : Int32} {Q : Int32 → Mem → Prop} (E : EndI Γ G Qf rmX11_endOf Q) {L5 : Mem × Int32 × Int32 → Prop} (hL5 : ∀ s, L5 s → X Γ G Qf 6 0 0 5 [(0, .ref (ga G 11 0)), (1, .int x1), (2, .int x2), (3, .int s.2.1), (4, .int s.2.2)] [] s.1) (M : Mem) (y3 : Int32) (y4 : Int32) (h : bX11_endOf_95 x1 x2 Q L5 M y3 y4) : X Γ G Qf 6 0 0 95 [(0, .ref (ga G 11 0)), (1, .int x1), (2, .int x2), (3, .int y3), (4, .int y4)] [] M := by
  unfold bX11_endOf_95 at h
  obtain ⟨v16, ev16⟩ : ∃ z : Int32, z = y4 + 1 := ⟨_, rfl⟩
  replace h := h v16 ev16
  refine x_iinc (v := v16) (lv' := [(4, .int v16), (0, .ref (ga G 11 0)), (1, .int x1), (2, .int x2), (3, .int y3)]) (j := 4) C dX11_endOf_95 rfl (by rw [ev16]; rfl) (Nat.le_of_ble_eq_true rfl) rfl ?_
  refine x_goto (tgt := 5) C dX11_endOf_98 (by decide) ?_
  refine X_sub (lv' := [(0, .ref (ga G 11 0)), (1, .int x1), (2, .int x2), (3, .int y3), (4, .int v16)]) [1, 2, 3, 4, 0] rfl ?_
  have w9 := hL5 (M, y3, v16) h
  dsimp only at w9
  exact w9
set_option maxRecDepth 100000 in
set_option maxHeartbeats 400000 in
theorem wX11_endOf_73 {Γ : Gam} {G : Gm} {Qf : State → Prop} (hG : Gd G) (C : Cx Γ G cX11_endOf 6 RX11 (some .int) rmX11_endOf) {x1 : Int32} {x2 : Int32} {Q : Int32 → Mem → Prop} (E : EndI Γ G Qf rmX11_endOf Q) {L5 : Mem × Int32 × Int32 → Prop} (hL5 : ∀ s, L5 s → X Γ G Qf 6 0 0 5 [(0, .ref (ga G 11 0)), (1, .int x1), (2, .int x2), (3, .int s.2.1), (4, .int s.2.2)] [] s.1) (M : Mem) (y3 : Int32) (y4 : Int32) (y5 : Int32) (h : bX11_endOf_73 x1 x2 Q L5 M y3 y4 y5) : X Γ G Qf 6 0 0 73 [(0, .ref (ga G 11 0)), (1, .int x1), (2, .int x2), (3, .int y3), (4, .int y4), (5, .int y5)] [] M := by
  unfold bX11_endOf_73 at h
  refine x_iload C dX11_endOf_73 5 rfl ?_
  refine x_aload_n C dX11_endOf_75 0 rfl ?_
  refine gf_11_13 C q161 z11 dX11_endOf_76 ?_
  refine x_iload_n C dX11_endOf_79 1 rfl ?_
  obtain ⟨f12, h⟩ := h
  refine al_1213 C z1213 f12 dX11_endOf_80 ?_
  refine x_icmp_ne (tgt := 88) C dX11_endOf_81 (by decide) (fun c13 => ?_) (fun c13 => ?_)
  · replace h := h.1 c13
    refine x_iload_n C dX11_endOf_88 3 rfl ?_
    refine x_iload C dX11_endOf_89 5 rfl ?_
    refine x_scalli (rest := []) C ss_X11_261 (kX11_more hG _ _ _ h) rfl rfl (Nat.le_of_ble_eq_true rfl) ⟨Nat.le_of_ble_eq_true rfl, Nat.le_of_ble_eq_true rfl⟩ rfl rfl ⟨Nat.le_of_ble_eq_true rfl, Nat.le_of_ble_eq_true rfl⟩ dX11_endOf_91 (fun r14 M15 h => ?_)
    refine x_istore_n (lv' := [(3, .int r14), (0, .ref (ga G 11 0)), (1, .int x1), (2, .int x2), (4, .int y4), (5, .int y5)]) C dX11_endOf_94 rfl (Nat.le_of_ble_eq_true rfl) rfl ?_
    refine X_sub (lv' := [(0, .ref (ga G 11 0)), (1, .int x1), (2, .int x2), (3, .int r14), (4, .int y4)]) [1, 2, 3, 0, 4] rfl ?_
    exact wX11_endOf_95 hG C E hL5 M15 r14 y4 h
  · replace h := h.2 c13
    refine x_sipush (v := 300) C dX11_endOf_84 rfl ?_
    exact x_iret C E h (Nat.le_of_ble_eq_true rfl) (Nat.le_of_ble_eq_true rfl) dX11_endOf_87
set_option maxRecDepth 100000 in
set_option maxHeartbeats 400000 in
theorem wX11_endOf_37 {Γ : Gam} {G : Gm} {Qf : State → Prop} (hG : Gd G) (C : Cx Γ G cX11_endOf 6 RX11 (some .int) rmX11_endOf) {x1 : Int32} {x2 : Int32} {Q : Int32 → Mem → Prop} (E : EndI Γ G Qf rmX11_endOf Q) {L5 : Mem × Int32 × Int32 → Prop} (hL5 : ∀ s, L5 s → X Γ G Qf 6 0 0 5 [(0, .ref (ga G 11 0)), (1, .int x1), (2, .int x2), (3, .int s.2.1), (4, .int s.2.2)] [] s.1) {L37 : Mem × Int32 × Int32 × Int32 → Prop} (hL37 : ∀ s, L37 s → X Γ G Qf 6 0 0 37 [(0, .ref (ga G 11 0)), (1, .int x1), (2, .int x2), (3, .int s.2.1), (4, .int s.2.2.1), (5, .int s.2.2.2)] [] s.1) (M : Mem) (y3 : Int32) (y4 : Int32) (y5 : Int32) (h : bX11_endOf_37 x1 x2 Q L5 L37 M y3 y4 y5) : X Γ G Qf 6 0 0 37 [(0, .ref (ga G 11 0)), (1, .int x1), (2, .int x2), (3, .int y3), (4, .int y4), (5, .int y5)] [] M := by
  unfold bX11_endOf_37 at h
  refine x_iload C dX11_endOf_37 5 rfl ?_
  refine x_aload_n C dX11_endOf_39 0 rfl ?_
  refine gf_11_13 C q161 z11 dX11_endOf_40 ?_
  refine x_iload_n C dX11_endOf_43 1 rfl ?_
  obtain ⟨f6, h⟩ := h
  refine al_1213 C z1213 f6 dX11_endOf_44 ?_
  refine x_icmp_ge (tgt := 73) C dX11_endOf_45 (by decide) (fun c7 => ?_) (fun c7 => ?_)
  · replace h := h.1 c7
    refine X_sub (lv' := [(0, .ref (ga G 11 0)), (1, .int x1), (2, .int x2), (3, .int y3), (4, .int y4), (5, .int y5)]) [0, 1, 2, 3, 4, 5] rfl ?_
    exact wX11_endOf_73 hG C E hL5 M y3 y4 y5 h
  · replace h := h.2 c7
    refine x_aload_n C dX11_endOf_48 0 rfl ?_
    refine gf_11_12 C q158 z11 dX11_endOf_49 ?_
    refine x_iload_n C dX11_endOf_52 1 rfl ?_
    refine al_1212 C z1212 f6 dX11_endOf_53 ?_
    refine x_iload C dX11_endOf_54 5 rfl ?_
    obtain ⟨f8, h⟩ := h
    refine al_6212 C (vp_lt f6) f8 dX11_endOf_56 ?_
    refine x_aload_n C dX11_endOf_57 0 rfl ?_
    refine gf_11_25 C q169 z11 dX11_endOf_58 ?_
    refine x_iload C dX11_endOf_61 4 rfl ?_
    obtain ⟨f9, h⟩ := h
    refine al_1225 C z1225 f9 dX11_endOf_63 ?_
    refine x_icmp_eq (tgt := 73) C dX11_endOf_64 (by decide) (fun c10 => ?_) (fun c10 => ?_)
    · replace h := h.1 c10
      refine X_sub (lv' := [(0, .ref (ga G 11 0)), (1, .int x1), (2, .int x2), (3, .int y3), (4, .int y4), (5, .int y5)]) [0, 1, 2, 3, 4, 5] rfl ?_
      exact wX11_endOf_73 hG C E hL5 M y3 y4 y5 h
    · replace h := h.2 c10
      obtain ⟨v11, ev11⟩ : ∃ z : Int32, z = y5 + 1 := ⟨_, rfl⟩
      replace h := h v11 ev11
      refine x_iinc (v := v11) (lv' := [(5, .int v11), (0, .ref (ga G 11 0)), (1, .int x1), (2, .int x2), (3, .int y3), (4, .int y4)]) (j := 5) C dX11_endOf_67 rfl (by rw [ev11]; rfl) (Nat.le_of_ble_eq_true rfl) rfl ?_
      refine x_goto (tgt := 37) C dX11_endOf_70 (by decide) ?_
      refine X_sub (lv' := [(0, .ref (ga G 11 0)), (1, .int x1), (2, .int x2), (3, .int y3), (4, .int y4), (5, .int v11)]) [1, 2, 3, 4, 5, 0] rfl ?_
      have w9 := hL37 (M, y3, y4, v11) h
      dsimp only at w9
      exact w9
set_option maxRecDepth 100000 in
set_option maxHeartbeats 400000 in
theorem wX11_endOf_5 {Γ : Gam} {G : Gm} {Qf : State → Prop} (hG : Gd G) (C : Cx Γ G cX11_endOf 6 RX11 (some .int) rmX11_endOf) {x1 : Int32} {x2 : Int32} {Q : Int32 → Mem → Prop} (E : EndI Γ G Qf rmX11_endOf Q) {L5 : Mem × Int32 × Int32 → Prop} (hL5 : ∀ s, L5 s → X Γ G Qf 6 0 0 5 [(0, .ref (ga G 11 0)), (1, .int x1), (2, .int x2), (3, .int s.2.1), (4, .int s.2.2)] [] s.1) (M : Mem) (y3 : Int32) (y4 : Int32) (h : bX11_endOf_5 x1 x2 Q L5 M y3 y4) : X Γ G Qf 6 0 0 5 [(0, .ref (ga G 11 0)), (1, .int x1), (2, .int x2), (3, .int y3), (4, .int y4)] [] M := by
  unfold bX11_endOf_5 at h
  refine x_iload C dX11_endOf_5 4 rfl ?_
  refine x_aload_n C dX11_endOf_7 0 rfl ?_
  refine gf_11_18 C q168 z11 dX11_endOf_8 ?_
  refine x_icmp_ge (tgt := 101) C dX11_endOf_11 (by decide) (fun c1 => ?_) (fun c1 => ?_)
  · replace h := h.1 c1
    refine x_iload_n C dX11_endOf_101 3 rfl ?_
    exact x_iret C E h (Nat.le_of_ble_eq_true rfl) (Nat.le_of_ble_eq_true rfl) dX11_endOf_102
  · replace h := h.2 c1
    refine x_aload_n C dX11_endOf_14 0 rfl ?_
    refine gf_11_17 C q163 z11 dX11_endOf_15 ?_
    refine x_aload_n C dX11_endOf_18 0 rfl ?_
    refine gf_11_25 C q169 z11 dX11_endOf_19 ?_
    refine x_iload C dX11_endOf_22 4 rfl ?_
    obtain ⟨f2, h⟩ := h
    refine al_1225 C z1225 f2 dX11_endOf_24 ?_
    obtain ⟨f3, h⟩ := h
    refine al_1217 C z1217 f3 dX11_endOf_25 ?_
    refine x_iload_n C dX11_endOf_26 1 rfl ?_
    obtain ⟨f4, h⟩ := h
    refine al_6217 C (vp_lt f3) f4 dX11_endOf_27 ?_
    refine x_if_ne (tgt := 34) C dX11_endOf_28 (by decide) (fun c5 => ?_) (fun c5 => ?_)
    · replace h := h.1 c5
      refine x_iload_n C dX11_endOf_34 2 rfl ?_
      refine x_istore (lv' := [(5, .int x2), (0, .ref (ga G 11 0)), (1, .int x1), (2, .int x2), (3, .int y3), (4, .int y4)]) C dX11_endOf_35 (Nat.le_of_ble_eq_true rfl) rfl ?_
      obtain ⟨n9, h⟩ := h
      refine X_sub (lv' := [(0, .ref (ga G 11 0)), (1, .int x1), (2, .int x2), (3, .int y3), (4, .int y4), (5, .int x2)]) [1, 2, 3, 4, 5, 0] rfl ?_
      have hb : ∀ (L : Mem × Int32 × Int32 × Int32 → Prop) (s : Mem × Int32 × Int32 × Int32), (∀ t, L t → X Γ G Qf 6 0 0 37 [(0, .ref (ga G 11 0)), (1, .int x1), (2, .int x2), (3, .int t.2.1), (4, .int t.2.2.1), (5, .int t.2.2.2)] [] t.1) → bX11_endOf_37 x1 x2 Q L5 L s.1 s.2.1 s.2.2.1 s.2.2.2 → X Γ G Qf 6 0 0 37 [(0, .ref (ga G 11 0)), (1, .int x1), (2, .int x2), (3, .int s.2.1), (4, .int s.2.2.1), (5, .int s.2.2.2)] [] s.1 := fun L s hL h => wX11_endOf_37 hG C E hL5 hL s.1 s.2.1 s.2.2.1 s.2.2.2 h
      have w9 := lp_walk (P := fun s : Mem × Int32 × Int32 × Int32 => X Γ G Qf 6 0 0 37 [(0, .ref (ga G 11 0)), (1, .int x1), (2, .int x2), (3, .int s.2.1), (4, .int s.2.2.1), (5, .int s.2.2.2)] [] s.1) h hb
      dsimp only at w9
      exact w9
    · replace h := h.2 c5
      refine x_goto (tgt := 95) C dX11_endOf_31 (by decide) ?_
      refine X_sub (lv' := [(0, .ref (ga G 11 0)), (1, .int x1), (2, .int x2), (3, .int y3), (4, .int y4)]) [0, 1, 2, 3, 4] rfl ?_
      exact wX11_endOf_95 hG C E hL5 M y3 y4 h
set_option maxRecDepth 100000 in
set_option maxHeartbeats 400000 in
theorem kX11_endOf {l : Launch} {G : Gm} (hG : Gd G) (M : Mem) (x1 : Int32) (x2 : Int32) {Q : Int32 → Mem → Prop} (h : pX11_endOf M x1 x2 Q) : Cti l G yX11_endOf cX11_endOf 6 .int rmX11_endOf [.ref (ga G 11 0), .int x1, .int x2] M Q := by
  refine cti_of (own := RX11) (by decide +kernel) rfl (Nat.le_of_ble_eq_true rfl) hG (fun Γ Qf hl C E => ?_)
  subst hl
  show X Γ G Qf 6 0 0 0 [(0, .ref (ga G 11 0)), (1, .int x1), (2, .int x2)] [] M
  unfold pX11_endOf at h
  refine x_iload_n C dX11_endOf_0 2 rfl ?_
  refine x_istore_n (lv' := [(3, .int x2), (0, .ref (ga G 11 0)), (1, .int x1), (2, .int x2)]) C dX11_endOf_1 rfl (Nat.le_of_ble_eq_true rfl) rfl ?_
  refine x_iconst (v := 0) C dX11_endOf_2 rfl ?_
  refine x_istore (lv' := [(4, .int 0), (3, .int x2), (0, .ref (ga G 11 0)), (1, .int x1), (2, .int x2)]) C dX11_endOf_3 (Nat.le_of_ble_eq_true rfl) rfl ?_
  obtain ⟨n9, h⟩ := h
  refine X_sub (lv' := [(0, .ref (ga G 11 0)), (1, .int x1), (2, .int x2), (3, .int x2), (4, .int 0)]) [2, 3, 4, 1, 0] rfl ?_
  have hb : ∀ (L : Mem × Int32 × Int32 → Prop) (s : Mem × Int32 × Int32), (∀ t, L t → X Γ G Qf 6 0 0 5 [(0, .ref (ga G 11 0)), (1, .int x1), (2, .int x2), (3, .int t.2.1), (4, .int t.2.2)] [] t.1) → bX11_endOf_5 x1 x2 Q L s.1 s.2.1 s.2.2 → X Γ G Qf 6 0 0 5 [(0, .ref (ga G 11 0)), (1, .int x1), (2, .int x2), (3, .int s.2.1), (4, .int s.2.2)] [] s.1 := fun L s hL h => wX11_endOf_5 hG C E hL s.1 s.2.1 s.2.2 h
  have w9 := lp_walk (P := fun s : Mem × Int32 × Int32 => X Γ G Qf 6 0 0 5 [(0, .ref (ga G 11 0)), (1, .int x1), (2, .int x2), (3, .int s.2.1), (4, .int s.2.2)] [] s.1) h hb
  dsimp only at w9
  exact w9
