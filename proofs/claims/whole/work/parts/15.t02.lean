def rmX10_opened : Room := { frames := 10, cells := 4, slots := 24, locals := 167 }
def pX10_opened (M : Mem) (x1 : Int32) (x2 : Int32) (x3 : Int32) (Q : Int32 → Mem → Prop) (K : String → Mem → Prop) : Prop :=
  pX10_needScoredBlock M x2 x3 (fun M2 => pX10_needBetween M2 x1 1 10 (fun M4 => pX2_run M4 x1 (M4.1 507 0 0) (fun M6 => vp_in x2 24 ∧ vp_in x3 32 ∧ Q (M6.1 105 (tn x2) (tn x3)) M6)) K) K
set_option maxRecDepth 100000 in
set_option maxHeartbeats 400000 in
theorem kX10_opened {l : Launch} {G : Gm} (hG : Gd G) (hl0 : l.stackTraces = false) (M : Mem) (x1 : Int32) (x2 : Int32) (x3 : Int32) {Q : Int32 → Mem → Prop} {K : String → Mem → Prop} (h : pX10_opened M x1 x2 x3 Q K) : Cxi l G yX10_opened cX10_opened 4 .int rmX10_opened [.ref (ga G 10 0), .int x1, .int x2, .int x3] M Q K := by
  refine cxi_of hl0 (own := RX10) (by decide +kernel) rfl (Nat.le_of_ble_eq_true rfl) hG (fun Γ Qf hl C E EX => ?_)
  subst hl
  show X Γ G Qf 4 0 0 0 [(0, .ref (ga G 10 0)), (1, .int x1), (2, .int x2), (3, .int x3)] [] M
  unfold pX10_opened at h
  refine x_aload_n C dX10_opened_0 0 rfl ?_
  refine x_iload_n C dX10_opened_1 2 rfl ?_
  refine x_iload_n C dX10_opened_2 3 rfl ?_
  refine x_tcallv (rest := []) C EX sv_X10_375 ob10 z10 (kX10_needScoredBlock hG EX.2.2 _ _ _ h) rfl rfl (Nat.le_of_ble_eq_true rfl) ⟨Nat.le_of_ble_eq_true rfl, Nat.le_of_ble_eq_true rfl⟩ rfl rfl ⟨Nat.le_of_ble_eq_true rfl, Nat.le_of_ble_eq_true rfl⟩ dX10_opened_3 (fun M2 h => ?_)
  refine x_aload_n C dX10_opened_6 0 rfl ?_
  refine x_iload_n C dX10_opened_7 1 rfl ?_
  refine x_iconst (v := 1) C dX10_opened_8 rfl ?_
  refine x_bipush (v := 10) C dX10_opened_9 rfl ?_
  refine x_tcallv (rest := []) C EX sv_X10_106 ob10 z10 (kX10_needBetween hG EX.2.2 _ _ _ _ h) rfl rfl (Nat.le_of_ble_eq_true rfl) ⟨Nat.le_of_ble_eq_true rfl, Nat.le_of_ble_eq_true rfl⟩ rfl rfl ⟨Nat.le_of_ble_eq_true rfl, Nat.le_of_ble_eq_true rfl⟩ dX10_opened_11 (fun M4 h => ?_)
  refine x_aload_n C dX10_opened_14 0 rfl ?_
  refine gf_10_14 C q142 z10 dX10_opened_15 ?_
  refine x_iload_n C dX10_opened_18 1 rfl ?_
  refine x_aload_n C dX10_opened_19 0 rfl ?_
  refine gf_10_6 C q137 z10 dX10_opened_20 ?_
  refine gf_4_7 C q850 z4 dX10_opened_23 ?_
  refine x_callv (rest := []) C sv_X10_342 ob2 z2 (kX2_run hG _ _ _ h) rfl rfl (Nat.le_of_ble_eq_true rfl) ⟨Nat.le_of_ble_eq_true rfl, Nat.le_of_ble_eq_true rfl⟩ rfl rfl ⟨Nat.le_of_ble_eq_true rfl, Nat.le_of_ble_eq_true rfl⟩ dX10_opened_26 (fun M6 h => ?_)
  refine x_aload_n C dX10_opened_29 0 rfl ?_
  refine gf_10_14 C q142 z10 dX10_opened_30 ?_
  refine gf_2_2 C q881 z2 dX10_opened_33 ?_
  refine x_iload_n C dX10_opened_36 2 rfl ?_
  obtain ⟨f7, h⟩ := h
  refine al_302 C z302 f7 dX10_opened_37 ?_
  refine gf_0_5 C q882 (vp_lt f7) dX10_opened_38 ?_
  refine x_iload_n C dX10_opened_41 3 rfl ?_
  obtain ⟨f8, h⟩ := h
  refine al_105 C (vp_lt f7) f8 dX10_opened_42 ?_
  exact x_iret C E h (Nat.le_of_ble_eq_true rfl) (Nat.le_of_ble_eq_true rfl) dX10_opened_43
def rmX10_inside : Room := { frames := 9, cells := 2, slots := 12, locals := 145 }
def bX10_inside_96 (x1 : Int32) (x2 : Int32) (Q : Int32 → Mem → Prop) (K : String → Mem → Prop) (L45 : Mem × Int32 × Int32 × Int32 → Prop) (M : Mem) (y4 : Int32) (y5 : Int32) (y6 : Int32) : Prop :=
  ∀ v16 : Int32, v16 = y6 + 1 → L45 (M, y4, y5, v16)
def bX10_inside_45 (x1 : Int32) (x2 : Int32) (Q : Int32 → Mem → Prop) (K : String → Mem → Prop) (L45 : Mem × Int32 × Int32 × Int32 → Prop) (M : Mem) (y4 : Int32) (y5 : Int32) (y6 : Int32) : Prop :=
  ((y4 ≤ y6 → Q y5 M) ∧ (¬ y4 ≤ y6 → vp_in x1 255 ∧ vp_in y6 64 ∧ ∀ v9 : Int32, v9 = (M.1 5510 (tn x1) (tn y6)) → pX3_whyNot M v9 (-1) (fun r10 M11 => ((¬ r10 = 0 → bX10_inside_96 x1 x2 Q K L45 M11 y4 y5 y6) ∧ (r10 = 0 → pX3_total M11 v9 (-1) (fun r13 M14 => ∀ v15 : Int32, v15 = (imax y5 r13) → bX10_inside_96 x1 x2 Q K L45 M14 y4 v15 y6))))))
def pX10_inside (M : Mem) (x1 : Int32) (x2 : Int32) (Q : Int32 → Mem → Prop) (K : String → Mem → Prop) : Prop :=
  pX10_needBlock M x1 x2 (fun M2 => ∀ v3 : Int32, v3 = (x2 * (M2.1 507 0 0)) → vp_in x1 255 ∧ ∀ v5 : Int32, v5 = (imin (v3 + (M2.1 507 0 0)) (M2.1 511 0 (tn x1))) → ∃ n : Nat, lp (fun L s => bX10_inside_45 x1 x2 Q K L s.1 s.2.1 s.2.2.1 s.2.2.2) n (M2, v5, 0, v3)) K
set_option maxRecDepth 100000 in
set_option maxHeartbeats 400000 in
theorem wX10_inside_96 {Γ : Gam} {G : Gm} {Qf : State → Prop} (hG : Gd G) (C : Cx Γ G cX10_inside 8 RX10 (some .int) rmX10_inside) {x1 : Int32} {x2 : Int32} {Q : Int32 → Mem → Prop} {K : String → Mem → Prop} (E : EndI Γ G Qf rmX10_inside Q) (EX : EndX Γ G Qf rmX10_inside K) {L45 : Mem × Int32 × Int32 × Int32 → Prop} (hL45 : ∀ s, L45 s → X Γ G Qf 8 2 12 45 [(0, .ref (ga G 10 0)), (1, .int x1), (4, .int s.2.1), (5, .int s.2.2.1), (6, .int s.2.2.2)] [] s.1) (M : Mem) (y4 : Int32) (y5 : Int32) (y6 : Int32) (h : bX10_inside_96 x1 x2 Q K L45 M y4 y5 y6) : X Γ G Qf 8 2 12 96 [(0, .ref (ga G 10 0)), (1, .int x1), (4, .int y4), (5, .int y5), (6, .int y6)] [] M := by
  unfold bX10_inside_96 at h
  obtain ⟨v16, ev16⟩ : ∃ z : Int32, z = y6 + 1 := ⟨_, rfl⟩
  replace h := h v16 ev16
  refine x_iinc (v := v16) (lv' := [(6, .int v16), (0, .ref (ga G 10 0)), (1, .int x1), (4, .int y4), (5, .int y5)]) (j := 4) C dX10_inside_96 rfl (by rw [ev16]; rfl) (Nat.le_of_ble_eq_true rfl) rfl ?_
  refine x_goto (tgt := 45) C dX10_inside_99 (by decide) ?_
  refine X_sub (lv' := [(0, .ref (ga G 10 0)), (1, .int x1), (4, .int y4), (5, .int y5), (6, .int v16)]) [1, 2, 3, 4, 0] rfl ?_
  have w9 := hL45 (M, y4, y5, v16) h
  dsimp only at w9
  exact w9
set_option maxRecDepth 100000 in
set_option maxHeartbeats 400000 in
theorem wX10_inside_45 {Γ : Gam} {G : Gm} {Qf : State → Prop} (hG : Gd G) (C : Cx Γ G cX10_inside 8 RX10 (some .int) rmX10_inside) {x1 : Int32} {x2 : Int32} {Q : Int32 → Mem → Prop} {K : String → Mem → Prop} (E : EndI Γ G Qf rmX10_inside Q) (EX : EndX Γ G Qf rmX10_inside K) {L45 : Mem × Int32 × Int32 × Int32 → Prop} (hL45 : ∀ s, L45 s → X Γ G Qf 8 2 12 45 [(0, .ref (ga G 10 0)), (1, .int x1), (4, .int s.2.1), (5, .int s.2.2.1), (6, .int s.2.2.2)] [] s.1) (M : Mem) (y4 : Int32) (y5 : Int32) (y6 : Int32) (h : bX10_inside_45 x1 x2 Q K L45 M y4 y5 y6) : X Γ G Qf 8 2 12 45 [(0, .ref (ga G 10 0)), (1, .int x1), (4, .int y4), (5, .int y5), (6, .int y6)] [] M := by
  unfold bX10_inside_45 at h
  refine x_iload C dX10_inside_45 4 rfl ?_
  refine x_iload C dX10_inside_47 2 rfl ?_
  refine x_icmp_ge (tgt := 102) C dX10_inside_49 (by decide) (fun c6 => ?_) (fun c6 => ?_)
  · replace h := h.1 c6
    refine x_iload C dX10_inside_102 3 rfl ?_
    exact x_iret C E h (Nat.le_of_ble_eq_true rfl) (Nat.le_of_ble_eq_true rfl) dX10_inside_104
  · replace h := h.2 c6
    refine x_aload_n C dX10_inside_52 0 rfl ?_
    refine gf_10_6 C q137 z10 dX10_inside_53 ?_
    refine gf_4_10 C q867 z4 dX10_inside_56 ?_
    refine x_iload_n C dX10_inside_59 1 rfl ?_
    obtain ⟨f7, h⟩ := h
    refine al_510 C z510 f7 dX10_inside_60 ?_
    refine x_iload C dX10_inside_61 4 rfl ?_
    obtain ⟨f8, h⟩ := h
    refine al_5510 C (vp_lt f7) f8 dX10_inside_63 ?_
    refine X_name (fun v9 ev9 => ?_)
    replace h := h v9 ev9
    refine x_istore (lv' := [(7, .int v9), (0, .ref (ga G 10 0)), (1, .int x1), (4, .int y4), (5, .int y5), (6, .int y6)]) C dX10_inside_64 (Nat.le_of_ble_eq_true rfl) rfl ?_
    refine x_aload_n C dX10_inside_66 1 rfl ?_
    refine gf_10_11 C q139 z10 dX10_inside_67 ?_
    refine x_iload C dX10_inside_70 0 rfl ?_
    refine x_iconst (v := (-1)) C dX10_inside_72 rfl ?_
    refine x_calli (rest := []) C sv_X10_309 ob3 z3 (kX3_whyNot hG _ _ _ h) rfl rfl (Nat.le_of_ble_eq_true rfl) ⟨Nat.le_of_ble_eq_true rfl, Nat.le_of_ble_eq_true rfl⟩ rfl rfl ⟨Nat.le_of_ble_eq_true rfl, Nat.le_of_ble_eq_true rfl⟩ dX10_inside_73 (fun r10 M11 h => ?_)
    refine x_if_ne (tgt := 96) C dX10_inside_76 (by decide) (fun c12 => ?_) (fun c12 => ?_)
    · replace h := h.1 c12
      refine X_sub (lv' := [(0, .ref (ga G 10 0)), (1, .int x1), (4, .int y4), (5, .int y5), (6, .int y6)]) [1, 2, 3, 4, 5] rfl ?_
      exact wX10_inside_96 hG C E EX hL45 M11 y4 y5 y6 h
    · replace h := h.2 c12
      refine x_iload C dX10_inside_79 4 rfl ?_
      refine x_aload_n C dX10_inside_81 1 rfl ?_
      refine gf_10_11 C q139 z10 dX10_inside_82 ?_
      refine x_iload C dX10_inside_85 0 rfl ?_
      refine x_iconst (v := (-1)) C dX10_inside_87 rfl ?_
      refine x_calli (rest := [.int y5]) C sv_X10_312 ob3 z3 (kX3_total hG _ _ _ h) rfl rfl (Nat.le_of_ble_eq_true rfl) ⟨Nat.le_of_ble_eq_true rfl, Nat.le_of_ble_eq_true rfl⟩ rfl rfl ⟨Nat.le_of_ble_eq_true rfl, Nat.le_of_ble_eq_true rfl⟩ dX10_inside_88 (fun r13 M14 h => ?_)
      refine x_max C sm_X10_387 (Nat.le_of_ble_eq_true rfl) (Nat.le_of_ble_eq_true rfl) (Nat.le_of_ble_eq_true rfl) (Nat.le_of_ble_eq_true rfl) dX10_inside_91 ?_
      refine X_name (fun v15 ev15 => ?_)
      replace h := h v15 ev15
      refine x_istore (lv' := [(5, .int v15), (7, .int v9), (0, .ref (ga G 10 0)), (1, .int x1), (4, .int y4), (6, .int y6)]) C dX10_inside_94 (Nat.le_of_ble_eq_true rfl) rfl ?_
      refine X_sub (lv' := [(0, .ref (ga G 10 0)), (1, .int x1), (4, .int y4), (5, .int v15), (6, .int y6)]) [2, 3, 4, 0, 5] rfl ?_
      exact wX10_inside_96 hG C E EX hL45 M14 y4 v15 y6 h
set_option maxRecDepth 100000 in
set_option maxHeartbeats 400000 in
theorem kX10_inside {l : Launch} {G : Gm} (hG : Gd G) (hl0 : l.stackTraces = false) (M : Mem) (x1 : Int32) (x2 : Int32) {Q : Int32 → Mem → Prop} {K : String → Mem → Prop} (h : pX10_inside M x1 x2 Q K) : Cxi l G yX10_inside cX10_inside 8 .int rmX10_inside [.ref (ga G 10 0), .int x1, .int x2] M Q K := by
  refine cxi_of hl0 (own := RX10) (by decide +kernel) rfl (Nat.le_of_ble_eq_true rfl) hG (fun Γ Qf hl C E EX => ?_)
  subst hl
  show X Γ G Qf 8 0 0 0 [(0, .ref (ga G 10 0)), (1, .int x1), (2, .int x2)] [] M
  unfold pX10_inside at h
  refine x_aload_n C dX10_inside_0 0 rfl ?_
  refine x_iload_n C dX10_inside_1 1 rfl ?_
  refine x_iload_n C dX10_inside_2 2 rfl ?_
  refine x_tcallv (rest := []) C EX sv_X10_244 ob10 z10 (kX10_needBlock hG EX.2.2 _ _ _ h) rfl rfl (Nat.le_of_ble_eq_true rfl) ⟨Nat.le_of_ble_eq_true rfl, Nat.le_of_ble_eq_true rfl⟩ rfl rfl ⟨Nat.le_of_ble_eq_true rfl, Nat.le_of_ble_eq_true rfl⟩ dX10_inside_3 (fun M2 h => ?_)
  refine x_iload_n C dX10_inside_6 2 rfl ?_
  refine x_aload_n C dX10_inside_7 0 rfl ?_
  refine gf_10_6 C q137 z10 dX10_inside_8 ?_
  refine gf_4_7 C q850 z4 dX10_inside_11 ?_
  refine x_imul C dX10_inside_14 ?_
  refine X_name (fun v3 ev3 => ?_)
  replace h := h v3 ev3
  refine x_istore_n (lv' := [(3, .int v3), (0, .ref (ga G 10 0)), (1, .int x1), (2, .int x2)]) C dX10_inside_15 rfl (Nat.le_of_ble_eq_true rfl) rfl ?_
  refine x_iload_n C dX10_inside_16 0 rfl ?_
  refine x_aload_n C dX10_inside_17 1 rfl ?_
  refine gf_10_6 C q137 z10 dX10_inside_18 ?_
  refine gf_4_7 C q850 z4 dX10_inside_21 ?_
  refine x_iadd C dX10_inside_24 ?_
  refine x_aload_n C dX10_inside_25 1 rfl ?_
  refine gf_10_6 C q137 z10 dX10_inside_26 ?_
  refine gf_4_11 C q858 z4 dX10_inside_29 ?_
  refine x_iload_n C dX10_inside_32 2 rfl ?_
  obtain ⟨f4, h⟩ := h
  refine al_511 C z511 f4 dX10_inside_33 ?_
  refine x_min C sm_X10_130 (Nat.le_of_ble_eq_true rfl) (Nat.le_of_ble_eq_true rfl) (Nat.le_of_ble_eq_true rfl) (Nat.le_of_ble_eq_true rfl) dX10_inside_34 ?_
  refine X_name (fun v5 ev5 => ?_)
  replace h := h v5 ev5
  refine x_istore (lv' := [(4, .int v5), (3, .int v3), (0, .ref (ga G 10 0)), (1, .int x1), (2, .int x2)]) C dX10_inside_37 (Nat.le_of_ble_eq_true rfl) rfl ?_
  refine x_iconst (v := 0) C dX10_inside_39 rfl ?_
  refine x_istore (lv' := [(5, .int 0), (4, .int v5), (3, .int v3), (0, .ref (ga G 10 0)), (1, .int x1), (2, .int x2)]) C dX10_inside_40 (Nat.le_of_ble_eq_true rfl) rfl ?_
  refine x_iload_n C dX10_inside_42 2 rfl ?_
  refine x_istore (lv' := [(6, .int v3), (5, .int 0), (4, .int v5), (3, .int v3), (0, .ref (ga G 10 0)), (1, .int x1), (2, .int x2)]) C dX10_inside_43 (Nat.le_of_ble_eq_true rfl) rfl ?_
  obtain ⟨n9, h⟩ := h
  refine X_sub (lv' := [(0, .ref (ga G 10 0)), (1, .int x1), (4, .int v5), (5, .int 0), (6, .int v3)]) [4, 5, 2, 1, 0] rfl ?_
  have hb : ∀ (L : Mem × Int32 × Int32 × Int32 → Prop) (s : Mem × Int32 × Int32 × Int32), (∀ t, L t → X Γ G Qf 8 2 12 45 [(0, .ref (ga G 10 0)), (1, .int x1), (4, .int t.2.1), (5, .int t.2.2.1), (6, .int t.2.2.2)] [] t.1) → bX10_inside_45 x1 x2 Q K L s.1 s.2.1 s.2.2.1 s.2.2.2 → X Γ G Qf 8 2 12 45 [(0, .ref (ga G 10 0)), (1, .int x1), (4, .int s.2.1), (5, .int s.2.2.1), (6, .int s.2.2.2)] [] s.1 := fun L s hL h => wX10_inside_45 hG C E EX hL s.1 s.2.1 s.2.2.1 s.2.2.2 h
  have w9 := lp_walk (P := fun s : Mem × Int32 × Int32 × Int32 => X Γ G Qf 8 2 12 45 [(0, .ref (ga G 10 0)), (1, .int x1), (4, .int s.2.1), (5, .int s.2.2.1), (6, .int s.2.2.2)] [] s.1) h hb
  dsimp only at w9
  exact w9
def rmX10_bits : Room := { frames := 9, cells := 1, slots := 6, locals := 146 }
def pX10_bits (M : Mem) (x1 : Int32) (Q : Int32 → Mem → Prop) (K : String → Mem → Prop) : Prop :=
  pX10_needSize M x1 (fun M2 => pX5_allBits M2 x1 (fun r3 M4 => Q r3 M4)) K
set_option maxRecDepth 100000 in
set_option maxHeartbeats 400000 in
theorem kX10_bits {l : Launch} {G : Gm} (hG : Gd G) (hl0 : l.stackTraces = false) (M : Mem) (x1 : Int32) {Q : Int32 → Mem → Prop} {K : String → Mem → Prop} (h : pX10_bits M x1 Q K) : Cxi l G yX10_bits cX10_bits 2 .int rmX10_bits [.ref (ga G 10 0), .int x1] M Q K := by
  refine cxi_of hl0 (own := RX10) (by decide +kernel) rfl (Nat.le_of_ble_eq_true rfl) hG (fun Γ Qf hl C E EX => ?_)
  subst hl
  show X Γ G Qf 2 0 0 0 [(0, .ref (ga G 10 0)), (1, .int x1)] [] M
  unfold pX10_bits at h
  refine x_aload_n C dX10_bits_0 0 rfl ?_
  refine x_iload_n C dX10_bits_1 1 rfl ?_
  refine x_tcallv (rest := []) C EX sv_X10_170 ob10 z10 (kX10_needSize hG EX.2.2 _ _ h) rfl rfl (Nat.le_of_ble_eq_true rfl) ⟨Nat.le_of_ble_eq_true rfl, Nat.le_of_ble_eq_true rfl⟩ rfl rfl ⟨Nat.le_of_ble_eq_true rfl, Nat.le_of_ble_eq_true rfl⟩ dX10_bits_2 (fun M2 h => ?_)
  refine x_aload_n C dX10_bits_5 0 rfl ?_
  refine gf_10_7 C q136 z10 dX10_bits_6 ?_
  refine x_iload_n C dX10_bits_9 1 rfl ?_
  refine x_calli (rest := []) C sv_X10_195 ob5 z5 (kX5_allBits hG _ _ h) rfl rfl (Nat.le_of_ble_eq_true rfl) ⟨Nat.le_of_ble_eq_true rfl, Nat.le_of_ble_eq_true rfl⟩ rfl rfl ⟨Nat.le_of_ble_eq_true rfl, Nat.le_of_ble_eq_true rfl⟩ dX10_bits_10 (fun r3 M4 h => ?_)
  exact x_iret C E h (Nat.le_of_ble_eq_true rfl) (Nat.le_of_ble_eq_true rfl) dX10_bits_13
def rmX10_swift : Room := { frames := 8, cells := 2, slots := 12, locals := 183 }
def bX10_swift_58 (x1 : Int32) (x2 : Int32) (Q : Int32 → Mem → Prop) (K : String → Mem → Prop) (L28 : Mem × Int32 × Int32 × Int32 → Prop) (M : Mem) (y3 : Int32) (y4 : Int32) (y5 : Int32) : Prop :=
  ∀ v12 : Int32, v12 = y5 + 1 → L28 (M, y3, y4, v12)
def bX10_swift_28 (x1 : Int32) (x2 : Int32) (Q : Int32 → Mem → Prop) (K : String → Mem → Prop) (L28 : Mem × Int32 × Int32 × Int32 → Prop) (M : Mem) (y3 : Int32) (y4 : Int32) (y5 : Int32) : Prop :=
  ((8 < y5 → ((¬ x2 = 0 → Q y4 M) ∧ (x2 = 0 → Q y3 M))) ∧ (¬ 8 < y5 → pX10_workBy M x1 y5 (fun r9 M10 => ((y4 ≤ r9 → bX10_swift_58 x1 x2 Q K L28 M10 y3 y4 y5) ∧ (¬ y4 ≤ r9 → bX10_swift_58 x1 x2 Q K L28 M10 y5 r9 y5)))))
def pX10_swift (M : Mem) (x1 : Int32) (x2 : Int32) (Q : Int32 → Mem → Prop) (K : String → Mem → Prop) : Prop :=
  pX10_needBetween M x1 1 10 (fun M2 => pX10_needBetween M2 x2 0 1 (fun M4 => pX10_workBy M4 x1 2 (fun r5 M6 => ∃ n : Nat, lp (fun L s => bX10_swift_28 x1 x2 Q K L s.1 s.2.1 s.2.2.1 s.2.2.2) n (M6, 2, r5, 3))) K) K
set_option maxRecDepth 100000 in
set_option maxHeartbeats 400000 in
theorem wX10_swift_58 {Γ : Gam} {G : Gm} {Qf : State → Prop} (hG : Gd G) (C : Cx Γ G cX10_swift 7 RX10 (some .int) rmX10_swift) {x1 : Int32} {x2 : Int32} {Q : Int32 → Mem → Prop} {K : String → Mem → Prop} (E : EndI Γ G Qf rmX10_swift Q) (EX : EndX Γ G Qf rmX10_swift K) {L28 : Mem × Int32 × Int32 × Int32 → Prop} (hL28 : ∀ s, L28 s → X Γ G Qf 7 2 12 28 [(0, .ref (ga G 10 0)), (1, .int x1), (2, .int x2), (3, .int s.2.1), (4, .int s.2.2.1), (5, .int s.2.2.2)] [] s.1) (M : Mem) (y3 : Int32) (y4 : Int32) (y5 : Int32) (h : bX10_swift_58 x1 x2 Q K L28 M y3 y4 y5) : X Γ G Qf 7 2 12 58 [(0, .ref (ga G 10 0)), (1, .int x1), (2, .int x2), (3, .int y3), (4, .int y4), (5, .int y5)] [] M := by
  unfold bX10_swift_58 at h
  obtain ⟨v12, ev12⟩ : ∃ z : Int32, z = y5 + 1 := ⟨_, rfl⟩
  replace h := h v12 ev12
  refine x_iinc (v := v12) (lv' := [(5, .int v12), (0, .ref (ga G 10 0)), (1, .int x1), (2, .int x2), (3, .int y3), (4, .int y4)]) (j := 5) C dX10_swift_58 rfl (by rw [ev12]; rfl) (Nat.le_of_ble_eq_true rfl) rfl ?_
  refine x_goto (tgt := 28) C dX10_swift_61 (by decide) ?_
  refine X_sub (lv' := [(0, .ref (ga G 10 0)), (1, .int x1), (2, .int x2), (3, .int y3), (4, .int y4), (5, .int v12)]) [1, 2, 3, 4, 5, 0] rfl ?_
  have w9 := hL28 (M, y3, y4, v12) h
  dsimp only at w9
  exact w9
set_option maxRecDepth 100000 in
set_option maxHeartbeats 400000 in
theorem wX10_swift_28 {Γ : Gam} {G : Gm} {Qf : State → Prop} (hG : Gd G) (C : Cx Γ G cX10_swift 7 RX10 (some .int) rmX10_swift) {x1 : Int32} {x2 : Int32} {Q : Int32 → Mem → Prop} {K : String → Mem → Prop} (E : EndI Γ G Qf rmX10_swift Q) (EX : EndX Γ G Qf rmX10_swift K) {L28 : Mem × Int32 × Int32 × Int32 → Prop} (hL28 : ∀ s, L28 s → X Γ G Qf 7 2 12 28 [(0, .ref (ga G 10 0)), (1, .int x1), (2, .int x2), (3, .int s.2.1), (4, .int s.2.2.1), (5, .int s.2.2.2)] [] s.1) (M : Mem) (y3 : Int32) (y4 : Int32) (y5 : Int32) (h : bX10_swift_28 x1 x2 Q K L28 M y3 y4 y5) : X Γ G Qf 7 2 12 28 [(0, .ref (ga G 10 0)), (1, .int x1), (2, .int x2), (3, .int y3), (4, .int y4), (5, .int y5)] [] M := by
  unfold bX10_swift_28 at h
  refine x_iload C dX10_swift_28 5 rfl ?_
  refine x_bipush (v := 8) C dX10_swift_30 rfl ?_
  refine x_icmp_gt (tgt := 64) C dX10_swift_32 (by decide) (fun c7 => ?_) (fun c7 => ?_)
  · replace h := h.1 c7
    refine x_iload_n C dX10_swift_64 2 rfl ?_
    refine x_if_ne (tgt := 72) C dX10_swift_65 (by decide) (fun c8 => ?_) (fun c8 => ?_)
    · replace h := h.1 c8
      refine x_iload C dX10_swift_72 4 rfl ?_
      exact x_iret C E h (Nat.le_of_ble_eq_true rfl) (Nat.le_of_ble_eq_true rfl) dX10_swift_74
    · replace h := h.2 c8
      refine x_iload_n C dX10_swift_68 3 rfl ?_
      refine x_goto (tgt := 74) C dX10_swift_69 (by decide) ?_
      exact x_iret C E h (Nat.le_of_ble_eq_true rfl) (Nat.le_of_ble_eq_true rfl) dX10_swift_74
  · replace h := h.2 c7
    refine x_aload_n C dX10_swift_35 0 rfl ?_
    refine x_iload_n C dX10_swift_36 1 rfl ?_
    refine x_iload C dX10_swift_37 5 rfl ?_
    refine x_calli (rest := []) C sv_X10_390 ob10 z10 (kX10_workBy hG _ _ _ h) rfl rfl (Nat.le_of_ble_eq_true rfl) ⟨Nat.le_of_ble_eq_true rfl, Nat.le_of_ble_eq_true rfl⟩ rfl rfl ⟨Nat.le_of_ble_eq_true rfl, Nat.le_of_ble_eq_true rfl⟩ dX10_swift_39 (fun r9 M10 h => ?_)
    refine x_istore (lv' := [(6, .int r9), (0, .ref (ga G 10 0)), (1, .int x1), (2, .int x2), (3, .int y3), (4, .int y4), (5, .int y5)]) C dX10_swift_42 (Nat.le_of_ble_eq_true rfl) rfl ?_
    refine x_iload C dX10_swift_44 0 rfl ?_
    refine x_iload C dX10_swift_46 5 rfl ?_
    refine x_icmp_ge (tgt := 58) C dX10_swift_48 (by decide) (fun c11 => ?_) (fun c11 => ?_)
    · replace h := h.1 c11
      refine X_sub (lv' := [(0, .ref (ga G 10 0)), (1, .int x1), (2, .int x2), (3, .int y3), (4, .int y4), (5, .int y5)]) [1, 2, 3, 4, 5, 6] rfl ?_
      exact wX10_swift_58 hG C E EX hL28 M10 y3 y4 y5 h
    · replace h := h.2 c11
      refine x_iload C dX10_swift_51 0 rfl ?_
      refine x_istore (lv' := [(4, .int r9), (6, .int r9), (0, .ref (ga G 10 0)), (1, .int x1), (2, .int x2), (3, .int y3), (5, .int y5)]) C dX10_swift_53 (Nat.le_of_ble_eq_true rfl) rfl ?_
      refine x_iload C dX10_swift_55 6 rfl ?_
      refine x_istore_n (lv' := [(3, .int y5), (4, .int r9), (6, .int r9), (0, .ref (ga G 10 0)), (1, .int x1), (2, .int x2), (5, .int y5)]) C dX10_swift_57 rfl (Nat.le_of_ble_eq_true rfl) rfl ?_
      refine X_sub (lv' := [(0, .ref (ga G 10 0)), (1, .int x1), (2, .int x2), (3, .int y5), (4, .int r9), (5, .int y5)]) [3, 4, 5, 0, 1, 6] rfl ?_
      exact wX10_swift_58 hG C E EX hL28 M10 y5 r9 y5 h
set_option maxRecDepth 100000 in
set_option maxHeartbeats 400000 in
theorem kX10_swift {l : Launch} {G : Gm} (hG : Gd G) (hl0 : l.stackTraces = false) (M : Mem) (x1 : Int32) (x2 : Int32) {Q : Int32 → Mem → Prop} {K : String → Mem → Prop} (h : pX10_swift M x1 x2 Q K) : Cxi l G yX10_swift cX10_swift 7 .int rmX10_swift [.ref (ga G 10 0), .int x1, .int x2] M Q K := by
  refine cxi_of hl0 (own := RX10) (by decide +kernel) rfl (Nat.le_of_ble_eq_true rfl) hG (fun Γ Qf hl C E EX => ?_)
  subst hl
  show X Γ G Qf 7 0 0 0 [(0, .ref (ga G 10 0)), (1, .int x1), (2, .int x2)] [] M
  unfold pX10_swift at h
  refine x_aload_n C dX10_swift_0 0 rfl ?_
  refine x_iload_n C dX10_swift_1 1 rfl ?_
  refine x_iconst (v := 1) C dX10_swift_2 rfl ?_
  refine x_bipush (v := 10) C dX10_swift_3 rfl ?_
  refine x_tcallv (rest := []) C EX sv_X10_106 ob10 z10 (kX10_needBetween hG EX.2.2 _ _ _ _ h) rfl rfl (Nat.le_of_ble_eq_true rfl) ⟨Nat.le_of_ble_eq_true rfl, Nat.le_of_ble_eq_true rfl⟩ rfl rfl ⟨Nat.le_of_ble_eq_true rfl, Nat.le_of_ble_eq_true rfl⟩ dX10_swift_5 (fun M2 h => ?_)
  refine x_aload_n C dX10_swift_8 0 rfl ?_
  refine x_iload_n C dX10_swift_9 2 rfl ?_
  refine x_iconst (v := 0) C dX10_swift_10 rfl ?_
  refine x_iconst (v := 1) C dX10_swift_11 rfl ?_
  refine x_tcallv (rest := []) C EX sv_X10_106 ob10 z10 (kX10_needBetween hG EX.2.2 _ _ _ _ h) rfl rfl (Nat.le_of_ble_eq_true rfl) ⟨Nat.le_of_ble_eq_true rfl, Nat.le_of_ble_eq_true rfl⟩ rfl rfl ⟨Nat.le_of_ble_eq_true rfl, Nat.le_of_ble_eq_true rfl⟩ dX10_swift_12 (fun M4 h => ?_)
  refine x_iconst (v := 2) C dX10_swift_15 rfl ?_
  refine x_istore_n (lv' := [(3, .int 2), (0, .ref (ga G 10 0)), (1, .int x1), (2, .int x2)]) C dX10_swift_16 rfl (Nat.le_of_ble_eq_true rfl) rfl ?_
  refine x_aload_n C dX10_swift_17 1 rfl ?_
  refine x_iload_n C dX10_swift_18 2 rfl ?_
  refine x_iconst (v := 2) C dX10_swift_19 rfl ?_
  refine x_calli (rest := []) C sv_X10_390 ob10 z10 (kX10_workBy hG _ _ _ h) rfl rfl (Nat.le_of_ble_eq_true rfl) ⟨Nat.le_of_ble_eq_true rfl, Nat.le_of_ble_eq_true rfl⟩ rfl rfl ⟨Nat.le_of_ble_eq_true rfl, Nat.le_of_ble_eq_true rfl⟩ dX10_swift_20 (fun r5 M6 h => ?_)
  refine x_istore (lv' := [(4, .int r5), (3, .int 2), (0, .ref (ga G 10 0)), (1, .int x1), (2, .int x2)]) C dX10_swift_23 (Nat.le_of_ble_eq_true rfl) rfl ?_
  refine x_iconst (v := 3) C dX10_swift_25 rfl ?_
  refine x_istore (lv' := [(5, .int 3), (4, .int r5), (3, .int 2), (0, .ref (ga G 10 0)), (1, .int x1), (2, .int x2)]) C dX10_swift_26 (Nat.le_of_ble_eq_true rfl) rfl ?_
  obtain ⟨n9, h⟩ := h
  refine X_sub (lv' := [(0, .ref (ga G 10 0)), (1, .int x1), (2, .int x2), (3, .int 2), (4, .int r5), (5, .int 3)]) [3, 4, 5, 2, 1, 0] rfl ?_
  have hb : ∀ (L : Mem × Int32 × Int32 × Int32 → Prop) (s : Mem × Int32 × Int32 × Int32), (∀ t, L t → X Γ G Qf 7 2 12 28 [(0, .ref (ga G 10 0)), (1, .int x1), (2, .int x2), (3, .int t.2.1), (4, .int t.2.2.1), (5, .int t.2.2.2)] [] t.1) → bX10_swift_28 x1 x2 Q K L s.1 s.2.1 s.2.2.1 s.2.2.2 → X Γ G Qf 7 2 12 28 [(0, .ref (ga G 10 0)), (1, .int x1), (2, .int x2), (3, .int s.2.1), (4, .int s.2.2.1), (5, .int s.2.2.2)] [] s.1 := fun L s hL h => wX10_swift_28 hG C E EX hL s.1 s.2.1 s.2.2.1 s.2.2.2 h
  have w9 := lp_walk (P := fun s : Mem × Int32 × Int32 × Int32 => X Γ G Qf 7 2 12 28 [(0, .ref (ga G 10 0)), (1, .int x1), (2, .int x2), (3, .int s.2.1), (4, .int s.2.2.1), (5, .int s.2.2.2)] [] s.1) h hb
  dsimp only at w9
  exact w9
def rmX10_blockOf : Room := { frames := 8, cells := 2, slots := 12, locals := 123 }
def bX10_blockOf_77 (x1 : Int32) (x2 : Int32) (Q : Int32 → Mem → Prop) (K : String → Mem → Prop) (L29 : Mem × Int32 × Int32 → Prop) (M : Mem) (y3 : Int32) (y4 : Int32) : Prop :=
  ∀ v12 : Int32, v12 = y4 + 1 → L29 (M, y3, v12)
def bX10_blockOf_29 (x1 : Int32) (x2 : Int32) (Q : Int32 → Mem → Prop) (K : String → Mem → Prop) (L29 : Mem × Int32 × Int32 → Prop) (M : Mem) (y3 : Int32) (y4 : Int32) : Prop :=
  ((y3 ≤ y4 → Q (-1) M) ∧ (¬ y3 ≤ y4 → pX5_measure M x1 y4 (M.1 507 0 0) (fun M9 => ((x2 < (M9.1 601 0 0) → bX10_blockOf_77 x1 x2 Q K L29 M9 y3 y4) ∧ (¬ x2 < (M9.1 601 0 0) → (((M9.1 602 0 0) < x2 → bX10_blockOf_77 x1 x2 Q K L29 M9 y3 y4) ∧ (¬ (M9.1 602 0 0) < x2 → Q y4 M9)))))))
def pX10_blockOf (M : Mem) (x1 : Int32) (x2 : Int32) (Q : Int32 → Mem → Prop) (K : String → Mem → Prop) : Prop :=
  pX10_needWord M x1 (fun M2 => pX10_needDocument M2 x2 (fun M4 => pX4_blocksOf M4 x1 (M4.1 507 0 0) (fun r5 M6 => ∃ n : Nat, lp (fun L s => bX10_blockOf_29 x1 x2 Q K L s.1 s.2.1 s.2.2) n (M6, r5, 0))) K) K
set_option maxRecDepth 100000 in
set_option maxHeartbeats 400000 in
theorem wX10_blockOf_77 {Γ : Gam} {G : Gm} {Qf : State → Prop} (hG : Gd G) (C : Cx Γ G cX10_blockOf 5 RX10 (some .int) rmX10_blockOf) {x1 : Int32} {x2 : Int32} {Q : Int32 → Mem → Prop} {K : String → Mem → Prop} (E : EndI Γ G Qf rmX10_blockOf Q) (EX : EndX Γ G Qf rmX10_blockOf K) {L29 : Mem × Int32 × Int32 → Prop} (hL29 : ∀ s, L29 s → X Γ G Qf 5 2 12 29 [(0, .ref (ga G 10 0)), (1, .int x1), (2, .int x2), (3, .int s.2.1), (4, .int s.2.2)] [] s.1) (M : Mem) (y3 : Int32) (y4 : Int32) (h : bX10_blockOf_77 x1 x2 Q K L29 M y3 y4) : X Γ G Qf 5 2 12 77 [(0, .ref (ga G 10 0)), (1, .int x1), (2, .int x2), (3, .int y3), (4, .int y4)] [] M := by
  unfold bX10_blockOf_77 at h
  obtain ⟨v12, ev12⟩ : ∃ z : Int32, z = y4 + 1 := ⟨_, rfl⟩
  replace h := h v12 ev12
  refine x_iinc (v := v12) (lv' := [(4, .int v12), (0, .ref (ga G 10 0)), (1, .int x1), (2, .int x2), (3, .int y3)]) (j := 4) C dX10_blockOf_77 rfl (by rw [ev12]; rfl) (Nat.le_of_ble_eq_true rfl) rfl ?_
  refine x_goto (tgt := 29) C dX10_blockOf_80 (by decide) ?_
  refine X_sub (lv' := [(0, .ref (ga G 10 0)), (1, .int x1), (2, .int x2), (3, .int y3), (4, .int v12)]) [1, 2, 3, 4, 0] rfl ?_
  have w9 := hL29 (M, y3, v12) h
  dsimp only at w9
  exact w9
set_option maxRecDepth 100000 in
set_option maxHeartbeats 400000 in
theorem wX10_blockOf_29 {Γ : Gam} {G : Gm} {Qf : State → Prop} (hG : Gd G) (C : Cx Γ G cX10_blockOf 5 RX10 (some .int) rmX10_blockOf) {x1 : Int32} {x2 : Int32} {Q : Int32 → Mem → Prop} {K : String → Mem → Prop} (E : EndI Γ G Qf rmX10_blockOf Q) (EX : EndX Γ G Qf rmX10_blockOf K) {L29 : Mem × Int32 × Int32 → Prop} (hL29 : ∀ s, L29 s → X Γ G Qf 5 2 12 29 [(0, .ref (ga G 10 0)), (1, .int x1), (2, .int x2), (3, .int s.2.1), (4, .int s.2.2)] [] s.1) (M : Mem) (y3 : Int32) (y4 : Int32) (h : bX10_blockOf_29 x1 x2 Q K L29 M y3 y4) : X Γ G Qf 5 2 12 29 [(0, .ref (ga G 10 0)), (1, .int x1), (2, .int x2), (3, .int y3), (4, .int y4)] [] M := by
  unfold bX10_blockOf_29 at h
  refine x_iload C dX10_blockOf_29 4 rfl ?_
  refine x_iload_n C dX10_blockOf_31 3 rfl ?_
  refine x_icmp_ge (tgt := 83) C dX10_blockOf_32 (by decide) (fun c7 => ?_) (fun c7 => ?_)
  · replace h := h.1 c7
    refine x_iconst (v := (-1)) C dX10_blockOf_83 rfl ?_
    exact x_iret C E h (Nat.le_of_ble_eq_true rfl) (Nat.le_of_ble_eq_true rfl) dX10_blockOf_84
  · replace h := h.2 c7
    refine x_aload_n C dX10_blockOf_35 0 rfl ?_
    refine gf_10_7 C q136 z10 dX10_blockOf_36 ?_
    refine x_iload_n C dX10_blockOf_39 1 rfl ?_
    refine x_iload C dX10_blockOf_40 4 rfl ?_
    refine x_aload_n C dX10_blockOf_42 0 rfl ?_
    refine gf_10_6 C q137 z10 dX10_blockOf_43 ?_
    refine gf_4_7 C q850 z4 dX10_blockOf_46 ?_
    refine x_callv (rest := []) C sv_X10_248 ob5 z5 (kX5_measure hG _ _ _ _ h) rfl rfl (Nat.le_of_ble_eq_true rfl) ⟨Nat.le_of_ble_eq_true rfl, Nat.le_of_ble_eq_true rfl⟩ rfl rfl ⟨Nat.le_of_ble_eq_true rfl, Nat.le_of_ble_eq_true rfl⟩ dX10_blockOf_49 (fun M9 h => ?_)
    refine x_aload_n C dX10_blockOf_52 0 rfl ?_
    refine gf_10_7 C q136 z10 dX10_blockOf_53 ?_
    refine gf_5_1 C q859 z5 dX10_blockOf_56 ?_
    refine x_iload_n C dX10_blockOf_59 2 rfl ?_
    refine x_icmp_gt (tgt := 77) C dX10_blockOf_60 (by decide) (fun c10 => ?_) (fun c10 => ?_)
    · replace h := h.1 c10
      refine X_sub (lv' := [(0, .ref (ga G 10 0)), (1, .int x1), (2, .int x2), (3, .int y3), (4, .int y4)]) [0, 1, 2, 3, 4] rfl ?_
      exact wX10_blockOf_77 hG C E EX hL29 M9 y3 y4 h
    · replace h := h.2 c10
      refine x_iload_n C dX10_blockOf_63 2 rfl ?_
      refine x_aload_n C dX10_blockOf_64 0 rfl ?_
      refine gf_10_7 C q136 z10 dX10_blockOf_65 ?_
      refine gf_5_2 C q860 z5 dX10_blockOf_68 ?_
      refine x_icmp_gt (tgt := 77) C dX10_blockOf_71 (by decide) (fun c11 => ?_) (fun c11 => ?_)
      · replace h := h.1 c11
        refine X_sub (lv' := [(0, .ref (ga G 10 0)), (1, .int x1), (2, .int x2), (3, .int y3), (4, .int y4)]) [0, 1, 2, 3, 4] rfl ?_
        exact wX10_blockOf_77 hG C E EX hL29 M9 y3 y4 h
      · replace h := h.2 c11
        refine x_iload C dX10_blockOf_74 4 rfl ?_
        exact x_iret C E h (Nat.le_of_ble_eq_true rfl) (Nat.le_of_ble_eq_true rfl) dX10_blockOf_76
set_option maxRecDepth 100000 in
set_option maxHeartbeats 400000 in
theorem kX10_blockOf {l : Launch} {G : Gm} (hG : Gd G) (hl0 : l.stackTraces = false) (M : Mem) (x1 : Int32) (x2 : Int32) {Q : Int32 → Mem → Prop} {K : String → Mem → Prop} (h : pX10_blockOf M x1 x2 Q K) : Cxi l G yX10_blockOf cX10_blockOf 5 .int rmX10_blockOf [.ref (ga G 10 0), .int x1, .int x2] M Q K := by
  refine cxi_of hl0 (own := RX10) (by decide +kernel) rfl (Nat.le_of_ble_eq_true rfl) hG (fun Γ Qf hl C E EX => ?_)
  subst hl
  show X Γ G Qf 5 0 0 0 [(0, .ref (ga G 10 0)), (1, .int x1), (2, .int x2)] [] M
  unfold pX10_blockOf at h
  refine x_aload_n C dX10_blockOf_0 0 rfl ?_
  refine x_iload_n C dX10_blockOf_1 1 rfl ?_
  refine x_tcallv (rest := []) C EX sv_X10_217 ob10 z10 (kX10_needWord hG EX.2.2 _ _ h) rfl rfl (Nat.le_of_ble_eq_true rfl) ⟨Nat.le_of_ble_eq_true rfl, Nat.le_of_ble_eq_true rfl⟩ rfl rfl ⟨Nat.le_of_ble_eq_true rfl, Nat.le_of_ble_eq_true rfl⟩ dX10_blockOf_2 (fun M2 h => ?_)
  refine x_aload_n C dX10_blockOf_5 0 rfl ?_
  refine x_iload_n C dX10_blockOf_6 2 rfl ?_
  refine x_tcallv (rest := []) C EX sv_X10_156 ob10 z10 (kX10_needDocument hG EX.2.2 _ _ h) rfl rfl (Nat.le_of_ble_eq_true rfl) ⟨Nat.le_of_ble_eq_true rfl, Nat.le_of_ble_eq_true rfl⟩ rfl rfl ⟨Nat.le_of_ble_eq_true rfl, Nat.le_of_ble_eq_true rfl⟩ dX10_blockOf_7 (fun M4 h => ?_)
  refine x_aload_n C dX10_blockOf_10 0 rfl ?_
  refine gf_10_6 C q137 z10 dX10_blockOf_11 ?_
  refine x_iload_n C dX10_blockOf_14 1 rfl ?_
  refine x_aload_n C dX10_blockOf_15 0 rfl ?_
  refine gf_10_6 C q137 z10 dX10_blockOf_16 ?_
  refine gf_4_7 C q850 z4 dX10_blockOf_19 ?_
  refine x_calli (rest := []) C sv_X10_226 ob4 z4 (kX4_blocksOf hG _ _ _ h) rfl rfl (Nat.le_of_ble_eq_true rfl) ⟨Nat.le_of_ble_eq_true rfl, Nat.le_of_ble_eq_true rfl⟩ rfl rfl ⟨Nat.le_of_ble_eq_true rfl, Nat.le_of_ble_eq_true rfl⟩ dX10_blockOf_22 (fun r5 M6 h => ?_)
  refine x_istore_n (lv' := [(3, .int r5), (0, .ref (ga G 10 0)), (1, .int x1), (2, .int x2)]) C dX10_blockOf_25 rfl (Nat.le_of_ble_eq_true rfl) rfl ?_
  refine x_iconst (v := 0) C dX10_blockOf_26 rfl ?_
  refine x_istore (lv' := [(4, .int 0), (3, .int r5), (0, .ref (ga G 10 0)), (1, .int x1), (2, .int x2)]) C dX10_blockOf_27 (Nat.le_of_ble_eq_true rfl) rfl ?_
  obtain ⟨n9, h⟩ := h
  refine X_sub (lv' := [(0, .ref (ga G 10 0)), (1, .int x1), (2, .int x2), (3, .int r5), (4, .int 0)]) [2, 3, 4, 1, 0] rfl ?_
  have hb : ∀ (L : Mem × Int32 × Int32 → Prop) (s : Mem × Int32 × Int32), (∀ t, L t → X Γ G Qf 5 2 12 29 [(0, .ref (ga G 10 0)), (1, .int x1), (2, .int x2), (3, .int t.2.1), (4, .int t.2.2)] [] t.1) → bX10_blockOf_29 x1 x2 Q K L s.1 s.2.1 s.2.2 → X Γ G Qf 5 2 12 29 [(0, .ref (ga G 10 0)), (1, .int x1), (2, .int x2), (3, .int s.2.1), (4, .int s.2.2)] [] s.1 := fun L s hL h => wX10_blockOf_29 hG C E EX hL s.1 s.2.1 s.2.2 h
  have w9 := lp_walk (P := fun s : Mem × Int32 × Int32 => X Γ G Qf 5 2 12 29 [(0, .ref (ga G 10 0)), (1, .int x1), (2, .int x2), (3, .int s.2.1), (4, .int s.2.2)] [] s.1) h hb
  dsimp only at w9
  exact w9
def rmX10_spread : Room := { frames := 8, cells := 1, slots := 6, locals := 125 }
def bX10_spread_39 (x1 : Int32) (Q : Int32 → Mem → Prop) (K : String → Mem → Prop) (L12 : Mem × Int32 × Int32 → Prop) (M : Mem) (y2 : Int32) (y3 : Int32) : Prop :=
  ∀ v7 : Int32, v7 = y3 + 1 → L12 (M, y2, v7)
def bX10_spread_12 (x1 : Int32) (Q : Int32 → Mem → Prop) (K : String → Mem → Prop) (L12 : Mem × Int32 × Int32 → Prop) (M : Mem) (y2 : Int32) (y3 : Int32) : Prop :=
  (((M.1 1001 0 0) ≤ y3 → Q y2 M) ∧ (¬ (M.1 1001 0 0) ≤ y3 → vp_in y3 255 ∧ ((¬ (M.1 511 0 (tn y3)) = x1 → bX10_spread_39 x1 Q K L12 M y2 y3) ∧ ((M.1 511 0 (tn y3)) = x1 → ∀ v6 : Int32, v6 = y2 + 1 → bX10_spread_39 x1 Q K L12 M v6 y3))))
def pX10_spread (M : Mem) (x1 : Int32) (Q : Int32 → Mem → Prop) (K : String → Mem → Prop) : Prop :=
  pX10_needBetween M x1 0 64 (fun M2 => ∃ n : Nat, lp (fun L s => bX10_spread_12 x1 Q K L s.1 s.2.1 s.2.2) n (M2, 0, 0)) K
set_option maxRecDepth 100000 in
set_option maxHeartbeats 400000 in
theorem wX10_spread_39 {Γ : Gam} {G : Gm} {Qf : State → Prop} (hG : Gd G) (C : Cx Γ G cX10_spread 4 RX10 (some .int) rmX10_spread) {x1 : Int32} {Q : Int32 → Mem → Prop} {K : String → Mem → Prop} (E : EndI Γ G Qf rmX10_spread Q) (EX : EndX Γ G Qf rmX10_spread K) {L12 : Mem × Int32 × Int32 → Prop} (hL12 : ∀ s, L12 s → X Γ G Qf 4 1 6 12 [(0, .ref (ga G 10 0)), (1, .int x1), (2, .int s.2.1), (3, .int s.2.2)] [] s.1) (M : Mem) (y2 : Int32) (y3 : Int32) (h : bX10_spread_39 x1 Q K L12 M y2 y3) : X Γ G Qf 4 1 6 39 [(0, .ref (ga G 10 0)), (1, .int x1), (2, .int y2), (3, .int y3)] [] M := by
  unfold bX10_spread_39 at h
  obtain ⟨v7, ev7⟩ : ∃ z : Int32, z = y3 + 1 := ⟨_, rfl⟩
  replace h := h v7 ev7
  refine x_iinc (v := v7) (lv' := [(3, .int v7), (0, .ref (ga G 10 0)), (1, .int x1), (2, .int y2)]) (j := 3) C dX10_spread_39 rfl (by rw [ev7]; rfl) (Nat.le_of_ble_eq_true rfl) rfl ?_
  refine x_goto (tgt := 12) C dX10_spread_42 (by decide) ?_
  refine X_sub (lv' := [(0, .ref (ga G 10 0)), (1, .int x1), (2, .int y2), (3, .int v7)]) [1, 2, 3, 0] rfl ?_
  have w9 := hL12 (M, y2, v7) h
  dsimp only at w9
  exact w9
set_option maxRecDepth 100000 in
set_option maxHeartbeats 400000 in
theorem wX10_spread_12 {Γ : Gam} {G : Gm} {Qf : State → Prop} (hG : Gd G) (C : Cx Γ G cX10_spread 4 RX10 (some .int) rmX10_spread) {x1 : Int32} {Q : Int32 → Mem → Prop} {K : String → Mem → Prop} (E : EndI Γ G Qf rmX10_spread Q) (EX : EndX Γ G Qf rmX10_spread K) {L12 : Mem × Int32 × Int32 → Prop} (hL12 : ∀ s, L12 s → X Γ G Qf 4 1 6 12 [(0, .ref (ga G 10 0)), (1, .int x1), (2, .int s.2.1), (3, .int s.2.2)] [] s.1) (M : Mem) (y2 : Int32) (y3 : Int32) (h : bX10_spread_12 x1 Q K L12 M y2 y3) : X Γ G Qf 4 1 6 12 [(0, .ref (ga G 10 0)), (1, .int x1), (2, .int y2), (3, .int y3)] [] M := by
  unfold bX10_spread_12 at h
  refine x_iload_n C dX10_spread_12 3 rfl ?_
  refine x_aload_n C dX10_spread_13 0 rfl ?_
  refine gf_10_5 C q849 z10 dX10_spread_14 ?_
  refine gf_9_1 C q853 z9 dX10_spread_17 ?_
  refine x_icmp_ge (tgt := 45) C dX10_spread_20 (by decide) (fun c3 => ?_) (fun c3 => ?_)
  · replace h := h.1 c3
    refine x_iload_n C dX10_spread_45 2 rfl ?_
    exact x_iret C E h (Nat.le_of_ble_eq_true rfl) (Nat.le_of_ble_eq_true rfl) dX10_spread_46
  · replace h := h.2 c3
    refine x_aload_n C dX10_spread_23 0 rfl ?_
    refine gf_10_6 C q137 z10 dX10_spread_24 ?_
    refine gf_4_11 C q858 z4 dX10_spread_27 ?_
    refine x_iload_n C dX10_spread_30 3 rfl ?_
    obtain ⟨f4, h⟩ := h
    refine al_511 C z511 f4 dX10_spread_31 ?_
    refine x_iload_n C dX10_spread_32 1 rfl ?_
    refine x_icmp_ne (tgt := 39) C dX10_spread_33 (by decide) (fun c5 => ?_) (fun c5 => ?_)
    · replace h := h.1 c5
      refine X_sub (lv' := [(0, .ref (ga G 10 0)), (1, .int x1), (2, .int y2), (3, .int y3)]) [0, 1, 2, 3] rfl ?_
      exact wX10_spread_39 hG C E EX hL12 M y2 y3 h
    · replace h := h.2 c5
      obtain ⟨v6, ev6⟩ : ∃ z : Int32, z = y2 + 1 := ⟨_, rfl⟩
      replace h := h v6 ev6
      refine x_iinc (v := v6) (lv' := [(2, .int v6), (0, .ref (ga G 10 0)), (1, .int x1), (3, .int y3)]) (j := 2) C dX10_spread_36 rfl (by rw [ev6]; rfl) (Nat.le_of_ble_eq_true rfl) rfl ?_
      refine X_sub (lv' := [(0, .ref (ga G 10 0)), (1, .int x1), (2, .int v6), (3, .int y3)]) [1, 2, 0, 3] rfl ?_
      exact wX10_spread_39 hG C E EX hL12 M v6 y3 h
set_option maxRecDepth 100000 in
set_option maxHeartbeats 400000 in
theorem kX10_spread {l : Launch} {G : Gm} (hG : Gd G) (hl0 : l.stackTraces = false) (M : Mem) (x1 : Int32) {Q : Int32 → Mem → Prop} {K : String → Mem → Prop} (h : pX10_spread M x1 Q K) : Cxi l G yX10_spread cX10_spread 4 .int rmX10_spread [.ref (ga G 10 0), .int x1] M Q K := by
  refine cxi_of hl0 (own := RX10) (by decide +kernel) rfl (Nat.le_of_ble_eq_true rfl) hG (fun Γ Qf hl C E EX => ?_)
  subst hl
  show X Γ G Qf 4 0 0 0 [(0, .ref (ga G 10 0)), (1, .int x1)] [] M
  unfold pX10_spread at h
  refine x_aload_n C dX10_spread_0 0 rfl ?_
  refine x_iload_n C dX10_spread_1 1 rfl ?_
  refine x_iconst (v := 0) C dX10_spread_2 rfl ?_
  refine x_bipush (v := 64) C dX10_spread_3 rfl ?_
  refine x_tcallv (rest := []) C EX sv_X10_106 ob10 z10 (kX10_needBetween hG EX.2.2 _ _ _ _ h) rfl rfl (Nat.le_of_ble_eq_true rfl) ⟨Nat.le_of_ble_eq_true rfl, Nat.le_of_ble_eq_true rfl⟩ rfl rfl ⟨Nat.le_of_ble_eq_true rfl, Nat.le_of_ble_eq_true rfl⟩ dX10_spread_5 (fun M2 h => ?_)
  refine x_iconst (v := 0) C dX10_spread_8 rfl ?_
  refine x_istore_n (lv' := [(2, .int 0), (0, .ref (ga G 10 0)), (1, .int x1)]) C dX10_spread_9 rfl (Nat.le_of_ble_eq_true rfl) rfl ?_
  refine x_iconst (v := 0) C dX10_spread_10 rfl ?_
  refine x_istore_n (lv' := [(3, .int 0), (2, .int 0), (0, .ref (ga G 10 0)), (1, .int x1)]) C dX10_spread_11 rfl (Nat.le_of_ble_eq_true rfl) rfl ?_
  obtain ⟨n9, h⟩ := h
  refine X_sub (lv' := [(0, .ref (ga G 10 0)), (1, .int x1), (2, .int 0), (3, .int 0)]) [2, 3, 1, 0] rfl ?_
  have hb : ∀ (L : Mem × Int32 × Int32 → Prop) (s : Mem × Int32 × Int32), (∀ t, L t → X Γ G Qf 4 1 6 12 [(0, .ref (ga G 10 0)), (1, .int x1), (2, .int t.2.1), (3, .int t.2.2)] [] t.1) → bX10_spread_12 x1 Q K L s.1 s.2.1 s.2.2 → X Γ G Qf 4 1 6 12 [(0, .ref (ga G 10 0)), (1, .int x1), (2, .int s.2.1), (3, .int s.2.2)] [] s.1 := fun L s hL h => wX10_spread_12 hG C E EX hL s.1 s.2.1 s.2.2 h
  have w9 := lp_walk (P := fun s : Mem × Int32 × Int32 => X Γ G Qf 4 1 6 12 [(0, .ref (ga G 10 0)), (1, .int x1), (2, .int s.2.1), (3, .int s.2.2)] [] s.1) h hb
  dsimp only at w9
  exact w9
def rmX10_nearest : Room := { frames := 8, cells := 1, slots := 6, locals := 123 }
def bX10_nearest_69 (x1 : Int32) (Q : Int32 → Mem → Prop) (K : String → Mem → Prop) (L12 : Mem × Int32 × Int32 × Int32 → Prop) (M : Mem) (y2 : Int32) (y3 : Int32) (y4 : Int32) : Prop :=
  ∀ v11 : Int32, v11 = y4 + 1 → L12 (M, y2, y3, v11)
def bX10_nearest_12 (x1 : Int32) (Q : Int32 → Mem → Prop) (K : String → Mem → Prop) (L12 : Mem × Int32 × Int32 × Int32 → Prop) (M : Mem) (y2 : Int32) (y3 : Int32) (y4 : Int32) : Prop :=
  (((M.1 504 0 0) ≤ y4 → Q y2 M) ∧ (¬ (M.1 504 0 0) ≤ y4 → ((y4 = x1 → bX10_nearest_69 x1 Q K L12 M y2 y3 y4) ∧ (¬ y4 = x1 → pX4_holds M y4 (fun r5 M6 => ((¬ r5 = 0 → pX4_wordsInBoth M6 x1 y4 (fun r8 M9 => ((r8 ≤ y3 → bX10_nearest_69 x1 Q K L12 M9 y2 y3 y4) ∧ (¬ r8 ≤ y3 → bX10_nearest_69 x1 Q K L12 M9 y4 r8 y4)))) ∧ (r5 = 0 → bX10_nearest_69 x1 Q K L12 M6 y2 y3 y4)))))))
def pX10_nearest (M : Mem) (x1 : Int32) (Q : Int32 → Mem → Prop) (K : String → Mem → Prop) : Prop :=
  pX10_needDocument M x1 (fun M2 => ∃ n : Nat, lp (fun L s => bX10_nearest_12 x1 Q K L s.1 s.2.1 s.2.2.1 s.2.2.2) n (M2, (-1), (-1), 0)) K
set_option maxRecDepth 100000 in
set_option maxHeartbeats 400000 in
theorem wX10_nearest_69 {Γ : Gam} {G : Gm} {Qf : State → Prop} (hG : Gd G) (C : Cx Γ G cX10_nearest 6 RX10 (some .int) rmX10_nearest) {x1 : Int32} {Q : Int32 → Mem → Prop} {K : String → Mem → Prop} (E : EndI Γ G Qf rmX10_nearest Q) (EX : EndX Γ G Qf rmX10_nearest K) {L12 : Mem × Int32 × Int32 × Int32 → Prop} (hL12 : ∀ s, L12 s → X Γ G Qf 6 1 6 12 [(0, .ref (ga G 10 0)), (1, .int x1), (2, .int s.2.1), (3, .int s.2.2.1), (4, .int s.2.2.2)] [] s.1) (M : Mem) (y2 : Int32) (y3 : Int32) (y4 : Int32) (h : bX10_nearest_69 x1 Q K L12 M y2 y3 y4) : X Γ G Qf 6 1 6 69 [(0, .ref (ga G 10 0)), (1, .int x1), (2, .int y2), (3, .int y3), (4, .int y4)] [] M := by
  unfold bX10_nearest_69 at h
  obtain ⟨v11, ev11⟩ : ∃ z : Int32, z = y4 + 1 := ⟨_, rfl⟩
  replace h := h v11 ev11
  refine x_iinc (v := v11) (lv' := [(4, .int v11), (0, .ref (ga G 10 0)), (1, .int x1), (2, .int y2), (3, .int y3)]) (j := 4) C dX10_nearest_69 rfl (by rw [ev11]; rfl) (Nat.le_of_ble_eq_true rfl) rfl ?_
  refine x_goto (tgt := 12) C dX10_nearest_72 (by decide) ?_
  refine X_sub (lv' := [(0, .ref (ga G 10 0)), (1, .int x1), (2, .int y2), (3, .int y3), (4, .int v11)]) [1, 2, 3, 4, 0] rfl ?_
  have w9 := hL12 (M, y2, y3, v11) h
  dsimp only at w9
  exact w9
set_option maxRecDepth 100000 in
set_option maxHeartbeats 400000 in
theorem wX10_nearest_12 {Γ : Gam} {G : Gm} {Qf : State → Prop} (hG : Gd G) (C : Cx Γ G cX10_nearest 6 RX10 (some .int) rmX10_nearest) {x1 : Int32} {Q : Int32 → Mem → Prop} {K : String → Mem → Prop} (E : EndI Γ G Qf rmX10_nearest Q) (EX : EndX Γ G Qf rmX10_nearest K) {L12 : Mem × Int32 × Int32 × Int32 → Prop} (hL12 : ∀ s, L12 s → X Γ G Qf 6 1 6 12 [(0, .ref (ga G 10 0)), (1, .int x1), (2, .int s.2.1), (3, .int s.2.2.1), (4, .int s.2.2.2)] [] s.1) (M : Mem) (y2 : Int32) (y3 : Int32) (y4 : Int32) (h : bX10_nearest_12 x1 Q K L12 M y2 y3 y4) : X Γ G Qf 6 1 6 12 [(0, .ref (ga G 10 0)), (1, .int x1), (2, .int y2), (3, .int y3), (4, .int y4)] [] M := by
  unfold bX10_nearest_12 at h
  refine x_iload C dX10_nearest_12 4 rfl ?_
  refine x_aload_n C dX10_nearest_14 0 rfl ?_
  refine gf_10_6 C q137 z10 dX10_nearest_15 ?_
  refine gf_4_4 C q138 z4 dX10_nearest_18 ?_
  refine x_icmp_ge (tgt := 75) C dX10_nearest_21 (by decide) (fun c3 => ?_) (fun c3 => ?_)
  · replace h := h.1 c3
    refine x_iload_n C dX10_nearest_75 2 rfl ?_
    exact x_iret C E h (Nat.le_of_ble_eq_true rfl) (Nat.le_of_ble_eq_true rfl) dX10_nearest_76
  · replace h := h.2 c3
    refine x_iload C dX10_nearest_24 4 rfl ?_
    refine x_iload_n C dX10_nearest_26 1 rfl ?_
    refine x_icmp_eq (tgt := 69) C dX10_nearest_27 (by decide) (fun c4 => ?_) (fun c4 => ?_)
    · replace h := h.1 c4
      refine X_sub (lv' := [(0, .ref (ga G 10 0)), (1, .int x1), (2, .int y2), (3, .int y3), (4, .int y4)]) [0, 1, 2, 3, 4] rfl ?_
      exact wX10_nearest_69 hG C E EX hL12 M y2 y3 y4 h
    · replace h := h.2 c4
      refine x_aload_n C dX10_nearest_30 0 rfl ?_
      refine gf_10_6 C q137 z10 dX10_nearest_31 ?_
      refine x_iload C dX10_nearest_34 4 rfl ?_
      refine x_calli (rest := []) C sv_X10_393 ob4 z4 (kX4_holds hG _ _ h) rfl rfl (Nat.le_of_ble_eq_true rfl) ⟨Nat.le_of_ble_eq_true rfl, Nat.le_of_ble_eq_true rfl⟩ rfl rfl ⟨Nat.le_of_ble_eq_true rfl, Nat.le_of_ble_eq_true rfl⟩ dX10_nearest_36 (fun r5 M6 h => ?_)
      refine x_if_ne (tgt := 45) C dX10_nearest_39 (by decide) (fun c7 => ?_) (fun c7 => ?_)
      · replace h := h.1 c7
        refine x_aload_n C dX10_nearest_45 0 rfl ?_
        refine gf_10_6 C q137 z10 dX10_nearest_46 ?_
        refine x_iload_n C dX10_nearest_49 1 rfl ?_
        refine x_iload C dX10_nearest_50 4 rfl ?_
        refine x_calli (rest := []) C sv_X10_293 ob4 z4 (kX4_wordsInBoth hG _ _ _ h) rfl rfl (Nat.le_of_ble_eq_true rfl) ⟨Nat.le_of_ble_eq_true rfl, Nat.le_of_ble_eq_true rfl⟩ rfl rfl ⟨Nat.le_of_ble_eq_true rfl, Nat.le_of_ble_eq_true rfl⟩ dX10_nearest_52 (fun r8 M9 h => ?_)
        refine x_istore (lv' := [(5, .int r8), (0, .ref (ga G 10 0)), (1, .int x1), (2, .int y2), (3, .int y3), (4, .int y4)]) C dX10_nearest_55 (Nat.le_of_ble_eq_true rfl) rfl ?_
        refine x_iload C dX10_nearest_57 0 rfl ?_
        refine x_iload_n C dX10_nearest_59 4 rfl ?_
        refine x_icmp_le (tgt := 69) C dX10_nearest_60 (by decide) (fun c10 => ?_) (fun c10 => ?_)
        · replace h := h.1 c10
          refine X_sub (lv' := [(0, .ref (ga G 10 0)), (1, .int x1), (2, .int y2), (3, .int y3), (4, .int y4)]) [1, 2, 3, 4, 5] rfl ?_
          exact wX10_nearest_69 hG C E EX hL12 M9 y2 y3 y4 h
        · replace h := h.2 c10
          refine x_iload C dX10_nearest_63 0 rfl ?_
          refine x_istore_n (lv' := [(3, .int r8), (5, .int r8), (0, .ref (ga G 10 0)), (1, .int x1), (2, .int y2), (4, .int y4)]) C dX10_nearest_65 rfl (Nat.le_of_ble_eq_true rfl) rfl ?_
          refine x_iload C dX10_nearest_66 5 rfl ?_
          refine x_istore_n (lv' := [(2, .int y4), (3, .int r8), (5, .int r8), (0, .ref (ga G 10 0)), (1, .int x1), (4, .int y4)]) C dX10_nearest_68 rfl (Nat.le_of_ble_eq_true rfl) rfl ?_
          refine X_sub (lv' := [(0, .ref (ga G 10 0)), (1, .int x1), (2, .int y4), (3, .int r8), (4, .int y4)]) [3, 4, 0, 1, 5] rfl ?_
          exact wX10_nearest_69 hG C E EX hL12 M9 y4 r8 y4 h
      · replace h := h.2 c7
        refine x_goto (tgt := 69) C dX10_nearest_42 (by decide) ?_
        refine X_sub (lv' := [(0, .ref (ga G 10 0)), (1, .int x1), (2, .int y2), (3, .int y3), (4, .int y4)]) [0, 1, 2, 3, 4] rfl ?_
        exact wX10_nearest_69 hG C E EX hL12 M6 y2 y3 y4 h
set_option maxRecDepth 100000 in
set_option maxHeartbeats 400000 in
theorem kX10_nearest {l : Launch} {G : Gm} (hG : Gd G) (hl0 : l.stackTraces = false) (M : Mem) (x1 : Int32) {Q : Int32 → Mem → Prop} {K : String → Mem → Prop} (h : pX10_nearest M x1 Q K) : Cxi l G yX10_nearest cX10_nearest 6 .int rmX10_nearest [.ref (ga G 10 0), .int x1] M Q K := by
  refine cxi_of hl0 (own := RX10) (by decide +kernel) rfl (Nat.le_of_ble_eq_true rfl) hG (fun Γ Qf hl C E EX => ?_)
  subst hl
  show X Γ G Qf 6 0 0 0 [(0, .ref (ga G 10 0)), (1, .int x1)] [] M
  unfold pX10_nearest at h
  refine x_aload_n C dX10_nearest_0 0 rfl ?_
  refine x_iload_n C dX10_nearest_1 1 rfl ?_
  refine x_tcallv (rest := []) C EX sv_X10_156 ob10 z10 (kX10_needDocument hG EX.2.2 _ _ h) rfl rfl (Nat.le_of_ble_eq_true rfl) ⟨Nat.le_of_ble_eq_true rfl, Nat.le_of_ble_eq_true rfl⟩ rfl rfl ⟨Nat.le_of_ble_eq_true rfl, Nat.le_of_ble_eq_true rfl⟩ dX10_nearest_2 (fun M2 h => ?_)
  refine x_iconst (v := (-1)) C dX10_nearest_5 rfl ?_
  refine x_istore_n (lv' := [(2, .int (-1)), (0, .ref (ga G 10 0)), (1, .int x1)]) C dX10_nearest_6 rfl (Nat.le_of_ble_eq_true rfl) rfl ?_
  refine x_iconst (v := (-1)) C dX10_nearest_7 rfl ?_
  refine x_istore_n (lv' := [(3, .int (-1)), (2, .int (-1)), (0, .ref (ga G 10 0)), (1, .int x1)]) C dX10_nearest_8 rfl (Nat.le_of_ble_eq_true rfl) rfl ?_
  refine x_iconst (v := 0) C dX10_nearest_9 rfl ?_
  refine x_istore (lv' := [(4, .int 0), (3, .int (-1)), (2, .int (-1)), (0, .ref (ga G 10 0)), (1, .int x1)]) C dX10_nearest_10 (Nat.le_of_ble_eq_true rfl) rfl ?_
  obtain ⟨n9, h⟩ := h
  refine X_sub (lv' := [(0, .ref (ga G 10 0)), (1, .int x1), (2, .int (-1)), (3, .int (-1)), (4, .int 0)]) [3, 4, 2, 1, 0] rfl ?_
  have hb : ∀ (L : Mem × Int32 × Int32 × Int32 → Prop) (s : Mem × Int32 × Int32 × Int32), (∀ t, L t → X Γ G Qf 6 1 6 12 [(0, .ref (ga G 10 0)), (1, .int x1), (2, .int t.2.1), (3, .int t.2.2.1), (4, .int t.2.2.2)] [] t.1) → bX10_nearest_12 x1 Q K L s.1 s.2.1 s.2.2.1 s.2.2.2 → X Γ G Qf 6 1 6 12 [(0, .ref (ga G 10 0)), (1, .int x1), (2, .int s.2.1), (3, .int s.2.2.1), (4, .int s.2.2.2)] [] s.1 := fun L s hL h => wX10_nearest_12 hG C E EX hL s.1 s.2.1 s.2.2.1 s.2.2.2 h
  have w9 := lp_walk (P := fun s : Mem × Int32 × Int32 × Int32 => X Γ G Qf 6 1 6 12 [(0, .ref (ga G 10 0)), (1, .int x1), (2, .int s.2.1), (3, .int s.2.2.1), (4, .int s.2.2.2)] [] s.1) h hb
  dsimp only at w9
  exact w9
def rmX10_rarest : Room := { frames := 8, cells := 1, slots := 6, locals := 123 }
def bX10_rarest_86 (x1 : Int32) (Q : Int32 → Mem → Prop) (K : String → Mem → Prop) (L15 : Mem × Int32 × Int32 × Int32 × Int32 → Prop) (M : Mem) (y2 : Int32) (y3 : Int32) (y4 : Int32) (y5 : Int32) : Prop :=
  ∀ v13 : Int32, v13 = y5 + 1 → L15 (M, y2, y3, y4, v13)
def bX10_rarest_76 (x1 : Int32) (Q : Int32 → Mem → Prop) (K : String → Mem → Prop) (L15 : Mem × Int32 × Int32 × Int32 × Int32 → Prop) (M : Mem) (y5 : Int32) (y6 : Int32) (y7 : Int32) : Prop :=
  bX10_rarest_86 x1 Q K L15 M y5 y7 y6 y5
def bX10_rarest_15 (x1 : Int32) (Q : Int32 → Mem → Prop) (K : String → Mem → Prop) (L15 : Mem × Int32 × Int32 × Int32 × Int32 → Prop) (M : Mem) (y2 : Int32) (y3 : Int32) (y4 : Int32) (y5 : Int32) : Prop :=
  (((M.1 1001 0 0) ≤ y5 → Q y2 M) ∧ (¬ (M.1 1001 0 0) ≤ y5 → vp_in y5 255 ∧ vp_in x1 64 ∧ ∀ v6 : Int32, v6 = (M.1 5508 (tn y5) (tn x1)) → pX4_rareOf M y5 (fun r7 M8 => ((v6 ≤ 0 → bX10_rarest_86 x1 Q K L15 M8 y2 y3 y4 y5) ∧ (¬ v6 ≤ 0 → ((y3 < r7 → bX10_rarest_76 x1 Q K L15 M8 y5 v6 r7) ∧ (¬ y3 < r7 → ((¬ r7 = y3 → bX10_rarest_86 x1 Q K L15 M8 y2 y3 y4 y5) ∧ (r7 = y3 → ((v6 ≤ y4 → bX10_rarest_86 x1 Q K L15 M8 y2 y3 y4 y5) ∧ (¬ v6 ≤ y4 → bX10_rarest_76 x1 Q K L15 M8 y5 v6 r7)))))))))))
def pX10_rarest (M : Mem) (x1 : Int32) (Q : Int32 → Mem → Prop) (K : String → Mem → Prop) : Prop :=
  pX10_needDocument M x1 (fun M2 => ∃ n : Nat, lp (fun L s => bX10_rarest_15 x1 Q K L s.1 s.2.1 s.2.2.1 s.2.2.2.1 s.2.2.2.2) n (M2, (-1), 0, 0, 0)) K
set_option maxRecDepth 100000 in
set_option maxHeartbeats 400000 in
theorem wX10_rarest_86 {Γ : Gam} {G : Gm} {Qf : State → Prop} (hG : Gd G) (C : Cx Γ G cX10_rarest 8 RX10 (some .int) rmX10_rarest) {x1 : Int32} {Q : Int32 → Mem → Prop} {K : String → Mem → Prop} (E : EndI Γ G Qf rmX10_rarest Q) (EX : EndX Γ G Qf rmX10_rarest K) {L15 : Mem × Int32 × Int32 × Int32 × Int32 → Prop} (hL15 : ∀ s, L15 s → X Γ G Qf 8 1 6 15 [(0, .ref (ga G 10 0)), (1, .int x1), (2, .int s.2.1), (3, .int s.2.2.1), (4, .int s.2.2.2.1), (5, .int s.2.2.2.2)] [] s.1) (M : Mem) (y2 : Int32) (y3 : Int32) (y4 : Int32) (y5 : Int32) (h : bX10_rarest_86 x1 Q K L15 M y2 y3 y4 y5) : X Γ G Qf 8 1 6 86 [(0, .ref (ga G 10 0)), (1, .int x1), (2, .int y2), (3, .int y3), (4, .int y4), (5, .int y5)] [] M := by
  unfold bX10_rarest_86 at h
  obtain ⟨v13, ev13⟩ : ∃ z : Int32, z = y5 + 1 := ⟨_, rfl⟩
  replace h := h v13 ev13
  refine x_iinc (v := v13) (lv' := [(5, .int v13), (0, .ref (ga G 10 0)), (1, .int x1), (2, .int y2), (3, .int y3), (4, .int y4)]) (j := 5) C dX10_rarest_86 rfl (by rw [ev13]; rfl) (Nat.le_of_ble_eq_true rfl) rfl ?_
  refine x_goto (tgt := 15) C dX10_rarest_89 (by decide) ?_
  refine X_sub (lv' := [(0, .ref (ga G 10 0)), (1, .int x1), (2, .int y2), (3, .int y3), (4, .int y4), (5, .int v13)]) [1, 2, 3, 4, 5, 0] rfl ?_
  have w9 := hL15 (M, y2, y3, y4, v13) h
  dsimp only at w9
  exact w9
set_option maxRecDepth 100000 in
set_option maxHeartbeats 400000 in
theorem wX10_rarest_76 {Γ : Gam} {G : Gm} {Qf : State → Prop} (hG : Gd G) (C : Cx Γ G cX10_rarest 8 RX10 (some .int) rmX10_rarest) {x1 : Int32} {Q : Int32 → Mem → Prop} {K : String → Mem → Prop} (E : EndI Γ G Qf rmX10_rarest Q) (EX : EndX Γ G Qf rmX10_rarest K) {L15 : Mem × Int32 × Int32 × Int32 × Int32 → Prop} (hL15 : ∀ s, L15 s → X Γ G Qf 8 1 6 15 [(0, .ref (ga G 10 0)), (1, .int x1), (2, .int s.2.1), (3, .int s.2.2.1), (4, .int s.2.2.2.1), (5, .int s.2.2.2.2)] [] s.1) (M : Mem) (y5 : Int32) (y6 : Int32) (y7 : Int32) (h : bX10_rarest_76 x1 Q K L15 M y5 y6 y7) : X Γ G Qf 8 1 6 76 [(0, .ref (ga G 10 0)), (1, .int x1), (5, .int y5), (6, .int y6), (7, .int y7)] [] M := by
  unfold bX10_rarest_76 at h
  refine x_iload C dX10_rarest_76 2 rfl ?_
  refine x_istore_n (lv' := [(2, .int y5), (0, .ref (ga G 10 0)), (1, .int x1), (5, .int y5), (6, .int y6), (7, .int y7)]) C dX10_rarest_78 rfl (Nat.le_of_ble_eq_true rfl) rfl ?_
  refine x_iload C dX10_rarest_79 5 rfl ?_
  refine x_istore_n (lv' := [(3, .int y7), (2, .int y5), (0, .ref (ga G 10 0)), (1, .int x1), (5, .int y5), (6, .int y6), (7, .int y7)]) C dX10_rarest_81 rfl (Nat.le_of_ble_eq_true rfl) rfl ?_
  refine x_iload C dX10_rarest_82 5 rfl ?_
  refine x_istore (lv' := [(4, .int y6), (3, .int y7), (2, .int y5), (0, .ref (ga G 10 0)), (1, .int x1), (5, .int y5), (6, .int y6), (7, .int y7)]) C dX10_rarest_84 (Nat.le_of_ble_eq_true rfl) rfl ?_
  refine X_sub (lv' := [(0, .ref (ga G 10 0)), (1, .int x1), (2, .int y5), (3, .int y7), (4, .int y6), (5, .int y5)]) [3, 4, 2, 1, 0, 5] rfl ?_
  exact wX10_rarest_86 hG C E EX hL15 M y5 y7 y6 y5 h
set_option maxRecDepth 100000 in
set_option maxHeartbeats 400000 in
theorem wX10_rarest_15 {Γ : Gam} {G : Gm} {Qf : State → Prop} (hG : Gd G) (C : Cx Γ G cX10_rarest 8 RX10 (some .int) rmX10_rarest) {x1 : Int32} {Q : Int32 → Mem → Prop} {K : String → Mem → Prop} (E : EndI Γ G Qf rmX10_rarest Q) (EX : EndX Γ G Qf rmX10_rarest K) {L15 : Mem × Int32 × Int32 × Int32 × Int32 → Prop} (hL15 : ∀ s, L15 s → X Γ G Qf 8 1 6 15 [(0, .ref (ga G 10 0)), (1, .int x1), (2, .int s.2.1), (3, .int s.2.2.1), (4, .int s.2.2.2.1), (5, .int s.2.2.2.2)] [] s.1) (M : Mem) (y2 : Int32) (y3 : Int32) (y4 : Int32) (y5 : Int32) (h : bX10_rarest_15 x1 Q K L15 M y2 y3 y4 y5) : X Γ G Qf 8 1 6 15 [(0, .ref (ga G 10 0)), (1, .int x1), (2, .int y2), (3, .int y3), (4, .int y4), (5, .int y5)] [] M := by
  unfold bX10_rarest_15 at h
  refine x_iload C dX10_rarest_15 5 rfl ?_
  refine x_aload_n C dX10_rarest_17 0 rfl ?_
  refine gf_10_5 C q849 z10 dX10_rarest_18 ?_
  refine gf_9_1 C q853 z9 dX10_rarest_21 ?_
  refine x_icmp_ge (tgt := 92) C dX10_rarest_24 (by decide) (fun c3 => ?_) (fun c3 => ?_)
  · replace h := h.1 c3
    refine x_iload_n C dX10_rarest_92 2 rfl ?_
    exact x_iret C E h (Nat.le_of_ble_eq_true rfl) (Nat.le_of_ble_eq_true rfl) dX10_rarest_93
  · replace h := h.2 c3
    refine x_aload_n C dX10_rarest_27 0 rfl ?_
    refine gf_10_6 C q137 z10 dX10_rarest_28 ?_
    refine gf_4_8 C q856 z4 dX10_rarest_31 ?_
    refine x_iload C dX10_rarest_34 5 rfl ?_
    obtain ⟨f4, h⟩ := h
    refine al_508 C z508 f4 dX10_rarest_36 ?_
    refine x_iload_n C dX10_rarest_37 1 rfl ?_
    obtain ⟨f5, h⟩ := h
    refine al_5508 C (vp_lt f4) f5 dX10_rarest_38 ?_
    refine X_name (fun v6 ev6 => ?_)
    replace h := h v6 ev6
    refine x_istore (lv' := [(6, .int v6), (0, .ref (ga G 10 0)), (1, .int x1), (2, .int y2), (3, .int y3), (4, .int y4), (5, .int y5)]) C dX10_rarest_39 (Nat.le_of_ble_eq_true rfl) rfl ?_
    refine x_aload_n C dX10_rarest_41 1 rfl ?_
    refine gf_10_6 C q137 z10 dX10_rarest_42 ?_
    refine x_iload C dX10_rarest_45 6 rfl ?_
    refine x_calli (rest := []) C sv_X10_232 ob4 z4 (kX4_rareOf hG _ _ h) rfl rfl (Nat.le_of_ble_eq_true rfl) ⟨Nat.le_of_ble_eq_true rfl, Nat.le_of_ble_eq_true rfl⟩ rfl rfl ⟨Nat.le_of_ble_eq_true rfl, Nat.le_of_ble_eq_true rfl⟩ dX10_rarest_47 (fun r7 M8 h => ?_)
    refine x_istore (lv' := [(7, .int r7), (6, .int v6), (0, .ref (ga G 10 0)), (1, .int x1), (2, .int y2), (3, .int y3), (4, .int y4), (5, .int y5)]) C dX10_rarest_50 (Nat.le_of_ble_eq_true rfl) rfl ?_
    refine x_iload C dX10_rarest_52 1 rfl ?_
    refine x_if_le (tgt := 86) C dX10_rarest_54 (by decide) (fun c9 => ?_) (fun c9 => ?_)
    · replace h := h.1 c9
      refine X_sub (lv' := [(0, .ref (ga G 10 0)), (1, .int x1), (2, .int y2), (3, .int y3), (4, .int y4), (5, .int y5)]) [2, 3, 4, 5, 6, 7] rfl ?_
      exact wX10_rarest_86 hG C E EX hL15 M8 y2 y3 y4 y5 h
    · replace h := h.2 c9
      refine x_iload C dX10_rarest_57 0 rfl ?_
      refine x_iload_n C dX10_rarest_59 5 rfl ?_
      refine x_icmp_gt (tgt := 76) C dX10_rarest_60 (by decide) (fun c10 => ?_) (fun c10 => ?_)
      · replace h := h.1 c10
        refine X_sub (lv' := [(0, .ref (ga G 10 0)), (1, .int x1), (5, .int y5), (6, .int v6), (7, .int r7)]) [2, 3, 7, 1, 0] rfl ?_
        exact wX10_rarest_76 hG C E EX hL15 M8 y5 v6 r7 h
      · replace h := h.2 c10
        refine x_iload C dX10_rarest_63 0 rfl ?_
        refine x_iload_n C dX10_rarest_65 5 rfl ?_
        refine x_icmp_ne (tgt := 86) C dX10_rarest_66 (by decide) (fun c11 => ?_) (fun c11 => ?_)
        · replace h := h.1 c11
          refine X_sub (lv' := [(0, .ref (ga G 10 0)), (1, .int x1), (2, .int y2), (3, .int y3), (4, .int y4), (5, .int y5)]) [2, 3, 4, 5, 6, 7] rfl ?_
          exact wX10_rarest_86 hG C E EX hL15 M8 y2 y3 y4 y5 h
        · replace h := h.2 c11
          refine x_iload C dX10_rarest_69 1 rfl ?_
          refine x_iload C dX10_rarest_71 6 rfl ?_
          refine x_icmp_le (tgt := 86) C dX10_rarest_73 (by decide) (fun c12 => ?_) (fun c12 => ?_)
          · replace h := h.1 c12
            refine X_sub (lv' := [(0, .ref (ga G 10 0)), (1, .int x1), (2, .int y2), (3, .int y3), (4, .int y4), (5, .int y5)]) [2, 3, 4, 5, 6, 7] rfl ?_
            exact wX10_rarest_86 hG C E EX hL15 M8 y2 y3 y4 y5 h
          · replace h := h.2 c12
            refine X_sub (lv' := [(0, .ref (ga G 10 0)), (1, .int x1), (5, .int y5), (6, .int v6), (7, .int r7)]) [2, 3, 7, 1, 0] rfl ?_
            exact wX10_rarest_76 hG C E EX hL15 M8 y5 v6 r7 h
set_option maxRecDepth 100000 in
set_option maxHeartbeats 400000 in
theorem kX10_rarest {l : Launch} {G : Gm} (hG : Gd G) (hl0 : l.stackTraces = false) (M : Mem) (x1 : Int32) {Q : Int32 → Mem → Prop} {K : String → Mem → Prop} (h : pX10_rarest M x1 Q K) : Cxi l G yX10_rarest cX10_rarest 8 .int rmX10_rarest [.ref (ga G 10 0), .int x1] M Q K := by
  refine cxi_of hl0 (own := RX10) (by decide +kernel) rfl (Nat.le_of_ble_eq_true rfl) hG (fun Γ Qf hl C E EX => ?_)
  subst hl
  show X Γ G Qf 8 0 0 0 [(0, .ref (ga G 10 0)), (1, .int x1)] [] M
  unfold pX10_rarest at h
  refine x_aload_n C dX10_rarest_0 0 rfl ?_
  refine x_iload_n C dX10_rarest_1 1 rfl ?_
  refine x_tcallv (rest := []) C EX sv_X10_156 ob10 z10 (kX10_needDocument hG EX.2.2 _ _ h) rfl rfl (Nat.le_of_ble_eq_true rfl) ⟨Nat.le_of_ble_eq_true rfl, Nat.le_of_ble_eq_true rfl⟩ rfl rfl ⟨Nat.le_of_ble_eq_true rfl, Nat.le_of_ble_eq_true rfl⟩ dX10_rarest_2 (fun M2 h => ?_)
  refine x_iconst (v := (-1)) C dX10_rarest_5 rfl ?_
  refine x_istore_n (lv' := [(2, .int (-1)), (0, .ref (ga G 10 0)), (1, .int x1)]) C dX10_rarest_6 rfl (Nat.le_of_ble_eq_true rfl) rfl ?_
  refine x_iconst (v := 0) C dX10_rarest_7 rfl ?_
  refine x_istore_n (lv' := [(3, .int 0), (2, .int (-1)), (0, .ref (ga G 10 0)), (1, .int x1)]) C dX10_rarest_8 rfl (Nat.le_of_ble_eq_true rfl) rfl ?_
  refine x_iconst (v := 0) C dX10_rarest_9 rfl ?_
  refine x_istore (lv' := [(4, .int 0), (3, .int 0), (2, .int (-1)), (0, .ref (ga G 10 0)), (1, .int x1)]) C dX10_rarest_10 (Nat.le_of_ble_eq_true rfl) rfl ?_
  refine x_iconst (v := 0) C dX10_rarest_12 rfl ?_
  refine x_istore (lv' := [(5, .int 0), (4, .int 0), (3, .int 0), (2, .int (-1)), (0, .ref (ga G 10 0)), (1, .int x1)]) C dX10_rarest_13 (Nat.le_of_ble_eq_true rfl) rfl ?_
  obtain ⟨n9, h⟩ := h
  refine X_sub (lv' := [(0, .ref (ga G 10 0)), (1, .int x1), (2, .int (-1)), (3, .int 0), (4, .int 0), (5, .int 0)]) [4, 5, 3, 2, 1, 0] rfl ?_
  have hb : ∀ (L : Mem × Int32 × Int32 × Int32 × Int32 → Prop) (s : Mem × Int32 × Int32 × Int32 × Int32), (∀ t, L t → X Γ G Qf 8 1 6 15 [(0, .ref (ga G 10 0)), (1, .int x1), (2, .int t.2.1), (3, .int t.2.2.1), (4, .int t.2.2.2.1), (5, .int t.2.2.2.2)] [] t.1) → bX10_rarest_15 x1 Q K L s.1 s.2.1 s.2.2.1 s.2.2.2.1 s.2.2.2.2 → X Γ G Qf 8 1 6 15 [(0, .ref (ga G 10 0)), (1, .int x1), (2, .int s.2.1), (3, .int s.2.2.1), (4, .int s.2.2.2.1), (5, .int s.2.2.2.2)] [] s.1 := fun L s hL h => wX10_rarest_15 hG C E EX hL s.1 s.2.1 s.2.2.1 s.2.2.2.1 s.2.2.2.2 h
  have w9 := lp_walk (P := fun s : Mem × Int32 × Int32 × Int32 × Int32 => X Γ G Qf 8 1 6 15 [(0, .ref (ga G 10 0)), (1, .int x1), (2, .int s.2.1), (3, .int s.2.2.1), (4, .int s.2.2.2.1), (5, .int s.2.2.2.2)] [] s.1) h hb
  dsimp only at w9
  exact w9
