def rmX10_refuseArgument : Room := { frames := 6, cells := 1, slots := 6, locals := 82 }
def pX10_refuseArgument (M : Mem) (Q : Mem → Prop) (K : String → Mem → Prop) : Prop :=
  ∀ M1 : Mem, M1 = up1 M 1104 0 0 ((M.1 1104 0 0) + 1) → K EI M1
set_option maxRecDepth 100000 in
set_option maxHeartbeats 400000 in
theorem kX10_refuseArgument {l : Launch} {G : Gm} (hG : Gd G) (hl0 : l.stackTraces = false) (M : Mem)  {Q : Mem → Prop} {K : String → Mem → Prop} (h : pX10_refuseArgument M Q K) : Cxv l G yX10_refuseArgument cX10_refuseArgument 1 rmX10_refuseArgument [.ref (ga G 10 0)] M Q K := by
  refine cxv_of hl0 (own := RX10) (by decide +kernel) rfl (Nat.le_of_ble_eq_true rfl) hG (fun Γ Qf hl C E EX => ?_)
  subst hl
  show X Γ G Qf 1 0 0 0 [(0, .ref (ga G 10 0))] [] M
  unfold pX10_refuseArgument at h
  refine x_aload_n C dX10_refuseArgument_0 0 rfl ?_
  refine x_dup C dX10_refuseArgument_1 rfl ?_
  refine gf_10_4 C q140 z10 dX10_refuseArgument_2 ?_
  refine x_iconst (v := 1) C dX10_refuseArgument_5 rfl ?_
  refine x_iadd C dX10_refuseArgument_6 ?_
  refine pf_10_4 C q140 z10 dX10_refuseArgument_7 ?_
  refine X_nameM (fun M1 eM1 => ?_)
  replace h := h M1 eM1
  exact x_throw C EX st_EI h (Nat.le_of_ble_eq_true rfl) (Nat.le_of_ble_eq_true rfl) (Nat.le_of_ble_eq_true rfl) (Nat.le_of_ble_eq_true rfl) dX10_refuseArgument_10 dX10_refuseArgument_13 dX10_refuseArgument_14 dX10_refuseArgument_17 dX10_refuseArgument_20
def rmX10_needBetween : Room := { frames := 7, cells := 1, slots := 6, locals := 102 }
def bX10_needBetween_10 (x1 : Int32) (x2 : Int32) (x3 : Int32) (Q : Mem → Prop) (K : String → Mem → Prop) (M : Mem) : Prop :=
  pX10_refuseArgument M (fun M4 => Q M4) K
def pX10_needBetween (M : Mem) (x1 : Int32) (x2 : Int32) (x3 : Int32) (Q : Mem → Prop) (K : String → Mem → Prop) : Prop :=
  ((x1 < x2 → bX10_needBetween_10 x1 x2 x3 Q K M) ∧ (¬ x1 < x2 → ((x1 ≤ x3 → Q M) ∧ (¬ x1 ≤ x3 → bX10_needBetween_10 x1 x2 x3 Q K M))))
set_option maxRecDepth 100000 in
set_option maxHeartbeats 400000 in
theorem wX10_needBetween_10 {Γ : Gam} {G : Gm} {Qf : State → Prop} (hG : Gd G) (C : Cx Γ G cX10_needBetween 4 RX10 none rmX10_needBetween) {x1 : Int32} {x2 : Int32} {x3 : Int32} {Q : Mem → Prop} {K : String → Mem → Prop} (E : EndV Γ G Qf rmX10_needBetween Q) (EX : EndX Γ G Qf rmX10_needBetween K) (M : Mem) (h : bX10_needBetween_10 x1 x2 x3 Q K M) : X Γ G Qf 4 0 0 10 [(0, .ref (ga G 10 0))] [] M := by
  unfold bX10_needBetween_10 at h
  refine x_aload_n C dX10_needBetween_10 0 rfl ?_
  refine x_tcallv (rest := []) C EX sv_X10_113 ob10 z10 (kX10_refuseArgument hG EX.2.2 _ h) rfl rfl (Nat.le_of_ble_eq_true rfl) ⟨Nat.le_of_ble_eq_true rfl, Nat.le_of_ble_eq_true rfl⟩ rfl rfl ⟨Nat.le_of_ble_eq_true rfl, Nat.le_of_ble_eq_true rfl⟩ dX10_needBetween_11 (fun M4 h => ?_)
  exact x_vret C E h (Nat.le_of_ble_eq_true rfl) (Nat.le_of_ble_eq_true rfl) dX10_needBetween_14
set_option maxRecDepth 100000 in
set_option maxHeartbeats 400000 in
theorem kX10_needBetween {l : Launch} {G : Gm} (hG : Gd G) (hl0 : l.stackTraces = false) (M : Mem) (x1 : Int32) (x2 : Int32) (x3 : Int32) {Q : Mem → Prop} {K : String → Mem → Prop} (h : pX10_needBetween M x1 x2 x3 Q K) : Cxv l G yX10_needBetween cX10_needBetween 4 rmX10_needBetween [.ref (ga G 10 0), .int x1, .int x2, .int x3] M Q K := by
  refine cxv_of hl0 (own := RX10) (by decide +kernel) rfl (Nat.le_of_ble_eq_true rfl) hG (fun Γ Qf hl C E EX => ?_)
  subst hl
  show X Γ G Qf 4 0 0 0 [(0, .ref (ga G 10 0)), (1, .int x1), (2, .int x2), (3, .int x3)] [] M
  unfold pX10_needBetween at h
  refine x_iload_n C dX10_needBetween_0 1 rfl ?_
  refine x_iload_n C dX10_needBetween_1 2 rfl ?_
  refine x_icmp_lt (tgt := 10) C dX10_needBetween_2 (by decide) (fun c1 => ?_) (fun c1 => ?_)
  · replace h := h.1 c1
    refine X_sub (lv' := [(0, .ref (ga G 10 0))]) [0] rfl ?_
    exact wX10_needBetween_10 hG C E EX M h
  · replace h := h.2 c1
    refine x_iload_n C dX10_needBetween_5 1 rfl ?_
    refine x_iload_n C dX10_needBetween_6 3 rfl ?_
    refine x_icmp_le (tgt := 14) C dX10_needBetween_7 (by decide) (fun c2 => ?_) (fun c2 => ?_)
    · replace h := h.1 c2
      exact x_vret C E h (Nat.le_of_ble_eq_true rfl) (Nat.le_of_ble_eq_true rfl) dX10_needBetween_14
    · replace h := h.2 c2
      refine X_sub (lv' := [(0, .ref (ga G 10 0))]) [0] rfl ?_
      exact wX10_needBetween_10 hG C E EX M h
def rmX10_add : Room := { frames := 8, cells := 2, slots := 12, locals := 125 }
def bX10_add_26 (x1 : Int32) (Q : Int32 → Mem → Prop) (K : String → Mem → Prop) (M : Mem) : Prop :=
  ∀ M6 : Mem, M6 = up1 M 1101 0 0 0 → pX1_read M6 x1 (fun r7 M8 => ∀ M9 : Mem, M9 = up1 M8 1102 0 0 (M8.1 203 0 0) → ((r7 = 0 → pX4_shelve M9 (M9.1 202 0 0) (fun r11 M12 => Q r11 M12)) ∧ (¬ r7 = 0 → Q (r7 - 10) M9)))
def pX10_add (M : Mem) (x1 : Int32) (Q : Int32 → Mem → Prop) (K : String → Mem → Prop) : Prop :=
  pX10_needBetween M x1 0 (M.1 1101 0 0) (fun M2 => (((M2.1 504 0 0) < 64 → bX10_add_26 x1 Q K M2) ∧ (¬ (M2.1 504 0 0) < 64 → pX10_refuseArgument M2 (fun M5 => bX10_add_26 x1 Q K M5) K))) K
set_option maxRecDepth 100000 in
set_option maxHeartbeats 400000 in
theorem wX10_add_26 {Γ : Gam} {G : Gm} {Qf : State → Prop} (hG : Gd G) (C : Cx Γ G cX10_add 3 RX10 (some .int) rmX10_add) {x1 : Int32} {Q : Int32 → Mem → Prop} {K : String → Mem → Prop} (E : EndI Γ G Qf rmX10_add Q) (EX : EndX Γ G Qf rmX10_add K) (M : Mem) (h : bX10_add_26 x1 Q K M) : X Γ G Qf 3 2 12 26 [(0, .ref (ga G 10 0)), (1, .int x1)] [] M := by
  unfold bX10_add_26 at h
  refine x_aload_n C dX10_add_26 0 rfl ?_
  refine x_iconst (v := 0) C dX10_add_27 rfl ?_
  refine pf_10_1 C q132 z10 dX10_add_28 ?_
  refine X_nameM (fun M6 eM6 => ?_)
  replace h := h M6 eM6
  refine x_aload_n C dX10_add_31 0 rfl ?_
  refine gf_10_9 C q840 z10 dX10_add_32 ?_
  refine x_aload_n C dX10_add_35 0 rfl ?_
  refine gf_10_0 C q131 z10 dX10_add_36 ?_
  refine x_iload_n C dX10_add_39 1 rfl ?_
  refine x_calli (rest := []) C sv_X10_116 ob1 z1 (kX1_read hG _ _ h) rfl rfl (Nat.le_of_ble_eq_true rfl) ⟨Nat.le_of_ble_eq_true rfl, Nat.le_of_ble_eq_true rfl⟩ rfl rfl ⟨Nat.le_of_ble_eq_true rfl, Nat.le_of_ble_eq_true rfl⟩ dX10_add_40 (fun r7 M8 h => ?_)
  refine x_istore_n (lv' := [(2, .int r7), (0, .ref (ga G 10 0)), (1, .int x1)]) C dX10_add_43 rfl (Nat.le_of_ble_eq_true rfl) rfl ?_
  refine x_aload_n C dX10_add_44 1 rfl ?_
  refine x_aload_n C dX10_add_45 1 rfl ?_
  refine gf_10_9 C q840 z10 dX10_add_46 ?_
  refine gf_1_3 C q841 z1 dX10_add_49 ?_
  refine pf_10_2 C q133 z10 dX10_add_52 ?_
  refine X_nameM (fun M9 eM9 => ?_)
  replace h := h M9 eM9
  refine x_iload_n C dX10_add_55 0 rfl ?_
  refine x_if_eq (tgt := 64) C dX10_add_56 (by decide) (fun c10 => ?_) (fun c10 => ?_)
  · replace h := h.1 c10
    refine x_aload_n C dX10_add_64 1 rfl ?_
    refine gf_10_6 C q137 z10 dX10_add_65 ?_
    refine x_aload_n C dX10_add_68 1 rfl ?_
    refine gf_10_9 C q840 z10 dX10_add_69 ?_
    refine gf_1_1 C q842 z1 dX10_add_72 ?_
    refine x_aload_n C dX10_add_75 1 rfl ?_
    refine gf_10_9 C q840 z10 dX10_add_76 ?_
    refine gf_1_2 C q843 z1 dX10_add_79 ?_
    refine x_calli (rest := []) C sv_X10_127 ob4 z4 (kX4_shelve hG _ _ h) rfl rfl (Nat.le_of_ble_eq_true rfl) ⟨Nat.le_of_ble_eq_true rfl, Nat.le_of_ble_eq_true rfl⟩ rfl rfl ⟨Nat.le_of_ble_eq_true rfl, Nat.le_of_ble_eq_true rfl⟩ dX10_add_82 (fun r11 M12 h => ?_)
    exact x_iret C E h (Nat.le_of_ble_eq_true rfl) (Nat.le_of_ble_eq_true rfl) dX10_add_85
  · replace h := h.2 c10
    refine x_iload_n C dX10_add_59 0 rfl ?_
    refine x_bipush (v := 10) C dX10_add_60 rfl ?_
    refine x_isub C dX10_add_62 ?_
    exact x_iret C E h (Nat.le_of_ble_eq_true rfl) (Nat.le_of_ble_eq_true rfl) dX10_add_63
set_option maxRecDepth 100000 in
set_option maxHeartbeats 400000 in
theorem kX10_add {l : Launch} {G : Gm} (hG : Gd G) (hl0 : l.stackTraces = false) (M : Mem) (x1 : Int32) {Q : Int32 → Mem → Prop} {K : String → Mem → Prop} (h : pX10_add M x1 Q K) : Cxi l G yX10_add cX10_add 3 .int rmX10_add [.ref (ga G 10 0), .int x1] M Q K := by
  refine cxi_of hl0 (own := RX10) (by decide +kernel) rfl (Nat.le_of_ble_eq_true rfl) hG (fun Γ Qf hl C E EX => ?_)
  subst hl
  show X Γ G Qf 3 0 0 0 [(0, .ref (ga G 10 0)), (1, .int x1)] [] M
  unfold pX10_add at h
  refine x_aload_n C dX10_add_0 0 rfl ?_
  refine x_iload_n C dX10_add_1 1 rfl ?_
  refine x_iconst (v := 0) C dX10_add_2 rfl ?_
  refine x_aload_n C dX10_add_3 0 rfl ?_
  refine gf_10_1 C q132 z10 dX10_add_4 ?_
  refine x_tcallv (rest := []) C EX sv_X10_106 ob10 z10 (kX10_needBetween hG EX.2.2 _ _ _ _ h) rfl rfl (Nat.le_of_ble_eq_true rfl) ⟨Nat.le_of_ble_eq_true rfl, Nat.le_of_ble_eq_true rfl⟩ rfl rfl ⟨Nat.le_of_ble_eq_true rfl, Nat.le_of_ble_eq_true rfl⟩ dX10_add_7 (fun M2 h => ?_)
  refine x_aload_n C dX10_add_10 0 rfl ?_
  refine gf_10_6 C q137 z10 dX10_add_11 ?_
  refine gf_4_4 C q138 z4 dX10_add_14 ?_
  refine x_bipush (v := 64) C dX10_add_17 rfl ?_
  refine x_icmp_lt (tgt := 26) C dX10_add_19 (by decide) (fun c3 => ?_) (fun c3 => ?_)
  · replace h := h.1 c3
    refine X_widen (c1 := 2) (s1 := 12) (Nat.le_of_ble_eq_true rfl) (Nat.le_of_ble_eq_true rfl) ?_
    refine X_sub (lv' := [(0, .ref (ga G 10 0)), (1, .int x1)]) [0, 1] rfl ?_
    exact wX10_add_26 hG C E EX M2 h
  · replace h := h.2 c3
    refine x_aload_n C dX10_add_22 0 rfl ?_
    refine x_tcallv (rest := []) C EX sv_X10_113 ob10 z10 (kX10_refuseArgument hG EX.2.2 _ h) rfl rfl (Nat.le_of_ble_eq_true rfl) ⟨Nat.le_of_ble_eq_true rfl, Nat.le_of_ble_eq_true rfl⟩ rfl rfl ⟨Nat.le_of_ble_eq_true rfl, Nat.le_of_ble_eq_true rfl⟩ dX10_add_23 (fun M5 h => ?_)
    refine X_sub (lv' := [(0, .ref (ga G 10 0)), (1, .int x1)]) [0, 1] rfl ?_
    exact wX10_add_26 hG C E EX M5 h
def rmX10_ask : Room := { frames := 8, cells := 1, slots := 6, locals := 153 }
def pX10_ask (M : Mem) (x1 : Int32) (Q : Int32 → Mem → Prop) (K : String → Mem → Prop) : Prop :=
  pX10_needBetween M x1 0 (imin (M.1 1101 0 0) 120) (fun M2 => ∀ M3 : Mem, M3 = up1 M2 1101 0 0 0 → pX7_read M3 x1 (fun r4 M5 => ∀ M6 : Mem, M6 = up1 M5 1102 0 0 (M5.1 802 0 0) → ((r4 = 0 → pX6_copyFrom M6 (fun M9 => Q (M9.1 701 0 0) M9)) ∧ (¬ r4 = 0 → Q (r4 - 10) M6)))) K
set_option maxRecDepth 100000 in
set_option maxHeartbeats 400000 in
theorem kX10_ask {l : Launch} {G : Gm} (hG : Gd G) (hl0 : l.stackTraces = false) (M : Mem) (x1 : Int32) {Q : Int32 → Mem → Prop} {K : String → Mem → Prop} (h : pX10_ask M x1 Q K) : Cxi l G yX10_ask cX10_ask 3 .int rmX10_ask [.ref (ga G 10 0), .int x1] M Q K := by
  refine cxi_of hl0 (own := RX10) (by decide +kernel) rfl (Nat.le_of_ble_eq_true rfl) hG (fun Γ Qf hl C E EX => ?_)
  subst hl
  show X Γ G Qf 3 0 0 0 [(0, .ref (ga G 10 0)), (1, .int x1)] [] M
  unfold pX10_ask at h
  refine x_aload_n C dX10_ask_0 0 rfl ?_
  refine x_iload_n C dX10_ask_1 1 rfl ?_
  refine x_iconst (v := 0) C dX10_ask_2 rfl ?_
  refine x_aload_n C dX10_ask_3 0 rfl ?_
  refine gf_10_1 C q132 z10 dX10_ask_4 ?_
  refine x_bipush (v := 120) C dX10_ask_7 rfl ?_
  refine x_min C sm_X10_130 (Nat.le_of_ble_eq_true rfl) (Nat.le_of_ble_eq_true rfl) (Nat.le_of_ble_eq_true rfl) (Nat.le_of_ble_eq_true rfl) dX10_ask_9 ?_
  refine x_tcallv (rest := []) C EX sv_X10_106 ob10 z10 (kX10_needBetween hG EX.2.2 _ _ _ _ h) rfl rfl (Nat.le_of_ble_eq_true rfl) ⟨Nat.le_of_ble_eq_true rfl, Nat.le_of_ble_eq_true rfl⟩ rfl rfl ⟨Nat.le_of_ble_eq_true rfl, Nat.le_of_ble_eq_true rfl⟩ dX10_ask_12 (fun M2 h => ?_)
  refine x_aload_n C dX10_ask_15 0 rfl ?_
  refine x_iconst (v := 0) C dX10_ask_16 rfl ?_
  refine pf_10_1 C q132 z10 dX10_ask_17 ?_
  refine X_nameM (fun M3 eM3 => ?_)
  replace h := h M3 eM3
  refine x_aload_n C dX10_ask_20 0 rfl ?_
  refine gf_10_10 C q844 z10 dX10_ask_21 ?_
  refine x_aload_n C dX10_ask_24 0 rfl ?_
  refine gf_10_0 C q131 z10 dX10_ask_25 ?_
  refine x_iload_n C dX10_ask_28 1 rfl ?_
  refine x_calli (rest := []) C sv_X10_136 ob7 z7 (kX7_read hG _ _ h) rfl rfl (Nat.le_of_ble_eq_true rfl) ⟨Nat.le_of_ble_eq_true rfl, Nat.le_of_ble_eq_true rfl⟩ rfl rfl ⟨Nat.le_of_ble_eq_true rfl, Nat.le_of_ble_eq_true rfl⟩ dX10_ask_29 (fun r4 M5 h => ?_)
  refine x_istore_n (lv' := [(2, .int r4), (0, .ref (ga G 10 0)), (1, .int x1)]) C dX10_ask_32 rfl (Nat.le_of_ble_eq_true rfl) rfl ?_
  refine x_aload_n C dX10_ask_33 1 rfl ?_
  refine x_aload_n C dX10_ask_34 1 rfl ?_
  refine gf_10_10 C q844 z10 dX10_ask_35 ?_
  refine gf_7_2 C q845 z7 dX10_ask_38 ?_
  refine pf_10_2 C q133 z10 dX10_ask_41 ?_
  refine X_nameM (fun M6 eM6 => ?_)
  replace h := h M6 eM6
  refine x_iload_n C dX10_ask_44 0 rfl ?_
  refine x_if_eq (tgt := 53) C dX10_ask_45 (by decide) (fun c7 => ?_) (fun c7 => ?_)
  · replace h := h.1 c7
    refine x_aload_n C dX10_ask_53 1 rfl ?_
    refine gf_10_8 C q846 z10 dX10_ask_54 ?_
    refine x_aload_n C dX10_ask_57 1 rfl ?_
    refine gf_10_10 C q844 z10 dX10_ask_58 ?_
    refine gf_7_1 C q847 z7 dX10_ask_61 ?_
    refine x_callv (rest := []) C sv_X10_141 ob6 z6 (kX6_copyFrom hG _ h) rfl rfl (Nat.le_of_ble_eq_true rfl) ⟨Nat.le_of_ble_eq_true rfl, Nat.le_of_ble_eq_true rfl⟩ rfl rfl ⟨Nat.le_of_ble_eq_true rfl, Nat.le_of_ble_eq_true rfl⟩ dX10_ask_64 (fun M9 h => ?_)
    refine x_aload_n C dX10_ask_67 1 rfl ?_
    refine gf_10_8 C q846 z10 dX10_ask_68 ?_
    refine gf_6_1 C q848 z6 dX10_ask_71 ?_
    exact x_iret C E h (Nat.le_of_ble_eq_true rfl) (Nat.le_of_ble_eq_true rfl) dX10_ask_74
  · replace h := h.2 c7
    refine x_iload_n C dX10_ask_48 0 rfl ?_
    refine x_bipush (v := 10) C dX10_ask_49 rfl ?_
    refine x_isub C dX10_ask_51 ?_
    exact x_iret C E h (Nat.le_of_ble_eq_true rfl) (Nat.le_of_ble_eq_true rfl) dX10_ask_52
def rmX10_find : Room := { frames := 8, cells := 1, slots := 6, locals := 125 }
def pX10_find (M : Mem) (x1 : Int32) (Q : Int32 → Mem → Prop) (K : String → Mem → Prop) : Prop :=
  pX10_needBetween M x1 0 (M.1 1101 0 0) (fun M2 => ∀ M3 : Mem, M3 = up1 M2 1101 0 0 0 → pX10_spellingOf M3 x1 (fun r4 M5 => pX9_numberOf M5 r4 (fun r6 M7 => Q r6 M7))) K
set_option maxRecDepth 100000 in
set_option maxHeartbeats 400000 in
theorem kX10_find {l : Launch} {G : Gm} (hG : Gd G) (hl0 : l.stackTraces = false) (M : Mem) (x1 : Int32) {Q : Int32 → Mem → Prop} {K : String → Mem → Prop} (h : pX10_find M x1 Q K) : Cxi l G yX10_find cX10_find 2 .int rmX10_find [.ref (ga G 10 0), .int x1] M Q K := by
  refine cxi_of hl0 (own := RX10) (by decide +kernel) rfl (Nat.le_of_ble_eq_true rfl) hG (fun Γ Qf hl C E EX => ?_)
  subst hl
  show X Γ G Qf 2 0 0 0 [(0, .ref (ga G 10 0)), (1, .int x1)] [] M
  unfold pX10_find at h
  refine x_aload_n C dX10_find_0 0 rfl ?_
  refine x_iload_n C dX10_find_1 1 rfl ?_
  refine x_iconst (v := 0) C dX10_find_2 rfl ?_
  refine x_aload_n C dX10_find_3 0 rfl ?_
  refine gf_10_1 C q132 z10 dX10_find_4 ?_
  refine x_tcallv (rest := []) C EX sv_X10_106 ob10 z10 (kX10_needBetween hG EX.2.2 _ _ _ _ h) rfl rfl (Nat.le_of_ble_eq_true rfl) ⟨Nat.le_of_ble_eq_true rfl, Nat.le_of_ble_eq_true rfl⟩ rfl rfl ⟨Nat.le_of_ble_eq_true rfl, Nat.le_of_ble_eq_true rfl⟩ dX10_find_7 (fun M2 h => ?_)
  refine x_aload_n C dX10_find_10 0 rfl ?_
  refine x_iconst (v := 0) C dX10_find_11 rfl ?_
  refine pf_10_1 C q132 z10 dX10_find_12 ?_
  refine X_nameM (fun M3 eM3 => ?_)
  replace h := h M3 eM3
  refine x_aload_n C dX10_find_15 0 rfl ?_
  refine gf_10_5 C q849 z10 dX10_find_16 ?_
  refine x_aload_n C dX10_find_19 0 rfl ?_
  refine x_iload_n C dX10_find_20 1 rfl ?_
  refine x_calll (rest := [.ref (ga G 9 0)]) C sv_X10_148 ob10 z10 (kX10_spellingOf hG _ _ h) rfl rfl (Nat.le_of_ble_eq_true rfl) ⟨Nat.le_of_ble_eq_true rfl, Nat.le_of_ble_eq_true rfl⟩ rfl rfl ⟨Nat.le_of_ble_eq_true rfl, Nat.le_of_ble_eq_true rfl⟩ dX10_find_21 (fun r4 M5 h => ?_)
  refine x_calli (rest := []) C sv_X10_152 ob9 z9 (kX9_numberOf hG _ _ h) rfl rfl (Nat.le_of_ble_eq_true rfl) ⟨Nat.le_of_ble_eq_true rfl, Nat.le_of_ble_eq_true rfl⟩ rfl rfl ⟨Nat.le_of_ble_eq_true rfl, Nat.le_of_ble_eq_true rfl⟩ dX10_find_24 (fun r6 M7 h => ?_)
  exact x_iret C E h (Nat.le_of_ble_eq_true rfl) (Nat.le_of_ble_eq_true rfl) dX10_find_27
def rmX10_refuseMissing : Room := { frames := 6, cells := 1, slots := 6, locals := 82 }
def pX10_refuseMissing (M : Mem) (Q : Mem → Prop) (K : String → Mem → Prop) : Prop :=
  ∀ M1 : Mem, M1 = up1 M 1103 0 0 ((M.1 1103 0 0) + 1) → K EN M1
set_option maxRecDepth 100000 in
set_option maxHeartbeats 400000 in
theorem kX10_refuseMissing {l : Launch} {G : Gm} (hG : Gd G) (hl0 : l.stackTraces = false) (M : Mem)  {Q : Mem → Prop} {K : String → Mem → Prop} (h : pX10_refuseMissing M Q K) : Cxv l G yX10_refuseMissing cX10_refuseMissing 1 rmX10_refuseMissing [.ref (ga G 10 0)] M Q K := by
  refine cxv_of hl0 (own := RX10) (by decide +kernel) rfl (Nat.le_of_ble_eq_true rfl) hG (fun Γ Qf hl C E EX => ?_)
  subst hl
  show X Γ G Qf 1 0 0 0 [(0, .ref (ga G 10 0))] [] M
  unfold pX10_refuseMissing at h
  refine x_aload_n C dX10_refuseMissing_0 0 rfl ?_
  refine x_dup C dX10_refuseMissing_1 rfl ?_
  refine gf_10_3 C q141 z10 dX10_refuseMissing_2 ?_
  refine x_iconst (v := 1) C dX10_refuseMissing_5 rfl ?_
  refine x_iadd C dX10_refuseMissing_6 ?_
  refine pf_10_3 C q141 z10 dX10_refuseMissing_7 ?_
  refine X_nameM (fun M1 eM1 => ?_)
  replace h := h M1 eM1
  exact x_throw C EX st_EN h (Nat.le_of_ble_eq_true rfl) (Nat.le_of_ble_eq_true rfl) (Nat.le_of_ble_eq_true rfl) (Nat.le_of_ble_eq_true rfl) dX10_refuseMissing_10 dX10_refuseMissing_13 dX10_refuseMissing_14 dX10_refuseMissing_17 dX10_refuseMissing_20
def rmX10_needDocument : Room := { frames := 7, cells := 1, slots := 6, locals := 102 }
def pX10_needDocument (M : Mem) (x1 : Int32) (Q : Mem → Prop) (K : String → Mem → Prop) : Prop :=
  pX4_holds M x1 (fun r1 M2 => ((¬ r1 = 0 → Q M2) ∧ (r1 = 0 → pX10_refuseMissing M2 (fun M5 => Q M5) K)))
set_option maxRecDepth 100000 in
set_option maxHeartbeats 400000 in
theorem kX10_needDocument {l : Launch} {G : Gm} (hG : Gd G) (hl0 : l.stackTraces = false) (M : Mem) (x1 : Int32) {Q : Mem → Prop} {K : String → Mem → Prop} (h : pX10_needDocument M x1 Q K) : Cxv l G yX10_needDocument cX10_needDocument 2 rmX10_needDocument [.ref (ga G 10 0), .int x1] M Q K := by
  refine cxv_of hl0 (own := RX10) (by decide +kernel) rfl (Nat.le_of_ble_eq_true rfl) hG (fun Γ Qf hl C E EX => ?_)
  subst hl
  show X Γ G Qf 2 0 0 0 [(0, .ref (ga G 10 0)), (1, .int x1)] [] M
  unfold pX10_needDocument at h
  refine x_aload_n C dX10_needDocument_0 0 rfl ?_
  refine gf_10_6 C q137 z10 dX10_needDocument_1 ?_
  refine x_iload_n C dX10_needDocument_4 1 rfl ?_
  refine x_calli (rest := []) C sv_X10_393 ob4 z4 (kX4_holds hG _ _ h) rfl rfl (Nat.le_of_ble_eq_true rfl) ⟨Nat.le_of_ble_eq_true rfl, Nat.le_of_ble_eq_true rfl⟩ rfl rfl ⟨Nat.le_of_ble_eq_true rfl, Nat.le_of_ble_eq_true rfl⟩ dX10_needDocument_5 (fun r1 M2 h => ?_)
  refine x_if_ne (tgt := 15) C dX10_needDocument_8 (by decide) (fun c3 => ?_) (fun c3 => ?_)
  · replace h := h.1 c3
    exact x_vret C E h (Nat.le_of_ble_eq_true rfl) (Nat.le_of_ble_eq_true rfl) dX10_needDocument_15
  · replace h := h.2 c3
    refine x_aload_n C dX10_needDocument_11 0 rfl ?_
    refine x_tcallv (rest := []) C EX sv_X10_163 ob10 z10 (kX10_refuseMissing hG EX.2.2 _ h) rfl rfl (Nat.le_of_ble_eq_true rfl) ⟨Nat.le_of_ble_eq_true rfl, Nat.le_of_ble_eq_true rfl⟩ rfl rfl ⟨Nat.le_of_ble_eq_true rfl, Nat.le_of_ble_eq_true rfl⟩ dX10_needDocument_12 (fun M5 h => ?_)
    exact x_vret C E h (Nat.le_of_ble_eq_true rfl) (Nat.le_of_ble_eq_true rfl) dX10_needDocument_15
def rmX10_remove : Room := { frames := 8, cells := 2, slots := 12, locals := 123 }
def bX10_remove_20 (x1 : Int32) (Q : Int32 → Mem → Prop) (K : String → Mem → Prop) (M : Mem) : Prop :=
  pX4_takeAway M x1 (fun r8 M9 => Q r8 M9)
def pX10_remove (M : Mem) (x1 : Int32) (Q : Int32 → Mem → Prop) (K : String → Mem → Prop) : Prop :=
  pX10_needDocument M x1 (fun M2 => pX4_isGone M2 x1 (fun r3 M4 => ((r3 = 0 → bX10_remove_20 x1 Q K M4) ∧ (¬ r3 = 0 → pX10_refuseMissing M4 (fun M7 => bX10_remove_20 x1 Q K M7) K)))) K
set_option maxRecDepth 100000 in
set_option maxHeartbeats 400000 in
theorem wX10_remove_20 {Γ : Gam} {G : Gm} {Qf : State → Prop} (hG : Gd G) (C : Cx Γ G cX10_remove 2 RX10 (some .int) rmX10_remove) {x1 : Int32} {Q : Int32 → Mem → Prop} {K : String → Mem → Prop} (E : EndI Γ G Qf rmX10_remove Q) (EX : EndX Γ G Qf rmX10_remove K) (M : Mem) (h : bX10_remove_20 x1 Q K M) : X Γ G Qf 2 2 12 20 [(0, .ref (ga G 10 0)), (1, .int x1)] [] M := by
  unfold bX10_remove_20 at h
  refine x_aload_n C dX10_remove_20 0 rfl ?_
  refine gf_10_6 C q137 z10 dX10_remove_21 ?_
  refine x_iload_n C dX10_remove_24 1 rfl ?_
  refine x_calli (rest := []) C sv_X10_166 ob4 z4 (kX4_takeAway hG _ _ h) rfl rfl (Nat.le_of_ble_eq_true rfl) ⟨Nat.le_of_ble_eq_true rfl, Nat.le_of_ble_eq_true rfl⟩ rfl rfl ⟨Nat.le_of_ble_eq_true rfl, Nat.le_of_ble_eq_true rfl⟩ dX10_remove_25 (fun r8 M9 h => ?_)
  exact x_iret C E h (Nat.le_of_ble_eq_true rfl) (Nat.le_of_ble_eq_true rfl) dX10_remove_28
set_option maxRecDepth 100000 in
set_option maxHeartbeats 400000 in
theorem kX10_remove {l : Launch} {G : Gm} (hG : Gd G) (hl0 : l.stackTraces = false) (M : Mem) (x1 : Int32) {Q : Int32 → Mem → Prop} {K : String → Mem → Prop} (h : pX10_remove M x1 Q K) : Cxi l G yX10_remove cX10_remove 2 .int rmX10_remove [.ref (ga G 10 0), .int x1] M Q K := by
  refine cxi_of hl0 (own := RX10) (by decide +kernel) rfl (Nat.le_of_ble_eq_true rfl) hG (fun Γ Qf hl C E EX => ?_)
  subst hl
  show X Γ G Qf 2 0 0 0 [(0, .ref (ga G 10 0)), (1, .int x1)] [] M
  unfold pX10_remove at h
  refine x_aload_n C dX10_remove_0 0 rfl ?_
  refine x_iload_n C dX10_remove_1 1 rfl ?_
  refine x_tcallv (rest := []) C EX sv_X10_156 ob10 z10 (kX10_needDocument hG EX.2.2 _ _ h) rfl rfl (Nat.le_of_ble_eq_true rfl) ⟨Nat.le_of_ble_eq_true rfl, Nat.le_of_ble_eq_true rfl⟩ rfl rfl ⟨Nat.le_of_ble_eq_true rfl, Nat.le_of_ble_eq_true rfl⟩ dX10_remove_2 (fun M2 h => ?_)
  refine x_aload_n C dX10_remove_5 0 rfl ?_
  refine gf_10_6 C q137 z10 dX10_remove_6 ?_
  refine x_iload_n C dX10_remove_9 1 rfl ?_
  refine x_calli (rest := []) C sv_X10_159 ob4 z4 (kX4_isGone hG _ _ h) rfl rfl (Nat.le_of_ble_eq_true rfl) ⟨Nat.le_of_ble_eq_true rfl, Nat.le_of_ble_eq_true rfl⟩ rfl rfl ⟨Nat.le_of_ble_eq_true rfl, Nat.le_of_ble_eq_true rfl⟩ dX10_remove_10 (fun r3 M4 h => ?_)
  refine x_if_eq (tgt := 20) C dX10_remove_13 (by decide) (fun c5 => ?_) (fun c5 => ?_)
  · replace h := h.1 c5
    refine X_widen (c1 := 2) (s1 := 12) (Nat.le_of_ble_eq_true rfl) (Nat.le_of_ble_eq_true rfl) ?_
    refine X_sub (lv' := [(0, .ref (ga G 10 0)), (1, .int x1)]) [0, 1] rfl ?_
    exact wX10_remove_20 hG C E EX M4 h
  · replace h := h.2 c5
    refine x_aload_n C dX10_remove_16 0 rfl ?_
    refine x_tcallv (rest := []) C EX sv_X10_163 ob10 z10 (kX10_refuseMissing hG EX.2.2 _ h) rfl rfl (Nat.le_of_ble_eq_true rfl) ⟨Nat.le_of_ble_eq_true rfl, Nat.le_of_ble_eq_true rfl⟩ rfl rfl ⟨Nat.le_of_ble_eq_true rfl, Nat.le_of_ble_eq_true rfl⟩ dX10_remove_17 (fun M7 h => ?_)
    refine X_sub (lv' := [(0, .ref (ga G 10 0)), (1, .int x1)]) [0, 1] rfl ?_
    exact wX10_remove_20 hG C E EX M7 h
def rmX10_needSize : Room := { frames := 8, cells := 1, slots := 6, locals := 125 }
def pX10_needSize (M : Mem) (x1 : Int32) (Q : Mem → Prop) (K : String → Mem → Prop) : Prop :=
  pX10_needBetween M x1 2 8 (fun M2 => Q M2) K
set_option maxRecDepth 100000 in
set_option maxHeartbeats 400000 in
theorem kX10_needSize {l : Launch} {G : Gm} (hG : Gd G) (hl0 : l.stackTraces = false) (M : Mem) (x1 : Int32) {Q : Mem → Prop} {K : String → Mem → Prop} (h : pX10_needSize M x1 Q K) : Cxv l G yX10_needSize cX10_needSize 2 rmX10_needSize [.ref (ga G 10 0), .int x1] M Q K := by
  refine cxv_of hl0 (own := RX10) (by decide +kernel) rfl (Nat.le_of_ble_eq_true rfl) hG (fun Γ Qf hl C E EX => ?_)
  subst hl
  show X Γ G Qf 2 0 0 0 [(0, .ref (ga G 10 0)), (1, .int x1)] [] M
  unfold pX10_needSize at h
  refine x_aload_n C dX10_needSize_0 0 rfl ?_
  refine x_iload_n C dX10_needSize_1 1 rfl ?_
  refine x_iconst (v := 2) C dX10_needSize_2 rfl ?_
  refine x_bipush (v := 8) C dX10_needSize_3 rfl ?_
  refine x_tcallv (rest := []) C EX sv_X10_106 ob10 z10 (kX10_needBetween hG EX.2.2 _ _ _ _ h) rfl rfl (Nat.le_of_ble_eq_true rfl) ⟨Nat.le_of_ble_eq_true rfl, Nat.le_of_ble_eq_true rfl⟩ rfl rfl ⟨Nat.le_of_ble_eq_true rfl, Nat.le_of_ble_eq_true rfl⟩ dX10_needSize_5 (fun M2 h => ?_)
  exact x_vret C E h (Nat.le_of_ble_eq_true rfl) (Nat.le_of_ble_eq_true rfl) dX10_needSize_8
def rmX10_repack : Room := { frames := 9, cells := 1, slots := 6, locals := 146 }
def pX10_repack (M : Mem) (x1 : Int32) (Q : Int32 → Mem → Prop) (K : String → Mem → Prop) : Prop :=
  pX10_needSize M x1 (fun M2 => ∀ M3 : Mem, M3 = up1 M2 507 0 0 x1 → pX4_purge M3 (fun r4 M5 => Q r4 M5)) K
set_option maxRecDepth 100000 in
set_option maxHeartbeats 400000 in
theorem kX10_repack {l : Launch} {G : Gm} (hG : Gd G) (hl0 : l.stackTraces = false) (M : Mem) (x1 : Int32) {Q : Int32 → Mem → Prop} {K : String → Mem → Prop} (h : pX10_repack M x1 Q K) : Cxi l G yX10_repack cX10_repack 2 .int rmX10_repack [.ref (ga G 10 0), .int x1] M Q K := by
  refine cxi_of hl0 (own := RX10) (by decide +kernel) rfl (Nat.le_of_ble_eq_true rfl) hG (fun Γ Qf hl C E EX => ?_)
  subst hl
  show X Γ G Qf 2 0 0 0 [(0, .ref (ga G 10 0)), (1, .int x1)] [] M
  unfold pX10_repack at h
  refine x_aload_n C dX10_repack_0 0 rfl ?_
  refine x_iload_n C dX10_repack_1 1 rfl ?_
  refine x_tcallv (rest := []) C EX sv_X10_170 ob10 z10 (kX10_needSize hG EX.2.2 _ _ h) rfl rfl (Nat.le_of_ble_eq_true rfl) ⟨Nat.le_of_ble_eq_true rfl, Nat.le_of_ble_eq_true rfl⟩ rfl rfl ⟨Nat.le_of_ble_eq_true rfl, Nat.le_of_ble_eq_true rfl⟩ dX10_repack_2 (fun M2 h => ?_)
  refine x_aload_n C dX10_repack_5 0 rfl ?_
  refine gf_10_6 C q137 z10 dX10_repack_6 ?_
  refine x_iload_n C dX10_repack_9 1 rfl ?_
  refine pf_4_7 C q850 z4 dX10_repack_10 ?_
  refine X_nameM (fun M3 eM3 => ?_)
  replace h := h M3 eM3
  refine x_aload_n C dX10_repack_13 0 rfl ?_
  refine gf_10_6 C q137 z10 dX10_repack_14 ?_
  refine x_calli (rest := []) C sv_X10_176 ob4 z4 (kX4_purge hG _ h) rfl rfl (Nat.le_of_ble_eq_true rfl) ⟨Nat.le_of_ble_eq_true rfl, Nat.le_of_ble_eq_true rfl⟩ rfl rfl ⟨Nat.le_of_ble_eq_true rfl, Nat.le_of_ble_eq_true rfl⟩ dX10_repack_17 (fun r4 M5 h => ?_)
  exact x_iret C E h (Nat.le_of_ble_eq_true rfl) (Nat.le_of_ble_eq_true rfl) dX10_repack_20
def rmX10_told : Room := { frames := 8, cells := 1, slots := 6, locals := 125 }
def pX10_told (M : Mem) (x1 : Int32) (Q : Int32 → Mem → Prop) (K : String → Mem → Prop) : Prop :=
  pX10_needBetween M x1 0 9 (fun M2 => ((x1 = 0 → Q (M2.1 505 0 0) M2) ∧ (x1 = 1 → Q (M2.1 506 0 0) M2) ∧ (x1 = 2 → Q (M2.1 1001 0 0) M2) ∧ (x1 = 3 → pX4_allPostings M2 (fun r7 M8 => Q r7 M8)) ∧ (x1 = 4 → pX5_allBlocks M2 (M2.1 507 0 0) (fun r10 M11 => Q r10 M11)) ∧ (x1 = 5 → pX5_allBits M2 (M2.1 507 0 0) (fun r13 M14 => Q r13 M14)) ∧ (x1 = 6 → Q (M2.1 507 0 0) M2) ∧ (x1 = 7 → Q (M2.1 701 0 0) M2) ∧ (x1 = 8 → Q (M2.1 700 0 0) M2) ∧ (¬ x1 = 0 → ¬ x1 = 1 → ¬ x1 = 2 → ¬ x1 = 3 → ¬ x1 = 4 → ¬ x1 = 5 → ¬ x1 = 6 → ¬ x1 = 7 → ¬ x1 = 8 → Q (M2.1 504 0 0) M2))) K
set_option maxRecDepth 100000 in
set_option maxHeartbeats 400000 in
theorem kX10_told {l : Launch} {G : Gm} (hG : Gd G) (hl0 : l.stackTraces = false) (M : Mem) (x1 : Int32) {Q : Int32 → Mem → Prop} {K : String → Mem → Prop} (h : pX10_told M x1 Q K) : Cxi l G yX10_told cX10_told 2 .int rmX10_told [.ref (ga G 10 0), .int x1] M Q K := by
  refine cxi_of hl0 (own := RX10) (by decide +kernel) rfl (Nat.le_of_ble_eq_true rfl) hG (fun Γ Qf hl C E EX => ?_)
  subst hl
  show X Γ G Qf 2 0 0 0 [(0, .ref (ga G 10 0)), (1, .int x1)] [] M
  unfold pX10_told at h
  refine x_aload_n C dX10_told_0 0 rfl ?_
  refine x_iload_n C dX10_told_1 1 rfl ?_
  refine x_iconst (v := 0) C dX10_told_2 rfl ?_
  refine x_bipush (v := 9) C dX10_told_3 rfl ?_
  refine x_tcallv (rest := []) C EX sv_X10_106 ob10 z10 (kX10_needBetween hG EX.2.2 _ _ _ _ h) rfl rfl (Nat.le_of_ble_eq_true rfl) ⟨Nat.le_of_ble_eq_true rfl, Nat.le_of_ble_eq_true rfl⟩ rfl rfl ⟨Nat.le_of_ble_eq_true rfl, Nat.le_of_ble_eq_true rfl⟩ dX10_told_5 (fun M2 h => ?_)
  refine x_iload_n C dX10_told_8 1 rfl ?_
  by_cases c3 : x1 = 0
  · replace h := h.1 c3
    refine x_tabIn (v := 0) (tgt := 60) C dX10_told_9 c3 (by decide) (by decide) rfl (by decide) ?_
    refine x_aload_n C dX10_told_60 0 rfl ?_
    refine gf_10_6 C q137 z10 dX10_told_61 ?_
    refine gf_4_5 C q851 z4 dX10_told_64 ?_
    exact x_iret C E h (Nat.le_of_ble_eq_true rfl) (Nat.le_of_ble_eq_true rfl) dX10_told_67
  by_cases c4 : x1 = 1
  · replace h := h.2.1 c4
    refine x_tabIn (v := 1) (tgt := 68) C dX10_told_9 c4 (by decide) (by decide) rfl (by decide) ?_
    refine x_aload_n C dX10_told_68 0 rfl ?_
    refine gf_10_6 C q137 z10 dX10_told_69 ?_
    refine gf_4_6 C q852 z4 dX10_told_72 ?_
    exact x_iret C E h (Nat.le_of_ble_eq_true rfl) (Nat.le_of_ble_eq_true rfl) dX10_told_75
  by_cases c5 : x1 = 2
  · replace h := h.2.2.1 c5
    refine x_tabIn (v := 2) (tgt := 76) C dX10_told_9 c5 (by decide) (by decide) rfl (by decide) ?_
    refine x_aload_n C dX10_told_76 0 rfl ?_
    refine gf_10_5 C q849 z10 dX10_told_77 ?_
    refine gf_9_1 C q853 z9 dX10_told_80 ?_
    exact x_iret C E h (Nat.le_of_ble_eq_true rfl) (Nat.le_of_ble_eq_true rfl) dX10_told_83
  by_cases c6 : x1 = 3
  · replace h := h.2.2.2.1 c6
    refine x_tabIn (v := 3) (tgt := 84) C dX10_told_9 c6 (by decide) (by decide) rfl (by decide) ?_
    refine x_aload_n C dX10_told_84 0 rfl ?_
    refine gf_10_6 C q137 z10 dX10_told_85 ?_
    refine x_calli (rest := []) C sv_X10_189 ob4 z4 (kX4_allPostings hG _ h) rfl rfl (Nat.le_of_ble_eq_true rfl) ⟨Nat.le_of_ble_eq_true rfl, Nat.le_of_ble_eq_true rfl⟩ rfl rfl ⟨Nat.le_of_ble_eq_true rfl, Nat.le_of_ble_eq_true rfl⟩ dX10_told_88 (fun r7 M8 h => ?_)
    exact x_iret C E h (Nat.le_of_ble_eq_true rfl) (Nat.le_of_ble_eq_true rfl) dX10_told_91
  by_cases c9 : x1 = 4
  · replace h := h.2.2.2.2.1 c9
    refine x_tabIn (v := 4) (tgt := 92) C dX10_told_9 c9 (by decide) (by decide) rfl (by decide) ?_
    refine x_aload_n C dX10_told_92 0 rfl ?_
    refine gf_10_7 C q136 z10 dX10_told_93 ?_
    refine x_aload_n C dX10_told_96 0 rfl ?_
    refine gf_10_6 C q137 z10 dX10_told_97 ?_
    refine gf_4_7 C q850 z4 dX10_told_100 ?_
    refine x_calli (rest := []) C sv_X10_192 ob5 z5 (kX5_allBlocks hG _ _ h) rfl rfl (Nat.le_of_ble_eq_true rfl) ⟨Nat.le_of_ble_eq_true rfl, Nat.le_of_ble_eq_true rfl⟩ rfl rfl ⟨Nat.le_of_ble_eq_true rfl, Nat.le_of_ble_eq_true rfl⟩ dX10_told_103 (fun r10 M11 h => ?_)
    exact x_iret C E h (Nat.le_of_ble_eq_true rfl) (Nat.le_of_ble_eq_true rfl) dX10_told_106
  by_cases c12 : x1 = 5
  · replace h := h.2.2.2.2.2.1 c12
    refine x_tabIn (v := 5) (tgt := 107) C dX10_told_9 c12 (by decide) (by decide) rfl (by decide) ?_
    refine x_aload_n C dX10_told_107 0 rfl ?_
    refine gf_10_7 C q136 z10 dX10_told_108 ?_
    refine x_aload_n C dX10_told_111 0 rfl ?_
    refine gf_10_6 C q137 z10 dX10_told_112 ?_
    refine gf_4_7 C q850 z4 dX10_told_115 ?_
    refine x_calli (rest := []) C sv_X10_195 ob5 z5 (kX5_allBits hG _ _ h) rfl rfl (Nat.le_of_ble_eq_true rfl) ⟨Nat.le_of_ble_eq_true rfl, Nat.le_of_ble_eq_true rfl⟩ rfl rfl ⟨Nat.le_of_ble_eq_true rfl, Nat.le_of_ble_eq_true rfl⟩ dX10_told_118 (fun r13 M14 h => ?_)
    exact x_iret C E h (Nat.le_of_ble_eq_true rfl) (Nat.le_of_ble_eq_true rfl) dX10_told_121
  by_cases c15 : x1 = 6
  · replace h := h.2.2.2.2.2.2.1 c15
    refine x_tabIn (v := 6) (tgt := 122) C dX10_told_9 c15 (by decide) (by decide) rfl (by decide) ?_
    refine x_aload_n C dX10_told_122 0 rfl ?_
    refine gf_10_6 C q137 z10 dX10_told_123 ?_
    refine gf_4_7 C q850 z4 dX10_told_126 ?_
    exact x_iret C E h (Nat.le_of_ble_eq_true rfl) (Nat.le_of_ble_eq_true rfl) dX10_told_129
  by_cases c16 : x1 = 7
  · replace h := h.2.2.2.2.2.2.2.1 c16
    refine x_tabIn (v := 7) (tgt := 130) C dX10_told_9 c16 (by decide) (by decide) rfl (by decide) ?_
    refine x_aload_n C dX10_told_130 0 rfl ?_
    refine gf_10_8 C q846 z10 dX10_told_131 ?_
    refine gf_6_1 C q848 z6 dX10_told_134 ?_
    exact x_iret C E h (Nat.le_of_ble_eq_true rfl) (Nat.le_of_ble_eq_true rfl) dX10_told_137
  by_cases c17 : x1 = 8
  · replace h := h.2.2.2.2.2.2.2.2.1 c17
    refine x_tabIn (v := 8) (tgt := 138) C dX10_told_9 c17 (by decide) (by decide) rfl (by decide) ?_
    refine x_aload_n C dX10_told_138 0 rfl ?_
    refine gf_10_8 C q846 z10 dX10_told_139 ?_
    refine gf_6_0 C q854 z6 dX10_told_142 ?_
    exact x_iret C E h (Nat.le_of_ble_eq_true rfl) (Nat.le_of_ble_eq_true rfl) dX10_told_145
  replace h := h.2.2.2.2.2.2.2.2.2 c3 c4 c5 c6 c9 c12 c15 c16 c17
  refine x_tabOut (tgt := 146) C dX10_told_9 (by have ac3 := lv_neT (a := 0) c3 rfl; have ac4 := lv_neT (a := 1) c4 rfl; have ac5 := lv_neT (a := 2) c5 rfl; have ac6 := lv_neT (a := 3) c6 rfl; have ac9 := lv_neT (a := 4) c9 rfl; have ac12 := lv_neT (a := 5) c12 rfl; have ac15 := lv_neT (a := 6) c15 rfl; have ac16 := lv_neT (a := 7) c16 rfl; have ac17 := lv_neT (a := 8) c17 rfl; omega) (by decide) ?_
  refine x_aload_n C dX10_told_146 0 rfl ?_
  refine gf_10_6 C q137 z10 dX10_told_147 ?_
  refine gf_4_4 C q138 z4 dX10_told_150 ?_
  exact x_iret C E h (Nat.le_of_ble_eq_true rfl) (Nat.le_of_ble_eq_true rfl) dX10_told_153
def rmX10_document : Room := { frames := 8, cells := 2, slots := 12, locals := 125 }
def pX10_document (M : Mem) (x1 : Int32) (x2 : Int32) (Q : Int32 → Mem → Prop) (K : String → Mem → Prop) : Prop :=
  pX10_needDocument M x1 (fun M2 => pX10_needBetween M2 x2 0 4 (fun M4 => ((x2 = 0 → vp_in x1 64 ∧ Q (M4.1 502 0 (tn x1)) M4) ∧ (x2 = 1 → pX4_unlikeWords M4 x1 (fun r8 M9 => Q r8 M9)) ∧ (x2 = 2 → pX4_isGone M4 x1 (fun r11 M12 => ((r11 = 0 → Q 0 M12) ∧ (¬ r11 = 0 → Q 1 M12)))) ∧ (x2 = 3 → pX4_mostOften M4 x1 (fun r15 M16 => Q r15 M16)) ∧ (¬ x2 = 0 → ¬ x2 = 1 → ¬ x2 = 2 → ¬ x2 = 3 → pX4_mostOften M4 x1 (fun r17 M18 => vp_in r17 255 ∧ vp_in x1 64 ∧ Q (M18.1 5508 (tn r17) (tn x1)) M18)))) K) K
set_option maxRecDepth 100000 in
set_option maxHeartbeats 400000 in
theorem kX10_document {l : Launch} {G : Gm} (hG : Gd G) (hl0 : l.stackTraces = false) (M : Mem) (x1 : Int32) (x2 : Int32) {Q : Int32 → Mem → Prop} {K : String → Mem → Prop} (h : pX10_document M x1 x2 Q K) : Cxi l G yX10_document cX10_document 3 .int rmX10_document [.ref (ga G 10 0), .int x1, .int x2] M Q K := by
  refine cxi_of hl0 (own := RX10) (by decide +kernel) rfl (Nat.le_of_ble_eq_true rfl) hG (fun Γ Qf hl C E EX => ?_)
  subst hl
  show X Γ G Qf 3 0 0 0 [(0, .ref (ga G 10 0)), (1, .int x1), (2, .int x2)] [] M
  unfold pX10_document at h
  refine x_aload_n C dX10_document_0 0 rfl ?_
  refine x_iload_n C dX10_document_1 1 rfl ?_
  refine x_tcallv (rest := []) C EX sv_X10_156 ob10 z10 (kX10_needDocument hG EX.2.2 _ _ h) rfl rfl (Nat.le_of_ble_eq_true rfl) ⟨Nat.le_of_ble_eq_true rfl, Nat.le_of_ble_eq_true rfl⟩ rfl rfl ⟨Nat.le_of_ble_eq_true rfl, Nat.le_of_ble_eq_true rfl⟩ dX10_document_2 (fun M2 h => ?_)
  refine x_aload_n C dX10_document_5 0 rfl ?_
  refine x_iload_n C dX10_document_6 2 rfl ?_
  refine x_iconst (v := 0) C dX10_document_7 rfl ?_
  refine x_iconst (v := 4) C dX10_document_8 rfl ?_
  refine x_tcallv (rest := []) C EX sv_X10_106 ob10 z10 (kX10_needBetween hG EX.2.2 _ _ _ _ h) rfl rfl (Nat.le_of_ble_eq_true rfl) ⟨Nat.le_of_ble_eq_true rfl, Nat.le_of_ble_eq_true rfl⟩ rfl rfl ⟨Nat.le_of_ble_eq_true rfl, Nat.le_of_ble_eq_true rfl⟩ dX10_document_9 (fun M4 h => ?_)
  refine x_iload_n C dX10_document_12 2 rfl ?_
  by_cases c5 : x2 = 0
  · replace h := h.1 c5
    refine x_tabIn (v := 0) (tgt := 44) C dX10_document_13 c5 (by decide) (by decide) rfl (by decide) ?_
    refine x_aload_n C dX10_document_44 0 rfl ?_
    refine gf_10_6 C q137 z10 dX10_document_45 ?_
    refine gf_4_2 C q855 z4 dX10_document_48 ?_
    refine x_iload_n C dX10_document_51 1 rfl ?_
    obtain ⟨f6, h⟩ := h
    refine al_502 C z502 f6 dX10_document_52 ?_
    exact x_iret C E h (Nat.le_of_ble_eq_true rfl) (Nat.le_of_ble_eq_true rfl) dX10_document_53
  by_cases c7 : x2 = 1
  · replace h := h.2.1 c7
    refine x_tabIn (v := 1) (tgt := 54) C dX10_document_13 c7 (by decide) (by decide) rfl (by decide) ?_
    refine x_aload_n C dX10_document_54 0 rfl ?_
    refine gf_10_6 C q137 z10 dX10_document_55 ?_
    refine x_iload_n C dX10_document_58 1 rfl ?_
    refine x_calli (rest := []) C sv_X10_204 ob4 z4 (kX4_unlikeWords hG _ _ h) rfl rfl (Nat.le_of_ble_eq_true rfl) ⟨Nat.le_of_ble_eq_true rfl, Nat.le_of_ble_eq_true rfl⟩ rfl rfl ⟨Nat.le_of_ble_eq_true rfl, Nat.le_of_ble_eq_true rfl⟩ dX10_document_59 (fun r8 M9 h => ?_)
    exact x_iret C E h (Nat.le_of_ble_eq_true rfl) (Nat.le_of_ble_eq_true rfl) dX10_document_62
  by_cases c10 : x2 = 2
  · replace h := h.2.2.1 c10
    refine x_tabIn (v := 2) (tgt := 63) C dX10_document_13 c10 (by decide) (by decide) rfl (by decide) ?_
    refine x_aload_n C dX10_document_63 0 rfl ?_
    refine gf_10_6 C q137 z10 dX10_document_64 ?_
    refine x_iload_n C dX10_document_67 1 rfl ?_
    refine x_calli (rest := []) C sv_X10_159 ob4 z4 (kX4_isGone hG _ _ h) rfl rfl (Nat.le_of_ble_eq_true rfl) ⟨Nat.le_of_ble_eq_true rfl, Nat.le_of_ble_eq_true rfl⟩ rfl rfl ⟨Nat.le_of_ble_eq_true rfl, Nat.le_of_ble_eq_true rfl⟩ dX10_document_68 (fun r11 M12 h => ?_)
    refine x_if_eq (tgt := 78) C dX10_document_71 (by decide) (fun c13 => ?_) (fun c13 => ?_)
    · replace h := h.1 c13
      refine x_iconst (v := 0) C dX10_document_78 rfl ?_
      exact x_iret C E h (Nat.le_of_ble_eq_true rfl) (Nat.le_of_ble_eq_true rfl) dX10_document_79
    · replace h := h.2 c13
      refine x_iconst (v := 1) C dX10_document_74 rfl ?_
      refine x_goto (tgt := 79) C dX10_document_75 (by decide) ?_
      exact x_iret C E h (Nat.le_of_ble_eq_true rfl) (Nat.le_of_ble_eq_true rfl) dX10_document_79
  by_cases c14 : x2 = 3
  · replace h := h.2.2.2.1 c14
    refine x_tabIn (v := 3) (tgt := 80) C dX10_document_13 c14 (by decide) (by decide) rfl (by decide) ?_
    refine x_aload_n C dX10_document_80 0 rfl ?_
    refine gf_10_6 C q137 z10 dX10_document_81 ?_
    refine x_iload_n C dX10_document_84 1 rfl ?_
    refine x_calli (rest := []) C sv_X10_207 ob4 z4 (kX4_mostOften hG _ _ h) rfl rfl (Nat.le_of_ble_eq_true rfl) ⟨Nat.le_of_ble_eq_true rfl, Nat.le_of_ble_eq_true rfl⟩ rfl rfl ⟨Nat.le_of_ble_eq_true rfl, Nat.le_of_ble_eq_true rfl⟩ dX10_document_85 (fun r15 M16 h => ?_)
    exact x_iret C E h (Nat.le_of_ble_eq_true rfl) (Nat.le_of_ble_eq_true rfl) dX10_document_88
  replace h := h.2.2.2.2 c5 c7 c10 c14
  refine x_tabOut (tgt := 89) C dX10_document_13 (by have ac5 := lv_neT (a := 0) c5 rfl; have ac7 := lv_neT (a := 1) c7 rfl; have ac10 := lv_neT (a := 2) c10 rfl; have ac14 := lv_neT (a := 3) c14 rfl; omega) (by decide) ?_
  refine x_aload_n C dX10_document_89 0 rfl ?_
  refine gf_10_6 C q137 z10 dX10_document_90 ?_
  refine gf_4_8 C q856 z4 dX10_document_93 ?_
  refine x_aload_n C dX10_document_96 0 rfl ?_
  refine gf_10_6 C q137 z10 dX10_document_97 ?_
  refine x_iload_n C dX10_document_100 1 rfl ?_
  refine x_calli (rest := [.ref (ga G 508 0)]) C sv_X10_207 ob4 z4 (kX4_mostOften hG _ _ h) rfl rfl (Nat.le_of_ble_eq_true rfl) ⟨Nat.le_of_ble_eq_true rfl, Nat.le_of_ble_eq_true rfl⟩ rfl rfl ⟨Nat.le_of_ble_eq_true rfl, Nat.le_of_ble_eq_true rfl⟩ dX10_document_101 (fun r17 M18 h => ?_)
  obtain ⟨f19, h⟩ := h
  refine al_508 C z508 f19 dX10_document_104 ?_
  refine x_iload_n C dX10_document_105 1 rfl ?_
  obtain ⟨f20, h⟩ := h
  refine al_5508 C (vp_lt f19) f20 dX10_document_106 ?_
  exact x_iret C E h (Nat.le_of_ble_eq_true rfl) (Nat.le_of_ble_eq_true rfl) dX10_document_107
def rmX10_at : Room := { frames := 8, cells := 1, slots := 6, locals := 123 }
def pX10_at (M : Mem) (x1 : Int32) (x2 : Int32) (Q : Int32 → Mem → Prop) (K : String → Mem → Prop) : Prop :=
  pX10_needDocument M x1 (fun M2 => ((x2 < 0 → Q (-1) M2) ∧ (¬ x2 < 0 → vp_in x1 64 ∧ ((x2 < (M2.1 502 0 (tn x1)) → vp_in x2 150 ∧ Q (M2.1 5501 (tn x1) (tn x2)) M2) ∧ (¬ x2 < (M2.1 502 0 (tn x1)) → Q (-1) M2))))) K
set_option maxRecDepth 100000 in
set_option maxHeartbeats 400000 in
theorem kX10_at {l : Launch} {G : Gm} (hG : Gd G) (hl0 : l.stackTraces = false) (M : Mem) (x1 : Int32) (x2 : Int32) {Q : Int32 → Mem → Prop} {K : String → Mem → Prop} (h : pX10_at M x1 x2 Q K) : Cxi l G yX10_at cX10_at 3 .int rmX10_at [.ref (ga G 10 0), .int x1, .int x2] M Q K := by
  refine cxi_of hl0 (own := RX10) (by decide +kernel) rfl (Nat.le_of_ble_eq_true rfl) hG (fun Γ Qf hl C E EX => ?_)
  subst hl
  show X Γ G Qf 3 0 0 0 [(0, .ref (ga G 10 0)), (1, .int x1), (2, .int x2)] [] M
  unfold pX10_at at h
  refine x_aload_n C dX10_at_0 0 rfl ?_
  refine x_iload_n C dX10_at_1 1 rfl ?_
  refine x_tcallv (rest := []) C EX sv_X10_156 ob10 z10 (kX10_needDocument hG EX.2.2 _ _ h) rfl rfl (Nat.le_of_ble_eq_true rfl) ⟨Nat.le_of_ble_eq_true rfl, Nat.le_of_ble_eq_true rfl⟩ rfl rfl ⟨Nat.le_of_ble_eq_true rfl, Nat.le_of_ble_eq_true rfl⟩ dX10_at_2 (fun M2 h => ?_)
  refine x_iload_n C dX10_at_5 2 rfl ?_
  refine x_if_lt (tgt := 22) C dX10_at_6 (by decide) (fun c3 => ?_) (fun c3 => ?_)
  · replace h := h.1 c3
    refine x_iconst (v := (-1)) C dX10_at_22 rfl ?_
    exact x_iret C E h (Nat.le_of_ble_eq_true rfl) (Nat.le_of_ble_eq_true rfl) dX10_at_23
  · replace h := h.2 c3
    refine x_iload_n C dX10_at_9 2 rfl ?_
    refine x_aload_n C dX10_at_10 0 rfl ?_
    refine gf_10_6 C q137 z10 dX10_at_11 ?_
    refine gf_4_2 C q855 z4 dX10_at_14 ?_
    refine x_iload_n C dX10_at_17 1 rfl ?_
    obtain ⟨f4, h⟩ := h
    refine al_502 C z502 f4 dX10_at_18 ?_
    refine x_icmp_lt (tgt := 24) C dX10_at_19 (by decide) (fun c5 => ?_) (fun c5 => ?_)
    · replace h := h.1 c5
      refine x_aload_n C dX10_at_24 0 rfl ?_
      refine gf_10_6 C q137 z10 dX10_at_25 ?_
      refine gf_4_1 C q857 z4 dX10_at_28 ?_
      refine x_iload_n C dX10_at_31 1 rfl ?_
      refine al_501 C z501 f4 dX10_at_32 ?_
      refine x_iload_n C dX10_at_33 2 rfl ?_
      obtain ⟨f6, h⟩ := h
      refine al_5501 C (vp_lt f4) f6 dX10_at_34 ?_
      exact x_iret C E h (Nat.le_of_ble_eq_true rfl) (Nat.le_of_ble_eq_true rfl) dX10_at_35
    · replace h := h.2 c5
      refine x_iconst (v := (-1)) C dX10_at_22 rfl ?_
      exact x_iret C E h (Nat.le_of_ble_eq_true rfl) (Nat.le_of_ble_eq_true rfl) dX10_at_23
def rmX10_needWord : Room := { frames := 7, cells := 1, slots := 6, locals := 102 }
def bX10_needWord_15 (x1 : Int32) (Q : Mem → Prop) (K : String → Mem → Prop) (M : Mem) : Prop :=
  pX10_refuseMissing M (fun M4 => Q M4) K
def pX10_needWord (M : Mem) (x1 : Int32) (Q : Mem → Prop) (K : String → Mem → Prop) : Prop :=
  ((x1 < 0 → bX10_needWord_15 x1 Q K M) ∧ (¬ x1 < 0 → ((x1 < (M.1 1001 0 0) → Q M) ∧ (¬ x1 < (M.1 1001 0 0) → bX10_needWord_15 x1 Q K M))))
set_option maxRecDepth 100000 in
set_option maxHeartbeats 400000 in
theorem wX10_needWord_15 {Γ : Gam} {G : Gm} {Qf : State → Prop} (hG : Gd G) (C : Cx Γ G cX10_needWord 2 RX10 none rmX10_needWord) {x1 : Int32} {Q : Mem → Prop} {K : String → Mem → Prop} (E : EndV Γ G Qf rmX10_needWord Q) (EX : EndX Γ G Qf rmX10_needWord K) (M : Mem) (h : bX10_needWord_15 x1 Q K M) : X Γ G Qf 2 0 0 15 [(0, .ref (ga G 10 0))] [] M := by
  unfold bX10_needWord_15 at h
  refine x_aload_n C dX10_needWord_15 0 rfl ?_
  refine x_tcallv (rest := []) C EX sv_X10_163 ob10 z10 (kX10_refuseMissing hG EX.2.2 _ h) rfl rfl (Nat.le_of_ble_eq_true rfl) ⟨Nat.le_of_ble_eq_true rfl, Nat.le_of_ble_eq_true rfl⟩ rfl rfl ⟨Nat.le_of_ble_eq_true rfl, Nat.le_of_ble_eq_true rfl⟩ dX10_needWord_16 (fun M4 h => ?_)
  exact x_vret C E h (Nat.le_of_ble_eq_true rfl) (Nat.le_of_ble_eq_true rfl) dX10_needWord_19
set_option maxRecDepth 100000 in
set_option maxHeartbeats 400000 in
theorem kX10_needWord {l : Launch} {G : Gm} (hG : Gd G) (hl0 : l.stackTraces = false) (M : Mem) (x1 : Int32) {Q : Mem → Prop} {K : String → Mem → Prop} (h : pX10_needWord M x1 Q K) : Cxv l G yX10_needWord cX10_needWord 2 rmX10_needWord [.ref (ga G 10 0), .int x1] M Q K := by
  refine cxv_of hl0 (own := RX10) (by decide +kernel) rfl (Nat.le_of_ble_eq_true rfl) hG (fun Γ Qf hl C E EX => ?_)
  subst hl
  show X Γ G Qf 2 0 0 0 [(0, .ref (ga G 10 0)), (1, .int x1)] [] M
  unfold pX10_needWord at h
  refine x_iload_n C dX10_needWord_0 1 rfl ?_
  refine x_if_lt (tgt := 15) C dX10_needWord_1 (by decide) (fun c1 => ?_) (fun c1 => ?_)
  · replace h := h.1 c1
    refine X_sub (lv' := [(0, .ref (ga G 10 0))]) [0] rfl ?_
    exact wX10_needWord_15 hG C E EX M h
  · replace h := h.2 c1
    refine x_iload_n C dX10_needWord_4 1 rfl ?_
    refine x_aload_n C dX10_needWord_5 0 rfl ?_
    refine gf_10_5 C q849 z10 dX10_needWord_6 ?_
    refine gf_9_1 C q853 z9 dX10_needWord_9 ?_
    refine x_icmp_lt (tgt := 19) C dX10_needWord_12 (by decide) (fun c2 => ?_) (fun c2 => ?_)
    · replace h := h.1 c2
      exact x_vret C E h (Nat.le_of_ble_eq_true rfl) (Nat.le_of_ble_eq_true rfl) dX10_needWord_19
    · replace h := h.2 c2
      refine X_sub (lv' := [(0, .ref (ga G 10 0))]) [0] rfl ?_
      exact wX10_needWord_15 hG C E EX M h
def rmX10_word : Room := { frames := 8, cells := 2, slots := 12, locals := 125 }
def pX10_word (M : Mem) (x1 : Int32) (x2 : Int32) (Q : Int32 → Mem → Prop) (K : String → Mem → Prop) : Prop :=
  pX10_needWord M x1 (fun M2 => pX10_needBetween M2 x2 0 6 (fun M4 => ((x2 = 0 → vp_in x1 255 ∧ Q (M4.1 511 0 (tn x1)) M4) ∧ (x2 = 1 → pX4_standsOften M4 x1 (fun r8 M9 => Q r8 M9)) ∧ (x2 = 2 → pX4_blocksOf M4 x1 (M4.1 507 0 0) (fun r11 M12 => Q r11 M12)) ∧ (x2 = 3 → pX4_topOf M4 x1 (fun r14 M15 => Q r14 M15)) ∧ (x2 = 4 → pX4_rareOf M4 x1 (fun r17 M18 => Q r17 M18)) ∧ (x2 = 5 → pX5_bitsOf M4 x1 (M4.1 507 0 0) (fun r20 M21 => Q r20 M21)) ∧ (¬ x2 = 0 → ¬ x2 = 1 → ¬ x2 = 2 → ¬ x2 = 3 → ¬ x2 = 4 → ¬ x2 = 5 → pX9_lettersOf M4 x1 (fun r22 M23 => Q r22 M23)))) K) K
set_option maxRecDepth 100000 in
set_option maxHeartbeats 400000 in
theorem kX10_word {l : Launch} {G : Gm} (hG : Gd G) (hl0 : l.stackTraces = false) (M : Mem) (x1 : Int32) (x2 : Int32) {Q : Int32 → Mem → Prop} {K : String → Mem → Prop} (h : pX10_word M x1 x2 Q K) : Cxi l G yX10_word cX10_word 3 .int rmX10_word [.ref (ga G 10 0), .int x1, .int x2] M Q K := by
  refine cxi_of hl0 (own := RX10) (by decide +kernel) rfl (Nat.le_of_ble_eq_true rfl) hG (fun Γ Qf hl C E EX => ?_)
  subst hl
  show X Γ G Qf 3 0 0 0 [(0, .ref (ga G 10 0)), (1, .int x1), (2, .int x2)] [] M
  unfold pX10_word at h
  refine x_aload_n C dX10_word_0 0 rfl ?_
  refine x_iload_n C dX10_word_1 1 rfl ?_
  refine x_tcallv (rest := []) C EX sv_X10_217 ob10 z10 (kX10_needWord hG EX.2.2 _ _ h) rfl rfl (Nat.le_of_ble_eq_true rfl) ⟨Nat.le_of_ble_eq_true rfl, Nat.le_of_ble_eq_true rfl⟩ rfl rfl ⟨Nat.le_of_ble_eq_true rfl, Nat.le_of_ble_eq_true rfl⟩ dX10_word_2 (fun M2 h => ?_)
  refine x_aload_n C dX10_word_5 0 rfl ?_
  refine x_iload_n C dX10_word_6 2 rfl ?_
  refine x_iconst (v := 0) C dX10_word_7 rfl ?_
  refine x_bipush (v := 6) C dX10_word_8 rfl ?_
  refine x_tcallv (rest := []) C EX sv_X10_106 ob10 z10 (kX10_needBetween hG EX.2.2 _ _ _ _ h) rfl rfl (Nat.le_of_ble_eq_true rfl) ⟨Nat.le_of_ble_eq_true rfl, Nat.le_of_ble_eq_true rfl⟩ rfl rfl ⟨Nat.le_of_ble_eq_true rfl, Nat.le_of_ble_eq_true rfl⟩ dX10_word_10 (fun M4 h => ?_)
  refine x_iload_n C dX10_word_13 2 rfl ?_
  by_cases c5 : x2 = 0
  · replace h := h.1 c5
    refine x_tabIn (v := 0) (tgt := 52) C dX10_word_14 c5 (by decide) (by decide) rfl (by decide) ?_
    refine x_aload_n C dX10_word_52 0 rfl ?_
    refine gf_10_6 C q137 z10 dX10_word_53 ?_
    refine gf_4_11 C q858 z4 dX10_word_56 ?_
    refine x_iload_n C dX10_word_59 1 rfl ?_
    obtain ⟨f6, h⟩ := h
    refine al_511 C z511 f6 dX10_word_60 ?_
    exact x_iret C E h (Nat.le_of_ble_eq_true rfl) (Nat.le_of_ble_eq_true rfl) dX10_word_61
  by_cases c7 : x2 = 1
  · replace h := h.2.1 c7
    refine x_tabIn (v := 1) (tgt := 62) C dX10_word_14 c7 (by decide) (by decide) rfl (by decide) ?_
    refine x_aload_n C dX10_word_62 0 rfl ?_
    refine gf_10_6 C q137 z10 dX10_word_63 ?_
    refine x_iload_n C dX10_word_66 1 rfl ?_
    refine x_calli (rest := []) C sv_X10_223 ob4 z4 (kX4_standsOften hG _ _ h) rfl rfl (Nat.le_of_ble_eq_true rfl) ⟨Nat.le_of_ble_eq_true rfl, Nat.le_of_ble_eq_true rfl⟩ rfl rfl ⟨Nat.le_of_ble_eq_true rfl, Nat.le_of_ble_eq_true rfl⟩ dX10_word_67 (fun r8 M9 h => ?_)
    exact x_iret C E h (Nat.le_of_ble_eq_true rfl) (Nat.le_of_ble_eq_true rfl) dX10_word_70
  by_cases c10 : x2 = 2
  · replace h := h.2.2.1 c10
    refine x_tabIn (v := 2) (tgt := 71) C dX10_word_14 c10 (by decide) (by decide) rfl (by decide) ?_
    refine x_aload_n C dX10_word_71 0 rfl ?_
    refine gf_10_6 C q137 z10 dX10_word_72 ?_
    refine x_iload_n C dX10_word_75 1 rfl ?_
    refine x_aload_n C dX10_word_76 0 rfl ?_
    refine gf_10_6 C q137 z10 dX10_word_77 ?_
    refine gf_4_7 C q850 z4 dX10_word_80 ?_
    refine x_calli (rest := []) C sv_X10_226 ob4 z4 (kX4_blocksOf hG _ _ _ h) rfl rfl (Nat.le_of_ble_eq_true rfl) ⟨Nat.le_of_ble_eq_true rfl, Nat.le_of_ble_eq_true rfl⟩ rfl rfl ⟨Nat.le_of_ble_eq_true rfl, Nat.le_of_ble_eq_true rfl⟩ dX10_word_83 (fun r11 M12 h => ?_)
    exact x_iret C E h (Nat.le_of_ble_eq_true rfl) (Nat.le_of_ble_eq_true rfl) dX10_word_86
  by_cases c13 : x2 = 3
  · replace h := h.2.2.2.1 c13
    refine x_tabIn (v := 3) (tgt := 87) C dX10_word_14 c13 (by decide) (by decide) rfl (by decide) ?_
    refine x_aload_n C dX10_word_87 0 rfl ?_
    refine gf_10_6 C q137 z10 dX10_word_88 ?_
    refine x_iload_n C dX10_word_91 1 rfl ?_
    refine x_calli (rest := []) C sv_X10_229 ob4 z4 (kX4_topOf hG _ _ h) rfl rfl (Nat.le_of_ble_eq_true rfl) ⟨Nat.le_of_ble_eq_true rfl, Nat.le_of_ble_eq_true rfl⟩ rfl rfl ⟨Nat.le_of_ble_eq_true rfl, Nat.le_of_ble_eq_true rfl⟩ dX10_word_92 (fun r14 M15 h => ?_)
    exact x_iret C E h (Nat.le_of_ble_eq_true rfl) (Nat.le_of_ble_eq_true rfl) dX10_word_95
  by_cases c16 : x2 = 4
  · replace h := h.2.2.2.2.1 c16
    refine x_tabIn (v := 4) (tgt := 96) C dX10_word_14 c16 (by decide) (by decide) rfl (by decide) ?_
    refine x_aload_n C dX10_word_96 0 rfl ?_
    refine gf_10_6 C q137 z10 dX10_word_97 ?_
    refine x_iload_n C dX10_word_100 1 rfl ?_
    refine x_calli (rest := []) C sv_X10_232 ob4 z4 (kX4_rareOf hG _ _ h) rfl rfl (Nat.le_of_ble_eq_true rfl) ⟨Nat.le_of_ble_eq_true rfl, Nat.le_of_ble_eq_true rfl⟩ rfl rfl ⟨Nat.le_of_ble_eq_true rfl, Nat.le_of_ble_eq_true rfl⟩ dX10_word_101 (fun r17 M18 h => ?_)
    exact x_iret C E h (Nat.le_of_ble_eq_true rfl) (Nat.le_of_ble_eq_true rfl) dX10_word_104
  by_cases c19 : x2 = 5
  · replace h := h.2.2.2.2.2.1 c19
    refine x_tabIn (v := 5) (tgt := 105) C dX10_word_14 c19 (by decide) (by decide) rfl (by decide) ?_
    refine x_aload_n C dX10_word_105 0 rfl ?_
    refine gf_10_7 C q136 z10 dX10_word_106 ?_
    refine x_iload_n C dX10_word_109 1 rfl ?_
    refine x_aload_n C dX10_word_110 0 rfl ?_
    refine gf_10_6 C q137 z10 dX10_word_111 ?_
    refine gf_4_7 C q850 z4 dX10_word_114 ?_
    refine x_calli (rest := []) C sv_X10_235 ob5 z5 (kX5_bitsOf hG _ _ _ h) rfl rfl (Nat.le_of_ble_eq_true rfl) ⟨Nat.le_of_ble_eq_true rfl, Nat.le_of_ble_eq_true rfl⟩ rfl rfl ⟨Nat.le_of_ble_eq_true rfl, Nat.le_of_ble_eq_true rfl⟩ dX10_word_117 (fun r20 M21 h => ?_)
    exact x_iret C E h (Nat.le_of_ble_eq_true rfl) (Nat.le_of_ble_eq_true rfl) dX10_word_120
  replace h := h.2.2.2.2.2.2 c5 c7 c10 c13 c16 c19
  refine x_tabOut (tgt := 121) C dX10_word_14 (by have ac5 := lv_neT (a := 0) c5 rfl; have ac7 := lv_neT (a := 1) c7 rfl; have ac10 := lv_neT (a := 2) c10 rfl; have ac13 := lv_neT (a := 3) c13 rfl; have ac16 := lv_neT (a := 4) c16 rfl; have ac19 := lv_neT (a := 5) c19 rfl; omega) (by decide) ?_
  refine x_aload_n C dX10_word_121 0 rfl ?_
  refine gf_10_5 C q849 z10 dX10_word_122 ?_
  refine x_iload_n C dX10_word_125 1 rfl ?_
  refine x_calli (rest := []) C sv_X10_238 ob9 z9 (kX9_lettersOf hG _ _ h) rfl rfl (Nat.le_of_ble_eq_true rfl) ⟨Nat.le_of_ble_eq_true rfl, Nat.le_of_ble_eq_true rfl⟩ rfl rfl ⟨Nat.le_of_ble_eq_true rfl, Nat.le_of_ble_eq_true rfl⟩ dX10_word_126 (fun r22 M23 h => ?_)
  exact x_iret C E h (Nat.le_of_ble_eq_true rfl) (Nat.le_of_ble_eq_true rfl) dX10_word_129
def rmX10_letter : Room := { frames := 8, cells := 1, slots := 6, locals := 123 }
def pX10_letter (M : Mem) (x1 : Int32) (x2 : Int32) (Q : Int32 → Mem → Prop) (K : String → Mem → Prop) : Prop :=
  pX10_needWord M x1 (fun M2 => pX9_letterOf M2 x1 x2 (fun r3 M4 => Q r3 M4)) K
set_option maxRecDepth 100000 in
set_option maxHeartbeats 400000 in
theorem kX10_letter {l : Launch} {G : Gm} (hG : Gd G) (hl0 : l.stackTraces = false) (M : Mem) (x1 : Int32) (x2 : Int32) {Q : Int32 → Mem → Prop} {K : String → Mem → Prop} (h : pX10_letter M x1 x2 Q K) : Cxi l G yX10_letter cX10_letter 3 .int rmX10_letter [.ref (ga G 10 0), .int x1, .int x2] M Q K := by
  refine cxi_of hl0 (own := RX10) (by decide +kernel) rfl (Nat.le_of_ble_eq_true rfl) hG (fun Γ Qf hl C E EX => ?_)
  subst hl
  show X Γ G Qf 3 0 0 0 [(0, .ref (ga G 10 0)), (1, .int x1), (2, .int x2)] [] M
  unfold pX10_letter at h
  refine x_aload_n C dX10_letter_0 0 rfl ?_
  refine x_iload_n C dX10_letter_1 1 rfl ?_
  refine x_tcallv (rest := []) C EX sv_X10_217 ob10 z10 (kX10_needWord hG EX.2.2 _ _ h) rfl rfl (Nat.le_of_ble_eq_true rfl) ⟨Nat.le_of_ble_eq_true rfl, Nat.le_of_ble_eq_true rfl⟩ rfl rfl ⟨Nat.le_of_ble_eq_true rfl, Nat.le_of_ble_eq_true rfl⟩ dX10_letter_2 (fun M2 h => ?_)
  refine x_aload_n C dX10_letter_5 0 rfl ?_
  refine gf_10_5 C q849 z10 dX10_letter_6 ?_
  refine x_iload_n C dX10_letter_9 1 rfl ?_
  refine x_iload_n C dX10_letter_10 2 rfl ?_
  refine x_calli (rest := []) C sv_X10_241 ob9 z9 (kX9_letterOf hG _ _ _ h) rfl rfl (Nat.le_of_ble_eq_true rfl) ⟨Nat.le_of_ble_eq_true rfl, Nat.le_of_ble_eq_true rfl⟩ rfl rfl ⟨Nat.le_of_ble_eq_true rfl, Nat.le_of_ble_eq_true rfl⟩ dX10_letter_11 (fun r3 M4 h => ?_)
  exact x_iret C E h (Nat.le_of_ble_eq_true rfl) (Nat.le_of_ble_eq_true rfl) dX10_letter_14
def rmX10_needBlock : Room := { frames := 8, cells := 2, slots := 12, locals := 123 }
def bX10_needBlock_28 (x1 : Int32) (x2 : Int32) (Q : Mem → Prop) (K : String → Mem → Prop) (M : Mem) : Prop :=
  pX10_refuseMissing M (fun M8 => Q M8) K
def pX10_needBlock (M : Mem) (x1 : Int32) (x2 : Int32) (Q : Mem → Prop) (K : String → Mem → Prop) : Prop :=
  pX10_needWord M x1 (fun M2 => ((x2 < 0 → bX10_needBlock_28 x1 x2 Q K M2) ∧ (¬ x2 < 0 → pX4_blocksOf M2 x1 (M2.1 507 0 0) (fun r4 M5 => ((x2 < r4 → Q M5) ∧ (¬ x2 < r4 → bX10_needBlock_28 x1 x2 Q K M5)))))) K
set_option maxRecDepth 100000 in
set_option maxHeartbeats 400000 in
theorem wX10_needBlock_28 {Γ : Gam} {G : Gm} {Qf : State → Prop} (hG : Gd G) (C : Cx Γ G cX10_needBlock 3 RX10 none rmX10_needBlock) {x1 : Int32} {x2 : Int32} {Q : Mem → Prop} {K : String → Mem → Prop} (E : EndV Γ G Qf rmX10_needBlock Q) (EX : EndX Γ G Qf rmX10_needBlock K) (M : Mem) (h : bX10_needBlock_28 x1 x2 Q K M) : X Γ G Qf 3 1 6 28 [(0, .ref (ga G 10 0))] [] M := by
  unfold bX10_needBlock_28 at h
  refine x_aload_n C dX10_needBlock_28 0 rfl ?_
  refine x_tcallv (rest := []) C EX sv_X10_163 ob10 z10 (kX10_refuseMissing hG EX.2.2 _ h) rfl rfl (Nat.le_of_ble_eq_true rfl) ⟨Nat.le_of_ble_eq_true rfl, Nat.le_of_ble_eq_true rfl⟩ rfl rfl ⟨Nat.le_of_ble_eq_true rfl, Nat.le_of_ble_eq_true rfl⟩ dX10_needBlock_29 (fun M8 h => ?_)
  exact x_vret C E h (Nat.le_of_ble_eq_true rfl) (Nat.le_of_ble_eq_true rfl) dX10_needBlock_32
set_option maxRecDepth 100000 in
set_option maxHeartbeats 400000 in
theorem kX10_needBlock {l : Launch} {G : Gm} (hG : Gd G) (hl0 : l.stackTraces = false) (M : Mem) (x1 : Int32) (x2 : Int32) {Q : Mem → Prop} {K : String → Mem → Prop} (h : pX10_needBlock M x1 x2 Q K) : Cxv l G yX10_needBlock cX10_needBlock 3 rmX10_needBlock [.ref (ga G 10 0), .int x1, .int x2] M Q K := by
  refine cxv_of hl0 (own := RX10) (by decide +kernel) rfl (Nat.le_of_ble_eq_true rfl) hG (fun Γ Qf hl C E EX => ?_)
  subst hl
  show X Γ G Qf 3 0 0 0 [(0, .ref (ga G 10 0)), (1, .int x1), (2, .int x2)] [] M
  unfold pX10_needBlock at h
  refine x_aload_n C dX10_needBlock_0 0 rfl ?_
  refine x_iload_n C dX10_needBlock_1 1 rfl ?_
  refine x_tcallv (rest := []) C EX sv_X10_217 ob10 z10 (kX10_needWord hG EX.2.2 _ _ h) rfl rfl (Nat.le_of_ble_eq_true rfl) ⟨Nat.le_of_ble_eq_true rfl, Nat.le_of_ble_eq_true rfl⟩ rfl rfl ⟨Nat.le_of_ble_eq_true rfl, Nat.le_of_ble_eq_true rfl⟩ dX10_needBlock_2 (fun M2 h => ?_)
  refine x_iload_n C dX10_needBlock_5 2 rfl ?_
  refine x_if_lt (tgt := 28) C dX10_needBlock_6 (by decide) (fun c3 => ?_) (fun c3 => ?_)
  · replace h := h.1 c3
    refine X_sub (lv' := [(0, .ref (ga G 10 0))]) [0] rfl ?_
    exact wX10_needBlock_28 hG C E EX M2 h
  · replace h := h.2 c3
    refine x_iload_n C dX10_needBlock_9 2 rfl ?_
    refine x_aload_n C dX10_needBlock_10 0 rfl ?_
    refine gf_10_6 C q137 z10 dX10_needBlock_11 ?_
    refine x_iload_n C dX10_needBlock_14 1 rfl ?_
    refine x_aload_n C dX10_needBlock_15 0 rfl ?_
    refine gf_10_6 C q137 z10 dX10_needBlock_16 ?_
    refine gf_4_7 C q850 z4 dX10_needBlock_19 ?_
    refine x_calli (rest := [.int x2]) C sv_X10_226 ob4 z4 (kX4_blocksOf hG _ _ _ h) rfl rfl (Nat.le_of_ble_eq_true rfl) ⟨Nat.le_of_ble_eq_true rfl, Nat.le_of_ble_eq_true rfl⟩ rfl rfl ⟨Nat.le_of_ble_eq_true rfl, Nat.le_of_ble_eq_true rfl⟩ dX10_needBlock_22 (fun r4 M5 h => ?_)
    refine x_icmp_lt (tgt := 32) C dX10_needBlock_25 (by decide) (fun c6 => ?_) (fun c6 => ?_)
    · replace h := h.1 c6
      exact x_vret C E h (Nat.le_of_ble_eq_true rfl) (Nat.le_of_ble_eq_true rfl) dX10_needBlock_32
    · replace h := h.2 c6
      refine X_sub (lv' := [(0, .ref (ga G 10 0))]) [0] rfl ?_
      exact wX10_needBlock_28 hG C E EX M5 h
