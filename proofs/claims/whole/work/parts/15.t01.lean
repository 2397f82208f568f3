def rmX10_block : Room := { frames := 9, cells := 3, slots := 18, locals := 145 }
def pX10_block (M : Mem) (x1 : Int32) (x2 : Int32) (x3 : Int32) (Q : Int32 → Mem → Prop) (K : String → Mem → Prop) : Prop :=
  pX10_needBlock M x1 x2 (fun M2 => pX10_needBetween M2 x3 0 7 (fun M4 => pX5_measure M4 x1 x2 (M4.1 507 0 0) (fun M6 => ((x3 = 0 → Q (M6.1 601 0 0) M6) ∧ (x3 = 1 → Q (M6.1 602 0 0) M6) ∧ (x3 = 2 → Q (M6.1 603 0 0) M6) ∧ (x3 = 3 → Q (M6.1 604 0 0) M6) ∧ (x3 = 4 → Q (M6.1 605 0 0) M6) ∧ (x3 = 5 → Q (M6.1 606 0 0) M6) ∧ (x3 = 6 → Q (M6.1 607 0 0) M6) ∧ (¬ x3 = 0 → ¬ x3 = 1 → ¬ x3 = 2 → ¬ x3 = 3 → ¬ x3 = 4 → ¬ x3 = 5 → ¬ x3 = 6 → Q (M6.1 608 0 0) M6)))) K) K
set_option maxRecDepth 100000 in
set_option maxHeartbeats 400000 in
theorem kX10_block {l : Launch} {G : Gm} (hG : Gd G) (hl0 : l.stackTraces = false) (M : Mem) (x1 : Int32) (x2 : Int32) (x3 : Int32) {Q : Int32 → Mem → Prop} {K : String → Mem → Prop} (h : pX10_block M x1 x2 x3 Q K) : Cxi l G yX10_block cX10_block 4 .int rmX10_block [.ref (ga G 10 0), .int x1, .int x2, .int x3] M Q K := by
  refine cxi_of hl0 (own := RX10) (by decide +kernel) rfl (Nat.le_of_ble_eq_true rfl) hG (fun Γ Qf hl C E EX => ?_)
  subst hl
  show X Γ G Qf 4 0 0 0 [(0, .ref (ga G 10 0)), (1, .int x1), (2, .int x2), (3, .int x3)] [] M
  unfold pX10_block at h
  refine x_aload_n C dX10_block_0 0 rfl ?_
  refine x_iload_n C dX10_block_1 1 rfl ?_
  refine x_iload_n C dX10_block_2 2 rfl ?_
  refine x_tcallv (rest := []) C EX sv_X10_244 ob10 z10 (kX10_needBlock hG EX.2.2 _ _ _ h) rfl rfl (Nat.le_of_ble_eq_true rfl) ⟨Nat.le_of_ble_eq_true rfl, Nat.le_of_ble_eq_true rfl⟩ rfl rfl ⟨Nat.le_of_ble_eq_true rfl, Nat.le_of_ble_eq_true rfl⟩ dX10_block_3 (fun M2 h => ?_)
  refine x_aload_n C dX10_block_6 0 rfl ?_
  refine x_iload_n C dX10_block_7 3 rfl ?_
  refine x_iconst (v := 0) C dX10_block_8 rfl ?_
  refine x_bipush (v := 7) C dX10_block_9 rfl ?_
  refine x_tcallv (rest := []) C EX sv_X10_106 ob10 z10 (kX10_needBetween hG EX.2.2 _ _ _ _ h) rfl rfl (Nat.le_of_ble_eq_true rfl) ⟨Nat.le_of_ble_eq_true rfl, Nat.le_of_ble_eq_true rfl⟩ rfl rfl ⟨Nat.le_of_ble_eq_true rfl, Nat.le_of_ble_eq_true rfl⟩ dX10_block_11 (fun M4 h => ?_)
  refine x_aload_n C dX10_block_14 0 rfl ?_
  refine gf_10_7 C q136 z10 dX10_block_15 ?_
  refine x_iload_n C dX10_block_18 1 rfl ?_
  refine x_iload_n C dX10_block_19 2 rfl ?_
  refine x_aload_n C dX10_block_20 0 rfl ?_
  refine gf_10_6 C q137 z10 dX10_block_21 ?_
  refine gf_4_7 C q850 z4 dX10_block_24 ?_
  refine x_callv (rest := []) C sv_X10_248 ob5 z5 (kX5_measure hG _ _ _ _ h) rfl rfl (Nat.le_of_ble_eq_true rfl) ⟨Nat.le_of_ble_eq_true rfl, Nat.le_of_ble_eq_true rfl⟩ rfl rfl ⟨Nat.le_of_ble_eq_true rfl, Nat.le_of_ble_eq_true rfl⟩ dX10_block_27 (fun M6 h => ?_)
  refine x_iload_n C dX10_block_30 3 rfl ?_
  by_cases c7 : x3 = 0
  · replace h := h.1 c7
    refine x_tabIn (v := 0) (tgt := 72) C dX10_block_31 c7 (by decide) (by decide) rfl (by decide) ?_
    refine x_aload_n C dX10_block_72 0 rfl ?_
    refine gf_10_7 C q136 z10 dX10_block_73 ?_
    refine gf_5_1 C q859 z5 dX10_block_76 ?_
    exact x_iret C E h (Nat.le_of_ble_eq_true rfl) (Nat.le_of_ble_eq_true rfl) dX10_block_79
  by_cases c8 : x3 = 1
  · replace h := h.2.1 c8
    refine x_tabIn (v := 1) (tgt := 80) C dX10_block_31 c8 (by decide) (by decide) rfl (by decide) ?_
    refine x_aload_n C dX10_block_80 0 rfl ?_
    refine gf_10_7 C q136 z10 dX10_block_81 ?_
    refine gf_5_2 C q860 z5 dX10_block_84 ?_
    exact x_iret C E h (Nat.le_of_ble_eq_true rfl) (Nat.le_of_ble_eq_true rfl) dX10_block_87
  by_cases c9 : x3 = 2
  · replace h := h.2.2.1 c9
    refine x_tabIn (v := 2) (tgt := 88) C dX10_block_31 c9 (by decide) (by decide) rfl (by decide) ?_
    refine x_aload_n C dX10_block_88 0 rfl ?_
    refine gf_10_7 C q136 z10 dX10_block_89 ?_
    refine gf_5_3 C q861 z5 dX10_block_92 ?_
    exact x_iret C E h (Nat.le_of_ble_eq_true rfl) (Nat.le_of_ble_eq_true rfl) dX10_block_95
  by_cases c10 : x3 = 3
  · replace h := h.2.2.2.1 c10
    refine x_tabIn (v := 3) (tgt := 96) C dX10_block_31 c10 (by decide) (by decide) rfl (by decide) ?_
    refine x_aload_n C dX10_block_96 0 rfl ?_
    refine gf_10_7 C q136 z10 dX10_block_97 ?_
    refine gf_5_4 C q862 z5 dX10_block_100 ?_
    exact x_iret C E h (Nat.le_of_ble_eq_true rfl) (Nat.le_of_ble_eq_true rfl) dX10_block_103
  by_cases c11 : x3 = 4
  · replace h := h.2.2.2.2.1 c11
    refine x_tabIn (v := 4) (tgt := 104) C dX10_block_31 c11 (by decide) (by decide) rfl (by decide) ?_
    refine x_aload_n C dX10_block_104 0 rfl ?_
    refine gf_10_7 C q136 z10 dX10_block_105 ?_
    refine gf_5_5 C q863 z5 dX10_block_108 ?_
    exact x_iret C E h (Nat.le_of_ble_eq_true rfl) (Nat.le_of_ble_eq_true rfl) dX10_block_111
  by_cases c12 : x3 = 5
  · replace h := h.2.2.2.2.2.1 c12
    refine x_tabIn (v := 5) (tgt := 112) C dX10_block_31 c12 (by decide) (by decide) rfl (by decide) ?_
    refine x_aload_n C dX10_block_112 0 rfl ?_
    refine gf_10_7 C q136 z10 dX10_block_113 ?_
    refine gf_5_6 C q864 z5 dX10_block_116 ?_
    exact x_iret C E h (Nat.le_of_ble_eq_true rfl) (Nat.le_of_ble_eq_true rfl) dX10_block_119
  by_cases c13 : x3 = 6
  · replace h := h.2.2.2.2.2.2.1 c13
    refine x_tabIn (v := 6) (tgt := 120) C dX10_block_31 c13 (by decide) (by decide) rfl (by decide) ?_
    refine x_aload_n C dX10_block_120 0 rfl ?_
    refine gf_10_7 C q136 z10 dX10_block_121 ?_
    refine gf_5_7 C q865 z5 dX10_block_124 ?_
    exact x_iret C E h (Nat.le_of_ble_eq_true rfl) (Nat.le_of_ble_eq_true rfl) dX10_block_127
  replace h := h.2.2.2.2.2.2.2 c7 c8 c9 c10 c11 c12 c13
  refine x_tabOut (tgt := 128) C dX10_block_31 (by have ac7 := lv_neT (a := 0) c7 rfl; have ac8 := lv_neT (a := 1) c8 rfl; have ac9 := lv_neT (a := 2) c9 rfl; have ac10 := lv_neT (a := 3) c10 rfl; have ac11 := lv_neT (a := 4) c11 rfl; have ac12 := lv_neT (a := 5) c12 rfl; have ac13 := lv_neT (a := 6) c13 rfl; omega) (by decide) ?_
  refine x_aload_n C dX10_block_128 0 rfl ?_
  refine gf_10_7 C q136 z10 dX10_block_129 ?_
  refine gf_5_8 C q866 z5 dX10_block_132 ?_
  exact x_iret C E h (Nat.le_of_ble_eq_true rfl) (Nat.le_of_ble_eq_true rfl) dX10_block_135
def rmX10_needPosting : Room := { frames := 8, cells := 2, slots := 12, locals := 123 }
def bX10_needPosting_22 (x1 : Int32) (x2 : Int32) (Q : Mem → Prop) (K : String → Mem → Prop) (M : Mem) : Prop :=
  pX10_refuseMissing M (fun M7 => Q M7) K
def pX10_needPosting (M : Mem) (x1 : Int32) (x2 : Int32) (Q : Mem → Prop) (K : String → Mem → Prop) : Prop :=
  pX10_needWord M x1 (fun M2 => ((x2 < 0 → bX10_needPosting_22 x1 x2 Q K M2) ∧ (¬ x2 < 0 → vp_in x1 255 ∧ ((x2 < (M2.1 511 0 (tn x1)) → Q M2) ∧ (¬ x2 < (M2.1 511 0 (tn x1)) → bX10_needPosting_22 x1 x2 Q K M2))))) K
set_option maxRecDepth 100000 in
set_option maxHeartbeats 400000 in
theorem wX10_needPosting_22 {Γ : Gam} {G : Gm} {Qf : State → Prop} (hG : Gd G) (C : Cx Γ G cX10_needPosting 3 RX10 none rmX10_needPosting) {x1 : Int32} {x2 : Int32} {Q : Mem → Prop} {K : String → Mem → Prop} (E : EndV Γ G Qf rmX10_needPosting Q) (EX : EndX Γ G Qf rmX10_needPosting K) (M : Mem) (h : bX10_needPosting_22 x1 x2 Q K M) : X Γ G Qf 3 1 6 22 [(0, .ref (ga G 10 0))] [] M := by
  unfold bX10_needPosting_22 at h
  refine x_aload_n C dX10_needPosting_22 0 rfl ?_
  refine x_tcallv (rest := []) C EX sv_X10_163 ob10 z10 (kX10_refuseMissing hG EX.2.2 _ h) rfl rfl (Nat.le_of_ble_eq_true rfl) ⟨Nat.le_of_ble_eq_true rfl, Nat.le_of_ble_eq_true rfl⟩ rfl rfl ⟨Nat.le_of_ble_eq_true rfl, Nat.le_of_ble_eq_true rfl⟩ dX10_needPosting_23 (fun M7 h => ?_)
  exact x_vret C E h (Nat.le_of_ble_eq_true rfl) (Nat.le_of_ble_eq_true rfl) dX10_needPosting_26
set_option maxRecDepth 100000 in
set_option maxHeartbeats 400000 in
theorem kX10_needPosting {l : Launch} {G : Gm} (hG : Gd G) (hl0 : l.stackTraces = false) (M : Mem) (x1 : Int32) (x2 : Int32) {Q : Mem → Prop} {K : String → Mem → Prop} (h : pX10_needPosting M x1 x2 Q K) : Cxv l G yX10_needPosting cX10_needPosting 3 rmX10_needPosting [.ref (ga G 10 0), .int x1, .int x2] M Q K := by
  refine cxv_of hl0 (own := RX10) (by decide +kernel) rfl (Nat.le_of_ble_eq_true rfl) hG (fun Γ Qf hl C E EX => ?_)
  subst hl
  show X Γ G Qf 3 0 0 0 [(0, .ref (ga G 10 0)), (1, .int x1), (2, .int x2)] [] M
  unfold pX10_needPosting at h
  refine x_aload_n C dX10_needPosting_0 0 rfl ?_
  refine x_iload_n C dX10_needPosting_1 1 rfl ?_
  refine x_tcallv (rest := []) C EX sv_X10_217 ob10 z10 (kX10_needWord hG EX.2.2 _ _ h) rfl rfl (Nat.le_of_ble_eq_true rfl) ⟨Nat.le_of_ble_eq_true rfl, Nat.le_of_ble_eq_true rfl⟩ rfl rfl ⟨Nat.le_of_ble_eq_true rfl, Nat.le_of_ble_eq_true rfl⟩ dX10_needPosting_2 (fun M2 h => ?_)
  refine x_iload_n C dX10_needPosting_5 2 rfl ?_
  refine x_if_lt (tgt := 22) C dX10_needPosting_6 (by decide) (fun c3 => ?_) (fun c3 => ?_)
  · replace h := h.1 c3
    refine X_sub (lv' := [(0, .ref (ga G 10 0))]) [0] rfl ?_
    exact wX10_needPosting_22 hG C E EX M2 h
  · replace h := h.2 c3
    refine x_iload_n C dX10_needPosting_9 2 rfl ?_
    refine x_aload_n C dX10_needPosting_10 0 rfl ?_
    refine gf_10_6 C q137 z10 dX10_needPosting_11 ?_
    refine gf_4_11 C q858 z4 dX10_needPosting_14 ?_
    refine x_iload_n C dX10_needPosting_17 1 rfl ?_
    obtain ⟨f4, h⟩ := h
    refine al_511 C z511 f4 dX10_needPosting_18 ?_
    refine x_icmp_lt (tgt := 26) C dX10_needPosting_19 (by decide) (fun c5 => ?_) (fun c5 => ?_)
    · replace h := h.1 c5
      exact x_vret C E h (Nat.le_of_ble_eq_true rfl) (Nat.le_of_ble_eq_true rfl) dX10_needPosting_26
    · replace h := h.2 c5
      refine X_sub (lv' := [(0, .ref (ga G 10 0))]) [0] rfl ?_
      exact wX10_needPosting_22 hG C E EX M2 h
def rmX10_posting : Room := { frames := 9, cells := 3, slots := 18, locals := 145 }
def pX10_posting (M : Mem) (x1 : Int32) (x2 : Int32) (x3 : Int32) (Q : Int32 → Mem → Prop) (K : String → Mem → Prop) : Prop :=
  pX10_needPosting M x1 x2 (fun M2 => pX10_needBetween M2 x3 0 3 (fun M4 => vp_in x1 255 ∧ vp_in x2 64 ∧ ∀ v7 : Int32, v7 = (M4.1 5510 (tn x1) (tn x2)) → ((x3 = 0 → Q v7 M4) ∧ (x3 = 1 → vp_in v7 64 ∧ Q (M4.1 5508 (tn x1) (tn v7)) M4) ∧ (x3 = 2 → pX4_gainOf M4 x1 v7 (fun r12 M13 => Q r12 M13)) ∧ (¬ x3 = 0 → ¬ x3 = 1 → ¬ x3 = 2 → pX4_blockAt M4 x2 (fun r14 M15 => Q r14 M15)))) K) K
set_option maxRecDepth 100000 in
set_option maxHeartbeats 400000 in
theorem kX10_posting {l : Launch} {G : Gm} (hG : Gd G) (hl0 : l.stackTraces = false) (M : Mem) (x1 : Int32) (x2 : Int32) (x3 : Int32) {Q : Int32 → Mem → Prop} {K : String → Mem → Prop} (h : pX10_posting M x1 x2 x3 Q K) : Cxi l G yX10_posting cX10_posting 5 .int rmX10_posting [.ref (ga G 10 0), .int x1, .int x2, .int x3] M Q K := by
  refine cxi_of hl0 (own := RX10) (by decide +kernel) rfl (Nat.le_of_ble_eq_true rfl) hG (fun Γ Qf hl C E EX => ?_)
  subst hl
  show X Γ G Qf 5 0 0 0 [(0, .ref (ga G 10 0)), (1, .int x1), (2, .int x2), (3, .int x3)] [] M
  unfold pX10_posting at h
  refine x_aload_n C dX10_posting_0 0 rfl ?_
  refine x_iload_n C dX10_posting_1 1 rfl ?_
  refine x_iload_n C dX10_posting_2 2 rfl ?_
  refine x_tcallv (rest := []) C EX sv_X10_274 ob10 z10 (kX10_needPosting hG EX.2.2 _ _ _ h) rfl rfl (Nat.le_of_ble_eq_true rfl) ⟨Nat.le_of_ble_eq_true rfl, Nat.le_of_ble_eq_true rfl⟩ rfl rfl ⟨Nat.le_of_ble_eq_true rfl, Nat.le_of_ble_eq_true rfl⟩ dX10_posting_3 (fun M2 h => ?_)
  refine x_aload_n C dX10_posting_6 0 rfl ?_
  refine x_iload_n C dX10_posting_7 3 rfl ?_
  refine x_iconst (v := 0) C dX10_posting_8 rfl ?_
  refine x_iconst (v := 3) C dX10_posting_9 rfl ?_
  refine x_tcallv (rest := []) C EX sv_X10_106 ob10 z10 (kX10_needBetween hG EX.2.2 _ _ _ _ h) rfl rfl (Nat.le_of_ble_eq_true rfl) ⟨Nat.le_of_ble_eq_true rfl, Nat.le_of_ble_eq_true rfl⟩ rfl rfl ⟨Nat.le_of_ble_eq_true rfl, Nat.le_of_ble_eq_true rfl⟩ dX10_posting_10 (fun M4 h => ?_)
  refine x_aload_n C dX10_posting_13 0 rfl ?_
  refine gf_10_6 C q137 z10 dX10_posting_14 ?_
  refine gf_4_10 C q867 z4 dX10_posting_17 ?_
  refine x_iload_n C dX10_posting_20 1 rfl ?_
  obtain ⟨f5, h⟩ := h
  refine al_510 C z510 f5 dX10_posting_21 ?_
  refine x_iload_n C dX10_posting_22 2 rfl ?_
  obtain ⟨f6, h⟩ := h
  refine al_5510 C (vp_lt f5) f6 dX10_posting_23 ?_
  refine X_name (fun v7 ev7 => ?_)
  replace h := h v7 ev7
  refine x_istore (lv' := [(4, .int v7), (0, .ref (ga G 10 0)), (1, .int x1), (2, .int x2), (3, .int x3)]) C dX10_posting_24 (Nat.le_of_ble_eq_true rfl) rfl ?_
  refine x_iload_n C dX10_posting_26 4 rfl ?_
  by_cases c8 : x3 = 0
  · replace h := h.1 c8
    refine x_tabIn (v := 0) (tgt := 52) C dX10_posting_27 c8 (by decide) (by decide) rfl (by decide) ?_
    refine x_iload C dX10_posting_52 0 rfl ?_
    exact x_iret C E h (Nat.le_of_ble_eq_true rfl) (Nat.le_of_ble_eq_true rfl) dX10_posting_54
  by_cases c9 : x3 = 1
  · replace h := h.2.1 c9
    refine x_tabIn (v := 1) (tgt := 55) C dX10_posting_27 c9 (by decide) (by decide) rfl (by decide) ?_
    refine x_aload_n C dX10_posting_55 1 rfl ?_
    refine gf_10_6 C q137 z10 dX10_posting_56 ?_
    refine gf_4_8 C q856 z4 dX10_posting_59 ?_
    refine x_iload_n C dX10_posting_62 2 rfl ?_
    refine al_508 C z508 f5 dX10_posting_63 ?_
    refine x_iload C dX10_posting_64 0 rfl ?_
    obtain ⟨f10, h⟩ := h
    refine al_5508 C (vp_lt f5) f10 dX10_posting_66 ?_
    exact x_iret C E h (Nat.le_of_ble_eq_true rfl) (Nat.le_of_ble_eq_true rfl) dX10_posting_67
  by_cases c11 : x3 = 2
  · replace h := h.2.2.1 c11
    refine x_tabIn (v := 2) (tgt := 68) C dX10_posting_27 c11 (by decide) (by decide) rfl (by decide) ?_
    refine x_aload_n C dX10_posting_68 1 rfl ?_
    refine gf_10_6 C q137 z10 dX10_posting_69 ?_
    refine x_iload_n C dX10_posting_72 2 rfl ?_
    refine x_iload C dX10_posting_73 0 rfl ?_
    refine x_calli (rest := []) C sv_X10_280 ob4 z4 (kX4_gainOf hG _ _ _ h) rfl rfl (Nat.le_of_ble_eq_true rfl) ⟨Nat.le_of_ble_eq_true rfl, Nat.le_of_ble_eq_true rfl⟩ rfl rfl ⟨Nat.le_of_ble_eq_true rfl, Nat.le_of_ble_eq_true rfl⟩ dX10_posting_75 (fun r12 M13 h => ?_)
    exact x_iret C E h (Nat.le_of_ble_eq_true rfl) (Nat.le_of_ble_eq_true rfl) dX10_posting_78
  replace h := h.2.2.2 c8 c9 c11
  refine x_tabOut (tgt := 79) C dX10_posting_27 (by have ac8 := lv_neT (a := 0) c8 rfl; have ac9 := lv_neT (a := 1) c9 rfl; have ac11 := lv_neT (a := 2) c11 rfl; omega) (by decide) ?_
  refine x_aload_n C dX10_posting_79 1 rfl ?_
  refine gf_10_6 C q137 z10 dX10_posting_80 ?_
  refine x_iload_n C dX10_posting_83 3 rfl ?_
  refine x_calli (rest := []) C sv_X10_283 ob4 z4 (kX4_blockAt hG _ _ h) rfl rfl (Nat.le_of_ble_eq_true rfl) ⟨Nat.le_of_ble_eq_true rfl, Nat.le_of_ble_eq_true rfl⟩ rfl rfl ⟨Nat.le_of_ble_eq_true rfl, Nat.le_of_ble_eq_true rfl⟩ dX10_posting_84 (fun r14 M15 h => ?_)
  exact x_iret C E h (Nat.le_of_ble_eq_true rfl) (Nat.le_of_ble_eq_true rfl) dX10_posting_87
def rmX10_position : Room := { frames := 9, cells := 2, slots := 12, locals := 145 }
def pX10_position (M : Mem) (x1 : Int32) (x2 : Int32) (x3 : Int32) (Q : Int32 → Mem → Prop) (K : String → Mem → Prop) : Prop :=
  pX10_needPosting M x1 x2 (fun M2 => vp_in x1 255 ∧ vp_in x2 64 ∧ pX4_positionOf M2 x1 (M2.1 5510 (tn x1) (tn x2)) x3 (fun r5 M6 => Q r5 M6)) K
set_option maxRecDepth 100000 in
set_option maxHeartbeats 400000 in
theorem kX10_position {l : Launch} {G : Gm} (hG : Gd G) (hl0 : l.stackTraces = false) (M : Mem) (x1 : Int32) (x2 : Int32) (x3 : Int32) {Q : Int32 → Mem → Prop} {K : String → Mem → Prop} (h : pX10_position M x1 x2 x3 Q K) : Cxi l G yX10_position cX10_position 4 .int rmX10_position [.ref (ga G 10 0), .int x1, .int x2, .int x3] M Q K := by
  refine cxi_of hl0 (own := RX10) (by decide +kernel) rfl (Nat.le_of_ble_eq_true rfl) hG (fun Γ Qf hl C E EX => ?_)
  subst hl
  show X Γ G Qf 4 0 0 0 [(0, .ref (ga G 10 0)), (1, .int x1), (2, .int x2), (3, .int x3)] [] M
  unfold pX10_position at h
  refine x_aload_n C dX10_position_0 0 rfl ?_
  refine x_iload_n C dX10_position_1 1 rfl ?_
  refine x_iload_n C dX10_position_2 2 rfl ?_
  refine x_tcallv (rest := []) C EX sv_X10_274 ob10 z10 (kX10_needPosting hG EX.2.2 _ _ _ h) rfl rfl (Nat.le_of_ble_eq_true rfl) ⟨Nat.le_of_ble_eq_true rfl, Nat.le_of_ble_eq_true rfl⟩ rfl rfl ⟨Nat.le_of_ble_eq_true rfl, Nat.le_of_ble_eq_true rfl⟩ dX10_position_3 (fun M2 h => ?_)
  refine x_aload_n C dX10_position_6 0 rfl ?_
  refine gf_10_6 C q137 z10 dX10_position_7 ?_
  refine x_iload_n C dX10_position_10 1 rfl ?_
  refine x_aload_n C dX10_position_11 0 rfl ?_
  refine gf_10_6 C q137 z10 dX10_position_12 ?_
  refine gf_4_10 C q867 z4 dX10_position_15 ?_
  refine x_iload_n C dX10_position_18 1 rfl ?_
  obtain ⟨f3, h⟩ := h
  refine al_510 C z510 f3 dX10_position_19 ?_
  refine x_iload_n C dX10_position_20 2 rfl ?_
  obtain ⟨f4, h⟩ := h
  refine al_5510 C (vp_lt f3) f4 dX10_position_21 ?_
  refine x_iload_n C dX10_position_22 3 rfl ?_
  refine x_calli (rest := []) C sv_X10_286 ob4 z4 (kX4_positionOf hG _ _ _ _ h) rfl rfl (Nat.le_of_ble_eq_true rfl) ⟨Nat.le_of_ble_eq_true rfl, Nat.le_of_ble_eq_true rfl⟩ rfl rfl ⟨Nat.le_of_ble_eq_true rfl, Nat.le_of_ble_eq_true rfl⟩ dX10_position_23 (fun r5 M6 h => ?_)
  exact x_iret C E h (Nat.le_of_ble_eq_true rfl) (Nat.le_of_ble_eq_true rfl) dX10_position_26
def rmX10_common : Room := { frames := 7, cells := 1, slots := 6, locals := 102 }
def bX10_common_19 (x1 : Int32) (Q : Int32 → Mem → Prop) (K : String → Mem → Prop) (M : Mem) : Prop :=
  pX4_commonWord M x1 (fun r5 M6 => Q r5 M6)
def bX10_common_15 (x1 : Int32) (Q : Int32 → Mem → Prop) (K : String → Mem → Prop) (M : Mem) : Prop :=
  pX10_refuseMissing M (fun M4 => bX10_common_19 x1 Q K M4) K
def pX10_common (M : Mem) (x1 : Int32) (Q : Int32 → Mem → Prop) (K : String → Mem → Prop) : Prop :=
  ((x1 < 0 → bX10_common_15 x1 Q K M) ∧ (¬ x1 < 0 → ((x1 < (M.1 1001 0 0) → bX10_common_19 x1 Q K M) ∧ (¬ x1 < (M.1 1001 0 0) → bX10_common_15 x1 Q K M))))
set_option maxRecDepth 100000 in
set_option maxHeartbeats 400000 in
theorem wX10_common_19 {Γ : Gam} {G : Gm} {Qf : State → Prop} (hG : Gd G) (C : Cx Γ G cX10_common 2 RX10 (some .int) rmX10_common) {x1 : Int32} {Q : Int32 → Mem → Prop} {K : String → Mem → Prop} (E : EndI Γ G Qf rmX10_common Q) (EX : EndX Γ G Qf rmX10_common K) (M : Mem) (h : bX10_common_19 x1 Q K M) : X Γ G Qf 2 1 6 19 [(0, .ref (ga G 10 0)), (1, .int x1)] [] M := by
  unfold bX10_common_19 at h
  refine x_aload_n C dX10_common_19 0 rfl ?_
  refine gf_10_6 C q137 z10 dX10_common_20 ?_
  refine x_iload_n C dX10_common_23 1 rfl ?_
  refine x_calli (rest := []) C sv_X10_290 ob4 z4 (kX4_commonWord hG _ _ h) rfl rfl (Nat.le_of_ble_eq_true rfl) ⟨Nat.le_of_ble_eq_true rfl, Nat.le_of_ble_eq_true rfl⟩ rfl rfl ⟨Nat.le_of_ble_eq_true rfl, Nat.le_of_ble_eq_true rfl⟩ dX10_common_24 (fun r5 M6 h => ?_)
  exact x_iret C E h (Nat.le_of_ble_eq_true rfl) (Nat.le_of_ble_eq_true rfl) dX10_common_27
set_option maxRecDepth 100000 in
set_option maxHeartbeats 400000 in
theorem wX10_common_15 {Γ : Gam} {G : Gm} {Qf : State → Prop} (hG : Gd G) (C : Cx Γ G cX10_common 2 RX10 (some .int) rmX10_common) {x1 : Int32} {Q : Int32 → Mem → Prop} {K : String → Mem → Prop} (E : EndI Γ G Qf rmX10_common Q) (EX : EndX Γ G Qf rmX10_common K) (M : Mem) (h : bX10_common_15 x1 Q K M) : X Γ G Qf 2 0 0 15 [(0, .ref (ga G 10 0)), (1, .int x1)] [] M := by
  unfold bX10_common_15 at h
  refine x_aload_n C dX10_common_15 0 rfl ?_
  refine x_tcallv (rest := []) C EX sv_X10_163 ob10 z10 (kX10_refuseMissing hG EX.2.2 _ h) rfl rfl (Nat.le_of_ble_eq_true rfl) ⟨Nat.le_of_ble_eq_true rfl, Nat.le_of_ble_eq_true rfl⟩ rfl rfl ⟨Nat.le_of_ble_eq_true rfl, Nat.le_of_ble_eq_true rfl⟩ dX10_common_16 (fun M4 h => ?_)
  refine X_sub (lv' := [(0, .ref (ga G 10 0)), (1, .int x1)]) [0, 1] rfl ?_
  exact wX10_common_19 hG C E EX M4 h
set_option maxRecDepth 100000 in
set_option maxHeartbeats 400000 in
theorem kX10_common {l : Launch} {G : Gm} (hG : Gd G) (hl0 : l.stackTraces = false) (M : Mem) (x1 : Int32) {Q : Int32 → Mem → Prop} {K : String → Mem → Prop} (h : pX10_common M x1 Q K) : Cxi l G yX10_common cX10_common 2 .int rmX10_common [.ref (ga G 10 0), .int x1] M Q K := by
  refine cxi_of hl0 (own := RX10) (by decide +kernel) rfl (Nat.le_of_ble_eq_true rfl) hG (fun Γ Qf hl C E EX => ?_)
  subst hl
  show X Γ G Qf 2 0 0 0 [(0, .ref (ga G 10 0)), (1, .int x1)] [] M
  unfold pX10_common at h
  refine x_iload_n C dX10_common_0 1 rfl ?_
  refine x_if_lt (tgt := 15) C dX10_common_1 (by decide) (fun c1 => ?_) (fun c1 => ?_)
  · replace h := h.1 c1
    refine X_sub (lv' := [(0, .ref (ga G 10 0)), (1, .int x1)]) [0, 1] rfl ?_
    exact wX10_common_15 hG C E EX M h
  · replace h := h.2 c1
    refine x_iload_n C dX10_common_4 1 rfl ?_
    refine x_aload_n C dX10_common_5 0 rfl ?_
    refine gf_10_5 C q849 z10 dX10_common_6 ?_
    refine gf_9_1 C q853 z9 dX10_common_9 ?_
    refine x_icmp_lt (tgt := 19) C dX10_common_12 (by decide) (fun c2 => ?_) (fun c2 => ?_)
    · replace h := h.1 c2
      refine X_widen (c1 := 1) (s1 := 6) (Nat.le_of_ble_eq_true rfl) (Nat.le_of_ble_eq_true rfl) ?_
      refine X_sub (lv' := [(0, .ref (ga G 10 0)), (1, .int x1)]) [0, 1] rfl ?_
      exact wX10_common_19 hG C E EX M h
    · replace h := h.2 c2
      refine X_sub (lv' := [(0, .ref (ga G 10 0)), (1, .int x1)]) [0, 1] rfl ?_
      exact wX10_common_15 hG C E EX M h
def rmX10_alike : Room := { frames := 8, cells := 2, slots := 12, locals := 123 }
def pX10_alike (M : Mem) (x1 : Int32) (x2 : Int32) (Q : Int32 → Mem → Prop) (K : String → Mem → Prop) : Prop :=
  pX10_needDocument M x1 (fun M2 => pX10_needDocument M2 x2 (fun M4 => pX4_wordsInBoth M4 x1 x2 (fun r5 M6 => Q r5 M6)) K) K
set_option maxRecDepth 100000 in
set_option maxHeartbeats 400000 in
theorem kX10_alike {l : Launch} {G : Gm} (hG : Gd G) (hl0 : l.stackTraces = false) (M : Mem) (x1 : Int32) (x2 : Int32) {Q : Int32 → Mem → Prop} {K : String → Mem → Prop} (h : pX10_alike M x1 x2 Q K) : Cxi l G yX10_alike cX10_alike 3 .int rmX10_alike [.ref (ga G 10 0), .int x1, .int x2] M Q K := by
  refine cxi_of hl0 (own := RX10) (by decide +kernel) rfl (Nat.le_of_ble_eq_true rfl) hG (fun Γ Qf hl C E EX => ?_)
  subst hl
  show X Γ G Qf 3 0 0 0 [(0, .ref (ga G 10 0)), (1, .int x1), (2, .int x2)] [] M
  unfold pX10_alike at h
  refine x_aload_n C dX10_alike_0 0 rfl ?_
  refine x_iload_n C dX10_alike_1 1 rfl ?_
  refine x_tcallv (rest := []) C EX sv_X10_156 ob10 z10 (kX10_needDocument hG EX.2.2 _ _ h) rfl rfl (Nat.le_of_ble_eq_true rfl) ⟨Nat.le_of_ble_eq_true rfl, Nat.le_of_ble_eq_true rfl⟩ rfl rfl ⟨Nat.le_of_ble_eq_true rfl, Nat.le_of_ble_eq_true rfl⟩ dX10_alike_2 (fun M2 h => ?_)
  refine x_aload_n C dX10_alike_5 0 rfl ?_
  refine x_iload_n C dX10_alike_6 2 rfl ?_
  refine x_tcallv (rest := []) C EX sv_X10_156 ob10 z10 (kX10_needDocument hG EX.2.2 _ _ h) rfl rfl (Nat.le_of_ble_eq_true rfl) ⟨Nat.le_of_ble_eq_true rfl, Nat.le_of_ble_eq_true rfl⟩ rfl rfl ⟨Nat.le_of_ble_eq_true rfl, Nat.le_of_ble_eq_true rfl⟩ dX10_alike_7 (fun M4 h => ?_)
  refine x_aload_n C dX10_alike_10 0 rfl ?_
  refine gf_10_6 C q137 z10 dX10_alike_11 ?_
  refine x_iload_n C dX10_alike_14 1 rfl ?_
  refine x_iload_n C dX10_alike_15 2 rfl ?_
  refine x_calli (rest := []) C sv_X10_293 ob4 z4 (kX4_wordsInBoth hG _ _ _ h) rfl rfl (Nat.le_of_ble_eq_true rfl) ⟨Nat.le_of_ble_eq_true rfl, Nat.le_of_ble_eq_true rfl⟩ rfl rfl ⟨Nat.le_of_ble_eq_true rfl, Nat.le_of_ble_eq_true rfl⟩ dX10_alike_16 (fun r5 M6 h => ?_)
  exact x_iret C E h (Nat.le_of_ble_eq_true rfl) (Nat.le_of_ble_eq_true rfl) dX10_alike_19
def rmX10_scored : Room := { frames := 8, cells := 1, slots := 6, locals := 125 }
def pX10_scored (M : Mem) (x1 : Int32) (x2 : Int32) (Q : Int32 → Mem → Prop) (K : String → Mem → Prop) : Prop :=
  pX10_needBetween M x2 0 3 (fun M2 => pX6_hasScored M2 x1 (fun r3 M4 => ((¬ r3 = 0 → vp_in x1 24 ∧ ∀ v7 : Int32, v7 = (M4.1 702 0 (tn x1)) → ((x2 = 0 → Q v7 M4) ∧ (x2 = 1 → Q (M4.1 703 0 (tn x1)) M4) ∧ (x2 = 2 → (((M4.1 704 0 (tn x1)) = 0 → Q 0 M4) ∧ (¬ (M4.1 704 0 (tn x1)) = 0 → Q 1 M4))) ∧ (¬ x2 = 0 → ¬ x2 = 1 → ¬ x2 = 2 → pX4_rareOf M4 v7 (fun r12 M13 => pX4_topOf M13 v7 (fun r14 M15 => Q (((M4.1 703 0 (tn x1)) * r12) * r14) M15))))) ∧ (r3 = 0 → Q (-1) M4)))) K
set_option maxRecDepth 100000 in
set_option maxHeartbeats 400000 in
theorem kX10_scored {l : Launch} {G : Gm} (hG : Gd G) (hl0 : l.stackTraces = false) (M : Mem) (x1 : Int32) (x2 : Int32) {Q : Int32 → Mem → Prop} {K : String → Mem → Prop} (h : pX10_scored M x1 x2 Q K) : Cxi l G yX10_scored cX10_scored 4 .int rmX10_scored [.ref (ga G 10 0), .int x1, .int x2] M Q K := by
  refine cxi_of hl0 (own := RX10) (by decide +kernel) rfl (Nat.le_of_ble_eq_true rfl) hG (fun Γ Qf hl C E EX => ?_)
  subst hl
  show X Γ G Qf 4 0 0 0 [(0, .ref (ga G 10 0)), (1, .int x1), (2, .int x2)] [] M
  unfold pX10_scored at h
  refine x_aload_n C dX10_scored_0 0 rfl ?_
  refine x_iload_n C dX10_scored_1 2 rfl ?_
  refine x_iconst (v := 0) C dX10_scored_2 rfl ?_
  refine x_iconst (v := 3) C dX10_scored_3 rfl ?_
  refine x_tcallv (rest := []) C EX sv_X10_106 ob10 z10 (kX10_needBetween hG EX.2.2 _ _ _ _ h) rfl rfl (Nat.le_of_ble_eq_true rfl) ⟨Nat.le_of_ble_eq_true rfl, Nat.le_of_ble_eq_true rfl⟩ rfl rfl ⟨Nat.le_of_ble_eq_true rfl, Nat.le_of_ble_eq_true rfl⟩ dX10_scored_4 (fun M2 h => ?_)
  refine x_aload_n C dX10_scored_7 0 rfl ?_
  refine gf_10_8 C q846 z10 dX10_scored_8 ?_
  refine x_iload_n C dX10_scored_11 1 rfl ?_
  refine x_calli (rest := []) C sv_X10_296 ob6 z6 (kX6_hasScored hG _ _ h) rfl rfl (Nat.le_of_ble_eq_true rfl) ⟨Nat.le_of_ble_eq_true rfl, Nat.le_of_ble_eq_true rfl⟩ rfl rfl ⟨Nat.le_of_ble_eq_true rfl, Nat.le_of_ble_eq_true rfl⟩ dX10_scored_12 (fun r3 M4 h => ?_)
  refine x_if_ne (tgt := 20) C dX10_scored_15 (by decide) (fun c5 => ?_) (fun c5 => ?_)
  · replace h := h.1 c5
    refine x_aload_n C dX10_scored_20 0 rfl ?_
    refine gf_10_8 C q846 z10 dX10_scored_21 ?_
    refine gf_6_2 C q868 z6 dX10_scored_24 ?_
    refine x_iload_n C dX10_scored_27 1 rfl ?_
    obtain ⟨f6, h⟩ := h
    refine al_702 C z702 f6 dX10_scored_28 ?_
    refine X_name (fun v7 ev7 => ?_)
    replace h := h v7 ev7
    refine x_istore_n (lv' := [(3, .int v7), (0, .ref (ga G 10 0)), (1, .int x1), (2, .int x2)]) C dX10_scored_29 rfl (Nat.le_of_ble_eq_true rfl) rfl ?_
    refine x_iload_n C dX10_scored_30 3 rfl ?_
    by_cases c8 : x2 = 0
    · replace h := h.1 c8
      refine x_tabIn (v := 0) (tgt := 56) C dX10_scored_31 c8 (by decide) (by decide) rfl (by decide) ?_
      refine x_iload_n C dX10_scored_56 0 rfl ?_
      exact x_iret C E h (Nat.le_of_ble_eq_true rfl) (Nat.le_of_ble_eq_true rfl) dX10_scored_57
    by_cases c9 : x2 = 1
    · replace h := h.2.1 c9
      refine x_tabIn (v := 1) (tgt := 58) C dX10_scored_31 c9 (by decide) (by decide) rfl (by decide) ?_
      refine x_aload_n C dX10_scored_58 1 rfl ?_
      refine gf_10_8 C q846 z10 dX10_scored_59 ?_
      refine gf_6_3 C q869 z6 dX10_scored_62 ?_
      refine x_iload_n C dX10_scored_65 2 rfl ?_
      refine al_703 C z703 f6 dX10_scored_66 ?_
      exact x_iret C E h (Nat.le_of_ble_eq_true rfl) (Nat.le_of_ble_eq_true rfl) dX10_scored_67
    by_cases c10 : x2 = 2
    · replace h := h.2.2.1 c10
      refine x_tabIn (v := 2) (tgt := 68) C dX10_scored_31 c10 (by decide) (by decide) rfl (by decide) ?_
      refine x_aload_n C dX10_scored_68 1 rfl ?_
      refine gf_10_8 C q846 z10 dX10_scored_69 ?_
      refine gf_6_4 C q870 z6 dX10_scored_72 ?_
      refine x_iload_n C dX10_scored_75 2 rfl ?_
      refine al_704 C z704 f6 dX10_scored_76 ?_
      refine x_if_eq (tgt := 84) C dX10_scored_77 (by decide) (fun c11 => ?_) (fun c11 => ?_)
      · replace h := h.1 c11
        refine x_iconst (v := 0) C dX10_scored_84 rfl ?_
        exact x_iret C E h (Nat.le_of_ble_eq_true rfl) (Nat.le_of_ble_eq_true rfl) dX10_scored_85
      · replace h := h.2 c11
        refine x_iconst (v := 1) C dX10_scored_80 rfl ?_
        refine x_goto (tgt := 85) C dX10_scored_81 (by decide) ?_
        exact x_iret C E h (Nat.le_of_ble_eq_true rfl) (Nat.le_of_ble_eq_true rfl) dX10_scored_85
    replace h := h.2.2.2 c8 c9 c10
    refine x_tabOut (tgt := 86) C dX10_scored_31 (by have ac8 := lv_neT (a := 0) c8 rfl; have ac9 := lv_neT (a := 1) c9 rfl; have ac10 := lv_neT (a := 2) c10 rfl; omega) (by decide) ?_
    refine x_aload_n C dX10_scored_86 1 rfl ?_
    refine gf_10_8 C q846 z10 dX10_scored_87 ?_
    refine gf_6_3 C q869 z6 dX10_scored_90 ?_
    refine x_iload_n C dX10_scored_93 2 rfl ?_
    refine al_703 C z703 f6 dX10_scored_94 ?_
    refine x_aload_n C dX10_scored_95 1 rfl ?_
    refine gf_10_6 C q137 z10 dX10_scored_96 ?_
    refine x_iload_n C dX10_scored_99 0 rfl ?_
    refine x_calli (rest := [.int (M4.1 703 0 (tn x1))]) C sv_X10_232 ob4 z4 (kX4_rareOf hG _ _ h) rfl rfl (Nat.le_of_ble_eq_true rfl) ⟨Nat.le_of_ble_eq_true rfl, Nat.le_of_ble_eq_true rfl⟩ rfl rfl ⟨Nat.le_of_ble_eq_true rfl, Nat.le_of_ble_eq_true rfl⟩ dX10_scored_100 (fun r12 M13 h => ?_)
    refine x_imul C dX10_scored_103 ?_
    refine x_aload_n C dX10_scored_104 1 rfl ?_
    refine gf_10_6 C q137 z10 dX10_scored_105 ?_
    refine x_iload_n C dX10_scored_108 0 rfl ?_
    refine x_calli (rest := [.int ((M4.1 703 0 (tn x1)) * r12)]) C sv_X10_229 ob4 z4 (kX4_topOf hG _ _ h) rfl rfl (Nat.le_of_ble_eq_true rfl) ⟨Nat.le_of_ble_eq_true rfl, Nat.le_of_ble_eq_true rfl⟩ rfl rfl ⟨Nat.le_of_ble_eq_true rfl, Nat.le_of_ble_eq_true rfl⟩ dX10_scored_109 (fun r14 M15 h => ?_)
    refine x_imul C dX10_scored_112 ?_
    exact x_iret C E h (Nat.le_of_ble_eq_true rfl) (Nat.le_of_ble_eq_true rfl) dX10_scored_113
  · replace h := h.2 c5
    refine x_iconst (v := (-1)) C dX10_scored_18 rfl ?_
    exact x_iret C E h (Nat.le_of_ble_eq_true rfl) (Nat.le_of_ble_eq_true rfl) dX10_scored_19
def rmX10_why : Room := { frames := 8, cells := 1, slots := 6, locals := 123 }
def pX10_why (M : Mem) (x1 : Int32) (Q : Int32 → Mem → Prop) (K : String → Mem → Prop) : Prop :=
  pX10_needDocument M x1 (fun M2 => pX3_whyNot M2 x1 (-1) (fun r3 M4 => Q r3 M4)) K
set_option maxRecDepth 100000 in
set_option maxHeartbeats 400000 in
theorem kX10_why {l : Launch} {G : Gm} (hG : Gd G) (hl0 : l.stackTraces = false) (M : Mem) (x1 : Int32) {Q : Int32 → Mem → Prop} {K : String → Mem → Prop} (h : pX10_why M x1 Q K) : Cxi l G yX10_why cX10_why 2 .int rmX10_why [.ref (ga G 10 0), .int x1] M Q K := by
  refine cxi_of hl0 (own := RX10) (by decide +kernel) rfl (Nat.le_of_ble_eq_true rfl) hG (fun Γ Qf hl C E EX => ?_)
  subst hl
  show X Γ G Qf 2 0 0 0 [(0, .ref (ga G 10 0)), (1, .int x1)] [] M
  unfold pX10_why at h
  refine x_aload_n C dX10_why_0 0 rfl ?_
  refine x_iload_n C dX10_why_1 1 rfl ?_
  refine x_tcallv (rest := []) C EX sv_X10_156 ob10 z10 (kX10_needDocument hG EX.2.2 _ _ h) rfl rfl (Nat.le_of_ble_eq_true rfl) ⟨Nat.le_of_ble_eq_true rfl, Nat.le_of_ble_eq_true rfl⟩ rfl rfl ⟨Nat.le_of_ble_eq_true rfl, Nat.le_of_ble_eq_true rfl⟩ dX10_why_2 (fun M2 h => ?_)
  refine x_aload_n C dX10_why_5 0 rfl ?_
  refine gf_10_11 C q139 z10 dX10_why_6 ?_
  refine x_iload_n C dX10_why_9 1 rfl ?_
  refine x_iconst (v := (-1)) C dX10_why_10 rfl ?_
  refine x_calli (rest := []) C sv_X10_309 ob3 z3 (kX3_whyNot hG _ _ _ h) rfl rfl (Nat.le_of_ble_eq_true rfl) ⟨Nat.le_of_ble_eq_true rfl, Nat.le_of_ble_eq_true rfl⟩ rfl rfl ⟨Nat.le_of_ble_eq_true rfl, Nat.le_of_ble_eq_true rfl⟩ dX10_why_11 (fun r3 M4 h => ?_)
  exact x_iret C E h (Nat.le_of_ble_eq_true rfl) (Nat.le_of_ble_eq_true rfl) dX10_why_14
def rmX10_score : Room := { frames := 8, cells := 1, slots := 6, locals := 123 }
def pX10_score (M : Mem) (x1 : Int32) (Q : Int32 → Mem → Prop) (K : String → Mem → Prop) : Prop :=
  pX10_needDocument M x1 (fun M2 => pX3_total M2 x1 (-1) (fun r3 M4 => Q r3 M4)) K
set_option maxRecDepth 100000 in
set_option maxHeartbeats 400000 in
theorem kX10_score {l : Launch} {G : Gm} (hG : Gd G) (hl0 : l.stackTraces = false) (M : Mem) (x1 : Int32) {Q : Int32 → Mem → Prop} {K : String → Mem → Prop} (h : pX10_score M x1 Q K) : Cxi l G yX10_score cX10_score 2 .int rmX10_score [.ref (ga G 10 0), .int x1] M Q K := by
  refine cxi_of hl0 (own := RX10) (by decide +kernel) rfl (Nat.le_of_ble_eq_true rfl) hG (fun Γ Qf hl C E EX => ?_)
  subst hl
  show X Γ G Qf 2 0 0 0 [(0, .ref (ga G 10 0)), (1, .int x1)] [] M
  unfold pX10_score at h
  refine x_aload_n C dX10_score_0 0 rfl ?_
  refine x_iload_n C dX10_score_1 1 rfl ?_
  refine x_tcallv (rest := []) C EX sv_X10_156 ob10 z10 (kX10_needDocument hG EX.2.2 _ _ h) rfl rfl (Nat.le_of_ble_eq_true rfl) ⟨Nat.le_of_ble_eq_true rfl, Nat.le_of_ble_eq_true rfl⟩ rfl rfl ⟨Nat.le_of_ble_eq_true rfl, Nat.le_of_ble_eq_true rfl⟩ dX10_score_2 (fun M2 h => ?_)
  refine x_aload_n C dX10_score_5 0 rfl ?_
  refine gf_10_11 C q139 z10 dX10_score_6 ?_
  refine x_iload_n C dX10_score_9 1 rfl ?_
  refine x_iconst (v := (-1)) C dX10_score_10 rfl ?_
  refine x_calli (rest := []) C sv_X10_312 ob3 z3 (kX3_total hG _ _ _ h) rfl rfl (Nat.le_of_ble_eq_true rfl) ⟨Nat.le_of_ble_eq_true rfl, Nat.le_of_ble_eq_true rfl⟩ rfl rfl ⟨Nat.le_of_ble_eq_true rfl, Nat.le_of_ble_eq_true rfl⟩ dX10_score_11 (fun r3 M4 h => ?_)
  exact x_iret C E h (Nat.le_of_ble_eq_true rfl) (Nat.le_of_ble_eq_true rfl) dX10_score_14
def rmX10_near : Room := { frames := 8, cells := 1, slots := 6, locals := 123 }
def pX10_near (M : Mem) (x1 : Int32) (Q : Int32 → Mem → Prop) (K : String → Mem → Prop) : Prop :=
  pX10_needDocument M x1 (fun M2 => pX3_nearness M2 x1 (-1) (fun r3 M4 => Q r3 M4)) K
set_option maxRecDepth 100000 in
set_option maxHeartbeats 400000 in
theorem kX10_near {l : Launch} {G : Gm} (hG : Gd G) (hl0 : l.stackTraces = false) (M : Mem) (x1 : Int32) {Q : Int32 → Mem → Prop} {K : String → Mem → Prop} (h : pX10_near M x1 Q K) : Cxi l G yX10_near cX10_near 2 .int rmX10_near [.ref (ga G 10 0), .int x1] M Q K := by
  refine cxi_of hl0 (own := RX10) (by decide +kernel) rfl (Nat.le_of_ble_eq_true rfl) hG (fun Γ Qf hl C E EX => ?_)
  subst hl
  show X Γ G Qf 2 0 0 0 [(0, .ref (ga G 10 0)), (1, .int x1)] [] M
  unfold pX10_near at h
  refine x_aload_n C dX10_near_0 0 rfl ?_
  refine x_iload_n C dX10_near_1 1 rfl ?_
  refine x_tcallv (rest := []) C EX sv_X10_156 ob10 z10 (kX10_needDocument hG EX.2.2 _ _ h) rfl rfl (Nat.le_of_ble_eq_true rfl) ⟨Nat.le_of_ble_eq_true rfl, Nat.le_of_ble_eq_true rfl⟩ rfl rfl ⟨Nat.le_of_ble_eq_true rfl, Nat.le_of_ble_eq_true rfl⟩ dX10_near_2 (fun M2 h => ?_)
  refine x_aload_n C dX10_near_5 0 rfl ?_
  refine gf_10_11 C q139 z10 dX10_near_6 ?_
  refine x_iload_n C dX10_near_9 1 rfl ?_
  refine x_iconst (v := (-1)) C dX10_near_10 rfl ?_
  refine x_calli (rest := []) C sv_X10_315 ob3 z3 (kX3_nearness hG _ _ _ h) rfl rfl (Nat.le_of_ble_eq_true rfl) ⟨Nat.le_of_ble_eq_true rfl, Nat.le_of_ble_eq_true rfl⟩ rfl rfl ⟨Nat.le_of_ble_eq_true rfl, Nat.le_of_ble_eq_true rfl⟩ dX10_near_11 (fun r3 M4 h => ?_)
  exact x_iret C E h (Nat.le_of_ble_eq_true rfl) (Nat.le_of_ble_eq_true rfl) dX10_near_14
def rmX10_window : Room := { frames := 8, cells := 2, slots := 12, locals := 125 }
def pX10_window (M : Mem) (x1 : Int32) (x2 : Int32) (Q : Int32 → Mem → Prop) (K : String → Mem → Prop) : Prop :=
  pX10_needDocument M x1 (fun M2 => pX10_needBetween M2 x2 0 1 (fun M4 => pX3_findWindow M4 x1 (fun M6 => ((¬ x2 = 0 → Q (M6.1 404 0 0) M6) ∧ (x2 = 0 → Q (M6.1 403 0 0) M6)))) K) K
set_option maxRecDepth 100000 in
set_option maxHeartbeats 400000 in
theorem kX10_window {l : Launch} {G : Gm} (hG : Gd G) (hl0 : l.stackTraces = false) (M : Mem) (x1 : Int32) (x2 : Int32) {Q : Int32 → Mem → Prop} {K : String → Mem → Prop} (h : pX10_window M x1 x2 Q K) : Cxi l G yX10_window cX10_window 3 .int rmX10_window [.ref (ga G 10 0), .int x1, .int x2] M Q K := by
  refine cxi_of hl0 (own := RX10) (by decide +kernel) rfl (Nat.le_of_ble_eq_true rfl) hG (fun Γ Qf hl C E EX => ?_)
  subst hl
  show X Γ G Qf 3 0 0 0 [(0, .ref (ga G 10 0)), (1, .int x1), (2, .int x2)] [] M
  unfold pX10_window at h
  refine x_aload_n C dX10_window_0 0 rfl ?_
  refine x_iload_n C dX10_window_1 1 rfl ?_
  refine x_tcallv (rest := []) C EX sv_X10_156 ob10 z10 (kX10_needDocument hG EX.2.2 _ _ h) rfl rfl (Nat.le_of_ble_eq_true rfl) ⟨Nat.le_of_ble_eq_true rfl, Nat.le_of_ble_eq_true rfl⟩ rfl rfl ⟨Nat.le_of_ble_eq_true rfl, Nat.le_of_ble_eq_true rfl⟩ dX10_window_2 (fun M2 h => ?_)
  refine x_aload_n C dX10_window_5 0 rfl ?_
  refine x_iload_n C dX10_window_6 2 rfl ?_
  refine x_iconst (v := 0) C dX10_window_7 rfl ?_
  refine x_iconst (v := 1) C dX10_window_8 rfl ?_
  refine x_tcallv (rest := []) C EX sv_X10_106 ob10 z10 (kX10_needBetween hG EX.2.2 _ _ _ _ h) rfl rfl (Nat.le_of_ble_eq_true rfl) ⟨Nat.le_of_ble_eq_true rfl, Nat.le_of_ble_eq_true rfl⟩ rfl rfl ⟨Nat.le_of_ble_eq_true rfl, Nat.le_of_ble_eq_true rfl⟩ dX10_window_9 (fun M4 h => ?_)
  refine x_aload_n C dX10_window_12 0 rfl ?_
  refine gf_10_11 C q139 z10 dX10_window_13 ?_
  refine x_iload_n C dX10_window_16 1 rfl ?_
  refine x_callv (rest := []) C sv_X10_318 ob3 z3 (kX3_findWindow hG _ _ h) rfl rfl (Nat.le_of_ble_eq_true rfl) ⟨Nat.le_of_ble_eq_true rfl, Nat.le_of_ble_eq_true rfl⟩ rfl rfl ⟨Nat.le_of_ble_eq_true rfl, Nat.le_of_ble_eq_true rfl⟩ dX10_window_17 (fun M6 h => ?_)
  refine x_iload_n C dX10_window_20 2 rfl ?_
  refine x_if_ne (tgt := 34) C dX10_window_21 (by decide) (fun c7 => ?_) (fun c7 => ?_)
  · replace h := h.1 c7
    refine x_aload_n C dX10_window_34 0 rfl ?_
    refine gf_10_11 C q139 z10 dX10_window_35 ?_
    refine gf_3_4 C q871 z3 dX10_window_38 ?_
    exact x_iret C E h (Nat.le_of_ble_eq_true rfl) (Nat.le_of_ble_eq_true rfl) dX10_window_41
  · replace h := h.2 c7
    refine x_aload_n C dX10_window_24 0 rfl ?_
    refine gf_10_11 C q139 z10 dX10_window_25 ?_
    refine gf_3_3 C q872 z3 dX10_window_28 ?_
    refine x_goto (tgt := 41) C dX10_window_31 (by decide) ?_
    exact x_iret C E h (Nat.le_of_ble_eq_true rfl) (Nat.le_of_ble_eq_true rfl) dX10_window_41
def rmX10_answer : Room := { frames := 8, cells := 2, slots := 12, locals := 125 }
def bX10_answer_27 (x1 : Int32) (x2 : Int32) (Q : Int32 → Mem → Prop) (K : String → Mem → Prop) (M : Mem) : Prop :=
  pX10_needBetween M x2 0 1 (fun M8 => ((¬ x2 = 0 → vp_in x1 64 ∧ Q (M8.1 903 0 (tn x1)) M8) ∧ (x2 = 0 → vp_in x1 64 ∧ Q (M8.1 902 0 (tn x1)) M8))) K
def bX10_answer_23 (x1 : Int32) (x2 : Int32) (Q : Int32 → Mem → Prop) (K : String → Mem → Prop) (M : Mem) : Prop :=
  pX10_refuseMissing M (fun M6 => bX10_answer_27 x1 x2 Q K M6) K
def pX10_answer (M : Mem) (x1 : Int32) (x2 : Int32) (Q : Int32 → Mem → Prop) (K : String → Mem → Prop) : Prop :=
  pX8_rank 0 M (-1) (fun M2 => ((x1 < 0 → bX10_answer_23 x1 x2 Q K M2) ∧ (¬ x1 < 0 → ((x1 < (M2.1 904 0 0) → bX10_answer_27 x1 x2 Q K M2) ∧ (¬ x1 < (M2.1 904 0 0) → bX10_answer_23 x1 x2 Q K M2)))))
set_option maxRecDepth 100000 in
set_option maxHeartbeats 400000 in
theorem wX10_answer_27 {Γ : Gam} {G : Gm} {Qf : State → Prop} (hG : Gd G) (C : Cx Γ G cX10_answer 3 RX10 (some .int) rmX10_answer) {x1 : Int32} {x2 : Int32} {Q : Int32 → Mem → Prop} {K : String → Mem → Prop} (E : EndI Γ G Qf rmX10_answer Q) (EX : EndX Γ G Qf rmX10_answer K) (M : Mem) (h : bX10_answer_27 x1 x2 Q K M) : X Γ G Qf 3 1 6 27 [(0, .ref (ga G 10 0)), (1, .int x1), (2, .int x2)] [] M := by
  unfold bX10_answer_27 at h
  refine x_aload_n C dX10_answer_27 0 rfl ?_
  refine x_iload_n C dX10_answer_28 2 rfl ?_
  refine x_iconst (v := 0) C dX10_answer_29 rfl ?_
  refine x_iconst (v := 1) C dX10_answer_30 rfl ?_
  refine x_tcallv (rest := []) C EX sv_X10_106 ob10 z10 (kX10_needBetween hG EX.2.2 _ _ _ _ h) rfl rfl (Nat.le_of_ble_eq_true rfl) ⟨Nat.le_of_ble_eq_true rfl, Nat.le_of_ble_eq_true rfl⟩ rfl rfl ⟨Nat.le_of_ble_eq_true rfl, Nat.le_of_ble_eq_true rfl⟩ dX10_answer_31 (fun M8 h => ?_)
  refine x_iload_n C dX10_answer_34 2 rfl ?_
  refine x_if_ne (tgt := 50) C dX10_answer_35 (by decide) (fun c9 => ?_) (fun c9 => ?_)
  · replace h := h.1 c9
    refine x_aload_n C dX10_answer_50 0 rfl ?_
    refine gf_10_12 C q134 z10 dX10_answer_51 ?_
    refine gf_8_3 C q873 z8 dX10_answer_54 ?_
    refine x_iload_n C dX10_answer_57 1 rfl ?_
    obtain ⟨f10, h⟩ := h
    refine al_903 C z903 f10 dX10_answer_58 ?_
    exact x_iret C E h (Nat.le_of_ble_eq_true rfl) (Nat.le_of_ble_eq_true rfl) dX10_answer_59
  · replace h := h.2 c9
    refine x_aload_n C dX10_answer_38 0 rfl ?_
    refine gf_10_12 C q134 z10 dX10_answer_39 ?_
    refine gf_8_2 C q874 z8 dX10_answer_42 ?_
    refine x_iload_n C dX10_answer_45 1 rfl ?_
    obtain ⟨f11, h⟩ := h
    refine al_902 C z902 f11 dX10_answer_46 ?_
    refine x_goto (tgt := 59) C dX10_answer_47 (by decide) ?_
    exact x_iret C E h (Nat.le_of_ble_eq_true rfl) (Nat.le_of_ble_eq_true rfl) dX10_answer_59
set_option maxRecDepth 100000 in
set_option maxHeartbeats 400000 in
theorem wX10_answer_23 {Γ : Gam} {G : Gm} {Qf : State → Prop} (hG : Gd G) (C : Cx Γ G cX10_answer 3 RX10 (some .int) rmX10_answer) {x1 : Int32} {x2 : Int32} {Q : Int32 → Mem → Prop} {K : String → Mem → Prop} (E : EndI Γ G Qf rmX10_answer Q) (EX : EndX Γ G Qf rmX10_answer K) (M : Mem) (h : bX10_answer_23 x1 x2 Q K M) : X Γ G Qf 3 0 0 23 [(0, .ref (ga G 10 0)), (1, .int x1), (2, .int x2)] [] M := by
  unfold bX10_answer_23 at h
  refine x_aload_n C dX10_answer_23 0 rfl ?_
  refine x_tcallv (rest := []) C EX sv_X10_163 ob10 z10 (kX10_refuseMissing hG EX.2.2 _ h) rfl rfl (Nat.le_of_ble_eq_true rfl) ⟨Nat.le_of_ble_eq_true rfl, Nat.le_of_ble_eq_true rfl⟩ rfl rfl ⟨Nat.le_of_ble_eq_true rfl, Nat.le_of_ble_eq_true rfl⟩ dX10_answer_24 (fun M6 h => ?_)
  refine X_sub (lv' := [(0, .ref (ga G 10 0)), (1, .int x1), (2, .int x2)]) [0, 1, 2] rfl ?_
  exact wX10_answer_27 hG C E EX M6 h
set_option maxRecDepth 100000 in
set_option maxHeartbeats 400000 in
theorem kX10_answer {l : Launch} {G : Gm} (hG : Gd G) (hl0 : l.stackTraces = false) (M : Mem) (x1 : Int32) (x2 : Int32) {Q : Int32 → Mem → Prop} {K : String → Mem → Prop} (h : pX10_answer M x1 x2 Q K) : Cxi l G yX10_answer cX10_answer 3 .int rmX10_answer [.ref (ga G 10 0), .int x1, .int x2] M Q K := by
  refine cxi_of hl0 (own := RX10) (by decide +kernel) rfl (Nat.le_of_ble_eq_true rfl) hG (fun Γ Qf hl C E EX => ?_)
  subst hl
  show X Γ G Qf 3 0 0 0 [(0, .ref (ga G 10 0)), (1, .int x1), (2, .int x2)] [] M
  unfold pX10_answer at h
  refine x_aload_n C dX10_answer_0 0 rfl ?_
  refine gf_10_12 C q134 z10 dX10_answer_1 ?_
  refine x_iconst (v := (-1)) C dX10_answer_4 rfl ?_
  refine x_callv (rest := []) C sv_X10_327 ob8 z8 (kX8_rank hG z8 _ _ h) rfl rfl (Nat.le_of_ble_eq_true rfl) ⟨Nat.le_of_ble_eq_true rfl, Nat.le_of_ble_eq_true rfl⟩ rfl rfl ⟨Nat.le_of_ble_eq_true rfl, Nat.le_of_ble_eq_true rfl⟩ dX10_answer_5 (fun M2 h => ?_)
  refine x_iload_n C dX10_answer_8 1 rfl ?_
  refine x_if_lt (tgt := 23) C dX10_answer_9 (by decide) (fun c3 => ?_) (fun c3 => ?_)
  · replace h := h.1 c3
    refine X_sub (lv' := [(0, .ref (ga G 10 0)), (1, .int x1), (2, .int x2)]) [0, 1, 2] rfl ?_
    exact wX10_answer_23 hG C E EX M2 h
  · replace h := h.2 c3
    refine x_iload_n C dX10_answer_12 1 rfl ?_
    refine x_aload_n C dX10_answer_13 0 rfl ?_
    refine gf_10_12 C q134 z10 dX10_answer_14 ?_
    refine gf_8_4 C q135 z8 dX10_answer_17 ?_
    refine x_icmp_lt (tgt := 27) C dX10_answer_20 (by decide) (fun c4 => ?_) (fun c4 => ?_)
    · replace h := h.1 c4
      refine X_widen (c1 := 1) (s1 := 6) (Nat.le_of_ble_eq_true rfl) (Nat.le_of_ble_eq_true rfl) ?_
      refine X_sub (lv' := [(0, .ref (ga G 10 0)), (1, .int x1), (2, .int x2)]) [0, 1, 2] rfl ?_
      exact wX10_answer_27 hG C E EX M2 h
    · replace h := h.2 c4
      refine X_sub (lv' := [(0, .ref (ga G 10 0)), (1, .int x1), (2, .int x2)]) [0, 1, 2] rfl ?_
      exact wX10_answer_23 hG C E EX M2 h
def rmX10_place : Room := { frames := 8, cells := 1, slots := 6, locals := 123 }
def pX10_place (M : Mem) (x1 : Int32) (Q : Int32 → Mem → Prop) (K : String → Mem → Prop) : Prop :=
  pX10_needDocument M x1 (fun M2 => pX8_rank 0 M2 (-1) (fun M4 => pX8_placeOf 0 M4 x1 (fun r5 M6 => Q r5 M6))) K
set_option maxRecDepth 100000 in
set_option maxHeartbeats 400000 in
theorem kX10_place {l : Launch} {G : Gm} (hG : Gd G) (hl0 : l.stackTraces = false) (M : Mem) (x1 : Int32) {Q : Int32 → Mem → Prop} {K : String → Mem → Prop} (h : pX10_place M x1 Q K) : Cxi l G yX10_place cX10_place 2 .int rmX10_place [.ref (ga G 10 0), .int x1] M Q K := by
  refine cxi_of hl0 (own := RX10) (by decide +kernel) rfl (Nat.le_of_ble_eq_true rfl) hG (fun Γ Qf hl C E EX => ?_)
  subst hl
  show X Γ G Qf 2 0 0 0 [(0, .ref (ga G 10 0)), (1, .int x1)] [] M
  unfold pX10_place at h
  refine x_aload_n C dX10_place_0 0 rfl ?_
  refine x_iload_n C dX10_place_1 1 rfl ?_
  refine x_tcallv (rest := []) C EX sv_X10_156 ob10 z10 (kX10_needDocument hG EX.2.2 _ _ h) rfl rfl (Nat.le_of_ble_eq_true rfl) ⟨Nat.le_of_ble_eq_true rfl, Nat.le_of_ble_eq_true rfl⟩ rfl rfl ⟨Nat.le_of_ble_eq_true rfl, Nat.le_of_ble_eq_true rfl⟩ dX10_place_2 (fun M2 h => ?_)
  refine x_aload_n C dX10_place_5 0 rfl ?_
  refine gf_10_12 C q134 z10 dX10_place_6 ?_
  refine x_iconst (v := (-1)) C dX10_place_9 rfl ?_
  refine x_callv (rest := []) C sv_X10_327 ob8 z8 (kX8_rank hG z8 _ _ h) rfl rfl (Nat.le_of_ble_eq_true rfl) ⟨Nat.le_of_ble_eq_true rfl, Nat.le_of_ble_eq_true rfl⟩ rfl rfl ⟨Nat.le_of_ble_eq_true rfl, Nat.le_of_ble_eq_true rfl⟩ dX10_place_10 (fun M4 h => ?_)
  refine x_aload_n C dX10_place_13 0 rfl ?_
  refine gf_10_12 C q134 z10 dX10_place_14 ?_
  refine x_iload_n C dX10_place_17 1 rfl ?_
  refine x_calli (rest := []) C sv_X10_339 ob8 z8 (kX8_placeOf hG z8 _ _ h) rfl rfl (Nat.le_of_ble_eq_true rfl) ⟨Nat.le_of_ble_eq_true rfl, Nat.le_of_ble_eq_true rfl⟩ rfl rfl ⟨Nat.le_of_ble_eq_true rfl, Nat.le_of_ble_eq_true rfl⟩ dX10_place_18 (fun r5 M6 h => ?_)
  exact x_iret C E h (Nat.le_of_ble_eq_true rfl) (Nat.le_of_ble_eq_true rfl) dX10_place_21
def rmX10_early : Room := { frames := 8, cells := 2, slots := 12, locals := 161 }
def pX10_early (M : Mem) (x1 : Int32) (x2 : Int32) (Q : Int32 → Mem → Prop) (K : String → Mem → Prop) : Prop :=
  pX10_needBetween M x1 1 10 (fun M2 => pX10_needBetween M2 x2 0 8 (fun M4 => pX2_run M4 x1 (M4.1 507 0 0) (fun M6 => ((x2 = 0 → Q (M6.1 309 0 0) M6) ∧ (x2 = 1 → pX2_floorNow M6 (fun r9 M10 => Q r9 M10)) ∧ (x2 = 2 → Q (M6.1 310 0 0) M6) ∧ (x2 = 3 → pX2_allOpened M6 (fun r13 M14 => Q r13 M14)) ∧ (x2 = 4 → pX2_allWork M6 (fun r16 M17 => Q r16 M17)) ∧ (x2 = 5 → Q (M6.1 311 0 0) M6) ∧ (x2 = 6 → Q (M6.1 312 0 0) M6) ∧ (x2 = 7 → Q (M6.1 313 0 0) M6) ∧ (¬ x2 = 0 → ¬ x2 = 1 → ¬ x2 = 2 → ¬ x2 = 3 → ¬ x2 = 4 → ¬ x2 = 5 → ¬ x2 = 6 → ¬ x2 = 7 → pX2_spared M6 (fun r21 M22 => Q r21 M22))))) K) K
set_option maxRecDepth 100000 in
set_option maxHeartbeats 400000 in
theorem kX10_early {l : Launch} {G : Gm} (hG : Gd G) (hl0 : l.stackTraces = false) (M : Mem) (x1 : Int32) (x2 : Int32) {Q : Int32 → Mem → Prop} {K : String → Mem → Prop} (h : pX10_early M x1 x2 Q K) : Cxi l G yX10_early cX10_early 3 .int rmX10_early [.ref (ga G 10 0), .int x1, .int x2] M Q K := by
  refine cxi_of hl0 (own := RX10) (by decide +kernel) rfl (Nat.le_of_ble_eq_true rfl) hG (fun Γ Qf hl C E EX => ?_)
  subst hl
  show X Γ G Qf 3 0 0 0 [(0, .ref (ga G 10 0)), (1, .int x1), (2, .int x2)] [] M
  unfold pX10_early at h
  refine x_aload_n C dX10_early_0 0 rfl ?_
  refine x_iload_n C dX10_early_1 1 rfl ?_
  refine x_iconst (v := 1) C dX10_early_2 rfl ?_
  refine x_bipush (v := 10) C dX10_early_3 rfl ?_
  refine x_tcallv (rest := []) C EX sv_X10_106 ob10 z10 (kX10_needBetween hG EX.2.2 _ _ _ _ h) rfl rfl (Nat.le_of_ble_eq_true rfl) ⟨Nat.le_of_ble_eq_true rfl, Nat.le_of_ble_eq_true rfl⟩ rfl rfl ⟨Nat.le_of_ble_eq_true rfl, Nat.le_of_ble_eq_true rfl⟩ dX10_early_5 (fun M2 h => ?_)
  refine x_aload_n C dX10_early_8 0 rfl ?_
  refine x_iload_n C dX10_early_9 2 rfl ?_
  refine x_iconst (v := 0) C dX10_early_10 rfl ?_
  refine x_bipush (v := 8) C dX10_early_11 rfl ?_
  refine x_tcallv (rest := []) C EX sv_X10_106 ob10 z10 (kX10_needBetween hG EX.2.2 _ _ _ _ h) rfl rfl (Nat.le_of_ble_eq_true rfl) ⟨Nat.le_of_ble_eq_true rfl, Nat.le_of_ble_eq_true rfl⟩ rfl rfl ⟨Nat.le_of_ble_eq_true rfl, Nat.le_of_ble_eq_true rfl⟩ dX10_early_13 (fun M4 h => ?_)
  refine x_aload_n C dX10_early_16 0 rfl ?_
  refine gf_10_14 C q142 z10 dX10_early_17 ?_
  refine x_iload_n C dX10_early_20 1 rfl ?_
  refine x_aload_n C dX10_early_21 0 rfl ?_
  refine gf_10_6 C q137 z10 dX10_early_22 ?_
  refine gf_4_7 C q850 z4 dX10_early_25 ?_
  refine x_callv (rest := []) C sv_X10_342 ob2 z2 (kX2_run hG _ _ _ h) rfl rfl (Nat.le_of_ble_eq_true rfl) ⟨Nat.le_of_ble_eq_true rfl, Nat.le_of_ble_eq_true rfl⟩ rfl rfl ⟨Nat.le_of_ble_eq_true rfl, Nat.le_of_ble_eq_true rfl⟩ dX10_early_28 (fun M6 h => ?_)
  refine x_iload_n C dX10_early_31 2 rfl ?_
  by_cases c7 : x2 = 0
  · replace h := h.1 c7
    refine x_tabIn (v := 0) (tgt := 80) C dX10_early_32 c7 (by decide) (by decide) rfl (by decide) ?_
    refine x_aload_n C dX10_early_80 0 rfl ?_
    refine gf_10_14 C q142 z10 dX10_early_81 ?_
    refine gf_2_9 C q875 z2 dX10_early_84 ?_
    exact x_iret C E h (Nat.le_of_ble_eq_true rfl) (Nat.le_of_ble_eq_true rfl) dX10_early_87
  by_cases c8 : x2 = 1
  · replace h := h.2.1 c8
    refine x_tabIn (v := 1) (tgt := 88) C dX10_early_32 c8 (by decide) (by decide) rfl (by decide) ?_
    refine x_aload_n C dX10_early_88 0 rfl ?_
    refine gf_10_14 C q142 z10 dX10_early_89 ?_
    refine x_calli (rest := []) C sv_X10_348 ob2 z2 (kX2_floorNow hG _ h) rfl rfl (Nat.le_of_ble_eq_true rfl) ⟨Nat.le_of_ble_eq_true rfl, Nat.le_of_ble_eq_true rfl⟩ rfl rfl ⟨Nat.le_of_ble_eq_true rfl, Nat.le_of_ble_eq_true rfl⟩ dX10_early_92 (fun r9 M10 h => ?_)
    exact x_iret C E h (Nat.le_of_ble_eq_true rfl) (Nat.le_of_ble_eq_true rfl) dX10_early_95
  by_cases c11 : x2 = 2
  · replace h := h.2.2.1 c11
    refine x_tabIn (v := 2) (tgt := 96) C dX10_early_32 c11 (by decide) (by decide) rfl (by decide) ?_
    refine x_aload_n C dX10_early_96 0 rfl ?_
    refine gf_10_14 C q142 z10 dX10_early_97 ?_
    refine gf_2_10 C q876 z2 dX10_early_100 ?_
    exact x_iret C E h (Nat.le_of_ble_eq_true rfl) (Nat.le_of_ble_eq_true rfl) dX10_early_103
  by_cases c12 : x2 = 3
  · replace h := h.2.2.2.1 c12
    refine x_tabIn (v := 3) (tgt := 104) C dX10_early_32 c12 (by decide) (by decide) rfl (by decide) ?_
    refine x_aload_n C dX10_early_104 0 rfl ?_
    refine gf_10_14 C q142 z10 dX10_early_105 ?_
    refine x_calli (rest := []) C sv_X10_354 ob2 z2 (kX2_allOpened hG _ h) rfl rfl (Nat.le_of_ble_eq_true rfl) ⟨Nat.le_of_ble_eq_true rfl, Nat.le_of_ble_eq_true rfl⟩ rfl rfl ⟨Nat.le_of_ble_eq_true rfl, Nat.le_of_ble_eq_true rfl⟩ dX10_early_108 (fun r13 M14 h => ?_)
    exact x_iret C E h (Nat.le_of_ble_eq_true rfl) (Nat.le_of_ble_eq_true rfl) dX10_early_111
  by_cases c15 : x2 = 4
  · replace h := h.2.2.2.2.1 c15
    refine x_tabIn (v := 4) (tgt := 112) C dX10_early_32 c15 (by decide) (by decide) rfl (by decide) ?_
    refine x_aload_n C dX10_early_112 0 rfl ?_
    refine gf_10_14 C q142 z10 dX10_early_113 ?_
    refine x_calli (rest := []) C sv_X10_357 ob2 z2 (kX2_allWork hG _ h) rfl rfl (Nat.le_of_ble_eq_true rfl) ⟨Nat.le_of_ble_eq_true rfl, Nat.le_of_ble_eq_true rfl⟩ rfl rfl ⟨Nat.le_of_ble_eq_true rfl, Nat.le_of_ble_eq_true rfl⟩ dX10_early_116 (fun r16 M17 h => ?_)
    exact x_iret C E h (Nat.le_of_ble_eq_true rfl) (Nat.le_of_ble_eq_true rfl) dX10_early_119
  by_cases c18 : x2 = 5
  · replace h := h.2.2.2.2.2.1 c18
    refine x_tabIn (v := 5) (tgt := 120) C dX10_early_32 c18 (by decide) (by decide) rfl (by decide) ?_
    refine x_aload_n C dX10_early_120 0 rfl ?_
    refine gf_10_14 C q142 z10 dX10_early_121 ?_
    refine gf_2_11 C q877 z2 dX10_early_124 ?_
    exact x_iret C E h (Nat.le_of_ble_eq_true rfl) (Nat.le_of_ble_eq_true rfl) dX10_early_127
  by_cases c19 : x2 = 6
  · replace h := h.2.2.2.2.2.2.1 c19
    refine x_tabIn (v := 6) (tgt := 128) C dX10_early_32 c19 (by decide) (by decide) rfl (by decide) ?_
    refine x_aload_n C dX10_early_128 0 rfl ?_
    refine gf_10_14 C q142 z10 dX10_early_129 ?_
    refine gf_2_12 C q878 z2 dX10_early_132 ?_
    exact x_iret C E h (Nat.le_of_ble_eq_true rfl) (Nat.le_of_ble_eq_true rfl) dX10_early_135
  by_cases c20 : x2 = 7
  · replace h := h.2.2.2.2.2.2.2.1 c20
    refine x_tabIn (v := 7) (tgt := 136) C dX10_early_32 c20 (by decide) (by decide) rfl (by decide) ?_
    refine x_aload_n C dX10_early_136 0 rfl ?_
    refine gf_10_14 C q142 z10 dX10_early_137 ?_
    refine gf_2_13 C q879 z2 dX10_early_140 ?_
    exact x_iret C E h (Nat.le_of_ble_eq_true rfl) (Nat.le_of_ble_eq_true rfl) dX10_early_143
  replace h := h.2.2.2.2.2.2.2.2 c7 c8 c11 c12 c15 c18 c19 c20
  refine x_tabOut (tgt := 144) C dX10_early_32 (by have ac7 := lv_neT (a := 0) c7 rfl; have ac8 := lv_neT (a := 1) c8 rfl; have ac11 := lv_neT (a := 2) c11 rfl; have ac12 := lv_neT (a := 3) c12 rfl; have ac15 := lv_neT (a := 4) c15 rfl; have ac18 := lv_neT (a := 5) c18 rfl; have ac19 := lv_neT (a := 6) c19 rfl; have ac20 := lv_neT (a := 7) c20 rfl; omega) (by decide) ?_
  refine x_aload_n C dX10_early_144 0 rfl ?_
  refine gf_10_14 C q142 z10 dX10_early_145 ?_
  refine x_calli (rest := []) C sv_X10_369 ob2 z2 (kX2_spared hG _ h) rfl rfl (Nat.le_of_ble_eq_true rfl) ⟨Nat.le_of_ble_eq_true rfl, Nat.le_of_ble_eq_true rfl⟩ rfl rfl ⟨Nat.le_of_ble_eq_true rfl, Nat.le_of_ble_eq_true rfl⟩ dX10_early_148 (fun r21 M22 h => ?_)
  exact x_iret C E h (Nat.le_of_ble_eq_true rfl) (Nat.le_of_ble_eq_true rfl) dX10_early_151
def rmX10_best : Room := { frames := 8, cells := 1, slots := 6, locals := 161 }
def pX10_best (M : Mem) (x1 : Int32) (x2 : Int32) (Q : Int32 → Mem → Prop) (K : String → Mem → Prop) : Prop :=
  pX10_needBetween M x1 1 10 (fun M2 => pX2_run M2 x1 (M2.1 507 0 0) (fun M4 => ((x2 < 0 → Q (-1) M4) ∧ (¬ x2 < 0 → ((x2 < (M4.1 309 0 0) → vp_in x2 10 ∧ Q (M4.1 307 0 (tn x2)) M4) ∧ (¬ x2 < (M4.1 309 0 0) → Q (-1) M4)))))) K
set_option maxRecDepth 100000 in
set_option maxHeartbeats 400000 in
theorem kX10_best {l : Launch} {G : Gm} (hG : Gd G) (hl0 : l.stackTraces = false) (M : Mem) (x1 : Int32) (x2 : Int32) {Q : Int32 → Mem → Prop} {K : String → Mem → Prop} (h : pX10_best M x1 x2 Q K) : Cxi l G yX10_best cX10_best 3 .int rmX10_best [.ref (ga G 10 0), .int x1, .int x2] M Q K := by
  refine cxi_of hl0 (own := RX10) (by decide +kernel) rfl (Nat.le_of_ble_eq_true rfl) hG (fun Γ Qf hl C E EX => ?_)
  subst hl
  show X Γ G Qf 3 0 0 0 [(0, .ref (ga G 10 0)), (1, .int x1), (2, .int x2)] [] M
  unfold pX10_best at h
  refine x_aload_n C dX10_best_0 0 rfl ?_
  refine x_iload_n C dX10_best_1 1 rfl ?_
  refine x_iconst (v := 1) C dX10_best_2 rfl ?_
  refine x_bipush (v := 10) C dX10_best_3 rfl ?_
  refine x_tcallv (rest := []) C EX sv_X10_106 ob10 z10 (kX10_needBetween hG EX.2.2 _ _ _ _ h) rfl rfl (Nat.le_of_ble_eq_true rfl) ⟨Nat.le_of_ble_eq_true rfl, Nat.le_of_ble_eq_true rfl⟩ rfl rfl ⟨Nat.le_of_ble_eq_true rfl, Nat.le_of_ble_eq_true rfl⟩ dX10_best_5 (fun M2 h => ?_)
  refine x_aload_n C dX10_best_8 0 rfl ?_
  refine gf_10_14 C q142 z10 dX10_best_9 ?_
  refine x_iload_n C dX10_best_12 1 rfl ?_
  refine x_aload_n C dX10_best_13 0 rfl ?_
  refine gf_10_6 C q137 z10 dX10_best_14 ?_
  refine gf_4_7 C q850 z4 dX10_best_17 ?_
  refine x_callv (rest := []) C sv_X10_342 ob2 z2 (kX2_run hG _ _ _ h) rfl rfl (Nat.le_of_ble_eq_true rfl) ⟨Nat.le_of_ble_eq_true rfl, Nat.le_of_ble_eq_true rfl⟩ rfl rfl ⟨Nat.le_of_ble_eq_true rfl, Nat.le_of_ble_eq_true rfl⟩ dX10_best_20 (fun M4 h => ?_)
  refine x_iload_n C dX10_best_23 2 rfl ?_
  refine x_if_lt (tgt := 38) C dX10_best_24 (by decide) (fun c5 => ?_) (fun c5 => ?_)
  · replace h := h.1 c5
    refine x_iconst (v := (-1)) C dX10_best_38 rfl ?_
    exact x_iret C E h (Nat.le_of_ble_eq_true rfl) (Nat.le_of_ble_eq_true rfl) dX10_best_39
  · replace h := h.2 c5
    refine x_iload_n C dX10_best_27 2 rfl ?_
    refine x_aload_n C dX10_best_28 0 rfl ?_
    refine gf_10_14 C q142 z10 dX10_best_29 ?_
    refine gf_2_9 C q875 z2 dX10_best_32 ?_
    refine x_icmp_lt (tgt := 40) C dX10_best_35 (by decide) (fun c6 => ?_) (fun c6 => ?_)
    · replace h := h.1 c6
      refine x_aload_n C dX10_best_40 0 rfl ?_
      refine gf_10_14 C q142 z10 dX10_best_41 ?_
      refine gf_2_7 C q880 z2 dX10_best_44 ?_
      refine x_iload_n C dX10_best_47 2 rfl ?_
      obtain ⟨f7, h⟩ := h
      refine al_307 C z307 f7 dX10_best_48 ?_
      exact x_iret C E h (Nat.le_of_ble_eq_true rfl) (Nat.le_of_ble_eq_true rfl) dX10_best_49
    · replace h := h.2 c6
      refine x_iconst (v := (-1)) C dX10_best_38 rfl ?_
      exact x_iret C E h (Nat.le_of_ble_eq_true rfl) (Nat.le_of_ble_eq_true rfl) dX10_best_39
def rmX10_needScoredBlock : Room := { frames := 9, cells := 3, slots := 18, locals := 145 }
def bX10_needScoredBlock_15 (x1 : Int32) (x2 : Int32) (Q : Mem → Prop) (K : String → Mem → Prop) (M : Mem) : Prop :=
  vp_in x1 24 ∧ pX10_needBlock M (M.1 702 0 (tn x1)) x2 (fun M8 => Q M8) K
def pX10_needScoredBlock (M : Mem) (x1 : Int32) (x2 : Int32) (Q : Mem → Prop) (K : String → Mem → Prop) : Prop :=
  pX6_hasScored M x1 (fun r1 M2 => ((¬ r1 = 0 → bX10_needScoredBlock_15 x1 x2 Q K M2) ∧ (r1 = 0 → pX10_refuseMissing M2 (fun M5 => bX10_needScoredBlock_15 x1 x2 Q K M5) K)))
set_option maxRecDepth 100000 in
set_option maxHeartbeats 400000 in
theorem wX10_needScoredBlock_15 {Γ : Gam} {G : Gm} {Qf : State → Prop} (hG : Gd G) (C : Cx Γ G cX10_needScoredBlock 3 RX10 none rmX10_needScoredBlock) {x1 : Int32} {x2 : Int32} {Q : Mem → Prop} {K : String → Mem → Prop} (E : EndV Γ G Qf rmX10_needScoredBlock Q) (EX : EndX Γ G Qf rmX10_needScoredBlock K) (M : Mem) (h : bX10_needScoredBlock_15 x1 x2 Q K M) : X Γ G Qf 3 1 6 15 [(0, .ref (ga G 10 0)), (1, .int x1), (2, .int x2)] [] M := by
  unfold bX10_needScoredBlock_15 at h
  refine x_aload_n C dX10_needScoredBlock_15 0 rfl ?_
  refine x_aload_n C dX10_needScoredBlock_16 0 rfl ?_
  refine gf_10_8 C q846 z10 dX10_needScoredBlock_17 ?_
  refine gf_6_2 C q868 z6 dX10_needScoredBlock_20 ?_
  refine x_iload_n C dX10_needScoredBlock_23 1 rfl ?_
  obtain ⟨f6, h⟩ := h
  refine al_702 C z702 f6 dX10_needScoredBlock_24 ?_
  refine x_iload_n C dX10_needScoredBlock_25 2 rfl ?_
  refine x_tcallv (rest := []) C EX sv_X10_244 ob10 z10 (kX10_needBlock hG EX.2.2 _ _ _ h) rfl rfl (Nat.le_of_ble_eq_true rfl) ⟨Nat.le_of_ble_eq_true rfl, Nat.le_of_ble_eq_true rfl⟩ rfl rfl ⟨Nat.le_of_ble_eq_true rfl, Nat.le_of_ble_eq_true rfl⟩ dX10_needScoredBlock_26 (fun M8 h => ?_)
  exact x_vret C E h (Nat.le_of_ble_eq_true rfl) (Nat.le_of_ble_eq_true rfl) dX10_needScoredBlock_29
set_option maxRecDepth 100000 in
set_option maxHeartbeats 400000 in
theorem kX10_needScoredBlock {l : Launch} {G : Gm} (hG : Gd G) (hl0 : l.stackTraces = false) (M : Mem) (x1 : Int32) (x2 : Int32) {Q : Mem → Prop} {K : String → Mem → Prop} (h : pX10_needScoredBlock M x1 x2 Q K) : Cxv l G yX10_needScoredBlock cX10_needScoredBlock 3 rmX10_needScoredBlock [.ref (ga G 10 0), .int x1, .int x2] M Q K := by
  refine cxv_of hl0 (own := RX10) (by decide +kernel) rfl (Nat.le_of_ble_eq_true rfl) hG (fun Γ Qf hl C E EX => ?_)
  subst hl
  show X Γ G Qf 3 0 0 0 [(0, .ref (ga G 10 0)), (1, .int x1), (2, .int x2)] [] M
  unfold pX10_needScoredBlock at h
  refine x_aload_n C dX10_needScoredBlock_0 0 rfl ?_
  refine gf_10_8 C q846 z10 dX10_needScoredBlock_1 ?_
  refine x_iload_n C dX10_needScoredBlock_4 1 rfl ?_
  refine x_calli (rest := []) C sv_X10_296 ob6 z6 (kX6_hasScored hG _ _ h) rfl rfl (Nat.le_of_ble_eq_true rfl) ⟨Nat.le_of_ble_eq_true rfl, Nat.le_of_ble_eq_true rfl⟩ rfl rfl ⟨Nat.le_of_ble_eq_true rfl, Nat.le_of_ble_eq_true rfl⟩ dX10_needScoredBlock_5 (fun r1 M2 h => ?_)
  refine x_if_ne (tgt := 15) C dX10_needScoredBlock_8 (by decide) (fun c3 => ?_) (fun c3 => ?_)
  · replace h := h.1 c3
    refine X_widen (c1 := 1) (s1 := 6) (Nat.le_of_ble_eq_true rfl) (Nat.le_of_ble_eq_true rfl) ?_
    refine X_sub (lv' := [(0, .ref (ga G 10 0)), (1, .int x1), (2, .int x2)]) [0, 1, 2] rfl ?_
    exact wX10_needScoredBlock_15 hG C E EX M2 h
  · replace h := h.2 c3
    refine x_aload_n C dX10_needScoredBlock_11 0 rfl ?_
    refine x_tcallv (rest := []) C EX sv_X10_163 ob10 z10 (kX10_refuseMissing hG EX.2.2 _ h) rfl rfl (Nat.le_of_ble_eq_true rfl) ⟨Nat.le_of_ble_eq_true rfl, Nat.le_of_ble_eq_true rfl⟩ rfl rfl ⟨Nat.le_of_ble_eq_true rfl, Nat.le_of_ble_eq_true rfl⟩ dX10_needScoredBlock_12 (fun M5 h => ?_)
    refine X_sub (lv' := [(0, .ref (ga G 10 0)), (1, .int x1), (2, .int x2)]) [0, 1, 2] rfl ?_
    exact wX10_needScoredBlock_15 hG C E EX M5 h
