def rmX11_thrown : Room := { frames := 0, cells := 0, slots := 0, locals := 0 }
def pX11_thrown (M : Mem) (Q : Int32 → Mem → Prop) : Prop :=
  Q (M.1 1200 0 0) M
set_option maxRecDepth 100000 in
set_option maxHeartbeats 400000 in
theorem kX11_thrown {l : Launch} {G : Gm} (hG : Gd G) (M : Mem)  {Q : Int32 → Mem → Prop} (h : pX11_thrown M Q) : Cti l G yX11_thrown cX11_thrown 1 .int rmX11_thrown [.ref (ga G 11 0)] M Q := by
  refine cti_of (own := RX11) (by decide +kernel) rfl (Nat.le_of_ble_eq_true rfl) hG (fun Γ Qf hl C E => ?_)
  subst hl
  show X Γ G Qf 1 0 0 0 [(0, .ref (ga G 11 0))] [] M
  unfold pX11_thrown at h
  refine x_aload_n C dX11_thrown_0 0 rfl ?_
  refine gf_11_0 C q143 z11 dX11_thrown_1 ?_
  exact x_iret C E h (Nat.le_of_ble_eq_true rfl) (Nat.le_of_ble_eq_true rfl) dX11_thrown_4
def rmX11_bad : Room := { frames := 0, cells := 0, slots := 0, locals := 0 }
def bX11_bad_26 (x1 : Int32) (x2 : Int32) (x3 : Int32) (Q : Int32 → Mem → Prop) (M : Mem) : Prop :=
  (((M.1 1200 0 0) = 0 → Q 0 M) ∧ (¬ (M.1 1200 0 0) = 0 → Q 1 M))
def pX11_bad (M : Mem) (x1 : Int32) (x2 : Int32) (x3 : Int32) (Q : Int32 → Mem → Prop) : Prop :=
  ((x1 = 0 → bX11_bad_26 x1 x2 x3 Q M) ∧ (¬ x1 = 0 → ((¬ (M.1 1200 0 0) = 0 → bX11_bad_26 x1 x2 x3 Q M) ∧ ((M.1 1200 0 0) = 0 → ∀ M3 : Mem, M3 = up1 M 1200 0 0 x2 → vp_in x3 2 ∧ ∀ M5 : Mem, M5 = up1 M3 1201 0 (tn x3) ((M3.1 1201 0 (tn x3)) + 1) → bX11_bad_26 x1 x2 x3 Q M5))))
set_option maxRecDepth 100000 in
set_option maxHeartbeats 400000 in
theorem wX11_bad_26 {Γ : Gam} {G : Gm} {Qf : State → Prop} (hG : Gd G) (C : Cx Γ G cX11_bad 4 RX11 (some .boolean) rmX11_bad) {x1 : Int32} {x2 : Int32} {x3 : Int32} {Q : Int32 → Mem → Prop} (E : EndI Γ G Qf rmX11_bad Q) (M : Mem) (h : bX11_bad_26 x1 x2 x3 Q M) : X Γ G Qf 4 0 0 26 [(0, .ref (ga G 11 0))] [] M := by
  unfold bX11_bad_26 at h
  refine x_aload_n C dX11_bad_26 0 rfl ?_
  refine gf_11_0 C q143 z11 dX11_bad_27 ?_
  refine x_if_eq (tgt := 37) C dX11_bad_30 (by decide) (fun c6 => ?_) (fun c6 => ?_)
  · replace h := h.1 c6
    refine x_iconst (v := 0) C dX11_bad_37 rfl ?_
    exact x_zret C E h rfl (Nat.le_of_ble_eq_true rfl) (Nat.le_of_ble_eq_true rfl) dX11_bad_38
  · replace h := h.2 c6
    refine x_iconst (v := 1) C dX11_bad_33 rfl ?_
    refine x_goto (tgt := 38) C dX11_bad_34 (by decide) ?_
    exact x_zret C E h rfl (Nat.le_of_ble_eq_true rfl) (Nat.le_of_ble_eq_true rfl) dX11_bad_38
set_option maxRecDepth 100000 in
set_option maxHeartbeats 400000 in
theorem kX11_bad {l : Launch} {G : Gm} (hG : Gd G) (M : Mem) (x1 : Int32) (x2 : Int32) (x3 : Int32) {Q : Int32 → Mem → Prop} (h : pX11_bad M x1 x2 x3 Q) : Cti l G yX11_bad cX11_bad 4 .boolean rmX11_bad [.ref (ga G 11 0), .int x1, .int x2, .int x3] M Q := by
  refine cti_of (own := RX11) (by decide +kernel) rfl (Nat.le_of_ble_eq_true rfl) hG (fun Γ Qf hl C E => ?_)
  subst hl
  show X Γ G Qf 4 0 0 0 [(0, .ref (ga G 11 0)), (1, .int x1), (2, .int x2), (3, .int x3)] [] M
  unfold pX11_bad at h
  refine x_iload_n C dX11_bad_0 1 rfl ?_
  refine x_if_eq (tgt := 26) C dX11_bad_1 (by decide) (fun c1 => ?_) (fun c1 => ?_)
  · replace h := h.1 c1
    refine X_sub (lv' := [(0, .ref (ga G 11 0))]) [0] rfl ?_
    exact wX11_bad_26 hG C E M h
  · replace h := h.2 c1
    refine x_aload_n C dX11_bad_4 0 rfl ?_
    refine gf_11_0 C q143 z11 dX11_bad_5 ?_
    refine x_if_ne (tgt := 26) C dX11_bad_8 (by decide) (fun c2 => ?_) (fun c2 => ?_)
    · replace h := h.1 c2
      refine X_sub (lv' := [(0, .ref (ga G 11 0))]) [0] rfl ?_
      exact wX11_bad_26 hG C E M h
    · replace h := h.2 c2
      refine x_aload_n C dX11_bad_11 0 rfl ?_
      refine x_iload_n C dX11_bad_12 2 rfl ?_
      refine pf_11_0 C q143 z11 dX11_bad_13 ?_
      refine X_nameM (fun M3 eM3 => ?_)
      replace h := h M3 eM3
      refine x_aload_n C dX11_bad_16 0 rfl ?_
      refine gf_11_1 C q144 z11 dX11_bad_17 ?_
      refine x_iload_n C dX11_bad_20 3 rfl ?_
      refine x_dup2 C dX11_bad_21 rfl rfl ?_
      obtain ⟨f4, h⟩ := h
      refine al_1201 C z1201 f4 dX11_bad_22 ?_
      refine x_iconst (v := 1) C dX11_bad_23 rfl ?_
      refine x_iadd C dX11_bad_24 ?_
      refine as_1201 C z1201 f4 dX11_bad_25 ?_
      refine X_nameM (fun M5 eM5 => ?_)
      replace h := h M5 eM5
      refine X_sub (lv' := [(0, .ref (ga G 11 0))]) [0] rfl ?_
      exact wX11_bad_26 hG C E M5 h
def rmX11_in : Room := { frames := 0, cells := 0, slots := 0, locals := 0 }
def pX11_in (M : Mem) (x1 : Int32) (x2 : Int32) (x3 : Int32) (Q : Int32 → Mem → Prop) : Prop :=
  ((x1 < x2 → Q 0 M) ∧ (¬ x1 < x2 → ((x3 < x1 → Q 0 M) ∧ (¬ x3 < x1 → Q 1 M))))
set_option maxRecDepth 100000 in
set_option maxHeartbeats 400000 in
theorem kX11_in {l : Launch} {G : Gm} (hG : Gd G) (M : Mem) (x1 : Int32) (x2 : Int32) (x3 : Int32) {Q : Int32 → Mem → Prop} (h : pX11_in M x1 x2 x3 Q) : Cti l G yX11_in cX11_in 3 .boolean rmX11_in [.int x1, .int x2, .int x3] M Q := by
  refine cti_of (own := RX11) (by decide +kernel) rfl (Nat.le_of_ble_eq_true rfl) hG (fun Γ Qf hl C E => ?_)
  subst hl
  show X Γ G Qf 3 0 0 0 [(0, .int x1), (1, .int x2), (2, .int x3)] [] M
  unfold pX11_in at h
  refine x_iload_n C dX11_in_0 0 rfl ?_
  refine x_iload_n C dX11_in_1 1 rfl ?_
  refine x_icmp_lt (tgt := 14) C dX11_in_2 (by decide) (fun c1 => ?_) (fun c1 => ?_)
  · replace h := h.1 c1
    refine x_iconst (v := 0) C dX11_in_14 rfl ?_
    exact x_zret C E h rfl (Nat.le_of_ble_eq_true rfl) (Nat.le_of_ble_eq_true rfl) dX11_in_15
  · replace h := h.2 c1
    refine x_iload_n C dX11_in_5 0 rfl ?_
    refine x_iload_n C dX11_in_6 2 rfl ?_
    refine x_icmp_gt (tgt := 14) C dX11_in_7 (by decide) (fun c2 => ?_) (fun c2 => ?_)
    · replace h := h.1 c2
      refine x_iconst (v := 0) C dX11_in_14 rfl ?_
      exact x_zret C E h rfl (Nat.le_of_ble_eq_true rfl) (Nat.le_of_ble_eq_true rfl) dX11_in_15
    · replace h := h.2 c2
      refine x_iconst (v := 1) C dX11_in_10 rfl ?_
      refine x_goto (tgt := 15) C dX11_in_11 (by decide) ?_
      exact x_zret C E h rfl (Nat.le_of_ble_eq_true rfl) (Nat.le_of_ble_eq_true rfl) dX11_in_15
def rmX11_more : Room := { frames := 0, cells := 0, slots := 0, locals := 0 }
def pX11_more (M : Mem) (x1 : Int32) (x2 : Int32) (Q : Int32 → Mem → Prop) : Prop :=
  ((x1 ≤ x2 → Q x2 M) ∧ (¬ x1 ≤ x2 → Q x1 M))
set_option maxRecDepth 100000 in
set_option maxHeartbeats 400000 in
theorem kX11_more {l : Launch} {G : Gm} (hG : Gd G) (M : Mem) (x1 : Int32) (x2 : Int32) {Q : Int32 → Mem → Prop} (h : pX11_more M x1 x2 Q) : Cti l G yX11_more cX11_more 2 .int rmX11_more [.int x1, .int x2] M Q := by
  refine cti_of (own := RX11) (by decide +kernel) rfl (Nat.le_of_ble_eq_true rfl) hG (fun Γ Qf hl C E => ?_)
  subst hl
  show X Γ G Qf 2 0 0 0 [(0, .int x1), (1, .int x2)] [] M
  unfold pX11_more at h
  refine x_iload_n C dX11_more_0 0 rfl ?_
  refine x_iload_n C dX11_more_1 1 rfl ?_
  refine x_icmp_le (tgt := 9) C dX11_more_2 (by decide) (fun c1 => ?_) (fun c1 => ?_)
  · replace h := h.1 c1
    refine x_iload_n C dX11_more_9 1 rfl ?_
    exact x_iret C E h (Nat.le_of_ble_eq_true rfl) (Nat.le_of_ble_eq_true rfl) dX11_more_10
  · replace h := h.2 c1
    refine x_iload_n C dX11_more_5 0 rfl ?_
    refine x_goto (tgt := 10) C dX11_more_6 (by decide) ?_
    exact x_iret C E h (Nat.le_of_ble_eq_true rfl) (Nat.le_of_ble_eq_true rfl) dX11_more_10
def rmX11_less : Room := { frames := 0, cells := 0, slots := 0, locals := 0 }
def pX11_less (M : Mem) (x1 : Int32) (x2 : Int32) (Q : Int32 → Mem → Prop) : Prop :=
  ((x2 ≤ x1 → Q x2 M) ∧ (¬ x2 ≤ x1 → Q x1 M))
set_option maxRecDepth 100000 in
set_option maxHeartbeats 400000 in
theorem kX11_less {l : Launch} {G : Gm} (hG : Gd G) (M : Mem) (x1 : Int32) (x2 : Int32) {Q : Int32 → Mem → Prop} (h : pX11_less M x1 x2 Q) : Cti l G yX11_less cX11_less 2 .int rmX11_less [.int x1, .int x2] M Q := by
  refine cti_of (own := RX11) (by decide +kernel) rfl (Nat.le_of_ble_eq_true rfl) hG (fun Γ Qf hl C E => ?_)
  subst hl
  show X Γ G Qf 2 0 0 0 [(0, .int x1), (1, .int x2)] [] M
  unfold pX11_less at h
  refine x_iload_n C dX11_less_0 0 rfl ?_
  refine x_iload_n C dX11_less_1 1 rfl ?_
  refine x_icmp_ge (tgt := 9) C dX11_less_2 (by decide) (fun c1 => ?_) (fun c1 => ?_)
  · replace h := h.1 c1
    refine x_iload_n C dX11_less_9 1 rfl ?_
    exact x_iret C E h (Nat.le_of_ble_eq_true rfl) (Nat.le_of_ble_eq_true rfl) dX11_less_10
  · replace h := h.2 c1
    refine x_iload_n C dX11_less_5 0 rfl ?_
    refine x_goto (tgt := 10) C dX11_less_6 (by decide) ?_
    exact x_iret C E h (Nat.le_of_ble_eq_true rfl) (Nat.le_of_ble_eq_true rfl) dX11_less_10
def rmX11_feed : Room := { frames := 0, cells := 0, slots := 0, locals := 0 }
def bX11_feed_78 (x1 : Int32) (x2 : Int32) (x3 : Int32) (x4 : Int32) (x5 : Int32) (Q : Int32 → Mem → Prop) (L23 : Mem × Int32 → Prop) (M : Mem) (y6 : Int32) (y7 : Int32) : Prop :=
  vp_in (M.1 1202 0 0) 300 ∧ ∀ M9 : Mem, M9 = up1 M 1208 0 (tn (M.1 1202 0 0)) ((y7 >>> ((24 - (8 * (y6 - y6 / 4 * 4))) &&& 31)) &&& 255) → ∀ M10 : Mem, M10 = up1 M9 1202 0 0 ((M9.1 1202 0 0) + 1) → ∀ v11 : Int32, v11 = y6 + 1 → L23 (M10, v11)
def bX11_feed_23 (x1 : Int32) (x2 : Int32) (x3 : Int32) (x4 : Int32) (x5 : Int32) (Q : Int32 → Mem → Prop) (L23 : Mem × Int32 → Prop) (M : Mem) (y6 : Int32) : Prop :=
  ((20 ≤ y6 → Q (M.1 1202 0 0) M) ∧ (¬ 20 ≤ y6 → ((4 ≤ y6 → ((8 ≤ y6 → ((12 ≤ y6 → ((16 ≤ y6 → bX11_feed_78 x1 x2 x3 x4 x5 Q L23 M y6 x5) ∧ (¬ 16 ≤ y6 → bX11_feed_78 x1 x2 x3 x4 x5 Q L23 M y6 x4))) ∧ (¬ 12 ≤ y6 → bX11_feed_78 x1 x2 x3 x4 x5 Q L23 M y6 x3))) ∧ (¬ 8 ≤ y6 → bX11_feed_78 x1 x2 x3 x4 x5 Q L23 M y6 x2))) ∧ (¬ 4 ≤ y6 → bX11_feed_78 x1 x2 x3 x4 x5 Q L23 M y6 x1))))
def pX11_feed (M : Mem) (x1 : Int32) (x2 : Int32) (x3 : Int32) (x4 : Int32) (x5 : Int32) (Q : Int32 → Mem → Prop) : Prop :=
  ∀ M1 : Mem, M1 = up1 M 1200 0 0 0 → ((((M1.1 1202 0 0) + 20) ≤ 300 → ∃ n : Nat, lp (fun L s => bX11_feed_23 x1 x2 x3 x4 x5 Q L s.1 s.2) n (M1, 0)) ∧ (¬ ((M1.1 1202 0 0) + 20) ≤ 300 → Q (-1) M1))
set_option maxRecDepth 100000 in
set_option maxHeartbeats 400000 in
theorem wX11_feed_78 {Γ : Gam} {G : Gm} {Qf : State → Prop} (hG : Gd G) (C : Cx Γ G cX11_feed 8 RX11 (some .int) rmX11_feed) {x1 : Int32} {x2 : Int32} {x3 : Int32} {x4 : Int32} {x5 : Int32} {Q : Int32 → Mem → Prop} (E : EndI Γ G Qf rmX11_feed Q) {L23 : Mem × Int32 → Prop} (hL23 : ∀ s, L23 s → X Γ G Qf 8 0 0 23 [(0, .ref (ga G 11 0)), (1, .int x1), (2, .int x2), (3, .int x3), (4, .int x4), (5, .int x5), (6, .int s.2)] [] s.1) (M : Mem) (y6 : Int32) (y7 : Int32) (h : bX11_feed_78 x1 x2 x3 x4 x5 Q L23 M y6 y7) : X Γ G Qf 8 0 0 78 [(0, .ref (ga G 11 0)), (1, .int x1), (2, .int x2), (3, .int x3), (4, .int x4), (5, .int x5), (6, .int y6), (7, .int y7)] [] M := by
  unfold bX11_feed_78 at h
  refine x_aload_n C dX11_feed_78 0 rfl ?_
  refine gf_11_8 C q146 z11 dX11_feed_79 ?_
  refine x_aload_n C dX11_feed_82 0 rfl ?_
  refine gf_11_2 C q145 z11 dX11_feed_83 ?_
  refine x_iload C dX11_feed_86 7 rfl ?_
  refine x_bipush (v := 24) C dX11_feed_88 rfl ?_
  refine x_bipush (v := 8) C dX11_feed_90 rfl ?_
  refine x_iload C dX11_feed_92 6 rfl ?_
  refine x_iconst (v := 4) C dX11_feed_94 rfl ?_
  refine x_irem C dX11_feed_95 (by decide) ?_
  refine x_imul C dX11_feed_96 ?_
  refine x_isub C dX11_feed_97 ?_
  refine x_ishr C dX11_feed_98 ?_
  refine x_sipush (v := 255) C dX11_feed_99 rfl ?_
  refine x_iand C dX11_feed_102 ?_
  obtain ⟨f8, h⟩ := h
  refine as_1208 C z1208 f8 dX11_feed_103 ?_
  refine X_nameM (fun M9 eM9 => ?_)
  replace h := h M9 eM9
  refine x_aload_n C dX11_feed_104 0 rfl ?_
  refine x_dup C dX11_feed_105 rfl ?_
  refine gf_11_2 C q145 z11 dX11_feed_106 ?_
  refine x_iconst (v := 1) C dX11_feed_109 rfl ?_
  refine x_iadd C dX11_feed_110 ?_
  refine pf_11_2 C q145 z11 dX11_feed_111 ?_
  refine X_nameM (fun M10 eM10 => ?_)
  replace h := h M10 eM10
  obtain ⟨v11, ev11⟩ : ∃ z : Int32, z = y6 + 1 := ⟨_, rfl⟩
  replace h := h v11 ev11
  refine x_iinc (v := v11) (lv' := [(6, .int v11), (0, .ref (ga G 11 0)), (1, .int x1), (2, .int x2), (3, .int x3), (4, .int x4), (5, .int x5), (7, .int y7)]) (j := 6) C dX11_feed_114 rfl (by rw [ev11]; rfl) (Nat.le_of_ble_eq_true rfl) rfl ?_
  refine x_goto (tgt := 23) C dX11_feed_117 (by decide) ?_
  refine X_sub (lv' := [(0, .ref (ga G 11 0)), (1, .int x1), (2, .int x2), (3, .int x3), (4, .int x4), (5, .int x5), (6, .int v11)]) [1, 2, 3, 4, 5, 6, 0] rfl ?_
  have w9 := hL23 (M10, v11) h
  dsimp only at w9
  exact w9
set_option maxRecDepth 100000 in
set_option maxHeartbeats 400000 in
theorem wX11_feed_23 {Γ : Gam} {G : Gm} {Qf : State → Prop} (hG : Gd G) (C : Cx Γ G cX11_feed 8 RX11 (some .int) rmX11_feed) {x1 : Int32} {x2 : Int32} {x3 : Int32} {x4 : Int32} {x5 : Int32} {Q : Int32 → Mem → Prop} (E : EndI Γ G Qf rmX11_feed Q) {L23 : Mem × Int32 → Prop} (hL23 : ∀ s, L23 s → X Γ G Qf 8 0 0 23 [(0, .ref (ga G 11 0)), (1, .int x1), (2, .int x2), (3, .int x3), (4, .int x4), (5, .int x5), (6, .int s.2)] [] s.1) (M : Mem) (y6 : Int32) (h : bX11_feed_23 x1 x2 x3 x4 x5 Q L23 M y6) : X Γ G Qf 8 0 0 23 [(0, .ref (ga G 11 0)), (1, .int x1), (2, .int x2), (3, .int x3), (4, .int x4), (5, .int x5), (6, .int y6)] [] M := by
  unfold bX11_feed_23 at h
  refine x_iload C dX11_feed_23 6 rfl ?_
  refine x_bipush (v := 20) C dX11_feed_25 rfl ?_
  refine x_icmp_ge (tgt := 120) C dX11_feed_27 (by decide) (fun c3 => ?_) (fun c3 => ?_)
  · replace h := h.1 c3
    refine x_aload_n C dX11_feed_120 0 rfl ?_
    refine gf_11_2 C q145 z11 dX11_feed_121 ?_
    exact x_iret C E h (Nat.le_of_ble_eq_true rfl) (Nat.le_of_ble_eq_true rfl) dX11_feed_124
  · replace h := h.2 c3
    refine x_iload C dX11_feed_30 6 rfl ?_
    refine x_iconst (v := 4) C dX11_feed_32 rfl ?_
    refine x_icmp_ge (tgt := 40) C dX11_feed_33 (by decide) (fun c4 => ?_) (fun c4 => ?_)
    · replace h := h.1 c4
      refine x_iload C dX11_feed_40 6 rfl ?_
      refine x_bipush (v := 8) C dX11_feed_42 rfl ?_
      refine x_icmp_ge (tgt := 51) C dX11_feed_44 (by decide) (fun c5 => ?_) (fun c5 => ?_)
      · replace h := h.1 c5
        refine x_iload C dX11_feed_51 6 rfl ?_
        refine x_bipush (v := 12) C dX11_feed_53 rfl ?_
        refine x_icmp_ge (tgt := 62) C dX11_feed_55 (by decide) (fun c6 => ?_) (fun c6 => ?_)
        · replace h := h.1 c6
          refine x_iload C dX11_feed_62 6 rfl ?_
          refine x_bipush (v := 16) C dX11_feed_64 rfl ?_
          refine x_icmp_ge (tgt := 74) C dX11_feed_66 (by decide) (fun c7 => ?_) (fun c7 => ?_)
          · replace h := h.1 c7
            refine x_iload C dX11_feed_74 5 rfl ?_
            refine x_istore (lv' := [(7, .int x5), (0, .ref (ga G 11 0)), (1, .int x1), (2, .int x2), (3, .int x3), (4, .int x4), (5, .int x5), (6, .int y6)]) C dX11_feed_76 (Nat.le_of_ble_eq_true rfl) rfl ?_
            refine X_sub (lv' := [(0, .ref (ga G 11 0)), (1, .int x1), (2, .int x2), (3, .int x3), (4, .int x4), (5, .int x5), (6, .int y6), (7, .int x5)]) [1, 2, 3, 4, 5, 6, 7, 0] rfl ?_
            exact wX11_feed_78 hG C E hL23 M y6 x5 h
          · replace h := h.2 c7
            refine x_iload C dX11_feed_69 4 rfl ?_
            refine x_goto (tgt := 76) C dX11_feed_71 (by decide) ?_
            refine x_istore (lv' := [(7, .int x4), (0, .ref (ga G 11 0)), (1, .int x1), (2, .int x2), (3, .int x3), (4, .int x4), (5, .int x5), (6, .int y6)]) C dX11_feed_76 (Nat.le_of_ble_eq_true rfl) rfl ?_
            refine X_sub (lv' := [(0, .ref (ga G 11 0)), (1, .int x1), (2, .int x2), (3, .int x3), (4, .int x4), (5, .int x5), (6, .int y6), (7, .int x4)]) [1, 2, 3, 4, 5, 6, 7, 0] rfl ?_
            exact wX11_feed_78 hG C E hL23 M y6 x4 h
        · replace h := h.2 c6
          refine x_iload_n C dX11_feed_58 3 rfl ?_
          refine x_goto (tgt := 76) C dX11_feed_59 (by decide) ?_
          refine x_istore (lv' := [(7, .int x3), (0, .ref (ga G 11 0)), (1, .int x1), (2, .int x2), (3, .int x3), (4, .int x4), (5, .int x5), (6, .int y6)]) C dX11_feed_76 (Nat.le_of_ble_eq_true rfl) rfl ?_
          refine X_sub (lv' := [(0, .ref (ga G 11 0)), (1, .int x1), (2, .int x2), (3, .int x3), (4, .int x4), (5, .int x5), (6, .int y6), (7, .int x3)]) [1, 2, 3, 4, 5, 6, 7, 0] rfl ?_
          exact wX11_feed_78 hG C E hL23 M y6 x3 h
      · replace h := h.2 c5
        refine x_iload_n C dX11_feed_47 2 rfl ?_
        refine x_goto (tgt := 76) C dX11_feed_48 (by decide) ?_
        refine x_istore (lv' := [(7, .int x2), (0, .ref (ga G 11 0)), (1, .int x1), (2, .int x2), (3, .int x3), (4, .int x4), (5, .int x5), (6, .int y6)]) C dX11_feed_76 (Nat.le_of_ble_eq_true rfl) rfl ?_
        refine X_sub (lv' := [(0, .ref (ga G 11 0)), (1, .int x1), (2, .int x2), (3, .int x3), (4, .int x4), (5, .int x5), (6, .int y6), (7, .int x2)]) [1, 2, 3, 4, 5, 6, 7, 0] rfl ?_
        exact wX11_feed_78 hG C E hL23 M y6 x2 h
    · replace h := h.2 c4
      refine x_iload_n C dX11_feed_36 1 rfl ?_
      refine x_goto (tgt := 76) C dX11_feed_37 (by decide) ?_
      refine x_istore (lv' := [(7, .int x1), (0, .ref (ga G 11 0)), (1, .int x1), (2, .int x2), (3, .int x3), (4, .int x4), (5, .int x5), (6, .int y6)]) C dX11_feed_76 (Nat.le_of_ble_eq_true rfl) rfl ?_
      refine X_sub (lv' := [(0, .ref (ga G 11 0)), (1, .int x1), (2, .int x2), (3, .int x3), (4, .int x4), (5, .int x5), (6, .int y6), (7, .int x1)]) [1, 2, 3, 4, 5, 6, 7, 0] rfl ?_
      exact wX11_feed_78 hG C E hL23 M y6 x1 h
set_option maxRecDepth 100000 in
set_option maxHeartbeats 400000 in
theorem kX11_feed {l : Launch} {G : Gm} (hG : Gd G) (M : Mem) (x1 : Int32) (x2 : Int32) (x3 : Int32) (x4 : Int32) (x5 : Int32) {Q : Int32 → Mem → Prop} (h : pX11_feed M x1 x2 x3 x4 x5 Q) : Cti l G yX11_feed cX11_feed 8 .int rmX11_feed [.ref (ga G 11 0), .int x1, .int x2, .int x3, .int x4, .int x5] M Q := by
  refine cti_of (own := RX11) (by decide +kernel) rfl (Nat.le_of_ble_eq_true rfl) hG (fun Γ Qf hl C E => ?_)
  subst hl
  show X Γ G Qf 8 0 0 0 [(0, .ref (ga G 11 0)), (1, .int x1), (2, .int x2), (3, .int x3), (4, .int x4), (5, .int x5)] [] M
  unfold pX11_feed at h
  refine x_aload_n C dX11_feed_0 0 rfl ?_
  refine x_iconst (v := 0) C dX11_feed_1 rfl ?_
  refine pf_11_0 C q143 z11 dX11_feed_2 ?_
  refine X_nameM (fun M1 eM1 => ?_)
  replace h := h M1 eM1
  refine x_aload_n C dX11_feed_5 0 rfl ?_
  refine gf_11_2 C q145 z11 dX11_feed_6 ?_
  refine x_bipush (v := 20) C dX11_feed_9 rfl ?_
  refine x_iadd C dX11_feed_11 ?_
  refine x_sipush (v := 300) C dX11_feed_12 rfl ?_
  refine x_icmp_le (tgt := 20) C dX11_feed_15 (by decide) (fun c2 => ?_) (fun c2 => ?_)
  · replace h := h.1 c2
    refine x_iconst (v := 0) C dX11_feed_20 rfl ?_
    refine x_istore (lv' := [(6, .int 0), (0, .ref (ga G 11 0)), (1, .int x1), (2, .int x2), (3, .int x3), (4, .int x4), (5, .int x5)]) C dX11_feed_21 (Nat.le_of_ble_eq_true rfl) rfl ?_
    obtain ⟨n9, h⟩ := h
    refine X_sub (lv' := [(0, .ref (ga G 11 0)), (1, .int x1), (2, .int x2), (3, .int x3), (4, .int x4), (5, .int x5), (6, .int 0)]) [1, 2, 3, 4, 5, 6, 0] rfl ?_
    have hb : ∀ (L : Mem × Int32 → Prop) (s : Mem × Int32), (∀ t, L t → X Γ G Qf 8 0 0 23 [(0, .ref (ga G 11 0)), (1, .int x1), (2, .int x2), (3, .int x3), (4, .int x4), (5, .int x5), (6, .int t.2)] [] t.1) → bX11_feed_23 x1 x2 x3 x4 x5 Q L s.1 s.2 → X Γ G Qf 8 0 0 23 [(0, .ref (ga G 11 0)), (1, .int x1), (2, .int x2), (3, .int x3), (4, .int x4), (5, .int x5), (6, .int s.2)] [] s.1 := fun L s hL h => wX11_feed_23 hG C E hL s.1 s.2 h
    have w9 := lp_walk (P := fun s : Mem × Int32 => X Γ G Qf 8 0 0 23 [(0, .ref (ga G 11 0)), (1, .int x1), (2, .int x2), (3, .int x3), (4, .int x4), (5, .int x5), (6, .int s.2)] [] s.1) h hb
    dsimp only at w9
    exact w9
  · replace h := h.2 c2
    refine x_iconst (v := (-1)) C dX11_feed_18 rfl ?_
    exact x_iret C E h (Nat.le_of_ble_eq_true rfl) (Nat.le_of_ble_eq_true rfl) dX11_feed_19
def rmX11_byteAt : Room := { frames := 0, cells := 0, slots := 0, locals := 0 }
def pX11_byteAt (M : Mem) (x1 : Int32) (Q : Int32 → Mem → Prop) : Prop :=
  ((x1 < (M.1 1203 0 0) → vp_in x1 300 ∧ Q (M.1 1208 0 (tn x1)) M) ∧ (¬ x1 < (M.1 1203 0 0) → Q (-1) M))
set_option maxRecDepth 100000 in
set_option maxHeartbeats 400000 in
theorem kX11_byteAt {l : Launch} {G : Gm} (hG : Gd G) (M : Mem) (x1 : Int32) {Q : Int32 → Mem → Prop} (h : pX11_byteAt M x1 Q) : Cti l G yX11_byteAt cX11_byteAt 2 .int rmX11_byteAt [.ref (ga G 11 0), .int x1] M Q := by
  refine cti_of (own := RX11) (by decide +kernel) rfl (Nat.le_of_ble_eq_true rfl) hG (fun Γ Qf hl C E => ?_)
  subst hl
  show X Γ G Qf 2 0 0 0 [(0, .ref (ga G 11 0)), (1, .int x1)] [] M
  unfold pX11_byteAt at h
  refine x_iload_n C dX11_byteAt_0 1 rfl ?_
  refine x_aload_n C dX11_byteAt_1 0 rfl ?_
  refine gf_11_3 C q147 z11 dX11_byteAt_2 ?_
  refine x_icmp_lt (tgt := 12) C dX11_byteAt_5 (by decide) (fun c1 => ?_) (fun c1 => ?_)
  · replace h := h.1 c1
    refine x_aload_n C dX11_byteAt_12 0 rfl ?_
    refine gf_11_8 C q146 z11 dX11_byteAt_13 ?_
    refine x_iload_n C dX11_byteAt_16 1 rfl ?_
    obtain ⟨f2, h⟩ := h
    refine al_1208 C z1208 f2 dX11_byteAt_17 ?_
    exact x_iret C E h (Nat.le_of_ble_eq_true rfl) (Nat.le_of_ble_eq_true rfl) dX11_byteAt_18
  · replace h := h.2 c1
    refine x_iconst (v := (-1)) C dX11_byteAt_8 rfl ?_
    refine x_goto (tgt := 18) C dX11_byteAt_9 (by decide) ?_
    exact x_iret C E h (Nat.le_of_ble_eq_true rfl) (Nat.le_of_ble_eq_true rfl) dX11_byteAt_18
def rmX11_isSmall : Room := { frames := 0, cells := 0, slots := 0, locals := 0 }
def pX11_isSmall (M : Mem) (x1 : Int32) (Q : Int32 → Mem → Prop) : Prop :=
  ((x1 < 97 → Q 0 M) ∧ (¬ x1 < 97 → ((122 < x1 → Q 0 M) ∧ (¬ 122 < x1 → Q 1 M))))
set_option maxRecDepth 100000 in
set_option maxHeartbeats 400000 in
theorem kX11_isSmall {l : Launch} {G : Gm} (hG : Gd G) (M : Mem) (x1 : Int32) {Q : Int32 → Mem → Prop} (h : pX11_isSmall M x1 Q) : Cti l G yX11_isSmall cX11_isSmall 1 .boolean rmX11_isSmall [.int x1] M Q := by
  refine cti_of (own := RX11) (by decide +kernel) rfl (Nat.le_of_ble_eq_true rfl) hG (fun Γ Qf hl C E => ?_)
  subst hl
  show X Γ G Qf 1 0 0 0 [(0, .int x1)] [] M
  unfold pX11_isSmall at h
  refine x_iload_n C dX11_isSmall_0 0 rfl ?_
  refine x_bipush (v := 97) C dX11_isSmall_1 rfl ?_
  refine x_icmp_lt (tgt := 16) C dX11_isSmall_3 (by decide) (fun c1 => ?_) (fun c1 => ?_)
  · replace h := h.1 c1
    refine x_iconst (v := 0) C dX11_isSmall_16 rfl ?_
    exact x_zret C E h rfl (Nat.le_of_ble_eq_true rfl) (Nat.le_of_ble_eq_true rfl) dX11_isSmall_17
  · replace h := h.2 c1
    refine x_iload_n C dX11_isSmall_6 0 rfl ?_
    refine x_bipush (v := 122) C dX11_isSmall_7 rfl ?_
    refine x_icmp_gt (tgt := 16) C dX11_isSmall_9 (by decide) (fun c2 => ?_) (fun c2 => ?_)
    · replace h := h.1 c2
      refine x_iconst (v := 0) C dX11_isSmall_16 rfl ?_
      exact x_zret C E h rfl (Nat.le_of_ble_eq_true rfl) (Nat.le_of_ble_eq_true rfl) dX11_isSmall_17
    · replace h := h.2 c2
      refine x_iconst (v := 1) C dX11_isSmall_12 rfl ?_
      refine x_goto (tgt := 17) C dX11_isSmall_13 (by decide) ?_
      exact x_zret C E h rfl (Nat.le_of_ble_eq_true rfl) (Nat.le_of_ble_eq_true rfl) dX11_isSmall_17
def rmX11_wrong : Room := { frames := 0, cells := 0, slots := 0, locals := 0 }
def pX11_wrong (M : Mem) (x1 : Int32) (x2 : Int32) (Q : Mem → Prop) : Prop :=
  ((¬ (M.1 1206 0 0) = 0 → Q M) ∧ ((M.1 1206 0 0) = 0 → ∀ M2 : Mem, M2 = up1 M 1206 0 0 x1 → ∀ M3 : Mem, M3 = up1 M2 1207 0 0 x2 → Q M3))
set_option maxRecDepth 100000 in
set_option maxHeartbeats 400000 in
theorem kX11_wrong {l : Launch} {G : Gm} (hG : Gd G) (M : Mem) (x1 : Int32) (x2 : Int32) {Q : Mem → Prop} (h : pX11_wrong M x1 x2 Q) : Ctv l G yX11_wrong cX11_wrong 3 rmX11_wrong [.ref (ga G 11 0), .int x1, .int x2] M Q := by
  refine ctv_of (own := RX11) (by decide +kernel) rfl (Nat.le_of_ble_eq_true rfl) hG (fun Γ Qf hl C E => ?_)
  subst hl
  show X Γ G Qf 3 0 0 0 [(0, .ref (ga G 11 0)), (1, .int x1), (2, .int x2)] [] M
  unfold pX11_wrong at h
  refine x_aload_n C dX11_wrong_0 0 rfl ?_
  refine gf_11_6 C q148 z11 dX11_wrong_1 ?_
  refine x_if_ne (tgt := 17) C dX11_wrong_4 (by decide) (fun c1 => ?_) (fun c1 => ?_)
  · replace h := h.1 c1
    exact x_vret C E h (Nat.le_of_ble_eq_true rfl) (Nat.le_of_ble_eq_true rfl) dX11_wrong_17
  · replace h := h.2 c1
    refine x_aload_n C dX11_wrong_7 0 rfl ?_
    refine x_iload_n C dX11_wrong_8 1 rfl ?_
    refine pf_11_6 C q148 z11 dX11_wrong_9 ?_
    refine X_nameM (fun M2 eM2 => ?_)
    replace h := h M2 eM2
    refine x_aload_n C dX11_wrong_12 0 rfl ?_
    refine x_iload_n C dX11_wrong_13 2 rfl ?_
    refine pf_11_7 C q149 z11 dX11_wrong_14 ?_
    refine X_nameM (fun M3 eM3 => ?_)
    replace h := h M3 eM3
    exact x_vret C E h (Nat.le_of_ble_eq_true rfl) (Nat.le_of_ble_eq_true rfl) dX11_wrong_17
def rmX11_fine : Room := { frames := 0, cells := 0, slots := 0, locals := 0 }
def pX11_fine (M : Mem) (Q : Int32 → Mem → Prop) : Prop :=
  ((¬ (M.1 1206 0 0) = 0 → Q 0 M) ∧ ((M.1 1206 0 0) = 0 → Q 1 M))
set_option maxRecDepth 100000 in
set_option maxHeartbeats 400000 in
theorem kX11_fine {l : Launch} {G : Gm} (hG : Gd G) (M : Mem)  {Q : Int32 → Mem → Prop} (h : pX11_fine M Q) : Cti l G yX11_fine cX11_fine 1 .boolean rmX11_fine [.ref (ga G 11 0)] M Q := by
  refine cti_of (own := RX11) (by decide +kernel) rfl (Nat.le_of_ble_eq_true rfl) hG (fun Γ Qf hl C E => ?_)
  subst hl
  show X Γ G Qf 1 0 0 0 [(0, .ref (ga G 11 0))] [] M
  unfold pX11_fine at h
  refine x_aload_n C dX11_fine_0 0 rfl ?_
  refine gf_11_6 C q148 z11 dX11_fine_1 ?_
  refine x_if_ne (tgt := 11) C dX11_fine_4 (by decide) (fun c1 => ?_) (fun c1 => ?_)
  · replace h := h.1 c1
    refine x_iconst (v := 0) C dX11_fine_11 rfl ?_
    exact x_zret C E h rfl (Nat.le_of_ble_eq_true rfl) (Nat.le_of_ble_eq_true rfl) dX11_fine_12
  · replace h := h.2 c1
    refine x_iconst (v := 1) C dX11_fine_7 rfl ?_
    refine x_goto (tgt := 12) C dX11_fine_8 (by decide) ?_
    exact x_zret C E h rfl (Nat.le_of_ble_eq_true rfl) (Nat.le_of_ble_eq_true rfl) dX11_fine_12
def rmX11_starts : Room := { frames := 0, cells := 0, slots := 0, locals := 0 }
def pX11_starts (M : Mem) (x1 : Int32) (Q : Mem → Prop) : Prop :=
  ∀ M1 : Mem, M1 = up1 M 1202 0 0 0 → ∀ M2 : Mem, M2 = up1 M1 1203 0 0 x1 → ∀ M3 : Mem, M3 = up1 M2 1204 0 0 0 → ∀ M4 : Mem, M4 = up1 M3 1206 0 0 0 → ∀ M5 : Mem, M5 = up1 M4 1207 0 0 (-1) → Q M5
set_option maxRecDepth 100000 in
set_option maxHeartbeats 400000 in
theorem kX11_starts {l : Launch} {G : Gm} (hG : Gd G) (M : Mem) (x1 : Int32) {Q : Mem → Prop} (h : pX11_starts M x1 Q) : Ctv l G yX11_starts cX11_starts 2 rmX11_starts [.ref (ga G 11 0), .int x1] M Q := by
  refine ctv_of (own := RX11) (by decide +kernel) rfl (Nat.le_of_ble_eq_true rfl) hG (fun Γ Qf hl C E => ?_)
  subst hl
  show X Γ G Qf 2 0 0 0 [(0, .ref (ga G 11 0)), (1, .int x1)] [] M
  unfold pX11_starts at h
  refine x_aload_n C dX11_starts_0 0 rfl ?_
  refine x_iconst (v := 0) C dX11_starts_1 rfl ?_
  refine pf_11_2 C q145 z11 dX11_starts_2 ?_
  refine X_nameM (fun M1 eM1 => ?_)
  replace h := h M1 eM1
  refine x_aload_n C dX11_starts_5 0 rfl ?_
  refine x_iload_n C dX11_starts_6 1 rfl ?_
  refine pf_11_3 C q147 z11 dX11_starts_7 ?_
  refine X_nameM (fun M2 eM2 => ?_)
  replace h := h M2 eM2
  refine x_aload_n C dX11_starts_10 0 rfl ?_
  refine x_iconst (v := 0) C dX11_starts_11 rfl ?_
  refine pf_11_4 C q150 z11 dX11_starts_12 ?_
  refine X_nameM (fun M3 eM3 => ?_)
  replace h := h M3 eM3
  refine x_aload_n C dX11_starts_15 0 rfl ?_
  refine x_iconst (v := 0) C dX11_starts_16 rfl ?_
  refine pf_11_6 C q148 z11 dX11_starts_17 ?_
  refine X_nameM (fun M4 eM4 => ?_)
  replace h := h M4 eM4
  refine x_aload_n C dX11_starts_20 0 rfl ?_
  refine x_iconst (v := (-1)) C dX11_starts_21 rfl ?_
  refine pf_11_7 C q149 z11 dX11_starts_22 ?_
  refine X_nameM (fun M5 eM5 => ?_)
  replace h := h M5 eM5
  exact x_vret C E h (Nat.le_of_ble_eq_true rfl) (Nat.le_of_ble_eq_true rfl) dX11_starts_25
def rmX11_blanks : Room := { frames := 1, cells := 0, slots := 0, locals := 21 }
def bX11_blanks_0 (Q : Int32 → Mem → Prop) (L0 : Mem → Prop) (M : Mem) : Prop :=
  pX11_byteAt M (M.1 1204 0 0) (fun r1 M2 => ((¬ r1 = 32 → pX11_byteAt M2 (M2.1 1204 0 0) (fun r4 M5 => Q r4 M5)) ∧ (r1 = 32 → ∀ M6 : Mem, M6 = up1 M2 1204 0 0 ((M2.1 1204 0 0) + 1) → L0 M6)))
def pX11_blanks (M : Mem) (Q : Int32 → Mem → Prop) : Prop :=
  ∃ n : Nat, lp (fun L s => bX11_blanks_0 Q L s) n M
set_option maxRecDepth 100000 in
set_option maxHeartbeats 400000 in
theorem wX11_blanks_0 {Γ : Gam} {G : Gm} {Qf : State → Prop} (hG : Gd G) (C : Cx Γ G cX11_blanks 1 RX11 (some .int) rmX11_blanks)  {Q : Int32 → Mem → Prop} (E : EndI Γ G Qf rmX11_blanks Q) {L0 : Mem → Prop} (hL0 : ∀ s, L0 s → X Γ G Qf 1 0 0 0 [(0, .ref (ga G 11 0))] [] s) (M : Mem) (h : bX11_blanks_0 Q L0 M) : X Γ G Qf 1 0 0 0 [(0, .ref (ga G 11 0))] [] M := by
  unfold bX11_blanks_0 at h
  refine x_aload_n C dX11_blanks_0 0 rfl ?_
  refine x_aload_n C dX11_blanks_1 0 rfl ?_
  refine gf_11_4 C q150 z11 dX11_blanks_2 ?_
  refine x_calli (rest := []) C sv_X11_135 ob11 z11 (kX11_byteAt hG _ _ h) rfl rfl (Nat.le_of_ble_eq_true rfl) ⟨Nat.le_of_ble_eq_true rfl, Nat.le_of_ble_eq_true rfl⟩ rfl rfl ⟨Nat.le_of_ble_eq_true rfl, Nat.le_of_ble_eq_true rfl⟩ dX11_blanks_5 (fun r1 M2 h => ?_)
  refine x_bipush (v := 32) C dX11_blanks_8 rfl ?_
  refine x_icmp_ne (tgt := 26) C dX11_blanks_10 (by decide) (fun c3 => ?_) (fun c3 => ?_)
  · replace h := h.1 c3
    refine x_aload_n C dX11_blanks_26 0 rfl ?_
    refine x_aload_n C dX11_blanks_27 0 rfl ?_
    refine gf_11_4 C q150 z11 dX11_blanks_28 ?_
    refine x_calli (rest := []) C sv_X11_135 ob11 z11 (kX11_byteAt hG _ _ h) rfl rfl (Nat.le_of_ble_eq_true rfl) ⟨Nat.le_of_ble_eq_true rfl, Nat.le_of_ble_eq_true rfl⟩ rfl rfl ⟨Nat.le_of_ble_eq_true rfl, Nat.le_of_ble_eq_true rfl⟩ dX11_blanks_31 (fun r4 M5 h => ?_)
    exact x_iret C E h (Nat.le_of_ble_eq_true rfl) (Nat.le_of_ble_eq_true rfl) dX11_blanks_34
  · replace h := h.2 c3
    refine x_aload_n C dX11_blanks_13 0 rfl ?_
    refine x_dup C dX11_blanks_14 rfl ?_
    refine gf_11_4 C q150 z11 dX11_blanks_15 ?_
    refine x_iconst (v := 1) C dX11_blanks_18 rfl ?_
    refine x_iadd C dX11_blanks_19 ?_
    refine pf_11_4 C q150 z11 dX11_blanks_20 ?_
    refine X_nameM (fun M6 eM6 => ?_)
    replace h := h M6 eM6
    refine x_goto (tgt := 0) C dX11_blanks_23 (by decide) ?_
    refine X_sub (lv' := [(0, .ref (ga G 11 0))]) [0] rfl ?_
    have w9 := hL0 M6 h
    exact w9
set_option maxRecDepth 100000 in
set_option maxHeartbeats 400000 in
theorem kX11_blanks {l : Launch} {G : Gm} (hG : Gd G) (M : Mem)  {Q : Int32 → Mem → Prop} (h : pX11_blanks M Q) : Cti l G yX11_blanks cX11_blanks 1 .int rmX11_blanks [.ref (ga G 11 0)] M Q := by
  refine cti_of (own := RX11) (by decide +kernel) rfl (Nat.le_of_ble_eq_true rfl) hG (fun Γ Qf hl C E => ?_)
  subst hl
  show X Γ G Qf 1 0 0 0 [(0, .ref (ga G 11 0))] [] M
  unfold pX11_blanks at h
  obtain ⟨n9, h⟩ := h
  refine X_sub (lv' := [(0, .ref (ga G 11 0))]) [0] rfl ?_
  have hb : ∀ (L : Mem → Prop) (s : Mem), (∀ t, L t → X Γ G Qf 1 0 0 0 [(0, .ref (ga G 11 0))] [] t) → bX11_blanks_0 Q L s → X Γ G Qf 1 0 0 0 [(0, .ref (ga G 11 0))] [] s := fun L s hL h => wX11_blanks_0 hG C E hL s h
  have w9 := lp_walk (P := fun s : Mem => X Γ G Qf 1 0 0 0 [(0, .ref (ga G 11 0))] [] s) h hb
  exact w9
def rmX11_readsWord : Room := { frames := 1, cells := 0, slots := 0, locals := 22 }
def bX11_readsWord_72 (Q : Mem → Prop) (L33 : Mem → Prop) (M : Mem) : Prop :=
  pX11_byteAt M (M.1 1204 0 0) (fun r21 M22 => ∀ M23 : Mem, M23 = up2 M22 1231 0 0 ((((27 * (M.2 1231 0 0)) + (Int32.toInt64 r21)) - 97) + 1) → ∀ M24 : Mem, M24 = up1 M23 1232 0 0 ((M23.1 1232 0 0) + 1) → ∀ M25 : Mem, M25 = up1 M24 1204 0 0 ((M24.1 1204 0 0) + 1) → L33 M25)
def bX11_readsWord_33 (Q : Mem → Prop) (L33 : Mem → Prop) (M : Mem) : Prop :=
  pX11_fine M (fun r10 M11 => ((r10 = 0 → Q M11) ∧ (¬ r10 = 0 → pX11_byteAt M11 (M11.1 1204 0 0) (fun r13 M14 => pX11_isSmall M14 r13 (fun r15 M16 => ((r15 = 0 → Q M16) ∧ (¬ r15 = 0 → ((¬ (M16.1 1232 0 0) = 8 → bX11_readsWord_72 Q L33 M16) ∧ ((M16.1 1232 0 0) = 8 → pX11_wrong M16 1 (M16.1 1204 0 0) (fun M20 => bX11_readsWord_72 Q L33 M20))))))))))
def pX11_readsWord (M : Mem) (Q : Mem → Prop) : Prop :=
  ∀ M1 : Mem, M1 = up2 M 1231 0 0 0 → ∀ M2 : Mem, M2 = up1 M1 1232 0 0 0 → pX11_byteAt M2 (M2.1 1204 0 0) (fun r3 M4 => pX11_isSmall M4 r3 (fun r5 M6 => ((¬ r5 = 0 → ∃ n : Nat, lp (fun L s => bX11_readsWord_33 Q L s) n M6) ∧ (r5 = 0 → pX11_wrong M6 1 (M6.1 1204 0 0) (fun M9 => ∃ n : Nat, lp (fun L s => bX11_readsWord_33 Q L s) n M9)))))
set_option maxRecDepth 100000 in
set_option maxHeartbeats 400000 in
theorem wX11_readsWord_72 {Γ : Gam} {G : Gm} {Qf : State → Prop} (hG : Gd G) (C : Cx Γ G cX11_readsWord 1 RX11 none rmX11_readsWord)  {Q : Mem → Prop} (E : EndV Γ G Qf rmX11_readsWord Q) {L33 : Mem → Prop} (hL33 : ∀ s, L33 s → X Γ G Qf 1 0 0 33 [(0, .ref (ga G 11 0))] [] s) (M : Mem) (h : bX11_readsWord_72 Q L33 M) : X Γ G Qf 1 0 0 72 [(0, .ref (ga G 11 0))] [] M := by
  unfold bX11_readsWord_72 at h
  refine x_aload_n C dX11_readsWord_72 0 rfl ?_
  refine x_ldc2 C q153 dX11_readsWord_73 ?_
  refine x_aload_n C dX11_readsWord_76 0 rfl ?_
  refine gf_11_31 C q151 z11 dX11_readsWord_77 ?_
  refine x_lmul C dX11_readsWord_80 ?_
  refine x_aload_n C dX11_readsWord_81 0 rfl ?_
  refine x_aload_n C dX11_readsWord_82 0 rfl ?_
  refine gf_11_4 C q150 z11 dX11_readsWord_83 ?_
  refine x_calli (rest := [.long (27 * (M.2 1231 0 0)), .ref (ga G 11 0)]) C sv_X11_135 ob11 z11 (kX11_byteAt hG _ _ h) rfl rfl (Nat.le_of_ble_eq_true rfl) ⟨Nat.le_of_ble_eq_true rfl, Nat.le_of_ble_eq_true rfl⟩ rfl rfl ⟨Nat.le_of_ble_eq_true rfl, Nat.le_of_ble_eq_true rfl⟩ dX11_readsWord_86 (fun r21 M22 h => ?_)
  refine x_i2l C dX11_readsWord_89 ?_
  refine x_ladd C dX11_readsWord_90 ?_
  refine x_ldc2 C q154 dX11_readsWord_91 ?_
  refine x_lsub C dX11_readsWord_94 ?_
  refine x_lconst (v := 1) C dX11_readsWord_95 rfl ?_
  refine x_ladd C dX11_readsWord_96 ?_
  refine pf_11_31 C q151 z11 dX11_readsWord_97 ?_
  refine X_nameM (fun M23 eM23 => ?_)
  replace h := h M23 eM23
  refine x_aload_n C dX11_readsWord_100 0 rfl ?_
  refine x_dup C dX11_readsWord_101 rfl ?_
  refine gf_11_32 C q152 z11 dX11_readsWord_102 ?_
  refine x_iconst (v := 1) C dX11_readsWord_105 rfl ?_
  refine x_iadd C dX11_readsWord_106 ?_
  refine pf_11_32 C q152 z11 dX11_readsWord_107 ?_
  refine X_nameM (fun M24 eM24 => ?_)
  replace h := h M24 eM24
  refine x_aload_n C dX11_readsWord_110 0 rfl ?_
  refine x_dup C dX11_readsWord_111 rfl ?_
  refine gf_11_4 C q150 z11 dX11_readsWord_112 ?_
  refine x_iconst (v := 1) C dX11_readsWord_115 rfl ?_
  refine x_iadd C dX11_readsWord_116 ?_
  refine pf_11_4 C q150 z11 dX11_readsWord_117 ?_
  refine X_nameM (fun M25 eM25 => ?_)
  replace h := h M25 eM25
  refine x_goto (tgt := 33) C dX11_readsWord_120 (by decide) ?_
  refine X_sub (lv' := [(0, .ref (ga G 11 0))]) [0] rfl ?_
  have w9 := hL33 M25 h
  exact w9
set_option maxRecDepth 100000 in
set_option maxHeartbeats 400000 in
theorem wX11_readsWord_33 {Γ : Gam} {G : Gm} {Qf : State → Prop} (hG : Gd G) (C : Cx Γ G cX11_readsWord 1 RX11 none rmX11_readsWord)  {Q : Mem → Prop} (E : EndV Γ G Qf rmX11_readsWord Q) {L33 : Mem → Prop} (hL33 : ∀ s, L33 s → X Γ G Qf 1 0 0 33 [(0, .ref (ga G 11 0))] [] s) (M : Mem) (h : bX11_readsWord_33 Q L33 M) : X Γ G Qf 1 0 0 33 [(0, .ref (ga G 11 0))] [] M := by
  unfold bX11_readsWord_33 at h
  refine x_aload_n C dX11_readsWord_33 0 rfl ?_
  refine x_calli (rest := []) C sv_X11_154 ob11 z11 (kX11_fine hG _ h) rfl rfl (Nat.le_of_ble_eq_true rfl) ⟨Nat.le_of_ble_eq_true rfl, Nat.le_of_ble_eq_true rfl⟩ rfl rfl ⟨Nat.le_of_ble_eq_true rfl, Nat.le_of_ble_eq_true rfl⟩ dX11_readsWord_34 (fun r10 M11 h => ?_)
  refine x_if_eq (tgt := 123) C dX11_readsWord_37 (by decide) (fun c12 => ?_) (fun c12 => ?_)
  · replace h := h.1 c12
    exact x_vret C E h (Nat.le_of_ble_eq_true rfl) (Nat.le_of_ble_eq_true rfl) dX11_readsWord_123
  · replace h := h.2 c12
    refine x_aload_n C dX11_readsWord_40 0 rfl ?_
    refine x_aload_n C dX11_readsWord_41 0 rfl ?_
    refine gf_11_4 C q150 z11 dX11_readsWord_42 ?_
    refine x_calli (rest := []) C sv_X11_135 ob11 z11 (kX11_byteAt hG _ _ h) rfl rfl (Nat.le_of_ble_eq_true rfl) ⟨Nat.le_of_ble_eq_true rfl, Nat.le_of_ble_eq_true rfl⟩ rfl rfl ⟨Nat.le_of_ble_eq_true rfl, Nat.le_of_ble_eq_true rfl⟩ dX11_readsWord_45 (fun r13 M14 h => ?_)
    refine x_scalli (rest := []) C ss_X11_146 (kX11_isSmall hG _ _ h) rfl rfl (Nat.le_of_ble_eq_true rfl) ⟨Nat.le_of_ble_eq_true rfl, Nat.le_of_ble_eq_true rfl⟩ rfl rfl ⟨Nat.le_of_ble_eq_true rfl, Nat.le_of_ble_eq_true rfl⟩ dX11_readsWord_48 (fun r15 M16 h => ?_)
    refine x_if_eq (tgt := 123) C dX11_readsWord_51 (by decide) (fun c17 => ?_) (fun c17 => ?_)
    · replace h := h.1 c17
      exact x_vret C E h (Nat.le_of_ble_eq_true rfl) (Nat.le_of_ble_eq_true rfl) dX11_readsWord_123
    · replace h := h.2 c17
      refine x_aload_n C dX11_readsWord_54 0 rfl ?_
      refine gf_11_32 C q152 z11 dX11_readsWord_55 ?_
      refine x_bipush (v := 8) C dX11_readsWord_58 rfl ?_
      refine x_icmp_ne (tgt := 72) C dX11_readsWord_60 (by decide) (fun c18 => ?_) (fun c18 => ?_)
      · replace h := h.1 c18
        refine X_sub (lv' := [(0, .ref (ga G 11 0))]) [0] rfl ?_
        exact wX11_readsWord_72 hG C E hL33 M16 h
      · replace h := h.2 c18
        refine x_aload_n C dX11_readsWord_63 0 rfl ?_
        refine x_iconst (v := 1) C dX11_readsWord_64 rfl ?_
        refine x_aload_n C dX11_readsWord_65 0 rfl ?_
        refine gf_11_4 C q150 z11 dX11_readsWord_66 ?_
        refine x_callv (rest := []) C sv_X11_150 ob11 z11 (kX11_wrong hG _ _ _ h) rfl rfl (Nat.le_of_ble_eq_true rfl) ⟨Nat.le_of_ble_eq_true rfl, Nat.le_of_ble_eq_true rfl⟩ rfl rfl ⟨Nat.le_of_ble_eq_true rfl, Nat.le_of_ble_eq_true rfl⟩ dX11_readsWord_69 (fun M20 h => ?_)
        refine X_sub (lv' := [(0, .ref (ga G 11 0))]) [0] rfl ?_
        exact wX11_readsWord_72 hG C E hL33 M20 h
set_option maxRecDepth 100000 in
set_option maxHeartbeats 400000 in
theorem kX11_readsWord {l : Launch} {G : Gm} (hG : Gd G) (M : Mem)  {Q : Mem → Prop} (h : pX11_readsWord M Q) : Ctv l G yX11_readsWord cX11_readsWord 1 rmX11_readsWord [.ref (ga G 11 0)] M Q := by
  refine ctv_of (own := RX11) (by decide +kernel) rfl (Nat.le_of_ble_eq_true rfl) hG (fun Γ Qf hl C E => ?_)
  subst hl
  show X Γ G Qf 1 0 0 0 [(0, .ref (ga G 11 0))] [] M
  unfold pX11_readsWord at h
  refine x_aload_n C dX11_readsWord_0 0 rfl ?_
  refine x_lconst (v := 0) C dX11_readsWord_1 rfl ?_
  refine pf_11_31 C q151 z11 dX11_readsWord_2 ?_
  refine X_nameM (fun M1 eM1 => ?_)
  replace h := h M1 eM1
  refine x_aload_n C dX11_readsWord_5 0 rfl ?_
  refine x_iconst (v := 0) C dX11_readsWord_6 rfl ?_
  refine pf_11_32 C q152 z11 dX11_readsWord_7 ?_
  refine X_nameM (fun M2 eM2 => ?_)
  replace h := h M2 eM2
  refine x_aload_n C dX11_readsWord_10 0 rfl ?_
  refine x_aload_n C dX11_readsWord_11 0 rfl ?_
  refine gf_11_4 C q150 z11 dX11_readsWord_12 ?_
  refine x_calli (rest := []) C sv_X11_135 ob11 z11 (kX11_byteAt hG _ _ h) rfl rfl (Nat.le_of_ble_eq_true rfl) ⟨Nat.le_of_ble_eq_true rfl, Nat.le_of_ble_eq_true rfl⟩ rfl rfl ⟨Nat.le_of_ble_eq_true rfl, Nat.le_of_ble_eq_true rfl⟩ dX11_readsWord_15 (fun r3 M4 h => ?_)
  refine x_scalli (rest := []) C ss_X11_146 (kX11_isSmall hG _ _ h) rfl rfl (Nat.le_of_ble_eq_true rfl) ⟨Nat.le_of_ble_eq_true rfl, Nat.le_of_ble_eq_true rfl⟩ rfl rfl ⟨Nat.le_of_ble_eq_true rfl, Nat.le_of_ble_eq_true rfl⟩ dX11_readsWord_18 (fun r5 M6 h => ?_)
  refine x_if_ne (tgt := 33) C dX11_readsWord_21 (by decide) (fun c7 => ?_) (fun c7 => ?_)
  · replace h := h.1 c7
    obtain ⟨n9, h⟩ := h
    refine X_sub (lv' := [(0, .ref (ga G 11 0))]) [0] rfl ?_
    have hb : ∀ (L : Mem → Prop) (s : Mem), (∀ t, L t → X Γ G Qf 1 0 0 33 [(0, .ref (ga G 11 0))] [] t) → bX11_readsWord_33 Q L s → X Γ G Qf 1 0 0 33 [(0, .ref (ga G 11 0))] [] s := fun L s hL h => wX11_readsWord_33 hG C E hL s h
    have w9 := lp_walk (P := fun s : Mem => X Γ G Qf 1 0 0 33 [(0, .ref (ga G 11 0))] [] s) h hb
    exact w9
  · replace h := h.2 c7
    refine x_aload_n C dX11_readsWord_24 0 rfl ?_
    refine x_iconst (v := 1) C dX11_readsWord_25 rfl ?_
    refine x_aload_n C dX11_readsWord_26 0 rfl ?_
    refine gf_11_4 C q150 z11 dX11_readsWord_27 ?_
    refine x_callv (rest := []) C sv_X11_150 ob11 z11 (kX11_wrong hG _ _ _ h) rfl rfl (Nat.le_of_ble_eq_true rfl) ⟨Nat.le_of_ble_eq_true rfl, Nat.le_of_ble_eq_true rfl⟩ rfl rfl ⟨Nat.le_of_ble_eq_true rfl, Nat.le_of_ble_eq_true rfl⟩ dX11_readsWord_30 (fun M9 h => ?_)
    obtain ⟨n9, h⟩ := h
    refine X_sub (lv' := [(0, .ref (ga G 11 0))]) [0] rfl ?_
    have hb : ∀ (L : Mem → Prop) (s : Mem), (∀ t, L t → X Γ G Qf 1 0 0 33 [(0, .ref (ga G 11 0))] [] t) → bX11_readsWord_33 Q L s → X Γ G Qf 1 0 0 33 [(0, .ref (ga G 11 0))] [] s := fun L s hL h => wX11_readsWord_33 hG C E hL s h
    have w9 := lp_walk (P := fun s : Mem => X Γ G Qf 1 0 0 33 [(0, .ref (ga G 11 0))] [] s) h hb
    exact w9
def rmX11_seek : Room := { frames := 0, cells := 0, slots := 0, locals := 0 }
def bX11_seek_2 (Q : Int32 → Mem → Prop) (L2 : Mem × Int32 → Prop) (M : Mem) (y1 : Int32) : Prop :=
  (((M.1 1210 0 0) ≤ y1 → Q (-1) M) ∧ (¬ (M.1 1210 0 0) ≤ y1 → vp_in y1 256 ∧ ((¬ (lg_cmp (M.2 1216 0 (tn y1)) (M.2 1231 0 0)) = 0 → ∀ v4 : Int32, v4 = y1 + 1 → L2 (M, v4)) ∧ ((lg_cmp (M.2 1216 0 (tn y1)) (M.2 1231 0 0)) = 0 → Q y1 M))))
def pX11_seek (M : Mem) (Q : Int32 → Mem → Prop) : Prop :=
  ∃ n : Nat, lp (fun L s => bX11_seek_2 Q L s.1 s.2) n (M, 0)
set_option maxRecDepth 100000 in
set_option maxHeartbeats 400000 in
theorem wX11_seek_2 {Γ : Gam} {G : Gm} {Qf : State → Prop} (hG : Gd G) (C : Cx Γ G cX11_seek 2 RX11 (some .int) rmX11_seek)  {Q : Int32 → Mem → Prop} (E : EndI Γ G Qf rmX11_seek Q) {L2 : Mem × Int32 → Prop} (hL2 : ∀ s, L2 s → X Γ G Qf 2 0 0 2 [(0, .ref (ga G 11 0)), (1, .int s.2)] [] s.1) (M : Mem) (y1 : Int32) (h : bX11_seek_2 Q L2 M y1) : X Γ G Qf 2 0 0 2 [(0, .ref (ga G 11 0)), (1, .int y1)] [] M := by
  unfold bX11_seek_2 at h
  refine x_iload_n C dX11_seek_2 1 rfl ?_
  refine x_aload_n C dX11_seek_3 0 rfl ?_
  refine gf_11_10 C q155 z11 dX11_seek_4 ?_
  refine x_icmp_ge (tgt := 32) C dX11_seek_7 (by decide) (fun c1 => ?_) (fun c1 => ?_)
  · replace h := h.1 c1
    refine x_iconst (v := (-1)) C dX11_seek_32 rfl ?_
    exact x_iret C E h (Nat.le_of_ble_eq_true rfl) (Nat.le_of_ble_eq_true rfl) dX11_seek_33
  · replace h := h.2 c1
    refine x_aload_n C dX11_seek_10 0 rfl ?_
    refine gf_11_16 C q156 z11 dX11_seek_11 ?_
    refine x_iload_n C dX11_seek_14 1 rfl ?_
    obtain ⟨f2, h⟩ := h
    refine al_1216 C z1216 f2 dX11_seek_15 ?_
    refine x_aload_n C dX11_seek_16 0 rfl ?_
    refine gf_11_31 C q151 z11 dX11_seek_17 ?_
    refine x_lcmp C dX11_seek_20 ?_
    refine x_if_ne (tgt := 26) C dX11_seek_21 (by decide) (fun c3 => ?_) (fun c3 => ?_)
    · replace h := h.1 c3
      obtain ⟨v4, ev4⟩ : ∃ z : Int32, z = y1 + 1 := ⟨_, rfl⟩
      replace h := h v4 ev4
      refine x_iinc (v := v4) (lv' := [(1, .int v4), (0, .ref (ga G 11 0))]) (j := 1) C dX11_seek_26 rfl (by rw [ev4]; rfl) (Nat.le_of_ble_eq_true rfl) rfl ?_
      refine x_goto (tgt := 2) C dX11_seek_29 (by decide) ?_
      refine X_sub (lv' := [(0, .ref (ga G 11 0)), (1, .int v4)]) [1, 0] rfl ?_
      have w9 := hL2 (M, v4) h
      dsimp only at w9
      exact w9
    · replace h := h.2 c3
      refine x_iload_n C dX11_seek_24 1 rfl ?_
      exact x_iret C E h (Nat.le_of_ble_eq_true rfl) (Nat.le_of_ble_eq_true rfl) dX11_seek_25
set_option maxRecDepth 100000 in
set_option maxHeartbeats 400000 in
theorem kX11_seek {l : Launch} {G : Gm} (hG : Gd G) (M : Mem)  {Q : Int32 → Mem → Prop} (h : pX11_seek M Q) : Cti l G yX11_seek cX11_seek 2 .int rmX11_seek [.ref (ga G 11 0)] M Q := by
  refine cti_of (own := RX11) (by decide +kernel) rfl (Nat.le_of_ble_eq_true rfl) hG (fun Γ Qf hl C E => ?_)
  subst hl
  show X Γ G Qf 2 0 0 0 [(0, .ref (ga G 11 0))] [] M
  unfold pX11_seek at h
  refine x_iconst (v := 0) C dX11_seek_0 rfl ?_
  refine x_istore_n (lv' := [(1, .int 0), (0, .ref (ga G 11 0))]) C dX11_seek_1 rfl (Nat.le_of_ble_eq_true rfl) rfl ?_
  obtain ⟨n9, h⟩ := h
  refine X_sub (lv' := [(0, .ref (ga G 11 0)), (1, .int 0)]) [1, 0] rfl ?_
  have hb : ∀ (L : Mem × Int32 → Prop) (s : Mem × Int32), (∀ t, L t → X Γ G Qf 2 0 0 2 [(0, .ref (ga G 11 0)), (1, .int t.2)] [] t.1) → bX11_seek_2 Q L s.1 s.2 → X Γ G Qf 2 0 0 2 [(0, .ref (ga G 11 0)), (1, .int s.2)] [] s.1 := fun L s hL h => wX11_seek_2 hG C E hL s.1 s.2 h
  have w9 := lp_walk (P := fun s : Mem × Int32 => X Γ G Qf 2 0 0 2 [(0, .ref (ga G 11 0)), (1, .int s.2)] [] s.1) h hb
  dsimp only at w9
  exact w9
def rmX11_readsNext : Room := { frames := 2, cells := 0, slots := 0, locals := 42 }
def bX11_readsNext_121 (x1 : Int32) (x2 : Int32) (Q : Mem → Prop) (M : Mem) (y4 : Int32) : Prop :=
  vp_in x1 64 ∧ vp_in x2 150 ∧ ∀ M30 : Mem, M30 = up1 M 6212 (tn x1) (tn x2) y4 → Q M30
def bX11_readsNext_69 (x1 : Int32) (x2 : Int32) (Q : Mem → Prop) (M : Mem) (y4 : Int32) : Prop :=
  pX11_fine M (fun r19 M20 => ((¬ r19 = 0 → ((¬ y4 = (-1) → bX11_readsNext_121 x1 x2 Q M20 y4) ∧ (y4 = (-1) → ∀ v23 : Int32, v23 = (M20.1 1210 0 0) → vp_in v23 256 ∧ ∀ M25 : Mem, M25 = up2 M20 1216 0 (tn v23) (M20.2 1231 0 0) → ∀ M26 : Mem, M26 = up1 M25 1215 0 (tn v23) (M25.1 1232 0 0) → ∀ M27 : Mem, M27 = up1 M26 1210 0 0 ((M26.1 1210 0 0) + 1) → bX11_readsNext_121 x1 x2 Q M27 v23))) ∧ (r19 = 0 → Q M20)))
def bX11_readsNext_21 (x1 : Int32) (x2 : Int32) (Q : Mem → Prop) (M : Mem) (y3 : Int32) : Prop :=
  pX11_fine M (fun r5 M6 => ((¬ r5 = 0 → pX11_readsWord M6 (fun M9 => pX11_fine M9 (fun r10 M11 => ((¬ r10 = 0 → pX11_seek M11 (fun r13 M14 => ((¬ r13 = (-1) → bX11_readsNext_69 x1 x2 Q M14 r13) ∧ (r13 = (-1) → ((¬ (M14.1 1210 0 0) = 255 → bX11_readsNext_69 x1 x2 Q M14 r13) ∧ ((M14.1 1210 0 0) = 255 → pX11_wrong M14 2 y3 (fun M18 => bX11_readsNext_69 x1 x2 Q M18 r13))))))) ∧ (r10 = 0 → Q M11))))) ∧ (r5 = 0 → Q M6)))
def pX11_readsNext (M : Mem) (x1 : Int32) (x2 : Int32) (Q : Mem → Prop) : Prop :=
  ∀ v1 : Int32, v1 = (M.1 1204 0 0) → ((¬ x2 = 150 → bX11_readsNext_21 x1 x2 Q M v1) ∧ (x2 = 150 → pX11_wrong M 2 (M.1 1204 0 0) (fun M4 => bX11_readsNext_21 x1 x2 Q M4 v1)))
set_option maxRecDepth 100000 in
set_option maxHeartbeats 400000 in
theorem wX11_readsNext_121 {Γ : Gam} {G : Gm} {Qf : State → Prop} (hG : Gd G) (C : Cx Γ G cX11_readsNext 5 RX11 none rmX11_readsNext) {x1 : Int32} {x2 : Int32} {Q : Mem → Prop} (E : EndV Γ G Qf rmX11_readsNext Q) (M : Mem) (y4 : Int32) (h : bX11_readsNext_121 x1 x2 Q M y4) : X Γ G Qf 5 0 0 121 [(0, .ref (ga G 11 0)), (1, .int x1), (2, .int x2), (4, .int y4)] [] M := by
  unfold bX11_readsNext_121 at h
  refine x_aload_n C dX11_readsNext_121 0 rfl ?_
  refine gf_11_12 C q158 z11 dX11_readsNext_122 ?_
  refine x_iload_n C dX11_readsNext_125 1 rfl ?_
  obtain ⟨f28, h⟩ := h
  refine al_1212 C z1212 f28 dX11_readsNext_126 ?_
  refine x_iload_n C dX11_readsNext_127 2 rfl ?_
  refine x_iload C dX11_readsNext_128 3 rfl ?_
  obtain ⟨f29, h⟩ := h
  refine as_6212 C (vp_lt f28) f29 dX11_readsNext_130 ?_
  refine X_nameM (fun M30 eM30 => ?_)
  replace h := h M30 eM30
  exact x_vret C E h (Nat.le_of_ble_eq_true rfl) (Nat.le_of_ble_eq_true rfl) dX11_readsNext_131
set_option maxRecDepth 100000 in
set_option maxHeartbeats 400000 in
theorem wX11_readsNext_69 {Γ : Gam} {G : Gm} {Qf : State → Prop} (hG : Gd G) (C : Cx Γ G cX11_readsNext 5 RX11 none rmX11_readsNext) {x1 : Int32} {x2 : Int32} {Q : Mem → Prop} (E : EndV Γ G Qf rmX11_readsNext Q) (M : Mem) (y4 : Int32) (h : bX11_readsNext_69 x1 x2 Q M y4) : X Γ G Qf 5 0 0 69 [(0, .ref (ga G 11 0)), (1, .int x1), (2, .int x2), (4, .int y4)] [] M := by
  unfold bX11_readsNext_69 at h
  refine x_aload_n C dX11_readsNext_69 0 rfl ?_
  refine x_calli (rest := []) C sv_X11_154 ob11 z11 (kX11_fine hG _ h) rfl rfl (Nat.le_of_ble_eq_true rfl) ⟨Nat.le_of_ble_eq_true rfl, Nat.le_of_ble_eq_true rfl⟩ rfl rfl ⟨Nat.le_of_ble_eq_true rfl, Nat.le_of_ble_eq_true rfl⟩ dX11_readsNext_70 (fun r19 M20 h => ?_)
  refine x_if_ne (tgt := 77) C dX11_readsNext_73 (by decide) (fun c21 => ?_) (fun c21 => ?_)
  · replace h := h.1 c21
    refine x_iload C dX11_readsNext_77 3 rfl ?_
    refine x_iconst (v := (-1)) C dX11_readsNext_79 rfl ?_
    refine x_icmp_ne (tgt := 121) C dX11_readsNext_80 (by decide) (fun c22 => ?_) (fun c22 => ?_)
    · replace h := h.1 c22
      refine X_sub (lv' := [(0, .ref (ga G 11 0)), (1, .int x1), (2, .int x2), (4, .int y4)]) [0, 1, 2, 3] rfl ?_
      exact wX11_readsNext_121 hG C E M20 y4 h
    · replace h := h.2 c22
      refine x_aload_n C dX11_readsNext_83 0 rfl ?_
      refine gf_11_10 C q155 z11 dX11_readsNext_84 ?_
      refine X_name (fun v23 ev23 => ?_)
      replace h := h v23 ev23
      refine x_istore (lv' := [(4, .int v23), (0, .ref (ga G 11 0)), (1, .int x1), (2, .int x2)]) C dX11_readsNext_87 (Nat.le_of_ble_eq_true rfl) rfl ?_
      refine x_aload_n C dX11_readsNext_89 1 rfl ?_
      refine gf_11_16 C q156 z11 dX11_readsNext_90 ?_
      refine x_iload C dX11_readsNext_93 0 rfl ?_
      refine x_aload_n C dX11_readsNext_95 1 rfl ?_
      refine gf_11_31 C q151 z11 dX11_readsNext_96 ?_
      obtain ⟨f24, h⟩ := h
      refine as_1216 C z1216 f24 dX11_readsNext_99 ?_
      refine X_nameM (fun M25 eM25 => ?_)
      replace h := h M25 eM25
      refine x_aload_n C dX11_readsNext_100 1 rfl ?_
      refine gf_11_15 C q157 z11 dX11_readsNext_101 ?_
      refine x_iload C dX11_readsNext_104 0 rfl ?_
      refine x_aload_n C dX11_readsNext_106 1 rfl ?_
      refine gf_11_32 C q152 z11 dX11_readsNext_107 ?_
      refine as_1215 C z1215 f24 dX11_readsNext_110 ?_
      refine X_nameM (fun M26 eM26 => ?_)
      replace h := h M26 eM26
      refine x_aload_n C dX11_readsNext_111 1 rfl ?_
      refine x_dup C dX11_readsNext_112 rfl ?_
      refine gf_11_10 C q155 z11 dX11_readsNext_113 ?_
      refine x_iconst (v := 1) C dX11_readsNext_116 rfl ?_
      refine x_iadd C dX11_readsNext_117 ?_
      refine pf_11_10 C q155 z11 dX11_readsNext_118 ?_
      refine X_nameM (fun M27 eM27 => ?_)
      replace h := h M27 eM27
      refine X_sub (lv' := [(0, .ref (ga G 11 0)), (1, .int x1), (2, .int x2), (4, .int v23)]) [1, 2, 3, 0] rfl ?_
      exact wX11_readsNext_121 hG C E M27 v23 h
  · replace h := h.2 c21
    exact x_vret C E h (Nat.le_of_ble_eq_true rfl) (Nat.le_of_ble_eq_true rfl) dX11_readsNext_76
set_option maxRecDepth 100000 in
set_option maxHeartbeats 400000 in
theorem wX11_readsNext_21 {Γ : Gam} {G : Gm} {Qf : State → Prop} (hG : Gd G) (C : Cx Γ G cX11_readsNext 5 RX11 none rmX11_readsNext) {x1 : Int32} {x2 : Int32} {Q : Mem → Prop} (E : EndV Γ G Qf rmX11_readsNext Q) (M : Mem) (y3 : Int32) (h : bX11_readsNext_21 x1 x2 Q M y3) : X Γ G Qf 5 0 0 21 [(0, .ref (ga G 11 0)), (1, .int x1), (2, .int x2), (3, .int y3)] [] M := by
  unfold bX11_readsNext_21 at h
  refine x_aload_n C dX11_readsNext_21 0 rfl ?_
  refine x_calli (rest := []) C sv_X11_154 ob11 z11 (kX11_fine hG _ h) rfl rfl (Nat.le_of_ble_eq_true rfl) ⟨Nat.le_of_ble_eq_true rfl, Nat.le_of_ble_eq_true rfl⟩ rfl rfl ⟨Nat.le_of_ble_eq_true rfl, Nat.le_of_ble_eq_true rfl⟩ dX11_readsNext_22 (fun r5 M6 h => ?_)
  refine x_if_ne (tgt := 29) C dX11_readsNext_25 (by decide) (fun c7 => ?_) (fun c7 => ?_)
  · replace h := h.1 c7
    refine x_aload_n C dX11_readsNext_29 0 rfl ?_
    refine x_callv (rest := []) C sv_X11_165 ob11 z11 (kX11_readsWord hG _ h) rfl rfl (Nat.le_of_ble_eq_true rfl) ⟨Nat.le_of_ble_eq_true rfl, Nat.le_of_ble_eq_true rfl⟩ rfl rfl ⟨Nat.le_of_ble_eq_true rfl, Nat.le_of_ble_eq_true rfl⟩ dX11_readsNext_30 (fun M9 h => ?_)
    refine x_aload_n C dX11_readsNext_33 0 rfl ?_
    refine x_calli (rest := []) C sv_X11_154 ob11 z11 (kX11_fine hG _ h) rfl rfl (Nat.le_of_ble_eq_true rfl) ⟨Nat.le_of_ble_eq_true rfl, Nat.le_of_ble_eq_true rfl⟩ rfl rfl ⟨Nat.le_of_ble_eq_true rfl, Nat.le_of_ble_eq_true rfl⟩ dX11_readsNext_34 (fun r10 M11 h => ?_)
    refine x_if_ne (tgt := 41) C dX11_readsNext_37 (by decide) (fun c12 => ?_) (fun c12 => ?_)
    · replace h := h.1 c12
      refine x_aload_n C dX11_readsNext_41 0 rfl ?_
      refine x_calli (rest := []) C sv_X11_168 ob11 z11 (kX11_seek hG _ h) rfl rfl (Nat.le_of_ble_eq_true rfl) ⟨Nat.le_of_ble_eq_true rfl, Nat.le_of_ble_eq_true rfl⟩ rfl rfl ⟨Nat.le_of_ble_eq_true rfl, Nat.le_of_ble_eq_true rfl⟩ dX11_readsNext_42 (fun r13 M14 h => ?_)
      refine x_istore (lv' := [(4, .int r13), (0, .ref (ga G 11 0)), (1, .int x1), (2, .int x2), (3, .int y3)]) C dX11_readsNext_45 (Nat.le_of_ble_eq_true rfl) rfl ?_
      refine x_iload C dX11_readsNext_47 0 rfl ?_
      refine x_iconst (v := (-1)) C dX11_readsNext_49 rfl ?_
      refine x_icmp_ne (tgt := 69) C dX11_readsNext_50 (by decide) (fun c15 => ?_) (fun c15 => ?_)
      · replace h := h.1 c15
        refine X_sub (lv' := [(0, .ref (ga G 11 0)), (1, .int x1), (2, .int x2), (4, .int r13)]) [1, 2, 3, 0] rfl ?_
        exact wX11_readsNext_69 hG C E M14 r13 h
      · replace h := h.2 c15
        refine x_aload_n C dX11_readsNext_53 1 rfl ?_
        refine gf_11_10 C q155 z11 dX11_readsNext_54 ?_
        refine x_sipush (v := 255) C dX11_readsNext_57 rfl ?_
        refine x_icmp_ne (tgt := 69) C dX11_readsNext_60 (by decide) (fun c16 => ?_) (fun c16 => ?_)
        · replace h := h.1 c16
          refine X_sub (lv' := [(0, .ref (ga G 11 0)), (1, .int x1), (2, .int x2), (4, .int r13)]) [1, 2, 3, 0] rfl ?_
          exact wX11_readsNext_69 hG C E M14 r13 h
        · replace h := h.2 c16
          refine x_aload_n C dX11_readsNext_63 1 rfl ?_
          refine x_iconst (v := 2) C dX11_readsNext_64 rfl ?_
          refine x_iload_n C dX11_readsNext_65 4 rfl ?_
          refine x_callv (rest := []) C sv_X11_150 ob11 z11 (kX11_wrong hG _ _ _ h) rfl rfl (Nat.le_of_ble_eq_true rfl) ⟨Nat.le_of_ble_eq_true rfl, Nat.le_of_ble_eq_true rfl⟩ rfl rfl ⟨Nat.le_of_ble_eq_true rfl, Nat.le_of_ble_eq_true rfl⟩ dX11_readsNext_66 (fun M18 h => ?_)
          refine X_sub (lv' := [(0, .ref (ga G 11 0)), (1, .int x1), (2, .int x2), (4, .int r13)]) [1, 2, 3, 0] rfl ?_
          exact wX11_readsNext_69 hG C E M18 r13 h
    · replace h := h.2 c12
      exact x_vret C E h (Nat.le_of_ble_eq_true rfl) (Nat.le_of_ble_eq_true rfl) dX11_readsNext_40
  · replace h := h.2 c7
    exact x_vret C E h (Nat.le_of_ble_eq_true rfl) (Nat.le_of_ble_eq_true rfl) dX11_readsNext_28
set_option maxRecDepth 100000 in
set_option maxHeartbeats 400000 in
theorem kX11_readsNext {l : Launch} {G : Gm} (hG : Gd G) (M : Mem) (x1 : Int32) (x2 : Int32) {Q : Mem → Prop} (h : pX11_readsNext M x1 x2 Q) : Ctv l G yX11_readsNext cX11_readsNext 5 rmX11_readsNext [.ref (ga G 11 0), .int x1, .int x2] M Q := by
  refine ctv_of (own := RX11) (by decide +kernel) rfl (Nat.le_of_ble_eq_true rfl) hG (fun Γ Qf hl C E => ?_)
  subst hl
  show X Γ G Qf 5 0 0 0 [(0, .ref (ga G 11 0)), (1, .int x1), (2, .int x2)] [] M
  unfold pX11_readsNext at h
  refine x_aload_n C dX11_readsNext_0 0 rfl ?_
  refine gf_11_4 C q150 z11 dX11_readsNext_1 ?_
  refine X_name (fun v1 ev1 => ?_)
  replace h := h v1 ev1
  refine x_istore_n (lv' := [(3, .int v1), (0, .ref (ga G 11 0)), (1, .int x1), (2, .int x2)]) C dX11_readsNext_4 rfl (Nat.le_of_ble_eq_true rfl) rfl ?_
  refine x_iload_n C dX11_readsNext_5 3 rfl ?_
  refine x_sipush (v := 150) C dX11_readsNext_6 rfl ?_
  refine x_icmp_ne (tgt := 21) C dX11_readsNext_9 (by decide) (fun c2 => ?_) (fun c2 => ?_)
  · replace h := h.1 c2
    refine X_sub (lv' := [(0, .ref (ga G 11 0)), (1, .int x1), (2, .int x2), (3, .int v1)]) [1, 2, 3, 0] rfl ?_
    exact wX11_readsNext_21 hG C E M v1 h
  · replace h := h.2 c2
    refine x_aload_n C dX11_readsNext_12 1 rfl ?_
    refine x_iconst (v := 2) C dX11_readsNext_13 rfl ?_
    refine x_aload_n C dX11_readsNext_14 1 rfl ?_
    refine gf_11_4 C q150 z11 dX11_readsNext_15 ?_
    refine x_callv (rest := []) C sv_X11_150 ob11 z11 (kX11_wrong hG _ _ _ h) rfl rfl (Nat.le_of_ble_eq_true rfl) ⟨Nat.le_of_ble_eq_true rfl, Nat.le_of_ble_eq_true rfl⟩ rfl rfl ⟨Nat.le_of_ble_eq_true rfl, Nat.le_of_ble_eq_true rfl⟩ dX11_readsNext_18 (fun M4 h => ?_)
    refine X_sub (lv' := [(0, .ref (ga G 11 0)), (1, .int x1), (2, .int x2), (3, .int v1)]) [1, 2, 3, 0] rfl ?_
    exact wX11_readsNext_21 hG C E M4 v1 h
