def rmX4_rareOf : Room := { frames := 0, cells := 0, slots := 0, locals := 0 }
def bX4_rareOf_25 (x1 : Int32) (Q : Int32 → Mem → Prop) (L25 : Mem × Int32 × Int32 → Prop) (M : Mem) (y2 : Int32) (y3 : Int32) : Prop :=
  ((y3 ≤ 1 → Q y2 M) ∧ (¬ y3 ≤ 1 → ∀ v6 : Int32, v6 = y2 + 1 → ∀ v7 : Int32, v7 = (y3 / 2) → L25 (M, v6, v7)))
def pX4_rareOf (M : Mem) (x1 : Int32) (Q : Int32 → Mem → Prop) : Prop :=
  vp_in x1 255 ∧ ((¬ (M.1 511 0 (tn x1)) = 0 → (¬ (M.1 511 0 (tn x1)) = 0) ∧ ∀ v4 : Int32, v4 = ((M.1 505 0 0) / (M.1 511 0 (tn x1))) → ∃ n : Nat, lp (fun L s => bX4_rareOf_25 x1 Q L s.1 s.2.1 s.2.2) n (M, 1, v4)) ∧ ((M.1 511 0 (tn x1)) = 0 → Q 0 M))
set_option maxRecDepth 100000 in
set_option maxHeartbeats 400000 in
theorem wX4_rareOf_25 {Γ : Gam} {G : Gm} {Qf : State → Prop} (hG : Gd G) (C : Cx Γ G cX4_rareOf 4 RX4 (some .int) rmX4_rareOf) {x1 : Int32} {Q : Int32 → Mem → Prop} (E : EndI Γ G Qf rmX4_rareOf Q) {L25 : Mem × Int32 × Int32 → Prop} (hL25 : ∀ s, L25 s → X Γ G Qf 4 0 0 25 [(2, .int s.2.1), (3, .int s.2.2)] [] s.1) (M : Mem) (y2 : Int32) (y3 : Int32) (h : bX4_rareOf_25 x1 Q L25 M y2 y3) : X Γ G Qf 4 0 0 25 [(2, .int y2), (3, .int y3)] [] M := by
  unfold bX4_rareOf_25 at h
  refine x_iload_n C dX4_rareOf_25 1 rfl ?_
  refine x_iconst (v := 1) C dX4_rareOf_26 rfl ?_
  refine x_icmp_le (tgt := 40) C dX4_rareOf_27 (by decide) (fun c5 => ?_) (fun c5 => ?_)
  · replace h := h.1 c5
    refine x_iload_n C dX4_rareOf_40 0 rfl ?_
    exact x_iret C E h (Nat.le_of_ble_eq_true rfl) (Nat.le_of_ble_eq_true rfl) dX4_rareOf_41
  · replace h := h.2 c5
    obtain ⟨v6, ev6⟩ : ∃ z : Int32, z = y2 + 1 := ⟨_, rfl⟩
    replace h := h v6 ev6
    refine x_iinc (v := v6) (lv' := [(2, .int v6), (3, .int y3)]) (j := 0) C dX4_rareOf_30 rfl (by rw [ev6]; rfl) (Nat.le_of_ble_eq_true rfl) rfl ?_
    refine x_iload_n C dX4_rareOf_33 1 rfl ?_
    refine x_iconst (v := 2) C dX4_rareOf_34 rfl ?_
    refine x_idiv C dX4_rareOf_35 (by decide) ?_
    refine X_name (fun v7 ev7 => ?_)
    replace h := h v7 ev7
    refine x_istore_n (lv' := [(3, .int v7), (2, .int v6)]) C dX4_rareOf_36 rfl (Nat.le_of_ble_eq_true rfl) rfl ?_
    refine x_goto (tgt := 25) C dX4_rareOf_37 (by decide) ?_
    refine X_sub (lv' := [(2, .int v6), (3, .int v7)]) [1, 0] rfl ?_
    have w9 := hL25 (M, v6, v7) h
    dsimp only at w9
    exact w9
set_option maxRecDepth 100000 in
set_option maxHeartbeats 400000 in
theorem kX4_rareOf {l : Launch} {G : Gm} (hG : Gd G) (M : Mem) (x1 : Int32) {Q : Int32 → Mem → Prop} (h : pX4_rareOf M x1 Q) : Cti l G yX4_rareOf cX4_rareOf 4 .int rmX4_rareOf [.ref (ga G 4 0), .int x1] M Q := by
  refine cti_of (own := RX4) (by decide +kernel) rfl (Nat.le_of_ble_eq_true rfl) hG (fun Γ Qf hl C E => ?_)
  subst hl
  show X Γ G Qf 4 0 0 0 [(0, .ref (ga G 4 0)), (1, .int x1)] [] M
  unfold pX4_rareOf at h
  refine x_aload_n C dX4_rareOf_0 0 rfl ?_
  refine gf_4_11 C q0 z4 dX4_rareOf_1 ?_
  refine x_iload_n C dX4_rareOf_4 1 rfl ?_
  obtain ⟨f1, h⟩ := h
  refine al_511 C z511 f1 dX4_rareOf_5 ?_
  refine x_if_ne (tgt := 11) C dX4_rareOf_6 (by decide) (fun c2 => ?_) (fun c2 => ?_)
  · replace h := h.1 c2
    refine x_iconst (v := 1) C dX4_rareOf_11 rfl ?_
    refine x_istore_n (lv' := [(2, .int 1), (0, .ref (ga G 4 0)), (1, .int x1)]) C dX4_rareOf_12 rfl (Nat.le_of_ble_eq_true rfl) rfl ?_
    refine x_aload_n C dX4_rareOf_13 1 rfl ?_
    refine gf_4_5 C q1 z4 dX4_rareOf_14 ?_
    refine x_aload_n C dX4_rareOf_17 1 rfl ?_
    refine gf_4_11 C q0 z4 dX4_rareOf_18 ?_
    refine x_iload_n C dX4_rareOf_21 2 rfl ?_
    refine al_511 C z511 f1 dX4_rareOf_22 ?_
    obtain ⟨f3, h⟩ := h
    refine x_idiv C dX4_rareOf_23 f3 ?_
    refine X_name (fun v4 ev4 => ?_)
    replace h := h v4 ev4
    refine x_istore_n (lv' := [(3, .int v4), (2, .int 1), (0, .ref (ga G 4 0)), (1, .int x1)]) C dX4_rareOf_24 rfl (Nat.le_of_ble_eq_true rfl) rfl ?_
    obtain ⟨n9, h⟩ := h
    refine X_sub (lv' := [(2, .int 1), (3, .int v4)]) [1, 0] rfl ?_
    have hb : ∀ (L : Mem × Int32 × Int32 → Prop) (s : Mem × Int32 × Int32), (∀ t, L t → X Γ G Qf 4 0 0 25 [(2, .int t.2.1), (3, .int t.2.2)] [] t.1) → bX4_rareOf_25 x1 Q L s.1 s.2.1 s.2.2 → X Γ G Qf 4 0 0 25 [(2, .int s.2.1), (3, .int s.2.2)] [] s.1 := fun L s hL h => wX4_rareOf_25 hG C E hL s.1 s.2.1 s.2.2 h
    have w9 := lp_walk (P := fun s : Mem × Int32 × Int32 => X Γ G Qf 4 0 0 25 [(2, .int s.2.1), (3, .int s.2.2)] [] s.1) h hb
    dsimp only at w9
    exact w9
  · replace h := h.2 c2
    refine x_iconst (v := 0) C dX4_rareOf_9 rfl ?_
    exact x_iret C E h (Nat.le_of_ble_eq_true rfl) (Nat.le_of_ble_eq_true rfl) dX4_rareOf_10
def rmX4_blocksOf : Room := { frames := 1, cells := 0, slots := 0, locals := 14 }
def pX4_blocksOf (M : Mem) (x1 : Int32) (x2 : Int32) (Q : Int32 → Mem → Prop) : Prop :=
  vp_in x1 255 ∧ (¬ (imax x2 2) = 0) ∧ Q ((((M.1 511 0 (tn x1)) + x2) - 1) / (imax x2 2)) M
set_option maxRecDepth 100000 in
set_option maxHeartbeats 400000 in
theorem kX4_blocksOf {l : Launch} {G : Gm} (hG : Gd G) (M : Mem) (x1 : Int32) (x2 : Int32) {Q : Int32 → Mem → Prop} (h : pX4_blocksOf M x1 x2 Q) : Cti l G yX4_blocksOf cX4_blocksOf 3 .int rmX4_blocksOf [.ref (ga G 4 0), .int x1, .int x2] M Q := by
  refine cti_of (own := RX4) (by decide +kernel) rfl (Nat.le_of_ble_eq_true rfl) hG (fun Γ Qf hl C E => ?_)
  subst hl
  show X Γ G Qf 3 0 0 0 [(0, .ref (ga G 4 0)), (1, .int x1), (2, .int x2)] [] M
  unfold pX4_blocksOf at h
  refine x_aload_n C dX4_blocksOf_0 0 rfl ?_
  refine gf_4_11 C q0 z4 dX4_blocksOf_1 ?_
  refine x_iload_n C dX4_blocksOf_4 1 rfl ?_
  obtain ⟨f1, h⟩ := h
  refine al_511 C z511 f1 dX4_blocksOf_5 ?_
  refine x_iload_n C dX4_blocksOf_6 2 rfl ?_
  refine x_iadd C dX4_blocksOf_7 ?_
  refine x_iconst (v := 1) C dX4_blocksOf_8 rfl ?_
  refine x_isub C dX4_blocksOf_9 ?_
  refine x_iload_n C dX4_blocksOf_10 2 rfl ?_
  refine x_iconst (v := 2) C dX4_blocksOf_11 rfl ?_
  refine x_max C sm_X4_59 (Nat.le_of_ble_eq_true rfl) (Nat.le_of_ble_eq_true rfl) (Nat.le_of_ble_eq_true rfl) (Nat.le_of_ble_eq_true rfl) dX4_blocksOf_12 ?_
  obtain ⟨f2, h⟩ := h
  refine x_idiv C dX4_blocksOf_15 f2 ?_
  exact x_iret C E h (Nat.le_of_ble_eq_true rfl) (Nat.le_of_ble_eq_true rfl) dX4_blocksOf_16
def rmX4_gainOf : Room := { frames := 0, cells := 0, slots := 0, locals := 0 }
def pX4_gainOf (M : Mem) (x1 : Int32) (x2 : Int32) (Q : Int32 → Mem → Prop) : Prop :=
  vp_in x1 255 ∧ vp_in x2 64 ∧ ∀ v3 : Int32, v3 = (M.1 5508 (tn x1) (tn x2)) → (¬ ((v3 + 1) + ((M.1 502 0 (tn x2)) / 4)) = 0) ∧ Q ((v3 * 1000) / ((v3 + 1) + ((M.1 502 0 (tn x2)) / 4))) M
set_option maxRecDepth 100000 in
set_option maxHeartbeats 400000 in
theorem kX4_gainOf {l : Launch} {G : Gm} (hG : Gd G) (M : Mem) (x1 : Int32) (x2 : Int32) {Q : Int32 → Mem → Prop} (h : pX4_gainOf M x1 x2 Q) : Cti l G yX4_gainOf cX4_gainOf 4 .int rmX4_gainOf [.ref (ga G 4 0), .int x1, .int x2] M Q := by
  refine cti_of (own := RX4) (by decide +kernel) rfl (Nat.le_of_ble_eq_true rfl) hG (fun Γ Qf hl C E => ?_)
  subst hl
  show X Γ G Qf 4 0 0 0 [(0, .ref (ga G 4 0)), (1, .int x1), (2, .int x2)] [] M
  unfold pX4_gainOf at h
  refine x_aload_n C dX4_gainOf_0 0 rfl ?_
  refine gf_4_8 C q2 z4 dX4_gainOf_1 ?_
  refine x_iload_n C dX4_gainOf_4 1 rfl ?_
  obtain ⟨f1, h⟩ := h
  refine al_508 C z508 f1 dX4_gainOf_5 ?_
  refine x_iload_n C dX4_gainOf_6 2 rfl ?_
  obtain ⟨f2, h⟩ := h
  refine al_5508 C (vp_lt f1) f2 dX4_gainOf_7 ?_
  refine X_name (fun v3 ev3 => ?_)
  replace h := h v3 ev3
  refine x_istore_n (lv' := [(3, .int v3), (0, .ref (ga G 4 0)), (1, .int x1), (2, .int x2)]) C dX4_gainOf_8 rfl (Nat.le_of_ble_eq_true rfl) rfl ?_
  refine x_iload_n C dX4_gainOf_9 0 rfl ?_
  refine x_sipush (v := 1000) C dX4_gainOf_10 rfl ?_
  refine x_imul C dX4_gainOf_13 ?_
  refine x_iload_n C dX4_gainOf_14 0 rfl ?_
  refine x_iconst (v := 1) C dX4_gainOf_15 rfl ?_
  refine x_iadd C dX4_gainOf_16 ?_
  refine x_aload_n C dX4_gainOf_17 1 rfl ?_
  refine gf_4_2 C q3 z4 dX4_gainOf_18 ?_
  refine x_iload_n C dX4_gainOf_21 3 rfl ?_
  refine al_502 C z502 f2 dX4_gainOf_22 ?_
  refine x_iconst (v := 4) C dX4_gainOf_23 rfl ?_
  refine x_idiv C dX4_gainOf_24 (by decide) ?_
  refine x_iadd C dX4_gainOf_25 ?_
  obtain ⟨f4, h⟩ := h
  refine x_idiv C dX4_gainOf_26 f4 ?_
  exact x_iret C E h (Nat.le_of_ble_eq_true rfl) (Nat.le_of_ble_eq_true rfl) dX4_gainOf_27
def rmX5_widthOf : Room := { frames := 0, cells := 0, slots := 0, locals := 0 }
def bX5_widthOf_4 (x1 : Int32) (Q : Int32 → Mem → Prop) (L4 : Mem × Int32 × Int32 → Prop) (M : Mem) (y1 : Int32) (y2 : Int32) : Prop :=
  ((y2 ≤ 0 → Q y1 M) ∧ (¬ y2 ≤ 0 → ∀ v2 : Int32, v2 = y1 + 1 → ∀ v3 : Int32, v3 = (y2 / 2) → L4 (M, v2, v3)))
def pX5_widthOf (M : Mem) (x1 : Int32) (Q : Int32 → Mem → Prop) : Prop :=
  ∃ n : Nat, lp (fun L s => bX5_widthOf_4 x1 Q L s.1 s.2.1 s.2.2) n (M, 0, x1)
set_option maxRecDepth 100000 in
set_option maxHeartbeats 400000 in
theorem wX5_widthOf_4 {Γ : Gam} {G : Gm} {Qf : State → Prop} (hG : Gd G) (C : Cx Γ G cX5_widthOf 3 RX5 (some .int) rmX5_widthOf) {x1 : Int32} {Q : Int32 → Mem → Prop} (E : EndI Γ G Qf rmX5_widthOf Q) {L4 : Mem × Int32 × Int32 → Prop} (hL4 : ∀ s, L4 s → X Γ G Qf 3 0 0 4 [(1, .int s.2.1), (2, .int s.2.2)] [] s.1) (M : Mem) (y1 : Int32) (y2 : Int32) (h : bX5_widthOf_4 x1 Q L4 M y1 y2) : X Γ G Qf 3 0 0 4 [(1, .int y1), (2, .int y2)] [] M := by
  unfold bX5_widthOf_4 at h
  refine x_iload_n C dX5_widthOf_4 1 rfl ?_
  refine x_if_le (tgt := 18) C dX5_widthOf_5 (by decide) (fun c1 => ?_) (fun c1 => ?_)
  · replace h := h.1 c1
    refine x_iload_n C dX5_widthOf_18 0 rfl ?_
    exact x_iret C E h (Nat.le_of_ble_eq_true rfl) (Nat.le_of_ble_eq_true rfl) dX5_widthOf_19
  · replace h := h.2 c1
    obtain ⟨v2, ev2⟩ : ∃ z : Int32, z = y1 + 1 := ⟨_, rfl⟩
    replace h := h v2 ev2
    refine x_iinc (v := v2) (lv' := [(1, .int v2), (2, .int y2)]) (j := 0) C dX5_widthOf_8 rfl (by rw [ev2]; rfl) (Nat.le_of_ble_eq_true rfl) rfl ?_
    refine x_iload_n C dX5_widthOf_11 1 rfl ?_
    refine x_iconst (v := 2) C dX5_widthOf_12 rfl ?_
    refine x_idiv C dX5_widthOf_13 (by decide) ?_
    refine X_name (fun v3 ev3 => ?_)
    replace h := h v3 ev3
    refine x_istore_n (lv' := [(2, .int v3), (1, .int v2)]) C dX5_widthOf_14 rfl (Nat.le_of_ble_eq_true rfl) rfl ?_
    refine x_goto (tgt := 4) C dX5_widthOf_15 (by decide) ?_
    refine X_sub (lv' := [(1, .int v2), (2, .int v3)]) [1, 0] rfl ?_
    have w9 := hL4 (M, v2, v3) h
    dsimp only at w9
    exact w9
set_option maxRecDepth 100000 in
set_option maxHeartbeats 400000 in
theorem kX5_widthOf {l : Launch} {G : Gm} (hG : Gd G) (M : Mem) (x1 : Int32) {Q : Int32 → Mem → Prop} (h : pX5_widthOf M x1 Q) : Cti l G yX5_widthOf cX5_widthOf 3 .int rmX5_widthOf [.int x1] M Q := by
  refine cti_of (own := RX5) (by decide +kernel) rfl (Nat.le_of_ble_eq_true rfl) hG (fun Γ Qf hl C E => ?_)
  subst hl
  show X Γ G Qf 3 0 0 0 [(0, .int x1)] [] M
  unfold pX5_widthOf at h
  refine x_iconst (v := 0) C dX5_widthOf_0 rfl ?_
  refine x_istore_n (lv' := [(1, .int 0), (0, .int x1)]) C dX5_widthOf_1 rfl (Nat.le_of_ble_eq_true rfl) rfl ?_
  refine x_iload_n C dX5_widthOf_2 1 rfl ?_
  refine x_istore_n (lv' := [(2, .int x1), (1, .int 0), (0, .int x1)]) C dX5_widthOf_3 rfl (Nat.le_of_ble_eq_true rfl) rfl ?_
  obtain ⟨n9, h⟩ := h
  refine X_sub (lv' := [(1, .int 0), (2, .int x1)]) [1, 0] rfl ?_
  have hb : ∀ (L : Mem × Int32 × Int32 → Prop) (s : Mem × Int32 × Int32), (∀ t, L t → X Γ G Qf 3 0 0 4 [(1, .int t.2.1), (2, .int t.2.2)] [] t.1) → bX5_widthOf_4 x1 Q L s.1 s.2.1 s.2.2 → X Γ G Qf 3 0 0 4 [(1, .int s.2.1), (2, .int s.2.2)] [] s.1 := fun L s hL h => wX5_widthOf_4 hG C E hL s.1 s.2.1 s.2.2 h
  have w9 := lp_walk (P := fun s : Mem × Int32 × Int32 => X Γ G Qf 3 0 0 4 [(1, .int s.2.1), (2, .int s.2.2)] [] s.1) h hb
  dsimp only at w9
  exact w9
def rmX5_measure : Room := { frames := 1, cells := 0, slots := 0, locals := 23 }
def bX5_measure_73 (x1 : Int32) (x2 : Int32) (x3 : Int32) (Q : Mem → Prop) (L73 : Mem × Int32 × Int32 × Int32 × Int32 × Int32 × Int32 × Int32 × Int32 → Prop) (M : Mem) (y5 : Int32) (y6 : Int32) (y7 : Int32) (y8 : Int32) (y9 : Int32) (y10 : Int32) (y11 : Int32) (y12 : Int32) : Prop :=
  ((y6 ≤ y12 → vp_in y5 64 ∧ ∀ M10 : Mem, M10 = up1 M 601 0 0 (M.1 5510 (tn x1) (tn y5)) → ∀ M11 : Mem, M11 = up1 M10 602 0 0 y7 → ∀ M12 : Mem, M12 = up1 M11 603 0 0 (y6 - y5) → pX5_widthOf M12 y8 (fun r13 M14 => ∀ M15 : Mem, M15 = up1 M14 606 0 0 r13 → pX5_widthOf M15 y9 (fun r16 M17 => ∀ M18 : Mem, M18 = up1 M17 607 0 0 r16 → pX5_widthOf M18 y10 (fun r19 M20 => ∀ M21 : Mem, M21 = up1 M20 608 0 0 r19 → ∀ M22 : Mem, M22 = up1 M21 605 0 0 ((32 + ((M21.1 603 0 0) * ((M21.1 606 0 0) + (M21.1 607 0 0)))) + (y11 * (M21.1 608 0 0))) → Q M22)))) ∧ (¬ y6 ≤ y12 → vp_in y12 64 ∧ ∀ v24 : Int32, v24 = (M.1 5510 (tn x1) (tn y12)) → ∀ v25 : Int32, v25 = (imax y8 (v24 - y7)) → vp_in x1 255 ∧ vp_in v24 64 ∧ ∀ v28 : Int32, v28 = (imax y9 (M.1 5508 (tn x1) (tn v24))) → ∀ v29 : Int32, v29 = (imax y10 (M.1 5509 (tn x1) (tn v24))) → ∀ v30 : Int32, v30 = (y11 + (M.1 5508 (tn x1) (tn v24))) → pX4_gainOf M x1 v24 (fun r31 M32 => ∀ M33 : Mem, M33 = up1 M32 604 0 0 (imax (M.1 604 0 0) r31) → ∀ v34 : Int32, v34 = y12 + 1 → L73 (M33, y5, y6, v24, v25, v28, v29, v30, v34))))
def bX5_measure_52 (x1 : Int32) (x2 : Int32) (x3 : Int32) (Q : Mem → Prop) (M : Mem) (y5 : Int32) (y6 : Int32) (y7 : Int32) : Prop :=
  ∀ M7 : Mem, M7 = up1 M 604 0 0 0 → ∃ n : Nat, lp (fun L s => bX5_measure_73 x1 x2 x3 Q L s.1 s.2.1 s.2.2.1 s.2.2.2.1 s.2.2.2.2.1 s.2.2.2.2.2.1 s.2.2.2.2.2.2.1 s.2.2.2.2.2.2.2.1 s.2.2.2.2.2.2.2.2) n (M7, y5, y6, y7, 0, 0, 0, 0, y5)
def pX5_measure (M : Mem) (x1 : Int32) (x2 : Int32) (x3 : Int32) (Q : Mem → Prop) : Prop :=
  vp_in x1 255 ∧ ∀ v2 : Int32, v2 = (x2 * x3) → ∀ v3 : Int32, v3 = (imin (v2 + x3) (M.1 511 0 (tn x1))) → ((¬ v2 = 0 → vp_in (v2 - 1) 64 ∧ ∀ v6 : Int32, v6 = (M.1 5510 (tn x1) (tn (v2 - 1))) → bX5_measure_52 x1 x2 x3 Q M v2 v3 v6) ∧ (v2 = 0 → bX5_measure_52 x1 x2 x3 Q M v2 v3 (-1)))
set_option maxRecDepth 100000 in
set_option maxHeartbeats 400000 in
theorem wX5_measure_73 {Γ : Gam} {G : Gm} {Qf : State → Prop} (hG : Gd G) (C : Cx Γ G cX5_measure 14 RX5 none rmX5_measure) {x1 : Int32} {x2 : Int32} {x3 : Int32} {Q : Mem → Prop} (E : EndV Γ G Qf rmX5_measure Q) (g4 : (tn x1) < 255) {L73 : Mem × Int32 × Int32 × Int32 × Int32 × Int32 × Int32 × Int32 × Int32 → Prop} (hL73 : ∀ s, L73 s → X Γ G Qf 14 0 0 73 [(0, .ref (ga G 5 0)), (1, .int x1), (4, .ref (ga G 5510 (tn x1))), (5, .int s.2.1), (6, .int s.2.2.1), (7, .int s.2.2.2.1), (8, .int s.2.2.2.2.1), (9, .int s.2.2.2.2.2.1), (10, .int s.2.2.2.2.2.2.1), (11, .int s.2.2.2.2.2.2.2.1), (12, .int s.2.2.2.2.2.2.2.2)] [] s.1) (M : Mem) (y5 : Int32) (y6 : Int32) (y7 : Int32) (y8 : Int32) (y9 : Int32) (y10 : Int32) (y11 : Int32) (y12 : Int32) (h : bX5_measure_73 x1 x2 x3 Q L73 M y5 y6 y7 y8 y9 y10 y11 y12) : X Γ G Qf 14 0 0 73 [(0, .ref (ga G 5 0)), (1, .int x1), (4, .ref (ga G 5510 (tn x1))), (5, .int y5), (6, .int y6), (7, .int y7), (8, .int y8), (9, .int y9), (10, .int y10), (11, .int y11), (12, .int y12)] [] M := by
  unfold bX5_measure_73 at h
  refine x_iload C dX5_measure_73 10 rfl ?_
  refine x_iload C dX5_measure_75 4 rfl ?_
  refine x_icmp_ge (tgt := 185) C dX5_measure_77 (by decide) (fun c8 => ?_) (fun c8 => ?_)
  · replace h := h.1 c8
    refine x_aload_n C dX5_measure_185 0 rfl ?_
    refine x_aload C dX5_measure_186 2 rfl ?_
    refine x_iload C dX5_measure_188 3 rfl ?_
    obtain ⟨f9, h⟩ := h
    refine al_5510 C g4 f9 dX5_measure_190 ?_
    refine pf_5_1 C q8 z5 dX5_measure_191 ?_
    refine X_nameM (fun M10 eM10 => ?_)
    replace h := h M10 eM10
    refine x_aload_n C dX5_measure_194 0 rfl ?_
    refine x_iload C dX5_measure_195 5 rfl ?_
    refine pf_5_2 C q9 z5 dX5_measure_197 ?_
    refine X_nameM (fun M11 eM11 => ?_)
    replace h := h M11 eM11
    refine x_aload_n C dX5_measure_200 0 rfl ?_
    refine x_iload C dX5_measure_201 4 rfl ?_
    refine x_iload C dX5_measure_203 3 rfl ?_
    refine x_isub C dX5_measure_205 ?_
    refine pf_5_3 C q10 z5 dX5_measure_206 ?_
    refine X_nameM (fun M12 eM12 => ?_)
    replace h := h M12 eM12
    refine x_aload_n C dX5_measure_209 0 rfl ?_
    refine x_iload C dX5_measure_210 6 rfl ?_
    refine x_scalli (rest := [.ref (ga G 5 0)]) C ss_X5_67 (kX5_widthOf hG _ _ h) rfl rfl (Nat.le_of_ble_eq_true rfl) ⟨Nat.le_of_ble_eq_true rfl, Nat.le_of_ble_eq_true rfl⟩ rfl rfl ⟨Nat.le_of_ble_eq_true rfl, Nat.le_of_ble_eq_true rfl⟩ dX5_measure_212 (fun r13 M14 h => ?_)
    refine pf_5_6 C q11 z5 dX5_measure_215 ?_
    refine X_nameM (fun M15 eM15 => ?_)
    replace h := h M15 eM15
    refine x_aload_n C dX5_measure_218 0 rfl ?_
    refine x_iload C dX5_measure_219 7 rfl ?_
    refine x_scalli (rest := [.ref (ga G 5 0)]) C ss_X5_67 (kX5_widthOf hG _ _ h) rfl rfl (Nat.le_of_ble_eq_true rfl) ⟨Nat.le_of_ble_eq_true rfl, Nat.le_of_ble_eq_true rfl⟩ rfl rfl ⟨Nat.le_of_ble_eq_true rfl, Nat.le_of_ble_eq_true rfl⟩ dX5_measure_221 (fun r16 M17 h => ?_)
    refine pf_5_7 C q12 z5 dX5_measure_224 ?_
    refine X_nameM (fun M18 eM18 => ?_)
    replace h := h M18 eM18
    refine x_aload_n C dX5_measure_227 0 rfl ?_
    refine x_iload C dX5_measure_228 8 rfl ?_
    refine x_scalli (rest := [.ref (ga G 5 0)]) C ss_X5_67 (kX5_widthOf hG _ _ h) rfl rfl (Nat.le_of_ble_eq_true rfl) ⟨Nat.le_of_ble_eq_true rfl, Nat.le_of_ble_eq_true rfl⟩ rfl rfl ⟨Nat.le_of_ble_eq_true rfl, Nat.le_of_ble_eq_true rfl⟩ dX5_measure_230 (fun r19 M20 h => ?_)
    refine pf_5_8 C q13 z5 dX5_measure_233 ?_
    refine X_nameM (fun M21 eM21 => ?_)
    replace h := h M21 eM21
    refine x_aload_n C dX5_measure_236 0 rfl ?_
    refine x_bipush (v := 32) C dX5_measure_237 rfl ?_
    refine x_aload_n C dX5_measure_239 0 rfl ?_
    refine gf_5_3 C q10 z5 dX5_measure_240 ?_
    refine x_aload_n C dX5_measure_243 0 rfl ?_
    refine gf_5_6 C q11 z5 dX5_measure_244 ?_
    refine x_aload_n C dX5_measure_247 0 rfl ?_
    refine gf_5_7 C q12 z5 dX5_measure_248 ?_
    refine x_iadd C dX5_measure_251 ?_
    refine x_imul C dX5_measure_252 ?_
    refine x_iadd C dX5_measure_253 ?_
    refine x_iload C dX5_measure_254 9 rfl ?_
    refine x_aload_n C dX5_measure_256 0 rfl ?_
    refine gf_5_8 C q13 z5 dX5_measure_257 ?_
    refine x_imul C dX5_measure_260 ?_
    refine x_iadd C dX5_measure_261 ?_
    refine pf_5_5 C q14 z5 dX5_measure_262 ?_
    refine X_nameM (fun M22 eM22 => ?_)
    replace h := h M22 eM22
    exact x_vret C E h (Nat.le_of_ble_eq_true rfl) (Nat.le_of_ble_eq_true rfl) dX5_measure_265
  · replace h := h.2 c8
    refine x_aload C dX5_measure_80 2 rfl ?_
    refine x_iload C dX5_measure_82 10 rfl ?_
    obtain ⟨f23, h⟩ := h
    refine al_5510 C g4 f23 dX5_measure_84 ?_
    refine X_name (fun v24 ev24 => ?_)
    replace h := h v24 ev24
    refine x_istore (lv' := [(13, .int v24), (0, .ref (ga G 5 0)), (1, .int x1), (4, .ref (ga G 5510 (tn x1))), (5, .int y5), (6, .int y6), (7, .int y7), (8, .int y8), (9, .int y9), (10, .int y10), (11, .int y11), (12, .int y12)]) C dX5_measure_85 (Nat.le_of_ble_eq_true rfl) rfl ?_
    refine x_iload C dX5_measure_87 7 rfl ?_
    refine x_iload C dX5_measure_89 0 rfl ?_
    refine x_iload C dX5_measure_91 6 rfl ?_
    refine x_isub C dX5_measure_93 ?_
    refine x_max C sm_X5_55 (Nat.le_of_ble_eq_true rfl) (Nat.le_of_ble_eq_true rfl) (Nat.le_of_ble_eq_true rfl) (Nat.le_of_ble_eq_true rfl) dX5_measure_94 ?_
    refine X_name (fun v25 ev25 => ?_)
    replace h := h v25 ev25
    refine x_istore (lv' := [(8, .int v25), (13, .int v24), (0, .ref (ga G 5 0)), (1, .int x1), (4, .ref (ga G 5510 (tn x1))), (5, .int y5), (6, .int y6), (7, .int y7), (9, .int y9), (10, .int y10), (11, .int y11), (12, .int y12)]) C dX5_measure_97 (Nat.le_of_ble_eq_true rfl) rfl ?_
    refine x_iload C dX5_measure_99 8 rfl ?_
    refine x_aload_n C dX5_measure_101 2 rfl ?_
    refine gf_5_0 C q4 z5 dX5_measure_102 ?_
    refine gf_4_8 C q15 z4 dX5_measure_105 ?_
    refine x_iload_n C dX5_measure_108 3 rfl ?_
    obtain ⟨f26, h⟩ := h
    refine al_508 C z508 f26 dX5_measure_109 ?_
    refine x_iload C dX5_measure_110 1 rfl ?_
    obtain ⟨f27, h⟩ := h
    refine al_5508 C (vp_lt f26) f27 dX5_measure_112 ?_
    refine x_max C sm_X5_55 (Nat.le_of_ble_eq_true rfl) (Nat.le_of_ble_eq_true rfl) (Nat.le_of_ble_eq_true rfl) (Nat.le_of_ble_eq_true rfl) dX5_measure_113 ?_
    refine X_name (fun v28 ev28 => ?_)
    replace h := h v28 ev28
    refine x_istore (lv' := [(9, .int v28), (8, .int v25), (13, .int v24), (0, .ref (ga G 5 0)), (1, .int x1), (4, .ref (ga G 5510 (tn x1))), (5, .int y5), (6, .int y6), (7, .int y7), (10, .int y10), (11, .int y11), (12, .int y12)]) C dX5_measure_116 (Nat.le_of_ble_eq_true rfl) rfl ?_
    refine x_iload C dX5_measure_118 9 rfl ?_
    refine x_aload_n C dX5_measure_120 3 rfl ?_
    refine gf_5_0 C q4 z5 dX5_measure_121 ?_
    refine gf_4_9 C q16 z4 dX5_measure_124 ?_
    refine x_iload_n C dX5_measure_127 4 rfl ?_
    refine al_509 C z509 f26 dX5_measure_128 ?_
    refine x_iload C dX5_measure_129 2 rfl ?_
    refine al_5509 C (vp_lt f26) f27 dX5_measure_131 ?_
    refine x_max C sm_X5_55 (Nat.le_of_ble_eq_true rfl) (Nat.le_of_ble_eq_true rfl) (Nat.le_of_ble_eq_true rfl) (Nat.le_of_ble_eq_true rfl) dX5_measure_132 ?_
    refine X_name (fun v29 ev29 => ?_)
    replace h := h v29 ev29
    refine x_istore (lv' := [(10, .int v29), (9, .int v28), (8, .int v25), (13, .int v24), (0, .ref (ga G 5 0)), (1, .int x1), (4, .ref (ga G 5510 (tn x1))), (5, .int y5), (6, .int y6), (7, .int y7), (11, .int y11), (12, .int y12)]) C dX5_measure_135 (Nat.le_of_ble_eq_true rfl) rfl ?_
    refine x_iload C dX5_measure_137 10 rfl ?_
    refine x_aload_n C dX5_measure_139 4 rfl ?_
    refine gf_5_0 C q4 z5 dX5_measure_140 ?_
    refine gf_4_8 C q15 z4 dX5_measure_143 ?_
    refine x_iload_n C dX5_measure_146 5 rfl ?_
    refine al_508 C z508 f26 dX5_measure_147 ?_
    refine x_iload C dX5_measure_148 3 rfl ?_
    refine al_5508 C (vp_lt f26) f27 dX5_measure_150 ?_
    refine x_iadd C dX5_measure_151 ?_
    refine X_name (fun v30 ev30 => ?_)
    replace h := h v30 ev30
    refine x_istore (lv' := [(11, .int v30), (10, .int v29), (9, .int v28), (8, .int v25), (13, .int v24), (0, .ref (ga G 5 0)), (1, .int x1), (4, .ref (ga G 5510 (tn x1))), (5, .int y5), (6, .int y6), (7, .int y7), (12, .int y12)]) C dX5_measure_152 (Nat.le_of_ble_eq_true rfl) rfl ?_
    refine x_aload_n C dX5_measure_154 5 rfl ?_
    refine x_aload_n C dX5_measure_155 5 rfl ?_
    refine gf_5_4 C q7 z5 dX5_measure_156 ?_
    refine x_aload_n C dX5_measure_159 5 rfl ?_
    refine gf_5_0 C q4 z5 dX5_measure_160 ?_
    refine x_iload_n C dX5_measure_163 6 rfl ?_
    refine x_iload C dX5_measure_164 4 rfl ?_
    refine x_calli (rest := [.int (M.1 604 0 0), .ref (ga G 5 0)]) C sv_X5_64 ob4 z4 (kX4_gainOf hG _ _ _ h) rfl rfl (Nat.le_of_ble_eq_true rfl) ⟨Nat.le_of_ble_eq_true rfl, Nat.le_of_ble_eq_true rfl⟩ rfl rfl ⟨Nat.le_of_ble_eq_true rfl, Nat.le_of_ble_eq_true rfl⟩ dX5_measure_166 (fun r31 M32 h => ?_)
    refine x_max C sm_X5_55 (Nat.le_of_ble_eq_true rfl) (Nat.le_of_ble_eq_true rfl) (Nat.le_of_ble_eq_true rfl) (Nat.le_of_ble_eq_true rfl) dX5_measure_169 ?_
    refine pf_5_4 C q7 z5 dX5_measure_172 ?_
    refine X_nameM (fun M33 eM33 => ?_)
    replace h := h M33 eM33
    refine x_iload C dX5_measure_175 4 rfl ?_
    refine x_istore (lv' := [(7, .int v24), (11, .int v30), (10, .int v29), (9, .int v28), (8, .int v25), (13, .int v24), (0, .ref (ga G 5 0)), (1, .int x1), (4, .ref (ga G 5510 (tn x1))), (5, .int y5), (6, .int y6), (12, .int y12)]) C dX5_measure_177 (Nat.le_of_ble_eq_true rfl) rfl ?_
    obtain ⟨v34, ev34⟩ : ∃ z : Int32, z = y12 + 1 := ⟨_, rfl⟩
    replace h := h v34 ev34
    refine x_iinc (v := v34) (lv' := [(12, .int v34), (7, .int v24), (11, .int v30), (10, .int v29), (9, .int v28), (8, .int v25), (13, .int v24), (0, .ref (ga G 5 0)), (1, .int x1), (4, .ref (ga G 5510 (tn x1))), (5, .int y5), (6, .int y6)]) (j := 11) C dX5_measure_179 rfl (by rw [ev34]; rfl) (Nat.le_of_ble_eq_true rfl) rfl ?_
    refine x_goto (tgt := 73) C dX5_measure_182 (by decide) ?_
    refine X_sub (lv' := [(0, .ref (ga G 5 0)), (1, .int x1), (4, .ref (ga G 5510 (tn x1))), (5, .int y5), (6, .int y6), (7, .int v24), (8, .int v25), (9, .int v28), (10, .int v29), (11, .int v30), (12, .int v34)]) [7, 8, 9, 10, 11, 1, 5, 4, 3, 2, 0] rfl ?_
    have w9 := hL73 (M33, y5, y6, v24, v25, v28, v29, v30, v34) h
    dsimp only at w9
    exact w9
set_option maxRecDepth 100000 in
set_option maxHeartbeats 400000 in
theorem wX5_measure_52 {Γ : Gam} {G : Gm} {Qf : State → Prop} (hG : Gd G) (C : Cx Γ G cX5_measure 14 RX5 none rmX5_measure) {x1 : Int32} {x2 : Int32} {x3 : Int32} {Q : Mem → Prop} (E : EndV Γ G Qf rmX5_measure Q) (g4 : (tn x1) < 255) (M : Mem) (y5 : Int32) (y6 : Int32) (y7 : Int32) (h : bX5_measure_52 x1 x2 x3 Q M y5 y6 y7) : X Γ G Qf 14 0 0 52 [(0, .ref (ga G 5 0)), (1, .int x1), (4, .ref (ga G 5510 (tn x1))), (5, .int y5), (6, .int y6), (7, .int y7)] [] M := by
  unfold bX5_measure_52 at h
  refine x_iconst (v := 0) C dX5_measure_52 rfl ?_
  refine x_istore (lv' := [(8, .int 0), (0, .ref (ga G 5 0)), (1, .int x1), (4, .ref (ga G 5510 (tn x1))), (5, .int y5), (6, .int y6), (7, .int y7)]) C dX5_measure_53 (Nat.le_of_ble_eq_true rfl) rfl ?_
  refine x_iconst (v := 0) C dX5_measure_55 rfl ?_
  refine x_istore (lv' := [(9, .int 0), (8, .int 0), (0, .ref (ga G 5 0)), (1, .int x1), (4, .ref (ga G 5510 (tn x1))), (5, .int y5), (6, .int y6), (7, .int y7)]) C dX5_measure_56 (Nat.le_of_ble_eq_true rfl) rfl ?_
  refine x_iconst (v := 0) C dX5_measure_58 rfl ?_
  refine x_istore (lv' := [(10, .int 0), (9, .int 0), (8, .int 0), (0, .ref (ga G 5 0)), (1, .int x1), (4, .ref (ga G 5510 (tn x1))), (5, .int y5), (6, .int y6), (7, .int y7)]) C dX5_measure_59 (Nat.le_of_ble_eq_true rfl) rfl ?_
  refine x_iconst (v := 0) C dX5_measure_61 rfl ?_
  refine x_istore (lv' := [(11, .int 0), (10, .int 0), (9, .int 0), (8, .int 0), (0, .ref (ga G 5 0)), (1, .int x1), (4, .ref (ga G 5510 (tn x1))), (5, .int y5), (6, .int y6), (7, .int y7)]) C dX5_measure_62 (Nat.le_of_ble_eq_true rfl) rfl ?_
  refine x_aload_n C dX5_measure_64 4 rfl ?_
  refine x_iconst (v := 0) C dX5_measure_65 rfl ?_
  refine pf_5_4 C q7 z5 dX5_measure_66 ?_
  refine X_nameM (fun M7 eM7 => ?_)
  replace h := h M7 eM7
  refine x_iload C dX5_measure_69 7 rfl ?_
  refine x_istore (lv' := [(12, .int y5), (11, .int 0), (10, .int 0), (9, .int 0), (8, .int 0), (0, .ref (ga G 5 0)), (1, .int x1), (4, .ref (ga G 5510 (tn x1))), (5, .int y5), (6, .int y6), (7, .int y7)]) C dX5_measure_71 (Nat.le_of_ble_eq_true rfl) rfl ?_
  obtain ⟨n9, h⟩ := h
  refine X_sub (lv' := [(0, .ref (ga G 5 0)), (1, .int x1), (4, .ref (ga G 5510 (tn x1))), (5, .int y5), (6, .int y6), (7, .int y7), (8, .int 0), (9, .int 0), (10, .int 0), (11, .int 0), (12, .int y5)]) [5, 6, 7, 8, 9, 10, 4, 3, 2, 1, 0] rfl ?_
  have hb : ∀ (L : Mem × Int32 × Int32 × Int32 × Int32 × Int32 × Int32 × Int32 × Int32 → Prop) (s : Mem × Int32 × Int32 × Int32 × Int32 × Int32 × Int32 × Int32 × Int32), (∀ t, L t → X Γ G Qf 14 0 0 73 [(0, .ref (ga G 5 0)), (1, .int x1), (4, .ref (ga G 5510 (tn x1))), (5, .int t.2.1), (6, .int t.2.2.1), (7, .int t.2.2.2.1), (8, .int t.2.2.2.2.1), (9, .int t.2.2.2.2.2.1), (10, .int t.2.2.2.2.2.2.1), (11, .int t.2.2.2.2.2.2.2.1), (12, .int t.2.2.2.2.2.2.2.2)] [] t.1) → bX5_measure_73 x1 x2 x3 Q L s.1 s.2.1 s.2.2.1 s.2.2.2.1 s.2.2.2.2.1 s.2.2.2.2.2.1 s.2.2.2.2.2.2.1 s.2.2.2.2.2.2.2.1 s.2.2.2.2.2.2.2.2 → X Γ G Qf 14 0 0 73 [(0, .ref (ga G 5 0)), (1, .int x1), (4, .ref (ga G 5510 (tn x1))), (5, .int s.2.1), (6, .int s.2.2.1), (7, .int s.2.2.2.1), (8, .int s.2.2.2.2.1), (9, .int s.2.2.2.2.2.1), (10, .int s.2.2.2.2.2.2.1), (11, .int s.2.2.2.2.2.2.2.1), (12, .int s.2.2.2.2.2.2.2.2)] [] s.1 := fun L s hL h => wX5_measure_73 hG C E (g4) hL s.1 s.2.1 s.2.2.1 s.2.2.2.1 s.2.2.2.2.1 s.2.2.2.2.2.1 s.2.2.2.2.2.2.1 s.2.2.2.2.2.2.2.1 s.2.2.2.2.2.2.2.2 h
  have w9 := lp_walk (P := fun s : Mem × Int32 × Int32 × Int32 × Int32 × Int32 × Int32 × Int32 × Int32 => X Γ G Qf 14 0 0 73 [(0, .ref (ga G 5 0)), (1, .int x1), (4, .ref (ga G 5510 (tn x1))), (5, .int s.2.1), (6, .int s.2.2.1), (7, .int s.2.2.2.1), (8, .int s.2.2.2.2.1), (9, .int s.2.2.2.2.2.1), (10, .int s.2.2.2.2.2.2.1), (11, .int s.2.2.2.2.2.2.2.1), (12, .int s.2.2.2.2.2.2.2.2)] [] s.1) h hb
  dsimp only at w9
  exact w9
set_option maxRecDepth 100000 in
set_option maxHeartbeats 400000 in
theorem kX5_measure {l : Launch} {G : Gm} (hG : Gd G) (M : Mem) (x1 : Int32) (x2 : Int32) (x3 : Int32) {Q : Mem → Prop} (h : pX5_measure M x1 x2 x3 Q) : Ctv l G yX5_measure cX5_measure 14 rmX5_measure [.ref (ga G 5 0), .int x1, .int x2, .int x3] M Q := by
  refine ctv_of (own := RX5) (by decide +kernel) rfl (Nat.le_of_ble_eq_true rfl) hG (fun Γ Qf hl C E => ?_)
  subst hl
  show X Γ G Qf 14 0 0 0 [(0, .ref (ga G 5 0)), (1, .int x1), (2, .int x2), (3, .int x3)] [] M
  unfold pX5_measure at h
  refine x_aload_n C dX5_measure_0 0 rfl ?_
  refine gf_5_0 C q4 z5 dX5_measure_1 ?_
  refine gf_4_10 C q5 z4 dX5_measure_4 ?_
  refine x_iload_n C dX5_measure_7 1 rfl ?_
  obtain ⟨f1, h⟩ := h
  refine al_510 C z510 f1 dX5_measure_8 ?_
  refine x_astore (lv' := [(4, .ref (ga G 5510 (tn x1))), (0, .ref (ga G 5 0)), (1, .int x1), (2, .int x2), (3, .int x3)]) C dX5_measure_9 (Nat.le_of_ble_eq_true rfl) rfl ?_
  refine x_iload_n C dX5_measure_11 3 rfl ?_
  refine x_iload_n C dX5_measure_12 4 rfl ?_
  refine x_imul C dX5_measure_13 ?_
  refine X_name (fun v2 ev2 => ?_)
  replace h := h v2 ev2
  refine x_istore (lv' := [(5, .int v2), (4, .ref (ga G 5510 (tn x1))), (0, .ref (ga G 5 0)), (1, .int x1), (2, .int x2), (3, .int x3)]) C dX5_measure_14 (Nat.le_of_ble_eq_true rfl) rfl ?_
  refine x_iload C dX5_measure_16 0 rfl ?_
  refine x_iload_n C dX5_measure_18 5 rfl ?_
  refine x_iadd C dX5_measure_19 ?_
  refine x_aload_n C dX5_measure_20 2 rfl ?_
  refine gf_5_0 C q4 z5 dX5_measure_21 ?_
  refine gf_4_11 C q6 z4 dX5_measure_24 ?_
  refine x_iload_n C dX5_measure_27 3 rfl ?_
  refine al_511 C z511 f1 dX5_measure_28 ?_
  refine x_min C sm_X5_49 (Nat.le_of_ble_eq_true rfl) (Nat.le_of_ble_eq_true rfl) (Nat.le_of_ble_eq_true rfl) (Nat.le_of_ble_eq_true rfl) dX5_measure_29 ?_
  refine X_name (fun v3 ev3 => ?_)
  replace h := h v3 ev3
  refine x_istore (lv' := [(6, .int v3), (5, .int v2), (4, .ref (ga G 5510 (tn x1))), (0, .ref (ga G 5 0)), (1, .int x1), (2, .int x2), (3, .int x3)]) C dX5_measure_32 (Nat.le_of_ble_eq_true rfl) rfl ?_
  refine x_iload C dX5_measure_34 1 rfl ?_
  refine x_if_ne (tgt := 43) C dX5_measure_36 (by decide) (fun c4 => ?_) (fun c4 => ?_)
  · replace h := h.1 c4
    refine x_aload C dX5_measure_43 2 rfl ?_
    refine x_iload C dX5_measure_45 1 rfl ?_
    refine x_iconst (v := 1) C dX5_measure_47 rfl ?_
    refine x_isub C dX5_measure_48 ?_
    obtain ⟨f5, h⟩ := h
    refine al_5510 C (vp_lt f1) f5 dX5_measure_49 ?_
    refine X_name (fun v6 ev6 => ?_)
    replace h := h v6 ev6
    refine x_istore (lv' := [(7, .int v6), (6, .int v3), (5, .int v2), (4, .ref (ga G 5510 (tn x1))), (0, .ref (ga G 5 0)), (1, .int x1), (2, .int x2), (3, .int x3)]) C dX5_measure_50 (Nat.le_of_ble_eq_true rfl) rfl ?_
    refine X_sub (lv' := [(0, .ref (ga G 5 0)), (1, .int x1), (4, .ref (ga G 5510 (tn x1))), (5, .int v2), (6, .int v3), (7, .int v6)]) [4, 5, 3, 2, 1, 0] rfl ?_
    exact wX5_measure_52 hG C E ((vp_lt f1)) M v2 v3 v6 h
  · replace h := h.2 c4
    refine x_iconst (v := (-1)) C dX5_measure_39 rfl ?_
    refine x_goto (tgt := 50) C dX5_measure_40 (by decide) ?_
    refine x_istore (lv' := [(7, .int (-1)), (6, .int v3), (5, .int v2), (4, .ref (ga G 5510 (tn x1))), (0, .ref (ga G 5 0)), (1, .int x1), (2, .int x2), (3, .int x3)]) C dX5_measure_50 (Nat.le_of_ble_eq_true rfl) rfl ?_
    refine X_sub (lv' := [(0, .ref (ga G 5 0)), (1, .int x1), (4, .ref (ga G 5510 (tn x1))), (5, .int v2), (6, .int v3), (7, .int (-1))]) [4, 5, 3, 2, 1, 0] rfl ?_
    exact wX5_measure_52 hG C E ((vp_lt f1)) M v2 v3 (-1) h
def rmX0_start : Room := { frames := 2, cells := 0, slots := 0, locals := 56 }
def bX0_start_201 (i : Nat) (x1 : Int32) (x2 : Int32) (x3 : Int32) (Q : Mem → Prop) (M : Mem) : Prop :=
  ∀ M27 : Mem, M27 = up1 M 114 i 0 (-1) → ∀ M28 : Mem, M28 = up1 M27 115 i 0 0 → ∀ M29 : Mem, M29 = up1 M28 116 i 0 0 → Q M29
def bX0_start_180 (i : Nat) (x1 : Int32) (x2 : Int32) (x3 : Int32) (Q : Mem → Prop) (M : Mem) : Prop :=
  (((M.1 113 i 0) = 0 → ∀ M25 : Mem, M25 = up1 M 112 i 0 (M.1 102 i (tn 0)) → bX0_start_201 i x1 x2 x3 Q M25) ∧ (¬ (M.1 113 i 0) = 0 → ∀ M26 : Mem, M26 = up1 M 112 i 0 0 → bX0_start_201 i x1 x2 x3 Q M26))
def bX0_start_52 (i : Nat) (x1 : Int32) (x2 : Int32) (x3 : Int32) (Q : Mem → Prop) (L52 : Mem × Int32 × Int32 → Prop) (M : Mem) (y4 : Int32) (y5 : Int32) : Prop :=
  (((M.1 109 i 0) ≤ y5 → ∀ M10 : Mem, M10 = up1 M 110 i 0 ((M.1 108 i 0) * y4) → ∀ M11 : Mem, M11 = up1 M10 111 i 0 0 → ((¬ (M11.1 109 i 0) = 0 → ∀ M13 : Mem, M13 = up1 M11 113 i 0 0 → bX0_start_180 i x1 x2 x3 Q M13) ∧ ((M11.1 109 i 0) = 0 → ∀ M14 : Mem, M14 = up1 M11 113 i 0 1 → bX0_start_180 i x1 x2 x3 Q M14))) ∧ (¬ (M.1 109 i 0) ≤ y5 → pX5_measure M (M.1 106 i 0) y5 (M.1 107 i 0) (fun M16 => vp_in y5 32 ∧ ∀ M18 : Mem, M18 = up1 M16 102 i (tn y5) (M16.1 601 0 0) → ∀ M19 : Mem, M19 = up1 M18 103 i (tn y5) (M18.1 602 0 0) → ∀ M20 : Mem, M20 = up1 M19 104 i (tn y5) (M19.1 604 0 0) → ∀ M21 : Mem, M21 = up1 M20 105 i (tn y5) 0 → ∀ v22 : Int32, v22 = (imax y4 (M21.1 604 0 0)) → ∀ v23 : Int32, v23 = y5 + 1 → L52 (M21, v22, v23))))
def pX0_start (i : Nat) (M : Mem) (x1 : Int32) (x2 : Int32) (x3 : Int32) (Q : Mem → Prop) : Prop :=
  ∀ M1 : Mem, M1 = up1 M 106 i 0 x1 → ∀ M2 : Mem, M2 = up1 M1 107 i 0 x3 → pX4_rareOf M2 (M2.1 106 i 0) (fun r3 M4 => ∀ M5 : Mem, M5 = up1 M4 108 i 0 (x2 * r3) → pX4_blocksOf M5 (M5.1 106 i 0) (M5.1 107 i 0) (fun r6 M7 => ∀ M8 : Mem, M8 = up1 M7 109 i 0 r6 → ∃ n : Nat, lp (fun L s => bX0_start_52 i x1 x2 x3 Q L s.1 s.2.1 s.2.2) n (M8, 0, 0)))
set_option maxRecDepth 100000 in
set_option maxHeartbeats 400000 in
theorem wX0_start_201 {Γ : Gam} {G : Gm} {Qf : State → Prop} (hG : Gd G) (C : Cx Γ G cX0_start 6 RX0 none rmX0_start) {i : Nat} (hi : i < 24) {x1 : Int32} {x2 : Int32} {x3 : Int32} {Q : Mem → Prop} (E : EndV Γ G Qf rmX0_start Q) (M : Mem) (h : bX0_start_201 i x1 x2 x3 Q M) : X Γ G Qf 6 0 0 201 [(0, .ref (ga G 0 i))] [] M := by
  unfold bX0_start_201 at h
  refine x_aload_n C dX0_start_201 0 rfl ?_
  refine x_iconst (v := (-1)) C dX0_start_202 rfl ?_
  refine pf_0_14 C q34 hi dX0_start_203 ?_
  refine X_nameM (fun M27 eM27 => ?_)
  replace h := h M27 eM27
  refine x_aload_n C dX0_start_206 0 rfl ?_
  refine x_iconst (v := 0) C dX0_start_207 rfl ?_
  refine pf_0_15 C q35 hi dX0_start_208 ?_
  refine X_nameM (fun M28 eM28 => ?_)
  replace h := h M28 eM28
  refine x_aload_n C dX0_start_211 0 rfl ?_
  refine x_iconst (v := 0) C dX0_start_212 rfl ?_
  refine pf_0_16 C q36 hi dX0_start_213 ?_
  refine X_nameM (fun M29 eM29 => ?_)
  replace h := h M29 eM29
  exact x_vret C E h (Nat.le_of_ble_eq_true rfl) (Nat.le_of_ble_eq_true rfl) dX0_start_216
set_option maxRecDepth 100000 in
set_option maxHeartbeats 400000 in
theorem wX0_start_180 {Γ : Gam} {G : Gm} {Qf : State → Prop} (hG : Gd G) (C : Cx Γ G cX0_start 6 RX0 none rmX0_start) {i : Nat} (hi : i < 24) {x1 : Int32} {x2 : Int32} {x3 : Int32} {Q : Mem → Prop} (E : EndV Γ G Qf rmX0_start Q) (M : Mem) (h : bX0_start_180 i x1 x2 x3 Q M) : X Γ G Qf 6 0 0 180 [(0, .ref (ga G 0 i))] [] M := by
  unfold bX0_start_180 at h
  refine x_aload_n C dX0_start_180 0 rfl ?_
  refine x_aload_n C dX0_start_181 0 rfl ?_
  refine gf_0_13 C q24 hi dX0_start_182 ?_
  refine x_if_eq (tgt := 192) C dX0_start_185 (by decide) (fun c24 => ?_) (fun c24 => ?_)
  · replace h := h.1 c24
    refine x_aload_n C dX0_start_192 0 rfl ?_
    refine gf_0_2 C q26 hi dX0_start_193 ?_
    refine x_iconst (v := 0) C dX0_start_196 rfl ?_
    refine al_102 C hi (vp_l (by decide)) dX0_start_197 ?_
    refine pf_0_12 C q33 hi dX0_start_198 ?_
    refine X_nameM (fun M25 eM25 => ?_)
    replace h := h M25 eM25
    refine X_sub (lv' := [(0, .ref (ga G 0 i))]) [0] rfl ?_
    exact wX0_start_201 hG C hi E M25 h
  · replace h := h.2 c24
    refine x_iconst (v := 0) C dX0_start_188 rfl ?_
    refine x_goto (tgt := 198) C dX0_start_189 (by decide) ?_
    refine pf_0_12 C q33 hi dX0_start_198 ?_
    refine X_nameM (fun M26 eM26 => ?_)
    replace h := h M26 eM26
    refine X_sub (lv' := [(0, .ref (ga G 0 i))]) [0] rfl ?_
    exact wX0_start_201 hG C hi E M26 h
set_option maxRecDepth 100000 in
set_option maxHeartbeats 400000 in
theorem wX0_start_52 {Γ : Gam} {G : Gm} {Qf : State → Prop} (hG : Gd G) (C : Cx Γ G cX0_start 6 RX0 none rmX0_start) {i : Nat} (hi : i < 24) {x1 : Int32} {x2 : Int32} {x3 : Int32} {Q : Mem → Prop} (E : EndV Γ G Qf rmX0_start Q) {L52 : Mem × Int32 × Int32 → Prop} (hL52 : ∀ s, L52 s → X Γ G Qf 6 0 0 52 [(0, .ref (ga G 0 i)), (4, .int s.2.1), (5, .int s.2.2)] [] s.1) (M : Mem) (y4 : Int32) (y5 : Int32) (h : bX0_start_52 i x1 x2 x3 Q L52 M y4 y5) : X Γ G Qf 6 0 0 52 [(0, .ref (ga G 0 i)), (4, .int y4), (5, .int y5)] [] M := by
  unfold bX0_start_52 at h
  refine x_iload C dX0_start_52 2 rfl ?_
  refine x_aload_n C dX0_start_54 0 rfl ?_
  refine gf_0_9 C q21 hi dX0_start_55 ?_
  refine x_icmp_ge (tgt := 148) C dX0_start_58 (by decide) (fun c9 => ?_) (fun c9 => ?_)
  · replace h := h.1 c9
    refine x_aload_n C dX0_start_148 0 rfl ?_
    refine x_aload_n C dX0_start_149 0 rfl ?_
    refine gf_0_8 C q20 hi dX0_start_150 ?_
    refine x_iload C dX0_start_153 1 rfl ?_
    refine x_imul C dX0_start_155 ?_
    refine pf_0_10 C q22 hi dX0_start_156 ?_
    refine X_nameM (fun M10 eM10 => ?_)
    replace h := h M10 eM10
    refine x_aload_n C dX0_start_159 0 rfl ?_
    refine x_iconst (v := 0) C dX0_start_160 rfl ?_
    refine pf_0_11 C q23 hi dX0_start_161 ?_
    refine X_nameM (fun M11 eM11 => ?_)
    replace h := h M11 eM11
    refine x_aload_n C dX0_start_164 0 rfl ?_
    refine x_aload_n C dX0_start_165 0 rfl ?_
    refine gf_0_9 C q21 hi dX0_start_166 ?_
    refine x_if_ne (tgt := 176) C dX0_start_169 (by decide) (fun c12 => ?_) (fun c12 => ?_)
    · replace h := h.1 c12
      refine x_iconst (v := 0) C dX0_start_176 rfl ?_
      refine pf_0_13 C q24 hi (Or.inl rfl) dX0_start_177 ?_
      refine X_nameM (fun M13 eM13 => ?_)
      replace h := h M13 eM13
      refine X_sub (lv' := [(0, .ref (ga G 0 i))]) [0] rfl ?_
      exact wX0_start_180 hG C hi E M13 h
    · replace h := h.2 c12
      refine x_iconst (v := 1) C dX0_start_172 rfl ?_
      refine x_goto (tgt := 177) C dX0_start_173 (by decide) ?_
      refine pf_0_13 C q24 hi (Or.inr rfl) dX0_start_177 ?_
      refine X_nameM (fun M14 eM14 => ?_)
      replace h := h M14 eM14
      refine X_sub (lv' := [(0, .ref (ga G 0 i))]) [0] rfl ?_
      exact wX0_start_180 hG C hi E M14 h
  · replace h := h.2 c9
    refine x_aload_n C dX0_start_61 0 rfl ?_
    refine gf_0_1 C q25 hi dX0_start_62 ?_
    refine x_aload_n C dX0_start_65 0 rfl ?_
    refine gf_0_6 C q17 hi dX0_start_66 ?_
    refine x_iload C dX0_start_69 2 rfl ?_
    refine x_aload_n C dX0_start_71 0 rfl ?_
    refine gf_0_7 C q18 hi dX0_start_72 ?_
    refine x_callv (rest := []) C sv_X0_77 ob5 z5 (kX5_measure hG _ _ _ _ h) rfl rfl (Nat.le_of_ble_eq_true rfl) ⟨Nat.le_of_ble_eq_true rfl, Nat.le_of_ble_eq_true rfl⟩ rfl rfl ⟨Nat.le_of_ble_eq_true rfl, Nat.le_of_ble_eq_true rfl⟩ dX0_start_75 (fun M16 h => ?_)
    refine x_aload_n C dX0_start_78 0 rfl ?_
    refine gf_0_2 C q26 hi dX0_start_79 ?_
    refine x_iload C dX0_start_82 2 rfl ?_
    refine x_aload_n C dX0_start_84 0 rfl ?_
    refine gf_0_1 C q25 hi dX0_start_85 ?_
    refine gf_5_1 C q27 z5 dX0_start_88 ?_
    obtain ⟨f17, h⟩ := h
    refine as_102 C hi f17 dX0_start_91 ?_
    refine X_nameM (fun M18 eM18 => ?_)
    replace h := h M18 eM18
    refine x_aload_n C dX0_start_92 0 rfl ?_
    refine gf_0_3 C q28 hi dX0_start_93 ?_
    refine x_iload C dX0_start_96 2 rfl ?_
    refine x_aload_n C dX0_start_98 0 rfl ?_
    refine gf_0_1 C q25 hi dX0_start_99 ?_
    refine gf_5_2 C q29 z5 dX0_start_102 ?_
    refine as_103 C hi f17 dX0_start_105 ?_
    refine X_nameM (fun M19 eM19 => ?_)
    replace h := h M19 eM19
    refine x_aload_n C dX0_start_106 0 rfl ?_
    refine gf_0_4 C q30 hi dX0_start_107 ?_
    refine x_iload C dX0_start_110 2 rfl ?_
    refine x_aload_n C dX0_start_112 0 rfl ?_
    refine gf_0_1 C q25 hi dX0_start_113 ?_
    refine gf_5_4 C q31 z5 dX0_start_116 ?_
    refine as_104 C hi f17 dX0_start_119 ?_
    refine X_nameM (fun M20 eM20 => ?_)
    replace h := h M20 eM20
    refine x_aload_n C dX0_start_120 0 rfl ?_
    refine gf_0_5 C q32 hi dX0_start_121 ?_
    refine x_iload C dX0_start_124 2 rfl ?_
    refine x_iconst (v := 0) C dX0_start_126 rfl ?_
    refine as_105 C hi f17 dX0_start_127 ?_
    refine X_nameM (fun M21 eM21 => ?_)
    replace h := h M21 eM21
    refine x_iload C dX0_start_128 1 rfl ?_
    refine x_aload_n C dX0_start_130 0 rfl ?_
    refine gf_0_1 C q25 hi dX0_start_131 ?_
    refine gf_5_4 C q31 z5 dX0_start_134 ?_
    refine x_max C sm_X0_92 (Nat.le_of_ble_eq_true rfl) (Nat.le_of_ble_eq_true rfl) (Nat.le_of_ble_eq_true rfl) (Nat.le_of_ble_eq_true rfl) dX0_start_137 ?_
    refine X_name (fun v22 ev22 => ?_)
    replace h := h v22 ev22
    refine x_istore (lv' := [(4, .int v22), (0, .ref (ga G 0 i)), (5, .int y5)]) C dX0_start_140 (Nat.le_of_ble_eq_true rfl) rfl ?_
    obtain ⟨v23, ev23⟩ : ∃ z : Int32, z = y5 + 1 := ⟨_, rfl⟩
    replace h := h v23 ev23
    refine x_iinc (v := v23) (lv' := [(5, .int v23), (4, .int v22), (0, .ref (ga G 0 i))]) (j := 2) C dX0_start_142 rfl (by rw [ev23]; rfl) (Nat.le_of_ble_eq_true rfl) rfl ?_
    refine x_goto (tgt := 52) C dX0_start_145 (by decide) ?_
    refine X_sub (lv' := [(0, .ref (ga G 0 i)), (4, .int v22), (5, .int v23)]) [2, 1, 0] rfl ?_
    have w9 := hL52 (M21, v22, v23) h
    dsimp only at w9
    exact w9
set_option maxRecDepth 100000 in
set_option maxHeartbeats 400000 in
theorem kX0_start {l : Launch} {G : Gm} (hG : Gd G) {i : Nat} (hi : i < 24) (M : Mem) (x1 : Int32) (x2 : Int32) (x3 : Int32) {Q : Mem → Prop} (h : pX0_start i M x1 x2 x3 Q) : Ctv l G yX0_start cX0_start 6 rmX0_start [.ref (ga G 0 i), .int x1, .int x2, .int x3] M Q := by
  refine ctv_of (own := RX0) (by decide +kernel) rfl (Nat.le_of_ble_eq_true rfl) hG (fun Γ Qf hl C E => ?_)
  subst hl
  show X Γ G Qf 6 0 0 0 [(0, .ref (ga G 0 i)), (1, .int x1), (2, .int x2), (3, .int x3)] [] M
  unfold pX0_start at h
  refine x_aload_n C dX0_start_0 0 rfl ?_
  refine x_iload_n C dX0_start_1 1 rfl ?_
  refine pf_0_6 C q17 hi dX0_start_2 ?_
  refine X_nameM (fun M1 eM1 => ?_)
  replace h := h M1 eM1
  refine x_aload_n C dX0_start_5 0 rfl ?_
  refine x_iload_n C dX0_start_6 3 rfl ?_
  refine pf_0_7 C q18 hi dX0_start_7 ?_
  refine X_nameM (fun M2 eM2 => ?_)
  replace h := h M2 eM2
  refine x_aload_n C dX0_start_10 0 rfl ?_
  refine x_iload_n C dX0_start_11 2 rfl ?_
  refine x_aload_n C dX0_start_12 0 rfl ?_
  refine gf_0_0 C q19 hi dX0_start_13 ?_
  refine x_aload_n C dX0_start_16 0 rfl ?_
  refine gf_0_6 C q17 hi dX0_start_17 ?_
  refine x_calli (rest := [.int x2, .ref (ga G 0 i)]) C sv_X0_67 ob4 z4 (kX4_rareOf hG _ _ h) rfl rfl (Nat.le_of_ble_eq_true rfl) ⟨Nat.le_of_ble_eq_true rfl, Nat.le_of_ble_eq_true rfl⟩ rfl rfl ⟨Nat.le_of_ble_eq_true rfl, Nat.le_of_ble_eq_true rfl⟩ dX0_start_20 (fun r3 M4 h => ?_)
  refine x_imul C dX0_start_23 ?_
  refine pf_0_8 C q20 hi dX0_start_24 ?_
  refine X_nameM (fun M5 eM5 => ?_)
  replace h := h M5 eM5
  refine x_aload_n C dX0_start_27 0 rfl ?_
  refine x_aload_n C dX0_start_28 0 rfl ?_
  refine gf_0_0 C q19 hi dX0_start_29 ?_
  refine x_aload_n C dX0_start_32 0 rfl ?_
  refine gf_0_6 C q17 hi dX0_start_33 ?_
  refine x_aload_n C dX0_start_36 0 rfl ?_
  refine gf_0_7 C q18 hi dX0_start_37 ?_
  refine x_calli (rest := [.ref (ga G 0 i)]) C sv_X0_73 ob4 z4 (kX4_blocksOf hG _ _ _ h) rfl rfl (Nat.le_of_ble_eq_true rfl) ⟨Nat.le_of_ble_eq_true rfl, Nat.le_of_ble_eq_true rfl⟩ rfl rfl ⟨Nat.le_of_ble_eq_true rfl, Nat.le_of_ble_eq_true rfl⟩ dX0_start_40 (fun r6 M7 h => ?_)
  refine pf_0_9 C q21 hi dX0_start_43 ?_
  refine X_nameM (fun M8 eM8 => ?_)
  replace h := h M8 eM8
  refine x_iconst (v := 0) C dX0_start_46 rfl ?_
  refine x_istore (lv' := [(4, .int 0), (0, .ref (ga G 0 i)), (1, .int x1), (2, .int x2), (3, .int x3)]) C dX0_start_47 (Nat.le_of_ble_eq_true rfl) rfl ?_
  refine x_iconst (v := 0) C dX0_start_49 rfl ?_
  refine x_istore (lv' := [(5, .int 0), (4, .int 0), (0, .ref (ga G 0 i)), (1, .int x1), (2, .int x2), (3, .int x3)]) C dX0_start_50 (Nat.le_of_ble_eq_true rfl) rfl ?_
  obtain ⟨n9, h⟩ := h
  refine X_sub (lv' := [(0, .ref (ga G 0 i)), (4, .int 0), (5, .int 0)]) [2, 1, 0] rfl ?_
  have hb : ∀ (L : Mem × Int32 × Int32 → Prop) (s : Mem × Int32 × Int32), (∀ t, L t → X Γ G Qf 6 0 0 52 [(0, .ref (ga G 0 i)), (4, .int t.2.1), (5, .int t.2.2)] [] t.1) → bX0_start_52 i x1 x2 x3 Q L s.1 s.2.1 s.2.2 → X Γ G Qf 6 0 0 52 [(0, .ref (ga G 0 i)), (4, .int s.2.1), (5, .int s.2.2)] [] s.1 := fun L s hL h => wX0_start_52 hG C hi E hL s.1 s.2.1 s.2.2 h
  have w9 := lp_walk (P := fun s : Mem × Int32 × Int32 => X Γ G Qf 6 0 0 52 [(0, .ref (ga G 0 i)), (4, .int s.2.1), (5, .int s.2.2)] [] s.1) h hb
  dsimp only at w9
  exact w9
def rmX0_blockReaching : Room := { frames := 0, cells := 0, slots := 0, locals := 0 }
def bX0_blockReaching_5 (i : Nat) (x1 : Int32) (Q : Int32 → Mem → Prop) (L5 : Mem × Int32 → Prop) (M : Mem) (y2 : Int32) : Prop :=
  (((M.1 109 i 0) ≤ y2 → Q y2 M) ∧ (¬ (M.1 109 i 0) ≤ y2 → vp_in y2 32 ∧ ((x1 ≤ (M.1 103 i (tn y2)) → Q y2 M) ∧ (¬ x1 ≤ (M.1 103 i (tn y2)) → ∀ v5 : Int32, v5 = y2 + 1 → L5 (M, v5)))))
def pX0_blockReaching (i : Nat) (M : Mem) (x1 : Int32) (Q : Int32 → Mem → Prop) : Prop :=
  ∀ v1 : Int32, v1 = (M.1 111 i 0) → ∃ n : Nat, lp (fun L s => bX0_blockReaching_5 i x1 Q L s.1 s.2) n (M, v1)
set_option maxRecDepth 100000 in
set_option maxHeartbeats 400000 in
theorem wX0_blockReaching_5 {Γ : Gam} {G : Gm} {Qf : State → Prop} (hG : Gd G) (C : Cx Γ G cX0_blockReaching 3 RX0 (some .int) rmX0_blockReaching) {i : Nat} (hi : i < 24) {x1 : Int32} {Q : Int32 → Mem → Prop} (E : EndI Γ G Qf rmX0_blockReaching Q) {L5 : Mem × Int32 → Prop} (hL5 : ∀ s, L5 s → X Γ G Qf 3 0 0 5 [(0, .ref (ga G 0 i)), (1, .int x1), (2, .int s.2)] [] s.1) (M : Mem) (y2 : Int32) (h : bX0_blockReaching_5 i x1 Q L5 M y2) : X Γ G Qf 3 0 0 5 [(0, .ref (ga G 0 i)), (1, .int x1), (2, .int y2)] [] M := by
  unfold bX0_blockReaching_5 at h
  refine x_iload_n C dX0_blockReaching_5 2 rfl ?_
  refine x_aload_n C dX0_blockReaching_6 0 rfl ?_
  refine gf_0_9 C q21 hi dX0_blockReaching_7 ?_
  refine x_icmp_ge (tgt := 29) C dX0_blockReaching_10 (by decide) (fun c2 => ?_) (fun c2 => ?_)
  · replace h := h.1 c2
    refine x_iload_n C dX0_blockReaching_29 2 rfl ?_
    exact x_iret C E h (Nat.le_of_ble_eq_true rfl) (Nat.le_of_ble_eq_true rfl) dX0_blockReaching_30
  · replace h := h.2 c2
    refine x_aload_n C dX0_blockReaching_13 0 rfl ?_
    refine gf_0_3 C q28 hi dX0_blockReaching_14 ?_
    refine x_iload_n C dX0_blockReaching_17 2 rfl ?_
    obtain ⟨f3, h⟩ := h
    refine al_103 C hi f3 dX0_blockReaching_18 ?_
    refine x_iload_n C dX0_blockReaching_19 1 rfl ?_
    refine x_icmp_ge (tgt := 29) C dX0_blockReaching_20 (by decide) (fun c4 => ?_) (fun c4 => ?_)
    · replace h := h.1 c4
      refine x_iload_n C dX0_blockReaching_29 2 rfl ?_
      exact x_iret C E h (Nat.le_of_ble_eq_true rfl) (Nat.le_of_ble_eq_true rfl) dX0_blockReaching_30
    · replace h := h.2 c4
      obtain ⟨v5, ev5⟩ : ∃ z : Int32, z = y2 + 1 := ⟨_, rfl⟩
      replace h := h v5 ev5
      refine x_iinc (v := v5) (lv' := [(2, .int v5), (0, .ref (ga G 0 i)), (1, .int x1)]) (j := 2) C dX0_blockReaching_23 rfl (by rw [ev5]; rfl) (Nat.le_of_ble_eq_true rfl) rfl ?_
      refine x_goto (tgt := 5) C dX0_blockReaching_26 (by decide) ?_
      refine X_sub (lv' := [(0, .ref (ga G 0 i)), (1, .int x1), (2, .int v5)]) [1, 2, 0] rfl ?_
      have w9 := hL5 (M, v5) h
      dsimp only at w9
      exact w9
set_option maxRecDepth 100000 in
set_option maxHeartbeats 400000 in
theorem kX0_blockReaching {l : Launch} {G : Gm} (hG : Gd G) {i : Nat} (hi : i < 24) (M : Mem) (x1 : Int32) {Q : Int32 → Mem → Prop} (h : pX0_blockReaching i M x1 Q) : Cti l G yX0_blockReaching cX0_blockReaching 3 .int rmX0_blockReaching [.ref (ga G 0 i), .int x1] M Q := by
  refine cti_of (own := RX0) (by decide +kernel) rfl (Nat.le_of_ble_eq_true rfl) hG (fun Γ Qf hl C E => ?_)
  subst hl
  show X Γ G Qf 3 0 0 0 [(0, .ref (ga G 0 i)), (1, .int x1)] [] M
  unfold pX0_blockReaching at h
  refine x_aload_n C dX0_blockReaching_0 0 rfl ?_
  refine gf_0_11 C q23 hi dX0_blockReaching_1 ?_
  refine X_name (fun v1 ev1 => ?_)
  replace h := h v1 ev1
  refine x_istore_n (lv' := [(2, .int v1), (0, .ref (ga G 0 i)), (1, .int x1)]) C dX0_blockReaching_4 rfl (Nat.le_of_ble_eq_true rfl) rfl ?_
  obtain ⟨n9, h⟩ := h
  refine X_sub (lv' := [(0, .ref (ga G 0 i)), (1, .int x1), (2, .int v1)]) [1, 2, 0] rfl ?_
  have hb : ∀ (L : Mem × Int32 → Prop) (s : Mem × Int32), (∀ t, L t → X Γ G Qf 3 0 0 5 [(0, .ref (ga G 0 i)), (1, .int x1), (2, .int t.2)] [] t.1) → bX0_blockReaching_5 i x1 Q L s.1 s.2 → X Γ G Qf 3 0 0 5 [(0, .ref (ga G 0 i)), (1, .int x1), (2, .int s.2)] [] s.1 := fun L s hL h => wX0_blockReaching_5 hG C hi E hL s.1 s.2 h
  have w9 := lp_walk (P := fun s : Mem × Int32 => X Γ G Qf 3 0 0 5 [(0, .ref (ga G 0 i)), (1, .int x1), (2, .int s.2)] [] s.1) h hb
  dsimp only at w9
  exact w9
def rmX0_dip : Room := { frames := 1, cells := 0, slots := 0, locals := 22 }
def bX0_dip_29 (i : Nat) (x1 : Int32) (Q : Mem → Prop) (M : Mem) : Prop :=
  ((¬ (M.1 113 i 0) = 0 → Q M) ∧ ((M.1 113 i 0) = 0 → vp_in (M.1 111 i 0) 32 ∧ ∀ M9 : Mem, M9 = up1 M 112 i 0 (imax x1 (M.1 102 i (tn (M.1 111 i 0)))) → Q M9))
def pX0_dip (i : Nat) (M : Mem) (x1 : Int32) (Q : Mem → Prop) : Prop :=
  pX0_blockReaching i M x1 (fun r1 M2 => ∀ M3 : Mem, M3 = up1 M2 111 i 0 r1 → (((M3.1 111 i 0) < (M3.1 109 i 0) → ∀ M5 : Mem, M5 = up1 M3 113 i 0 0 → bX0_dip_29 i x1 Q M5) ∧ (¬ (M3.1 111 i 0) < (M3.1 109 i 0) → ∀ M6 : Mem, M6 = up1 M3 113 i 0 1 → bX0_dip_29 i x1 Q M6)))
set_option maxRecDepth 100000 in
set_option maxHeartbeats 400000 in
theorem wX0_dip_29 {Γ : Gam} {G : Gm} {Qf : State → Prop} (hG : Gd G) (C : Cx Γ G cX0_dip 2 RX0 none rmX0_dip) {i : Nat} (hi : i < 24) {x1 : Int32} {Q : Mem → Prop} (E : EndV Γ G Qf rmX0_dip Q) (M : Mem) (h : bX0_dip_29 i x1 Q M) : X Γ G Qf 2 0 0 29 [(0, .ref (ga G 0 i)), (1, .int x1)] [] M := by
  unfold bX0_dip_29 at h
  refine x_aload_n C dX0_dip_29 0 rfl ?_
  refine gf_0_13 C q24 hi dX0_dip_30 ?_
  refine x_if_ne (tgt := 53) C dX0_dip_33 (by decide) (fun c7 => ?_) (fun c7 => ?_)
  · replace h := h.1 c7
    exact x_vret C E h (Nat.le_of_ble_eq_true rfl) (Nat.le_of_ble_eq_true rfl) dX0_dip_53
  · replace h := h.2 c7
    refine x_aload_n C dX0_dip_36 0 rfl ?_
    refine x_iload_n C dX0_dip_37 1 rfl ?_
    refine x_aload_n C dX0_dip_38 0 rfl ?_
    refine gf_0_2 C q26 hi dX0_dip_39 ?_
    refine x_aload_n C dX0_dip_42 0 rfl ?_
    refine gf_0_11 C q23 hi dX0_dip_43 ?_
    obtain ⟨f8, h⟩ := h
    refine al_102 C hi f8 dX0_dip_46 ?_
    refine x_max C sm_X0_92 (Nat.le_of_ble_eq_true rfl) (Nat.le_of_ble_eq_true rfl) (Nat.le_of_ble_eq_true rfl) (Nat.le_of_ble_eq_true rfl) dX0_dip_47 ?_
    refine pf_0_12 C q33 hi dX0_dip_50 ?_
    refine X_nameM (fun M9 eM9 => ?_)
    replace h := h M9 eM9
    exact x_vret C E h (Nat.le_of_ble_eq_true rfl) (Nat.le_of_ble_eq_true rfl) dX0_dip_53
set_option maxRecDepth 100000 in
set_option maxHeartbeats 400000 in
theorem kX0_dip {l : Launch} {G : Gm} (hG : Gd G) {i : Nat} (hi : i < 24) (M : Mem) (x1 : Int32) {Q : Mem → Prop} (h : pX0_dip i M x1 Q) : Ctv l G yX0_dip cX0_dip 2 rmX0_dip [.ref (ga G 0 i), .int x1] M Q := by
  refine ctv_of (own := RX0) (by decide +kernel) rfl (Nat.le_of_ble_eq_true rfl) hG (fun Γ Qf hl C E => ?_)
  subst hl
  show X Γ G Qf 2 0 0 0 [(0, .ref (ga G 0 i)), (1, .int x1)] [] M
  unfold pX0_dip at h
  refine x_aload_n C dX0_dip_0 0 rfl ?_
  refine x_aload_n C dX0_dip_1 0 rfl ?_
  refine x_iload_n C dX0_dip_2 1 rfl ?_
  refine x_calli (rest := [.ref (ga G 0 i)]) C sv_X0_97 ob0 hi (kX0_blockReaching hG hi _ _ h) rfl rfl (Nat.le_of_ble_eq_true rfl) ⟨Nat.le_of_ble_eq_true rfl, Nat.le_of_ble_eq_true rfl⟩ rfl rfl ⟨Nat.le_of_ble_eq_true rfl, Nat.le_of_ble_eq_true rfl⟩ dX0_dip_3 (fun r1 M2 h => ?_)
  refine pf_0_11 C q23 hi dX0_dip_6 ?_
  refine X_nameM (fun M3 eM3 => ?_)
  replace h := h M3 eM3
  refine x_aload_n C dX0_dip_9 0 rfl ?_
  refine x_aload_n C dX0_dip_10 0 rfl ?_
  refine gf_0_11 C q23 hi dX0_dip_11 ?_
  refine x_aload_n C dX0_dip_14 0 rfl ?_
  refine gf_0_9 C q21 hi dX0_dip_15 ?_
  refine x_icmp_lt (tgt := 25) C dX0_dip_18 (by decide) (fun c4 => ?_) (fun c4 => ?_)
  · replace h := h.1 c4
    refine x_iconst (v := 0) C dX0_dip_25 rfl ?_
    refine pf_0_13 C q24 hi (Or.inl rfl) dX0_dip_26 ?_
    refine X_nameM (fun M5 eM5 => ?_)
    replace h := h M5 eM5
    refine X_sub (lv' := [(0, .ref (ga G 0 i)), (1, .int x1)]) [0, 1] rfl ?_
    exact wX0_dip_29 hG C hi E M5 h
  · replace h := h.2 c4
    refine x_iconst (v := 1) C dX0_dip_21 rfl ?_
    refine x_goto (tgt := 26) C dX0_dip_22 (by decide) ?_
    refine pf_0_13 C q24 hi (Or.inr rfl) dX0_dip_26 ?_
    refine X_nameM (fun M6 eM6 => ?_)
    replace h := h M6 eM6
    refine X_sub (lv' := [(0, .ref (ga G 0 i)), (1, .int x1)]) [0, 1] rfl ?_
    exact wX0_dip_29 hG C hi E M6 h
def rmX0_open : Room := { frames := 1, cells := 0, slots := 0, locals := 15 }
def pX0_open (i : Nat) (M : Mem) (Q : Mem → Prop) : Prop :=
  (((M.1 114 i 0) = (M.1 111 i 0) → Q M) ∧ (¬ (M.1 114 i 0) = (M.1 111 i 0) → ∀ M2 : Mem, M2 = up1 M 114 i 0 (M.1 111 i 0) → vp_in (M2.1 111 i 0) 32 ∧ ∀ M4 : Mem, M4 = up1 M2 105 i (tn (M2.1 111 i 0)) ((M2.1 105 i (tn (M2.1 111 i 0))) + 1) → ∀ M5 : Mem, M5 = up1 M4 115 i 0 ((M4.1 115 i 0) + 1) → vp_in (M5.1 106 i 0) 255 ∧ ∀ M7 : Mem, M7 = up1 M5 116 i 0 ((M5.1 116 i 0) + (imin (M5.1 107 i 0) ((M5.1 511 0 (tn (M5.1 106 i 0))) - ((M5.1 111 i 0) * (M5.1 107 i 0))))) → Q M7))
set_option maxRecDepth 100000 in
set_option maxHeartbeats 400000 in
theorem kX0_open {l : Launch} {G : Gm} (hG : Gd G) {i : Nat} (hi : i < 24) (M : Mem)  {Q : Mem → Prop} (h : pX0_open i M Q) : Ctv l G yX0_open cX0_open 1 rmX0_open [.ref (ga G 0 i)] M Q := by
  refine ctv_of (own := RX0) (by decide +kernel) rfl (Nat.le_of_ble_eq_true rfl) hG (fun Γ Qf hl C E => ?_)
  subst hl
  show X Γ G Qf 1 0 0 0 [(0, .ref (ga G 0 i))] [] M
  unfold pX0_open at h
  refine x_aload_n C dX0_open_0 0 rfl ?_
  refine gf_0_14 C q34 hi dX0_open_1 ?_
  refine x_aload_n C dX0_open_4 0 rfl ?_
  refine gf_0_11 C q23 hi dX0_open_5 ?_
  refine x_icmp_eq (tgt := 80) C dX0_open_8 (by decide) (fun c1 => ?_) (fun c1 => ?_)
  · replace h := h.1 c1
    exact x_vret C E h (Nat.le_of_ble_eq_true rfl) (Nat.le_of_ble_eq_true rfl) dX0_open_80
  · replace h := h.2 c1
    refine x_aload_n C dX0_open_11 0 rfl ?_
    refine x_aload_n C dX0_open_12 0 rfl ?_
    refine gf_0_11 C q23 hi dX0_open_13 ?_
    refine pf_0_14 C q34 hi dX0_open_16 ?_
    refine X_nameM (fun M2 eM2 => ?_)
    replace h := h M2 eM2
    refine x_aload_n C dX0_open_19 0 rfl ?_
    refine gf_0_5 C q32 hi dX0_open_20 ?_
    refine x_aload_n C dX0_open_23 0 rfl ?_
    refine gf_0_11 C q23 hi dX0_open_24 ?_
    refine x_dup2 C dX0_open_27 rfl rfl ?_
    obtain ⟨f3, h⟩ := h
    refine al_105 C hi f3 dX0_open_28 ?_
    refine x_iconst (v := 1) C dX0_open_29 rfl ?_
    refine x_iadd C dX0_open_30 ?_
    refine as_105 C hi f3 dX0_open_31 ?_
    refine X_nameM (fun M4 eM4 => ?_)
    replace h := h M4 eM4
    refine x_aload_n C dX0_open_32 0 rfl ?_
    refine x_dup C dX0_open_33 rfl ?_
    refine gf_0_15 C q35 hi dX0_open_34 ?_
    refine x_iconst (v := 1) C dX0_open_37 rfl ?_
    refine x_iadd C dX0_open_38 ?_
    refine pf_0_15 C q35 hi dX0_open_39 ?_
    refine X_nameM (fun M5 eM5 => ?_)
    replace h := h M5 eM5
    refine x_aload_n C dX0_open_42 0 rfl ?_
    refine x_dup C dX0_open_43 rfl ?_
    refine gf_0_16 C q36 hi dX0_open_44 ?_
    refine x_aload_n C dX0_open_47 0 rfl ?_
    refine gf_0_7 C q18 hi dX0_open_48 ?_
    refine x_aload_n C dX0_open_51 0 rfl ?_
    refine gf_0_0 C q19 hi dX0_open_52 ?_
    refine gf_4_11 C q37 z4 dX0_open_55 ?_
    refine x_aload_n C dX0_open_58 0 rfl ?_
    refine gf_0_6 C q17 hi dX0_open_59 ?_
    obtain ⟨f6, h⟩ := h
    refine al_511 C z511 f6 dX0_open_62 ?_
    refine x_aload_n C dX0_open_63 0 rfl ?_
    refine gf_0_11 C q23 hi dX0_open_64 ?_
    refine x_aload_n C dX0_open_67 0 rfl ?_
    refine gf_0_7 C q18 hi dX0_open_68 ?_
    refine x_imul C dX0_open_71 ?_
    refine x_isub C dX0_open_72 ?_
    refine x_min C sm_X0_113 (Nat.le_of_ble_eq_true rfl) (Nat.le_of_ble_eq_true rfl) (Nat.le_of_ble_eq_true rfl) (Nat.le_of_ble_eq_true rfl) dX0_open_73 ?_
    refine x_iadd C dX0_open_76 ?_
    refine pf_0_16 C q36 hi dX0_open_77 ?_
    refine X_nameM (fun M7 eM7 => ?_)
    replace h := h M7 eM7
    exact x_vret C E h (Nat.le_of_ble_eq_true rfl) (Nat.le_of_ble_eq_true rfl) dX0_open_80
