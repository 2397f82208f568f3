def rmX11_top : Room := { frames := 1, cells := 0, slots := 0, locals := 22 }
def bX11_top_6 (x1 : Int32) (x2 : Int32) (x3 : Int32) (Q : Int32 → Mem → Prop) (L6 : Mem × Int32 × Int32 → Prop) (M : Mem) (y4 : Int32) (y5 : Int32) : Prop :=
  ((x3 ≤ y5 → Q y4 M) ∧ (¬ x3 ≤ y5 → vp_in y5 64 ∧ pX11_gain M x1 (M.1 1238 0 (tn y5)) (fun r3 M4 => pX11_more M4 y4 r3 (fun r5 M6 => ∀ v7 : Int32, v7 = y5 + 1 → L6 (M6, r5, v7)))))
def pX11_top (M : Mem) (x1 : Int32) (x2 : Int32) (x3 : Int32) (Q : Int32 → Mem → Prop) : Prop :=
  ∃ n : Nat, lp (fun L s => bX11_top_6 x1 x2 x3 Q L s.1 s.2.1 s.2.2) n (M, 0, x2)
set_option maxRecDepth 100000 in
set_option maxHeartbeats 400000 in
theorem wX11_top_6 {Γ : Gam} {G : Gm} {Qf : State → Prop} (hG : Gd G) (C : Cx Γ G cX11_top 6 RX11 (some .int) rmX11_top) {x1 : Int32} {x2 : Int32} {x3 : Int32} {Q : Int32 → Mem → Prop} (E : EndI Γ G Qf rmX11_top Q) {L6 : Mem × Int32 × Int32 → Prop} (hL6 : ∀ s, L6 s → X Γ G Qf 6 0 0 6 [(0, .ref (ga G 11 0)), (1, .int x1), (3, .int x3), (4, .int s.2.1), (5, .int s.2.2)] [] s.1) (M : Mem) (y4 : Int32) (y5 : Int32) (h : bX11_top_6 x1 x2 x3 Q L6 M y4 y5) : X Γ G Qf 6 0 0 6 [(0, .ref (ga G 11 0)), (1, .int x1), (3, .int x3), (4, .int y4), (5, .int y5)] [] M := by
  unfold bX11_top_6 at h
  refine x_iload C dX11_top_6 4 rfl ?_
  refine x_iload_n C dX11_top_8 2 rfl ?_
  refine x_icmp_ge (tgt := 37) C dX11_top_9 (by decide) (fun c1 => ?_) (fun c1 => ?_)
  · replace h := h.1 c1
    refine x_iload C dX11_top_37 3 rfl ?_
    exact x_iret C E h (Nat.le_of_ble_eq_true rfl) (Nat.le_of_ble_eq_true rfl) dX11_top_39
  · replace h := h.2 c1
    refine x_iload C dX11_top_12 3 rfl ?_
    refine x_aload_n C dX11_top_14 0 rfl ?_
    refine x_iload_n C dX11_top_15 1 rfl ?_
    refine x_aload_n C dX11_top_16 0 rfl ?_
    refine gf_11_38 C q182 z11 dX11_top_17 ?_
    refine x_iload C dX11_top_20 4 rfl ?_
    obtain ⟨f2, h⟩ := h
    refine al_1238 C z1238 f2 dX11_top_22 ?_
    refine x_calli (rest := [.int y4]) C sv_X11_258 ob11 z11 (kX11_gain hG _ _ _ h) rfl rfl (Nat.le_of_ble_eq_true rfl) ⟨Nat.le_of_ble_eq_true rfl, Nat.le_of_ble_eq_true rfl⟩ rfl rfl ⟨Nat.le_of_ble_eq_true rfl, Nat.le_of_ble_eq_true rfl⟩ dX11_top_23 (fun r3 M4 h => ?_)
    refine x_scalli (rest := []) C ss_X11_261 (kX11_more hG _ _ _ h) rfl rfl (Nat.le_of_ble_eq_true rfl) ⟨Nat.le_of_ble_eq_true rfl, Nat.le_of_ble_eq_true rfl⟩ rfl rfl ⟨Nat.le_of_ble_eq_true rfl, Nat.le_of_ble_eq_true rfl⟩ dX11_top_26 (fun r5 M6 h => ?_)
    refine x_istore (lv' := [(4, .int r5), (0, .ref (ga G 11 0)), (1, .int x1), (3, .int x3), (5, .int y5)]) C dX11_top_29 (Nat.le_of_ble_eq_true rfl) rfl ?_
    obtain ⟨v7, ev7⟩ : ∃ z : Int32, z = y5 + 1 := ⟨_, rfl⟩
    replace h := h v7 ev7
    refine x_iinc (v := v7) (lv' := [(5, .int v7), (4, .int r5), (0, .ref (ga G 11 0)), (1, .int x1), (3, .int x3)]) (j := 4) C dX11_top_31 rfl (by rw [ev7]; rfl) (Nat.le_of_ble_eq_true rfl) rfl ?_
    refine x_goto (tgt := 6) C dX11_top_34 (by decide) ?_
    refine X_sub (lv' := [(0, .ref (ga G 11 0)), (1, .int x1), (3, .int x3), (4, .int r5), (5, .int v7)]) [2, 3, 4, 1, 0] rfl ?_
    have w9 := hL6 (M6, r5, v7) h
    dsimp only at w9
    exact w9
set_option maxRecDepth 100000 in
set_option maxHeartbeats 400000 in
theorem kX11_top {l : Launch} {G : Gm} (hG : Gd G) (M : Mem) (x1 : Int32) (x2 : Int32) (x3 : Int32) {Q : Int32 → Mem → Prop} (h : pX11_top M x1 x2 x3 Q) : Cti l G yX11_top cX11_top 6 .int rmX11_top [.ref (ga G 11 0), .int x1, .int x2, .int x3] M Q := by
  refine cti_of (own := RX11) (by decide +kernel) rfl (Nat.le_of_ble_eq_true rfl) hG (fun Γ Qf hl C E => ?_)
  subst hl
  show X Γ G Qf 6 0 0 0 [(0, .ref (ga G 11 0)), (1, .int x1), (2, .int x2), (3, .int x3)] [] M
  unfold pX11_top at h
  refine x_iconst (v := 0) C dX11_top_0 rfl ?_
  refine x_istore (lv' := [(4, .int 0), (0, .ref (ga G 11 0)), (1, .int x1), (2, .int x2), (3, .int x3)]) C dX11_top_1 (Nat.le_of_ble_eq_true rfl) rfl ?_
  refine x_iload_n C dX11_top_3 3 rfl ?_
  refine x_istore (lv' := [(5, .int x2), (4, .int 0), (0, .ref (ga G 11 0)), (1, .int x1), (2, .int x2), (3, .int x3)]) C dX11_top_4 (Nat.le_of_ble_eq_true rfl) rfl ?_
  obtain ⟨n9, h⟩ := h
  refine X_sub (lv' := [(0, .ref (ga G 11 0)), (1, .int x1), (3, .int x3), (4, .int 0), (5, .int x2)]) [2, 3, 5, 1, 0] rfl ?_
  have hb : ∀ (L : Mem × Int32 × Int32 → Prop) (s : Mem × Int32 × Int32), (∀ t, L t → X Γ G Qf 6 0 0 6 [(0, .ref (ga G 11 0)), (1, .int x1), (3, .int x3), (4, .int t.2.1), (5, .int t.2.2)] [] t.1) → bX11_top_6 x1 x2 x3 Q L s.1 s.2.1 s.2.2 → X Γ G Qf 6 0 0 6 [(0, .ref (ga G 11 0)), (1, .int x1), (3, .int x3), (4, .int s.2.1), (5, .int s.2.2)] [] s.1 := fun L s hL h => wX11_top_6 hG C E hL s.1 s.2.1 s.2.2 h
  have w9 := lp_walk (P := fun s : Mem × Int32 × Int32 => X Γ G Qf 6 0 0 6 [(0, .ref (ga G 11 0)), (1, .int x1), (3, .int x3), (4, .int s.2.1), (5, .int s.2.2)] [] s.1) h hb
  dsimp only at w9
  exact w9
def rmX11_blocksOf : Room := { frames := 0, cells := 0, slots := 0, locals := 0 }
def pX11_blocksOf (M : Mem) (x1 : Int32) (x2 : Int32) (Q : Int32 → Mem → Prop) : Prop :=
  (¬ x2 = 0) ∧ Q (((x1 + x2) - 1) / x2) M
set_option maxRecDepth 100000 in
set_option maxHeartbeats 400000 in
theorem kX11_blocksOf {l : Launch} {G : Gm} (hG : Gd G) (M : Mem) (x1 : Int32) (x2 : Int32) {Q : Int32 → Mem → Prop} (h : pX11_blocksOf M x1 x2 Q) : Cti l G yX11_blocksOf cX11_blocksOf 2 .int rmX11_blocksOf [.int x1, .int x2] M Q := by
  refine cti_of (own := RX11) (by decide +kernel) rfl (Nat.le_of_ble_eq_true rfl) hG (fun Γ Qf hl C E => ?_)
  subst hl
  show X Γ G Qf 2 0 0 0 [(0, .int x1), (1, .int x2)] [] M
  unfold pX11_blocksOf at h
  refine x_iload_n C dX11_blocksOf_0 0 rfl ?_
  refine x_iload_n C dX11_blocksOf_1 1 rfl ?_
  refine x_iadd C dX11_blocksOf_2 ?_
  refine x_iconst (v := 1) C dX11_blocksOf_3 rfl ?_
  refine x_isub C dX11_blocksOf_4 ?_
  refine x_iload_n C dX11_blocksOf_5 1 rfl ?_
  obtain ⟨f1, h⟩ := h
  refine x_idiv C dX11_blocksOf_6 f1 ?_
  exact x_iret C E h (Nat.le_of_ble_eq_true rfl) (Nat.le_of_ble_eq_true rfl) dX11_blocksOf_7
def rmX11_widthOf : Room := { frames := 0, cells := 0, slots := 0, locals := 0 }
def bX11_widthOf_4 (x1 : Int32) (Q : Int32 → Mem → Prop) (L4 : Mem × Int32 × Int32 → Prop) (M : Mem) (y1 : Int32) (y2 : Int32) : Prop :=
  ((y2 ≤ 0 → Q y1 M) ∧ (¬ y2 ≤ 0 → ∀ v2 : Int32, v2 = y1 + 1 → ∀ v3 : Int32, v3 = (y2 / 2) → L4 (M, v2, v3)))
def pX11_widthOf (M : Mem) (x1 : Int32) (Q : Int32 → Mem → Prop) : Prop :=
  ∃ n : Nat, lp (fun L s => bX11_widthOf_4 x1 Q L s.1 s.2.1 s.2.2) n (M, 0, x1)
set_option maxRecDepth 100000 in
set_option maxHeartbeats 400000 in
theorem wX11_widthOf_4 {Γ : Gam} {G : Gm} {Qf : State → Prop} (hG : Gd G) (C : Cx Γ G cX11_widthOf 3 RX11 (some .int) rmX11_widthOf) {x1 : Int32} {Q : Int32 → Mem → Prop} (E : EndI Γ G Qf rmX11_widthOf Q) {L4 : Mem × Int32 × Int32 → Prop} (hL4 : ∀ s, L4 s → X Γ G Qf 3 0 0 4 [(1, .int s.2.1), (2, .int s.2.2)] [] s.1) (M : Mem) (y1 : Int32) (y2 : Int32) (h : bX11_widthOf_4 x1 Q L4 M y1 y2) : X Γ G Qf 3 0 0 4 [(1, .int y1), (2, .int y2)] [] M := by
  unfold bX11_widthOf_4 at h
  refine x_iload_n C dX11_widthOf_4 1 rfl ?_
  refine x_if_le (tgt := 18) C dX11_widthOf_5 (by decide) (fun c1 => ?_) (fun c1 => ?_)
  · replace h := h.1 c1
    refine x_iload_n C dX11_widthOf_18 0 rfl ?_
    exact x_iret C E h (Nat.le_of_ble_eq_true rfl) (Nat.le_of_ble_eq_true rfl) dX11_widthOf_19
  · replace h := h.2 c1
    obtain ⟨v2, ev2⟩ : ∃ z : Int32, z = y1 + 1 := ⟨_, rfl⟩
    replace h := h v2 ev2
    refine x_iinc (v := v2) (lv' := [(1, .int v2), (2, .int y2)]) (j := 0) C dX11_widthOf_8 rfl (by rw [ev2]; rfl) (Nat.le_of_ble_eq_true rfl) rfl ?_
    refine x_iload_n C dX11_widthOf_11 1 rfl ?_
    refine x_iconst (v := 2) C dX11_widthOf_12 rfl ?_
    refine x_idiv C dX11_widthOf_13 (by decide) ?_
    refine X_name (fun v3 ev3 => ?_)
    replace h := h v3 ev3
    refine x_istore_n (lv' := [(2, .int v3), (1, .int v2)]) C dX11_widthOf_14 rfl (Nat.le_of_ble_eq_true rfl) rfl ?_
    refine x_goto (tgt := 4) C dX11_widthOf_15 (by decide) ?_
    refine X_sub (lv' := [(1, .int v2), (2, .int v3)]) [1, 0] rfl ?_
    have w9 := hL4 (M, v2, v3) h
    dsimp only at w9
    exact w9
set_option maxRecDepth 100000 in
set_option maxHeartbeats 400000 in
theorem kX11_widthOf {l : Launch} {G : Gm} (hG : Gd G) (M : Mem) (x1 : Int32) {Q : Int32 → Mem → Prop} (h : pX11_widthOf M x1 Q) : Cti l G yX11_widthOf cX11_widthOf 3 .int rmX11_widthOf [.int x1] M Q := by
  refine cti_of (own := RX11) (by decide +kernel) rfl (Nat.le_of_ble_eq_true rfl) hG (fun Γ Qf hl C E => ?_)
  subst hl
  show X Γ G Qf 3 0 0 0 [(0, .int x1)] [] M
  unfold pX11_widthOf at h
  refine x_iconst (v := 0) C dX11_widthOf_0 rfl ?_
  refine x_istore_n (lv' := [(1, .int 0), (0, .int x1)]) C dX11_widthOf_1 rfl (Nat.le_of_ble_eq_true rfl) rfl ?_
  refine x_iload_n C dX11_widthOf_2 1 rfl ?_
  refine x_istore_n (lv' := [(2, .int x1), (1, .int 0), (0, .int x1)]) C dX11_widthOf_3 rfl (Nat.le_of_ble_eq_true rfl) rfl ?_
  obtain ⟨n9, h⟩ := h
  refine X_sub (lv' := [(1, .int 0), (2, .int x1)]) [1, 0] rfl ?_
  have hb : ∀ (L : Mem × Int32 × Int32 → Prop) (s : Mem × Int32 × Int32), (∀ t, L t → X Γ G Qf 3 0 0 4 [(1, .int t.2.1), (2, .int t.2.2)] [] t.1) → bX11_widthOf_4 x1 Q L s.1 s.2.1 s.2.2 → X Γ G Qf 3 0 0 4 [(1, .int s.2.1), (2, .int s.2.2)] [] s.1 := fun L s hL h => wX11_widthOf_4 hG C E hL s.1 s.2.1 s.2.2 h
  have w9 := lp_walk (P := fun s : Mem × Int32 × Int32 => X Γ G Qf 3 0 0 4 [(1, .int s.2.1), (2, .int s.2.2)] [] s.1) h hb
  dsimp only at w9
  exact w9
def rmX11_positionGap : Room := { frames := 1, cells := 0, slots := 0, locals := 21 }
def bX11_positionGap_49 (x1 : Int32) (x2 : Int32) (Q : Int32 → Mem → Prop) (L8 : Mem × Int32 × Int32 × Int32 → Prop) (M : Mem) (y3 : Int32) (y4 : Int32) (y5 : Int32) : Prop :=
  ∀ v7 : Int32, v7 = y5 + 1 → L8 (M, y3, y4, v7)
def bX11_positionGap_8 (x1 : Int32) (x2 : Int32) (Q : Int32 → Mem → Prop) (L8 : Mem × Int32 × Int32 × Int32 → Prop) (M : Mem) (y3 : Int32) (y4 : Int32) (y5 : Int32) : Prop :=
  vp_in x2 64 ∧ (((M.1 1213 0 (tn x2)) ≤ y5 → Q y3 M) ∧ (¬ (M.1 1213 0 (tn x2)) ≤ y5 → vp_in y5 150 ∧ (((M.1 6212 (tn x2) (tn y5)) = x1 → pX11_more M y3 (y5 - y4) (fun r5 M6 => bX11_positionGap_49 x1 x2 Q L8 M6 r5 y5 y5)) ∧ (¬ (M.1 6212 (tn x2) (tn y5)) = x1 → bX11_positionGap_49 x1 x2 Q L8 M y3 y4 y5))))
def pX11_positionGap (M : Mem) (x1 : Int32) (x2 : Int32) (Q : Int32 → Mem → Prop) : Prop :=
  ∃ n : Nat, lp (fun L s => bX11_positionGap_8 x1 x2 Q L s.1 s.2.1 s.2.2.1 s.2.2.2) n (M, 0, (-1), 0)
set_option maxRecDepth 100000 in
set_option maxHeartbeats 400000 in
theorem wX11_positionGap_49 {Γ : Gam} {G : Gm} {Qf : State → Prop} (hG : Gd G) (C : Cx Γ G cX11_positionGap 6 RX11 (some .int) rmX11_positionGap) {x1 : Int32} {x2 : Int32} {Q : Int32 → Mem → Prop} (E : EndI Γ G Qf rmX11_positionGap Q) {L8 : Mem × Int32 × Int32 × Int32 → Prop} (hL8 : ∀ s, L8 s → X Γ G Qf 6 0 0 8 [(0, .ref (ga G 11 0)), (1, .int x1), (2, .int x2), (3, .int s.2.1), (4, .int s.2.2.1), (5, .int s.2.2.2)] [] s.1) (M : Mem) (y3 : Int32) (y4 : Int32) (y5 : Int32) (h : bX11_positionGap_49 x1 x2 Q L8 M y3 y4 y5) : X Γ G Qf 6 0 0 49 [(0, .ref (ga G 11 0)), (1, .int x1), (2, .int x2), (3, .int y3), (4, .int y4), (5, .int y5)] [] M := by
  unfold bX11_positionGap_49 at h
  obtain ⟨v7, ev7⟩ : ∃ z : Int32, z = y5 + 1 := ⟨_, rfl⟩
  replace h := h v7 ev7
  refine x_iinc (v := v7) (lv' := [(5, .int v7), (0, .ref (ga G 11 0)), (1, .int x1), (2, .int x2), (3, .int y3), (4, .int y4)]) (j := 5) C dX11_positionGap_49 rfl (by rw [ev7]; rfl) (Nat.le_of_ble_eq_true rfl) rfl ?_
  refine x_goto (tgt := 8) C dX11_positionGap_52 (by decide) ?_
  refine X_sub (lv' := [(0, .ref (ga G 11 0)), (1, .int x1), (2, .int x2), (3, .int y3), (4, .int y4), (5, .int v7)]) [1, 2, 3, 4, 5, 0] rfl ?_
  have w9 := hL8 (M, y3, y4, v7) h
  dsimp only at w9
  exact w9
set_option maxRecDepth 100000 in
set_option maxHeartbeats 400000 in
theorem wX11_positionGap_8 {Γ : Gam} {G : Gm} {Qf : State → Prop} (hG : Gd G) (C : Cx Γ G cX11_positionGap 6 RX11 (some .int) rmX11_positionGap) {x1 : Int32} {x2 : Int32} {Q : Int32 → Mem → Prop} (E : EndI Γ G Qf rmX11_positionGap Q) {L8 : Mem × Int32 × Int32 × Int32 → Prop} (hL8 : ∀ s, L8 s → X Γ G Qf 6 0 0 8 [(0, .ref (ga G 11 0)), (1, .int x1), (2, .int x2), (3, .int s.2.1), (4, .int s.2.2.1), (5, .int s.2.2.2)] [] s.1) (M : Mem) (y3 : Int32) (y4 : Int32) (y5 : Int32) (h : bX11_positionGap_8 x1 x2 Q L8 M y3 y4 y5) : X Γ G Qf 6 0 0 8 [(0, .ref (ga G 11 0)), (1, .int x1), (2, .int x2), (3, .int y3), (4, .int y4), (5, .int y5)] [] M := by
  unfold bX11_positionGap_8 at h
  refine x_iload C dX11_positionGap_8 5 rfl ?_
  refine x_aload_n C dX11_positionGap_10 0 rfl ?_
  refine gf_11_13 C q161 z11 dX11_positionGap_11 ?_
  refine x_iload_n C dX11_positionGap_14 2 rfl ?_
  obtain ⟨f1, h⟩ := h
  refine al_1213 C z1213 f1 dX11_positionGap_15 ?_
  refine x_icmp_ge (tgt := 55) C dX11_positionGap_16 (by decide) (fun c2 => ?_) (fun c2 => ?_)
  · replace h := h.1 c2
    refine x_iload_n C dX11_positionGap_55 3 rfl ?_
    exact x_iret C E h (Nat.le_of_ble_eq_true rfl) (Nat.le_of_ble_eq_true rfl) dX11_positionGap_56
  · replace h := h.2 c2
    refine x_aload_n C dX11_positionGap_19 0 rfl ?_
    refine gf_11_12 C q158 z11 dX11_positionGap_20 ?_
    refine x_iload_n C dX11_positionGap_23 2 rfl ?_
    refine al_1212 C z1212 f1 dX11_positionGap_24 ?_
    refine x_iload C dX11_positionGap_25 5 rfl ?_
    obtain ⟨f3, h⟩ := h
    refine al_6212 C (vp_lt f1) f3 dX11_positionGap_27 ?_
    refine x_iload_n C dX11_positionGap_28 1 rfl ?_
    refine x_icmp_eq (tgt := 35) C dX11_positionGap_29 (by decide) (fun c4 => ?_) (fun c4 => ?_)
    · replace h := h.1 c4
      refine x_iload_n C dX11_positionGap_35 3 rfl ?_
      refine x_iload C dX11_positionGap_36 5 rfl ?_
      refine x_iload C dX11_positionGap_38 4 rfl ?_
      refine x_isub C dX11_positionGap_40 ?_
      refine x_scalli (rest := []) C ss_X11_261 (kX11_more hG _ _ _ h) rfl rfl (Nat.le_of_ble_eq_true rfl) ⟨Nat.le_of_ble_eq_true rfl, Nat.le_of_ble_eq_true rfl⟩ rfl rfl ⟨Nat.le_of_ble_eq_true rfl, Nat.le_of_ble_eq_true rfl⟩ dX11_positionGap_41 (fun r5 M6 h => ?_)
      refine x_istore_n (lv' := [(3, .int r5), (0, .ref (ga G 11 0)), (1, .int x1), (2, .int x2), (4, .int y4), (5, .int y5)]) C dX11_positionGap_44 rfl (Nat.le_of_ble_eq_true rfl) rfl ?_
      refine x_iload C dX11_positionGap_45 5 rfl ?_
      refine x_istore (lv' := [(4, .int y5), (3, .int r5), (0, .ref (ga G 11 0)), (1, .int x1), (2, .int x2), (5, .int y5)]) C dX11_positionGap_47 (Nat.le_of_ble_eq_true rfl) rfl ?_
      refine X_sub (lv' := [(0, .ref (ga G 11 0)), (1, .int x1), (2, .int x2), (3, .int r5), (4, .int y5), (5, .int y5)]) [2, 3, 4, 1, 0, 5] rfl ?_
      exact wX11_positionGap_49 hG C E hL8 M6 r5 y5 y5 h
    · replace h := h.2 c4
      refine x_goto (tgt := 49) C dX11_positionGap_32 (by decide) ?_
      refine X_sub (lv' := [(0, .ref (ga G 11 0)), (1, .int x1), (2, .int x2), (3, .int y3), (4, .int y4), (5, .int y5)]) [0, 1, 2, 3, 4, 5] rfl ?_
      exact wX11_positionGap_49 hG C E hL8 M y3 y4 y5 h
set_option maxRecDepth 100000 in
set_option maxHeartbeats 400000 in
theorem kX11_positionGap {l : Launch} {G : Gm} (hG : Gd G) (M : Mem) (x1 : Int32) (x2 : Int32) {Q : Int32 → Mem → Prop} (h : pX11_positionGap M x1 x2 Q) : Cti l G yX11_positionGap cX11_positionGap 6 .int rmX11_positionGap [.ref (ga G 11 0), .int x1, .int x2] M Q := by
  refine cti_of (own := RX11) (by decide +kernel) rfl (Nat.le_of_ble_eq_true rfl) hG (fun Γ Qf hl C E => ?_)
  subst hl
  show X Γ G Qf 6 0 0 0 [(0, .ref (ga G 11 0)), (1, .int x1), (2, .int x2)] [] M
  unfold pX11_positionGap at h
  refine x_iconst (v := 0) C dX11_positionGap_0 rfl ?_
  refine x_istore_n (lv' := [(3, .int 0), (0, .ref (ga G 11 0)), (1, .int x1), (2, .int x2)]) C dX11_positionGap_1 rfl (Nat.le_of_ble_eq_true rfl) rfl ?_
  refine x_iconst (v := (-1)) C dX11_positionGap_2 rfl ?_
  refine x_istore (lv' := [(4, .int (-1)), (3, .int 0), (0, .ref (ga G 11 0)), (1, .int x1), (2, .int x2)]) C dX11_positionGap_3 (Nat.le_of_ble_eq_true rfl) rfl ?_
  refine x_iconst (v := 0) C dX11_positionGap_5 rfl ?_
  refine x_istore (lv' := [(5, .int 0), (4, .int (-1)), (3, .int 0), (0, .ref (ga G 11 0)), (1, .int x1), (2, .int x2)]) C dX11_positionGap_6 (Nat.le_of_ble_eq_true rfl) rfl ?_
  obtain ⟨n9, h⟩ := h
  refine X_sub (lv' := [(0, .ref (ga G 11 0)), (1, .int x1), (2, .int x2), (3, .int 0), (4, .int (-1)), (5, .int 0)]) [3, 4, 5, 2, 1, 0] rfl ?_
  have hb : ∀ (L : Mem × Int32 × Int32 × Int32 → Prop) (s : Mem × Int32 × Int32 × Int32), (∀ t, L t → X Γ G Qf 6 0 0 8 [(0, .ref (ga G 11 0)), (1, .int x1), (2, .int x2), (3, .int t.2.1), (4, .int t.2.2.1), (5, .int t.2.2.2)] [] t.1) → bX11_positionGap_8 x1 x2 Q L s.1 s.2.1 s.2.2.1 s.2.2.2 → X Γ G Qf 6 0 0 8 [(0, .ref (ga G 11 0)), (1, .int x1), (2, .int x2), (3, .int s.2.1), (4, .int s.2.2.1), (5, .int s.2.2.2)] [] s.1 := fun L s hL h => wX11_positionGap_8 hG C E hL s.1 s.2.1 s.2.2.1 s.2.2.2 h
  have w9 := lp_walk (P := fun s : Mem × Int32 × Int32 × Int32 => X Γ G Qf 6 0 0 8 [(0, .ref (ga G 11 0)), (1, .int x1), (2, .int x2), (3, .int s.2.1), (4, .int s.2.2.1), (5, .int s.2.2.2)] [] s.1) h hb
  dsimp only at w9
  exact w9
def rmX11_width : Room := { frames := 2, cells := 0, slots := 0, locals := 46 }
def bX11_width_99 (x1 : Int32) (x2 : Int32) (x3 : Int32) (x4 : Int32) (Q : Int32 → Mem → Prop) (L6 : Mem × Int32 × Int32 → Prop) (M : Mem) (y5 : Int32) (y6 : Int32) : Prop :=
  ∀ v23 : Int32, v23 = y6 + 1 → L6 (M, y5, v23)
def bX11_width_79 (x1 : Int32) (x2 : Int32) (x3 : Int32) (x4 : Int32) (Q : Int32 → Mem → Prop) (L6 : Mem × Int32 × Int32 → Prop) (M : Mem) (y5 : Int32) (y6 : Int32) (y7 : Int32) : Prop :=
  ((¬ x4 = 2 → bX11_width_99 x1 x2 x3 x4 Q L6 M y5 y6) ∧ (x4 = 2 → pX11_positionGap M x1 y7 (fun r19 M20 => pX11_more M20 y5 r19 (fun r21 M22 => bX11_width_99 x1 x2 x3 x4 Q L6 M22 r21 y6))))
def bX11_width_57 (x1 : Int32) (x2 : Int32) (x3 : Int32) (x4 : Int32) (Q : Int32 → Mem → Prop) (L6 : Mem × Int32 × Int32 → Prop) (M : Mem) (y5 : Int32) (y6 : Int32) (y7 : Int32) : Prop :=
  ((¬ x4 = 1 → bX11_width_79 x1 x2 x3 x4 Q L6 M y5 y6 y7) ∧ (x4 = 1 → vp_in x1 256 ∧ vp_in y7 64 ∧ pX11_more M y5 (M.1 6217 (tn x1) (tn y7)) (fun r16 M17 => bX11_width_79 x1 x2 x3 x4 Q L6 M17 r16 y6 y7)))
def bX11_width_6 (x1 : Int32) (x2 : Int32) (x3 : Int32) (x4 : Int32) (Q : Int32 → Mem → Prop) (L6 : Mem × Int32 × Int32 → Prop) (M : Mem) (y5 : Int32) (y6 : Int32) : Prop :=
  ((x3 ≤ y6 → pX11_widthOf M y5 (fun r2 M3 => Q r2 M3)) ∧ (¬ x3 ≤ y6 → vp_in y6 64 ∧ ∀ v5 : Int32, v5 = (M.1 1238 0 (tn y6)) → ((¬ x4 = 0 → bX11_width_57 x1 x2 x3 x4 Q L6 M y5 y6 v5) ∧ (x4 = 0 → ((¬ y6 = 0 → vp_in (y6 - 1) 64 ∧ pX11_more M y5 (v5 - (M.1 1238 0 (tn (y6 - 1)))) (fun r9 M10 => bX11_width_57 x1 x2 x3 x4 Q L6 M10 r9 y6 v5)) ∧ (y6 = 0 → pX11_more M y5 (v5 + 1) (fun r11 M12 => bX11_width_57 x1 x2 x3 x4 Q L6 M12 r11 y6 v5)))))))
def pX11_width (M : Mem) (x1 : Int32) (x2 : Int32) (x3 : Int32) (x4 : Int32) (Q : Int32 → Mem → Prop) : Prop :=
  ∃ n : Nat, lp (fun L s => bX11_width_6 x1 x2 x3 x4 Q L s.1 s.2.1 s.2.2) n (M, 0, x2)
set_option maxRecDepth 100000 in
set_option maxHeartbeats 400000 in
theorem wX11_width_99 {Γ : Gam} {G : Gm} {Qf : State → Prop} (hG : Gd G) (C : Cx Γ G cX11_width 8 RX11 (some .int) rmX11_width) {x1 : Int32} {x2 : Int32} {x3 : Int32} {x4 : Int32} {Q : Int32 → Mem → Prop} (E : EndI Γ G Qf rmX11_width Q) {L6 : Mem × Int32 × Int32 → Prop} (hL6 : ∀ s, L6 s → X Γ G Qf 8 0 0 6 [(0, .ref (ga G 11 0)), (1, .int x1), (3, .int x3), (4, .int x4), (5, .int s.2.1), (6, .int s.2.2)] [] s.1) (M : Mem) (y5 : Int32) (y6 : Int32) (h : bX11_width_99 x1 x2 x3 x4 Q L6 M y5 y6) : X Γ G Qf 8 0 0 99 [(0, .ref (ga G 11 0)), (1, .int x1), (3, .int x3), (4, .int x4), (5, .int y5), (6, .int y6)] [] M := by
  unfold bX11_width_99 at h
  obtain ⟨v23, ev23⟩ : ∃ z : Int32, z = y6 + 1 := ⟨_, rfl⟩
  replace h := h v23 ev23
  refine x_iinc (v := v23) (lv' := [(6, .int v23), (0, .ref (ga G 11 0)), (1, .int x1), (3, .int x3), (4, .int x4), (5, .int y5)]) (j := 5) C dX11_width_99 rfl (by rw [ev23]; rfl) (Nat.le_of_ble_eq_true rfl) rfl ?_
  refine x_goto (tgt := 6) C dX11_width_102 (by decide) ?_
  refine X_sub (lv' := [(0, .ref (ga G 11 0)), (1, .int x1), (3, .int x3), (4, .int x4), (5, .int y5), (6, .int v23)]) [1, 2, 3, 4, 5, 0] rfl ?_
  have w9 := hL6 (M, y5, v23) h
  dsimp only at w9
  exact w9
set_option maxRecDepth 100000 in
set_option maxHeartbeats 400000 in
theorem wX11_width_79 {Γ : Gam} {G : Gm} {Qf : State → Prop} (hG : Gd G) (C : Cx Γ G cX11_width 8 RX11 (some .int) rmX11_width) {x1 : Int32} {x2 : Int32} {x3 : Int32} {x4 : Int32} {Q : Int32 → Mem → Prop} (E : EndI Γ G Qf rmX11_width Q) {L6 : Mem × Int32 × Int32 → Prop} (hL6 : ∀ s, L6 s → X Γ G Qf 8 0 0 6 [(0, .ref (ga G 11 0)), (1, .int x1), (3, .int x3), (4, .int x4), (5, .int s.2.1), (6, .int s.2.2)] [] s.1) (M : Mem) (y5 : Int32) (y6 : Int32) (y7 : Int32) (h : bX11_width_79 x1 x2 x3 x4 Q L6 M y5 y6 y7) : X Γ G Qf 8 0 0 79 [(0, .ref (ga G 11 0)), (1, .int x1), (3, .int x3), (4, .int x4), (5, .int y5), (6, .int y6), (7, .int y7)] [] M := by
  unfold bX11_width_79 at h
  refine x_iload C dX11_width_79 3 rfl ?_
  refine x_iconst (v := 2) C dX11_width_81 rfl ?_
  refine x_icmp_ne (tgt := 99) C dX11_width_82 (by decide) (fun c18 => ?_) (fun c18 => ?_)
  · replace h := h.1 c18
    refine X_sub (lv' := [(0, .ref (ga G 11 0)), (1, .int x1), (3, .int x3), (4, .int x4), (5, .int y5), (6, .int y6)]) [0, 1, 2, 3, 4, 5] rfl ?_
    exact wX11_width_99 hG C E hL6 M y5 y6 h
  · replace h := h.2 c18
    refine x_iload C dX11_width_85 4 rfl ?_
    refine x_aload_n C dX11_width_87 0 rfl ?_
    refine x_iload_n C dX11_width_88 1 rfl ?_
    refine x_iload C dX11_width_89 6 rfl ?_
    refine x_calli (rest := [.int y5]) C sv_X11_264 ob11 z11 (kX11_positionGap hG _ _ _ h) rfl rfl (Nat.le_of_ble_eq_true rfl) ⟨Nat.le_of_ble_eq_true rfl, Nat.le_of_ble_eq_true rfl⟩ rfl rfl ⟨Nat.le_of_ble_eq_true rfl, Nat.le_of_ble_eq_true rfl⟩ dX11_width_91 (fun r19 M20 h => ?_)
    refine x_scalli (rest := []) C ss_X11_261 (kX11_more hG _ _ _ h) rfl rfl (Nat.le_of_ble_eq_true rfl) ⟨Nat.le_of_ble_eq_true rfl, Nat.le_of_ble_eq_true rfl⟩ rfl rfl ⟨Nat.le_of_ble_eq_true rfl, Nat.le_of_ble_eq_true rfl⟩ dX11_width_94 (fun r21 M22 h => ?_)
    refine x_istore (lv' := [(5, .int r21), (0, .ref (ga G 11 0)), (1, .int x1), (3, .int x3), (4, .int x4), (6, .int y6), (7, .int y7)]) C dX11_width_97 (Nat.le_of_ble_eq_true rfl) rfl ?_
    refine X_sub (lv' := [(0, .ref (ga G 11 0)), (1, .int x1), (3, .int x3), (4, .int x4), (5, .int r21), (6, .int y6)]) [1, 2, 3, 4, 0, 5] rfl ?_
    exact wX11_width_99 hG C E hL6 M22 r21 y6 h
set_option maxRecDepth 100000 in
set_option maxHeartbeats 400000 in
theorem wX11_width_57 {Γ : Gam} {G : Gm} {Qf : State → Prop} (hG : Gd G) (C : Cx Γ G cX11_width 8 RX11 (some .int) rmX11_width) {x1 : Int32} {x2 : Int32} {x3 : Int32} {x4 : Int32} {Q : Int32 → Mem → Prop} (E : EndI Γ G Qf rmX11_width Q) {L6 : Mem × Int32 × Int32 → Prop} (hL6 : ∀ s, L6 s → X Γ G Qf 8 0 0 6 [(0, .ref (ga G 11 0)), (1, .int x1), (3, .int x3), (4, .int x4), (5, .int s.2.1), (6, .int s.2.2)] [] s.1) (M : Mem) (y5 : Int32) (y6 : Int32) (y7 : Int32) (h : bX11_width_57 x1 x2 x3 x4 Q L6 M y5 y6 y7) : X Γ G Qf 8 0 0 57 [(0, .ref (ga G 11 0)), (1, .int x1), (3, .int x3), (4, .int x4), (5, .int y5), (6, .int y6), (7, .int y7)] [] M := by
  unfold bX11_width_57 at h
  refine x_iload C dX11_width_57 3 rfl ?_
  refine x_iconst (v := 1) C dX11_width_59 rfl ?_
  refine x_icmp_ne (tgt := 79) C dX11_width_60 (by decide) (fun c13 => ?_) (fun c13 => ?_)
  · replace h := h.1 c13
    refine X_sub (lv' := [(0, .ref (ga G 11 0)), (1, .int x1), (3, .int x3), (4, .int x4), (5, .int y5), (6, .int y6), (7, .int y7)]) [0, 1, 2, 3, 4, 5, 6] rfl ?_
    exact wX11_width_79 hG C E hL6 M y5 y6 y7 h
  · replace h := h.2 c13
    refine x_iload C dX11_width_63 4 rfl ?_
    refine x_aload_n C dX11_width_65 0 rfl ?_
    refine gf_11_17 C q163 z11 dX11_width_66 ?_
    refine x_iload_n C dX11_width_69 1 rfl ?_
    obtain ⟨f14, h⟩ := h
    refine al_1217 C z1217 f14 dX11_width_70 ?_
    refine x_iload C dX11_width_71 6 rfl ?_
    obtain ⟨f15, h⟩ := h
    refine al_6217 C (vp_lt f14) f15 dX11_width_73 ?_
    refine x_scalli (rest := []) C ss_X11_261 (kX11_more hG _ _ _ h) rfl rfl (Nat.le_of_ble_eq_true rfl) ⟨Nat.le_of_ble_eq_true rfl, Nat.le_of_ble_eq_true rfl⟩ rfl rfl ⟨Nat.le_of_ble_eq_true rfl, Nat.le_of_ble_eq_true rfl⟩ dX11_width_74 (fun r16 M17 h => ?_)
    refine x_istore (lv' := [(5, .int r16), (0, .ref (ga G 11 0)), (1, .int x1), (3, .int x3), (4, .int x4), (6, .int y6), (7, .int y7)]) C dX11_width_77 (Nat.le_of_ble_eq_true rfl) rfl ?_
    refine X_sub (lv' := [(0, .ref (ga G 11 0)), (1, .int x1), (3, .int x3), (4, .int x4), (5, .int r16), (6, .int y6), (7, .int y7)]) [1, 2, 3, 4, 0, 5, 6] rfl ?_
    exact wX11_width_79 hG C E hL6 M17 r16 y6 y7 h
set_option maxRecDepth 100000 in
set_option maxHeartbeats 400000 in
theorem wX11_width_6 {Γ : Gam} {G : Gm} {Qf : State → Prop} (hG : Gd G) (C : Cx Γ G cX11_width 8 RX11 (some .int) rmX11_width) {x1 : Int32} {x2 : Int32} {x3 : Int32} {x4 : Int32} {Q : Int32 → Mem → Prop} (E : EndI Γ G Qf rmX11_width Q) {L6 : Mem × Int32 × Int32 → Prop} (hL6 : ∀ s, L6 s → X Γ G Qf 8 0 0 6 [(0, .ref (ga G 11 0)), (1, .int x1), (3, .int x3), (4, .int x4), (5, .int s.2.1), (6, .int s.2.2)] [] s.1) (M : Mem) (y5 : Int32) (y6 : Int32) (h : bX11_width_6 x1 x2 x3 x4 Q L6 M y5 y6) : X Γ G Qf 8 0 0 6 [(0, .ref (ga G 11 0)), (1, .int x1), (3, .int x3), (4, .int x4), (5, .int y5), (6, .int y6)] [] M := by
  unfold bX11_width_6 at h
  refine x_iload C dX11_width_6 5 rfl ?_
  refine x_iload_n C dX11_width_8 2 rfl ?_
  refine x_icmp_ge (tgt := 105) C dX11_width_9 (by decide) (fun c1 => ?_) (fun c1 => ?_)
  · replace h := h.1 c1
    refine x_iload C dX11_width_105 4 rfl ?_
    refine x_scalli (rest := []) C ss_X11_267 (kX11_widthOf hG _ _ h) rfl rfl (Nat.le_of_ble_eq_true rfl) ⟨Nat.le_of_ble_eq_true rfl, Nat.le_of_ble_eq_true rfl⟩ rfl rfl ⟨Nat.le_of_ble_eq_true rfl, Nat.le_of_ble_eq_true rfl⟩ dX11_width_107 (fun r2 M3 h => ?_)
    exact x_iret C E h (Nat.le_of_ble_eq_true rfl) (Nat.le_of_ble_eq_true rfl) dX11_width_110
  · replace h := h.2 c1
    refine x_aload_n C dX11_width_12 0 rfl ?_
    refine gf_11_38 C q182 z11 dX11_width_13 ?_
    refine x_iload C dX11_width_16 5 rfl ?_
    obtain ⟨f4, h⟩ := h
    refine al_1238 C z1238 f4 dX11_width_18 ?_
    refine X_name (fun v5 ev5 => ?_)
    replace h := h v5 ev5
    refine x_istore (lv' := [(7, .int v5), (0, .ref (ga G 11 0)), (1, .int x1), (3, .int x3), (4, .int x4), (5, .int y5), (6, .int y6)]) C dX11_width_19 (Nat.le_of_ble_eq_true rfl) rfl ?_
    refine x_iload C dX11_width_21 4 rfl ?_
    refine x_if_ne (tgt := 57) C dX11_width_23 (by decide) (fun c6 => ?_) (fun c6 => ?_)
    · replace h := h.1 c6
      refine X_sub (lv' := [(0, .ref (ga G 11 0)), (1, .int x1), (3, .int x3), (4, .int x4), (5, .int y5), (6, .int y6), (7, .int v5)]) [1, 2, 3, 4, 5, 6, 0] rfl ?_
      exact wX11_width_57 hG C E hL6 M y5 y6 v5 h
    · replace h := h.2 c6
      refine x_iload C dX11_width_26 5 rfl ?_
      refine x_iload C dX11_width_28 6 rfl ?_
      refine x_if_ne (tgt := 40) C dX11_width_30 (by decide) (fun c7 => ?_) (fun c7 => ?_)
      · replace h := h.1 c7
        refine x_iload C dX11_width_40 0 rfl ?_
        refine x_aload_n C dX11_width_42 1 rfl ?_
        refine gf_11_38 C q182 z11 dX11_width_43 ?_
        refine x_iload C dX11_width_46 6 rfl ?_
        refine x_iconst (v := 1) C dX11_width_48 rfl ?_
        refine x_isub C dX11_width_49 ?_
        obtain ⟨f8, h⟩ := h
        refine al_1238 C z1238 f8 dX11_width_50 ?_
        refine x_isub C dX11_width_51 ?_
        refine x_scalli (rest := []) C ss_X11_261 (kX11_more hG _ _ _ h) rfl rfl (Nat.le_of_ble_eq_true rfl) ⟨Nat.le_of_ble_eq_true rfl, Nat.le_of_ble_eq_true rfl⟩ rfl rfl ⟨Nat.le_of_ble_eq_true rfl, Nat.le_of_ble_eq_true rfl⟩ dX11_width_52 (fun r9 M10 h => ?_)
        refine x_istore (lv' := [(5, .int r9), (7, .int v5), (0, .ref (ga G 11 0)), (1, .int x1), (3, .int x3), (4, .int x4), (6, .int y6)]) C dX11_width_55 (Nat.le_of_ble_eq_true rfl) rfl ?_
        refine X_sub (lv' := [(0, .ref (ga G 11 0)), (1, .int x1), (3, .int x3), (4, .int x4), (5, .int r9), (6, .int y6), (7, .int v5)]) [2, 3, 4, 5, 0, 6, 1] rfl ?_
        exact wX11_width_57 hG C E hL6 M10 r9 y6 v5 h
      · replace h := h.2 c7
        refine x_iload C dX11_width_33 0 rfl ?_
        refine x_iconst (v := 1) C dX11_width_35 rfl ?_
        refine x_iadd C dX11_width_36 ?_
        refine x_goto (tgt := 52) C dX11_width_37 (by decide) ?_
        refine x_scalli (rest := []) C ss_X11_261 (kX11_more hG _ _ _ h) rfl rfl (Nat.le_of_ble_eq_true rfl) ⟨Nat.le_of_ble_eq_true rfl, Nat.le_of_ble_eq_true rfl⟩ rfl rfl ⟨Nat.le_of_ble_eq_true rfl, Nat.le_of_ble_eq_true rfl⟩ dX11_width_52 (fun r11 M12 h => ?_)
        refine x_istore (lv' := [(5, .int r11), (7, .int v5), (0, .ref (ga G 11 0)), (1, .int x1), (3, .int x3), (4, .int x4), (6, .int y6)]) C dX11_width_55 (Nat.le_of_ble_eq_true rfl) rfl ?_
        refine X_sub (lv' := [(0, .ref (ga G 11 0)), (1, .int x1), (3, .int x3), (4, .int x4), (5, .int r11), (6, .int y6), (7, .int v5)]) [2, 3, 4, 5, 0, 6, 1] rfl ?_
        exact wX11_width_57 hG C E hL6 M12 r11 y6 v5 h
set_option maxRecDepth 100000 in
set_option maxHeartbeats 400000 in
theorem kX11_width {l : Launch} {G : Gm} (hG : Gd G) (M : Mem) (x1 : Int32) (x2 : Int32) (x3 : Int32) (x4 : Int32) {Q : Int32 → Mem → Prop} (h : pX11_width M x1 x2 x3 x4 Q) : Cti l G yX11_width cX11_width 8 .int rmX11_width [.ref (ga G 11 0), .int x1, .int x2, .int x3, .int x4] M Q := by
  refine cti_of (own := RX11) (by decide +kernel) rfl (Nat.le_of_ble_eq_true rfl) hG (fun Γ Qf hl C E => ?_)
  subst hl
  show X Γ G Qf 8 0 0 0 [(0, .ref (ga G 11 0)), (1, .int x1), (2, .int x2), (3, .int x3), (4, .int x4)] [] M
  unfold pX11_width at h
  refine x_iconst (v := 0) C dX11_width_0 rfl ?_
  refine x_istore (lv' := [(5, .int 0), (0, .ref (ga G 11 0)), (1, .int x1), (2, .int x2), (3, .int x3), (4, .int x4)]) C dX11_width_1 (Nat.le_of_ble_eq_true rfl) rfl ?_
  refine x_iload_n C dX11_width_3 3 rfl ?_
  refine x_istore (lv' := [(6, .int x2), (5, .int 0), (0, .ref (ga G 11 0)), (1, .int x1), (2, .int x2), (3, .int x3), (4, .int x4)]) C dX11_width_4 (Nat.le_of_ble_eq_true rfl) rfl ?_
  obtain ⟨n9, h⟩ := h
  refine X_sub (lv' := [(0, .ref (ga G 11 0)), (1, .int x1), (3, .int x3), (4, .int x4), (5, .int 0), (6, .int x2)]) [2, 3, 5, 6, 1, 0] rfl ?_
  have hb : ∀ (L : Mem × Int32 × Int32 → Prop) (s : Mem × Int32 × Int32), (∀ t, L t → X Γ G Qf 8 0 0 6 [(0, .ref (ga G 11 0)), (1, .int x1), (3, .int x3), (4, .int x4), (5, .int t.2.1), (6, .int t.2.2)] [] t.1) → bX11_width_6 x1 x2 x3 x4 Q L s.1 s.2.1 s.2.2 → X Γ G Qf 8 0 0 6 [(0, .ref (ga G 11 0)), (1, .int x1), (3, .int x3), (4, .int x4), (5, .int s.2.1), (6, .int s.2.2)] [] s.1 := fun L s hL h => wX11_width_6 hG C E hL s.1 s.2.1 s.2.2 h
  have w9 := lp_walk (P := fun s : Mem × Int32 × Int32 => X Γ G Qf 8 0 0 6 [(0, .ref (ga G 11 0)), (1, .int x1), (3, .int x3), (4, .int x4), (5, .int s.2.1), (6, .int s.2.2)] [] s.1) h hb
  dsimp only at w9
  exact w9
def rmX11_bitsOfBlock : Room := { frames := 3, cells := 0, slots := 0, locals := 73 }
def bX11_bitsOfBlock_36 (x1 : Int32) (x2 : Int32) (x3 : Int32) (Q : Int32 → Mem → Prop) (L36 : Mem × Int32 × Int32 × Int32 × Int32 → Prop) (M : Mem) (y4 : Int32) (y5 : Int32) (y6 : Int32) (y7 : Int32) : Prop :=
  ((x3 ≤ y7 → Q y4 M) ∧ (¬ x3 ≤ y7 → vp_in x1 256 ∧ vp_in y7 64 ∧ vp_in (M.1 1238 0 (tn y7)) 64 ∧ ∀ v12 : Int32, v12 = (y4 + (y6 + (y5 * (M.1 6217 (tn x1) (tn (M.1 1238 0 (tn y7))))))) → ∀ v13 : Int32, v13 = y7 + 1 → L36 (M, v12, y5, y6, v13)))
def pX11_bitsOfBlock (M : Mem) (x1 : Int32) (x2 : Int32) (x3 : Int32) (Q : Int32 → Mem → Prop) : Prop :=
  pX11_width M x1 x2 x3 2 (fun r1 M2 => pX11_width M2 x1 x2 x3 0 (fun r3 M4 => pX11_width M4 x1 x2 x3 1 (fun r5 M6 => ∀ v7 : Int32, v7 = (r3 + r5) → ∃ n : Nat, lp (fun L s => bX11_bitsOfBlock_36 x1 x2 x3 Q L s.1 s.2.1 s.2.2.1 s.2.2.2.1 s.2.2.2.2) n (M6, 32, r1, v7, x2))))
set_option maxRecDepth 100000 in
set_option maxHeartbeats 400000 in
theorem wX11_bitsOfBlock_36 {Γ : Gam} {G : Gm} {Qf : State → Prop} (hG : Gd G) (C : Cx Γ G cX11_bitsOfBlock 8 RX11 (some .int) rmX11_bitsOfBlock) {x1 : Int32} {x2 : Int32} {x3 : Int32} {Q : Int32 → Mem → Prop} (E : EndI Γ G Qf rmX11_bitsOfBlock Q) {L36 : Mem × Int32 × Int32 × Int32 × Int32 → Prop} (hL36 : ∀ s, L36 s → X Γ G Qf 8 0 0 36 [(0, .ref (ga G 11 0)), (1, .int x1), (3, .int x3), (4, .int s.2.1), (5, .int s.2.2.1), (6, .int s.2.2.2.1), (7, .int s.2.2.2.2)] [] s.1) (M : Mem) (y4 : Int32) (y5 : Int32) (y6 : Int32) (y7 : Int32) (h : bX11_bitsOfBlock_36 x1 x2 x3 Q L36 M y4 y5 y6 y7) : X Γ G Qf 8 0 0 36 [(0, .ref (ga G 11 0)), (1, .int x1), (3, .int x3), (4, .int y4), (5, .int y5), (6, .int y6), (7, .int y7)] [] M := by
  unfold bX11_bitsOfBlock_36 at h
  refine x_iload C dX11_bitsOfBlock_36 6 rfl ?_
  refine x_iload_n C dX11_bitsOfBlock_38 2 rfl ?_
  refine x_icmp_ge (tgt := 73) C dX11_bitsOfBlock_39 (by decide) (fun c8 => ?_) (fun c8 => ?_)
  · replace h := h.1 c8
    refine x_iload C dX11_bitsOfBlock_73 3 rfl ?_
    exact x_iret C E h (Nat.le_of_ble_eq_true rfl) (Nat.le_of_ble_eq_true rfl) dX11_bitsOfBlock_75
  · replace h := h.2 c8
    refine x_iload C dX11_bitsOfBlock_42 3 rfl ?_
    refine x_iload C dX11_bitsOfBlock_44 5 rfl ?_
    refine x_iload C dX11_bitsOfBlock_46 4 rfl ?_
    refine x_aload_n C dX11_bitsOfBlock_48 0 rfl ?_
    refine gf_11_17 C q163 z11 dX11_bitsOfBlock_49 ?_
    refine x_iload_n C dX11_bitsOfBlock_52 1 rfl ?_
    obtain ⟨f9, h⟩ := h
    refine al_1217 C z1217 f9 dX11_bitsOfBlock_53 ?_
    refine x_aload_n C dX11_bitsOfBlock_54 0 rfl ?_
    refine gf_11_38 C q182 z11 dX11_bitsOfBlock_55 ?_
    refine x_iload C dX11_bitsOfBlock_58 6 rfl ?_
    obtain ⟨f10, h⟩ := h
    refine al_1238 C z1238 f10 dX11_bitsOfBlock_60 ?_
    obtain ⟨f11, h⟩ := h
    refine al_6217 C (vp_lt f9) f11 dX11_bitsOfBlock_61 ?_
    refine x_imul C dX11_bitsOfBlock_62 ?_
    refine x_iadd C dX11_bitsOfBlock_63 ?_
    refine x_iadd C dX11_bitsOfBlock_64 ?_
    refine X_name (fun v12 ev12 => ?_)
    replace h := h v12 ev12
    refine x_istore (lv' := [(4, .int v12), (0, .ref (ga G 11 0)), (1, .int x1), (3, .int x3), (5, .int y5), (6, .int y6), (7, .int y7)]) C dX11_bitsOfBlock_65 (Nat.le_of_ble_eq_true rfl) rfl ?_
    obtain ⟨v13, ev13⟩ : ∃ z : Int32, z = y7 + 1 := ⟨_, rfl⟩
    replace h := h v13 ev13
    refine x_iinc (v := v13) (lv' := [(7, .int v13), (4, .int v12), (0, .ref (ga G 11 0)), (1, .int x1), (3, .int x3), (5, .int y5), (6, .int y6)]) (j := 6) C dX11_bitsOfBlock_67 rfl (by rw [ev13]; rfl) (Nat.le_of_ble_eq_true rfl) rfl ?_
    refine x_goto (tgt := 36) C dX11_bitsOfBlock_70 (by decide) ?_
    refine X_sub (lv' := [(0, .ref (ga G 11 0)), (1, .int x1), (3, .int x3), (4, .int v12), (5, .int y5), (6, .int y6), (7, .int v13)]) [2, 3, 4, 1, 5, 6, 0] rfl ?_
    have w9 := hL36 (M, v12, y5, y6, v13) h
    dsimp only at w9
    exact w9
set_option maxRecDepth 100000 in
set_option maxHeartbeats 400000 in
theorem kX11_bitsOfBlock {l : Launch} {G : Gm} (hG : Gd G) (M : Mem) (x1 : Int32) (x2 : Int32) (x3 : Int32) {Q : Int32 → Mem → Prop} (h : pX11_bitsOfBlock M x1 x2 x3 Q) : Cti l G yX11_bitsOfBlock cX11_bitsOfBlock 8 .int rmX11_bitsOfBlock [.ref (ga G 11 0), .int x1, .int x2, .int x3] M Q := by
  refine cti_of (own := RX11) (by decide +kernel) rfl (Nat.le_of_ble_eq_true rfl) hG (fun Γ Qf hl C E => ?_)
  subst hl
  show X Γ G Qf 8 0 0 0 [(0, .ref (ga G 11 0)), (1, .int x1), (2, .int x2), (3, .int x3)] [] M
  unfold pX11_bitsOfBlock at h
  refine x_bipush (v := 32) C dX11_bitsOfBlock_0 rfl ?_
  refine x_istore (lv' := [(4, .int 32), (0, .ref (ga G 11 0)), (1, .int x1), (2, .int x2), (3, .int x3)]) C dX11_bitsOfBlock_2 (Nat.le_of_ble_eq_true rfl) rfl ?_
  refine x_aload_n C dX11_bitsOfBlock_4 1 rfl ?_
  refine x_iload_n C dX11_bitsOfBlock_5 2 rfl ?_
  refine x_iload_n C dX11_bitsOfBlock_6 3 rfl ?_
  refine x_iload_n C dX11_bitsOfBlock_7 4 rfl ?_
  refine x_iconst (v := 2) C dX11_bitsOfBlock_8 rfl ?_
  refine x_calli (rest := []) C sv_X11_270 ob11 z11 (kX11_width hG _ _ _ _ _ h) rfl rfl (Nat.le_of_ble_eq_true rfl) ⟨Nat.le_of_ble_eq_true rfl, Nat.le_of_ble_eq_true rfl⟩ rfl rfl ⟨Nat.le_of_ble_eq_true rfl, Nat.le_of_ble_eq_true rfl⟩ dX11_bitsOfBlock_9 (fun r1 M2 h => ?_)
  refine x_istore (lv' := [(5, .int r1), (4, .int 32), (0, .ref (ga G 11 0)), (1, .int x1), (2, .int x2), (3, .int x3)]) C dX11_bitsOfBlock_12 (Nat.le_of_ble_eq_true rfl) rfl ?_
  refine x_aload_n C dX11_bitsOfBlock_14 2 rfl ?_
  refine x_iload_n C dX11_bitsOfBlock_15 3 rfl ?_
  refine x_iload_n C dX11_bitsOfBlock_16 4 rfl ?_
  refine x_iload_n C dX11_bitsOfBlock_17 5 rfl ?_
  refine x_iconst (v := 0) C dX11_bitsOfBlock_18 rfl ?_
  refine x_calli (rest := []) C sv_X11_270 ob11 z11 (kX11_width hG _ _ _ _ _ h) rfl rfl (Nat.le_of_ble_eq_true rfl) ⟨Nat.le_of_ble_eq_true rfl, Nat.le_of_ble_eq_true rfl⟩ rfl rfl ⟨Nat.le_of_ble_eq_true rfl, Nat.le_of_ble_eq_true rfl⟩ dX11_bitsOfBlock_19 (fun r3 M4 h => ?_)
  refine x_aload_n C dX11_bitsOfBlock_22 2 rfl ?_
  refine x_iload_n C dX11_bitsOfBlock_23 3 rfl ?_
  refine x_iload_n C dX11_bitsOfBlock_24 4 rfl ?_
  refine x_iload_n C dX11_bitsOfBlock_25 5 rfl ?_
  refine x_iconst (v := 1) C dX11_bitsOfBlock_26 rfl ?_
  refine x_calli (rest := [.int r3]) C sv_X11_270 ob11 z11 (kX11_width hG _ _ _ _ _ h) rfl rfl (Nat.le_of_ble_eq_true rfl) ⟨Nat.le_of_ble_eq_true rfl, Nat.le_of_ble_eq_true rfl⟩ rfl rfl ⟨Nat.le_of_ble_eq_true rfl, Nat.le_of_ble_eq_true rfl⟩ dX11_bitsOfBlock_27 (fun r5 M6 h => ?_)
  refine x_iadd C dX11_bitsOfBlock_30 ?_
  refine X_name (fun v7 ev7 => ?_)
  replace h := h v7 ev7
  refine x_istore (lv' := [(6, .int v7), (5, .int r1), (4, .int 32), (0, .ref (ga G 11 0)), (1, .int x1), (2, .int x2), (3, .int x3)]) C dX11_bitsOfBlock_31 (Nat.le_of_ble_eq_true rfl) rfl ?_
  refine x_iload_n C dX11_bitsOfBlock_33 5 rfl ?_
  refine x_istore (lv' := [(7, .int x2), (6, .int v7), (5, .int r1), (4, .int 32), (0, .ref (ga G 11 0)), (1, .int x1), (2, .int x2), (3, .int x3)]) C dX11_bitsOfBlock_34 (Nat.le_of_ble_eq_true rfl) rfl ?_
  obtain ⟨n9, h⟩ := h
  refine X_sub (lv' := [(0, .ref (ga G 11 0)), (1, .int x1), (3, .int x3), (4, .int 32), (5, .int r1), (6, .int v7), (7, .int x2)]) [4, 5, 7, 3, 2, 1, 0] rfl ?_
  have hb : ∀ (L : Mem × Int32 × Int32 × Int32 × Int32 → Prop) (s : Mem × Int32 × Int32 × Int32 × Int32), (∀ t, L t → X Γ G Qf 8 0 0 36 [(0, .ref (ga G 11 0)), (1, .int x1), (3, .int x3), (4, .int t.2.1), (5, .int t.2.2.1), (6, .int t.2.2.2.1), (7, .int t.2.2.2.2)] [] t.1) → bX11_bitsOfBlock_36 x1 x2 x3 Q L s.1 s.2.1 s.2.2.1 s.2.2.2.1 s.2.2.2.2 → X Γ G Qf 8 0 0 36 [(0, .ref (ga G 11 0)), (1, .int x1), (3, .int x3), (4, .int s.2.1), (5, .int s.2.2.1), (6, .int s.2.2.2.1), (7, .int s.2.2.2.2)] [] s.1 := fun L s hL h => wX11_bitsOfBlock_36 hG C E hL s.1 s.2.1 s.2.2.1 s.2.2.2.1 s.2.2.2.2 h
  have w9 := lp_walk (P := fun s : Mem × Int32 × Int32 × Int32 × Int32 => X Γ G Qf 8 0 0 36 [(0, .ref (ga G 11 0)), (1, .int x1), (3, .int x3), (4, .int s.2.1), (5, .int s.2.2.1), (6, .int s.2.2.2.1), (7, .int s.2.2.2.2)] [] s.1) h hb
  dsimp only at w9
  exact w9
def rmX11_bitsOf : Room := { frames := 4, cells := 0, slots := 0, locals := 100 }
def bX11_bitsOf_10 (x1 : Int32) (x2 : Int32) (Q : Int32 → Mem → Prop) (L10 : Mem × Int32 × Int32 → Prop) (M : Mem) (y3 : Int32) (y4 : Int32) : Prop :=
  (((M.1 1237 0 0) ≤ y4 → Q y3 M) ∧ (¬ (M.1 1237 0 0) ≤ y4 → pX11_less M (M.1 1237 0 0) (y4 + x2) (fun r4 M5 => pX11_bitsOfBlock M5 x1 y4 r4 (fun r6 M7 => ∀ v8 : Int32, v8 = (y3 + r6) → ∀ v9 : Int32, v9 = (y4 + x2) → L10 (M7, v8, v9)))))
def pX11_bitsOf (M : Mem) (x1 : Int32) (x2 : Int32) (Q : Int32 → Mem → Prop) : Prop :=
  pX11_gathers M x1 (fun M2 => ∃ n : Nat, lp (fun L s => bX11_bitsOf_10 x1 x2 Q L s.1 s.2.1 s.2.2) n (M2, 0, 0))
set_option maxRecDepth 100000 in
set_option maxHeartbeats 400000 in
theorem wX11_bitsOf_10 {Γ : Gam} {G : Gm} {Qf : State → Prop} (hG : Gd G) (C : Cx Γ G cX11_bitsOf 5 RX11 (some .int) rmX11_bitsOf) {x1 : Int32} {x2 : Int32} {Q : Int32 → Mem → Prop} (E : EndI Γ G Qf rmX11_bitsOf Q) {L10 : Mem × Int32 × Int32 → Prop} (hL10 : ∀ s, L10 s → X Γ G Qf 5 0 0 10 [(0, .ref (ga G 11 0)), (1, .int x1), (2, .int x2), (3, .int s.2.1), (4, .int s.2.2)] [] s.1) (M : Mem) (y3 : Int32) (y4 : Int32) (h : bX11_bitsOf_10 x1 x2 Q L10 M y3 y4) : X Γ G Qf 5 0 0 10 [(0, .ref (ga G 11 0)), (1, .int x1), (2, .int x2), (3, .int y3), (4, .int y4)] [] M := by
  unfold bX11_bitsOf_10 at h
  refine x_iload C dX11_bitsOf_10 4 rfl ?_
  refine x_aload_n C dX11_bitsOf_12 0 rfl ?_
  refine gf_11_37 C q181 z11 dX11_bitsOf_13 ?_
  refine x_icmp_ge (tgt := 49) C dX11_bitsOf_16 (by decide) (fun c3 => ?_) (fun c3 => ?_)
  · replace h := h.1 c3
    refine x_iload_n C dX11_bitsOf_49 3 rfl ?_
    exact x_iret C E h (Nat.le_of_ble_eq_true rfl) (Nat.le_of_ble_eq_true rfl) dX11_bitsOf_50
  · replace h := h.2 c3
    refine x_iload_n C dX11_bitsOf_19 3 rfl ?_
    refine x_aload_n C dX11_bitsOf_20 0 rfl ?_
    refine x_iload_n C dX11_bitsOf_21 1 rfl ?_
    refine x_iload C dX11_bitsOf_22 4 rfl ?_
    refine x_aload_n C dX11_bitsOf_24 0 rfl ?_
    refine gf_11_37 C q181 z11 dX11_bitsOf_25 ?_
    refine x_iload C dX11_bitsOf_28 4 rfl ?_
    refine x_iload_n C dX11_bitsOf_30 2 rfl ?_
    refine x_iadd C dX11_bitsOf_31 ?_
    refine x_scalli (rest := [.int y4, .int x1, .ref (ga G 11 0), .int y3]) C ss_X11_236 (kX11_less hG _ _ _ h) rfl rfl (Nat.le_of_ble_eq_true rfl) ⟨Nat.le_of_ble_eq_true rfl, Nat.le_of_ble_eq_true rfl⟩ rfl rfl ⟨Nat.le_of_ble_eq_true rfl, Nat.le_of_ble_eq_true rfl⟩ dX11_bitsOf_32 (fun r4 M5 h => ?_)
    refine x_calli (rest := [.int y3]) C sv_X11_274 ob11 z11 (kX11_bitsOfBlock hG _ _ _ _ h) rfl rfl (Nat.le_of_ble_eq_true rfl) ⟨Nat.le_of_ble_eq_true rfl, Nat.le_of_ble_eq_true rfl⟩ rfl rfl ⟨Nat.le_of_ble_eq_true rfl, Nat.le_of_ble_eq_true rfl⟩ dX11_bitsOf_35 (fun r6 M7 h => ?_)
    refine x_iadd C dX11_bitsOf_38 ?_
    refine X_name (fun v8 ev8 => ?_)
    replace h := h v8 ev8
    refine x_istore_n (lv' := [(3, .int v8), (0, .ref (ga G 11 0)), (1, .int x1), (2, .int x2), (4, .int y4)]) C dX11_bitsOf_39 rfl (Nat.le_of_ble_eq_true rfl) rfl ?_
    refine x_iload C dX11_bitsOf_40 4 rfl ?_
    refine x_iload_n C dX11_bitsOf_42 3 rfl ?_
    refine x_iadd C dX11_bitsOf_43 ?_
    refine X_name (fun v9 ev9 => ?_)
    replace h := h v9 ev9
    refine x_istore (lv' := [(4, .int v9), (3, .int v8), (0, .ref (ga G 11 0)), (1, .int x1), (2, .int x2)]) C dX11_bitsOf_44 (Nat.le_of_ble_eq_true rfl) rfl ?_
    refine x_goto (tgt := 10) C dX11_bitsOf_46 (by decide) ?_
    refine X_sub (lv' := [(0, .ref (ga G 11 0)), (1, .int x1), (2, .int x2), (3, .int v8), (4, .int v9)]) [2, 3, 4, 1, 0] rfl ?_
    have w9 := hL10 (M7, v8, v9) h
    dsimp only at w9
    exact w9
set_option maxRecDepth 100000 in
set_option maxHeartbeats 400000 in
theorem kX11_bitsOf {l : Launch} {G : Gm} (hG : Gd G) (M : Mem) (x1 : Int32) (x2 : Int32) {Q : Int32 → Mem → Prop} (h : pX11_bitsOf M x1 x2 Q) : Cti l G yX11_bitsOf cX11_bitsOf 5 .int rmX11_bitsOf [.ref (ga G 11 0), .int x1, .int x2] M Q := by
  refine cti_of (own := RX11) (by decide +kernel) rfl (Nat.le_of_ble_eq_true rfl) hG (fun Γ Qf hl C E => ?_)
  subst hl
  show X Γ G Qf 5 0 0 0 [(0, .ref (ga G 11 0)), (1, .int x1), (2, .int x2)] [] M
  unfold pX11_bitsOf at h
  refine x_aload_n C dX11_bitsOf_0 0 rfl ?_
  refine x_iload_n C dX11_bitsOf_1 1 rfl ?_
  refine x_callv (rest := []) C sv_X11_252 ob11 z11 (kX11_gathers hG _ _ h) rfl rfl (Nat.le_of_ble_eq_true rfl) ⟨Nat.le_of_ble_eq_true rfl, Nat.le_of_ble_eq_true rfl⟩ rfl rfl ⟨Nat.le_of_ble_eq_true rfl, Nat.le_of_ble_eq_true rfl⟩ dX11_bitsOf_2 (fun M2 h => ?_)
  refine x_iconst (v := 0) C dX11_bitsOf_5 rfl ?_
  refine x_istore_n (lv' := [(3, .int 0), (0, .ref (ga G 11 0)), (1, .int x1), (2, .int x2)]) C dX11_bitsOf_6 rfl (Nat.le_of_ble_eq_true rfl) rfl ?_
  refine x_iconst (v := 0) C dX11_bitsOf_7 rfl ?_
  refine x_istore (lv' := [(4, .int 0), (3, .int 0), (0, .ref (ga G 11 0)), (1, .int x1), (2, .int x2)]) C dX11_bitsOf_8 (Nat.le_of_ble_eq_true rfl) rfl ?_
  obtain ⟨n9, h⟩ := h
  refine X_sub (lv' := [(0, .ref (ga G 11 0)), (1, .int x1), (2, .int x2), (3, .int 0), (4, .int 0)]) [2, 3, 4, 1, 0] rfl ?_
  have hb : ∀ (L : Mem × Int32 × Int32 → Prop) (s : Mem × Int32 × Int32), (∀ t, L t → X Γ G Qf 5 0 0 10 [(0, .ref (ga G 11 0)), (1, .int x1), (2, .int x2), (3, .int t.2.1), (4, .int t.2.2)] [] t.1) → bX11_bitsOf_10 x1 x2 Q L s.1 s.2.1 s.2.2 → X Γ G Qf 5 0 0 10 [(0, .ref (ga G 11 0)), (1, .int x1), (2, .int x2), (3, .int s.2.1), (4, .int s.2.2)] [] s.1 := fun L s hL h => wX11_bitsOf_10 hG C E hL s.1 s.2.1 s.2.2 h
  have w9 := lp_walk (P := fun s : Mem × Int32 × Int32 => X Γ G Qf 5 0 0 10 [(0, .ref (ga G 11 0)), (1, .int x1), (2, .int x2), (3, .int s.2.1), (4, .int s.2.2)] [] s.1) h hb
  dsimp only at w9
  exact w9
def rmX11_bitsOfAll : Room := { frames := 5, cells := 0, slots := 0, locals := 124 }
def bX11_bitsOfAll_4 (x1 : Int32) (Q : Int32 → Mem → Prop) (L4 : Mem × Int32 × Int32 → Prop) (M : Mem) (y2 : Int32) (y3 : Int32) : Prop :=
  (((M.1 1210 0 0) ≤ y3 → Q y2 M) ∧ (¬ (M.1 1210 0 0) ≤ y3 → pX11_bitsOf M y3 x1 (fun r2 M3 => ∀ v4 : Int32, v4 = (y2 + r2) → ∀ v5 : Int32, v5 = y3 + 1 → L4 (M3, v4, v5))))
def pX11_bitsOfAll (M : Mem) (x1 : Int32) (Q : Int32 → Mem → Prop) : Prop :=
  ∃ n : Nat, lp (fun L s => bX11_bitsOfAll_4 x1 Q L s.1 s.2.1 s.2.2) n (M, 0, 0)
set_option maxRecDepth 100000 in
set_option maxHeartbeats 400000 in
theorem wX11_bitsOfAll_4 {Γ : Gam} {G : Gm} {Qf : State → Prop} (hG : Gd G) (C : Cx Γ G cX11_bitsOfAll 4 RX11 (some .int) rmX11_bitsOfAll) {x1 : Int32} {Q : Int32 → Mem → Prop} (E : EndI Γ G Qf rmX11_bitsOfAll Q) {L4 : Mem × Int32 × Int32 → Prop} (hL4 : ∀ s, L4 s → X Γ G Qf 4 0 0 4 [(0, .ref (ga G 11 0)), (1, .int x1), (2, .int s.2.1), (3, .int s.2.2)] [] s.1) (M : Mem) (y2 : Int32) (y3 : Int32) (h : bX11_bitsOfAll_4 x1 Q L4 M y2 y3) : X Γ G Qf 4 0 0 4 [(0, .ref (ga G 11 0)), (1, .int x1), (2, .int y2), (3, .int y3)] [] M := by
  unfold bX11_bitsOfAll_4 at h
  refine x_iload_n C dX11_bitsOfAll_4 3 rfl ?_
  refine x_aload_n C dX11_bitsOfAll_5 0 rfl ?_
  refine gf_11_10 C q155 z11 dX11_bitsOfAll_6 ?_
  refine x_icmp_ge (tgt := 27) C dX11_bitsOfAll_9 (by decide) (fun c1 => ?_) (fun c1 => ?_)
  · replace h := h.1 c1
    refine x_iload_n C dX11_bitsOfAll_27 2 rfl ?_
    exact x_iret C E h (Nat.le_of_ble_eq_true rfl) (Nat.le_of_ble_eq_true rfl) dX11_bitsOfAll_28
  · replace h := h.2 c1
    refine x_iload_n C dX11_bitsOfAll_12 2 rfl ?_
    refine x_aload_n C dX11_bitsOfAll_13 0 rfl ?_
    refine x_iload_n C dX11_bitsOfAll_14 3 rfl ?_
    refine x_iload_n C dX11_bitsOfAll_15 1 rfl ?_
    refine x_calli (rest := [.int y2]) C sv_X11_278 ob11 z11 (kX11_bitsOf hG _ _ _ h) rfl rfl (Nat.le_of_ble_eq_true rfl) ⟨Nat.le_of_ble_eq_true rfl, Nat.le_of_ble_eq_true rfl⟩ rfl rfl ⟨Nat.le_of_ble_eq_true rfl, Nat.le_of_ble_eq_true rfl⟩ dX11_bitsOfAll_16 (fun r2 M3 h => ?_)
    refine x_iadd C dX11_bitsOfAll_19 ?_
    refine X_name (fun v4 ev4 => ?_)
    replace h := h v4 ev4
    refine x_istore_n (lv' := [(2, .int v4), (0, .ref (ga G 11 0)), (1, .int x1), (3, .int y3)]) C dX11_bitsOfAll_20 rfl (Nat.le_of_ble_eq_true rfl) rfl ?_
    obtain ⟨v5, ev5⟩ : ∃ z : Int32, z = y3 + 1 := ⟨_, rfl⟩
    replace h := h v5 ev5
    refine x_iinc (v := v5) (lv' := [(3, .int v5), (2, .int v4), (0, .ref (ga G 11 0)), (1, .int x1)]) (j := 3) C dX11_bitsOfAll_21 rfl (by rw [ev5]; rfl) (Nat.le_of_ble_eq_true rfl) rfl ?_
    refine x_goto (tgt := 4) C dX11_bitsOfAll_24 (by decide) ?_
    refine X_sub (lv' := [(0, .ref (ga G 11 0)), (1, .int x1), (2, .int v4), (3, .int v5)]) [2, 3, 1, 0] rfl ?_
    have w9 := hL4 (M3, v4, v5) h
    dsimp only at w9
    exact w9
set_option maxRecDepth 100000 in
set_option maxHeartbeats 400000 in
theorem kX11_bitsOfAll {l : Launch} {G : Gm} (hG : Gd G) (M : Mem) (x1 : Int32) {Q : Int32 → Mem → Prop} (h : pX11_bitsOfAll M x1 Q) : Cti l G yX11_bitsOfAll cX11_bitsOfAll 4 .int rmX11_bitsOfAll [.ref (ga G 11 0), .int x1] M Q := by
  refine cti_of (own := RX11) (by decide +kernel) rfl (Nat.le_of_ble_eq_true rfl) hG (fun Γ Qf hl C E => ?_)
  subst hl
  show X Γ G Qf 4 0 0 0 [(0, .ref (ga G 11 0)), (1, .int x1)] [] M
  unfold pX11_bitsOfAll at h
  refine x_iconst (v := 0) C dX11_bitsOfAll_0 rfl ?_
  refine x_istore_n (lv' := [(2, .int 0), (0, .ref (ga G 11 0)), (1, .int x1)]) C dX11_bitsOfAll_1 rfl (Nat.le_of_ble_eq_true rfl) rfl ?_
  refine x_iconst (v := 0) C dX11_bitsOfAll_2 rfl ?_
  refine x_istore_n (lv' := [(3, .int 0), (2, .int 0), (0, .ref (ga G 11 0)), (1, .int x1)]) C dX11_bitsOfAll_3 rfl (Nat.le_of_ble_eq_true rfl) rfl ?_
  obtain ⟨n9, h⟩ := h
  refine X_sub (lv' := [(0, .ref (ga G 11 0)), (1, .int x1), (2, .int 0), (3, .int 0)]) [2, 3, 1, 0] rfl ?_
  have hb : ∀ (L : Mem × Int32 × Int32 → Prop) (s : Mem × Int32 × Int32), (∀ t, L t → X Γ G Qf 4 0 0 4 [(0, .ref (ga G 11 0)), (1, .int x1), (2, .int t.2.1), (3, .int t.2.2)] [] t.1) → bX11_bitsOfAll_4 x1 Q L s.1 s.2.1 s.2.2 → X Γ G Qf 4 0 0 4 [(0, .ref (ga G 11 0)), (1, .int x1), (2, .int s.2.1), (3, .int s.2.2)] [] s.1 := fun L s hL h => wX11_bitsOfAll_4 hG C E hL s.1 s.2.1 s.2.2 h
  have w9 := lp_walk (P := fun s : Mem × Int32 × Int32 => X Γ G Qf 4 0 0 4 [(0, .ref (ga G 11 0)), (1, .int x1), (2, .int s.2.1), (3, .int s.2.2)] [] s.1) h hb
  dsimp only at w9
  exact w9
