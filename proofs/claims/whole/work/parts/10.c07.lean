def rmX4_commonWord : Room := { frames := 0, cells := 0, slots := 0, locals := 0 }
def bX4_commonWord_45 (x1 : Int32) (Q : Int32 → Mem → Prop) (L5 : Mem × Int32 × Int32 → Prop) (L12 : Mem × Int32 × Int32 × Int32 → Prop) (M : Mem) (y2 : Int32) (y3 : Int32) (y4 : Int32) : Prop :=
  ∀ v8 : Int32, v8 = y4 + 1 → L12 (M, y2, y3, v8)
def bX4_commonWord_12 (x1 : Int32) (Q : Int32 → Mem → Prop) (L5 : Mem × Int32 × Int32 → Prop) (L12 : Mem × Int32 × Int32 × Int32 → Prop) (M : Mem) (y2 : Int32) (y3 : Int32) (y4 : Int32) : Prop :=
  (((M.1 1001 0 0) ≤ y4 → ∀ v3 : Int32, v3 = y3 + (-1) → L5 (M, y2, v3)) ∧ (¬ (M.1 1001 0 0) ≤ y4 → vp_in y4 255 ∧ ((¬ (M.1 511 0 (tn y4)) = y3 → bX4_commonWord_45 x1 Q L5 L12 M y2 y3 y4) ∧ ((M.1 511 0 (tn y4)) = y3 → ((¬ y2 = 0 → ∀ v7 : Int32, v7 = y2 + (-1) → bX4_commonWord_45 x1 Q L5 L12 M v7 y3 y4) ∧ (y2 = 0 → Q y4 M))))))
def bX4_commonWord_5 (x1 : Int32) (Q : Int32 → Mem → Prop) (L5 : Mem × Int32 × Int32 → Prop) (M : Mem) (y2 : Int32) (y3 : Int32) : Prop :=
  ((y3 < 0 → Q (-1) M) ∧ (¬ y3 < 0 → ∃ n : Nat, lp (fun L s => bX4_commonWord_12 x1 Q L5 L s.1 s.2.1 s.2.2.1 s.2.2.2) n (M, y2, y3, 0)))
def pX4_commonWord (M : Mem) (x1 : Int32) (Q : Int32 → Mem → Prop) : Prop :=
  ∃ n : Nat, lp (fun L s => bX4_commonWord_5 x1 Q L s.1 s.2.1 s.2.2) n (M, x1, 64)
set_option maxRecDepth 100000 in
set_option maxHeartbeats 400000 in
theorem wX4_commonWord_45 {Γ : Gam} {G : Gm} {Qf : State → Prop} (hG : Gd G) (C : Cx Γ G cX4_commonWord 5 RX4 (some .int) rmX4_commonWord) {x1 : Int32} {Q : Int32 → Mem → Prop} (E : EndI Γ G Qf rmX4_commonWord Q) {L5 : Mem × Int32 × Int32 → Prop} (hL5 : ∀ s, L5 s → X Γ G Qf 5 0 0 5 [(0, .ref (ga G 4 0)), (2, .int s.2.1), (3, .int s.2.2)] [] s.1) {L12 : Mem × Int32 × Int32 × Int32 → Prop} (hL12 : ∀ s, L12 s → X Γ G Qf 5 0 0 12 [(0, .ref (ga G 4 0)), (2, .int s.2.1), (3, .int s.2.2.1), (4, .int s.2.2.2)] [] s.1) (M : Mem) (y2 : Int32) (y3 : Int32) (y4 : Int32) (h : bX4_commonWord_45 x1 Q L5 L12 M y2 y3 y4) : X Γ G Qf 5 0 0 45 [(0, .ref (ga G 4 0)), (2, .int y2), (3, .int y3), (4, .int y4)] [] M := by
  unfold bX4_commonWord_45 at h
  obtain ⟨v8, ev8⟩ : ∃ z : Int32, z = y4 + 1 := ⟨_, rfl⟩
  replace h := h v8 ev8
  refine x_iinc (v := v8) (lv' := [(4, .int v8), (0, .ref (ga G 4 0)), (2, .int y2), (3, .int y3)]) (j := 3) C dX4_commonWord_45 rfl (by rw [ev8]; rfl) (Nat.le_of_ble_eq_true rfl) rfl ?_
  refine x_goto (tgt := 12) C dX4_commonWord_48 (by decide) ?_
  refine X_sub (lv' := [(0, .ref (ga G 4 0)), (2, .int y2), (3, .int y3), (4, .int v8)]) [1, 2, 3, 0] rfl ?_
  have w9 := hL12 (M, y2, y3, v8) h
  dsimp only at w9
  exact w9
set_option maxRecDepth 100000 in
set_option maxHeartbeats 400000 in
theorem wX4_commonWord_12 {Γ : Gam} {G : Gm} {Qf : State → Prop} (hG : Gd G) (C : Cx Γ G cX4_commonWord 5 RX4 (some .int) rmX4_commonWord) {x1 : Int32} {Q : Int32 → Mem → Prop} (E : EndI Γ G Qf rmX4_commonWord Q) {L5 : Mem × Int32 × Int32 → Prop} (hL5 : ∀ s, L5 s → X Γ G Qf 5 0 0 5 [(0, .ref (ga G 4 0)), (2, .int s.2.1), (3, .int s.2.2)] [] s.1) {L12 : Mem × Int32 × Int32 × Int32 → Prop} (hL12 : ∀ s, L12 s → X Γ G Qf 5 0 0 12 [(0, .ref (ga G 4 0)), (2, .int s.2.1), (3, .int s.2.2.1), (4, .int s.2.2.2)] [] s.1) (M : Mem) (y2 : Int32) (y3 : Int32) (y4 : Int32) (h : bX4_commonWord_12 x1 Q L5 L12 M y2 y3 y4) : X Γ G Qf 5 0 0 12 [(0, .ref (ga G 4 0)), (2, .int y2), (3, .int y3), (4, .int y4)] [] M := by
  unfold bX4_commonWord_12 at h
  refine x_iload C dX4_commonWord_12 3 rfl ?_
  refine x_aload_n C dX4_commonWord_14 0 rfl ?_
  refine gf_4_0 C q100 z4 dX4_commonWord_15 ?_
  refine gf_9_1 C q101 z9 dX4_commonWord_18 ?_
  refine x_icmp_ge (tgt := 51) C dX4_commonWord_21 (by decide) (fun c2 => ?_) (fun c2 => ?_)
  · replace h := h.1 c2
    obtain ⟨v3, ev3⟩ : ∃ z : Int32, z = y3 + (-1) := ⟨_, rfl⟩
    replace h := h v3 ev3
    refine x_iinc (v := v3) (lv' := [(3, .int v3), (0, .ref (ga G 4 0)), (2, .int y2), (4, .int y4)]) (j := 2) C dX4_commonWord_51 rfl (by rw [ev3]; rfl) (Nat.le_of_ble_eq_true rfl) rfl ?_
    refine x_goto (tgt := 5) C dX4_commonWord_54 (by decide) ?_
    refine X_sub (lv' := [(0, .ref (ga G 4 0)), (2, .int y2), (3, .int v3)]) [1, 2, 0] rfl ?_
    have w9 := hL5 (M, y2, v3) h
    dsimp only at w9
    exact w9
  · replace h := h.2 c2
    refine x_aload_n C dX4_commonWord_24 0 rfl ?_
    refine gf_4_11 C q0 z4 dX4_commonWord_25 ?_
    refine x_iload C dX4_commonWord_28 3 rfl ?_
    obtain ⟨f4, h⟩ := h
    refine al_511 C z511 f4 dX4_commonWord_30 ?_
    refine x_iload_n C dX4_commonWord_31 2 rfl ?_
    refine x_icmp_ne (tgt := 45) C dX4_commonWord_32 (by decide) (fun c5 => ?_) (fun c5 => ?_)
    · replace h := h.1 c5
      refine X_sub (lv' := [(0, .ref (ga G 4 0)), (2, .int y2), (3, .int y3), (4, .int y4)]) [0, 1, 2, 3] rfl ?_
      exact wX4_commonWord_45 hG C E hL5 hL12 M y2 y3 y4 h
    · replace h := h.2 c5
      refine x_iload_n C dX4_commonWord_35 1 rfl ?_
      refine x_if_ne (tgt := 42) C dX4_commonWord_36 (by decide) (fun c6 => ?_) (fun c6 => ?_)
      · replace h := h.1 c6
        obtain ⟨v7, ev7⟩ : ∃ z : Int32, z = y2 + (-1) := ⟨_, rfl⟩
        replace h := h v7 ev7
        refine x_iinc (v := v7) (lv' := [(2, .int v7), (0, .ref (ga G 4 0)), (3, .int y3), (4, .int y4)]) (j := 1) C dX4_commonWord_42 rfl (by rw [ev7]; rfl) (Nat.le_of_ble_eq_true rfl) rfl ?_
        refine X_sub (lv' := [(0, .ref (ga G 4 0)), (2, .int v7), (3, .int y3), (4, .int y4)]) [1, 0, 2, 3] rfl ?_
        exact wX4_commonWord_45 hG C E hL5 hL12 M v7 y3 y4 h
      · replace h := h.2 c6
        refine x_iload C dX4_commonWord_39 3 rfl ?_
        exact x_iret C E h (Nat.le_of_ble_eq_true rfl) (Nat.le_of_ble_eq_true rfl) dX4_commonWord_41
set_option maxRecDepth 100000 in
set_option maxHeartbeats 400000 in
theorem wX4_commonWord_5 {Γ : Gam} {G : Gm} {Qf : State → Prop} (hG : Gd G) (C : Cx Γ G cX4_commonWord 5 RX4 (some .int) rmX4_commonWord) {x1 : Int32} {Q : Int32 → Mem → Prop} (E : EndI Γ G Qf rmX4_commonWord Q) {L5 : Mem × Int32 × Int32 → Prop} (hL5 : ∀ s, L5 s → X Γ G Qf 5 0 0 5 [(0, .ref (ga G 4 0)), (2, .int s.2.1), (3, .int s.2.2)] [] s.1) (M : Mem) (y2 : Int32) (y3 : Int32) (h : bX4_commonWord_5 x1 Q L5 M y2 y3) : X Γ G Qf 5 0 0 5 [(0, .ref (ga G 4 0)), (2, .int y2), (3, .int y3)] [] M := by
  unfold bX4_commonWord_5 at h
  refine x_iload_n C dX4_commonWord_5 2 rfl ?_
  refine x_if_lt (tgt := 57) C dX4_commonWord_6 (by decide) (fun c1 => ?_) (fun c1 => ?_)
  · replace h := h.1 c1
    refine x_iconst (v := (-1)) C dX4_commonWord_57 rfl ?_
    exact x_iret C E h (Nat.le_of_ble_eq_true rfl) (Nat.le_of_ble_eq_true rfl) dX4_commonWord_58
  · replace h := h.2 c1
    refine x_iconst (v := 0) C dX4_commonWord_9 rfl ?_
    refine x_istore (lv' := [(4, .int 0), (0, .ref (ga G 4 0)), (2, .int y2), (3, .int y3)]) C dX4_commonWord_10 (Nat.le_of_ble_eq_true rfl) rfl ?_
    obtain ⟨n9, h⟩ := h
    refine X_sub (lv' := [(0, .ref (ga G 4 0)), (2, .int y2), (3, .int y3), (4, .int 0)]) [1, 2, 3, 0] rfl ?_
    have hb : ∀ (L : Mem × Int32 × Int32 × Int32 → Prop) (s : Mem × Int32 × Int32 × Int32), (∀ t, L t → X Γ G Qf 5 0 0 12 [(0, .ref (ga G 4 0)), (2, .int t.2.1), (3, .int t.2.2.1), (4, .int t.2.2.2)] [] t.1) → bX4_commonWord_12 x1 Q L5 L s.1 s.2.1 s.2.2.1 s.2.2.2 → X Γ G Qf 5 0 0 12 [(0, .ref (ga G 4 0)), (2, .int s.2.1), (3, .int s.2.2.1), (4, .int s.2.2.2)] [] s.1 := fun L s hL h => wX4_commonWord_12 hG C E hL5 hL s.1 s.2.1 s.2.2.1 s.2.2.2 h
    have w9 := lp_walk (P := fun s : Mem × Int32 × Int32 × Int32 => X Γ G Qf 5 0 0 12 [(0, .ref (ga G 4 0)), (2, .int s.2.1), (3, .int s.2.2.1), (4, .int s.2.2.2)] [] s.1) h hb
    dsimp only at w9
    exact w9
set_option maxRecDepth 100000 in
set_option maxHeartbeats 400000 in
theorem kX4_commonWord {l : Launch} {G : Gm} (hG : Gd G) (M : Mem) (x1 : Int32) {Q : Int32 → Mem → Prop} (h : pX4_commonWord M x1 Q) : Cti l G yX4_commonWord cX4_commonWord 5 .int rmX4_commonWord [.ref (ga G 4 0), .int x1] M Q := by
  refine cti_of (own := RX4) (by decide +kernel) rfl (Nat.le_of_ble_eq_true rfl) hG (fun Γ Qf hl C E => ?_)
  subst hl
  show X Γ G Qf 5 0 0 0 [(0, .ref (ga G 4 0)), (1, .int x1)] [] M
  unfold pX4_commonWord at h
  refine x_iload_n C dX4_commonWord_0 1 rfl ?_
  refine x_istore_n (lv' := [(2, .int x1), (0, .ref (ga G 4 0)), (1, .int x1)]) C dX4_commonWord_1 rfl (Nat.le_of_ble_eq_true rfl) rfl ?_
  refine x_bipush (v := 64) C dX4_commonWord_2 rfl ?_
  refine x_istore_n (lv' := [(3, .int 64), (2, .int x1), (0, .ref (ga G 4 0)), (1, .int x1)]) C dX4_commonWord_4 rfl (Nat.le_of_ble_eq_true rfl) rfl ?_
  obtain ⟨n9, h⟩ := h
  refine X_sub (lv' := [(0, .ref (ga G 4 0)), (2, .int x1), (3, .int 64)]) [2, 1, 0] rfl ?_
  have hb : ∀ (L : Mem × Int32 × Int32 → Prop) (s : Mem × Int32 × Int32), (∀ t, L t → X Γ G Qf 5 0 0 5 [(0, .ref (ga G 4 0)), (2, .int t.2.1), (3, .int t.2.2)] [] t.1) → bX4_commonWord_5 x1 Q L s.1 s.2.1 s.2.2 → X Γ G Qf 5 0 0 5 [(0, .ref (ga G 4 0)), (2, .int s.2.1), (3, .int s.2.2)] [] s.1 := fun L s hL h => wX4_commonWord_5 hG C E hL s.1 s.2.1 s.2.2 h
  have w9 := lp_walk (P := fun s : Mem × Int32 × Int32 => X Γ G Qf 5 0 0 5 [(0, .ref (ga G 4 0)), (2, .int s.2.1), (3, .int s.2.2)] [] s.1) h hb
  dsimp only at w9
  exact w9
def rmX5_bitsOf : Room := { frames := 2, cells := 0, slots := 0, locals := 56 }
def bX5_bitsOf_16 (x1 : Int32) (x2 : Int32) (Q : Int32 → Mem → Prop) (L16 : Mem × Int32 × Int32 × Int32 → Prop) (M : Mem) (y3 : Int32) (y4 : Int32) (y5 : Int32) : Prop :=
  ((y4 ≤ y5 → Q y3 M) ∧ (¬ y4 ≤ y5 → pX5_measure M x1 y5 x2 (fun M5 => ∀ v6 : Int32, v6 = (y3 + (M5.1 605 0 0)) → ∀ v7 : Int32, v7 = y5 + 1 → L16 (M5, v6, y4, v7))))
def pX5_bitsOf (M : Mem) (x1 : Int32) (x2 : Int32) (Q : Int32 → Mem → Prop) : Prop :=
  pX4_blocksOf M x1 x2 (fun r1 M2 => ∃ n : Nat, lp (fun L s => bX5_bitsOf_16 x1 x2 Q L s.1 s.2.1 s.2.2.1 s.2.2.2) n (M2, 0, r1, 0))
set_option maxRecDepth 100000 in
set_option maxHeartbeats 400000 in
theorem wX5_bitsOf_16 {Γ : Gam} {G : Gm} {Qf : State → Prop} (hG : Gd G) (C : Cx Γ G cX5_bitsOf 6 RX5 (some .int) rmX5_bitsOf) {x1 : Int32} {x2 : Int32} {Q : Int32 → Mem → Prop} (E : EndI Γ G Qf rmX5_bitsOf Q) {L16 : Mem × Int32 × Int32 × Int32 → Prop} (hL16 : ∀ s, L16 s → X Γ G Qf 6 0 0 16 [(0, .ref (ga G 5 0)), (1, .int x1), (2, .int x2), (3, .int s.2.1), (4, .int s.2.2.1), (5, .int s.2.2.2)] [] s.1) (M : Mem) (y3 : Int32) (y4 : Int32) (y5 : Int32) (h : bX5_bitsOf_16 x1 x2 Q L16 M y3 y4 y5) : X Γ G Qf 6 0 0 16 [(0, .ref (ga G 5 0)), (1, .int x1), (2, .int x2), (3, .int y3), (4, .int y4), (5, .int y5)] [] M := by
  unfold bX5_bitsOf_16 at h
  refine x_iload C dX5_bitsOf_16 5 rfl ?_
  refine x_iload C dX5_bitsOf_18 4 rfl ?_
  refine x_icmp_ge (tgt := 44) C dX5_bitsOf_20 (by decide) (fun c3 => ?_) (fun c3 => ?_)
  · replace h := h.1 c3
    refine x_iload_n C dX5_bitsOf_44 3 rfl ?_
    exact x_iret C E h (Nat.le_of_ble_eq_true rfl) (Nat.le_of_ble_eq_true rfl) dX5_bitsOf_45
  · replace h := h.2 c3
    refine x_aload_n C dX5_bitsOf_23 0 rfl ?_
    refine x_iload_n C dX5_bitsOf_24 1 rfl ?_
    refine x_iload C dX5_bitsOf_25 5 rfl ?_
    refine x_iload_n C dX5_bitsOf_27 2 rfl ?_
    refine x_callv (rest := []) C sv_X5_74 ob5 z5 (kX5_measure hG _ _ _ _ h) rfl rfl (Nat.le_of_ble_eq_true rfl) ⟨Nat.le_of_ble_eq_true rfl, Nat.le_of_ble_eq_true rfl⟩ rfl rfl ⟨Nat.le_of_ble_eq_true rfl, Nat.le_of_ble_eq_true rfl⟩ dX5_bitsOf_28 (fun M5 h => ?_)
    refine x_iload_n C dX5_bitsOf_31 3 rfl ?_
    refine x_aload_n C dX5_bitsOf_32 0 rfl ?_
    refine gf_5_5 C q14 z5 dX5_bitsOf_33 ?_
    refine x_iadd C dX5_bitsOf_36 ?_
    refine X_name (fun v6 ev6 => ?_)
    replace h := h v6 ev6
    refine x_istore_n (lv' := [(3, .int v6), (0, .ref (ga G 5 0)), (1, .int x1), (2, .int x2), (4, .int y4), (5, .int y5)]) C dX5_bitsOf_37 rfl (Nat.le_of_ble_eq_true rfl) rfl ?_
    obtain ⟨v7, ev7⟩ : ∃ z : Int32, z = y5 + 1 := ⟨_, rfl⟩
    replace h := h v7 ev7
    refine x_iinc (v := v7) (lv' := [(5, .int v7), (3, .int v6), (0, .ref (ga G 5 0)), (1, .int x1), (2, .int x2), (4, .int y4)]) (j := 5) C dX5_bitsOf_38 rfl (by rw [ev7]; rfl) (Nat.le_of_ble_eq_true rfl) rfl ?_
    refine x_goto (tgt := 16) C dX5_bitsOf_41 (by decide) ?_
    refine X_sub (lv' := [(0, .ref (ga G 5 0)), (1, .int x1), (2, .int x2), (3, .int v6), (4, .int y4), (5, .int v7)]) [2, 3, 4, 1, 5, 0] rfl ?_
    have w9 := hL16 (M5, v6, y4, v7) h
    dsimp only at w9
    exact w9
set_option maxRecDepth 100000 in
set_option maxHeartbeats 400000 in
theorem kX5_bitsOf {l : Launch} {G : Gm} (hG : Gd G) (M : Mem) (x1 : Int32) (x2 : Int32) {Q : Int32 → Mem → Prop} (h : pX5_bitsOf M x1 x2 Q) : Cti l G yX5_bitsOf cX5_bitsOf 6 .int rmX5_bitsOf [.ref (ga G 5 0), .int x1, .int x2] M Q := by
  refine cti_of (own := RX5) (by decide +kernel) rfl (Nat.le_of_ble_eq_true rfl) hG (fun Γ Qf hl C E => ?_)
  subst hl
  show X Γ G Qf 6 0 0 0 [(0, .ref (ga G 5 0)), (1, .int x1), (2, .int x2)] [] M
  unfold pX5_bitsOf at h
  refine x_iconst (v := 0) C dX5_bitsOf_0 rfl ?_
  refine x_istore_n (lv' := [(3, .int 0), (0, .ref (ga G 5 0)), (1, .int x1), (2, .int x2)]) C dX5_bitsOf_1 rfl (Nat.le_of_ble_eq_true rfl) rfl ?_
  refine x_aload_n C dX5_bitsOf_2 1 rfl ?_
  refine gf_5_0 C q4 z5 dX5_bitsOf_3 ?_
  refine x_iload_n C dX5_bitsOf_6 2 rfl ?_
  refine x_iload_n C dX5_bitsOf_7 3 rfl ?_
  refine x_calli (rest := []) C sv_X5_71 ob4 z4 (kX4_blocksOf hG _ _ _ h) rfl rfl (Nat.le_of_ble_eq_true rfl) ⟨Nat.le_of_ble_eq_true rfl, Nat.le_of_ble_eq_true rfl⟩ rfl rfl ⟨Nat.le_of_ble_eq_true rfl, Nat.le_of_ble_eq_true rfl⟩ dX5_bitsOf_8 (fun r1 M2 h => ?_)
  refine x_istore (lv' := [(4, .int r1), (3, .int 0), (0, .ref (ga G 5 0)), (1, .int x1), (2, .int x2)]) C dX5_bitsOf_11 (Nat.le_of_ble_eq_true rfl) rfl ?_
  refine x_iconst (v := 0) C dX5_bitsOf_13 rfl ?_
  refine x_istore (lv' := [(5, .int 0), (4, .int r1), (3, .int 0), (0, .ref (ga G 5 0)), (1, .int x1), (2, .int x2)]) C dX5_bitsOf_14 (Nat.le_of_ble_eq_true rfl) rfl ?_
  obtain ⟨n9, h⟩ := h
  refine X_sub (lv' := [(0, .ref (ga G 5 0)), (1, .int x1), (2, .int x2), (3, .int 0), (4, .int r1), (5, .int 0)]) [3, 4, 5, 2, 1, 0] rfl ?_
  have hb : ∀ (L : Mem × Int32 × Int32 × Int32 → Prop) (s : Mem × Int32 × Int32 × Int32), (∀ t, L t → X Γ G Qf 6 0 0 16 [(0, .ref (ga G 5 0)), (1, .int x1), (2, .int x2), (3, .int t.2.1), (4, .int t.2.2.1), (5, .int t.2.2.2)] [] t.1) → bX5_bitsOf_16 x1 x2 Q L s.1 s.2.1 s.2.2.1 s.2.2.2 → X Γ G Qf 6 0 0 16 [(0, .ref (ga G 5 0)), (1, .int x1), (2, .int x2), (3, .int s.2.1), (4, .int s.2.2.1), (5, .int s.2.2.2)] [] s.1 := fun L s hL h => wX5_bitsOf_16 hG C E hL s.1 s.2.1 s.2.2.1 s.2.2.2 h
  have w9 := lp_walk (P := fun s : Mem × Int32 × Int32 × Int32 => X Γ G Qf 6 0 0 16 [(0, .ref (ga G 5 0)), (1, .int x1), (2, .int x2), (3, .int s.2.1), (4, .int s.2.2.1), (5, .int s.2.2.2)] [] s.1) h hb
  dsimp only at w9
  exact w9
def rmX5_allBits : Room := { frames := 3, cells := 0, slots := 0, locals := 81 }
def bX5_allBits_4 (x1 : Int32) (Q : Int32 → Mem → Prop) (L4 : Mem × Int32 × Int32 → Prop) (M : Mem) (y2 : Int32) (y3 : Int32) : Prop :=
  (((M.1 1001 0 0) ≤ y3 → Q y2 M) ∧ (¬ (M.1 1001 0 0) ≤ y3 → pX5_bitsOf M y3 x1 (fun r2 M3 => ∀ v4 : Int32, v4 = (y2 + r2) → ∀ v5 : Int32, v5 = y3 + 1 → L4 (M3, v4, v5))))
def pX5_allBits (M : Mem) (x1 : Int32) (Q : Int32 → Mem → Prop) : Prop :=
  ∃ n : Nat, lp (fun L s => bX5_allBits_4 x1 Q L s.1 s.2.1 s.2.2) n (M, 0, 0)
set_option maxRecDepth 100000 in
set_option maxHeartbeats 400000 in
theorem wX5_allBits_4 {Γ : Gam} {G : Gm} {Qf : State → Prop} (hG : Gd G) (C : Cx Γ G cX5_allBits 4 RX5 (some .int) rmX5_allBits) {x1 : Int32} {Q : Int32 → Mem → Prop} (E : EndI Γ G Qf rmX5_allBits Q) {L4 : Mem × Int32 × Int32 → Prop} (hL4 : ∀ s, L4 s → X Γ G Qf 4 0 0 4 [(0, .ref (ga G 5 0)), (1, .int x1), (2, .int s.2.1), (3, .int s.2.2)] [] s.1) (M : Mem) (y2 : Int32) (y3 : Int32) (h : bX5_allBits_4 x1 Q L4 M y2 y3) : X Γ G Qf 4 0 0 4 [(0, .ref (ga G 5 0)), (1, .int x1), (2, .int y2), (3, .int y3)] [] M := by
  unfold bX5_allBits_4 at h
  refine x_iload_n C dX5_allBits_4 3 rfl ?_
  refine x_aload_n C dX5_allBits_5 0 rfl ?_
  refine gf_5_0 C q4 z5 dX5_allBits_6 ?_
  refine gf_4_0 C q103 z4 dX5_allBits_9 ?_
  refine gf_9_1 C q104 z9 dX5_allBits_12 ?_
  refine x_icmp_ge (tgt := 33) C dX5_allBits_15 (by decide) (fun c1 => ?_) (fun c1 => ?_)
  · replace h := h.1 c1
    refine x_iload_n C dX5_allBits_33 2 rfl ?_
    exact x_iret C E h (Nat.le_of_ble_eq_true rfl) (Nat.le_of_ble_eq_true rfl) dX5_allBits_34
  · replace h := h.2 c1
    refine x_iload_n C dX5_allBits_18 2 rfl ?_
    refine x_aload_n C dX5_allBits_19 0 rfl ?_
    refine x_iload_n C dX5_allBits_20 3 rfl ?_
    refine x_iload_n C dX5_allBits_21 1 rfl ?_
    refine x_calli (rest := [.int y2]) C sv_X5_87 ob5 z5 (kX5_bitsOf hG _ _ _ h) rfl rfl (Nat.le_of_ble_eq_true rfl) ⟨Nat.le_of_ble_eq_true rfl, Nat.le_of_ble_eq_true rfl⟩ rfl rfl ⟨Nat.le_of_ble_eq_true rfl, Nat.le_of_ble_eq_true rfl⟩ dX5_allBits_22 (fun r2 M3 h => ?_)
    refine x_iadd C dX5_allBits_25 ?_
    refine X_name (fun v4 ev4 => ?_)
    replace h := h v4 ev4
    refine x_istore_n (lv' := [(2, .int v4), (0, .ref (ga G 5 0)), (1, .int x1), (3, .int y3)]) C dX5_allBits_26 rfl (Nat.le_of_ble_eq_true rfl) rfl ?_
    obtain ⟨v5, ev5⟩ : ∃ z : Int32, z = y3 + 1 := ⟨_, rfl⟩
    replace h := h v5 ev5
    refine x_iinc (v := v5) (lv' := [(3, .int v5), (2, .int v4), (0, .ref (ga G 5 0)), (1, .int x1)]) (j := 3) C dX5_allBits_27 rfl (by rw [ev5]; rfl) (Nat.le_of_ble_eq_true rfl) rfl ?_
    refine x_goto (tgt := 4) C dX5_allBits_30 (by decide) ?_
    refine X_sub (lv' := [(0, .ref (ga G 5 0)), (1, .int x1), (2, .int v4), (3, .int v5)]) [2, 3, 1, 0] rfl ?_
    have w9 := hL4 (M3, v4, v5) h
    dsimp only at w9
    exact w9
set_option maxRecDepth 100000 in
set_option maxHeartbeats 400000 in
theorem kX5_allBits {l : Launch} {G : Gm} (hG : Gd G) (M : Mem) (x1 : Int32) {Q : Int32 → Mem → Prop} (h : pX5_allBits M x1 Q) : Cti l G yX5_allBits cX5_allBits 4 .int rmX5_allBits [.ref (ga G 5 0), .int x1] M Q := by
  refine cti_of (own := RX5) (by decide +kernel) rfl (Nat.le_of_ble_eq_true rfl) hG (fun Γ Qf hl C E => ?_)
  subst hl
  show X Γ G Qf 4 0 0 0 [(0, .ref (ga G 5 0)), (1, .int x1)] [] M
  unfold pX5_allBits at h
  refine x_iconst (v := 0) C dX5_allBits_0 rfl ?_
  refine x_istore_n (lv' := [(2, .int 0), (0, .ref (ga G 5 0)), (1, .int x1)]) C dX5_allBits_1 rfl (Nat.le_of_ble_eq_true rfl) rfl ?_
  refine x_iconst (v := 0) C dX5_allBits_2 rfl ?_
  refine x_istore_n (lv' := [(3, .int 0), (2, .int 0), (0, .ref (ga G 5 0)), (1, .int x1)]) C dX5_allBits_3 rfl (Nat.le_of_ble_eq_true rfl) rfl ?_
  obtain ⟨n9, h⟩ := h
  refine X_sub (lv' := [(0, .ref (ga G 5 0)), (1, .int x1), (2, .int 0), (3, .int 0)]) [2, 3, 1, 0] rfl ?_
  have hb : ∀ (L : Mem × Int32 × Int32 → Prop) (s : Mem × Int32 × Int32), (∀ t, L t → X Γ G Qf 4 0 0 4 [(0, .ref (ga G 5 0)), (1, .int x1), (2, .int t.2.1), (3, .int t.2.2)] [] t.1) → bX5_allBits_4 x1 Q L s.1 s.2.1 s.2.2 → X Γ G Qf 4 0 0 4 [(0, .ref (ga G 5 0)), (1, .int x1), (2, .int s.2.1), (3, .int s.2.2)] [] s.1 := fun L s hL h => wX5_allBits_4 hG C E hL s.1 s.2.1 s.2.2 h
  have w9 := lp_walk (P := fun s : Mem × Int32 × Int32 => X Γ G Qf 4 0 0 4 [(0, .ref (ga G 5 0)), (1, .int x1), (2, .int s.2.1), (3, .int s.2.2)] [] s.1) h hb
  dsimp only at w9
  exact w9
def rmX5_allBlocks : Room := { frames := 2, cells := 0, slots := 0, locals := 36 }
def bX5_allBlocks_4 (x1 : Int32) (Q : Int32 → Mem → Prop) (L4 : Mem × Int32 × Int32 → Prop) (M : Mem) (y2 : Int32) (y3 : Int32) : Prop :=
  (((M.1 1001 0 0) ≤ y3 → Q y2 M) ∧ (¬ (M.1 1001 0 0) ≤ y3 → pX4_blocksOf M y3 x1 (fun r2 M3 => ∀ v4 : Int32, v4 = (y2 + r2) → ∀ v5 : Int32, v5 = y3 + 1 → L4 (M3, v4, v5))))
def pX5_allBlocks (M : Mem) (x1 : Int32) (Q : Int32 → Mem → Prop) : Prop :=
  ∃ n : Nat, lp (fun L s => bX5_allBlocks_4 x1 Q L s.1 s.2.1 s.2.2) n (M, 0, 0)
set_option maxRecDepth 100000 in
set_option maxHeartbeats 400000 in
theorem wX5_allBlocks_4 {Γ : Gam} {G : Gm} {Qf : State → Prop} (hG : Gd G) (C : Cx Γ G cX5_allBlocks 4 RX5 (some .int) rmX5_allBlocks) {x1 : Int32} {Q : Int32 → Mem → Prop} (E : EndI Γ G Qf rmX5_allBlocks Q) {L4 : Mem × Int32 × Int32 → Prop} (hL4 : ∀ s, L4 s → X Γ G Qf 4 0 0 4 [(0, .ref (ga G 5 0)), (1, .int x1), (2, .int s.2.1), (3, .int s.2.2)] [] s.1) (M : Mem) (y2 : Int32) (y3 : Int32) (h : bX5_allBlocks_4 x1 Q L4 M y2 y3) : X Γ G Qf 4 0 0 4 [(0, .ref (ga G 5 0)), (1, .int x1), (2, .int y2), (3, .int y3)] [] M := by
  unfold bX5_allBlocks_4 at h
  refine x_iload_n C dX5_allBlocks_4 3 rfl ?_
  refine x_aload_n C dX5_allBlocks_5 0 rfl ?_
  refine gf_5_0 C q4 z5 dX5_allBlocks_6 ?_
  refine gf_4_0 C q103 z4 dX5_allBlocks_9 ?_
  refine gf_9_1 C q104 z9 dX5_allBlocks_12 ?_
  refine x_icmp_ge (tgt := 36) C dX5_allBlocks_15 (by decide) (fun c1 => ?_) (fun c1 => ?_)
  · replace h := h.1 c1
    refine x_iload_n C dX5_allBlocks_36 2 rfl ?_
    exact x_iret C E h (Nat.le_of_ble_eq_true rfl) (Nat.le_of_ble_eq_true rfl) dX5_allBlocks_37
  · replace h := h.2 c1
    refine x_iload_n C dX5_allBlocks_18 2 rfl ?_
    refine x_aload_n C dX5_allBlocks_19 0 rfl ?_
    refine gf_5_0 C q4 z5 dX5_allBlocks_20 ?_
    refine x_iload_n C dX5_allBlocks_23 3 rfl ?_
    refine x_iload_n C dX5_allBlocks_24 1 rfl ?_
    refine x_calli (rest := [.int y2]) C sv_X5_71 ob4 z4 (kX4_blocksOf hG _ _ _ h) rfl rfl (Nat.le_of_ble_eq_true rfl) ⟨Nat.le_of_ble_eq_true rfl, Nat.le_of_ble_eq_true rfl⟩ rfl rfl ⟨Nat.le_of_ble_eq_true rfl, Nat.le_of_ble_eq_true rfl⟩ dX5_allBlocks_25 (fun r2 M3 h => ?_)
    refine x_iadd C dX5_allBlocks_28 ?_
    refine X_name (fun v4 ev4 => ?_)
    replace h := h v4 ev4
    refine x_istore_n (lv' := [(2, .int v4), (0, .ref (ga G 5 0)), (1, .int x1), (3, .int y3)]) C dX5_allBlocks_29 rfl (Nat.le_of_ble_eq_true rfl) rfl ?_
    obtain ⟨v5, ev5⟩ : ∃ z : Int32, z = y3 + 1 := ⟨_, rfl⟩
    replace h := h v5 ev5
    refine x_iinc (v := v5) (lv' := [(3, .int v5), (2, .int v4), (0, .ref (ga G 5 0)), (1, .int x1)]) (j := 3) C dX5_allBlocks_30 rfl (by rw [ev5]; rfl) (Nat.le_of_ble_eq_true rfl) rfl ?_
    refine x_goto (tgt := 4) C dX5_allBlocks_33 (by decide) ?_
    refine X_sub (lv' := [(0, .ref (ga G 5 0)), (1, .int x1), (2, .int v4), (3, .int v5)]) [2, 3, 1, 0] rfl ?_
    have w9 := hL4 (M3, v4, v5) h
    dsimp only at w9
    exact w9
set_option maxRecDepth 100000 in
set_option maxHeartbeats 400000 in
theorem kX5_allBlocks {l : Launch} {G : Gm} (hG : Gd G) (M : Mem) (x1 : Int32) {Q : Int32 → Mem → Prop} (h : pX5_allBlocks M x1 Q) : Cti l G yX5_allBlocks cX5_allBlocks 4 .int rmX5_allBlocks [.ref (ga G 5 0), .int x1] M Q := by
  refine cti_of (own := RX5) (by decide +kernel) rfl (Nat.le_of_ble_eq_true rfl) hG (fun Γ Qf hl C E => ?_)
  subst hl
  show X Γ G Qf 4 0 0 0 [(0, .ref (ga G 5 0)), (1, .int x1)] [] M
  unfold pX5_allBlocks at h
  refine x_iconst (v := 0) C dX5_allBlocks_0 rfl ?_
  refine x_istore_n (lv' := [(2, .int 0), (0, .ref (ga G 5 0)), (1, .int x1)]) C dX5_allBlocks_1 rfl (Nat.le_of_ble_eq_true rfl) rfl ?_
  refine x_iconst (v := 0) C dX5_allBlocks_2 rfl ?_
  refine x_istore_n (lv' := [(3, .int 0), (2, .int 0), (0, .ref (ga G 5 0)), (1, .int x1)]) C dX5_allBlocks_3 rfl (Nat.le_of_ble_eq_true rfl) rfl ?_
  obtain ⟨n9, h⟩ := h
  refine X_sub (lv' := [(0, .ref (ga G 5 0)), (1, .int x1), (2, .int 0), (3, .int 0)]) [2, 3, 1, 0] rfl ?_
  have hb : ∀ (L : Mem × Int32 × Int32 → Prop) (s : Mem × Int32 × Int32), (∀ t, L t → X Γ G Qf 4 0 0 4 [(0, .ref (ga G 5 0)), (1, .int x1), (2, .int t.2.1), (3, .int t.2.2)] [] t.1) → bX5_allBlocks_4 x1 Q L s.1 s.2.1 s.2.2 → X Γ G Qf 4 0 0 4 [(0, .ref (ga G 5 0)), (1, .int x1), (2, .int s.2.1), (3, .int s.2.2)] [] s.1 := fun L s hL h => wX5_allBlocks_4 hG C E hL s.1 s.2.1 s.2.2 h
  have w9 := lp_walk (P := fun s : Mem × Int32 × Int32 => X Γ G Qf 4 0 0 4 [(0, .ref (ga G 5 0)), (1, .int x1), (2, .int s.2.1), (3, .int s.2.2)] [] s.1) h hb
  dsimp only at w9
  exact w9
def rmX6_hasScored : Room := { frames := 0, cells := 0, slots := 0, locals := 0 }
def pX6_hasScored (M : Mem) (x1 : Int32) (Q : Int32 → Mem → Prop) : Prop :=
  ((x1 < 0 → Q 0 M) ∧ (¬ x1 < 0 → (((M.1 701 0 0) ≤ x1 → Q 0 M) ∧ (¬ (M.1 701 0 0) ≤ x1 → Q 1 M))))
set_option maxRecDepth 100000 in
set_option maxHeartbeats 400000 in
theorem kX6_hasScored {l : Launch} {G : Gm} (hG : Gd G) (M : Mem) (x1 : Int32) {Q : Int32 → Mem → Prop} (h : pX6_hasScored M x1 Q) : Cti l G yX6_hasScored cX6_hasScored 2 .boolean rmX6_hasScored [.ref (ga G 6 0), .int x1] M Q := by
  refine cti_of (own := RX6) (by decide +kernel) rfl (Nat.le_of_ble_eq_true rfl) hG (fun Γ Qf hl C E => ?_)
  subst hl
  show X Γ G Qf 2 0 0 0 [(0, .ref (ga G 6 0)), (1, .int x1)] [] M
  unfold pX6_hasScored at h
  refine x_iload_n C dX6_hasScored_0 1 rfl ?_
  refine x_if_lt (tgt := 16) C dX6_hasScored_1 (by decide) (fun c1 => ?_) (fun c1 => ?_)
  · replace h := h.1 c1
    refine x_iconst (v := 0) C dX6_hasScored_16 rfl ?_
    exact x_zret C E h rfl (Nat.le_of_ble_eq_true rfl) (Nat.le_of_ble_eq_true rfl) dX6_hasScored_17
  · replace h := h.2 c1
    refine x_iload_n C dX6_hasScored_4 1 rfl ?_
    refine x_aload_n C dX6_hasScored_5 0 rfl ?_
    refine gf_6_1 C q54 z6 dX6_hasScored_6 ?_
    refine x_icmp_ge (tgt := 16) C dX6_hasScored_9 (by decide) (fun c2 => ?_) (fun c2 => ?_)
    · replace h := h.1 c2
      refine x_iconst (v := 0) C dX6_hasScored_16 rfl ?_
      exact x_zret C E h rfl (Nat.le_of_ble_eq_true rfl) (Nat.le_of_ble_eq_true rfl) dX6_hasScored_17
    · replace h := h.2 c2
      refine x_iconst (v := 1) C dX6_hasScored_12 rfl ?_
      refine x_goto (tgt := 17) C dX6_hasScored_13 (by decide) ?_
      exact x_zret C E h rfl (Nat.le_of_ble_eq_true rfl) (Nat.le_of_ble_eq_true rfl) dX6_hasScored_17
def rmX6_clear : Room := { frames := 0, cells := 0, slots := 0, locals := 0 }
def pX6_clear (M : Mem) (Q : Mem → Prop) : Prop :=
  ∀ M1 : Mem, M1 = up1 M 700 1 0 0 → ∀ M2 : Mem, M2 = up1 M1 701 1 0 0 → ∀ M3 : Mem, M3 = up1 M2 705 1 0 0 → ∀ M4 : Mem, M4 = up1 M3 706 1 0 0 → ∀ M5 : Mem, M5 = up1 M4 708 1 0 0 → ∀ M6 : Mem, M6 = up1 M5 711 1 0 0 → Q M6
set_option maxRecDepth 100000 in
set_option maxHeartbeats 400000 in
theorem kX6_clear {l : Launch} {G : Gm} (hG : Gd G) (M : Mem)  {Q : Mem → Prop} (h : pX6_clear M Q) : Ctv l G yX6_clear cX6_clear 1 rmX6_clear [.ref (ga G 6 1)] M Q := by
  refine ctv_of (own := RX6) (by decide +kernel) rfl (Nat.le_of_ble_eq_true rfl) hG (fun Γ Qf hl C E => ?_)
  subst hl
  show X Γ G Qf 1 0 0 0 [(0, .ref (ga G 6 1))] [] M
  unfold pX6_clear at h
  refine x_aload_n C dX6_clear_0 0 rfl ?_
  refine x_iconst (v := 0) C dX6_clear_1 rfl ?_
  refine pf_6_0 C q105 z6_1 dX6_clear_2 ?_
  refine X_nameM (fun M1 eM1 => ?_)
  replace h := h M1 eM1
  refine x_aload_n C dX6_clear_5 0 rfl ?_
  refine x_iconst (v := 0) C dX6_clear_6 rfl ?_
  refine pf_6_1 C q54 z6_1 dX6_clear_7 ?_
  refine X_nameM (fun M2 eM2 => ?_)
  replace h := h M2 eM2
  refine x_aload_n C dX6_clear_10 0 rfl ?_
  refine x_iconst (v := 0) C dX6_clear_11 rfl ?_
  refine pf_6_5 C q106 z6_1 (Or.inl rfl) dX6_clear_12 ?_
  refine X_nameM (fun M3 eM3 => ?_)
  replace h := h M3 eM3
  refine x_aload_n C dX6_clear_15 0 rfl ?_
  refine x_iconst (v := 0) C dX6_clear_16 rfl ?_
  refine pf_6_6 C q107 z6_1 dX6_clear_17 ?_
  refine X_nameM (fun M4 eM4 => ?_)
  replace h := h M4 eM4
  refine x_aload_n C dX6_clear_20 0 rfl ?_
  refine x_iconst (v := 0) C dX6_clear_21 rfl ?_
  refine pf_6_8 C q108 z6_1 dX6_clear_22 ?_
  refine X_nameM (fun M5 eM5 => ?_)
  replace h := h M5 eM5
  refine x_aload_n C dX6_clear_25 0 rfl ?_
  refine x_iconst (v := 0) C dX6_clear_26 rfl ?_
  refine pf_6_11 C q55 z6_1 dX6_clear_27 ?_
  refine X_nameM (fun M6 eM6 => ?_)
  replace h := h M6 eM6
  exact x_vret C E h (Nat.le_of_ble_eq_true rfl) (Nat.le_of_ble_eq_true rfl) dX6_clear_30
def rmX6_copyFrom : Room := { frames := 0, cells := 0, slots := 0, locals := 0 }
def bX6_copyFrom_134 (Q : Mem → Prop) (L102 : Mem × Int32 → Prop) (L134 : Mem × Int32 × Int32 → Prop) (M : Mem) (y2 : Int32) (y3 : Int32) : Prop :=
  ((4 ≤ y3 → ∀ v20 : Int32, v20 = y2 + 1 → L102 (M, v20)) ∧ (¬ 4 ≤ y3 → vp_in y2 6 ∧ vp_in y3 4 ∧ ∀ M23 : Mem, M23 = up1 M 5710 (tn y2) (tn y3) (M.1 5711 (tn y2) (tn y3)) → ∀ v24 : Int32, v24 = y3 + 1 → L134 (M23, y2, v24)))
def bX6_copyFrom_102 (Q : Mem → Prop) (L102 : Mem × Int32 → Prop) (M : Mem) (y2 : Int32) : Prop :=
  ((6 ≤ y2 → Q M) ∧ (¬ 6 ≤ y2 → vp_in y2 6 ∧ ∀ M17 : Mem, M17 = up1 M 707 0 (tn y2) (M.1 707 1 (tn y2)) → ∀ M18 : Mem, M18 = up1 M17 709 0 (tn y2) (M17.1 709 1 (tn y2)) → ∃ n : Nat, lp (fun L s => bX6_copyFrom_134 Q L102 L s.1 s.2.1 s.2.2) n (M18, y2, 0)))
def bX6_copyFrom_50 (Q : Mem → Prop) (L50 : Mem × Int32 → Prop) (M : Mem) (y2 : Int32) : Prop :=
  (((M.1 701 0 0) ≤ y2 → ∃ n : Nat, lp (fun L s => bX6_copyFrom_102 Q L s.1 s.2) n (M, 0)) ∧ (¬ (M.1 701 0 0) ≤ y2 → vp_in y2 24 ∧ ∀ M10 : Mem, M10 = up1 M 702 0 (tn y2) (M.1 702 1 (tn y2)) → ∀ M11 : Mem, M11 = up1 M10 703 0 (tn y2) (M10.1 703 1 (tn y2)) → bz (M11.1 704 1 (tn y2)) ∧ ∀ M13 : Mem, M13 = up1 M11 704 0 (tn y2) (M11.1 704 1 (tn y2)) → ∀ v14 : Int32, v14 = y2 + 1 → L50 (M13, v14)))
def pX6_copyFrom (M : Mem) (Q : Mem → Prop) : Prop :=
  ∀ M1 : Mem, M1 = up1 M 700 0 0 (M.1 700 1 0) → ∀ M2 : Mem, M2 = up1 M1 701 0 0 (M1.1 701 1 0) → bz (M2.1 705 1 0) ∧ ∀ M4 : Mem, M4 = up1 M2 705 0 0 (M2.1 705 1 0) → ∀ M5 : Mem, M5 = up1 M4 706 0 0 (M4.1 706 1 0) → ∀ M6 : Mem, M6 = up1 M5 708 0 0 (M5.1 708 1 0) → ∀ M7 : Mem, M7 = up1 M6 711 0 0 (M6.1 711 1 0) → ∃ n : Nat, lp (fun L s => bX6_copyFrom_50 Q L s.1 s.2) n (M7, 0)
set_option maxRecDepth 100000 in
set_option maxHeartbeats 400000 in
theorem wX6_copyFrom_134 {Γ : Gam} {G : Gm} {Qf : State → Prop} (hG : Gd G) (C : Cx Γ G cX6_copyFrom 4 RX6 none rmX6_copyFrom)  {Q : Mem → Prop} (E : EndV Γ G Qf rmX6_copyFrom Q) {L102 : Mem × Int32 → Prop} (hL102 : ∀ s, L102 s → X Γ G Qf 4 0 0 102 [(0, .ref (ga G 6 0)), (1, .ref (ga G 6 1)), (2, .int s.2)] [] s.1) {L134 : Mem × Int32 × Int32 → Prop} (hL134 : ∀ s, L134 s → X Γ G Qf 4 0 0 134 [(0, .ref (ga G 6 0)), (1, .ref (ga G 6 1)), (2, .int s.2.1), (3, .int s.2.2)] [] s.1) (M : Mem) (y2 : Int32) (y3 : Int32) (h : bX6_copyFrom_134 Q L102 L134 M y2 y3) : X Γ G Qf 4 0 0 134 [(0, .ref (ga G 6 0)), (1, .ref (ga G 6 1)), (2, .int y2), (3, .int y3)] [] M := by
  unfold bX6_copyFrom_134 at h
  refine x_iload_n C dX6_copyFrom_134 3 rfl ?_
  refine x_iconst (v := 4) C dX6_copyFrom_135 rfl ?_
  refine x_icmp_ge (tgt := 161) C dX6_copyFrom_136 (by decide) (fun c19 => ?_) (fun c19 => ?_)
  · replace h := h.1 c19
    obtain ⟨v20, ev20⟩ : ∃ z : Int32, z = y2 + 1 := ⟨_, rfl⟩
    replace h := h v20 ev20
    refine x_iinc (v := v20) (lv' := [(2, .int v20), (0, .ref (ga G 6 0)), (1, .ref (ga G 6 1)), (3, .int y3)]) (j := 2) C dX6_copyFrom_161 rfl (by rw [ev20]; rfl) (Nat.le_of_ble_eq_true rfl) rfl ?_
    refine x_goto (tgt := 102) C dX6_copyFrom_164 (by decide) ?_
    refine X_sub (lv' := [(0, .ref (ga G 6 0)), (1, .ref (ga G 6 1)), (2, .int v20)]) [1, 2, 0] rfl ?_
    have w9 := hL102 (M, v20) h
    dsimp only at w9
    exact w9
  · replace h := h.2 c19
    refine x_aload_n C dX6_copyFrom_139 0 rfl ?_
    refine gf_6_10 C q114 z6 dX6_copyFrom_140 ?_
    refine x_iload_n C dX6_copyFrom_143 2 rfl ?_
    obtain ⟨f21, h⟩ := h
    refine al_710 C z710 f21 dX6_copyFrom_144 ?_
    refine x_iload_n C dX6_copyFrom_145 3 rfl ?_
    refine x_aload_n C dX6_copyFrom_146 1 rfl ?_
    refine gf_6_10 C q114 z6_1 dX6_copyFrom_147 ?_
    refine x_iload_n C dX6_copyFrom_150 2 rfl ?_
    refine al_710 C z710_1 f21 dX6_copyFrom_151 ?_
    refine x_iload_n C dX6_copyFrom_152 3 rfl ?_
    obtain ⟨f22, h⟩ := h
    refine al_5711 C (vp_lt f21) f22 dX6_copyFrom_153 ?_
    refine as_5710 C (vp_lt f21) f22 dX6_copyFrom_154 ?_
    refine X_nameM (fun M23 eM23 => ?_)
    replace h := h M23 eM23
    obtain ⟨v24, ev24⟩ : ∃ z : Int32, z = y3 + 1 := ⟨_, rfl⟩
    replace h := h v24 ev24
    refine x_iinc (v := v24) (lv' := [(3, .int v24), (0, .ref (ga G 6 0)), (1, .ref (ga G 6 1)), (2, .int y2)]) (j := 3) C dX6_copyFrom_155 rfl (by rw [ev24]; rfl) (Nat.le_of_ble_eq_true rfl) rfl ?_
    refine x_goto (tgt := 134) C dX6_copyFrom_158 (by decide) ?_
    refine X_sub (lv' := [(0, .ref (ga G 6 0)), (1, .ref (ga G 6 1)), (2, .int y2), (3, .int v24)]) [1, 2, 3, 0] rfl ?_
    have w9 := hL134 (M23, y2, v24) h
    dsimp only at w9
    exact w9
set_option maxRecDepth 100000 in
set_option maxHeartbeats 400000 in
theorem wX6_copyFrom_102 {Γ : Gam} {G : Gm} {Qf : State → Prop} (hG : Gd G) (C : Cx Γ G cX6_copyFrom 4 RX6 none rmX6_copyFrom)  {Q : Mem → Prop} (E : EndV Γ G Qf rmX6_copyFrom Q) {L102 : Mem × Int32 → Prop} (hL102 : ∀ s, L102 s → X Γ G Qf 4 0 0 102 [(0, .ref (ga G 6 0)), (1, .ref (ga G 6 1)), (2, .int s.2)] [] s.1) (M : Mem) (y2 : Int32) (h : bX6_copyFrom_102 Q L102 M y2) : X Γ G Qf 4 0 0 102 [(0, .ref (ga G 6 0)), (1, .ref (ga G 6 1)), (2, .int y2)] [] M := by
  unfold bX6_copyFrom_102 at h
  refine x_iload_n C dX6_copyFrom_102 2 rfl ?_
  refine x_bipush (v := 6) C dX6_copyFrom_103 rfl ?_
  refine x_icmp_ge (tgt := 167) C dX6_copyFrom_105 (by decide) (fun c15 => ?_) (fun c15 => ?_)
  · replace h := h.1 c15
    exact x_vret C E h (Nat.le_of_ble_eq_true rfl) (Nat.le_of_ble_eq_true rfl) dX6_copyFrom_167
  · replace h := h.2 c15
    refine x_aload_n C dX6_copyFrom_108 0 rfl ?_
    refine gf_6_7 C q112 z6 dX6_copyFrom_109 ?_
    refine x_iload_n C dX6_copyFrom_112 2 rfl ?_
    refine x_aload_n C dX6_copyFrom_113 1 rfl ?_
    refine gf_6_7 C q112 z6_1 dX6_copyFrom_114 ?_
    refine x_iload_n C dX6_copyFrom_117 2 rfl ?_
    obtain ⟨f16, h⟩ := h
    refine al_707 C z707_1 f16 dX6_copyFrom_118 ?_
    refine as_707 C z707 f16 dX6_copyFrom_119 ?_
    refine X_nameM (fun M17 eM17 => ?_)
    replace h := h M17 eM17
    refine x_aload_n C dX6_copyFrom_120 0 rfl ?_
    refine gf_6_9 C q113 z6 dX6_copyFrom_121 ?_
    refine x_iload_n C dX6_copyFrom_124 2 rfl ?_
    refine x_aload_n C dX6_copyFrom_125 1 rfl ?_
    refine gf_6_9 C q113 z6_1 dX6_copyFrom_126 ?_
    refine x_iload_n C dX6_copyFrom_129 2 rfl ?_
    refine al_709 C z709_1 f16 dX6_copyFrom_130 ?_
    refine as_709 C z709 f16 dX6_copyFrom_131 ?_
    refine X_nameM (fun M18 eM18 => ?_)
    replace h := h M18 eM18
    refine x_iconst (v := 0) C dX6_copyFrom_132 rfl ?_
    refine x_istore_n (lv' := [(3, .int 0), (0, .ref (ga G 6 0)), (1, .ref (ga G 6 1)), (2, .int y2)]) C dX6_copyFrom_133 rfl (Nat.le_of_ble_eq_true rfl) rfl ?_
    obtain ⟨n9, h⟩ := h
    refine X_sub (lv' := [(0, .ref (ga G 6 0)), (1, .ref (ga G 6 1)), (2, .int y2), (3, .int 0)]) [1, 2, 3, 0] rfl ?_
    have hb : ∀ (L : Mem × Int32 × Int32 → Prop) (s : Mem × Int32 × Int32), (∀ t, L t → X Γ G Qf 4 0 0 134 [(0, .ref (ga G 6 0)), (1, .ref (ga G 6 1)), (2, .int t.2.1), (3, .int t.2.2)] [] t.1) → bX6_copyFrom_134 Q L102 L s.1 s.2.1 s.2.2 → X Γ G Qf 4 0 0 134 [(0, .ref (ga G 6 0)), (1, .ref (ga G 6 1)), (2, .int s.2.1), (3, .int s.2.2)] [] s.1 := fun L s hL h => wX6_copyFrom_134 hG C E hL102 hL s.1 s.2.1 s.2.2 h
    have w9 := lp_walk (P := fun s : Mem × Int32 × Int32 => X Γ G Qf 4 0 0 134 [(0, .ref (ga G 6 0)), (1, .ref (ga G 6 1)), (2, .int s.2.1), (3, .int s.2.2)] [] s.1) h hb
    dsimp only at w9
    exact w9
set_option maxRecDepth 100000 in
set_option maxHeartbeats 400000 in
theorem wX6_copyFrom_50 {Γ : Gam} {G : Gm} {Qf : State → Prop} (hG : Gd G) (C : Cx Γ G cX6_copyFrom 4 RX6 none rmX6_copyFrom)  {Q : Mem → Prop} (E : EndV Γ G Qf rmX6_copyFrom Q) {L50 : Mem × Int32 → Prop} (hL50 : ∀ s, L50 s → X Γ G Qf 4 0 0 50 [(0, .ref (ga G 6 0)), (1, .ref (ga G 6 1)), (2, .int s.2)] [] s.1) (M : Mem) (y2 : Int32) (h : bX6_copyFrom_50 Q L50 M y2) : X Γ G Qf 4 0 0 50 [(0, .ref (ga G 6 0)), (1, .ref (ga G 6 1)), (2, .int y2)] [] M := by
  unfold bX6_copyFrom_50 at h
  refine x_iload_n C dX6_copyFrom_50 2 rfl ?_
  refine x_aload_n C dX6_copyFrom_51 0 rfl ?_
  refine gf_6_1 C q54 z6 dX6_copyFrom_52 ?_
  refine x_icmp_ge (tgt := 100) C dX6_copyFrom_55 (by decide) (fun c8 => ?_) (fun c8 => ?_)
  · replace h := h.1 c8
    refine x_iconst (v := 0) C dX6_copyFrom_100 rfl ?_
    refine x_istore_n (lv' := [(2, .int 0), (0, .ref (ga G 6 0)), (1, .ref (ga G 6 1))]) C dX6_copyFrom_101 rfl (Nat.le_of_ble_eq_true rfl) rfl ?_
    obtain ⟨n9, h⟩ := h
    refine X_sub (lv' := [(0, .ref (ga G 6 0)), (1, .ref (ga G 6 1)), (2, .int 0)]) [1, 2, 0] rfl ?_
    have hb : ∀ (L : Mem × Int32 → Prop) (s : Mem × Int32), (∀ t, L t → X Γ G Qf 4 0 0 102 [(0, .ref (ga G 6 0)), (1, .ref (ga G 6 1)), (2, .int t.2)] [] t.1) → bX6_copyFrom_102 Q L s.1 s.2 → X Γ G Qf 4 0 0 102 [(0, .ref (ga G 6 0)), (1, .ref (ga G 6 1)), (2, .int s.2)] [] s.1 := fun L s hL h => wX6_copyFrom_102 hG C E hL s.1 s.2 h
    have w9 := lp_walk (P := fun s : Mem × Int32 => X Γ G Qf 4 0 0 102 [(0, .ref (ga G 6 0)), (1, .ref (ga G 6 1)), (2, .int s.2)] [] s.1) h hb
    dsimp only at w9
    exact w9
  · replace h := h.2 c8
    refine x_aload_n C dX6_copyFrom_58 0 rfl ?_
    refine gf_6_2 C q109 z6 dX6_copyFrom_59 ?_
    refine x_iload_n C dX6_copyFrom_62 2 rfl ?_
    refine x_aload_n C dX6_copyFrom_63 1 rfl ?_
    refine gf_6_2 C q109 z6_1 dX6_copyFrom_64 ?_
    refine x_iload_n C dX6_copyFrom_67 2 rfl ?_
    obtain ⟨f9, h⟩ := h
    refine al_702 C z702_1 f9 dX6_copyFrom_68 ?_
    refine as_702 C z702 f9 dX6_copyFrom_69 ?_
    refine X_nameM (fun M10 eM10 => ?_)
    replace h := h M10 eM10
    refine x_aload_n C dX6_copyFrom_70 0 rfl ?_
    refine gf_6_3 C q110 z6 dX6_copyFrom_71 ?_
    refine x_iload_n C dX6_copyFrom_74 2 rfl ?_
    refine x_aload_n C dX6_copyFrom_75 1 rfl ?_
    refine gf_6_3 C q110 z6_1 dX6_copyFrom_76 ?_
    refine x_iload_n C dX6_copyFrom_79 2 rfl ?_
    refine al_703 C z703_1 f9 dX6_copyFrom_80 ?_
    refine as_703 C z703 f9 dX6_copyFrom_81 ?_
    refine X_nameM (fun M11 eM11 => ?_)
    replace h := h M11 eM11
    refine x_aload_n C dX6_copyFrom_82 0 rfl ?_
    refine gf_6_4 C q111 z6 dX6_copyFrom_83 ?_
    refine x_iload_n C dX6_copyFrom_86 2 rfl ?_
    refine x_aload_n C dX6_copyFrom_87 1 rfl ?_
    refine gf_6_4 C q111 z6_1 dX6_copyFrom_88 ?_
    refine x_iload_n C dX6_copyFrom_91 2 rfl ?_
    refine al_704 C z704_1 f9 dX6_copyFrom_92 ?_
    obtain ⟨f12, h⟩ := h
    refine as_704 C z704 f9 f12 dX6_copyFrom_93 ?_
    refine X_nameM (fun M13 eM13 => ?_)
    replace h := h M13 eM13
    obtain ⟨v14, ev14⟩ : ∃ z : Int32, z = y2 + 1 := ⟨_, rfl⟩
    replace h := h v14 ev14
    refine x_iinc (v := v14) (lv' := [(2, .int v14), (0, .ref (ga G 6 0)), (1, .ref (ga G 6 1))]) (j := 2) C dX6_copyFrom_94 rfl (by rw [ev14]; rfl) (Nat.le_of_ble_eq_true rfl) rfl ?_
    refine x_goto (tgt := 50) C dX6_copyFrom_97 (by decide) ?_
    refine X_sub (lv' := [(0, .ref (ga G 6 0)), (1, .ref (ga G 6 1)), (2, .int v14)]) [1, 2, 0] rfl ?_
    have w9 := hL50 (M13, v14) h
    dsimp only at w9
    exact w9
set_option maxRecDepth 100000 in
set_option maxHeartbeats 400000 in
theorem kX6_copyFrom {l : Launch} {G : Gm} (hG : Gd G) (M : Mem)  {Q : Mem → Prop} (h : pX6_copyFrom M Q) : Ctv l G yX6_copyFrom cX6_copyFrom 4 rmX6_copyFrom [.ref (ga G 6 0), .ref (ga G 6 1)] M Q := by
  refine ctv_of (own := RX6) (by decide +kernel) rfl (Nat.le_of_ble_eq_true rfl) hG (fun Γ Qf hl C E => ?_)
  subst hl
  show X Γ G Qf 4 0 0 0 [(0, .ref (ga G 6 0)), (1, .ref (ga G 6 1))] [] M
  unfold pX6_copyFrom at h
  refine x_aload_n C dX6_copyFrom_0 0 rfl ?_
  refine x_aload_n C dX6_copyFrom_1 1 rfl ?_
  refine gf_6_0 C q105 z6_1 dX6_copyFrom_2 ?_
  refine pf_6_0 C q105 z6 dX6_copyFrom_5 ?_
  refine X_nameM (fun M1 eM1 => ?_)
  replace h := h M1 eM1
  refine x_aload_n C dX6_copyFrom_8 0 rfl ?_
  refine x_aload_n C dX6_copyFrom_9 1 rfl ?_
  refine gf_6_1 C q54 z6_1 dX6_copyFrom_10 ?_
  refine pf_6_1 C q54 z6 dX6_copyFrom_13 ?_
  refine X_nameM (fun M2 eM2 => ?_)
  replace h := h M2 eM2
  refine x_aload_n C dX6_copyFrom_16 0 rfl ?_
  refine x_aload_n C dX6_copyFrom_17 1 rfl ?_
  refine gf_6_5 C q106 z6_1 dX6_copyFrom_18 ?_
  obtain ⟨f3, h⟩ := h
  refine pf_6_5 C q106 z6 f3 dX6_copyFrom_21 ?_
  refine X_nameM (fun M4 eM4 => ?_)
  replace h := h M4 eM4
  refine x_aload_n C dX6_copyFrom_24 0 rfl ?_
  refine x_aload_n C dX6_copyFrom_25 1 rfl ?_
  refine gf_6_6 C q107 z6_1 dX6_copyFrom_26 ?_
  refine pf_6_6 C q107 z6 dX6_copyFrom_29 ?_
  refine X_nameM (fun M5 eM5 => ?_)
  replace h := h M5 eM5
  refine x_aload_n C dX6_copyFrom_32 0 rfl ?_
  refine x_aload_n C dX6_copyFrom_33 1 rfl ?_
  refine gf_6_8 C q108 z6_1 dX6_copyFrom_34 ?_
  refine pf_6_8 C q108 z6 dX6_copyFrom_37 ?_
  refine X_nameM (fun M6 eM6 => ?_)
  replace h := h M6 eM6
  refine x_aload_n C dX6_copyFrom_40 0 rfl ?_
  refine x_aload_n C dX6_copyFrom_41 1 rfl ?_
  refine gf_6_11 C q55 z6_1 dX6_copyFrom_42 ?_
  refine pf_6_11 C q55 z6 dX6_copyFrom_45 ?_
  refine X_nameM (fun M7 eM7 => ?_)
  replace h := h M7 eM7
  refine x_iconst (v := 0) C dX6_copyFrom_48 rfl ?_
  refine x_istore_n (lv' := [(2, .int 0), (0, .ref (ga G 6 0)), (1, .ref (ga G 6 1))]) C dX6_copyFrom_49 rfl (Nat.le_of_ble_eq_true rfl) rfl ?_
  obtain ⟨n9, h⟩ := h
  refine X_sub (lv' := [(0, .ref (ga G 6 0)), (1, .ref (ga G 6 1)), (2, .int 0)]) [1, 2, 0] rfl ?_
  have hb : ∀ (L : Mem × Int32 → Prop) (s : Mem × Int32), (∀ t, L t → X Γ G Qf 4 0 0 50 [(0, .ref (ga G 6 0)), (1, .ref (ga G 6 1)), (2, .int t.2)] [] t.1) → bX6_copyFrom_50 Q L s.1 s.2 → X Γ G Qf 4 0 0 50 [(0, .ref (ga G 6 0)), (1, .ref (ga G 6 1)), (2, .int s.2)] [] s.1 := fun L s hL h => wX6_copyFrom_50 hG C E hL s.1 s.2 h
  have w9 := lp_walk (P := fun s : Mem × Int32 => X Γ G Qf 4 0 0 50 [(0, .ref (ga G 6 0)), (1, .ref (ga G 6 1)), (2, .int s.2)] [] s.1) h hb
  dsimp only at w9
  exact w9
def rmX6_scoredIndex : Room := { frames := 0, cells := 0, slots := 0, locals := 0 }
def bX6_scoredIndex_2 (x1 : Int32) (Q : Int32 → Mem → Prop) (L2 : Mem × Int32 → Prop) (M : Mem) (y2 : Int32) : Prop :=
  (((M.1 701 1 0) ≤ y2 → vp_in (M.1 701 1 0) 24 ∧ ∀ M3 : Mem, M3 = up1 M 702 1 (tn (M.1 701 1 0)) x1 → vp_in (M3.1 701 1 0) 24 ∧ ∀ M5 : Mem, M5 = up1 M3 703 1 (tn (M3.1 701 1 0)) 0 → vp_in (M5.1 701 1 0) 24 ∧ ∀ M7 : Mem, M7 = up1 M5 704 1 (tn (M5.1 701 1 0)) 0 → ∀ M8 : Mem, M8 = up1 M7 701 1 0 ((M7.1 701 1 0) + 1) → Q ((M8.1 701 1 0) - 1) M8) ∧ (¬ (M.1 701 1 0) ≤ y2 → vp_in y2 24 ∧ ((¬ (M.1 702 1 (tn y2)) = x1 → ∀ v11 : Int32, v11 = y2 + 1 → L2 (M, v11)) ∧ ((M.1 702 1 (tn y2)) = x1 → Q y2 M))))
def pX6_scoredIndex (M : Mem) (x1 : Int32) (Q : Int32 → Mem → Prop) : Prop :=
  ∃ n : Nat, lp (fun L s => bX6_scoredIndex_2 x1 Q L s.1 s.2) n (M, 0)
set_option maxRecDepth 100000 in
set_option maxHeartbeats 400000 in
theorem wX6_scoredIndex_2 {Γ : Gam} {G : Gm} {Qf : State → Prop} (hG : Gd G) (C : Cx Γ G cX6_scoredIndex 3 RX6 (some .int) rmX6_scoredIndex) {x1 : Int32} {Q : Int32 → Mem → Prop} (E : EndI Γ G Qf rmX6_scoredIndex Q) {L2 : Mem × Int32 → Prop} (hL2 : ∀ s, L2 s → X Γ G Qf 3 0 0 2 [(0, .ref (ga G 6 1)), (1, .int x1), (2, .int s.2)] [] s.1) (M : Mem) (y2 : Int32) (h : bX6_scoredIndex_2 x1 Q L2 M y2) : X Γ G Qf 3 0 0 2 [(0, .ref (ga G 6 1)), (1, .int x1), (2, .int y2)] [] M := by
  unfold bX6_scoredIndex_2 at h
  refine x_iload_n C dX6_scoredIndex_2 2 rfl ?_
  refine x_aload_n C dX6_scoredIndex_3 0 rfl ?_
  refine gf_6_1 C q54 z6_1 dX6_scoredIndex_4 ?_
  refine x_icmp_ge (tgt := 28) C dX6_scoredIndex_7 (by decide) (fun c1 => ?_) (fun c1 => ?_)
  · replace h := h.1 c1
    refine x_aload_n C dX6_scoredIndex_28 0 rfl ?_
    refine gf_6_2 C q109 z6_1 dX6_scoredIndex_29 ?_
    refine x_aload_n C dX6_scoredIndex_32 0 rfl ?_
    refine gf_6_1 C q54 z6_1 dX6_scoredIndex_33 ?_
    refine x_iload_n C dX6_scoredIndex_36 1 rfl ?_
    obtain ⟨f2, h⟩ := h
    refine as_702 C z702_1 f2 dX6_scoredIndex_37 ?_
    refine X_nameM (fun M3 eM3 => ?_)
    replace h := h M3 eM3
    refine x_aload_n C dX6_scoredIndex_38 0 rfl ?_
    refine gf_6_3 C q110 z6_1 dX6_scoredIndex_39 ?_
    refine x_aload_n C dX6_scoredIndex_42 0 rfl ?_
    refine gf_6_1 C q54 z6_1 dX6_scoredIndex_43 ?_
    refine x_iconst (v := 0) C dX6_scoredIndex_46 rfl ?_
    obtain ⟨f4, h⟩ := h
    refine as_703 C z703_1 f4 dX6_scoredIndex_47 ?_
    refine X_nameM (fun M5 eM5 => ?_)
    replace h := h M5 eM5
    refine x_aload_n C dX6_scoredIndex_48 0 rfl ?_
    refine gf_6_4 C q111 z6_1 dX6_scoredIndex_49 ?_
    refine x_aload_n C dX6_scoredIndex_52 0 rfl ?_
    refine gf_6_1 C q54 z6_1 dX6_scoredIndex_53 ?_
    refine x_iconst (v := 0) C dX6_scoredIndex_56 rfl ?_
    obtain ⟨f6, h⟩ := h
    refine as_704 C z704_1 f6 (Or.inl rfl) dX6_scoredIndex_57 ?_
    refine X_nameM (fun M7 eM7 => ?_)
    replace h := h M7 eM7
    refine x_aload_n C dX6_scoredIndex_58 0 rfl ?_
    refine x_dup C dX6_scoredIndex_59 rfl ?_
    refine gf_6_1 C q54 z6_1 dX6_scoredIndex_60 ?_
    refine x_iconst (v := 1) C dX6_scoredIndex_63 rfl ?_
    refine x_iadd C dX6_scoredIndex_64 ?_
    refine pf_6_1 C q54 z6_1 dX6_scoredIndex_65 ?_
    refine X_nameM (fun M8 eM8 => ?_)
    replace h := h M8 eM8
    refine x_aload_n C dX6_scoredIndex_68 0 rfl ?_
    refine gf_6_1 C q54 z6_1 dX6_scoredIndex_69 ?_
    refine x_iconst (v := 1) C dX6_scoredIndex_72 rfl ?_
    refine x_isub C dX6_scoredIndex_73 ?_
    exact x_iret C E h (Nat.le_of_ble_eq_true rfl) (Nat.le_of_ble_eq_true rfl) dX6_scoredIndex_74
  · replace h := h.2 c1
    refine x_aload_n C dX6_scoredIndex_10 0 rfl ?_
    refine gf_6_2 C q109 z6_1 dX6_scoredIndex_11 ?_
    refine x_iload_n C dX6_scoredIndex_14 2 rfl ?_
    obtain ⟨f9, h⟩ := h
    refine al_702 C z702_1 f9 dX6_scoredIndex_15 ?_
    refine x_iload_n C dX6_scoredIndex_16 1 rfl ?_
    refine x_icmp_ne (tgt := 22) C dX6_scoredIndex_17 (by decide) (fun c10 => ?_) (fun c10 => ?_)
    · replace h := h.1 c10
      obtain ⟨v11, ev11⟩ : ∃ z : Int32, z = y2 + 1 := ⟨_, rfl⟩
      replace h := h v11 ev11
      refine x_iinc (v := v11) (lv' := [(2, .int v11), (0, .ref (ga G 6 1)), (1, .int x1)]) (j := 2) C dX6_scoredIndex_22 rfl (by rw [ev11]; rfl) (Nat.le_of_ble_eq_true rfl) rfl ?_
      refine x_goto (tgt := 2) C dX6_scoredIndex_25 (by decide) ?_
      refine X_sub (lv' := [(0, .ref (ga G 6 1)), (1, .int x1), (2, .int v11)]) [1, 2, 0] rfl ?_
      have w9 := hL2 (M, v11) h
      dsimp only at w9
      exact w9
    · replace h := h.2 c10
      refine x_iload_n C dX6_scoredIndex_20 2 rfl ?_
      exact x_iret C E h (Nat.le_of_ble_eq_true rfl) (Nat.le_of_ble_eq_true rfl) dX6_scoredIndex_21
set_option maxRecDepth 100000 in
set_option maxHeartbeats 400000 in
theorem kX6_scoredIndex {l : Launch} {G : Gm} (hG : Gd G) (M : Mem) (x1 : Int32) {Q : Int32 → Mem → Prop} (h : pX6_scoredIndex M x1 Q) : Cti l G yX6_scoredIndex cX6_scoredIndex 3 .int rmX6_scoredIndex [.ref (ga G 6 1), .int x1] M Q := by
  refine cti_of (own := RX6) (by decide +kernel) rfl (Nat.le_of_ble_eq_true rfl) hG (fun Γ Qf hl C E => ?_)
  subst hl
  show X Γ G Qf 3 0 0 0 [(0, .ref (ga G 6 1)), (1, .int x1)] [] M
  unfold pX6_scoredIndex at h
  refine x_iconst (v := 0) C dX6_scoredIndex_0 rfl ?_
  refine x_istore_n (lv' := [(2, .int 0), (0, .ref (ga G 6 1)), (1, .int x1)]) C dX6_scoredIndex_1 rfl (Nat.le_of_ble_eq_true rfl) rfl ?_
  obtain ⟨n9, h⟩ := h
  refine X_sub (lv' := [(0, .ref (ga G 6 1)), (1, .int x1), (2, .int 0)]) [1, 2, 0] rfl ?_
  have hb : ∀ (L : Mem × Int32 → Prop) (s : Mem × Int32), (∀ t, L t → X Γ G Qf 3 0 0 2 [(0, .ref (ga G 6 1)), (1, .int x1), (2, .int t.2)] [] t.1) → bX6_scoredIndex_2 x1 Q L s.1 s.2 → X Γ G Qf 3 0 0 2 [(0, .ref (ga G 6 1)), (1, .int x1), (2, .int s.2)] [] s.1 := fun L s hL h => wX6_scoredIndex_2 hG C E hL s.1 s.2 h
  have w9 := lp_walk (P := fun s : Mem × Int32 => X Γ G Qf 3 0 0 2 [(0, .ref (ga G 6 1)), (1, .int x1), (2, .int s.2)] [] s.1) h hb
  dsimp only at w9
  exact w9
def rmX6_want : Room := { frames := 1, cells := 0, slots := 0, locals := 22 }
def pX6_want (M : Mem) (x1 : Int32) (x2 : Int32) (x3 : Int32) (Q : Mem → Prop) : Prop :=
  ((¬ x1 = (-1) → pX6_scoredIndex M x1 (fun r2 M3 => vp_in r2 24 ∧ ∀ M5 : Mem, M5 = up1 M3 703 1 (tn r2) ((M3.1 703 1 (tn r2)) + x2) → ((¬ (M5.1 704 1 (tn r2)) = 0 → ∀ M7 : Mem, M7 = up1 M5 704 1 (tn r2) 1 → Q M7) ∧ ((M5.1 704 1 (tn r2)) = 0 → ((x3 = 0 → ∀ M9 : Mem, M9 = up1 M5 704 1 (tn r2) 0 → Q M9) ∧ (¬ x3 = 0 → ∀ M10 : Mem, M10 = up1 M5 704 1 (tn r2) 1 → Q M10)))))) ∧ (x1 = (-1) → ((¬ (M.1 705 1 0) = 0 → ∀ M12 : Mem, M12 = up1 M 705 1 0 1 → Q M12) ∧ ((M.1 705 1 0) = 0 → ((x3 = 0 → ∀ M14 : Mem, M14 = up1 M 705 1 0 0 → Q M14) ∧ (¬ x3 = 0 → ∀ M15 : Mem, M15 = up1 M 705 1 0 1 → Q M15))))))
set_option maxRecDepth 100000 in
set_option maxHeartbeats 400000 in
theorem kX6_want {l : Launch} {G : Gm} (hG : Gd G) (M : Mem) (x1 : Int32) (x2 : Int32) (x3 : Int32) {Q : Mem → Prop} (h : pX6_want M x1 x2 x3 Q) : Ctv l G yX6_want cX6_want 5 rmX6_want [.ref (ga G 6 1), .int x1, .int x2, .int x3] M Q := by
  refine ctv_of (own := RX6) (by decide +kernel) rfl (Nat.le_of_ble_eq_true rfl) hG (fun Γ Qf hl C E => ?_)
  subst hl
  show X Γ G Qf 5 0 0 0 [(0, .ref (ga G 6 1)), (1, .int x1), (2, .int x2), (3, .int x3)] [] M
  unfold pX6_want at h
  refine x_iload_n C dX6_want_0 1 rfl ?_
  refine x_iconst (v := (-1)) C dX6_want_1 rfl ?_
  refine x_icmp_ne (tgt := 26) C dX6_want_2 (by decide) (fun c1 => ?_) (fun c1 => ?_)
  · replace h := h.1 c1
    refine x_aload_n C dX6_want_26 0 rfl ?_
    refine x_iload_n C dX6_want_27 1 rfl ?_
    refine x_calli (rest := []) C sv_X6_53 ob6 z6_1 (kX6_scoredIndex hG _ _ h) rfl rfl (Nat.le_of_ble_eq_true rfl) ⟨Nat.le_of_ble_eq_true rfl, Nat.le_of_ble_eq_true rfl⟩ rfl rfl ⟨Nat.le_of_ble_eq_true rfl, Nat.le_of_ble_eq_true rfl⟩ dX6_want_28 (fun r2 M3 h => ?_)
    refine x_istore (lv' := [(4, .int r2), (0, .ref (ga G 6 1)), (1, .int x1), (2, .int x2), (3, .int x3)]) C dX6_want_31 (Nat.le_of_ble_eq_true rfl) rfl ?_
    refine x_aload_n C dX6_want_33 1 rfl ?_
    refine gf_6_3 C q110 z6_1 dX6_want_34 ?_
    refine x_iload C dX6_want_37 0 rfl ?_
    refine x_dup2 C dX6_want_39 rfl rfl ?_
    obtain ⟨f4, h⟩ := h
    refine al_703 C z703_1 f4 dX6_want_40 ?_
    refine x_iload_n C dX6_want_41 3 rfl ?_
    refine x_iadd C dX6_want_42 ?_
    refine as_703 C z703_1 f4 dX6_want_43 ?_
    refine X_nameM (fun M5 eM5 => ?_)
    replace h := h M5 eM5
    refine x_aload_n C dX6_want_44 1 rfl ?_
    refine gf_6_4 C q111 z6_1 dX6_want_45 ?_
    refine x_iload C dX6_want_48 0 rfl ?_
    refine x_aload_n C dX6_want_50 1 rfl ?_
    refine gf_6_4 C q111 z6_1 dX6_want_51 ?_
    refine x_iload C dX6_want_54 0 rfl ?_
    refine al_704 C z704_1 f4 dX6_want_56 ?_
    refine x_if_ne (tgt := 64) C dX6_want_57 (by decide) (fun c6 => ?_) (fun c6 => ?_)
    · replace h := h.1 c6
      refine x_iconst (v := 1) C dX6_want_64 rfl ?_
      refine x_goto (tgt := 69) C dX6_want_65 (by decide) ?_
      refine as_704 C z704_1 f4 (Or.inr rfl) dX6_want_69 ?_
      refine X_nameM (fun M7 eM7 => ?_)
      replace h := h M7 eM7
      exact x_vret C E h (Nat.le_of_ble_eq_true rfl) (Nat.le_of_ble_eq_true rfl) dX6_want_70
    · replace h := h.2 c6
      refine x_iload_n C dX6_want_60 4 rfl ?_
      refine x_if_eq (tgt := 68) C dX6_want_61 (by decide) (fun c8 => ?_) (fun c8 => ?_)
      · replace h := h.1 c8
        refine x_iconst (v := 0) C dX6_want_68 rfl ?_
        refine as_704 C z704_1 f4 (Or.inl rfl) dX6_want_69 ?_
        refine X_nameM (fun M9 eM9 => ?_)
        replace h := h M9 eM9
        exact x_vret C E h (Nat.le_of_ble_eq_true rfl) (Nat.le_of_ble_eq_true rfl) dX6_want_70
      · replace h := h.2 c8
        refine x_iconst (v := 1) C dX6_want_64 rfl ?_
        refine x_goto (tgt := 69) C dX6_want_65 (by decide) ?_
        refine as_704 C z704_1 f4 (Or.inr rfl) dX6_want_69 ?_
        refine X_nameM (fun M10 eM10 => ?_)
        replace h := h M10 eM10
        exact x_vret C E h (Nat.le_of_ble_eq_true rfl) (Nat.le_of_ble_eq_true rfl) dX6_want_70
  · replace h := h.2 c1
    refine x_aload_n C dX6_want_5 0 rfl ?_
    refine x_aload_n C dX6_want_6 0 rfl ?_
    refine gf_6_5 C q106 z6_1 dX6_want_7 ?_
    refine x_if_ne (tgt := 17) C dX6_want_10 (by decide) (fun c11 => ?_) (fun c11 => ?_)
    · replace h := h.1 c11
      refine x_iconst (v := 1) C dX6_want_17 rfl ?_
      refine x_goto (tgt := 22) C dX6_want_18 (by decide) ?_
      refine pf_6_5 C q106 z6_1 (Or.inr rfl) dX6_want_22 ?_
      refine X_nameM (fun M12 eM12 => ?_)
      replace h := h M12 eM12
      exact x_vret C E h (Nat.le_of_ble_eq_true rfl) (Nat.le_of_ble_eq_true rfl) dX6_want_25
    · replace h := h.2 c11
      refine x_iload_n C dX6_want_13 3 rfl ?_
      refine x_if_eq (tgt := 21) C dX6_want_14 (by decide) (fun c13 => ?_) (fun c13 => ?_)
      · replace h := h.1 c13
        refine x_iconst (v := 0) C dX6_want_21 rfl ?_
        refine pf_6_5 C q106 z6_1 (Or.inl rfl) dX6_want_22 ?_
        refine X_nameM (fun M14 eM14 => ?_)
        replace h := h M14 eM14
        exact x_vret C E h (Nat.le_of_ble_eq_true rfl) (Nat.le_of_ble_eq_true rfl) dX6_want_25
      · replace h := h.2 c13
        refine x_iconst (v := 1) C dX6_want_17 rfl ?_
        refine x_goto (tgt := 22) C dX6_want_18 (by decide) ?_
        refine pf_6_5 C q106 z6_1 (Or.inr rfl) dX6_want_22 ?_
        refine X_nameM (fun M15 eM15 => ?_)
        replace h := h M15 eM15
        exact x_vret C E h (Nat.le_of_ble_eq_true rfl) (Nat.le_of_ble_eq_true rfl) dX6_want_25
def rmX6_refuse : Room := { frames := 0, cells := 0, slots := 0, locals := 0 }
def pX6_refuse (M : Mem) (x1 : Int32) (Q : Mem → Prop) : Prop :=
  ((x1 = (-1) → Q M) ∧ (¬ x1 = (-1) → vp_in (M.1 706 1 0) 6 ∧ ∀ M3 : Mem, M3 = up1 M 707 1 (tn (M.1 706 1 0)) x1 → ∀ M4 : Mem, M4 = up1 M3 706 1 0 ((M3.1 706 1 0) + 1) → Q M4))
set_option maxRecDepth 100000 in
set_option maxHeartbeats 400000 in
theorem kX6_refuse {l : Launch} {G : Gm} (hG : Gd G) (M : Mem) (x1 : Int32) {Q : Mem → Prop} (h : pX6_refuse M x1 Q) : Ctv l G yX6_refuse cX6_refuse 2 rmX6_refuse [.ref (ga G 6 1), .int x1] M Q := by
  refine ctv_of (own := RX6) (by decide +kernel) rfl (Nat.le_of_ble_eq_true rfl) hG (fun Γ Qf hl C E => ?_)
  subst hl
  show X Γ G Qf 2 0 0 0 [(0, .ref (ga G 6 1)), (1, .int x1)] [] M
  unfold pX6_refuse at h
  refine x_iload_n C dX6_refuse_0 1 rfl ?_
  refine x_iconst (v := (-1)) C dX6_refuse_1 rfl ?_
  refine x_icmp_eq (tgt := 25) C dX6_refuse_2 (by decide) (fun c1 => ?_) (fun c1 => ?_)
  · replace h := h.1 c1
    exact x_vret C E h (Nat.le_of_ble_eq_true rfl) (Nat.le_of_ble_eq_true rfl) dX6_refuse_25
  · replace h := h.2 c1
    refine x_aload_n C dX6_refuse_5 0 rfl ?_
    refine gf_6_7 C q112 z6_1 dX6_refuse_6 ?_
    refine x_aload_n C dX6_refuse_9 0 rfl ?_
    refine gf_6_6 C q107 z6_1 dX6_refuse_10 ?_
    refine x_iload_n C dX6_refuse_13 1 rfl ?_
    obtain ⟨f2, h⟩ := h
    refine as_707 C z707_1 f2 dX6_refuse_14 ?_
    refine X_nameM (fun M3 eM3 => ?_)
    replace h := h M3 eM3
    refine x_aload_n C dX6_refuse_15 0 rfl ?_
    refine x_dup C dX6_refuse_16 rfl ?_
    refine gf_6_6 C q107 z6_1 dX6_refuse_17 ?_
    refine x_iconst (v := 1) C dX6_refuse_20 rfl ?_
    refine x_iadd C dX6_refuse_21 ?_
    refine pf_6_6 C q107 z6_1 dX6_refuse_22 ?_
    refine X_nameM (fun M4 eM4 => ?_)
    replace h := h M4 eM4
    exact x_vret C E h (Nat.le_of_ble_eq_true rfl) (Nat.le_of_ble_eq_true rfl) dX6_refuse_25
def rmX6_beginPhrase : Room := { frames := 0, cells := 0, slots := 0, locals := 0 }
def pX6_beginPhrase (M : Mem) (Q : Mem → Prop) : Prop :=
  vp_in (M.1 708 1 0) 6 ∧ ∀ M2 : Mem, M2 = up1 M 709 1 (tn (M.1 708 1 0)) 0 → ∀ M3 : Mem, M3 = up1 M2 708 1 0 ((M2.1 708 1 0) + 1) → Q M3
set_option maxRecDepth 100000 in
set_option maxHeartbeats 400000 in
theorem kX6_beginPhrase {l : Launch} {G : Gm} (hG : Gd G) (M : Mem)  {Q : Mem → Prop} (h : pX6_beginPhrase M Q) : Ctv l G yX6_beginPhrase cX6_beginPhrase 1 rmX6_beginPhrase [.ref (ga G 6 1)] M Q := by
  refine ctv_of (own := RX6) (by decide +kernel) rfl (Nat.le_of_ble_eq_true rfl) hG (fun Γ Qf hl C E => ?_)
  subst hl
  show X Γ G Qf 1 0 0 0 [(0, .ref (ga G 6 1))] [] M
  unfold pX6_beginPhrase at h
  refine x_aload_n C dX6_beginPhrase_0 0 rfl ?_
  refine gf_6_9 C q113 z6_1 dX6_beginPhrase_1 ?_
  refine x_aload_n C dX6_beginPhrase_4 0 rfl ?_
  refine gf_6_8 C q108 z6_1 dX6_beginPhrase_5 ?_
  refine x_iconst (v := 0) C dX6_beginPhrase_8 rfl ?_
  obtain ⟨f1, h⟩ := h
  refine as_709 C z709_1 f1 dX6_beginPhrase_9 ?_
  refine X_nameM (fun M2 eM2 => ?_)
  replace h := h M2 eM2
  refine x_aload_n C dX6_beginPhrase_10 0 rfl ?_
  refine x_dup C dX6_beginPhrase_11 rfl ?_
  refine gf_6_8 C q108 z6_1 dX6_beginPhrase_12 ?_
  refine x_iconst (v := 1) C dX6_beginPhrase_15 rfl ?_
  refine x_iadd C dX6_beginPhrase_16 ?_
  refine pf_6_8 C q108 z6_1 dX6_beginPhrase_17 ?_
  refine X_nameM (fun M3 eM3 => ?_)
  replace h := h M3 eM3
  exact x_vret C E h (Nat.le_of_ble_eq_true rfl) (Nat.le_of_ble_eq_true rfl) dX6_beginPhrase_20
def rmX6_phraseLengthNow : Room := { frames := 0, cells := 0, slots := 0, locals := 0 }
def pX6_phraseLengthNow (M : Mem) (Q : Int32 → Mem → Prop) : Prop :=
  ((¬ (M.1 708 1 0) = 0 → vp_in ((M.1 708 1 0) - 1) 6 ∧ Q (M.1 709 1 (tn ((M.1 708 1 0) - 1))) M) ∧ ((M.1 708 1 0) = 0 → Q 0 M))
set_option maxRecDepth 100000 in
set_option maxHeartbeats 400000 in
theorem kX6_phraseLengthNow {l : Launch} {G : Gm} (hG : Gd G) (M : Mem)  {Q : Int32 → Mem → Prop} (h : pX6_phraseLengthNow M Q) : Cti l G yX6_phraseLengthNow cX6_phraseLengthNow 1 .int rmX6_phraseLengthNow [.ref (ga G 6 1)] M Q := by
  refine cti_of (own := RX6) (by decide +kernel) rfl (Nat.le_of_ble_eq_true rfl) hG (fun Γ Qf hl C E => ?_)
  subst hl
  show X Γ G Qf 1 0 0 0 [(0, .ref (ga G 6 1))] [] M
  unfold pX6_phraseLengthNow at h
  refine x_aload_n C dX6_phraseLengthNow_0 0 rfl ?_
  refine gf_6_8 C q108 z6_1 dX6_phraseLengthNow_1 ?_
  refine x_if_ne (tgt := 11) C dX6_phraseLengthNow_4 (by decide) (fun c1 => ?_) (fun c1 => ?_)
  · replace h := h.1 c1
    refine x_aload_n C dX6_phraseLengthNow_11 0 rfl ?_
    refine gf_6_9 C q113 z6_1 dX6_phraseLengthNow_12 ?_
    refine x_aload_n C dX6_phraseLengthNow_15 0 rfl ?_
    refine gf_6_8 C q108 z6_1 dX6_phraseLengthNow_16 ?_
    refine x_iconst (v := 1) C dX6_phraseLengthNow_19 rfl ?_
    refine x_isub C dX6_phraseLengthNow_20 ?_
    obtain ⟨f2, h⟩ := h
    refine al_709 C z709_1 f2 dX6_phraseLengthNow_21 ?_
    exact x_iret C E h (Nat.le_of_ble_eq_true rfl) (Nat.le_of_ble_eq_true rfl) dX6_phraseLengthNow_22
  · replace h := h.2 c1
    refine x_iconst (v := 0) C dX6_phraseLengthNow_7 rfl ?_
    refine x_goto (tgt := 22) C dX6_phraseLengthNow_8 (by decide) ?_
    exact x_iret C E h (Nat.le_of_ble_eq_true rfl) (Nat.le_of_ble_eq_true rfl) dX6_phraseLengthNow_22
