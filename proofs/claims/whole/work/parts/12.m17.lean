def rmX11_bits : Room := { frames := 6, cells := 0, slots := 0, locals := 147 }
def pX11_bits (M : Mem) (x1 : Int32) (Q : Int32 → Mem → Prop) : Prop :=
  ∀ M1 : Mem, M1 = up1 M 1200 0 0 0 → pX11_in M1 x1 2 8 (fun r2 M3 => ((¬ r2 = 0 → pX11_bad M3 0 1 1 (fun r5 M6 => ((r5 = 0 → pX11_bitsOfAll M6 x1 (fun r8 M9 => Q r8 M9)) ∧ (¬ r5 = 0 → Q 0 M6)))) ∧ (r2 = 0 → pX11_bad M3 1 1 1 (fun r10 M11 => ((r10 = 0 → pX11_bitsOfAll M11 x1 (fun r13 M14 => Q r13 M14)) ∧ (¬ r10 = 0 → Q 0 M11))))))
set_option maxRecDepth 100000 in
set_option maxHeartbeats 400000 in
theorem kX11_bits {l : Launch} {G : Gm} (hG : Gd G) (M : Mem) (x1 : Int32) {Q : Int32 → Mem → Prop} (h : pX11_bits M x1 Q) : Cti l G yX11_bits cX11_bits 2 .int rmX11_bits [.ref (ga G 11 0), .int x1] M Q := by
  refine cti_of (own := RX11) (by decide +kernel) rfl (Nat.le_of_ble_eq_true rfl) hG (fun Γ Qf hl C E => ?_)
  subst hl
  show X Γ G Qf 2 0 0 0 [(0, .ref (ga G 11 0)), (1, .int x1)] [] M
  unfold pX11_bits at h
  refine x_aload_n C dX11_bits_0 0 rfl ?_
  refine x_iconst (v := 0) C dX11_bits_1 rfl ?_
  refine pf_11_0 C q143 z11 dX11_bits_2 ?_
  refine X_nameM (fun M1 eM1 => ?_)
  replace h := h M1 eM1
  refine x_aload_n C dX11_bits_5 0 rfl ?_
  refine x_iload_n C dX11_bits_6 1 rfl ?_
  refine x_iconst (v := 2) C dX11_bits_7 rfl ?_
  refine x_bipush (v := 8) C dX11_bits_8 rfl ?_
  refine x_scalli (rest := [.ref (ga G 11 0)]) C ss_X11_172 (kX11_in hG _ _ _ _ h) rfl rfl (Nat.le_of_ble_eq_true rfl) ⟨Nat.le_of_ble_eq_true rfl, Nat.le_of_ble_eq_true rfl⟩ rfl rfl ⟨Nat.le_of_ble_eq_true rfl, Nat.le_of_ble_eq_true rfl⟩ dX11_bits_10 (fun r2 M3 h => ?_)
  refine x_if_ne (tgt := 20) C dX11_bits_13 (by decide) (fun c4 => ?_) (fun c4 => ?_)
  · replace h := h.1 c4
    refine x_iconst (v := 0) C dX11_bits_20 rfl ?_
    refine x_iconst (v := 1) C dX11_bits_21 rfl ?_
    refine x_iconst (v := 1) C dX11_bits_22 rfl ?_
    refine x_calli (rest := []) C sv_X11_179 ob11 z11 (kX11_bad hG _ _ _ _ h) rfl rfl (Nat.le_of_ble_eq_true rfl) ⟨Nat.le_of_ble_eq_true rfl, Nat.le_of_ble_eq_true rfl⟩ rfl rfl ⟨Nat.le_of_ble_eq_true rfl, Nat.le_of_ble_eq_true rfl⟩ dX11_bits_23 (fun r5 M6 h => ?_)
    refine x_if_eq (tgt := 31) C dX11_bits_26 (by decide) (fun c7 => ?_) (fun c7 => ?_)
    · replace h := h.1 c7
      refine x_aload_n C dX11_bits_31 0 rfl ?_
      refine x_iload_n C dX11_bits_32 1 rfl ?_
      refine x_calli (rest := []) C sv_X11_399 ob11 z11 (kX11_bitsOfAll hG _ _ h) rfl rfl (Nat.le_of_ble_eq_true rfl) ⟨Nat.le_of_ble_eq_true rfl, Nat.le_of_ble_eq_true rfl⟩ rfl rfl ⟨Nat.le_of_ble_eq_true rfl, Nat.le_of_ble_eq_true rfl⟩ dX11_bits_33 (fun r8 M9 h => ?_)
      exact x_iret C E h (Nat.le_of_ble_eq_true rfl) (Nat.le_of_ble_eq_true rfl) dX11_bits_36
    · replace h := h.2 c7
      refine x_iconst (v := 0) C dX11_bits_29 rfl ?_
      exact x_iret C E h (Nat.le_of_ble_eq_true rfl) (Nat.le_of_ble_eq_true rfl) dX11_bits_30
  · replace h := h.2 c4
    refine x_iconst (v := 1) C dX11_bits_16 rfl ?_
    refine x_goto (tgt := 21) C dX11_bits_17 (by decide) ?_
    refine x_iconst (v := 1) C dX11_bits_21 rfl ?_
    refine x_iconst (v := 1) C dX11_bits_22 rfl ?_
    refine x_calli (rest := []) C sv_X11_179 ob11 z11 (kX11_bad hG _ _ _ _ h) rfl rfl (Nat.le_of_ble_eq_true rfl) ⟨Nat.le_of_ble_eq_true rfl, Nat.le_of_ble_eq_true rfl⟩ rfl rfl ⟨Nat.le_of_ble_eq_true rfl, Nat.le_of_ble_eq_true rfl⟩ dX11_bits_23 (fun r10 M11 h => ?_)
    refine x_if_eq (tgt := 31) C dX11_bits_26 (by decide) (fun c12 => ?_) (fun c12 => ?_)
    · replace h := h.1 c12
      refine x_aload_n C dX11_bits_31 0 rfl ?_
      refine x_iload_n C dX11_bits_32 1 rfl ?_
      refine x_calli (rest := []) C sv_X11_399 ob11 z11 (kX11_bitsOfAll hG _ _ h) rfl rfl (Nat.le_of_ble_eq_true rfl) ⟨Nat.le_of_ble_eq_true rfl, Nat.le_of_ble_eq_true rfl⟩ rfl rfl ⟨Nat.le_of_ble_eq_true rfl, Nat.le_of_ble_eq_true rfl⟩ dX11_bits_33 (fun r13 M14 h => ?_)
      exact x_iret C E h (Nat.le_of_ble_eq_true rfl) (Nat.le_of_ble_eq_true rfl) dX11_bits_36
    · replace h := h.2 c12
      refine x_iconst (v := 0) C dX11_bits_29 rfl ?_
      exact x_iret C E h (Nat.le_of_ble_eq_true rfl) (Nat.le_of_ble_eq_true rfl) dX11_bits_30
def rmX11_thrift : Room := { frames := 6, cells := 0, slots := 0, locals := 147 }
def bX11_thrift_34 (Q : Int32 → Mem → Prop) (L9 : Mem × Int32 × Int32 → Prop) (M : Mem) (y1 : Int32) (y2 : Int32) : Prop :=
  ∀ v8 : Int32, v8 = y2 + 1 → L9 (M, y1, v8)
def bX11_thrift_9 (Q : Int32 → Mem → Prop) (L9 : Mem × Int32 × Int32 → Prop) (M : Mem) (y1 : Int32) (y2 : Int32) : Prop :=
  ((8 < y2 → Q y1 M) ∧ (¬ 8 < y2 → pX11_bitsOfAll M y2 (fun r3 M4 => pX11_bitsOfAll M4 y1 (fun r5 M6 => ((r5 ≤ r3 → bX11_thrift_34 Q L9 M6 y1 y2) ∧ (¬ r5 ≤ r3 → bX11_thrift_34 Q L9 M6 y2 y2))))))
def pX11_thrift (M : Mem) (Q : Int32 → Mem → Prop) : Prop :=
  ∀ M1 : Mem, M1 = up1 M 1200 0 0 0 → ∃ n : Nat, lp (fun L s => bX11_thrift_9 Q L s.1 s.2.1 s.2.2) n (M1, 2, 3)
set_option maxRecDepth 100000 in
set_option maxHeartbeats 400000 in
theorem wX11_thrift_34 {Γ : Gam} {G : Gm} {Qf : State → Prop} (hG : Gd G) (C : Cx Γ G cX11_thrift 3 RX11 (some .int) rmX11_thrift)  {Q : Int32 → Mem → Prop} (E : EndI Γ G Qf rmX11_thrift Q) {L9 : Mem × Int32 × Int32 → Prop} (hL9 : ∀ s, L9 s → X Γ G Qf 3 0 0 9 [(0, .ref (ga G 11 0)), (1, .int s.2.1), (2, .int s.2.2)] [] s.1) (M : Mem) (y1 : Int32) (y2 : Int32) (h : bX11_thrift_34 Q L9 M y1 y2) : X Γ G Qf 3 0 0 34 [(0, .ref (ga G 11 0)), (1, .int y1), (2, .int y2)] [] M := by
  unfold bX11_thrift_34 at h
  obtain ⟨v8, ev8⟩ : ∃ z : Int32, z = y2 + 1 := ⟨_, rfl⟩
  replace h := h v8 ev8
  refine x_iinc (v := v8) (lv' := [(2, .int v8), (0, .ref (ga G 11 0)), (1, .int y1)]) (j := 2) C dX11_thrift_34 rfl (by rw [ev8]; rfl) (Nat.le_of_ble_eq_true rfl) rfl ?_
  refine x_goto (tgt := 9) C dX11_thrift_37 (by decide) ?_
  refine X_sub (lv' := [(0, .ref (ga G 11 0)), (1, .int y1), (2, .int v8)]) [1, 2, 0] rfl ?_
  have w9 := hL9 (M, y1, v8) h
  dsimp only at w9
  exact w9
set_option maxRecDepth 100000 in
set_option maxHeartbeats 400000 in
theorem wX11_thrift_9 {Γ : Gam} {G : Gm} {Qf : State → Prop} (hG : Gd G) (C : Cx Γ G cX11_thrift 3 RX11 (some .int) rmX11_thrift)  {Q : Int32 → Mem → Prop} (E : EndI Γ G Qf rmX11_thrift Q) {L9 : Mem × Int32 × Int32 → Prop} (hL9 : ∀ s, L9 s → X Γ G Qf 3 0 0 9 [(0, .ref (ga G 11 0)), (1, .int s.2.1), (2, .int s.2.2)] [] s.1) (M : Mem) (y1 : Int32) (y2 : Int32) (h : bX11_thrift_9 Q L9 M y1 y2) : X Γ G Qf 3 0 0 9 [(0, .ref (ga G 11 0)), (1, .int y1), (2, .int y2)] [] M := by
  unfold bX11_thrift_9 at h
  refine x_iload_n C dX11_thrift_9 2 rfl ?_
  refine x_bipush (v := 8) C dX11_thrift_10 rfl ?_
  refine x_icmp_gt (tgt := 40) C dX11_thrift_12 (by decide) (fun c2 => ?_) (fun c2 => ?_)
  · replace h := h.1 c2
    refine x_iload_n C dX11_thrift_40 1 rfl ?_
    exact x_iret C E h (Nat.le_of_ble_eq_true rfl) (Nat.le_of_ble_eq_true rfl) dX11_thrift_41
  · replace h := h.2 c2
    refine x_aload_n C dX11_thrift_15 0 rfl ?_
    refine x_iload_n C dX11_thrift_16 2 rfl ?_
    refine x_calli (rest := []) C sv_X11_399 ob11 z11 (kX11_bitsOfAll hG _ _ h) rfl rfl (Nat.le_of_ble_eq_true rfl) ⟨Nat.le_of_ble_eq_true rfl, Nat.le_of_ble_eq_true rfl⟩ rfl rfl ⟨Nat.le_of_ble_eq_true rfl, Nat.le_of_ble_eq_true rfl⟩ dX11_thrift_17 (fun r3 M4 h => ?_)
    refine x_aload_n C dX11_thrift_20 0 rfl ?_
    refine x_iload_n C dX11_thrift_21 1 rfl ?_
    refine x_calli (rest := [.int r3]) C sv_X11_399 ob11 z11 (kX11_bitsOfAll hG _ _ h) rfl rfl (Nat.le_of_ble_eq_true rfl) ⟨Nat.le_of_ble_eq_true rfl, Nat.le_of_ble_eq_true rfl⟩ rfl rfl ⟨Nat.le_of_ble_eq_true rfl, Nat.le_of_ble_eq_true rfl⟩ dX11_thrift_22 (fun r5 M6 h => ?_)
    refine x_icmp_ge (tgt := 32) C dX11_thrift_25 (by decide) (fun c7 => ?_) (fun c7 => ?_)
    · replace h := h.1 c7
      refine x_iload_n C dX11_thrift_32 1 rfl ?_
      refine x_istore_n (lv' := [(1, .int y1), (0, .ref (ga G 11 0)), (2, .int y2)]) C dX11_thrift_33 rfl (Nat.le_of_ble_eq_true rfl) rfl ?_
      refine X_sub (lv' := [(0, .ref (ga G 11 0)), (1, .int y1), (2, .int y2)]) [1, 0, 2] rfl ?_
      exact wX11_thrift_34 hG C E hL9 M6 y1 y2 h
    · replace h := h.2 c7
      refine x_iload_n C dX11_thrift_28 2 rfl ?_
      refine x_goto (tgt := 33) C dX11_thrift_29 (by decide) ?_
      refine x_istore_n (lv' := [(1, .int y2), (0, .ref (ga G 11 0)), (2, .int y2)]) C dX11_thrift_33 rfl (Nat.le_of_ble_eq_true rfl) rfl ?_
      refine X_sub (lv' := [(0, .ref (ga G 11 0)), (1, .int y2), (2, .int y2)]) [1, 0, 2] rfl ?_
      exact wX11_thrift_34 hG C E hL9 M6 y2 y2 h
set_option maxRecDepth 100000 in
set_option maxHeartbeats 400000 in
theorem kX11_thrift {l : Launch} {G : Gm} (hG : Gd G) (M : Mem)  {Q : Int32 → Mem → Prop} (h : pX11_thrift M Q) : Cti l G yX11_thrift cX11_thrift 3 .int rmX11_thrift [.ref (ga G 11 0)] M Q := by
  refine cti_of (own := RX11) (by decide +kernel) rfl (Nat.le_of_ble_eq_true rfl) hG (fun Γ Qf hl C E => ?_)
  subst hl
  show X Γ G Qf 3 0 0 0 [(0, .ref (ga G 11 0))] [] M
  unfold pX11_thrift at h
  refine x_aload_n C dX11_thrift_0 0 rfl ?_
  refine x_iconst (v := 0) C dX11_thrift_1 rfl ?_
  refine pf_11_0 C q143 z11 dX11_thrift_2 ?_
  refine X_nameM (fun M1 eM1 => ?_)
  replace h := h M1 eM1
  refine x_iconst (v := 2) C dX11_thrift_5 rfl ?_
  refine x_istore_n (lv' := [(1, .int 2), (0, .ref (ga G 11 0))]) C dX11_thrift_6 rfl (Nat.le_of_ble_eq_true rfl) rfl ?_
  refine x_iconst (v := 3) C dX11_thrift_7 rfl ?_
  refine x_istore_n (lv' := [(2, .int 3), (1, .int 2), (0, .ref (ga G 11 0))]) C dX11_thrift_8 rfl (Nat.le_of_ble_eq_true rfl) rfl ?_
  obtain ⟨n9, h⟩ := h
  refine X_sub (lv' := [(0, .ref (ga G 11 0)), (1, .int 2), (2, .int 3)]) [2, 1, 0] rfl ?_
  have hb : ∀ (L : Mem × Int32 × Int32 → Prop) (s : Mem × Int32 × Int32), (∀ t, L t → X Γ G Qf 3 0 0 9 [(0, .ref (ga G 11 0)), (1, .int t.2.1), (2, .int t.2.2)] [] t.1) → bX11_thrift_9 Q L s.1 s.2.1 s.2.2 → X Γ G Qf 3 0 0 9 [(0, .ref (ga G 11 0)), (1, .int s.2.1), (2, .int s.2.2)] [] s.1 := fun L s hL h => wX11_thrift_9 hG C E hL s.1 s.2.1 s.2.2 h
  have w9 := lp_walk (P := fun s : Mem × Int32 × Int32 => X Γ G Qf 3 0 0 9 [(0, .ref (ga G 11 0)), (1, .int s.2.1), (2, .int s.2.2)] [] s.1) h hb
  dsimp only at w9
  exact w9
def rmX11_swift : Room := { frames := 9, cells := 0, slots := 0, locals := 210 }
def bX11_swift_88 (x1 : Int32) (x2 : Int32) (Q : Int32 → Mem → Prop) (L48 : Mem × Int32 × Int32 × Int32 → Prop) (M : Mem) (y3 : Int32) (y4 : Int32) (y5 : Int32) : Prop :=
  ∀ v24 : Int32, v24 = y5 + 1 → L48 (M, y3, y4, v24)
def bX11_swift_79 (x1 : Int32) (x2 : Int32) (Q : Int32 → Mem → Prop) (L48 : Mem × Int32 × Int32 × Int32 → Prop) (M : Mem) (y5 : Int32) : Prop :=
  ∀ v23 : Int32, v23 = (M.1 1259 0 0) → bX11_swift_88 x1 x2 Q L48 M y5 v23 y5
def bX11_swift_48 (x1 : Int32) (x2 : Int32) (Q : Int32 → Mem → Prop) (L48 : Mem × Int32 × Int32 × Int32 → Prop) (M : Mem) (y3 : Int32) (y4 : Int32) (y5 : Int32) : Prop :=
  ((8 < y5 → ((¬ x2 = 0 → Q y4 M) ∧ (x2 = 0 → Q y3 M))) ∧ (¬ 8 < y5 → pX11_goesEarly M x1 y5 (fun M20 => ((y3 = (-1) → bX11_swift_79 x1 x2 Q L48 M20 y5) ∧ (¬ y3 = (-1) → (((M20.1 1259 0 0) < y4 → bX11_swift_79 x1 x2 Q L48 M20 y5) ∧ (¬ (M20.1 1259 0 0) < y4 → bX11_swift_88 x1 x2 Q L48 M20 y3 y4 y5)))))))
def pX11_swift (M : Mem) (x1 : Int32) (x2 : Int32) (Q : Int32 → Mem → Prop) : Prop :=
  ∀ M1 : Mem, M1 = up1 M 1200 0 0 0 → pX11_in M1 x1 1 10 (fun r2 M3 => ((r2 = 0 → pX11_bad M3 1 1 1 (fun r5 M6 => ((r5 = 0 → ∃ n : Nat, lp (fun L s => bX11_swift_48 x1 x2 Q L s.1 s.2.1 s.2.2.1 s.2.2.2) n (M6, (-1), 0, 2)) ∧ (¬ r5 = 0 → Q 0 M6)))) ∧ (¬ r2 = 0 → pX11_in M3 x2 0 1 (fun r8 M9 => ((¬ r8 = 0 → pX11_bad M9 0 1 1 (fun r11 M12 => ((r11 = 0 → ∃ n : Nat, lp (fun L s => bX11_swift_48 x1 x2 Q L s.1 s.2.1 s.2.2.1 s.2.2.2) n (M12, (-1), 0, 2)) ∧ (¬ r11 = 0 → Q 0 M12)))) ∧ (r8 = 0 → pX11_bad M9 1 1 1 (fun r14 M15 => ((r14 = 0 → ∃ n : Nat, lp (fun L s => bX11_swift_48 x1 x2 Q L s.1 s.2.1 s.2.2.1 s.2.2.2) n (M15, (-1), 0, 2)) ∧ (¬ r14 = 0 → Q 0 M15)))))))))
set_option maxRecDepth 100000 in
set_option maxHeartbeats 400000 in
theorem wX11_swift_88 {Γ : Gam} {G : Gm} {Qf : State → Prop} (hG : Gd G) (C : Cx Γ G cX11_swift 6 RX11 (some .int) rmX11_swift) {x1 : Int32} {x2 : Int32} {Q : Int32 → Mem → Prop} (E : EndI Γ G Qf rmX11_swift Q) {L48 : Mem × Int32 × Int32 × Int32 → Prop} (hL48 : ∀ s, L48 s → X Γ G Qf 6 0 0 48 [(0, .ref (ga G 11 0)), (1, .int x1), (2, .int x2), (3, .int s.2.1), (4, .int s.2.2.1), (5, .int s.2.2.2)] [] s.1) (M : Mem) (y3 : Int32) (y4 : Int32) (y5 : Int32) (h : bX11_swift_88 x1 x2 Q L48 M y3 y4 y5) : X Γ G Qf 6 0 0 88 [(0, .ref (ga G 11 0)), (1, .int x1), (2, .int x2), (3, .int y3), (4, .int y4), (5, .int y5)] [] M := by
  unfold bX11_swift_88 at h
  obtain ⟨v24, ev24⟩ : ∃ z : Int32, z = y5 + 1 := ⟨_, rfl⟩
  replace h := h v24 ev24
  refine x_iinc (v := v24) (lv' := [(5, .int v24), (0, .ref (ga G 11 0)), (1, .int x1), (2, .int x2), (3, .int y3), (4, .int y4)]) (j := 5) C dX11_swift_88 rfl (by rw [ev24]; rfl) (Nat.le_of_ble_eq_true rfl) rfl ?_
  refine x_goto (tgt := 48) C dX11_swift_91 (by decide) ?_
  refine X_sub (lv' := [(0, .ref (ga G 11 0)), (1, .int x1), (2, .int x2), (3, .int y3), (4, .int y4), (5, .int v24)]) [1, 2, 3, 4, 5, 0] rfl ?_
  have w9 := hL48 (M, y3, y4, v24) h
  dsimp only at w9
  exact w9
set_option maxRecDepth 100000 in
set_option maxHeartbeats 400000 in
theorem wX11_swift_79 {Γ : Gam} {G : Gm} {Qf : State → Prop} (hG : Gd G) (C : Cx Γ G cX11_swift 6 RX11 (some .int) rmX11_swift) {x1 : Int32} {x2 : Int32} {Q : Int32 → Mem → Prop} (E : EndI Γ G Qf rmX11_swift Q) {L48 : Mem × Int32 × Int32 × Int32 → Prop} (hL48 : ∀ s, L48 s → X Γ G Qf 6 0 0 48 [(0, .ref (ga G 11 0)), (1, .int x1), (2, .int x2), (3, .int s.2.1), (4, .int s.2.2.1), (5, .int s.2.2.2)] [] s.1) (M : Mem) (y5 : Int32) (h : bX11_swift_79 x1 x2 Q L48 M y5) : X Γ G Qf 6 0 0 79 [(0, .ref (ga G 11 0)), (1, .int x1), (2, .int x2), (5, .int y5)] [] M := by
  unfold bX11_swift_79 at h
  refine x_iload C dX11_swift_79 3 rfl ?_
  refine x_istore_n (lv' := [(3, .int y5), (0, .ref (ga G 11 0)), (1, .int x1), (2, .int x2), (5, .int y5)]) C dX11_swift_81 rfl (Nat.le_of_ble_eq_true rfl) rfl ?_
  refine x_aload_n C dX11_swift_82 1 rfl ?_
  refine gf_11_59 C q200 z11 dX11_swift_83 ?_
  refine X_name (fun v23 ev23 => ?_)
  replace h := h v23 ev23
  refine x_istore (lv' := [(4, .int v23), (3, .int y5), (0, .ref (ga G 11 0)), (1, .int x1), (2, .int x2), (5, .int y5)]) C dX11_swift_86 (Nat.le_of_ble_eq_true rfl) rfl ?_
  refine X_sub (lv' := [(0, .ref (ga G 11 0)), (1, .int x1), (2, .int x2), (3, .int y5), (4, .int v23), (5, .int y5)]) [2, 3, 4, 1, 0, 5] rfl ?_
  exact wX11_swift_88 hG C E hL48 M y5 v23 y5 h
set_option maxRecDepth 100000 in
set_option maxHeartbeats 400000 in
theorem wX11_swift_48 {Γ : Gam} {G : Gm} {Qf : State → Prop} (hG : Gd G) (C : Cx Γ G cX11_swift 6 RX11 (some .int) rmX11_swift) {x1 : Int32} {x2 : Int32} {Q : Int32 → Mem → Prop} (E : EndI Γ G Qf rmX11_swift Q) {L48 : Mem × Int32 × Int32 × Int32 → Prop} (hL48 : ∀ s, L48 s → X Γ G Qf 6 0 0 48 [(0, .ref (ga G 11 0)), (1, .int x1), (2, .int x2), (3, .int s.2.1), (4, .int s.2.2.1), (5, .int s.2.2.2)] [] s.1) (M : Mem) (y3 : Int32) (y4 : Int32) (y5 : Int32) (h : bX11_swift_48 x1 x2 Q L48 M y3 y4 y5) : X Γ G Qf 6 0 0 48 [(0, .ref (ga G 11 0)), (1, .int x1), (2, .int x2), (3, .int y3), (4, .int y4), (5, .int y5)] [] M := by
  unfold bX11_swift_48 at h
  refine x_iload C dX11_swift_48 5 rfl ?_
  refine x_bipush (v := 8) C dX11_swift_50 rfl ?_
  refine x_icmp_gt (tgt := 94) C dX11_swift_52 (by decide) (fun c17 => ?_) (fun c17 => ?_)
  · replace h := h.1 c17
    refine x_iload_n C dX11_swift_94 2 rfl ?_
    refine x_if_ne (tgt := 102) C dX11_swift_95 (by decide) (fun c18 => ?_) (fun c18 => ?_)
    · replace h := h.1 c18
      refine x_iload C dX11_swift_102 4 rfl ?_
      exact x_iret C E h (Nat.le_of_ble_eq_true rfl) (Nat.le_of_ble_eq_true rfl) dX11_swift_104
    · replace h := h.2 c18
      refine x_iload_n C dX11_swift_98 3 rfl ?_
      refine x_goto (tgt := 104) C dX11_swift_99 (by decide) ?_
      exact x_iret C E h (Nat.le_of_ble_eq_true rfl) (Nat.le_of_ble_eq_true rfl) dX11_swift_104
  · replace h := h.2 c17
    refine x_aload_n C dX11_swift_55 0 rfl ?_
    refine x_iload_n C dX11_swift_56 1 rfl ?_
    refine x_iload C dX11_swift_57 5 rfl ?_
    refine x_callv (rest := []) C sv_X11_445 ob11 z11 (kX11_goesEarly hG _ _ _ h) rfl rfl (Nat.le_of_ble_eq_true rfl) ⟨Nat.le_of_ble_eq_true rfl, Nat.le_of_ble_eq_true rfl⟩ rfl rfl ⟨Nat.le_of_ble_eq_true rfl, Nat.le_of_ble_eq_true rfl⟩ dX11_swift_59 (fun M20 h => ?_)
    refine x_iload_n C dX11_swift_62 3 rfl ?_
    refine x_iconst (v := (-1)) C dX11_swift_63 rfl ?_
    refine x_icmp_eq (tgt := 79) C dX11_swift_64 (by decide) (fun c21 => ?_) (fun c21 => ?_)
    · replace h := h.1 c21
      refine X_sub (lv' := [(0, .ref (ga G 11 0)), (1, .int x1), (2, .int x2), (5, .int y5)]) [0, 1, 2, 5] rfl ?_
      exact wX11_swift_79 hG C E hL48 M20 y5 h
    · replace h := h.2 c21
      refine x_aload_n C dX11_swift_67 0 rfl ?_
      refine gf_11_59 C q200 z11 dX11_swift_68 ?_
      refine x_iload C dX11_swift_71 4 rfl ?_
      refine x_icmp_lt (tgt := 79) C dX11_swift_73 (by decide) (fun c22 => ?_) (fun c22 => ?_)
      · replace h := h.1 c22
        refine X_sub (lv' := [(0, .ref (ga G 11 0)), (1, .int x1), (2, .int x2), (5, .int y5)]) [0, 1, 2, 5] rfl ?_
        exact wX11_swift_79 hG C E hL48 M20 y5 h
      · replace h := h.2 c22
        refine x_goto (tgt := 88) C dX11_swift_76 (by decide) ?_
        refine X_sub (lv' := [(0, .ref (ga G 11 0)), (1, .int x1), (2, .int x2), (3, .int y3), (4, .int y4), (5, .int y5)]) [0, 1, 2, 3, 4, 5] rfl ?_
        exact wX11_swift_88 hG C E hL48 M20 y3 y4 y5 h
set_option maxRecDepth 100000 in
set_option maxHeartbeats 400000 in
theorem kX11_swift {l : Launch} {G : Gm} (hG : Gd G) (M : Mem) (x1 : Int32) (x2 : Int32) {Q : Int32 → Mem → Prop} (h : pX11_swift M x1 x2 Q) : Cti l G yX11_swift cX11_swift 6 .int rmX11_swift [.ref (ga G 11 0), .int x1, .int x2] M Q := by
  refine cti_of (own := RX11) (by decide +kernel) rfl (Nat.le_of_ble_eq_true rfl) hG (fun Γ Qf hl C E => ?_)
  subst hl
  show X Γ G Qf 6 0 0 0 [(0, .ref (ga G 11 0)), (1, .int x1), (2, .int x2)] [] M
  unfold pX11_swift at h
  refine x_aload_n C dX11_swift_0 0 rfl ?_
  refine x_iconst (v := 0) C dX11_swift_1 rfl ?_
  refine pf_11_0 C q143 z11 dX11_swift_2 ?_
  refine X_nameM (fun M1 eM1 => ?_)
  replace h := h M1 eM1
  refine x_aload_n C dX11_swift_5 0 rfl ?_
  refine x_iload_n C dX11_swift_6 1 rfl ?_
  refine x_iconst (v := 1) C dX11_swift_7 rfl ?_
  refine x_bipush (v := 10) C dX11_swift_8 rfl ?_
  refine x_scalli (rest := [.ref (ga G 11 0)]) C ss_X11_172 (kX11_in hG _ _ _ _ h) rfl rfl (Nat.le_of_ble_eq_true rfl) ⟨Nat.le_of_ble_eq_true rfl, Nat.le_of_ble_eq_true rfl⟩ rfl rfl ⟨Nat.le_of_ble_eq_true rfl, Nat.le_of_ble_eq_true rfl⟩ dX11_swift_10 (fun r2 M3 h => ?_)
  refine x_if_eq (tgt := 25) C dX11_swift_13 (by decide) (fun c4 => ?_) (fun c4 => ?_)
  · replace h := h.1 c4
    refine x_iconst (v := 1) C dX11_swift_25 rfl ?_
    refine x_goto (tgt := 30) C dX11_swift_26 (by decide) ?_
    refine x_iconst (v := 1) C dX11_swift_30 rfl ?_
    refine x_iconst (v := 1) C dX11_swift_31 rfl ?_
    refine x_calli (rest := []) C sv_X11_179 ob11 z11 (kX11_bad hG _ _ _ _ h) rfl rfl (Nat.le_of_ble_eq_true rfl) ⟨Nat.le_of_ble_eq_true rfl, Nat.le_of_ble_eq_true rfl⟩ rfl rfl ⟨Nat.le_of_ble_eq_true rfl, Nat.le_of_ble_eq_true rfl⟩ dX11_swift_32 (fun r5 M6 h => ?_)
    refine x_if_eq (tgt := 40) C dX11_swift_35 (by decide) (fun c7 => ?_) (fun c7 => ?_)
    · replace h := h.1 c7
      refine x_iconst (v := (-1)) C dX11_swift_40 rfl ?_
      refine x_istore_n (lv' := [(3, .int (-1)), (0, .ref (ga G 11 0)), (1, .int x1), (2, .int x2)]) C dX11_swift_41 rfl (Nat.le_of_ble_eq_true rfl) rfl ?_
      refine x_iconst (v := 0) C dX11_swift_42 rfl ?_
      refine x_istore (lv' := [(4, .int 0), (3, .int (-1)), (0, .ref (ga G 11 0)), (1, .int x1), (2, .int x2)]) C dX11_swift_43 (Nat.le_of_ble_eq_true rfl) rfl ?_
      refine x_iconst (v := 2) C dX11_swift_45 rfl ?_
      refine x_istore (lv' := [(5, .int 2), (4, .int 0), (3, .int (-1)), (0, .ref (ga G 11 0)), (1, .int x1), (2, .int x2)]) C dX11_swift_46 (Nat.le_of_ble_eq_true rfl) rfl ?_
      obtain ⟨n9, h⟩ := h
      refine X_sub (lv' := [(0, .ref (ga G 11 0)), (1, .int x1), (2, .int x2), (3, .int (-1)), (4, .int 0), (5, .int 2)]) [3, 4, 5, 2, 1, 0] rfl ?_
      have hb : ∀ (L : Mem × Int32 × Int32 × Int32 → Prop) (s : Mem × Int32 × Int32 × Int32), (∀ t, L t → X Γ G Qf 6 0 0 48 [(0, .ref (ga G 11 0)), (1, .int x1), (2, .int x2), (3, .int t.2.1), (4, .int t.2.2.1), (5, .int t.2.2.2)] [] t.1) → bX11_swift_48 x1 x2 Q L s.1 s.2.1 s.2.2.1 s.2.2.2 → X Γ G Qf 6 0 0 48 [(0, .ref (ga G 11 0)), (1, .int x1), (2, .int x2), (3, .int s.2.1), (4, .int s.2.2.1), (5, .int s.2.2.2)] [] s.1 := fun L s hL h => wX11_swift_48 hG C E hL s.1 s.2.1 s.2.2.1 s.2.2.2 h
      have w9 := lp_walk (P := fun s : Mem × Int32 × Int32 × Int32 => X Γ G Qf 6 0 0 48 [(0, .ref (ga G 11 0)), (1, .int x1), (2, .int x2), (3, .int s.2.1), (4, .int s.2.2.1), (5, .int s.2.2.2)] [] s.1) h hb
      dsimp only at w9
      exact w9
    · replace h := h.2 c7
      refine x_iconst (v := 0) C dX11_swift_38 rfl ?_
      exact x_iret C E h (Nat.le_of_ble_eq_true rfl) (Nat.le_of_ble_eq_true rfl) dX11_swift_39
  · replace h := h.2 c4
    refine x_iload_n C dX11_swift_16 2 rfl ?_
    refine x_iconst (v := 0) C dX11_swift_17 rfl ?_
    refine x_iconst (v := 1) C dX11_swift_18 rfl ?_
    refine x_scalli (rest := [.ref (ga G 11 0)]) C ss_X11_172 (kX11_in hG _ _ _ _ h) rfl rfl (Nat.le_of_ble_eq_true rfl) ⟨Nat.le_of_ble_eq_true rfl, Nat.le_of_ble_eq_true rfl⟩ rfl rfl ⟨Nat.le_of_ble_eq_true rfl, Nat.le_of_ble_eq_true rfl⟩ dX11_swift_19 (fun r8 M9 h => ?_)
    refine x_if_ne (tgt := 29) C dX11_swift_22 (by decide) (fun c10 => ?_) (fun c10 => ?_)
    · replace h := h.1 c10
      refine x_iconst (v := 0) C dX11_swift_29 rfl ?_
      refine x_iconst (v := 1) C dX11_swift_30 rfl ?_
      refine x_iconst (v := 1) C dX11_swift_31 rfl ?_
      refine x_calli (rest := []) C sv_X11_179 ob11 z11 (kX11_bad hG _ _ _ _ h) rfl rfl (Nat.le_of_ble_eq_true rfl) ⟨Nat.le_of_ble_eq_true rfl, Nat.le_of_ble_eq_true rfl⟩ rfl rfl ⟨Nat.le_of_ble_eq_true rfl, Nat.le_of_ble_eq_true rfl⟩ dX11_swift_32 (fun r11 M12 h => ?_)
      refine x_if_eq (tgt := 40) C dX11_swift_35 (by decide) (fun c13 => ?_) (fun c13 => ?_)
      · replace h := h.1 c13
        refine x_iconst (v := (-1)) C dX11_swift_40 rfl ?_
        refine x_istore_n (lv' := [(3, .int (-1)), (0, .ref (ga G 11 0)), (1, .int x1), (2, .int x2)]) C dX11_swift_41 rfl (Nat.le_of_ble_eq_true rfl) rfl ?_
        refine x_iconst (v := 0) C dX11_swift_42 rfl ?_
        refine x_istore (lv' := [(4, .int 0), (3, .int (-1)), (0, .ref (ga G 11 0)), (1, .int x1), (2, .int x2)]) C dX11_swift_43 (Nat.le_of_ble_eq_true rfl) rfl ?_
        refine x_iconst (v := 2) C dX11_swift_45 rfl ?_
        refine x_istore (lv' := [(5, .int 2), (4, .int 0), (3, .int (-1)), (0, .ref (ga G 11 0)), (1, .int x1), (2, .int x2)]) C dX11_swift_46 (Nat.le_of_ble_eq_true rfl) rfl ?_
        obtain ⟨n9, h⟩ := h
        refine X_sub (lv' := [(0, .ref (ga G 11 0)), (1, .int x1), (2, .int x2), (3, .int (-1)), (4, .int 0), (5, .int 2)]) [3, 4, 5, 2, 1, 0] rfl ?_
        have hb : ∀ (L : Mem × Int32 × Int32 × Int32 → Prop) (s : Mem × Int32 × Int32 × Int32), (∀ t, L t → X Γ G Qf 6 0 0 48 [(0, .ref (ga G 11 0)), (1, .int x1), (2, .int x2), (3, .int t.2.1), (4, .int t.2.2.1), (5, .int t.2.2.2)] [] t.1) → bX11_swift_48 x1 x2 Q L s.1 s.2.1 s.2.2.1 s.2.2.2 → X Γ G Qf 6 0 0 48 [(0, .ref (ga G 11 0)), (1, .int x1), (2, .int x2), (3, .int s.2.1), (4, .int s.2.2.1), (5, .int s.2.2.2)] [] s.1 := fun L s hL h => wX11_swift_48 hG C E hL s.1 s.2.1 s.2.2.1 s.2.2.2 h
        have w9 := lp_walk (P := fun s : Mem × Int32 × Int32 × Int32 => X Γ G Qf 6 0 0 48 [(0, .ref (ga G 11 0)), (1, .int x1), (2, .int x2), (3, .int s.2.1), (4, .int s.2.2.1), (5, .int s.2.2.2)] [] s.1) h hb
        dsimp only at w9
        exact w9
      · replace h := h.2 c13
        refine x_iconst (v := 0) C dX11_swift_38 rfl ?_
        exact x_iret C E h (Nat.le_of_ble_eq_true rfl) (Nat.le_of_ble_eq_true rfl) dX11_swift_39
    · replace h := h.2 c10
      refine x_iconst (v := 1) C dX11_swift_25 rfl ?_
      refine x_goto (tgt := 30) C dX11_swift_26 (by decide) ?_
      refine x_iconst (v := 1) C dX11_swift_30 rfl ?_
      refine x_iconst (v := 1) C dX11_swift_31 rfl ?_
      refine x_calli (rest := []) C sv_X11_179 ob11 z11 (kX11_bad hG _ _ _ _ h) rfl rfl (Nat.le_of_ble_eq_true rfl) ⟨Nat.le_of_ble_eq_true rfl, Nat.le_of_ble_eq_true rfl⟩ rfl rfl ⟨Nat.le_of_ble_eq_true rfl, Nat.le_of_ble_eq_true rfl⟩ dX11_swift_32 (fun r14 M15 h => ?_)
      refine x_if_eq (tgt := 40) C dX11_swift_35 (by decide) (fun c16 => ?_) (fun c16 => ?_)
      · replace h := h.1 c16
        refine x_iconst (v := (-1)) C dX11_swift_40 rfl ?_
        refine x_istore_n (lv' := [(3, .int (-1)), (0, .ref (ga G 11 0)), (1, .int x1), (2, .int x2)]) C dX11_swift_41 rfl (Nat.le_of_ble_eq_true rfl) rfl ?_
        refine x_iconst (v := 0) C dX11_swift_42 rfl ?_
        refine x_istore (lv' := [(4, .int 0), (3, .int (-1)), (0, .ref (ga G 11 0)), (1, .int x1), (2, .int x2)]) C dX11_swift_43 (Nat.le_of_ble_eq_true rfl) rfl ?_
        refine x_iconst (v := 2) C dX11_swift_45 rfl ?_
        refine x_istore (lv' := [(5, .int 2), (4, .int 0), (3, .int (-1)), (0, .ref (ga G 11 0)), (1, .int x1), (2, .int x2)]) C dX11_swift_46 (Nat.le_of_ble_eq_true rfl) rfl ?_
        obtain ⟨n9, h⟩ := h
        refine X_sub (lv' := [(0, .ref (ga G 11 0)), (1, .int x1), (2, .int x2), (3, .int (-1)), (4, .int 0), (5, .int 2)]) [3, 4, 5, 2, 1, 0] rfl ?_
        have hb : ∀ (L : Mem × Int32 × Int32 × Int32 → Prop) (s : Mem × Int32 × Int32 × Int32), (∀ t, L t → X Γ G Qf 6 0 0 48 [(0, .ref (ga G 11 0)), (1, .int x1), (2, .int x2), (3, .int t.2.1), (4, .int t.2.2.1), (5, .int t.2.2.2)] [] t.1) → bX11_swift_48 x1 x2 Q L s.1 s.2.1 s.2.2.1 s.2.2.2 → X Γ G Qf 6 0 0 48 [(0, .ref (ga G 11 0)), (1, .int x1), (2, .int x2), (3, .int s.2.1), (4, .int s.2.2.1), (5, .int s.2.2.2)] [] s.1 := fun L s hL h => wX11_swift_48 hG C E hL s.1 s.2.1 s.2.2.1 s.2.2.2 h
        have w9 := lp_walk (P := fun s : Mem × Int32 × Int32 × Int32 => X Γ G Qf 6 0 0 48 [(0, .ref (ga G 11 0)), (1, .int x1), (2, .int x2), (3, .int s.2.1), (4, .int s.2.2.1), (5, .int s.2.2.2)] [] s.1) h hb
        dsimp only at w9
        exact w9
      · replace h := h.2 c16
        refine x_iconst (v := 0) C dX11_swift_38 rfl ?_
        exact x_iret C E h (Nat.le_of_ble_eq_true rfl) (Nat.le_of_ble_eq_true rfl) dX11_swift_39
def rmX11_blockOf : Room := { frames := 2, cells := 0, slots := 0, locals := 43 }
def bX11_blockOf_93 (x1 : Int32) (x2 : Int32) (Q : Int32 → Mem → Prop) (L44 : Mem × Int32 → Prop) (M : Mem) (y3 : Int32) : Prop :=
  ∀ v31 : Int32, v31 = (y3 + (M.1 1211 0 0)) → L44 (M, v31)
def bX11_blockOf_44 (x1 : Int32) (x2 : Int32) (Q : Int32 → Mem → Prop) (L44 : Mem × Int32 → Prop) (M : Mem) (y3 : Int32) : Prop :=
  (((M.1 1237 0 0) ≤ y3 → Q (-1) M) ∧ (¬ (M.1 1237 0 0) ≤ y3 → vp_in y3 64 ∧ ((x2 < (M.1 1238 0 (tn y3)) → bX11_blockOf_93 x1 x2 Q L44 M y3) ∧ (¬ x2 < (M.1 1238 0 (tn y3)) → pX11_less M (M.1 1237 0 0) (y3 + (M.1 1211 0 0)) (fun r26 M27 => vp_in (r26 - 1) 64 ∧ (((M27.1 1238 0 (tn (r26 - 1))) < x2 → bX11_blockOf_93 x1 x2 Q L44 M27 y3) ∧ (¬ (M27.1 1238 0 (tn (r26 - 1))) < x2 → (¬ (M27.1 1211 0 0) = 0) ∧ Q (y3 / (M27.1 1211 0 0)) M27)))))))
def pX11_blockOf (M : Mem) (x1 : Int32) (x2 : Int32) (Q : Int32 → Mem → Prop) : Prop :=
  ∀ M1 : Mem, M1 = up1 M 1200 0 0 0 → pX11_isWord M1 x1 (fun r2 M3 => ((r2 = 0 → pX11_bad M3 1 1 0 (fun r5 M6 => ((r5 = 0 → pX11_gathers M6 x1 (fun M9 => ∃ n : Nat, lp (fun L s => bX11_blockOf_44 x1 x2 Q L s.1 s.2) n (M9, 0))) ∧ (¬ r5 = 0 → Q 0 M6)))) ∧ (¬ r2 = 0 → pX11_isDocument M3 x2 (fun r10 M11 => ((¬ r10 = 0 → pX11_bad M11 0 1 0 (fun r13 M14 => ((r13 = 0 → pX11_gathers M14 x1 (fun M17 => ∃ n : Nat, lp (fun L s => bX11_blockOf_44 x1 x2 Q L s.1 s.2) n (M17, 0))) ∧ (¬ r13 = 0 → Q 0 M14)))) ∧ (r10 = 0 → pX11_bad M11 1 1 0 (fun r18 M19 => ((r18 = 0 → pX11_gathers M19 x1 (fun M22 => ∃ n : Nat, lp (fun L s => bX11_blockOf_44 x1 x2 Q L s.1 s.2) n (M22, 0))) ∧ (¬ r18 = 0 → Q 0 M19)))))))))
set_option maxRecDepth 100000 in
set_option maxHeartbeats 400000 in
theorem wX11_blockOf_93 {Γ : Gam} {G : Gm} {Qf : State → Prop} (hG : Gd G) (C : Cx Γ G cX11_blockOf 4 RX11 (some .int) rmX11_blockOf) {x1 : Int32} {x2 : Int32} {Q : Int32 → Mem → Prop} (E : EndI Γ G Qf rmX11_blockOf Q) {L44 : Mem × Int32 → Prop} (hL44 : ∀ s, L44 s → X Γ G Qf 4 0 0 44 [(0, .ref (ga G 11 0)), (2, .int x2), (3, .int s.2)] [] s.1) (M : Mem) (y3 : Int32) (h : bX11_blockOf_93 x1 x2 Q L44 M y3) : X Γ G Qf 4 0 0 93 [(0, .ref (ga G 11 0)), (2, .int x2), (3, .int y3)] [] M := by
  unfold bX11_blockOf_93 at h
  refine x_iload_n C dX11_blockOf_93 2 rfl ?_
  refine x_aload_n C dX11_blockOf_94 0 rfl ?_
  refine gf_11_11 C q209 z11 dX11_blockOf_95 ?_
  refine x_iadd C dX11_blockOf_98 ?_
  refine X_name (fun v31 ev31 => ?_)
  replace h := h v31 ev31
  refine x_istore_n (lv' := [(3, .int v31), (0, .ref (ga G 11 0)), (2, .int x2)]) C dX11_blockOf_99 rfl (Nat.le_of_ble_eq_true rfl) rfl ?_
  refine x_goto (tgt := 44) C dX11_blockOf_100 (by decide) ?_
  refine X_sub (lv' := [(0, .ref (ga G 11 0)), (2, .int x2), (3, .int v31)]) [1, 2, 0] rfl ?_
  have w9 := hL44 (M, v31) h
  dsimp only at w9
  exact w9
set_option maxRecDepth 100000 in
set_option maxHeartbeats 400000 in
theorem wX11_blockOf_44 {Γ : Gam} {G : Gm} {Qf : State → Prop} (hG : Gd G) (C : Cx Γ G cX11_blockOf 4 RX11 (some .int) rmX11_blockOf) {x1 : Int32} {x2 : Int32} {Q : Int32 → Mem → Prop} (E : EndI Γ G Qf rmX11_blockOf Q) {L44 : Mem × Int32 → Prop} (hL44 : ∀ s, L44 s → X Γ G Qf 4 0 0 44 [(0, .ref (ga G 11 0)), (2, .int x2), (3, .int s.2)] [] s.1) (M : Mem) (y3 : Int32) (h : bX11_blockOf_44 x1 x2 Q L44 M y3) : X Γ G Qf 4 0 0 44 [(0, .ref (ga G 11 0)), (2, .int x2), (3, .int y3)] [] M := by
  unfold bX11_blockOf_44 at h
  refine x_iload_n C dX11_blockOf_44 2 rfl ?_
  refine x_aload_n C dX11_blockOf_45 0 rfl ?_
  refine gf_11_37 C q181 z11 dX11_blockOf_46 ?_
  refine x_icmp_ge (tgt := 103) C dX11_blockOf_49 (by decide) (fun c23 => ?_) (fun c23 => ?_)
  · replace h := h.1 c23
    refine x_iconst (v := (-1)) C dX11_blockOf_103 rfl ?_
    exact x_iret C E h (Nat.le_of_ble_eq_true rfl) (Nat.le_of_ble_eq_true rfl) dX11_blockOf_104
  · replace h := h.2 c23
    refine x_aload_n C dX11_blockOf_52 0 rfl ?_
    refine gf_11_38 C q182 z11 dX11_blockOf_53 ?_
    refine x_iload_n C dX11_blockOf_56 2 rfl ?_
    obtain ⟨f24, h⟩ := h
    refine al_1238 C z1238 f24 dX11_blockOf_57 ?_
    refine x_iload_n C dX11_blockOf_58 1 rfl ?_
    refine x_icmp_gt (tgt := 93) C dX11_blockOf_59 (by decide) (fun c25 => ?_) (fun c25 => ?_)
    · replace h := h.1 c25
      refine X_sub (lv' := [(0, .ref (ga G 11 0)), (2, .int x2), (3, .int y3)]) [0, 1, 2] rfl ?_
      exact wX11_blockOf_93 hG C E hL44 M y3 h
    · replace h := h.2 c25
      refine x_aload_n C dX11_blockOf_62 0 rfl ?_
      refine gf_11_38 C q182 z11 dX11_blockOf_63 ?_
      refine x_aload_n C dX11_blockOf_66 0 rfl ?_
      refine gf_11_37 C q181 z11 dX11_blockOf_67 ?_
      refine x_iload_n C dX11_blockOf_70 2 rfl ?_
      refine x_aload_n C dX11_blockOf_71 0 rfl ?_
      refine gf_11_11 C q209 z11 dX11_blockOf_72 ?_
      refine x_iadd C dX11_blockOf_75 ?_
      refine x_scalli (rest := [.ref (ga G 1238 0)]) C ss_X11_236 (kX11_less hG _ _ _ h) rfl rfl (Nat.le_of_ble_eq_true rfl) ⟨Nat.le_of_ble_eq_true rfl, Nat.le_of_ble_eq_true rfl⟩ rfl rfl ⟨Nat.le_of_ble_eq_true rfl, Nat.le_of_ble_eq_true rfl⟩ dX11_blockOf_76 (fun r26 M27 h => ?_)
      refine x_iconst (v := 1) C dX11_blockOf_79 rfl ?_
      refine x_isub C dX11_blockOf_80 ?_
      obtain ⟨f28, h⟩ := h
      refine al_1238 C z1238 f28 dX11_blockOf_81 ?_
      refine x_iload_n C dX11_blockOf_82 1 rfl ?_
      refine x_icmp_lt (tgt := 93) C dX11_blockOf_83 (by decide) (fun c29 => ?_) (fun c29 => ?_)
      · replace h := h.1 c29
        refine X_sub (lv' := [(0, .ref (ga G 11 0)), (2, .int x2), (3, .int y3)]) [0, 1, 2] rfl ?_
        exact wX11_blockOf_93 hG C E hL44 M27 y3 h
      · replace h := h.2 c29
        refine x_iload_n C dX11_blockOf_86 2 rfl ?_
        refine x_aload_n C dX11_blockOf_87 0 rfl ?_
        refine gf_11_11 C q209 z11 dX11_blockOf_88 ?_
        obtain ⟨f30, h⟩ := h
        refine x_idiv C dX11_blockOf_91 f30 ?_
        exact x_iret C E h (Nat.le_of_ble_eq_true rfl) (Nat.le_of_ble_eq_true rfl) dX11_blockOf_92
set_option maxRecDepth 100000 in
set_option maxHeartbeats 400000 in
theorem kX11_blockOf {l : Launch} {G : Gm} (hG : Gd G) (M : Mem) (x1 : Int32) (x2 : Int32) {Q : Int32 → Mem → Prop} (h : pX11_blockOf M x1 x2 Q) : Cti l G yX11_blockOf cX11_blockOf 4 .int rmX11_blockOf [.ref (ga G 11 0), .int x1, .int x2] M Q := by
  refine cti_of (own := RX11) (by decide +kernel) rfl (Nat.le_of_ble_eq_true rfl) hG (fun Γ Qf hl C E => ?_)
  subst hl
  show X Γ G Qf 4 0 0 0 [(0, .ref (ga G 11 0)), (1, .int x1), (2, .int x2)] [] M
  unfold pX11_blockOf at h
  refine x_aload_n C dX11_blockOf_0 0 rfl ?_
  refine x_iconst (v := 0) C dX11_blockOf_1 rfl ?_
  refine pf_11_0 C q143 z11 dX11_blockOf_2 ?_
  refine X_nameM (fun M1 eM1 => ?_)
  replace h := h M1 eM1
  refine x_aload_n C dX11_blockOf_5 0 rfl ?_
  refine x_aload_n C dX11_blockOf_6 0 rfl ?_
  refine x_iload_n C dX11_blockOf_7 1 rfl ?_
  refine x_calli (rest := [.ref (ga G 11 0)]) C sv_X11_414 ob11 z11 (kX11_isWord hG _ _ h) rfl rfl (Nat.le_of_ble_eq_true rfl) ⟨Nat.le_of_ble_eq_true rfl, Nat.le_of_ble_eq_true rfl⟩ rfl rfl ⟨Nat.le_of_ble_eq_true rfl, Nat.le_of_ble_eq_true rfl⟩ dX11_blockOf_8 (fun r2 M3 h => ?_)
  refine x_if_eq (tgt := 22) C dX11_blockOf_11 (by decide) (fun c4 => ?_) (fun c4 => ?_)
  · replace h := h.1 c4
    refine x_iconst (v := 1) C dX11_blockOf_22 rfl ?_
    refine x_goto (tgt := 27) C dX11_blockOf_23 (by decide) ?_
    refine x_iconst (v := 1) C dX11_blockOf_27 rfl ?_
    refine x_iconst (v := 0) C dX11_blockOf_28 rfl ?_
    refine x_calli (rest := []) C sv_X11_179 ob11 z11 (kX11_bad hG _ _ _ _ h) rfl rfl (Nat.le_of_ble_eq_true rfl) ⟨Nat.le_of_ble_eq_true rfl, Nat.le_of_ble_eq_true rfl⟩ rfl rfl ⟨Nat.le_of_ble_eq_true rfl, Nat.le_of_ble_eq_true rfl⟩ dX11_blockOf_29 (fun r5 M6 h => ?_)
    refine x_if_eq (tgt := 37) C dX11_blockOf_32 (by decide) (fun c7 => ?_) (fun c7 => ?_)
    · replace h := h.1 c7
      refine x_aload_n C dX11_blockOf_37 0 rfl ?_
      refine x_iload_n C dX11_blockOf_38 1 rfl ?_
      refine x_callv (rest := []) C sv_X11_252 ob11 z11 (kX11_gathers hG _ _ h) rfl rfl (Nat.le_of_ble_eq_true rfl) ⟨Nat.le_of_ble_eq_true rfl, Nat.le_of_ble_eq_true rfl⟩ rfl rfl ⟨Nat.le_of_ble_eq_true rfl, Nat.le_of_ble_eq_true rfl⟩ dX11_blockOf_39 (fun M9 h => ?_)
      refine x_iconst (v := 0) C dX11_blockOf_42 rfl ?_
      refine x_istore_n (lv' := [(3, .int 0), (0, .ref (ga G 11 0)), (1, .int x1), (2, .int x2)]) C dX11_blockOf_43 rfl (Nat.le_of_ble_eq_true rfl) rfl ?_
      obtain ⟨n9, h⟩ := h
      refine X_sub (lv' := [(0, .ref (ga G 11 0)), (2, .int x2), (3, .int 0)]) [1, 3, 0] rfl ?_
      have hb : ∀ (L : Mem × Int32 → Prop) (s : Mem × Int32), (∀ t, L t → X Γ G Qf 4 0 0 44 [(0, .ref (ga G 11 0)), (2, .int x2), (3, .int t.2)] [] t.1) → bX11_blockOf_44 x1 x2 Q L s.1 s.2 → X Γ G Qf 4 0 0 44 [(0, .ref (ga G 11 0)), (2, .int x2), (3, .int s.2)] [] s.1 := fun L s hL h => wX11_blockOf_44 hG C E hL s.1 s.2 h
      have w9 := lp_walk (P := fun s : Mem × Int32 => X Γ G Qf 4 0 0 44 [(0, .ref (ga G 11 0)), (2, .int x2), (3, .int s.2)] [] s.1) h hb
      dsimp only at w9
      exact w9
    · replace h := h.2 c7
      refine x_iconst (v := 0) C dX11_blockOf_35 rfl ?_
      exact x_iret C E h (Nat.le_of_ble_eq_true rfl) (Nat.le_of_ble_eq_true rfl) dX11_blockOf_36
  · replace h := h.2 c4
    refine x_aload_n C dX11_blockOf_14 0 rfl ?_
    refine x_iload_n C dX11_blockOf_15 2 rfl ?_
    refine x_calli (rest := [.ref (ga G 11 0)]) C sv_X11_402 ob11 z11 (kX11_isDocument hG _ _ h) rfl rfl (Nat.le_of_ble_eq_true rfl) ⟨Nat.le_of_ble_eq_true rfl, Nat.le_of_ble_eq_true rfl⟩ rfl rfl ⟨Nat.le_of_ble_eq_true rfl, Nat.le_of_ble_eq_true rfl⟩ dX11_blockOf_16 (fun r10 M11 h => ?_)
    refine x_if_ne (tgt := 26) C dX11_blockOf_19 (by decide) (fun c12 => ?_) (fun c12 => ?_)
    · replace h := h.1 c12
      refine x_iconst (v := 0) C dX11_blockOf_26 rfl ?_
      refine x_iconst (v := 1) C dX11_blockOf_27 rfl ?_
      refine x_iconst (v := 0) C dX11_blockOf_28 rfl ?_
      refine x_calli (rest := []) C sv_X11_179 ob11 z11 (kX11_bad hG _ _ _ _ h) rfl rfl (Nat.le_of_ble_eq_true rfl) ⟨Nat.le_of_ble_eq_true rfl, Nat.le_of_ble_eq_true rfl⟩ rfl rfl ⟨Nat.le_of_ble_eq_true rfl, Nat.le_of_ble_eq_true rfl⟩ dX11_blockOf_29 (fun r13 M14 h => ?_)
      refine x_if_eq (tgt := 37) C dX11_blockOf_32 (by decide) (fun c15 => ?_) (fun c15 => ?_)
      · replace h := h.1 c15
        refine x_aload_n C dX11_blockOf_37 0 rfl ?_
        refine x_iload_n C dX11_blockOf_38 1 rfl ?_
        refine x_callv (rest := []) C sv_X11_252 ob11 z11 (kX11_gathers hG _ _ h) rfl rfl (Nat.le_of_ble_eq_true rfl) ⟨Nat.le_of_ble_eq_true rfl, Nat.le_of_ble_eq_true rfl⟩ rfl rfl ⟨Nat.le_of_ble_eq_true rfl, Nat.le_of_ble_eq_true rfl⟩ dX11_blockOf_39 (fun M17 h => ?_)
        refine x_iconst (v := 0) C dX11_blockOf_42 rfl ?_
        refine x_istore_n (lv' := [(3, .int 0), (0, .ref (ga G 11 0)), (1, .int x1), (2, .int x2)]) C dX11_blockOf_43 rfl (Nat.le_of_ble_eq_true rfl) rfl ?_
        obtain ⟨n9, h⟩ := h
        refine X_sub (lv' := [(0, .ref (ga G 11 0)), (2, .int x2), (3, .int 0)]) [1, 3, 0] rfl ?_
        have hb : ∀ (L : Mem × Int32 → Prop) (s : Mem × Int32), (∀ t, L t → X Γ G Qf 4 0 0 44 [(0, .ref (ga G 11 0)), (2, .int x2), (3, .int t.2)] [] t.1) → bX11_blockOf_44 x1 x2 Q L s.1 s.2 → X Γ G Qf 4 0 0 44 [(0, .ref (ga G 11 0)), (2, .int x2), (3, .int s.2)] [] s.1 := fun L s hL h => wX11_blockOf_44 hG C E hL s.1 s.2 h
        have w9 := lp_walk (P := fun s : Mem × Int32 => X Γ G Qf 4 0 0 44 [(0, .ref (ga G 11 0)), (2, .int x2), (3, .int s.2)] [] s.1) h hb
        dsimp only at w9
        exact w9
      · replace h := h.2 c15
        refine x_iconst (v := 0) C dX11_blockOf_35 rfl ?_
        exact x_iret C E h (Nat.le_of_ble_eq_true rfl) (Nat.le_of_ble_eq_true rfl) dX11_blockOf_36
    · replace h := h.2 c12
      refine x_iconst (v := 1) C dX11_blockOf_22 rfl ?_
      refine x_goto (tgt := 27) C dX11_blockOf_23 (by decide) ?_
      refine x_iconst (v := 1) C dX11_blockOf_27 rfl ?_
      refine x_iconst (v := 0) C dX11_blockOf_28 rfl ?_
      refine x_calli (rest := []) C sv_X11_179 ob11 z11 (kX11_bad hG _ _ _ _ h) rfl rfl (Nat.le_of_ble_eq_true rfl) ⟨Nat.le_of_ble_eq_true rfl, Nat.le_of_ble_eq_true rfl⟩ rfl rfl ⟨Nat.le_of_ble_eq_true rfl, Nat.le_of_ble_eq_true rfl⟩ dX11_blockOf_29 (fun r18 M19 h => ?_)
      refine x_if_eq (tgt := 37) C dX11_blockOf_32 (by decide) (fun c20 => ?_) (fun c20 => ?_)
      · replace h := h.1 c20
        refine x_aload_n C dX11_blockOf_37 0 rfl ?_
        refine x_iload_n C dX11_blockOf_38 1 rfl ?_
        refine x_callv (rest := []) C sv_X11_252 ob11 z11 (kX11_gathers hG _ _ h) rfl rfl (Nat.le_of_ble_eq_true rfl) ⟨Nat.le_of_ble_eq_true rfl, Nat.le_of_ble_eq_true rfl⟩ rfl rfl ⟨Nat.le_of_ble_eq_true rfl, Nat.le_of_ble_eq_true rfl⟩ dX11_blockOf_39 (fun M22 h => ?_)
        refine x_iconst (v := 0) C dX11_blockOf_42 rfl ?_
        refine x_istore_n (lv' := [(3, .int 0), (0, .ref (ga G 11 0)), (1, .int x1), (2, .int x2)]) C dX11_blockOf_43 rfl (Nat.le_of_ble_eq_true rfl) rfl ?_
        obtain ⟨n9, h⟩ := h
        refine X_sub (lv' := [(0, .ref (ga G 11 0)), (2, .int x2), (3, .int 0)]) [1, 3, 0] rfl ?_
        have hb : ∀ (L : Mem × Int32 → Prop) (s : Mem × Int32), (∀ t, L t → X Γ G Qf 4 0 0 44 [(0, .ref (ga G 11 0)), (2, .int x2), (3, .int t.2)] [] t.1) → bX11_blockOf_44 x1 x2 Q L s.1 s.2 → X Γ G Qf 4 0 0 44 [(0, .ref (ga G 11 0)), (2, .int x2), (3, .int s.2)] [] s.1 := fun L s hL h => wX11_blockOf_44 hG C E hL s.1 s.2 h
        have w9 := lp_walk (P := fun s : Mem × Int32 => X Γ G Qf 4 0 0 44 [(0, .ref (ga G 11 0)), (2, .int x2), (3, .int s.2)] [] s.1) h hb
        dsimp only at w9
        exact w9
      · replace h := h.2 c20
        refine x_iconst (v := 0) C dX11_blockOf_35 rfl ?_
        exact x_iret C E h (Nat.le_of_ble_eq_true rfl) (Nat.le_of_ble_eq_true rfl) dX11_blockOf_36
def rmX11_full : Room := { frames := 0, cells := 0, slots := 0, locals := 0 }
def bX11_full_95 (Q : Int32 → Mem → Prop) (L9 : Mem × Int32 × Int32 → Prop) (M : Mem) (y1 : Int32) (y2 : Int32) : Prop :=
  ∀ v17 : Int32, v17 = y2 + 1 → L9 (M, y1, v17)
def bX11_full_77 (Q : Int32 → Mem → Prop) (L9 : Mem × Int32 × Int32 → Prop) (L43 : Mem × Int32 × Int32 × Int32 × Int32 → Prop) (M : Mem) (y1 : Int32) (y2 : Int32) (y3 : Int32) (y4 : Int32) : Prop :=
  ∀ v16 : Int32, v16 = y4 + 1 → L43 (M, y1, y2, y3, v16)
def bX11_full_43 (Q : Int32 → Mem → Prop) (L9 : Mem × Int32 × Int32 → Prop) (L43 : Mem × Int32 × Int32 × Int32 × Int32 → Prop) (M : Mem) (y1 : Int32) (y2 : Int32) (y3 : Int32) (y4 : Int32) : Prop :=
  (((M.1 1218 0 0) ≤ y4 → ((y3 = 0 → ∀ v8 : Int32, v8 = (y1 + 0) → bX11_full_95 Q L9 M v8 y2) ∧ (¬ y3 = 0 → ∀ v9 : Int32, v9 = (y1 + 1) → bX11_full_95 Q L9 M v9 y2))) ∧ (¬ (M.1 1218 0 0) ≤ y4 → vp_in y4 24 ∧ vp_in (M.1 1225 0 (tn y4)) 256 ∧ vp_in y2 64 ∧ (((M.1 6217 (tn (M.1 1225 0 (tn y4))) (tn y2)) ≤ 0 → ∀ v14 : Int32, v14 = (y3 &&& 0) → bX11_full_77 Q L9 L43 M y1 y2 v14 y4) ∧ (¬ (M.1 6217 (tn (M.1 1225 0 (tn y4))) (tn y2)) ≤ 0 → ∀ v15 : Int32, v15 = (y3 &&& 1) → bX11_full_77 Q L9 L43 M y1 y2 v15 y4))))
def bX11_full_40 (Q : Int32 → Mem → Prop) (L9 : Mem × Int32 × Int32 → Prop) (M : Mem) (y1 : Int32) (y2 : Int32) (y3 : Int32) : Prop :=
  ∃ n : Nat, lp (fun L s => bX11_full_43 Q L9 L s.1 s.2.1 s.2.2.1 s.2.2.2.1 s.2.2.2.2) n (M, y1, y2, y3, 0)
def bX11_full_9 (Q : Int32 → Mem → Prop) (L9 : Mem × Int32 × Int32 → Prop) (M : Mem) (y1 : Int32) (y2 : Int32) : Prop :=
  (((M.1 1209 0 0) ≤ y2 → Q y1 M) ∧ (¬ (M.1 1209 0 0) ≤ y2 → (((M.1 1218 0 0) ≤ 0 → Q y1 M) ∧ (¬ (M.1 1218 0 0) ≤ 0 → vp_in y2 64 ∧ ((¬ (M.1 1214 0 (tn y2)) = 1 → bX11_full_40 Q L9 M y1 y2 0) ∧ ((M.1 1214 0 (tn y2)) = 1 → bX11_full_40 Q L9 M y1 y2 1))))))
def pX11_full (M : Mem) (Q : Int32 → Mem → Prop) : Prop :=
  ∀ M1 : Mem, M1 = up1 M 1200 0 0 0 → ∃ n : Nat, lp (fun L s => bX11_full_9 Q L s.1 s.2.1 s.2.2) n (M1, 0, 0)
set_option maxRecDepth 100000 in
set_option maxHeartbeats 400000 in
theorem wX11_full_95 {Γ : Gam} {G : Gm} {Qf : State → Prop} (hG : Gd G) (C : Cx Γ G cX11_full 5 RX11 (some .int) rmX11_full)  {Q : Int32 → Mem → Prop} (E : EndI Γ G Qf rmX11_full Q) {L9 : Mem × Int32 × Int32 → Prop} (hL9 : ∀ s, L9 s → X Γ G Qf 5 0 0 9 [(0, .ref (ga G 11 0)), (1, .int s.2.1), (2, .int s.2.2)] [] s.1) (M : Mem) (y1 : Int32) (y2 : Int32) (h : bX11_full_95 Q L9 M y1 y2) : X Γ G Qf 5 0 0 95 [(0, .ref (ga G 11 0)), (1, .int y1), (2, .int y2)] [] M := by
  unfold bX11_full_95 at h
  obtain ⟨v17, ev17⟩ : ∃ z : Int32, z = y2 + 1 := ⟨_, rfl⟩
  replace h := h v17 ev17
  refine x_iinc (v := v17) (lv' := [(2, .int v17), (0, .ref (ga G 11 0)), (1, .int y1)]) (j := 2) C dX11_full_95 rfl (by rw [ev17]; rfl) (Nat.le_of_ble_eq_true rfl) rfl ?_
  refine x_goto (tgt := 9) C dX11_full_98 (by decide) ?_
  refine X_sub (lv' := [(0, .ref (ga G 11 0)), (1, .int y1), (2, .int v17)]) [1, 2, 0] rfl ?_
  have w9 := hL9 (M, y1, v17) h
  dsimp only at w9
  exact w9
set_option maxRecDepth 100000 in
set_option maxHeartbeats 400000 in
theorem wX11_full_77 {Γ : Gam} {G : Gm} {Qf : State → Prop} (hG : Gd G) (C : Cx Γ G cX11_full 5 RX11 (some .int) rmX11_full)  {Q : Int32 → Mem → Prop} (E : EndI Γ G Qf rmX11_full Q) {L9 : Mem × Int32 × Int32 → Prop} (hL9 : ∀ s, L9 s → X Γ G Qf 5 0 0 9 [(0, .ref (ga G 11 0)), (1, .int s.2.1), (2, .int s.2.2)] [] s.1) {L43 : Mem × Int32 × Int32 × Int32 × Int32 → Prop} (hL43 : ∀ s, L43 s → X Γ G Qf 5 0 0 43 [(0, .ref (ga G 11 0)), (1, .int s.2.1), (2, .int s.2.2.1), (3, .int s.2.2.2.1), (4, .int s.2.2.2.2)] [] s.1) (M : Mem) (y1 : Int32) (y2 : Int32) (y3 : Int32) (y4 : Int32) (h : bX11_full_77 Q L9 L43 M y1 y2 y3 y4) : X Γ G Qf 5 0 0 77 [(0, .ref (ga G 11 0)), (1, .int y1), (2, .int y2), (3, .int y3), (4, .int y4)] [] M := by
  unfold bX11_full_77 at h
  obtain ⟨v16, ev16⟩ : ∃ z : Int32, z = y4 + 1 := ⟨_, rfl⟩
  replace h := h v16 ev16
  refine x_iinc (v := v16) (lv' := [(4, .int v16), (0, .ref (ga G 11 0)), (1, .int y1), (2, .int y2), (3, .int y3)]) (j := 4) C dX11_full_77 rfl (by rw [ev16]; rfl) (Nat.le_of_ble_eq_true rfl) rfl ?_
  refine x_goto (tgt := 43) C dX11_full_80 (by decide) ?_
  refine X_sub (lv' := [(0, .ref (ga G 11 0)), (1, .int y1), (2, .int y2), (3, .int y3), (4, .int v16)]) [1, 2, 3, 4, 0] rfl ?_
  have w9 := hL43 (M, y1, y2, y3, v16) h
  dsimp only at w9
  exact w9
set_option maxRecDepth 100000 in
set_option maxHeartbeats 400000 in
theorem wX11_full_43 {Γ : Gam} {G : Gm} {Qf : State → Prop} (hG : Gd G) (C : Cx Γ G cX11_full 5 RX11 (some .int) rmX11_full)  {Q : Int32 → Mem → Prop} (E : EndI Γ G Qf rmX11_full Q) {L9 : Mem × Int32 × Int32 → Prop} (hL9 : ∀ s, L9 s → X Γ G Qf 5 0 0 9 [(0, .ref (ga G 11 0)), (1, .int s.2.1), (2, .int s.2.2)] [] s.1) {L43 : Mem × Int32 × Int32 × Int32 × Int32 → Prop} (hL43 : ∀ s, L43 s → X Γ G Qf 5 0 0 43 [(0, .ref (ga G 11 0)), (1, .int s.2.1), (2, .int s.2.2.1), (3, .int s.2.2.2.1), (4, .int s.2.2.2.2)] [] s.1) (M : Mem) (y1 : Int32) (y2 : Int32) (y3 : Int32) (y4 : Int32) (h : bX11_full_43 Q L9 L43 M y1 y2 y3 y4) : X Γ G Qf 5 0 0 43 [(0, .ref (ga G 11 0)), (1, .int y1), (2, .int y2), (3, .int y3), (4, .int y4)] [] M := by
  unfold bX11_full_43 at h
  refine x_iload C dX11_full_43 4 rfl ?_
  refine x_aload_n C dX11_full_45 0 rfl ?_
  refine gf_11_18 C q168 z11 dX11_full_46 ?_
  refine x_icmp_ge (tgt := 83) C dX11_full_49 (by decide) (fun c6 => ?_) (fun c6 => ?_)
  · replace h := h.1 c6
    refine x_iload_n C dX11_full_83 1 rfl ?_
    refine x_iload_n C dX11_full_84 3 rfl ?_
    refine x_if_eq (tgt := 92) C dX11_full_85 (by decide) (fun c7 => ?_) (fun c7 => ?_)
    · replace h := h.1 c7
      refine x_iconst (v := 0) C dX11_full_92 rfl ?_
      refine x_iadd C dX11_full_93 ?_
      refine X_name (fun v8 ev8 => ?_)
      replace h := h v8 ev8
      refine x_istore_n (lv' := [(1, .int v8), (0, .ref (ga G 11 0)), (2, .int y2), (3, .int y3), (4, .int y4)]) C dX11_full_94 rfl (Nat.le_of_ble_eq_true rfl) rfl ?_
      refine X_sub (lv' := [(0, .ref (ga G 11 0)), (1, .int v8), (2, .int y2)]) [1, 0, 2] rfl ?_
      exact wX11_full_95 hG C E hL9 M v8 y2 h
    · replace h := h.2 c7
      refine x_iconst (v := 1) C dX11_full_88 rfl ?_
      refine x_goto (tgt := 93) C dX11_full_89 (by decide) ?_
      refine x_iadd C dX11_full_93 ?_
      refine X_name (fun v9 ev9 => ?_)
      replace h := h v9 ev9
      refine x_istore_n (lv' := [(1, .int v9), (0, .ref (ga G 11 0)), (2, .int y2), (3, .int y3), (4, .int y4)]) C dX11_full_94 rfl (Nat.le_of_ble_eq_true rfl) rfl ?_
      refine X_sub (lv' := [(0, .ref (ga G 11 0)), (1, .int v9), (2, .int y2)]) [1, 0, 2] rfl ?_
      exact wX11_full_95 hG C E hL9 M v9 y2 h
  · replace h := h.2 c6
    refine x_iload_n C dX11_full_52 3 rfl ?_
    refine x_aload_n C dX11_full_53 0 rfl ?_
    refine gf_11_17 C q163 z11 dX11_full_54 ?_
    refine x_aload_n C dX11_full_57 0 rfl ?_
    refine gf_11_25 C q169 z11 dX11_full_58 ?_
    refine x_iload C dX11_full_61 4 rfl ?_
    obtain ⟨f10, h⟩ := h
    refine al_1225 C z1225 f10 dX11_full_63 ?_
    obtain ⟨f11, h⟩ := h
    refine al_1217 C z1217 f11 dX11_full_64 ?_
    refine x_iload_n C dX11_full_65 2 rfl ?_
    obtain ⟨f12, h⟩ := h
    refine al_6217 C (vp_lt f11) f12 dX11_full_66 ?_
    refine x_if_le (tgt := 74) C dX11_full_67 (by decide) (fun c13 => ?_) (fun c13 => ?_)
    · replace h := h.1 c13
      refine x_iconst (v := 0) C dX11_full_74 rfl ?_
      refine x_iand C dX11_full_75 ?_
      refine X_name (fun v14 ev14 => ?_)
      replace h := h v14 ev14
      refine x_istore_n (lv' := [(3, .int v14), (0, .ref (ga G 11 0)), (1, .int y1), (2, .int y2), (4, .int y4)]) C dX11_full_76 rfl (Nat.le_of_ble_eq_true rfl) rfl ?_
      refine X_sub (lv' := [(0, .ref (ga G 11 0)), (1, .int y1), (2, .int y2), (3, .int v14), (4, .int y4)]) [1, 2, 3, 0, 4] rfl ?_
      exact wX11_full_77 hG C E hL9 hL43 M y1 y2 v14 y4 h
    · replace h := h.2 c13
      refine x_iconst (v := 1) C dX11_full_70 rfl ?_
      refine x_goto (tgt := 75) C dX11_full_71 (by decide) ?_
      refine x_iand C dX11_full_75 ?_
      refine X_name (fun v15 ev15 => ?_)
      replace h := h v15 ev15
      refine x_istore_n (lv' := [(3, .int v15), (0, .ref (ga G 11 0)), (1, .int y1), (2, .int y2), (4, .int y4)]) C dX11_full_76 rfl (Nat.le_of_ble_eq_true rfl) rfl ?_
      refine X_sub (lv' := [(0, .ref (ga G 11 0)), (1, .int y1), (2, .int y2), (3, .int v15), (4, .int y4)]) [1, 2, 3, 0, 4] rfl ?_
      exact wX11_full_77 hG C E hL9 hL43 M y1 y2 v15 y4 h
set_option maxRecDepth 100000 in
set_option maxHeartbeats 400000 in
theorem wX11_full_40 {Γ : Gam} {G : Gm} {Qf : State → Prop} (hG : Gd G) (C : Cx Γ G cX11_full 5 RX11 (some .int) rmX11_full)  {Q : Int32 → Mem → Prop} (E : EndI Γ G Qf rmX11_full Q) {L9 : Mem × Int32 × Int32 → Prop} (hL9 : ∀ s, L9 s → X Γ G Qf 5 0 0 9 [(0, .ref (ga G 11 0)), (1, .int s.2.1), (2, .int s.2.2)] [] s.1) (M : Mem) (y1 : Int32) (y2 : Int32) (y3 : Int32) (h : bX11_full_40 Q L9 M y1 y2 y3) : X Γ G Qf 5 0 0 40 [(0, .ref (ga G 11 0)), (1, .int y1), (2, .int y2), (3, .int y3)] [] M := by
  unfold bX11_full_40 at h
  refine x_iconst (v := 0) C dX11_full_40 rfl ?_
  refine x_istore (lv' := [(4, .int 0), (0, .ref (ga G 11 0)), (1, .int y1), (2, .int y2), (3, .int y3)]) C dX11_full_41 (Nat.le_of_ble_eq_true rfl) rfl ?_
  obtain ⟨n9, h⟩ := h
  refine X_sub (lv' := [(0, .ref (ga G 11 0)), (1, .int y1), (2, .int y2), (3, .int y3), (4, .int 0)]) [1, 2, 3, 4, 0] rfl ?_
  have hb : ∀ (L : Mem × Int32 × Int32 × Int32 × Int32 → Prop) (s : Mem × Int32 × Int32 × Int32 × Int32), (∀ t, L t → X Γ G Qf 5 0 0 43 [(0, .ref (ga G 11 0)), (1, .int t.2.1), (2, .int t.2.2.1), (3, .int t.2.2.2.1), (4, .int t.2.2.2.2)] [] t.1) → bX11_full_43 Q L9 L s.1 s.2.1 s.2.2.1 s.2.2.2.1 s.2.2.2.2 → X Γ G Qf 5 0 0 43 [(0, .ref (ga G 11 0)), (1, .int s.2.1), (2, .int s.2.2.1), (3, .int s.2.2.2.1), (4, .int s.2.2.2.2)] [] s.1 := fun L s hL h => wX11_full_43 hG C E hL9 hL s.1 s.2.1 s.2.2.1 s.2.2.2.1 s.2.2.2.2 h
  have w9 := lp_walk (P := fun s : Mem × Int32 × Int32 × Int32 × Int32 => X Γ G Qf 5 0 0 43 [(0, .ref (ga G 11 0)), (1, .int s.2.1), (2, .int s.2.2.1), (3, .int s.2.2.2.1), (4, .int s.2.2.2.2)] [] s.1) h hb
  dsimp only at w9
  exact w9
set_option maxRecDepth 100000 in
set_option maxHeartbeats 400000 in
theorem wX11_full_9 {Γ : Gam} {G : Gm} {Qf : State → Prop} (hG : Gd G) (C : Cx Γ G cX11_full 5 RX11 (some .int) rmX11_full)  {Q : Int32 → Mem → Prop} (E : EndI Γ G Qf rmX11_full Q) {L9 : Mem × Int32 × Int32 → Prop} (hL9 : ∀ s, L9 s → X Γ G Qf 5 0 0 9 [(0, .ref (ga G 11 0)), (1, .int s.2.1), (2, .int s.2.2)] [] s.1) (M : Mem) (y1 : Int32) (y2 : Int32) (h : bX11_full_9 Q L9 M y1 y2) : X Γ G Qf 5 0 0 9 [(0, .ref (ga G 11 0)), (1, .int y1), (2, .int y2)] [] M := by
  unfold bX11_full_9 at h
  refine x_iload_n C dX11_full_9 2 rfl ?_
  refine x_aload_n C dX11_full_10 0 rfl ?_
  refine gf_11_9 C q159 z11 dX11_full_11 ?_
  refine x_icmp_ge (tgt := 101) C dX11_full_14 (by decide) (fun c2 => ?_) (fun c2 => ?_)
  · replace h := h.1 c2
    refine x_iload_n C dX11_full_101 1 rfl ?_
    exact x_iret C E h (Nat.le_of_ble_eq_true rfl) (Nat.le_of_ble_eq_true rfl) dX11_full_102
  · replace h := h.2 c2
    refine x_aload_n C dX11_full_17 0 rfl ?_
    refine gf_11_18 C q168 z11 dX11_full_18 ?_
    refine x_if_le (tgt := 101) C dX11_full_21 (by decide) (fun c3 => ?_) (fun c3 => ?_)
    · replace h := h.1 c3
      refine x_iload_n C dX11_full_101 1 rfl ?_
      exact x_iret C E h (Nat.le_of_ble_eq_true rfl) (Nat.le_of_ble_eq_true rfl) dX11_full_102
    · replace h := h.2 c3
      refine x_aload_n C dX11_full_24 0 rfl ?_
      refine gf_11_14 C q162 z11 dX11_full_25 ?_
      refine x_iload_n C dX11_full_28 2 rfl ?_
      obtain ⟨f4, h⟩ := h
      refine al_1214 C z1214 f4 dX11_full_29 ?_
      refine x_iconst (v := 1) C dX11_full_30 rfl ?_
      refine x_icmp_ne (tgt := 38) C dX11_full_31 (by decide) (fun c5 => ?_) (fun c5 => ?_)
      · replace h := h.1 c5
        refine x_iconst (v := 0) C dX11_full_38 rfl ?_
        refine x_istore_n (lv' := [(3, .int 0), (0, .ref (ga G 11 0)), (1, .int y1), (2, .int y2)]) C dX11_full_39 rfl (Nat.le_of_ble_eq_true rfl) rfl ?_
        refine X_sub (lv' := [(0, .ref (ga G 11 0)), (1, .int y1), (2, .int y2), (3, .int 0)]) [1, 2, 3, 0] rfl ?_
        exact wX11_full_40 hG C E hL9 M y1 y2 0 h
      · replace h := h.2 c5
        refine x_iconst (v := 1) C dX11_full_34 rfl ?_
        refine x_goto (tgt := 39) C dX11_full_35 (by decide) ?_
        refine x_istore_n (lv' := [(3, .int 1), (0, .ref (ga G 11 0)), (1, .int y1), (2, .int y2)]) C dX11_full_39 rfl (Nat.le_of_ble_eq_true rfl) rfl ?_
        refine X_sub (lv' := [(0, .ref (ga G 11 0)), (1, .int y1), (2, .int y2), (3, .int 1)]) [1, 2, 3, 0] rfl ?_
        exact wX11_full_40 hG C E hL9 M y1 y2 1 h
set_option maxRecDepth 100000 in
set_option maxHeartbeats 400000 in
theorem kX11_full {l : Launch} {G : Gm} (hG : Gd G) (M : Mem)  {Q : Int32 → Mem → Prop} (h : pX11_full M Q) : Cti l G yX11_full cX11_full 5 .int rmX11_full [.ref (ga G 11 0)] M Q := by
  refine cti_of (own := RX11) (by decide +kernel) rfl (Nat.le_of_ble_eq_true rfl) hG (fun Γ Qf hl C E => ?_)
  subst hl
  show X Γ G Qf 5 0 0 0 [(0, .ref (ga G 11 0))] [] M
  unfold pX11_full at h
  refine x_aload_n C dX11_full_0 0 rfl ?_
  refine x_iconst (v := 0) C dX11_full_1 rfl ?_
  refine pf_11_0 C q143 z11 dX11_full_2 ?_
  refine X_nameM (fun M1 eM1 => ?_)
  replace h := h M1 eM1
  refine x_iconst (v := 0) C dX11_full_5 rfl ?_
  refine x_istore_n (lv' := [(1, .int 0), (0, .ref (ga G 11 0))]) C dX11_full_6 rfl (Nat.le_of_ble_eq_true rfl) rfl ?_
  refine x_iconst (v := 0) C dX11_full_7 rfl ?_
  refine x_istore_n (lv' := [(2, .int 0), (1, .int 0), (0, .ref (ga G 11 0))]) C dX11_full_8 rfl (Nat.le_of_ble_eq_true rfl) rfl ?_
  obtain ⟨n9, h⟩ := h
  refine X_sub (lv' := [(0, .ref (ga G 11 0)), (1, .int 0), (2, .int 0)]) [2, 1, 0] rfl ?_
  have hb : ∀ (L : Mem × Int32 × Int32 → Prop) (s : Mem × Int32 × Int32), (∀ t, L t → X Γ G Qf 5 0 0 9 [(0, .ref (ga G 11 0)), (1, .int t.2.1), (2, .int t.2.2)] [] t.1) → bX11_full_9 Q L s.1 s.2.1 s.2.2 → X Γ G Qf 5 0 0 9 [(0, .ref (ga G 11 0)), (1, .int s.2.1), (2, .int s.2.2)] [] s.1 := fun L s hL h => wX11_full_9 hG C E hL s.1 s.2.1 s.2.2 h
  have w9 := lp_walk (P := fun s : Mem × Int32 × Int32 => X Γ G Qf 5 0 0 9 [(0, .ref (ga G 11 0)), (1, .int s.2.1), (2, .int s.2.2)] [] s.1) h hb
  dsimp only at w9
  exact w9
