def rmX7_read : Room := { frames := 6, cells := 0, slots := 0, locals := 129 }
def bX7_read_37 (x2 : Int32) (Q : Int32 → Mem → Prop) (L14 : Mem × Int32 → Prop) (M : Mem) (y3 : Int32) (y4 : Int32) : Prop :=
  ((y4 = 0 → ∀ v13 : Int32, v13 = y3 + 1 → L14 (M, v13)) ∧ (¬ y4 = 0 → ∀ M14 : Mem, M14 = up1 M 802 0 0 y3 → Q y4 M14))
def bX7_read_14 (x2 : Int32) (Q : Int32 → Mem → Prop) (L14 : Mem × Int32 → Prop) (M : Mem) (y3 : Int32) : Prop :=
  ((x2 < y3 → ∀ M5 : Mem, M5 = up1 M 802 0 0 (-1) → Q 0 M5) ∧ (¬ x2 < y3 → ((x2 ≤ y3 → pX7_step M (-1) (fun r7 M8 => bX7_read_37 x2 Q L14 M8 y3 r7)) ∧ (¬ x2 ≤ y3 → vp_in y3 300 ∧ pX7_step M (M.1 1100 0 (tn y3)) (fun r10 M11 => bX7_read_37 x2 Q L14 M11 y3 r10)))))
def pX7_read (M : Mem) (x2 : Int32) (Q : Int32 → Mem → Prop) : Prop :=
  pX6_clear M (fun M2 => ∀ M3 : Mem, M3 = up1 M2 803 0 0 0 → ∃ n : Nat, lp (fun L s => bX7_read_14 x2 Q L s.1 s.2) n (M3, 0))
set_option maxRecDepth 100000 in
set_option maxHeartbeats 400000 in
theorem wX7_read_37 {Γ : Gam} {G : Gm} {Qf : State → Prop} (hG : Gd G) (C : Cx Γ G cX7_read 5 RX7 (some .int) rmX7_read) {x2 : Int32} {Q : Int32 → Mem → Prop} (E : EndI Γ G Qf rmX7_read Q) {L14 : Mem × Int32 → Prop} (hL14 : ∀ s, L14 s → X Γ G Qf 5 0 0 14 [(0, .ref (ga G 7 0)), (1, .ref (ga G 1100 0)), (2, .int x2), (3, .int s.2)] [] s.1) (M : Mem) (y3 : Int32) (y4 : Int32) (h : bX7_read_37 x2 Q L14 M y3 y4) : X Γ G Qf 5 0 0 37 [(0, .ref (ga G 7 0)), (1, .ref (ga G 1100 0)), (2, .int x2), (3, .int y3), (4, .int y4)] [] M := by
  unfold bX7_read_37 at h
  refine x_iload C dX7_read_37 4 rfl ?_
  refine x_if_eq (tgt := 50) C dX7_read_39 (by decide) (fun c12 => ?_) (fun c12 => ?_)
  · replace h := h.1 c12
    obtain ⟨v13, ev13⟩ : ∃ z : Int32, z = y3 + 1 := ⟨_, rfl⟩
    replace h := h v13 ev13
    refine x_iinc (v := v13) (lv' := [(3, .int v13), (0, .ref (ga G 7 0)), (1, .ref (ga G 1100 0)), (2, .int x2), (4, .int y4)]) (j := 3) C dX7_read_50 rfl (by rw [ev13]; rfl) (Nat.le_of_ble_eq_true rfl) rfl ?_
    refine x_goto (tgt := 14) C dX7_read_53 (by decide) ?_
    refine X_sub (lv' := [(0, .ref (ga G 7 0)), (1, .ref (ga G 1100 0)), (2, .int x2), (3, .int v13)]) [1, 2, 3, 0] rfl ?_
    have w9 := hL14 (M, v13) h
    dsimp only at w9
    exact w9
  · replace h := h.2 c12
    refine x_aload_n C dX7_read_42 0 rfl ?_
    refine x_iload_n C dX7_read_43 3 rfl ?_
    refine pf_7_2 C q123 z7 dX7_read_44 ?_
    refine X_nameM (fun M14 eM14 => ?_)
    replace h := h M14 eM14
    refine x_iload C dX7_read_47 4 rfl ?_
    exact x_iret C E h (Nat.le_of_ble_eq_true rfl) (Nat.le_of_ble_eq_true rfl) dX7_read_49
set_option maxRecDepth 100000 in
set_option maxHeartbeats 400000 in
theorem wX7_read_14 {Γ : Gam} {G : Gm} {Qf : State → Prop} (hG : Gd G) (C : Cx Γ G cX7_read 5 RX7 (some .int) rmX7_read) {x2 : Int32} {Q : Int32 → Mem → Prop} (E : EndI Γ G Qf rmX7_read Q) {L14 : Mem × Int32 → Prop} (hL14 : ∀ s, L14 s → X Γ G Qf 5 0 0 14 [(0, .ref (ga G 7 0)), (1, .ref (ga G 1100 0)), (2, .int x2), (3, .int s.2)] [] s.1) (M : Mem) (y3 : Int32) (h : bX7_read_14 x2 Q L14 M y3) : X Γ G Qf 5 0 0 14 [(0, .ref (ga G 7 0)), (1, .ref (ga G 1100 0)), (2, .int x2), (3, .int y3)] [] M := by
  unfold bX7_read_14 at h
  refine x_iload_n C dX7_read_14 3 rfl ?_
  refine x_iload_n C dX7_read_15 2 rfl ?_
  refine x_icmp_gt (tgt := 56) C dX7_read_16 (by decide) (fun c4 => ?_) (fun c4 => ?_)
  · replace h := h.1 c4
    refine x_aload_n C dX7_read_56 0 rfl ?_
    refine x_iconst (v := (-1)) C dX7_read_57 rfl ?_
    refine pf_7_2 C q123 z7 dX7_read_58 ?_
    refine X_nameM (fun M5 eM5 => ?_)
    replace h := h M5 eM5
    refine x_iconst (v := 0) C dX7_read_61 rfl ?_
    exact x_iret C E h (Nat.le_of_ble_eq_true rfl) (Nat.le_of_ble_eq_true rfl) dX7_read_62
  · replace h := h.2 c4
    refine x_aload_n C dX7_read_19 0 rfl ?_
    refine x_iload_n C dX7_read_20 3 rfl ?_
    refine x_iload_n C dX7_read_21 2 rfl ?_
    refine x_icmp_ge (tgt := 31) C dX7_read_22 (by decide) (fun c6 => ?_) (fun c6 => ?_)
    · replace h := h.1 c6
      refine x_iconst (v := (-1)) C dX7_read_31 rfl ?_
      refine x_calli (rest := []) C sv_X7_42 ob7 z7 (kX7_step hG _ _ h) rfl rfl (Nat.le_of_ble_eq_true rfl) ⟨Nat.le_of_ble_eq_true rfl, Nat.le_of_ble_eq_true rfl⟩ rfl rfl ⟨Nat.le_of_ble_eq_true rfl, Nat.le_of_ble_eq_true rfl⟩ dX7_read_32 (fun r7 M8 h => ?_)
      refine x_istore (lv' := [(4, .int r7), (0, .ref (ga G 7 0)), (1, .ref (ga G 1100 0)), (2, .int x2), (3, .int y3)]) C dX7_read_35 (Nat.le_of_ble_eq_true rfl) rfl ?_
      refine X_sub (lv' := [(0, .ref (ga G 7 0)), (1, .ref (ga G 1100 0)), (2, .int x2), (3, .int y3), (4, .int r7)]) [1, 2, 3, 4, 0] rfl ?_
      exact wX7_read_37 hG C E hL14 M8 y3 r7 h
    · replace h := h.2 c6
      refine x_aload_n C dX7_read_25 1 rfl ?_
      refine x_iload_n C dX7_read_26 3 rfl ?_
      obtain ⟨f9, h⟩ := h
      refine al_1100 C z1100 f9 dX7_read_27 ?_
      refine x_goto (tgt := 32) C dX7_read_28 (by decide) ?_
      refine x_calli (rest := []) C sv_X7_42 ob7 z7 (kX7_step hG _ _ h) rfl rfl (Nat.le_of_ble_eq_true rfl) ⟨Nat.le_of_ble_eq_true rfl, Nat.le_of_ble_eq_true rfl⟩ rfl rfl ⟨Nat.le_of_ble_eq_true rfl, Nat.le_of_ble_eq_true rfl⟩ dX7_read_32 (fun r10 M11 h => ?_)
      refine x_istore (lv' := [(4, .int r10), (0, .ref (ga G 7 0)), (1, .ref (ga G 1100 0)), (2, .int x2), (3, .int y3)]) C dX7_read_35 (Nat.le_of_ble_eq_true rfl) rfl ?_
      refine X_sub (lv' := [(0, .ref (ga G 7 0)), (1, .ref (ga G 1100 0)), (2, .int x2), (3, .int y3), (4, .int r10)]) [1, 2, 3, 4, 0] rfl ?_
      exact wX7_read_37 hG C E hL14 M11 y3 r10 h
set_option maxRecDepth 100000 in
set_option maxHeartbeats 400000 in
theorem kX7_read {l : Launch} {G : Gm} (hG : Gd G) (M : Mem) (x2 : Int32) {Q : Int32 → Mem → Prop} (h : pX7_read M x2 Q) : Cti l G yX7_read cX7_read 5 .int rmX7_read [.ref (ga G 7 0), .ref (ga G 1100 0), .int x2] M Q := by
  refine cti_of (own := RX7) (by decide +kernel) rfl (Nat.le_of_ble_eq_true rfl) hG (fun Γ Qf hl C E => ?_)
  subst hl
  show X Γ G Qf 5 0 0 0 [(0, .ref (ga G 7 0)), (1, .ref (ga G 1100 0)), (2, .int x2)] [] M
  unfold pX7_read at h
  refine x_aload_n C dX7_read_0 0 rfl ?_
  refine gf_7_1 C q120 z7 dX7_read_1 ?_
  refine x_callv (rest := []) C sv_X7_39 ob6 z6_1 (kX6_clear hG _ h) rfl rfl (Nat.le_of_ble_eq_true rfl) ⟨Nat.le_of_ble_eq_true rfl, Nat.le_of_ble_eq_true rfl⟩ rfl rfl ⟨Nat.le_of_ble_eq_true rfl, Nat.le_of_ble_eq_true rfl⟩ dX7_read_4 (fun M2 h => ?_)
  refine x_aload_n C dX7_read_7 0 rfl ?_
  refine x_iconst (v := 0) C dX7_read_8 rfl ?_
  refine pf_7_3 C q117 z7 dX7_read_9 ?_
  refine X_nameM (fun M3 eM3 => ?_)
  replace h := h M3 eM3
  refine x_iconst (v := 0) C dX7_read_12 rfl ?_
  refine x_istore_n (lv' := [(3, .int 0), (0, .ref (ga G 7 0)), (1, .ref (ga G 1100 0)), (2, .int x2)]) C dX7_read_13 rfl (Nat.le_of_ble_eq_true rfl) rfl ?_
  obtain ⟨n9, h⟩ := h
  refine X_sub (lv' := [(0, .ref (ga G 7 0)), (1, .ref (ga G 1100 0)), (2, .int x2), (3, .int 0)]) [1, 2, 3, 0] rfl ?_
  have hb : ∀ (L : Mem × Int32 → Prop) (s : Mem × Int32), (∀ t, L t → X Γ G Qf 5 0 0 14 [(0, .ref (ga G 7 0)), (1, .ref (ga G 1100 0)), (2, .int x2), (3, .int t.2)] [] t.1) → bX7_read_14 x2 Q L s.1 s.2 → X Γ G Qf 5 0 0 14 [(0, .ref (ga G 7 0)), (1, .ref (ga G 1100 0)), (2, .int x2), (3, .int s.2)] [] s.1 := fun L s hL h => wX7_read_14 hG C E hL s.1 s.2 h
  have w9 := lp_walk (P := fun s : Mem × Int32 => X Γ G Qf 5 0 0 14 [(0, .ref (ga G 7 0)), (1, .ref (ga G 1100 0)), (2, .int x2), (3, .int s.2)] [] s.1) h hb
  dsimp only at w9
  exact w9
def rmX8_insert : Room := { frames := 0, cells := 0, slots := 0, locals := 0 }
def bX8_insert_55 (i : Nat) (x1 : Int32) (x2 : Int32) (Q : Mem → Prop) (M : Mem) (y3 : Int32) : Prop :=
  vp_in y3 64 ∧ ∀ M10 : Mem, M10 = up1 M 902 i (tn y3) x1 → ∀ M11 : Mem, M11 = up1 M10 903 i (tn y3) x2 → ∀ M12 : Mem, M12 = up1 M11 904 i 0 ((M11.1 904 i 0) + 1) → Q M12
def bX8_insert_5 (i : Nat) (x1 : Int32) (x2 : Int32) (Q : Mem → Prop) (L5 : Mem × Int32 → Prop) (M : Mem) (y3 : Int32) : Prop :=
  ((y3 ≤ 0 → bX8_insert_55 i x1 x2 Q M y3) ∧ (¬ y3 ≤ 0 → vp_in (y3 - 1) 64 ∧ ((x2 ≤ (M.1 903 i (tn (y3 - 1))) → bX8_insert_55 i x1 x2 Q M y3) ∧ (¬ x2 ≤ (M.1 903 i (tn (y3 - 1))) → vp_in y3 64 ∧ ∀ M6 : Mem, M6 = up1 M 902 i (tn y3) (M.1 902 i (tn (y3 - 1))) → ∀ M7 : Mem, M7 = up1 M6 903 i (tn y3) (M6.1 903 i (tn (y3 - 1))) → ∀ v8 : Int32, v8 = y3 + (-1) → L5 (M7, v8)))))
def pX8_insert (i : Nat) (M : Mem) (x1 : Int32) (x2 : Int32) (Q : Mem → Prop) : Prop :=
  ∀ v1 : Int32, v1 = (M.1 904 i 0) → ∃ n : Nat, lp (fun L s => bX8_insert_5 i x1 x2 Q L s.1 s.2) n (M, v1)
set_option maxRecDepth 100000 in
set_option maxHeartbeats 400000 in
theorem wX8_insert_55 {Γ : Gam} {G : Gm} {Qf : State → Prop} (hG : Gd G) (C : Cx Γ G cX8_insert 4 RX8 none rmX8_insert) {i : Nat} (hi : i < 2) {x1 : Int32} {x2 : Int32} {Q : Mem → Prop} (E : EndV Γ G Qf rmX8_insert Q) (M : Mem) (y3 : Int32) (h : bX8_insert_55 i x1 x2 Q M y3) : X Γ G Qf 4 0 0 55 [(0, .ref (ga G 8 i)), (1, .int x1), (2, .int x2), (3, .int y3)] [] M := by
  unfold bX8_insert_55 at h
  refine x_aload_n C dX8_insert_55 0 rfl ?_
  refine gf_8_2 C q126 hi dX8_insert_56 ?_
  refine x_iload_n C dX8_insert_59 3 rfl ?_
  refine x_iload_n C dX8_insert_60 1 rfl ?_
  obtain ⟨f9, h⟩ := h
  refine as_902 C hi f9 dX8_insert_61 ?_
  refine X_nameM (fun M10 eM10 => ?_)
  replace h := h M10 eM10
  refine x_aload_n C dX8_insert_62 0 rfl ?_
  refine gf_8_3 C q125 hi dX8_insert_63 ?_
  refine x_iload_n C dX8_insert_66 3 rfl ?_
  refine x_iload_n C dX8_insert_67 2 rfl ?_
  refine as_903 C hi f9 dX8_insert_68 ?_
  refine X_nameM (fun M11 eM11 => ?_)
  replace h := h M11 eM11
  refine x_aload_n C dX8_insert_69 0 rfl ?_
  refine x_dup C dX8_insert_70 rfl ?_
  refine gf_8_4 C q124 hi dX8_insert_71 ?_
  refine x_iconst (v := 1) C dX8_insert_74 rfl ?_
  refine x_iadd C dX8_insert_75 ?_
  refine pf_8_4 C q124 hi dX8_insert_76 ?_
  refine X_nameM (fun M12 eM12 => ?_)
  replace h := h M12 eM12
  exact x_vret C E h (Nat.le_of_ble_eq_true rfl) (Nat.le_of_ble_eq_true rfl) dX8_insert_79
set_option maxRecDepth 100000 in
set_option maxHeartbeats 400000 in
theorem wX8_insert_5 {Γ : Gam} {G : Gm} {Qf : State → Prop} (hG : Gd G) (C : Cx Γ G cX8_insert 4 RX8 none rmX8_insert) {i : Nat} (hi : i < 2) {x1 : Int32} {x2 : Int32} {Q : Mem → Prop} (E : EndV Γ G Qf rmX8_insert Q) {L5 : Mem × Int32 → Prop} (hL5 : ∀ s, L5 s → X Γ G Qf 4 0 0 5 [(0, .ref (ga G 8 i)), (1, .int x1), (2, .int x2), (3, .int s.2)] [] s.1) (M : Mem) (y3 : Int32) (h : bX8_insert_5 i x1 x2 Q L5 M y3) : X Γ G Qf 4 0 0 5 [(0, .ref (ga G 8 i)), (1, .int x1), (2, .int x2), (3, .int y3)] [] M := by
  unfold bX8_insert_5 at h
  refine x_iload_n C dX8_insert_5 3 rfl ?_
  refine x_if_le (tgt := 55) C dX8_insert_6 (by decide) (fun c2 => ?_) (fun c2 => ?_)
  · replace h := h.1 c2
    refine X_sub (lv' := [(0, .ref (ga G 8 i)), (1, .int x1), (2, .int x2), (3, .int y3)]) [0, 1, 2, 3] rfl ?_
    exact wX8_insert_55 hG C hi E M y3 h
  · replace h := h.2 c2
    refine x_aload_n C dX8_insert_9 0 rfl ?_
    refine gf_8_3 C q125 hi dX8_insert_10 ?_
    refine x_iload_n C dX8_insert_13 3 rfl ?_
    refine x_iconst (v := 1) C dX8_insert_14 rfl ?_
    refine x_isub C dX8_insert_15 ?_
    obtain ⟨f3, h⟩ := h
    refine al_903 C hi f3 dX8_insert_16 ?_
    refine x_iload_n C dX8_insert_17 2 rfl ?_
    refine x_icmp_ge (tgt := 55) C dX8_insert_18 (by decide) (fun c4 => ?_) (fun c4 => ?_)
    · replace h := h.1 c4
      refine X_sub (lv' := [(0, .ref (ga G 8 i)), (1, .int x1), (2, .int x2), (3, .int y3)]) [0, 1, 2, 3] rfl ?_
      exact wX8_insert_55 hG C hi E M y3 h
    · replace h := h.2 c4
      refine x_aload_n C dX8_insert_21 0 rfl ?_
      refine gf_8_2 C q126 hi dX8_insert_22 ?_
      refine x_iload_n C dX8_insert_25 3 rfl ?_
      refine x_aload_n C dX8_insert_26 0 rfl ?_
      refine gf_8_2 C q126 hi dX8_insert_27 ?_
      refine x_iload_n C dX8_insert_30 3 rfl ?_
      refine x_iconst (v := 1) C dX8_insert_31 rfl ?_
      refine x_isub C dX8_insert_32 ?_
      refine al_902 C hi f3 dX8_insert_33 ?_
      obtain ⟨f5, h⟩ := h
      refine as_902 C hi f5 dX8_insert_34 ?_
      refine X_nameM (fun M6 eM6 => ?_)
      replace h := h M6 eM6
      refine x_aload_n C dX8_insert_35 0 rfl ?_
      refine gf_8_3 C q125 hi dX8_insert_36 ?_
      refine x_iload_n C dX8_insert_39 3 rfl ?_
      refine x_aload_n C dX8_insert_40 0 rfl ?_
      refine gf_8_3 C q125 hi dX8_insert_41 ?_
      refine x_iload_n C dX8_insert_44 3 rfl ?_
      refine x_iconst (v := 1) C dX8_insert_45 rfl ?_
      refine x_isub C dX8_insert_46 ?_
      refine al_903 C hi f3 dX8_insert_47 ?_
      refine as_903 C hi f5 dX8_insert_48 ?_
      refine X_nameM (fun M7 eM7 => ?_)
      replace h := h M7 eM7
      obtain ⟨v8, ev8⟩ : ∃ z : Int32, z = y3 + (-1) := ⟨_, rfl⟩
      replace h := h v8 ev8
      refine x_iinc (v := v8) (lv' := [(3, .int v8), (0, .ref (ga G 8 i)), (1, .int x1), (2, .int x2)]) (j := 3) C dX8_insert_49 rfl (by rw [ev8]; rfl) (Nat.le_of_ble_eq_true rfl) rfl ?_
      refine x_goto (tgt := 5) C dX8_insert_52 (by decide) ?_
      refine X_sub (lv' := [(0, .ref (ga G 8 i)), (1, .int x1), (2, .int x2), (3, .int v8)]) [1, 2, 3, 0] rfl ?_
      have w9 := hL5 (M7, v8) h
      dsimp only at w9
      exact w9
set_option maxRecDepth 100000 in
set_option maxHeartbeats 400000 in
theorem kX8_insert {l : Launch} {G : Gm} (hG : Gd G) {i : Nat} (hi : i < 2) (M : Mem) (x1 : Int32) (x2 : Int32) {Q : Mem → Prop} (h : pX8_insert i M x1 x2 Q) : Ctv l G yX8_insert cX8_insert 4 rmX8_insert [.ref (ga G 8 i), .int x1, .int x2] M Q := by
  refine ctv_of (own := RX8) (by decide +kernel) rfl (Nat.le_of_ble_eq_true rfl) hG (fun Γ Qf hl C E => ?_)
  subst hl
  show X Γ G Qf 4 0 0 0 [(0, .ref (ga G 8 i)), (1, .int x1), (2, .int x2)] [] M
  unfold pX8_insert at h
  refine x_aload_n C dX8_insert_0 0 rfl ?_
  refine gf_8_4 C q124 hi dX8_insert_1 ?_
  refine X_name (fun v1 ev1 => ?_)
  replace h := h v1 ev1
  refine x_istore_n (lv' := [(3, .int v1), (0, .ref (ga G 8 i)), (1, .int x1), (2, .int x2)]) C dX8_insert_4 rfl (Nat.le_of_ble_eq_true rfl) rfl ?_
  obtain ⟨n9, h⟩ := h
  refine X_sub (lv' := [(0, .ref (ga G 8 i)), (1, .int x1), (2, .int x2), (3, .int v1)]) [1, 2, 3, 0] rfl ?_
  have hb : ∀ (L : Mem × Int32 → Prop) (s : Mem × Int32), (∀ t, L t → X Γ G Qf 4 0 0 5 [(0, .ref (ga G 8 i)), (1, .int x1), (2, .int x2), (3, .int t.2)] [] t.1) → bX8_insert_5 i x1 x2 Q L s.1 s.2 → X Γ G Qf 4 0 0 5 [(0, .ref (ga G 8 i)), (1, .int x1), (2, .int x2), (3, .int s.2)] [] s.1 := fun L s hL h => wX8_insert_5 hG C hi E hL s.1 s.2 h
  have w9 := lp_walk (P := fun s : Mem × Int32 => X Γ G Qf 4 0 0 5 [(0, .ref (ga G 8 i)), (1, .int x1), (2, .int x2), (3, .int s.2)] [] s.1) h hb
  dsimp only at w9
  exact w9
def rmX8_rank : Room := { frames := 4, cells := 0, slots := 0, locals := 92 }
def bX8_rank_55 (i : Nat) (x1 : Int32) (Q : Mem → Prop) (L7 : Mem × Int32 → Prop) (M : Mem) (y2 : Int32) : Prop :=
  ∀ v13 : Int32, v13 = y2 + 1 → L7 (M, v13)
def bX8_rank_7 (i : Nat) (x1 : Int32) (Q : Mem → Prop) (L7 : Mem × Int32 → Prop) (M : Mem) (y2 : Int32) : Prop :=
  (((M.1 504 0 0) ≤ y2 → Q M) ∧ (¬ (M.1 504 0 0) ≤ y2 → pX4_holds M y2 (fun r3 M4 => ((r3 = 0 → bX8_rank_55 i x1 Q L7 M4 y2) ∧ (¬ r3 = 0 → pX3_whyNot M4 y2 x1 (fun r6 M7 => ((¬ r6 = 0 → bX8_rank_55 i x1 Q L7 M7 y2) ∧ (r6 = 0 → pX3_total M7 y2 x1 (fun r9 M10 => pX8_insert i M10 y2 r9 (fun M12 => bX8_rank_55 i x1 Q L7 M12 y2))))))))))
def pX8_rank (i : Nat) (M : Mem) (x1 : Int32) (Q : Mem → Prop) : Prop :=
  ∀ M1 : Mem, M1 = up1 M 904 i 0 0 → ∃ n : Nat, lp (fun L s => bX8_rank_7 i x1 Q L s.1 s.2) n (M1, 0)
set_option maxRecDepth 100000 in
set_option maxHeartbeats 400000 in
theorem wX8_rank_55 {Γ : Gam} {G : Gm} {Qf : State → Prop} (hG : Gd G) (C : Cx Γ G cX8_rank 3 RX8 none rmX8_rank) {i : Nat} (hi : i < 2) {x1 : Int32} {Q : Mem → Prop} (E : EndV Γ G Qf rmX8_rank Q) {L7 : Mem × Int32 → Prop} (hL7 : ∀ s, L7 s → X Γ G Qf 3 0 0 7 [(0, .ref (ga G 8 i)), (1, .int x1), (2, .int s.2)] [] s.1) (M : Mem) (y2 : Int32) (h : bX8_rank_55 i x1 Q L7 M y2) : X Γ G Qf 3 0 0 55 [(0, .ref (ga G 8 i)), (1, .int x1), (2, .int y2)] [] M := by
  unfold bX8_rank_55 at h
  obtain ⟨v13, ev13⟩ : ∃ z : Int32, z = y2 + 1 := ⟨_, rfl⟩
  replace h := h v13 ev13
  refine x_iinc (v := v13) (lv' := [(2, .int v13), (0, .ref (ga G 8 i)), (1, .int x1)]) (j := 2) C dX8_rank_55 rfl (by rw [ev13]; rfl) (Nat.le_of_ble_eq_true rfl) rfl ?_
  refine x_goto (tgt := 7) C dX8_rank_58 (by decide) ?_
  refine X_sub (lv' := [(0, .ref (ga G 8 i)), (1, .int x1), (2, .int v13)]) [1, 2, 0] rfl ?_
  have w9 := hL7 (M, v13) h
  dsimp only at w9
  exact w9
set_option maxRecDepth 100000 in
set_option maxHeartbeats 400000 in
theorem wX8_rank_7 {Γ : Gam} {G : Gm} {Qf : State → Prop} (hG : Gd G) (C : Cx Γ G cX8_rank 3 RX8 none rmX8_rank) {i : Nat} (hi : i < 2) {x1 : Int32} {Q : Mem → Prop} (E : EndV Γ G Qf rmX8_rank Q) {L7 : Mem × Int32 → Prop} (hL7 : ∀ s, L7 s → X Γ G Qf 3 0 0 7 [(0, .ref (ga G 8 i)), (1, .int x1), (2, .int s.2)] [] s.1) (M : Mem) (y2 : Int32) (h : bX8_rank_7 i x1 Q L7 M y2) : X Γ G Qf 3 0 0 7 [(0, .ref (ga G 8 i)), (1, .int x1), (2, .int y2)] [] M := by
  unfold bX8_rank_7 at h
  refine x_iload_n C dX8_rank_7 2 rfl ?_
  refine x_aload_n C dX8_rank_8 0 rfl ?_
  refine gf_8_0 C q127 hi dX8_rank_9 ?_
  refine gf_4_4 C q128 z4 dX8_rank_12 ?_
  refine x_icmp_ge (tgt := 61) C dX8_rank_15 (by decide) (fun c2 => ?_) (fun c2 => ?_)
  · replace h := h.1 c2
    exact x_vret C E h (Nat.le_of_ble_eq_true rfl) (Nat.le_of_ble_eq_true rfl) dX8_rank_61
  · replace h := h.2 c2
    refine x_aload_n C dX8_rank_18 0 rfl ?_
    refine gf_8_0 C q127 hi dX8_rank_19 ?_
    refine x_iload_n C dX8_rank_22 2 rfl ?_
    refine x_calli (rest := []) C sv_X8_35 ob4 z4 (kX4_holds hG _ _ h) rfl rfl (Nat.le_of_ble_eq_true rfl) ⟨Nat.le_of_ble_eq_true rfl, Nat.le_of_ble_eq_true rfl⟩ rfl rfl ⟨Nat.le_of_ble_eq_true rfl, Nat.le_of_ble_eq_true rfl⟩ dX8_rank_23 (fun r3 M4 h => ?_)
    refine x_if_eq (tgt := 55) C dX8_rank_26 (by decide) (fun c5 => ?_) (fun c5 => ?_)
    · replace h := h.1 c5
      refine X_sub (lv' := [(0, .ref (ga G 8 i)), (1, .int x1), (2, .int y2)]) [0, 1, 2] rfl ?_
      exact wX8_rank_55 hG C hi E hL7 M4 y2 h
    · replace h := h.2 c5
      refine x_aload_n C dX8_rank_29 0 rfl ?_
      refine gf_8_1 C q129 hi dX8_rank_30 ?_
      refine x_iload_n C dX8_rank_33 2 rfl ?_
      refine x_iload_n C dX8_rank_34 1 rfl ?_
      refine x_calli (rest := []) C sv_X8_39 ob3 z3 (kX3_whyNot hG _ _ _ h) rfl rfl (Nat.le_of_ble_eq_true rfl) ⟨Nat.le_of_ble_eq_true rfl, Nat.le_of_ble_eq_true rfl⟩ rfl rfl ⟨Nat.le_of_ble_eq_true rfl, Nat.le_of_ble_eq_true rfl⟩ dX8_rank_35 (fun r6 M7 h => ?_)
      refine x_if_ne (tgt := 55) C dX8_rank_38 (by decide) (fun c8 => ?_) (fun c8 => ?_)
      · replace h := h.1 c8
        refine X_sub (lv' := [(0, .ref (ga G 8 i)), (1, .int x1), (2, .int y2)]) [0, 1, 2] rfl ?_
        exact wX8_rank_55 hG C hi E hL7 M7 y2 h
      · replace h := h.2 c8
        refine x_aload_n C dX8_rank_41 0 rfl ?_
        refine x_iload_n C dX8_rank_42 2 rfl ?_
        refine x_aload_n C dX8_rank_43 0 rfl ?_
        refine gf_8_1 C q129 hi dX8_rank_44 ?_
        refine x_iload_n C dX8_rank_47 2 rfl ?_
        refine x_iload_n C dX8_rank_48 1 rfl ?_
        refine x_calli (rest := [.int y2, .ref (ga G 8 i)]) C sv_X8_45 ob3 z3 (kX3_total hG _ _ _ h) rfl rfl (Nat.le_of_ble_eq_true rfl) ⟨Nat.le_of_ble_eq_true rfl, Nat.le_of_ble_eq_true rfl⟩ rfl rfl ⟨Nat.le_of_ble_eq_true rfl, Nat.le_of_ble_eq_true rfl⟩ dX8_rank_49 (fun r9 M10 h => ?_)
        refine x_callv (rest := []) C sv_X8_48 ob8 hi (kX8_insert hG hi _ _ _ h) rfl rfl (Nat.le_of_ble_eq_true rfl) ⟨Nat.le_of_ble_eq_true rfl, Nat.le_of_ble_eq_true rfl⟩ rfl rfl ⟨Nat.le_of_ble_eq_true rfl, Nat.le_of_ble_eq_true rfl⟩ dX8_rank_52 (fun M12 h => ?_)
        refine X_sub (lv' := [(0, .ref (ga G 8 i)), (1, .int x1), (2, .int y2)]) [0, 1, 2] rfl ?_
        exact wX8_rank_55 hG C hi E hL7 M12 y2 h
set_option maxRecDepth 100000 in
set_option maxHeartbeats 400000 in
theorem kX8_rank {l : Launch} {G : Gm} (hG : Gd G) {i : Nat} (hi : i < 2) (M : Mem) (x1 : Int32) {Q : Mem → Prop} (h : pX8_rank i M x1 Q) : Ctv l G yX8_rank cX8_rank 3 rmX8_rank [.ref (ga G 8 i), .int x1] M Q := by
  refine ctv_of (own := RX8) (by decide +kernel) rfl (Nat.le_of_ble_eq_true rfl) hG (fun Γ Qf hl C E => ?_)
  subst hl
  show X Γ G Qf 3 0 0 0 [(0, .ref (ga G 8 i)), (1, .int x1)] [] M
  unfold pX8_rank at h
  refine x_aload_n C dX8_rank_0 0 rfl ?_
  refine x_iconst (v := 0) C dX8_rank_1 rfl ?_
  refine pf_8_4 C q124 hi dX8_rank_2 ?_
  refine X_nameM (fun M1 eM1 => ?_)
  replace h := h M1 eM1
  refine x_iconst (v := 0) C dX8_rank_5 rfl ?_
  refine x_istore_n (lv' := [(2, .int 0), (0, .ref (ga G 8 i)), (1, .int x1)]) C dX8_rank_6 rfl (Nat.le_of_ble_eq_true rfl) rfl ?_
  obtain ⟨n9, h⟩ := h
  refine X_sub (lv' := [(0, .ref (ga G 8 i)), (1, .int x1), (2, .int 0)]) [1, 2, 0] rfl ?_
  have hb : ∀ (L : Mem × Int32 → Prop) (s : Mem × Int32), (∀ t, L t → X Γ G Qf 3 0 0 7 [(0, .ref (ga G 8 i)), (1, .int x1), (2, .int t.2)] [] t.1) → bX8_rank_7 i x1 Q L s.1 s.2 → X Γ G Qf 3 0 0 7 [(0, .ref (ga G 8 i)), (1, .int x1), (2, .int s.2)] [] s.1 := fun L s hL h => wX8_rank_7 hG C hi E hL s.1 s.2 h
  have w9 := lp_walk (P := fun s : Mem × Int32 => X Γ G Qf 3 0 0 7 [(0, .ref (ga G 8 i)), (1, .int x1), (2, .int s.2)] [] s.1) h hb
  dsimp only at w9
  exact w9
def rmX8_placeOf : Room := { frames := 0, cells := 0, slots := 0, locals := 0 }
def bX8_placeOf_2 (i : Nat) (x1 : Int32) (Q : Int32 → Mem → Prop) (L2 : Mem × Int32 → Prop) (M : Mem) (y2 : Int32) : Prop :=
  (((M.1 904 i 0) ≤ y2 → Q (-1) M) ∧ (¬ (M.1 904 i 0) ≤ y2 → vp_in y2 64 ∧ ((¬ (M.1 902 i (tn y2)) = x1 → ∀ v4 : Int32, v4 = y2 + 1 → L2 (M, v4)) ∧ ((M.1 902 i (tn y2)) = x1 → Q y2 M))))
def pX8_placeOf (i : Nat) (M : Mem) (x1 : Int32) (Q : Int32 → Mem → Prop) : Prop :=
  ∃ n : Nat, lp (fun L s => bX8_placeOf_2 i x1 Q L s.1 s.2) n (M, 0)
set_option maxRecDepth 100000 in
set_option maxHeartbeats 400000 in
theorem wX8_placeOf_2 {Γ : Gam} {G : Gm} {Qf : State → Prop} (hG : Gd G) (C : Cx Γ G cX8_placeOf 3 RX8 (some .int) rmX8_placeOf) {i : Nat} (hi : i < 2) {x1 : Int32} {Q : Int32 → Mem → Prop} (E : EndI Γ G Qf rmX8_placeOf Q) {L2 : Mem × Int32 → Prop} (hL2 : ∀ s, L2 s → X Γ G Qf 3 0 0 2 [(0, .ref (ga G 8 i)), (1, .int x1), (2, .int s.2)] [] s.1) (M : Mem) (y2 : Int32) (h : bX8_placeOf_2 i x1 Q L2 M y2) : X Γ G Qf 3 0 0 2 [(0, .ref (ga G 8 i)), (1, .int x1), (2, .int y2)] [] M := by
  unfold bX8_placeOf_2 at h
  refine x_iload_n C dX8_placeOf_2 2 rfl ?_
  refine x_aload_n C dX8_placeOf_3 0 rfl ?_
  refine gf_8_4 C q124 hi dX8_placeOf_4 ?_
  refine x_icmp_ge (tgt := 28) C dX8_placeOf_7 (by decide) (fun c1 => ?_) (fun c1 => ?_)
  · replace h := h.1 c1
    refine x_iconst (v := (-1)) C dX8_placeOf_28 rfl ?_
    exact x_iret C E h (Nat.le_of_ble_eq_true rfl) (Nat.le_of_ble_eq_true rfl) dX8_placeOf_29
  · replace h := h.2 c1
    refine x_aload_n C dX8_placeOf_10 0 rfl ?_
    refine gf_8_2 C q126 hi dX8_placeOf_11 ?_
    refine x_iload_n C dX8_placeOf_14 2 rfl ?_
    obtain ⟨f2, h⟩ := h
    refine al_902 C hi f2 dX8_placeOf_15 ?_
    refine x_iload_n C dX8_placeOf_16 1 rfl ?_
    refine x_icmp_ne (tgt := 22) C dX8_placeOf_17 (by decide) (fun c3 => ?_) (fun c3 => ?_)
    · replace h := h.1 c3
      obtain ⟨v4, ev4⟩ : ∃ z : Int32, z = y2 + 1 := ⟨_, rfl⟩
      replace h := h v4 ev4
      refine x_iinc (v := v4) (lv' := [(2, .int v4), (0, .ref (ga G 8 i)), (1, .int x1)]) (j := 2) C dX8_placeOf_22 rfl (by rw [ev4]; rfl) (Nat.le_of_ble_eq_true rfl) rfl ?_
      refine x_goto (tgt := 2) C dX8_placeOf_25 (by decide) ?_
      refine X_sub (lv' := [(0, .ref (ga G 8 i)), (1, .int x1), (2, .int v4)]) [1, 2, 0] rfl ?_
      have w9 := hL2 (M, v4) h
      dsimp only at w9
      exact w9
    · replace h := h.2 c3
      refine x_iload_n C dX8_placeOf_20 2 rfl ?_
      exact x_iret C E h (Nat.le_of_ble_eq_true rfl) (Nat.le_of_ble_eq_true rfl) dX8_placeOf_21
set_option maxRecDepth 100000 in
set_option maxHeartbeats 400000 in
theorem kX8_placeOf {l : Launch} {G : Gm} (hG : Gd G) {i : Nat} (hi : i < 2) (M : Mem) (x1 : Int32) {Q : Int32 → Mem → Prop} (h : pX8_placeOf i M x1 Q) : Cti l G yX8_placeOf cX8_placeOf 3 .int rmX8_placeOf [.ref (ga G 8 i), .int x1] M Q := by
  refine cti_of (own := RX8) (by decide +kernel) rfl (Nat.le_of_ble_eq_true rfl) hG (fun Γ Qf hl C E => ?_)
  subst hl
  show X Γ G Qf 3 0 0 0 [(0, .ref (ga G 8 i)), (1, .int x1)] [] M
  unfold pX8_placeOf at h
  refine x_iconst (v := 0) C dX8_placeOf_0 rfl ?_
  refine x_istore_n (lv' := [(2, .int 0), (0, .ref (ga G 8 i)), (1, .int x1)]) C dX8_placeOf_1 rfl (Nat.le_of_ble_eq_true rfl) rfl ?_
  obtain ⟨n9, h⟩ := h
  refine X_sub (lv' := [(0, .ref (ga G 8 i)), (1, .int x1), (2, .int 0)]) [1, 2, 0] rfl ?_
  have hb : ∀ (L : Mem × Int32 → Prop) (s : Mem × Int32), (∀ t, L t → X Γ G Qf 3 0 0 2 [(0, .ref (ga G 8 i)), (1, .int x1), (2, .int t.2)] [] t.1) → bX8_placeOf_2 i x1 Q L s.1 s.2 → X Γ G Qf 3 0 0 2 [(0, .ref (ga G 8 i)), (1, .int x1), (2, .int s.2)] [] s.1 := fun L s hL h => wX8_placeOf_2 hG C hi E hL s.1 s.2 h
  have w9 := lp_walk (P := fun s : Mem × Int32 => X Γ G Qf 3 0 0 2 [(0, .ref (ga G 8 i)), (1, .int x1), (2, .int s.2)] [] s.1) h hb
  dsimp only at w9
  exact w9
def rmX9_lettersOf : Room := { frames := 0, cells := 0, slots := 0, locals := 0 }
def bX9_lettersOf_9 (x1 : Int32) (Q : Int32 → Mem → Prop) (L9 : Mem × Int32 × Int64 → Prop) (M : Mem) (y2 : Int32) (y3 : Int64) : Prop :=
  (((lg_cmp y3 0) ≤ 0 → Q y2 M) ∧ (¬ (lg_cmp y3 0) ≤ 0 → ∀ v4 : Int32, v4 = y2 + 1 → ∀ v5 : Int64, v5 = (y3 / 32) → L9 (M, v4, v5)))
def pX9_lettersOf (M : Mem) (x1 : Int32) (Q : Int32 → Mem → Prop) : Prop :=
  vp_in x1 255 ∧ ∀ v2 : Int64, v2 = (M.2 1000 0 (tn x1)) → ∃ n : Nat, lp (fun L s => bX9_lettersOf_9 x1 Q L s.1 s.2.1 s.2.2) n (M, 0, v2)
set_option maxRecDepth 100000 in
set_option maxHeartbeats 400000 in
theorem wX9_lettersOf_9 {Γ : Gam} {G : Gm} {Qf : State → Prop} (hG : Gd G) (C : Cx Γ G cX9_lettersOf 5 RX9 (some .int) rmX9_lettersOf) {x1 : Int32} {Q : Int32 → Mem → Prop} (E : EndI Γ G Qf rmX9_lettersOf Q) {L9 : Mem × Int32 × Int64 → Prop} (hL9 : ∀ s, L9 s → X Γ G Qf 5 0 0 9 [(2, .int s.2.1), (3, .long s.2.2)] [] s.1) (M : Mem) (y2 : Int32) (y3 : Int64) (h : bX9_lettersOf_9 x1 Q L9 M y2 y3) : X Γ G Qf 5 0 0 9 [(2, .int y2), (3, .long y3)] [] M := by
  unfold bX9_lettersOf_9 at h
  refine x_lload_n C dX9_lettersOf_9 1 rfl ?_
  refine x_lconst (v := 0) C dX9_lettersOf_10 rfl ?_
  refine x_lcmp C dX9_lettersOf_11 ?_
  refine x_if_le (tgt := 27) C dX9_lettersOf_12 (by decide) (fun c3 => ?_) (fun c3 => ?_)
  · replace h := h.1 c3
    refine x_iload_n C dX9_lettersOf_27 0 rfl ?_
    exact x_iret C E h (Nat.le_of_ble_eq_true rfl) (Nat.le_of_ble_eq_true rfl) dX9_lettersOf_28
  · replace h := h.2 c3
    obtain ⟨v4, ev4⟩ : ∃ z : Int32, z = y2 + 1 := ⟨_, rfl⟩
    replace h := h v4 ev4
    refine x_iinc (v := v4) (lv' := [(2, .int v4), (3, .long y3)]) (j := 0) C dX9_lettersOf_15 rfl (by rw [ev4]; rfl) (Nat.le_of_ble_eq_true rfl) rfl ?_
    refine x_lload_n C dX9_lettersOf_18 1 rfl ?_
    refine x_ldc2 C q130 dX9_lettersOf_19 ?_
    refine x_ldiv C dX9_lettersOf_22 (by decide) ?_
    refine X_nameL (fun v5 ev5 => ?_)
    replace h := h v5 ev5
    refine x_lstore_n (lv' := [(3, .long v5), (2, .int v4)]) C dX9_lettersOf_23 rfl (Nat.le_of_ble_eq_true rfl) rfl ?_
    refine x_goto (tgt := 9) C dX9_lettersOf_24 (by decide) ?_
    refine X_sub (lv' := [(2, .int v4), (3, .long v5)]) [1, 0] rfl ?_
    have w9 := hL9 (M, v4, v5) h
    dsimp only at w9
    exact w9
set_option maxRecDepth 100000 in
set_option maxHeartbeats 400000 in
theorem kX9_lettersOf {l : Launch} {G : Gm} (hG : Gd G) (M : Mem) (x1 : Int32) {Q : Int32 → Mem → Prop} (h : pX9_lettersOf M x1 Q) : Cti l G yX9_lettersOf cX9_lettersOf 5 .int rmX9_lettersOf [.ref (ga G 9 0), .int x1] M Q := by
  refine cti_of (own := RX9) (by decide +kernel) rfl (Nat.le_of_ble_eq_true rfl) hG (fun Γ Qf hl C E => ?_)
  subst hl
  show X Γ G Qf 5 0 0 0 [(0, .ref (ga G 9 0)), (1, .int x1)] [] M
  unfold pX9_lettersOf at h
  refine x_iconst (v := 0) C dX9_lettersOf_0 rfl ?_
  refine x_istore_n (lv' := [(2, .int 0), (0, .ref (ga G 9 0)), (1, .int x1)]) C dX9_lettersOf_1 rfl (Nat.le_of_ble_eq_true rfl) rfl ?_
  refine x_aload_n C dX9_lettersOf_2 1 rfl ?_
  refine gf_9_0 C q42 z9 dX9_lettersOf_3 ?_
  refine x_iload_n C dX9_lettersOf_6 2 rfl ?_
  obtain ⟨f1, h⟩ := h
  refine al_1000 C z1000 f1 dX9_lettersOf_7 ?_
  refine X_nameL (fun v2 ev2 => ?_)
  replace h := h v2 ev2
  refine x_lstore_n (lv' := [(3, .long v2), (2, .int 0), (0, .ref (ga G 9 0)), (1, .int x1)]) C dX9_lettersOf_8 rfl (Nat.le_of_ble_eq_true rfl) rfl ?_
  obtain ⟨n9, h⟩ := h
  refine X_sub (lv' := [(2, .int 0), (3, .long v2)]) [1, 0] rfl ?_
  have hb : ∀ (L : Mem × Int32 × Int64 → Prop) (s : Mem × Int32 × Int64), (∀ t, L t → X Γ G Qf 5 0 0 9 [(2, .int t.2.1), (3, .long t.2.2)] [] t.1) → bX9_lettersOf_9 x1 Q L s.1 s.2.1 s.2.2 → X Γ G Qf 5 0 0 9 [(2, .int s.2.1), (3, .long s.2.2)] [] s.1 := fun L s hL h => wX9_lettersOf_9 hG C E hL s.1 s.2.1 s.2.2 h
  have w9 := lp_walk (P := fun s : Mem × Int32 × Int64 => X Γ G Qf 5 0 0 9 [(2, .int s.2.1), (3, .long s.2.2)] [] s.1) h hb
  dsimp only at w9
  exact w9
def rmX9_letterOf : Room := { frames := 1, cells := 0, slots := 0, locals := 24 }
def bX9_letterOf_30 (x1 : Int32) (x2 : Int32) (Q : Int32 → Mem → Prop) (L30 : Mem × Int64 × Int32 → Prop) (M : Mem) (y4 : Int64) (y6 : Int32) : Prop :=
  ((y6 ≤ x2 → Q ((Int64.toInt32 (y4 - y4 / 32 * 32)) - 1) M) ∧ (¬ y6 ≤ x2 → ∀ v9 : Int64, v9 = (y4 / 32) → ∀ v10 : Int32, v10 = y6 + (-1) → L30 (M, v9, v10)))
def pX9_letterOf (M : Mem) (x1 : Int32) (x2 : Int32) (Q : Int32 → Mem → Prop) : Prop :=
  pX9_lettersOf M x1 (fun r1 M2 => ((x2 < 0 → Q (-1) M2) ∧ (¬ x2 < 0 → ((x2 < r1 → vp_in x1 255 ∧ ∀ v6 : Int64, v6 = (M2.2 1000 0 (tn x1)) → ∀ v7 : Int32, v7 = (r1 - 1) → ∃ n : Nat, lp (fun L s => bX9_letterOf_30 x1 x2 Q L s.1 s.2.1 s.2.2) n (M2, v6, v7)) ∧ (¬ x2 < r1 → Q (-1) M2)))))
set_option maxRecDepth 100000 in
set_option maxHeartbeats 400000 in
theorem wX9_letterOf_30 {Γ : Gam} {G : Gm} {Qf : State → Prop} (hG : Gd G) (C : Cx Γ G cX9_letterOf 7 RX9 (some .int) rmX9_letterOf) {x1 : Int32} {x2 : Int32} {Q : Int32 → Mem → Prop} (E : EndI Γ G Qf rmX9_letterOf Q) {L30 : Mem × Int64 × Int32 → Prop} (hL30 : ∀ s, L30 s → X Γ G Qf 7 0 0 30 [(2, .int x2), (4, .long s.2.1), (6, .int s.2.2)] [] s.1) (M : Mem) (y4 : Int64) (y6 : Int32) (h : bX9_letterOf_30 x1 x2 Q L30 M y4 y6) : X Γ G Qf 7 0 0 30 [(2, .int x2), (4, .long y4), (6, .int y6)] [] M := by
  unfold bX9_letterOf_30 at h
  refine x_iload C dX9_letterOf_30 2 rfl ?_
  refine x_iload_n C dX9_letterOf_32 0 rfl ?_
  refine x_icmp_le (tgt := 50) C dX9_letterOf_33 (by decide) (fun c8 => ?_) (fun c8 => ?_)
  · replace h := h.1 c8
    refine x_lload C dX9_letterOf_50 1 rfl ?_
    refine x_ldc2 C q130 dX9_letterOf_52 ?_
    refine x_lrem C dX9_letterOf_55 (by decide) ?_
    refine x_l2i C dX9_letterOf_56 ?_
    refine x_iconst (v := 1) C dX9_letterOf_57 rfl ?_
    refine x_isub C dX9_letterOf_58 ?_
    exact x_iret C E h (Nat.le_of_ble_eq_true rfl) (Nat.le_of_ble_eq_true rfl) dX9_letterOf_59
  · replace h := h.2 c8
    refine x_lload C dX9_letterOf_36 1 rfl ?_
    refine x_ldc2 C q130 dX9_letterOf_38 ?_
    refine x_ldiv C dX9_letterOf_41 (by decide) ?_
    refine X_nameL (fun v9 ev9 => ?_)
    replace h := h v9 ev9
    refine x_lstore (lv' := [(4, .long v9), (2, .int x2), (6, .int y6)]) C dX9_letterOf_42 (Nat.le_of_ble_eq_true rfl) rfl ?_
    obtain ⟨v10, ev10⟩ : ∃ z : Int32, z = y6 + (-1) := ⟨_, rfl⟩
    replace h := h v10 ev10
    refine x_iinc (v := v10) (lv' := [(6, .int v10), (4, .long v9), (2, .int x2)]) (j := 2) C dX9_letterOf_44 rfl (by rw [ev10]; rfl) (Nat.le_of_ble_eq_true rfl) rfl ?_
    refine x_goto (tgt := 30) C dX9_letterOf_47 (by decide) ?_
    refine X_sub (lv' := [(2, .int x2), (4, .long v9), (6, .int v10)]) [2, 1, 0] rfl ?_
    have w9 := hL30 (M, v9, v10) h
    dsimp only at w9
    exact w9
set_option maxRecDepth 100000 in
set_option maxHeartbeats 400000 in
theorem kX9_letterOf {l : Launch} {G : Gm} (hG : Gd G) (M : Mem) (x1 : Int32) (x2 : Int32) {Q : Int32 → Mem → Prop} (h : pX9_letterOf M x1 x2 Q) : Cti l G yX9_letterOf cX9_letterOf 7 .int rmX9_letterOf [.ref (ga G 9 0), .int x1, .int x2] M Q := by
  refine cti_of (own := RX9) (by decide +kernel) rfl (Nat.le_of_ble_eq_true rfl) hG (fun Γ Qf hl C E => ?_)
  subst hl
  show X Γ G Qf 7 0 0 0 [(0, .ref (ga G 9 0)), (1, .int x1), (2, .int x2)] [] M
  unfold pX9_letterOf at h
  refine x_aload_n C dX9_letterOf_0 0 rfl ?_
  refine x_iload_n C dX9_letterOf_1 1 rfl ?_
  refine x_calli (rest := []) C sv_X9_25 ob9 z9 (kX9_lettersOf hG _ _ h) rfl rfl (Nat.le_of_ble_eq_true rfl) ⟨Nat.le_of_ble_eq_true rfl, Nat.le_of_ble_eq_true rfl⟩ rfl rfl ⟨Nat.le_of_ble_eq_true rfl, Nat.le_of_ble_eq_true rfl⟩ dX9_letterOf_2 (fun r1 M2 h => ?_)
  refine x_istore_n (lv' := [(3, .int r1), (0, .ref (ga G 9 0)), (1, .int x1), (2, .int x2)]) C dX9_letterOf_5 rfl (Nat.le_of_ble_eq_true rfl) rfl ?_
  refine x_iload_n C dX9_letterOf_6 3 rfl ?_
  refine x_if_lt (tgt := 15) C dX9_letterOf_7 (by decide) (fun c3 => ?_) (fun c3 => ?_)
  · replace h := h.1 c3
    refine x_iconst (v := (-1)) C dX9_letterOf_15 rfl ?_
    exact x_iret C E h (Nat.le_of_ble_eq_true rfl) (Nat.le_of_ble_eq_true rfl) dX9_letterOf_16
  · replace h := h.2 c3
    refine x_iload_n C dX9_letterOf_10 3 rfl ?_
    refine x_iload_n C dX9_letterOf_11 0 rfl ?_
    refine x_icmp_lt (tgt := 17) C dX9_letterOf_12 (by decide) (fun c4 => ?_) (fun c4 => ?_)
    · replace h := h.1 c4
      refine x_aload_n C dX9_letterOf_17 1 rfl ?_
      refine gf_9_0 C q42 z9 dX9_letterOf_18 ?_
      refine x_iload_n C dX9_letterOf_21 2 rfl ?_
      obtain ⟨f5, h⟩ := h
      refine al_1000 C z1000 f5 dX9_letterOf_22 ?_
      refine X_nameL (fun v6 ev6 => ?_)
      replace h := h v6 ev6
      refine x_lstore (lv' := [(4, .long v6), (3, .int r1), (0, .ref (ga G 9 0)), (1, .int x1), (2, .int x2)]) C dX9_letterOf_23 (Nat.le_of_ble_eq_true rfl) rfl ?_
      refine x_iload_n C dX9_letterOf_25 1 rfl ?_
      refine x_iconst (v := 1) C dX9_letterOf_26 rfl ?_
      refine x_isub C dX9_letterOf_27 ?_
      refine X_name (fun v7 ev7 => ?_)
      replace h := h v7 ev7
      refine x_istore (lv' := [(6, .int v7), (4, .long v6), (3, .int r1), (0, .ref (ga G 9 0)), (1, .int x1), (2, .int x2)]) C dX9_letterOf_28 (Nat.le_of_ble_eq_true rfl) rfl ?_
      obtain ⟨n9, h⟩ := h
      refine X_sub (lv' := [(2, .int x2), (4, .long v6), (6, .int v7)]) [5, 1, 0] rfl ?_
      have hb : ∀ (L : Mem × Int64 × Int32 → Prop) (s : Mem × Int64 × Int32), (∀ t, L t → X Γ G Qf 7 0 0 30 [(2, .int x2), (4, .long t.2.1), (6, .int t.2.2)] [] t.1) → bX9_letterOf_30 x1 x2 Q L s.1 s.2.1 s.2.2 → X Γ G Qf 7 0 0 30 [(2, .int x2), (4, .long s.2.1), (6, .int s.2.2)] [] s.1 := fun L s hL h => wX9_letterOf_30 hG C E hL s.1 s.2.1 s.2.2 h
      have w9 := lp_walk (P := fun s : Mem × Int64 × Int32 => X Γ G Qf 7 0 0 30 [(2, .int x2), (4, .long s.2.1), (6, .int s.2.2)] [] s.1) h hb
      dsimp only at w9
      exact w9
    · replace h := h.2 c4
      refine x_iconst (v := (-1)) C dX9_letterOf_15 rfl ?_
      exact x_iret C E h (Nat.le_of_ble_eq_true rfl) (Nat.le_of_ble_eq_true rfl) dX9_letterOf_16
def rmX10_putBytes : Room := { frames := 0, cells := 0, slots := 0, locals := 0 }
def bX10_putBytes_3 (x1 : Int32) (Q : Mem → Prop) (L3 : Mem × Int32 → Prop) (M : Mem) (y2 : Int32) : Prop :=
  ((y2 < 0 → Q M) ∧ (¬ y2 < 0 → vp_in (M.1 1101 0 0) 300 ∧ ∀ M3 : Mem, M3 = up1 M 1100 0 (tn (M.1 1101 0 0)) (((Int32.toUInt32 x1 >>> (Int32.toUInt32 y2 &&& Int32.toUInt32 31)).toInt32) &&& 255) → ∀ M4 : Mem, M4 = up1 M3 1101 0 0 ((M3.1 1101 0 0) + 1) → ∀ v5 : Int32, v5 = y2 + (-8) → L3 (M4, v5)))
def pX10_putBytes (M : Mem) (x1 : Int32) (Q : Mem → Prop) : Prop :=
  ∃ n : Nat, lp (fun L s => bX10_putBytes_3 x1 Q L s.1 s.2) n (M, 24)
set_option maxRecDepth 100000 in
set_option maxHeartbeats 400000 in
theorem wX10_putBytes_3 {Γ : Gam} {G : Gm} {Qf : State → Prop} (hG : Gd G) (C : Cx Γ G cX10_putBytes 3 RX10 none rmX10_putBytes) {x1 : Int32} {Q : Mem → Prop} (E : EndV Γ G Qf rmX10_putBytes Q) {L3 : Mem × Int32 → Prop} (hL3 : ∀ s, L3 s → X Γ G Qf 3 0 0 3 [(0, .ref (ga G 10 0)), (1, .int x1), (2, .int s.2)] [] s.1) (M : Mem) (y2 : Int32) (h : bX10_putBytes_3 x1 Q L3 M y2) : X Γ G Qf 3 0 0 3 [(0, .ref (ga G 10 0)), (1, .int x1), (2, .int y2)] [] M := by
  unfold bX10_putBytes_3 at h
  refine x_iload_n C dX10_putBytes_3 2 rfl ?_
  refine x_if_lt (tgt := 39) C dX10_putBytes_4 (by decide) (fun c1 => ?_) (fun c1 => ?_)
  · replace h := h.1 c1
    exact x_vret C E h (Nat.le_of_ble_eq_true rfl) (Nat.le_of_ble_eq_true rfl) dX10_putBytes_39
  · replace h := h.2 c1
    refine x_aload_n C dX10_putBytes_7 0 rfl ?_
    refine gf_10_0 C q131 z10 dX10_putBytes_8 ?_
    refine x_aload_n C dX10_putBytes_11 0 rfl ?_
    refine gf_10_1 C q132 z10 dX10_putBytes_12 ?_
    refine x_iload_n C dX10_putBytes_15 1 rfl ?_
    refine x_iload_n C dX10_putBytes_16 2 rfl ?_
    refine x_iushr C dX10_putBytes_17 ?_
    refine x_sipush (v := 255) C dX10_putBytes_18 rfl ?_
    refine x_iand C dX10_putBytes_21 ?_
    obtain ⟨f2, h⟩ := h
    refine as_1100 C z1100 f2 dX10_putBytes_22 ?_
    refine X_nameM (fun M3 eM3 => ?_)
    replace h := h M3 eM3
    refine x_aload_n C dX10_putBytes_23 0 rfl ?_
    refine x_dup C dX10_putBytes_24 rfl ?_
    refine gf_10_1 C q132 z10 dX10_putBytes_25 ?_
    refine x_iconst (v := 1) C dX10_putBytes_28 rfl ?_
    refine x_iadd C dX10_putBytes_29 ?_
    refine pf_10_1 C q132 z10 dX10_putBytes_30 ?_
    refine X_nameM (fun M4 eM4 => ?_)
    replace h := h M4 eM4
    obtain ⟨v5, ev5⟩ : ∃ z : Int32, z = y2 + (-8) := ⟨_, rfl⟩
    replace h := h v5 ev5
    refine x_iinc (v := v5) (lv' := [(2, .int v5), (0, .ref (ga G 10 0)), (1, .int x1)]) (j := 2) C dX10_putBytes_33 rfl (by rw [ev5]; rfl) (Nat.le_of_ble_eq_true rfl) rfl ?_
    refine x_goto (tgt := 3) C dX10_putBytes_36 (by decide) ?_
    refine X_sub (lv' := [(0, .ref (ga G 10 0)), (1, .int x1), (2, .int v5)]) [1, 2, 0] rfl ?_
    have w9 := hL3 (M4, v5) h
    dsimp only at w9
    exact w9
set_option maxRecDepth 100000 in
set_option maxHeartbeats 400000 in
theorem kX10_putBytes {l : Launch} {G : Gm} (hG : Gd G) (M : Mem) (x1 : Int32) {Q : Mem → Prop} (h : pX10_putBytes M x1 Q) : Ctv l G yX10_putBytes cX10_putBytes 3 rmX10_putBytes [.ref (ga G 10 0), .int x1] M Q := by
  refine ctv_of (own := RX10) (by decide +kernel) rfl (Nat.le_of_ble_eq_true rfl) hG (fun Γ Qf hl C E => ?_)
  subst hl
  show X Γ G Qf 3 0 0 0 [(0, .ref (ga G 10 0)), (1, .int x1)] [] M
  unfold pX10_putBytes at h
  refine x_bipush (v := 24) C dX10_putBytes_0 rfl ?_
  refine x_istore_n (lv' := [(2, .int 24), (0, .ref (ga G 10 0)), (1, .int x1)]) C dX10_putBytes_2 rfl (Nat.le_of_ble_eq_true rfl) rfl ?_
  obtain ⟨n9, h⟩ := h
  refine X_sub (lv' := [(0, .ref (ga G 10 0)), (1, .int x1), (2, .int 24)]) [1, 2, 0] rfl ?_
  have hb : ∀ (L : Mem × Int32 → Prop) (s : Mem × Int32), (∀ t, L t → X Γ G Qf 3 0 0 3 [(0, .ref (ga G 10 0)), (1, .int x1), (2, .int t.2)] [] t.1) → bX10_putBytes_3 x1 Q L s.1 s.2 → X Γ G Qf 3 0 0 3 [(0, .ref (ga G 10 0)), (1, .int x1), (2, .int s.2)] [] s.1 := fun L s hL h => wX10_putBytes_3 hG C E hL s.1 s.2 h
  have w9 := lp_walk (P := fun s : Mem × Int32 => X Γ G Qf 3 0 0 3 [(0, .ref (ga G 10 0)), (1, .int x1), (2, .int s.2)] [] s.1) h hb
  dsimp only at w9
  exact w9
def rmX10_feed : Room := { frames := 1, cells := 0, slots := 0, locals := 22 }
def pX10_feed (M : Mem) (x1 : Int32) (x2 : Int32) (x3 : Int32) (x4 : Int32) (x5 : Int32) (Q : Int32 → Mem → Prop) : Prop :=
  ((((M.1 1101 0 0) + 20) ≤ 300 → pX10_putBytes M x1 (fun M3 => pX10_putBytes M3 x2 (fun M5 => pX10_putBytes M5 x3 (fun M7 => pX10_putBytes M7 x4 (fun M9 => pX10_putBytes M9 x5 (fun M11 => Q (M11.1 1101 0 0) M11)))))) ∧ (¬ ((M.1 1101 0 0) + 20) ≤ 300 → Q (-1) M))
set_option maxRecDepth 100000 in
set_option maxHeartbeats 400000 in
theorem kX10_feed {l : Launch} {G : Gm} (hG : Gd G) (M : Mem) (x1 : Int32) (x2 : Int32) (x3 : Int32) (x4 : Int32) (x5 : Int32) {Q : Int32 → Mem → Prop} (h : pX10_feed M x1 x2 x3 x4 x5 Q) : Cti l G yX10_feed cX10_feed 6 .int rmX10_feed [.ref (ga G 10 0), .int x1, .int x2, .int x3, .int x4, .int x5] M Q := by
  refine cti_of (own := RX10) (by decide +kernel) rfl (Nat.le_of_ble_eq_true rfl) hG (fun Γ Qf hl C E => ?_)
  subst hl
  show X Γ G Qf 6 0 0 0 [(0, .ref (ga G 10 0)), (1, .int x1), (2, .int x2), (3, .int x3), (4, .int x4), (5, .int x5)] [] M
  unfold pX10_feed at h
  refine x_aload_n C dX10_feed_0 0 rfl ?_
  refine gf_10_1 C q132 z10 dX10_feed_1 ?_
  refine x_bipush (v := 20) C dX10_feed_4 rfl ?_
  refine x_iadd C dX10_feed_6 ?_
  refine x_sipush (v := 300) C dX10_feed_7 rfl ?_
  refine x_icmp_le (tgt := 15) C dX10_feed_10 (by decide) (fun c1 => ?_) (fun c1 => ?_)
  · replace h := h.1 c1
    refine x_aload_n C dX10_feed_15 0 rfl ?_
    refine x_iload_n C dX10_feed_16 1 rfl ?_
    refine x_callv (rest := []) C sv_X10_102 ob10 z10 (kX10_putBytes hG _ _ h) rfl rfl (Nat.le_of_ble_eq_true rfl) ⟨Nat.le_of_ble_eq_true rfl, Nat.le_of_ble_eq_true rfl⟩ rfl rfl ⟨Nat.le_of_ble_eq_true rfl, Nat.le_of_ble_eq_true rfl⟩ dX10_feed_17 (fun M3 h => ?_)
    refine x_aload_n C dX10_feed_20 0 rfl ?_
    refine x_iload_n C dX10_feed_21 2 rfl ?_
    refine x_callv (rest := []) C sv_X10_102 ob10 z10 (kX10_putBytes hG _ _ h) rfl rfl (Nat.le_of_ble_eq_true rfl) ⟨Nat.le_of_ble_eq_true rfl, Nat.le_of_ble_eq_true rfl⟩ rfl rfl ⟨Nat.le_of_ble_eq_true rfl, Nat.le_of_ble_eq_true rfl⟩ dX10_feed_22 (fun M5 h => ?_)
    refine x_aload_n C dX10_feed_25 0 rfl ?_
    refine x_iload_n C dX10_feed_26 3 rfl ?_
    refine x_callv (rest := []) C sv_X10_102 ob10 z10 (kX10_putBytes hG _ _ h) rfl rfl (Nat.le_of_ble_eq_true rfl) ⟨Nat.le_of_ble_eq_true rfl, Nat.le_of_ble_eq_true rfl⟩ rfl rfl ⟨Nat.le_of_ble_eq_true rfl, Nat.le_of_ble_eq_true rfl⟩ dX10_feed_27 (fun M7 h => ?_)
    refine x_aload_n C dX10_feed_30 0 rfl ?_
    refine x_iload C dX10_feed_31 4 rfl ?_
    refine x_callv (rest := []) C sv_X10_102 ob10 z10 (kX10_putBytes hG _ _ h) rfl rfl (Nat.le_of_ble_eq_true rfl) ⟨Nat.le_of_ble_eq_true rfl, Nat.le_of_ble_eq_true rfl⟩ rfl rfl ⟨Nat.le_of_ble_eq_true rfl, Nat.le_of_ble_eq_true rfl⟩ dX10_feed_33 (fun M9 h => ?_)
    refine x_aload_n C dX10_feed_36 0 rfl ?_
    refine x_iload C dX10_feed_37 5 rfl ?_
    refine x_callv (rest := []) C sv_X10_102 ob10 z10 (kX10_putBytes hG _ _ h) rfl rfl (Nat.le_of_ble_eq_true rfl) ⟨Nat.le_of_ble_eq_true rfl, Nat.le_of_ble_eq_true rfl⟩ rfl rfl ⟨Nat.le_of_ble_eq_true rfl, Nat.le_of_ble_eq_true rfl⟩ dX10_feed_39 (fun M11 h => ?_)
    refine x_aload_n C dX10_feed_42 0 rfl ?_
    refine gf_10_1 C q132 z10 dX10_feed_43 ?_
    exact x_iret C E h (Nat.le_of_ble_eq_true rfl) (Nat.le_of_ble_eq_true rfl) dX10_feed_46
  · replace h := h.2 c1
    refine x_iconst (v := (-1)) C dX10_feed_13 rfl ?_
    exact x_iret C E h (Nat.le_of_ble_eq_true rfl) (Nat.le_of_ble_eq_true rfl) dX10_feed_14
def rmX10_fault : Room := { frames := 0, cells := 0, slots := 0, locals := 0 }
def pX10_fault (M : Mem) (Q : Int32 → Mem → Prop) : Prop :=
  Q (M.1 1102 0 0) M
set_option maxRecDepth 100000 in
set_option maxHeartbeats 400000 in
theorem kX10_fault {l : Launch} {G : Gm} (hG : Gd G) (M : Mem)  {Q : Int32 → Mem → Prop} (h : pX10_fault M Q) : Cti l G yX10_fault cX10_fault 1 .int rmX10_fault [.ref (ga G 10 0)] M Q := by
  refine cti_of (own := RX10) (by decide +kernel) rfl (Nat.le_of_ble_eq_true rfl) hG (fun Γ Qf hl C E => ?_)
  subst hl
  show X Γ G Qf 1 0 0 0 [(0, .ref (ga G 10 0))] [] M
  unfold pX10_fault at h
  refine x_aload_n C dX10_fault_0 0 rfl ?_
  refine gf_10_2 C q133 z10 dX10_fault_1 ?_
  exact x_iret C E h (Nat.le_of_ble_eq_true rfl) (Nat.le_of_ble_eq_true rfl) dX10_fault_4
def rmX10_answers : Room := { frames := 5, cells := 0, slots := 0, locals := 114 }
def pX10_answers (M : Mem) (Q : Int32 → Mem → Prop) : Prop :=
  pX8_rank 0 M (-1) (fun M2 => Q (M2.1 904 0 0) M2)
set_option maxRecDepth 100000 in
set_option maxHeartbeats 400000 in
theorem kX10_answers {l : Launch} {G : Gm} (hG : Gd G) (M : Mem)  {Q : Int32 → Mem → Prop} (h : pX10_answers M Q) : Cti l G yX10_answers cX10_answers 1 .int rmX10_answers [.ref (ga G 10 0)] M Q := by
  refine cti_of (own := RX10) (by decide +kernel) rfl (Nat.le_of_ble_eq_true rfl) hG (fun Γ Qf hl C E => ?_)
  subst hl
  show X Γ G Qf 1 0 0 0 [(0, .ref (ga G 10 0))] [] M
  unfold pX10_answers at h
  refine x_aload_n C dX10_answers_0 0 rfl ?_
  refine gf_10_12 C q134 z10 dX10_answers_1 ?_
  refine x_iconst (v := (-1)) C dX10_answers_4 rfl ?_
  refine x_callv (rest := []) C sv_X10_327 ob8 z8 (kX8_rank hG z8 _ _ h) rfl rfl (Nat.le_of_ble_eq_true rfl) ⟨Nat.le_of_ble_eq_true rfl, Nat.le_of_ble_eq_true rfl⟩ rfl rfl ⟨Nat.le_of_ble_eq_true rfl, Nat.le_of_ble_eq_true rfl⟩ dX10_answers_5 (fun M2 h => ?_)
  refine x_aload_n C dX10_answers_8 0 rfl ?_
  refine gf_10_12 C q134 z10 dX10_answers_9 ?_
  refine gf_8_4 C q135 z8 dX10_answers_12 ?_
  exact x_iret C E h (Nat.le_of_ble_eq_true rfl) (Nat.le_of_ble_eq_true rfl) dX10_answers_15
def rmX10_thrift : Room := { frames := 4, cells := 0, slots := 0, locals := 104 }
def bX10_thrift_40 (Q : Int32 → Mem → Prop) (L13 : Mem × Int32 × Int32 × Int32 → Prop) (M : Mem) (y1 : Int32) (y2 : Int32) (y3 : Int32) : Prop :=
  ∀ v7 : Int32, v7 = y3 + 1 → L13 (M, y1, y2, v7)
def bX10_thrift_13 (Q : Int32 → Mem → Prop) (L13 : Mem × Int32 × Int32 × Int32 → Prop) (M : Mem) (y1 : Int32) (y2 : Int32) (y3 : Int32) : Prop :=
  ((8 < y3 → Q y1 M) ∧ (¬ 8 < y3 → pX5_allBits M y3 (fun r4 M5 => ((y2 ≤ r4 → bX10_thrift_40 Q L13 M5 y1 y2 y3) ∧ (¬ y2 ≤ r4 → bX10_thrift_40 Q L13 M5 y3 r4 y3)))))
def pX10_thrift (M : Mem) (Q : Int32 → Mem → Prop) : Prop :=
  pX5_allBits M 2 (fun r1 M2 => ∃ n : Nat, lp (fun L s => bX10_thrift_13 Q L s.1 s.2.1 s.2.2.1 s.2.2.2) n (M2, 2, r1, 3))
set_option maxRecDepth 100000 in
set_option maxHeartbeats 400000 in
theorem wX10_thrift_40 {Γ : Gam} {G : Gm} {Qf : State → Prop} (hG : Gd G) (C : Cx Γ G cX10_thrift 5 RX10 (some .int) rmX10_thrift)  {Q : Int32 → Mem → Prop} (E : EndI Γ G Qf rmX10_thrift Q) {L13 : Mem × Int32 × Int32 × Int32 → Prop} (hL13 : ∀ s, L13 s → X Γ G Qf 5 0 0 13 [(0, .ref (ga G 10 0)), (1, .int s.2.1), (2, .int s.2.2.1), (3, .int s.2.2.2)] [] s.1) (M : Mem) (y1 : Int32) (y2 : Int32) (y3 : Int32) (h : bX10_thrift_40 Q L13 M y1 y2 y3) : X Γ G Qf 5 0 0 40 [(0, .ref (ga G 10 0)), (1, .int y1), (2, .int y2), (3, .int y3)] [] M := by
  unfold bX10_thrift_40 at h
  obtain ⟨v7, ev7⟩ : ∃ z : Int32, z = y3 + 1 := ⟨_, rfl⟩
  replace h := h v7 ev7
  refine x_iinc (v := v7) (lv' := [(3, .int v7), (0, .ref (ga G 10 0)), (1, .int y1), (2, .int y2)]) (j := 3) C dX10_thrift_40 rfl (by rw [ev7]; rfl) (Nat.le_of_ble_eq_true rfl) rfl ?_
  refine x_goto (tgt := 13) C dX10_thrift_43 (by decide) ?_
  refine X_sub (lv' := [(0, .ref (ga G 10 0)), (1, .int y1), (2, .int y2), (3, .int v7)]) [1, 2, 3, 0] rfl ?_
  have w9 := hL13 (M, y1, y2, v7) h
  dsimp only at w9
  exact w9
set_option maxRecDepth 100000 in
set_option maxHeartbeats 400000 in
theorem wX10_thrift_13 {Γ : Gam} {G : Gm} {Qf : State → Prop} (hG : Gd G) (C : Cx Γ G cX10_thrift 5 RX10 (some .int) rmX10_thrift)  {Q : Int32 → Mem → Prop} (E : EndI Γ G Qf rmX10_thrift Q) {L13 : Mem × Int32 × Int32 × Int32 → Prop} (hL13 : ∀ s, L13 s → X Γ G Qf 5 0 0 13 [(0, .ref (ga G 10 0)), (1, .int s.2.1), (2, .int s.2.2.1), (3, .int s.2.2.2)] [] s.1) (M : Mem) (y1 : Int32) (y2 : Int32) (y3 : Int32) (h : bX10_thrift_13 Q L13 M y1 y2 y3) : X Γ G Qf 5 0 0 13 [(0, .ref (ga G 10 0)), (1, .int y1), (2, .int y2), (3, .int y3)] [] M := by
  unfold bX10_thrift_13 at h
  refine x_iload_n C dX10_thrift_13 3 rfl ?_
  refine x_bipush (v := 8) C dX10_thrift_14 rfl ?_
  refine x_icmp_gt (tgt := 46) C dX10_thrift_16 (by decide) (fun c3 => ?_) (fun c3 => ?_)
  · replace h := h.1 c3
    refine x_iload_n C dX10_thrift_46 1 rfl ?_
    exact x_iret C E h (Nat.le_of_ble_eq_true rfl) (Nat.le_of_ble_eq_true rfl) dX10_thrift_47
  · replace h := h.2 c3
    refine x_aload_n C dX10_thrift_19 0 rfl ?_
    refine gf_10_7 C q136 z10 dX10_thrift_20 ?_
    refine x_iload_n C dX10_thrift_23 3 rfl ?_
    refine x_calli (rest := []) C sv_X10_195 ob5 z5 (kX5_allBits hG _ _ h) rfl rfl (Nat.le_of_ble_eq_true rfl) ⟨Nat.le_of_ble_eq_true rfl, Nat.le_of_ble_eq_true rfl⟩ rfl rfl ⟨Nat.le_of_ble_eq_true rfl, Nat.le_of_ble_eq_true rfl⟩ dX10_thrift_24 (fun r4 M5 h => ?_)
    refine x_istore (lv' := [(4, .int r4), (0, .ref (ga G 10 0)), (1, .int y1), (2, .int y2), (3, .int y3)]) C dX10_thrift_27 (Nat.le_of_ble_eq_true rfl) rfl ?_
    refine x_iload C dX10_thrift_29 0 rfl ?_
    refine x_iload_n C dX10_thrift_31 3 rfl ?_
    refine x_icmp_ge (tgt := 40) C dX10_thrift_32 (by decide) (fun c6 => ?_) (fun c6 => ?_)
    · replace h := h.1 c6
      refine X_sub (lv' := [(0, .ref (ga G 10 0)), (1, .int y1), (2, .int y2), (3, .int y3)]) [1, 2, 3, 4] rfl ?_
      exact wX10_thrift_40 hG C E hL13 M5 y1 y2 y3 h
    · replace h := h.2 c6
      refine x_iload C dX10_thrift_35 0 rfl ?_
      refine x_istore_n (lv' := [(2, .int r4), (4, .int r4), (0, .ref (ga G 10 0)), (1, .int y1), (3, .int y3)]) C dX10_thrift_37 rfl (Nat.le_of_ble_eq_true rfl) rfl ?_
      refine x_iload_n C dX10_thrift_38 4 rfl ?_
      refine x_istore_n (lv' := [(1, .int y3), (2, .int r4), (4, .int r4), (0, .ref (ga G 10 0)), (3, .int y3)]) C dX10_thrift_39 rfl (Nat.le_of_ble_eq_true rfl) rfl ?_
      refine X_sub (lv' := [(0, .ref (ga G 10 0)), (1, .int y3), (2, .int r4), (3, .int y3)]) [3, 0, 1, 4] rfl ?_
      exact wX10_thrift_40 hG C E hL13 M5 y3 r4 y3 h
set_option maxRecDepth 100000 in
set_option maxHeartbeats 400000 in
theorem kX10_thrift {l : Launch} {G : Gm} (hG : Gd G) (M : Mem)  {Q : Int32 → Mem → Prop} (h : pX10_thrift M Q) : Cti l G yX10_thrift cX10_thrift 5 .int rmX10_thrift [.ref (ga G 10 0)] M Q := by
  refine cti_of (own := RX10) (by decide +kernel) rfl (Nat.le_of_ble_eq_true rfl) hG (fun Γ Qf hl C E => ?_)
  subst hl
  show X Γ G Qf 5 0 0 0 [(0, .ref (ga G 10 0))] [] M
  unfold pX10_thrift at h
  refine x_iconst (v := 2) C dX10_thrift_0 rfl ?_
  refine x_istore_n (lv' := [(1, .int 2), (0, .ref (ga G 10 0))]) C dX10_thrift_1 rfl (Nat.le_of_ble_eq_true rfl) rfl ?_
  refine x_aload_n C dX10_thrift_2 1 rfl ?_
  refine gf_10_7 C q136 z10 dX10_thrift_3 ?_
  refine x_iconst (v := 2) C dX10_thrift_6 rfl ?_
  refine x_calli (rest := []) C sv_X10_195 ob5 z5 (kX5_allBits hG _ _ h) rfl rfl (Nat.le_of_ble_eq_true rfl) ⟨Nat.le_of_ble_eq_true rfl, Nat.le_of_ble_eq_true rfl⟩ rfl rfl ⟨Nat.le_of_ble_eq_true rfl, Nat.le_of_ble_eq_true rfl⟩ dX10_thrift_7 (fun r1 M2 h => ?_)
  refine x_istore_n (lv' := [(2, .int r1), (1, .int 2), (0, .ref (ga G 10 0))]) C dX10_thrift_10 rfl (Nat.le_of_ble_eq_true rfl) rfl ?_
  refine x_iconst (v := 3) C dX10_thrift_11 rfl ?_
  refine x_istore_n (lv' := [(3, .int 3), (2, .int r1), (1, .int 2), (0, .ref (ga G 10 0))]) C dX10_thrift_12 rfl (Nat.le_of_ble_eq_true rfl) rfl ?_
  obtain ⟨n9, h⟩ := h
  refine X_sub (lv' := [(0, .ref (ga G 10 0)), (1, .int 2), (2, .int r1), (3, .int 3)]) [3, 2, 1, 0] rfl ?_
  have hb : ∀ (L : Mem × Int32 × Int32 × Int32 → Prop) (s : Mem × Int32 × Int32 × Int32), (∀ t, L t → X Γ G Qf 5 0 0 13 [(0, .ref (ga G 10 0)), (1, .int t.2.1), (2, .int t.2.2.1), (3, .int t.2.2.2)] [] t.1) → bX10_thrift_13 Q L s.1 s.2.1 s.2.2.1 s.2.2.2 → X Γ G Qf 5 0 0 13 [(0, .ref (ga G 10 0)), (1, .int s.2.1), (2, .int s.2.2.1), (3, .int s.2.2.2)] [] s.1 := fun L s hL h => wX10_thrift_13 hG C E hL s.1 s.2.1 s.2.2.1 s.2.2.2 h
  have w9 := lp_walk (P := fun s : Mem × Int32 × Int32 × Int32 => X Γ G Qf 5 0 0 13 [(0, .ref (ga G 10 0)), (1, .int s.2.1), (2, .int s.2.2.1), (3, .int s.2.2.2)] [] s.1) h hb
  dsimp only at w9
  exact w9
def rmX10_full : Room := { frames := 2, cells := 0, slots := 0, locals := 44 }
def bX10_full_51 (Q : Int32 → Mem → Prop) (L4 : Mem × Int32 × Int32 → Prop) (M : Mem) (y1 : Int32) (y2 : Int32) : Prop :=
  ∀ v12 : Int32, v12 = y2 + 1 → L4 (M, y1, v12)
def bX10_full_4 (Q : Int32 → Mem → Prop) (L4 : Mem × Int32 × Int32 → Prop) (M : Mem) (y1 : Int32) (y2 : Int32) : Prop :=
  (((M.1 504 0 0) ≤ y2 → Q y1 M) ∧ (¬ (M.1 504 0 0) ≤ y2 → pX4_holds M y2 (fun r2 M3 => ((r2 = 0 → bX10_full_51 Q L4 M3 y1 y2) ∧ (¬ r2 = 0 → pX4_isGone M3 y2 (fun r5 M6 => ((¬ r5 = 0 → bX10_full_51 Q L4 M6 y1 y2) ∧ (r5 = 0 → pX3_hasAllScored M6 y2 (fun r8 M9 => ((r8 = 0 → bX10_full_51 Q L4 M9 y1 y2) ∧ (¬ r8 = 0 → ∀ v11 : Int32, v11 = y1 + 1 → bX10_full_51 Q L4 M9 v11 y2)))))))))))
def pX10_full (M : Mem) (Q : Int32 → Mem → Prop) : Prop :=
  ∃ n : Nat, lp (fun L s => bX10_full_4 Q L s.1 s.2.1 s.2.2) n (M, 0, 0)
set_option maxRecDepth 100000 in
set_option maxHeartbeats 400000 in
theorem wX10_full_51 {Γ : Gam} {G : Gm} {Qf : State → Prop} (hG : Gd G) (C : Cx Γ G cX10_full 3 RX10 (some .int) rmX10_full)  {Q : Int32 → Mem → Prop} (E : EndI Γ G Qf rmX10_full Q) {L4 : Mem × Int32 × Int32 → Prop} (hL4 : ∀ s, L4 s → X Γ G Qf 3 0 0 4 [(0, .ref (ga G 10 0)), (1, .int s.2.1), (2, .int s.2.2)] [] s.1) (M : Mem) (y1 : Int32) (y2 : Int32) (h : bX10_full_51 Q L4 M y1 y2) : X Γ G Qf 3 0 0 51 [(0, .ref (ga G 10 0)), (1, .int y1), (2, .int y2)] [] M := by
  unfold bX10_full_51 at h
  obtain ⟨v12, ev12⟩ : ∃ z : Int32, z = y2 + 1 := ⟨_, rfl⟩
  replace h := h v12 ev12
  refine x_iinc (v := v12) (lv' := [(2, .int v12), (0, .ref (ga G 10 0)), (1, .int y1)]) (j := 2) C dX10_full_51 rfl (by rw [ev12]; rfl) (Nat.le_of_ble_eq_true rfl) rfl ?_
  refine x_goto (tgt := 4) C dX10_full_54 (by decide) ?_
  refine X_sub (lv' := [(0, .ref (ga G 10 0)), (1, .int y1), (2, .int v12)]) [1, 2, 0] rfl ?_
  have w9 := hL4 (M, y1, v12) h
  dsimp only at w9
  exact w9
set_option maxRecDepth 100000 in
set_option maxHeartbeats 400000 in
theorem wX10_full_4 {Γ : Gam} {G : Gm} {Qf : State → Prop} (hG : Gd G) (C : Cx Γ G cX10_full 3 RX10 (some .int) rmX10_full)  {Q : Int32 → Mem → Prop} (E : EndI Γ G Qf rmX10_full Q) {L4 : Mem × Int32 × Int32 → Prop} (hL4 : ∀ s, L4 s → X Γ G Qf 3 0 0 4 [(0, .ref (ga G 10 0)), (1, .int s.2.1), (2, .int s.2.2)] [] s.1) (M : Mem) (y1 : Int32) (y2 : Int32) (h : bX10_full_4 Q L4 M y1 y2) : X Γ G Qf 3 0 0 4 [(0, .ref (ga G 10 0)), (1, .int y1), (2, .int y2)] [] M := by
  unfold bX10_full_4 at h
  refine x_iload_n C dX10_full_4 2 rfl ?_
  refine x_aload_n C dX10_full_5 0 rfl ?_
  refine gf_10_6 C q137 z10 dX10_full_6 ?_
  refine gf_4_4 C q138 z4 dX10_full_9 ?_
  refine x_icmp_ge (tgt := 57) C dX10_full_12 (by decide) (fun c1 => ?_) (fun c1 => ?_)
  · replace h := h.1 c1
    refine x_iload_n C dX10_full_57 1 rfl ?_
    exact x_iret C E h (Nat.le_of_ble_eq_true rfl) (Nat.le_of_ble_eq_true rfl) dX10_full_58
  · replace h := h.2 c1
    refine x_aload_n C dX10_full_15 0 rfl ?_
    refine gf_10_6 C q137 z10 dX10_full_16 ?_
    refine x_iload_n C dX10_full_19 2 rfl ?_
    refine x_calli (rest := []) C sv_X10_393 ob4 z4 (kX4_holds hG _ _ h) rfl rfl (Nat.le_of_ble_eq_true rfl) ⟨Nat.le_of_ble_eq_true rfl, Nat.le_of_ble_eq_true rfl⟩ rfl rfl ⟨Nat.le_of_ble_eq_true rfl, Nat.le_of_ble_eq_true rfl⟩ dX10_full_20 (fun r2 M3 h => ?_)
    refine x_if_eq (tgt := 51) C dX10_full_23 (by decide) (fun c4 => ?_) (fun c4 => ?_)
    · replace h := h.1 c4
      refine X_sub (lv' := [(0, .ref (ga G 10 0)), (1, .int y1), (2, .int y2)]) [0, 1, 2] rfl ?_
      exact wX10_full_51 hG C E hL4 M3 y1 y2 h
    · replace h := h.2 c4
      refine x_aload_n C dX10_full_26 0 rfl ?_
      refine gf_10_6 C q137 z10 dX10_full_27 ?_
      refine x_iload_n C dX10_full_30 2 rfl ?_
      refine x_calli (rest := []) C sv_X10_159 ob4 z4 (kX4_isGone hG _ _ h) rfl rfl (Nat.le_of_ble_eq_true rfl) ⟨Nat.le_of_ble_eq_true rfl, Nat.le_of_ble_eq_true rfl⟩ rfl rfl ⟨Nat.le_of_ble_eq_true rfl, Nat.le_of_ble_eq_true rfl⟩ dX10_full_31 (fun r5 M6 h => ?_)
      refine x_if_ne (tgt := 51) C dX10_full_34 (by decide) (fun c7 => ?_) (fun c7 => ?_)
      · replace h := h.1 c7
        refine X_sub (lv' := [(0, .ref (ga G 10 0)), (1, .int y1), (2, .int y2)]) [0, 1, 2] rfl ?_
        exact wX10_full_51 hG C E hL4 M6 y1 y2 h
      · replace h := h.2 c7
        refine x_aload_n C dX10_full_37 0 rfl ?_
        refine gf_10_11 C q139 z10 dX10_full_38 ?_
        refine x_iload_n C dX10_full_41 2 rfl ?_
        refine x_calli (rest := []) C sv_X10_396 ob3 z3 (kX3_hasAllScored hG _ _ h) rfl rfl (Nat.le_of_ble_eq_true rfl) ⟨Nat.le_of_ble_eq_true rfl, Nat.le_of_ble_eq_true rfl⟩ rfl rfl ⟨Nat.le_of_ble_eq_true rfl, Nat.le_of_ble_eq_true rfl⟩ dX10_full_42 (fun r8 M9 h => ?_)
        refine x_if_eq (tgt := 51) C dX10_full_45 (by decide) (fun c10 => ?_) (fun c10 => ?_)
        · replace h := h.1 c10
          refine X_sub (lv' := [(0, .ref (ga G 10 0)), (1, .int y1), (2, .int y2)]) [0, 1, 2] rfl ?_
          exact wX10_full_51 hG C E hL4 M9 y1 y2 h
        · replace h := h.2 c10
          obtain ⟨v11, ev11⟩ : ∃ z : Int32, z = y1 + 1 := ⟨_, rfl⟩
          replace h := h v11 ev11
          refine x_iinc (v := v11) (lv' := [(1, .int v11), (0, .ref (ga G 10 0)), (2, .int y2)]) (j := 1) C dX10_full_48 rfl (by rw [ev11]; rfl) (Nat.le_of_ble_eq_true rfl) rfl ?_
          refine X_sub (lv' := [(0, .ref (ga G 10 0)), (1, .int v11), (2, .int y2)]) [1, 0, 2] rfl ?_
          exact wX10_full_51 hG C E hL4 M9 v11 y2 h
set_option maxRecDepth 100000 in
set_option maxHeartbeats 400000 in
theorem kX10_full {l : Launch} {G : Gm} (hG : Gd G) (M : Mem)  {Q : Int32 → Mem → Prop} (h : pX10_full M Q) : Cti l G yX10_full cX10_full 3 .int rmX10_full [.ref (ga G 10 0)] M Q := by
  refine cti_of (own := RX10) (by decide +kernel) rfl (Nat.le_of_ble_eq_true rfl) hG (fun Γ Qf hl C E => ?_)
  subst hl
  show X Γ G Qf 3 0 0 0 [(0, .ref (ga G 10 0))] [] M
  unfold pX10_full at h
  refine x_iconst (v := 0) C dX10_full_0 rfl ?_
  refine x_istore_n (lv' := [(1, .int 0), (0, .ref (ga G 10 0))]) C dX10_full_1 rfl (Nat.le_of_ble_eq_true rfl) rfl ?_
  refine x_iconst (v := 0) C dX10_full_2 rfl ?_
  refine x_istore_n (lv' := [(2, .int 0), (1, .int 0), (0, .ref (ga G 10 0))]) C dX10_full_3 rfl (Nat.le_of_ble_eq_true rfl) rfl ?_
  obtain ⟨n9, h⟩ := h
  refine X_sub (lv' := [(0, .ref (ga G 10 0)), (1, .int 0), (2, .int 0)]) [2, 1, 0] rfl ?_
  have hb : ∀ (L : Mem × Int32 × Int32 → Prop) (s : Mem × Int32 × Int32), (∀ t, L t → X Γ G Qf 3 0 0 4 [(0, .ref (ga G 10 0)), (1, .int t.2.1), (2, .int t.2.2)] [] t.1) → bX10_full_4 Q L s.1 s.2.1 s.2.2 → X Γ G Qf 3 0 0 4 [(0, .ref (ga G 10 0)), (1, .int s.2.1), (2, .int s.2.2)] [] s.1 := fun L s hL h => wX10_full_4 hG C E hL s.1 s.2.1 s.2.2 h
  have w9 := lp_walk (P := fun s : Mem × Int32 × Int32 => X Γ G Qf 3 0 0 4 [(0, .ref (ga G 10 0)), (1, .int s.2.1), (2, .int s.2.2)] [] s.1) h hb
  dsimp only at w9
  exact w9
