def rmX0_moveOn : Room := { frames := 1, cells := 0, slots := 0, locals := 13 }
def bX0_moveOn_35 (i : Nat) (x1 : Int32) (Q : Mem → Prop) (L35 : Mem × Int32 × Int32 → Prop) (M : Mem) (y3 : Int32) (y4 : Int32) : Prop :=
  ((y3 ≤ y4 → Q M) ∧ (¬ y3 ≤ y4 → vp_in (M.1 106 i 0) 255 ∧ vp_in y4 64 ∧ (((M.1 5510 (tn (M.1 106 i 0)) (tn y4)) < x1 → ∀ v8 : Int32, v8 = y4 + 1 → L35 (M, y3, v8)) ∧ (¬ (M.1 5510 (tn (M.1 106 i 0)) (tn y4)) < x1 → ∀ M9 : Mem, M9 = up1 M 112 i 0 (M.1 5510 (tn (M.1 106 i 0)) (tn y4)) → Q M9))))
def pX0_moveOn (i : Nat) (M : Mem) (x1 : Int32) (Q : Mem → Prop) : Prop :=
  ∀ v1 : Int32, v1 = ((M.1 111 i 0) * (M.1 107 i 0)) → vp_in (M.1 106 i 0) 255 ∧ ∀ v3 : Int32, v3 = (imin (v1 + (M.1 107 i 0)) (M.1 511 0 (tn (M.1 106 i 0)))) → ∃ n : Nat, lp (fun L s => bX0_moveOn_35 i x1 Q L s.1 s.2.1 s.2.2) n (M, v3, v1)
set_option maxRecDepth 100000 in
set_option maxHeartbeats 400000 in
theorem wX0_moveOn_35 {Γ : Gam} {G : Gm} {Qf : State → Prop} (hG : Gd G) (C : Cx Γ G cX0_moveOn 5 RX0 none rmX0_moveOn) {i : Nat} (hi : i < 24) {x1 : Int32} {Q : Mem → Prop} (E : EndV Γ G Qf rmX0_moveOn Q) {L35 : Mem × Int32 × Int32 → Prop} (hL35 : ∀ s, L35 s → X Γ G Qf 5 0 0 35 [(0, .ref (ga G 0 i)), (1, .int x1), (3, .int s.2.1), (4, .int s.2.2)] [] s.1) (M : Mem) (y3 : Int32) (y4 : Int32) (h : bX0_moveOn_35 i x1 Q L35 M y3 y4) : X Γ G Qf 5 0 0 35 [(0, .ref (ga G 0 i)), (1, .int x1), (3, .int y3), (4, .int y4)] [] M := by
  unfold bX0_moveOn_35 at h
  refine x_iload C dX0_moveOn_35 3 rfl ?_
  refine x_iload_n C dX0_moveOn_37 2 rfl ?_
  refine x_icmp_ge (tgt := 86) C dX0_moveOn_38 (by decide) (fun c4 => ?_) (fun c4 => ?_)
  · replace h := h.1 c4
    exact x_vret C E h (Nat.le_of_ble_eq_true rfl) (Nat.le_of_ble_eq_true rfl) dX0_moveOn_86
  · replace h := h.2 c4
    refine x_aload_n C dX0_moveOn_41 0 rfl ?_
    refine gf_0_0 C q19 hi dX0_moveOn_42 ?_
    refine gf_4_10 C q38 z4 dX0_moveOn_45 ?_
    refine x_aload_n C dX0_moveOn_48 0 rfl ?_
    refine gf_0_6 C q17 hi dX0_moveOn_49 ?_
    obtain ⟨f5, h⟩ := h
    refine al_510 C z510 f5 dX0_moveOn_52 ?_
    refine x_iload C dX0_moveOn_53 3 rfl ?_
    obtain ⟨f6, h⟩ := h
    refine al_5510 C (vp_lt f5) f6 dX0_moveOn_55 ?_
    refine x_iload_n C dX0_moveOn_56 1 rfl ?_
    refine x_icmp_lt (tgt := 80) C dX0_moveOn_57 (by decide) (fun c7 => ?_) (fun c7 => ?_)
    · replace h := h.1 c7
      obtain ⟨v8, ev8⟩ : ∃ z : Int32, z = y4 + 1 := ⟨_, rfl⟩
      replace h := h v8 ev8
      refine x_iinc (v := v8) (lv' := [(4, .int v8), (0, .ref (ga G 0 i)), (1, .int x1), (3, .int y3)]) (j := 3) C dX0_moveOn_80 rfl (by rw [ev8]; rfl) (Nat.le_of_ble_eq_true rfl) rfl ?_
      refine x_goto (tgt := 35) C dX0_moveOn_83 (by decide) ?_
      refine X_sub (lv' := [(0, .ref (ga G 0 i)), (1, .int x1), (3, .int y3), (4, .int v8)]) [1, 2, 3, 0] rfl ?_
      have w9 := hL35 (M, y3, v8) h
      dsimp only at w9
      exact w9
    · replace h := h.2 c7
      refine x_aload_n C dX0_moveOn_60 0 rfl ?_
      refine x_aload_n C dX0_moveOn_61 0 rfl ?_
      refine gf_0_0 C q19 hi dX0_moveOn_62 ?_
      refine gf_4_10 C q38 z4 dX0_moveOn_65 ?_
      refine x_aload_n C dX0_moveOn_68 0 rfl ?_
      refine gf_0_6 C q17 hi dX0_moveOn_69 ?_
      refine al_510 C z510 f5 dX0_moveOn_72 ?_
      refine x_iload C dX0_moveOn_73 3 rfl ?_
      refine al_5510 C (vp_lt f5) f6 dX0_moveOn_75 ?_
      refine pf_0_12 C q33 hi dX0_moveOn_76 ?_
      refine X_nameM (fun M9 eM9 => ?_)
      replace h := h M9 eM9
      exact x_vret C E h (Nat.le_of_ble_eq_true rfl) (Nat.le_of_ble_eq_true rfl) dX0_moveOn_79
set_option maxRecDepth 100000 in
set_option maxHeartbeats 400000 in
theorem kX0_moveOn {l : Launch} {G : Gm} (hG : Gd G) {i : Nat} (hi : i < 24) (M : Mem) (x1 : Int32) {Q : Mem → Prop} (h : pX0_moveOn i M x1 Q) : Ctv l G yX0_moveOn cX0_moveOn 5 rmX0_moveOn [.ref (ga G 0 i), .int x1] M Q := by
  refine ctv_of (own := RX0) (by decide +kernel) rfl (Nat.le_of_ble_eq_true rfl) hG (fun Γ Qf hl C E => ?_)
  subst hl
  show X Γ G Qf 5 0 0 0 [(0, .ref (ga G 0 i)), (1, .int x1)] [] M
  unfold pX0_moveOn at h
  refine x_aload_n C dX0_moveOn_0 0 rfl ?_
  refine gf_0_11 C q23 hi dX0_moveOn_1 ?_
  refine x_aload_n C dX0_moveOn_4 0 rfl ?_
  refine gf_0_7 C q18 hi dX0_moveOn_5 ?_
  refine x_imul C dX0_moveOn_8 ?_
  refine X_name (fun v1 ev1 => ?_)
  replace h := h v1 ev1
  refine x_istore_n (lv' := [(2, .int v1), (0, .ref (ga G 0 i)), (1, .int x1)]) C dX0_moveOn_9 rfl (Nat.le_of_ble_eq_true rfl) rfl ?_
  refine x_iload_n C dX0_moveOn_10 0 rfl ?_
  refine x_aload_n C dX0_moveOn_11 1 rfl ?_
  refine gf_0_7 C q18 hi dX0_moveOn_12 ?_
  refine x_iadd C dX0_moveOn_15 ?_
  refine x_aload_n C dX0_moveOn_16 1 rfl ?_
  refine gf_0_0 C q19 hi dX0_moveOn_17 ?_
  refine gf_4_11 C q37 z4 dX0_moveOn_20 ?_
  refine x_aload_n C dX0_moveOn_23 1 rfl ?_
  refine gf_0_6 C q17 hi dX0_moveOn_24 ?_
  obtain ⟨f2, h⟩ := h
  refine al_511 C z511 f2 dX0_moveOn_27 ?_
  refine x_min C sm_X0_113 (Nat.le_of_ble_eq_true rfl) (Nat.le_of_ble_eq_true rfl) (Nat.le_of_ble_eq_true rfl) (Nat.le_of_ble_eq_true rfl) dX0_moveOn_28 ?_
  refine X_name (fun v3 ev3 => ?_)
  replace h := h v3 ev3
  refine x_istore_n (lv' := [(3, .int v3), (2, .int v1), (0, .ref (ga G 0 i)), (1, .int x1)]) C dX0_moveOn_31 rfl (Nat.le_of_ble_eq_true rfl) rfl ?_
  refine x_iload_n C dX0_moveOn_32 1 rfl ?_
  refine x_istore (lv' := [(4, .int v1), (3, .int v3), (2, .int v1), (0, .ref (ga G 0 i)), (1, .int x1)]) C dX0_moveOn_33 (Nat.le_of_ble_eq_true rfl) rfl ?_
  obtain ⟨n9, h⟩ := h
  refine X_sub (lv' := [(0, .ref (ga G 0 i)), (1, .int x1), (3, .int v3), (4, .int v1)]) [3, 4, 1, 0] rfl ?_
  have hb : ∀ (L : Mem × Int32 × Int32 → Prop) (s : Mem × Int32 × Int32), (∀ t, L t → X Γ G Qf 5 0 0 35 [(0, .ref (ga G 0 i)), (1, .int x1), (3, .int t.2.1), (4, .int t.2.2)] [] t.1) → bX0_moveOn_35 i x1 Q L s.1 s.2.1 s.2.2 → X Γ G Qf 5 0 0 35 [(0, .ref (ga G 0 i)), (1, .int x1), (3, .int s.2.1), (4, .int s.2.2)] [] s.1 := fun L s hL h => wX0_moveOn_35 hG C hi E hL s.1 s.2.1 s.2.2 h
  have w9 := lp_walk (P := fun s : Mem × Int32 × Int32 => X Γ G Qf 5 0 0 35 [(0, .ref (ga G 0 i)), (1, .int x1), (3, .int s.2.1), (4, .int s.2.2)] [] s.1) h hb
  dsimp only at w9
  exact w9
def rmX0_seek : Room := { frames := 2, cells := 0, slots := 0, locals := 43 }
def bX0_seek_13 (i : Nat) (x1 : Int32) (Q : Mem → Prop) (M : Mem) : Prop :=
  ((¬ (M.1 113 i 0) = 0 → Q M) ∧ ((M.1 113 i 0) = 0 → pX0_open i M (fun M6 => pX0_moveOn i M6 x1 (fun M8 => Q M8))))
def pX0_seek (i : Nat) (M : Mem) (x1 : Int32) (Q : Mem → Prop) : Prop :=
  ((x1 ≤ (M.1 112 i 0) → bX0_seek_13 i x1 Q M) ∧ (¬ x1 ≤ (M.1 112 i 0) → pX0_dip i M x1 (fun M3 => bX0_seek_13 i x1 Q M3)))
set_option maxRecDepth 100000 in
set_option maxHeartbeats 400000 in
theorem wX0_seek_13 {Γ : Gam} {G : Gm} {Qf : State → Prop} (hG : Gd G) (C : Cx Γ G cX0_seek 2 RX0 none rmX0_seek) {i : Nat} (hi : i < 24) {x1 : Int32} {Q : Mem → Prop} (E : EndV Γ G Qf rmX0_seek Q) (M : Mem) (h : bX0_seek_13 i x1 Q M) : X Γ G Qf 2 0 0 13 [(0, .ref (ga G 0 i)), (1, .int x1)] [] M := by
  unfold bX0_seek_13 at h
  refine x_aload_n C dX0_seek_13 0 rfl ?_
  refine gf_0_13 C q24 hi dX0_seek_14 ?_
  refine x_if_ne (tgt := 29) C dX0_seek_17 (by decide) (fun c4 => ?_) (fun c4 => ?_)
  · replace h := h.1 c4
    exact x_vret C E h (Nat.le_of_ble_eq_true rfl) (Nat.le_of_ble_eq_true rfl) dX0_seek_29
  · replace h := h.2 c4
    refine x_aload_n C dX0_seek_20 0 rfl ?_
    refine x_callv (rest := []) C sv_X0_104 ob0 hi (kX0_open hG hi _ h) rfl rfl (Nat.le_of_ble_eq_true rfl) ⟨Nat.le_of_ble_eq_true rfl, Nat.le_of_ble_eq_true rfl⟩ rfl rfl ⟨Nat.le_of_ble_eq_true rfl, Nat.le_of_ble_eq_true rfl⟩ dX0_seek_21 (fun M6 h => ?_)
    refine x_aload_n C dX0_seek_24 0 rfl ?_
    refine x_iload_n C dX0_seek_25 1 rfl ?_
    refine x_callv (rest := []) C sv_X0_107 ob0 hi (kX0_moveOn hG hi _ _ h) rfl rfl (Nat.le_of_ble_eq_true rfl) ⟨Nat.le_of_ble_eq_true rfl, Nat.le_of_ble_eq_true rfl⟩ rfl rfl ⟨Nat.le_of_ble_eq_true rfl, Nat.le_of_ble_eq_true rfl⟩ dX0_seek_26 (fun M8 h => ?_)
    exact x_vret C E h (Nat.le_of_ble_eq_true rfl) (Nat.le_of_ble_eq_true rfl) dX0_seek_29
set_option maxRecDepth 100000 in
set_option maxHeartbeats 400000 in
theorem kX0_seek {l : Launch} {G : Gm} (hG : Gd G) {i : Nat} (hi : i < 24) (M : Mem) (x1 : Int32) {Q : Mem → Prop} (h : pX0_seek i M x1 Q) : Ctv l G yX0_seek cX0_seek 2 rmX0_seek [.ref (ga G 0 i), .int x1] M Q := by
  refine ctv_of (own := RX0) (by decide +kernel) rfl (Nat.le_of_ble_eq_true rfl) hG (fun Γ Qf hl C E => ?_)
  subst hl
  show X Γ G Qf 2 0 0 0 [(0, .ref (ga G 0 i)), (1, .int x1)] [] M
  unfold pX0_seek at h
  refine x_aload_n C dX0_seek_0 0 rfl ?_
  refine gf_0_12 C q33 hi dX0_seek_1 ?_
  refine x_iload_n C dX0_seek_4 1 rfl ?_
  refine x_icmp_ge (tgt := 13) C dX0_seek_5 (by decide) (fun c1 => ?_) (fun c1 => ?_)
  · replace h := h.1 c1
    refine X_sub (lv' := [(0, .ref (ga G 0 i)), (1, .int x1)]) [0, 1] rfl ?_
    exact wX0_seek_13 hG C hi E M h
  · replace h := h.2 c1
    refine x_aload_n C dX0_seek_8 0 rfl ?_
    refine x_iload_n C dX0_seek_9 1 rfl ?_
    refine x_callv (rest := []) C sv_X0_100 ob0 hi (kX0_dip hG hi _ _ h) rfl rfl (Nat.le_of_ble_eq_true rfl) ⟨Nat.le_of_ble_eq_true rfl, Nat.le_of_ble_eq_true rfl⟩ rfl rfl ⟨Nat.le_of_ble_eq_true rfl, Nat.le_of_ble_eq_true rfl⟩ dX0_seek_10 (fun M3 h => ?_)
    refine X_sub (lv' := [(0, .ref (ga G 0 i)), (1, .int x1)]) [0, 1] rfl ?_
    exact wX0_seek_13 hG C hi E M3 h
def rmX0_boundReaching : Room := { frames := 1, cells := 0, slots := 0, locals := 22 }
def pX0_boundReaching (i : Nat) (M : Mem) (x1 : Int32) (Q : Int32 → Mem → Prop) : Prop :=
  pX0_blockReaching i M x1 (fun r1 M2 => (((M2.1 109 i 0) ≤ r1 → Q 0 M2) ∧ (¬ (M2.1 109 i 0) ≤ r1 → vp_in r1 32 ∧ Q ((M2.1 108 i 0) * (M2.1 104 i (tn r1))) M2)))
set_option maxRecDepth 100000 in
set_option maxHeartbeats 400000 in
theorem kX0_boundReaching {l : Launch} {G : Gm} (hG : Gd G) {i : Nat} (hi : i < 24) (M : Mem) (x1 : Int32) {Q : Int32 → Mem → Prop} (h : pX0_boundReaching i M x1 Q) : Cti l G yX0_boundReaching cX0_boundReaching 3 .int rmX0_boundReaching [.ref (ga G 0 i), .int x1] M Q := by
  refine cti_of (own := RX0) (by decide +kernel) rfl (Nat.le_of_ble_eq_true rfl) hG (fun Γ Qf hl C E => ?_)
  subst hl
  show X Γ G Qf 3 0 0 0 [(0, .ref (ga G 0 i)), (1, .int x1)] [] M
  unfold pX0_boundReaching at h
  refine x_aload_n C dX0_boundReaching_0 0 rfl ?_
  refine x_iload_n C dX0_boundReaching_1 1 rfl ?_
  refine x_calli (rest := []) C sv_X0_97 ob0 hi (kX0_blockReaching hG hi _ _ h) rfl rfl (Nat.le_of_ble_eq_true rfl) ⟨Nat.le_of_ble_eq_true rfl, Nat.le_of_ble_eq_true rfl⟩ rfl rfl ⟨Nat.le_of_ble_eq_true rfl, Nat.le_of_ble_eq_true rfl⟩ dX0_boundReaching_2 (fun r1 M2 h => ?_)
  refine x_istore_n (lv' := [(2, .int r1), (0, .ref (ga G 0 i)), (1, .int x1)]) C dX0_boundReaching_5 rfl (Nat.le_of_ble_eq_true rfl) rfl ?_
  refine x_iload_n C dX0_boundReaching_6 0 rfl ?_
  refine x_aload_n C dX0_boundReaching_7 1 rfl ?_
  refine gf_0_9 C q21 hi dX0_boundReaching_8 ?_
  refine x_icmp_ge (tgt := 28) C dX0_boundReaching_11 (by decide) (fun c3 => ?_) (fun c3 => ?_)
  · replace h := h.1 c3
    refine x_iconst (v := 0) C dX0_boundReaching_28 rfl ?_
    exact x_iret C E h (Nat.le_of_ble_eq_true rfl) (Nat.le_of_ble_eq_true rfl) dX0_boundReaching_29
  · replace h := h.2 c3
    refine x_aload_n C dX0_boundReaching_14 1 rfl ?_
    refine gf_0_8 C q20 hi dX0_boundReaching_15 ?_
    refine x_aload_n C dX0_boundReaching_18 1 rfl ?_
    refine gf_0_4 C q30 hi dX0_boundReaching_19 ?_
    refine x_iload_n C dX0_boundReaching_22 0 rfl ?_
    obtain ⟨f4, h⟩ := h
    refine al_104 C hi f4 dX0_boundReaching_23 ?_
    refine x_imul C dX0_boundReaching_24 ?_
    refine x_goto (tgt := 29) C dX0_boundReaching_25 (by decide) ?_
    exact x_iret C E h (Nat.le_of_ble_eq_true rfl) (Nat.le_of_ble_eq_true rfl) dX0_boundReaching_29
def rmX0_behindReaching : Room := { frames := 1, cells := 0, slots := 0, locals := 22 }
def pX0_behindReaching (i : Nat) (M : Mem) (x1 : Int32) (Q : Int32 → Mem → Prop) : Prop :=
  pX0_blockReaching i M x1 (fun r1 M2 => (((M2.1 109 i 0) ≤ r1 → Q 64 M2) ∧ (¬ (M2.1 109 i 0) ≤ r1 → vp_in r1 32 ∧ Q ((M2.1 103 i (tn r1)) + 1) M2)))
set_option maxRecDepth 100000 in
set_option maxHeartbeats 400000 in
theorem kX0_behindReaching {l : Launch} {G : Gm} (hG : Gd G) {i : Nat} (hi : i < 24) (M : Mem) (x1 : Int32) {Q : Int32 → Mem → Prop} (h : pX0_behindReaching i M x1 Q) : Cti l G yX0_behindReaching cX0_behindReaching 3 .int rmX0_behindReaching [.ref (ga G 0 i), .int x1] M Q := by
  refine cti_of (own := RX0) (by decide +kernel) rfl (Nat.le_of_ble_eq_true rfl) hG (fun Γ Qf hl C E => ?_)
  subst hl
  show X Γ G Qf 3 0 0 0 [(0, .ref (ga G 0 i)), (1, .int x1)] [] M
  unfold pX0_behindReaching at h
  refine x_aload_n C dX0_behindReaching_0 0 rfl ?_
  refine x_iload_n C dX0_behindReaching_1 1 rfl ?_
  refine x_calli (rest := []) C sv_X0_97 ob0 hi (kX0_blockReaching hG hi _ _ h) rfl rfl (Nat.le_of_ble_eq_true rfl) ⟨Nat.le_of_ble_eq_true rfl, Nat.le_of_ble_eq_true rfl⟩ rfl rfl ⟨Nat.le_of_ble_eq_true rfl, Nat.le_of_ble_eq_true rfl⟩ dX0_behindReaching_2 (fun r1 M2 h => ?_)
  refine x_istore_n (lv' := [(2, .int r1), (0, .ref (ga G 0 i)), (1, .int x1)]) C dX0_behindReaching_5 rfl (Nat.le_of_ble_eq_true rfl) rfl ?_
  refine x_iload_n C dX0_behindReaching_6 0 rfl ?_
  refine x_aload_n C dX0_behindReaching_7 1 rfl ?_
  refine gf_0_9 C q21 hi dX0_behindReaching_8 ?_
  refine x_icmp_ge (tgt := 25) C dX0_behindReaching_11 (by decide) (fun c3 => ?_) (fun c3 => ?_)
  · replace h := h.1 c3
    refine x_bipush (v := 64) C dX0_behindReaching_25 rfl ?_
    exact x_iret C E h (Nat.le_of_ble_eq_true rfl) (Nat.le_of_ble_eq_true rfl) dX0_behindReaching_27
  · replace h := h.2 c3
    refine x_aload_n C dX0_behindReaching_14 1 rfl ?_
    refine gf_0_3 C q28 hi dX0_behindReaching_15 ?_
    refine x_iload_n C dX0_behindReaching_18 0 rfl ?_
    obtain ⟨f4, h⟩ := h
    refine al_103 C hi f4 dX0_behindReaching_19 ?_
    refine x_iconst (v := 1) C dX0_behindReaching_20 rfl ?_
    refine x_iadd C dX0_behindReaching_21 ?_
    refine x_goto (tgt := 27) C dX0_behindReaching_22 (by decide) ?_
    exact x_iret C E h (Nat.le_of_ble_eq_true rfl) (Nat.le_of_ble_eq_true rfl) dX0_behindReaching_27
def rmX10_isLetter : Room := { frames := 0, cells := 0, slots := 0, locals := 0 }
def pX10_isLetter (M : Mem) (x1 : Int32) (Q : Int32 → Mem → Prop) : Prop :=
  ((x1 < 97 → Q 0 M) ∧ (¬ x1 < 97 → ((122 < x1 → Q 0 M) ∧ (¬ 122 < x1 → Q 1 M))))
set_option maxRecDepth 100000 in
set_option maxHeartbeats 400000 in
theorem kX10_isLetter {l : Launch} {G : Gm} (hG : Gd G) (M : Mem) (x1 : Int32) {Q : Int32 → Mem → Prop} (h : pX10_isLetter M x1 Q) : Cti l G yX10_isLetter cX10_isLetter 1 .boolean rmX10_isLetter [.int x1] M Q := by
  refine cti_of (own := RX10) (by decide +kernel) rfl (Nat.le_of_ble_eq_true rfl) hG (fun Γ Qf hl C E => ?_)
  subst hl
  show X Γ G Qf 1 0 0 0 [(0, .int x1)] [] M
  unfold pX10_isLetter at h
  refine x_iload_n C dX10_isLetter_0 0 rfl ?_
  refine x_bipush (v := 97) C dX10_isLetter_1 rfl ?_
  refine x_icmp_lt (tgt := 16) C dX10_isLetter_3 (by decide) (fun c1 => ?_) (fun c1 => ?_)
  · replace h := h.1 c1
    refine x_iconst (v := 0) C dX10_isLetter_16 rfl ?_
    exact x_zret C E h rfl (Nat.le_of_ble_eq_true rfl) (Nat.le_of_ble_eq_true rfl) dX10_isLetter_17
  · replace h := h.2 c1
    refine x_iload_n C dX10_isLetter_6 0 rfl ?_
    refine x_bipush (v := 122) C dX10_isLetter_7 rfl ?_
    refine x_icmp_gt (tgt := 16) C dX10_isLetter_9 (by decide) (fun c2 => ?_) (fun c2 => ?_)
    · replace h := h.1 c2
      refine x_iconst (v := 0) C dX10_isLetter_16 rfl ?_
      exact x_zret C E h rfl (Nat.le_of_ble_eq_true rfl) (Nat.le_of_ble_eq_true rfl) dX10_isLetter_17
    · replace h := h.2 c2
      refine x_iconst (v := 1) C dX10_isLetter_12 rfl ?_
      refine x_goto (tgt := 17) C dX10_isLetter_13 (by decide) ?_
      exact x_zret C E h rfl (Nat.le_of_ble_eq_true rfl) (Nat.le_of_ble_eq_true rfl) dX10_isLetter_17
def rmX1_faultAt : Room := { frames := 0, cells := 0, slots := 0, locals := 0 }
def pX1_faultAt (M : Mem) (x1 : Int32) (x2 : Int32) (Q : Int32 → Mem → Prop) : Prop :=
  ∀ M1 : Mem, M1 = up1 M 203 0 0 x2 → Q x1 M1
set_option maxRecDepth 100000 in
set_option maxHeartbeats 400000 in
theorem kX1_faultAt {l : Launch} {G : Gm} (hG : Gd G) (M : Mem) (x1 : Int32) (x2 : Int32) {Q : Int32 → Mem → Prop} (h : pX1_faultAt M x1 x2 Q) : Cti l G yX1_faultAt cX1_faultAt 3 .int rmX1_faultAt [.ref (ga G 1 0), .int x1, .int x2] M Q := by
  refine cti_of (own := RX1) (by decide +kernel) rfl (Nat.le_of_ble_eq_true rfl) hG (fun Γ Qf hl C E => ?_)
  subst hl
  show X Γ G Qf 3 0 0 0 [(0, .ref (ga G 1 0)), (1, .int x1), (2, .int x2)] [] M
  unfold pX1_faultAt at h
  refine x_aload_n C dX1_faultAt_0 0 rfl ?_
  refine x_iload_n C dX1_faultAt_1 2 rfl ?_
  refine pf_1_3 C q39 z1 dX1_faultAt_2 ?_
  refine X_nameM (fun M1 eM1 => ?_)
  replace h := h M1 eM1
  refine x_iload_n C dX1_faultAt_5 1 rfl ?_
  exact x_iret C E h (Nat.le_of_ble_eq_true rfl) (Nat.le_of_ble_eq_true rfl) dX1_faultAt_6
def rmX10_spelledOn : Room := { frames := 0, cells := 0, slots := 0, locals := 0 }
def pX10_spelledOn (M : Mem) (x1 : Int64) (x2 : Int32) (Q : Int64 → Mem → Prop) : Prop :=
  Q ((x1 * 32) + (Int32.toInt64 ((x2 - 97) + 1))) M
set_option maxRecDepth 100000 in
set_option maxHeartbeats 400000 in
theorem kX10_spelledOn {l : Launch} {G : Gm} (hG : Gd G) (M : Mem) (x1 : Int64) (x2 : Int32) {Q : Int64 → Mem → Prop} (h : pX10_spelledOn M x1 x2 Q) : Ctl l G yX10_spelledOn cX10_spelledOn 3 .long rmX10_spelledOn [.long x1, .int x2] M Q := by
  refine ctl_of (own := RX10) (by decide +kernel) rfl (Nat.le_of_ble_eq_true rfl) hG (fun Γ Qf hl C E => ?_)
  subst hl
  show X Γ G Qf 3 0 0 0 [(0, .long x1), (2, .int x2)] [] M
  unfold pX10_spelledOn at h
  refine x_lload_n C dX10_spelledOn_0 0 rfl ?_
  refine x_ldc2 C q40 dX10_spelledOn_1 ?_
  refine x_lmul C dX10_spelledOn_4 ?_
  refine x_iload_n C dX10_spelledOn_5 1 rfl ?_
  refine x_bipush (v := 97) C dX10_spelledOn_6 rfl ?_
  refine x_isub C dX10_spelledOn_8 ?_
  refine x_iconst (v := 1) C dX10_spelledOn_9 rfl ?_
  refine x_iadd C dX10_spelledOn_10 ?_
  refine x_i2l C dX10_spelledOn_11 ?_
  refine x_ladd C dX10_spelledOn_12 ?_
  exact x_lret C E h (Nat.le_of_ble_eq_true rfl) (Nat.le_of_ble_eq_true rfl) dX10_spelledOn_13
def rmX9_numberOf : Room := { frames := 0, cells := 0, slots := 0, locals := 0 }
def bX9_numberOf_2 (x1 : Int64) (Q : Int32 → Mem → Prop) (L2 : Mem × Int32 → Prop) (M : Mem) (y3 : Int32) : Prop :=
  (((M.1 1001 0 0) ≤ y3 → Q (-1) M) ∧ (¬ (M.1 1001 0 0) ≤ y3 → vp_in y3 255 ∧ ((¬ (lg_cmp (M.2 1000 0 (tn y3)) x1) = 0 → ∀ v4 : Int32, v4 = y3 + 1 → L2 (M, v4)) ∧ ((lg_cmp (M.2 1000 0 (tn y3)) x1) = 0 → Q y3 M))))
def pX9_numberOf (M : Mem) (x1 : Int64) (Q : Int32 → Mem → Prop) : Prop :=
  ∃ n : Nat, lp (fun L s => bX9_numberOf_2 x1 Q L s.1 s.2) n (M, 0)
set_option maxRecDepth 100000 in
set_option maxHeartbeats 400000 in
theorem wX9_numberOf_2 {Γ : Gam} {G : Gm} {Qf : State → Prop} (hG : Gd G) (C : Cx Γ G cX9_numberOf 4 RX9 (some .int) rmX9_numberOf) {x1 : Int64} {Q : Int32 → Mem → Prop} (E : EndI Γ G Qf rmX9_numberOf Q) {L2 : Mem × Int32 → Prop} (hL2 : ∀ s, L2 s → X Γ G Qf 4 0 0 2 [(0, .ref (ga G 9 0)), (1, .long x1), (3, .int s.2)] [] s.1) (M : Mem) (y3 : Int32) (h : bX9_numberOf_2 x1 Q L2 M y3) : X Γ G Qf 4 0 0 2 [(0, .ref (ga G 9 0)), (1, .long x1), (3, .int y3)] [] M := by
  unfold bX9_numberOf_2 at h
  refine x_iload_n C dX9_numberOf_2 2 rfl ?_
  refine x_aload_n C dX9_numberOf_3 0 rfl ?_
  refine gf_9_1 C q41 z9 dX9_numberOf_4 ?_
  refine x_icmp_ge (tgt := 29) C dX9_numberOf_7 (by decide) (fun c1 => ?_) (fun c1 => ?_)
  · replace h := h.1 c1
    refine x_iconst (v := (-1)) C dX9_numberOf_29 rfl ?_
    exact x_iret C E h (Nat.le_of_ble_eq_true rfl) (Nat.le_of_ble_eq_true rfl) dX9_numberOf_30
  · replace h := h.2 c1
    refine x_aload_n C dX9_numberOf_10 0 rfl ?_
    refine gf_9_0 C q42 z9 dX9_numberOf_11 ?_
    refine x_iload_n C dX9_numberOf_14 2 rfl ?_
    obtain ⟨f2, h⟩ := h
    refine al_1000 C z1000 f2 dX9_numberOf_15 ?_
    refine x_lload_n C dX9_numberOf_16 1 rfl ?_
    refine x_lcmp C dX9_numberOf_17 ?_
    refine x_if_ne (tgt := 23) C dX9_numberOf_18 (by decide) (fun c3 => ?_) (fun c3 => ?_)
    · replace h := h.1 c3
      obtain ⟨v4, ev4⟩ : ∃ z : Int32, z = y3 + 1 := ⟨_, rfl⟩
      replace h := h v4 ev4
      refine x_iinc (v := v4) (lv' := [(3, .int v4), (0, .ref (ga G 9 0)), (1, .long x1)]) (j := 2) C dX9_numberOf_23 rfl (by rw [ev4]; rfl) (Nat.le_of_ble_eq_true rfl) rfl ?_
      refine x_goto (tgt := 2) C dX9_numberOf_26 (by decide) ?_
      refine X_sub (lv' := [(0, .ref (ga G 9 0)), (1, .long x1), (3, .int v4)]) [1, 2, 0] rfl ?_
      have w9 := hL2 (M, v4) h
      dsimp only at w9
      exact w9
    · replace h := h.2 c3
      refine x_iload_n C dX9_numberOf_21 2 rfl ?_
      exact x_iret C E h (Nat.le_of_ble_eq_true rfl) (Nat.le_of_ble_eq_true rfl) dX9_numberOf_22
set_option maxRecDepth 100000 in
set_option maxHeartbeats 400000 in
theorem kX9_numberOf {l : Launch} {G : Gm} (hG : Gd G) (M : Mem) (x1 : Int64) {Q : Int32 → Mem → Prop} (h : pX9_numberOf M x1 Q) : Cti l G yX9_numberOf cX9_numberOf 4 .int rmX9_numberOf [.ref (ga G 9 0), .long x1] M Q := by
  refine cti_of (own := RX9) (by decide +kernel) rfl (Nat.le_of_ble_eq_true rfl) hG (fun Γ Qf hl C E => ?_)
  subst hl
  show X Γ G Qf 4 0 0 0 [(0, .ref (ga G 9 0)), (1, .long x1)] [] M
  unfold pX9_numberOf at h
  refine x_iconst (v := 0) C dX9_numberOf_0 rfl ?_
  refine x_istore_n (lv' := [(3, .int 0), (0, .ref (ga G 9 0)), (1, .long x1)]) C dX9_numberOf_1 rfl (Nat.le_of_ble_eq_true rfl) rfl ?_
  obtain ⟨n9, h⟩ := h
  refine X_sub (lv' := [(0, .ref (ga G 9 0)), (1, .long x1), (3, .int 0)]) [1, 2, 0] rfl ?_
  have hb : ∀ (L : Mem × Int32 → Prop) (s : Mem × Int32), (∀ t, L t → X Γ G Qf 4 0 0 2 [(0, .ref (ga G 9 0)), (1, .long x1), (3, .int t.2)] [] t.1) → bX9_numberOf_2 x1 Q L s.1 s.2 → X Γ G Qf 4 0 0 2 [(0, .ref (ga G 9 0)), (1, .long x1), (3, .int s.2)] [] s.1 := fun L s hL h => wX9_numberOf_2 hG C E hL s.1 s.2 h
  have w9 := lp_walk (P := fun s : Mem × Int32 => X Γ G Qf 4 0 0 2 [(0, .ref (ga G 9 0)), (1, .long x1), (3, .int s.2)] [] s.1) h hb
  dsimp only at w9
  exact w9
def rmX9_learn : Room := { frames := 1, cells := 0, slots := 0, locals := 23 }
def pX9_learn (M : Mem) (x1 : Int64) (Q : Int32 → Mem → Prop) : Prop :=
  pX9_numberOf M x1 (fun r1 M2 => ((¬ r1 = (-1) → Q r1 M2) ∧ (r1 = (-1) → (((M2.1 1001 0 0) < 255 → vp_in (M2.1 1001 0 0) 255 ∧ ∀ M6 : Mem, M6 = up2 M2 1000 0 (tn (M2.1 1001 0 0)) x1 → ∀ M7 : Mem, M7 = up1 M6 1001 0 0 ((M6.1 1001 0 0) + 1) → Q ((M7.1 1001 0 0) - 1) M7) ∧ (¬ (M2.1 1001 0 0) < 255 → Q r1 M2)))))
set_option maxRecDepth 100000 in
set_option maxHeartbeats 400000 in
theorem kX9_learn {l : Launch} {G : Gm} (hG : Gd G) (M : Mem) (x1 : Int64) {Q : Int32 → Mem → Prop} (h : pX9_learn M x1 Q) : Cti l G yX9_learn cX9_learn 4 .int rmX9_learn [.ref (ga G 9 0), .long x1] M Q := by
  refine cti_of (own := RX9) (by decide +kernel) rfl (Nat.le_of_ble_eq_true rfl) hG (fun Γ Qf hl C E => ?_)
  subst hl
  show X Γ G Qf 4 0 0 0 [(0, .ref (ga G 9 0)), (1, .long x1)] [] M
  unfold pX9_learn at h
  refine x_aload_n C dX9_learn_0 0 rfl ?_
  refine x_lload_n C dX9_learn_1 1 rfl ?_
  refine x_calli (rest := []) C sv_X9_19 ob9 z9 (kX9_numberOf hG _ _ h) rfl rfl (Nat.le_of_ble_eq_true rfl) ⟨Nat.le_of_ble_eq_true rfl, Nat.le_of_ble_eq_true rfl⟩ rfl rfl ⟨Nat.le_of_ble_eq_true rfl, Nat.le_of_ble_eq_true rfl⟩ dX9_learn_2 (fun r1 M2 h => ?_)
  refine x_istore_n (lv' := [(3, .int r1), (0, .ref (ga G 9 0)), (1, .long x1)]) C dX9_learn_5 rfl (Nat.le_of_ble_eq_true rfl) rfl ?_
  refine x_iload_n C dX9_learn_6 0 rfl ?_
  refine x_iconst (v := (-1)) C dX9_learn_7 rfl ?_
  refine x_icmp_ne (tgt := 21) C dX9_learn_8 (by decide) (fun c3 => ?_) (fun c3 => ?_)
  · replace h := h.1 c3
    refine x_iload_n C dX9_learn_21 0 rfl ?_
    exact x_iret C E h (Nat.le_of_ble_eq_true rfl) (Nat.le_of_ble_eq_true rfl) dX9_learn_22
  · replace h := h.2 c3
    refine x_aload_n C dX9_learn_11 1 rfl ?_
    refine gf_9_1 C q41 z9 dX9_learn_12 ?_
    refine x_sipush (v := 255) C dX9_learn_15 rfl ?_
    refine x_icmp_lt (tgt := 23) C dX9_learn_18 (by decide) (fun c4 => ?_) (fun c4 => ?_)
    · replace h := h.1 c4
      refine x_aload_n C dX9_learn_23 1 rfl ?_
      refine gf_9_0 C q42 z9 dX9_learn_24 ?_
      refine x_aload_n C dX9_learn_27 1 rfl ?_
      refine gf_9_1 C q41 z9 dX9_learn_28 ?_
      refine x_lload_n C dX9_learn_31 2 rfl ?_
      obtain ⟨f5, h⟩ := h
      refine as_1000 C z1000 f5 dX9_learn_32 ?_
      refine X_nameM (fun M6 eM6 => ?_)
      replace h := h M6 eM6
      refine x_aload_n C dX9_learn_33 1 rfl ?_
      refine x_dup C dX9_learn_34 rfl ?_
      refine gf_9_1 C q41 z9 dX9_learn_35 ?_
      refine x_iconst (v := 1) C dX9_learn_38 rfl ?_
      refine x_iadd C dX9_learn_39 ?_
      refine pf_9_1 C q41 z9 dX9_learn_40 ?_
      refine X_nameM (fun M7 eM7 => ?_)
      replace h := h M7 eM7
      refine x_aload_n C dX9_learn_43 1 rfl ?_
      refine gf_9_1 C q41 z9 dX9_learn_44 ?_
      refine x_iconst (v := 1) C dX9_learn_47 rfl ?_
      refine x_isub C dX9_learn_48 ?_
      exact x_iret C E h (Nat.le_of_ble_eq_true rfl) (Nat.le_of_ble_eq_true rfl) dX9_learn_49
    · replace h := h.2 c4
      refine x_iload_n C dX9_learn_21 0 rfl ?_
      exact x_iret C E h (Nat.le_of_ble_eq_true rfl) (Nat.le_of_ble_eq_true rfl) dX9_learn_22
def rmX1_take : Room := { frames := 2, cells := 0, slots := 0, locals := 46 }
def pX1_take (M : Mem) (x1 : Int64) (Q : Int32 → Mem → Prop) : Prop :=
  pX9_learn M x1 (fun r1 M2 => ((¬ r1 = (-1) → vp_in (M2.1 202 0 0) 150 ∧ ∀ M5 : Mem, M5 = up1 M2 201 0 (tn (M2.1 202 0 0)) r1 → ∀ M6 : Mem, M6 = up1 M5 202 0 0 ((M5.1 202 0 0) + 1) → Q 1 M6) ∧ (r1 = (-1) → Q 0 M2)))
set_option maxRecDepth 100000 in
set_option maxHeartbeats 400000 in
theorem kX1_take {l : Launch} {G : Gm} (hG : Gd G) (M : Mem) (x1 : Int64) {Q : Int32 → Mem → Prop} (h : pX1_take M x1 Q) : Cti l G yX1_take cX1_take 4 .boolean rmX1_take [.ref (ga G 1 0), .long x1] M Q := by
  refine cti_of (own := RX1) (by decide +kernel) rfl (Nat.le_of_ble_eq_true rfl) hG (fun Γ Qf hl C E => ?_)
  subst hl
  show X Γ G Qf 4 0 0 0 [(0, .ref (ga G 1 0)), (1, .long x1)] [] M
  unfold pX1_take at h
  refine x_aload_n C dX1_take_0 0 rfl ?_
  refine gf_1_0 C q43 z1 dX1_take_1 ?_
  refine x_lload_n C dX1_take_4 1 rfl ?_
  refine x_calli (rest := []) C sv_X1_51 ob9 z9 (kX9_learn hG _ _ h) rfl rfl (Nat.le_of_ble_eq_true rfl) ⟨Nat.le_of_ble_eq_true rfl, Nat.le_of_ble_eq_true rfl⟩ rfl rfl ⟨Nat.le_of_ble_eq_true rfl, Nat.le_of_ble_eq_true rfl⟩ dX1_take_5 (fun r1 M2 h => ?_)
  refine x_istore_n (lv' := [(3, .int r1), (0, .ref (ga G 1 0)), (1, .long x1)]) C dX1_take_8 rfl (Nat.le_of_ble_eq_true rfl) rfl ?_
  refine x_iload_n C dX1_take_9 0 rfl ?_
  refine x_iconst (v := (-1)) C dX1_take_10 rfl ?_
  refine x_icmp_ne (tgt := 16) C dX1_take_11 (by decide) (fun c3 => ?_) (fun c3 => ?_)
  · replace h := h.1 c3
    refine x_aload_n C dX1_take_16 1 rfl ?_
    refine gf_1_1 C q44 z1 dX1_take_17 ?_
    refine x_aload_n C dX1_take_20 1 rfl ?_
    refine gf_1_2 C q45 z1 dX1_take_21 ?_
    refine x_iload_n C dX1_take_24 0 rfl ?_
    obtain ⟨f4, h⟩ := h
    refine as_201 C z201 f4 dX1_take_25 ?_
    refine X_nameM (fun M5 eM5 => ?_)
    replace h := h M5 eM5
    refine x_aload_n C dX1_take_26 1 rfl ?_
    refine x_dup C dX1_take_27 rfl ?_
    refine gf_1_2 C q45 z1 dX1_take_28 ?_
    refine x_iconst (v := 1) C dX1_take_31 rfl ?_
    refine x_iadd C dX1_take_32 ?_
    refine pf_1_2 C q45 z1 dX1_take_33 ?_
    refine X_nameM (fun M6 eM6 => ?_)
    replace h := h M6 eM6
    refine x_iconst (v := 1) C dX1_take_36 rfl ?_
    exact x_zret C E h rfl (Nat.le_of_ble_eq_true rfl) (Nat.le_of_ble_eq_true rfl) dX1_take_37
  · replace h := h.2 c3
    refine x_iconst (v := 0) C dX1_take_14 rfl ?_
    exact x_zret C E h rfl (Nat.le_of_ble_eq_true rfl) (Nat.le_of_ble_eq_true rfl) dX1_take_15
def rmX1_readWords : Room := { frames := 3, cells := 0, slots := 0, locals := 69 }
def bX1_readWords_140 (x2 : Int32) (Q : Int32 → Mem → Prop) (L13 : Mem × Int32 × Int64 × Int32 → Prop) (M : Mem) (y3 : Int32) (y4 : Int64) (y6 : Int32) : Prop :=
  ∀ v30 : Int32, v30 = y6 + 1 → L13 (M, y3, y4, v30)
def bX1_readWords_123 (x2 : Int32) (Q : Int32 → Mem → Prop) (L13 : Mem × Int32 × Int64 × Int32 → Prop) (M : Mem) (y4 : Int64) (y6 : Int32) (y7 : Int32) : Prop :=
  ((y7 = 32 → bX1_readWords_140 x2 Q L13 M (-1) y4 y6) ∧ (¬ y7 = 32 → pX1_faultAt M 1 y6 (fun r28 M29 => Q r28 M29)))
def bX1_readWords_73 (x2 : Int32) (Q : Int32 → Mem → Prop) (L13 : Mem × Int32 × Int64 × Int32 → Prop) (M : Mem) (y3 : Int32) (y4 : Int64) (y6 : Int32) (y7 : Int32) : Prop :=
  (((y6 - y3) < 8 → pX10_spelledOn M y4 y7 (fun r23 M24 => bX1_readWords_140 x2 Q L13 M24 y3 r23 y6)) ∧ (¬ (y6 - y3) < 8 → pX1_faultAt M 1 y6 (fun r25 M26 => Q r25 M26)))
def bX1_readWords_36 (x2 : Int32) (Q : Int32 → Mem → Prop) (L13 : Mem × Int32 × Int64 × Int32 → Prop) (M : Mem) (y3 : Int32) (y4 : Int64) (y6 : Int32) (y7 : Int32) : Prop :=
  pX10_isLetter M y7 (fun r9 M10 => ((r9 = 0 → ((y3 = (-1) → bX1_readWords_123 x2 Q L13 M10 y4 y6 y7) ∧ (¬ y3 = (-1) → pX1_take M10 y4 (fun r13 M14 => ((¬ r13 = 0 → bX1_readWords_123 x2 Q L13 M14 y4 y6 y7) ∧ (r13 = 0 → pX1_faultAt M14 2 y3 (fun r16 M17 => Q r16 M17))))))) ∧ (¬ r9 = 0 → ((¬ y3 = (-1) → bX1_readWords_73 x2 Q L13 M10 y3 y4 y6 y7) ∧ (y3 = (-1) → (((M10.1 202 0 0) < 150 → bX1_readWords_73 x2 Q L13 M10 y6 0 y6 y7) ∧ (¬ (M10.1 202 0 0) < 150 → pX1_faultAt M10 2 y6 (fun r20 M21 => Q r20 M21))))))))
def bX1_readWords_13 (x2 : Int32) (Q : Int32 → Mem → Prop) (L13 : Mem × Int32 × Int64 × Int32 → Prop) (M : Mem) (y3 : Int32) (y4 : Int64) (y6 : Int32) : Prop :=
  ((x2 < y6 → ((¬ (M.1 202 0 0) = 0 → Q 0 M) ∧ ((M.1 202 0 0) = 0 → pX1_faultAt M 1 x2 (fun r4 M5 => Q r4 M5)))) ∧ (¬ x2 < y6 → ((x2 ≤ y6 → bX1_readWords_36 x2 Q L13 M y3 y4 y6 32) ∧ (¬ x2 ≤ y6 → vp_in y6 300 ∧ ∀ v8 : Int32, v8 = (M.1 1100 0 (tn y6)) → bX1_readWords_36 x2 Q L13 M y3 y4 y6 v8))))
def pX1_readWords (M : Mem) (x2 : Int32) (Q : Int32 → Mem → Prop) : Prop :=
  ∀ M1 : Mem, M1 = up1 M 202 0 0 0 → ∃ n : Nat, lp (fun L s => bX1_readWords_13 x2 Q L s.1 s.2.1 s.2.2.1 s.2.2.2) n (M1, (-1), 0, 0)
set_option maxRecDepth 100000 in
set_option maxHeartbeats 400000 in
theorem wX1_readWords_140 {Γ : Gam} {G : Gm} {Qf : State → Prop} (hG : Gd G) (C : Cx Γ G cX1_readWords 8 RX1 (some .int) rmX1_readWords) {x2 : Int32} {Q : Int32 → Mem → Prop} (E : EndI Γ G Qf rmX1_readWords Q) {L13 : Mem × Int32 × Int64 × Int32 → Prop} (hL13 : ∀ s, L13 s → X Γ G Qf 8 0 0 13 [(0, .ref (ga G 1 0)), (1, .ref (ga G 1100 0)), (2, .int x2), (3, .int s.2.1), (4, .long s.2.2.1), (6, .int s.2.2.2)] [] s.1) (M : Mem) (y3 : Int32) (y4 : Int64) (y6 : Int32) (h : bX1_readWords_140 x2 Q L13 M y3 y4 y6) : X Γ G Qf 8 0 0 140 [(0, .ref (ga G 1 0)), (1, .ref (ga G 1100 0)), (2, .int x2), (3, .int y3), (4, .long y4), (6, .int y6)] [] M := by
  unfold bX1_readWords_140 at h
  obtain ⟨v30, ev30⟩ : ∃ z : Int32, z = y6 + 1 := ⟨_, rfl⟩
  replace h := h v30 ev30
  refine x_iinc (v := v30) (lv' := [(6, .int v30), (0, .ref (ga G 1 0)), (1, .ref (ga G 1100 0)), (2, .int x2), (3, .int y3), (4, .long y4)]) (j := 5) C dX1_readWords_140 rfl (by rw [ev30]; rfl) (Nat.le_of_ble_eq_true rfl) rfl ?_
  refine x_goto (tgt := 13) C dX1_readWords_143 (by decide) ?_
  refine X_sub (lv' := [(0, .ref (ga G 1 0)), (1, .ref (ga G 1100 0)), (2, .int x2), (3, .int y3), (4, .long y4), (6, .int v30)]) [1, 2, 3, 4, 5, 0] rfl ?_
  have w9 := hL13 (M, y3, y4, v30) h
  dsimp only at w9
  exact w9
set_option maxRecDepth 100000 in
set_option maxHeartbeats 400000 in
theorem wX1_readWords_123 {Γ : Gam} {G : Gm} {Qf : State → Prop} (hG : Gd G) (C : Cx Γ G cX1_readWords 8 RX1 (some .int) rmX1_readWords) {x2 : Int32} {Q : Int32 → Mem → Prop} (E : EndI Γ G Qf rmX1_readWords Q) {L13 : Mem × Int32 × Int64 × Int32 → Prop} (hL13 : ∀ s, L13 s → X Γ G Qf 8 0 0 13 [(0, .ref (ga G 1 0)), (1, .ref (ga G 1100 0)), (2, .int x2), (3, .int s.2.1), (4, .long s.2.2.1), (6, .int s.2.2.2)] [] s.1) (M : Mem) (y4 : Int64) (y6 : Int32) (y7 : Int32) (h : bX1_readWords_123 x2 Q L13 M y4 y6 y7) : X Γ G Qf 8 0 0 123 [(0, .ref (ga G 1 0)), (1, .ref (ga G 1100 0)), (2, .int x2), (4, .long y4), (6, .int y6), (7, .int y7)] [] M := by
  unfold bX1_readWords_123 at h
  refine x_iconst (v := (-1)) C dX1_readWords_123 rfl ?_
  refine x_istore_n (lv' := [(3, .int (-1)), (0, .ref (ga G 1 0)), (1, .ref (ga G 1100 0)), (2, .int x2), (4, .long y4), (6, .int y6), (7, .int y7)]) C dX1_readWords_124 rfl (Nat.le_of_ble_eq_true rfl) rfl ?_
  refine x_iload C dX1_readWords_125 6 rfl ?_
  refine x_bipush (v := 32) C dX1_readWords_127 rfl ?_
  refine x_icmp_eq (tgt := 140) C dX1_readWords_129 (by decide) (fun c27 => ?_) (fun c27 => ?_)
  · replace h := h.1 c27
    refine X_sub (lv' := [(0, .ref (ga G 1 0)), (1, .ref (ga G 1100 0)), (2, .int x2), (3, .int (-1)), (4, .long y4), (6, .int y6)]) [1, 2, 3, 0, 4, 5] rfl ?_
    exact wX1_readWords_140 hG C E hL13 M (-1) y4 y6 h
  · replace h := h.2 c27
    refine x_aload_n C dX1_readWords_132 1 rfl ?_
    refine x_iconst (v := 1) C dX1_readWords_133 rfl ?_
    refine x_iload C dX1_readWords_134 5 rfl ?_
    refine x_calli (rest := []) C sv_X1_39 ob1 z1 (kX1_faultAt hG _ _ _ h) rfl rfl (Nat.le_of_ble_eq_true rfl) ⟨Nat.le_of_ble_eq_true rfl, Nat.le_of_ble_eq_true rfl⟩ rfl rfl ⟨Nat.le_of_ble_eq_true rfl, Nat.le_of_ble_eq_true rfl⟩ dX1_readWords_136 (fun r28 M29 h => ?_)
    exact x_iret C E h (Nat.le_of_ble_eq_true rfl) (Nat.le_of_ble_eq_true rfl) dX1_readWords_139
set_option maxRecDepth 100000 in
set_option maxHeartbeats 400000 in
theorem wX1_readWords_73 {Γ : Gam} {G : Gm} {Qf : State → Prop} (hG : Gd G) (C : Cx Γ G cX1_readWords 8 RX1 (some .int) rmX1_readWords) {x2 : Int32} {Q : Int32 → Mem → Prop} (E : EndI Γ G Qf rmX1_readWords Q) {L13 : Mem × Int32 × Int64 × Int32 → Prop} (hL13 : ∀ s, L13 s → X Γ G Qf 8 0 0 13 [(0, .ref (ga G 1 0)), (1, .ref (ga G 1100 0)), (2, .int x2), (3, .int s.2.1), (4, .long s.2.2.1), (6, .int s.2.2.2)] [] s.1) (M : Mem) (y3 : Int32) (y4 : Int64) (y6 : Int32) (y7 : Int32) (h : bX1_readWords_73 x2 Q L13 M y3 y4 y6 y7) : X Γ G Qf 8 0 0 73 [(0, .ref (ga G 1 0)), (1, .ref (ga G 1100 0)), (2, .int x2), (3, .int y3), (4, .long y4), (6, .int y6), (7, .int y7)] [] M := by
  unfold bX1_readWords_73 at h
  refine x_iload C dX1_readWords_73 5 rfl ?_
  refine x_iload_n C dX1_readWords_75 3 rfl ?_
  refine x_isub C dX1_readWords_76 ?_
  refine x_bipush (v := 8) C dX1_readWords_77 rfl ?_
  refine x_icmp_lt (tgt := 90) C dX1_readWords_79 (by decide) (fun c22 => ?_) (fun c22 => ?_)
  · replace h := h.1 c22
    refine x_lload C dX1_readWords_90 4 rfl ?_
    refine x_iload C dX1_readWords_92 6 rfl ?_
    refine x_ncalll (rest := []) C sn_X1_43 (kX10_spelledOn hG _ _ _ h) rfl rfl (Nat.le_of_ble_eq_true rfl) ⟨Nat.le_of_ble_eq_true rfl, Nat.le_of_ble_eq_true rfl⟩ rfl rfl ⟨Nat.le_of_ble_eq_true rfl, Nat.le_of_ble_eq_true rfl⟩ dX1_readWords_94 (fun r23 M24 h => ?_)
    refine x_lstore (lv' := [(4, .long r23), (0, .ref (ga G 1 0)), (1, .ref (ga G 1100 0)), (2, .int x2), (3, .int y3), (6, .int y6), (7, .int y7)]) C dX1_readWords_97 (Nat.le_of_ble_eq_true rfl) rfl ?_
    refine x_goto (tgt := 140) C dX1_readWords_99 (by decide) ?_
    refine X_sub (lv' := [(0, .ref (ga G 1 0)), (1, .ref (ga G 1100 0)), (2, .int x2), (3, .int y3), (4, .long r23), (6, .int y6)]) [1, 2, 3, 4, 0, 5] rfl ?_
    exact wX1_readWords_140 hG C E hL13 M24 y3 r23 y6 h
  · replace h := h.2 c22
    refine x_aload_n C dX1_readWords_82 0 rfl ?_
    refine x_iconst (v := 1) C dX1_readWords_83 rfl ?_
    refine x_iload C dX1_readWords_84 5 rfl ?_
    refine x_calli (rest := []) C sv_X1_39 ob1 z1 (kX1_faultAt hG _ _ _ h) rfl rfl (Nat.le_of_ble_eq_true rfl) ⟨Nat.le_of_ble_eq_true rfl, Nat.le_of_ble_eq_true rfl⟩ rfl rfl ⟨Nat.le_of_ble_eq_true rfl, Nat.le_of_ble_eq_true rfl⟩ dX1_readWords_86 (fun r25 M26 h => ?_)
    exact x_iret C E h (Nat.le_of_ble_eq_true rfl) (Nat.le_of_ble_eq_true rfl) dX1_readWords_89
set_option maxRecDepth 100000 in
set_option maxHeartbeats 400000 in
theorem wX1_readWords_36 {Γ : Gam} {G : Gm} {Qf : State → Prop} (hG : Gd G) (C : Cx Γ G cX1_readWords 8 RX1 (some .int) rmX1_readWords) {x2 : Int32} {Q : Int32 → Mem → Prop} (E : EndI Γ G Qf rmX1_readWords Q) {L13 : Mem × Int32 × Int64 × Int32 → Prop} (hL13 : ∀ s, L13 s → X Γ G Qf 8 0 0 13 [(0, .ref (ga G 1 0)), (1, .ref (ga G 1100 0)), (2, .int x2), (3, .int s.2.1), (4, .long s.2.2.1), (6, .int s.2.2.2)] [] s.1) (M : Mem) (y3 : Int32) (y4 : Int64) (y6 : Int32) (y7 : Int32) (h : bX1_readWords_36 x2 Q L13 M y3 y4 y6 y7) : X Γ G Qf 8 0 0 36 [(0, .ref (ga G 1 0)), (1, .ref (ga G 1100 0)), (2, .int x2), (3, .int y3), (4, .long y4), (6, .int y6), (7, .int y7)] [] M := by
  unfold bX1_readWords_36 at h
  refine x_iload C dX1_readWords_36 6 rfl ?_
  refine x_ncalli (rest := []) C sn_X1_35 (kX10_isLetter hG _ _ h) rfl rfl (Nat.le_of_ble_eq_true rfl) ⟨Nat.le_of_ble_eq_true rfl, Nat.le_of_ble_eq_true rfl⟩ rfl rfl ⟨Nat.le_of_ble_eq_true rfl, Nat.le_of_ble_eq_true rfl⟩ dX1_readWords_38 (fun r9 M10 h => ?_)
  refine x_if_eq (tgt := 102) C dX1_readWords_41 (by decide) (fun c11 => ?_) (fun c11 => ?_)
  · replace h := h.1 c11
    refine x_iload_n C dX1_readWords_102 3 rfl ?_
    refine x_iconst (v := (-1)) C dX1_readWords_103 rfl ?_
    refine x_icmp_eq (tgt := 123) C dX1_readWords_104 (by decide) (fun c12 => ?_) (fun c12 => ?_)
    · replace h := h.1 c12
      refine X_sub (lv' := [(0, .ref (ga G 1 0)), (1, .ref (ga G 1100 0)), (2, .int x2), (4, .long y4), (6, .int y6), (7, .int y7)]) [0, 1, 2, 4, 5, 6] rfl ?_
      exact wX1_readWords_123 hG C E hL13 M10 y4 y6 y7 h
    · replace h := h.2 c12
      refine x_aload_n C dX1_readWords_107 0 rfl ?_
      refine x_lload C dX1_readWords_108 4 rfl ?_
      refine x_calli (rest := []) C sv_X1_47 ob1 z1 (kX1_take hG _ _ h) rfl rfl (Nat.le_of_ble_eq_true rfl) ⟨Nat.le_of_ble_eq_true rfl, Nat.le_of_ble_eq_true rfl⟩ rfl rfl ⟨Nat.le_of_ble_eq_true rfl, Nat.le_of_ble_eq_true rfl⟩ dX1_readWords_110 (fun r13 M14 h => ?_)
      refine x_if_ne (tgt := 123) C dX1_readWords_113 (by decide) (fun c15 => ?_) (fun c15 => ?_)
      · replace h := h.1 c15
        refine X_sub (lv' := [(0, .ref (ga G 1 0)), (1, .ref (ga G 1100 0)), (2, .int x2), (4, .long y4), (6, .int y6), (7, .int y7)]) [0, 1, 2, 4, 5, 6] rfl ?_
        exact wX1_readWords_123 hG C E hL13 M14 y4 y6 y7 h
      · replace h := h.2 c15
        refine x_aload_n C dX1_readWords_116 0 rfl ?_
        refine x_iconst (v := 2) C dX1_readWords_117 rfl ?_
        refine x_iload_n C dX1_readWords_118 3 rfl ?_
        refine x_calli (rest := []) C sv_X1_39 ob1 z1 (kX1_faultAt hG _ _ _ h) rfl rfl (Nat.le_of_ble_eq_true rfl) ⟨Nat.le_of_ble_eq_true rfl, Nat.le_of_ble_eq_true rfl⟩ rfl rfl ⟨Nat.le_of_ble_eq_true rfl, Nat.le_of_ble_eq_true rfl⟩ dX1_readWords_119 (fun r16 M17 h => ?_)
        exact x_iret C E h (Nat.le_of_ble_eq_true rfl) (Nat.le_of_ble_eq_true rfl) dX1_readWords_122
  · replace h := h.2 c11
    refine x_iload_n C dX1_readWords_44 3 rfl ?_
    refine x_iconst (v := (-1)) C dX1_readWords_45 rfl ?_
    refine x_icmp_ne (tgt := 73) C dX1_readWords_46 (by decide) (fun c18 => ?_) (fun c18 => ?_)
    · replace h := h.1 c18
      refine X_sub (lv' := [(0, .ref (ga G 1 0)), (1, .ref (ga G 1100 0)), (2, .int x2), (3, .int y3), (4, .long y4), (6, .int y6), (7, .int y7)]) [0, 1, 2, 3, 4, 5, 6] rfl ?_
      exact wX1_readWords_73 hG C E hL13 M10 y3 y4 y6 y7 h
    · replace h := h.2 c18
      refine x_iload C dX1_readWords_49 5 rfl ?_
      refine x_istore_n (lv' := [(3, .int y6), (0, .ref (ga G 1 0)), (1, .ref (ga G 1100 0)), (2, .int x2), (4, .long y4), (6, .int y6), (7, .int y7)]) C dX1_readWords_51 rfl (Nat.le_of_ble_eq_true rfl) rfl ?_
      refine x_lconst (v := 0) C dX1_readWords_52 rfl ?_
      refine x_lstore (lv' := [(4, .long 0), (3, .int y6), (0, .ref (ga G 1 0)), (1, .ref (ga G 1100 0)), (2, .int x2), (6, .int y6), (7, .int y7)]) C dX1_readWords_53 (Nat.le_of_ble_eq_true rfl) rfl ?_
      refine x_aload_n C dX1_readWords_55 2 rfl ?_
      refine gf_1_2 C q45 z1 dX1_readWords_56 ?_
      refine x_sipush (v := 150) C dX1_readWords_59 rfl ?_
      refine x_icmp_lt (tgt := 73) C dX1_readWords_62 (by decide) (fun c19 => ?_) (fun c19 => ?_)
      · replace h := h.1 c19
        refine X_sub (lv' := [(0, .ref (ga G 1 0)), (1, .ref (ga G 1100 0)), (2, .int x2), (3, .int y6), (4, .long 0), (6, .int y6), (7, .int y7)]) [2, 3, 4, 1, 0, 5, 6] rfl ?_
        exact wX1_readWords_73 hG C E hL13 M10 y6 0 y6 y7 h
      · replace h := h.2 c19
        refine x_aload_n C dX1_readWords_65 2 rfl ?_
        refine x_iconst (v := 2) C dX1_readWords_66 rfl ?_
        refine x_iload C dX1_readWords_67 5 rfl ?_
        refine x_calli (rest := []) C sv_X1_39 ob1 z1 (kX1_faultAt hG _ _ _ h) rfl rfl (Nat.le_of_ble_eq_true rfl) ⟨Nat.le_of_ble_eq_true rfl, Nat.le_of_ble_eq_true rfl⟩ rfl rfl ⟨Nat.le_of_ble_eq_true rfl, Nat.le_of_ble_eq_true rfl⟩ dX1_readWords_69 (fun r20 M21 h => ?_)
        exact x_iret C E h (Nat.le_of_ble_eq_true rfl) (Nat.le_of_ble_eq_true rfl) dX1_readWords_72
set_option maxRecDepth 100000 in
set_option maxHeartbeats 400000 in
theorem wX1_readWords_13 {Γ : Gam} {G : Gm} {Qf : State → Prop} (hG : Gd G) (C : Cx Γ G cX1_readWords 8 RX1 (some .int) rmX1_readWords) {x2 : Int32} {Q : Int32 → Mem → Prop} (E : EndI Γ G Qf rmX1_readWords Q) {L13 : Mem × Int32 × Int64 × Int32 → Prop} (hL13 : ∀ s, L13 s → X Γ G Qf 8 0 0 13 [(0, .ref (ga G 1 0)), (1, .ref (ga G 1100 0)), (2, .int x2), (3, .int s.2.1), (4, .long s.2.2.1), (6, .int s.2.2.2)] [] s.1) (M : Mem) (y3 : Int32) (y4 : Int64) (y6 : Int32) (h : bX1_readWords_13 x2 Q L13 M y3 y4 y6) : X Γ G Qf 8 0 0 13 [(0, .ref (ga G 1 0)), (1, .ref (ga G 1100 0)), (2, .int x2), (3, .int y3), (4, .long y4), (6, .int y6)] [] M := by
  unfold bX1_readWords_13 at h
  refine x_iload C dX1_readWords_13 5 rfl ?_
  refine x_iload_n C dX1_readWords_15 2 rfl ?_
  refine x_icmp_gt (tgt := 146) C dX1_readWords_16 (by decide) (fun c2 => ?_) (fun c2 => ?_)
  · replace h := h.1 c2
    refine x_aload_n C dX1_readWords_146 0 rfl ?_
    refine gf_1_2 C q45 z1 dX1_readWords_147 ?_
    refine x_if_ne (tgt := 162) C dX1_readWords_150 (by decide) (fun c3 => ?_) (fun c3 => ?_)
    · replace h := h.1 c3
      refine x_iconst (v := 0) C dX1_readWords_162 rfl ?_
      exact x_iret C E h (Nat.le_of_ble_eq_true rfl) (Nat.le_of_ble_eq_true rfl) dX1_readWords_163
    · replace h := h.2 c3
      refine x_aload_n C dX1_readWords_153 0 rfl ?_
      refine x_iconst (v := 1) C dX1_readWords_154 rfl ?_
      refine x_iload_n C dX1_readWords_155 2 rfl ?_
      refine x_calli (rest := []) C sv_X1_39 ob1 z1 (kX1_faultAt hG _ _ _ h) rfl rfl (Nat.le_of_ble_eq_true rfl) ⟨Nat.le_of_ble_eq_true rfl, Nat.le_of_ble_eq_true rfl⟩ rfl rfl ⟨Nat.le_of_ble_eq_true rfl, Nat.le_of_ble_eq_true rfl⟩ dX1_readWords_156 (fun r4 M5 h => ?_)
      refine x_goto (tgt := 163) C dX1_readWords_159 (by decide) ?_
      exact x_iret C E h (Nat.le_of_ble_eq_true rfl) (Nat.le_of_ble_eq_true rfl) dX1_readWords_163
  · replace h := h.2 c2
    refine x_iload C dX1_readWords_19 5 rfl ?_
    refine x_iload_n C dX1_readWords_21 2 rfl ?_
    refine x_icmp_ge (tgt := 32) C dX1_readWords_22 (by decide) (fun c6 => ?_) (fun c6 => ?_)
    · replace h := h.1 c6
      refine x_bipush (v := 32) C dX1_readWords_32 rfl ?_
      refine x_istore (lv' := [(7, .int 32), (0, .ref (ga G 1 0)), (1, .ref (ga G 1100 0)), (2, .int x2), (3, .int y3), (4, .long y4), (6, .int y6)]) C dX1_readWords_34 (Nat.le_of_ble_eq_true rfl) rfl ?_
      refine X_sub (lv' := [(0, .ref (ga G 1 0)), (1, .ref (ga G 1100 0)), (2, .int x2), (3, .int y3), (4, .long y4), (6, .int y6), (7, .int 32)]) [1, 2, 3, 4, 5, 6, 0] rfl ?_
      exact wX1_readWords_36 hG C E hL13 M y3 y4 y6 32 h
    · replace h := h.2 c6
      refine x_aload_n C dX1_readWords_25 1 rfl ?_
      refine x_iload C dX1_readWords_26 5 rfl ?_
      obtain ⟨f7, h⟩ := h
      refine al_1100 C z1100 f7 dX1_readWords_28 ?_
      refine x_goto (tgt := 34) C dX1_readWords_29 (by decide) ?_
      refine X_name (fun v8 ev8 => ?_)
      replace h := h v8 ev8
      refine x_istore (lv' := [(7, .int v8), (0, .ref (ga G 1 0)), (1, .ref (ga G 1100 0)), (2, .int x2), (3, .int y3), (4, .long y4), (6, .int y6)]) C dX1_readWords_34 (Nat.le_of_ble_eq_true rfl) rfl ?_
      refine X_sub (lv' := [(0, .ref (ga G 1 0)), (1, .ref (ga G 1100 0)), (2, .int x2), (3, .int y3), (4, .long y4), (6, .int y6), (7, .int v8)]) [1, 2, 3, 4, 5, 6, 0] rfl ?_
      exact wX1_readWords_36 hG C E hL13 M y3 y4 y6 v8 h
set_option maxRecDepth 100000 in
set_option maxHeartbeats 400000 in
theorem kX1_readWords {l : Launch} {G : Gm} (hG : Gd G) (M : Mem) (x2 : Int32) {Q : Int32 → Mem → Prop} (h : pX1_readWords M x2 Q) : Cti l G yX1_readWords cX1_readWords 8 .int rmX1_readWords [.ref (ga G 1 0), .ref (ga G 1100 0), .int x2] M Q := by
  refine cti_of (own := RX1) (by decide +kernel) rfl (Nat.le_of_ble_eq_true rfl) hG (fun Γ Qf hl C E => ?_)
  subst hl
  show X Γ G Qf 8 0 0 0 [(0, .ref (ga G 1 0)), (1, .ref (ga G 1100 0)), (2, .int x2)] [] M
  unfold pX1_readWords at h
  refine x_aload_n C dX1_readWords_0 0 rfl ?_
  refine x_iconst (v := 0) C dX1_readWords_1 rfl ?_
  refine pf_1_2 C q45 z1 dX1_readWords_2 ?_
  refine X_nameM (fun M1 eM1 => ?_)
  replace h := h M1 eM1
  refine x_iconst (v := (-1)) C dX1_readWords_5 rfl ?_
  refine x_istore_n (lv' := [(3, .int (-1)), (0, .ref (ga G 1 0)), (1, .ref (ga G 1100 0)), (2, .int x2)]) C dX1_readWords_6 rfl (Nat.le_of_ble_eq_true rfl) rfl ?_
  refine x_lconst (v := 0) C dX1_readWords_7 rfl ?_
  refine x_lstore (lv' := [(4, .long 0), (3, .int (-1)), (0, .ref (ga G 1 0)), (1, .ref (ga G 1100 0)), (2, .int x2)]) C dX1_readWords_8 (Nat.le_of_ble_eq_true rfl) rfl ?_
  refine x_iconst (v := 0) C dX1_readWords_10 rfl ?_
  refine x_istore (lv' := [(6, .int 0), (4, .long 0), (3, .int (-1)), (0, .ref (ga G 1 0)), (1, .ref (ga G 1100 0)), (2, .int x2)]) C dX1_readWords_11 (Nat.le_of_ble_eq_true rfl) rfl ?_
  obtain ⟨n9, h⟩ := h
  refine X_sub (lv' := [(0, .ref (ga G 1 0)), (1, .ref (ga G 1100 0)), (2, .int x2), (3, .int (-1)), (4, .long 0), (6, .int 0)]) [3, 4, 5, 2, 1, 0] rfl ?_
  have hb : ∀ (L : Mem × Int32 × Int64 × Int32 → Prop) (s : Mem × Int32 × Int64 × Int32), (∀ t, L t → X Γ G Qf 8 0 0 13 [(0, .ref (ga G 1 0)), (1, .ref (ga G 1100 0)), (2, .int x2), (3, .int t.2.1), (4, .long t.2.2.1), (6, .int t.2.2.2)] [] t.1) → bX1_readWords_13 x2 Q L s.1 s.2.1 s.2.2.1 s.2.2.2 → X Γ G Qf 8 0 0 13 [(0, .ref (ga G 1 0)), (1, .ref (ga G 1100 0)), (2, .int x2), (3, .int s.2.1), (4, .long s.2.2.1), (6, .int s.2.2.2)] [] s.1 := fun L s hL h => wX1_readWords_13 hG C E hL s.1 s.2.1 s.2.2.1 s.2.2.2 h
  have w9 := lp_walk (P := fun s : Mem × Int32 × Int64 × Int32 => X Γ G Qf 8 0 0 13 [(0, .ref (ga G 1 0)), (1, .ref (ga G 1100 0)), (2, .int x2), (3, .int s.2.1), (4, .long s.2.2.1), (6, .int s.2.2.2)] [] s.1) h hb
  dsimp only at w9
  exact w9
def rmX1_read : Room := { frames := 4, cells := 0, slots := 0, locals := 96 }
def pX1_read (M : Mem) (x2 : Int32) (Q : Int32 → Mem → Prop) : Prop :=
  ∀ v1 : Int32, v1 = (M.1 1001 0 0) → pX1_readWords M x2 (fun r2 M3 => ((¬ r2 = 0 → ∀ M5 : Mem, M5 = up1 M3 1001 0 0 v1 → Q r2 M5) ∧ (r2 = 0 → ∀ M6 : Mem, M6 = up1 M3 203 0 0 (-1) → Q r2 M6)))
set_option maxRecDepth 100000 in
set_option maxHeartbeats 400000 in
theorem kX1_read {l : Launch} {G : Gm} (hG : Gd G) (M : Mem) (x2 : Int32) {Q : Int32 → Mem → Prop} (h : pX1_read M x2 Q) : Cti l G yX1_read cX1_read 5 .int rmX1_read [.ref (ga G 1 0), .ref (ga G 1100 0), .int x2] M Q := by
  refine cti_of (own := RX1) (by decide +kernel) rfl (Nat.le_of_ble_eq_true rfl) hG (fun Γ Qf hl C E => ?_)
  subst hl
  show X Γ G Qf 5 0 0 0 [(0, .ref (ga G 1 0)), (1, .ref (ga G 1100 0)), (2, .int x2)] [] M
  unfold pX1_read at h
  refine x_aload_n C dX1_read_0 0 rfl ?_
  refine gf_1_0 C q43 z1 dX1_read_1 ?_
  refine gf_9_1 C q46 z9 dX1_read_4 ?_
  refine X_name (fun v1 ev1 => ?_)
  replace h := h v1 ev1
  refine x_istore_n (lv' := [(3, .int v1), (0, .ref (ga G 1 0)), (1, .ref (ga G 1100 0)), (2, .int x2)]) C dX1_read_7 rfl (Nat.le_of_ble_eq_true rfl) rfl ?_
  refine x_aload_n C dX1_read_8 1 rfl ?_
  refine x_aload_n C dX1_read_9 2 rfl ?_
  refine x_iload_n C dX1_read_10 3 rfl ?_
  refine x_calli (rest := []) C sv_X1_31 ob1 z1 (kX1_readWords hG _ _ h) rfl rfl (Nat.le_of_ble_eq_true rfl) ⟨Nat.le_of_ble_eq_true rfl, Nat.le_of_ble_eq_true rfl⟩ rfl rfl ⟨Nat.le_of_ble_eq_true rfl, Nat.le_of_ble_eq_true rfl⟩ dX1_read_11 (fun r2 M3 h => ?_)
  refine x_istore (lv' := [(4, .int r2), (3, .int v1), (0, .ref (ga G 1 0)), (1, .ref (ga G 1100 0)), (2, .int x2)]) C dX1_read_14 (Nat.le_of_ble_eq_true rfl) rfl ?_
  refine x_iload C dX1_read_16 0 rfl ?_
  refine x_if_ne (tgt := 29) C dX1_read_18 (by decide) (fun c4 => ?_) (fun c4 => ?_)
  · replace h := h.1 c4
    refine x_aload_n C dX1_read_29 2 rfl ?_
    refine gf_1_0 C q43 z1 dX1_read_30 ?_
    refine x_iload_n C dX1_read_33 1 rfl ?_
    refine pf_9_1 C q46 z9 dX1_read_34 ?_
    refine X_nameM (fun M5 eM5 => ?_)
    replace h := h M5 eM5
    refine x_iload C dX1_read_37 0 rfl ?_
    exact x_iret C E h (Nat.le_of_ble_eq_true rfl) (Nat.le_of_ble_eq_true rfl) dX1_read_39
  · replace h := h.2 c4
    refine x_aload_n C dX1_read_21 2 rfl ?_
    refine x_iconst (v := (-1)) C dX1_read_22 rfl ?_
    refine pf_1_3 C q39 z1 dX1_read_23 ?_
    refine X_nameM (fun M6 eM6 => ?_)
    replace h := h M6 eM6
    refine x_goto (tgt := 37) C dX1_read_26 (by decide) ?_
    refine x_iload C dX1_read_37 0 rfl ?_
    exact x_iret C E h (Nat.le_of_ble_eq_true rfl) (Nat.le_of_ble_eq_true rfl) dX1_read_39
