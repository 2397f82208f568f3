def rmX10_status : Room := { frames := 0, cells := 0, slots := 0, locals := 0 }
def pX10_status (M : Mem) (x1 : Int32) (Q : Int32 → Mem → Prop) : Prop :=
  ((¬ x1 = 0 → ((¬ x1 = 1 → Q (-1) M) ∧ (x1 = 1 → Q (M.1 1104 0 0) M))) ∧ (x1 = 0 → Q (M.1 1103 0 0) M))
set_option maxRecDepth 100000 in
set_option maxHeartbeats 400000 in
theorem kX10_status {l : Launch} {G : Gm} (hG : Gd G) (M : Mem) (x1 : Int32) {Q : Int32 → Mem → Prop} (h : pX10_status M x1 Q) : Cti l G yX10_status cX10_status 2 .int rmX10_status [.ref (ga G 10 0), .int x1] M Q := by
  refine cti_of (own := RX10) (by decide +kernel) rfl (Nat.le_of_ble_eq_true rfl) hG (fun Γ Qf hl C E => ?_)
  subst hl
  show X Γ G Qf 2 0 0 0 [(0, .ref (ga G 10 0)), (1, .int x1)] [] M
  unfold pX10_status at h
  refine x_iload_n C dX10_status_0 1 rfl ?_
  refine x_if_ne (tgt := 9) C dX10_status_1 (by decide) (fun c1 => ?_) (fun c1 => ?_)
  · replace h := h.1 c1
    refine x_iload_n C dX10_status_9 1 rfl ?_
    refine x_iconst (v := 1) C dX10_status_10 rfl ?_
    refine x_icmp_ne (tgt := 21) C dX10_status_11 (by decide) (fun c2 => ?_) (fun c2 => ?_)
    · replace h := h.1 c2
      refine x_iconst (v := (-1)) C dX10_status_21 rfl ?_
      exact x_iret C E h (Nat.le_of_ble_eq_true rfl) (Nat.le_of_ble_eq_true rfl) dX10_status_22
    · replace h := h.2 c2
      refine x_aload_n C dX10_status_14 0 rfl ?_
      refine gf_10_4 C q140 z10 dX10_status_15 ?_
      refine x_goto (tgt := 22) C dX10_status_18 (by decide) ?_
      exact x_iret C E h (Nat.le_of_ble_eq_true rfl) (Nat.le_of_ble_eq_true rfl) dX10_status_22
  · replace h := h.2 c1
    refine x_aload_n C dX10_status_4 0 rfl ?_
    refine gf_10_3 C q141 z10 dX10_status_5 ?_
    exact x_iret C E h (Nat.le_of_ble_eq_true rfl) (Nat.le_of_ble_eq_true rfl) dX10_status_8
def rmX10_spellingOf : Room := { frames := 1, cells := 0, slots := 0, locals := 22 }
def bX10_spellingOf_13 (x1 : Int32) (Q : Int64 → Mem → Prop) (L13 : Mem × Int64 × Int32 → Prop) (M : Mem) (y2 : Int64) (y4 : Int32) : Prop :=
  ((x1 ≤ y4 → Q y2 M) ∧ (¬ x1 ≤ y4 → vp_in y4 300 ∧ pX10_isLetter M (M.1 1100 0 (tn y4)) (fun r4 M5 => ((¬ r4 = 0 → pX10_spelledOn M5 y2 (M5.1 1100 0 (tn y4)) (fun r7 M8 => ∀ v9 : Int32, v9 = y4 + 1 → L13 (M8, r7, v9))) ∧ (r4 = 0 → Q 0 M5)))))
def pX10_spellingOf (M : Mem) (x1 : Int32) (Q : Int64 → Mem → Prop) : Prop :=
  ((x1 ≤ 8 → ∃ n : Nat, lp (fun L s => bX10_spellingOf_13 x1 Q L s.1 s.2.1 s.2.2) n (M, 0, 0)) ∧ (¬ x1 ≤ 8 → Q 0 M))
set_option maxRecDepth 100000 in
set_option maxHeartbeats 400000 in
theorem wX10_spellingOf_13 {Γ : Gam} {G : Gm} {Qf : State → Prop} (hG : Gd G) (C : Cx Γ G cX10_spellingOf 5 RX10 (some .long) rmX10_spellingOf) {x1 : Int32} {Q : Int64 → Mem → Prop} (E : EndL Γ G Qf rmX10_spellingOf Q) {L13 : Mem × Int64 × Int32 → Prop} (hL13 : ∀ s, L13 s → X Γ G Qf 5 0 0 13 [(0, .ref (ga G 10 0)), (1, .int x1), (2, .long s.2.1), (4, .int s.2.2)] [] s.1) (M : Mem) (y2 : Int64) (y4 : Int32) (h : bX10_spellingOf_13 x1 Q L13 M y2 y4) : X Γ G Qf 5 0 0 13 [(0, .ref (ga G 10 0)), (1, .int x1), (2, .long y2), (4, .int y4)] [] M := by
  unfold bX10_spellingOf_13 at h
  refine x_iload C dX10_spellingOf_13 3 rfl ?_
  refine x_iload_n C dX10_spellingOf_15 1 rfl ?_
  refine x_icmp_ge (tgt := 52) C dX10_spellingOf_16 (by decide) (fun c2 => ?_) (fun c2 => ?_)
  · replace h := h.1 c2
    refine x_lload_n C dX10_spellingOf_52 2 rfl ?_
    exact x_lret C E h (Nat.le_of_ble_eq_true rfl) (Nat.le_of_ble_eq_true rfl) dX10_spellingOf_53
  · replace h := h.2 c2
    refine x_aload_n C dX10_spellingOf_19 0 rfl ?_
    refine gf_10_0 C q131 z10 dX10_spellingOf_20 ?_
    refine x_iload C dX10_spellingOf_23 3 rfl ?_
    obtain ⟨f3, h⟩ := h
    refine al_1100 C z1100 f3 dX10_spellingOf_25 ?_
    refine x_scalli (rest := []) C ss_X10_408 (kX10_isLetter hG _ _ h) rfl rfl (Nat.le_of_ble_eq_true rfl) ⟨Nat.le_of_ble_eq_true rfl, Nat.le_of_ble_eq_true rfl⟩ rfl rfl ⟨Nat.le_of_ble_eq_true rfl, Nat.le_of_ble_eq_true rfl⟩ dX10_spellingOf_26 (fun r4 M5 h => ?_)
    refine x_if_ne (tgt := 34) C dX10_spellingOf_29 (by decide) (fun c6 => ?_) (fun c6 => ?_)
    · replace h := h.1 c6
      refine x_lload_n C dX10_spellingOf_34 2 rfl ?_
      refine x_aload_n C dX10_spellingOf_35 0 rfl ?_
      refine gf_10_0 C q131 z10 dX10_spellingOf_36 ?_
      refine x_iload C dX10_spellingOf_39 3 rfl ?_
      refine al_1100 C z1100 f3 dX10_spellingOf_41 ?_
      refine x_scalll (rest := []) C ss_X10_411 (kX10_spelledOn hG _ _ _ h) rfl rfl (Nat.le_of_ble_eq_true rfl) ⟨Nat.le_of_ble_eq_true rfl, Nat.le_of_ble_eq_true rfl⟩ rfl rfl ⟨Nat.le_of_ble_eq_true rfl, Nat.le_of_ble_eq_true rfl⟩ dX10_spellingOf_42 (fun r7 M8 h => ?_)
      refine x_lstore_n (lv' := [(2, .long r7), (0, .ref (ga G 10 0)), (1, .int x1), (4, .int y4)]) C dX10_spellingOf_45 rfl (Nat.le_of_ble_eq_true rfl) rfl ?_
      obtain ⟨v9, ev9⟩ : ∃ z : Int32, z = y4 + 1 := ⟨_, rfl⟩
      replace h := h v9 ev9
      refine x_iinc (v := v9) (lv' := [(4, .int v9), (2, .long r7), (0, .ref (ga G 10 0)), (1, .int x1)]) (j := 3) C dX10_spellingOf_46 rfl (by rw [ev9]; rfl) (Nat.le_of_ble_eq_true rfl) rfl ?_
      refine x_goto (tgt := 13) C dX10_spellingOf_49 (by decide) ?_
      refine X_sub (lv' := [(0, .ref (ga G 10 0)), (1, .int x1), (2, .long r7), (4, .int v9)]) [2, 3, 1, 0] rfl ?_
      have w9 := hL13 (M8, r7, v9) h
      dsimp only at w9
      exact w9
    · replace h := h.2 c6
      refine x_lconst (v := 0) C dX10_spellingOf_32 rfl ?_
      exact x_lret C E h (Nat.le_of_ble_eq_true rfl) (Nat.le_of_ble_eq_true rfl) dX10_spellingOf_33
set_option maxRecDepth 100000 in
set_option maxHeartbeats 400000 in
theorem kX10_spellingOf {l : Launch} {G : Gm} (hG : Gd G) (M : Mem) (x1 : Int32) {Q : Int64 → Mem → Prop} (h : pX10_spellingOf M x1 Q) : Ctl l G yX10_spellingOf cX10_spellingOf 5 .long rmX10_spellingOf [.ref (ga G 10 0), .int x1] M Q := by
  refine ctl_of (own := RX10) (by decide +kernel) rfl (Nat.le_of_ble_eq_true rfl) hG (fun Γ Qf hl C E => ?_)
  subst hl
  show X Γ G Qf 5 0 0 0 [(0, .ref (ga G 10 0)), (1, .int x1)] [] M
  unfold pX10_spellingOf at h
  refine x_iload_n C dX10_spellingOf_0 1 rfl ?_
  refine x_bipush (v := 8) C dX10_spellingOf_1 rfl ?_
  refine x_icmp_le (tgt := 8) C dX10_spellingOf_3 (by decide) (fun c1 => ?_) (fun c1 => ?_)
  · replace h := h.1 c1
    refine x_lconst (v := 0) C dX10_spellingOf_8 rfl ?_
    refine x_lstore_n (lv' := [(2, .long 0), (0, .ref (ga G 10 0)), (1, .int x1)]) C dX10_spellingOf_9 rfl (Nat.le_of_ble_eq_true rfl) rfl ?_
    refine x_iconst (v := 0) C dX10_spellingOf_10 rfl ?_
    refine x_istore (lv' := [(4, .int 0), (2, .long 0), (0, .ref (ga G 10 0)), (1, .int x1)]) C dX10_spellingOf_11 (Nat.le_of_ble_eq_true rfl) rfl ?_
    obtain ⟨n9, h⟩ := h
    refine X_sub (lv' := [(0, .ref (ga G 10 0)), (1, .int x1), (2, .long 0), (4, .int 0)]) [2, 3, 1, 0] rfl ?_
    have hb : ∀ (L : Mem × Int64 × Int32 → Prop) (s : Mem × Int64 × Int32), (∀ t, L t → X Γ G Qf 5 0 0 13 [(0, .ref (ga G 10 0)), (1, .int x1), (2, .long t.2.1), (4, .int t.2.2)] [] t.1) → bX10_spellingOf_13 x1 Q L s.1 s.2.1 s.2.2 → X Γ G Qf 5 0 0 13 [(0, .ref (ga G 10 0)), (1, .int x1), (2, .long s.2.1), (4, .int s.2.2)] [] s.1 := fun L s hL h => wX10_spellingOf_13 hG C E hL s.1 s.2.1 s.2.2 h
    have w9 := lp_walk (P := fun s : Mem × Int64 × Int32 => X Γ G Qf 5 0 0 13 [(0, .ref (ga G 10 0)), (1, .int x1), (2, .long s.2.1), (4, .int s.2.2)] [] s.1) h hb
    dsimp only at w9
    exact w9
  · replace h := h.2 c1
    refine x_lconst (v := 0) C dX10_spellingOf_6 rfl ?_
    exact x_lret C E h (Nat.le_of_ble_eq_true rfl) (Nat.le_of_ble_eq_true rfl) dX10_spellingOf_7
def rmX10_workBy : Room := { frames := 7, cells := 0, slots := 0, locals := 161 }
def pX10_workBy (M : Mem) (x1 : Int32) (x2 : Int32) (Q : Int32 → Mem → Prop) : Prop :=
  pX2_run M x1 x2 (fun M2 => pX2_allWork M2 (fun r3 M4 => Q r3 M4))
set_option maxRecDepth 100000 in
set_option maxHeartbeats 400000 in
theorem kX10_workBy {l : Launch} {G : Gm} (hG : Gd G) (M : Mem) (x1 : Int32) (x2 : Int32) {Q : Int32 → Mem → Prop} (h : pX10_workBy M x1 x2 Q) : Cti l G yX10_workBy cX10_workBy 3 .int rmX10_workBy [.ref (ga G 10 0), .int x1, .int x2] M Q := by
  refine cti_of (own := RX10) (by decide +kernel) rfl (Nat.le_of_ble_eq_true rfl) hG (fun Γ Qf hl C E => ?_)
  subst hl
  show X Γ G Qf 3 0 0 0 [(0, .ref (ga G 10 0)), (1, .int x1), (2, .int x2)] [] M
  unfold pX10_workBy at h
  refine x_aload_n C dX10_workBy_0 0 rfl ?_
  refine gf_10_14 C q142 z10 dX10_workBy_1 ?_
  refine x_iload_n C dX10_workBy_4 1 rfl ?_
  refine x_iload_n C dX10_workBy_5 2 rfl ?_
  refine x_callv (rest := []) C sv_X10_342 ob2 z2 (kX2_run hG _ _ _ h) rfl rfl (Nat.le_of_ble_eq_true rfl) ⟨Nat.le_of_ble_eq_true rfl, Nat.le_of_ble_eq_true rfl⟩ rfl rfl ⟨Nat.le_of_ble_eq_true rfl, Nat.le_of_ble_eq_true rfl⟩ dX10_workBy_6 (fun M2 h => ?_)
  refine x_aload_n C dX10_workBy_9 0 rfl ?_
  refine gf_10_14 C q142 z10 dX10_workBy_10 ?_
  refine x_calli (rest := []) C sv_X10_357 ob2 z2 (kX2_allWork hG _ h) rfl rfl (Nat.le_of_ble_eq_true rfl) ⟨Nat.le_of_ble_eq_true rfl, Nat.le_of_ble_eq_true rfl⟩ rfl rfl ⟨Nat.le_of_ble_eq_true rfl, Nat.le_of_ble_eq_true rfl⟩ dX10_workBy_13 (fun r3 M4 h => ?_)
  exact x_iret C E h (Nat.le_of_ble_eq_true rfl) (Nat.le_of_ble_eq_true rfl) dX10_workBy_16
