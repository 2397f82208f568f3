def rmX10_points : Room := { frames := 8, cells := 1, slots := 6, locals := 123 }
def pX10_points (M : Mem) (x1 : Int32) (x2 : Int32) (Q : Int32 → Mem → Prop) (K : String → Mem → Prop) : Prop :=
  pX10_needDocument M x1 (fun M2 => pX6_hasScored M2 x2 (fun r3 M4 => ((r3 = 0 → Q (-1) M4) ∧ (¬ r3 = 0 → pX3_pointsOf M4 x1 x2 (fun r6 M7 => Q r6 M7))))) K
set_option maxRecDepth 100000 in
set_option maxHeartbeats 400000 in
theorem kX10_points {l : Launch} {G : Gm} (hG : Gd G) (hl0 : l.stackTraces = false) (M : Mem) (x1 : Int32) (x2 : Int32) {Q : Int32 → Mem → Prop} {K : String → Mem → Prop} (h : pX10_points M x1 x2 Q K) : Cxi l G yX10_points cX10_points 3 .int rmX10_points [.ref (ga G 10 0), .int x1, .int x2] M Q K := by
  refine cxi_of hl0 (own := RX10) (by decide +kernel) rfl (Nat.le_of_ble_eq_true rfl) hG (fun Γ Qf hl C E EX => ?_)
  subst hl
  show X Γ G Qf 3 0 0 0 [(0, .ref (ga G 10 0)), (1, .int x1), (2, .int x2)] [] M
  unfold pX10_points at h
  refine x_aload_n C dX10_points_0 0 rfl ?_
  refine x_iload_n C dX10_points_1 1 rfl ?_
  refine x_tcallv (rest := []) C EX sv_X10_156 ob10 z10 (kX10_needDocument hG EX.2.2 _ _ h) rfl rfl (Nat.le_of_ble_eq_true rfl) ⟨Nat.le_of_ble_eq_true rfl, Nat.le_of_ble_eq_true rfl⟩ rfl rfl ⟨Nat.le_of_ble_eq_true rfl, Nat.le_of_ble_eq_true rfl⟩ dX10_points_2 (fun M2 h => ?_)
  refine x_aload_n C dX10_points_5 0 rfl ?_
  refine gf_10_8 C q846 z10 dX10_points_6 ?_
  refine x_iload_n C dX10_points_9 2 rfl ?_
  refine x_calli (rest := []) C sv_X10_296 ob6 z6 (kX6_hasScored hG _ _ h) rfl rfl (Nat.le_of_ble_eq_true rfl) ⟨Nat.le_of_ble_eq_true rfl, Nat.le_of_ble_eq_true rfl⟩ rfl rfl ⟨Nat.le_of_ble_eq_true rfl, Nat.le_of_ble_eq_true rfl⟩ dX10_points_10 (fun r3 M4 h => ?_)
  refine x_if_eq (tgt := 28) C dX10_points_13 (by decide) (fun c5 => ?_) (fun c5 => ?_)
  · replace h := h.1 c5
    refine x_iconst (v := (-1)) C dX10_points_28 rfl ?_
    exact x_iret C E h (Nat.le_of_ble_eq_true rfl) (Nat.le_of_ble_eq_true rfl) dX10_points_29
  · replace h := h.2 c5
    refine x_aload_n C dX10_points_16 0 rfl ?_
    refine gf_10_11 C q139 z10 dX10_points_17 ?_
    refine x_iload_n C dX10_points_20 1 rfl ?_
    refine x_iload_n C dX10_points_21 2 rfl ?_
    refine x_calli (rest := []) C sv_X10_399 ob3 z3 (kX3_pointsOf hG _ _ _ h) rfl rfl (Nat.le_of_ble_eq_true rfl) ⟨Nat.le_of_ble_eq_true rfl, Nat.le_of_ble_eq_true rfl⟩ rfl rfl ⟨Nat.le_of_ble_eq_true rfl, Nat.le_of_ble_eq_true rfl⟩ dX10_points_22 (fun r6 M7 h => ?_)
    refine x_goto (tgt := 29) C dX10_points_25 (by decide) ?_
    exact x_iret C E h (Nat.le_of_ble_eq_true rfl) (Nat.le_of_ble_eq_true rfl) dX10_points_29
def rmX10_phrase : Room := { frames := 8, cells := 1, slots := 6, locals := 123 }
def pX10_phrase (M : Mem) (x1 : Int32) (x2 : Int32) (Q : Int32 → Mem → Prop) (K : String → Mem → Prop) : Prop :=
  pX10_needDocument M x1 (fun M2 => ((x2 < 0 → Q (-1) M2) ∧ (¬ x2 < 0 → ((x2 < (M2.1 708 0 0) → pX3_phraseBegins M2 x1 x2 (fun r5 M6 => Q r5 M6)) ∧ (¬ x2 < (M2.1 708 0 0) → Q (-1) M2))))) K
set_option maxRecDepth 100000 in
set_option maxHeartbeats 400000 in
theorem kX10_phrase {l : Launch} {G : Gm} (hG : Gd G) (hl0 : l.stackTraces = false) (M : Mem) (x1 : Int32) (x2 : Int32) {Q : Int32 → Mem → Prop} {K : String → Mem → Prop} (h : pX10_phrase M x1 x2 Q K) : Cxi l G yX10_phrase cX10_phrase 3 .int rmX10_phrase [.ref (ga G 10 0), .int x1, .int x2] M Q K := by
  refine cxi_of hl0 (own := RX10) (by decide +kernel) rfl (Nat.le_of_ble_eq_true rfl) hG (fun Γ Qf hl C E EX => ?_)
  subst hl
  show X Γ G Qf 3 0 0 0 [(0, .ref (ga G 10 0)), (1, .int x1), (2, .int x2)] [] M
  unfold pX10_phrase at h
  refine x_aload_n C dX10_phrase_0 0 rfl ?_
  refine x_iload_n C dX10_phrase_1 1 rfl ?_
  refine x_tcallv (rest := []) C EX sv_X10_156 ob10 z10 (kX10_needDocument hG EX.2.2 _ _ h) rfl rfl (Nat.le_of_ble_eq_true rfl) ⟨Nat.le_of_ble_eq_true rfl, Nat.le_of_ble_eq_true rfl⟩ rfl rfl ⟨Nat.le_of_ble_eq_true rfl, Nat.le_of_ble_eq_true rfl⟩ dX10_phrase_2 (fun M2 h => ?_)
  refine x_iload_n C dX10_phrase_5 2 rfl ?_
  refine x_if_lt (tgt := 20) C dX10_phrase_6 (by decide) (fun c3 => ?_) (fun c3 => ?_)
  · replace h := h.1 c3
    refine x_iconst (v := (-1)) C dX10_phrase_20 rfl ?_
    exact x_iret C E h (Nat.le_of_ble_eq_true rfl) (Nat.le_of_ble_eq_true rfl) dX10_phrase_21
  · replace h := h.2 c3
    refine x_iload_n C dX10_phrase_9 2 rfl ?_
    refine x_aload_n C dX10_phrase_10 0 rfl ?_
    refine gf_10_8 C q846 z10 dX10_phrase_11 ?_
    refine gf_6_8 C q883 z6 dX10_phrase_14 ?_
    refine x_icmp_lt (tgt := 22) C dX10_phrase_17 (by decide) (fun c4 => ?_) (fun c4 => ?_)
    · replace h := h.1 c4
      refine x_aload_n C dX10_phrase_22 0 rfl ?_
      refine gf_10_11 C q139 z10 dX10_phrase_23 ?_
      refine x_iload_n C dX10_phrase_26 1 rfl ?_
      refine x_iload_n C dX10_phrase_27 2 rfl ?_
      refine x_calli (rest := []) C sv_X10_405 ob3 z3 (kX3_phraseBegins hG _ _ _ h) rfl rfl (Nat.le_of_ble_eq_true rfl) ⟨Nat.le_of_ble_eq_true rfl, Nat.le_of_ble_eq_true rfl⟩ rfl rfl ⟨Nat.le_of_ble_eq_true rfl, Nat.le_of_ble_eq_true rfl⟩ dX10_phrase_28 (fun r5 M6 h => ?_)
      exact x_iret C E h (Nat.le_of_ble_eq_true rfl) (Nat.le_of_ble_eq_true rfl) dX10_phrase_31
    · replace h := h.2 c4
      refine x_iconst (v := (-1)) C dX10_phrase_20 rfl ?_
      exact x_iret C E h (Nat.le_of_ble_eq_true rfl) (Nat.le_of_ble_eq_true rfl) dX10_phrase_21
def rmX10_depth : Room := { frames := 10, cells := 3, slots := 18, locals := 167 }
def bX10_depth_8 (x1 : Int32) (x2 : Int32) (Q : Int32 → Mem → Prop) (K : String → Mem → Prop) (L8 : Mem × Int32 → Prop) (M : Mem) (y3 : Int32) : Prop :=
  ((10 < y3 → Q (-1) M) ∧ (¬ 10 < y3 → pX2_run M y3 (M.1 507 0 0) (fun M5 => vp_in x1 24 ∧ vp_in x2 32 ∧ (((M5.1 105 (tn x1) (tn x2)) ≤ 0 → ∀ v9 : Int32, v9 = y3 + 1 → L8 (M5, v9)) ∧ (¬ (M5.1 105 (tn x1) (tn x2)) ≤ 0 → Q y3 M5)))))
def pX10_depth (M : Mem) (x1 : Int32) (x2 : Int32) (Q : Int32 → Mem → Prop) (K : String → Mem → Prop) : Prop :=
  pX10_needScoredBlock M x1 x2 (fun M2 => ∃ n : Nat, lp (fun L s => bX10_depth_8 x1 x2 Q K L s.1 s.2) n (M2, 1)) K
set_option maxRecDepth 100000 in
set_option maxHeartbeats 400000 in
theorem wX10_depth_8 {Γ : Gam} {G : Gm} {Qf : State → Prop} (hG : Gd G) (C : Cx Γ G cX10_depth 4 RX10 (some .int) rmX10_depth) {x1 : Int32} {x2 : Int32} {Q : Int32 → Mem → Prop} {K : String → Mem → Prop} (E : EndI Γ G Qf rmX10_depth Q) (EX : EndX Γ G Qf rmX10_depth K) {L8 : Mem × Int32 → Prop} (hL8 : ∀ s, L8 s → X Γ G Qf 4 3 18 8 [(0, .ref (ga G 10 0)), (1, .int x1), (2, .int x2), (3, .int s.2)] [] s.1) (M : Mem) (y3 : Int32) (h : bX10_depth_8 x1 x2 Q K L8 M y3) : X Γ G Qf 4 3 18 8 [(0, .ref (ga G 10 0)), (1, .int x1), (2, .int x2), (3, .int y3)] [] M := by
  unfold bX10_depth_8 at h
  refine x_iload_n C dX10_depth_8 3 rfl ?_
  refine x_bipush (v := 10) C dX10_depth_9 rfl ?_
  refine x_icmp_gt (tgt := 54) C dX10_depth_11 (by decide) (fun c3 => ?_) (fun c3 => ?_)
  · replace h := h.1 c3
    refine x_iconst (v := (-1)) C dX10_depth_54 rfl ?_
    exact x_iret C E h (Nat.le_of_ble_eq_true rfl) (Nat.le_of_ble_eq_true rfl) dX10_depth_55
  · replace h := h.2 c3
    refine x_aload_n C dX10_depth_14 0 rfl ?_
    refine gf_10_14 C q142 z10 dX10_depth_15 ?_
    refine x_iload_n C dX10_depth_18 3 rfl ?_
    refine x_aload_n C dX10_depth_19 0 rfl ?_
    refine gf_10_6 C q137 z10 dX10_depth_20 ?_
    refine gf_4_7 C q850 z4 dX10_depth_23 ?_
    refine x_callv (rest := []) C sv_X10_342 ob2 z2 (kX2_run hG _ _ _ h) rfl rfl (Nat.le_of_ble_eq_true rfl) ⟨Nat.le_of_ble_eq_true rfl, Nat.le_of_ble_eq_true rfl⟩ rfl rfl ⟨Nat.le_of_ble_eq_true rfl, Nat.le_of_ble_eq_true rfl⟩ dX10_depth_26 (fun M5 h => ?_)
    refine x_aload_n C dX10_depth_29 0 rfl ?_
    refine gf_10_14 C q142 z10 dX10_depth_30 ?_
    refine gf_2_2 C q881 z2 dX10_depth_33 ?_
    refine x_iload_n C dX10_depth_36 1 rfl ?_
    obtain ⟨f6, h⟩ := h
    refine al_302 C z302 f6 dX10_depth_37 ?_
    refine gf_0_5 C q882 (vp_lt f6) dX10_depth_38 ?_
    refine x_iload_n C dX10_depth_41 2 rfl ?_
    obtain ⟨f7, h⟩ := h
    refine al_105 C (vp_lt f6) f7 dX10_depth_42 ?_
    refine x_if_le (tgt := 48) C dX10_depth_43 (by decide) (fun c8 => ?_) (fun c8 => ?_)
    · replace h := h.1 c8
      obtain ⟨v9, ev9⟩ : ∃ z : Int32, z = y3 + 1 := ⟨_, rfl⟩
      replace h := h v9 ev9
      refine x_iinc (v := v9) (lv' := [(3, .int v9), (0, .ref (ga G 10 0)), (1, .int x1), (2, .int x2)]) (j := 3) C dX10_depth_48 rfl (by rw [ev9]; rfl) (Nat.le_of_ble_eq_true rfl) rfl ?_
      refine x_goto (tgt := 8) C dX10_depth_51 (by decide) ?_
      refine X_sub (lv' := [(0, .ref (ga G 10 0)), (1, .int x1), (2, .int x2), (3, .int v9)]) [1, 2, 3, 0] rfl ?_
      have w9 := hL8 (M5, v9) h
      dsimp only at w9
      exact w9
    · replace h := h.2 c8
      refine x_iload_n C dX10_depth_46 3 rfl ?_
      exact x_iret C E h (Nat.le_of_ble_eq_true rfl) (Nat.le_of_ble_eq_true rfl) dX10_depth_47
set_option maxRecDepth 100000 in
set_option maxHeartbeats 400000 in
theorem kX10_depth {l : Launch} {G : Gm} (hG : Gd G) (hl0 : l.stackTraces = false) (M : Mem) (x1 : Int32) (x2 : Int32) {Q : Int32 → Mem → Prop} {K : String → Mem → Prop} (h : pX10_depth M x1 x2 Q K) : Cxi l G yX10_depth cX10_depth 4 .int rmX10_depth [.ref (ga G 10 0), .int x1, .int x2] M Q K := by
  refine cxi_of hl0 (own := RX10) (by decide +kernel) rfl (Nat.le_of_ble_eq_true rfl) hG (fun Γ Qf hl C E EX => ?_)
  subst hl
  show X Γ G Qf 4 0 0 0 [(0, .ref (ga G 10 0)), (1, .int x1), (2, .int x2)] [] M
  unfold pX10_depth at h
  refine x_aload_n C dX10_depth_0 0 rfl ?_
  refine x_iload_n C dX10_depth_1 1 rfl ?_
  refine x_iload_n C dX10_depth_2 2 rfl ?_
  refine x_tcallv (rest := []) C EX sv_X10_375 ob10 z10 (kX10_needScoredBlock hG EX.2.2 _ _ _ h) rfl rfl (Nat.le_of_ble_eq_true rfl) ⟨Nat.le_of_ble_eq_true rfl, Nat.le_of_ble_eq_true rfl⟩ rfl rfl ⟨Nat.le_of_ble_eq_true rfl, Nat.le_of_ble_eq_true rfl⟩ dX10_depth_3 (fun M2 h => ?_)
  refine x_iconst (v := 1) C dX10_depth_6 rfl ?_
  refine x_istore_n (lv' := [(3, .int 1), (0, .ref (ga G 10 0)), (1, .int x1), (2, .int x2)]) C dX10_depth_7 rfl (Nat.le_of_ble_eq_true rfl) rfl ?_
  obtain ⟨n9, h⟩ := h
  refine X_sub (lv' := [(0, .ref (ga G 10 0)), (1, .int x1), (2, .int x2), (3, .int 1)]) [1, 2, 3, 0] rfl ?_
  have hb : ∀ (L : Mem × Int32 → Prop) (s : Mem × Int32), (∀ t, L t → X Γ G Qf 4 3 18 8 [(0, .ref (ga G 10 0)), (1, .int x1), (2, .int x2), (3, .int t.2)] [] t.1) → bX10_depth_8 x1 x2 Q K L s.1 s.2 → X Γ G Qf 4 3 18 8 [(0, .ref (ga G 10 0)), (1, .int x1), (2, .int x2), (3, .int s.2)] [] s.1 := fun L s hL h => wX10_depth_8 hG C E EX hL s.1 s.2 h
  have w9 := lp_walk (P := fun s : Mem × Int32 => X Γ G Qf 4 3 18 8 [(0, .ref (ga G 10 0)), (1, .int x1), (2, .int x2), (3, .int s.2)] [] s.1) h hb
  dsimp only at w9
  exact w9
def rmX10_without : Room := { frames := 8, cells := 1, slots := 6, locals := 125 }
def bX10_without_94 (x1 : Int32) (x2 : Int32) (Q : Int32 → Mem → Prop) (K : String → Mem → Prop) (L42 : Mem × Int32 × Int32 → Prop) (M : Mem) (y3 : Int32) (y4 : Int32) : Prop :=
  ∀ v18 : Int32, v18 = y4 + 1 → L42 (M, y3, v18)
def bX10_without_91 (x1 : Int32) (x2 : Int32) (Q : Int32 → Mem → Prop) (K : String → Mem → Prop) (L42 : Mem × Int32 × Int32 → Prop) (M : Mem) (y3 : Int32) (y4 : Int32) : Prop :=
  ∀ v17 : Int32, v17 = y3 + 1 → bX10_without_94 x1 x2 Q K L42 M v17 y4
def bX10_without_42 (x1 : Int32) (x2 : Int32) (Q : Int32 → Mem → Prop) (K : String → Mem → Prop) (L42 : Mem × Int32 × Int32 → Prop) (M : Mem) (y3 : Int32) (y4 : Int32) : Prop :=
  ((x1 ≤ y4 → Q y3 M) ∧ (¬ x1 ≤ y4 → (((M.1 904 0 0) ≤ y4 → Q y3 M) ∧ (¬ (M.1 904 0 0) ≤ y4 → vp_in y4 64 ∧ pX8_placeOf 1 M (M.1 902 0 (tn y4)) (fun r13 M14 => ((r13 = (-1) → bX10_without_91 x1 x2 Q K L42 M14 y3 y4) ∧ (¬ r13 = (-1) → ((r13 < x1 → bX10_without_94 x1 x2 Q K L42 M14 y3 y4) ∧ (¬ r13 < x1 → bX10_without_91 x1 x2 Q K L42 M14 y3 y4)))))))))
def pX10_without (M : Mem) (x1 : Int32) (x2 : Int32) (Q : Int32 → Mem → Prop) (K : String → Mem → Prop) : Prop :=
  pX10_needBetween M x1 1 10 (fun M2 => pX6_hasScored M2 x2 (fun r3 M4 => ((¬ r3 = 0 → pX8_rank 0 M4 (-1) (fun M7 => pX8_rank 1 M7 x2 (fun M9 => ∃ n : Nat, lp (fun L s => bX10_without_42 x1 x2 Q K L s.1 s.2.1 s.2.2) n (M9, 0, 0)))) ∧ (r3 = 0 → Q (-1) M4)))) K
set_option maxRecDepth 100000 in
set_option maxHeartbeats 400000 in
theorem wX10_without_94 {Γ : Gam} {G : Gm} {Qf : State → Prop} (hG : Gd G) (C : Cx Γ G cX10_without 6 RX10 (some .int) rmX10_without) {x1 : Int32} {x2 : Int32} {Q : Int32 → Mem → Prop} {K : String → Mem → Prop} (E : EndI Γ G Qf rmX10_without Q) (EX : EndX Γ G Qf rmX10_without K) {L42 : Mem × Int32 × Int32 → Prop} (hL42 : ∀ s, L42 s → X Γ G Qf 6 1 6 42 [(0, .ref (ga G 10 0)), (1, .int x1), (3, .int s.2.1), (4, .int s.2.2)] [] s.1) (M : Mem) (y3 : Int32) (y4 : Int32) (h : bX10_without_94 x1 x2 Q K L42 M y3 y4) : X Γ G Qf 6 1 6 94 [(0, .ref (ga G 10 0)), (1, .int x1), (3, .int y3), (4, .int y4)] [] M := by
  unfold bX10_without_94 at h
  obtain ⟨v18, ev18⟩ : ∃ z : Int32, z = y4 + 1 := ⟨_, rfl⟩
  replace h := h v18 ev18
  refine x_iinc (v := v18) (lv' := [(4, .int v18), (0, .ref (ga G 10 0)), (1, .int x1), (3, .int y3)]) (j := 3) C dX10_without_94 rfl (by rw [ev18]; rfl) (Nat.le_of_ble_eq_true rfl) rfl ?_
  refine x_goto (tgt := 42) C dX10_without_97 (by decide) ?_
  refine X_sub (lv' := [(0, .ref (ga G 10 0)), (1, .int x1), (3, .int y3), (4, .int v18)]) [1, 2, 3, 0] rfl ?_
  have w9 := hL42 (M, y3, v18) h
  dsimp only at w9
  exact w9
set_option maxRecDepth 100000 in
set_option maxHeartbeats 400000 in
theorem wX10_without_91 {Γ : Gam} {G : Gm} {Qf : State → Prop} (hG : Gd G) (C : Cx Γ G cX10_without 6 RX10 (some .int) rmX10_without) {x1 : Int32} {x2 : Int32} {Q : Int32 → Mem → Prop} {K : String → Mem → Prop} (E : EndI Γ G Qf rmX10_without Q) (EX : EndX Γ G Qf rmX10_without K) {L42 : Mem × Int32 × Int32 → Prop} (hL42 : ∀ s, L42 s → X Γ G Qf 6 1 6 42 [(0, .ref (ga G 10 0)), (1, .int x1), (3, .int s.2.1), (4, .int s.2.2)] [] s.1) (M : Mem) (y3 : Int32) (y4 : Int32) (h : bX10_without_91 x1 x2 Q K L42 M y3 y4) : X Γ G Qf 6 1 6 91 [(0, .ref (ga G 10 0)), (1, .int x1), (3, .int y3), (4, .int y4)] [] M := by
  unfold bX10_without_91 at h
  obtain ⟨v17, ev17⟩ : ∃ z : Int32, z = y3 + 1 := ⟨_, rfl⟩
  replace h := h v17 ev17
  refine x_iinc (v := v17) (lv' := [(3, .int v17), (0, .ref (ga G 10 0)), (1, .int x1), (4, .int y4)]) (j := 2) C dX10_without_91 rfl (by rw [ev17]; rfl) (Nat.le_of_ble_eq_true rfl) rfl ?_
  refine X_sub (lv' := [(0, .ref (ga G 10 0)), (1, .int x1), (3, .int v17), (4, .int y4)]) [1, 2, 0, 3] rfl ?_
  exact wX10_without_94 hG C E EX hL42 M v17 y4 h
set_option maxRecDepth 100000 in
set_option maxHeartbeats 400000 in
theorem wX10_without_42 {Γ : Gam} {G : Gm} {Qf : State → Prop} (hG : Gd G) (C : Cx Γ G cX10_without 6 RX10 (some .int) rmX10_without) {x1 : Int32} {x2 : Int32} {Q : Int32 → Mem → Prop} {K : String → Mem → Prop} (E : EndI Γ G Qf rmX10_without Q) (EX : EndX Γ G Qf rmX10_without K) {L42 : Mem × Int32 × Int32 → Prop} (hL42 : ∀ s, L42 s → X Γ G Qf 6 1 6 42 [(0, .ref (ga G 10 0)), (1, .int x1), (3, .int s.2.1), (4, .int s.2.2)] [] s.1) (M : Mem) (y3 : Int32) (y4 : Int32) (h : bX10_without_42 x1 x2 Q K L42 M y3 y4) : X Γ G Qf 6 1 6 42 [(0, .ref (ga G 10 0)), (1, .int x1), (3, .int y3), (4, .int y4)] [] M := by
  unfold bX10_without_42 at h
  refine x_iload C dX10_without_42 3 rfl ?_
  refine x_iload_n C dX10_without_44 1 rfl ?_
  refine x_icmp_ge (tgt := 100) C dX10_without_45 (by decide) (fun c10 => ?_) (fun c10 => ?_)
  · replace h := h.1 c10
    refine x_iload_n C dX10_without_100 2 rfl ?_
    exact x_iret C E h (Nat.le_of_ble_eq_true rfl) (Nat.le_of_ble_eq_true rfl) dX10_without_101
  · replace h := h.2 c10
    refine x_iload C dX10_without_48 3 rfl ?_
    refine x_aload_n C dX10_without_50 0 rfl ?_
    refine gf_10_12 C q134 z10 dX10_without_51 ?_
    refine gf_8_4 C q135 z8 dX10_without_54 ?_
    refine x_icmp_ge (tgt := 100) C dX10_without_57 (by decide) (fun c11 => ?_) (fun c11 => ?_)
    · replace h := h.1 c11
      refine x_iload_n C dX10_without_100 2 rfl ?_
      exact x_iret C E h (Nat.le_of_ble_eq_true rfl) (Nat.le_of_ble_eq_true rfl) dX10_without_101
    · replace h := h.2 c11
      refine x_aload_n C dX10_without_60 0 rfl ?_
      refine gf_10_13 C q884 z10 dX10_without_61 ?_
      refine x_aload_n C dX10_without_64 0 rfl ?_
      refine gf_10_12 C q134 z10 dX10_without_65 ?_
      refine gf_8_2 C q874 z8 dX10_without_68 ?_
      refine x_iload C dX10_without_71 3 rfl ?_
      obtain ⟨f12, h⟩ := h
      refine al_902 C z902 f12 dX10_without_73 ?_
      refine x_calli (rest := []) C sv_X10_339 ob8 z8_1 (kX8_placeOf hG z8_1 _ _ h) rfl rfl (Nat.le_of_ble_eq_true rfl) ⟨Nat.le_of_ble_eq_true rfl, Nat.le_of_ble_eq_true rfl⟩ rfl rfl ⟨Nat.le_of_ble_eq_true rfl, Nat.le_of_ble_eq_true rfl⟩ dX10_without_74 (fun r13 M14 h => ?_)
      refine x_istore (lv' := [(5, .int r13), (0, .ref (ga G 10 0)), (1, .int x1), (3, .int y3), (4, .int y4)]) C dX10_without_77 (Nat.le_of_ble_eq_true rfl) rfl ?_
      refine x_iload C dX10_without_79 0 rfl ?_
      refine x_iconst (v := (-1)) C dX10_without_81 rfl ?_
      refine x_icmp_eq (tgt := 91) C dX10_without_82 (by decide) (fun c15 => ?_) (fun c15 => ?_)
      · replace h := h.1 c15
        refine X_sub (lv' := [(0, .ref (ga G 10 0)), (1, .int x1), (3, .int y3), (4, .int y4)]) [1, 2, 3, 4] rfl ?_
        exact wX10_without_91 hG C E EX hL42 M14 y3 y4 h
      · replace h := h.2 c15
        refine x_iload C dX10_without_85 0 rfl ?_
        refine x_iload_n C dX10_without_87 2 rfl ?_
        refine x_icmp_lt (tgt := 94) C dX10_without_88 (by decide) (fun c16 => ?_) (fun c16 => ?_)
        · replace h := h.1 c16
          refine X_sub (lv' := [(0, .ref (ga G 10 0)), (1, .int x1), (3, .int y3), (4, .int y4)]) [1, 2, 3, 4] rfl ?_
          exact wX10_without_94 hG C E EX hL42 M14 y3 y4 h
        · replace h := h.2 c16
          refine X_sub (lv' := [(0, .ref (ga G 10 0)), (1, .int x1), (3, .int y3), (4, .int y4)]) [1, 2, 3, 4] rfl ?_
          exact wX10_without_91 hG C E EX hL42 M14 y3 y4 h
set_option maxRecDepth 100000 in
set_option maxHeartbeats 400000 in
theorem kX10_without {l : Launch} {G : Gm} (hG : Gd G) (hl0 : l.stackTraces = false) (M : Mem) (x1 : Int32) (x2 : Int32) {Q : Int32 → Mem → Prop} {K : String → Mem → Prop} (h : pX10_without M x1 x2 Q K) : Cxi l G yX10_without cX10_without 6 .int rmX10_without [.ref (ga G 10 0), .int x1, .int x2] M Q K := by
  refine cxi_of hl0 (own := RX10) (by decide +kernel) rfl (Nat.le_of_ble_eq_true rfl) hG (fun Γ Qf hl C E EX => ?_)
  subst hl
  show X Γ G Qf 6 0 0 0 [(0, .ref (ga G 10 0)), (1, .int x1), (2, .int x2)] [] M
  unfold pX10_without at h
  refine x_aload_n C dX10_without_0 0 rfl ?_
  refine x_iload_n C dX10_without_1 1 rfl ?_
  refine x_iconst (v := 1) C dX10_without_2 rfl ?_
  refine x_bipush (v := 10) C dX10_without_3 rfl ?_
  refine x_tcallv (rest := []) C EX sv_X10_106 ob10 z10 (kX10_needBetween hG EX.2.2 _ _ _ _ h) rfl rfl (Nat.le_of_ble_eq_true rfl) ⟨Nat.le_of_ble_eq_true rfl, Nat.le_of_ble_eq_true rfl⟩ rfl rfl ⟨Nat.le_of_ble_eq_true rfl, Nat.le_of_ble_eq_true rfl⟩ dX10_without_5 (fun M2 h => ?_)
  refine x_aload_n C dX10_without_8 0 rfl ?_
  refine gf_10_8 C q846 z10 dX10_without_9 ?_
  refine x_iload_n C dX10_without_12 2 rfl ?_
  refine x_calli (rest := []) C sv_X10_296 ob6 z6 (kX6_hasScored hG _ _ h) rfl rfl (Nat.le_of_ble_eq_true rfl) ⟨Nat.le_of_ble_eq_true rfl, Nat.le_of_ble_eq_true rfl⟩ rfl rfl ⟨Nat.le_of_ble_eq_true rfl, Nat.le_of_ble_eq_true rfl⟩ dX10_without_13 (fun r3 M4 h => ?_)
  refine x_if_ne (tgt := 21) C dX10_without_16 (by decide) (fun c5 => ?_) (fun c5 => ?_)
  · replace h := h.1 c5
    refine x_aload_n C dX10_without_21 0 rfl ?_
    refine gf_10_12 C q134 z10 dX10_without_22 ?_
    refine x_iconst (v := (-1)) C dX10_without_25 rfl ?_
    refine x_callv (rest := []) C sv_X10_327 ob8 z8 (kX8_rank hG z8 _ _ h) rfl rfl (Nat.le_of_ble_eq_true rfl) ⟨Nat.le_of_ble_eq_true rfl, Nat.le_of_ble_eq_true rfl⟩ rfl rfl ⟨Nat.le_of_ble_eq_true rfl, Nat.le_of_ble_eq_true rfl⟩ dX10_without_26 (fun M7 h => ?_)
    refine x_aload_n C dX10_without_29 0 rfl ?_
    refine gf_10_13 C q884 z10 dX10_without_30 ?_
    refine x_iload_n C dX10_without_33 2 rfl ?_
    refine x_callv (rest := []) C sv_X10_327 ob8 z8_1 (kX8_rank hG z8_1 _ _ h) rfl rfl (Nat.le_of_ble_eq_true rfl) ⟨Nat.le_of_ble_eq_true rfl, Nat.le_of_ble_eq_true rfl⟩ rfl rfl ⟨Nat.le_of_ble_eq_true rfl, Nat.le_of_ble_eq_true rfl⟩ dX10_without_34 (fun M9 h => ?_)
    refine x_iconst (v := 0) C dX10_without_37 rfl ?_
    refine x_istore_n (lv' := [(3, .int 0), (0, .ref (ga G 10 0)), (1, .int x1), (2, .int x2)]) C dX10_without_38 rfl (Nat.le_of_ble_eq_true rfl) rfl ?_
    refine x_iconst (v := 0) C dX10_without_39 rfl ?_
    refine x_istore (lv' := [(4, .int 0), (3, .int 0), (0, .ref (ga G 10 0)), (1, .int x1), (2, .int x2)]) C dX10_without_40 (Nat.le_of_ble_eq_true rfl) rfl ?_
    obtain ⟨n9, h⟩ := h
    refine X_sub (lv' := [(0, .ref (ga G 10 0)), (1, .int x1), (3, .int 0), (4, .int 0)]) [2, 3, 1, 0] rfl ?_
    have hb : ∀ (L : Mem × Int32 × Int32 → Prop) (s : Mem × Int32 × Int32), (∀ t, L t → X Γ G Qf 6 1 6 42 [(0, .ref (ga G 10 0)), (1, .int x1), (3, .int t.2.1), (4, .int t.2.2)] [] t.1) → bX10_without_42 x1 x2 Q K L s.1 s.2.1 s.2.2 → X Γ G Qf 6 1 6 42 [(0, .ref (ga G 10 0)), (1, .int x1), (3, .int s.2.1), (4, .int s.2.2)] [] s.1 := fun L s hL h => wX10_without_42 hG C E EX hL s.1 s.2.1 s.2.2 h
    have w9 := lp_walk (P := fun s : Mem × Int32 × Int32 => X Γ G Qf 6 1 6 42 [(0, .ref (ga G 10 0)), (1, .int x1), (3, .int s.2.1), (4, .int s.2.2)] [] s.1) h hb
    dsimp only at w9
    exact w9
  · replace h := h.2 c5
    refine x_iconst (v := (-1)) C dX10_without_19 rfl ?_
    exact x_iret C E h (Nat.le_of_ble_eq_true rfl) (Nat.le_of_ble_eq_true rfl) dX10_without_20
