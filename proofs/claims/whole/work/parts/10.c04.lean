def rmX3_pointsOf : Room := { frames := 1, cells := 0, slots := 0, locals := 23 }
def pX3_pointsOf (M : Mem) (x1 : Int32) (x2 : Int32) (Q : Int32 → Mem → Prop) : Prop :=
  vp_in x2 24 ∧ ∀ v2 : Int32, v2 = (M.1 702 0 (tn x2)) → pX4_rareOf M v2 (fun r3 M4 => pX4_gainOf M4 v2 x1 (fun r5 M6 => Q (((M.1 703 0 (tn x2)) * r3) * r5) M6))
set_option maxRecDepth 100000 in
set_option maxHeartbeats 400000 in
theorem kX3_pointsOf {l : Launch} {G : Gm} (hG : Gd G) (M : Mem) (x1 : Int32) (x2 : Int32) {Q : Int32 → Mem → Prop} (h : pX3_pointsOf M x1 x2 Q) : Cti l G yX3_pointsOf cX3_pointsOf 4 .int rmX3_pointsOf [.ref (ga G 3 0), .int x1, .int x2] M Q := by
  refine cti_of (own := RX3) (by decide +kernel) rfl (Nat.le_of_ble_eq_true rfl) hG (fun Γ Qf hl C E => ?_)
  subst hl
  show X Γ G Qf 4 0 0 0 [(0, .ref (ga G 3 0)), (1, .int x1), (2, .int x2)] [] M
  unfold pX3_pointsOf at h
  refine x_aload_n C dX3_pointsOf_0 0 rfl ?_
  refine gf_3_1 C q66 z3 dX3_pointsOf_1 ?_
  refine gf_6_2 C q68 z6 dX3_pointsOf_4 ?_
  refine x_iload_n C dX3_pointsOf_7 2 rfl ?_
  obtain ⟨f1, h⟩ := h
  refine al_702 C z702 f1 dX3_pointsOf_8 ?_
  refine X_name (fun v2 ev2 => ?_)
  replace h := h v2 ev2
  refine x_istore_n (lv' := [(3, .int v2), (0, .ref (ga G 3 0)), (1, .int x1), (2, .int x2)]) C dX3_pointsOf_9 rfl (Nat.le_of_ble_eq_true rfl) rfl ?_
  refine x_aload_n C dX3_pointsOf_10 1 rfl ?_
  refine gf_3_1 C q66 z3 dX3_pointsOf_11 ?_
  refine gf_6_3 C q79 z6 dX3_pointsOf_14 ?_
  refine x_iload_n C dX3_pointsOf_17 3 rfl ?_
  refine al_703 C z703 f1 dX3_pointsOf_18 ?_
  refine x_aload_n C dX3_pointsOf_19 1 rfl ?_
  refine gf_3_0 C q64 z3 dX3_pointsOf_20 ?_
  refine x_iload_n C dX3_pointsOf_23 0 rfl ?_
  refine x_calli (rest := [.int (M.1 703 0 (tn x2))]) C sv_X3_100 ob4 z4 (kX4_rareOf hG _ _ h) rfl rfl (Nat.le_of_ble_eq_true rfl) ⟨Nat.le_of_ble_eq_true rfl, Nat.le_of_ble_eq_true rfl⟩ rfl rfl ⟨Nat.le_of_ble_eq_true rfl, Nat.le_of_ble_eq_true rfl⟩ dX3_pointsOf_24 (fun r3 M4 h => ?_)
  refine x_imul C dX3_pointsOf_27 ?_
  refine x_aload_n C dX3_pointsOf_28 1 rfl ?_
  refine gf_3_0 C q64 z3 dX3_pointsOf_29 ?_
  refine x_iload_n C dX3_pointsOf_32 0 rfl ?_
  refine x_iload_n C dX3_pointsOf_33 2 rfl ?_
  refine x_calli (rest := [.int ((M.1 703 0 (tn x2)) * r3)]) C sv_X3_104 ob4 z4 (kX4_gainOf hG _ _ _ h) rfl rfl (Nat.le_of_ble_eq_true rfl) ⟨Nat.le_of_ble_eq_true rfl, Nat.le_of_ble_eq_true rfl⟩ rfl rfl ⟨Nat.le_of_ble_eq_true rfl, Nat.le_of_ble_eq_true rfl⟩ dX3_pointsOf_34 (fun r5 M6 h => ?_)
  refine x_imul C dX3_pointsOf_37 ?_
  exact x_iret C E h (Nat.le_of_ble_eq_true rfl) (Nat.le_of_ble_eq_true rfl) dX3_pointsOf_38
def rmX3_total : Room := { frames := 3, cells := 0, slots := 0, locals := 68 }
def bX3_total_38 (x1 : Int32) (x2 : Int32) (Q : Int32 → Mem → Prop) (L10 : Mem × Int32 × Int32 → Prop) (M : Mem) (y3 : Int32) (y4 : Int32) : Prop :=
  ∀ v8 : Int32, v8 = y4 + 1 → L10 (M, y3, v8)
def bX3_total_10 (x1 : Int32) (x2 : Int32) (Q : Int32 → Mem → Prop) (L10 : Mem × Int32 × Int32 → Prop) (M : Mem) (y3 : Int32) (y4 : Int32) : Prop :=
  (((M.1 701 0 0) ≤ y4 → Q y3 M) ∧ (¬ (M.1 701 0 0) ≤ y4 → ((y4 = x2 → bX3_total_38 x1 x2 Q L10 M y3 y4) ∧ (¬ y4 = x2 → pX3_pointsOf M x1 y4 (fun r5 M6 => ∀ v7 : Int32, v7 = (y3 + r5) → bX3_total_38 x1 x2 Q L10 M6 v7 y4)))))
def pX3_total (M : Mem) (x1 : Int32) (x2 : Int32) (Q : Int32 → Mem → Prop) : Prop :=
  pX3_nearness M x1 x2 (fun r1 M2 => ∃ n : Nat, lp (fun L s => bX3_total_10 x1 x2 Q L s.1 s.2.1 s.2.2) n (M2, r1, 0))
set_option maxRecDepth 100000 in
set_option maxHeartbeats 400000 in
theorem wX3_total_38 {Γ : Gam} {G : Gm} {Qf : State → Prop} (hG : Gd G) (C : Cx Γ G cX3_total 5 RX3 (some .int) rmX3_total) {x1 : Int32} {x2 : Int32} {Q : Int32 → Mem → Prop} (E : EndI Γ G Qf rmX3_total Q) {L10 : Mem × Int32 × Int32 → Prop} (hL10 : ∀ s, L10 s → X Γ G Qf 5 0 0 10 [(0, .ref (ga G 3 0)), (1, .int x1), (2, .int x2), (3, .int s.2.1), (4, .int s.2.2)] [] s.1) (M : Mem) (y3 : Int32) (y4 : Int32) (h : bX3_total_38 x1 x2 Q L10 M y3 y4) : X Γ G Qf 5 0 0 38 [(0, .ref (ga G 3 0)), (1, .int x1), (2, .int x2), (3, .int y3), (4, .int y4)] [] M := by
  unfold bX3_total_38 at h
  obtain ⟨v8, ev8⟩ : ∃ z : Int32, z = y4 + 1 := ⟨_, rfl⟩
  replace h := h v8 ev8
  refine x_iinc (v := v8) (lv' := [(4, .int v8), (0, .ref (ga G 3 0)), (1, .int x1), (2, .int x2), (3, .int y3)]) (j := 4) C dX3_total_38 rfl (by rw [ev8]; rfl) (Nat.le_of_ble_eq_true rfl) rfl ?_
  refine x_goto (tgt := 10) C dX3_total_41 (by decide) ?_
  refine X_sub (lv' := [(0, .ref (ga G 3 0)), (1, .int x1), (2, .int x2), (3, .int y3), (4, .int v8)]) [1, 2, 3, 4, 0] rfl ?_
  have w9 := hL10 (M, y3, v8) h
  dsimp only at w9
  exact w9
set_option maxRecDepth 100000 in
set_option maxHeartbeats 400000 in
theorem wX3_total_10 {Γ : Gam} {G : Gm} {Qf : State → Prop} (hG : Gd G) (C : Cx Γ G cX3_total 5 RX3 (some .int) rmX3_total) {x1 : Int32} {x2 : Int32} {Q : Int32 → Mem → Prop} (E : EndI Γ G Qf rmX3_total Q) {L10 : Mem × Int32 × Int32 → Prop} (hL10 : ∀ s, L10 s → X Γ G Qf 5 0 0 10 [(0, .ref (ga G 3 0)), (1, .int x1), (2, .int x2), (3, .int s.2.1), (4, .int s.2.2)] [] s.1) (M : Mem) (y3 : Int32) (y4 : Int32) (h : bX3_total_10 x1 x2 Q L10 M y3 y4) : X Γ G Qf 5 0 0 10 [(0, .ref (ga G 3 0)), (1, .int x1), (2, .int x2), (3, .int y3), (4, .int y4)] [] M := by
  unfold bX3_total_10 at h
  refine x_iload C dX3_total_10 4 rfl ?_
  refine x_aload_n C dX3_total_12 0 rfl ?_
  refine gf_3_1 C q66 z3 dX3_total_13 ?_
  refine gf_6_1 C q67 z6 dX3_total_16 ?_
  refine x_icmp_ge (tgt := 44) C dX3_total_19 (by decide) (fun c3 => ?_) (fun c3 => ?_)
  · replace h := h.1 c3
    refine x_iload_n C dX3_total_44 3 rfl ?_
    exact x_iret C E h (Nat.le_of_ble_eq_true rfl) (Nat.le_of_ble_eq_true rfl) dX3_total_45
  · replace h := h.2 c3
    refine x_iload C dX3_total_22 4 rfl ?_
    refine x_iload_n C dX3_total_24 2 rfl ?_
    refine x_icmp_eq (tgt := 38) C dX3_total_25 (by decide) (fun c4 => ?_) (fun c4 => ?_)
    · replace h := h.1 c4
      refine X_sub (lv' := [(0, .ref (ga G 3 0)), (1, .int x1), (2, .int x2), (3, .int y3), (4, .int y4)]) [0, 1, 2, 3, 4] rfl ?_
      exact wX3_total_38 hG C E hL10 M y3 y4 h
    · replace h := h.2 c4
      refine x_iload_n C dX3_total_28 3 rfl ?_
      refine x_aload_n C dX3_total_29 0 rfl ?_
      refine x_iload_n C dX3_total_30 1 rfl ?_
      refine x_iload C dX3_total_31 4 rfl ?_
      refine x_calli (rest := [.int y3]) C sv_X3_110 ob3 z3 (kX3_pointsOf hG _ _ _ h) rfl rfl (Nat.le_of_ble_eq_true rfl) ⟨Nat.le_of_ble_eq_true rfl, Nat.le_of_ble_eq_true rfl⟩ rfl rfl ⟨Nat.le_of_ble_eq_true rfl, Nat.le_of_ble_eq_true rfl⟩ dX3_total_33 (fun r5 M6 h => ?_)
      refine x_iadd C dX3_total_36 ?_
      refine X_name (fun v7 ev7 => ?_)
      replace h := h v7 ev7
      refine x_istore_n (lv' := [(3, .int v7), (0, .ref (ga G 3 0)), (1, .int x1), (2, .int x2), (4, .int y4)]) C dX3_total_37 rfl (Nat.le_of_ble_eq_true rfl) rfl ?_
      refine X_sub (lv' := [(0, .ref (ga G 3 0)), (1, .int x1), (2, .int x2), (3, .int v7), (4, .int y4)]) [1, 2, 3, 0, 4] rfl ?_
      exact wX3_total_38 hG C E hL10 M6 v7 y4 h
set_option maxRecDepth 100000 in
set_option maxHeartbeats 400000 in
theorem kX3_total {l : Launch} {G : Gm} (hG : Gd G) (M : Mem) (x1 : Int32) (x2 : Int32) {Q : Int32 → Mem → Prop} (h : pX3_total M x1 x2 Q) : Cti l G yX3_total cX3_total 5 .int rmX3_total [.ref (ga G 3 0), .int x1, .int x2] M Q := by
  refine cti_of (own := RX3) (by decide +kernel) rfl (Nat.le_of_ble_eq_true rfl) hG (fun Γ Qf hl C E => ?_)
  subst hl
  show X Γ G Qf 5 0 0 0 [(0, .ref (ga G 3 0)), (1, .int x1), (2, .int x2)] [] M
  unfold pX3_total at h
  refine x_aload_n C dX3_total_0 0 rfl ?_
  refine x_iload_n C dX3_total_1 1 rfl ?_
  refine x_iload_n C dX3_total_2 2 rfl ?_
  refine x_calli (rest := []) C sv_X3_107 ob3 z3 (kX3_nearness hG _ _ _ h) rfl rfl (Nat.le_of_ble_eq_true rfl) ⟨Nat.le_of_ble_eq_true rfl, Nat.le_of_ble_eq_true rfl⟩ rfl rfl ⟨Nat.le_of_ble_eq_true rfl, Nat.le_of_ble_eq_true rfl⟩ dX3_total_3 (fun r1 M2 h => ?_)
  refine x_istore_n (lv' := [(3, .int r1), (0, .ref (ga G 3 0)), (1, .int x1), (2, .int x2)]) C dX3_total_6 rfl (Nat.le_of_ble_eq_true rfl) rfl ?_
  refine x_iconst (v := 0) C dX3_total_7 rfl ?_
  refine x_istore (lv' := [(4, .int 0), (3, .int r1), (0, .ref (ga G 3 0)), (1, .int x1), (2, .int x2)]) C dX3_total_8 (Nat.le_of_ble_eq_true rfl) rfl ?_
  obtain ⟨n9, h⟩ := h
  refine X_sub (lv' := [(0, .ref (ga G 3 0)), (1, .int x1), (2, .int x2), (3, .int r1), (4, .int 0)]) [2, 3, 4, 1, 0] rfl ?_
  have hb : ∀ (L : Mem × Int32 × Int32 → Prop) (s : Mem × Int32 × Int32), (∀ t, L t → X Γ G Qf 5 0 0 10 [(0, .ref (ga G 3 0)), (1, .int x1), (2, .int x2), (3, .int t.2.1), (4, .int t.2.2)] [] t.1) → bX3_total_10 x1 x2 Q L s.1 s.2.1 s.2.2 → X Γ G Qf 5 0 0 10 [(0, .ref (ga G 3 0)), (1, .int x1), (2, .int x2), (3, .int s.2.1), (4, .int s.2.2)] [] s.1 := fun L s hL h => wX3_total_10 hG C E hL s.1 s.2.1 s.2.2 h
  have w9 := lp_walk (P := fun s : Mem × Int32 × Int32 => X Γ G Qf 5 0 0 10 [(0, .ref (ga G 3 0)), (1, .int x1), (2, .int x2), (3, .int s.2.1), (4, .int s.2.2)] [] s.1) h hb
  dsimp only at w9
  exact w9
def rmX2_lookAt : Room := { frames := 4, cells := 0, slots := 0, locals := 92 }
def bX2_lookAt_118 (x1 : Int32) (Q : Mem → Prop) (M : Mem) (y2 : Int32) (y3 : Int32) : Prop :=
  vp_in y3 10 ∧ ∀ M21 : Mem, M21 = up1 M 307 0 (tn y3) x1 → ∀ M22 : Mem, M22 = up1 M21 308 0 (tn y3) y2 → ∀ M23 : Mem, M23 = up1 M22 309 0 0 ((M22.1 309 0 0) + 1) → Q M23
def bX2_lookAt_68 (x1 : Int32) (Q : Mem → Prop) (L68 : Mem × Int32 × Int32 → Prop) (M : Mem) (y2 : Int32) (y3 : Int32) : Prop :=
  ((y3 ≤ 0 → bX2_lookAt_118 x1 Q M y2 y3) ∧ (¬ y3 ≤ 0 → vp_in (y3 - 1) 10 ∧ ((y2 ≤ (M.1 308 0 (tn (y3 - 1))) → bX2_lookAt_118 x1 Q M y2 y3) ∧ (¬ y2 ≤ (M.1 308 0 (tn (y3 - 1))) → vp_in y3 10 ∧ ∀ M17 : Mem, M17 = up1 M 307 0 (tn y3) (M.1 307 0 (tn (y3 - 1))) → ∀ M18 : Mem, M18 = up1 M17 308 0 (tn y3) (M17.1 308 0 (tn (y3 - 1))) → ∀ v19 : Int32, v19 = y3 + (-1) → L68 (M18, y2, v19)))))
def bX2_lookAt_63 (x1 : Int32) (Q : Mem → Prop) (M : Mem) (y2 : Int32) : Prop :=
  ∀ v12 : Int32, v12 = (M.1 309 0 0) → ∃ n : Nat, lp (fun L s => bX2_lookAt_68 x1 Q L s.1 s.2.1 s.2.2) n (M, y2, v12)
def pX2_lookAt (M : Mem) (x1 : Int32) (Q : Mem → Prop) : Prop :=
  ∀ M1 : Mem, M1 = up1 M 313 0 0 ((M.1 313 0 0) + 1) → pX3_whyNot M1 x1 (-1) (fun r2 M3 => ((r2 = 0 → pX3_total M3 x1 (-1) (fun r5 M6 => (((M6.1 309 0 0) < (M6.1 306 0 0) → bX2_lookAt_63 x1 Q M6 r5) ∧ (¬ (M6.1 309 0 0) < (M6.1 306 0 0) → pX2_floorNow M6 (fun r8 M9 => ((r8 < r5 → ∀ M11 : Mem, M11 = up1 M9 309 0 0 ((M9.1 306 0 0) - 1) → bX2_lookAt_63 x1 Q M11 r5) ∧ (¬ r8 < r5 → Q M9))))))) ∧ (¬ r2 = 0 → Q M3)))
set_option maxRecDepth 100000 in
set_option maxHeartbeats 400000 in
theorem wX2_lookAt_118 {Γ : Gam} {G : Gm} {Qf : State → Prop} (hG : Gd G) (C : Cx Γ G cX2_lookAt 4 RX2 none rmX2_lookAt) {x1 : Int32} {Q : Mem → Prop} (E : EndV Γ G Qf rmX2_lookAt Q) (M : Mem) (y2 : Int32) (y3 : Int32) (h : bX2_lookAt_118 x1 Q M y2 y3) : X Γ G Qf 4 0 0 118 [(0, .ref (ga G 2 0)), (1, .int x1), (2, .int y2), (3, .int y3)] [] M := by
  unfold bX2_lookAt_118 at h
  refine x_aload_n C dX2_lookAt_118 0 rfl ?_
  refine gf_2_7 C q82 z2 dX2_lookAt_119 ?_
  refine x_iload_n C dX2_lookAt_122 3 rfl ?_
  refine x_iload_n C dX2_lookAt_123 1 rfl ?_
  obtain ⟨f20, h⟩ := h
  refine as_307 C z307 f20 dX2_lookAt_124 ?_
  refine X_nameM (fun M21 eM21 => ?_)
  replace h := h M21 eM21
  refine x_aload_n C dX2_lookAt_125 0 rfl ?_
  refine gf_2_8 C q58 z2 dX2_lookAt_126 ?_
  refine x_iload_n C dX2_lookAt_129 3 rfl ?_
  refine x_iload_n C dX2_lookAt_130 2 rfl ?_
  refine as_308 C z308 f20 dX2_lookAt_131 ?_
  refine X_nameM (fun M22 eM22 => ?_)
  replace h := h M22 eM22
  refine x_aload_n C dX2_lookAt_132 0 rfl ?_
  refine x_dup C dX2_lookAt_133 rfl ?_
  refine gf_2_9 C q56 z2 dX2_lookAt_134 ?_
  refine x_iconst (v := 1) C dX2_lookAt_137 rfl ?_
  refine x_iadd C dX2_lookAt_138 ?_
  refine pf_2_9 C q56 z2 dX2_lookAt_139 ?_
  refine X_nameM (fun M23 eM23 => ?_)
  replace h := h M23 eM23
  exact x_vret C E h (Nat.le_of_ble_eq_true rfl) (Nat.le_of_ble_eq_true rfl) dX2_lookAt_142
set_option maxRecDepth 100000 in
set_option maxHeartbeats 400000 in
theorem wX2_lookAt_68 {Γ : Gam} {G : Gm} {Qf : State → Prop} (hG : Gd G) (C : Cx Γ G cX2_lookAt 4 RX2 none rmX2_lookAt) {x1 : Int32} {Q : Mem → Prop} (E : EndV Γ G Qf rmX2_lookAt Q) {L68 : Mem × Int32 × Int32 → Prop} (hL68 : ∀ s, L68 s → X Γ G Qf 4 0 0 68 [(0, .ref (ga G 2 0)), (1, .int x1), (2, .int s.2.1), (3, .int s.2.2)] [] s.1) (M : Mem) (y2 : Int32) (y3 : Int32) (h : bX2_lookAt_68 x1 Q L68 M y2 y3) : X Γ G Qf 4 0 0 68 [(0, .ref (ga G 2 0)), (1, .int x1), (2, .int y2), (3, .int y3)] [] M := by
  unfold bX2_lookAt_68 at h
  refine x_iload_n C dX2_lookAt_68 3 rfl ?_
  refine x_if_le (tgt := 118) C dX2_lookAt_69 (by decide) (fun c13 => ?_) (fun c13 => ?_)
  · replace h := h.1 c13
    refine X_sub (lv' := [(0, .ref (ga G 2 0)), (1, .int x1), (2, .int y2), (3, .int y3)]) [0, 1, 2, 3] rfl ?_
    exact wX2_lookAt_118 hG C E M y2 y3 h
  · replace h := h.2 c13
    refine x_aload_n C dX2_lookAt_72 0 rfl ?_
    refine gf_2_8 C q58 z2 dX2_lookAt_73 ?_
    refine x_iload_n C dX2_lookAt_76 3 rfl ?_
    refine x_iconst (v := 1) C dX2_lookAt_77 rfl ?_
    refine x_isub C dX2_lookAt_78 ?_
    obtain ⟨f14, h⟩ := h
    refine al_308 C z308 f14 dX2_lookAt_79 ?_
    refine x_iload_n C dX2_lookAt_80 2 rfl ?_
    refine x_icmp_ge (tgt := 118) C dX2_lookAt_81 (by decide) (fun c15 => ?_) (fun c15 => ?_)
    · replace h := h.1 c15
      refine X_sub (lv' := [(0, .ref (ga G 2 0)), (1, .int x1), (2, .int y2), (3, .int y3)]) [0, 1, 2, 3] rfl ?_
      exact wX2_lookAt_118 hG C E M y2 y3 h
    · replace h := h.2 c15
      refine x_aload_n C dX2_lookAt_84 0 rfl ?_
      refine gf_2_7 C q82 z2 dX2_lookAt_85 ?_
      refine x_iload_n C dX2_lookAt_88 3 rfl ?_
      refine x_aload_n C dX2_lookAt_89 0 rfl ?_
      refine gf_2_7 C q82 z2 dX2_lookAt_90 ?_
      refine x_iload_n C dX2_lookAt_93 3 rfl ?_
      refine x_iconst (v := 1) C dX2_lookAt_94 rfl ?_
      refine x_isub C dX2_lookAt_95 ?_
      refine al_307 C z307 f14 dX2_lookAt_96 ?_
      obtain ⟨f16, h⟩ := h
      refine as_307 C z307 f16 dX2_lookAt_97 ?_
      refine X_nameM (fun M17 eM17 => ?_)
      replace h := h M17 eM17
      refine x_aload_n C dX2_lookAt_98 0 rfl ?_
      refine gf_2_8 C q58 z2 dX2_lookAt_99 ?_
      refine x_iload_n C dX2_lookAt_102 3 rfl ?_
      refine x_aload_n C dX2_lookAt_103 0 rfl ?_
      refine gf_2_8 C q58 z2 dX2_lookAt_104 ?_
      refine x_iload_n C dX2_lookAt_107 3 rfl ?_
      refine x_iconst (v := 1) C dX2_lookAt_108 rfl ?_
      refine x_isub C dX2_lookAt_109 ?_
      refine al_308 C z308 f14 dX2_lookAt_110 ?_
      refine as_308 C z308 f16 dX2_lookAt_111 ?_
      refine X_nameM (fun M18 eM18 => ?_)
      replace h := h M18 eM18
      obtain ⟨v19, ev19⟩ : ∃ z : Int32, z = y3 + (-1) := ⟨_, rfl⟩
      replace h := h v19 ev19
      refine x_iinc (v := v19) (lv' := [(3, .int v19), (0, .ref (ga G 2 0)), (1, .int x1), (2, .int y2)]) (j := 3) C dX2_lookAt_112 rfl (by rw [ev19]; rfl) (Nat.le_of_ble_eq_true rfl) rfl ?_
      refine x_goto (tgt := 68) C dX2_lookAt_115 (by decide) ?_
      refine X_sub (lv' := [(0, .ref (ga G 2 0)), (1, .int x1), (2, .int y2), (3, .int v19)]) [1, 2, 3, 0] rfl ?_
      have w9 := hL68 (M18, y2, v19) h
      dsimp only at w9
      exact w9
set_option maxRecDepth 100000 in
set_option maxHeartbeats 400000 in
theorem wX2_lookAt_63 {Γ : Gam} {G : Gm} {Qf : State → Prop} (hG : Gd G) (C : Cx Γ G cX2_lookAt 4 RX2 none rmX2_lookAt) {x1 : Int32} {Q : Mem → Prop} (E : EndV Γ G Qf rmX2_lookAt Q) (M : Mem) (y2 : Int32) (h : bX2_lookAt_63 x1 Q M y2) : X Γ G Qf 4 0 0 63 [(0, .ref (ga G 2 0)), (1, .int x1), (2, .int y2)] [] M := by
  unfold bX2_lookAt_63 at h
  refine x_aload_n C dX2_lookAt_63 0 rfl ?_
  refine gf_2_9 C q56 z2 dX2_lookAt_64 ?_
  refine X_name (fun v12 ev12 => ?_)
  replace h := h v12 ev12
  refine x_istore_n (lv' := [(3, .int v12), (0, .ref (ga G 2 0)), (1, .int x1), (2, .int y2)]) C dX2_lookAt_67 rfl (Nat.le_of_ble_eq_true rfl) rfl ?_
  obtain ⟨n9, h⟩ := h
  refine X_sub (lv' := [(0, .ref (ga G 2 0)), (1, .int x1), (2, .int y2), (3, .int v12)]) [1, 2, 3, 0] rfl ?_
  have hb : ∀ (L : Mem × Int32 × Int32 → Prop) (s : Mem × Int32 × Int32), (∀ t, L t → X Γ G Qf 4 0 0 68 [(0, .ref (ga G 2 0)), (1, .int x1), (2, .int t.2.1), (3, .int t.2.2)] [] t.1) → bX2_lookAt_68 x1 Q L s.1 s.2.1 s.2.2 → X Γ G Qf 4 0 0 68 [(0, .ref (ga G 2 0)), (1, .int x1), (2, .int s.2.1), (3, .int s.2.2)] [] s.1 := fun L s hL h => wX2_lookAt_68 hG C E hL s.1 s.2.1 s.2.2 h
  have w9 := lp_walk (P := fun s : Mem × Int32 × Int32 => X Γ G Qf 4 0 0 68 [(0, .ref (ga G 2 0)), (1, .int x1), (2, .int s.2.1), (3, .int s.2.2)] [] s.1) h hb
  dsimp only at w9
  exact w9
set_option maxRecDepth 100000 in
set_option maxHeartbeats 400000 in
theorem kX2_lookAt {l : Launch} {G : Gm} (hG : Gd G) (M : Mem) (x1 : Int32) {Q : Mem → Prop} (h : pX2_lookAt M x1 Q) : Ctv l G yX2_lookAt cX2_lookAt 4 rmX2_lookAt [.ref (ga G 2 0), .int x1] M Q := by
  refine ctv_of (own := RX2) (by decide +kernel) rfl (Nat.le_of_ble_eq_true rfl) hG (fun Γ Qf hl C E => ?_)
  subst hl
  show X Γ G Qf 4 0 0 0 [(0, .ref (ga G 2 0)), (1, .int x1)] [] M
  unfold pX2_lookAt at h
  refine x_aload_n C dX2_lookAt_0 0 rfl ?_
  refine x_dup C dX2_lookAt_1 rfl ?_
  refine gf_2_13 C q80 z2 dX2_lookAt_2 ?_
  refine x_iconst (v := 1) C dX2_lookAt_5 rfl ?_
  refine x_iadd C dX2_lookAt_6 ?_
  refine pf_2_13 C q80 z2 dX2_lookAt_7 ?_
  refine X_nameM (fun M1 eM1 => ?_)
  replace h := h M1 eM1
  refine x_aload_n C dX2_lookAt_10 0 rfl ?_
  refine gf_2_1 C q81 z2 dX2_lookAt_11 ?_
  refine x_iload_n C dX2_lookAt_14 1 rfl ?_
  refine x_iconst (v := (-1)) C dX2_lookAt_15 rfl ?_
  refine x_calli (rest := []) C sv_X2_145 ob3 z3 (kX3_whyNot hG _ _ _ h) rfl rfl (Nat.le_of_ble_eq_true rfl) ⟨Nat.le_of_ble_eq_true rfl, Nat.le_of_ble_eq_true rfl⟩ rfl rfl ⟨Nat.le_of_ble_eq_true rfl, Nat.le_of_ble_eq_true rfl⟩ dX2_lookAt_16 (fun r2 M3 h => ?_)
  refine x_if_eq (tgt := 23) C dX2_lookAt_19 (by decide) (fun c4 => ?_) (fun c4 => ?_)
  · replace h := h.1 c4
    refine x_aload_n C dX2_lookAt_23 0 rfl ?_
    refine gf_2_1 C q81 z2 dX2_lookAt_24 ?_
    refine x_iload_n C dX2_lookAt_27 1 rfl ?_
    refine x_iconst (v := (-1)) C dX2_lookAt_28 rfl ?_
    refine x_calli (rest := []) C sv_X2_150 ob3 z3 (kX3_total hG _ _ _ h) rfl rfl (Nat.le_of_ble_eq_true rfl) ⟨Nat.le_of_ble_eq_true rfl, Nat.le_of_ble_eq_true rfl⟩ rfl rfl ⟨Nat.le_of_ble_eq_true rfl, Nat.le_of_ble_eq_true rfl⟩ dX2_lookAt_29 (fun r5 M6 h => ?_)
    refine x_istore_n (lv' := [(2, .int r5), (0, .ref (ga G 2 0)), (1, .int x1)]) C dX2_lookAt_32 rfl (Nat.le_of_ble_eq_true rfl) rfl ?_
    refine x_aload_n C dX2_lookAt_33 1 rfl ?_
    refine gf_2_9 C q56 z2 dX2_lookAt_34 ?_
    refine x_aload_n C dX2_lookAt_37 1 rfl ?_
    refine gf_2_6 C q57 z2 dX2_lookAt_38 ?_
    refine x_icmp_lt (tgt := 63) C dX2_lookAt_41 (by decide) (fun c7 => ?_) (fun c7 => ?_)
    · replace h := h.1 c7
      refine X_sub (lv' := [(0, .ref (ga G 2 0)), (1, .int x1), (2, .int r5)]) [1, 2, 0] rfl ?_
      exact wX2_lookAt_63 hG C E M6 r5 h
    · replace h := h.2 c7
      refine x_iload_n C dX2_lookAt_44 0 rfl ?_
      refine x_aload_n C dX2_lookAt_45 1 rfl ?_
      refine x_calli (rest := [.int r5]) C sv_X2_101 ob2 z2 (kX2_floorNow hG _ h) rfl rfl (Nat.le_of_ble_eq_true rfl) ⟨Nat.le_of_ble_eq_true rfl, Nat.le_of_ble_eq_true rfl⟩ rfl rfl ⟨Nat.le_of_ble_eq_true rfl, Nat.le_of_ble_eq_true rfl⟩ dX2_lookAt_46 (fun r8 M9 h => ?_)
      refine x_icmp_gt (tgt := 53) C dX2_lookAt_49 (by decide) (fun c10 => ?_) (fun c10 => ?_)
      · replace h := h.1 c10
        refine x_aload_n C dX2_lookAt_53 1 rfl ?_
        refine x_aload_n C dX2_lookAt_54 1 rfl ?_
        refine gf_2_6 C q57 z2 dX2_lookAt_55 ?_
        refine x_iconst (v := 1) C dX2_lookAt_58 rfl ?_
        refine x_isub C dX2_lookAt_59 ?_
        refine pf_2_9 C q56 z2 dX2_lookAt_60 ?_
        refine X_nameM (fun M11 eM11 => ?_)
        replace h := h M11 eM11
        refine X_sub (lv' := [(0, .ref (ga G 2 0)), (1, .int x1), (2, .int r5)]) [1, 2, 0] rfl ?_
        exact wX2_lookAt_63 hG C E M11 r5 h
      · replace h := h.2 c10
        exact x_vret C E h (Nat.le_of_ble_eq_true rfl) (Nat.le_of_ble_eq_true rfl) dX2_lookAt_52
  · replace h := h.2 c4
    exact x_vret C E h (Nat.le_of_ble_eq_true rfl) (Nat.le_of_ble_eq_true rfl) dX2_lookAt_22
def rmX2_leave : Room := { frames := 2, cells := 0, slots := 0, locals := 43 }
def bX2_leave_37 (x1 : Int32) (Q : Mem → Prop) (L2 : Mem × Int32 → Prop) (M : Mem) (y2 : Int32) : Prop :=
  ∀ v7 : Int32, v7 = y2 + 1 → L2 (M, v7)
def bX2_leave_2 (x1 : Int32) (Q : Mem → Prop) (L2 : Mem × Int32 → Prop) (M : Mem) (y2 : Int32) : Prop :=
  (((M.1 305 0 0) ≤ y2 → Q M) ∧ (¬ (M.1 305 0 0) ≤ y2 → vp_in y2 24 ∧ vp_in (M.1 303 0 (tn y2)) 24 ∧ ((¬ (M.1 112 (tn (M.1 303 0 (tn y2))) 0) = x1 → bX2_leave_37 x1 Q L2 M y2) ∧ ((M.1 112 (tn (M.1 303 0 (tn y2))) 0) = x1 → pX0_dip (tn (M.1 303 0 (tn y2))) M (x1 + 1) (fun M6 => bX2_leave_37 x1 Q L2 M6 y2)))))
def pX2_leave (M : Mem) (x1 : Int32) (Q : Mem → Prop) : Prop :=
  ∃ n : Nat, lp (fun L s => bX2_leave_2 x1 Q L s.1 s.2) n (M, 0)
set_option maxRecDepth 100000 in
set_option maxHeartbeats 400000 in
theorem wX2_leave_37 {Γ : Gam} {G : Gm} {Qf : State → Prop} (hG : Gd G) (C : Cx Γ G cX2_leave 4 RX2 none rmX2_leave) {x1 : Int32} {Q : Mem → Prop} (E : EndV Γ G Qf rmX2_leave Q) {L2 : Mem × Int32 → Prop} (hL2 : ∀ s, L2 s → X Γ G Qf 4 0 0 2 [(0, .ref (ga G 2 0)), (1, .int x1), (2, .int s.2)] [] s.1) (M : Mem) (y2 : Int32) (h : bX2_leave_37 x1 Q L2 M y2) : X Γ G Qf 4 0 0 37 [(0, .ref (ga G 2 0)), (1, .int x1), (2, .int y2)] [] M := by
  unfold bX2_leave_37 at h
  obtain ⟨v7, ev7⟩ : ∃ z : Int32, z = y2 + 1 := ⟨_, rfl⟩
  replace h := h v7 ev7
  refine x_iinc (v := v7) (lv' := [(2, .int v7), (0, .ref (ga G 2 0)), (1, .int x1)]) (j := 2) C dX2_leave_37 rfl (by rw [ev7]; rfl) (Nat.le_of_ble_eq_true rfl) rfl ?_
  refine x_goto (tgt := 2) C dX2_leave_40 (by decide) ?_
  refine X_sub (lv' := [(0, .ref (ga G 2 0)), (1, .int x1), (2, .int v7)]) [1, 2, 0] rfl ?_
  have w9 := hL2 (M, v7) h
  dsimp only at w9
  exact w9
set_option maxRecDepth 100000 in
set_option maxHeartbeats 400000 in
theorem wX2_leave_2 {Γ : Gam} {G : Gm} {Qf : State → Prop} (hG : Gd G) (C : Cx Γ G cX2_leave 4 RX2 none rmX2_leave) {x1 : Int32} {Q : Mem → Prop} (E : EndV Γ G Qf rmX2_leave Q) {L2 : Mem × Int32 → Prop} (hL2 : ∀ s, L2 s → X Γ G Qf 4 0 0 2 [(0, .ref (ga G 2 0)), (1, .int x1), (2, .int s.2)] [] s.1) (M : Mem) (y2 : Int32) (h : bX2_leave_2 x1 Q L2 M y2) : X Γ G Qf 4 0 0 2 [(0, .ref (ga G 2 0)), (1, .int x1), (2, .int y2)] [] M := by
  unfold bX2_leave_2 at h
  refine x_iload_n C dX2_leave_2 2 rfl ?_
  refine x_aload_n C dX2_leave_3 0 rfl ?_
  refine gf_2_5 C q60 z2 dX2_leave_4 ?_
  refine x_icmp_ge (tgt := 43) C dX2_leave_7 (by decide) (fun c1 => ?_) (fun c1 => ?_)
  · replace h := h.1 c1
    exact x_vret C E h (Nat.le_of_ble_eq_true rfl) (Nat.le_of_ble_eq_true rfl) dX2_leave_43
  · replace h := h.2 c1
    refine x_aload_n C dX2_leave_10 0 rfl ?_
    refine gf_2_2 C q50 z2 dX2_leave_11 ?_
    refine x_aload_n C dX2_leave_14 0 rfl ?_
    refine gf_2_3 C q52 z2 dX2_leave_15 ?_
    refine x_iload_n C dX2_leave_18 2 rfl ?_
    obtain ⟨f2, h⟩ := h
    refine al_303 C z303 f2 dX2_leave_19 ?_
    obtain ⟨f3, h⟩ := h
    refine al_302 C z302 f3 dX2_leave_20 ?_
    refine x_astore_n (lv' := [(3, .ref (ga G 0 (tn (M.1 303 0 (tn y2))))), (0, .ref (ga G 2 0)), (1, .int x1), (2, .int y2)]) C dX2_leave_21 rfl (Nat.le_of_ble_eq_true rfl) rfl ?_
    refine x_aload_n C dX2_leave_22 0 rfl ?_
    refine gf_0_12 C q53 (vp_lt f3) dX2_leave_23 ?_
    refine x_iload_n C dX2_leave_26 2 rfl ?_
    refine x_icmp_ne (tgt := 37) C dX2_leave_27 (by decide) (fun c4 => ?_) (fun c4 => ?_)
    · replace h := h.1 c4
      refine X_sub (lv' := [(0, .ref (ga G 2 0)), (1, .int x1), (2, .int y2)]) [1, 2, 3] rfl ?_
      exact wX2_leave_37 hG C E hL2 M y2 h
    · replace h := h.2 c4
      refine x_aload_n C dX2_leave_30 0 rfl ?_
      refine x_iload_n C dX2_leave_31 2 rfl ?_
      refine x_iconst (v := 1) C dX2_leave_32 rfl ?_
      refine x_iadd C dX2_leave_33 ?_
      refine x_callv (rest := []) C sv_X2_142 ob0 (vp_lt f3) (kX0_dip hG (vp_lt f3) _ _ h) rfl rfl (Nat.le_of_ble_eq_true rfl) ⟨Nat.le_of_ble_eq_true rfl, Nat.le_of_ble_eq_true rfl⟩ rfl rfl ⟨Nat.le_of_ble_eq_true rfl, Nat.le_of_ble_eq_true rfl⟩ dX2_leave_34 (fun M6 h => ?_)
      refine X_sub (lv' := [(0, .ref (ga G 2 0)), (1, .int x1), (2, .int y2)]) [1, 2, 3] rfl ?_
      exact wX2_leave_37 hG C E hL2 M6 y2 h
set_option maxRecDepth 100000 in
set_option maxHeartbeats 400000 in
theorem kX2_leave {l : Launch} {G : Gm} (hG : Gd G) (M : Mem) (x1 : Int32) {Q : Mem → Prop} (h : pX2_leave M x1 Q) : Ctv l G yX2_leave cX2_leave 4 rmX2_leave [.ref (ga G 2 0), .int x1] M Q := by
  refine ctv_of (own := RX2) (by decide +kernel) rfl (Nat.le_of_ble_eq_true rfl) hG (fun Γ Qf hl C E => ?_)
  subst hl
  show X Γ G Qf 4 0 0 0 [(0, .ref (ga G 2 0)), (1, .int x1)] [] M
  unfold pX2_leave at h
  refine x_iconst (v := 0) C dX2_leave_0 rfl ?_
  refine x_istore_n (lv' := [(2, .int 0), (0, .ref (ga G 2 0)), (1, .int x1)]) C dX2_leave_1 rfl (Nat.le_of_ble_eq_true rfl) rfl ?_
  obtain ⟨n9, h⟩ := h
  refine X_sub (lv' := [(0, .ref (ga G 2 0)), (1, .int x1), (2, .int 0)]) [1, 2, 0] rfl ?_
  have hb : ∀ (L : Mem × Int32 → Prop) (s : Mem × Int32), (∀ t, L t → X Γ G Qf 4 0 0 2 [(0, .ref (ga G 2 0)), (1, .int x1), (2, .int t.2)] [] t.1) → bX2_leave_2 x1 Q L s.1 s.2 → X Γ G Qf 4 0 0 2 [(0, .ref (ga G 2 0)), (1, .int x1), (2, .int s.2)] [] s.1 := fun L s hL h => wX2_leave_2 hG C E hL s.1 s.2 h
  have w9 := lp_walk (P := fun s : Mem × Int32 => X Γ G Qf 4 0 0 2 [(0, .ref (ga G 2 0)), (1, .int x1), (2, .int s.2)] [] s.1) h hb
  dsimp only at w9
  exact w9
def rmX2_takeTurn : Room := { frames := 5, cells := 0, slots := 0, locals := 115 }
def bX2_takeTurn_115 (Q : Int32 → Mem → Prop) (M : Mem) (y2 : Int32) : Prop :=
  pX2_leave M y2 (fun M30 => Q 1 M30)
def pX2_takeTurn (M : Mem) (Q : Int32 → Mem → Prop) : Prop :=
  pX2_lineUp M (fun M2 => pX2_findPivot M2 (fun r3 M4 => ((¬ r3 = (-1) → vp_in r3 24 ∧ vp_in (M4.1 303 0 (tn r3)) 24 ∧ ∀ v8 : Int32, v8 = (M4.1 112 (tn (M4.1 303 0 (tn r3))) 0) → pX2_countHere M4 v8 (fun M10 => pX2_boundHere M10 v8 (fun r11 M12 => pX2_floorNow M12 (fun r13 M14 => ((r13 < r11 → vp_in (M14.1 303 0 (tn 0)) 24 ∧ ((v8 ≤ (M14.1 112 (tn (M14.1 303 0 (tn 0))) 0) → pX2_seekAll M14 v8 (fun r18 M19 => ((r18 = 0 → bX2_takeTurn_115 Q M19 v8) ∧ (¬ r18 = 0 → pX2_lookAt M19 v8 (fun M22 => bX2_takeTurn_115 Q M22 v8))))) ∧ (¬ v8 ≤ (M14.1 112 (tn (M14.1 303 0 (tn 0))) 0) → ∀ M23 : Mem, M23 = up1 M14 311 0 0 ((M14.1 311 0 0) + 1) → vp_in (M23.1 303 0 (tn 0)) 24 ∧ pX0_seek (tn (M23.1 303 0 (tn 0))) M23 v8 (fun M26 => Q 1 M26)))) ∧ (¬ r13 < r11 → pX2_skip M14 v8 (fun M28 => Q 1 M28))))))) ∧ (r3 = (-1) → Q 0 M4))))
set_option maxRecDepth 100000 in
set_option maxHeartbeats 400000 in
theorem wX2_takeTurn_115 {Γ : Gam} {G : Gm} {Qf : State → Prop} (hG : Gd G) (C : Cx Γ G cX2_takeTurn 3 RX2 (some .boolean) rmX2_takeTurn)  {Q : Int32 → Mem → Prop} (E : EndI Γ G Qf rmX2_takeTurn Q) (M : Mem) (y2 : Int32) (h : bX2_takeTurn_115 Q M y2) : X Γ G Qf 3 0 0 115 [(0, .ref (ga G 2 0)), (2, .int y2)] [] M := by
  unfold bX2_takeTurn_115 at h
  refine x_aload_n C dX2_takeTurn_115 0 rfl ?_
  refine x_iload_n C dX2_takeTurn_116 1 rfl ?_
  refine x_callv (rest := []) C sv_X2_117 ob2 z2 (kX2_leave hG _ _ h) rfl rfl (Nat.le_of_ble_eq_true rfl) ⟨Nat.le_of_ble_eq_true rfl, Nat.le_of_ble_eq_true rfl⟩ rfl rfl ⟨Nat.le_of_ble_eq_true rfl, Nat.le_of_ble_eq_true rfl⟩ dX2_takeTurn_117 (fun M30 h => ?_)
  refine x_iconst (v := 1) C dX2_takeTurn_120 rfl ?_
  exact x_zret C E h rfl (Nat.le_of_ble_eq_true rfl) (Nat.le_of_ble_eq_true rfl) dX2_takeTurn_121
set_option maxRecDepth 100000 in
set_option maxHeartbeats 400000 in
theorem kX2_takeTurn {l : Launch} {G : Gm} (hG : Gd G) (M : Mem)  {Q : Int32 → Mem → Prop} (h : pX2_takeTurn M Q) : Cti l G yX2_takeTurn cX2_takeTurn 3 .boolean rmX2_takeTurn [.ref (ga G 2 0)] M Q := by
  refine cti_of (own := RX2) (by decide +kernel) rfl (Nat.le_of_ble_eq_true rfl) hG (fun Γ Qf hl C E => ?_)
  subst hl
  show X Γ G Qf 3 0 0 0 [(0, .ref (ga G 2 0))] [] M
  unfold pX2_takeTurn at h
  refine x_aload_n C dX2_takeTurn_0 0 rfl ?_
  refine x_callv (rest := []) C sv_X2_83 ob2 z2 (kX2_lineUp hG _ h) rfl rfl (Nat.le_of_ble_eq_true rfl) ⟨Nat.le_of_ble_eq_true rfl, Nat.le_of_ble_eq_true rfl⟩ rfl rfl ⟨Nat.le_of_ble_eq_true rfl, Nat.le_of_ble_eq_true rfl⟩ dX2_takeTurn_1 (fun M2 h => ?_)
  refine x_aload_n C dX2_takeTurn_4 0 rfl ?_
  refine x_calli (rest := []) C sv_X2_86 ob2 z2 (kX2_findPivot hG _ h) rfl rfl (Nat.le_of_ble_eq_true rfl) ⟨Nat.le_of_ble_eq_true rfl, Nat.le_of_ble_eq_true rfl⟩ rfl rfl ⟨Nat.le_of_ble_eq_true rfl, Nat.le_of_ble_eq_true rfl⟩ dX2_takeTurn_5 (fun r3 M4 h => ?_)
  refine x_istore_n (lv' := [(1, .int r3), (0, .ref (ga G 2 0))]) C dX2_takeTurn_8 rfl (Nat.le_of_ble_eq_true rfl) rfl ?_
  refine x_iload_n C dX2_takeTurn_9 0 rfl ?_
  refine x_iconst (v := (-1)) C dX2_takeTurn_10 rfl ?_
  refine x_icmp_ne (tgt := 16) C dX2_takeTurn_11 (by decide) (fun c5 => ?_) (fun c5 => ?_)
  · replace h := h.1 c5
    refine x_aload_n C dX2_takeTurn_16 1 rfl ?_
    refine gf_2_2 C q50 z2 dX2_takeTurn_17 ?_
    refine x_aload_n C dX2_takeTurn_20 1 rfl ?_
    refine gf_2_3 C q52 z2 dX2_takeTurn_21 ?_
    refine x_iload_n C dX2_takeTurn_24 0 rfl ?_
    obtain ⟨f6, h⟩ := h
    refine al_303 C z303 f6 dX2_takeTurn_25 ?_
    obtain ⟨f7, h⟩ := h
    refine al_302 C z302 f7 dX2_takeTurn_26 ?_
    refine gf_0_12 C q53 (vp_lt f7) dX2_takeTurn_27 ?_
    refine X_name (fun v8 ev8 => ?_)
    replace h := h v8 ev8
    refine x_istore_n (lv' := [(2, .int v8), (1, .int r3), (0, .ref (ga G 2 0))]) C dX2_takeTurn_30 rfl (Nat.le_of_ble_eq_true rfl) rfl ?_
    refine x_aload_n C dX2_takeTurn_31 2 rfl ?_
    refine x_iload_n C dX2_takeTurn_32 0 rfl ?_
    refine x_callv (rest := []) C sv_X2_93 ob2 z2 (kX2_countHere hG _ _ h) rfl rfl (Nat.le_of_ble_eq_true rfl) ⟨Nat.le_of_ble_eq_true rfl, Nat.le_of_ble_eq_true rfl⟩ rfl rfl ⟨Nat.le_of_ble_eq_true rfl, Nat.le_of_ble_eq_true rfl⟩ dX2_takeTurn_33 (fun M10 h => ?_)
    refine x_aload_n C dX2_takeTurn_36 2 rfl ?_
    refine x_iload_n C dX2_takeTurn_37 0 rfl ?_
    refine x_calli (rest := []) C sv_X2_97 ob2 z2 (kX2_boundHere hG _ _ h) rfl rfl (Nat.le_of_ble_eq_true rfl) ⟨Nat.le_of_ble_eq_true rfl, Nat.le_of_ble_eq_true rfl⟩ rfl rfl ⟨Nat.le_of_ble_eq_true rfl, Nat.le_of_ble_eq_true rfl⟩ dX2_takeTurn_38 (fun r11 M12 h => ?_)
    refine x_aload_n C dX2_takeTurn_41 2 rfl ?_
    refine x_calli (rest := [.int r11]) C sv_X2_101 ob2 z2 (kX2_floorNow hG _ h) rfl rfl (Nat.le_of_ble_eq_true rfl) ⟨Nat.le_of_ble_eq_true rfl, Nat.le_of_ble_eq_true rfl⟩ rfl rfl ⟨Nat.le_of_ble_eq_true rfl, Nat.le_of_ble_eq_true rfl⟩ dX2_takeTurn_42 (fun r13 M14 h => ?_)
    refine x_icmp_gt (tgt := 56) C dX2_takeTurn_45 (by decide) (fun c15 => ?_) (fun c15 => ?_)
    · replace h := h.1 c15
      refine x_aload_n C dX2_takeTurn_56 2 rfl ?_
      refine gf_2_2 C q50 z2 dX2_takeTurn_57 ?_
      refine x_aload_n C dX2_takeTurn_60 2 rfl ?_
      refine gf_2_3 C q52 z2 dX2_takeTurn_61 ?_
      refine x_iconst (v := 0) C dX2_takeTurn_64 rfl ?_
      refine al_303 C z303 (vp_l (by decide)) dX2_takeTurn_65 ?_
      obtain ⟨f16, h⟩ := h
      refine al_302 C z302 f16 dX2_takeTurn_66 ?_
      refine gf_0_12 C q53 (vp_lt f16) dX2_takeTurn_67 ?_
      refine x_iload_n C dX2_takeTurn_70 0 rfl ?_
      refine x_icmp_ge (tgt := 102) C dX2_takeTurn_71 (by decide) (fun c17 => ?_) (fun c17 => ?_)
      · replace h := h.1 c17
        refine x_aload_n C dX2_takeTurn_102 2 rfl ?_
        refine x_iload_n C dX2_takeTurn_103 0 rfl ?_
        refine x_calli (rest := []) C sv_X2_110 ob2 z2 (kX2_seekAll hG _ _ h) rfl rfl (Nat.le_of_ble_eq_true rfl) ⟨Nat.le_of_ble_eq_true rfl, Nat.le_of_ble_eq_true rfl⟩ rfl rfl ⟨Nat.le_of_ble_eq_true rfl, Nat.le_of_ble_eq_true rfl⟩ dX2_takeTurn_104 (fun r18 M19 h => ?_)
        refine x_if_eq (tgt := 115) C dX2_takeTurn_107 (by decide) (fun c20 => ?_) (fun c20 => ?_)
        · replace h := h.1 c20
          refine X_sub (lv' := [(0, .ref (ga G 2 0)), (2, .int v8)]) [2, 0] rfl ?_
          exact wX2_takeTurn_115 hG C E M19 v8 h
        · replace h := h.2 c20
          refine x_aload_n C dX2_takeTurn_110 2 rfl ?_
          refine x_iload_n C dX2_takeTurn_111 0 rfl ?_
          refine x_callv (rest := []) C sv_X2_114 ob2 z2 (kX2_lookAt hG _ _ h) rfl rfl (Nat.le_of_ble_eq_true rfl) ⟨Nat.le_of_ble_eq_true rfl, Nat.le_of_ble_eq_true rfl⟩ rfl rfl ⟨Nat.le_of_ble_eq_true rfl, Nat.le_of_ble_eq_true rfl⟩ dX2_takeTurn_112 (fun M22 h => ?_)
          refine X_sub (lv' := [(0, .ref (ga G 2 0)), (2, .int v8)]) [2, 0] rfl ?_
          exact wX2_takeTurn_115 hG C E M22 v8 h
      · replace h := h.2 c17
        refine x_aload_n C dX2_takeTurn_74 2 rfl ?_
        refine x_dup C dX2_takeTurn_75 rfl ?_
        refine gf_2_11 C q62 z2 dX2_takeTurn_76 ?_
        refine x_iconst (v := 1) C dX2_takeTurn_79 rfl ?_
        refine x_iadd C dX2_takeTurn_80 ?_
        refine pf_2_11 C q62 z2 dX2_takeTurn_81 ?_
        refine X_nameM (fun M23 eM23 => ?_)
        replace h := h M23 eM23
        refine x_aload_n C dX2_takeTurn_84 2 rfl ?_
        refine gf_2_2 C q50 z2 dX2_takeTurn_85 ?_
        refine x_aload_n C dX2_takeTurn_88 2 rfl ?_
        refine gf_2_3 C q52 z2 dX2_takeTurn_89 ?_
        refine x_iconst (v := 0) C dX2_takeTurn_92 rfl ?_
        refine al_303 C z303 (vp_l (by decide)) dX2_takeTurn_93 ?_
        obtain ⟨f24, h⟩ := h
        refine al_302 C z302 f24 dX2_takeTurn_94 ?_
        refine x_iload_n C dX2_takeTurn_95 0 rfl ?_
        refine x_callv (rest := []) C sv_X2_107 ob0 (vp_lt f24) (kX0_seek hG (vp_lt f24) _ _ h) rfl rfl (Nat.le_of_ble_eq_true rfl) ⟨Nat.le_of_ble_eq_true rfl, Nat.le_of_ble_eq_true rfl⟩ rfl rfl ⟨Nat.le_of_ble_eq_true rfl, Nat.le_of_ble_eq_true rfl⟩ dX2_takeTurn_96 (fun M26 h => ?_)
        refine x_goto (tgt := 120) C dX2_takeTurn_99 (by decide) ?_
        refine x_iconst (v := 1) C dX2_takeTurn_120 rfl ?_
        exact x_zret C E h rfl (Nat.le_of_ble_eq_true rfl) (Nat.le_of_ble_eq_true rfl) dX2_takeTurn_121
    · replace h := h.2 c15
      refine x_aload_n C dX2_takeTurn_48 2 rfl ?_
      refine x_iload_n C dX2_takeTurn_49 0 rfl ?_
      refine x_callv (rest := []) C sv_X2_104 ob2 z2 (kX2_skip hG _ _ h) rfl rfl (Nat.le_of_ble_eq_true rfl) ⟨Nat.le_of_ble_eq_true rfl, Nat.le_of_ble_eq_true rfl⟩ rfl rfl ⟨Nat.le_of_ble_eq_true rfl, Nat.le_of_ble_eq_true rfl⟩ dX2_takeTurn_50 (fun M28 h => ?_)
      refine x_goto (tgt := 120) C dX2_takeTurn_53 (by decide) ?_
      refine x_iconst (v := 1) C dX2_takeTurn_120 rfl ?_
      exact x_zret C E h rfl (Nat.le_of_ble_eq_true rfl) (Nat.le_of_ble_eq_true rfl) dX2_takeTurn_121
  · replace h := h.2 c5
    refine x_iconst (v := 0) C dX2_takeTurn_14 rfl ?_
    exact x_zret C E h rfl (Nat.le_of_ble_eq_true rfl) (Nat.le_of_ble_eq_true rfl) dX2_takeTurn_15
def rmX2_run : Room := { frames := 6, cells := 0, slots := 0, locals := 137 }
def bX2_run_130 (x1 : Int32) (x2 : Int32) (Q : Mem → Prop) (L96 : Mem × Int32 × Int32 → Prop) (M : Mem) (y3 : Int32) (y4 : Int32) : Prop :=
  ∀ v19 : Int32, v19 = y4 + 1 → L96 (M, y3, v19)
def bX2_run_96 (x1 : Int32) (x2 : Int32) (Q : Mem → Prop) (L96 : Mem × Int32 × Int32 → Prop) (M : Mem) (y3 : Int32) (y4 : Int32) : Prop :=
  ((1000000 ≤ y4 → Q M) ∧ (¬ 1000000 ≤ y4 → ((¬ y3 = 0 → Q M) ∧ (y3 = 0 → ∀ M15 : Mem, M15 = up1 M 310 0 0 ((M.1 310 0 0) + 1) → pX2_takeTurn M15 (fun r16 M17 => ((¬ r16 = 0 → bX2_run_130 x1 x2 Q L96 M17 0 y4) ∧ (r16 = 0 → bX2_run_130 x1 x2 Q L96 M17 1 y4)))))))
def bX2_run_93 (x1 : Int32) (x2 : Int32) (Q : Mem → Prop) (M : Mem) (y3 : Int32) : Prop :=
  ∃ n : Nat, lp (fun L s => bX2_run_96 x1 x2 Q L s.1 s.2.1 s.2.2) n (M, y3, 0)
def bX2_run_32 (x1 : Int32) (x2 : Int32) (Q : Mem → Prop) (L32 : Mem × Int32 → Prop) (M : Mem) (y3 : Int32) : Prop :=
  (((M.1 701 0 0) ≤ y3 → ((¬ (M.1 701 0 0) = 0 → bX2_run_93 x1 x2 Q M 0) ∧ ((M.1 701 0 0) = 0 → bX2_run_93 x1 x2 Q M 1))) ∧ (¬ (M.1 701 0 0) ≤ y3 → vp_in y3 24 ∧ pX0_start (tn y3) M (M.1 702 0 (tn y3)) (M.1 703 0 (tn y3)) x2 (fun M11 => ∀ v12 : Int32, v12 = y3 + 1 → L32 (M11, v12))))
def pX2_run (M : Mem) (x1 : Int32) (x2 : Int32) (Q : Mem → Prop) : Prop :=
  ∀ M1 : Mem, M1 = up1 M 306 0 0 x1 → ∀ M2 : Mem, M2 = up1 M1 309 0 0 0 → ∀ M3 : Mem, M3 = up1 M2 310 0 0 0 → ∀ M4 : Mem, M4 = up1 M3 311 0 0 0 → ∀ M5 : Mem, M5 = up1 M4 312 0 0 0 → ∀ M6 : Mem, M6 = up1 M5 313 0 0 0 → ∃ n : Nat, lp (fun L s => bX2_run_32 x1 x2 Q L s.1 s.2) n (M6, 0)
set_option maxRecDepth 100000 in
set_option maxHeartbeats 400000 in
theorem wX2_run_130 {Γ : Gam} {G : Gm} {Qf : State → Prop} (hG : Gd G) (C : Cx Γ G cX2_run 5 RX2 none rmX2_run) {x1 : Int32} {x2 : Int32} {Q : Mem → Prop} (E : EndV Γ G Qf rmX2_run Q) {L96 : Mem × Int32 × Int32 → Prop} (hL96 : ∀ s, L96 s → X Γ G Qf 5 0 0 96 [(0, .ref (ga G 2 0)), (3, .int s.2.1), (4, .int s.2.2)] [] s.1) (M : Mem) (y3 : Int32) (y4 : Int32) (h : bX2_run_130 x1 x2 Q L96 M y3 y4) : X Γ G Qf 5 0 0 130 [(0, .ref (ga G 2 0)), (3, .int y3), (4, .int y4)] [] M := by
  unfold bX2_run_130 at h
  obtain ⟨v19, ev19⟩ : ∃ z : Int32, z = y4 + 1 := ⟨_, rfl⟩
  replace h := h v19 ev19
  refine x_iinc (v := v19) (lv' := [(4, .int v19), (0, .ref (ga G 2 0)), (3, .int y3)]) (j := 2) C dX2_run_130 rfl (by rw [ev19]; rfl) (Nat.le_of_ble_eq_true rfl) rfl ?_
  refine x_goto (tgt := 96) C dX2_run_133 (by decide) ?_
  refine X_sub (lv' := [(0, .ref (ga G 2 0)), (3, .int y3), (4, .int v19)]) [1, 2, 0] rfl ?_
  have w9 := hL96 (M, y3, v19) h
  dsimp only at w9
  exact w9
set_option maxRecDepth 100000 in
set_option maxHeartbeats 400000 in
theorem wX2_run_96 {Γ : Gam} {G : Gm} {Qf : State → Prop} (hG : Gd G) (C : Cx Γ G cX2_run 5 RX2 none rmX2_run) {x1 : Int32} {x2 : Int32} {Q : Mem → Prop} (E : EndV Γ G Qf rmX2_run Q) {L96 : Mem × Int32 × Int32 → Prop} (hL96 : ∀ s, L96 s → X Γ G Qf 5 0 0 96 [(0, .ref (ga G 2 0)), (3, .int s.2.1), (4, .int s.2.2)] [] s.1) (M : Mem) (y3 : Int32) (y4 : Int32) (h : bX2_run_96 x1 x2 Q L96 M y3 y4) : X Γ G Qf 5 0 0 96 [(0, .ref (ga G 2 0)), (3, .int y3), (4, .int y4)] [] M := by
  unfold bX2_run_96 at h
  refine x_iload C dX2_run_96 2 rfl ?_
  refine x_ldc C q86 dX2_run_98 ?_
  refine x_icmp_ge (tgt := 136) C dX2_run_100 (by decide) (fun c13 => ?_) (fun c13 => ?_)
  · replace h := h.1 c13
    exact x_vret C E h (Nat.le_of_ble_eq_true rfl) (Nat.le_of_ble_eq_true rfl) dX2_run_136
  · replace h := h.2 c13
    refine x_iload_n C dX2_run_103 1 rfl ?_
    refine x_if_ne (tgt := 136) C dX2_run_104 (by decide) (fun c14 => ?_) (fun c14 => ?_)
    · replace h := h.1 c14
      exact x_vret C E h (Nat.le_of_ble_eq_true rfl) (Nat.le_of_ble_eq_true rfl) dX2_run_136
    · replace h := h.2 c14
      refine x_aload_n C dX2_run_107 0 rfl ?_
      refine x_dup C dX2_run_108 rfl ?_
      refine gf_2_10 C q83 z2 dX2_run_109 ?_
      refine x_iconst (v := 1) C dX2_run_112 rfl ?_
      refine x_iadd C dX2_run_113 ?_
      refine pf_2_10 C q83 z2 dX2_run_114 ?_
      refine X_nameM (fun M15 eM15 => ?_)
      replace h := h M15 eM15
      refine x_aload_n C dX2_run_117 0 rfl ?_
      refine x_calli (rest := []) C sv_X2_79 ob2 z2 (kX2_takeTurn hG _ h) rfl rfl (Nat.le_of_ble_eq_true rfl) ⟨Nat.le_of_ble_eq_true rfl, Nat.le_of_ble_eq_true rfl⟩ rfl rfl ⟨Nat.le_of_ble_eq_true rfl, Nat.le_of_ble_eq_true rfl⟩ dX2_run_118 (fun r16 M17 h => ?_)
      refine x_if_ne (tgt := 128) C dX2_run_121 (by decide) (fun c18 => ?_) (fun c18 => ?_)
      · replace h := h.1 c18
        refine x_iconst (v := 0) C dX2_run_128 rfl ?_
        refine x_istore_n (lv' := [(3, .int 0), (0, .ref (ga G 2 0)), (4, .int y4)]) C dX2_run_129 rfl (Nat.le_of_ble_eq_true rfl) rfl ?_
        refine X_sub (lv' := [(0, .ref (ga G 2 0)), (3, .int 0), (4, .int y4)]) [1, 0, 2] rfl ?_
        exact wX2_run_130 hG C E hL96 M17 0 y4 h
      · replace h := h.2 c18
        refine x_iconst (v := 1) C dX2_run_124 rfl ?_
        refine x_goto (tgt := 129) C dX2_run_125 (by decide) ?_
        refine x_istore_n (lv' := [(3, .int 1), (0, .ref (ga G 2 0)), (4, .int y4)]) C dX2_run_129 rfl (Nat.le_of_ble_eq_true rfl) rfl ?_
        refine X_sub (lv' := [(0, .ref (ga G 2 0)), (3, .int 1), (4, .int y4)]) [1, 0, 2] rfl ?_
        exact wX2_run_130 hG C E hL96 M17 1 y4 h
set_option maxRecDepth 100000 in
set_option maxHeartbeats 400000 in
theorem wX2_run_93 {Γ : Gam} {G : Gm} {Qf : State → Prop} (hG : Gd G) (C : Cx Γ G cX2_run 5 RX2 none rmX2_run) {x1 : Int32} {x2 : Int32} {Q : Mem → Prop} (E : EndV Γ G Qf rmX2_run Q) (M : Mem) (y3 : Int32) (h : bX2_run_93 x1 x2 Q M y3) : X Γ G Qf 5 0 0 93 [(0, .ref (ga G 2 0)), (3, .int y3)] [] M := by
  unfold bX2_run_93 at h
  refine x_iconst (v := 0) C dX2_run_93 rfl ?_
  refine x_istore (lv' := [(4, .int 0), (0, .ref (ga G 2 0)), (3, .int y3)]) C dX2_run_94 (Nat.le_of_ble_eq_true rfl) rfl ?_
  obtain ⟨n9, h⟩ := h
  refine X_sub (lv' := [(0, .ref (ga G 2 0)), (3, .int y3), (4, .int 0)]) [1, 2, 0] rfl ?_
  have hb : ∀ (L : Mem × Int32 × Int32 → Prop) (s : Mem × Int32 × Int32), (∀ t, L t → X Γ G Qf 5 0 0 96 [(0, .ref (ga G 2 0)), (3, .int t.2.1), (4, .int t.2.2)] [] t.1) → bX2_run_96 x1 x2 Q L s.1 s.2.1 s.2.2 → X Γ G Qf 5 0 0 96 [(0, .ref (ga G 2 0)), (3, .int s.2.1), (4, .int s.2.2)] [] s.1 := fun L s hL h => wX2_run_96 hG C E hL s.1 s.2.1 s.2.2 h
  have w9 := lp_walk (P := fun s : Mem × Int32 × Int32 => X Γ G Qf 5 0 0 96 [(0, .ref (ga G 2 0)), (3, .int s.2.1), (4, .int s.2.2)] [] s.1) h hb
  dsimp only at w9
  exact w9
set_option maxRecDepth 100000 in
set_option maxHeartbeats 400000 in
theorem wX2_run_32 {Γ : Gam} {G : Gm} {Qf : State → Prop} (hG : Gd G) (C : Cx Γ G cX2_run 5 RX2 none rmX2_run) {x1 : Int32} {x2 : Int32} {Q : Mem → Prop} (E : EndV Γ G Qf rmX2_run Q) {L32 : Mem × Int32 → Prop} (hL32 : ∀ s, L32 s → X Γ G Qf 5 0 0 32 [(0, .ref (ga G 2 0)), (2, .int x2), (3, .int s.2)] [] s.1) (M : Mem) (y3 : Int32) (h : bX2_run_32 x1 x2 Q L32 M y3) : X Γ G Qf 5 0 0 32 [(0, .ref (ga G 2 0)), (2, .int x2), (3, .int y3)] [] M := by
  unfold bX2_run_32 at h
  refine x_iload_n C dX2_run_32 2 rfl ?_
  refine x_aload_n C dX2_run_33 0 rfl ?_
  refine gf_2_0 C q48 z2 dX2_run_34 ?_
  refine gf_6_1 C q49 z6 dX2_run_37 ?_
  refine x_icmp_ge (tgt := 77) C dX2_run_40 (by decide) (fun c7 => ?_) (fun c7 => ?_)
  · replace h := h.1 c7
    refine x_aload_n C dX2_run_77 0 rfl ?_
    refine gf_2_0 C q48 z2 dX2_run_78 ?_
    refine gf_6_1 C q49 z6 dX2_run_81 ?_
    refine x_if_ne (tgt := 91) C dX2_run_84 (by decide) (fun c8 => ?_) (fun c8 => ?_)
    · replace h := h.1 c8
      refine x_iconst (v := 0) C dX2_run_91 rfl ?_
      refine x_istore_n (lv' := [(3, .int 0), (0, .ref (ga G 2 0)), (2, .int x2)]) C dX2_run_92 rfl (Nat.le_of_ble_eq_true rfl) rfl ?_
      refine X_sub (lv' := [(0, .ref (ga G 2 0)), (3, .int 0)]) [1, 0] rfl ?_
      exact wX2_run_93 hG C E M 0 h
    · replace h := h.2 c8
      refine x_iconst (v := 1) C dX2_run_87 rfl ?_
      refine x_goto (tgt := 92) C dX2_run_88 (by decide) ?_
      refine x_istore_n (lv' := [(3, .int 1), (0, .ref (ga G 2 0)), (2, .int x2)]) C dX2_run_92 rfl (Nat.le_of_ble_eq_true rfl) rfl ?_
      refine X_sub (lv' := [(0, .ref (ga G 2 0)), (3, .int 1)]) [1, 0] rfl ?_
      exact wX2_run_93 hG C E M 1 h
  · replace h := h.2 c7
    refine x_aload_n C dX2_run_43 0 rfl ?_
    refine gf_2_2 C q50 z2 dX2_run_44 ?_
    refine x_iload_n C dX2_run_47 2 rfl ?_
    obtain ⟨f9, h⟩ := h
    refine al_302 C z302 f9 dX2_run_48 ?_
    refine x_aload_n C dX2_run_49 0 rfl ?_
    refine gf_2_0 C q48 z2 dX2_run_50 ?_
    refine gf_6_2 C q84 z6 dX2_run_53 ?_
    refine x_iload_n C dX2_run_56 2 rfl ?_
    refine al_702 C z702 f9 dX2_run_57 ?_
    refine x_aload_n C dX2_run_58 0 rfl ?_
    refine gf_2_0 C q48 z2 dX2_run_59 ?_
    refine gf_6_3 C q85 z6 dX2_run_62 ?_
    refine x_iload_n C dX2_run_65 2 rfl ?_
    refine al_703 C z703 f9 dX2_run_66 ?_
    refine x_iload_n C dX2_run_67 1 rfl ?_
    refine x_callv (rest := []) C sv_X2_74 ob0 (vp_lt f9) (kX0_start hG (vp_lt f9) _ _ _ _ h) rfl rfl (Nat.le_of_ble_eq_true rfl) ⟨Nat.le_of_ble_eq_true rfl, Nat.le_of_ble_eq_true rfl⟩ rfl rfl ⟨Nat.le_of_ble_eq_true rfl, Nat.le_of_ble_eq_true rfl⟩ dX2_run_68 (fun M11 h => ?_)
    obtain ⟨v12, ev12⟩ : ∃ z : Int32, z = y3 + 1 := ⟨_, rfl⟩
    replace h := h v12 ev12
    refine x_iinc (v := v12) (lv' := [(3, .int v12), (0, .ref (ga G 2 0)), (2, .int x2)]) (j := 2) C dX2_run_71 rfl (by rw [ev12]; rfl) (Nat.le_of_ble_eq_true rfl) rfl ?_
    refine x_goto (tgt := 32) C dX2_run_74 (by decide) ?_
    refine X_sub (lv' := [(0, .ref (ga G 2 0)), (2, .int x2), (3, .int v12)]) [1, 2, 0] rfl ?_
    have w9 := hL32 (M11, v12) h
    dsimp only at w9
    exact w9
set_option maxRecDepth 100000 in
set_option maxHeartbeats 400000 in
theorem kX2_run {l : Launch} {G : Gm} (hG : Gd G) (M : Mem) (x1 : Int32) (x2 : Int32) {Q : Mem → Prop} (h : pX2_run M x1 x2 Q) : Ctv l G yX2_run cX2_run 5 rmX2_run [.ref (ga G 2 0), .int x1, .int x2] M Q := by
  refine ctv_of (own := RX2) (by decide +kernel) rfl (Nat.le_of_ble_eq_true rfl) hG (fun Γ Qf hl C E => ?_)
  subst hl
  show X Γ G Qf 5 0 0 0 [(0, .ref (ga G 2 0)), (1, .int x1), (2, .int x2)] [] M
  unfold pX2_run at h
  refine x_aload_n C dX2_run_0 0 rfl ?_
  refine x_iload_n C dX2_run_1 1 rfl ?_
  refine pf_2_6 C q57 z2 dX2_run_2 ?_
  refine X_nameM (fun M1 eM1 => ?_)
  replace h := h M1 eM1
  refine x_aload_n C dX2_run_5 0 rfl ?_
  refine x_iconst (v := 0) C dX2_run_6 rfl ?_
  refine pf_2_9 C q56 z2 dX2_run_7 ?_
  refine X_nameM (fun M2 eM2 => ?_)
  replace h := h M2 eM2
  refine x_aload_n C dX2_run_10 0 rfl ?_
  refine x_iconst (v := 0) C dX2_run_11 rfl ?_
  refine pf_2_10 C q83 z2 dX2_run_12 ?_
  refine X_nameM (fun M3 eM3 => ?_)
  replace h := h M3 eM3
  refine x_aload_n C dX2_run_15 0 rfl ?_
  refine x_iconst (v := 0) C dX2_run_16 rfl ?_
  refine pf_2_11 C q62 z2 dX2_run_17 ?_
  refine X_nameM (fun M4 eM4 => ?_)
  replace h := h M4 eM4
  refine x_aload_n C dX2_run_20 0 rfl ?_
  refine x_iconst (v := 0) C dX2_run_21 rfl ?_
  refine pf_2_12 C q61 z2 dX2_run_22 ?_
  refine X_nameM (fun M5 eM5 => ?_)
  replace h := h M5 eM5
  refine x_aload_n C dX2_run_25 0 rfl ?_
  refine x_iconst (v := 0) C dX2_run_26 rfl ?_
  refine pf_2_13 C q80 z2 dX2_run_27 ?_
  refine X_nameM (fun M6 eM6 => ?_)
  replace h := h M6 eM6
  refine x_iconst (v := 0) C dX2_run_30 rfl ?_
  refine x_istore_n (lv' := [(3, .int 0), (0, .ref (ga G 2 0)), (1, .int x1), (2, .int x2)]) C dX2_run_31 rfl (Nat.le_of_ble_eq_true rfl) rfl ?_
  obtain ⟨n9, h⟩ := h
  refine X_sub (lv' := [(0, .ref (ga G 2 0)), (2, .int x2), (3, .int 0)]) [1, 3, 0] rfl ?_
  have hb : ∀ (L : Mem × Int32 → Prop) (s : Mem × Int32), (∀ t, L t → X Γ G Qf 5 0 0 32 [(0, .ref (ga G 2 0)), (2, .int x2), (3, .int t.2)] [] t.1) → bX2_run_32 x1 x2 Q L s.1 s.2 → X Γ G Qf 5 0 0 32 [(0, .ref (ga G 2 0)), (2, .int x2), (3, .int s.2)] [] s.1 := fun L s hL h => wX2_run_32 hG C E hL s.1 s.2 h
  have w9 := lp_walk (P := fun s : Mem × Int32 => X Γ G Qf 5 0 0 32 [(0, .ref (ga G 2 0)), (2, .int x2), (3, .int s.2)] [] s.1) h hb
  dsimp only at w9
  exact w9
def rmX2_allOpened : Room := { frames := 0, cells := 0, slots := 0, locals := 0 }
def bX2_allOpened_4 (Q : Int32 → Mem → Prop) (L4 : Mem × Int32 × Int32 → Prop) (M : Mem) (y1 : Int32) (y2 : Int32) : Prop :=
  (((M.1 701 0 0) ≤ y2 → Q y1 M) ∧ (¬ (M.1 701 0 0) ≤ y2 → vp_in y2 24 ∧ ∀ v3 : Int32, v3 = (y1 + (M.1 115 (tn y2) 0)) → ∀ v4 : Int32, v4 = y2 + 1 → L4 (M, v3, v4)))
def pX2_allOpened (M : Mem) (Q : Int32 → Mem → Prop) : Prop :=
  ∃ n : Nat, lp (fun L s => bX2_allOpened_4 Q L s.1 s.2.1 s.2.2) n (M, 0, 0)
set_option maxRecDepth 100000 in
set_option maxHeartbeats 400000 in
theorem wX2_allOpened_4 {Γ : Gam} {G : Gm} {Qf : State → Prop} (hG : Gd G) (C : Cx Γ G cX2_allOpened 3 RX2 (some .int) rmX2_allOpened)  {Q : Int32 → Mem → Prop} (E : EndI Γ G Qf rmX2_allOpened Q) {L4 : Mem × Int32 × Int32 → Prop} (hL4 : ∀ s, L4 s → X Γ G Qf 3 0 0 4 [(0, .ref (ga G 2 0)), (1, .int s.2.1), (2, .int s.2.2)] [] s.1) (M : Mem) (y1 : Int32) (y2 : Int32) (h : bX2_allOpened_4 Q L4 M y1 y2) : X Γ G Qf 3 0 0 4 [(0, .ref (ga G 2 0)), (1, .int y1), (2, .int y2)] [] M := by
  unfold bX2_allOpened_4 at h
  refine x_iload_n C dX2_allOpened_4 2 rfl ?_
  refine x_aload_n C dX2_allOpened_5 0 rfl ?_
  refine gf_2_0 C q48 z2 dX2_allOpened_6 ?_
  refine gf_6_1 C q49 z6 dX2_allOpened_9 ?_
  refine x_icmp_ge (tgt := 33) C dX2_allOpened_12 (by decide) (fun c1 => ?_) (fun c1 => ?_)
  · replace h := h.1 c1
    refine x_iload_n C dX2_allOpened_33 1 rfl ?_
    exact x_iret C E h (Nat.le_of_ble_eq_true rfl) (Nat.le_of_ble_eq_true rfl) dX2_allOpened_34
  · replace h := h.2 c1
    refine x_iload_n C dX2_allOpened_15 1 rfl ?_
    refine x_aload_n C dX2_allOpened_16 0 rfl ?_
    refine gf_2_2 C q50 z2 dX2_allOpened_17 ?_
    refine x_iload_n C dX2_allOpened_20 2 rfl ?_
    obtain ⟨f2, h⟩ := h
    refine al_302 C z302 f2 dX2_allOpened_21 ?_
    refine gf_0_15 C q87 (vp_lt f2) dX2_allOpened_22 ?_
    refine x_iadd C dX2_allOpened_25 ?_
    refine X_name (fun v3 ev3 => ?_)
    replace h := h v3 ev3
    refine x_istore_n (lv' := [(1, .int v3), (0, .ref (ga G 2 0)), (2, .int y2)]) C dX2_allOpened_26 rfl (Nat.le_of_ble_eq_true rfl) rfl ?_
    obtain ⟨v4, ev4⟩ : ∃ z : Int32, z = y2 + 1 := ⟨_, rfl⟩
    replace h := h v4 ev4
    refine x_iinc (v := v4) (lv' := [(2, .int v4), (1, .int v3), (0, .ref (ga G 2 0))]) (j := 2) C dX2_allOpened_27 rfl (by rw [ev4]; rfl) (Nat.le_of_ble_eq_true rfl) rfl ?_
    refine x_goto (tgt := 4) C dX2_allOpened_30 (by decide) ?_
    refine X_sub (lv' := [(0, .ref (ga G 2 0)), (1, .int v3), (2, .int v4)]) [2, 1, 0] rfl ?_
    have w9 := hL4 (M, v3, v4) h
    dsimp only at w9
    exact w9
set_option maxRecDepth 100000 in
set_option maxHeartbeats 400000 in
theorem kX2_allOpened {l : Launch} {G : Gm} (hG : Gd G) (M : Mem)  {Q : Int32 → Mem → Prop} (h : pX2_allOpened M Q) : Cti l G yX2_allOpened cX2_allOpened 3 .int rmX2_allOpened [.ref (ga G 2 0)] M Q := by
  refine cti_of (own := RX2) (by decide +kernel) rfl (Nat.le_of_ble_eq_true rfl) hG (fun Γ Qf hl C E => ?_)
  subst hl
  show X Γ G Qf 3 0 0 0 [(0, .ref (ga G 2 0))] [] M
  unfold pX2_allOpened at h
  refine x_iconst (v := 0) C dX2_allOpened_0 rfl ?_
  refine x_istore_n (lv' := [(1, .int 0), (0, .ref (ga G 2 0))]) C dX2_allOpened_1 rfl (Nat.le_of_ble_eq_true rfl) rfl ?_
  refine x_iconst (v := 0) C dX2_allOpened_2 rfl ?_
  refine x_istore_n (lv' := [(2, .int 0), (1, .int 0), (0, .ref (ga G 2 0))]) C dX2_allOpened_3 rfl (Nat.le_of_ble_eq_true rfl) rfl ?_
  obtain ⟨n9, h⟩ := h
  refine X_sub (lv' := [(0, .ref (ga G 2 0)), (1, .int 0), (2, .int 0)]) [2, 1, 0] rfl ?_
  have hb : ∀ (L : Mem × Int32 × Int32 → Prop) (s : Mem × Int32 × Int32), (∀ t, L t → X Γ G Qf 3 0 0 4 [(0, .ref (ga G 2 0)), (1, .int t.2.1), (2, .int t.2.2)] [] t.1) → bX2_allOpened_4 Q L s.1 s.2.1 s.2.2 → X Γ G Qf 3 0 0 4 [(0, .ref (ga G 2 0)), (1, .int s.2.1), (2, .int s.2.2)] [] s.1 := fun L s hL h => wX2_allOpened_4 hG C E hL s.1 s.2.1 s.2.2 h
  have w9 := lp_walk (P := fun s : Mem × Int32 × Int32 => X Γ G Qf 3 0 0 4 [(0, .ref (ga G 2 0)), (1, .int s.2.1), (2, .int s.2.2)] [] s.1) h hb
  dsimp only at w9
  exact w9
def rmX2_allWork : Room := { frames := 0, cells := 0, slots := 0, locals := 0 }
def bX2_allWork_4 (Q : Int32 → Mem → Prop) (L4 : Mem × Int32 × Int32 → Prop) (M : Mem) (y1 : Int32) (y2 : Int32) : Prop :=
  (((M.1 701 0 0) ≤ y2 → Q y1 M) ∧ (¬ (M.1 701 0 0) ≤ y2 → vp_in y2 24 ∧ ∀ v3 : Int32, v3 = (y1 + (M.1 116 (tn y2) 0)) → ∀ v4 : Int32, v4 = y2 + 1 → L4 (M, v3, v4)))
def pX2_allWork (M : Mem) (Q : Int32 → Mem → Prop) : Prop :=
  ∃ n : Nat, lp (fun L s => bX2_allWork_4 Q L s.1 s.2.1 s.2.2) n (M, 0, 0)
set_option maxRecDepth 100000 in
set_option maxHeartbeats 400000 in
theorem wX2_allWork_4 {Γ : Gam} {G : Gm} {Qf : State → Prop} (hG : Gd G) (C : Cx Γ G cX2_allWork 3 RX2 (some .int) rmX2_allWork)  {Q : Int32 → Mem → Prop} (E : EndI Γ G Qf rmX2_allWork Q) {L4 : Mem × Int32 × Int32 → Prop} (hL4 : ∀ s, L4 s → X Γ G Qf 3 0 0 4 [(0, .ref (ga G 2 0)), (1, .int s.2.1), (2, .int s.2.2)] [] s.1) (M : Mem) (y1 : Int32) (y2 : Int32) (h : bX2_allWork_4 Q L4 M y1 y2) : X Γ G Qf 3 0 0 4 [(0, .ref (ga G 2 0)), (1, .int y1), (2, .int y2)] [] M := by
  unfold bX2_allWork_4 at h
  refine x_iload_n C dX2_allWork_4 2 rfl ?_
  refine x_aload_n C dX2_allWork_5 0 rfl ?_
  refine gf_2_0 C q48 z2 dX2_allWork_6 ?_
  refine gf_6_1 C q49 z6 dX2_allWork_9 ?_
  refine x_icmp_ge (tgt := 33) C dX2_allWork_12 (by decide) (fun c1 => ?_) (fun c1 => ?_)
  · replace h := h.1 c1
    refine x_iload_n C dX2_allWork_33 1 rfl ?_
    exact x_iret C E h (Nat.le_of_ble_eq_true rfl) (Nat.le_of_ble_eq_true rfl) dX2_allWork_34
  · replace h := h.2 c1
    refine x_iload_n C dX2_allWork_15 1 rfl ?_
    refine x_aload_n C dX2_allWork_16 0 rfl ?_
    refine gf_2_2 C q50 z2 dX2_allWork_17 ?_
    refine x_iload_n C dX2_allWork_20 2 rfl ?_
    obtain ⟨f2, h⟩ := h
    refine al_302 C z302 f2 dX2_allWork_21 ?_
    refine gf_0_16 C q88 (vp_lt f2) dX2_allWork_22 ?_
    refine x_iadd C dX2_allWork_25 ?_
    refine X_name (fun v3 ev3 => ?_)
    replace h := h v3 ev3
    refine x_istore_n (lv' := [(1, .int v3), (0, .ref (ga G 2 0)), (2, .int y2)]) C dX2_allWork_26 rfl (Nat.le_of_ble_eq_true rfl) rfl ?_
    obtain ⟨v4, ev4⟩ : ∃ z : Int32, z = y2 + 1 := ⟨_, rfl⟩
    replace h := h v4 ev4
    refine x_iinc (v := v4) (lv' := [(2, .int v4), (1, .int v3), (0, .ref (ga G 2 0))]) (j := 2) C dX2_allWork_27 rfl (by rw [ev4]; rfl) (Nat.le_of_ble_eq_true rfl) rfl ?_
    refine x_goto (tgt := 4) C dX2_allWork_30 (by decide) ?_
    refine X_sub (lv' := [(0, .ref (ga G 2 0)), (1, .int v3), (2, .int v4)]) [2, 1, 0] rfl ?_
    have w9 := hL4 (M, v3, v4) h
    dsimp only at w9
    exact w9
set_option maxRecDepth 100000 in
set_option maxHeartbeats 400000 in
theorem kX2_allWork {l : Launch} {G : Gm} (hG : Gd G) (M : Mem)  {Q : Int32 → Mem → Prop} (h : pX2_allWork M Q) : Cti l G yX2_allWork cX2_allWork 3 .int rmX2_allWork [.ref (ga G 2 0)] M Q := by
  refine cti_of (own := RX2) (by decide +kernel) rfl (Nat.le_of_ble_eq_true rfl) hG (fun Γ Qf hl C E => ?_)
  subst hl
  show X Γ G Qf 3 0 0 0 [(0, .ref (ga G 2 0))] [] M
  unfold pX2_allWork at h
  refine x_iconst (v := 0) C dX2_allWork_0 rfl ?_
  refine x_istore_n (lv' := [(1, .int 0), (0, .ref (ga G 2 0))]) C dX2_allWork_1 rfl (Nat.le_of_ble_eq_true rfl) rfl ?_
  refine x_iconst (v := 0) C dX2_allWork_2 rfl ?_
  refine x_istore_n (lv' := [(2, .int 0), (1, .int 0), (0, .ref (ga G 2 0))]) C dX2_allWork_3 rfl (Nat.le_of_ble_eq_true rfl) rfl ?_
  obtain ⟨n9, h⟩ := h
  refine X_sub (lv' := [(0, .ref (ga G 2 0)), (1, .int 0), (2, .int 0)]) [2, 1, 0] rfl ?_
  have hb : ∀ (L : Mem × Int32 × Int32 → Prop) (s : Mem × Int32 × Int32), (∀ t, L t → X Γ G Qf 3 0 0 4 [(0, .ref (ga G 2 0)), (1, .int t.2.1), (2, .int t.2.2)] [] t.1) → bX2_allWork_4 Q L s.1 s.2.1 s.2.2 → X Γ G Qf 3 0 0 4 [(0, .ref (ga G 2 0)), (1, .int s.2.1), (2, .int s.2.2)] [] s.1 := fun L s hL h => wX2_allWork_4 hG C E hL s.1 s.2.1 s.2.2 h
  have w9 := lp_walk (P := fun s : Mem × Int32 × Int32 => X Γ G Qf 3 0 0 4 [(0, .ref (ga G 2 0)), (1, .int s.2.1), (2, .int s.2.2)] [] s.1) h hb
  dsimp only at w9
  exact w9
