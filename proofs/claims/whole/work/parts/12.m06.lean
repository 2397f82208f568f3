def rmX11_pointsOf : Room := { frames := 3, cells := 0, slots := 0, locals := 66 }
def pX11_pointsOf (M : Mem) (x1 : Int32) (x2 : Int32) (Q : Int32 → Mem → Prop) : Prop :=
  vp_in x1 24 ∧ vp_in (M.1 1225 0 (tn x1)) 256 ∧ vp_in x2 64 ∧ ((¬ (M.1 6217 (tn (M.1 1225 0 (tn x1))) (tn x2)) = 0 → pX11_rare M (M.1 1225 0 (tn x1)) (fun r5 M6 => pX11_gain M6 (M6.1 1225 0 (tn x1)) x2 (fun r7 M8 => Q (((M.1 1226 0 (tn x1)) * r5) * r7) M8))) ∧ ((M.1 6217 (tn (M.1 1225 0 (tn x1))) (tn x2)) = 0 → Q 0 M))
set_option maxRecDepth 100000 in
set_option maxHeartbeats 400000 in
theorem kX11_pointsOf {l : Launch} {G : Gm} (hG : Gd G) (M : Mem) (x1 : Int32) (x2 : Int32) {Q : Int32 → Mem → Prop} (h : pX11_pointsOf M x1 x2 Q) : Cti l G yX11_pointsOf cX11_pointsOf 3 .int rmX11_pointsOf [.ref (ga G 11 0), .int x1, .int x2] M Q := by
  refine cti_of (own := RX11) (by decide +kernel) rfl (Nat.le_of_ble_eq_true rfl) hG (fun Γ Qf hl C E => ?_)
  subst hl
  show X Γ G Qf 3 0 0 0 [(0, .ref (ga G 11 0)), (1, .int x1), (2, .int x2)] [] M
  unfold pX11_pointsOf at h
  refine x_aload_n C dX11_pointsOf_0 0 rfl ?_
  refine gf_11_17 C q163 z11 dX11_pointsOf_1 ?_
  refine x_aload_n C dX11_pointsOf_4 0 rfl ?_
  refine gf_11_25 C q169 z11 dX11_pointsOf_5 ?_
  refine x_iload_n C dX11_pointsOf_8 1 rfl ?_
  obtain ⟨f1, h⟩ := h
  refine al_1225 C z1225 f1 dX11_pointsOf_9 ?_
  obtain ⟨f2, h⟩ := h
  refine al_1217 C z1217 f2 dX11_pointsOf_10 ?_
  refine x_iload_n C dX11_pointsOf_11 2 rfl ?_
  obtain ⟨f3, h⟩ := h
  refine al_6217 C (vp_lt f2) f3 dX11_pointsOf_12 ?_
  refine x_if_ne (tgt := 20) C dX11_pointsOf_13 (by decide) (fun c4 => ?_) (fun c4 => ?_)
  · replace h := h.1 c4
    refine x_aload_n C dX11_pointsOf_20 0 rfl ?_
    refine gf_11_26 C q170 z11 dX11_pointsOf_21 ?_
    refine x_iload_n C dX11_pointsOf_24 1 rfl ?_
    refine al_1226 C z1226 f1 dX11_pointsOf_25 ?_
    refine x_aload_n C dX11_pointsOf_26 0 rfl ?_
    refine x_aload_n C dX11_pointsOf_27 0 rfl ?_
    refine gf_11_25 C q169 z11 dX11_pointsOf_28 ?_
    refine x_iload_n C dX11_pointsOf_31 1 rfl ?_
    refine al_1225 C z1225 f1 dX11_pointsOf_32 ?_
    refine x_calli (rest := [.int (M.1 1226 0 (tn x1))]) C sv_X11_290 ob11 z11 (kX11_rare hG _ _ h) rfl rfl (Nat.le_of_ble_eq_true rfl) ⟨Nat.le_of_ble_eq_true rfl, Nat.le_of_ble_eq_true rfl⟩ rfl rfl ⟨Nat.le_of_ble_eq_true rfl, Nat.le_of_ble_eq_true rfl⟩ dX11_pointsOf_33 (fun r5 M6 h => ?_)
    refine x_imul C dX11_pointsOf_36 ?_
    refine x_aload_n C dX11_pointsOf_37 0 rfl ?_
    refine x_aload_n C dX11_pointsOf_38 0 rfl ?_
    refine gf_11_25 C q169 z11 dX11_pointsOf_39 ?_
    refine x_iload_n C dX11_pointsOf_42 1 rfl ?_
    refine al_1225 C z1225 f1 dX11_pointsOf_43 ?_
    refine x_iload_n C dX11_pointsOf_44 2 rfl ?_
    refine x_calli (rest := [.int ((M.1 1226 0 (tn x1)) * r5)]) C sv_X11_258 ob11 z11 (kX11_gain hG _ _ _ h) rfl rfl (Nat.le_of_ble_eq_true rfl) ⟨Nat.le_of_ble_eq_true rfl, Nat.le_of_ble_eq_true rfl⟩ rfl rfl ⟨Nat.le_of_ble_eq_true rfl, Nat.le_of_ble_eq_true rfl⟩ dX11_pointsOf_45 (fun r7 M8 h => ?_)
    refine x_imul C dX11_pointsOf_48 ?_
    exact x_iret C E h (Nat.le_of_ble_eq_true rfl) (Nat.le_of_ble_eq_true rfl) dX11_pointsOf_49
  · replace h := h.2 c4
    refine x_iconst (v := 0) C dX11_pointsOf_16 rfl ?_
    refine x_goto (tgt := 49) C dX11_pointsOf_17 (by decide) ?_
    exact x_iret C E h (Nat.le_of_ble_eq_true rfl) (Nat.le_of_ble_eq_true rfl) dX11_pointsOf_49
def rmX11_scoreOf : Room := { frames := 4, cells := 0, slots := 0, locals := 88 }
def bX11_scoreOf_37 (x1 : Int32) (Q : Int32 → Mem → Prop) (L8 : Mem × Int32 × Int32 → Prop) (M : Mem) (y2 : Int32) (y3 : Int32) : Prop :=
  ∀ v9 : Int32, v9 = y3 + 1 → L8 (M, y2, v9)
def bX11_scoreOf_8 (x1 : Int32) (Q : Int32 → Mem → Prop) (L8 : Mem × Int32 × Int32 → Prop) (M : Mem) (y2 : Int32) (y3 : Int32) : Prop :=
  (((M.1 1218 0 0) ≤ y3 → Q y2 M) ∧ (¬ (M.1 1218 0 0) ≤ y3 → ((¬ y3 = (M.1 1239 0 0) → pX11_pointsOf M y3 x1 (fun r5 M6 => ∀ v7 : Int32, v7 = (y2 + r5) → bX11_scoreOf_37 x1 Q L8 M6 v7 y3)) ∧ (y3 = (M.1 1239 0 0) → ∀ v8 : Int32, v8 = (y2 + 0) → bX11_scoreOf_37 x1 Q L8 M v8 y3))))
def pX11_scoreOf (M : Mem) (x1 : Int32) (Q : Int32 → Mem → Prop) : Prop :=
  pX11_nearOf M x1 (fun r1 M2 => ∃ n : Nat, lp (fun L s => bX11_scoreOf_8 x1 Q L s.1 s.2.1 s.2.2) n (M2, r1, 0))
set_option maxRecDepth 100000 in
set_option maxHeartbeats 400000 in
theorem wX11_scoreOf_37 {Γ : Gam} {G : Gm} {Qf : State → Prop} (hG : Gd G) (C : Cx Γ G cX11_scoreOf 4 RX11 (some .int) rmX11_scoreOf) {x1 : Int32} {Q : Int32 → Mem → Prop} (E : EndI Γ G Qf rmX11_scoreOf Q) {L8 : Mem × Int32 × Int32 → Prop} (hL8 : ∀ s, L8 s → X Γ G Qf 4 0 0 8 [(0, .ref (ga G 11 0)), (1, .int x1), (2, .int s.2.1), (3, .int s.2.2)] [] s.1) (M : Mem) (y2 : Int32) (y3 : Int32) (h : bX11_scoreOf_37 x1 Q L8 M y2 y3) : X Γ G Qf 4 0 0 37 [(0, .ref (ga G 11 0)), (1, .int x1), (2, .int y2), (3, .int y3)] [] M := by
  unfold bX11_scoreOf_37 at h
  obtain ⟨v9, ev9⟩ : ∃ z : Int32, z = y3 + 1 := ⟨_, rfl⟩
  replace h := h v9 ev9
  refine x_iinc (v := v9) (lv' := [(3, .int v9), (0, .ref (ga G 11 0)), (1, .int x1), (2, .int y2)]) (j := 3) C dX11_scoreOf_37 rfl (by rw [ev9]; rfl) (Nat.le_of_ble_eq_true rfl) rfl ?_
  refine x_goto (tgt := 8) C dX11_scoreOf_40 (by decide) ?_
  refine X_sub (lv' := [(0, .ref (ga G 11 0)), (1, .int x1), (2, .int y2), (3, .int v9)]) [1, 2, 3, 0] rfl ?_
  have w9 := hL8 (M, y2, v9) h
  dsimp only at w9
  exact w9
set_option maxRecDepth 100000 in
set_option maxHeartbeats 400000 in
theorem wX11_scoreOf_8 {Γ : Gam} {G : Gm} {Qf : State → Prop} (hG : Gd G) (C : Cx Γ G cX11_scoreOf 4 RX11 (some .int) rmX11_scoreOf) {x1 : Int32} {Q : Int32 → Mem → Prop} (E : EndI Γ G Qf rmX11_scoreOf Q) {L8 : Mem × Int32 × Int32 → Prop} (hL8 : ∀ s, L8 s → X Γ G Qf 4 0 0 8 [(0, .ref (ga G 11 0)), (1, .int x1), (2, .int s.2.1), (3, .int s.2.2)] [] s.1) (M : Mem) (y2 : Int32) (y3 : Int32) (h : bX11_scoreOf_8 x1 Q L8 M y2 y3) : X Γ G Qf 4 0 0 8 [(0, .ref (ga G 11 0)), (1, .int x1), (2, .int y2), (3, .int y3)] [] M := by
  unfold bX11_scoreOf_8 at h
  refine x_iload_n C dX11_scoreOf_8 3 rfl ?_
  refine x_aload_n C dX11_scoreOf_9 0 rfl ?_
  refine gf_11_18 C q168 z11 dX11_scoreOf_10 ?_
  refine x_icmp_ge (tgt := 43) C dX11_scoreOf_13 (by decide) (fun c3 => ?_) (fun c3 => ?_)
  · replace h := h.1 c3
    refine x_iload_n C dX11_scoreOf_43 2 rfl ?_
    exact x_iret C E h (Nat.le_of_ble_eq_true rfl) (Nat.le_of_ble_eq_true rfl) dX11_scoreOf_44
  · replace h := h.2 c3
    refine x_iload_n C dX11_scoreOf_16 2 rfl ?_
    refine x_iload_n C dX11_scoreOf_17 3 rfl ?_
    refine x_aload_n C dX11_scoreOf_18 0 rfl ?_
    refine gf_11_39 C q183 z11 dX11_scoreOf_19 ?_
    refine x_icmp_ne (tgt := 29) C dX11_scoreOf_22 (by decide) (fun c4 => ?_) (fun c4 => ?_)
    · replace h := h.1 c4
      refine x_aload_n C dX11_scoreOf_29 0 rfl ?_
      refine x_iload_n C dX11_scoreOf_30 3 rfl ?_
      refine x_iload_n C dX11_scoreOf_31 1 rfl ?_
      refine x_calli (rest := [.int y2]) C sv_X11_296 ob11 z11 (kX11_pointsOf hG _ _ _ h) rfl rfl (Nat.le_of_ble_eq_true rfl) ⟨Nat.le_of_ble_eq_true rfl, Nat.le_of_ble_eq_true rfl⟩ rfl rfl ⟨Nat.le_of_ble_eq_true rfl, Nat.le_of_ble_eq_true rfl⟩ dX11_scoreOf_32 (fun r5 M6 h => ?_)
      refine x_iadd C dX11_scoreOf_35 ?_
      refine X_name (fun v7 ev7 => ?_)
      replace h := h v7 ev7
      refine x_istore_n (lv' := [(2, .int v7), (0, .ref (ga G 11 0)), (1, .int x1), (3, .int y3)]) C dX11_scoreOf_36 rfl (Nat.le_of_ble_eq_true rfl) rfl ?_
      refine X_sub (lv' := [(0, .ref (ga G 11 0)), (1, .int x1), (2, .int v7), (3, .int y3)]) [1, 2, 0, 3] rfl ?_
      exact wX11_scoreOf_37 hG C E hL8 M6 v7 y3 h
    · replace h := h.2 c4
      refine x_iconst (v := 0) C dX11_scoreOf_25 rfl ?_
      refine x_goto (tgt := 35) C dX11_scoreOf_26 (by decide) ?_
      refine x_iadd C dX11_scoreOf_35 ?_
      refine X_name (fun v8 ev8 => ?_)
      replace h := h v8 ev8
      refine x_istore_n (lv' := [(2, .int v8), (0, .ref (ga G 11 0)), (1, .int x1), (3, .int y3)]) C dX11_scoreOf_36 rfl (Nat.le_of_ble_eq_true rfl) rfl ?_
      refine X_sub (lv' := [(0, .ref (ga G 11 0)), (1, .int x1), (2, .int v8), (3, .int y3)]) [1, 2, 0, 3] rfl ?_
      exact wX11_scoreOf_37 hG C E hL8 M v8 y3 h
set_option maxRecDepth 100000 in
set_option maxHeartbeats 400000 in
theorem kX11_scoreOf {l : Launch} {G : Gm} (hG : Gd G) (M : Mem) (x1 : Int32) {Q : Int32 → Mem → Prop} (h : pX11_scoreOf M x1 Q) : Cti l G yX11_scoreOf cX11_scoreOf 4 .int rmX11_scoreOf [.ref (ga G 11 0), .int x1] M Q := by
  refine cti_of (own := RX11) (by decide +kernel) rfl (Nat.le_of_ble_eq_true rfl) hG (fun Γ Qf hl C E => ?_)
  subst hl
  show X Γ G Qf 4 0 0 0 [(0, .ref (ga G 11 0)), (1, .int x1)] [] M
  unfold pX11_scoreOf at h
  refine x_aload_n C dX11_scoreOf_0 0 rfl ?_
  refine x_iload_n C dX11_scoreOf_1 1 rfl ?_
  refine x_calli (rest := []) C sv_X11_293 ob11 z11 (kX11_nearOf hG _ _ h) rfl rfl (Nat.le_of_ble_eq_true rfl) ⟨Nat.le_of_ble_eq_true rfl, Nat.le_of_ble_eq_true rfl⟩ rfl rfl ⟨Nat.le_of_ble_eq_true rfl, Nat.le_of_ble_eq_true rfl⟩ dX11_scoreOf_2 (fun r1 M2 h => ?_)
  refine x_istore_n (lv' := [(2, .int r1), (0, .ref (ga G 11 0)), (1, .int x1)]) C dX11_scoreOf_5 rfl (Nat.le_of_ble_eq_true rfl) rfl ?_
  refine x_iconst (v := 0) C dX11_scoreOf_6 rfl ?_
  refine x_istore_n (lv' := [(3, .int 0), (2, .int r1), (0, .ref (ga G 11 0)), (1, .int x1)]) C dX11_scoreOf_7 rfl (Nat.le_of_ble_eq_true rfl) rfl ?_
  obtain ⟨n9, h⟩ := h
  refine X_sub (lv' := [(0, .ref (ga G 11 0)), (1, .int x1), (2, .int r1), (3, .int 0)]) [2, 3, 1, 0] rfl ?_
  have hb : ∀ (L : Mem × Int32 × Int32 → Prop) (s : Mem × Int32 × Int32), (∀ t, L t → X Γ G Qf 4 0 0 8 [(0, .ref (ga G 11 0)), (1, .int x1), (2, .int t.2.1), (3, .int t.2.2)] [] t.1) → bX11_scoreOf_8 x1 Q L s.1 s.2.1 s.2.2 → X Γ G Qf 4 0 0 8 [(0, .ref (ga G 11 0)), (1, .int x1), (2, .int s.2.1), (3, .int s.2.2)] [] s.1 := fun L s hL h => wX11_scoreOf_8 hG C E hL s.1 s.2.1 s.2.2 h
  have w9 := lp_walk (P := fun s : Mem × Int32 × Int32 => X Γ G Qf 4 0 0 8 [(0, .ref (ga G 11 0)), (1, .int x1), (2, .int s.2.1), (3, .int s.2.2)] [] s.1) h hb
  dsimp only at w9
  exact w9
def rmX11_answersAll : Room := { frames := 5, cells := 0, slots := 0, locals := 111 }
def bX11_answersAll_111 (Q : Mem → Prop) (L7 : Mem × Int32 → Prop) (M : Mem) (y1 : Int32) : Prop :=
  ∀ v20 : Int32, v20 = y1 + 1 → L7 (M, v20)
def bX11_answersAll_87 (Q : Mem → Prop) (L7 : Mem × Int32 → Prop) (M : Mem) (y1 : Int32) (y2 : Int32) (y3 : Int32) : Prop :=
  vp_in y3 64 ∧ ∀ M17 : Mem, M17 = up1 M 1241 0 (tn y3) y1 → ∀ M18 : Mem, M18 = up1 M17 1242 0 (tn y3) y2 → ∀ M19 : Mem, M19 = up1 M18 1240 0 0 ((M18.1 1240 0 0) + 1) → bX11_answersAll_111 Q L7 M19 y1
def bX11_answersAll_37 (Q : Mem → Prop) (L7 : Mem × Int32 → Prop) (L37 : Mem × Int32 × Int32 × Int32 → Prop) (M : Mem) (y1 : Int32) (y2 : Int32) (y3 : Int32) : Prop :=
  ((y3 ≤ 0 → bX11_answersAll_87 Q L7 M y1 y2 y3) ∧ (¬ y3 ≤ 0 → vp_in (y3 - 1) 64 ∧ ((y2 ≤ (M.1 1242 0 (tn (y3 - 1))) → bX11_answersAll_87 Q L7 M y1 y2 y3) ∧ (¬ y2 ≤ (M.1 1242 0 (tn (y3 - 1))) → vp_in y3 64 ∧ ∀ M13 : Mem, M13 = up1 M 1241 0 (tn y3) (M.1 1241 0 (tn (y3 - 1))) → ∀ M14 : Mem, M14 = up1 M13 1242 0 (tn y3) (M13.1 1242 0 (tn (y3 - 1))) → ∀ v15 : Int32, v15 = y3 + (-1) → L37 (M14, y1, y2, v15)))))
def bX11_answersAll_7 (Q : Mem → Prop) (L7 : Mem × Int32 → Prop) (M : Mem) (y1 : Int32) : Prop :=
  (((M.1 1209 0 0) ≤ y1 → Q M) ∧ (¬ (M.1 1209 0 0) ≤ y1 → pX11_whyNot M y1 (fun r3 M4 => ((r3 ≤ 0 → pX11_scoreOf M4 y1 (fun r6 M7 => ∀ v8 : Int32, v8 = (M7.1 1240 0 0) → ∃ n : Nat, lp (fun L s => bX11_answersAll_37 Q L7 L s.1 s.2.1 s.2.2.1 s.2.2.2) n (M7, y1, r6, v8))) ∧ (¬ r3 ≤ 0 → bX11_answersAll_111 Q L7 M4 y1)))))
def pX11_answersAll (M : Mem) (Q : Mem → Prop) : Prop :=
  ∀ M1 : Mem, M1 = up1 M 1240 0 0 0 → ∃ n : Nat, lp (fun L s => bX11_answersAll_7 Q L s.1 s.2) n (M1, 0)
set_option maxRecDepth 100000 in
set_option maxHeartbeats 400000 in
theorem wX11_answersAll_111 {Γ : Gam} {G : Gm} {Qf : State → Prop} (hG : Gd G) (C : Cx Γ G cX11_answersAll 4 RX11 none rmX11_answersAll)  {Q : Mem → Prop} (E : EndV Γ G Qf rmX11_answersAll Q) {L7 : Mem × Int32 → Prop} (hL7 : ∀ s, L7 s → X Γ G Qf 4 0 0 7 [(0, .ref (ga G 11 0)), (1, .int s.2)] [] s.1) (M : Mem) (y1 : Int32) (h : bX11_answersAll_111 Q L7 M y1) : X Γ G Qf 4 0 0 111 [(0, .ref (ga G 11 0)), (1, .int y1)] [] M := by
  unfold bX11_answersAll_111 at h
  obtain ⟨v20, ev20⟩ : ∃ z : Int32, z = y1 + 1 := ⟨_, rfl⟩
  replace h := h v20 ev20
  refine x_iinc (v := v20) (lv' := [(1, .int v20), (0, .ref (ga G 11 0))]) (j := 1) C dX11_answersAll_111 rfl (by rw [ev20]; rfl) (Nat.le_of_ble_eq_true rfl) rfl ?_
  refine x_goto (tgt := 7) C dX11_answersAll_114 (by decide) ?_
  refine X_sub (lv' := [(0, .ref (ga G 11 0)), (1, .int v20)]) [1, 0] rfl ?_
  have w9 := hL7 (M, v20) h
  dsimp only at w9
  exact w9
set_option maxRecDepth 100000 in
set_option maxHeartbeats 400000 in
theorem wX11_answersAll_87 {Γ : Gam} {G : Gm} {Qf : State → Prop} (hG : Gd G) (C : Cx Γ G cX11_answersAll 4 RX11 none rmX11_answersAll)  {Q : Mem → Prop} (E : EndV Γ G Qf rmX11_answersAll Q) {L7 : Mem × Int32 → Prop} (hL7 : ∀ s, L7 s → X Γ G Qf 4 0 0 7 [(0, .ref (ga G 11 0)), (1, .int s.2)] [] s.1) (M : Mem) (y1 : Int32) (y2 : Int32) (y3 : Int32) (h : bX11_answersAll_87 Q L7 M y1 y2 y3) : X Γ G Qf 4 0 0 87 [(0, .ref (ga G 11 0)), (1, .int y1), (2, .int y2), (3, .int y3)] [] M := by
  unfold bX11_answersAll_87 at h
  refine x_aload_n C dX11_answersAll_87 0 rfl ?_
  refine gf_11_41 C q186 z11 dX11_answersAll_88 ?_
  refine x_iload_n C dX11_answersAll_91 3 rfl ?_
  refine x_iload_n C dX11_answersAll_92 1 rfl ?_
  obtain ⟨f16, h⟩ := h
  refine as_1241 C z1241 f16 dX11_answersAll_93 ?_
  refine X_nameM (fun M17 eM17 => ?_)
  replace h := h M17 eM17
  refine x_aload_n C dX11_answersAll_94 0 rfl ?_
  refine gf_11_42 C q185 z11 dX11_answersAll_95 ?_
  refine x_iload_n C dX11_answersAll_98 3 rfl ?_
  refine x_iload_n C dX11_answersAll_99 2 rfl ?_
  refine as_1242 C z1242 f16 dX11_answersAll_100 ?_
  refine X_nameM (fun M18 eM18 => ?_)
  replace h := h M18 eM18
  refine x_aload_n C dX11_answersAll_101 0 rfl ?_
  refine x_dup C dX11_answersAll_102 rfl ?_
  refine gf_11_40 C q184 z11 dX11_answersAll_103 ?_
  refine x_iconst (v := 1) C dX11_answersAll_106 rfl ?_
  refine x_iadd C dX11_answersAll_107 ?_
  refine pf_11_40 C q184 z11 dX11_answersAll_108 ?_
  refine X_nameM (fun M19 eM19 => ?_)
  replace h := h M19 eM19
  refine X_sub (lv' := [(0, .ref (ga G 11 0)), (1, .int y1)]) [0, 1] rfl ?_
  exact wX11_answersAll_111 hG C E hL7 M19 y1 h
set_option maxRecDepth 100000 in
set_option maxHeartbeats 400000 in
theorem wX11_answersAll_37 {Γ : Gam} {G : Gm} {Qf : State → Prop} (hG : Gd G) (C : Cx Γ G cX11_answersAll 4 RX11 none rmX11_answersAll)  {Q : Mem → Prop} (E : EndV Γ G Qf rmX11_answersAll Q) {L7 : Mem × Int32 → Prop} (hL7 : ∀ s, L7 s → X Γ G Qf 4 0 0 7 [(0, .ref (ga G 11 0)), (1, .int s.2)] [] s.1) {L37 : Mem × Int32 × Int32 × Int32 → Prop} (hL37 : ∀ s, L37 s → X Γ G Qf 4 0 0 37 [(0, .ref (ga G 11 0)), (1, .int s.2.1), (2, .int s.2.2.1), (3, .int s.2.2.2)] [] s.1) (M : Mem) (y1 : Int32) (y2 : Int32) (y3 : Int32) (h : bX11_answersAll_37 Q L7 L37 M y1 y2 y3) : X Γ G Qf 4 0 0 37 [(0, .ref (ga G 11 0)), (1, .int y1), (2, .int y2), (3, .int y3)] [] M := by
  unfold bX11_answersAll_37 at h
  refine x_iload_n C dX11_answersAll_37 3 rfl ?_
  refine x_if_le (tgt := 87) C dX11_answersAll_38 (by decide) (fun c9 => ?_) (fun c9 => ?_)
  · replace h := h.1 c9
    refine X_sub (lv' := [(0, .ref (ga G 11 0)), (1, .int y1), (2, .int y2), (3, .int y3)]) [0, 1, 2, 3] rfl ?_
    exact wX11_answersAll_87 hG C E hL7 M y1 y2 y3 h
  · replace h := h.2 c9
    refine x_aload_n C dX11_answersAll_41 0 rfl ?_
    refine gf_11_42 C q185 z11 dX11_answersAll_42 ?_
    refine x_iload_n C dX11_answersAll_45 3 rfl ?_
    refine x_iconst (v := 1) C dX11_answersAll_46 rfl ?_
    refine x_isub C dX11_answersAll_47 ?_
    obtain ⟨f10, h⟩ := h
    refine al_1242 C z1242 f10 dX11_answersAll_48 ?_
    refine x_iload_n C dX11_answersAll_49 2 rfl ?_
    refine x_icmp_ge (tgt := 87) C dX11_answersAll_50 (by decide) (fun c11 => ?_) (fun c11 => ?_)
    · replace h := h.1 c11
      refine X_sub (lv' := [(0, .ref (ga G 11 0)), (1, .int y1), (2, .int y2), (3, .int y3)]) [0, 1, 2, 3] rfl ?_
      exact wX11_answersAll_87 hG C E hL7 M y1 y2 y3 h
    · replace h := h.2 c11
      refine x_aload_n C dX11_answersAll_53 0 rfl ?_
      refine gf_11_41 C q186 z11 dX11_answersAll_54 ?_
      refine x_iload_n C dX11_answersAll_57 3 rfl ?_
      refine x_aload_n C dX11_answersAll_58 0 rfl ?_
      refine gf_11_41 C q186 z11 dX11_answersAll_59 ?_
      refine x_iload_n C dX11_answersAll_62 3 rfl ?_
      refine x_iconst (v := 1) C dX11_answersAll_63 rfl ?_
      refine x_isub C dX11_answersAll_64 ?_
      refine al_1241 C z1241 f10 dX11_answersAll_65 ?_
      obtain ⟨f12, h⟩ := h
      refine as_1241 C z1241 f12 dX11_answersAll_66 ?_
      refine X_nameM (fun M13 eM13 => ?_)
      replace h := h M13 eM13
      refine x_aload_n C dX11_answersAll_67 0 rfl ?_
      refine gf_11_42 C q185 z11 dX11_answersAll_68 ?_
      refine x_iload_n C dX11_answersAll_71 3 rfl ?_
      refine x_aload_n C dX11_answersAll_72 0 rfl ?_
      refine gf_11_42 C q185 z11 dX11_answersAll_73 ?_
      refine x_iload_n C dX11_answersAll_76 3 rfl ?_
      refine x_iconst (v := 1) C dX11_answersAll_77 rfl ?_
      refine x_isub C dX11_answersAll_78 ?_
      refine al_1242 C z1242 f10 dX11_answersAll_79 ?_
      refine as_1242 C z1242 f12 dX11_answersAll_80 ?_
      refine X_nameM (fun M14 eM14 => ?_)
      replace h := h M14 eM14
      obtain ⟨v15, ev15⟩ : ∃ z : Int32, z = y3 + (-1) := ⟨_, rfl⟩
      replace h := h v15 ev15
      refine x_iinc (v := v15) (lv' := [(3, .int v15), (0, .ref (ga G 11 0)), (1, .int y1), (2, .int y2)]) (j := 3) C dX11_answersAll_81 rfl (by rw [ev15]; rfl) (Nat.le_of_ble_eq_true rfl) rfl ?_
      refine x_goto (tgt := 37) C dX11_answersAll_84 (by decide) ?_
      refine X_sub (lv' := [(0, .ref (ga G 11 0)), (1, .int y1), (2, .int y2), (3, .int v15)]) [1, 2, 3, 0] rfl ?_
      have w9 := hL37 (M14, y1, y2, v15) h
      dsimp only at w9
      exact w9
set_option maxRecDepth 100000 in
set_option maxHeartbeats 400000 in
theorem wX11_answersAll_7 {Γ : Gam} {G : Gm} {Qf : State → Prop} (hG : Gd G) (C : Cx Γ G cX11_answersAll 4 RX11 none rmX11_answersAll)  {Q : Mem → Prop} (E : EndV Γ G Qf rmX11_answersAll Q) {L7 : Mem × Int32 → Prop} (hL7 : ∀ s, L7 s → X Γ G Qf 4 0 0 7 [(0, .ref (ga G 11 0)), (1, .int s.2)] [] s.1) (M : Mem) (y1 : Int32) (h : bX11_answersAll_7 Q L7 M y1) : X Γ G Qf 4 0 0 7 [(0, .ref (ga G 11 0)), (1, .int y1)] [] M := by
  unfold bX11_answersAll_7 at h
  refine x_iload_n C dX11_answersAll_7 1 rfl ?_
  refine x_aload_n C dX11_answersAll_8 0 rfl ?_
  refine gf_11_9 C q159 z11 dX11_answersAll_9 ?_
  refine x_icmp_ge (tgt := 117) C dX11_answersAll_12 (by decide) (fun c2 => ?_) (fun c2 => ?_)
  · replace h := h.1 c2
    exact x_vret C E h (Nat.le_of_ble_eq_true rfl) (Nat.le_of_ble_eq_true rfl) dX11_answersAll_117
  · replace h := h.2 c2
    refine x_aload_n C dX11_answersAll_15 0 rfl ?_
    refine x_iload_n C dX11_answersAll_16 1 rfl ?_
    refine x_calli (rest := []) C sv_X11_302 ob11 z11 (kX11_whyNot hG _ _ h) rfl rfl (Nat.le_of_ble_eq_true rfl) ⟨Nat.le_of_ble_eq_true rfl, Nat.le_of_ble_eq_true rfl⟩ rfl rfl ⟨Nat.le_of_ble_eq_true rfl, Nat.le_of_ble_eq_true rfl⟩ dX11_answersAll_17 (fun r3 M4 h => ?_)
    refine x_if_le (tgt := 26) C dX11_answersAll_20 (by decide) (fun c5 => ?_) (fun c5 => ?_)
    · replace h := h.1 c5
      refine x_aload_n C dX11_answersAll_26 0 rfl ?_
      refine x_iload_n C dX11_answersAll_27 1 rfl ?_
      refine x_calli (rest := []) C sv_X11_305 ob11 z11 (kX11_scoreOf hG _ _ h) rfl rfl (Nat.le_of_ble_eq_true rfl) ⟨Nat.le_of_ble_eq_true rfl, Nat.le_of_ble_eq_true rfl⟩ rfl rfl ⟨Nat.le_of_ble_eq_true rfl, Nat.le_of_ble_eq_true rfl⟩ dX11_answersAll_28 (fun r6 M7 h => ?_)
      refine x_istore_n (lv' := [(2, .int r6), (0, .ref (ga G 11 0)), (1, .int y1)]) C dX11_answersAll_31 rfl (Nat.le_of_ble_eq_true rfl) rfl ?_
      refine x_aload_n C dX11_answersAll_32 1 rfl ?_
      refine gf_11_40 C q184 z11 dX11_answersAll_33 ?_
      refine X_name (fun v8 ev8 => ?_)
      replace h := h v8 ev8
      refine x_istore_n (lv' := [(3, .int v8), (2, .int r6), (0, .ref (ga G 11 0)), (1, .int y1)]) C dX11_answersAll_36 rfl (Nat.le_of_ble_eq_true rfl) rfl ?_
      obtain ⟨n9, h⟩ := h
      refine X_sub (lv' := [(0, .ref (ga G 11 0)), (1, .int y1), (2, .int r6), (3, .int v8)]) [2, 3, 1, 0] rfl ?_
      have hb : ∀ (L : Mem × Int32 × Int32 × Int32 → Prop) (s : Mem × Int32 × Int32 × Int32), (∀ t, L t → X Γ G Qf 4 0 0 37 [(0, .ref (ga G 11 0)), (1, .int t.2.1), (2, .int t.2.2.1), (3, .int t.2.2.2)] [] t.1) → bX11_answersAll_37 Q L7 L s.1 s.2.1 s.2.2.1 s.2.2.2 → X Γ G Qf 4 0 0 37 [(0, .ref (ga G 11 0)), (1, .int s.2.1), (2, .int s.2.2.1), (3, .int s.2.2.2)] [] s.1 := fun L s hL h => wX11_answersAll_37 hG C E hL7 hL s.1 s.2.1 s.2.2.1 s.2.2.2 h
      have w9 := lp_walk (P := fun s : Mem × Int32 × Int32 × Int32 => X Γ G Qf 4 0 0 37 [(0, .ref (ga G 11 0)), (1, .int s.2.1), (2, .int s.2.2.1), (3, .int s.2.2.2)] [] s.1) h hb
      dsimp only at w9
      exact w9
    · replace h := h.2 c5
      refine x_goto (tgt := 111) C dX11_answersAll_23 (by decide) ?_
      refine X_sub (lv' := [(0, .ref (ga G 11 0)), (1, .int y1)]) [0, 1] rfl ?_
      exact wX11_answersAll_111 hG C E hL7 M4 y1 h
set_option maxRecDepth 100000 in
set_option maxHeartbeats 400000 in
theorem kX11_answersAll {l : Launch} {G : Gm} (hG : Gd G) (M : Mem)  {Q : Mem → Prop} (h : pX11_answersAll M Q) : Ctv l G yX11_answersAll cX11_answersAll 4 rmX11_answersAll [.ref (ga G 11 0)] M Q := by
  refine ctv_of (own := RX11) (by decide +kernel) rfl (Nat.le_of_ble_eq_true rfl) hG (fun Γ Qf hl C E => ?_)
  subst hl
  show X Γ G Qf 4 0 0 0 [(0, .ref (ga G 11 0))] [] M
  unfold pX11_answersAll at h
  refine x_aload_n C dX11_answersAll_0 0 rfl ?_
  refine x_iconst (v := 0) C dX11_answersAll_1 rfl ?_
  refine pf_11_40 C q184 z11 dX11_answersAll_2 ?_
  refine X_nameM (fun M1 eM1 => ?_)
  replace h := h M1 eM1
  refine x_iconst (v := 0) C dX11_answersAll_5 rfl ?_
  refine x_istore_n (lv' := [(1, .int 0), (0, .ref (ga G 11 0))]) C dX11_answersAll_6 rfl (Nat.le_of_ble_eq_true rfl) rfl ?_
  obtain ⟨n9, h⟩ := h
  refine X_sub (lv' := [(0, .ref (ga G 11 0)), (1, .int 0)]) [1, 0] rfl ?_
  have hb : ∀ (L : Mem × Int32 → Prop) (s : Mem × Int32), (∀ t, L t → X Γ G Qf 4 0 0 7 [(0, .ref (ga G 11 0)), (1, .int t.2)] [] t.1) → bX11_answersAll_7 Q L s.1 s.2 → X Γ G Qf 4 0 0 7 [(0, .ref (ga G 11 0)), (1, .int s.2)] [] s.1 := fun L s hL h => wX11_answersAll_7 hG C E hL s.1 s.2 h
  have w9 := lp_walk (P := fun s : Mem × Int32 => X Γ G Qf 4 0 0 7 [(0, .ref (ga G 11 0)), (1, .int s.2)] [] s.1) h hb
  dsimp only at w9
  exact w9
def rmX11_lastOf : Room := { frames := 1, cells := 0, slots := 0, locals := 21 }
def pX11_lastOf (M : Mem) (x1 : Int32) (x2 : Int32) (Q : Int32 → Mem → Prop) : Prop :=
  vp_in x1 24 ∧ pX11_less M (M.1 1246 0 (tn x1)) ((x2 + 1) * (M.1 1263 0 0)) (fun r2 M3 => vp_in (r2 - 1) 64 ∧ Q (M3.1 6243 (tn x1) (tn (r2 - 1))) M3)
set_option maxRecDepth 100000 in
set_option maxHeartbeats 400000 in
theorem kX11_lastOf {l : Launch} {G : Gm} (hG : Gd G) (M : Mem) (x1 : Int32) (x2 : Int32) {Q : Int32 → Mem → Prop} (h : pX11_lastOf M x1 x2 Q) : Cti l G yX11_lastOf cX11_lastOf 3 .int rmX11_lastOf [.ref (ga G 11 0), .int x1, .int x2] M Q := by
  refine cti_of (own := RX11) (by decide +kernel) rfl (Nat.le_of_ble_eq_true rfl) hG (fun Γ Qf hl C E => ?_)
  subst hl
  show X Γ G Qf 3 0 0 0 [(0, .ref (ga G 11 0)), (1, .int x1), (2, .int x2)] [] M
  unfold pX11_lastOf at h
  refine x_aload_n C dX11_lastOf_0 0 rfl ?_
  refine gf_11_43 C q187 z11 dX11_lastOf_1 ?_
  refine x_iload_n C dX11_lastOf_4 1 rfl ?_
  obtain ⟨f1, h⟩ := h
  refine al_1243 C z1243 f1 dX11_lastOf_5 ?_
  refine x_aload_n C dX11_lastOf_6 0 rfl ?_
  refine gf_11_46 C q188 z11 dX11_lastOf_7 ?_
  refine x_iload_n C dX11_lastOf_10 1 rfl ?_
  refine al_1246 C z1246 f1 dX11_lastOf_11 ?_
  refine x_iload_n C dX11_lastOf_12 2 rfl ?_
  refine x_iconst (v := 1) C dX11_lastOf_13 rfl ?_
  refine x_iadd C dX11_lastOf_14 ?_
  refine x_aload_n C dX11_lastOf_15 0 rfl ?_
  refine gf_11_63 C q189 z11 dX11_lastOf_16 ?_
  refine x_imul C dX11_lastOf_19 ?_
  refine x_scalli (rest := [.ref (ga G 6243 (tn x1))]) C ss_X11_236 (kX11_less hG _ _ _ h) rfl rfl (Nat.le_of_ble_eq_true rfl) ⟨Nat.le_of_ble_eq_true rfl, Nat.le_of_ble_eq_true rfl⟩ rfl rfl ⟨Nat.le_of_ble_eq_true rfl, Nat.le_of_ble_eq_true rfl⟩ dX11_lastOf_20 (fun r2 M3 h => ?_)
  refine x_iconst (v := 1) C dX11_lastOf_23 rfl ?_
  refine x_isub C dX11_lastOf_24 ?_
  obtain ⟨f4, h⟩ := h
  refine al_6243 C (vp_lt f1) f4 dX11_lastOf_25 ?_
  exact x_iret C E h (Nat.le_of_ble_eq_true rfl) (Nat.le_of_ble_eq_true rfl) dX11_lastOf_26
def rmX11_firstOf : Room := { frames := 0, cells := 0, slots := 0, locals := 0 }
def pX11_firstOf (M : Mem) (x1 : Int32) (x2 : Int32) (Q : Int32 → Mem → Prop) : Prop :=
  vp_in x1 24 ∧ vp_in (x2 * (M.1 1263 0 0)) 64 ∧ Q (M.1 6243 (tn x1) (tn (x2 * (M.1 1263 0 0)))) M
set_option maxRecDepth 100000 in
set_option maxHeartbeats 400000 in
theorem kX11_firstOf {l : Launch} {G : Gm} (hG : Gd G) (M : Mem) (x1 : Int32) (x2 : Int32) {Q : Int32 → Mem → Prop} (h : pX11_firstOf M x1 x2 Q) : Cti l G yX11_firstOf cX11_firstOf 3 .int rmX11_firstOf [.ref (ga G 11 0), .int x1, .int x2] M Q := by
  refine cti_of (own := RX11) (by decide +kernel) rfl (Nat.le_of_ble_eq_true rfl) hG (fun Γ Qf hl C E => ?_)
  subst hl
  show X Γ G Qf 3 0 0 0 [(0, .ref (ga G 11 0)), (1, .int x1), (2, .int x2)] [] M
  unfold pX11_firstOf at h
  refine x_aload_n C dX11_firstOf_0 0 rfl ?_
  refine gf_11_43 C q187 z11 dX11_firstOf_1 ?_
  refine x_iload_n C dX11_firstOf_4 1 rfl ?_
  obtain ⟨f1, h⟩ := h
  refine al_1243 C z1243 f1 dX11_firstOf_5 ?_
  refine x_iload_n C dX11_firstOf_6 2 rfl ?_
  refine x_aload_n C dX11_firstOf_7 0 rfl ?_
  refine gf_11_63 C q189 z11 dX11_firstOf_8 ?_
  refine x_imul C dX11_firstOf_11 ?_
  obtain ⟨f2, h⟩ := h
  refine al_6243 C (vp_lt f1) f2 dX11_firstOf_12 ?_
  exact x_iret C E h (Nat.le_of_ble_eq_true rfl) (Nat.le_of_ble_eq_true rfl) dX11_firstOf_13
def rmX11_manyOf : Room := { frames := 1, cells := 0, slots := 0, locals := 21 }
def pX11_manyOf (M : Mem) (x1 : Int32) (x2 : Int32) (Q : Int32 → Mem → Prop) : Prop :=
  vp_in x1 24 ∧ pX11_less M (M.1 1246 0 (tn x1)) ((x2 + 1) * (M.1 1263 0 0)) (fun r2 M3 => Q (r2 - (x2 * (M3.1 1263 0 0))) M3)
set_option maxRecDepth 100000 in
set_option maxHeartbeats 400000 in
theorem kX11_manyOf {l : Launch} {G : Gm} (hG : Gd G) (M : Mem) (x1 : Int32) (x2 : Int32) {Q : Int32 → Mem → Prop} (h : pX11_manyOf M x1 x2 Q) : Cti l G yX11_manyOf cX11_manyOf 3 .int rmX11_manyOf [.ref (ga G 11 0), .int x1, .int x2] M Q := by
  refine cti_of (own := RX11) (by decide +kernel) rfl (Nat.le_of_ble_eq_true rfl) hG (fun Γ Qf hl C E => ?_)
  subst hl
  show X Γ G Qf 3 0 0 0 [(0, .ref (ga G 11 0)), (1, .int x1), (2, .int x2)] [] M
  unfold pX11_manyOf at h
  refine x_aload_n C dX11_manyOf_0 0 rfl ?_
  refine gf_11_46 C q188 z11 dX11_manyOf_1 ?_
  refine x_iload_n C dX11_manyOf_4 1 rfl ?_
  obtain ⟨f1, h⟩ := h
  refine al_1246 C z1246 f1 dX11_manyOf_5 ?_
  refine x_iload_n C dX11_manyOf_6 2 rfl ?_
  refine x_iconst (v := 1) C dX11_manyOf_7 rfl ?_
  refine x_iadd C dX11_manyOf_8 ?_
  refine x_aload_n C dX11_manyOf_9 0 rfl ?_
  refine gf_11_63 C q189 z11 dX11_manyOf_10 ?_
  refine x_imul C dX11_manyOf_13 ?_
  refine x_scalli (rest := []) C ss_X11_236 (kX11_less hG _ _ _ h) rfl rfl (Nat.le_of_ble_eq_true rfl) ⟨Nat.le_of_ble_eq_true rfl, Nat.le_of_ble_eq_true rfl⟩ rfl rfl ⟨Nat.le_of_ble_eq_true rfl, Nat.le_of_ble_eq_true rfl⟩ dX11_manyOf_14 (fun r2 M3 h => ?_)
  refine x_iload_n C dX11_manyOf_17 2 rfl ?_
  refine x_aload_n C dX11_manyOf_18 0 rfl ?_
  refine gf_11_63 C q189 z11 dX11_manyOf_19 ?_
  refine x_imul C dX11_manyOf_22 ?_
  refine x_isub C dX11_manyOf_23 ?_
  exact x_iret C E h (Nat.le_of_ble_eq_true rfl) (Nat.le_of_ble_eq_true rfl) dX11_manyOf_24
def rmX11_topOf : Room := { frames := 2, cells := 0, slots := 0, locals := 43 }
def bX11_topOf_10 (x1 : Int32) (x2 : Int32) (Q : Int32 → Mem → Prop) (L10 : Mem × Int32 × Int32 → Prop) (M : Mem) (y3 : Int32) (y4 : Int32) : Prop :=
  pX11_manyOf M x1 x2 (fun r2 M3 => ((((x2 * (M.1 1263 0 0)) + r2) ≤ y4 → Q y3 M3) ∧ (¬ ((x2 * (M.1 1263 0 0)) + r2) ≤ y4 → vp_in x1 24 ∧ vp_in y4 64 ∧ pX11_more M3 y3 (M3.1 6244 (tn x1) (tn y4)) (fun r7 M8 => ∀ v9 : Int32, v9 = y4 + 1 → L10 (M8, r7, v9)))))
def pX11_topOf (M : Mem) (x1 : Int32) (x2 : Int32) (Q : Int32 → Mem → Prop) : Prop :=
  ∀ v1 : Int32, v1 = (x2 * (M.1 1263 0 0)) → ∃ n : Nat, lp (fun L s => bX11_topOf_10 x1 x2 Q L s.1 s.2.1 s.2.2) n (M, 0, v1)
set_option maxRecDepth 100000 in
set_option maxHeartbeats 400000 in
theorem wX11_topOf_10 {Γ : Gam} {G : Gm} {Qf : State → Prop} (hG : Gd G) (C : Cx Γ G cX11_topOf 5 RX11 (some .int) rmX11_topOf) {x1 : Int32} {x2 : Int32} {Q : Int32 → Mem → Prop} (E : EndI Γ G Qf rmX11_topOf Q) {L10 : Mem × Int32 × Int32 → Prop} (hL10 : ∀ s, L10 s → X Γ G Qf 5 0 0 10 [(0, .ref (ga G 11 0)), (1, .int x1), (2, .int x2), (3, .int s.2.1), (4, .int s.2.2)] [] s.1) (M : Mem) (y3 : Int32) (y4 : Int32) (h : bX11_topOf_10 x1 x2 Q L10 M y3 y4) : X Γ G Qf 5 0 0 10 [(0, .ref (ga G 11 0)), (1, .int x1), (2, .int x2), (3, .int y3), (4, .int y4)] [] M := by
  unfold bX11_topOf_10 at h
  refine x_iload C dX11_topOf_10 4 rfl ?_
  refine x_iload_n C dX11_topOf_12 2 rfl ?_
  refine x_aload_n C dX11_topOf_13 0 rfl ?_
  refine gf_11_63 C q189 z11 dX11_topOf_14 ?_
  refine x_imul C dX11_topOf_17 ?_
  refine x_aload_n C dX11_topOf_18 0 rfl ?_
  refine x_iload_n C dX11_topOf_19 1 rfl ?_
  refine x_iload_n C dX11_topOf_20 2 rfl ?_
  refine x_calli (rest := [.int (x2 * (M.1 1263 0 0)), .int y4]) C sv_X11_311 ob11 z11 (kX11_manyOf hG _ _ _ h) rfl rfl (Nat.le_of_ble_eq_true rfl) ⟨Nat.le_of_ble_eq_true rfl, Nat.le_of_ble_eq_true rfl⟩ rfl rfl ⟨Nat.le_of_ble_eq_true rfl, Nat.le_of_ble_eq_true rfl⟩ dX11_topOf_21 (fun r2 M3 h => ?_)
  refine x_iadd C dX11_topOf_24 ?_
  refine x_icmp_ge (tgt := 48) C dX11_topOf_25 (by decide) (fun c4 => ?_) (fun c4 => ?_)
  · replace h := h.1 c4
    refine x_iload_n C dX11_topOf_48 3 rfl ?_
    exact x_iret C E h (Nat.le_of_ble_eq_true rfl) (Nat.le_of_ble_eq_true rfl) dX11_topOf_49
  · replace h := h.2 c4
    refine x_iload_n C dX11_topOf_28 3 rfl ?_
    refine x_aload_n C dX11_topOf_29 0 rfl ?_
    refine gf_11_44 C q190 z11 dX11_topOf_30 ?_
    refine x_iload_n C dX11_topOf_33 1 rfl ?_
    obtain ⟨f5, h⟩ := h
    refine al_1244 C z1244 f5 dX11_topOf_34 ?_
    refine x_iload C dX11_topOf_35 4 rfl ?_
    obtain ⟨f6, h⟩ := h
    refine al_6244 C (vp_lt f5) f6 dX11_topOf_37 ?_
    refine x_scalli (rest := []) C ss_X11_261 (kX11_more hG _ _ _ h) rfl rfl (Nat.le_of_ble_eq_true rfl) ⟨Nat.le_of_ble_eq_true rfl, Nat.le_of_ble_eq_true rfl⟩ rfl rfl ⟨Nat.le_of_ble_eq_true rfl, Nat.le_of_ble_eq_true rfl⟩ dX11_topOf_38 (fun r7 M8 h => ?_)
    refine x_istore_n (lv' := [(3, .int r7), (0, .ref (ga G 11 0)), (1, .int x1), (2, .int x2), (4, .int y4)]) C dX11_topOf_41 rfl (Nat.le_of_ble_eq_true rfl) rfl ?_
    obtain ⟨v9, ev9⟩ : ∃ z : Int32, z = y4 + 1 := ⟨_, rfl⟩
    replace h := h v9 ev9
    refine x_iinc (v := v9) (lv' := [(4, .int v9), (3, .int r7), (0, .ref (ga G 11 0)), (1, .int x1), (2, .int x2)]) (j := 4) C dX11_topOf_42 rfl (by rw [ev9]; rfl) (Nat.le_of_ble_eq_true rfl) rfl ?_
    refine x_goto (tgt := 10) C dX11_topOf_45 (by decide) ?_
    refine X_sub (lv' := [(0, .ref (ga G 11 0)), (1, .int x1), (2, .int x2), (3, .int r7), (4, .int v9)]) [2, 3, 4, 1, 0] rfl ?_
    have w9 := hL10 (M8, r7, v9) h
    dsimp only at w9
    exact w9
set_option maxRecDepth 100000 in
set_option maxHeartbeats 400000 in
theorem kX11_topOf {l : Launch} {G : Gm} (hG : Gd G) (M : Mem) (x1 : Int32) (x2 : Int32) {Q : Int32 → Mem → Prop} (h : pX11_topOf M x1 x2 Q) : Cti l G yX11_topOf cX11_topOf 5 .int rmX11_topOf [.ref (ga G 11 0), .int x1, .int x2] M Q := by
  refine cti_of (own := RX11) (by decide +kernel) rfl (Nat.le_of_ble_eq_true rfl) hG (fun Γ Qf hl C E => ?_)
  subst hl
  show X Γ G Qf 5 0 0 0 [(0, .ref (ga G 11 0)), (1, .int x1), (2, .int x2)] [] M
  unfold pX11_topOf at h
  refine x_iconst (v := 0) C dX11_topOf_0 rfl ?_
  refine x_istore_n (lv' := [(3, .int 0), (0, .ref (ga G 11 0)), (1, .int x1), (2, .int x2)]) C dX11_topOf_1 rfl (Nat.le_of_ble_eq_true rfl) rfl ?_
  refine x_iload_n C dX11_topOf_2 3 rfl ?_
  refine x_aload_n C dX11_topOf_3 1 rfl ?_
  refine gf_11_63 C q189 z11 dX11_topOf_4 ?_
  refine x_imul C dX11_topOf_7 ?_
  refine X_name (fun v1 ev1 => ?_)
  replace h := h v1 ev1
  refine x_istore (lv' := [(4, .int v1), (3, .int 0), (0, .ref (ga G 11 0)), (1, .int x1), (2, .int x2)]) C dX11_topOf_8 (Nat.le_of_ble_eq_true rfl) rfl ?_
  obtain ⟨n9, h⟩ := h
  refine X_sub (lv' := [(0, .ref (ga G 11 0)), (1, .int x1), (2, .int x2), (3, .int 0), (4, .int v1)]) [2, 3, 4, 1, 0] rfl ?_
  have hb : ∀ (L : Mem × Int32 × Int32 → Prop) (s : Mem × Int32 × Int32), (∀ t, L t → X Γ G Qf 5 0 0 10 [(0, .ref (ga G 11 0)), (1, .int x1), (2, .int x2), (3, .int t.2.1), (4, .int t.2.2)] [] t.1) → bX11_topOf_10 x1 x2 Q L s.1 s.2.1 s.2.2 → X Γ G Qf 5 0 0 10 [(0, .ref (ga G 11 0)), (1, .int x1), (2, .int x2), (3, .int s.2.1), (4, .int s.2.2)] [] s.1 := fun L s hL h => wX11_topOf_10 hG C E hL s.1 s.2.1 s.2.2 h
  have w9 := lp_walk (P := fun s : Mem × Int32 × Int32 => X Γ G Qf 5 0 0 10 [(0, .ref (ga G 11 0)), (1, .int x1), (2, .int x2), (3, .int s.2.1), (4, .int s.2.2)] [] s.1) h hb
  dsimp only at w9
  exact w9
def rmX11_blocksOfList : Room := { frames := 1, cells := 0, slots := 0, locals := 21 }
def pX11_blocksOfList (M : Mem) (x1 : Int32) (Q : Int32 → Mem → Prop) : Prop :=
  vp_in x1 24 ∧ pX11_blocksOf M (M.1 1246 0 (tn x1)) (M.1 1263 0 0) (fun r2 M3 => Q r2 M3)
set_option maxRecDepth 100000 in
set_option maxHeartbeats 400000 in
theorem kX11_blocksOfList {l : Launch} {G : Gm} (hG : Gd G) (M : Mem) (x1 : Int32) {Q : Int32 → Mem → Prop} (h : pX11_blocksOfList M x1 Q) : Cti l G yX11_blocksOfList cX11_blocksOfList 2 .int rmX11_blocksOfList [.ref (ga G 11 0), .int x1] M Q := by
  refine cti_of (own := RX11) (by decide +kernel) rfl (Nat.le_of_ble_eq_true rfl) hG (fun Γ Qf hl C E => ?_)
  subst hl
  show X Γ G Qf 2 0 0 0 [(0, .ref (ga G 11 0)), (1, .int x1)] [] M
  unfold pX11_blocksOfList at h
  refine x_aload_n C dX11_blocksOfList_0 0 rfl ?_
  refine gf_11_46 C q188 z11 dX11_blocksOfList_1 ?_
  refine x_iload_n C dX11_blocksOfList_4 1 rfl ?_
  obtain ⟨f1, h⟩ := h
  refine al_1246 C z1246 f1 dX11_blocksOfList_5 ?_
  refine x_aload_n C dX11_blocksOfList_6 0 rfl ?_
  refine gf_11_63 C q189 z11 dX11_blocksOfList_7 ?_
  refine x_scalli (rest := []) C ss_X11_314 (kX11_blocksOf hG _ _ _ h) rfl rfl (Nat.le_of_ble_eq_true rfl) ⟨Nat.le_of_ble_eq_true rfl, Nat.le_of_ble_eq_true rfl⟩ rfl rfl ⟨Nat.le_of_ble_eq_true rfl, Nat.le_of_ble_eq_true rfl⟩ dX11_blocksOfList_10 (fun r2 M3 h => ?_)
  exact x_iret C E h (Nat.le_of_ble_eq_true rfl) (Nat.le_of_ble_eq_true rfl) dX11_blocksOfList_13
def rmX11_lays : Room := { frames := 3, cells := 0, slots := 0, locals := 66 }
def bX11_lays_176 (x1 : Int32) (Q : Mem → Prop) (M : Mem) : Prop :=
  ((¬ (M.1 1237 0 0) = 0 → vp_in x1 24 ∧ ∀ M32 : Mem, M32 = up1 M 1250 0 (tn x1) (M.1 1238 0 (tn 0)) → Q M32) ∧ ((M.1 1237 0 0) = 0 → vp_in x1 24 ∧ ∀ M34 : Mem, M34 = up1 M 1250 0 (tn x1) 0 → Q M34))
def bX11_lays_123 (x1 : Int32) (Q : Mem → Prop) (L123 : Mem × Int32 → Prop) (M : Mem) (y3 : Int32) : Prop :=
  ((32 ≤ y3 → vp_in x1 24 ∧ ∀ M21 : Mem, M21 = up1 M 1249 0 (tn x1) 0 → ∀ M22 : Mem, M22 = up1 M21 1251 0 (tn x1) (-1) → ((¬ (M22.1 1237 0 0) = 0 → ∀ M24 : Mem, M24 = up1 M22 1253 0 (tn x1) 0 → bX11_lays_176 x1 Q M24) ∧ ((M22.1 1237 0 0) = 0 → ∀ M25 : Mem, M25 = up1 M22 1253 0 (tn x1) 1 → bX11_lays_176 x1 Q M25))) ∧ (¬ 32 ≤ y3 → vp_in x1 24 ∧ vp_in y3 32 ∧ ∀ M28 : Mem, M28 = up1 M 6245 (tn x1) (tn y3) 0 → ∀ v29 : Int32, v29 = y3 + 1 → L123 (M28, v29)))
def bX11_lays_44 (x1 : Int32) (Q : Mem → Prop) (L44 : Mem × Int32 × Int32 → Prop) (M : Mem) (y2 : Int32) (y3 : Int32) : Prop :=
  (((M.1 1237 0 0) ≤ y3 → ∃ n : Nat, lp (fun L s => bX11_lays_123 x1 Q L s.1 s.2) n (M, 0)) ∧ (¬ (M.1 1237 0 0) ≤ y3 → vp_in x1 24 ∧ vp_in y3 64 ∧ ∀ M11 : Mem, M11 = up1 M 6243 (tn x1) (tn y3) (M.1 1238 0 (tn y3)) → pX11_gain M11 y2 (M11.1 1238 0 (tn y3)) (fun r12 M13 => ∀ M14 : Mem, M14 = up1 M13 6244 (tn x1) (tn y3) r12 → pX11_more M14 (M14.1 1248 0 (tn x1)) ((M14.1 1247 0 (tn x1)) * (M14.1 6244 (tn x1) (tn y3))) (fun r15 M16 => ∀ M17 : Mem, M17 = up1 M16 1248 0 (tn x1) r15 → ∀ v18 : Int32, v18 = y3 + 1 → L44 (M17, y2, v18)))))
def pX11_lays (M : Mem) (x1 : Int32) (Q : Mem → Prop) : Prop :=
  vp_in x1 24 ∧ ∀ v2 : Int32, v2 = (M.1 1225 0 (tn x1)) → pX11_rare M v2 (fun r3 M4 => ∀ M5 : Mem, M5 = up1 M4 1247 0 (tn x1) ((M.1 1226 0 (tn x1)) * r3) → ∀ M6 : Mem, M6 = up1 M5 1246 0 (tn x1) (M5.1 1237 0 0) → ∀ M7 : Mem, M7 = up1 M6 1248 0 (tn x1) 0 → ∃ n : Nat, lp (fun L s => bX11_lays_44 x1 Q L s.1 s.2.1 s.2.2) n (M7, v2, 0))
set_option maxRecDepth 100000 in
set_option maxHeartbeats 400000 in
theorem wX11_lays_176 {Γ : Gam} {G : Gm} {Qf : State → Prop} (hG : Gd G) (C : Cx Γ G cX11_lays 4 RX11 none rmX11_lays) {x1 : Int32} {Q : Mem → Prop} (E : EndV Γ G Qf rmX11_lays Q) (M : Mem) (h : bX11_lays_176 x1 Q M) : X Γ G Qf 4 0 0 176 [(0, .ref (ga G 11 0)), (1, .int x1)] [] M := by
  unfold bX11_lays_176 at h
  refine x_aload_n C dX11_lays_176 0 rfl ?_
  refine gf_11_50 C q197 z11 dX11_lays_177 ?_
  refine x_iload_n C dX11_lays_180 1 rfl ?_
  refine x_aload_n C dX11_lays_181 0 rfl ?_
  refine gf_11_37 C q181 z11 dX11_lays_182 ?_
  refine x_if_ne (tgt := 192) C dX11_lays_185 (by decide) (fun c30 => ?_) (fun c30 => ?_)
  · replace h := h.1 c30
    refine x_aload_n C dX11_lays_192 0 rfl ?_
    refine gf_11_38 C q182 z11 dX11_lays_193 ?_
    refine x_iconst (v := 0) C dX11_lays_196 rfl ?_
    refine al_1238 C z1238 (vp_l (by decide)) dX11_lays_197 ?_
    obtain ⟨f31, h⟩ := h
    refine as_1250 C z1250 f31 dX11_lays_198 ?_
    refine X_nameM (fun M32 eM32 => ?_)
    replace h := h M32 eM32
    exact x_vret C E h (Nat.le_of_ble_eq_true rfl) (Nat.le_of_ble_eq_true rfl) dX11_lays_199
  · replace h := h.2 c30
    refine x_iconst (v := 0) C dX11_lays_188 rfl ?_
    refine x_goto (tgt := 198) C dX11_lays_189 (by decide) ?_
    obtain ⟨f33, h⟩ := h
    refine as_1250 C z1250 f33 dX11_lays_198 ?_
    refine X_nameM (fun M34 eM34 => ?_)
    replace h := h M34 eM34
    exact x_vret C E h (Nat.le_of_ble_eq_true rfl) (Nat.le_of_ble_eq_true rfl) dX11_lays_199
set_option maxRecDepth 100000 in
set_option maxHeartbeats 400000 in
theorem wX11_lays_123 {Γ : Gam} {G : Gm} {Qf : State → Prop} (hG : Gd G) (C : Cx Γ G cX11_lays 4 RX11 none rmX11_lays) {x1 : Int32} {Q : Mem → Prop} (E : EndV Γ G Qf rmX11_lays Q) {L123 : Mem × Int32 → Prop} (hL123 : ∀ s, L123 s → X Γ G Qf 4 0 0 123 [(0, .ref (ga G 11 0)), (1, .int x1), (3, .int s.2)] [] s.1) (M : Mem) (y3 : Int32) (h : bX11_lays_123 x1 Q L123 M y3) : X Γ G Qf 4 0 0 123 [(0, .ref (ga G 11 0)), (1, .int x1), (3, .int y3)] [] M := by
  unfold bX11_lays_123 at h
  refine x_iload_n C dX11_lays_123 2 rfl ?_
  refine x_bipush (v := 32) C dX11_lays_124 rfl ?_
  refine x_icmp_ge (tgt := 144) C dX11_lays_126 (by decide) (fun c19 => ?_) (fun c19 => ?_)
  · replace h := h.1 c19
    refine x_aload_n C dX11_lays_144 0 rfl ?_
    refine gf_11_49 C q193 z11 dX11_lays_145 ?_
    refine x_iload_n C dX11_lays_148 1 rfl ?_
    refine x_iconst (v := 0) C dX11_lays_149 rfl ?_
    obtain ⟨f20, h⟩ := h
    refine as_1249 C z1249 f20 dX11_lays_150 ?_
    refine X_nameM (fun M21 eM21 => ?_)
    replace h := h M21 eM21
    refine x_aload_n C dX11_lays_151 0 rfl ?_
    refine gf_11_51 C q194 z11 dX11_lays_152 ?_
    refine x_iload_n C dX11_lays_155 1 rfl ?_
    refine x_iconst (v := (-1)) C dX11_lays_156 rfl ?_
    refine as_1251 C z1251 f20 dX11_lays_157 ?_
    refine X_nameM (fun M22 eM22 => ?_)
    replace h := h M22 eM22
    refine x_aload_n C dX11_lays_158 0 rfl ?_
    refine gf_11_53 C q195 z11 dX11_lays_159 ?_
    refine x_iload_n C dX11_lays_162 1 rfl ?_
    refine x_aload_n C dX11_lays_163 0 rfl ?_
    refine gf_11_37 C q181 z11 dX11_lays_164 ?_
    refine x_if_ne (tgt := 174) C dX11_lays_167 (by decide) (fun c23 => ?_) (fun c23 => ?_)
    · replace h := h.1 c23
      refine x_iconst (v := 0) C dX11_lays_174 rfl ?_
      refine as_1253 C z1253 f20 (Or.inl rfl) dX11_lays_175 ?_
      refine X_nameM (fun M24 eM24 => ?_)
      replace h := h M24 eM24
      refine X_sub (lv' := [(0, .ref (ga G 11 0)), (1, .int x1)]) [0, 1] rfl ?_
      exact wX11_lays_176 hG C E M24 h
    · replace h := h.2 c23
      refine x_iconst (v := 1) C dX11_lays_170 rfl ?_
      refine x_goto (tgt := 175) C dX11_lays_171 (by decide) ?_
      refine as_1253 C z1253 f20 (Or.inr rfl) dX11_lays_175 ?_
      refine X_nameM (fun M25 eM25 => ?_)
      replace h := h M25 eM25
      refine X_sub (lv' := [(0, .ref (ga G 11 0)), (1, .int x1)]) [0, 1] rfl ?_
      exact wX11_lays_176 hG C E M25 h
  · replace h := h.2 c19
    refine x_aload_n C dX11_lays_129 0 rfl ?_
    refine gf_11_45 C q196 z11 dX11_lays_130 ?_
    refine x_iload_n C dX11_lays_133 1 rfl ?_
    obtain ⟨f26, h⟩ := h
    refine al_1245 C z1245 f26 dX11_lays_134 ?_
    refine x_iload_n C dX11_lays_135 2 rfl ?_
    refine x_iconst (v := 0) C dX11_lays_136 rfl ?_
    obtain ⟨f27, h⟩ := h
    refine as_6245 C (vp_lt f26) f27 dX11_lays_137 ?_
    refine X_nameM (fun M28 eM28 => ?_)
    replace h := h M28 eM28
    obtain ⟨v29, ev29⟩ : ∃ z : Int32, z = y3 + 1 := ⟨_, rfl⟩
    replace h := h v29 ev29
    refine x_iinc (v := v29) (lv' := [(3, .int v29), (0, .ref (ga G 11 0)), (1, .int x1)]) (j := 2) C dX11_lays_138 rfl (by rw [ev29]; rfl) (Nat.le_of_ble_eq_true rfl) rfl ?_
    refine x_goto (tgt := 123) C dX11_lays_141 (by decide) ?_
    refine X_sub (lv' := [(0, .ref (ga G 11 0)), (1, .int x1), (3, .int v29)]) [1, 2, 0] rfl ?_
    have w9 := hL123 (M28, v29) h
    dsimp only at w9
    exact w9
set_option maxRecDepth 100000 in
set_option maxHeartbeats 400000 in
theorem wX11_lays_44 {Γ : Gam} {G : Gm} {Qf : State → Prop} (hG : Gd G) (C : Cx Γ G cX11_lays 4 RX11 none rmX11_lays) {x1 : Int32} {Q : Mem → Prop} (E : EndV Γ G Qf rmX11_lays Q) {L44 : Mem × Int32 × Int32 → Prop} (hL44 : ∀ s, L44 s → X Γ G Qf 4 0 0 44 [(0, .ref (ga G 11 0)), (1, .int x1), (2, .int s.2.1), (3, .int s.2.2)] [] s.1) (M : Mem) (y2 : Int32) (y3 : Int32) (h : bX11_lays_44 x1 Q L44 M y2 y3) : X Γ G Qf 4 0 0 44 [(0, .ref (ga G 11 0)), (1, .int x1), (2, .int y2), (3, .int y3)] [] M := by
  unfold bX11_lays_44 at h
  refine x_iload_n C dX11_lays_44 3 rfl ?_
  refine x_aload_n C dX11_lays_45 0 rfl ?_
  refine gf_11_37 C q181 z11 dX11_lays_46 ?_
  refine x_icmp_ge (tgt := 121) C dX11_lays_49 (by decide) (fun c8 => ?_) (fun c8 => ?_)
  · replace h := h.1 c8
    refine x_iconst (v := 0) C dX11_lays_121 rfl ?_
    refine x_istore_n (lv' := [(3, .int 0), (0, .ref (ga G 11 0)), (1, .int x1), (2, .int y2)]) C dX11_lays_122 rfl (Nat.le_of_ble_eq_true rfl) rfl ?_
    obtain ⟨n9, h⟩ := h
    refine X_sub (lv' := [(0, .ref (ga G 11 0)), (1, .int x1), (3, .int 0)]) [1, 2, 0] rfl ?_
    have hb : ∀ (L : Mem × Int32 → Prop) (s : Mem × Int32), (∀ t, L t → X Γ G Qf 4 0 0 123 [(0, .ref (ga G 11 0)), (1, .int x1), (3, .int t.2)] [] t.1) → bX11_lays_123 x1 Q L s.1 s.2 → X Γ G Qf 4 0 0 123 [(0, .ref (ga G 11 0)), (1, .int x1), (3, .int s.2)] [] s.1 := fun L s hL h => wX11_lays_123 hG C E hL s.1 s.2 h
    have w9 := lp_walk (P := fun s : Mem × Int32 => X Γ G Qf 4 0 0 123 [(0, .ref (ga G 11 0)), (1, .int x1), (3, .int s.2)] [] s.1) h hb
    dsimp only at w9
    exact w9
  · replace h := h.2 c8
    refine x_aload_n C dX11_lays_52 0 rfl ?_
    refine gf_11_43 C q187 z11 dX11_lays_53 ?_
    refine x_iload_n C dX11_lays_56 1 rfl ?_
    obtain ⟨f9, h⟩ := h
    refine al_1243 C z1243 f9 dX11_lays_57 ?_
    refine x_iload_n C dX11_lays_58 3 rfl ?_
    refine x_aload_n C dX11_lays_59 0 rfl ?_
    refine gf_11_38 C q182 z11 dX11_lays_60 ?_
    refine x_iload_n C dX11_lays_63 3 rfl ?_
    obtain ⟨f10, h⟩ := h
    refine al_1238 C z1238 f10 dX11_lays_64 ?_
    refine as_6243 C (vp_lt f9) f10 dX11_lays_65 ?_
    refine X_nameM (fun M11 eM11 => ?_)
    replace h := h M11 eM11
    refine x_aload_n C dX11_lays_66 0 rfl ?_
    refine gf_11_44 C q190 z11 dX11_lays_67 ?_
    refine x_iload_n C dX11_lays_70 1 rfl ?_
    refine al_1244 C z1244 f9 dX11_lays_71 ?_
    refine x_iload_n C dX11_lays_72 3 rfl ?_
    refine x_aload_n C dX11_lays_73 0 rfl ?_
    refine x_iload_n C dX11_lays_74 2 rfl ?_
    refine x_aload_n C dX11_lays_75 0 rfl ?_
    refine gf_11_38 C q182 z11 dX11_lays_76 ?_
    refine x_iload_n C dX11_lays_79 3 rfl ?_
    refine al_1238 C z1238 f10 dX11_lays_80 ?_
    refine x_calli (rest := [.int y3, .ref (ga G 6244 (tn x1))]) C sv_X11_258 ob11 z11 (kX11_gain hG _ _ _ h) rfl rfl (Nat.le_of_ble_eq_true rfl) ⟨Nat.le_of_ble_eq_true rfl, Nat.le_of_ble_eq_true rfl⟩ rfl rfl ⟨Nat.le_of_ble_eq_true rfl, Nat.le_of_ble_eq_true rfl⟩ dX11_lays_81 (fun r12 M13 h => ?_)
    refine as_6244 C (vp_lt f9) f10 dX11_lays_84 ?_
    refine X_nameM (fun M14 eM14 => ?_)
    replace h := h M14 eM14
    refine x_aload_n C dX11_lays_85 0 rfl ?_
    refine gf_11_48 C q192 z11 dX11_lays_86 ?_
    refine x_iload_n C dX11_lays_89 1 rfl ?_
    refine x_aload_n C dX11_lays_90 0 rfl ?_
    refine gf_11_48 C q192 z11 dX11_lays_91 ?_
    refine x_iload_n C dX11_lays_94 1 rfl ?_
    refine al_1248 C z1248 f9 dX11_lays_95 ?_
    refine x_aload_n C dX11_lays_96 0 rfl ?_
    refine gf_11_47 C q191 z11 dX11_lays_97 ?_
    refine x_iload_n C dX11_lays_100 1 rfl ?_
    refine al_1247 C z1247 f9 dX11_lays_101 ?_
    refine x_aload_n C dX11_lays_102 0 rfl ?_
    refine gf_11_44 C q190 z11 dX11_lays_103 ?_
    refine x_iload_n C dX11_lays_106 1 rfl ?_
    refine al_1244 C z1244 f9 dX11_lays_107 ?_
    refine x_iload_n C dX11_lays_108 3 rfl ?_
    refine al_6244 C (vp_lt f9) f10 dX11_lays_109 ?_
    refine x_imul C dX11_lays_110 ?_
    refine x_scalli (rest := [.int x1, .ref (ga G 1248 0)]) C ss_X11_261 (kX11_more hG _ _ _ h) rfl rfl (Nat.le_of_ble_eq_true rfl) ⟨Nat.le_of_ble_eq_true rfl, Nat.le_of_ble_eq_true rfl⟩ rfl rfl ⟨Nat.le_of_ble_eq_true rfl, Nat.le_of_ble_eq_true rfl⟩ dX11_lays_111 (fun r15 M16 h => ?_)
    refine as_1248 C z1248 f9 dX11_lays_114 ?_
    refine X_nameM (fun M17 eM17 => ?_)
    replace h := h M17 eM17
    obtain ⟨v18, ev18⟩ : ∃ z : Int32, z = y3 + 1 := ⟨_, rfl⟩
    replace h := h v18 ev18
    refine x_iinc (v := v18) (lv' := [(3, .int v18), (0, .ref (ga G 11 0)), (1, .int x1), (2, .int y2)]) (j := 3) C dX11_lays_115 rfl (by rw [ev18]; rfl) (Nat.le_of_ble_eq_true rfl) rfl ?_
    refine x_goto (tgt := 44) C dX11_lays_118 (by decide) ?_
    refine X_sub (lv' := [(0, .ref (ga G 11 0)), (1, .int x1), (2, .int y2), (3, .int v18)]) [1, 2, 3, 0] rfl ?_
    have w9 := hL44 (M17, y2, v18) h
    dsimp only at w9
    exact w9
set_option maxRecDepth 100000 in
set_option maxHeartbeats 400000 in
theorem kX11_lays {l : Launch} {G : Gm} (hG : Gd G) (M : Mem) (x1 : Int32) {Q : Mem → Prop} (h : pX11_lays M x1 Q) : Ctv l G yX11_lays cX11_lays 4 rmX11_lays [.ref (ga G 11 0), .int x1] M Q := by
  refine ctv_of (own := RX11) (by decide +kernel) rfl (Nat.le_of_ble_eq_true rfl) hG (fun Γ Qf hl C E => ?_)
  subst hl
  show X Γ G Qf 4 0 0 0 [(0, .ref (ga G 11 0)), (1, .int x1)] [] M
  unfold pX11_lays at h
  refine x_aload_n C dX11_lays_0 0 rfl ?_
  refine gf_11_25 C q169 z11 dX11_lays_1 ?_
  refine x_iload_n C dX11_lays_4 1 rfl ?_
  obtain ⟨f1, h⟩ := h
  refine al_1225 C z1225 f1 dX11_lays_5 ?_
  refine X_name (fun v2 ev2 => ?_)
  replace h := h v2 ev2
  refine x_istore_n (lv' := [(2, .int v2), (0, .ref (ga G 11 0)), (1, .int x1)]) C dX11_lays_6 rfl (Nat.le_of_ble_eq_true rfl) rfl ?_
  refine x_aload_n C dX11_lays_7 1 rfl ?_
  refine gf_11_47 C q191 z11 dX11_lays_8 ?_
  refine x_iload_n C dX11_lays_11 2 rfl ?_
  refine x_aload_n C dX11_lays_12 1 rfl ?_
  refine gf_11_26 C q170 z11 dX11_lays_13 ?_
  refine x_iload_n C dX11_lays_16 2 rfl ?_
  refine al_1226 C z1226 f1 dX11_lays_17 ?_
  refine x_aload_n C dX11_lays_18 1 rfl ?_
  refine x_iload_n C dX11_lays_19 0 rfl ?_
  refine x_calli (rest := [.int (M.1 1226 0 (tn x1)), .int x1, .ref (ga G 1247 0)]) C sv_X11_290 ob11 z11 (kX11_rare hG _ _ h) rfl rfl (Nat.le_of_ble_eq_true rfl) ⟨Nat.le_of_ble_eq_true rfl, Nat.le_of_ble_eq_true rfl⟩ rfl rfl ⟨Nat.le_of_ble_eq_true rfl, Nat.le_of_ble_eq_true rfl⟩ dX11_lays_20 (fun r3 M4 h => ?_)
  refine x_imul C dX11_lays_23 ?_
  refine as_1247 C z1247 f1 dX11_lays_24 ?_
  refine X_nameM (fun M5 eM5 => ?_)
  replace h := h M5 eM5
  refine x_aload_n C dX11_lays_25 1 rfl ?_
  refine gf_11_46 C q188 z11 dX11_lays_26 ?_
  refine x_iload_n C dX11_lays_29 2 rfl ?_
  refine x_aload_n C dX11_lays_30 1 rfl ?_
  refine gf_11_37 C q181 z11 dX11_lays_31 ?_
  refine as_1246 C z1246 f1 dX11_lays_34 ?_
  refine X_nameM (fun M6 eM6 => ?_)
  replace h := h M6 eM6
  refine x_aload_n C dX11_lays_35 1 rfl ?_
  refine gf_11_48 C q192 z11 dX11_lays_36 ?_
  refine x_iload_n C dX11_lays_39 2 rfl ?_
  refine x_iconst (v := 0) C dX11_lays_40 rfl ?_
  refine as_1248 C z1248 f1 dX11_lays_41 ?_
  refine X_nameM (fun M7 eM7 => ?_)
  replace h := h M7 eM7
  refine x_iconst (v := 0) C dX11_lays_42 rfl ?_
  refine x_istore_n (lv' := [(3, .int 0), (2, .int v2), (0, .ref (ga G 11 0)), (1, .int x1)]) C dX11_lays_43 rfl (Nat.le_of_ble_eq_true rfl) rfl ?_
  obtain ⟨n9, h⟩ := h
  refine X_sub (lv' := [(0, .ref (ga G 11 0)), (1, .int x1), (2, .int v2), (3, .int 0)]) [2, 3, 1, 0] rfl ?_
  have hb : ∀ (L : Mem × Int32 × Int32 → Prop) (s : Mem × Int32 × Int32), (∀ t, L t → X Γ G Qf 4 0 0 44 [(0, .ref (ga G 11 0)), (1, .int x1), (2, .int t.2.1), (3, .int t.2.2)] [] t.1) → bX11_lays_44 x1 Q L s.1 s.2.1 s.2.2 → X Γ G Qf 4 0 0 44 [(0, .ref (ga G 11 0)), (1, .int x1), (2, .int s.2.1), (3, .int s.2.2)] [] s.1 := fun L s hL h => wX11_lays_44 hG C E hL s.1 s.2.1 s.2.2 h
  have w9 := lp_walk (P := fun s : Mem × Int32 × Int32 => X Γ G Qf 4 0 0 44 [(0, .ref (ga G 11 0)), (1, .int x1), (2, .int s.2.1), (3, .int s.2.2)] [] s.1) h hb
  dsimp only at w9
  exact w9
def rmX11_dips : Room := { frames := 2, cells := 0, slots := 0, locals := 43 }
def bX11_dips_10 (x1 : Int32) (x2 : Int32) (Q : Mem → Prop) (L10 : Mem → Prop) (M : Mem) : Prop :=
  vp_in x1 24 ∧ pX11_lastOf M x1 (M.1 1249 0 (tn x1)) (fun r4 M5 => ((x2 ≤ r4 → pX11_firstOf M5 x1 (M5.1 1249 0 (tn x1)) (fun r7 M8 => pX11_more M8 x2 r7 (fun r9 M10 => ∀ M11 : Mem, M11 = up1 M10 1250 0 (tn x1) r9 → Q M11))) ∧ (¬ x2 ≤ r4 → ∀ M12 : Mem, M12 = up1 M5 1249 0 (tn x1) ((M5.1 1249 0 (tn x1)) + 1) → pX11_blocksOfList M12 x1 (fun r13 M14 => ((¬ (M12.1 1249 0 (tn x1)) = r13 → L10 M14) ∧ ((M12.1 1249 0 (tn x1)) = r13 → ∀ M16 : Mem, M16 = up1 M14 1253 0 (tn x1) 1 → Q M16))))))
def pX11_dips (M : Mem) (x1 : Int32) (x2 : Int32) (Q : Mem → Prop) : Prop :=
  vp_in x1 24 ∧ (((M.1 1253 0 (tn x1)) = 0 → ∃ n : Nat, lp (fun L s => bX11_dips_10 x1 x2 Q L s) n M) ∧ (¬ (M.1 1253 0 (tn x1)) = 0 → Q M))
set_option maxRecDepth 100000 in
set_option maxHeartbeats 400000 in
theorem wX11_dips_10 {Γ : Gam} {G : Gm} {Qf : State → Prop} (hG : Gd G) (C : Cx Γ G cX11_dips 3 RX11 none rmX11_dips) {x1 : Int32} {x2 : Int32} {Q : Mem → Prop} (E : EndV Γ G Qf rmX11_dips Q) {L10 : Mem → Prop} (hL10 : ∀ s, L10 s → X Γ G Qf 3 0 0 10 [(0, .ref (ga G 11 0)), (1, .int x1), (2, .int x2)] [] s) (M : Mem) (h : bX11_dips_10 x1 x2 Q L10 M) : X Γ G Qf 3 0 0 10 [(0, .ref (ga G 11 0)), (1, .int x1), (2, .int x2)] [] M := by
  unfold bX11_dips_10 at h
  refine x_aload_n C dX11_dips_10 0 rfl ?_
  refine x_iload_n C dX11_dips_11 1 rfl ?_
  refine x_aload_n C dX11_dips_12 0 rfl ?_
  refine gf_11_49 C q193 z11 dX11_dips_13 ?_
  refine x_iload_n C dX11_dips_16 1 rfl ?_
  obtain ⟨f3, h⟩ := h
  refine al_1249 C z1249 f3 dX11_dips_17 ?_
  refine x_calli (rest := []) C sv_X11_317 ob11 z11 (kX11_lastOf hG _ _ _ h) rfl rfl (Nat.le_of_ble_eq_true rfl) ⟨Nat.le_of_ble_eq_true rfl, Nat.le_of_ble_eq_true rfl⟩ rfl rfl ⟨Nat.le_of_ble_eq_true rfl, Nat.le_of_ble_eq_true rfl⟩ dX11_dips_18 (fun r4 M5 h => ?_)
  refine x_iload_n C dX11_dips_21 2 rfl ?_
  refine x_icmp_ge (tgt := 57) C dX11_dips_22 (by decide) (fun c6 => ?_) (fun c6 => ?_)
  · replace h := h.1 c6
    refine x_aload_n C dX11_dips_57 0 rfl ?_
    refine gf_11_50 C q197 z11 dX11_dips_58 ?_
    refine x_iload_n C dX11_dips_61 1 rfl ?_
    refine x_iload_n C dX11_dips_62 2 rfl ?_
    refine x_aload_n C dX11_dips_63 0 rfl ?_
    refine x_iload_n C dX11_dips_64 1 rfl ?_
    refine x_aload_n C dX11_dips_65 0 rfl ?_
    refine gf_11_49 C q193 z11 dX11_dips_66 ?_
    refine x_iload_n C dX11_dips_69 1 rfl ?_
    refine al_1249 C z1249 f3 dX11_dips_70 ?_
    refine x_calli (rest := [.int x2, .int x1, .ref (ga G 1250 0)]) C sv_X11_323 ob11 z11 (kX11_firstOf hG _ _ _ h) rfl rfl (Nat.le_of_ble_eq_true rfl) ⟨Nat.le_of_ble_eq_true rfl, Nat.le_of_ble_eq_true rfl⟩ rfl rfl ⟨Nat.le_of_ble_eq_true rfl, Nat.le_of_ble_eq_true rfl⟩ dX11_dips_71 (fun r7 M8 h => ?_)
    refine x_scalli (rest := [.int x1, .ref (ga G 1250 0)]) C ss_X11_261 (kX11_more hG _ _ _ h) rfl rfl (Nat.le_of_ble_eq_true rfl) ⟨Nat.le_of_ble_eq_true rfl, Nat.le_of_ble_eq_true rfl⟩ rfl rfl ⟨Nat.le_of_ble_eq_true rfl, Nat.le_of_ble_eq_true rfl⟩ dX11_dips_74 (fun r9 M10 h => ?_)
    refine as_1250 C z1250 f3 dX11_dips_77 ?_
    refine X_nameM (fun M11 eM11 => ?_)
    replace h := h M11 eM11
    exact x_vret C E h (Nat.le_of_ble_eq_true rfl) (Nat.le_of_ble_eq_true rfl) dX11_dips_78
  · replace h := h.2 c6
    refine x_aload_n C dX11_dips_25 0 rfl ?_
    refine gf_11_49 C q193 z11 dX11_dips_26 ?_
    refine x_iload_n C dX11_dips_29 1 rfl ?_
    refine x_dup2 C dX11_dips_30 rfl rfl ?_
    refine al_1249 C z1249 f3 dX11_dips_31 ?_
    refine x_iconst (v := 1) C dX11_dips_32 rfl ?_
    refine x_iadd C dX11_dips_33 ?_
    refine as_1249 C z1249 f3 dX11_dips_34 ?_
    refine X_nameM (fun M12 eM12 => ?_)
    replace h := h M12 eM12
    refine x_aload_n C dX11_dips_35 0 rfl ?_
    refine gf_11_49 C q193 z11 dX11_dips_36 ?_
    refine x_iload_n C dX11_dips_39 1 rfl ?_
    refine al_1249 C z1249 f3 dX11_dips_40 ?_
    refine x_aload_n C dX11_dips_41 0 rfl ?_
    refine x_iload_n C dX11_dips_42 1 rfl ?_
    refine x_calli (rest := [.int (M12.1 1249 0 (tn x1))]) C sv_X11_320 ob11 z11 (kX11_blocksOfList hG _ _ h) rfl rfl (Nat.le_of_ble_eq_true rfl) ⟨Nat.le_of_ble_eq_true rfl, Nat.le_of_ble_eq_true rfl⟩ rfl rfl ⟨Nat.le_of_ble_eq_true rfl, Nat.le_of_ble_eq_true rfl⟩ dX11_dips_43 (fun r13 M14 h => ?_)
    refine x_icmp_ne (tgt := 10) C dX11_dips_46 (by decide) (fun c15 => ?_) (fun c15 => ?_)
    · replace h := h.1 c15
      refine X_sub (lv' := [(0, .ref (ga G 11 0)), (1, .int x1), (2, .int x2)]) [0, 1, 2] rfl ?_
      have w9 := hL10 M14 h
      exact w9
    · replace h := h.2 c15
      refine x_aload_n C dX11_dips_49 0 rfl ?_
      refine gf_11_53 C q195 z11 dX11_dips_50 ?_
      refine x_iload_n C dX11_dips_53 1 rfl ?_
      refine x_iconst (v := 1) C dX11_dips_54 rfl ?_
      refine as_1253 C z1253 f3 (Or.inr rfl) dX11_dips_55 ?_
      refine X_nameM (fun M16 eM16 => ?_)
      replace h := h M16 eM16
      exact x_vret C E h (Nat.le_of_ble_eq_true rfl) (Nat.le_of_ble_eq_true rfl) dX11_dips_56
set_option maxRecDepth 100000 in
set_option maxHeartbeats 400000 in
theorem kX11_dips {l : Launch} {G : Gm} (hG : Gd G) (M : Mem) (x1 : Int32) (x2 : Int32) {Q : Mem → Prop} (h : pX11_dips M x1 x2 Q) : Ctv l G yX11_dips cX11_dips 3 rmX11_dips [.ref (ga G 11 0), .int x1, .int x2] M Q := by
  refine ctv_of (own := RX11) (by decide +kernel) rfl (Nat.le_of_ble_eq_true rfl) hG (fun Γ Qf hl C E => ?_)
  subst hl
  show X Γ G Qf 3 0 0 0 [(0, .ref (ga G 11 0)), (1, .int x1), (2, .int x2)] [] M
  unfold pX11_dips at h
  refine x_aload_n C dX11_dips_0 0 rfl ?_
  refine gf_11_53 C q195 z11 dX11_dips_1 ?_
  refine x_iload_n C dX11_dips_4 1 rfl ?_
  obtain ⟨f1, h⟩ := h
  refine al_1253 C z1253 f1 dX11_dips_5 ?_
  refine x_if_eq (tgt := 10) C dX11_dips_6 (by decide) (fun c2 => ?_) (fun c2 => ?_)
  · replace h := h.1 c2
    obtain ⟨n9, h⟩ := h
    refine X_sub (lv' := [(0, .ref (ga G 11 0)), (1, .int x1), (2, .int x2)]) [0, 1, 2] rfl ?_
    have hb : ∀ (L : Mem → Prop) (s : Mem), (∀ t, L t → X Γ G Qf 3 0 0 10 [(0, .ref (ga G 11 0)), (1, .int x1), (2, .int x2)] [] t) → bX11_dips_10 x1 x2 Q L s → X Γ G Qf 3 0 0 10 [(0, .ref (ga G 11 0)), (1, .int x1), (2, .int x2)] [] s := fun L s hL h => wX11_dips_10 hG C E hL s h
    have w9 := lp_walk (P := fun s : Mem => X Γ G Qf 3 0 0 10 [(0, .ref (ga G 11 0)), (1, .int x1), (2, .int x2)] [] s) h hb
    exact w9
  · replace h := h.2 c2
    exact x_vret C E h (Nat.le_of_ble_eq_true rfl) (Nat.le_of_ble_eq_true rfl) dX11_dips_9
