def rmX11_position : Room := { frames := 3, cells := 0, slots := 0, locals := 65 }
def bX11_position_85 (x1 : Int32) (x2 : Int32) (x3 : Int32) (Q : Int32 → Mem → Prop) (L44 : Mem × Int32 × Int32 × Int32 → Prop) (M : Mem) (y4 : Int32) (y5 : Int32) (y6 : Int32) : Prop :=
  ∀ v21 : Int32, v21 = y6 + 1 → L44 (M, y4, y5, v21)
def bX11_position_44 (x1 : Int32) (x2 : Int32) (x3 : Int32) (Q : Int32 → Mem → Prop) (L44 : Mem × Int32 × Int32 × Int32 → Prop) (M : Mem) (y4 : Int32) (y5 : Int32) (y6 : Int32) : Prop :=
  vp_in y4 64 ∧ (((M.1 1213 0 (tn y4)) ≤ y6 → Q (-1) M) ∧ (¬ (M.1 1213 0 (tn y4)) ≤ y6 → vp_in y6 150 ∧ (((M.1 6212 (tn y4) (tn y6)) = x1 → ((¬ y5 = x3 → ∀ v20 : Int32, v20 = y5 + 1 → bX11_position_85 x1 x2 x3 Q L44 M y4 v20 y6) ∧ (y5 = x3 → Q y6 M))) ∧ (¬ (M.1 6212 (tn y4) (tn y6)) = x1 → bX11_position_85 x1 x2 x3 Q L44 M y4 y5 y6))))
def pX11_position (M : Mem) (x1 : Int32) (x2 : Int32) (x3 : Int32) (Q : Int32 → Mem → Prop) : Prop :=
  ∀ M1 : Mem, M1 = up1 M 1200 0 0 0 → pX11_isPosting M1 x1 x2 (fun r2 M3 => ((¬ r2 = 0 → pX11_bad M3 0 1 0 (fun r5 M6 => ((r5 = 0 → vp_in x2 64 ∧ ∀ v9 : Int32, v9 = (M6.1 1238 0 (tn x2)) → ∃ n : Nat, lp (fun L s => bX11_position_44 x1 x2 x3 Q L s.1 s.2.1 s.2.2.1 s.2.2.2) n (M6, v9, 0, 0)) ∧ (¬ r5 = 0 → Q 0 M6)))) ∧ (r2 = 0 → pX11_bad M3 1 1 0 (fun r10 M11 => ((r10 = 0 → vp_in x2 64 ∧ ∀ v14 : Int32, v14 = (M11.1 1238 0 (tn x2)) → ∃ n : Nat, lp (fun L s => bX11_position_44 x1 x2 x3 Q L s.1 s.2.1 s.2.2.1 s.2.2.2) n (M11, v14, 0, 0)) ∧ (¬ r10 = 0 → Q 0 M11))))))
set_option maxRecDepth 100000 in
set_option maxHeartbeats 400000 in
theorem wX11_position_85 {Γ : Gam} {G : Gm} {Qf : State → Prop} (hG : Gd G) (C : Cx Γ G cX11_position 7 RX11 (some .int) rmX11_position) {x1 : Int32} {x2 : Int32} {x3 : Int32} {Q : Int32 → Mem → Prop} (E : EndI Γ G Qf rmX11_position Q) {L44 : Mem × Int32 × Int32 × Int32 → Prop} (hL44 : ∀ s, L44 s → X Γ G Qf 7 0 0 44 [(0, .ref (ga G 11 0)), (1, .int x1), (3, .int x3), (4, .int s.2.1), (5, .int s.2.2.1), (6, .int s.2.2.2)] [] s.1) (M : Mem) (y4 : Int32) (y5 : Int32) (y6 : Int32) (h : bX11_position_85 x1 x2 x3 Q L44 M y4 y5 y6) : X Γ G Qf 7 0 0 85 [(0, .ref (ga G 11 0)), (1, .int x1), (3, .int x3), (4, .int y4), (5, .int y5), (6, .int y6)] [] M := by
  unfold bX11_position_85 at h
  obtain ⟨v21, ev21⟩ : ∃ z : Int32, z = y6 + 1 := ⟨_, rfl⟩
  replace h := h v21 ev21
  refine x_iinc (v := v21) (lv' := [(6, .int v21), (0, .ref (ga G 11 0)), (1, .int x1), (3, .int x3), (4, .int y4), (5, .int y5)]) (j := 5) C dX11_position_85 rfl (by rw [ev21]; rfl) (Nat.le_of_ble_eq_true rfl) rfl ?_
  refine x_goto (tgt := 44) C dX11_position_88 (by decide) ?_
  refine X_sub (lv' := [(0, .ref (ga G 11 0)), (1, .int x1), (3, .int x3), (4, .int y4), (5, .int y5), (6, .int v21)]) [1, 2, 3, 4, 5, 0] rfl ?_
  have w9 := hL44 (M, y4, y5, v21) h
  dsimp only at w9
  exact w9
set_option maxRecDepth 100000 in
set_option maxHeartbeats 400000 in
theorem wX11_position_44 {Γ : Gam} {G : Gm} {Qf : State → Prop} (hG : Gd G) (C : Cx Γ G cX11_position 7 RX11 (some .int) rmX11_position) {x1 : Int32} {x2 : Int32} {x3 : Int32} {Q : Int32 → Mem → Prop} (E : EndI Γ G Qf rmX11_position Q) {L44 : Mem × Int32 × Int32 × Int32 → Prop} (hL44 : ∀ s, L44 s → X Γ G Qf 7 0 0 44 [(0, .ref (ga G 11 0)), (1, .int x1), (3, .int x3), (4, .int s.2.1), (5, .int s.2.2.1), (6, .int s.2.2.2)] [] s.1) (M : Mem) (y4 : Int32) (y5 : Int32) (y6 : Int32) (h : bX11_position_44 x1 x2 x3 Q L44 M y4 y5 y6) : X Γ G Qf 7 0 0 44 [(0, .ref (ga G 11 0)), (1, .int x1), (3, .int x3), (4, .int y4), (5, .int y5), (6, .int y6)] [] M := by
  unfold bX11_position_44 at h
  refine x_iload C dX11_position_44 5 rfl ?_
  refine x_aload_n C dX11_position_46 0 rfl ?_
  refine gf_11_13 C q161 z11 dX11_position_47 ?_
  refine x_iload C dX11_position_50 3 rfl ?_
  obtain ⟨f15, h⟩ := h
  refine al_1213 C z1213 f15 dX11_position_52 ?_
  refine x_icmp_ge (tgt := 91) C dX11_position_53 (by decide) (fun c16 => ?_) (fun c16 => ?_)
  · replace h := h.1 c16
    refine x_iconst (v := (-1)) C dX11_position_91 rfl ?_
    exact x_iret C E h (Nat.le_of_ble_eq_true rfl) (Nat.le_of_ble_eq_true rfl) dX11_position_92
  · replace h := h.2 c16
    refine x_aload_n C dX11_position_56 0 rfl ?_
    refine gf_11_12 C q158 z11 dX11_position_57 ?_
    refine x_iload C dX11_position_60 3 rfl ?_
    refine al_1212 C z1212 f15 dX11_position_62 ?_
    refine x_iload C dX11_position_63 5 rfl ?_
    obtain ⟨f17, h⟩ := h
    refine al_6212 C (vp_lt f15) f17 dX11_position_65 ?_
    refine x_iload_n C dX11_position_66 1 rfl ?_
    refine x_icmp_eq (tgt := 73) C dX11_position_67 (by decide) (fun c18 => ?_) (fun c18 => ?_)
    · replace h := h.1 c18
      refine x_iload C dX11_position_73 4 rfl ?_
      refine x_iload_n C dX11_position_75 2 rfl ?_
      refine x_icmp_ne (tgt := 82) C dX11_position_76 (by decide) (fun c19 => ?_) (fun c19 => ?_)
      · replace h := h.1 c19
        obtain ⟨v20, ev20⟩ : ∃ z : Int32, z = y5 + 1 := ⟨_, rfl⟩
        replace h := h v20 ev20
        refine x_iinc (v := v20) (lv' := [(5, .int v20), (0, .ref (ga G 11 0)), (1, .int x1), (3, .int x3), (4, .int y4), (6, .int y6)]) (j := 4) C dX11_position_82 rfl (by rw [ev20]; rfl) (Nat.le_of_ble_eq_true rfl) rfl ?_
        refine X_sub (lv' := [(0, .ref (ga G 11 0)), (1, .int x1), (3, .int x3), (4, .int y4), (5, .int v20), (6, .int y6)]) [1, 2, 3, 4, 0, 5] rfl ?_
        exact wX11_position_85 hG C E hL44 M y4 v20 y6 h
      · replace h := h.2 c19
        refine x_iload C dX11_position_79 5 rfl ?_
        exact x_iret C E h (Nat.le_of_ble_eq_true rfl) (Nat.le_of_ble_eq_true rfl) dX11_position_81
    · replace h := h.2 c18
      refine x_goto (tgt := 85) C dX11_position_70 (by decide) ?_
      refine X_sub (lv' := [(0, .ref (ga G 11 0)), (1, .int x1), (3, .int x3), (4, .int y4), (5, .int y5), (6, .int y6)]) [0, 1, 2, 3, 4, 5] rfl ?_
      exact wX11_position_85 hG C E hL44 M y4 y5 y6 h
set_option maxRecDepth 100000 in
set_option maxHeartbeats 400000 in
theorem kX11_position {l : Launch} {G : Gm} (hG : Gd G) (M : Mem) (x1 : Int32) (x2 : Int32) (x3 : Int32) {Q : Int32 → Mem → Prop} (h : pX11_position M x1 x2 x3 Q) : Cti l G yX11_position cX11_position 7 .int rmX11_position [.ref (ga G 11 0), .int x1, .int x2, .int x3] M Q := by
  refine cti_of (own := RX11) (by decide +kernel) rfl (Nat.le_of_ble_eq_true rfl) hG (fun Γ Qf hl C E => ?_)
  subst hl
  show X Γ G Qf 7 0 0 0 [(0, .ref (ga G 11 0)), (1, .int x1), (2, .int x2), (3, .int x3)] [] M
  unfold pX11_position at h
  refine x_aload_n C dX11_position_0 0 rfl ?_
  refine x_iconst (v := 0) C dX11_position_1 rfl ?_
  refine pf_11_0 C q143 z11 dX11_position_2 ?_
  refine X_nameM (fun M1 eM1 => ?_)
  replace h := h M1 eM1
  refine x_aload_n C dX11_position_5 0 rfl ?_
  refine x_aload_n C dX11_position_6 0 rfl ?_
  refine x_iload_n C dX11_position_7 1 rfl ?_
  refine x_iload_n C dX11_position_8 2 rfl ?_
  refine x_calli (rest := [.ref (ga G 11 0)]) C sv_X11_427 ob11 z11 (kX11_isPosting hG _ _ _ h) rfl rfl (Nat.le_of_ble_eq_true rfl) ⟨Nat.le_of_ble_eq_true rfl, Nat.le_of_ble_eq_true rfl⟩ rfl rfl ⟨Nat.le_of_ble_eq_true rfl, Nat.le_of_ble_eq_true rfl⟩ dX11_position_9 (fun r2 M3 h => ?_)
  refine x_if_ne (tgt := 19) C dX11_position_12 (by decide) (fun c4 => ?_) (fun c4 => ?_)
  · replace h := h.1 c4
    refine x_iconst (v := 0) C dX11_position_19 rfl ?_
    refine x_iconst (v := 1) C dX11_position_20 rfl ?_
    refine x_iconst (v := 0) C dX11_position_21 rfl ?_
    refine x_calli (rest := []) C sv_X11_179 ob11 z11 (kX11_bad hG _ _ _ _ h) rfl rfl (Nat.le_of_ble_eq_true rfl) ⟨Nat.le_of_ble_eq_true rfl, Nat.le_of_ble_eq_true rfl⟩ rfl rfl ⟨Nat.le_of_ble_eq_true rfl, Nat.le_of_ble_eq_true rfl⟩ dX11_position_22 (fun r5 M6 h => ?_)
    refine x_if_eq (tgt := 30) C dX11_position_25 (by decide) (fun c7 => ?_) (fun c7 => ?_)
    · replace h := h.1 c7
      refine x_aload_n C dX11_position_30 0 rfl ?_
      refine gf_11_38 C q182 z11 dX11_position_31 ?_
      refine x_iload_n C dX11_position_34 2 rfl ?_
      obtain ⟨f8, h⟩ := h
      refine al_1238 C z1238 f8 dX11_position_35 ?_
      refine X_name (fun v9 ev9 => ?_)
      replace h := h v9 ev9
      refine x_istore (lv' := [(4, .int v9), (0, .ref (ga G 11 0)), (1, .int x1), (2, .int x2), (3, .int x3)]) C dX11_position_36 (Nat.le_of_ble_eq_true rfl) rfl ?_
      refine x_iconst (v := 0) C dX11_position_38 rfl ?_
      refine x_istore (lv' := [(5, .int 0), (4, .int v9), (0, .ref (ga G 11 0)), (1, .int x1), (2, .int x2), (3, .int x3)]) C dX11_position_39 (Nat.le_of_ble_eq_true rfl) rfl ?_
      refine x_iconst (v := 0) C dX11_position_41 rfl ?_
      refine x_istore (lv' := [(6, .int 0), (5, .int 0), (4, .int v9), (0, .ref (ga G 11 0)), (1, .int x1), (2, .int x2), (3, .int x3)]) C dX11_position_42 (Nat.le_of_ble_eq_true rfl) rfl ?_
      obtain ⟨n9, h⟩ := h
      refine X_sub (lv' := [(0, .ref (ga G 11 0)), (1, .int x1), (3, .int x3), (4, .int v9), (5, .int 0), (6, .int 0)]) [3, 4, 6, 2, 1, 0] rfl ?_
      have hb : ∀ (L : Mem × Int32 × Int32 × Int32 → Prop) (s : Mem × Int32 × Int32 × Int32), (∀ t, L t → X Γ G Qf 7 0 0 44 [(0, .ref (ga G 11 0)), (1, .int x1), (3, .int x3), (4, .int t.2.1), (5, .int t.2.2.1), (6, .int t.2.2.2)] [] t.1) → bX11_position_44 x1 x2 x3 Q L s.1 s.2.1 s.2.2.1 s.2.2.2 → X Γ G Qf 7 0 0 44 [(0, .ref (ga G 11 0)), (1, .int x1), (3, .int x3), (4, .int s.2.1), (5, .int s.2.2.1), (6, .int s.2.2.2)] [] s.1 := fun L s hL h => wX11_position_44 hG C E hL s.1 s.2.1 s.2.2.1 s.2.2.2 h
      have w9 := lp_walk (P := fun s : Mem × Int32 × Int32 × Int32 => X Γ G Qf 7 0 0 44 [(0, .ref (ga G 11 0)), (1, .int x1), (3, .int x3), (4, .int s.2.1), (5, .int s.2.2.1), (6, .int s.2.2.2)] [] s.1) h hb
      dsimp only at w9
      exact w9
    · replace h := h.2 c7
      refine x_iconst (v := 0) C dX11_position_28 rfl ?_
      exact x_iret C E h (Nat.le_of_ble_eq_true rfl) (Nat.le_of_ble_eq_true rfl) dX11_position_29
  · replace h := h.2 c4
    refine x_iconst (v := 1) C dX11_position_15 rfl ?_
    refine x_goto (tgt := 20) C dX11_position_16 (by decide) ?_
    refine x_iconst (v := 1) C dX11_position_20 rfl ?_
    refine x_iconst (v := 0) C dX11_position_21 rfl ?_
    refine x_calli (rest := []) C sv_X11_179 ob11 z11 (kX11_bad hG _ _ _ _ h) rfl rfl (Nat.le_of_ble_eq_true rfl) ⟨Nat.le_of_ble_eq_true rfl, Nat.le_of_ble_eq_true rfl⟩ rfl rfl ⟨Nat.le_of_ble_eq_true rfl, Nat.le_of_ble_eq_true rfl⟩ dX11_position_22 (fun r10 M11 h => ?_)
    refine x_if_eq (tgt := 30) C dX11_position_25 (by decide) (fun c12 => ?_) (fun c12 => ?_)
    · replace h := h.1 c12
      refine x_aload_n C dX11_position_30 0 rfl ?_
      refine gf_11_38 C q182 z11 dX11_position_31 ?_
      refine x_iload_n C dX11_position_34 2 rfl ?_
      obtain ⟨f13, h⟩ := h
      refine al_1238 C z1238 f13 dX11_position_35 ?_
      refine X_name (fun v14 ev14 => ?_)
      replace h := h v14 ev14
      refine x_istore (lv' := [(4, .int v14), (0, .ref (ga G 11 0)), (1, .int x1), (2, .int x2), (3, .int x3)]) C dX11_position_36 (Nat.le_of_ble_eq_true rfl) rfl ?_
      refine x_iconst (v := 0) C dX11_position_38 rfl ?_
      refine x_istore (lv' := [(5, .int 0), (4, .int v14), (0, .ref (ga G 11 0)), (1, .int x1), (2, .int x2), (3, .int x3)]) C dX11_position_39 (Nat.le_of_ble_eq_true rfl) rfl ?_
      refine x_iconst (v := 0) C dX11_position_41 rfl ?_
      refine x_istore (lv' := [(6, .int 0), (5, .int 0), (4, .int v14), (0, .ref (ga G 11 0)), (1, .int x1), (2, .int x2), (3, .int x3)]) C dX11_position_42 (Nat.le_of_ble_eq_true rfl) rfl ?_
      obtain ⟨n9, h⟩ := h
      refine X_sub (lv' := [(0, .ref (ga G 11 0)), (1, .int x1), (3, .int x3), (4, .int v14), (5, .int 0), (6, .int 0)]) [3, 4, 6, 2, 1, 0] rfl ?_
      have hb : ∀ (L : Mem × Int32 × Int32 × Int32 → Prop) (s : Mem × Int32 × Int32 × Int32), (∀ t, L t → X Γ G Qf 7 0 0 44 [(0, .ref (ga G 11 0)), (1, .int x1), (3, .int x3), (4, .int t.2.1), (5, .int t.2.2.1), (6, .int t.2.2.2)] [] t.1) → bX11_position_44 x1 x2 x3 Q L s.1 s.2.1 s.2.2.1 s.2.2.2 → X Γ G Qf 7 0 0 44 [(0, .ref (ga G 11 0)), (1, .int x1), (3, .int x3), (4, .int s.2.1), (5, .int s.2.2.1), (6, .int s.2.2.2)] [] s.1 := fun L s hL h => wX11_position_44 hG C E hL s.1 s.2.1 s.2.2.1 s.2.2.2 h
      have w9 := lp_walk (P := fun s : Mem × Int32 × Int32 × Int32 => X Γ G Qf 7 0 0 44 [(0, .ref (ga G 11 0)), (1, .int x1), (3, .int x3), (4, .int s.2.1), (5, .int s.2.2.1), (6, .int s.2.2.2)] [] s.1) h hb
      dsimp only at w9
      exact w9
    · replace h := h.2 c12
      refine x_iconst (v := 0) C dX11_position_28 rfl ?_
      exact x_iret C E h (Nat.le_of_ble_eq_true rfl) (Nat.le_of_ble_eq_true rfl) dX11_position_29
def rmX11_ahead : Room := { frames := 2, cells := 0, slots := 0, locals := 43 }
def bX11_ahead_60 (x1 : Int32) (Q : Int32 → Mem → Prop) (L15 : Mem × Int32 × Int32 × Int32 → Prop) (M : Mem) (y2 : Int32) (y3 : Int32) (y4 : Int32) : Prop :=
  ∀ v14 : Int32, v14 = y4 + 1 → L15 (M, y2, y3, v14)
def bX11_ahead_15 (x1 : Int32) (Q : Int32 → Mem → Prop) (L15 : Mem × Int32 × Int32 × Int32 → Prop) (M : Mem) (y2 : Int32) (y3 : Int32) (y4 : Int32) : Prop :=
  (((M.1 1210 0 0) ≤ y4 → Q y3 M) ∧ (¬ (M.1 1210 0 0) ≤ y4 → pX11_gathers M y4 (fun M6 => ((y2 < (M6.1 1237 0 0) → ∀ v8 : Int32, v8 = (y3 + 1) → bX11_ahead_60 x1 Q L15 M6 y2 v8 y4) ∧ (¬ y2 < (M6.1 1237 0 0) → ((¬ (M6.1 1237 0 0) = y2 → ∀ v10 : Int32, v10 = (y3 + 0) → bX11_ahead_60 x1 Q L15 M6 y2 v10 y4) ∧ ((M6.1 1237 0 0) = y2 → ((x1 ≤ y4 → ∀ v12 : Int32, v12 = (y3 + 0) → bX11_ahead_60 x1 Q L15 M6 y2 v12 y4) ∧ (¬ x1 ≤ y4 → ∀ v13 : Int32, v13 = (y3 + 1) → bX11_ahead_60 x1 Q L15 M6 y2 v13 y4)))))))))
def pX11_ahead (M : Mem) (x1 : Int32) (Q : Int32 → Mem → Prop) : Prop :=
  pX11_gathers M x1 (fun M2 => ∀ v3 : Int32, v3 = (M2.1 1237 0 0) → ∃ n : Nat, lp (fun L s => bX11_ahead_15 x1 Q L s.1 s.2.1 s.2.2.1 s.2.2.2) n (M2, v3, 0, 0))
set_option maxRecDepth 100000 in
set_option maxHeartbeats 400000 in
theorem wX11_ahead_60 {Γ : Gam} {G : Gm} {Qf : State → Prop} (hG : Gd G) (C : Cx Γ G cX11_ahead 5 RX11 (some .int) rmX11_ahead) {x1 : Int32} {Q : Int32 → Mem → Prop} (E : EndI Γ G Qf rmX11_ahead Q) {L15 : Mem × Int32 × Int32 × Int32 → Prop} (hL15 : ∀ s, L15 s → X Γ G Qf 5 0 0 15 [(0, .ref (ga G 11 0)), (1, .int x1), (2, .int s.2.1), (3, .int s.2.2.1), (4, .int s.2.2.2)] [] s.1) (M : Mem) (y2 : Int32) (y3 : Int32) (y4 : Int32) (h : bX11_ahead_60 x1 Q L15 M y2 y3 y4) : X Γ G Qf 5 0 0 60 [(0, .ref (ga G 11 0)), (1, .int x1), (2, .int y2), (3, .int y3), (4, .int y4)] [] M := by
  unfold bX11_ahead_60 at h
  obtain ⟨v14, ev14⟩ : ∃ z : Int32, z = y4 + 1 := ⟨_, rfl⟩
  replace h := h v14 ev14
  refine x_iinc (v := v14) (lv' := [(4, .int v14), (0, .ref (ga G 11 0)), (1, .int x1), (2, .int y2), (3, .int y3)]) (j := 4) C dX11_ahead_60 rfl (by rw [ev14]; rfl) (Nat.le_of_ble_eq_true rfl) rfl ?_
  refine x_goto (tgt := 15) C dX11_ahead_63 (by decide) ?_
  refine X_sub (lv' := [(0, .ref (ga G 11 0)), (1, .int x1), (2, .int y2), (3, .int y3), (4, .int v14)]) [1, 2, 3, 4, 0] rfl ?_
  have w9 := hL15 (M, y2, y3, v14) h
  dsimp only at w9
  exact w9
set_option maxRecDepth 100000 in
set_option maxHeartbeats 400000 in
theorem wX11_ahead_15 {Γ : Gam} {G : Gm} {Qf : State → Prop} (hG : Gd G) (C : Cx Γ G cX11_ahead 5 RX11 (some .int) rmX11_ahead) {x1 : Int32} {Q : Int32 → Mem → Prop} (E : EndI Γ G Qf rmX11_ahead Q) {L15 : Mem × Int32 × Int32 × Int32 → Prop} (hL15 : ∀ s, L15 s → X Γ G Qf 5 0 0 15 [(0, .ref (ga G 11 0)), (1, .int x1), (2, .int s.2.1), (3, .int s.2.2.1), (4, .int s.2.2.2)] [] s.1) (M : Mem) (y2 : Int32) (y3 : Int32) (y4 : Int32) (h : bX11_ahead_15 x1 Q L15 M y2 y3 y4) : X Γ G Qf 5 0 0 15 [(0, .ref (ga G 11 0)), (1, .int x1), (2, .int y2), (3, .int y3), (4, .int y4)] [] M := by
  unfold bX11_ahead_15 at h
  refine x_iload C dX11_ahead_15 4 rfl ?_
  refine x_aload_n C dX11_ahead_17 0 rfl ?_
  refine gf_11_10 C q155 z11 dX11_ahead_18 ?_
  refine x_icmp_ge (tgt := 66) C dX11_ahead_21 (by decide) (fun c4 => ?_) (fun c4 => ?_)
  · replace h := h.1 c4
    refine x_iload_n C dX11_ahead_66 3 rfl ?_
    exact x_iret C E h (Nat.le_of_ble_eq_true rfl) (Nat.le_of_ble_eq_true rfl) dX11_ahead_67
  · replace h := h.2 c4
    refine x_aload_n C dX11_ahead_24 0 rfl ?_
    refine x_iload C dX11_ahead_25 4 rfl ?_
    refine x_callv (rest := []) C sv_X11_252 ob11 z11 (kX11_gathers hG _ _ h) rfl rfl (Nat.le_of_ble_eq_true rfl) ⟨Nat.le_of_ble_eq_true rfl, Nat.le_of_ble_eq_true rfl⟩ rfl rfl ⟨Nat.le_of_ble_eq_true rfl, Nat.le_of_ble_eq_true rfl⟩ dX11_ahead_27 (fun M6 h => ?_)
    refine x_iload_n C dX11_ahead_30 3 rfl ?_
    refine x_aload_n C dX11_ahead_31 0 rfl ?_
    refine gf_11_37 C q181 z11 dX11_ahead_32 ?_
    refine x_iload_n C dX11_ahead_35 2 rfl ?_
    refine x_icmp_gt (tgt := 53) C dX11_ahead_36 (by decide) (fun c7 => ?_) (fun c7 => ?_)
    · replace h := h.1 c7
      refine x_iconst (v := 1) C dX11_ahead_53 rfl ?_
      refine x_goto (tgt := 58) C dX11_ahead_54 (by decide) ?_
      refine x_iadd C dX11_ahead_58 ?_
      refine X_name (fun v8 ev8 => ?_)
      replace h := h v8 ev8
      refine x_istore_n (lv' := [(3, .int v8), (0, .ref (ga G 11 0)), (1, .int x1), (2, .int y2), (4, .int y4)]) C dX11_ahead_59 rfl (Nat.le_of_ble_eq_true rfl) rfl ?_
      refine X_sub (lv' := [(0, .ref (ga G 11 0)), (1, .int x1), (2, .int y2), (3, .int v8), (4, .int y4)]) [1, 2, 3, 0, 4] rfl ?_
      exact wX11_ahead_60 hG C E hL15 M6 y2 v8 y4 h
    · replace h := h.2 c7
      refine x_aload_n C dX11_ahead_39 0 rfl ?_
      refine gf_11_37 C q181 z11 dX11_ahead_40 ?_
      refine x_iload_n C dX11_ahead_43 2 rfl ?_
      refine x_icmp_ne (tgt := 57) C dX11_ahead_44 (by decide) (fun c9 => ?_) (fun c9 => ?_)
      · replace h := h.1 c9
        refine x_iconst (v := 0) C dX11_ahead_57 rfl ?_
        refine x_iadd C dX11_ahead_58 ?_
        refine X_name (fun v10 ev10 => ?_)
        replace h := h v10 ev10
        refine x_istore_n (lv' := [(3, .int v10), (0, .ref (ga G 11 0)), (1, .int x1), (2, .int y2), (4, .int y4)]) C dX11_ahead_59 rfl (Nat.le_of_ble_eq_true rfl) rfl ?_
        refine X_sub (lv' := [(0, .ref (ga G 11 0)), (1, .int x1), (2, .int y2), (3, .int v10), (4, .int y4)]) [1, 2, 3, 0, 4] rfl ?_
        exact wX11_ahead_60 hG C E hL15 M6 y2 v10 y4 h
      · replace h := h.2 c9
        refine x_iload C dX11_ahead_47 4 rfl ?_
        refine x_iload_n C dX11_ahead_49 1 rfl ?_
        refine x_icmp_ge (tgt := 57) C dX11_ahead_50 (by decide) (fun c11 => ?_) (fun c11 => ?_)
        · replace h := h.1 c11
          refine x_iconst (v := 0) C dX11_ahead_57 rfl ?_
          refine x_iadd C dX11_ahead_58 ?_
          refine X_name (fun v12 ev12 => ?_)
          replace h := h v12 ev12
          refine x_istore_n (lv' := [(3, .int v12), (0, .ref (ga G 11 0)), (1, .int x1), (2, .int y2), (4, .int y4)]) C dX11_ahead_59 rfl (Nat.le_of_ble_eq_true rfl) rfl ?_
          refine X_sub (lv' := [(0, .ref (ga G 11 0)), (1, .int x1), (2, .int y2), (3, .int v12), (4, .int y4)]) [1, 2, 3, 0, 4] rfl ?_
          exact wX11_ahead_60 hG C E hL15 M6 y2 v12 y4 h
        · replace h := h.2 c11
          refine x_iconst (v := 1) C dX11_ahead_53 rfl ?_
          refine x_goto (tgt := 58) C dX11_ahead_54 (by decide) ?_
          refine x_iadd C dX11_ahead_58 ?_
          refine X_name (fun v13 ev13 => ?_)
          replace h := h v13 ev13
          refine x_istore_n (lv' := [(3, .int v13), (0, .ref (ga G 11 0)), (1, .int x1), (2, .int y2), (4, .int y4)]) C dX11_ahead_59 rfl (Nat.le_of_ble_eq_true rfl) rfl ?_
          refine X_sub (lv' := [(0, .ref (ga G 11 0)), (1, .int x1), (2, .int y2), (3, .int v13), (4, .int y4)]) [1, 2, 3, 0, 4] rfl ?_
          exact wX11_ahead_60 hG C E hL15 M6 y2 v13 y4 h
set_option maxRecDepth 100000 in
set_option maxHeartbeats 400000 in
theorem kX11_ahead {l : Launch} {G : Gm} (hG : Gd G) (M : Mem) (x1 : Int32) {Q : Int32 → Mem → Prop} (h : pX11_ahead M x1 Q) : Cti l G yX11_ahead cX11_ahead 5 .int rmX11_ahead [.ref (ga G 11 0), .int x1] M Q := by
  refine cti_of (own := RX11) (by decide +kernel) rfl (Nat.le_of_ble_eq_true rfl) hG (fun Γ Qf hl C E => ?_)
  subst hl
  show X Γ G Qf 5 0 0 0 [(0, .ref (ga G 11 0)), (1, .int x1)] [] M
  unfold pX11_ahead at h
  refine x_aload_n C dX11_ahead_0 0 rfl ?_
  refine x_iload_n C dX11_ahead_1 1 rfl ?_
  refine x_callv (rest := []) C sv_X11_252 ob11 z11 (kX11_gathers hG _ _ h) rfl rfl (Nat.le_of_ble_eq_true rfl) ⟨Nat.le_of_ble_eq_true rfl, Nat.le_of_ble_eq_true rfl⟩ rfl rfl ⟨Nat.le_of_ble_eq_true rfl, Nat.le_of_ble_eq_true rfl⟩ dX11_ahead_2 (fun M2 h => ?_)
  refine x_aload_n C dX11_ahead_5 0 rfl ?_
  refine gf_11_37 C q181 z11 dX11_ahead_6 ?_
  refine X_name (fun v3 ev3 => ?_)
  replace h := h v3 ev3
  refine x_istore_n (lv' := [(2, .int v3), (0, .ref (ga G 11 0)), (1, .int x1)]) C dX11_ahead_9 rfl (Nat.le_of_ble_eq_true rfl) rfl ?_
  refine x_iconst (v := 0) C dX11_ahead_10 rfl ?_
  refine x_istore_n (lv' := [(3, .int 0), (2, .int v3), (0, .ref (ga G 11 0)), (1, .int x1)]) C dX11_ahead_11 rfl (Nat.le_of_ble_eq_true rfl) rfl ?_
  refine x_iconst (v := 0) C dX11_ahead_12 rfl ?_
  refine x_istore (lv' := [(4, .int 0), (3, .int 0), (2, .int v3), (0, .ref (ga G 11 0)), (1, .int x1)]) C dX11_ahead_13 (Nat.le_of_ble_eq_true rfl) rfl ?_
  obtain ⟨n9, h⟩ := h
  refine X_sub (lv' := [(0, .ref (ga G 11 0)), (1, .int x1), (2, .int v3), (3, .int 0), (4, .int 0)]) [3, 4, 2, 1, 0] rfl ?_
  have hb : ∀ (L : Mem × Int32 × Int32 × Int32 → Prop) (s : Mem × Int32 × Int32 × Int32), (∀ t, L t → X Γ G Qf 5 0 0 15 [(0, .ref (ga G 11 0)), (1, .int x1), (2, .int t.2.1), (3, .int t.2.2.1), (4, .int t.2.2.2)] [] t.1) → bX11_ahead_15 x1 Q L s.1 s.2.1 s.2.2.1 s.2.2.2 → X Γ G Qf 5 0 0 15 [(0, .ref (ga G 11 0)), (1, .int x1), (2, .int s.2.1), (3, .int s.2.2.1), (4, .int s.2.2.2)] [] s.1 := fun L s hL h => wX11_ahead_15 hG C E hL s.1 s.2.1 s.2.2.1 s.2.2.2 h
  have w9 := lp_walk (P := fun s : Mem × Int32 × Int32 × Int32 => X Γ G Qf 5 0 0 15 [(0, .ref (ga G 11 0)), (1, .int x1), (2, .int s.2.1), (3, .int s.2.2.1), (4, .int s.2.2.2)] [] s.1) h hb
  dsimp only at w9
  exact w9
def rmX11_common : Room := { frames := 3, cells := 0, slots := 0, locals := 67 }
def bX11_common_31 (x1 : Int32) (Q : Int32 → Mem → Prop) (L31 : Mem × Int32 → Prop) (M : Mem) (y2 : Int32) : Prop :=
  pX11_ahead M y2 (fun r11 M12 => ((r11 = x1 → Q y2 M12) ∧ (¬ r11 = x1 → ∀ v14 : Int32, v14 = y2 + 1 → L31 (M12, v14))))
def pX11_common (M : Mem) (x1 : Int32) (Q : Int32 → Mem → Prop) : Prop :=
  ∀ M1 : Mem, M1 = up1 M 1200 0 0 0 → pX11_isWord M1 x1 (fun r2 M3 => ((¬ r2 = 0 → pX11_bad M3 0 1 0 (fun r5 M6 => ((r5 = 0 → ∃ n : Nat, lp (fun L s => bX11_common_31 x1 Q L s.1 s.2) n (M6, 0)) ∧ (¬ r5 = 0 → Q 0 M6)))) ∧ (r2 = 0 → pX11_bad M3 1 1 0 (fun r8 M9 => ((r8 = 0 → ∃ n : Nat, lp (fun L s => bX11_common_31 x1 Q L s.1 s.2) n (M9, 0)) ∧ (¬ r8 = 0 → Q 0 M9))))))
set_option maxRecDepth 100000 in
set_option maxHeartbeats 400000 in
theorem wX11_common_31 {Γ : Gam} {G : Gm} {Qf : State → Prop} (hG : Gd G) (C : Cx Γ G cX11_common 3 RX11 (some .int) rmX11_common) {x1 : Int32} {Q : Int32 → Mem → Prop} (E : EndI Γ G Qf rmX11_common Q) {L31 : Mem × Int32 → Prop} (hL31 : ∀ s, L31 s → X Γ G Qf 3 0 0 31 [(0, .ref (ga G 11 0)), (1, .int x1), (2, .int s.2)] [] s.1) (M : Mem) (y2 : Int32) (h : bX11_common_31 x1 Q L31 M y2) : X Γ G Qf 3 0 0 31 [(0, .ref (ga G 11 0)), (1, .int x1), (2, .int y2)] [] M := by
  unfold bX11_common_31 at h
  refine x_aload_n C dX11_common_31 0 rfl ?_
  refine x_iload_n C dX11_common_32 2 rfl ?_
  refine x_calli (rest := []) C sv_X11_430 ob11 z11 (kX11_ahead hG _ _ h) rfl rfl (Nat.le_of_ble_eq_true rfl) ⟨Nat.le_of_ble_eq_true rfl, Nat.le_of_ble_eq_true rfl⟩ rfl rfl ⟨Nat.le_of_ble_eq_true rfl, Nat.le_of_ble_eq_true rfl⟩ dX11_common_33 (fun r11 M12 h => ?_)
  refine x_iload_n C dX11_common_36 1 rfl ?_
  refine x_icmp_eq (tgt := 46) C dX11_common_37 (by decide) (fun c13 => ?_) (fun c13 => ?_)
  · replace h := h.1 c13
    refine x_iload_n C dX11_common_46 2 rfl ?_
    exact x_iret C E h (Nat.le_of_ble_eq_true rfl) (Nat.le_of_ble_eq_true rfl) dX11_common_47
  · replace h := h.2 c13
    obtain ⟨v14, ev14⟩ : ∃ z : Int32, z = y2 + 1 := ⟨_, rfl⟩
    replace h := h v14 ev14
    refine x_iinc (v := v14) (lv' := [(2, .int v14), (0, .ref (ga G 11 0)), (1, .int x1)]) (j := 2) C dX11_common_40 rfl (by rw [ev14]; rfl) (Nat.le_of_ble_eq_true rfl) rfl ?_
    refine x_goto (tgt := 31) C dX11_common_43 (by decide) ?_
    refine X_sub (lv' := [(0, .ref (ga G 11 0)), (1, .int x1), (2, .int v14)]) [1, 2, 0] rfl ?_
    have w9 := hL31 (M12, v14) h
    dsimp only at w9
    exact w9
set_option maxRecDepth 100000 in
set_option maxHeartbeats 400000 in
theorem kX11_common {l : Launch} {G : Gm} (hG : Gd G) (M : Mem) (x1 : Int32) {Q : Int32 → Mem → Prop} (h : pX11_common M x1 Q) : Cti l G yX11_common cX11_common 3 .int rmX11_common [.ref (ga G 11 0), .int x1] M Q := by
  refine cti_of (own := RX11) (by decide +kernel) rfl (Nat.le_of_ble_eq_true rfl) hG (fun Γ Qf hl C E => ?_)
  subst hl
  show X Γ G Qf 3 0 0 0 [(0, .ref (ga G 11 0)), (1, .int x1)] [] M
  unfold pX11_common at h
  refine x_aload_n C dX11_common_0 0 rfl ?_
  refine x_iconst (v := 0) C dX11_common_1 rfl ?_
  refine pf_11_0 C q143 z11 dX11_common_2 ?_
  refine X_nameM (fun M1 eM1 => ?_)
  replace h := h M1 eM1
  refine x_aload_n C dX11_common_5 0 rfl ?_
  refine x_aload_n C dX11_common_6 0 rfl ?_
  refine x_iload_n C dX11_common_7 1 rfl ?_
  refine x_calli (rest := [.ref (ga G 11 0)]) C sv_X11_414 ob11 z11 (kX11_isWord hG _ _ h) rfl rfl (Nat.le_of_ble_eq_true rfl) ⟨Nat.le_of_ble_eq_true rfl, Nat.le_of_ble_eq_true rfl⟩ rfl rfl ⟨Nat.le_of_ble_eq_true rfl, Nat.le_of_ble_eq_true rfl⟩ dX11_common_8 (fun r2 M3 h => ?_)
  refine x_if_ne (tgt := 18) C dX11_common_11 (by decide) (fun c4 => ?_) (fun c4 => ?_)
  · replace h := h.1 c4
    refine x_iconst (v := 0) C dX11_common_18 rfl ?_
    refine x_iconst (v := 1) C dX11_common_19 rfl ?_
    refine x_iconst (v := 0) C dX11_common_20 rfl ?_
    refine x_calli (rest := []) C sv_X11_179 ob11 z11 (kX11_bad hG _ _ _ _ h) rfl rfl (Nat.le_of_ble_eq_true rfl) ⟨Nat.le_of_ble_eq_true rfl, Nat.le_of_ble_eq_true rfl⟩ rfl rfl ⟨Nat.le_of_ble_eq_true rfl, Nat.le_of_ble_eq_true rfl⟩ dX11_common_21 (fun r5 M6 h => ?_)
    refine x_if_eq (tgt := 29) C dX11_common_24 (by decide) (fun c7 => ?_) (fun c7 => ?_)
    · replace h := h.1 c7
      refine x_iconst (v := 0) C dX11_common_29 rfl ?_
      refine x_istore_n (lv' := [(2, .int 0), (0, .ref (ga G 11 0)), (1, .int x1)]) C dX11_common_30 rfl (Nat.le_of_ble_eq_true rfl) rfl ?_
      obtain ⟨n9, h⟩ := h
      refine X_sub (lv' := [(0, .ref (ga G 11 0)), (1, .int x1), (2, .int 0)]) [1, 2, 0] rfl ?_
      have hb : ∀ (L : Mem × Int32 → Prop) (s : Mem × Int32), (∀ t, L t → X Γ G Qf 3 0 0 31 [(0, .ref (ga G 11 0)), (1, .int x1), (2, .int t.2)] [] t.1) → bX11_common_31 x1 Q L s.1 s.2 → X Γ G Qf 3 0 0 31 [(0, .ref (ga G 11 0)), (1, .int x1), (2, .int s.2)] [] s.1 := fun L s hL h => wX11_common_31 hG C E hL s.1 s.2 h
      have w9 := lp_walk (P := fun s : Mem × Int32 => X Γ G Qf 3 0 0 31 [(0, .ref (ga G 11 0)), (1, .int x1), (2, .int s.2)] [] s.1) h hb
      dsimp only at w9
      exact w9
    · replace h := h.2 c7
      refine x_iconst (v := 0) C dX11_common_27 rfl ?_
      exact x_iret C E h (Nat.le_of_ble_eq_true rfl) (Nat.le_of_ble_eq_true rfl) dX11_common_28
  · replace h := h.2 c4
    refine x_iconst (v := 1) C dX11_common_14 rfl ?_
    refine x_goto (tgt := 19) C dX11_common_15 (by decide) ?_
    refine x_iconst (v := 1) C dX11_common_19 rfl ?_
    refine x_iconst (v := 0) C dX11_common_20 rfl ?_
    refine x_calli (rest := []) C sv_X11_179 ob11 z11 (kX11_bad hG _ _ _ _ h) rfl rfl (Nat.le_of_ble_eq_true rfl) ⟨Nat.le_of_ble_eq_true rfl, Nat.le_of_ble_eq_true rfl⟩ rfl rfl ⟨Nat.le_of_ble_eq_true rfl, Nat.le_of_ble_eq_true rfl⟩ dX11_common_21 (fun r8 M9 h => ?_)
    refine x_if_eq (tgt := 29) C dX11_common_24 (by decide) (fun c10 => ?_) (fun c10 => ?_)
    · replace h := h.1 c10
      refine x_iconst (v := 0) C dX11_common_29 rfl ?_
      refine x_istore_n (lv' := [(2, .int 0), (0, .ref (ga G 11 0)), (1, .int x1)]) C dX11_common_30 rfl (Nat.le_of_ble_eq_true rfl) rfl ?_
      obtain ⟨n9, h⟩ := h
      refine X_sub (lv' := [(0, .ref (ga G 11 0)), (1, .int x1), (2, .int 0)]) [1, 2, 0] rfl ?_
      have hb : ∀ (L : Mem × Int32 → Prop) (s : Mem × Int32), (∀ t, L t → X Γ G Qf 3 0 0 31 [(0, .ref (ga G 11 0)), (1, .int x1), (2, .int t.2)] [] t.1) → bX11_common_31 x1 Q L s.1 s.2 → X Γ G Qf 3 0 0 31 [(0, .ref (ga G 11 0)), (1, .int x1), (2, .int s.2)] [] s.1 := fun L s hL h => wX11_common_31 hG C E hL s.1 s.2 h
      have w9 := lp_walk (P := fun s : Mem × Int32 => X Γ G Qf 3 0 0 31 [(0, .ref (ga G 11 0)), (1, .int x1), (2, .int s.2)] [] s.1) h hb
      dsimp only at w9
      exact w9
    · replace h := h.2 c10
      refine x_iconst (v := 0) C dX11_common_27 rfl ?_
      exact x_iret C E h (Nat.le_of_ble_eq_true rfl) (Nat.le_of_ble_eq_true rfl) dX11_common_28
def rmX11_inBoth : Room := { frames := 0, cells := 0, slots := 0, locals := 0 }
def bX11_inBoth_46 (x1 : Int32) (x2 : Int32) (Q : Int32 → Mem → Prop) (L5 : Mem × Int32 × Int32 → Prop) (M : Mem) (y3 : Int32) (y4 : Int32) : Prop :=
  ∀ v10 : Int32, v10 = y4 + 1 → L5 (M, y3, v10)
def bX11_inBoth_5 (x1 : Int32) (x2 : Int32) (Q : Int32 → Mem → Prop) (L5 : Mem × Int32 × Int32 → Prop) (M : Mem) (y3 : Int32) (y4 : Int32) : Prop :=
  (((M.1 1210 0 0) ≤ y4 → Q y3 M) ∧ (¬ (M.1 1210 0 0) ≤ y4 → vp_in y4 256 ∧ vp_in x1 64 ∧ (((M.1 6217 (tn y4) (tn x1)) ≤ 0 → ∀ v5 : Int32, v5 = (y3 + 0) → bX11_inBoth_46 x1 x2 Q L5 M v5 y4) ∧ (¬ (M.1 6217 (tn y4) (tn x1)) ≤ 0 → vp_in x2 64 ∧ (((M.1 6217 (tn y4) (tn x2)) ≤ 0 → ∀ v8 : Int32, v8 = (y3 + 0) → bX11_inBoth_46 x1 x2 Q L5 M v8 y4) ∧ (¬ (M.1 6217 (tn y4) (tn x2)) ≤ 0 → ∀ v9 : Int32, v9 = (y3 + 1) → bX11_inBoth_46 x1 x2 Q L5 M v9 y4))))))
def pX11_inBoth (M : Mem) (x1 : Int32) (x2 : Int32) (Q : Int32 → Mem → Prop) : Prop :=
  ∃ n : Nat, lp (fun L s => bX11_inBoth_5 x1 x2 Q L s.1 s.2.1 s.2.2) n (M, 0, 0)
set_option maxRecDepth 100000 in
set_option maxHeartbeats 400000 in
theorem wX11_inBoth_46 {Γ : Gam} {G : Gm} {Qf : State → Prop} (hG : Gd G) (C : Cx Γ G cX11_inBoth 5 RX11 (some .int) rmX11_inBoth) {x1 : Int32} {x2 : Int32} {Q : Int32 → Mem → Prop} (E : EndI Γ G Qf rmX11_inBoth Q) {L5 : Mem × Int32 × Int32 → Prop} (hL5 : ∀ s, L5 s → X Γ G Qf 5 0 0 5 [(0, .ref (ga G 11 0)), (1, .int x1), (2, .int x2), (3, .int s.2.1), (4, .int s.2.2)] [] s.1) (M : Mem) (y3 : Int32) (y4 : Int32) (h : bX11_inBoth_46 x1 x2 Q L5 M y3 y4) : X Γ G Qf 5 0 0 46 [(0, .ref (ga G 11 0)), (1, .int x1), (2, .int x2), (3, .int y3), (4, .int y4)] [] M := by
  unfold bX11_inBoth_46 at h
  obtain ⟨v10, ev10⟩ : ∃ z : Int32, z = y4 + 1 := ⟨_, rfl⟩
  replace h := h v10 ev10
  refine x_iinc (v := v10) (lv' := [(4, .int v10), (0, .ref (ga G 11 0)), (1, .int x1), (2, .int x2), (3, .int y3)]) (j := 4) C dX11_inBoth_46 rfl (by rw [ev10]; rfl) (Nat.le_of_ble_eq_true rfl) rfl ?_
  refine x_goto (tgt := 5) C dX11_inBoth_49 (by decide) ?_
  refine X_sub (lv' := [(0, .ref (ga G 11 0)), (1, .int x1), (2, .int x2), (3, .int y3), (4, .int v10)]) [1, 2, 3, 4, 0] rfl ?_
  have w9 := hL5 (M, y3, v10) h
  dsimp only at w9
  exact w9
set_option maxRecDepth 100000 in
set_option maxHeartbeats 400000 in
theorem wX11_inBoth_5 {Γ : Gam} {G : Gm} {Qf : State → Prop} (hG : Gd G) (C : Cx Γ G cX11_inBoth 5 RX11 (some .int) rmX11_inBoth) {x1 : Int32} {x2 : Int32} {Q : Int32 → Mem → Prop} (E : EndI Γ G Qf rmX11_inBoth Q) {L5 : Mem × Int32 × Int32 → Prop} (hL5 : ∀ s, L5 s → X Γ G Qf 5 0 0 5 [(0, .ref (ga G 11 0)), (1, .int x1), (2, .int x2), (3, .int s.2.1), (4, .int s.2.2)] [] s.1) (M : Mem) (y3 : Int32) (y4 : Int32) (h : bX11_inBoth_5 x1 x2 Q L5 M y3 y4) : X Γ G Qf 5 0 0 5 [(0, .ref (ga G 11 0)), (1, .int x1), (2, .int x2), (3, .int y3), (4, .int y4)] [] M := by
  unfold bX11_inBoth_5 at h
  refine x_iload C dX11_inBoth_5 4 rfl ?_
  refine x_aload_n C dX11_inBoth_7 0 rfl ?_
  refine gf_11_10 C q155 z11 dX11_inBoth_8 ?_
  refine x_icmp_ge (tgt := 52) C dX11_inBoth_11 (by decide) (fun c1 => ?_) (fun c1 => ?_)
  · replace h := h.1 c1
    refine x_iload_n C dX11_inBoth_52 3 rfl ?_
    exact x_iret C E h (Nat.le_of_ble_eq_true rfl) (Nat.le_of_ble_eq_true rfl) dX11_inBoth_53
  · replace h := h.2 c1
    refine x_iload_n C dX11_inBoth_14 3 rfl ?_
    refine x_aload_n C dX11_inBoth_15 0 rfl ?_
    refine gf_11_17 C q163 z11 dX11_inBoth_16 ?_
    refine x_iload C dX11_inBoth_19 4 rfl ?_
    obtain ⟨f2, h⟩ := h
    refine al_1217 C z1217 f2 dX11_inBoth_21 ?_
    refine x_iload_n C dX11_inBoth_22 1 rfl ?_
    obtain ⟨f3, h⟩ := h
    refine al_6217 C (vp_lt f2) f3 dX11_inBoth_23 ?_
    refine x_if_le (tgt := 43) C dX11_inBoth_24 (by decide) (fun c4 => ?_) (fun c4 => ?_)
    · replace h := h.1 c4
      refine x_iconst (v := 0) C dX11_inBoth_43 rfl ?_
      refine x_iadd C dX11_inBoth_44 ?_
      refine X_name (fun v5 ev5 => ?_)
      replace h := h v5 ev5
      refine x_istore_n (lv' := [(3, .int v5), (0, .ref (ga G 11 0)), (1, .int x1), (2, .int x2), (4, .int y4)]) C dX11_inBoth_45 rfl (Nat.le_of_ble_eq_true rfl) rfl ?_
      refine X_sub (lv' := [(0, .ref (ga G 11 0)), (1, .int x1), (2, .int x2), (3, .int v5), (4, .int y4)]) [1, 2, 3, 0, 4] rfl ?_
      exact wX11_inBoth_46 hG C E hL5 M v5 y4 h
    · replace h := h.2 c4
      refine x_aload_n C dX11_inBoth_27 0 rfl ?_
      refine gf_11_17 C q163 z11 dX11_inBoth_28 ?_
      refine x_iload C dX11_inBoth_31 4 rfl ?_
      refine al_1217 C z1217 f2 dX11_inBoth_33 ?_
      refine x_iload_n C dX11_inBoth_34 2 rfl ?_
      obtain ⟨f6, h⟩ := h
      refine al_6217 C (vp_lt f2) f6 dX11_inBoth_35 ?_
      refine x_if_le (tgt := 43) C dX11_inBoth_36 (by decide) (fun c7 => ?_) (fun c7 => ?_)
      · replace h := h.1 c7
        refine x_iconst (v := 0) C dX11_inBoth_43 rfl ?_
        refine x_iadd C dX11_inBoth_44 ?_
        refine X_name (fun v8 ev8 => ?_)
        replace h := h v8 ev8
        refine x_istore_n (lv' := [(3, .int v8), (0, .ref (ga G 11 0)), (1, .int x1), (2, .int x2), (4, .int y4)]) C dX11_inBoth_45 rfl (Nat.le_of_ble_eq_true rfl) rfl ?_
        refine X_sub (lv' := [(0, .ref (ga G 11 0)), (1, .int x1), (2, .int x2), (3, .int v8), (4, .int y4)]) [1, 2, 3, 0, 4] rfl ?_
        exact wX11_inBoth_46 hG C E hL5 M v8 y4 h
      · replace h := h.2 c7
        refine x_iconst (v := 1) C dX11_inBoth_39 rfl ?_
        refine x_goto (tgt := 44) C dX11_inBoth_40 (by decide) ?_
        refine x_iadd C dX11_inBoth_44 ?_
        refine X_name (fun v9 ev9 => ?_)
        replace h := h v9 ev9
        refine x_istore_n (lv' := [(3, .int v9), (0, .ref (ga G 11 0)), (1, .int x1), (2, .int x2), (4, .int y4)]) C dX11_inBoth_45 rfl (Nat.le_of_ble_eq_true rfl) rfl ?_
        refine X_sub (lv' := [(0, .ref (ga G 11 0)), (1, .int x1), (2, .int x2), (3, .int v9), (4, .int y4)]) [1, 2, 3, 0, 4] rfl ?_
        exact wX11_inBoth_46 hG C E hL5 M v9 y4 h
set_option maxRecDepth 100000 in
set_option maxHeartbeats 400000 in
theorem kX11_inBoth {l : Launch} {G : Gm} (hG : Gd G) (M : Mem) (x1 : Int32) (x2 : Int32) {Q : Int32 → Mem → Prop} (h : pX11_inBoth M x1 x2 Q) : Cti l G yX11_inBoth cX11_inBoth 5 .int rmX11_inBoth [.ref (ga G 11 0), .int x1, .int x2] M Q := by
  refine cti_of (own := RX11) (by decide +kernel) rfl (Nat.le_of_ble_eq_true rfl) hG (fun Γ Qf hl C E => ?_)
  subst hl
  show X Γ G Qf 5 0 0 0 [(0, .ref (ga G 11 0)), (1, .int x1), (2, .int x2)] [] M
  unfold pX11_inBoth at h
  refine x_iconst (v := 0) C dX11_inBoth_0 rfl ?_
  refine x_istore_n (lv' := [(3, .int 0), (0, .ref (ga G 11 0)), (1, .int x1), (2, .int x2)]) C dX11_inBoth_1 rfl (Nat.le_of_ble_eq_true rfl) rfl ?_
  refine x_iconst (v := 0) C dX11_inBoth_2 rfl ?_
  refine x_istore (lv' := [(4, .int 0), (3, .int 0), (0, .ref (ga G 11 0)), (1, .int x1), (2, .int x2)]) C dX11_inBoth_3 (Nat.le_of_ble_eq_true rfl) rfl ?_
  obtain ⟨n9, h⟩ := h
  refine X_sub (lv' := [(0, .ref (ga G 11 0)), (1, .int x1), (2, .int x2), (3, .int 0), (4, .int 0)]) [2, 3, 4, 1, 0] rfl ?_
  have hb : ∀ (L : Mem × Int32 × Int32 → Prop) (s : Mem × Int32 × Int32), (∀ t, L t → X Γ G Qf 5 0 0 5 [(0, .ref (ga G 11 0)), (1, .int x1), (2, .int x2), (3, .int t.2.1), (4, .int t.2.2)] [] t.1) → bX11_inBoth_5 x1 x2 Q L s.1 s.2.1 s.2.2 → X Γ G Qf 5 0 0 5 [(0, .ref (ga G 11 0)), (1, .int x1), (2, .int x2), (3, .int s.2.1), (4, .int s.2.2)] [] s.1 := fun L s hL h => wX11_inBoth_5 hG C E hL s.1 s.2.1 s.2.2 h
  have w9 := lp_walk (P := fun s : Mem × Int32 × Int32 => X Γ G Qf 5 0 0 5 [(0, .ref (ga G 11 0)), (1, .int x1), (2, .int x2), (3, .int s.2.1), (4, .int s.2.2)] [] s.1) h hb
  dsimp only at w9
  exact w9
def rmX11_alike : Room := { frames := 2, cells := 0, slots := 0, locals := 43 }
def pX11_alike (M : Mem) (x1 : Int32) (x2 : Int32) (Q : Int32 → Mem → Prop) : Prop :=
  ∀ M1 : Mem, M1 = up1 M 1200 0 0 0 → pX11_isDocument M1 x1 (fun r2 M3 => ((r2 = 0 → pX11_bad M3 1 1 0 (fun r5 M6 => ((r5 = 0 → pX11_inBoth M6 x1 x2 (fun r8 M9 => Q r8 M9)) ∧ (¬ r5 = 0 → Q 0 M6)))) ∧ (¬ r2 = 0 → pX11_isDocument M3 x2 (fun r10 M11 => ((¬ r10 = 0 → pX11_bad M11 0 1 0 (fun r13 M14 => ((r13 = 0 → pX11_inBoth M14 x1 x2 (fun r16 M17 => Q r16 M17)) ∧ (¬ r13 = 0 → Q 0 M14)))) ∧ (r10 = 0 → pX11_bad M11 1 1 0 (fun r18 M19 => ((r18 = 0 → pX11_inBoth M19 x1 x2 (fun r21 M22 => Q r21 M22)) ∧ (¬ r18 = 0 → Q 0 M19)))))))))
set_option maxRecDepth 100000 in
set_option maxHeartbeats 400000 in
theorem kX11_alike {l : Launch} {G : Gm} (hG : Gd G) (M : Mem) (x1 : Int32) (x2 : Int32) {Q : Int32 → Mem → Prop} (h : pX11_alike M x1 x2 Q) : Cti l G yX11_alike cX11_alike 3 .int rmX11_alike [.ref (ga G 11 0), .int x1, .int x2] M Q := by
  refine cti_of (own := RX11) (by decide +kernel) rfl (Nat.le_of_ble_eq_true rfl) hG (fun Γ Qf hl C E => ?_)
  subst hl
  show X Γ G Qf 3 0 0 0 [(0, .ref (ga G 11 0)), (1, .int x1), (2, .int x2)] [] M
  unfold pX11_alike at h
  refine x_aload_n C dX11_alike_0 0 rfl ?_
  refine x_iconst (v := 0) C dX11_alike_1 rfl ?_
  refine pf_11_0 C q143 z11 dX11_alike_2 ?_
  refine X_nameM (fun M1 eM1 => ?_)
  replace h := h M1 eM1
  refine x_aload_n C dX11_alike_5 0 rfl ?_
  refine x_aload_n C dX11_alike_6 0 rfl ?_
  refine x_iload_n C dX11_alike_7 1 rfl ?_
  refine x_calli (rest := [.ref (ga G 11 0)]) C sv_X11_402 ob11 z11 (kX11_isDocument hG _ _ h) rfl rfl (Nat.le_of_ble_eq_true rfl) ⟨Nat.le_of_ble_eq_true rfl, Nat.le_of_ble_eq_true rfl⟩ rfl rfl ⟨Nat.le_of_ble_eq_true rfl, Nat.le_of_ble_eq_true rfl⟩ dX11_alike_8 (fun r2 M3 h => ?_)
  refine x_if_eq (tgt := 22) C dX11_alike_11 (by decide) (fun c4 => ?_) (fun c4 => ?_)
  · replace h := h.1 c4
    refine x_iconst (v := 1) C dX11_alike_22 rfl ?_
    refine x_goto (tgt := 27) C dX11_alike_23 (by decide) ?_
    refine x_iconst (v := 1) C dX11_alike_27 rfl ?_
    refine x_iconst (v := 0) C dX11_alike_28 rfl ?_
    refine x_calli (rest := []) C sv_X11_179 ob11 z11 (kX11_bad hG _ _ _ _ h) rfl rfl (Nat.le_of_ble_eq_true rfl) ⟨Nat.le_of_ble_eq_true rfl, Nat.le_of_ble_eq_true rfl⟩ rfl rfl ⟨Nat.le_of_ble_eq_true rfl, Nat.le_of_ble_eq_true rfl⟩ dX11_alike_29 (fun r5 M6 h => ?_)
    refine x_if_eq (tgt := 37) C dX11_alike_32 (by decide) (fun c7 => ?_) (fun c7 => ?_)
    · replace h := h.1 c7
      refine x_aload_n C dX11_alike_37 0 rfl ?_
      refine x_iload_n C dX11_alike_38 1 rfl ?_
      refine x_iload_n C dX11_alike_39 2 rfl ?_
      refine x_calli (rest := []) C sv_X11_433 ob11 z11 (kX11_inBoth hG _ _ _ h) rfl rfl (Nat.le_of_ble_eq_true rfl) ⟨Nat.le_of_ble_eq_true rfl, Nat.le_of_ble_eq_true rfl⟩ rfl rfl ⟨Nat.le_of_ble_eq_true rfl, Nat.le_of_ble_eq_true rfl⟩ dX11_alike_40 (fun r8 M9 h => ?_)
      exact x_iret C E h (Nat.le_of_ble_eq_true rfl) (Nat.le_of_ble_eq_true rfl) dX11_alike_43
    · replace h := h.2 c7
      refine x_iconst (v := 0) C dX11_alike_35 rfl ?_
      exact x_iret C E h (Nat.le_of_ble_eq_true rfl) (Nat.le_of_ble_eq_true rfl) dX11_alike_36
  · replace h := h.2 c4
    refine x_aload_n C dX11_alike_14 0 rfl ?_
    refine x_iload_n C dX11_alike_15 2 rfl ?_
    refine x_calli (rest := [.ref (ga G 11 0)]) C sv_X11_402 ob11 z11 (kX11_isDocument hG _ _ h) rfl rfl (Nat.le_of_ble_eq_true rfl) ⟨Nat.le_of_ble_eq_true rfl, Nat.le_of_ble_eq_true rfl⟩ rfl rfl ⟨Nat.le_of_ble_eq_true rfl, Nat.le_of_ble_eq_true rfl⟩ dX11_alike_16 (fun r10 M11 h => ?_)
    refine x_if_ne (tgt := 26) C dX11_alike_19 (by decide) (fun c12 => ?_) (fun c12 => ?_)
    · replace h := h.1 c12
      refine x_iconst (v := 0) C dX11_alike_26 rfl ?_
      refine x_iconst (v := 1) C dX11_alike_27 rfl ?_
      refine x_iconst (v := 0) C dX11_alike_28 rfl ?_
      refine x_calli (rest := []) C sv_X11_179 ob11 z11 (kX11_bad hG _ _ _ _ h) rfl rfl (Nat.le_of_ble_eq_true rfl) ⟨Nat.le_of_ble_eq_true rfl, Nat.le_of_ble_eq_true rfl⟩ rfl rfl ⟨Nat.le_of_ble_eq_true rfl, Nat.le_of_ble_eq_true rfl⟩ dX11_alike_29 (fun r13 M14 h => ?_)
      refine x_if_eq (tgt := 37) C dX11_alike_32 (by decide) (fun c15 => ?_) (fun c15 => ?_)
      · replace h := h.1 c15
        refine x_aload_n C dX11_alike_37 0 rfl ?_
        refine x_iload_n C dX11_alike_38 1 rfl ?_
        refine x_iload_n C dX11_alike_39 2 rfl ?_
        refine x_calli (rest := []) C sv_X11_433 ob11 z11 (kX11_inBoth hG _ _ _ h) rfl rfl (Nat.le_of_ble_eq_true rfl) ⟨Nat.le_of_ble_eq_true rfl, Nat.le_of_ble_eq_true rfl⟩ rfl rfl ⟨Nat.le_of_ble_eq_true rfl, Nat.le_of_ble_eq_true rfl⟩ dX11_alike_40 (fun r16 M17 h => ?_)
        exact x_iret C E h (Nat.le_of_ble_eq_true rfl) (Nat.le_of_ble_eq_true rfl) dX11_alike_43
      · replace h := h.2 c15
        refine x_iconst (v := 0) C dX11_alike_35 rfl ?_
        exact x_iret C E h (Nat.le_of_ble_eq_true rfl) (Nat.le_of_ble_eq_true rfl) dX11_alike_36
    · replace h := h.2 c12
      refine x_iconst (v := 1) C dX11_alike_22 rfl ?_
      refine x_goto (tgt := 27) C dX11_alike_23 (by decide) ?_
      refine x_iconst (v := 1) C dX11_alike_27 rfl ?_
      refine x_iconst (v := 0) C dX11_alike_28 rfl ?_
      refine x_calli (rest := []) C sv_X11_179 ob11 z11 (kX11_bad hG _ _ _ _ h) rfl rfl (Nat.le_of_ble_eq_true rfl) ⟨Nat.le_of_ble_eq_true rfl, Nat.le_of_ble_eq_true rfl⟩ rfl rfl ⟨Nat.le_of_ble_eq_true rfl, Nat.le_of_ble_eq_true rfl⟩ dX11_alike_29 (fun r18 M19 h => ?_)
      refine x_if_eq (tgt := 37) C dX11_alike_32 (by decide) (fun c20 => ?_) (fun c20 => ?_)
      · replace h := h.1 c20
        refine x_aload_n C dX11_alike_37 0 rfl ?_
        refine x_iload_n C dX11_alike_38 1 rfl ?_
        refine x_iload_n C dX11_alike_39 2 rfl ?_
        refine x_calli (rest := []) C sv_X11_433 ob11 z11 (kX11_inBoth hG _ _ _ h) rfl rfl (Nat.le_of_ble_eq_true rfl) ⟨Nat.le_of_ble_eq_true rfl, Nat.le_of_ble_eq_true rfl⟩ rfl rfl ⟨Nat.le_of_ble_eq_true rfl, Nat.le_of_ble_eq_true rfl⟩ dX11_alike_40 (fun r21 M22 h => ?_)
        exact x_iret C E h (Nat.le_of_ble_eq_true rfl) (Nat.le_of_ble_eq_true rfl) dX11_alike_43
      · replace h := h.2 c20
        refine x_iconst (v := 0) C dX11_alike_35 rfl ?_
        exact x_iret C E h (Nat.le_of_ble_eq_true rfl) (Nat.le_of_ble_eq_true rfl) dX11_alike_36
def rmX11_isMust : Room := { frames := 0, cells := 0, slots := 0, locals := 0 }
def bX11_isMust_2 (x1 : Int32) (Q : Int32 → Mem → Prop) (L2 : Mem × Int32 → Prop) (M : Mem) (y2 : Int32) : Prop :=
  (((M.1 1219 0 0) ≤ y2 → Q 0 M) ∧ (¬ (M.1 1219 0 0) ≤ y2 → vp_in y2 24 ∧ ((¬ (M.1 1227 0 (tn y2)) = x1 → ∀ v4 : Int32, v4 = y2 + 1 → L2 (M, v4)) ∧ ((M.1 1227 0 (tn y2)) = x1 → Q 1 M))))
def pX11_isMust (M : Mem) (x1 : Int32) (Q : Int32 → Mem → Prop) : Prop :=
  ∃ n : Nat, lp (fun L s => bX11_isMust_2 x1 Q L s.1 s.2) n (M, 0)
set_option maxRecDepth 100000 in
set_option maxHeartbeats 400000 in
theorem wX11_isMust_2 {Γ : Gam} {G : Gm} {Qf : State → Prop} (hG : Gd G) (C : Cx Γ G cX11_isMust 3 RX11 (some .boolean) rmX11_isMust) {x1 : Int32} {Q : Int32 → Mem → Prop} (E : EndI Γ G Qf rmX11_isMust Q) {L2 : Mem × Int32 → Prop} (hL2 : ∀ s, L2 s → X Γ G Qf 3 0 0 2 [(0, .ref (ga G 11 0)), (1, .int x1), (2, .int s.2)] [] s.1) (M : Mem) (y2 : Int32) (h : bX11_isMust_2 x1 Q L2 M y2) : X Γ G Qf 3 0 0 2 [(0, .ref (ga G 11 0)), (1, .int x1), (2, .int y2)] [] M := by
  unfold bX11_isMust_2 at h
  refine x_iload_n C dX11_isMust_2 2 rfl ?_
  refine x_aload_n C dX11_isMust_3 0 rfl ?_
  refine gf_11_19 C q171 z11 dX11_isMust_4 ?_
  refine x_icmp_ge (tgt := 28) C dX11_isMust_7 (by decide) (fun c1 => ?_) (fun c1 => ?_)
  · replace h := h.1 c1
    refine x_iconst (v := 0) C dX11_isMust_28 rfl ?_
    exact x_zret C E h rfl (Nat.le_of_ble_eq_true rfl) (Nat.le_of_ble_eq_true rfl) dX11_isMust_29
  · replace h := h.2 c1
    refine x_aload_n C dX11_isMust_10 0 rfl ?_
    refine gf_11_27 C q178 z11 dX11_isMust_11 ?_
    refine x_iload_n C dX11_isMust_14 2 rfl ?_
    obtain ⟨f2, h⟩ := h
    refine al_1227 C z1227 f2 dX11_isMust_15 ?_
    refine x_iload_n C dX11_isMust_16 1 rfl ?_
    refine x_icmp_ne (tgt := 22) C dX11_isMust_17 (by decide) (fun c3 => ?_) (fun c3 => ?_)
    · replace h := h.1 c3
      obtain ⟨v4, ev4⟩ : ∃ z : Int32, z = y2 + 1 := ⟨_, rfl⟩
      replace h := h v4 ev4
      refine x_iinc (v := v4) (lv' := [(2, .int v4), (0, .ref (ga G 11 0)), (1, .int x1)]) (j := 2) C dX11_isMust_22 rfl (by rw [ev4]; rfl) (Nat.le_of_ble_eq_true rfl) rfl ?_
      refine x_goto (tgt := 2) C dX11_isMust_25 (by decide) ?_
      refine X_sub (lv' := [(0, .ref (ga G 11 0)), (1, .int x1), (2, .int v4)]) [1, 2, 0] rfl ?_
      have w9 := hL2 (M, v4) h
      dsimp only at w9
      exact w9
    · replace h := h.2 c3
      refine x_iconst (v := 1) C dX11_isMust_20 rfl ?_
      exact x_zret C E h rfl (Nat.le_of_ble_eq_true rfl) (Nat.le_of_ble_eq_true rfl) dX11_isMust_21
set_option maxRecDepth 100000 in
set_option maxHeartbeats 400000 in
theorem kX11_isMust {l : Launch} {G : Gm} (hG : Gd G) (M : Mem) (x1 : Int32) {Q : Int32 → Mem → Prop} (h : pX11_isMust M x1 Q) : Cti l G yX11_isMust cX11_isMust 3 .boolean rmX11_isMust [.ref (ga G 11 0), .int x1] M Q := by
  refine cti_of (own := RX11) (by decide +kernel) rfl (Nat.le_of_ble_eq_true rfl) hG (fun Γ Qf hl C E => ?_)
  subst hl
  show X Γ G Qf 3 0 0 0 [(0, .ref (ga G 11 0)), (1, .int x1)] [] M
  unfold pX11_isMust at h
  refine x_iconst (v := 0) C dX11_isMust_0 rfl ?_
  refine x_istore_n (lv' := [(2, .int 0), (0, .ref (ga G 11 0)), (1, .int x1)]) C dX11_isMust_1 rfl (Nat.le_of_ble_eq_true rfl) rfl ?_
  obtain ⟨n9, h⟩ := h
  refine X_sub (lv' := [(0, .ref (ga G 11 0)), (1, .int x1), (2, .int 0)]) [1, 2, 0] rfl ?_
  have hb : ∀ (L : Mem × Int32 → Prop) (s : Mem × Int32), (∀ t, L t → X Γ G Qf 3 0 0 2 [(0, .ref (ga G 11 0)), (1, .int x1), (2, .int t.2)] [] t.1) → bX11_isMust_2 x1 Q L s.1 s.2 → X Γ G Qf 3 0 0 2 [(0, .ref (ga G 11 0)), (1, .int x1), (2, .int s.2)] [] s.1 := fun L s hL h => wX11_isMust_2 hG C E hL s.1 s.2 h
  have w9 := lp_walk (P := fun s : Mem × Int32 => X Γ G Qf 3 0 0 2 [(0, .ref (ga G 11 0)), (1, .int x1), (2, .int s.2)] [] s.1) h hb
  dsimp only at w9
  exact w9
