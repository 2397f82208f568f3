def rmX2_lineUp : Room := { frames := 0, cells := 0, slots := 0, locals := 0 }
def bX2_lineUp_107 (Q : Mem → Prop) (L7 : Mem × Int32 → Prop) (M : Mem) (y1 : Int32) : Prop :=
  ∀ v17 : Int32, v17 = y1 + 1 → L7 (M, v17)
def bX2_lineUp_90 (Q : Mem → Prop) (L7 : Mem × Int32 → Prop) (M : Mem) (y1 : Int32) (y2 : Int32) : Prop :=
  vp_in y2 24 ∧ ∀ M15 : Mem, M15 = up1 M 303 0 (tn y2) y1 → ∀ M16 : Mem, M16 = up1 M15 304 0 0 ((M15.1 304 0 0) + 1) → bX2_lineUp_107 Q L7 M16 y1
def bX2_lineUp_38 (Q : Mem → Prop) (L7 : Mem × Int32 → Prop) (L38 : Mem × Int32 × Int32 → Prop) (M : Mem) (y1 : Int32) (y2 : Int32) : Prop :=
  ((y2 ≤ 0 → bX2_lineUp_90 Q L7 M y1 y2) ∧ (¬ y2 ≤ 0 → vp_in (y2 - 1) 24 ∧ vp_in (M.1 303 0 (tn (y2 - 1))) 24 ∧ vp_in y1 24 ∧ (((M.1 112 (tn (M.1 303 0 (tn (y2 - 1)))) 0) ≤ (M.1 112 (tn y1) 0) → bX2_lineUp_90 Q L7 M y1 y2) ∧ (¬ (M.1 112 (tn (M.1 303 0 (tn (y2 - 1)))) 0) ≤ (M.1 112 (tn y1) 0) → vp_in y2 24 ∧ ∀ M12 : Mem, M12 = up1 M 303 0 (tn y2) (M.1 303 0 (tn (y2 - 1))) → ∀ v13 : Int32, v13 = y2 + (-1) → L38 (M12, y1, v13)))))
def bX2_lineUp_7 (Q : Mem → Prop) (L7 : Mem × Int32 → Prop) (M : Mem) (y1 : Int32) : Prop :=
  (((M.1 701 0 0) ≤ y1 → Q M) ∧ (¬ (M.1 701 0 0) ≤ y1 → vp_in y1 24 ∧ (((M.1 113 (tn y1) 0) = 0 → ∀ v5 : Int32, v5 = (M.1 304 0 0) → ∃ n : Nat, lp (fun L s => bX2_lineUp_38 Q L7 L s.1 s.2.1 s.2.2) n (M, y1, v5)) ∧ (¬ (M.1 113 (tn y1) 0) = 0 → bX2_lineUp_107 Q L7 M y1))))
def pX2_lineUp (M : Mem) (Q : Mem → Prop) : Prop :=
  ∀ M1 : Mem, M1 = up1 M 304 0 0 0 → ∃ n : Nat, lp (fun L s => bX2_lineUp_7 Q L s.1 s.2) n (M1, 0)
set_option maxRecDepth 100000 in
set_option maxHeartbeats 400000 in
theorem wX2_lineUp_107 {Γ : Gam} {G : Gm} {Qf : State → Prop} (hG : Gd G) (C : Cx Γ G cX2_lineUp 3 RX2 none rmX2_lineUp)  {Q : Mem → Prop} (E : EndV Γ G Qf rmX2_lineUp Q) {L7 : Mem × Int32 → Prop} (hL7 : ∀ s, L7 s → X Γ G Qf 3 0 0 7 [(0, .ref (ga G 2 0)), (1, .int s.2)] [] s.1) (M : Mem) (y1 : Int32) (h : bX2_lineUp_107 Q L7 M y1) : X Γ G Qf 3 0 0 107 [(0, .ref (ga G 2 0)), (1, .int y1)] [] M := by
  unfold bX2_lineUp_107 at h
  obtain ⟨v17, ev17⟩ : ∃ z : Int32, z = y1 + 1 := ⟨_, rfl⟩
  replace h := h v17 ev17
  refine x_iinc (v := v17) (lv' := [(1, .int v17), (0, .ref (ga G 2 0))]) (j := 1) C dX2_lineUp_107 rfl (by rw [ev17]; rfl) (Nat.le_of_ble_eq_true rfl) rfl ?_
  refine x_goto (tgt := 7) C dX2_lineUp_110 (by decide) ?_
  refine X_sub (lv' := [(0, .ref (ga G 2 0)), (1, .int v17)]) [1, 0] rfl ?_
  have w9 := hL7 (M, v17) h
  dsimp only at w9
  exact w9
set_option maxRecDepth 100000 in
set_option maxHeartbeats 400000 in
theorem wX2_lineUp_90 {Γ : Gam} {G : Gm} {Qf : State → Prop} (hG : Gd G) (C : Cx Γ G cX2_lineUp 3 RX2 none rmX2_lineUp)  {Q : Mem → Prop} (E : EndV Γ G Qf rmX2_lineUp Q) {L7 : Mem × Int32 → Prop} (hL7 : ∀ s, L7 s → X Γ G Qf 3 0 0 7 [(0, .ref (ga G 2 0)), (1, .int s.2)] [] s.1) (M : Mem) (y1 : Int32) (y2 : Int32) (h : bX2_lineUp_90 Q L7 M y1 y2) : X Γ G Qf 3 0 0 90 [(0, .ref (ga G 2 0)), (1, .int y1), (2, .int y2)] [] M := by
  unfold bX2_lineUp_90 at h
  refine x_aload_n C dX2_lineUp_90 0 rfl ?_
  refine gf_2_3 C q52 z2 dX2_lineUp_91 ?_
  refine x_iload_n C dX2_lineUp_94 2 rfl ?_
  refine x_iload_n C dX2_lineUp_95 1 rfl ?_
  obtain ⟨f14, h⟩ := h
  refine as_303 C z303 f14 dX2_lineUp_96 ?_
  refine X_nameM (fun M15 eM15 => ?_)
  replace h := h M15 eM15
  refine x_aload_n C dX2_lineUp_97 0 rfl ?_
  refine x_dup C dX2_lineUp_98 rfl ?_
  refine gf_2_4 C q47 z2 dX2_lineUp_99 ?_
  refine x_iconst (v := 1) C dX2_lineUp_102 rfl ?_
  refine x_iadd C dX2_lineUp_103 ?_
  refine pf_2_4 C q47 z2 dX2_lineUp_104 ?_
  refine X_nameM (fun M16 eM16 => ?_)
  replace h := h M16 eM16
  refine X_sub (lv' := [(0, .ref (ga G 2 0)), (1, .int y1)]) [0, 1] rfl ?_
  exact wX2_lineUp_107 hG C E hL7 M16 y1 h
set_option maxRecDepth 100000 in
set_option maxHeartbeats 400000 in
theorem wX2_lineUp_38 {Γ : Gam} {G : Gm} {Qf : State → Prop} (hG : Gd G) (C : Cx Γ G cX2_lineUp 3 RX2 none rmX2_lineUp)  {Q : Mem → Prop} (E : EndV Γ G Qf rmX2_lineUp Q) {L7 : Mem × Int32 → Prop} (hL7 : ∀ s, L7 s → X Γ G Qf 3 0 0 7 [(0, .ref (ga G 2 0)), (1, .int s.2)] [] s.1) {L38 : Mem × Int32 × Int32 → Prop} (hL38 : ∀ s, L38 s → X Γ G Qf 3 0 0 38 [(0, .ref (ga G 2 0)), (1, .int s.2.1), (2, .int s.2.2)] [] s.1) (M : Mem) (y1 : Int32) (y2 : Int32) (h : bX2_lineUp_38 Q L7 L38 M y1 y2) : X Γ G Qf 3 0 0 38 [(0, .ref (ga G 2 0)), (1, .int y1), (2, .int y2)] [] M := by
  unfold bX2_lineUp_38 at h
  refine x_iload_n C dX2_lineUp_38 2 rfl ?_
  refine x_if_le (tgt := 90) C dX2_lineUp_39 (by decide) (fun c6 => ?_) (fun c6 => ?_)
  · replace h := h.1 c6
    refine X_sub (lv' := [(0, .ref (ga G 2 0)), (1, .int y1), (2, .int y2)]) [0, 1, 2] rfl ?_
    exact wX2_lineUp_90 hG C E hL7 M y1 y2 h
  · replace h := h.2 c6
    refine x_aload_n C dX2_lineUp_42 0 rfl ?_
    refine gf_2_2 C q50 z2 dX2_lineUp_43 ?_
    refine x_aload_n C dX2_lineUp_46 0 rfl ?_
    refine gf_2_3 C q52 z2 dX2_lineUp_47 ?_
    refine x_iload_n C dX2_lineUp_50 2 rfl ?_
    refine x_iconst (v := 1) C dX2_lineUp_51 rfl ?_
    refine x_isub C dX2_lineUp_52 ?_
    obtain ⟨f7, h⟩ := h
    refine al_303 C z303 f7 dX2_lineUp_53 ?_
    obtain ⟨f8, h⟩ := h
    refine al_302 C z302 f8 dX2_lineUp_54 ?_
    refine gf_0_12 C q53 (vp_lt f8) dX2_lineUp_55 ?_
    refine x_aload_n C dX2_lineUp_58 0 rfl ?_
    refine gf_2_2 C q50 z2 dX2_lineUp_59 ?_
    refine x_iload_n C dX2_lineUp_62 1 rfl ?_
    obtain ⟨f9, h⟩ := h
    refine al_302 C z302 f9 dX2_lineUp_63 ?_
    refine gf_0_12 C q53 (vp_lt f9) dX2_lineUp_64 ?_
    refine x_icmp_le (tgt := 90) C dX2_lineUp_67 (by decide) (fun c10 => ?_) (fun c10 => ?_)
    · replace h := h.1 c10
      refine X_sub (lv' := [(0, .ref (ga G 2 0)), (1, .int y1), (2, .int y2)]) [0, 1, 2] rfl ?_
      exact wX2_lineUp_90 hG C E hL7 M y1 y2 h
    · replace h := h.2 c10
      refine x_aload_n C dX2_lineUp_70 0 rfl ?_
      refine gf_2_3 C q52 z2 dX2_lineUp_71 ?_
      refine x_iload_n C dX2_lineUp_74 2 rfl ?_
      refine x_aload_n C dX2_lineUp_75 0 rfl ?_
      refine gf_2_3 C q52 z2 dX2_lineUp_76 ?_
      refine x_iload_n C dX2_lineUp_79 2 rfl ?_
      refine x_iconst (v := 1) C dX2_lineUp_80 rfl ?_
      refine x_isub C dX2_lineUp_81 ?_
      refine al_303 C z303 f7 dX2_lineUp_82 ?_
      obtain ⟨f11, h⟩ := h
      refine as_303 C z303 f11 dX2_lineUp_83 ?_
      refine X_nameM (fun M12 eM12 => ?_)
      replace h := h M12 eM12
      obtain ⟨v13, ev13⟩ : ∃ z : Int32, z = y2 + (-1) := ⟨_, rfl⟩
      replace h := h v13 ev13
      refine x_iinc (v := v13) (lv' := [(2, .int v13), (0, .ref (ga G 2 0)), (1, .int y1)]) (j := 2) C dX2_lineUp_84 rfl (by rw [ev13]; rfl) (Nat.le_of_ble_eq_true rfl) rfl ?_
      refine x_goto (tgt := 38) C dX2_lineUp_87 (by decide) ?_
      refine X_sub (lv' := [(0, .ref (ga G 2 0)), (1, .int y1), (2, .int v13)]) [1, 2, 0] rfl ?_
      have w9 := hL38 (M12, y1, v13) h
      dsimp only at w9
      exact w9
set_option maxRecDepth 100000 in
set_option maxHeartbeats 400000 in
theorem wX2_lineUp_7 {Γ : Gam} {G : Gm} {Qf : State → Prop} (hG : Gd G) (C : Cx Γ G cX2_lineUp 3 RX2 none rmX2_lineUp)  {Q : Mem → Prop} (E : EndV Γ G Qf rmX2_lineUp Q) {L7 : Mem × Int32 → Prop} (hL7 : ∀ s, L7 s → X Γ G Qf 3 0 0 7 [(0, .ref (ga G 2 0)), (1, .int s.2)] [] s.1) (M : Mem) (y1 : Int32) (h : bX2_lineUp_7 Q L7 M y1) : X Γ G Qf 3 0 0 7 [(0, .ref (ga G 2 0)), (1, .int y1)] [] M := by
  unfold bX2_lineUp_7 at h
  refine x_iload_n C dX2_lineUp_7 1 rfl ?_
  refine x_aload_n C dX2_lineUp_8 0 rfl ?_
  refine gf_2_0 C q48 z2 dX2_lineUp_9 ?_
  refine gf_6_1 C q49 z6 dX2_lineUp_12 ?_
  refine x_icmp_ge (tgt := 113) C dX2_lineUp_15 (by decide) (fun c2 => ?_) (fun c2 => ?_)
  · replace h := h.1 c2
    exact x_vret C E h (Nat.le_of_ble_eq_true rfl) (Nat.le_of_ble_eq_true rfl) dX2_lineUp_113
  · replace h := h.2 c2
    refine x_aload_n C dX2_lineUp_18 0 rfl ?_
    refine gf_2_2 C q50 z2 dX2_lineUp_19 ?_
    refine x_iload_n C dX2_lineUp_22 1 rfl ?_
    obtain ⟨f3, h⟩ := h
    refine al_302 C z302 f3 dX2_lineUp_23 ?_
    refine gf_0_13 C q51 (vp_lt f3) dX2_lineUp_24 ?_
    refine x_if_eq (tgt := 33) C dX2_lineUp_27 (by decide) (fun c4 => ?_) (fun c4 => ?_)
    · replace h := h.1 c4
      refine x_aload_n C dX2_lineUp_33 0 rfl ?_
      refine gf_2_4 C q47 z2 dX2_lineUp_34 ?_
      refine X_name (fun v5 ev5 => ?_)
      replace h := h v5 ev5
      refine x_istore_n (lv' := [(2, .int v5), (0, .ref (ga G 2 0)), (1, .int y1)]) C dX2_lineUp_37 rfl (Nat.le_of_ble_eq_true rfl) rfl ?_
      obtain ⟨n9, h⟩ := h
      refine X_sub (lv' := [(0, .ref (ga G 2 0)), (1, .int y1), (2, .int v5)]) [1, 2, 0] rfl ?_
      have hb : ∀ (L : Mem × Int32 × Int32 → Prop) (s : Mem × Int32 × Int32), (∀ t, L t → X Γ G Qf 3 0 0 38 [(0, .ref (ga G 2 0)), (1, .int t.2.1), (2, .int t.2.2)] [] t.1) → bX2_lineUp_38 Q L7 L s.1 s.2.1 s.2.2 → X Γ G Qf 3 0 0 38 [(0, .ref (ga G 2 0)), (1, .int s.2.1), (2, .int s.2.2)] [] s.1 := fun L s hL h => wX2_lineUp_38 hG C E hL7 hL s.1 s.2.1 s.2.2 h
      have w9 := lp_walk (P := fun s : Mem × Int32 × Int32 => X Γ G Qf 3 0 0 38 [(0, .ref (ga G 2 0)), (1, .int s.2.1), (2, .int s.2.2)] [] s.1) h hb
      dsimp only at w9
      exact w9
    · replace h := h.2 c4
      refine x_goto (tgt := 107) C dX2_lineUp_30 (by decide) ?_
      refine X_sub (lv' := [(0, .ref (ga G 2 0)), (1, .int y1)]) [0, 1] rfl ?_
      exact wX2_lineUp_107 hG C E hL7 M y1 h
set_option maxRecDepth 100000 in
set_option maxHeartbeats 400000 in
theorem kX2_lineUp {l : Launch} {G : Gm} (hG : Gd G) (M : Mem)  {Q : Mem → Prop} (h : pX2_lineUp M Q) : Ctv l G yX2_lineUp cX2_lineUp 3 rmX2_lineUp [.ref (ga G 2 0)] M Q := by
  refine ctv_of (own := RX2) (by decide +kernel) rfl (Nat.le_of_ble_eq_true rfl) hG (fun Γ Qf hl C E => ?_)
  subst hl
  show X Γ G Qf 3 0 0 0 [(0, .ref (ga G 2 0))] [] M
  unfold pX2_lineUp at h
  refine x_aload_n C dX2_lineUp_0 0 rfl ?_
  refine x_iconst (v := 0) C dX2_lineUp_1 rfl ?_
  refine pf_2_4 C q47 z2 dX2_lineUp_2 ?_
  refine X_nameM (fun M1 eM1 => ?_)
  replace h := h M1 eM1
  refine x_iconst (v := 0) C dX2_lineUp_5 rfl ?_
  refine x_istore_n (lv' := [(1, .int 0), (0, .ref (ga G 2 0))]) C dX2_lineUp_6 rfl (Nat.le_of_ble_eq_true rfl) rfl ?_
  obtain ⟨n9, h⟩ := h
  refine X_sub (lv' := [(0, .ref (ga G 2 0)), (1, .int 0)]) [1, 0] rfl ?_
  have hb : ∀ (L : Mem × Int32 → Prop) (s : Mem × Int32), (∀ t, L t → X Γ G Qf 3 0 0 7 [(0, .ref (ga G 2 0)), (1, .int t.2)] [] t.1) → bX2_lineUp_7 Q L s.1 s.2 → X Γ G Qf 3 0 0 7 [(0, .ref (ga G 2 0)), (1, .int s.2)] [] s.1 := fun L s hL h => wX2_lineUp_7 hG C E hL s.1 s.2 h
  have w9 := lp_walk (P := fun s : Mem × Int32 => X Γ G Qf 3 0 0 7 [(0, .ref (ga G 2 0)), (1, .int s.2)] [] s.1) h hb
  dsimp only at w9
  exact w9
def rmX6_mostNear : Room := { frames := 0, cells := 0, slots := 0, locals := 0 }
def pX6_mostNear (M : Mem) (Q : Int32 → Mem → Prop) : Prop :=
  ((¬ (M.1 701 0 0) = 0 → Q ((((M.1 701 0 0) - 1) * 50) * (M.1 711 0 0)) M) ∧ ((M.1 701 0 0) = 0 → Q 0 M))
set_option maxRecDepth 100000 in
set_option maxHeartbeats 400000 in
theorem kX6_mostNear {l : Launch} {G : Gm} (hG : Gd G) (M : Mem)  {Q : Int32 → Mem → Prop} (h : pX6_mostNear M Q) : Cti l G yX6_mostNear cX6_mostNear 1 .int rmX6_mostNear [.ref (ga G 6 0)] M Q := by
  refine cti_of (own := RX6) (by decide +kernel) rfl (Nat.le_of_ble_eq_true rfl) hG (fun Γ Qf hl C E => ?_)
  subst hl
  show X Γ G Qf 1 0 0 0 [(0, .ref (ga G 6 0))] [] M
  unfold pX6_mostNear at h
  refine x_aload_n C dX6_mostNear_0 0 rfl ?_
  refine gf_6_1 C q54 z6 dX6_mostNear_1 ?_
  refine x_if_ne (tgt := 11) C dX6_mostNear_4 (by decide) (fun c1 => ?_) (fun c1 => ?_)
  · replace h := h.1 c1
    refine x_aload_n C dX6_mostNear_11 0 rfl ?_
    refine gf_6_1 C q54 z6 dX6_mostNear_12 ?_
    refine x_iconst (v := 1) C dX6_mostNear_15 rfl ?_
    refine x_isub C dX6_mostNear_16 ?_
    refine x_bipush (v := 50) C dX6_mostNear_17 rfl ?_
    refine x_imul C dX6_mostNear_19 ?_
    refine x_aload_n C dX6_mostNear_20 0 rfl ?_
    refine gf_6_11 C q55 z6 dX6_mostNear_21 ?_
    refine x_imul C dX6_mostNear_24 ?_
    exact x_iret C E h (Nat.le_of_ble_eq_true rfl) (Nat.le_of_ble_eq_true rfl) dX6_mostNear_25
  · replace h := h.2 c1
    refine x_iconst (v := 0) C dX6_mostNear_7 rfl ?_
    refine x_goto (tgt := 25) C dX6_mostNear_8 (by decide) ?_
    exact x_iret C E h (Nat.le_of_ble_eq_true rfl) (Nat.le_of_ble_eq_true rfl) dX6_mostNear_25
def rmX2_floorNow : Room := { frames := 0, cells := 0, slots := 0, locals := 0 }
def pX2_floorNow (M : Mem) (Q : Int32 → Mem → Prop) : Prop :=
  (((M.1 306 0 0) ≤ (M.1 309 0 0) → vp_in ((M.1 306 0 0) - 1) 10 ∧ Q (M.1 308 0 (tn ((M.1 306 0 0) - 1))) M) ∧ (¬ (M.1 306 0 0) ≤ (M.1 309 0 0) → Q 0 M))
set_option maxRecDepth 100000 in
set_option maxHeartbeats 400000 in
theorem kX2_floorNow {l : Launch} {G : Gm} (hG : Gd G) (M : Mem)  {Q : Int32 → Mem → Prop} (h : pX2_floorNow M Q) : Cti l G yX2_floorNow cX2_floorNow 1 .int rmX2_floorNow [.ref (ga G 2 0)] M Q := by
  refine cti_of (own := RX2) (by decide +kernel) rfl (Nat.le_of_ble_eq_true rfl) hG (fun Γ Qf hl C E => ?_)
  subst hl
  show X Γ G Qf 1 0 0 0 [(0, .ref (ga G 2 0))] [] M
  unfold pX2_floorNow at h
  refine x_aload_n C dX2_floorNow_0 0 rfl ?_
  refine gf_2_9 C q56 z2 dX2_floorNow_1 ?_
  refine x_aload_n C dX2_floorNow_4 0 rfl ?_
  refine gf_2_6 C q57 z2 dX2_floorNow_5 ?_
  refine x_icmp_ge (tgt := 15) C dX2_floorNow_8 (by decide) (fun c1 => ?_) (fun c1 => ?_)
  · replace h := h.1 c1
    refine x_aload_n C dX2_floorNow_15 0 rfl ?_
    refine gf_2_8 C q58 z2 dX2_floorNow_16 ?_
    refine x_aload_n C dX2_floorNow_19 0 rfl ?_
    refine gf_2_6 C q57 z2 dX2_floorNow_20 ?_
    refine x_iconst (v := 1) C dX2_floorNow_23 rfl ?_
    refine x_isub C dX2_floorNow_24 ?_
    obtain ⟨f2, h⟩ := h
    refine al_308 C z308 f2 dX2_floorNow_25 ?_
    exact x_iret C E h (Nat.le_of_ble_eq_true rfl) (Nat.le_of_ble_eq_true rfl) dX2_floorNow_26
  · replace h := h.2 c1
    refine x_iconst (v := 0) C dX2_floorNow_11 rfl ?_
    refine x_goto (tgt := 26) C dX2_floorNow_12 (by decide) ?_
    exact x_iret C E h (Nat.le_of_ble_eq_true rfl) (Nat.le_of_ble_eq_true rfl) dX2_floorNow_26
def rmX2_findPivot : Room := { frames := 1, cells := 0, slots := 0, locals := 20 }
def bX2_findPivot_10 (Q : Int32 → Mem → Prop) (L10 : Mem × Int32 × Int32 → Prop) (M : Mem) (y1 : Int32) (y2 : Int32) : Prop :=
  (((M.1 304 0 0) ≤ y2 → Q (-1) M) ∧ (¬ (M.1 304 0 0) ≤ y2 → vp_in y2 24 ∧ vp_in (M.1 303 0 (tn y2)) 24 ∧ ∀ v6 : Int32, v6 = (y1 + (M.1 110 (tn (M.1 303 0 (tn y2))) 0)) → pX2_floorNow M (fun r7 M8 => ((v6 ≤ r7 → ∀ v10 : Int32, v10 = y2 + 1 → L10 (M8, v6, v10)) ∧ (¬ v6 ≤ r7 → Q y2 M8)))))
def pX2_findPivot (M : Mem) (Q : Int32 → Mem → Prop) : Prop :=
  pX6_mostNear M (fun r1 M2 => ∃ n : Nat, lp (fun L s => bX2_findPivot_10 Q L s.1 s.2.1 s.2.2) n (M2, r1, 0))
set_option maxRecDepth 100000 in
set_option maxHeartbeats 400000 in
theorem wX2_findPivot_10 {Γ : Gam} {G : Gm} {Qf : State → Prop} (hG : Gd G) (C : Cx Γ G cX2_findPivot 3 RX2 (some .int) rmX2_findPivot)  {Q : Int32 → Mem → Prop} (E : EndI Γ G Qf rmX2_findPivot Q) {L10 : Mem × Int32 × Int32 → Prop} (hL10 : ∀ s, L10 s → X Γ G Qf 3 0 0 10 [(0, .ref (ga G 2 0)), (1, .int s.2.1), (2, .int s.2.2)] [] s.1) (M : Mem) (y1 : Int32) (y2 : Int32) (h : bX2_findPivot_10 Q L10 M y1 y2) : X Γ G Qf 3 0 0 10 [(0, .ref (ga G 2 0)), (1, .int y1), (2, .int y2)] [] M := by
  unfold bX2_findPivot_10 at h
  refine x_iload_n C dX2_findPivot_10 2 rfl ?_
  refine x_aload_n C dX2_findPivot_11 0 rfl ?_
  refine gf_2_4 C q47 z2 dX2_findPivot_12 ?_
  refine x_icmp_ge (tgt := 51) C dX2_findPivot_15 (by decide) (fun c3 => ?_) (fun c3 => ?_)
  · replace h := h.1 c3
    refine x_iconst (v := (-1)) C dX2_findPivot_51 rfl ?_
    exact x_iret C E h (Nat.le_of_ble_eq_true rfl) (Nat.le_of_ble_eq_true rfl) dX2_findPivot_52
  · replace h := h.2 c3
    refine x_iload_n C dX2_findPivot_18 1 rfl ?_
    refine x_aload_n C dX2_findPivot_19 0 rfl ?_
    refine gf_2_2 C q50 z2 dX2_findPivot_20 ?_
    refine x_aload_n C dX2_findPivot_23 0 rfl ?_
    refine gf_2_3 C q52 z2 dX2_findPivot_24 ?_
    refine x_iload_n C dX2_findPivot_27 2 rfl ?_
    obtain ⟨f4, h⟩ := h
    refine al_303 C z303 f4 dX2_findPivot_28 ?_
    obtain ⟨f5, h⟩ := h
    refine al_302 C z302 f5 dX2_findPivot_29 ?_
    refine gf_0_10 C q59 (vp_lt f5) dX2_findPivot_30 ?_
    refine x_iadd C dX2_findPivot_33 ?_
    refine X_name (fun v6 ev6 => ?_)
    replace h := h v6 ev6
    refine x_istore_n (lv' := [(1, .int v6), (0, .ref (ga G 2 0)), (2, .int y2)]) C dX2_findPivot_34 rfl (Nat.le_of_ble_eq_true rfl) rfl ?_
    refine x_iload_n C dX2_findPivot_35 0 rfl ?_
    refine x_aload_n C dX2_findPivot_36 1 rfl ?_
    refine x_calli (rest := [.int v6]) C sv_X2_101 ob2 z2 (kX2_floorNow hG _ h) rfl rfl (Nat.le_of_ble_eq_true rfl) ⟨Nat.le_of_ble_eq_true rfl, Nat.le_of_ble_eq_true rfl⟩ rfl rfl ⟨Nat.le_of_ble_eq_true rfl, Nat.le_of_ble_eq_true rfl⟩ dX2_findPivot_37 (fun r7 M8 h => ?_)
    refine x_icmp_le (tgt := 45) C dX2_findPivot_40 (by decide) (fun c9 => ?_) (fun c9 => ?_)
    · replace h := h.1 c9
      obtain ⟨v10, ev10⟩ : ∃ z : Int32, z = y2 + 1 := ⟨_, rfl⟩
      replace h := h v10 ev10
      refine x_iinc (v := v10) (lv' := [(2, .int v10), (1, .int v6), (0, .ref (ga G 2 0))]) (j := 2) C dX2_findPivot_45 rfl (by rw [ev10]; rfl) (Nat.le_of_ble_eq_true rfl) rfl ?_
      refine x_goto (tgt := 10) C dX2_findPivot_48 (by decide) ?_
      refine X_sub (lv' := [(0, .ref (ga G 2 0)), (1, .int v6), (2, .int v10)]) [2, 1, 0] rfl ?_
      have w9 := hL10 (M8, v6, v10) h
      dsimp only at w9
      exact w9
    · replace h := h.2 c9
      refine x_iload_n C dX2_findPivot_43 2 rfl ?_
      exact x_iret C E h (Nat.le_of_ble_eq_true rfl) (Nat.le_of_ble_eq_true rfl) dX2_findPivot_44
set_option maxRecDepth 100000 in
set_option maxHeartbeats 400000 in
theorem kX2_findPivot {l : Launch} {G : Gm} (hG : Gd G) (M : Mem)  {Q : Int32 → Mem → Prop} (h : pX2_findPivot M Q) : Cti l G yX2_findPivot cX2_findPivot 3 .int rmX2_findPivot [.ref (ga G 2 0)] M Q := by
  refine cti_of (own := RX2) (by decide +kernel) rfl (Nat.le_of_ble_eq_true rfl) hG (fun Γ Qf hl C E => ?_)
  subst hl
  show X Γ G Qf 3 0 0 0 [(0, .ref (ga G 2 0))] [] M
  unfold pX2_findPivot at h
  refine x_aload_n C dX2_findPivot_0 0 rfl ?_
  refine gf_2_0 C q48 z2 dX2_findPivot_1 ?_
  refine x_calli (rest := []) C sv_X2_124 ob6 z6 (kX6_mostNear hG _ h) rfl rfl (Nat.le_of_ble_eq_true rfl) ⟨Nat.le_of_ble_eq_true rfl, Nat.le_of_ble_eq_true rfl⟩ rfl rfl ⟨Nat.le_of_ble_eq_true rfl, Nat.le_of_ble_eq_true rfl⟩ dX2_findPivot_4 (fun r1 M2 h => ?_)
  refine x_istore_n (lv' := [(1, .int r1), (0, .ref (ga G 2 0))]) C dX2_findPivot_7 rfl (Nat.le_of_ble_eq_true rfl) rfl ?_
  refine x_iconst (v := 0) C dX2_findPivot_8 rfl ?_
  refine x_istore_n (lv' := [(2, .int 0), (1, .int r1), (0, .ref (ga G 2 0))]) C dX2_findPivot_9 rfl (Nat.le_of_ble_eq_true rfl) rfl ?_
  obtain ⟨n9, h⟩ := h
  refine X_sub (lv' := [(0, .ref (ga G 2 0)), (1, .int r1), (2, .int 0)]) [2, 1, 0] rfl ?_
  have hb : ∀ (L : Mem × Int32 × Int32 → Prop) (s : Mem × Int32 × Int32), (∀ t, L t → X Γ G Qf 3 0 0 10 [(0, .ref (ga G 2 0)), (1, .int t.2.1), (2, .int t.2.2)] [] t.1) → bX2_findPivot_10 Q L s.1 s.2.1 s.2.2 → X Γ G Qf 3 0 0 10 [(0, .ref (ga G 2 0)), (1, .int s.2.1), (2, .int s.2.2)] [] s.1 := fun L s hL h => wX2_findPivot_10 hG C E hL s.1 s.2.1 s.2.2 h
  have w9 := lp_walk (P := fun s : Mem × Int32 × Int32 => X Γ G Qf 3 0 0 10 [(0, .ref (ga G 2 0)), (1, .int s.2.1), (2, .int s.2.2)] [] s.1) h hb
  dsimp only at w9
  exact w9
def rmX2_countHere : Room := { frames := 0, cells := 0, slots := 0, locals := 0 }
def bX2_countHere_5 (x1 : Int32) (Q : Mem → Prop) (L5 : Mem → Prop) (M : Mem) : Prop :=
  (((M.1 304 0 0) ≤ (M.1 305 0 0) → Q M) ∧ (¬ (M.1 304 0 0) ≤ (M.1 305 0 0) → vp_in (M.1 305 0 0) 24 ∧ vp_in (M.1 303 0 (tn (M.1 305 0 0))) 24 ∧ ((x1 < (M.1 112 (tn (M.1 303 0 (tn (M.1 305 0 0)))) 0) → Q M) ∧ (¬ x1 < (M.1 112 (tn (M.1 303 0 (tn (M.1 305 0 0)))) 0) → ∀ M6 : Mem, M6 = up1 M 305 0 0 ((M.1 305 0 0) + 1) → L5 M6))))
def pX2_countHere (M : Mem) (x1 : Int32) (Q : Mem → Prop) : Prop :=
  ∀ M1 : Mem, M1 = up1 M 305 0 0 0 → ∃ n : Nat, lp (fun L s => bX2_countHere_5 x1 Q L s) n M1
set_option maxRecDepth 100000 in
set_option maxHeartbeats 400000 in
theorem wX2_countHere_5 {Γ : Gam} {G : Gm} {Qf : State → Prop} (hG : Gd G) (C : Cx Γ G cX2_countHere 2 RX2 none rmX2_countHere) {x1 : Int32} {Q : Mem → Prop} (E : EndV Γ G Qf rmX2_countHere Q) {L5 : Mem → Prop} (hL5 : ∀ s, L5 s → X Γ G Qf 2 0 0 5 [(0, .ref (ga G 2 0)), (1, .int x1)] [] s) (M : Mem) (h : bX2_countHere_5 x1 Q L5 M) : X Γ G Qf 2 0 0 5 [(0, .ref (ga G 2 0)), (1, .int x1)] [] M := by
  unfold bX2_countHere_5 at h
  refine x_aload_n C dX2_countHere_5 0 rfl ?_
  refine gf_2_5 C q60 z2 dX2_countHere_6 ?_
  refine x_aload_n C dX2_countHere_9 0 rfl ?_
  refine gf_2_4 C q47 z2 dX2_countHere_10 ?_
  refine x_icmp_ge (tgt := 50) C dX2_countHere_13 (by decide) (fun c2 => ?_) (fun c2 => ?_)
  · replace h := h.1 c2
    exact x_vret C E h (Nat.le_of_ble_eq_true rfl) (Nat.le_of_ble_eq_true rfl) dX2_countHere_50
  · replace h := h.2 c2
    refine x_aload_n C dX2_countHere_16 0 rfl ?_
    refine gf_2_2 C q50 z2 dX2_countHere_17 ?_
    refine x_aload_n C dX2_countHere_20 0 rfl ?_
    refine gf_2_3 C q52 z2 dX2_countHere_21 ?_
    refine x_aload_n C dX2_countHere_24 0 rfl ?_
    refine gf_2_5 C q60 z2 dX2_countHere_25 ?_
    obtain ⟨f3, h⟩ := h
    refine al_303 C z303 f3 dX2_countHere_28 ?_
    obtain ⟨f4, h⟩ := h
    refine al_302 C z302 f4 dX2_countHere_29 ?_
    refine gf_0_12 C q53 (vp_lt f4) dX2_countHere_30 ?_
    refine x_iload_n C dX2_countHere_33 1 rfl ?_
    refine x_icmp_gt (tgt := 50) C dX2_countHere_34 (by decide) (fun c5 => ?_) (fun c5 => ?_)
    · replace h := h.1 c5
      exact x_vret C E h (Nat.le_of_ble_eq_true rfl) (Nat.le_of_ble_eq_true rfl) dX2_countHere_50
    · replace h := h.2 c5
      refine x_aload_n C dX2_countHere_37 0 rfl ?_
      refine x_dup C dX2_countHere_38 rfl ?_
      refine gf_2_5 C q60 z2 dX2_countHere_39 ?_
      refine x_iconst (v := 1) C dX2_countHere_42 rfl ?_
      refine x_iadd C dX2_countHere_43 ?_
      refine pf_2_5 C q60 z2 dX2_countHere_44 ?_
      refine X_nameM (fun M6 eM6 => ?_)
      replace h := h M6 eM6
      refine x_goto (tgt := 5) C dX2_countHere_47 (by decide) ?_
      refine X_sub (lv' := [(0, .ref (ga G 2 0)), (1, .int x1)]) [0, 1] rfl ?_
      have w9 := hL5 M6 h
      exact w9
set_option maxRecDepth 100000 in
set_option maxHeartbeats 400000 in
theorem kX2_countHere {l : Launch} {G : Gm} (hG : Gd G) (M : Mem) (x1 : Int32) {Q : Mem → Prop} (h : pX2_countHere M x1 Q) : Ctv l G yX2_countHere cX2_countHere 2 rmX2_countHere [.ref (ga G 2 0), .int x1] M Q := by
  refine ctv_of (own := RX2) (by decide +kernel) rfl (Nat.le_of_ble_eq_true rfl) hG (fun Γ Qf hl C E => ?_)
  subst hl
  show X Γ G Qf 2 0 0 0 [(0, .ref (ga G 2 0)), (1, .int x1)] [] M
  unfold pX2_countHere at h
  refine x_aload_n C dX2_countHere_0 0 rfl ?_
  refine x_iconst (v := 0) C dX2_countHere_1 rfl ?_
  refine pf_2_5 C q60 z2 dX2_countHere_2 ?_
  refine X_nameM (fun M1 eM1 => ?_)
  replace h := h M1 eM1
  obtain ⟨n9, h⟩ := h
  refine X_sub (lv' := [(0, .ref (ga G 2 0)), (1, .int x1)]) [0, 1] rfl ?_
  have hb : ∀ (L : Mem → Prop) (s : Mem), (∀ t, L t → X Γ G Qf 2 0 0 5 [(0, .ref (ga G 2 0)), (1, .int x1)] [] t) → bX2_countHere_5 x1 Q L s → X Γ G Qf 2 0 0 5 [(0, .ref (ga G 2 0)), (1, .int x1)] [] s := fun L s hL h => wX2_countHere_5 hG C E hL s h
  have w9 := lp_walk (P := fun s : Mem => X Γ G Qf 2 0 0 5 [(0, .ref (ga G 2 0)), (1, .int x1)] [] s) h hb
  exact w9
def rmX2_boundHere : Room := { frames := 2, cells := 0, slots := 0, locals := 44 }
def bX2_boundHere_10 (x1 : Int32) (Q : Int32 → Mem → Prop) (L10 : Mem × Int32 × Int32 → Prop) (M : Mem) (y2 : Int32) (y3 : Int32) : Prop :=
  (((M.1 305 0 0) ≤ y3 → Q y2 M) ∧ (¬ (M.1 305 0 0) ≤ y3 → vp_in y3 24 ∧ vp_in (M.1 303 0 (tn y3)) 24 ∧ pX0_boundReaching (tn (M.1 303 0 (tn y3))) M x1 (fun r6 M7 => ∀ v8 : Int32, v8 = (y2 + r6) → ∀ v9 : Int32, v9 = y3 + 1 → L10 (M7, v8, v9))))
def pX2_boundHere (M : Mem) (x1 : Int32) (Q : Int32 → Mem → Prop) : Prop :=
  pX6_mostNear M (fun r1 M2 => ∃ n : Nat, lp (fun L s => bX2_boundHere_10 x1 Q L s.1 s.2.1 s.2.2) n (M2, r1, 0))
set_option maxRecDepth 100000 in
set_option maxHeartbeats 400000 in
theorem wX2_boundHere_10 {Γ : Gam} {G : Gm} {Qf : State → Prop} (hG : Gd G) (C : Cx Γ G cX2_boundHere 4 RX2 (some .int) rmX2_boundHere) {x1 : Int32} {Q : Int32 → Mem → Prop} (E : EndI Γ G Qf rmX2_boundHere Q) {L10 : Mem × Int32 × Int32 → Prop} (hL10 : ∀ s, L10 s → X Γ G Qf 4 0 0 10 [(0, .ref (ga G 2 0)), (1, .int x1), (2, .int s.2.1), (3, .int s.2.2)] [] s.1) (M : Mem) (y2 : Int32) (y3 : Int32) (h : bX2_boundHere_10 x1 Q L10 M y2 y3) : X Γ G Qf 4 0 0 10 [(0, .ref (ga G 2 0)), (1, .int x1), (2, .int y2), (3, .int y3)] [] M := by
  unfold bX2_boundHere_10 at h
  refine x_iload_n C dX2_boundHere_10 3 rfl ?_
  refine x_aload_n C dX2_boundHere_11 0 rfl ?_
  refine gf_2_5 C q60 z2 dX2_boundHere_12 ?_
  refine x_icmp_ge (tgt := 42) C dX2_boundHere_15 (by decide) (fun c3 => ?_) (fun c3 => ?_)
  · replace h := h.1 c3
    refine x_iload_n C dX2_boundHere_42 2 rfl ?_
    exact x_iret C E h (Nat.le_of_ble_eq_true rfl) (Nat.le_of_ble_eq_true rfl) dX2_boundHere_43
  · replace h := h.2 c3
    refine x_iload_n C dX2_boundHere_18 2 rfl ?_
    refine x_aload_n C dX2_boundHere_19 0 rfl ?_
    refine gf_2_2 C q50 z2 dX2_boundHere_20 ?_
    refine x_aload_n C dX2_boundHere_23 0 rfl ?_
    refine gf_2_3 C q52 z2 dX2_boundHere_24 ?_
    refine x_iload_n C dX2_boundHere_27 3 rfl ?_
    obtain ⟨f4, h⟩ := h
    refine al_303 C z303 f4 dX2_boundHere_28 ?_
    obtain ⟨f5, h⟩ := h
    refine al_302 C z302 f5 dX2_boundHere_29 ?_
    refine x_iload_n C dX2_boundHere_30 1 rfl ?_
    refine x_calli (rest := [.int y2]) C sv_X2_130 ob0 (vp_lt f5) (kX0_boundReaching hG (vp_lt f5) _ _ h) rfl rfl (Nat.le_of_ble_eq_true rfl) ⟨Nat.le_of_ble_eq_true rfl, Nat.le_of_ble_eq_true rfl⟩ rfl rfl ⟨Nat.le_of_ble_eq_true rfl, Nat.le_of_ble_eq_true rfl⟩ dX2_boundHere_31 (fun r6 M7 h => ?_)
    refine x_iadd C dX2_boundHere_34 ?_
    refine X_name (fun v8 ev8 => ?_)
    replace h := h v8 ev8
    refine x_istore_n (lv' := [(2, .int v8), (0, .ref (ga G 2 0)), (1, .int x1), (3, .int y3)]) C dX2_boundHere_35 rfl (Nat.le_of_ble_eq_true rfl) rfl ?_
    obtain ⟨v9, ev9⟩ : ∃ z : Int32, z = y3 + 1 := ⟨_, rfl⟩
    replace h := h v9 ev9
    refine x_iinc (v := v9) (lv' := [(3, .int v9), (2, .int v8), (0, .ref (ga G 2 0)), (1, .int x1)]) (j := 3) C dX2_boundHere_36 rfl (by rw [ev9]; rfl) (Nat.le_of_ble_eq_true rfl) rfl ?_
    refine x_goto (tgt := 10) C dX2_boundHere_39 (by decide) ?_
    refine X_sub (lv' := [(0, .ref (ga G 2 0)), (1, .int x1), (2, .int v8), (3, .int v9)]) [2, 3, 1, 0] rfl ?_
    have w9 := hL10 (M7, v8, v9) h
    dsimp only at w9
    exact w9
set_option maxRecDepth 100000 in
set_option maxHeartbeats 400000 in
theorem kX2_boundHere {l : Launch} {G : Gm} (hG : Gd G) (M : Mem) (x1 : Int32) {Q : Int32 → Mem → Prop} (h : pX2_boundHere M x1 Q) : Cti l G yX2_boundHere cX2_boundHere 4 .int rmX2_boundHere [.ref (ga G 2 0), .int x1] M Q := by
  refine cti_of (own := RX2) (by decide +kernel) rfl (Nat.le_of_ble_eq_true rfl) hG (fun Γ Qf hl C E => ?_)
  subst hl
  show X Γ G Qf 4 0 0 0 [(0, .ref (ga G 2 0)), (1, .int x1)] [] M
  unfold pX2_boundHere at h
  refine x_aload_n C dX2_boundHere_0 0 rfl ?_
  refine gf_2_0 C q48 z2 dX2_boundHere_1 ?_
  refine x_calli (rest := []) C sv_X2_124 ob6 z6 (kX6_mostNear hG _ h) rfl rfl (Nat.le_of_ble_eq_true rfl) ⟨Nat.le_of_ble_eq_true rfl, Nat.le_of_ble_eq_true rfl⟩ rfl rfl ⟨Nat.le_of_ble_eq_true rfl, Nat.le_of_ble_eq_true rfl⟩ dX2_boundHere_4 (fun r1 M2 h => ?_)
  refine x_istore_n (lv' := [(2, .int r1), (0, .ref (ga G 2 0)), (1, .int x1)]) C dX2_boundHere_7 rfl (Nat.le_of_ble_eq_true rfl) rfl ?_
  refine x_iconst (v := 0) C dX2_boundHere_8 rfl ?_
  refine x_istore_n (lv' := [(3, .int 0), (2, .int r1), (0, .ref (ga G 2 0)), (1, .int x1)]) C dX2_boundHere_9 rfl (Nat.le_of_ble_eq_true rfl) rfl ?_
  obtain ⟨n9, h⟩ := h
  refine X_sub (lv' := [(0, .ref (ga G 2 0)), (1, .int x1), (2, .int r1), (3, .int 0)]) [2, 3, 1, 0] rfl ?_
  have hb : ∀ (L : Mem × Int32 × Int32 → Prop) (s : Mem × Int32 × Int32), (∀ t, L t → X Γ G Qf 4 0 0 10 [(0, .ref (ga G 2 0)), (1, .int x1), (2, .int t.2.1), (3, .int t.2.2)] [] t.1) → bX2_boundHere_10 x1 Q L s.1 s.2.1 s.2.2 → X Γ G Qf 4 0 0 10 [(0, .ref (ga G 2 0)), (1, .int x1), (2, .int s.2.1), (3, .int s.2.2)] [] s.1 := fun L s hL h => wX2_boundHere_10 hG C E hL s.1 s.2.1 s.2.2 h
  have w9 := lp_walk (P := fun s : Mem × Int32 × Int32 => X Γ G Qf 4 0 0 10 [(0, .ref (ga G 2 0)), (1, .int x1), (2, .int s.2.1), (3, .int s.2.2)] [] s.1) h hb
  dsimp only at w9
  exact w9
def rmX2_skip : Room := { frames := 2, cells := 0, slots := 0, locals := 44 }
def bX2_skip_82 (x1 : Int32) (Q : Mem → Prop) (L82 : Mem × Int32 × Int32 → Prop) (M : Mem) (y2 : Int32) (y3 : Int32) : Prop :=
  (((M.1 305 0 0) ≤ y3 → Q M) ∧ (¬ (M.1 305 0 0) ≤ y3 → vp_in y3 24 ∧ vp_in (M.1 303 0 (tn y3)) 24 ∧ pX0_dip (tn (M.1 303 0 (tn y3))) M y2 (fun M17 => ∀ v18 : Int32, v18 = y3 + 1 → L82 (M17, y2, v18))))
def bX2_skip_46 (x1 : Int32) (Q : Mem → Prop) (L46 : Mem × Int32 × Int32 → Prop) (M : Mem) (y2 : Int32) (y3 : Int32) : Prop :=
  (((M.1 305 0 0) ≤ y3 → ∃ n : Nat, lp (fun L s => bX2_skip_82 x1 Q L s.1 s.2.1 s.2.2) n (M, y2, 0)) ∧ (¬ (M.1 305 0 0) ≤ y3 → vp_in y3 24 ∧ vp_in (M.1 303 0 (tn y3)) 24 ∧ pX0_behindReaching (tn (M.1 303 0 (tn y3))) M x1 (fun r9 M10 => ∀ v11 : Int32, v11 = (imin y2 r9) → ∀ v12 : Int32, v12 = y3 + 1 → L46 (M10, v11, v12))))
def bX2_skip_44 (x1 : Int32) (Q : Mem → Prop) (M : Mem) (y2 : Int32) : Prop :=
  ∃ n : Nat, lp (fun L s => bX2_skip_46 x1 Q L s.1 s.2.1 s.2.2) n (M, y2, 0)
def pX2_skip (M : Mem) (x1 : Int32) (Q : Mem → Prop) : Prop :=
  ∀ M1 : Mem, M1 = up1 M 312 0 0 ((M.1 312 0 0) + 1) → (((M1.1 304 0 0) ≤ (M1.1 305 0 0) → bX2_skip_44 x1 Q M1 64) ∧ (¬ (M1.1 304 0 0) ≤ (M1.1 305 0 0) → vp_in (M1.1 305 0 0) 24 ∧ vp_in (M1.1 303 0 (tn (M1.1 305 0 0))) 24 ∧ ∀ v5 : Int32, v5 = (M1.1 112 (tn (M1.1 303 0 (tn (M1.1 305 0 0)))) 0) → bX2_skip_44 x1 Q M1 v5))
set_option maxRecDepth 100000 in
set_option maxHeartbeats 400000 in
theorem wX2_skip_82 {Γ : Gam} {G : Gm} {Qf : State → Prop} (hG : Gd G) (C : Cx Γ G cX2_skip 4 RX2 none rmX2_skip) {x1 : Int32} {Q : Mem → Prop} (E : EndV Γ G Qf rmX2_skip Q) {L82 : Mem × Int32 × Int32 → Prop} (hL82 : ∀ s, L82 s → X Γ G Qf 4 0 0 82 [(0, .ref (ga G 2 0)), (2, .int s.2.1), (3, .int s.2.2)] [] s.1) (M : Mem) (y2 : Int32) (y3 : Int32) (h : bX2_skip_82 x1 Q L82 M y2 y3) : X Γ G Qf 4 0 0 82 [(0, .ref (ga G 2 0)), (2, .int y2), (3, .int y3)] [] M := by
  unfold bX2_skip_82 at h
  refine x_iload_n C dX2_skip_82 2 rfl ?_
  refine x_aload_n C dX2_skip_83 0 rfl ?_
  refine gf_2_5 C q60 z2 dX2_skip_84 ?_
  refine x_icmp_ge (tgt := 111) C dX2_skip_87 (by decide) (fun c13 => ?_) (fun c13 => ?_)
  · replace h := h.1 c13
    exact x_vret C E h (Nat.le_of_ble_eq_true rfl) (Nat.le_of_ble_eq_true rfl) dX2_skip_111
  · replace h := h.2 c13
    refine x_aload_n C dX2_skip_90 0 rfl ?_
    refine gf_2_2 C q50 z2 dX2_skip_91 ?_
    refine x_aload_n C dX2_skip_94 0 rfl ?_
    refine gf_2_3 C q52 z2 dX2_skip_95 ?_
    refine x_iload_n C dX2_skip_98 2 rfl ?_
    obtain ⟨f14, h⟩ := h
    refine al_303 C z303 f14 dX2_skip_99 ?_
    obtain ⟨f15, h⟩ := h
    refine al_302 C z302 f15 dX2_skip_100 ?_
    refine x_iload_n C dX2_skip_101 1 rfl ?_
    refine x_callv (rest := []) C sv_X2_142 ob0 (vp_lt f15) (kX0_dip hG (vp_lt f15) _ _ h) rfl rfl (Nat.le_of_ble_eq_true rfl) ⟨Nat.le_of_ble_eq_true rfl, Nat.le_of_ble_eq_true rfl⟩ rfl rfl ⟨Nat.le_of_ble_eq_true rfl, Nat.le_of_ble_eq_true rfl⟩ dX2_skip_102 (fun M17 h => ?_)
    obtain ⟨v18, ev18⟩ : ∃ z : Int32, z = y3 + 1 := ⟨_, rfl⟩
    replace h := h v18 ev18
    refine x_iinc (v := v18) (lv' := [(3, .int v18), (0, .ref (ga G 2 0)), (2, .int y2)]) (j := 2) C dX2_skip_105 rfl (by rw [ev18]; rfl) (Nat.le_of_ble_eq_true rfl) rfl ?_
    refine x_goto (tgt := 82) C dX2_skip_108 (by decide) ?_
    refine X_sub (lv' := [(0, .ref (ga G 2 0)), (2, .int y2), (3, .int v18)]) [1, 2, 0] rfl ?_
    have w9 := hL82 (M17, y2, v18) h
    dsimp only at w9
    exact w9
set_option maxRecDepth 100000 in
set_option maxHeartbeats 400000 in
theorem wX2_skip_46 {Γ : Gam} {G : Gm} {Qf : State → Prop} (hG : Gd G) (C : Cx Γ G cX2_skip 4 RX2 none rmX2_skip) {x1 : Int32} {Q : Mem → Prop} (E : EndV Γ G Qf rmX2_skip Q) {L46 : Mem × Int32 × Int32 → Prop} (hL46 : ∀ s, L46 s → X Γ G Qf 4 0 0 46 [(0, .ref (ga G 2 0)), (1, .int x1), (2, .int s.2.1), (3, .int s.2.2)] [] s.1) (M : Mem) (y2 : Int32) (y3 : Int32) (h : bX2_skip_46 x1 Q L46 M y2 y3) : X Γ G Qf 4 0 0 46 [(0, .ref (ga G 2 0)), (1, .int x1), (2, .int y2), (3, .int y3)] [] M := by
  unfold bX2_skip_46 at h
  refine x_iload_n C dX2_skip_46 3 rfl ?_
  refine x_aload_n C dX2_skip_47 0 rfl ?_
  refine gf_2_5 C q60 z2 dX2_skip_48 ?_
  refine x_icmp_ge (tgt := 80) C dX2_skip_51 (by decide) (fun c6 => ?_) (fun c6 => ?_)
  · replace h := h.1 c6
    refine x_iconst (v := 0) C dX2_skip_80 rfl ?_
    refine x_istore_n (lv' := [(3, .int 0), (0, .ref (ga G 2 0)), (1, .int x1), (2, .int y2)]) C dX2_skip_81 rfl (Nat.le_of_ble_eq_true rfl) rfl ?_
    obtain ⟨n9, h⟩ := h
    refine X_sub (lv' := [(0, .ref (ga G 2 0)), (2, .int y2), (3, .int 0)]) [1, 3, 0] rfl ?_
    have hb : ∀ (L : Mem × Int32 × Int32 → Prop) (s : Mem × Int32 × Int32), (∀ t, L t → X Γ G Qf 4 0 0 82 [(0, .ref (ga G 2 0)), (2, .int t.2.1), (3, .int t.2.2)] [] t.1) → bX2_skip_82 x1 Q L s.1 s.2.1 s.2.2 → X Γ G Qf 4 0 0 82 [(0, .ref (ga G 2 0)), (2, .int s.2.1), (3, .int s.2.2)] [] s.1 := fun L s hL h => wX2_skip_82 hG C E hL s.1 s.2.1 s.2.2 h
    have w9 := lp_walk (P := fun s : Mem × Int32 × Int32 => X Γ G Qf 4 0 0 82 [(0, .ref (ga G 2 0)), (2, .int s.2.1), (3, .int s.2.2)] [] s.1) h hb
    dsimp only at w9
    exact w9
  · replace h := h.2 c6
    refine x_iload_n C dX2_skip_54 2 rfl ?_
    refine x_aload_n C dX2_skip_55 0 rfl ?_
    refine gf_2_2 C q50 z2 dX2_skip_56 ?_
    refine x_aload_n C dX2_skip_59 0 rfl ?_
    refine gf_2_3 C q52 z2 dX2_skip_60 ?_
    refine x_iload_n C dX2_skip_63 3 rfl ?_
    obtain ⟨f7, h⟩ := h
    refine al_303 C z303 f7 dX2_skip_64 ?_
    obtain ⟨f8, h⟩ := h
    refine al_302 C z302 f8 dX2_skip_65 ?_
    refine x_iload_n C dX2_skip_66 1 rfl ?_
    refine x_calli (rest := [.int y2]) C sv_X2_133 ob0 (vp_lt f8) (kX0_behindReaching hG (vp_lt f8) _ _ h) rfl rfl (Nat.le_of_ble_eq_true rfl) ⟨Nat.le_of_ble_eq_true rfl, Nat.le_of_ble_eq_true rfl⟩ rfl rfl ⟨Nat.le_of_ble_eq_true rfl, Nat.le_of_ble_eq_true rfl⟩ dX2_skip_67 (fun r9 M10 h => ?_)
    refine x_min C sm_X2_136 (Nat.le_of_ble_eq_true rfl) (Nat.le_of_ble_eq_true rfl) (Nat.le_of_ble_eq_true rfl) (Nat.le_of_ble_eq_true rfl) dX2_skip_70 ?_
    refine X_name (fun v11 ev11 => ?_)
    replace h := h v11 ev11
    refine x_istore_n (lv' := [(2, .int v11), (0, .ref (ga G 2 0)), (1, .int x1), (3, .int y3)]) C dX2_skip_73 rfl (Nat.le_of_ble_eq_true rfl) rfl ?_
    obtain ⟨v12, ev12⟩ : ∃ z : Int32, z = y3 + 1 := ⟨_, rfl⟩
    replace h := h v12 ev12
    refine x_iinc (v := v12) (lv' := [(3, .int v12), (2, .int v11), (0, .ref (ga G 2 0)), (1, .int x1)]) (j := 3) C dX2_skip_74 rfl (by rw [ev12]; rfl) (Nat.le_of_ble_eq_true rfl) rfl ?_
    refine x_goto (tgt := 46) C dX2_skip_77 (by decide) ?_
    refine X_sub (lv' := [(0, .ref (ga G 2 0)), (1, .int x1), (2, .int v11), (3, .int v12)]) [2, 3, 1, 0] rfl ?_
    have w9 := hL46 (M10, v11, v12) h
    dsimp only at w9
    exact w9
set_option maxRecDepth 100000 in
set_option maxHeartbeats 400000 in
theorem wX2_skip_44 {Γ : Gam} {G : Gm} {Qf : State → Prop} (hG : Gd G) (C : Cx Γ G cX2_skip 4 RX2 none rmX2_skip) {x1 : Int32} {Q : Mem → Prop} (E : EndV Γ G Qf rmX2_skip Q) (M : Mem) (y2 : Int32) (h : bX2_skip_44 x1 Q M y2) : X Γ G Qf 4 0 0 44 [(0, .ref (ga G 2 0)), (1, .int x1), (2, .int y2)] [] M := by
  unfold bX2_skip_44 at h
  refine x_iconst (v := 0) C dX2_skip_44 rfl ?_
  refine x_istore_n (lv' := [(3, .int 0), (0, .ref (ga G 2 0)), (1, .int x1), (2, .int y2)]) C dX2_skip_45 rfl (Nat.le_of_ble_eq_true rfl) rfl ?_
  obtain ⟨n9, h⟩ := h
  refine X_sub (lv' := [(0, .ref (ga G 2 0)), (1, .int x1), (2, .int y2), (3, .int 0)]) [1, 2, 3, 0] rfl ?_
  have hb : ∀ (L : Mem × Int32 × Int32 → Prop) (s : Mem × Int32 × Int32), (∀ t, L t → X Γ G Qf 4 0 0 46 [(0, .ref (ga G 2 0)), (1, .int x1), (2, .int t.2.1), (3, .int t.2.2)] [] t.1) → bX2_skip_46 x1 Q L s.1 s.2.1 s.2.2 → X Γ G Qf 4 0 0 46 [(0, .ref (ga G 2 0)), (1, .int x1), (2, .int s.2.1), (3, .int s.2.2)] [] s.1 := fun L s hL h => wX2_skip_46 hG C E hL s.1 s.2.1 s.2.2 h
  have w9 := lp_walk (P := fun s : Mem × Int32 × Int32 => X Γ G Qf 4 0 0 46 [(0, .ref (ga G 2 0)), (1, .int x1), (2, .int s.2.1), (3, .int s.2.2)] [] s.1) h hb
  dsimp only at w9
  exact w9
set_option maxRecDepth 100000 in
set_option maxHeartbeats 400000 in
theorem kX2_skip {l : Launch} {G : Gm} (hG : Gd G) (M : Mem) (x1 : Int32) {Q : Mem → Prop} (h : pX2_skip M x1 Q) : Ctv l G yX2_skip cX2_skip 4 rmX2_skip [.ref (ga G 2 0), .int x1] M Q := by
  refine ctv_of (own := RX2) (by decide +kernel) rfl (Nat.le_of_ble_eq_true rfl) hG (fun Γ Qf hl C E => ?_)
  subst hl
  show X Γ G Qf 4 0 0 0 [(0, .ref (ga G 2 0)), (1, .int x1)] [] M
  unfold pX2_skip at h
  refine x_aload_n C dX2_skip_0 0 rfl ?_
  refine x_dup C dX2_skip_1 rfl ?_
  refine gf_2_12 C q61 z2 dX2_skip_2 ?_
  refine x_iconst (v := 1) C dX2_skip_5 rfl ?_
  refine x_iadd C dX2_skip_6 ?_
  refine pf_2_12 C q61 z2 dX2_skip_7 ?_
  refine X_nameM (fun M1 eM1 => ?_)
  replace h := h M1 eM1
  refine x_aload_n C dX2_skip_10 0 rfl ?_
  refine gf_2_5 C q60 z2 dX2_skip_11 ?_
  refine x_aload_n C dX2_skip_14 0 rfl ?_
  refine gf_2_4 C q47 z2 dX2_skip_15 ?_
  refine x_icmp_ge (tgt := 41) C dX2_skip_18 (by decide) (fun c2 => ?_) (fun c2 => ?_)
  · replace h := h.1 c2
    refine x_bipush (v := 64) C dX2_skip_41 rfl ?_
    refine x_istore_n (lv' := [(2, .int 64), (0, .ref (ga G 2 0)), (1, .int x1)]) C dX2_skip_43 rfl (Nat.le_of_ble_eq_true rfl) rfl ?_
    refine X_sub (lv' := [(0, .ref (ga G 2 0)), (1, .int x1), (2, .int 64)]) [1, 2, 0] rfl ?_
    exact wX2_skip_44 hG C E M1 64 h
  · replace h := h.2 c2
    refine x_aload_n C dX2_skip_21 0 rfl ?_
    refine gf_2_2 C q50 z2 dX2_skip_22 ?_
    refine x_aload_n C dX2_skip_25 0 rfl ?_
    refine gf_2_3 C q52 z2 dX2_skip_26 ?_
    refine x_aload_n C dX2_skip_29 0 rfl ?_
    refine gf_2_5 C q60 z2 dX2_skip_30 ?_
    obtain ⟨f3, h⟩ := h
    refine al_303 C z303 f3 dX2_skip_33 ?_
    obtain ⟨f4, h⟩ := h
    refine al_302 C z302 f4 dX2_skip_34 ?_
    refine gf_0_12 C q53 (vp_lt f4) dX2_skip_35 ?_
    refine x_goto (tgt := 43) C dX2_skip_38 (by decide) ?_
    refine X_name (fun v5 ev5 => ?_)
    replace h := h v5 ev5
    refine x_istore_n (lv' := [(2, .int v5), (0, .ref (ga G 2 0)), (1, .int x1)]) C dX2_skip_43 rfl (Nat.le_of_ble_eq_true rfl) rfl ?_
    refine X_sub (lv' := [(0, .ref (ga G 2 0)), (1, .int x1), (2, .int v5)]) [1, 2, 0] rfl ?_
    exact wX2_skip_44 hG C E M1 v5 h
def rmX2_seekAll : Room := { frames := 3, cells := 0, slots := 0, locals := 64 }
def bX2_seekAll_60 (x1 : Int32) (Q : Int32 → Mem → Prop) (L4 : Mem × Int32 × Int32 → Prop) (M : Mem) (y2 : Int32) (y3 : Int32) : Prop :=
  ∀ v10 : Int32, v10 = y3 + 1 → L4 (M, y2, v10)
def bX2_seekAll_54 (x1 : Int32) (Q : Int32 → Mem → Prop) (L4 : Mem × Int32 × Int32 → Prop) (M : Mem) (y3 : Int32) : Prop :=
  bX2_seekAll_60 x1 Q L4 M 1 y3
def bX2_seekAll_4 (x1 : Int32) (Q : Int32 → Mem → Prop) (L4 : Mem × Int32 × Int32 → Prop) (M : Mem) (y2 : Int32) (y3 : Int32) : Prop :=
  (((M.1 305 0 0) ≤ y3 → bz y2 ∧ Q y2 M) ∧ (¬ (M.1 305 0 0) ≤ y3 → vp_in y3 24 ∧ vp_in (M.1 303 0 (tn y3)) 24 ∧ ∀ M5 : Mem, M5 = up1 M 311 0 0 ((M.1 311 0 0) + 1) → pX0_seek (tn (M.1 303 0 (tn y3))) M5 x1 (fun M7 => ((¬ y2 = 0 → bX2_seekAll_54 x1 Q L4 M7 y3) ∧ (y2 = 0 → ((¬ (M7.1 112 (tn (M.1 303 0 (tn y3))) 0) = x1 → bX2_seekAll_60 x1 Q L4 M7 0 y3) ∧ ((M7.1 112 (tn (M.1 303 0 (tn y3))) 0) = x1 → bX2_seekAll_54 x1 Q L4 M7 y3)))))))
def pX2_seekAll (M : Mem) (x1 : Int32) (Q : Int32 → Mem → Prop) : Prop :=
  ∃ n : Nat, lp (fun L s => bX2_seekAll_4 x1 Q L s.1 s.2.1 s.2.2) n (M, 0, 0)
set_option maxRecDepth 100000 in
set_option maxHeartbeats 400000 in
theorem wX2_seekAll_60 {Γ : Gam} {G : Gm} {Qf : State → Prop} (hG : Gd G) (C : Cx Γ G cX2_seekAll 5 RX2 (some .boolean) rmX2_seekAll) {x1 : Int32} {Q : Int32 → Mem → Prop} (E : EndI Γ G Qf rmX2_seekAll Q) {L4 : Mem × Int32 × Int32 → Prop} (hL4 : ∀ s, L4 s → X Γ G Qf 5 0 0 4 [(0, .ref (ga G 2 0)), (1, .int x1), (2, .int s.2.1), (3, .int s.2.2)] [] s.1) (M : Mem) (y2 : Int32) (y3 : Int32) (h : bX2_seekAll_60 x1 Q L4 M y2 y3) : X Γ G Qf 5 0 0 60 [(0, .ref (ga G 2 0)), (1, .int x1), (2, .int y2), (3, .int y3)] [] M := by
  unfold bX2_seekAll_60 at h
  obtain ⟨v10, ev10⟩ : ∃ z : Int32, z = y3 + 1 := ⟨_, rfl⟩
  replace h := h v10 ev10
  refine x_iinc (v := v10) (lv' := [(3, .int v10), (0, .ref (ga G 2 0)), (1, .int x1), (2, .int y2)]) (j := 3) C dX2_seekAll_60 rfl (by rw [ev10]; rfl) (Nat.le_of_ble_eq_true rfl) rfl ?_
  refine x_goto (tgt := 4) C dX2_seekAll_63 (by decide) ?_
  refine X_sub (lv' := [(0, .ref (ga G 2 0)), (1, .int x1), (2, .int y2), (3, .int v10)]) [1, 2, 3, 0] rfl ?_
  have w9 := hL4 (M, y2, v10) h
  dsimp only at w9
  exact w9
set_option maxRecDepth 100000 in
set_option maxHeartbeats 400000 in
theorem wX2_seekAll_54 {Γ : Gam} {G : Gm} {Qf : State → Prop} (hG : Gd G) (C : Cx Γ G cX2_seekAll 5 RX2 (some .boolean) rmX2_seekAll) {x1 : Int32} {Q : Int32 → Mem → Prop} (E : EndI Γ G Qf rmX2_seekAll Q) {L4 : Mem × Int32 × Int32 → Prop} (hL4 : ∀ s, L4 s → X Γ G Qf 5 0 0 4 [(0, .ref (ga G 2 0)), (1, .int x1), (2, .int s.2.1), (3, .int s.2.2)] [] s.1) (M : Mem) (y3 : Int32) (h : bX2_seekAll_54 x1 Q L4 M y3) : X Γ G Qf 5 0 0 54 [(0, .ref (ga G 2 0)), (1, .int x1), (3, .int y3)] [] M := by
  unfold bX2_seekAll_54 at h
  refine x_iconst (v := 1) C dX2_seekAll_54 rfl ?_
  refine x_goto (tgt := 59) C dX2_seekAll_55 (by decide) ?_
  refine x_istore_n (lv' := [(2, .int 1), (0, .ref (ga G 2 0)), (1, .int x1), (3, .int y3)]) C dX2_seekAll_59 rfl (Nat.le_of_ble_eq_true rfl) rfl ?_
  refine X_sub (lv' := [(0, .ref (ga G 2 0)), (1, .int x1), (2, .int 1), (3, .int y3)]) [1, 2, 0, 3] rfl ?_
  exact wX2_seekAll_60 hG C E hL4 M 1 y3 h
set_option maxRecDepth 100000 in
set_option maxHeartbeats 400000 in
theorem wX2_seekAll_4 {Γ : Gam} {G : Gm} {Qf : State → Prop} (hG : Gd G) (C : Cx Γ G cX2_seekAll 5 RX2 (some .boolean) rmX2_seekAll) {x1 : Int32} {Q : Int32 → Mem → Prop} (E : EndI Γ G Qf rmX2_seekAll Q) {L4 : Mem × Int32 × Int32 → Prop} (hL4 : ∀ s, L4 s → X Γ G Qf 5 0 0 4 [(0, .ref (ga G 2 0)), (1, .int x1), (2, .int s.2.1), (3, .int s.2.2)] [] s.1) (M : Mem) (y2 : Int32) (y3 : Int32) (h : bX2_seekAll_4 x1 Q L4 M y2 y3) : X Γ G Qf 5 0 0 4 [(0, .ref (ga G 2 0)), (1, .int x1), (2, .int y2), (3, .int y3)] [] M := by
  unfold bX2_seekAll_4 at h
  refine x_iload_n C dX2_seekAll_4 3 rfl ?_
  refine x_aload_n C dX2_seekAll_5 0 rfl ?_
  refine gf_2_5 C q60 z2 dX2_seekAll_6 ?_
  refine x_icmp_ge (tgt := 66) C dX2_seekAll_9 (by decide) (fun c1 => ?_) (fun c1 => ?_)
  · replace h := h.1 c1
    refine x_iload_n C dX2_seekAll_66 2 rfl ?_
    obtain ⟨f2, h⟩ := h
    exact x_zret C E h (bz_nar f2) (Nat.le_of_ble_eq_true rfl) (Nat.le_of_ble_eq_true rfl) dX2_seekAll_67
  · replace h := h.2 c1
    refine x_aload_n C dX2_seekAll_12 0 rfl ?_
    refine gf_2_2 C q50 z2 dX2_seekAll_13 ?_
    refine x_aload_n C dX2_seekAll_16 0 rfl ?_
    refine gf_2_3 C q52 z2 dX2_seekAll_17 ?_
    refine x_iload_n C dX2_seekAll_20 3 rfl ?_
    obtain ⟨f3, h⟩ := h
    refine al_303 C z303 f3 dX2_seekAll_21 ?_
    obtain ⟨f4, h⟩ := h
    refine al_302 C z302 f4 dX2_seekAll_22 ?_
    refine x_astore (lv' := [(4, .ref (ga G 0 (tn (M.1 303 0 (tn y3))))), (0, .ref (ga G 2 0)), (1, .int x1), (2, .int y2), (3, .int y3)]) C dX2_seekAll_23 (Nat.le_of_ble_eq_true rfl) rfl ?_
    refine x_aload_n C dX2_seekAll_25 1 rfl ?_
    refine x_dup C dX2_seekAll_26 rfl ?_
    refine gf_2_11 C q62 z2 dX2_seekAll_27 ?_
    refine x_iconst (v := 1) C dX2_seekAll_30 rfl ?_
    refine x_iadd C dX2_seekAll_31 ?_
    refine pf_2_11 C q62 z2 dX2_seekAll_32 ?_
    refine X_nameM (fun M5 eM5 => ?_)
    replace h := h M5 eM5
    refine x_aload C dX2_seekAll_35 0 rfl ?_
    refine x_iload_n C dX2_seekAll_37 2 rfl ?_
    refine x_callv (rest := []) C sv_X2_107 ob0 (vp_lt f4) (kX0_seek hG (vp_lt f4) _ _ h) rfl rfl (Nat.le_of_ble_eq_true rfl) ⟨Nat.le_of_ble_eq_true rfl, Nat.le_of_ble_eq_true rfl⟩ rfl rfl ⟨Nat.le_of_ble_eq_true rfl, Nat.le_of_ble_eq_true rfl⟩ dX2_seekAll_38 (fun M7 h => ?_)
    refine x_iload_n C dX2_seekAll_41 3 rfl ?_
    refine x_if_ne (tgt := 54) C dX2_seekAll_42 (by decide) (fun c8 => ?_) (fun c8 => ?_)
    · replace h := h.1 c8
      refine X_sub (lv' := [(0, .ref (ga G 2 0)), (1, .int x1), (3, .int y3)]) [1, 2, 4] rfl ?_
      exact wX2_seekAll_54 hG C E hL4 M7 y3 h
    · replace h := h.2 c8
      refine x_aload C dX2_seekAll_45 0 rfl ?_
      refine gf_0_12 C q53 (vp_lt f4) dX2_seekAll_47 ?_
      refine x_iload_n C dX2_seekAll_50 2 rfl ?_
      refine x_icmp_ne (tgt := 58) C dX2_seekAll_51 (by decide) (fun c9 => ?_) (fun c9 => ?_)
      · replace h := h.1 c9
        refine x_iconst (v := 0) C dX2_seekAll_58 rfl ?_
        refine x_istore_n (lv' := [(2, .int 0), (4, .ref (ga G 0 (tn (M.1 303 0 (tn y3))))), (0, .ref (ga G 2 0)), (1, .int x1), (3, .int y3)]) C dX2_seekAll_59 rfl (Nat.le_of_ble_eq_true rfl) rfl ?_
        refine X_sub (lv' := [(0, .ref (ga G 2 0)), (1, .int x1), (2, .int 0), (3, .int y3)]) [2, 3, 0, 4] rfl ?_
        exact wX2_seekAll_60 hG C E hL4 M7 0 y3 h
      · replace h := h.2 c9
        refine X_sub (lv' := [(0, .ref (ga G 2 0)), (1, .int x1), (3, .int y3)]) [1, 2, 4] rfl ?_
        exact wX2_seekAll_54 hG C E hL4 M7 y3 h
set_option maxRecDepth 100000 in
set_option maxHeartbeats 400000 in
theorem kX2_seekAll {l : Launch} {G : Gm} (hG : Gd G) (M : Mem) (x1 : Int32) {Q : Int32 → Mem → Prop} (h : pX2_seekAll M x1 Q) : Cti l G yX2_seekAll cX2_seekAll 5 .boolean rmX2_seekAll [.ref (ga G 2 0), .int x1] M Q := by
  refine cti_of (own := RX2) (by decide +kernel) rfl (Nat.le_of_ble_eq_true rfl) hG (fun Γ Qf hl C E => ?_)
  subst hl
  show X Γ G Qf 5 0 0 0 [(0, .ref (ga G 2 0)), (1, .int x1)] [] M
  unfold pX2_seekAll at h
  refine x_iconst (v := 0) C dX2_seekAll_0 rfl ?_
  refine x_istore_n (lv' := [(2, .int 0), (0, .ref (ga G 2 0)), (1, .int x1)]) C dX2_seekAll_1 rfl (Nat.le_of_ble_eq_true rfl) rfl ?_
  refine x_iconst (v := 0) C dX2_seekAll_2 rfl ?_
  refine x_istore_n (lv' := [(3, .int 0), (2, .int 0), (0, .ref (ga G 2 0)), (1, .int x1)]) C dX2_seekAll_3 rfl (Nat.le_of_ble_eq_true rfl) rfl ?_
  obtain ⟨n9, h⟩ := h
  refine X_sub (lv' := [(0, .ref (ga G 2 0)), (1, .int x1), (2, .int 0), (3, .int 0)]) [2, 3, 1, 0] rfl ?_
  have hb : ∀ (L : Mem × Int32 × Int32 → Prop) (s : Mem × Int32 × Int32), (∀ t, L t → X Γ G Qf 5 0 0 4 [(0, .ref (ga G 2 0)), (1, .int x1), (2, .int t.2.1), (3, .int t.2.2)] [] t.1) → bX2_seekAll_4 x1 Q L s.1 s.2.1 s.2.2 → X Γ G Qf 5 0 0 4 [(0, .ref (ga G 2 0)), (1, .int x1), (2, .int s.2.1), (3, .int s.2.2)] [] s.1 := fun L s hL h => wX2_seekAll_4 hG C E hL s.1 s.2.1 s.2.2 h
  have w9 := lp_walk (P := fun s : Mem × Int32 × Int32 => X Γ G Qf 5 0 0 4 [(0, .ref (ga G 2 0)), (1, .int x1), (2, .int s.2.1), (3, .int s.2.2)] [] s.1) h hb
  dsimp only at w9
  exact w9
def rmX4_isGone : Room := { frames := 0, cells := 0, slots := 0, locals := 0 }
def pX4_isGone (M : Mem) (x1 : Int32) (Q : Int32 → Mem → Prop) : Prop :=
  vp_in x1 64 ∧ ((¬ (M.1 503 0 (tn x1)) = 1 → Q 0 M) ∧ ((M.1 503 0 (tn x1)) = 1 → Q 1 M))
set_option maxRecDepth 100000 in
set_option maxHeartbeats 400000 in
theorem kX4_isGone {l : Launch} {G : Gm} (hG : Gd G) (M : Mem) (x1 : Int32) {Q : Int32 → Mem → Prop} (h : pX4_isGone M x1 Q) : Cti l G yX4_isGone cX4_isGone 2 .boolean rmX4_isGone [.ref (ga G 4 0), .int x1] M Q := by
  refine cti_of (own := RX4) (by decide +kernel) rfl (Nat.le_of_ble_eq_true rfl) hG (fun Γ Qf hl C E => ?_)
  subst hl
  show X Γ G Qf 2 0 0 0 [(0, .ref (ga G 4 0)), (1, .int x1)] [] M
  unfold pX4_isGone at h
  refine x_aload_n C dX4_isGone_0 0 rfl ?_
  refine gf_4_3 C q63 z4 dX4_isGone_1 ?_
  refine x_iload_n C dX4_isGone_4 1 rfl ?_
  obtain ⟨f1, h⟩ := h
  refine al_503 C z503 f1 dX4_isGone_5 ?_
  refine x_iconst (v := 1) C dX4_isGone_6 rfl ?_
  refine x_icmp_ne (tgt := 14) C dX4_isGone_7 (by decide) (fun c2 => ?_) (fun c2 => ?_)
  · replace h := h.1 c2
    refine x_iconst (v := 0) C dX4_isGone_14 rfl ?_
    exact x_zret C E h rfl (Nat.le_of_ble_eq_true rfl) (Nat.le_of_ble_eq_true rfl) dX4_isGone_15
  · replace h := h.2 c2
    refine x_iconst (v := 1) C dX4_isGone_10 rfl ?_
    refine x_goto (tgt := 15) C dX4_isGone_11 (by decide) ?_
    exact x_zret C E h rfl (Nat.le_of_ble_eq_true rfl) (Nat.le_of_ble_eq_true rfl) dX4_isGone_15
def rmX3_hasWord : Room := { frames := 0, cells := 0, slots := 0, locals := 0 }
def pX3_hasWord (M : Mem) (x1 : Int32) (x2 : Int32) (Q : Int32 → Mem → Prop) : Prop :=
  vp_in x2 255 ∧ vp_in x1 64 ∧ (((M.1 5508 (tn x2) (tn x1)) ≤ 0 → Q 0 M) ∧ (¬ (M.1 5508 (tn x2) (tn x1)) ≤ 0 → Q 1 M))
set_option maxRecDepth 100000 in
set_option maxHeartbeats 400000 in
theorem kX3_hasWord {l : Launch} {G : Gm} (hG : Gd G) (M : Mem) (x1 : Int32) (x2 : Int32) {Q : Int32 → Mem → Prop} (h : pX3_hasWord M x1 x2 Q) : Cti l G yX3_hasWord cX3_hasWord 3 .boolean rmX3_hasWord [.ref (ga G 3 0), .int x1, .int x2] M Q := by
  refine cti_of (own := RX3) (by decide +kernel) rfl (Nat.le_of_ble_eq_true rfl) hG (fun Γ Qf hl C E => ?_)
  subst hl
  show X Γ G Qf 3 0 0 0 [(0, .ref (ga G 3 0)), (1, .int x1), (2, .int x2)] [] M
  unfold pX3_hasWord at h
  refine x_aload_n C dX3_hasWord_0 0 rfl ?_
  refine gf_3_0 C q64 z3 dX3_hasWord_1 ?_
  refine gf_4_8 C q65 z4 dX3_hasWord_4 ?_
  refine x_iload_n C dX3_hasWord_7 2 rfl ?_
  obtain ⟨f1, h⟩ := h
  refine al_508 C z508 f1 dX3_hasWord_8 ?_
  refine x_iload_n C dX3_hasWord_9 1 rfl ?_
  obtain ⟨f2, h⟩ := h
  refine al_5508 C (vp_lt f1) f2 dX3_hasWord_10 ?_
  refine x_if_le (tgt := 18) C dX3_hasWord_11 (by decide) (fun c3 => ?_) (fun c3 => ?_)
  · replace h := h.1 c3
    refine x_iconst (v := 0) C dX3_hasWord_18 rfl ?_
    exact x_zret C E h rfl (Nat.le_of_ble_eq_true rfl) (Nat.le_of_ble_eq_true rfl) dX3_hasWord_19
  · replace h := h.2 c3
    refine x_iconst (v := 1) C dX3_hasWord_14 rfl ?_
    refine x_goto (tgt := 19) C dX3_hasWord_15 (by decide) ?_
    exact x_zret C E h rfl (Nat.le_of_ble_eq_true rfl) (Nat.le_of_ble_eq_true rfl) dX3_hasWord_19
def rmX3_hasSomeScored : Room := { frames := 1, cells := 0, slots := 0, locals := 22 }
def bX3_hasSomeScored_37 (x1 : Int32) (x2 : Int32) (Q : Int32 → Mem → Prop) (L2 : Mem × Int32 → Prop) (M : Mem) (y3 : Int32) : Prop :=
  ∀ v7 : Int32, v7 = y3 + 1 → L2 (M, v7)
def bX3_hasSomeScored_2 (x1 : Int32) (x2 : Int32) (Q : Int32 → Mem → Prop) (L2 : Mem × Int32 → Prop) (M : Mem) (y3 : Int32) : Prop :=
  (((M.1 701 0 0) ≤ y3 → Q 0 M) ∧ (¬ (M.1 701 0 0) ≤ y3 → ((y3 = x2 → bX3_hasSomeScored_37 x1 x2 Q L2 M y3) ∧ (¬ y3 = x2 → vp_in y3 24 ∧ pX3_hasWord M x1 (M.1 702 0 (tn y3)) (fun r4 M5 => ((r4 = 0 → bX3_hasSomeScored_37 x1 x2 Q L2 M5 y3) ∧ (¬ r4 = 0 → Q 1 M5)))))))
def pX3_hasSomeScored (M : Mem) (x1 : Int32) (x2 : Int32) (Q : Int32 → Mem → Prop) : Prop :=
  ∃ n : Nat, lp (fun L s => bX3_hasSomeScored_2 x1 x2 Q L s.1 s.2) n (M, 0)
set_option maxRecDepth 100000 in
set_option maxHeartbeats 400000 in
theorem wX3_hasSomeScored_37 {Γ : Gam} {G : Gm} {Qf : State → Prop} (hG : Gd G) (C : Cx Γ G cX3_hasSomeScored 4 RX3 (some .boolean) rmX3_hasSomeScored) {x1 : Int32} {x2 : Int32} {Q : Int32 → Mem → Prop} (E : EndI Γ G Qf rmX3_hasSomeScored Q) {L2 : Mem × Int32 → Prop} (hL2 : ∀ s, L2 s → X Γ G Qf 4 0 0 2 [(0, .ref (ga G 3 0)), (1, .int x1), (2, .int x2), (3, .int s.2)] [] s.1) (M : Mem) (y3 : Int32) (h : bX3_hasSomeScored_37 x1 x2 Q L2 M y3) : X Γ G Qf 4 0 0 37 [(0, .ref (ga G 3 0)), (1, .int x1), (2, .int x2), (3, .int y3)] [] M := by
  unfold bX3_hasSomeScored_37 at h
  obtain ⟨v7, ev7⟩ : ∃ z : Int32, z = y3 + 1 := ⟨_, rfl⟩
  replace h := h v7 ev7
  refine x_iinc (v := v7) (lv' := [(3, .int v7), (0, .ref (ga G 3 0)), (1, .int x1), (2, .int x2)]) (j := 3) C dX3_hasSomeScored_37 rfl (by rw [ev7]; rfl) (Nat.le_of_ble_eq_true rfl) rfl ?_
  refine x_goto (tgt := 2) C dX3_hasSomeScored_40 (by decide) ?_
  refine X_sub (lv' := [(0, .ref (ga G 3 0)), (1, .int x1), (2, .int x2), (3, .int v7)]) [1, 2, 3, 0] rfl ?_
  have w9 := hL2 (M, v7) h
  dsimp only at w9
  exact w9
set_option maxRecDepth 100000 in
set_option maxHeartbeats 400000 in
theorem wX3_hasSomeScored_2 {Γ : Gam} {G : Gm} {Qf : State → Prop} (hG : Gd G) (C : Cx Γ G cX3_hasSomeScored 4 RX3 (some .boolean) rmX3_hasSomeScored) {x1 : Int32} {x2 : Int32} {Q : Int32 → Mem → Prop} (E : EndI Γ G Qf rmX3_hasSomeScored Q) {L2 : Mem × Int32 → Prop} (hL2 : ∀ s, L2 s → X Γ G Qf 4 0 0 2 [(0, .ref (ga G 3 0)), (1, .int x1), (2, .int x2), (3, .int s.2)] [] s.1) (M : Mem) (y3 : Int32) (h : bX3_hasSomeScored_2 x1 x2 Q L2 M y3) : X Γ G Qf 4 0 0 2 [(0, .ref (ga G 3 0)), (1, .int x1), (2, .int x2), (3, .int y3)] [] M := by
  unfold bX3_hasSomeScored_2 at h
  refine x_iload_n C dX3_hasSomeScored_2 3 rfl ?_
  refine x_aload_n C dX3_hasSomeScored_3 0 rfl ?_
  refine gf_3_1 C q66 z3 dX3_hasSomeScored_4 ?_
  refine gf_6_1 C q67 z6 dX3_hasSomeScored_7 ?_
  refine x_icmp_ge (tgt := 43) C dX3_hasSomeScored_10 (by decide) (fun c1 => ?_) (fun c1 => ?_)
  · replace h := h.1 c1
    refine x_iconst (v := 0) C dX3_hasSomeScored_43 rfl ?_
    exact x_zret C E h rfl (Nat.le_of_ble_eq_true rfl) (Nat.le_of_ble_eq_true rfl) dX3_hasSomeScored_44
  · replace h := h.2 c1
    refine x_iload_n C dX3_hasSomeScored_13 3 rfl ?_
    refine x_iload_n C dX3_hasSomeScored_14 2 rfl ?_
    refine x_icmp_eq (tgt := 37) C dX3_hasSomeScored_15 (by decide) (fun c2 => ?_) (fun c2 => ?_)
    · replace h := h.1 c2
      refine X_sub (lv' := [(0, .ref (ga G 3 0)), (1, .int x1), (2, .int x2), (3, .int y3)]) [0, 1, 2, 3] rfl ?_
      exact wX3_hasSomeScored_37 hG C E hL2 M y3 h
    · replace h := h.2 c2
      refine x_aload_n C dX3_hasSomeScored_18 0 rfl ?_
      refine x_iload_n C dX3_hasSomeScored_19 1 rfl ?_
      refine x_aload_n C dX3_hasSomeScored_20 0 rfl ?_
      refine gf_3_1 C q66 z3 dX3_hasSomeScored_21 ?_
      refine gf_6_2 C q68 z6 dX3_hasSomeScored_24 ?_
      refine x_iload_n C dX3_hasSomeScored_27 3 rfl ?_
      obtain ⟨f3, h⟩ := h
      refine al_702 C z702 f3 dX3_hasSomeScored_28 ?_
      refine x_calli (rest := []) C sv_X3_61 ob3 z3 (kX3_hasWord hG _ _ _ h) rfl rfl (Nat.le_of_ble_eq_true rfl) ⟨Nat.le_of_ble_eq_true rfl, Nat.le_of_ble_eq_true rfl⟩ rfl rfl ⟨Nat.le_of_ble_eq_true rfl, Nat.le_of_ble_eq_true rfl⟩ dX3_hasSomeScored_29 (fun r4 M5 h => ?_)
      refine x_if_eq (tgt := 37) C dX3_hasSomeScored_32 (by decide) (fun c6 => ?_) (fun c6 => ?_)
      · replace h := h.1 c6
        refine X_sub (lv' := [(0, .ref (ga G 3 0)), (1, .int x1), (2, .int x2), (3, .int y3)]) [0, 1, 2, 3] rfl ?_
        exact wX3_hasSomeScored_37 hG C E hL2 M5 y3 h
      · replace h := h.2 c6
        refine x_iconst (v := 1) C dX3_hasSomeScored_35 rfl ?_
        exact x_zret C E h rfl (Nat.le_of_ble_eq_true rfl) (Nat.le_of_ble_eq_true rfl) dX3_hasSomeScored_36
set_option maxRecDepth 100000 in
set_option maxHeartbeats 400000 in
theorem kX3_hasSomeScored {l : Launch} {G : Gm} (hG : Gd G) (M : Mem) (x1 : Int32) (x2 : Int32) {Q : Int32 → Mem → Prop} (h : pX3_hasSomeScored M x1 x2 Q) : Cti l G yX3_hasSomeScored cX3_hasSomeScored 4 .boolean rmX3_hasSomeScored [.ref (ga G 3 0), .int x1, .int x2] M Q := by
  refine cti_of (own := RX3) (by decide +kernel) rfl (Nat.le_of_ble_eq_true rfl) hG (fun Γ Qf hl C E => ?_)
  subst hl
  show X Γ G Qf 4 0 0 0 [(0, .ref (ga G 3 0)), (1, .int x1), (2, .int x2)] [] M
  unfold pX3_hasSomeScored at h
  refine x_iconst (v := 0) C dX3_hasSomeScored_0 rfl ?_
  refine x_istore_n (lv' := [(3, .int 0), (0, .ref (ga G 3 0)), (1, .int x1), (2, .int x2)]) C dX3_hasSomeScored_1 rfl (Nat.le_of_ble_eq_true rfl) rfl ?_
  obtain ⟨n9, h⟩ := h
  refine X_sub (lv' := [(0, .ref (ga G 3 0)), (1, .int x1), (2, .int x2), (3, .int 0)]) [1, 2, 3, 0] rfl ?_
  have hb : ∀ (L : Mem × Int32 → Prop) (s : Mem × Int32), (∀ t, L t → X Γ G Qf 4 0 0 2 [(0, .ref (ga G 3 0)), (1, .int x1), (2, .int x2), (3, .int t.2)] [] t.1) → bX3_hasSomeScored_2 x1 x2 Q L s.1 s.2 → X Γ G Qf 4 0 0 2 [(0, .ref (ga G 3 0)), (1, .int x1), (2, .int x2), (3, .int s.2)] [] s.1 := fun L s hL h => wX3_hasSomeScored_2 hG C E hL s.1 s.2 h
  have w9 := lp_walk (P := fun s : Mem × Int32 => X Γ G Qf 4 0 0 2 [(0, .ref (ga G 3 0)), (1, .int x1), (2, .int x2), (3, .int s.2)] [] s.1) h hb
  dsimp only at w9
  exact w9
