def rmX4_keepHeld : Room := { frames := 1, cells := 0, slots := 0, locals := 21 }
def bX4_keepHeld_46 (x1 : Int32) (Q : Mem → Prop) (L4 : Mem × Int32 × Int32 → Prop) (M : Mem) (y2 : Int32) (y3 : Int32) : Prop :=
  ∀ v12 : Int32, v12 = y3 + 1 → L4 (M, y2, v12)
def bX4_keepHeld_4 (x1 : Int32) (Q : Mem → Prop) (L4 : Mem × Int32 × Int32 → Prop) (M : Mem) (y2 : Int32) (y3 : Int32) : Prop :=
  vp_in x1 255 ∧ (((M.1 511 0 (tn x1)) ≤ y3 → ∀ M3 : Mem, M3 = up1 M 511 0 (tn x1) y2 → Q M3) ∧ (¬ (M.1 511 0 (tn x1)) ≤ y3 → vp_in y3 64 ∧ ∀ v5 : Int32, v5 = (M.1 5510 (tn x1) (tn y3)) → pX4_holds M v5 (fun r6 M7 => ((r6 = 0 → bX4_keepHeld_46 x1 Q L4 M7 y2 y3) ∧ (¬ r6 = 0 → vp_in y2 64 ∧ ∀ M10 : Mem, M10 = up1 M7 5510 (tn x1) (tn y2) v5 → ∀ v11 : Int32, v11 = y2 + 1 → bX4_keepHeld_46 x1 Q L4 M10 v11 y3)))))
def pX4_keepHeld (M : Mem) (x1 : Int32) (Q : Mem → Prop) : Prop :=
  ∃ n : Nat, lp (fun L s => bX4_keepHeld_4 x1 Q L s.1 s.2.1 s.2.2) n (M, 0, 0)
set_option maxRecDepth 100000 in
set_option maxHeartbeats 400000 in
theorem wX4_keepHeld_46 {Γ : Gam} {G : Gm} {Qf : State → Prop} (hG : Gd G) (C : Cx Γ G cX4_keepHeld 5 RX4 none rmX4_keepHeld) {x1 : Int32} {Q : Mem → Prop} (E : EndV Γ G Qf rmX4_keepHeld Q) {L4 : Mem × Int32 × Int32 → Prop} (hL4 : ∀ s, L4 s → X Γ G Qf 5 0 0 4 [(0, .ref (ga G 4 0)), (1, .int x1), (2, .int s.2.1), (3, .int s.2.2)] [] s.1) (M : Mem) (y2 : Int32) (y3 : Int32) (h : bX4_keepHeld_46 x1 Q L4 M y2 y3) : X Γ G Qf 5 0 0 46 [(0, .ref (ga G 4 0)), (1, .int x1), (2, .int y2), (3, .int y3)] [] M := by
  unfold bX4_keepHeld_46 at h
  obtain ⟨v12, ev12⟩ : ∃ z : Int32, z = y3 + 1 := ⟨_, rfl⟩
  replace h := h v12 ev12
  refine x_iinc (v := v12) (lv' := [(3, .int v12), (0, .ref (ga G 4 0)), (1, .int x1), (2, .int y2)]) (j := 3) C dX4_keepHeld_46 rfl (by rw [ev12]; rfl) (Nat.le_of_ble_eq_true rfl) rfl ?_
  refine x_goto (tgt := 4) C dX4_keepHeld_49 (by decide) ?_
  refine X_sub (lv' := [(0, .ref (ga G 4 0)), (1, .int x1), (2, .int y2), (3, .int v12)]) [1, 2, 3, 0] rfl ?_
  have w9 := hL4 (M, y2, v12) h
  dsimp only at w9
  exact w9
set_option maxRecDepth 100000 in
set_option maxHeartbeats 400000 in
theorem wX4_keepHeld_4 {Γ : Gam} {G : Gm} {Qf : State → Prop} (hG : Gd G) (C : Cx Γ G cX4_keepHeld 5 RX4 none rmX4_keepHeld) {x1 : Int32} {Q : Mem → Prop} (E : EndV Γ G Qf rmX4_keepHeld Q) {L4 : Mem × Int32 × Int32 → Prop} (hL4 : ∀ s, L4 s → X Γ G Qf 5 0 0 4 [(0, .ref (ga G 4 0)), (1, .int x1), (2, .int s.2.1), (3, .int s.2.2)] [] s.1) (M : Mem) (y2 : Int32) (y3 : Int32) (h : bX4_keepHeld_4 x1 Q L4 M y2 y3) : X Γ G Qf 5 0 0 4 [(0, .ref (ga G 4 0)), (1, .int x1), (2, .int y2), (3, .int y3)] [] M := by
  unfold bX4_keepHeld_4 at h
  refine x_iload_n C dX4_keepHeld_4 3 rfl ?_
  refine x_aload_n C dX4_keepHeld_5 0 rfl ?_
  refine gf_4_11 C q0 z4 dX4_keepHeld_6 ?_
  refine x_iload_n C dX4_keepHeld_9 1 rfl ?_
  obtain ⟨f1, h⟩ := h
  refine al_511 C z511 f1 dX4_keepHeld_10 ?_
  refine x_icmp_ge (tgt := 52) C dX4_keepHeld_11 (by decide) (fun c2 => ?_) (fun c2 => ?_)
  · replace h := h.1 c2
    refine x_aload_n C dX4_keepHeld_52 0 rfl ?_
    refine gf_4_11 C q0 z4 dX4_keepHeld_53 ?_
    refine x_iload_n C dX4_keepHeld_56 1 rfl ?_
    refine x_iload_n C dX4_keepHeld_57 2 rfl ?_
    refine as_511 C z511 f1 dX4_keepHeld_58 ?_
    refine X_nameM (fun M3 eM3 => ?_)
    replace h := h M3 eM3
    exact x_vret C E h (Nat.le_of_ble_eq_true rfl) (Nat.le_of_ble_eq_true rfl) dX4_keepHeld_59
  · replace h := h.2 c2
    refine x_aload_n C dX4_keepHeld_14 0 rfl ?_
    refine gf_4_10 C q96 z4 dX4_keepHeld_15 ?_
    refine x_iload_n C dX4_keepHeld_18 1 rfl ?_
    refine al_510 C z510 f1 dX4_keepHeld_19 ?_
    refine x_iload_n C dX4_keepHeld_20 3 rfl ?_
    obtain ⟨f4, h⟩ := h
    refine al_5510 C (vp_lt f1) f4 dX4_keepHeld_21 ?_
    refine X_name (fun v5 ev5 => ?_)
    replace h := h v5 ev5
    refine x_istore (lv' := [(4, .int v5), (0, .ref (ga G 4 0)), (1, .int x1), (2, .int y2), (3, .int y3)]) C dX4_keepHeld_22 (Nat.le_of_ble_eq_true rfl) rfl ?_
    refine x_aload_n C dX4_keepHeld_24 1 rfl ?_
    refine x_iload C dX4_keepHeld_25 0 rfl ?_
    refine x_calli (rest := []) C sv_X4_74 ob4 z4 (kX4_holds hG _ _ h) rfl rfl (Nat.le_of_ble_eq_true rfl) ⟨Nat.le_of_ble_eq_true rfl, Nat.le_of_ble_eq_true rfl⟩ rfl rfl ⟨Nat.le_of_ble_eq_true rfl, Nat.le_of_ble_eq_true rfl⟩ dX4_keepHeld_27 (fun r6 M7 h => ?_)
    refine x_if_eq (tgt := 46) C dX4_keepHeld_30 (by decide) (fun c8 => ?_) (fun c8 => ?_)
    · replace h := h.1 c8
      refine X_sub (lv' := [(0, .ref (ga G 4 0)), (1, .int x1), (2, .int y2), (3, .int y3)]) [1, 2, 3, 4] rfl ?_
      exact wX4_keepHeld_46 hG C E hL4 M7 y2 y3 h
    · replace h := h.2 c8
      refine x_aload_n C dX4_keepHeld_33 1 rfl ?_
      refine gf_4_10 C q96 z4 dX4_keepHeld_34 ?_
      refine x_iload_n C dX4_keepHeld_37 2 rfl ?_
      refine al_510 C z510 f1 dX4_keepHeld_38 ?_
      refine x_iload_n C dX4_keepHeld_39 3 rfl ?_
      refine x_iload C dX4_keepHeld_40 0 rfl ?_
      obtain ⟨f9, h⟩ := h
      refine as_5510 C (vp_lt f1) f9 dX4_keepHeld_42 ?_
      refine X_nameM (fun M10 eM10 => ?_)
      replace h := h M10 eM10
      obtain ⟨v11, ev11⟩ : ∃ z : Int32, z = y2 + 1 := ⟨_, rfl⟩
      replace h := h v11 ev11
      refine x_iinc (v := v11) (lv' := [(2, .int v11), (4, .int v5), (0, .ref (ga G 4 0)), (1, .int x1), (3, .int y3)]) (j := 3) C dX4_keepHeld_43 rfl (by rw [ev11]; rfl) (Nat.le_of_ble_eq_true rfl) rfl ?_
      refine X_sub (lv' := [(0, .ref (ga G 4 0)), (1, .int x1), (2, .int v11), (3, .int y3)]) [2, 3, 0, 4] rfl ?_
      exact wX4_keepHeld_46 hG C E hL4 M10 v11 y3 h
set_option maxRecDepth 100000 in
set_option maxHeartbeats 400000 in
theorem kX4_keepHeld {l : Launch} {G : Gm} (hG : Gd G) (M : Mem) (x1 : Int32) {Q : Mem → Prop} (h : pX4_keepHeld M x1 Q) : Ctv l G yX4_keepHeld cX4_keepHeld 5 rmX4_keepHeld [.ref (ga G 4 0), .int x1] M Q := by
  refine ctv_of (own := RX4) (by decide +kernel) rfl (Nat.le_of_ble_eq_true rfl) hG (fun Γ Qf hl C E => ?_)
  subst hl
  show X Γ G Qf 5 0 0 0 [(0, .ref (ga G 4 0)), (1, .int x1)] [] M
  unfold pX4_keepHeld at h
  refine x_iconst (v := 0) C dX4_keepHeld_0 rfl ?_
  refine x_istore_n (lv' := [(2, .int 0), (0, .ref (ga G 4 0)), (1, .int x1)]) C dX4_keepHeld_1 rfl (Nat.le_of_ble_eq_true rfl) rfl ?_
  refine x_iconst (v := 0) C dX4_keepHeld_2 rfl ?_
  refine x_istore_n (lv' := [(3, .int 0), (2, .int 0), (0, .ref (ga G 4 0)), (1, .int x1)]) C dX4_keepHeld_3 rfl (Nat.le_of_ble_eq_true rfl) rfl ?_
  obtain ⟨n9, h⟩ := h
  refine X_sub (lv' := [(0, .ref (ga G 4 0)), (1, .int x1), (2, .int 0), (3, .int 0)]) [2, 3, 1, 0] rfl ?_
  have hb : ∀ (L : Mem × Int32 × Int32 → Prop) (s : Mem × Int32 × Int32), (∀ t, L t → X Γ G Qf 5 0 0 4 [(0, .ref (ga G 4 0)), (1, .int x1), (2, .int t.2.1), (3, .int t.2.2)] [] t.1) → bX4_keepHeld_4 x1 Q L s.1 s.2.1 s.2.2 → X Γ G Qf 5 0 0 4 [(0, .ref (ga G 4 0)), (1, .int x1), (2, .int s.2.1), (3, .int s.2.2)] [] s.1 := fun L s hL h => wX4_keepHeld_4 hG C E hL s.1 s.2.1 s.2.2 h
  have w9 := lp_walk (P := fun s : Mem × Int32 × Int32 => X Γ G Qf 5 0 0 4 [(0, .ref (ga G 4 0)), (1, .int x1), (2, .int s.2.1), (3, .int s.2.2)] [] s.1) h hb
  dsimp only at w9
  exact w9
def rmX4_purge : Room := { frames := 2, cells := 0, slots := 0, locals := 45 }
def bX4_purge_55 (Q : Int32 → Mem → Prop) (L55 : Mem × Int32 × Int32 → Prop) (M : Mem) (y1 : Int32) (y2 : Int32) : Prop :=
  (((M.1 1001 0 0) ≤ y2 → Q y1 M) ∧ (¬ (M.1 1001 0 0) ≤ y2 → pX4_keepHeld M y2 (fun M11 => ∀ v12 : Int32, v12 = y2 + 1 → L55 (M11, y1, v12))))
def bX4_purge_32 (Q : Int32 → Mem → Prop) (L7 : Mem × Int32 × Int32 → Prop) (M : Mem) (y1 : Int32) (y2 : Int32) : Prop :=
  ∀ v8 : Int32, v8 = y2 + 1 → L7 (M, y1, v8)
def bX4_purge_7 (Q : Int32 → Mem → Prop) (L7 : Mem × Int32 × Int32 → Prop) (M : Mem) (y1 : Int32) (y2 : Int32) : Prop :=
  (((M.1 504 0 0) ≤ y2 → ∀ M3 : Mem, M3 = up1 M 505 0 0 ((M.1 505 0 0) - y1) → ∀ M4 : Mem, M4 = up1 M3 506 0 0 0 → ∃ n : Nat, lp (fun L s => bX4_purge_55 Q L s.1 s.2.1 s.2.2) n (M4, y1, 0)) ∧ (¬ (M.1 504 0 0) ≤ y2 → vp_in y2 64 ∧ ((¬ (M.1 503 0 (tn y2)) = 1 → bX4_purge_32 Q L7 M y1 y2) ∧ ((M.1 503 0 (tn y2)) = 1 → ∀ M7 : Mem, M7 = up1 M 503 0 (tn y2) 2 → bX4_purge_32 Q L7 M7 y1 y2))))
def pX4_purge (M : Mem) (Q : Int32 → Mem → Prop) : Prop :=
  ∀ v1 : Int32, v1 = (M.1 506 0 0) → ∃ n : Nat, lp (fun L s => bX4_purge_7 Q L s.1 s.2.1 s.2.2) n (M, v1, 0)
set_option maxRecDepth 100000 in
set_option maxHeartbeats 400000 in
theorem wX4_purge_55 {Γ : Gam} {G : Gm} {Qf : State → Prop} (hG : Gd G) (C : Cx Γ G cX4_purge 3 RX4 (some .int) rmX4_purge)  {Q : Int32 → Mem → Prop} (E : EndI Γ G Qf rmX4_purge Q) {L55 : Mem × Int32 × Int32 → Prop} (hL55 : ∀ s, L55 s → X Γ G Qf 3 0 0 55 [(0, .ref (ga G 4 0)), (1, .int s.2.1), (2, .int s.2.2)] [] s.1) (M : Mem) (y1 : Int32) (y2 : Int32) (h : bX4_purge_55 Q L55 M y1 y2) : X Γ G Qf 3 0 0 55 [(0, .ref (ga G 4 0)), (1, .int y1), (2, .int y2)] [] M := by
  unfold bX4_purge_55 at h
  refine x_iload_n C dX4_purge_55 2 rfl ?_
  refine x_aload_n C dX4_purge_56 0 rfl ?_
  refine gf_4_0 C q100 z4 dX4_purge_57 ?_
  refine gf_9_1 C q101 z9 dX4_purge_60 ?_
  refine x_icmp_ge (tgt := 77) C dX4_purge_63 (by decide) (fun c9 => ?_) (fun c9 => ?_)
  · replace h := h.1 c9
    refine x_iload_n C dX4_purge_77 1 rfl ?_
    exact x_iret C E h (Nat.le_of_ble_eq_true rfl) (Nat.le_of_ble_eq_true rfl) dX4_purge_78
  · replace h := h.2 c9
    refine x_aload_n C dX4_purge_66 0 rfl ?_
    refine x_iload_n C dX4_purge_67 2 rfl ?_
    refine x_callv (rest := []) C sv_X4_70 ob4 z4 (kX4_keepHeld hG _ _ h) rfl rfl (Nat.le_of_ble_eq_true rfl) ⟨Nat.le_of_ble_eq_true rfl, Nat.le_of_ble_eq_true rfl⟩ rfl rfl ⟨Nat.le_of_ble_eq_true rfl, Nat.le_of_ble_eq_true rfl⟩ dX4_purge_68 (fun M11 h => ?_)
    obtain ⟨v12, ev12⟩ : ∃ z : Int32, z = y2 + 1 := ⟨_, rfl⟩
    replace h := h v12 ev12
    refine x_iinc (v := v12) (lv' := [(2, .int v12), (0, .ref (ga G 4 0)), (1, .int y1)]) (j := 2) C dX4_purge_71 rfl (by rw [ev12]; rfl) (Nat.le_of_ble_eq_true rfl) rfl ?_
    refine x_goto (tgt := 55) C dX4_purge_74 (by decide) ?_
    refine X_sub (lv' := [(0, .ref (ga G 4 0)), (1, .int y1), (2, .int v12)]) [1, 2, 0] rfl ?_
    have w9 := hL55 (M11, y1, v12) h
    dsimp only at w9
    exact w9
set_option maxRecDepth 100000 in
set_option maxHeartbeats 400000 in
theorem wX4_purge_32 {Γ : Gam} {G : Gm} {Qf : State → Prop} (hG : Gd G) (C : Cx Γ G cX4_purge 3 RX4 (some .int) rmX4_purge)  {Q : Int32 → Mem → Prop} (E : EndI Γ G Qf rmX4_purge Q) {L7 : Mem × Int32 × Int32 → Prop} (hL7 : ∀ s, L7 s → X Γ G Qf 3 0 0 7 [(0, .ref (ga G 4 0)), (1, .int s.2.1), (2, .int s.2.2)] [] s.1) (M : Mem) (y1 : Int32) (y2 : Int32) (h : bX4_purge_32 Q L7 M y1 y2) : X Γ G Qf 3 0 0 32 [(0, .ref (ga G 4 0)), (1, .int y1), (2, .int y2)] [] M := by
  unfold bX4_purge_32 at h
  obtain ⟨v8, ev8⟩ : ∃ z : Int32, z = y2 + 1 := ⟨_, rfl⟩
  replace h := h v8 ev8
  refine x_iinc (v := v8) (lv' := [(2, .int v8), (0, .ref (ga G 4 0)), (1, .int y1)]) (j := 2) C dX4_purge_32 rfl (by rw [ev8]; rfl) (Nat.le_of_ble_eq_true rfl) rfl ?_
  refine x_goto (tgt := 7) C dX4_purge_35 (by decide) ?_
  refine X_sub (lv' := [(0, .ref (ga G 4 0)), (1, .int y1), (2, .int v8)]) [1, 2, 0] rfl ?_
  have w9 := hL7 (M, y1, v8) h
  dsimp only at w9
  exact w9
set_option maxRecDepth 100000 in
set_option maxHeartbeats 400000 in
theorem wX4_purge_7 {Γ : Gam} {G : Gm} {Qf : State → Prop} (hG : Gd G) (C : Cx Γ G cX4_purge 3 RX4 (some .int) rmX4_purge)  {Q : Int32 → Mem → Prop} (E : EndI Γ G Qf rmX4_purge Q) {L7 : Mem × Int32 × Int32 → Prop} (hL7 : ∀ s, L7 s → X Γ G Qf 3 0 0 7 [(0, .ref (ga G 4 0)), (1, .int s.2.1), (2, .int s.2.2)] [] s.1) (M : Mem) (y1 : Int32) (y2 : Int32) (h : bX4_purge_7 Q L7 M y1 y2) : X Γ G Qf 3 0 0 7 [(0, .ref (ga G 4 0)), (1, .int y1), (2, .int y2)] [] M := by
  unfold bX4_purge_7 at h
  refine x_iload_n C dX4_purge_7 2 rfl ?_
  refine x_aload_n C dX4_purge_8 0 rfl ?_
  refine gf_4_4 C q94 z4 dX4_purge_9 ?_
  refine x_icmp_ge (tgt := 38) C dX4_purge_12 (by decide) (fun c2 => ?_) (fun c2 => ?_)
  · replace h := h.1 c2
    refine x_aload_n C dX4_purge_38 0 rfl ?_
    refine x_dup C dX4_purge_39 rfl ?_
    refine gf_4_5 C q1 z4 dX4_purge_40 ?_
    refine x_iload_n C dX4_purge_43 1 rfl ?_
    refine x_isub C dX4_purge_44 ?_
    refine pf_4_5 C q1 z4 dX4_purge_45 ?_
    refine X_nameM (fun M3 eM3 => ?_)
    replace h := h M3 eM3
    refine x_aload_n C dX4_purge_48 0 rfl ?_
    refine x_iconst (v := 0) C dX4_purge_49 rfl ?_
    refine pf_4_6 C q99 z4 dX4_purge_50 ?_
    refine X_nameM (fun M4 eM4 => ?_)
    replace h := h M4 eM4
    refine x_iconst (v := 0) C dX4_purge_53 rfl ?_
    refine x_istore_n (lv' := [(2, .int 0), (0, .ref (ga G 4 0)), (1, .int y1)]) C dX4_purge_54 rfl (Nat.le_of_ble_eq_true rfl) rfl ?_
    obtain ⟨n9, h⟩ := h
    refine X_sub (lv' := [(0, .ref (ga G 4 0)), (1, .int y1), (2, .int 0)]) [1, 2, 0] rfl ?_
    have hb : ∀ (L : Mem × Int32 × Int32 → Prop) (s : Mem × Int32 × Int32), (∀ t, L t → X Γ G Qf 3 0 0 55 [(0, .ref (ga G 4 0)), (1, .int t.2.1), (2, .int t.2.2)] [] t.1) → bX4_purge_55 Q L s.1 s.2.1 s.2.2 → X Γ G Qf 3 0 0 55 [(0, .ref (ga G 4 0)), (1, .int s.2.1), (2, .int s.2.2)] [] s.1 := fun L s hL h => wX4_purge_55 hG C E hL s.1 s.2.1 s.2.2 h
    have w9 := lp_walk (P := fun s : Mem × Int32 × Int32 => X Γ G Qf 3 0 0 55 [(0, .ref (ga G 4 0)), (1, .int s.2.1), (2, .int s.2.2)] [] s.1) h hb
    dsimp only at w9
    exact w9
  · replace h := h.2 c2
    refine x_aload_n C dX4_purge_15 0 rfl ?_
    refine gf_4_3 C q63 z4 dX4_purge_16 ?_
    refine x_iload_n C dX4_purge_19 2 rfl ?_
    obtain ⟨f5, h⟩ := h
    refine al_503 C z503 f5 dX4_purge_20 ?_
    refine x_iconst (v := 1) C dX4_purge_21 rfl ?_
    refine x_icmp_ne (tgt := 32) C dX4_purge_22 (by decide) (fun c6 => ?_) (fun c6 => ?_)
    · replace h := h.1 c6
      refine X_sub (lv' := [(0, .ref (ga G 4 0)), (1, .int y1), (2, .int y2)]) [0, 1, 2] rfl ?_
      exact wX4_purge_32 hG C E hL7 M y1 y2 h
    · replace h := h.2 c6
      refine x_aload_n C dX4_purge_25 0 rfl ?_
      refine gf_4_3 C q63 z4 dX4_purge_26 ?_
      refine x_iload_n C dX4_purge_29 2 rfl ?_
      refine x_iconst (v := 2) C dX4_purge_30 rfl ?_
      refine as_503 C z503 f5 dX4_purge_31 ?_
      refine X_nameM (fun M7 eM7 => ?_)
      replace h := h M7 eM7
      refine X_sub (lv' := [(0, .ref (ga G 4 0)), (1, .int y1), (2, .int y2)]) [0, 1, 2] rfl ?_
      exact wX4_purge_32 hG C E hL7 M7 y1 y2 h
set_option maxRecDepth 100000 in
set_option maxHeartbeats 400000 in
theorem kX4_purge {l : Launch} {G : Gm} (hG : Gd G) (M : Mem)  {Q : Int32 → Mem → Prop} (h : pX4_purge M Q) : Cti l G yX4_purge cX4_purge 3 .int rmX4_purge [.ref (ga G 4 0)] M Q := by
  refine cti_of (own := RX4) (by decide +kernel) rfl (Nat.le_of_ble_eq_true rfl) hG (fun Γ Qf hl C E => ?_)
  subst hl
  show X Γ G Qf 3 0 0 0 [(0, .ref (ga G 4 0))] [] M
  unfold pX4_purge at h
  refine x_aload_n C dX4_purge_0 0 rfl ?_
  refine gf_4_6 C q99 z4 dX4_purge_1 ?_
  refine X_name (fun v1 ev1 => ?_)
  replace h := h v1 ev1
  refine x_istore_n (lv' := [(1, .int v1), (0, .ref (ga G 4 0))]) C dX4_purge_4 rfl (Nat.le_of_ble_eq_true rfl) rfl ?_
  refine x_iconst (v := 0) C dX4_purge_5 rfl ?_
  refine x_istore_n (lv' := [(2, .int 0), (1, .int v1), (0, .ref (ga G 4 0))]) C dX4_purge_6 rfl (Nat.le_of_ble_eq_true rfl) rfl ?_
  obtain ⟨n9, h⟩ := h
  refine X_sub (lv' := [(0, .ref (ga G 4 0)), (1, .int v1), (2, .int 0)]) [2, 1, 0] rfl ?_
  have hb : ∀ (L : Mem × Int32 × Int32 → Prop) (s : Mem × Int32 × Int32), (∀ t, L t → X Γ G Qf 3 0 0 7 [(0, .ref (ga G 4 0)), (1, .int t.2.1), (2, .int t.2.2)] [] t.1) → bX4_purge_7 Q L s.1 s.2.1 s.2.2 → X Γ G Qf 3 0 0 7 [(0, .ref (ga G 4 0)), (1, .int s.2.1), (2, .int s.2.2)] [] s.1 := fun L s hL h => wX4_purge_7 hG C E hL s.1 s.2.1 s.2.2 h
  have w9 := lp_walk (P := fun s : Mem × Int32 × Int32 => X Γ G Qf 3 0 0 7 [(0, .ref (ga G 4 0)), (1, .int s.2.1), (2, .int s.2.2)] [] s.1) h hb
  dsimp only at w9
  exact w9
def rmX4_blockAt : Room := { frames := 1, cells := 0, slots := 0, locals := 14 }
def pX4_blockAt (M : Mem) (x1 : Int32) (Q : Int32 → Mem → Prop) : Prop :=
  (¬ (imax (M.1 507 0 0) 2) = 0) ∧ Q (x1 / (imax (M.1 507 0 0) 2)) M
set_option maxRecDepth 100000 in
set_option maxHeartbeats 400000 in
theorem kX4_blockAt {l : Launch} {G : Gm} (hG : Gd G) (M : Mem) (x1 : Int32) {Q : Int32 → Mem → Prop} (h : pX4_blockAt M x1 Q) : Cti l G yX4_blockAt cX4_blockAt 2 .int rmX4_blockAt [.ref (ga G 4 0), .int x1] M Q := by
  refine cti_of (own := RX4) (by decide +kernel) rfl (Nat.le_of_ble_eq_true rfl) hG (fun Γ Qf hl C E => ?_)
  subst hl
  show X Γ G Qf 2 0 0 0 [(0, .ref (ga G 4 0)), (1, .int x1)] [] M
  unfold pX4_blockAt at h
  refine x_iload_n C dX4_blockAt_0 1 rfl ?_
  refine x_aload_n C dX4_blockAt_1 0 rfl ?_
  refine gf_4_7 C q102 z4 dX4_blockAt_2 ?_
  refine x_iconst (v := 2) C dX4_blockAt_5 rfl ?_
  refine x_max C sm_X4_59 (Nat.le_of_ble_eq_true rfl) (Nat.le_of_ble_eq_true rfl) (Nat.le_of_ble_eq_true rfl) (Nat.le_of_ble_eq_true rfl) dX4_blockAt_6 ?_
  obtain ⟨f1, h⟩ := h
  refine x_idiv C dX4_blockAt_9 f1 ?_
  exact x_iret C E h (Nat.le_of_ble_eq_true rfl) (Nat.le_of_ble_eq_true rfl) dX4_blockAt_10
def rmX4_allPostings : Room := { frames := 0, cells := 0, slots := 0, locals := 0 }
def bX4_allPostings_4 (Q : Int32 → Mem → Prop) (L4 : Mem × Int32 × Int32 → Prop) (M : Mem) (y1 : Int32) (y2 : Int32) : Prop :=
  (((M.1 1001 0 0) ≤ y2 → Q y1 M) ∧ (¬ (M.1 1001 0 0) ≤ y2 → vp_in y2 255 ∧ ∀ v3 : Int32, v3 = (y1 + (M.1 511 0 (tn y2))) → ∀ v4 : Int32, v4 = y2 + 1 → L4 (M, v3, v4)))
def pX4_allPostings (M : Mem) (Q : Int32 → Mem → Prop) : Prop :=
  ∃ n : Nat, lp (fun L s => bX4_allPostings_4 Q L s.1 s.2.1 s.2.2) n (M, 0, 0)
set_option maxRecDepth 100000 in
set_option maxHeartbeats 400000 in
theorem wX4_allPostings_4 {Γ : Gam} {G : Gm} {Qf : State → Prop} (hG : Gd G) (C : Cx Γ G cX4_allPostings 3 RX4 (some .int) rmX4_allPostings)  {Q : Int32 → Mem → Prop} (E : EndI Γ G Qf rmX4_allPostings Q) {L4 : Mem × Int32 × Int32 → Prop} (hL4 : ∀ s, L4 s → X Γ G Qf 3 0 0 4 [(0, .ref (ga G 4 0)), (1, .int s.2.1), (2, .int s.2.2)] [] s.1) (M : Mem) (y1 : Int32) (y2 : Int32) (h : bX4_allPostings_4 Q L4 M y1 y2) : X Γ G Qf 3 0 0 4 [(0, .ref (ga G 4 0)), (1, .int y1), (2, .int y2)] [] M := by
  unfold bX4_allPostings_4 at h
  refine x_iload_n C dX4_allPostings_4 2 rfl ?_
  refine x_aload_n C dX4_allPostings_5 0 rfl ?_
  refine gf_4_0 C q100 z4 dX4_allPostings_6 ?_
  refine gf_9_1 C q101 z9 dX4_allPostings_9 ?_
  refine x_icmp_ge (tgt := 30) C dX4_allPostings_12 (by decide) (fun c1 => ?_) (fun c1 => ?_)
  · replace h := h.1 c1
    refine x_iload_n C dX4_allPostings_30 1 rfl ?_
    exact x_iret C E h (Nat.le_of_ble_eq_true rfl) (Nat.le_of_ble_eq_true rfl) dX4_allPostings_31
  · replace h := h.2 c1
    refine x_iload_n C dX4_allPostings_15 1 rfl ?_
    refine x_aload_n C dX4_allPostings_16 0 rfl ?_
    refine gf_4_11 C q0 z4 dX4_allPostings_17 ?_
    refine x_iload_n C dX4_allPostings_20 2 rfl ?_
    obtain ⟨f2, h⟩ := h
    refine al_511 C z511 f2 dX4_allPostings_21 ?_
    refine x_iadd C dX4_allPostings_22 ?_
    refine X_name (fun v3 ev3 => ?_)
    replace h := h v3 ev3
    refine x_istore_n (lv' := [(1, .int v3), (0, .ref (ga G 4 0)), (2, .int y2)]) C dX4_allPostings_23 rfl (Nat.le_of_ble_eq_true rfl) rfl ?_
    obtain ⟨v4, ev4⟩ : ∃ z : Int32, z = y2 + 1 := ⟨_, rfl⟩
    replace h := h v4 ev4
    refine x_iinc (v := v4) (lv' := [(2, .int v4), (1, .int v3), (0, .ref (ga G 4 0))]) (j := 2) C dX4_allPostings_24 rfl (by rw [ev4]; rfl) (Nat.le_of_ble_eq_true rfl) rfl ?_
    refine x_goto (tgt := 4) C dX4_allPostings_27 (by decide) ?_
    refine X_sub (lv' := [(0, .ref (ga G 4 0)), (1, .int v3), (2, .int v4)]) [2, 1, 0] rfl ?_
    have w9 := hL4 (M, v3, v4) h
    dsimp only at w9
    exact w9
set_option maxRecDepth 100000 in
set_option maxHeartbeats 400000 in
theorem kX4_allPostings {l : Launch} {G : Gm} (hG : Gd G) (M : Mem)  {Q : Int32 → Mem → Prop} (h : pX4_allPostings M Q) : Cti l G yX4_allPostings cX4_allPostings 3 .int rmX4_allPostings [.ref (ga G 4 0)] M Q := by
  refine cti_of (own := RX4) (by decide +kernel) rfl (Nat.le_of_ble_eq_true rfl) hG (fun Γ Qf hl C E => ?_)
  subst hl
  show X Γ G Qf 3 0 0 0 [(0, .ref (ga G 4 0))] [] M
  unfold pX4_allPostings at h
  refine x_iconst (v := 0) C dX4_allPostings_0 rfl ?_
  refine x_istore_n (lv' := [(1, .int 0), (0, .ref (ga G 4 0))]) C dX4_allPostings_1 rfl (Nat.le_of_ble_eq_true rfl) rfl ?_
  refine x_iconst (v := 0) C dX4_allPostings_2 rfl ?_
  refine x_istore_n (lv' := [(2, .int 0), (1, .int 0), (0, .ref (ga G 4 0))]) C dX4_allPostings_3 rfl (Nat.le_of_ble_eq_true rfl) rfl ?_
  obtain ⟨n9, h⟩ := h
  refine X_sub (lv' := [(0, .ref (ga G 4 0)), (1, .int 0), (2, .int 0)]) [2, 1, 0] rfl ?_
  have hb : ∀ (L : Mem × Int32 × Int32 → Prop) (s : Mem × Int32 × Int32), (∀ t, L t → X Γ G Qf 3 0 0 4 [(0, .ref (ga G 4 0)), (1, .int t.2.1), (2, .int t.2.2)] [] t.1) → bX4_allPostings_4 Q L s.1 s.2.1 s.2.2 → X Γ G Qf 3 0 0 4 [(0, .ref (ga G 4 0)), (1, .int s.2.1), (2, .int s.2.2)] [] s.1 := fun L s hL h => wX4_allPostings_4 hG C E hL s.1 s.2.1 s.2.2 h
  have w9 := lp_walk (P := fun s : Mem × Int32 × Int32 => X Γ G Qf 3 0 0 4 [(0, .ref (ga G 4 0)), (1, .int s.2.1), (2, .int s.2.2)] [] s.1) h hb
  dsimp only at w9
  exact w9
def rmX4_topOf : Room := { frames := 1, cells := 0, slots := 0, locals := 23 }
def bX4_topOf_4 (x1 : Int32) (Q : Int32 → Mem → Prop) (L4 : Mem × Int32 × Int32 → Prop) (M : Mem) (y2 : Int32) (y3 : Int32) : Prop :=
  vp_in x1 255 ∧ (((M.1 511 0 (tn x1)) ≤ y3 → Q y2 M) ∧ (¬ (M.1 511 0 (tn x1)) ≤ y3 → vp_in y3 64 ∧ pX4_gainOf M x1 (M.1 5510 (tn x1) (tn y3)) (fun r4 M5 => ∀ v6 : Int32, v6 = (imax y2 r4) → ∀ v7 : Int32, v7 = y3 + 1 → L4 (M5, v6, v7))))
def pX4_topOf (M : Mem) (x1 : Int32) (Q : Int32 → Mem → Prop) : Prop :=
  ∃ n : Nat, lp (fun L s => bX4_topOf_4 x1 Q L s.1 s.2.1 s.2.2) n (M, 0, 0)
set_option maxRecDepth 100000 in
set_option maxHeartbeats 400000 in
theorem wX4_topOf_4 {Γ : Gam} {G : Gm} {Qf : State → Prop} (hG : Gd G) (C : Cx Γ G cX4_topOf 4 RX4 (some .int) rmX4_topOf) {x1 : Int32} {Q : Int32 → Mem → Prop} (E : EndI Γ G Qf rmX4_topOf Q) {L4 : Mem × Int32 × Int32 → Prop} (hL4 : ∀ s, L4 s → X Γ G Qf 4 0 0 4 [(0, .ref (ga G 4 0)), (1, .int x1), (2, .int s.2.1), (3, .int s.2.2)] [] s.1) (M : Mem) (y2 : Int32) (y3 : Int32) (h : bX4_topOf_4 x1 Q L4 M y2 y3) : X Γ G Qf 4 0 0 4 [(0, .ref (ga G 4 0)), (1, .int x1), (2, .int y2), (3, .int y3)] [] M := by
  unfold bX4_topOf_4 at h
  refine x_iload_n C dX4_topOf_4 3 rfl ?_
  refine x_aload_n C dX4_topOf_5 0 rfl ?_
  refine gf_4_11 C q0 z4 dX4_topOf_6 ?_
  refine x_iload_n C dX4_topOf_9 1 rfl ?_
  obtain ⟨f1, h⟩ := h
  refine al_511 C z511 f1 dX4_topOf_10 ?_
  refine x_icmp_ge (tgt := 38) C dX4_topOf_11 (by decide) (fun c2 => ?_) (fun c2 => ?_)
  · replace h := h.1 c2
    refine x_iload_n C dX4_topOf_38 2 rfl ?_
    exact x_iret C E h (Nat.le_of_ble_eq_true rfl) (Nat.le_of_ble_eq_true rfl) dX4_topOf_39
  · replace h := h.2 c2
    refine x_iload_n C dX4_topOf_14 2 rfl ?_
    refine x_aload_n C dX4_topOf_15 0 rfl ?_
    refine x_iload_n C dX4_topOf_16 1 rfl ?_
    refine x_aload_n C dX4_topOf_17 0 rfl ?_
    refine gf_4_10 C q96 z4 dX4_topOf_18 ?_
    refine x_iload_n C dX4_topOf_21 1 rfl ?_
    refine al_510 C z510 f1 dX4_topOf_22 ?_
    refine x_iload_n C dX4_topOf_23 3 rfl ?_
    obtain ⟨f3, h⟩ := h
    refine al_5510 C (vp_lt f1) f3 dX4_topOf_24 ?_
    refine x_calli (rest := [.int y2]) C sv_X4_78 ob4 z4 (kX4_gainOf hG _ _ _ h) rfl rfl (Nat.le_of_ble_eq_true rfl) ⟨Nat.le_of_ble_eq_true rfl, Nat.le_of_ble_eq_true rfl⟩ rfl rfl ⟨Nat.le_of_ble_eq_true rfl, Nat.le_of_ble_eq_true rfl⟩ dX4_topOf_25 (fun r4 M5 h => ?_)
    refine x_max C sm_X4_59 (Nat.le_of_ble_eq_true rfl) (Nat.le_of_ble_eq_true rfl) (Nat.le_of_ble_eq_true rfl) (Nat.le_of_ble_eq_true rfl) dX4_topOf_28 ?_
    refine X_name (fun v6 ev6 => ?_)
    replace h := h v6 ev6
    refine x_istore_n (lv' := [(2, .int v6), (0, .ref (ga G 4 0)), (1, .int x1), (3, .int y3)]) C dX4_topOf_31 rfl (Nat.le_of_ble_eq_true rfl) rfl ?_
    obtain ⟨v7, ev7⟩ : ∃ z : Int32, z = y3 + 1 := ⟨_, rfl⟩
    replace h := h v7 ev7
    refine x_iinc (v := v7) (lv' := [(3, .int v7), (2, .int v6), (0, .ref (ga G 4 0)), (1, .int x1)]) (j := 3) C dX4_topOf_32 rfl (by rw [ev7]; rfl) (Nat.le_of_ble_eq_true rfl) rfl ?_
    refine x_goto (tgt := 4) C dX4_topOf_35 (by decide) ?_
    refine X_sub (lv' := [(0, .ref (ga G 4 0)), (1, .int x1), (2, .int v6), (3, .int v7)]) [2, 3, 1, 0] rfl ?_
    have w9 := hL4 (M5, v6, v7) h
    dsimp only at w9
    exact w9
set_option maxRecDepth 100000 in
set_option maxHeartbeats 400000 in
theorem kX4_topOf {l : Launch} {G : Gm} (hG : Gd G) (M : Mem) (x1 : Int32) {Q : Int32 → Mem → Prop} (h : pX4_topOf M x1 Q) : Cti l G yX4_topOf cX4_topOf 4 .int rmX4_topOf [.ref (ga G 4 0), .int x1] M Q := by
  refine cti_of (own := RX4) (by decide +kernel) rfl (Nat.le_of_ble_eq_true rfl) hG (fun Γ Qf hl C E => ?_)
  subst hl
  show X Γ G Qf 4 0 0 0 [(0, .ref (ga G 4 0)), (1, .int x1)] [] M
  unfold pX4_topOf at h
  refine x_iconst (v := 0) C dX4_topOf_0 rfl ?_
  refine x_istore_n (lv' := [(2, .int 0), (0, .ref (ga G 4 0)), (1, .int x1)]) C dX4_topOf_1 rfl (Nat.le_of_ble_eq_true rfl) rfl ?_
  refine x_iconst (v := 0) C dX4_topOf_2 rfl ?_
  refine x_istore_n (lv' := [(3, .int 0), (2, .int 0), (0, .ref (ga G 4 0)), (1, .int x1)]) C dX4_topOf_3 rfl (Nat.le_of_ble_eq_true rfl) rfl ?_
  obtain ⟨n9, h⟩ := h
  refine X_sub (lv' := [(0, .ref (ga G 4 0)), (1, .int x1), (2, .int 0), (3, .int 0)]) [2, 3, 1, 0] rfl ?_
  have hb : ∀ (L : Mem × Int32 × Int32 → Prop) (s : Mem × Int32 × Int32), (∀ t, L t → X Γ G Qf 4 0 0 4 [(0, .ref (ga G 4 0)), (1, .int x1), (2, .int t.2.1), (3, .int t.2.2)] [] t.1) → bX4_topOf_4 x1 Q L s.1 s.2.1 s.2.2 → X Γ G Qf 4 0 0 4 [(0, .ref (ga G 4 0)), (1, .int x1), (2, .int s.2.1), (3, .int s.2.2)] [] s.1 := fun L s hL h => wX4_topOf_4 hG C E hL s.1 s.2.1 s.2.2 h
  have w9 := lp_walk (P := fun s : Mem × Int32 × Int32 => X Γ G Qf 4 0 0 4 [(0, .ref (ga G 4 0)), (1, .int x1), (2, .int s.2.1), (3, .int s.2.2)] [] s.1) h hb
  dsimp only at w9
  exact w9
def rmX4_standsOften : Room := { frames := 0, cells := 0, slots := 0, locals := 0 }
def bX4_standsOften_4 (x1 : Int32) (Q : Int32 → Mem → Prop) (L4 : Mem × Int32 × Int32 → Prop) (M : Mem) (y2 : Int32) (y3 : Int32) : Prop :=
  vp_in x1 255 ∧ (((M.1 511 0 (tn x1)) ≤ y3 → Q y2 M) ∧ (¬ (M.1 511 0 (tn x1)) ≤ y3 → vp_in y3 64 ∧ vp_in (M.1 5510 (tn x1) (tn y3)) 64 ∧ ∀ v5 : Int32, v5 = (y2 + (M.1 5508 (tn x1) (tn (M.1 5510 (tn x1) (tn y3))))) → ∀ v6 : Int32, v6 = y3 + 1 → L4 (M, v5, v6)))
def pX4_standsOften (M : Mem) (x1 : Int32) (Q : Int32 → Mem → Prop) : Prop :=
  ∃ n : Nat, lp (fun L s => bX4_standsOften_4 x1 Q L s.1 s.2.1 s.2.2) n (M, 0, 0)
set_option maxRecDepth 100000 in
set_option maxHeartbeats 400000 in
theorem wX4_standsOften_4 {Γ : Gam} {G : Gm} {Qf : State → Prop} (hG : Gd G) (C : Cx Γ G cX4_standsOften 4 RX4 (some .int) rmX4_standsOften) {x1 : Int32} {Q : Int32 → Mem → Prop} (E : EndI Γ G Qf rmX4_standsOften Q) {L4 : Mem × Int32 × Int32 → Prop} (hL4 : ∀ s, L4 s → X Γ G Qf 4 0 0 4 [(0, .ref (ga G 4 0)), (1, .int x1), (2, .int s.2.1), (3, .int s.2.2)] [] s.1) (M : Mem) (y2 : Int32) (y3 : Int32) (h : bX4_standsOften_4 x1 Q L4 M y2 y3) : X Γ G Qf 4 0 0 4 [(0, .ref (ga G 4 0)), (1, .int x1), (2, .int y2), (3, .int y3)] [] M := by
  unfold bX4_standsOften_4 at h
  refine x_iload_n C dX4_standsOften_4 3 rfl ?_
  refine x_aload_n C dX4_standsOften_5 0 rfl ?_
  refine gf_4_11 C q0 z4 dX4_standsOften_6 ?_
  refine x_iload_n C dX4_standsOften_9 1 rfl ?_
  obtain ⟨f1, h⟩ := h
  refine al_511 C z511 f1 dX4_standsOften_10 ?_
  refine x_icmp_ge (tgt := 38) C dX4_standsOften_11 (by decide) (fun c2 => ?_) (fun c2 => ?_)
  · replace h := h.1 c2
    refine x_iload_n C dX4_standsOften_38 2 rfl ?_
    exact x_iret C E h (Nat.le_of_ble_eq_true rfl) (Nat.le_of_ble_eq_true rfl) dX4_standsOften_39
  · replace h := h.2 c2
    refine x_iload_n C dX4_standsOften_14 2 rfl ?_
    refine x_aload_n C dX4_standsOften_15 0 rfl ?_
    refine gf_4_8 C q2 z4 dX4_standsOften_16 ?_
    refine x_iload_n C dX4_standsOften_19 1 rfl ?_
    refine al_508 C z508 f1 dX4_standsOften_20 ?_
    refine x_aload_n C dX4_standsOften_21 0 rfl ?_
    refine gf_4_10 C q96 z4 dX4_standsOften_22 ?_
    refine x_iload_n C dX4_standsOften_25 1 rfl ?_
    refine al_510 C z510 f1 dX4_standsOften_26 ?_
    refine x_iload_n C dX4_standsOften_27 3 rfl ?_
    obtain ⟨f3, h⟩ := h
    refine al_5510 C (vp_lt f1) f3 dX4_standsOften_28 ?_
    obtain ⟨f4, h⟩ := h
    refine al_5508 C (vp_lt f1) f4 dX4_standsOften_29 ?_
    refine x_iadd C dX4_standsOften_30 ?_
    refine X_name (fun v5 ev5 => ?_)
    replace h := h v5 ev5
    refine x_istore_n (lv' := [(2, .int v5), (0, .ref (ga G 4 0)), (1, .int x1), (3, .int y3)]) C dX4_standsOften_31 rfl (Nat.le_of_ble_eq_true rfl) rfl ?_
    obtain ⟨v6, ev6⟩ : ∃ z : Int32, z = y3 + 1 := ⟨_, rfl⟩
    replace h := h v6 ev6
    refine x_iinc (v := v6) (lv' := [(3, .int v6), (2, .int v5), (0, .ref (ga G 4 0)), (1, .int x1)]) (j := 3) C dX4_standsOften_32 rfl (by rw [ev6]; rfl) (Nat.le_of_ble_eq_true rfl) rfl ?_
    refine x_goto (tgt := 4) C dX4_standsOften_35 (by decide) ?_
    refine X_sub (lv' := [(0, .ref (ga G 4 0)), (1, .int x1), (2, .int v5), (3, .int v6)]) [2, 3, 1, 0] rfl ?_
    have w9 := hL4 (M, v5, v6) h
    dsimp only at w9
    exact w9
set_option maxRecDepth 100000 in
set_option maxHeartbeats 400000 in
theorem kX4_standsOften {l : Launch} {G : Gm} (hG : Gd G) (M : Mem) (x1 : Int32) {Q : Int32 → Mem → Prop} (h : pX4_standsOften M x1 Q) : Cti l G yX4_standsOften cX4_standsOften 4 .int rmX4_standsOften [.ref (ga G 4 0), .int x1] M Q := by
  refine cti_of (own := RX4) (by decide +kernel) rfl (Nat.le_of_ble_eq_true rfl) hG (fun Γ Qf hl C E => ?_)
  subst hl
  show X Γ G Qf 4 0 0 0 [(0, .ref (ga G 4 0)), (1, .int x1)] [] M
  unfold pX4_standsOften at h
  refine x_iconst (v := 0) C dX4_standsOften_0 rfl ?_
  refine x_istore_n (lv' := [(2, .int 0), (0, .ref (ga G 4 0)), (1, .int x1)]) C dX4_standsOften_1 rfl (Nat.le_of_ble_eq_true rfl) rfl ?_
  refine x_iconst (v := 0) C dX4_standsOften_2 rfl ?_
  refine x_istore_n (lv' := [(3, .int 0), (2, .int 0), (0, .ref (ga G 4 0)), (1, .int x1)]) C dX4_standsOften_3 rfl (Nat.le_of_ble_eq_true rfl) rfl ?_
  obtain ⟨n9, h⟩ := h
  refine X_sub (lv' := [(0, .ref (ga G 4 0)), (1, .int x1), (2, .int 0), (3, .int 0)]) [2, 3, 1, 0] rfl ?_
  have hb : ∀ (L : Mem × Int32 × Int32 → Prop) (s : Mem × Int32 × Int32), (∀ t, L t → X Γ G Qf 4 0 0 4 [(0, .ref (ga G 4 0)), (1, .int x1), (2, .int t.2.1), (3, .int t.2.2)] [] t.1) → bX4_standsOften_4 x1 Q L s.1 s.2.1 s.2.2 → X Γ G Qf 4 0 0 4 [(0, .ref (ga G 4 0)), (1, .int x1), (2, .int s.2.1), (3, .int s.2.2)] [] s.1 := fun L s hL h => wX4_standsOften_4 hG C E hL s.1 s.2.1 s.2.2 h
  have w9 := lp_walk (P := fun s : Mem × Int32 × Int32 => X Γ G Qf 4 0 0 4 [(0, .ref (ga G 4 0)), (1, .int x1), (2, .int s.2.1), (3, .int s.2.2)] [] s.1) h hb
  dsimp only at w9
  exact w9
def rmX4_positionOf : Room := { frames := 0, cells := 0, slots := 0, locals := 0 }
def bX4_positionOf_42 (x1 : Int32) (x2 : Int32) (x3 : Int32) (Q : Int32 → Mem → Prop) (L6 : Mem × Int32 × Int32 → Prop) (M : Mem) (y4 : Int32) (y5 : Int32) : Prop :=
  ∀ v7 : Int32, v7 = y5 + 1 → L6 (M, y4, v7)
def bX4_positionOf_6 (x1 : Int32) (x2 : Int32) (x3 : Int32) (Q : Int32 → Mem → Prop) (L6 : Mem × Int32 × Int32 → Prop) (M : Mem) (y4 : Int32) (y5 : Int32) : Prop :=
  vp_in x2 64 ∧ (((M.1 502 0 (tn x2)) ≤ y5 → Q (-1) M) ∧ (¬ (M.1 502 0 (tn x2)) ≤ y5 → vp_in y5 150 ∧ ((¬ (M.1 5501 (tn x2) (tn y5)) = x1 → bX4_positionOf_42 x1 x2 x3 Q L6 M y4 y5) ∧ ((M.1 5501 (tn x2) (tn y5)) = x1 → ((¬ y4 = x3 → ∀ v6 : Int32, v6 = y4 + 1 → bX4_positionOf_42 x1 x2 x3 Q L6 M v6 y5) ∧ (y4 = x3 → Q y5 M))))))
def pX4_positionOf (M : Mem) (x1 : Int32) (x2 : Int32) (x3 : Int32) (Q : Int32 → Mem → Prop) : Prop :=
  ∃ n : Nat, lp (fun L s => bX4_positionOf_6 x1 x2 x3 Q L s.1 s.2.1 s.2.2) n (M, 0, 0)
set_option maxRecDepth 100000 in
set_option maxHeartbeats 400000 in
theorem wX4_positionOf_42 {Γ : Gam} {G : Gm} {Qf : State → Prop} (hG : Gd G) (C : Cx Γ G cX4_positionOf 6 RX4 (some .int) rmX4_positionOf) {x1 : Int32} {x2 : Int32} {x3 : Int32} {Q : Int32 → Mem → Prop} (E : EndI Γ G Qf rmX4_positionOf Q) {L6 : Mem × Int32 × Int32 → Prop} (hL6 : ∀ s, L6 s → X Γ G Qf 6 0 0 6 [(0, .ref (ga G 4 0)), (1, .int x1), (2, .int x2), (3, .int x3), (4, .int s.2.1), (5, .int s.2.2)] [] s.1) (M : Mem) (y4 : Int32) (y5 : Int32) (h : bX4_positionOf_42 x1 x2 x3 Q L6 M y4 y5) : X Γ G Qf 6 0 0 42 [(0, .ref (ga G 4 0)), (1, .int x1), (2, .int x2), (3, .int x3), (4, .int y4), (5, .int y5)] [] M := by
  unfold bX4_positionOf_42 at h
  obtain ⟨v7, ev7⟩ : ∃ z : Int32, z = y5 + 1 := ⟨_, rfl⟩
  replace h := h v7 ev7
  refine x_iinc (v := v7) (lv' := [(5, .int v7), (0, .ref (ga G 4 0)), (1, .int x1), (2, .int x2), (3, .int x3), (4, .int y4)]) (j := 5) C dX4_positionOf_42 rfl (by rw [ev7]; rfl) (Nat.le_of_ble_eq_true rfl) rfl ?_
  refine x_goto (tgt := 6) C dX4_positionOf_45 (by decide) ?_
  refine X_sub (lv' := [(0, .ref (ga G 4 0)), (1, .int x1), (2, .int x2), (3, .int x3), (4, .int y4), (5, .int v7)]) [1, 2, 3, 4, 5, 0] rfl ?_
  have w9 := hL6 (M, y4, v7) h
  dsimp only at w9
  exact w9
set_option maxRecDepth 100000 in
set_option maxHeartbeats 400000 in
theorem wX4_positionOf_6 {Γ : Gam} {G : Gm} {Qf : State → Prop} (hG : Gd G) (C : Cx Γ G cX4_positionOf 6 RX4 (some .int) rmX4_positionOf) {x1 : Int32} {x2 : Int32} {x3 : Int32} {Q : Int32 → Mem → Prop} (E : EndI Γ G Qf rmX4_positionOf Q) {L6 : Mem × Int32 × Int32 → Prop} (hL6 : ∀ s, L6 s → X Γ G Qf 6 0 0 6 [(0, .ref (ga G 4 0)), (1, .int x1), (2, .int x2), (3, .int x3), (4, .int s.2.1), (5, .int s.2.2)] [] s.1) (M : Mem) (y4 : Int32) (y5 : Int32) (h : bX4_positionOf_6 x1 x2 x3 Q L6 M y4 y5) : X Γ G Qf 6 0 0 6 [(0, .ref (ga G 4 0)), (1, .int x1), (2, .int x2), (3, .int x3), (4, .int y4), (5, .int y5)] [] M := by
  unfold bX4_positionOf_6 at h
  refine x_iload C dX4_positionOf_6 5 rfl ?_
  refine x_aload_n C dX4_positionOf_8 0 rfl ?_
  refine gf_4_2 C q3 z4 dX4_positionOf_9 ?_
  refine x_iload_n C dX4_positionOf_12 2 rfl ?_
  obtain ⟨f1, h⟩ := h
  refine al_502 C z502 f1 dX4_positionOf_13 ?_
  refine x_icmp_ge (tgt := 48) C dX4_positionOf_14 (by decide) (fun c2 => ?_) (fun c2 => ?_)
  · replace h := h.1 c2
    refine x_iconst (v := (-1)) C dX4_positionOf_48 rfl ?_
    exact x_iret C E h (Nat.le_of_ble_eq_true rfl) (Nat.le_of_ble_eq_true rfl) dX4_positionOf_49
  · replace h := h.2 c2
    refine x_aload_n C dX4_positionOf_17 0 rfl ?_
    refine gf_4_1 C q98 z4 dX4_positionOf_18 ?_
    refine x_iload_n C dX4_positionOf_21 2 rfl ?_
    refine al_501 C z501 f1 dX4_positionOf_22 ?_
    refine x_iload C dX4_positionOf_23 5 rfl ?_
    obtain ⟨f3, h⟩ := h
    refine al_5501 C (vp_lt f1) f3 dX4_positionOf_25 ?_
    refine x_iload_n C dX4_positionOf_26 1 rfl ?_
    refine x_icmp_ne (tgt := 42) C dX4_positionOf_27 (by decide) (fun c4 => ?_) (fun c4 => ?_)
    · replace h := h.1 c4
      refine X_sub (lv' := [(0, .ref (ga G 4 0)), (1, .int x1), (2, .int x2), (3, .int x3), (4, .int y4), (5, .int y5)]) [0, 1, 2, 3, 4, 5] rfl ?_
      exact wX4_positionOf_42 hG C E hL6 M y4 y5 h
    · replace h := h.2 c4
      refine x_iload C dX4_positionOf_30 4 rfl ?_
      refine x_iload_n C dX4_positionOf_32 3 rfl ?_
      refine x_icmp_ne (tgt := 39) C dX4_positionOf_33 (by decide) (fun c5 => ?_) (fun c5 => ?_)
      · replace h := h.1 c5
        obtain ⟨v6, ev6⟩ : ∃ z : Int32, z = y4 + 1 := ⟨_, rfl⟩
        replace h := h v6 ev6
        refine x_iinc (v := v6) (lv' := [(4, .int v6), (0, .ref (ga G 4 0)), (1, .int x1), (2, .int x2), (3, .int x3), (5, .int y5)]) (j := 4) C dX4_positionOf_39 rfl (by rw [ev6]; rfl) (Nat.le_of_ble_eq_true rfl) rfl ?_
        refine X_sub (lv' := [(0, .ref (ga G 4 0)), (1, .int x1), (2, .int x2), (3, .int x3), (4, .int v6), (5, .int y5)]) [1, 2, 3, 4, 0, 5] rfl ?_
        exact wX4_positionOf_42 hG C E hL6 M v6 y5 h
      · replace h := h.2 c5
        refine x_iload C dX4_positionOf_36 5 rfl ?_
        exact x_iret C E h (Nat.le_of_ble_eq_true rfl) (Nat.le_of_ble_eq_true rfl) dX4_positionOf_38
set_option maxRecDepth 100000 in
set_option maxHeartbeats 400000 in
theorem kX4_positionOf {l : Launch} {G : Gm} (hG : Gd G) (M : Mem) (x1 : Int32) (x2 : Int32) (x3 : Int32) {Q : Int32 → Mem → Prop} (h : pX4_positionOf M x1 x2 x3 Q) : Cti l G yX4_positionOf cX4_positionOf 6 .int rmX4_positionOf [.ref (ga G 4 0), .int x1, .int x2, .int x3] M Q := by
  refine cti_of (own := RX4) (by decide +kernel) rfl (Nat.le_of_ble_eq_true rfl) hG (fun Γ Qf hl C E => ?_)
  subst hl
  show X Γ G Qf 6 0 0 0 [(0, .ref (ga G 4 0)), (1, .int x1), (2, .int x2), (3, .int x3)] [] M
  unfold pX4_positionOf at h
  refine x_iconst (v := 0) C dX4_positionOf_0 rfl ?_
  refine x_istore (lv' := [(4, .int 0), (0, .ref (ga G 4 0)), (1, .int x1), (2, .int x2), (3, .int x3)]) C dX4_positionOf_1 (Nat.le_of_ble_eq_true rfl) rfl ?_
  refine x_iconst (v := 0) C dX4_positionOf_3 rfl ?_
  refine x_istore (lv' := [(5, .int 0), (4, .int 0), (0, .ref (ga G 4 0)), (1, .int x1), (2, .int x2), (3, .int x3)]) C dX4_positionOf_4 (Nat.le_of_ble_eq_true rfl) rfl ?_
  obtain ⟨n9, h⟩ := h
  refine X_sub (lv' := [(0, .ref (ga G 4 0)), (1, .int x1), (2, .int x2), (3, .int x3), (4, .int 0), (5, .int 0)]) [2, 3, 4, 5, 1, 0] rfl ?_
  have hb : ∀ (L : Mem × Int32 × Int32 → Prop) (s : Mem × Int32 × Int32), (∀ t, L t → X Γ G Qf 6 0 0 6 [(0, .ref (ga G 4 0)), (1, .int x1), (2, .int x2), (3, .int x3), (4, .int t.2.1), (5, .int t.2.2)] [] t.1) → bX4_positionOf_6 x1 x2 x3 Q L s.1 s.2.1 s.2.2 → X Γ G Qf 6 0 0 6 [(0, .ref (ga G 4 0)), (1, .int x1), (2, .int x2), (3, .int x3), (4, .int s.2.1), (5, .int s.2.2)] [] s.1 := fun L s hL h => wX4_positionOf_6 hG C E hL s.1 s.2.1 s.2.2 h
  have w9 := lp_walk (P := fun s : Mem × Int32 × Int32 => X Γ G Qf 6 0 0 6 [(0, .ref (ga G 4 0)), (1, .int x1), (2, .int x2), (3, .int x3), (4, .int s.2.1), (5, .int s.2.2)] [] s.1) h hb
  dsimp only at w9
  exact w9
def rmX4_wordsInBoth : Room := { frames := 0, cells := 0, slots := 0, locals := 0 }
def bX4_wordsInBoth_44 (x1 : Int32) (x2 : Int32) (Q : Int32 → Mem → Prop) (L5 : Mem × Int32 × Int32 → Prop) (M : Mem) (y3 : Int32) (y4 : Int32) : Prop :=
  ∀ v8 : Int32, v8 = y4 + 1 → L5 (M, y3, v8)
def bX4_wordsInBoth_5 (x1 : Int32) (x2 : Int32) (Q : Int32 → Mem → Prop) (L5 : Mem × Int32 × Int32 → Prop) (M : Mem) (y3 : Int32) (y4 : Int32) : Prop :=
  (((M.1 1001 0 0) ≤ y4 → Q y3 M) ∧ (¬ (M.1 1001 0 0) ≤ y4 → vp_in y4 255 ∧ vp_in x1 64 ∧ (((M.1 5508 (tn y4) (tn x1)) ≤ 0 → bX4_wordsInBoth_44 x1 x2 Q L5 M y3 y4) ∧ (¬ (M.1 5508 (tn y4) (tn x1)) ≤ 0 → vp_in x2 64 ∧ (((M.1 5508 (tn y4) (tn x2)) ≤ 0 → bX4_wordsInBoth_44 x1 x2 Q L5 M y3 y4) ∧ (¬ (M.1 5508 (tn y4) (tn x2)) ≤ 0 → ∀ v7 : Int32, v7 = y3 + 1 → bX4_wordsInBoth_44 x1 x2 Q L5 M v7 y4))))))
def pX4_wordsInBoth (M : Mem) (x1 : Int32) (x2 : Int32) (Q : Int32 → Mem → Prop) : Prop :=
  ∃ n : Nat, lp (fun L s => bX4_wordsInBoth_5 x1 x2 Q L s.1 s.2.1 s.2.2) n (M, 0, 0)
set_option maxRecDepth 100000 in
set_option maxHeartbeats 400000 in
theorem wX4_wordsInBoth_44 {Γ : Gam} {G : Gm} {Qf : State → Prop} (hG : Gd G) (C : Cx Γ G cX4_wordsInBoth 5 RX4 (some .int) rmX4_wordsInBoth) {x1 : Int32} {x2 : Int32} {Q : Int32 → Mem → Prop} (E : EndI Γ G Qf rmX4_wordsInBoth Q) {L5 : Mem × Int32 × Int32 → Prop} (hL5 : ∀ s, L5 s → X Γ G Qf 5 0 0 5 [(0, .ref (ga G 4 0)), (1, .int x1), (2, .int x2), (3, .int s.2.1), (4, .int s.2.2)] [] s.1) (M : Mem) (y3 : Int32) (y4 : Int32) (h : bX4_wordsInBoth_44 x1 x2 Q L5 M y3 y4) : X Γ G Qf 5 0 0 44 [(0, .ref (ga G 4 0)), (1, .int x1), (2, .int x2), (3, .int y3), (4, .int y4)] [] M := by
  unfold bX4_wordsInBoth_44 at h
  obtain ⟨v8, ev8⟩ : ∃ z : Int32, z = y4 + 1 := ⟨_, rfl⟩
  replace h := h v8 ev8
  refine x_iinc (v := v8) (lv' := [(4, .int v8), (0, .ref (ga G 4 0)), (1, .int x1), (2, .int x2), (3, .int y3)]) (j := 4) C dX4_wordsInBoth_44 rfl (by rw [ev8]; rfl) (Nat.le_of_ble_eq_true rfl) rfl ?_
  refine x_goto (tgt := 5) C dX4_wordsInBoth_47 (by decide) ?_
  refine X_sub (lv' := [(0, .ref (ga G 4 0)), (1, .int x1), (2, .int x2), (3, .int y3), (4, .int v8)]) [1, 2, 3, 4, 0] rfl ?_
  have w9 := hL5 (M, y3, v8) h
  dsimp only at w9
  exact w9
set_option maxRecDepth 100000 in
set_option maxHeartbeats 400000 in
theorem wX4_wordsInBoth_5 {Γ : Gam} {G : Gm} {Qf : State → Prop} (hG : Gd G) (C : Cx Γ G cX4_wordsInBoth 5 RX4 (some .int) rmX4_wordsInBoth) {x1 : Int32} {x2 : Int32} {Q : Int32 → Mem → Prop} (E : EndI Γ G Qf rmX4_wordsInBoth Q) {L5 : Mem × Int32 × Int32 → Prop} (hL5 : ∀ s, L5 s → X Γ G Qf 5 0 0 5 [(0, .ref (ga G 4 0)), (1, .int x1), (2, .int x2), (3, .int s.2.1), (4, .int s.2.2)] [] s.1) (M : Mem) (y3 : Int32) (y4 : Int32) (h : bX4_wordsInBoth_5 x1 x2 Q L5 M y3 y4) : X Γ G Qf 5 0 0 5 [(0, .ref (ga G 4 0)), (1, .int x1), (2, .int x2), (3, .int y3), (4, .int y4)] [] M := by
  unfold bX4_wordsInBoth_5 at h
  refine x_iload C dX4_wordsInBoth_5 4 rfl ?_
  refine x_aload_n C dX4_wordsInBoth_7 0 rfl ?_
  refine gf_4_0 C q100 z4 dX4_wordsInBoth_8 ?_
  refine gf_9_1 C q101 z9 dX4_wordsInBoth_11 ?_
  refine x_icmp_ge (tgt := 50) C dX4_wordsInBoth_14 (by decide) (fun c1 => ?_) (fun c1 => ?_)
  · replace h := h.1 c1
    refine x_iload_n C dX4_wordsInBoth_50 3 rfl ?_
    exact x_iret C E h (Nat.le_of_ble_eq_true rfl) (Nat.le_of_ble_eq_true rfl) dX4_wordsInBoth_51
  · replace h := h.2 c1
    refine x_aload_n C dX4_wordsInBoth_17 0 rfl ?_
    refine gf_4_8 C q2 z4 dX4_wordsInBoth_18 ?_
    refine x_iload C dX4_wordsInBoth_21 4 rfl ?_
    obtain ⟨f2, h⟩ := h
    refine al_508 C z508 f2 dX4_wordsInBoth_23 ?_
    refine x_iload_n C dX4_wordsInBoth_24 1 rfl ?_
    obtain ⟨f3, h⟩ := h
    refine al_5508 C (vp_lt f2) f3 dX4_wordsInBoth_25 ?_
    refine x_if_le (tgt := 44) C dX4_wordsInBoth_26 (by decide) (fun c4 => ?_) (fun c4 => ?_)
    · replace h := h.1 c4
      refine X_sub (lv' := [(0, .ref (ga G 4 0)), (1, .int x1), (2, .int x2), (3, .int y3), (4, .int y4)]) [0, 1, 2, 3, 4] rfl ?_
      exact wX4_wordsInBoth_44 hG C E hL5 M y3 y4 h
    · replace h := h.2 c4
      refine x_aload_n C dX4_wordsInBoth_29 0 rfl ?_
      refine gf_4_8 C q2 z4 dX4_wordsInBoth_30 ?_
      refine x_iload C dX4_wordsInBoth_33 4 rfl ?_
      refine al_508 C z508 f2 dX4_wordsInBoth_35 ?_
      refine x_iload_n C dX4_wordsInBoth_36 2 rfl ?_
      obtain ⟨f5, h⟩ := h
      refine al_5508 C (vp_lt f2) f5 dX4_wordsInBoth_37 ?_
      refine x_if_le (tgt := 44) C dX4_wordsInBoth_38 (by decide) (fun c6 => ?_) (fun c6 => ?_)
      · replace h := h.1 c6
        refine X_sub (lv' := [(0, .ref (ga G 4 0)), (1, .int x1), (2, .int x2), (3, .int y3), (4, .int y4)]) [0, 1, 2, 3, 4] rfl ?_
        exact wX4_wordsInBoth_44 hG C E hL5 M y3 y4 h
      · replace h := h.2 c6
        obtain ⟨v7, ev7⟩ : ∃ z : Int32, z = y3 + 1 := ⟨_, rfl⟩
        replace h := h v7 ev7
        refine x_iinc (v := v7) (lv' := [(3, .int v7), (0, .ref (ga G 4 0)), (1, .int x1), (2, .int x2), (4, .int y4)]) (j := 3) C dX4_wordsInBoth_41 rfl (by rw [ev7]; rfl) (Nat.le_of_ble_eq_true rfl) rfl ?_
        refine X_sub (lv' := [(0, .ref (ga G 4 0)), (1, .int x1), (2, .int x2), (3, .int v7), (4, .int y4)]) [1, 2, 3, 0, 4] rfl ?_
        exact wX4_wordsInBoth_44 hG C E hL5 M v7 y4 h
set_option maxRecDepth 100000 in
set_option maxHeartbeats 400000 in
theorem kX4_wordsInBoth {l : Launch} {G : Gm} (hG : Gd G) (M : Mem) (x1 : Int32) (x2 : Int32) {Q : Int32 → Mem → Prop} (h : pX4_wordsInBoth M x1 x2 Q) : Cti l G yX4_wordsInBoth cX4_wordsInBoth 5 .int rmX4_wordsInBoth [.ref (ga G 4 0), .int x1, .int x2] M Q := by
  refine cti_of (own := RX4) (by decide +kernel) rfl (Nat.le_of_ble_eq_true rfl) hG (fun Γ Qf hl C E => ?_)
  subst hl
  show X Γ G Qf 5 0 0 0 [(0, .ref (ga G 4 0)), (1, .int x1), (2, .int x2)] [] M
  unfold pX4_wordsInBoth at h
  refine x_iconst (v := 0) C dX4_wordsInBoth_0 rfl ?_
  refine x_istore_n (lv' := [(3, .int 0), (0, .ref (ga G 4 0)), (1, .int x1), (2, .int x2)]) C dX4_wordsInBoth_1 rfl (Nat.le_of_ble_eq_true rfl) rfl ?_
  refine x_iconst (v := 0) C dX4_wordsInBoth_2 rfl ?_
  refine x_istore (lv' := [(4, .int 0), (3, .int 0), (0, .ref (ga G 4 0)), (1, .int x1), (2, .int x2)]) C dX4_wordsInBoth_3 (Nat.le_of_ble_eq_true rfl) rfl ?_
  obtain ⟨n9, h⟩ := h
  refine X_sub (lv' := [(0, .ref (ga G 4 0)), (1, .int x1), (2, .int x2), (3, .int 0), (4, .int 0)]) [2, 3, 4, 1, 0] rfl ?_
  have hb : ∀ (L : Mem × Int32 × Int32 → Prop) (s : Mem × Int32 × Int32), (∀ t, L t → X Γ G Qf 5 0 0 5 [(0, .ref (ga G 4 0)), (1, .int x1), (2, .int x2), (3, .int t.2.1), (4, .int t.2.2)] [] t.1) → bX4_wordsInBoth_5 x1 x2 Q L s.1 s.2.1 s.2.2 → X Γ G Qf 5 0 0 5 [(0, .ref (ga G 4 0)), (1, .int x1), (2, .int x2), (3, .int s.2.1), (4, .int s.2.2)] [] s.1 := fun L s hL h => wX4_wordsInBoth_5 hG C E hL s.1 s.2.1 s.2.2 h
  have w9 := lp_walk (P := fun s : Mem × Int32 × Int32 => X Γ G Qf 5 0 0 5 [(0, .ref (ga G 4 0)), (1, .int x1), (2, .int x2), (3, .int s.2.1), (4, .int s.2.2)] [] s.1) h hb
  dsimp only at w9
  exact w9
def rmX4_unlikeWords : Room := { frames := 1, cells := 0, slots := 0, locals := 24 }
def pX4_unlikeWords (M : Mem) (x1 : Int32) (Q : Int32 → Mem → Prop) : Prop :=
  pX4_wordsInBoth M x1 x1 (fun r1 M2 => Q r1 M2)
set_option maxRecDepth 100000 in
set_option maxHeartbeats 400000 in
theorem kX4_unlikeWords {l : Launch} {G : Gm} (hG : Gd G) (M : Mem) (x1 : Int32) {Q : Int32 → Mem → Prop} (h : pX4_unlikeWords M x1 Q) : Cti l G yX4_unlikeWords cX4_unlikeWords 2 .int rmX4_unlikeWords [.ref (ga G 4 0), .int x1] M Q := by
  refine cti_of (own := RX4) (by decide +kernel) rfl (Nat.le_of_ble_eq_true rfl) hG (fun Γ Qf hl C E => ?_)
  subst hl
  show X Γ G Qf 2 0 0 0 [(0, .ref (ga G 4 0)), (1, .int x1)] [] M
  unfold pX4_unlikeWords at h
  refine x_aload_n C dX4_unlikeWords_0 0 rfl ?_
  refine x_iload_n C dX4_unlikeWords_1 1 rfl ?_
  refine x_iload_n C dX4_unlikeWords_2 1 rfl ?_
  refine x_calli (rest := []) C sv_X4_81 ob4 z4 (kX4_wordsInBoth hG _ _ _ h) rfl rfl (Nat.le_of_ble_eq_true rfl) ⟨Nat.le_of_ble_eq_true rfl, Nat.le_of_ble_eq_true rfl⟩ rfl rfl ⟨Nat.le_of_ble_eq_true rfl, Nat.le_of_ble_eq_true rfl⟩ dX4_unlikeWords_3 (fun r1 M2 h => ?_)
  exact x_iret C E h (Nat.le_of_ble_eq_true rfl) (Nat.le_of_ble_eq_true rfl) dX4_unlikeWords_6
def rmX4_mostOften : Room := { frames := 0, cells := 0, slots := 0, locals := 0 }
def bX4_mostOften_36 (x1 : Int32) (Q : Int32 → Mem → Prop) (L4 : Mem × Int32 × Int32 → Prop) (M : Mem) (y2 : Int32) (y3 : Int32) : Prop :=
  ∀ v6 : Int32, v6 = y3 + 1 → L4 (M, y2, v6)
def bX4_mostOften_4 (x1 : Int32) (Q : Int32 → Mem → Prop) (L4 : Mem × Int32 × Int32 → Prop) (M : Mem) (y2 : Int32) (y3 : Int32) : Prop :=
  (((M.1 1001 0 0) ≤ y3 → Q y2 M) ∧ (¬ (M.1 1001 0 0) ≤ y3 → vp_in y3 255 ∧ vp_in x1 64 ∧ vp_in y2 255 ∧ (((M.1 5508 (tn y3) (tn x1)) ≤ (M.1 5508 (tn y2) (tn x1)) → bX4_mostOften_36 x1 Q L4 M y2 y3) ∧ (¬ (M.1 5508 (tn y3) (tn x1)) ≤ (M.1 5508 (tn y2) (tn x1)) → bX4_mostOften_36 x1 Q L4 M y3 y3))))
def pX4_mostOften (M : Mem) (x1 : Int32) (Q : Int32 → Mem → Prop) : Prop :=
  ∃ n : Nat, lp (fun L s => bX4_mostOften_4 x1 Q L s.1 s.2.1 s.2.2) n (M, 0, 1)
set_option maxRecDepth 100000 in
set_option maxHeartbeats 400000 in
theorem wX4_mostOften_36 {Γ : Gam} {G : Gm} {Qf : State → Prop} (hG : Gd G) (C : Cx Γ G cX4_mostOften 4 RX4 (some .int) rmX4_mostOften) {x1 : Int32} {Q : Int32 → Mem → Prop} (E : EndI Γ G Qf rmX4_mostOften Q) {L4 : Mem × Int32 × Int32 → Prop} (hL4 : ∀ s, L4 s → X Γ G Qf 4 0 0 4 [(0, .ref (ga G 4 0)), (1, .int x1), (2, .int s.2.1), (3, .int s.2.2)] [] s.1) (M : Mem) (y2 : Int32) (y3 : Int32) (h : bX4_mostOften_36 x1 Q L4 M y2 y3) : X Γ G Qf 4 0 0 36 [(0, .ref (ga G 4 0)), (1, .int x1), (2, .int y2), (3, .int y3)] [] M := by
  unfold bX4_mostOften_36 at h
  obtain ⟨v6, ev6⟩ : ∃ z : Int32, z = y3 + 1 := ⟨_, rfl⟩
  replace h := h v6 ev6
  refine x_iinc (v := v6) (lv' := [(3, .int v6), (0, .ref (ga G 4 0)), (1, .int x1), (2, .int y2)]) (j := 3) C dX4_mostOften_36 rfl (by rw [ev6]; rfl) (Nat.le_of_ble_eq_true rfl) rfl ?_
  refine x_goto (tgt := 4) C dX4_mostOften_39 (by decide) ?_
  refine X_sub (lv' := [(0, .ref (ga G 4 0)), (1, .int x1), (2, .int y2), (3, .int v6)]) [1, 2, 3, 0] rfl ?_
  have w9 := hL4 (M, y2, v6) h
  dsimp only at w9
  exact w9
set_option maxRecDepth 100000 in
set_option maxHeartbeats 400000 in
theorem wX4_mostOften_4 {Γ : Gam} {G : Gm} {Qf : State → Prop} (hG : Gd G) (C : Cx Γ G cX4_mostOften 4 RX4 (some .int) rmX4_mostOften) {x1 : Int32} {Q : Int32 → Mem → Prop} (E : EndI Γ G Qf rmX4_mostOften Q) {L4 : Mem × Int32 × Int32 → Prop} (hL4 : ∀ s, L4 s → X Γ G Qf 4 0 0 4 [(0, .ref (ga G 4 0)), (1, .int x1), (2, .int s.2.1), (3, .int s.2.2)] [] s.1) (M : Mem) (y2 : Int32) (y3 : Int32) (h : bX4_mostOften_4 x1 Q L4 M y2 y3) : X Γ G Qf 4 0 0 4 [(0, .ref (ga G 4 0)), (1, .int x1), (2, .int y2), (3, .int y3)] [] M := by
  unfold bX4_mostOften_4 at h
  refine x_iload_n C dX4_mostOften_4 3 rfl ?_
  refine x_aload_n C dX4_mostOften_5 0 rfl ?_
  refine gf_4_0 C q100 z4 dX4_mostOften_6 ?_
  refine gf_9_1 C q101 z9 dX4_mostOften_9 ?_
  refine x_icmp_ge (tgt := 42) C dX4_mostOften_12 (by decide) (fun c1 => ?_) (fun c1 => ?_)
  · replace h := h.1 c1
    refine x_iload_n C dX4_mostOften_42 2 rfl ?_
    exact x_iret C E h (Nat.le_of_ble_eq_true rfl) (Nat.le_of_ble_eq_true rfl) dX4_mostOften_43
  · replace h := h.2 c1
    refine x_aload_n C dX4_mostOften_15 0 rfl ?_
    refine gf_4_8 C q2 z4 dX4_mostOften_16 ?_
    refine x_iload_n C dX4_mostOften_19 3 rfl ?_
    obtain ⟨f2, h⟩ := h
    refine al_508 C z508 f2 dX4_mostOften_20 ?_
    refine x_iload_n C dX4_mostOften_21 1 rfl ?_
    obtain ⟨f3, h⟩ := h
    refine al_5508 C (vp_lt f2) f3 dX4_mostOften_22 ?_
    refine x_aload_n C dX4_mostOften_23 0 rfl ?_
    refine gf_4_8 C q2 z4 dX4_mostOften_24 ?_
    refine x_iload_n C dX4_mostOften_27 2 rfl ?_
    obtain ⟨f4, h⟩ := h
    refine al_508 C z508 f4 dX4_mostOften_28 ?_
    refine x_iload_n C dX4_mostOften_29 1 rfl ?_
    refine al_5508 C (vp_lt f4) f3 dX4_mostOften_30 ?_
    refine x_icmp_le (tgt := 36) C dX4_mostOften_31 (by decide) (fun c5 => ?_) (fun c5 => ?_)
    · replace h := h.1 c5
      refine X_sub (lv' := [(0, .ref (ga G 4 0)), (1, .int x1), (2, .int y2), (3, .int y3)]) [0, 1, 2, 3] rfl ?_
      exact wX4_mostOften_36 hG C E hL4 M y2 y3 h
    · replace h := h.2 c5
      refine x_iload_n C dX4_mostOften_34 3 rfl ?_
      refine x_istore_n (lv' := [(2, .int y3), (0, .ref (ga G 4 0)), (1, .int x1), (3, .int y3)]) C dX4_mostOften_35 rfl (Nat.le_of_ble_eq_true rfl) rfl ?_
      refine X_sub (lv' := [(0, .ref (ga G 4 0)), (1, .int x1), (2, .int y3), (3, .int y3)]) [1, 2, 0, 3] rfl ?_
      exact wX4_mostOften_36 hG C E hL4 M y3 y3 h
set_option maxRecDepth 100000 in
set_option maxHeartbeats 400000 in
theorem kX4_mostOften {l : Launch} {G : Gm} (hG : Gd G) (M : Mem) (x1 : Int32) {Q : Int32 → Mem → Prop} (h : pX4_mostOften M x1 Q) : Cti l G yX4_mostOften cX4_mostOften 4 .int rmX4_mostOften [.ref (ga G 4 0), .int x1] M Q := by
  refine cti_of (own := RX4) (by decide +kernel) rfl (Nat.le_of_ble_eq_true rfl) hG (fun Γ Qf hl C E => ?_)
  subst hl
  show X Γ G Qf 4 0 0 0 [(0, .ref (ga G 4 0)), (1, .int x1)] [] M
  unfold pX4_mostOften at h
  refine x_iconst (v := 0) C dX4_mostOften_0 rfl ?_
  refine x_istore_n (lv' := [(2, .int 0), (0, .ref (ga G 4 0)), (1, .int x1)]) C dX4_mostOften_1 rfl (Nat.le_of_ble_eq_true rfl) rfl ?_
  refine x_iconst (v := 1) C dX4_mostOften_2 rfl ?_
  refine x_istore_n (lv' := [(3, .int 1), (2, .int 0), (0, .ref (ga G 4 0)), (1, .int x1)]) C dX4_mostOften_3 rfl (Nat.le_of_ble_eq_true rfl) rfl ?_
  obtain ⟨n9, h⟩ := h
  refine X_sub (lv' := [(0, .ref (ga G 4 0)), (1, .int x1), (2, .int 0), (3, .int 1)]) [2, 3, 1, 0] rfl ?_
  have hb : ∀ (L : Mem × Int32 × Int32 → Prop) (s : Mem × Int32 × Int32), (∀ t, L t → X Γ G Qf 4 0 0 4 [(0, .ref (ga G 4 0)), (1, .int x1), (2, .int t.2.1), (3, .int t.2.2)] [] t.1) → bX4_mostOften_4 x1 Q L s.1 s.2.1 s.2.2 → X Γ G Qf 4 0 0 4 [(0, .ref (ga G 4 0)), (1, .int x1), (2, .int s.2.1), (3, .int s.2.2)] [] s.1 := fun L s hL h => wX4_mostOften_4 hG C E hL s.1 s.2.1 s.2.2 h
  have w9 := lp_walk (P := fun s : Mem × Int32 × Int32 => X Γ G Qf 4 0 0 4 [(0, .ref (ga G 4 0)), (1, .int x1), (2, .int s.2.1), (3, .int s.2.2)] [] s.1) h hb
  dsimp only at w9
  exact w9
