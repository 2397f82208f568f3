def rmX11_spread : Room := { frames := 2, cells := 0, slots := 0, locals := 43 }
def bX11_spread_64 (x1 : Int32) (Q : Int32 → Mem → Prop) (L35 : Mem × Int32 × Int32 → Prop) (M : Mem) (y2 : Int32) (y3 : Int32) : Prop :=
  ∀ v17 : Int32, v17 = y3 + 1 → L35 (M, y2, v17)
def bX11_spread_35 (x1 : Int32) (Q : Int32 → Mem → Prop) (L35 : Mem × Int32 × Int32 → Prop) (M : Mem) (y2 : Int32) (y3 : Int32) : Prop :=
  (((M.1 1210 0 0) ≤ y3 → Q y2 M) ∧ (¬ (M.1 1210 0 0) ≤ y3 → pX11_gathers M y3 (fun M13 => ((¬ (M13.1 1237 0 0) = x1 → ∀ v15 : Int32, v15 = (y2 + 0) → bX11_spread_64 x1 Q L35 M13 v15 y3) ∧ ((M13.1 1237 0 0) = x1 → ∀ v16 : Int32, v16 = (y2 + 1) → bX11_spread_64 x1 Q L35 M13 v16 y3)))))
def pX11_spread (M : Mem) (x1 : Int32) (Q : Int32 → Mem → Prop) : Prop :=
  ∀ M1 : Mem, M1 = up1 M 1200 0 0 0 → pX11_in M1 x1 0 64 (fun r2 M3 => ((¬ r2 = 0 → pX11_bad M3 0 1 1 (fun r5 M6 => ((r5 = 0 → ∃ n : Nat, lp (fun L s => bX11_spread_35 x1 Q L s.1 s.2.1 s.2.2) n (M6, 0, 0)) ∧ (¬ r5 = 0 → Q 0 M6)))) ∧ (r2 = 0 → pX11_bad M3 1 1 1 (fun r8 M9 => ((r8 = 0 → ∃ n : Nat, lp (fun L s => bX11_spread_35 x1 Q L s.1 s.2.1 s.2.2) n (M9, 0, 0)) ∧ (¬ r8 = 0 → Q 0 M9))))))
set_option maxRecDepth 100000 in
set_option maxHeartbeats 400000 in
theorem wX11_spread_64 {Γ : Gam} {G : Gm} {Qf : State → Prop} (hG : Gd G) (C : Cx Γ G cX11_spread 4 RX11 (some .int) rmX11_spread) {x1 : Int32} {Q : Int32 → Mem → Prop} (E : EndI Γ G Qf rmX11_spread Q) {L35 : Mem × Int32 × Int32 → Prop} (hL35 : ∀ s, L35 s → X Γ G Qf 4 0 0 35 [(0, .ref (ga G 11 0)), (1, .int x1), (2, .int s.2.1), (3, .int s.2.2)] [] s.1) (M : Mem) (y2 : Int32) (y3 : Int32) (h : bX11_spread_64 x1 Q L35 M y2 y3) : X Γ G Qf 4 0 0 64 [(0, .ref (ga G 11 0)), (1, .int x1), (2, .int y2), (3, .int y3)] [] M := by
  unfold bX11_spread_64 at h
  obtain ⟨v17, ev17⟩ : ∃ z : Int32, z = y3 + 1 := ⟨_, rfl⟩
  replace h := h v17 ev17
  refine x_iinc (v := v17) (lv' := [(3, .int v17), (0, .ref (ga G 11 0)), (1, .int x1), (2, .int y2)]) (j := 3) C dX11_spread_64 rfl (by rw [ev17]; rfl) (Nat.le_of_ble_eq_true rfl) rfl ?_
  refine x_goto (tgt := 35) C dX11_spread_67 (by decide) ?_
  refine X_sub (lv' := [(0, .ref (ga G 11 0)), (1, .int x1), (2, .int y2), (3, .int v17)]) [1, 2, 3, 0] rfl ?_
  have w9 := hL35 (M, y2, v17) h
  dsimp only at w9
  exact w9
set_option maxRecDepth 100000 in
set_option maxHeartbeats 400000 in
theorem wX11_spread_35 {Γ : Gam} {G : Gm} {Qf : State → Prop} (hG : Gd G) (C : Cx Γ G cX11_spread 4 RX11 (some .int) rmX11_spread) {x1 : Int32} {Q : Int32 → Mem → Prop} (E : EndI Γ G Qf rmX11_spread Q) {L35 : Mem × Int32 × Int32 → Prop} (hL35 : ∀ s, L35 s → X Γ G Qf 4 0 0 35 [(0, .ref (ga G 11 0)), (1, .int x1), (2, .int s.2.1), (3, .int s.2.2)] [] s.1) (M : Mem) (y2 : Int32) (y3 : Int32) (h : bX11_spread_35 x1 Q L35 M y2 y3) : X Γ G Qf 4 0 0 35 [(0, .ref (ga G 11 0)), (1, .int x1), (2, .int y2), (3, .int y3)] [] M := by
  unfold bX11_spread_35 at h
  refine x_iload_n C dX11_spread_35 3 rfl ?_
  refine x_aload_n C dX11_spread_36 0 rfl ?_
  refine gf_11_10 C q155 z11 dX11_spread_37 ?_
  refine x_icmp_ge (tgt := 70) C dX11_spread_40 (by decide) (fun c11 => ?_) (fun c11 => ?_)
  · replace h := h.1 c11
    refine x_iload_n C dX11_spread_70 2 rfl ?_
    exact x_iret C E h (Nat.le_of_ble_eq_true rfl) (Nat.le_of_ble_eq_true rfl) dX11_spread_71
  · replace h := h.2 c11
    refine x_aload_n C dX11_spread_43 0 rfl ?_
    refine x_iload_n C dX11_spread_44 3 rfl ?_
    refine x_callv (rest := []) C sv_X11_252 ob11 z11 (kX11_gathers hG _ _ h) rfl rfl (Nat.le_of_ble_eq_true rfl) ⟨Nat.le_of_ble_eq_true rfl, Nat.le_of_ble_eq_true rfl⟩ rfl rfl ⟨Nat.le_of_ble_eq_true rfl, Nat.le_of_ble_eq_true rfl⟩ dX11_spread_45 (fun M13 h => ?_)
    refine x_iload_n C dX11_spread_48 2 rfl ?_
    refine x_aload_n C dX11_spread_49 0 rfl ?_
    refine gf_11_37 C q181 z11 dX11_spread_50 ?_
    refine x_iload_n C dX11_spread_53 1 rfl ?_
    refine x_icmp_ne (tgt := 61) C dX11_spread_54 (by decide) (fun c14 => ?_) (fun c14 => ?_)
    · replace h := h.1 c14
      refine x_iconst (v := 0) C dX11_spread_61 rfl ?_
      refine x_iadd C dX11_spread_62 ?_
      refine X_name (fun v15 ev15 => ?_)
      replace h := h v15 ev15
      refine x_istore_n (lv' := [(2, .int v15), (0, .ref (ga G 11 0)), (1, .int x1), (3, .int y3)]) C dX11_spread_63 rfl (Nat.le_of_ble_eq_true rfl) rfl ?_
      refine X_sub (lv' := [(0, .ref (ga G 11 0)), (1, .int x1), (2, .int v15), (3, .int y3)]) [1, 2, 0, 3] rfl ?_
      exact wX11_spread_64 hG C E hL35 M13 v15 y3 h
    · replace h := h.2 c14
      refine x_iconst (v := 1) C dX11_spread_57 rfl ?_
      refine x_goto (tgt := 62) C dX11_spread_58 (by decide) ?_
      refine x_iadd C dX11_spread_62 ?_
      refine X_name (fun v16 ev16 => ?_)
      replace h := h v16 ev16
      refine x_istore_n (lv' := [(2, .int v16), (0, .ref (ga G 11 0)), (1, .int x1), (3, .int y3)]) C dX11_spread_63 rfl (Nat.le_of_ble_eq_true rfl) rfl ?_
      refine X_sub (lv' := [(0, .ref (ga G 11 0)), (1, .int x1), (2, .int v16), (3, .int y3)]) [1, 2, 0, 3] rfl ?_
      exact wX11_spread_64 hG C E hL35 M13 v16 y3 h
set_option maxRecDepth 100000 in
set_option maxHeartbeats 400000 in
theorem kX11_spread {l : Launch} {G : Gm} (hG : Gd G) (M : Mem) (x1 : Int32) {Q : Int32 → Mem → Prop} (h : pX11_spread M x1 Q) : Cti l G yX11_spread cX11_spread 4 .int rmX11_spread [.ref (ga G 11 0), .int x1] M Q := by
  refine cti_of (own := RX11) (by decide +kernel) rfl (Nat.le_of_ble_eq_true rfl) hG (fun Γ Qf hl C E => ?_)
  subst hl
  show X Γ G Qf 4 0 0 0 [(0, .ref (ga G 11 0)), (1, .int x1)] [] M
  unfold pX11_spread at h
  refine x_aload_n C dX11_spread_0 0 rfl ?_
  refine x_iconst (v := 0) C dX11_spread_1 rfl ?_
  refine pf_11_0 C q143 z11 dX11_spread_2 ?_
  refine X_nameM (fun M1 eM1 => ?_)
  replace h := h M1 eM1
  refine x_aload_n C dX11_spread_5 0 rfl ?_
  refine x_iload_n C dX11_spread_6 1 rfl ?_
  refine x_iconst (v := 0) C dX11_spread_7 rfl ?_
  refine x_bipush (v := 64) C dX11_spread_8 rfl ?_
  refine x_scalli (rest := [.ref (ga G 11 0)]) C ss_X11_172 (kX11_in hG _ _ _ _ h) rfl rfl (Nat.le_of_ble_eq_true rfl) ⟨Nat.le_of_ble_eq_true rfl, Nat.le_of_ble_eq_true rfl⟩ rfl rfl ⟨Nat.le_of_ble_eq_true rfl, Nat.le_of_ble_eq_true rfl⟩ dX11_spread_10 (fun r2 M3 h => ?_)
  refine x_if_ne (tgt := 20) C dX11_spread_13 (by decide) (fun c4 => ?_) (fun c4 => ?_)
  · replace h := h.1 c4
    refine x_iconst (v := 0) C dX11_spread_20 rfl ?_
    refine x_iconst (v := 1) C dX11_spread_21 rfl ?_
    refine x_iconst (v := 1) C dX11_spread_22 rfl ?_
    refine x_calli (rest := []) C sv_X11_179 ob11 z11 (kX11_bad hG _ _ _ _ h) rfl rfl (Nat.le_of_ble_eq_true rfl) ⟨Nat.le_of_ble_eq_true rfl, Nat.le_of_ble_eq_true rfl⟩ rfl rfl ⟨Nat.le_of_ble_eq_true rfl, Nat.le_of_ble_eq_true rfl⟩ dX11_spread_23 (fun r5 M6 h => ?_)
    refine x_if_eq (tgt := 31) C dX11_spread_26 (by decide) (fun c7 => ?_) (fun c7 => ?_)
    · replace h := h.1 c7
      refine x_iconst (v := 0) C dX11_spread_31 rfl ?_
      refine x_istore_n (lv' := [(2, .int 0), (0, .ref (ga G 11 0)), (1, .int x1)]) C dX11_spread_32 rfl (Nat.le_of_ble_eq_true rfl) rfl ?_
      refine x_iconst (v := 0) C dX11_spread_33 rfl ?_
      refine x_istore_n (lv' := [(3, .int 0), (2, .int 0), (0, .ref (ga G 11 0)), (1, .int x1)]) C dX11_spread_34 rfl (Nat.le_of_ble_eq_true rfl) rfl ?_
      obtain ⟨n9, h⟩ := h
      refine X_sub (lv' := [(0, .ref (ga G 11 0)), (1, .int x1), (2, .int 0), (3, .int 0)]) [2, 3, 1, 0] rfl ?_
      have hb : ∀ (L : Mem × Int32 × Int32 → Prop) (s : Mem × Int32 × Int32), (∀ t, L t → X Γ G Qf 4 0 0 35 [(0, .ref (ga G 11 0)), (1, .int x1), (2, .int t.2.1), (3, .int t.2.2)] [] t.1) → bX11_spread_35 x1 Q L s.1 s.2.1 s.2.2 → X Γ G Qf 4 0 0 35 [(0, .ref (ga G 11 0)), (1, .int x1), (2, .int s.2.1), (3, .int s.2.2)] [] s.1 := fun L s hL h => wX11_spread_35 hG C E hL s.1 s.2.1 s.2.2 h
      have w9 := lp_walk (P := fun s : Mem × Int32 × Int32 => X Γ G Qf 4 0 0 35 [(0, .ref (ga G 11 0)), (1, .int x1), (2, .int s.2.1), (3, .int s.2.2)] [] s.1) h hb
      dsimp only at w9
      exact w9
    · replace h := h.2 c7
      refine x_iconst (v := 0) C dX11_spread_29 rfl ?_
      exact x_iret C E h (Nat.le_of_ble_eq_true rfl) (Nat.le_of_ble_eq_true rfl) dX11_spread_30
  · replace h := h.2 c4
    refine x_iconst (v := 1) C dX11_spread_16 rfl ?_
    refine x_goto (tgt := 21) C dX11_spread_17 (by decide) ?_
    refine x_iconst (v := 1) C dX11_spread_21 rfl ?_
    refine x_iconst (v := 1) C dX11_spread_22 rfl ?_
    refine x_calli (rest := []) C sv_X11_179 ob11 z11 (kX11_bad hG _ _ _ _ h) rfl rfl (Nat.le_of_ble_eq_true rfl) ⟨Nat.le_of_ble_eq_true rfl, Nat.le_of_ble_eq_true rfl⟩ rfl rfl ⟨Nat.le_of_ble_eq_true rfl, Nat.le_of_ble_eq_true rfl⟩ dX11_spread_23 (fun r8 M9 h => ?_)
    refine x_if_eq (tgt := 31) C dX11_spread_26 (by decide) (fun c10 => ?_) (fun c10 => ?_)
    · replace h := h.1 c10
      refine x_iconst (v := 0) C dX11_spread_31 rfl ?_
      refine x_istore_n (lv' := [(2, .int 0), (0, .ref (ga G 11 0)), (1, .int x1)]) C dX11_spread_32 rfl (Nat.le_of_ble_eq_true rfl) rfl ?_
      refine x_iconst (v := 0) C dX11_spread_33 rfl ?_
      refine x_istore_n (lv' := [(3, .int 0), (2, .int 0), (0, .ref (ga G 11 0)), (1, .int x1)]) C dX11_spread_34 rfl (Nat.le_of_ble_eq_true rfl) rfl ?_
      obtain ⟨n9, h⟩ := h
      refine X_sub (lv' := [(0, .ref (ga G 11 0)), (1, .int x1), (2, .int 0), (3, .int 0)]) [2, 3, 1, 0] rfl ?_
      have hb : ∀ (L : Mem × Int32 × Int32 → Prop) (s : Mem × Int32 × Int32), (∀ t, L t → X Γ G Qf 4 0 0 35 [(0, .ref (ga G 11 0)), (1, .int x1), (2, .int t.2.1), (3, .int t.2.2)] [] t.1) → bX11_spread_35 x1 Q L s.1 s.2.1 s.2.2 → X Γ G Qf 4 0 0 35 [(0, .ref (ga G 11 0)), (1, .int x1), (2, .int s.2.1), (3, .int s.2.2)] [] s.1 := fun L s hL h => wX11_spread_35 hG C E hL s.1 s.2.1 s.2.2 h
      have w9 := lp_walk (P := fun s : Mem × Int32 × Int32 => X Γ G Qf 4 0 0 35 [(0, .ref (ga G 11 0)), (1, .int x1), (2, .int s.2.1), (3, .int s.2.2)] [] s.1) h hb
      dsimp only at w9
      exact w9
    · replace h := h.2 c10
      refine x_iconst (v := 0) C dX11_spread_29 rfl ?_
      exact x_iret C E h (Nat.le_of_ble_eq_true rfl) (Nat.le_of_ble_eq_true rfl) dX11_spread_30
def rmX11_nearest : Room := { frames := 2, cells := 0, slots := 0, locals := 43 }
def bX11_nearest_79 (x1 : Int32) (Q : Int32 → Mem → Prop) (L33 : Mem × Int32 × Int32 → Prop) (M : Mem) (y2 : Int32) (y3 : Int32) : Prop :=
  ∀ v22 : Int32, v22 = y3 + 1 → L33 (M, y2, v22)
def bX11_nearest_77 (x1 : Int32) (Q : Int32 → Mem → Prop) (L33 : Mem × Int32 × Int32 → Prop) (M : Mem) (y3 : Int32) : Prop :=
  bX11_nearest_79 x1 Q L33 M y3 y3
def bX11_nearest_33 (x1 : Int32) (Q : Int32 → Mem → Prop) (L33 : Mem × Int32 × Int32 → Prop) (M : Mem) (y2 : Int32) (y3 : Int32) : Prop :=
  (((M.1 1209 0 0) ≤ y3 → Q y2 M) ∧ (¬ (M.1 1209 0 0) ≤ y3 → ((y3 = x1 → bX11_nearest_79 x1 Q L33 M y2 y3) ∧ (¬ y3 = x1 → pX11_isKept M y3 (fun r13 M14 => ((¬ r13 = 0 → ((y2 = (-1) → bX11_nearest_77 x1 Q L33 M14 y3) ∧ (¬ y2 = (-1) → pX11_inBoth M14 x1 y3 (fun r17 M18 => pX11_inBoth M18 x1 y2 (fun r19 M20 => ((r17 ≤ r19 → bX11_nearest_79 x1 Q L33 M20 y2 y3) ∧ (¬ r17 ≤ r19 → bX11_nearest_77 x1 Q L33 M20 y3))))))) ∧ (r13 = 0 → bX11_nearest_79 x1 Q L33 M14 y2 y3)))))))
def pX11_nearest (M : Mem) (x1 : Int32) (Q : Int32 → Mem → Prop) : Prop :=
  ∀ M1 : Mem, M1 = up1 M 1200 0 0 0 → pX11_isDocument M1 x1 (fun r2 M3 => ((¬ r2 = 0 → pX11_bad M3 0 1 0 (fun r5 M6 => ((r5 = 0 → ∃ n : Nat, lp (fun L s => bX11_nearest_33 x1 Q L s.1 s.2.1 s.2.2) n (M6, (-1), 0)) ∧ (¬ r5 = 0 → Q 0 M6)))) ∧ (r2 = 0 → pX11_bad M3 1 1 0 (fun r8 M9 => ((r8 = 0 → ∃ n : Nat, lp (fun L s => bX11_nearest_33 x1 Q L s.1 s.2.1 s.2.2) n (M9, (-1), 0)) ∧ (¬ r8 = 0 → Q 0 M9))))))
set_option maxRecDepth 100000 in
set_option maxHeartbeats 400000 in
theorem wX11_nearest_79 {Γ : Gam} {G : Gm} {Qf : State → Prop} (hG : Gd G) (C : Cx Γ G cX11_nearest 4 RX11 (some .int) rmX11_nearest) {x1 : Int32} {Q : Int32 → Mem → Prop} (E : EndI Γ G Qf rmX11_nearest Q) {L33 : Mem × Int32 × Int32 → Prop} (hL33 : ∀ s, L33 s → X Γ G Qf 4 0 0 33 [(0, .ref (ga G 11 0)), (1, .int x1), (2, .int s.2.1), (3, .int s.2.2)] [] s.1) (M : Mem) (y2 : Int32) (y3 : Int32) (h : bX11_nearest_79 x1 Q L33 M y2 y3) : X Γ G Qf 4 0 0 79 [(0, .ref (ga G 11 0)), (1, .int x1), (2, .int y2), (3, .int y3)] [] M := by
  unfold bX11_nearest_79 at h
  obtain ⟨v22, ev22⟩ : ∃ z : Int32, z = y3 + 1 := ⟨_, rfl⟩
  replace h := h v22 ev22
  refine x_iinc (v := v22) (lv' := [(3, .int v22), (0, .ref (ga G 11 0)), (1, .int x1), (2, .int y2)]) (j := 3) C dX11_nearest_79 rfl (by rw [ev22]; rfl) (Nat.le_of_ble_eq_true rfl) rfl ?_
  refine x_goto (tgt := 33) C dX11_nearest_82 (by decide) ?_
  refine X_sub (lv' := [(0, .ref (ga G 11 0)), (1, .int x1), (2, .int y2), (3, .int v22)]) [1, 2, 3, 0] rfl ?_
  have w9 := hL33 (M, y2, v22) h
  dsimp only at w9
  exact w9
set_option maxRecDepth 100000 in
set_option maxHeartbeats 400000 in
theorem wX11_nearest_77 {Γ : Gam} {G : Gm} {Qf : State → Prop} (hG : Gd G) (C : Cx Γ G cX11_nearest 4 RX11 (some .int) rmX11_nearest) {x1 : Int32} {Q : Int32 → Mem → Prop} (E : EndI Γ G Qf rmX11_nearest Q) {L33 : Mem × Int32 × Int32 → Prop} (hL33 : ∀ s, L33 s → X Γ G Qf 4 0 0 33 [(0, .ref (ga G 11 0)), (1, .int x1), (2, .int s.2.1), (3, .int s.2.2)] [] s.1) (M : Mem) (y3 : Int32) (h : bX11_nearest_77 x1 Q L33 M y3) : X Γ G Qf 4 0 0 77 [(0, .ref (ga G 11 0)), (1, .int x1), (3, .int y3)] [] M := by
  unfold bX11_nearest_77 at h
  refine x_iload_n C dX11_nearest_77 2 rfl ?_
  refine x_istore_n (lv' := [(2, .int y3), (0, .ref (ga G 11 0)), (1, .int x1), (3, .int y3)]) C dX11_nearest_78 rfl (Nat.le_of_ble_eq_true rfl) rfl ?_
  refine X_sub (lv' := [(0, .ref (ga G 11 0)), (1, .int x1), (2, .int y3), (3, .int y3)]) [1, 2, 0, 3] rfl ?_
  exact wX11_nearest_79 hG C E hL33 M y3 y3 h
set_option maxRecDepth 100000 in
set_option maxHeartbeats 400000 in
theorem wX11_nearest_33 {Γ : Gam} {G : Gm} {Qf : State → Prop} (hG : Gd G) (C : Cx Γ G cX11_nearest 4 RX11 (some .int) rmX11_nearest) {x1 : Int32} {Q : Int32 → Mem → Prop} (E : EndI Γ G Qf rmX11_nearest Q) {L33 : Mem × Int32 × Int32 → Prop} (hL33 : ∀ s, L33 s → X Γ G Qf 4 0 0 33 [(0, .ref (ga G 11 0)), (1, .int x1), (2, .int s.2.1), (3, .int s.2.2)] [] s.1) (M : Mem) (y2 : Int32) (y3 : Int32) (h : bX11_nearest_33 x1 Q L33 M y2 y3) : X Γ G Qf 4 0 0 33 [(0, .ref (ga G 11 0)), (1, .int x1), (2, .int y2), (3, .int y3)] [] M := by
  unfold bX11_nearest_33 at h
  refine x_iload_n C dX11_nearest_33 3 rfl ?_
  refine x_aload_n C dX11_nearest_34 0 rfl ?_
  refine gf_11_9 C q159 z11 dX11_nearest_35 ?_
  refine x_icmp_ge (tgt := 85) C dX11_nearest_38 (by decide) (fun c11 => ?_) (fun c11 => ?_)
  · replace h := h.1 c11
    refine x_iload_n C dX11_nearest_85 2 rfl ?_
    exact x_iret C E h (Nat.le_of_ble_eq_true rfl) (Nat.le_of_ble_eq_true rfl) dX11_nearest_86
  · replace h := h.2 c11
    refine x_iload_n C dX11_nearest_41 3 rfl ?_
    refine x_iload_n C dX11_nearest_42 1 rfl ?_
    refine x_icmp_eq (tgt := 79) C dX11_nearest_43 (by decide) (fun c12 => ?_) (fun c12 => ?_)
    · replace h := h.1 c12
      refine X_sub (lv' := [(0, .ref (ga G 11 0)), (1, .int x1), (2, .int y2), (3, .int y3)]) [0, 1, 2, 3] rfl ?_
      exact wX11_nearest_79 hG C E hL33 M y2 y3 h
    · replace h := h.2 c12
      refine x_aload_n C dX11_nearest_46 0 rfl ?_
      refine x_iload_n C dX11_nearest_47 3 rfl ?_
      refine x_calli (rest := []) C sv_X11_246 ob11 z11 (kX11_isKept hG _ _ h) rfl rfl (Nat.le_of_ble_eq_true rfl) ⟨Nat.le_of_ble_eq_true rfl, Nat.le_of_ble_eq_true rfl⟩ rfl rfl ⟨Nat.le_of_ble_eq_true rfl, Nat.le_of_ble_eq_true rfl⟩ dX11_nearest_48 (fun r13 M14 h => ?_)
      refine x_if_ne (tgt := 57) C dX11_nearest_51 (by decide) (fun c15 => ?_) (fun c15 => ?_)
      · replace h := h.1 c15
        refine x_iload_n C dX11_nearest_57 2 rfl ?_
        refine x_iconst (v := (-1)) C dX11_nearest_58 rfl ?_
        refine x_icmp_eq (tgt := 77) C dX11_nearest_59 (by decide) (fun c16 => ?_) (fun c16 => ?_)
        · replace h := h.1 c16
          refine X_sub (lv' := [(0, .ref (ga G 11 0)), (1, .int x1), (3, .int y3)]) [0, 1, 3] rfl ?_
          exact wX11_nearest_77 hG C E hL33 M14 y3 h
        · replace h := h.2 c16
          refine x_aload_n C dX11_nearest_62 0 rfl ?_
          refine x_iload_n C dX11_nearest_63 1 rfl ?_
          refine x_iload_n C dX11_nearest_64 3 rfl ?_
          refine x_calli (rest := []) C sv_X11_433 ob11 z11 (kX11_inBoth hG _ _ _ h) rfl rfl (Nat.le_of_ble_eq_true rfl) ⟨Nat.le_of_ble_eq_true rfl, Nat.le_of_ble_eq_true rfl⟩ rfl rfl ⟨Nat.le_of_ble_eq_true rfl, Nat.le_of_ble_eq_true rfl⟩ dX11_nearest_65 (fun r17 M18 h => ?_)
          refine x_aload_n C dX11_nearest_68 0 rfl ?_
          refine x_iload_n C dX11_nearest_69 1 rfl ?_
          refine x_iload_n C dX11_nearest_70 2 rfl ?_
          refine x_calli (rest := [.int r17]) C sv_X11_433 ob11 z11 (kX11_inBoth hG _ _ _ h) rfl rfl (Nat.le_of_ble_eq_true rfl) ⟨Nat.le_of_ble_eq_true rfl, Nat.le_of_ble_eq_true rfl⟩ rfl rfl ⟨Nat.le_of_ble_eq_true rfl, Nat.le_of_ble_eq_true rfl⟩ dX11_nearest_71 (fun r19 M20 h => ?_)
          refine x_icmp_le (tgt := 79) C dX11_nearest_74 (by decide) (fun c21 => ?_) (fun c21 => ?_)
          · replace h := h.1 c21
            refine X_sub (lv' := [(0, .ref (ga G 11 0)), (1, .int x1), (2, .int y2), (3, .int y3)]) [0, 1, 2, 3] rfl ?_
            exact wX11_nearest_79 hG C E hL33 M20 y2 y3 h
          · replace h := h.2 c21
            refine X_sub (lv' := [(0, .ref (ga G 11 0)), (1, .int x1), (3, .int y3)]) [0, 1, 3] rfl ?_
            exact wX11_nearest_77 hG C E hL33 M20 y3 h
      · replace h := h.2 c15
        refine x_goto (tgt := 79) C dX11_nearest_54 (by decide) ?_
        refine X_sub (lv' := [(0, .ref (ga G 11 0)), (1, .int x1), (2, .int y2), (3, .int y3)]) [0, 1, 2, 3] rfl ?_
        exact wX11_nearest_79 hG C E hL33 M14 y2 y3 h
set_option maxRecDepth 100000 in
set_option maxHeartbeats 400000 in
theorem kX11_nearest {l : Launch} {G : Gm} (hG : Gd G) (M : Mem) (x1 : Int32) {Q : Int32 → Mem → Prop} (h : pX11_nearest M x1 Q) : Cti l G yX11_nearest cX11_nearest 4 .int rmX11_nearest [.ref (ga G 11 0), .int x1] M Q := by
  refine cti_of (own := RX11) (by decide +kernel) rfl (Nat.le_of_ble_eq_true rfl) hG (fun Γ Qf hl C E => ?_)
  subst hl
  show X Γ G Qf 4 0 0 0 [(0, .ref (ga G 11 0)), (1, .int x1)] [] M
  unfold pX11_nearest at h
  refine x_aload_n C dX11_nearest_0 0 rfl ?_
  refine x_iconst (v := 0) C dX11_nearest_1 rfl ?_
  refine pf_11_0 C q143 z11 dX11_nearest_2 ?_
  refine X_nameM (fun M1 eM1 => ?_)
  replace h := h M1 eM1
  refine x_aload_n C dX11_nearest_5 0 rfl ?_
  refine x_aload_n C dX11_nearest_6 0 rfl ?_
  refine x_iload_n C dX11_nearest_7 1 rfl ?_
  refine x_calli (rest := [.ref (ga G 11 0)]) C sv_X11_402 ob11 z11 (kX11_isDocument hG _ _ h) rfl rfl (Nat.le_of_ble_eq_true rfl) ⟨Nat.le_of_ble_eq_true rfl, Nat.le_of_ble_eq_true rfl⟩ rfl rfl ⟨Nat.le_of_ble_eq_true rfl, Nat.le_of_ble_eq_true rfl⟩ dX11_nearest_8 (fun r2 M3 h => ?_)
  refine x_if_ne (tgt := 18) C dX11_nearest_11 (by decide) (fun c4 => ?_) (fun c4 => ?_)
  · replace h := h.1 c4
    refine x_iconst (v := 0) C dX11_nearest_18 rfl ?_
    refine x_iconst (v := 1) C dX11_nearest_19 rfl ?_
    refine x_iconst (v := 0) C dX11_nearest_20 rfl ?_
    refine x_calli (rest := []) C sv_X11_179 ob11 z11 (kX11_bad hG _ _ _ _ h) rfl rfl (Nat.le_of_ble_eq_true rfl) ⟨Nat.le_of_ble_eq_true rfl, Nat.le_of_ble_eq_true rfl⟩ rfl rfl ⟨Nat.le_of_ble_eq_true rfl, Nat.le_of_ble_eq_true rfl⟩ dX11_nearest_21 (fun r5 M6 h => ?_)
    refine x_if_eq (tgt := 29) C dX11_nearest_24 (by decide) (fun c7 => ?_) (fun c7 => ?_)
    · replace h := h.1 c7
      refine x_iconst (v := (-1)) C dX11_nearest_29 rfl ?_
      refine x_istore_n (lv' := [(2, .int (-1)), (0, .ref (ga G 11 0)), (1, .int x1)]) C dX11_nearest_30 rfl (Nat.le_of_ble_eq_true rfl) rfl ?_
      refine x_iconst (v := 0) C dX11_nearest_31 rfl ?_
      refine x_istore_n (lv' := [(3, .int 0), (2, .int (-1)), (0, .ref (ga G 11 0)), (1, .int x1)]) C dX11_nearest_32 rfl (Nat.le_of_ble_eq_true rfl) rfl ?_
      obtain ⟨n9, h⟩ := h
      refine X_sub (lv' := [(0, .ref (ga G 11 0)), (1, .int x1), (2, .int (-1)), (3, .int 0)]) [2, 3, 1, 0] rfl ?_
      have hb : ∀ (L : Mem × Int32 × Int32 → Prop) (s : Mem × Int32 × Int32), (∀ t, L t → X Γ G Qf 4 0 0 33 [(0, .ref (ga G 11 0)), (1, .int x1), (2, .int t.2.1), (3, .int t.2.2)] [] t.1) → bX11_nearest_33 x1 Q L s.1 s.2.1 s.2.2 → X Γ G Qf 4 0 0 33 [(0, .ref (ga G 11 0)), (1, .int x1), (2, .int s.2.1), (3, .int s.2.2)] [] s.1 := fun L s hL h => wX11_nearest_33 hG C E hL s.1 s.2.1 s.2.2 h
      have w9 := lp_walk (P := fun s : Mem × Int32 × Int32 => X Γ G Qf 4 0 0 33 [(0, .ref (ga G 11 0)), (1, .int x1), (2, .int s.2.1), (3, .int s.2.2)] [] s.1) h hb
      dsimp only at w9
      exact w9
    · replace h := h.2 c7
      refine x_iconst (v := 0) C dX11_nearest_27 rfl ?_
      exact x_iret C E h (Nat.le_of_ble_eq_true rfl) (Nat.le_of_ble_eq_true rfl) dX11_nearest_28
  · replace h := h.2 c4
    refine x_iconst (v := 1) C dX11_nearest_14 rfl ?_
    refine x_goto (tgt := 19) C dX11_nearest_15 (by decide) ?_
    refine x_iconst (v := 1) C dX11_nearest_19 rfl ?_
    refine x_iconst (v := 0) C dX11_nearest_20 rfl ?_
    refine x_calli (rest := []) C sv_X11_179 ob11 z11 (kX11_bad hG _ _ _ _ h) rfl rfl (Nat.le_of_ble_eq_true rfl) ⟨Nat.le_of_ble_eq_true rfl, Nat.le_of_ble_eq_true rfl⟩ rfl rfl ⟨Nat.le_of_ble_eq_true rfl, Nat.le_of_ble_eq_true rfl⟩ dX11_nearest_21 (fun r8 M9 h => ?_)
    refine x_if_eq (tgt := 29) C dX11_nearest_24 (by decide) (fun c10 => ?_) (fun c10 => ?_)
    · replace h := h.1 c10
      refine x_iconst (v := (-1)) C dX11_nearest_29 rfl ?_
      refine x_istore_n (lv' := [(2, .int (-1)), (0, .ref (ga G 11 0)), (1, .int x1)]) C dX11_nearest_30 rfl (Nat.le_of_ble_eq_true rfl) rfl ?_
      refine x_iconst (v := 0) C dX11_nearest_31 rfl ?_
      refine x_istore_n (lv' := [(3, .int 0), (2, .int (-1)), (0, .ref (ga G 11 0)), (1, .int x1)]) C dX11_nearest_32 rfl (Nat.le_of_ble_eq_true rfl) rfl ?_
      obtain ⟨n9, h⟩ := h
      refine X_sub (lv' := [(0, .ref (ga G 11 0)), (1, .int x1), (2, .int (-1)), (3, .int 0)]) [2, 3, 1, 0] rfl ?_
      have hb : ∀ (L : Mem × Int32 × Int32 → Prop) (s : Mem × Int32 × Int32), (∀ t, L t → X Γ G Qf 4 0 0 33 [(0, .ref (ga G 11 0)), (1, .int x1), (2, .int t.2.1), (3, .int t.2.2)] [] t.1) → bX11_nearest_33 x1 Q L s.1 s.2.1 s.2.2 → X Γ G Qf 4 0 0 33 [(0, .ref (ga G 11 0)), (1, .int x1), (2, .int s.2.1), (3, .int s.2.2)] [] s.1 := fun L s hL h => wX11_nearest_33 hG C E hL s.1 s.2.1 s.2.2 h
      have w9 := lp_walk (P := fun s : Mem × Int32 × Int32 => X Γ G Qf 4 0 0 33 [(0, .ref (ga G 11 0)), (1, .int x1), (2, .int s.2.1), (3, .int s.2.2)] [] s.1) h hb
      dsimp only at w9
      exact w9
    · replace h := h.2 c10
      refine x_iconst (v := 0) C dX11_nearest_27 rfl ?_
      exact x_iret C E h (Nat.le_of_ble_eq_true rfl) (Nat.le_of_ble_eq_true rfl) dX11_nearest_28
def rmX11_rarest : Room := { frames := 3, cells := 0, slots := 0, locals := 66 }
def bX11_rarest_115 (x1 : Int32) (Q : Int32 → Mem → Prop) (L36 : Mem × Int32 × Int32 × Int32 → Prop) (M : Mem) (y2 : Int32) (y3 : Int32) (y4 : Int32) : Prop :=
  ∀ v24 : Int32, v24 = y4 + 1 → L36 (M, y2, y3, v24)
def bX11_rarest_109 (x1 : Int32) (Q : Int32 → Mem → Prop) (L36 : Mem × Int32 × Int32 × Int32 → Prop) (M : Mem) (y4 : Int32) (y5 : Int32) : Prop :=
  bX11_rarest_115 x1 Q L36 M y4 y5 y4
def bX11_rarest_69 (x1 : Int32) (Q : Int32 → Mem → Prop) (L36 : Mem × Int32 × Int32 × Int32 → Prop) (M : Mem) (y2 : Int32) (y3 : Int32) (y4 : Int32) (y5 : Int32) : Prop :=
  ((y5 < y3 → bX11_rarest_115 x1 Q L36 M y2 y3 y4) ∧ (¬ y5 < y3 → ((y5 = 0 → bX11_rarest_115 x1 Q L36 M y2 y3 y4) ∧ (¬ y5 = 0 → ((¬ y5 = y3 → bX11_rarest_109 x1 Q L36 M y4 y5) ∧ (y5 = y3 → vp_in y4 256 ∧ vp_in x1 64 ∧ vp_in y2 256 ∧ (((M.1 6217 (tn y2) (tn x1)) < (M.1 6217 (tn y4) (tn x1)) → bX11_rarest_109 x1 Q L36 M y4 y5) ∧ (¬ (M.1 6217 (tn y2) (tn x1)) < (M.1 6217 (tn y4) (tn x1)) → bX11_rarest_115 x1 Q L36 M y2 y3 y4))))))))
def bX11_rarest_36 (x1 : Int32) (Q : Int32 → Mem → Prop) (L36 : Mem × Int32 × Int32 × Int32 → Prop) (M : Mem) (y2 : Int32) (y3 : Int32) (y4 : Int32) : Prop :=
  (((M.1 1210 0 0) ≤ y4 → Q y2 M) ∧ (¬ (M.1 1210 0 0) ≤ y4 → vp_in y4 256 ∧ vp_in x1 64 ∧ ((¬ (M.1 6217 (tn y4) (tn x1)) = 0 → pX11_rare M y4 (fun r15 M16 => bX11_rarest_69 x1 Q L36 M16 y2 y3 y4 r15)) ∧ ((M.1 6217 (tn y4) (tn x1)) = 0 → bX11_rarest_69 x1 Q L36 M y2 y3 y4 0))))
def pX11_rarest (M : Mem) (x1 : Int32) (Q : Int32 → Mem → Prop) : Prop :=
  ∀ M1 : Mem, M1 = up1 M 1200 0 0 0 → pX11_isDocument M1 x1 (fun r2 M3 => ((¬ r2 = 0 → pX11_bad M3 0 1 0 (fun r5 M6 => ((r5 = 0 → ∃ n : Nat, lp (fun L s => bX11_rarest_36 x1 Q L s.1 s.2.1 s.2.2.1 s.2.2.2) n (M6, (-1), 0, 0)) ∧ (¬ r5 = 0 → Q 0 M6)))) ∧ (r2 = 0 → pX11_bad M3 1 1 0 (fun r8 M9 => ((r8 = 0 → ∃ n : Nat, lp (fun L s => bX11_rarest_36 x1 Q L s.1 s.2.1 s.2.2.1 s.2.2.2) n (M9, (-1), 0, 0)) ∧ (¬ r8 = 0 → Q 0 M9))))))
set_option maxRecDepth 100000 in
set_option maxHeartbeats 400000 in
theorem wX11_rarest_115 {Γ : Gam} {G : Gm} {Qf : State → Prop} (hG : Gd G) (C : Cx Γ G cX11_rarest 6 RX11 (some .int) rmX11_rarest) {x1 : Int32} {Q : Int32 → Mem → Prop} (E : EndI Γ G Qf rmX11_rarest Q) {L36 : Mem × Int32 × Int32 × Int32 → Prop} (hL36 : ∀ s, L36 s → X Γ G Qf 6 0 0 36 [(0, .ref (ga G 11 0)), (1, .int x1), (2, .int s.2.1), (3, .int s.2.2.1), (4, .int s.2.2.2)] [] s.1) (M : Mem) (y2 : Int32) (y3 : Int32) (y4 : Int32) (h : bX11_rarest_115 x1 Q L36 M y2 y3 y4) : X Γ G Qf 6 0 0 115 [(0, .ref (ga G 11 0)), (1, .int x1), (2, .int y2), (3, .int y3), (4, .int y4)] [] M := by
  unfold bX11_rarest_115 at h
  obtain ⟨v24, ev24⟩ : ∃ z : Int32, z = y4 + 1 := ⟨_, rfl⟩
  replace h := h v24 ev24
  refine x_iinc (v := v24) (lv' := [(4, .int v24), (0, .ref (ga G 11 0)), (1, .int x1), (2, .int y2), (3, .int y3)]) (j := 4) C dX11_rarest_115 rfl (by rw [ev24]; rfl) (Nat.le_of_ble_eq_true rfl) rfl ?_
  refine x_goto (tgt := 36) C dX11_rarest_118 (by decide) ?_
  refine X_sub (lv' := [(0, .ref (ga G 11 0)), (1, .int x1), (2, .int y2), (3, .int y3), (4, .int v24)]) [1, 2, 3, 4, 0] rfl ?_
  have w9 := hL36 (M, y2, y3, v24) h
  dsimp only at w9
  exact w9
set_option maxRecDepth 100000 in
set_option maxHeartbeats 400000 in
theorem wX11_rarest_109 {Γ : Gam} {G : Gm} {Qf : State → Prop} (hG : Gd G) (C : Cx Γ G cX11_rarest 6 RX11 (some .int) rmX11_rarest) {x1 : Int32} {Q : Int32 → Mem → Prop} (E : EndI Γ G Qf rmX11_rarest Q) {L36 : Mem × Int32 × Int32 × Int32 → Prop} (hL36 : ∀ s, L36 s → X Γ G Qf 6 0 0 36 [(0, .ref (ga G 11 0)), (1, .int x1), (2, .int s.2.1), (3, .int s.2.2.1), (4, .int s.2.2.2)] [] s.1) (M : Mem) (y4 : Int32) (y5 : Int32) (h : bX11_rarest_109 x1 Q L36 M y4 y5) : X Γ G Qf 6 0 0 109 [(0, .ref (ga G 11 0)), (1, .int x1), (4, .int y4), (5, .int y5)] [] M := by
  unfold bX11_rarest_109 at h
  refine x_iload C dX11_rarest_109 2 rfl ?_
  refine x_istore_n (lv' := [(2, .int y4), (0, .ref (ga G 11 0)), (1, .int x1), (4, .int y4), (5, .int y5)]) C dX11_rarest_111 rfl (Nat.le_of_ble_eq_true rfl) rfl ?_
  refine x_iload C dX11_rarest_112 4 rfl ?_
  refine x_istore_n (lv' := [(3, .int y5), (2, .int y4), (0, .ref (ga G 11 0)), (1, .int x1), (4, .int y4), (5, .int y5)]) C dX11_rarest_114 rfl (Nat.le_of_ble_eq_true rfl) rfl ?_
  refine X_sub (lv' := [(0, .ref (ga G 11 0)), (1, .int x1), (2, .int y4), (3, .int y5), (4, .int y4)]) [2, 3, 1, 0, 4] rfl ?_
  exact wX11_rarest_115 hG C E hL36 M y4 y5 y4 h
set_option maxRecDepth 100000 in
set_option maxHeartbeats 400000 in
theorem wX11_rarest_69 {Γ : Gam} {G : Gm} {Qf : State → Prop} (hG : Gd G) (C : Cx Γ G cX11_rarest 6 RX11 (some .int) rmX11_rarest) {x1 : Int32} {Q : Int32 → Mem → Prop} (E : EndI Γ G Qf rmX11_rarest Q) {L36 : Mem × Int32 × Int32 × Int32 → Prop} (hL36 : ∀ s, L36 s → X Γ G Qf 6 0 0 36 [(0, .ref (ga G 11 0)), (1, .int x1), (2, .int s.2.1), (3, .int s.2.2.1), (4, .int s.2.2.2)] [] s.1) (M : Mem) (y2 : Int32) (y3 : Int32) (y4 : Int32) (y5 : Int32) (h : bX11_rarest_69 x1 Q L36 M y2 y3 y4 y5) : X Γ G Qf 6 0 0 69 [(0, .ref (ga G 11 0)), (1, .int x1), (2, .int y2), (3, .int y3), (4, .int y4), (5, .int y5)] [] M := by
  unfold bX11_rarest_69 at h
  refine x_iload C dX11_rarest_69 5 rfl ?_
  refine x_iload_n C dX11_rarest_71 3 rfl ?_
  refine x_icmp_lt (tgt := 115) C dX11_rarest_72 (by decide) (fun c17 => ?_) (fun c17 => ?_)
  · replace h := h.1 c17
    refine X_sub (lv' := [(0, .ref (ga G 11 0)), (1, .int x1), (2, .int y2), (3, .int y3), (4, .int y4)]) [0, 1, 2, 3, 4] rfl ?_
    exact wX11_rarest_115 hG C E hL36 M y2 y3 y4 h
  · replace h := h.2 c17
    refine x_iload C dX11_rarest_75 5 rfl ?_
    refine x_if_eq (tgt := 115) C dX11_rarest_77 (by decide) (fun c18 => ?_) (fun c18 => ?_)
    · replace h := h.1 c18
      refine X_sub (lv' := [(0, .ref (ga G 11 0)), (1, .int x1), (2, .int y2), (3, .int y3), (4, .int y4)]) [0, 1, 2, 3, 4] rfl ?_
      exact wX11_rarest_115 hG C E hL36 M y2 y3 y4 h
    · replace h := h.2 c18
      refine x_iload C dX11_rarest_80 5 rfl ?_
      refine x_iload_n C dX11_rarest_82 3 rfl ?_
      refine x_icmp_ne (tgt := 109) C dX11_rarest_83 (by decide) (fun c19 => ?_) (fun c19 => ?_)
      · replace h := h.1 c19
        refine X_sub (lv' := [(0, .ref (ga G 11 0)), (1, .int x1), (4, .int y4), (5, .int y5)]) [0, 1, 4, 5] rfl ?_
        exact wX11_rarest_109 hG C E hL36 M y4 y5 h
      · replace h := h.2 c19
        refine x_aload_n C dX11_rarest_86 0 rfl ?_
        refine gf_11_17 C q163 z11 dX11_rarest_87 ?_
        refine x_iload C dX11_rarest_90 4 rfl ?_
        obtain ⟨f20, h⟩ := h
        refine al_1217 C z1217 f20 dX11_rarest_92 ?_
        refine x_iload_n C dX11_rarest_93 1 rfl ?_
        obtain ⟨f21, h⟩ := h
        refine al_6217 C (vp_lt f20) f21 dX11_rarest_94 ?_
        refine x_aload_n C dX11_rarest_95 0 rfl ?_
        refine gf_11_17 C q163 z11 dX11_rarest_96 ?_
        refine x_iload_n C dX11_rarest_99 2 rfl ?_
        obtain ⟨f22, h⟩ := h
        refine al_1217 C z1217 f22 dX11_rarest_100 ?_
        refine x_iload_n C dX11_rarest_101 1 rfl ?_
        refine al_6217 C (vp_lt f22) f21 dX11_rarest_102 ?_
        refine x_icmp_gt (tgt := 109) C dX11_rarest_103 (by decide) (fun c23 => ?_) (fun c23 => ?_)
        · replace h := h.1 c23
          refine X_sub (lv' := [(0, .ref (ga G 11 0)), (1, .int x1), (4, .int y4), (5, .int y5)]) [0, 1, 4, 5] rfl ?_
          exact wX11_rarest_109 hG C E hL36 M y4 y5 h
        · replace h := h.2 c23
          refine x_goto (tgt := 115) C dX11_rarest_106 (by decide) ?_
          refine X_sub (lv' := [(0, .ref (ga G 11 0)), (1, .int x1), (2, .int y2), (3, .int y3), (4, .int y4)]) [0, 1, 2, 3, 4] rfl ?_
          exact wX11_rarest_115 hG C E hL36 M y2 y3 y4 h
set_option maxRecDepth 100000 in
set_option maxHeartbeats 400000 in
theorem wX11_rarest_36 {Γ : Gam} {G : Gm} {Qf : State → Prop} (hG : Gd G) (C : Cx Γ G cX11_rarest 6 RX11 (some .int) rmX11_rarest) {x1 : Int32} {Q : Int32 → Mem → Prop} (E : EndI Γ G Qf rmX11_rarest Q) {L36 : Mem × Int32 × Int32 × Int32 → Prop} (hL36 : ∀ s, L36 s → X Γ G Qf 6 0 0 36 [(0, .ref (ga G 11 0)), (1, .int x1), (2, .int s.2.1), (3, .int s.2.2.1), (4, .int s.2.2.2)] [] s.1) (M : Mem) (y2 : Int32) (y3 : Int32) (y4 : Int32) (h : bX11_rarest_36 x1 Q L36 M y2 y3 y4) : X Γ G Qf 6 0 0 36 [(0, .ref (ga G 11 0)), (1, .int x1), (2, .int y2), (3, .int y3), (4, .int y4)] [] M := by
  unfold bX11_rarest_36 at h
  refine x_iload C dX11_rarest_36 4 rfl ?_
  refine x_aload_n C dX11_rarest_38 0 rfl ?_
  refine gf_11_10 C q155 z11 dX11_rarest_39 ?_
  refine x_icmp_ge (tgt := 121) C dX11_rarest_42 (by decide) (fun c11 => ?_) (fun c11 => ?_)
  · replace h := h.1 c11
    refine x_iload_n C dX11_rarest_121 2 rfl ?_
    exact x_iret C E h (Nat.le_of_ble_eq_true rfl) (Nat.le_of_ble_eq_true rfl) dX11_rarest_122
  · replace h := h.2 c11
    refine x_aload_n C dX11_rarest_45 0 rfl ?_
    refine gf_11_17 C q163 z11 dX11_rarest_46 ?_
    refine x_iload C dX11_rarest_49 4 rfl ?_
    obtain ⟨f12, h⟩ := h
    refine al_1217 C z1217 f12 dX11_rarest_51 ?_
    refine x_iload_n C dX11_rarest_52 1 rfl ?_
    obtain ⟨f13, h⟩ := h
    refine al_6217 C (vp_lt f12) f13 dX11_rarest_53 ?_
    refine x_if_ne (tgt := 61) C dX11_rarest_54 (by decide) (fun c14 => ?_) (fun c14 => ?_)
    · replace h := h.1 c14
      refine x_aload_n C dX11_rarest_61 0 rfl ?_
      refine x_iload C dX11_rarest_62 4 rfl ?_
      refine x_calli (rest := []) C sv_X11_290 ob11 z11 (kX11_rare hG _ _ h) rfl rfl (Nat.le_of_ble_eq_true rfl) ⟨Nat.le_of_ble_eq_true rfl, Nat.le_of_ble_eq_true rfl⟩ rfl rfl ⟨Nat.le_of_ble_eq_true rfl, Nat.le_of_ble_eq_true rfl⟩ dX11_rarest_64 (fun r15 M16 h => ?_)
      refine x_istore (lv' := [(5, .int r15), (0, .ref (ga G 11 0)), (1, .int x1), (2, .int y2), (3, .int y3), (4, .int y4)]) C dX11_rarest_67 (Nat.le_of_ble_eq_true rfl) rfl ?_
      refine X_sub (lv' := [(0, .ref (ga G 11 0)), (1, .int x1), (2, .int y2), (3, .int y3), (4, .int y4), (5, .int r15)]) [1, 2, 3, 4, 5, 0] rfl ?_
      exact wX11_rarest_69 hG C E hL36 M16 y2 y3 y4 r15 h
    · replace h := h.2 c14
      refine x_iconst (v := 0) C dX11_rarest_57 rfl ?_
      refine x_goto (tgt := 67) C dX11_rarest_58 (by decide) ?_
      refine x_istore (lv' := [(5, .int 0), (0, .ref (ga G 11 0)), (1, .int x1), (2, .int y2), (3, .int y3), (4, .int y4)]) C dX11_rarest_67 (Nat.le_of_ble_eq_true rfl) rfl ?_
      refine X_sub (lv' := [(0, .ref (ga G 11 0)), (1, .int x1), (2, .int y2), (3, .int y3), (4, .int y4), (5, .int 0)]) [1, 2, 3, 4, 5, 0] rfl ?_
      exact wX11_rarest_69 hG C E hL36 M y2 y3 y4 0 h
set_option maxRecDepth 100000 in
set_option maxHeartbeats 400000 in
theorem kX11_rarest {l : Launch} {G : Gm} (hG : Gd G) (M : Mem) (x1 : Int32) {Q : Int32 → Mem → Prop} (h : pX11_rarest M x1 Q) : Cti l G yX11_rarest cX11_rarest 6 .int rmX11_rarest [.ref (ga G 11 0), .int x1] M Q := by
  refine cti_of (own := RX11) (by decide +kernel) rfl (Nat.le_of_ble_eq_true rfl) hG (fun Γ Qf hl C E => ?_)
  subst hl
  show X Γ G Qf 6 0 0 0 [(0, .ref (ga G 11 0)), (1, .int x1)] [] M
  unfold pX11_rarest at h
  refine x_aload_n C dX11_rarest_0 0 rfl ?_
  refine x_iconst (v := 0) C dX11_rarest_1 rfl ?_
  refine pf_11_0 C q143 z11 dX11_rarest_2 ?_
  refine X_nameM (fun M1 eM1 => ?_)
  replace h := h M1 eM1
  refine x_aload_n C dX11_rarest_5 0 rfl ?_
  refine x_aload_n C dX11_rarest_6 0 rfl ?_
  refine x_iload_n C dX11_rarest_7 1 rfl ?_
  refine x_calli (rest := [.ref (ga G 11 0)]) C sv_X11_402 ob11 z11 (kX11_isDocument hG _ _ h) rfl rfl (Nat.le_of_ble_eq_true rfl) ⟨Nat.le_of_ble_eq_true rfl, Nat.le_of_ble_eq_true rfl⟩ rfl rfl ⟨Nat.le_of_ble_eq_true rfl, Nat.le_of_ble_eq_true rfl⟩ dX11_rarest_8 (fun r2 M3 h => ?_)
  refine x_if_ne (tgt := 18) C dX11_rarest_11 (by decide) (fun c4 => ?_) (fun c4 => ?_)
  · replace h := h.1 c4
    refine x_iconst (v := 0) C dX11_rarest_18 rfl ?_
    refine x_iconst (v := 1) C dX11_rarest_19 rfl ?_
    refine x_iconst (v := 0) C dX11_rarest_20 rfl ?_
    refine x_calli (rest := []) C sv_X11_179 ob11 z11 (kX11_bad hG _ _ _ _ h) rfl rfl (Nat.le_of_ble_eq_true rfl) ⟨Nat.le_of_ble_eq_true rfl, Nat.le_of_ble_eq_true rfl⟩ rfl rfl ⟨Nat.le_of_ble_eq_true rfl, Nat.le_of_ble_eq_true rfl⟩ dX11_rarest_21 (fun r5 M6 h => ?_)
    refine x_if_eq (tgt := 29) C dX11_rarest_24 (by decide) (fun c7 => ?_) (fun c7 => ?_)
    · replace h := h.1 c7
      refine x_iconst (v := (-1)) C dX11_rarest_29 rfl ?_
      refine x_istore_n (lv' := [(2, .int (-1)), (0, .ref (ga G 11 0)), (1, .int x1)]) C dX11_rarest_30 rfl (Nat.le_of_ble_eq_true rfl) rfl ?_
      refine x_iconst (v := 0) C dX11_rarest_31 rfl ?_
      refine x_istore_n (lv' := [(3, .int 0), (2, .int (-1)), (0, .ref (ga G 11 0)), (1, .int x1)]) C dX11_rarest_32 rfl (Nat.le_of_ble_eq_true rfl) rfl ?_
      refine x_iconst (v := 0) C dX11_rarest_33 rfl ?_
      refine x_istore (lv' := [(4, .int 0), (3, .int 0), (2, .int (-1)), (0, .ref (ga G 11 0)), (1, .int x1)]) C dX11_rarest_34 (Nat.le_of_ble_eq_true rfl) rfl ?_
      obtain ⟨n9, h⟩ := h
      refine X_sub (lv' := [(0, .ref (ga G 11 0)), (1, .int x1), (2, .int (-1)), (3, .int 0), (4, .int 0)]) [3, 4, 2, 1, 0] rfl ?_
      have hb : ∀ (L : Mem × Int32 × Int32 × Int32 → Prop) (s : Mem × Int32 × Int32 × Int32), (∀ t, L t → X Γ G Qf 6 0 0 36 [(0, .ref (ga G 11 0)), (1, .int x1), (2, .int t.2.1), (3, .int t.2.2.1), (4, .int t.2.2.2)] [] t.1) → bX11_rarest_36 x1 Q L s.1 s.2.1 s.2.2.1 s.2.2.2 → X Γ G Qf 6 0 0 36 [(0, .ref (ga G 11 0)), (1, .int x1), (2, .int s.2.1), (3, .int s.2.2.1), (4, .int s.2.2.2)] [] s.1 := fun L s hL h => wX11_rarest_36 hG C E hL s.1 s.2.1 s.2.2.1 s.2.2.2 h
      have w9 := lp_walk (P := fun s : Mem × Int32 × Int32 × Int32 => X Γ G Qf 6 0 0 36 [(0, .ref (ga G 11 0)), (1, .int x1), (2, .int s.2.1), (3, .int s.2.2.1), (4, .int s.2.2.2)] [] s.1) h hb
      dsimp only at w9
      exact w9
    · replace h := h.2 c7
      refine x_iconst (v := 0) C dX11_rarest_27 rfl ?_
      exact x_iret C E h (Nat.le_of_ble_eq_true rfl) (Nat.le_of_ble_eq_true rfl) dX11_rarest_28
  · replace h := h.2 c4
    refine x_iconst (v := 1) C dX11_rarest_14 rfl ?_
    refine x_goto (tgt := 19) C dX11_rarest_15 (by decide) ?_
    refine x_iconst (v := 1) C dX11_rarest_19 rfl ?_
    refine x_iconst (v := 0) C dX11_rarest_20 rfl ?_
    refine x_calli (rest := []) C sv_X11_179 ob11 z11 (kX11_bad hG _ _ _ _ h) rfl rfl (Nat.le_of_ble_eq_true rfl) ⟨Nat.le_of_ble_eq_true rfl, Nat.le_of_ble_eq_true rfl⟩ rfl rfl ⟨Nat.le_of_ble_eq_true rfl, Nat.le_of_ble_eq_true rfl⟩ dX11_rarest_21 (fun r8 M9 h => ?_)
    refine x_if_eq (tgt := 29) C dX11_rarest_24 (by decide) (fun c10 => ?_) (fun c10 => ?_)
    · replace h := h.1 c10
      refine x_iconst (v := (-1)) C dX11_rarest_29 rfl ?_
      refine x_istore_n (lv' := [(2, .int (-1)), (0, .ref (ga G 11 0)), (1, .int x1)]) C dX11_rarest_30 rfl (Nat.le_of_ble_eq_true rfl) rfl ?_
      refine x_iconst (v := 0) C dX11_rarest_31 rfl ?_
      refine x_istore_n (lv' := [(3, .int 0), (2, .int (-1)), (0, .ref (ga G 11 0)), (1, .int x1)]) C dX11_rarest_32 rfl (Nat.le_of_ble_eq_true rfl) rfl ?_
      refine x_iconst (v := 0) C dX11_rarest_33 rfl ?_
      refine x_istore (lv' := [(4, .int 0), (3, .int 0), (2, .int (-1)), (0, .ref (ga G 11 0)), (1, .int x1)]) C dX11_rarest_34 (Nat.le_of_ble_eq_true rfl) rfl ?_
      obtain ⟨n9, h⟩ := h
      refine X_sub (lv' := [(0, .ref (ga G 11 0)), (1, .int x1), (2, .int (-1)), (3, .int 0), (4, .int 0)]) [3, 4, 2, 1, 0] rfl ?_
      have hb : ∀ (L : Mem × Int32 × Int32 × Int32 → Prop) (s : Mem × Int32 × Int32 × Int32), (∀ t, L t → X Γ G Qf 6 0 0 36 [(0, .ref (ga G 11 0)), (1, .int x1), (2, .int t.2.1), (3, .int t.2.2.1), (4, .int t.2.2.2)] [] t.1) → bX11_rarest_36 x1 Q L s.1 s.2.1 s.2.2.1 s.2.2.2 → X Γ G Qf 6 0 0 36 [(0, .ref (ga G 11 0)), (1, .int x1), (2, .int s.2.1), (3, .int s.2.2.1), (4, .int s.2.2.2)] [] s.1 := fun L s hL h => wX11_rarest_36 hG C E hL s.1 s.2.1 s.2.2.1 s.2.2.2 h
      have w9 := lp_walk (P := fun s : Mem × Int32 × Int32 × Int32 => X Γ G Qf 6 0 0 36 [(0, .ref (ga G 11 0)), (1, .int x1), (2, .int s.2.1), (3, .int s.2.2.1), (4, .int s.2.2.2)] [] s.1) h hb
      dsimp only at w9
      exact w9
    · replace h := h.2 c10
      refine x_iconst (v := 0) C dX11_rarest_27 rfl ?_
      exact x_iret C E h (Nat.le_of_ble_eq_true rfl) (Nat.le_of_ble_eq_true rfl) dX11_rarest_28
def rmX11_points : Room := { frames := 4, cells := 0, slots := 0, locals := 88 }
def pX11_points (M : Mem) (x1 : Int32) (x2 : Int32) (Q : Int32 → Mem → Prop) : Prop :=
  ∀ M1 : Mem, M1 = up1 M 1200 0 0 0 → pX11_isDocument M1 x1 (fun r2 M3 => ((¬ r2 = 0 → pX11_bad M3 0 1 0 (fun r5 M6 => ((r5 = 0 → pX11_in M6 x2 0 ((M6.1 1218 0 0) - 1) (fun r8 M9 => ((r8 = 0 → Q (-1) M9) ∧ (¬ r8 = 0 → pX11_pointsOf M9 x2 x1 (fun r11 M12 => Q r11 M12))))) ∧ (¬ r5 = 0 → Q 0 M6)))) ∧ (r2 = 0 → pX11_bad M3 1 1 0 (fun r13 M14 => ((r13 = 0 → pX11_in M14 x2 0 ((M14.1 1218 0 0) - 1) (fun r16 M17 => ((r16 = 0 → Q (-1) M17) ∧ (¬ r16 = 0 → pX11_pointsOf M17 x2 x1 (fun r19 M20 => Q r19 M20))))) ∧ (¬ r13 = 0 → Q 0 M14))))))
set_option maxRecDepth 100000 in
set_option maxHeartbeats 400000 in
theorem kX11_points {l : Launch} {G : Gm} (hG : Gd G) (M : Mem) (x1 : Int32) (x2 : Int32) {Q : Int32 → Mem → Prop} (h : pX11_points M x1 x2 Q) : Cti l G yX11_points cX11_points 3 .int rmX11_points [.ref (ga G 11 0), .int x1, .int x2] M Q := by
  refine cti_of (own := RX11) (by decide +kernel) rfl (Nat.le_of_ble_eq_true rfl) hG (fun Γ Qf hl C E => ?_)
  subst hl
  show X Γ G Qf 3 0 0 0 [(0, .ref (ga G 11 0)), (1, .int x1), (2, .int x2)] [] M
  unfold pX11_points at h
  refine x_aload_n C dX11_points_0 0 rfl ?_
  refine x_iconst (v := 0) C dX11_points_1 rfl ?_
  refine pf_11_0 C q143 z11 dX11_points_2 ?_
  refine X_nameM (fun M1 eM1 => ?_)
  replace h := h M1 eM1
  refine x_aload_n C dX11_points_5 0 rfl ?_
  refine x_aload_n C dX11_points_6 0 rfl ?_
  refine x_iload_n C dX11_points_7 1 rfl ?_
  refine x_calli (rest := [.ref (ga G 11 0)]) C sv_X11_402 ob11 z11 (kX11_isDocument hG _ _ h) rfl rfl (Nat.le_of_ble_eq_true rfl) ⟨Nat.le_of_ble_eq_true rfl, Nat.le_of_ble_eq_true rfl⟩ rfl rfl ⟨Nat.le_of_ble_eq_true rfl, Nat.le_of_ble_eq_true rfl⟩ dX11_points_8 (fun r2 M3 h => ?_)
  refine x_if_ne (tgt := 18) C dX11_points_11 (by decide) (fun c4 => ?_) (fun c4 => ?_)
  · replace h := h.1 c4
    refine x_iconst (v := 0) C dX11_points_18 rfl ?_
    refine x_iconst (v := 1) C dX11_points_19 rfl ?_
    refine x_iconst (v := 0) C dX11_points_20 rfl ?_
    refine x_calli (rest := []) C sv_X11_179 ob11 z11 (kX11_bad hG _ _ _ _ h) rfl rfl (Nat.le_of_ble_eq_true rfl) ⟨Nat.le_of_ble_eq_true rfl, Nat.le_of_ble_eq_true rfl⟩ rfl rfl ⟨Nat.le_of_ble_eq_true rfl, Nat.le_of_ble_eq_true rfl⟩ dX11_points_21 (fun r5 M6 h => ?_)
    refine x_if_eq (tgt := 29) C dX11_points_24 (by decide) (fun c7 => ?_) (fun c7 => ?_)
    · replace h := h.1 c7
      refine x_iload_n C dX11_points_29 2 rfl ?_
      refine x_iconst (v := 0) C dX11_points_30 rfl ?_
      refine x_aload_n C dX11_points_31 0 rfl ?_
      refine gf_11_18 C q168 z11 dX11_points_32 ?_
      refine x_iconst (v := 1) C dX11_points_35 rfl ?_
      refine x_isub C dX11_points_36 ?_
      refine x_scalli (rest := []) C ss_X11_172 (kX11_in hG _ _ _ _ h) rfl rfl (Nat.le_of_ble_eq_true rfl) ⟨Nat.le_of_ble_eq_true rfl, Nat.le_of_ble_eq_true rfl⟩ rfl rfl ⟨Nat.le_of_ble_eq_true rfl, Nat.le_of_ble_eq_true rfl⟩ dX11_points_37 (fun r8 M9 h => ?_)
      refine x_if_eq (tgt := 52) C dX11_points_40 (by decide) (fun c10 => ?_) (fun c10 => ?_)
      · replace h := h.1 c10
        refine x_iconst (v := (-1)) C dX11_points_52 rfl ?_
        exact x_iret C E h (Nat.le_of_ble_eq_true rfl) (Nat.le_of_ble_eq_true rfl) dX11_points_53
      · replace h := h.2 c10
        refine x_aload_n C dX11_points_43 0 rfl ?_
        refine x_iload_n C dX11_points_44 2 rfl ?_
        refine x_iload_n C dX11_points_45 1 rfl ?_
        refine x_calli (rest := []) C sv_X11_296 ob11 z11 (kX11_pointsOf hG _ _ _ h) rfl rfl (Nat.le_of_ble_eq_true rfl) ⟨Nat.le_of_ble_eq_true rfl, Nat.le_of_ble_eq_true rfl⟩ rfl rfl ⟨Nat.le_of_ble_eq_true rfl, Nat.le_of_ble_eq_true rfl⟩ dX11_points_46 (fun r11 M12 h => ?_)
        refine x_goto (tgt := 53) C dX11_points_49 (by decide) ?_
        exact x_iret C E h (Nat.le_of_ble_eq_true rfl) (Nat.le_of_ble_eq_true rfl) dX11_points_53
    · replace h := h.2 c7
      refine x_iconst (v := 0) C dX11_points_27 rfl ?_
      exact x_iret C E h (Nat.le_of_ble_eq_true rfl) (Nat.le_of_ble_eq_true rfl) dX11_points_28
  · replace h := h.2 c4
    refine x_iconst (v := 1) C dX11_points_14 rfl ?_
    refine x_goto (tgt := 19) C dX11_points_15 (by decide) ?_
    refine x_iconst (v := 1) C dX11_points_19 rfl ?_
    refine x_iconst (v := 0) C dX11_points_20 rfl ?_
    refine x_calli (rest := []) C sv_X11_179 ob11 z11 (kX11_bad hG _ _ _ _ h) rfl rfl (Nat.le_of_ble_eq_true rfl) ⟨Nat.le_of_ble_eq_true rfl, Nat.le_of_ble_eq_true rfl⟩ rfl rfl ⟨Nat.le_of_ble_eq_true rfl, Nat.le_of_ble_eq_true rfl⟩ dX11_points_21 (fun r13 M14 h => ?_)
    refine x_if_eq (tgt := 29) C dX11_points_24 (by decide) (fun c15 => ?_) (fun c15 => ?_)
    · replace h := h.1 c15
      refine x_iload_n C dX11_points_29 2 rfl ?_
      refine x_iconst (v := 0) C dX11_points_30 rfl ?_
      refine x_aload_n C dX11_points_31 0 rfl ?_
      refine gf_11_18 C q168 z11 dX11_points_32 ?_
      refine x_iconst (v := 1) C dX11_points_35 rfl ?_
      refine x_isub C dX11_points_36 ?_
      refine x_scalli (rest := []) C ss_X11_172 (kX11_in hG _ _ _ _ h) rfl rfl (Nat.le_of_ble_eq_true rfl) ⟨Nat.le_of_ble_eq_true rfl, Nat.le_of_ble_eq_true rfl⟩ rfl rfl ⟨Nat.le_of_ble_eq_true rfl, Nat.le_of_ble_eq_true rfl⟩ dX11_points_37 (fun r16 M17 h => ?_)
      refine x_if_eq (tgt := 52) C dX11_points_40 (by decide) (fun c18 => ?_) (fun c18 => ?_)
      · replace h := h.1 c18
        refine x_iconst (v := (-1)) C dX11_points_52 rfl ?_
        exact x_iret C E h (Nat.le_of_ble_eq_true rfl) (Nat.le_of_ble_eq_true rfl) dX11_points_53
      · replace h := h.2 c18
        refine x_aload_n C dX11_points_43 0 rfl ?_
        refine x_iload_n C dX11_points_44 2 rfl ?_
        refine x_iload_n C dX11_points_45 1 rfl ?_
        refine x_calli (rest := []) C sv_X11_296 ob11 z11 (kX11_pointsOf hG _ _ _ h) rfl rfl (Nat.le_of_ble_eq_true rfl) ⟨Nat.le_of_ble_eq_true rfl, Nat.le_of_ble_eq_true rfl⟩ rfl rfl ⟨Nat.le_of_ble_eq_true rfl, Nat.le_of_ble_eq_true rfl⟩ dX11_points_46 (fun r19 M20 h => ?_)
        refine x_goto (tgt := 53) C dX11_points_49 (by decide) ?_
        exact x_iret C E h (Nat.le_of_ble_eq_true rfl) (Nat.le_of_ble_eq_true rfl) dX11_points_53
    · replace h := h.2 c15
      refine x_iconst (v := 0) C dX11_points_27 rfl ?_
      exact x_iret C E h (Nat.le_of_ble_eq_true rfl) (Nat.le_of_ble_eq_true rfl) dX11_points_28
def rmX11_phrase : Room := { frames := 2, cells := 0, slots := 0, locals := 43 }
def pX11_phrase (M : Mem) (x1 : Int32) (x2 : Int32) (Q : Int32 → Mem → Prop) : Prop :=
  ∀ M1 : Mem, M1 = up1 M 1200 0 0 0 → pX11_isDocument M1 x1 (fun r2 M3 => ((¬ r2 = 0 → pX11_bad M3 0 1 0 (fun r5 M6 => ((r5 = 0 → pX11_in M6 x2 0 ((M6.1 1221 0 0) - 1) (fun r8 M9 => ((r8 = 0 → Q (-1) M9) ∧ (¬ r8 = 0 → pX11_phrasesIn M9 x2 x1 (fun r11 M12 => Q r11 M12))))) ∧ (¬ r5 = 0 → Q 0 M6)))) ∧ (r2 = 0 → pX11_bad M3 1 1 0 (fun r13 M14 => ((r13 = 0 → pX11_in M14 x2 0 ((M14.1 1221 0 0) - 1) (fun r16 M17 => ((r16 = 0 → Q (-1) M17) ∧ (¬ r16 = 0 → pX11_phrasesIn M17 x2 x1 (fun r19 M20 => Q r19 M20))))) ∧ (¬ r13 = 0 → Q 0 M14))))))
set_option maxRecDepth 100000 in
set_option maxHeartbeats 400000 in
theorem kX11_phrase {l : Launch} {G : Gm} (hG : Gd G) (M : Mem) (x1 : Int32) (x2 : Int32) {Q : Int32 → Mem → Prop} (h : pX11_phrase M x1 x2 Q) : Cti l G yX11_phrase cX11_phrase 3 .int rmX11_phrase [.ref (ga G 11 0), .int x1, .int x2] M Q := by
  refine cti_of (own := RX11) (by decide +kernel) rfl (Nat.le_of_ble_eq_true rfl) hG (fun Γ Qf hl C E => ?_)
  subst hl
  show X Γ G Qf 3 0 0 0 [(0, .ref (ga G 11 0)), (1, .int x1), (2, .int x2)] [] M
  unfold pX11_phrase at h
  refine x_aload_n C dX11_phrase_0 0 rfl ?_
  refine x_iconst (v := 0) C dX11_phrase_1 rfl ?_
  refine pf_11_0 C q143 z11 dX11_phrase_2 ?_
  refine X_nameM (fun M1 eM1 => ?_)
  replace h := h M1 eM1
  refine x_aload_n C dX11_phrase_5 0 rfl ?_
  refine x_aload_n C dX11_phrase_6 0 rfl ?_
  refine x_iload_n C dX11_phrase_7 1 rfl ?_
  refine x_calli (rest := [.ref (ga G 11 0)]) C sv_X11_402 ob11 z11 (kX11_isDocument hG _ _ h) rfl rfl (Nat.le_of_ble_eq_true rfl) ⟨Nat.le_of_ble_eq_true rfl, Nat.le_of_ble_eq_true rfl⟩ rfl rfl ⟨Nat.le_of_ble_eq_true rfl, Nat.le_of_ble_eq_true rfl⟩ dX11_phrase_8 (fun r2 M3 h => ?_)
  refine x_if_ne (tgt := 18) C dX11_phrase_11 (by decide) (fun c4 => ?_) (fun c4 => ?_)
  · replace h := h.1 c4
    refine x_iconst (v := 0) C dX11_phrase_18 rfl ?_
    refine x_iconst (v := 1) C dX11_phrase_19 rfl ?_
    refine x_iconst (v := 0) C dX11_phrase_20 rfl ?_
    refine x_calli (rest := []) C sv_X11_179 ob11 z11 (kX11_bad hG _ _ _ _ h) rfl rfl (Nat.le_of_ble_eq_true rfl) ⟨Nat.le_of_ble_eq_true rfl, Nat.le_of_ble_eq_true rfl⟩ rfl rfl ⟨Nat.le_of_ble_eq_true rfl, Nat.le_of_ble_eq_true rfl⟩ dX11_phrase_21 (fun r5 M6 h => ?_)
    refine x_if_eq (tgt := 29) C dX11_phrase_24 (by decide) (fun c7 => ?_) (fun c7 => ?_)
    · replace h := h.1 c7
      refine x_iload_n C dX11_phrase_29 2 rfl ?_
      refine x_iconst (v := 0) C dX11_phrase_30 rfl ?_
      refine x_aload_n C dX11_phrase_31 0 rfl ?_
      refine gf_11_21 C q173 z11 dX11_phrase_32 ?_
      refine x_iconst (v := 1) C dX11_phrase_35 rfl ?_
      refine x_isub C dX11_phrase_36 ?_
      refine x_scalli (rest := []) C ss_X11_172 (kX11_in hG _ _ _ _ h) rfl rfl (Nat.le_of_ble_eq_true rfl) ⟨Nat.le_of_ble_eq_true rfl, Nat.le_of_ble_eq_true rfl⟩ rfl rfl ⟨Nat.le_of_ble_eq_true rfl, Nat.le_of_ble_eq_true rfl⟩ dX11_phrase_37 (fun r8 M9 h => ?_)
      refine x_if_eq (tgt := 52) C dX11_phrase_40 (by decide) (fun c10 => ?_) (fun c10 => ?_)
      · replace h := h.1 c10
        refine x_iconst (v := (-1)) C dX11_phrase_52 rfl ?_
        exact x_iret C E h (Nat.le_of_ble_eq_true rfl) (Nat.le_of_ble_eq_true rfl) dX11_phrase_53
      · replace h := h.2 c10
        refine x_aload_n C dX11_phrase_43 0 rfl ?_
        refine x_iload_n C dX11_phrase_44 2 rfl ?_
        refine x_iload_n C dX11_phrase_45 1 rfl ?_
        refine x_calli (rest := []) C sv_X11_281 ob11 z11 (kX11_phrasesIn hG _ _ _ h) rfl rfl (Nat.le_of_ble_eq_true rfl) ⟨Nat.le_of_ble_eq_true rfl, Nat.le_of_ble_eq_true rfl⟩ rfl rfl ⟨Nat.le_of_ble_eq_true rfl, Nat.le_of_ble_eq_true rfl⟩ dX11_phrase_46 (fun r11 M12 h => ?_)
        refine x_goto (tgt := 53) C dX11_phrase_49 (by decide) ?_
        exact x_iret C E h (Nat.le_of_ble_eq_true rfl) (Nat.le_of_ble_eq_true rfl) dX11_phrase_53
    · replace h := h.2 c7
      refine x_iconst (v := 0) C dX11_phrase_27 rfl ?_
      exact x_iret C E h (Nat.le_of_ble_eq_true rfl) (Nat.le_of_ble_eq_true rfl) dX11_phrase_28
  · replace h := h.2 c4
    refine x_iconst (v := 1) C dX11_phrase_14 rfl ?_
    refine x_goto (tgt := 19) C dX11_phrase_15 (by decide) ?_
    refine x_iconst (v := 1) C dX11_phrase_19 rfl ?_
    refine x_iconst (v := 0) C dX11_phrase_20 rfl ?_
    refine x_calli (rest := []) C sv_X11_179 ob11 z11 (kX11_bad hG _ _ _ _ h) rfl rfl (Nat.le_of_ble_eq_true rfl) ⟨Nat.le_of_ble_eq_true rfl, Nat.le_of_ble_eq_true rfl⟩ rfl rfl ⟨Nat.le_of_ble_eq_true rfl, Nat.le_of_ble_eq_true rfl⟩ dX11_phrase_21 (fun r13 M14 h => ?_)
    refine x_if_eq (tgt := 29) C dX11_phrase_24 (by decide) (fun c15 => ?_) (fun c15 => ?_)
    · replace h := h.1 c15
      refine x_iload_n C dX11_phrase_29 2 rfl ?_
      refine x_iconst (v := 0) C dX11_phrase_30 rfl ?_
      refine x_aload_n C dX11_phrase_31 0 rfl ?_
      refine gf_11_21 C q173 z11 dX11_phrase_32 ?_
      refine x_iconst (v := 1) C dX11_phrase_35 rfl ?_
      refine x_isub C dX11_phrase_36 ?_
      refine x_scalli (rest := []) C ss_X11_172 (kX11_in hG _ _ _ _ h) rfl rfl (Nat.le_of_ble_eq_true rfl) ⟨Nat.le_of_ble_eq_true rfl, Nat.le_of_ble_eq_true rfl⟩ rfl rfl ⟨Nat.le_of_ble_eq_true rfl, Nat.le_of_ble_eq_true rfl⟩ dX11_phrase_37 (fun r16 M17 h => ?_)
      refine x_if_eq (tgt := 52) C dX11_phrase_40 (by decide) (fun c18 => ?_) (fun c18 => ?_)
      · replace h := h.1 c18
        refine x_iconst (v := (-1)) C dX11_phrase_52 rfl ?_
        exact x_iret C E h (Nat.le_of_ble_eq_true rfl) (Nat.le_of_ble_eq_true rfl) dX11_phrase_53
      · replace h := h.2 c18
        refine x_aload_n C dX11_phrase_43 0 rfl ?_
        refine x_iload_n C dX11_phrase_44 2 rfl ?_
        refine x_iload_n C dX11_phrase_45 1 rfl ?_
        refine x_calli (rest := []) C sv_X11_281 ob11 z11 (kX11_phrasesIn hG _ _ _ h) rfl rfl (Nat.le_of_ble_eq_true rfl) ⟨Nat.le_of_ble_eq_true rfl, Nat.le_of_ble_eq_true rfl⟩ rfl rfl ⟨Nat.le_of_ble_eq_true rfl, Nat.le_of_ble_eq_true rfl⟩ dX11_phrase_46 (fun r19 M20 h => ?_)
        refine x_goto (tgt := 53) C dX11_phrase_49 (by decide) ?_
        exact x_iret C E h (Nat.le_of_ble_eq_true rfl) (Nat.le_of_ble_eq_true rfl) dX11_phrase_53
    · replace h := h.2 c15
      refine x_iconst (v := 0) C dX11_phrase_27 rfl ?_
      exact x_iret C E h (Nat.le_of_ble_eq_true rfl) (Nat.le_of_ble_eq_true rfl) dX11_phrase_28
