def rmX11_gone : Room := { frames := 0, cells := 0, slots := 0, locals := 0 }
def bX11_gone_30 (Q : Int32 → Mem → Prop) (L4 : Mem × Int32 × Int32 → Prop) (M : Mem) (y1 : Int32) (y2 : Int32) : Prop :=
  ∀ v6 : Int32, v6 = y2 + 1 → L4 (M, y1, v6)
def bX11_gone_4 (Q : Int32 → Mem → Prop) (L4 : Mem × Int32 × Int32 → Prop) (M : Mem) (y1 : Int32) (y2 : Int32) : Prop :=
  (((M.1 1209 0 0) ≤ y2 → Q y1 M) ∧ (¬ (M.1 1209 0 0) ≤ y2 → vp_in y2 64 ∧ ((¬ (M.1 1214 0 (tn y2)) = 2 → ∀ v4 : Int32, v4 = (y1 + 0) → bX11_gone_30 Q L4 M v4 y2) ∧ ((M.1 1214 0 (tn y2)) = 2 → ∀ v5 : Int32, v5 = (y1 + 1) → bX11_gone_30 Q L4 M v5 y2))))
def pX11_gone (M : Mem) (Q : Int32 → Mem → Prop) : Prop :=
  ∃ n : Nat, lp (fun L s => bX11_gone_4 Q L s.1 s.2.1 s.2.2) n (M, 0, 0)
set_option maxRecDepth 100000 in
set_option maxHeartbeats 400000 in
theorem wX11_gone_30 {Γ : Gam} {G : Gm} {Qf : State → Prop} (hG : Gd G) (C : Cx Γ G cX11_gone 3 RX11 (some .int) rmX11_gone)  {Q : Int32 → Mem → Prop} (E : EndI Γ G Qf rmX11_gone Q) {L4 : Mem × Int32 × Int32 → Prop} (hL4 : ∀ s, L4 s → X Γ G Qf 3 0 0 4 [(0, .ref (ga G 11 0)), (1, .int s.2.1), (2, .int s.2.2)] [] s.1) (M : Mem) (y1 : Int32) (y2 : Int32) (h : bX11_gone_30 Q L4 M y1 y2) : X Γ G Qf 3 0 0 30 [(0, .ref (ga G 11 0)), (1, .int y1), (2, .int y2)] [] M := by
  unfold bX11_gone_30 at h
  obtain ⟨v6, ev6⟩ : ∃ z : Int32, z = y2 + 1 := ⟨_, rfl⟩
  replace h := h v6 ev6
  refine x_iinc (v := v6) (lv' := [(2, .int v6), (0, .ref (ga G 11 0)), (1, .int y1)]) (j := 2) C dX11_gone_30 rfl (by rw [ev6]; rfl) (Nat.le_of_ble_eq_true rfl) rfl ?_
  refine x_goto (tgt := 4) C dX11_gone_33 (by decide) ?_
  refine X_sub (lv' := [(0, .ref (ga G 11 0)), (1, .int y1), (2, .int v6)]) [1, 2, 0] rfl ?_
  have w9 := hL4 (M, y1, v6) h
  dsimp only at w9
  exact w9
set_option maxRecDepth 100000 in
set_option maxHeartbeats 400000 in
theorem wX11_gone_4 {Γ : Gam} {G : Gm} {Qf : State → Prop} (hG : Gd G) (C : Cx Γ G cX11_gone 3 RX11 (some .int) rmX11_gone)  {Q : Int32 → Mem → Prop} (E : EndI Γ G Qf rmX11_gone Q) {L4 : Mem × Int32 × Int32 → Prop} (hL4 : ∀ s, L4 s → X Γ G Qf 3 0 0 4 [(0, .ref (ga G 11 0)), (1, .int s.2.1), (2, .int s.2.2)] [] s.1) (M : Mem) (y1 : Int32) (y2 : Int32) (h : bX11_gone_4 Q L4 M y1 y2) : X Γ G Qf 3 0 0 4 [(0, .ref (ga G 11 0)), (1, .int y1), (2, .int y2)] [] M := by
  unfold bX11_gone_4 at h
  refine x_iload_n C dX11_gone_4 2 rfl ?_
  refine x_aload_n C dX11_gone_5 0 rfl ?_
  refine gf_11_9 C q159 z11 dX11_gone_6 ?_
  refine x_icmp_ge (tgt := 36) C dX11_gone_9 (by decide) (fun c1 => ?_) (fun c1 => ?_)
  · replace h := h.1 c1
    refine x_iload_n C dX11_gone_36 1 rfl ?_
    exact x_iret C E h (Nat.le_of_ble_eq_true rfl) (Nat.le_of_ble_eq_true rfl) dX11_gone_37
  · replace h := h.2 c1
    refine x_iload_n C dX11_gone_12 1 rfl ?_
    refine x_aload_n C dX11_gone_13 0 rfl ?_
    refine gf_11_14 C q162 z11 dX11_gone_14 ?_
    refine x_iload_n C dX11_gone_17 2 rfl ?_
    obtain ⟨f2, h⟩ := h
    refine al_1214 C z1214 f2 dX11_gone_18 ?_
    refine x_iconst (v := 2) C dX11_gone_19 rfl ?_
    refine x_icmp_ne (tgt := 27) C dX11_gone_20 (by decide) (fun c3 => ?_) (fun c3 => ?_)
    · replace h := h.1 c3
      refine x_iconst (v := 0) C dX11_gone_27 rfl ?_
      refine x_iadd C dX11_gone_28 ?_
      refine X_name (fun v4 ev4 => ?_)
      replace h := h v4 ev4
      refine x_istore_n (lv' := [(1, .int v4), (0, .ref (ga G 11 0)), (2, .int y2)]) C dX11_gone_29 rfl (Nat.le_of_ble_eq_true rfl) rfl ?_
      refine X_sub (lv' := [(0, .ref (ga G 11 0)), (1, .int v4), (2, .int y2)]) [1, 0, 2] rfl ?_
      exact wX11_gone_30 hG C E hL4 M v4 y2 h
    · replace h := h.2 c3
      refine x_iconst (v := 1) C dX11_gone_23 rfl ?_
      refine x_goto (tgt := 28) C dX11_gone_24 (by decide) ?_
      refine x_iadd C dX11_gone_28 ?_
      refine X_name (fun v5 ev5 => ?_)
      replace h := h v5 ev5
      refine x_istore_n (lv' := [(1, .int v5), (0, .ref (ga G 11 0)), (2, .int y2)]) C dX11_gone_29 rfl (Nat.le_of_ble_eq_true rfl) rfl ?_
      refine X_sub (lv' := [(0, .ref (ga G 11 0)), (1, .int v5), (2, .int y2)]) [1, 0, 2] rfl ?_
      exact wX11_gone_30 hG C E hL4 M v5 y2 h
set_option maxRecDepth 100000 in
set_option maxHeartbeats 400000 in
theorem kX11_gone {l : Launch} {G : Gm} (hG : Gd G) (M : Mem)  {Q : Int32 → Mem → Prop} (h : pX11_gone M Q) : Cti l G yX11_gone cX11_gone 3 .int rmX11_gone [.ref (ga G 11 0)] M Q := by
  refine cti_of (own := RX11) (by decide +kernel) rfl (Nat.le_of_ble_eq_true rfl) hG (fun Γ Qf hl C E => ?_)
  subst hl
  show X Γ G Qf 3 0 0 0 [(0, .ref (ga G 11 0))] [] M
  unfold pX11_gone at h
  refine x_iconst (v := 0) C dX11_gone_0 rfl ?_
  refine x_istore_n (lv' := [(1, .int 0), (0, .ref (ga G 11 0))]) C dX11_gone_1 rfl (Nat.le_of_ble_eq_true rfl) rfl ?_
  refine x_iconst (v := 0) C dX11_gone_2 rfl ?_
  refine x_istore_n (lv' := [(2, .int 0), (1, .int 0), (0, .ref (ga G 11 0))]) C dX11_gone_3 rfl (Nat.le_of_ble_eq_true rfl) rfl ?_
  obtain ⟨n9, h⟩ := h
  refine X_sub (lv' := [(0, .ref (ga G 11 0)), (1, .int 0), (2, .int 0)]) [2, 1, 0] rfl ?_
  have hb : ∀ (L : Mem × Int32 × Int32 → Prop) (s : Mem × Int32 × Int32), (∀ t, L t → X Γ G Qf 3 0 0 4 [(0, .ref (ga G 11 0)), (1, .int t.2.1), (2, .int t.2.2)] [] t.1) → bX11_gone_4 Q L s.1 s.2.1 s.2.2 → X Γ G Qf 3 0 0 4 [(0, .ref (ga G 11 0)), (1, .int s.2.1), (2, .int s.2.2)] [] s.1 := fun L s hL h => wX11_gone_4 hG C E hL s.1 s.2.1 s.2.2 h
  have w9 := lp_walk (P := fun s : Mem × Int32 × Int32 => X Γ G Qf 3 0 0 4 [(0, .ref (ga G 11 0)), (1, .int s.2.1), (2, .int s.2.2)] [] s.1) h hb
  dsimp only at w9
  exact w9
def rmX11_remove : Room := { frames := 1, cells := 0, slots := 0, locals := 23 }
def pX11_remove (M : Mem) (x1 : Int32) (Q : Int32 → Mem → Prop) : Prop :=
  ∀ M1 : Mem, M1 = up1 M 1200 0 0 0 → pX11_in M1 x1 0 ((M1.1 1209 0 0) - 1) (fun r2 M3 => ((r2 = 0 → pX11_bad M3 1 1 0 (fun r5 M6 => ((r5 = 0 → vp_in x1 64 ∧ ∀ M9 : Mem, M9 = up1 M6 1214 0 (tn x1) 2 → pX11_gone M9 (fun r10 M11 => Q r10 M11)) ∧ (¬ r5 = 0 → Q 0 M6)))) ∧ (¬ r2 = 0 → vp_in x1 64 ∧ (((M3.1 1214 0 (tn x1)) = 1 → pX11_bad M3 0 1 0 (fun r14 M15 => ((r14 = 0 → ∀ M17 : Mem, M17 = up1 M15 1214 0 (tn x1) 2 → pX11_gone M17 (fun r18 M19 => Q r18 M19)) ∧ (¬ r14 = 0 → Q 0 M15)))) ∧ (¬ (M3.1 1214 0 (tn x1)) = 1 → pX11_bad M3 1 1 0 (fun r20 M21 => ((r20 = 0 → ∀ M23 : Mem, M23 = up1 M21 1214 0 (tn x1) 2 → pX11_gone M23 (fun r24 M25 => Q r24 M25)) ∧ (¬ r20 = 0 → Q 0 M21))))))))
set_option maxRecDepth 100000 in
set_option maxHeartbeats 400000 in
theorem kX11_remove {l : Launch} {G : Gm} (hG : Gd G) (M : Mem) (x1 : Int32) {Q : Int32 → Mem → Prop} (h : pX11_remove M x1 Q) : Cti l G yX11_remove cX11_remove 2 .int rmX11_remove [.ref (ga G 11 0), .int x1] M Q := by
  refine cti_of (own := RX11) (by decide +kernel) rfl (Nat.le_of_ble_eq_true rfl) hG (fun Γ Qf hl C E => ?_)
  subst hl
  show X Γ G Qf 2 0 0 0 [(0, .ref (ga G 11 0)), (1, .int x1)] [] M
  unfold pX11_remove at h
  refine x_aload_n C dX11_remove_0 0 rfl ?_
  refine x_iconst (v := 0) C dX11_remove_1 rfl ?_
  refine pf_11_0 C q143 z11 dX11_remove_2 ?_
  refine X_nameM (fun M1 eM1 => ?_)
  replace h := h M1 eM1
  refine x_aload_n C dX11_remove_5 0 rfl ?_
  refine x_iload_n C dX11_remove_6 1 rfl ?_
  refine x_iconst (v := 0) C dX11_remove_7 rfl ?_
  refine x_aload_n C dX11_remove_8 0 rfl ?_
  refine gf_11_9 C q159 z11 dX11_remove_9 ?_
  refine x_iconst (v := 1) C dX11_remove_12 rfl ?_
  refine x_isub C dX11_remove_13 ?_
  refine x_scalli (rest := [.ref (ga G 11 0)]) C ss_X11_172 (kX11_in hG _ _ _ _ h) rfl rfl (Nat.le_of_ble_eq_true rfl) ⟨Nat.le_of_ble_eq_true rfl, Nat.le_of_ble_eq_true rfl⟩ rfl rfl ⟨Nat.le_of_ble_eq_true rfl, Nat.le_of_ble_eq_true rfl⟩ dX11_remove_14 (fun r2 M3 h => ?_)
  refine x_if_eq (tgt := 30) C dX11_remove_17 (by decide) (fun c4 => ?_) (fun c4 => ?_)
  · replace h := h.1 c4
    refine x_iconst (v := 1) C dX11_remove_30 rfl ?_
    refine x_goto (tgt := 35) C dX11_remove_31 (by decide) ?_
    refine x_iconst (v := 1) C dX11_remove_35 rfl ?_
    refine x_iconst (v := 0) C dX11_remove_36 rfl ?_
    refine x_calli (rest := []) C sv_X11_179 ob11 z11 (kX11_bad hG _ _ _ _ h) rfl rfl (Nat.le_of_ble_eq_true rfl) ⟨Nat.le_of_ble_eq_true rfl, Nat.le_of_ble_eq_true rfl⟩ rfl rfl ⟨Nat.le_of_ble_eq_true rfl, Nat.le_of_ble_eq_true rfl⟩ dX11_remove_37 (fun r5 M6 h => ?_)
    refine x_if_eq (tgt := 45) C dX11_remove_40 (by decide) (fun c7 => ?_) (fun c7 => ?_)
    · replace h := h.1 c7
      refine x_aload_n C dX11_remove_45 0 rfl ?_
      refine gf_11_14 C q162 z11 dX11_remove_46 ?_
      refine x_iload_n C dX11_remove_49 1 rfl ?_
      refine x_iconst (v := 2) C dX11_remove_50 rfl ?_
      obtain ⟨f8, h⟩ := h
      refine as_1214 C z1214 f8 dX11_remove_51 ?_
      refine X_nameM (fun M9 eM9 => ?_)
      replace h := h M9 eM9
      refine x_aload_n C dX11_remove_52 0 rfl ?_
      refine x_calli (rest := []) C sv_X11_390 ob11 z11 (kX11_gone hG _ h) rfl rfl (Nat.le_of_ble_eq_true rfl) ⟨Nat.le_of_ble_eq_true rfl, Nat.le_of_ble_eq_true rfl⟩ rfl rfl ⟨Nat.le_of_ble_eq_true rfl, Nat.le_of_ble_eq_true rfl⟩ dX11_remove_53 (fun r10 M11 h => ?_)
      exact x_iret C E h (Nat.le_of_ble_eq_true rfl) (Nat.le_of_ble_eq_true rfl) dX11_remove_56
    · replace h := h.2 c7
      refine x_iconst (v := 0) C dX11_remove_43 rfl ?_
      exact x_iret C E h (Nat.le_of_ble_eq_true rfl) (Nat.le_of_ble_eq_true rfl) dX11_remove_44
  · replace h := h.2 c4
    refine x_aload_n C dX11_remove_20 0 rfl ?_
    refine gf_11_14 C q162 z11 dX11_remove_21 ?_
    refine x_iload_n C dX11_remove_24 1 rfl ?_
    obtain ⟨f12, h⟩ := h
    refine al_1214 C z1214 f12 dX11_remove_25 ?_
    refine x_iconst (v := 1) C dX11_remove_26 rfl ?_
    refine x_icmp_eq (tgt := 34) C dX11_remove_27 (by decide) (fun c13 => ?_) (fun c13 => ?_)
    · replace h := h.1 c13
      refine x_iconst (v := 0) C dX11_remove_34 rfl ?_
      refine x_iconst (v := 1) C dX11_remove_35 rfl ?_
      refine x_iconst (v := 0) C dX11_remove_36 rfl ?_
      refine x_calli (rest := []) C sv_X11_179 ob11 z11 (kX11_bad hG _ _ _ _ h) rfl rfl (Nat.le_of_ble_eq_true rfl) ⟨Nat.le_of_ble_eq_true rfl, Nat.le_of_ble_eq_true rfl⟩ rfl rfl ⟨Nat.le_of_ble_eq_true rfl, Nat.le_of_ble_eq_true rfl⟩ dX11_remove_37 (fun r14 M15 h => ?_)
      refine x_if_eq (tgt := 45) C dX11_remove_40 (by decide) (fun c16 => ?_) (fun c16 => ?_)
      · replace h := h.1 c16
        refine x_aload_n C dX11_remove_45 0 rfl ?_
        refine gf_11_14 C q162 z11 dX11_remove_46 ?_
        refine x_iload_n C dX11_remove_49 1 rfl ?_
        refine x_iconst (v := 2) C dX11_remove_50 rfl ?_
        refine as_1214 C z1214 f12 dX11_remove_51 ?_
        refine X_nameM (fun M17 eM17 => ?_)
        replace h := h M17 eM17
        refine x_aload_n C dX11_remove_52 0 rfl ?_
        refine x_calli (rest := []) C sv_X11_390 ob11 z11 (kX11_gone hG _ h) rfl rfl (Nat.le_of_ble_eq_true rfl) ⟨Nat.le_of_ble_eq_true rfl, Nat.le_of_ble_eq_true rfl⟩ rfl rfl ⟨Nat.le_of_ble_eq_true rfl, Nat.le_of_ble_eq_true rfl⟩ dX11_remove_53 (fun r18 M19 h => ?_)
        exact x_iret C E h (Nat.le_of_ble_eq_true rfl) (Nat.le_of_ble_eq_true rfl) dX11_remove_56
      · replace h := h.2 c16
        refine x_iconst (v := 0) C dX11_remove_43 rfl ?_
        exact x_iret C E h (Nat.le_of_ble_eq_true rfl) (Nat.le_of_ble_eq_true rfl) dX11_remove_44
    · replace h := h.2 c13
      refine x_iconst (v := 1) C dX11_remove_30 rfl ?_
      refine x_goto (tgt := 35) C dX11_remove_31 (by decide) ?_
      refine x_iconst (v := 1) C dX11_remove_35 rfl ?_
      refine x_iconst (v := 0) C dX11_remove_36 rfl ?_
      refine x_calli (rest := []) C sv_X11_179 ob11 z11 (kX11_bad hG _ _ _ _ h) rfl rfl (Nat.le_of_ble_eq_true rfl) ⟨Nat.le_of_ble_eq_true rfl, Nat.le_of_ble_eq_true rfl⟩ rfl rfl ⟨Nat.le_of_ble_eq_true rfl, Nat.le_of_ble_eq_true rfl⟩ dX11_remove_37 (fun r20 M21 h => ?_)
      refine x_if_eq (tgt := 45) C dX11_remove_40 (by decide) (fun c22 => ?_) (fun c22 => ?_)
      · replace h := h.1 c22
        refine x_aload_n C dX11_remove_45 0 rfl ?_
        refine gf_11_14 C q162 z11 dX11_remove_46 ?_
        refine x_iload_n C dX11_remove_49 1 rfl ?_
        refine x_iconst (v := 2) C dX11_remove_50 rfl ?_
        refine as_1214 C z1214 f12 dX11_remove_51 ?_
        refine X_nameM (fun M23 eM23 => ?_)
        replace h := h M23 eM23
        refine x_aload_n C dX11_remove_52 0 rfl ?_
        refine x_calli (rest := []) C sv_X11_390 ob11 z11 (kX11_gone hG _ h) rfl rfl (Nat.le_of_ble_eq_true rfl) ⟨Nat.le_of_ble_eq_true rfl, Nat.le_of_ble_eq_true rfl⟩ rfl rfl ⟨Nat.le_of_ble_eq_true rfl, Nat.le_of_ble_eq_true rfl⟩ dX11_remove_53 (fun r24 M25 h => ?_)
        exact x_iret C E h (Nat.le_of_ble_eq_true rfl) (Nat.le_of_ble_eq_true rfl) dX11_remove_56
      · replace h := h.2 c22
        refine x_iconst (v := 0) C dX11_remove_43 rfl ?_
        exact x_iret C E h (Nat.le_of_ble_eq_true rfl) (Nat.le_of_ble_eq_true rfl) dX11_remove_44
def rmX11_repack : Room := { frames := 1, cells := 0, slots := 0, locals := 23 }
def bX11_repack_72 (x1 : Int32) (Q : Int32 → Mem → Prop) (L38 : Mem × Int32 × Int32 → Prop) (M : Mem) (y2 : Int32) (y3 : Int32) : Prop :=
  ∀ v21 : Int32, v21 = y3 + 1 → L38 (M, y2, v21)
def bX11_repack_38 (x1 : Int32) (Q : Int32 → Mem → Prop) (L38 : Mem × Int32 × Int32 → Prop) (M : Mem) (y2 : Int32) (y3 : Int32) : Prop :=
  (((M.1 1209 0 0) ≤ y3 → ∀ M16 : Mem, M16 = up1 M 1211 0 0 x1 → Q y2 M16) ∧ (¬ (M.1 1209 0 0) ≤ y3 → vp_in y3 64 ∧ ((¬ (M.1 1214 0 (tn y3)) = 2 → ∀ M19 : Mem, M19 = up1 M 1214 0 (tn y3) (M.1 1214 0 (tn y3)) → bX11_repack_72 x1 Q L38 M19 y2 y3) ∧ ((M.1 1214 0 (tn y3)) = 2 → ∀ M20 : Mem, M20 = up1 M 1214 0 (tn y3) 3 → bX11_repack_72 x1 Q L38 M20 y2 y3))))
def pX11_repack (M : Mem) (x1 : Int32) (Q : Int32 → Mem → Prop) : Prop :=
  ∀ M1 : Mem, M1 = up1 M 1200 0 0 0 → pX11_in M1 x1 2 8 (fun r2 M3 => ((¬ r2 = 0 → pX11_bad M3 0 1 1 (fun r5 M6 => ((r5 = 0 → pX11_gone M6 (fun r8 M9 => ∃ n : Nat, lp (fun L s => bX11_repack_38 x1 Q L s.1 s.2.1 s.2.2) n (M9, r8, 0))) ∧ (¬ r5 = 0 → Q 0 M6)))) ∧ (r2 = 0 → pX11_bad M3 1 1 1 (fun r10 M11 => ((r10 = 0 → pX11_gone M11 (fun r13 M14 => ∃ n : Nat, lp (fun L s => bX11_repack_38 x1 Q L s.1 s.2.1 s.2.2) n (M14, r13, 0))) ∧ (¬ r10 = 0 → Q 0 M11))))))
set_option maxRecDepth 100000 in
set_option maxHeartbeats 400000 in
theorem wX11_repack_72 {Γ : Gam} {G : Gm} {Qf : State → Prop} (hG : Gd G) (C : Cx Γ G cX11_repack 4 RX11 (some .int) rmX11_repack) {x1 : Int32} {Q : Int32 → Mem → Prop} (E : EndI Γ G Qf rmX11_repack Q) {L38 : Mem × Int32 × Int32 → Prop} (hL38 : ∀ s, L38 s → X Γ G Qf 4 0 0 38 [(0, .ref (ga G 11 0)), (1, .int x1), (2, .int s.2.1), (3, .int s.2.2)] [] s.1) (M : Mem) (y2 : Int32) (y3 : Int32) (h : bX11_repack_72 x1 Q L38 M y2 y3) : X Γ G Qf 4 0 0 72 [(0, .ref (ga G 11 0)), (1, .int x1), (2, .int y2), (3, .int y3)] [] M := by
  unfold bX11_repack_72 at h
  obtain ⟨v21, ev21⟩ : ∃ z : Int32, z = y3 + 1 := ⟨_, rfl⟩
  replace h := h v21 ev21
  refine x_iinc (v := v21) (lv' := [(3, .int v21), (0, .ref (ga G 11 0)), (1, .int x1), (2, .int y2)]) (j := 3) C dX11_repack_72 rfl (by rw [ev21]; rfl) (Nat.le_of_ble_eq_true rfl) rfl ?_
  refine x_goto (tgt := 38) C dX11_repack_75 (by decide) ?_
  refine X_sub (lv' := [(0, .ref (ga G 11 0)), (1, .int x1), (2, .int y2), (3, .int v21)]) [1, 2, 3, 0] rfl ?_
  have w9 := hL38 (M, y2, v21) h
  dsimp only at w9
  exact w9
set_option maxRecDepth 100000 in
set_option maxHeartbeats 400000 in
theorem wX11_repack_38 {Γ : Gam} {G : Gm} {Qf : State → Prop} (hG : Gd G) (C : Cx Γ G cX11_repack 4 RX11 (some .int) rmX11_repack) {x1 : Int32} {Q : Int32 → Mem → Prop} (E : EndI Γ G Qf rmX11_repack Q) {L38 : Mem × Int32 × Int32 → Prop} (hL38 : ∀ s, L38 s → X Γ G Qf 4 0 0 38 [(0, .ref (ga G 11 0)), (1, .int x1), (2, .int s.2.1), (3, .int s.2.2)] [] s.1) (M : Mem) (y2 : Int32) (y3 : Int32) (h : bX11_repack_38 x1 Q L38 M y2 y3) : X Γ G Qf 4 0 0 38 [(0, .ref (ga G 11 0)), (1, .int x1), (2, .int y2), (3, .int y3)] [] M := by
  unfold bX11_repack_38 at h
  refine x_iload_n C dX11_repack_38 3 rfl ?_
  refine x_aload_n C dX11_repack_39 0 rfl ?_
  refine gf_11_9 C q159 z11 dX11_repack_40 ?_
  refine x_icmp_ge (tgt := 78) C dX11_repack_43 (by decide) (fun c15 => ?_) (fun c15 => ?_)
  · replace h := h.1 c15
    refine x_aload_n C dX11_repack_78 0 rfl ?_
    refine x_iload_n C dX11_repack_79 1 rfl ?_
    refine pf_11_11 C q209 z11 dX11_repack_80 ?_
    refine X_nameM (fun M16 eM16 => ?_)
    replace h := h M16 eM16
    refine x_iload_n C dX11_repack_83 2 rfl ?_
    exact x_iret C E h (Nat.le_of_ble_eq_true rfl) (Nat.le_of_ble_eq_true rfl) dX11_repack_84
  · replace h := h.2 c15
    refine x_aload_n C dX11_repack_46 0 rfl ?_
    refine gf_11_14 C q162 z11 dX11_repack_47 ?_
    refine x_iload_n C dX11_repack_50 3 rfl ?_
    refine x_aload_n C dX11_repack_51 0 rfl ?_
    refine gf_11_14 C q162 z11 dX11_repack_52 ?_
    refine x_iload_n C dX11_repack_55 3 rfl ?_
    obtain ⟨f17, h⟩ := h
    refine al_1214 C z1214 f17 dX11_repack_56 ?_
    refine x_iconst (v := 2) C dX11_repack_57 rfl ?_
    refine x_icmp_ne (tgt := 65) C dX11_repack_58 (by decide) (fun c18 => ?_) (fun c18 => ?_)
    · replace h := h.1 c18
      refine x_aload_n C dX11_repack_65 0 rfl ?_
      refine gf_11_14 C q162 z11 dX11_repack_66 ?_
      refine x_iload_n C dX11_repack_69 3 rfl ?_
      refine al_1214 C z1214 f17 dX11_repack_70 ?_
      refine as_1214 C z1214 f17 dX11_repack_71 ?_
      refine X_nameM (fun M19 eM19 => ?_)
      replace h := h M19 eM19
      refine X_sub (lv' := [(0, .ref (ga G 11 0)), (1, .int x1), (2, .int y2), (3, .int y3)]) [0, 1, 2, 3] rfl ?_
      exact wX11_repack_72 hG C E hL38 M19 y2 y3 h
    · replace h := h.2 c18
      refine x_iconst (v := 3) C dX11_repack_61 rfl ?_
      refine x_goto (tgt := 71) C dX11_repack_62 (by decide) ?_
      refine as_1214 C z1214 f17 dX11_repack_71 ?_
      refine X_nameM (fun M20 eM20 => ?_)
      replace h := h M20 eM20
      refine X_sub (lv' := [(0, .ref (ga G 11 0)), (1, .int x1), (2, .int y2), (3, .int y3)]) [0, 1, 2, 3] rfl ?_
      exact wX11_repack_72 hG C E hL38 M20 y2 y3 h
set_option maxRecDepth 100000 in
set_option maxHeartbeats 400000 in
theorem kX11_repack {l : Launch} {G : Gm} (hG : Gd G) (M : Mem) (x1 : Int32) {Q : Int32 → Mem → Prop} (h : pX11_repack M x1 Q) : Cti l G yX11_repack cX11_repack 4 .int rmX11_repack [.ref (ga G 11 0), .int x1] M Q := by
  refine cti_of (own := RX11) (by decide +kernel) rfl (Nat.le_of_ble_eq_true rfl) hG (fun Γ Qf hl C E => ?_)
  subst hl
  show X Γ G Qf 4 0 0 0 [(0, .ref (ga G 11 0)), (1, .int x1)] [] M
  unfold pX11_repack at h
  refine x_aload_n C dX11_repack_0 0 rfl ?_
  refine x_iconst (v := 0) C dX11_repack_1 rfl ?_
  refine pf_11_0 C q143 z11 dX11_repack_2 ?_
  refine X_nameM (fun M1 eM1 => ?_)
  replace h := h M1 eM1
  refine x_aload_n C dX11_repack_5 0 rfl ?_
  refine x_iload_n C dX11_repack_6 1 rfl ?_
  refine x_iconst (v := 2) C dX11_repack_7 rfl ?_
  refine x_bipush (v := 8) C dX11_repack_8 rfl ?_
  refine x_scalli (rest := [.ref (ga G 11 0)]) C ss_X11_172 (kX11_in hG _ _ _ _ h) rfl rfl (Nat.le_of_ble_eq_true rfl) ⟨Nat.le_of_ble_eq_true rfl, Nat.le_of_ble_eq_true rfl⟩ rfl rfl ⟨Nat.le_of_ble_eq_true rfl, Nat.le_of_ble_eq_true rfl⟩ dX11_repack_10 (fun r2 M3 h => ?_)
  refine x_if_ne (tgt := 20) C dX11_repack_13 (by decide) (fun c4 => ?_) (fun c4 => ?_)
  · replace h := h.1 c4
    refine x_iconst (v := 0) C dX11_repack_20 rfl ?_
    refine x_iconst (v := 1) C dX11_repack_21 rfl ?_
    refine x_iconst (v := 1) C dX11_repack_22 rfl ?_
    refine x_calli (rest := []) C sv_X11_179 ob11 z11 (kX11_bad hG _ _ _ _ h) rfl rfl (Nat.le_of_ble_eq_true rfl) ⟨Nat.le_of_ble_eq_true rfl, Nat.le_of_ble_eq_true rfl⟩ rfl rfl ⟨Nat.le_of_ble_eq_true rfl, Nat.le_of_ble_eq_true rfl⟩ dX11_repack_23 (fun r5 M6 h => ?_)
    refine x_if_eq (tgt := 31) C dX11_repack_26 (by decide) (fun c7 => ?_) (fun c7 => ?_)
    · replace h := h.1 c7
      refine x_aload_n C dX11_repack_31 0 rfl ?_
      refine x_calli (rest := []) C sv_X11_390 ob11 z11 (kX11_gone hG _ h) rfl rfl (Nat.le_of_ble_eq_true rfl) ⟨Nat.le_of_ble_eq_true rfl, Nat.le_of_ble_eq_true rfl⟩ rfl rfl ⟨Nat.le_of_ble_eq_true rfl, Nat.le_of_ble_eq_true rfl⟩ dX11_repack_32 (fun r8 M9 h => ?_)
      refine x_istore_n (lv' := [(2, .int r8), (0, .ref (ga G 11 0)), (1, .int x1)]) C dX11_repack_35 rfl (Nat.le_of_ble_eq_true rfl) rfl ?_
      refine x_iconst (v := 0) C dX11_repack_36 rfl ?_
      refine x_istore_n (lv' := [(3, .int 0), (2, .int r8), (0, .ref (ga G 11 0)), (1, .int x1)]) C dX11_repack_37 rfl (Nat.le_of_ble_eq_true rfl) rfl ?_
      obtain ⟨n9, h⟩ := h
      refine X_sub (lv' := [(0, .ref (ga G 11 0)), (1, .int x1), (2, .int r8), (3, .int 0)]) [2, 3, 1, 0] rfl ?_
      have hb : ∀ (L : Mem × Int32 × Int32 → Prop) (s : Mem × Int32 × Int32), (∀ t, L t → X Γ G Qf 4 0 0 38 [(0, .ref (ga G 11 0)), (1, .int x1), (2, .int t.2.1), (3, .int t.2.2)] [] t.1) → bX11_repack_38 x1 Q L s.1 s.2.1 s.2.2 → X Γ G Qf 4 0 0 38 [(0, .ref (ga G 11 0)), (1, .int x1), (2, .int s.2.1), (3, .int s.2.2)] [] s.1 := fun L s hL h => wX11_repack_38 hG C E hL s.1 s.2.1 s.2.2 h
      have w9 := lp_walk (P := fun s : Mem × Int32 × Int32 => X Γ G Qf 4 0 0 38 [(0, .ref (ga G 11 0)), (1, .int x1), (2, .int s.2.1), (3, .int s.2.2)] [] s.1) h hb
      dsimp only at w9
      exact w9
    · replace h := h.2 c7
      refine x_iconst (v := 0) C dX11_repack_29 rfl ?_
      exact x_iret C E h (Nat.le_of_ble_eq_true rfl) (Nat.le_of_ble_eq_true rfl) dX11_repack_30
  · replace h := h.2 c4
    refine x_iconst (v := 1) C dX11_repack_16 rfl ?_
    refine x_goto (tgt := 21) C dX11_repack_17 (by decide) ?_
    refine x_iconst (v := 1) C dX11_repack_21 rfl ?_
    refine x_iconst (v := 1) C dX11_repack_22 rfl ?_
    refine x_calli (rest := []) C sv_X11_179 ob11 z11 (kX11_bad hG _ _ _ _ h) rfl rfl (Nat.le_of_ble_eq_true rfl) ⟨Nat.le_of_ble_eq_true rfl, Nat.le_of_ble_eq_true rfl⟩ rfl rfl ⟨Nat.le_of_ble_eq_true rfl, Nat.le_of_ble_eq_true rfl⟩ dX11_repack_23 (fun r10 M11 h => ?_)
    refine x_if_eq (tgt := 31) C dX11_repack_26 (by decide) (fun c12 => ?_) (fun c12 => ?_)
    · replace h := h.1 c12
      refine x_aload_n C dX11_repack_31 0 rfl ?_
      refine x_calli (rest := []) C sv_X11_390 ob11 z11 (kX11_gone hG _ h) rfl rfl (Nat.le_of_ble_eq_true rfl) ⟨Nat.le_of_ble_eq_true rfl, Nat.le_of_ble_eq_true rfl⟩ rfl rfl ⟨Nat.le_of_ble_eq_true rfl, Nat.le_of_ble_eq_true rfl⟩ dX11_repack_32 (fun r13 M14 h => ?_)
      refine x_istore_n (lv' := [(2, .int r13), (0, .ref (ga G 11 0)), (1, .int x1)]) C dX11_repack_35 rfl (Nat.le_of_ble_eq_true rfl) rfl ?_
      refine x_iconst (v := 0) C dX11_repack_36 rfl ?_
      refine x_istore_n (lv' := [(3, .int 0), (2, .int r13), (0, .ref (ga G 11 0)), (1, .int x1)]) C dX11_repack_37 rfl (Nat.le_of_ble_eq_true rfl) rfl ?_
      obtain ⟨n9, h⟩ := h
      refine X_sub (lv' := [(0, .ref (ga G 11 0)), (1, .int x1), (2, .int r13), (3, .int 0)]) [2, 3, 1, 0] rfl ?_
      have hb : ∀ (L : Mem × Int32 × Int32 → Prop) (s : Mem × Int32 × Int32), (∀ t, L t → X Γ G Qf 4 0 0 38 [(0, .ref (ga G 11 0)), (1, .int x1), (2, .int t.2.1), (3, .int t.2.2)] [] t.1) → bX11_repack_38 x1 Q L s.1 s.2.1 s.2.2 → X Γ G Qf 4 0 0 38 [(0, .ref (ga G 11 0)), (1, .int x1), (2, .int s.2.1), (3, .int s.2.2)] [] s.1 := fun L s hL h => wX11_repack_38 hG C E hL s.1 s.2.1 s.2.2 h
      have w9 := lp_walk (P := fun s : Mem × Int32 × Int32 => X Γ G Qf 4 0 0 38 [(0, .ref (ga G 11 0)), (1, .int x1), (2, .int s.2.1), (3, .int s.2.2)] [] s.1) h hb
      dsimp only at w9
      exact w9
    · replace h := h.2 c12
      refine x_iconst (v := 0) C dX11_repack_29 rfl ?_
      exact x_iret C E h (Nat.le_of_ble_eq_true rfl) (Nat.le_of_ble_eq_true rfl) dX11_repack_30
def rmX11_allPostings : Room := { frames := 2, cells := 0, slots := 0, locals := 43 }
def bX11_allPostings_4 (Q : Int32 → Mem → Prop) (L4 : Mem × Int32 × Int32 → Prop) (M : Mem) (y1 : Int32) (y2 : Int32) : Prop :=
  (((M.1 1210 0 0) ≤ y2 → Q y1 M) ∧ (¬ (M.1 1210 0 0) ≤ y2 → pX11_gathers M y2 (fun M3 => ∀ v4 : Int32, v4 = (y1 + (M3.1 1237 0 0)) → ∀ v5 : Int32, v5 = y2 + 1 → L4 (M3, v4, v5))))
def pX11_allPostings (M : Mem) (Q : Int32 → Mem → Prop) : Prop :=
  ∃ n : Nat, lp (fun L s => bX11_allPostings_4 Q L s.1 s.2.1 s.2.2) n (M, 0, 0)
set_option maxRecDepth 100000 in
set_option maxHeartbeats 400000 in
theorem wX11_allPostings_4 {Γ : Gam} {G : Gm} {Qf : State → Prop} (hG : Gd G) (C : Cx Γ G cX11_allPostings 3 RX11 (some .int) rmX11_allPostings)  {Q : Int32 → Mem → Prop} (E : EndI Γ G Qf rmX11_allPostings Q) {L4 : Mem × Int32 × Int32 → Prop} (hL4 : ∀ s, L4 s → X Γ G Qf 3 0 0 4 [(0, .ref (ga G 11 0)), (1, .int s.2.1), (2, .int s.2.2)] [] s.1) (M : Mem) (y1 : Int32) (y2 : Int32) (h : bX11_allPostings_4 Q L4 M y1 y2) : X Γ G Qf 3 0 0 4 [(0, .ref (ga G 11 0)), (1, .int y1), (2, .int y2)] [] M := by
  unfold bX11_allPostings_4 at h
  refine x_iload_n C dX11_allPostings_4 2 rfl ?_
  refine x_aload_n C dX11_allPostings_5 0 rfl ?_
  refine gf_11_10 C q155 z11 dX11_allPostings_6 ?_
  refine x_icmp_ge (tgt := 30) C dX11_allPostings_9 (by decide) (fun c1 => ?_) (fun c1 => ?_)
  · replace h := h.1 c1
    refine x_iload_n C dX11_allPostings_30 1 rfl ?_
    exact x_iret C E h (Nat.le_of_ble_eq_true rfl) (Nat.le_of_ble_eq_true rfl) dX11_allPostings_31
  · replace h := h.2 c1
    refine x_aload_n C dX11_allPostings_12 0 rfl ?_
    refine x_iload_n C dX11_allPostings_13 2 rfl ?_
    refine x_callv (rest := []) C sv_X11_252 ob11 z11 (kX11_gathers hG _ _ h) rfl rfl (Nat.le_of_ble_eq_true rfl) ⟨Nat.le_of_ble_eq_true rfl, Nat.le_of_ble_eq_true rfl⟩ rfl rfl ⟨Nat.le_of_ble_eq_true rfl, Nat.le_of_ble_eq_true rfl⟩ dX11_allPostings_14 (fun M3 h => ?_)
    refine x_iload_n C dX11_allPostings_17 1 rfl ?_
    refine x_aload_n C dX11_allPostings_18 0 rfl ?_
    refine gf_11_37 C q181 z11 dX11_allPostings_19 ?_
    refine x_iadd C dX11_allPostings_22 ?_
    refine X_name (fun v4 ev4 => ?_)
    replace h := h v4 ev4
    refine x_istore_n (lv' := [(1, .int v4), (0, .ref (ga G 11 0)), (2, .int y2)]) C dX11_allPostings_23 rfl (Nat.le_of_ble_eq_true rfl) rfl ?_
    obtain ⟨v5, ev5⟩ : ∃ z : Int32, z = y2 + 1 := ⟨_, rfl⟩
    replace h := h v5 ev5
    refine x_iinc (v := v5) (lv' := [(2, .int v5), (1, .int v4), (0, .ref (ga G 11 0))]) (j := 2) C dX11_allPostings_24 rfl (by rw [ev5]; rfl) (Nat.le_of_ble_eq_true rfl) rfl ?_
    refine x_goto (tgt := 4) C dX11_allPostings_27 (by decide) ?_
    refine X_sub (lv' := [(0, .ref (ga G 11 0)), (1, .int v4), (2, .int v5)]) [2, 1, 0] rfl ?_
    have w9 := hL4 (M3, v4, v5) h
    dsimp only at w9
    exact w9
set_option maxRecDepth 100000 in
set_option maxHeartbeats 400000 in
theorem kX11_allPostings {l : Launch} {G : Gm} (hG : Gd G) (M : Mem)  {Q : Int32 → Mem → Prop} (h : pX11_allPostings M Q) : Cti l G yX11_allPostings cX11_allPostings 3 .int rmX11_allPostings [.ref (ga G 11 0)] M Q := by
  refine cti_of (own := RX11) (by decide +kernel) rfl (Nat.le_of_ble_eq_true rfl) hG (fun Γ Qf hl C E => ?_)
  subst hl
  show X Γ G Qf 3 0 0 0 [(0, .ref (ga G 11 0))] [] M
  unfold pX11_allPostings at h
  refine x_iconst (v := 0) C dX11_allPostings_0 rfl ?_
  refine x_istore_n (lv' := [(1, .int 0), (0, .ref (ga G 11 0))]) C dX11_allPostings_1 rfl (Nat.le_of_ble_eq_true rfl) rfl ?_
  refine x_iconst (v := 0) C dX11_allPostings_2 rfl ?_
  refine x_istore_n (lv' := [(2, .int 0), (1, .int 0), (0, .ref (ga G 11 0))]) C dX11_allPostings_3 rfl (Nat.le_of_ble_eq_true rfl) rfl ?_
  obtain ⟨n9, h⟩ := h
  refine X_sub (lv' := [(0, .ref (ga G 11 0)), (1, .int 0), (2, .int 0)]) [2, 1, 0] rfl ?_
  have hb : ∀ (L : Mem × Int32 × Int32 → Prop) (s : Mem × Int32 × Int32), (∀ t, L t → X Γ G Qf 3 0 0 4 [(0, .ref (ga G 11 0)), (1, .int t.2.1), (2, .int t.2.2)] [] t.1) → bX11_allPostings_4 Q L s.1 s.2.1 s.2.2 → X Γ G Qf 3 0 0 4 [(0, .ref (ga G 11 0)), (1, .int s.2.1), (2, .int s.2.2)] [] s.1 := fun L s hL h => wX11_allPostings_4 hG C E hL s.1 s.2.1 s.2.2 h
  have w9 := lp_walk (P := fun s : Mem × Int32 × Int32 => X Γ G Qf 3 0 0 4 [(0, .ref (ga G 11 0)), (1, .int s.2.1), (2, .int s.2.2)] [] s.1) h hb
  dsimp only at w9
  exact w9
def rmX11_allBlocks : Room := { frames := 2, cells := 0, slots := 0, locals := 43 }
def bX11_allBlocks_4 (Q : Int32 → Mem → Prop) (L4 : Mem × Int32 × Int32 → Prop) (M : Mem) (y1 : Int32) (y2 : Int32) : Prop :=
  (((M.1 1210 0 0) ≤ y2 → Q y1 M) ∧ (¬ (M.1 1210 0 0) ≤ y2 → pX11_gathers M y2 (fun M3 => pX11_blocksOf M3 (M3.1 1237 0 0) (M3.1 1211 0 0) (fun r4 M5 => ∀ v6 : Int32, v6 = (y1 + r4) → ∀ v7 : Int32, v7 = y2 + 1 → L4 (M5, v6, v7)))))
def pX11_allBlocks (M : Mem) (Q : Int32 → Mem → Prop) : Prop :=
  ∃ n : Nat, lp (fun L s => bX11_allBlocks_4 Q L s.1 s.2.1 s.2.2) n (M, 0, 0)
set_option maxRecDepth 100000 in
set_option maxHeartbeats 400000 in
theorem wX11_allBlocks_4 {Γ : Gam} {G : Gm} {Qf : State → Prop} (hG : Gd G) (C : Cx Γ G cX11_allBlocks 3 RX11 (some .int) rmX11_allBlocks)  {Q : Int32 → Mem → Prop} (E : EndI Γ G Qf rmX11_allBlocks Q) {L4 : Mem × Int32 × Int32 → Prop} (hL4 : ∀ s, L4 s → X Γ G Qf 3 0 0 4 [(0, .ref (ga G 11 0)), (1, .int s.2.1), (2, .int s.2.2)] [] s.1) (M : Mem) (y1 : Int32) (y2 : Int32) (h : bX11_allBlocks_4 Q L4 M y1 y2) : X Γ G Qf 3 0 0 4 [(0, .ref (ga G 11 0)), (1, .int y1), (2, .int y2)] [] M := by
  unfold bX11_allBlocks_4 at h
  refine x_iload_n C dX11_allBlocks_4 2 rfl ?_
  refine x_aload_n C dX11_allBlocks_5 0 rfl ?_
  refine gf_11_10 C q155 z11 dX11_allBlocks_6 ?_
  refine x_icmp_ge (tgt := 37) C dX11_allBlocks_9 (by decide) (fun c1 => ?_) (fun c1 => ?_)
  · replace h := h.1 c1
    refine x_iload_n C dX11_allBlocks_37 1 rfl ?_
    exact x_iret C E h (Nat.le_of_ble_eq_true rfl) (Nat.le_of_ble_eq_true rfl) dX11_allBlocks_38
  · replace h := h.2 c1
    refine x_aload_n C dX11_allBlocks_12 0 rfl ?_
    refine x_iload_n C dX11_allBlocks_13 2 rfl ?_
    refine x_callv (rest := []) C sv_X11_252 ob11 z11 (kX11_gathers hG _ _ h) rfl rfl (Nat.le_of_ble_eq_true rfl) ⟨Nat.le_of_ble_eq_true rfl, Nat.le_of_ble_eq_true rfl⟩ rfl rfl ⟨Nat.le_of_ble_eq_true rfl, Nat.le_of_ble_eq_true rfl⟩ dX11_allBlocks_14 (fun M3 h => ?_)
    refine x_iload_n C dX11_allBlocks_17 1 rfl ?_
    refine x_aload_n C dX11_allBlocks_18 0 rfl ?_
    refine gf_11_37 C q181 z11 dX11_allBlocks_19 ?_
    refine x_aload_n C dX11_allBlocks_22 0 rfl ?_
    refine gf_11_11 C q209 z11 dX11_allBlocks_23 ?_
    refine x_scalli (rest := [.int y1]) C ss_X11_314 (kX11_blocksOf hG _ _ _ h) rfl rfl (Nat.le_of_ble_eq_true rfl) ⟨Nat.le_of_ble_eq_true rfl, Nat.le_of_ble_eq_true rfl⟩ rfl rfl ⟨Nat.le_of_ble_eq_true rfl, Nat.le_of_ble_eq_true rfl⟩ dX11_allBlocks_26 (fun r4 M5 h => ?_)
    refine x_iadd C dX11_allBlocks_29 ?_
    refine X_name (fun v6 ev6 => ?_)
    replace h := h v6 ev6
    refine x_istore_n (lv' := [(1, .int v6), (0, .ref (ga G 11 0)), (2, .int y2)]) C dX11_allBlocks_30 rfl (Nat.le_of_ble_eq_true rfl) rfl ?_
    obtain ⟨v7, ev7⟩ : ∃ z : Int32, z = y2 + 1 := ⟨_, rfl⟩
    replace h := h v7 ev7
    refine x_iinc (v := v7) (lv' := [(2, .int v7), (1, .int v6), (0, .ref (ga G 11 0))]) (j := 2) C dX11_allBlocks_31 rfl (by rw [ev7]; rfl) (Nat.le_of_ble_eq_true rfl) rfl ?_
    refine x_goto (tgt := 4) C dX11_allBlocks_34 (by decide) ?_
    refine X_sub (lv' := [(0, .ref (ga G 11 0)), (1, .int v6), (2, .int v7)]) [2, 1, 0] rfl ?_
    have w9 := hL4 (M5, v6, v7) h
    dsimp only at w9
    exact w9
set_option maxRecDepth 100000 in
set_option maxHeartbeats 400000 in
theorem kX11_allBlocks {l : Launch} {G : Gm} (hG : Gd G) (M : Mem)  {Q : Int32 → Mem → Prop} (h : pX11_allBlocks M Q) : Cti l G yX11_allBlocks cX11_allBlocks 3 .int rmX11_allBlocks [.ref (ga G 11 0)] M Q := by
  refine cti_of (own := RX11) (by decide +kernel) rfl (Nat.le_of_ble_eq_true rfl) hG (fun Γ Qf hl C E => ?_)
  subst hl
  show X Γ G Qf 3 0 0 0 [(0, .ref (ga G 11 0))] [] M
  unfold pX11_allBlocks at h
  refine x_iconst (v := 0) C dX11_allBlocks_0 rfl ?_
  refine x_istore_n (lv' := [(1, .int 0), (0, .ref (ga G 11 0))]) C dX11_allBlocks_1 rfl (Nat.le_of_ble_eq_true rfl) rfl ?_
  refine x_iconst (v := 0) C dX11_allBlocks_2 rfl ?_
  refine x_istore_n (lv' := [(2, .int 0), (1, .int 0), (0, .ref (ga G 11 0))]) C dX11_allBlocks_3 rfl (Nat.le_of_ble_eq_true rfl) rfl ?_
  obtain ⟨n9, h⟩ := h
  refine X_sub (lv' := [(0, .ref (ga G 11 0)), (1, .int 0), (2, .int 0)]) [2, 1, 0] rfl ?_
  have hb : ∀ (L : Mem × Int32 × Int32 → Prop) (s : Mem × Int32 × Int32), (∀ t, L t → X Γ G Qf 3 0 0 4 [(0, .ref (ga G 11 0)), (1, .int t.2.1), (2, .int t.2.2)] [] t.1) → bX11_allBlocks_4 Q L s.1 s.2.1 s.2.2 → X Γ G Qf 3 0 0 4 [(0, .ref (ga G 11 0)), (1, .int s.2.1), (2, .int s.2.2)] [] s.1 := fun L s hL h => wX11_allBlocks_4 hG C E hL s.1 s.2.1 s.2.2 h
  have w9 := lp_walk (P := fun s : Mem × Int32 × Int32 => X Γ G Qf 3 0 0 4 [(0, .ref (ga G 11 0)), (1, .int s.2.1), (2, .int s.2.2)] [] s.1) h hb
  dsimp only at w9
  exact w9
def rmX11_told : Room := { frames := 6, cells := 0, slots := 0, locals := 147 }
def pX11_told (M : Mem) (x1 : Int32) (Q : Int32 → Mem → Prop) : Prop :=
  ∀ M1 : Mem, M1 = up1 M 1200 0 0 0 → pX11_in M1 x1 0 9 (fun r2 M3 => ((¬ r2 = 0 → pX11_bad M3 0 1 1 (fun r5 M6 => ((r5 = 0 → ((x1 = 0 → pX11_kept M6 (fun r9 M10 => Q r9 M10)) ∧ (x1 = 1 → pX11_gone M6 (fun r12 M13 => Q r12 M13)) ∧ (x1 = 2 → Q (M6.1 1210 0 0) M6) ∧ (x1 = 3 → pX11_allPostings M6 (fun r16 M17 => Q r16 M17)) ∧ (x1 = 4 → pX11_allBlocks M6 (fun r19 M20 => Q r19 M20)) ∧ (x1 = 5 → pX11_bitsOfAll M6 (M6.1 1211 0 0) (fun r22 M23 => Q r22 M23)) ∧ (x1 = 6 → Q (M6.1 1211 0 0) M6) ∧ (x1 = 7 → Q (M6.1 1218 0 0) M6) ∧ (x1 = 8 → Q (M6.1 1222 0 0) M6) ∧ (¬ x1 = 0 → ¬ x1 = 1 → ¬ x1 = 2 → ¬ x1 = 3 → ¬ x1 = 4 → ¬ x1 = 5 → ¬ x1 = 6 → ¬ x1 = 7 → ¬ x1 = 8 → Q (M6.1 1209 0 0) M6))) ∧ (¬ r5 = 0 → Q 0 M6)))) ∧ (r2 = 0 → pX11_bad M3 1 1 1 (fun r27 M28 => ((r27 = 0 → ((x1 = 0 → pX11_kept M28 (fun r31 M32 => Q r31 M32)) ∧ (x1 = 1 → pX11_gone M28 (fun r34 M35 => Q r34 M35)) ∧ (x1 = 2 → Q (M28.1 1210 0 0) M28) ∧ (x1 = 3 → pX11_allPostings M28 (fun r38 M39 => Q r38 M39)) ∧ (x1 = 4 → pX11_allBlocks M28 (fun r41 M42 => Q r41 M42)) ∧ (x1 = 5 → pX11_bitsOfAll M28 (M28.1 1211 0 0) (fun r44 M45 => Q r44 M45)) ∧ (x1 = 6 → Q (M28.1 1211 0 0) M28) ∧ (x1 = 7 → Q (M28.1 1218 0 0) M28) ∧ (x1 = 8 → Q (M28.1 1222 0 0) M28) ∧ (¬ x1 = 0 → ¬ x1 = 1 → ¬ x1 = 2 → ¬ x1 = 3 → ¬ x1 = 4 → ¬ x1 = 5 → ¬ x1 = 6 → ¬ x1 = 7 → ¬ x1 = 8 → Q (M28.1 1209 0 0) M28))) ∧ (¬ r27 = 0 → Q 0 M28))))))
set_option maxRecDepth 100000 in
set_option maxHeartbeats 400000 in
theorem kX11_told {l : Launch} {G : Gm} (hG : Gd G) (M : Mem) (x1 : Int32) {Q : Int32 → Mem → Prop} (h : pX11_told M x1 Q) : Cti l G yX11_told cX11_told 2 .int rmX11_told [.ref (ga G 11 0), .int x1] M Q := by
  refine cti_of (own := RX11) (by decide +kernel) rfl (Nat.le_of_ble_eq_true rfl) hG (fun Γ Qf hl C E => ?_)
  subst hl
  show X Γ G Qf 2 0 0 0 [(0, .ref (ga G 11 0)), (1, .int x1)] [] M
  unfold pX11_told at h
  refine x_aload_n C dX11_told_0 0 rfl ?_
  refine x_iconst (v := 0) C dX11_told_1 rfl ?_
  refine pf_11_0 C q143 z11 dX11_told_2 ?_
  refine X_nameM (fun M1 eM1 => ?_)
  replace h := h M1 eM1
  refine x_aload_n C dX11_told_5 0 rfl ?_
  refine x_iload_n C dX11_told_6 1 rfl ?_
  refine x_iconst (v := 0) C dX11_told_7 rfl ?_
  refine x_bipush (v := 9) C dX11_told_8 rfl ?_
  refine x_scalli (rest := [.ref (ga G 11 0)]) C ss_X11_172 (kX11_in hG _ _ _ _ h) rfl rfl (Nat.le_of_ble_eq_true rfl) ⟨Nat.le_of_ble_eq_true rfl, Nat.le_of_ble_eq_true rfl⟩ rfl rfl ⟨Nat.le_of_ble_eq_true rfl, Nat.le_of_ble_eq_true rfl⟩ dX11_told_10 (fun r2 M3 h => ?_)
  refine x_if_ne (tgt := 20) C dX11_told_13 (by decide) (fun c4 => ?_) (fun c4 => ?_)
  · replace h := h.1 c4
    refine x_iconst (v := 0) C dX11_told_20 rfl ?_
    refine x_iconst (v := 1) C dX11_told_21 rfl ?_
    refine x_iconst (v := 1) C dX11_told_22 rfl ?_
    refine x_calli (rest := []) C sv_X11_179 ob11 z11 (kX11_bad hG _ _ _ _ h) rfl rfl (Nat.le_of_ble_eq_true rfl) ⟨Nat.le_of_ble_eq_true rfl, Nat.le_of_ble_eq_true rfl⟩ rfl rfl ⟨Nat.le_of_ble_eq_true rfl, Nat.le_of_ble_eq_true rfl⟩ dX11_told_23 (fun r5 M6 h => ?_)
    refine x_if_eq (tgt := 31) C dX11_told_26 (by decide) (fun c7 => ?_) (fun c7 => ?_)
    · replace h := h.1 c7
      refine x_iload_n C dX11_told_31 1 rfl ?_
      by_cases c8 : x1 = 0
      · replace h := h.1 c8
        refine x_tabIn (v := 0) (tgt := 84) C dX11_told_32 c8 (by decide) (by decide) rfl (by decide) ?_
        refine x_aload_n C dX11_told_84 0 rfl ?_
        refine x_calli (rest := []) C sv_X11_255 ob11 z11 (kX11_kept hG _ h) rfl rfl (Nat.le_of_ble_eq_true rfl) ⟨Nat.le_of_ble_eq_true rfl, Nat.le_of_ble_eq_true rfl⟩ rfl rfl ⟨Nat.le_of_ble_eq_true rfl, Nat.le_of_ble_eq_true rfl⟩ dX11_told_85 (fun r9 M10 h => ?_)
        exact x_iret C E h (Nat.le_of_ble_eq_true rfl) (Nat.le_of_ble_eq_true rfl) dX11_told_88
      by_cases c11 : x1 = 1
      · replace h := h.2.1 c11
        refine x_tabIn (v := 1) (tgt := 89) C dX11_told_32 c11 (by decide) (by decide) rfl (by decide) ?_
        refine x_aload_n C dX11_told_89 0 rfl ?_
        refine x_calli (rest := []) C sv_X11_390 ob11 z11 (kX11_gone hG _ h) rfl rfl (Nat.le_of_ble_eq_true rfl) ⟨Nat.le_of_ble_eq_true rfl, Nat.le_of_ble_eq_true rfl⟩ rfl rfl ⟨Nat.le_of_ble_eq_true rfl, Nat.le_of_ble_eq_true rfl⟩ dX11_told_90 (fun r12 M13 h => ?_)
        exact x_iret C E h (Nat.le_of_ble_eq_true rfl) (Nat.le_of_ble_eq_true rfl) dX11_told_93
      by_cases c14 : x1 = 2
      · replace h := h.2.2.1 c14
        refine x_tabIn (v := 2) (tgt := 94) C dX11_told_32 c14 (by decide) (by decide) rfl (by decide) ?_
        refine x_aload_n C dX11_told_94 0 rfl ?_
        refine gf_11_10 C q155 z11 dX11_told_95 ?_
        exact x_iret C E h (Nat.le_of_ble_eq_true rfl) (Nat.le_of_ble_eq_true rfl) dX11_told_98
      by_cases c15 : x1 = 3
      · replace h := h.2.2.2.1 c15
        refine x_tabIn (v := 3) (tgt := 99) C dX11_told_32 c15 (by decide) (by decide) rfl (by decide) ?_
        refine x_aload_n C dX11_told_99 0 rfl ?_
        refine x_calli (rest := []) C sv_X11_393 ob11 z11 (kX11_allPostings hG _ h) rfl rfl (Nat.le_of_ble_eq_true rfl) ⟨Nat.le_of_ble_eq_true rfl, Nat.le_of_ble_eq_true rfl⟩ rfl rfl ⟨Nat.le_of_ble_eq_true rfl, Nat.le_of_ble_eq_true rfl⟩ dX11_told_100 (fun r16 M17 h => ?_)
        exact x_iret C E h (Nat.le_of_ble_eq_true rfl) (Nat.le_of_ble_eq_true rfl) dX11_told_103
      by_cases c18 : x1 = 4
      · replace h := h.2.2.2.2.1 c18
        refine x_tabIn (v := 4) (tgt := 104) C dX11_told_32 c18 (by decide) (by decide) rfl (by decide) ?_
        refine x_aload_n C dX11_told_104 0 rfl ?_
        refine x_calli (rest := []) C sv_X11_396 ob11 z11 (kX11_allBlocks hG _ h) rfl rfl (Nat.le_of_ble_eq_true rfl) ⟨Nat.le_of_ble_eq_true rfl, Nat.le_of_ble_eq_true rfl⟩ rfl rfl ⟨Nat.le_of_ble_eq_true rfl, Nat.le_of_ble_eq_true rfl⟩ dX11_told_105 (fun r19 M20 h => ?_)
        exact x_iret C E h (Nat.le_of_ble_eq_true rfl) (Nat.le_of_ble_eq_true rfl) dX11_told_108
      by_cases c21 : x1 = 5
      · replace h := h.2.2.2.2.2.1 c21
        refine x_tabIn (v := 5) (tgt := 109) C dX11_told_32 c21 (by decide) (by decide) rfl (by decide) ?_
        refine x_aload_n C dX11_told_109 0 rfl ?_
        refine x_aload_n C dX11_told_110 0 rfl ?_
        refine gf_11_11 C q209 z11 dX11_told_111 ?_
        refine x_calli (rest := []) C sv_X11_399 ob11 z11 (kX11_bitsOfAll hG _ _ h) rfl rfl (Nat.le_of_ble_eq_true rfl) ⟨Nat.le_of_ble_eq_true rfl, Nat.le_of_ble_eq_true rfl⟩ rfl rfl ⟨Nat.le_of_ble_eq_true rfl, Nat.le_of_ble_eq_true rfl⟩ dX11_told_114 (fun r22 M23 h => ?_)
        exact x_iret C E h (Nat.le_of_ble_eq_true rfl) (Nat.le_of_ble_eq_true rfl) dX11_told_117
      by_cases c24 : x1 = 6
      · replace h := h.2.2.2.2.2.2.1 c24
        refine x_tabIn (v := 6) (tgt := 118) C dX11_told_32 c24 (by decide) (by decide) rfl (by decide) ?_
        refine x_aload_n C dX11_told_118 0 rfl ?_
        refine gf_11_11 C q209 z11 dX11_told_119 ?_
        exact x_iret C E h (Nat.le_of_ble_eq_true rfl) (Nat.le_of_ble_eq_true rfl) dX11_told_122
      by_cases c25 : x1 = 7
      · replace h := h.2.2.2.2.2.2.2.1 c25
        refine x_tabIn (v := 7) (tgt := 123) C dX11_told_32 c25 (by decide) (by decide) rfl (by decide) ?_
        refine x_aload_n C dX11_told_123 0 rfl ?_
        refine gf_11_18 C q168 z11 dX11_told_124 ?_
        exact x_iret C E h (Nat.le_of_ble_eq_true rfl) (Nat.le_of_ble_eq_true rfl) dX11_told_127
      by_cases c26 : x1 = 8
      · replace h := h.2.2.2.2.2.2.2.2.1 c26
        refine x_tabIn (v := 8) (tgt := 128) C dX11_told_32 c26 (by decide) (by decide) rfl (by decide) ?_
        refine x_aload_n C dX11_told_128 0 rfl ?_
        refine gf_11_22 C q174 z11 dX11_told_129 ?_
        exact x_iret C E h (Nat.le_of_ble_eq_true rfl) (Nat.le_of_ble_eq_true rfl) dX11_told_132
      replace h := h.2.2.2.2.2.2.2.2.2 c8 c11 c14 c15 c18 c21 c24 c25 c26
      refine x_tabOut (tgt := 133) C dX11_told_32 (by have ac8 := lv_neT (a := 0) c8 rfl; have ac11 := lv_neT (a := 1) c11 rfl; have ac14 := lv_neT (a := 2) c14 rfl; have ac15 := lv_neT (a := 3) c15 rfl; have ac18 := lv_neT (a := 4) c18 rfl; have ac21 := lv_neT (a := 5) c21 rfl; have ac24 := lv_neT (a := 6) c24 rfl; have ac25 := lv_neT (a := 7) c25 rfl; have ac26 := lv_neT (a := 8) c26 rfl; omega) (by decide) ?_
      refine x_aload_n C dX11_told_133 0 rfl ?_
      refine gf_11_9 C q159 z11 dX11_told_134 ?_
      exact x_iret C E h (Nat.le_of_ble_eq_true rfl) (Nat.le_of_ble_eq_true rfl) dX11_told_137
    · replace h := h.2 c7
      refine x_iconst (v := 0) C dX11_told_29 rfl ?_
      exact x_iret C E h (Nat.le_of_ble_eq_true rfl) (Nat.le_of_ble_eq_true rfl) dX11_told_30
  · replace h := h.2 c4
    refine x_iconst (v := 1) C dX11_told_16 rfl ?_
    refine x_goto (tgt := 21) C dX11_told_17 (by decide) ?_
    refine x_iconst (v := 1) C dX11_told_21 rfl ?_
    refine x_iconst (v := 1) C dX11_told_22 rfl ?_
    refine x_calli (rest := []) C sv_X11_179 ob11 z11 (kX11_bad hG _ _ _ _ h) rfl rfl (Nat.le_of_ble_eq_true rfl) ⟨Nat.le_of_ble_eq_true rfl, Nat.le_of_ble_eq_true rfl⟩ rfl rfl ⟨Nat.le_of_ble_eq_true rfl, Nat.le_of_ble_eq_true rfl⟩ dX11_told_23 (fun r27 M28 h => ?_)
    refine x_if_eq (tgt := 31) C dX11_told_26 (by decide) (fun c29 => ?_) (fun c29 => ?_)
    · replace h := h.1 c29
      refine x_iload_n C dX11_told_31 1 rfl ?_
      by_cases c30 : x1 = 0
      · replace h := h.1 c30
        refine x_tabIn (v := 0) (tgt := 84) C dX11_told_32 c30 (by decide) (by decide) rfl (by decide) ?_
        refine x_aload_n C dX11_told_84 0 rfl ?_
        refine x_calli (rest := []) C sv_X11_255 ob11 z11 (kX11_kept hG _ h) rfl rfl (Nat.le_of_ble_eq_true rfl) ⟨Nat.le_of_ble_eq_true rfl, Nat.le_of_ble_eq_true rfl⟩ rfl rfl ⟨Nat.le_of_ble_eq_true rfl, Nat.le_of_ble_eq_true rfl⟩ dX11_told_85 (fun r31 M32 h => ?_)
        exact x_iret C E h (Nat.le_of_ble_eq_true rfl) (Nat.le_of_ble_eq_true rfl) dX11_told_88
      by_cases c33 : x1 = 1
      · replace h := h.2.1 c33
        refine x_tabIn (v := 1) (tgt := 89) C dX11_told_32 c33 (by decide) (by decide) rfl (by decide) ?_
        refine x_aload_n C dX11_told_89 0 rfl ?_
        refine x_calli (rest := []) C sv_X11_390 ob11 z11 (kX11_gone hG _ h) rfl rfl (Nat.le_of_ble_eq_true rfl) ⟨Nat.le_of_ble_eq_true rfl, Nat.le_of_ble_eq_true rfl⟩ rfl rfl ⟨Nat.le_of_ble_eq_true rfl, Nat.le_of_ble_eq_true rfl⟩ dX11_told_90 (fun r34 M35 h => ?_)
        exact x_iret C E h (Nat.le_of_ble_eq_true rfl) (Nat.le_of_ble_eq_true rfl) dX11_told_93
      by_cases c36 : x1 = 2
      · replace h := h.2.2.1 c36
        refine x_tabIn (v := 2) (tgt := 94) C dX11_told_32 c36 (by decide) (by decide) rfl (by decide) ?_
        refine x_aload_n C dX11_told_94 0 rfl ?_
        refine gf_11_10 C q155 z11 dX11_told_95 ?_
        exact x_iret C E h (Nat.le_of_ble_eq_true rfl) (Nat.le_of_ble_eq_true rfl) dX11_told_98
      by_cases c37 : x1 = 3
      · replace h := h.2.2.2.1 c37
        refine x_tabIn (v := 3) (tgt := 99) C dX11_told_32 c37 (by decide) (by decide) rfl (by decide) ?_
        refine x_aload_n C dX11_told_99 0 rfl ?_
        refine x_calli (rest := []) C sv_X11_393 ob11 z11 (kX11_allPostings hG _ h) rfl rfl (Nat.le_of_ble_eq_true rfl) ⟨Nat.le_of_ble_eq_true rfl, Nat.le_of_ble_eq_true rfl⟩ rfl rfl ⟨Nat.le_of_ble_eq_true rfl, Nat.le_of_ble_eq_true rfl⟩ dX11_told_100 (fun r38 M39 h => ?_)
        exact x_iret C E h (Nat.le_of_ble_eq_true rfl) (Nat.le_of_ble_eq_true rfl) dX11_told_103
      by_cases c40 : x1 = 4
      · replace h := h.2.2.2.2.1 c40
        refine x_tabIn (v := 4) (tgt := 104) C dX11_told_32 c40 (by decide) (by decide) rfl (by decide) ?_
        refine x_aload_n C dX11_told_104 0 rfl ?_
        refine x_calli (rest := []) C sv_X11_396 ob11 z11 (kX11_allBlocks hG _ h) rfl rfl (Nat.le_of_ble_eq_true rfl) ⟨Nat.le_of_ble_eq_true rfl, Nat.le_of_ble_eq_true rfl⟩ rfl rfl ⟨Nat.le_of_ble_eq_true rfl, Nat.le_of_ble_eq_true rfl⟩ dX11_told_105 (fun r41 M42 h => ?_)
        exact x_iret C E h (Nat.le_of_ble_eq_true rfl) (Nat.le_of_ble_eq_true rfl) dX11_told_108
      by_cases c43 : x1 = 5
      · replace h := h.2.2.2.2.2.1 c43
        refine x_tabIn (v := 5) (tgt := 109) C dX11_told_32 c43 (by decide) (by decide) rfl (by decide) ?_
        refine x_aload_n C dX11_told_109 0 rfl ?_
        refine x_aload_n C dX11_told_110 0 rfl ?_
        refine gf_11_11 C q209 z11 dX11_told_111 ?_
        refine x_calli (rest := []) C sv_X11_399 ob11 z11 (kX11_bitsOfAll hG _ _ h) rfl rfl (Nat.le_of_ble_eq_true rfl) ⟨Nat.le_of_ble_eq_true rfl, Nat.le_of_ble_eq_true rfl⟩ rfl rfl ⟨Nat.le_of_ble_eq_true rfl, Nat.le_of_ble_eq_true rfl⟩ dX11_told_114 (fun r44 M45 h => ?_)
        exact x_iret C E h (Nat.le_of_ble_eq_true rfl) (Nat.le_of_ble_eq_true rfl) dX11_told_117
      by_cases c46 : x1 = 6
      · replace h := h.2.2.2.2.2.2.1 c46
        refine x_tabIn (v := 6) (tgt := 118) C dX11_told_32 c46 (by decide) (by decide) rfl (by decide) ?_
        refine x_aload_n C dX11_told_118 0 rfl ?_
        refine gf_11_11 C q209 z11 dX11_told_119 ?_
        exact x_iret C E h (Nat.le_of_ble_eq_true rfl) (Nat.le_of_ble_eq_true rfl) dX11_told_122
      by_cases c47 : x1 = 7
      · replace h := h.2.2.2.2.2.2.2.1 c47
        refine x_tabIn (v := 7) (tgt := 123) C dX11_told_32 c47 (by decide) (by decide) rfl (by decide) ?_
        refine x_aload_n C dX11_told_123 0 rfl ?_
        refine gf_11_18 C q168 z11 dX11_told_124 ?_
        exact x_iret C E h (Nat.le_of_ble_eq_true rfl) (Nat.le_of_ble_eq_true rfl) dX11_told_127
      by_cases c48 : x1 = 8
      · replace h := h.2.2.2.2.2.2.2.2.1 c48
        refine x_tabIn (v := 8) (tgt := 128) C dX11_told_32 c48 (by decide) (by decide) rfl (by decide) ?_
        refine x_aload_n C dX11_told_128 0 rfl ?_
        refine gf_11_22 C q174 z11 dX11_told_129 ?_
        exact x_iret C E h (Nat.le_of_ble_eq_true rfl) (Nat.le_of_ble_eq_true rfl) dX11_told_132
      replace h := h.2.2.2.2.2.2.2.2.2 c30 c33 c36 c37 c40 c43 c46 c47 c48
      refine x_tabOut (tgt := 133) C dX11_told_32 (by have ac30 := lv_neT (a := 0) c30 rfl; have ac33 := lv_neT (a := 1) c33 rfl; have ac36 := lv_neT (a := 2) c36 rfl; have ac37 := lv_neT (a := 3) c37 rfl; have ac40 := lv_neT (a := 4) c40 rfl; have ac43 := lv_neT (a := 5) c43 rfl; have ac46 := lv_neT (a := 6) c46 rfl; have ac47 := lv_neT (a := 7) c47 rfl; have ac48 := lv_neT (a := 8) c48 rfl; omega) (by decide) ?_
      refine x_aload_n C dX11_told_133 0 rfl ?_
      refine gf_11_9 C q159 z11 dX11_told_134 ?_
      exact x_iret C E h (Nat.le_of_ble_eq_true rfl) (Nat.le_of_ble_eq_true rfl) dX11_told_137
    · replace h := h.2 c29
      refine x_iconst (v := 0) C dX11_told_29 rfl ?_
      exact x_iret C E h (Nat.le_of_ble_eq_true rfl) (Nat.le_of_ble_eq_true rfl) dX11_told_30
def rmX11_unlike : Room := { frames := 0, cells := 0, slots := 0, locals := 0 }
def bX11_unlike_31 (x1 : Int32) (Q : Int32 → Mem → Prop) (L4 : Mem × Int32 × Int32 → Prop) (M : Mem) (y2 : Int32) (y3 : Int32) : Prop :=
  ∀ v7 : Int32, v7 = y3 + 1 → L4 (M, y2, v7)
def bX11_unlike_4 (x1 : Int32) (Q : Int32 → Mem → Prop) (L4 : Mem × Int32 × Int32 → Prop) (M : Mem) (y2 : Int32) (y3 : Int32) : Prop :=
  (((M.1 1210 0 0) ≤ y3 → Q y2 M) ∧ (¬ (M.1 1210 0 0) ≤ y3 → vp_in y3 256 ∧ vp_in x1 64 ∧ (((M.1 6217 (tn y3) (tn x1)) ≤ 0 → ∀ v5 : Int32, v5 = (y2 + 0) → bX11_unlike_31 x1 Q L4 M v5 y3) ∧ (¬ (M.1 6217 (tn y3) (tn x1)) ≤ 0 → ∀ v6 : Int32, v6 = (y2 + 1) → bX11_unlike_31 x1 Q L4 M v6 y3))))
def pX11_unlike (M : Mem) (x1 : Int32) (Q : Int32 → Mem → Prop) : Prop :=
  ∃ n : Nat, lp (fun L s => bX11_unlike_4 x1 Q L s.1 s.2.1 s.2.2) n (M, 0, 0)
set_option maxRecDepth 100000 in
set_option maxHeartbeats 400000 in
theorem wX11_unlike_31 {Γ : Gam} {G : Gm} {Qf : State → Prop} (hG : Gd G) (C : Cx Γ G cX11_unlike 4 RX11 (some .int) rmX11_unlike) {x1 : Int32} {Q : Int32 → Mem → Prop} (E : EndI Γ G Qf rmX11_unlike Q) {L4 : Mem × Int32 × Int32 → Prop} (hL4 : ∀ s, L4 s → X Γ G Qf 4 0 0 4 [(0, .ref (ga G 11 0)), (1, .int x1), (2, .int s.2.1), (3, .int s.2.2)] [] s.1) (M : Mem) (y2 : Int32) (y3 : Int32) (h : bX11_unlike_31 x1 Q L4 M y2 y3) : X Γ G Qf 4 0 0 31 [(0, .ref (ga G 11 0)), (1, .int x1), (2, .int y2), (3, .int y3)] [] M := by
  unfold bX11_unlike_31 at h
  obtain ⟨v7, ev7⟩ : ∃ z : Int32, z = y3 + 1 := ⟨_, rfl⟩
  replace h := h v7 ev7
  refine x_iinc (v := v7) (lv' := [(3, .int v7), (0, .ref (ga G 11 0)), (1, .int x1), (2, .int y2)]) (j := 3) C dX11_unlike_31 rfl (by rw [ev7]; rfl) (Nat.le_of_ble_eq_true rfl) rfl ?_
  refine x_goto (tgt := 4) C dX11_unlike_34 (by decide) ?_
  refine X_sub (lv' := [(0, .ref (ga G 11 0)), (1, .int x1), (2, .int y2), (3, .int v7)]) [1, 2, 3, 0] rfl ?_
  have w9 := hL4 (M, y2, v7) h
  dsimp only at w9
  exact w9
set_option maxRecDepth 100000 in
set_option maxHeartbeats 400000 in
theorem wX11_unlike_4 {Γ : Gam} {G : Gm} {Qf : State → Prop} (hG : Gd G) (C : Cx Γ G cX11_unlike 4 RX11 (some .int) rmX11_unlike) {x1 : Int32} {Q : Int32 → Mem → Prop} (E : EndI Γ G Qf rmX11_unlike Q) {L4 : Mem × Int32 × Int32 → Prop} (hL4 : ∀ s, L4 s → X Γ G Qf 4 0 0 4 [(0, .ref (ga G 11 0)), (1, .int x1), (2, .int s.2.1), (3, .int s.2.2)] [] s.1) (M : Mem) (y2 : Int32) (y3 : Int32) (h : bX11_unlike_4 x1 Q L4 M y2 y3) : X Γ G Qf 4 0 0 4 [(0, .ref (ga G 11 0)), (1, .int x1), (2, .int y2), (3, .int y3)] [] M := by
  unfold bX11_unlike_4 at h
  refine x_iload_n C dX11_unlike_4 3 rfl ?_
  refine x_aload_n C dX11_unlike_5 0 rfl ?_
  refine gf_11_10 C q155 z11 dX11_unlike_6 ?_
  refine x_icmp_ge (tgt := 37) C dX11_unlike_9 (by decide) (fun c1 => ?_) (fun c1 => ?_)
  · replace h := h.1 c1
    refine x_iload_n C dX11_unlike_37 2 rfl ?_
    exact x_iret C E h (Nat.le_of_ble_eq_true rfl) (Nat.le_of_ble_eq_true rfl) dX11_unlike_38
  · replace h := h.2 c1
    refine x_iload_n C dX11_unlike_12 2 rfl ?_
    refine x_aload_n C dX11_unlike_13 0 rfl ?_
    refine gf_11_17 C q163 z11 dX11_unlike_14 ?_
    refine x_iload_n C dX11_unlike_17 3 rfl ?_
    obtain ⟨f2, h⟩ := h
    refine al_1217 C z1217 f2 dX11_unlike_18 ?_
    refine x_iload_n C dX11_unlike_19 1 rfl ?_
    obtain ⟨f3, h⟩ := h
    refine al_6217 C (vp_lt f2) f3 dX11_unlike_20 ?_
    refine x_if_le (tgt := 28) C dX11_unlike_21 (by decide) (fun c4 => ?_) (fun c4 => ?_)
    · replace h := h.1 c4
      refine x_iconst (v := 0) C dX11_unlike_28 rfl ?_
      refine x_iadd C dX11_unlike_29 ?_
      refine X_name (fun v5 ev5 => ?_)
      replace h := h v5 ev5
      refine x_istore_n (lv' := [(2, .int v5), (0, .ref (ga G 11 0)), (1, .int x1), (3, .int y3)]) C dX11_unlike_30 rfl (Nat.le_of_ble_eq_true rfl) rfl ?_
      refine X_sub (lv' := [(0, .ref (ga G 11 0)), (1, .int x1), (2, .int v5), (3, .int y3)]) [1, 2, 0, 3] rfl ?_
      exact wX11_unlike_31 hG C E hL4 M v5 y3 h
    · replace h := h.2 c4
      refine x_iconst (v := 1) C dX11_unlike_24 rfl ?_
      refine x_goto (tgt := 29) C dX11_unlike_25 (by decide) ?_
      refine x_iadd C dX11_unlike_29 ?_
      refine X_name (fun v6 ev6 => ?_)
      replace h := h v6 ev6
      refine x_istore_n (lv' := [(2, .int v6), (0, .ref (ga G 11 0)), (1, .int x1), (3, .int y3)]) C dX11_unlike_30 rfl (Nat.le_of_ble_eq_true rfl) rfl ?_
      refine X_sub (lv' := [(0, .ref (ga G 11 0)), (1, .int x1), (2, .int v6), (3, .int y3)]) [1, 2, 0, 3] rfl ?_
      exact wX11_unlike_31 hG C E hL4 M v6 y3 h
set_option maxRecDepth 100000 in
set_option maxHeartbeats 400000 in
theorem kX11_unlike {l : Launch} {G : Gm} (hG : Gd G) (M : Mem) (x1 : Int32) {Q : Int32 → Mem → Prop} (h : pX11_unlike M x1 Q) : Cti l G yX11_unlike cX11_unlike 4 .int rmX11_unlike [.ref (ga G 11 0), .int x1] M Q := by
  refine cti_of (own := RX11) (by decide +kernel) rfl (Nat.le_of_ble_eq_true rfl) hG (fun Γ Qf hl C E => ?_)
  subst hl
  show X Γ G Qf 4 0 0 0 [(0, .ref (ga G 11 0)), (1, .int x1)] [] M
  unfold pX11_unlike at h
  refine x_iconst (v := 0) C dX11_unlike_0 rfl ?_
  refine x_istore_n (lv' := [(2, .int 0), (0, .ref (ga G 11 0)), (1, .int x1)]) C dX11_unlike_1 rfl (Nat.le_of_ble_eq_true rfl) rfl ?_
  refine x_iconst (v := 0) C dX11_unlike_2 rfl ?_
  refine x_istore_n (lv' := [(3, .int 0), (2, .int 0), (0, .ref (ga G 11 0)), (1, .int x1)]) C dX11_unlike_3 rfl (Nat.le_of_ble_eq_true rfl) rfl ?_
  obtain ⟨n9, h⟩ := h
  refine X_sub (lv' := [(0, .ref (ga G 11 0)), (1, .int x1), (2, .int 0), (3, .int 0)]) [2, 3, 1, 0] rfl ?_
  have hb : ∀ (L : Mem × Int32 × Int32 → Prop) (s : Mem × Int32 × Int32), (∀ t, L t → X Γ G Qf 4 0 0 4 [(0, .ref (ga G 11 0)), (1, .int x1), (2, .int t.2.1), (3, .int t.2.2)] [] t.1) → bX11_unlike_4 x1 Q L s.1 s.2.1 s.2.2 → X Γ G Qf 4 0 0 4 [(0, .ref (ga G 11 0)), (1, .int x1), (2, .int s.2.1), (3, .int s.2.2)] [] s.1 := fun L s hL h => wX11_unlike_4 hG C E hL s.1 s.2.1 s.2.2 h
  have w9 := lp_walk (P := fun s : Mem × Int32 × Int32 => X Γ G Qf 4 0 0 4 [(0, .ref (ga G 11 0)), (1, .int x1), (2, .int s.2.1), (3, .int s.2.2)] [] s.1) h hb
  dsimp only at w9
  exact w9
def rmX11_mostOften : Room := { frames := 0, cells := 0, slots := 0, locals := 0 }
def bX11_mostOften_37 (x1 : Int32) (Q : Int32 → Mem → Prop) (L4 : Mem × Int32 × Int32 → Prop) (M : Mem) (y2 : Int32) (y3 : Int32) : Prop :=
  ∀ v6 : Int32, v6 = y3 + 1 → L4 (M, y2, v6)
def bX11_mostOften_4 (x1 : Int32) (Q : Int32 → Mem → Prop) (L4 : Mem × Int32 × Int32 → Prop) (M : Mem) (y2 : Int32) (y3 : Int32) : Prop :=
  (((M.1 1210 0 0) ≤ y3 → Q y2 M) ∧ (¬ (M.1 1210 0 0) ≤ y3 → vp_in y3 256 ∧ vp_in x1 64 ∧ vp_in y2 256 ∧ (((M.1 6217 (tn y3) (tn x1)) ≤ (M.1 6217 (tn y2) (tn x1)) → bX11_mostOften_37 x1 Q L4 M y2 y3) ∧ (¬ (M.1 6217 (tn y3) (tn x1)) ≤ (M.1 6217 (tn y2) (tn x1)) → bX11_mostOften_37 x1 Q L4 M y3 y3))))
def pX11_mostOften (M : Mem) (x1 : Int32) (Q : Int32 → Mem → Prop) : Prop :=
  ∃ n : Nat, lp (fun L s => bX11_mostOften_4 x1 Q L s.1 s.2.1 s.2.2) n (M, 0, 1)
set_option maxRecDepth 100000 in
set_option maxHeartbeats 400000 in
theorem wX11_mostOften_37 {Γ : Gam} {G : Gm} {Qf : State → Prop} (hG : Gd G) (C : Cx Γ G cX11_mostOften 4 RX11 (some .int) rmX11_mostOften) {x1 : Int32} {Q : Int32 → Mem → Prop} (E : EndI Γ G Qf rmX11_mostOften Q) {L4 : Mem × Int32 × Int32 → Prop} (hL4 : ∀ s, L4 s → X Γ G Qf 4 0 0 4 [(0, .ref (ga G 11 0)), (1, .int x1), (2, .int s.2.1), (3, .int s.2.2)] [] s.1) (M : Mem) (y2 : Int32) (y3 : Int32) (h : bX11_mostOften_37 x1 Q L4 M y2 y3) : X Γ G Qf 4 0 0 37 [(0, .ref (ga G 11 0)), (1, .int x1), (2, .int y2), (3, .int y3)] [] M := by
  unfold bX11_mostOften_37 at h
  obtain ⟨v6, ev6⟩ : ∃ z : Int32, z = y3 + 1 := ⟨_, rfl⟩
  replace h := h v6 ev6
  refine x_iinc (v := v6) (lv' := [(3, .int v6), (0, .ref (ga G 11 0)), (1, .int x1), (2, .int y2)]) (j := 3) C dX11_mostOften_37 rfl (by rw [ev6]; rfl) (Nat.le_of_ble_eq_true rfl) rfl ?_
  refine x_goto (tgt := 4) C dX11_mostOften_40 (by decide) ?_
  refine X_sub (lv' := [(0, .ref (ga G 11 0)), (1, .int x1), (2, .int y2), (3, .int v6)]) [1, 2, 3, 0] rfl ?_
  have w9 := hL4 (M, y2, v6) h
  dsimp only at w9
  exact w9
set_option maxRecDepth 100000 in
set_option maxHeartbeats 400000 in
theorem wX11_mostOften_4 {Γ : Gam} {G : Gm} {Qf : State → Prop} (hG : Gd G) (C : Cx Γ G cX11_mostOften 4 RX11 (some .int) rmX11_mostOften) {x1 : Int32} {Q : Int32 → Mem → Prop} (E : EndI Γ G Qf rmX11_mostOften Q) {L4 : Mem × Int32 × Int32 → Prop} (hL4 : ∀ s, L4 s → X Γ G Qf 4 0 0 4 [(0, .ref (ga G 11 0)), (1, .int x1), (2, .int s.2.1), (3, .int s.2.2)] [] s.1) (M : Mem) (y2 : Int32) (y3 : Int32) (h : bX11_mostOften_4 x1 Q L4 M y2 y3) : X Γ G Qf 4 0 0 4 [(0, .ref (ga G 11 0)), (1, .int x1), (2, .int y2), (3, .int y3)] [] M := by
  unfold bX11_mostOften_4 at h
  refine x_iload_n C dX11_mostOften_4 3 rfl ?_
  refine x_aload_n C dX11_mostOften_5 0 rfl ?_
  refine gf_11_10 C q155 z11 dX11_mostOften_6 ?_
  refine x_icmp_ge (tgt := 43) C dX11_mostOften_9 (by decide) (fun c1 => ?_) (fun c1 => ?_)
  · replace h := h.1 c1
    refine x_iload_n C dX11_mostOften_43 2 rfl ?_
    exact x_iret C E h (Nat.le_of_ble_eq_true rfl) (Nat.le_of_ble_eq_true rfl) dX11_mostOften_44
  · replace h := h.2 c1
    refine x_aload_n C dX11_mostOften_12 0 rfl ?_
    refine gf_11_17 C q163 z11 dX11_mostOften_13 ?_
    refine x_iload_n C dX11_mostOften_16 3 rfl ?_
    obtain ⟨f2, h⟩ := h
    refine al_1217 C z1217 f2 dX11_mostOften_17 ?_
    refine x_iload_n C dX11_mostOften_18 1 rfl ?_
    obtain ⟨f3, h⟩ := h
    refine al_6217 C (vp_lt f2) f3 dX11_mostOften_19 ?_
    refine x_aload_n C dX11_mostOften_20 0 rfl ?_
    refine gf_11_17 C q163 z11 dX11_mostOften_21 ?_
    refine x_iload_n C dX11_mostOften_24 2 rfl ?_
    obtain ⟨f4, h⟩ := h
    refine al_1217 C z1217 f4 dX11_mostOften_25 ?_
    refine x_iload_n C dX11_mostOften_26 1 rfl ?_
    refine al_6217 C (vp_lt f4) f3 dX11_mostOften_27 ?_
    refine x_icmp_le (tgt := 35) C dX11_mostOften_28 (by decide) (fun c5 => ?_) (fun c5 => ?_)
    · replace h := h.1 c5
      refine x_iload_n C dX11_mostOften_35 2 rfl ?_
      refine x_istore_n (lv' := [(2, .int y2), (0, .ref (ga G 11 0)), (1, .int x1), (3, .int y3)]) C dX11_mostOften_36 rfl (Nat.le_of_ble_eq_true rfl) rfl ?_
      refine X_sub (lv' := [(0, .ref (ga G 11 0)), (1, .int x1), (2, .int y2), (3, .int y3)]) [1, 2, 0, 3] rfl ?_
      exact wX11_mostOften_37 hG C E hL4 M y2 y3 h
    · replace h := h.2 c5
      refine x_iload_n C dX11_mostOften_31 3 rfl ?_
      refine x_goto (tgt := 36) C dX11_mostOften_32 (by decide) ?_
      refine x_istore_n (lv' := [(2, .int y3), (0, .ref (ga G 11 0)), (1, .int x1), (3, .int y3)]) C dX11_mostOften_36 rfl (Nat.le_of_ble_eq_true rfl) rfl ?_
      refine X_sub (lv' := [(0, .ref (ga G 11 0)), (1, .int x1), (2, .int y3), (3, .int y3)]) [1, 2, 0, 3] rfl ?_
      exact wX11_mostOften_37 hG C E hL4 M y3 y3 h
set_option maxRecDepth 100000 in
set_option maxHeartbeats 400000 in
theorem kX11_mostOften {l : Launch} {G : Gm} (hG : Gd G) (M : Mem) (x1 : Int32) {Q : Int32 → Mem → Prop} (h : pX11_mostOften M x1 Q) : Cti l G yX11_mostOften cX11_mostOften 4 .int rmX11_mostOften [.ref (ga G 11 0), .int x1] M Q := by
  refine cti_of (own := RX11) (by decide +kernel) rfl (Nat.le_of_ble_eq_true rfl) hG (fun Γ Qf hl C E => ?_)
  subst hl
  show X Γ G Qf 4 0 0 0 [(0, .ref (ga G 11 0)), (1, .int x1)] [] M
  unfold pX11_mostOften at h
  refine x_iconst (v := 0) C dX11_mostOften_0 rfl ?_
  refine x_istore_n (lv' := [(2, .int 0), (0, .ref (ga G 11 0)), (1, .int x1)]) C dX11_mostOften_1 rfl (Nat.le_of_ble_eq_true rfl) rfl ?_
  refine x_iconst (v := 1) C dX11_mostOften_2 rfl ?_
  refine x_istore_n (lv' := [(3, .int 1), (2, .int 0), (0, .ref (ga G 11 0)), (1, .int x1)]) C dX11_mostOften_3 rfl (Nat.le_of_ble_eq_true rfl) rfl ?_
  obtain ⟨n9, h⟩ := h
  refine X_sub (lv' := [(0, .ref (ga G 11 0)), (1, .int x1), (2, .int 0), (3, .int 1)]) [2, 3, 1, 0] rfl ?_
  have hb : ∀ (L : Mem × Int32 × Int32 → Prop) (s : Mem × Int32 × Int32), (∀ t, L t → X Γ G Qf 4 0 0 4 [(0, .ref (ga G 11 0)), (1, .int x1), (2, .int t.2.1), (3, .int t.2.2)] [] t.1) → bX11_mostOften_4 x1 Q L s.1 s.2.1 s.2.2 → X Γ G Qf 4 0 0 4 [(0, .ref (ga G 11 0)), (1, .int x1), (2, .int s.2.1), (3, .int s.2.2)] [] s.1 := fun L s hL h => wX11_mostOften_4 hG C E hL s.1 s.2.1 s.2.2 h
  have w9 := lp_walk (P := fun s : Mem × Int32 × Int32 => X Γ G Qf 4 0 0 4 [(0, .ref (ga G 11 0)), (1, .int x1), (2, .int s.2.1), (3, .int s.2.2)] [] s.1) h hb
  dsimp only at w9
  exact w9
