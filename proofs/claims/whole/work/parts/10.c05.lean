def rmX2_spared : Room := { frames := 0, cells := 0, slots := 0, locals := 0 }
def bX2_spared_47 (Q : Int32 → Mem → Prop) (L4 : Mem × Int32 × Int32 → Prop) (L17 : Mem × Int32 × Int32 × Int32 → Prop) (M : Mem) (y1 : Int32) (y2 : Int32) (y3 : Int32) : Prop :=
  ∀ v8 : Int32, v8 = y3 + 1 → L17 (M, y1, y2, v8)
def bX2_spared_17 (Q : Int32 → Mem → Prop) (L4 : Mem × Int32 × Int32 → Prop) (L17 : Mem × Int32 × Int32 × Int32 → Prop) (M : Mem) (y1 : Int32) (y2 : Int32) (y3 : Int32) : Prop :=
  vp_in y2 24 ∧ (((M.1 109 (tn y2) 0) ≤ y3 → ∀ v4 : Int32, v4 = y2 + 1 → L4 (M, y1, v4)) ∧ (¬ (M.1 109 (tn y2) 0) ≤ y3 → vp_in y3 32 ∧ ((¬ (M.1 105 (tn y2) (tn y3)) = 0 → bX2_spared_47 Q L4 L17 M y1 y2 y3) ∧ ((M.1 105 (tn y2) (tn y3)) = 0 → ∀ v7 : Int32, v7 = y1 + 1 → bX2_spared_47 Q L4 L17 M v7 y2 y3))))
def bX2_spared_4 (Q : Int32 → Mem → Prop) (L4 : Mem × Int32 × Int32 → Prop) (M : Mem) (y1 : Int32) (y2 : Int32) : Prop :=
  (((M.1 701 0 0) ≤ y2 → Q y1 M) ∧ (¬ (M.1 701 0 0) ≤ y2 → ∃ n : Nat, lp (fun L s => bX2_spared_17 Q L4 L s.1 s.2.1 s.2.2.1 s.2.2.2) n (M, y1, y2, 0)))
def pX2_spared (M : Mem) (Q : Int32 → Mem → Prop) : Prop :=
  ∃ n : Nat, lp (fun L s => bX2_spared_4 Q L s.1 s.2.1 s.2.2) n (M, 0, 0)
set_option maxRecDepth 100000 in
set_option maxHeartbeats 400000 in
theorem wX2_spared_47 {Γ : Gam} {G : Gm} {Qf : State → Prop} (hG : Gd G) (C : Cx Γ G cX2_spared 4 RX2 (some .int) rmX2_spared)  {Q : Int32 → Mem → Prop} (E : EndI Γ G Qf rmX2_spared Q) {L4 : Mem × Int32 × Int32 → Prop} (hL4 : ∀ s, L4 s → X Γ G Qf 4 0 0 4 [(0, .ref (ga G 2 0)), (1, .int s.2.1), (2, .int s.2.2)] [] s.1) {L17 : Mem × Int32 × Int32 × Int32 → Prop} (hL17 : ∀ s, L17 s → X Γ G Qf 4 0 0 17 [(0, .ref (ga G 2 0)), (1, .int s.2.1), (2, .int s.2.2.1), (3, .int s.2.2.2)] [] s.1) (M : Mem) (y1 : Int32) (y2 : Int32) (y3 : Int32) (h : bX2_spared_47 Q L4 L17 M y1 y2 y3) : X Γ G Qf 4 0 0 47 [(0, .ref (ga G 2 0)), (1, .int y1), (2, .int y2), (3, .int y3)] [] M := by
  unfold bX2_spared_47 at h
  obtain ⟨v8, ev8⟩ : ∃ z : Int32, z = y3 + 1 := ⟨_, rfl⟩
  replace h := h v8 ev8
  refine x_iinc (v := v8) (lv' := [(3, .int v8), (0, .ref (ga G 2 0)), (1, .int y1), (2, .int y2)]) (j := 3) C dX2_spared_47 rfl (by rw [ev8]; rfl) (Nat.le_of_ble_eq_true rfl) rfl ?_
  refine x_goto (tgt := 17) C dX2_spared_50 (by decide) ?_
  refine X_sub (lv' := [(0, .ref (ga G 2 0)), (1, .int y1), (2, .int y2), (3, .int v8)]) [1, 2, 3, 0] rfl ?_
  have w9 := hL17 (M, y1, y2, v8) h
  dsimp only at w9
  exact w9
set_option maxRecDepth 100000 in
set_option maxHeartbeats 400000 in
theorem wX2_spared_17 {Γ : Gam} {G : Gm} {Qf : State → Prop} (hG : Gd G) (C : Cx Γ G cX2_spared 4 RX2 (some .int) rmX2_spared)  {Q : Int32 → Mem → Prop} (E : EndI Γ G Qf rmX2_spared Q) {L4 : Mem × Int32 × Int32 → Prop} (hL4 : ∀ s, L4 s → X Γ G Qf 4 0 0 4 [(0, .ref (ga G 2 0)), (1, .int s.2.1), (2, .int s.2.2)] [] s.1) {L17 : Mem × Int32 × Int32 × Int32 → Prop} (hL17 : ∀ s, L17 s → X Γ G Qf 4 0 0 17 [(0, .ref (ga G 2 0)), (1, .int s.2.1), (2, .int s.2.2.1), (3, .int s.2.2.2)] [] s.1) (M : Mem) (y1 : Int32) (y2 : Int32) (y3 : Int32) (h : bX2_spared_17 Q L4 L17 M y1 y2 y3) : X Γ G Qf 4 0 0 17 [(0, .ref (ga G 2 0)), (1, .int y1), (2, .int y2), (3, .int y3)] [] M := by
  unfold bX2_spared_17 at h
  refine x_iload_n C dX2_spared_17 3 rfl ?_
  refine x_aload_n C dX2_spared_18 0 rfl ?_
  refine gf_2_2 C q50 z2 dX2_spared_19 ?_
  refine x_iload_n C dX2_spared_22 2 rfl ?_
  obtain ⟨f2, h⟩ := h
  refine al_302 C z302 f2 dX2_spared_23 ?_
  refine gf_0_9 C q89 (vp_lt f2) dX2_spared_24 ?_
  refine x_icmp_ge (tgt := 53) C dX2_spared_27 (by decide) (fun c3 => ?_) (fun c3 => ?_)
  · replace h := h.1 c3
    obtain ⟨v4, ev4⟩ : ∃ z : Int32, z = y2 + 1 := ⟨_, rfl⟩
    replace h := h v4 ev4
    refine x_iinc (v := v4) (lv' := [(2, .int v4), (0, .ref (ga G 2 0)), (1, .int y1), (3, .int y3)]) (j := 2) C dX2_spared_53 rfl (by rw [ev4]; rfl) (Nat.le_of_ble_eq_true rfl) rfl ?_
    refine x_goto (tgt := 4) C dX2_spared_56 (by decide) ?_
    refine X_sub (lv' := [(0, .ref (ga G 2 0)), (1, .int y1), (2, .int v4)]) [1, 2, 0] rfl ?_
    have w9 := hL4 (M, y1, v4) h
    dsimp only at w9
    exact w9
  · replace h := h.2 c3
    refine x_aload_n C dX2_spared_30 0 rfl ?_
    refine gf_2_2 C q50 z2 dX2_spared_31 ?_
    refine x_iload_n C dX2_spared_34 2 rfl ?_
    refine al_302 C z302 f2 dX2_spared_35 ?_
    refine gf_0_5 C q90 (vp_lt f2) dX2_spared_36 ?_
    refine x_iload_n C dX2_spared_39 3 rfl ?_
    obtain ⟨f5, h⟩ := h
    refine al_105 C (vp_lt f2) f5 dX2_spared_40 ?_
    refine x_if_ne (tgt := 47) C dX2_spared_41 (by decide) (fun c6 => ?_) (fun c6 => ?_)
    · replace h := h.1 c6
      refine X_sub (lv' := [(0, .ref (ga G 2 0)), (1, .int y1), (2, .int y2), (3, .int y3)]) [0, 1, 2, 3] rfl ?_
      exact wX2_spared_47 hG C E hL4 hL17 M y1 y2 y3 h
    · replace h := h.2 c6
      obtain ⟨v7, ev7⟩ : ∃ z : Int32, z = y1 + 1 := ⟨_, rfl⟩
      replace h := h v7 ev7
      refine x_iinc (v := v7) (lv' := [(1, .int v7), (0, .ref (ga G 2 0)), (2, .int y2), (3, .int y3)]) (j := 1) C dX2_spared_44 rfl (by rw [ev7]; rfl) (Nat.le_of_ble_eq_true rfl) rfl ?_
      refine X_sub (lv' := [(0, .ref (ga G 2 0)), (1, .int v7), (2, .int y2), (3, .int y3)]) [1, 0, 2, 3] rfl ?_
      exact wX2_spared_47 hG C E hL4 hL17 M v7 y2 y3 h
set_option maxRecDepth 100000 in
set_option maxHeartbeats 400000 in
theorem wX2_spared_4 {Γ : Gam} {G : Gm} {Qf : State → Prop} (hG : Gd G) (C : Cx Γ G cX2_spared 4 RX2 (some .int) rmX2_spared)  {Q : Int32 → Mem → Prop} (E : EndI Γ G Qf rmX2_spared Q) {L4 : Mem × Int32 × Int32 → Prop} (hL4 : ∀ s, L4 s → X Γ G Qf 4 0 0 4 [(0, .ref (ga G 2 0)), (1, .int s.2.1), (2, .int s.2.2)] [] s.1) (M : Mem) (y1 : Int32) (y2 : Int32) (h : bX2_spared_4 Q L4 M y1 y2) : X Γ G Qf 4 0 0 4 [(0, .ref (ga G 2 0)), (1, .int y1), (2, .int y2)] [] M := by
  unfold bX2_spared_4 at h
  refine x_iload_n C dX2_spared_4 2 rfl ?_
  refine x_aload_n C dX2_spared_5 0 rfl ?_
  refine gf_2_0 C q48 z2 dX2_spared_6 ?_
  refine gf_6_1 C q49 z6 dX2_spared_9 ?_
  refine x_icmp_ge (tgt := 59) C dX2_spared_12 (by decide) (fun c1 => ?_) (fun c1 => ?_)
  · replace h := h.1 c1
    refine x_iload_n C dX2_spared_59 1 rfl ?_
    exact x_iret C E h (Nat.le_of_ble_eq_true rfl) (Nat.le_of_ble_eq_true rfl) dX2_spared_60
  · replace h := h.2 c1
    refine x_iconst (v := 0) C dX2_spared_15 rfl ?_
    refine x_istore_n (lv' := [(3, .int 0), (0, .ref (ga G 2 0)), (1, .int y1), (2, .int y2)]) C dX2_spared_16 rfl (Nat.le_of_ble_eq_true rfl) rfl ?_
    obtain ⟨n9, h⟩ := h
    refine X_sub (lv' := [(0, .ref (ga G 2 0)), (1, .int y1), (2, .int y2), (3, .int 0)]) [1, 2, 3, 0] rfl ?_
    have hb : ∀ (L : Mem × Int32 × Int32 × Int32 → Prop) (s : Mem × Int32 × Int32 × Int32), (∀ t, L t → X Γ G Qf 4 0 0 17 [(0, .ref (ga G 2 0)), (1, .int t.2.1), (2, .int t.2.2.1), (3, .int t.2.2.2)] [] t.1) → bX2_spared_17 Q L4 L s.1 s.2.1 s.2.2.1 s.2.2.2 → X Γ G Qf 4 0 0 17 [(0, .ref (ga G 2 0)), (1, .int s.2.1), (2, .int s.2.2.1), (3, .int s.2.2.2)] [] s.1 := fun L s hL h => wX2_spared_17 hG C E hL4 hL s.1 s.2.1 s.2.2.1 s.2.2.2 h
    have w9 := lp_walk (P := fun s : Mem × Int32 × Int32 × Int32 => X Γ G Qf 4 0 0 17 [(0, .ref (ga G 2 0)), (1, .int s.2.1), (2, .int s.2.2.1), (3, .int s.2.2.2)] [] s.1) h hb
    dsimp only at w9
    exact w9
set_option maxRecDepth 100000 in
set_option maxHeartbeats 400000 in
theorem kX2_spared {l : Launch} {G : Gm} (hG : Gd G) (M : Mem)  {Q : Int32 → Mem → Prop} (h : pX2_spared M Q) : Cti l G yX2_spared cX2_spared 4 .int rmX2_spared [.ref (ga G 2 0)] M Q := by
  refine cti_of (own := RX2) (by decide +kernel) rfl (Nat.le_of_ble_eq_true rfl) hG (fun Γ Qf hl C E => ?_)
  subst hl
  show X Γ G Qf 4 0 0 0 [(0, .ref (ga G 2 0))] [] M
  unfold pX2_spared at h
  refine x_iconst (v := 0) C dX2_spared_0 rfl ?_
  refine x_istore_n (lv' := [(1, .int 0), (0, .ref (ga G 2 0))]) C dX2_spared_1 rfl (Nat.le_of_ble_eq_true rfl) rfl ?_
  refine x_iconst (v := 0) C dX2_spared_2 rfl ?_
  refine x_istore_n (lv' := [(2, .int 0), (1, .int 0), (0, .ref (ga G 2 0))]) C dX2_spared_3 rfl (Nat.le_of_ble_eq_true rfl) rfl ?_
  obtain ⟨n9, h⟩ := h
  refine X_sub (lv' := [(0, .ref (ga G 2 0)), (1, .int 0), (2, .int 0)]) [2, 1, 0] rfl ?_
  have hb : ∀ (L : Mem × Int32 × Int32 → Prop) (s : Mem × Int32 × Int32), (∀ t, L t → X Γ G Qf 4 0 0 4 [(0, .ref (ga G 2 0)), (1, .int t.2.1), (2, .int t.2.2)] [] t.1) → bX2_spared_4 Q L s.1 s.2.1 s.2.2 → X Γ G Qf 4 0 0 4 [(0, .ref (ga G 2 0)), (1, .int s.2.1), (2, .int s.2.2)] [] s.1 := fun L s hL h => wX2_spared_4 hG C E hL s.1 s.2.1 s.2.2 h
  have w9 := lp_walk (P := fun s : Mem × Int32 × Int32 => X Γ G Qf 4 0 0 4 [(0, .ref (ga G 2 0)), (1, .int s.2.1), (2, .int s.2.2)] [] s.1) h hb
  dsimp only at w9
  exact w9
def rmX3_hasAllScored : Room := { frames := 1, cells := 0, slots := 0, locals := 22 }
def bX3_hasAllScored_2 (x1 : Int32) (Q : Int32 → Mem → Prop) (L2 : Mem × Int32 → Prop) (M : Mem) (y2 : Int32) : Prop :=
  (((M.1 701 0 0) ≤ y2 → (((M.1 701 0 0) ≤ 0 → Q 0 M) ∧ (¬ (M.1 701 0 0) ≤ 0 → Q 1 M))) ∧ (¬ (M.1 701 0 0) ≤ y2 → vp_in y2 24 ∧ pX3_hasWord M x1 (M.1 702 0 (tn y2)) (fun r4 M5 => ((¬ r4 = 0 → ∀ v7 : Int32, v7 = y2 + 1 → L2 (M5, v7)) ∧ (r4 = 0 → Q 0 M5)))))
def pX3_hasAllScored (M : Mem) (x1 : Int32) (Q : Int32 → Mem → Prop) : Prop :=
  ∃ n : Nat, lp (fun L s => bX3_hasAllScored_2 x1 Q L s.1 s.2) n (M, 0)
set_option maxRecDepth 100000 in
set_option maxHeartbeats 400000 in
theorem wX3_hasAllScored_2 {Γ : Gam} {G : Gm} {Qf : State → Prop} (hG : Gd G) (C : Cx Γ G cX3_hasAllScored 3 RX3 (some .boolean) rmX3_hasAllScored) {x1 : Int32} {Q : Int32 → Mem → Prop} (E : EndI Γ G Qf rmX3_hasAllScored Q) {L2 : Mem × Int32 → Prop} (hL2 : ∀ s, L2 s → X Γ G Qf 3 0 0 2 [(0, .ref (ga G 3 0)), (1, .int x1), (2, .int s.2)] [] s.1) (M : Mem) (y2 : Int32) (h : bX3_hasAllScored_2 x1 Q L2 M y2) : X Γ G Qf 3 0 0 2 [(0, .ref (ga G 3 0)), (1, .int x1), (2, .int y2)] [] M := by
  unfold bX3_hasAllScored_2 at h
  refine x_iload_n C dX3_hasAllScored_2 2 rfl ?_
  refine x_aload_n C dX3_hasAllScored_3 0 rfl ?_
  refine gf_3_1 C q66 z3 dX3_hasAllScored_4 ?_
  refine gf_6_1 C q67 z6 dX3_hasAllScored_7 ?_
  refine x_icmp_ge (tgt := 38) C dX3_hasAllScored_10 (by decide) (fun c1 => ?_) (fun c1 => ?_)
  · replace h := h.1 c1
    refine x_aload_n C dX3_hasAllScored_38 0 rfl ?_
    refine gf_3_1 C q66 z3 dX3_hasAllScored_39 ?_
    refine gf_6_1 C q67 z6 dX3_hasAllScored_42 ?_
    refine x_if_le (tgt := 52) C dX3_hasAllScored_45 (by decide) (fun c2 => ?_) (fun c2 => ?_)
    · replace h := h.1 c2
      refine x_iconst (v := 0) C dX3_hasAllScored_52 rfl ?_
      exact x_zret C E h rfl (Nat.le_of_ble_eq_true rfl) (Nat.le_of_ble_eq_true rfl) dX3_hasAllScored_53
    · replace h := h.2 c2
      refine x_iconst (v := 1) C dX3_hasAllScored_48 rfl ?_
      refine x_goto (tgt := 53) C dX3_hasAllScored_49 (by decide) ?_
      exact x_zret C E h rfl (Nat.le_of_ble_eq_true rfl) (Nat.le_of_ble_eq_true rfl) dX3_hasAllScored_53
  · replace h := h.2 c1
    refine x_aload_n C dX3_hasAllScored_13 0 rfl ?_
    refine x_iload_n C dX3_hasAllScored_14 1 rfl ?_
    refine x_aload_n C dX3_hasAllScored_15 0 rfl ?_
    refine gf_3_1 C q66 z3 dX3_hasAllScored_16 ?_
    refine gf_6_2 C q68 z6 dX3_hasAllScored_19 ?_
    refine x_iload_n C dX3_hasAllScored_22 2 rfl ?_
    obtain ⟨f3, h⟩ := h
    refine al_702 C z702 f3 dX3_hasAllScored_23 ?_
    refine x_calli (rest := []) C sv_X3_61 ob3 z3 (kX3_hasWord hG _ _ _ h) rfl rfl (Nat.le_of_ble_eq_true rfl) ⟨Nat.le_of_ble_eq_true rfl, Nat.le_of_ble_eq_true rfl⟩ rfl rfl ⟨Nat.le_of_ble_eq_true rfl, Nat.le_of_ble_eq_true rfl⟩ dX3_hasAllScored_24 (fun r4 M5 h => ?_)
    refine x_if_ne (tgt := 32) C dX3_hasAllScored_27 (by decide) (fun c6 => ?_) (fun c6 => ?_)
    · replace h := h.1 c6
      obtain ⟨v7, ev7⟩ : ∃ z : Int32, z = y2 + 1 := ⟨_, rfl⟩
      replace h := h v7 ev7
      refine x_iinc (v := v7) (lv' := [(2, .int v7), (0, .ref (ga G 3 0)), (1, .int x1)]) (j := 2) C dX3_hasAllScored_32 rfl (by rw [ev7]; rfl) (Nat.le_of_ble_eq_true rfl) rfl ?_
      refine x_goto (tgt := 2) C dX3_hasAllScored_35 (by decide) ?_
      refine X_sub (lv' := [(0, .ref (ga G 3 0)), (1, .int x1), (2, .int v7)]) [1, 2, 0] rfl ?_
      have w9 := hL2 (M5, v7) h
      dsimp only at w9
      exact w9
    · replace h := h.2 c6
      refine x_iconst (v := 0) C dX3_hasAllScored_30 rfl ?_
      exact x_zret C E h rfl (Nat.le_of_ble_eq_true rfl) (Nat.le_of_ble_eq_true rfl) dX3_hasAllScored_31
set_option maxRecDepth 100000 in
set_option maxHeartbeats 400000 in
theorem kX3_hasAllScored {l : Launch} {G : Gm} (hG : Gd G) (M : Mem) (x1 : Int32) {Q : Int32 → Mem → Prop} (h : pX3_hasAllScored M x1 Q) : Cti l G yX3_hasAllScored cX3_hasAllScored 3 .boolean rmX3_hasAllScored [.ref (ga G 3 0), .int x1] M Q := by
  refine cti_of (own := RX3) (by decide +kernel) rfl (Nat.le_of_ble_eq_true rfl) hG (fun Γ Qf hl C E => ?_)
  subst hl
  show X Γ G Qf 3 0 0 0 [(0, .ref (ga G 3 0)), (1, .int x1)] [] M
  unfold pX3_hasAllScored at h
  refine x_iconst (v := 0) C dX3_hasAllScored_0 rfl ?_
  refine x_istore_n (lv' := [(2, .int 0), (0, .ref (ga G 3 0)), (1, .int x1)]) C dX3_hasAllScored_1 rfl (Nat.le_of_ble_eq_true rfl) rfl ?_
  obtain ⟨n9, h⟩ := h
  refine X_sub (lv' := [(0, .ref (ga G 3 0)), (1, .int x1), (2, .int 0)]) [1, 2, 0] rfl ?_
  have hb : ∀ (L : Mem × Int32 → Prop) (s : Mem × Int32), (∀ t, L t → X Γ G Qf 3 0 0 2 [(0, .ref (ga G 3 0)), (1, .int x1), (2, .int t.2)] [] t.1) → bX3_hasAllScored_2 x1 Q L s.1 s.2 → X Γ G Qf 3 0 0 2 [(0, .ref (ga G 3 0)), (1, .int x1), (2, .int s.2)] [] s.1 := fun L s hL h => wX3_hasAllScored_2 hG C E hL s.1 s.2 h
  have w9 := lp_walk (P := fun s : Mem × Int32 => X Γ G Qf 3 0 0 2 [(0, .ref (ga G 3 0)), (1, .int x1), (2, .int s.2)] [] s.1) h hb
  dsimp only at w9
  exact w9
def rmX3_noteSeen : Room := { frames := 0, cells := 0, slots := 0, locals := 0 }
def bX3_noteSeen_33 (x1 : Int32) (x2 : Int32) (Q : Mem → Prop) (L2 : Mem × Int32 → Prop) (M : Mem) (y3 : Int32) : Prop :=
  ∀ v5 : Int32, v5 = y3 + 1 → L2 (M, v5)
def bX3_noteSeen_2 (x1 : Int32) (x2 : Int32) (Q : Mem → Prop) (L2 : Mem × Int32 → Prop) (M : Mem) (y3 : Int32) : Prop :=
  (((M.1 701 0 0) ≤ y3 → Q M) ∧ (¬ (M.1 701 0 0) ≤ y3 → vp_in y3 24 ∧ ((¬ (M.1 702 0 (tn y3)) = x1 → bX3_noteSeen_33 x1 x2 Q L2 M y3) ∧ ((M.1 702 0 (tn y3)) = x1 → ∀ M4 : Mem, M4 = up1 M 402 0 (tn y3) x2 → bX3_noteSeen_33 x1 x2 Q L2 M4 y3))))
def pX3_noteSeen (M : Mem) (x1 : Int32) (x2 : Int32) (Q : Mem → Prop) : Prop :=
  ∃ n : Nat, lp (fun L s => bX3_noteSeen_2 x1 x2 Q L s.1 s.2) n (M, 0)
set_option maxRecDepth 100000 in
set_option maxHeartbeats 400000 in
theorem wX3_noteSeen_33 {Γ : Gam} {G : Gm} {Qf : State → Prop} (hG : Gd G) (C : Cx Γ G cX3_noteSeen 4 RX3 none rmX3_noteSeen) {x1 : Int32} {x2 : Int32} {Q : Mem → Prop} (E : EndV Γ G Qf rmX3_noteSeen Q) {L2 : Mem × Int32 → Prop} (hL2 : ∀ s, L2 s → X Γ G Qf 4 0 0 2 [(0, .ref (ga G 3 0)), (1, .int x1), (2, .int x2), (3, .int s.2)] [] s.1) (M : Mem) (y3 : Int32) (h : bX3_noteSeen_33 x1 x2 Q L2 M y3) : X Γ G Qf 4 0 0 33 [(0, .ref (ga G 3 0)), (1, .int x1), (2, .int x2), (3, .int y3)] [] M := by
  unfold bX3_noteSeen_33 at h
  obtain ⟨v5, ev5⟩ : ∃ z : Int32, z = y3 + 1 := ⟨_, rfl⟩
  replace h := h v5 ev5
  refine x_iinc (v := v5) (lv' := [(3, .int v5), (0, .ref (ga G 3 0)), (1, .int x1), (2, .int x2)]) (j := 3) C dX3_noteSeen_33 rfl (by rw [ev5]; rfl) (Nat.le_of_ble_eq_true rfl) rfl ?_
  refine x_goto (tgt := 2) C dX3_noteSeen_36 (by decide) ?_
  refine X_sub (lv' := [(0, .ref (ga G 3 0)), (1, .int x1), (2, .int x2), (3, .int v5)]) [1, 2, 3, 0] rfl ?_
  have w9 := hL2 (M, v5) h
  dsimp only at w9
  exact w9
set_option maxRecDepth 100000 in
set_option maxHeartbeats 400000 in
theorem wX3_noteSeen_2 {Γ : Gam} {G : Gm} {Qf : State → Prop} (hG : Gd G) (C : Cx Γ G cX3_noteSeen 4 RX3 none rmX3_noteSeen) {x1 : Int32} {x2 : Int32} {Q : Mem → Prop} (E : EndV Γ G Qf rmX3_noteSeen Q) {L2 : Mem × Int32 → Prop} (hL2 : ∀ s, L2 s → X Γ G Qf 4 0 0 2 [(0, .ref (ga G 3 0)), (1, .int x1), (2, .int x2), (3, .int s.2)] [] s.1) (M : Mem) (y3 : Int32) (h : bX3_noteSeen_2 x1 x2 Q L2 M y3) : X Γ G Qf 4 0 0 2 [(0, .ref (ga G 3 0)), (1, .int x1), (2, .int x2), (3, .int y3)] [] M := by
  unfold bX3_noteSeen_2 at h
  refine x_iload_n C dX3_noteSeen_2 3 rfl ?_
  refine x_aload_n C dX3_noteSeen_3 0 rfl ?_
  refine gf_3_1 C q66 z3 dX3_noteSeen_4 ?_
  refine gf_6_1 C q67 z6 dX3_noteSeen_7 ?_
  refine x_icmp_ge (tgt := 39) C dX3_noteSeen_10 (by decide) (fun c1 => ?_) (fun c1 => ?_)
  · replace h := h.1 c1
    exact x_vret C E h (Nat.le_of_ble_eq_true rfl) (Nat.le_of_ble_eq_true rfl) dX3_noteSeen_39
  · replace h := h.2 c1
    refine x_aload_n C dX3_noteSeen_13 0 rfl ?_
    refine gf_3_1 C q66 z3 dX3_noteSeen_14 ?_
    refine gf_6_2 C q68 z6 dX3_noteSeen_17 ?_
    refine x_iload_n C dX3_noteSeen_20 3 rfl ?_
    obtain ⟨f2, h⟩ := h
    refine al_702 C z702 f2 dX3_noteSeen_21 ?_
    refine x_iload_n C dX3_noteSeen_22 1 rfl ?_
    refine x_icmp_ne (tgt := 33) C dX3_noteSeen_23 (by decide) (fun c3 => ?_) (fun c3 => ?_)
    · replace h := h.1 c3
      refine X_sub (lv' := [(0, .ref (ga G 3 0)), (1, .int x1), (2, .int x2), (3, .int y3)]) [0, 1, 2, 3] rfl ?_
      exact wX3_noteSeen_33 hG C E hL2 M y3 h
    · replace h := h.2 c3
      refine x_aload_n C dX3_noteSeen_26 0 rfl ?_
      refine gf_3_2 C q91 z3 dX3_noteSeen_27 ?_
      refine x_iload_n C dX3_noteSeen_30 3 rfl ?_
      refine x_iload_n C dX3_noteSeen_31 2 rfl ?_
      refine as_402 C z402 f2 dX3_noteSeen_32 ?_
      refine X_nameM (fun M4 eM4 => ?_)
      replace h := h M4 eM4
      refine X_sub (lv' := [(0, .ref (ga G 3 0)), (1, .int x1), (2, .int x2), (3, .int y3)]) [0, 1, 2, 3] rfl ?_
      exact wX3_noteSeen_33 hG C E hL2 M4 y3 h
set_option maxRecDepth 100000 in
set_option maxHeartbeats 400000 in
theorem kX3_noteSeen {l : Launch} {G : Gm} (hG : Gd G) (M : Mem) (x1 : Int32) (x2 : Int32) {Q : Mem → Prop} (h : pX3_noteSeen M x1 x2 Q) : Ctv l G yX3_noteSeen cX3_noteSeen 4 rmX3_noteSeen [.ref (ga G 3 0), .int x1, .int x2] M Q := by
  refine ctv_of (own := RX3) (by decide +kernel) rfl (Nat.le_of_ble_eq_true rfl) hG (fun Γ Qf hl C E => ?_)
  subst hl
  show X Γ G Qf 4 0 0 0 [(0, .ref (ga G 3 0)), (1, .int x1), (2, .int x2)] [] M
  unfold pX3_noteSeen at h
  refine x_iconst (v := 0) C dX3_noteSeen_0 rfl ?_
  refine x_istore_n (lv' := [(3, .int 0), (0, .ref (ga G 3 0)), (1, .int x1), (2, .int x2)]) C dX3_noteSeen_1 rfl (Nat.le_of_ble_eq_true rfl) rfl ?_
  obtain ⟨n9, h⟩ := h
  refine X_sub (lv' := [(0, .ref (ga G 3 0)), (1, .int x1), (2, .int x2), (3, .int 0)]) [1, 2, 3, 0] rfl ?_
  have hb : ∀ (L : Mem × Int32 → Prop) (s : Mem × Int32), (∀ t, L t → X Γ G Qf 4 0 0 2 [(0, .ref (ga G 3 0)), (1, .int x1), (2, .int x2), (3, .int t.2)] [] t.1) → bX3_noteSeen_2 x1 x2 Q L s.1 s.2 → X Γ G Qf 4 0 0 2 [(0, .ref (ga G 3 0)), (1, .int x1), (2, .int x2), (3, .int s.2)] [] s.1 := fun L s hL h => wX3_noteSeen_2 hG C E hL s.1 s.2 h
  have w9 := lp_walk (P := fun s : Mem × Int32 => X Γ G Qf 4 0 0 2 [(0, .ref (ga G 3 0)), (1, .int x1), (2, .int x2), (3, .int s.2)] [] s.1) h hb
  dsimp only at w9
  exact w9
def rmX3_longestAgo : Room := { frames := 1, cells := 0, slots := 0, locals := 22 }
def bX3_longestAgo_45 (x1 : Int32) (Q : Int32 → Mem → Prop) (L6 : Mem × Int32 × Int32 → Prop) (M : Mem) (y2 : Int32) (y3 : Int32) : Prop :=
  ∀ v8 : Int32, v8 = y3 + 1 → L6 (M, y2, v8)
def bX3_longestAgo_6 (x1 : Int32) (Q : Int32 → Mem → Prop) (L6 : Mem × Int32 × Int32 → Prop) (M : Mem) (y2 : Int32) (y3 : Int32) : Prop :=
  (((M.1 701 0 0) ≤ y3 → ((¬ y2 = 150 → Q y2 M) ∧ (y2 = 150 → Q (-1) M))) ∧ (¬ (M.1 701 0 0) ≤ y3 → vp_in y3 24 ∧ pX3_hasWord M x1 (M.1 702 0 (tn y3)) (fun r4 M5 => ((r4 = 0 → bX3_longestAgo_45 x1 Q L6 M5 y2 y3) ∧ (¬ r4 = 0 → ∀ v7 : Int32, v7 = (imin y2 (M5.1 402 0 (tn y3))) → bX3_longestAgo_45 x1 Q L6 M5 v7 y3)))))
def pX3_longestAgo (M : Mem) (x1 : Int32) (Q : Int32 → Mem → Prop) : Prop :=
  ∃ n : Nat, lp (fun L s => bX3_longestAgo_6 x1 Q L s.1 s.2.1 s.2.2) n (M, 150, 0)
set_option maxRecDepth 100000 in
set_option maxHeartbeats 400000 in
theorem wX3_longestAgo_45 {Γ : Gam} {G : Gm} {Qf : State → Prop} (hG : Gd G) (C : Cx Γ G cX3_longestAgo 4 RX3 (some .int) rmX3_longestAgo) {x1 : Int32} {Q : Int32 → Mem → Prop} (E : EndI Γ G Qf rmX3_longestAgo Q) {L6 : Mem × Int32 × Int32 → Prop} (hL6 : ∀ s, L6 s → X Γ G Qf 4 0 0 6 [(0, .ref (ga G 3 0)), (1, .int x1), (2, .int s.2.1), (3, .int s.2.2)] [] s.1) (M : Mem) (y2 : Int32) (y3 : Int32) (h : bX3_longestAgo_45 x1 Q L6 M y2 y3) : X Γ G Qf 4 0 0 45 [(0, .ref (ga G 3 0)), (1, .int x1), (2, .int y2), (3, .int y3)] [] M := by
  unfold bX3_longestAgo_45 at h
  obtain ⟨v8, ev8⟩ : ∃ z : Int32, z = y3 + 1 := ⟨_, rfl⟩
  replace h := h v8 ev8
  refine x_iinc (v := v8) (lv' := [(3, .int v8), (0, .ref (ga G 3 0)), (1, .int x1), (2, .int y2)]) (j := 3) C dX3_longestAgo_45 rfl (by rw [ev8]; rfl) (Nat.le_of_ble_eq_true rfl) rfl ?_
  refine x_goto (tgt := 6) C dX3_longestAgo_48 (by decide) ?_
  refine X_sub (lv' := [(0, .ref (ga G 3 0)), (1, .int x1), (2, .int y2), (3, .int v8)]) [1, 2, 3, 0] rfl ?_
  have w9 := hL6 (M, y2, v8) h
  dsimp only at w9
  exact w9
set_option maxRecDepth 100000 in
set_option maxHeartbeats 400000 in
theorem wX3_longestAgo_6 {Γ : Gam} {G : Gm} {Qf : State → Prop} (hG : Gd G) (C : Cx Γ G cX3_longestAgo 4 RX3 (some .int) rmX3_longestAgo) {x1 : Int32} {Q : Int32 → Mem → Prop} (E : EndI Γ G Qf rmX3_longestAgo Q) {L6 : Mem × Int32 × Int32 → Prop} (hL6 : ∀ s, L6 s → X Γ G Qf 4 0 0 6 [(0, .ref (ga G 3 0)), (1, .int x1), (2, .int s.2.1), (3, .int s.2.2)] [] s.1) (M : Mem) (y2 : Int32) (y3 : Int32) (h : bX3_longestAgo_6 x1 Q L6 M y2 y3) : X Γ G Qf 4 0 0 6 [(0, .ref (ga G 3 0)), (1, .int x1), (2, .int y2), (3, .int y3)] [] M := by
  unfold bX3_longestAgo_6 at h
  refine x_iload_n C dX3_longestAgo_6 3 rfl ?_
  refine x_aload_n C dX3_longestAgo_7 0 rfl ?_
  refine gf_3_1 C q66 z3 dX3_longestAgo_8 ?_
  refine gf_6_1 C q67 z6 dX3_longestAgo_11 ?_
  refine x_icmp_ge (tgt := 51) C dX3_longestAgo_14 (by decide) (fun c1 => ?_) (fun c1 => ?_)
  · replace h := h.1 c1
    refine x_iload_n C dX3_longestAgo_51 2 rfl ?_
    refine x_sipush (v := 150) C dX3_longestAgo_52 rfl ?_
    refine x_icmp_ne (tgt := 62) C dX3_longestAgo_55 (by decide) (fun c2 => ?_) (fun c2 => ?_)
    · replace h := h.1 c2
      refine x_iload_n C dX3_longestAgo_62 2 rfl ?_
      exact x_iret C E h (Nat.le_of_ble_eq_true rfl) (Nat.le_of_ble_eq_true rfl) dX3_longestAgo_63
    · replace h := h.2 c2
      refine x_iconst (v := (-1)) C dX3_longestAgo_58 rfl ?_
      refine x_goto (tgt := 63) C dX3_longestAgo_59 (by decide) ?_
      exact x_iret C E h (Nat.le_of_ble_eq_true rfl) (Nat.le_of_ble_eq_true rfl) dX3_longestAgo_63
  · replace h := h.2 c1
    refine x_aload_n C dX3_longestAgo_17 0 rfl ?_
    refine x_iload_n C dX3_longestAgo_18 1 rfl ?_
    refine x_aload_n C dX3_longestAgo_19 0 rfl ?_
    refine gf_3_1 C q66 z3 dX3_longestAgo_20 ?_
    refine gf_6_2 C q68 z6 dX3_longestAgo_23 ?_
    refine x_iload_n C dX3_longestAgo_26 3 rfl ?_
    obtain ⟨f3, h⟩ := h
    refine al_702 C z702 f3 dX3_longestAgo_27 ?_
    refine x_calli (rest := []) C sv_X3_61 ob3 z3 (kX3_hasWord hG _ _ _ h) rfl rfl (Nat.le_of_ble_eq_true rfl) ⟨Nat.le_of_ble_eq_true rfl, Nat.le_of_ble_eq_true rfl⟩ rfl rfl ⟨Nat.le_of_ble_eq_true rfl, Nat.le_of_ble_eq_true rfl⟩ dX3_longestAgo_28 (fun r4 M5 h => ?_)
    refine x_if_eq (tgt := 45) C dX3_longestAgo_31 (by decide) (fun c6 => ?_) (fun c6 => ?_)
    · replace h := h.1 c6
      refine X_sub (lv' := [(0, .ref (ga G 3 0)), (1, .int x1), (2, .int y2), (3, .int y3)]) [0, 1, 2, 3] rfl ?_
      exact wX3_longestAgo_45 hG C E hL6 M5 y2 y3 h
    · replace h := h.2 c6
      refine x_iload_n C dX3_longestAgo_34 2 rfl ?_
      refine x_aload_n C dX3_longestAgo_35 0 rfl ?_
      refine gf_3_2 C q91 z3 dX3_longestAgo_36 ?_
      refine x_iload_n C dX3_longestAgo_39 3 rfl ?_
      refine al_402 C z402 f3 dX3_longestAgo_40 ?_
      refine x_min C sm_X3_128 (Nat.le_of_ble_eq_true rfl) (Nat.le_of_ble_eq_true rfl) (Nat.le_of_ble_eq_true rfl) (Nat.le_of_ble_eq_true rfl) dX3_longestAgo_41 ?_
      refine X_name (fun v7 ev7 => ?_)
      replace h := h v7 ev7
      refine x_istore_n (lv' := [(2, .int v7), (0, .ref (ga G 3 0)), (1, .int x1), (3, .int y3)]) C dX3_longestAgo_44 rfl (Nat.le_of_ble_eq_true rfl) rfl ?_
      refine X_sub (lv' := [(0, .ref (ga G 3 0)), (1, .int x1), (2, .int v7), (3, .int y3)]) [1, 2, 0, 3] rfl ?_
      exact wX3_longestAgo_45 hG C E hL6 M5 v7 y3 h
set_option maxRecDepth 100000 in
set_option maxHeartbeats 400000 in
theorem kX3_longestAgo {l : Launch} {G : Gm} (hG : Gd G) (M : Mem) (x1 : Int32) {Q : Int32 → Mem → Prop} (h : pX3_longestAgo M x1 Q) : Cti l G yX3_longestAgo cX3_longestAgo 4 .int rmX3_longestAgo [.ref (ga G 3 0), .int x1] M Q := by
  refine cti_of (own := RX3) (by decide +kernel) rfl (Nat.le_of_ble_eq_true rfl) hG (fun Γ Qf hl C E => ?_)
  subst hl
  show X Γ G Qf 4 0 0 0 [(0, .ref (ga G 3 0)), (1, .int x1)] [] M
  unfold pX3_longestAgo at h
  refine x_sipush (v := 150) C dX3_longestAgo_0 rfl ?_
  refine x_istore_n (lv' := [(2, .int 150), (0, .ref (ga G 3 0)), (1, .int x1)]) C dX3_longestAgo_3 rfl (Nat.le_of_ble_eq_true rfl) rfl ?_
  refine x_iconst (v := 0) C dX3_longestAgo_4 rfl ?_
  refine x_istore_n (lv' := [(3, .int 0), (2, .int 150), (0, .ref (ga G 3 0)), (1, .int x1)]) C dX3_longestAgo_5 rfl (Nat.le_of_ble_eq_true rfl) rfl ?_
  obtain ⟨n9, h⟩ := h
  refine X_sub (lv' := [(0, .ref (ga G 3 0)), (1, .int x1), (2, .int 150), (3, .int 0)]) [2, 3, 1, 0] rfl ?_
  have hb : ∀ (L : Mem × Int32 × Int32 → Prop) (s : Mem × Int32 × Int32), (∀ t, L t → X Γ G Qf 4 0 0 6 [(0, .ref (ga G 3 0)), (1, .int x1), (2, .int t.2.1), (3, .int t.2.2)] [] t.1) → bX3_longestAgo_6 x1 Q L s.1 s.2.1 s.2.2 → X Γ G Qf 4 0 0 6 [(0, .ref (ga G 3 0)), (1, .int x1), (2, .int s.2.1), (3, .int s.2.2)] [] s.1 := fun L s hL h => wX3_longestAgo_6 hG C E hL s.1 s.2.1 s.2.2 h
  have w9 := lp_walk (P := fun s : Mem × Int32 × Int32 => X Γ G Qf 4 0 0 6 [(0, .ref (ga G 3 0)), (1, .int x1), (2, .int s.2.1), (3, .int s.2.2)] [] s.1) h hb
  dsimp only at w9
  exact w9
def rmX3_findWindow : Room := { frames := 2, cells := 0, slots := 0, locals := 45 }
def bX3_findWindow_113 (x1 : Int32) (Q : Mem → Prop) (L38 : Mem × Int32 → Prop) (M : Mem) (y2 : Int32) : Prop :=
  ∀ v20 : Int32, v20 = y2 + 1 → L38 (M, v20)
def bX3_findWindow_102 (x1 : Int32) (Q : Mem → Prop) (L38 : Mem × Int32 → Prop) (M : Mem) (y2 : Int32) (y3 : Int32) (y4 : Int32) : Prop :=
  ∀ M18 : Mem, M18 = up1 M 403 0 0 y3 → ∀ M19 : Mem, M19 = up1 M18 404 0 0 y4 → bX3_findWindow_113 x1 Q L38 M19 y2
def bX3_findWindow_38 (x1 : Int32) (Q : Mem → Prop) (L38 : Mem × Int32 → Prop) (M : Mem) (y2 : Int32) : Prop :=
  vp_in x1 64 ∧ (((M.1 502 0 (tn x1)) ≤ y2 → Q M) ∧ (¬ (M.1 502 0 (tn x1)) ≤ y2 → vp_in y2 150 ∧ pX3_noteSeen M (M.1 5501 (tn x1) (tn y2)) y2 (fun M11 => pX3_longestAgo M11 x1 (fun r12 M13 => ∀ v14 : Int32, v14 = ((y2 - r12) + 1) → ((r12 = (-1) → bX3_findWindow_113 x1 Q L38 M13 y2) ∧ (¬ r12 = (-1) → (((M13.1 403 0 0) = (-1) → bX3_findWindow_102 x1 Q L38 M13 y2 r12 v14) ∧ (¬ (M13.1 403 0 0) = (-1) → (((M13.1 404 0 0) ≤ v14 → bX3_findWindow_113 x1 Q L38 M13 y2) ∧ (¬ (M13.1 404 0 0) ≤ v14 → bX3_findWindow_102 x1 Q L38 M13 y2 r12 v14))))))))))
def bX3_findWindow_12 (x1 : Int32) (Q : Mem → Prop) (L12 : Mem × Int32 → Prop) (M : Mem) (y2 : Int32) : Prop :=
  (((M.1 701 0 0) ≤ y2 → ∃ n : Nat, lp (fun L s => bX3_findWindow_38 x1 Q L s.1 s.2) n (M, 0)) ∧ (¬ (M.1 701 0 0) ≤ y2 → vp_in y2 24 ∧ ∀ M5 : Mem, M5 = up1 M 402 0 (tn y2) (-1) → ∀ v6 : Int32, v6 = y2 + 1 → L12 (M5, v6)))
def pX3_findWindow (M : Mem) (x1 : Int32) (Q : Mem → Prop) : Prop :=
  ∀ M1 : Mem, M1 = up1 M 403 0 0 (-1) → ∀ M2 : Mem, M2 = up1 M1 404 0 0 0 → ∃ n : Nat, lp (fun L s => bX3_findWindow_12 x1 Q L s.1 s.2) n (M2, 0)
set_option maxRecDepth 100000 in
set_option maxHeartbeats 400000 in
theorem wX3_findWindow_113 {Γ : Gam} {G : Gm} {Qf : State → Prop} (hG : Gd G) (C : Cx Γ G cX3_findWindow 5 RX3 none rmX3_findWindow) {x1 : Int32} {Q : Mem → Prop} (E : EndV Γ G Qf rmX3_findWindow Q) {L38 : Mem × Int32 → Prop} (hL38 : ∀ s, L38 s → X Γ G Qf 5 0 0 38 [(0, .ref (ga G 3 0)), (1, .int x1), (2, .int s.2)] [] s.1) (M : Mem) (y2 : Int32) (h : bX3_findWindow_113 x1 Q L38 M y2) : X Γ G Qf 5 0 0 113 [(0, .ref (ga G 3 0)), (1, .int x1), (2, .int y2)] [] M := by
  unfold bX3_findWindow_113 at h
  obtain ⟨v20, ev20⟩ : ∃ z : Int32, z = y2 + 1 := ⟨_, rfl⟩
  replace h := h v20 ev20
  refine x_iinc (v := v20) (lv' := [(2, .int v20), (0, .ref (ga G 3 0)), (1, .int x1)]) (j := 2) C dX3_findWindow_113 rfl (by rw [ev20]; rfl) (Nat.le_of_ble_eq_true rfl) rfl ?_
  refine x_goto (tgt := 38) C dX3_findWindow_116 (by decide) ?_
  refine X_sub (lv' := [(0, .ref (ga G 3 0)), (1, .int x1), (2, .int v20)]) [1, 2, 0] rfl ?_
  have w9 := hL38 (M, v20) h
  dsimp only at w9
  exact w9
set_option maxRecDepth 100000 in
set_option maxHeartbeats 400000 in
theorem wX3_findWindow_102 {Γ : Gam} {G : Gm} {Qf : State → Prop} (hG : Gd G) (C : Cx Γ G cX3_findWindow 5 RX3 none rmX3_findWindow) {x1 : Int32} {Q : Mem → Prop} (E : EndV Γ G Qf rmX3_findWindow Q) {L38 : Mem × Int32 → Prop} (hL38 : ∀ s, L38 s → X Γ G Qf 5 0 0 38 [(0, .ref (ga G 3 0)), (1, .int x1), (2, .int s.2)] [] s.1) (M : Mem) (y2 : Int32) (y3 : Int32) (y4 : Int32) (h : bX3_findWindow_102 x1 Q L38 M y2 y3 y4) : X Γ G Qf 5 0 0 102 [(0, .ref (ga G 3 0)), (1, .int x1), (2, .int y2), (3, .int y3), (4, .int y4)] [] M := by
  unfold bX3_findWindow_102 at h
  refine x_aload_n C dX3_findWindow_102 0 rfl ?_
  refine x_iload_n C dX3_findWindow_103 3 rfl ?_
  refine pf_3_3 C q92 z3 dX3_findWindow_104 ?_
  refine X_nameM (fun M18 eM18 => ?_)
  replace h := h M18 eM18
  refine x_aload_n C dX3_findWindow_107 0 rfl ?_
  refine x_iload C dX3_findWindow_108 4 rfl ?_
  refine pf_3_4 C q93 z3 dX3_findWindow_110 ?_
  refine X_nameM (fun M19 eM19 => ?_)
  replace h := h M19 eM19
  refine X_sub (lv' := [(0, .ref (ga G 3 0)), (1, .int x1), (2, .int y2)]) [0, 1, 2] rfl ?_
  exact wX3_findWindow_113 hG C E hL38 M19 y2 h
set_option maxRecDepth 100000 in
set_option maxHeartbeats 400000 in
theorem wX3_findWindow_38 {Γ : Gam} {G : Gm} {Qf : State → Prop} (hG : Gd G) (C : Cx Γ G cX3_findWindow 5 RX3 none rmX3_findWindow) {x1 : Int32} {Q : Mem → Prop} (E : EndV Γ G Qf rmX3_findWindow Q) {L38 : Mem × Int32 → Prop} (hL38 : ∀ s, L38 s → X Γ G Qf 5 0 0 38 [(0, .ref (ga G 3 0)), (1, .int x1), (2, .int s.2)] [] s.1) (M : Mem) (y2 : Int32) (h : bX3_findWindow_38 x1 Q L38 M y2) : X Γ G Qf 5 0 0 38 [(0, .ref (ga G 3 0)), (1, .int x1), (2, .int y2)] [] M := by
  unfold bX3_findWindow_38 at h
  refine x_iload_n C dX3_findWindow_38 2 rfl ?_
  refine x_aload_n C dX3_findWindow_39 0 rfl ?_
  refine gf_3_0 C q64 z3 dX3_findWindow_40 ?_
  refine gf_4_2 C q76 z4 dX3_findWindow_43 ?_
  refine x_iload_n C dX3_findWindow_46 1 rfl ?_
  obtain ⟨f7, h⟩ := h
  refine al_502 C z502 f7 dX3_findWindow_47 ?_
  refine x_icmp_ge (tgt := 119) C dX3_findWindow_48 (by decide) (fun c8 => ?_) (fun c8 => ?_)
  · replace h := h.1 c8
    exact x_vret C E h (Nat.le_of_ble_eq_true rfl) (Nat.le_of_ble_eq_true rfl) dX3_findWindow_119
  · replace h := h.2 c8
    refine x_aload_n C dX3_findWindow_51 0 rfl ?_
    refine x_aload_n C dX3_findWindow_52 0 rfl ?_
    refine gf_3_0 C q64 z3 dX3_findWindow_53 ?_
    refine gf_4_1 C q73 z4 dX3_findWindow_56 ?_
    refine x_iload_n C dX3_findWindow_59 1 rfl ?_
    refine al_501 C z501 f7 dX3_findWindow_60 ?_
    refine x_iload_n C dX3_findWindow_61 2 rfl ?_
    obtain ⟨f9, h⟩ := h
    refine al_5501 C (vp_lt f7) f9 dX3_findWindow_62 ?_
    refine x_iload_n C dX3_findWindow_63 2 rfl ?_
    refine x_callv (rest := []) C sv_X3_131 ob3 z3 (kX3_noteSeen hG _ _ _ h) rfl rfl (Nat.le_of_ble_eq_true rfl) ⟨Nat.le_of_ble_eq_true rfl, Nat.le_of_ble_eq_true rfl⟩ rfl rfl ⟨Nat.le_of_ble_eq_true rfl, Nat.le_of_ble_eq_true rfl⟩ dX3_findWindow_64 (fun M11 h => ?_)
    refine x_aload_n C dX3_findWindow_67 0 rfl ?_
    refine x_iload_n C dX3_findWindow_68 1 rfl ?_
    refine x_calli (rest := []) C sv_X3_135 ob3 z3 (kX3_longestAgo hG _ _ h) rfl rfl (Nat.le_of_ble_eq_true rfl) ⟨Nat.le_of_ble_eq_true rfl, Nat.le_of_ble_eq_true rfl⟩ rfl rfl ⟨Nat.le_of_ble_eq_true rfl, Nat.le_of_ble_eq_true rfl⟩ dX3_findWindow_69 (fun r12 M13 h => ?_)
    refine x_istore_n (lv' := [(3, .int r12), (0, .ref (ga G 3 0)), (1, .int x1), (2, .int y2)]) C dX3_findWindow_72 rfl (Nat.le_of_ble_eq_true rfl) rfl ?_
    refine x_iload_n C dX3_findWindow_73 3 rfl ?_
    refine x_iload_n C dX3_findWindow_74 0 rfl ?_
    refine x_isub C dX3_findWindow_75 ?_
    refine x_iconst (v := 1) C dX3_findWindow_76 rfl ?_
    refine x_iadd C dX3_findWindow_77 ?_
    refine X_name (fun v14 ev14 => ?_)
    replace h := h v14 ev14
    refine x_istore (lv' := [(4, .int v14), (3, .int r12), (0, .ref (ga G 3 0)), (1, .int x1), (2, .int y2)]) C dX3_findWindow_78 (Nat.le_of_ble_eq_true rfl) rfl ?_
    refine x_iload_n C dX3_findWindow_80 1 rfl ?_
    refine x_iconst (v := (-1)) C dX3_findWindow_81 rfl ?_
    refine x_icmp_eq (tgt := 113) C dX3_findWindow_82 (by decide) (fun c15 => ?_) (fun c15 => ?_)
    · replace h := h.1 c15
      refine X_sub (lv' := [(0, .ref (ga G 3 0)), (1, .int x1), (2, .int y2)]) [2, 3, 4] rfl ?_
      exact wX3_findWindow_113 hG C E hL38 M13 y2 h
    · replace h := h.2 c15
      refine x_aload_n C dX3_findWindow_85 2 rfl ?_
      refine gf_3_3 C q92 z3 dX3_findWindow_86 ?_
      refine x_iconst (v := (-1)) C dX3_findWindow_89 rfl ?_
      refine x_icmp_eq (tgt := 102) C dX3_findWindow_90 (by decide) (fun c16 => ?_) (fun c16 => ?_)
      · replace h := h.1 c16
        refine X_sub (lv' := [(0, .ref (ga G 3 0)), (1, .int x1), (2, .int y2), (3, .int r12), (4, .int v14)]) [2, 3, 4, 1, 0] rfl ?_
        exact wX3_findWindow_102 hG C E hL38 M13 y2 r12 v14 h
      · replace h := h.2 c16
        refine x_iload C dX3_findWindow_93 0 rfl ?_
        refine x_aload_n C dX3_findWindow_95 2 rfl ?_
        refine gf_3_4 C q93 z3 dX3_findWindow_96 ?_
        refine x_icmp_ge (tgt := 113) C dX3_findWindow_99 (by decide) (fun c17 => ?_) (fun c17 => ?_)
        · replace h := h.1 c17
          refine X_sub (lv' := [(0, .ref (ga G 3 0)), (1, .int x1), (2, .int y2)]) [2, 3, 4] rfl ?_
          exact wX3_findWindow_113 hG C E hL38 M13 y2 h
        · replace h := h.2 c17
          refine X_sub (lv' := [(0, .ref (ga G 3 0)), (1, .int x1), (2, .int y2), (3, .int r12), (4, .int v14)]) [2, 3, 4, 1, 0] rfl ?_
          exact wX3_findWindow_102 hG C E hL38 M13 y2 r12 v14 h
set_option maxRecDepth 100000 in
set_option maxHeartbeats 400000 in
theorem wX3_findWindow_12 {Γ : Gam} {G : Gm} {Qf : State → Prop} (hG : Gd G) (C : Cx Γ G cX3_findWindow 5 RX3 none rmX3_findWindow) {x1 : Int32} {Q : Mem → Prop} (E : EndV Γ G Qf rmX3_findWindow Q) {L12 : Mem × Int32 → Prop} (hL12 : ∀ s, L12 s → X Γ G Qf 5 0 0 12 [(0, .ref (ga G 3 0)), (1, .int x1), (2, .int s.2)] [] s.1) (M : Mem) (y2 : Int32) (h : bX3_findWindow_12 x1 Q L12 M y2) : X Γ G Qf 5 0 0 12 [(0, .ref (ga G 3 0)), (1, .int x1), (2, .int y2)] [] M := by
  unfold bX3_findWindow_12 at h
  refine x_iload_n C dX3_findWindow_12 2 rfl ?_
  refine x_aload_n C dX3_findWindow_13 0 rfl ?_
  refine gf_3_1 C q66 z3 dX3_findWindow_14 ?_
  refine gf_6_1 C q67 z6 dX3_findWindow_17 ?_
  refine x_icmp_ge (tgt := 36) C dX3_findWindow_20 (by decide) (fun c3 => ?_) (fun c3 => ?_)
  · replace h := h.1 c3
    refine x_iconst (v := 0) C dX3_findWindow_36 rfl ?_
    refine x_istore_n (lv' := [(2, .int 0), (0, .ref (ga G 3 0)), (1, .int x1)]) C dX3_findWindow_37 rfl (Nat.le_of_ble_eq_true rfl) rfl ?_
    obtain ⟨n9, h⟩ := h
    refine X_sub (lv' := [(0, .ref (ga G 3 0)), (1, .int x1), (2, .int 0)]) [1, 2, 0] rfl ?_
    have hb : ∀ (L : Mem × Int32 → Prop) (s : Mem × Int32), (∀ t, L t → X Γ G Qf 5 0 0 38 [(0, .ref (ga G 3 0)), (1, .int x1), (2, .int t.2)] [] t.1) → bX3_findWindow_38 x1 Q L s.1 s.2 → X Γ G Qf 5 0 0 38 [(0, .ref (ga G 3 0)), (1, .int x1), (2, .int s.2)] [] s.1 := fun L s hL h => wX3_findWindow_38 hG C E hL s.1 s.2 h
    have w9 := lp_walk (P := fun s : Mem × Int32 => X Γ G Qf 5 0 0 38 [(0, .ref (ga G 3 0)), (1, .int x1), (2, .int s.2)] [] s.1) h hb
    dsimp only at w9
    exact w9
  · replace h := h.2 c3
    refine x_aload_n C dX3_findWindow_23 0 rfl ?_
    refine gf_3_2 C q91 z3 dX3_findWindow_24 ?_
    refine x_iload_n C dX3_findWindow_27 2 rfl ?_
    refine x_iconst (v := (-1)) C dX3_findWindow_28 rfl ?_
    obtain ⟨f4, h⟩ := h
    refine as_402 C z402 f4 dX3_findWindow_29 ?_
    refine X_nameM (fun M5 eM5 => ?_)
    replace h := h M5 eM5
    obtain ⟨v6, ev6⟩ : ∃ z : Int32, z = y2 + 1 := ⟨_, rfl⟩
    replace h := h v6 ev6
    refine x_iinc (v := v6) (lv' := [(2, .int v6), (0, .ref (ga G 3 0)), (1, .int x1)]) (j := 2) C dX3_findWindow_30 rfl (by rw [ev6]; rfl) (Nat.le_of_ble_eq_true rfl) rfl ?_
    refine x_goto (tgt := 12) C dX3_findWindow_33 (by decide) ?_
    refine X_sub (lv' := [(0, .ref (ga G 3 0)), (1, .int x1), (2, .int v6)]) [1, 2, 0] rfl ?_
    have w9 := hL12 (M5, v6) h
    dsimp only at w9
    exact w9
set_option maxRecDepth 100000 in
set_option maxHeartbeats 400000 in
theorem kX3_findWindow {l : Launch} {G : Gm} (hG : Gd G) (M : Mem) (x1 : Int32) {Q : Mem → Prop} (h : pX3_findWindow M x1 Q) : Ctv l G yX3_findWindow cX3_findWindow 5 rmX3_findWindow [.ref (ga G 3 0), .int x1] M Q := by
  refine ctv_of (own := RX3) (by decide +kernel) rfl (Nat.le_of_ble_eq_true rfl) hG (fun Γ Qf hl C E => ?_)
  subst hl
  show X Γ G Qf 5 0 0 0 [(0, .ref (ga G 3 0)), (1, .int x1)] [] M
  unfold pX3_findWindow at h
  refine x_aload_n C dX3_findWindow_0 0 rfl ?_
  refine x_iconst (v := (-1)) C dX3_findWindow_1 rfl ?_
  refine pf_3_3 C q92 z3 dX3_findWindow_2 ?_
  refine X_nameM (fun M1 eM1 => ?_)
  replace h := h M1 eM1
  refine x_aload_n C dX3_findWindow_5 0 rfl ?_
  refine x_iconst (v := 0) C dX3_findWindow_6 rfl ?_
  refine pf_3_4 C q93 z3 dX3_findWindow_7 ?_
  refine X_nameM (fun M2 eM2 => ?_)
  replace h := h M2 eM2
  refine x_iconst (v := 0) C dX3_findWindow_10 rfl ?_
  refine x_istore_n (lv' := [(2, .int 0), (0, .ref (ga G 3 0)), (1, .int x1)]) C dX3_findWindow_11 rfl (Nat.le_of_ble_eq_true rfl) rfl ?_
  obtain ⟨n9, h⟩ := h
  refine X_sub (lv' := [(0, .ref (ga G 3 0)), (1, .int x1), (2, .int 0)]) [1, 2, 0] rfl ?_
  have hb : ∀ (L : Mem × Int32 → Prop) (s : Mem × Int32), (∀ t, L t → X Γ G Qf 5 0 0 12 [(0, .ref (ga G 3 0)), (1, .int x1), (2, .int t.2)] [] t.1) → bX3_findWindow_12 x1 Q L s.1 s.2 → X Γ G Qf 5 0 0 12 [(0, .ref (ga G 3 0)), (1, .int x1), (2, .int s.2)] [] s.1 := fun L s hL h => wX3_findWindow_12 hG C E hL s.1 s.2 h
  have w9 := lp_walk (P := fun s : Mem × Int32 => X Γ G Qf 5 0 0 12 [(0, .ref (ga G 3 0)), (1, .int x1), (2, .int s.2)] [] s.1) h hb
  dsimp only at w9
  exact w9
def rmX4_holds : Room := { frames := 0, cells := 0, slots := 0, locals := 0 }
def pX4_holds (M : Mem) (x1 : Int32) (Q : Int32 → Mem → Prop) : Prop :=
  ((x1 < 0 → Q 0 M) ∧ (¬ x1 < 0 → (((M.1 504 0 0) ≤ x1 → Q 0 M) ∧ (¬ (M.1 504 0 0) ≤ x1 → vp_in x1 64 ∧ (((M.1 503 0 (tn x1)) = 2 → Q 0 M) ∧ (¬ (M.1 503 0 (tn x1)) = 2 → Q 1 M))))))
set_option maxRecDepth 100000 in
set_option maxHeartbeats 400000 in
theorem kX4_holds {l : Launch} {G : Gm} (hG : Gd G) (M : Mem) (x1 : Int32) {Q : Int32 → Mem → Prop} (h : pX4_holds M x1 Q) : Cti l G yX4_holds cX4_holds 2 .boolean rmX4_holds [.ref (ga G 4 0), .int x1] M Q := by
  refine cti_of (own := RX4) (by decide +kernel) rfl (Nat.le_of_ble_eq_true rfl) hG (fun Γ Qf hl C E => ?_)
  subst hl
  show X Γ G Qf 2 0 0 0 [(0, .ref (ga G 4 0)), (1, .int x1)] [] M
  unfold pX4_holds at h
  refine x_iload_n C dX4_holds_0 1 rfl ?_
  refine x_if_lt (tgt := 26) C dX4_holds_1 (by decide) (fun c1 => ?_) (fun c1 => ?_)
  · replace h := h.1 c1
    refine x_iconst (v := 0) C dX4_holds_26 rfl ?_
    exact x_zret C E h rfl (Nat.le_of_ble_eq_true rfl) (Nat.le_of_ble_eq_true rfl) dX4_holds_27
  · replace h := h.2 c1
    refine x_iload_n C dX4_holds_4 1 rfl ?_
    refine x_aload_n C dX4_holds_5 0 rfl ?_
    refine gf_4_4 C q94 z4 dX4_holds_6 ?_
    refine x_icmp_ge (tgt := 26) C dX4_holds_9 (by decide) (fun c2 => ?_) (fun c2 => ?_)
    · replace h := h.1 c2
      refine x_iconst (v := 0) C dX4_holds_26 rfl ?_
      exact x_zret C E h rfl (Nat.le_of_ble_eq_true rfl) (Nat.le_of_ble_eq_true rfl) dX4_holds_27
    · replace h := h.2 c2
      refine x_aload_n C dX4_holds_12 0 rfl ?_
      refine gf_4_3 C q63 z4 dX4_holds_13 ?_
      refine x_iload_n C dX4_holds_16 1 rfl ?_
      obtain ⟨f3, h⟩ := h
      refine al_503 C z503 f3 dX4_holds_17 ?_
      refine x_iconst (v := 2) C dX4_holds_18 rfl ?_
      refine x_icmp_eq (tgt := 26) C dX4_holds_19 (by decide) (fun c4 => ?_) (fun c4 => ?_)
      · replace h := h.1 c4
        refine x_iconst (v := 0) C dX4_holds_26 rfl ?_
        exact x_zret C E h rfl (Nat.le_of_ble_eq_true rfl) (Nat.le_of_ble_eq_true rfl) dX4_holds_27
      · replace h := h.2 c4
        refine x_iconst (v := 1) C dX4_holds_22 rfl ?_
        refine x_goto (tgt := 27) C dX4_holds_23 (by decide) ?_
        exact x_zret C E h rfl (Nat.le_of_ble_eq_true rfl) (Nat.le_of_ble_eq_true rfl) dX4_holds_27
def rmX4_post : Room := { frames := 1, cells := 0, slots := 0, locals := 15 }
def bX4_post_53 (x1 : Int32) (x2 : Int32) (x3 : Int32) (Q : Mem → Prop) (M : Mem) (y4 : Int32) : Prop :=
  vp_in x1 255 ∧ ∀ M10 : Mem, M10 = up1 M 512 0 (tn x1) x3 → vp_in x2 64 ∧ ∀ M12 : Mem, M12 = up1 M10 5508 (tn x1) (tn x2) ((M10.1 5508 (tn x1) (tn x2)) + 1) → ∀ M13 : Mem, M13 = up1 M12 5509 (tn x1) (tn x2) (imax (M12.1 5509 (tn x1) (tn x2)) y4) → Q M13
def pX4_post (M : Mem) (x1 : Int32) (x2 : Int32) (x3 : Int32) (Q : Mem → Prop) : Prop :=
  ∀ v1 : Int32, v1 = (x3 + 1) → vp_in x1 255 ∧ vp_in x2 64 ∧ ((¬ (M.1 5508 (tn x1) (tn x2)) = 0 → ∀ v5 : Int32, v5 = (x3 - (M.1 512 0 (tn x1))) → bX4_post_53 x1 x2 x3 Q M v5) ∧ ((M.1 5508 (tn x1) (tn x2)) = 0 → vp_in (M.1 511 0 (tn x1)) 64 ∧ ∀ M7 : Mem, M7 = up1 M 5510 (tn x1) (tn (M.1 511 0 (tn x1))) x2 → ∀ M8 : Mem, M8 = up1 M7 511 0 (tn x1) ((M7.1 511 0 (tn x1)) + 1) → bX4_post_53 x1 x2 x3 Q M8 v1))
set_option maxRecDepth 100000 in
set_option maxHeartbeats 400000 in
theorem wX4_post_53 {Γ : Gam} {G : Gm} {Qf : State → Prop} (hG : Gd G) (C : Cx Γ G cX4_post 5 RX4 none rmX4_post) {x1 : Int32} {x2 : Int32} {x3 : Int32} {Q : Mem → Prop} (E : EndV Γ G Qf rmX4_post Q) (M : Mem) (y4 : Int32) (h : bX4_post_53 x1 x2 x3 Q M y4) : X Γ G Qf 5 0 0 53 [(0, .ref (ga G 4 0)), (1, .int x1), (2, .int x2), (3, .int x3), (4, .int y4)] [] M := by
  unfold bX4_post_53 at h
  refine x_aload_n C dX4_post_53 0 rfl ?_
  refine gf_4_12 C q95 z4 dX4_post_54 ?_
  refine x_iload_n C dX4_post_57 1 rfl ?_
  refine x_iload_n C dX4_post_58 3 rfl ?_
  obtain ⟨f9, h⟩ := h
  refine as_512 C z512 f9 dX4_post_59 ?_
  refine X_nameM (fun M10 eM10 => ?_)
  replace h := h M10 eM10
  refine x_aload_n C dX4_post_60 0 rfl ?_
  refine gf_4_8 C q2 z4 dX4_post_61 ?_
  refine x_iload_n C dX4_post_64 1 rfl ?_
  refine al_508 C z508 f9 dX4_post_65 ?_
  refine x_iload_n C dX4_post_66 2 rfl ?_
  refine x_dup2 C dX4_post_67 rfl rfl ?_
  obtain ⟨f11, h⟩ := h
  refine al_5508 C (vp_lt f9) f11 dX4_post_68 ?_
  refine x_iconst (v := 1) C dX4_post_69 rfl ?_
  refine x_iadd C dX4_post_70 ?_
  refine as_5508 C (vp_lt f9) f11 dX4_post_71 ?_
  refine X_nameM (fun M12 eM12 => ?_)
  replace h := h M12 eM12
  refine x_aload_n C dX4_post_72 0 rfl ?_
  refine gf_4_9 C q97 z4 dX4_post_73 ?_
  refine x_iload_n C dX4_post_76 1 rfl ?_
  refine al_509 C z509 f9 dX4_post_77 ?_
  refine x_iload_n C dX4_post_78 2 rfl ?_
  refine x_aload_n C dX4_post_79 0 rfl ?_
  refine gf_4_9 C q97 z4 dX4_post_80 ?_
  refine x_iload_n C dX4_post_83 1 rfl ?_
  refine al_509 C z509 f9 dX4_post_84 ?_
  refine x_iload_n C dX4_post_85 2 rfl ?_
  refine al_5509 C (vp_lt f9) f11 dX4_post_86 ?_
  refine x_iload C dX4_post_87 4 rfl ?_
  refine x_max C sm_X4_59 (Nat.le_of_ble_eq_true rfl) (Nat.le_of_ble_eq_true rfl) (Nat.le_of_ble_eq_true rfl) (Nat.le_of_ble_eq_true rfl) dX4_post_89 ?_
  refine as_5509 C (vp_lt f9) f11 dX4_post_92 ?_
  refine X_nameM (fun M13 eM13 => ?_)
  replace h := h M13 eM13
  exact x_vret C E h (Nat.le_of_ble_eq_true rfl) (Nat.le_of_ble_eq_true rfl) dX4_post_93
set_option maxRecDepth 100000 in
set_option maxHeartbeats 400000 in
theorem kX4_post {l : Launch} {G : Gm} (hG : Gd G) (M : Mem) (x1 : Int32) (x2 : Int32) (x3 : Int32) {Q : Mem → Prop} (h : pX4_post M x1 x2 x3 Q) : Ctv l G yX4_post cX4_post 5 rmX4_post [.ref (ga G 4 0), .int x1, .int x2, .int x3] M Q := by
  refine ctv_of (own := RX4) (by decide +kernel) rfl (Nat.le_of_ble_eq_true rfl) hG (fun Γ Qf hl C E => ?_)
  subst hl
  show X Γ G Qf 5 0 0 0 [(0, .ref (ga G 4 0)), (1, .int x1), (2, .int x2), (3, .int x3)] [] M
  unfold pX4_post at h
  refine x_iload_n C dX4_post_0 3 rfl ?_
  refine x_iconst (v := 1) C dX4_post_1 rfl ?_
  refine x_iadd C dX4_post_2 ?_
  refine X_name (fun v1 ev1 => ?_)
  replace h := h v1 ev1
  refine x_istore (lv' := [(4, .int v1), (0, .ref (ga G 4 0)), (1, .int x1), (2, .int x2), (3, .int x3)]) C dX4_post_3 (Nat.le_of_ble_eq_true rfl) rfl ?_
  refine x_aload_n C dX4_post_5 1 rfl ?_
  refine gf_4_8 C q2 z4 dX4_post_6 ?_
  refine x_iload_n C dX4_post_9 2 rfl ?_
  obtain ⟨f2, h⟩ := h
  refine al_508 C z508 f2 dX4_post_10 ?_
  refine x_iload_n C dX4_post_11 3 rfl ?_
  obtain ⟨f3, h⟩ := h
  refine al_5508 C (vp_lt f2) f3 dX4_post_12 ?_
  refine x_if_ne (tgt := 43) C dX4_post_13 (by decide) (fun c4 => ?_) (fun c4 => ?_)
  · replace h := h.1 c4
    refine x_iload_n C dX4_post_43 4 rfl ?_
    refine x_aload_n C dX4_post_44 1 rfl ?_
    refine gf_4_12 C q95 z4 dX4_post_45 ?_
    refine x_iload_n C dX4_post_48 2 rfl ?_
    refine al_512 C z512 f2 dX4_post_49 ?_
    refine x_isub C dX4_post_50 ?_
    refine X_name (fun v5 ev5 => ?_)
    replace h := h v5 ev5
    refine x_istore (lv' := [(4, .int v5), (0, .ref (ga G 4 0)), (1, .int x1), (2, .int x2), (3, .int x3)]) C dX4_post_51 (Nat.le_of_ble_eq_true rfl) rfl ?_
    refine X_sub (lv' := [(0, .ref (ga G 4 0)), (1, .int x1), (2, .int x2), (3, .int x3), (4, .int v5)]) [1, 2, 3, 4, 0] rfl ?_
    exact wX4_post_53 hG C E M v5 h
  · replace h := h.2 c4
    refine x_aload_n C dX4_post_16 1 rfl ?_
    refine gf_4_10 C q96 z4 dX4_post_17 ?_
    refine x_iload_n C dX4_post_20 2 rfl ?_
    refine al_510 C z510 f2 dX4_post_21 ?_
    refine x_aload_n C dX4_post_22 1 rfl ?_
    refine gf_4_11 C q0 z4 dX4_post_23 ?_
    refine x_iload_n C dX4_post_26 2 rfl ?_
    refine al_511 C z511 f2 dX4_post_27 ?_
    refine x_iload_n C dX4_post_28 3 rfl ?_
    obtain ⟨f6, h⟩ := h
    refine as_5510 C (vp_lt f2) f6 dX4_post_29 ?_
    refine X_nameM (fun M7 eM7 => ?_)
    replace h := h M7 eM7
    refine x_aload_n C dX4_post_30 1 rfl ?_
    refine gf_4_11 C q0 z4 dX4_post_31 ?_
    refine x_iload_n C dX4_post_34 2 rfl ?_
    refine x_dup2 C dX4_post_35 rfl rfl ?_
    refine al_511 C z511 f2 dX4_post_36 ?_
    refine x_iconst (v := 1) C dX4_post_37 rfl ?_
    refine x_iadd C dX4_post_38 ?_
    refine as_511 C z511 f2 dX4_post_39 ?_
    refine X_nameM (fun M8 eM8 => ?_)
    replace h := h M8 eM8
    refine x_goto (tgt := 53) C dX4_post_40 (by decide) ?_
    refine X_sub (lv' := [(0, .ref (ga G 4 0)), (1, .int x1), (2, .int x2), (3, .int x3), (4, .int v1)]) [1, 2, 3, 4, 0] rfl ?_
    exact wX4_post_53 hG C E M8 v1 h
def rmX4_shelve : Room := { frames := 2, cells := 0, slots := 0, locals := 39 }
def bX4_shelve_42 (x2 : Int32) (Q : Int32 → Mem → Prop) (L42 : Mem × Int32 × Int32 → Prop) (M : Mem) (y3 : Int32) (y4 : Int32) : Prop :=
  ((x2 ≤ y4 → Q y3 M) ∧ (¬ x2 ≤ y4 → vp_in y3 64 ∧ vp_in y4 150 ∧ ∀ M10 : Mem, M10 = up1 M 5501 (tn y3) (tn y4) (M.1 201 0 (tn y4)) → pX4_post M10 (M10.1 201 0 (tn y4)) y3 y4 (fun M12 => ∀ v13 : Int32, v13 = y4 + 1 → L42 (M12, y3, v13))))
def pX4_shelve (M : Mem) (x2 : Int32) (Q : Int32 → Mem → Prop) : Prop :=
  ∀ v1 : Int32, v1 = (M.1 504 0 0) → ∀ M2 : Mem, M2 = up1 M 504 0 0 ((M.1 504 0 0) + 1) → ∀ M3 : Mem, M3 = up1 M2 505 0 0 ((M2.1 505 0 0) + 1) → vp_in v1 64 ∧ ∀ M5 : Mem, M5 = up1 M3 503 0 (tn v1) 0 → ∀ M6 : Mem, M6 = up1 M5 502 0 (tn v1) x2 → ∃ n : Nat, lp (fun L s => bX4_shelve_42 x2 Q L s.1 s.2.1 s.2.2) n (M6, v1, 0)
set_option maxRecDepth 100000 in
set_option maxHeartbeats 400000 in
theorem wX4_shelve_42 {Γ : Gam} {G : Gm} {Qf : State → Prop} (hG : Gd G) (C : Cx Γ G cX4_shelve 5 RX4 (some .int) rmX4_shelve) {x2 : Int32} {Q : Int32 → Mem → Prop} (E : EndI Γ G Qf rmX4_shelve Q) {L42 : Mem × Int32 × Int32 → Prop} (hL42 : ∀ s, L42 s → X Γ G Qf 5 0 0 42 [(0, .ref (ga G 4 0)), (1, .ref (ga G 201 0)), (2, .int x2), (3, .int s.2.1), (4, .int s.2.2)] [] s.1) (M : Mem) (y3 : Int32) (y4 : Int32) (h : bX4_shelve_42 x2 Q L42 M y3 y4) : X Γ G Qf 5 0 0 42 [(0, .ref (ga G 4 0)), (1, .ref (ga G 201 0)), (2, .int x2), (3, .int y3), (4, .int y4)] [] M := by
  unfold bX4_shelve_42 at h
  refine x_iload C dX4_shelve_42 4 rfl ?_
  refine x_iload_n C dX4_shelve_44 2 rfl ?_
  refine x_icmp_ge (tgt := 78) C dX4_shelve_45 (by decide) (fun c7 => ?_) (fun c7 => ?_)
  · replace h := h.1 c7
    refine x_iload_n C dX4_shelve_78 3 rfl ?_
    exact x_iret C E h (Nat.le_of_ble_eq_true rfl) (Nat.le_of_ble_eq_true rfl) dX4_shelve_79
  · replace h := h.2 c7
    refine x_aload_n C dX4_shelve_48 0 rfl ?_
    refine gf_4_1 C q98 z4 dX4_shelve_49 ?_
    refine x_iload_n C dX4_shelve_52 3 rfl ?_
    obtain ⟨f8, h⟩ := h
    refine al_501 C z501 f8 dX4_shelve_53 ?_
    refine x_iload C dX4_shelve_54 4 rfl ?_
    refine x_aload_n C dX4_shelve_56 1 rfl ?_
    refine x_iload C dX4_shelve_57 4 rfl ?_
    obtain ⟨f9, h⟩ := h
    refine al_201 C z201 f9 dX4_shelve_59 ?_
    refine as_5501 C (vp_lt f8) f9 dX4_shelve_60 ?_
    refine X_nameM (fun M10 eM10 => ?_)
    replace h := h M10 eM10
    refine x_aload_n C dX4_shelve_61 0 rfl ?_
    refine x_aload_n C dX4_shelve_62 1 rfl ?_
    refine x_iload C dX4_shelve_63 4 rfl ?_
    refine al_201 C z201 f9 dX4_shelve_65 ?_
    refine x_iload_n C dX4_shelve_66 3 rfl ?_
    refine x_iload C dX4_shelve_67 4 rfl ?_
    refine x_callv (rest := []) C sv_X4_55 ob4 z4 (kX4_post hG _ _ _ _ h) rfl rfl (Nat.le_of_ble_eq_true rfl) ⟨Nat.le_of_ble_eq_true rfl, Nat.le_of_ble_eq_true rfl⟩ rfl rfl ⟨Nat.le_of_ble_eq_true rfl, Nat.le_of_ble_eq_true rfl⟩ dX4_shelve_69 (fun M12 h => ?_)
    obtain ⟨v13, ev13⟩ : ∃ z : Int32, z = y4 + 1 := ⟨_, rfl⟩
    replace h := h v13 ev13
    refine x_iinc (v := v13) (lv' := [(4, .int v13), (0, .ref (ga G 4 0)), (1, .ref (ga G 201 0)), (2, .int x2), (3, .int y3)]) (j := 4) C dX4_shelve_72 rfl (by rw [ev13]; rfl) (Nat.le_of_ble_eq_true rfl) rfl ?_
    refine x_goto (tgt := 42) C dX4_shelve_75 (by decide) ?_
    refine X_sub (lv' := [(0, .ref (ga G 4 0)), (1, .ref (ga G 201 0)), (2, .int x2), (3, .int y3), (4, .int v13)]) [1, 2, 3, 4, 0] rfl ?_
    have w9 := hL42 (M12, y3, v13) h
    dsimp only at w9
    exact w9
set_option maxRecDepth 100000 in
set_option maxHeartbeats 400000 in
theorem kX4_shelve {l : Launch} {G : Gm} (hG : Gd G) (M : Mem) (x2 : Int32) {Q : Int32 → Mem → Prop} (h : pX4_shelve M x2 Q) : Cti l G yX4_shelve cX4_shelve 5 .int rmX4_shelve [.ref (ga G 4 0), .ref (ga G 201 0), .int x2] M Q := by
  refine cti_of (own := RX4) (by decide +kernel) rfl (Nat.le_of_ble_eq_true rfl) hG (fun Γ Qf hl C E => ?_)
  subst hl
  show X Γ G Qf 5 0 0 0 [(0, .ref (ga G 4 0)), (1, .ref (ga G 201 0)), (2, .int x2)] [] M
  unfold pX4_shelve at h
  refine x_aload_n C dX4_shelve_0 0 rfl ?_
  refine gf_4_4 C q94 z4 dX4_shelve_1 ?_
  refine X_name (fun v1 ev1 => ?_)
  replace h := h v1 ev1
  refine x_istore_n (lv' := [(3, .int v1), (0, .ref (ga G 4 0)), (1, .ref (ga G 201 0)), (2, .int x2)]) C dX4_shelve_4 rfl (Nat.le_of_ble_eq_true rfl) rfl ?_
  refine x_aload_n C dX4_shelve_5 1 rfl ?_
  refine x_dup C dX4_shelve_6 rfl ?_
  refine gf_4_4 C q94 z4 dX4_shelve_7 ?_
  refine x_iconst (v := 1) C dX4_shelve_10 rfl ?_
  refine x_iadd C dX4_shelve_11 ?_
  refine pf_4_4 C q94 z4 dX4_shelve_12 ?_
  refine X_nameM (fun M2 eM2 => ?_)
  replace h := h M2 eM2
  refine x_aload_n C dX4_shelve_15 1 rfl ?_
  refine x_dup C dX4_shelve_16 rfl ?_
  refine gf_4_5 C q1 z4 dX4_shelve_17 ?_
  refine x_iconst (v := 1) C dX4_shelve_20 rfl ?_
  refine x_iadd C dX4_shelve_21 ?_
  refine pf_4_5 C q1 z4 dX4_shelve_22 ?_
  refine X_nameM (fun M3 eM3 => ?_)
  replace h := h M3 eM3
  refine x_aload_n C dX4_shelve_25 1 rfl ?_
  refine gf_4_3 C q63 z4 dX4_shelve_26 ?_
  refine x_iload_n C dX4_shelve_29 0 rfl ?_
  refine x_iconst (v := 0) C dX4_shelve_30 rfl ?_
  obtain ⟨f4, h⟩ := h
  refine as_503 C z503 f4 dX4_shelve_31 ?_
  refine X_nameM (fun M5 eM5 => ?_)
  replace h := h M5 eM5
  refine x_aload_n C dX4_shelve_32 1 rfl ?_
  refine gf_4_2 C q3 z4 dX4_shelve_33 ?_
  refine x_iload_n C dX4_shelve_36 0 rfl ?_
  refine x_iload_n C dX4_shelve_37 3 rfl ?_
  refine as_502 C z502 f4 dX4_shelve_38 ?_
  refine X_nameM (fun M6 eM6 => ?_)
  replace h := h M6 eM6
  refine x_iconst (v := 0) C dX4_shelve_39 rfl ?_
  refine x_istore (lv' := [(4, .int 0), (3, .int v1), (0, .ref (ga G 4 0)), (1, .ref (ga G 201 0)), (2, .int x2)]) C dX4_shelve_40 (Nat.le_of_ble_eq_true rfl) rfl ?_
  obtain ⟨n9, h⟩ := h
  refine X_sub (lv' := [(0, .ref (ga G 4 0)), (1, .ref (ga G 201 0)), (2, .int x2), (3, .int v1), (4, .int 0)]) [2, 3, 4, 1, 0] rfl ?_
  have hb : ∀ (L : Mem × Int32 × Int32 → Prop) (s : Mem × Int32 × Int32), (∀ t, L t → X Γ G Qf 5 0 0 42 [(0, .ref (ga G 4 0)), (1, .ref (ga G 201 0)), (2, .int x2), (3, .int t.2.1), (4, .int t.2.2)] [] t.1) → bX4_shelve_42 x2 Q L s.1 s.2.1 s.2.2 → X Γ G Qf 5 0 0 42 [(0, .ref (ga G 4 0)), (1, .ref (ga G 201 0)), (2, .int x2), (3, .int s.2.1), (4, .int s.2.2)] [] s.1 := fun L s hL h => wX4_shelve_42 hG C E hL s.1 s.2.1 s.2.2 h
  have w9 := lp_walk (P := fun s : Mem × Int32 × Int32 => X Γ G Qf 5 0 0 42 [(0, .ref (ga G 4 0)), (1, .ref (ga G 201 0)), (2, .int x2), (3, .int s.2.1), (4, .int s.2.2)] [] s.1) h hb
  dsimp only at w9
  exact w9
def rmX4_takeAway : Room := { frames := 0, cells := 0, slots := 0, locals := 0 }
def pX4_takeAway (M : Mem) (x1 : Int32) (Q : Int32 → Mem → Prop) : Prop :=
  vp_in x1 64 ∧ ∀ M2 : Mem, M2 = up1 M 503 0 (tn x1) 1 → ∀ M3 : Mem, M3 = up1 M2 506 0 0 ((M2.1 506 0 0) + 1) → Q (M3.1 506 0 0) M3
set_option maxRecDepth 100000 in
set_option maxHeartbeats 400000 in
theorem kX4_takeAway {l : Launch} {G : Gm} (hG : Gd G) (M : Mem) (x1 : Int32) {Q : Int32 → Mem → Prop} (h : pX4_takeAway M x1 Q) : Cti l G yX4_takeAway cX4_takeAway 2 .int rmX4_takeAway [.ref (ga G 4 0), .int x1] M Q := by
  refine cti_of (own := RX4) (by decide +kernel) rfl (Nat.le_of_ble_eq_true rfl) hG (fun Γ Qf hl C E => ?_)
  subst hl
  show X Γ G Qf 2 0 0 0 [(0, .ref (ga G 4 0)), (1, .int x1)] [] M
  unfold pX4_takeAway at h
  refine x_aload_n C dX4_takeAway_0 0 rfl ?_
  refine gf_4_3 C q63 z4 dX4_takeAway_1 ?_
  refine x_iload_n C dX4_takeAway_4 1 rfl ?_
  refine x_iconst (v := 1) C dX4_takeAway_5 rfl ?_
  obtain ⟨f1, h⟩ := h
  refine as_503 C z503 f1 dX4_takeAway_6 ?_
  refine X_nameM (fun M2 eM2 => ?_)
  replace h := h M2 eM2
  refine x_aload_n C dX4_takeAway_7 0 rfl ?_
  refine x_dup C dX4_takeAway_8 rfl ?_
  refine gf_4_6 C q99 z4 dX4_takeAway_9 ?_
  refine x_iconst (v := 1) C dX4_takeAway_12 rfl ?_
  refine x_iadd C dX4_takeAway_13 ?_
  refine pf_4_6 C q99 z4 dX4_takeAway_14 ?_
  refine X_nameM (fun M3 eM3 => ?_)
  replace h := h M3 eM3
  refine x_aload_n C dX4_takeAway_17 0 rfl ?_
  refine gf_4_6 C q99 z4 dX4_takeAway_18 ?_
  exact x_iret C E h (Nat.le_of_ble_eq_true rfl) (Nat.le_of_ble_eq_true rfl) dX4_takeAway_21
