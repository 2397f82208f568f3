def rmX11_readsPhrase : Room := { frames := 3, cells := 0, slots := 0, locals := 65 }
def bX11_readsPhrase_81 (Q : Mem → Prop) (M : Mem) : Prop :=
  ∀ M21 : Mem, M21 = up1 M 1204 0 0 ((M.1 1204 0 0) + 1) → Q M21
def bX11_readsPhrase_75 (Q : Mem → Prop) (L12 : Mem × Int32 → Prop) (M : Mem) (y1 : Int32) : Prop :=
  ∀ v20 : Int32, v20 = y1 + 1 → L12 (M, v20)
def bX11_readsPhrase_59 (Q : Mem → Prop) (L12 : Mem × Int32 → Prop) (M : Mem) (y1 : Int32) : Prop :=
  pX11_fine M (fun r15 M16 => ((r15 = 0 → bX11_readsPhrase_75 Q L12 M16 y1) ∧ (¬ r15 = 0 → pX11_readsAsked M16 3 (M16.1 1234 0 0) (fun M19 => bX11_readsPhrase_75 Q L12 M19 y1))))
def bX11_readsPhrase_38 (Q : Mem → Prop) (L12 : Mem × Int32 → Prop) (M : Mem) (y1 : Int32) (y2 : Int32) : Prop :=
  pX11_isSmall M y2 (fun r9 M10 => ((r9 = 0 → bX11_readsPhrase_59 Q L12 M10 y1) ∧ (¬ r9 = 0 → ((¬ y1 = 4 → bX11_readsPhrase_59 Q L12 M10 y1) ∧ (y1 = 4 → pX11_wrong M10 2 (M10.1 1204 0 0) (fun M14 => bX11_readsPhrase_59 Q L12 M14 y1))))))
def bX11_readsPhrase_12 (Q : Mem → Prop) (L12 : Mem × Int32 → Prop) (M : Mem) (y1 : Int32) : Prop :=
  pX11_fine M (fun r2 M3 => ((r2 = 0 → bX11_readsPhrase_81 Q M3) ∧ (¬ r2 = 0 → pX11_blanks M3 (fun r5 M6 => ((¬ r5 = 34 → bX11_readsPhrase_38 Q L12 M6 y1 r5) ∧ (r5 = 34 → ((y1 ≤ 1 → bX11_readsPhrase_38 Q L12 M6 y1 r5) ∧ (¬ y1 ≤ 1 → bX11_readsPhrase_81 Q M6))))))))
def pX11_readsPhrase (M : Mem) (Q : Mem → Prop) : Prop :=
  ∀ M1 : Mem, M1 = up1 M 1204 0 0 ((M.1 1204 0 0) + 1) → ∃ n : Nat, lp (fun L s => bX11_readsPhrase_12 Q L s.1 s.2) n (M1, 0)
set_option maxRecDepth 100000 in
set_option maxHeartbeats 400000 in
theorem wX11_readsPhrase_81 {Γ : Gam} {G : Gm} {Qf : State → Prop} (hG : Gd G) (C : Cx Γ G cX11_readsPhrase 3 RX11 none rmX11_readsPhrase)  {Q : Mem → Prop} (E : EndV Γ G Qf rmX11_readsPhrase Q) (M : Mem) (h : bX11_readsPhrase_81 Q M) : X Γ G Qf 3 0 0 81 [(0, .ref (ga G 11 0))] [] M := by
  unfold bX11_readsPhrase_81 at h
  refine x_aload_n C dX11_readsPhrase_81 0 rfl ?_
  refine x_dup C dX11_readsPhrase_82 rfl ?_
  refine gf_11_4 C q150 z11 dX11_readsPhrase_83 ?_
  refine x_iconst (v := 1) C dX11_readsPhrase_86 rfl ?_
  refine x_iadd C dX11_readsPhrase_87 ?_
  refine pf_11_4 C q150 z11 dX11_readsPhrase_88 ?_
  refine X_nameM (fun M21 eM21 => ?_)
  replace h := h M21 eM21
  exact x_vret C E h (Nat.le_of_ble_eq_true rfl) (Nat.le_of_ble_eq_true rfl) dX11_readsPhrase_91
set_option maxRecDepth 100000 in
set_option maxHeartbeats 400000 in
theorem wX11_readsPhrase_75 {Γ : Gam} {G : Gm} {Qf : State → Prop} (hG : Gd G) (C : Cx Γ G cX11_readsPhrase 3 RX11 none rmX11_readsPhrase)  {Q : Mem → Prop} (E : EndV Γ G Qf rmX11_readsPhrase Q) {L12 : Mem × Int32 → Prop} (hL12 : ∀ s, L12 s → X Γ G Qf 3 0 0 12 [(0, .ref (ga G 11 0)), (1, .int s.2)] [] s.1) (M : Mem) (y1 : Int32) (h : bX11_readsPhrase_75 Q L12 M y1) : X Γ G Qf 3 0 0 75 [(0, .ref (ga G 11 0)), (1, .int y1)] [] M := by
  unfold bX11_readsPhrase_75 at h
  obtain ⟨v20, ev20⟩ : ∃ z : Int32, z = y1 + 1 := ⟨_, rfl⟩
  replace h := h v20 ev20
  refine x_iinc (v := v20) (lv' := [(1, .int v20), (0, .ref (ga G 11 0))]) (j := 1) C dX11_readsPhrase_75 rfl (by rw [ev20]; rfl) (Nat.le_of_ble_eq_true rfl) rfl ?_
  refine x_goto (tgt := 12) C dX11_readsPhrase_78 (by decide) ?_
  refine X_sub (lv' := [(0, .ref (ga G 11 0)), (1, .int v20)]) [1, 0] rfl ?_
  have w9 := hL12 (M, v20) h
  dsimp only at w9
  exact w9
set_option maxRecDepth 100000 in
set_option maxHeartbeats 400000 in
theorem wX11_readsPhrase_59 {Γ : Gam} {G : Gm} {Qf : State → Prop} (hG : Gd G) (C : Cx Γ G cX11_readsPhrase 3 RX11 none rmX11_readsPhrase)  {Q : Mem → Prop} (E : EndV Γ G Qf rmX11_readsPhrase Q) {L12 : Mem × Int32 → Prop} (hL12 : ∀ s, L12 s → X Γ G Qf 3 0 0 12 [(0, .ref (ga G 11 0)), (1, .int s.2)] [] s.1) (M : Mem) (y1 : Int32) (h : bX11_readsPhrase_59 Q L12 M y1) : X Γ G Qf 3 0 0 59 [(0, .ref (ga G 11 0)), (1, .int y1)] [] M := by
  unfold bX11_readsPhrase_59 at h
  refine x_aload_n C dX11_readsPhrase_59 0 rfl ?_
  refine x_calli (rest := []) C sv_X11_154 ob11 z11 (kX11_fine hG _ h) rfl rfl (Nat.le_of_ble_eq_true rfl) ⟨Nat.le_of_ble_eq_true rfl, Nat.le_of_ble_eq_true rfl⟩ rfl rfl ⟨Nat.le_of_ble_eq_true rfl, Nat.le_of_ble_eq_true rfl⟩ dX11_readsPhrase_60 (fun r15 M16 h => ?_)
  refine x_if_eq (tgt := 75) C dX11_readsPhrase_63 (by decide) (fun c17 => ?_) (fun c17 => ?_)
  · replace h := h.1 c17
    refine X_sub (lv' := [(0, .ref (ga G 11 0)), (1, .int y1)]) [0, 1] rfl ?_
    exact wX11_readsPhrase_75 hG C E hL12 M16 y1 h
  · replace h := h.2 c17
    refine x_aload_n C dX11_readsPhrase_66 0 rfl ?_
    refine x_iconst (v := 3) C dX11_readsPhrase_67 rfl ?_
    refine x_aload_n C dX11_readsPhrase_68 0 rfl ?_
    refine gf_11_34 C q166 z11 dX11_readsPhrase_69 ?_
    refine x_callv (rest := []) C sv_X11_199 ob11 z11 (kX11_readsAsked hG _ _ _ h) rfl rfl (Nat.le_of_ble_eq_true rfl) ⟨Nat.le_of_ble_eq_true rfl, Nat.le_of_ble_eq_true rfl⟩ rfl rfl ⟨Nat.le_of_ble_eq_true rfl, Nat.le_of_ble_eq_true rfl⟩ dX11_readsPhrase_72 (fun M19 h => ?_)
    refine X_sub (lv' := [(0, .ref (ga G 11 0)), (1, .int y1)]) [0, 1] rfl ?_
    exact wX11_readsPhrase_75 hG C E hL12 M19 y1 h
set_option maxRecDepth 100000 in
set_option maxHeartbeats 400000 in
theorem wX11_readsPhrase_38 {Γ : Gam} {G : Gm} {Qf : State → Prop} (hG : Gd G) (C : Cx Γ G cX11_readsPhrase 3 RX11 none rmX11_readsPhrase)  {Q : Mem → Prop} (E : EndV Γ G Qf rmX11_readsPhrase Q) {L12 : Mem × Int32 → Prop} (hL12 : ∀ s, L12 s → X Γ G Qf 3 0 0 12 [(0, .ref (ga G 11 0)), (1, .int s.2)] [] s.1) (M : Mem) (y1 : Int32) (y2 : Int32) (h : bX11_readsPhrase_38 Q L12 M y1 y2) : X Γ G Qf 3 0 0 38 [(0, .ref (ga G 11 0)), (1, .int y1), (2, .int y2)] [] M := by
  unfold bX11_readsPhrase_38 at h
  refine x_iload_n C dX11_readsPhrase_38 2 rfl ?_
  refine x_scalli (rest := []) C ss_X11_146 (kX11_isSmall hG _ _ h) rfl rfl (Nat.le_of_ble_eq_true rfl) ⟨Nat.le_of_ble_eq_true rfl, Nat.le_of_ble_eq_true rfl⟩ rfl rfl ⟨Nat.le_of_ble_eq_true rfl, Nat.le_of_ble_eq_true rfl⟩ dX11_readsPhrase_39 (fun r9 M10 h => ?_)
  refine x_if_eq (tgt := 59) C dX11_readsPhrase_42 (by decide) (fun c11 => ?_) (fun c11 => ?_)
  · replace h := h.1 c11
    refine X_sub (lv' := [(0, .ref (ga G 11 0)), (1, .int y1)]) [0, 1] rfl ?_
    exact wX11_readsPhrase_59 hG C E hL12 M10 y1 h
  · replace h := h.2 c11
    refine x_iload_n C dX11_readsPhrase_45 1 rfl ?_
    refine x_iconst (v := 4) C dX11_readsPhrase_46 rfl ?_
    refine x_icmp_ne (tgt := 59) C dX11_readsPhrase_47 (by decide) (fun c12 => ?_) (fun c12 => ?_)
    · replace h := h.1 c12
      refine X_sub (lv' := [(0, .ref (ga G 11 0)), (1, .int y1)]) [0, 1] rfl ?_
      exact wX11_readsPhrase_59 hG C E hL12 M10 y1 h
    · replace h := h.2 c12
      refine x_aload_n C dX11_readsPhrase_50 0 rfl ?_
      refine x_iconst (v := 2) C dX11_readsPhrase_51 rfl ?_
      refine x_aload_n C dX11_readsPhrase_52 0 rfl ?_
      refine gf_11_4 C q150 z11 dX11_readsPhrase_53 ?_
      refine x_callv (rest := []) C sv_X11_150 ob11 z11 (kX11_wrong hG _ _ _ h) rfl rfl (Nat.le_of_ble_eq_true rfl) ⟨Nat.le_of_ble_eq_true rfl, Nat.le_of_ble_eq_true rfl⟩ rfl rfl ⟨Nat.le_of_ble_eq_true rfl, Nat.le_of_ble_eq_true rfl⟩ dX11_readsPhrase_56 (fun M14 h => ?_)
      refine X_sub (lv' := [(0, .ref (ga G 11 0)), (1, .int y1)]) [0, 1] rfl ?_
      exact wX11_readsPhrase_59 hG C E hL12 M14 y1 h
set_option maxRecDepth 100000 in
set_option maxHeartbeats 400000 in
theorem wX11_readsPhrase_12 {Γ : Gam} {G : Gm} {Qf : State → Prop} (hG : Gd G) (C : Cx Γ G cX11_readsPhrase 3 RX11 none rmX11_readsPhrase)  {Q : Mem → Prop} (E : EndV Γ G Qf rmX11_readsPhrase Q) {L12 : Mem × Int32 → Prop} (hL12 : ∀ s, L12 s → X Γ G Qf 3 0 0 12 [(0, .ref (ga G 11 0)), (1, .int s.2)] [] s.1) (M : Mem) (y1 : Int32) (h : bX11_readsPhrase_12 Q L12 M y1) : X Γ G Qf 3 0 0 12 [(0, .ref (ga G 11 0)), (1, .int y1)] [] M := by
  unfold bX11_readsPhrase_12 at h
  refine x_aload_n C dX11_readsPhrase_12 0 rfl ?_
  refine x_calli (rest := []) C sv_X11_154 ob11 z11 (kX11_fine hG _ h) rfl rfl (Nat.le_of_ble_eq_true rfl) ⟨Nat.le_of_ble_eq_true rfl, Nat.le_of_ble_eq_true rfl⟩ rfl rfl ⟨Nat.le_of_ble_eq_true rfl, Nat.le_of_ble_eq_true rfl⟩ dX11_readsPhrase_13 (fun r2 M3 h => ?_)
  refine x_if_eq (tgt := 81) C dX11_readsPhrase_16 (by decide) (fun c4 => ?_) (fun c4 => ?_)
  · replace h := h.1 c4
    refine X_sub (lv' := [(0, .ref (ga G 11 0))]) [0] rfl ?_
    exact wX11_readsPhrase_81 hG C E M3 h
  · replace h := h.2 c4
    refine x_aload_n C dX11_readsPhrase_19 0 rfl ?_
    refine x_calli (rest := []) C sv_X11_187 ob11 z11 (kX11_blanks hG _ h) rfl rfl (Nat.le_of_ble_eq_true rfl) ⟨Nat.le_of_ble_eq_true rfl, Nat.le_of_ble_eq_true rfl⟩ rfl rfl ⟨Nat.le_of_ble_eq_true rfl, Nat.le_of_ble_eq_true rfl⟩ dX11_readsPhrase_20 (fun r5 M6 h => ?_)
    refine x_istore_n (lv' := [(2, .int r5), (0, .ref (ga G 11 0)), (1, .int y1)]) C dX11_readsPhrase_23 rfl (Nat.le_of_ble_eq_true rfl) rfl ?_
    refine x_iload_n C dX11_readsPhrase_24 0 rfl ?_
    refine x_bipush (v := 34) C dX11_readsPhrase_25 rfl ?_
    refine x_icmp_ne (tgt := 38) C dX11_readsPhrase_27 (by decide) (fun c7 => ?_) (fun c7 => ?_)
    · replace h := h.1 c7
      refine X_sub (lv' := [(0, .ref (ga G 11 0)), (1, .int y1), (2, .int r5)]) [1, 2, 0] rfl ?_
      exact wX11_readsPhrase_38 hG C E hL12 M6 y1 r5 h
    · replace h := h.2 c7
      refine x_iload_n C dX11_readsPhrase_30 2 rfl ?_
      refine x_iconst (v := 1) C dX11_readsPhrase_31 rfl ?_
      refine x_icmp_le (tgt := 38) C dX11_readsPhrase_32 (by decide) (fun c8 => ?_) (fun c8 => ?_)
      · replace h := h.1 c8
        refine X_sub (lv' := [(0, .ref (ga G 11 0)), (1, .int y1), (2, .int r5)]) [1, 2, 0] rfl ?_
        exact wX11_readsPhrase_38 hG C E hL12 M6 y1 r5 h
      · replace h := h.2 c8
        refine x_goto (tgt := 81) C dX11_readsPhrase_35 (by decide) ?_
        refine X_sub (lv' := [(0, .ref (ga G 11 0))]) [1] rfl ?_
        exact wX11_readsPhrase_81 hG C E M6 h
set_option maxRecDepth 100000 in
set_option maxHeartbeats 400000 in
theorem kX11_readsPhrase {l : Launch} {G : Gm} (hG : Gd G) (M : Mem)  {Q : Mem → Prop} (h : pX11_readsPhrase M Q) : Ctv l G yX11_readsPhrase cX11_readsPhrase 3 rmX11_readsPhrase [.ref (ga G 11 0)] M Q := by
  refine ctv_of (own := RX11) (by decide +kernel) rfl (Nat.le_of_ble_eq_true rfl) hG (fun Γ Qf hl C E => ?_)
  subst hl
  show X Γ G Qf 3 0 0 0 [(0, .ref (ga G 11 0))] [] M
  unfold pX11_readsPhrase at h
  refine x_aload_n C dX11_readsPhrase_0 0 rfl ?_
  refine x_dup C dX11_readsPhrase_1 rfl ?_
  refine gf_11_4 C q150 z11 dX11_readsPhrase_2 ?_
  refine x_iconst (v := 1) C dX11_readsPhrase_5 rfl ?_
  refine x_iadd C dX11_readsPhrase_6 ?_
  refine pf_11_4 C q150 z11 dX11_readsPhrase_7 ?_
  refine X_nameM (fun M1 eM1 => ?_)
  replace h := h M1 eM1
  refine x_iconst (v := 0) C dX11_readsPhrase_10 rfl ?_
  refine x_istore_n (lv' := [(1, .int 0), (0, .ref (ga G 11 0))]) C dX11_readsPhrase_11 rfl (Nat.le_of_ble_eq_true rfl) rfl ?_
  obtain ⟨n9, h⟩ := h
  refine X_sub (lv' := [(0, .ref (ga G 11 0)), (1, .int 0)]) [1, 0] rfl ?_
  have hb : ∀ (L : Mem × Int32 → Prop) (s : Mem × Int32), (∀ t, L t → X Γ G Qf 3 0 0 12 [(0, .ref (ga G 11 0)), (1, .int t.2)] [] t.1) → bX11_readsPhrase_12 Q L s.1 s.2 → X Γ G Qf 3 0 0 12 [(0, .ref (ga G 11 0)), (1, .int s.2)] [] s.1 := fun L s hL h => wX11_readsPhrase_12 hG C E hL s.1 s.2 h
  have w9 := lp_walk (P := fun s : Mem × Int32 => X Γ G Qf 3 0 0 12 [(0, .ref (ga G 11 0)), (1, .int s.2)] [] s.1) h hb
  dsimp only at w9
  exact w9
def rmX11_readsPart : Room := { frames := 4, cells := 0, slots := 0, locals := 87 }
def bX11_readsPart_231 (Q : Mem → Prop) (M : Mem) : Prop :=
  ∀ M52 : Mem, M52 = up1 M 1234 0 0 ((M.1 1234 0 0) + 1) → Q M52
def bX11_readsPart_178 (Q : Mem → Prop) (M : Mem) (y1 : Int32) : Prop :=
  pX11_fine M (fun r40 M41 => ((r40 = 0 → bX11_readsPart_231 Q M41) ∧ (¬ r40 = 0 → ((y1 = 45 → bX11_readsPart_231 Q M41) ∧ (¬ y1 = 45 → pX11_byteAt M41 (M41.1 1204 0 0) (fun r44 M45 => ((¬ r44 = 94 → bX11_readsPart_231 Q M45) ∧ (r44 = 94 → ∀ M47 : Mem, M47 = up1 M45 1204 0 0 ((M45.1 1204 0 0) + 1) → vp_in ((M47.1 1233 0 0) - 1) 24 ∧ pX11_digit M47 (fun r49 M50 => ∀ M51 : Mem, M51 = up1 M50 6236 (tn ((M47.1 1233 0 0) - 1)) (tn 1) r49 → bX11_readsPart_231 Q M51)))))))))
def bX11_readsPart_152 (Q : Mem → Prop) (M : Mem) (y1 : Int32) : Prop :=
  ((¬ y1 = 43 → ((¬ y1 = 45 → pX11_readsAsked M 0 0 (fun M35 => bX11_readsPart_178 Q M35 y1)) ∧ (y1 = 45 → pX11_readsAsked M 2 0 (fun M37 => bX11_readsPart_178 Q M37 y1)))) ∧ (y1 = 43 → pX11_readsAsked M 1 0 (fun M39 => bX11_readsPart_178 Q M39 y1)))
def bX11_readsPart_87 (Q : Mem → Prop) (M : Mem) (y1 : Int32) : Prop :=
  pX11_fine M (fun r17 M18 => ((¬ r17 = 0 → ((¬ y1 = 126 → ((¬ y1 = 34 → pX11_isSmall M18 y1 (fun r22 M23 => ((¬ r22 = 0 → bX11_readsPart_152 Q M23 y1) ∧ (r22 = 0 → ∀ M25 : Mem, M25 = up1 M23 1204 0 0 ((M23.1 1204 0 0) + 1) → bX11_readsPart_152 Q M25 y1)))) ∧ (y1 = 34 → pX11_readsPhrase M18 (fun M27 => bX11_readsPart_231 Q M27)))) ∧ (y1 = 126 → ∀ M28 : Mem, M28 = up1 M18 1204 0 0 ((M18.1 1204 0 0) + 1) → pX11_digit M28 (fun r29 M30 => ∀ M31 : Mem, M31 = up1 M30 1235 0 0 r29 → bX11_readsPart_231 Q M31)))) ∧ (r17 = 0 → Q M18)))
def bX11_readsPart_53 (Q : Mem → Prop) (M : Mem) (y1 : Int32) (y2 : Int32) : Prop :=
  ((¬ y2 = 0 → ((¬ (M.1 1234 0 0) = 6 → bX11_readsPart_87 Q M y1) ∧ ((M.1 1234 0 0) = 6 → pX11_wrong M 2 (M.1 1204 0 0) (fun M14 => bX11_readsPart_87 Q M14 y1)))) ∧ (y2 = 0 → pX11_wrong M 1 (M.1 1204 0 0) (fun M16 => bX11_readsPart_87 Q M16 y1)))
def bX11_readsPart_47 (Q : Mem → Prop) (M : Mem) (y1 : Int32) : Prop :=
  bX11_readsPart_53 Q M y1 1
def bX11_readsPart_51 (Q : Mem → Prop) (M : Mem) (y1 : Int32) : Prop :=
  bX11_readsPart_53 Q M y1 0
def pX11_readsPart (M : Mem) (Q : Mem → Prop) : Prop :=
  pX11_byteAt M (M.1 1204 0 0) (fun r1 M2 => pX11_isSmall M2 r1 (fun r3 M4 => ((¬ r3 = 0 → bX11_readsPart_47 Q M4 r1) ∧ (r3 = 0 → ((r1 = 43 → bX11_readsPart_47 Q M4 r1) ∧ (¬ r1 = 43 → ((r1 = 45 → bX11_readsPart_47 Q M4 r1) ∧ (¬ r1 = 45 → ((r1 = 34 → bX11_readsPart_47 Q M4 r1) ∧ (¬ r1 = 34 → ((¬ r1 = 126 → bX11_readsPart_51 Q M4 r1) ∧ (r1 = 126 → ((¬ (M4.1 1235 0 0) = 0 → bX11_readsPart_51 Q M4 r1) ∧ ((M4.1 1235 0 0) = 0 → bX11_readsPart_47 Q M4 r1))))))))))))))
set_option maxRecDepth 100000 in
set_option maxHeartbeats 400000 in
theorem wX11_readsPart_231 {Γ : Gam} {G : Gm} {Qf : State → Prop} (hG : Gd G) (C : Cx Γ G cX11_readsPart 3 RX11 none rmX11_readsPart)  {Q : Mem → Prop} (E : EndV Γ G Qf rmX11_readsPart Q) (M : Mem) (h : bX11_readsPart_231 Q M) : X Γ G Qf 3 0 0 231 [(0, .ref (ga G 11 0))] [] M := by
  unfold bX11_readsPart_231 at h
  refine x_aload_n C dX11_readsPart_231 0 rfl ?_
  refine x_dup C dX11_readsPart_232 rfl ?_
  refine gf_11_34 C q166 z11 dX11_readsPart_233 ?_
  refine x_iconst (v := 1) C dX11_readsPart_236 rfl ?_
  refine x_iadd C dX11_readsPart_237 ?_
  refine pf_11_34 C q166 z11 dX11_readsPart_238 ?_
  refine X_nameM (fun M52 eM52 => ?_)
  replace h := h M52 eM52
  exact x_vret C E h (Nat.le_of_ble_eq_true rfl) (Nat.le_of_ble_eq_true rfl) dX11_readsPart_241
set_option maxRecDepth 100000 in
set_option maxHeartbeats 400000 in
theorem wX11_readsPart_178 {Γ : Gam} {G : Gm} {Qf : State → Prop} (hG : Gd G) (C : Cx Γ G cX11_readsPart 3 RX11 none rmX11_readsPart)  {Q : Mem → Prop} (E : EndV Γ G Qf rmX11_readsPart Q) (M : Mem) (y1 : Int32) (h : bX11_readsPart_178 Q M y1) : X Γ G Qf 3 0 0 178 [(0, .ref (ga G 11 0)), (1, .int y1)] [] M := by
  unfold bX11_readsPart_178 at h
  refine x_aload_n C dX11_readsPart_178 0 rfl ?_
  refine x_calli (rest := []) C sv_X11_154 ob11 z11 (kX11_fine hG _ h) rfl rfl (Nat.le_of_ble_eq_true rfl) ⟨Nat.le_of_ble_eq_true rfl, Nat.le_of_ble_eq_true rfl⟩ rfl rfl ⟨Nat.le_of_ble_eq_true rfl, Nat.le_of_ble_eq_true rfl⟩ dX11_readsPart_179 (fun r40 M41 h => ?_)
  refine x_if_eq (tgt := 231) C dX11_readsPart_182 (by decide) (fun c42 => ?_) (fun c42 => ?_)
  · replace h := h.1 c42
    refine X_sub (lv' := [(0, .ref (ga G 11 0))]) [0] rfl ?_
    exact wX11_readsPart_231 hG C E M41 h
  · replace h := h.2 c42
    refine x_iload_n C dX11_readsPart_185 1 rfl ?_
    refine x_bipush (v := 45) C dX11_readsPart_186 rfl ?_
    refine x_icmp_eq (tgt := 231) C dX11_readsPart_188 (by decide) (fun c43 => ?_) (fun c43 => ?_)
    · replace h := h.1 c43
      refine X_sub (lv' := [(0, .ref (ga G 11 0))]) [0] rfl ?_
      exact wX11_readsPart_231 hG C E M41 h
    · replace h := h.2 c43
      refine x_aload_n C dX11_readsPart_191 0 rfl ?_
      refine x_aload_n C dX11_readsPart_192 0 rfl ?_
      refine gf_11_4 C q150 z11 dX11_readsPart_193 ?_
      refine x_calli (rest := []) C sv_X11_135 ob11 z11 (kX11_byteAt hG _ _ h) rfl rfl (Nat.le_of_ble_eq_true rfl) ⟨Nat.le_of_ble_eq_true rfl, Nat.le_of_ble_eq_true rfl⟩ rfl rfl ⟨Nat.le_of_ble_eq_true rfl, Nat.le_of_ble_eq_true rfl⟩ dX11_readsPart_196 (fun r44 M45 h => ?_)
      refine x_bipush (v := 94) C dX11_readsPart_199 rfl ?_
      refine x_icmp_ne (tgt := 231) C dX11_readsPart_201 (by decide) (fun c46 => ?_) (fun c46 => ?_)
      · replace h := h.1 c46
        refine X_sub (lv' := [(0, .ref (ga G 11 0))]) [0] rfl ?_
        exact wX11_readsPart_231 hG C E M45 h
      · replace h := h.2 c46
        refine x_aload_n C dX11_readsPart_204 0 rfl ?_
        refine x_dup C dX11_readsPart_205 rfl ?_
        refine gf_11_4 C q150 z11 dX11_readsPart_206 ?_
        refine x_iconst (v := 1) C dX11_readsPart_209 rfl ?_
        refine x_iadd C dX11_readsPart_210 ?_
        refine pf_11_4 C q150 z11 dX11_readsPart_211 ?_
        refine X_nameM (fun M47 eM47 => ?_)
        replace h := h M47 eM47
        refine x_aload_n C dX11_readsPart_214 0 rfl ?_
        refine gf_11_36 C q164 z11 dX11_readsPart_215 ?_
        refine x_aload_n C dX11_readsPart_218 0 rfl ?_
        refine gf_11_33 C q165 z11 dX11_readsPart_219 ?_
        refine x_iconst (v := 1) C dX11_readsPart_222 rfl ?_
        refine x_isub C dX11_readsPart_223 ?_
        obtain ⟨f48, h⟩ := h
        refine al_1236 C z1236 f48 dX11_readsPart_224 ?_
        refine x_iconst (v := 1) C dX11_readsPart_225 rfl ?_
        refine x_aload_n C dX11_readsPart_226 0 rfl ?_
        refine x_calli (rest := [.int 1, .ref (ga G 6236 (tn ((M47.1 1233 0 0) - 1)))]) C sv_X11_205 ob11 z11 (kX11_digit hG _ h) rfl rfl (Nat.le_of_ble_eq_true rfl) ⟨Nat.le_of_ble_eq_true rfl, Nat.le_of_ble_eq_true rfl⟩ rfl rfl ⟨Nat.le_of_ble_eq_true rfl, Nat.le_of_ble_eq_true rfl⟩ dX11_readsPart_227 (fun r49 M50 h => ?_)
        refine as_6236 C (vp_lt f48) (vp_l (by decide)) dX11_readsPart_230 ?_
        refine X_nameM (fun M51 eM51 => ?_)
        replace h := h M51 eM51
        refine X_sub (lv' := [(0, .ref (ga G 11 0))]) [0] rfl ?_
        exact wX11_readsPart_231 hG C E M51 h
set_option maxRecDepth 100000 in
set_option maxHeartbeats 400000 in
theorem wX11_readsPart_152 {Γ : Gam} {G : Gm} {Qf : State → Prop} (hG : Gd G) (C : Cx Γ G cX11_readsPart 3 RX11 none rmX11_readsPart)  {Q : Mem → Prop} (E : EndV Γ G Qf rmX11_readsPart Q) (M : Mem) (y1 : Int32) (h : bX11_readsPart_152 Q M y1) : X Γ G Qf 3 0 0 152 [(0, .ref (ga G 11 0)), (1, .int y1)] [] M := by
  unfold bX11_readsPart_152 at h
  refine x_aload_n C dX11_readsPart_152 0 rfl ?_
  refine x_iload_n C dX11_readsPart_153 1 rfl ?_
  refine x_bipush (v := 43) C dX11_readsPart_154 rfl ?_
  refine x_icmp_ne (tgt := 163) C dX11_readsPart_156 (by decide) (fun c32 => ?_) (fun c32 => ?_)
  · replace h := h.1 c32
    refine x_iload_n C dX11_readsPart_163 1 rfl ?_
    refine x_bipush (v := 45) C dX11_readsPart_164 rfl ?_
    refine x_icmp_ne (tgt := 173) C dX11_readsPart_166 (by decide) (fun c33 => ?_) (fun c33 => ?_)
    · replace h := h.1 c33
      refine x_iconst (v := 0) C dX11_readsPart_173 rfl ?_
      refine x_iconst (v := 0) C dX11_readsPart_174 rfl ?_
      refine x_callv (rest := []) C sv_X11_199 ob11 z11 (kX11_readsAsked hG _ _ _ h) rfl rfl (Nat.le_of_ble_eq_true rfl) ⟨Nat.le_of_ble_eq_true rfl, Nat.le_of_ble_eq_true rfl⟩ rfl rfl ⟨Nat.le_of_ble_eq_true rfl, Nat.le_of_ble_eq_true rfl⟩ dX11_readsPart_175 (fun M35 h => ?_)
      refine X_sub (lv' := [(0, .ref (ga G 11 0)), (1, .int y1)]) [0, 1] rfl ?_
      exact wX11_readsPart_178 hG C E M35 y1 h
    · replace h := h.2 c33
      refine x_iconst (v := 2) C dX11_readsPart_169 rfl ?_
      refine x_goto (tgt := 174) C dX11_readsPart_170 (by decide) ?_
      refine x_iconst (v := 0) C dX11_readsPart_174 rfl ?_
      refine x_callv (rest := []) C sv_X11_199 ob11 z11 (kX11_readsAsked hG _ _ _ h) rfl rfl (Nat.le_of_ble_eq_true rfl) ⟨Nat.le_of_ble_eq_true rfl, Nat.le_of_ble_eq_true rfl⟩ rfl rfl ⟨Nat.le_of_ble_eq_true rfl, Nat.le_of_ble_eq_true rfl⟩ dX11_readsPart_175 (fun M37 h => ?_)
      refine X_sub (lv' := [(0, .ref (ga G 11 0)), (1, .int y1)]) [0, 1] rfl ?_
      exact wX11_readsPart_178 hG C E M37 y1 h
  · replace h := h.2 c32
    refine x_iconst (v := 1) C dX11_readsPart_159 rfl ?_
    refine x_goto (tgt := 174) C dX11_readsPart_160 (by decide) ?_
    refine x_iconst (v := 0) C dX11_readsPart_174 rfl ?_
    refine x_callv (rest := []) C sv_X11_199 ob11 z11 (kX11_readsAsked hG _ _ _ h) rfl rfl (Nat.le_of_ble_eq_true rfl) ⟨Nat.le_of_ble_eq_true rfl, Nat.le_of_ble_eq_true rfl⟩ rfl rfl ⟨Nat.le_of_ble_eq_true rfl, Nat.le_of_ble_eq_true rfl⟩ dX11_readsPart_175 (fun M39 h => ?_)
    refine X_sub (lv' := [(0, .ref (ga G 11 0)), (1, .int y1)]) [0, 1] rfl ?_
    exact wX11_readsPart_178 hG C E M39 y1 h
set_option maxRecDepth 100000 in
set_option maxHeartbeats 400000 in
theorem wX11_readsPart_87 {Γ : Gam} {G : Gm} {Qf : State → Prop} (hG : Gd G) (C : Cx Γ G cX11_readsPart 3 RX11 none rmX11_readsPart)  {Q : Mem → Prop} (E : EndV Γ G Qf rmX11_readsPart Q) (M : Mem) (y1 : Int32) (h : bX11_readsPart_87 Q M y1) : X Γ G Qf 3 0 0 87 [(0, .ref (ga G 11 0)), (1, .int y1)] [] M := by
  unfold bX11_readsPart_87 at h
  refine x_aload_n C dX11_readsPart_87 0 rfl ?_
  refine x_calli (rest := []) C sv_X11_154 ob11 z11 (kX11_fine hG _ h) rfl rfl (Nat.le_of_ble_eq_true rfl) ⟨Nat.le_of_ble_eq_true rfl, Nat.le_of_ble_eq_true rfl⟩ rfl rfl ⟨Nat.le_of_ble_eq_true rfl, Nat.le_of_ble_eq_true rfl⟩ dX11_readsPart_88 (fun r17 M18 h => ?_)
  refine x_if_ne (tgt := 95) C dX11_readsPart_91 (by decide) (fun c19 => ?_) (fun c19 => ?_)
  · replace h := h.1 c19
    refine x_iload_n C dX11_readsPart_95 1 rfl ?_
    refine x_bipush (v := 126) C dX11_readsPart_96 rfl ?_
    refine x_icmp_ne (tgt := 122) C dX11_readsPart_98 (by decide) (fun c20 => ?_) (fun c20 => ?_)
    · replace h := h.1 c20
      refine x_iload_n C dX11_readsPart_122 1 rfl ?_
      refine x_bipush (v := 34) C dX11_readsPart_123 rfl ?_
      refine x_icmp_ne (tgt := 135) C dX11_readsPart_125 (by decide) (fun c21 => ?_) (fun c21 => ?_)
      · replace h := h.1 c21
        refine x_iload_n C dX11_readsPart_135 1 rfl ?_
        refine x_scalli (rest := []) C ss_X11_146 (kX11_isSmall hG _ _ h) rfl rfl (Nat.le_of_ble_eq_true rfl) ⟨Nat.le_of_ble_eq_true rfl, Nat.le_of_ble_eq_true rfl⟩ rfl rfl ⟨Nat.le_of_ble_eq_true rfl, Nat.le_of_ble_eq_true rfl⟩ dX11_readsPart_136 (fun r22 M23 h => ?_)
        refine x_if_ne (tgt := 152) C dX11_readsPart_139 (by decide) (fun c24 => ?_) (fun c24 => ?_)
        · replace h := h.1 c24
          refine X_sub (lv' := [(0, .ref (ga G 11 0)), (1, .int y1)]) [0, 1] rfl ?_
          exact wX11_readsPart_152 hG C E M23 y1 h
        · replace h := h.2 c24
          refine x_aload_n C dX11_readsPart_142 0 rfl ?_
          refine x_dup C dX11_readsPart_143 rfl ?_
          refine gf_11_4 C q150 z11 dX11_readsPart_144 ?_
          refine x_iconst (v := 1) C dX11_readsPart_147 rfl ?_
          refine x_iadd C dX11_readsPart_148 ?_
          refine pf_11_4 C q150 z11 dX11_readsPart_149 ?_
          refine X_nameM (fun M25 eM25 => ?_)
          replace h := h M25 eM25
          refine X_sub (lv' := [(0, .ref (ga G 11 0)), (1, .int y1)]) [0, 1] rfl ?_
          exact wX11_readsPart_152 hG C E M25 y1 h
      · replace h := h.2 c21
        refine x_aload_n C dX11_readsPart_128 0 rfl ?_
        refine x_callv (rest := []) C sv_X11_208 ob11 z11 (kX11_readsPhrase hG _ h) rfl rfl (Nat.le_of_ble_eq_true rfl) ⟨Nat.le_of_ble_eq_true rfl, Nat.le_of_ble_eq_true rfl⟩ rfl rfl ⟨Nat.le_of_ble_eq_true rfl, Nat.le_of_ble_eq_true rfl⟩ dX11_readsPart_129 (fun M27 h => ?_)
        refine x_goto (tgt := 231) C dX11_readsPart_132 (by decide) ?_
        refine X_sub (lv' := [(0, .ref (ga G 11 0))]) [0] rfl ?_
        exact wX11_readsPart_231 hG C E M27 h
    · replace h := h.2 c20
      refine x_aload_n C dX11_readsPart_101 0 rfl ?_
      refine x_dup C dX11_readsPart_102 rfl ?_
      refine gf_11_4 C q150 z11 dX11_readsPart_103 ?_
      refine x_iconst (v := 1) C dX11_readsPart_106 rfl ?_
      refine x_iadd C dX11_readsPart_107 ?_
      refine pf_11_4 C q150 z11 dX11_readsPart_108 ?_
      refine X_nameM (fun M28 eM28 => ?_)
      replace h := h M28 eM28
      refine x_aload_n C dX11_readsPart_111 0 rfl ?_
      refine x_aload_n C dX11_readsPart_112 0 rfl ?_
      refine x_calli (rest := [.ref (ga G 11 0)]) C sv_X11_205 ob11 z11 (kX11_digit hG _ h) rfl rfl (Nat.le_of_ble_eq_true rfl) ⟨Nat.le_of_ble_eq_true rfl, Nat.le_of_ble_eq_true rfl⟩ rfl rfl ⟨Nat.le_of_ble_eq_true rfl, Nat.le_of_ble_eq_true rfl⟩ dX11_readsPart_113 (fun r29 M30 h => ?_)
      refine pf_11_35 C q167 z11 dX11_readsPart_116 ?_
      refine X_nameM (fun M31 eM31 => ?_)
      replace h := h M31 eM31
      refine x_goto (tgt := 231) C dX11_readsPart_119 (by decide) ?_
      refine X_sub (lv' := [(0, .ref (ga G 11 0))]) [0] rfl ?_
      exact wX11_readsPart_231 hG C E M31 h
  · replace h := h.2 c19
    exact x_vret C E h (Nat.le_of_ble_eq_true rfl) (Nat.le_of_ble_eq_true rfl) dX11_readsPart_94
set_option maxRecDepth 100000 in
set_option maxHeartbeats 400000 in
theorem wX11_readsPart_53 {Γ : Gam} {G : Gm} {Qf : State → Prop} (hG : Gd G) (C : Cx Γ G cX11_readsPart 3 RX11 none rmX11_readsPart)  {Q : Mem → Prop} (E : EndV Γ G Qf rmX11_readsPart Q) (M : Mem) (y1 : Int32) (y2 : Int32) (h : bX11_readsPart_53 Q M y1 y2) : X Γ G Qf 3 0 0 53 [(0, .ref (ga G 11 0)), (1, .int y1), (2, .int y2)] [] M := by
  unfold bX11_readsPart_53 at h
  refine x_iload_n C dX11_readsPart_53 2 rfl ?_
  refine x_if_ne (tgt := 69) C dX11_readsPart_54 (by decide) (fun c11 => ?_) (fun c11 => ?_)
  · replace h := h.1 c11
    refine x_aload_n C dX11_readsPart_69 0 rfl ?_
    refine gf_11_34 C q166 z11 dX11_readsPart_70 ?_
    refine x_bipush (v := 6) C dX11_readsPart_73 rfl ?_
    refine x_icmp_ne (tgt := 87) C dX11_readsPart_75 (by decide) (fun c12 => ?_) (fun c12 => ?_)
    · replace h := h.1 c12
      refine X_sub (lv' := [(0, .ref (ga G 11 0)), (1, .int y1)]) [0, 1] rfl ?_
      exact wX11_readsPart_87 hG C E M y1 h
    · replace h := h.2 c12
      refine x_aload_n C dX11_readsPart_78 0 rfl ?_
      refine x_iconst (v := 2) C dX11_readsPart_79 rfl ?_
      refine x_aload_n C dX11_readsPart_80 0 rfl ?_
      refine gf_11_4 C q150 z11 dX11_readsPart_81 ?_
      refine x_callv (rest := []) C sv_X11_150 ob11 z11 (kX11_wrong hG _ _ _ h) rfl rfl (Nat.le_of_ble_eq_true rfl) ⟨Nat.le_of_ble_eq_true rfl, Nat.le_of_ble_eq_true rfl⟩ rfl rfl ⟨Nat.le_of_ble_eq_true rfl, Nat.le_of_ble_eq_true rfl⟩ dX11_readsPart_84 (fun M14 h => ?_)
      refine X_sub (lv' := [(0, .ref (ga G 11 0)), (1, .int y1)]) [0, 1] rfl ?_
      exact wX11_readsPart_87 hG C E M14 y1 h
  · replace h := h.2 c11
    refine x_aload_n C dX11_readsPart_57 0 rfl ?_
    refine x_iconst (v := 1) C dX11_readsPart_58 rfl ?_
    refine x_aload_n C dX11_readsPart_59 0 rfl ?_
    refine gf_11_4 C q150 z11 dX11_readsPart_60 ?_
    refine x_callv (rest := []) C sv_X11_150 ob11 z11 (kX11_wrong hG _ _ _ h) rfl rfl (Nat.le_of_ble_eq_true rfl) ⟨Nat.le_of_ble_eq_true rfl, Nat.le_of_ble_eq_true rfl⟩ rfl rfl ⟨Nat.le_of_ble_eq_true rfl, Nat.le_of_ble_eq_true rfl⟩ dX11_readsPart_63 (fun M16 h => ?_)
    refine x_goto (tgt := 87) C dX11_readsPart_66 (by decide) ?_
    refine X_sub (lv' := [(0, .ref (ga G 11 0)), (1, .int y1)]) [0, 1] rfl ?_
    exact wX11_readsPart_87 hG C E M16 y1 h
set_option maxRecDepth 100000 in
set_option maxHeartbeats 400000 in
theorem wX11_readsPart_47 {Γ : Gam} {G : Gm} {Qf : State → Prop} (hG : Gd G) (C : Cx Γ G cX11_readsPart 3 RX11 none rmX11_readsPart)  {Q : Mem → Prop} (E : EndV Γ G Qf rmX11_readsPart Q) (M : Mem) (y1 : Int32) (h : bX11_readsPart_47 Q M y1) : X Γ G Qf 3 0 0 47 [(0, .ref (ga G 11 0)), (1, .int y1)] [] M := by
  unfold bX11_readsPart_47 at h
  refine x_iconst (v := 1) C dX11_readsPart_47 rfl ?_
  refine x_goto (tgt := 52) C dX11_readsPart_48 (by decide) ?_
  refine x_istore_n (lv' := [(2, .int 1), (0, .ref (ga G 11 0)), (1, .int y1)]) C dX11_readsPart_52 rfl (Nat.le_of_ble_eq_true rfl) rfl ?_
  refine X_sub (lv' := [(0, .ref (ga G 11 0)), (1, .int y1), (2, .int 1)]) [1, 2, 0] rfl ?_
  exact wX11_readsPart_53 hG C E M y1 1 h
set_option maxRecDepth 100000 in
set_option maxHeartbeats 400000 in
theorem wX11_readsPart_51 {Γ : Gam} {G : Gm} {Qf : State → Prop} (hG : Gd G) (C : Cx Γ G cX11_readsPart 3 RX11 none rmX11_readsPart)  {Q : Mem → Prop} (E : EndV Γ G Qf rmX11_readsPart Q) (M : Mem) (y1 : Int32) (h : bX11_readsPart_51 Q M y1) : X Γ G Qf 3 0 0 51 [(0, .ref (ga G 11 0)), (1, .int y1)] [] M := by
  unfold bX11_readsPart_51 at h
  refine x_iconst (v := 0) C dX11_readsPart_51 rfl ?_
  refine x_istore_n (lv' := [(2, .int 0), (0, .ref (ga G 11 0)), (1, .int y1)]) C dX11_readsPart_52 rfl (Nat.le_of_ble_eq_true rfl) rfl ?_
  refine X_sub (lv' := [(0, .ref (ga G 11 0)), (1, .int y1), (2, .int 0)]) [1, 2, 0] rfl ?_
  exact wX11_readsPart_53 hG C E M y1 0 h
set_option maxRecDepth 100000 in
set_option maxHeartbeats 400000 in
theorem kX11_readsPart {l : Launch} {G : Gm} (hG : Gd G) (M : Mem)  {Q : Mem → Prop} (h : pX11_readsPart M Q) : Ctv l G yX11_readsPart cX11_readsPart 3 rmX11_readsPart [.ref (ga G 11 0)] M Q := by
  refine ctv_of (own := RX11) (by decide +kernel) rfl (Nat.le_of_ble_eq_true rfl) hG (fun Γ Qf hl C E => ?_)
  subst hl
  show X Γ G Qf 3 0 0 0 [(0, .ref (ga G 11 0))] [] M
  unfold pX11_readsPart at h
  refine x_aload_n C dX11_readsPart_0 0 rfl ?_
  refine x_aload_n C dX11_readsPart_1 0 rfl ?_
  refine gf_11_4 C q150 z11 dX11_readsPart_2 ?_
  refine x_calli (rest := []) C sv_X11_135 ob11 z11 (kX11_byteAt hG _ _ h) rfl rfl (Nat.le_of_ble_eq_true rfl) ⟨Nat.le_of_ble_eq_true rfl, Nat.le_of_ble_eq_true rfl⟩ rfl rfl ⟨Nat.le_of_ble_eq_true rfl, Nat.le_of_ble_eq_true rfl⟩ dX11_readsPart_5 (fun r1 M2 h => ?_)
  refine x_istore_n (lv' := [(1, .int r1), (0, .ref (ga G 11 0))]) C dX11_readsPart_8 rfl (Nat.le_of_ble_eq_true rfl) rfl ?_
  refine x_iload_n C dX11_readsPart_9 0 rfl ?_
  refine x_scalli (rest := []) C ss_X11_146 (kX11_isSmall hG _ _ h) rfl rfl (Nat.le_of_ble_eq_true rfl) ⟨Nat.le_of_ble_eq_true rfl, Nat.le_of_ble_eq_true rfl⟩ rfl rfl ⟨Nat.le_of_ble_eq_true rfl, Nat.le_of_ble_eq_true rfl⟩ dX11_readsPart_10 (fun r3 M4 h => ?_)
  refine x_if_ne (tgt := 47) C dX11_readsPart_13 (by decide) (fun c5 => ?_) (fun c5 => ?_)
  · replace h := h.1 c5
    refine X_sub (lv' := [(0, .ref (ga G 11 0)), (1, .int r1)]) [1, 0] rfl ?_
    exact wX11_readsPart_47 hG C E M4 r1 h
  · replace h := h.2 c5
    refine x_iload_n C dX11_readsPart_16 0 rfl ?_
    refine x_bipush (v := 43) C dX11_readsPart_17 rfl ?_
    refine x_icmp_eq (tgt := 47) C dX11_readsPart_19 (by decide) (fun c6 => ?_) (fun c6 => ?_)
    · replace h := h.1 c6
      refine X_sub (lv' := [(0, .ref (ga G 11 0)), (1, .int r1)]) [1, 0] rfl ?_
      exact wX11_readsPart_47 hG C E M4 r1 h
    · replace h := h.2 c6
      refine x_iload_n C dX11_readsPart_22 0 rfl ?_
      refine x_bipush (v := 45) C dX11_readsPart_23 rfl ?_
      refine x_icmp_eq (tgt := 47) C dX11_readsPart_25 (by decide) (fun c7 => ?_) (fun c7 => ?_)
      · replace h := h.1 c7
        refine X_sub (lv' := [(0, .ref (ga G 11 0)), (1, .int r1)]) [1, 0] rfl ?_
        exact wX11_readsPart_47 hG C E M4 r1 h
      · replace h := h.2 c7
        refine x_iload_n C dX11_readsPart_28 0 rfl ?_
        refine x_bipush (v := 34) C dX11_readsPart_29 rfl ?_
        refine x_icmp_eq (tgt := 47) C dX11_readsPart_31 (by decide) (fun c8 => ?_) (fun c8 => ?_)
        · replace h := h.1 c8
          refine X_sub (lv' := [(0, .ref (ga G 11 0)), (1, .int r1)]) [1, 0] rfl ?_
          exact wX11_readsPart_47 hG C E M4 r1 h
        · replace h := h.2 c8
          refine x_iload_n C dX11_readsPart_34 0 rfl ?_
          refine x_bipush (v := 126) C dX11_readsPart_35 rfl ?_
          refine x_icmp_ne (tgt := 51) C dX11_readsPart_37 (by decide) (fun c9 => ?_) (fun c9 => ?_)
          · replace h := h.1 c9
            refine X_sub (lv' := [(0, .ref (ga G 11 0)), (1, .int r1)]) [1, 0] rfl ?_
            exact wX11_readsPart_51 hG C E M4 r1 h
          · replace h := h.2 c9
            refine x_aload_n C dX11_readsPart_40 1 rfl ?_
            refine gf_11_35 C q167 z11 dX11_readsPart_41 ?_
            refine x_if_ne (tgt := 51) C dX11_readsPart_44 (by decide) (fun c10 => ?_) (fun c10 => ?_)
            · replace h := h.1 c10
              refine X_sub (lv' := [(0, .ref (ga G 11 0)), (1, .int r1)]) [1, 0] rfl ?_
              exact wX11_readsPart_51 hG C E M4 r1 h
            · replace h := h.2 c10
              refine X_sub (lv' := [(0, .ref (ga G 11 0)), (1, .int r1)]) [1, 0] rfl ?_
              exact wX11_readsPart_47 hG C E M4 r1 h
def rmX11_scores : Room := { frames := 0, cells := 0, slots := 0, locals := 0 }
def bX11_scores_2 (x1 : Int32) (x2 : Int32) (Q : Mem → Prop) (L2 : Mem × Int32 → Prop) (M : Mem) (y3 : Int32) : Prop :=
  (((M.1 1218 0 0) ≤ y3 → vp_in (M.1 1218 0 0) 24 ∧ ∀ M3 : Mem, M3 = up1 M 1225 0 (tn (M.1 1218 0 0)) x1 → vp_in (M3.1 1218 0 0) 24 ∧ ∀ M5 : Mem, M5 = up1 M3 1226 0 (tn (M3.1 1218 0 0)) x2 → ∀ M6 : Mem, M6 = up1 M5 1218 0 0 ((M5.1 1218 0 0) + 1) → Q M6) ∧ (¬ (M.1 1218 0 0) ≤ y3 → vp_in y3 24 ∧ (((M.1 1225 0 (tn y3)) = x1 → ∀ M9 : Mem, M9 = up1 M 1226 0 (tn y3) ((M.1 1226 0 (tn y3)) + x2) → Q M9) ∧ (¬ (M.1 1225 0 (tn y3)) = x1 → ∀ v10 : Int32, v10 = y3 + 1 → L2 (M, v10)))))
def pX11_scores (M : Mem) (x1 : Int32) (x2 : Int32) (Q : Mem → Prop) : Prop :=
  ∃ n : Nat, lp (fun L s => bX11_scores_2 x1 x2 Q L s.1 s.2) n (M, 0)
set_option maxRecDepth 100000 in
set_option maxHeartbeats 400000 in
theorem wX11_scores_2 {Γ : Gam} {G : Gm} {Qf : State → Prop} (hG : Gd G) (C : Cx Γ G cX11_scores 4 RX11 none rmX11_scores) {x1 : Int32} {x2 : Int32} {Q : Mem → Prop} (E : EndV Γ G Qf rmX11_scores Q) {L2 : Mem × Int32 → Prop} (hL2 : ∀ s, L2 s → X Γ G Qf 4 0 0 2 [(0, .ref (ga G 11 0)), (1, .int x1), (2, .int x2), (3, .int s.2)] [] s.1) (M : Mem) (y3 : Int32) (h : bX11_scores_2 x1 x2 Q L2 M y3) : X Γ G Qf 4 0 0 2 [(0, .ref (ga G 11 0)), (1, .int x1), (2, .int x2), (3, .int y3)] [] M := by
  unfold bX11_scores_2 at h
  refine x_iload_n C dX11_scores_2 3 rfl ?_
  refine x_aload_n C dX11_scores_3 0 rfl ?_
  refine gf_11_18 C q168 z11 dX11_scores_4 ?_
  refine x_icmp_ge (tgt := 40) C dX11_scores_7 (by decide) (fun c1 => ?_) (fun c1 => ?_)
  · replace h := h.1 c1
    refine x_aload_n C dX11_scores_40 0 rfl ?_
    refine gf_11_25 C q169 z11 dX11_scores_41 ?_
    refine x_aload_n C dX11_scores_44 0 rfl ?_
    refine gf_11_18 C q168 z11 dX11_scores_45 ?_
    refine x_iload_n C dX11_scores_48 1 rfl ?_
    obtain ⟨f2, h⟩ := h
    refine as_1225 C z1225 f2 dX11_scores_49 ?_
    refine X_nameM (fun M3 eM3 => ?_)
    replace h := h M3 eM3
    refine x_aload_n C dX11_scores_50 0 rfl ?_
    refine gf_11_26 C q170 z11 dX11_scores_51 ?_
    refine x_aload_n C dX11_scores_54 0 rfl ?_
    refine gf_11_18 C q168 z11 dX11_scores_55 ?_
    refine x_iload_n C dX11_scores_58 2 rfl ?_
    obtain ⟨f4, h⟩ := h
    refine as_1226 C z1226 f4 dX11_scores_59 ?_
    refine X_nameM (fun M5 eM5 => ?_)
    replace h := h M5 eM5
    refine x_aload_n C dX11_scores_60 0 rfl ?_
    refine x_dup C dX11_scores_61 rfl ?_
    refine gf_11_18 C q168 z11 dX11_scores_62 ?_
    refine x_iconst (v := 1) C dX11_scores_65 rfl ?_
    refine x_iadd C dX11_scores_66 ?_
    refine pf_11_18 C q168 z11 dX11_scores_67 ?_
    refine X_nameM (fun M6 eM6 => ?_)
    replace h := h M6 eM6
    exact x_vret C E h (Nat.le_of_ble_eq_true rfl) (Nat.le_of_ble_eq_true rfl) dX11_scores_70
  · replace h := h.2 c1
    refine x_aload_n C dX11_scores_10 0 rfl ?_
    refine gf_11_25 C q169 z11 dX11_scores_11 ?_
    refine x_iload_n C dX11_scores_14 3 rfl ?_
    obtain ⟨f7, h⟩ := h
    refine al_1225 C z1225 f7 dX11_scores_15 ?_
    refine x_iload_n C dX11_scores_16 1 rfl ?_
    refine x_icmp_eq (tgt := 23) C dX11_scores_17 (by decide) (fun c8 => ?_) (fun c8 => ?_)
    · replace h := h.1 c8
      refine x_aload_n C dX11_scores_23 0 rfl ?_
      refine gf_11_26 C q170 z11 dX11_scores_24 ?_
      refine x_iload_n C dX11_scores_27 3 rfl ?_
      refine x_dup2 C dX11_scores_28 rfl rfl ?_
      refine al_1226 C z1226 f7 dX11_scores_29 ?_
      refine x_iload_n C dX11_scores_30 2 rfl ?_
      refine x_iadd C dX11_scores_31 ?_
      refine as_1226 C z1226 f7 dX11_scores_32 ?_
      refine X_nameM (fun M9 eM9 => ?_)
      replace h := h M9 eM9
      exact x_vret C E h (Nat.le_of_ble_eq_true rfl) (Nat.le_of_ble_eq_true rfl) dX11_scores_33
    · replace h := h.2 c8
      refine x_goto (tgt := 34) C dX11_scores_20 (by decide) ?_
      obtain ⟨v10, ev10⟩ : ∃ z : Int32, z = y3 + 1 := ⟨_, rfl⟩
      replace h := h v10 ev10
      refine x_iinc (v := v10) (lv' := [(3, .int v10), (0, .ref (ga G 11 0)), (1, .int x1), (2, .int x2)]) (j := 3) C dX11_scores_34 rfl (by rw [ev10]; rfl) (Nat.le_of_ble_eq_true rfl) rfl ?_
      refine x_goto (tgt := 2) C dX11_scores_37 (by decide) ?_
      refine X_sub (lv' := [(0, .ref (ga G 11 0)), (1, .int x1), (2, .int x2), (3, .int v10)]) [1, 2, 3, 0] rfl ?_
      have w9 := hL2 (M, v10) h
      dsimp only at w9
      exact w9
set_option maxRecDepth 100000 in
set_option maxHeartbeats 400000 in
theorem kX11_scores {l : Launch} {G : Gm} (hG : Gd G) (M : Mem) (x1 : Int32) (x2 : Int32) {Q : Mem → Prop} (h : pX11_scores M x1 x2 Q) : Ctv l G yX11_scores cX11_scores 4 rmX11_scores [.ref (ga G 11 0), .int x1, .int x2] M Q := by
  refine ctv_of (own := RX11) (by decide +kernel) rfl (Nat.le_of_ble_eq_true rfl) hG (fun Γ Qf hl C E => ?_)
  subst hl
  show X Γ G Qf 4 0 0 0 [(0, .ref (ga G 11 0)), (1, .int x1), (2, .int x2)] [] M
  unfold pX11_scores at h
  refine x_iconst (v := 0) C dX11_scores_0 rfl ?_
  refine x_istore_n (lv' := [(3, .int 0), (0, .ref (ga G 11 0)), (1, .int x1), (2, .int x2)]) C dX11_scores_1 rfl (Nat.le_of_ble_eq_true rfl) rfl ?_
  obtain ⟨n9, h⟩ := h
  refine X_sub (lv' := [(0, .ref (ga G 11 0)), (1, .int x1), (2, .int x2), (3, .int 0)]) [1, 2, 3, 0] rfl ?_
  have hb : ∀ (L : Mem × Int32 → Prop) (s : Mem × Int32), (∀ t, L t → X Γ G Qf 4 0 0 2 [(0, .ref (ga G 11 0)), (1, .int x1), (2, .int x2), (3, .int t.2)] [] t.1) → bX11_scores_2 x1 x2 Q L s.1 s.2 → X Γ G Qf 4 0 0 2 [(0, .ref (ga G 11 0)), (1, .int x1), (2, .int x2), (3, .int s.2)] [] s.1 := fun L s hL h => wX11_scores_2 hG C E hL s.1 s.2 h
  have w9 := lp_walk (P := fun s : Mem × Int32 => X Γ G Qf 4 0 0 2 [(0, .ref (ga G 11 0)), (1, .int x1), (2, .int x2), (3, .int s.2)] [] s.1) h hb
  dsimp only at w9
  exact w9
