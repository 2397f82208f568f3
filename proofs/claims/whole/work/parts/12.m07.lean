def rmX11_seeks : Room := { frames := 3, cells := 0, slots := 0, locals := 65 }
def bX11_seeks_105 (x1 : Int32) (x2 : Int32) (Q : Mem → Prop) (L105 : Mem × Int32 → Prop) (M : Mem) (y4 : Int32) : Prop :=
  vp_in x1 24 ∧ vp_in y4 64 ∧ ((x2 ≤ (M.1 6243 (tn x1) (tn y4)) → ∀ M21 : Mem, M21 = up1 M 1250 0 (tn x1) (M.1 6243 (tn x1) (tn y4)) → Q M21) ∧ (¬ x2 ≤ (M.1 6243 (tn x1) (tn y4)) → ∀ v22 : Int32, v22 = y4 + 1 → L105 (M, v22)))
def bX11_seeks_97 (x1 : Int32) (x2 : Int32) (Q : Mem → Prop) (M : Mem) (y3 : Int32) : Prop :=
  ∀ v17 : Int32, v17 = (y3 * (M.1 1263 0 0)) → ∃ n : Nat, lp (fun L s => bX11_seeks_105 x1 x2 Q L s.1 s.2) n (M, v17)
def bX11_seeks_26 (x1 : Int32) (x2 : Int32) (Q : Mem → Prop) (M : Mem) : Prop :=
  vp_in x1 24 ∧ (((M.1 1253 0 (tn x1)) = 0 → ∀ v8 : Int32, v8 = (M.1 1249 0 (tn x1)) → (((M.1 1251 0 (tn x1)) = v8 → bX11_seeks_97 x1 x2 Q M v8) ∧ (¬ (M.1 1251 0 (tn x1)) = v8 → ∀ M10 : Mem, M10 = up1 M 1251 0 (tn x1) v8 → vp_in v8 32 ∧ ∀ M12 : Mem, M12 = up1 M10 6245 (tn x1) (tn v8) ((M10.1 6245 (tn x1) (tn v8)) + 1) → ∀ M13 : Mem, M13 = up1 M12 1258 0 0 ((M12.1 1258 0 0) + 1) → pX11_manyOf M13 x1 v8 (fun r14 M15 => ∀ M16 : Mem, M16 = up1 M15 1259 0 0 ((M13.1 1259 0 0) + r14) → bX11_seeks_97 x1 x2 Q M16 v8)))) ∧ (¬ (M.1 1253 0 (tn x1)) = 0 → Q M))
def pX11_seeks (M : Mem) (x1 : Int32) (x2 : Int32) (Q : Mem → Prop) : Prop :=
  ∀ M1 : Mem, M1 = up1 M 1260 0 0 ((M.1 1260 0 0) + 1) → vp_in x1 24 ∧ ((x2 ≤ (M1.1 1250 0 (tn x1)) → bX11_seeks_26 x1 x2 Q M1) ∧ (¬ x2 ≤ (M1.1 1250 0 (tn x1)) → pX11_dips M1 x1 x2 (fun M5 => bX11_seeks_26 x1 x2 Q M5)))
set_option maxRecDepth 100000 in
set_option maxHeartbeats 400000 in
theorem wX11_seeks_105 {Γ : Gam} {G : Gm} {Qf : State → Prop} (hG : Gd G) (C : Cx Γ G cX11_seeks 5 RX11 none rmX11_seeks) {x1 : Int32} {x2 : Int32} {Q : Mem → Prop} (E : EndV Γ G Qf rmX11_seeks Q) {L105 : Mem × Int32 → Prop} (hL105 : ∀ s, L105 s → X Γ G Qf 5 0 0 105 [(0, .ref (ga G 11 0)), (1, .int x1), (2, .int x2), (4, .int s.2)] [] s.1) (M : Mem) (y4 : Int32) (h : bX11_seeks_105 x1 x2 Q L105 M y4) : X Γ G Qf 5 0 0 105 [(0, .ref (ga G 11 0)), (1, .int x1), (2, .int x2), (4, .int y4)] [] M := by
  unfold bX11_seeks_105 at h
  refine x_aload_n C dX11_seeks_105 0 rfl ?_
  refine gf_11_43 C q187 z11 dX11_seeks_106 ?_
  refine x_iload_n C dX11_seeks_109 1 rfl ?_
  obtain ⟨f18, h⟩ := h
  refine al_1243 C z1243 f18 dX11_seeks_110 ?_
  refine x_iload C dX11_seeks_111 3 rfl ?_
  obtain ⟨f19, h⟩ := h
  refine al_6243 C (vp_lt f18) f19 dX11_seeks_113 ?_
  refine x_iload_n C dX11_seeks_114 2 rfl ?_
  refine x_icmp_ge (tgt := 124) C dX11_seeks_115 (by decide) (fun c20 => ?_) (fun c20 => ?_)
  · replace h := h.1 c20
    refine x_aload_n C dX11_seeks_124 0 rfl ?_
    refine gf_11_50 C q197 z11 dX11_seeks_125 ?_
    refine x_iload_n C dX11_seeks_128 1 rfl ?_
    refine x_aload_n C dX11_seeks_129 0 rfl ?_
    refine gf_11_43 C q187 z11 dX11_seeks_130 ?_
    refine x_iload_n C dX11_seeks_133 1 rfl ?_
    refine al_1243 C z1243 f18 dX11_seeks_134 ?_
    refine x_iload C dX11_seeks_135 3 rfl ?_
    refine al_6243 C (vp_lt f18) f19 dX11_seeks_137 ?_
    refine as_1250 C z1250 f18 dX11_seeks_138 ?_
    refine X_nameM (fun M21 eM21 => ?_)
    replace h := h M21 eM21
    exact x_vret C E h (Nat.le_of_ble_eq_true rfl) (Nat.le_of_ble_eq_true rfl) dX11_seeks_139
  · replace h := h.2 c20
    obtain ⟨v22, ev22⟩ : ∃ z : Int32, z = y4 + 1 := ⟨_, rfl⟩
    replace h := h v22 ev22
    refine x_iinc (v := v22) (lv' := [(4, .int v22), (0, .ref (ga G 11 0)), (1, .int x1), (2, .int x2)]) (j := 3) C dX11_seeks_118 rfl (by rw [ev22]; rfl) (Nat.le_of_ble_eq_true rfl) rfl ?_
    refine x_goto (tgt := 105) C dX11_seeks_121 (by decide) ?_
    refine X_sub (lv' := [(0, .ref (ga G 11 0)), (1, .int x1), (2, .int x2), (4, .int v22)]) [1, 2, 3, 0] rfl ?_
    have w9 := hL105 (M, v22) h
    dsimp only at w9
    exact w9
set_option maxRecDepth 100000 in
set_option maxHeartbeats 400000 in
theorem wX11_seeks_97 {Γ : Gam} {G : Gm} {Qf : State → Prop} (hG : Gd G) (C : Cx Γ G cX11_seeks 5 RX11 none rmX11_seeks) {x1 : Int32} {x2 : Int32} {Q : Mem → Prop} (E : EndV Γ G Qf rmX11_seeks Q) (M : Mem) (y3 : Int32) (h : bX11_seeks_97 x1 x2 Q M y3) : X Γ G Qf 5 0 0 97 [(0, .ref (ga G 11 0)), (1, .int x1), (2, .int x2), (3, .int y3)] [] M := by
  unfold bX11_seeks_97 at h
  refine x_iload_n C dX11_seeks_97 3 rfl ?_
  refine x_aload_n C dX11_seeks_98 0 rfl ?_
  refine gf_11_63 C q189 z11 dX11_seeks_99 ?_
  refine x_imul C dX11_seeks_102 ?_
  refine X_name (fun v17 ev17 => ?_)
  replace h := h v17 ev17
  refine x_istore (lv' := [(4, .int v17), (0, .ref (ga G 11 0)), (1, .int x1), (2, .int x2), (3, .int y3)]) C dX11_seeks_103 (Nat.le_of_ble_eq_true rfl) rfl ?_
  obtain ⟨n9, h⟩ := h
  refine X_sub (lv' := [(0, .ref (ga G 11 0)), (1, .int x1), (2, .int x2), (4, .int v17)]) [1, 2, 3, 0] rfl ?_
  have hb : ∀ (L : Mem × Int32 → Prop) (s : Mem × Int32), (∀ t, L t → X Γ G Qf 5 0 0 105 [(0, .ref (ga G 11 0)), (1, .int x1), (2, .int x2), (4, .int t.2)] [] t.1) → bX11_seeks_105 x1 x2 Q L s.1 s.2 → X Γ G Qf 5 0 0 105 [(0, .ref (ga G 11 0)), (1, .int x1), (2, .int x2), (4, .int s.2)] [] s.1 := fun L s hL h => wX11_seeks_105 hG C E hL s.1 s.2 h
  have w9 := lp_walk (P := fun s : Mem × Int32 => X Γ G Qf 5 0 0 105 [(0, .ref (ga G 11 0)), (1, .int x1), (2, .int x2), (4, .int s.2)] [] s.1) h hb
  dsimp only at w9
  exact w9
set_option maxRecDepth 100000 in
set_option maxHeartbeats 400000 in
theorem wX11_seeks_26 {Γ : Gam} {G : Gm} {Qf : State → Prop} (hG : Gd G) (C : Cx Γ G cX11_seeks 5 RX11 none rmX11_seeks) {x1 : Int32} {x2 : Int32} {Q : Mem → Prop} (E : EndV Γ G Qf rmX11_seeks Q) (M : Mem) (h : bX11_seeks_26 x1 x2 Q M) : X Γ G Qf 5 0 0 26 [(0, .ref (ga G 11 0)), (1, .int x1), (2, .int x2)] [] M := by
  unfold bX11_seeks_26 at h
  refine x_aload_n C dX11_seeks_26 0 rfl ?_
  refine gf_11_53 C q195 z11 dX11_seeks_27 ?_
  refine x_iload_n C dX11_seeks_30 1 rfl ?_
  obtain ⟨f6, h⟩ := h
  refine al_1253 C z1253 f6 dX11_seeks_31 ?_
  refine x_if_eq (tgt := 36) C dX11_seeks_32 (by decide) (fun c7 => ?_) (fun c7 => ?_)
  · replace h := h.1 c7
    refine x_aload_n C dX11_seeks_36 0 rfl ?_
    refine gf_11_49 C q193 z11 dX11_seeks_37 ?_
    refine x_iload_n C dX11_seeks_40 1 rfl ?_
    refine al_1249 C z1249 f6 dX11_seeks_41 ?_
    refine X_name (fun v8 ev8 => ?_)
    replace h := h v8 ev8
    refine x_istore_n (lv' := [(3, .int v8), (0, .ref (ga G 11 0)), (1, .int x1), (2, .int x2)]) C dX11_seeks_42 rfl (Nat.le_of_ble_eq_true rfl) rfl ?_
    refine x_aload_n C dX11_seeks_43 1 rfl ?_
    refine gf_11_51 C q194 z11 dX11_seeks_44 ?_
    refine x_iload_n C dX11_seeks_47 2 rfl ?_
    refine al_1251 C z1251 f6 dX11_seeks_48 ?_
    refine x_iload_n C dX11_seeks_49 0 rfl ?_
    refine x_icmp_eq (tgt := 97) C dX11_seeks_50 (by decide) (fun c9 => ?_) (fun c9 => ?_)
    · replace h := h.1 c9
      refine X_sub (lv' := [(0, .ref (ga G 11 0)), (1, .int x1), (2, .int x2), (3, .int v8)]) [1, 2, 3, 0] rfl ?_
      exact wX11_seeks_97 hG C E M v8 h
    · replace h := h.2 c9
      refine x_aload_n C dX11_seeks_53 1 rfl ?_
      refine gf_11_51 C q194 z11 dX11_seeks_54 ?_
      refine x_iload_n C dX11_seeks_57 2 rfl ?_
      refine x_iload_n C dX11_seeks_58 0 rfl ?_
      refine as_1251 C z1251 f6 dX11_seeks_59 ?_
      refine X_nameM (fun M10 eM10 => ?_)
      replace h := h M10 eM10
      refine x_aload_n C dX11_seeks_60 1 rfl ?_
      refine gf_11_45 C q196 z11 dX11_seeks_61 ?_
      refine x_iload_n C dX11_seeks_64 2 rfl ?_
      refine al_1245 C z1245 f6 dX11_seeks_65 ?_
      refine x_iload_n C dX11_seeks_66 0 rfl ?_
      refine x_dup2 C dX11_seeks_67 rfl rfl ?_
      obtain ⟨f11, h⟩ := h
      refine al_6245 C (vp_lt f6) f11 dX11_seeks_68 ?_
      refine x_iconst (v := 1) C dX11_seeks_69 rfl ?_
      refine x_iadd C dX11_seeks_70 ?_
      refine as_6245 C (vp_lt f6) f11 dX11_seeks_71 ?_
      refine X_nameM (fun M12 eM12 => ?_)
      replace h := h M12 eM12
      refine x_aload_n C dX11_seeks_72 1 rfl ?_
      refine x_dup C dX11_seeks_73 rfl ?_
      refine gf_11_58 C q199 z11 dX11_seeks_74 ?_
      refine x_iconst (v := 1) C dX11_seeks_77 rfl ?_
      refine x_iadd C dX11_seeks_78 ?_
      refine pf_11_58 C q199 z11 dX11_seeks_79 ?_
      refine X_nameM (fun M13 eM13 => ?_)
      replace h := h M13 eM13
      refine x_aload_n C dX11_seeks_82 1 rfl ?_
      refine x_dup C dX11_seeks_83 rfl ?_
      refine gf_11_59 C q200 z11 dX11_seeks_84 ?_
      refine x_aload_n C dX11_seeks_87 1 rfl ?_
      refine x_iload_n C dX11_seeks_88 2 rfl ?_
      refine x_iload_n C dX11_seeks_89 0 rfl ?_
      refine x_calli (rest := [.int (M13.1 1259 0 0), .ref (ga G 11 0)]) C sv_X11_311 ob11 z11 (kX11_manyOf hG _ _ _ h) rfl rfl (Nat.le_of_ble_eq_true rfl) ⟨Nat.le_of_ble_eq_true rfl, Nat.le_of_ble_eq_true rfl⟩ rfl rfl ⟨Nat.le_of_ble_eq_true rfl, Nat.le_of_ble_eq_true rfl⟩ dX11_seeks_90 (fun r14 M15 h => ?_)
      refine x_iadd C dX11_seeks_93 ?_
      refine pf_11_59 C q200 z11 dX11_seeks_94 ?_
      refine X_nameM (fun M16 eM16 => ?_)
      replace h := h M16 eM16
      refine X_sub (lv' := [(0, .ref (ga G 11 0)), (1, .int x1), (2, .int x2), (3, .int v8)]) [1, 2, 3, 0] rfl ?_
      exact wX11_seeks_97 hG C E M16 v8 h
  · replace h := h.2 c7
    exact x_vret C E h (Nat.le_of_ble_eq_true rfl) (Nat.le_of_ble_eq_true rfl) dX11_seeks_35
set_option maxRecDepth 100000 in
set_option maxHeartbeats 400000 in
theorem kX11_seeks {l : Launch} {G : Gm} (hG : Gd G) (M : Mem) (x1 : Int32) (x2 : Int32) {Q : Mem → Prop} (h : pX11_seeks M x1 x2 Q) : Ctv l G yX11_seeks cX11_seeks 5 rmX11_seeks [.ref (ga G 11 0), .int x1, .int x2] M Q := by
  refine ctv_of (own := RX11) (by decide +kernel) rfl (Nat.le_of_ble_eq_true rfl) hG (fun Γ Qf hl C E => ?_)
  subst hl
  show X Γ G Qf 5 0 0 0 [(0, .ref (ga G 11 0)), (1, .int x1), (2, .int x2)] [] M
  unfold pX11_seeks at h
  refine x_aload_n C dX11_seeks_0 0 rfl ?_
  refine x_dup C dX11_seeks_1 rfl ?_
  refine gf_11_60 C q198 z11 dX11_seeks_2 ?_
  refine x_iconst (v := 1) C dX11_seeks_5 rfl ?_
  refine x_iadd C dX11_seeks_6 ?_
  refine pf_11_60 C q198 z11 dX11_seeks_7 ?_
  refine X_nameM (fun M1 eM1 => ?_)
  replace h := h M1 eM1
  refine x_aload_n C dX11_seeks_10 0 rfl ?_
  refine gf_11_50 C q197 z11 dX11_seeks_11 ?_
  refine x_iload_n C dX11_seeks_14 1 rfl ?_
  obtain ⟨f2, h⟩ := h
  refine al_1250 C z1250 f2 dX11_seeks_15 ?_
  refine x_iload_n C dX11_seeks_16 2 rfl ?_
  refine x_icmp_ge (tgt := 26) C dX11_seeks_17 (by decide) (fun c3 => ?_) (fun c3 => ?_)
  · replace h := h.1 c3
    refine X_sub (lv' := [(0, .ref (ga G 11 0)), (1, .int x1), (2, .int x2)]) [0, 1, 2] rfl ?_
    exact wX11_seeks_26 hG C E M1 h
  · replace h := h.2 c3
    refine x_aload_n C dX11_seeks_20 0 rfl ?_
    refine x_iload_n C dX11_seeks_21 1 rfl ?_
    refine x_iload_n C dX11_seeks_22 2 rfl ?_
    refine x_callv (rest := []) C sv_X11_329 ob11 z11 (kX11_dips hG _ _ _ h) rfl rfl (Nat.le_of_ble_eq_true rfl) ⟨Nat.le_of_ble_eq_true rfl, Nat.le_of_ble_eq_true rfl⟩ rfl rfl ⟨Nat.le_of_ble_eq_true rfl, Nat.le_of_ble_eq_true rfl⟩ dX11_seeks_23 (fun M5 h => ?_)
    refine X_sub (lv' := [(0, .ref (ga G 11 0)), (1, .int x1), (2, .int x2)]) [0, 1, 2] rfl ?_
    exact wX11_seeks_26 hG C E M5 h
def rmX11_orders : Room := { frames := 0, cells := 0, slots := 0, locals := 0 }
def bX11_orders_95 (Q : Mem → Prop) (L7 : Mem × Int32 → Prop) (M : Mem) (y1 : Int32) : Prop :=
  ∀ v17 : Int32, v17 = y1 + 1 → L7 (M, v17)
def bX11_orders_78 (Q : Mem → Prop) (L7 : Mem × Int32 → Prop) (M : Mem) (y1 : Int32) (y2 : Int32) : Prop :=
  vp_in y2 24 ∧ ∀ M15 : Mem, M15 = up1 M 1252 0 (tn y2) y1 → ∀ M16 : Mem, M16 = up1 M15 1264 0 0 ((M15.1 1264 0 0) + 1) → bX11_orders_95 Q L7 M16 y1
def bX11_orders_32 (Q : Mem → Prop) (L7 : Mem × Int32 → Prop) (L32 : Mem × Int32 × Int32 → Prop) (M : Mem) (y1 : Int32) (y2 : Int32) : Prop :=
  ((y2 ≤ 0 → bX11_orders_78 Q L7 M y1 y2) ∧ (¬ y2 ≤ 0 → vp_in (y2 - 1) 24 ∧ vp_in (M.1 1252 0 (tn (y2 - 1))) 24 ∧ vp_in y1 24 ∧ (((M.1 1250 0 (tn (M.1 1252 0 (tn (y2 - 1))))) ≤ (M.1 1250 0 (tn y1)) → bX11_orders_78 Q L7 M y1 y2) ∧ (¬ (M.1 1250 0 (tn (M.1 1252 0 (tn (y2 - 1))))) ≤ (M.1 1250 0 (tn y1)) → vp_in y2 24 ∧ ∀ M12 : Mem, M12 = up1 M 1252 0 (tn y2) (M.1 1252 0 (tn (y2 - 1))) → ∀ v13 : Int32, v13 = y2 + (-1) → L32 (M12, y1, v13)))))
def bX11_orders_7 (Q : Mem → Prop) (L7 : Mem × Int32 → Prop) (M : Mem) (y1 : Int32) : Prop :=
  (((M.1 1218 0 0) ≤ y1 → Q M) ∧ (¬ (M.1 1218 0 0) ≤ y1 → vp_in y1 24 ∧ (((M.1 1253 0 (tn y1)) = 0 → ∀ v5 : Int32, v5 = (M.1 1264 0 0) → ∃ n : Nat, lp (fun L s => bX11_orders_32 Q L7 L s.1 s.2.1 s.2.2) n (M, y1, v5)) ∧ (¬ (M.1 1253 0 (tn y1)) = 0 → bX11_orders_95 Q L7 M y1))))
def pX11_orders (M : Mem) (Q : Mem → Prop) : Prop :=
  ∀ M1 : Mem, M1 = up1 M 1264 0 0 0 → ∃ n : Nat, lp (fun L s => bX11_orders_7 Q L s.1 s.2) n (M1, 0)
set_option maxRecDepth 100000 in
set_option maxHeartbeats 400000 in
theorem wX11_orders_95 {Γ : Gam} {G : Gm} {Qf : State → Prop} (hG : Gd G) (C : Cx Γ G cX11_orders 3 RX11 none rmX11_orders)  {Q : Mem → Prop} (E : EndV Γ G Qf rmX11_orders Q) {L7 : Mem × Int32 → Prop} (hL7 : ∀ s, L7 s → X Γ G Qf 3 0 0 7 [(0, .ref (ga G 11 0)), (1, .int s.2)] [] s.1) (M : Mem) (y1 : Int32) (h : bX11_orders_95 Q L7 M y1) : X Γ G Qf 3 0 0 95 [(0, .ref (ga G 11 0)), (1, .int y1)] [] M := by
  unfold bX11_orders_95 at h
  obtain ⟨v17, ev17⟩ : ∃ z : Int32, z = y1 + 1 := ⟨_, rfl⟩
  replace h := h v17 ev17
  refine x_iinc (v := v17) (lv' := [(1, .int v17), (0, .ref (ga G 11 0))]) (j := 1) C dX11_orders_95 rfl (by rw [ev17]; rfl) (Nat.le_of_ble_eq_true rfl) rfl ?_
  refine x_goto (tgt := 7) C dX11_orders_98 (by decide) ?_
  refine X_sub (lv' := [(0, .ref (ga G 11 0)), (1, .int v17)]) [1, 0] rfl ?_
  have w9 := hL7 (M, v17) h
  dsimp only at w9
  exact w9
set_option maxRecDepth 100000 in
set_option maxHeartbeats 400000 in
theorem wX11_orders_78 {Γ : Gam} {G : Gm} {Qf : State → Prop} (hG : Gd G) (C : Cx Γ G cX11_orders 3 RX11 none rmX11_orders)  {Q : Mem → Prop} (E : EndV Γ G Qf rmX11_orders Q) {L7 : Mem × Int32 → Prop} (hL7 : ∀ s, L7 s → X Γ G Qf 3 0 0 7 [(0, .ref (ga G 11 0)), (1, .int s.2)] [] s.1) (M : Mem) (y1 : Int32) (y2 : Int32) (h : bX11_orders_78 Q L7 M y1 y2) : X Γ G Qf 3 0 0 78 [(0, .ref (ga G 11 0)), (1, .int y1), (2, .int y2)] [] M := by
  unfold bX11_orders_78 at h
  refine x_aload_n C dX11_orders_78 0 rfl ?_
  refine gf_11_52 C q202 z11 dX11_orders_79 ?_
  refine x_iload_n C dX11_orders_82 2 rfl ?_
  refine x_iload_n C dX11_orders_83 1 rfl ?_
  obtain ⟨f14, h⟩ := h
  refine as_1252 C z1252 f14 dX11_orders_84 ?_
  refine X_nameM (fun M15 eM15 => ?_)
  replace h := h M15 eM15
  refine x_aload_n C dX11_orders_85 0 rfl ?_
  refine x_dup C dX11_orders_86 rfl ?_
  refine gf_11_64 C q201 z11 dX11_orders_87 ?_
  refine x_iconst (v := 1) C dX11_orders_90 rfl ?_
  refine x_iadd C dX11_orders_91 ?_
  refine pf_11_64 C q201 z11 dX11_orders_92 ?_
  refine X_nameM (fun M16 eM16 => ?_)
  replace h := h M16 eM16
  refine X_sub (lv' := [(0, .ref (ga G 11 0)), (1, .int y1)]) [0, 1] rfl ?_
  exact wX11_orders_95 hG C E hL7 M16 y1 h
set_option maxRecDepth 100000 in
set_option maxHeartbeats 400000 in
theorem wX11_orders_32 {Γ : Gam} {G : Gm} {Qf : State → Prop} (hG : Gd G) (C : Cx Γ G cX11_orders 3 RX11 none rmX11_orders)  {Q : Mem → Prop} (E : EndV Γ G Qf rmX11_orders Q) {L7 : Mem × Int32 → Prop} (hL7 : ∀ s, L7 s → X Γ G Qf 3 0 0 7 [(0, .ref (ga G 11 0)), (1, .int s.2)] [] s.1) {L32 : Mem × Int32 × Int32 → Prop} (hL32 : ∀ s, L32 s → X Γ G Qf 3 0 0 32 [(0, .ref (ga G 11 0)), (1, .int s.2.1), (2, .int s.2.2)] [] s.1) (M : Mem) (y1 : Int32) (y2 : Int32) (h : bX11_orders_32 Q L7 L32 M y1 y2) : X Γ G Qf 3 0 0 32 [(0, .ref (ga G 11 0)), (1, .int y1), (2, .int y2)] [] M := by
  unfold bX11_orders_32 at h
  refine x_iload_n C dX11_orders_32 2 rfl ?_
  refine x_if_le (tgt := 78) C dX11_orders_33 (by decide) (fun c6 => ?_) (fun c6 => ?_)
  · replace h := h.1 c6
    refine X_sub (lv' := [(0, .ref (ga G 11 0)), (1, .int y1), (2, .int y2)]) [0, 1, 2] rfl ?_
    exact wX11_orders_78 hG C E hL7 M y1 y2 h
  · replace h := h.2 c6
    refine x_aload_n C dX11_orders_36 0 rfl ?_
    refine gf_11_50 C q197 z11 dX11_orders_37 ?_
    refine x_aload_n C dX11_orders_40 0 rfl ?_
    refine gf_11_52 C q202 z11 dX11_orders_41 ?_
    refine x_iload_n C dX11_orders_44 2 rfl ?_
    refine x_iconst (v := 1) C dX11_orders_45 rfl ?_
    refine x_isub C dX11_orders_46 ?_
    obtain ⟨f7, h⟩ := h
    refine al_1252 C z1252 f7 dX11_orders_47 ?_
    obtain ⟨f8, h⟩ := h
    refine al_1250 C z1250 f8 dX11_orders_48 ?_
    refine x_aload_n C dX11_orders_49 0 rfl ?_
    refine gf_11_50 C q197 z11 dX11_orders_50 ?_
    refine x_iload_n C dX11_orders_53 1 rfl ?_
    obtain ⟨f9, h⟩ := h
    refine al_1250 C z1250 f9 dX11_orders_54 ?_
    refine x_icmp_le (tgt := 78) C dX11_orders_55 (by decide) (fun c10 => ?_) (fun c10 => ?_)
    · replace h := h.1 c10
      refine X_sub (lv' := [(0, .ref (ga G 11 0)), (1, .int y1), (2, .int y2)]) [0, 1, 2] rfl ?_
      exact wX11_orders_78 hG C E hL7 M y1 y2 h
    · replace h := h.2 c10
      refine x_aload_n C dX11_orders_58 0 rfl ?_
      refine gf_11_52 C q202 z11 dX11_orders_59 ?_
      refine x_iload_n C dX11_orders_62 2 rfl ?_
      refine x_aload_n C dX11_orders_63 0 rfl ?_
      refine gf_11_52 C q202 z11 dX11_orders_64 ?_
      refine x_iload_n C dX11_orders_67 2 rfl ?_
      refine x_iconst (v := 1) C dX11_orders_68 rfl ?_
      refine x_isub C dX11_orders_69 ?_
      refine al_1252 C z1252 f7 dX11_orders_70 ?_
      obtain ⟨f11, h⟩ := h
      refine as_1252 C z1252 f11 dX11_orders_71 ?_
      refine X_nameM (fun M12 eM12 => ?_)
      replace h := h M12 eM12
      obtain ⟨v13, ev13⟩ : ∃ z : Int32, z = y2 + (-1) := ⟨_, rfl⟩
      replace h := h v13 ev13
      refine x_iinc (v := v13) (lv' := [(2, .int v13), (0, .ref (ga G 11 0)), (1, .int y1)]) (j := 2) C dX11_orders_72 rfl (by rw [ev13]; rfl) (Nat.le_of_ble_eq_true rfl) rfl ?_
      refine x_goto (tgt := 32) C dX11_orders_75 (by decide) ?_
      refine X_sub (lv' := [(0, .ref (ga G 11 0)), (1, .int y1), (2, .int v13)]) [1, 2, 0] rfl ?_
      have w9 := hL32 (M12, y1, v13) h
      dsimp only at w9
      exact w9
set_option maxRecDepth 100000 in
set_option maxHeartbeats 400000 in
theorem wX11_orders_7 {Γ : Gam} {G : Gm} {Qf : State → Prop} (hG : Gd G) (C : Cx Γ G cX11_orders 3 RX11 none rmX11_orders)  {Q : Mem → Prop} (E : EndV Γ G Qf rmX11_orders Q) {L7 : Mem × Int32 → Prop} (hL7 : ∀ s, L7 s → X Γ G Qf 3 0 0 7 [(0, .ref (ga G 11 0)), (1, .int s.2)] [] s.1) (M : Mem) (y1 : Int32) (h : bX11_orders_7 Q L7 M y1) : X Γ G Qf 3 0 0 7 [(0, .ref (ga G 11 0)), (1, .int y1)] [] M := by
  unfold bX11_orders_7 at h
  refine x_iload_n C dX11_orders_7 1 rfl ?_
  refine x_aload_n C dX11_orders_8 0 rfl ?_
  refine gf_11_18 C q168 z11 dX11_orders_9 ?_
  refine x_icmp_ge (tgt := 101) C dX11_orders_12 (by decide) (fun c2 => ?_) (fun c2 => ?_)
  · replace h := h.1 c2
    exact x_vret C E h (Nat.le_of_ble_eq_true rfl) (Nat.le_of_ble_eq_true rfl) dX11_orders_101
  · replace h := h.2 c2
    refine x_aload_n C dX11_orders_15 0 rfl ?_
    refine gf_11_53 C q195 z11 dX11_orders_16 ?_
    refine x_iload_n C dX11_orders_19 1 rfl ?_
    obtain ⟨f3, h⟩ := h
    refine al_1253 C z1253 f3 dX11_orders_20 ?_
    refine x_if_eq (tgt := 27) C dX11_orders_21 (by decide) (fun c4 => ?_) (fun c4 => ?_)
    · replace h := h.1 c4
      refine x_aload_n C dX11_orders_27 0 rfl ?_
      refine gf_11_64 C q201 z11 dX11_orders_28 ?_
      refine X_name (fun v5 ev5 => ?_)
      replace h := h v5 ev5
      refine x_istore_n (lv' := [(2, .int v5), (0, .ref (ga G 11 0)), (1, .int y1)]) C dX11_orders_31 rfl (Nat.le_of_ble_eq_true rfl) rfl ?_
      obtain ⟨n9, h⟩ := h
      refine X_sub (lv' := [(0, .ref (ga G 11 0)), (1, .int y1), (2, .int v5)]) [1, 2, 0] rfl ?_
      have hb : ∀ (L : Mem × Int32 × Int32 → Prop) (s : Mem × Int32 × Int32), (∀ t, L t → X Γ G Qf 3 0 0 32 [(0, .ref (ga G 11 0)), (1, .int t.2.1), (2, .int t.2.2)] [] t.1) → bX11_orders_32 Q L7 L s.1 s.2.1 s.2.2 → X Γ G Qf 3 0 0 32 [(0, .ref (ga G 11 0)), (1, .int s.2.1), (2, .int s.2.2)] [] s.1 := fun L s hL h => wX11_orders_32 hG C E hL7 hL s.1 s.2.1 s.2.2 h
      have w9 := lp_walk (P := fun s : Mem × Int32 × Int32 => X Γ G Qf 3 0 0 32 [(0, .ref (ga G 11 0)), (1, .int s.2.1), (2, .int s.2.2)] [] s.1) h hb
      dsimp only at w9
      exact w9
    · replace h := h.2 c4
      refine x_goto (tgt := 95) C dX11_orders_24 (by decide) ?_
      refine X_sub (lv' := [(0, .ref (ga G 11 0)), (1, .int y1)]) [0, 1] rfl ?_
      exact wX11_orders_95 hG C E hL7 M y1 h
set_option maxRecDepth 100000 in
set_option maxHeartbeats 400000 in
theorem kX11_orders {l : Launch} {G : Gm} (hG : Gd G) (M : Mem)  {Q : Mem → Prop} (h : pX11_orders M Q) : Ctv l G yX11_orders cX11_orders 3 rmX11_orders [.ref (ga G 11 0)] M Q := by
  refine ctv_of (own := RX11) (by decide +kernel) rfl (Nat.le_of_ble_eq_true rfl) hG (fun Γ Qf hl C E => ?_)
  subst hl
  show X Γ G Qf 3 0 0 0 [(0, .ref (ga G 11 0))] [] M
  unfold pX11_orders at h
  refine x_aload_n C dX11_orders_0 0 rfl ?_
  refine x_iconst (v := 0) C dX11_orders_1 rfl ?_
  refine pf_11_64 C q201 z11 dX11_orders_2 ?_
  refine X_nameM (fun M1 eM1 => ?_)
  replace h := h M1 eM1
  refine x_iconst (v := 0) C dX11_orders_5 rfl ?_
  refine x_istore_n (lv' := [(1, .int 0), (0, .ref (ga G 11 0))]) C dX11_orders_6 rfl (Nat.le_of_ble_eq_true rfl) rfl ?_
  obtain ⟨n9, h⟩ := h
  refine X_sub (lv' := [(0, .ref (ga G 11 0)), (1, .int 0)]) [1, 0] rfl ?_
  have hb : ∀ (L : Mem × Int32 → Prop) (s : Mem × Int32), (∀ t, L t → X Γ G Qf 3 0 0 7 [(0, .ref (ga G 11 0)), (1, .int t.2)] [] t.1) → bX11_orders_7 Q L s.1 s.2 → X Γ G Qf 3 0 0 7 [(0, .ref (ga G 11 0)), (1, .int s.2)] [] s.1 := fun L s hL h => wX11_orders_7 hG C E hL s.1 s.2 h
  have w9 := lp_walk (P := fun s : Mem × Int32 => X Γ G Qf 3 0 0 7 [(0, .ref (ga G 11 0)), (1, .int s.2)] [] s.1) h hb
  dsimp only at w9
  exact w9
def rmX11_mostNear : Room := { frames := 0, cells := 0, slots := 0, locals := 0 }
def pX11_mostNear (M : Mem) (Q : Int32 → Mem → Prop) : Prop :=
  ((2 ≤ (M.1 1218 0 0) → Q ((50 * (M.1 1223 0 0)) * ((M.1 1218 0 0) - 1)) M) ∧ (¬ 2 ≤ (M.1 1218 0 0) → Q 0 M))
set_option maxRecDepth 100000 in
set_option maxHeartbeats 400000 in
theorem kX11_mostNear {l : Launch} {G : Gm} (hG : Gd G) (M : Mem)  {Q : Int32 → Mem → Prop} (h : pX11_mostNear M Q) : Cti l G yX11_mostNear cX11_mostNear 1 .int rmX11_mostNear [.ref (ga G 11 0)] M Q := by
  refine cti_of (own := RX11) (by decide +kernel) rfl (Nat.le_of_ble_eq_true rfl) hG (fun Γ Qf hl C E => ?_)
  subst hl
  show X Γ G Qf 1 0 0 0 [(0, .ref (ga G 11 0))] [] M
  unfold pX11_mostNear at h
  refine x_aload_n C dX11_mostNear_0 0 rfl ?_
  refine gf_11_18 C q168 z11 dX11_mostNear_1 ?_
  refine x_iconst (v := 2) C dX11_mostNear_4 rfl ?_
  refine x_icmp_ge (tgt := 12) C dX11_mostNear_5 (by decide) (fun c1 => ?_) (fun c1 => ?_)
  · replace h := h.1 c1
    refine x_bipush (v := 50) C dX11_mostNear_12 rfl ?_
    refine x_aload_n C dX11_mostNear_14 0 rfl ?_
    refine gf_11_23 C q175 z11 dX11_mostNear_15 ?_
    refine x_imul C dX11_mostNear_18 ?_
    refine x_aload_n C dX11_mostNear_19 0 rfl ?_
    refine gf_11_18 C q168 z11 dX11_mostNear_20 ?_
    refine x_iconst (v := 1) C dX11_mostNear_23 rfl ?_
    refine x_isub C dX11_mostNear_24 ?_
    refine x_imul C dX11_mostNear_25 ?_
    exact x_iret C E h (Nat.le_of_ble_eq_true rfl) (Nat.le_of_ble_eq_true rfl) dX11_mostNear_26
  · replace h := h.2 c1
    refine x_iconst (v := 0) C dX11_mostNear_8 rfl ?_
    refine x_goto (tgt := 26) C dX11_mostNear_9 (by decide) ?_
    exact x_iret C E h (Nat.le_of_ble_eq_true rfl) (Nat.le_of_ble_eq_true rfl) dX11_mostNear_26
def rmX11_floor : Room := { frames := 0, cells := 0, slots := 0, locals := 0 }
def pX11_floor (M : Mem) (x1 : Int32) (Q : Int32 → Mem → Prop) : Prop :=
  ((x1 ≤ (M.1 1256 0 0) → vp_in (x1 - 1) 11 ∧ Q (M.1 1255 0 (tn (x1 - 1))) M) ∧ (¬ x1 ≤ (M.1 1256 0 0) → Q 0 M))
set_option maxRecDepth 100000 in
set_option maxHeartbeats 400000 in
theorem kX11_floor {l : Launch} {G : Gm} (hG : Gd G) (M : Mem) (x1 : Int32) {Q : Int32 → Mem → Prop} (h : pX11_floor M x1 Q) : Cti l G yX11_floor cX11_floor 2 .int rmX11_floor [.ref (ga G 11 0), .int x1] M Q := by
  refine cti_of (own := RX11) (by decide +kernel) rfl (Nat.le_of_ble_eq_true rfl) hG (fun Γ Qf hl C E => ?_)
  subst hl
  show X Γ G Qf 2 0 0 0 [(0, .ref (ga G 11 0)), (1, .int x1)] [] M
  unfold pX11_floor at h
  refine x_aload_n C dX11_floor_0 0 rfl ?_
  refine gf_11_56 C q203 z11 dX11_floor_1 ?_
  refine x_iload_n C dX11_floor_4 1 rfl ?_
  refine x_icmp_ge (tgt := 12) C dX11_floor_5 (by decide) (fun c1 => ?_) (fun c1 => ?_)
  · replace h := h.1 c1
    refine x_aload_n C dX11_floor_12 0 rfl ?_
    refine gf_11_55 C q204 z11 dX11_floor_13 ?_
    refine x_iload_n C dX11_floor_16 1 rfl ?_
    refine x_iconst (v := 1) C dX11_floor_17 rfl ?_
    refine x_isub C dX11_floor_18 ?_
    obtain ⟨f2, h⟩ := h
    refine al_1255 C z1255 f2 dX11_floor_19 ?_
    exact x_iret C E h (Nat.le_of_ble_eq_true rfl) (Nat.le_of_ble_eq_true rfl) dX11_floor_20
  · replace h := h.2 c1
    refine x_iconst (v := 0) C dX11_floor_8 rfl ?_
    refine x_goto (tgt := 20) C dX11_floor_9 (by decide) ?_
    exact x_iret C E h (Nat.le_of_ble_eq_true rfl) (Nat.le_of_ble_eq_true rfl) dX11_floor_20
def rmX11_pivot : Room := { frames := 1, cells := 0, slots := 0, locals := 20 }
def bX11_pivot_7 (x1 : Int32) (Q : Int32 → Mem → Prop) (L7 : Mem × Int32 × Int32 → Prop) (M : Mem) (y2 : Int32) (y3 : Int32) : Prop :=
  (((M.1 1264 0 0) ≤ y3 → Q (M.1 1264 0 0) M) ∧ (¬ (M.1 1264 0 0) ≤ y3 → vp_in y3 24 ∧ vp_in (M.1 1252 0 (tn y3)) 24 ∧ ∀ v6 : Int32, v6 = (y2 + (M.1 1248 0 (tn (M.1 1252 0 (tn y3))))) → ((v6 ≤ x1 → ∀ v8 : Int32, v8 = y3 + 1 → L7 (M, v6, v8)) ∧ (¬ v6 ≤ x1 → Q y3 M))))
def pX11_pivot (M : Mem) (x1 : Int32) (Q : Int32 → Mem → Prop) : Prop :=
  pX11_mostNear M (fun r1 M2 => ∃ n : Nat, lp (fun L s => bX11_pivot_7 x1 Q L s.1 s.2.1 s.2.2) n (M2, r1, 0))
set_option maxRecDepth 100000 in
set_option maxHeartbeats 400000 in
theorem wX11_pivot_7 {Γ : Gam} {G : Gm} {Qf : State → Prop} (hG : Gd G) (C : Cx Γ G cX11_pivot 4 RX11 (some .int) rmX11_pivot) {x1 : Int32} {Q : Int32 → Mem → Prop} (E : EndI Γ G Qf rmX11_pivot Q) {L7 : Mem × Int32 × Int32 → Prop} (hL7 : ∀ s, L7 s → X Γ G Qf 4 0 0 7 [(0, .ref (ga G 11 0)), (1, .int x1), (2, .int s.2.1), (3, .int s.2.2)] [] s.1) (M : Mem) (y2 : Int32) (y3 : Int32) (h : bX11_pivot_7 x1 Q L7 M y2 y3) : X Γ G Qf 4 0 0 7 [(0, .ref (ga G 11 0)), (1, .int x1), (2, .int y2), (3, .int y3)] [] M := by
  unfold bX11_pivot_7 at h
  refine x_iload_n C dX11_pivot_7 3 rfl ?_
  refine x_aload_n C dX11_pivot_8 0 rfl ?_
  refine gf_11_64 C q201 z11 dX11_pivot_9 ?_
  refine x_icmp_ge (tgt := 42) C dX11_pivot_12 (by decide) (fun c3 => ?_) (fun c3 => ?_)
  · replace h := h.1 c3
    refine x_aload_n C dX11_pivot_42 0 rfl ?_
    refine gf_11_64 C q201 z11 dX11_pivot_43 ?_
    exact x_iret C E h (Nat.le_of_ble_eq_true rfl) (Nat.le_of_ble_eq_true rfl) dX11_pivot_46
  · replace h := h.2 c3
    refine x_iload_n C dX11_pivot_15 2 rfl ?_
    refine x_aload_n C dX11_pivot_16 0 rfl ?_
    refine gf_11_48 C q192 z11 dX11_pivot_17 ?_
    refine x_aload_n C dX11_pivot_20 0 rfl ?_
    refine gf_11_52 C q202 z11 dX11_pivot_21 ?_
    refine x_iload_n C dX11_pivot_24 3 rfl ?_
    obtain ⟨f4, h⟩ := h
    refine al_1252 C z1252 f4 dX11_pivot_25 ?_
    obtain ⟨f5, h⟩ := h
    refine al_1248 C z1248 f5 dX11_pivot_26 ?_
    refine x_iadd C dX11_pivot_27 ?_
    refine X_name (fun v6 ev6 => ?_)
    replace h := h v6 ev6
    refine x_istore_n (lv' := [(2, .int v6), (0, .ref (ga G 11 0)), (1, .int x1), (3, .int y3)]) C dX11_pivot_28 rfl (Nat.le_of_ble_eq_true rfl) rfl ?_
    refine x_iload_n C dX11_pivot_29 0 rfl ?_
    refine x_iload_n C dX11_pivot_30 2 rfl ?_
    refine x_icmp_le (tgt := 36) C dX11_pivot_31 (by decide) (fun c7 => ?_) (fun c7 => ?_)
    · replace h := h.1 c7
      obtain ⟨v8, ev8⟩ : ∃ z : Int32, z = y3 + 1 := ⟨_, rfl⟩
      replace h := h v8 ev8
      refine x_iinc (v := v8) (lv' := [(3, .int v8), (2, .int v6), (0, .ref (ga G 11 0)), (1, .int x1)]) (j := 3) C dX11_pivot_36 rfl (by rw [ev8]; rfl) (Nat.le_of_ble_eq_true rfl) rfl ?_
      refine x_goto (tgt := 7) C dX11_pivot_39 (by decide) ?_
      refine X_sub (lv' := [(0, .ref (ga G 11 0)), (1, .int x1), (2, .int v6), (3, .int v8)]) [2, 3, 1, 0] rfl ?_
      have w9 := hL7 (M, v6, v8) h
      dsimp only at w9
      exact w9
    · replace h := h.2 c7
      refine x_iload_n C dX11_pivot_34 3 rfl ?_
      exact x_iret C E h (Nat.le_of_ble_eq_true rfl) (Nat.le_of_ble_eq_true rfl) dX11_pivot_35
set_option maxRecDepth 100000 in
set_option maxHeartbeats 400000 in
theorem kX11_pivot {l : Launch} {G : Gm} (hG : Gd G) (M : Mem) (x1 : Int32) {Q : Int32 → Mem → Prop} (h : pX11_pivot M x1 Q) : Cti l G yX11_pivot cX11_pivot 4 .int rmX11_pivot [.ref (ga G 11 0), .int x1] M Q := by
  refine cti_of (own := RX11) (by decide +kernel) rfl (Nat.le_of_ble_eq_true rfl) hG (fun Γ Qf hl C E => ?_)
  subst hl
  show X Γ G Qf 4 0 0 0 [(0, .ref (ga G 11 0)), (1, .int x1)] [] M
  unfold pX11_pivot at h
  refine x_aload_n C dX11_pivot_0 0 rfl ?_
  refine x_calli (rest := []) C sv_X11_344 ob11 z11 (kX11_mostNear hG _ h) rfl rfl (Nat.le_of_ble_eq_true rfl) ⟨Nat.le_of_ble_eq_true rfl, Nat.le_of_ble_eq_true rfl⟩ rfl rfl ⟨Nat.le_of_ble_eq_true rfl, Nat.le_of_ble_eq_true rfl⟩ dX11_pivot_1 (fun r1 M2 h => ?_)
  refine x_istore_n (lv' := [(2, .int r1), (0, .ref (ga G 11 0)), (1, .int x1)]) C dX11_pivot_4 rfl (Nat.le_of_ble_eq_true rfl) rfl ?_
  refine x_iconst (v := 0) C dX11_pivot_5 rfl ?_
  refine x_istore_n (lv' := [(3, .int 0), (2, .int r1), (0, .ref (ga G 11 0)), (1, .int x1)]) C dX11_pivot_6 rfl (Nat.le_of_ble_eq_true rfl) rfl ?_
  obtain ⟨n9, h⟩ := h
  refine X_sub (lv' := [(0, .ref (ga G 11 0)), (1, .int x1), (2, .int r1), (3, .int 0)]) [2, 3, 1, 0] rfl ?_
  have hb : ∀ (L : Mem × Int32 × Int32 → Prop) (s : Mem × Int32 × Int32), (∀ t, L t → X Γ G Qf 4 0 0 7 [(0, .ref (ga G 11 0)), (1, .int x1), (2, .int t.2.1), (3, .int t.2.2)] [] t.1) → bX11_pivot_7 x1 Q L s.1 s.2.1 s.2.2 → X Γ G Qf 4 0 0 7 [(0, .ref (ga G 11 0)), (1, .int x1), (2, .int s.2.1), (3, .int s.2.2)] [] s.1 := fun L s hL h => wX11_pivot_7 hG C E hL s.1 s.2.1 s.2.2 h
  have w9 := lp_walk (P := fun s : Mem × Int32 × Int32 => X Γ G Qf 4 0 0 7 [(0, .ref (ga G 11 0)), (1, .int x1), (2, .int s.2.1), (3, .int s.2.2)] [] s.1) h hb
  dsimp only at w9
  exact w9
def rmX11_blockFor : Room := { frames := 2, cells := 0, slots := 0, locals := 43 }
def bX11_blockFor_7 (x1 : Int32) (x2 : Int32) (Q : Int32 → Mem → Prop) (L7 : Mem × Int32 → Prop) (M : Mem) (y3 : Int32) : Prop :=
  pX11_blocksOfList M x1 (fun r3 M4 => ((r3 ≤ y3 → Q y3 M4) ∧ (¬ r3 ≤ y3 → pX11_lastOf M4 x1 y3 (fun r6 M7 => ((x2 ≤ r6 → Q y3 M7) ∧ (¬ x2 ≤ r6 → ∀ v9 : Int32, v9 = y3 + 1 → L7 (M7, v9)))))))
def pX11_blockFor (M : Mem) (x1 : Int32) (x2 : Int32) (Q : Int32 → Mem → Prop) : Prop :=
  vp_in x1 24 ∧ ∀ v2 : Int32, v2 = (M.1 1249 0 (tn x1)) → ∃ n : Nat, lp (fun L s => bX11_blockFor_7 x1 x2 Q L s.1 s.2) n (M, v2)
set_option maxRecDepth 100000 in
set_option maxHeartbeats 400000 in
theorem wX11_blockFor_7 {Γ : Gam} {G : Gm} {Qf : State → Prop} (hG : Gd G) (C : Cx Γ G cX11_blockFor 4 RX11 (some .int) rmX11_blockFor) {x1 : Int32} {x2 : Int32} {Q : Int32 → Mem → Prop} (E : EndI Γ G Qf rmX11_blockFor Q) {L7 : Mem × Int32 → Prop} (hL7 : ∀ s, L7 s → X Γ G Qf 4 0 0 7 [(0, .ref (ga G 11 0)), (1, .int x1), (2, .int x2), (3, .int s.2)] [] s.1) (M : Mem) (y3 : Int32) (h : bX11_blockFor_7 x1 x2 Q L7 M y3) : X Γ G Qf 4 0 0 7 [(0, .ref (ga G 11 0)), (1, .int x1), (2, .int x2), (3, .int y3)] [] M := by
  unfold bX11_blockFor_7 at h
  refine x_iload_n C dX11_blockFor_7 3 rfl ?_
  refine x_aload_n C dX11_blockFor_8 0 rfl ?_
  refine x_iload_n C dX11_blockFor_9 1 rfl ?_
  refine x_calli (rest := [.int y3]) C sv_X11_320 ob11 z11 (kX11_blocksOfList hG _ _ h) rfl rfl (Nat.le_of_ble_eq_true rfl) ⟨Nat.le_of_ble_eq_true rfl, Nat.le_of_ble_eq_true rfl⟩ rfl rfl ⟨Nat.le_of_ble_eq_true rfl, Nat.le_of_ble_eq_true rfl⟩ dX11_blockFor_10 (fun r3 M4 h => ?_)
  refine x_icmp_ge (tgt := 32) C dX11_blockFor_13 (by decide) (fun c5 => ?_) (fun c5 => ?_)
  · replace h := h.1 c5
    refine x_iload_n C dX11_blockFor_32 3 rfl ?_
    exact x_iret C E h (Nat.le_of_ble_eq_true rfl) (Nat.le_of_ble_eq_true rfl) dX11_blockFor_33
  · replace h := h.2 c5
    refine x_aload_n C dX11_blockFor_16 0 rfl ?_
    refine x_iload_n C dX11_blockFor_17 1 rfl ?_
    refine x_iload_n C dX11_blockFor_18 3 rfl ?_
    refine x_calli (rest := []) C sv_X11_317 ob11 z11 (kX11_lastOf hG _ _ _ h) rfl rfl (Nat.le_of_ble_eq_true rfl) ⟨Nat.le_of_ble_eq_true rfl, Nat.le_of_ble_eq_true rfl⟩ rfl rfl ⟨Nat.le_of_ble_eq_true rfl, Nat.le_of_ble_eq_true rfl⟩ dX11_blockFor_19 (fun r6 M7 h => ?_)
    refine x_iload_n C dX11_blockFor_22 2 rfl ?_
    refine x_icmp_ge (tgt := 32) C dX11_blockFor_23 (by decide) (fun c8 => ?_) (fun c8 => ?_)
    · replace h := h.1 c8
      refine x_iload_n C dX11_blockFor_32 3 rfl ?_
      exact x_iret C E h (Nat.le_of_ble_eq_true rfl) (Nat.le_of_ble_eq_true rfl) dX11_blockFor_33
    · replace h := h.2 c8
      obtain ⟨v9, ev9⟩ : ∃ z : Int32, z = y3 + 1 := ⟨_, rfl⟩
      replace h := h v9 ev9
      refine x_iinc (v := v9) (lv' := [(3, .int v9), (0, .ref (ga G 11 0)), (1, .int x1), (2, .int x2)]) (j := 3) C dX11_blockFor_26 rfl (by rw [ev9]; rfl) (Nat.le_of_ble_eq_true rfl) rfl ?_
      refine x_goto (tgt := 7) C dX11_blockFor_29 (by decide) ?_
      refine X_sub (lv' := [(0, .ref (ga G 11 0)), (1, .int x1), (2, .int x2), (3, .int v9)]) [1, 2, 3, 0] rfl ?_
      have w9 := hL7 (M7, v9) h
      dsimp only at w9
      exact w9
set_option maxRecDepth 100000 in
set_option maxHeartbeats 400000 in
theorem kX11_blockFor {l : Launch} {G : Gm} (hG : Gd G) (M : Mem) (x1 : Int32) (x2 : Int32) {Q : Int32 → Mem → Prop} (h : pX11_blockFor M x1 x2 Q) : Cti l G yX11_blockFor cX11_blockFor 4 .int rmX11_blockFor [.ref (ga G 11 0), .int x1, .int x2] M Q := by
  refine cti_of (own := RX11) (by decide +kernel) rfl (Nat.le_of_ble_eq_true rfl) hG (fun Γ Qf hl C E => ?_)
  subst hl
  show X Γ G Qf 4 0 0 0 [(0, .ref (ga G 11 0)), (1, .int x1), (2, .int x2)] [] M
  unfold pX11_blockFor at h
  refine x_aload_n C dX11_blockFor_0 0 rfl ?_
  refine gf_11_49 C q193 z11 dX11_blockFor_1 ?_
  refine x_iload_n C dX11_blockFor_4 1 rfl ?_
  obtain ⟨f1, h⟩ := h
  refine al_1249 C z1249 f1 dX11_blockFor_5 ?_
  refine X_name (fun v2 ev2 => ?_)
  replace h := h v2 ev2
  refine x_istore_n (lv' := [(3, .int v2), (0, .ref (ga G 11 0)), (1, .int x1), (2, .int x2)]) C dX11_blockFor_6 rfl (Nat.le_of_ble_eq_true rfl) rfl ?_
  obtain ⟨n9, h⟩ := h
  refine X_sub (lv' := [(0, .ref (ga G 11 0)), (1, .int x1), (2, .int x2), (3, .int v2)]) [1, 2, 3, 0] rfl ?_
  have hb : ∀ (L : Mem × Int32 → Prop) (s : Mem × Int32), (∀ t, L t → X Γ G Qf 4 0 0 7 [(0, .ref (ga G 11 0)), (1, .int x1), (2, .int x2), (3, .int t.2)] [] t.1) → bX11_blockFor_7 x1 x2 Q L s.1 s.2 → X Γ G Qf 4 0 0 7 [(0, .ref (ga G 11 0)), (1, .int x1), (2, .int x2), (3, .int s.2)] [] s.1 := fun L s hL h => wX11_blockFor_7 hG C E hL s.1 s.2 h
  have w9 := lp_walk (P := fun s : Mem × Int32 => X Γ G Qf 4 0 0 7 [(0, .ref (ga G 11 0)), (1, .int x1), (2, .int x2), (3, .int s.2)] [] s.1) h hb
  dsimp only at w9
  exact w9
def rmX11_skipsTo : Room := { frames := 3, cells := 0, slots := 0, locals := 67 }
def bX11_skipsTo_111 (x1 : Int32) (x2 : Int32) (x3 : Int32) (Q : Int32 → Mem → Prop) (L35 : Mem × Int32 × Int32 × Int32 → Prop) (M : Mem) (y4 : Int32) (y5 : Int32) (y6 : Int32) : Prop :=
  ∀ v24 : Int32, v24 = y6 + 1 → L35 (M, y4, y5, v24)
def bX11_skipsTo_35 (x1 : Int32) (x2 : Int32) (x3 : Int32) (Q : Int32 → Mem → Prop) (L35 : Mem × Int32 × Int32 × Int32 → Prop) (M : Mem) (y4 : Int32) (y5 : Int32) (y6 : Int32) : Prop :=
  ((x1 ≤ y6 → ((y4 ≤ x3 → Q y5 M) ∧ (¬ y4 ≤ x3 → Q (-1) M))) ∧ (¬ x1 ≤ y6 → vp_in y6 24 ∧ ∀ v10 : Int32, v10 = (M.1 1252 0 (tn y6)) → pX11_blockFor M v10 x2 (fun r11 M12 => pX11_blocksOfList M12 v10 (fun r13 M14 => ((¬ r11 = r13 → vp_in v10 24 ∧ pX11_topOf M14 v10 r11 (fun r17 M18 => ∀ v19 : Int32, v19 = (y4 + ((M14.1 1247 0 (tn v10)) * r17)) → pX11_lastOf M18 v10 r11 (fun r20 M21 => pX11_less M21 y5 (r20 + 1) (fun r22 M23 => bX11_skipsTo_111 x1 x2 x3 Q L35 M23 v19 r22 y6)))) ∧ (r11 = r13 → bX11_skipsTo_111 x1 x2 x3 Q L35 M14 y4 y5 y6))))))
def bX11_skipsTo_32 (x1 : Int32) (x2 : Int32) (x3 : Int32) (Q : Int32 → Mem → Prop) (M : Mem) (y4 : Int32) (y5 : Int32) : Prop :=
  ∃ n : Nat, lp (fun L s => bX11_skipsTo_35 x1 x2 x3 Q L s.1 s.2.1 s.2.2.1 s.2.2.2) n (M, y4, y5, 0)
def pX11_skipsTo (M : Mem) (x1 : Int32) (x2 : Int32) (x3 : Int32) (Q : Int32 → Mem → Prop) : Prop :=
  pX11_mostNear M (fun r1 M2 => (((M2.1 1264 0 0) ≤ x1 → bX11_skipsTo_32 x1 x2 x3 Q M2 r1 65) ∧ (¬ (M2.1 1264 0 0) ≤ x1 → vp_in x1 24 ∧ vp_in (M2.1 1252 0 (tn x1)) 24 ∧ ∀ v6 : Int32, v6 = (M2.1 1250 0 (tn (M2.1 1252 0 (tn x1)))) → bX11_skipsTo_32 x1 x2 x3 Q M2 r1 v6)))
set_option maxRecDepth 100000 in
set_option maxHeartbeats 400000 in
theorem wX11_skipsTo_111 {Γ : Gam} {G : Gm} {Qf : State → Prop} (hG : Gd G) (C : Cx Γ G cX11_skipsTo 9 RX11 (some .int) rmX11_skipsTo) {x1 : Int32} {x2 : Int32} {x3 : Int32} {Q : Int32 → Mem → Prop} (E : EndI Γ G Qf rmX11_skipsTo Q) {L35 : Mem × Int32 × Int32 × Int32 → Prop} (hL35 : ∀ s, L35 s → X Γ G Qf 9 0 0 35 [(0, .ref (ga G 11 0)), (1, .int x1), (2, .int x2), (3, .int x3), (4, .int s.2.1), (5, .int s.2.2.1), (6, .int s.2.2.2)] [] s.1) (M : Mem) (y4 : Int32) (y5 : Int32) (y6 : Int32) (h : bX11_skipsTo_111 x1 x2 x3 Q L35 M y4 y5 y6) : X Γ G Qf 9 0 0 111 [(0, .ref (ga G 11 0)), (1, .int x1), (2, .int x2), (3, .int x3), (4, .int y4), (5, .int y5), (6, .int y6)] [] M := by
  unfold bX11_skipsTo_111 at h
  obtain ⟨v24, ev24⟩ : ∃ z : Int32, z = y6 + 1 := ⟨_, rfl⟩
  replace h := h v24 ev24
  refine x_iinc (v := v24) (lv' := [(6, .int v24), (0, .ref (ga G 11 0)), (1, .int x1), (2, .int x2), (3, .int x3), (4, .int y4), (5, .int y5)]) (j := 6) C dX11_skipsTo_111 rfl (by rw [ev24]; rfl) (Nat.le_of_ble_eq_true rfl) rfl ?_
  refine x_goto (tgt := 35) C dX11_skipsTo_114 (by decide) ?_
  refine X_sub (lv' := [(0, .ref (ga G 11 0)), (1, .int x1), (2, .int x2), (3, .int x3), (4, .int y4), (5, .int y5), (6, .int v24)]) [1, 2, 3, 4, 5, 6, 0] rfl ?_
  have w9 := hL35 (M, y4, y5, v24) h
  dsimp only at w9
  exact w9
set_option maxRecDepth 100000 in
set_option maxHeartbeats 400000 in
theorem wX11_skipsTo_35 {Γ : Gam} {G : Gm} {Qf : State → Prop} (hG : Gd G) (C : Cx Γ G cX11_skipsTo 9 RX11 (some .int) rmX11_skipsTo) {x1 : Int32} {x2 : Int32} {x3 : Int32} {Q : Int32 → Mem → Prop} (E : EndI Γ G Qf rmX11_skipsTo Q) {L35 : Mem × Int32 × Int32 × Int32 → Prop} (hL35 : ∀ s, L35 s → X Γ G Qf 9 0 0 35 [(0, .ref (ga G 11 0)), (1, .int x1), (2, .int x2), (3, .int x3), (4, .int s.2.1), (5, .int s.2.2.1), (6, .int s.2.2.2)] [] s.1) (M : Mem) (y4 : Int32) (y5 : Int32) (y6 : Int32) (h : bX11_skipsTo_35 x1 x2 x3 Q L35 M y4 y5 y6) : X Γ G Qf 9 0 0 35 [(0, .ref (ga G 11 0)), (1, .int x1), (2, .int x2), (3, .int x3), (4, .int y4), (5, .int y5), (6, .int y6)] [] M := by
  unfold bX11_skipsTo_35 at h
  refine x_iload C dX11_skipsTo_35 6 rfl ?_
  refine x_iload_n C dX11_skipsTo_37 1 rfl ?_
  refine x_icmp_ge (tgt := 117) C dX11_skipsTo_38 (by decide) (fun c7 => ?_) (fun c7 => ?_)
  · replace h := h.1 c7
    refine x_iload C dX11_skipsTo_117 4 rfl ?_
    refine x_iload_n C dX11_skipsTo_119 3 rfl ?_
    refine x_icmp_le (tgt := 127) C dX11_skipsTo_120 (by decide) (fun c8 => ?_) (fun c8 => ?_)
    · replace h := h.1 c8
      refine x_iload C dX11_skipsTo_127 5 rfl ?_
      exact x_iret C E h (Nat.le_of_ble_eq_true rfl) (Nat.le_of_ble_eq_true rfl) dX11_skipsTo_129
    · replace h := h.2 c8
      refine x_iconst (v := (-1)) C dX11_skipsTo_123 rfl ?_
      refine x_goto (tgt := 129) C dX11_skipsTo_124 (by decide) ?_
      exact x_iret C E h (Nat.le_of_ble_eq_true rfl) (Nat.le_of_ble_eq_true rfl) dX11_skipsTo_129
  · replace h := h.2 c7
    refine x_aload_n C dX11_skipsTo_41 0 rfl ?_
    refine gf_11_52 C q202 z11 dX11_skipsTo_42 ?_
    refine x_iload C dX11_skipsTo_45 6 rfl ?_
    obtain ⟨f9, h⟩ := h
    refine al_1252 C z1252 f9 dX11_skipsTo_47 ?_
    refine X_name (fun v10 ev10 => ?_)
    replace h := h v10 ev10
    refine x_istore (lv' := [(7, .int v10), (0, .ref (ga G 11 0)), (1, .int x1), (2, .int x2), (3, .int x3), (4, .int y4), (5, .int y5), (6, .int y6)]) C dX11_skipsTo_48 (Nat.le_of_ble_eq_true rfl) rfl ?_
    refine x_aload_n C dX11_skipsTo_50 1 rfl ?_
    refine x_iload C dX11_skipsTo_51 0 rfl ?_
    refine x_iload_n C dX11_skipsTo_53 3 rfl ?_
    refine x_calli (rest := []) C sv_X11_347 ob11 z11 (kX11_blockFor hG _ _ _ h) rfl rfl (Nat.le_of_ble_eq_true rfl) ⟨Nat.le_of_ble_eq_true rfl, Nat.le_of_ble_eq_true rfl⟩ rfl rfl ⟨Nat.le_of_ble_eq_true rfl, Nat.le_of_ble_eq_true rfl⟩ dX11_skipsTo_54 (fun r11 M12 h => ?_)
    refine x_istore (lv' := [(8, .int r11), (7, .int v10), (0, .ref (ga G 11 0)), (1, .int x1), (2, .int x2), (3, .int x3), (4, .int y4), (5, .int y5), (6, .int y6)]) C dX11_skipsTo_57 (Nat.le_of_ble_eq_true rfl) rfl ?_
    refine x_iload C dX11_skipsTo_59 0 rfl ?_
    refine x_aload_n C dX11_skipsTo_61 2 rfl ?_
    refine x_iload C dX11_skipsTo_62 1 rfl ?_
    refine x_calli (rest := [.int r11]) C sv_X11_320 ob11 z11 (kX11_blocksOfList hG _ _ h) rfl rfl (Nat.le_of_ble_eq_true rfl) ⟨Nat.le_of_ble_eq_true rfl, Nat.le_of_ble_eq_true rfl⟩ rfl rfl ⟨Nat.le_of_ble_eq_true rfl, Nat.le_of_ble_eq_true rfl⟩ dX11_skipsTo_64 (fun r13 M14 h => ?_)
    refine x_icmp_ne (tgt := 73) C dX11_skipsTo_67 (by decide) (fun c15 => ?_) (fun c15 => ?_)
    · replace h := h.1 c15
      refine x_iload C dX11_skipsTo_73 6 rfl ?_
      refine x_aload_n C dX11_skipsTo_75 2 rfl ?_
      refine gf_11_47 C q191 z11 dX11_skipsTo_76 ?_
      refine x_iload C dX11_skipsTo_79 1 rfl ?_
      obtain ⟨f16, h⟩ := h
      refine al_1247 C z1247 f16 dX11_skipsTo_81 ?_
      refine x_aload_n C dX11_skipsTo_82 2 rfl ?_
      refine x_iload C dX11_skipsTo_83 1 rfl ?_
      refine x_iload C dX11_skipsTo_85 0 rfl ?_
      refine x_calli (rest := [.int (M14.1 1247 0 (tn v10)), .int y4]) C sv_X11_350 ob11 z11 (kX11_topOf hG _ _ _ h) rfl rfl (Nat.le_of_ble_eq_true rfl) ⟨Nat.le_of_ble_eq_true rfl, Nat.le_of_ble_eq_true rfl⟩ rfl rfl ⟨Nat.le_of_ble_eq_true rfl, Nat.le_of_ble_eq_true rfl⟩ dX11_skipsTo_87 (fun r17 M18 h => ?_)
      refine x_imul C dX11_skipsTo_90 ?_
      refine x_iadd C dX11_skipsTo_91 ?_
      refine X_name (fun v19 ev19 => ?_)
      replace h := h v19 ev19
      refine x_istore (lv' := [(4, .int v19), (8, .int r11), (7, .int v10), (0, .ref (ga G 11 0)), (1, .int x1), (2, .int x2), (3, .int x3), (5, .int y5), (6, .int y6)]) C dX11_skipsTo_92 (Nat.le_of_ble_eq_true rfl) rfl ?_
      refine x_iload C dX11_skipsTo_94 7 rfl ?_
      refine x_aload_n C dX11_skipsTo_96 3 rfl ?_
      refine x_iload C dX11_skipsTo_97 2 rfl ?_
      refine x_iload C dX11_skipsTo_99 1 rfl ?_
      refine x_calli (rest := [.int y5]) C sv_X11_317 ob11 z11 (kX11_lastOf hG _ _ _ h) rfl rfl (Nat.le_of_ble_eq_true rfl) ⟨Nat.le_of_ble_eq_true rfl, Nat.le_of_ble_eq_true rfl⟩ rfl rfl ⟨Nat.le_of_ble_eq_true rfl, Nat.le_of_ble_eq_true rfl⟩ dX11_skipsTo_101 (fun r20 M21 h => ?_)
      refine x_iconst (v := 1) C dX11_skipsTo_104 rfl ?_
      refine x_iadd C dX11_skipsTo_105 ?_
      refine x_scalli (rest := []) C ss_X11_236 (kX11_less hG _ _ _ h) rfl rfl (Nat.le_of_ble_eq_true rfl) ⟨Nat.le_of_ble_eq_true rfl, Nat.le_of_ble_eq_true rfl⟩ rfl rfl ⟨Nat.le_of_ble_eq_true rfl, Nat.le_of_ble_eq_true rfl⟩ dX11_skipsTo_106 (fun r22 M23 h => ?_)
      refine x_istore (lv' := [(5, .int r22), (4, .int v19), (8, .int r11), (7, .int v10), (0, .ref (ga G 11 0)), (1, .int x1), (2, .int x2), (3, .int x3), (6, .int y6)]) C dX11_skipsTo_109 (Nat.le_of_ble_eq_true rfl) rfl ?_
      refine X_sub (lv' := [(0, .ref (ga G 11 0)), (1, .int x1), (2, .int x2), (3, .int x3), (4, .int v19), (5, .int r22), (6, .int y6)]) [4, 5, 6, 7, 1, 0, 8] rfl ?_
      exact wX11_skipsTo_111 hG C E hL35 M23 v19 r22 y6 h
    · replace h := h.2 c15
      refine x_goto (tgt := 111) C dX11_skipsTo_70 (by decide) ?_
      refine X_sub (lv' := [(0, .ref (ga G 11 0)), (1, .int x1), (2, .int x2), (3, .int x3), (4, .int y4), (5, .int y5), (6, .int y6)]) [2, 3, 4, 5, 6, 7, 8] rfl ?_
      exact wX11_skipsTo_111 hG C E hL35 M14 y4 y5 y6 h
set_option maxRecDepth 100000 in
set_option maxHeartbeats 400000 in
theorem wX11_skipsTo_32 {Γ : Gam} {G : Gm} {Qf : State → Prop} (hG : Gd G) (C : Cx Γ G cX11_skipsTo 9 RX11 (some .int) rmX11_skipsTo) {x1 : Int32} {x2 : Int32} {x3 : Int32} {Q : Int32 → Mem → Prop} (E : EndI Γ G Qf rmX11_skipsTo Q) (M : Mem) (y4 : Int32) (y5 : Int32) (h : bX11_skipsTo_32 x1 x2 x3 Q M y4 y5) : X Γ G Qf 9 0 0 32 [(0, .ref (ga G 11 0)), (1, .int x1), (2, .int x2), (3, .int x3), (4, .int y4), (5, .int y5)] [] M := by
  unfold bX11_skipsTo_32 at h
  refine x_iconst (v := 0) C dX11_skipsTo_32 rfl ?_
  refine x_istore (lv' := [(6, .int 0), (0, .ref (ga G 11 0)), (1, .int x1), (2, .int x2), (3, .int x3), (4, .int y4), (5, .int y5)]) C dX11_skipsTo_33 (Nat.le_of_ble_eq_true rfl) rfl ?_
  obtain ⟨n9, h⟩ := h
  refine X_sub (lv' := [(0, .ref (ga G 11 0)), (1, .int x1), (2, .int x2), (3, .int x3), (4, .int y4), (5, .int y5), (6, .int 0)]) [1, 2, 3, 4, 5, 6, 0] rfl ?_
  have hb : ∀ (L : Mem × Int32 × Int32 × Int32 → Prop) (s : Mem × Int32 × Int32 × Int32), (∀ t, L t → X Γ G Qf 9 0 0 35 [(0, .ref (ga G 11 0)), (1, .int x1), (2, .int x2), (3, .int x3), (4, .int t.2.1), (5, .int t.2.2.1), (6, .int t.2.2.2)] [] t.1) → bX11_skipsTo_35 x1 x2 x3 Q L s.1 s.2.1 s.2.2.1 s.2.2.2 → X Γ G Qf 9 0 0 35 [(0, .ref (ga G 11 0)), (1, .int x1), (2, .int x2), (3, .int x3), (4, .int s.2.1), (5, .int s.2.2.1), (6, .int s.2.2.2)] [] s.1 := fun L s hL h => wX11_skipsTo_35 hG C E hL s.1 s.2.1 s.2.2.1 s.2.2.2 h
  have w9 := lp_walk (P := fun s : Mem × Int32 × Int32 × Int32 => X Γ G Qf 9 0 0 35 [(0, .ref (ga G 11 0)), (1, .int x1), (2, .int x2), (3, .int x3), (4, .int s.2.1), (5, .int s.2.2.1), (6, .int s.2.2.2)] [] s.1) h hb
  dsimp only at w9
  exact w9
set_option maxRecDepth 100000 in
set_option maxHeartbeats 400000 in
theorem kX11_skipsTo {l : Launch} {G : Gm} (hG : Gd G) (M : Mem) (x1 : Int32) (x2 : Int32) (x3 : Int32) {Q : Int32 → Mem → Prop} (h : pX11_skipsTo M x1 x2 x3 Q) : Cti l G yX11_skipsTo cX11_skipsTo 9 .int rmX11_skipsTo [.ref (ga G 11 0), .int x1, .int x2, .int x3] M Q := by
  refine cti_of (own := RX11) (by decide +kernel) rfl (Nat.le_of_ble_eq_true rfl) hG (fun Γ Qf hl C E => ?_)
  subst hl
  show X Γ G Qf 9 0 0 0 [(0, .ref (ga G 11 0)), (1, .int x1), (2, .int x2), (3, .int x3)] [] M
  unfold pX11_skipsTo at h
  refine x_aload_n C dX11_skipsTo_0 0 rfl ?_
  refine x_calli (rest := []) C sv_X11_344 ob11 z11 (kX11_mostNear hG _ h) rfl rfl (Nat.le_of_ble_eq_true rfl) ⟨Nat.le_of_ble_eq_true rfl, Nat.le_of_ble_eq_true rfl⟩ rfl rfl ⟨Nat.le_of_ble_eq_true rfl, Nat.le_of_ble_eq_true rfl⟩ dX11_skipsTo_1 (fun r1 M2 h => ?_)
  refine x_istore (lv' := [(4, .int r1), (0, .ref (ga G 11 0)), (1, .int x1), (2, .int x2), (3, .int x3)]) C dX11_skipsTo_4 (Nat.le_of_ble_eq_true rfl) rfl ?_
  refine x_iload_n C dX11_skipsTo_6 2 rfl ?_
  refine x_aload_n C dX11_skipsTo_7 1 rfl ?_
  refine gf_11_64 C q201 z11 dX11_skipsTo_8 ?_
  refine x_icmp_ge (tgt := 28) C dX11_skipsTo_11 (by decide) (fun c3 => ?_) (fun c3 => ?_)
  · replace h := h.1 c3
    refine x_bipush (v := 65) C dX11_skipsTo_28 rfl ?_
    refine x_istore (lv' := [(5, .int 65), (4, .int r1), (0, .ref (ga G 11 0)), (1, .int x1), (2, .int x2), (3, .int x3)]) C dX11_skipsTo_30 (Nat.le_of_ble_eq_true rfl) rfl ?_
    refine X_sub (lv' := [(0, .ref (ga G 11 0)), (1, .int x1), (2, .int x2), (3, .int x3), (4, .int r1), (5, .int 65)]) [2, 3, 4, 5, 1, 0] rfl ?_
    exact wX11_skipsTo_32 hG C E M2 r1 65 h
  · replace h := h.2 c3
    refine x_aload_n C dX11_skipsTo_14 1 rfl ?_
    refine gf_11_50 C q197 z11 dX11_skipsTo_15 ?_
    refine x_aload_n C dX11_skipsTo_18 1 rfl ?_
    refine gf_11_52 C q202 z11 dX11_skipsTo_19 ?_
    refine x_iload_n C dX11_skipsTo_22 2 rfl ?_
    obtain ⟨f4, h⟩ := h
    refine al_1252 C z1252 f4 dX11_skipsTo_23 ?_
    obtain ⟨f5, h⟩ := h
    refine al_1250 C z1250 f5 dX11_skipsTo_24 ?_
    refine x_goto (tgt := 30) C dX11_skipsTo_25 (by decide) ?_
    refine X_name (fun v6 ev6 => ?_)
    replace h := h v6 ev6
    refine x_istore (lv' := [(5, .int v6), (4, .int r1), (0, .ref (ga G 11 0)), (1, .int x1), (2, .int x2), (3, .int x3)]) C dX11_skipsTo_30 (Nat.le_of_ble_eq_true rfl) rfl ?_
    refine X_sub (lv' := [(0, .ref (ga G 11 0)), (1, .int x1), (2, .int x2), (3, .int x3), (4, .int r1), (5, .int v6)]) [2, 3, 4, 5, 1, 0] rfl ?_
    exact wX11_skipsTo_32 hG C E M2 r1 v6 h
def rmX11_keepsBest : Room := { frames := 5, cells := 0, slots := 0, locals := 111 }
def bX11_keepsBest_86 (x1 : Int32) (x2 : Int32) (Q : Mem → Prop) (M : Mem) (y3 : Int32) (y4 : Int32) : Prop :=
  vp_in y4 11 ∧ ∀ M16 : Mem, M16 = up1 M 1254 0 (tn y4) x1 → ∀ M17 : Mem, M17 = up1 M16 1255 0 (tn y4) y3 → pX11_less M17 x2 ((M17.1 1256 0 0) + 1) (fun r18 M19 => ∀ M20 : Mem, M20 = up1 M19 1256 0 0 r18 → Q M20)
def bX11_keepsBest_30 (x1 : Int32) (x2 : Int32) (Q : Mem → Prop) (L30 : Mem × Int32 × Int32 → Prop) (M : Mem) (y3 : Int32) (y4 : Int32) : Prop :=
  ((y4 ≤ 0 → bX11_keepsBest_86 x1 x2 Q M y3 y4) ∧ (¬ y4 ≤ 0 → vp_in (y4 - 1) 11 ∧ ((y3 ≤ (M.1 1255 0 (tn (y4 - 1))) → bX11_keepsBest_86 x1 x2 Q M y3 y4) ∧ (¬ y3 ≤ (M.1 1255 0 (tn (y4 - 1))) → vp_in y4 11 ∧ ∀ M12 : Mem, M12 = up1 M 1254 0 (tn y4) (M.1 1254 0 (tn (y4 - 1))) → ∀ M13 : Mem, M13 = up1 M12 1255 0 (tn y4) (M12.1 1255 0 (tn (y4 - 1))) → ∀ v14 : Int32, v14 = y4 + (-1) → L30 (M13, y3, v14)))))
def bX11_keepsBest_24 (x1 : Int32) (x2 : Int32) (Q : Mem → Prop) (M : Mem) (y3 : Int32) : Prop :=
  ∀ v7 : Int32, v7 = (M.1 1256 0 0) → ∃ n : Nat, lp (fun L s => bX11_keepsBest_30 x1 x2 Q L s.1 s.2.1 s.2.2) n (M, y3, v7)
def pX11_keepsBest (M : Mem) (x1 : Int32) (x2 : Int32) (Q : Mem → Prop) : Prop :=
  pX11_scoreOf M x1 (fun r1 M2 => ((¬ (M2.1 1256 0 0) = x2 → bX11_keepsBest_24 x1 x2 Q M2 r1) ∧ ((M2.1 1256 0 0) = x2 → pX11_floor M2 x2 (fun r4 M5 => ((r4 < r1 → bX11_keepsBest_24 x1 x2 Q M5 r1) ∧ (¬ r4 < r1 → Q M5))))))
set_option maxRecDepth 100000 in
set_option maxHeartbeats 400000 in
theorem wX11_keepsBest_86 {Γ : Gam} {G : Gm} {Qf : State → Prop} (hG : Gd G) (C : Cx Γ G cX11_keepsBest 5 RX11 none rmX11_keepsBest) {x1 : Int32} {x2 : Int32} {Q : Mem → Prop} (E : EndV Γ G Qf rmX11_keepsBest Q) (M : Mem) (y3 : Int32) (y4 : Int32) (h : bX11_keepsBest_86 x1 x2 Q M y3 y4) : X Γ G Qf 5 0 0 86 [(0, .ref (ga G 11 0)), (1, .int x1), (2, .int x2), (3, .int y3), (4, .int y4)] [] M := by
  unfold bX11_keepsBest_86 at h
  refine x_aload_n C dX11_keepsBest_86 0 rfl ?_
  refine gf_11_54 C q205 z11 dX11_keepsBest_87 ?_
  refine x_iload C dX11_keepsBest_90 4 rfl ?_
  refine x_iload_n C dX11_keepsBest_92 1 rfl ?_
  obtain ⟨f15, h⟩ := h
  refine as_1254 C z1254 f15 dX11_keepsBest_93 ?_
  refine X_nameM (fun M16 eM16 => ?_)
  replace h := h M16 eM16
  refine x_aload_n C dX11_keepsBest_94 0 rfl ?_
  refine gf_11_55 C q204 z11 dX11_keepsBest_95 ?_
  refine x_iload C dX11_keepsBest_98 4 rfl ?_
  refine x_iload_n C dX11_keepsBest_100 3 rfl ?_
  refine as_1255 C z1255 f15 dX11_keepsBest_101 ?_
  refine X_nameM (fun M17 eM17 => ?_)
  replace h := h M17 eM17
  refine x_aload_n C dX11_keepsBest_102 0 rfl ?_
  refine x_iload_n C dX11_keepsBest_103 2 rfl ?_
  refine x_aload_n C dX11_keepsBest_104 0 rfl ?_
  refine gf_11_56 C q203 z11 dX11_keepsBest_105 ?_
  refine x_iconst (v := 1) C dX11_keepsBest_108 rfl ?_
  refine x_iadd C dX11_keepsBest_109 ?_
  refine x_scalli (rest := [.ref (ga G 11 0)]) C ss_X11_236 (kX11_less hG _ _ _ h) rfl rfl (Nat.le_of_ble_eq_true rfl) ⟨Nat.le_of_ble_eq_true rfl, Nat.le_of_ble_eq_true rfl⟩ rfl rfl ⟨Nat.le_of_ble_eq_true rfl, Nat.le_of_ble_eq_true rfl⟩ dX11_keepsBest_110 (fun r18 M19 h => ?_)
  refine pf_11_56 C q203 z11 dX11_keepsBest_113 ?_
  refine X_nameM (fun M20 eM20 => ?_)
  replace h := h M20 eM20
  exact x_vret C E h (Nat.le_of_ble_eq_true rfl) (Nat.le_of_ble_eq_true rfl) dX11_keepsBest_116
set_option maxRecDepth 100000 in
set_option maxHeartbeats 400000 in
theorem wX11_keepsBest_30 {Γ : Gam} {G : Gm} {Qf : State → Prop} (hG : Gd G) (C : Cx Γ G cX11_keepsBest 5 RX11 none rmX11_keepsBest) {x1 : Int32} {x2 : Int32} {Q : Mem → Prop} (E : EndV Γ G Qf rmX11_keepsBest Q) {L30 : Mem × Int32 × Int32 → Prop} (hL30 : ∀ s, L30 s → X Γ G Qf 5 0 0 30 [(0, .ref (ga G 11 0)), (1, .int x1), (2, .int x2), (3, .int s.2.1), (4, .int s.2.2)] [] s.1) (M : Mem) (y3 : Int32) (y4 : Int32) (h : bX11_keepsBest_30 x1 x2 Q L30 M y3 y4) : X Γ G Qf 5 0 0 30 [(0, .ref (ga G 11 0)), (1, .int x1), (2, .int x2), (3, .int y3), (4, .int y4)] [] M := by
  unfold bX11_keepsBest_30 at h
  refine x_iload C dX11_keepsBest_30 4 rfl ?_
  refine x_if_le (tgt := 86) C dX11_keepsBest_32 (by decide) (fun c8 => ?_) (fun c8 => ?_)
  · replace h := h.1 c8
    refine X_sub (lv' := [(0, .ref (ga G 11 0)), (1, .int x1), (2, .int x2), (3, .int y3), (4, .int y4)]) [0, 1, 2, 3, 4] rfl ?_
    exact wX11_keepsBest_86 hG C E M y3 y4 h
  · replace h := h.2 c8
    refine x_aload_n C dX11_keepsBest_35 0 rfl ?_
    refine gf_11_55 C q204 z11 dX11_keepsBest_36 ?_
    refine x_iload C dX11_keepsBest_39 4 rfl ?_
    refine x_iconst (v := 1) C dX11_keepsBest_41 rfl ?_
    refine x_isub C dX11_keepsBest_42 ?_
    obtain ⟨f9, h⟩ := h
    refine al_1255 C z1255 f9 dX11_keepsBest_43 ?_
    refine x_iload_n C dX11_keepsBest_44 3 rfl ?_
    refine x_icmp_ge (tgt := 86) C dX11_keepsBest_45 (by decide) (fun c10 => ?_) (fun c10 => ?_)
    · replace h := h.1 c10
      refine X_sub (lv' := [(0, .ref (ga G 11 0)), (1, .int x1), (2, .int x2), (3, .int y3), (4, .int y4)]) [0, 1, 2, 3, 4] rfl ?_
      exact wX11_keepsBest_86 hG C E M y3 y4 h
    · replace h := h.2 c10
      refine x_aload_n C dX11_keepsBest_48 0 rfl ?_
      refine gf_11_54 C q205 z11 dX11_keepsBest_49 ?_
      refine x_iload C dX11_keepsBest_52 4 rfl ?_
      refine x_aload_n C dX11_keepsBest_54 0 rfl ?_
      refine gf_11_54 C q205 z11 dX11_keepsBest_55 ?_
      refine x_iload C dX11_keepsBest_58 4 rfl ?_
      refine x_iconst (v := 1) C dX11_keepsBest_60 rfl ?_
      refine x_isub C dX11_keepsBest_61 ?_
      refine al_1254 C z1254 f9 dX11_keepsBest_62 ?_
      obtain ⟨f11, h⟩ := h
      refine as_1254 C z1254 f11 dX11_keepsBest_63 ?_
      refine X_nameM (fun M12 eM12 => ?_)
      replace h := h M12 eM12
      refine x_aload_n C dX11_keepsBest_64 0 rfl ?_
      refine gf_11_55 C q204 z11 dX11_keepsBest_65 ?_
      refine x_iload C dX11_keepsBest_68 4 rfl ?_
      refine x_aload_n C dX11_keepsBest_70 0 rfl ?_
      refine gf_11_55 C q204 z11 dX11_keepsBest_71 ?_
      refine x_iload C dX11_keepsBest_74 4 rfl ?_
      refine x_iconst (v := 1) C dX11_keepsBest_76 rfl ?_
      refine x_isub C dX11_keepsBest_77 ?_
      refine al_1255 C z1255 f9 dX11_keepsBest_78 ?_
      refine as_1255 C z1255 f11 dX11_keepsBest_79 ?_
      refine X_nameM (fun M13 eM13 => ?_)
      replace h := h M13 eM13
      obtain ⟨v14, ev14⟩ : ∃ z : Int32, z = y4 + (-1) := ⟨_, rfl⟩
      replace h := h v14 ev14
      refine x_iinc (v := v14) (lv' := [(4, .int v14), (0, .ref (ga G 11 0)), (1, .int x1), (2, .int x2), (3, .int y3)]) (j := 4) C dX11_keepsBest_80 rfl (by rw [ev14]; rfl) (Nat.le_of_ble_eq_true rfl) rfl ?_
      refine x_goto (tgt := 30) C dX11_keepsBest_83 (by decide) ?_
      refine X_sub (lv' := [(0, .ref (ga G 11 0)), (1, .int x1), (2, .int x2), (3, .int y3), (4, .int v14)]) [1, 2, 3, 4, 0] rfl ?_
      have w9 := hL30 (M13, y3, v14) h
      dsimp only at w9
      exact w9
set_option maxRecDepth 100000 in
set_option maxHeartbeats 400000 in
theorem wX11_keepsBest_24 {Γ : Gam} {G : Gm} {Qf : State → Prop} (hG : Gd G) (C : Cx Γ G cX11_keepsBest 5 RX11 none rmX11_keepsBest) {x1 : Int32} {x2 : Int32} {Q : Mem → Prop} (E : EndV Γ G Qf rmX11_keepsBest Q) (M : Mem) (y3 : Int32) (h : bX11_keepsBest_24 x1 x2 Q M y3) : X Γ G Qf 5 0 0 24 [(0, .ref (ga G 11 0)), (1, .int x1), (2, .int x2), (3, .int y3)] [] M := by
  unfold bX11_keepsBest_24 at h
  refine x_aload_n C dX11_keepsBest_24 0 rfl ?_
  refine gf_11_56 C q203 z11 dX11_keepsBest_25 ?_
  refine X_name (fun v7 ev7 => ?_)
  replace h := h v7 ev7
  refine x_istore (lv' := [(4, .int v7), (0, .ref (ga G 11 0)), (1, .int x1), (2, .int x2), (3, .int y3)]) C dX11_keepsBest_28 (Nat.le_of_ble_eq_true rfl) rfl ?_
  obtain ⟨n9, h⟩ := h
  refine X_sub (lv' := [(0, .ref (ga G 11 0)), (1, .int x1), (2, .int x2), (3, .int y3), (4, .int v7)]) [1, 2, 3, 4, 0] rfl ?_
  have hb : ∀ (L : Mem × Int32 × Int32 → Prop) (s : Mem × Int32 × Int32), (∀ t, L t → X Γ G Qf 5 0 0 30 [(0, .ref (ga G 11 0)), (1, .int x1), (2, .int x2), (3, .int t.2.1), (4, .int t.2.2)] [] t.1) → bX11_keepsBest_30 x1 x2 Q L s.1 s.2.1 s.2.2 → X Γ G Qf 5 0 0 30 [(0, .ref (ga G 11 0)), (1, .int x1), (2, .int x2), (3, .int s.2.1), (4, .int s.2.2)] [] s.1 := fun L s hL h => wX11_keepsBest_30 hG C E hL s.1 s.2.1 s.2.2 h
  have w9 := lp_walk (P := fun s : Mem × Int32 × Int32 => X Γ G Qf 5 0 0 30 [(0, .ref (ga G 11 0)), (1, .int x1), (2, .int x2), (3, .int s.2.1), (4, .int s.2.2)] [] s.1) h hb
  dsimp only at w9
  exact w9
set_option maxRecDepth 100000 in
set_option maxHeartbeats 400000 in
theorem kX11_keepsBest {l : Launch} {G : Gm} (hG : Gd G) (M : Mem) (x1 : Int32) (x2 : Int32) {Q : Mem → Prop} (h : pX11_keepsBest M x1 x2 Q) : Ctv l G yX11_keepsBest cX11_keepsBest 5 rmX11_keepsBest [.ref (ga G 11 0), .int x1, .int x2] M Q := by
  refine ctv_of (own := RX11) (by decide +kernel) rfl (Nat.le_of_ble_eq_true rfl) hG (fun Γ Qf hl C E => ?_)
  subst hl
  show X Γ G Qf 5 0 0 0 [(0, .ref (ga G 11 0)), (1, .int x1), (2, .int x2)] [] M
  unfold pX11_keepsBest at h
  refine x_aload_n C dX11_keepsBest_0 0 rfl ?_
  refine x_iload_n C dX11_keepsBest_1 1 rfl ?_
  refine x_calli (rest := []) C sv_X11_305 ob11 z11 (kX11_scoreOf hG _ _ h) rfl rfl (Nat.le_of_ble_eq_true rfl) ⟨Nat.le_of_ble_eq_true rfl, Nat.le_of_ble_eq_true rfl⟩ rfl rfl ⟨Nat.le_of_ble_eq_true rfl, Nat.le_of_ble_eq_true rfl⟩ dX11_keepsBest_2 (fun r1 M2 h => ?_)
  refine x_istore_n (lv' := [(3, .int r1), (0, .ref (ga G 11 0)), (1, .int x1), (2, .int x2)]) C dX11_keepsBest_5 rfl (Nat.le_of_ble_eq_true rfl) rfl ?_
  refine x_aload_n C dX11_keepsBest_6 1 rfl ?_
  refine gf_11_56 C q203 z11 dX11_keepsBest_7 ?_
  refine x_iload_n C dX11_keepsBest_10 3 rfl ?_
  refine x_icmp_ne (tgt := 24) C dX11_keepsBest_11 (by decide) (fun c3 => ?_) (fun c3 => ?_)
  · replace h := h.1 c3
    refine X_sub (lv' := [(0, .ref (ga G 11 0)), (1, .int x1), (2, .int x2), (3, .int r1)]) [1, 2, 3, 0] rfl ?_
    exact wX11_keepsBest_24 hG C E M2 r1 h
  · replace h := h.2 c3
    refine x_iload_n C dX11_keepsBest_14 0 rfl ?_
    refine x_aload_n C dX11_keepsBest_15 1 rfl ?_
    refine x_iload_n C dX11_keepsBest_16 3 rfl ?_
    refine x_calli (rest := [.int r1]) C sv_X11_353 ob11 z11 (kX11_floor hG _ _ h) rfl rfl (Nat.le_of_ble_eq_true rfl) ⟨Nat.le_of_ble_eq_true rfl, Nat.le_of_ble_eq_true rfl⟩ rfl rfl ⟨Nat.le_of_ble_eq_true rfl, Nat.le_of_ble_eq_true rfl⟩ dX11_keepsBest_17 (fun r4 M5 h => ?_)
    refine x_icmp_gt (tgt := 24) C dX11_keepsBest_20 (by decide) (fun c6 => ?_) (fun c6 => ?_)
    · replace h := h.1 c6
      refine X_sub (lv' := [(0, .ref (ga G 11 0)), (1, .int x1), (2, .int x2), (3, .int r1)]) [1, 2, 3, 0] rfl ?_
      exact wX11_keepsBest_24 hG C E M5 r1 h
    · replace h := h.2 c6
      exact x_vret C E h (Nat.le_of_ble_eq_true rfl) (Nat.le_of_ble_eq_true rfl) dX11_keepsBest_23
