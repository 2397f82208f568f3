def rmX11_looks : Room := { frames := 6, cells := 0, slots := 0, locals := 135 }
def bX11_looks_155 (x1 : Int32) (x2 : Int32) (x3 : Int32) (Q : Mem → Prop) (L104 : Mem × Int32 → Prop) (M : Mem) (y5 : Int32) : Prop :=
  ∀ v26 : Int32, v26 = y5 + 1 → L104 (M, v26)
def bX11_looks_104 (x1 : Int32) (x2 : Int32) (x3 : Int32) (Q : Mem → Prop) (L104 : Mem × Int32 → Prop) (M : Mem) (y5 : Int32) : Prop :=
  ((x1 ≤ y5 → Q M) ∧ (¬ x1 ≤ y5 → vp_in y5 24 ∧ vp_in (M.1 1252 0 (tn y5)) 24 ∧ ((¬ (M.1 1253 0 (tn (M.1 1252 0 (tn y5)))) = 0 → bX11_looks_155 x1 x2 x3 Q L104 M y5) ∧ ((M.1 1253 0 (tn (M.1 1252 0 (tn y5)))) = 0 → ((¬ (M.1 1250 0 (tn (M.1 1252 0 (tn y5)))) = x2 → bX11_looks_155 x1 x2 x3 Q L104 M y5) ∧ ((M.1 1250 0 (tn (M.1 1252 0 (tn y5)))) = x2 → pX11_dips M (M.1 1252 0 (tn y5)) (x2 + 1) (fun M25 => bX11_looks_155 x1 x2 x3 Q L104 M25 y5)))))))
def bX11_looks_101 (x1 : Int32) (x2 : Int32) (x3 : Int32) (Q : Mem → Prop) (M : Mem) : Prop :=
  ∃ n : Nat, lp (fun L s => bX11_looks_104 x1 x2 x3 Q L s.1 s.2) n (M, 0)
def bX11_looks_65 (x1 : Int32) (x2 : Int32) (x3 : Int32) (Q : Mem → Prop) (L6 : Mem × Int32 × Int32 → Prop) (M : Mem) (y4 : Int32) (y5 : Int32) : Prop :=
  ∀ v18 : Int32, v18 = y5 + 1 → L6 (M, y4, v18)
def bX11_looks_6 (x1 : Int32) (x2 : Int32) (x3 : Int32) (Q : Mem → Prop) (L6 : Mem × Int32 × Int32 → Prop) (M : Mem) (y4 : Int32) (y5 : Int32) : Prop :=
  ((x1 ≤ y5 → ((¬ y4 = 0 → ∀ M3 : Mem, M3 = up1 M 1262 0 0 ((M.1 1262 0 0) + 1) → pX11_whyNot M3 x2 (fun r4 M5 => ((¬ r4 = 0 → bX11_looks_101 x1 x2 x3 Q M5) ∧ (r4 = 0 → pX11_keepsBest M5 x2 x3 (fun M8 => bX11_looks_101 x1 x2 x3 Q M8))))) ∧ (y4 = 0 → Q M))) ∧ (¬ x1 ≤ y5 → vp_in y5 24 ∧ pX11_seeks M (M.1 1252 0 (tn y5)) x2 (fun M11 => vp_in (M11.1 1252 0 (tn y5)) 24 ∧ ((¬ (M11.1 1253 0 (tn (M11.1 1252 0 (tn y5)))) = 0 → ∀ v14 : Int32, v14 = (y4 ||| 0) → bX11_looks_65 x1 x2 x3 Q L6 M11 v14 y5) ∧ ((M11.1 1253 0 (tn (M11.1 1252 0 (tn y5)))) = 0 → ((¬ (M11.1 1250 0 (tn (M11.1 1252 0 (tn y5)))) = x2 → ∀ v16 : Int32, v16 = (y4 ||| 0) → bX11_looks_65 x1 x2 x3 Q L6 M11 v16 y5) ∧ ((M11.1 1250 0 (tn (M11.1 1252 0 (tn y5)))) = x2 → ∀ v17 : Int32, v17 = (y4 ||| 1) → bX11_looks_65 x1 x2 x3 Q L6 M11 v17 y5)))))))
def pX11_looks (M : Mem) (x1 : Int32) (x2 : Int32) (x3 : Int32) (Q : Mem → Prop) : Prop :=
  ∃ n : Nat, lp (fun L s => bX11_looks_6 x1 x2 x3 Q L s.1 s.2.1 s.2.2) n (M, 0, 0)
set_option maxRecDepth 100000 in
set_option maxHeartbeats 400000 in
theorem wX11_looks_155 {Γ : Gam} {G : Gm} {Qf : State → Prop} (hG : Gd G) (C : Cx Γ G cX11_looks 6 RX11 none rmX11_looks) {x1 : Int32} {x2 : Int32} {x3 : Int32} {Q : Mem → Prop} (E : EndV Γ G Qf rmX11_looks Q) {L104 : Mem × Int32 → Prop} (hL104 : ∀ s, L104 s → X Γ G Qf 6 0 0 104 [(0, .ref (ga G 11 0)), (1, .int x1), (2, .int x2), (5, .int s.2)] [] s.1) (M : Mem) (y5 : Int32) (h : bX11_looks_155 x1 x2 x3 Q L104 M y5) : X Γ G Qf 6 0 0 155 [(0, .ref (ga G 11 0)), (1, .int x1), (2, .int x2), (5, .int y5)] [] M := by
  unfold bX11_looks_155 at h
  obtain ⟨v26, ev26⟩ : ∃ z : Int32, z = y5 + 1 := ⟨_, rfl⟩
  replace h := h v26 ev26
  refine x_iinc (v := v26) (lv' := [(5, .int v26), (0, .ref (ga G 11 0)), (1, .int x1), (2, .int x2)]) (j := 3) C dX11_looks_155 rfl (by rw [ev26]; rfl) (Nat.le_of_ble_eq_true rfl) rfl ?_
  refine x_goto (tgt := 104) C dX11_looks_158 (by decide) ?_
  refine X_sub (lv' := [(0, .ref (ga G 11 0)), (1, .int x1), (2, .int x2), (5, .int v26)]) [1, 2, 3, 0] rfl ?_
  have w9 := hL104 (M, v26) h
  dsimp only at w9
  exact w9
set_option maxRecDepth 100000 in
set_option maxHeartbeats 400000 in
theorem wX11_looks_104 {Γ : Gam} {G : Gm} {Qf : State → Prop} (hG : Gd G) (C : Cx Γ G cX11_looks 6 RX11 none rmX11_looks) {x1 : Int32} {x2 : Int32} {x3 : Int32} {Q : Mem → Prop} (E : EndV Γ G Qf rmX11_looks Q) {L104 : Mem × Int32 → Prop} (hL104 : ∀ s, L104 s → X Γ G Qf 6 0 0 104 [(0, .ref (ga G 11 0)), (1, .int x1), (2, .int x2), (5, .int s.2)] [] s.1) (M : Mem) (y5 : Int32) (h : bX11_looks_104 x1 x2 x3 Q L104 M y5) : X Γ G Qf 6 0 0 104 [(0, .ref (ga G 11 0)), (1, .int x1), (2, .int x2), (5, .int y5)] [] M := by
  unfold bX11_looks_104 at h
  refine x_iload C dX11_looks_104 3 rfl ?_
  refine x_iload_n C dX11_looks_106 1 rfl ?_
  refine x_icmp_ge (tgt := 161) C dX11_looks_107 (by decide) (fun c19 => ?_) (fun c19 => ?_)
  · replace h := h.1 c19
    exact x_vret C E h (Nat.le_of_ble_eq_true rfl) (Nat.le_of_ble_eq_true rfl) dX11_looks_161
  · replace h := h.2 c19
    refine x_aload_n C dX11_looks_110 0 rfl ?_
    refine gf_11_53 C q195 z11 dX11_looks_111 ?_
    refine x_aload_n C dX11_looks_114 0 rfl ?_
    refine gf_11_52 C q202 z11 dX11_looks_115 ?_
    refine x_iload C dX11_looks_118 3 rfl ?_
    obtain ⟨f20, h⟩ := h
    refine al_1252 C z1252 f20 dX11_looks_120 ?_
    obtain ⟨f21, h⟩ := h
    refine al_1253 C z1253 f21 dX11_looks_121 ?_
    refine x_if_ne (tgt := 155) C dX11_looks_122 (by decide) (fun c22 => ?_) (fun c22 => ?_)
    · replace h := h.1 c22
      refine X_sub (lv' := [(0, .ref (ga G 11 0)), (1, .int x1), (2, .int x2), (5, .int y5)]) [0, 1, 2, 3] rfl ?_
      exact wX11_looks_155 hG C E hL104 M y5 h
    · replace h := h.2 c22
      refine x_aload_n C dX11_looks_125 0 rfl ?_
      refine gf_11_50 C q197 z11 dX11_looks_126 ?_
      refine x_aload_n C dX11_looks_129 0 rfl ?_
      refine gf_11_52 C q202 z11 dX11_looks_130 ?_
      refine x_iload C dX11_looks_133 3 rfl ?_
      refine al_1252 C z1252 f20 dX11_looks_135 ?_
      refine al_1250 C z1250 f21 dX11_looks_136 ?_
      refine x_iload_n C dX11_looks_137 2 rfl ?_
      refine x_icmp_ne (tgt := 155) C dX11_looks_138 (by decide) (fun c23 => ?_) (fun c23 => ?_)
      · replace h := h.1 c23
        refine X_sub (lv' := [(0, .ref (ga G 11 0)), (1, .int x1), (2, .int x2), (5, .int y5)]) [0, 1, 2, 3] rfl ?_
        exact wX11_looks_155 hG C E hL104 M y5 h
      · replace h := h.2 c23
        refine x_aload_n C dX11_looks_141 0 rfl ?_
        refine x_aload_n C dX11_looks_142 0 rfl ?_
        refine gf_11_52 C q202 z11 dX11_looks_143 ?_
        refine x_iload C dX11_looks_146 3 rfl ?_
        refine al_1252 C z1252 f20 dX11_looks_148 ?_
        refine x_iload_n C dX11_looks_149 2 rfl ?_
        refine x_iconst (v := 1) C dX11_looks_150 rfl ?_
        refine x_iadd C dX11_looks_151 ?_
        refine x_callv (rest := []) C sv_X11_329 ob11 z11 (kX11_dips hG _ _ _ h) rfl rfl (Nat.le_of_ble_eq_true rfl) ⟨Nat.le_of_ble_eq_true rfl, Nat.le_of_ble_eq_true rfl⟩ rfl rfl ⟨Nat.le_of_ble_eq_true rfl, Nat.le_of_ble_eq_true rfl⟩ dX11_looks_152 (fun M25 h => ?_)
        refine X_sub (lv' := [(0, .ref (ga G 11 0)), (1, .int x1), (2, .int x2), (5, .int y5)]) [0, 1, 2, 3] rfl ?_
        exact wX11_looks_155 hG C E hL104 M25 y5 h
set_option maxRecDepth 100000 in
set_option maxHeartbeats 400000 in
theorem wX11_looks_101 {Γ : Gam} {G : Gm} {Qf : State → Prop} (hG : Gd G) (C : Cx Γ G cX11_looks 6 RX11 none rmX11_looks) {x1 : Int32} {x2 : Int32} {x3 : Int32} {Q : Mem → Prop} (E : EndV Γ G Qf rmX11_looks Q) (M : Mem) (h : bX11_looks_101 x1 x2 x3 Q M) : X Γ G Qf 6 0 0 101 [(0, .ref (ga G 11 0)), (1, .int x1), (2, .int x2)] [] M := by
  unfold bX11_looks_101 at h
  refine x_iconst (v := 0) C dX11_looks_101 rfl ?_
  refine x_istore (lv' := [(5, .int 0), (0, .ref (ga G 11 0)), (1, .int x1), (2, .int x2)]) C dX11_looks_102 (Nat.le_of_ble_eq_true rfl) rfl ?_
  obtain ⟨n9, h⟩ := h
  refine X_sub (lv' := [(0, .ref (ga G 11 0)), (1, .int x1), (2, .int x2), (5, .int 0)]) [1, 2, 3, 0] rfl ?_
  have hb : ∀ (L : Mem × Int32 → Prop) (s : Mem × Int32), (∀ t, L t → X Γ G Qf 6 0 0 104 [(0, .ref (ga G 11 0)), (1, .int x1), (2, .int x2), (5, .int t.2)] [] t.1) → bX11_looks_104 x1 x2 x3 Q L s.1 s.2 → X Γ G Qf 6 0 0 104 [(0, .ref (ga G 11 0)), (1, .int x1), (2, .int x2), (5, .int s.2)] [] s.1 := fun L s hL h => wX11_looks_104 hG C E hL s.1 s.2 h
  have w9 := lp_walk (P := fun s : Mem × Int32 => X Γ G Qf 6 0 0 104 [(0, .ref (ga G 11 0)), (1, .int x1), (2, .int x2), (5, .int s.2)] [] s.1) h hb
  dsimp only at w9
  exact w9
set_option maxRecDepth 100000 in
set_option maxHeartbeats 400000 in
theorem wX11_looks_65 {Γ : Gam} {G : Gm} {Qf : State → Prop} (hG : Gd G) (C : Cx Γ G cX11_looks 6 RX11 none rmX11_looks) {x1 : Int32} {x2 : Int32} {x3 : Int32} {Q : Mem → Prop} (E : EndV Γ G Qf rmX11_looks Q) {L6 : Mem × Int32 × Int32 → Prop} (hL6 : ∀ s, L6 s → X Γ G Qf 6 0 0 6 [(0, .ref (ga G 11 0)), (1, .int x1), (2, .int x2), (3, .int x3), (4, .int s.2.1), (5, .int s.2.2)] [] s.1) (M : Mem) (y4 : Int32) (y5 : Int32) (h : bX11_looks_65 x1 x2 x3 Q L6 M y4 y5) : X Γ G Qf 6 0 0 65 [(0, .ref (ga G 11 0)), (1, .int x1), (2, .int x2), (3, .int x3), (4, .int y4), (5, .int y5)] [] M := by
  unfold bX11_looks_65 at h
  obtain ⟨v18, ev18⟩ : ∃ z : Int32, z = y5 + 1 := ⟨_, rfl⟩
  replace h := h v18 ev18
  refine x_iinc (v := v18) (lv' := [(5, .int v18), (0, .ref (ga G 11 0)), (1, .int x1), (2, .int x2), (3, .int x3), (4, .int y4)]) (j := 5) C dX11_looks_65 rfl (by rw [ev18]; rfl) (Nat.le_of_ble_eq_true rfl) rfl ?_
  refine x_goto (tgt := 6) C dX11_looks_68 (by decide) ?_
  refine X_sub (lv' := [(0, .ref (ga G 11 0)), (1, .int x1), (2, .int x2), (3, .int x3), (4, .int y4), (5, .int v18)]) [1, 2, 3, 4, 5, 0] rfl ?_
  have w9 := hL6 (M, y4, v18) h
  dsimp only at w9
  exact w9
set_option maxRecDepth 100000 in
set_option maxHeartbeats 400000 in
theorem wX11_looks_6 {Γ : Gam} {G : Gm} {Qf : State → Prop} (hG : Gd G) (C : Cx Γ G cX11_looks 6 RX11 none rmX11_looks) {x1 : Int32} {x2 : Int32} {x3 : Int32} {Q : Mem → Prop} (E : EndV Γ G Qf rmX11_looks Q) {L6 : Mem × Int32 × Int32 → Prop} (hL6 : ∀ s, L6 s → X Γ G Qf 6 0 0 6 [(0, .ref (ga G 11 0)), (1, .int x1), (2, .int x2), (3, .int x3), (4, .int s.2.1), (5, .int s.2.2)] [] s.1) (M : Mem) (y4 : Int32) (y5 : Int32) (h : bX11_looks_6 x1 x2 x3 Q L6 M y4 y5) : X Γ G Qf 6 0 0 6 [(0, .ref (ga G 11 0)), (1, .int x1), (2, .int x2), (3, .int x3), (4, .int y4), (5, .int y5)] [] M := by
  unfold bX11_looks_6 at h
  refine x_iload C dX11_looks_6 5 rfl ?_
  refine x_iload_n C dX11_looks_8 1 rfl ?_
  refine x_icmp_ge (tgt := 71) C dX11_looks_9 (by decide) (fun c1 => ?_) (fun c1 => ?_)
  · replace h := h.1 c1
    refine x_iload C dX11_looks_71 4 rfl ?_
    refine x_if_ne (tgt := 77) C dX11_looks_73 (by decide) (fun c2 => ?_) (fun c2 => ?_)
    · replace h := h.1 c2
      refine x_aload_n C dX11_looks_77 0 rfl ?_
      refine x_dup C dX11_looks_78 rfl ?_
      refine gf_11_62 C q206 z11 dX11_looks_79 ?_
      refine x_iconst (v := 1) C dX11_looks_82 rfl ?_
      refine x_iadd C dX11_looks_83 ?_
      refine pf_11_62 C q206 z11 dX11_looks_84 ?_
      refine X_nameM (fun M3 eM3 => ?_)
      replace h := h M3 eM3
      refine x_aload_n C dX11_looks_87 0 rfl ?_
      refine x_iload_n C dX11_looks_88 2 rfl ?_
      refine x_calli (rest := []) C sv_X11_302 ob11 z11 (kX11_whyNot hG _ _ h) rfl rfl (Nat.le_of_ble_eq_true rfl) ⟨Nat.le_of_ble_eq_true rfl, Nat.le_of_ble_eq_true rfl⟩ rfl rfl ⟨Nat.le_of_ble_eq_true rfl, Nat.le_of_ble_eq_true rfl⟩ dX11_looks_89 (fun r4 M5 h => ?_)
      refine x_if_ne (tgt := 101) C dX11_looks_92 (by decide) (fun c6 => ?_) (fun c6 => ?_)
      · replace h := h.1 c6
        refine X_sub (lv' := [(0, .ref (ga G 11 0)), (1, .int x1), (2, .int x2)]) [0, 1, 2] rfl ?_
        exact wX11_looks_101 hG C E M5 h
      · replace h := h.2 c6
        refine x_aload_n C dX11_looks_95 0 rfl ?_
        refine x_iload_n C dX11_looks_96 2 rfl ?_
        refine x_iload_n C dX11_looks_97 3 rfl ?_
        refine x_callv (rest := []) C sv_X11_362 ob11 z11 (kX11_keepsBest hG _ _ _ h) rfl rfl (Nat.le_of_ble_eq_true rfl) ⟨Nat.le_of_ble_eq_true rfl, Nat.le_of_ble_eq_true rfl⟩ rfl rfl ⟨Nat.le_of_ble_eq_true rfl, Nat.le_of_ble_eq_true rfl⟩ dX11_looks_98 (fun M8 h => ?_)
        refine X_sub (lv' := [(0, .ref (ga G 11 0)), (1, .int x1), (2, .int x2)]) [0, 1, 2] rfl ?_
        exact wX11_looks_101 hG C E M8 h
    · replace h := h.2 c2
      exact x_vret C E h (Nat.le_of_ble_eq_true rfl) (Nat.le_of_ble_eq_true rfl) dX11_looks_76
  · replace h := h.2 c1
    refine x_aload_n C dX11_looks_12 0 rfl ?_
    refine x_aload_n C dX11_looks_13 0 rfl ?_
    refine gf_11_52 C q202 z11 dX11_looks_14 ?_
    refine x_iload C dX11_looks_17 5 rfl ?_
    obtain ⟨f9, h⟩ := h
    refine al_1252 C z1252 f9 dX11_looks_19 ?_
    refine x_iload_n C dX11_looks_20 2 rfl ?_
    refine x_callv (rest := []) C sv_X11_356 ob11 z11 (kX11_seeks hG _ _ _ h) rfl rfl (Nat.le_of_ble_eq_true rfl) ⟨Nat.le_of_ble_eq_true rfl, Nat.le_of_ble_eq_true rfl⟩ rfl rfl ⟨Nat.le_of_ble_eq_true rfl, Nat.le_of_ble_eq_true rfl⟩ dX11_looks_21 (fun M11 h => ?_)
    refine x_iload C dX11_looks_24 4 rfl ?_
    refine x_aload_n C dX11_looks_26 0 rfl ?_
    refine gf_11_53 C q195 z11 dX11_looks_27 ?_
    refine x_aload_n C dX11_looks_30 0 rfl ?_
    refine gf_11_52 C q202 z11 dX11_looks_31 ?_
    refine x_iload C dX11_looks_34 5 rfl ?_
    refine al_1252 C z1252 f9 dX11_looks_36 ?_
    obtain ⟨f12, h⟩ := h
    refine al_1253 C z1253 f12 dX11_looks_37 ?_
    refine x_if_ne (tgt := 61) C dX11_looks_38 (by decide) (fun c13 => ?_) (fun c13 => ?_)
    · replace h := h.1 c13
      refine x_iconst (v := 0) C dX11_looks_61 rfl ?_
      refine x_ior C dX11_looks_62 ?_
      refine X_name (fun v14 ev14 => ?_)
      replace h := h v14 ev14
      refine x_istore (lv' := [(4, .int v14), (0, .ref (ga G 11 0)), (1, .int x1), (2, .int x2), (3, .int x3), (5, .int y5)]) C dX11_looks_63 (Nat.le_of_ble_eq_true rfl) rfl ?_
      refine X_sub (lv' := [(0, .ref (ga G 11 0)), (1, .int x1), (2, .int x2), (3, .int x3), (4, .int v14), (5, .int y5)]) [1, 2, 3, 4, 0, 5] rfl ?_
      exact wX11_looks_65 hG C E hL6 M11 v14 y5 h
    · replace h := h.2 c13
      refine x_aload_n C dX11_looks_41 0 rfl ?_
      refine gf_11_50 C q197 z11 dX11_looks_42 ?_
      refine x_aload_n C dX11_looks_45 0 rfl ?_
      refine gf_11_52 C q202 z11 dX11_looks_46 ?_
      refine x_iload C dX11_looks_49 5 rfl ?_
      refine al_1252 C z1252 f9 dX11_looks_51 ?_
      refine al_1250 C z1250 f12 dX11_looks_52 ?_
      refine x_iload_n C dX11_looks_53 2 rfl ?_
      refine x_icmp_ne (tgt := 61) C dX11_looks_54 (by decide) (fun c15 => ?_) (fun c15 => ?_)
      · replace h := h.1 c15
        refine x_iconst (v := 0) C dX11_looks_61 rfl ?_
        refine x_ior C dX11_looks_62 ?_
        refine X_name (fun v16 ev16 => ?_)
        replace h := h v16 ev16
        refine x_istore (lv' := [(4, .int v16), (0, .ref (ga G 11 0)), (1, .int x1), (2, .int x2), (3, .int x3), (5, .int y5)]) C dX11_looks_63 (Nat.le_of_ble_eq_true rfl) rfl ?_
        refine X_sub (lv' := [(0, .ref (ga G 11 0)), (1, .int x1), (2, .int x2), (3, .int x3), (4, .int v16), (5, .int y5)]) [1, 2, 3, 4, 0, 5] rfl ?_
        exact wX11_looks_65 hG C E hL6 M11 v16 y5 h
      · replace h := h.2 c15
        refine x_iconst (v := 1) C dX11_looks_57 rfl ?_
        refine x_goto (tgt := 62) C dX11_looks_58 (by decide) ?_
        refine x_ior C dX11_looks_62 ?_
        refine X_name (fun v17 ev17 => ?_)
        replace h := h v17 ev17
        refine x_istore (lv' := [(4, .int v17), (0, .ref (ga G 11 0)), (1, .int x1), (2, .int x2), (3, .int x3), (5, .int y5)]) C dX11_looks_63 (Nat.le_of_ble_eq_true rfl) rfl ?_
        refine X_sub (lv' := [(0, .ref (ga G 11 0)), (1, .int x1), (2, .int x2), (3, .int x3), (4, .int v17), (5, .int y5)]) [1, 2, 3, 4, 0, 5] rfl ?_
        exact wX11_looks_65 hG C E hL6 M11 v17 y5 h
set_option maxRecDepth 100000 in
set_option maxHeartbeats 400000 in
theorem kX11_looks {l : Launch} {G : Gm} (hG : Gd G) (M : Mem) (x1 : Int32) (x2 : Int32) (x3 : Int32) {Q : Mem → Prop} (h : pX11_looks M x1 x2 x3 Q) : Ctv l G yX11_looks cX11_looks 6 rmX11_looks [.ref (ga G 11 0), .int x1, .int x2, .int x3] M Q := by
  refine ctv_of (own := RX11) (by decide +kernel) rfl (Nat.le_of_ble_eq_true rfl) hG (fun Γ Qf hl C E => ?_)
  subst hl
  show X Γ G Qf 6 0 0 0 [(0, .ref (ga G 11 0)), (1, .int x1), (2, .int x2), (3, .int x3)] [] M
  unfold pX11_looks at h
  refine x_iconst (v := 0) C dX11_looks_0 rfl ?_
  refine x_istore (lv' := [(4, .int 0), (0, .ref (ga G 11 0)), (1, .int x1), (2, .int x2), (3, .int x3)]) C dX11_looks_1 (Nat.le_of_ble_eq_true rfl) rfl ?_
  refine x_iconst (v := 0) C dX11_looks_3 rfl ?_
  refine x_istore (lv' := [(5, .int 0), (4, .int 0), (0, .ref (ga G 11 0)), (1, .int x1), (2, .int x2), (3, .int x3)]) C dX11_looks_4 (Nat.le_of_ble_eq_true rfl) rfl ?_
  obtain ⟨n9, h⟩ := h
  refine X_sub (lv' := [(0, .ref (ga G 11 0)), (1, .int x1), (2, .int x2), (3, .int x3), (4, .int 0), (5, .int 0)]) [2, 3, 4, 5, 1, 0] rfl ?_
  have hb : ∀ (L : Mem × Int32 × Int32 → Prop) (s : Mem × Int32 × Int32), (∀ t, L t → X Γ G Qf 6 0 0 6 [(0, .ref (ga G 11 0)), (1, .int x1), (2, .int x2), (3, .int x3), (4, .int t.2.1), (5, .int t.2.2)] [] t.1) → bX11_looks_6 x1 x2 x3 Q L s.1 s.2.1 s.2.2 → X Γ G Qf 6 0 0 6 [(0, .ref (ga G 11 0)), (1, .int x1), (2, .int x2), (3, .int x3), (4, .int s.2.1), (5, .int s.2.2)] [] s.1 := fun L s hL h => wX11_looks_6 hG C E hL s.1 s.2.1 s.2.2 h
  have w9 := lp_walk (P := fun s : Mem × Int32 × Int32 => X Γ G Qf 6 0 0 6 [(0, .ref (ga G 11 0)), (1, .int x1), (2, .int x2), (3, .int x3), (4, .int s.2.1), (5, .int s.2.2)] [] s.1) h hb
  dsimp only at w9
  exact w9
def rmX11_turn : Room := { frames := 7, cells := 0, slots := 0, locals := 160 }
def bX11_turn_116 (x1 : Int32) (Q : Int32 → Mem → Prop) (L116 : Mem × Int32 × Int32 × Int32 → Prop) (M : Mem) (y5 : Int32) (y6 : Int32) (y7 : Int32) : Prop :=
  ((y5 ≤ y7 → Q 1 M) ∧ (¬ y5 ≤ y7 → vp_in y7 24 ∧ pX11_dips M (M.1 1252 0 (tn y7)) y6 (fun M31 => ∀ v32 : Int32, v32 = y7 + 1 → L116 (M31, y5, y6, v32))))
def bX11_turn_86 (x1 : Int32) (Q : Int32 → Mem → Prop) (M : Mem) (y2 : Int32) (y4 : Int32) (y5 : Int32) : Prop :=
  pX11_skipsTo M y5 y4 y2 (fun r18 M19 => ((r18 = (-1) → vp_in (M19.1 1252 0 (tn 0)) 24 ∧ ((y4 ≤ (M19.1 1250 0 (tn (M19.1 1252 0 (tn 0)))) → pX11_looks M19 y5 y4 x1 (fun M24 => Q 1 M24)) ∧ (¬ y4 ≤ (M19.1 1250 0 (tn (M19.1 1252 0 (tn 0)))) → pX11_seeks M19 (M19.1 1252 0 (tn 0)) y4 (fun M26 => Q 1 M26)))) ∧ (¬ r18 = (-1) → ∀ M27 : Mem, M27 = up1 M19 1261 0 0 ((M19.1 1261 0 0) + 1) → ∃ n : Nat, lp (fun L s => bX11_turn_116 x1 Q L s.1 s.2.1 s.2.2.1 s.2.2.2) n (M27, y5, r18, 0))))
def bX11_turn_54 (x1 : Int32) (Q : Int32 → Mem → Prop) (L54 : Mem × Int32 × Int32 × Int32 → Prop) (M : Mem) (y2 : Int32) (y4 : Int32) (y5 : Int32) : Prop :=
  (((M.1 1264 0 0) ≤ y5 → bX11_turn_86 x1 Q M y2 y4 y5) ∧ (¬ (M.1 1264 0 0) ≤ y5 → vp_in y5 24 ∧ vp_in (M.1 1252 0 (tn y5)) 24 ∧ ((¬ (M.1 1250 0 (tn (M.1 1252 0 (tn y5)))) = y4 → bX11_turn_86 x1 Q M y2 y4 y5) ∧ ((M.1 1250 0 (tn (M.1 1252 0 (tn y5)))) = y4 → ∀ v17 : Int32, v17 = y5 + 1 → L54 (M, y2, y4, v17)))))
def pX11_turn (M : Mem) (x1 : Int32) (Q : Int32 → Mem → Prop) : Prop :=
  ∀ M1 : Mem, M1 = up1 M 1257 0 0 ((M.1 1257 0 0) + 1) → pX11_orders M1 (fun M3 => pX11_floor M3 x1 (fun r4 M5 => pX11_pivot M5 r4 (fun r6 M7 => ((¬ r6 = (M7.1 1264 0 0) → vp_in r6 24 ∧ vp_in (M7.1 1252 0 (tn r6)) 24 ∧ ∀ v11 : Int32, v11 = (M7.1 1250 0 (tn (M7.1 1252 0 (tn r6)))) → ∀ v12 : Int32, v12 = (r6 + 1) → ∃ n : Nat, lp (fun L s => bX11_turn_54 x1 Q L s.1 s.2.1 s.2.2.1 s.2.2.2) n (M7, r4, v11, v12)) ∧ (r6 = (M7.1 1264 0 0) → Q 0 M7)))))
set_option maxRecDepth 100000 in
set_option maxHeartbeats 400000 in
theorem wX11_turn_116 {Γ : Gam} {G : Gm} {Qf : State → Prop} (hG : Gd G) (C : Cx Γ G cX11_turn 8 RX11 (some .boolean) rmX11_turn) {x1 : Int32} {Q : Int32 → Mem → Prop} (E : EndI Γ G Qf rmX11_turn Q) {L116 : Mem × Int32 × Int32 × Int32 → Prop} (hL116 : ∀ s, L116 s → X Γ G Qf 8 0 0 116 [(0, .ref (ga G 11 0)), (5, .int s.2.1), (6, .int s.2.2.1), (7, .int s.2.2.2)] [] s.1) (M : Mem) (y5 : Int32) (y6 : Int32) (y7 : Int32) (h : bX11_turn_116 x1 Q L116 M y5 y6 y7) : X Γ G Qf 8 0 0 116 [(0, .ref (ga G 11 0)), (5, .int y5), (6, .int y6), (7, .int y7)] [] M := by
  unfold bX11_turn_116 at h
  refine x_iload C dX11_turn_116 3 rfl ?_
  refine x_iload C dX11_turn_118 1 rfl ?_
  refine x_icmp_ge (tgt := 142) C dX11_turn_120 (by decide) (fun c28 => ?_) (fun c28 => ?_)
  · replace h := h.1 c28
    refine x_goto (tgt := 185) C dX11_turn_142 (by decide) ?_
    refine x_iconst (v := 1) C dX11_turn_185 rfl ?_
    exact x_zret C E h rfl (Nat.le_of_ble_eq_true rfl) (Nat.le_of_ble_eq_true rfl) dX11_turn_186
  · replace h := h.2 c28
    refine x_aload_n C dX11_turn_123 0 rfl ?_
    refine x_aload_n C dX11_turn_124 0 rfl ?_
    refine gf_11_52 C q202 z11 dX11_turn_125 ?_
    refine x_iload C dX11_turn_128 3 rfl ?_
    obtain ⟨f29, h⟩ := h
    refine al_1252 C z1252 f29 dX11_turn_130 ?_
    refine x_iload C dX11_turn_131 2 rfl ?_
    refine x_callv (rest := []) C sv_X11_329 ob11 z11 (kX11_dips hG _ _ _ h) rfl rfl (Nat.le_of_ble_eq_true rfl) ⟨Nat.le_of_ble_eq_true rfl, Nat.le_of_ble_eq_true rfl⟩ rfl rfl ⟨Nat.le_of_ble_eq_true rfl, Nat.le_of_ble_eq_true rfl⟩ dX11_turn_133 (fun M31 h => ?_)
    obtain ⟨v32, ev32⟩ : ∃ z : Int32, z = y7 + 1 := ⟨_, rfl⟩
    replace h := h v32 ev32
    refine x_iinc (v := v32) (lv' := [(7, .int v32), (0, .ref (ga G 11 0)), (5, .int y5), (6, .int y6)]) (j := 3) C dX11_turn_136 rfl (by rw [ev32]; rfl) (Nat.le_of_ble_eq_true rfl) rfl ?_
    refine x_goto (tgt := 116) C dX11_turn_139 (by decide) ?_
    refine X_sub (lv' := [(0, .ref (ga G 11 0)), (5, .int y5), (6, .int y6), (7, .int v32)]) [1, 2, 3, 0] rfl ?_
    have w9 := hL116 (M31, y5, y6, v32) h
    dsimp only at w9
    exact w9
set_option maxRecDepth 100000 in
set_option maxHeartbeats 400000 in
theorem wX11_turn_86 {Γ : Gam} {G : Gm} {Qf : State → Prop} (hG : Gd G) (C : Cx Γ G cX11_turn 8 RX11 (some .boolean) rmX11_turn) {x1 : Int32} {Q : Int32 → Mem → Prop} (E : EndI Γ G Qf rmX11_turn Q) (M : Mem) (y2 : Int32) (y4 : Int32) (y5 : Int32) (h : bX11_turn_86 x1 Q M y2 y4 y5) : X Γ G Qf 8 0 0 86 [(0, .ref (ga G 11 0)), (1, .int x1), (2, .int y2), (4, .int y4), (5, .int y5)] [] M := by
  unfold bX11_turn_86 at h
  refine x_aload_n C dX11_turn_86 0 rfl ?_
  refine x_iload C dX11_turn_87 4 rfl ?_
  refine x_iload C dX11_turn_89 3 rfl ?_
  refine x_iload_n C dX11_turn_91 2 rfl ?_
  refine x_calli (rest := []) C sv_X11_374 ob11 z11 (kX11_skipsTo hG _ _ _ _ h) rfl rfl (Nat.le_of_ble_eq_true rfl) ⟨Nat.le_of_ble_eq_true rfl, Nat.le_of_ble_eq_true rfl⟩ rfl rfl ⟨Nat.le_of_ble_eq_true rfl, Nat.le_of_ble_eq_true rfl⟩ dX11_turn_92 (fun r18 M19 h => ?_)
  refine x_istore (lv' := [(6, .int r18), (0, .ref (ga G 11 0)), (1, .int x1), (2, .int y2), (4, .int y4), (5, .int y5)]) C dX11_turn_95 (Nat.le_of_ble_eq_true rfl) rfl ?_
  refine x_iload C dX11_turn_97 0 rfl ?_
  refine x_iconst (v := (-1)) C dX11_turn_99 rfl ?_
  refine x_icmp_eq (tgt := 145) C dX11_turn_100 (by decide) (fun c20 => ?_) (fun c20 => ?_)
  · replace h := h.1 c20
    refine x_aload_n C dX11_turn_145 1 rfl ?_
    refine gf_11_50 C q197 z11 dX11_turn_146 ?_
    refine x_aload_n C dX11_turn_149 1 rfl ?_
    refine gf_11_52 C q202 z11 dX11_turn_150 ?_
    refine x_iconst (v := 0) C dX11_turn_153 rfl ?_
    refine al_1252 C z1252 (vp_l (by decide)) dX11_turn_154 ?_
    obtain ⟨f21, h⟩ := h
    refine al_1250 C z1250 f21 dX11_turn_155 ?_
    refine x_iload C dX11_turn_156 4 rfl ?_
    refine x_icmp_ge (tgt := 176) C dX11_turn_158 (by decide) (fun c22 => ?_) (fun c22 => ?_)
    · replace h := h.1 c22
      refine x_aload_n C dX11_turn_176 1 rfl ?_
      refine x_iload C dX11_turn_177 5 rfl ?_
      refine x_iload C dX11_turn_179 4 rfl ?_
      refine x_iload_n C dX11_turn_181 2 rfl ?_
      refine x_callv (rest := []) C sv_X11_380 ob11 z11 (kX11_looks hG _ _ _ _ h) rfl rfl (Nat.le_of_ble_eq_true rfl) ⟨Nat.le_of_ble_eq_true rfl, Nat.le_of_ble_eq_true rfl⟩ rfl rfl ⟨Nat.le_of_ble_eq_true rfl, Nat.le_of_ble_eq_true rfl⟩ dX11_turn_182 (fun M24 h => ?_)
      refine x_iconst (v := 1) C dX11_turn_185 rfl ?_
      exact x_zret C E h rfl (Nat.le_of_ble_eq_true rfl) (Nat.le_of_ble_eq_true rfl) dX11_turn_186
    · replace h := h.2 c22
      refine x_aload_n C dX11_turn_161 1 rfl ?_
      refine x_aload_n C dX11_turn_162 1 rfl ?_
      refine gf_11_52 C q202 z11 dX11_turn_163 ?_
      refine x_iconst (v := 0) C dX11_turn_166 rfl ?_
      refine al_1252 C z1252 (vp_l (by decide)) dX11_turn_167 ?_
      refine x_iload C dX11_turn_168 4 rfl ?_
      refine x_callv (rest := []) C sv_X11_356 ob11 z11 (kX11_seeks hG _ _ _ h) rfl rfl (Nat.le_of_ble_eq_true rfl) ⟨Nat.le_of_ble_eq_true rfl, Nat.le_of_ble_eq_true rfl⟩ rfl rfl ⟨Nat.le_of_ble_eq_true rfl, Nat.le_of_ble_eq_true rfl⟩ dX11_turn_170 (fun M26 h => ?_)
      refine x_goto (tgt := 185) C dX11_turn_173 (by decide) ?_
      refine x_iconst (v := 1) C dX11_turn_185 rfl ?_
      exact x_zret C E h rfl (Nat.le_of_ble_eq_true rfl) (Nat.le_of_ble_eq_true rfl) dX11_turn_186
  · replace h := h.2 c20
    refine x_aload_n C dX11_turn_103 1 rfl ?_
    refine x_dup C dX11_turn_104 rfl ?_
    refine gf_11_61 C q208 z11 dX11_turn_105 ?_
    refine x_iconst (v := 1) C dX11_turn_108 rfl ?_
    refine x_iadd C dX11_turn_109 ?_
    refine pf_11_61 C q208 z11 dX11_turn_110 ?_
    refine X_nameM (fun M27 eM27 => ?_)
    replace h := h M27 eM27
    refine x_iconst (v := 0) C dX11_turn_113 rfl ?_
    refine x_istore (lv' := [(7, .int 0), (6, .int r18), (0, .ref (ga G 11 0)), (1, .int x1), (2, .int y2), (4, .int y4), (5, .int y5)]) C dX11_turn_114 (Nat.le_of_ble_eq_true rfl) rfl ?_
    obtain ⟨n9, h⟩ := h
    refine X_sub (lv' := [(0, .ref (ga G 11 0)), (5, .int y5), (6, .int r18), (7, .int 0)]) [2, 6, 1, 0] rfl ?_
    have hb : ∀ (L : Mem × Int32 × Int32 × Int32 → Prop) (s : Mem × Int32 × Int32 × Int32), (∀ t, L t → X Γ G Qf 8 0 0 116 [(0, .ref (ga G 11 0)), (5, .int t.2.1), (6, .int t.2.2.1), (7, .int t.2.2.2)] [] t.1) → bX11_turn_116 x1 Q L s.1 s.2.1 s.2.2.1 s.2.2.2 → X Γ G Qf 8 0 0 116 [(0, .ref (ga G 11 0)), (5, .int s.2.1), (6, .int s.2.2.1), (7, .int s.2.2.2)] [] s.1 := fun L s hL h => wX11_turn_116 hG C E hL s.1 s.2.1 s.2.2.1 s.2.2.2 h
    have w9 := lp_walk (P := fun s : Mem × Int32 × Int32 × Int32 => X Γ G Qf 8 0 0 116 [(0, .ref (ga G 11 0)), (5, .int s.2.1), (6, .int s.2.2.1), (7, .int s.2.2.2)] [] s.1) h hb
    dsimp only at w9
    exact w9
set_option maxRecDepth 100000 in
set_option maxHeartbeats 400000 in
theorem wX11_turn_54 {Γ : Gam} {G : Gm} {Qf : State → Prop} (hG : Gd G) (C : Cx Γ G cX11_turn 8 RX11 (some .boolean) rmX11_turn) {x1 : Int32} {Q : Int32 → Mem → Prop} (E : EndI Γ G Qf rmX11_turn Q) {L54 : Mem × Int32 × Int32 × Int32 → Prop} (hL54 : ∀ s, L54 s → X Γ G Qf 8 0 0 54 [(0, .ref (ga G 11 0)), (1, .int x1), (2, .int s.2.1), (4, .int s.2.2.1), (5, .int s.2.2.2)] [] s.1) (M : Mem) (y2 : Int32) (y4 : Int32) (y5 : Int32) (h : bX11_turn_54 x1 Q L54 M y2 y4 y5) : X Γ G Qf 8 0 0 54 [(0, .ref (ga G 11 0)), (1, .int x1), (2, .int y2), (4, .int y4), (5, .int y5)] [] M := by
  unfold bX11_turn_54 at h
  refine x_iload C dX11_turn_54 4 rfl ?_
  refine x_aload_n C dX11_turn_56 0 rfl ?_
  refine gf_11_64 C q201 z11 dX11_turn_57 ?_
  refine x_icmp_ge (tgt := 86) C dX11_turn_60 (by decide) (fun c13 => ?_) (fun c13 => ?_)
  · replace h := h.1 c13
    refine X_sub (lv' := [(0, .ref (ga G 11 0)), (1, .int x1), (2, .int y2), (4, .int y4), (5, .int y5)]) [0, 1, 2, 3, 4] rfl ?_
    exact wX11_turn_86 hG C E M y2 y4 y5 h
  · replace h := h.2 c13
    refine x_aload_n C dX11_turn_63 0 rfl ?_
    refine gf_11_50 C q197 z11 dX11_turn_64 ?_
    refine x_aload_n C dX11_turn_67 0 rfl ?_
    refine gf_11_52 C q202 z11 dX11_turn_68 ?_
    refine x_iload C dX11_turn_71 4 rfl ?_
    obtain ⟨f14, h⟩ := h
    refine al_1252 C z1252 f14 dX11_turn_73 ?_
    obtain ⟨f15, h⟩ := h
    refine al_1250 C z1250 f15 dX11_turn_74 ?_
    refine x_iload C dX11_turn_75 3 rfl ?_
    refine x_icmp_ne (tgt := 86) C dX11_turn_77 (by decide) (fun c16 => ?_) (fun c16 => ?_)
    · replace h := h.1 c16
      refine X_sub (lv' := [(0, .ref (ga G 11 0)), (1, .int x1), (2, .int y2), (4, .int y4), (5, .int y5)]) [0, 1, 2, 3, 4] rfl ?_
      exact wX11_turn_86 hG C E M y2 y4 y5 h
    · replace h := h.2 c16
      obtain ⟨v17, ev17⟩ : ∃ z : Int32, z = y5 + 1 := ⟨_, rfl⟩
      replace h := h v17 ev17
      refine x_iinc (v := v17) (lv' := [(5, .int v17), (0, .ref (ga G 11 0)), (1, .int x1), (2, .int y2), (4, .int y4)]) (j := 4) C dX11_turn_80 rfl (by rw [ev17]; rfl) (Nat.le_of_ble_eq_true rfl) rfl ?_
      refine x_goto (tgt := 54) C dX11_turn_83 (by decide) ?_
      refine X_sub (lv' := [(0, .ref (ga G 11 0)), (1, .int x1), (2, .int y2), (4, .int y4), (5, .int v17)]) [1, 2, 3, 4, 0] rfl ?_
      have w9 := hL54 (M, y2, y4, v17) h
      dsimp only at w9
      exact w9
set_option maxRecDepth 100000 in
set_option maxHeartbeats 400000 in
theorem kX11_turn {l : Launch} {G : Gm} (hG : Gd G) (M : Mem) (x1 : Int32) {Q : Int32 → Mem → Prop} (h : pX11_turn M x1 Q) : Cti l G yX11_turn cX11_turn 8 .boolean rmX11_turn [.ref (ga G 11 0), .int x1] M Q := by
  refine cti_of (own := RX11) (by decide +kernel) rfl (Nat.le_of_ble_eq_true rfl) hG (fun Γ Qf hl C E => ?_)
  subst hl
  show X Γ G Qf 8 0 0 0 [(0, .ref (ga G 11 0)), (1, .int x1)] [] M
  unfold pX11_turn at h
  refine x_aload_n C dX11_turn_0 0 rfl ?_
  refine x_dup C dX11_turn_1 rfl ?_
  refine gf_11_57 C q207 z11 dX11_turn_2 ?_
  refine x_iconst (v := 1) C dX11_turn_5 rfl ?_
  refine x_iadd C dX11_turn_6 ?_
  refine pf_11_57 C q207 z11 dX11_turn_7 ?_
  refine X_nameM (fun M1 eM1 => ?_)
  replace h := h M1 eM1
  refine x_aload_n C dX11_turn_10 0 rfl ?_
  refine x_callv (rest := []) C sv_X11_368 ob11 z11 (kX11_orders hG _ h) rfl rfl (Nat.le_of_ble_eq_true rfl) ⟨Nat.le_of_ble_eq_true rfl, Nat.le_of_ble_eq_true rfl⟩ rfl rfl ⟨Nat.le_of_ble_eq_true rfl, Nat.le_of_ble_eq_true rfl⟩ dX11_turn_11 (fun M3 h => ?_)
  refine x_aload_n C dX11_turn_14 0 rfl ?_
  refine x_iload_n C dX11_turn_15 1 rfl ?_
  refine x_calli (rest := []) C sv_X11_353 ob11 z11 (kX11_floor hG _ _ h) rfl rfl (Nat.le_of_ble_eq_true rfl) ⟨Nat.le_of_ble_eq_true rfl, Nat.le_of_ble_eq_true rfl⟩ rfl rfl ⟨Nat.le_of_ble_eq_true rfl, Nat.le_of_ble_eq_true rfl⟩ dX11_turn_16 (fun r4 M5 h => ?_)
  refine x_istore_n (lv' := [(2, .int r4), (0, .ref (ga G 11 0)), (1, .int x1)]) C dX11_turn_19 rfl (Nat.le_of_ble_eq_true rfl) rfl ?_
  refine x_aload_n C dX11_turn_20 1 rfl ?_
  refine x_iload_n C dX11_turn_21 0 rfl ?_
  refine x_calli (rest := []) C sv_X11_371 ob11 z11 (kX11_pivot hG _ _ h) rfl rfl (Nat.le_of_ble_eq_true rfl) ⟨Nat.le_of_ble_eq_true rfl, Nat.le_of_ble_eq_true rfl⟩ rfl rfl ⟨Nat.le_of_ble_eq_true rfl, Nat.le_of_ble_eq_true rfl⟩ dX11_turn_22 (fun r6 M7 h => ?_)
  refine x_istore_n (lv' := [(3, .int r6), (2, .int r4), (0, .ref (ga G 11 0)), (1, .int x1)]) C dX11_turn_25 rfl (Nat.le_of_ble_eq_true rfl) rfl ?_
  refine x_iload_n C dX11_turn_26 0 rfl ?_
  refine x_aload_n C dX11_turn_27 2 rfl ?_
  refine gf_11_64 C q201 z11 dX11_turn_28 ?_
  refine x_icmp_ne (tgt := 36) C dX11_turn_31 (by decide) (fun c8 => ?_) (fun c8 => ?_)
  · replace h := h.1 c8
    refine x_aload_n C dX11_turn_36 2 rfl ?_
    refine gf_11_50 C q197 z11 dX11_turn_37 ?_
    refine x_aload_n C dX11_turn_40 2 rfl ?_
    refine gf_11_52 C q202 z11 dX11_turn_41 ?_
    refine x_iload_n C dX11_turn_44 0 rfl ?_
    obtain ⟨f9, h⟩ := h
    refine al_1252 C z1252 f9 dX11_turn_45 ?_
    obtain ⟨f10, h⟩ := h
    refine al_1250 C z1250 f10 dX11_turn_46 ?_
    refine X_name (fun v11 ev11 => ?_)
    replace h := h v11 ev11
    refine x_istore (lv' := [(4, .int v11), (3, .int r6), (2, .int r4), (0, .ref (ga G 11 0)), (1, .int x1)]) C dX11_turn_47 (Nat.le_of_ble_eq_true rfl) rfl ?_
    refine x_iload_n C dX11_turn_49 1 rfl ?_
    refine x_iconst (v := 1) C dX11_turn_50 rfl ?_
    refine x_iadd C dX11_turn_51 ?_
    refine X_name (fun v12 ev12 => ?_)
    replace h := h v12 ev12
    refine x_istore (lv' := [(5, .int v12), (4, .int v11), (3, .int r6), (2, .int r4), (0, .ref (ga G 11 0)), (1, .int x1)]) C dX11_turn_52 (Nat.le_of_ble_eq_true rfl) rfl ?_
    obtain ⟨n9, h⟩ := h
    refine X_sub (lv' := [(0, .ref (ga G 11 0)), (1, .int x1), (2, .int r4), (4, .int v11), (5, .int v12)]) [4, 5, 3, 1, 0] rfl ?_
    have hb : ∀ (L : Mem × Int32 × Int32 × Int32 → Prop) (s : Mem × Int32 × Int32 × Int32), (∀ t, L t → X Γ G Qf 8 0 0 54 [(0, .ref (ga G 11 0)), (1, .int x1), (2, .int t.2.1), (4, .int t.2.2.1), (5, .int t.2.2.2)] [] t.1) → bX11_turn_54 x1 Q L s.1 s.2.1 s.2.2.1 s.2.2.2 → X Γ G Qf 8 0 0 54 [(0, .ref (ga G 11 0)), (1, .int x1), (2, .int s.2.1), (4, .int s.2.2.1), (5, .int s.2.2.2)] [] s.1 := fun L s hL h => wX11_turn_54 hG C E hL s.1 s.2.1 s.2.2.1 s.2.2.2 h
    have w9 := lp_walk (P := fun s : Mem × Int32 × Int32 × Int32 => X Γ G Qf 8 0 0 54 [(0, .ref (ga G 11 0)), (1, .int x1), (2, .int s.2.1), (4, .int s.2.2.1), (5, .int s.2.2.2)] [] s.1) h hb
    dsimp only at w9
    exact w9
  · replace h := h.2 c8
    refine x_iconst (v := 0) C dX11_turn_34 rfl ?_
    exact x_zret C E h rfl (Nat.le_of_ble_eq_true rfl) (Nat.le_of_ble_eq_true rfl) dX11_turn_35
def rmX11_goesEarly : Room := { frames := 8, cells := 0, slots := 0, locals := 187 }
def bX11_goesEarly_74 (x1 : Int32) (x2 : Int32) (Q : Mem → Prop) (L74 : Mem × Int32 → Prop) (M : Mem) (y3 : Int32) : Prop :=
  ((y3 = 0 → Q M) ∧ (¬ y3 = 0 → pX11_turn M x1 (fun r15 M16 => L74 (M16, r15))))
def bX11_goesEarly_42 (x1 : Int32) (x2 : Int32) (Q : Mem → Prop) (L42 : Mem × Int32 → Prop) (M : Mem) (y3 : Int32) : Prop :=
  (((M.1 1218 0 0) ≤ y3 → (((M.1 1218 0 0) ≤ 0 → ∃ n : Nat, lp (fun L s => bX11_goesEarly_74 x1 x2 Q L s.1 s.2) n (M, 0)) ∧ (¬ (M.1 1218 0 0) ≤ 0 → ∃ n : Nat, lp (fun L s => bX11_goesEarly_74 x1 x2 Q L s.1 s.2) n (M, 1)))) ∧ (¬ (M.1 1218 0 0) ≤ y3 → pX11_lays M y3 (fun M12 => ∀ v13 : Int32, v13 = y3 + 1 → L42 (M12, v13))))
def pX11_goesEarly (M : Mem) (x1 : Int32) (x2 : Int32) (Q : Mem → Prop) : Prop :=
  ∀ M1 : Mem, M1 = up1 M 1263 0 0 x2 → ∀ M2 : Mem, M2 = up1 M1 1256 0 0 0 → ∀ M3 : Mem, M3 = up1 M2 1257 0 0 0 → ∀ M4 : Mem, M4 = up1 M3 1258 0 0 0 → ∀ M5 : Mem, M5 = up1 M4 1259 0 0 0 → ∀ M6 : Mem, M6 = up1 M5 1260 0 0 0 → ∀ M7 : Mem, M7 = up1 M6 1261 0 0 0 → ∀ M8 : Mem, M8 = up1 M7 1262 0 0 0 → ∃ n : Nat, lp (fun L s => bX11_goesEarly_42 x1 x2 Q L s.1 s.2) n (M8, 0)
set_option maxRecDepth 100000 in
set_option maxHeartbeats 400000 in
theorem wX11_goesEarly_74 {Γ : Gam} {G : Gm} {Qf : State → Prop} (hG : Gd G) (C : Cx Γ G cX11_goesEarly 4 RX11 none rmX11_goesEarly) {x1 : Int32} {x2 : Int32} {Q : Mem → Prop} (E : EndV Γ G Qf rmX11_goesEarly Q) {L74 : Mem × Int32 → Prop} (hL74 : ∀ s, L74 s → X Γ G Qf 4 0 0 74 [(0, .ref (ga G 11 0)), (1, .int x1), (3, .int s.2)] [] s.1) (M : Mem) (y3 : Int32) (h : bX11_goesEarly_74 x1 x2 Q L74 M y3) : X Γ G Qf 4 0 0 74 [(0, .ref (ga G 11 0)), (1, .int x1), (3, .int y3)] [] M := by
  unfold bX11_goesEarly_74 at h
  refine x_iload_n C dX11_goesEarly_74 2 rfl ?_
  refine x_if_eq (tgt := 87) C dX11_goesEarly_75 (by decide) (fun c14 => ?_) (fun c14 => ?_)
  · replace h := h.1 c14
    exact x_vret C E h (Nat.le_of_ble_eq_true rfl) (Nat.le_of_ble_eq_true rfl) dX11_goesEarly_87
  · replace h := h.2 c14
    refine x_aload_n C dX11_goesEarly_78 0 rfl ?_
    refine x_iload_n C dX11_goesEarly_79 1 rfl ?_
    refine x_calli (rest := []) C sv_X11_387 ob11 z11 (kX11_turn hG _ _ h) rfl rfl (Nat.le_of_ble_eq_true rfl) ⟨Nat.le_of_ble_eq_true rfl, Nat.le_of_ble_eq_true rfl⟩ rfl rfl ⟨Nat.le_of_ble_eq_true rfl, Nat.le_of_ble_eq_true rfl⟩ dX11_goesEarly_80 (fun r15 M16 h => ?_)
    refine x_istore_n (lv' := [(3, .int r15), (0, .ref (ga G 11 0)), (1, .int x1)]) C dX11_goesEarly_83 rfl (Nat.le_of_ble_eq_true rfl) rfl ?_
    refine x_goto (tgt := 74) C dX11_goesEarly_84 (by decide) ?_
    refine X_sub (lv' := [(0, .ref (ga G 11 0)), (1, .int x1), (3, .int r15)]) [1, 2, 0] rfl ?_
    have w9 := hL74 (M16, r15) h
    dsimp only at w9
    exact w9
set_option maxRecDepth 100000 in
set_option maxHeartbeats 400000 in
theorem wX11_goesEarly_42 {Γ : Gam} {G : Gm} {Qf : State → Prop} (hG : Gd G) (C : Cx Γ G cX11_goesEarly 4 RX11 none rmX11_goesEarly) {x1 : Int32} {x2 : Int32} {Q : Mem → Prop} (E : EndV Γ G Qf rmX11_goesEarly Q) {L42 : Mem × Int32 → Prop} (hL42 : ∀ s, L42 s → X Γ G Qf 4 0 0 42 [(0, .ref (ga G 11 0)), (1, .int x1), (3, .int s.2)] [] s.1) (M : Mem) (y3 : Int32) (h : bX11_goesEarly_42 x1 x2 Q L42 M y3) : X Γ G Qf 4 0 0 42 [(0, .ref (ga G 11 0)), (1, .int x1), (3, .int y3)] [] M := by
  unfold bX11_goesEarly_42 at h
  refine x_iload_n C dX11_goesEarly_42 2 rfl ?_
  refine x_aload_n C dX11_goesEarly_43 0 rfl ?_
  refine gf_11_18 C q168 z11 dX11_goesEarly_44 ?_
  refine x_icmp_ge (tgt := 61) C dX11_goesEarly_47 (by decide) (fun c9 => ?_) (fun c9 => ?_)
  · replace h := h.1 c9
    refine x_aload_n C dX11_goesEarly_61 0 rfl ?_
    refine gf_11_18 C q168 z11 dX11_goesEarly_62 ?_
    refine x_if_le (tgt := 72) C dX11_goesEarly_65 (by decide) (fun c10 => ?_) (fun c10 => ?_)
    · replace h := h.1 c10
      refine x_iconst (v := 0) C dX11_goesEarly_72 rfl ?_
      refine x_istore_n (lv' := [(3, .int 0), (0, .ref (ga G 11 0)), (1, .int x1)]) C dX11_goesEarly_73 rfl (Nat.le_of_ble_eq_true rfl) rfl ?_
      obtain ⟨n9, h⟩ := h
      refine X_sub (lv' := [(0, .ref (ga G 11 0)), (1, .int x1), (3, .int 0)]) [1, 2, 0] rfl ?_
      have hb : ∀ (L : Mem × Int32 → Prop) (s : Mem × Int32), (∀ t, L t → X Γ G Qf 4 0 0 74 [(0, .ref (ga G 11 0)), (1, .int x1), (3, .int t.2)] [] t.1) → bX11_goesEarly_74 x1 x2 Q L s.1 s.2 → X Γ G Qf 4 0 0 74 [(0, .ref (ga G 11 0)), (1, .int x1), (3, .int s.2)] [] s.1 := fun L s hL h => wX11_goesEarly_74 hG C E hL s.1 s.2 h
      have w9 := lp_walk (P := fun s : Mem × Int32 => X Γ G Qf 4 0 0 74 [(0, .ref (ga G 11 0)), (1, .int x1), (3, .int s.2)] [] s.1) h hb
      dsimp only at w9
      exact w9
    · replace h := h.2 c10
      refine x_iconst (v := 1) C dX11_goesEarly_68 rfl ?_
      refine x_goto (tgt := 73) C dX11_goesEarly_69 (by decide) ?_
      refine x_istore_n (lv' := [(3, .int 1), (0, .ref (ga G 11 0)), (1, .int x1)]) C dX11_goesEarly_73 rfl (Nat.le_of_ble_eq_true rfl) rfl ?_
      obtain ⟨n9, h⟩ := h
      refine X_sub (lv' := [(0, .ref (ga G 11 0)), (1, .int x1), (3, .int 1)]) [1, 2, 0] rfl ?_
      have hb : ∀ (L : Mem × Int32 → Prop) (s : Mem × Int32), (∀ t, L t → X Γ G Qf 4 0 0 74 [(0, .ref (ga G 11 0)), (1, .int x1), (3, .int t.2)] [] t.1) → bX11_goesEarly_74 x1 x2 Q L s.1 s.2 → X Γ G Qf 4 0 0 74 [(0, .ref (ga G 11 0)), (1, .int x1), (3, .int s.2)] [] s.1 := fun L s hL h => wX11_goesEarly_74 hG C E hL s.1 s.2 h
      have w9 := lp_walk (P := fun s : Mem × Int32 => X Γ G Qf 4 0 0 74 [(0, .ref (ga G 11 0)), (1, .int x1), (3, .int s.2)] [] s.1) h hb
      dsimp only at w9
      exact w9
  · replace h := h.2 c9
    refine x_aload_n C dX11_goesEarly_50 0 rfl ?_
    refine x_iload_n C dX11_goesEarly_51 2 rfl ?_
    refine x_callv (rest := []) C sv_X11_384 ob11 z11 (kX11_lays hG _ _ h) rfl rfl (Nat.le_of_ble_eq_true rfl) ⟨Nat.le_of_ble_eq_true rfl, Nat.le_of_ble_eq_true rfl⟩ rfl rfl ⟨Nat.le_of_ble_eq_true rfl, Nat.le_of_ble_eq_true rfl⟩ dX11_goesEarly_52 (fun M12 h => ?_)
    obtain ⟨v13, ev13⟩ : ∃ z : Int32, z = y3 + 1 := ⟨_, rfl⟩
    replace h := h v13 ev13
    refine x_iinc (v := v13) (lv' := [(3, .int v13), (0, .ref (ga G 11 0)), (1, .int x1)]) (j := 2) C dX11_goesEarly_55 rfl (by rw [ev13]; rfl) (Nat.le_of_ble_eq_true rfl) rfl ?_
    refine x_goto (tgt := 42) C dX11_goesEarly_58 (by decide) ?_
    refine X_sub (lv' := [(0, .ref (ga G 11 0)), (1, .int x1), (3, .int v13)]) [1, 2, 0] rfl ?_
    have w9 := hL42 (M12, v13) h
    dsimp only at w9
    exact w9
set_option maxRecDepth 100000 in
set_option maxHeartbeats 400000 in
theorem kX11_goesEarly {l : Launch} {G : Gm} (hG : Gd G) (M : Mem) (x1 : Int32) (x2 : Int32) {Q : Mem → Prop} (h : pX11_goesEarly M x1 x2 Q) : Ctv l G yX11_goesEarly cX11_goesEarly 4 rmX11_goesEarly [.ref (ga G 11 0), .int x1, .int x2] M Q := by
  refine ctv_of (own := RX11) (by decide +kernel) rfl (Nat.le_of_ble_eq_true rfl) hG (fun Γ Qf hl C E => ?_)
  subst hl
  show X Γ G Qf 4 0 0 0 [(0, .ref (ga G 11 0)), (1, .int x1), (2, .int x2)] [] M
  unfold pX11_goesEarly at h
  refine x_aload_n C dX11_goesEarly_0 0 rfl ?_
  refine x_iload_n C dX11_goesEarly_1 2 rfl ?_
  refine pf_11_63 C q189 z11 dX11_goesEarly_2 ?_
  refine X_nameM (fun M1 eM1 => ?_)
  replace h := h M1 eM1
  refine x_aload_n C dX11_goesEarly_5 0 rfl ?_
  refine x_iconst (v := 0) C dX11_goesEarly_6 rfl ?_
  refine pf_11_56 C q203 z11 dX11_goesEarly_7 ?_
  refine X_nameM (fun M2 eM2 => ?_)
  replace h := h M2 eM2
  refine x_aload_n C dX11_goesEarly_10 0 rfl ?_
  refine x_iconst (v := 0) C dX11_goesEarly_11 rfl ?_
  refine pf_11_57 C q207 z11 dX11_goesEarly_12 ?_
  refine X_nameM (fun M3 eM3 => ?_)
  replace h := h M3 eM3
  refine x_aload_n C dX11_goesEarly_15 0 rfl ?_
  refine x_iconst (v := 0) C dX11_goesEarly_16 rfl ?_
  refine pf_11_58 C q199 z11 dX11_goesEarly_17 ?_
  refine X_nameM (fun M4 eM4 => ?_)
  replace h := h M4 eM4
  refine x_aload_n C dX11_goesEarly_20 0 rfl ?_
  refine x_iconst (v := 0) C dX11_goesEarly_21 rfl ?_
  refine pf_11_59 C q200 z11 dX11_goesEarly_22 ?_
  refine X_nameM (fun M5 eM5 => ?_)
  replace h := h M5 eM5
  refine x_aload_n C dX11_goesEarly_25 0 rfl ?_
  refine x_iconst (v := 0) C dX11_goesEarly_26 rfl ?_
  refine pf_11_60 C q198 z11 dX11_goesEarly_27 ?_
  refine X_nameM (fun M6 eM6 => ?_)
  replace h := h M6 eM6
  refine x_aload_n C dX11_goesEarly_30 0 rfl ?_
  refine x_iconst (v := 0) C dX11_goesEarly_31 rfl ?_
  refine pf_11_61 C q208 z11 dX11_goesEarly_32 ?_
  refine X_nameM (fun M7 eM7 => ?_)
  replace h := h M7 eM7
  refine x_aload_n C dX11_goesEarly_35 0 rfl ?_
  refine x_iconst (v := 0) C dX11_goesEarly_36 rfl ?_
  refine pf_11_62 C q206 z11 dX11_goesEarly_37 ?_
  refine X_nameM (fun M8 eM8 => ?_)
  replace h := h M8 eM8
  refine x_iconst (v := 0) C dX11_goesEarly_40 rfl ?_
  refine x_istore_n (lv' := [(3, .int 0), (0, .ref (ga G 11 0)), (1, .int x1), (2, .int x2)]) C dX11_goesEarly_41 rfl (Nat.le_of_ble_eq_true rfl) rfl ?_
  obtain ⟨n9, h⟩ := h
  refine X_sub (lv' := [(0, .ref (ga G 11 0)), (1, .int x1), (3, .int 0)]) [1, 2, 0] rfl ?_
  have hb : ∀ (L : Mem × Int32 → Prop) (s : Mem × Int32), (∀ t, L t → X Γ G Qf 4 0 0 42 [(0, .ref (ga G 11 0)), (1, .int x1), (3, .int t.2)] [] t.1) → bX11_goesEarly_42 x1 x2 Q L s.1 s.2 → X Γ G Qf 4 0 0 42 [(0, .ref (ga G 11 0)), (1, .int x1), (3, .int s.2)] [] s.1 := fun L s hL h => wX11_goesEarly_42 hG C E hL s.1 s.2 h
  have w9 := lp_walk (P := fun s : Mem × Int32 => X Γ G Qf 4 0 0 42 [(0, .ref (ga G 11 0)), (1, .int x1), (3, .int s.2)] [] s.1) h hb
  dsimp only at w9
  exact w9
def rmX11_spared : Room := { frames := 2, cells := 0, slots := 0, locals := 42 }
def bX11_spared_42 (Q : Int32 → Mem → Prop) (L4 : Mem × Int32 × Int32 → Prop) (L14 : Mem × Int32 × Int32 × Int32 → Prop) (M : Mem) (y1 : Int32) (y2 : Int32) (y3 : Int32) : Prop :=
  ∀ v11 : Int32, v11 = y3 + 1 → L14 (M, y1, y2, v11)
def bX11_spared_14 (Q : Int32 → Mem → Prop) (L4 : Mem × Int32 × Int32 → Prop) (L14 : Mem × Int32 × Int32 × Int32 → Prop) (M : Mem) (y1 : Int32) (y2 : Int32) (y3 : Int32) : Prop :=
  pX11_blocksOfList M y2 (fun r2 M3 => ((r2 ≤ y3 → ∀ v5 : Int32, v5 = y2 + 1 → L4 (M3, y1, v5)) ∧ (¬ r2 ≤ y3 → vp_in y2 24 ∧ vp_in y3 32 ∧ ((¬ (M3.1 6245 (tn y2) (tn y3)) = 0 → ∀ v9 : Int32, v9 = (y1 + 0) → bX11_spared_42 Q L4 L14 M3 v9 y2 y3) ∧ ((M3.1 6245 (tn y2) (tn y3)) = 0 → ∀ v10 : Int32, v10 = (y1 + 1) → bX11_spared_42 Q L4 L14 M3 v10 y2 y3)))))
def bX11_spared_4 (Q : Int32 → Mem → Prop) (L4 : Mem × Int32 × Int32 → Prop) (M : Mem) (y1 : Int32) (y2 : Int32) : Prop :=
  (((M.1 1218 0 0) ≤ y2 → Q y1 M) ∧ (¬ (M.1 1218 0 0) ≤ y2 → ∃ n : Nat, lp (fun L s => bX11_spared_14 Q L4 L s.1 s.2.1 s.2.2.1 s.2.2.2) n (M, y1, y2, 0)))
def pX11_spared (M : Mem) (Q : Int32 → Mem → Prop) : Prop :=
  ∃ n : Nat, lp (fun L s => bX11_spared_4 Q L s.1 s.2.1 s.2.2) n (M, 0, 0)
set_option maxRecDepth 100000 in
set_option maxHeartbeats 400000 in
theorem wX11_spared_42 {Γ : Gam} {G : Gm} {Qf : State → Prop} (hG : Gd G) (C : Cx Γ G cX11_spared 4 RX11 (some .int) rmX11_spared)  {Q : Int32 → Mem → Prop} (E : EndI Γ G Qf rmX11_spared Q) {L4 : Mem × Int32 × Int32 → Prop} (hL4 : ∀ s, L4 s → X Γ G Qf 4 0 0 4 [(0, .ref (ga G 11 0)), (1, .int s.2.1), (2, .int s.2.2)] [] s.1) {L14 : Mem × Int32 × Int32 × Int32 → Prop} (hL14 : ∀ s, L14 s → X Γ G Qf 4 0 0 14 [(0, .ref (ga G 11 0)), (1, .int s.2.1), (2, .int s.2.2.1), (3, .int s.2.2.2)] [] s.1) (M : Mem) (y1 : Int32) (y2 : Int32) (y3 : Int32) (h : bX11_spared_42 Q L4 L14 M y1 y2 y3) : X Γ G Qf 4 0 0 42 [(0, .ref (ga G 11 0)), (1, .int y1), (2, .int y2), (3, .int y3)] [] M := by
  unfold bX11_spared_42 at h
  obtain ⟨v11, ev11⟩ : ∃ z : Int32, z = y3 + 1 := ⟨_, rfl⟩
  replace h := h v11 ev11
  refine x_iinc (v := v11) (lv' := [(3, .int v11), (0, .ref (ga G 11 0)), (1, .int y1), (2, .int y2)]) (j := 3) C dX11_spared_42 rfl (by rw [ev11]; rfl) (Nat.le_of_ble_eq_true rfl) rfl ?_
  refine x_goto (tgt := 14) C dX11_spared_45 (by decide) ?_
  refine X_sub (lv' := [(0, .ref (ga G 11 0)), (1, .int y1), (2, .int y2), (3, .int v11)]) [1, 2, 3, 0] rfl ?_
  have w9 := hL14 (M, y1, y2, v11) h
  dsimp only at w9
  exact w9
set_option maxRecDepth 100000 in
set_option maxHeartbeats 400000 in
theorem wX11_spared_14 {Γ : Gam} {G : Gm} {Qf : State → Prop} (hG : Gd G) (C : Cx Γ G cX11_spared 4 RX11 (some .int) rmX11_spared)  {Q : Int32 → Mem → Prop} (E : EndI Γ G Qf rmX11_spared Q) {L4 : Mem × Int32 × Int32 → Prop} (hL4 : ∀ s, L4 s → X Γ G Qf 4 0 0 4 [(0, .ref (ga G 11 0)), (1, .int s.2.1), (2, .int s.2.2)] [] s.1) {L14 : Mem × Int32 × Int32 × Int32 → Prop} (hL14 : ∀ s, L14 s → X Γ G Qf 4 0 0 14 [(0, .ref (ga G 11 0)), (1, .int s.2.1), (2, .int s.2.2.1), (3, .int s.2.2.2)] [] s.1) (M : Mem) (y1 : Int32) (y2 : Int32) (y3 : Int32) (h : bX11_spared_14 Q L4 L14 M y1 y2 y3) : X Γ G Qf 4 0 0 14 [(0, .ref (ga G 11 0)), (1, .int y1), (2, .int y2), (3, .int y3)] [] M := by
  unfold bX11_spared_14 at h
  refine x_iload_n C dX11_spared_14 3 rfl ?_
  refine x_aload_n C dX11_spared_15 0 rfl ?_
  refine x_iload_n C dX11_spared_16 2 rfl ?_
  refine x_calli (rest := [.int y3]) C sv_X11_320 ob11 z11 (kX11_blocksOfList hG _ _ h) rfl rfl (Nat.le_of_ble_eq_true rfl) ⟨Nat.le_of_ble_eq_true rfl, Nat.le_of_ble_eq_true rfl⟩ rfl rfl ⟨Nat.le_of_ble_eq_true rfl, Nat.le_of_ble_eq_true rfl⟩ dX11_spared_17 (fun r2 M3 h => ?_)
  refine x_icmp_ge (tgt := 48) C dX11_spared_20 (by decide) (fun c4 => ?_) (fun c4 => ?_)
  · replace h := h.1 c4
    obtain ⟨v5, ev5⟩ : ∃ z : Int32, z = y2 + 1 := ⟨_, rfl⟩
    replace h := h v5 ev5
    refine x_iinc (v := v5) (lv' := [(2, .int v5), (0, .ref (ga G 11 0)), (1, .int y1), (3, .int y3)]) (j := 2) C dX11_spared_48 rfl (by rw [ev5]; rfl) (Nat.le_of_ble_eq_true rfl) rfl ?_
    refine x_goto (tgt := 4) C dX11_spared_51 (by decide) ?_
    refine X_sub (lv' := [(0, .ref (ga G 11 0)), (1, .int y1), (2, .int v5)]) [1, 2, 0] rfl ?_
    have w9 := hL4 (M3, y1, v5) h
    dsimp only at w9
    exact w9
  · replace h := h.2 c4
    refine x_iload_n C dX11_spared_23 1 rfl ?_
    refine x_aload_n C dX11_spared_24 0 rfl ?_
    refine gf_11_45 C q196 z11 dX11_spared_25 ?_
    refine x_iload_n C dX11_spared_28 2 rfl ?_
    obtain ⟨f6, h⟩ := h
    refine al_1245 C z1245 f6 dX11_spared_29 ?_
    refine x_iload_n C dX11_spared_30 3 rfl ?_
    obtain ⟨f7, h⟩ := h
    refine al_6245 C (vp_lt f6) f7 dX11_spared_31 ?_
    refine x_if_ne (tgt := 39) C dX11_spared_32 (by decide) (fun c8 => ?_) (fun c8 => ?_)
    · replace h := h.1 c8
      refine x_iconst (v := 0) C dX11_spared_39 rfl ?_
      refine x_iadd C dX11_spared_40 ?_
      refine X_name (fun v9 ev9 => ?_)
      replace h := h v9 ev9
      refine x_istore_n (lv' := [(1, .int v9), (0, .ref (ga G 11 0)), (2, .int y2), (3, .int y3)]) C dX11_spared_41 rfl (Nat.le_of_ble_eq_true rfl) rfl ?_
      refine X_sub (lv' := [(0, .ref (ga G 11 0)), (1, .int v9), (2, .int y2), (3, .int y3)]) [1, 0, 2, 3] rfl ?_
      exact wX11_spared_42 hG C E hL4 hL14 M3 v9 y2 y3 h
    · replace h := h.2 c8
      refine x_iconst (v := 1) C dX11_spared_35 rfl ?_
      refine x_goto (tgt := 40) C dX11_spared_36 (by decide) ?_
      refine x_iadd C dX11_spared_40 ?_
      refine X_name (fun v10 ev10 => ?_)
      replace h := h v10 ev10
      refine x_istore_n (lv' := [(1, .int v10), (0, .ref (ga G 11 0)), (2, .int y2), (3, .int y3)]) C dX11_spared_41 rfl (Nat.le_of_ble_eq_true rfl) rfl ?_
      refine X_sub (lv' := [(0, .ref (ga G 11 0)), (1, .int v10), (2, .int y2), (3, .int y3)]) [1, 0, 2, 3] rfl ?_
      exact wX11_spared_42 hG C E hL4 hL14 M3 v10 y2 y3 h
set_option maxRecDepth 100000 in
set_option maxHeartbeats 400000 in
theorem wX11_spared_4 {Γ : Gam} {G : Gm} {Qf : State → Prop} (hG : Gd G) (C : Cx Γ G cX11_spared 4 RX11 (some .int) rmX11_spared)  {Q : Int32 → Mem → Prop} (E : EndI Γ G Qf rmX11_spared Q) {L4 : Mem × Int32 × Int32 → Prop} (hL4 : ∀ s, L4 s → X Γ G Qf 4 0 0 4 [(0, .ref (ga G 11 0)), (1, .int s.2.1), (2, .int s.2.2)] [] s.1) (M : Mem) (y1 : Int32) (y2 : Int32) (h : bX11_spared_4 Q L4 M y1 y2) : X Γ G Qf 4 0 0 4 [(0, .ref (ga G 11 0)), (1, .int y1), (2, .int y2)] [] M := by
  unfold bX11_spared_4 at h
  refine x_iload_n C dX11_spared_4 2 rfl ?_
  refine x_aload_n C dX11_spared_5 0 rfl ?_
  refine gf_11_18 C q168 z11 dX11_spared_6 ?_
  refine x_icmp_ge (tgt := 54) C dX11_spared_9 (by decide) (fun c1 => ?_) (fun c1 => ?_)
  · replace h := h.1 c1
    refine x_iload_n C dX11_spared_54 1 rfl ?_
    exact x_iret C E h (Nat.le_of_ble_eq_true rfl) (Nat.le_of_ble_eq_true rfl) dX11_spared_55
  · replace h := h.2 c1
    refine x_iconst (v := 0) C dX11_spared_12 rfl ?_
    refine x_istore_n (lv' := [(3, .int 0), (0, .ref (ga G 11 0)), (1, .int y1), (2, .int y2)]) C dX11_spared_13 rfl (Nat.le_of_ble_eq_true rfl) rfl ?_
    obtain ⟨n9, h⟩ := h
    refine X_sub (lv' := [(0, .ref (ga G 11 0)), (1, .int y1), (2, .int y2), (3, .int 0)]) [1, 2, 3, 0] rfl ?_
    have hb : ∀ (L : Mem × Int32 × Int32 × Int32 → Prop) (s : Mem × Int32 × Int32 × Int32), (∀ t, L t → X Γ G Qf 4 0 0 14 [(0, .ref (ga G 11 0)), (1, .int t.2.1), (2, .int t.2.2.1), (3, .int t.2.2.2)] [] t.1) → bX11_spared_14 Q L4 L s.1 s.2.1 s.2.2.1 s.2.2.2 → X Γ G Qf 4 0 0 14 [(0, .ref (ga G 11 0)), (1, .int s.2.1), (2, .int s.2.2.1), (3, .int s.2.2.2)] [] s.1 := fun L s hL h => wX11_spared_14 hG C E hL4 hL s.1 s.2.1 s.2.2.1 s.2.2.2 h
    have w9 := lp_walk (P := fun s : Mem × Int32 × Int32 × Int32 => X Γ G Qf 4 0 0 14 [(0, .ref (ga G 11 0)), (1, .int s.2.1), (2, .int s.2.2.1), (3, .int s.2.2.2)] [] s.1) h hb
    dsimp only at w9
    exact w9
set_option maxRecDepth 100000 in
set_option maxHeartbeats 400000 in
theorem kX11_spared {l : Launch} {G : Gm} (hG : Gd G) (M : Mem)  {Q : Int32 → Mem → Prop} (h : pX11_spared M Q) : Cti l G yX11_spared cX11_spared 4 .int rmX11_spared [.ref (ga G 11 0)] M Q := by
  refine cti_of (own := RX11) (by decide +kernel) rfl (Nat.le_of_ble_eq_true rfl) hG (fun Γ Qf hl C E => ?_)
  subst hl
  show X Γ G Qf 4 0 0 0 [(0, .ref (ga G 11 0))] [] M
  unfold pX11_spared at h
  refine x_iconst (v := 0) C dX11_spared_0 rfl ?_
  refine x_istore_n (lv' := [(1, .int 0), (0, .ref (ga G 11 0))]) C dX11_spared_1 rfl (Nat.le_of_ble_eq_true rfl) rfl ?_
  refine x_iconst (v := 0) C dX11_spared_2 rfl ?_
  refine x_istore_n (lv' := [(2, .int 0), (1, .int 0), (0, .ref (ga G 11 0))]) C dX11_spared_3 rfl (Nat.le_of_ble_eq_true rfl) rfl ?_
  obtain ⟨n9, h⟩ := h
  refine X_sub (lv' := [(0, .ref (ga G 11 0)), (1, .int 0), (2, .int 0)]) [2, 1, 0] rfl ?_
  have hb : ∀ (L : Mem × Int32 × Int32 → Prop) (s : Mem × Int32 × Int32), (∀ t, L t → X Γ G Qf 4 0 0 4 [(0, .ref (ga G 11 0)), (1, .int t.2.1), (2, .int t.2.2)] [] t.1) → bX11_spared_4 Q L s.1 s.2.1 s.2.2 → X Γ G Qf 4 0 0 4 [(0, .ref (ga G 11 0)), (1, .int s.2.1), (2, .int s.2.2)] [] s.1 := fun L s hL h => wX11_spared_4 hG C E hL s.1 s.2.1 s.2.2 h
  have w9 := lp_walk (P := fun s : Mem × Int32 × Int32 => X Γ G Qf 4 0 0 4 [(0, .ref (ga G 11 0)), (1, .int s.2.1), (2, .int s.2.2)] [] s.1) h hb
  dsimp only at w9
  exact w9
def rmX11_isWord : Room := { frames := 1, cells := 0, slots := 0, locals := 22 }
def pX11_isWord (M : Mem) (x1 : Int32) (Q : Int32 → Mem → Prop) : Prop :=
  pX11_in M x1 0 ((M.1 1210 0 0) - 1) (fun r1 M2 => bz r1 ∧ Q r1 M2)
set_option maxRecDepth 100000 in
set_option maxHeartbeats 400000 in
theorem kX11_isWord {l : Launch} {G : Gm} (hG : Gd G) (M : Mem) (x1 : Int32) {Q : Int32 → Mem → Prop} (h : pX11_isWord M x1 Q) : Cti l G yX11_isWord cX11_isWord 2 .boolean rmX11_isWord [.ref (ga G 11 0), .int x1] M Q := by
  refine cti_of (own := RX11) (by decide +kernel) rfl (Nat.le_of_ble_eq_true rfl) hG (fun Γ Qf hl C E => ?_)
  subst hl
  show X Γ G Qf 2 0 0 0 [(0, .ref (ga G 11 0)), (1, .int x1)] [] M
  unfold pX11_isWord at h
  refine x_iload_n C dX11_isWord_0 1 rfl ?_
  refine x_iconst (v := 0) C dX11_isWord_1 rfl ?_
  refine x_aload_n C dX11_isWord_2 0 rfl ?_
  refine gf_11_10 C q155 z11 dX11_isWord_3 ?_
  refine x_iconst (v := 1) C dX11_isWord_6 rfl ?_
  refine x_isub C dX11_isWord_7 ?_
  refine x_scalli (rest := []) C ss_X11_172 (kX11_in hG _ _ _ _ h) rfl rfl (Nat.le_of_ble_eq_true rfl) ⟨Nat.le_of_ble_eq_true rfl, Nat.le_of_ble_eq_true rfl⟩ rfl rfl ⟨Nat.le_of_ble_eq_true rfl, Nat.le_of_ble_eq_true rfl⟩ dX11_isWord_8 (fun r1 M2 h => ?_)
  obtain ⟨f3, h⟩ := h
  exact x_zret C E h (bz_nar f3) (Nat.le_of_ble_eq_true rfl) (Nat.le_of_ble_eq_true rfl) dX11_isWord_11
def rmX11_isDocument : Room := { frames := 1, cells := 0, slots := 0, locals := 22 }
def pX11_isDocument (M : Mem) (x1 : Int32) (Q : Int32 → Mem → Prop) : Prop :=
  pX11_in M x1 0 ((M.1 1209 0 0) - 1) (fun r1 M2 => ((r1 = 0 → Q 0 M2) ∧ (¬ r1 = 0 → pX11_isKept M2 x1 (fun r4 M5 => ((r4 = 0 → Q 0 M5) ∧ (¬ r4 = 0 → Q 1 M5))))))
set_option maxRecDepth 100000 in
set_option maxHeartbeats 400000 in
theorem kX11_isDocument {l : Launch} {G : Gm} (hG : Gd G) (M : Mem) (x1 : Int32) {Q : Int32 → Mem → Prop} (h : pX11_isDocument M x1 Q) : Cti l G yX11_isDocument cX11_isDocument 2 .boolean rmX11_isDocument [.ref (ga G 11 0), .int x1] M Q := by
  refine cti_of (own := RX11) (by decide +kernel) rfl (Nat.le_of_ble_eq_true rfl) hG (fun Γ Qf hl C E => ?_)
  subst hl
  show X Γ G Qf 2 0 0 0 [(0, .ref (ga G 11 0)), (1, .int x1)] [] M
  unfold pX11_isDocument at h
  refine x_iload_n C dX11_isDocument_0 1 rfl ?_
  refine x_iconst (v := 0) C dX11_isDocument_1 rfl ?_
  refine x_aload_n C dX11_isDocument_2 0 rfl ?_
  refine gf_11_9 C q159 z11 dX11_isDocument_3 ?_
  refine x_iconst (v := 1) C dX11_isDocument_6 rfl ?_
  refine x_isub C dX11_isDocument_7 ?_
  refine x_scalli (rest := []) C ss_X11_172 (kX11_in hG _ _ _ _ h) rfl rfl (Nat.le_of_ble_eq_true rfl) ⟨Nat.le_of_ble_eq_true rfl, Nat.le_of_ble_eq_true rfl⟩ rfl rfl ⟨Nat.le_of_ble_eq_true rfl, Nat.le_of_ble_eq_true rfl⟩ dX11_isDocument_8 (fun r1 M2 h => ?_)
  refine x_if_eq (tgt := 26) C dX11_isDocument_11 (by decide) (fun c3 => ?_) (fun c3 => ?_)
  · replace h := h.1 c3
    refine x_iconst (v := 0) C dX11_isDocument_26 rfl ?_
    exact x_zret C E h rfl (Nat.le_of_ble_eq_true rfl) (Nat.le_of_ble_eq_true rfl) dX11_isDocument_27
  · replace h := h.2 c3
    refine x_aload_n C dX11_isDocument_14 0 rfl ?_
    refine x_iload_n C dX11_isDocument_15 1 rfl ?_
    refine x_calli (rest := []) C sv_X11_246 ob11 z11 (kX11_isKept hG _ _ h) rfl rfl (Nat.le_of_ble_eq_true rfl) ⟨Nat.le_of_ble_eq_true rfl, Nat.le_of_ble_eq_true rfl⟩ rfl rfl ⟨Nat.le_of_ble_eq_true rfl, Nat.le_of_ble_eq_true rfl⟩ dX11_isDocument_16 (fun r4 M5 h => ?_)
    refine x_if_eq (tgt := 26) C dX11_isDocument_19 (by decide) (fun c6 => ?_) (fun c6 => ?_)
    · replace h := h.1 c6
      refine x_iconst (v := 0) C dX11_isDocument_26 rfl ?_
      exact x_zret C E h rfl (Nat.le_of_ble_eq_true rfl) (Nat.le_of_ble_eq_true rfl) dX11_isDocument_27
    · replace h := h.2 c6
      refine x_iconst (v := 1) C dX11_isDocument_22 rfl ?_
      refine x_goto (tgt := 27) C dX11_isDocument_23 (by decide) ?_
      exact x_zret C E h rfl (Nat.le_of_ble_eq_true rfl) (Nat.le_of_ble_eq_true rfl) dX11_isDocument_27
