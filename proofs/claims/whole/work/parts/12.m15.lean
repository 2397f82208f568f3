def rmX11_window : Room := { frames := 2, cells := 0, slots := 0, locals := 46 }
def bX11_window_165 (x1 : Int32) (x2 : Int32) (Q : Int32 → Mem → Prop) (L122 : Mem × Int32 × Int32 × Int32 → Prop) (M : Mem) (y4 : Int32) (y5 : Int32) (y6 : Int32) : Prop :=
  ∀ v46 : Int32, v46 = y6 + 1 → L122 (M, y4, y5, v46)
def bX11_window_122 (x1 : Int32) (x2 : Int32) (Q : Int32 → Mem → Prop) (L122 : Mem × Int32 × Int32 × Int32 → Prop) (M : Mem) (y4 : Int32) (y5 : Int32) (y6 : Int32) : Prop :=
  vp_in x1 64 ∧ (((M.1 1213 0 (tn x1)) ≤ y6 → ((¬ x2 = 0 → Q y5 M) ∧ (x2 = 0 → Q y4 M))) ∧ (¬ (M.1 1213 0 (tn x1)) ≤ y6 → pX11_endOf M x1 y6 (fun r42 M43 => ∀ v44 : Int32, v44 = ((r42 + 1) - y6) → ((v44 < y5 → bX11_window_165 x1 x2 Q L122 M43 y6 v44 y6) ∧ (¬ v44 < y5 → bX11_window_165 x1 x2 Q L122 M43 y4 y5 y6)))))
def bX11_window_99 (x1 : Int32) (x2 : Int32) (Q : Int32 → Mem → Prop) (L65 : Mem × Int32 × Int32 × Int32 × Int32 → Prop) (M : Mem) (y3 : Int32) (y4 : Int32) (y5 : Int32) (y6 : Int32) : Prop :=
  ∀ v38 : Int32, v38 = y6 + 1 → L65 (M, y3, y4, y5, v38)
def bX11_window_65 (x1 : Int32) (x2 : Int32) (Q : Int32 → Mem → Prop) (L65 : Mem × Int32 × Int32 × Int32 × Int32 → Prop) (M : Mem) (y3 : Int32) (y4 : Int32) (y5 : Int32) (y6 : Int32) : Prop :=
  (((M.1 1218 0 0) ≤ y6 → ((¬ y3 = 0 → ∃ n : Nat, lp (fun L s => bX11_window_122 x1 x2 Q L s.1 s.2.1 s.2.2.1 s.2.2.2) n (M, y4, y5, 0)) ∧ (y3 = 0 → ((¬ x2 = 0 → Q 0 M) ∧ (x2 = 0 → Q (-1) M))))) ∧ (¬ (M.1 1218 0 0) ≤ y6 → vp_in y6 24 ∧ vp_in (M.1 1225 0 (tn y6)) 256 ∧ vp_in x1 64 ∧ (((M.1 6217 (tn (M.1 1225 0 (tn y6))) (tn x1)) ≤ 0 → ∀ v36 : Int32, v36 = (y3 + 0) → bX11_window_99 x1 x2 Q L65 M v36 y4 y5 y6) ∧ (¬ (M.1 6217 (tn (M.1 1225 0 (tn y6))) (tn x1)) ≤ 0 → ∀ v37 : Int32, v37 = (y3 + 1) → bX11_window_99 x1 x2 Q L65 M v37 y4 y5 y6))))
def pX11_window (M : Mem) (x1 : Int32) (x2 : Int32) (Q : Int32 → Mem → Prop) : Prop :=
  ∀ M1 : Mem, M1 = up1 M 1200 0 0 0 → pX11_isDocument M1 x1 (fun r2 M3 => ((¬ r2 = 0 → pX11_bad M3 0 1 0 (fun r5 M6 => ((¬ r5 = 0 → Q 0 M6) ∧ (r5 = 0 → pX11_in M6 x2 0 1 (fun r8 M9 => ((¬ r8 = 0 → pX11_bad M9 0 2 1 (fun r11 M12 => ((r11 = 0 → ∃ n : Nat, lp (fun L s => bX11_window_65 x1 x2 Q L s.1 s.2.1 s.2.2.1 s.2.2.2.1 s.2.2.2.2) n (M12, 0, (-1), 151, 0)) ∧ (¬ r11 = 0 → Q 0 M12)))) ∧ (r8 = 0 → pX11_bad M9 1 2 1 (fun r14 M15 => ((r14 = 0 → ∃ n : Nat, lp (fun L s => bX11_window_65 x1 x2 Q L s.1 s.2.1 s.2.2.1 s.2.2.2.1 s.2.2.2.2) n (M15, 0, (-1), 151, 0)) ∧ (¬ r14 = 0 → Q 0 M15)))))))))) ∧ (r2 = 0 → pX11_bad M3 1 1 0 (fun r17 M18 => ((¬ r17 = 0 → Q 0 M18) ∧ (r17 = 0 → pX11_in M18 x2 0 1 (fun r20 M21 => ((¬ r20 = 0 → pX11_bad M21 0 2 1 (fun r23 M24 => ((r23 = 0 → ∃ n : Nat, lp (fun L s => bX11_window_65 x1 x2 Q L s.1 s.2.1 s.2.2.1 s.2.2.2.1 s.2.2.2.2) n (M24, 0, (-1), 151, 0)) ∧ (¬ r23 = 0 → Q 0 M24)))) ∧ (r20 = 0 → pX11_bad M21 1 2 1 (fun r26 M27 => ((r26 = 0 → ∃ n : Nat, lp (fun L s => bX11_window_65 x1 x2 Q L s.1 s.2.1 s.2.2.1 s.2.2.2.1 s.2.2.2.2) n (M27, 0, (-1), 151, 0)) ∧ (¬ r26 = 0 → Q 0 M27))))))))))))
set_option maxRecDepth 100000 in
set_option maxHeartbeats 400000 in
theorem wX11_window_165 {Γ : Gam} {G : Gm} {Qf : State → Prop} (hG : Gd G) (C : Cx Γ G cX11_window 8 RX11 (some .int) rmX11_window) {x1 : Int32} {x2 : Int32} {Q : Int32 → Mem → Prop} (E : EndI Γ G Qf rmX11_window Q) {L122 : Mem × Int32 × Int32 × Int32 → Prop} (hL122 : ∀ s, L122 s → X Γ G Qf 8 0 0 122 [(0, .ref (ga G 11 0)), (1, .int x1), (2, .int x2), (4, .int s.2.1), (5, .int s.2.2.1), (6, .int s.2.2.2)] [] s.1) (M : Mem) (y4 : Int32) (y5 : Int32) (y6 : Int32) (h : bX11_window_165 x1 x2 Q L122 M y4 y5 y6) : X Γ G Qf 8 0 0 165 [(0, .ref (ga G 11 0)), (1, .int x1), (2, .int x2), (4, .int y4), (5, .int y5), (6, .int y6)] [] M := by
  unfold bX11_window_165 at h
  obtain ⟨v46, ev46⟩ : ∃ z : Int32, z = y6 + 1 := ⟨_, rfl⟩
  replace h := h v46 ev46
  refine x_iinc (v := v46) (lv' := [(6, .int v46), (0, .ref (ga G 11 0)), (1, .int x1), (2, .int x2), (4, .int y4), (5, .int y5)]) (j := 5) C dX11_window_165 rfl (by rw [ev46]; rfl) (Nat.le_of_ble_eq_true rfl) rfl ?_
  refine x_goto (tgt := 122) C dX11_window_168 (by decide) ?_
  refine X_sub (lv' := [(0, .ref (ga G 11 0)), (1, .int x1), (2, .int x2), (4, .int y4), (5, .int y5), (6, .int v46)]) [1, 2, 3, 4, 5, 0] rfl ?_
  have w9 := hL122 (M, y4, y5, v46) h
  dsimp only at w9
  exact w9
set_option maxRecDepth 100000 in
set_option maxHeartbeats 400000 in
theorem wX11_window_122 {Γ : Gam} {G : Gm} {Qf : State → Prop} (hG : Gd G) (C : Cx Γ G cX11_window 8 RX11 (some .int) rmX11_window) {x1 : Int32} {x2 : Int32} {Q : Int32 → Mem → Prop} (E : EndI Γ G Qf rmX11_window Q) {L122 : Mem × Int32 × Int32 × Int32 → Prop} (hL122 : ∀ s, L122 s → X Γ G Qf 8 0 0 122 [(0, .ref (ga G 11 0)), (1, .int x1), (2, .int x2), (4, .int s.2.1), (5, .int s.2.2.1), (6, .int s.2.2.2)] [] s.1) (M : Mem) (y4 : Int32) (y5 : Int32) (y6 : Int32) (h : bX11_window_122 x1 x2 Q L122 M y4 y5 y6) : X Γ G Qf 8 0 0 122 [(0, .ref (ga G 11 0)), (1, .int x1), (2, .int x2), (4, .int y4), (5, .int y5), (6, .int y6)] [] M := by
  unfold bX11_window_122 at h
  refine x_iload C dX11_window_122 5 rfl ?_
  refine x_aload_n C dX11_window_124 0 rfl ?_
  refine gf_11_13 C q161 z11 dX11_window_125 ?_
  refine x_iload_n C dX11_window_128 1 rfl ?_
  obtain ⟨f39, h⟩ := h
  refine al_1213 C z1213 f39 dX11_window_129 ?_
  refine x_icmp_ge (tgt := 171) C dX11_window_130 (by decide) (fun c40 => ?_) (fun c40 => ?_)
  · replace h := h.1 c40
    refine x_iload_n C dX11_window_171 2 rfl ?_
    refine x_if_ne (tgt := 180) C dX11_window_172 (by decide) (fun c41 => ?_) (fun c41 => ?_)
    · replace h := h.1 c41
      refine x_iload C dX11_window_180 4 rfl ?_
      exact x_iret C E h (Nat.le_of_ble_eq_true rfl) (Nat.le_of_ble_eq_true rfl) dX11_window_182
    · replace h := h.2 c41
      refine x_iload C dX11_window_175 3 rfl ?_
      refine x_goto (tgt := 182) C dX11_window_177 (by decide) ?_
      exact x_iret C E h (Nat.le_of_ble_eq_true rfl) (Nat.le_of_ble_eq_true rfl) dX11_window_182
  · replace h := h.2 c40
    refine x_aload_n C dX11_window_133 0 rfl ?_
    refine x_iload_n C dX11_window_134 1 rfl ?_
    refine x_iload C dX11_window_135 5 rfl ?_
    refine x_calli (rest := []) C sv_X11_439 ob11 z11 (kX11_endOf hG _ _ _ h) rfl rfl (Nat.le_of_ble_eq_true rfl) ⟨Nat.le_of_ble_eq_true rfl, Nat.le_of_ble_eq_true rfl⟩ rfl rfl ⟨Nat.le_of_ble_eq_true rfl, Nat.le_of_ble_eq_true rfl⟩ dX11_window_137 (fun r42 M43 h => ?_)
    refine x_iconst (v := 1) C dX11_window_140 rfl ?_
    refine x_iadd C dX11_window_141 ?_
    refine x_iload C dX11_window_142 5 rfl ?_
    refine x_isub C dX11_window_144 ?_
    refine X_name (fun v44 ev44 => ?_)
    replace h := h v44 ev44
    refine x_istore (lv' := [(7, .int v44), (0, .ref (ga G 11 0)), (1, .int x1), (2, .int x2), (4, .int y4), (5, .int y5), (6, .int y6)]) C dX11_window_145 (Nat.le_of_ble_eq_true rfl) rfl ?_
    refine x_iload C dX11_window_147 0 rfl ?_
    refine x_iload C dX11_window_149 5 rfl ?_
    refine x_icmp_lt (tgt := 157) C dX11_window_151 (by decide) (fun c45 => ?_) (fun c45 => ?_)
    · replace h := h.1 c45
      refine x_iload C dX11_window_157 0 rfl ?_
      refine x_istore (lv' := [(5, .int v44), (7, .int v44), (0, .ref (ga G 11 0)), (1, .int x1), (2, .int x2), (4, .int y4), (6, .int y6)]) C dX11_window_159 (Nat.le_of_ble_eq_true rfl) rfl ?_
      refine x_iload C dX11_window_161 6 rfl ?_
      refine x_istore (lv' := [(4, .int y6), (5, .int v44), (7, .int v44), (0, .ref (ga G 11 0)), (1, .int x1), (2, .int x2), (6, .int y6)]) C dX11_window_163 (Nat.le_of_ble_eq_true rfl) rfl ?_
      refine X_sub (lv' := [(0, .ref (ga G 11 0)), (1, .int x1), (2, .int x2), (4, .int y6), (5, .int v44), (6, .int y6)]) [3, 4, 5, 0, 1, 6] rfl ?_
      exact wX11_window_165 hG C E hL122 M43 y6 v44 y6 h
    · replace h := h.2 c45
      refine x_goto (tgt := 165) C dX11_window_154 (by decide) ?_
      refine X_sub (lv' := [(0, .ref (ga G 11 0)), (1, .int x1), (2, .int x2), (4, .int y4), (5, .int y5), (6, .int y6)]) [1, 2, 3, 4, 5, 6] rfl ?_
      exact wX11_window_165 hG C E hL122 M43 y4 y5 y6 h
set_option maxRecDepth 100000 in
set_option maxHeartbeats 400000 in
theorem wX11_window_99 {Γ : Gam} {G : Gm} {Qf : State → Prop} (hG : Gd G) (C : Cx Γ G cX11_window 8 RX11 (some .int) rmX11_window) {x1 : Int32} {x2 : Int32} {Q : Int32 → Mem → Prop} (E : EndI Γ G Qf rmX11_window Q) {L65 : Mem × Int32 × Int32 × Int32 × Int32 → Prop} (hL65 : ∀ s, L65 s → X Γ G Qf 8 0 0 65 [(0, .ref (ga G 11 0)), (1, .int x1), (2, .int x2), (3, .int s.2.1), (4, .int s.2.2.1), (5, .int s.2.2.2.1), (6, .int s.2.2.2.2)] [] s.1) (M : Mem) (y3 : Int32) (y4 : Int32) (y5 : Int32) (y6 : Int32) (h : bX11_window_99 x1 x2 Q L65 M y3 y4 y5 y6) : X Γ G Qf 8 0 0 99 [(0, .ref (ga G 11 0)), (1, .int x1), (2, .int x2), (3, .int y3), (4, .int y4), (5, .int y5), (6, .int y6)] [] M := by
  unfold bX11_window_99 at h
  obtain ⟨v38, ev38⟩ : ∃ z : Int32, z = y6 + 1 := ⟨_, rfl⟩
  replace h := h v38 ev38
  refine x_iinc (v := v38) (lv' := [(6, .int v38), (0, .ref (ga G 11 0)), (1, .int x1), (2, .int x2), (3, .int y3), (4, .int y4), (5, .int y5)]) (j := 6) C dX11_window_99 rfl (by rw [ev38]; rfl) (Nat.le_of_ble_eq_true rfl) rfl ?_
  refine x_goto (tgt := 65) C dX11_window_102 (by decide) ?_
  refine X_sub (lv' := [(0, .ref (ga G 11 0)), (1, .int x1), (2, .int x2), (3, .int y3), (4, .int y4), (5, .int y5), (6, .int v38)]) [1, 2, 3, 4, 5, 6, 0] rfl ?_
  have w9 := hL65 (M, y3, y4, y5, v38) h
  dsimp only at w9
  exact w9
set_option maxRecDepth 100000 in
set_option maxHeartbeats 400000 in
theorem wX11_window_65 {Γ : Gam} {G : Gm} {Qf : State → Prop} (hG : Gd G) (C : Cx Γ G cX11_window 8 RX11 (some .int) rmX11_window) {x1 : Int32} {x2 : Int32} {Q : Int32 → Mem → Prop} (E : EndI Γ G Qf rmX11_window Q) {L65 : Mem × Int32 × Int32 × Int32 × Int32 → Prop} (hL65 : ∀ s, L65 s → X Γ G Qf 8 0 0 65 [(0, .ref (ga G 11 0)), (1, .int x1), (2, .int x2), (3, .int s.2.1), (4, .int s.2.2.1), (5, .int s.2.2.2.1), (6, .int s.2.2.2.2)] [] s.1) (M : Mem) (y3 : Int32) (y4 : Int32) (y5 : Int32) (y6 : Int32) (h : bX11_window_65 x1 x2 Q L65 M y3 y4 y5 y6) : X Γ G Qf 8 0 0 65 [(0, .ref (ga G 11 0)), (1, .int x1), (2, .int x2), (3, .int y3), (4, .int y4), (5, .int y5), (6, .int y6)] [] M := by
  unfold bX11_window_65 at h
  refine x_iload C dX11_window_65 6 rfl ?_
  refine x_aload_n C dX11_window_67 0 rfl ?_
  refine gf_11_18 C q168 z11 dX11_window_68 ?_
  refine x_icmp_ge (tgt := 105) C dX11_window_71 (by decide) (fun c29 => ?_) (fun c29 => ?_)
  · replace h := h.1 c29
    refine x_iload_n C dX11_window_105 3 rfl ?_
    refine x_if_ne (tgt := 119) C dX11_window_106 (by decide) (fun c30 => ?_) (fun c30 => ?_)
    · replace h := h.1 c30
      refine x_iconst (v := 0) C dX11_window_119 rfl ?_
      refine x_istore (lv' := [(6, .int 0), (0, .ref (ga G 11 0)), (1, .int x1), (2, .int x2), (3, .int y3), (4, .int y4), (5, .int y5)]) C dX11_window_120 (Nat.le_of_ble_eq_true rfl) rfl ?_
      obtain ⟨n9, h⟩ := h
      refine X_sub (lv' := [(0, .ref (ga G 11 0)), (1, .int x1), (2, .int x2), (4, .int y4), (5, .int y5), (6, .int 0)]) [1, 2, 3, 5, 6, 0] rfl ?_
      have hb : ∀ (L : Mem × Int32 × Int32 × Int32 → Prop) (s : Mem × Int32 × Int32 × Int32), (∀ t, L t → X Γ G Qf 8 0 0 122 [(0, .ref (ga G 11 0)), (1, .int x1), (2, .int x2), (4, .int t.2.1), (5, .int t.2.2.1), (6, .int t.2.2.2)] [] t.1) → bX11_window_122 x1 x2 Q L s.1 s.2.1 s.2.2.1 s.2.2.2 → X Γ G Qf 8 0 0 122 [(0, .ref (ga G 11 0)), (1, .int x1), (2, .int x2), (4, .int s.2.1), (5, .int s.2.2.1), (6, .int s.2.2.2)] [] s.1 := fun L s hL h => wX11_window_122 hG C E hL s.1 s.2.1 s.2.2.1 s.2.2.2 h
      have w9 := lp_walk (P := fun s : Mem × Int32 × Int32 × Int32 => X Γ G Qf 8 0 0 122 [(0, .ref (ga G 11 0)), (1, .int x1), (2, .int x2), (4, .int s.2.1), (5, .int s.2.2.1), (6, .int s.2.2.2)] [] s.1) h hb
      dsimp only at w9
      exact w9
    · replace h := h.2 c30
      refine x_iload_n C dX11_window_109 2 rfl ?_
      refine x_if_ne (tgt := 117) C dX11_window_110 (by decide) (fun c31 => ?_) (fun c31 => ?_)
      · replace h := h.1 c31
        refine x_iconst (v := 0) C dX11_window_117 rfl ?_
        exact x_iret C E h (Nat.le_of_ble_eq_true rfl) (Nat.le_of_ble_eq_true rfl) dX11_window_118
      · replace h := h.2 c31
        refine x_iconst (v := (-1)) C dX11_window_113 rfl ?_
        refine x_goto (tgt := 118) C dX11_window_114 (by decide) ?_
        exact x_iret C E h (Nat.le_of_ble_eq_true rfl) (Nat.le_of_ble_eq_true rfl) dX11_window_118
  · replace h := h.2 c29
    refine x_iload_n C dX11_window_74 3 rfl ?_
    refine x_aload_n C dX11_window_75 0 rfl ?_
    refine gf_11_17 C q163 z11 dX11_window_76 ?_
    refine x_aload_n C dX11_window_79 0 rfl ?_
    refine gf_11_25 C q169 z11 dX11_window_80 ?_
    refine x_iload C dX11_window_83 6 rfl ?_
    obtain ⟨f32, h⟩ := h
    refine al_1225 C z1225 f32 dX11_window_85 ?_
    obtain ⟨f33, h⟩ := h
    refine al_1217 C z1217 f33 dX11_window_86 ?_
    refine x_iload_n C dX11_window_87 1 rfl ?_
    obtain ⟨f34, h⟩ := h
    refine al_6217 C (vp_lt f33) f34 dX11_window_88 ?_
    refine x_if_le (tgt := 96) C dX11_window_89 (by decide) (fun c35 => ?_) (fun c35 => ?_)
    · replace h := h.1 c35
      refine x_iconst (v := 0) C dX11_window_96 rfl ?_
      refine x_iadd C dX11_window_97 ?_
      refine X_name (fun v36 ev36 => ?_)
      replace h := h v36 ev36
      refine x_istore_n (lv' := [(3, .int v36), (0, .ref (ga G 11 0)), (1, .int x1), (2, .int x2), (4, .int y4), (5, .int y5), (6, .int y6)]) C dX11_window_98 rfl (Nat.le_of_ble_eq_true rfl) rfl ?_
      refine X_sub (lv' := [(0, .ref (ga G 11 0)), (1, .int x1), (2, .int x2), (3, .int v36), (4, .int y4), (5, .int y5), (6, .int y6)]) [1, 2, 3, 0, 4, 5, 6] rfl ?_
      exact wX11_window_99 hG C E hL65 M v36 y4 y5 y6 h
    · replace h := h.2 c35
      refine x_iconst (v := 1) C dX11_window_92 rfl ?_
      refine x_goto (tgt := 97) C dX11_window_93 (by decide) ?_
      refine x_iadd C dX11_window_97 ?_
      refine X_name (fun v37 ev37 => ?_)
      replace h := h v37 ev37
      refine x_istore_n (lv' := [(3, .int v37), (0, .ref (ga G 11 0)), (1, .int x1), (2, .int x2), (4, .int y4), (5, .int y5), (6, .int y6)]) C dX11_window_98 rfl (Nat.le_of_ble_eq_true rfl) rfl ?_
      refine X_sub (lv' := [(0, .ref (ga G 11 0)), (1, .int x1), (2, .int x2), (3, .int v37), (4, .int y4), (5, .int y5), (6, .int y6)]) [1, 2, 3, 0, 4, 5, 6] rfl ?_
      exact wX11_window_99 hG C E hL65 M v37 y4 y5 y6 h
set_option maxRecDepth 100000 in
set_option maxHeartbeats 400000 in
theorem kX11_window {l : Launch} {G : Gm} (hG : Gd G) (M : Mem) (x1 : Int32) (x2 : Int32) {Q : Int32 → Mem → Prop} (h : pX11_window M x1 x2 Q) : Cti l G yX11_window cX11_window 8 .int rmX11_window [.ref (ga G 11 0), .int x1, .int x2] M Q := by
  refine cti_of (own := RX11) (by decide +kernel) rfl (Nat.le_of_ble_eq_true rfl) hG (fun Γ Qf hl C E => ?_)
  subst hl
  show X Γ G Qf 8 0 0 0 [(0, .ref (ga G 11 0)), (1, .int x1), (2, .int x2)] [] M
  unfold pX11_window at h
  refine x_aload_n C dX11_window_0 0 rfl ?_
  refine x_iconst (v := 0) C dX11_window_1 rfl ?_
  refine pf_11_0 C q143 z11 dX11_window_2 ?_
  refine X_nameM (fun M1 eM1 => ?_)
  replace h := h M1 eM1
  refine x_aload_n C dX11_window_5 0 rfl ?_
  refine x_aload_n C dX11_window_6 0 rfl ?_
  refine x_iload_n C dX11_window_7 1 rfl ?_
  refine x_calli (rest := [.ref (ga G 11 0)]) C sv_X11_402 ob11 z11 (kX11_isDocument hG _ _ h) rfl rfl (Nat.le_of_ble_eq_true rfl) ⟨Nat.le_of_ble_eq_true rfl, Nat.le_of_ble_eq_true rfl⟩ rfl rfl ⟨Nat.le_of_ble_eq_true rfl, Nat.le_of_ble_eq_true rfl⟩ dX11_window_8 (fun r2 M3 h => ?_)
  refine x_if_ne (tgt := 18) C dX11_window_11 (by decide) (fun c4 => ?_) (fun c4 => ?_)
  · replace h := h.1 c4
    refine x_iconst (v := 0) C dX11_window_18 rfl ?_
    refine x_iconst (v := 1) C dX11_window_19 rfl ?_
    refine x_iconst (v := 0) C dX11_window_20 rfl ?_
    refine x_calli (rest := []) C sv_X11_179 ob11 z11 (kX11_bad hG _ _ _ _ h) rfl rfl (Nat.le_of_ble_eq_true rfl) ⟨Nat.le_of_ble_eq_true rfl, Nat.le_of_ble_eq_true rfl⟩ rfl rfl ⟨Nat.le_of_ble_eq_true rfl, Nat.le_of_ble_eq_true rfl⟩ dX11_window_21 (fun r5 M6 h => ?_)
    refine x_if_ne (tgt := 50) C dX11_window_24 (by decide) (fun c7 => ?_) (fun c7 => ?_)
    · replace h := h.1 c7
      refine x_iconst (v := 0) C dX11_window_50 rfl ?_
      exact x_iret C E h (Nat.le_of_ble_eq_true rfl) (Nat.le_of_ble_eq_true rfl) dX11_window_51
    · replace h := h.2 c7
      refine x_aload_n C dX11_window_27 0 rfl ?_
      refine x_iload_n C dX11_window_28 2 rfl ?_
      refine x_iconst (v := 0) C dX11_window_29 rfl ?_
      refine x_iconst (v := 1) C dX11_window_30 rfl ?_
      refine x_scalli (rest := [.ref (ga G 11 0)]) C ss_X11_172 (kX11_in hG _ _ _ _ h) rfl rfl (Nat.le_of_ble_eq_true rfl) ⟨Nat.le_of_ble_eq_true rfl, Nat.le_of_ble_eq_true rfl⟩ rfl rfl ⟨Nat.le_of_ble_eq_true rfl, Nat.le_of_ble_eq_true rfl⟩ dX11_window_31 (fun r8 M9 h => ?_)
      refine x_if_ne (tgt := 41) C dX11_window_34 (by decide) (fun c10 => ?_) (fun c10 => ?_)
      · replace h := h.1 c10
        refine x_iconst (v := 0) C dX11_window_41 rfl ?_
        refine x_iconst (v := 2) C dX11_window_42 rfl ?_
        refine x_iconst (v := 1) C dX11_window_43 rfl ?_
        refine x_calli (rest := []) C sv_X11_179 ob11 z11 (kX11_bad hG _ _ _ _ h) rfl rfl (Nat.le_of_ble_eq_true rfl) ⟨Nat.le_of_ble_eq_true rfl, Nat.le_of_ble_eq_true rfl⟩ rfl rfl ⟨Nat.le_of_ble_eq_true rfl, Nat.le_of_ble_eq_true rfl⟩ dX11_window_44 (fun r11 M12 h => ?_)
        refine x_if_eq (tgt := 52) C dX11_window_47 (by decide) (fun c13 => ?_) (fun c13 => ?_)
        · replace h := h.1 c13
          refine x_iconst (v := 0) C dX11_window_52 rfl ?_
          refine x_istore_n (lv' := [(3, .int 0), (0, .ref (ga G 11 0)), (1, .int x1), (2, .int x2)]) C dX11_window_53 rfl (Nat.le_of_ble_eq_true rfl) rfl ?_
          refine x_iconst (v := (-1)) C dX11_window_54 rfl ?_
          refine x_istore (lv' := [(4, .int (-1)), (3, .int 0), (0, .ref (ga G 11 0)), (1, .int x1), (2, .int x2)]) C dX11_window_55 (Nat.le_of_ble_eq_true rfl) rfl ?_
          refine x_sipush (v := 151) C dX11_window_57 rfl ?_
          refine x_istore (lv' := [(5, .int 151), (4, .int (-1)), (3, .int 0), (0, .ref (ga G 11 0)), (1, .int x1), (2, .int x2)]) C dX11_window_60 (Nat.le_of_ble_eq_true rfl) rfl ?_
          refine x_iconst (v := 0) C dX11_window_62 rfl ?_
          refine x_istore (lv' := [(6, .int 0), (5, .int 151), (4, .int (-1)), (3, .int 0), (0, .ref (ga G 11 0)), (1, .int x1), (2, .int x2)]) C dX11_window_63 (Nat.le_of_ble_eq_true rfl) rfl ?_
          obtain ⟨n9, h⟩ := h
          refine X_sub (lv' := [(0, .ref (ga G 11 0)), (1, .int x1), (2, .int x2), (3, .int 0), (4, .int (-1)), (5, .int 151), (6, .int 0)]) [4, 5, 6, 3, 2, 1, 0] rfl ?_
          have hb : ∀ (L : Mem × Int32 × Int32 × Int32 × Int32 → Prop) (s : Mem × Int32 × Int32 × Int32 × Int32), (∀ t, L t → X Γ G Qf 8 0 0 65 [(0, .ref (ga G 11 0)), (1, .int x1), (2, .int x2), (3, .int t.2.1), (4, .int t.2.2.1), (5, .int t.2.2.2.1), (6, .int t.2.2.2.2)] [] t.1) → bX11_window_65 x1 x2 Q L s.1 s.2.1 s.2.2.1 s.2.2.2.1 s.2.2.2.2 → X Γ G Qf 8 0 0 65 [(0, .ref (ga G 11 0)), (1, .int x1), (2, .int x2), (3, .int s.2.1), (4, .int s.2.2.1), (5, .int s.2.2.2.1), (6, .int s.2.2.2.2)] [] s.1 := fun L s hL h => wX11_window_65 hG C E hL s.1 s.2.1 s.2.2.1 s.2.2.2.1 s.2.2.2.2 h
          have w9 := lp_walk (P := fun s : Mem × Int32 × Int32 × Int32 × Int32 => X Γ G Qf 8 0 0 65 [(0, .ref (ga G 11 0)), (1, .int x1), (2, .int x2), (3, .int s.2.1), (4, .int s.2.2.1), (5, .int s.2.2.2.1), (6, .int s.2.2.2.2)] [] s.1) h hb
          dsimp only at w9
          exact w9
        · replace h := h.2 c13
          refine x_iconst (v := 0) C dX11_window_50 rfl ?_
          exact x_iret C E h (Nat.le_of_ble_eq_true rfl) (Nat.le_of_ble_eq_true rfl) dX11_window_51
      · replace h := h.2 c10
        refine x_iconst (v := 1) C dX11_window_37 rfl ?_
        refine x_goto (tgt := 42) C dX11_window_38 (by decide) ?_
        refine x_iconst (v := 2) C dX11_window_42 rfl ?_
        refine x_iconst (v := 1) C dX11_window_43 rfl ?_
        refine x_calli (rest := []) C sv_X11_179 ob11 z11 (kX11_bad hG _ _ _ _ h) rfl rfl (Nat.le_of_ble_eq_true rfl) ⟨Nat.le_of_ble_eq_true rfl, Nat.le_of_ble_eq_true rfl⟩ rfl rfl ⟨Nat.le_of_ble_eq_true rfl, Nat.le_of_ble_eq_true rfl⟩ dX11_window_44 (fun r14 M15 h => ?_)
        refine x_if_eq (tgt := 52) C dX11_window_47 (by decide) (fun c16 => ?_) (fun c16 => ?_)
        · replace h := h.1 c16
          refine x_iconst (v := 0) C dX11_window_52 rfl ?_
          refine x_istore_n (lv' := [(3, .int 0), (0, .ref (ga G 11 0)), (1, .int x1), (2, .int x2)]) C dX11_window_53 rfl (Nat.le_of_ble_eq_true rfl) rfl ?_
          refine x_iconst (v := (-1)) C dX11_window_54 rfl ?_
          refine x_istore (lv' := [(4, .int (-1)), (3, .int 0), (0, .ref (ga G 11 0)), (1, .int x1), (2, .int x2)]) C dX11_window_55 (Nat.le_of_ble_eq_true rfl) rfl ?_
          refine x_sipush (v := 151) C dX11_window_57 rfl ?_
          refine x_istore (lv' := [(5, .int 151), (4, .int (-1)), (3, .int 0), (0, .ref (ga G 11 0)), (1, .int x1), (2, .int x2)]) C dX11_window_60 (Nat.le_of_ble_eq_true rfl) rfl ?_
          refine x_iconst (v := 0) C dX11_window_62 rfl ?_
          refine x_istore (lv' := [(6, .int 0), (5, .int 151), (4, .int (-1)), (3, .int 0), (0, .ref (ga G 11 0)), (1, .int x1), (2, .int x2)]) C dX11_window_63 (Nat.le_of_ble_eq_true rfl) rfl ?_
          obtain ⟨n9, h⟩ := h
          refine X_sub (lv' := [(0, .ref (ga G 11 0)), (1, .int x1), (2, .int x2), (3, .int 0), (4, .int (-1)), (5, .int 151), (6, .int 0)]) [4, 5, 6, 3, 2, 1, 0] rfl ?_
          have hb : ∀ (L : Mem × Int32 × Int32 × Int32 × Int32 → Prop) (s : Mem × Int32 × Int32 × Int32 × Int32), (∀ t, L t → X Γ G Qf 8 0 0 65 [(0, .ref (ga G 11 0)), (1, .int x1), (2, .int x2), (3, .int t.2.1), (4, .int t.2.2.1), (5, .int t.2.2.2.1), (6, .int t.2.2.2.2)] [] t.1) → bX11_window_65 x1 x2 Q L s.1 s.2.1 s.2.2.1 s.2.2.2.1 s.2.2.2.2 → X Γ G Qf 8 0 0 65 [(0, .ref (ga G 11 0)), (1, .int x1), (2, .int x2), (3, .int s.2.1), (4, .int s.2.2.1), (5, .int s.2.2.2.1), (6, .int s.2.2.2.2)] [] s.1 := fun L s hL h => wX11_window_65 hG C E hL s.1 s.2.1 s.2.2.1 s.2.2.2.1 s.2.2.2.2 h
          have w9 := lp_walk (P := fun s : Mem × Int32 × Int32 × Int32 × Int32 => X Γ G Qf 8 0 0 65 [(0, .ref (ga G 11 0)), (1, .int x1), (2, .int x2), (3, .int s.2.1), (4, .int s.2.2.1), (5, .int s.2.2.2.1), (6, .int s.2.2.2.2)] [] s.1) h hb
          dsimp only at w9
          exact w9
        · replace h := h.2 c16
          refine x_iconst (v := 0) C dX11_window_50 rfl ?_
          exact x_iret C E h (Nat.le_of_ble_eq_true rfl) (Nat.le_of_ble_eq_true rfl) dX11_window_51
  · replace h := h.2 c4
    refine x_iconst (v := 1) C dX11_window_14 rfl ?_
    refine x_goto (tgt := 19) C dX11_window_15 (by decide) ?_
    refine x_iconst (v := 1) C dX11_window_19 rfl ?_
    refine x_iconst (v := 0) C dX11_window_20 rfl ?_
    refine x_calli (rest := []) C sv_X11_179 ob11 z11 (kX11_bad hG _ _ _ _ h) rfl rfl (Nat.le_of_ble_eq_true rfl) ⟨Nat.le_of_ble_eq_true rfl, Nat.le_of_ble_eq_true rfl⟩ rfl rfl ⟨Nat.le_of_ble_eq_true rfl, Nat.le_of_ble_eq_true rfl⟩ dX11_window_21 (fun r17 M18 h => ?_)
    refine x_if_ne (tgt := 50) C dX11_window_24 (by decide) (fun c19 => ?_) (fun c19 => ?_)
    · replace h := h.1 c19
      refine x_iconst (v := 0) C dX11_window_50 rfl ?_
      exact x_iret C E h (Nat.le_of_ble_eq_true rfl) (Nat.le_of_ble_eq_true rfl) dX11_window_51
    · replace h := h.2 c19
      refine x_aload_n C dX11_window_27 0 rfl ?_
      refine x_iload_n C dX11_window_28 2 rfl ?_
      refine x_iconst (v := 0) C dX11_window_29 rfl ?_
      refine x_iconst (v := 1) C dX11_window_30 rfl ?_
      refine x_scalli (rest := [.ref (ga G 11 0)]) C ss_X11_172 (kX11_in hG _ _ _ _ h) rfl rfl (Nat.le_of_ble_eq_true rfl) ⟨Nat.le_of_ble_eq_true rfl, Nat.le_of_ble_eq_true rfl⟩ rfl rfl ⟨Nat.le_of_ble_eq_true rfl, Nat.le_of_ble_eq_true rfl⟩ dX11_window_31 (fun r20 M21 h => ?_)
      refine x_if_ne (tgt := 41) C dX11_window_34 (by decide) (fun c22 => ?_) (fun c22 => ?_)
      · replace h := h.1 c22
        refine x_iconst (v := 0) C dX11_window_41 rfl ?_
        refine x_iconst (v := 2) C dX11_window_42 rfl ?_
        refine x_iconst (v := 1) C dX11_window_43 rfl ?_
        refine x_calli (rest := []) C sv_X11_179 ob11 z11 (kX11_bad hG _ _ _ _ h) rfl rfl (Nat.le_of_ble_eq_true rfl) ⟨Nat.le_of_ble_eq_true rfl, Nat.le_of_ble_eq_true rfl⟩ rfl rfl ⟨Nat.le_of_ble_eq_true rfl, Nat.le_of_ble_eq_true rfl⟩ dX11_window_44 (fun r23 M24 h => ?_)
        refine x_if_eq (tgt := 52) C dX11_window_47 (by decide) (fun c25 => ?_) (fun c25 => ?_)
        · replace h := h.1 c25
          refine x_iconst (v := 0) C dX11_window_52 rfl ?_
          refine x_istore_n (lv' := [(3, .int 0), (0, .ref (ga G 11 0)), (1, .int x1), (2, .int x2)]) C dX11_window_53 rfl (Nat.le_of_ble_eq_true rfl) rfl ?_
          refine x_iconst (v := (-1)) C dX11_window_54 rfl ?_
          refine x_istore (lv' := [(4, .int (-1)), (3, .int 0), (0, .ref (ga G 11 0)), (1, .int x1), (2, .int x2)]) C dX11_window_55 (Nat.le_of_ble_eq_true rfl) rfl ?_
          refine x_sipush (v := 151) C dX11_window_57 rfl ?_
          refine x_istore (lv' := [(5, .int 151), (4, .int (-1)), (3, .int 0), (0, .ref (ga G 11 0)), (1, .int x1), (2, .int x2)]) C dX11_window_60 (Nat.le_of_ble_eq_true rfl) rfl ?_
          refine x_iconst (v := 0) C dX11_window_62 rfl ?_
          refine x_istore (lv' := [(6, .int 0), (5, .int 151), (4, .int (-1)), (3, .int 0), (0, .ref (ga G 11 0)), (1, .int x1), (2, .int x2)]) C dX11_window_63 (Nat.le_of_ble_eq_true rfl) rfl ?_
          obtain ⟨n9, h⟩ := h
          refine X_sub (lv' := [(0, .ref (ga G 11 0)), (1, .int x1), (2, .int x2), (3, .int 0), (4, .int (-1)), (5, .int 151), (6, .int 0)]) [4, 5, 6, 3, 2, 1, 0] rfl ?_
          have hb : ∀ (L : Mem × Int32 × Int32 × Int32 × Int32 → Prop) (s : Mem × Int32 × Int32 × Int32 × Int32), (∀ t, L t → X Γ G Qf 8 0 0 65 [(0, .ref (ga G 11 0)), (1, .int x1), (2, .int x2), (3, .int t.2.1), (4, .int t.2.2.1), (5, .int t.2.2.2.1), (6, .int t.2.2.2.2)] [] t.1) → bX11_window_65 x1 x2 Q L s.1 s.2.1 s.2.2.1 s.2.2.2.1 s.2.2.2.2 → X Γ G Qf 8 0 0 65 [(0, .ref (ga G 11 0)), (1, .int x1), (2, .int x2), (3, .int s.2.1), (4, .int s.2.2.1), (5, .int s.2.2.2.1), (6, .int s.2.2.2.2)] [] s.1 := fun L s hL h => wX11_window_65 hG C E hL s.1 s.2.1 s.2.2.1 s.2.2.2.1 s.2.2.2.2 h
          have w9 := lp_walk (P := fun s : Mem × Int32 × Int32 × Int32 × Int32 => X Γ G Qf 8 0 0 65 [(0, .ref (ga G 11 0)), (1, .int x1), (2, .int x2), (3, .int s.2.1), (4, .int s.2.2.1), (5, .int s.2.2.2.1), (6, .int s.2.2.2.2)] [] s.1) h hb
          dsimp only at w9
          exact w9
        · replace h := h.2 c25
          refine x_iconst (v := 0) C dX11_window_50 rfl ?_
          exact x_iret C E h (Nat.le_of_ble_eq_true rfl) (Nat.le_of_ble_eq_true rfl) dX11_window_51
      · replace h := h.2 c22
        refine x_iconst (v := 1) C dX11_window_37 rfl ?_
        refine x_goto (tgt := 42) C dX11_window_38 (by decide) ?_
        refine x_iconst (v := 2) C dX11_window_42 rfl ?_
        refine x_iconst (v := 1) C dX11_window_43 rfl ?_
        refine x_calli (rest := []) C sv_X11_179 ob11 z11 (kX11_bad hG _ _ _ _ h) rfl rfl (Nat.le_of_ble_eq_true rfl) ⟨Nat.le_of_ble_eq_true rfl, Nat.le_of_ble_eq_true rfl⟩ rfl rfl ⟨Nat.le_of_ble_eq_true rfl, Nat.le_of_ble_eq_true rfl⟩ dX11_window_44 (fun r26 M27 h => ?_)
        refine x_if_eq (tgt := 52) C dX11_window_47 (by decide) (fun c28 => ?_) (fun c28 => ?_)
        · replace h := h.1 c28
          refine x_iconst (v := 0) C dX11_window_52 rfl ?_
          refine x_istore_n (lv' := [(3, .int 0), (0, .ref (ga G 11 0)), (1, .int x1), (2, .int x2)]) C dX11_window_53 rfl (Nat.le_of_ble_eq_true rfl) rfl ?_
          refine x_iconst (v := (-1)) C dX11_window_54 rfl ?_
          refine x_istore (lv' := [(4, .int (-1)), (3, .int 0), (0, .ref (ga G 11 0)), (1, .int x1), (2, .int x2)]) C dX11_window_55 (Nat.le_of_ble_eq_true rfl) rfl ?_
          refine x_sipush (v := 151) C dX11_window_57 rfl ?_
          refine x_istore (lv' := [(5, .int 151), (4, .int (-1)), (3, .int 0), (0, .ref (ga G 11 0)), (1, .int x1), (2, .int x2)]) C dX11_window_60 (Nat.le_of_ble_eq_true rfl) rfl ?_
          refine x_iconst (v := 0) C dX11_window_62 rfl ?_
          refine x_istore (lv' := [(6, .int 0), (5, .int 151), (4, .int (-1)), (3, .int 0), (0, .ref (ga G 11 0)), (1, .int x1), (2, .int x2)]) C dX11_window_63 (Nat.le_of_ble_eq_true rfl) rfl ?_
          obtain ⟨n9, h⟩ := h
          refine X_sub (lv' := [(0, .ref (ga G 11 0)), (1, .int x1), (2, .int x2), (3, .int 0), (4, .int (-1)), (5, .int 151), (6, .int 0)]) [4, 5, 6, 3, 2, 1, 0] rfl ?_
          have hb : ∀ (L : Mem × Int32 × Int32 × Int32 × Int32 → Prop) (s : Mem × Int32 × Int32 × Int32 × Int32), (∀ t, L t → X Γ G Qf 8 0 0 65 [(0, .ref (ga G 11 0)), (1, .int x1), (2, .int x2), (3, .int t.2.1), (4, .int t.2.2.1), (5, .int t.2.2.2.1), (6, .int t.2.2.2.2)] [] t.1) → bX11_window_65 x1 x2 Q L s.1 s.2.1 s.2.2.1 s.2.2.2.1 s.2.2.2.2 → X Γ G Qf 8 0 0 65 [(0, .ref (ga G 11 0)), (1, .int x1), (2, .int x2), (3, .int s.2.1), (4, .int s.2.2.1), (5, .int s.2.2.2.1), (6, .int s.2.2.2.2)] [] s.1 := fun L s hL h => wX11_window_65 hG C E hL s.1 s.2.1 s.2.2.1 s.2.2.2.1 s.2.2.2.2 h
          have w9 := lp_walk (P := fun s : Mem × Int32 × Int32 × Int32 × Int32 => X Γ G Qf 8 0 0 65 [(0, .ref (ga G 11 0)), (1, .int x1), (2, .int x2), (3, .int s.2.1), (4, .int s.2.2.1), (5, .int s.2.2.2.1), (6, .int s.2.2.2.2)] [] s.1) h hb
          dsimp only at w9
          exact w9
        · replace h := h.2 c28
          refine x_iconst (v := 0) C dX11_window_50 rfl ?_
          exact x_iret C E h (Nat.le_of_ble_eq_true rfl) (Nat.le_of_ble_eq_true rfl) dX11_window_51
def rmX11_answers : Room := { frames := 6, cells := 0, slots := 0, locals := 134 }
def pX11_answers (M : Mem) (Q : Int32 → Mem → Prop) : Prop :=
  ∀ M1 : Mem, M1 = up1 M 1200 0 0 0 → pX11_answersAll M1 (fun M3 => Q (M3.1 1240 0 0) M3)
set_option maxRecDepth 100000 in
set_option maxHeartbeats 400000 in
theorem kX11_answers {l : Launch} {G : Gm} (hG : Gd G) (M : Mem)  {Q : Int32 → Mem → Prop} (h : pX11_answers M Q) : Cti l G yX11_answers cX11_answers 1 .int rmX11_answers [.ref (ga G 11 0)] M Q := by
  refine cti_of (own := RX11) (by decide +kernel) rfl (Nat.le_of_ble_eq_true rfl) hG (fun Γ Qf hl C E => ?_)
  subst hl
  show X Γ G Qf 1 0 0 0 [(0, .ref (ga G 11 0))] [] M
  unfold pX11_answers at h
  refine x_aload_n C dX11_answers_0 0 rfl ?_
  refine x_iconst (v := 0) C dX11_answers_1 rfl ?_
  refine pf_11_0 C q143 z11 dX11_answers_2 ?_
  refine X_nameM (fun M1 eM1 => ?_)
  replace h := h M1 eM1
  refine x_aload_n C dX11_answers_5 0 rfl ?_
  refine x_callv (rest := []) C sv_X11_442 ob11 z11 (kX11_answersAll hG _ h) rfl rfl (Nat.le_of_ble_eq_true rfl) ⟨Nat.le_of_ble_eq_true rfl, Nat.le_of_ble_eq_true rfl⟩ rfl rfl ⟨Nat.le_of_ble_eq_true rfl, Nat.le_of_ble_eq_true rfl⟩ dX11_answers_6 (fun M3 h => ?_)
  refine x_aload_n C dX11_answers_9 0 rfl ?_
  refine gf_11_40 C q184 z11 dX11_answers_10 ?_
  exact x_iret C E h (Nat.le_of_ble_eq_true rfl) (Nat.le_of_ble_eq_true rfl) dX11_answers_13
def rmX11_answer : Room := { frames := 6, cells := 0, slots := 0, locals := 134 }
def pX11_answer (M : Mem) (x1 : Int32) (x2 : Int32) (Q : Int32 → Mem → Prop) : Prop :=
  ∀ M1 : Mem, M1 = up1 M 1200 0 0 0 → pX11_answersAll M1 (fun M3 => pX11_in M3 x1 0 ((M3.1 1240 0 0) - 1) (fun r4 M5 => ((¬ r4 = 0 → pX11_bad M5 0 1 0 (fun r7 M8 => ((¬ r7 = 0 → Q 0 M8) ∧ (r7 = 0 → pX11_in M8 x2 0 1 (fun r10 M11 => ((¬ r10 = 0 → pX11_bad M11 0 2 1 (fun r13 M14 => ((r13 = 0 → ((¬ x2 = 0 → vp_in x1 64 ∧ Q (M14.1 1242 0 (tn x1)) M14) ∧ (x2 = 0 → vp_in x1 64 ∧ Q (M14.1 1241 0 (tn x1)) M14))) ∧ (¬ r13 = 0 → Q 0 M14)))) ∧ (r10 = 0 → pX11_bad M11 1 2 1 (fun r19 M20 => ((r19 = 0 → ((¬ x2 = 0 → vp_in x1 64 ∧ Q (M20.1 1242 0 (tn x1)) M20) ∧ (x2 = 0 → vp_in x1 64 ∧ Q (M20.1 1241 0 (tn x1)) M20))) ∧ (¬ r19 = 0 → Q 0 M20)))))))))) ∧ (r4 = 0 → pX11_bad M5 1 1 0 (fun r25 M26 => ((¬ r25 = 0 → Q 0 M26) ∧ (r25 = 0 → pX11_in M26 x2 0 1 (fun r28 M29 => ((¬ r28 = 0 → pX11_bad M29 0 2 1 (fun r31 M32 => ((r31 = 0 → ((¬ x2 = 0 → vp_in x1 64 ∧ Q (M32.1 1242 0 (tn x1)) M32) ∧ (x2 = 0 → vp_in x1 64 ∧ Q (M32.1 1241 0 (tn x1)) M32))) ∧ (¬ r31 = 0 → Q 0 M32)))) ∧ (r28 = 0 → pX11_bad M29 1 2 1 (fun r37 M38 => ((r37 = 0 → ((¬ x2 = 0 → vp_in x1 64 ∧ Q (M38.1 1242 0 (tn x1)) M38) ∧ (x2 = 0 → vp_in x1 64 ∧ Q (M38.1 1241 0 (tn x1)) M38))) ∧ (¬ r37 = 0 → Q 0 M38)))))))))))))
set_option maxRecDepth 100000 in
set_option maxHeartbeats 400000 in
theorem kX11_answer {l : Launch} {G : Gm} (hG : Gd G) (M : Mem) (x1 : Int32) (x2 : Int32) {Q : Int32 → Mem → Prop} (h : pX11_answer M x1 x2 Q) : Cti l G yX11_answer cX11_answer 3 .int rmX11_answer [.ref (ga G 11 0), .int x1, .int x2] M Q := by
  refine cti_of (own := RX11) (by decide +kernel) rfl (Nat.le_of_ble_eq_true rfl) hG (fun Γ Qf hl C E => ?_)
  subst hl
  show X Γ G Qf 3 0 0 0 [(0, .ref (ga G 11 0)), (1, .int x1), (2, .int x2)] [] M
  unfold pX11_answer at h
  refine x_aload_n C dX11_answer_0 0 rfl ?_
  refine x_iconst (v := 0) C dX11_answer_1 rfl ?_
  refine pf_11_0 C q143 z11 dX11_answer_2 ?_
  refine X_nameM (fun M1 eM1 => ?_)
  replace h := h M1 eM1
  refine x_aload_n C dX11_answer_5 0 rfl ?_
  refine x_callv (rest := []) C sv_X11_442 ob11 z11 (kX11_answersAll hG _ h) rfl rfl (Nat.le_of_ble_eq_true rfl) ⟨Nat.le_of_ble_eq_true rfl, Nat.le_of_ble_eq_true rfl⟩ rfl rfl ⟨Nat.le_of_ble_eq_true rfl, Nat.le_of_ble_eq_true rfl⟩ dX11_answer_6 (fun M3 h => ?_)
  refine x_aload_n C dX11_answer_9 0 rfl ?_
  refine x_iload_n C dX11_answer_10 1 rfl ?_
  refine x_iconst (v := 0) C dX11_answer_11 rfl ?_
  refine x_aload_n C dX11_answer_12 0 rfl ?_
  refine gf_11_40 C q184 z11 dX11_answer_13 ?_
  refine x_iconst (v := 1) C dX11_answer_16 rfl ?_
  refine x_isub C dX11_answer_17 ?_
  refine x_scalli (rest := [.ref (ga G 11 0)]) C ss_X11_172 (kX11_in hG _ _ _ _ h) rfl rfl (Nat.le_of_ble_eq_true rfl) ⟨Nat.le_of_ble_eq_true rfl, Nat.le_of_ble_eq_true rfl⟩ rfl rfl ⟨Nat.le_of_ble_eq_true rfl, Nat.le_of_ble_eq_true rfl⟩ dX11_answer_18 (fun r4 M5 h => ?_)
  refine x_if_ne (tgt := 28) C dX11_answer_21 (by decide) (fun c6 => ?_) (fun c6 => ?_)
  · replace h := h.1 c6
    refine x_iconst (v := 0) C dX11_answer_28 rfl ?_
    refine x_iconst (v := 1) C dX11_answer_29 rfl ?_
    refine x_iconst (v := 0) C dX11_answer_30 rfl ?_
    refine x_calli (rest := []) C sv_X11_179 ob11 z11 (kX11_bad hG _ _ _ _ h) rfl rfl (Nat.le_of_ble_eq_true rfl) ⟨Nat.le_of_ble_eq_true rfl, Nat.le_of_ble_eq_true rfl⟩ rfl rfl ⟨Nat.le_of_ble_eq_true rfl, Nat.le_of_ble_eq_true rfl⟩ dX11_answer_31 (fun r7 M8 h => ?_)
    refine x_if_ne (tgt := 60) C dX11_answer_34 (by decide) (fun c9 => ?_) (fun c9 => ?_)
    · replace h := h.1 c9
      refine x_iconst (v := 0) C dX11_answer_60 rfl ?_
      exact x_iret C E h (Nat.le_of_ble_eq_true rfl) (Nat.le_of_ble_eq_true rfl) dX11_answer_61
    · replace h := h.2 c9
      refine x_aload_n C dX11_answer_37 0 rfl ?_
      refine x_iload_n C dX11_answer_38 2 rfl ?_
      refine x_iconst (v := 0) C dX11_answer_39 rfl ?_
      refine x_iconst (v := 1) C dX11_answer_40 rfl ?_
      refine x_scalli (rest := [.ref (ga G 11 0)]) C ss_X11_172 (kX11_in hG _ _ _ _ h) rfl rfl (Nat.le_of_ble_eq_true rfl) ⟨Nat.le_of_ble_eq_true rfl, Nat.le_of_ble_eq_true rfl⟩ rfl rfl ⟨Nat.le_of_ble_eq_true rfl, Nat.le_of_ble_eq_true rfl⟩ dX11_answer_41 (fun r10 M11 h => ?_)
      refine x_if_ne (tgt := 51) C dX11_answer_44 (by decide) (fun c12 => ?_) (fun c12 => ?_)
      · replace h := h.1 c12
        refine x_iconst (v := 0) C dX11_answer_51 rfl ?_
        refine x_iconst (v := 2) C dX11_answer_52 rfl ?_
        refine x_iconst (v := 1) C dX11_answer_53 rfl ?_
        refine x_calli (rest := []) C sv_X11_179 ob11 z11 (kX11_bad hG _ _ _ _ h) rfl rfl (Nat.le_of_ble_eq_true rfl) ⟨Nat.le_of_ble_eq_true rfl, Nat.le_of_ble_eq_true rfl⟩ rfl rfl ⟨Nat.le_of_ble_eq_true rfl, Nat.le_of_ble_eq_true rfl⟩ dX11_answer_54 (fun r13 M14 h => ?_)
        refine x_if_eq (tgt := 62) C dX11_answer_57 (by decide) (fun c15 => ?_) (fun c15 => ?_)
        · replace h := h.1 c15
          refine x_iload_n C dX11_answer_62 2 rfl ?_
          refine x_if_ne (tgt := 75) C dX11_answer_63 (by decide) (fun c16 => ?_) (fun c16 => ?_)
          · replace h := h.1 c16
            refine x_aload_n C dX11_answer_75 0 rfl ?_
            refine gf_11_42 C q185 z11 dX11_answer_76 ?_
            refine x_iload_n C dX11_answer_79 1 rfl ?_
            obtain ⟨f17, h⟩ := h
            refine al_1242 C z1242 f17 dX11_answer_80 ?_
            exact x_iret C E h (Nat.le_of_ble_eq_true rfl) (Nat.le_of_ble_eq_true rfl) dX11_answer_81
          · replace h := h.2 c16
            refine x_aload_n C dX11_answer_66 0 rfl ?_
            refine gf_11_41 C q186 z11 dX11_answer_67 ?_
            refine x_iload_n C dX11_answer_70 1 rfl ?_
            obtain ⟨f18, h⟩ := h
            refine al_1241 C z1241 f18 dX11_answer_71 ?_
            refine x_goto (tgt := 81) C dX11_answer_72 (by decide) ?_
            exact x_iret C E h (Nat.le_of_ble_eq_true rfl) (Nat.le_of_ble_eq_true rfl) dX11_answer_81
        · replace h := h.2 c15
          refine x_iconst (v := 0) C dX11_answer_60 rfl ?_
          exact x_iret C E h (Nat.le_of_ble_eq_true rfl) (Nat.le_of_ble_eq_true rfl) dX11_answer_61
      · replace h := h.2 c12
        refine x_iconst (v := 1) C dX11_answer_47 rfl ?_
        refine x_goto (tgt := 52) C dX11_answer_48 (by decide) ?_
        refine x_iconst (v := 2) C dX11_answer_52 rfl ?_
        refine x_iconst (v := 1) C dX11_answer_53 rfl ?_
        refine x_calli (rest := []) C sv_X11_179 ob11 z11 (kX11_bad hG _ _ _ _ h) rfl rfl (Nat.le_of_ble_eq_true rfl) ⟨Nat.le_of_ble_eq_true rfl, Nat.le_of_ble_eq_true rfl⟩ rfl rfl ⟨Nat.le_of_ble_eq_true rfl, Nat.le_of_ble_eq_true rfl⟩ dX11_answer_54 (fun r19 M20 h => ?_)
        refine x_if_eq (tgt := 62) C dX11_answer_57 (by decide) (fun c21 => ?_) (fun c21 => ?_)
        · replace h := h.1 c21
          refine x_iload_n C dX11_answer_62 2 rfl ?_
          refine x_if_ne (tgt := 75) C dX11_answer_63 (by decide) (fun c22 => ?_) (fun c22 => ?_)
          · replace h := h.1 c22
            refine x_aload_n C dX11_answer_75 0 rfl ?_
            refine gf_11_42 C q185 z11 dX11_answer_76 ?_
            refine x_iload_n C dX11_answer_79 1 rfl ?_
            obtain ⟨f23, h⟩ := h
            refine al_1242 C z1242 f23 dX11_answer_80 ?_
            exact x_iret C E h (Nat.le_of_ble_eq_true rfl) (Nat.le_of_ble_eq_true rfl) dX11_answer_81
          · replace h := h.2 c22
            refine x_aload_n C dX11_answer_66 0 rfl ?_
            refine gf_11_41 C q186 z11 dX11_answer_67 ?_
            refine x_iload_n C dX11_answer_70 1 rfl ?_
            obtain ⟨f24, h⟩ := h
            refine al_1241 C z1241 f24 dX11_answer_71 ?_
            refine x_goto (tgt := 81) C dX11_answer_72 (by decide) ?_
            exact x_iret C E h (Nat.le_of_ble_eq_true rfl) (Nat.le_of_ble_eq_true rfl) dX11_answer_81
        · replace h := h.2 c21
          refine x_iconst (v := 0) C dX11_answer_60 rfl ?_
          exact x_iret C E h (Nat.le_of_ble_eq_true rfl) (Nat.le_of_ble_eq_true rfl) dX11_answer_61
  · replace h := h.2 c6
    refine x_iconst (v := 1) C dX11_answer_24 rfl ?_
    refine x_goto (tgt := 29) C dX11_answer_25 (by decide) ?_
    refine x_iconst (v := 1) C dX11_answer_29 rfl ?_
    refine x_iconst (v := 0) C dX11_answer_30 rfl ?_
    refine x_calli (rest := []) C sv_X11_179 ob11 z11 (kX11_bad hG _ _ _ _ h) rfl rfl (Nat.le_of_ble_eq_true rfl) ⟨Nat.le_of_ble_eq_true rfl, Nat.le_of_ble_eq_true rfl⟩ rfl rfl ⟨Nat.le_of_ble_eq_true rfl, Nat.le_of_ble_eq_true rfl⟩ dX11_answer_31 (fun r25 M26 h => ?_)
    refine x_if_ne (tgt := 60) C dX11_answer_34 (by decide) (fun c27 => ?_) (fun c27 => ?_)
    · replace h := h.1 c27
      refine x_iconst (v := 0) C dX11_answer_60 rfl ?_
      exact x_iret C E h (Nat.le_of_ble_eq_true rfl) (Nat.le_of_ble_eq_true rfl) dX11_answer_61
    · replace h := h.2 c27
      refine x_aload_n C dX11_answer_37 0 rfl ?_
      refine x_iload_n C dX11_answer_38 2 rfl ?_
      refine x_iconst (v := 0) C dX11_answer_39 rfl ?_
      refine x_iconst (v := 1) C dX11_answer_40 rfl ?_
      refine x_scalli (rest := [.ref (ga G 11 0)]) C ss_X11_172 (kX11_in hG _ _ _ _ h) rfl rfl (Nat.le_of_ble_eq_true rfl) ⟨Nat.le_of_ble_eq_true rfl, Nat.le_of_ble_eq_true rfl⟩ rfl rfl ⟨Nat.le_of_ble_eq_true rfl, Nat.le_of_ble_eq_true rfl⟩ dX11_answer_41 (fun r28 M29 h => ?_)
      refine x_if_ne (tgt := 51) C dX11_answer_44 (by decide) (fun c30 => ?_) (fun c30 => ?_)
      · replace h := h.1 c30
        refine x_iconst (v := 0) C dX11_answer_51 rfl ?_
        refine x_iconst (v := 2) C dX11_answer_52 rfl ?_
        refine x_iconst (v := 1) C dX11_answer_53 rfl ?_
        refine x_calli (rest := []) C sv_X11_179 ob11 z11 (kX11_bad hG _ _ _ _ h) rfl rfl (Nat.le_of_ble_eq_true rfl) ⟨Nat.le_of_ble_eq_true rfl, Nat.le_of_ble_eq_true rfl⟩ rfl rfl ⟨Nat.le_of_ble_eq_true rfl, Nat.le_of_ble_eq_true rfl⟩ dX11_answer_54 (fun r31 M32 h => ?_)
        refine x_if_eq (tgt := 62) C dX11_answer_57 (by decide) (fun c33 => ?_) (fun c33 => ?_)
        · replace h := h.1 c33
          refine x_iload_n C dX11_answer_62 2 rfl ?_
          refine x_if_ne (tgt := 75) C dX11_answer_63 (by decide) (fun c34 => ?_) (fun c34 => ?_)
          · replace h := h.1 c34
            refine x_aload_n C dX11_answer_75 0 rfl ?_
            refine gf_11_42 C q185 z11 dX11_answer_76 ?_
            refine x_iload_n C dX11_answer_79 1 rfl ?_
            obtain ⟨f35, h⟩ := h
            refine al_1242 C z1242 f35 dX11_answer_80 ?_
            exact x_iret C E h (Nat.le_of_ble_eq_true rfl) (Nat.le_of_ble_eq_true rfl) dX11_answer_81
          · replace h := h.2 c34
            refine x_aload_n C dX11_answer_66 0 rfl ?_
            refine gf_11_41 C q186 z11 dX11_answer_67 ?_
            refine x_iload_n C dX11_answer_70 1 rfl ?_
            obtain ⟨f36, h⟩ := h
            refine al_1241 C z1241 f36 dX11_answer_71 ?_
            refine x_goto (tgt := 81) C dX11_answer_72 (by decide) ?_
            exact x_iret C E h (Nat.le_of_ble_eq_true rfl) (Nat.le_of_ble_eq_true rfl) dX11_answer_81
        · replace h := h.2 c33
          refine x_iconst (v := 0) C dX11_answer_60 rfl ?_
          exact x_iret C E h (Nat.le_of_ble_eq_true rfl) (Nat.le_of_ble_eq_true rfl) dX11_answer_61
      · replace h := h.2 c30
        refine x_iconst (v := 1) C dX11_answer_47 rfl ?_
        refine x_goto (tgt := 52) C dX11_answer_48 (by decide) ?_
        refine x_iconst (v := 2) C dX11_answer_52 rfl ?_
        refine x_iconst (v := 1) C dX11_answer_53 rfl ?_
        refine x_calli (rest := []) C sv_X11_179 ob11 z11 (kX11_bad hG _ _ _ _ h) rfl rfl (Nat.le_of_ble_eq_true rfl) ⟨Nat.le_of_ble_eq_true rfl, Nat.le_of_ble_eq_true rfl⟩ rfl rfl ⟨Nat.le_of_ble_eq_true rfl, Nat.le_of_ble_eq_true rfl⟩ dX11_answer_54 (fun r37 M38 h => ?_)
        refine x_if_eq (tgt := 62) C dX11_answer_57 (by decide) (fun c39 => ?_) (fun c39 => ?_)
        · replace h := h.1 c39
          refine x_iload_n C dX11_answer_62 2 rfl ?_
          refine x_if_ne (tgt := 75) C dX11_answer_63 (by decide) (fun c40 => ?_) (fun c40 => ?_)
          · replace h := h.1 c40
            refine x_aload_n C dX11_answer_75 0 rfl ?_
            refine gf_11_42 C q185 z11 dX11_answer_76 ?_
            refine x_iload_n C dX11_answer_79 1 rfl ?_
            obtain ⟨f41, h⟩ := h
            refine al_1242 C z1242 f41 dX11_answer_80 ?_
            exact x_iret C E h (Nat.le_of_ble_eq_true rfl) (Nat.le_of_ble_eq_true rfl) dX11_answer_81
          · replace h := h.2 c40
            refine x_aload_n C dX11_answer_66 0 rfl ?_
            refine gf_11_41 C q186 z11 dX11_answer_67 ?_
            refine x_iload_n C dX11_answer_70 1 rfl ?_
            obtain ⟨f42, h⟩ := h
            refine al_1241 C z1241 f42 dX11_answer_71 ?_
            refine x_goto (tgt := 81) C dX11_answer_72 (by decide) ?_
            exact x_iret C E h (Nat.le_of_ble_eq_true rfl) (Nat.le_of_ble_eq_true rfl) dX11_answer_81
        · replace h := h.2 c39
          refine x_iconst (v := 0) C dX11_answer_60 rfl ?_
          exact x_iret C E h (Nat.le_of_ble_eq_true rfl) (Nat.le_of_ble_eq_true rfl) dX11_answer_61
def rmX11_place : Room := { frames := 6, cells := 0, slots := 0, locals := 134 }
def bX11_place_35 (x1 : Int32) (Q : Int32 → Mem → Prop) (L35 : Mem × Int32 → Prop) (M : Mem) (y2 : Int32) : Prop :=
  (((M.1 1240 0 0) ≤ y2 → Q (-1) M) ∧ (¬ (M.1 1240 0 0) ≤ y2 → vp_in y2 64 ∧ ((¬ (M.1 1241 0 (tn y2)) = x1 → ∀ v18 : Int32, v18 = y2 + 1 → L35 (M, v18)) ∧ ((M.1 1241 0 (tn y2)) = x1 → Q y2 M))))
def pX11_place (M : Mem) (x1 : Int32) (Q : Int32 → Mem → Prop) : Prop :=
  ∀ M1 : Mem, M1 = up1 M 1200 0 0 0 → pX11_isDocument M1 x1 (fun r2 M3 => ((¬ r2 = 0 → pX11_bad M3 0 1 0 (fun r5 M6 => ((r5 = 0 → pX11_answersAll M6 (fun M9 => ∃ n : Nat, lp (fun L s => bX11_place_35 x1 Q L s.1 s.2) n (M9, 0))) ∧ (¬ r5 = 0 → Q 0 M6)))) ∧ (r2 = 0 → pX11_bad M3 1 1 0 (fun r10 M11 => ((r10 = 0 → pX11_answersAll M11 (fun M14 => ∃ n : Nat, lp (fun L s => bX11_place_35 x1 Q L s.1 s.2) n (M14, 0))) ∧ (¬ r10 = 0 → Q 0 M11))))))
set_option maxRecDepth 100000 in
set_option maxHeartbeats 400000 in
theorem wX11_place_35 {Γ : Gam} {G : Gm} {Qf : State → Prop} (hG : Gd G) (C : Cx Γ G cX11_place 3 RX11 (some .int) rmX11_place) {x1 : Int32} {Q : Int32 → Mem → Prop} (E : EndI Γ G Qf rmX11_place Q) {L35 : Mem × Int32 → Prop} (hL35 : ∀ s, L35 s → X Γ G Qf 3 0 0 35 [(0, .ref (ga G 11 0)), (1, .int x1), (2, .int s.2)] [] s.1) (M : Mem) (y2 : Int32) (h : bX11_place_35 x1 Q L35 M y2) : X Γ G Qf 3 0 0 35 [(0, .ref (ga G 11 0)), (1, .int x1), (2, .int y2)] [] M := by
  unfold bX11_place_35 at h
  refine x_iload_n C dX11_place_35 2 rfl ?_
  refine x_aload_n C dX11_place_36 0 rfl ?_
  refine gf_11_40 C q184 z11 dX11_place_37 ?_
  refine x_icmp_ge (tgt := 61) C dX11_place_40 (by decide) (fun c15 => ?_) (fun c15 => ?_)
  · replace h := h.1 c15
    refine x_iconst (v := (-1)) C dX11_place_61 rfl ?_
    exact x_iret C E h (Nat.le_of_ble_eq_true rfl) (Nat.le_of_ble_eq_true rfl) dX11_place_62
  · replace h := h.2 c15
    refine x_aload_n C dX11_place_43 0 rfl ?_
    refine gf_11_41 C q186 z11 dX11_place_44 ?_
    refine x_iload_n C dX11_place_47 2 rfl ?_
    obtain ⟨f16, h⟩ := h
    refine al_1241 C z1241 f16 dX11_place_48 ?_
    refine x_iload_n C dX11_place_49 1 rfl ?_
    refine x_icmp_ne (tgt := 55) C dX11_place_50 (by decide) (fun c17 => ?_) (fun c17 => ?_)
    · replace h := h.1 c17
      obtain ⟨v18, ev18⟩ : ∃ z : Int32, z = y2 + 1 := ⟨_, rfl⟩
      replace h := h v18 ev18
      refine x_iinc (v := v18) (lv' := [(2, .int v18), (0, .ref (ga G 11 0)), (1, .int x1)]) (j := 2) C dX11_place_55 rfl (by rw [ev18]; rfl) (Nat.le_of_ble_eq_true rfl) rfl ?_
      refine x_goto (tgt := 35) C dX11_place_58 (by decide) ?_
      refine X_sub (lv' := [(0, .ref (ga G 11 0)), (1, .int x1), (2, .int v18)]) [1, 2, 0] rfl ?_
      have w9 := hL35 (M, v18) h
      dsimp only at w9
      exact w9
    · replace h := h.2 c17
      refine x_iload_n C dX11_place_53 2 rfl ?_
      exact x_iret C E h (Nat.le_of_ble_eq_true rfl) (Nat.le_of_ble_eq_true rfl) dX11_place_54
set_option maxRecDepth 100000 in
set_option maxHeartbeats 400000 in
theorem kX11_place {l : Launch} {G : Gm} (hG : Gd G) (M : Mem) (x1 : Int32) {Q : Int32 → Mem → Prop} (h : pX11_place M x1 Q) : Cti l G yX11_place cX11_place 3 .int rmX11_place [.ref (ga G 11 0), .int x1] M Q := by
  refine cti_of (own := RX11) (by decide +kernel) rfl (Nat.le_of_ble_eq_true rfl) hG (fun Γ Qf hl C E => ?_)
  subst hl
  show X Γ G Qf 3 0 0 0 [(0, .ref (ga G 11 0)), (1, .int x1)] [] M
  unfold pX11_place at h
  refine x_aload_n C dX11_place_0 0 rfl ?_
  refine x_iconst (v := 0) C dX11_place_1 rfl ?_
  refine pf_11_0 C q143 z11 dX11_place_2 ?_
  refine X_nameM (fun M1 eM1 => ?_)
  replace h := h M1 eM1
  refine x_aload_n C dX11_place_5 0 rfl ?_
  refine x_aload_n C dX11_place_6 0 rfl ?_
  refine x_iload_n C dX11_place_7 1 rfl ?_
  refine x_calli (rest := [.ref (ga G 11 0)]) C sv_X11_402 ob11 z11 (kX11_isDocument hG _ _ h) rfl rfl (Nat.le_of_ble_eq_true rfl) ⟨Nat.le_of_ble_eq_true rfl, Nat.le_of_ble_eq_true rfl⟩ rfl rfl ⟨Nat.le_of_ble_eq_true rfl, Nat.le_of_ble_eq_true rfl⟩ dX11_place_8 (fun r2 M3 h => ?_)
  refine x_if_ne (tgt := 18) C dX11_place_11 (by decide) (fun c4 => ?_) (fun c4 => ?_)
  · replace h := h.1 c4
    refine x_iconst (v := 0) C dX11_place_18 rfl ?_
    refine x_iconst (v := 1) C dX11_place_19 rfl ?_
    refine x_iconst (v := 0) C dX11_place_20 rfl ?_
    refine x_calli (rest := []) C sv_X11_179 ob11 z11 (kX11_bad hG _ _ _ _ h) rfl rfl (Nat.le_of_ble_eq_true rfl) ⟨Nat.le_of_ble_eq_true rfl, Nat.le_of_ble_eq_true rfl⟩ rfl rfl ⟨Nat.le_of_ble_eq_true rfl, Nat.le_of_ble_eq_true rfl⟩ dX11_place_21 (fun r5 M6 h => ?_)
    refine x_if_eq (tgt := 29) C dX11_place_24 (by decide) (fun c7 => ?_) (fun c7 => ?_)
    · replace h := h.1 c7
      refine x_aload_n C dX11_place_29 0 rfl ?_
      refine x_callv (rest := []) C sv_X11_442 ob11 z11 (kX11_answersAll hG _ h) rfl rfl (Nat.le_of_ble_eq_true rfl) ⟨Nat.le_of_ble_eq_true rfl, Nat.le_of_ble_eq_true rfl⟩ rfl rfl ⟨Nat.le_of_ble_eq_true rfl, Nat.le_of_ble_eq_true rfl⟩ dX11_place_30 (fun M9 h => ?_)
      refine x_iconst (v := 0) C dX11_place_33 rfl ?_
      refine x_istore_n (lv' := [(2, .int 0), (0, .ref (ga G 11 0)), (1, .int x1)]) C dX11_place_34 rfl (Nat.le_of_ble_eq_true rfl) rfl ?_
      obtain ⟨n9, h⟩ := h
      refine X_sub (lv' := [(0, .ref (ga G 11 0)), (1, .int x1), (2, .int 0)]) [1, 2, 0] rfl ?_
      have hb : ∀ (L : Mem × Int32 → Prop) (s : Mem × Int32), (∀ t, L t → X Γ G Qf 3 0 0 35 [(0, .ref (ga G 11 0)), (1, .int x1), (2, .int t.2)] [] t.1) → bX11_place_35 x1 Q L s.1 s.2 → X Γ G Qf 3 0 0 35 [(0, .ref (ga G 11 0)), (1, .int x1), (2, .int s.2)] [] s.1 := fun L s hL h => wX11_place_35 hG C E hL s.1 s.2 h
      have w9 := lp_walk (P := fun s : Mem × Int32 => X Γ G Qf 3 0 0 35 [(0, .ref (ga G 11 0)), (1, .int x1), (2, .int s.2)] [] s.1) h hb
      dsimp only at w9
      exact w9
    · replace h := h.2 c7
      refine x_iconst (v := 0) C dX11_place_27 rfl ?_
      exact x_iret C E h (Nat.le_of_ble_eq_true rfl) (Nat.le_of_ble_eq_true rfl) dX11_place_28
  · replace h := h.2 c4
    refine x_iconst (v := 1) C dX11_place_14 rfl ?_
    refine x_goto (tgt := 19) C dX11_place_15 (by decide) ?_
    refine x_iconst (v := 1) C dX11_place_19 rfl ?_
    refine x_iconst (v := 0) C dX11_place_20 rfl ?_
    refine x_calli (rest := []) C sv_X11_179 ob11 z11 (kX11_bad hG _ _ _ _ h) rfl rfl (Nat.le_of_ble_eq_true rfl) ⟨Nat.le_of_ble_eq_true rfl, Nat.le_of_ble_eq_true rfl⟩ rfl rfl ⟨Nat.le_of_ble_eq_true rfl, Nat.le_of_ble_eq_true rfl⟩ dX11_place_21 (fun r10 M11 h => ?_)
    refine x_if_eq (tgt := 29) C dX11_place_24 (by decide) (fun c12 => ?_) (fun c12 => ?_)
    · replace h := h.1 c12
      refine x_aload_n C dX11_place_29 0 rfl ?_
      refine x_callv (rest := []) C sv_X11_442 ob11 z11 (kX11_answersAll hG _ h) rfl rfl (Nat.le_of_ble_eq_true rfl) ⟨Nat.le_of_ble_eq_true rfl, Nat.le_of_ble_eq_true rfl⟩ rfl rfl ⟨Nat.le_of_ble_eq_true rfl, Nat.le_of_ble_eq_true rfl⟩ dX11_place_30 (fun M14 h => ?_)
      refine x_iconst (v := 0) C dX11_place_33 rfl ?_
      refine x_istore_n (lv' := [(2, .int 0), (0, .ref (ga G 11 0)), (1, .int x1)]) C dX11_place_34 rfl (Nat.le_of_ble_eq_true rfl) rfl ?_
      obtain ⟨n9, h⟩ := h
      refine X_sub (lv' := [(0, .ref (ga G 11 0)), (1, .int x1), (2, .int 0)]) [1, 2, 0] rfl ?_
      have hb : ∀ (L : Mem × Int32 → Prop) (s : Mem × Int32), (∀ t, L t → X Γ G Qf 3 0 0 35 [(0, .ref (ga G 11 0)), (1, .int x1), (2, .int t.2)] [] t.1) → bX11_place_35 x1 Q L s.1 s.2 → X Γ G Qf 3 0 0 35 [(0, .ref (ga G 11 0)), (1, .int x1), (2, .int s.2)] [] s.1 := fun L s hL h => wX11_place_35 hG C E hL s.1 s.2 h
      have w9 := lp_walk (P := fun s : Mem × Int32 => X Γ G Qf 3 0 0 35 [(0, .ref (ga G 11 0)), (1, .int x1), (2, .int s.2)] [] s.1) h hb
      dsimp only at w9
      exact w9
    · replace h := h.2 c12
      refine x_iconst (v := 0) C dX11_place_27 rfl ?_
      exact x_iret C E h (Nat.le_of_ble_eq_true rfl) (Nat.le_of_ble_eq_true rfl) dX11_place_28
