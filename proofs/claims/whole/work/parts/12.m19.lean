def rmX11_depth : Room := { frames := 9, cells := 0, slots := 0, locals := 210 }
def bX11_depth_67 (x1 : Int32) (x2 : Int32) (Q : Int32 → Mem → Prop) (L67 : Mem × Int32 → Prop) (M : Mem) (y4 : Int32) : Prop :=
  ((10 < y4 → Q (-1) M) ∧ (¬ 10 < y4 → pX11_goesEarly M y4 (M.1 1211 0 0) (fun M20 => vp_in x1 24 ∧ vp_in x2 32 ∧ (((M20.1 6245 (tn x1) (tn x2)) ≤ 0 → ∀ v24 : Int32, v24 = y4 + 1 → L67 (M20, v24)) ∧ (¬ (M20.1 6245 (tn x1) (tn x2)) ≤ 0 → Q y4 M20)))))
def bX11_depth_44 (x1 : Int32) (x2 : Int32) (Q : Int32 → Mem → Prop) (M : Mem) (y3 : Int32) : Prop :=
  ((¬ y3 = 0 → pX11_bad M 0 1 0 (fun r12 M13 => ((r12 = 0 → ∃ n : Nat, lp (fun L s => bX11_depth_67 x1 x2 Q L s.1 s.2) n (M13, 1)) ∧ (¬ r12 = 0 → Q 0 M13)))) ∧ (y3 = 0 → pX11_bad M 1 1 0 (fun r15 M16 => ((r15 = 0 → ∃ n : Nat, lp (fun L s => bX11_depth_67 x1 x2 Q L s.1 s.2) n (M16, 1)) ∧ (¬ r15 = 0 → Q 0 M16)))))
def bX11_depth_42 (x1 : Int32) (x2 : Int32) (Q : Int32 → Mem → Prop) (M : Mem) : Prop :=
  bX11_depth_44 x1 x2 Q M 0
def pX11_depth (M : Mem) (x1 : Int32) (x2 : Int32) (Q : Int32 → Mem → Prop) : Prop :=
  ∀ M1 : Mem, M1 = up1 M 1200 0 0 0 → pX11_in M1 x1 0 ((M1.1 1218 0 0) - 1) (fun r2 M3 => ((r2 = 0 → bX11_depth_42 x1 x2 Q M3) ∧ (¬ r2 = 0 → pX11_less M3 x1 23 (fun r5 M6 => vp_in r5 24 ∧ pX11_isBlock M6 (M6.1 1225 0 (tn r5)) x2 (fun r8 M9 => ((r8 = 0 → bX11_depth_42 x1 x2 Q M9) ∧ (¬ r8 = 0 → bX11_depth_44 x1 x2 Q M9 1)))))))
set_option maxRecDepth 100000 in
set_option maxHeartbeats 400000 in
theorem wX11_depth_67 {Γ : Gam} {G : Gm} {Qf : State → Prop} (hG : Gd G) (C : Cx Γ G cX11_depth 5 RX11 (some .int) rmX11_depth) {x1 : Int32} {x2 : Int32} {Q : Int32 → Mem → Prop} (E : EndI Γ G Qf rmX11_depth Q) {L67 : Mem × Int32 → Prop} (hL67 : ∀ s, L67 s → X Γ G Qf 5 0 0 67 [(0, .ref (ga G 11 0)), (1, .int x1), (2, .int x2), (4, .int s.2)] [] s.1) (M : Mem) (y4 : Int32) (h : bX11_depth_67 x1 x2 Q L67 M y4) : X Γ G Qf 5 0 0 67 [(0, .ref (ga G 11 0)), (1, .int x1), (2, .int x2), (4, .int y4)] [] M := by
  unfold bX11_depth_67 at h
  refine x_iload C dX11_depth_67 3 rfl ?_
  refine x_bipush (v := 10) C dX11_depth_69 rfl ?_
  refine x_icmp_gt (tgt := 104) C dX11_depth_71 (by decide) (fun c18 => ?_) (fun c18 => ?_)
  · replace h := h.1 c18
    refine x_iconst (v := (-1)) C dX11_depth_104 rfl ?_
    exact x_iret C E h (Nat.le_of_ble_eq_true rfl) (Nat.le_of_ble_eq_true rfl) dX11_depth_105
  · replace h := h.2 c18
    refine x_aload_n C dX11_depth_74 0 rfl ?_
    refine x_iload C dX11_depth_75 3 rfl ?_
    refine x_aload_n C dX11_depth_77 0 rfl ?_
    refine gf_11_11 C q209 z11 dX11_depth_78 ?_
    refine x_callv (rest := []) C sv_X11_445 ob11 z11 (kX11_goesEarly hG _ _ _ h) rfl rfl (Nat.le_of_ble_eq_true rfl) ⟨Nat.le_of_ble_eq_true rfl, Nat.le_of_ble_eq_true rfl⟩ rfl rfl ⟨Nat.le_of_ble_eq_true rfl, Nat.le_of_ble_eq_true rfl⟩ dX11_depth_81 (fun M20 h => ?_)
    refine x_aload_n C dX11_depth_84 0 rfl ?_
    refine gf_11_45 C q196 z11 dX11_depth_85 ?_
    refine x_iload_n C dX11_depth_88 1 rfl ?_
    obtain ⟨f21, h⟩ := h
    refine al_1245 C z1245 f21 dX11_depth_89 ?_
    refine x_iload_n C dX11_depth_90 2 rfl ?_
    obtain ⟨f22, h⟩ := h
    refine al_6245 C (vp_lt f21) f22 dX11_depth_91 ?_
    refine x_if_le (tgt := 98) C dX11_depth_92 (by decide) (fun c23 => ?_) (fun c23 => ?_)
    · replace h := h.1 c23
      obtain ⟨v24, ev24⟩ : ∃ z : Int32, z = y4 + 1 := ⟨_, rfl⟩
      replace h := h v24 ev24
      refine x_iinc (v := v24) (lv' := [(4, .int v24), (0, .ref (ga G 11 0)), (1, .int x1), (2, .int x2)]) (j := 3) C dX11_depth_98 rfl (by rw [ev24]; rfl) (Nat.le_of_ble_eq_true rfl) rfl ?_
      refine x_goto (tgt := 67) C dX11_depth_101 (by decide) ?_
      refine X_sub (lv' := [(0, .ref (ga G 11 0)), (1, .int x1), (2, .int x2), (4, .int v24)]) [1, 2, 3, 0] rfl ?_
      have w9 := hL67 (M20, v24) h
      dsimp only at w9
      exact w9
    · replace h := h.2 c23
      refine x_iload C dX11_depth_95 3 rfl ?_
      exact x_iret C E h (Nat.le_of_ble_eq_true rfl) (Nat.le_of_ble_eq_true rfl) dX11_depth_97
set_option maxRecDepth 100000 in
set_option maxHeartbeats 400000 in
theorem wX11_depth_44 {Γ : Gam} {G : Gm} {Qf : State → Prop} (hG : Gd G) (C : Cx Γ G cX11_depth 5 RX11 (some .int) rmX11_depth) {x1 : Int32} {x2 : Int32} {Q : Int32 → Mem → Prop} (E : EndI Γ G Qf rmX11_depth Q) (M : Mem) (y3 : Int32) (h : bX11_depth_44 x1 x2 Q M y3) : X Γ G Qf 5 0 0 44 [(0, .ref (ga G 11 0)), (1, .int x1), (2, .int x2), (3, .int y3)] [] M := by
  unfold bX11_depth_44 at h
  refine x_aload_n C dX11_depth_44 0 rfl ?_
  refine x_iload_n C dX11_depth_45 3 rfl ?_
  refine x_if_ne (tgt := 53) C dX11_depth_46 (by decide) (fun c11 => ?_) (fun c11 => ?_)
  · replace h := h.1 c11
    refine x_iconst (v := 0) C dX11_depth_53 rfl ?_
    refine x_iconst (v := 1) C dX11_depth_54 rfl ?_
    refine x_iconst (v := 0) C dX11_depth_55 rfl ?_
    refine x_calli (rest := []) C sv_X11_179 ob11 z11 (kX11_bad hG _ _ _ _ h) rfl rfl (Nat.le_of_ble_eq_true rfl) ⟨Nat.le_of_ble_eq_true rfl, Nat.le_of_ble_eq_true rfl⟩ rfl rfl ⟨Nat.le_of_ble_eq_true rfl, Nat.le_of_ble_eq_true rfl⟩ dX11_depth_56 (fun r12 M13 h => ?_)
    refine x_if_eq (tgt := 64) C dX11_depth_59 (by decide) (fun c14 => ?_) (fun c14 => ?_)
    · replace h := h.1 c14
      refine x_iconst (v := 1) C dX11_depth_64 rfl ?_
      refine x_istore (lv' := [(4, .int 1), (0, .ref (ga G 11 0)), (1, .int x1), (2, .int x2), (3, .int y3)]) C dX11_depth_65 (Nat.le_of_ble_eq_true rfl) rfl ?_
      obtain ⟨n9, h⟩ := h
      refine X_sub (lv' := [(0, .ref (ga G 11 0)), (1, .int x1), (2, .int x2), (4, .int 1)]) [1, 2, 3, 0] rfl ?_
      have hb : ∀ (L : Mem × Int32 → Prop) (s : Mem × Int32), (∀ t, L t → X Γ G Qf 5 0 0 67 [(0, .ref (ga G 11 0)), (1, .int x1), (2, .int x2), (4, .int t.2)] [] t.1) → bX11_depth_67 x1 x2 Q L s.1 s.2 → X Γ G Qf 5 0 0 67 [(0, .ref (ga G 11 0)), (1, .int x1), (2, .int x2), (4, .int s.2)] [] s.1 := fun L s hL h => wX11_depth_67 hG C E hL s.1 s.2 h
      have w9 := lp_walk (P := fun s : Mem × Int32 => X Γ G Qf 5 0 0 67 [(0, .ref (ga G 11 0)), (1, .int x1), (2, .int x2), (4, .int s.2)] [] s.1) h hb
      dsimp only at w9
      exact w9
    · replace h := h.2 c14
      refine x_iconst (v := 0) C dX11_depth_62 rfl ?_
      exact x_iret C E h (Nat.le_of_ble_eq_true rfl) (Nat.le_of_ble_eq_true rfl) dX11_depth_63
  · replace h := h.2 c11
    refine x_iconst (v := 1) C dX11_depth_49 rfl ?_
    refine x_goto (tgt := 54) C dX11_depth_50 (by decide) ?_
    refine x_iconst (v := 1) C dX11_depth_54 rfl ?_
    refine x_iconst (v := 0) C dX11_depth_55 rfl ?_
    refine x_calli (rest := []) C sv_X11_179 ob11 z11 (kX11_bad hG _ _ _ _ h) rfl rfl (Nat.le_of_ble_eq_true rfl) ⟨Nat.le_of_ble_eq_true rfl, Nat.le_of_ble_eq_true rfl⟩ rfl rfl ⟨Nat.le_of_ble_eq_true rfl, Nat.le_of_ble_eq_true rfl⟩ dX11_depth_56 (fun r15 M16 h => ?_)
    refine x_if_eq (tgt := 64) C dX11_depth_59 (by decide) (fun c17 => ?_) (fun c17 => ?_)
    · replace h := h.1 c17
      refine x_iconst (v := 1) C dX11_depth_64 rfl ?_
      refine x_istore (lv' := [(4, .int 1), (0, .ref (ga G 11 0)), (1, .int x1), (2, .int x2), (3, .int y3)]) C dX11_depth_65 (Nat.le_of_ble_eq_true rfl) rfl ?_
      obtain ⟨n9, h⟩ := h
      refine X_sub (lv' := [(0, .ref (ga G 11 0)), (1, .int x1), (2, .int x2), (4, .int 1)]) [1, 2, 3, 0] rfl ?_
      have hb : ∀ (L : Mem × Int32 → Prop) (s : Mem × Int32), (∀ t, L t → X Γ G Qf 5 0 0 67 [(0, .ref (ga G 11 0)), (1, .int x1), (2, .int x2), (4, .int t.2)] [] t.1) → bX11_depth_67 x1 x2 Q L s.1 s.2 → X Γ G Qf 5 0 0 67 [(0, .ref (ga G 11 0)), (1, .int x1), (2, .int x2), (4, .int s.2)] [] s.1 := fun L s hL h => wX11_depth_67 hG C E hL s.1 s.2 h
      have w9 := lp_walk (P := fun s : Mem × Int32 => X Γ G Qf 5 0 0 67 [(0, .ref (ga G 11 0)), (1, .int x1), (2, .int x2), (4, .int s.2)] [] s.1) h hb
      dsimp only at w9
      exact w9
    · replace h := h.2 c17
      refine x_iconst (v := 0) C dX11_depth_62 rfl ?_
      exact x_iret C E h (Nat.le_of_ble_eq_true rfl) (Nat.le_of_ble_eq_true rfl) dX11_depth_63
set_option maxRecDepth 100000 in
set_option maxHeartbeats 400000 in
theorem wX11_depth_42 {Γ : Gam} {G : Gm} {Qf : State → Prop} (hG : Gd G) (C : Cx Γ G cX11_depth 5 RX11 (some .int) rmX11_depth) {x1 : Int32} {x2 : Int32} {Q : Int32 → Mem → Prop} (E : EndI Γ G Qf rmX11_depth Q) (M : Mem) (h : bX11_depth_42 x1 x2 Q M) : X Γ G Qf 5 0 0 42 [(0, .ref (ga G 11 0)), (1, .int x1), (2, .int x2)] [] M := by
  unfold bX11_depth_42 at h
  refine x_iconst (v := 0) C dX11_depth_42 rfl ?_
  refine x_istore_n (lv' := [(3, .int 0), (0, .ref (ga G 11 0)), (1, .int x1), (2, .int x2)]) C dX11_depth_43 rfl (Nat.le_of_ble_eq_true rfl) rfl ?_
  refine X_sub (lv' := [(0, .ref (ga G 11 0)), (1, .int x1), (2, .int x2), (3, .int 0)]) [1, 2, 3, 0] rfl ?_
  exact wX11_depth_44 hG C E M 0 h
set_option maxRecDepth 100000 in
set_option maxHeartbeats 400000 in
theorem kX11_depth {l : Launch} {G : Gm} (hG : Gd G) (M : Mem) (x1 : Int32) (x2 : Int32) {Q : Int32 → Mem → Prop} (h : pX11_depth M x1 x2 Q) : Cti l G yX11_depth cX11_depth 5 .int rmX11_depth [.ref (ga G 11 0), .int x1, .int x2] M Q := by
  refine cti_of (own := RX11) (by decide +kernel) rfl (Nat.le_of_ble_eq_true rfl) hG (fun Γ Qf hl C E => ?_)
  subst hl
  show X Γ G Qf 5 0 0 0 [(0, .ref (ga G 11 0)), (1, .int x1), (2, .int x2)] [] M
  unfold pX11_depth at h
  refine x_aload_n C dX11_depth_0 0 rfl ?_
  refine x_iconst (v := 0) C dX11_depth_1 rfl ?_
  refine pf_11_0 C q143 z11 dX11_depth_2 ?_
  refine X_nameM (fun M1 eM1 => ?_)
  replace h := h M1 eM1
  refine x_iload_n C dX11_depth_5 1 rfl ?_
  refine x_iconst (v := 0) C dX11_depth_6 rfl ?_
  refine x_aload_n C dX11_depth_7 0 rfl ?_
  refine gf_11_18 C q168 z11 dX11_depth_8 ?_
  refine x_iconst (v := 1) C dX11_depth_11 rfl ?_
  refine x_isub C dX11_depth_12 ?_
  refine x_scalli (rest := []) C ss_X11_172 (kX11_in hG _ _ _ _ h) rfl rfl (Nat.le_of_ble_eq_true rfl) ⟨Nat.le_of_ble_eq_true rfl, Nat.le_of_ble_eq_true rfl⟩ rfl rfl ⟨Nat.le_of_ble_eq_true rfl, Nat.le_of_ble_eq_true rfl⟩ dX11_depth_13 (fun r2 M3 h => ?_)
  refine x_if_eq (tgt := 42) C dX11_depth_16 (by decide) (fun c4 => ?_) (fun c4 => ?_)
  · replace h := h.1 c4
    refine X_sub (lv' := [(0, .ref (ga G 11 0)), (1, .int x1), (2, .int x2)]) [0, 1, 2] rfl ?_
    exact wX11_depth_42 hG C E M3 h
  · replace h := h.2 c4
    refine x_aload_n C dX11_depth_19 0 rfl ?_
    refine x_aload_n C dX11_depth_20 0 rfl ?_
    refine gf_11_25 C q169 z11 dX11_depth_21 ?_
    refine x_iload_n C dX11_depth_24 1 rfl ?_
    refine x_bipush (v := 23) C dX11_depth_25 rfl ?_
    refine x_scalli (rest := [.ref (ga G 1225 0), .ref (ga G 11 0)]) C ss_X11_236 (kX11_less hG _ _ _ h) rfl rfl (Nat.le_of_ble_eq_true rfl) ⟨Nat.le_of_ble_eq_true rfl, Nat.le_of_ble_eq_true rfl⟩ rfl rfl ⟨Nat.le_of_ble_eq_true rfl, Nat.le_of_ble_eq_true rfl⟩ dX11_depth_27 (fun r5 M6 h => ?_)
    obtain ⟨f7, h⟩ := h
    refine al_1225 C z1225 f7 dX11_depth_30 ?_
    refine x_iload_n C dX11_depth_31 2 rfl ?_
    refine x_calli (rest := []) C sv_X11_423 ob11 z11 (kX11_isBlock hG _ _ _ h) rfl rfl (Nat.le_of_ble_eq_true rfl) ⟨Nat.le_of_ble_eq_true rfl, Nat.le_of_ble_eq_true rfl⟩ rfl rfl ⟨Nat.le_of_ble_eq_true rfl, Nat.le_of_ble_eq_true rfl⟩ dX11_depth_32 (fun r8 M9 h => ?_)
    refine x_if_eq (tgt := 42) C dX11_depth_35 (by decide) (fun c10 => ?_) (fun c10 => ?_)
    · replace h := h.1 c10
      refine X_sub (lv' := [(0, .ref (ga G 11 0)), (1, .int x1), (2, .int x2)]) [0, 1, 2] rfl ?_
      exact wX11_depth_42 hG C E M9 h
    · replace h := h.2 c10
      refine x_iconst (v := 1) C dX11_depth_38 rfl ?_
      refine x_goto (tgt := 43) C dX11_depth_39 (by decide) ?_
      refine x_istore_n (lv' := [(3, .int 1), (0, .ref (ga G 11 0)), (1, .int x1), (2, .int x2)]) C dX11_depth_43 rfl (Nat.le_of_ble_eq_true rfl) rfl ?_
      refine X_sub (lv' := [(0, .ref (ga G 11 0)), (1, .int x1), (2, .int x2), (3, .int 1)]) [1, 2, 3, 0] rfl ?_
      exact wX11_depth_44 hG C E M9 1 h
def rmX11_without : Room := { frames := 6, cells := 0, slots := 0, locals := 134 }
def bX11_without_182 (x1 : Int32) (x2 : Int32) (Q : Int32 → Mem → Prop) (L109 : Mem × Int32 × Int32 × Int32 → Prop) (M : Mem) (y3 : Int32) (y4 : Int32) (y5 : Int32) : Prop :=
  ∀ v47 : Int32, v47 = y5 + 1 → L109 (M, y3, y4, v47)
def bX11_without_161 (x1 : Int32) (x2 : Int32) (Q : Int32 → Mem → Prop) (L109 : Mem × Int32 × Int32 × Int32 → Prop) (L121 : Mem × Int32 × Int32 × Int32 × Int32 × Int32 → Prop) (M : Mem) (y3 : Int32) (y4 : Int32) (y5 : Int32) (y6 : Int32) (y7 : Int32) : Prop :=
  ∀ v46 : Int32, v46 = y7 + 1 → L121 (M, y3, y4, y5, y6, v46)
def bX11_without_121 (x1 : Int32) (x2 : Int32) (Q : Int32 → Mem → Prop) (L109 : Mem × Int32 × Int32 × Int32 → Prop) (L121 : Mem × Int32 × Int32 × Int32 × Int32 × Int32 → Prop) (M : Mem) (y3 : Int32) (y4 : Int32) (y5 : Int32) (y6 : Int32) (y7 : Int32) : Prop :=
  pX11_less M x1 (M.1 1240 0 0) (fun r35 M36 => ((r35 ≤ y7 → ((y6 = 0 → ∀ v39 : Int32, v39 = (y4 + 1) → bX11_without_182 x1 x2 Q L109 M36 y3 v39 y5) ∧ (¬ y6 = 0 → ∀ v40 : Int32, v40 = (y4 + 0) → bX11_without_182 x1 x2 Q L109 M36 y3 v40 y5))) ∧ (¬ r35 ≤ y7 → vp_in y7 64 ∧ vp_in y5 11 ∧ ((¬ (M36.1 1241 0 (tn y7)) = (M36.1 1254 0 (tn y5)) → ∀ v44 : Int32, v44 = (y6 ||| 0) → bX11_without_161 x1 x2 Q L109 L121 M36 y3 y4 y5 v44 y7) ∧ ((M36.1 1241 0 (tn y7)) = (M36.1 1254 0 (tn y5)) → ∀ v45 : Int32, v45 = (y6 ||| 1) → bX11_without_161 x1 x2 Q L109 L121 M36 y3 y4 y5 v45 y7)))))
def bX11_without_109 (x1 : Int32) (x2 : Int32) (Q : Int32 → Mem → Prop) (L109 : Mem × Int32 × Int32 × Int32 → Prop) (M : Mem) (y3 : Int32) (y4 : Int32) (y5 : Int32) : Prop :=
  ((y3 ≤ y5 → Q y4 M) ∧ (¬ y3 ≤ y5 → ∃ n : Nat, lp (fun L s => bX11_without_121 x1 x2 Q L109 L s.1 s.2.1 s.2.2.1 s.2.2.2.1 s.2.2.2.2.1 s.2.2.2.2.2) n (M, y3, y4, y5, 0, 0)))
def bX11_without_66 (x1 : Int32) (x2 : Int32) (Q : Int32 → Mem → Prop) (L66 : Mem × Int32 × Int32 × Int32 → Prop) (M : Mem) (y3 : Int32) (y4 : Int32) (y5 : Int32) : Prop :=
  ((y3 ≤ y5 → ∀ M26 : Mem, M26 = up1 M 1239 0 0 x2 → pX11_answersAll M26 (fun M28 => ∀ M29 : Mem, M29 = up1 M28 1239 0 0 (-1) → ∃ n : Nat, lp (fun L s => bX11_without_109 x1 x2 Q L s.1 s.2.1 s.2.2.1 s.2.2.2) n (M29, y3, y4, 0))) ∧ (¬ y3 ≤ y5 → vp_in y5 64 ∧ vp_in y5 11 ∧ ∀ M32 : Mem, M32 = up1 M 1254 0 (tn y5) (M.1 1241 0 (tn y5)) → ∀ v33 : Int32, v33 = y5 + 1 → L66 (M32, y3, y4, v33)))
def pX11_without (M : Mem) (x1 : Int32) (x2 : Int32) (Q : Int32 → Mem → Prop) : Prop :=
  ∀ M1 : Mem, M1 = up1 M 1200 0 0 0 → pX11_in M1 x1 1 10 (fun r2 M3 => ((¬ r2 = 0 → pX11_bad M3 0 1 1 (fun r5 M6 => ((r5 = 0 → pX11_in M6 x2 0 ((M6.1 1218 0 0) - 1) (fun r8 M9 => ((¬ r8 = 0 → pX11_answersAll M9 (fun M12 => pX11_less M12 x1 (M12.1 1240 0 0) (fun r13 M14 => ∃ n : Nat, lp (fun L s => bX11_without_66 x1 x2 Q L s.1 s.2.1 s.2.2.1 s.2.2.2) n (M14, r13, 0, 0)))) ∧ (r8 = 0 → Q (-1) M9)))) ∧ (¬ r5 = 0 → Q 0 M6)))) ∧ (r2 = 0 → pX11_bad M3 1 1 1 (fun r15 M16 => ((r15 = 0 → pX11_in M16 x2 0 ((M16.1 1218 0 0) - 1) (fun r18 M19 => ((¬ r18 = 0 → pX11_answersAll M19 (fun M22 => pX11_less M22 x1 (M22.1 1240 0 0) (fun r23 M24 => ∃ n : Nat, lp (fun L s => bX11_without_66 x1 x2 Q L s.1 s.2.1 s.2.2.1 s.2.2.2) n (M24, r23, 0, 0)))) ∧ (r18 = 0 → Q (-1) M19)))) ∧ (¬ r15 = 0 → Q 0 M16))))))
set_option maxRecDepth 100000 in
set_option maxHeartbeats 400000 in
theorem wX11_without_182 {Γ : Gam} {G : Gm} {Qf : State → Prop} (hG : Gd G) (C : Cx Γ G cX11_without 8 RX11 (some .int) rmX11_without) {x1 : Int32} {x2 : Int32} {Q : Int32 → Mem → Prop} (E : EndI Γ G Qf rmX11_without Q) {L109 : Mem × Int32 × Int32 × Int32 → Prop} (hL109 : ∀ s, L109 s → X Γ G Qf 8 0 0 109 [(0, .ref (ga G 11 0)), (1, .int x1), (3, .int s.2.1), (4, .int s.2.2.1), (5, .int s.2.2.2)] [] s.1) (M : Mem) (y3 : Int32) (y4 : Int32) (y5 : Int32) (h : bX11_without_182 x1 x2 Q L109 M y3 y4 y5) : X Γ G Qf 8 0 0 182 [(0, .ref (ga G 11 0)), (1, .int x1), (3, .int y3), (4, .int y4), (5, .int y5)] [] M := by
  unfold bX11_without_182 at h
  obtain ⟨v47, ev47⟩ : ∃ z : Int32, z = y5 + 1 := ⟨_, rfl⟩
  replace h := h v47 ev47
  refine x_iinc (v := v47) (lv' := [(5, .int v47), (0, .ref (ga G 11 0)), (1, .int x1), (3, .int y3), (4, .int y4)]) (j := 4) C dX11_without_182 rfl (by rw [ev47]; rfl) (Nat.le_of_ble_eq_true rfl) rfl ?_
  refine x_goto (tgt := 109) C dX11_without_185 (by decide) ?_
  refine X_sub (lv' := [(0, .ref (ga G 11 0)), (1, .int x1), (3, .int y3), (4, .int y4), (5, .int v47)]) [1, 2, 3, 4, 0] rfl ?_
  have w9 := hL109 (M, y3, y4, v47) h
  dsimp only at w9
  exact w9
set_option maxRecDepth 100000 in
set_option maxHeartbeats 400000 in
theorem wX11_without_161 {Γ : Gam} {G : Gm} {Qf : State → Prop} (hG : Gd G) (C : Cx Γ G cX11_without 8 RX11 (some .int) rmX11_without) {x1 : Int32} {x2 : Int32} {Q : Int32 → Mem → Prop} (E : EndI Γ G Qf rmX11_without Q) {L109 : Mem × Int32 × Int32 × Int32 → Prop} (hL109 : ∀ s, L109 s → X Γ G Qf 8 0 0 109 [(0, .ref (ga G 11 0)), (1, .int x1), (3, .int s.2.1), (4, .int s.2.2.1), (5, .int s.2.2.2)] [] s.1) {L121 : Mem × Int32 × Int32 × Int32 × Int32 × Int32 → Prop} (hL121 : ∀ s, L121 s → X Γ G Qf 8 0 0 121 [(0, .ref (ga G 11 0)), (1, .int x1), (3, .int s.2.1), (4, .int s.2.2.1), (5, .int s.2.2.2.1), (6, .int s.2.2.2.2.1), (7, .int s.2.2.2.2.2)] [] s.1) (M : Mem) (y3 : Int32) (y4 : Int32) (y5 : Int32) (y6 : Int32) (y7 : Int32) (h : bX11_without_161 x1 x2 Q L109 L121 M y3 y4 y5 y6 y7) : X Γ G Qf 8 0 0 161 [(0, .ref (ga G 11 0)), (1, .int x1), (3, .int y3), (4, .int y4), (5, .int y5), (6, .int y6), (7, .int y7)] [] M := by
  unfold bX11_without_161 at h
  obtain ⟨v46, ev46⟩ : ∃ z : Int32, z = y7 + 1 := ⟨_, rfl⟩
  replace h := h v46 ev46
  refine x_iinc (v := v46) (lv' := [(7, .int v46), (0, .ref (ga G 11 0)), (1, .int x1), (3, .int y3), (4, .int y4), (5, .int y5), (6, .int y6)]) (j := 6) C dX11_without_161 rfl (by rw [ev46]; rfl) (Nat.le_of_ble_eq_true rfl) rfl ?_
  refine x_goto (tgt := 121) C dX11_without_164 (by decide) ?_
  refine X_sub (lv' := [(0, .ref (ga G 11 0)), (1, .int x1), (3, .int y3), (4, .int y4), (5, .int y5), (6, .int y6), (7, .int v46)]) [1, 2, 3, 4, 5, 6, 0] rfl ?_
  have w9 := hL121 (M, y3, y4, y5, y6, v46) h
  dsimp only at w9
  exact w9
set_option maxRecDepth 100000 in
set_option maxHeartbeats 400000 in
theorem wX11_without_121 {Γ : Gam} {G : Gm} {Qf : State → Prop} (hG : Gd G) (C : Cx Γ G cX11_without 8 RX11 (some .int) rmX11_without) {x1 : Int32} {x2 : Int32} {Q : Int32 → Mem → Prop} (E : EndI Γ G Qf rmX11_without Q) {L109 : Mem × Int32 × Int32 × Int32 → Prop} (hL109 : ∀ s, L109 s → X Γ G Qf 8 0 0 109 [(0, .ref (ga G 11 0)), (1, .int x1), (3, .int s.2.1), (4, .int s.2.2.1), (5, .int s.2.2.2)] [] s.1) {L121 : Mem × Int32 × Int32 × Int32 × Int32 × Int32 → Prop} (hL121 : ∀ s, L121 s → X Γ G Qf 8 0 0 121 [(0, .ref (ga G 11 0)), (1, .int x1), (3, .int s.2.1), (4, .int s.2.2.1), (5, .int s.2.2.2.1), (6, .int s.2.2.2.2.1), (7, .int s.2.2.2.2.2)] [] s.1) (M : Mem) (y3 : Int32) (y4 : Int32) (y5 : Int32) (y6 : Int32) (y7 : Int32) (h : bX11_without_121 x1 x2 Q L109 L121 M y3 y4 y5 y6 y7) : X Γ G Qf 8 0 0 121 [(0, .ref (ga G 11 0)), (1, .int x1), (3, .int y3), (4, .int y4), (5, .int y5), (6, .int y6), (7, .int y7)] [] M := by
  unfold bX11_without_121 at h
  refine x_iload C dX11_without_121 6 rfl ?_
  refine x_iload_n C dX11_without_123 1 rfl ?_
  refine x_aload_n C dX11_without_124 0 rfl ?_
  refine gf_11_40 C q184 z11 dX11_without_125 ?_
  refine x_scalli (rest := [.int y7]) C ss_X11_236 (kX11_less hG _ _ _ h) rfl rfl (Nat.le_of_ble_eq_true rfl) ⟨Nat.le_of_ble_eq_true rfl, Nat.le_of_ble_eq_true rfl⟩ rfl rfl ⟨Nat.le_of_ble_eq_true rfl, Nat.le_of_ble_eq_true rfl⟩ dX11_without_128 (fun r35 M36 h => ?_)
  refine x_icmp_ge (tgt := 167) C dX11_without_131 (by decide) (fun c37 => ?_) (fun c37 => ?_)
  · replace h := h.1 c37
    refine x_iload C dX11_without_167 3 rfl ?_
    refine x_iload C dX11_without_169 5 rfl ?_
    refine x_if_eq (tgt := 178) C dX11_without_171 (by decide) (fun c38 => ?_) (fun c38 => ?_)
    · replace h := h.1 c38
      refine x_iconst (v := 1) C dX11_without_178 rfl ?_
      refine x_iadd C dX11_without_179 ?_
      refine X_name (fun v39 ev39 => ?_)
      replace h := h v39 ev39
      refine x_istore (lv' := [(4, .int v39), (0, .ref (ga G 11 0)), (1, .int x1), (3, .int y3), (5, .int y5), (6, .int y6), (7, .int y7)]) C dX11_without_180 (Nat.le_of_ble_eq_true rfl) rfl ?_
      refine X_sub (lv' := [(0, .ref (ga G 11 0)), (1, .int x1), (3, .int y3), (4, .int v39), (5, .int y5)]) [1, 2, 3, 0, 4] rfl ?_
      exact wX11_without_182 hG C E hL109 M36 y3 v39 y5 h
    · replace h := h.2 c38
      refine x_iconst (v := 0) C dX11_without_174 rfl ?_
      refine x_goto (tgt := 179) C dX11_without_175 (by decide) ?_
      refine x_iadd C dX11_without_179 ?_
      refine X_name (fun v40 ev40 => ?_)
      replace h := h v40 ev40
      refine x_istore (lv' := [(4, .int v40), (0, .ref (ga G 11 0)), (1, .int x1), (3, .int y3), (5, .int y5), (6, .int y6), (7, .int y7)]) C dX11_without_180 (Nat.le_of_ble_eq_true rfl) rfl ?_
      refine X_sub (lv' := [(0, .ref (ga G 11 0)), (1, .int x1), (3, .int y3), (4, .int v40), (5, .int y5)]) [1, 2, 3, 0, 4] rfl ?_
      exact wX11_without_182 hG C E hL109 M36 y3 v40 y5 h
  · replace h := h.2 c37
    refine x_iload C dX11_without_134 5 rfl ?_
    refine x_aload_n C dX11_without_136 0 rfl ?_
    refine gf_11_41 C q186 z11 dX11_without_137 ?_
    refine x_iload C dX11_without_140 6 rfl ?_
    obtain ⟨f41, h⟩ := h
    refine al_1241 C z1241 f41 dX11_without_142 ?_
    refine x_aload_n C dX11_without_143 0 rfl ?_
    refine gf_11_54 C q205 z11 dX11_without_144 ?_
    refine x_iload C dX11_without_147 4 rfl ?_
    obtain ⟨f42, h⟩ := h
    refine al_1254 C z1254 f42 dX11_without_149 ?_
    refine x_icmp_ne (tgt := 157) C dX11_without_150 (by decide) (fun c43 => ?_) (fun c43 => ?_)
    · replace h := h.1 c43
      refine x_iconst (v := 0) C dX11_without_157 rfl ?_
      refine x_ior C dX11_without_158 ?_
      refine X_name (fun v44 ev44 => ?_)
      replace h := h v44 ev44
      refine x_istore (lv' := [(6, .int v44), (0, .ref (ga G 11 0)), (1, .int x1), (3, .int y3), (4, .int y4), (5, .int y5), (7, .int y7)]) C dX11_without_159 (Nat.le_of_ble_eq_true rfl) rfl ?_
      refine X_sub (lv' := [(0, .ref (ga G 11 0)), (1, .int x1), (3, .int y3), (4, .int y4), (5, .int y5), (6, .int v44), (7, .int y7)]) [1, 2, 3, 4, 5, 0, 6] rfl ?_
      exact wX11_without_161 hG C E hL109 hL121 M36 y3 y4 y5 v44 y7 h
    · replace h := h.2 c43
      refine x_iconst (v := 1) C dX11_without_153 rfl ?_
      refine x_goto (tgt := 158) C dX11_without_154 (by decide) ?_
      refine x_ior C dX11_without_158 ?_
      refine X_name (fun v45 ev45 => ?_)
      replace h := h v45 ev45
      refine x_istore (lv' := [(6, .int v45), (0, .ref (ga G 11 0)), (1, .int x1), (3, .int y3), (4, .int y4), (5, .int y5), (7, .int y7)]) C dX11_without_159 (Nat.le_of_ble_eq_true rfl) rfl ?_
      refine X_sub (lv' := [(0, .ref (ga G 11 0)), (1, .int x1), (3, .int y3), (4, .int y4), (5, .int y5), (6, .int v45), (7, .int y7)]) [1, 2, 3, 4, 5, 0, 6] rfl ?_
      exact wX11_without_161 hG C E hL109 hL121 M36 y3 y4 y5 v45 y7 h
set_option maxRecDepth 100000 in
set_option maxHeartbeats 400000 in
theorem wX11_without_109 {Γ : Gam} {G : Gm} {Qf : State → Prop} (hG : Gd G) (C : Cx Γ G cX11_without 8 RX11 (some .int) rmX11_without) {x1 : Int32} {x2 : Int32} {Q : Int32 → Mem → Prop} (E : EndI Γ G Qf rmX11_without Q) {L109 : Mem × Int32 × Int32 × Int32 → Prop} (hL109 : ∀ s, L109 s → X Γ G Qf 8 0 0 109 [(0, .ref (ga G 11 0)), (1, .int x1), (3, .int s.2.1), (4, .int s.2.2.1), (5, .int s.2.2.2)] [] s.1) (M : Mem) (y3 : Int32) (y4 : Int32) (y5 : Int32) (h : bX11_without_109 x1 x2 Q L109 M y3 y4 y5) : X Γ G Qf 8 0 0 109 [(0, .ref (ga G 11 0)), (1, .int x1), (3, .int y3), (4, .int y4), (5, .int y5)] [] M := by
  unfold bX11_without_109 at h
  refine x_iload C dX11_without_109 4 rfl ?_
  refine x_iload_n C dX11_without_111 2 rfl ?_
  refine x_icmp_ge (tgt := 188) C dX11_without_112 (by decide) (fun c34 => ?_) (fun c34 => ?_)
  · replace h := h.1 c34
    refine x_iload C dX11_without_188 3 rfl ?_
    exact x_iret C E h (Nat.le_of_ble_eq_true rfl) (Nat.le_of_ble_eq_true rfl) dX11_without_190
  · replace h := h.2 c34
    refine x_iconst (v := 0) C dX11_without_115 rfl ?_
    refine x_istore (lv' := [(6, .int 0), (0, .ref (ga G 11 0)), (1, .int x1), (3, .int y3), (4, .int y4), (5, .int y5)]) C dX11_without_116 (Nat.le_of_ble_eq_true rfl) rfl ?_
    refine x_iconst (v := 0) C dX11_without_118 rfl ?_
    refine x_istore (lv' := [(7, .int 0), (6, .int 0), (0, .ref (ga G 11 0)), (1, .int x1), (3, .int y3), (4, .int y4), (5, .int y5)]) C dX11_without_119 (Nat.le_of_ble_eq_true rfl) rfl ?_
    obtain ⟨n9, h⟩ := h
    refine X_sub (lv' := [(0, .ref (ga G 11 0)), (1, .int x1), (3, .int y3), (4, .int y4), (5, .int y5), (6, .int 0), (7, .int 0)]) [2, 3, 4, 5, 6, 1, 0] rfl ?_
    have hb : ∀ (L : Mem × Int32 × Int32 × Int32 × Int32 × Int32 → Prop) (s : Mem × Int32 × Int32 × Int32 × Int32 × Int32), (∀ t, L t → X Γ G Qf 8 0 0 121 [(0, .ref (ga G 11 0)), (1, .int x1), (3, .int t.2.1), (4, .int t.2.2.1), (5, .int t.2.2.2.1), (6, .int t.2.2.2.2.1), (7, .int t.2.2.2.2.2)] [] t.1) → bX11_without_121 x1 x2 Q L109 L s.1 s.2.1 s.2.2.1 s.2.2.2.1 s.2.2.2.2.1 s.2.2.2.2.2 → X Γ G Qf 8 0 0 121 [(0, .ref (ga G 11 0)), (1, .int x1), (3, .int s.2.1), (4, .int s.2.2.1), (5, .int s.2.2.2.1), (6, .int s.2.2.2.2.1), (7, .int s.2.2.2.2.2)] [] s.1 := fun L s hL h => wX11_without_121 hG C E hL109 hL s.1 s.2.1 s.2.2.1 s.2.2.2.1 s.2.2.2.2.1 s.2.2.2.2.2 h
    have w9 := lp_walk (P := fun s : Mem × Int32 × Int32 × Int32 × Int32 × Int32 => X Γ G Qf 8 0 0 121 [(0, .ref (ga G 11 0)), (1, .int x1), (3, .int s.2.1), (4, .int s.2.2.1), (5, .int s.2.2.2.1), (6, .int s.2.2.2.2.1), (7, .int s.2.2.2.2.2)] [] s.1) h hb
    dsimp only at w9
    exact w9
set_option maxRecDepth 100000 in
set_option maxHeartbeats 400000 in
theorem wX11_without_66 {Γ : Gam} {G : Gm} {Qf : State → Prop} (hG : Gd G) (C : Cx Γ G cX11_without 8 RX11 (some .int) rmX11_without) {x1 : Int32} {x2 : Int32} {Q : Int32 → Mem → Prop} (E : EndI Γ G Qf rmX11_without Q) {L66 : Mem × Int32 × Int32 × Int32 → Prop} (hL66 : ∀ s, L66 s → X Γ G Qf 8 0 0 66 [(0, .ref (ga G 11 0)), (1, .int x1), (2, .int x2), (3, .int s.2.1), (4, .int s.2.2.1), (5, .int s.2.2.2)] [] s.1) (M : Mem) (y3 : Int32) (y4 : Int32) (y5 : Int32) (h : bX11_without_66 x1 x2 Q L66 M y3 y4 y5) : X Γ G Qf 8 0 0 66 [(0, .ref (ga G 11 0)), (1, .int x1), (2, .int x2), (3, .int y3), (4, .int y4), (5, .int y5)] [] M := by
  unfold bX11_without_66 at h
  refine x_iload C dX11_without_66 5 rfl ?_
  refine x_iload_n C dX11_without_68 3 rfl ?_
  refine x_icmp_ge (tgt := 92) C dX11_without_69 (by decide) (fun c25 => ?_) (fun c25 => ?_)
  · replace h := h.1 c25
    refine x_aload_n C dX11_without_92 0 rfl ?_
    refine x_iload_n C dX11_without_93 2 rfl ?_
    refine pf_11_39 C q183 z11 dX11_without_94 ?_
    refine X_nameM (fun M26 eM26 => ?_)
    replace h := h M26 eM26
    refine x_aload_n C dX11_without_97 0 rfl ?_
    refine x_callv (rest := []) C sv_X11_442 ob11 z11 (kX11_answersAll hG _ h) rfl rfl (Nat.le_of_ble_eq_true rfl) ⟨Nat.le_of_ble_eq_true rfl, Nat.le_of_ble_eq_true rfl⟩ rfl rfl ⟨Nat.le_of_ble_eq_true rfl, Nat.le_of_ble_eq_true rfl⟩ dX11_without_98 (fun M28 h => ?_)
    refine x_aload_n C dX11_without_101 0 rfl ?_
    refine x_iconst (v := (-1)) C dX11_without_102 rfl ?_
    refine pf_11_39 C q183 z11 dX11_without_103 ?_
    refine X_nameM (fun M29 eM29 => ?_)
    replace h := h M29 eM29
    refine x_iconst (v := 0) C dX11_without_106 rfl ?_
    refine x_istore (lv' := [(5, .int 0), (0, .ref (ga G 11 0)), (1, .int x1), (2, .int x2), (3, .int y3), (4, .int y4)]) C dX11_without_107 (Nat.le_of_ble_eq_true rfl) rfl ?_
    obtain ⟨n9, h⟩ := h
    refine X_sub (lv' := [(0, .ref (ga G 11 0)), (1, .int x1), (3, .int y3), (4, .int y4), (5, .int 0)]) [1, 2, 4, 5, 0] rfl ?_
    have hb : ∀ (L : Mem × Int32 × Int32 × Int32 → Prop) (s : Mem × Int32 × Int32 × Int32), (∀ t, L t → X Γ G Qf 8 0 0 109 [(0, .ref (ga G 11 0)), (1, .int x1), (3, .int t.2.1), (4, .int t.2.2.1), (5, .int t.2.2.2)] [] t.1) → bX11_without_109 x1 x2 Q L s.1 s.2.1 s.2.2.1 s.2.2.2 → X Γ G Qf 8 0 0 109 [(0, .ref (ga G 11 0)), (1, .int x1), (3, .int s.2.1), (4, .int s.2.2.1), (5, .int s.2.2.2)] [] s.1 := fun L s hL h => wX11_without_109 hG C E hL s.1 s.2.1 s.2.2.1 s.2.2.2 h
    have w9 := lp_walk (P := fun s : Mem × Int32 × Int32 × Int32 => X Γ G Qf 8 0 0 109 [(0, .ref (ga G 11 0)), (1, .int x1), (3, .int s.2.1), (4, .int s.2.2.1), (5, .int s.2.2.2)] [] s.1) h hb
    dsimp only at w9
    exact w9
  · replace h := h.2 c25
    refine x_aload_n C dX11_without_72 0 rfl ?_
    refine gf_11_54 C q205 z11 dX11_without_73 ?_
    refine x_iload C dX11_without_76 5 rfl ?_
    refine x_aload_n C dX11_without_78 0 rfl ?_
    refine gf_11_41 C q186 z11 dX11_without_79 ?_
    refine x_iload C dX11_without_82 5 rfl ?_
    obtain ⟨f30, h⟩ := h
    refine al_1241 C z1241 f30 dX11_without_84 ?_
    obtain ⟨f31, h⟩ := h
    refine as_1254 C z1254 f31 dX11_without_85 ?_
    refine X_nameM (fun M32 eM32 => ?_)
    replace h := h M32 eM32
    obtain ⟨v33, ev33⟩ : ∃ z : Int32, z = y5 + 1 := ⟨_, rfl⟩
    replace h := h v33 ev33
    refine x_iinc (v := v33) (lv' := [(5, .int v33), (0, .ref (ga G 11 0)), (1, .int x1), (2, .int x2), (3, .int y3), (4, .int y4)]) (j := 5) C dX11_without_86 rfl (by rw [ev33]; rfl) (Nat.le_of_ble_eq_true rfl) rfl ?_
    refine x_goto (tgt := 66) C dX11_without_89 (by decide) ?_
    refine X_sub (lv' := [(0, .ref (ga G 11 0)), (1, .int x1), (2, .int x2), (3, .int y3), (4, .int y4), (5, .int v33)]) [1, 2, 3, 4, 5, 0] rfl ?_
    have w9 := hL66 (M32, y3, y4, v33) h
    dsimp only at w9
    exact w9
set_option maxRecDepth 100000 in
set_option maxHeartbeats 400000 in
theorem kX11_without {l : Launch} {G : Gm} (hG : Gd G) (M : Mem) (x1 : Int32) (x2 : Int32) {Q : Int32 → Mem → Prop} (h : pX11_without M x1 x2 Q) : Cti l G yX11_without cX11_without 8 .int rmX11_without [.ref (ga G 11 0), .int x1, .int x2] M Q := by
  refine cti_of (own := RX11) (by decide +kernel) rfl (Nat.le_of_ble_eq_true rfl) hG (fun Γ Qf hl C E => ?_)
  subst hl
  show X Γ G Qf 8 0 0 0 [(0, .ref (ga G 11 0)), (1, .int x1), (2, .int x2)] [] M
  unfold pX11_without at h
  refine x_aload_n C dX11_without_0 0 rfl ?_
  refine x_iconst (v := 0) C dX11_without_1 rfl ?_
  refine pf_11_0 C q143 z11 dX11_without_2 ?_
  refine X_nameM (fun M1 eM1 => ?_)
  replace h := h M1 eM1
  refine x_aload_n C dX11_without_5 0 rfl ?_
  refine x_iload_n C dX11_without_6 1 rfl ?_
  refine x_iconst (v := 1) C dX11_without_7 rfl ?_
  refine x_bipush (v := 10) C dX11_without_8 rfl ?_
  refine x_scalli (rest := [.ref (ga G 11 0)]) C ss_X11_172 (kX11_in hG _ _ _ _ h) rfl rfl (Nat.le_of_ble_eq_true rfl) ⟨Nat.le_of_ble_eq_true rfl, Nat.le_of_ble_eq_true rfl⟩ rfl rfl ⟨Nat.le_of_ble_eq_true rfl, Nat.le_of_ble_eq_true rfl⟩ dX11_without_10 (fun r2 M3 h => ?_)
  refine x_if_ne (tgt := 20) C dX11_without_13 (by decide) (fun c4 => ?_) (fun c4 => ?_)
  · replace h := h.1 c4
    refine x_iconst (v := 0) C dX11_without_20 rfl ?_
    refine x_iconst (v := 1) C dX11_without_21 rfl ?_
    refine x_iconst (v := 1) C dX11_without_22 rfl ?_
    refine x_calli (rest := []) C sv_X11_179 ob11 z11 (kX11_bad hG _ _ _ _ h) rfl rfl (Nat.le_of_ble_eq_true rfl) ⟨Nat.le_of_ble_eq_true rfl, Nat.le_of_ble_eq_true rfl⟩ rfl rfl ⟨Nat.le_of_ble_eq_true rfl, Nat.le_of_ble_eq_true rfl⟩ dX11_without_23 (fun r5 M6 h => ?_)
    refine x_if_eq (tgt := 31) C dX11_without_26 (by decide) (fun c7 => ?_) (fun c7 => ?_)
    · replace h := h.1 c7
      refine x_iload_n C dX11_without_31 2 rfl ?_
      refine x_iconst (v := 0) C dX11_without_32 rfl ?_
      refine x_aload_n C dX11_without_33 0 rfl ?_
      refine gf_11_18 C q168 z11 dX11_without_34 ?_
      refine x_iconst (v := 1) C dX11_without_37 rfl ?_
      refine x_isub C dX11_without_38 ?_
      refine x_scalli (rest := []) C ss_X11_172 (kX11_in hG _ _ _ _ h) rfl rfl (Nat.le_of_ble_eq_true rfl) ⟨Nat.le_of_ble_eq_true rfl, Nat.le_of_ble_eq_true rfl⟩ rfl rfl ⟨Nat.le_of_ble_eq_true rfl, Nat.le_of_ble_eq_true rfl⟩ dX11_without_39 (fun r8 M9 h => ?_)
      refine x_if_ne (tgt := 47) C dX11_without_42 (by decide) (fun c10 => ?_) (fun c10 => ?_)
      · replace h := h.1 c10
        refine x_aload_n C dX11_without_47 0 rfl ?_
        refine x_callv (rest := []) C sv_X11_442 ob11 z11 (kX11_answersAll hG _ h) rfl rfl (Nat.le_of_ble_eq_true rfl) ⟨Nat.le_of_ble_eq_true rfl, Nat.le_of_ble_eq_true rfl⟩ rfl rfl ⟨Nat.le_of_ble_eq_true rfl, Nat.le_of_ble_eq_true rfl⟩ dX11_without_48 (fun M12 h => ?_)
        refine x_iload_n C dX11_without_51 1 rfl ?_
        refine x_aload_n C dX11_without_52 0 rfl ?_
        refine gf_11_40 C q184 z11 dX11_without_53 ?_
        refine x_scalli (rest := []) C ss_X11_236 (kX11_less hG _ _ _ h) rfl rfl (Nat.le_of_ble_eq_true rfl) ⟨Nat.le_of_ble_eq_true rfl, Nat.le_of_ble_eq_true rfl⟩ rfl rfl ⟨Nat.le_of_ble_eq_true rfl, Nat.le_of_ble_eq_true rfl⟩ dX11_without_56 (fun r13 M14 h => ?_)
        refine x_istore_n (lv' := [(3, .int r13), (0, .ref (ga G 11 0)), (1, .int x1), (2, .int x2)]) C dX11_without_59 rfl (Nat.le_of_ble_eq_true rfl) rfl ?_
        refine x_iconst (v := 0) C dX11_without_60 rfl ?_
        refine x_istore (lv' := [(4, .int 0), (3, .int r13), (0, .ref (ga G 11 0)), (1, .int x1), (2, .int x2)]) C dX11_without_61 (Nat.le_of_ble_eq_true rfl) rfl ?_
        refine x_iconst (v := 0) C dX11_without_63 rfl ?_
        refine x_istore (lv' := [(5, .int 0), (4, .int 0), (3, .int r13), (0, .ref (ga G 11 0)), (1, .int x1), (2, .int x2)]) C dX11_without_64 (Nat.le_of_ble_eq_true rfl) rfl ?_
        obtain ⟨n9, h⟩ := h
        refine X_sub (lv' := [(0, .ref (ga G 11 0)), (1, .int x1), (2, .int x2), (3, .int r13), (4, .int 0), (5, .int 0)]) [3, 4, 5, 2, 1, 0] rfl ?_
        have hb : ∀ (L : Mem × Int32 × Int32 × Int32 → Prop) (s : Mem × Int32 × Int32 × Int32), (∀ t, L t → X Γ G Qf 8 0 0 66 [(0, .ref (ga G 11 0)), (1, .int x1), (2, .int x2), (3, .int t.2.1), (4, .int t.2.2.1), (5, .int t.2.2.2)] [] t.1) → bX11_without_66 x1 x2 Q L s.1 s.2.1 s.2.2.1 s.2.2.2 → X Γ G Qf 8 0 0 66 [(0, .ref (ga G 11 0)), (1, .int x1), (2, .int x2), (3, .int s.2.1), (4, .int s.2.2.1), (5, .int s.2.2.2)] [] s.1 := fun L s hL h => wX11_without_66 hG C E hL s.1 s.2.1 s.2.2.1 s.2.2.2 h
        have w9 := lp_walk (P := fun s : Mem × Int32 × Int32 × Int32 => X Γ G Qf 8 0 0 66 [(0, .ref (ga G 11 0)), (1, .int x1), (2, .int x2), (3, .int s.2.1), (4, .int s.2.2.1), (5, .int s.2.2.2)] [] s.1) h hb
        dsimp only at w9
        exact w9
      · replace h := h.2 c10
        refine x_iconst (v := (-1)) C dX11_without_45 rfl ?_
        exact x_iret C E h (Nat.le_of_ble_eq_true rfl) (Nat.le_of_ble_eq_true rfl) dX11_without_46
    · replace h := h.2 c7
      refine x_iconst (v := 0) C dX11_without_29 rfl ?_
      exact x_iret C E h (Nat.le_of_ble_eq_true rfl) (Nat.le_of_ble_eq_true rfl) dX11_without_30
  · replace h := h.2 c4
    refine x_iconst (v := 1) C dX11_without_16 rfl ?_
    refine x_goto (tgt := 21) C dX11_without_17 (by decide) ?_
    refine x_iconst (v := 1) C dX11_without_21 rfl ?_
    refine x_iconst (v := 1) C dX11_without_22 rfl ?_
    refine x_calli (rest := []) C sv_X11_179 ob11 z11 (kX11_bad hG _ _ _ _ h) rfl rfl (Nat.le_of_ble_eq_true rfl) ⟨Nat.le_of_ble_eq_true rfl, Nat.le_of_ble_eq_true rfl⟩ rfl rfl ⟨Nat.le_of_ble_eq_true rfl, Nat.le_of_ble_eq_true rfl⟩ dX11_without_23 (fun r15 M16 h => ?_)
    refine x_if_eq (tgt := 31) C dX11_without_26 (by decide) (fun c17 => ?_) (fun c17 => ?_)
    · replace h := h.1 c17
      refine x_iload_n C dX11_without_31 2 rfl ?_
      refine x_iconst (v := 0) C dX11_without_32 rfl ?_
      refine x_aload_n C dX11_without_33 0 rfl ?_
      refine gf_11_18 C q168 z11 dX11_without_34 ?_
      refine x_iconst (v := 1) C dX11_without_37 rfl ?_
      refine x_isub C dX11_without_38 ?_
      refine x_scalli (rest := []) C ss_X11_172 (kX11_in hG _ _ _ _ h) rfl rfl (Nat.le_of_ble_eq_true rfl) ⟨Nat.le_of_ble_eq_true rfl, Nat.le_of_ble_eq_true rfl⟩ rfl rfl ⟨Nat.le_of_ble_eq_true rfl, Nat.le_of_ble_eq_true rfl⟩ dX11_without_39 (fun r18 M19 h => ?_)
      refine x_if_ne (tgt := 47) C dX11_without_42 (by decide) (fun c20 => ?_) (fun c20 => ?_)
      · replace h := h.1 c20
        refine x_aload_n C dX11_without_47 0 rfl ?_
        refine x_callv (rest := []) C sv_X11_442 ob11 z11 (kX11_answersAll hG _ h) rfl rfl (Nat.le_of_ble_eq_true rfl) ⟨Nat.le_of_ble_eq_true rfl, Nat.le_of_ble_eq_true rfl⟩ rfl rfl ⟨Nat.le_of_ble_eq_true rfl, Nat.le_of_ble_eq_true rfl⟩ dX11_without_48 (fun M22 h => ?_)
        refine x_iload_n C dX11_without_51 1 rfl ?_
        refine x_aload_n C dX11_without_52 0 rfl ?_
        refine gf_11_40 C q184 z11 dX11_without_53 ?_
        refine x_scalli (rest := []) C ss_X11_236 (kX11_less hG _ _ _ h) rfl rfl (Nat.le_of_ble_eq_true rfl) ⟨Nat.le_of_ble_eq_true rfl, Nat.le_of_ble_eq_true rfl⟩ rfl rfl ⟨Nat.le_of_ble_eq_true rfl, Nat.le_of_ble_eq_true rfl⟩ dX11_without_56 (fun r23 M24 h => ?_)
        refine x_istore_n (lv' := [(3, .int r23), (0, .ref (ga G 11 0)), (1, .int x1), (2, .int x2)]) C dX11_without_59 rfl (Nat.le_of_ble_eq_true rfl) rfl ?_
        refine x_iconst (v := 0) C dX11_without_60 rfl ?_
        refine x_istore (lv' := [(4, .int 0), (3, .int r23), (0, .ref (ga G 11 0)), (1, .int x1), (2, .int x2)]) C dX11_without_61 (Nat.le_of_ble_eq_true rfl) rfl ?_
        refine x_iconst (v := 0) C dX11_without_63 rfl ?_
        refine x_istore (lv' := [(5, .int 0), (4, .int 0), (3, .int r23), (0, .ref (ga G 11 0)), (1, .int x1), (2, .int x2)]) C dX11_without_64 (Nat.le_of_ble_eq_true rfl) rfl ?_
        obtain ⟨n9, h⟩ := h
        refine X_sub (lv' := [(0, .ref (ga G 11 0)), (1, .int x1), (2, .int x2), (3, .int r23), (4, .int 0), (5, .int 0)]) [3, 4, 5, 2, 1, 0] rfl ?_
        have hb : ∀ (L : Mem × Int32 × Int32 × Int32 → Prop) (s : Mem × Int32 × Int32 × Int32), (∀ t, L t → X Γ G Qf 8 0 0 66 [(0, .ref (ga G 11 0)), (1, .int x1), (2, .int x2), (3, .int t.2.1), (4, .int t.2.2.1), (5, .int t.2.2.2)] [] t.1) → bX11_without_66 x1 x2 Q L s.1 s.2.1 s.2.2.1 s.2.2.2 → X Γ G Qf 8 0 0 66 [(0, .ref (ga G 11 0)), (1, .int x1), (2, .int x2), (3, .int s.2.1), (4, .int s.2.2.1), (5, .int s.2.2.2)] [] s.1 := fun L s hL h => wX11_without_66 hG C E hL s.1 s.2.1 s.2.2.1 s.2.2.2 h
        have w9 := lp_walk (P := fun s : Mem × Int32 × Int32 × Int32 => X Γ G Qf 8 0 0 66 [(0, .ref (ga G 11 0)), (1, .int x1), (2, .int x2), (3, .int s.2.1), (4, .int s.2.2.1), (5, .int s.2.2.2)] [] s.1) h hb
        dsimp only at w9
        exact w9
      · replace h := h.2 c20
        refine x_iconst (v := (-1)) C dX11_without_45 rfl ?_
        exact x_iret C E h (Nat.le_of_ble_eq_true rfl) (Nat.le_of_ble_eq_true rfl) dX11_without_46
    · replace h := h.2 c17
      refine x_iconst (v := 0) C dX11_without_29 rfl ?_
      exact x_iret C E h (Nat.le_of_ble_eq_true rfl) (Nat.le_of_ble_eq_true rfl) dX11_without_30
def rmX11_status : Room := { frames := 1, cells := 0, slots := 0, locals := 22 }
def pX11_status (M : Mem) (x1 : Int32) (Q : Int32 → Mem → Prop) : Prop :=
  ∀ M1 : Mem, M1 = up1 M 1200 0 0 0 → pX11_in M1 x1 0 1 (fun r2 M3 => ((r2 = 0 → Q (-1) M3) ∧ (¬ r2 = 0 → vp_in x1 2 ∧ Q (M3.1 1201 0 (tn x1)) M3)))
set_option maxRecDepth 100000 in
set_option maxHeartbeats 400000 in
theorem kX11_status {l : Launch} {G : Gm} (hG : Gd G) (M : Mem) (x1 : Int32) {Q : Int32 → Mem → Prop} (h : pX11_status M x1 Q) : Cti l G yX11_status cX11_status 2 .int rmX11_status [.ref (ga G 11 0), .int x1] M Q := by
  refine cti_of (own := RX11) (by decide +kernel) rfl (Nat.le_of_ble_eq_true rfl) hG (fun Γ Qf hl C E => ?_)
  subst hl
  show X Γ G Qf 2 0 0 0 [(0, .ref (ga G 11 0)), (1, .int x1)] [] M
  unfold pX11_status at h
  refine x_aload_n C dX11_status_0 0 rfl ?_
  refine x_iconst (v := 0) C dX11_status_1 rfl ?_
  refine pf_11_0 C q143 z11 dX11_status_2 ?_
  refine X_nameM (fun M1 eM1 => ?_)
  replace h := h M1 eM1
  refine x_iload_n C dX11_status_5 1 rfl ?_
  refine x_iconst (v := 0) C dX11_status_6 rfl ?_
  refine x_iconst (v := 1) C dX11_status_7 rfl ?_
  refine x_scalli (rest := []) C ss_X11_172 (kX11_in hG _ _ _ _ h) rfl rfl (Nat.le_of_ble_eq_true rfl) ⟨Nat.le_of_ble_eq_true rfl, Nat.le_of_ble_eq_true rfl⟩ rfl rfl ⟨Nat.le_of_ble_eq_true rfl, Nat.le_of_ble_eq_true rfl⟩ dX11_status_8 (fun r2 M3 h => ?_)
  refine x_if_eq (tgt := 23) C dX11_status_11 (by decide) (fun c4 => ?_) (fun c4 => ?_)
  · replace h := h.1 c4
    refine x_iconst (v := (-1)) C dX11_status_23 rfl ?_
    exact x_iret C E h (Nat.le_of_ble_eq_true rfl) (Nat.le_of_ble_eq_true rfl) dX11_status_24
  · replace h := h.2 c4
    refine x_aload_n C dX11_status_14 0 rfl ?_
    refine gf_11_1 C q144 z11 dX11_status_15 ?_
    refine x_iload_n C dX11_status_18 1 rfl ?_
    obtain ⟨f5, h⟩ := h
    refine al_1201 C z1201 f5 dX11_status_19 ?_
    refine x_goto (tgt := 24) C dX11_status_20 (by decide) ?_
    exact x_iret C E h (Nat.le_of_ble_eq_true rfl) (Nat.le_of_ble_eq_true rfl) dX11_status_24
