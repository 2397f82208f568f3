def rmX3_missesMust : Room := { frames := 1, cells := 0, slots := 0, locals := 22 }
def bX3_missesMust_44 (x1 : Int32) (Q : Int32 → Mem → Prop) (L2 : Mem × Int32 → Prop) (M : Mem) (y2 : Int32) : Prop :=
  ∀ v8 : Int32, v8 = y2 + 1 → L2 (M, v8)
def bX3_missesMust_2 (x1 : Int32) (Q : Int32 → Mem → Prop) (L2 : Mem × Int32 → Prop) (M : Mem) (y2 : Int32) : Prop :=
  (((M.1 701 0 0) ≤ y2 → bz (M.1 705 0 0) ∧ Q (M.1 705 0 0) M) ∧ (¬ (M.1 701 0 0) ≤ y2 → vp_in y2 24 ∧ (((M.1 704 0 (tn y2)) = 0 → bX3_missesMust_44 x1 Q L2 M y2) ∧ (¬ (M.1 704 0 (tn y2)) = 0 → pX3_hasWord M x1 (M.1 702 0 (tn y2)) (fun r5 M6 => ((¬ r5 = 0 → bX3_missesMust_44 x1 Q L2 M6 y2) ∧ (r5 = 0 → Q 1 M6)))))))
def pX3_missesMust (M : Mem) (x1 : Int32) (Q : Int32 → Mem → Prop) : Prop :=
  ∃ n : Nat, lp (fun L s => bX3_missesMust_2 x1 Q L s.1 s.2) n (M, 0)
set_option maxRecDepth 100000 in
set_option maxHeartbeats 400000 in
theorem wX3_missesMust_44 {Γ : Gam} {G : Gm} {Qf : State → Prop} (hG : Gd G) (C : Cx Γ G cX3_missesMust 3 RX3 (some .boolean) rmX3_missesMust) {x1 : Int32} {Q : Int32 → Mem → Prop} (E : EndI Γ G Qf rmX3_missesMust Q) {L2 : Mem × Int32 → Prop} (hL2 : ∀ s, L2 s → X Γ G Qf 3 0 0 2 [(0, .ref (ga G 3 0)), (1, .int x1), (2, .int s.2)] [] s.1) (M : Mem) (y2 : Int32) (h : bX3_missesMust_44 x1 Q L2 M y2) : X Γ G Qf 3 0 0 44 [(0, .ref (ga G 3 0)), (1, .int x1), (2, .int y2)] [] M := by
  unfold bX3_missesMust_44 at h
  obtain ⟨v8, ev8⟩ : ∃ z : Int32, z = y2 + 1 := ⟨_, rfl⟩
  replace h := h v8 ev8
  refine x_iinc (v := v8) (lv' := [(2, .int v8), (0, .ref (ga G 3 0)), (1, .int x1)]) (j := 2) C dX3_missesMust_44 rfl (by rw [ev8]; rfl) (Nat.le_of_ble_eq_true rfl) rfl ?_
  refine x_goto (tgt := 2) C dX3_missesMust_47 (by decide) ?_
  refine X_sub (lv' := [(0, .ref (ga G 3 0)), (1, .int x1), (2, .int v8)]) [1, 2, 0] rfl ?_
  have w9 := hL2 (M, v8) h
  dsimp only at w9
  exact w9
set_option maxRecDepth 100000 in
set_option maxHeartbeats 400000 in
theorem wX3_missesMust_2 {Γ : Gam} {G : Gm} {Qf : State → Prop} (hG : Gd G) (C : Cx Γ G cX3_missesMust 3 RX3 (some .boolean) rmX3_missesMust) {x1 : Int32} {Q : Int32 → Mem → Prop} (E : EndI Γ G Qf rmX3_missesMust Q) {L2 : Mem × Int32 → Prop} (hL2 : ∀ s, L2 s → X Γ G Qf 3 0 0 2 [(0, .ref (ga G 3 0)), (1, .int x1), (2, .int s.2)] [] s.1) (M : Mem) (y2 : Int32) (h : bX3_missesMust_2 x1 Q L2 M y2) : X Γ G Qf 3 0 0 2 [(0, .ref (ga G 3 0)), (1, .int x1), (2, .int y2)] [] M := by
  unfold bX3_missesMust_2 at h
  refine x_iload_n C dX3_missesMust_2 2 rfl ?_
  refine x_aload_n C dX3_missesMust_3 0 rfl ?_
  refine gf_3_1 C q66 z3 dX3_missesMust_4 ?_
  refine gf_6_1 C q67 z6 dX3_missesMust_7 ?_
  refine x_icmp_ge (tgt := 50) C dX3_missesMust_10 (by decide) (fun c1 => ?_) (fun c1 => ?_)
  · replace h := h.1 c1
    refine x_aload_n C dX3_missesMust_50 0 rfl ?_
    refine gf_3_1 C q66 z3 dX3_missesMust_51 ?_
    refine gf_6_5 C q69 z6 dX3_missesMust_54 ?_
    obtain ⟨f2, h⟩ := h
    exact x_zret C E h (bz_nar f2) (Nat.le_of_ble_eq_true rfl) (Nat.le_of_ble_eq_true rfl) dX3_missesMust_57
  · replace h := h.2 c1
    refine x_aload_n C dX3_missesMust_13 0 rfl ?_
    refine gf_3_1 C q66 z3 dX3_missesMust_14 ?_
    refine gf_6_4 C q70 z6 dX3_missesMust_17 ?_
    refine x_iload_n C dX3_missesMust_20 2 rfl ?_
    obtain ⟨f3, h⟩ := h
    refine al_704 C z704 f3 dX3_missesMust_21 ?_
    refine x_if_eq (tgt := 44) C dX3_missesMust_22 (by decide) (fun c4 => ?_) (fun c4 => ?_)
    · replace h := h.1 c4
      refine X_sub (lv' := [(0, .ref (ga G 3 0)), (1, .int x1), (2, .int y2)]) [0, 1, 2] rfl ?_
      exact wX3_missesMust_44 hG C E hL2 M y2 h
    · replace h := h.2 c4
      refine x_aload_n C dX3_missesMust_25 0 rfl ?_
      refine x_iload_n C dX3_missesMust_26 1 rfl ?_
      refine x_aload_n C dX3_missesMust_27 0 rfl ?_
      refine gf_3_1 C q66 z3 dX3_missesMust_28 ?_
      refine gf_6_2 C q68 z6 dX3_missesMust_31 ?_
      refine x_iload_n C dX3_missesMust_34 2 rfl ?_
      refine al_702 C z702 f3 dX3_missesMust_35 ?_
      refine x_calli (rest := []) C sv_X3_61 ob3 z3 (kX3_hasWord hG _ _ _ h) rfl rfl (Nat.le_of_ble_eq_true rfl) ⟨Nat.le_of_ble_eq_true rfl, Nat.le_of_ble_eq_true rfl⟩ rfl rfl ⟨Nat.le_of_ble_eq_true rfl, Nat.le_of_ble_eq_true rfl⟩ dX3_missesMust_36 (fun r5 M6 h => ?_)
      refine x_if_ne (tgt := 44) C dX3_missesMust_39 (by decide) (fun c7 => ?_) (fun c7 => ?_)
      · replace h := h.1 c7
        refine X_sub (lv' := [(0, .ref (ga G 3 0)), (1, .int x1), (2, .int y2)]) [0, 1, 2] rfl ?_
        exact wX3_missesMust_44 hG C E hL2 M6 y2 h
      · replace h := h.2 c7
        refine x_iconst (v := 1) C dX3_missesMust_42 rfl ?_
        exact x_zret C E h rfl (Nat.le_of_ble_eq_true rfl) (Nat.le_of_ble_eq_true rfl) dX3_missesMust_43
set_option maxRecDepth 100000 in
set_option maxHeartbeats 400000 in
theorem kX3_missesMust {l : Launch} {G : Gm} (hG : Gd G) (M : Mem) (x1 : Int32) {Q : Int32 → Mem → Prop} (h : pX3_missesMust M x1 Q) : Cti l G yX3_missesMust cX3_missesMust 3 .boolean rmX3_missesMust [.ref (ga G 3 0), .int x1] M Q := by
  refine cti_of (own := RX3) (by decide +kernel) rfl (Nat.le_of_ble_eq_true rfl) hG (fun Γ Qf hl C E => ?_)
  subst hl
  show X Γ G Qf 3 0 0 0 [(0, .ref (ga G 3 0)), (1, .int x1)] [] M
  unfold pX3_missesMust at h
  refine x_iconst (v := 0) C dX3_missesMust_0 rfl ?_
  refine x_istore_n (lv' := [(2, .int 0), (0, .ref (ga G 3 0)), (1, .int x1)]) C dX3_missesMust_1 rfl (Nat.le_of_ble_eq_true rfl) rfl ?_
  obtain ⟨n9, h⟩ := h
  refine X_sub (lv' := [(0, .ref (ga G 3 0)), (1, .int x1), (2, .int 0)]) [1, 2, 0] rfl ?_
  have hb : ∀ (L : Mem × Int32 → Prop) (s : Mem × Int32), (∀ t, L t → X Γ G Qf 3 0 0 2 [(0, .ref (ga G 3 0)), (1, .int x1), (2, .int t.2)] [] t.1) → bX3_missesMust_2 x1 Q L s.1 s.2 → X Γ G Qf 3 0 0 2 [(0, .ref (ga G 3 0)), (1, .int x1), (2, .int s.2)] [] s.1 := fun L s hL h => wX3_missesMust_2 hG C E hL s.1 s.2 h
  have w9 := lp_walk (P := fun s : Mem × Int32 => X Γ G Qf 3 0 0 2 [(0, .ref (ga G 3 0)), (1, .int x1), (2, .int s.2)] [] s.1) h hb
  dsimp only at w9
  exact w9
def rmX3_hasNot : Room := { frames := 1, cells := 0, slots := 0, locals := 22 }
def bX3_hasNot_2 (x1 : Int32) (Q : Int32 → Mem → Prop) (L2 : Mem × Int32 → Prop) (M : Mem) (y2 : Int32) : Prop :=
  (((M.1 706 0 0) ≤ y2 → Q 0 M) ∧ (¬ (M.1 706 0 0) ≤ y2 → vp_in y2 6 ∧ pX3_hasWord M x1 (M.1 707 0 (tn y2)) (fun r3 M4 => ((r3 = 0 → ∀ v6 : Int32, v6 = y2 + 1 → L2 (M4, v6)) ∧ (¬ r3 = 0 → Q 1 M4)))))
def pX3_hasNot (M : Mem) (x1 : Int32) (Q : Int32 → Mem → Prop) : Prop :=
  ∃ n : Nat, lp (fun L s => bX3_hasNot_2 x1 Q L s.1 s.2) n (M, 0)
set_option maxRecDepth 100000 in
set_option maxHeartbeats 400000 in
theorem wX3_hasNot_2 {Γ : Gam} {G : Gm} {Qf : State → Prop} (hG : Gd G) (C : Cx Γ G cX3_hasNot 3 RX3 (some .boolean) rmX3_hasNot) {x1 : Int32} {Q : Int32 → Mem → Prop} (E : EndI Γ G Qf rmX3_hasNot Q) {L2 : Mem × Int32 → Prop} (hL2 : ∀ s, L2 s → X Γ G Qf 3 0 0 2 [(0, .ref (ga G 3 0)), (1, .int x1), (2, .int s.2)] [] s.1) (M : Mem) (y2 : Int32) (h : bX3_hasNot_2 x1 Q L2 M y2) : X Γ G Qf 3 0 0 2 [(0, .ref (ga G 3 0)), (1, .int x1), (2, .int y2)] [] M := by
  unfold bX3_hasNot_2 at h
  refine x_iload_n C dX3_hasNot_2 2 rfl ?_
  refine x_aload_n C dX3_hasNot_3 0 rfl ?_
  refine gf_3_1 C q66 z3 dX3_hasNot_4 ?_
  refine gf_6_6 C q71 z6 dX3_hasNot_7 ?_
  refine x_icmp_ge (tgt := 38) C dX3_hasNot_10 (by decide) (fun c1 => ?_) (fun c1 => ?_)
  · replace h := h.1 c1
    refine x_iconst (v := 0) C dX3_hasNot_38 rfl ?_
    exact x_zret C E h rfl (Nat.le_of_ble_eq_true rfl) (Nat.le_of_ble_eq_true rfl) dX3_hasNot_39
  · replace h := h.2 c1
    refine x_aload_n C dX3_hasNot_13 0 rfl ?_
    refine x_iload_n C dX3_hasNot_14 1 rfl ?_
    refine x_aload_n C dX3_hasNot_15 0 rfl ?_
    refine gf_3_1 C q66 z3 dX3_hasNot_16 ?_
    refine gf_6_7 C q72 z6 dX3_hasNot_19 ?_
    refine x_iload_n C dX3_hasNot_22 2 rfl ?_
    obtain ⟨f2, h⟩ := h
    refine al_707 C z707 f2 dX3_hasNot_23 ?_
    refine x_calli (rest := []) C sv_X3_61 ob3 z3 (kX3_hasWord hG _ _ _ h) rfl rfl (Nat.le_of_ble_eq_true rfl) ⟨Nat.le_of_ble_eq_true rfl, Nat.le_of_ble_eq_true rfl⟩ rfl rfl ⟨Nat.le_of_ble_eq_true rfl, Nat.le_of_ble_eq_true rfl⟩ dX3_hasNot_24 (fun r3 M4 h => ?_)
    refine x_if_eq (tgt := 32) C dX3_hasNot_27 (by decide) (fun c5 => ?_) (fun c5 => ?_)
    · replace h := h.1 c5
      obtain ⟨v6, ev6⟩ : ∃ z : Int32, z = y2 + 1 := ⟨_, rfl⟩
      replace h := h v6 ev6
      refine x_iinc (v := v6) (lv' := [(2, .int v6), (0, .ref (ga G 3 0)), (1, .int x1)]) (j := 2) C dX3_hasNot_32 rfl (by rw [ev6]; rfl) (Nat.le_of_ble_eq_true rfl) rfl ?_
      refine x_goto (tgt := 2) C dX3_hasNot_35 (by decide) ?_
      refine X_sub (lv' := [(0, .ref (ga G 3 0)), (1, .int x1), (2, .int v6)]) [1, 2, 0] rfl ?_
      have w9 := hL2 (M4, v6) h
      dsimp only at w9
      exact w9
    · replace h := h.2 c5
      refine x_iconst (v := 1) C dX3_hasNot_30 rfl ?_
      exact x_zret C E h rfl (Nat.le_of_ble_eq_true rfl) (Nat.le_of_ble_eq_true rfl) dX3_hasNot_31
set_option maxRecDepth 100000 in
set_option maxHeartbeats 400000 in
theorem kX3_hasNot {l : Launch} {G : Gm} (hG : Gd G) (M : Mem) (x1 : Int32) {Q : Int32 → Mem → Prop} (h : pX3_hasNot M x1 Q) : Cti l G yX3_hasNot cX3_hasNot 3 .boolean rmX3_hasNot [.ref (ga G 3 0), .int x1] M Q := by
  refine cti_of (own := RX3) (by decide +kernel) rfl (Nat.le_of_ble_eq_true rfl) hG (fun Γ Qf hl C E => ?_)
  subst hl
  show X Γ G Qf 3 0 0 0 [(0, .ref (ga G 3 0)), (1, .int x1)] [] M
  unfold pX3_hasNot at h
  refine x_iconst (v := 0) C dX3_hasNot_0 rfl ?_
  refine x_istore_n (lv' := [(2, .int 0), (0, .ref (ga G 3 0)), (1, .int x1)]) C dX3_hasNot_1 rfl (Nat.le_of_ble_eq_true rfl) rfl ?_
  obtain ⟨n9, h⟩ := h
  refine X_sub (lv' := [(0, .ref (ga G 3 0)), (1, .int x1), (2, .int 0)]) [1, 2, 0] rfl ?_
  have hb : ∀ (L : Mem × Int32 → Prop) (s : Mem × Int32), (∀ t, L t → X Γ G Qf 3 0 0 2 [(0, .ref (ga G 3 0)), (1, .int x1), (2, .int t.2)] [] t.1) → bX3_hasNot_2 x1 Q L s.1 s.2 → X Γ G Qf 3 0 0 2 [(0, .ref (ga G 3 0)), (1, .int x1), (2, .int s.2)] [] s.1 := fun L s hL h => wX3_hasNot_2 hG C E hL s.1 s.2 h
  have w9 := lp_walk (P := fun s : Mem × Int32 => X Γ G Qf 3 0 0 2 [(0, .ref (ga G 3 0)), (1, .int x1), (2, .int s.2)] [] s.1) h hb
  dsimp only at w9
  exact w9
def rmX3_phraseBegins : Room := { frames := 0, cells := 0, slots := 0, locals := 0 }
def bX3_phraseBegins_96 (x1 : Int32) (x2 : Int32) (Q : Int32 → Mem → Prop) (L38 : Mem × Int32 × Int32 × Int32 → Prop) (M : Mem) (y5 : Int32) (y6 : Int32) (y7 : Int32) : Prop :=
  ∀ v13 : Int32, v13 = y7 + 1 → L38 (M, y5, y6, v13)
def bX3_phraseBegins_86 (x1 : Int32) (x2 : Int32) (Q : Int32 → Mem → Prop) (L38 : Mem × Int32 × Int32 × Int32 → Prop) (M : Mem) (y5 : Int32) (y6 : Int32) (y7 : Int32) (y8 : Int32) : Prop :=
  ((¬ y8 = y5 → bX3_phraseBegins_96 x1 x2 Q L38 M y5 y6 y7) ∧ (y8 = y5 → ∀ v12 : Int32, v12 = y6 + 1 → bX3_phraseBegins_96 x1 x2 Q L38 M y5 v12 y7))
def bX3_phraseBegins_58 (x1 : Int32) (x2 : Int32) (Q : Int32 → Mem → Prop) (L38 : Mem × Int32 × Int32 × Int32 → Prop) (L58 : Mem × Int32 × Int32 × Int32 × Int32 → Prop) (M : Mem) (y5 : Int32) (y6 : Int32) (y7 : Int32) (y8 : Int32) : Prop :=
  ((y5 ≤ y8 → bX3_phraseBegins_86 x1 x2 Q L38 M y5 y6 y7 y8) ∧ (¬ y5 ≤ y8 → vp_in (y7 + y8) 150 ∧ vp_in y8 4 ∧ ((¬ (M.1 5501 (tn x1) (tn (y7 + y8))) = (M.1 5710 (tn x2) (tn y8)) → bX3_phraseBegins_86 x1 x2 Q L38 M y5 y6 y7 y8) ∧ ((M.1 5501 (tn x1) (tn (y7 + y8))) = (M.1 5710 (tn x2) (tn y8)) → ∀ v10 : Int32, v10 = y8 + 1 → L58 (M, y5, y6, y7, v10)))))
def bX3_phraseBegins_38 (x1 : Int32) (x2 : Int32) (Q : Int32 → Mem → Prop) (L38 : Mem × Int32 × Int32 × Int32 → Prop) (M : Mem) (y5 : Int32) (y6 : Int32) (y7 : Int32) : Prop :=
  vp_in x1 64 ∧ (((M.1 502 0 (tn x1)) < (y7 + y5) → Q y6 M) ∧ (¬ (M.1 502 0 (tn x1)) < (y7 + y5) → ∃ n : Nat, lp (fun L s => bX3_phraseBegins_58 x1 x2 Q L38 L s.1 s.2.1 s.2.2.1 s.2.2.2.1 s.2.2.2.2) n (M, y5, y6, y7, 0)))
def pX3_phraseBegins (M : Mem) (x1 : Int32) (x2 : Int32) (Q : Int32 → Mem → Prop) : Prop :=
  vp_in x1 64 ∧ vp_in x2 6 ∧ ∀ v3 : Int32, v3 = (M.1 709 0 (tn x2)) → ∃ n : Nat, lp (fun L s => bX3_phraseBegins_38 x1 x2 Q L s.1 s.2.1 s.2.2.1 s.2.2.2) n (M, v3, 0, 0)
set_option maxRecDepth 100000 in
set_option maxHeartbeats 400000 in
theorem wX3_phraseBegins_96 {Γ : Gam} {G : Gm} {Qf : State → Prop} (hG : Gd G) (C : Cx Γ G cX3_phraseBegins 9 RX3 (some .int) rmX3_phraseBegins) {x1 : Int32} {x2 : Int32} {Q : Int32 → Mem → Prop} (E : EndI Γ G Qf rmX3_phraseBegins Q) (g3 : (tn x1) < 64) (g4 : (tn x2) < 6) {L38 : Mem × Int32 × Int32 × Int32 → Prop} (hL38 : ∀ s, L38 s → X Γ G Qf 9 0 0 38 [(0, .ref (ga G 3 0)), (1, .int x1), (3, .ref (ga G 5501 (tn x1))), (4, .ref (ga G 5710 (tn x2))), (5, .int s.2.1), (6, .int s.2.2.1), (7, .int s.2.2.2)] [] s.1) (M : Mem) (y5 : Int32) (y6 : Int32) (y7 : Int32) (h : bX3_phraseBegins_96 x1 x2 Q L38 M y5 y6 y7) : X Γ G Qf 9 0 0 96 [(0, .ref (ga G 3 0)), (1, .int x1), (3, .ref (ga G 5501 (tn x1))), (4, .ref (ga G 5710 (tn x2))), (5, .int y5), (6, .int y6), (7, .int y7)] [] M := by
  unfold bX3_phraseBegins_96 at h
  obtain ⟨v13, ev13⟩ : ∃ z : Int32, z = y7 + 1 := ⟨_, rfl⟩
  replace h := h v13 ev13
  refine x_iinc (v := v13) (lv' := [(7, .int v13), (0, .ref (ga G 3 0)), (1, .int x1), (3, .ref (ga G 5501 (tn x1))), (4, .ref (ga G 5710 (tn x2))), (5, .int y5), (6, .int y6)]) (j := 6) C dX3_phraseBegins_96 rfl (by rw [ev13]; rfl) (Nat.le_of_ble_eq_true rfl) rfl ?_
  refine x_goto (tgt := 38) C dX3_phraseBegins_99 (by decide) ?_
  refine X_sub (lv' := [(0, .ref (ga G 3 0)), (1, .int x1), (3, .ref (ga G 5501 (tn x1))), (4, .ref (ga G 5710 (tn x2))), (5, .int y5), (6, .int y6), (7, .int v13)]) [1, 2, 3, 4, 5, 6, 0] rfl ?_
  have w9 := hL38 (M, y5, y6, v13) h
  dsimp only at w9
  exact w9
set_option maxRecDepth 100000 in
set_option maxHeartbeats 400000 in
theorem wX3_phraseBegins_86 {Γ : Gam} {G : Gm} {Qf : State → Prop} (hG : Gd G) (C : Cx Γ G cX3_phraseBegins 9 RX3 (some .int) rmX3_phraseBegins) {x1 : Int32} {x2 : Int32} {Q : Int32 → Mem → Prop} (E : EndI Γ G Qf rmX3_phraseBegins Q) (g3 : (tn x1) < 64) (g4 : (tn x2) < 6) {L38 : Mem × Int32 × Int32 × Int32 → Prop} (hL38 : ∀ s, L38 s → X Γ G Qf 9 0 0 38 [(0, .ref (ga G 3 0)), (1, .int x1), (3, .ref (ga G 5501 (tn x1))), (4, .ref (ga G 5710 (tn x2))), (5, .int s.2.1), (6, .int s.2.2.1), (7, .int s.2.2.2)] [] s.1) (M : Mem) (y5 : Int32) (y6 : Int32) (y7 : Int32) (y8 : Int32) (h : bX3_phraseBegins_86 x1 x2 Q L38 M y5 y6 y7 y8) : X Γ G Qf 9 0 0 86 [(0, .ref (ga G 3 0)), (1, .int x1), (3, .ref (ga G 5501 (tn x1))), (4, .ref (ga G 5710 (tn x2))), (5, .int y5), (6, .int y6), (7, .int y7), (8, .int y8)] [] M := by
  unfold bX3_phraseBegins_86 at h
  refine x_iload C dX3_phraseBegins_86 7 rfl ?_
  refine x_iload C dX3_phraseBegins_88 4 rfl ?_
  refine x_icmp_ne (tgt := 96) C dX3_phraseBegins_90 (by decide) (fun c11 => ?_) (fun c11 => ?_)
  · replace h := h.1 c11
    refine X_sub (lv' := [(0, .ref (ga G 3 0)), (1, .int x1), (3, .ref (ga G 5501 (tn x1))), (4, .ref (ga G 5710 (tn x2))), (5, .int y5), (6, .int y6), (7, .int y7)]) [0, 1, 2, 3, 4, 5, 6] rfl ?_
    exact wX3_phraseBegins_96 hG C E (g3) (g4) hL38 M y5 y6 y7 h
  · replace h := h.2 c11
    obtain ⟨v12, ev12⟩ : ∃ z : Int32, z = y6 + 1 := ⟨_, rfl⟩
    replace h := h v12 ev12
    refine x_iinc (v := v12) (lv' := [(6, .int v12), (0, .ref (ga G 3 0)), (1, .int x1), (3, .ref (ga G 5501 (tn x1))), (4, .ref (ga G 5710 (tn x2))), (5, .int y5), (7, .int y7), (8, .int y8)]) (j := 5) C dX3_phraseBegins_93 rfl (by rw [ev12]; rfl) (Nat.le_of_ble_eq_true rfl) rfl ?_
    refine X_sub (lv' := [(0, .ref (ga G 3 0)), (1, .int x1), (3, .ref (ga G 5501 (tn x1))), (4, .ref (ga G 5710 (tn x2))), (5, .int y5), (6, .int v12), (7, .int y7)]) [1, 2, 3, 4, 5, 0, 6] rfl ?_
    exact wX3_phraseBegins_96 hG C E (g3) (g4) hL38 M y5 v12 y7 h
set_option maxRecDepth 100000 in
set_option maxHeartbeats 400000 in
theorem wX3_phraseBegins_58 {Γ : Gam} {G : Gm} {Qf : State → Prop} (hG : Gd G) (C : Cx Γ G cX3_phraseBegins 9 RX3 (some .int) rmX3_phraseBegins) {x1 : Int32} {x2 : Int32} {Q : Int32 → Mem → Prop} (E : EndI Γ G Qf rmX3_phraseBegins Q) (g3 : (tn x1) < 64) (g4 : (tn x2) < 6) {L38 : Mem × Int32 × Int32 × Int32 → Prop} (hL38 : ∀ s, L38 s → X Γ G Qf 9 0 0 38 [(0, .ref (ga G 3 0)), (1, .int x1), (3, .ref (ga G 5501 (tn x1))), (4, .ref (ga G 5710 (tn x2))), (5, .int s.2.1), (6, .int s.2.2.1), (7, .int s.2.2.2)] [] s.1) {L58 : Mem × Int32 × Int32 × Int32 × Int32 → Prop} (hL58 : ∀ s, L58 s → X Γ G Qf 9 0 0 58 [(0, .ref (ga G 3 0)), (1, .int x1), (3, .ref (ga G 5501 (tn x1))), (4, .ref (ga G 5710 (tn x2))), (5, .int s.2.1), (6, .int s.2.2.1), (7, .int s.2.2.2.1), (8, .int s.2.2.2.2)] [] s.1) (M : Mem) (y5 : Int32) (y6 : Int32) (y7 : Int32) (y8 : Int32) (h : bX3_phraseBegins_58 x1 x2 Q L38 L58 M y5 y6 y7 y8) : X Γ G Qf 9 0 0 58 [(0, .ref (ga G 3 0)), (1, .int x1), (3, .ref (ga G 5501 (tn x1))), (4, .ref (ga G 5710 (tn x2))), (5, .int y5), (6, .int y6), (7, .int y7), (8, .int y8)] [] M := by
  unfold bX3_phraseBegins_58 at h
  refine x_iload C dX3_phraseBegins_58 7 rfl ?_
  refine x_iload C dX3_phraseBegins_60 4 rfl ?_
  refine x_icmp_ge (tgt := 86) C dX3_phraseBegins_62 (by decide) (fun c6 => ?_) (fun c6 => ?_)
  · replace h := h.1 c6
    refine X_sub (lv' := [(0, .ref (ga G 3 0)), (1, .int x1), (3, .ref (ga G 5501 (tn x1))), (4, .ref (ga G 5710 (tn x2))), (5, .int y5), (6, .int y6), (7, .int y7), (8, .int y8)]) [0, 1, 2, 3, 4, 5, 6, 7] rfl ?_
    exact wX3_phraseBegins_86 hG C E (g3) (g4) hL38 M y5 y6 y7 y8 h
  · replace h := h.2 c6
    refine x_aload_n C dX3_phraseBegins_65 2 rfl ?_
    refine x_iload C dX3_phraseBegins_66 6 rfl ?_
    refine x_iload C dX3_phraseBegins_68 7 rfl ?_
    refine x_iadd C dX3_phraseBegins_70 ?_
    obtain ⟨f7, h⟩ := h
    refine al_5501 C g3 f7 dX3_phraseBegins_71 ?_
    refine x_aload C dX3_phraseBegins_72 3 rfl ?_
    refine x_iload C dX3_phraseBegins_74 7 rfl ?_
    obtain ⟨f8, h⟩ := h
    refine al_5710 C g4 f8 dX3_phraseBegins_76 ?_
    refine x_icmp_ne (tgt := 86) C dX3_phraseBegins_77 (by decide) (fun c9 => ?_) (fun c9 => ?_)
    · replace h := h.1 c9
      refine X_sub (lv' := [(0, .ref (ga G 3 0)), (1, .int x1), (3, .ref (ga G 5501 (tn x1))), (4, .ref (ga G 5710 (tn x2))), (5, .int y5), (6, .int y6), (7, .int y7), (8, .int y8)]) [0, 1, 2, 3, 4, 5, 6, 7] rfl ?_
      exact wX3_phraseBegins_86 hG C E (g3) (g4) hL38 M y5 y6 y7 y8 h
    · replace h := h.2 c9
      obtain ⟨v10, ev10⟩ : ∃ z : Int32, z = y8 + 1 := ⟨_, rfl⟩
      replace h := h v10 ev10
      refine x_iinc (v := v10) (lv' := [(8, .int v10), (0, .ref (ga G 3 0)), (1, .int x1), (3, .ref (ga G 5501 (tn x1))), (4, .ref (ga G 5710 (tn x2))), (5, .int y5), (6, .int y6), (7, .int y7)]) (j := 7) C dX3_phraseBegins_80 rfl (by rw [ev10]; rfl) (Nat.le_of_ble_eq_true rfl) rfl ?_
      refine x_goto (tgt := 58) C dX3_phraseBegins_83 (by decide) ?_
      refine X_sub (lv' := [(0, .ref (ga G 3 0)), (1, .int x1), (3, .ref (ga G 5501 (tn x1))), (4, .ref (ga G 5710 (tn x2))), (5, .int y5), (6, .int y6), (7, .int y7), (8, .int v10)]) [1, 2, 3, 4, 5, 6, 7, 0] rfl ?_
      have w9 := hL58 (M, y5, y6, y7, v10) h
      dsimp only at w9
      exact w9
set_option maxRecDepth 100000 in
set_option maxHeartbeats 400000 in
theorem wX3_phraseBegins_38 {Γ : Gam} {G : Gm} {Qf : State → Prop} (hG : Gd G) (C : Cx Γ G cX3_phraseBegins 9 RX3 (some .int) rmX3_phraseBegins) {x1 : Int32} {x2 : Int32} {Q : Int32 → Mem → Prop} (E : EndI Γ G Qf rmX3_phraseBegins Q) (g3 : (tn x1) < 64) (g4 : (tn x2) < 6) {L38 : Mem × Int32 × Int32 × Int32 → Prop} (hL38 : ∀ s, L38 s → X Γ G Qf 9 0 0 38 [(0, .ref (ga G 3 0)), (1, .int x1), (3, .ref (ga G 5501 (tn x1))), (4, .ref (ga G 5710 (tn x2))), (5, .int s.2.1), (6, .int s.2.2.1), (7, .int s.2.2.2)] [] s.1) (M : Mem) (y5 : Int32) (y6 : Int32) (y7 : Int32) (h : bX3_phraseBegins_38 x1 x2 Q L38 M y5 y6 y7) : X Γ G Qf 9 0 0 38 [(0, .ref (ga G 3 0)), (1, .int x1), (3, .ref (ga G 5501 (tn x1))), (4, .ref (ga G 5710 (tn x2))), (5, .int y5), (6, .int y6), (7, .int y7)] [] M := by
  unfold bX3_phraseBegins_38 at h
  refine x_iload C dX3_phraseBegins_38 6 rfl ?_
  refine x_iload C dX3_phraseBegins_40 4 rfl ?_
  refine x_iadd C dX3_phraseBegins_42 ?_
  refine x_aload_n C dX3_phraseBegins_43 0 rfl ?_
  refine gf_3_0 C q64 z3 dX3_phraseBegins_44 ?_
  refine gf_4_2 C q76 z4 dX3_phraseBegins_47 ?_
  refine x_iload_n C dX3_phraseBegins_50 1 rfl ?_
  obtain ⟨f4, h⟩ := h
  refine al_502 C z502 f4 dX3_phraseBegins_51 ?_
  refine x_icmp_gt (tgt := 102) C dX3_phraseBegins_52 (by decide) (fun c5 => ?_) (fun c5 => ?_)
  · replace h := h.1 c5
    refine x_iload C dX3_phraseBegins_102 5 rfl ?_
    exact x_iret C E h (Nat.le_of_ble_eq_true rfl) (Nat.le_of_ble_eq_true rfl) dX3_phraseBegins_104
  · replace h := h.2 c5
    refine x_iconst (v := 0) C dX3_phraseBegins_55 rfl ?_
    refine x_istore (lv' := [(8, .int 0), (0, .ref (ga G 3 0)), (1, .int x1), (3, .ref (ga G 5501 (tn x1))), (4, .ref (ga G 5710 (tn x2))), (5, .int y5), (6, .int y6), (7, .int y7)]) C dX3_phraseBegins_56 (Nat.le_of_ble_eq_true rfl) rfl ?_
    obtain ⟨n9, h⟩ := h
    refine X_sub (lv' := [(0, .ref (ga G 3 0)), (1, .int x1), (3, .ref (ga G 5501 (tn x1))), (4, .ref (ga G 5710 (tn x2))), (5, .int y5), (6, .int y6), (7, .int y7), (8, .int 0)]) [1, 2, 3, 4, 5, 6, 7, 0] rfl ?_
    have hb : ∀ (L : Mem × Int32 × Int32 × Int32 × Int32 → Prop) (s : Mem × Int32 × Int32 × Int32 × Int32), (∀ t, L t → X Γ G Qf 9 0 0 58 [(0, .ref (ga G 3 0)), (1, .int x1), (3, .ref (ga G 5501 (tn x1))), (4, .ref (ga G 5710 (tn x2))), (5, .int t.2.1), (6, .int t.2.2.1), (7, .int t.2.2.2.1), (8, .int t.2.2.2.2)] [] t.1) → bX3_phraseBegins_58 x1 x2 Q L38 L s.1 s.2.1 s.2.2.1 s.2.2.2.1 s.2.2.2.2 → X Γ G Qf 9 0 0 58 [(0, .ref (ga G 3 0)), (1, .int x1), (3, .ref (ga G 5501 (tn x1))), (4, .ref (ga G 5710 (tn x2))), (5, .int s.2.1), (6, .int s.2.2.1), (7, .int s.2.2.2.1), (8, .int s.2.2.2.2)] [] s.1 := fun L s hL h => wX3_phraseBegins_58 hG C E (g3) (g4) hL38 hL s.1 s.2.1 s.2.2.1 s.2.2.2.1 s.2.2.2.2 h
    have w9 := lp_walk (P := fun s : Mem × Int32 × Int32 × Int32 × Int32 => X Γ G Qf 9 0 0 58 [(0, .ref (ga G 3 0)), (1, .int x1), (3, .ref (ga G 5501 (tn x1))), (4, .ref (ga G 5710 (tn x2))), (5, .int s.2.1), (6, .int s.2.2.1), (7, .int s.2.2.2.1), (8, .int s.2.2.2.2)] [] s.1) h hb
    dsimp only at w9
    exact w9
set_option maxRecDepth 100000 in
set_option maxHeartbeats 400000 in
theorem kX3_phraseBegins {l : Launch} {G : Gm} (hG : Gd G) (M : Mem) (x1 : Int32) (x2 : Int32) {Q : Int32 → Mem → Prop} (h : pX3_phraseBegins M x1 x2 Q) : Cti l G yX3_phraseBegins cX3_phraseBegins 9 .int rmX3_phraseBegins [.ref (ga G 3 0), .int x1, .int x2] M Q := by
  refine cti_of (own := RX3) (by decide +kernel) rfl (Nat.le_of_ble_eq_true rfl) hG (fun Γ Qf hl C E => ?_)
  subst hl
  show X Γ G Qf 9 0 0 0 [(0, .ref (ga G 3 0)), (1, .int x1), (2, .int x2)] [] M
  unfold pX3_phraseBegins at h
  refine x_aload_n C dX3_phraseBegins_0 0 rfl ?_
  refine gf_3_0 C q64 z3 dX3_phraseBegins_1 ?_
  refine gf_4_1 C q73 z4 dX3_phraseBegins_4 ?_
  refine x_iload_n C dX3_phraseBegins_7 1 rfl ?_
  obtain ⟨f1, h⟩ := h
  refine al_501 C z501 f1 dX3_phraseBegins_8 ?_
  refine x_astore_n (lv' := [(3, .ref (ga G 5501 (tn x1))), (0, .ref (ga G 3 0)), (1, .int x1), (2, .int x2)]) C dX3_phraseBegins_9 rfl (Nat.le_of_ble_eq_true rfl) rfl ?_
  refine x_aload_n C dX3_phraseBegins_10 1 rfl ?_
  refine gf_3_1 C q66 z3 dX3_phraseBegins_11 ?_
  refine gf_6_10 C q74 z6 dX3_phraseBegins_14 ?_
  refine x_iload_n C dX3_phraseBegins_17 3 rfl ?_
  obtain ⟨f2, h⟩ := h
  refine al_710 C z710 f2 dX3_phraseBegins_18 ?_
  refine x_astore (lv' := [(4, .ref (ga G 5710 (tn x2))), (3, .ref (ga G 5501 (tn x1))), (0, .ref (ga G 3 0)), (1, .int x1), (2, .int x2)]) C dX3_phraseBegins_19 (Nat.le_of_ble_eq_true rfl) rfl ?_
  refine x_aload_n C dX3_phraseBegins_21 2 rfl ?_
  refine gf_3_1 C q66 z3 dX3_phraseBegins_22 ?_
  refine gf_6_9 C q75 z6 dX3_phraseBegins_25 ?_
  refine x_iload_n C dX3_phraseBegins_28 4 rfl ?_
  refine al_709 C z709 f2 dX3_phraseBegins_29 ?_
  refine X_name (fun v3 ev3 => ?_)
  replace h := h v3 ev3
  refine x_istore (lv' := [(5, .int v3), (4, .ref (ga G 5710 (tn x2))), (3, .ref (ga G 5501 (tn x1))), (0, .ref (ga G 3 0)), (1, .int x1), (2, .int x2)]) C dX3_phraseBegins_30 (Nat.le_of_ble_eq_true rfl) rfl ?_
  refine x_iconst (v := 0) C dX3_phraseBegins_32 rfl ?_
  refine x_istore (lv' := [(6, .int 0), (5, .int v3), (4, .ref (ga G 5710 (tn x2))), (3, .ref (ga G 5501 (tn x1))), (0, .ref (ga G 3 0)), (1, .int x1), (2, .int x2)]) C dX3_phraseBegins_33 (Nat.le_of_ble_eq_true rfl) rfl ?_
  refine x_iconst (v := 0) C dX3_phraseBegins_35 rfl ?_
  refine x_istore (lv' := [(7, .int 0), (6, .int 0), (5, .int v3), (4, .ref (ga G 5710 (tn x2))), (3, .ref (ga G 5501 (tn x1))), (0, .ref (ga G 3 0)), (1, .int x1), (2, .int x2)]) C dX3_phraseBegins_36 (Nat.le_of_ble_eq_true rfl) rfl ?_
  obtain ⟨n9, h⟩ := h
  refine X_sub (lv' := [(0, .ref (ga G 3 0)), (1, .int x1), (3, .ref (ga G 5501 (tn x1))), (4, .ref (ga G 5710 (tn x2))), (5, .int v3), (6, .int 0), (7, .int 0)]) [5, 6, 4, 3, 2, 1, 0] rfl ?_
  have hb : ∀ (L : Mem × Int32 × Int32 × Int32 → Prop) (s : Mem × Int32 × Int32 × Int32), (∀ t, L t → X Γ G Qf 9 0 0 38 [(0, .ref (ga G 3 0)), (1, .int x1), (3, .ref (ga G 5501 (tn x1))), (4, .ref (ga G 5710 (tn x2))), (5, .int t.2.1), (6, .int t.2.2.1), (7, .int t.2.2.2)] [] t.1) → bX3_phraseBegins_38 x1 x2 Q L s.1 s.2.1 s.2.2.1 s.2.2.2 → X Γ G Qf 9 0 0 38 [(0, .ref (ga G 3 0)), (1, .int x1), (3, .ref (ga G 5501 (tn x1))), (4, .ref (ga G 5710 (tn x2))), (5, .int s.2.1), (6, .int s.2.2.1), (7, .int s.2.2.2)] [] s.1 := fun L s hL h => wX3_phraseBegins_38 hG C E ((vp_lt f1)) ((vp_lt f2)) hL s.1 s.2.1 s.2.2.1 s.2.2.2 h
  have w9 := lp_walk (P := fun s : Mem × Int32 × Int32 × Int32 => X Γ G Qf 9 0 0 38 [(0, .ref (ga G 3 0)), (1, .int x1), (3, .ref (ga G 5501 (tn x1))), (4, .ref (ga G 5710 (tn x2))), (5, .int s.2.1), (6, .int s.2.2.1), (7, .int s.2.2.2)] [] s.1) h hb
  dsimp only at w9
  exact w9
def rmX3_missesPhrase : Room := { frames := 1, cells := 0, slots := 0, locals := 28 }
def bX3_missesPhrase_2 (x1 : Int32) (Q : Int32 → Mem → Prop) (L2 : Mem × Int32 → Prop) (M : Mem) (y2 : Int32) : Prop :=
  (((M.1 708 0 0) ≤ y2 → Q 0 M) ∧ (¬ (M.1 708 0 0) ≤ y2 → pX3_phraseBegins M x1 y2 (fun r2 M3 => ((¬ r2 = 0 → ∀ v5 : Int32, v5 = y2 + 1 → L2 (M3, v5)) ∧ (r2 = 0 → Q 1 M3)))))
def pX3_missesPhrase (M : Mem) (x1 : Int32) (Q : Int32 → Mem → Prop) : Prop :=
  ∃ n : Nat, lp (fun L s => bX3_missesPhrase_2 x1 Q L s.1 s.2) n (M, 0)
set_option maxRecDepth 100000 in
set_option maxHeartbeats 400000 in
theorem wX3_missesPhrase_2 {Γ : Gam} {G : Gm} {Qf : State → Prop} (hG : Gd G) (C : Cx Γ G cX3_missesPhrase 3 RX3 (some .boolean) rmX3_missesPhrase) {x1 : Int32} {Q : Int32 → Mem → Prop} (E : EndI Γ G Qf rmX3_missesPhrase Q) {L2 : Mem × Int32 → Prop} (hL2 : ∀ s, L2 s → X Γ G Qf 3 0 0 2 [(0, .ref (ga G 3 0)), (1, .int x1), (2, .int s.2)] [] s.1) (M : Mem) (y2 : Int32) (h : bX3_missesPhrase_2 x1 Q L2 M y2) : X Γ G Qf 3 0 0 2 [(0, .ref (ga G 3 0)), (1, .int x1), (2, .int y2)] [] M := by
  unfold bX3_missesPhrase_2 at h
  refine x_iload_n C dX3_missesPhrase_2 2 rfl ?_
  refine x_aload_n C dX3_missesPhrase_3 0 rfl ?_
  refine gf_3_1 C q66 z3 dX3_missesPhrase_4 ?_
  refine gf_6_8 C q77 z6 dX3_missesPhrase_7 ?_
  refine x_icmp_ge (tgt := 30) C dX3_missesPhrase_10 (by decide) (fun c1 => ?_) (fun c1 => ?_)
  · replace h := h.1 c1
    refine x_iconst (v := 0) C dX3_missesPhrase_30 rfl ?_
    exact x_zret C E h rfl (Nat.le_of_ble_eq_true rfl) (Nat.le_of_ble_eq_true rfl) dX3_missesPhrase_31
  · replace h := h.2 c1
    refine x_aload_n C dX3_missesPhrase_13 0 rfl ?_
    refine x_iload_n C dX3_missesPhrase_14 1 rfl ?_
    refine x_iload_n C dX3_missesPhrase_15 2 rfl ?_
    refine x_calli (rest := []) C sv_X3_81 ob3 z3 (kX3_phraseBegins hG _ _ _ h) rfl rfl (Nat.le_of_ble_eq_true rfl) ⟨Nat.le_of_ble_eq_true rfl, Nat.le_of_ble_eq_true rfl⟩ rfl rfl ⟨Nat.le_of_ble_eq_true rfl, Nat.le_of_ble_eq_true rfl⟩ dX3_missesPhrase_16 (fun r2 M3 h => ?_)
    refine x_if_ne (tgt := 24) C dX3_missesPhrase_19 (by decide) (fun c4 => ?_) (fun c4 => ?_)
    · replace h := h.1 c4
      obtain ⟨v5, ev5⟩ : ∃ z : Int32, z = y2 + 1 := ⟨_, rfl⟩
      replace h := h v5 ev5
      refine x_iinc (v := v5) (lv' := [(2, .int v5), (0, .ref (ga G 3 0)), (1, .int x1)]) (j := 2) C dX3_missesPhrase_24 rfl (by rw [ev5]; rfl) (Nat.le_of_ble_eq_true rfl) rfl ?_
      refine x_goto (tgt := 2) C dX3_missesPhrase_27 (by decide) ?_
      refine X_sub (lv' := [(0, .ref (ga G 3 0)), (1, .int x1), (2, .int v5)]) [1, 2, 0] rfl ?_
      have w9 := hL2 (M3, v5) h
      dsimp only at w9
      exact w9
    · replace h := h.2 c4
      refine x_iconst (v := 1) C dX3_missesPhrase_22 rfl ?_
      exact x_zret C E h rfl (Nat.le_of_ble_eq_true rfl) (Nat.le_of_ble_eq_true rfl) dX3_missesPhrase_23
set_option maxRecDepth 100000 in
set_option maxHeartbeats 400000 in
theorem kX3_missesPhrase {l : Launch} {G : Gm} (hG : Gd G) (M : Mem) (x1 : Int32) {Q : Int32 → Mem → Prop} (h : pX3_missesPhrase M x1 Q) : Cti l G yX3_missesPhrase cX3_missesPhrase 3 .boolean rmX3_missesPhrase [.ref (ga G 3 0), .int x1] M Q := by
  refine cti_of (own := RX3) (by decide +kernel) rfl (Nat.le_of_ble_eq_true rfl) hG (fun Γ Qf hl C E => ?_)
  subst hl
  show X Γ G Qf 3 0 0 0 [(0, .ref (ga G 3 0)), (1, .int x1)] [] M
  unfold pX3_missesPhrase at h
  refine x_iconst (v := 0) C dX3_missesPhrase_0 rfl ?_
  refine x_istore_n (lv' := [(2, .int 0), (0, .ref (ga G 3 0)), (1, .int x1)]) C dX3_missesPhrase_1 rfl (Nat.le_of_ble_eq_true rfl) rfl ?_
  obtain ⟨n9, h⟩ := h
  refine X_sub (lv' := [(0, .ref (ga G 3 0)), (1, .int x1), (2, .int 0)]) [1, 2, 0] rfl ?_
  have hb : ∀ (L : Mem × Int32 → Prop) (s : Mem × Int32), (∀ t, L t → X Γ G Qf 3 0 0 2 [(0, .ref (ga G 3 0)), (1, .int x1), (2, .int t.2)] [] t.1) → bX3_missesPhrase_2 x1 Q L s.1 s.2 → X Γ G Qf 3 0 0 2 [(0, .ref (ga G 3 0)), (1, .int x1), (2, .int s.2)] [] s.1 := fun L s hL h => wX3_missesPhrase_2 hG C E hL s.1 s.2 h
  have w9 := lp_walk (P := fun s : Mem × Int32 => X Γ G Qf 3 0 0 2 [(0, .ref (ga G 3 0)), (1, .int x1), (2, .int s.2)] [] s.1) h hb
  dsimp only at w9
  exact w9
def rmX3_whyNot : Room := { frames := 2, cells := 0, slots := 0, locals := 50 }
def pX3_whyNot (M : Mem) (x1 : Int32) (x2 : Int32) (Q : Int32 → Mem → Prop) : Prop :=
  pX4_isGone M x1 (fun r1 M2 => ((r1 = 0 → pX3_hasSomeScored M2 x1 x2 (fun r4 M5 => ((¬ r4 = 0 → pX3_missesMust M5 x1 (fun r7 M8 => ((r7 = 0 → pX3_hasNot M8 x1 (fun r10 M11 => ((r10 = 0 → pX3_missesPhrase M11 x1 (fun r13 M14 => ((r13 = 0 → Q 0 M14) ∧ (¬ r13 = 0 → Q 5 M14)))) ∧ (¬ r10 = 0 → Q 4 M11)))) ∧ (¬ r7 = 0 → Q 3 M8)))) ∧ (r4 = 0 → Q 2 M5)))) ∧ (¬ r1 = 0 → Q 1 M2)))
set_option maxRecDepth 100000 in
set_option maxHeartbeats 400000 in
theorem kX3_whyNot {l : Launch} {G : Gm} (hG : Gd G) (M : Mem) (x1 : Int32) (x2 : Int32) {Q : Int32 → Mem → Prop} (h : pX3_whyNot M x1 x2 Q) : Cti l G yX3_whyNot cX3_whyNot 3 .int rmX3_whyNot [.ref (ga G 3 0), .int x1, .int x2] M Q := by
  refine cti_of (own := RX3) (by decide +kernel) rfl (Nat.le_of_ble_eq_true rfl) hG (fun Γ Qf hl C E => ?_)
  subst hl
  show X Γ G Qf 3 0 0 0 [(0, .ref (ga G 3 0)), (1, .int x1), (2, .int x2)] [] M
  unfold pX3_whyNot at h
  refine x_aload_n C dX3_whyNot_0 0 rfl ?_
  refine gf_3_0 C q64 z3 dX3_whyNot_1 ?_
  refine x_iload_n C dX3_whyNot_4 1 rfl ?_
  refine x_calli (rest := []) C sv_X3_30 ob4 z4 (kX4_isGone hG _ _ h) rfl rfl (Nat.le_of_ble_eq_true rfl) ⟨Nat.le_of_ble_eq_true rfl, Nat.le_of_ble_eq_true rfl⟩ rfl rfl ⟨Nat.le_of_ble_eq_true rfl, Nat.le_of_ble_eq_true rfl⟩ dX3_whyNot_5 (fun r1 M2 h => ?_)
  refine x_if_eq (tgt := 13) C dX3_whyNot_8 (by decide) (fun c3 => ?_) (fun c3 => ?_)
  · replace h := h.1 c3
    refine x_aload_n C dX3_whyNot_13 0 rfl ?_
    refine x_iload_n C dX3_whyNot_14 1 rfl ?_
    refine x_iload_n C dX3_whyNot_15 2 rfl ?_
    refine x_calli (rest := []) C sv_X3_36 ob3 z3 (kX3_hasSomeScored hG _ _ _ h) rfl rfl (Nat.le_of_ble_eq_true rfl) ⟨Nat.le_of_ble_eq_true rfl, Nat.le_of_ble_eq_true rfl⟩ rfl rfl ⟨Nat.le_of_ble_eq_true rfl, Nat.le_of_ble_eq_true rfl⟩ dX3_whyNot_16 (fun r4 M5 h => ?_)
    refine x_if_ne (tgt := 24) C dX3_whyNot_19 (by decide) (fun c6 => ?_) (fun c6 => ?_)
    · replace h := h.1 c6
      refine x_aload_n C dX3_whyNot_24 0 rfl ?_
      refine x_iload_n C dX3_whyNot_25 1 rfl ?_
      refine x_calli (rest := []) C sv_X3_40 ob3 z3 (kX3_missesMust hG _ _ h) rfl rfl (Nat.le_of_ble_eq_true rfl) ⟨Nat.le_of_ble_eq_true rfl, Nat.le_of_ble_eq_true rfl⟩ rfl rfl ⟨Nat.le_of_ble_eq_true rfl, Nat.le_of_ble_eq_true rfl⟩ dX3_whyNot_26 (fun r7 M8 h => ?_)
      refine x_if_eq (tgt := 34) C dX3_whyNot_29 (by decide) (fun c9 => ?_) (fun c9 => ?_)
      · replace h := h.1 c9
        refine x_aload_n C dX3_whyNot_34 0 rfl ?_
        refine x_iload_n C dX3_whyNot_35 1 rfl ?_
        refine x_calli (rest := []) C sv_X3_43 ob3 z3 (kX3_hasNot hG _ _ h) rfl rfl (Nat.le_of_ble_eq_true rfl) ⟨Nat.le_of_ble_eq_true rfl, Nat.le_of_ble_eq_true rfl⟩ rfl rfl ⟨Nat.le_of_ble_eq_true rfl, Nat.le_of_ble_eq_true rfl⟩ dX3_whyNot_36 (fun r10 M11 h => ?_)
        refine x_if_eq (tgt := 44) C dX3_whyNot_39 (by decide) (fun c12 => ?_) (fun c12 => ?_)
        · replace h := h.1 c12
          refine x_aload_n C dX3_whyNot_44 0 rfl ?_
          refine x_iload_n C dX3_whyNot_45 1 rfl ?_
          refine x_calli (rest := []) C sv_X3_46 ob3 z3 (kX3_missesPhrase hG _ _ h) rfl rfl (Nat.le_of_ble_eq_true rfl) ⟨Nat.le_of_ble_eq_true rfl, Nat.le_of_ble_eq_true rfl⟩ rfl rfl ⟨Nat.le_of_ble_eq_true rfl, Nat.le_of_ble_eq_true rfl⟩ dX3_whyNot_46 (fun r13 M14 h => ?_)
          refine x_if_eq (tgt := 56) C dX3_whyNot_49 (by decide) (fun c15 => ?_) (fun c15 => ?_)
          · replace h := h.1 c15
            refine x_iconst (v := 0) C dX3_whyNot_56 rfl ?_
            exact x_iret C E h (Nat.le_of_ble_eq_true rfl) (Nat.le_of_ble_eq_true rfl) dX3_whyNot_57
          · replace h := h.2 c15
            refine x_iconst (v := 5) C dX3_whyNot_52 rfl ?_
            refine x_goto (tgt := 57) C dX3_whyNot_53 (by decide) ?_
            exact x_iret C E h (Nat.le_of_ble_eq_true rfl) (Nat.le_of_ble_eq_true rfl) dX3_whyNot_57
        · replace h := h.2 c12
          refine x_iconst (v := 4) C dX3_whyNot_42 rfl ?_
          exact x_iret C E h (Nat.le_of_ble_eq_true rfl) (Nat.le_of_ble_eq_true rfl) dX3_whyNot_43
      · replace h := h.2 c9
        refine x_iconst (v := 3) C dX3_whyNot_32 rfl ?_
        exact x_iret C E h (Nat.le_of_ble_eq_true rfl) (Nat.le_of_ble_eq_true rfl) dX3_whyNot_33
    · replace h := h.2 c6
      refine x_iconst (v := 2) C dX3_whyNot_22 rfl ?_
      exact x_iret C E h (Nat.le_of_ble_eq_true rfl) (Nat.le_of_ble_eq_true rfl) dX3_whyNot_23
  · replace h := h.2 c3
    refine x_iconst (v := 1) C dX3_whyNot_11 rfl ?_
    exact x_iret C E h (Nat.le_of_ble_eq_true rfl) (Nat.le_of_ble_eq_true rfl) dX3_whyNot_12
def rmX3_leastDistance : Room := { frames := 1, cells := 0, slots := 0, locals := 14 }
def bX3_leastDistance_95 (x1 : Int32) (x2 : Int32) (x3 : Int32) (Q : Int32 → Mem → Prop) (L25 : Mem × Int32 × Int32 × Int32 × Int32 → Prop) (M : Mem) (y4 : Int32) (y5 : Int32) (y6 : Int32) (y8 : Int32) : Prop :=
  ∀ v10 : Int32, v10 = y8 + 1 → L25 (M, y4, y5, y6, v10)
def bX3_leastDistance_68 (x1 : Int32) (x2 : Int32) (x3 : Int32) (Q : Int32 → Mem → Prop) (L25 : Mem × Int32 × Int32 × Int32 × Int32 → Prop) (M : Mem) (y4 : Int32) (y5 : Int32) (y6 : Int32) (y8 : Int32) : Prop :=
  ((y5 = (-1) → bX3_leastDistance_95 x1 x2 x3 Q L25 M y4 y5 y6 y8) ∧ (¬ y5 = (-1) → ((y6 = (-1) → bX3_leastDistance_95 x1 x2 x3 Q L25 M y4 y5 y6 y8) ∧ (¬ y6 = (-1) → ∀ v9 : Int32, v9 = (imin y4 (iabs (y5 - y6))) → bX3_leastDistance_95 x1 x2 x3 Q L25 M v9 y5 y6 y8))))
def bX3_leastDistance_25 (x1 : Int32) (x2 : Int32) (x3 : Int32) (Q : Int32 → Mem → Prop) (L25 : Mem × Int32 × Int32 × Int32 × Int32 → Prop) (M : Mem) (y4 : Int32) (y5 : Int32) (y6 : Int32) (y8 : Int32) : Prop :=
  vp_in x1 64 ∧ (((M.1 502 0 (tn x1)) ≤ y8 → Q y4 M) ∧ (¬ (M.1 502 0 (tn x1)) ≤ y8 → vp_in y8 150 ∧ ((¬ (M.1 5501 (tn x1) (tn y8)) = x2 → ((¬ (M.1 5501 (tn x1) (tn y8)) = x3 → bX3_leastDistance_68 x1 x2 x3 Q L25 M y4 y5 y6 y8) ∧ ((M.1 5501 (tn x1) (tn y8)) = x3 → bX3_leastDistance_68 x1 x2 x3 Q L25 M y4 y5 y8 y8))) ∧ ((M.1 5501 (tn x1) (tn y8)) = x2 → bX3_leastDistance_68 x1 x2 x3 Q L25 M y4 y8 y6 y8))))
def pX3_leastDistance (M : Mem) (x1 : Int32) (x2 : Int32) (x3 : Int32) (Q : Int32 → Mem → Prop) : Prop :=
  vp_in x1 64 ∧ ∃ n : Nat, lp (fun L s => bX3_leastDistance_25 x1 x2 x3 Q L s.1 s.2.1 s.2.2.1 s.2.2.2.1 s.2.2.2.2) n (M, 150, (-1), (-1), 0)
set_option maxRecDepth 100000 in
set_option maxHeartbeats 400000 in
theorem wX3_leastDistance_95 {Γ : Gam} {G : Gm} {Qf : State → Prop} (hG : Gd G) (C : Cx Γ G cX3_leastDistance 9 RX3 (some .int) rmX3_leastDistance) {x1 : Int32} {x2 : Int32} {x3 : Int32} {Q : Int32 → Mem → Prop} (E : EndI Γ G Qf rmX3_leastDistance Q) (g7 : (tn x1) < 64) {L25 : Mem × Int32 × Int32 × Int32 × Int32 → Prop} (hL25 : ∀ s, L25 s → X Γ G Qf 9 0 0 25 [(0, .ref (ga G 3 0)), (1, .int x1), (2, .int x2), (3, .int x3), (4, .int s.2.1), (5, .int s.2.2.1), (6, .int s.2.2.2.1), (7, .ref (ga G 5501 (tn x1))), (8, .int s.2.2.2.2)] [] s.1) (M : Mem) (y4 : Int32) (y5 : Int32) (y6 : Int32) (y8 : Int32) (h : bX3_leastDistance_95 x1 x2 x3 Q L25 M y4 y5 y6 y8) : X Γ G Qf 9 0 0 95 [(0, .ref (ga G 3 0)), (1, .int x1), (2, .int x2), (3, .int x3), (4, .int y4), (5, .int y5), (6, .int y6), (7, .ref (ga G 5501 (tn x1))), (8, .int y8)] [] M := by
  unfold bX3_leastDistance_95 at h
  obtain ⟨v10, ev10⟩ : ∃ z : Int32, z = y8 + 1 := ⟨_, rfl⟩
  replace h := h v10 ev10
  refine x_iinc (v := v10) (lv' := [(8, .int v10), (0, .ref (ga G 3 0)), (1, .int x1), (2, .int x2), (3, .int x3), (4, .int y4), (5, .int y5), (6, .int y6), (7, .ref (ga G 5501 (tn x1)))]) (j := 8) C dX3_leastDistance_95 rfl (by rw [ev10]; rfl) (Nat.le_of_ble_eq_true rfl) rfl ?_
  refine x_goto (tgt := 25) C dX3_leastDistance_98 (by decide) ?_
  refine X_sub (lv' := [(0, .ref (ga G 3 0)), (1, .int x1), (2, .int x2), (3, .int x3), (4, .int y4), (5, .int y5), (6, .int y6), (7, .ref (ga G 5501 (tn x1))), (8, .int v10)]) [1, 2, 3, 4, 5, 6, 7, 8, 0] rfl ?_
  have w9 := hL25 (M, y4, y5, y6, v10) h
  dsimp only at w9
  exact w9
set_option maxRecDepth 100000 in
set_option maxHeartbeats 400000 in
theorem wX3_leastDistance_68 {Γ : Gam} {G : Gm} {Qf : State → Prop} (hG : Gd G) (C : Cx Γ G cX3_leastDistance 9 RX3 (some .int) rmX3_leastDistance) {x1 : Int32} {x2 : Int32} {x3 : Int32} {Q : Int32 → Mem → Prop} (E : EndI Γ G Qf rmX3_leastDistance Q) (g7 : (tn x1) < 64) {L25 : Mem × Int32 × Int32 × Int32 × Int32 → Prop} (hL25 : ∀ s, L25 s → X Γ G Qf 9 0 0 25 [(0, .ref (ga G 3 0)), (1, .int x1), (2, .int x2), (3, .int x3), (4, .int s.2.1), (5, .int s.2.2.1), (6, .int s.2.2.2.1), (7, .ref (ga G 5501 (tn x1))), (8, .int s.2.2.2.2)] [] s.1) (M : Mem) (y4 : Int32) (y5 : Int32) (y6 : Int32) (y8 : Int32) (h : bX3_leastDistance_68 x1 x2 x3 Q L25 M y4 y5 y6 y8) : X Γ G Qf 9 0 0 68 [(0, .ref (ga G 3 0)), (1, .int x1), (2, .int x2), (3, .int x3), (4, .int y4), (5, .int y5), (6, .int y6), (7, .ref (ga G 5501 (tn x1))), (8, .int y8)] [] M := by
  unfold bX3_leastDistance_68 at h
  refine x_iload C dX3_leastDistance_68 5 rfl ?_
  refine x_iconst (v := (-1)) C dX3_leastDistance_70 rfl ?_
  refine x_icmp_eq (tgt := 95) C dX3_leastDistance_71 (by decide) (fun c7 => ?_) (fun c7 => ?_)
  · replace h := h.1 c7
    refine X_sub (lv' := [(0, .ref (ga G 3 0)), (1, .int x1), (2, .int x2), (3, .int x3), (4, .int y4), (5, .int y5), (6, .int y6), (7, .ref (ga G 5501 (tn x1))), (8, .int y8)]) [0, 1, 2, 3, 4, 5, 6, 7, 8] rfl ?_
    exact wX3_leastDistance_95 hG C E (g7) hL25 M y4 y5 y6 y8 h
  · replace h := h.2 c7
    refine x_iload C dX3_leastDistance_74 6 rfl ?_
    refine x_iconst (v := (-1)) C dX3_leastDistance_76 rfl ?_
    refine x_icmp_eq (tgt := 95) C dX3_leastDistance_77 (by decide) (fun c8 => ?_) (fun c8 => ?_)
    · replace h := h.1 c8
      refine X_sub (lv' := [(0, .ref (ga G 3 0)), (1, .int x1), (2, .int x2), (3, .int x3), (4, .int y4), (5, .int y5), (6, .int y6), (7, .ref (ga G 5501 (tn x1))), (8, .int y8)]) [0, 1, 2, 3, 4, 5, 6, 7, 8] rfl ?_
      exact wX3_leastDistance_95 hG C E (g7) hL25 M y4 y5 y6 y8 h
    · replace h := h.2 c8
      refine x_iload C dX3_leastDistance_80 4 rfl ?_
      refine x_iload C dX3_leastDistance_82 5 rfl ?_
      refine x_iload C dX3_leastDistance_84 6 rfl ?_
      refine x_isub C dX3_leastDistance_86 ?_
      refine x_abs C sm_X3_125 (Nat.le_of_ble_eq_true rfl) (Nat.le_of_ble_eq_true rfl) (Nat.le_of_ble_eq_true rfl) (Nat.le_of_ble_eq_true rfl) dX3_leastDistance_87 ?_
      refine x_min C sm_X3_128 (Nat.le_of_ble_eq_true rfl) (Nat.le_of_ble_eq_true rfl) (Nat.le_of_ble_eq_true rfl) (Nat.le_of_ble_eq_true rfl) dX3_leastDistance_90 ?_
      refine X_name (fun v9 ev9 => ?_)
      replace h := h v9 ev9
      refine x_istore (lv' := [(4, .int v9), (0, .ref (ga G 3 0)), (1, .int x1), (2, .int x2), (3, .int x3), (5, .int y5), (6, .int y6), (7, .ref (ga G 5501 (tn x1))), (8, .int y8)]) C dX3_leastDistance_93 (Nat.le_of_ble_eq_true rfl) rfl ?_
      refine X_sub (lv' := [(0, .ref (ga G 3 0)), (1, .int x1), (2, .int x2), (3, .int x3), (4, .int v9), (5, .int y5), (6, .int y6), (7, .ref (ga G 5501 (tn x1))), (8, .int y8)]) [1, 2, 3, 4, 0, 5, 6, 7, 8] rfl ?_
      exact wX3_leastDistance_95 hG C E (g7) hL25 M v9 y5 y6 y8 h
set_option maxRecDepth 100000 in
set_option maxHeartbeats 400000 in
theorem wX3_leastDistance_25 {Γ : Gam} {G : Gm} {Qf : State → Prop} (hG : Gd G) (C : Cx Γ G cX3_leastDistance 9 RX3 (some .int) rmX3_leastDistance) {x1 : Int32} {x2 : Int32} {x3 : Int32} {Q : Int32 → Mem → Prop} (E : EndI Γ G Qf rmX3_leastDistance Q) (g7 : (tn x1) < 64) {L25 : Mem × Int32 × Int32 × Int32 × Int32 → Prop} (hL25 : ∀ s, L25 s → X Γ G Qf 9 0 0 25 [(0, .ref (ga G 3 0)), (1, .int x1), (2, .int x2), (3, .int x3), (4, .int s.2.1), (5, .int s.2.2.1), (6, .int s.2.2.2.1), (7, .ref (ga G 5501 (tn x1))), (8, .int s.2.2.2.2)] [] s.1) (M : Mem) (y4 : Int32) (y5 : Int32) (y6 : Int32) (y8 : Int32) (h : bX3_leastDistance_25 x1 x2 x3 Q L25 M y4 y5 y6 y8) : X Γ G Qf 9 0 0 25 [(0, .ref (ga G 3 0)), (1, .int x1), (2, .int x2), (3, .int x3), (4, .int y4), (5, .int y5), (6, .int y6), (7, .ref (ga G 5501 (tn x1))), (8, .int y8)] [] M := by
  unfold bX3_leastDistance_25 at h
  refine x_iload C dX3_leastDistance_25 8 rfl ?_
  refine x_aload_n C dX3_leastDistance_27 0 rfl ?_
  refine gf_3_0 C q64 z3 dX3_leastDistance_28 ?_
  refine gf_4_2 C q76 z4 dX3_leastDistance_31 ?_
  refine x_iload_n C dX3_leastDistance_34 1 rfl ?_
  obtain ⟨f2, h⟩ := h
  refine al_502 C z502 f2 dX3_leastDistance_35 ?_
  refine x_icmp_ge (tgt := 101) C dX3_leastDistance_36 (by decide) (fun c3 => ?_) (fun c3 => ?_)
  · replace h := h.1 c3
    refine x_iload C dX3_leastDistance_101 4 rfl ?_
    exact x_iret C E h (Nat.le_of_ble_eq_true rfl) (Nat.le_of_ble_eq_true rfl) dX3_leastDistance_103
  · replace h := h.2 c3
    refine x_aload C dX3_leastDistance_39 7 rfl ?_
    refine x_iload C dX3_leastDistance_41 8 rfl ?_
    obtain ⟨f4, h⟩ := h
    refine al_5501 C g7 f4 dX3_leastDistance_43 ?_
    refine x_iload_n C dX3_leastDistance_44 2 rfl ?_
    refine x_icmp_ne (tgt := 55) C dX3_leastDistance_45 (by decide) (fun c5 => ?_) (fun c5 => ?_)
    · replace h := h.1 c5
      refine x_aload C dX3_leastDistance_55 7 rfl ?_
      refine x_iload C dX3_leastDistance_57 8 rfl ?_
      refine al_5501 C g7 f4 dX3_leastDistance_59 ?_
      refine x_iload_n C dX3_leastDistance_60 3 rfl ?_
      refine x_icmp_ne (tgt := 68) C dX3_leastDistance_61 (by decide) (fun c6 => ?_) (fun c6 => ?_)
      · replace h := h.1 c6
        refine X_sub (lv' := [(0, .ref (ga G 3 0)), (1, .int x1), (2, .int x2), (3, .int x3), (4, .int y4), (5, .int y5), (6, .int y6), (7, .ref (ga G 5501 (tn x1))), (8, .int y8)]) [0, 1, 2, 3, 4, 5, 6, 7, 8] rfl ?_
        exact wX3_leastDistance_68 hG C E (g7) hL25 M y4 y5 y6 y8 h
      · replace h := h.2 c6
        refine x_iload C dX3_leastDistance_64 8 rfl ?_
        refine x_istore (lv' := [(6, .int y8), (0, .ref (ga G 3 0)), (1, .int x1), (2, .int x2), (3, .int x3), (4, .int y4), (5, .int y5), (7, .ref (ga G 5501 (tn x1))), (8, .int y8)]) C dX3_leastDistance_66 (Nat.le_of_ble_eq_true rfl) rfl ?_
        refine X_sub (lv' := [(0, .ref (ga G 3 0)), (1, .int x1), (2, .int x2), (3, .int x3), (4, .int y4), (5, .int y5), (6, .int y8), (7, .ref (ga G 5501 (tn x1))), (8, .int y8)]) [1, 2, 3, 4, 5, 6, 0, 7, 8] rfl ?_
        exact wX3_leastDistance_68 hG C E (g7) hL25 M y4 y5 y8 y8 h
    · replace h := h.2 c5
      refine x_iload C dX3_leastDistance_48 8 rfl ?_
      refine x_istore (lv' := [(5, .int y8), (0, .ref (ga G 3 0)), (1, .int x1), (2, .int x2), (3, .int x3), (4, .int y4), (6, .int y6), (7, .ref (ga G 5501 (tn x1))), (8, .int y8)]) C dX3_leastDistance_50 (Nat.le_of_ble_eq_true rfl) rfl ?_
      refine x_goto (tgt := 68) C dX3_leastDistance_52 (by decide) ?_
      refine X_sub (lv' := [(0, .ref (ga G 3 0)), (1, .int x1), (2, .int x2), (3, .int x3), (4, .int y4), (5, .int y8), (6, .int y6), (7, .ref (ga G 5501 (tn x1))), (8, .int y8)]) [1, 2, 3, 4, 5, 0, 6, 7, 8] rfl ?_
      exact wX3_leastDistance_68 hG C E (g7) hL25 M y4 y8 y6 y8 h
set_option maxRecDepth 100000 in
set_option maxHeartbeats 400000 in
theorem kX3_leastDistance {l : Launch} {G : Gm} (hG : Gd G) (M : Mem) (x1 : Int32) (x2 : Int32) (x3 : Int32) {Q : Int32 → Mem → Prop} (h : pX3_leastDistance M x1 x2 x3 Q) : Cti l G yX3_leastDistance cX3_leastDistance 9 .int rmX3_leastDistance [.ref (ga G 3 0), .int x1, .int x2, .int x3] M Q := by
  refine cti_of (own := RX3) (by decide +kernel) rfl (Nat.le_of_ble_eq_true rfl) hG (fun Γ Qf hl C E => ?_)
  subst hl
  show X Γ G Qf 9 0 0 0 [(0, .ref (ga G 3 0)), (1, .int x1), (2, .int x2), (3, .int x3)] [] M
  unfold pX3_leastDistance at h
  refine x_sipush (v := 150) C dX3_leastDistance_0 rfl ?_
  refine x_istore (lv' := [(4, .int 150), (0, .ref (ga G 3 0)), (1, .int x1), (2, .int x2), (3, .int x3)]) C dX3_leastDistance_3 (Nat.le_of_ble_eq_true rfl) rfl ?_
  refine x_iconst (v := (-1)) C dX3_leastDistance_5 rfl ?_
  refine x_istore (lv' := [(5, .int (-1)), (4, .int 150), (0, .ref (ga G 3 0)), (1, .int x1), (2, .int x2), (3, .int x3)]) C dX3_leastDistance_6 (Nat.le_of_ble_eq_true rfl) rfl ?_
  refine x_iconst (v := (-1)) C dX3_leastDistance_8 rfl ?_
  refine x_istore (lv' := [(6, .int (-1)), (5, .int (-1)), (4, .int 150), (0, .ref (ga G 3 0)), (1, .int x1), (2, .int x2), (3, .int x3)]) C dX3_leastDistance_9 (Nat.le_of_ble_eq_true rfl) rfl ?_
  refine x_aload_n C dX3_leastDistance_11 3 rfl ?_
  refine gf_3_0 C q64 z3 dX3_leastDistance_12 ?_
  refine gf_4_1 C q73 z4 dX3_leastDistance_15 ?_
  refine x_iload_n C dX3_leastDistance_18 4 rfl ?_
  obtain ⟨f1, h⟩ := h
  refine al_501 C z501 f1 dX3_leastDistance_19 ?_
  refine x_astore (lv' := [(7, .ref (ga G 5501 (tn x1))), (6, .int (-1)), (5, .int (-1)), (4, .int 150), (0, .ref (ga G 3 0)), (1, .int x1), (2, .int x2), (3, .int x3)]) C dX3_leastDistance_20 (Nat.le_of_ble_eq_true rfl) rfl ?_
  refine x_iconst (v := 0) C dX3_leastDistance_22 rfl ?_
  refine x_istore (lv' := [(8, .int 0), (7, .ref (ga G 5501 (tn x1))), (6, .int (-1)), (5, .int (-1)), (4, .int 150), (0, .ref (ga G 3 0)), (1, .int x1), (2, .int x2), (3, .int x3)]) C dX3_leastDistance_23 (Nat.le_of_ble_eq_true rfl) rfl ?_
  obtain ⟨n9, h⟩ := h
  refine X_sub (lv' := [(0, .ref (ga G 3 0)), (1, .int x1), (2, .int x2), (3, .int x3), (4, .int 150), (5, .int (-1)), (6, .int (-1)), (7, .ref (ga G 5501 (tn x1))), (8, .int 0)]) [5, 6, 7, 8, 4, 3, 2, 1, 0] rfl ?_
  have hb : ∀ (L : Mem × Int32 × Int32 × Int32 × Int32 → Prop) (s : Mem × Int32 × Int32 × Int32 × Int32), (∀ t, L t → X Γ G Qf 9 0 0 25 [(0, .ref (ga G 3 0)), (1, .int x1), (2, .int x2), (3, .int x3), (4, .int t.2.1), (5, .int t.2.2.1), (6, .int t.2.2.2.1), (7, .ref (ga G 5501 (tn x1))), (8, .int t.2.2.2.2)] [] t.1) → bX3_leastDistance_25 x1 x2 x3 Q L s.1 s.2.1 s.2.2.1 s.2.2.2.1 s.2.2.2.2 → X Γ G Qf 9 0 0 25 [(0, .ref (ga G 3 0)), (1, .int x1), (2, .int x2), (3, .int x3), (4, .int s.2.1), (5, .int s.2.2.1), (6, .int s.2.2.2.1), (7, .ref (ga G 5501 (tn x1))), (8, .int s.2.2.2.2)] [] s.1 := fun L s hL h => wX3_leastDistance_25 hG C E ((vp_lt f1)) hL s.1 s.2.1 s.2.2.1 s.2.2.2.1 s.2.2.2.2 h
  have w9 := lp_walk (P := fun s : Mem × Int32 × Int32 × Int32 × Int32 => X Γ G Qf 9 0 0 25 [(0, .ref (ga G 3 0)), (1, .int x1), (2, .int x2), (3, .int x3), (4, .int s.2.1), (5, .int s.2.2.1), (6, .int s.2.2.2.1), (7, .ref (ga G 5501 (tn x1))), (8, .int s.2.2.2.2)] [] s.1) h hb
  dsimp only at w9
  exact w9
def rmX3_nearness : Room := { frames := 2, cells := 0, slots := 0, locals := 42 }
def bX3_nearness_98 (x1 : Int32) (x2 : Int32) (Q : Int32 → Mem → Prop) (L8 : Mem × Int32 × Int32 × Int32 → Prop) (M : Mem) (y3 : Int32) (y4 : Int32) (y5 : Int32) : Prop :=
  ∀ v10 : Int32, v10 = y5 + 1 → L8 (M, y3, y4, v10)
def bX3_nearness_94 (x1 : Int32) (x2 : Int32) (Q : Int32 → Mem → Prop) (L8 : Mem × Int32 × Int32 × Int32 → Prop) (M : Mem) (y3 : Int32) (y5 : Int32) : Prop :=
  bX3_nearness_98 x1 x2 Q L8 M y3 y5 y5
def bX3_nearness_8 (x1 : Int32) (x2 : Int32) (Q : Int32 → Mem → Prop) (L8 : Mem × Int32 × Int32 × Int32 → Prop) (M : Mem) (y3 : Int32) (y4 : Int32) (y5 : Int32) : Prop :=
  (((M.1 701 0 0) ≤ y5 → Q y3 M) ∧ (¬ (M.1 701 0 0) ≤ y5 → (((M.1 711 0 0) ≤ 0 → Q y3 M) ∧ (¬ (M.1 711 0 0) ≤ 0 → ((¬ y5 = x2 → ((y4 = (-1) → bX3_nearness_94 x1 x2 Q L8 M y3 y5) ∧ (¬ y4 = (-1) → vp_in y4 24 ∧ vp_in y5 24 ∧ pX3_leastDistance M x1 (M.1 702 0 (tn y4)) (M.1 702 0 (tn y5)) (fun r7 M8 => ∀ v9 : Int32, v9 = (y3 + (50 * (imax 0 (((M8.1 711 0 0) + 1) - r7)))) → bX3_nearness_94 x1 x2 Q L8 M8 v9 y5)))) ∧ (y5 = x2 → bX3_nearness_98 x1 x2 Q L8 M y3 y4 y5))))))
def pX3_nearness (M : Mem) (x1 : Int32) (x2 : Int32) (Q : Int32 → Mem → Prop) : Prop :=
  ∃ n : Nat, lp (fun L s => bX3_nearness_8 x1 x2 Q L s.1 s.2.1 s.2.2.1 s.2.2.2) n (M, 0, (-1), 0)
set_option maxRecDepth 100000 in
set_option maxHeartbeats 400000 in
theorem wX3_nearness_98 {Γ : Gam} {G : Gm} {Qf : State → Prop} (hG : Gd G) (C : Cx Γ G cX3_nearness 7 RX3 (some .int) rmX3_nearness) {x1 : Int32} {x2 : Int32} {Q : Int32 → Mem → Prop} (E : EndI Γ G Qf rmX3_nearness Q) {L8 : Mem × Int32 × Int32 × Int32 → Prop} (hL8 : ∀ s, L8 s → X Γ G Qf 7 0 0 8 [(0, .ref (ga G 3 0)), (1, .int x1), (2, .int x2), (3, .int s.2.1), (4, .int s.2.2.1), (5, .int s.2.2.2)] [] s.1) (M : Mem) (y3 : Int32) (y4 : Int32) (y5 : Int32) (h : bX3_nearness_98 x1 x2 Q L8 M y3 y4 y5) : X Γ G Qf 7 0 0 98 [(0, .ref (ga G 3 0)), (1, .int x1), (2, .int x2), (3, .int y3), (4, .int y4), (5, .int y5)] [] M := by
  unfold bX3_nearness_98 at h
  obtain ⟨v10, ev10⟩ : ∃ z : Int32, z = y5 + 1 := ⟨_, rfl⟩
  replace h := h v10 ev10
  refine x_iinc (v := v10) (lv' := [(5, .int v10), (0, .ref (ga G 3 0)), (1, .int x1), (2, .int x2), (3, .int y3), (4, .int y4)]) (j := 5) C dX3_nearness_98 rfl (by rw [ev10]; rfl) (Nat.le_of_ble_eq_true rfl) rfl ?_
  refine x_goto (tgt := 8) C dX3_nearness_101 (by decide) ?_
  refine X_sub (lv' := [(0, .ref (ga G 3 0)), (1, .int x1), (2, .int x2), (3, .int y3), (4, .int y4), (5, .int v10)]) [1, 2, 3, 4, 5, 0] rfl ?_
  have w9 := hL8 (M, y3, y4, v10) h
  dsimp only at w9
  exact w9
set_option maxRecDepth 100000 in
set_option maxHeartbeats 400000 in
theorem wX3_nearness_94 {Γ : Gam} {G : Gm} {Qf : State → Prop} (hG : Gd G) (C : Cx Γ G cX3_nearness 7 RX3 (some .int) rmX3_nearness) {x1 : Int32} {x2 : Int32} {Q : Int32 → Mem → Prop} (E : EndI Γ G Qf rmX3_nearness Q) {L8 : Mem × Int32 × Int32 × Int32 → Prop} (hL8 : ∀ s, L8 s → X Γ G Qf 7 0 0 8 [(0, .ref (ga G 3 0)), (1, .int x1), (2, .int x2), (3, .int s.2.1), (4, .int s.2.2.1), (5, .int s.2.2.2)] [] s.1) (M : Mem) (y3 : Int32) (y5 : Int32) (h : bX3_nearness_94 x1 x2 Q L8 M y3 y5) : X Γ G Qf 7 0 0 94 [(0, .ref (ga G 3 0)), (1, .int x1), (2, .int x2), (3, .int y3), (5, .int y5)] [] M := by
  unfold bX3_nearness_94 at h
  refine x_iload C dX3_nearness_94 4 rfl ?_
  refine x_istore (lv' := [(4, .int y5), (0, .ref (ga G 3 0)), (1, .int x1), (2, .int x2), (3, .int y3), (5, .int y5)]) C dX3_nearness_96 (Nat.le_of_ble_eq_true rfl) rfl ?_
  refine X_sub (lv' := [(0, .ref (ga G 3 0)), (1, .int x1), (2, .int x2), (3, .int y3), (4, .int y5), (5, .int y5)]) [1, 2, 3, 4, 0, 5] rfl ?_
  exact wX3_nearness_98 hG C E hL8 M y3 y5 y5 h
set_option maxRecDepth 100000 in
set_option maxHeartbeats 400000 in
theorem wX3_nearness_8 {Γ : Gam} {G : Gm} {Qf : State → Prop} (hG : Gd G) (C : Cx Γ G cX3_nearness 7 RX3 (some .int) rmX3_nearness) {x1 : Int32} {x2 : Int32} {Q : Int32 → Mem → Prop} (E : EndI Γ G Qf rmX3_nearness Q) {L8 : Mem × Int32 × Int32 × Int32 → Prop} (hL8 : ∀ s, L8 s → X Γ G Qf 7 0 0 8 [(0, .ref (ga G 3 0)), (1, .int x1), (2, .int x2), (3, .int s.2.1), (4, .int s.2.2.1), (5, .int s.2.2.2)] [] s.1) (M : Mem) (y3 : Int32) (y4 : Int32) (y5 : Int32) (h : bX3_nearness_8 x1 x2 Q L8 M y3 y4 y5) : X Γ G Qf 7 0 0 8 [(0, .ref (ga G 3 0)), (1, .int x1), (2, .int x2), (3, .int y3), (4, .int y4), (5, .int y5)] [] M := by
  unfold bX3_nearness_8 at h
  refine x_iload C dX3_nearness_8 5 rfl ?_
  refine x_aload_n C dX3_nearness_10 0 rfl ?_
  refine gf_3_1 C q66 z3 dX3_nearness_11 ?_
  refine gf_6_1 C q67 z6 dX3_nearness_14 ?_
  refine x_icmp_ge (tgt := 104) C dX3_nearness_17 (by decide) (fun c1 => ?_) (fun c1 => ?_)
  · replace h := h.1 c1
    refine x_iload_n C dX3_nearness_104 3 rfl ?_
    exact x_iret C E h (Nat.le_of_ble_eq_true rfl) (Nat.le_of_ble_eq_true rfl) dX3_nearness_105
  · replace h := h.2 c1
    refine x_aload_n C dX3_nearness_20 0 rfl ?_
    refine gf_3_1 C q66 z3 dX3_nearness_21 ?_
    refine gf_6_11 C q78 z6 dX3_nearness_24 ?_
    refine x_if_le (tgt := 104) C dX3_nearness_27 (by decide) (fun c2 => ?_) (fun c2 => ?_)
    · replace h := h.1 c2
      refine x_iload_n C dX3_nearness_104 3 rfl ?_
      exact x_iret C E h (Nat.le_of_ble_eq_true rfl) (Nat.le_of_ble_eq_true rfl) dX3_nearness_105
    · replace h := h.2 c2
      refine x_iload C dX3_nearness_30 5 rfl ?_
      refine x_iload_n C dX3_nearness_32 2 rfl ?_
      refine x_icmp_ne (tgt := 39) C dX3_nearness_33 (by decide) (fun c3 => ?_) (fun c3 => ?_)
      · replace h := h.1 c3
        refine x_iload C dX3_nearness_39 4 rfl ?_
        refine x_iconst (v := (-1)) C dX3_nearness_41 rfl ?_
        refine x_icmp_eq (tgt := 94) C dX3_nearness_42 (by decide) (fun c4 => ?_) (fun c4 => ?_)
        · replace h := h.1 c4
          refine X_sub (lv' := [(0, .ref (ga G 3 0)), (1, .int x1), (2, .int x2), (3, .int y3), (5, .int y5)]) [0, 1, 2, 3, 5] rfl ?_
          exact wX3_nearness_94 hG C E hL8 M y3 y5 h
        · replace h := h.2 c4
          refine x_aload_n C dX3_nearness_45 0 rfl ?_
          refine x_iload_n C dX3_nearness_46 1 rfl ?_
          refine x_aload_n C dX3_nearness_47 0 rfl ?_
          refine gf_3_1 C q66 z3 dX3_nearness_48 ?_
          refine gf_6_2 C q68 z6 dX3_nearness_51 ?_
          refine x_iload C dX3_nearness_54 4 rfl ?_
          obtain ⟨f5, h⟩ := h
          refine al_702 C z702 f5 dX3_nearness_56 ?_
          refine x_aload_n C dX3_nearness_57 0 rfl ?_
          refine gf_3_1 C q66 z3 dX3_nearness_58 ?_
          refine gf_6_2 C q68 z6 dX3_nearness_61 ?_
          refine x_iload C dX3_nearness_64 5 rfl ?_
          obtain ⟨f6, h⟩ := h
          refine al_702 C z702 f6 dX3_nearness_66 ?_
          refine x_calli (rest := []) C sv_X3_116 ob3 z3 (kX3_leastDistance hG _ _ _ _ h) rfl rfl (Nat.le_of_ble_eq_true rfl) ⟨Nat.le_of_ble_eq_true rfl, Nat.le_of_ble_eq_true rfl⟩ rfl rfl ⟨Nat.le_of_ble_eq_true rfl, Nat.le_of_ble_eq_true rfl⟩ dX3_nearness_67 (fun r7 M8 h => ?_)
          refine x_istore (lv' := [(6, .int r7), (0, .ref (ga G 3 0)), (1, .int x1), (2, .int x2), (3, .int y3), (4, .int y4), (5, .int y5)]) C dX3_nearness_70 (Nat.le_of_ble_eq_true rfl) rfl ?_
          refine x_iload_n C dX3_nearness_72 4 rfl ?_
          refine x_bipush (v := 50) C dX3_nearness_73 rfl ?_
          refine x_iconst (v := 0) C dX3_nearness_75 rfl ?_
          refine x_aload_n C dX3_nearness_76 1 rfl ?_
          refine gf_3_1 C q66 z3 dX3_nearness_77 ?_
          refine gf_6_11 C q78 z6 dX3_nearness_80 ?_
          refine x_iconst (v := 1) C dX3_nearness_83 rfl ?_
          refine x_iadd C dX3_nearness_84 ?_
          refine x_iload C dX3_nearness_85 0 rfl ?_
          refine x_isub C dX3_nearness_87 ?_
          refine x_max C sm_X3_120 (Nat.le_of_ble_eq_true rfl) (Nat.le_of_ble_eq_true rfl) (Nat.le_of_ble_eq_true rfl) (Nat.le_of_ble_eq_true rfl) dX3_nearness_88 ?_
          refine x_imul C dX3_nearness_91 ?_
          refine x_iadd C dX3_nearness_92 ?_
          refine X_name (fun v9 ev9 => ?_)
          replace h := h v9 ev9
          refine x_istore_n (lv' := [(3, .int v9), (6, .int r7), (0, .ref (ga G 3 0)), (1, .int x1), (2, .int x2), (4, .int y4), (5, .int y5)]) C dX3_nearness_93 rfl (Nat.le_of_ble_eq_true rfl) rfl ?_
          refine X_sub (lv' := [(0, .ref (ga G 3 0)), (1, .int x1), (2, .int x2), (3, .int v9), (5, .int y5)]) [2, 3, 4, 0, 6] rfl ?_
          exact wX3_nearness_94 hG C E hL8 M8 v9 y5 h
      · replace h := h.2 c3
        refine x_goto (tgt := 98) C dX3_nearness_36 (by decide) ?_
        refine X_sub (lv' := [(0, .ref (ga G 3 0)), (1, .int x1), (2, .int x2), (3, .int y3), (4, .int y4), (5, .int y5)]) [0, 1, 2, 3, 4, 5] rfl ?_
        exact wX3_nearness_98 hG C E hL8 M y3 y4 y5 h
set_option maxRecDepth 100000 in
set_option maxHeartbeats 400000 in
theorem kX3_nearness {l : Launch} {G : Gm} (hG : Gd G) (M : Mem) (x1 : Int32) (x2 : Int32) {Q : Int32 → Mem → Prop} (h : pX3_nearness M x1 x2 Q) : Cti l G yX3_nearness cX3_nearness 7 .int rmX3_nearness [.ref (ga G 3 0), .int x1, .int x2] M Q := by
  refine cti_of (own := RX3) (by decide +kernel) rfl (Nat.le_of_ble_eq_true rfl) hG (fun Γ Qf hl C E => ?_)
  subst hl
  show X Γ G Qf 7 0 0 0 [(0, .ref (ga G 3 0)), (1, .int x1), (2, .int x2)] [] M
  unfold pX3_nearness at h
  refine x_iconst (v := 0) C dX3_nearness_0 rfl ?_
  refine x_istore_n (lv' := [(3, .int 0), (0, .ref (ga G 3 0)), (1, .int x1), (2, .int x2)]) C dX3_nearness_1 rfl (Nat.le_of_ble_eq_true rfl) rfl ?_
  refine x_iconst (v := (-1)) C dX3_nearness_2 rfl ?_
  refine x_istore (lv' := [(4, .int (-1)), (3, .int 0), (0, .ref (ga G 3 0)), (1, .int x1), (2, .int x2)]) C dX3_nearness_3 (Nat.le_of_ble_eq_true rfl) rfl ?_
  refine x_iconst (v := 0) C dX3_nearness_5 rfl ?_
  refine x_istore (lv' := [(5, .int 0), (4, .int (-1)), (3, .int 0), (0, .ref (ga G 3 0)), (1, .int x1), (2, .int x2)]) C dX3_nearness_6 (Nat.le_of_ble_eq_true rfl) rfl ?_
  obtain ⟨n9, h⟩ := h
  refine X_sub (lv' := [(0, .ref (ga G 3 0)), (1, .int x1), (2, .int x2), (3, .int 0), (4, .int (-1)), (5, .int 0)]) [3, 4, 5, 2, 1, 0] rfl ?_
  have hb : ∀ (L : Mem × Int32 × Int32 × Int32 → Prop) (s : Mem × Int32 × Int32 × Int32), (∀ t, L t → X Γ G Qf 7 0 0 8 [(0, .ref (ga G 3 0)), (1, .int x1), (2, .int x2), (3, .int t.2.1), (4, .int t.2.2.1), (5, .int t.2.2.2)] [] t.1) → bX3_nearness_8 x1 x2 Q L s.1 s.2.1 s.2.2.1 s.2.2.2 → X Γ G Qf 7 0 0 8 [(0, .ref (ga G 3 0)), (1, .int x1), (2, .int x2), (3, .int s.2.1), (4, .int s.2.2.1), (5, .int s.2.2.2)] [] s.1 := fun L s hL h => wX3_nearness_8 hG C E hL s.1 s.2.1 s.2.2.1 s.2.2.2 h
  have w9 := lp_walk (P := fun s : Mem × Int32 × Int32 × Int32 => X Γ G Qf 7 0 0 8 [(0, .ref (ga G 3 0)), (1, .int x1), (2, .int x2), (3, .int s.2.1), (4, .int s.2.2.1), (5, .int s.2.2.2)] [] s.1) h hb
  dsimp only at w9
  exact w9
