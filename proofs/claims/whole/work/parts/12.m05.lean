def rmX11_phrasesIn : Room := { frames := 0, cells := 0, slots := 0, locals := 0 }
def bX11_phrasesIn_86 (x1 : Int32) (x2 : Int32) (Q : Int32 → Mem → Prop) (L5 : Mem × Int32 × Int32 → Prop) (M : Mem) (y3 : Int32) (y4 : Int32) : Prop :=
  ∀ v15 : Int32, v15 = y4 + 1 → L5 (M, y3, v15)
def bX11_phrasesIn_67 (x1 : Int32) (x2 : Int32) (Q : Int32 → Mem → Prop) (L5 : Mem × Int32 × Int32 → Prop) (M : Mem) (y3 : Int32) (y4 : Int32) (y5 : Int32) : Prop :=
  vp_in x1 6 ∧ ((¬ y5 = (M.1 1229 0 (tn x1)) → ∀ v13 : Int32, v13 = (y3 + 0) → bX11_phrasesIn_86 x1 x2 Q L5 M v13 y4) ∧ (y5 = (M.1 1229 0 (tn x1)) → ∀ v14 : Int32, v14 = (y3 + 1) → bX11_phrasesIn_86 x1 x2 Q L5 M v14 y4))
def bX11_phrasesIn_26 (x1 : Int32) (x2 : Int32) (Q : Int32 → Mem → Prop) (L5 : Mem × Int32 × Int32 → Prop) (L26 : Mem × Int32 × Int32 × Int32 → Prop) (M : Mem) (y3 : Int32) (y4 : Int32) (y5 : Int32) : Prop :=
  vp_in x1 6 ∧ (((M.1 1229 0 (tn x1)) ≤ y5 → bX11_phrasesIn_67 x1 x2 Q L5 M y3 y4 y5) ∧ (¬ (M.1 1229 0 (tn x1)) ≤ y5 → vp_in x2 64 ∧ vp_in (y4 + y5) 150 ∧ vp_in y5 4 ∧ ((¬ (M.1 6212 (tn x2) (tn (y4 + y5))) = (M.1 6230 (tn x1) (tn y5)) → bX11_phrasesIn_67 x1 x2 Q L5 M y3 y4 y5) ∧ ((M.1 6212 (tn x2) (tn (y4 + y5))) = (M.1 6230 (tn x1) (tn y5)) → ∀ v10 : Int32, v10 = y5 + 1 → L26 (M, y3, y4, v10)))))
def bX11_phrasesIn_5 (x1 : Int32) (x2 : Int32) (Q : Int32 → Mem → Prop) (L5 : Mem × Int32 × Int32 → Prop) (M : Mem) (y3 : Int32) (y4 : Int32) : Prop :=
  vp_in x1 6 ∧ vp_in x2 64 ∧ (((M.1 1213 0 (tn x2)) < (y4 + (M.1 1229 0 (tn x1))) → Q y3 M) ∧ (¬ (M.1 1213 0 (tn x2)) < (y4 + (M.1 1229 0 (tn x1))) → ∃ n : Nat, lp (fun L s => bX11_phrasesIn_26 x1 x2 Q L5 L s.1 s.2.1 s.2.2.1 s.2.2.2) n (M, y3, y4, 0)))
def pX11_phrasesIn (M : Mem) (x1 : Int32) (x2 : Int32) (Q : Int32 → Mem → Prop) : Prop :=
  ∃ n : Nat, lp (fun L s => bX11_phrasesIn_5 x1 x2 Q L s.1 s.2.1 s.2.2) n (M, 0, 0)
set_option maxRecDepth 100000 in
set_option maxHeartbeats 400000 in
theorem wX11_phrasesIn_86 {Γ : Gam} {G : Gm} {Qf : State → Prop} (hG : Gd G) (C : Cx Γ G cX11_phrasesIn 6 RX11 (some .int) rmX11_phrasesIn) {x1 : Int32} {x2 : Int32} {Q : Int32 → Mem → Prop} (E : EndI Γ G Qf rmX11_phrasesIn Q) {L5 : Mem × Int32 × Int32 → Prop} (hL5 : ∀ s, L5 s → X Γ G Qf 6 0 0 5 [(0, .ref (ga G 11 0)), (1, .int x1), (2, .int x2), (3, .int s.2.1), (4, .int s.2.2)] [] s.1) (M : Mem) (y3 : Int32) (y4 : Int32) (h : bX11_phrasesIn_86 x1 x2 Q L5 M y3 y4) : X Γ G Qf 6 0 0 86 [(0, .ref (ga G 11 0)), (1, .int x1), (2, .int x2), (3, .int y3), (4, .int y4)] [] M := by
  unfold bX11_phrasesIn_86 at h
  obtain ⟨v15, ev15⟩ : ∃ z : Int32, z = y4 + 1 := ⟨_, rfl⟩
  replace h := h v15 ev15
  refine x_iinc (v := v15) (lv' := [(4, .int v15), (0, .ref (ga G 11 0)), (1, .int x1), (2, .int x2), (3, .int y3)]) (j := 4) C dX11_phrasesIn_86 rfl (by rw [ev15]; rfl) (Nat.le_of_ble_eq_true rfl) rfl ?_
  refine x_goto (tgt := 5) C dX11_phrasesIn_89 (by decide) ?_
  refine X_sub (lv' := [(0, .ref (ga G 11 0)), (1, .int x1), (2, .int x2), (3, .int y3), (4, .int v15)]) [1, 2, 3, 4, 0] rfl ?_
  have w9 := hL5 (M, y3, v15) h
  dsimp only at w9
  exact w9
set_option maxRecDepth 100000 in
set_option maxHeartbeats 400000 in
theorem wX11_phrasesIn_67 {Γ : Gam} {G : Gm} {Qf : State → Prop} (hG : Gd G) (C : Cx Γ G cX11_phrasesIn 6 RX11 (some .int) rmX11_phrasesIn) {x1 : Int32} {x2 : Int32} {Q : Int32 → Mem → Prop} (E : EndI Γ G Qf rmX11_phrasesIn Q) {L5 : Mem × Int32 × Int32 → Prop} (hL5 : ∀ s, L5 s → X Γ G Qf 6 0 0 5 [(0, .ref (ga G 11 0)), (1, .int x1), (2, .int x2), (3, .int s.2.1), (4, .int s.2.2)] [] s.1) (M : Mem) (y3 : Int32) (y4 : Int32) (y5 : Int32) (h : bX11_phrasesIn_67 x1 x2 Q L5 M y3 y4 y5) : X Γ G Qf 6 0 0 67 [(0, .ref (ga G 11 0)), (1, .int x1), (2, .int x2), (3, .int y3), (4, .int y4), (5, .int y5)] [] M := by
  unfold bX11_phrasesIn_67 at h
  refine x_iload_n C dX11_phrasesIn_67 3 rfl ?_
  refine x_iload C dX11_phrasesIn_68 5 rfl ?_
  refine x_aload_n C dX11_phrasesIn_70 0 rfl ?_
  refine gf_11_29 C q179 z11 dX11_phrasesIn_71 ?_
  refine x_iload_n C dX11_phrasesIn_74 1 rfl ?_
  obtain ⟨f11, h⟩ := h
  refine al_1229 C z1229 f11 dX11_phrasesIn_75 ?_
  refine x_icmp_ne (tgt := 83) C dX11_phrasesIn_76 (by decide) (fun c12 => ?_) (fun c12 => ?_)
  · replace h := h.1 c12
    refine x_iconst (v := 0) C dX11_phrasesIn_83 rfl ?_
    refine x_iadd C dX11_phrasesIn_84 ?_
    refine X_name (fun v13 ev13 => ?_)
    replace h := h v13 ev13
    refine x_istore_n (lv' := [(3, .int v13), (0, .ref (ga G 11 0)), (1, .int x1), (2, .int x2), (4, .int y4), (5, .int y5)]) C dX11_phrasesIn_85 rfl (Nat.le_of_ble_eq_true rfl) rfl ?_
    refine X_sub (lv' := [(0, .ref (ga G 11 0)), (1, .int x1), (2, .int x2), (3, .int v13), (4, .int y4)]) [1, 2, 3, 0, 4] rfl ?_
    exact wX11_phrasesIn_86 hG C E hL5 M v13 y4 h
  · replace h := h.2 c12
    refine x_iconst (v := 1) C dX11_phrasesIn_79 rfl ?_
    refine x_goto (tgt := 84) C dX11_phrasesIn_80 (by decide) ?_
    refine x_iadd C dX11_phrasesIn_84 ?_
    refine X_name (fun v14 ev14 => ?_)
    replace h := h v14 ev14
    refine x_istore_n (lv' := [(3, .int v14), (0, .ref (ga G 11 0)), (1, .int x1), (2, .int x2), (4, .int y4), (5, .int y5)]) C dX11_phrasesIn_85 rfl (Nat.le_of_ble_eq_true rfl) rfl ?_
    refine X_sub (lv' := [(0, .ref (ga G 11 0)), (1, .int x1), (2, .int x2), (3, .int v14), (4, .int y4)]) [1, 2, 3, 0, 4] rfl ?_
    exact wX11_phrasesIn_86 hG C E hL5 M v14 y4 h
set_option maxRecDepth 100000 in
set_option maxHeartbeats 400000 in
theorem wX11_phrasesIn_26 {Γ : Gam} {G : Gm} {Qf : State → Prop} (hG : Gd G) (C : Cx Γ G cX11_phrasesIn 6 RX11 (some .int) rmX11_phrasesIn) {x1 : Int32} {x2 : Int32} {Q : Int32 → Mem → Prop} (E : EndI Γ G Qf rmX11_phrasesIn Q) {L5 : Mem × Int32 × Int32 → Prop} (hL5 : ∀ s, L5 s → X Γ G Qf 6 0 0 5 [(0, .ref (ga G 11 0)), (1, .int x1), (2, .int x2), (3, .int s.2.1), (4, .int s.2.2)] [] s.1) {L26 : Mem × Int32 × Int32 × Int32 → Prop} (hL26 : ∀ s, L26 s → X Γ G Qf 6 0 0 26 [(0, .ref (ga G 11 0)), (1, .int x1), (2, .int x2), (3, .int s.2.1), (4, .int s.2.2.1), (5, .int s.2.2.2)] [] s.1) (M : Mem) (y3 : Int32) (y4 : Int32) (y5 : Int32) (h : bX11_phrasesIn_26 x1 x2 Q L5 L26 M y3 y4 y5) : X Γ G Qf 6 0 0 26 [(0, .ref (ga G 11 0)), (1, .int x1), (2, .int x2), (3, .int y3), (4, .int y4), (5, .int y5)] [] M := by
  unfold bX11_phrasesIn_26 at h
  refine x_iload C dX11_phrasesIn_26 5 rfl ?_
  refine x_aload_n C dX11_phrasesIn_28 0 rfl ?_
  refine gf_11_29 C q179 z11 dX11_phrasesIn_29 ?_
  refine x_iload_n C dX11_phrasesIn_32 1 rfl ?_
  obtain ⟨f4, h⟩ := h
  refine al_1229 C z1229 f4 dX11_phrasesIn_33 ?_
  refine x_icmp_ge (tgt := 67) C dX11_phrasesIn_34 (by decide) (fun c5 => ?_) (fun c5 => ?_)
  · replace h := h.1 c5
    refine X_sub (lv' := [(0, .ref (ga G 11 0)), (1, .int x1), (2, .int x2), (3, .int y3), (4, .int y4), (5, .int y5)]) [0, 1, 2, 3, 4, 5] rfl ?_
    exact wX11_phrasesIn_67 hG C E hL5 M y3 y4 y5 h
  · replace h := h.2 c5
    refine x_aload_n C dX11_phrasesIn_37 0 rfl ?_
    refine gf_11_12 C q158 z11 dX11_phrasesIn_38 ?_
    refine x_iload_n C dX11_phrasesIn_41 2 rfl ?_
    obtain ⟨f6, h⟩ := h
    refine al_1212 C z1212 f6 dX11_phrasesIn_42 ?_
    refine x_iload C dX11_phrasesIn_43 4 rfl ?_
    refine x_iload C dX11_phrasesIn_45 5 rfl ?_
    refine x_iadd C dX11_phrasesIn_47 ?_
    obtain ⟨f7, h⟩ := h
    refine al_6212 C (vp_lt f6) f7 dX11_phrasesIn_48 ?_
    refine x_aload_n C dX11_phrasesIn_49 0 rfl ?_
    refine gf_11_30 C q180 z11 dX11_phrasesIn_50 ?_
    refine x_iload_n C dX11_phrasesIn_53 1 rfl ?_
    refine al_1230 C z1230 f4 dX11_phrasesIn_54 ?_
    refine x_iload C dX11_phrasesIn_55 5 rfl ?_
    obtain ⟨f8, h⟩ := h
    refine al_6230 C (vp_lt f4) f8 dX11_phrasesIn_57 ?_
    refine x_icmp_ne (tgt := 67) C dX11_phrasesIn_58 (by decide) (fun c9 => ?_) (fun c9 => ?_)
    · replace h := h.1 c9
      refine X_sub (lv' := [(0, .ref (ga G 11 0)), (1, .int x1), (2, .int x2), (3, .int y3), (4, .int y4), (5, .int y5)]) [0, 1, 2, 3, 4, 5] rfl ?_
      exact wX11_phrasesIn_67 hG C E hL5 M y3 y4 y5 h
    · replace h := h.2 c9
      obtain ⟨v10, ev10⟩ : ∃ z : Int32, z = y5 + 1 := ⟨_, rfl⟩
      replace h := h v10 ev10
      refine x_iinc (v := v10) (lv' := [(5, .int v10), (0, .ref (ga G 11 0)), (1, .int x1), (2, .int x2), (3, .int y3), (4, .int y4)]) (j := 5) C dX11_phrasesIn_61 rfl (by rw [ev10]; rfl) (Nat.le_of_ble_eq_true rfl) rfl ?_
      refine x_goto (tgt := 26) C dX11_phrasesIn_64 (by decide) ?_
      refine X_sub (lv' := [(0, .ref (ga G 11 0)), (1, .int x1), (2, .int x2), (3, .int y3), (4, .int y4), (5, .int v10)]) [1, 2, 3, 4, 5, 0] rfl ?_
      have w9 := hL26 (M, y3, y4, v10) h
      dsimp only at w9
      exact w9
set_option maxRecDepth 100000 in
set_option maxHeartbeats 400000 in
theorem wX11_phrasesIn_5 {Γ : Gam} {G : Gm} {Qf : State → Prop} (hG : Gd G) (C : Cx Γ G cX11_phrasesIn 6 RX11 (some .int) rmX11_phrasesIn) {x1 : Int32} {x2 : Int32} {Q : Int32 → Mem → Prop} (E : EndI Γ G Qf rmX11_phrasesIn Q) {L5 : Mem × Int32 × Int32 → Prop} (hL5 : ∀ s, L5 s → X Γ G Qf 6 0 0 5 [(0, .ref (ga G 11 0)), (1, .int x1), (2, .int x2), (3, .int s.2.1), (4, .int s.2.2)] [] s.1) (M : Mem) (y3 : Int32) (y4 : Int32) (h : bX11_phrasesIn_5 x1 x2 Q L5 M y3 y4) : X Γ G Qf 6 0 0 5 [(0, .ref (ga G 11 0)), (1, .int x1), (2, .int x2), (3, .int y3), (4, .int y4)] [] M := by
  unfold bX11_phrasesIn_5 at h
  refine x_iload C dX11_phrasesIn_5 4 rfl ?_
  refine x_aload_n C dX11_phrasesIn_7 0 rfl ?_
  refine gf_11_29 C q179 z11 dX11_phrasesIn_8 ?_
  refine x_iload_n C dX11_phrasesIn_11 1 rfl ?_
  obtain ⟨f1, h⟩ := h
  refine al_1229 C z1229 f1 dX11_phrasesIn_12 ?_
  refine x_iadd C dX11_phrasesIn_13 ?_
  refine x_aload_n C dX11_phrasesIn_14 0 rfl ?_
  refine gf_11_13 C q161 z11 dX11_phrasesIn_15 ?_
  refine x_iload_n C dX11_phrasesIn_18 2 rfl ?_
  obtain ⟨f2, h⟩ := h
  refine al_1213 C z1213 f2 dX11_phrasesIn_19 ?_
  refine x_icmp_gt (tgt := 92) C dX11_phrasesIn_20 (by decide) (fun c3 => ?_) (fun c3 => ?_)
  · replace h := h.1 c3
    refine x_iload_n C dX11_phrasesIn_92 3 rfl ?_
    exact x_iret C E h (Nat.le_of_ble_eq_true rfl) (Nat.le_of_ble_eq_true rfl) dX11_phrasesIn_93
  · replace h := h.2 c3
    refine x_iconst (v := 0) C dX11_phrasesIn_23 rfl ?_
    refine x_istore (lv' := [(5, .int 0), (0, .ref (ga G 11 0)), (1, .int x1), (2, .int x2), (3, .int y3), (4, .int y4)]) C dX11_phrasesIn_24 (Nat.le_of_ble_eq_true rfl) rfl ?_
    obtain ⟨n9, h⟩ := h
    refine X_sub (lv' := [(0, .ref (ga G 11 0)), (1, .int x1), (2, .int x2), (3, .int y3), (4, .int y4), (5, .int 0)]) [1, 2, 3, 4, 5, 0] rfl ?_
    have hb : ∀ (L : Mem × Int32 × Int32 × Int32 → Prop) (s : Mem × Int32 × Int32 × Int32), (∀ t, L t → X Γ G Qf 6 0 0 26 [(0, .ref (ga G 11 0)), (1, .int x1), (2, .int x2), (3, .int t.2.1), (4, .int t.2.2.1), (5, .int t.2.2.2)] [] t.1) → bX11_phrasesIn_26 x1 x2 Q L5 L s.1 s.2.1 s.2.2.1 s.2.2.2 → X Γ G Qf 6 0 0 26 [(0, .ref (ga G 11 0)), (1, .int x1), (2, .int x2), (3, .int s.2.1), (4, .int s.2.2.1), (5, .int s.2.2.2)] [] s.1 := fun L s hL h => wX11_phrasesIn_26 hG C E hL5 hL s.1 s.2.1 s.2.2.1 s.2.2.2 h
    have w9 := lp_walk (P := fun s : Mem × Int32 × Int32 × Int32 => X Γ G Qf 6 0 0 26 [(0, .ref (ga G 11 0)), (1, .int x1), (2, .int x2), (3, .int s.2.1), (4, .int s.2.2.1), (5, .int s.2.2.2)] [] s.1) h hb
    dsimp only at w9
    exact w9
set_option maxRecDepth 100000 in
set_option maxHeartbeats 400000 in
theorem kX11_phrasesIn {l : Launch} {G : Gm} (hG : Gd G) (M : Mem) (x1 : Int32) (x2 : Int32) {Q : Int32 → Mem → Prop} (h : pX11_phrasesIn M x1 x2 Q) : Cti l G yX11_phrasesIn cX11_phrasesIn 6 .int rmX11_phrasesIn [.ref (ga G 11 0), .int x1, .int x2] M Q := by
  refine cti_of (own := RX11) (by decide +kernel) rfl (Nat.le_of_ble_eq_true rfl) hG (fun Γ Qf hl C E => ?_)
  subst hl
  show X Γ G Qf 6 0 0 0 [(0, .ref (ga G 11 0)), (1, .int x1), (2, .int x2)] [] M
  unfold pX11_phrasesIn at h
  refine x_iconst (v := 0) C dX11_phrasesIn_0 rfl ?_
  refine x_istore_n (lv' := [(3, .int 0), (0, .ref (ga G 11 0)), (1, .int x1), (2, .int x2)]) C dX11_phrasesIn_1 rfl (Nat.le_of_ble_eq_true rfl) rfl ?_
  refine x_iconst (v := 0) C dX11_phrasesIn_2 rfl ?_
  refine x_istore (lv' := [(4, .int 0), (3, .int 0), (0, .ref (ga G 11 0)), (1, .int x1), (2, .int x2)]) C dX11_phrasesIn_3 (Nat.le_of_ble_eq_true rfl) rfl ?_
  obtain ⟨n9, h⟩ := h
  refine X_sub (lv' := [(0, .ref (ga G 11 0)), (1, .int x1), (2, .int x2), (3, .int 0), (4, .int 0)]) [2, 3, 4, 1, 0] rfl ?_
  have hb : ∀ (L : Mem × Int32 × Int32 → Prop) (s : Mem × Int32 × Int32), (∀ t, L t → X Γ G Qf 6 0 0 5 [(0, .ref (ga G 11 0)), (1, .int x1), (2, .int x2), (3, .int t.2.1), (4, .int t.2.2)] [] t.1) → bX11_phrasesIn_5 x1 x2 Q L s.1 s.2.1 s.2.2 → X Γ G Qf 6 0 0 5 [(0, .ref (ga G 11 0)), (1, .int x1), (2, .int x2), (3, .int s.2.1), (4, .int s.2.2)] [] s.1 := fun L s hL h => wX11_phrasesIn_5 hG C E hL s.1 s.2.1 s.2.2 h
  have w9 := lp_walk (P := fun s : Mem × Int32 × Int32 => X Γ G Qf 6 0 0 5 [(0, .ref (ga G 11 0)), (1, .int x1), (2, .int x2), (3, .int s.2.1), (4, .int s.2.2)] [] s.1) h hb
  dsimp only at w9
  exact w9
def rmX11_whyNot : Room := { frames := 1, cells := 0, slots := 0, locals := 25 }
def bX11_whyNot_147 (x1 : Int32) (Q : Int32 → Mem → Prop) (L147 : Mem × Int32 → Prop) (M : Mem) (y3 : Int32) : Prop :=
  (((M.1 1221 0 0) ≤ y3 → Q 0 M) ∧ (¬ (M.1 1221 0 0) ≤ y3 → pX11_phrasesIn M y3 x1 (fun r28 M29 => ((¬ r28 = 0 → ∀ v31 : Int32, v31 = y3 + 1 → L147 (M29, v31)) ∧ (r28 = 0 → Q 5 M29)))))
def bX11_whyNot_113 (x1 : Int32) (Q : Int32 → Mem → Prop) (L113 : Mem × Int32 → Prop) (M : Mem) (y3 : Int32) : Prop :=
  (((M.1 1220 0 0) ≤ y3 → ∃ n : Nat, lp (fun L s => bX11_whyNot_147 x1 Q L s.1 s.2) n (M, 0)) ∧ (¬ (M.1 1220 0 0) ≤ y3 → vp_in y3 6 ∧ vp_in (M.1 1228 0 (tn y3)) 256 ∧ vp_in x1 64 ∧ (((M.1 6217 (tn (M.1 1228 0 (tn y3))) (tn x1)) ≤ 0 → ∀ v26 : Int32, v26 = y3 + 1 → L113 (M, v26)) ∧ (¬ (M.1 6217 (tn (M.1 1228 0 (tn y3))) (tn x1)) ≤ 0 → Q 4 M))))
def bX11_whyNot_70 (x1 : Int32) (Q : Int32 → Mem → Prop) (L70 : Mem × Int32 → Prop) (M : Mem) (y3 : Int32) : Prop :=
  (((M.1 1219 0 0) ≤ y3 → (((M.1 1224 0 0) = 0 → ∃ n : Nat, lp (fun L s => bX11_whyNot_113 x1 Q L s.1 s.2) n (M, 0)) ∧ (¬ (M.1 1224 0 0) = 0 → Q 3 M))) ∧ (¬ (M.1 1219 0 0) ≤ y3 → vp_in y3 24 ∧ vp_in (M.1 1227 0 (tn y3)) 256 ∧ vp_in x1 64 ∧ ((¬ (M.1 6217 (tn (M.1 1227 0 (tn y3))) (tn x1)) = 0 → ∀ v20 : Int32, v20 = y3 + 1 → L70 (M, v20)) ∧ ((M.1 6217 (tn (M.1 1227 0 (tn y3))) (tn x1)) = 0 → Q 3 M))))
def bX11_whyNot_56 (x1 : Int32) (Q : Int32 → Mem → Prop) (L16 : Mem × Int32 × Int32 → Prop) (M : Mem) (y2 : Int32) (y3 : Int32) : Prop :=
  ∀ v13 : Int32, v13 = y3 + 1 → L16 (M, y2, v13)
def bX11_whyNot_16 (x1 : Int32) (Q : Int32 → Mem → Prop) (L16 : Mem × Int32 × Int32 → Prop) (M : Mem) (y2 : Int32) (y3 : Int32) : Prop :=
  (((M.1 1218 0 0) ≤ y3 → ((¬ y2 = 0 → ∃ n : Nat, lp (fun L s => bX11_whyNot_70 x1 Q L s.1 s.2) n (M, 0)) ∧ (y2 = 0 → Q 2 M))) ∧ (¬ (M.1 1218 0 0) ≤ y3 → ((y3 = (M.1 1239 0 0) → ∀ v6 : Int32, v6 = (y2 + 0) → bX11_whyNot_56 x1 Q L16 M v6 y3) ∧ (¬ y3 = (M.1 1239 0 0) → vp_in y3 24 ∧ vp_in (M.1 1225 0 (tn y3)) 256 ∧ vp_in x1 64 ∧ (((M.1 6217 (tn (M.1 1225 0 (tn y3))) (tn x1)) ≤ 0 → ∀ v11 : Int32, v11 = (y2 + 0) → bX11_whyNot_56 x1 Q L16 M v11 y3) ∧ (¬ (M.1 6217 (tn (M.1 1225 0 (tn y3))) (tn x1)) ≤ 0 → ∀ v12 : Int32, v12 = (y2 + 1) → bX11_whyNot_56 x1 Q L16 M v12 y3))))))
def pX11_whyNot (M : Mem) (x1 : Int32) (Q : Int32 → Mem → Prop) : Prop :=
  vp_in x1 64 ∧ (((M.1 1214 0 (tn x1)) = 1 → ∃ n : Nat, lp (fun L s => bX11_whyNot_16 x1 Q L s.1 s.2.1 s.2.2) n (M, 0, 0)) ∧ (¬ (M.1 1214 0 (tn x1)) = 1 → Q 1 M))
set_option maxRecDepth 100000 in
set_option maxHeartbeats 400000 in
theorem wX11_whyNot_147 {Γ : Gam} {G : Gm} {Qf : State → Prop} (hG : Gd G) (C : Cx Γ G cX11_whyNot 4 RX11 (some .int) rmX11_whyNot) {x1 : Int32} {Q : Int32 → Mem → Prop} (E : EndI Γ G Qf rmX11_whyNot Q) {L147 : Mem × Int32 → Prop} (hL147 : ∀ s, L147 s → X Γ G Qf 4 0 0 147 [(0, .ref (ga G 11 0)), (1, .int x1), (3, .int s.2)] [] s.1) (M : Mem) (y3 : Int32) (h : bX11_whyNot_147 x1 Q L147 M y3) : X Γ G Qf 4 0 0 147 [(0, .ref (ga G 11 0)), (1, .int x1), (3, .int y3)] [] M := by
  unfold bX11_whyNot_147 at h
  refine x_iload_n C dX11_whyNot_147 2 rfl ?_
  refine x_aload_n C dX11_whyNot_148 0 rfl ?_
  refine gf_11_21 C q173 z11 dX11_whyNot_149 ?_
  refine x_icmp_ge (tgt := 172) C dX11_whyNot_152 (by decide) (fun c27 => ?_) (fun c27 => ?_)
  · replace h := h.1 c27
    refine x_iconst (v := 0) C dX11_whyNot_172 rfl ?_
    exact x_iret C E h (Nat.le_of_ble_eq_true rfl) (Nat.le_of_ble_eq_true rfl) dX11_whyNot_173
  · replace h := h.2 c27
    refine x_aload_n C dX11_whyNot_155 0 rfl ?_
    refine x_iload_n C dX11_whyNot_156 2 rfl ?_
    refine x_iload_n C dX11_whyNot_157 1 rfl ?_
    refine x_calli (rest := []) C sv_X11_281 ob11 z11 (kX11_phrasesIn hG _ _ _ h) rfl rfl (Nat.le_of_ble_eq_true rfl) ⟨Nat.le_of_ble_eq_true rfl, Nat.le_of_ble_eq_true rfl⟩ rfl rfl ⟨Nat.le_of_ble_eq_true rfl, Nat.le_of_ble_eq_true rfl⟩ dX11_whyNot_158 (fun r28 M29 h => ?_)
    refine x_if_ne (tgt := 166) C dX11_whyNot_161 (by decide) (fun c30 => ?_) (fun c30 => ?_)
    · replace h := h.1 c30
      obtain ⟨v31, ev31⟩ : ∃ z : Int32, z = y3 + 1 := ⟨_, rfl⟩
      replace h := h v31 ev31
      refine x_iinc (v := v31) (lv' := [(3, .int v31), (0, .ref (ga G 11 0)), (1, .int x1)]) (j := 2) C dX11_whyNot_166 rfl (by rw [ev31]; rfl) (Nat.le_of_ble_eq_true rfl) rfl ?_
      refine x_goto (tgt := 147) C dX11_whyNot_169 (by decide) ?_
      refine X_sub (lv' := [(0, .ref (ga G 11 0)), (1, .int x1), (3, .int v31)]) [1, 2, 0] rfl ?_
      have w9 := hL147 (M29, v31) h
      dsimp only at w9
      exact w9
    · replace h := h.2 c30
      refine x_iconst (v := 5) C dX11_whyNot_164 rfl ?_
      exact x_iret C E h (Nat.le_of_ble_eq_true rfl) (Nat.le_of_ble_eq_true rfl) dX11_whyNot_165
set_option maxRecDepth 100000 in
set_option maxHeartbeats 400000 in
theorem wX11_whyNot_113 {Γ : Gam} {G : Gm} {Qf : State → Prop} (hG : Gd G) (C : Cx Γ G cX11_whyNot 4 RX11 (some .int) rmX11_whyNot) {x1 : Int32} {Q : Int32 → Mem → Prop} (E : EndI Γ G Qf rmX11_whyNot Q) {L113 : Mem × Int32 → Prop} (hL113 : ∀ s, L113 s → X Γ G Qf 4 0 0 113 [(0, .ref (ga G 11 0)), (1, .int x1), (3, .int s.2)] [] s.1) (M : Mem) (y3 : Int32) (h : bX11_whyNot_113 x1 Q L113 M y3) : X Γ G Qf 4 0 0 113 [(0, .ref (ga G 11 0)), (1, .int x1), (3, .int y3)] [] M := by
  unfold bX11_whyNot_113 at h
  refine x_iload_n C dX11_whyNot_113 2 rfl ?_
  refine x_aload_n C dX11_whyNot_114 0 rfl ?_
  refine gf_11_20 C q172 z11 dX11_whyNot_115 ?_
  refine x_icmp_ge (tgt := 145) C dX11_whyNot_118 (by decide) (fun c21 => ?_) (fun c21 => ?_)
  · replace h := h.1 c21
    refine x_iconst (v := 0) C dX11_whyNot_145 rfl ?_
    refine x_istore_n (lv' := [(3, .int 0), (0, .ref (ga G 11 0)), (1, .int x1)]) C dX11_whyNot_146 rfl (Nat.le_of_ble_eq_true rfl) rfl ?_
    obtain ⟨n9, h⟩ := h
    refine X_sub (lv' := [(0, .ref (ga G 11 0)), (1, .int x1), (3, .int 0)]) [1, 2, 0] rfl ?_
    have hb : ∀ (L : Mem × Int32 → Prop) (s : Mem × Int32), (∀ t, L t → X Γ G Qf 4 0 0 147 [(0, .ref (ga G 11 0)), (1, .int x1), (3, .int t.2)] [] t.1) → bX11_whyNot_147 x1 Q L s.1 s.2 → X Γ G Qf 4 0 0 147 [(0, .ref (ga G 11 0)), (1, .int x1), (3, .int s.2)] [] s.1 := fun L s hL h => wX11_whyNot_147 hG C E hL s.1 s.2 h
    have w9 := lp_walk (P := fun s : Mem × Int32 => X Γ G Qf 4 0 0 147 [(0, .ref (ga G 11 0)), (1, .int x1), (3, .int s.2)] [] s.1) h hb
    dsimp only at w9
    exact w9
  · replace h := h.2 c21
    refine x_aload_n C dX11_whyNot_121 0 rfl ?_
    refine gf_11_17 C q163 z11 dX11_whyNot_122 ?_
    refine x_aload_n C dX11_whyNot_125 0 rfl ?_
    refine gf_11_28 C q177 z11 dX11_whyNot_126 ?_
    refine x_iload_n C dX11_whyNot_129 2 rfl ?_
    obtain ⟨f22, h⟩ := h
    refine al_1228 C z1228 f22 dX11_whyNot_130 ?_
    obtain ⟨f23, h⟩ := h
    refine al_1217 C z1217 f23 dX11_whyNot_131 ?_
    refine x_iload_n C dX11_whyNot_132 1 rfl ?_
    obtain ⟨f24, h⟩ := h
    refine al_6217 C (vp_lt f23) f24 dX11_whyNot_133 ?_
    refine x_if_le (tgt := 139) C dX11_whyNot_134 (by decide) (fun c25 => ?_) (fun c25 => ?_)
    · replace h := h.1 c25
      obtain ⟨v26, ev26⟩ : ∃ z : Int32, z = y3 + 1 := ⟨_, rfl⟩
      replace h := h v26 ev26
      refine x_iinc (v := v26) (lv' := [(3, .int v26), (0, .ref (ga G 11 0)), (1, .int x1)]) (j := 2) C dX11_whyNot_139 rfl (by rw [ev26]; rfl) (Nat.le_of_ble_eq_true rfl) rfl ?_
      refine x_goto (tgt := 113) C dX11_whyNot_142 (by decide) ?_
      refine X_sub (lv' := [(0, .ref (ga G 11 0)), (1, .int x1), (3, .int v26)]) [1, 2, 0] rfl ?_
      have w9 := hL113 (M, v26) h
      dsimp only at w9
      exact w9
    · replace h := h.2 c25
      refine x_iconst (v := 4) C dX11_whyNot_137 rfl ?_
      exact x_iret C E h (Nat.le_of_ble_eq_true rfl) (Nat.le_of_ble_eq_true rfl) dX11_whyNot_138
set_option maxRecDepth 100000 in
set_option maxHeartbeats 400000 in
theorem wX11_whyNot_70 {Γ : Gam} {G : Gm} {Qf : State → Prop} (hG : Gd G) (C : Cx Γ G cX11_whyNot 4 RX11 (some .int) rmX11_whyNot) {x1 : Int32} {Q : Int32 → Mem → Prop} (E : EndI Γ G Qf rmX11_whyNot Q) {L70 : Mem × Int32 → Prop} (hL70 : ∀ s, L70 s → X Γ G Qf 4 0 0 70 [(0, .ref (ga G 11 0)), (1, .int x1), (3, .int s.2)] [] s.1) (M : Mem) (y3 : Int32) (h : bX11_whyNot_70 x1 Q L70 M y3) : X Γ G Qf 4 0 0 70 [(0, .ref (ga G 11 0)), (1, .int x1), (3, .int y3)] [] M := by
  unfold bX11_whyNot_70 at h
  refine x_iload_n C dX11_whyNot_70 2 rfl ?_
  refine x_aload_n C dX11_whyNot_71 0 rfl ?_
  refine gf_11_19 C q171 z11 dX11_whyNot_72 ?_
  refine x_icmp_ge (tgt := 102) C dX11_whyNot_75 (by decide) (fun c14 => ?_) (fun c14 => ?_)
  · replace h := h.1 c14
    refine x_aload_n C dX11_whyNot_102 0 rfl ?_
    refine gf_11_24 C q176 z11 dX11_whyNot_103 ?_
    refine x_if_eq (tgt := 111) C dX11_whyNot_106 (by decide) (fun c15 => ?_) (fun c15 => ?_)
    · replace h := h.1 c15
      refine x_iconst (v := 0) C dX11_whyNot_111 rfl ?_
      refine x_istore_n (lv' := [(3, .int 0), (0, .ref (ga G 11 0)), (1, .int x1)]) C dX11_whyNot_112 rfl (Nat.le_of_ble_eq_true rfl) rfl ?_
      obtain ⟨n9, h⟩ := h
      refine X_sub (lv' := [(0, .ref (ga G 11 0)), (1, .int x1), (3, .int 0)]) [1, 2, 0] rfl ?_
      have hb : ∀ (L : Mem × Int32 → Prop) (s : Mem × Int32), (∀ t, L t → X Γ G Qf 4 0 0 113 [(0, .ref (ga G 11 0)), (1, .int x1), (3, .int t.2)] [] t.1) → bX11_whyNot_113 x1 Q L s.1 s.2 → X Γ G Qf 4 0 0 113 [(0, .ref (ga G 11 0)), (1, .int x1), (3, .int s.2)] [] s.1 := fun L s hL h => wX11_whyNot_113 hG C E hL s.1 s.2 h
      have w9 := lp_walk (P := fun s : Mem × Int32 => X Γ G Qf 4 0 0 113 [(0, .ref (ga G 11 0)), (1, .int x1), (3, .int s.2)] [] s.1) h hb
      dsimp only at w9
      exact w9
    · replace h := h.2 c15
      refine x_iconst (v := 3) C dX11_whyNot_109 rfl ?_
      exact x_iret C E h (Nat.le_of_ble_eq_true rfl) (Nat.le_of_ble_eq_true rfl) dX11_whyNot_110
  · replace h := h.2 c14
    refine x_aload_n C dX11_whyNot_78 0 rfl ?_
    refine gf_11_17 C q163 z11 dX11_whyNot_79 ?_
    refine x_aload_n C dX11_whyNot_82 0 rfl ?_
    refine gf_11_27 C q178 z11 dX11_whyNot_83 ?_
    refine x_iload_n C dX11_whyNot_86 2 rfl ?_
    obtain ⟨f16, h⟩ := h
    refine al_1227 C z1227 f16 dX11_whyNot_87 ?_
    obtain ⟨f17, h⟩ := h
    refine al_1217 C z1217 f17 dX11_whyNot_88 ?_
    refine x_iload_n C dX11_whyNot_89 1 rfl ?_
    obtain ⟨f18, h⟩ := h
    refine al_6217 C (vp_lt f17) f18 dX11_whyNot_90 ?_
    refine x_if_ne (tgt := 96) C dX11_whyNot_91 (by decide) (fun c19 => ?_) (fun c19 => ?_)
    · replace h := h.1 c19
      obtain ⟨v20, ev20⟩ : ∃ z : Int32, z = y3 + 1 := ⟨_, rfl⟩
      replace h := h v20 ev20
      refine x_iinc (v := v20) (lv' := [(3, .int v20), (0, .ref (ga G 11 0)), (1, .int x1)]) (j := 2) C dX11_whyNot_96 rfl (by rw [ev20]; rfl) (Nat.le_of_ble_eq_true rfl) rfl ?_
      refine x_goto (tgt := 70) C dX11_whyNot_99 (by decide) ?_
      refine X_sub (lv' := [(0, .ref (ga G 11 0)), (1, .int x1), (3, .int v20)]) [1, 2, 0] rfl ?_
      have w9 := hL70 (M, v20) h
      dsimp only at w9
      exact w9
    · replace h := h.2 c19
      refine x_iconst (v := 3) C dX11_whyNot_94 rfl ?_
      exact x_iret C E h (Nat.le_of_ble_eq_true rfl) (Nat.le_of_ble_eq_true rfl) dX11_whyNot_95
set_option maxRecDepth 100000 in
set_option maxHeartbeats 400000 in
theorem wX11_whyNot_56 {Γ : Gam} {G : Gm} {Qf : State → Prop} (hG : Gd G) (C : Cx Γ G cX11_whyNot 4 RX11 (some .int) rmX11_whyNot) {x1 : Int32} {Q : Int32 → Mem → Prop} (E : EndI Γ G Qf rmX11_whyNot Q) {L16 : Mem × Int32 × Int32 → Prop} (hL16 : ∀ s, L16 s → X Γ G Qf 4 0 0 16 [(0, .ref (ga G 11 0)), (1, .int x1), (2, .int s.2.1), (3, .int s.2.2)] [] s.1) (M : Mem) (y2 : Int32) (y3 : Int32) (h : bX11_whyNot_56 x1 Q L16 M y2 y3) : X Γ G Qf 4 0 0 56 [(0, .ref (ga G 11 0)), (1, .int x1), (2, .int y2), (3, .int y3)] [] M := by
  unfold bX11_whyNot_56 at h
  obtain ⟨v13, ev13⟩ : ∃ z : Int32, z = y3 + 1 := ⟨_, rfl⟩
  replace h := h v13 ev13
  refine x_iinc (v := v13) (lv' := [(3, .int v13), (0, .ref (ga G 11 0)), (1, .int x1), (2, .int y2)]) (j := 3) C dX11_whyNot_56 rfl (by rw [ev13]; rfl) (Nat.le_of_ble_eq_true rfl) rfl ?_
  refine x_goto (tgt := 16) C dX11_whyNot_59 (by decide) ?_
  refine X_sub (lv' := [(0, .ref (ga G 11 0)), (1, .int x1), (2, .int y2), (3, .int v13)]) [1, 2, 3, 0] rfl ?_
  have w9 := hL16 (M, y2, v13) h
  dsimp only at w9
  exact w9
set_option maxRecDepth 100000 in
set_option maxHeartbeats 400000 in
theorem wX11_whyNot_16 {Γ : Gam} {G : Gm} {Qf : State → Prop} (hG : Gd G) (C : Cx Γ G cX11_whyNot 4 RX11 (some .int) rmX11_whyNot) {x1 : Int32} {Q : Int32 → Mem → Prop} (E : EndI Γ G Qf rmX11_whyNot Q) {L16 : Mem × Int32 × Int32 → Prop} (hL16 : ∀ s, L16 s → X Γ G Qf 4 0 0 16 [(0, .ref (ga G 11 0)), (1, .int x1), (2, .int s.2.1), (3, .int s.2.2)] [] s.1) (M : Mem) (y2 : Int32) (y3 : Int32) (h : bX11_whyNot_16 x1 Q L16 M y2 y3) : X Γ G Qf 4 0 0 16 [(0, .ref (ga G 11 0)), (1, .int x1), (2, .int y2), (3, .int y3)] [] M := by
  unfold bX11_whyNot_16 at h
  refine x_iload_n C dX11_whyNot_16 3 rfl ?_
  refine x_aload_n C dX11_whyNot_17 0 rfl ?_
  refine gf_11_18 C q168 z11 dX11_whyNot_18 ?_
  refine x_icmp_ge (tgt := 62) C dX11_whyNot_21 (by decide) (fun c3 => ?_) (fun c3 => ?_)
  · replace h := h.1 c3
    refine x_iload_n C dX11_whyNot_62 2 rfl ?_
    refine x_if_ne (tgt := 68) C dX11_whyNot_63 (by decide) (fun c4 => ?_) (fun c4 => ?_)
    · replace h := h.1 c4
      refine x_iconst (v := 0) C dX11_whyNot_68 rfl ?_
      refine x_istore_n (lv' := [(3, .int 0), (0, .ref (ga G 11 0)), (1, .int x1), (2, .int y2)]) C dX11_whyNot_69 rfl (Nat.le_of_ble_eq_true rfl) rfl ?_
      obtain ⟨n9, h⟩ := h
      refine X_sub (lv' := [(0, .ref (ga G 11 0)), (1, .int x1), (3, .int 0)]) [1, 2, 0] rfl ?_
      have hb : ∀ (L : Mem × Int32 → Prop) (s : Mem × Int32), (∀ t, L t → X Γ G Qf 4 0 0 70 [(0, .ref (ga G 11 0)), (1, .int x1), (3, .int t.2)] [] t.1) → bX11_whyNot_70 x1 Q L s.1 s.2 → X Γ G Qf 4 0 0 70 [(0, .ref (ga G 11 0)), (1, .int x1), (3, .int s.2)] [] s.1 := fun L s hL h => wX11_whyNot_70 hG C E hL s.1 s.2 h
      have w9 := lp_walk (P := fun s : Mem × Int32 => X Γ G Qf 4 0 0 70 [(0, .ref (ga G 11 0)), (1, .int x1), (3, .int s.2)] [] s.1) h hb
      dsimp only at w9
      exact w9
    · replace h := h.2 c4
      refine x_iconst (v := 2) C dX11_whyNot_66 rfl ?_
      exact x_iret C E h (Nat.le_of_ble_eq_true rfl) (Nat.le_of_ble_eq_true rfl) dX11_whyNot_67
  · replace h := h.2 c3
    refine x_iload_n C dX11_whyNot_24 2 rfl ?_
    refine x_iload_n C dX11_whyNot_25 3 rfl ?_
    refine x_aload_n C dX11_whyNot_26 0 rfl ?_
    refine gf_11_39 C q183 z11 dX11_whyNot_27 ?_
    refine x_icmp_eq (tgt := 53) C dX11_whyNot_30 (by decide) (fun c5 => ?_) (fun c5 => ?_)
    · replace h := h.1 c5
      refine x_iconst (v := 0) C dX11_whyNot_53 rfl ?_
      refine x_iadd C dX11_whyNot_54 ?_
      refine X_name (fun v6 ev6 => ?_)
      replace h := h v6 ev6
      refine x_istore_n (lv' := [(2, .int v6), (0, .ref (ga G 11 0)), (1, .int x1), (3, .int y3)]) C dX11_whyNot_55 rfl (Nat.le_of_ble_eq_true rfl) rfl ?_
      refine X_sub (lv' := [(0, .ref (ga G 11 0)), (1, .int x1), (2, .int v6), (3, .int y3)]) [1, 2, 0, 3] rfl ?_
      exact wX11_whyNot_56 hG C E hL16 M v6 y3 h
    · replace h := h.2 c5
      refine x_aload_n C dX11_whyNot_33 0 rfl ?_
      refine gf_11_17 C q163 z11 dX11_whyNot_34 ?_
      refine x_aload_n C dX11_whyNot_37 0 rfl ?_
      refine gf_11_25 C q169 z11 dX11_whyNot_38 ?_
      refine x_iload_n C dX11_whyNot_41 3 rfl ?_
      obtain ⟨f7, h⟩ := h
      refine al_1225 C z1225 f7 dX11_whyNot_42 ?_
      obtain ⟨f8, h⟩ := h
      refine al_1217 C z1217 f8 dX11_whyNot_43 ?_
      refine x_iload_n C dX11_whyNot_44 1 rfl ?_
      obtain ⟨f9, h⟩ := h
      refine al_6217 C (vp_lt f8) f9 dX11_whyNot_45 ?_
      refine x_if_le (tgt := 53) C dX11_whyNot_46 (by decide) (fun c10 => ?_) (fun c10 => ?_)
      · replace h := h.1 c10
        refine x_iconst (v := 0) C dX11_whyNot_53 rfl ?_
        refine x_iadd C dX11_whyNot_54 ?_
        refine X_name (fun v11 ev11 => ?_)
        replace h := h v11 ev11
        refine x_istore_n (lv' := [(2, .int v11), (0, .ref (ga G 11 0)), (1, .int x1), (3, .int y3)]) C dX11_whyNot_55 rfl (Nat.le_of_ble_eq_true rfl) rfl ?_
        refine X_sub (lv' := [(0, .ref (ga G 11 0)), (1, .int x1), (2, .int v11), (3, .int y3)]) [1, 2, 0, 3] rfl ?_
        exact wX11_whyNot_56 hG C E hL16 M v11 y3 h
      · replace h := h.2 c10
        refine x_iconst (v := 1) C dX11_whyNot_49 rfl ?_
        refine x_goto (tgt := 54) C dX11_whyNot_50 (by decide) ?_
        refine x_iadd C dX11_whyNot_54 ?_
        refine X_name (fun v12 ev12 => ?_)
        replace h := h v12 ev12
        refine x_istore_n (lv' := [(2, .int v12), (0, .ref (ga G 11 0)), (1, .int x1), (3, .int y3)]) C dX11_whyNot_55 rfl (Nat.le_of_ble_eq_true rfl) rfl ?_
        refine X_sub (lv' := [(0, .ref (ga G 11 0)), (1, .int x1), (2, .int v12), (3, .int y3)]) [1, 2, 0, 3] rfl ?_
        exact wX11_whyNot_56 hG C E hL16 M v12 y3 h
set_option maxRecDepth 100000 in
set_option maxHeartbeats 400000 in
theorem kX11_whyNot {l : Launch} {G : Gm} (hG : Gd G) (M : Mem) (x1 : Int32) {Q : Int32 → Mem → Prop} (h : pX11_whyNot M x1 Q) : Cti l G yX11_whyNot cX11_whyNot 4 .int rmX11_whyNot [.ref (ga G 11 0), .int x1] M Q := by
  refine cti_of (own := RX11) (by decide +kernel) rfl (Nat.le_of_ble_eq_true rfl) hG (fun Γ Qf hl C E => ?_)
  subst hl
  show X Γ G Qf 4 0 0 0 [(0, .ref (ga G 11 0)), (1, .int x1)] [] M
  unfold pX11_whyNot at h
  refine x_aload_n C dX11_whyNot_0 0 rfl ?_
  refine gf_11_14 C q162 z11 dX11_whyNot_1 ?_
  refine x_iload_n C dX11_whyNot_4 1 rfl ?_
  obtain ⟨f1, h⟩ := h
  refine al_1214 C z1214 f1 dX11_whyNot_5 ?_
  refine x_iconst (v := 1) C dX11_whyNot_6 rfl ?_
  refine x_icmp_eq (tgt := 12) C dX11_whyNot_7 (by decide) (fun c2 => ?_) (fun c2 => ?_)
  · replace h := h.1 c2
    refine x_iconst (v := 0) C dX11_whyNot_12 rfl ?_
    refine x_istore_n (lv' := [(2, .int 0), (0, .ref (ga G 11 0)), (1, .int x1)]) C dX11_whyNot_13 rfl (Nat.le_of_ble_eq_true rfl) rfl ?_
    refine x_iconst (v := 0) C dX11_whyNot_14 rfl ?_
    refine x_istore_n (lv' := [(3, .int 0), (2, .int 0), (0, .ref (ga G 11 0)), (1, .int x1)]) C dX11_whyNot_15 rfl (Nat.le_of_ble_eq_true rfl) rfl ?_
    obtain ⟨n9, h⟩ := h
    refine X_sub (lv' := [(0, .ref (ga G 11 0)), (1, .int x1), (2, .int 0), (3, .int 0)]) [2, 3, 1, 0] rfl ?_
    have hb : ∀ (L : Mem × Int32 × Int32 → Prop) (s : Mem × Int32 × Int32), (∀ t, L t → X Γ G Qf 4 0 0 16 [(0, .ref (ga G 11 0)), (1, .int x1), (2, .int t.2.1), (3, .int t.2.2)] [] t.1) → bX11_whyNot_16 x1 Q L s.1 s.2.1 s.2.2 → X Γ G Qf 4 0 0 16 [(0, .ref (ga G 11 0)), (1, .int x1), (2, .int s.2.1), (3, .int s.2.2)] [] s.1 := fun L s hL h => wX11_whyNot_16 hG C E hL s.1 s.2.1 s.2.2 h
    have w9 := lp_walk (P := fun s : Mem × Int32 × Int32 => X Γ G Qf 4 0 0 16 [(0, .ref (ga G 11 0)), (1, .int x1), (2, .int s.2.1), (3, .int s.2.2)] [] s.1) h hb
    dsimp only at w9
    exact w9
  · replace h := h.2 c2
    refine x_iconst (v := 1) C dX11_whyNot_10 rfl ?_
    exact x_iret C E h (Nat.le_of_ble_eq_true rfl) (Nat.le_of_ble_eq_true rfl) dX11_whyNot_11
def rmX11_distance : Room := { frames := 1, cells := 0, slots := 0, locals := 21 }
def bX11_distance_98 (x1 : Int32) (x2 : Int32) (x3 : Int32) (Q : Int32 → Mem → Prop) (L14 : Mem × Int32 × Int32 × Int32 × Int32 → Prop) (M : Mem) (y4 : Int32) (y5 : Int32) (y6 : Int32) (y7 : Int32) : Prop :=
  ∀ v15 : Int32, v15 = y7 + 1 → L14 (M, y4, y5, y6, v15)
def bX11_distance_59 (x1 : Int32) (x2 : Int32) (x3 : Int32) (Q : Int32 → Mem → Prop) (L14 : Mem × Int32 × Int32 × Int32 × Int32 → Prop) (M : Mem) (y4 : Int32) (y5 : Int32) (y6 : Int32) (y7 : Int32) : Prop :=
  ((y5 = (-1) → bX11_distance_98 x1 x2 x3 Q L14 M y4 y5 y6 y7) ∧ (¬ y5 = (-1) → ((y6 = (-1) → bX11_distance_98 x1 x2 x3 Q L14 M y4 y5 y6 y7) ∧ (¬ y6 = (-1) → ((y5 ≤ y6 → pX11_less M y4 (y6 - y5) (fun r11 M12 => bX11_distance_98 x1 x2 x3 Q L14 M12 r11 y5 y6 y7)) ∧ (¬ y5 ≤ y6 → pX11_less M y4 (y5 - y6) (fun r13 M14 => bX11_distance_98 x1 x2 x3 Q L14 M14 r13 y5 y6 y7)))))))
def bX11_distance_42 (x1 : Int32) (x2 : Int32) (x3 : Int32) (Q : Int32 → Mem → Prop) (L14 : Mem × Int32 × Int32 × Int32 × Int32 → Prop) (M : Mem) (y4 : Int32) (y5 : Int32) (y6 : Int32) (y7 : Int32) : Prop :=
  vp_in x3 64 ∧ vp_in y7 150 ∧ ((¬ (M.1 6212 (tn x3) (tn y7)) = x2 → bX11_distance_59 x1 x2 x3 Q L14 M y4 y5 y6 y7) ∧ ((M.1 6212 (tn x3) (tn y7)) = x2 → bX11_distance_59 x1 x2 x3 Q L14 M y4 y5 y7 y7))
def bX11_distance_14 (x1 : Int32) (x2 : Int32) (x3 : Int32) (Q : Int32 → Mem → Prop) (L14 : Mem × Int32 × Int32 × Int32 × Int32 → Prop) (M : Mem) (y4 : Int32) (y5 : Int32) (y6 : Int32) (y7 : Int32) : Prop :=
  vp_in x3 64 ∧ (((M.1 1213 0 (tn x3)) ≤ y7 → Q y4 M) ∧ (¬ (M.1 1213 0 (tn x3)) ≤ y7 → vp_in y7 150 ∧ ((¬ (M.1 6212 (tn x3) (tn y7)) = x1 → bX11_distance_42 x1 x2 x3 Q L14 M y4 y5 y6 y7) ∧ ((M.1 6212 (tn x3) (tn y7)) = x1 → bX11_distance_42 x1 x2 x3 Q L14 M y4 y7 y6 y7))))
def pX11_distance (M : Mem) (x1 : Int32) (x2 : Int32) (x3 : Int32) (Q : Int32 → Mem → Prop) : Prop :=
  ∃ n : Nat, lp (fun L s => bX11_distance_14 x1 x2 x3 Q L s.1 s.2.1 s.2.2.1 s.2.2.2.1 s.2.2.2.2) n (M, 150, (-1), (-1), 0)
set_option maxRecDepth 100000 in
set_option maxHeartbeats 400000 in
theorem wX11_distance_98 {Γ : Gam} {G : Gm} {Qf : State → Prop} (hG : Gd G) (C : Cx Γ G cX11_distance 8 RX11 (some .int) rmX11_distance) {x1 : Int32} {x2 : Int32} {x3 : Int32} {Q : Int32 → Mem → Prop} (E : EndI Γ G Qf rmX11_distance Q) {L14 : Mem × Int32 × Int32 × Int32 × Int32 → Prop} (hL14 : ∀ s, L14 s → X Γ G Qf 8 0 0 14 [(0, .ref (ga G 11 0)), (1, .int x1), (2, .int x2), (3, .int x3), (4, .int s.2.1), (5, .int s.2.2.1), (6, .int s.2.2.2.1), (7, .int s.2.2.2.2)] [] s.1) (M : Mem) (y4 : Int32) (y5 : Int32) (y6 : Int32) (y7 : Int32) (h : bX11_distance_98 x1 x2 x3 Q L14 M y4 y5 y6 y7) : X Γ G Qf 8 0 0 98 [(0, .ref (ga G 11 0)), (1, .int x1), (2, .int x2), (3, .int x3), (4, .int y4), (5, .int y5), (6, .int y6), (7, .int y7)] [] M := by
  unfold bX11_distance_98 at h
  obtain ⟨v15, ev15⟩ : ∃ z : Int32, z = y7 + 1 := ⟨_, rfl⟩
  replace h := h v15 ev15
  refine x_iinc (v := v15) (lv' := [(7, .int v15), (0, .ref (ga G 11 0)), (1, .int x1), (2, .int x2), (3, .int x3), (4, .int y4), (5, .int y5), (6, .int y6)]) (j := 7) C dX11_distance_98 rfl (by rw [ev15]; rfl) (Nat.le_of_ble_eq_true rfl) rfl ?_
  refine x_goto (tgt := 14) C dX11_distance_101 (by decide) ?_
  refine X_sub (lv' := [(0, .ref (ga G 11 0)), (1, .int x1), (2, .int x2), (3, .int x3), (4, .int y4), (5, .int y5), (6, .int y6), (7, .int v15)]) [1, 2, 3, 4, 5, 6, 7, 0] rfl ?_
  have w9 := hL14 (M, y4, y5, y6, v15) h
  dsimp only at w9
  exact w9
set_option maxRecDepth 100000 in
set_option maxHeartbeats 400000 in
theorem wX11_distance_59 {Γ : Gam} {G : Gm} {Qf : State → Prop} (hG : Gd G) (C : Cx Γ G cX11_distance 8 RX11 (some .int) rmX11_distance) {x1 : Int32} {x2 : Int32} {x3 : Int32} {Q : Int32 → Mem → Prop} (E : EndI Γ G Qf rmX11_distance Q) {L14 : Mem × Int32 × Int32 × Int32 × Int32 → Prop} (hL14 : ∀ s, L14 s → X Γ G Qf 8 0 0 14 [(0, .ref (ga G 11 0)), (1, .int x1), (2, .int x2), (3, .int x3), (4, .int s.2.1), (5, .int s.2.2.1), (6, .int s.2.2.2.1), (7, .int s.2.2.2.2)] [] s.1) (M : Mem) (y4 : Int32) (y5 : Int32) (y6 : Int32) (y7 : Int32) (h : bX11_distance_59 x1 x2 x3 Q L14 M y4 y5 y6 y7) : X Γ G Qf 8 0 0 59 [(0, .ref (ga G 11 0)), (1, .int x1), (2, .int x2), (3, .int x3), (4, .int y4), (5, .int y5), (6, .int y6), (7, .int y7)] [] M := by
  unfold bX11_distance_59 at h
  refine x_iload C dX11_distance_59 5 rfl ?_
  refine x_iconst (v := (-1)) C dX11_distance_61 rfl ?_
  refine x_icmp_eq (tgt := 98) C dX11_distance_62 (by decide) (fun c8 => ?_) (fun c8 => ?_)
  · replace h := h.1 c8
    refine X_sub (lv' := [(0, .ref (ga G 11 0)), (1, .int x1), (2, .int x2), (3, .int x3), (4, .int y4), (5, .int y5), (6, .int y6), (7, .int y7)]) [0, 1, 2, 3, 4, 5, 6, 7] rfl ?_
    exact wX11_distance_98 hG C E hL14 M y4 y5 y6 y7 h
  · replace h := h.2 c8
    refine x_iload C dX11_distance_65 6 rfl ?_
    refine x_iconst (v := (-1)) C dX11_distance_67 rfl ?_
    refine x_icmp_eq (tgt := 98) C dX11_distance_68 (by decide) (fun c9 => ?_) (fun c9 => ?_)
    · replace h := h.1 c9
      refine X_sub (lv' := [(0, .ref (ga G 11 0)), (1, .int x1), (2, .int x2), (3, .int x3), (4, .int y4), (5, .int y5), (6, .int y6), (7, .int y7)]) [0, 1, 2, 3, 4, 5, 6, 7] rfl ?_
      exact wX11_distance_98 hG C E hL14 M y4 y5 y6 y7 h
    · replace h := h.2 c9
      refine x_iload C dX11_distance_71 4 rfl ?_
      refine x_iload C dX11_distance_73 5 rfl ?_
      refine x_iload C dX11_distance_75 6 rfl ?_
      refine x_icmp_le (tgt := 88) C dX11_distance_77 (by decide) (fun c10 => ?_) (fun c10 => ?_)
      · replace h := h.1 c10
        refine x_iload C dX11_distance_88 6 rfl ?_
        refine x_iload C dX11_distance_90 5 rfl ?_
        refine x_isub C dX11_distance_92 ?_
        refine x_scalli (rest := []) C ss_X11_236 (kX11_less hG _ _ _ h) rfl rfl (Nat.le_of_ble_eq_true rfl) ⟨Nat.le_of_ble_eq_true rfl, Nat.le_of_ble_eq_true rfl⟩ rfl rfl ⟨Nat.le_of_ble_eq_true rfl, Nat.le_of_ble_eq_true rfl⟩ dX11_distance_93 (fun r11 M12 h => ?_)
        refine x_istore (lv' := [(4, .int r11), (0, .ref (ga G 11 0)), (1, .int x1), (2, .int x2), (3, .int x3), (5, .int y5), (6, .int y6), (7, .int y7)]) C dX11_distance_96 (Nat.le_of_ble_eq_true rfl) rfl ?_
        refine X_sub (lv' := [(0, .ref (ga G 11 0)), (1, .int x1), (2, .int x2), (3, .int x3), (4, .int r11), (5, .int y5), (6, .int y6), (7, .int y7)]) [1, 2, 3, 4, 0, 5, 6, 7] rfl ?_
        exact wX11_distance_98 hG C E hL14 M12 r11 y5 y6 y7 h
      · replace h := h.2 c10
        refine x_iload C dX11_distance_80 5 rfl ?_
        refine x_iload C dX11_distance_82 6 rfl ?_
        refine x_isub C dX11_distance_84 ?_
        refine x_goto (tgt := 93) C dX11_distance_85 (by decide) ?_
        refine x_scalli (rest := []) C ss_X11_236 (kX11_less hG _ _ _ h) rfl rfl (Nat.le_of_ble_eq_true rfl) ⟨Nat.le_of_ble_eq_true rfl, Nat.le_of_ble_eq_true rfl⟩ rfl rfl ⟨Nat.le_of_ble_eq_true rfl, Nat.le_of_ble_eq_true rfl⟩ dX11_distance_93 (fun r13 M14 h => ?_)
        refine x_istore (lv' := [(4, .int r13), (0, .ref (ga G 11 0)), (1, .int x1), (2, .int x2), (3, .int x3), (5, .int y5), (6, .int y6), (7, .int y7)]) C dX11_distance_96 (Nat.le_of_ble_eq_true rfl) rfl ?_
        refine X_sub (lv' := [(0, .ref (ga G 11 0)), (1, .int x1), (2, .int x2), (3, .int x3), (4, .int r13), (5, .int y5), (6, .int y6), (7, .int y7)]) [1, 2, 3, 4, 0, 5, 6, 7] rfl ?_
        exact wX11_distance_98 hG C E hL14 M14 r13 y5 y6 y7 h
set_option maxRecDepth 100000 in
set_option maxHeartbeats 400000 in
theorem wX11_distance_42 {Γ : Gam} {G : Gm} {Qf : State → Prop} (hG : Gd G) (C : Cx Γ G cX11_distance 8 RX11 (some .int) rmX11_distance) {x1 : Int32} {x2 : Int32} {x3 : Int32} {Q : Int32 → Mem → Prop} (E : EndI Γ G Qf rmX11_distance Q) {L14 : Mem × Int32 × Int32 × Int32 × Int32 → Prop} (hL14 : ∀ s, L14 s → X Γ G Qf 8 0 0 14 [(0, .ref (ga G 11 0)), (1, .int x1), (2, .int x2), (3, .int x3), (4, .int s.2.1), (5, .int s.2.2.1), (6, .int s.2.2.2.1), (7, .int s.2.2.2.2)] [] s.1) (M : Mem) (y4 : Int32) (y5 : Int32) (y6 : Int32) (y7 : Int32) (h : bX11_distance_42 x1 x2 x3 Q L14 M y4 y5 y6 y7) : X Γ G Qf 8 0 0 42 [(0, .ref (ga G 11 0)), (1, .int x1), (2, .int x2), (3, .int x3), (4, .int y4), (5, .int y5), (6, .int y6), (7, .int y7)] [] M := by
  unfold bX11_distance_42 at h
  refine x_aload_n C dX11_distance_42 0 rfl ?_
  refine gf_11_12 C q158 z11 dX11_distance_43 ?_
  refine x_iload_n C dX11_distance_46 3 rfl ?_
  obtain ⟨f5, h⟩ := h
  refine al_1212 C z1212 f5 dX11_distance_47 ?_
  refine x_iload C dX11_distance_48 7 rfl ?_
  obtain ⟨f6, h⟩ := h
  refine al_6212 C (vp_lt f5) f6 dX11_distance_50 ?_
  refine x_iload_n C dX11_distance_51 2 rfl ?_
  refine x_icmp_ne (tgt := 59) C dX11_distance_52 (by decide) (fun c7 => ?_) (fun c7 => ?_)
  · replace h := h.1 c7
    refine X_sub (lv' := [(0, .ref (ga G 11 0)), (1, .int x1), (2, .int x2), (3, .int x3), (4, .int y4), (5, .int y5), (6, .int y6), (7, .int y7)]) [0, 1, 2, 3, 4, 5, 6, 7] rfl ?_
    exact wX11_distance_59 hG C E hL14 M y4 y5 y6 y7 h
  · replace h := h.2 c7
    refine x_iload C dX11_distance_55 7 rfl ?_
    refine x_istore (lv' := [(6, .int y7), (0, .ref (ga G 11 0)), (1, .int x1), (2, .int x2), (3, .int x3), (4, .int y4), (5, .int y5), (7, .int y7)]) C dX11_distance_57 (Nat.le_of_ble_eq_true rfl) rfl ?_
    refine X_sub (lv' := [(0, .ref (ga G 11 0)), (1, .int x1), (2, .int x2), (3, .int x3), (4, .int y4), (5, .int y5), (6, .int y7), (7, .int y7)]) [1, 2, 3, 4, 5, 6, 0, 7] rfl ?_
    exact wX11_distance_59 hG C E hL14 M y4 y5 y7 y7 h
set_option maxRecDepth 100000 in
set_option maxHeartbeats 400000 in
theorem wX11_distance_14 {Γ : Gam} {G : Gm} {Qf : State → Prop} (hG : Gd G) (C : Cx Γ G cX11_distance 8 RX11 (some .int) rmX11_distance) {x1 : Int32} {x2 : Int32} {x3 : Int32} {Q : Int32 → Mem → Prop} (E : EndI Γ G Qf rmX11_distance Q) {L14 : Mem × Int32 × Int32 × Int32 × Int32 → Prop} (hL14 : ∀ s, L14 s → X Γ G Qf 8 0 0 14 [(0, .ref (ga G 11 0)), (1, .int x1), (2, .int x2), (3, .int x3), (4, .int s.2.1), (5, .int s.2.2.1), (6, .int s.2.2.2.1), (7, .int s.2.2.2.2)] [] s.1) (M : Mem) (y4 : Int32) (y5 : Int32) (y6 : Int32) (y7 : Int32) (h : bX11_distance_14 x1 x2 x3 Q L14 M y4 y5 y6 y7) : X Γ G Qf 8 0 0 14 [(0, .ref (ga G 11 0)), (1, .int x1), (2, .int x2), (3, .int x3), (4, .int y4), (5, .int y5), (6, .int y6), (7, .int y7)] [] M := by
  unfold bX11_distance_14 at h
  refine x_iload C dX11_distance_14 7 rfl ?_
  refine x_aload_n C dX11_distance_16 0 rfl ?_
  refine gf_11_13 C q161 z11 dX11_distance_17 ?_
  refine x_iload_n C dX11_distance_20 3 rfl ?_
  obtain ⟨f1, h⟩ := h
  refine al_1213 C z1213 f1 dX11_distance_21 ?_
  refine x_icmp_ge (tgt := 104) C dX11_distance_22 (by decide) (fun c2 => ?_) (fun c2 => ?_)
  · replace h := h.1 c2
    refine x_iload C dX11_distance_104 4 rfl ?_
    exact x_iret C E h (Nat.le_of_ble_eq_true rfl) (Nat.le_of_ble_eq_true rfl) dX11_distance_106
  · replace h := h.2 c2
    refine x_aload_n C dX11_distance_25 0 rfl ?_
    refine gf_11_12 C q158 z11 dX11_distance_26 ?_
    refine x_iload_n C dX11_distance_29 3 rfl ?_
    refine al_1212 C z1212 f1 dX11_distance_30 ?_
    refine x_iload C dX11_distance_31 7 rfl ?_
    obtain ⟨f3, h⟩ := h
    refine al_6212 C (vp_lt f1) f3 dX11_distance_33 ?_
    refine x_iload_n C dX11_distance_34 1 rfl ?_
    refine x_icmp_ne (tgt := 42) C dX11_distance_35 (by decide) (fun c4 => ?_) (fun c4 => ?_)
    · replace h := h.1 c4
      refine X_sub (lv' := [(0, .ref (ga G 11 0)), (1, .int x1), (2, .int x2), (3, .int x3), (4, .int y4), (5, .int y5), (6, .int y6), (7, .int y7)]) [0, 1, 2, 3, 4, 5, 6, 7] rfl ?_
      exact wX11_distance_42 hG C E hL14 M y4 y5 y6 y7 h
    · replace h := h.2 c4
      refine x_iload C dX11_distance_38 7 rfl ?_
      refine x_istore (lv' := [(5, .int y7), (0, .ref (ga G 11 0)), (1, .int x1), (2, .int x2), (3, .int x3), (4, .int y4), (6, .int y6), (7, .int y7)]) C dX11_distance_40 (Nat.le_of_ble_eq_true rfl) rfl ?_
      refine X_sub (lv' := [(0, .ref (ga G 11 0)), (1, .int x1), (2, .int x2), (3, .int x3), (4, .int y4), (5, .int y7), (6, .int y6), (7, .int y7)]) [1, 2, 3, 4, 5, 0, 6, 7] rfl ?_
      exact wX11_distance_42 hG C E hL14 M y4 y7 y6 y7 h
set_option maxRecDepth 100000 in
set_option maxHeartbeats 400000 in
theorem kX11_distance {l : Launch} {G : Gm} (hG : Gd G) (M : Mem) (x1 : Int32) (x2 : Int32) (x3 : Int32) {Q : Int32 → Mem → Prop} (h : pX11_distance M x1 x2 x3 Q) : Cti l G yX11_distance cX11_distance 8 .int rmX11_distance [.ref (ga G 11 0), .int x1, .int x2, .int x3] M Q := by
  refine cti_of (own := RX11) (by decide +kernel) rfl (Nat.le_of_ble_eq_true rfl) hG (fun Γ Qf hl C E => ?_)
  subst hl
  show X Γ G Qf 8 0 0 0 [(0, .ref (ga G 11 0)), (1, .int x1), (2, .int x2), (3, .int x3)] [] M
  unfold pX11_distance at h
  refine x_sipush (v := 150) C dX11_distance_0 rfl ?_
  refine x_istore (lv' := [(4, .int 150), (0, .ref (ga G 11 0)), (1, .int x1), (2, .int x2), (3, .int x3)]) C dX11_distance_3 (Nat.le_of_ble_eq_true rfl) rfl ?_
  refine x_iconst (v := (-1)) C dX11_distance_5 rfl ?_
  refine x_istore (lv' := [(5, .int (-1)), (4, .int 150), (0, .ref (ga G 11 0)), (1, .int x1), (2, .int x2), (3, .int x3)]) C dX11_distance_6 (Nat.le_of_ble_eq_true rfl) rfl ?_
  refine x_iconst (v := (-1)) C dX11_distance_8 rfl ?_
  refine x_istore (lv' := [(6, .int (-1)), (5, .int (-1)), (4, .int 150), (0, .ref (ga G 11 0)), (1, .int x1), (2, .int x2), (3, .int x3)]) C dX11_distance_9 (Nat.le_of_ble_eq_true rfl) rfl ?_
  refine x_iconst (v := 0) C dX11_distance_11 rfl ?_
  refine x_istore (lv' := [(7, .int 0), (6, .int (-1)), (5, .int (-1)), (4, .int 150), (0, .ref (ga G 11 0)), (1, .int x1), (2, .int x2), (3, .int x3)]) C dX11_distance_12 (Nat.le_of_ble_eq_true rfl) rfl ?_
  obtain ⟨n9, h⟩ := h
  refine X_sub (lv' := [(0, .ref (ga G 11 0)), (1, .int x1), (2, .int x2), (3, .int x3), (4, .int 150), (5, .int (-1)), (6, .int (-1)), (7, .int 0)]) [4, 5, 6, 7, 3, 2, 1, 0] rfl ?_
  have hb : ∀ (L : Mem × Int32 × Int32 × Int32 × Int32 → Prop) (s : Mem × Int32 × Int32 × Int32 × Int32), (∀ t, L t → X Γ G Qf 8 0 0 14 [(0, .ref (ga G 11 0)), (1, .int x1), (2, .int x2), (3, .int x3), (4, .int t.2.1), (5, .int t.2.2.1), (6, .int t.2.2.2.1), (7, .int t.2.2.2.2)] [] t.1) → bX11_distance_14 x1 x2 x3 Q L s.1 s.2.1 s.2.2.1 s.2.2.2.1 s.2.2.2.2 → X Γ G Qf 8 0 0 14 [(0, .ref (ga G 11 0)), (1, .int x1), (2, .int x2), (3, .int x3), (4, .int s.2.1), (5, .int s.2.2.1), (6, .int s.2.2.2.1), (7, .int s.2.2.2.2)] [] s.1 := fun L s hL h => wX11_distance_14 hG C E hL s.1 s.2.1 s.2.2.1 s.2.2.2.1 s.2.2.2.2 h
  have w9 := lp_walk (P := fun s : Mem × Int32 × Int32 × Int32 × Int32 => X Γ G Qf 8 0 0 14 [(0, .ref (ga G 11 0)), (1, .int x1), (2, .int x2), (3, .int x3), (4, .int s.2.1), (5, .int s.2.2.1), (6, .int s.2.2.2.1), (7, .int s.2.2.2.2)] [] s.1) h hb
  dsimp only at w9
  exact w9
def rmX11_behind : Room := { frames := 0, cells := 0, slots := 0, locals := 0 }
def pX11_behind (M : Mem) (x1 : Int32) (Q : Int32 → Mem → Prop) : Prop :=
  ((¬ (x1 + 1) = (M.1 1239 0 0) → Q (x1 + 1) M) ∧ ((x1 + 1) = (M.1 1239 0 0) → Q (x1 + 2) M))
set_option maxRecDepth 100000 in
set_option maxHeartbeats 400000 in
theorem kX11_behind {l : Launch} {G : Gm} (hG : Gd G) (M : Mem) (x1 : Int32) {Q : Int32 → Mem → Prop} (h : pX11_behind M x1 Q) : Cti l G yX11_behind cX11_behind 2 .int rmX11_behind [.ref (ga G 11 0), .int x1] M Q := by
  refine cti_of (own := RX11) (by decide +kernel) rfl (Nat.le_of_ble_eq_true rfl) hG (fun Γ Qf hl C E => ?_)
  subst hl
  show X Γ G Qf 2 0 0 0 [(0, .ref (ga G 11 0)), (1, .int x1)] [] M
  unfold pX11_behind at h
  refine x_iload_n C dX11_behind_0 1 rfl ?_
  refine x_iconst (v := 1) C dX11_behind_1 rfl ?_
  refine x_iadd C dX11_behind_2 ?_
  refine x_aload_n C dX11_behind_3 0 rfl ?_
  refine gf_11_39 C q183 z11 dX11_behind_4 ?_
  refine x_icmp_ne (tgt := 16) C dX11_behind_7 (by decide) (fun c1 => ?_) (fun c1 => ?_)
  · replace h := h.1 c1
    refine x_iload_n C dX11_behind_16 1 rfl ?_
    refine x_iconst (v := 1) C dX11_behind_17 rfl ?_
    refine x_iadd C dX11_behind_18 ?_
    exact x_iret C E h (Nat.le_of_ble_eq_true rfl) (Nat.le_of_ble_eq_true rfl) dX11_behind_19
  · replace h := h.2 c1
    refine x_iload_n C dX11_behind_10 1 rfl ?_
    refine x_iconst (v := 2) C dX11_behind_11 rfl ?_
    refine x_iadd C dX11_behind_12 ?_
    refine x_goto (tgt := 19) C dX11_behind_13 (by decide) ?_
    exact x_iret C E h (Nat.le_of_ble_eq_true rfl) (Nat.le_of_ble_eq_true rfl) dX11_behind_19
def rmX11_nearOf : Room := { frames := 2, cells := 0, slots := 0, locals := 48 }
def bX11_nearOf_78 (x1 : Int32) (Q : Int32 → Mem → Prop) (L15 : Mem × Int32 × Int32 → Prop) (M : Mem) (y2 : Int32) (y3 : Int32) : Prop :=
  pX11_behind M y3 (fun r14 M15 => L15 (M15, y2, r14))
def bX11_nearOf_15 (x1 : Int32) (Q : Int32 → Mem → Prop) (L15 : Mem × Int32 × Int32 → Prop) (M : Mem) (y2 : Int32) (y3 : Int32) : Prop :=
  pX11_behind M y3 (fun r2 M3 => (((M3.1 1218 0 0) ≤ r2 → Q y2 M3) ∧ (¬ (M3.1 1218 0 0) ≤ r2 → vp_in y3 24 ∧ pX11_behind M3 y3 (fun r6 M7 => vp_in r6 24 ∧ pX11_distance M7 (M3.1 1225 0 (tn y3)) (M7.1 1225 0 (tn r6)) x1 (fun r9 M10 => (((M10.1 1223 0 0) < r9 → ∀ v12 : Int32, v12 = (y2 + 0) → bX11_nearOf_78 x1 Q L15 M10 v12 y3) ∧ (¬ (M10.1 1223 0 0) < r9 → ∀ v13 : Int32, v13 = (y2 + (50 * (((M10.1 1223 0 0) + 1) - r9))) → bX11_nearOf_78 x1 Q L15 M10 v13 y3)))))))
def pX11_nearOf (M : Mem) (x1 : Int32) (Q : Int32 → Mem → Prop) : Prop :=
  ((¬ (M.1 1239 0 0) = 0 → ∃ n : Nat, lp (fun L s => bX11_nearOf_15 x1 Q L s.1 s.2.1 s.2.2) n (M, 0, 0)) ∧ ((M.1 1239 0 0) = 0 → ∃ n : Nat, lp (fun L s => bX11_nearOf_15 x1 Q L s.1 s.2.1 s.2.2) n (M, 0, 1)))
set_option maxRecDepth 100000 in
set_option maxHeartbeats 400000 in
theorem wX11_nearOf_78 {Γ : Gam} {G : Gm} {Qf : State → Prop} (hG : Gd G) (C : Cx Γ G cX11_nearOf 5 RX11 (some .int) rmX11_nearOf) {x1 : Int32} {Q : Int32 → Mem → Prop} (E : EndI Γ G Qf rmX11_nearOf Q) {L15 : Mem × Int32 × Int32 → Prop} (hL15 : ∀ s, L15 s → X Γ G Qf 5 0 0 15 [(0, .ref (ga G 11 0)), (1, .int x1), (2, .int s.2.1), (3, .int s.2.2)] [] s.1) (M : Mem) (y2 : Int32) (y3 : Int32) (h : bX11_nearOf_78 x1 Q L15 M y2 y3) : X Γ G Qf 5 0 0 78 [(0, .ref (ga G 11 0)), (1, .int x1), (2, .int y2), (3, .int y3)] [] M := by
  unfold bX11_nearOf_78 at h
  refine x_aload_n C dX11_nearOf_78 0 rfl ?_
  refine x_iload_n C dX11_nearOf_79 3 rfl ?_
  refine x_calli (rest := []) C sv_X11_284 ob11 z11 (kX11_behind hG _ _ h) rfl rfl (Nat.le_of_ble_eq_true rfl) ⟨Nat.le_of_ble_eq_true rfl, Nat.le_of_ble_eq_true rfl⟩ rfl rfl ⟨Nat.le_of_ble_eq_true rfl, Nat.le_of_ble_eq_true rfl⟩ dX11_nearOf_80 (fun r14 M15 h => ?_)
  refine x_istore_n (lv' := [(3, .int r14), (0, .ref (ga G 11 0)), (1, .int x1), (2, .int y2)]) C dX11_nearOf_83 rfl (Nat.le_of_ble_eq_true rfl) rfl ?_
  refine x_goto (tgt := 15) C dX11_nearOf_84 (by decide) ?_
  refine X_sub (lv' := [(0, .ref (ga G 11 0)), (1, .int x1), (2, .int y2), (3, .int r14)]) [1, 2, 3, 0] rfl ?_
  have w9 := hL15 (M15, y2, r14) h
  dsimp only at w9
  exact w9
set_option maxRecDepth 100000 in
set_option maxHeartbeats 400000 in
theorem wX11_nearOf_15 {Γ : Gam} {G : Gm} {Qf : State → Prop} (hG : Gd G) (C : Cx Γ G cX11_nearOf 5 RX11 (some .int) rmX11_nearOf) {x1 : Int32} {Q : Int32 → Mem → Prop} (E : EndI Γ G Qf rmX11_nearOf Q) {L15 : Mem × Int32 × Int32 → Prop} (hL15 : ∀ s, L15 s → X Γ G Qf 5 0 0 15 [(0, .ref (ga G 11 0)), (1, .int x1), (2, .int s.2.1), (3, .int s.2.2)] [] s.1) (M : Mem) (y2 : Int32) (y3 : Int32) (h : bX11_nearOf_15 x1 Q L15 M y2 y3) : X Γ G Qf 5 0 0 15 [(0, .ref (ga G 11 0)), (1, .int x1), (2, .int y2), (3, .int y3)] [] M := by
  unfold bX11_nearOf_15 at h
  refine x_aload_n C dX11_nearOf_15 0 rfl ?_
  refine x_iload_n C dX11_nearOf_16 3 rfl ?_
  refine x_calli (rest := []) C sv_X11_284 ob11 z11 (kX11_behind hG _ _ h) rfl rfl (Nat.le_of_ble_eq_true rfl) ⟨Nat.le_of_ble_eq_true rfl, Nat.le_of_ble_eq_true rfl⟩ rfl rfl ⟨Nat.le_of_ble_eq_true rfl, Nat.le_of_ble_eq_true rfl⟩ dX11_nearOf_17 (fun r2 M3 h => ?_)
  refine x_aload_n C dX11_nearOf_20 0 rfl ?_
  refine gf_11_18 C q168 z11 dX11_nearOf_21 ?_
  refine x_icmp_ge (tgt := 87) C dX11_nearOf_24 (by decide) (fun c4 => ?_) (fun c4 => ?_)
  · replace h := h.1 c4
    refine x_iload_n C dX11_nearOf_87 2 rfl ?_
    exact x_iret C E h (Nat.le_of_ble_eq_true rfl) (Nat.le_of_ble_eq_true rfl) dX11_nearOf_88
  · replace h := h.2 c4
    refine x_aload_n C dX11_nearOf_27 0 rfl ?_
    refine x_aload_n C dX11_nearOf_28 0 rfl ?_
    refine gf_11_25 C q169 z11 dX11_nearOf_29 ?_
    refine x_iload_n C dX11_nearOf_32 3 rfl ?_
    obtain ⟨f5, h⟩ := h
    refine al_1225 C z1225 f5 dX11_nearOf_33 ?_
    refine x_aload_n C dX11_nearOf_34 0 rfl ?_
    refine gf_11_25 C q169 z11 dX11_nearOf_35 ?_
    refine x_aload_n C dX11_nearOf_38 0 rfl ?_
    refine x_iload_n C dX11_nearOf_39 3 rfl ?_
    refine x_calli (rest := [.ref (ga G 1225 0), .int (M3.1 1225 0 (tn y3)), .ref (ga G 11 0)]) C sv_X11_284 ob11 z11 (kX11_behind hG _ _ h) rfl rfl (Nat.le_of_ble_eq_true rfl) ⟨Nat.le_of_ble_eq_true rfl, Nat.le_of_ble_eq_true rfl⟩ rfl rfl ⟨Nat.le_of_ble_eq_true rfl, Nat.le_of_ble_eq_true rfl⟩ dX11_nearOf_40 (fun r6 M7 h => ?_)
    obtain ⟨f8, h⟩ := h
    refine al_1225 C z1225 f8 dX11_nearOf_43 ?_
    refine x_iload_n C dX11_nearOf_44 1 rfl ?_
    refine x_calli (rest := []) C sv_X11_287 ob11 z11 (kX11_distance hG _ _ _ _ h) rfl rfl (Nat.le_of_ble_eq_true rfl) ⟨Nat.le_of_ble_eq_true rfl, Nat.le_of_ble_eq_true rfl⟩ rfl rfl ⟨Nat.le_of_ble_eq_true rfl, Nat.le_of_ble_eq_true rfl⟩ dX11_nearOf_45 (fun r9 M10 h => ?_)
    refine x_istore (lv' := [(4, .int r9), (0, .ref (ga G 11 0)), (1, .int x1), (2, .int y2), (3, .int y3)]) C dX11_nearOf_48 (Nat.le_of_ble_eq_true rfl) rfl ?_
    refine x_iload_n C dX11_nearOf_50 3 rfl ?_
    refine x_iload C dX11_nearOf_51 0 rfl ?_
    refine x_aload_n C dX11_nearOf_53 1 rfl ?_
    refine gf_11_23 C q175 z11 dX11_nearOf_54 ?_
    refine x_icmp_gt (tgt := 75) C dX11_nearOf_57 (by decide) (fun c11 => ?_) (fun c11 => ?_)
    · replace h := h.1 c11
      refine x_iconst (v := 0) C dX11_nearOf_75 rfl ?_
      refine x_iadd C dX11_nearOf_76 ?_
      refine X_name (fun v12 ev12 => ?_)
      replace h := h v12 ev12
      refine x_istore_n (lv' := [(2, .int v12), (4, .int r9), (0, .ref (ga G 11 0)), (1, .int x1), (3, .int y3)]) C dX11_nearOf_77 rfl (Nat.le_of_ble_eq_true rfl) rfl ?_
      refine X_sub (lv' := [(0, .ref (ga G 11 0)), (1, .int x1), (2, .int v12), (3, .int y3)]) [2, 3, 0, 4] rfl ?_
      exact wX11_nearOf_78 hG C E hL15 M10 v12 y3 h
    · replace h := h.2 c11
      refine x_bipush (v := 50) C dX11_nearOf_60 rfl ?_
      refine x_aload_n C dX11_nearOf_62 1 rfl ?_
      refine gf_11_23 C q175 z11 dX11_nearOf_63 ?_
      refine x_iconst (v := 1) C dX11_nearOf_66 rfl ?_
      refine x_iadd C dX11_nearOf_67 ?_
      refine x_iload C dX11_nearOf_68 0 rfl ?_
      refine x_isub C dX11_nearOf_70 ?_
      refine x_imul C dX11_nearOf_71 ?_
      refine x_goto (tgt := 76) C dX11_nearOf_72 (by decide) ?_
      refine x_iadd C dX11_nearOf_76 ?_
      refine X_name (fun v13 ev13 => ?_)
      replace h := h v13 ev13
      refine x_istore_n (lv' := [(2, .int v13), (4, .int r9), (0, .ref (ga G 11 0)), (1, .int x1), (3, .int y3)]) C dX11_nearOf_77 rfl (Nat.le_of_ble_eq_true rfl) rfl ?_
      refine X_sub (lv' := [(0, .ref (ga G 11 0)), (1, .int x1), (2, .int v13), (3, .int y3)]) [2, 3, 0, 4] rfl ?_
      exact wX11_nearOf_78 hG C E hL15 M10 v13 y3 h
set_option maxRecDepth 100000 in
set_option maxHeartbeats 400000 in
theorem kX11_nearOf {l : Launch} {G : Gm} (hG : Gd G) (M : Mem) (x1 : Int32) {Q : Int32 → Mem → Prop} (h : pX11_nearOf M x1 Q) : Cti l G yX11_nearOf cX11_nearOf 5 .int rmX11_nearOf [.ref (ga G 11 0), .int x1] M Q := by
  refine cti_of (own := RX11) (by decide +kernel) rfl (Nat.le_of_ble_eq_true rfl) hG (fun Γ Qf hl C E => ?_)
  subst hl
  show X Γ G Qf 5 0 0 0 [(0, .ref (ga G 11 0)), (1, .int x1)] [] M
  unfold pX11_nearOf at h
  refine x_iconst (v := 0) C dX11_nearOf_0 rfl ?_
  refine x_istore_n (lv' := [(2, .int 0), (0, .ref (ga G 11 0)), (1, .int x1)]) C dX11_nearOf_1 rfl (Nat.le_of_ble_eq_true rfl) rfl ?_
  refine x_aload_n C dX11_nearOf_2 1 rfl ?_
  refine gf_11_39 C q183 z11 dX11_nearOf_3 ?_
  refine x_if_ne (tgt := 13) C dX11_nearOf_6 (by decide) (fun c1 => ?_) (fun c1 => ?_)
  · replace h := h.1 c1
    refine x_iconst (v := 0) C dX11_nearOf_13 rfl ?_
    refine x_istore_n (lv' := [(3, .int 0), (2, .int 0), (0, .ref (ga G 11 0)), (1, .int x1)]) C dX11_nearOf_14 rfl (Nat.le_of_ble_eq_true rfl) rfl ?_
    obtain ⟨n9, h⟩ := h
    refine X_sub (lv' := [(0, .ref (ga G 11 0)), (1, .int x1), (2, .int 0), (3, .int 0)]) [2, 3, 1, 0] rfl ?_
    have hb : ∀ (L : Mem × Int32 × Int32 → Prop) (s : Mem × Int32 × Int32), (∀ t, L t → X Γ G Qf 5 0 0 15 [(0, .ref (ga G 11 0)), (1, .int x1), (2, .int t.2.1), (3, .int t.2.2)] [] t.1) → bX11_nearOf_15 x1 Q L s.1 s.2.1 s.2.2 → X Γ G Qf 5 0 0 15 [(0, .ref (ga G 11 0)), (1, .int x1), (2, .int s.2.1), (3, .int s.2.2)] [] s.1 := fun L s hL h => wX11_nearOf_15 hG C E hL s.1 s.2.1 s.2.2 h
    have w9 := lp_walk (P := fun s : Mem × Int32 × Int32 => X Γ G Qf 5 0 0 15 [(0, .ref (ga G 11 0)), (1, .int x1), (2, .int s.2.1), (3, .int s.2.2)] [] s.1) h hb
    dsimp only at w9
    exact w9
  · replace h := h.2 c1
    refine x_iconst (v := 1) C dX11_nearOf_9 rfl ?_
    refine x_goto (tgt := 14) C dX11_nearOf_10 (by decide) ?_
    refine x_istore_n (lv' := [(3, .int 1), (2, .int 0), (0, .ref (ga G 11 0)), (1, .int x1)]) C dX11_nearOf_14 rfl (Nat.le_of_ble_eq_true rfl) rfl ?_
    obtain ⟨n9, h⟩ := h
    refine X_sub (lv' := [(0, .ref (ga G 11 0)), (1, .int x1), (2, .int 0), (3, .int 1)]) [2, 3, 1, 0] rfl ?_
    have hb : ∀ (L : Mem × Int32 × Int32 → Prop) (s : Mem × Int32 × Int32), (∀ t, L t → X Γ G Qf 5 0 0 15 [(0, .ref (ga G 11 0)), (1, .int x1), (2, .int t.2.1), (3, .int t.2.2)] [] t.1) → bX11_nearOf_15 x1 Q L s.1 s.2.1 s.2.2 → X Γ G Qf 5 0 0 15 [(0, .ref (ga G 11 0)), (1, .int x1), (2, .int s.2.1), (3, .int s.2.2)] [] s.1 := fun L s hL h => wX11_nearOf_15 hG C E hL s.1 s.2.1 s.2.2 h
    have w9 := lp_walk (P := fun s : Mem × Int32 × Int32 => X Γ G Qf 5 0 0 15 [(0, .ref (ga G 11 0)), (1, .int x1), (2, .int s.2.1), (3, .int s.2.2)] [] s.1) h hb
    dsimp only at w9
    exact w9
