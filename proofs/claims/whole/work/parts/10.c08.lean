def rmX6_lengthenPhrase : Room := { frames := 2, cells := 0, slots := 0, locals := 46 }
def pX6_lengthenPhrase (M : Mem) (x1 : Int32) (Q : Mem → Prop) : Prop :=
  ∀ v1 : Int32, v1 = ((M.1 708 1 0) - 1) → vp_in v1 6 ∧ vp_in (M.1 709 1 (tn v1)) 4 ∧ ∀ M4 : Mem, M4 = up1 M 5711 (tn v1) (tn (M.1 709 1 (tn v1))) x1 → ∀ M5 : Mem, M5 = up1 M4 709 1 (tn v1) ((M4.1 709 1 (tn v1)) + 1) → pX6_want M5 x1 1 1 (fun M7 => Q M7)
set_option maxRecDepth 100000 in
set_option maxHeartbeats 400000 in
theorem kX6_lengthenPhrase {l : Launch} {G : Gm} (hG : Gd G) (M : Mem) (x1 : Int32) {Q : Mem → Prop} (h : pX6_lengthenPhrase M x1 Q) : Ctv l G yX6_lengthenPhrase cX6_lengthenPhrase 3 rmX6_lengthenPhrase [.ref (ga G 6 1), .int x1] M Q := by
  refine ctv_of (own := RX6) (by decide +kernel) rfl (Nat.le_of_ble_eq_true rfl) hG (fun Γ Qf hl C E => ?_)
  subst hl
  show X Γ G Qf 3 0 0 0 [(0, .ref (ga G 6 1)), (1, .int x1)] [] M
  unfold pX6_lengthenPhrase at h
  refine x_aload_n C dX6_lengthenPhrase_0 0 rfl ?_
  refine gf_6_8 C q108 z6_1 dX6_lengthenPhrase_1 ?_
  refine x_iconst (v := 1) C dX6_lengthenPhrase_4 rfl ?_
  refine x_isub C dX6_lengthenPhrase_5 ?_
  refine X_name (fun v1 ev1 => ?_)
  replace h := h v1 ev1
  refine x_istore_n (lv' := [(2, .int v1), (0, .ref (ga G 6 1)), (1, .int x1)]) C dX6_lengthenPhrase_6 rfl (Nat.le_of_ble_eq_true rfl) rfl ?_
  refine x_aload_n C dX6_lengthenPhrase_7 1 rfl ?_
  refine gf_6_10 C q114 z6_1 dX6_lengthenPhrase_8 ?_
  refine x_iload_n C dX6_lengthenPhrase_11 0 rfl ?_
  obtain ⟨f2, h⟩ := h
  refine al_710 C z710_1 f2 dX6_lengthenPhrase_12 ?_
  refine x_aload_n C dX6_lengthenPhrase_13 1 rfl ?_
  refine gf_6_9 C q113 z6_1 dX6_lengthenPhrase_14 ?_
  refine x_iload_n C dX6_lengthenPhrase_17 0 rfl ?_
  refine al_709 C z709_1 f2 dX6_lengthenPhrase_18 ?_
  refine x_iload_n C dX6_lengthenPhrase_19 2 rfl ?_
  obtain ⟨f3, h⟩ := h
  refine as_5711 C (vp_lt f2) f3 dX6_lengthenPhrase_20 ?_
  refine X_nameM (fun M4 eM4 => ?_)
  replace h := h M4 eM4
  refine x_aload_n C dX6_lengthenPhrase_21 1 rfl ?_
  refine gf_6_9 C q113 z6_1 dX6_lengthenPhrase_22 ?_
  refine x_iload_n C dX6_lengthenPhrase_25 0 rfl ?_
  refine x_dup2 C dX6_lengthenPhrase_26 rfl rfl ?_
  refine al_709 C z709_1 f2 dX6_lengthenPhrase_27 ?_
  refine x_iconst (v := 1) C dX6_lengthenPhrase_28 rfl ?_
  refine x_iadd C dX6_lengthenPhrase_29 ?_
  refine as_709 C z709_1 f2 dX6_lengthenPhrase_30 ?_
  refine X_nameM (fun M5 eM5 => ?_)
  replace h := h M5 eM5
  refine x_aload_n C dX6_lengthenPhrase_31 1 rfl ?_
  refine x_iload_n C dX6_lengthenPhrase_32 2 rfl ?_
  refine x_iconst (v := 1) C dX6_lengthenPhrase_33 rfl ?_
  refine x_iconst (v := 1) C dX6_lengthenPhrase_34 rfl ?_
  refine x_callv (rest := []) C sv_X6_57 ob6 z6_1 (kX6_want hG _ _ _ _ h) rfl rfl (Nat.le_of_ble_eq_true rfl) ⟨Nat.le_of_ble_eq_true rfl, Nat.le_of_ble_eq_true rfl⟩ rfl rfl ⟨Nat.le_of_ble_eq_true rfl, Nat.le_of_ble_eq_true rfl⟩ dX6_lengthenPhrase_35 (fun M7 h => ?_)
  exact x_vret C E h (Nat.le_of_ble_eq_true rfl) (Nat.le_of_ble_eq_true rfl) dX6_lengthenPhrase_38
def rmX7_spellOn : Room := { frames := 1, cells := 0, slots := 0, locals := 22 }
def pX7_spellOn (M : Mem) (x1 : Int32) (Q : Int32 → Mem → Prop) : Prop :=
  (((M.1 805 0 0) < 8 → ∀ M2 : Mem, M2 = up1 M 805 0 0 ((M.1 805 0 0) + 1) → pX10_spelledOn M2 (M2.2 806 0 0) x1 (fun r3 M4 => ∀ M5 : Mem, M5 = up2 M4 806 0 0 r3 → Q 0 M5)) ∧ (¬ (M.1 805 0 0) < 8 → Q 1 M))
set_option maxRecDepth 100000 in
set_option maxHeartbeats 400000 in
theorem kX7_spellOn {l : Launch} {G : Gm} (hG : Gd G) (M : Mem) (x1 : Int32) {Q : Int32 → Mem → Prop} (h : pX7_spellOn M x1 Q) : Cti l G yX7_spellOn cX7_spellOn 2 .int rmX7_spellOn [.ref (ga G 7 0), .int x1] M Q := by
  refine cti_of (own := RX7) (by decide +kernel) rfl (Nat.le_of_ble_eq_true rfl) hG (fun Γ Qf hl C E => ?_)
  subst hl
  show X Γ G Qf 2 0 0 0 [(0, .ref (ga G 7 0)), (1, .int x1)] [] M
  unfold pX7_spellOn at h
  refine x_aload_n C dX7_spellOn_0 0 rfl ?_
  refine gf_7_5 C q115 z7 dX7_spellOn_1 ?_
  refine x_bipush (v := 8) C dX7_spellOn_4 rfl ?_
  refine x_icmp_lt (tgt := 11) C dX7_spellOn_6 (by decide) (fun c1 => ?_) (fun c1 => ?_)
  · replace h := h.1 c1
    refine x_aload_n C dX7_spellOn_11 0 rfl ?_
    refine x_dup C dX7_spellOn_12 rfl ?_
    refine gf_7_5 C q115 z7 dX7_spellOn_13 ?_
    refine x_iconst (v := 1) C dX7_spellOn_16 rfl ?_
    refine x_iadd C dX7_spellOn_17 ?_
    refine pf_7_5 C q115 z7 dX7_spellOn_18 ?_
    refine X_nameM (fun M2 eM2 => ?_)
    replace h := h M2 eM2
    refine x_aload_n C dX7_spellOn_21 0 rfl ?_
    refine x_aload_n C dX7_spellOn_22 0 rfl ?_
    refine gf_7_6 C q116 z7 dX7_spellOn_23 ?_
    refine x_iload_n C dX7_spellOn_26 1 rfl ?_
    refine x_ncalll (rest := [.ref (ga G 7 0)]) C sn_X7_97 (kX10_spelledOn hG _ _ _ h) rfl rfl (Nat.le_of_ble_eq_true rfl) ⟨Nat.le_of_ble_eq_true rfl, Nat.le_of_ble_eq_true rfl⟩ rfl rfl ⟨Nat.le_of_ble_eq_true rfl, Nat.le_of_ble_eq_true rfl⟩ dX7_spellOn_27 (fun r3 M4 h => ?_)
    refine pf_7_6 C q116 z7 dX7_spellOn_30 ?_
    refine X_nameM (fun M5 eM5 => ?_)
    replace h := h M5 eM5
    refine x_iconst (v := 0) C dX7_spellOn_33 rfl ?_
    exact x_iret C E h (Nat.le_of_ble_eq_true rfl) (Nat.le_of_ble_eq_true rfl) dX7_spellOn_34
  · replace h := h.2 c1
    refine x_iconst (v := 1) C dX7_spellOn_9 rfl ?_
    exact x_iret C E h (Nat.le_of_ble_eq_true rfl) (Nat.le_of_ble_eq_true rfl) dX7_spellOn_10
def rmX7_beginWord : Room := { frames := 2, cells := 0, slots := 0, locals := 43 }
def pX7_beginWord (M : Mem) (x1 : Int32) (x2 : Int32) (Q : Int32 → Mem → Prop) : Prop :=
  pX10_isLetter M x1 (fun r1 M2 => ((¬ r1 = 0 → ∀ M4 : Mem, M4 = up1 M2 805 0 0 0 → ∀ M5 : Mem, M5 = up2 M4 806 0 0 0 → ∀ M6 : Mem, M6 = up1 M5 803 0 0 x2 → pX7_spellOn M6 x1 (fun r7 M8 => Q r7 M8)) ∧ (r1 = 0 → Q 1 M2)))
set_option maxRecDepth 100000 in
set_option maxHeartbeats 400000 in
theorem kX7_beginWord {l : Launch} {G : Gm} (hG : Gd G) (M : Mem) (x1 : Int32) (x2 : Int32) {Q : Int32 → Mem → Prop} (h : pX7_beginWord M x1 x2 Q) : Cti l G yX7_beginWord cX7_beginWord 3 .int rmX7_beginWord [.ref (ga G 7 0), .int x1, .int x2] M Q := by
  refine cti_of (own := RX7) (by decide +kernel) rfl (Nat.le_of_ble_eq_true rfl) hG (fun Γ Qf hl C E => ?_)
  subst hl
  show X Γ G Qf 3 0 0 0 [(0, .ref (ga G 7 0)), (1, .int x1), (2, .int x2)] [] M
  unfold pX7_beginWord at h
  refine x_iload_n C dX7_beginWord_0 1 rfl ?_
  refine x_ncalli (rest := []) C sn_X7_50 (kX10_isLetter hG _ _ h) rfl rfl (Nat.le_of_ble_eq_true rfl) ⟨Nat.le_of_ble_eq_true rfl, Nat.le_of_ble_eq_true rfl⟩ rfl rfl ⟨Nat.le_of_ble_eq_true rfl, Nat.le_of_ble_eq_true rfl⟩ dX7_beginWord_1 (fun r1 M2 h => ?_)
  refine x_if_ne (tgt := 9) C dX7_beginWord_4 (by decide) (fun c3 => ?_) (fun c3 => ?_)
  · replace h := h.1 c3
    refine x_aload_n C dX7_beginWord_9 0 rfl ?_
    refine x_iconst (v := 0) C dX7_beginWord_10 rfl ?_
    refine pf_7_5 C q115 z7 dX7_beginWord_11 ?_
    refine X_nameM (fun M4 eM4 => ?_)
    replace h := h M4 eM4
    refine x_aload_n C dX7_beginWord_14 0 rfl ?_
    refine x_lconst (v := 0) C dX7_beginWord_15 rfl ?_
    refine pf_7_6 C q116 z7 dX7_beginWord_16 ?_
    refine X_nameM (fun M5 eM5 => ?_)
    replace h := h M5 eM5
    refine x_aload_n C dX7_beginWord_19 0 rfl ?_
    refine x_iload_n C dX7_beginWord_20 2 rfl ?_
    refine pf_7_3 C q117 z7 dX7_beginWord_21 ?_
    refine X_nameM (fun M6 eM6 => ?_)
    replace h := h M6 eM6
    refine x_aload_n C dX7_beginWord_24 0 rfl ?_
    refine x_iload_n C dX7_beginWord_25 1 rfl ?_
    refine x_calli (rest := []) C sv_X7_54 ob7 z7 (kX7_spellOn hG _ _ h) rfl rfl (Nat.le_of_ble_eq_true rfl) ⟨Nat.le_of_ble_eq_true rfl, Nat.le_of_ble_eq_true rfl⟩ rfl rfl ⟨Nat.le_of_ble_eq_true rfl, Nat.le_of_ble_eq_true rfl⟩ dX7_beginWord_26 (fun r7 M8 h => ?_)
    exact x_iret C E h (Nat.le_of_ble_eq_true rfl) (Nat.le_of_ble_eq_true rfl) dX7_beginWord_29
  · replace h := h.2 c3
    refine x_iconst (v := 1) C dX7_beginWord_7 rfl ?_
    exact x_iret C E h (Nat.le_of_ble_eq_true rfl) (Nat.le_of_ble_eq_true rfl) dX7_beginWord_8
def rmX7_endWord : Room := { frames := 2, cells := 0, slots := 0, locals := 46 }
def bX7_endWord_77 (x1 : Int32) (Q : Int32 → Mem → Prop) (M : Mem) : Prop :=
  ∀ M14 : Mem, M14 = up1 M 803 0 0 0 → Q 1 M14
def bX7_endWord_22 (x1 : Int32) (Q : Int32 → Mem → Prop) (M : Mem) : Prop :=
  pX9_numberOf M (M.2 806 0 0) (fun r4 M5 => ((¬ (M5.1 804 0 0) = 45 → ((¬ (M5.1 804 0 0) = 43 → pX6_want M5 r4 1 0 (fun M9 => bX7_endWord_77 x1 Q M9)) ∧ ((M5.1 804 0 0) = 43 → pX6_want M5 r4 1 1 (fun M11 => bX7_endWord_77 x1 Q M11)))) ∧ ((M5.1 804 0 0) = 45 → pX6_refuse M5 r4 (fun M13 => bX7_endWord_77 x1 Q M13))))
def pX7_endWord (M : Mem) (x1 : Int32) (Q : Int32 → Mem → Prop) : Prop :=
  (((M.1 804 0 0) = 45 → bX7_endWord_22 x1 Q M) ∧ (¬ (M.1 804 0 0) = 45 → ((¬ x1 = 94 → bX7_endWord_22 x1 Q M) ∧ (x1 = 94 → ∀ M3 : Mem, M3 = up1 M 803 0 0 3 → Q 0 M3))))
set_option maxRecDepth 100000 in
set_option maxHeartbeats 400000 in
theorem wX7_endWord_77 {Γ : Gam} {G : Gm} {Qf : State → Prop} (hG : Gd G) (C : Cx Γ G cX7_endWord 3 RX7 (some .boolean) rmX7_endWord) {x1 : Int32} {Q : Int32 → Mem → Prop} (E : EndI Γ G Qf rmX7_endWord Q) (M : Mem) (h : bX7_endWord_77 x1 Q M) : X Γ G Qf 3 0 0 77 [(0, .ref (ga G 7 0))] [] M := by
  unfold bX7_endWord_77 at h
  refine x_aload_n C dX7_endWord_77 0 rfl ?_
  refine x_iconst (v := 0) C dX7_endWord_78 rfl ?_
  refine pf_7_3 C q117 z7 dX7_endWord_79 ?_
  refine X_nameM (fun M14 eM14 => ?_)
  replace h := h M14 eM14
  refine x_iconst (v := 1) C dX7_endWord_82 rfl ?_
  exact x_zret C E h rfl (Nat.le_of_ble_eq_true rfl) (Nat.le_of_ble_eq_true rfl) dX7_endWord_83
set_option maxRecDepth 100000 in
set_option maxHeartbeats 400000 in
theorem wX7_endWord_22 {Γ : Gam} {G : Gm} {Qf : State → Prop} (hG : Gd G) (C : Cx Γ G cX7_endWord 3 RX7 (some .boolean) rmX7_endWord) {x1 : Int32} {Q : Int32 → Mem → Prop} (E : EndI Γ G Qf rmX7_endWord Q) (M : Mem) (h : bX7_endWord_22 x1 Q M) : X Γ G Qf 3 0 0 22 [(0, .ref (ga G 7 0))] [] M := by
  unfold bX7_endWord_22 at h
  refine x_aload_n C dX7_endWord_22 0 rfl ?_
  refine gf_7_0 C q119 z7 dX7_endWord_23 ?_
  refine x_aload_n C dX7_endWord_26 0 rfl ?_
  refine gf_7_6 C q116 z7 dX7_endWord_27 ?_
  refine x_calli (rest := []) C sv_X7_72 ob9 z9 (kX9_numberOf hG _ _ h) rfl rfl (Nat.le_of_ble_eq_true rfl) ⟨Nat.le_of_ble_eq_true rfl, Nat.le_of_ble_eq_true rfl⟩ rfl rfl ⟨Nat.le_of_ble_eq_true rfl, Nat.le_of_ble_eq_true rfl⟩ dX7_endWord_30 (fun r4 M5 h => ?_)
  refine x_istore_n (lv' := [(2, .int r4), (0, .ref (ga G 7 0))]) C dX7_endWord_33 rfl (Nat.le_of_ble_eq_true rfl) rfl ?_
  refine x_aload_n C dX7_endWord_34 1 rfl ?_
  refine gf_7_4 C q118 z7 dX7_endWord_35 ?_
  refine x_bipush (v := 45) C dX7_endWord_38 rfl ?_
  refine x_icmp_ne (tgt := 54) C dX7_endWord_40 (by decide) (fun c6 => ?_) (fun c6 => ?_)
  · replace h := h.1 c6
    refine x_aload_n C dX7_endWord_54 1 rfl ?_
    refine gf_7_1 C q120 z7 dX7_endWord_55 ?_
    refine x_iload_n C dX7_endWord_58 0 rfl ?_
    refine x_iconst (v := 1) C dX7_endWord_59 rfl ?_
    refine x_aload_n C dX7_endWord_60 1 rfl ?_
    refine gf_7_4 C q118 z7 dX7_endWord_61 ?_
    refine x_bipush (v := 43) C dX7_endWord_64 rfl ?_
    refine x_icmp_ne (tgt := 73) C dX7_endWord_66 (by decide) (fun c7 => ?_) (fun c7 => ?_)
    · replace h := h.1 c7
      refine x_iconst (v := 0) C dX7_endWord_73 rfl ?_
      refine x_callv (rest := []) C sv_X7_104 ob6 z6_1 (kX6_want hG _ _ _ _ h) rfl rfl (Nat.le_of_ble_eq_true rfl) ⟨Nat.le_of_ble_eq_true rfl, Nat.le_of_ble_eq_true rfl⟩ rfl rfl ⟨Nat.le_of_ble_eq_true rfl, Nat.le_of_ble_eq_true rfl⟩ dX7_endWord_74 (fun M9 h => ?_)
      refine X_sub (lv' := [(0, .ref (ga G 7 0))]) [1] rfl ?_
      exact wX7_endWord_77 hG C E M9 h
    · replace h := h.2 c7
      refine x_iconst (v := 1) C dX7_endWord_69 rfl ?_
      refine x_goto (tgt := 74) C dX7_endWord_70 (by decide) ?_
      refine x_callv (rest := []) C sv_X7_104 ob6 z6_1 (kX6_want hG _ _ _ _ h) rfl rfl (Nat.le_of_ble_eq_true rfl) ⟨Nat.le_of_ble_eq_true rfl, Nat.le_of_ble_eq_true rfl⟩ rfl rfl ⟨Nat.le_of_ble_eq_true rfl, Nat.le_of_ble_eq_true rfl⟩ dX7_endWord_74 (fun M11 h => ?_)
      refine X_sub (lv' := [(0, .ref (ga G 7 0))]) [1] rfl ?_
      exact wX7_endWord_77 hG C E M11 h
  · replace h := h.2 c6
    refine x_aload_n C dX7_endWord_43 1 rfl ?_
    refine gf_7_1 C q120 z7 dX7_endWord_44 ?_
    refine x_iload_n C dX7_endWord_47 0 rfl ?_
    refine x_callv (rest := []) C sv_X7_101 ob6 z6_1 (kX6_refuse hG _ _ h) rfl rfl (Nat.le_of_ble_eq_true rfl) ⟨Nat.le_of_ble_eq_true rfl, Nat.le_of_ble_eq_true rfl⟩ rfl rfl ⟨Nat.le_of_ble_eq_true rfl, Nat.le_of_ble_eq_true rfl⟩ dX7_endWord_48 (fun M13 h => ?_)
    refine x_goto (tgt := 77) C dX7_endWord_51 (by decide) ?_
    refine X_sub (lv' := [(0, .ref (ga G 7 0))]) [1] rfl ?_
    exact wX7_endWord_77 hG C E M13 h
set_option maxRecDepth 100000 in
set_option maxHeartbeats 400000 in
theorem kX7_endWord {l : Launch} {G : Gm} (hG : Gd G) (M : Mem) (x1 : Int32) {Q : Int32 → Mem → Prop} (h : pX7_endWord M x1 Q) : Cti l G yX7_endWord cX7_endWord 3 .boolean rmX7_endWord [.ref (ga G 7 0), .int x1] M Q := by
  refine cti_of (own := RX7) (by decide +kernel) rfl (Nat.le_of_ble_eq_true rfl) hG (fun Γ Qf hl C E => ?_)
  subst hl
  show X Γ G Qf 3 0 0 0 [(0, .ref (ga G 7 0)), (1, .int x1)] [] M
  unfold pX7_endWord at h
  refine x_aload_n C dX7_endWord_0 0 rfl ?_
  refine gf_7_4 C q118 z7 dX7_endWord_1 ?_
  refine x_bipush (v := 45) C dX7_endWord_4 rfl ?_
  refine x_icmp_eq (tgt := 22) C dX7_endWord_6 (by decide) (fun c1 => ?_) (fun c1 => ?_)
  · replace h := h.1 c1
    refine X_sub (lv' := [(0, .ref (ga G 7 0))]) [0] rfl ?_
    exact wX7_endWord_22 hG C E M h
  · replace h := h.2 c1
    refine x_iload_n C dX7_endWord_9 1 rfl ?_
    refine x_bipush (v := 94) C dX7_endWord_10 rfl ?_
    refine x_icmp_ne (tgt := 22) C dX7_endWord_12 (by decide) (fun c2 => ?_) (fun c2 => ?_)
    · replace h := h.1 c2
      refine X_sub (lv' := [(0, .ref (ga G 7 0))]) [0] rfl ?_
      exact wX7_endWord_22 hG C E M h
    · replace h := h.2 c2
      refine x_aload_n C dX7_endWord_15 0 rfl ?_
      refine x_iconst (v := 3) C dX7_endWord_16 rfl ?_
      refine pf_7_3 C q117 z7 dX7_endWord_17 ?_
      refine X_nameM (fun M3 eM3 => ?_)
      replace h := h M3 eM3
      refine x_iconst (v := 0) C dX7_endWord_20 rfl ?_
      exact x_zret C E h rfl (Nat.le_of_ble_eq_true rfl) (Nat.le_of_ble_eq_true rfl) dX7_endWord_21
def rmX7_canBegin : Room := { frames := 1, cells := 0, slots := 0, locals := 20 }
def bX7_canBegin_31 (x1 : Int32) (Q : Int32 → Mem → Prop) (M : Mem) : Prop :=
  Q 1 M
def pX7_canBegin (M : Mem) (x1 : Int32) (Q : Int32 → Mem → Prop) : Prop :=
  pX10_isLetter M x1 (fun r1 M2 => ((¬ r1 = 0 → bX7_canBegin_31 x1 Q M2) ∧ (r1 = 0 → ((x1 = 43 → bX7_canBegin_31 x1 Q M2) ∧ (¬ x1 = 43 → ((x1 = 45 → bX7_canBegin_31 x1 Q M2) ∧ (¬ x1 = 45 → ((x1 = 34 → bX7_canBegin_31 x1 Q M2) ∧ (¬ x1 = 34 → ((¬ x1 = 126 → Q 0 M2) ∧ (x1 = 126 → bX7_canBegin_31 x1 Q M2)))))))))))
set_option maxRecDepth 100000 in
set_option maxHeartbeats 400000 in
theorem wX7_canBegin_31 {Γ : Gam} {G : Gm} {Qf : State → Prop} (hG : Gd G) (C : Cx Γ G cX7_canBegin 1 RX7 (some .boolean) rmX7_canBegin) {x1 : Int32} {Q : Int32 → Mem → Prop} (E : EndI Γ G Qf rmX7_canBegin Q) (M : Mem) (h : bX7_canBegin_31 x1 Q M) : X Γ G Qf 1 0 0 31 [] [] M := by
  unfold bX7_canBegin_31 at h
  refine x_iconst (v := 1) C dX7_canBegin_31 rfl ?_
  refine x_goto (tgt := 36) C dX7_canBegin_32 (by decide) ?_
  exact x_zret C E h rfl (Nat.le_of_ble_eq_true rfl) (Nat.le_of_ble_eq_true rfl) dX7_canBegin_36
set_option maxRecDepth 100000 in
set_option maxHeartbeats 400000 in
theorem kX7_canBegin {l : Launch} {G : Gm} (hG : Gd G) (M : Mem) (x1 : Int32) {Q : Int32 → Mem → Prop} (h : pX7_canBegin M x1 Q) : Cti l G yX7_canBegin cX7_canBegin 1 .boolean rmX7_canBegin [.int x1] M Q := by
  refine cti_of (own := RX7) (by decide +kernel) rfl (Nat.le_of_ble_eq_true rfl) hG (fun Γ Qf hl C E => ?_)
  subst hl
  show X Γ G Qf 1 0 0 0 [(0, .int x1)] [] M
  unfold pX7_canBegin at h
  refine x_iload_n C dX7_canBegin_0 0 rfl ?_
  refine x_ncalli (rest := []) C sn_X7_50 (kX10_isLetter hG _ _ h) rfl rfl (Nat.le_of_ble_eq_true rfl) ⟨Nat.le_of_ble_eq_true rfl, Nat.le_of_ble_eq_true rfl⟩ rfl rfl ⟨Nat.le_of_ble_eq_true rfl, Nat.le_of_ble_eq_true rfl⟩ dX7_canBegin_1 (fun r1 M2 h => ?_)
  refine x_if_ne (tgt := 31) C dX7_canBegin_4 (by decide) (fun c3 => ?_) (fun c3 => ?_)
  · replace h := h.1 c3
    refine X_sub (lv' := []) [] rfl ?_
    exact wX7_canBegin_31 hG C E M2 h
  · replace h := h.2 c3
    refine x_iload_n C dX7_canBegin_7 0 rfl ?_
    refine x_bipush (v := 43) C dX7_canBegin_8 rfl ?_
    refine x_icmp_eq (tgt := 31) C dX7_canBegin_10 (by decide) (fun c4 => ?_) (fun c4 => ?_)
    · replace h := h.1 c4
      refine X_sub (lv' := []) [] rfl ?_
      exact wX7_canBegin_31 hG C E M2 h
    · replace h := h.2 c4
      refine x_iload_n C dX7_canBegin_13 0 rfl ?_
      refine x_bipush (v := 45) C dX7_canBegin_14 rfl ?_
      refine x_icmp_eq (tgt := 31) C dX7_canBegin_16 (by decide) (fun c5 => ?_) (fun c5 => ?_)
      · replace h := h.1 c5
        refine X_sub (lv' := []) [] rfl ?_
        exact wX7_canBegin_31 hG C E M2 h
      · replace h := h.2 c5
        refine x_iload_n C dX7_canBegin_19 0 rfl ?_
        refine x_bipush (v := 34) C dX7_canBegin_20 rfl ?_
        refine x_icmp_eq (tgt := 31) C dX7_canBegin_22 (by decide) (fun c6 => ?_) (fun c6 => ?_)
        · replace h := h.1 c6
          refine X_sub (lv' := []) [] rfl ?_
          exact wX7_canBegin_31 hG C E M2 h
        · replace h := h.2 c6
          refine x_iload_n C dX7_canBegin_25 0 rfl ?_
          refine x_bipush (v := 126) C dX7_canBegin_26 rfl ?_
          refine x_icmp_ne (tgt := 35) C dX7_canBegin_28 (by decide) (fun c7 => ?_) (fun c7 => ?_)
          · replace h := h.1 c7
            refine x_iconst (v := 0) C dX7_canBegin_35 rfl ?_
            exact x_zret C E h rfl (Nat.le_of_ble_eq_true rfl) (Nat.le_of_ble_eq_true rfl) dX7_canBegin_36
          · replace h := h.2 c7
            refine X_sub (lv' := []) [] rfl ?_
            exact wX7_canBegin_31 hG C E M2 h
def rmX7_beginPart : Room := { frames := 3, cells := 0, slots := 0, locals := 65 }
def bX7_beginPart_48 (x1 : Int32) (Q : Int32 → Mem → Prop) (M : Mem) : Prop :=
  ∀ M12 : Mem, M12 = up1 M 804 0 0 x1 → ∀ M13 : Mem, M13 = up1 M12 803 0 0 1 → Q 0 M13
def pX7_beginPart (M : Mem) (x1 : Int32) (Q : Int32 → Mem → Prop) : Prop :=
  ∀ M1 : Mem, M1 = up1 M 804 0 0 0 → ((x1 = 34 → pX6_beginPhrase M1 (fun M4 => ∀ M5 : Mem, M5 = up1 M4 803 0 0 5 → Q 0 M5)) ∧ (x1 = 43 → bX7_beginPart_48 x1 Q M1) ∧ (x1 = 45 → bX7_beginPart_48 x1 Q M1) ∧ (x1 = 126 → ∀ M9 : Mem, M9 = up1 M1 803 0 0 4 → Q 0 M9) ∧ (¬ x1 = 34 → ¬ x1 = 43 → ¬ x1 = 45 → ¬ x1 = 126 → pX7_beginWord M1 x1 2 (fun r10 M11 => Q r10 M11)))
set_option maxRecDepth 100000 in
set_option maxHeartbeats 400000 in
theorem wX7_beginPart_48 {Γ : Gam} {G : Gm} {Qf : State → Prop} (hG : Gd G) (C : Cx Γ G cX7_beginPart 2 RX7 (some .int) rmX7_beginPart) {x1 : Int32} {Q : Int32 → Mem → Prop} (E : EndI Γ G Qf rmX7_beginPart Q) (M : Mem) (h : bX7_beginPart_48 x1 Q M) : X Γ G Qf 2 0 0 48 [(0, .ref (ga G 7 0)), (1, .int x1)] [] M := by
  unfold bX7_beginPart_48 at h
  refine x_aload_n C dX7_beginPart_48 0 rfl ?_
  refine x_iload_n C dX7_beginPart_49 1 rfl ?_
  refine pf_7_4 C q118 z7 dX7_beginPart_50 ?_
  refine X_nameM (fun M12 eM12 => ?_)
  replace h := h M12 eM12
  refine x_aload_n C dX7_beginPart_53 0 rfl ?_
  refine x_iconst (v := 1) C dX7_beginPart_54 rfl ?_
  refine pf_7_3 C q117 z7 dX7_beginPart_55 ?_
  refine X_nameM (fun M13 eM13 => ?_)
  replace h := h M13 eM13
  refine x_iconst (v := 0) C dX7_beginPart_58 rfl ?_
  exact x_iret C E h (Nat.le_of_ble_eq_true rfl) (Nat.le_of_ble_eq_true rfl) dX7_beginPart_59
set_option maxRecDepth 100000 in
set_option maxHeartbeats 400000 in
theorem kX7_beginPart {l : Launch} {G : Gm} (hG : Gd G) (M : Mem) (x1 : Int32) {Q : Int32 → Mem → Prop} (h : pX7_beginPart M x1 Q) : Cti l G yX7_beginPart cX7_beginPart 2 .int rmX7_beginPart [.ref (ga G 7 0), .int x1] M Q := by
  refine cti_of (own := RX7) (by decide +kernel) rfl (Nat.le_of_ble_eq_true rfl) hG (fun Γ Qf hl C E => ?_)
  subst hl
  show X Γ G Qf 2 0 0 0 [(0, .ref (ga G 7 0)), (1, .int x1)] [] M
  unfold pX7_beginPart at h
  refine x_aload_n C dX7_beginPart_0 0 rfl ?_
  refine x_iconst (v := 0) C dX7_beginPart_1 rfl ?_
  refine pf_7_4 C q118 z7 dX7_beginPart_2 ?_
  refine X_nameM (fun M1 eM1 => ?_)
  replace h := h M1 eM1
  refine x_iload_n C dX7_beginPart_5 1 rfl ?_
  by_cases c2 : x1 = 34
  · replace h := h.1 c2
    refine x_lookup (off := 54) (tgt := 60) C dX7_beginPart_6 (by decide) (by rw [c2]; first | done | rfl) (by decide) ?_
    refine x_aload_n C dX7_beginPart_60 0 rfl ?_
    refine gf_7_1 C q120 z7 dX7_beginPart_61 ?_
    refine x_callv (rest := []) C sv_X7_94 ob6 z6_1 (kX6_beginPhrase hG _ h) rfl rfl (Nat.le_of_ble_eq_true rfl) ⟨Nat.le_of_ble_eq_true rfl, Nat.le_of_ble_eq_true rfl⟩ rfl rfl ⟨Nat.le_of_ble_eq_true rfl, Nat.le_of_ble_eq_true rfl⟩ dX7_beginPart_64 (fun M4 h => ?_)
    refine x_aload_n C dX7_beginPart_67 0 rfl ?_
    refine x_iconst (v := 5) C dX7_beginPart_68 rfl ?_
    refine pf_7_3 C q117 z7 dX7_beginPart_69 ?_
    refine X_nameM (fun M5 eM5 => ?_)
    replace h := h M5 eM5
    refine x_iconst (v := 0) C dX7_beginPart_72 rfl ?_
    exact x_iret C E h (Nat.le_of_ble_eq_true rfl) (Nat.le_of_ble_eq_true rfl) dX7_beginPart_73
  by_cases c6 : x1 = 43
  · replace h := h.2.1 c6
    refine x_lookup (off := 42) (tgt := 48) C dX7_beginPart_6 (by decide) (by rw [c6]; first | done | rfl) (by decide) ?_
    refine X_sub (lv' := [(0, .ref (ga G 7 0)), (1, .int x1)]) [0, 1] rfl ?_
    exact wX7_beginPart_48 hG C E M1 h
  by_cases c7 : x1 = 45
  · replace h := h.2.2.1 c7
    refine x_lookup (off := 42) (tgt := 48) C dX7_beginPart_6 (by decide) (by rw [c7]; first | done | rfl) (by decide) ?_
    refine X_sub (lv' := [(0, .ref (ga G 7 0)), (1, .int x1)]) [0, 1] rfl ?_
    exact wX7_beginPart_48 hG C E M1 h
  by_cases c8 : x1 = 126
  · replace h := h.2.2.2.1 c8
    refine x_lookup (off := 68) (tgt := 74) C dX7_beginPart_6 (by decide) (by rw [c8]; first | done | rfl) (by decide) ?_
    refine x_aload_n C dX7_beginPart_74 0 rfl ?_
    refine x_iconst (v := 4) C dX7_beginPart_75 rfl ?_
    refine pf_7_3 C q117 z7 dX7_beginPart_76 ?_
    refine X_nameM (fun M9 eM9 => ?_)
    replace h := h M9 eM9
    refine x_iconst (v := 0) C dX7_beginPart_79 rfl ?_
    exact x_iret C E h (Nat.le_of_ble_eq_true rfl) (Nat.le_of_ble_eq_true rfl) dX7_beginPart_80
  replace h := h.2.2.2.2 c2 c6 c7 c8
  refine x_lookup (off := 75) (tgt := 81) C dX7_beginPart_6 (by decide) (by show Op.lookupswitch.offset [(34, 54), (43, 42), (45, 42), (126, 68)] _ _ = _; rw [lv_osw (a := 34) c2 rfl, lv_osw (a := 43) c6 rfl, lv_osw (a := 45) c7 rfl, lv_osw (a := 126) c8 rfl]; first | done | rfl) (by decide) ?_
  refine x_aload_n C dX7_beginPart_81 0 rfl ?_
  refine x_iload_n C dX7_beginPart_82 1 rfl ?_
  refine x_iconst (v := 2) C dX7_beginPart_83 rfl ?_
  refine x_calli (rest := []) C sv_X7_46 ob7 z7 (kX7_beginWord hG _ _ _ h) rfl rfl (Nat.le_of_ble_eq_true rfl) ⟨Nat.le_of_ble_eq_true rfl, Nat.le_of_ble_eq_true rfl⟩ rfl rfl ⟨Nat.le_of_ble_eq_true rfl, Nat.le_of_ble_eq_true rfl⟩ dX7_beginPart_84 (fun r10 M11 h => ?_)
  exact x_iret C E h (Nat.le_of_ble_eq_true rfl) (Nat.le_of_ble_eq_true rfl) dX7_beginPart_87
def rmX7_stepBetween : Room := { frames := 4, cells := 0, slots := 0, locals := 86 }
def bX7_stepBetween_51 (x1 : Int32) (Q : Int32 → Mem → Prop) (M : Mem) (y2 : Int32) : Prop :=
  pX7_canBegin M x1 (fun r6 M7 => ((r6 = 0 → Q 1 M7) ∧ (¬ r6 = 0 → ((y2 = 0 → (((M7.1 700 1 0) < 6 → ∀ M11 : Mem, M11 = up1 M7 700 1 0 ((M7.1 700 1 0) + 1) → pX7_beginPart M11 x1 (fun r12 M13 => Q r12 M13)) ∧ (¬ (M7.1 700 1 0) < 6 → Q 2 M7))) ∧ (¬ y2 = 0 → Q 1 M7)))))
def bX7_stepBetween_49 (x1 : Int32) (Q : Int32 → Mem → Prop) (M : Mem) : Prop :=
  bX7_stepBetween_51 x1 Q M 0
def pX7_stepBetween (M : Mem) (x1 : Int32) (Q : Int32 → Mem → Prop) : Prop :=
  ((¬ x1 = (-1) → ((¬ x1 = 32 → ((¬ x1 = 126 → bX7_stepBetween_49 x1 Q M) ∧ (x1 = 126 → (((M.1 711 1 0) ≤ 0 → bX7_stepBetween_49 x1 Q M) ∧ (¬ (M.1 711 1 0) ≤ 0 → bX7_stepBetween_51 x1 Q M 1))))) ∧ (x1 = 32 → Q 0 M))) ∧ (x1 = (-1) → ((¬ (M.1 700 1 0) = 0 → Q 0 M) ∧ ((M.1 700 1 0) = 0 → Q 1 M))))
set_option maxRecDepth 100000 in
set_option maxHeartbeats 400000 in
theorem wX7_stepBetween_51 {Γ : Gam} {G : Gm} {Qf : State → Prop} (hG : Gd G) (C : Cx Γ G cX7_stepBetween 3 RX7 (some .int) rmX7_stepBetween) {x1 : Int32} {Q : Int32 → Mem → Prop} (E : EndI Γ G Qf rmX7_stepBetween Q) (M : Mem) (y2 : Int32) (h : bX7_stepBetween_51 x1 Q M y2) : X Γ G Qf 3 0 0 51 [(0, .ref (ga G 7 0)), (1, .int x1), (2, .int y2)] [] M := by
  unfold bX7_stepBetween_51 at h
  refine x_iload_n C dX7_stepBetween_51 1 rfl ?_
  refine x_scalli (rest := []) C ss_X7_88 (kX7_canBegin hG _ _ h) rfl rfl (Nat.le_of_ble_eq_true rfl) ⟨Nat.le_of_ble_eq_true rfl, Nat.le_of_ble_eq_true rfl⟩ rfl rfl ⟨Nat.le_of_ble_eq_true rfl, Nat.le_of_ble_eq_true rfl⟩ dX7_stepBetween_52 (fun r6 M7 h => ?_)
  refine x_if_eq (tgt := 62) C dX7_stepBetween_55 (by decide) (fun c8 => ?_) (fun c8 => ?_)
  · replace h := h.1 c8
    refine x_iconst (v := 1) C dX7_stepBetween_62 rfl ?_
    exact x_iret C E h (Nat.le_of_ble_eq_true rfl) (Nat.le_of_ble_eq_true rfl) dX7_stepBetween_63
  · replace h := h.2 c8
    refine x_iload_n C dX7_stepBetween_58 2 rfl ?_
    refine x_if_eq (tgt := 64) C dX7_stepBetween_59 (by decide) (fun c9 => ?_) (fun c9 => ?_)
    · replace h := h.1 c9
      refine x_aload_n C dX7_stepBetween_64 0 rfl ?_
      refine gf_7_1 C q120 z7 dX7_stepBetween_65 ?_
      refine gf_6_0 C q122 z6_1 dX7_stepBetween_68 ?_
      refine x_bipush (v := 6) C dX7_stepBetween_71 rfl ?_
      refine x_icmp_lt (tgt := 78) C dX7_stepBetween_73 (by decide) (fun c10 => ?_) (fun c10 => ?_)
      · replace h := h.1 c10
        refine x_aload_n C dX7_stepBetween_78 0 rfl ?_
        refine gf_7_1 C q120 z7 dX7_stepBetween_79 ?_
        refine x_dup C dX7_stepBetween_82 rfl ?_
        refine gf_6_0 C q122 z6_1 dX7_stepBetween_83 ?_
        refine x_iconst (v := 1) C dX7_stepBetween_86 rfl ?_
        refine x_iadd C dX7_stepBetween_87 ?_
        refine pf_6_0 C q122 z6_1 dX7_stepBetween_88 ?_
        refine X_nameM (fun M11 eM11 => ?_)
        replace h := h M11 eM11
        refine x_aload_n C dX7_stepBetween_91 0 rfl ?_
        refine x_iload_n C dX7_stepBetween_92 1 rfl ?_
        refine x_calli (rest := []) C sv_X7_91 ob7 z7 (kX7_beginPart hG _ _ h) rfl rfl (Nat.le_of_ble_eq_true rfl) ⟨Nat.le_of_ble_eq_true rfl, Nat.le_of_ble_eq_true rfl⟩ rfl rfl ⟨Nat.le_of_ble_eq_true rfl, Nat.le_of_ble_eq_true rfl⟩ dX7_stepBetween_93 (fun r12 M13 h => ?_)
        exact x_iret C E h (Nat.le_of_ble_eq_true rfl) (Nat.le_of_ble_eq_true rfl) dX7_stepBetween_96
      · replace h := h.2 c10
        refine x_iconst (v := 2) C dX7_stepBetween_76 rfl ?_
        exact x_iret C E h (Nat.le_of_ble_eq_true rfl) (Nat.le_of_ble_eq_true rfl) dX7_stepBetween_77
    · replace h := h.2 c9
      refine x_iconst (v := 1) C dX7_stepBetween_62 rfl ?_
      exact x_iret C E h (Nat.le_of_ble_eq_true rfl) (Nat.le_of_ble_eq_true rfl) dX7_stepBetween_63
set_option maxRecDepth 100000 in
set_option maxHeartbeats 400000 in
theorem wX7_stepBetween_49 {Γ : Gam} {G : Gm} {Qf : State → Prop} (hG : Gd G) (C : Cx Γ G cX7_stepBetween 3 RX7 (some .int) rmX7_stepBetween) {x1 : Int32} {Q : Int32 → Mem → Prop} (E : EndI Γ G Qf rmX7_stepBetween Q) (M : Mem) (h : bX7_stepBetween_49 x1 Q M) : X Γ G Qf 3 0 0 49 [(0, .ref (ga G 7 0)), (1, .int x1)] [] M := by
  unfold bX7_stepBetween_49 at h
  refine x_iconst (v := 0) C dX7_stepBetween_49 rfl ?_
  refine x_istore_n (lv' := [(2, .int 0), (0, .ref (ga G 7 0)), (1, .int x1)]) C dX7_stepBetween_50 rfl (Nat.le_of_ble_eq_true rfl) rfl ?_
  refine X_sub (lv' := [(0, .ref (ga G 7 0)), (1, .int x1), (2, .int 0)]) [1, 2, 0] rfl ?_
  exact wX7_stepBetween_51 hG C E M 0 h
set_option maxRecDepth 100000 in
set_option maxHeartbeats 400000 in
theorem kX7_stepBetween {l : Launch} {G : Gm} (hG : Gd G) (M : Mem) (x1 : Int32) {Q : Int32 → Mem → Prop} (h : pX7_stepBetween M x1 Q) : Cti l G yX7_stepBetween cX7_stepBetween 3 .int rmX7_stepBetween [.ref (ga G 7 0), .int x1] M Q := by
  refine cti_of (own := RX7) (by decide +kernel) rfl (Nat.le_of_ble_eq_true rfl) hG (fun Γ Qf hl C E => ?_)
  subst hl
  show X Γ G Qf 3 0 0 0 [(0, .ref (ga G 7 0)), (1, .int x1)] [] M
  unfold pX7_stepBetween at h
  refine x_iload_n C dX7_stepBetween_0 1 rfl ?_
  refine x_iconst (v := (-1)) C dX7_stepBetween_1 rfl ?_
  refine x_icmp_ne (tgt := 21) C dX7_stepBetween_2 (by decide) (fun c1 => ?_) (fun c1 => ?_)
  · replace h := h.1 c1
    refine x_iload_n C dX7_stepBetween_21 1 rfl ?_
    refine x_bipush (v := 32) C dX7_stepBetween_22 rfl ?_
    refine x_icmp_ne (tgt := 29) C dX7_stepBetween_24 (by decide) (fun c2 => ?_) (fun c2 => ?_)
    · replace h := h.1 c2
      refine x_iload_n C dX7_stepBetween_29 1 rfl ?_
      refine x_bipush (v := 126) C dX7_stepBetween_30 rfl ?_
      refine x_icmp_ne (tgt := 49) C dX7_stepBetween_32 (by decide) (fun c3 => ?_) (fun c3 => ?_)
      · replace h := h.1 c3
        refine X_sub (lv' := [(0, .ref (ga G 7 0)), (1, .int x1)]) [0, 1] rfl ?_
        exact wX7_stepBetween_49 hG C E M h
      · replace h := h.2 c3
        refine x_aload_n C dX7_stepBetween_35 0 rfl ?_
        refine gf_7_1 C q120 z7 dX7_stepBetween_36 ?_
        refine gf_6_11 C q121 z6_1 dX7_stepBetween_39 ?_
        refine x_if_le (tgt := 49) C dX7_stepBetween_42 (by decide) (fun c4 => ?_) (fun c4 => ?_)
        · replace h := h.1 c4
          refine X_sub (lv' := [(0, .ref (ga G 7 0)), (1, .int x1)]) [0, 1] rfl ?_
          exact wX7_stepBetween_49 hG C E M h
        · replace h := h.2 c4
          refine x_iconst (v := 1) C dX7_stepBetween_45 rfl ?_
          refine x_goto (tgt := 50) C dX7_stepBetween_46 (by decide) ?_
          refine x_istore_n (lv' := [(2, .int 1), (0, .ref (ga G 7 0)), (1, .int x1)]) C dX7_stepBetween_50 rfl (Nat.le_of_ble_eq_true rfl) rfl ?_
          refine X_sub (lv' := [(0, .ref (ga G 7 0)), (1, .int x1), (2, .int 1)]) [1, 2, 0] rfl ?_
          exact wX7_stepBetween_51 hG C E M 1 h
    · replace h := h.2 c2
      refine x_iconst (v := 0) C dX7_stepBetween_27 rfl ?_
      exact x_iret C E h (Nat.le_of_ble_eq_true rfl) (Nat.le_of_ble_eq_true rfl) dX7_stepBetween_28
  · replace h := h.2 c1
    refine x_aload_n C dX7_stepBetween_5 0 rfl ?_
    refine gf_7_1 C q120 z7 dX7_stepBetween_6 ?_
    refine gf_6_0 C q122 z6_1 dX7_stepBetween_9 ?_
    refine x_if_ne (tgt := 19) C dX7_stepBetween_12 (by decide) (fun c5 => ?_) (fun c5 => ?_)
    · replace h := h.1 c5
      refine x_iconst (v := 0) C dX7_stepBetween_19 rfl ?_
      exact x_iret C E h (Nat.le_of_ble_eq_true rfl) (Nat.le_of_ble_eq_true rfl) dX7_stepBetween_20
    · replace h := h.2 c5
      refine x_iconst (v := 1) C dX7_stepBetween_15 rfl ?_
      refine x_goto (tgt := 20) C dX7_stepBetween_16 (by decide) ?_
      exact x_iret C E h (Nat.le_of_ble_eq_true rfl) (Nat.le_of_ble_eq_true rfl) dX7_stepBetween_20
def rmX7_isDigit : Room := { frames := 0, cells := 0, slots := 0, locals := 0 }
def pX7_isDigit (M : Mem) (x1 : Int32) (Q : Int32 → Mem → Prop) : Prop :=
  ((x1 < 49 → Q 0 M) ∧ (¬ x1 < 49 → ((57 < x1 → Q 0 M) ∧ (¬ 57 < x1 → Q 1 M))))
set_option maxRecDepth 100000 in
set_option maxHeartbeats 400000 in
theorem kX7_isDigit {l : Launch} {G : Gm} (hG : Gd G) (M : Mem) (x1 : Int32) {Q : Int32 → Mem → Prop} (h : pX7_isDigit M x1 Q) : Cti l G yX7_isDigit cX7_isDigit 1 .boolean rmX7_isDigit [.int x1] M Q := by
  refine cti_of (own := RX7) (by decide +kernel) rfl (Nat.le_of_ble_eq_true rfl) hG (fun Γ Qf hl C E => ?_)
  subst hl
  show X Γ G Qf 1 0 0 0 [(0, .int x1)] [] M
  unfold pX7_isDigit at h
  refine x_iload_n C dX7_isDigit_0 0 rfl ?_
  refine x_bipush (v := 49) C dX7_isDigit_1 rfl ?_
  refine x_icmp_lt (tgt := 16) C dX7_isDigit_3 (by decide) (fun c1 => ?_) (fun c1 => ?_)
  · replace h := h.1 c1
    refine x_iconst (v := 0) C dX7_isDigit_16 rfl ?_
    exact x_zret C E h rfl (Nat.le_of_ble_eq_true rfl) (Nat.le_of_ble_eq_true rfl) dX7_isDigit_17
  · replace h := h.2 c1
    refine x_iload_n C dX7_isDigit_6 0 rfl ?_
    refine x_bipush (v := 57) C dX7_isDigit_7 rfl ?_
    refine x_icmp_gt (tgt := 16) C dX7_isDigit_9 (by decide) (fun c2 => ?_) (fun c2 => ?_)
    · replace h := h.1 c2
      refine x_iconst (v := 0) C dX7_isDigit_16 rfl ?_
      exact x_zret C E h rfl (Nat.le_of_ble_eq_true rfl) (Nat.le_of_ble_eq_true rfl) dX7_isDigit_17
    · replace h := h.2 c2
      refine x_iconst (v := 1) C dX7_isDigit_12 rfl ?_
      refine x_goto (tgt := 17) C dX7_isDigit_13 (by decide) ?_
      exact x_zret C E h rfl (Nat.le_of_ble_eq_true rfl) (Nat.le_of_ble_eq_true rfl) dX7_isDigit_17
def rmX7_readBoost : Room := { frames := 2, cells := 0, slots := 0, locals := 46 }
def bX7_readBoost_45 (x1 : Int32) (Q : Int32 → Mem → Prop) (M : Mem) : Prop :=
  ∀ M11 : Mem, M11 = up1 M 803 0 0 0 → Q 0 M11
def pX7_readBoost (M : Mem) (x1 : Int32) (Q : Int32 → Mem → Prop) : Prop :=
  pX7_isDigit M x1 (fun r1 M2 => ((¬ r1 = 0 → pX9_numberOf M2 (M2.2 806 0 0) (fun r4 M5 => ((¬ (M5.1 804 0 0) = 43 → pX6_want M5 r4 (x1 - 48) 0 (fun M8 => bX7_readBoost_45 x1 Q M8)) ∧ ((M5.1 804 0 0) = 43 → pX6_want M5 r4 (x1 - 48) 1 (fun M10 => bX7_readBoost_45 x1 Q M10))))) ∧ (r1 = 0 → Q 1 M2)))
set_option maxRecDepth 100000 in
set_option maxHeartbeats 400000 in
theorem wX7_readBoost_45 {Γ : Gam} {G : Gm} {Qf : State → Prop} (hG : Gd G) (C : Cx Γ G cX7_readBoost 2 RX7 (some .int) rmX7_readBoost) {x1 : Int32} {Q : Int32 → Mem → Prop} (E : EndI Γ G Qf rmX7_readBoost Q) (M : Mem) (h : bX7_readBoost_45 x1 Q M) : X Γ G Qf 2 0 0 45 [(0, .ref (ga G 7 0))] [] M := by
  unfold bX7_readBoost_45 at h
  refine x_aload_n C dX7_readBoost_45 0 rfl ?_
  refine x_iconst (v := 0) C dX7_readBoost_46 rfl ?_
  refine pf_7_3 C q117 z7 dX7_readBoost_47 ?_
  refine X_nameM (fun M11 eM11 => ?_)
  replace h := h M11 eM11
  refine x_iconst (v := 0) C dX7_readBoost_50 rfl ?_
  exact x_iret C E h (Nat.le_of_ble_eq_true rfl) (Nat.le_of_ble_eq_true rfl) dX7_readBoost_51
set_option maxRecDepth 100000 in
set_option maxHeartbeats 400000 in
theorem kX7_readBoost {l : Launch} {G : Gm} (hG : Gd G) (M : Mem) (x1 : Int32) {Q : Int32 → Mem → Prop} (h : pX7_readBoost M x1 Q) : Cti l G yX7_readBoost cX7_readBoost 2 .int rmX7_readBoost [.ref (ga G 7 0), .int x1] M Q := by
  refine cti_of (own := RX7) (by decide +kernel) rfl (Nat.le_of_ble_eq_true rfl) hG (fun Γ Qf hl C E => ?_)
  subst hl
  show X Γ G Qf 2 0 0 0 [(0, .ref (ga G 7 0)), (1, .int x1)] [] M
  unfold pX7_readBoost at h
  refine x_iload_n C dX7_readBoost_0 1 rfl ?_
  refine x_scalli (rest := []) C ss_X7_108 (kX7_isDigit hG _ _ h) rfl rfl (Nat.le_of_ble_eq_true rfl) ⟨Nat.le_of_ble_eq_true rfl, Nat.le_of_ble_eq_true rfl⟩ rfl rfl ⟨Nat.le_of_ble_eq_true rfl, Nat.le_of_ble_eq_true rfl⟩ dX7_readBoost_1 (fun r1 M2 h => ?_)
  refine x_if_ne (tgt := 9) C dX7_readBoost_4 (by decide) (fun c3 => ?_) (fun c3 => ?_)
  · replace h := h.1 c3
    refine x_aload_n C dX7_readBoost_9 0 rfl ?_
    refine gf_7_1 C q120 z7 dX7_readBoost_10 ?_
    refine x_aload_n C dX7_readBoost_13 0 rfl ?_
    refine gf_7_0 C q119 z7 dX7_readBoost_14 ?_
    refine x_aload_n C dX7_readBoost_17 0 rfl ?_
    refine gf_7_6 C q116 z7 dX7_readBoost_18 ?_
    refine x_calli (rest := [.ref (ga G 6 1)]) C sv_X7_72 ob9 z9 (kX9_numberOf hG _ _ h) rfl rfl (Nat.le_of_ble_eq_true rfl) ⟨Nat.le_of_ble_eq_true rfl, Nat.le_of_ble_eq_true rfl⟩ rfl rfl ⟨Nat.le_of_ble_eq_true rfl, Nat.le_of_ble_eq_true rfl⟩ dX7_readBoost_21 (fun r4 M5 h => ?_)
    refine x_iload_n C dX7_readBoost_24 1 rfl ?_
    refine x_bipush (v := 48) C dX7_readBoost_25 rfl ?_
    refine x_isub C dX7_readBoost_27 ?_
    refine x_aload_n C dX7_readBoost_28 0 rfl ?_
    refine gf_7_4 C q118 z7 dX7_readBoost_29 ?_
    refine x_bipush (v := 43) C dX7_readBoost_32 rfl ?_
    refine x_icmp_ne (tgt := 41) C dX7_readBoost_34 (by decide) (fun c6 => ?_) (fun c6 => ?_)
    · replace h := h.1 c6
      refine x_iconst (v := 0) C dX7_readBoost_41 rfl ?_
      refine x_callv (rest := []) C sv_X7_104 ob6 z6_1 (kX6_want hG _ _ _ _ h) rfl rfl (Nat.le_of_ble_eq_true rfl) ⟨Nat.le_of_ble_eq_true rfl, Nat.le_of_ble_eq_true rfl⟩ rfl rfl ⟨Nat.le_of_ble_eq_true rfl, Nat.le_of_ble_eq_true rfl⟩ dX7_readBoost_42 (fun M8 h => ?_)
      refine X_sub (lv' := [(0, .ref (ga G 7 0))]) [0] rfl ?_
      exact wX7_readBoost_45 hG C E M8 h
    · replace h := h.2 c6
      refine x_iconst (v := 1) C dX7_readBoost_37 rfl ?_
      refine x_goto (tgt := 42) C dX7_readBoost_38 (by decide) ?_
      refine x_callv (rest := []) C sv_X7_104 ob6 z6_1 (kX6_want hG _ _ _ _ h) rfl rfl (Nat.le_of_ble_eq_true rfl) ⟨Nat.le_of_ble_eq_true rfl, Nat.le_of_ble_eq_true rfl⟩ rfl rfl ⟨Nat.le_of_ble_eq_true rfl, Nat.le_of_ble_eq_true rfl⟩ dX7_readBoost_42 (fun M10 h => ?_)
      refine X_sub (lv' := [(0, .ref (ga G 7 0))]) [0] rfl ?_
      exact wX7_readBoost_45 hG C E M10 h
  · replace h := h.2 c3
    refine x_iconst (v := 1) C dX7_readBoost_7 rfl ?_
    exact x_iret C E h (Nat.le_of_ble_eq_true rfl) (Nat.le_of_ble_eq_true rfl) dX7_readBoost_8
def rmX7_readReach : Room := { frames := 1, cells := 0, slots := 0, locals := 20 }
def pX7_readReach (M : Mem) (x1 : Int32) (Q : Int32 → Mem → Prop) : Prop :=
  pX7_isDigit M x1 (fun r1 M2 => ((¬ r1 = 0 → ∀ M4 : Mem, M4 = up1 M2 711 1 0 (x1 - 48) → ∀ M5 : Mem, M5 = up1 M4 803 0 0 0 → Q 0 M5) ∧ (r1 = 0 → Q 1 M2)))
set_option maxRecDepth 100000 in
set_option maxHeartbeats 400000 in
theorem kX7_readReach {l : Launch} {G : Gm} (hG : Gd G) (M : Mem) (x1 : Int32) {Q : Int32 → Mem → Prop} (h : pX7_readReach M x1 Q) : Cti l G yX7_readReach cX7_readReach 2 .int rmX7_readReach [.ref (ga G 7 0), .int x1] M Q := by
  refine cti_of (own := RX7) (by decide +kernel) rfl (Nat.le_of_ble_eq_true rfl) hG (fun Γ Qf hl C E => ?_)
  subst hl
  show X Γ G Qf 2 0 0 0 [(0, .ref (ga G 7 0)), (1, .int x1)] [] M
  unfold pX7_readReach at h
  refine x_iload_n C dX7_readReach_0 1 rfl ?_
  refine x_scalli (rest := []) C ss_X7_108 (kX7_isDigit hG _ _ h) rfl rfl (Nat.le_of_ble_eq_true rfl) ⟨Nat.le_of_ble_eq_true rfl, Nat.le_of_ble_eq_true rfl⟩ rfl rfl ⟨Nat.le_of_ble_eq_true rfl, Nat.le_of_ble_eq_true rfl⟩ dX7_readReach_1 (fun r1 M2 h => ?_)
  refine x_if_ne (tgt := 9) C dX7_readReach_4 (by decide) (fun c3 => ?_) (fun c3 => ?_)
  · replace h := h.1 c3
    refine x_aload_n C dX7_readReach_9 0 rfl ?_
    refine gf_7_1 C q120 z7 dX7_readReach_10 ?_
    refine x_iload_n C dX7_readReach_13 1 rfl ?_
    refine x_bipush (v := 48) C dX7_readReach_14 rfl ?_
    refine x_isub C dX7_readReach_16 ?_
    refine pf_6_11 C q121 z6_1 dX7_readReach_17 ?_
    refine X_nameM (fun M4 eM4 => ?_)
    replace h := h M4 eM4
    refine x_aload_n C dX7_readReach_20 0 rfl ?_
    refine x_iconst (v := 0) C dX7_readReach_21 rfl ?_
    refine pf_7_3 C q117 z7 dX7_readReach_22 ?_
    refine X_nameM (fun M5 eM5 => ?_)
    replace h := h M5 eM5
    refine x_iconst (v := 0) C dX7_readReach_25 rfl ?_
    exact x_iret C E h (Nat.le_of_ble_eq_true rfl) (Nat.le_of_ble_eq_true rfl) dX7_readReach_26
  · replace h := h.2 c3
    refine x_iconst (v := 1) C dX7_readReach_7 rfl ?_
    exact x_iret C E h (Nat.le_of_ble_eq_true rfl) (Nat.le_of_ble_eq_true rfl) dX7_readReach_8
def rmX7_stepInPhrase : Room := { frames := 3, cells := 0, slots := 0, locals := 65 }
def bX7_stepInPhrase_52 (x1 : Int32) (Q : Int32 → Mem → Prop) (M : Mem) : Prop :=
  pX7_beginWord M x1 6 (fun r13 M14 => Q r13 M14)
def bX7_stepInPhrase_32 (x1 : Int32) (Q : Int32 → Mem → Prop) (M : Mem) : Prop :=
  pX10_isLetter M x1 (fun r7 M8 => ((r7 = 0 → bX7_stepInPhrase_52 x1 Q M8) ∧ (¬ r7 = 0 → pX6_phraseLengthNow M8 (fun r10 M11 => ((r10 < 4 → bX7_stepInPhrase_52 x1 Q M11) ∧ (¬ r10 < 4 → Q 2 M11))))))
def pX7_stepInPhrase (M : Mem) (x1 : Int32) (Q : Int32 → Mem → Prop) : Prop :=
  ((¬ x1 = 32 → ((¬ x1 = 34 → bX7_stepInPhrase_32 x1 Q M) ∧ (x1 = 34 → pX6_phraseLengthNow M (fun r3 M4 => ((r3 < 2 → bX7_stepInPhrase_32 x1 Q M4) ∧ (¬ r3 < 2 → ∀ M6 : Mem, M6 = up1 M4 803 0 0 0 → Q 0 M6)))))) ∧ (x1 = 32 → Q 0 M))
set_option maxRecDepth 100000 in
set_option maxHeartbeats 400000 in
theorem wX7_stepInPhrase_52 {Γ : Gam} {G : Gm} {Qf : State → Prop} (hG : Gd G) (C : Cx Γ G cX7_stepInPhrase 2 RX7 (some .int) rmX7_stepInPhrase) {x1 : Int32} {Q : Int32 → Mem → Prop} (E : EndI Γ G Qf rmX7_stepInPhrase Q) (M : Mem) (h : bX7_stepInPhrase_52 x1 Q M) : X Γ G Qf 2 0 0 52 [(0, .ref (ga G 7 0)), (1, .int x1)] [] M := by
  unfold bX7_stepInPhrase_52 at h
  refine x_aload_n C dX7_stepInPhrase_52 0 rfl ?_
  refine x_iload_n C dX7_stepInPhrase_53 1 rfl ?_
  refine x_bipush (v := 6) C dX7_stepInPhrase_54 rfl ?_
  refine x_calli (rest := []) C sv_X7_46 ob7 z7 (kX7_beginWord hG _ _ _ h) rfl rfl (Nat.le_of_ble_eq_true rfl) ⟨Nat.le_of_ble_eq_true rfl, Nat.le_of_ble_eq_true rfl⟩ rfl rfl ⟨Nat.le_of_ble_eq_true rfl, Nat.le_of_ble_eq_true rfl⟩ dX7_stepInPhrase_56 (fun r13 M14 h => ?_)
  exact x_iret C E h (Nat.le_of_ble_eq_true rfl) (Nat.le_of_ble_eq_true rfl) dX7_stepInPhrase_59
set_option maxRecDepth 100000 in
set_option maxHeartbeats 400000 in
theorem wX7_stepInPhrase_32 {Γ : Gam} {G : Gm} {Qf : State → Prop} (hG : Gd G) (C : Cx Γ G cX7_stepInPhrase 2 RX7 (some .int) rmX7_stepInPhrase) {x1 : Int32} {Q : Int32 → Mem → Prop} (E : EndI Γ G Qf rmX7_stepInPhrase Q) (M : Mem) (h : bX7_stepInPhrase_32 x1 Q M) : X Γ G Qf 2 0 0 32 [(0, .ref (ga G 7 0)), (1, .int x1)] [] M := by
  unfold bX7_stepInPhrase_32 at h
  refine x_iload_n C dX7_stepInPhrase_32 1 rfl ?_
  refine x_ncalli (rest := []) C sn_X7_50 (kX10_isLetter hG _ _ h) rfl rfl (Nat.le_of_ble_eq_true rfl) ⟨Nat.le_of_ble_eq_true rfl, Nat.le_of_ble_eq_true rfl⟩ rfl rfl ⟨Nat.le_of_ble_eq_true rfl, Nat.le_of_ble_eq_true rfl⟩ dX7_stepInPhrase_33 (fun r7 M8 h => ?_)
  refine x_if_eq (tgt := 52) C dX7_stepInPhrase_36 (by decide) (fun c9 => ?_) (fun c9 => ?_)
  · replace h := h.1 c9
    refine X_sub (lv' := [(0, .ref (ga G 7 0)), (1, .int x1)]) [0, 1] rfl ?_
    exact wX7_stepInPhrase_52 hG C E M8 h
  · replace h := h.2 c9
    refine x_aload_n C dX7_stepInPhrase_39 0 rfl ?_
    refine gf_7_1 C q120 z7 dX7_stepInPhrase_40 ?_
    refine x_calli (rest := []) C sv_X7_111 ob6 z6_1 (kX6_phraseLengthNow hG _ h) rfl rfl (Nat.le_of_ble_eq_true rfl) ⟨Nat.le_of_ble_eq_true rfl, Nat.le_of_ble_eq_true rfl⟩ rfl rfl ⟨Nat.le_of_ble_eq_true rfl, Nat.le_of_ble_eq_true rfl⟩ dX7_stepInPhrase_43 (fun r10 M11 h => ?_)
    refine x_iconst (v := 4) C dX7_stepInPhrase_46 rfl ?_
    refine x_icmp_lt (tgt := 52) C dX7_stepInPhrase_47 (by decide) (fun c12 => ?_) (fun c12 => ?_)
    · replace h := h.1 c12
      refine X_sub (lv' := [(0, .ref (ga G 7 0)), (1, .int x1)]) [0, 1] rfl ?_
      exact wX7_stepInPhrase_52 hG C E M11 h
    · replace h := h.2 c12
      refine x_iconst (v := 2) C dX7_stepInPhrase_50 rfl ?_
      exact x_iret C E h (Nat.le_of_ble_eq_true rfl) (Nat.le_of_ble_eq_true rfl) dX7_stepInPhrase_51
set_option maxRecDepth 100000 in
set_option maxHeartbeats 400000 in
theorem kX7_stepInPhrase {l : Launch} {G : Gm} (hG : Gd G) (M : Mem) (x1 : Int32) {Q : Int32 → Mem → Prop} (h : pX7_stepInPhrase M x1 Q) : Cti l G yX7_stepInPhrase cX7_stepInPhrase 2 .int rmX7_stepInPhrase [.ref (ga G 7 0), .int x1] M Q := by
  refine cti_of (own := RX7) (by decide +kernel) rfl (Nat.le_of_ble_eq_true rfl) hG (fun Γ Qf hl C E => ?_)
  subst hl
  show X Γ G Qf 2 0 0 0 [(0, .ref (ga G 7 0)), (1, .int x1)] [] M
  unfold pX7_stepInPhrase at h
  refine x_iload_n C dX7_stepInPhrase_0 1 rfl ?_
  refine x_bipush (v := 32) C dX7_stepInPhrase_1 rfl ?_
  refine x_icmp_ne (tgt := 8) C dX7_stepInPhrase_3 (by decide) (fun c1 => ?_) (fun c1 => ?_)
  · replace h := h.1 c1
    refine x_iload_n C dX7_stepInPhrase_8 1 rfl ?_
    refine x_bipush (v := 34) C dX7_stepInPhrase_9 rfl ?_
    refine x_icmp_ne (tgt := 32) C dX7_stepInPhrase_11 (by decide) (fun c2 => ?_) (fun c2 => ?_)
    · replace h := h.1 c2
      refine X_sub (lv' := [(0, .ref (ga G 7 0)), (1, .int x1)]) [0, 1] rfl ?_
      exact wX7_stepInPhrase_32 hG C E M h
    · replace h := h.2 c2
      refine x_aload_n C dX7_stepInPhrase_14 0 rfl ?_
      refine gf_7_1 C q120 z7 dX7_stepInPhrase_15 ?_
      refine x_calli (rest := []) C sv_X7_111 ob6 z6_1 (kX6_phraseLengthNow hG _ h) rfl rfl (Nat.le_of_ble_eq_true rfl) ⟨Nat.le_of_ble_eq_true rfl, Nat.le_of_ble_eq_true rfl⟩ rfl rfl ⟨Nat.le_of_ble_eq_true rfl, Nat.le_of_ble_eq_true rfl⟩ dX7_stepInPhrase_18 (fun r3 M4 h => ?_)
      refine x_iconst (v := 2) C dX7_stepInPhrase_21 rfl ?_
      refine x_icmp_lt (tgt := 32) C dX7_stepInPhrase_22 (by decide) (fun c5 => ?_) (fun c5 => ?_)
      · replace h := h.1 c5
        refine X_sub (lv' := [(0, .ref (ga G 7 0)), (1, .int x1)]) [0, 1] rfl ?_
        exact wX7_stepInPhrase_32 hG C E M4 h
      · replace h := h.2 c5
        refine x_aload_n C dX7_stepInPhrase_25 0 rfl ?_
        refine x_iconst (v := 0) C dX7_stepInPhrase_26 rfl ?_
        refine pf_7_3 C q117 z7 dX7_stepInPhrase_27 ?_
        refine X_nameM (fun M6 eM6 => ?_)
        replace h := h M6 eM6
        refine x_iconst (v := 0) C dX7_stepInPhrase_30 rfl ?_
        exact x_iret C E h (Nat.le_of_ble_eq_true rfl) (Nat.le_of_ble_eq_true rfl) dX7_stepInPhrase_31
  · replace h := h.2 c1
    refine x_iconst (v := 0) C dX7_stepInPhrase_6 rfl ?_
    exact x_iret C E h (Nat.le_of_ble_eq_true rfl) (Nat.le_of_ble_eq_true rfl) dX7_stepInPhrase_7
def rmX7_step : Room := { frames := 5, cells := 0, slots := 0, locals := 108 }
def pX7_step (M : Mem) (x1 : Int32) (Q : Int32 → Mem → Prop) : Prop :=
  (((M.1 803 0 0) = 1 → pX7_beginWord M x1 2 (fun r2 M3 => Q r2 M3)) ∧ ((M.1 803 0 0) = 2 → pX10_isLetter M x1 (fun r5 M6 => ((r5 = 0 → pX7_endWord M6 x1 (fun r8 M9 => ((r8 = 0 → Q 0 M9) ∧ (¬ r8 = 0 → pX7_stepBetween M9 x1 (fun r11 M12 => Q r11 M12))))) ∧ (¬ r5 = 0 → pX7_spellOn M6 x1 (fun r13 M14 => Q r13 M14))))) ∧ ((M.1 803 0 0) = 3 → pX7_readBoost M x1 (fun r16 M17 => Q r16 M17)) ∧ ((M.1 803 0 0) = 4 → pX7_readReach M x1 (fun r19 M20 => Q r19 M20)) ∧ ((M.1 803 0 0) = 5 → pX7_stepInPhrase M x1 (fun r22 M23 => Q r22 M23)) ∧ ((M.1 803 0 0) = 6 → pX10_isLetter M x1 (fun r25 M26 => ((r25 = 0 → pX9_numberOf M26 (M26.2 806 0 0) (fun r28 M29 => pX6_lengthenPhrase M29 r28 (fun M31 => ∀ M32 : Mem, M32 = up1 M31 803 0 0 5 → pX7_stepInPhrase M32 x1 (fun r33 M34 => Q r33 M34)))) ∧ (¬ r25 = 0 → pX7_spellOn M26 x1 (fun r35 M36 => Q r35 M36))))) ∧ (¬ (M.1 803 0 0) = 1 → ¬ (M.1 803 0 0) = 2 → ¬ (M.1 803 0 0) = 3 → ¬ (M.1 803 0 0) = 4 → ¬ (M.1 803 0 0) = 5 → ¬ (M.1 803 0 0) = 6 → pX7_stepBetween M x1 (fun r37 M38 => Q r37 M38)))
set_option maxRecDepth 100000 in
set_option maxHeartbeats 400000 in
theorem kX7_step {l : Launch} {G : Gm} (hG : Gd G) (M : Mem) (x1 : Int32) {Q : Int32 → Mem → Prop} (h : pX7_step M x1 Q) : Cti l G yX7_step cX7_step 2 .int rmX7_step [.ref (ga G 7 0), .int x1] M Q := by
  refine cti_of (own := RX7) (by decide +kernel) rfl (Nat.le_of_ble_eq_true rfl) hG (fun Γ Qf hl C E => ?_)
  subst hl
  show X Γ G Qf 2 0 0 0 [(0, .ref (ga G 7 0)), (1, .int x1)] [] M
  unfold pX7_step at h
  refine x_aload_n C dX7_step_0 0 rfl ?_
  refine gf_7_3 C q117 z7 dX7_step_1 ?_
  by_cases c1 : (M.1 803 0 0) = 1
  · replace h := h.1 c1
    refine x_tabIn (v := 1) (tgt := 44) C dX7_step_4 c1 (by decide) (by decide) rfl (by decide) ?_
    refine x_aload_n C dX7_step_44 0 rfl ?_
    refine x_iload_n C dX7_step_45 1 rfl ?_
    refine x_iconst (v := 2) C dX7_step_46 rfl ?_
    refine x_calli (rest := []) C sv_X7_46 ob7 z7 (kX7_beginWord hG _ _ _ h) rfl rfl (Nat.le_of_ble_eq_true rfl) ⟨Nat.le_of_ble_eq_true rfl, Nat.le_of_ble_eq_true rfl⟩ rfl rfl ⟨Nat.le_of_ble_eq_true rfl, Nat.le_of_ble_eq_true rfl⟩ dX7_step_47 (fun r2 M3 h => ?_)
    exact x_iret C E h (Nat.le_of_ble_eq_true rfl) (Nat.le_of_ble_eq_true rfl) dX7_step_50
  by_cases c4 : (M.1 803 0 0) = 2
  · replace h := h.2.1 c4
    refine x_tabIn (v := 2) (tgt := 51) C dX7_step_4 c4 (by decide) (by decide) rfl (by decide) ?_
    refine x_iload_n C dX7_step_51 1 rfl ?_
    refine x_ncalli (rest := []) C sn_X7_50 (kX10_isLetter hG _ _ h) rfl rfl (Nat.le_of_ble_eq_true rfl) ⟨Nat.le_of_ble_eq_true rfl, Nat.le_of_ble_eq_true rfl⟩ rfl rfl ⟨Nat.le_of_ble_eq_true rfl, Nat.le_of_ble_eq_true rfl⟩ dX7_step_52 (fun r5 M6 h => ?_)
    refine x_if_eq (tgt := 64) C dX7_step_55 (by decide) (fun c7 => ?_) (fun c7 => ?_)
    · replace h := h.1 c7
      refine x_aload_n C dX7_step_64 0 rfl ?_
      refine x_iload_n C dX7_step_65 1 rfl ?_
      refine x_calli (rest := []) C sv_X7_57 ob7 z7 (kX7_endWord hG _ _ h) rfl rfl (Nat.le_of_ble_eq_true rfl) ⟨Nat.le_of_ble_eq_true rfl, Nat.le_of_ble_eq_true rfl⟩ rfl rfl ⟨Nat.le_of_ble_eq_true rfl, Nat.le_of_ble_eq_true rfl⟩ dX7_step_66 (fun r8 M9 h => ?_)
      refine x_if_eq (tgt := 80) C dX7_step_69 (by decide) (fun c10 => ?_) (fun c10 => ?_)
      · replace h := h.1 c10
        refine x_iconst (v := 0) C dX7_step_80 rfl ?_
        exact x_iret C E h (Nat.le_of_ble_eq_true rfl) (Nat.le_of_ble_eq_true rfl) dX7_step_81
      · replace h := h.2 c10
        refine x_aload_n C dX7_step_72 0 rfl ?_
        refine x_iload_n C dX7_step_73 1 rfl ?_
        refine x_calli (rest := []) C sv_X7_60 ob7 z7 (kX7_stepBetween hG _ _ h) rfl rfl (Nat.le_of_ble_eq_true rfl) ⟨Nat.le_of_ble_eq_true rfl, Nat.le_of_ble_eq_true rfl⟩ rfl rfl ⟨Nat.le_of_ble_eq_true rfl, Nat.le_of_ble_eq_true rfl⟩ dX7_step_74 (fun r11 M12 h => ?_)
        refine x_goto (tgt := 81) C dX7_step_77 (by decide) ?_
        exact x_iret C E h (Nat.le_of_ble_eq_true rfl) (Nat.le_of_ble_eq_true rfl) dX7_step_81
    · replace h := h.2 c7
      refine x_aload_n C dX7_step_58 0 rfl ?_
      refine x_iload_n C dX7_step_59 1 rfl ?_
      refine x_calli (rest := []) C sv_X7_54 ob7 z7 (kX7_spellOn hG _ _ h) rfl rfl (Nat.le_of_ble_eq_true rfl) ⟨Nat.le_of_ble_eq_true rfl, Nat.le_of_ble_eq_true rfl⟩ rfl rfl ⟨Nat.le_of_ble_eq_true rfl, Nat.le_of_ble_eq_true rfl⟩ dX7_step_60 (fun r13 M14 h => ?_)
      exact x_iret C E h (Nat.le_of_ble_eq_true rfl) (Nat.le_of_ble_eq_true rfl) dX7_step_63
  by_cases c15 : (M.1 803 0 0) = 3
  · replace h := h.2.2.1 c15
    refine x_tabIn (v := 3) (tgt := 82) C dX7_step_4 c15 (by decide) (by decide) rfl (by decide) ?_
    refine x_aload_n C dX7_step_82 0 rfl ?_
    refine x_iload_n C dX7_step_83 1 rfl ?_
    refine x_calli (rest := []) C sv_X7_63 ob7 z7 (kX7_readBoost hG _ _ h) rfl rfl (Nat.le_of_ble_eq_true rfl) ⟨Nat.le_of_ble_eq_true rfl, Nat.le_of_ble_eq_true rfl⟩ rfl rfl ⟨Nat.le_of_ble_eq_true rfl, Nat.le_of_ble_eq_true rfl⟩ dX7_step_84 (fun r16 M17 h => ?_)
    exact x_iret C E h (Nat.le_of_ble_eq_true rfl) (Nat.le_of_ble_eq_true rfl) dX7_step_87
  by_cases c18 : (M.1 803 0 0) = 4
  · replace h := h.2.2.2.1 c18
    refine x_tabIn (v := 4) (tgt := 88) C dX7_step_4 c18 (by decide) (by decide) rfl (by decide) ?_
    refine x_aload_n C dX7_step_88 0 rfl ?_
    refine x_iload_n C dX7_step_89 1 rfl ?_
    refine x_calli (rest := []) C sv_X7_66 ob7 z7 (kX7_readReach hG _ _ h) rfl rfl (Nat.le_of_ble_eq_true rfl) ⟨Nat.le_of_ble_eq_true rfl, Nat.le_of_ble_eq_true rfl⟩ rfl rfl ⟨Nat.le_of_ble_eq_true rfl, Nat.le_of_ble_eq_true rfl⟩ dX7_step_90 (fun r19 M20 h => ?_)
    exact x_iret C E h (Nat.le_of_ble_eq_true rfl) (Nat.le_of_ble_eq_true rfl) dX7_step_93
  by_cases c21 : (M.1 803 0 0) = 5
  · replace h := h.2.2.2.2.1 c21
    refine x_tabIn (v := 5) (tgt := 94) C dX7_step_4 c21 (by decide) (by decide) rfl (by decide) ?_
    refine x_aload_n C dX7_step_94 0 rfl ?_
    refine x_iload_n C dX7_step_95 1 rfl ?_
    refine x_calli (rest := []) C sv_X7_69 ob7 z7 (kX7_stepInPhrase hG _ _ h) rfl rfl (Nat.le_of_ble_eq_true rfl) ⟨Nat.le_of_ble_eq_true rfl, Nat.le_of_ble_eq_true rfl⟩ rfl rfl ⟨Nat.le_of_ble_eq_true rfl, Nat.le_of_ble_eq_true rfl⟩ dX7_step_96 (fun r22 M23 h => ?_)
    exact x_iret C E h (Nat.le_of_ble_eq_true rfl) (Nat.le_of_ble_eq_true rfl) dX7_step_99
  by_cases c24 : (M.1 803 0 0) = 6
  · replace h := h.2.2.2.2.2.1 c24
    refine x_tabIn (v := 6) (tgt := 100) C dX7_step_4 c24 (by decide) (by decide) rfl (by decide) ?_
    refine x_iload_n C dX7_step_100 1 rfl ?_
    refine x_ncalli (rest := []) C sn_X7_50 (kX10_isLetter hG _ _ h) rfl rfl (Nat.le_of_ble_eq_true rfl) ⟨Nat.le_of_ble_eq_true rfl, Nat.le_of_ble_eq_true rfl⟩ rfl rfl ⟨Nat.le_of_ble_eq_true rfl, Nat.le_of_ble_eq_true rfl⟩ dX7_step_101 (fun r25 M26 h => ?_)
    refine x_if_eq (tgt := 113) C dX7_step_104 (by decide) (fun c27 => ?_) (fun c27 => ?_)
    · replace h := h.1 c27
      refine x_aload_n C dX7_step_113 0 rfl ?_
      refine gf_7_1 C q120 z7 dX7_step_114 ?_
      refine x_aload_n C dX7_step_117 0 rfl ?_
      refine gf_7_0 C q119 z7 dX7_step_118 ?_
      refine x_aload_n C dX7_step_121 0 rfl ?_
      refine gf_7_6 C q116 z7 dX7_step_122 ?_
      refine x_calli (rest := [.ref (ga G 6 1)]) C sv_X7_72 ob9 z9 (kX9_numberOf hG _ _ h) rfl rfl (Nat.le_of_ble_eq_true rfl) ⟨Nat.le_of_ble_eq_true rfl, Nat.le_of_ble_eq_true rfl⟩ rfl rfl ⟨Nat.le_of_ble_eq_true rfl, Nat.le_of_ble_eq_true rfl⟩ dX7_step_125 (fun r28 M29 h => ?_)
      refine x_callv (rest := []) C sv_X7_78 ob6 z6_1 (kX6_lengthenPhrase hG _ _ h) rfl rfl (Nat.le_of_ble_eq_true rfl) ⟨Nat.le_of_ble_eq_true rfl, Nat.le_of_ble_eq_true rfl⟩ rfl rfl ⟨Nat.le_of_ble_eq_true rfl, Nat.le_of_ble_eq_true rfl⟩ dX7_step_128 (fun M31 h => ?_)
      refine x_aload_n C dX7_step_131 0 rfl ?_
      refine x_iconst (v := 5) C dX7_step_132 rfl ?_
      refine pf_7_3 C q117 z7 dX7_step_133 ?_
      refine X_nameM (fun M32 eM32 => ?_)
      replace h := h M32 eM32
      refine x_aload_n C dX7_step_136 0 rfl ?_
      refine x_iload_n C dX7_step_137 1 rfl ?_
      refine x_calli (rest := []) C sv_X7_69 ob7 z7 (kX7_stepInPhrase hG _ _ h) rfl rfl (Nat.le_of_ble_eq_true rfl) ⟨Nat.le_of_ble_eq_true rfl, Nat.le_of_ble_eq_true rfl⟩ rfl rfl ⟨Nat.le_of_ble_eq_true rfl, Nat.le_of_ble_eq_true rfl⟩ dX7_step_138 (fun r33 M34 h => ?_)
      exact x_iret C E h (Nat.le_of_ble_eq_true rfl) (Nat.le_of_ble_eq_true rfl) dX7_step_141
    · replace h := h.2 c27
      refine x_aload_n C dX7_step_107 0 rfl ?_
      refine x_iload_n C dX7_step_108 1 rfl ?_
      refine x_calli (rest := []) C sv_X7_54 ob7 z7 (kX7_spellOn hG _ _ h) rfl rfl (Nat.le_of_ble_eq_true rfl) ⟨Nat.le_of_ble_eq_true rfl, Nat.le_of_ble_eq_true rfl⟩ rfl rfl ⟨Nat.le_of_ble_eq_true rfl, Nat.le_of_ble_eq_true rfl⟩ dX7_step_109 (fun r35 M36 h => ?_)
      exact x_iret C E h (Nat.le_of_ble_eq_true rfl) (Nat.le_of_ble_eq_true rfl) dX7_step_112
  replace h := h.2.2.2.2.2.2 c1 c4 c15 c18 c21 c24
  refine x_tabOut (tgt := 142) C dX7_step_4 (by have ac1 := lv_neT (a := 1) c1 rfl; have ac4 := lv_neT (a := 2) c4 rfl; have ac15 := lv_neT (a := 3) c15 rfl; have ac18 := lv_neT (a := 4) c18 rfl; have ac21 := lv_neT (a := 5) c21 rfl; have ac24 := lv_neT (a := 6) c24 rfl; omega) (by decide) ?_
  refine x_aload_n C dX7_step_142 0 rfl ?_
  refine x_iload_n C dX7_step_143 1 rfl ?_
  refine x_calli (rest := []) C sv_X7_60 ob7 z7 (kX7_stepBetween hG _ _ h) rfl rfl (Nat.le_of_ble_eq_true rfl) ⟨Nat.le_of_ble_eq_true rfl, Nat.le_of_ble_eq_true rfl⟩ rfl rfl ⟨Nat.le_of_ble_eq_true rfl, Nat.le_of_ble_eq_true rfl⟩ dX7_step_144 (fun r37 M38 h => ?_)
  exact x_iret C E h (Nat.le_of_ble_eq_true rfl) (Nat.le_of_ble_eq_true rfl) dX7_step_147
