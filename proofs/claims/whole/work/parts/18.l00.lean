def rmL_add : Room := { frames := 9, cells := 2, slots := 12, locals := 147 }
def pL_add (M : Mem) (x1 : Int32) (Q : Int32 → Mem → Prop) : Prop :=
  pX10_add M x1 (fun r M1 => ∀ M2 : Mem, M2 = up2 M1 9000 0 (tn 0) (Int32.toInt64 r) → Q 0 M2) (fun E M1 => E = EI ∧ Q 1 M1)
set_option maxRecDepth 100000 in
set_option maxHeartbeats 400000 in
theorem kL_add {l : Launch} {G : Gm} (hG : Gd G) (hl0 : l.stackTraces = false) (M : Mem) (x1 : Int32) {Q : Int32 → Mem → Prop} (h : pL_add M x1 Q) : CtL l G yL_add cL_add 4 [(0, 9, 12, 13)] rmL_add [.ref (ga G 10 0), .int x1, .ref (ga G 9000 0)] M Q := by
  refine ctL_of (own := RL) (by decide +kernel) rfl (Nat.le_of_ble_eq_true rfl) hG (fun Γ Qf hl C E hT hNc => ?_)
  subst hl
  show X Γ G Qf 4 0 0 0 [(0, .ref (ga G 10 0)), (1, .int x1), (2, .ref (ga G 9000 0))] [] M
  unfold pL_add at h
  refine x_aload_n C dL_add_0 2 rfl ?_
  refine x_iconst (v := 0) C dL_add_1 rfl ?_
  refine x_aload_n C dL_add_2 0 rfl ?_
  refine x_iload_n C dL_add_3 1 rfl ?_
  refine x_hcalli (rest := [.int 0, .ref (ga G 9000 0)]) C sv_L_7 ob10 z10 (kX10_add hG hl0 _ _ h) rfl rfl (Nat.le_of_ble_eq_true rfl) ⟨Nat.le_of_ble_eq_true rfl, Nat.le_of_ble_eq_true rfl⟩ rfl rfl ⟨Nat.le_of_ble_eq_true rfl, Nat.le_of_ble_eq_true rfl⟩ dL_add_4 (fun r M1 h => ?_) (fun E M1 h => ?_)
  · refine x_i2l C dL_add_7 ?_
    refine as_9000 C z9000 (vp_l (by decide)) dL_add_8 ?_
    refine X_nameM (fun M2 e2 => ?_)
    replace h := h M2 e2
    refine x_goto (tgt := 15) C dL_add_9 (by decide) ?_
    refine x_iconst (v := 0) C dL_add_15 rfl ?_
    exact x_iret C E h (Nat.le_of_ble_eq_true rfl) (Nat.le_of_ble_eq_true rfl) dL_add_16
  · obtain ⟨rfl, h⟩ := h
    refine x_catch1 (x := ⟨0, 9, 12, 13⟩) (suf := []) C hT (by decide) (by decide) q1029 ca_EI (fun q => ?_)
    refine x_astore_n (lv' := [(3, .ref q), (0, .ref (ga G 10 0)), (1, .int x1), (2, .ref (ga G 9000 0))]) C dL_add_12 rfl (Nat.le_of_ble_eq_true rfl) rfl ?_
    refine x_iconst (v := 1) C dL_add_13 rfl ?_
    exact x_iret C ‹EndI Γ G Qf rmL_add Q› h (Nat.le_of_ble_eq_true rfl) (Nat.le_of_ble_eq_true rfl) dL_add_14
def rmL_ask : Room := { frames := 9, cells := 1, slots := 6, locals := 175 }
def pL_ask (M : Mem) (x1 : Int32) (Q : Int32 → Mem → Prop) : Prop :=
  pX10_ask M x1 (fun r M1 => ∀ M2 : Mem, M2 = up2 M1 9000 0 (tn 0) (Int32.toInt64 r) → Q 0 M2) (fun E M1 => E = EI ∧ Q 1 M1)
set_option maxRecDepth 100000 in
set_option maxHeartbeats 400000 in
theorem kL_ask {l : Launch} {G : Gm} (hG : Gd G) (hl0 : l.stackTraces = false) (M : Mem) (x1 : Int32) {Q : Int32 → Mem → Prop} (h : pL_ask M x1 Q) : CtL l G yL_ask cL_ask 4 [(0, 9, 12, 13)] rmL_ask [.ref (ga G 10 0), .int x1, .ref (ga G 9000 0)] M Q := by
  refine ctL_of (own := RL) (by decide +kernel) rfl (Nat.le_of_ble_eq_true rfl) hG (fun Γ Qf hl C E hT hNc => ?_)
  subst hl
  show X Γ G Qf 4 0 0 0 [(0, .ref (ga G 10 0)), (1, .int x1), (2, .ref (ga G 9000 0))] [] M
  unfold pL_ask at h
  refine x_aload_n C dL_ask_0 2 rfl ?_
  refine x_iconst (v := 0) C dL_ask_1 rfl ?_
  refine x_aload_n C dL_ask_2 0 rfl ?_
  refine x_iload_n C dL_ask_3 1 rfl ?_
  refine x_hcalli (rest := [.int 0, .ref (ga G 9000 0)]) C sv_L_15 ob10 z10 (kX10_ask hG hl0 _ _ h) rfl rfl (Nat.le_of_ble_eq_true rfl) ⟨Nat.le_of_ble_eq_true rfl, Nat.le_of_ble_eq_true rfl⟩ rfl rfl ⟨Nat.le_of_ble_eq_true rfl, Nat.le_of_ble_eq_true rfl⟩ dL_ask_4 (fun r M1 h => ?_) (fun E M1 h => ?_)
  · refine x_i2l C dL_ask_7 ?_
    refine as_9000 C z9000 (vp_l (by decide)) dL_ask_8 ?_
    refine X_nameM (fun M2 e2 => ?_)
    replace h := h M2 e2
    refine x_goto (tgt := 15) C dL_ask_9 (by decide) ?_
    refine x_iconst (v := 0) C dL_ask_15 rfl ?_
    exact x_iret C E h (Nat.le_of_ble_eq_true rfl) (Nat.le_of_ble_eq_true rfl) dL_ask_16
  · obtain ⟨rfl, h⟩ := h
    refine x_catch1 (x := ⟨0, 9, 12, 13⟩) (suf := []) C hT (by decide) (by decide) q1029 ca_EI (fun q => ?_)
    refine x_astore_n (lv' := [(3, .ref q), (0, .ref (ga G 10 0)), (1, .int x1), (2, .ref (ga G 9000 0))]) C dL_ask_12 rfl (Nat.le_of_ble_eq_true rfl) rfl ?_
    refine x_iconst (v := 1) C dL_ask_13 rfl ?_
    exact x_iret C ‹EndI Γ G Qf rmL_ask Q› h (Nat.le_of_ble_eq_true rfl) (Nat.le_of_ble_eq_true rfl) dL_ask_14
def rmL_find : Room := { frames := 9, cells := 1, slots := 6, locals := 146 }
def pL_find (M : Mem) (x1 : Int32) (Q : Int32 → Mem → Prop) : Prop :=
  pX10_find M x1 (fun r M1 => ∀ M2 : Mem, M2 = up2 M1 9000 0 (tn 0) (Int32.toInt64 r) → Q 0 M2) (fun E M1 => E = EI ∧ Q 1 M1)
set_option maxRecDepth 100000 in
set_option maxHeartbeats 400000 in
theorem kL_find {l : Launch} {G : Gm} (hG : Gd G) (hl0 : l.stackTraces = false) (M : Mem) (x1 : Int32) {Q : Int32 → Mem → Prop} (h : pL_find M x1 Q) : CtL l G yL_find cL_find 4 [(0, 9, 12, 13)] rmL_find [.ref (ga G 10 0), .int x1, .ref (ga G 9000 0)] M Q := by
  refine ctL_of (own := RL) (by decide +kernel) rfl (Nat.le_of_ble_eq_true rfl) hG (fun Γ Qf hl C E hT hNc => ?_)
  subst hl
  show X Γ G Qf 4 0 0 0 [(0, .ref (ga G 10 0)), (1, .int x1), (2, .ref (ga G 9000 0))] [] M
  unfold pL_find at h
  refine x_aload_n C dL_find_0 2 rfl ?_
  refine x_iconst (v := 0) C dL_find_1 rfl ?_
  refine x_aload_n C dL_find_2 0 rfl ?_
  refine x_iload_n C dL_find_3 1 rfl ?_
  refine x_hcalli (rest := [.int 0, .ref (ga G 9000 0)]) C sv_L_18 ob10 z10 (kX10_find hG hl0 _ _ h) rfl rfl (Nat.le_of_ble_eq_true rfl) ⟨Nat.le_of_ble_eq_true rfl, Nat.le_of_ble_eq_true rfl⟩ rfl rfl ⟨Nat.le_of_ble_eq_true rfl, Nat.le_of_ble_eq_true rfl⟩ dL_find_4 (fun r M1 h => ?_) (fun E M1 h => ?_)
  · refine x_i2l C dL_find_7 ?_
    refine as_9000 C z9000 (vp_l (by decide)) dL_find_8 ?_
    refine X_nameM (fun M2 e2 => ?_)
    replace h := h M2 e2
    refine x_goto (tgt := 15) C dL_find_9 (by decide) ?_
    refine x_iconst (v := 0) C dL_find_15 rfl ?_
    exact x_iret C E h (Nat.le_of_ble_eq_true rfl) (Nat.le_of_ble_eq_true rfl) dL_find_16
  · obtain ⟨rfl, h⟩ := h
    refine x_catch1 (x := ⟨0, 9, 12, 13⟩) (suf := []) C hT (by decide) (by decide) q1029 ca_EI (fun q => ?_)
    refine x_astore_n (lv' := [(3, .ref q), (0, .ref (ga G 10 0)), (1, .int x1), (2, .ref (ga G 9000 0))]) C dL_find_12 rfl (Nat.le_of_ble_eq_true rfl) rfl ?_
    refine x_iconst (v := 1) C dL_find_13 rfl ?_
    exact x_iret C ‹EndI Γ G Qf rmL_find Q› h (Nat.le_of_ble_eq_true rfl) (Nat.le_of_ble_eq_true rfl) dL_find_14
def rmL_remove : Room := { frames := 9, cells := 2, slots := 12, locals := 144 }
def pL_remove (M : Mem) (x1 : Int32) (Q : Int32 → Mem → Prop) : Prop :=
  pX10_remove M x1 (fun r M1 => ∀ M2 : Mem, M2 = up2 M1 9000 0 (tn 0) (Int32.toInt64 r) → Q 0 M2) (fun E M1 => E = EN ∧ Q 1 M1)
set_option maxRecDepth 100000 in
set_option maxHeartbeats 400000 in
theorem kL_remove {l : Launch} {G : Gm} (hG : Gd G) (hl0 : l.stackTraces = false) (M : Mem) (x1 : Int32) {Q : Int32 → Mem → Prop} (h : pL_remove M x1 Q) : CtL l G yL_remove cL_remove 4 [(0, 9, 12, 24)] rmL_remove [.ref (ga G 10 0), .int x1, .ref (ga G 9000 0)] M Q := by
  refine ctL_of (own := RL) (by decide +kernel) rfl (Nat.le_of_ble_eq_true rfl) hG (fun Γ Qf hl C E hT hNc => ?_)
  subst hl
  show X Γ G Qf 4 0 0 0 [(0, .ref (ga G 10 0)), (1, .int x1), (2, .ref (ga G 9000 0))] [] M
  unfold pL_remove at h
  refine x_aload_n C dL_remove_0 2 rfl ?_
  refine x_iconst (v := 0) C dL_remove_1 rfl ?_
  refine x_aload_n C dL_remove_2 0 rfl ?_
  refine x_iload_n C dL_remove_3 1 rfl ?_
  refine x_hcalli (rest := [.int 0, .ref (ga G 9000 0)]) C sv_L_21 ob10 z10 (kX10_remove hG hl0 _ _ h) rfl rfl (Nat.le_of_ble_eq_true rfl) ⟨Nat.le_of_ble_eq_true rfl, Nat.le_of_ble_eq_true rfl⟩ rfl rfl ⟨Nat.le_of_ble_eq_true rfl, Nat.le_of_ble_eq_true rfl⟩ dL_remove_4 (fun r M1 h => ?_) (fun E M1 h => ?_)
  · refine x_i2l C dL_remove_7 ?_
    refine as_9000 C z9000 (vp_l (by decide)) dL_remove_8 ?_
    refine X_nameM (fun M2 e2 => ?_)
    replace h := h M2 e2
    refine x_goto (tgt := 15) C dL_remove_9 (by decide) ?_
    refine x_iconst (v := 0) C dL_remove_15 rfl ?_
    exact x_iret C E h (Nat.le_of_ble_eq_true rfl) (Nat.le_of_ble_eq_true rfl) dL_remove_16
  · obtain ⟨rfl, h⟩ := h
    refine x_catch1 (x := ⟨0, 9, 12, 24⟩) (suf := []) C hT (by decide) (by decide) q1030 ca_EN (fun q => ?_)
    refine x_astore_n (lv' := [(3, .ref q), (0, .ref (ga G 10 0)), (1, .int x1), (2, .ref (ga G 9000 0))]) C dL_remove_12 rfl (Nat.le_of_ble_eq_true rfl) rfl ?_
    refine x_iconst (v := 1) C dL_remove_13 rfl ?_
    exact x_iret C ‹EndI Γ G Qf rmL_remove Q› h (Nat.le_of_ble_eq_true rfl) (Nat.le_of_ble_eq_true rfl) dL_remove_14
def rmL_repack : Room := { frames := 10, cells := 1, slots := 6, locals := 167 }
def pL_repack (M : Mem) (x1 : Int32) (Q : Int32 → Mem → Prop) : Prop :=
  pX10_repack M x1 (fun r M1 => ∀ M2 : Mem, M2 = up2 M1 9000 0 (tn 0) (Int32.toInt64 r) → Q 0 M2) (fun E M1 => E = EI ∧ Q 1 M1)
set_option maxRecDepth 100000 in
set_option maxHeartbeats 400000 in
theorem kL_repack {l : Launch} {G : Gm} (hG : Gd G) (hl0 : l.stackTraces = false) (M : Mem) (x1 : Int32) {Q : Int32 → Mem → Prop} (h : pL_repack M x1 Q) : CtL l G yL_repack cL_repack 4 [(0, 9, 12, 13)] rmL_repack [.ref (ga G 10 0), .int x1, .ref (ga G 9000 0)] M Q := by
  refine ctL_of (own := RL) (by decide +kernel) rfl (Nat.le_of_ble_eq_true rfl) hG (fun Γ Qf hl C E hT hNc => ?_)
  subst hl
  show X Γ G Qf 4 0 0 0 [(0, .ref (ga G 10 0)), (1, .int x1), (2, .ref (ga G 9000 0))] [] M
  unfold pL_repack at h
  refine x_aload_n C dL_repack_0 2 rfl ?_
  refine x_iconst (v := 0) C dL_repack_1 rfl ?_
  refine x_aload_n C dL_repack_2 0 rfl ?_
  refine x_iload_n C dL_repack_3 1 rfl ?_
  refine x_hcalli (rest := [.int 0, .ref (ga G 9000 0)]) C sv_L_26 ob10 z10 (kX10_repack hG hl0 _ _ h) rfl rfl (Nat.le_of_ble_eq_true rfl) ⟨Nat.le_of_ble_eq_true rfl, Nat.le_of_ble_eq_true rfl⟩ rfl rfl ⟨Nat.le_of_ble_eq_true rfl, Nat.le_of_ble_eq_true rfl⟩ dL_repack_4 (fun r M1 h => ?_) (fun E M1 h => ?_)
  · refine x_i2l C dL_repack_7 ?_
    refine as_9000 C z9000 (vp_l (by decide)) dL_repack_8 ?_
    refine X_nameM (fun M2 e2 => ?_)
    replace h := h M2 e2
    refine x_goto (tgt := 15) C dL_repack_9 (by decide) ?_
    refine x_iconst (v := 0) C dL_repack_15 rfl ?_
    exact x_iret C E h (Nat.le_of_ble_eq_true rfl) (Nat.le_of_ble_eq_true rfl) dL_repack_16
  · obtain ⟨rfl, h⟩ := h
    refine x_catch1 (x := ⟨0, 9, 12, 13⟩) (suf := []) C hT (by decide) (by decide) q1029 ca_EI (fun q => ?_)
    refine x_astore_n (lv' := [(3, .ref q), (0, .ref (ga G 10 0)), (1, .int x1), (2, .ref (ga G 9000 0))]) C dL_repack_12 rfl (Nat.le_of_ble_eq_true rfl) rfl ?_
    refine x_iconst (v := 1) C dL_repack_13 rfl ?_
    exact x_iret C ‹EndI Γ G Qf rmL_repack Q› h (Nat.le_of_ble_eq_true rfl) (Nat.le_of_ble_eq_true rfl) dL_repack_14
def rmL_told : Room := { frames := 9, cells := 1, slots := 6, locals := 146 }
def pL_told (M : Mem) (x1 : Int32) (Q : Int32 → Mem → Prop) : Prop :=
  pX10_told M x1 (fun r M1 => ∀ M2 : Mem, M2 = up2 M1 9000 0 (tn 0) (Int32.toInt64 r) → Q 0 M2) (fun E M1 => E = EI ∧ Q 1 M1)
set_option maxRecDepth 100000 in
set_option maxHeartbeats 400000 in
theorem kL_told {l : Launch} {G : Gm} (hG : Gd G) (hl0 : l.stackTraces = false) (M : Mem) (x1 : Int32) {Q : Int32 → Mem → Prop} (h : pL_told M x1 Q) : CtL l G yL_told cL_told 4 [(0, 9, 12, 13)] rmL_told [.ref (ga G 10 0), .int x1, .ref (ga G 9000 0)] M Q := by
  refine ctL_of (own := RL) (by decide +kernel) rfl (Nat.le_of_ble_eq_true rfl) hG (fun Γ Qf hl C E hT hNc => ?_)
  subst hl
  show X Γ G Qf 4 0 0 0 [(0, .ref (ga G 10 0)), (1, .int x1), (2, .ref (ga G 9000 0))] [] M
  unfold pL_told at h
  refine x_aload_n C dL_told_0 2 rfl ?_
  refine x_iconst (v := 0) C dL_told_1 rfl ?_
  refine x_aload_n C dL_told_2 0 rfl ?_
  refine x_iload_n C dL_told_3 1 rfl ?_
  refine x_hcalli (rest := [.int 0, .ref (ga G 9000 0)]) C sv_L_29 ob10 z10 (kX10_told hG hl0 _ _ h) rfl rfl (Nat.le_of_ble_eq_true rfl) ⟨Nat.le_of_ble_eq_true rfl, Nat.le_of_ble_eq_true rfl⟩ rfl rfl ⟨Nat.le_of_ble_eq_true rfl, Nat.le_of_ble_eq_true rfl⟩ dL_told_4 (fun r M1 h => ?_) (fun E M1 h => ?_)
  · refine x_i2l C dL_told_7 ?_
    refine as_9000 C z9000 (vp_l (by decide)) dL_told_8 ?_
    refine X_nameM (fun M2 e2 => ?_)
    replace h := h M2 e2
    refine x_goto (tgt := 15) C dL_told_9 (by decide) ?_
    refine x_iconst (v := 0) C dL_told_15 rfl ?_
    exact x_iret C E h (Nat.le_of_ble_eq_true rfl) (Nat.le_of_ble_eq_true rfl) dL_told_16
  · obtain ⟨rfl, h⟩ := h
    refine x_catch1 (x := ⟨0, 9, 12, 13⟩) (suf := []) C hT (by decide) (by decide) q1029 ca_EI (fun q => ?_)
    refine x_astore_n (lv' := [(3, .ref q), (0, .ref (ga G 10 0)), (1, .int x1), (2, .ref (ga G 9000 0))]) C dL_told_12 rfl (Nat.le_of_ble_eq_true rfl) rfl ?_
    refine x_iconst (v := 1) C dL_told_13 rfl ?_
    exact x_iret C ‹EndI Γ G Qf rmL_told Q› h (Nat.le_of_ble_eq_true rfl) (Nat.le_of_ble_eq_true rfl) dL_told_14
def rmL_document : Room := { frames := 9, cells := 2, slots := 12, locals := 147 }
def pL_document (M : Mem) (x1 : Int32) (x2 : Int32) (Q : Int32 → Mem → Prop) : Prop :=
  pX10_document M x1 x2 (fun r M1 => ∀ M2 : Mem, M2 = up2 M1 9000 0 (tn 0) (Int32.toInt64 r) → Q 0 M2) (fun E M1 => (E = EN ∧ Q 1 M1) ∨ (E = EI ∧ Q 2 M1))
set_option maxRecDepth 100000 in
set_option maxHeartbeats 400000 in
theorem kL_document {l : Launch} {G : Gm} (hG : Gd G) (hl0 : l.stackTraces = false) (M : Mem) (x1 : Int32) (x2 : Int32) {Q : Int32 → Mem → Prop} (h : pL_document M x1 x2 Q) : CtL l G yL_document cL_document 5 [(0, 10, 13, 24), (0, 10, 17, 13)] rmL_document [.ref (ga G 10 0), .int x1, .int x2, .ref (ga G 9000 0)] M Q := by
  refine ctL_of (own := RL) (by decide +kernel) rfl (Nat.le_of_ble_eq_true rfl) hG (fun Γ Qf hl C E hT hNc => ?_)
  subst hl
  show X Γ G Qf 5 0 0 0 [(0, .ref (ga G 10 0)), (1, .int x1), (2, .int x2), (3, .ref (ga G 9000 0))] [] M
  unfold pL_document at h
  refine x_aload_n C dL_document_0 3 rfl ?_
  refine x_iconst (v := 0) C dL_document_1 rfl ?_
  refine x_aload_n C dL_document_2 0 rfl ?_
  refine x_iload_n C dL_document_3 1 rfl ?_
  refine x_iload_n C dL_document_4 2 rfl ?_
  refine x_hcalli (rest := [.int 0, .ref (ga G 9000 0)]) C sv_L_32 ob10 z10 (kX10_document hG hl0 _ _ _ h) rfl rfl (Nat.le_of_ble_eq_true rfl) ⟨Nat.le_of_ble_eq_true rfl, Nat.le_of_ble_eq_true rfl⟩ rfl rfl ⟨Nat.le_of_ble_eq_true rfl, Nat.le_of_ble_eq_true rfl⟩ dL_document_5 (fun r M1 h => ?_) (fun E M1 h => ?_)
  · refine x_i2l C dL_document_8 ?_
    refine as_9000 C z9000 (vp_l (by decide)) dL_document_9 ?_
    refine X_nameM (fun M2 e2 => ?_)
    replace h := h M2 e2
    refine x_goto (tgt := 21) C dL_document_10 (by decide) ?_
    refine x_iconst (v := 0) C dL_document_21 rfl ?_
    exact x_iret C E h (Nat.le_of_ble_eq_true rfl) (Nat.le_of_ble_eq_true rfl) dL_document_22
  · rcases h with ⟨rfl, h⟩ | ⟨rfl, h⟩
    · refine x_catch1 (x := ⟨0, 10, 13, 24⟩) (suf := [⟨0, 10, 17, 13⟩]) C hT (by decide) (by decide) q1030 ca_EN (fun q => ?_)
      refine x_astore (lv' := [(4, .ref q), (0, .ref (ga G 10 0)), (1, .int x1), (2, .int x2), (3, .ref (ga G 9000 0))]) C dL_document_13 (Nat.le_of_ble_eq_true rfl) rfl ?_
      refine x_iconst (v := 1) C dL_document_15 rfl ?_
      exact x_iret C ‹EndI Γ G Qf rmL_document Q› h (Nat.le_of_ble_eq_true rfl) (Nat.le_of_ble_eq_true rfl) dL_document_16
    · refine x_catch2 (y := ⟨0, 10, 13, 24⟩) (x := ⟨0, 10, 17, 13⟩) (suf := []) C hT (by decide) q1030 hNc (by decide) (by decide) q1029 ca_EI (fun q => ?_)
      refine x_astore (lv' := [(4, .ref q), (0, .ref (ga G 10 0)), (1, .int x1), (2, .int x2), (3, .ref (ga G 9000 0))]) C dL_document_17 (Nat.le_of_ble_eq_true rfl) rfl ?_
      refine x_iconst (v := 2) C dL_document_19 rfl ?_
      exact x_iret C ‹EndI Γ G Qf rmL_document Q› h (Nat.le_of_ble_eq_true rfl) (Nat.le_of_ble_eq_true rfl) dL_document_20
def rmL_at : Room := { frames := 9, cells := 1, slots := 6, locals := 145 }
def pL_at (M : Mem) (x1 : Int32) (x2 : Int32) (Q : Int32 → Mem → Prop) : Prop :=
  pX10_at M x1 x2 (fun r M1 => ∀ M2 : Mem, M2 = up2 M1 9000 0 (tn 0) (Int32.toInt64 r) → Q 0 M2) (fun E M1 => E = EN ∧ Q 1 M1)
set_option maxRecDepth 100000 in
set_option maxHeartbeats 400000 in
theorem kL_at {l : Launch} {G : Gm} (hG : Gd G) (hl0 : l.stackTraces = false) (M : Mem) (x1 : Int32) (x2 : Int32) {Q : Int32 → Mem → Prop} (h : pL_at M x1 x2 Q) : CtL l G yL_at cL_at 5 [(0, 10, 13, 24)] rmL_at [.ref (ga G 10 0), .int x1, .int x2, .ref (ga G 9000 0)] M Q := by
  refine ctL_of (own := RL) (by decide +kernel) rfl (Nat.le_of_ble_eq_true rfl) hG (fun Γ Qf hl C E hT hNc => ?_)
  subst hl
  show X Γ G Qf 5 0 0 0 [(0, .ref (ga G 10 0)), (1, .int x1), (2, .int x2), (3, .ref (ga G 9000 0))] [] M
  unfold pL_at at h
  refine x_aload_n C dL_at_0 3 rfl ?_
  refine x_iconst (v := 0) C dL_at_1 rfl ?_
  refine x_aload_n C dL_at_2 0 rfl ?_
  refine x_iload_n C dL_at_3 1 rfl ?_
  refine x_iload_n C dL_at_4 2 rfl ?_
  refine x_hcalli (rest := [.int 0, .ref (ga G 9000 0)]) C sv_L_36 ob10 z10 (kX10_at hG hl0 _ _ _ h) rfl rfl (Nat.le_of_ble_eq_true rfl) ⟨Nat.le_of_ble_eq_true rfl, Nat.le_of_ble_eq_true rfl⟩ rfl rfl ⟨Nat.le_of_ble_eq_true rfl, Nat.le_of_ble_eq_true rfl⟩ dL_at_5 (fun r M1 h => ?_) (fun E M1 h => ?_)
  · refine x_i2l C dL_at_8 ?_
    refine as_9000 C z9000 (vp_l (by decide)) dL_at_9 ?_
    refine X_nameM (fun M2 e2 => ?_)
    replace h := h M2 e2
    refine x_goto (tgt := 17) C dL_at_10 (by decide) ?_
    refine x_iconst (v := 0) C dL_at_17 rfl ?_
    exact x_iret C E h (Nat.le_of_ble_eq_true rfl) (Nat.le_of_ble_eq_true rfl) dL_at_18
  · obtain ⟨rfl, h⟩ := h
    refine x_catch1 (x := ⟨0, 10, 13, 24⟩) (suf := []) C hT (by decide) (by decide) q1030 ca_EN (fun q => ?_)
    refine x_astore (lv' := [(4, .ref q), (0, .ref (ga G 10 0)), (1, .int x1), (2, .int x2), (3, .ref (ga G 9000 0))]) C dL_at_13 (Nat.le_of_ble_eq_true rfl) rfl ?_
    refine x_iconst (v := 1) C dL_at_15 rfl ?_
    exact x_iret C ‹EndI Γ G Qf rmL_at Q› h (Nat.le_of_ble_eq_true rfl) (Nat.le_of_ble_eq_true rfl) dL_at_16
def rmL_word : Room := { frames := 9, cells := 2, slots := 12, locals := 147 }
def pL_word (M : Mem) (x1 : Int32) (x2 : Int32) (Q : Int32 → Mem → Prop) : Prop :=
  pX10_word M x1 x2 (fun r M1 => ∀ M2 : Mem, M2 = up2 M1 9000 0 (tn 0) (Int32.toInt64 r) → Q 0 M2) (fun E M1 => (E = EN ∧ Q 1 M1) ∨ (E = EI ∧ Q 2 M1))
set_option maxRecDepth 100000 in
set_option maxHeartbeats 400000 in
theorem kL_word {l : Launch} {G : Gm} (hG : Gd G) (hl0 : l.stackTraces = false) (M : Mem) (x1 : Int32) (x2 : Int32) {Q : Int32 → Mem → Prop} (h : pL_word M x1 x2 Q) : CtL l G yL_word cL_word 5 [(0, 10, 13, 24), (0, 10, 17, 13)] rmL_word [.ref (ga G 10 0), .int x1, .int x2, .ref (ga G 9000 0)] M Q := by
  refine ctL_of (own := RL) (by decide +kernel) rfl (Nat.le_of_ble_eq_true rfl) hG (fun Γ Qf hl C E hT hNc => ?_)
  subst hl
  show X Γ G Qf 5 0 0 0 [(0, .ref (ga G 10 0)), (1, .int x1), (2, .int x2), (3, .ref (ga G 9000 0))] [] M
  unfold pL_word at h
  refine x_aload_n C dL_word_0 3 rfl ?_
  refine x_iconst (v := 0) C dL_word_1 rfl ?_
  refine x_aload_n C dL_word_2 0 rfl ?_
  refine x_iload_n C dL_word_3 1 rfl ?_
  refine x_iload_n C dL_word_4 2 rfl ?_
  refine x_hcalli (rest := [.int 0, .ref (ga G 9000 0)]) C sv_L_39 ob10 z10 (kX10_word hG hl0 _ _ _ h) rfl rfl (Nat.le_of_ble_eq_true rfl) ⟨Nat.le_of_ble_eq_true rfl, Nat.le_of_ble_eq_true rfl⟩ rfl rfl ⟨Nat.le_of_ble_eq_true rfl, Nat.le_of_ble_eq_true rfl⟩ dL_word_5 (fun r M1 h => ?_) (fun E M1 h => ?_)
  · refine x_i2l C dL_word_8 ?_
    refine as_9000 C z9000 (vp_l (by decide)) dL_word_9 ?_
    refine X_nameM (fun M2 e2 => ?_)
    replace h := h M2 e2
    refine x_goto (tgt := 21) C dL_word_10 (by decide) ?_
    refine x_iconst (v := 0) C dL_word_21 rfl ?_
    exact x_iret C E h (Nat.le_of_ble_eq_true rfl) (Nat.le_of_ble_eq_true rfl) dL_word_22
  · rcases h with ⟨rfl, h⟩ | ⟨rfl, h⟩
    · refine x_catch1 (x := ⟨0, 10, 13, 24⟩) (suf := [⟨0, 10, 17, 13⟩]) C hT (by decide) (by decide) q1030 ca_EN (fun q => ?_)
      refine x_astore (lv' := [(4, .ref q), (0, .ref (ga G 10 0)), (1, .int x1), (2, .int x2), (3, .ref (ga G 9000 0))]) C dL_word_13 (Nat.le_of_ble_eq_true rfl) rfl ?_
      refine x_iconst (v := 1) C dL_word_15 rfl ?_
      exact x_iret C ‹EndI Γ G Qf rmL_word Q› h (Nat.le_of_ble_eq_true rfl) (Nat.le_of_ble_eq_true rfl) dL_word_16
    · refine x_catch2 (y := ⟨0, 10, 13, 24⟩) (x := ⟨0, 10, 17, 13⟩) (suf := []) C hT (by decide) q1030 hNc (by decide) (by decide) q1029 ca_EI (fun q => ?_)
      refine x_astore (lv' := [(4, .ref q), (0, .ref (ga G 10 0)), (1, .int x1), (2, .int x2), (3, .ref (ga G 9000 0))]) C dL_word_17 (Nat.le_of_ble_eq_true rfl) rfl ?_
      refine x_iconst (v := 2) C dL_word_19 rfl ?_
      exact x_iret C ‹EndI Γ G Qf rmL_word Q› h (Nat.le_of_ble_eq_true rfl) (Nat.le_of_ble_eq_true rfl) dL_word_20
def rmL_letter : Room := { frames := 9, cells := 1, slots := 6, locals := 145 }
def pL_letter (M : Mem) (x1 : Int32) (x2 : Int32) (Q : Int32 → Mem → Prop) : Prop :=
  pX10_letter M x1 x2 (fun r M1 => ∀ M2 : Mem, M2 = up2 M1 9000 0 (tn 0) (Int32.toInt64 r) → Q 0 M2) (fun E M1 => E = EN ∧ Q 1 M1)
set_option maxRecDepth 100000 in
set_option maxHeartbeats 400000 in
theorem kL_letter {l : Launch} {G : Gm} (hG : Gd G) (hl0 : l.stackTraces = false) (M : Mem) (x1 : Int32) (x2 : Int32) {Q : Int32 → Mem → Prop} (h : pL_letter M x1 x2 Q) : CtL l G yL_letter cL_letter 5 [(0, 10, 13, 24)] rmL_letter [.ref (ga G 10 0), .int x1, .int x2, .ref (ga G 9000 0)] M Q := by
  refine ctL_of (own := RL) (by decide +kernel) rfl (Nat.le_of_ble_eq_true rfl) hG (fun Γ Qf hl C E hT hNc => ?_)
  subst hl
  show X Γ G Qf 5 0 0 0 [(0, .ref (ga G 10 0)), (1, .int x1), (2, .int x2), (3, .ref (ga G 9000 0))] [] M
  unfold pL_letter at h
  refine x_aload_n C dL_letter_0 3 rfl ?_
  refine x_iconst (v := 0) C dL_letter_1 rfl ?_
  refine x_aload_n C dL_letter_2 0 rfl ?_
  refine x_iload_n C dL_letter_3 1 rfl ?_
  refine x_iload_n C dL_letter_4 2 rfl ?_
  refine x_hcalli (rest := [.int 0, .ref (ga G 9000 0)]) C sv_L_42 ob10 z10 (kX10_letter hG hl0 _ _ _ h) rfl rfl (Nat.le_of_ble_eq_true rfl) ⟨Nat.le_of_ble_eq_true rfl, Nat.le_of_ble_eq_true rfl⟩ rfl rfl ⟨Nat.le_of_ble_eq_true rfl, Nat.le_of_ble_eq_true rfl⟩ dL_letter_5 (fun r M1 h => ?_) (fun E M1 h => ?_)
  · refine x_i2l C dL_letter_8 ?_
    refine as_9000 C z9000 (vp_l (by decide)) dL_letter_9 ?_
    refine X_nameM (fun M2 e2 => ?_)
    replace h := h M2 e2
    refine x_goto (tgt := 17) C dL_letter_10 (by decide) ?_
    refine x_iconst (v := 0) C dL_letter_17 rfl ?_
    exact x_iret C E h (Nat.le_of_ble_eq_true rfl) (Nat.le_of_ble_eq_true rfl) dL_letter_18
  · obtain ⟨rfl, h⟩ := h
    refine x_catch1 (x := ⟨0, 10, 13, 24⟩) (suf := []) C hT (by decide) (by decide) q1030 ca_EN (fun q => ?_)
    refine x_astore (lv' := [(4, .ref q), (0, .ref (ga G 10 0)), (1, .int x1), (2, .int x2), (3, .ref (ga G 9000 0))]) C dL_letter_13 (Nat.le_of_ble_eq_true rfl) rfl ?_
    refine x_iconst (v := 1) C dL_letter_15 rfl ?_
    exact x_iret C ‹EndI Γ G Qf rmL_letter Q› h (Nat.le_of_ble_eq_true rfl) (Nat.le_of_ble_eq_true rfl) dL_letter_16
def rmL_block : Room := { frames := 10, cells := 3, slots := 18, locals := 168 }
def pL_block (M : Mem) (x1 : Int32) (x2 : Int32) (x3 : Int32) (Q : Int32 → Mem → Prop) : Prop :=
  pX10_block M x1 x2 x3 (fun r M1 => ∀ M2 : Mem, M2 = up2 M1 9000 0 (tn 0) (Int32.toInt64 r) → Q 0 M2) (fun E M1 => (E = EN ∧ Q 1 M1) ∨ (E = EI ∧ Q 2 M1))
set_option maxRecDepth 100000 in
set_option maxHeartbeats 400000 in
theorem kL_block {l : Launch} {G : Gm} (hG : Gd G) (hl0 : l.stackTraces = false) (M : Mem) (x1 : Int32) (x2 : Int32) (x3 : Int32) {Q : Int32 → Mem → Prop} (h : pL_block M x1 x2 x3 Q) : CtL l G yL_block cL_block 6 [(0, 12, 15, 24), (0, 12, 19, 13)] rmL_block [.ref (ga G 10 0), .int x1, .int x2, .int x3, .ref (ga G 9000 0)] M Q := by
  refine ctL_of (own := RL) (by decide +kernel) rfl (Nat.le_of_ble_eq_true rfl) hG (fun Γ Qf hl C E hT hNc => ?_)
  subst hl
  show X Γ G Qf 6 0 0 0 [(0, .ref (ga G 10 0)), (1, .int x1), (2, .int x2), (3, .int x3), (4, .ref (ga G 9000 0))] [] M
  unfold pL_block at h
  refine x_aload C dL_block_0 4 rfl ?_
  refine x_iconst (v := 0) C dL_block_2 rfl ?_
  refine x_aload_n C dL_block_3 0 rfl ?_
  refine x_iload_n C dL_block_4 1 rfl ?_
  refine x_iload_n C dL_block_5 2 rfl ?_
  refine x_iload_n C dL_block_6 3 rfl ?_
  refine x_hcalli (rest := [.int 0, .ref (ga G 9000 0)]) C sv_L_45 ob10 z10 (kX10_block hG hl0 _ _ _ _ h) rfl rfl (Nat.le_of_ble_eq_true rfl) ⟨Nat.le_of_ble_eq_true rfl, Nat.le_of_ble_eq_true rfl⟩ rfl rfl ⟨Nat.le_of_ble_eq_true rfl, Nat.le_of_ble_eq_true rfl⟩ dL_block_7 (fun r M1 h => ?_) (fun E M1 h => ?_)
  · refine x_i2l C dL_block_10 ?_
    refine as_9000 C z9000 (vp_l (by decide)) dL_block_11 ?_
    refine X_nameM (fun M2 e2 => ?_)
    replace h := h M2 e2
    refine x_goto (tgt := 23) C dL_block_12 (by decide) ?_
    refine x_iconst (v := 0) C dL_block_23 rfl ?_
    exact x_iret C E h (Nat.le_of_ble_eq_true rfl) (Nat.le_of_ble_eq_true rfl) dL_block_24
  · rcases h with ⟨rfl, h⟩ | ⟨rfl, h⟩
    · refine x_catch1 (x := ⟨0, 12, 15, 24⟩) (suf := [⟨0, 12, 19, 13⟩]) C hT (by decide) (by decide) q1030 ca_EN (fun q => ?_)
      refine x_astore (lv' := [(5, .ref q), (0, .ref (ga G 10 0)), (1, .int x1), (2, .int x2), (3, .int x3), (4, .ref (ga G 9000 0))]) C dL_block_15 (Nat.le_of_ble_eq_true rfl) rfl ?_
      refine x_iconst (v := 1) C dL_block_17 rfl ?_
      exact x_iret C ‹EndI Γ G Qf rmL_block Q› h (Nat.le_of_ble_eq_true rfl) (Nat.le_of_ble_eq_true rfl) dL_block_18
    · refine x_catch2 (y := ⟨0, 12, 15, 24⟩) (x := ⟨0, 12, 19, 13⟩) (suf := []) C hT (by decide) q1030 hNc (by decide) (by decide) q1029 ca_EI (fun q => ?_)
      refine x_astore (lv' := [(5, .ref q), (0, .ref (ga G 10 0)), (1, .int x1), (2, .int x2), (3, .int x3), (4, .ref (ga G 9000 0))]) C dL_block_19 (Nat.le_of_ble_eq_true rfl) rfl ?_
      refine x_iconst (v := 2) C dL_block_21 rfl ?_
      exact x_iret C ‹EndI Γ G Qf rmL_block Q› h (Nat.le_of_ble_eq_true rfl) (Nat.le_of_ble_eq_true rfl) dL_block_22
def rmL_posting : Room := { frames := 10, cells := 3, slots := 18, locals := 169 }
def pL_posting (M : Mem) (x1 : Int32) (x2 : Int32) (x3 : Int32) (Q : Int32 → Mem → Prop) : Prop :=
  pX10_posting M x1 x2 x3 (fun r M1 => ∀ M2 : Mem, M2 = up2 M1 9000 0 (tn 0) (Int32.toInt64 r) → Q 0 M2) (fun E M1 => (E = EN ∧ Q 1 M1) ∨ (E = EI ∧ Q 2 M1))
set_option maxRecDepth 100000 in
set_option maxHeartbeats 400000 in
theorem kL_posting {l : Launch} {G : Gm} (hG : Gd G) (hl0 : l.stackTraces = false) (M : Mem) (x1 : Int32) (x2 : Int32) (x3 : Int32) {Q : Int32 → Mem → Prop} (h : pL_posting M x1 x2 x3 Q) : CtL l G yL_posting cL_posting 6 [(0, 12, 15, 24), (0, 12, 19, 13)] rmL_posting [.ref (ga G 10 0), .int x1, .int x2, .int x3, .ref (ga G 9000 0)] M Q := by
  refine ctL_of (own := RL) (by decide +kernel) rfl (Nat.le_of_ble_eq_true rfl) hG (fun Γ Qf hl C E hT hNc => ?_)
  subst hl
  show X Γ G Qf 6 0 0 0 [(0, .ref (ga G 10 0)), (1, .int x1), (2, .int x2), (3, .int x3), (4, .ref (ga G 9000 0))] [] M
  unfold pL_posting at h
  refine x_aload C dL_posting_0 4 rfl ?_
  refine x_iconst (v := 0) C dL_posting_2 rfl ?_
  refine x_aload_n C dL_posting_3 0 rfl ?_
  refine x_iload_n C dL_posting_4 1 rfl ?_
  refine x_iload_n C dL_posting_5 2 rfl ?_
  refine x_iload_n C dL_posting_6 3 rfl ?_
  refine x_hcalli (rest := [.int 0, .ref (ga G 9000 0)]) C sv_L_49 ob10 z10 (kX10_posting hG hl0 _ _ _ _ h) rfl rfl (Nat.le_of_ble_eq_true rfl) ⟨Nat.le_of_ble_eq_true rfl, Nat.le_of_ble_eq_true rfl⟩ rfl rfl ⟨Nat.le_of_ble_eq_true rfl, Nat.le_of_ble_eq_true rfl⟩ dL_posting_7 (fun r M1 h => ?_) (fun E M1 h => ?_)
  · refine x_i2l C dL_posting_10 ?_
    refine as_9000 C z9000 (vp_l (by decide)) dL_posting_11 ?_
    refine X_nameM (fun M2 e2 => ?_)
    replace h := h M2 e2
    refine x_goto (tgt := 23) C dL_posting_12 (by decide) ?_
    refine x_iconst (v := 0) C dL_posting_23 rfl ?_
    exact x_iret C E h (Nat.le_of_ble_eq_true rfl) (Nat.le_of_ble_eq_true rfl) dL_posting_24
  · rcases h with ⟨rfl, h⟩ | ⟨rfl, h⟩
    · refine x_catch1 (x := ⟨0, 12, 15, 24⟩) (suf := [⟨0, 12, 19, 13⟩]) C hT (by decide) (by decide) q1030 ca_EN (fun q => ?_)
      refine x_astore (lv' := [(5, .ref q), (0, .ref (ga G 10 0)), (1, .int x1), (2, .int x2), (3, .int x3), (4, .ref (ga G 9000 0))]) C dL_posting_15 (Nat.le_of_ble_eq_true rfl) rfl ?_
      refine x_iconst (v := 1) C dL_posting_17 rfl ?_
      exact x_iret C ‹EndI Γ G Qf rmL_posting Q› h (Nat.le_of_ble_eq_true rfl) (Nat.le_of_ble_eq_true rfl) dL_posting_18
    · refine x_catch2 (y := ⟨0, 12, 15, 24⟩) (x := ⟨0, 12, 19, 13⟩) (suf := []) C hT (by decide) q1030 hNc (by decide) (by decide) q1029 ca_EI (fun q => ?_)
      refine x_astore (lv' := [(5, .ref q), (0, .ref (ga G 10 0)), (1, .int x1), (2, .int x2), (3, .int x3), (4, .ref (ga G 9000 0))]) C dL_posting_19 (Nat.le_of_ble_eq_true rfl) rfl ?_
      refine x_iconst (v := 2) C dL_posting_21 rfl ?_
      exact x_iret C ‹EndI Γ G Qf rmL_posting Q› h (Nat.le_of_ble_eq_true rfl) (Nat.le_of_ble_eq_true rfl) dL_posting_22
def rmL_position : Room := { frames := 10, cells := 2, slots := 12, locals := 168 }
def pL_position (M : Mem) (x1 : Int32) (x2 : Int32) (x3 : Int32) (Q : Int32 → Mem → Prop) : Prop :=
  pX10_position M x1 x2 x3 (fun r M1 => ∀ M2 : Mem, M2 = up2 M1 9000 0 (tn 0) (Int32.toInt64 r) → Q 0 M2) (fun E M1 => E = EN ∧ Q 1 M1)
set_option maxRecDepth 100000 in
set_option maxHeartbeats 400000 in
theorem kL_position {l : Launch} {G : Gm} (hG : Gd G) (hl0 : l.stackTraces = false) (M : Mem) (x1 : Int32) (x2 : Int32) (x3 : Int32) {Q : Int32 → Mem → Prop} (h : pL_position M x1 x2 x3 Q) : CtL l G yL_position cL_position 6 [(0, 12, 15, 24)] rmL_position [.ref (ga G 10 0), .int x1, .int x2, .int x3, .ref (ga G 9000 0)] M Q := by
  refine ctL_of (own := RL) (by decide +kernel) rfl (Nat.le_of_ble_eq_true rfl) hG (fun Γ Qf hl C E hT hNc => ?_)
  subst hl
  show X Γ G Qf 6 0 0 0 [(0, .ref (ga G 10 0)), (1, .int x1), (2, .int x2), (3, .int x3), (4, .ref (ga G 9000 0))] [] M
  unfold pL_position at h
  refine x_aload C dL_position_0 4 rfl ?_
  refine x_iconst (v := 0) C dL_position_2 rfl ?_
  refine x_aload_n C dL_position_3 0 rfl ?_
  refine x_iload_n C dL_position_4 1 rfl ?_
  refine x_iload_n C dL_position_5 2 rfl ?_
  refine x_iload_n C dL_position_6 3 rfl ?_
  refine x_hcalli (rest := [.int 0, .ref (ga G 9000 0)]) C sv_L_52 ob10 z10 (kX10_position hG hl0 _ _ _ _ h) rfl rfl (Nat.le_of_ble_eq_true rfl) ⟨Nat.le_of_ble_eq_true rfl, Nat.le_of_ble_eq_true rfl⟩ rfl rfl ⟨Nat.le_of_ble_eq_true rfl, Nat.le_of_ble_eq_true rfl⟩ dL_position_7 (fun r M1 h => ?_) (fun E M1 h => ?_)
  · refine x_i2l C dL_position_10 ?_
    refine as_9000 C z9000 (vp_l (by decide)) dL_position_11 ?_
    refine X_nameM (fun M2 e2 => ?_)
    replace h := h M2 e2
    refine x_goto (tgt := 19) C dL_position_12 (by decide) ?_
    refine x_iconst (v := 0) C dL_position_19 rfl ?_
    exact x_iret C E h (Nat.le_of_ble_eq_true rfl) (Nat.le_of_ble_eq_true rfl) dL_position_20
  · obtain ⟨rfl, h⟩ := h
    refine x_catch1 (x := ⟨0, 12, 15, 24⟩) (suf := []) C hT (by decide) (by decide) q1030 ca_EN (fun q => ?_)
    refine x_astore (lv' := [(5, .ref q), (0, .ref (ga G 10 0)), (1, .int x1), (2, .int x2), (3, .int x3), (4, .ref (ga G 9000 0))]) C dL_position_15 (Nat.le_of_ble_eq_true rfl) rfl ?_
    refine x_iconst (v := 1) C dL_position_17 rfl ?_
    exact x_iret C ‹EndI Γ G Qf rmL_position Q› h (Nat.le_of_ble_eq_true rfl) (Nat.le_of_ble_eq_true rfl) dL_position_18
def rmL_common : Room := { frames := 8, cells := 1, slots := 6, locals := 123 }
def pL_common (M : Mem) (x1 : Int32) (Q : Int32 → Mem → Prop) : Prop :=
  pX10_common M x1 (fun r M1 => ∀ M2 : Mem, M2 = up2 M1 9000 0 (tn 0) (Int32.toInt64 r) → Q 0 M2) (fun E M1 => E = EN ∧ Q 1 M1)
set_option maxRecDepth 100000 in
set_option maxHeartbeats 400000 in
theorem kL_common {l : Launch} {G : Gm} (hG : Gd G) (hl0 : l.stackTraces = false) (M : Mem) (x1 : Int32) {Q : Int32 → Mem → Prop} (h : pL_common M x1 Q) : CtL l G yL_common cL_common 4 [(0, 9, 12, 24)] rmL_common [.ref (ga G 10 0), .int x1, .ref (ga G 9000 0)] M Q := by
  refine ctL_of (own := RL) (by decide +kernel) rfl (Nat.le_of_ble_eq_true rfl) hG (fun Γ Qf hl C E hT hNc => ?_)
  subst hl
  show X Γ G Qf 4 0 0 0 [(0, .ref (ga G 10 0)), (1, .int x1), (2, .ref (ga G 9000 0))] [] M
  unfold pL_common at h
  refine x_aload_n C dL_common_0 2 rfl ?_
  refine x_iconst (v := 0) C dL_common_1 rfl ?_
  refine x_aload_n C dL_common_2 0 rfl ?_
  refine x_iload_n C dL_common_3 1 rfl ?_
  refine x_hcalli (rest := [.int 0, .ref (ga G 9000 0)]) C sv_L_55 ob10 z10 (kX10_common hG hl0 _ _ h) rfl rfl (Nat.le_of_ble_eq_true rfl) ⟨Nat.le_of_ble_eq_true rfl, Nat.le_of_ble_eq_true rfl⟩ rfl rfl ⟨Nat.le_of_ble_eq_true rfl, Nat.le_of_ble_eq_true rfl⟩ dL_common_4 (fun r M1 h => ?_) (fun E M1 h => ?_)
  · refine x_i2l C dL_common_7 ?_
    refine as_9000 C z9000 (vp_l (by decide)) dL_common_8 ?_
    refine X_nameM (fun M2 e2 => ?_)
    replace h := h M2 e2
    refine x_goto (tgt := 15) C dL_common_9 (by decide) ?_
    refine x_iconst (v := 0) C dL_common_15 rfl ?_
    exact x_iret C E h (Nat.le_of_ble_eq_true rfl) (Nat.le_of_ble_eq_true rfl) dL_common_16
  · obtain ⟨rfl, h⟩ := h
    refine x_catch1 (x := ⟨0, 9, 12, 24⟩) (suf := []) C hT (by decide) (by decide) q1030 ca_EN (fun q => ?_)
    refine x_astore_n (lv' := [(3, .ref q), (0, .ref (ga G 10 0)), (1, .int x1), (2, .ref (ga G 9000 0))]) C dL_common_12 rfl (Nat.le_of_ble_eq_true rfl) rfl ?_
    refine x_iconst (v := 1) C dL_common_13 rfl ?_
    exact x_iret C ‹EndI Γ G Qf rmL_common Q› h (Nat.le_of_ble_eq_true rfl) (Nat.le_of_ble_eq_true rfl) dL_common_14
def rmL_alike : Room := { frames := 9, cells := 2, slots := 12, locals := 145 }
def pL_alike (M : Mem) (x1 : Int32) (x2 : Int32) (Q : Int32 → Mem → Prop) : Prop :=
  pX10_alike M x1 x2 (fun r M1 => ∀ M2 : Mem, M2 = up2 M1 9000 0 (tn 0) (Int32.toInt64 r) → Q 0 M2) (fun E M1 => E = EN ∧ Q 1 M1)
set_option maxRecDepth 100000 in
set_option maxHeartbeats 400000 in
theorem kL_alike {l : Launch} {G : Gm} (hG : Gd G) (hl0 : l.stackTraces = false) (M : Mem) (x1 : Int32) (x2 : Int32) {Q : Int32 → Mem → Prop} (h : pL_alike M x1 x2 Q) : CtL l G yL_alike cL_alike 5 [(0, 10, 13, 24)] rmL_alike [.ref (ga G 10 0), .int x1, .int x2, .ref (ga G 9000 0)] M Q := by
  refine ctL_of (own := RL) (by decide +kernel) rfl (Nat.le_of_ble_eq_true rfl) hG (fun Γ Qf hl C E hT hNc => ?_)
  subst hl
  show X Γ G Qf 5 0 0 0 [(0, .ref (ga G 10 0)), (1, .int x1), (2, .int x2), (3, .ref (ga G 9000 0))] [] M
  unfold pL_alike at h
  refine x_aload_n C dL_alike_0 3 rfl ?_
  refine x_iconst (v := 0) C dL_alike_1 rfl ?_
  refine x_aload_n C dL_alike_2 0 rfl ?_
  refine x_iload_n C dL_alike_3 1 rfl ?_
  refine x_iload_n C dL_alike_4 2 rfl ?_
  refine x_hcalli (rest := [.int 0, .ref (ga G 9000 0)]) C sv_L_58 ob10 z10 (kX10_alike hG hl0 _ _ _ h) rfl rfl (Nat.le_of_ble_eq_true rfl) ⟨Nat.le_of_ble_eq_true rfl, Nat.le_of_ble_eq_true rfl⟩ rfl rfl ⟨Nat.le_of_ble_eq_true rfl, Nat.le_of_ble_eq_true rfl⟩ dL_alike_5 (fun r M1 h => ?_) (fun E M1 h => ?_)
  · refine x_i2l C dL_alike_8 ?_
    refine as_9000 C z9000 (vp_l (by decide)) dL_alike_9 ?_
    refine X_nameM (fun M2 e2 => ?_)
    replace h := h M2 e2
    refine x_goto (tgt := 17) C dL_alike_10 (by decide) ?_
    refine x_iconst (v := 0) C dL_alike_17 rfl ?_
    exact x_iret C E h (Nat.le_of_ble_eq_true rfl) (Nat.le_of_ble_eq_true rfl) dL_alike_18
  · obtain ⟨rfl, h⟩ := h
    refine x_catch1 (x := ⟨0, 10, 13, 24⟩) (suf := []) C hT (by decide) (by decide) q1030 ca_EN (fun q => ?_)
    refine x_astore (lv' := [(4, .ref q), (0, .ref (ga G 10 0)), (1, .int x1), (2, .int x2), (3, .ref (ga G 9000 0))]) C dL_alike_13 (Nat.le_of_ble_eq_true rfl) rfl ?_
    refine x_iconst (v := 1) C dL_alike_15 rfl ?_
    exact x_iret C ‹EndI Γ G Qf rmL_alike Q› h (Nat.le_of_ble_eq_true rfl) (Nat.le_of_ble_eq_true rfl) dL_alike_16
def rmL_scored : Room := { frames := 9, cells := 1, slots := 6, locals := 148 }
def pL_scored (M : Mem) (x1 : Int32) (x2 : Int32) (Q : Int32 → Mem → Prop) : Prop :=
  pX10_scored M x1 x2 (fun r M1 => ∀ M2 : Mem, M2 = up2 M1 9000 0 (tn 0) (Int32.toInt64 r) → Q 0 M2) (fun E M1 => E = EI ∧ Q 1 M1)
set_option maxRecDepth 100000 in
set_option maxHeartbeats 400000 in
theorem kL_scored {l : Launch} {G : Gm} (hG : Gd G) (hl0 : l.stackTraces = false) (M : Mem) (x1 : Int32) (x2 : Int32) {Q : Int32 → Mem → Prop} (h : pL_scored M x1 x2 Q) : CtL l G yL_scored cL_scored 5 [(0, 10, 13, 13)] rmL_scored [.ref (ga G 10 0), .int x1, .int x2, .ref (ga G 9000 0)] M Q := by
  refine ctL_of (own := RL) (by decide +kernel) rfl (Nat.le_of_ble_eq_true rfl) hG (fun Γ Qf hl C E hT hNc => ?_)
  subst hl
  show X Γ G Qf 5 0 0 0 [(0, .ref (ga G 10 0)), (1, .int x1), (2, .int x2), (3, .ref (ga G 9000 0))] [] M
  unfold pL_scored at h
  refine x_aload_n C dL_scored_0 3 rfl ?_
  refine x_iconst (v := 0) C dL_scored_1 rfl ?_
  refine x_aload_n C dL_scored_2 0 rfl ?_
  refine x_iload_n C dL_scored_3 1 rfl ?_
  refine x_iload_n C dL_scored_4 2 rfl ?_
  refine x_hcalli (rest := [.int 0, .ref (ga G 9000 0)]) C sv_L_61 ob10 z10 (kX10_scored hG hl0 _ _ _ h) rfl rfl (Nat.le_of_ble_eq_true rfl) ⟨Nat.le_of_ble_eq_true rfl, Nat.le_of_ble_eq_true rfl⟩ rfl rfl ⟨Nat.le_of_ble_eq_true rfl, Nat.le_of_ble_eq_true rfl⟩ dL_scored_5 (fun r M1 h => ?_) (fun E M1 h => ?_)
  · refine x_i2l C dL_scored_8 ?_
    refine as_9000 C z9000 (vp_l (by decide)) dL_scored_9 ?_
    refine X_nameM (fun M2 e2 => ?_)
    replace h := h M2 e2
    refine x_goto (tgt := 17) C dL_scored_10 (by decide) ?_
    refine x_iconst (v := 0) C dL_scored_17 rfl ?_
    exact x_iret C E h (Nat.le_of_ble_eq_true rfl) (Nat.le_of_ble_eq_true rfl) dL_scored_18
  · obtain ⟨rfl, h⟩ := h
    refine x_catch1 (x := ⟨0, 10, 13, 13⟩) (suf := []) C hT (by decide) (by decide) q1029 ca_EI (fun q => ?_)
    refine x_astore (lv' := [(4, .ref q), (0, .ref (ga G 10 0)), (1, .int x1), (2, .int x2), (3, .ref (ga G 9000 0))]) C dL_scored_13 (Nat.le_of_ble_eq_true rfl) rfl ?_
    refine x_iconst (v := 1) C dL_scored_15 rfl ?_
    exact x_iret C ‹EndI Γ G Qf rmL_scored Q› h (Nat.le_of_ble_eq_true rfl) (Nat.le_of_ble_eq_true rfl) dL_scored_16
def rmL_why : Room := { frames := 9, cells := 1, slots := 6, locals := 144 }
def pL_why (M : Mem) (x1 : Int32) (Q : Int32 → Mem → Prop) : Prop :=
  pX10_why M x1 (fun r M1 => ∀ M2 : Mem, M2 = up2 M1 9000 0 (tn 0) (Int32.toInt64 r) → Q 0 M2) (fun E M1 => E = EN ∧ Q 1 M1)
set_option maxRecDepth 100000 in
set_option maxHeartbeats 400000 in
theorem kL_why {l : Launch} {G : Gm} (hG : Gd G) (hl0 : l.stackTraces = false) (M : Mem) (x1 : Int32) {Q : Int32 → Mem → Prop} (h : pL_why M x1 Q) : CtL l G yL_why cL_why 4 [(0, 9, 12, 24)] rmL_why [.ref (ga G 10 0), .int x1, .ref (ga G 9000 0)] M Q := by
  refine ctL_of (own := RL) (by decide +kernel) rfl (Nat.le_of_ble_eq_true rfl) hG (fun Γ Qf hl C E hT hNc => ?_)
  subst hl
  show X Γ G Qf 4 0 0 0 [(0, .ref (ga G 10 0)), (1, .int x1), (2, .ref (ga G 9000 0))] [] M
  unfold pL_why at h
  refine x_aload_n C dL_why_0 2 rfl ?_
  refine x_iconst (v := 0) C dL_why_1 rfl ?_
  refine x_aload_n C dL_why_2 0 rfl ?_
  refine x_iload_n C dL_why_3 1 rfl ?_
  refine x_hcalli (rest := [.int 0, .ref (ga G 9000 0)]) C sv_L_64 ob10 z10 (kX10_why hG hl0 _ _ h) rfl rfl (Nat.le_of_ble_eq_true rfl) ⟨Nat.le_of_ble_eq_true rfl, Nat.le_of_ble_eq_true rfl⟩ rfl rfl ⟨Nat.le_of_ble_eq_true rfl, Nat.le_of_ble_eq_true rfl⟩ dL_why_4 (fun r M1 h => ?_) (fun E M1 h => ?_)
  · refine x_i2l C dL_why_7 ?_
    refine as_9000 C z9000 (vp_l (by decide)) dL_why_8 ?_
    refine X_nameM (fun M2 e2 => ?_)
    replace h := h M2 e2
    refine x_goto (tgt := 15) C dL_why_9 (by decide) ?_
    refine x_iconst (v := 0) C dL_why_15 rfl ?_
    exact x_iret C E h (Nat.le_of_ble_eq_true rfl) (Nat.le_of_ble_eq_true rfl) dL_why_16
  · obtain ⟨rfl, h⟩ := h
    refine x_catch1 (x := ⟨0, 9, 12, 24⟩) (suf := []) C hT (by decide) (by decide) q1030 ca_EN (fun q => ?_)
    refine x_astore_n (lv' := [(3, .ref q), (0, .ref (ga G 10 0)), (1, .int x1), (2, .ref (ga G 9000 0))]) C dL_why_12 rfl (Nat.le_of_ble_eq_true rfl) rfl ?_
    refine x_iconst (v := 1) C dL_why_13 rfl ?_
    exact x_iret C ‹EndI Γ G Qf rmL_why Q› h (Nat.le_of_ble_eq_true rfl) (Nat.le_of_ble_eq_true rfl) dL_why_14
def rmL_score : Room := { frames := 9, cells := 1, slots := 6, locals := 144 }
def pL_score (M : Mem) (x1 : Int32) (Q : Int32 → Mem → Prop) : Prop :=
  pX10_score M x1 (fun r M1 => ∀ M2 : Mem, M2 = up2 M1 9000 0 (tn 0) (Int32.toInt64 r) → Q 0 M2) (fun E M1 => E = EN ∧ Q 1 M1)
set_option maxRecDepth 100000 in
set_option maxHeartbeats 400000 in
theorem kL_score {l : Launch} {G : Gm} (hG : Gd G) (hl0 : l.stackTraces = false) (M : Mem) (x1 : Int32) {Q : Int32 → Mem → Prop} (h : pL_score M x1 Q) : CtL l G yL_score cL_score 4 [(0, 9, 12, 24)] rmL_score [.ref (ga G 10 0), .int x1, .ref (ga G 9000 0)] M Q := by
  refine ctL_of (own := RL) (by decide +kernel) rfl (Nat.le_of_ble_eq_true rfl) hG (fun Γ Qf hl C E hT hNc => ?_)
  subst hl
  show X Γ G Qf 4 0 0 0 [(0, .ref (ga G 10 0)), (1, .int x1), (2, .ref (ga G 9000 0))] [] M
  unfold pL_score at h
  refine x_aload_n C dL_score_0 2 rfl ?_
  refine x_iconst (v := 0) C dL_score_1 rfl ?_
  refine x_aload_n C dL_score_2 0 rfl ?_
  refine x_iload_n C dL_score_3 1 rfl ?_
  refine x_hcalli (rest := [.int 0, .ref (ga G 9000 0)]) C sv_L_67 ob10 z10 (kX10_score hG hl0 _ _ h) rfl rfl (Nat.le_of_ble_eq_true rfl) ⟨Nat.le_of_ble_eq_true rfl, Nat.le_of_ble_eq_true rfl⟩ rfl rfl ⟨Nat.le_of_ble_eq_true rfl, Nat.le_of_ble_eq_true rfl⟩ dL_score_4 (fun r M1 h => ?_) (fun E M1 h => ?_)
  · refine x_i2l C dL_score_7 ?_
    refine as_9000 C z9000 (vp_l (by decide)) dL_score_8 ?_
    refine X_nameM (fun M2 e2 => ?_)
    replace h := h M2 e2
    refine x_goto (tgt := 15) C dL_score_9 (by decide) ?_
    refine x_iconst (v := 0) C dL_score_15 rfl ?_
    exact x_iret C E h (Nat.le_of_ble_eq_true rfl) (Nat.le_of_ble_eq_true rfl) dL_score_16
  · obtain ⟨rfl, h⟩ := h
    refine x_catch1 (x := ⟨0, 9, 12, 24⟩) (suf := []) C hT (by decide) (by decide) q1030 ca_EN (fun q => ?_)
    refine x_astore_n (lv' := [(3, .ref q), (0, .ref (ga G 10 0)), (1, .int x1), (2, .ref (ga G 9000 0))]) C dL_score_12 rfl (Nat.le_of_ble_eq_true rfl) rfl ?_
    refine x_iconst (v := 1) C dL_score_13 rfl ?_
    exact x_iret C ‹EndI Γ G Qf rmL_score Q› h (Nat.le_of_ble_eq_true rfl) (Nat.le_of_ble_eq_true rfl) dL_score_14
def rmL_near : Room := { frames := 9, cells := 1, slots := 6, locals := 144 }
def pL_near (M : Mem) (x1 : Int32) (Q : Int32 → Mem → Prop) : Prop :=
  pX10_near M x1 (fun r M1 => ∀ M2 : Mem, M2 = up2 M1 9000 0 (tn 0) (Int32.toInt64 r) → Q 0 M2) (fun E M1 => E = EN ∧ Q 1 M1)
set_option maxRecDepth 100000 in
set_option maxHeartbeats 400000 in
theorem kL_near {l : Launch} {G : Gm} (hG : Gd G) (hl0 : l.stackTraces = false) (M : Mem) (x1 : Int32) {Q : Int32 → Mem → Prop} (h : pL_near M x1 Q) : CtL l G yL_near cL_near 4 [(0, 9, 12, 24)] rmL_near [.ref (ga G 10 0), .int x1, .ref (ga G 9000 0)] M Q := by
  refine ctL_of (own := RL) (by decide +kernel) rfl (Nat.le_of_ble_eq_true rfl) hG (fun Γ Qf hl C E hT hNc => ?_)
  subst hl
  show X Γ G Qf 4 0 0 0 [(0, .ref (ga G 10 0)), (1, .int x1), (2, .ref (ga G 9000 0))] [] M
  unfold pL_near at h
  refine x_aload_n C dL_near_0 2 rfl ?_
  refine x_iconst (v := 0) C dL_near_1 rfl ?_
  refine x_aload_n C dL_near_2 0 rfl ?_
  refine x_iload_n C dL_near_3 1 rfl ?_
  refine x_hcalli (rest := [.int 0, .ref (ga G 9000 0)]) C sv_L_70 ob10 z10 (kX10_near hG hl0 _ _ h) rfl rfl (Nat.le_of_ble_eq_true rfl) ⟨Nat.le_of_ble_eq_true rfl, Nat.le_of_ble_eq_true rfl⟩ rfl rfl ⟨Nat.le_of_ble_eq_true rfl, Nat.le_of_ble_eq_true rfl⟩ dL_near_4 (fun r M1 h => ?_) (fun E M1 h => ?_)
  · refine x_i2l C dL_near_7 ?_
    refine as_9000 C z9000 (vp_l (by decide)) dL_near_8 ?_
    refine X_nameM (fun M2 e2 => ?_)
    replace h := h M2 e2
    refine x_goto (tgt := 15) C dL_near_9 (by decide) ?_
    refine x_iconst (v := 0) C dL_near_15 rfl ?_
    exact x_iret C E h (Nat.le_of_ble_eq_true rfl) (Nat.le_of_ble_eq_true rfl) dL_near_16
  · obtain ⟨rfl, h⟩ := h
    refine x_catch1 (x := ⟨0, 9, 12, 24⟩) (suf := []) C hT (by decide) (by decide) q1030 ca_EN (fun q => ?_)
    refine x_astore_n (lv' := [(3, .ref q), (0, .ref (ga G 10 0)), (1, .int x1), (2, .ref (ga G 9000 0))]) C dL_near_12 rfl (Nat.le_of_ble_eq_true rfl) rfl ?_
    refine x_iconst (v := 1) C dL_near_13 rfl ?_
    exact x_iret C ‹EndI Γ G Qf rmL_near Q› h (Nat.le_of_ble_eq_true rfl) (Nat.le_of_ble_eq_true rfl) dL_near_14
def rmL_window : Room := { frames := 9, cells := 2, slots := 12, locals := 147 }
def pL_window (M : Mem) (x1 : Int32) (x2 : Int32) (Q : Int32 → Mem → Prop) : Prop :=
  pX10_window M x1 x2 (fun r M1 => ∀ M2 : Mem, M2 = up2 M1 9000 0 (tn 0) (Int32.toInt64 r) → Q 0 M2) (fun E M1 => (E = EN ∧ Q 1 M1) ∨ (E = EI ∧ Q 2 M1))
set_option maxRecDepth 100000 in
set_option maxHeartbeats 400000 in
theorem kL_window {l : Launch} {G : Gm} (hG : Gd G) (hl0 : l.stackTraces = false) (M : Mem) (x1 : Int32) (x2 : Int32) {Q : Int32 → Mem → Prop} (h : pL_window M x1 x2 Q) : CtL l G yL_window cL_window 5 [(0, 10, 13, 24), (0, 10, 17, 13)] rmL_window [.ref (ga G 10 0), .int x1, .int x2, .ref (ga G 9000 0)] M Q := by
  refine ctL_of (own := RL) (by decide +kernel) rfl (Nat.le_of_ble_eq_true rfl) hG (fun Γ Qf hl C E hT hNc => ?_)
  subst hl
  show X Γ G Qf 5 0 0 0 [(0, .ref (ga G 10 0)), (1, .int x1), (2, .int x2), (3, .ref (ga G 9000 0))] [] M
  unfold pL_window at h
  refine x_aload_n C dL_window_0 3 rfl ?_
  refine x_iconst (v := 0) C dL_window_1 rfl ?_
  refine x_aload_n C dL_window_2 0 rfl ?_
  refine x_iload_n C dL_window_3 1 rfl ?_
  refine x_iload_n C dL_window_4 2 rfl ?_
  refine x_hcalli (rest := [.int 0, .ref (ga G 9000 0)]) C sv_L_73 ob10 z10 (kX10_window hG hl0 _ _ _ h) rfl rfl (Nat.le_of_ble_eq_true rfl) ⟨Nat.le_of_ble_eq_true rfl, Nat.le_of_ble_eq_true rfl⟩ rfl rfl ⟨Nat.le_of_ble_eq_true rfl, Nat.le_of_ble_eq_true rfl⟩ dL_window_5 (fun r M1 h => ?_) (fun E M1 h => ?_)
  · refine x_i2l C dL_window_8 ?_
    refine as_9000 C z9000 (vp_l (by decide)) dL_window_9 ?_
    refine X_nameM (fun M2 e2 => ?_)
    replace h := h M2 e2
    refine x_goto (tgt := 21) C dL_window_10 (by decide) ?_
    refine x_iconst (v := 0) C dL_window_21 rfl ?_
    exact x_iret C E h (Nat.le_of_ble_eq_true rfl) (Nat.le_of_ble_eq_true rfl) dL_window_22
  · rcases h with ⟨rfl, h⟩ | ⟨rfl, h⟩
    · refine x_catch1 (x := ⟨0, 10, 13, 24⟩) (suf := [⟨0, 10, 17, 13⟩]) C hT (by decide) (by decide) q1030 ca_EN (fun q => ?_)
      refine x_astore (lv' := [(4, .ref q), (0, .ref (ga G 10 0)), (1, .int x1), (2, .int x2), (3, .ref (ga G 9000 0))]) C dL_window_13 (Nat.le_of_ble_eq_true rfl) rfl ?_
      refine x_iconst (v := 1) C dL_window_15 rfl ?_
      exact x_iret C ‹EndI Γ G Qf rmL_window Q› h (Nat.le_of_ble_eq_true rfl) (Nat.le_of_ble_eq_true rfl) dL_window_16
    · refine x_catch2 (y := ⟨0, 10, 13, 24⟩) (x := ⟨0, 10, 17, 13⟩) (suf := []) C hT (by decide) q1030 hNc (by decide) (by decide) q1029 ca_EI (fun q => ?_)
      refine x_astore (lv' := [(4, .ref q), (0, .ref (ga G 10 0)), (1, .int x1), (2, .int x2), (3, .ref (ga G 9000 0))]) C dL_window_17 (Nat.le_of_ble_eq_true rfl) rfl ?_
      refine x_iconst (v := 2) C dL_window_19 rfl ?_
      exact x_iret C ‹EndI Γ G Qf rmL_window Q› h (Nat.le_of_ble_eq_true rfl) (Nat.le_of_ble_eq_true rfl) dL_window_20
def rmL_answer : Room := { frames := 9, cells := 2, slots := 12, locals := 147 }
def pL_answer (M : Mem) (x1 : Int32) (x2 : Int32) (Q : Int32 → Mem → Prop) : Prop :=
  pX10_answer M x1 x2 (fun r M1 => ∀ M2 : Mem, M2 = up2 M1 9000 0 (tn 0) (Int32.toInt64 r) → Q 0 M2) (fun E M1 => (E = EN ∧ Q 1 M1) ∨ (E = EI ∧ Q 2 M1))
set_option maxRecDepth 100000 in
set_option maxHeartbeats 400000 in
theorem kL_answer {l : Launch} {G : Gm} (hG : Gd G) (hl0 : l.stackTraces = false) (M : Mem) (x1 : Int32) (x2 : Int32) {Q : Int32 → Mem → Prop} (h : pL_answer M x1 x2 Q) : CtL l G yL_answer cL_answer 5 [(0, 10, 13, 24), (0, 10, 17, 13)] rmL_answer [.ref (ga G 10 0), .int x1, .int x2, .ref (ga G 9000 0)] M Q := by
  refine ctL_of (own := RL) (by decide +kernel) rfl (Nat.le_of_ble_eq_true rfl) hG (fun Γ Qf hl C E hT hNc => ?_)
  subst hl
  show X Γ G Qf 5 0 0 0 [(0, .ref (ga G 10 0)), (1, .int x1), (2, .int x2), (3, .ref (ga G 9000 0))] [] M
  unfold pL_answer at h
  refine x_aload_n C dL_answer_0 3 rfl ?_
  refine x_iconst (v := 0) C dL_answer_1 rfl ?_
  refine x_aload_n C dL_answer_2 0 rfl ?_
  refine x_iload_n C dL_answer_3 1 rfl ?_
  refine x_iload_n C dL_answer_4 2 rfl ?_
  refine x_hcalli (rest := [.int 0, .ref (ga G 9000 0)]) C sv_L_76 ob10 z10 (kX10_answer hG hl0 _ _ _ h) rfl rfl (Nat.le_of_ble_eq_true rfl) ⟨Nat.le_of_ble_eq_true rfl, Nat.le_of_ble_eq_true rfl⟩ rfl rfl ⟨Nat.le_of_ble_eq_true rfl, Nat.le_of_ble_eq_true rfl⟩ dL_answer_5 (fun r M1 h => ?_) (fun E M1 h => ?_)
  · refine x_i2l C dL_answer_8 ?_
    refine as_9000 C z9000 (vp_l (by decide)) dL_answer_9 ?_
    refine X_nameM (fun M2 e2 => ?_)
    replace h := h M2 e2
    refine x_goto (tgt := 21) C dL_answer_10 (by decide) ?_
    refine x_iconst (v := 0) C dL_answer_21 rfl ?_
    exact x_iret C E h (Nat.le_of_ble_eq_true rfl) (Nat.le_of_ble_eq_true rfl) dL_answer_22
  · rcases h with ⟨rfl, h⟩ | ⟨rfl, h⟩
    · refine x_catch1 (x := ⟨0, 10, 13, 24⟩) (suf := [⟨0, 10, 17, 13⟩]) C hT (by decide) (by decide) q1030 ca_EN (fun q => ?_)
      refine x_astore (lv' := [(4, .ref q), (0, .ref (ga G 10 0)), (1, .int x1), (2, .int x2), (3, .ref (ga G 9000 0))]) C dL_answer_13 (Nat.le_of_ble_eq_true rfl) rfl ?_
      refine x_iconst (v := 1) C dL_answer_15 rfl ?_
      exact x_iret C ‹EndI Γ G Qf rmL_answer Q› h (Nat.le_of_ble_eq_true rfl) (Nat.le_of_ble_eq_true rfl) dL_answer_16
    · refine x_catch2 (y := ⟨0, 10, 13, 24⟩) (x := ⟨0, 10, 17, 13⟩) (suf := []) C hT (by decide) q1030 hNc (by decide) (by decide) q1029 ca_EI (fun q => ?_)
      refine x_astore (lv' := [(4, .ref q), (0, .ref (ga G 10 0)), (1, .int x1), (2, .int x2), (3, .ref (ga G 9000 0))]) C dL_answer_17 (Nat.le_of_ble_eq_true rfl) rfl ?_
      refine x_iconst (v := 2) C dL_answer_19 rfl ?_
      exact x_iret C ‹EndI Γ G Qf rmL_answer Q› h (Nat.le_of_ble_eq_true rfl) (Nat.le_of_ble_eq_true rfl) dL_answer_20
def rmL_place : Room := { frames := 9, cells := 1, slots := 6, locals := 144 }
def pL_place (M : Mem) (x1 : Int32) (Q : Int32 → Mem → Prop) : Prop :=
  pX10_place M x1 (fun r M1 => ∀ M2 : Mem, M2 = up2 M1 9000 0 (tn 0) (Int32.toInt64 r) → Q 0 M2) (fun E M1 => E = EN ∧ Q 1 M1)
set_option maxRecDepth 100000 in
set_option maxHeartbeats 400000 in
theorem kL_place {l : Launch} {G : Gm} (hG : Gd G) (hl0 : l.stackTraces = false) (M : Mem) (x1 : Int32) {Q : Int32 → Mem → Prop} (h : pL_place M x1 Q) : CtL l G yL_place cL_place 4 [(0, 9, 12, 24)] rmL_place [.ref (ga G 10 0), .int x1, .ref (ga G 9000 0)] M Q := by
  refine ctL_of (own := RL) (by decide +kernel) rfl (Nat.le_of_ble_eq_true rfl) hG (fun Γ Qf hl C E hT hNc => ?_)
  subst hl
  show X Γ G Qf 4 0 0 0 [(0, .ref (ga G 10 0)), (1, .int x1), (2, .ref (ga G 9000 0))] [] M
  unfold pL_place at h
  refine x_aload_n C dL_place_0 2 rfl ?_
  refine x_iconst (v := 0) C dL_place_1 rfl ?_
  refine x_aload_n C dL_place_2 0 rfl ?_
  refine x_iload_n C dL_place_3 1 rfl ?_
  refine x_hcalli (rest := [.int 0, .ref (ga G 9000 0)]) C sv_L_79 ob10 z10 (kX10_place hG hl0 _ _ h) rfl rfl (Nat.le_of_ble_eq_true rfl) ⟨Nat.le_of_ble_eq_true rfl, Nat.le_of_ble_eq_true rfl⟩ rfl rfl ⟨Nat.le_of_ble_eq_true rfl, Nat.le_of_ble_eq_true rfl⟩ dL_place_4 (fun r M1 h => ?_) (fun E M1 h => ?_)
  · refine x_i2l C dL_place_7 ?_
    refine as_9000 C z9000 (vp_l (by decide)) dL_place_8 ?_
    refine X_nameM (fun M2 e2 => ?_)
    replace h := h M2 e2
    refine x_goto (tgt := 15) C dL_place_9 (by decide) ?_
    refine x_iconst (v := 0) C dL_place_15 rfl ?_
    exact x_iret C E h (Nat.le_of_ble_eq_true rfl) (Nat.le_of_ble_eq_true rfl) dL_place_16
  · obtain ⟨rfl, h⟩ := h
    refine x_catch1 (x := ⟨0, 9, 12, 24⟩) (suf := []) C hT (by decide) (by decide) q1030 ca_EN (fun q => ?_)
    refine x_astore_n (lv' := [(3, .ref q), (0, .ref (ga G 10 0)), (1, .int x1), (2, .ref (ga G 9000 0))]) C dL_place_12 rfl (Nat.le_of_ble_eq_true rfl) rfl ?_
    refine x_iconst (v := 1) C dL_place_13 rfl ?_
    exact x_iret C ‹EndI Γ G Qf rmL_place Q› h (Nat.le_of_ble_eq_true rfl) (Nat.le_of_ble_eq_true rfl) dL_place_14
def rmL_early : Room := { frames := 9, cells := 2, slots := 12, locals := 183 }
def pL_early (M : Mem) (x1 : Int32) (x2 : Int32) (Q : Int32 → Mem → Prop) : Prop :=
  pX10_early M x1 x2 (fun r M1 => ∀ M2 : Mem, M2 = up2 M1 9000 0 (tn 0) (Int32.toInt64 r) → Q 0 M2) (fun E M1 => E = EI ∧ Q 1 M1)
set_option maxRecDepth 100000 in
set_option maxHeartbeats 400000 in
theorem kL_early {l : Launch} {G : Gm} (hG : Gd G) (hl0 : l.stackTraces = false) (M : Mem) (x1 : Int32) (x2 : Int32) {Q : Int32 → Mem → Prop} (h : pL_early M x1 x2 Q) : CtL l G yL_early cL_early 5 [(0, 10, 13, 13)] rmL_early [.ref (ga G 10 0), .int x1, .int x2, .ref (ga G 9000 0)] M Q := by
  refine ctL_of (own := RL) (by decide +kernel) rfl (Nat.le_of_ble_eq_true rfl) hG (fun Γ Qf hl C E hT hNc => ?_)
  subst hl
  show X Γ G Qf 5 0 0 0 [(0, .ref (ga G 10 0)), (1, .int x1), (2, .int x2), (3, .ref (ga G 9000 0))] [] M
  unfold pL_early at h
  refine x_aload_n C dL_early_0 3 rfl ?_
  refine x_iconst (v := 0) C dL_early_1 rfl ?_
  refine x_aload_n C dL_early_2 0 rfl ?_
  refine x_iload_n C dL_early_3 1 rfl ?_
  refine x_iload_n C dL_early_4 2 rfl ?_
  refine x_hcalli (rest := [.int 0, .ref (ga G 9000 0)]) C sv_L_82 ob10 z10 (kX10_early hG hl0 _ _ _ h) rfl rfl (Nat.le_of_ble_eq_true rfl) ⟨Nat.le_of_ble_eq_true rfl, Nat.le_of_ble_eq_true rfl⟩ rfl rfl ⟨Nat.le_of_ble_eq_true rfl, Nat.le_of_ble_eq_true rfl⟩ dL_early_5 (fun r M1 h => ?_) (fun E M1 h => ?_)
  · refine x_i2l C dL_early_8 ?_
    refine as_9000 C z9000 (vp_l (by decide)) dL_early_9 ?_
    refine X_nameM (fun M2 e2 => ?_)
    replace h := h M2 e2
    refine x_goto (tgt := 17) C dL_early_10 (by decide) ?_
    refine x_iconst (v := 0) C dL_early_17 rfl ?_
    exact x_iret C E h (Nat.le_of_ble_eq_true rfl) (Nat.le_of_ble_eq_true rfl) dL_early_18
  · obtain ⟨rfl, h⟩ := h
    refine x_catch1 (x := ⟨0, 10, 13, 13⟩) (suf := []) C hT (by decide) (by decide) q1029 ca_EI (fun q => ?_)
    refine x_astore (lv' := [(4, .ref q), (0, .ref (ga G 10 0)), (1, .int x1), (2, .int x2), (3, .ref (ga G 9000 0))]) C dL_early_13 (Nat.le_of_ble_eq_true rfl) rfl ?_
    refine x_iconst (v := 1) C dL_early_15 rfl ?_
    exact x_iret C ‹EndI Γ G Qf rmL_early Q› h (Nat.le_of_ble_eq_true rfl) (Nat.le_of_ble_eq_true rfl) dL_early_16
def rmL_best : Room := { frames := 9, cells := 1, slots := 6, locals := 183 }
def pL_best (M : Mem) (x1 : Int32) (x2 : Int32) (Q : Int32 → Mem → Prop) : Prop :=
  pX10_best M x1 x2 (fun r M1 => ∀ M2 : Mem, M2 = up2 M1 9000 0 (tn 0) (Int32.toInt64 r) → Q 0 M2) (fun E M1 => E = EI ∧ Q 1 M1)
set_option maxRecDepth 100000 in
set_option maxHeartbeats 400000 in
theorem kL_best {l : Launch} {G : Gm} (hG : Gd G) (hl0 : l.stackTraces = false) (M : Mem) (x1 : Int32) (x2 : Int32) {Q : Int32 → Mem → Prop} (h : pL_best M x1 x2 Q) : CtL l G yL_best cL_best 5 [(0, 10, 13, 13)] rmL_best [.ref (ga G 10 0), .int x1, .int x2, .ref (ga G 9000 0)] M Q := by
  refine ctL_of (own := RL) (by decide +kernel) rfl (Nat.le_of_ble_eq_true rfl) hG (fun Γ Qf hl C E hT hNc => ?_)
  subst hl
  show X Γ G Qf 5 0 0 0 [(0, .ref (ga G 10 0)), (1, .int x1), (2, .int x2), (3, .ref (ga G 9000 0))] [] M
  unfold pL_best at h
  refine x_aload_n C dL_best_0 3 rfl ?_
  refine x_iconst (v := 0) C dL_best_1 rfl ?_
  refine x_aload_n C dL_best_2 0 rfl ?_
  refine x_iload_n C dL_best_3 1 rfl ?_
  refine x_iload_n C dL_best_4 2 rfl ?_
  refine x_hcalli (rest := [.int 0, .ref (ga G 9000 0)]) C sv_L_85 ob10 z10 (kX10_best hG hl0 _ _ _ h) rfl rfl (Nat.le_of_ble_eq_true rfl) ⟨Nat.le_of_ble_eq_true rfl, Nat.le_of_ble_eq_true rfl⟩ rfl rfl ⟨Nat.le_of_ble_eq_true rfl, Nat.le_of_ble_eq_true rfl⟩ dL_best_5 (fun r M1 h => ?_) (fun E M1 h => ?_)
  · refine x_i2l C dL_best_8 ?_
    refine as_9000 C z9000 (vp_l (by decide)) dL_best_9 ?_
    refine X_nameM (fun M2 e2 => ?_)
    replace h := h M2 e2
    refine x_goto (tgt := 17) C dL_best_10 (by decide) ?_
    refine x_iconst (v := 0) C dL_best_17 rfl ?_
    exact x_iret C E h (Nat.le_of_ble_eq_true rfl) (Nat.le_of_ble_eq_true rfl) dL_best_18
  · obtain ⟨rfl, h⟩ := h
    refine x_catch1 (x := ⟨0, 10, 13, 13⟩) (suf := []) C hT (by decide) (by decide) q1029 ca_EI (fun q => ?_)
    refine x_astore (lv' := [(4, .ref q), (0, .ref (ga G 10 0)), (1, .int x1), (2, .int x2), (3, .ref (ga G 9000 0))]) C dL_best_13 (Nat.le_of_ble_eq_true rfl) rfl ?_
    refine x_iconst (v := 1) C dL_best_15 rfl ?_
    exact x_iret C ‹EndI Γ G Qf rmL_best Q› h (Nat.le_of_ble_eq_true rfl) (Nat.le_of_ble_eq_true rfl) dL_best_16
def rmL_opened : Room := { frames := 11, cells := 4, slots := 24, locals := 190 }
def pL_opened (M : Mem) (x1 : Int32) (x2 : Int32) (x3 : Int32) (Q : Int32 → Mem → Prop) : Prop :=
  pX10_opened M x1 x2 x3 (fun r M1 => ∀ M2 : Mem, M2 = up2 M1 9000 0 (tn 0) (Int32.toInt64 r) → Q 0 M2) (fun E M1 => (E = EN ∧ Q 1 M1) ∨ (E = EI ∧ Q 2 M1))
set_option maxRecDepth 100000 in
set_option maxHeartbeats 400000 in
theorem kL_opened {l : Launch} {G : Gm} (hG : Gd G) (hl0 : l.stackTraces = false) (M : Mem) (x1 : Int32) (x2 : Int32) (x3 : Int32) {Q : Int32 → Mem → Prop} (h : pL_opened M x1 x2 x3 Q) : CtL l G yL_opened cL_opened 6 [(0, 12, 15, 24), (0, 12, 19, 13)] rmL_opened [.ref (ga G 10 0), .int x1, .int x2, .int x3, .ref (ga G 9000 0)] M Q := by
  refine ctL_of (own := RL) (by decide +kernel) rfl (Nat.le_of_ble_eq_true rfl) hG (fun Γ Qf hl C E hT hNc => ?_)
  subst hl
  show X Γ G Qf 6 0 0 0 [(0, .ref (ga G 10 0)), (1, .int x1), (2, .int x2), (3, .int x3), (4, .ref (ga G 9000 0))] [] M
  unfold pL_opened at h
  refine x_aload C dL_opened_0 4 rfl ?_
  refine x_iconst (v := 0) C dL_opened_2 rfl ?_
  refine x_aload_n C dL_opened_3 0 rfl ?_
  refine x_iload_n C dL_opened_4 1 rfl ?_
  refine x_iload_n C dL_opened_5 2 rfl ?_
  refine x_iload_n C dL_opened_6 3 rfl ?_
  refine x_hcalli (rest := [.int 0, .ref (ga G 9000 0)]) C sv_L_88 ob10 z10 (kX10_opened hG hl0 _ _ _ _ h) rfl rfl (Nat.le_of_ble_eq_true rfl) ⟨Nat.le_of_ble_eq_true rfl, Nat.le_of_ble_eq_true rfl⟩ rfl rfl ⟨Nat.le_of_ble_eq_true rfl, Nat.le_of_ble_eq_true rfl⟩ dL_opened_7 (fun r M1 h => ?_) (fun E M1 h => ?_)
  · refine x_i2l C dL_opened_10 ?_
    refine as_9000 C z9000 (vp_l (by decide)) dL_opened_11 ?_
    refine X_nameM (fun M2 e2 => ?_)
    replace h := h M2 e2
    refine x_goto (tgt := 23) C dL_opened_12 (by decide) ?_
    refine x_iconst (v := 0) C dL_opened_23 rfl ?_
    exact x_iret C E h (Nat.le_of_ble_eq_true rfl) (Nat.le_of_ble_eq_true rfl) dL_opened_24
  · rcases h with ⟨rfl, h⟩ | ⟨rfl, h⟩
    · refine x_catch1 (x := ⟨0, 12, 15, 24⟩) (suf := [⟨0, 12, 19, 13⟩]) C hT (by decide) (by decide) q1030 ca_EN (fun q => ?_)
      refine x_astore (lv' := [(5, .ref q), (0, .ref (ga G 10 0)), (1, .int x1), (2, .int x2), (3, .int x3), (4, .ref (ga G 9000 0))]) C dL_opened_15 (Nat.le_of_ble_eq_true rfl) rfl ?_
      refine x_iconst (v := 1) C dL_opened_17 rfl ?_
      exact x_iret C ‹EndI Γ G Qf rmL_opened Q› h (Nat.le_of_ble_eq_true rfl) (Nat.le_of_ble_eq_true rfl) dL_opened_18
    · refine x_catch2 (y := ⟨0, 12, 15, 24⟩) (x := ⟨0, 12, 19, 13⟩) (suf := []) C hT (by decide) q1030 hNc (by decide) (by decide) q1029 ca_EI (fun q => ?_)
      refine x_astore (lv' := [(5, .ref q), (0, .ref (ga G 10 0)), (1, .int x1), (2, .int x2), (3, .int x3), (4, .ref (ga G 9000 0))]) C dL_opened_19 (Nat.le_of_ble_eq_true rfl) rfl ?_
      refine x_iconst (v := 2) C dL_opened_21 rfl ?_
      exact x_iret C ‹EndI Γ G Qf rmL_opened Q› h (Nat.le_of_ble_eq_true rfl) (Nat.le_of_ble_eq_true rfl) dL_opened_22
def rmL_inside : Room := { frames := 10, cells := 2, slots := 12, locals := 172 }
def pL_inside (M : Mem) (x1 : Int32) (x2 : Int32) (Q : Int32 → Mem → Prop) : Prop :=
  pX10_inside M x1 x2 (fun r M1 => ∀ M2 : Mem, M2 = up2 M1 9000 0 (tn 0) (Int32.toInt64 r) → Q 0 M2) (fun E M1 => E = EN ∧ Q 1 M1)
set_option maxRecDepth 100000 in
set_option maxHeartbeats 400000 in
theorem kL_inside {l : Launch} {G : Gm} (hG : Gd G) (hl0 : l.stackTraces = false) (M : Mem) (x1 : Int32) (x2 : Int32) {Q : Int32 → Mem → Prop} (h : pL_inside M x1 x2 Q) : CtL l G yL_inside cL_inside 5 [(0, 10, 13, 24)] rmL_inside [.ref (ga G 10 0), .int x1, .int x2, .ref (ga G 9000 0)] M Q := by
  refine ctL_of (own := RL) (by decide +kernel) rfl (Nat.le_of_ble_eq_true rfl) hG (fun Γ Qf hl C E hT hNc => ?_)
  subst hl
  show X Γ G Qf 5 0 0 0 [(0, .ref (ga G 10 0)), (1, .int x1), (2, .int x2), (3, .ref (ga G 9000 0))] [] M
  unfold pL_inside at h
  refine x_aload_n C dL_inside_0 3 rfl ?_
  refine x_iconst (v := 0) C dL_inside_1 rfl ?_
  refine x_aload_n C dL_inside_2 0 rfl ?_
  refine x_iload_n C dL_inside_3 1 rfl ?_
  refine x_iload_n C dL_inside_4 2 rfl ?_
  refine x_hcalli (rest := [.int 0, .ref (ga G 9000 0)]) C sv_L_91 ob10 z10 (kX10_inside hG hl0 _ _ _ h) rfl rfl (Nat.le_of_ble_eq_true rfl) ⟨Nat.le_of_ble_eq_true rfl, Nat.le_of_ble_eq_true rfl⟩ rfl rfl ⟨Nat.le_of_ble_eq_true rfl, Nat.le_of_ble_eq_true rfl⟩ dL_inside_5 (fun r M1 h => ?_) (fun E M1 h => ?_)
  · refine x_i2l C dL_inside_8 ?_
    refine as_9000 C z9000 (vp_l (by decide)) dL_inside_9 ?_
    refine X_nameM (fun M2 e2 => ?_)
    replace h := h M2 e2
    refine x_goto (tgt := 17) C dL_inside_10 (by decide) ?_
    refine x_iconst (v := 0) C dL_inside_17 rfl ?_
    exact x_iret C E h (Nat.le_of_ble_eq_true rfl) (Nat.le_of_ble_eq_true rfl) dL_inside_18
  · obtain ⟨rfl, h⟩ := h
    refine x_catch1 (x := ⟨0, 10, 13, 24⟩) (suf := []) C hT (by decide) (by decide) q1030 ca_EN (fun q => ?_)
    refine x_astore (lv' := [(4, .ref q), (0, .ref (ga G 10 0)), (1, .int x1), (2, .int x2), (3, .ref (ga G 9000 0))]) C dL_inside_13 (Nat.le_of_ble_eq_true rfl) rfl ?_
    refine x_iconst (v := 1) C dL_inside_15 rfl ?_
    exact x_iret C ‹EndI Γ G Qf rmL_inside Q› h (Nat.le_of_ble_eq_true rfl) (Nat.le_of_ble_eq_true rfl) dL_inside_16
def rmL_bits : Room := { frames := 10, cells := 1, slots := 6, locals := 167 }
def pL_bits (M : Mem) (x1 : Int32) (Q : Int32 → Mem → Prop) : Prop :=
  pX10_bits M x1 (fun r M1 => ∀ M2 : Mem, M2 = up2 M1 9000 0 (tn 0) (Int32.toInt64 r) → Q 0 M2) (fun E M1 => E = EI ∧ Q 1 M1)
set_option maxRecDepth 100000 in
set_option maxHeartbeats 400000 in
theorem kL_bits {l : Launch} {G : Gm} (hG : Gd G) (hl0 : l.stackTraces = false) (M : Mem) (x1 : Int32) {Q : Int32 → Mem → Prop} (h : pL_bits M x1 Q) : CtL l G yL_bits cL_bits 4 [(0, 9, 12, 13)] rmL_bits [.ref (ga G 10 0), .int x1, .ref (ga G 9000 0)] M Q := by
  refine ctL_of (own := RL) (by decide +kernel) rfl (Nat.le_of_ble_eq_true rfl) hG (fun Γ Qf hl C E hT hNc => ?_)
  subst hl
  show X Γ G Qf 4 0 0 0 [(0, .ref (ga G 10 0)), (1, .int x1), (2, .ref (ga G 9000 0))] [] M
  unfold pL_bits at h
  refine x_aload_n C dL_bits_0 2 rfl ?_
  refine x_iconst (v := 0) C dL_bits_1 rfl ?_
  refine x_aload_n C dL_bits_2 0 rfl ?_
  refine x_iload_n C dL_bits_3 1 rfl ?_
  refine x_hcalli (rest := [.int 0, .ref (ga G 9000 0)]) C sv_L_94 ob10 z10 (kX10_bits hG hl0 _ _ h) rfl rfl (Nat.le_of_ble_eq_true rfl) ⟨Nat.le_of_ble_eq_true rfl, Nat.le_of_ble_eq_true rfl⟩ rfl rfl ⟨Nat.le_of_ble_eq_true rfl, Nat.le_of_ble_eq_true rfl⟩ dL_bits_4 (fun r M1 h => ?_) (fun E M1 h => ?_)
  · refine x_i2l C dL_bits_7 ?_
    refine as_9000 C z9000 (vp_l (by decide)) dL_bits_8 ?_
    refine X_nameM (fun M2 e2 => ?_)
    replace h := h M2 e2
    refine x_goto (tgt := 15) C dL_bits_9 (by decide) ?_
    refine x_iconst (v := 0) C dL_bits_15 rfl ?_
    exact x_iret C E h (Nat.le_of_ble_eq_true rfl) (Nat.le_of_ble_eq_true rfl) dL_bits_16
  · obtain ⟨rfl, h⟩ := h
    refine x_catch1 (x := ⟨0, 9, 12, 13⟩) (suf := []) C hT (by decide) (by decide) q1029 ca_EI (fun q => ?_)
    refine x_astore_n (lv' := [(3, .ref q), (0, .ref (ga G 10 0)), (1, .int x1), (2, .ref (ga G 9000 0))]) C dL_bits_12 rfl (Nat.le_of_ble_eq_true rfl) rfl ?_
    refine x_iconst (v := 1) C dL_bits_13 rfl ?_
    exact x_iret C ‹EndI Γ G Qf rmL_bits Q› h (Nat.le_of_ble_eq_true rfl) (Nat.le_of_ble_eq_true rfl) dL_bits_14
def rmL_swift : Room := { frames := 9, cells := 2, slots := 12, locals := 209 }
def pL_swift (M : Mem) (x1 : Int32) (x2 : Int32) (Q : Int32 → Mem → Prop) : Prop :=
  pX10_swift M x1 x2 (fun r M1 => ∀ M2 : Mem, M2 = up2 M1 9000 0 (tn 0) (Int32.toInt64 r) → Q 0 M2) (fun E M1 => E = EI ∧ Q 1 M1)
set_option maxRecDepth 100000 in
set_option maxHeartbeats 400000 in
theorem kL_swift {l : Launch} {G : Gm} (hG : Gd G) (hl0 : l.stackTraces = false) (M : Mem) (x1 : Int32) (x2 : Int32) {Q : Int32 → Mem → Prop} (h : pL_swift M x1 x2 Q) : CtL l G yL_swift cL_swift 5 [(0, 10, 13, 13)] rmL_swift [.ref (ga G 10 0), .int x1, .int x2, .ref (ga G 9000 0)] M Q := by
  refine ctL_of (own := RL) (by decide +kernel) rfl (Nat.le_of_ble_eq_true rfl) hG (fun Γ Qf hl C E hT hNc => ?_)
  subst hl
  show X Γ G Qf 5 0 0 0 [(0, .ref (ga G 10 0)), (1, .int x1), (2, .int x2), (3, .ref (ga G 9000 0))] [] M
  unfold pL_swift at h
  refine x_aload_n C dL_swift_0 3 rfl ?_
  refine x_iconst (v := 0) C dL_swift_1 rfl ?_
  refine x_aload_n C dL_swift_2 0 rfl ?_
  refine x_iload_n C dL_swift_3 1 rfl ?_
  refine x_iload_n C dL_swift_4 2 rfl ?_
  refine x_hcalli (rest := [.int 0, .ref (ga G 9000 0)]) C sv_L_97 ob10 z10 (kX10_swift hG hl0 _ _ _ h) rfl rfl (Nat.le_of_ble_eq_true rfl) ⟨Nat.le_of_ble_eq_true rfl, Nat.le_of_ble_eq_true rfl⟩ rfl rfl ⟨Nat.le_of_ble_eq_true rfl, Nat.le_of_ble_eq_true rfl⟩ dL_swift_5 (fun r M1 h => ?_) (fun E M1 h => ?_)
  · refine x_i2l C dL_swift_8 ?_
    refine as_9000 C z9000 (vp_l (by decide)) dL_swift_9 ?_
    refine X_nameM (fun M2 e2 => ?_)
    replace h := h M2 e2
    refine x_goto (tgt := 17) C dL_swift_10 (by decide) ?_
    refine x_iconst (v := 0) C dL_swift_17 rfl ?_
    exact x_iret C E h (Nat.le_of_ble_eq_true rfl) (Nat.le_of_ble_eq_true rfl) dL_swift_18
  · obtain ⟨rfl, h⟩ := h
    refine x_catch1 (x := ⟨0, 10, 13, 13⟩) (suf := []) C hT (by decide) (by decide) q1029 ca_EI (fun q => ?_)
    refine x_astore (lv' := [(4, .ref q), (0, .ref (ga G 10 0)), (1, .int x1), (2, .int x2), (3, .ref (ga G 9000 0))]) C dL_swift_13 (Nat.le_of_ble_eq_true rfl) rfl ?_
    refine x_iconst (v := 1) C dL_swift_15 rfl ?_
    exact x_iret C ‹EndI Γ G Qf rmL_swift Q› h (Nat.le_of_ble_eq_true rfl) (Nat.le_of_ble_eq_true rfl) dL_swift_16
def rmL_blockOf : Room := { frames := 9, cells := 2, slots := 12, locals := 147 }
def pL_blockOf (M : Mem) (x1 : Int32) (x2 : Int32) (Q : Int32 → Mem → Prop) : Prop :=
  pX10_blockOf M x1 x2 (fun r M1 => ∀ M2 : Mem, M2 = up2 M1 9000 0 (tn 0) (Int32.toInt64 r) → Q 0 M2) (fun E M1 => E = EN ∧ Q 1 M1)
set_option maxRecDepth 100000 in
set_option maxHeartbeats 400000 in
theorem kL_blockOf {l : Launch} {G : Gm} (hG : Gd G) (hl0 : l.stackTraces = false) (M : Mem) (x1 : Int32) (x2 : Int32) {Q : Int32 → Mem → Prop} (h : pL_blockOf M x1 x2 Q) : CtL l G yL_blockOf cL_blockOf 5 [(0, 10, 13, 24)] rmL_blockOf [.ref (ga G 10 0), .int x1, .int x2, .ref (ga G 9000 0)] M Q := by
  refine ctL_of (own := RL) (by decide +kernel) rfl (Nat.le_of_ble_eq_true rfl) hG (fun Γ Qf hl C E hT hNc => ?_)
  subst hl
  show X Γ G Qf 5 0 0 0 [(0, .ref (ga G 10 0)), (1, .int x1), (2, .int x2), (3, .ref (ga G 9000 0))] [] M
  unfold pL_blockOf at h
  refine x_aload_n C dL_blockOf_0 3 rfl ?_
  refine x_iconst (v := 0) C dL_blockOf_1 rfl ?_
  refine x_aload_n C dL_blockOf_2 0 rfl ?_
  refine x_iload_n C dL_blockOf_3 1 rfl ?_
  refine x_iload_n C dL_blockOf_4 2 rfl ?_
  refine x_hcalli (rest := [.int 0, .ref (ga G 9000 0)]) C sv_L_100 ob10 z10 (kX10_blockOf hG hl0 _ _ _ h) rfl rfl (Nat.le_of_ble_eq_true rfl) ⟨Nat.le_of_ble_eq_true rfl, Nat.le_of_ble_eq_true rfl⟩ rfl rfl ⟨Nat.le_of_ble_eq_true rfl, Nat.le_of_ble_eq_true rfl⟩ dL_blockOf_5 (fun r M1 h => ?_) (fun E M1 h => ?_)
  · refine x_i2l C dL_blockOf_8 ?_
    refine as_9000 C z9000 (vp_l (by decide)) dL_blockOf_9 ?_
    refine X_nameM (fun M2 e2 => ?_)
    replace h := h M2 e2
    refine x_goto (tgt := 17) C dL_blockOf_10 (by decide) ?_
    refine x_iconst (v := 0) C dL_blockOf_17 rfl ?_
    exact x_iret C E h (Nat.le_of_ble_eq_true rfl) (Nat.le_of_ble_eq_true rfl) dL_blockOf_18
  · obtain ⟨rfl, h⟩ := h
    refine x_catch1 (x := ⟨0, 10, 13, 24⟩) (suf := []) C hT (by decide) (by decide) q1030 ca_EN (fun q => ?_)
    refine x_astore (lv' := [(4, .ref q), (0, .ref (ga G 10 0)), (1, .int x1), (2, .int x2), (3, .ref (ga G 9000 0))]) C dL_blockOf_13 (Nat.le_of_ble_eq_true rfl) rfl ?_
    refine x_iconst (v := 1) C dL_blockOf_15 rfl ?_
    exact x_iret C ‹EndI Γ G Qf rmL_blockOf Q› h (Nat.le_of_ble_eq_true rfl) (Nat.le_of_ble_eq_true rfl) dL_blockOf_16
def rmL_spread : Room := { frames := 9, cells := 1, slots := 6, locals := 148 }
def pL_spread (M : Mem) (x1 : Int32) (Q : Int32 → Mem → Prop) : Prop :=
  pX10_spread M x1 (fun r M1 => ∀ M2 : Mem, M2 = up2 M1 9000 0 (tn 0) (Int32.toInt64 r) → Q 0 M2) (fun E M1 => E = EI ∧ Q 1 M1)
set_option maxRecDepth 100000 in
set_option maxHeartbeats 400000 in
theorem kL_spread {l : Launch} {G : Gm} (hG : Gd G) (hl0 : l.stackTraces = false) (M : Mem) (x1 : Int32) {Q : Int32 → Mem → Prop} (h : pL_spread M x1 Q) : CtL l G yL_spread cL_spread 4 [(0, 9, 12, 13)] rmL_spread [.ref (ga G 10 0), .int x1, .ref (ga G 9000 0)] M Q := by
  refine ctL_of (own := RL) (by decide +kernel) rfl (Nat.le_of_ble_eq_true rfl) hG (fun Γ Qf hl C E hT hNc => ?_)
  subst hl
  show X Γ G Qf 4 0 0 0 [(0, .ref (ga G 10 0)), (1, .int x1), (2, .ref (ga G 9000 0))] [] M
  unfold pL_spread at h
  refine x_aload_n C dL_spread_0 2 rfl ?_
  refine x_iconst (v := 0) C dL_spread_1 rfl ?_
  refine x_aload_n C dL_spread_2 0 rfl ?_
  refine x_iload_n C dL_spread_3 1 rfl ?_
  refine x_hcalli (rest := [.int 0, .ref (ga G 9000 0)]) C sv_L_103 ob10 z10 (kX10_spread hG hl0 _ _ h) rfl rfl (Nat.le_of_ble_eq_true rfl) ⟨Nat.le_of_ble_eq_true rfl, Nat.le_of_ble_eq_true rfl⟩ rfl rfl ⟨Nat.le_of_ble_eq_true rfl, Nat.le_of_ble_eq_true rfl⟩ dL_spread_4 (fun r M1 h => ?_) (fun E M1 h => ?_)
  · refine x_i2l C dL_spread_7 ?_
    refine as_9000 C z9000 (vp_l (by decide)) dL_spread_8 ?_
    refine X_nameM (fun M2 e2 => ?_)
    replace h := h M2 e2
    refine x_goto (tgt := 15) C dL_spread_9 (by decide) ?_
    refine x_iconst (v := 0) C dL_spread_15 rfl ?_
    exact x_iret C E h (Nat.le_of_ble_eq_true rfl) (Nat.le_of_ble_eq_true rfl) dL_spread_16
  · obtain ⟨rfl, h⟩ := h
    refine x_catch1 (x := ⟨0, 9, 12, 13⟩) (suf := []) C hT (by decide) (by decide) q1029 ca_EI (fun q => ?_)
    refine x_astore_n (lv' := [(3, .ref q), (0, .ref (ga G 10 0)), (1, .int x1), (2, .ref (ga G 9000 0))]) C dL_spread_12 rfl (Nat.le_of_ble_eq_true rfl) rfl ?_
    refine x_iconst (v := 1) C dL_spread_13 rfl ?_
    exact x_iret C ‹EndI Γ G Qf rmL_spread Q› h (Nat.le_of_ble_eq_true rfl) (Nat.le_of_ble_eq_true rfl) dL_spread_14
def rmL_nearest : Room := { frames := 9, cells := 1, slots := 6, locals := 148 }
def pL_nearest (M : Mem) (x1 : Int32) (Q : Int32 → Mem → Prop) : Prop :=
  pX10_nearest M x1 (fun r M1 => ∀ M2 : Mem, M2 = up2 M1 9000 0 (tn 0) (Int32.toInt64 r) → Q 0 M2) (fun E M1 => E = EN ∧ Q 1 M1)
set_option maxRecDepth 100000 in
set_option maxHeartbeats 400000 in
theorem kL_nearest {l : Launch} {G : Gm} (hG : Gd G) (hl0 : l.stackTraces = false) (M : Mem) (x1 : Int32) {Q : Int32 → Mem → Prop} (h : pL_nearest M x1 Q) : CtL l G yL_nearest cL_nearest 4 [(0, 9, 12, 24)] rmL_nearest [.ref (ga G 10 0), .int x1, .ref (ga G 9000 0)] M Q := by
  refine ctL_of (own := RL) (by decide +kernel) rfl (Nat.le_of_ble_eq_true rfl) hG (fun Γ Qf hl C E hT hNc => ?_)
  subst hl
  show X Γ G Qf 4 0 0 0 [(0, .ref (ga G 10 0)), (1, .int x1), (2, .ref (ga G 9000 0))] [] M
  unfold pL_nearest at h
  refine x_aload_n C dL_nearest_0 2 rfl ?_
  refine x_iconst (v := 0) C dL_nearest_1 rfl ?_
  refine x_aload_n C dL_nearest_2 0 rfl ?_
  refine x_iload_n C dL_nearest_3 1 rfl ?_
  refine x_hcalli (rest := [.int 0, .ref (ga G 9000 0)]) C sv_L_106 ob10 z10 (kX10_nearest hG hl0 _ _ h) rfl rfl (Nat.le_of_ble_eq_true rfl) ⟨Nat.le_of_ble_eq_true rfl, Nat.le_of_ble_eq_true rfl⟩ rfl rfl ⟨Nat.le_of_ble_eq_true rfl, Nat.le_of_ble_eq_true rfl⟩ dL_nearest_4 (fun r M1 h => ?_) (fun E M1 h => ?_)
  · refine x_i2l C dL_nearest_7 ?_
    refine as_9000 C z9000 (vp_l (by decide)) dL_nearest_8 ?_
    refine X_nameM (fun M2 e2 => ?_)
    replace h := h M2 e2
    refine x_goto (tgt := 15) C dL_nearest_9 (by decide) ?_
    refine x_iconst (v := 0) C dL_nearest_15 rfl ?_
    exact x_iret C E h (Nat.le_of_ble_eq_true rfl) (Nat.le_of_ble_eq_true rfl) dL_nearest_16
  · obtain ⟨rfl, h⟩ := h
    refine x_catch1 (x := ⟨0, 9, 12, 24⟩) (suf := []) C hT (by decide) (by decide) q1030 ca_EN (fun q => ?_)
    refine x_astore_n (lv' := [(3, .ref q), (0, .ref (ga G 10 0)), (1, .int x1), (2, .ref (ga G 9000 0))]) C dL_nearest_12 rfl (Nat.le_of_ble_eq_true rfl) rfl ?_
    refine x_iconst (v := 1) C dL_nearest_13 rfl ?_
    exact x_iret C ‹EndI Γ G Qf rmL_nearest Q› h (Nat.le_of_ble_eq_true rfl) (Nat.le_of_ble_eq_true rfl) dL_nearest_14
def rmL_rarest : Room := { frames := 9, cells := 1, slots := 6, locals := 150 }
def pL_rarest (M : Mem) (x1 : Int32) (Q : Int32 → Mem → Prop) : Prop :=
  pX10_rarest M x1 (fun r M1 => ∀ M2 : Mem, M2 = up2 M1 9000 0 (tn 0) (Int32.toInt64 r) → Q 0 M2) (fun E M1 => E = EN ∧ Q 1 M1)
set_option maxRecDepth 100000 in
set_option maxHeartbeats 400000 in
theorem kL_rarest {l : Launch} {G : Gm} (hG : Gd G) (hl0 : l.stackTraces = false) (M : Mem) (x1 : Int32) {Q : Int32 → Mem → Prop} (h : pL_rarest M x1 Q) : CtL l G yL_rarest cL_rarest 4 [(0, 9, 12, 24)] rmL_rarest [.ref (ga G 10 0), .int x1, .ref (ga G 9000 0)] M Q := by
  refine ctL_of (own := RL) (by decide +kernel) rfl (Nat.le_of_ble_eq_true rfl) hG (fun Γ Qf hl C E hT hNc => ?_)
  subst hl
  show X Γ G Qf 4 0 0 0 [(0, .ref (ga G 10 0)), (1, .int x1), (2, .ref (ga G 9000 0))] [] M
  unfold pL_rarest at h
  refine x_aload_n C dL_rarest_0 2 rfl ?_
  refine x_iconst (v := 0) C dL_rarest_1 rfl ?_
  refine x_aload_n C dL_rarest_2 0 rfl ?_
  refine x_iload_n C dL_rarest_3 1 rfl ?_
  refine x_hcalli (rest := [.int 0, .ref (ga G 9000 0)]) C sv_L_109 ob10 z10 (kX10_rarest hG hl0 _ _ h) rfl rfl (Nat.le_of_ble_eq_true rfl) ⟨Nat.le_of_ble_eq_true rfl, Nat.le_of_ble_eq_true rfl⟩ rfl rfl ⟨Nat.le_of_ble_eq_true rfl, Nat.le_of_ble_eq_true rfl⟩ dL_rarest_4 (fun r M1 h => ?_) (fun E M1 h => ?_)
  · refine x_i2l C dL_rarest_7 ?_
    refine as_9000 C z9000 (vp_l (by decide)) dL_rarest_8 ?_
    refine X_nameM (fun M2 e2 => ?_)
    replace h := h M2 e2
    refine x_goto (tgt := 15) C dL_rarest_9 (by decide) ?_
    refine x_iconst (v := 0) C dL_rarest_15 rfl ?_
    exact x_iret C E h (Nat.le_of_ble_eq_true rfl) (Nat.le_of_ble_eq_true rfl) dL_rarest_16
  · obtain ⟨rfl, h⟩ := h
    refine x_catch1 (x := ⟨0, 9, 12, 24⟩) (suf := []) C hT (by decide) (by decide) q1030 ca_EN (fun q => ?_)
    refine x_astore_n (lv' := [(3, .ref q), (0, .ref (ga G 10 0)), (1, .int x1), (2, .ref (ga G 9000 0))]) C dL_rarest_12 rfl (Nat.le_of_ble_eq_true rfl) rfl ?_
    refine x_iconst (v := 1) C dL_rarest_13 rfl ?_
    exact x_iret C ‹EndI Γ G Qf rmL_rarest Q› h (Nat.le_of_ble_eq_true rfl) (Nat.le_of_ble_eq_true rfl) dL_rarest_14
def rmL_points : Room := { frames := 9, cells := 1, slots := 6, locals := 145 }
def pL_points (M : Mem) (x1 : Int32) (x2 : Int32) (Q : Int32 → Mem → Prop) : Prop :=
  pX10_points M x1 x2 (fun r M1 => ∀ M2 : Mem, M2 = up2 M1 9000 0 (tn 0) (Int32.toInt64 r) → Q 0 M2) (fun E M1 => E = EN ∧ Q 1 M1)
set_option maxRecDepth 100000 in
set_option maxHeartbeats 400000 in
theorem kL_points {l : Launch} {G : Gm} (hG : Gd G) (hl0 : l.stackTraces = false) (M : Mem) (x1 : Int32) (x2 : Int32) {Q : Int32 → Mem → Prop} (h : pL_points M x1 x2 Q) : CtL l G yL_points cL_points 5 [(0, 10, 13, 24)] rmL_points [.ref (ga G 10 0), .int x1, .int x2, .ref (ga G 9000 0)] M Q := by
  refine ctL_of (own := RL) (by decide +kernel) rfl (Nat.le_of_ble_eq_true rfl) hG (fun Γ Qf hl C E hT hNc => ?_)
  subst hl
  show X Γ G Qf 5 0 0 0 [(0, .ref (ga G 10 0)), (1, .int x1), (2, .int x2), (3, .ref (ga G 9000 0))] [] M
  unfold pL_points at h
  refine x_aload_n C dL_points_0 3 rfl ?_
  refine x_iconst (v := 0) C dL_points_1 rfl ?_
  refine x_aload_n C dL_points_2 0 rfl ?_
  refine x_iload_n C dL_points_3 1 rfl ?_
  refine x_iload_n C dL_points_4 2 rfl ?_
  refine x_hcalli (rest := [.int 0, .ref (ga G 9000 0)]) C sv_L_112 ob10 z10 (kX10_points hG hl0 _ _ _ h) rfl rfl (Nat.le_of_ble_eq_true rfl) ⟨Nat.le_of_ble_eq_true rfl, Nat.le_of_ble_eq_true rfl⟩ rfl rfl ⟨Nat.le_of_ble_eq_true rfl, Nat.le_of_ble_eq_true rfl⟩ dL_points_5 (fun r M1 h => ?_) (fun E M1 h => ?_)
  · refine x_i2l C dL_points_8 ?_
    refine as_9000 C z9000 (vp_l (by decide)) dL_points_9 ?_
    refine X_nameM (fun M2 e2 => ?_)
    replace h := h M2 e2
    refine x_goto (tgt := 17) C dL_points_10 (by decide) ?_
    refine x_iconst (v := 0) C dL_points_17 rfl ?_
    exact x_iret C E h (Nat.le_of_ble_eq_true rfl) (Nat.le_of_ble_eq_true rfl) dL_points_18
  · obtain ⟨rfl, h⟩ := h
    refine x_catch1 (x := ⟨0, 10, 13, 24⟩) (suf := []) C hT (by decide) (by decide) q1030 ca_EN (fun q => ?_)
    refine x_astore (lv' := [(4, .ref q), (0, .ref (ga G 10 0)), (1, .int x1), (2, .int x2), (3, .ref (ga G 9000 0))]) C dL_points_13 (Nat.le_of_ble_eq_true rfl) rfl ?_
    refine x_iconst (v := 1) C dL_points_15 rfl ?_
    exact x_iret C ‹EndI Γ G Qf rmL_points Q› h (Nat.le_of_ble_eq_true rfl) (Nat.le_of_ble_eq_true rfl) dL_points_16
def rmL_phrase : Room := { frames := 9, cells := 1, slots := 6, locals := 145 }
def pL_phrase (M : Mem) (x1 : Int32) (x2 : Int32) (Q : Int32 → Mem → Prop) : Prop :=
  pX10_phrase M x1 x2 (fun r M1 => ∀ M2 : Mem, M2 = up2 M1 9000 0 (tn 0) (Int32.toInt64 r) → Q 0 M2) (fun E M1 => E = EN ∧ Q 1 M1)
set_option maxRecDepth 100000 in
set_option maxHeartbeats 400000 in
theorem kL_phrase {l : Launch} {G : Gm} (hG : Gd G) (hl0 : l.stackTraces = false) (M : Mem) (x1 : Int32) (x2 : Int32) {Q : Int32 → Mem → Prop} (h : pL_phrase M x1 x2 Q) : CtL l G yL_phrase cL_phrase 5 [(0, 10, 13, 24)] rmL_phrase [.ref (ga G 10 0), .int x1, .int x2, .ref (ga G 9000 0)] M Q := by
  refine ctL_of (own := RL) (by decide +kernel) rfl (Nat.le_of_ble_eq_true rfl) hG (fun Γ Qf hl C E hT hNc => ?_)
  subst hl
  show X Γ G Qf 5 0 0 0 [(0, .ref (ga G 10 0)), (1, .int x1), (2, .int x2), (3, .ref (ga G 9000 0))] [] M
  unfold pL_phrase at h
  refine x_aload_n C dL_phrase_0 3 rfl ?_
  refine x_iconst (v := 0) C dL_phrase_1 rfl ?_
  refine x_aload_n C dL_phrase_2 0 rfl ?_
  refine x_iload_n C dL_phrase_3 1 rfl ?_
  refine x_iload_n C dL_phrase_4 2 rfl ?_
  refine x_hcalli (rest := [.int 0, .ref (ga G 9000 0)]) C sv_L_115 ob10 z10 (kX10_phrase hG hl0 _ _ _ h) rfl rfl (Nat.le_of_ble_eq_true rfl) ⟨Nat.le_of_ble_eq_true rfl, Nat.le_of_ble_eq_true rfl⟩ rfl rfl ⟨Nat.le_of_ble_eq_true rfl, Nat.le_of_ble_eq_true rfl⟩ dL_phrase_5 (fun r M1 h => ?_) (fun E M1 h => ?_)
  · refine x_i2l C dL_phrase_8 ?_
    refine as_9000 C z9000 (vp_l (by decide)) dL_phrase_9 ?_
    refine X_nameM (fun M2 e2 => ?_)
    replace h := h M2 e2
    refine x_goto (tgt := 17) C dL_phrase_10 (by decide) ?_
    refine x_iconst (v := 0) C dL_phrase_17 rfl ?_
    exact x_iret C E h (Nat.le_of_ble_eq_true rfl) (Nat.le_of_ble_eq_true rfl) dL_phrase_18
  · obtain ⟨rfl, h⟩ := h
    refine x_catch1 (x := ⟨0, 10, 13, 24⟩) (suf := []) C hT (by decide) (by decide) q1030 ca_EN (fun q => ?_)
    refine x_astore (lv' := [(4, .ref q), (0, .ref (ga G 10 0)), (1, .int x1), (2, .int x2), (3, .ref (ga G 9000 0))]) C dL_phrase_13 (Nat.le_of_ble_eq_true rfl) rfl ?_
    refine x_iconst (v := 1) C dL_phrase_15 rfl ?_
    exact x_iret C ‹EndI Γ G Qf rmL_phrase Q› h (Nat.le_of_ble_eq_true rfl) (Nat.le_of_ble_eq_true rfl) dL_phrase_16
def rmL_depth : Room := { frames := 11, cells := 3, slots := 18, locals := 190 }
def pL_depth (M : Mem) (x1 : Int32) (x2 : Int32) (Q : Int32 → Mem → Prop) : Prop :=
  pX10_depth M x1 x2 (fun r M1 => ∀ M2 : Mem, M2 = up2 M1 9000 0 (tn 0) (Int32.toInt64 r) → Q 0 M2) (fun E M1 => E = EN ∧ Q 1 M1)
set_option maxRecDepth 100000 in
set_option maxHeartbeats 400000 in
theorem kL_depth {l : Launch} {G : Gm} (hG : Gd G) (hl0 : l.stackTraces = false) (M : Mem) (x1 : Int32) (x2 : Int32) {Q : Int32 → Mem → Prop} (h : pL_depth M x1 x2 Q) : CtL l G yL_depth cL_depth 5 [(0, 10, 13, 24)] rmL_depth [.ref (ga G 10 0), .int x1, .int x2, .ref (ga G 9000 0)] M Q := by
  refine ctL_of (own := RL) (by decide +kernel) rfl (Nat.le_of_ble_eq_true rfl) hG (fun Γ Qf hl C E hT hNc => ?_)
  subst hl
  show X Γ G Qf 5 0 0 0 [(0, .ref (ga G 10 0)), (1, .int x1), (2, .int x2), (3, .ref (ga G 9000 0))] [] M
  unfold pL_depth at h
  refine x_aload_n C dL_depth_0 3 rfl ?_
  refine x_iconst (v := 0) C dL_depth_1 rfl ?_
  refine x_aload_n C dL_depth_2 0 rfl ?_
  refine x_iload_n C dL_depth_3 1 rfl ?_
  refine x_iload_n C dL_depth_4 2 rfl ?_
  refine x_hcalli (rest := [.int 0, .ref (ga G 9000 0)]) C sv_L_118 ob10 z10 (kX10_depth hG hl0 _ _ _ h) rfl rfl (Nat.le_of_ble_eq_true rfl) ⟨Nat.le_of_ble_eq_true rfl, Nat.le_of_ble_eq_true rfl⟩ rfl rfl ⟨Nat.le_of_ble_eq_true rfl, Nat.le_of_ble_eq_true rfl⟩ dL_depth_5 (fun r M1 h => ?_) (fun E M1 h => ?_)
  · refine x_i2l C dL_depth_8 ?_
    refine as_9000 C z9000 (vp_l (by decide)) dL_depth_9 ?_
    refine X_nameM (fun M2 e2 => ?_)
    replace h := h M2 e2
    refine x_goto (tgt := 17) C dL_depth_10 (by decide) ?_
    refine x_iconst (v := 0) C dL_depth_17 rfl ?_
    exact x_iret C E h (Nat.le_of_ble_eq_true rfl) (Nat.le_of_ble_eq_true rfl) dL_depth_18
  · obtain ⟨rfl, h⟩ := h
    refine x_catch1 (x := ⟨0, 10, 13, 24⟩) (suf := []) C hT (by decide) (by decide) q1030 ca_EN (fun q => ?_)
    refine x_astore (lv' := [(4, .ref q), (0, .ref (ga G 10 0)), (1, .int x1), (2, .int x2), (3, .ref (ga G 9000 0))]) C dL_depth_13 (Nat.le_of_ble_eq_true rfl) rfl ?_
    refine x_iconst (v := 1) C dL_depth_15 rfl ?_
    exact x_iret C ‹EndI Γ G Qf rmL_depth Q› h (Nat.le_of_ble_eq_true rfl) (Nat.le_of_ble_eq_true rfl) dL_depth_16
def rmL_without : Room := { frames := 9, cells := 1, slots := 6, locals := 150 }
def pL_without (M : Mem) (x1 : Int32) (x2 : Int32) (Q : Int32 → Mem → Prop) : Prop :=
  pX10_without M x1 x2 (fun r M1 => ∀ M2 : Mem, M2 = up2 M1 9000 0 (tn 0) (Int32.toInt64 r) → Q 0 M2) (fun E M1 => E = EI ∧ Q 1 M1)
set_option maxRecDepth 100000 in
set_option maxHeartbeats 400000 in
theorem kL_without {l : Launch} {G : Gm} (hG : Gd G) (hl0 : l.stackTraces = false) (M : Mem) (x1 : Int32) (x2 : Int32) {Q : Int32 → Mem → Prop} (h : pL_without M x1 x2 Q) : CtL l G yL_without cL_without 5 [(0, 10, 13, 13)] rmL_without [.ref (ga G 10 0), .int x1, .int x2, .ref (ga G 9000 0)] M Q := by
  refine ctL_of (own := RL) (by decide +kernel) rfl (Nat.le_of_ble_eq_true rfl) hG (fun Γ Qf hl C E hT hNc => ?_)
  subst hl
  show X Γ G Qf 5 0 0 0 [(0, .ref (ga G 10 0)), (1, .int x1), (2, .int x2), (3, .ref (ga G 9000 0))] [] M
  unfold pL_without at h
  refine x_aload_n C dL_without_0 3 rfl ?_
  refine x_iconst (v := 0) C dL_without_1 rfl ?_
  refine x_aload_n C dL_without_2 0 rfl ?_
  refine x_iload_n C dL_without_3 1 rfl ?_
  refine x_iload_n C dL_without_4 2 rfl ?_
  refine x_hcalli (rest := [.int 0, .ref (ga G 9000 0)]) C sv_L_121 ob10 z10 (kX10_without hG hl0 _ _ _ h) rfl rfl (Nat.le_of_ble_eq_true rfl) ⟨Nat.le_of_ble_eq_true rfl, Nat.le_of_ble_eq_true rfl⟩ rfl rfl ⟨Nat.le_of_ble_eq_true rfl, Nat.le_of_ble_eq_true rfl⟩ dL_without_5 (fun r M1 h => ?_) (fun E M1 h => ?_)
  · refine x_i2l C dL_without_8 ?_
    refine as_9000 C z9000 (vp_l (by decide)) dL_without_9 ?_
    refine X_nameM (fun M2 e2 => ?_)
    replace h := h M2 e2
    refine x_goto (tgt := 17) C dL_without_10 (by decide) ?_
    refine x_iconst (v := 0) C dL_without_17 rfl ?_
    exact x_iret C E h (Nat.le_of_ble_eq_true rfl) (Nat.le_of_ble_eq_true rfl) dL_without_18
  · obtain ⟨rfl, h⟩ := h
    refine x_catch1 (x := ⟨0, 10, 13, 13⟩) (suf := []) C hT (by decide) (by decide) q1029 ca_EI (fun q => ?_)
    refine x_astore (lv' := [(4, .ref q), (0, .ref (ga G 10 0)), (1, .int x1), (2, .int x2), (3, .ref (ga G 9000 0))]) C dL_without_13 (Nat.le_of_ble_eq_true rfl) rfl ?_
    refine x_iconst (v := 1) C dL_without_15 rfl ?_
    exact x_iret C ‹EndI Γ G Qf rmL_without Q› h (Nat.le_of_ble_eq_true rfl) (Nat.le_of_ble_eq_true rfl) dL_without_16
