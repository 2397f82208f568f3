def rmX2_init : Room := { frames := 2, cells := 124, slots := 3548, locals := 34 }
def SC (n : Nat) : List (Nat × Nat) := (List.range n).flatMap S0
def S2 : List (Nat × Nat) := (2, 0) :: (302, 0) :: ([(303, 0), (307, 0), (308, 0)] ++ SC 24)
theorem SC_succ (n : Nat) : SC (n + 1) = SC n ++ S0 n := by unfold SC; rw [List.range_succ, List.flatMap_append]; simp
theorem S0_eq (n : Nat) : S0 n = [(0, n), (102, n), (103, n), (104, n), (105, n)] := rfl
theorem SC_mem {n : Nat} {q : Nat × Nat} (h : q ∈ SC n) : q.2 < n ∧ (q.1 = 0 ∨ q.1 = 102 ∨ q.1 = 103 ∨ q.1 = 104 ∨ q.1 = 105) := by
  obtain ⟨j, hj, hq⟩ := List.mem_flatMap.mp h
  rw [S0_eq] at hq
  have hj := List.mem_range.mp hj
  simp only [List.mem_cons, List.not_mem_nil, or_false] at hq
  rcases hq with rfl | rfl | rfl | rfl | rfl <;> exact ⟨hj, by simp⟩
/-- the cells of some cursors go by their own addresses and the two that they share -/
theorem wsI_cur {S : List (Nat × Nat)} {G : Gm} {f g : Nat → Nat → Nat} (hS : ∀ q ∈ S, q.1 = 0 ∨ q.1 = 102 ∨ q.1 = 103 ∨ q.1 = 104 ∨ q.1 = 105) (h4 : f 4 0 = g 4 0) (h5 : f 5 0 = g 5 0) (h : ∀ q ∈ S, ∀ c, c = 0 ∨ c = 102 ∨ c = 103 ∨ c = 104 ∨ c = 105 → f c q.2 = g c q.2) : wsI S (upG G f) M0 = wsI S (upG G g) M0 := by
  unfold wsI
  refine List.map_congr_left (fun q hq => ?_)
  obtain ⟨c, i⟩ := q
  have h1 : f 0 i = g 0 i := h _ hq 0 (by simp)
  have h2 : f 102 i = g 102 i := h _ hq 102 (by simp)
  have h3 : f 103 i = g 103 i := h _ hq 103 (by simp)
  have h6 : f 104 i = g 104 i := h _ hq 104 (by simp)
  have h7 : f 105 i = g 105 i := h _ hq 105 (by simp)
  have hc : c = 0 ∨ c = 102 ∨ c = 103 ∨ c = 104 ∨ c = 105 := hS _ hq
  have hx : cellO (upG G f) M0 c i = cellO (upG G g) M0 c i := cellO_ga (fun d hd => by
    rcases hc with rfl | rfl | rfl | rfl | rfl
    · have hd : d ∈ [(4, 0), (5, 0), (102, i), (103, i), (104, i), (105, i)] := hd
      simp only [List.mem_cons, List.not_mem_nil, or_false] at hd
      rcases hd with rfl | rfl | rfl | rfl | rfl | rfl
      · exact h4
      · exact h5
      · exact h2
      · exact h3
      · exact h6
      · exact h7
    all_goals (have hd : d ∈ ([] : List (Nat × Nat)) := hd; cases hd))
  show (f c i, _) = (g c i, _)
  rw [hx]
  rcases hc with rfl | rfl | rfl | rfl | rfl
  · rw [h1]
  · rw [h2]
  · rw [h3]
  · rw [h6]
  · rw [h7]
set_option maxRecDepth 100000 in
set_option maxHeartbeats 1000000 in
theorem mX2_loop {Γ : Gam} {G : Gm} {A : Nat → Prop} {Qf : State → Prop} (h0 ad1 ad2 ad3 ad4 w1 w2 w3 w4 : Nat) (C : Cy Γ G A cX2_init 6 RX2 rmX2_init) (kk : ∀ fc : Nat → Nat → Nat, fc 4 0 = w1 → fc 5 0 = w2 → Y Γ A G Qf 6 124 3548 120 [(5, .int (nI 24)), (0, .ref h0), (1, .ref w1), (2, .ref w2), (3, .ref w3), (4, .ref w4)] [] ((h0, .inr (2, [.ref w3, .ref w4, .ref ad1, .ref ad2, .int 0, .int 0, .int 1, .ref ad3, .ref ad4, .int 0, .int 0, .int 0, .int 0, .int 0])) :: (ad1, .inl (gC G 4, 24, .inr (.inr (.inr (.inr (fun j => if j < 24 then some (fc 0 j) else none)))))) :: ([(ad2, .inl (gC G 0, 24, .inl (fun _ => 0))), (ad3, .inl (gC G 0, 10, .inl (fun _ => 0))), (ad4, .inl (gC G 0, 10, .inl (fun _ => 0)))] ++ wsI (SC 24) (upG G fc) M0))) :
    ∀ (k n : Nat) (fc : Nat → Nat → Nat), n + k = 24 → fc 4 0 = w1 → fc 5 0 = w2 → Y Γ A G Qf 6 (4 + 5 * n) (68 + 145 * n) 91 [(5, .int (nI n)), (0, .ref h0), (1, .ref w1), (2, .ref w2), (3, .ref w3), (4, .ref w4)] [] ((h0, .inr (2, [.ref w3, .ref w4, .ref ad1, .ref ad2, .int 0, .int 0, .int 1, .ref ad3, .ref ad4, .int 0, .int 0, .int 0, .int 0, .int 0])) :: (ad1, .inl (gC G 4, 24, .inr (.inr (.inr (.inr (fun j => if j < n then some (fc 0 j) else none)))))) :: ([(ad2, .inl (gC G 0, 24, .inl (fun _ => 0))), (ad3, .inl (gC G 0, 10, .inl (fun _ => 0))), (ad4, .inl (gC G 0, 10, .inl (fun _ => 0)))] ++ wsI (SC n) (upG G fc) M0)) := by
  intro k
  induction k with
  | zero =>
    intro n fc hn h4 h5
    obtain rfl : n = 24 := by omega
    refine y_iload C dX2_init_91 0 rfl ?_
    refine y_bipush (v := 24) C dX2_init_93 rfl ?_
    refine y_ge (tgt := 120) C dX2_init_95 (by decide) (fun _ => kk fc h4 h5) (fun c => absurd (by decide) c)
  | succ k ih =>
    intro n fc hn h4 h5
    have hc : 4 + 5 * n + 5 ≤ 124 := by omega
    have hs : 68 + 145 * n + 145 ≤ 3548 := by omega
    refine y_iload C dX2_init_91 0 rfl ?_
    refine y_bipush (v := 24) C dX2_init_93 rfl ?_
    refine y_ge (tgt := 120) C dX2_init_95 (by decide) (fun c => absurd c (nI_ge (a := n) (b := 24) (by omega) (by decide))) (fun _ => ?_)
    refine y_aload_n C dX2_init_98 1 rfl ?_
    refine y_get C (c := 2) (k := 2) (N := 14) (T := TX2) (R := RX2) q50 inX2 rfl (by decide) rfl rfl dX2_init_99 ?_
    refine y_iload C dX2_init_102 0 rfl ?_
    refine y_new (c := 0) C inX0 tyX0_ok rfl q1499 q1500 q244 nX0 (Nat.le_trans (Nat.add_le_add_left (Nat.le_of_ble_eq_true rfl) _) hc) (Nat.le_trans (Nat.add_le_add_left (Nat.le_of_ble_eq_true rfl) _) hs) dX2_init_104 (fun q => ?_)
    refine y_dup C dX2_init_107 rfl ?_
    refine y_aload_n C dX2_init_108 2 rfl ?_
    refine y_aload_n C dX2_init_109 3 rfl ?_
    refine y_init (ws := (h0, .inr (2, [.ref w3, .ref w4, .ref ad1, .ref ad2, .int 0, .int 0, .int 1, .ref ad3, .ref ad4, .int 0, .int 0, .int 0, .int 0, .int 0])) :: (ad1, .inl (gC G 4, 24, .inr (.inr (.inr (.inr (fun j => if j < n then some (fc 0 j) else none)))))) :: ([(ad2, .inl (gC G 0, 24, .inl (fun _ => 0))), (ad3, .inl (gC G 0, 10, .inl (fun _ => 0))), (ad4, .inl (gC G 0, 10, .inl (fun _ => 0)))] ++ wsI (SC n) (upG G fc) M0)) (As := [.ref w1, .ref w2]) (rest := [.ref q, .int (nI n), .ref ad1]) C si_X2_60 (mX0_init (gl Γ) G w1 w2 n) rfl rfl (Nat.le_of_ble_eq_true rfl) ⟨Nat.le_of_ble_eq_true rfl, Nat.le_of_ble_eq_true rfl⟩ ⟨by show 4 + 5 * n + 1 + 4 ≤ 124; omega, by show 68 + 145 * n + 17 + 128 ≤ 3548; omega⟩ dX2_init_110 (fun fq hq => ?_)
    obtain ⟨hq1, hq2, hq3⟩ : fq 0 n = q ∧ fq 4 0 = w1 ∧ fq 5 0 = w2 := hq
    subst hq1
    refine Y_ws (ws' := (h0, .inr (2, [.ref w3, .ref w4, .ref ad1, .ref ad2, .int 0, .int 0, .int 1, .ref ad3, .ref ad4, .int 0, .int 0, .int 0, .int 0, .int 0])) :: (ad1, .inl (gC G 4, 24, .inr (.inr (.inr (.inr (fun j => if j < n then some (fc 0 j) else none)))))) :: (([(ad2, .inl (gC G 0, 24, .inl (fun _ => 0))), (ad3, .inl (gC G 0, 10, .inl (fun _ => 0))), (ad4, .inl (gC G 0, 10, .inl (fun _ => 0)))] ++ wsI (SC n) (upG G fc) M0) ++ ((fq 0 n, .inr (0, (fldT 0).mapIdx (fun k q => fval (upG G fq) M0 0 n k q))) :: wsI [(102, n), (103, n), (104, n), (105, n)] (upG G fq) M0))) rfl ?_
    refine y_astq C (vp_in_nI (n := n) (by omega) (by decide)) dX2_init_113 ?_
    refine y_iinc (v := nI (n + 1)) (lv' := [(5, .int (nI (n + 1))), (0, .ref h0), (1, .ref w1), (2, .ref w2), (3, .ref w3), (4, .ref w4)]) (j := 0) C dX2_init_114 rfl (nI_1 n) (by decide) rfl ?_
    refine y_goto (tgt := 91) C dX2_init_117 (by decide) ?_
    obtain ⟨F, hF⟩ : ∃ F : Nat → Nat → Nat, F = fun c i => if i = n ∧ (c = 0 ∨ c = 102 ∨ c = 103 ∨ c = 104 ∨ c = 105) then fq c i else fc c i := ⟨_, rfl⟩
    have hFn : ∀ c, c = 0 ∨ c = 102 ∨ c = 103 ∨ c = 104 ∨ c = 105 → F c n = fq c n := fun c h => by rw [hF]; exact if_pos ⟨rfl, h⟩
    have hFo : ∀ c i, i ≠ n → F c i = fc c i := fun c i h => by rw [hF]; exact if_neg (fun q => h q.1)
    have hF4 : F 4 0 = fc 4 0 := by rw [hF]; exact if_neg (fun q => by simp at q)
    have hF5 : F 5 0 = fc 5 0 := by rw [hF]; exact if_neg (fun q => by simp at q)
    have e1 : wsI (SC n) (upG G fc) M0 = wsI (SC n) (upG G F) M0 := wsI_cur (fun q h => (SC_mem h).2) hF4.symm hF5.symm (fun q h c _ => (hFo c q.2 (Nat.ne_of_lt (SC_mem h).1)).symm)
    have e2 : wsI (S0 n) (upG G fq) M0 = wsI (S0 n) (upG G F) M0 := wsI_cur (fun q h => by
      rw [S0_eq] at h
      simp only [List.mem_cons, List.not_mem_nil, or_false] at h
      rcases h with rfl | rfl | rfl | rfl | rfl <;> simp) (by rw [hF4, h4, hq2]) (by rw [hF5, h5, hq3]) (fun q h c hc => by
      have e : q.2 = n := by
        rw [S0_eq] at h
        simp only [List.mem_cons, List.not_mem_nil, or_false] at h
        rcases h with rfl | rfl | rfl | rfl | rfl <;> rfl
      rw [e, hFn c hc])
    have e3 : (va_up (fun j => if j < n then some (fc 0 j) else none) (nI n).toNatClampNeg (some (fq 0 n))) = (fun j => if j < n + 1 then some (F 0 j) else none) := by
      rw [nI_clamp (by omega)]
      funext j
      unfold va_up
      by_cases hj : j = n
      · rw [if_pos hj, if_pos (by omega), hj, hFn 0 (by simp)]
      · rw [if_neg hj]
        by_cases h2 : j < n
        · show (if j < n then some (fc 0 j) else none) = _
          rw [if_pos h2, if_pos (by omega), hFo 0 j hj]
        · show (if j < n then some (fc 0 j) else none) = _
          rw [if_neg h2, if_neg (by omega)]
    rw [e3]
    refine Y_ws (ws' := (h0, .inr (2, [.ref w3, .ref w4, .ref ad1, .ref ad2, .int 0, .int 0, .int 1, .ref ad3, .ref ad4, .int 0, .int 0, .int 0, .int 0, .int 0])) :: (ad1, .inl (gC G 4, 24, .inr (.inr (.inr (.inr (fun j => if j < n + 1 then some (F 0 j) else none)))))) :: ([(ad2, .inl (gC G 0, 24, .inl (fun _ => 0))), (ad3, .inl (gC G 0, 10, .inl (fun _ => 0))), (ad4, .inl (gC G 0, 10, .inl (fun _ => 0)))] ++ wsI (SC (n + 1)) (upG G F) M0)) ?_ ?_
    · show (h0, .inr (2, [.ref w3, .ref w4, .ref ad1, .ref ad2, .int 0, .int 0, .int 1, .ref ad3, .ref ad4, .int 0, .int 0, .int 0, .int 0, .int 0])) :: (ad1, .inl (gC G 4, 24, .inr (.inr (.inr (.inr (fun j => if j < n + 1 then some (F 0 j) else none)))))) :: (([(ad2, .inl (gC G 0, 24, .inl (fun _ => 0))), (ad3, .inl (gC G 0, 10, .inl (fun _ => 0))), (ad4, .inl (gC G 0, 10, .inl (fun _ => 0)))] ++ wsI (SC n) (upG G fc) M0) ++ wsI (S0 n) (upG G fq) M0) = _
      rw [SC_succ, e1, e2]
      unfold wsI
      rw [List.map_append, List.append_assoc]
    · have h9 := ih (n + 1) F (by omega) (by rw [hF4, h4]) (by rw [hF5, h5])
      have a1 : 4 + 5 * (n + 1) = 4 + 5 * n + 1 + rmX0_init.cells := by show _ = _ + 4; omega
      have a2 : 68 + 145 * (n + 1) = 68 + 145 * n + 17 + rmX0_init.slots := by show _ = _ + 128; omega
      rw [a1, a2] at h9
      exact h9
set_option maxRecDepth 100000 in
set_option maxHeartbeats 1000000 in
theorem mX2_init (l : Launch) (G : Gm) (w1 w2 w3 w4 : Nat) : CtN l G yX2_init cX2_init 6 rmX2_init 2 [.null, .null, .null, .null, .int 0, .int 0, .int 0, .null, .null, .int 0, .int 0, .int 0, .int 0, .int 0] [.ref w1, .ref w2, .ref w3, .ref w4] S2 (fun h0 f => f 2 0 = h0 ∧ f 4 0 = w1 ∧ f 5 0 = w2 ∧ f 6 0 = w3 ∧ f 3 0 = w4) := by
  refine ctN_of (own := RX2) (by decide +kernel) rfl rfl (fun _ => Nat.le_of_ble_eq_true rfl) (fun Γ A Qf h0 hl C hin EN => ?_)
  subst hl
  show Y Γ A G Qf 6 0 0 0 [(0, .ref h0), (1, .ref w1), (2, .ref w2), (3, .ref w3), (4, .ref w4)] [] ((h0, .inr (2, [.null, .null, .null, .null, .int 0, .int 0, .int 0, .null, .null, .int 0, .int 0, .int 0, .int 0, .int 0])) :: [])
  refine y_aload_n C dX2_init_0 0 rfl ?_
  refine y_obj C q1498 q1481 q1482 (Nat.le_of_ble_eq_true rfl) (Nat.le_of_ble_eq_true rfl) dX2_init_1 ?_
  refine y_aload_n C dX2_init_4 0 rfl ?_
  refine y_bipush (v := 24) C dX2_init_5 rfl ?_
  refine y_newq (N := 24) C q1499 (by decide) rfl (Nat.le_of_ble_eq_true rfl) (Nat.le_of_ble_eq_true rfl) (Nat.le_of_ble_eq_true rfl) dX2_init_7 (fun ad1 => ?_)
  show Y Γ A G Qf _ _ _ _ _ _ ((h0, .inr (2, [.null, .null, .null, .null, .int 0, .int 0, .int 0, .null, .null, .int 0, .int 0, .int 0, .int 0, .int 0])) :: ([] ++ [(ad1, .inl (gC G 4, 24, .inr (.inr (.inr (.inr (fun _ => none))))))]))
  refine y_putF C hin (c := 2) (k := 2) (N := 14) (T := TX2) (R := RX2) (fs' := [.null, .null, .ref ad1, .null, .int 0, .int 0, .int 0, .null, .null, .int 0, .int 0, .int 0, .int 0, .int 0]) q50 inX2 tyX2_ok nmX2 rfl (by decide) rfl rfl rfl rfl rfl (Nat.le_of_ble_eq_true rfl) rfl dX2_init_10 ?_
  refine y_aload_n C dX2_init_13 0 rfl ?_
  refine y_bipush (v := 24) C dX2_init_14 rfl ?_
  refine y_newi (N := 24) C q1486 (by decide) rfl (Nat.le_of_ble_eq_true rfl) (Nat.le_of_ble_eq_true rfl) (Nat.le_of_ble_eq_true rfl) dX2_init_16 (fun ad2 => ?_)
  show Y Γ A G Qf _ _ _ _ _ _ ((h0, .inr (2, [.null, .null, .ref ad1, .null, .int 0, .int 0, .int 0, .null, .null, .int 0, .int 0, .int 0, .int 0, .int 0])) :: (([] ++ [(ad1, .inl (gC G 4, 24, .inr (.inr (.inr (.inr (fun _ => none))))))]) ++ [(ad2, .inl (gC G 0, 24, .inl (fun _ => 0)))]))
  refine y_putF C hin (c := 2) (k := 3) (N := 14) (T := TX2) (R := RX2) (fs' := [.null, .null, .ref ad1, .ref ad2, .int 0, .int 0, .int 0, .null, .null, .int 0, .int 0, .int 0, .int 0, .int 0]) q52 inX2 tyX2_ok nmX2 rfl (by decide) rfl rfl rfl rfl rfl (Nat.le_of_ble_eq_true rfl) rfl dX2_init_18 ?_
  refine y_aload_n C dX2_init_21 0 rfl ?_
  refine y_iconst (v := 0) C dX2_init_22 rfl ?_
  refine y_put C (c := 2) (k := 4) (N := 14) (T := TX2) (R := RX2) (fs' := [.null, .null, .ref ad1, .ref ad2, .int 0, .int 0, .int 0, .null, .null, .int 0, .int 0, .int 0, .int 0, .int 0]) q47 inX2 tyX2_ok nmX2 rfl (by decide) rfl rfl rfl rfl (Nat.le_of_ble_eq_true rfl) rfl dX2_init_23 ?_
  refine y_aload_n C dX2_init_26 0 rfl ?_
  refine y_iconst (v := 0) C dX2_init_27 rfl ?_
  refine y_put C (c := 2) (k := 5) (N := 14) (T := TX2) (R := RX2) (fs' := [.null, .null, .ref ad1, .ref ad2, .int 0, .int 0, .int 0, .null, .null, .int 0, .int 0, .int 0, .int 0, .int 0]) q60 inX2 tyX2_ok nmX2 rfl (by decide) rfl rfl rfl rfl (Nat.le_of_ble_eq_true rfl) rfl dX2_init_28 ?_
  refine y_aload_n C dX2_init_31 0 rfl ?_
  refine y_iconst (v := 1) C dX2_init_32 rfl ?_
  refine y_put C (c := 2) (k := 6) (N := 14) (T := TX2) (R := RX2) (fs' := [.null, .null, .ref ad1, .ref ad2, .int 0, .int 0, .int 1, .null, .null, .int 0, .int 0, .int 0, .int 0, .int 0]) q57 inX2 tyX2_ok nmX2 rfl (by decide) rfl rfl rfl rfl (Nat.le_of_ble_eq_true rfl) rfl dX2_init_33 ?_
  refine y_aload_n C dX2_init_36 0 rfl ?_
  refine y_bipush (v := 10) C dX2_init_37 rfl ?_
  refine y_newi (N := 10) C q1486 (by decide) rfl (Nat.le_of_ble_eq_true rfl) (Nat.le_of_ble_eq_true rfl) (Nat.le_of_ble_eq_true rfl) dX2_init_39 (fun ad3 => ?_)
  show Y Γ A G Qf _ _ _ _ _ _ ((h0, .inr (2, [.null, .null, .ref ad1, .ref ad2, .int 0, .int 0, .int 1, .null, .null, .int 0, .int 0, .int 0, .int 0, .int 0])) :: ((([] ++ [(ad1, .inl (gC G 4, 24, .inr (.inr (.inr (.inr (fun _ => none))))))]) ++ [(ad2, .inl (gC G 0, 24, .inl (fun _ => 0)))]) ++ [(ad3, .inl (gC G 0, 10, .inl (fun _ => 0)))]))
  refine y_putF C hin (c := 2) (k := 7) (N := 14) (T := TX2) (R := RX2) (fs' := [.null, .null, .ref ad1, .ref ad2, .int 0, .int 0, .int 1, .ref ad3, .null, .int 0, .int 0, .int 0, .int 0, .int 0]) q82 inX2 tyX2_ok nmX2 rfl (by decide) rfl rfl rfl rfl rfl (Nat.le_of_ble_eq_true rfl) rfl dX2_init_41 ?_
  refine y_aload_n C dX2_init_44 0 rfl ?_
  refine y_bipush (v := 10) C dX2_init_45 rfl ?_
  refine y_newi (N := 10) C q1486 (by decide) rfl (Nat.le_of_ble_eq_true rfl) (Nat.le_of_ble_eq_true rfl) (Nat.le_of_ble_eq_true rfl) dX2_init_47 (fun ad4 => ?_)
  show Y Γ A G Qf _ _ _ _ _ _ ((h0, .inr (2, [.null, .null, .ref ad1, .ref ad2, .int 0, .int 0, .int 1, .ref ad3, .null, .int 0, .int 0, .int 0, .int 0, .int 0])) :: (((([] ++ [(ad1, .inl (gC G 4, 24, .inr (.inr (.inr (.inr (fun _ => none))))))]) ++ [(ad2, .inl (gC G 0, 24, .inl (fun _ => 0)))]) ++ [(ad3, .inl (gC G 0, 10, .inl (fun _ => 0)))]) ++ [(ad4, .inl (gC G 0, 10, .inl (fun _ => 0)))]))
  refine y_putF C hin (c := 2) (k := 8) (N := 14) (T := TX2) (R := RX2) (fs' := [.null, .null, .ref ad1, .ref ad2, .int 0, .int 0, .int 1, .ref ad3, .ref ad4, .int 0, .int 0, .int 0, .int 0, .int 0]) q58 inX2 tyX2_ok nmX2 rfl (by decide) rfl rfl rfl rfl rfl (Nat.le_of_ble_eq_true rfl) rfl dX2_init_49 ?_
  refine y_aload_n C dX2_init_52 0 rfl ?_
  refine y_iconst (v := 0) C dX2_init_53 rfl ?_
  refine y_put C (c := 2) (k := 9) (N := 14) (T := TX2) (R := RX2) (fs' := [.null, .null, .ref ad1, .ref ad2, .int 0, .int 0, .int 1, .ref ad3, .ref ad4, .int 0, .int 0, .int 0, .int 0, .int 0]) q56 inX2 tyX2_ok nmX2 rfl (by decide) rfl rfl rfl rfl (Nat.le_of_ble_eq_true rfl) rfl dX2_init_54 ?_
  refine y_aload_n C dX2_init_57 0 rfl ?_
  refine y_iconst (v := 0) C dX2_init_58 rfl ?_
  refine y_put C (c := 2) (k := 10) (N := 14) (T := TX2) (R := RX2) (fs' := [.null, .null, .ref ad1, .ref ad2, .int 0, .int 0, .int 1, .ref ad3, .ref ad4, .int 0, .int 0, .int 0, .int 0, .int 0]) q83 inX2 tyX2_ok nmX2 rfl (by decide) rfl rfl rfl rfl (Nat.le_of_ble_eq_true rfl) rfl dX2_init_59 ?_
  refine y_aload_n C dX2_init_62 0 rfl ?_
  refine y_iconst (v := 0) C dX2_init_63 rfl ?_
  refine y_put C (c := 2) (k := 11) (N := 14) (T := TX2) (R := RX2) (fs' := [.null, .null, .ref ad1, .ref ad2, .int 0, .int 0, .int 1, .ref ad3, .ref ad4, .int 0, .int 0, .int 0, .int 0, .int 0]) q62 inX2 tyX2_ok nmX2 rfl (by decide) rfl rfl rfl rfl (Nat.le_of_ble_eq_true rfl) rfl dX2_init_64 ?_
  refine y_aload_n C dX2_init_67 0 rfl ?_
  refine y_iconst (v := 0) C dX2_init_68 rfl ?_
  refine y_put C (c := 2) (k := 12) (N := 14) (T := TX2) (R := RX2) (fs' := [.null, .null, .ref ad1, .ref ad2, .int 0, .int 0, .int 1, .ref ad3, .ref ad4, .int 0, .int 0, .int 0, .int 0, .int 0]) q61 inX2 tyX2_ok nmX2 rfl (by decide) rfl rfl rfl rfl (Nat.le_of_ble_eq_true rfl) rfl dX2_init_69 ?_
  refine y_aload_n C dX2_init_72 0 rfl ?_
  refine y_iconst (v := 0) C dX2_init_73 rfl ?_
  refine y_put C (c := 2) (k := 13) (N := 14) (T := TX2) (R := RX2) (fs' := [.null, .null, .ref ad1, .ref ad2, .int 0, .int 0, .int 1, .ref ad3, .ref ad4, .int 0, .int 0, .int 0, .int 0, .int 0]) q80 inX2 tyX2_ok nmX2 rfl (by decide) rfl rfl rfl rfl (Nat.le_of_ble_eq_true rfl) rfl dX2_init_74 ?_
  refine y_aload_n C dX2_init_77 0 rfl ?_
  refine y_aload_n C dX2_init_78 3 rfl ?_
  refine y_putF C hin (c := 2) (k := 0) (N := 14) (T := TX2) (R := RX2) (fs' := [.ref w3, .null, .ref ad1, .ref ad2, .int 0, .int 0, .int 1, .ref ad3, .ref ad4, .int 0, .int 0, .int 0, .int 0, .int 0]) q48 inX2 tyX2_ok nmX2 rfl (by decide) rfl rfl rfl rfl rfl (Nat.le_of_ble_eq_true rfl) rfl dX2_init_79 ?_
  refine y_aload_n C dX2_init_82 0 rfl ?_
  refine y_aload C dX2_init_83 4 rfl ?_
  refine y_putF C hin (c := 2) (k := 1) (N := 14) (T := TX2) (R := RX2) (fs' := [.ref w3, .ref w4, .ref ad1, .ref ad2, .int 0, .int 0, .int 1, .ref ad3, .ref ad4, .int 0, .int 0, .int 0, .int 0, .int 0]) q81 inX2 tyX2_ok nmX2 rfl (by decide) rfl rfl rfl rfl rfl (Nat.le_of_ble_eq_true rfl) rfl dX2_init_85 ?_
  refine y_iconst (v := 0) C dX2_init_88 rfl ?_
  refine y_istore (lv' := [(5, .int 0), (0, .ref h0), (1, .ref w1), (2, .ref w2), (3, .ref w3), (4, .ref w4)]) C dX2_init_89 (by decide) rfl ?_
  refine Y_ws (ws' := (h0, .inr (2, [.ref w3, .ref w4, .ref ad1, .ref ad2, .int 0, .int 0, .int 1, .ref ad3, .ref ad4, .int 0, .int 0, .int 0, .int 0, .int 0])) :: (ad1, .inl (gC G 4, 24, .inr (.inr (.inr (.inr (fun j => if j < 0 then some ((fun c _ => if c = 4 then w1 else w2 : Nat → Nat → Nat) 0 j) else none)))))) :: ([(ad2, .inl (gC G 0, 24, .inl (fun _ => 0))), (ad3, .inl (gC G 0, 10, .inl (fun _ => 0))), (ad4, .inl (gC G 0, 10, .inl (fun _ => 0)))] ++ wsI (SC 0) (upG G (fun c _ => if c = 4 then w1 else w2)) M0)) ?_ ?_
  · have e : (fun _ => none : Nat → Option Nat) = (fun j => if j < 0 then some ((fun c _ => if c = 4 then w1 else w2 : Nat → Nat → Nat) 0 j) else none) := by
      funext j
      rw [if_neg (Nat.not_lt_zero j)]
    rw [← e]
    rfl
  · refine mX2_loop h0 ad1 ad2 ad3 ad4 w1 w2 w3 w4 C (fun fc h4 h5 => ?_) 24 0 (fun c _ => if c = 4 then w1 else w2) rfl rfl rfl
    obtain ⟨F, hF⟩ : ∃ F : Nat → Nat → Nat, F = fun c i => bif Nat.beq c 2 then h0 else bif Nat.beq c 302 then ad1 else bif Nat.beq c 303 then ad2 else bif Nat.beq c 307 then ad3 else bif Nat.beq c 308 then ad4 else bif Nat.beq c 6 then w3 else bif Nat.beq c 3 then w4 else fc c i := ⟨_, rfl⟩
    have e1 : wsI (SC 24) (upG G fc) M0 = wsI (SC 24) (upG G F) M0 := wsI_cur (fun q h => (SC_mem h).2) (by rw [hF]; rfl) (by rw [hF]; rfl) (fun q h c hc => by
      rw [hF]
      rcases hc with rfl | rfl | rfl | rfl | rfl <;> rfl)
    rw [e1]
    refine EN F _ _ _ _ _ _ (by rw [hF]; exact ⟨rfl, h4, h5, rfl, rfl⟩) ?_ dX2_init_120 (Nat.le_of_ble_eq_true rfl) (Nat.le_of_ble_eq_true rfl)
    have v0 : F 2 0 = h0 := by rw [hF]; rfl
    have v1 : F 302 0 = ad1 := by rw [hF]; rfl
    have v2 : F 303 0 = ad2 := by rw [hF]; rfl
    have v3 : F 307 0 = ad3 := by rw [hF]; rfl
    have v4 : F 308 0 = ad4 := by rw [hF]; rfl
    have v5 : F 6 0 = w3 := by rw [hF]; rfl
    have v6 : F 3 0 = w4 := by rw [hF]; rfl
    have v7 : ∀ j, F 0 j = fc 0 j := fun j => by rw [hF]; rfl
    simp only [wsI, S2, List.map_append, List.map_cons, List.map_nil, List.map_map, Function.comp_def, gaU, gCU, cv_0, cv_1, cv_2, cv_3, cv_4, cv_5, cv_6, cv_7, cv_8, cv_9, cv_10, cv_11, cv_102, cv_103, cv_104, cv_105, cv_201, cv_302, cv_303, cv_307, cv_308, cv_402, cv_501, cv_502, cv_503, cv_508, cv_509, cv_510, cv_511, cv_512, cv_702, cv_703, cv_704, cv_707, cv_709, cv_710, cv_902, cv_903, cv_1000, cv_1100, cv_1201, cv_1208, cv_1212, cv_1213, cv_1214, cv_1215, cv_1216, cv_1217, cv_1225, cv_1226, cv_1227, cv_1228, cv_1229, cv_1230, cv_1236, cv_1238, cv_1241, cv_1242, cv_1243, cv_1244, cv_1245, cv_1246, cv_1247, cv_1248, cv_1249, cv_1250, cv_1251, cv_1252, cv_1253, cv_1254, cv_1255, cv_5501, cv_5508, cv_5509, cv_5510, cv_5710, cv_5711, cv_6212, cv_6217, cv_6230, cv_6236, cv_6243, cv_6244, cv_6245, cv_9000, v0, v1, v2, v3, v4, v5, v6, v7]
