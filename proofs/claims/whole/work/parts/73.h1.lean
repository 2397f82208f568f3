def rmX5_init : Room := { frames := 1, cells := 0, slots := 0, locals := 12 }
def S5 : List (Nat × Nat) := (5, 0) :: []
set_option maxRecDepth 100000 in
set_option maxHeartbeats 4000000 in
theorem mX5_init (l : Launch) (G : Gm) (w1 : Nat) : CtN l G yX5_init cX5_init 2 rmX5_init 5 [.null, .int 0, .int 0, .int 0, .int 0, .int 0, .int 0, .int 0, .int 0] [.ref w1] S5 (fun h0 f => f 5 0 = h0 ∧ f 4 0 = w1) := by
  refine ctN_of (own := RX5) (by decide +kernel) rfl rfl (fun _ => Nat.le_of_ble_eq_true rfl) (fun Γ A Qf h0 hl C hin EN => ?_)
  subst hl
  show Y Γ A G Qf 2 0 0 0 [(0, .ref h0), (1, .ref w1)] [] ((h0, .inr (5, [.null, .int 0, .int 0, .int 0, .int 0, .int 0, .int 0, .int 0, .int 0])) :: [])
  refine y_aload_n C dX5_init_0 0 rfl ?_
  refine y_obj C q1487 q1481 q1482 (Nat.le_of_ble_eq_true rfl) (Nat.le_of_ble_eq_true rfl) dX5_init_1 ?_
  refine y_aload_n C dX5_init_4 0 rfl ?_
  refine y_iconst (v := 0) C dX5_init_5 rfl ?_
  refine y_put C (c := 5) (k := 1) (N := 9) (T := TX5) (R := RX5) (fs' := [.null, .int 0, .int 0, .int 0, .int 0, .int 0, .int 0, .int 0, .int 0]) q8 inX5 tyX5_ok nmX5 rfl (by decide) rfl rfl rfl rfl (Nat.le_of_ble_eq_true rfl) rfl dX5_init_6 ?_
  refine y_aload_n C dX5_init_9 0 rfl ?_
  refine y_iconst (v := 0) C dX5_init_10 rfl ?_
  refine y_put C (c := 5) (k := 2) (N := 9) (T := TX5) (R := RX5) (fs' := [.null, .int 0, .int 0, .int 0, .int 0, .int 0, .int 0, .int 0, .int 0]) q9 inX5 tyX5_ok nmX5 rfl (by decide) rfl rfl rfl rfl (Nat.le_of_ble_eq_true rfl) rfl dX5_init_11 ?_
  refine y_aload_n C dX5_init_14 0 rfl ?_
  refine y_iconst (v := 0) C dX5_init_15 rfl ?_
  refine y_put C (c := 5) (k := 3) (N := 9) (T := TX5) (R := RX5) (fs' := [.null, .int 0, .int 0, .int 0, .int 0, .int 0, .int 0, .int 0, .int 0]) q10 inX5 tyX5_ok nmX5 rfl (by decide) rfl rfl rfl rfl (Nat.le_of_ble_eq_true rfl) rfl dX5_init_16 ?_
  refine y_aload_n C dX5_init_19 0 rfl ?_
  refine y_iconst (v := 0) C dX5_init_20 rfl ?_
  refine y_put C (c := 5) (k := 4) (N := 9) (T := TX5) (R := RX5) (fs' := [.null, .int 0, .int 0, .int 0, .int 0, .int 0, .int 0, .int 0, .int 0]) q7 inX5 tyX5_ok nmX5 rfl (by decide) rfl rfl rfl rfl (Nat.le_of_ble_eq_true rfl) rfl dX5_init_21 ?_
  refine y_aload_n C dX5_init_24 0 rfl ?_
  refine y_iconst (v := 0) C dX5_init_25 rfl ?_
  refine y_put C (c := 5) (k := 5) (N := 9) (T := TX5) (R := RX5) (fs' := [.null, .int 0, .int 0, .int 0, .int 0, .int 0, .int 0, .int 0, .int 0]) q14 inX5 tyX5_ok nmX5 rfl (by decide) rfl rfl rfl rfl (Nat.le_of_ble_eq_true rfl) rfl dX5_init_26 ?_
  refine y_aload_n C dX5_init_29 0 rfl ?_
  refine y_iconst (v := 0) C dX5_init_30 rfl ?_
  refine y_put C (c := 5) (k := 6) (N := 9) (T := TX5) (R := RX5) (fs' := [.null, .int 0, .int 0, .int 0, .int 0, .int 0, .int 0, .int 0, .int 0]) q11 inX5 tyX5_ok nmX5 rfl (by decide) rfl rfl rfl rfl (Nat.le_of_ble_eq_true rfl) rfl dX5_init_31 ?_
  refine y_aload_n C dX5_init_34 0 rfl ?_
  refine y_iconst (v := 0) C dX5_init_35 rfl ?_
  refine y_put C (c := 5) (k := 7) (N := 9) (T := TX5) (R := RX5) (fs' := [.null, .int 0, .int 0, .int 0, .int 0, .int 0, .int 0, .int 0, .int 0]) q12 inX5 tyX5_ok nmX5 rfl (by decide) rfl rfl rfl rfl (Nat.le_of_ble_eq_true rfl) rfl dX5_init_36 ?_
  refine y_aload_n C dX5_init_39 0 rfl ?_
  refine y_iconst (v := 0) C dX5_init_40 rfl ?_
  refine y_put C (c := 5) (k := 8) (N := 9) (T := TX5) (R := RX5) (fs' := [.null, .int 0, .int 0, .int 0, .int 0, .int 0, .int 0, .int 0, .int 0]) q13 inX5 tyX5_ok nmX5 rfl (by decide) rfl rfl rfl rfl (Nat.le_of_ble_eq_true rfl) rfl dX5_init_41 ?_
  refine y_aload_n C dX5_init_44 0 rfl ?_
  refine y_aload_n C dX5_init_45 1 rfl ?_
  refine y_putF C hin (c := 5) (k := 0) (N := 9) (T := TX5) (R := RX5) (fs' := [.ref w1, .int 0, .int 0, .int 0, .int 0, .int 0, .int 0, .int 0, .int 0]) q4 inX5 tyX5_ok nmX5 rfl (by decide) rfl rfl rfl rfl rfl (Nat.le_of_ble_eq_true rfl) rfl dX5_init_46 ?_
  refine EN (fun c i => bif Nat.beq c 5 then h0 else bif Nat.beq c 4 then w1 else 0) _ _ _ _ _ _ ⟨rfl, rfl⟩ ?_ dX5_init_49 (Nat.le_of_ble_eq_true rfl) (Nat.le_of_ble_eq_true rfl)
  simp only [wsI, S5, List.map_append, List.map_cons, List.map_nil, List.map_map, Function.comp_def, gaU, gCU, cv_0, cv_1, cv_2, cv_3, cv_4, cv_5, cv_6, cv_7, cv_8, cv_9, cv_10, cv_11, cv_102, cv_103, cv_104, cv_105, cv_201, cv_302, cv_303, cv_307, cv_308, cv_402, cv_501, cv_502, cv_503, cv_508, cv_509, cv_510, cv_511, cv_512, cv_702, cv_703, cv_704, cv_707, cv_709, cv_710, cv_902, cv_903, cv_1000, cv_1100, cv_1201, cv_1208, cv_1212, cv_1213, cv_1214, cv_1215, cv_1216, cv_1217, cv_1225, cv_1226, cv_1227, cv_1228, cv_1229, cv_1230, cv_1236, cv_1238, cv_1241, cv_1242, cv_1243, cv_1244, cv_1245, cv_1246, cv_1247, cv_1248, cv_1249, cv_1250, cv_1251, cv_1252, cv_1253, cv_1254, cv_1255, cv_5501, cv_5508, cv_5509, cv_5510, cv_5710, cv_5711, cv_6212, cv_6217, cv_6230, cv_6236, cv_6243, cv_6244, cv_6245, cv_9000]
  rfl

def rmX6_init_0 : Room := { frames := 1, cells := 12, slots := 114, locals := 12 }
def S6_0 : List (Nat × Nat) := (6, 0) :: ((((((([] ++ [(702, 0)]) ++ [(703, 0)]) ++ [(704, 0)]) ++ [(707, 0)]) ++ [(709, 0)]) ++ [(710, 0)]) ++ (List.range 6).map (fun j => (5710, j)))
set_option maxRecDepth 100000 in
set_option maxHeartbeats 4000000 in
theorem mX6_init_0 (l : Launch) (G : Gm) : CtN l G yX6_init cX6_init 1 rmX6_init_0 6 [.int 0, .int 0, .null, .null, .null, .int 0, .int 0, .null, .int 0, .null, .null, .int 0] [] S6_0 (fun h0 f => f 6 0 = h0) := by
  refine ctN_of (own := RX6) (by decide +kernel) rfl rfl (fun _ => Nat.le_of_ble_eq_true rfl) (fun Γ A Qf h0 hl C hin EN => ?_)
  subst hl
  show Y Γ A G Qf 1 0 0 0 [(0, .ref h0)] [] ((h0, .inr (6, [.int 0, .int 0, .null, .null, .null, .int 0, .int 0, .null, .int 0, .null, .null, .int 0])) :: [])
  refine y_aload_n C dX6_init_0 0 rfl ?_
  refine y_obj C q1488 q1481 q1482 (Nat.le_of_ble_eq_true rfl) (Nat.le_of_ble_eq_true rfl) dX6_init_1 ?_
  refine y_aload_n C dX6_init_4 0 rfl ?_
  refine y_iconst (v := 0) C dX6_init_5 rfl ?_
  refine y_put C (c := 6) (k := 0) (N := 12) (T := TX6) (R := RX6) (fs' := [.int 0, .int 0, .null, .null, .null, .int 0, .int 0, .null, .int 0, .null, .null, .int 0]) q105 inX6 tyX6_ok nmX6 rfl (by decide) rfl rfl rfl rfl (Nat.le_of_ble_eq_true rfl) rfl dX6_init_6 ?_
  refine y_aload_n C dX6_init_9 0 rfl ?_
  refine y_iconst (v := 0) C dX6_init_10 rfl ?_
  refine y_put C (c := 6) (k := 1) (N := 12) (T := TX6) (R := RX6) (fs' := [.int 0, .int 0, .null, .null, .null, .int 0, .int 0, .null, .int 0, .null, .null, .int 0]) q54 inX6 tyX6_ok nmX6 rfl (by decide) rfl rfl rfl rfl (Nat.le_of_ble_eq_true rfl) rfl dX6_init_11 ?_
  refine y_aload_n C dX6_init_14 0 rfl ?_
  refine y_bipush (v := 24) C dX6_init_15 rfl ?_
  refine y_newi (N := 24) C q1486 (by decide) rfl (Nat.le_of_ble_eq_true rfl) (Nat.le_of_ble_eq_true rfl) (Nat.le_of_ble_eq_true rfl) dX6_init_17 (fun ad1 => ?_)
  show Y Γ A G Qf _ _ _ _ _ _ ((h0, .inr (6, [.int 0, .int 0, .null, .null, .null, .int 0, .int 0, .null, .int 0, .null, .null, .int 0])) :: ([] ++ [(ad1, .inl (gC G 0, 24, .inl (fun _ => 0)))]))
  refine y_putF C hin (c := 6) (k := 2) (N := 12) (T := TX6) (R := RX6) (fs' := [.int 0, .int 0, .ref ad1, .null, .null, .int 0, .int 0, .null, .int 0, .null, .null, .int 0]) q109 inX6 tyX6_ok nmX6 rfl (by decide) rfl rfl rfl rfl rfl (Nat.le_of_ble_eq_true rfl) rfl dX6_init_19 ?_
  refine y_aload_n C dX6_init_22 0 rfl ?_
  refine y_bipush (v := 24) C dX6_init_23 rfl ?_
  refine y_newi (N := 24) C q1486 (by decide) rfl (Nat.le_of_ble_eq_true rfl) (Nat.le_of_ble_eq_true rfl) (Nat.le_of_ble_eq_true rfl) dX6_init_25 (fun ad2 => ?_)
  show Y Γ A G Qf _ _ _ _ _ _ ((h0, .inr (6, [.int 0, .int 0, .ref ad1, .null, .null, .int 0, .int 0, .null, .int 0, .null, .null, .int 0])) :: (([] ++ [(ad1, .inl (gC G 0, 24, .inl (fun _ => 0)))]) ++ [(ad2, .inl (gC G 0, 24, .inl (fun _ => 0)))]))
  refine y_putF C hin (c := 6) (k := 3) (N := 12) (T := TX6) (R := RX6) (fs' := [.int 0, .int 0, .ref ad1, .ref ad2, .null, .int 0, .int 0, .null, .int 0, .null, .null, .int 0]) q110 inX6 tyX6_ok nmX6 rfl (by decide) rfl rfl rfl rfl rfl (Nat.le_of_ble_eq_true rfl) rfl dX6_init_27 ?_
  refine y_aload_n C dX6_init_30 0 rfl ?_
  refine y_bipush (v := 24) C dX6_init_31 rfl ?_
  refine y_newz (N := 24) C q1489 (by decide) rfl (Nat.le_of_ble_eq_true rfl) (Nat.le_of_ble_eq_true rfl) (Nat.le_of_ble_eq_true rfl) dX6_init_33 (fun ad3 => ?_)
  show Y Γ A G Qf _ _ _ _ _ _ ((h0, .inr (6, [.int 0, .int 0, .ref ad1, .ref ad2, .null, .int 0, .int 0, .null, .int 0, .null, .null, .int 0])) :: ((([] ++ [(ad1, .inl (gC G 0, 24, .inl (fun _ => 0)))]) ++ [(ad2, .inl (gC G 0, 24, .inl (fun _ => 0)))]) ++ [(ad3, .inl (gC G 2, 24, .inl (fun _ => 0)))]))
  refine y_putF C hin (c := 6) (k := 4) (N := 12) (T := TX6) (R := RX6) (fs' := [.int 0, .int 0, .ref ad1, .ref ad2, .ref ad3, .int 0, .int 0, .null, .int 0, .null, .null, .int 0]) q111 inX6 tyX6_ok nmX6 rfl (by decide) rfl rfl rfl rfl rfl (Nat.le_of_ble_eq_true rfl) rfl dX6_init_35 ?_
  refine y_aload_n C dX6_init_38 0 rfl ?_
  refine y_iconst (v := 0) C dX6_init_39 rfl ?_
  refine y_put C (c := 6) (k := 5) (N := 12) (T := TX6) (R := RX6) (fs' := [.int 0, .int 0, .ref ad1, .ref ad2, .ref ad3, .int 0, .int 0, .null, .int 0, .null, .null, .int 0]) q106 inX6 tyX6_ok nmX6 rfl (by decide) rfl rfl rfl rfl (Nat.le_of_ble_eq_true rfl) rfl dX6_init_40 ?_
  refine y_aload_n C dX6_init_43 0 rfl ?_
  refine y_iconst (v := 0) C dX6_init_44 rfl ?_
  refine y_put C (c := 6) (k := 6) (N := 12) (T := TX6) (R := RX6) (fs' := [.int 0, .int 0, .ref ad1, .ref ad2, .ref ad3, .int 0, .int 0, .null, .int 0, .null, .null, .int 0]) q107 inX6 tyX6_ok nmX6 rfl (by decide) rfl rfl rfl rfl (Nat.le_of_ble_eq_true rfl) rfl dX6_init_45 ?_
  refine y_aload_n C dX6_init_48 0 rfl ?_
  refine y_bipush (v := 6) C dX6_init_49 rfl ?_
  refine y_newi (N := 6) C q1486 (by decide) rfl (Nat.le_of_ble_eq_true rfl) (Nat.le_of_ble_eq_true rfl) (Nat.le_of_ble_eq_true rfl) dX6_init_51 (fun ad4 => ?_)
  show Y Γ A G Qf _ _ _ _ _ _ ((h0, .inr (6, [.int 0, .int 0, .ref ad1, .ref ad2, .ref ad3, .int 0, .int 0, .null, .int 0, .null, .null, .int 0])) :: (((([] ++ [(ad1, .inl (gC G 0, 24, .inl (fun _ => 0)))]) ++ [(ad2, .inl (gC G 0, 24, .inl (fun _ => 0)))]) ++ [(ad3, .inl (gC G 2, 24, .inl (fun _ => 0)))]) ++ [(ad4, .inl (gC G 0, 6, .inl (fun _ => 0)))]))
  refine y_putF C hin (c := 6) (k := 7) (N := 12) (T := TX6) (R := RX6) (fs' := [.int 0, .int 0, .ref ad1, .ref ad2, .ref ad3, .int 0, .int 0, .ref ad4, .int 0, .null, .null, .int 0]) q112 inX6 tyX6_ok nmX6 rfl (by decide) rfl rfl rfl rfl rfl (Nat.le_of_ble_eq_true rfl) rfl dX6_init_53 ?_
  refine y_aload_n C dX6_init_56 0 rfl ?_
  refine y_iconst (v := 0) C dX6_init_57 rfl ?_
  refine y_put C (c := 6) (k := 8) (N := 12) (T := TX6) (R := RX6) (fs' := [.int 0, .int 0, .ref ad1, .ref ad2, .ref ad3, .int 0, .int 0, .ref ad4, .int 0, .null, .null, .int 0]) q108 inX6 tyX6_ok nmX6 rfl (by decide) rfl rfl rfl rfl (Nat.le_of_ble_eq_true rfl) rfl dX6_init_58 ?_
  refine y_aload_n C dX6_init_61 0 rfl ?_
  refine y_bipush (v := 6) C dX6_init_62 rfl ?_
  refine y_newi (N := 6) C q1486 (by decide) rfl (Nat.le_of_ble_eq_true rfl) (Nat.le_of_ble_eq_true rfl) (Nat.le_of_ble_eq_true rfl) dX6_init_64 (fun ad5 => ?_)
  show Y Γ A G Qf _ _ _ _ _ _ ((h0, .inr (6, [.int 0, .int 0, .ref ad1, .ref ad2, .ref ad3, .int 0, .int 0, .ref ad4, .int 0, .null, .null, .int 0])) :: ((((([] ++ [(ad1, .inl (gC G 0, 24, .inl (fun _ => 0)))]) ++ [(ad2, .inl (gC G 0, 24, .inl (fun _ => 0)))]) ++ [(ad3, .inl (gC G 2, 24, .inl (fun _ => 0)))]) ++ [(ad4, .inl (gC G 0, 6, .inl (fun _ => 0)))]) ++ [(ad5, .inl (gC G 0, 6, .inl (fun _ => 0)))]))
  refine y_putF C hin (c := 6) (k := 9) (N := 12) (T := TX6) (R := RX6) (fs' := [.int 0, .int 0, .ref ad1, .ref ad2, .ref ad3, .int 0, .int 0, .ref ad4, .int 0, .ref ad5, .null, .int 0]) q113 inX6 tyX6_ok nmX6 rfl (by decide) rfl rfl rfl rfl rfl (Nat.le_of_ble_eq_true rfl) rfl dX6_init_66 ?_
  refine y_aload_n C dX6_init_69 0 rfl ?_
  refine y_bipush (v := 6) C dX6_init_70 rfl ?_
  refine y_iconst (v := 4) C dX6_init_72 rfl ?_
  refine y_mna (N := 6) (K := 4) C q1490 q1486 (by decide) (by decide) rfl rfl (Nat.le_of_ble_eq_true rfl) (Nat.le_of_ble_eq_true rfl) (Nat.le_of_ble_eq_true rfl) (Nat.le_of_ble_eq_true rfl) (Nat.le_of_ble_eq_true rfl) dX6_init_73 (fun ad6 ro6 => ?_)
  show Y Γ A G Qf _ _ _ _ _ _ ((h0, .inr (6, [.int 0, .int 0, .ref ad1, .ref ad2, .ref ad3, .int 0, .int 0, .ref ad4, .int 0, .ref ad5, .null, .int 0])) :: ((((((([] ++ [(ad1, .inl (gC G 0, 24, .inl (fun _ => 0)))]) ++ [(ad2, .inl (gC G 0, 24, .inl (fun _ => 0)))]) ++ [(ad3, .inl (gC G 2, 24, .inl (fun _ => 0)))]) ++ [(ad4, .inl (gC G 0, 6, .inl (fun _ => 0)))]) ++ [(ad5, .inl (gC G 0, 6, .inl (fun _ => 0)))]) ++ [(ad6, .inl (gC G 3, 6, .inr (.inr (.inr (.inr (fun j => if j < 6 then some (ro6 j) else none))))))]) ++ (List.range 6).map (fun j => (ro6 j, .inl (gC G 0, 4, .inl (fun _ => 0))))))
  refine y_putF C hin (c := 6) (k := 10) (N := 12) (T := TX6) (R := RX6) (fs' := [.int 0, .int 0, .ref ad1, .ref ad2, .ref ad3, .int 0, .int 0, .ref ad4, .int 0, .ref ad5, .ref ad6, .int 0]) q114 inX6 tyX6_ok nmX6 rfl (by decide) rfl rfl rfl rfl rfl (Nat.le_of_ble_eq_true rfl) rfl dX6_init_77 ?_
  refine y_aload_n C dX6_init_80 0 rfl ?_
  refine y_iconst (v := 0) C dX6_init_81 rfl ?_
  refine y_put C (c := 6) (k := 11) (N := 12) (T := TX6) (R := RX6) (fs' := [.int 0, .int 0, .ref ad1, .ref ad2, .ref ad3, .int 0, .int 0, .ref ad4, .int 0, .ref ad5, .ref ad6, .int 0]) q55 inX6 tyX6_ok nmX6 rfl (by decide) rfl rfl rfl rfl (Nat.le_of_ble_eq_true rfl) rfl dX6_init_82 ?_
  refine EN (fun c i => bif Nat.beq c 6 then h0 else bif Nat.beq c 702 then ad1 else bif Nat.beq c 703 then ad2 else bif Nat.beq c 704 then ad3 else bif Nat.beq c 707 then ad4 else bif Nat.beq c 709 then ad5 else bif Nat.beq c 710 then ad6 else bif Nat.beq c 5710 then ro6 i else 0) _ _ _ _ _ _ rfl ?_ dX6_init_85 (Nat.le_of_ble_eq_true rfl) (Nat.le_of_ble_eq_true rfl)
  simp only [wsI, S6_0, List.map_append, List.map_cons, List.map_nil, List.map_map, Function.comp_def, gaU, gCU, cv_0, cv_1, cv_2, cv_3, cv_4, cv_5, cv_6, cv_7, cv_8, cv_9, cv_10, cv_11, cv_102, cv_103, cv_104, cv_105, cv_201, cv_302, cv_303, cv_307, cv_308, cv_402, cv_501, cv_502, cv_503, cv_508, cv_509, cv_510, cv_511, cv_512, cv_702, cv_703, cv_704, cv_707, cv_709, cv_710, cv_902, cv_903, cv_1000, cv_1100, cv_1201, cv_1208, cv_1212, cv_1213, cv_1214, cv_1215, cv_1216, cv_1217, cv_1225, cv_1226, cv_1227, cv_1228, cv_1229, cv_1230, cv_1236, cv_1238, cv_1241, cv_1242, cv_1243, cv_1244, cv_1245, cv_1246, cv_1247, cv_1248, cv_1249, cv_1250, cv_1251, cv_1252, cv_1253, cv_1254, cv_1255, cv_5501, cv_5508, cv_5509, cv_5510, cv_5710, cv_5711, cv_6212, cv_6217, cv_6230, cv_6236, cv_6243, cv_6244, cv_6245, cv_9000]
  rfl

def rmX6_init_1 : Room := { frames := 1, cells := 12, slots := 114, locals := 12 }
def S6_1 : List (Nat × Nat) := (6, 1) :: ((((((([] ++ [(702, 1)]) ++ [(703, 1)]) ++ [(704, 1)]) ++ [(707, 1)]) ++ [(709, 1)]) ++ [(710, 1)]) ++ (List.range 6).map (fun j => (5711, j)))
set_option maxRecDepth 100000 in
set_option maxHeartbeats 4000000 in
theorem mX6_init_1 (l : Launch) (G : Gm) : CtN l G yX6_init cX6_init 1 rmX6_init_1 6 [.int 0, .int 0, .null, .null, .null, .int 0, .int 0, .null, .int 0, .null, .null, .int 0] [] S6_1 (fun h0 f => f 6 1 = h0) := by
  refine ctN_of (own := RX6) (by decide +kernel) rfl rfl (fun _ => Nat.le_of_ble_eq_true rfl) (fun Γ A Qf h0 hl C hin EN => ?_)
  subst hl
  show Y Γ A G Qf 1 0 0 0 [(0, .ref h0)] [] ((h0, .inr (6, [.int 0, .int 0, .null, .null, .null, .int 0, .int 0, .null, .int 0, .null, .null, .int 0])) :: [])
  refine y_aload_n C dX6_init_0 0 rfl ?_
  refine y_obj C q1488 q1481 q1482 (Nat.le_of_ble_eq_true rfl) (Nat.le_of_ble_eq_true rfl) dX6_init_1 ?_
  refine y_aload_n C dX6_init_4 0 rfl ?_
  refine y_iconst (v := 0) C dX6_init_5 rfl ?_
  refine y_put C (c := 6) (k := 0) (N := 12) (T := TX6) (R := RX6) (fs' := [.int 0, .int 0, .null, .null, .null, .int 0, .int 0, .null, .int 0, .null, .null, .int 0]) q105 inX6 tyX6_ok nmX6 rfl (by decide) rfl rfl rfl rfl (Nat.le_of_ble_eq_true rfl) rfl dX6_init_6 ?_
  refine y_aload_n C dX6_init_9 0 rfl ?_
  refine y_iconst (v := 0) C dX6_init_10 rfl ?_
  refine y_put C (c := 6) (k := 1) (N := 12) (T := TX6) (R := RX6) (fs' := [.int 0, .int 0, .null, .null, .null, .int 0, .int 0, .null, .int 0, .null, .null, .int 0]) q54 inX6 tyX6_ok nmX6 rfl (by decide) rfl rfl rfl rfl (Nat.le_of_ble_eq_true rfl) rfl dX6_init_11 ?_
  refine y_aload_n C dX6_init_14 0 rfl ?_
  refine y_bipush (v := 24) C dX6_init_15 rfl ?_
  refine y_newi (N := 24) C q1486 (by decide) rfl (Nat.le_of_ble_eq_true rfl) (Nat.le_of_ble_eq_true rfl) (Nat.le_of_ble_eq_true rfl) dX6_init_17 (fun ad1 => ?_)
  show Y Γ A G Qf _ _ _ _ _ _ ((h0, .inr (6, [.int 0, .int 0, .null, .null, .null, .int 0, .int 0, .null, .int 0, .null, .null, .int 0])) :: ([] ++ [(ad1, .inl (gC G 0, 24, .inl (fun _ => 0)))]))
  refine y_putF C hin (c := 6) (k := 2) (N := 12) (T := TX6) (R := RX6) (fs' := [.int 0, .int 0, .ref ad1, .null, .null, .int 0, .int 0, .null, .int 0, .null, .null, .int 0]) q109 inX6 tyX6_ok nmX6 rfl (by decide) rfl rfl rfl rfl rfl (Nat.le_of_ble_eq_true rfl) rfl dX6_init_19 ?_
  refine y_aload_n C dX6_init_22 0 rfl ?_
  refine y_bipush (v := 24) C dX6_init_23 rfl ?_
  refine y_newi (N := 24) C q1486 (by decide) rfl (Nat.le_of_ble_eq_true rfl) (Nat.le_of_ble_eq_true rfl) (Nat.le_of_ble_eq_true rfl) dX6_init_25 (fun ad2 => ?_)
  show Y Γ A G Qf _ _ _ _ _ _ ((h0, .inr (6, [.int 0, .int 0, .ref ad1, .null, .null, .int 0, .int 0, .null, .int 0, .null, .null, .int 0])) :: (([] ++ [(ad1, .inl (gC G 0, 24, .inl (fun _ => 0)))]) ++ [(ad2, .inl (gC G 0, 24, .inl (fun _ => 0)))]))
  refine y_putF C hin (c := 6) (k := 3) (N := 12) (T := TX6) (R := RX6) (fs' := [.int 0, .int 0, .ref ad1, .ref ad2, .null, .int 0, .int 0, .null, .int 0, .null, .null, .int 0]) q110 inX6 tyX6_ok nmX6 rfl (by decide) rfl rfl rfl rfl rfl (Nat.le_of_ble_eq_true rfl) rfl dX6_init_27 ?_
  refine y_aload_n C dX6_init_30 0 rfl ?_
  refine y_bipush (v := 24) C dX6_init_31 rfl ?_
  refine y_newz (N := 24) C q1489 (by decide) rfl (Nat.le_of_ble_eq_true rfl) (Nat.le_of_ble_eq_true rfl) (Nat.le_of_ble_eq_true rfl) dX6_init_33 (fun ad3 => ?_)
  show Y Γ A G Qf _ _ _ _ _ _ ((h0, .inr (6, [.int 0, .int 0, .ref ad1, .ref ad2, .null, .int 0, .int 0, .null, .int 0, .null, .null, .int 0])) :: ((([] ++ [(ad1, .inl (gC G 0, 24, .inl (fun _ => 0)))]) ++ [(ad2, .inl (gC G 0, 24, .inl (fun _ => 0)))]) ++ [(ad3, .inl (gC G 2, 24, .inl (fun _ => 0)))]))
  refine y_putF C hin (c := 6) (k := 4) (N := 12) (T := TX6) (R := RX6) (fs' := [.int 0, .int 0, .ref ad1, .ref ad2, .ref ad3, .int 0, .int 0, .null, .int 0, .null, .null, .int 0]) q111 inX6 tyX6_ok nmX6 rfl (by decide) rfl rfl rfl rfl rfl (Nat.le_of_ble_eq_true rfl) rfl dX6_init_35 ?_
  refine y_aload_n C dX6_init_38 0 rfl ?_
  refine y_iconst (v := 0) C dX6_init_39 rfl ?_
  refine y_put C (c := 6) (k := 5) (N := 12) (T := TX6) (R := RX6) (fs' := [.int 0, .int 0, .ref ad1, .ref ad2, .ref ad3, .int 0, .int 0, .null, .int 0, .null, .null, .int 0]) q106 inX6 tyX6_ok nmX6 rfl (by decide) rfl rfl rfl rfl (Nat.le_of_ble_eq_true rfl) rfl dX6_init_40 ?_
  refine y_aload_n C dX6_init_43 0 rfl ?_
  refine y_iconst (v := 0) C dX6_init_44 rfl ?_
  refine y_put C (c := 6) (k := 6) (N := 12) (T := TX6) (R := RX6) (fs' := [.int 0, .int 0, .ref ad1, .ref ad2, .ref ad3, .int 0, .int 0, .null, .int 0, .null, .null, .int 0]) q107 inX6 tyX6_ok nmX6 rfl (by decide) rfl rfl rfl rfl (Nat.le_of_ble_eq_true rfl) rfl dX6_init_45 ?_
  refine y_aload_n C dX6_init_48 0 rfl ?_
  refine y_bipush (v := 6) C dX6_init_49 rfl ?_
  refine y_newi (N := 6) C q1486 (by decide) rfl (Nat.le_of_ble_eq_true rfl) (Nat.le_of_ble_eq_true rfl) (Nat.le_of_ble_eq_true rfl) dX6_init_51 (fun ad4 => ?_)
  show Y Γ A G Qf _ _ _ _ _ _ ((h0, .inr (6, [.int 0, .int 0, .ref ad1, .ref ad2, .ref ad3, .int 0, .int 0, .null, .int 0, .null, .null, .int 0])) :: (((([] ++ [(ad1, .inl (gC G 0, 24, .inl (fun _ => 0)))]) ++ [(ad2, .inl (gC G 0, 24, .inl (fun _ => 0)))]) ++ [(ad3, .inl (gC G 2, 24, .inl (fun _ => 0)))]) ++ [(ad4, .inl (gC G 0, 6, .inl (fun _ => 0)))]))
  refine y_putF C hin (c := 6) (k := 7) (N := 12) (T := TX6) (R := RX6) (fs' := [.int 0, .int 0, .ref ad1, .ref ad2, .ref ad3, .int 0, .int 0, .ref ad4, .int 0, .null, .null, .int 0]) q112 inX6 tyX6_ok nmX6 rfl (by decide) rfl rfl rfl rfl rfl (Nat.le_of_ble_eq_true rfl) rfl dX6_init_53 ?_
  refine y_aload_n C dX6_init_56 0 rfl ?_
  refine y_iconst (v := 0) C dX6_init_57 rfl ?_
  refine y_put C (c := 6) (k := 8) (N := 12) (T := TX6) (R := RX6) (fs' := [.int 0, .int 0, .ref ad1, .ref ad2, .ref ad3, .int 0, .int 0, .ref ad4, .int 0, .null, .null, .int 0]) q108 inX6 tyX6_ok nmX6 rfl (by decide) rfl rfl rfl rfl (Nat.le_of_ble_eq_true rfl) rfl dX6_init_58 ?_
  refine y_aload_n C dX6_init_61 0 rfl ?_
  refine y_bipush (v := 6) C dX6_init_62 rfl ?_
  refine y_newi (N := 6) C q1486 (by decide) rfl (Nat.le_of_ble_eq_true rfl) (Nat.le_of_ble_eq_true rfl) (Nat.le_of_ble_eq_true rfl) dX6_init_64 (fun ad5 => ?_)
  show Y Γ A G Qf _ _ _ _ _ _ ((h0, .inr (6, [.int 0, .int 0, .ref ad1, .ref ad2, .ref ad3, .int 0, .int 0, .ref ad4, .int 0, .null, .null, .int 0])) :: ((((([] ++ [(ad1, .inl (gC G 0, 24, .inl (fun _ => 0)))]) ++ [(ad2, .inl (gC G 0, 24, .inl (fun _ => 0)))]) ++ [(ad3, .inl (gC G 2, 24, .inl (fun _ => 0)))]) ++ [(ad4, .inl (gC G 0, 6, .inl (fun _ => 0)))]) ++ [(ad5, .inl (gC G 0, 6, .inl (fun _ => 0)))]))
  refine y_putF C hin (c := 6) (k := 9) (N := 12) (T := TX6) (R := RX6) (fs' := [.int 0, .int 0, .ref ad1, .ref ad2, .ref ad3, .int 0, .int 0, .ref ad4, .int 0, .ref ad5, .null, .int 0]) q113 inX6 tyX6_ok nmX6 rfl (by decide) rfl rfl rfl rfl rfl (Nat.le_of_ble_eq_true rfl) rfl dX6_init_66 ?_
  refine y_aload_n C dX6_init_69 0 rfl ?_
  refine y_bipush (v := 6) C dX6_init_70 rfl ?_
  refine y_iconst (v := 4) C dX6_init_72 rfl ?_
  refine y_mna (N := 6) (K := 4) C q1490 q1486 (by decide) (by decide) rfl rfl (Nat.le_of_ble_eq_true rfl) (Nat.le_of_ble_eq_true rfl) (Nat.le_of_ble_eq_true rfl) (Nat.le_of_ble_eq_true rfl) (Nat.le_of_ble_eq_true rfl) dX6_init_73 (fun ad6 ro6 => ?_)
  show Y Γ A G Qf _ _ _ _ _ _ ((h0, .inr (6, [.int 0, .int 0, .ref ad1, .ref ad2, .ref ad3, .int 0, .int 0, .ref ad4, .int 0, .ref ad5, .null, .int 0])) :: ((((((([] ++ [(ad1, .inl (gC G 0, 24, .inl (fun _ => 0)))]) ++ [(ad2, .inl (gC G 0, 24, .inl (fun _ => 0)))]) ++ [(ad3, .inl (gC G 2, 24, .inl (fun _ => 0)))]) ++ [(ad4, .inl (gC G 0, 6, .inl (fun _ => 0)))]) ++ [(ad5, .inl (gC G 0, 6, .inl (fun _ => 0)))]) ++ [(ad6, .inl (gC G 3, 6, .inr (.inr (.inr (.inr (fun j => if j < 6 then some (ro6 j) else none))))))]) ++ (List.range 6).map (fun j => (ro6 j, .inl (gC G 0, 4, .inl (fun _ => 0))))))
  refine y_putF C hin (c := 6) (k := 10) (N := 12) (T := TX6) (R := RX6) (fs' := [.int 0, .int 0, .ref ad1, .ref ad2, .ref ad3, .int 0, .int 0, .ref ad4, .int 0, .ref ad5, .ref ad6, .int 0]) q114 inX6 tyX6_ok nmX6 rfl (by decide) rfl rfl rfl rfl rfl (Nat.le_of_ble_eq_true rfl) rfl dX6_init_77 ?_
  refine y_aload_n C dX6_init_80 0 rfl ?_
  refine y_iconst (v := 0) C dX6_init_81 rfl ?_
  refine y_put C (c := 6) (k := 11) (N := 12) (T := TX6) (R := RX6) (fs' := [.int 0, .int 0, .ref ad1, .ref ad2, .ref ad3, .int 0, .int 0, .ref ad4, .int 0, .ref ad5, .ref ad6, .int 0]) q55 inX6 tyX6_ok nmX6 rfl (by decide) rfl rfl rfl rfl (Nat.le_of_ble_eq_true rfl) rfl dX6_init_82 ?_
  refine EN (fun c i => bif Nat.beq c 6 then h0 else bif Nat.beq c 702 then ad1 else bif Nat.beq c 703 then ad2 else bif Nat.beq c 704 then ad3 else bif Nat.beq c 707 then ad4 else bif Nat.beq c 709 then ad5 else bif Nat.beq c 710 then ad6 else bif Nat.beq c 5711 then ro6 i else 0) _ _ _ _ _ _ rfl ?_ dX6_init_85 (Nat.le_of_ble_eq_true rfl) (Nat.le_of_ble_eq_true rfl)
  simp only [wsI, S6_1, List.map_append, List.map_cons, List.map_nil, List.map_map, Function.comp_def, gaU, gCU, cv_0, cv_1, cv_2, cv_3, cv_4, cv_5, cv_6, cv_7, cv_8, cv_9, cv_10, cv_11, cv_102, cv_103, cv_104, cv_105, cv_201, cv_302, cv_303, cv_307, cv_308, cv_402, cv_501, cv_502, cv_503, cv_508, cv_509, cv_510, cv_511, cv_512, cv_702, cv_703, cv_704, cv_707, cv_709, cv_710, cv_902, cv_903, cv_1000, cv_1100, cv_1201, cv_1208, cv_1212, cv_1213, cv_1214, cv_1215, cv_1216, cv_1217, cv_1225, cv_1226, cv_1227, cv_1228, cv_1229, cv_1230, cv_1236, cv_1238, cv_1241, cv_1242, cv_1243, cv_1244, cv_1245, cv_1246, cv_1247, cv_1248, cv_1249, cv_1250, cv_1251, cv_1252, cv_1253, cv_1254, cv_1255, cv_5501, cv_5508, cv_5509, cv_5510, cv_5710, cv_5711, cv_6212, cv_6217, cv_6230, cv_6236, cv_6243, cv_6244, cv_6245, cv_9000]
  rfl

def rmX1_init : Room := { frames := 1, cells := 1, slots := 150, locals := 12 }
def S1 : List (Nat × Nat) := (1, 0) :: ([] ++ [(201, 0)])
set_option maxRecDepth 100000 in
set_option maxHeartbeats 4000000 in
theorem mX1_init (l : Launch) (G : Gm) (w1 : Nat) : CtN l G yX1_init cX1_init 2 rmX1_init 1 [.null, .null, .int 0, .int 0] [.ref w1] S1 (fun h0 f => f 1 0 = h0 ∧ f 9 0 = w1) := by
  refine ctN_of (own := RX1) (by decide +kernel) rfl rfl (fun _ => Nat.le_of_ble_eq_true rfl) (fun Γ A Qf h0 hl C hin EN => ?_)
  subst hl
  show Y Γ A G Qf 2 0 0 0 [(0, .ref h0), (1, .ref w1)] [] ((h0, .inr (1, [.null, .null, .int 0, .int 0])) :: [])
  refine y_aload_n C dX1_init_0 0 rfl ?_
  refine y_obj C q1491 q1481 q1482 (Nat.le_of_ble_eq_true rfl) (Nat.le_of_ble_eq_true rfl) dX1_init_1 ?_
  refine y_aload_n C dX1_init_4 0 rfl ?_
  refine y_sipush (v := 150) C dX1_init_5 rfl ?_
  refine y_newi (N := 150) C q1486 (by decide) rfl (Nat.le_of_ble_eq_true rfl) (Nat.le_of_ble_eq_true rfl) (Nat.le_of_ble_eq_true rfl) dX1_init_8 (fun ad1 => ?_)
  show Y Γ A G Qf _ _ _ _ _ _ ((h0, .inr (1, [.null, .null, .int 0, .int 0])) :: ([] ++ [(ad1, .inl (gC G 0, 150, .inl (fun _ => 0)))]))
  refine y_putF C hin (c := 1) (k := 1) (N := 4) (T := TX1) (R := RX1) (fs' := [.null, .ref ad1, .int 0, .int 0]) q44 inX1 tyX1_ok nmX1 rfl (by decide) rfl rfl rfl rfl rfl (Nat.le_of_ble_eq_true rfl) rfl dX1_init_10 ?_
  refine y_aload_n C dX1_init_13 0 rfl ?_
  refine y_iconst (v := 0) C dX1_init_14 rfl ?_
  refine y_put C (c := 1) (k := 2) (N := 4) (T := TX1) (R := RX1) (fs' := [.null, .ref ad1, .int 0, .int 0]) q45 inX1 tyX1_ok nmX1 rfl (by decide) rfl rfl rfl rfl (Nat.le_of_ble_eq_true rfl) rfl dX1_init_15 ?_
  refine y_aload_n C dX1_init_18 0 rfl ?_
  refine y_iconst (v := (-1)) C dX1_init_19 rfl ?_
  refine y_put C (c := 1) (k := 3) (N := 4) (T := TX1) (R := RX1) (fs' := [.null, .ref ad1, .int 0, .int (-1)]) q39 inX1 tyX1_ok nmX1 rfl (by decide) rfl rfl rfl rfl (Nat.le_of_ble_eq_true rfl) rfl dX1_init_20 ?_
  refine y_aload_n C dX1_init_23 0 rfl ?_
  refine y_aload_n C dX1_init_24 1 rfl ?_
  refine y_putF C hin (c := 1) (k := 0) (N := 4) (T := TX1) (R := RX1) (fs' := [.ref w1, .ref ad1, .int 0, .int (-1)]) q43 inX1 tyX1_ok nmX1 rfl (by decide) rfl rfl rfl rfl rfl (Nat.le_of_ble_eq_true rfl) rfl dX1_init_25 ?_
  refine EN (fun c i => bif Nat.beq c 1 then h0 else bif Nat.beq c 201 then ad1 else bif Nat.beq c 9 then w1 else 0) _ _ _ _ _ _ ⟨rfl, rfl⟩ ?_ dX1_init_28 (Nat.le_of_ble_eq_true rfl) (Nat.le_of_ble_eq_true rfl)
  simp only [wsI, S1, List.map_append, List.map_cons, List.map_nil, List.map_map, Function.comp_def, gaU, gCU, cv_0, cv_1, cv_2, cv_3, cv_4, cv_5, cv_6, cv_7, cv_8, cv_9, cv_10, cv_11, cv_102, cv_103, cv_104, cv_105, cv_201, cv_302, cv_303, cv_307, cv_308, cv_402, cv_501, cv_502, cv_503, cv_508, cv_509, cv_510, cv_511, cv_512, cv_702, cv_703, cv_704, cv_707, cv_709, cv_710, cv_902, cv_903, cv_1000, cv_1100, cv_1201, cv_1208, cv_1212, cv_1213, cv_1214, cv_1215, cv_1216, cv_1217, cv_1225, cv_1226, cv_1227, cv_1228, cv_1229, cv_1230, cv_1236, cv_1238, cv_1241, cv_1242, cv_1243, cv_1244, cv_1245, cv_1246, cv_1247, cv_1248, cv_1249, cv_1250, cv_1251, cv_1252, cv_1253, cv_1254, cv_1255, cv_5501, cv_5508, cv_5509, cv_5510, cv_5710, cv_5711, cv_6212, cv_6217, cv_6230, cv_6236, cv_6243, cv_6244, cv_6245, cv_9000]
  rfl

def rmX7_init : Room := { frames := 2, cells := 13, slots := 126, locals := 32 }
def S7 : List (Nat × Nat) := (7, 0) :: ([] ++ S6_1)
set_option maxRecDepth 100000 in
set_option maxHeartbeats 4000000 in
theorem mX7_init (l : Launch) (G : Gm) (w1 : Nat) : CtN l G yX7_init cX7_init 2 rmX7_init 7 [.null, .null, .int 0, .int 0, .int 0, .int 0, .long 0] [.ref w1] S7 (fun h0 f => f 7 0 = h0 ∧ f 9 0 = w1) := by
  refine ctN_of (own := RX7) (by decide +kernel) rfl rfl (fun _ => Nat.le_of_ble_eq_true rfl) (fun Γ A Qf h0 hl C hin EN => ?_)
  subst hl
  show Y Γ A G Qf 2 0 0 0 [(0, .ref h0), (1, .ref w1)] [] ((h0, .inr (7, [.null, .null, .int 0, .int 0, .int 0, .int 0, .long 0])) :: [])
  refine y_aload_n C dX7_init_0 0 rfl ?_
  refine y_obj C q1492 q1481 q1482 (Nat.le_of_ble_eq_true rfl) (Nat.le_of_ble_eq_true rfl) dX7_init_1 ?_
  refine y_aload_n C dX7_init_4 0 rfl ?_
  refine y_new (c := 6) C inX6 tyX6_ok rfl q1493 q1494 q289 nX6 (Nat.le_of_ble_eq_true rfl) (Nat.le_of_ble_eq_true rfl) dX7_init_5 (fun ad1 => ?_)
  show Y Γ A G Qf _ _ _ _ _ _ ((h0, .inr (7, [.null, .null, .int 0, .int 0, .int 0, .int 0, .long 0])) :: ([] ++ [(ad1, .inr (6, [.int 0, .int 0, .null, .null, .null, .int 0, .int 0, .null, .int 0, .null, .null, .int 0]))]))
  refine y_dup C dX7_init_8 rfl ?_
  refine y_init (ce := 1) (sl := 12) (ws := (h0, .inr (7, [.null, .null, .int 0, .int 0, .int 0, .int 0, .long 0])) :: []) (As := []) (rest := [.ref ad1, .ref h0]) C si_X7_11 (mX6_init_1 (gl Γ) G ) rfl rfl (Nat.le_of_ble_eq_true rfl) ⟨(Nat.le_of_ble_eq_true rfl), (Nat.le_of_ble_eq_true rfl)⟩ ⟨(Nat.le_of_ble_eq_true rfl), (Nat.le_of_ble_eq_true rfl)⟩ dX7_init_9 (fun f2 hf2 => ?_)
  have hf2 : f2 6 1 = ad1 := hf2
  obtain rfl := hf2
  show Y Γ A G Qf _ _ _ _ _ _ ((h0, .inr (7, [.null, .null, .int 0, .int 0, .int 0, .int 0, .long 0])) :: ([] ++ wsI S6_1 (upG G f2) M0))
  refine y_putF C hin (c := 7) (k := 1) (N := 7) (T := TX7) (R := RX7) (fs' := [.null, .ref (f2 6 1), .int 0, .int 0, .int 0, .int 0, .long 0]) q120 inX7 tyX7_ok nmX7 rfl (by decide) rfl rfl rfl rfl rfl (Nat.le_of_ble_eq_true rfl) rfl dX7_init_12 ?_
  refine y_aload_n C dX7_init_15 0 rfl ?_
  refine y_iconst (v := (-1)) C dX7_init_16 rfl ?_
  refine y_put C (c := 7) (k := 2) (N := 7) (T := TX7) (R := RX7) (fs' := [.null, .ref (f2 6 1), .int (-1), .int 0, .int 0, .int 0, .long 0]) q123 inX7 tyX7_ok nmX7 rfl (by decide) rfl rfl rfl rfl (Nat.le_of_ble_eq_true rfl) rfl dX7_init_17 ?_
  refine y_aload_n C dX7_init_20 0 rfl ?_
  refine y_iconst (v := 0) C dX7_init_21 rfl ?_
  refine y_put C (c := 7) (k := 3) (N := 7) (T := TX7) (R := RX7) (fs' := [.null, .ref (f2 6 1), .int (-1), .int 0, .int 0, .int 0, .long 0]) q117 inX7 tyX7_ok nmX7 rfl (by decide) rfl rfl rfl rfl (Nat.le_of_ble_eq_true rfl) rfl dX7_init_22 ?_
  refine y_aload_n C dX7_init_25 0 rfl ?_
  refine y_iconst (v := 0) C dX7_init_26 rfl ?_
  refine y_put C (c := 7) (k := 4) (N := 7) (T := TX7) (R := RX7) (fs' := [.null, .ref (f2 6 1), .int (-1), .int 0, .int 0, .int 0, .long 0]) q118 inX7 tyX7_ok nmX7 rfl (by decide) rfl rfl rfl rfl (Nat.le_of_ble_eq_true rfl) rfl dX7_init_27 ?_
  refine y_aload_n C dX7_init_30 0 rfl ?_
  refine y_iconst (v := 0) C dX7_init_31 rfl ?_
  refine y_put C (c := 7) (k := 5) (N := 7) (T := TX7) (R := RX7) (fs' := [.null, .ref (f2 6 1), .int (-1), .int 0, .int 0, .int 0, .long 0]) q115 inX7 tyX7_ok nmX7 rfl (by decide) rfl rfl rfl rfl (Nat.le_of_ble_eq_true rfl) rfl dX7_init_32 ?_
  refine y_aload_n C dX7_init_35 0 rfl ?_
  refine y_lconst (v := 0) C dX7_init_36 rfl ?_
  refine y_put C (c := 7) (k := 6) (N := 7) (T := TX7) (R := RX7) (fs' := [.null, .ref (f2 6 1), .int (-1), .int 0, .int 0, .int 0, .long 0]) q116 inX7 tyX7_ok nmX7 rfl (by decide) rfl rfl rfl rfl (Nat.le_of_ble_eq_true rfl) rfl dX7_init_37 ?_
  refine y_aload_n C dX7_init_40 0 rfl ?_
  refine y_aload_n C dX7_init_41 1 rfl ?_
  refine y_putF C hin (c := 7) (k := 0) (N := 7) (T := TX7) (R := RX7) (fs' := [.ref w1, .ref (f2 6 1), .int (-1), .int 0, .int 0, .int 0, .long 0]) q119 inX7 tyX7_ok nmX7 rfl (by decide) rfl rfl rfl rfl rfl (Nat.le_of_ble_eq_true rfl) rfl dX7_init_42 ?_
  refine EN (fun c i => bif Nat.beq c 7 then h0 else bif Nat.beq c 9 then w1 else f2 c i) _ _ _ _ _ _ ⟨rfl, rfl⟩ ?_ dX7_init_45 (Nat.le_of_ble_eq_true rfl) (Nat.le_of_ble_eq_true rfl)
  rw [wsI_congr (S := S6_1) (f := f2) (g := fun c i => bif Nat.beq c 7 then h0 else bif Nat.beq c 9 then w1 else f2 c i) (fun d => !(Nat.beq d.1 7) && !(Nat.beq d.1 9)) (by decide +kernel) (fun d hd => ?_)]
  · simp only [wsI, S7, List.map_append, List.map_cons, List.map_nil, List.map_map, Function.comp_def, gaU, gCU, cv_0, cv_1, cv_2, cv_3, cv_4, cv_5, cv_6, cv_7, cv_8, cv_9, cv_10, cv_11, cv_102, cv_103, cv_104, cv_105, cv_201, cv_302, cv_303, cv_307, cv_308, cv_402, cv_501, cv_502, cv_503, cv_508, cv_509, cv_510, cv_511, cv_512, cv_702, cv_703, cv_704, cv_707, cv_709, cv_710, cv_902, cv_903, cv_1000, cv_1100, cv_1201, cv_1208, cv_1212, cv_1213, cv_1214, cv_1215, cv_1216, cv_1217, cv_1225, cv_1226, cv_1227, cv_1228, cv_1229, cv_1230, cv_1236, cv_1238, cv_1241, cv_1242, cv_1243, cv_1244, cv_1245, cv_1246, cv_1247, cv_1248, cv_1249, cv_1250, cv_1251, cv_1252, cv_1253, cv_1254, cv_1255, cv_5501, cv_5508, cv_5509, cv_5510, cv_5710, cv_5711, cv_6212, cv_6217, cv_6230, cv_6236, cv_6243, cv_6244, cv_6245, cv_9000]
    rfl
  · simp only [Bool.and_eq_true, Bool.not_eq_true'] at hd
    show _ = bif Nat.beq d.1 7 then h0 else bif Nat.beq d.1 9 then w1 else _
    rw [hd.1, hd.2]
    rfl

def rmX3_init : Room := { frames := 1, cells := 1, slots := 24, locals := 12 }
def S3 : List (Nat × Nat) := (3, 0) :: ([] ++ [(402, 0)])
set_option maxRecDepth 100000 in
set_option maxHeartbeats 4000000 in
theorem mX3_init (l : Launch) (G : Gm) (w1 w2 : Nat) : CtN l G yX3_init cX3_init 3 rmX3_init 3 [.null, .null, .null, .int 0, .int 0] [.ref w1, .ref w2] S3 (fun h0 f => f 3 0 = h0 ∧ f 4 0 = w1 ∧ f 6 0 = w2) := by
  refine ctN_of (own := RX3) (by decide +kernel) rfl rfl (fun _ => Nat.le_of_ble_eq_true rfl) (fun Γ A Qf h0 hl C hin EN => ?_)
  subst hl
  show Y Γ A G Qf 3 0 0 0 [(0, .ref h0), (1, .ref w1), (2, .ref w2)] [] ((h0, .inr (3, [.null, .null, .null, .int 0, .int 0])) :: [])
  refine y_aload_n C dX3_init_0 0 rfl ?_
  refine y_obj C q1495 q1481 q1482 (Nat.le_of_ble_eq_true rfl) (Nat.le_of_ble_eq_true rfl) dX3_init_1 ?_
  refine y_aload_n C dX3_init_4 0 rfl ?_
  refine y_bipush (v := 24) C dX3_init_5 rfl ?_
  refine y_newi (N := 24) C q1486 (by decide) rfl (Nat.le_of_ble_eq_true rfl) (Nat.le_of_ble_eq_true rfl) (Nat.le_of_ble_eq_true rfl) dX3_init_7 (fun ad1 => ?_)
  show Y Γ A G Qf _ _ _ _ _ _ ((h0, .inr (3, [.null, .null, .null, .int 0, .int 0])) :: ([] ++ [(ad1, .inl (gC G 0, 24, .inl (fun _ => 0)))]))
  refine y_putF C hin (c := 3) (k := 2) (N := 5) (T := TX3) (R := RX3) (fs' := [.null, .null, .ref ad1, .int 0, .int 0]) q91 inX3 tyX3_ok nmX3 rfl (by decide) rfl rfl rfl rfl rfl (Nat.le_of_ble_eq_true rfl) rfl dX3_init_9 ?_
  refine y_aload_n C dX3_init_12 0 rfl ?_
  refine y_iconst (v := (-1)) C dX3_init_13 rfl ?_
  refine y_put C (c := 3) (k := 3) (N := 5) (T := TX3) (R := RX3) (fs' := [.null, .null, .ref ad1, .int (-1), .int 0]) q92 inX3 tyX3_ok nmX3 rfl (by decide) rfl rfl rfl rfl (Nat.le_of_ble_eq_true rfl) rfl dX3_init_14 ?_
  refine y_aload_n C dX3_init_17 0 rfl ?_
  refine y_iconst (v := 0) C dX3_init_18 rfl ?_
  refine y_put C (c := 3) (k := 4) (N := 5) (T := TX3) (R := RX3) (fs' := [.null, .null, .ref ad1, .int (-1), .int 0]) q93 inX3 tyX3_ok nmX3 rfl (by decide) rfl rfl rfl rfl (Nat.le_of_ble_eq_true rfl) rfl dX3_init_19 ?_
  refine y_aload_n C dX3_init_22 0 rfl ?_
  refine y_aload_n C dX3_init_23 1 rfl ?_
  refine y_putF C hin (c := 3) (k := 0) (N := 5) (T := TX3) (R := RX3) (fs' := [.ref w1, .null, .ref ad1, .int (-1), .int 0]) q64 inX3 tyX3_ok nmX3 rfl (by decide) rfl rfl rfl rfl rfl (Nat.le_of_ble_eq_true rfl) rfl dX3_init_24 ?_
  refine y_aload_n C dX3_init_27 0 rfl ?_
  refine y_aload_n C dX3_init_28 2 rfl ?_
  refine y_putF C hin (c := 3) (k := 1) (N := 5) (T := TX3) (R := RX3) (fs' := [.ref w1, .ref w2, .ref ad1, .int (-1), .int 0]) q66 inX3 tyX3_ok nmX3 rfl (by decide) rfl rfl rfl rfl rfl (Nat.le_of_ble_eq_true rfl) rfl dX3_init_29 ?_
  refine EN (fun c i => bif Nat.beq c 3 then h0 else bif Nat.beq c 402 then ad1 else bif Nat.beq c 4 then w1 else bif Nat.beq c 6 then w2 else 0) _ _ _ _ _ _ ⟨rfl, rfl, rfl⟩ ?_ dX3_init_32 (Nat.le_of_ble_eq_true rfl) (Nat.le_of_ble_eq_true rfl)
  simp only [wsI, S3, List.map_append, List.map_cons, List.map_nil, List.map_map, Function.comp_def, gaU, gCU, cv_0, cv_1, cv_2, cv_3, cv_4, cv_5, cv_6, cv_7, cv_8, cv_9, cv_10, cv_11, cv_102, cv_103, cv_104, cv_105, cv_201, cv_302, cv_303, cv_307, cv_308, cv_402, cv_501, cv_502, cv_503, cv_508, cv_509, cv_510, cv_511, cv_512, cv_702, cv_703, cv_704, cv_707, cv_709, cv_710, cv_902, cv_903, cv_1000, cv_1100, cv_1201, cv_1208, cv_1212, cv_1213, cv_1214, cv_1215, cv_1216, cv_1217, cv_1225, cv_1226, cv_1227, cv_1228, cv_1229, cv_1230, cv_1236, cv_1238, cv_1241, cv_1242, cv_1243, cv_1244, cv_1245, cv_1246, cv_1247, cv_1248, cv_1249, cv_1250, cv_1251, cv_1252, cv_1253, cv_1254, cv_1255, cv_5501, cv_5508, cv_5509, cv_5510, cv_5710, cv_5711, cv_6212, cv_6217, cv_6230, cv_6236, cv_6243, cv_6244, cv_6245, cv_9000]
  rfl

def rmX8_init_0 : Room := { frames := 1, cells := 2, slots := 128, locals := 12 }
def S8_0 : List (Nat × Nat) := (8, 0) :: (([] ++ [(902, 0)]) ++ [(903, 0)])
set_option maxRecDepth 100000 in
set_option maxHeartbeats 4000000 in
theorem mX8_init_0 (l : Launch) (G : Gm) (w1 w2 : Nat) : CtN l G yX8_init cX8_init 3 rmX8_init_0 8 [.null, .null, .null, .null, .int 0] [.ref w1, .ref w2] S8_0 (fun h0 f => f 8 0 = h0 ∧ f 4 0 = w1 ∧ f 3 0 = w2) := by
  refine ctN_of (own := RX8) (by decide +kernel) rfl rfl (fun _ => Nat.le_of_ble_eq_true rfl) (fun Γ A Qf h0 hl C hin EN => ?_)
  subst hl
  show Y Γ A G Qf 3 0 0 0 [(0, .ref h0), (1, .ref w1), (2, .ref w2)] [] ((h0, .inr (8, [.null, .null, .null, .null, .int 0])) :: [])
  refine y_aload_n C dX8_init_0 0 rfl ?_
  refine y_obj C q1496 q1481 q1482 (Nat.le_of_ble_eq_true rfl) (Nat.le_of_ble_eq_true rfl) dX8_init_1 ?_
  refine y_aload_n C dX8_init_4 0 rfl ?_
  refine y_bipush (v := 64) C dX8_init_5 rfl ?_
  refine y_newi (N := 64) C q1486 (by decide) rfl (Nat.le_of_ble_eq_true rfl) (Nat.le_of_ble_eq_true rfl) (Nat.le_of_ble_eq_true rfl) dX8_init_7 (fun ad1 => ?_)
  show Y Γ A G Qf _ _ _ _ _ _ ((h0, .inr (8, [.null, .null, .null, .null, .int 0])) :: ([] ++ [(ad1, .inl (gC G 0, 64, .inl (fun _ => 0)))]))
  refine y_putF C hin (c := 8) (k := 2) (N := 5) (T := TX8) (R := RX8) (fs' := [.null, .null, .ref ad1, .null, .int 0]) q126 inX8 tyX8_ok nmX8 rfl (by decide) rfl rfl rfl rfl rfl (Nat.le_of_ble_eq_true rfl) rfl dX8_init_9 ?_
  refine y_aload_n C dX8_init_12 0 rfl ?_
  refine y_bipush (v := 64) C dX8_init_13 rfl ?_
  refine y_newi (N := 64) C q1486 (by decide) rfl (Nat.le_of_ble_eq_true rfl) (Nat.le_of_ble_eq_true rfl) (Nat.le_of_ble_eq_true rfl) dX8_init_15 (fun ad2 => ?_)
  show Y Γ A G Qf _ _ _ _ _ _ ((h0, .inr (8, [.null, .null, .ref ad1, .null, .int 0])) :: (([] ++ [(ad1, .inl (gC G 0, 64, .inl (fun _ => 0)))]) ++ [(ad2, .inl (gC G 0, 64, .inl (fun _ => 0)))]))
  refine y_putF C hin (c := 8) (k := 3) (N := 5) (T := TX8) (R := RX8) (fs' := [.null, .null, .ref ad1, .ref ad2, .int 0]) q125 inX8 tyX8_ok nmX8 rfl (by decide) rfl rfl rfl rfl rfl (Nat.le_of_ble_eq_true rfl) rfl dX8_init_17 ?_
  refine y_aload_n C dX8_init_20 0 rfl ?_
  refine y_iconst (v := 0) C dX8_init_21 rfl ?_
  refine y_put C (c := 8) (k := 4) (N := 5) (T := TX8) (R := RX8) (fs' := [.null, .null, .ref ad1, .ref ad2, .int 0]) q124 inX8 tyX8_ok nmX8 rfl (by decide) rfl rfl rfl rfl (Nat.le_of_ble_eq_true rfl) rfl dX8_init_22 ?_
  refine y_aload_n C dX8_init_25 0 rfl ?_
  refine y_aload_n C dX8_init_26 1 rfl ?_
  refine y_putF C hin (c := 8) (k := 0) (N := 5) (T := TX8) (R := RX8) (fs' := [.ref w1, .null, .ref ad1, .ref ad2, .int 0]) q127 inX8 tyX8_ok nmX8 rfl (by decide) rfl rfl rfl rfl rfl (Nat.le_of_ble_eq_true rfl) rfl dX8_init_27 ?_
  refine y_aload_n C dX8_init_30 0 rfl ?_
  refine y_aload_n C dX8_init_31 2 rfl ?_
  refine y_putF C hin (c := 8) (k := 1) (N := 5) (T := TX8) (R := RX8) (fs' := [.ref w1, .ref w2, .ref ad1, .ref ad2, .int 0]) q129 inX8 tyX8_ok nmX8 rfl (by decide) rfl rfl rfl rfl rfl (Nat.le_of_ble_eq_true rfl) rfl dX8_init_32 ?_
  refine EN (fun c i => bif Nat.beq c 8 then h0 else bif Nat.beq c 902 then ad1 else bif Nat.beq c 903 then ad2 else bif Nat.beq c 4 then w1 else bif Nat.beq c 3 then w2 else 0) _ _ _ _ _ _ ⟨rfl, rfl, rfl⟩ ?_ dX8_init_35 (Nat.le_of_ble_eq_true rfl) (Nat.le_of_ble_eq_true rfl)
  simp only [wsI, S8_0, List.map_append, List.map_cons, List.map_nil, List.map_map, Function.comp_def, gaU, gCU, cv_0, cv_1, cv_2, cv_3, cv_4, cv_5, cv_6, cv_7, cv_8, cv_9, cv_10, cv_11, cv_102, cv_103, cv_104, cv_105, cv_201, cv_302, cv_303, cv_307, cv_308, cv_402, cv_501, cv_502, cv_503, cv_508, cv_509, cv_510, cv_511, cv_512, cv_702, cv_703, cv_704, cv_707, cv_709, cv_710, cv_902, cv_903, cv_1000, cv_1100, cv_1201, cv_1208, cv_1212, cv_1213, cv_1214, cv_1215, cv_1216, cv_1217, cv_1225, cv_1226, cv_1227, cv_1228, cv_1229, cv_1230, cv_1236, cv_1238, cv_1241, cv_1242, cv_1243, cv_1244, cv_1245, cv_1246, cv_1247, cv_1248, cv_1249, cv_1250, cv_1251, cv_1252, cv_1253, cv_1254, cv_1255, cv_5501, cv_5508, cv_5509, cv_5510, cv_5710, cv_5711, cv_6212, cv_6217, cv_6230, cv_6236, cv_6243, cv_6244, cv_6245, cv_9000]
  rfl

def rmX8_init_1 : Room := { frames := 1, cells := 2, slots := 128, locals := 12 }
def S8_1 : List (Nat × Nat) := (8, 1) :: (([] ++ [(902, 1)]) ++ [(903, 1)])
set_option maxRecDepth 100000 in
set_option maxHeartbeats 4000000 in
theorem mX8_init_1 (l : Launch) (G : Gm) (w1 w2 : Nat) : CtN l G yX8_init cX8_init 3 rmX8_init_1 8 [.null, .null, .null, .null, .int 0] [.ref w1, .ref w2] S8_1 (fun h0 f => f 8 1 = h0 ∧ f 4 0 = w1 ∧ f 3 0 = w2) := by
  refine ctN_of (own := RX8) (by decide +kernel) rfl rfl (fun _ => Nat.le_of_ble_eq_true rfl) (fun Γ A Qf h0 hl C hin EN => ?_)
  subst hl
  show Y Γ A G Qf 3 0 0 0 [(0, .ref h0), (1, .ref w1), (2, .ref w2)] [] ((h0, .inr (8, [.null, .null, .null, .null, .int 0])) :: [])
  refine y_aload_n C dX8_init_0 0 rfl ?_
  refine y_obj C q1496 q1481 q1482 (Nat.le_of_ble_eq_true rfl) (Nat.le_of_ble_eq_true rfl) dX8_init_1 ?_
  refine y_aload_n C dX8_init_4 0 rfl ?_
  refine y_bipush (v := 64) C dX8_init_5 rfl ?_
  refine y_newi (N := 64) C q1486 (by decide) rfl (Nat.le_of_ble_eq_true rfl) (Nat.le_of_ble_eq_true rfl) (Nat.le_of_ble_eq_true rfl) dX8_init_7 (fun ad1 => ?_)
  show Y Γ A G Qf _ _ _ _ _ _ ((h0, .inr (8, [.null, .null, .null, .null, .int 0])) :: ([] ++ [(ad1, .inl (gC G 0, 64, .inl (fun _ => 0)))]))
  refine y_putF C hin (c := 8) (k := 2) (N := 5) (T := TX8) (R := RX8) (fs' := [.null, .null, .ref ad1, .null, .int 0]) q126 inX8 tyX8_ok nmX8 rfl (by decide) rfl rfl rfl rfl rfl (Nat.le_of_ble_eq_true rfl) rfl dX8_init_9 ?_
  refine y_aload_n C dX8_init_12 0 rfl ?_
  refine y_bipush (v := 64) C dX8_init_13 rfl ?_
  refine y_newi (N := 64) C q1486 (by decide) rfl (Nat.le_of_ble_eq_true rfl) (Nat.le_of_ble_eq_true rfl) (Nat.le_of_ble_eq_true rfl) dX8_init_15 (fun ad2 => ?_)
  show Y Γ A G Qf _ _ _ _ _ _ ((h0, .inr (8, [.null, .null, .ref ad1, .null, .int 0])) :: (([] ++ [(ad1, .inl (gC G 0, 64, .inl (fun _ => 0)))]) ++ [(ad2, .inl (gC G 0, 64, .inl (fun _ => 0)))]))
  refine y_putF C hin (c := 8) (k := 3) (N := 5) (T := TX8) (R := RX8) (fs' := [.null, .null, .ref ad1, .ref ad2, .int 0]) q125 inX8 tyX8_ok nmX8 rfl (by decide) rfl rfl rfl rfl rfl (Nat.le_of_ble_eq_true rfl) rfl dX8_init_17 ?_
  refine y_aload_n C dX8_init_20 0 rfl ?_
  refine y_iconst (v := 0) C dX8_init_21 rfl ?_
  refine y_put C (c := 8) (k := 4) (N := 5) (T := TX8) (R := RX8) (fs' := [.null, .null, .ref ad1, .ref ad2, .int 0]) q124 inX8 tyX8_ok nmX8 rfl (by decide) rfl rfl rfl rfl (Nat.le_of_ble_eq_true rfl) rfl dX8_init_22 ?_
  refine y_aload_n C dX8_init_25 0 rfl ?_
  refine y_aload_n C dX8_init_26 1 rfl ?_
  refine y_putF C hin (c := 8) (k := 0) (N := 5) (T := TX8) (R := RX8) (fs' := [.ref w1, .null, .ref ad1, .ref ad2, .int 0]) q127 inX8 tyX8_ok nmX8 rfl (by decide) rfl rfl rfl rfl rfl (Nat.le_of_ble_eq_true rfl) rfl dX8_init_27 ?_
  refine y_aload_n C dX8_init_30 0 rfl ?_
  refine y_aload_n C dX8_init_31 2 rfl ?_
  refine y_putF C hin (c := 8) (k := 1) (N := 5) (T := TX8) (R := RX8) (fs' := [.ref w1, .ref w2, .ref ad1, .ref ad2, .int 0]) q129 inX8 tyX8_ok nmX8 rfl (by decide) rfl rfl rfl rfl rfl (Nat.le_of_ble_eq_true rfl) rfl dX8_init_32 ?_
  refine EN (fun c i => bif Nat.beq c 8 then h0 else bif Nat.beq c 902 then ad1 else bif Nat.beq c 903 then ad2 else bif Nat.beq c 4 then w1 else bif Nat.beq c 3 then w2 else 0) _ _ _ _ _ _ ⟨rfl, rfl, rfl⟩ ?_ dX8_init_35 (Nat.le_of_ble_eq_true rfl) (Nat.le_of_ble_eq_true rfl)
  simp only [wsI, S8_1, List.map_append, List.map_cons, List.map_nil, List.map_map, Function.comp_def, gaU, gCU, cv_0, cv_1, cv_2, cv_3, cv_4, cv_5, cv_6, cv_7, cv_8, cv_9, cv_10, cv_11, cv_102, cv_103, cv_104, cv_105, cv_201, cv_302, cv_303, cv_307, cv_308, cv_402, cv_501, cv_502, cv_503, cv_508, cv_509, cv_510, cv_511, cv_512, cv_702, cv_703, cv_704, cv_707, cv_709, cv_710, cv_902, cv_903, cv_1000, cv_1100, cv_1201, cv_1208, cv_1212, cv_1213, cv_1214, cv_1215, cv_1216, cv_1217, cv_1225, cv_1226, cv_1227, cv_1228, cv_1229, cv_1230, cv_1236, cv_1238, cv_1241, cv_1242, cv_1243, cv_1244, cv_1245, cv_1246, cv_1247, cv_1248, cv_1249, cv_1250, cv_1251, cv_1252, cv_1253, cv_1254, cv_1255, cv_5501, cv_5508, cv_5509, cv_5510, cv_5710, cv_5711, cv_6212, cv_6217, cv_6230, cv_6236, cv_6243, cv_6244, cv_6245, cv_9000]
  rfl

def rmX0_init : Room := { frames := 1, cells := 4, slots := 128, locals := 12 }
def S0 (i : Nat) : List (Nat × Nat) := (0, i) :: (((([] ++ [(102, i)]) ++ [(103, i)]) ++ [(104, i)]) ++ [(105, i)])
set_option maxRecDepth 100000 in
set_option maxHeartbeats 4000000 in
theorem mX0_init (l : Launch) (G : Gm) (w1 w2 : Nat) (i : Nat) : CtN l G yX0_init cX0_init 3 rmX0_init 0 [.null, .null, .null, .null, .null, .null, .int 0, .int 0, .int 0, .int 0, .int 0, .int 0, .int 0, .int 0, .int 0, .int 0, .int 0] [.ref w1, .ref w2] (S0 i) (fun h0 f => f 0 i = h0 ∧ f 4 0 = w1 ∧ f 5 0 = w2) := by
  refine ctN_of (own := RX0) (by decide +kernel) rfl rfl (fun _ => Nat.le_of_ble_eq_true rfl) (fun Γ A Qf h0 hl C hin EN => ?_)
  subst hl
  show Y Γ A G Qf 3 0 0 0 [(0, .ref h0), (1, .ref w1), (2, .ref w2)] [] ((h0, .inr (0, [.null, .null, .null, .null, .null, .null, .int 0, .int 0, .int 0, .int 0, .int 0, .int 0, .int 0, .int 0, .int 0, .int 0, .int 0])) :: [])
  refine y_aload_n C dX0_init_0 0 rfl ?_
  refine y_obj C q1497 q1481 q1482 (Nat.le_of_ble_eq_true rfl) (Nat.le_of_ble_eq_true rfl) dX0_init_1 ?_
  refine y_aload_n C dX0_init_4 0 rfl ?_
  refine y_bipush (v := 32) C dX0_init_5 rfl ?_
  refine y_newi (N := 32) C q1486 (by decide) rfl (Nat.le_of_ble_eq_true rfl) (Nat.le_of_ble_eq_true rfl) (Nat.le_of_ble_eq_true rfl) dX0_init_7 (fun ad1 => ?_)
  show Y Γ A G Qf _ _ _ _ _ _ ((h0, .inr (0, [.null, .null, .null, .null, .null, .null, .int 0, .int 0, .int 0, .int 0, .int 0, .int 0, .int 0, .int 0, .int 0, .int 0, .int 0])) :: ([] ++ [(ad1, .inl (gC G 0, 32, .inl (fun _ => 0)))]))
  refine y_putF C hin (c := 0) (k := 2) (N := 17) (T := TX0) (R := RX0) (fs' := [.null, .null, .ref ad1, .null, .null, .null, .int 0, .int 0, .int 0, .int 0, .int 0, .int 0, .int 0, .int 0, .int 0, .int 0, .int 0]) q26 inX0 tyX0_ok nmX0 rfl (by decide) rfl rfl rfl rfl rfl (Nat.le_of_ble_eq_true rfl) rfl dX0_init_9 ?_
  refine y_aload_n C dX0_init_12 0 rfl ?_
  refine y_bipush (v := 32) C dX0_init_13 rfl ?_
  refine y_newi (N := 32) C q1486 (by decide) rfl (Nat.le_of_ble_eq_true rfl) (Nat.le_of_ble_eq_true rfl) (Nat.le_of_ble_eq_true rfl) dX0_init_15 (fun ad2 => ?_)
  show Y Γ A G Qf _ _ _ _ _ _ ((h0, .inr (0, [.null, .null, .ref ad1, .null, .null, .null, .int 0, .int 0, .int 0, .int 0, .int 0, .int 0, .int 0, .int 0, .int 0, .int 0, .int 0])) :: (([] ++ [(ad1, .inl (gC G 0, 32, .inl (fun _ => 0)))]) ++ [(ad2, .inl (gC G 0, 32, .inl (fun _ => 0)))]))
  refine y_putF C hin (c := 0) (k := 3) (N := 17) (T := TX0) (R := RX0) (fs' := [.null, .null, .ref ad1, .ref ad2, .null, .null, .int 0, .int 0, .int 0, .int 0, .int 0, .int 0, .int 0, .int 0, .int 0, .int 0, .int 0]) q28 inX0 tyX0_ok nmX0 rfl (by decide) rfl rfl rfl rfl rfl (Nat.le_of_ble_eq_true rfl) rfl dX0_init_17 ?_
  refine y_aload_n C dX0_init_20 0 rfl ?_
  refine y_bipush (v := 32) C dX0_init_21 rfl ?_
  refine y_newi (N := 32) C q1486 (by decide) rfl (Nat.le_of_ble_eq_true rfl) (Nat.le_of_ble_eq_true rfl) (Nat.le_of_ble_eq_true rfl) dX0_init_23 (fun ad3 => ?_)
  show Y Γ A G Qf _ _ _ _ _ _ ((h0, .inr (0, [.null, .null, .ref ad1, .ref ad2, .null, .null, .int 0, .int 0, .int 0, .int 0, .int 0, .int 0, .int 0, .int 0, .int 0, .int 0, .int 0])) :: ((([] ++ [(ad1, .inl (gC G 0, 32, .inl (fun _ => 0)))]) ++ [(ad2, .inl (gC G 0, 32, .inl (fun _ => 0)))]) ++ [(ad3, .inl (gC G 0, 32, .inl (fun _ => 0)))]))
  refine y_putF C hin (c := 0) (k := 4) (N := 17) (T := TX0) (R := RX0) (fs' := [.null, .null, .ref ad1, .ref ad2, .ref ad3, .null, .int 0, .int 0, .int 0, .int 0, .int 0, .int 0, .int 0, .int 0, .int 0, .int 0, .int 0]) q30 inX0 tyX0_ok nmX0 rfl (by decide) rfl rfl rfl rfl rfl (Nat.le_of_ble_eq_true rfl) rfl dX0_init_25 ?_
  refine y_aload_n C dX0_init_28 0 rfl ?_
  refine y_bipush (v := 32) C dX0_init_29 rfl ?_
  refine y_newi (N := 32) C q1486 (by decide) rfl (Nat.le_of_ble_eq_true rfl) (Nat.le_of_ble_eq_true rfl) (Nat.le_of_ble_eq_true rfl) dX0_init_31 (fun ad4 => ?_)
  show Y Γ A G Qf _ _ _ _ _ _ ((h0, .inr (0, [.null, .null, .ref ad1, .ref ad2, .ref ad3, .null, .int 0, .int 0, .int 0, .int 0, .int 0, .int 0, .int 0, .int 0, .int 0, .int 0, .int 0])) :: (((([] ++ [(ad1, .inl (gC G 0, 32, .inl (fun _ => 0)))]) ++ [(ad2, .inl (gC G 0, 32, .inl (fun _ => 0)))]) ++ [(ad3, .inl (gC G 0, 32, .inl (fun _ => 0)))]) ++ [(ad4, .inl (gC G 0, 32, .inl (fun _ => 0)))]))
  refine y_putF C hin (c := 0) (k := 5) (N := 17) (T := TX0) (R := RX0) (fs' := [.null, .null, .ref ad1, .ref ad2, .ref ad3, .ref ad4, .int 0, .int 0, .int 0, .int 0, .int 0, .int 0, .int 0, .int 0, .int 0, .int 0, .int 0]) q32 inX0 tyX0_ok nmX0 rfl (by decide) rfl rfl rfl rfl rfl (Nat.le_of_ble_eq_true rfl) rfl dX0_init_33 ?_
  refine y_aload_n C dX0_init_36 0 rfl ?_
  refine y_iconst (v := 0) C dX0_init_37 rfl ?_
  refine y_put C (c := 0) (k := 6) (N := 17) (T := TX0) (R := RX0) (fs' := [.null, .null, .ref ad1, .ref ad2, .ref ad3, .ref ad4, .int 0, .int 0, .int 0, .int 0, .int 0, .int 0, .int 0, .int 0, .int 0, .int 0, .int 0]) q17 inX0 tyX0_ok nmX0 rfl (by decide) rfl rfl rfl rfl (Nat.le_of_ble_eq_true rfl) rfl dX0_init_38 ?_
  refine y_aload_n C dX0_init_41 0 rfl ?_
  refine y_iconst (v := 4) C dX0_init_42 rfl ?_
  refine y_put C (c := 0) (k := 7) (N := 17) (T := TX0) (R := RX0) (fs' := [.null, .null, .ref ad1, .ref ad2, .ref ad3, .ref ad4, .int 0, .int 4, .int 0, .int 0, .int 0, .int 0, .int 0, .int 0, .int 0, .int 0, .int 0]) q18 inX0 tyX0_ok nmX0 rfl (by decide) rfl rfl rfl rfl (Nat.le_of_ble_eq_true rfl) rfl dX0_init_43 ?_
  refine y_aload_n C dX0_init_46 0 rfl ?_
  refine y_iconst (v := 0) C dX0_init_47 rfl ?_
  refine y_put C (c := 0) (k := 8) (N := 17) (T := TX0) (R := RX0) (fs' := [.null, .null, .ref ad1, .ref ad2, .ref ad3, .ref ad4, .int 0, .int 4, .int 0, .int 0, .int 0, .int 0, .int 0, .int 0, .int 0, .int 0, .int 0]) q20 inX0 tyX0_ok nmX0 rfl (by decide) rfl rfl rfl rfl (Nat.le_of_ble_eq_true rfl) rfl dX0_init_48 ?_
  refine y_aload_n C dX0_init_51 0 rfl ?_
  refine y_iconst (v := 0) C dX0_init_52 rfl ?_
  refine y_put C (c := 0) (k := 9) (N := 17) (T := TX0) (R := RX0) (fs' := [.null, .null, .ref ad1, .ref ad2, .ref ad3, .ref ad4, .int 0, .int 4, .int 0, .int 0, .int 0, .int 0, .int 0, .int 0, .int 0, .int 0, .int 0]) q21 inX0 tyX0_ok nmX0 rfl (by decide) rfl rfl rfl rfl (Nat.le_of_ble_eq_true rfl) rfl dX0_init_53 ?_
  refine y_aload_n C dX0_init_56 0 rfl ?_
  refine y_iconst (v := 0) C dX0_init_57 rfl ?_
  refine y_put C (c := 0) (k := 10) (N := 17) (T := TX0) (R := RX0) (fs' := [.null, .null, .ref ad1, .ref ad2, .ref ad3, .ref ad4, .int 0, .int 4, .int 0, .int 0, .int 0, .int 0, .int 0, .int 0, .int 0, .int 0, .int 0]) q22 inX0 tyX0_ok nmX0 rfl (by decide) rfl rfl rfl rfl (Nat.le_of_ble_eq_true rfl) rfl dX0_init_58 ?_
  refine y_aload_n C dX0_init_61 0 rfl ?_
  refine y_iconst (v := 0) C dX0_init_62 rfl ?_
  refine y_put C (c := 0) (k := 11) (N := 17) (T := TX0) (R := RX0) (fs' := [.null, .null, .ref ad1, .ref ad2, .ref ad3, .ref ad4, .int 0, .int 4, .int 0, .int 0, .int 0, .int 0, .int 0, .int 0, .int 0, .int 0, .int 0]) q23 inX0 tyX0_ok nmX0 rfl (by decide) rfl rfl rfl rfl (Nat.le_of_ble_eq_true rfl) rfl dX0_init_63 ?_
  refine y_aload_n C dX0_init_66 0 rfl ?_
  refine y_iconst (v := 0) C dX0_init_67 rfl ?_
  refine y_put C (c := 0) (k := 12) (N := 17) (T := TX0) (R := RX0) (fs' := [.null, .null, .ref ad1, .ref ad2, .ref ad3, .ref ad4, .int 0, .int 4, .int 0, .int 0, .int 0, .int 0, .int 0, .int 0, .int 0, .int 0, .int 0]) q33 inX0 tyX0_ok nmX0 rfl (by decide) rfl rfl rfl rfl (Nat.le_of_ble_eq_true rfl) rfl dX0_init_68 ?_
  refine y_aload_n C dX0_init_71 0 rfl ?_
  refine y_iconst (v := 1) C dX0_init_72 rfl ?_
  refine y_put C (c := 0) (k := 13) (N := 17) (T := TX0) (R := RX0) (fs' := [.null, .null, .ref ad1, .ref ad2, .ref ad3, .ref ad4, .int 0, .int 4, .int 0, .int 0, .int 0, .int 0, .int 0, .int 1, .int 0, .int 0, .int 0]) q24 inX0 tyX0_ok nmX0 rfl (by decide) rfl rfl rfl rfl (Nat.le_of_ble_eq_true rfl) rfl dX0_init_73 ?_
  refine y_aload_n C dX0_init_76 0 rfl ?_
  refine y_iconst (v := (-1)) C dX0_init_77 rfl ?_
  refine y_put C (c := 0) (k := 14) (N := 17) (T := TX0) (R := RX0) (fs' := [.null, .null, .ref ad1, .ref ad2, .ref ad3, .ref ad4, .int 0, .int 4, .int 0, .int 0, .int 0, .int 0, .int 0, .int 1, .int (-1), .int 0, .int 0]) q34 inX0 tyX0_ok nmX0 rfl (by decide) rfl rfl rfl rfl (Nat.le_of_ble_eq_true rfl) rfl dX0_init_78 ?_
  refine y_aload_n C dX0_init_81 0 rfl ?_
  refine y_iconst (v := 0) C dX0_init_82 rfl ?_
  refine y_put C (c := 0) (k := 15) (N := 17) (T := TX0) (R := RX0) (fs' := [.null, .null, .ref ad1, .ref ad2, .ref ad3, .ref ad4, .int 0, .int 4, .int 0, .int 0, .int 0, .int 0, .int 0, .int 1, .int (-1), .int 0, .int 0]) q35 inX0 tyX0_ok nmX0 rfl (by decide) rfl rfl rfl rfl (Nat.le_of_ble_eq_true rfl) rfl dX0_init_83 ?_
  refine y_aload_n C dX0_init_86 0 rfl ?_
  refine y_iconst (v := 0) C dX0_init_87 rfl ?_
  refine y_put C (c := 0) (k := 16) (N := 17) (T := TX0) (R := RX0) (fs' := [.null, .null, .ref ad1, .ref ad2, .ref ad3, .ref ad4, .int 0, .int 4, .int 0, .int 0, .int 0, .int 0, .int 0, .int 1, .int (-1), .int 0, .int 0]) q36 inX0 tyX0_ok nmX0 rfl (by decide) rfl rfl rfl rfl (Nat.le_of_ble_eq_true rfl) rfl dX0_init_88 ?_
  refine y_aload_n C dX0_init_91 0 rfl ?_
  refine y_aload_n C dX0_init_92 1 rfl ?_
  refine y_putF C hin (c := 0) (k := 0) (N := 17) (T := TX0) (R := RX0) (fs' := [.ref w1, .null, .ref ad1, .ref ad2, .ref ad3, .ref ad4, .int 0, .int 4, .int 0, .int 0, .int 0, .int 0, .int 0, .int 1, .int (-1), .int 0, .int 0]) q19 inX0 tyX0_ok nmX0 rfl (by decide) rfl rfl rfl rfl rfl (Nat.le_of_ble_eq_true rfl) rfl dX0_init_93 ?_
  refine y_aload_n C dX0_init_96 0 rfl ?_
  refine y_aload_n C dX0_init_97 2 rfl ?_
  refine y_putF C hin (c := 0) (k := 1) (N := 17) (T := TX0) (R := RX0) (fs' := [.ref w1, .ref w2, .ref ad1, .ref ad2, .ref ad3, .ref ad4, .int 0, .int 4, .int 0, .int 0, .int 0, .int 0, .int 0, .int 1, .int (-1), .int 0, .int 0]) q25 inX0 tyX0_ok nmX0 rfl (by decide) rfl rfl rfl rfl rfl (Nat.le_of_ble_eq_true rfl) rfl dX0_init_98 ?_
  refine EN (fun c i => bif Nat.beq c 0 then h0 else bif Nat.beq c 102 then ad1 else bif Nat.beq c 103 then ad2 else bif Nat.beq c 104 then ad3 else bif Nat.beq c 105 then ad4 else bif Nat.beq c 4 then w1 else bif Nat.beq c 5 then w2 else 0) _ _ _ _ _ _ ⟨rfl, rfl, rfl⟩ ?_ dX0_init_101 (Nat.le_of_ble_eq_true rfl) (Nat.le_of_ble_eq_true rfl)
  simp only [wsI, S0, List.map_append, List.map_cons, List.map_nil, List.map_map, Function.comp_def, gaU, gCU, cv_0, cv_1, cv_2, cv_3, cv_4, cv_5, cv_6, cv_7, cv_8, cv_9, cv_10, cv_11, cv_102, cv_103, cv_104, cv_105, cv_201, cv_302, cv_303, cv_307, cv_308, cv_402, cv_501, cv_502, cv_503, cv_508, cv_509, cv_510, cv_511, cv_512, cv_702, cv_703, cv_704, cv_707, cv_709, cv_710, cv_902, cv_903, cv_1000, cv_1100, cv_1201, cv_1208, cv_1212, cv_1213, cv_1214, cv_1215, cv_1216, cv_1217, cv_1225, cv_1226, cv_1227, cv_1228, cv_1229, cv_1230, cv_1236, cv_1238, cv_1241, cv_1242, cv_1243, cv_1244, cv_1245, cv_1246, cv_1247, cv_1248, cv_1249, cv_1250, cv_1251, cv_1252, cv_1253, cv_1254, cv_1255, cv_5501, cv_5508, cv_5509, cv_5510, cv_5710, cv_5711, cv_6212, cv_6217, cv_6230, cv_6236, cv_6243, cv_6244, cv_6245, cv_9000]
  rfl
