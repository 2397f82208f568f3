def rmX9_init : Room := { frames := 1, cells := 1, slots := 255, locals := 12 }
def S9 : List (Nat × Nat) := (9, 0) :: ([] ++ [(1000, 0)])
set_option maxRecDepth 100000 in
set_option maxHeartbeats 4000000 in
theorem mX9_init (l : Launch) (G : Gm) : CtN l G yX9_init cX9_init 1 rmX9_init 9 [.null, .int 0] [] S9 (fun h0 f => f 9 0 = h0) := by
  refine ctN_of (own := RX9) (by decide +kernel) rfl rfl (fun _ => Nat.le_of_ble_eq_true rfl) (fun Γ A Qf h0 hl C hin EN => ?_)
  subst hl
  show Y Γ A G Qf 1 0 0 0 [(0, .ref h0)] [] ((h0, .inr (9, [.null, .int 0])) :: [])
  refine y_aload_n C dX9_init_0 0 rfl ?_
  refine y_obj C q1480 q1481 q1482 (Nat.le_of_ble_eq_true rfl) (Nat.le_of_ble_eq_true rfl) dX9_init_1 ?_
  refine y_aload_n C dX9_init_4 0 rfl ?_
  refine y_sipush (v := 255) C dX9_init_5 rfl ?_
  refine y_newl (N := 255) C q1483 (by decide) rfl (Nat.le_of_ble_eq_true rfl) (Nat.le_of_ble_eq_true rfl) (Nat.le_of_ble_eq_true rfl) dX9_init_8 (fun ad1 => ?_)
  show Y Γ A G Qf _ _ _ _ _ _ ((h0, .inr (9, [.null, .int 0])) :: ([] ++ [(ad1, .inl (gC G 1, 255, .inr (.inl (fun _ => 0))))]))
  refine y_putF C hin (c := 9) (k := 0) (N := 2) (T := TX9) (R := RX9) (fs' := [.ref ad1, .int 0]) q42 inX9 tyX9_ok nmX9 rfl (by decide) rfl rfl rfl rfl rfl (Nat.le_of_ble_eq_true rfl) rfl dX9_init_10 ?_
  refine y_aload_n C dX9_init_13 0 rfl ?_
  refine y_iconst (v := 0) C dX9_init_14 rfl ?_
  refine y_put C (c := 9) (k := 1) (N := 2) (T := TX9) (R := RX9) (fs' := [.ref ad1, .int 0]) q41 inX9 tyX9_ok nmX9 rfl (by decide) rfl rfl rfl rfl (Nat.le_of_ble_eq_true rfl) rfl dX9_init_15 ?_
  refine EN (fun c i => bif Nat.beq c 9 then h0 else bif Nat.beq c 1000 then ad1 else 0) _ _ _ _ _ _ rfl ?_ dX9_init_18 (Nat.le_of_ble_eq_true rfl) (Nat.le_of_ble_eq_true rfl)
  simp only [wsI, S9, List.map_append, List.map_cons, List.map_nil, List.map_map, Function.comp_def, gaU, gCU, cv_0, cv_1, cv_2, cv_3, cv_4, cv_5, cv_6, cv_7, cv_8, cv_9, cv_10, cv_11, cv_102, cv_103, cv_104, cv_105, cv_201, cv_302, cv_303, cv_307, cv_308, cv_402, cv_501, cv_502, cv_503, cv_508, cv_509, cv_510, cv_511, cv_512, cv_702, cv_703, cv_704, cv_707, cv_709, cv_710, cv_902, cv_903, cv_1000, cv_1100, cv_1201, cv_1208, cv_1212, cv_1213, cv_1214, cv_1215, cv_1216, cv_1217, cv_1225, cv_1226, cv_1227, cv_1228, cv_1229, cv_1230, cv_1236, cv_1238, cv_1241, cv_1242, cv_1243, cv_1244, cv_1245, cv_1246, cv_1247, cv_1248, cv_1249, cv_1250, cv_1251, cv_1252, cv_1253, cv_1254, cv_1255, cv_5501, cv_5508, cv_5509, cv_5510, cv_5710, cv_5711, cv_6212, cv_6217, cv_6230, cv_6236, cv_6243, cv_6244, cv_6245, cv_9000]
  rfl

def rmX4_init : Room := { frames := 1, cells := 837, slots := 60027, locals := 12 }
def S4 : List (Nat × Nat) := (4, 0) :: (((((((((((([] ++ [(501, 0)]) ++ (List.range 64).map (fun j => (5501, j))) ++ [(502, 0)]) ++ [(503, 0)]) ++ [(508, 0)]) ++ (List.range 255).map (fun j => (5508, j))) ++ [(509, 0)]) ++ (List.range 255).map (fun j => (5509, j))) ++ [(510, 0)]) ++ (List.range 255).map (fun j => (5510, j))) ++ [(511, 0)]) ++ [(512, 0)])
set_option maxRecDepth 100000 in
set_option maxHeartbeats 4000000 in
theorem mX4_init (l : Launch) (G : Gm) (w1 : Nat) : CtN l G yX4_init cX4_init 2 rmX4_init 4 [.null, .null, .null, .null, .int 0, .int 0, .int 0, .int 0, .null, .null, .null, .null, .null] [.ref w1] S4 (fun h0 f => f 4 0 = h0 ∧ f 9 0 = w1) := by
  refine ctN_of (own := RX4) (by decide +kernel) rfl rfl (fun _ => Nat.le_of_ble_eq_true rfl) (fun Γ A Qf h0 hl C hin EN => ?_)
  subst hl
  show Y Γ A G Qf 2 0 0 0 [(0, .ref h0), (1, .ref w1)] [] ((h0, .inr (4, [.null, .null, .null, .null, .int 0, .int 0, .int 0, .int 0, .null, .null, .null, .null, .null])) :: [])
  refine y_aload_n C dX4_init_0 0 rfl ?_
  refine y_obj C q1484 q1481 q1482 (Nat.le_of_ble_eq_true rfl) (Nat.le_of_ble_eq_true rfl) dX4_init_1 ?_
  refine y_aload_n C dX4_init_4 0 rfl ?_
  refine y_bipush (v := 64) C dX4_init_5 rfl ?_
  refine y_sipush (v := 150) C dX4_init_7 rfl ?_
  refine y_mna (N := 64) (K := 150) C q1485 q1486 (by decide) (by decide) rfl rfl (Nat.le_of_ble_eq_true rfl) (Nat.le_of_ble_eq_true rfl) (Nat.le_of_ble_eq_true rfl) (Nat.le_of_ble_eq_true rfl) (Nat.le_of_ble_eq_true rfl) dX4_init_10 (fun ad1 ro1 => ?_)
  show Y Γ A G Qf _ _ _ _ _ _ ((h0, .inr (4, [.null, .null, .null, .null, .int 0, .int 0, .int 0, .int 0, .null, .null, .null, .null, .null])) :: (([] ++ [(ad1, .inl (gC G 3, 64, .inr (.inr (.inr (.inr (fun j => if j < 64 then some (ro1 j) else none))))))]) ++ (List.range 64).map (fun j => (ro1 j, .inl (gC G 0, 150, .inl (fun _ => 0))))))
  refine y_putF C hin (c := 4) (k := 1) (N := 13) (T := TX4) (R := RX4) (fs' := [.null, .ref ad1, .null, .null, .int 0, .int 0, .int 0, .int 0, .null, .null, .null, .null, .null]) q98 inX4 tyX4_ok nmX4 rfl (by decide) rfl rfl rfl rfl rfl (Nat.le_of_ble_eq_true rfl) rfl dX4_init_14 ?_
  refine y_aload_n C dX4_init_17 0 rfl ?_
  refine y_bipush (v := 64) C dX4_init_18 rfl ?_
  refine y_newi (N := 64) C q1486 (by decide) rfl (Nat.le_of_ble_eq_true rfl) (Nat.le_of_ble_eq_true rfl) (Nat.le_of_ble_eq_true rfl) dX4_init_20 (fun ad2 => ?_)
  show Y Γ A G Qf _ _ _ _ _ _ ((h0, .inr (4, [.null, .ref ad1, .null, .null, .int 0, .int 0, .int 0, .int 0, .null, .null, .null, .null, .null])) :: ((([] ++ [(ad1, .inl (gC G 3, 64, .inr (.inr (.inr (.inr (fun j => if j < 64 then some (ro1 j) else none))))))]) ++ (List.range 64).map (fun j => (ro1 j, .inl (gC G 0, 150, .inl (fun _ => 0))))) ++ [(ad2, .inl (gC G 0, 64, .inl (fun _ => 0)))]))
  refine y_putF C hin (c := 4) (k := 2) (N := 13) (T := TX4) (R := RX4) (fs' := [.null, .ref ad1, .ref ad2, .null, .int 0, .int 0, .int 0, .int 0, .null, .null, .null, .null, .null]) q3 inX4 tyX4_ok nmX4 rfl (by decide) rfl rfl rfl rfl rfl (Nat.le_of_ble_eq_true rfl) rfl dX4_init_22 ?_
  refine y_aload_n C dX4_init_25 0 rfl ?_
  refine y_bipush (v := 64) C dX4_init_26 rfl ?_
  refine y_newi (N := 64) C q1486 (by decide) rfl (Nat.le_of_ble_eq_true rfl) (Nat.le_of_ble_eq_true rfl) (Nat.le_of_ble_eq_true rfl) dX4_init_28 (fun ad3 => ?_)
  show Y Γ A G Qf _ _ _ _ _ _ ((h0, .inr (4, [.null, .ref ad1, .ref ad2, .null, .int 0, .int 0, .int 0, .int 0, .null, .null, .null, .null, .null])) :: (((([] ++ [(ad1, .inl (gC G 3, 64, .inr (.inr (.inr (.inr (fun j => if j < 64 then some (ro1 j) else none))))))]) ++ (List.range 64).map (fun j => (ro1 j, .inl (gC G 0, 150, .inl (fun _ => 0))))) ++ [(ad2, .inl (gC G 0, 64, .inl (fun _ => 0)))]) ++ [(ad3, .inl (gC G 0, 64, .inl (fun _ => 0)))]))
  refine y_putF C hin (c := 4) (k := 3) (N := 13) (T := TX4) (R := RX4) (fs' := [.null, .ref ad1, .ref ad2, .ref ad3, .int 0, .int 0, .int 0, .int 0, .null, .null, .null, .null, .null]) q63 inX4 tyX4_ok nmX4 rfl (by decide) rfl rfl rfl rfl rfl (Nat.le_of_ble_eq_true rfl) rfl dX4_init_30 ?_
  refine y_aload_n C dX4_init_33 0 rfl ?_
  refine y_iconst (v := 0) C dX4_init_34 rfl ?_
  refine y_put C (c := 4) (k := 4) (N := 13) (T := TX4) (R := RX4) (fs' := [.null, .ref ad1, .ref ad2, .ref ad3, .int 0, .int 0, .int 0, .int 0, .null, .null, .null, .null, .null]) q94 inX4 tyX4_ok nmX4 rfl (by decide) rfl rfl rfl rfl (Nat.le_of_ble_eq_true rfl) rfl dX4_init_35 ?_
  refine y_aload_n C dX4_init_38 0 rfl ?_
  refine y_iconst (v := 0) C dX4_init_39 rfl ?_
  refine y_put C (c := 4) (k := 5) (N := 13) (T := TX4) (R := RX4) (fs' := [.null, .ref ad1, .ref ad2, .ref ad3, .int 0, .int 0, .int 0, .int 0, .null, .null, .null, .null, .null]) q1 inX4 tyX4_ok nmX4 rfl (by decide) rfl rfl rfl rfl (Nat.le_of_ble_eq_true rfl) rfl dX4_init_40 ?_
  refine y_aload_n C dX4_init_43 0 rfl ?_
  refine y_iconst (v := 0) C dX4_init_44 rfl ?_
  refine y_put C (c := 4) (k := 6) (N := 13) (T := TX4) (R := RX4) (fs' := [.null, .ref ad1, .ref ad2, .ref ad3, .int 0, .int 0, .int 0, .int 0, .null, .null, .null, .null, .null]) q99 inX4 tyX4_ok nmX4 rfl (by decide) rfl rfl rfl rfl (Nat.le_of_ble_eq_true rfl) rfl dX4_init_45 ?_
  refine y_aload_n C dX4_init_48 0 rfl ?_
  refine y_iconst (v := 4) C dX4_init_49 rfl ?_
  refine y_put C (c := 4) (k := 7) (N := 13) (T := TX4) (R := RX4) (fs' := [.null, .ref ad1, .ref ad2, .ref ad3, .int 0, .int 0, .int 0, .int 4, .null, .null, .null, .null, .null]) q102 inX4 tyX4_ok nmX4 rfl (by decide) rfl rfl rfl rfl (Nat.le_of_ble_eq_true rfl) rfl dX4_init_50 ?_
  refine y_aload_n C dX4_init_53 0 rfl ?_
  refine y_sipush (v := 255) C dX4_init_54 rfl ?_
  refine y_bipush (v := 64) C dX4_init_57 rfl ?_
  refine y_mna (N := 255) (K := 64) C q1485 q1486 (by decide) (by decide) rfl rfl (Nat.le_of_ble_eq_true rfl) (Nat.le_of_ble_eq_true rfl) (Nat.le_of_ble_eq_true rfl) (Nat.le_of_ble_eq_true rfl) (Nat.le_of_ble_eq_true rfl) dX4_init_59 (fun ad4 ro4 => ?_)
  show Y Γ A G Qf _ _ _ _ _ _ ((h0, .inr (4, [.null, .ref ad1, .ref ad2, .ref ad3, .int 0, .int 0, .int 0, .int 4, .null, .null, .null, .null, .null])) :: (((((([] ++ [(ad1, .inl (gC G 3, 64, .inr (.inr (.inr (.inr (fun j => if j < 64 then some (ro1 j) else none))))))]) ++ (List.range 64).map (fun j => (ro1 j, .inl (gC G 0, 150, .inl (fun _ => 0))))) ++ [(ad2, .inl (gC G 0, 64, .inl (fun _ => 0)))]) ++ [(ad3, .inl (gC G 0, 64, .inl (fun _ => 0)))]) ++ [(ad4, .inl (gC G 3, 255, .inr (.inr (.inr (.inr (fun j => if j < 255 then some (ro4 j) else none))))))]) ++ (List.range 255).map (fun j => (ro4 j, .inl (gC G 0, 64, .inl (fun _ => 0))))))
  refine y_putF C hin (c := 4) (k := 8) (N := 13) (T := TX4) (R := RX4) (fs' := [.null, .ref ad1, .ref ad2, .ref ad3, .int 0, .int 0, .int 0, .int 4, .ref ad4, .null, .null, .null, .null]) q2 inX4 tyX4_ok nmX4 rfl (by decide) rfl rfl rfl rfl rfl (Nat.le_of_ble_eq_true rfl) rfl dX4_init_63 ?_
  refine y_aload_n C dX4_init_66 0 rfl ?_
  refine y_sipush (v := 255) C dX4_init_67 rfl ?_
  refine y_bipush (v := 64) C dX4_init_70 rfl ?_
  refine y_mna (N := 255) (K := 64) C q1485 q1486 (by decide) (by decide) rfl rfl (Nat.le_of_ble_eq_true rfl) (Nat.le_of_ble_eq_true rfl) (Nat.le_of_ble_eq_true rfl) (Nat.le_of_ble_eq_true rfl) (Nat.le_of_ble_eq_true rfl) dX4_init_72 (fun ad5 ro5 => ?_)
  show Y Γ A G Qf _ _ _ _ _ _ ((h0, .inr (4, [.null, .ref ad1, .ref ad2, .ref ad3, .int 0, .int 0, .int 0, .int 4, .ref ad4, .null, .null, .null, .null])) :: (((((((([] ++ [(ad1, .inl (gC G 3, 64, .inr (.inr (.inr (.inr (fun j => if j < 64 then some (ro1 j) else none))))))]) ++ (List.range 64).map (fun j => (ro1 j, .inl (gC G 0, 150, .inl (fun _ => 0))))) ++ [(ad2, .inl (gC G 0, 64, .inl (fun _ => 0)))]) ++ [(ad3, .inl (gC G 0, 64, .inl (fun _ => 0)))]) ++ [(ad4, .inl (gC G 3, 255, .inr (.inr (.inr (.inr (fun j => if j < 255 then some (ro4 j) else none))))))]) ++ (List.range 255).map (fun j => (ro4 j, .inl (gC G 0, 64, .inl (fun _ => 0))))) ++ [(ad5, .inl (gC G 3, 255, .inr (.inr (.inr (.inr (fun j => if j < 255 then some (ro5 j) else none))))))]) ++ (List.range 255).map (fun j => (ro5 j, .inl (gC G 0, 64, .inl (fun _ => 0))))))
  refine y_putF C hin (c := 4) (k := 9) (N := 13) (T := TX4) (R := RX4) (fs' := [.null, .ref ad1, .ref ad2, .ref ad3, .int 0, .int 0, .int 0, .int 4, .ref ad4, .ref ad5, .null, .null, .null]) q97 inX4 tyX4_ok nmX4 rfl (by decide) rfl rfl rfl rfl rfl (Nat.le_of_ble_eq_true rfl) rfl dX4_init_76 ?_
  refine y_aload_n C dX4_init_79 0 rfl ?_
  refine y_sipush (v := 255) C dX4_init_80 rfl ?_
  refine y_bipush (v := 64) C dX4_init_83 rfl ?_
  refine y_mna (N := 255) (K := 64) C q1485 q1486 (by decide) (by decide) rfl rfl (Nat.le_of_ble_eq_true rfl) (Nat.le_of_ble_eq_true rfl) (Nat.le_of_ble_eq_true rfl) (Nat.le_of_ble_eq_true rfl) (Nat.le_of_ble_eq_true rfl) dX4_init_85 (fun ad6 ro6 => ?_)
  show Y Γ A G Qf _ _ _ _ _ _ ((h0, .inr (4, [.null, .ref ad1, .ref ad2, .ref ad3, .int 0, .int 0, .int 0, .int 4, .ref ad4, .ref ad5, .null, .null, .null])) :: (((((((((([] ++ [(ad1, .inl (gC G 3, 64, .inr (.inr (.inr (.inr (fun j => if j < 64 then some (ro1 j) else none))))))]) ++ (List.range 64).map (fun j => (ro1 j, .inl (gC G 0, 150, .inl (fun _ => 0))))) ++ [(ad2, .inl (gC G 0, 64, .inl (fun _ => 0)))]) ++ [(ad3, .inl (gC G 0, 64, .inl (fun _ => 0)))]) ++ [(ad4, .inl (gC G 3, 255, .inr (.inr (.inr (.inr (fun j => if j < 255 then some (ro4 j) else none))))))]) ++ (List.range 255).map (fun j => (ro4 j, .inl (gC G 0, 64, .inl (fun _ => 0))))) ++ [(ad5, .inl (gC G 3, 255, .inr (.inr (.inr (.inr (fun j => if j < 255 then some (ro5 j) else none))))))]) ++ (List.range 255).map (fun j => (ro5 j, .inl (gC G 0, 64, .inl (fun _ => 0))))) ++ [(ad6, .inl (gC G 3, 255, .inr (.inr (.inr (.inr (fun j => if j < 255 then some (ro6 j) else none))))))]) ++ (List.range 255).map (fun j => (ro6 j, .inl (gC G 0, 64, .inl (fun _ => 0))))))
  refine y_putF C hin (c := 4) (k := 10) (N := 13) (T := TX4) (R := RX4) (fs' := [.null, .ref ad1, .ref ad2, .ref ad3, .int 0, .int 0, .int 0, .int 4, .ref ad4, .ref ad5, .ref ad6, .null, .null]) q96 inX4 tyX4_ok nmX4 rfl (by decide) rfl rfl rfl rfl rfl (Nat.le_of_ble_eq_true rfl) rfl dX4_init_89 ?_
  refine y_aload_n C dX4_init_92 0 rfl ?_
  refine y_sipush (v := 255) C dX4_init_93 rfl ?_
  refine y_newi (N := 255) C q1486 (by decide) rfl (Nat.le_of_ble_eq_true rfl) (Nat.le_of_ble_eq_true rfl) (Nat.le_of_ble_eq_true rfl) dX4_init_96 (fun ad7 => ?_)
  show Y Γ A G Qf _ _ _ _ _ _ ((h0, .inr (4, [.null, .ref ad1, .ref ad2, .ref ad3, .int 0, .int 0, .int 0, .int 4, .ref ad4, .ref ad5, .ref ad6, .null, .null])) :: ((((((((((([] ++ [(ad1, .inl (gC G 3, 64, .inr (.inr (.inr (.inr (fun j => if j < 64 then some (ro1 j) else none))))))]) ++ (List.range 64).map (fun j => (ro1 j, .inl (gC G 0, 150, .inl (fun _ => 0))))) ++ [(ad2, .inl (gC G 0, 64, .inl (fun _ => 0)))]) ++ [(ad3, .inl (gC G 0, 64, .inl (fun _ => 0)))]) ++ [(ad4, .inl (gC G 3, 255, .inr (.inr (.inr (.inr (fun j => if j < 255 then some (ro4 j) else none))))))]) ++ (List.range 255).map (fun j => (ro4 j, .inl (gC G 0, 64, .inl (fun _ => 0))))) ++ [(ad5, .inl (gC G 3, 255, .inr (.inr (.inr (.inr (fun j => if j < 255 then some (ro5 j) else none))))))]) ++ (List.range 255).map (fun j => (ro5 j, .inl (gC G 0, 64, .inl (fun _ => 0))))) ++ [(ad6, .inl (gC G 3, 255, .inr (.inr (.inr (.inr (fun j => if j < 255 then some (ro6 j) else none))))))]) ++ (List.range 255).map (fun j => (ro6 j, .inl (gC G 0, 64, .inl (fun _ => 0))))) ++ [(ad7, .inl (gC G 0, 255, .inl (fun _ => 0)))]))
  refine y_putF C hin (c := 4) (k := 11) (N := 13) (T := TX4) (R := RX4) (fs' := [.null, .ref ad1, .ref ad2, .ref ad3, .int 0, .int 0, .int 0, .int 4, .ref ad4, .ref ad5, .ref ad6, .ref ad7, .null]) q0 inX4 tyX4_ok nmX4 rfl (by decide) rfl rfl rfl rfl rfl (Nat.le_of_ble_eq_true rfl) rfl dX4_init_98 ?_
  refine y_aload_n C dX4_init_101 0 rfl ?_
  refine y_sipush (v := 255) C dX4_init_102 rfl ?_
  refine y_newi (N := 255) C q1486 (by decide) rfl (Nat.le_of_ble_eq_true rfl) (Nat.le_of_ble_eq_true rfl) (Nat.le_of_ble_eq_true rfl) dX4_init_105 (fun ad8 => ?_)
  show Y Γ A G Qf _ _ _ _ _ _ ((h0, .inr (4, [.null, .ref ad1, .ref ad2, .ref ad3, .int 0, .int 0, .int 0, .int 4, .ref ad4, .ref ad5, .ref ad6, .ref ad7, .null])) :: (((((((((((([] ++ [(ad1, .inl (gC G 3, 64, .inr (.inr (.inr (.inr (fun j => if j < 64 then some (ro1 j) else none))))))]) ++ (List.range 64).map (fun j => (ro1 j, .inl (gC G 0, 150, .inl (fun _ => 0))))) ++ [(ad2, .inl (gC G 0, 64, .inl (fun _ => 0)))]) ++ [(ad3, .inl (gC G 0, 64, .inl (fun _ => 0)))]) ++ [(ad4, .inl (gC G 3, 255, .inr (.inr (.inr (.inr (fun j => if j < 255 then some (ro4 j) else none))))))]) ++ (List.range 255).map (fun j => (ro4 j, .inl (gC G 0, 64, .inl (fun _ => 0))))) ++ [(ad5, .inl (gC G 3, 255, .inr (.inr (.inr (.inr (fun j => if j < 255 then some (ro5 j) else none))))))]) ++ (List.range 255).map (fun j => (ro5 j, .inl (gC G 0, 64, .inl (fun _ => 0))))) ++ [(ad6, .inl (gC G 3, 255, .inr (.inr (.inr (.inr (fun j => if j < 255 then some (ro6 j) else none))))))]) ++ (List.range 255).map (fun j => (ro6 j, .inl (gC G 0, 64, .inl (fun _ => 0))))) ++ [(ad7, .inl (gC G 0, 255, .inl (fun _ => 0)))]) ++ [(ad8, .inl (gC G 0, 255, .inl (fun _ => 0)))]))
  refine y_putF C hin (c := 4) (k := 12) (N := 13) (T := TX4) (R := RX4) (fs' := [.null, .ref ad1, .ref ad2, .ref ad3, .int 0, .int 0, .int 0, .int 4, .ref ad4, .ref ad5, .ref ad6, .ref ad7, .ref ad8]) q95 inX4 tyX4_ok nmX4 rfl (by decide) rfl rfl rfl rfl rfl (Nat.le_of_ble_eq_true rfl) rfl dX4_init_107 ?_
  refine y_aload_n C dX4_init_110 0 rfl ?_
  refine y_aload_n C dX4_init_111 1 rfl ?_
  refine y_putF C hin (c := 4) (k := 0) (N := 13) (T := TX4) (R := RX4) (fs' := [.ref w1, .ref ad1, .ref ad2, .ref ad3, .int 0, .int 0, .int 0, .int 4, .ref ad4, .ref ad5, .ref ad6, .ref ad7, .ref ad8]) q100 inX4 tyX4_ok nmX4 rfl (by decide) rfl rfl rfl rfl rfl (Nat.le_of_ble_eq_true rfl) rfl dX4_init_112 ?_
  refine EN (fun c i => bif Nat.beq c 4 then h0 else bif Nat.beq c 501 then ad1 else bif Nat.beq c 5501 then ro1 i else bif Nat.beq c 502 then ad2 else bif Nat.beq c 503 then ad3 else bif Nat.beq c 508 then ad4 else bif Nat.beq c 5508 then ro4 i else bif Nat.beq c 509 then ad5 else bif Nat.beq c 5509 then ro5 i else bif Nat.beq c 510 then ad6 else bif Nat.beq c 5510 then ro6 i else bif Nat.beq c 511 then ad7 else bif Nat.beq c 512 then ad8 else bif Nat.beq c 9 then w1 else 0) _ _ _ _ _ _ ⟨rfl, rfl⟩ ?_ dX4_init_115 (Nat.le_of_ble_eq_true rfl) (Nat.le_of_ble_eq_true rfl)
  simp only [wsI, S4, List.map_append, List.map_cons, List.map_nil, List.map_map, Function.comp_def, gaU, gCU, cv_0, cv_1, cv_2, cv_3, cv_4, cv_5, cv_6, cv_7, cv_8, cv_9, cv_10, cv_11, cv_102, cv_103, cv_104, cv_105, cv_201, cv_302, cv_303, cv_307, cv_308, cv_402, cv_501, cv_502, cv_503, cv_508, cv_509, cv_510, cv_511, cv_512, cv_702, cv_703, cv_704, cv_707, cv_709, cv_710, cv_902, cv_903, cv_1000, cv_1100, cv_1201, cv_1208, cv_1212, cv_1213, cv_1214, cv_1215, cv_1216, cv_1217, cv_1225, cv_1226, cv_1227, cv_1228, cv_1229, cv_1230, cv_1236, cv_1238, cv_1241, cv_1242, cv_1243, cv_1244, cv_1245, cv_1246, cv_1247, cv_1248, cv_1249, cv_1250, cv_1251, cv_1252, cv_1253, cv_1254, cv_1255, cv_5501, cv_5508, cv_5509, cv_5510, cv_5710, cv_5711, cv_6212, cv_6217, cv_6230, cv_6236, cv_6243, cv_6244, cv_6245, cv_9000]
  rfl
