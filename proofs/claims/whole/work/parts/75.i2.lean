def rmX10_init : Room := { frames := 3, cells := 1004, slots := 64876, locals := 59 }
def S10 : List (Nat × Nat) := (10, 0) :: ((((((((((([] ++ [(1100, 0)]) ++ S9) ++ S4) ++ S5) ++ S6_0) ++ S1) ++ S7) ++ S3) ++ S8_0) ++ S8_1) ++ S2)
set_option maxRecDepth 100000 in
set_option maxHeartbeats 4000000 in
theorem mX10_init (l : Launch) (G : Gm) : CtN l G yX10_init cX10_init 1 rmX10_init 10 [.null, .int 0, .int 0, .int 0, .int 0, .null, .null, .null, .null, .null, .null, .null, .null, .null, .null] [] S10 (fun h0 f => f 10 0 = h0) := by
  refine ctN_of (own := RX10) (by decide +kernel) rfl rfl (fun _ => Nat.le_of_ble_eq_true rfl) (fun Γ A Qf h0 hl C hin EN => ?_)
  subst hl
  show Y Γ A G Qf 1 0 0 0 [(0, .ref h0)] [] ((h0, .inr (10, [.null, .int 0, .int 0, .int 0, .int 0, .null, .null, .null, .null, .null, .null, .null, .null, .null, .null])) :: [])
  refine y_aload_n C dX10_init_0 0 rfl ?_
  refine y_obj C q1501 q1481 q1482 (Nat.le_of_ble_eq_true rfl) (Nat.le_of_ble_eq_true rfl) dX10_init_1 ?_
  refine y_aload_n C dX10_init_4 0 rfl ?_
  refine y_sipush (v := 300) C dX10_init_5 rfl ?_
  refine y_newi (N := 300) C q1486 (by decide) rfl (Nat.le_of_ble_eq_true rfl) (Nat.le_of_ble_eq_true rfl) (Nat.le_of_ble_eq_true rfl) dX10_init_8 (fun ad1 => ?_)
  show Y Γ A G Qf _ _ _ _ _ _ ((h0, .inr (10, [.null, .int 0, .int 0, .int 0, .int 0, .null, .null, .null, .null, .null, .null, .null, .null, .null, .null])) :: ([] ++ [(ad1, .inl (gC G 0, 300, .inl (fun _ => 0)))]))
  refine y_putF C hin (c := 10) (k := 0) (N := 15) (T := TX10) (R := RX10) (fs' := [.ref ad1, .int 0, .int 0, .int 0, .int 0, .null, .null, .null, .null, .null, .null, .null, .null, .null, .null]) q131 inX10 tyX10_ok nmX10 rfl (by decide) rfl rfl rfl rfl rfl (Nat.le_of_ble_eq_true rfl) rfl dX10_init_10 ?_
  refine y_aload_n C dX10_init_13 0 rfl ?_
  refine y_iconst (v := 0) C dX10_init_14 rfl ?_
  refine y_put C (c := 10) (k := 1) (N := 15) (T := TX10) (R := RX10) (fs' := [.ref ad1, .int 0, .int 0, .int 0, .int 0, .null, .null, .null, .null, .null, .null, .null, .null, .null, .null]) q132 inX10 tyX10_ok nmX10 rfl (by decide) rfl rfl rfl rfl (Nat.le_of_ble_eq_true rfl) rfl dX10_init_15 ?_
  refine y_aload_n C dX10_init_18 0 rfl ?_
  refine y_iconst (v := (-1)) C dX10_init_19 rfl ?_
  refine y_put C (c := 10) (k := 2) (N := 15) (T := TX10) (R := RX10) (fs' := [.ref ad1, .int 0, .int (-1), .int 0, .int 0, .null, .null, .null, .null, .null, .null, .null, .null, .null, .null]) q133 inX10 tyX10_ok nmX10 rfl (by decide) rfl rfl rfl rfl (Nat.le_of_ble_eq_true rfl) rfl dX10_init_20 ?_
  refine y_aload_n C dX10_init_23 0 rfl ?_
  refine y_iconst (v := 0) C dX10_init_24 rfl ?_
  refine y_put C (c := 10) (k := 3) (N := 15) (T := TX10) (R := RX10) (fs' := [.ref ad1, .int 0, .int (-1), .int 0, .int 0, .null, .null, .null, .null, .null, .null, .null, .null, .null, .null]) q141 inX10 tyX10_ok nmX10 rfl (by decide) rfl rfl rfl rfl (Nat.le_of_ble_eq_true rfl) rfl dX10_init_25 ?_
  refine y_aload_n C dX10_init_28 0 rfl ?_
  refine y_iconst (v := 0) C dX10_init_29 rfl ?_
  refine y_put C (c := 10) (k := 4) (N := 15) (T := TX10) (R := RX10) (fs' := [.ref ad1, .int 0, .int (-1), .int 0, .int 0, .null, .null, .null, .null, .null, .null, .null, .null, .null, .null]) q140 inX10 tyX10_ok nmX10 rfl (by decide) rfl rfl rfl rfl (Nat.le_of_ble_eq_true rfl) rfl dX10_init_30 ?_
  refine y_aload_n C dX10_init_33 0 rfl ?_
  refine y_new (c := 9) C inX9 tyX9_ok rfl q1502 q1503 q262 nX9 (Nat.le_of_ble_eq_true rfl) (Nat.le_of_ble_eq_true rfl) dX10_init_34 (fun ad2 => ?_)
  show Y Γ A G Qf _ _ _ _ _ _ ((h0, .inr (10, [.ref ad1, .int 0, .int (-1), .int 0, .int 0, .null, .null, .null, .null, .null, .null, .null, .null, .null, .null])) :: (([] ++ [(ad1, .inl (gC G 0, 300, .inl (fun _ => 0)))]) ++ [(ad2, .inr (9, [.null, .int 0]))]))
  refine y_dup C dX10_init_37 rfl ?_
  refine y_init (ce := 2) (sl := 302) (ws := (h0, .inr (10, [.ref ad1, .int 0, .int (-1), .int 0, .int 0, .null, .null, .null, .null, .null, .null, .null, .null, .null, .null])) :: ([] ++ [(ad1, .inl (gC G 0, 300, .inl (fun _ => 0)))])) (As := []) (rest := [.ref ad2, .ref h0]) C si_X10_28 (mX9_init (gl Γ) G ) rfl rfl (Nat.le_of_ble_eq_true rfl) ⟨(Nat.le_of_ble_eq_true rfl), (Nat.le_of_ble_eq_true rfl)⟩ ⟨(Nat.le_of_ble_eq_true rfl), (Nat.le_of_ble_eq_true rfl)⟩ dX10_init_38 (fun f3 hf3 => ?_)
  have hf3 : f3 9 0 = ad2 := hf3
  obtain rfl := hf3
  show Y Γ A G Qf _ _ _ _ _ _ ((h0, .inr (10, [.ref ad1, .int 0, .int (-1), .int 0, .int 0, .null, .null, .null, .null, .null, .null, .null, .null, .null, .null])) :: (([] ++ [(ad1, .inl (gC G 0, 300, .inl (fun _ => 0)))]) ++ wsI S9 (upG G f3) M0))
  refine y_putF C hin (c := 10) (k := 5) (N := 15) (T := TX10) (R := RX10) (fs' := [.ref ad1, .int 0, .int (-1), .int 0, .int 0, .ref (f3 9 0), .null, .null, .null, .null, .null, .null, .null, .null, .null]) q849 inX10 tyX10_ok nmX10 rfl (by decide) rfl rfl rfl rfl rfl (Nat.le_of_ble_eq_true rfl) rfl dX10_init_41 ?_
  refine y_aload_n C dX10_init_44 0 rfl ?_
  refine y_new (c := 4) C inX4 tyX4_ok rfl q1504 q1505 q226 nX4 (Nat.le_of_ble_eq_true rfl) (Nat.le_of_ble_eq_true rfl) dX10_init_45 (fun ad4 => ?_)
  show Y Γ A G Qf _ _ _ _ _ _ ((h0, .inr (10, [.ref ad1, .int 0, .int (-1), .int 0, .int 0, .ref (f3 9 0), .null, .null, .null, .null, .null, .null, .null, .null, .null])) :: ((([] ++ [(ad1, .inl (gC G 0, 300, .inl (fun _ => 0)))]) ++ wsI S9 (upG G f3) M0) ++ [(ad4, .inr (4, [.null, .null, .null, .null, .int 0, .int 0, .int 0, .int 0, .null, .null, .null, .null, .null]))]))
  refine y_dup C dX10_init_48 rfl ?_
  refine y_aload_n C dX10_init_49 0 rfl ?_
  refine y_get C (c := 10) (k := 5) (N := 15) (T := TX10) (R := RX10) q849 inX10 rfl (by decide) rfl rfl dX10_init_50 ?_
  refine y_init (ce := 4) (sl := 570) (ws := (h0, .inr (10, [.ref ad1, .int 0, .int (-1), .int 0, .int 0, .ref (f3 9 0), .null, .null, .null, .null, .null, .null, .null, .null, .null])) :: (([] ++ [(ad1, .inl (gC G 0, 300, .inl (fun _ => 0)))]) ++ wsI S9 (upG G f3) M0)) (As := [.ref (f3 9 0)]) (rest := [.ref ad4, .ref h0]) C si_X10_35 (mX4_init (gl Γ) G (f3 9 0)) rfl rfl (Nat.le_of_ble_eq_true rfl) ⟨(Nat.le_of_ble_eq_true rfl), (Nat.le_of_ble_eq_true rfl)⟩ ⟨(Nat.le_of_ble_eq_true rfl), (Nat.le_of_ble_eq_true rfl)⟩ dX10_init_53 (fun f5 hf5 => ?_)
  have hf5 : f5 4 0 = ad4 ∧ f5 9 0 = (f3 9 0) := hf5
  obtain ⟨rfl, hf5_1⟩ := hf5
  show Y Γ A G Qf _ _ _ _ _ _ ((h0, .inr (10, [.ref ad1, .int 0, .int (-1), .int 0, .int 0, .ref (f3 9 0), .null, .null, .null, .null, .null, .null, .null, .null, .null])) :: ((([] ++ [(ad1, .inl (gC G 0, 300, .inl (fun _ => 0)))]) ++ wsI S9 (upG G f3) M0) ++ wsI S4 (upG G f5) M0))
  refine y_putF C hin (c := 10) (k := 6) (N := 15) (T := TX10) (R := RX10) (fs' := [.ref ad1, .int 0, .int (-1), .int 0, .int 0, .ref (f3 9 0), .ref (f5 4 0), .null, .null, .null, .null, .null, .null, .null, .null]) q137 inX10 tyX10_ok nmX10 rfl (by decide) rfl rfl rfl rfl rfl (Nat.le_of_ble_eq_true rfl) rfl dX10_init_56 ?_
  refine y_aload_n C dX10_init_59 0 rfl ?_
  refine y_new (c := 5) C inX5 tyX5_ok rfl q1506 q1507 q220 nX5 (Nat.le_of_ble_eq_true rfl) (Nat.le_of_ble_eq_true rfl) dX10_init_60 (fun ad6 => ?_)
  show Y Γ A G Qf _ _ _ _ _ _ ((h0, .inr (10, [.ref ad1, .int 0, .int (-1), .int 0, .int 0, .ref (f3 9 0), .ref (f5 4 0), .null, .null, .null, .null, .null, .null, .null, .null])) :: (((([] ++ [(ad1, .inl (gC G 0, 300, .inl (fun _ => 0)))]) ++ wsI S9 (upG G f3) M0) ++ wsI S4 (upG G f5) M0) ++ [(ad6, .inr (5, [.null, .int 0, .int 0, .int 0, .int 0, .int 0, .int 0, .int 0, .int 0]))]))
  refine y_dup C dX10_init_63 rfl ?_
  refine y_aload_n C dX10_init_64 0 rfl ?_
  refine y_get C (c := 10) (k := 6) (N := 15) (T := TX10) (R := RX10) q137 inX10 rfl (by decide) rfl rfl dX10_init_65 ?_
  refine y_init (ce := 842) (sl := 60606) (ws := (h0, .inr (10, [.ref ad1, .int 0, .int (-1), .int 0, .int 0, .ref (f3 9 0), .ref (f5 4 0), .null, .null, .null, .null, .null, .null, .null, .null])) :: ((([] ++ [(ad1, .inl (gC G 0, 300, .inl (fun _ => 0)))]) ++ wsI S9 (upG G f3) M0) ++ wsI S4 (upG G f5) M0)) (As := [.ref (f5 4 0)]) (rest := [.ref ad6, .ref h0]) C si_X10_44 (mX5_init (gl Γ) G (f5 4 0)) rfl rfl (Nat.le_of_ble_eq_true rfl) ⟨(Nat.le_of_ble_eq_true rfl), (Nat.le_of_ble_eq_true rfl)⟩ ⟨(Nat.le_of_ble_eq_true rfl), (Nat.le_of_ble_eq_true rfl)⟩ dX10_init_68 (fun f7 hf7 => ?_)
  have hf7 : f7 5 0 = ad6 ∧ f7 4 0 = (f5 4 0) := hf7
  obtain ⟨rfl, hf7_1⟩ := hf7
  show Y Γ A G Qf _ _ _ _ _ _ ((h0, .inr (10, [.ref ad1, .int 0, .int (-1), .int 0, .int 0, .ref (f3 9 0), .ref (f5 4 0), .null, .null, .null, .null, .null, .null, .null, .null])) :: (((([] ++ [(ad1, .inl (gC G 0, 300, .inl (fun _ => 0)))]) ++ wsI S9 (upG G f3) M0) ++ wsI S4 (upG G f5) M0) ++ wsI S5 (upG G f7) M0))
  refine y_putF C hin (c := 10) (k := 7) (N := 15) (T := TX10) (R := RX10) (fs' := [.ref ad1, .int 0, .int (-1), .int 0, .int 0, .ref (f3 9 0), .ref (f5 4 0), .ref (f7 5 0), .null, .null, .null, .null, .null, .null, .null]) q136 inX10 tyX10_ok nmX10 rfl (by decide) rfl rfl rfl rfl rfl (Nat.le_of_ble_eq_true rfl) rfl dX10_init_71 ?_
  refine y_aload_n C dX10_init_74 0 rfl ?_
  refine y_new (c := 6) C inX6 tyX6_ok rfl q1508 q1494 q289 nX6 (Nat.le_of_ble_eq_true rfl) (Nat.le_of_ble_eq_true rfl) dX10_init_75 (fun ad8 => ?_)
  show Y Γ A G Qf _ _ _ _ _ _ ((h0, .inr (10, [.ref ad1, .int 0, .int (-1), .int 0, .int 0, .ref (f3 9 0), .ref (f5 4 0), .ref (f7 5 0), .null, .null, .null, .null, .null, .null, .null])) :: ((((([] ++ [(ad1, .inl (gC G 0, 300, .inl (fun _ => 0)))]) ++ wsI S9 (upG G f3) M0) ++ wsI S4 (upG G f5) M0) ++ wsI S5 (upG G f7) M0) ++ [(ad8, .inr (6, [.int 0, .int 0, .null, .null, .null, .int 0, .int 0, .null, .int 0, .null, .null, .int 0]))]))
  refine y_dup C dX10_init_78 rfl ?_
  refine y_init (ce := 843) (sl := 60618) (ws := (h0, .inr (10, [.ref ad1, .int 0, .int (-1), .int 0, .int 0, .ref (f3 9 0), .ref (f5 4 0), .ref (f7 5 0), .null, .null, .null, .null, .null, .null, .null])) :: (((([] ++ [(ad1, .inl (gC G 0, 300, .inl (fun _ => 0)))]) ++ wsI S9 (upG G f3) M0) ++ wsI S4 (upG G f5) M0) ++ wsI S5 (upG G f7) M0)) (As := []) (rest := [.ref ad8, .ref h0]) C si_X10_53 (mX6_init_0 (gl Γ) G ) rfl rfl (Nat.le_of_ble_eq_true rfl) ⟨(Nat.le_of_ble_eq_true rfl), (Nat.le_of_ble_eq_true rfl)⟩ ⟨(Nat.le_of_ble_eq_true rfl), (Nat.le_of_ble_eq_true rfl)⟩ dX10_init_79 (fun f9 hf9 => ?_)
  have hf9 : f9 6 0 = ad8 := hf9
  obtain rfl := hf9
  show Y Γ A G Qf _ _ _ _ _ _ ((h0, .inr (10, [.ref ad1, .int 0, .int (-1), .int 0, .int 0, .ref (f3 9 0), .ref (f5 4 0), .ref (f7 5 0), .null, .null, .null, .null, .null, .null, .null])) :: ((((([] ++ [(ad1, .inl (gC G 0, 300, .inl (fun _ => 0)))]) ++ wsI S9 (upG G f3) M0) ++ wsI S4 (upG G f5) M0) ++ wsI S5 (upG G f7) M0) ++ wsI S6_0 (upG G f9) M0))
  refine y_putF C hin (c := 10) (k := 8) (N := 15) (T := TX10) (R := RX10) (fs' := [.ref ad1, .int 0, .int (-1), .int 0, .int 0, .ref (f3 9 0), .ref (f5 4 0), .ref (f7 5 0), .ref (f9 6 0), .null, .null, .null, .null, .null, .null]) q846 inX10 tyX10_ok nmX10 rfl (by decide) rfl rfl rfl rfl rfl (Nat.le_of_ble_eq_true rfl) rfl dX10_init_82 ?_
  refine y_aload_n C dX10_init_85 0 rfl ?_
  refine y_new (c := 1) C inX1 tyX1_ok rfl q1509 q1510 q271 nX1 (Nat.le_of_ble_eq_true rfl) (Nat.le_of_ble_eq_true rfl) dX10_init_86 (fun ad10 => ?_)
  show Y Γ A G Qf _ _ _ _ _ _ ((h0, .inr (10, [.ref ad1, .int 0, .int (-1), .int 0, .int 0, .ref (f3 9 0), .ref (f5 4 0), .ref (f7 5 0), .ref (f9 6 0), .null, .null, .null, .null, .null, .null])) :: (((((([] ++ [(ad1, .inl (gC G 0, 300, .inl (fun _ => 0)))]) ++ wsI S9 (upG G f3) M0) ++ wsI S4 (upG G f5) M0) ++ wsI S5 (upG G f7) M0) ++ wsI S6_0 (upG G f9) M0) ++ [(ad10, .inr (1, [.null, .null, .int 0, .int 0]))]))
  refine y_dup C dX10_init_89 rfl ?_
  refine y_aload_n C dX10_init_90 0 rfl ?_
  refine y_get C (c := 10) (k := 5) (N := 15) (T := TX10) (R := RX10) q849 inX10 rfl (by decide) rfl rfl dX10_init_91 ?_
  refine y_init (ce := 856) (sl := 60736) (ws := (h0, .inr (10, [.ref ad1, .int 0, .int (-1), .int 0, .int 0, .ref (f3 9 0), .ref (f5 4 0), .ref (f7 5 0), .ref (f9 6 0), .null, .null, .null, .null, .null, .null])) :: ((((([] ++ [(ad1, .inl (gC G 0, 300, .inl (fun _ => 0)))]) ++ wsI S9 (upG G f3) M0) ++ wsI S4 (upG G f5) M0) ++ wsI S5 (upG G f7) M0) ++ wsI S6_0 (upG G f9) M0)) (As := [.ref (f3 9 0)]) (rest := [.ref ad10, .ref h0]) C si_X10_60 (mX1_init (gl Γ) G (f3 9 0)) rfl rfl (Nat.le_of_ble_eq_true rfl) ⟨(Nat.le_of_ble_eq_true rfl), (Nat.le_of_ble_eq_true rfl)⟩ ⟨(Nat.le_of_ble_eq_true rfl), (Nat.le_of_ble_eq_true rfl)⟩ dX10_init_94 (fun f11 hf11 => ?_)
  have hf11 : f11 1 0 = ad10 ∧ f11 9 0 = (f3 9 0) := hf11
  obtain ⟨rfl, hf11_1⟩ := hf11
  show Y Γ A G Qf _ _ _ _ _ _ ((h0, .inr (10, [.ref ad1, .int 0, .int (-1), .int 0, .int 0, .ref (f3 9 0), .ref (f5 4 0), .ref (f7 5 0), .ref (f9 6 0), .null, .null, .null, .null, .null, .null])) :: (((((([] ++ [(ad1, .inl (gC G 0, 300, .inl (fun _ => 0)))]) ++ wsI S9 (upG G f3) M0) ++ wsI S4 (upG G f5) M0) ++ wsI S5 (upG G f7) M0) ++ wsI S6_0 (upG G f9) M0) ++ wsI S1 (upG G f11) M0))
  refine y_putF C hin (c := 10) (k := 9) (N := 15) (T := TX10) (R := RX10) (fs' := [.ref ad1, .int 0, .int (-1), .int 0, .int 0, .ref (f3 9 0), .ref (f5 4 0), .ref (f7 5 0), .ref (f9 6 0), .ref (f11 1 0), .null, .null, .null, .null, .null]) q840 inX10 tyX10_ok nmX10 rfl (by decide) rfl rfl rfl rfl rfl (Nat.le_of_ble_eq_true rfl) rfl dX10_init_97 ?_
  refine y_aload_n C dX10_init_100 0 rfl ?_
  refine y_new (c := 7) C inX7 tyX7_ok rfl q1511 q1512 q448 nX7 (Nat.le_of_ble_eq_true rfl) (Nat.le_of_ble_eq_true rfl) dX10_init_101 (fun ad12 => ?_)
  show Y Γ A G Qf _ _ _ _ _ _ ((h0, .inr (10, [.ref ad1, .int 0, .int (-1), .int 0, .int 0, .ref (f3 9 0), .ref (f5 4 0), .ref (f7 5 0), .ref (f9 6 0), .ref (f11 1 0), .null, .null, .null, .null, .null])) :: ((((((([] ++ [(ad1, .inl (gC G 0, 300, .inl (fun _ => 0)))]) ++ wsI S9 (upG G f3) M0) ++ wsI S4 (upG G f5) M0) ++ wsI S5 (upG G f7) M0) ++ wsI S6_0 (upG G f9) M0) ++ wsI S1 (upG G f11) M0) ++ [(ad12, .inr (7, [.null, .null, .int 0, .int 0, .int 0, .int 0, .long 0]))]))
  refine y_dup C dX10_init_104 rfl ?_
  refine y_aload_n C dX10_init_105 0 rfl ?_
  refine y_get C (c := 10) (k := 5) (N := 15) (T := TX10) (R := RX10) q849 inX10 rfl (by decide) rfl rfl dX10_init_106 ?_
  refine y_init (ce := 858) (sl := 60893) (ws := (h0, .inr (10, [.ref ad1, .int 0, .int (-1), .int 0, .int 0, .ref (f3 9 0), .ref (f5 4 0), .ref (f7 5 0), .ref (f9 6 0), .ref (f11 1 0), .null, .null, .null, .null, .null])) :: (((((([] ++ [(ad1, .inl (gC G 0, 300, .inl (fun _ => 0)))]) ++ wsI S9 (upG G f3) M0) ++ wsI S4 (upG G f5) M0) ++ wsI S5 (upG G f7) M0) ++ wsI S6_0 (upG G f9) M0) ++ wsI S1 (upG G f11) M0)) (As := [.ref (f3 9 0)]) (rest := [.ref ad12, .ref h0]) C si_X10_67 (mX7_init (gl Γ) G (f3 9 0)) rfl rfl (Nat.le_of_ble_eq_true rfl) ⟨(Nat.le_of_ble_eq_true rfl), (Nat.le_of_ble_eq_true rfl)⟩ ⟨(Nat.le_of_ble_eq_true rfl), (Nat.le_of_ble_eq_true rfl)⟩ dX10_init_109 (fun f13 hf13 => ?_)
  have hf13 : f13 7 0 = ad12 ∧ f13 9 0 = (f3 9 0) := hf13
  obtain ⟨rfl, hf13_1⟩ := hf13
  show Y Γ A G Qf _ _ _ _ _ _ ((h0, .inr (10, [.ref ad1, .int 0, .int (-1), .int 0, .int 0, .ref (f3 9 0), .ref (f5 4 0), .ref (f7 5 0), .ref (f9 6 0), .ref (f11 1 0), .null, .null, .null, .null, .null])) :: ((((((([] ++ [(ad1, .inl (gC G 0, 300, .inl (fun _ => 0)))]) ++ wsI S9 (upG G f3) M0) ++ wsI S4 (upG G f5) M0) ++ wsI S5 (upG G f7) M0) ++ wsI S6_0 (upG G f9) M0) ++ wsI S1 (upG G f11) M0) ++ wsI S7 (upG G f13) M0))
  refine y_putF C hin (c := 10) (k := 10) (N := 15) (T := TX10) (R := RX10) (fs' := [.ref ad1, .int 0, .int (-1), .int 0, .int 0, .ref (f3 9 0), .ref (f5 4 0), .ref (f7 5 0), .ref (f9 6 0), .ref (f11 1 0), .ref (f13 7 0), .null, .null, .null, .null]) q844 inX10 tyX10_ok nmX10 rfl (by decide) rfl rfl rfl rfl rfl (Nat.le_of_ble_eq_true rfl) rfl dX10_init_112 ?_
  refine y_aload_n C dX10_init_115 0 rfl ?_
  refine y_new (c := 3) C inX3 tyX3_ok rfl q1513 q1514 q313 nX3 (Nat.le_of_ble_eq_true rfl) (Nat.le_of_ble_eq_true rfl) dX10_init_116 (fun ad14 => ?_)
  show Y Γ A G Qf _ _ _ _ _ _ ((h0, .inr (10, [.ref ad1, .int 0, .int (-1), .int 0, .int 0, .ref (f3 9 0), .ref (f5 4 0), .ref (f7 5 0), .ref (f9 6 0), .ref (f11 1 0), .ref (f13 7 0), .null, .null, .null, .null])) :: (((((((([] ++ [(ad1, .inl (gC G 0, 300, .inl (fun _ => 0)))]) ++ wsI S9 (upG G f3) M0) ++ wsI S4 (upG G f5) M0) ++ wsI S5 (upG G f7) M0) ++ wsI S6_0 (upG G f9) M0) ++ wsI S1 (upG G f11) M0) ++ wsI S7 (upG G f13) M0) ++ [(ad14, .inr (3, [.null, .null, .null, .int 0, .int 0]))]))
  refine y_dup C dX10_init_119 rfl ?_
  refine y_aload_n C dX10_init_120 0 rfl ?_
  refine y_get C (c := 10) (k := 6) (N := 15) (T := TX10) (R := RX10) q137 inX10 rfl (by decide) rfl rfl dX10_init_121 ?_
  refine y_aload_n C dX10_init_124 0 rfl ?_
  refine y_get C (c := 10) (k := 8) (N := 15) (T := TX10) (R := RX10) q846 inX10 rfl (by decide) rfl rfl dX10_init_125 ?_
  refine y_init (ce := 872) (sl := 61024) (ws := (h0, .inr (10, [.ref ad1, .int 0, .int (-1), .int 0, .int 0, .ref (f3 9 0), .ref (f5 4 0), .ref (f7 5 0), .ref (f9 6 0), .ref (f11 1 0), .ref (f13 7 0), .null, .null, .null, .null])) :: ((((((([] ++ [(ad1, .inl (gC G 0, 300, .inl (fun _ => 0)))]) ++ wsI S9 (upG G f3) M0) ++ wsI S4 (upG G f5) M0) ++ wsI S5 (upG G f7) M0) ++ wsI S6_0 (upG G f9) M0) ++ wsI S1 (upG G f11) M0) ++ wsI S7 (upG G f13) M0)) (As := [.ref (f5 4 0), .ref (f9 6 0)]) (rest := [.ref ad14, .ref h0]) C si_X10_74 (mX3_init (gl Γ) G (f5 4 0) (f9 6 0)) rfl rfl (Nat.le_of_ble_eq_true rfl) ⟨(Nat.le_of_ble_eq_true rfl), (Nat.le_of_ble_eq_true rfl)⟩ ⟨(Nat.le_of_ble_eq_true rfl), (Nat.le_of_ble_eq_true rfl)⟩ dX10_init_128 (fun f15 hf15 => ?_)
  have hf15 : f15 3 0 = ad14 ∧ f15 4 0 = (f5 4 0) ∧ f15 6 0 = (f9 6 0) := hf15
  obtain ⟨rfl, hf15_1, hf15_2⟩ := hf15
  show Y Γ A G Qf _ _ _ _ _ _ ((h0, .inr (10, [.ref ad1, .int 0, .int (-1), .int 0, .int 0, .ref (f3 9 0), .ref (f5 4 0), .ref (f7 5 0), .ref (f9 6 0), .ref (f11 1 0), .ref (f13 7 0), .null, .null, .null, .null])) :: (((((((([] ++ [(ad1, .inl (gC G 0, 300, .inl (fun _ => 0)))]) ++ wsI S9 (upG G f3) M0) ++ wsI S4 (upG G f5) M0) ++ wsI S5 (upG G f7) M0) ++ wsI S6_0 (upG G f9) M0) ++ wsI S1 (upG G f11) M0) ++ wsI S7 (upG G f13) M0) ++ wsI S3 (upG G f15) M0))
  refine y_putF C hin (c := 10) (k := 11) (N := 15) (T := TX10) (R := RX10) (fs' := [.ref ad1, .int 0, .int (-1), .int 0, .int 0, .ref (f3 9 0), .ref (f5 4 0), .ref (f7 5 0), .ref (f9 6 0), .ref (f11 1 0), .ref (f13 7 0), .ref (f15 3 0), .null, .null, .null]) q139 inX10 tyX10_ok nmX10 rfl (by decide) rfl rfl rfl rfl rfl (Nat.le_of_ble_eq_true rfl) rfl dX10_init_131 ?_
  refine y_aload_n C dX10_init_134 0 rfl ?_
  refine y_new (c := 8) C inX8 tyX8_ok rfl q1515 q1516 q516 nX8 (Nat.le_of_ble_eq_true rfl) (Nat.le_of_ble_eq_true rfl) dX10_init_135 (fun ad16 => ?_)
  show Y Γ A G Qf _ _ _ _ _ _ ((h0, .inr (10, [.ref ad1, .int 0, .int (-1), .int 0, .int 0, .ref (f3 9 0), .ref (f5 4 0), .ref (f7 5 0), .ref (f9 6 0), .ref (f11 1 0), .ref (f13 7 0), .ref (f15 3 0), .null, .null, .null])) :: ((((((((([] ++ [(ad1, .inl (gC G 0, 300, .inl (fun _ => 0)))]) ++ wsI S9 (upG G f3) M0) ++ wsI S4 (upG G f5) M0) ++ wsI S5 (upG G f7) M0) ++ wsI S6_0 (upG G f9) M0) ++ wsI S1 (upG G f11) M0) ++ wsI S7 (upG G f13) M0) ++ wsI S3 (upG G f15) M0) ++ [(ad16, .inr (8, [.null, .null, .null, .null, .int 0]))]))
  refine y_dup C dX10_init_138 rfl ?_
  refine y_aload_n C dX10_init_139 0 rfl ?_
  refine y_get C (c := 10) (k := 6) (N := 15) (T := TX10) (R := RX10) q137 inX10 rfl (by decide) rfl rfl dX10_init_140 ?_
  refine y_aload_n C dX10_init_143 0 rfl ?_
  refine y_get C (c := 10) (k := 11) (N := 15) (T := TX10) (R := RX10) q139 inX10 rfl (by decide) rfl rfl dX10_init_144 ?_
  refine y_init (ce := 874) (sl := 61053) (ws := (h0, .inr (10, [.ref ad1, .int 0, .int (-1), .int 0, .int 0, .ref (f3 9 0), .ref (f5 4 0), .ref (f7 5 0), .ref (f9 6 0), .ref (f11 1 0), .ref (f13 7 0), .ref (f15 3 0), .null, .null, .null])) :: (((((((([] ++ [(ad1, .inl (gC G 0, 300, .inl (fun _ => 0)))]) ++ wsI S9 (upG G f3) M0) ++ wsI S4 (upG G f5) M0) ++ wsI S5 (upG G f7) M0) ++ wsI S6_0 (upG G f9) M0) ++ wsI S1 (upG G f11) M0) ++ wsI S7 (upG G f13) M0) ++ wsI S3 (upG G f15) M0)) (As := [.ref (f5 4 0), .ref (f15 3 0)]) (rest := [.ref ad16, .ref h0]) C si_X10_83 (mX8_init_0 (gl Γ) G (f5 4 0) (f15 3 0)) rfl rfl (Nat.le_of_ble_eq_true rfl) ⟨(Nat.le_of_ble_eq_true rfl), (Nat.le_of_ble_eq_true rfl)⟩ ⟨(Nat.le_of_ble_eq_true rfl), (Nat.le_of_ble_eq_true rfl)⟩ dX10_init_147 (fun f17 hf17 => ?_)
  have hf17 : f17 8 0 = ad16 ∧ f17 4 0 = (f5 4 0) ∧ f17 3 0 = (f15 3 0) := hf17
  obtain ⟨rfl, hf17_1, hf17_2⟩ := hf17
  show Y Γ A G Qf _ _ _ _ _ _ ((h0, .inr (10, [.ref ad1, .int 0, .int (-1), .int 0, .int 0, .ref (f3 9 0), .ref (f5 4 0), .ref (f7 5 0), .ref (f9 6 0), .ref (f11 1 0), .ref (f13 7 0), .ref (f15 3 0), .null, .null, .null])) :: ((((((((([] ++ [(ad1, .inl (gC G 0, 300, .inl (fun _ => 0)))]) ++ wsI S9 (upG G f3) M0) ++ wsI S4 (upG G f5) M0) ++ wsI S5 (upG G f7) M0) ++ wsI S6_0 (upG G f9) M0) ++ wsI S1 (upG G f11) M0) ++ wsI S7 (upG G f13) M0) ++ wsI S3 (upG G f15) M0) ++ wsI S8_0 (upG G f17) M0))
  refine y_putF C hin (c := 10) (k := 12) (N := 15) (T := TX10) (R := RX10) (fs' := [.ref ad1, .int 0, .int (-1), .int 0, .int 0, .ref (f3 9 0), .ref (f5 4 0), .ref (f7 5 0), .ref (f9 6 0), .ref (f11 1 0), .ref (f13 7 0), .ref (f15 3 0), .ref (f17 8 0), .null, .null]) q134 inX10 tyX10_ok nmX10 rfl (by decide) rfl rfl rfl rfl rfl (Nat.le_of_ble_eq_true rfl) rfl dX10_init_150 ?_
  refine y_aload_n C dX10_init_153 0 rfl ?_
  refine y_new (c := 8) C inX8 tyX8_ok rfl q1515 q1516 q516 nX8 (Nat.le_of_ble_eq_true rfl) (Nat.le_of_ble_eq_true rfl) dX10_init_154 (fun ad18 => ?_)
  show Y Γ A G Qf _ _ _ _ _ _ ((h0, .inr (10, [.ref ad1, .int 0, .int (-1), .int 0, .int 0, .ref (f3 9 0), .ref (f5 4 0), .ref (f7 5 0), .ref (f9 6 0), .ref (f11 1 0), .ref (f13 7 0), .ref (f15 3 0), .ref (f17 8 0), .null, .null])) :: (((((((((([] ++ [(ad1, .inl (gC G 0, 300, .inl (fun _ => 0)))]) ++ wsI S9 (upG G f3) M0) ++ wsI S4 (upG G f5) M0) ++ wsI S5 (upG G f7) M0) ++ wsI S6_0 (upG G f9) M0) ++ wsI S1 (upG G f11) M0) ++ wsI S7 (upG G f13) M0) ++ wsI S3 (upG G f15) M0) ++ wsI S8_0 (upG G f17) M0) ++ [(ad18, .inr (8, [.null, .null, .null, .null, .int 0]))]))
  refine y_dup C dX10_init_157 rfl ?_
  refine y_aload_n C dX10_init_158 0 rfl ?_
  refine y_get C (c := 10) (k := 6) (N := 15) (T := TX10) (R := RX10) q137 inX10 rfl (by decide) rfl rfl dX10_init_159 ?_
  refine y_aload_n C dX10_init_162 0 rfl ?_
  refine y_get C (c := 10) (k := 11) (N := 15) (T := TX10) (R := RX10) q139 inX10 rfl (by decide) rfl rfl dX10_init_163 ?_
  refine y_init (ce := 877) (sl := 61186) (ws := (h0, .inr (10, [.ref ad1, .int 0, .int (-1), .int 0, .int 0, .ref (f3 9 0), .ref (f5 4 0), .ref (f7 5 0), .ref (f9 6 0), .ref (f11 1 0), .ref (f13 7 0), .ref (f15 3 0), .ref (f17 8 0), .null, .null])) :: ((((((((([] ++ [(ad1, .inl (gC G 0, 300, .inl (fun _ => 0)))]) ++ wsI S9 (upG G f3) M0) ++ wsI S4 (upG G f5) M0) ++ wsI S5 (upG G f7) M0) ++ wsI S6_0 (upG G f9) M0) ++ wsI S1 (upG G f11) M0) ++ wsI S7 (upG G f13) M0) ++ wsI S3 (upG G f15) M0) ++ wsI S8_0 (upG G f17) M0)) (As := [.ref (f5 4 0), .ref (f15 3 0)]) (rest := [.ref ad18, .ref h0]) C si_X10_83 (mX8_init_1 (gl Γ) G (f5 4 0) (f15 3 0)) rfl rfl (Nat.le_of_ble_eq_true rfl) ⟨(Nat.le_of_ble_eq_true rfl), (Nat.le_of_ble_eq_true rfl)⟩ ⟨(Nat.le_of_ble_eq_true rfl), (Nat.le_of_ble_eq_true rfl)⟩ dX10_init_166 (fun f19 hf19 => ?_)
  have hf19 : f19 8 1 = ad18 ∧ f19 4 0 = (f5 4 0) ∧ f19 3 0 = (f15 3 0) := hf19
  obtain ⟨rfl, hf19_1, hf19_2⟩ := hf19
  show Y Γ A G Qf _ _ _ _ _ _ ((h0, .inr (10, [.ref ad1, .int 0, .int (-1), .int 0, .int 0, .ref (f3 9 0), .ref (f5 4 0), .ref (f7 5 0), .ref (f9 6 0), .ref (f11 1 0), .ref (f13 7 0), .ref (f15 3 0), .ref (f17 8 0), .null, .null])) :: (((((((((([] ++ [(ad1, .inl (gC G 0, 300, .inl (fun _ => 0)))]) ++ wsI S9 (upG G f3) M0) ++ wsI S4 (upG G f5) M0) ++ wsI S5 (upG G f7) M0) ++ wsI S6_0 (upG G f9) M0) ++ wsI S1 (upG G f11) M0) ++ wsI S7 (upG G f13) M0) ++ wsI S3 (upG G f15) M0) ++ wsI S8_0 (upG G f17) M0) ++ wsI S8_1 (upG G f19) M0))
  refine y_putF C hin (c := 10) (k := 13) (N := 15) (T := TX10) (R := RX10) (fs' := [.ref ad1, .int 0, .int (-1), .int 0, .int 0, .ref (f3 9 0), .ref (f5 4 0), .ref (f7 5 0), .ref (f9 6 0), .ref (f11 1 0), .ref (f13 7 0), .ref (f15 3 0), .ref (f17 8 0), .ref (f19 8 1), .null]) q884 inX10 tyX10_ok nmX10 rfl (by decide) rfl rfl rfl rfl rfl (Nat.le_of_ble_eq_true rfl) rfl dX10_init_169 ?_
  refine y_aload_n C dX10_init_172 0 rfl ?_
  refine y_new (c := 2) C inX2 tyX2_ok rfl q1517 q1518 q294 nX2 (Nat.le_of_ble_eq_true rfl) (Nat.le_of_ble_eq_true rfl) dX10_init_173 (fun ad20 => ?_)
  show Y Γ A G Qf _ _ _ _ _ _ ((h0, .inr (10, [.ref ad1, .int 0, .int (-1), .int 0, .int 0, .ref (f3 9 0), .ref (f5 4 0), .ref (f7 5 0), .ref (f9 6 0), .ref (f11 1 0), .ref (f13 7 0), .ref (f15 3 0), .ref (f17 8 0), .ref (f19 8 1), .null])) :: ((((((((((([] ++ [(ad1, .inl (gC G 0, 300, .inl (fun _ => 0)))]) ++ wsI S9 (upG G f3) M0) ++ wsI S4 (upG G f5) M0) ++ wsI S5 (upG G f7) M0) ++ wsI S6_0 (upG G f9) M0) ++ wsI S1 (upG G f11) M0) ++ wsI S7 (upG G f13) M0) ++ wsI S3 (upG G f15) M0) ++ wsI S8_0 (upG G f17) M0) ++ wsI S8_1 (upG G f19) M0) ++ [(ad20, .inr (2, [.null, .null, .null, .null, .int 0, .int 0, .int 0, .null, .null, .int 0, .int 0, .int 0, .int 0, .int 0]))]))
  refine y_dup C dX10_init_176 rfl ?_
  refine y_aload_n C dX10_init_177 0 rfl ?_
  refine y_get C (c := 10) (k := 6) (N := 15) (T := TX10) (R := RX10) q137 inX10 rfl (by decide) rfl rfl dX10_init_178 ?_
  refine y_aload_n C dX10_init_181 0 rfl ?_
  refine y_get C (c := 10) (k := 7) (N := 15) (T := TX10) (R := RX10) q136 inX10 rfl (by decide) rfl rfl dX10_init_182 ?_
  refine y_aload_n C dX10_init_185 0 rfl ?_
  refine y_get C (c := 10) (k := 8) (N := 15) (T := TX10) (R := RX10) q846 inX10 rfl (by decide) rfl rfl dX10_init_186 ?_
  refine y_aload_n C dX10_init_189 0 rfl ?_
  refine y_get C (c := 10) (k := 11) (N := 15) (T := TX10) (R := RX10) q139 inX10 rfl (by decide) rfl rfl dX10_init_190 ?_
  refine y_init (ce := 880) (sl := 61328) (ws := (h0, .inr (10, [.ref ad1, .int 0, .int (-1), .int 0, .int 0, .ref (f3 9 0), .ref (f5 4 0), .ref (f7 5 0), .ref (f9 6 0), .ref (f11 1 0), .ref (f13 7 0), .ref (f15 3 0), .ref (f17 8 0), .ref (f19 8 1), .null])) :: (((((((((([] ++ [(ad1, .inl (gC G 0, 300, .inl (fun _ => 0)))]) ++ wsI S9 (upG G f3) M0) ++ wsI S4 (upG G f5) M0) ++ wsI S5 (upG G f7) M0) ++ wsI S6_0 (upG G f9) M0) ++ wsI S1 (upG G f11) M0) ++ wsI S7 (upG G f13) M0) ++ wsI S3 (upG G f15) M0) ++ wsI S8_0 (upG G f17) M0) ++ wsI S8_1 (upG G f19) M0)) (As := [.ref (f5 4 0), .ref (f7 5 0), .ref (f9 6 0), .ref (f15 3 0)]) (rest := [.ref ad20, .ref h0]) C si_X10_95 (mX2_init (gl Γ) G (f5 4 0) (f7 5 0) (f9 6 0) (f15 3 0)) rfl rfl (Nat.le_of_ble_eq_true rfl) ⟨(Nat.le_of_ble_eq_true rfl), (Nat.le_of_ble_eq_true rfl)⟩ ⟨(Nat.le_of_ble_eq_true rfl), (Nat.le_of_ble_eq_true rfl)⟩ dX10_init_193 (fun f21 hf21 => ?_)
  have hf21 : f21 2 0 = ad20 ∧ f21 4 0 = (f5 4 0) ∧ f21 5 0 = (f7 5 0) ∧ f21 6 0 = (f9 6 0) ∧ f21 3 0 = (f15 3 0) := hf21
  obtain ⟨rfl, hf21_1, hf21_2, hf21_3, hf21_4⟩ := hf21
  show Y Γ A G Qf _ _ _ _ _ _ ((h0, .inr (10, [.ref ad1, .int 0, .int (-1), .int 0, .int 0, .ref (f3 9 0), .ref (f5 4 0), .ref (f7 5 0), .ref (f9 6 0), .ref (f11 1 0), .ref (f13 7 0), .ref (f15 3 0), .ref (f17 8 0), .ref (f19 8 1), .null])) :: ((((((((((([] ++ [(ad1, .inl (gC G 0, 300, .inl (fun _ => 0)))]) ++ wsI S9 (upG G f3) M0) ++ wsI S4 (upG G f5) M0) ++ wsI S5 (upG G f7) M0) ++ wsI S6_0 (upG G f9) M0) ++ wsI S1 (upG G f11) M0) ++ wsI S7 (upG G f13) M0) ++ wsI S3 (upG G f15) M0) ++ wsI S8_0 (upG G f17) M0) ++ wsI S8_1 (upG G f19) M0) ++ wsI S2 (upG G f21) M0))
  refine y_putF C hin (c := 10) (k := 14) (N := 15) (T := TX10) (R := RX10) (fs' := [.ref ad1, .int 0, .int (-1), .int 0, .int 0, .ref (f3 9 0), .ref (f5 4 0), .ref (f7 5 0), .ref (f9 6 0), .ref (f11 1 0), .ref (f13 7 0), .ref (f15 3 0), .ref (f17 8 0), .ref (f19 8 1), .ref (f21 2 0)]) q142 inX10 tyX10_ok nmX10 rfl (by decide) rfl rfl rfl rfl rfl (Nat.le_of_ble_eq_true rfl) rfl dX10_init_196 ?_
  obtain ⟨F, hF⟩ : ∃ F : Nat → Nat → Nat, F = fun c i => bif Nat.beq (bk c i) 10 then h0 else bif Nat.beq (bk c i) 1100 then ad1 else bif Nat.beq (bk c i) 9 then f3 c i else bif Nat.beq (bk c i) 4 then f5 c i else bif Nat.beq (bk c i) 5 then f7 c i else bif Nat.beq (bk c i) 60 then f9 c i else bif Nat.beq (bk c i) 1 then f11 c i else bif Nat.beq (bk c i) 7 then f13 c i else bif Nat.beq (bk c i) 3 then f15 c i else bif Nat.beq (bk c i) 80 then f17 c i else bif Nat.beq (bk c i) 81 then f19 c i else bif Nat.beq (bk c i) 2 then f21 c i else 0 := ⟨_, rfl⟩
  have e_f3 : wsI S9 (upG G f3) M0 = wsI S9 (upG G F) M0 := by
    refine wsI_congr (fun d => bk d.1 d.2 == 9) (by decide +kernel) (fun d hd => ?_)
    have hd : bk d.1 d.2 = 9 := by simpa using hd
    rw [hF]; show _ = bif Nat.beq (bk d.1 d.2) 10 then h0 else _; rw [hd]; rfl
  have e_f5 : wsI S4 (upG G f5) M0 = wsI S4 (upG G F) M0 := by
    refine wsI_congr (fun d => bk d.1 d.2 == 4 || d == (9, 0)) (by decide +kernel) (fun d hd => ?_)
    simp only [Bool.or_eq_true, beq_iff_eq] at hd
    rcases hd with hd | rfl
    · rw [hF]; show _ = bif Nat.beq (bk d.1 d.2) 10 then h0 else _; rw [hd]; rfl
    · rw [hF]; exact hf5_1
  have e_f7 : wsI S5 (upG G f7) M0 = wsI S5 (upG G F) M0 := by
    refine wsI_congr (fun d => bk d.1 d.2 == 5 || d == (4, 0)) (by decide +kernel) (fun d hd => ?_)
    simp only [Bool.or_eq_true, beq_iff_eq] at hd
    rcases hd with hd | rfl
    · rw [hF]; show _ = bif Nat.beq (bk d.1 d.2) 10 then h0 else _; rw [hd]; rfl
    · rw [hF]; exact hf7_1
  have e_f9 : wsI S6_0 (upG G f9) M0 = wsI S6_0 (upG G F) M0 := by
    refine wsI_congr (fun d => bk d.1 d.2 == 60) (by decide +kernel) (fun d hd => ?_)
    have hd : bk d.1 d.2 = 60 := by simpa using hd
    rw [hF]; show _ = bif Nat.beq (bk d.1 d.2) 10 then h0 else _; rw [hd]; rfl
  have e_f11 : wsI S1 (upG G f11) M0 = wsI S1 (upG G F) M0 := by
    refine wsI_congr (fun d => bk d.1 d.2 == 1 || d == (9, 0)) (by decide +kernel) (fun d hd => ?_)
    simp only [Bool.or_eq_true, beq_iff_eq] at hd
    rcases hd with hd | rfl
    · rw [hF]; show _ = bif Nat.beq (bk d.1 d.2) 10 then h0 else _; rw [hd]; rfl
    · rw [hF]; exact hf11_1
  have e_f13 : wsI S7 (upG G f13) M0 = wsI S7 (upG G F) M0 := by
    refine wsI_congr (fun d => bk d.1 d.2 == 7 || d == (9, 0)) (by decide +kernel) (fun d hd => ?_)
    simp only [Bool.or_eq_true, beq_iff_eq] at hd
    rcases hd with hd | rfl
    · rw [hF]; show _ = bif Nat.beq (bk d.1 d.2) 10 then h0 else _; rw [hd]; rfl
    · rw [hF]; exact hf13_1
  have e_f15 : wsI S3 (upG G f15) M0 = wsI S3 (upG G F) M0 := by
    refine wsI_congr (fun d => bk d.1 d.2 == 3 || d == (4, 0) || d == (6, 0)) (by decide +kernel) (fun d hd => ?_)
    simp only [Bool.or_eq_true, beq_iff_eq] at hd
    rcases hd with (hd | rfl) | rfl
    · rw [hF]; show _ = bif Nat.beq (bk d.1 d.2) 10 then h0 else _; rw [hd]; rfl
    · rw [hF]; exact hf15_1
    · rw [hF]; exact hf15_2
  have e_f17 : wsI S8_0 (upG G f17) M0 = wsI S8_0 (upG G F) M0 := by
    refine wsI_congr (fun d => bk d.1 d.2 == 80 || d == (4, 0) || d == (3, 0)) (by decide +kernel) (fun d hd => ?_)
    simp only [Bool.or_eq_true, beq_iff_eq] at hd
    rcases hd with (hd | rfl) | rfl
    · rw [hF]; show _ = bif Nat.beq (bk d.1 d.2) 10 then h0 else _; rw [hd]; rfl
    · rw [hF]; exact hf17_1
    · rw [hF]; exact hf17_2
  have e_f19 : wsI S8_1 (upG G f19) M0 = wsI S8_1 (upG G F) M0 := by
    refine wsI_congr (fun d => bk d.1 d.2 == 81 || d == (4, 0) || d == (3, 0)) (by decide +kernel) (fun d hd => ?_)
    simp only [Bool.or_eq_true, beq_iff_eq] at hd
    rcases hd with (hd | rfl) | rfl
    · rw [hF]; show _ = bif Nat.beq (bk d.1 d.2) 10 then h0 else _; rw [hd]; rfl
    · rw [hF]; exact hf19_1
    · rw [hF]; exact hf19_2
  have e_f21 : wsI S2 (upG G f21) M0 = wsI S2 (upG G F) M0 := by
    refine wsI_congr (fun d => bk d.1 d.2 == 2 || d == (4, 0) || d == (5, 0) || d == (6, 0) || d == (3, 0)) (by decide +kernel) (fun d hd => ?_)
    simp only [Bool.or_eq_true, beq_iff_eq] at hd
    rcases hd with (((hd | rfl) | rfl) | rfl) | rfl
    · rw [hF]; show _ = bif Nat.beq (bk d.1 d.2) 10 then h0 else _; rw [hd]; rfl
    · rw [hF]; exact hf21_1
    · rw [hF]; exact hf21_2
    · rw [hF]; exact hf21_3
    · rw [hF]; exact hf21_4
  rw [e_f3, e_f5, e_f7, e_f9, e_f11, e_f13, e_f15, e_f17, e_f19, e_f21]
  refine EN F _ _ _ _ _ _ (by rw [hF]; rfl) ?_ dX10_init_199 (Nat.le_of_ble_eq_true rfl) (Nat.le_of_ble_eq_true rfl)
  have v0 : F 10 0 = h0 := by rw [hF]; rfl
  have v1 : F 1100 0 = ad1 := by rw [hF]; rfl
  have v2 : F 9 0 = f3 9 0 := by rw [hF]; rfl
  have v3 : F 4 0 = f5 4 0 := by rw [hF]; rfl
  have v4 : F 5 0 = f7 5 0 := by rw [hF]; rfl
  have v5 : F 6 0 = f9 6 0 := by rw [hF]; rfl
  have v6 : F 1 0 = f11 1 0 := by rw [hF]; rfl
  have v7 : F 7 0 = f13 7 0 := by rw [hF]; rfl
  have v8 : F 3 0 = f15 3 0 := by rw [hF]; rfl
  have v9 : F 8 0 = f17 8 0 := by rw [hF]; rfl
  have v10 : F 8 1 = f19 8 1 := by rw [hF]; rfl
  have v11 : F 2 0 = f21 2 0 := by rw [hF]; rfl
  simp only [wsI, S10, List.map_append, List.map_cons, List.map_nil, List.map_map, Function.comp_def, gaU, gCU, cv_0, cv_1, cv_2, cv_3, cv_4, cv_5, cv_6, cv_7, cv_8, cv_9, cv_10, cv_11, cv_102, cv_103, cv_104, cv_105, cv_201, cv_302, cv_303, cv_307, cv_308, cv_402, cv_501, cv_502, cv_503, cv_508, cv_509, cv_510, cv_511, cv_512, cv_702, cv_703, cv_704, cv_707, cv_709, cv_710, cv_902, cv_903, cv_1000, cv_1100, cv_1201, cv_1208, cv_1212, cv_1213, cv_1214, cv_1215, cv_1216, cv_1217, cv_1225, cv_1226, cv_1227, cv_1228, cv_1229, cv_1230, cv_1236, cv_1238, cv_1241, cv_1242, cv_1243, cv_1244, cv_1245, cv_1246, cv_1247, cv_1248, cv_1249, cv_1250, cv_1251, cv_1252, cv_1253, cv_1254, cv_1255, cv_5501, cv_5508, cv_5509, cv_5510, cv_5710, cv_5711, cv_6212, cv_6217, cv_6230, cv_6236, cv_6243, cv_6244, cv_6245, cv_9000, v0, v1, v2, v3, v4, v5, v6, v7, v8, v9, v10, v11]
