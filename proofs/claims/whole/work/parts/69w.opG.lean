/-! PURE: operations on sizes, blocks' documents; the reference -/
theorem m_bits {S : St} {M : Mem} (h : MI S M) (hS : SW S) {Q : Int32 → Mem → Prop} (x : Int32) (k : ME (oBits S x) 1 M Q) : pX11_bits M x Q := by
  unfold pX11_bits
  obtain ⟨s1, s2, hD, hW, hK, s5, s6, s7⟩ := id hS
  have hkn := hD.2.1
  have hdn := hD.1
  refine mstart h (fun N hN k0 h0 => ?_)
  obtain ⟨i1, i2, i3, i4, i5, hC, hw, hq, hz, hn⟩ := id hN
  unfold oBits at k
  refine minR (lo := 2) (m := 8) rfl rfl (by omega) (by omega) (fun so h2 h8 e eo => ?_) (fun eo => ?_)
  · rw [eo] at k
    subst e
    first | refine s1a ?_ | refine s1b ?_
    refine mbad0 h0 ?_
    first | refine s0a ?_ | refine s0b ?_
    exact mbitsOfAll hC hD hw.1 h2 (by omega) (fun M' kk => k.ok (k0.tr (kk.wk mLR)) (hN.v kk mLS) ((kk.g rfl 0).trans h0))
  · rw [eo] at k
    first | refine s0a ?_ | refine s0b ?_
    refine mbadA rfl (Or.inl rfl) hN h0 k0 k (fun M' hb => ?_)
    first | refine s1a ?_ | refine s1b ?_
    exact hb _
theorem m_thrift {S : St} {M : Mem} (h : MI S M) (hS : SW S) {Q : Int32 → Mem → Prop} (k : ME (oThrift S) 1 M Q) : pX11_thrift M Q := by
  unfold pX11_thrift
  obtain ⟨s1, s2, hD, hW, hK, s5, s6, s7⟩ := id hS
  have hkn := hD.2.1
  have hdn := hD.1
  refine mstart h (fun N hN k0 h0 => ?_)
  obtain ⟨i1, i2, i3, i4, i5, hC, hw, hq, hz, hn⟩ := id hN
  unfold oThrift at k
  refine lp_up (fun n s => s.2 = (nI (lst2 (thF S) (n - 3)), nI n) ∧ Kp kL N s.1) (show 3 ≤ 9 by omega) ⟨rfl, Kp.rf⟩ ?_ ?_
  · rintro n ⟨M2, v⟩ L n3 n9 ⟨rfl, k2⟩ hL
    have h1 := hN.v k2 mLS
    obtain ⟨l1, l2⟩ := lst2_b (thF S) (n - 3)
    have hb1 : thF S (lst2 (thF S) (n - 3)) < 2147483648 := bitA_lt hD l1 (by omega) hkn
    have hb2 : thF S n < 2147483648 := bitA_lt hD (by omega) (by omega) hkn
    have el : lst2 (thF S) (n + 1 - 3) = if thF S n < thF S (lst2 (thF S) (n - 3)) then n else lst2 (thF S) (n - 3) := by
      rw [show n + 1 - 3 = (n - 3) + 1 by omega, lst2_s, show n - 3 + 3 = n by omega]
    unfold bX11_thrift_9
    refine ⟨fun c1 => absurd c1 (by show ¬ nI 8 < nI n; rw [ltI (by omega) (by omega)]; omega), fun _ => ?_⟩
    refine mbitsOfAll h1.2.2.2.2.2.1 hD h1.2.2.2.2.2.2.1.1 (by omega) (by omega) (fun M3 k3 => ?_)
    have h3 := h1.v k3 mLS
    refine mbitsOfAll h3.2.2.2.2.2.1 hD h3.2.2.2.2.2.2.1.1 l1 (by omega) (fun M4 k4 => ?_)
    show (nI (thF S (lst2 (thF S) (n - 3))) ≤ nI (thF S n) → _) ∧ (¬ nI (thF S (lst2 (thF S) (n - 3))) ≤ nI (thF S n) → _)
    rw [leI hb1 hb2]
    unfold bX11_thrift_34
    by_cases e : thF S n < thF S (lst2 (thF S) (n - 3))
    · refine ⟨fun c => absurd c (by omega), fun _ v7 e7 => hL _ ⟨?_, (k2.tr k3).tr k4⟩⟩
      rw [el, if_pos e, e7]
      exact congrArg (fun z => (nI n, z)) (adI n 1)
    · refine ⟨fun _ v7 e7 => hL _ ⟨?_, (k2.tr k3).tr k4⟩, fun c => absurd (by omega) c⟩
      rw [el, if_neg e, e7]
      exact congrArg (fun z => (nI (lst2 (thF S) (n - 3)), z)) (adI n 1)
  · rintro ⟨M2, v⟩ L ⟨rfl, k2⟩
    have hq2 := k.ok (k0.tr (k2.wk mLR)) (hN.v k2 mLS) ((k2.g rfl 0).trans h0)
    unfold bX11_thrift_9
    exact ⟨fun _ => hq2, fun c1 => absurd (by show nI 8 < nI 9; rw [ltI (by omega) (by omega)]; omega) c1⟩
theorem m_swift {S : St} {M : Mem} (h : MI S M) (hS : SW S) {Q : Int32 → Mem → Prop} (x y : Int32) (k : ME (oSwift S x y) 1 M Q) : pX11_swift M x y Q := by
  unfold pX11_swift
  obtain ⟨s1, s2, hD, hW, hK, s5, s6, s7⟩ := id hS
  have hkn := hD.2.1
  have hdn := hD.1
  refine mstart h (fun N hN k0 h0 => ?_)
  obtain ⟨i1, i2, i3, i4, i5, hC, hw, hq, hz, hn⟩ := id hN
  unfold oSwift at k
  refine minR (lo := 1) (m := 10) rfl rfl (by omega) (by omega) (fun m m1 m2 e em => ?_) (fun em => ?_)
  · rw [em] at k
    dsimp only at k
    subst e
    first | refine s1a ?_ | refine s1b ?_
    refine minR (lo := 0) (m := 1) rfl rfl (by omega) (by omega) (fun j _ hj e ej => ?_) (fun ej => ?_)
    · rw [ej] at k
      subst e
      first | refine s1a ?_ | refine s1b ?_
      refine mbad0 h0 ?_
      first | refine s0a ?_ | refine s0b ?_
      refine lp_up (fun n s => s.2 = (if n = 2 then (nO, nI 0, nI 2) else (nI (lst2 (swF S m) (n - 3)), nI (swF S m (lst2 (swF S m) (n - 3))), nI n)) ∧ Kp kHt N s.1) (show 2 ≤ 9 by omega) ⟨rfl, Kp.rf⟩ ?_ ?_
      · rintro n ⟨M2, v⟩ L n2 n9 ⟨ev, k2⟩ hL
        have h1 := hN.v k2 mHS
        have hb2 : swF S m n ≤ 6144 := swF_le hS n2 (by omega) m1
        dsimp only at ev
        unfold bX11_swift_48
        by_cases e2 : n = 2
        · rw [if_pos e2] at ev
          subst ev e2
          refine ⟨fun c1 => absurd c1 (by show ¬ nI 8 < nI 2; rw [ltI (by omega) (by omega)]; omega), fun _ => ?_⟩
          refine mgoes (so := 2) hD hK (by omega) (by omega) m1 (by omega) h1.2.2.2.2.2.1 h1.2.2.2.2.2.2.2.1 h1.2.2.2.2.2.2.2.2.2 (fun M3 k3 hh => ?_)
          refine ⟨fun _ => ?_, fun c => absurd rfl c⟩
          obtain ⟨n1, n2, n3, n4, e56, eAW, e57, e58, e59, e60, e61, e62⟩ := id hh
          have e59' : M3.1 1259 0 0 = nI (swF S m 2) := e59
          unfold bX11_swift_79 bX11_swift_88
          intro v23 e23 v24 e24
          refine hL _ ⟨?_, k2.tr k3⟩
          rw [e23, e24, e59', if_neg (by omega)]
          exact congrArg (fun z => (nI 2, nI (swF S m 2), z)) (adI 2 1)
        · rw [if_neg e2] at ev
          subst ev
          obtain ⟨l1, l2⟩ := lst2_b (swF S m) (n - 3)
          have hb1 : swF S m (lst2 (swF S m) (n - 3)) ≤ 6144 := swF_le hS l1 (by omega) m1
          have el : lst2 (swF S m) (n + 1 - 3) = if swF S m n < swF S m (lst2 (swF S m) (n - 3)) then n else lst2 (swF S m) (n - 3) := by
            rw [show n + 1 - 3 = (n - 3) + 1 by omega, lst2_s, show n - 3 + 3 = n by omega]
          refine ⟨fun c1 => absurd c1 (by show ¬ nI 8 < nI n; rw [ltI (by omega) (by omega)]; omega), fun _ => ?_⟩
          refine mgoes hD hK n2 (by omega) m1 (by omega) h1.2.2.2.2.2.1 h1.2.2.2.2.2.2.2.1 h1.2.2.2.2.2.2.2.2.2 (fun M3 k3 hh => ?_)
          obtain ⟨n1, n2, n3, n4, e56, eAW, e57, e58, e59, e60, e61, e62⟩ := id hh
          have e59' : M3.1 1259 0 0 = nI (swF S m n) := e59
          refine ⟨fun c => absurd c (nO_ne (by omega)), fun _ => ?_⟩
          rw [e59']
          show (nI (swF S m n) < nI (swF S m (lst2 (swF S m) (n - 3))) → _) ∧ (¬ nI (swF S m n) < nI (swF S m (lst2 (swF S m) (n - 3))) → _)
          rw [ltI (by omega) (by omega)]
          unfold bX11_swift_79 bX11_swift_88
          by_cases e : swF S m n < swF S m (lst2 (swF S m) (n - 3))
          · refine ⟨fun _ v23 e23 v24 e24 => hL _ ⟨?_, k2.tr k3⟩, fun c => absurd e c⟩
            rw [e23, e24, e59', if_neg (by omega), el, if_pos e]
            exact congrArg (fun z => (nI n, nI (swF S m n), z)) (adI n 1)
          · refine ⟨fun c => absurd c e, fun _ v24 e24 => hL _ ⟨?_, k2.tr k3⟩⟩
            rw [e24, if_neg (by omega), el, if_neg e]
            exact congrArg (fun z => (nI (lst2 (swF S m) (n - 3)), nI (swF S m (lst2 (swF S m) (n - 3))), z)) (adI n 1)
      · rintro ⟨M2, v⟩ L ⟨ev, k2⟩
        dsimp only at ev
        rw [if_neg (by omega)] at ev
        subst ev
        have hq2 := k.ok (k0.tr (k2.wk mHR)) (hN.v k2 mHS) ((k2.g rfl 0).trans h0)
        unfold bX11_swift_48
        refine ⟨fun _ => ?_, fun c1 => absurd (by show nI 8 < nI 9; rw [ltI (by omega) (by omega)]; omega) c1⟩
        rcases (show j = 0 ∨ j = 1 by omega) with rfl | rfl
        · exact s0a hq2
        · exact s1a hq2
    · rw [ej] at k
      first | refine s0a ?_ | refine s0b ?_
      refine mbadA rfl (Or.inl rfl) hN h0 k0 k (fun M' hb => ?_)
      first | refine s1a ?_ | refine s1b ?_
      exact hb _
  · rw [em] at k
    first | refine s0a ?_ | refine s0b ?_
    refine mbadA rfl (Or.inl rfl) hN h0 k0 k (fun M' hb => ?_)
    first | refine s1a ?_ | refine s1b ?_
    exact hb _
theorem m_inside {S : St} {M : Mem} (h : MI S M) (hS : SW S) {Q : Int32 → Mem → Prop} (x y : Int32) (k : ME (oInside S x y) 2 M Q) : pX11_inside M x y Q := by
  unfold pX11_inside
  obtain ⟨s1, s2, hD, hW, hK, s5, s6, s7⟩ := id hS
  have hkn := hD.2.1
  have hdn := hD.1
  refine mstart h (fun N hN k0 h0 => ?_)
  obtain ⟨i1, i2, i3, i4, i5, hC, hw, hq, hz, hn⟩ := id hN
  unfold oInside at k
  refine misBlock hN hS (fun w b w1 b1' ex ey ed N1 k1 l1 => ?_) (fun ed N1 k1 => ?_)
  · rw [ed] at k
    dsimp only at k
    subst ex ey
    have hN1 := hN.v k1 mLS
    have k01 := k0.tr (k1.wk mLR)
    have h01 : N1.1 1200 0 0 = nI 0 := (k1.g rfl 0).trans h0
    have hpn := pN_le (tD S) w
    have hb := (bk_div s5).mp b1'
    obtain ⟨p1, p2, p3⟩ := bkM_pos s5 hb
    first | refine s1a ?_ | refine s1b ?_
    refine mbad0 h01 ?_
    first | refine s0a ?_ | refine s0b ?_
    intro v8 e8
    have hz1 : N1.1 1211 0 0 = nI (tZ S) := hN1.2.2.2.2.2.2.2.2.1
    rw [hz1] at e8
    have e8' : v8 = nI (b * tZ S) := e8.trans (mlI _ _)
    subst e8'
    refine lp_up (fun j s => s.2 = (nI (insV S w (b * tZ S) (min j (bkM (tD S) w (tZ S) b))), nI (b * tZ S + j)) ∧ Kp kL N1 s.1) (Nat.zero_le (tZ S)) ⟨by rw [Nat.zero_min]; rfl, Kp.rf⟩ ?_ ?_
    · rintro j ⟨M2, v⟩ L - j2 ⟨rfl, k2⟩ hL
      have h2 := hN1.v k2 mLS
      have hz2 : M2.1 1211 0 0 = nI (tZ S) := h2.2.2.2.2.2.2.2.2.1
      have hC2 := h2.2.2.2.2.2.1
      have em : (nI b + 1) * nI (tZ S) = nI (b * tZ S + tZ S) := by
        show (nI b + nI 1) * nI (tZ S) = _
        rw [adI, mlI, Nat.add_mul, Nat.one_mul]
      unfold bX11_inside_40 bX11_inside_97
      dsimp only
      rw [hz2, em]
      refine ⟨fun c => absurd c (by rw [leI (by omega) (by omega)]; omega), fun _ => ?_⟩
      refine mgathers hC2 hD (by omega) (fun M3 k3 l3 => ?_)
      have h3 := h2.v k3 mLS
      have hC3 := h3.2.2.2.2.2.1
      rw [l3.1]
      by_cases e : j < bkM (tD S) w (tZ S) b
      · have hp : b * tZ S + j < pN (tD S) w := by omega
        have hpk := pK_lt hp
        have hi := insV_le hS w (b * tZ S) j
        have ht := total_le none (pK (tD S) w (b * tZ S + j)) hD hK
        have es : insV S w (b * tZ S) (j + 1) = max (insV S w (b * tZ S) j) (if why (tD S) (tK S) none (pK (tD S) w (b * tZ S + j)) = 0 then total (tD S) (tK S) none (pK (tD S) w (b * tZ S + j)) else 0) := rfl
        rw [Nat.min_eq_left (Nat.le_of_lt e)]
        rw [Nat.min_eq_left (show j + 1 ≤ _ from e), es] at hL
        refine ⟨fun c => absurd c (by rw [leI (by omega) (by omega)]; omega), fun _ => ⟨(vpI (by omega)).mpr (by omega), ?_⟩⟩
        rw [tnI (by omega), l3.2 _ hp]
        refine mwhy hC3 h3.2.2.2.2.2.2.2.1 hD hK (lo := none) h3.2.2.2.2.2.2.2.2.2 lo0 hpk ?_
        by_cases ew : why (tD S) (tK S) none (pK (tD S) w (b * tZ S + j)) = 0
        · rw [if_pos ew] at hL
          rw [ew]
          refine s0a ?_
          rw [l3.2 _ hp]
          refine mtotal hC3 h3.2.2.2.2.2.2.2.1 hD hK (lo := none) h3.2.2.2.2.2.2.2.2.2 lo0 hpk (fun M4 k4 => ?_)
          refine mmore (by omega) (by omega) ?_
          intro v25 e25
          exact hL _ ⟨by rw [e25]; exact congrArg (fun z => (nI (max (insV S w (b * tZ S) j) (total (tD S) (tK S) none (pK (tD S) w (b * tZ S + j)))), z)) (adI (b * tZ S + j) 1), (k2.tr k3).tr k4⟩
        · rw [if_neg ew, Nat.max_eq_left (Nat.zero_le _)] at hL
          have hwl : why (tD S) (tK S) none (pK (tD S) w (b * tZ S + j)) < 2147483648 := by
            unfold why
            repeat (first | omega | split)
          refine ⟨fun _ v25 e25 => ?_, fun q => absurd ((eqI (b := 0) hwl (by omega)).mp q) ew⟩
          exact hL _ ⟨by rw [e25]; exact congrArg (fun z => (nI (insV S w (b * tZ S) j), z)) (adI (b * tZ S + j) 1), k2.tr k3⟩
      · have hpe : pN (tD S) w ≤ b * tZ S + j := by unfold bkM at e; omega
        rw [Nat.min_eq_right (by omega)]
        rw [Nat.min_eq_right (by omega)] at hL
        refine ⟨fun _ v25 e25 => ?_, fun c => absurd (by rw [leI (by omega) (by omega)]; exact hpe) c⟩
        exact hL _ ⟨by rw [e25]; exact congrArg (fun z => (nI (insV S w (b * tZ S) (bkM (tD S) w (tZ S) b)), z)) (adI (b * tZ S + j) 1), k2.tr k3⟩
    · rintro ⟨M2, v⟩ L ⟨rfl, k2⟩
      have h2 := hN1.v k2 mLS
      have hz2 : M2.1 1211 0 0 = nI (tZ S) := h2.2.2.2.2.2.2.2.2.1
      have hq2 := k.ok (k01.tr (k2.wk mLR)) h2 ((k2.g rfl 0).trans h01)
      have em : (nI b + 1) * nI (tZ S) = nI (b * tZ S + tZ S) := by
        show (nI b + nI 1) * nI (tZ S) = _
        rw [adI, mlI, Nat.add_mul, Nat.one_mul]
      unfold bX11_inside_40
      dsimp only
      rw [hz2, em, Nat.min_eq_right p3]
      exact ⟨fun _ => hq2, fun c => absurd (Int32.le_refl _) c⟩
  · rw [ed] at k
    first | refine s0a ?_ | refine s0b ?_
    refine mbadN (hN.v k1 mLS) ((k1.g rfl 0).trans h0) (k0.tr (k1.wk mLR)) k (fun M' hb => ?_)
    first | refine s1a ?_ | refine s1b ?_
    exact hb _
theorem m_blockOf {S : St} {M : Mem} (h : MI S M) (hS : SW S) {Q : Int32 → Mem → Prop} (x y : Int32) (k : ME (oBlockOf S x y) 2 M Q) : pX11_blockOf M x y Q := by
  unfold pX11_blockOf
  obtain ⟨s1, s2, hD, hW, hK, s5, s6, s7⟩ := id hS
  have hkn := hD.2.1
  have hdn := hD.1
  refine mstart h (fun N hN k0 h0 => ?_)
  obtain ⟨i1, i2, i3, i4, i5, hC, hw, hq, hz, hn⟩ := id hN
  unfold oBlockOf at k
  refine misWord hN hS (fun w w1 e ew => ?_) (fun ew => ?_)
  · rw [ew] at k
    dsimp only at k
    subst e
    first | refine s1a ?_ | refine s1b ?_
    refine misDoc hN hS (fun d d1 d2 e ed => ?_) (fun ed => ?_)
    · rw [ed] at k
      dsimp only at k
      subst e
      first | refine s1a ?_ | refine s1b ?_
      refine mbad0 h0 ?_
      first | refine s0a ?_ | refine s0b ?_
      have hpn := pN_le (tD S) w
      have hbn := bkN_le s5 (show pN (tD S) w ≤ 64 by omega)
      refine mgathers hC hD (by omega) (fun N1 k1 l1 => ?_)
      have hz1 : N1.1 1211 0 0 = nI (tZ S) := (k1.g rfl 0).trans hz
      refine lp_up (fun b s => s = (N1, nI (b * tZ S)) ∧ ∀ j, 0 ≤ j → j < b → decide (pK (tD S) w (j * tZ S) ≤ d ∧ d ≤ pK (tD S) w (j * tZ S + bkM (tD S) w (tZ S) j - 1)) = false) (Nat.zero_le (bkN (pN (tD S) w) (tZ S))) ⟨by rw [Nat.zero_mul]; rfl, fun j _ hj => absurd hj (Nat.not_lt_zero _)⟩ ?_ ?_
      · rintro b s L - b2 ⟨rfl, hj⟩ hL
        have hb := (bk_div s5).mp b2
        obtain ⟨p1, p2, p3⟩ := bkM_pos s5 hb
        have hpk1 := pK_lt hb
        have hpk2 := pK_lt (D := tD S) (w := w) (k := b * tZ S + bkM (tD S) w (tZ S) b - 1) (by omega)
        have et : min (pN (tD S) w) (b * tZ S + tZ S) = b * tZ S + bkM (tD S) w (tZ S) b := by unfold bkM; omega
        have em := l1.2 (b * tZ S) hb
        have el := l1.2 (b * tZ S + bkM (tD S) w (tZ S) b - 1) (by omega)
        have hL2 : ¬ (pK (tD S) w (b * tZ S) ≤ d ∧ d ≤ pK (tD S) w (b * tZ S + bkM (tD S) w (tZ S) b - 1)) → bX11_blockOf_93 (nI w) (nI d) Q L N1 (nI (b * tZ S)) := fun e => by
          unfold bX11_blockOf_93
          intro v31 e31
          refine hL _ ⟨?_, fun j j0 j2 => ?_⟩
          · rw [e31, hz1, adI, Nat.add_mul, Nat.one_mul]
          · by_cases ej : j = b
            · rw [ej]; exact decide_eq_false e
            · exact hj j j0 (by omega)
        unfold bX11_blockOf_44
        dsimp only
        rw [l1.1]
        refine ⟨fun c => absurd c (by rw [leI (by omega) (by omega)]; omega), fun _ => ⟨(vpI (by omega)).mpr (by omega), ?_⟩⟩
        rw [tnI (by omega), em]
        refine ⟨fun c => hL2 (fun q => by rw [ltI (by omega) (by omega)] at c; omega), fun c1 => ?_⟩
        rw [hz1, adI]
        refine mless (by omega) (by omega) ?_
        have es1 : nI (b * tZ S + bkM (tD S) w (tZ S) b) - 1 = nI (b * tZ S + bkM (tD S) w (tZ S) b - 1) := by
          show nI (b * tZ S + bkM (tD S) w (tZ S) b) - nI 1 = _
          exact sbI (by omega)
        rw [et, es1]
        refine ⟨(vpI (by omega)).mpr (by omega), ?_⟩
        rw [tnI (by omega), el]
        rw [ltI (by omega) (by omega)] at c1
        refine ⟨fun c => hL2 (fun q => by rw [ltI (by omega) (by omega)] at c; omega), fun c2 => ?_⟩
        rw [ltI (by omega) (by omega)] at c2
        have er : bofN S w d = b := ffn_at (Nat.zero_le _) (by omega) hj (Or.inr (decide_eq_true ⟨by omega, by omega⟩))
        rw [er, if_neg (by omega)] at k
        have hq2 := k.ok (k0.tr (k1.wk mLR)) (hN.v k1 mLS) ((k1.g rfl 0).trans h0)
        rw [hz1, dvI (by omega) (by omega) (by omega), Nat.mul_div_cancel _ (by omega)]
        exact ⟨by show ¬ nI (tZ S) = nI 0; rw [eqI (by omega) (by omega)]; omega, hq2⟩
      · rintro s L ⟨rfl, hj⟩
        have er : bofN S w d = bkN (pN (tD S) w) (tZ S) := ffn_at (Nat.zero_le _) (Nat.le_refl _) hj (Or.inl rfl)
        rw [er, if_pos rfl] at k
        have hq2 := k.ok (k0.tr (k1.wk mLR)) (hN.v k1 mLS) ((k1.g rfl 0).trans h0)
        have hge : ¬ bkN (pN (tD S) w) (tZ S) * tZ S < pN (tD S) w := fun q => Nat.lt_irrefl _ ((bk_div s5).mpr q)
        have hle : bkN (pN (tD S) w) (tZ S) * tZ S ≤ 32 * 8 := Nat.mul_le_mul hbn s6
        unfold bX11_blockOf_44
        dsimp only
        rw [l1.1]
        exact ⟨fun _ => hq2, fun c => absurd (by rw [leI (by omega) (by omega)]; omega) c⟩
    · rw [ed] at k
      first | refine s0a ?_ | refine s0b ?_
      refine mbadN hN h0 k0 k (fun M' hb => ?_)
      first | refine s1a ?_ | refine s1b ?_
      exact hb _
  · rw [ew] at k
    first | refine s0a ?_ | refine s0b ?_
    refine mbadN hN h0 k0 k (fun M' hb => ?_)
    first | refine s1a ?_ | refine s1b ?_
    exact hb _
