/-! PURE: operations on sizes, blocks' documents; both sides -/
theorem cs_le {D : Dc} {kn w fr m : Nat} (hD : DW D kn) : cs D w fr m ≤ m * 150 := smF_le (fun k _ => hD.cn _ _)
theorem bitB_le {D : Dc} {kn w fr m : Nat} (hD : DW D kn) (hm : fr + m ≤ pN D w) (h8 : m ≤ 8) : bitB D w fr m ≤ 181744 := by
  have h1 : mg D w fr m ≤ 64 := mxF_le (fun k hk => gapF_le hD (by omega))
  have h2 : mc D w fr m ≤ 150 := mxF_le (fun k hk => hD.cn _ _)
  have h3 : mj D w fr m ≤ 150 := mxF_le (fun k hk => jmp_le hD _ _)
  have h4 := cs_le (w := w) (fr := fr) (m := m) hD
  have w1 := wid_le (mg D w fr m)
  have w2 := wid_le (mc D w fr m)
  have w3 := wid_le (mj D w fr m)
  have a1 : m * (wid (mg D w fr m) + wid (mc D w fr m)) ≤ 8 * 214 := Nat.mul_le_mul h8 (by omega)
  have a2 : cs D w fr m * wid (mj D w fr m) ≤ 1200 * 150 := Nat.mul_le_mul (by omega) (by omega)
  unfold bitB
  omega
theorem bitL_le {D : Dc} {kn w so : Nat} (hD : DW D kn) (h2 : 2 ≤ so) (h8 : so ≤ 8) : bitL D w so (bkN (pN D w) so) ≤ 5815808 := by
  have hpn := pN_le D w
  have hdn := hD.1
  have hb := bkN_le h2 (show pN D w ≤ 64 by omega)
  have h1 : bitL D w so (bkN (pN D w) so) ≤ bkN (pN D w) so * 181744 := smF_le (fun b hb2 => by
    obtain ⟨p1, p2, p3⟩ := bkM_pos h2 ((bk_div h2).mp hb2)
    exact bitB_le hD p2 (by omega))
  have h3 : bkN (pN D w) so * 181744 ≤ 32 * 181744 := Nat.mul_le_mul hb (Nat.le_refl _)
  omega
theorem bitA_lt {D : Dc} {kn so n : Nat} (hD : DW D kn) (h2 : 2 ≤ so) (h8 : so ≤ 8) (hn : n ≤ 255) : bitA D so n < 2147483648 := by
  have h1 : bitA D so n ≤ n * 5815808 := smF_le (fun w _ => bitL_le hD h2 h8)
  have h3 : n * 5815808 ≤ 255 * 5815808 := Nat.mul_le_mul hn (Nat.le_refl _)
  omega
/-- the least one from 2 on -/
def lst2 (f : Nat → Nat) : Nat → Nat
  | 0 => 2
  | j + 1 => if f (j + 3) < f (lst2 f j) then j + 3 else lst2 f j
theorem lst2_s (f : Nat → Nat) (j : Nat) : lst2 f (j + 1) = if f (j + 3) < f (lst2 f j) then j + 3 else lst2 f j := rfl
theorem lst2_b (f : Nat → Nat) (j : Nat) : 2 ≤ lst2 f j ∧ lst2 f j ≤ j + 2 := by
  induction j with
  | zero => exact ⟨Nat.le_refl _, Nat.le_refl _⟩
  | succ j ih =>
    unfold lst2
    by_cases e : f (j + 3) < f (lst2 f j)
    · rw [if_pos e]; omega
    · rw [if_neg e]; omega
def oBits (S : St) (x : Int32) : Rs := match ixr x 2 9 with
  | none => rfs S 2
  | some so => okR S (nI (bitA (tD S) so (tW S).length))
def thF (S : St) (so : Nat) : Nat := bitA (tD S) so (tW S).length
def oThrift (S : St) : Rs := okR S (nI (lst2 (thF S) 6))
def swF (S : St) (m so : Nat) : Nat := wrk (erl (tD S) (tK S) so m).1 (sN (tK S))
def oSwift (S : St) (x y : Int32) : Rs := match ixr x 1 11 with
  | none => rfs S 2
  | some m => match ixr y 0 2 with
    | none => rfs S 2
    | some j => okR S (nI (if j = 0 then lst2 (swF S m) 6 else swF S m (lst2 (swF S m) 6)))
def insV (S : St) (w fr n : Nat) : Nat := mxF (fun j => if why (tD S) (tK S) none (pK (tD S) w (fr + j)) = 0 then total (tD S) (tK S) none (pK (tD S) w (fr + j)) else 0) n
def oInside (S : St) (x y : Int32) : Rs := match bix S x y with
  | none => rfs S 1
  | some q => okR S (nI (insV S q.1 (q.2 * tZ S) (bkM (tD S) q.1 (tZ S) q.2)))
def bofN (S : St) (w d : Nat) : Nat := ffn (fun b => decide (pK (tD S) w (b * tZ S) ≤ d ∧ d ≤ pK (tD S) w (b * tZ S + bkM (tD S) w (tZ S) b - 1))) 0 (bkN (pN (tD S) w) (tZ S))
def oBlockOf (S : St) (x y : Int32) : Rs := match ixr x 0 (tW S).length with
  | none => rfs S 1
  | some w => match dix (tD S) y with
    | none => rfs S 1
    | some d => okR S (if bofN S w d = bkN (pN (tD S) w) (tZ S) then nO else nI (bofN S w d))
theorem insV_le {S : St} (hS : SW S) (w fr n : Nat) : insV S w fr n ≤ 93612000 := mxF_le (fun j _ => by
  by_cases e : why (tD S) (tK S) none (pK (tD S) w (fr + j)) = 0
  · rw [if_pos e]; exact total_le none _ hS.2.2.1 hS.2.2.2.2.1
  · rw [if_neg e]; omega)
theorem swF_le {S : St} (hS : SW S) {m so : Nat} (h2 : 2 ≤ so) (h8 : so ≤ 8) (hm : 1 ≤ m) : swF S m so ≤ 6144 := by
  obtain ⟨s1, s2, hD, hW, hK, s5, s6, s7⟩ := id hS
  have hg := erl_c hD hK (so := so) (m := m) h2 hm
  have h1 : swF S m so ≤ sN (tK S) * 256 := smF_le (fun i hi => by
    obtain ⟨a1, a2, a3, a4, a5, a6, a7, a8, a9⟩ := hg.1 i hi
    have hpn := pN_le (tD S) (sW (tK S) i)
    have hdn := hD.1
    have hb : nB (tD S) (sW (tK S) i) so ≤ 32 := bkN_le h2 (by omega)
    have : cL ((erl (tD S) (tK S) so m).1 i) * so ≤ 32 * 8 := Nat.mul_le_mul (by omega) h8
    omega)
  have := hK.1
  have h3 : sN (tK S) * 256 ≤ 24 * 256 := Nat.mul_le_mul this (Nat.le_refl _)
  omega
theorem c_bits {S : St} {M : Mem} (h : CI S M) (hS : SW S) {Q : Int32 → Mem → Prop} {K : String → Mem → Prop} (x : Int32) (k : CE (oBits S x) M Q K) : pX10_bits M x Q K := by
  obtain ⟨s1, s2, hD, hW, hK, s5, s6, s7⟩ := id hS
  obtain ⟨i1, i2, i3, i4, i5, hC, hw, hq, hz⟩ := id h
  have hkn := hD.2.1
  have hdn := hD.1
  unfold oBits at k
  unfold pX10_bits pX10_needSize
  refine cneed (lo := 2) (m := 8) rfl rfl (by omega) (by omega) (fun so h2 h8 e eo => ?_) (fun eo => by rw [eo] at k; exact k.no2 Kp.rf h)
  rw [eo] at k
  subst e
  exact callBits hC hD hw.1 h2 (by omega) (fun M' kk => k.ok (kk.wk c6R) (h.v kk c6S))
theorem c_thrift {S : St} {M : Mem} (h : CI S M) (hS : SW S) {Q : Int32 → Mem → Prop} {K : String → Mem → Prop} (k : CE (oThrift S) M Q K) : pX10_thrift M Q := by
  obtain ⟨s1, s2, hD, hW, hK, s5, s6, s7⟩ := id hS
  obtain ⟨i1, i2, i3, i4, i5, hC, hw, hq, hz⟩ := id h
  have hkn := hD.2.1
  have hdn := hD.1
  unfold oThrift at k
  unfold pX10_thrift
  refine callBits (so := 2) hC hD hw.1 (by omega) (by omega) (fun M1 k1 => ?_)
  refine lp_up (fun n s => s.2 = (nI (lst2 (thF S) (n - 3)), nI (thF S (lst2 (thF S) (n - 3))), nI n) ∧ Kp P6 M s.1) (show 3 ≤ 9 by omega) ⟨rfl, k1⟩ ?_ ?_
  · rintro n ⟨M2, v⟩ L n3 n9 ⟨rfl, k2⟩ hL
    have h1 := h.v k2 c6S
    obtain ⟨l1, l2⟩ := lst2_b (thF S) (n - 3)
    have hb1 : thF S (lst2 (thF S) (n - 3)) < 2147483648 := bitA_lt hD l1 (by omega) hkn
    have hb2 : thF S n < 2147483648 := bitA_lt hD (by omega) (by omega) hkn
    have el : lst2 (thF S) (n + 1 - 3) = if thF S n < thF S (lst2 (thF S) (n - 3)) then n else lst2 (thF S) (n - 3) := by
      rw [show n + 1 - 3 = (n - 3) + 1 by omega, lst2_s, show n - 3 + 3 = n by omega]
    unfold bX10_thrift_13
    refine ⟨fun c1 => absurd c1 (by show ¬ nI 8 < nI n; rw [ltI (by omega) (by omega)]; omega), fun _ => ?_⟩
    refine callBits h1.2.2.2.2.2.1 hD h1.2.2.2.2.2.2.1.1 (by omega) (by omega) (fun M3 k3 => ?_)
    show (nI _ ≤ nI (thF S n) → _) ∧ (¬ nI _ ≤ nI (thF S n) → _)
    rw [leI hb1 hb2]
    unfold bX10_thrift_40
    by_cases e : thF S n < thF S (lst2 (thF S) (n - 3))
    · refine ⟨fun c => absurd c (by omega), fun _ v7 e7 => hL _ ⟨?_, k2.tr k3⟩⟩
      rw [el, if_pos e, e7]
      exact congrArg (fun z => (nI n, nI (thF S n), z)) (adI n 1)
    · refine ⟨fun _ v7 e7 => hL _ ⟨?_, k2.tr k3⟩, fun c => absurd (by omega) c⟩
      rw [el, if_neg e, e7]
      exact congrArg (fun z => (nI (lst2 (thF S) (n - 3)), nI (thF S (lst2 (thF S) (n - 3))), z)) (adI n 1)
  · rintro ⟨M2, v⟩ L ⟨rfl, k2⟩
    have hq2 := k.ok (k2.wk c6R) (h.v k2 c6S)
    unfold bX10_thrift_13
    exact ⟨fun _ => hq2, fun c1 => absurd (by show nI 8 < nI 9; rw [ltI (by omega) (by omega)]; omega) c1⟩
theorem cworkBy {S : St} {M : Mem} (h : CI S M) (hS : SW S) {Q : Int32 → Mem → Prop} {m so : Nat} (h2 : 2 ≤ so) (h8 : so ≤ 8) (m1 : 1 ≤ m) (m2 : m ≤ 10) (hQ : ∀ M', Kp pHt M M' → Q (nI (swF S m so)) M') : pX10_workBy M (nI m) (nI so) Q := by
  obtain ⟨s1, s2, hD, hW, hK, s5, s6, s7⟩ := id hS
  obtain ⟨i1, i2, i3, i4, i5, hC, hw, hq, hz⟩ := id h
  have hkn := hD.2.1
  have hdn := hD.1
  unfold pX10_workBy
  refine crun hD hK h2 h8 m1 m2 hC hq (fun M' kk hh => ?_)
  have hg := erl_c hD hK (so := so) (m := m) h2 m1
  exact callWork hh hg hD hK h2 h8 (hQ M' kk)
theorem c_swift {S : St} {M : Mem} (h : CI S M) (hS : SW S) {Q : Int32 → Mem → Prop} {K : String → Mem → Prop} (x y : Int32) (k : CE (oSwift S x y) M Q K) : pX10_swift M x y Q K := by
  obtain ⟨s1, s2, hD, hW, hK, s5, s6, s7⟩ := id hS
  obtain ⟨i1, i2, i3, i4, i5, hC, hw, hq, hz⟩ := id h
  have hkn := hD.2.1
  have hdn := hD.1
  unfold oSwift at k
  unfold pX10_swift
  refine cneed (lo := 1) (m := 10) rfl rfl (by omega) (by omega) (fun m m1 m2 e em => ?_) (fun em => by rw [em] at k; exact k.no2 Kp.rf h)
  rw [em] at k
  dsimp only at k
  subst e
  refine cneed (lo := 0) (m := 1) rfl rfl (by omega) (by omega) (fun j _ hj e ej => ?_) (fun ej => by rw [ej] at k; exact k.no2 Kp.rf h)
  rw [ej] at k
  subst e
  refine cworkBy (so := 2) h hS (by omega) (by omega) m1 (by omega) (fun M1 k1 => ?_)
  refine lp_up (fun n s => s.2 = (nI (lst2 (swF S m) (n - 3)), nI (swF S m (lst2 (swF S m) (n - 3))), nI n) ∧ Kp pHt M s.1) (show 3 ≤ 9 by omega) ⟨rfl, k1⟩ ?_ ?_
  · rintro n ⟨M2, v⟩ L n3 n9 ⟨rfl, k2⟩ hL
    have h1 := h.v k2 cHS
    obtain ⟨l1, l2⟩ := lst2_b (swF S m) (n - 3)
    have hb1 : swF S m (lst2 (swF S m) (n - 3)) ≤ 6144 := swF_le hS l1 (by omega) m1
    have hb2 : swF S m n ≤ 6144 := swF_le hS (by omega) (by omega) m1
    have el : lst2 (swF S m) (n + 1 - 3) = if swF S m n < swF S m (lst2 (swF S m) (n - 3)) then n else lst2 (swF S m) (n - 3) := by
      rw [show n + 1 - 3 = (n - 3) + 1 by omega, lst2_s, show n - 3 + 3 = n by omega]
    unfold bX10_swift_28
    refine ⟨fun c1 => absurd c1 (by show ¬ nI 8 < nI n; rw [ltI (by omega) (by omega)]; omega), fun _ => ?_⟩
    refine cworkBy h1 hS (by omega) (by omega) m1 (by omega) (fun M3 k3 => ?_)
    show (nI _ ≤ nI (swF S m n) → _) ∧ (¬ nI _ ≤ nI (swF S m n) → _)
    rw [leI (by omega) (by omega)]
    unfold bX10_swift_58
    by_cases e : swF S m n < swF S m (lst2 (swF S m) (n - 3))
    · refine ⟨fun c => absurd c (by omega), fun _ v7 e7 => hL _ ⟨?_, k2.tr k3⟩⟩
      rw [el, if_pos e, e7]
      exact congrArg (fun z => (nI n, nI (swF S m n), z)) (adI n 1)
    · refine ⟨fun _ v7 e7 => hL _ ⟨?_, k2.tr k3⟩, fun c => absurd (by omega) c⟩
      rw [el, if_neg e, e7]
      exact congrArg (fun z => (nI (lst2 (swF S m) (n - 3)), nI (swF S m (lst2 (swF S m) (n - 3))), z)) (adI n 1)
  · rintro ⟨M2, v⟩ L ⟨rfl, k2⟩
    have hq2 := k.ok (k2.wk cHR) (h.v k2 cHS)
    unfold bX10_swift_28
    refine ⟨fun _ => ?_, fun c1 => absurd (by show nI 8 < nI 9; rw [ltI (by omega) (by omega)]; omega) c1⟩
    rcases (show j = 0 ∨ j = 1 by omega) with rfl | rfl
    · exact s0a hq2
    · exact s1a hq2
theorem c_inside {S : St} {M : Mem} (h : CI S M) (hS : SW S) {Q : Int32 → Mem → Prop} {K : String → Mem → Prop} (x y : Int32) (k : CE (oInside S x y) M Q K) : pX10_inside M x y Q K := by
  obtain ⟨s1, s2, hD, hW, hK, s5, s6, s7⟩ := id hS
  obtain ⟨i1, i2, i3, i4, i5, hC, hw, hq, hz⟩ := id h
  have hkn := hD.2.1
  have hdn := hD.1
  unfold oInside at k
  unfold pX10_inside
  refine cneedB h hS (fun w b w1 b1' ex ey ed => ?_) (fun ed => by rw [ed] at k; exact k.no1 Kp.rf h)
  rw [ed] at k
  dsimp only at k
  subst ex ey
  have hpn := pN_le (tD S) w
  have hb := (bk_div s5).mp b1'
  obtain ⟨p1, p2, p3⟩ := bkM_pos s5 hb
  intro v3 e3
  rw [hz] at e3
  have e3' : v3 = nI (b * tZ S) := e3.trans (mlI _ _)
  subst e3'
  refine ⟨(vpI (by omega)).mpr (by omega), fun v5 e5 => ?_⟩
  have et : min (b * tZ S + tZ S) (pN (tD S) w) = b * tZ S + bkM (tD S) w (tZ S) b := by unfold bkM; omega
  have e5' : v5 = nI (b * tZ S + bkM (tD S) w (tZ S) b) := by
    rw [e5, hz, adI, tnI (by omega), hC.po, mnI (by omega) (by omega), et]
  subst e5'
  have hk2 := k.ok Kp.rf h
  refine lp_up (fun j s => s = (M, nI (b * tZ S + bkM (tD S) w (tZ S) b), nI (insV S w (b * tZ S) j), nI (b * tZ S + j))) (Nat.zero_le (bkM (tD S) w (tZ S) b)) rfl ?_ ?_
  · rintro j s L - j2 rfl hL
    have hp : b * tZ S + j < pN (tD S) w := by omega
    have hpk := pK_lt hp
    have e1 := hC.li hp
    have hi := insV_le hS w (b * tZ S) j
    have ht := total_le none (pK (tD S) w (b * tZ S + j)) hD hK
    have hL' : L (M, nI (b * tZ S + bkM (tD S) w (tZ S) b), nI (insV S w (b * tZ S) (j + 1)), nI (b * tZ S + j + 1)) := hL _ rfl
    have es : insV S w (b * tZ S) (j + 1) = max (insV S w (b * tZ S) j) (if why (tD S) (tK S) none (pK (tD S) w (b * tZ S + j)) = 0 then total (tD S) (tK S) none (pK (tD S) w (b * tZ S + j)) else 0) := rfl
    rw [es] at hL'
    unfold bX10_inside_45 bX10_inside_96
    try simp (disch := omega) only [li, nO_n, adI, mlI, tnI, vpI, ltI, leI, eqI, forall_eq, leT, leF, ltT, ltF, eqT, eqF, true_and, and_true, false_implies, true_implies, forall_const, not_true_eq_false, not_false_eq_true, implies_true, e1]
    refine cwhy hC hq hD hK hpk (pK_cnt hp).2 (lo := none) lo0 ?_
    by_cases ew : why (tD S) (tK S) none (pK (tD S) w (b * tZ S + j)) = 0
    · rw [if_pos ew] at hL'
      rw [ew]
      refine s0a ?_
      refine ctotal hC hq hD hK (by omega) (lo := none) lo0 ?_
      try simp (disch := omega) only [li, nO_n, adI, mlI, tnI, vpI, ltI, leI, eqI, forall_eq, leT, leF, ltT, ltF, eqT, eqF, true_and, and_true, false_implies, true_implies, forall_const, not_true_eq_false, not_false_eq_true, implies_true, mxI]
      exact hL'
    · rw [if_neg ew, Nat.max_eq_left (Nat.zero_le _)] at hL'
      have hwl : why (tD S) (tK S) none (pK (tD S) w (b * tZ S + j)) < 2147483648 := by
        unfold why
        repeat (first | omega | split)
      refine ⟨fun _ => ?_, fun q => absurd ((eqI hwl (by omega)).mp q) ew⟩
      try simp (disch := omega) only [li, nO_n, adI, mlI, tnI, vpI, ltI, leI, eqI, forall_eq, leT, leF, ltT, ltF, eqT, eqF, true_and, and_true, false_implies, true_implies, forall_const, not_true_eq_false, not_false_eq_true, implies_true]
      exact hL'
  · rintro s L rfl
    unfold bX10_inside_45
    try simp (disch := omega) only [li, nO_n, adI, mlI, tnI, vpI, ltI, leI, eqI, forall_eq, leT, leF, ltT, ltF, eqT, eqF, true_and, and_true, false_implies, true_implies, forall_const, not_true_eq_false, not_false_eq_true, implies_true]
    exact hk2
theorem c_blockOf {S : St} {M : Mem} (h : CI S M) (hS : SW S) {Q : Int32 → Mem → Prop} {K : String → Mem → Prop} (x y : Int32) (k : CE (oBlockOf S x y) M Q K) : pX10_blockOf M x y Q K := by
  obtain ⟨s1, s2, hD, hW, hK, s5, s6, s7⟩ := id hS
  obtain ⟨i1, i2, i3, i4, i5, hC, hw, hq, hz⟩ := id h
  have hkn := hD.2.1
  have hdn := hD.1
  unfold oBlockOf at k
  unfold pX10_blockOf
  refine cneedW h hS (fun w w1 e ew => ?_) (fun ew => by rw [ew] at k; exact k.no1 Kp.rf h)
  rw [ew] at k
  dsimp only at k
  subst e
  refine cneedD h hS (fun d d1 d2 e ed => ?_) (fun ed => by rw [ed] at k; exact k.no1 Kp.rf h)
  rw [ed] at k
  dsimp only at k
  subst e
  have hpn := pN_le (tD S) w
  have hbn := bkN_le s5 (show pN (tD S) w ≤ 64 by omega)
  rw [hz]
  refine cblocksOf hC hD (by omega) s5 s6 ?_
  refine lp_up (fun b s => s.2 = (nI (bkN (pN (tD S) w) (tZ S)), nI b) ∧ Kp P6 M s.1 ∧ ∀ j, 0 ≤ j → j < b → decide (pK (tD S) w (j * tZ S) ≤ d ∧ d ≤ pK (tD S) w (j * tZ S + bkM (tD S) w (tZ S) j - 1)) = false) (Nat.zero_le (bkN (pN (tD S) w) (tZ S))) ⟨rfl, Kp.rf, fun j _ hj => absurd hj (Nat.not_lt_zero _)⟩ ?_ ?_
  · rintro b ⟨M1, v⟩ L - b2 ⟨rfl, k1, hj⟩ hL
    have h1 := h.v k1 c6S
    have hz1 : M1.1 507 0 0 = nI (tZ S) := h1.2.2.2.2.2.2.2.2
    have hb := (bk_div s5).mp b2
    obtain ⟨p1, p2, p3⟩ := bkM_pos s5 hb
    have hpk1 := pK_lt hb
    have hpk2 := pK_lt (D := tD S) (w := w) (k := b * tZ S + bkM (tD S) w (tZ S) b - 1) (by omega)
    unfold bX10_blockOf_29 bX10_blockOf_77
    dsimp only
    refine ⟨fun c => absurd c (by rw [leI (by omega) (by omega)]; omega), fun _ => ?_⟩
    rw [hz1]
    refine cmeasure h1.2.2.2.2.2.1 hD (by omega) s5 s6 hb (fun M2 k2 hm => ?_)
    have m1 := hm.1
    have m2 := hm.2.1
    rw [m1, m2]
    by_cases e : pK (tD S) w (b * tZ S) ≤ d ∧ d ≤ pK (tD S) w (b * tZ S + bkM (tD S) w (tZ S) b - 1)
    · have er : bofN S w d = b := ffn_at (Nat.zero_le _) (by omega) hj (Or.inr (decide_eq_true e))
      rw [er, if_neg (by omega)] at k
      have hq2 := k.ok ((k1.tr k2).wk c6R) (h.v (k1.tr k2) c6S)
      refine ⟨fun c => absurd c (by rw [ltI (by omega) (by omega)]; omega), fun _ => ⟨fun c => absurd c (by rw [ltI (by omega) (by omega)]; omega), fun _ => hq2⟩⟩
    · have hL2 : ∀ v12 : Int32, v12 = nI b + 1 → L (M2, nI (bkN (pN (tD S) w) (tZ S)), v12) := fun v12 e12 => by
        refine hL _ ⟨by rw [e12]; exact congrArg (fun z => (nI (bkN (pN (tD S) w) (tZ S)), z)) (adI b 1), k1.tr k2, fun j j0 j2 => ?_⟩
        by_cases ej : j = b
        · rw [ej]; exact decide_eq_false e
        · exact hj j j0 (by omega)
      refine ⟨fun _ => hL2, fun c1 => ⟨fun _ => hL2, fun c2 => ?_⟩⟩
      rw [ltI (by omega) (by omega)] at c1 c2
      exact absurd ⟨by omega, by omega⟩ e
  · rintro ⟨M1, v⟩ L ⟨rfl, k1, hj⟩
    have er : bofN S w d = bkN (pN (tD S) w) (tZ S) := ffn_at (Nat.zero_le _) (Nat.le_refl _) hj (Or.inl rfl)
    rw [er, if_pos rfl] at k
    have hq2 := k.ok (k1.wk c6R) (h.v k1 c6S)
    unfold bX10_blockOf_29
    exact ⟨fun _ => hq2, fun c => absurd (Int32.le_refl _) c⟩
