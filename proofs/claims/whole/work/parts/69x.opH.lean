/-! PURE: operations on documents and words, all together; both sides -/
def allS (D : Dc) (K : Qc) (d n : Nat) : Bool := (List.range n).all (fun i => cnt D (sW K i) d != 0)
theorem allS_s (D : Dc) (K : Qc) (d n : Nat) : allS D K d (n + 1) = (allS D K d n && cnt D (sW K n) d != 0) := by
  unfold allS
  rw [List.range_succ, List.all_append]
  simp
theorem allS_t {D : Dc} {K : Qc} {d n : Nat} : allS D K d n = true ↔ ∀ i, i < n → cnt D (sW K i) d ≠ 0 := by
  unfold allS
  rw [List.all_eq_true]
  simp [List.mem_range]
def fulP (S : St) (d : Nat) : Bool := decide (dS (tD S) d = 1) && allS (tD S) (tK S) d (sN (tK S)) && decide (sN (tK S) ≠ 0)
def fulN (S : St) (n : Nat) : Nat := ctF (fulP S) n
def oFull (S : St) : Rs := okR S (nI (fulN S (tD S).length))
def oSpread (S : St) (x : Int32) : Rs := match ixr x 0 65 with
  | none => rfs S 2
  | some j => okR S (nI (eqN (tD S) j (tW S).length))
def nrs (D : Dc) (kn d : Nat) : Nat → Nat
  | 0 => 0
  | e + 1 => if e = d ∨ dS D e = 3 then nrs D kn d e else if nrs D kn d e = 0 ∨ bothN D d (nrs D kn d e - 1) kn < bothN D d e kn then e + 1 else nrs D kn d e
theorem nrs_le (D : Dc) (kn d n : Nat) : nrs D kn d n ≤ n := by
  induction n with
  | zero => exact Nat.le_refl _
  | succ n ih =>
    unfold nrs
    by_cases e1 : n = d ∨ dS D n = 3
    · rw [if_pos e1]; omega
    · rw [if_neg e1]
      by_cases e2 : nrs D kn d n = 0 ∨ bothN D d (nrs D kn d n - 1) kn < bothN D d n kn
      · rw [if_pos e2]; exact Nat.le_refl _
      · rw [if_neg e2]; omega
theorem nrs_s (D : Dc) (kn d e : Nat) : nrs D kn d (e + 1) = if e = d ∨ dS D e = 3 then nrs D kn d e else if nrs D kn d e = 0 ∨ bothN D d (nrs D kn d e - 1) kn < bothN D d e kn then e + 1 else nrs D kn d e := rfl
def oNearest (S : St) (x : Int32) : Rs := match dix (tD S) x with
  | none => rfs S 1
  | some d => okR S (nI (nrs (tD S) (tW S).length d (tD S).length) - nI 1)
def rrs (D : Dc) (d : Nat) : Nat → Nat
  | 0 => 0
  | w + 1 => if cnt D w d = 0 then rrs D d w else if rrs D d w = 0 ∨ rare D (rrs D d w - 1) < rare D w ∨ (rare D w = rare D (rrs D d w - 1) ∧ cnt D (rrs D d w - 1) d < cnt D w d) then w + 1 else rrs D d w
theorem rrs_s (D : Dc) (d w : Nat) : rrs D d (w + 1) = if cnt D w d = 0 then rrs D d w else if rrs D d w = 0 ∨ rare D (rrs D d w - 1) < rare D w ∨ (rare D w = rare D (rrs D d w - 1) ∧ cnt D (rrs D d w - 1) d < cnt D w d) then w + 1 else rrs D d w := rfl
theorem rrs_le (D : Dc) (d n : Nat) : rrs D d n ≤ n := by
  induction n with
  | zero => exact Nat.le_refl _
  | succ n ih =>
    rw [rrs_s]
    by_cases e1 : cnt D n d = 0
    · rw [if_pos e1]; omega
    · rw [if_neg e1]
      by_cases e2 : rrs D d n = 0 ∨ rare D (rrs D d n - 1) < rare D n ∨ (rare D n = rare D (rrs D d n - 1) ∧ cnt D (rrs D d n - 1) d < cnt D n d)
      · rw [if_pos e2]; exact Nat.le_refl _
      · rw [if_neg e2]; omega
theorem rare_1 {D : Dc} {w d : Nat} (hd : d < D.length) (h3 : dS D d ≠ 3) (hc : cnt D w d ≠ 0) : 1 ≤ rare D w := by
  obtain ⟨k, hk, -⟩ := pK_of (D := D) (w := w) hd (by unfold inL; simp; exact ⟨h3, hc⟩)
  unfold rare
  rw [if_neg (by omega)]
  omega
theorem rrs_1 {D : Dc} {d : Nat} (n : Nat) (h : rrs D d n ≠ 0) : cnt D (rrs D d n - 1) d ≠ 0 := by
  induction n with
  | zero => exact absurd rfl h
  | succ n ih =>
    rw [rrs_s] at h ⊢
    by_cases e1 : cnt D n d = 0
    · rw [if_pos e1] at h ⊢; exact ih h
    · rw [if_neg e1] at h ⊢
      by_cases e2 : rrs D d n = 0 ∨ rare D (rrs D d n - 1) < rare D n ∨ (rare D n = rare D (rrs D d n - 1) ∧ cnt D (rrs D d n - 1) d < cnt D n d)
      · rw [if_pos e2]; exact e1
      · rw [if_neg e2] at h ⊢; exact ih h
def oRarest (S : St) (x : Int32) : Rs := match dix (tD S) x with
  | none => rfs S 1
  | some d => okR S (nI (rrs (tD S) d (tW S).length) - nI 1)
def oStatus (S : St) (x : Int32) : Rs := match ixr x 0 2 with
  | none => okR S nO
  | some j => okR S (nI (if j = 0 then t0 S else t1 S))
def oFault (S : St) : Rs := okR S (tP S)
theorem c_fault {S : St} {M : Mem} (h : CI S M) (hS : SW S) {Q : Int32 → Mem → Prop} {K : String → Mem → Prop} (k : CE (oFault S) M Q K) : pX10_fault M Q := by
  obtain ⟨s1, s2, hD, hW, hK, s5, s6, s7⟩ := id hS
  obtain ⟨i1, i2, i3, i4, i5, hC, hw, hq, hz⟩ := id h
  have hkn := hD.2.1
  have hdn := hD.1
  unfold pX10_fault
  rw [i3]
  exact k.ok Kp.rf h
theorem c_status {S : St} {M : Mem} (h : CI S M) (hS : SW S) {Q : Int32 → Mem → Prop} {K : String → Mem → Prop} (x : Int32) (k : CE (oStatus S x) M Q K) : pX10_status M x Q := by
  obtain ⟨s1, s2, hD, hW, hK, s5, s6, s7⟩ := id hS
  obtain ⟨i1, i2, i3, i4, i5, hC, hw, hq, hz⟩ := id h
  have hkn := hD.2.1
  have hdn := hD.1
  unfold oStatus at k
  unfold pX10_status
  rcases ixr_c x (lo := 0) (n := 2) (by omega) (by omega) with ⟨e, h1⟩ | ⟨j, -, j2, e, ej⟩
  · rw [e] at k
    have hq2 := k.ok Kp.rf h
    have n0 : ¬ x = 0 := ixr_n (by omega) e (show 0 < 2 by omega)
    have n1 : ¬ x = 1 := ixr_n (by omega) e (show 1 < 2 by omega)
    exact ⟨fun _ => ⟨fun _ => hq2, fun q => absurd q n1⟩, fun q => absurd q n0⟩
  · rw [ej] at k
    have hq2 := k.ok Kp.rf h
    subst e
    rw [i4, i5]
    rcases (show j = 0 ∨ j = 1 by omega) with rfl | rfl
    · exact ⟨fun q => absurd rfl q, fun _ => hq2⟩
    · exact ⟨fun _ => ⟨fun q => absurd rfl q, fun _ => hq2⟩, fun q => absurd q n10⟩
theorem c_full {S : St} {M : Mem} (h : CI S M) (hS : SW S) {Q : Int32 → Mem → Prop} {K : String → Mem → Prop} (k : CE (oFull S) M Q K) : pX10_full M Q := by
  obtain ⟨s1, s2, hD, hW, hK, s5, s6, s7⟩ := id hS
  obtain ⟨i1, i2, i3, i4, i5, hC, hw, hq, hz⟩ := id h
  have hkn := hD.2.1
  have hdn := hD.1
  unfold oFull at k
  have hk2 := k.ok Kp.rf h
  unfold pX10_full
  refine lp_up (fun d s => s = (M, nI (fulN S d), nI d)) (Nat.zero_le (tD S).length) rfl ?_ ?_
  · rintro d s L - d2 rfl hL
    have hs := hD.2.2 d d2
    have hL' : L (M, nI (fulN S d + if fulP S d = true then 1 else 0), nI (d + 1)) := hL _ rfl
    have h51 : fulP S d = false → bX10_full_51 Q L M (nI (fulN S d)) (nI d) := fun e => by
      rw [e, if_neg (by decide), Nat.add_zero] at hL'
      unfold bX10_full_51
      intro v e12
      subst e12
      have := adI d 1
      exact (show L (M, nI (fulN S d), nI d + nI 1) by rw [this]; exact hL')
    unfold bX10_full_4
    refine ⟨fun c => absurd c (by rw [hC.n]; show ¬ nI _ ≤ nI d; rw [leI (by omega) (by omega)]; omega), fun _ => ?_⟩
    refine cholds hC hD _ (fun d' d1' h3' e => ?_) (fun q => ?_)
    · rw [eqI (by omega) (by omega)] at e
      subst e
      refine s1b ?_
      refine cisGone hC hD (by omega) ?_
      by_cases e2 : dS (tD S) d = 2
      · rw [if_pos e2]
        refine s1a (h51 ?_)
        unfold fulP
        rw [decide_eq_false (by omega)]; rfl
      · rw [if_neg e2]
        refine s0a ?_
        refine chasAll hC hq hD hK (by omega) (fun u1 u2 => ?_) (fun u => ?_)
        · refine s1b ?_
          have ef : fulP S d = true := by
            unfold fulP
            rw [decide_eq_true (show dS (tD S) d = 1 by omega), allS_t.mpr u2, decide_eq_true (by omega)]; rfl
          rw [ef, if_pos rfl] at hL'
          unfold bX10_full_51
          intro v11 e11 v e12
          subst e11 e12
          have := adI d 1
          exact (show L (M, nI (fulN S d) + nI 1, nI d + nI 1) by rw [this, adI]; exact hL')
        · refine s0b (h51 ?_)
          unfold fulP
          rcases u with u | ⟨i, i1, i2⟩
          · rw [decide_eq_false (show ¬ sN (tK S) ≠ 0 by omega)]; simp
          · have : allS (tD S) (tK S) d (sN (tK S)) = false := by
              cases q : allS (tD S) (tK S) d (sN (tK S))
              · rfl
              · exact absurd i2 (allS_t.mp q i i1)
            rw [this]; simp
    · refine s0b (h51 ?_)
      unfold fulP
      have : dS (tD S) d = 3 := by
        by_cases e : dS (tD S) d = 3
        · exact e
        · exact absurd rfl (q d d2 e)
      rw [decide_eq_false (by omega)]; rfl
  · rintro s L rfl
    unfold bX10_full_4
    exact ⟨fun _ => hk2, fun c => absurd (by rw [hC.n]; exact Int32.le_refl _) c⟩
theorem c_spread {S : St} {M : Mem} (h : CI S M) (hS : SW S) {Q : Int32 → Mem → Prop} {K : String → Mem → Prop} (x : Int32) (k : CE (oSpread S x) M Q K) : pX10_spread M x Q K := by
  obtain ⟨s1, s2, hD, hW, hK, s5, s6, s7⟩ := id hS
  obtain ⟨i1, i2, i3, i4, i5, hC, hw, hq, hz⟩ := id h
  have hkn := hD.2.1
  have hdn := hD.1
  unfold oSpread at k
  unfold pX10_spread
  refine cneed (lo := 0) (m := 64) rfl rfl (by omega) (by omega) (fun j _ hj e ej => ?_) (fun ej => by rw [ej] at k; exact k.no2 Kp.rf h)
  rw [ej] at k
  subst e
  have hk2 := k.ok Kp.rf h
  refine lp_up (fun w s => s = (M, nI (eqN (tD S) j w), nI w)) (Nat.zero_le (tW S).length) rfl ?_ ?_
  · rintro w s L - w2 rfl hL
    have hpn := pN_le (tD S) w
    have hL' : L (M, nI (eqN (tD S) j w + if decide (pN (tD S) w = j) = true then 1 else 0), nI (w + 1)) := hL _ rfl
    unfold bX10_spread_12 bX10_spread_39
    by_cases e : pN (tD S) w = j
    · rw [if_pos (decide_eq_true e)] at hL'
      try simp (disch := omega) only [li, nO_n, adI, mlI, tnI, vpI, ltI, leI, eqI, forall_eq, leT, leF, ltT, ltF, eqT, eqF, true_and, and_true, false_implies, true_implies, forall_const, not_true_eq_false, not_false_eq_true, implies_true, hw.1, hC.po, e]
      exact hL'
    · rw [if_neg (show ¬ decide (pN (tD S) w = j) = true from fun q => e (of_decide_eq_true q))] at hL'
      try simp (disch := omega) only [li, nO_n, adI, mlI, tnI, vpI, ltI, leI, eqI, forall_eq, leT, leF, ltT, ltF, eqT, eqF, true_and, and_true, false_implies, true_implies, forall_const, not_true_eq_false, not_false_eq_true, implies_true, hw.1, hC.po]
      exact hL'
  · rintro s L rfl
    unfold bX10_spread_12
    try simp (disch := omega) only [li, nO_n, adI, mlI, tnI, vpI, ltI, leI, eqI, forall_eq, leT, leF, ltT, ltF, eqT, eqF, true_and, and_true, false_implies, true_implies, forall_const, not_true_eq_false, not_false_eq_true, implies_true, hw.1]
    exact hk2
theorem c_nearest {S : St} {M : Mem} (h : CI S M) (hS : SW S) {Q : Int32 → Mem → Prop} {K : String → Mem → Prop} (x : Int32) (k : CE (oNearest S x) M Q K) : pX10_nearest M x Q K := by
  obtain ⟨s1, s2, hD, hW, hK, s5, s6, s7⟩ := id hS
  obtain ⟨i1, i2, i3, i4, i5, hC, hw, hq, hz⟩ := id h
  have hkn := hD.2.1
  have hdn := hD.1
  unfold oNearest at k
  unfold pX10_nearest
  refine cneedD h hS (fun d d1 d2 e ed => ?_) (fun ed => by rw [ed] at k; exact k.no1 Kp.rf h)
  rw [ed] at k
  dsimp only at k
  subst e
  have hk2 := k.ok Kp.rf h
  obtain ⟨f, ef⟩ : ∃ f, f = nrs (tD S) (tW S).length d := ⟨_, rfl⟩
  rw [← ef] at hk2
  have hb : ∀ e, bothN (tD S) d e (tW S).length ≤ 255 := fun e => Nat.le_trans (ctF_le _ _) hkn
  refine lp_up (fun e s => s = (M, nI (f e) - nI 1, (if f e = 0 then nO else nI (bothN (tD S) d (f e - 1) (tW S).length)), nI e)) (Nat.zero_le (tD S).length) (by rw [ef]; rfl) ?_ ?_
  · rintro e s L - e2 rfl hL
    have hs := nrs_s (tD S) (tW S).length d e
    have hle := nrs_le (tD S) (tW S).length d e
    rw [← ef] at hs hle
    have hadd := adI e 1
    have hbe := hb e
    have hbf := hb (f e - 1)
    have h69 : f (e + 1) = f e → bX10_nearest_69 (nI d) Q K L M (nI (f e) - nI 1) (if f e = 0 then nO else nI (bothN (tD S) d (f e - 1) (tW S).length)) (nI e) := fun q => by
      unfold bX10_nearest_69
      intro v ev
      refine hL _ ?_
      rw [ev, q]
      exact congrArg (fun z => (M, nI (f e) - nI 1, (if f e = 0 then nO else nI (bothN (tD S) d (f e - 1) (tW S).length)), z)) hadd
    unfold bX10_nearest_12
    refine ⟨fun c => absurd c (by rw [hC.n]; show ¬ nI _ ≤ nI e; rw [leI (by omega) (by omega)]; omega), fun _ => ?_⟩
    by_cases q1 : e = d
    · rw [if_pos (Or.inl q1)] at hs
      exact ⟨fun _ => h69 hs, fun c => absurd (by rw [q1]) c⟩
    · refine ⟨fun c => absurd ((eqI (by omega) (by omega)).mp c) q1, fun _ => ?_⟩
      refine cholds hC hD _ (fun e' e1' h3' e => ?_) (fun q => ?_)
      · rw [eqI (by omega) (by omega)] at e
        subst e
        rw [if_neg (show ¬ (e = d ∨ dS (tD S) e = 3) from fun z => z.elim q1 h3')] at hs
        refine s1a ?_
        refine cwordsInBoth hC hD hw.1 (by omega) (by omega) ?_
        by_cases q2 : f e = 0 ∨ bothN (tD S) d (f e - 1) (tW S).length < bothN (tD S) d e (tW S).length
        · rw [if_pos q2] at hs
          refine ⟨fun c => absurd c ?_, fun _ => ?_⟩
          · by_cases q3 : f e = 0
            · rw [if_pos q3]; exact nO_nl (by omega)
            · rw [if_neg q3, leI (by omega) (by omega)]
              rcases q2 with q2 | q2
              · exact absurd q2 q3
              · omega
          · unfold bX10_nearest_69
            intro v ev
            refine hL _ ?_
            rw [ev, hs, if_neg (Nat.succ_ne_zero e), sbs]
            exact congrArg (fun z => (M, nI e, nI (bothN (tD S) d e (tW S).length), z)) hadd
        · rw [if_neg q2] at hs
          refine ⟨fun _ => h69 hs, fun c => absurd ?_ c⟩
          rw [if_neg (show ¬ f e = 0 from fun z => q2 (Or.inl z)), leI (by omega) (by omega)]
          exact Nat.le_of_not_lt (fun z => q2 (Or.inr z))
      · have h3 : dS (tD S) e = 3 := by
          by_cases z : dS (tD S) e = 3
          · exact z
          · exact absurd rfl (q e e2 z)
        rw [if_pos (Or.inr h3)] at hs
        exact s0a (h69 hs)
  · rintro s L rfl
    unfold bX10_nearest_12
    exact ⟨fun _ => hk2, fun c => absurd (by rw [hC.n]; exact Int32.le_refl _) c⟩
theorem c_rarest {S : St} {M : Mem} (h : CI S M) (hS : SW S) {Q : Int32 → Mem → Prop} {K : String → Mem → Prop} (x : Int32) (k : CE (oRarest S x) M Q K) : pX10_rarest M x Q K := by
  obtain ⟨s1, s2, hD, hW, hK, s5, s6, s7⟩ := id hS
  obtain ⟨i1, i2, i3, i4, i5, hC, hw, hq, hz⟩ := id h
  have hkn := hD.2.1
  have hdn := hD.1
  unfold oRarest at k
  unfold pX10_rarest
  refine cneedD h hS (fun d d1 d2 e ed => ?_) (fun ed => by rw [ed] at k; exact k.no1 Kp.rf h)
  rw [ed] at k
  dsimp only at k
  subst e
  have hk2 := k.ok Kp.rf h
  obtain ⟨f, ef⟩ : ∃ f, f = rrs (tD S) d := ⟨_, rfl⟩
  rw [← ef] at hk2
  refine lp_up (fun w s => s = (M, nI (f w) - nI 1, nI (if f w = 0 then 0 else rare (tD S) (f w - 1)), nI (if f w = 0 then 0 else cnt (tD S) (f w - 1) d), nI w)) (Nat.zero_le (tW S).length) (by rw [ef]; rfl) ?_ ?_
  · rintro w s L - w2 rfl hL
    have hs := rrs_s (tD S) d w
    have hle := rrs_le (tD S) d w
    rw [← ef] at hs hle
    have hadd := adI w 1
    have hr := rare_le (tD S) w
    have hcw := hD.cn w d
    obtain ⟨z1, ez1⟩ : ∃ z, z = (if f w = 0 then 0 else rare (tD S) (f w - 1)) := ⟨_, rfl⟩
    obtain ⟨z2, ez2⟩ : ∃ z, z = (if f w = 0 then 0 else cnt (tD S) (f w - 1) d) := ⟨_, rfl⟩
    have hz1 : z1 ≤ 65 := by
      rw [ez1]
      by_cases q : f w = 0
      · rw [if_pos q]; omega
      · rw [if_neg q]; have := rare_le (tD S) (f w - 1); omega
    have hz2 : z2 ≤ 150 := by
      rw [ez2]
      by_cases q : f w = 0
      · rw [if_pos q]; omega
      · rw [if_neg q]; exact hD.cn _ _
    rw [← ez1, ← ez2]
    have h86 : f (w + 1) = f w → bX10_rarest_86 (nI d) Q K L M (nI (f w) - nI 1) (nI z1) (nI z2) (nI w) := fun q => by
      unfold bX10_rarest_86
      intro v ev
      refine hL _ ?_
      rw [ev, q, ← ez1, ← ez2]
      exact congrArg (fun z => (M, nI (f w) - nI 1, nI z1, nI z2, z)) hadd
    have h76 : f (w + 1) = w + 1 → bX10_rarest_76 (nI d) Q K L M (nI w) (nI (cnt (tD S) w d)) (nI (rare (tD S) w)) := fun q => by
      unfold bX10_rarest_76 bX10_rarest_86
      intro v ev
      refine hL _ ?_
      rw [ev, q, if_neg (by omega), if_neg (by omega), sbs]
      exact congrArg (fun z => (M, nI w, nI (rare (tD S) w), nI (cnt (tD S) w d), z)) hadd
    unfold bX10_rarest_15
    refine ⟨fun c => absurd c (by rw [hw.1]; show ¬ nI _ ≤ nI w; rw [leI (by omega) (by omega)]; omega), fun _ => ⟨(vpI (by omega)).mpr (by omega), (vpI (by omega)).mpr (by omega), ?_⟩⟩
    intro v6 e6
    rw [tnI (by omega), tnI (by omega), hC.cn] at e6
    subst e6
    refine crareOf hC hD (by omega) ?_
    by_cases q0 : cnt (tD S) w d = 0
    · rw [if_pos q0] at hs
      refine ⟨fun _ => h86 hs, fun c => absurd (by rw [q0]; exact Int32.le_refl _) c⟩
    · rw [if_neg q0] at hs
      have hr1 := rare_1 d1 d2 q0
      refine ⟨fun c => absurd c (by show ¬ nI _ ≤ nI 0; rw [leI (by omega) (by omega)]; omega), fun _ => ?_⟩
      rw [ltI (by omega) (by omega), eqI (by omega) (by omega), leI (by omega) (by omega)]
      by_cases q1 : f w = 0 ∨ rare (tD S) (f w - 1) < rare (tD S) w ∨ (rare (tD S) w = rare (tD S) (f w - 1) ∧ cnt (tD S) (f w - 1) d < cnt (tD S) w d)
      · rw [if_pos q1] at hs
        refine ⟨fun _ => h76 hs, fun c => ⟨fun c2 => ?_, fun c2 => ⟨fun c3 => ?_, fun _ => h76 hs⟩⟩⟩
        · exfalso
          by_cases q3 : f w = 0
          · rw [if_pos q3] at ez1; omega
          · rw [if_neg q3] at ez1; omega
        · exfalso
          by_cases q3 : f w = 0
          · rw [if_pos q3] at ez1; omega
          · rw [if_neg q3] at ez1 ez2; omega
      · rw [if_neg q1] at hs
        have q3 : ¬ f w = 0 := fun z => q1 (Or.inl z)
        rw [if_neg q3] at ez1 ez2
        have q4 : ¬ rare (tD S) (f w - 1) < rare (tD S) w := fun z => q1 (Or.inr (Or.inl z))
        have q5 : rare (tD S) w = rare (tD S) (f w - 1) → ¬ cnt (tD S) (f w - 1) d < cnt (tD S) w d := fun z z2 => q1 (Or.inr (Or.inr ⟨z, z2⟩))
        refine ⟨fun c => absurd c (by omega), fun c => ⟨fun _ => h86 hs, fun c2 => ⟨fun _ => h86 hs, fun c3 => ?_⟩⟩⟩
        exact absurd (by have := q5 (by omega); omega) c3
  · rintro s L rfl
    unfold bX10_rarest_15
    exact ⟨fun _ => hk2, fun c => absurd (by rw [hw.1]; exact Int32.le_refl _) c⟩
