/-! PURE: operations on documents and words, all together; the reference -/
theorem b1_and (b : Bool) : nI (b1 b) &&& 0 = nI 0 ∧ nI (b1 b) &&& 1 = nI (b1 b) := by cases b <;> decide
theorem b1_or (b : Bool) : nI (b1 b) ||| 0 = nI (b1 b) ∧ nI (b1 b) ||| 1 = nI 1 := by cases b <;> decide
theorem m_fault {S : St} {M : Mem} (h : MI S M) (hS : SW S) {Q : Int32 → Mem → Prop} (k : ME (oFault S) 2 M Q) : pX11_fault M Q := by
  unfold pX11_fault
  obtain ⟨s1, s2, hD, hW, hK, s5, s6, s7⟩ := id hS
  have hkn := hD.2.1
  have hdn := hD.1
  refine mstart h (fun N hN k0 h0 => ?_)
  obtain ⟨i1, i2, i3, i4, i5, hC, hw, hq, hz, hn⟩ := id hN
  rw [i3]
  exact k.ok k0 hN h0
theorem m_status {S : St} {M : Mem} (h : MI S M) (hS : SW S) {Q : Int32 → Mem → Prop} (x : Int32) (k : ME (oStatus S x) 2 M Q) : pX11_status M x Q := by
  unfold pX11_status
  obtain ⟨s1, s2, hD, hW, hK, s5, s6, s7⟩ := id hS
  have hkn := hD.2.1
  have hdn := hD.1
  refine mstart h (fun N hN k0 h0 => ?_)
  obtain ⟨i1, i2, i3, i4, i5, hC, hw, hq, hz, hn⟩ := id hN
  unfold oStatus at k
  refine minR (lo := 0) (m := 1) rfl rfl (by omega) (by omega) (fun j _ hj e ej => ?_) (fun ej => ?_)
  · rw [ej] at k
    subst e
    have hq2 := k.ok k0 hN h0
    first | refine s1a ?_ | refine s1b ?_
    refine ⟨(vpI (by omega)).mpr (by omega), ?_⟩
    rw [tnI (by omega)]
    rcases (show j = 0 ∨ j = 1 by omega) with rfl | rfl
    · rw [i4]; exact hq2
    · rw [i5]; exact hq2
  · rw [ej] at k
    first | refine s0a ?_ | refine s0b ?_
    exact k.ok k0 hN h0
theorem m_spread {S : St} {M : Mem} (h : MI S M) (hS : SW S) {Q : Int32 → Mem → Prop} (x : Int32) (k : ME (oSpread S x) 1 M Q) : pX11_spread M x Q := by
  unfold pX11_spread
  obtain ⟨s1, s2, hD, hW, hK, s5, s6, s7⟩ := id hS
  have hkn := hD.2.1
  have hdn := hD.1
  refine mstart h (fun N hN k0 h0 => ?_)
  obtain ⟨i1, i2, i3, i4, i5, hC, hw, hq, hz, hn⟩ := id hN
  unfold oSpread at k
  refine minR (lo := 0) (m := 64) rfl rfl (by omega) (by omega) (fun j _ hj e ej => ?_) (fun ej => ?_)
  · rw [ej] at k
    subst e
    first | refine s1a ?_ | refine s1b ?_
    refine mbad0 h0 ?_
    first | refine s0a ?_ | refine s0b ?_
    refine lp_up (fun w s => s.2 = (nI (eqN (tD S) j w), nI w) ∧ Kp kL N s.1) (Nat.zero_le (tW S).length) ⟨rfl, Kp.rf⟩ ?_ ?_
    · rintro w ⟨M1, v⟩ L - w2 ⟨rfl, k1⟩ hL
      have h1 := hN.v k1 mLS
      have hpn := pN_le (tD S) w
      have es : eqN (tD S) j (w + 1) = eqN (tD S) j w + if decide (pN (tD S) w = j) = true then 1 else 0 := rfl
      rw [es] at hL
      have hadd := adI w 1
      unfold bX11_spread_35 bX11_spread_64
      dsimp only
      rw [h1.2.2.2.2.2.2.1.1]
      refine ⟨fun c => absurd c (by rw [leI (by omega) (by omega)]; omega), fun _ => ?_⟩
      refine mgathers h1.2.2.2.2.2.1 hD (by omega) (fun M2 k2 l2 => ?_)
      rw [l2.1, eqI (by omega) (by omega)]
      by_cases e : pN (tD S) w = j
      · rw [if_pos (decide_eq_true e)] at hL
        refine ⟨fun c => absurd e c, fun _ v16 e16 v17 e17 => hL _ ⟨?_, k1.tr k2⟩⟩
        rw [e16, e17]
        show (nI (eqN (tD S) j w) + nI 1, nI w + nI 1) = _
        rw [adI, adI]
      · rw [if_neg (show ¬ decide (pN (tD S) w = j) = true from fun q => e (of_decide_eq_true q))] at hL
        refine ⟨fun _ v15 e15 v17 e17 => hL _ ⟨?_, k1.tr k2⟩, fun c => absurd c e⟩
        rw [e15, e17]
        show (nI (eqN (tD S) j w) + nI 0, nI w + nI 1) = _
        rw [adI, adI]
    · rintro ⟨M1, v⟩ L ⟨rfl, k1⟩
      have h1 := hN.v k1 mLS
      have hq2 := k.ok (k0.tr (k1.wk mLR)) h1 ((k1.g rfl 0).trans h0)
      unfold bX11_spread_35
      dsimp only
      rw [h1.2.2.2.2.2.2.1.1]
      exact ⟨fun _ => hq2, fun c => absurd (Int32.le_refl _) c⟩
  · rw [ej] at k
    first | refine s0a ?_ | refine s0b ?_
    refine mbadA rfl (Or.inl rfl) hN h0 k0 k (fun M' hb => ?_)
    first | refine s1a ?_ | refine s1b ?_
    exact hb _
theorem m_full {S : St} {M : Mem} (h : MI S M) (hS : SW S) {Q : Int32 → Mem → Prop} (k : ME (oFull S) 2 M Q) : pX11_full M Q := by
  unfold pX11_full
  obtain ⟨s1, s2, hD, hW, hK, s5, s6, s7⟩ := id hS
  have hkn := hD.2.1
  have hdn := hD.1
  refine mstart h (fun N hN k0 h0 => ?_)
  obtain ⟨i1, i2, i3, i4, i5, hC, hw, hq, hz, hn⟩ := id hN
  have hsn := hK.1
  unfold oFull at k
  have hk2 := k.ok k0 hN h0
  have hz0 : sN (tK S) = 0 → ∀ n, fulN S n = 0 := fun e n => by
    unfold fulN
    rw [ctF_zero]
    intro d _
    unfold fulP
    rw [decide_eq_false (show ¬ sN (tK S) ≠ 0 by omega)]; simp
  refine lp_up (fun d s => s = (N, nI (fulN S d), nI d)) (Nat.zero_le (tD S).length) rfl ?_ ?_
  · rintro d s L - d2 rfl hL
    have hs := hD.2.2 d d2
    have hL' : L (N, nI (fulN S d + if fulP S d = true then 1 else 0), nI (d + 1)) := hL _ rfl
    unfold bX11_full_9
    dsimp only
    rw [hC.n, hq.n]
    refine ⟨fun c => absurd c (by rw [leI (by omega) (by omega)]; omega), fun _ => ?_⟩
    by_cases e0 : sN (tK S) = 0
    · rw [hz0 e0] at hk2 ⊢
      refine ⟨fun _ => hk2, fun c => absurd (by rw [e0]; exact Int32.le_refl _) c⟩
    · refine ⟨fun c => absurd c (by show ¬ nI _ ≤ nI 0; rw [leI (by omega) (by omega)]; omega), fun _ => ⟨(vpI (by omega)).mpr (by omega), ?_⟩⟩
      rw [tnI (by omega), hC.st]
      have hin : ∀ t : Bool, t = decide (dS (tD S) d = 1) → bX11_full_40 Q L N (nI (fulN S d)) (nI d) (nI (b1 t)) := by
        intro t et
        unfold bX11_full_40
        refine lp_up (fun i s => s = (N, nI (fulN S d), nI d, nI (b1 (t && allS (tD S) (tK S) d i)), nI i)) (Nat.zero_le (sN (tK S))) (by
          have : (t && allS (tD S) (tK S) d 0) = t := by unfold allS; simp
          rw [this]; rfl) ?_ ?_
        · rintro i s L2 - i2 rfl hL2
          obtain ⟨u1, u2⟩ := hK.2.2.2.2.1 i i2
          have hcn := hD.cn (sW (tK S) i) d
          have e1 := hq.w i2
          have hadd := adI i 1
          have hL2' := hL2 _ rfl
          rw [allS_s, ← Bool.and_assoc] at hL2'
          unfold bX11_full_43 bX11_full_77
          dsimp only
          rw [hq.n]
          refine ⟨fun c => absurd c (by rw [leI (by omega) (by omega)]; omega), fun _ => ⟨(vpI (by omega)).mpr (by omega), ?_⟩⟩
          rw [tnI (by omega), e1]
          refine ⟨(vpI (by omega)).mpr (by omega), (vpI (by omega)).mpr (by omega), ?_⟩
          rw [tnI (by omega), tnI (by omega), hC.cn]
          by_cases ec : cnt (tD S) (sW (tK S) i) d = 0
          · have eb : (cnt (tD S) (sW (tK S) i) d != 0) = false := by rw [ec]; rfl
            rw [eb, Bool.and_false] at hL2'
            refine ⟨fun _ v14 e14 v16 e16 => ?_, fun c => absurd (by rw [ec]; exact Int32.le_refl _) c⟩
            rw [e14, e16, (b1_and _).1]
            exact (show L2 (N, nI (fulN S d), nI d, nI 0, nI i + nI 1) by rw [hadd]; exact hL2')
          · have eb : (cnt (tD S) (sW (tK S) i) d != 0) = true := by simp; exact ec
            rw [eb, Bool.and_true] at hL2'
            refine ⟨fun c => absurd c (by show ¬ nI _ ≤ nI 0; rw [leI (by omega) (by omega)]; omega), fun _ v14 e14 v16 e16 => ?_⟩
            rw [e14, e16, (b1_and _).2]
            exact (show L2 (N, nI (fulN S d), nI d, nI (b1 (t && allS (tD S) (tK S) d i)), nI i + nI 1) by rw [hadd]; exact hL2')
        · rintro s L2 rfl
          have hadd := adI d 1
          have ef : fulP S d = (t && allS (tD S) (tK S) d (sN (tK S))) := by
            unfold fulP
            rw [et, decide_eq_true (show sN (tK S) ≠ 0 from e0), Bool.and_true]
          rw [ef] at hL'
          unfold bX11_full_43 bX11_full_95
          dsimp only
          rw [hq.n]
          refine ⟨fun _ => ?_, fun c => absurd (Int32.le_refl _) c⟩
          cases q : (t && allS (tD S) (tK S) d (sN (tK S)))
          · rw [q] at hL'
            refine ⟨fun _ v8 e8 v17 e17 => ?_, fun c => absurd rfl c⟩
            rw [e8, e17]
            exact (show L (N, nI (fulN S d) + nI 0, nI d + nI 1) by rw [hadd, adI]; exact hL')
          · rw [q] at hL'
            refine ⟨fun c => absurd c n10, fun _ v8 e8 v17 e17 => ?_⟩
            rw [e8, e17]
            exact (show L (N, nI (fulN S d) + nI 1, nI d + nI 1) by rw [hadd, adI]; exact hL')
      by_cases e1 : dS (tD S) d = 1
      · exact ⟨fun c => absurd (by rw [e1]; rfl) c, fun _ => hin true (decide_eq_true e1).symm⟩
      · exact ⟨fun _ => hin false (decide_eq_false e1).symm, fun c => absurd ((eqI (b := 1) (by omega) (by omega)).mp c) e1⟩
  · rintro s L rfl
    unfold bX11_full_9
    dsimp only
    rw [hC.n]
    exact ⟨fun _ => hk2, fun c => absurd (Int32.le_refl _) c⟩
theorem m_nearest {S : St} {M : Mem} (h : MI S M) (hS : SW S) {Q : Int32 → Mem → Prop} (x : Int32) (k : ME (oNearest S x) 2 M Q) : pX11_nearest M x Q := by
  unfold pX11_nearest
  obtain ⟨s1, s2, hD, hW, hK, s5, s6, s7⟩ := id hS
  have hkn := hD.2.1
  have hdn := hD.1
  refine mstart h (fun N hN k0 h0 => ?_)
  obtain ⟨i1, i2, i3, i4, i5, hC, hw, hq, hz, hn⟩ := id hN
  unfold oNearest at k
  refine misDoc hN hS (fun d d1 d2 e ed => ?_) (fun ed => ?_)
  · rw [ed] at k
    dsimp only at k
    subst e
    first | refine s1a ?_ | refine s1b ?_
    refine mbad0 h0 ?_
    first | refine s0a ?_ | refine s0b ?_
    have hk2 := k.ok k0 hN h0
    obtain ⟨f, ef⟩ : ∃ f, f = nrs (tD S) (tW S).length d := ⟨_, rfl⟩
    rw [← ef] at hk2
    have hb : ∀ e, bothN (tD S) d e (tW S).length ≤ 255 := fun e => Nat.le_trans (ctF_le _ _) hkn
    refine lp_up (fun e s => s = (N, nI (f e) - nI 1, nI e)) (Nat.zero_le (tD S).length) (by rw [ef]; rfl) ?_ ?_
    · rintro e s L - e2 rfl hL
      have hs := nrs_s (tD S) (tW S).length d e
      have hle := nrs_le (tD S) (tW S).length d e
      rw [← ef] at hs hle
      have hadd := adI e 1
      have hbe := hb e
      have hbf := hb (f e - 1)
      have h79 : f (e + 1) = f e → bX11_nearest_79 (nI d) Q L N (nI (f e) - nI 1) (nI e) := fun q => by
        unfold bX11_nearest_79
        intro v ev
        refine hL _ ?_
        rw [ev, q]
        exact congrArg (fun z => (N, nI (f e) - nI 1, z)) hadd
      have h77 : f (e + 1) = e + 1 → bX11_nearest_77 (nI d) Q L N (nI e) := fun q => by
        unfold bX11_nearest_77 bX11_nearest_79
        intro v ev
        refine hL _ ?_
        rw [ev, q, sbs]
        exact congrArg (fun z => (N, nI e, z)) hadd
      unfold bX11_nearest_33
      dsimp only
      rw [hC.n]
      refine ⟨fun c => absurd c (by rw [leI (by omega) (by omega)]; omega), fun _ => ?_⟩
      by_cases q1 : e = d
      · rw [if_pos (Or.inl q1)] at hs
        exact ⟨fun _ => h79 hs, fun c => absurd (by rw [q1]) c⟩
      · refine ⟨fun c => absurd ((eqI (by omega) (by omega)).mp c) q1, fun _ => ?_⟩
        refine misKept hC hD e2 ?_
        by_cases h3 : dS (tD S) e = 3
        · rw [if_pos h3]
          rw [if_pos (Or.inr h3)] at hs
          exact s0a (h79 hs)
        · rw [if_neg h3]
          rw [if_neg (show ¬ (e = d ∨ dS (tD S) e = 3) from fun z => z.elim q1 h3)] at hs
          refine s1a ?_
          by_cases q3 : f e = 0
          · rw [if_pos (Or.inl q3)] at hs
            exact ⟨fun _ => h77 hs, fun c => absurd ((s1O (by omega)).mpr q3) c⟩
          · refine ⟨fun c => absurd ((s1O (by omega)).mp c) q3, fun _ => ?_⟩
            obtain ⟨c, ec⟩ : ∃ c, f e = c + 1 := ⟨f e - 1, by omega⟩
            have ec2 : nI (f e) - nI 1 = nI c := by rw [ec, sbs]
            have ec3 : f e - 1 = c := by omega
            rw [ec3] at hs hbf
            refine minBoth hC hD hw.1 (by omega) (by omega) ?_
            rw [ec2]
            refine minBoth hC hD hw.1 (by omega) (by omega) ?_
            rw [← ec2, leI (by omega) (by omega)]
            by_cases q2 : bothN (tD S) d c (tW S).length < bothN (tD S) d e (tW S).length
            · rw [if_pos (Or.inr q2)] at hs
              exact ⟨fun z => absurd z (by omega), fun _ => h77 hs⟩
            · rw [if_neg (show ¬ (f e = 0 ∨ bothN (tD S) d c (tW S).length < bothN (tD S) d e (tW S).length) from fun z => z.elim q3 q2)] at hs
              exact ⟨fun _ => h79 hs, fun z => absurd (by omega) z⟩
    · rintro s L rfl
      unfold bX11_nearest_33
      dsimp only
      rw [hC.n]
      exact ⟨fun _ => hk2, fun c => absurd (Int32.le_refl _) c⟩
  · rw [ed] at k
    first | refine s0a ?_ | refine s0b ?_
    refine mbadN hN h0 k0 k (fun M' hb => ?_)
    first | refine s1a ?_ | refine s1b ?_
    exact hb _
theorem m_rarest {S : St} {M : Mem} (h : MI S M) (hS : SW S) {Q : Int32 → Mem → Prop} (x : Int32) (k : ME (oRarest S x) 2 M Q) : pX11_rarest M x Q := by
  unfold pX11_rarest
  obtain ⟨s1, s2, hD, hW, hK, s5, s6, s7⟩ := id hS
  have hkn := hD.2.1
  have hdn := hD.1
  refine mstart h (fun N hN k0 h0 => ?_)
  obtain ⟨i1, i2, i3, i4, i5, hC, hw, hq, hz, hn⟩ := id hN
  unfold oRarest at k
  refine misDoc hN hS (fun d d1 d2 e ed => ?_) (fun ed => ?_)
  · rw [ed] at k
    dsimp only at k
    subst e
    first | refine s1a ?_ | refine s1b ?_
    refine mbad0 h0 ?_
    first | refine s0a ?_ | refine s0b ?_
    obtain ⟨f, ef⟩ : ∃ f, f = rrs (tD S) d := ⟨_, rfl⟩
    rw [← ef] at k
    refine lp_up (fun w s => s.2 = (nI (f w) - nI 1, nI (if f w = 0 then 0 else rare (tD S) (f w - 1)), nI w) ∧ Kp kL N s.1) (Nat.zero_le (tW S).length) ⟨by rw [ef]; rfl, Kp.rf⟩ ?_ ?_
    · rintro w ⟨M1, v⟩ L - w2 ⟨rfl, k1⟩ hL
      have h1 := hN.v k1 mLS
      have hC1 := h1.2.2.2.2.2.1
      have hs := rrs_s (tD S) d w
      have hle := rrs_le (tD S) d w
      have hf1 := rrs_1 (D := tD S) (d := d) w
      rw [← ef] at hs hle hf1
      have hadd := adI w 1
      have hr := rare_le (tD S) w
      have hcw := hD.cn w d
      obtain ⟨z1, ez1⟩ : ∃ z, z = (if f w = 0 then 0 else rare (tD S) (f w - 1)) := ⟨_, rfl⟩
      have hz1 : z1 ≤ 65 := by
        rw [ez1]
        by_cases q : f w = 0
        · rw [if_pos q]; omega
        · rw [if_neg q]; have := rare_le (tD S) (f w - 1); omega
      rw [← ez1]
      have h115 : ∀ M2, Kp kL N M2 → f (w + 1) = f w → bX11_rarest_115 (nI d) Q L M2 (nI (f w) - nI 1) (nI z1) (nI w) := fun M2 k2 q => by
        unfold bX11_rarest_115
        intro v ev
        refine hL _ ⟨?_, k2⟩
        rw [ev, q, ← ez1]
        exact congrArg (fun z => (nI (f w) - nI 1, nI z1, z)) hadd
      have h109 : ∀ M2, Kp kL N M2 → f (w + 1) = w + 1 → bX11_rarest_109 (nI d) Q L M2 (nI w) (nI (rare (tD S) w)) := fun M2 k2 q => by
        unfold bX11_rarest_109 bX11_rarest_115
        intro v ev
        refine hL _ ⟨?_, k2⟩
        rw [ev, q, if_neg (Nat.succ_ne_zero w), sbs]
        exact congrArg (fun z => (nI w, nI (rare (tD S) w), z)) hadd
      unfold bX11_rarest_36
      dsimp only
      rw [h1.2.2.2.2.2.2.1.1]
      refine ⟨fun c => absurd c (by rw [leI (by omega) (by omega)]; omega), fun _ => ⟨(vpI (by omega)).mpr (by omega), (vpI (by omega)).mpr (by omega), ?_⟩⟩
      rw [tnI (by omega), tnI (by omega), hC1.cn]
      by_cases q0 : cnt (tD S) w d = 0
      · rw [if_pos q0] at hs
        refine ⟨fun c => absurd (by rw [q0]; rfl) c, fun _ => ?_⟩
        unfold bX11_rarest_69
        refine ⟨fun _ => h115 M1 k1 hs, fun _ => ⟨fun _ => h115 M1 k1 hs, fun c => absurd rfl c⟩⟩
      · rw [if_neg q0] at hs
        have hr1 := rare_1 d1 d2 q0
        refine ⟨fun _ => ?_, fun c => absurd ((eqI (b := 0) (by omega) (by omega)).mp c) q0⟩
        refine mrare hC1 hD (by omega) (fun M2 k2 _ => ?_)
        have h2 := h1.v k2 mLS
        have hC2 := h2.2.2.2.2.2.1
        have k12 := k1.tr k2
        unfold bX11_rarest_69
        rw [ltI (by omega) (by omega), eqI (by omega) (by omega)]
        by_cases q3 : f w = 0
        · rw [if_pos (Or.inl q3)] at hs
          rw [if_pos q3] at ez1
          exact ⟨fun c => absurd c (by omega), fun _ => ⟨fun c => absurd ((eqI (b := 0) (by omega) (by omega)).mp c) (by omega), fun _ => ⟨fun _ => h109 M2 k12 hs, fun c => absurd c (by omega)⟩⟩⟩
        · rw [if_neg q3] at ez1
          obtain ⟨c, ec⟩ : ∃ c, f w = c + 1 := ⟨f w - 1, by omega⟩
          have ec2 : nI (f w) - nI 1 = nI c := by rw [ec, sbs]
          have ec3 : f w - 1 = c := by omega
          have hf1 := hf1 q3
          rw [ec3] at hs ez1 hf1
          have hcc := hD.cn c d
          have hcr := rare_1 (w := c) d1 d2 hf1
          by_cases q4 : rare (tD S) c < rare (tD S) w
          · rw [if_pos (Or.inr (Or.inl q4))] at hs
            exact ⟨fun c => absurd c (by omega), fun _ => ⟨fun c => absurd ((eqI (b := 0) (by omega) (by omega)).mp c) (by omega), fun _ => ⟨fun _ => h109 M2 k12 hs, fun c => absurd c (by omega)⟩⟩⟩
          · by_cases q5 : rare (tD S) w = rare (tD S) c
            · have key : (vp_in (nI w) 256 ∧ vp_in (nI d) 64 ∧ vp_in (nI (f w) - nI 1) 256 ∧ ((M2.1 6217 (tn (nI (f w) - nI 1)) (tn (nI d)) < M2.1 6217 (tn (nI w)) (tn (nI d)) → bX11_rarest_109 (nI d) Q L M2 (nI w) (nI (rare (tD S) w))) ∧ (¬ M2.1 6217 (tn (nI (f w) - nI 1)) (tn (nI d)) < M2.1 6217 (tn (nI w)) (tn (nI d)) → bX11_rarest_115 (nI d) Q L M2 (nI (f w) - nI 1) (nI z1) (nI w)))) := by
                refine ⟨(vpI (by omega)).mpr (by omega), (vpI (by omega)).mpr (by omega), by rw [ec2]; exact (vpI (by omega)).mpr (by omega), ?_⟩
                rw [show tn (nI (f w) - nI 1) = c by rw [ec2, tnI (by omega)], tnI (by omega), tnI (by omega), hC2.cn, hC2.cn, ltI (by omega) (by omega)]
                by_cases q6 : cnt (tD S) c d < cnt (tD S) w d
                · rw [if_pos (Or.inr (Or.inr ⟨q5, q6⟩))] at hs
                  exact ⟨fun _ => h109 M2 k12 hs, fun z => absurd q6 z⟩
                · rw [if_neg (show ¬ (f w = 0 ∨ rare (tD S) c < rare (tD S) w ∨ (rare (tD S) w = rare (tD S) c ∧ cnt (tD S) c d < cnt (tD S) w d)) from fun z => z.elim q3 (fun z => z.elim q4 (fun z => q6 z.2)))] at hs
                  exact ⟨fun z => absurd z q6, fun _ => h115 M2 k12 hs⟩
              exact ⟨fun z => absurd z (by omega), fun _ => ⟨fun z => absurd ((eqI (b := 0) (by omega) (by omega)).mp z) (by omega), fun _ => ⟨fun z => absurd (by omega) z, fun _ => key⟩⟩⟩
            · rw [if_neg (show ¬ (f w = 0 ∨ rare (tD S) c < rare (tD S) w ∨ (rare (tD S) w = rare (tD S) c ∧ cnt (tD S) c d < cnt (tD S) w d)) from fun z => z.elim q3 (fun z => z.elim q4 (fun z => q5 z.1)))] at hs
              exact ⟨fun _ => h115 M2 k12 hs, fun z => absurd (by omega) z⟩
    · rintro ⟨M1, v⟩ L ⟨rfl, k1⟩
      have h1 := hN.v k1 mLS
      have hk2 := k.ok (k0.tr (k1.wk mLR)) h1 ((k1.g rfl 0).trans h0)
      unfold bX11_rarest_36
      dsimp only
      rw [h1.2.2.2.2.2.2.1.1]
      exact ⟨fun _ => hk2, fun c => absurd (Int32.le_refl _) c⟩
  · rw [ed] at k
    first | refine s0a ?_ | refine s0b ?_
    refine mbadN hN h0 k0 k (fun M' hb => ?_)
    first | refine s1a ?_ | refine s1b ?_
    exact hb _
