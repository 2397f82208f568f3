/-! PURE: the class reads a question, to its end -/
theorem cisD {M : Mem} {o : Option Nat} (ho : ∀ c, o = some c → c < 256) {Q : Int32 → Mem → Prop} (hQ : Q (nI (b1 (isD (o.getD 0)))) M) : pX7_isDigit M (oI o) Q := by
  unfold pX7_isDigit
  cases o with
  | none => exact ⟨fun _ => hQ, fun c => absurd (show (oI none : Int32) < 49 by decide) c⟩
  | some c =>
    have hc := ho c rfl
    have l1 : nI c < (49 : Int32) ↔ c < 49 := ltI (b := 49) (by omega) (by omega)
    have l2 : (57 : Int32) < nI c ↔ 57 < c := ltI (a := 57) (by omega) (by omega)
    have hQ : Q (nI (b1 (isD c))) M := hQ
    show (nI c < 49 → _) ∧ (¬ nI c < 49 → _)
    rw [l1]
    by_cases e : 49 ≤ c ∧ c ≤ 57
    · rw [isD_iff.mpr e] at hQ
      refine ⟨fun q => absurd q (by omega), fun _ => ?_⟩
      show (57 < nI c → _) ∧ (¬ 57 < nI c → _)
      rw [l2]
      exact ⟨fun q => absurd q (by omega), fun _ => hQ⟩
    · have ef : isD c = false := by
        cases q : isD c
        · rfl
        · exact absurd (isD_iff.mp q) e
      rw [ef] at hQ
      refine ⟨fun _ => hQ, fun q => ?_⟩
      show (57 < nI c → _) ∧ (¬ 57 < nI c → _)
      rw [l2]
      exact ⟨fun _ => hQ, fun q2 => absurd (by omega) e⟩
theorem isD_f {c : Nat} (h : ¬ isD c = true) : isD c = false := by
  cases q : isD c
  · rfl
  · exact absurd q h
theorem isLo_f {o : Option Nat} (h : ¬ isLo o = true) : isLo o = false := by
  cases q : isLo o
  · rfl
  · exact absurd q h
theorem isLo_s {o : Option Nat} (h : isLo o = true) : ∃ c, o = some c ∧ isL c = true := by
  cases o with
  | none => cases h
  | some c => exact ⟨c, rfl, h⟩
theorem isD_s {o : Option Nat} (h : isD (o.getD 0) = true) : ∃ c, o = some c ∧ 49 ≤ c ∧ c ≤ 57 := by
  cases o with
  | none => exact absurd h (by decide)
  | some c => exact ⟨c, rfl, isD_iff.mp h⟩
theorem KV_w {K : Qc} {kn a g x f : Nat} (h : KV K kn a g x f) (hk : kn ≤ 255) : ∀ i, i < sN K → sW K i < 255 := fun i hi => by have := (h.2.1 i hi).1; omega
theorem owd_255 {W : List Wd} {l : Wd} (hk : W.length ≤ 255) : ∀ w, owd W l = some w → w < 255 := fun w h => by have := owd_lt h; omega
theorem cstep {W : List Wd} {s : Qd} {i : Nat} {M0 M : Mem} {o : Option Nat} (hW : Kw W) (hC : CQd W s M0 M) (hI : QI W s) (hf : eF s = 0) (ho : ∀ c, o = some c → c < 256) {Q : Int32 → Mem → Prop} (h0 : eF (stQ W s i o) = 0 → ∀ M', CQd W (stQ W s i o) M0 M' → Q (nI 0) M') (h1 : eF (stQ W s i o) ≠ 0 → ∀ M', Kp pQr M0 M' → CWr W M' → Q (nI (eF (stQ W s i o))) M') : pX7_step M (oI o) Q := by
  obtain ⟨k0, hw, hK, h3, h4, h5⟩ := id hC
  have hkn := hW.1
  unfold stQ at h0 h1
  rw [if_neg (nn0 hf)] at h0 h1
  unfold pX7_step
  rcases hI hf with ⟨m, a⟩ | ⟨m, a, b⟩ | ⟨m, a, b, c⟩ | ⟨m, a, b, c⟩ | ⟨m, a⟩ | ⟨m, a⟩ | ⟨m, a, c⟩
  · rw [if_neg (by omega), if_neg (by omega), if_neg (by omega), if_neg (by omega), if_neg (by omega), if_neg (by omega)] at h0 h1
    rw [h3, m]
    try simp (disch := omega) only [li, nO_n, adI, mlI, tnI, vpI, ltI, leI, eqI, forall_eq, leT, leF, ltT, ltF, eqT, eqF, true_and, and_true, false_implies, true_implies, forall_const, not_true_eq_false, not_false_eq_true, implies_true]
    exact cbtw k0 hw hkn hK h3 hf ho m a h0 h1
  · rw [if_pos m] at h0 h1
    have e4 := h4 (Or.inl m)
    rw [h3, m]
    try simp (disch := omega) only [li, nO_n, adI, mlI, tnI, vpI, ltI, leI, eqI, forall_eq, leT, leF, ltT, ltF, eqT, eqF, true_and, and_true, false_implies, true_implies, forall_const, not_true_eq_false, not_false_eq_true, implies_true]
    refine cbeginWord ho (fun e M' k' a3 a4 a5 a6 => ?_) (fun e => ?_)
    · rw [if_pos e] at h0
      exact h0 rfl _ ⟨k0.tr (k'.wk pQr_8), hw.w8 k', CK1.w8 hK k', a3, fun _ => a4.trans e4, fun _ => ⟨a6, a5⟩⟩
    · rw [if_neg (show ¬ isLo o = true by rw [e]; decide)] at h1
      exact h1 (by show (1 : Nat) ≠ 0; decide) M k0 hw
  · rw [if_neg (by omega), if_pos m] at h0 h1
    have e4 := h4 (Or.inr (Or.inl m))
    obtain ⟨e6, e5⟩ := h5 (Or.inl m)
    rw [h3, m]
    try simp (disch := omega) only [li, nO_n, adI, mlI, tnI, vpI, ltI, leI, eqI, forall_eq, leT, leF, ltT, ltF, eqT, eqF, true_and, and_true, false_implies, true_implies, forall_const, not_true_eq_false, not_false_eq_true, implies_true]
    refine cisLo (fun c e => by have := ho c e; omega) ?_
    by_cases e : isLo o = true
    · rw [if_pos e] at h0 h1
      rw [e]
      refine s1b ?_
      obtain ⟨x, rfl, hx⟩ := isLo_s e
      unfold ltr at h0 h1
      refine cspellOn hx e5 e6 c.2.2 (fun e8 => ?_) (fun e8 => ?_)
      · rw [if_pos e8] at h0
        refine h0 rfl _ ⟨(k0.u1 rfl).u2 rfl, hw.w8 ((Kp.rf.u1 rfl).u2 rfl), CK1.w8 hK ((Kp.rf.u1 rfl).u2 rfl), ?_, fun _ => ?_, fun _ => ⟨up2_eq, ?_⟩⟩
        · rw [up2_1, up1_ne (by simp)]; exact h3
        · rw [up2_1, up1_ne (by simp)]; exact e4
        · rw [up2_1, up1_eq]; rfl
      · rw [if_neg e8] at h1
        exact h1 (by show (1 : Nat) ≠ 0; decide) M k0 hw
    · rw [if_neg e] at h0 h1
      rw [isLo_f e]
      refine s0b ?_
      have hc : clQ W s = (0, 0, 0, 0, [], if eA s = 45 then kRef (eK s) (owd W (eL s)) else kWant (eK s) (owd W (eL s)) 1 (eA s == 43)) := by unfold clQ; rw [if_pos m]
      have l45 : nI (eA s) = (45 : Int32) ↔ eA s = 45 := eqI (b := 45) (by omega) (by omega)
      have l43 : nI (eA s) = (43 : Int32) ↔ eA s = 43 := eqI (b := 43) (by omega) (by omega)
      have l94 : oI o = (94 : Int32) ↔ o = some 94 := oI_n (fun c e => by have := ho c e; omega) (k := 94) (by omega)
      have hew : ∀ Q' : Int32 → Mem → Prop, (∀ M5, pX7_stepBetween M5 (oI o) Q → Q' 1 M5) → (∀ M5, Q (nI 0) M5 → Q' 0 M5) → pX7_endWord M (oI o) Q' := by
        intro Q' g1 g0
        have hend : ¬ (eA s ≠ 45 ∧ o = some 94) → ∀ (K' : Qc) (M4 : Mem), (0, 0, 0, 0, [], K') = clQ W s → Q0 W.length K' → Kp pQk M M4 → CK K' 1 M4 → bX7_endWord_77 (oI o) Q' M4 := fun hne K' M4 eK' hq0 k4 hK4 => by
          rw [if_neg hne, ← eK'] at h0 h1
          unfold bX7_endWord_77
          intro M15 e15
          have hk : Kp k80 M4 M15 := by rw [e15]; exact Kp.rf.u1 rfl
          exact g1 M15 (cbtw (s := (0, 0, 0, 0, [], K')) (k0.tr ((k4.wk pQr_k).tr (hk.wk pQr_8))) ((hw.wk k4).w8 hk) hkn (CK1.w8 hK4 hk) (by rw [e15, up1_eq]; rfl) rfl ho rfl hq0 h0 h1)
        have h22 : ¬ (eA s ≠ 45 ∧ o = some 94) → bX7_endWord_22 (oI o) Q' M := fun hne => by
          unfold bX7_endWord_22
          rw [e6]
          refine cnumberOf hw hW c.1 c.2.2 ?_
          rw [whI_o, e4, l45, l43]
          have hsn : sN (eK s) < 24 := by have := a.2.2.2.1.1; have := a.1; omega
          refine ⟨fun e45 => ⟨fun e43 => ?_, fun e43 => ?_⟩, fun e45 => ?_⟩
          · have em : (eA s == 43) = false := beq_eq_false_iff_ne.mpr e43
            refine cwant (y := 1) (m := false) hK (owd_255 hkn) (KV_w a.2.2.2.1 hkn) hsn (fun M4 k4 hK4 => ?_)
            exact hend hne _ M4 (by rw [hc, if_neg e45, em]) (Q0_want a owd_k (by omega)) k4 hK4
          · have em : (eA s == 43) = true := beq_iff_eq.mpr e43
            refine cwant (y := 1) (m := true) hK (owd_255 hkn) (KV_w a.2.2.2.1 hkn) hsn (fun M4 k4 hK4 => ?_)
            exact hend hne _ M4 (by rw [hc, if_neg e45, em]) (Q0_want a owd_k (by omega)) k4 hK4
          · refine crefuse hK (owd_255 hkn) (by have := a.2.2.2.1.2.2.2.1; have := a.1; omega) (fun M4 k4 hK4 => ?_)
            exact hend hne _ M4 (by rw [hc, if_pos e45]) (Q0_ref a owd_k) k4 hK4
        unfold pX7_endWord
        rw [e4, l45, l94]
        refine ⟨fun e45 => h22 (fun z => z.1 e45), fun e45 => ⟨fun e94 => h22 (fun z => e94 z.2), fun e94 => ?_⟩⟩
        rw [if_pos ⟨e45, e94⟩] at h0
        intro M10 e10
        have hk : Kp k80 M M10 := by rw [e10]; exact Kp.rf.u1 rfl
        exact g0 M10 (h0 rfl _ ⟨k0.tr (hk.wk pQr_8), hw.w8 hk, CK1.w8 hK hk, by rw [e10, up1_eq]; rfl, fun _ => by rw [e10, up1_ne (by simp)]; exact e4, fun _ => ⟨by rw [e10, up1_2]; exact e6, by rw [e10, up1_ne (by simp)]; exact e5⟩⟩)
      exact hew _ (fun M5 hb => ⟨fun q => absurd q (by decide), fun _ => hb⟩) (fun M5 hb => ⟨fun _ => hb, fun q => absurd rfl q⟩)
  · rw [if_neg (by omega), if_neg (by omega), if_pos m] at h0 h1
    have e4 := h4 (Or.inr (Or.inr m))
    obtain ⟨e6, e5⟩ := h5 (Or.inr (Or.inl m))
    rw [h3, m]
    try simp (disch := omega) only [li, nO_n, adI, mlI, tnI, vpI, ltI, leI, eqI, forall_eq, leT, leF, ltT, ltF, eqT, eqF, true_and, and_true, false_implies, true_implies, forall_const, not_true_eq_false, not_false_eq_true, implies_true]
    unfold pX7_readBoost
    refine cisD ho ?_
    by_cases e : isD (o.getD 0) = true
    · rw [if_pos e] at h0
      rw [e]
      refine s1a ?_
      obtain ⟨x, rfl, x1, x2⟩ := isD_s e
      have es : oI (some x) - 48 = nI (x - 48) := by show nI x - nI 48 = _; exact sbI (by omega)
      have l43 : nI (eA s) = (43 : Int32) ↔ eA s = 43 := eqI (b := 43) (by omega) (by omega)
      rw [e6]
      refine cnumberOf hw hW c.1 c.2.2 ?_
      rw [whI_o, e4, l43, es]
      have hsn : sN (eK s) < 24 := by have := a.2.2.2.1.1; have := a.1; omega
      have hend : ∀ (mm : Bool) (M4 : Mem), mm = (eA s == 43) → Kp pQk M M4 → CK (kWant (eK s) (owd W (eL s)) (x - 48) mm) 1 M4 → bX7_readBoost_45 (oI (some x)) Q M4 := fun mm M4 em k4 hK4 => by
        subst em
        unfold bX7_readBoost_45
        intro M11 e11
        have hk : Kp k80 M4 M11 := by rw [e11]; exact Kp.rf.u1 rfl
        refine h0 rfl _ ⟨k0.tr ((k4.wk pQr_k).tr (hk.wk pQr_8)), (hw.wk k4).w8 hk, CK1.w8 hK4 hk, by rw [e11, up1_eq]; rfl, fun q => ?_, fun q => ?_⟩
        · rcases q with q | q | q <;> exact absurd (show (0 : Nat) = _ from q) (by decide)
        · rcases q with q | q | q <;> exact absurd (show (0 : Nat) = _ from q) (by decide)
      refine ⟨fun e43 => ?_, fun e43 => ?_⟩
      · refine cwant (y := x - 48) (m := false) hK (owd_255 hkn) (KV_w a.2.2.2.1 hkn) hsn (fun M4 k4 hK4 => ?_)
        exact hend false M4 (beq_eq_false_iff_ne.mpr e43).symm k4 hK4
      · refine cwant (y := x - 48) (m := true) hK (owd_255 hkn) (KV_w a.2.2.2.1 hkn) hsn (fun M4 k4 hK4 => ?_)
        exact hend true M4 (beq_iff_eq.mpr e43).symm k4 hK4
    · rw [if_neg e] at h1
      rw [isD_f e]
      exact s0a (h1 (by show (1 : Nat) ≠ 0; decide) M k0 hw)
  · rw [if_neg (by omega), if_neg (by omega), if_neg (by omega), if_pos m] at h0 h1
    rw [h3, m]
    try simp (disch := omega) only [li, nO_n, adI, mlI, tnI, vpI, ltI, leI, eqI, forall_eq, leT, leF, ltT, ltF, eqT, eqF, true_and, and_true, false_implies, true_implies, forall_const, not_true_eq_false, not_false_eq_true, implies_true]
    unfold pX7_readReach
    refine cisD ho ?_
    by_cases e : isD (o.getD 0) = true
    · rw [if_pos e] at h0
      rw [e]
      refine s1a ?_
      obtain ⟨x, rfl, x1, x2⟩ := isD_s e
      have es : oI (some x) - 48 = nI (x - 48) := by show nI x - nI 48 = _; exact sbI (by omega)
      rw [es]
      intro M4 e4 M5 e5
      have k4 : Kp pQk M M4 := by rw [e4]; exact Kp.rf.u1 (pQk_n (by omega))
      have hK4 : CK (kRch (eK s) (x - 48)) 1 M4 := by rw [e4]; exact crch hK
      have hk : Kp k80 M4 M5 := by rw [e5]; exact Kp.rf.u1 rfl
      refine h0 rfl _ ⟨k0.tr ((k4.wk pQr_k).tr (hk.wk pQr_8)), (hw.wk k4).w8 hk, CK1.w8 hK4 hk, by rw [e5, up1_eq]; rfl, fun q => ?_, fun q => ?_⟩
      · rcases q with q | q | q <;> exact absurd (show (0 : Nat) = _ from q) (by decide)
      · rcases q with q | q | q <;> exact absurd (show (0 : Nat) = _ from q) (by decide)
    · rw [if_neg e] at h1
      rw [isD_f e]
      exact s0a (h1 (by show (1 : Nat) ≠ 0; decide) M k0 hw)
  · rw [if_neg (by omega), if_neg (by omega), if_neg (by omega), if_neg (by omega), if_pos m] at h0 h1
    rw [h3, m]
    try simp (disch := omega) only [li, nO_n, adI, mlI, tnI, vpI, ltI, leI, eqI, forall_eq, leT, leF, ltT, ltF, eqT, eqF, true_and, and_true, false_implies, true_implies, forall_const, not_true_eq_false, not_false_eq_true, implies_true]
    exact cphr k0 hw hkn hK h3 hf ho m a h0 h1
  · rw [if_neg (by omega), if_neg (by omega), if_neg (by omega), if_neg (by omega), if_neg (by omega), if_pos m] at h0 h1
    obtain ⟨e6, e5⟩ := h5 (Or.inr (Or.inr m))
    rw [h3, m]
    try simp (disch := omega) only [li, nO_n, adI, mlI, tnI, vpI, ltI, leI, eqI, forall_eq, leT, leF, ltT, ltF, eqT, eqF, true_and, and_true, false_implies, true_implies, forall_const, not_true_eq_false, not_false_eq_true, implies_true]
    refine cisLo (fun c e => by have := ho c e; omega) ?_
    by_cases e : isLo o = true
    · rw [if_pos e] at h0 h1
      rw [e]
      refine s1b ?_
      obtain ⟨x, rfl, hx⟩ := isLo_s e
      unfold ltr at h0 h1
      refine cspellOn hx e5 e6 c.2.2 (fun e8 => ?_) (fun e8 => ?_)
      · rw [if_pos e8] at h0
        refine h0 rfl _ ⟨(k0.u1 rfl).u2 rfl, hw.w8 ((Kp.rf.u1 rfl).u2 rfl), CK1.w8 hK ((Kp.rf.u1 rfl).u2 rfl), ?_, fun q => ?_, fun _ => ⟨up2_eq, ?_⟩⟩
        · rw [up2_1, up1_ne (by simp)]; exact h3
        · have q : eM s = 1 ∨ eM s = 2 ∨ eM s = 3 := q
          omega
        · rw [up2_1, up1_eq]; rfl
      · rw [if_neg e8] at h1
        exact h1 (by show (1 : Nat) ≠ 0; decide) M k0 hw
    · rw [if_neg e] at h0 h1
      rw [isLo_f e]
      refine s0b ?_
      have hc : clQ W s = (0, 0, 5, 0, [], kLen (eK s) (owd W (eL s))) := by unfold clQ; rw [if_neg (by omega), if_pos m]
      rw [hc] at h0 h1
      rw [e6]
      refine cnumberOf hw hW c.1 c.2.2 ?_
      rw [whI_o]
      obtain ⟨u1, u2, u3, u4, u5, u6, u7⟩ := id a
      refine clengthen hK (owd_255 hkn) (KV_w u4 hkn) (by have := u4.1; omega) u5 (by have := u4.2.2.2.2.2.1; omega) (by omega) (fun M4 k4 hK4 => ?_)
      have hfin : ∀ M5, M5 = up1 M4 803 0 0 5 → pX7_stepInPhrase M5 (oI o) Q := fun M5 e5' => by
        have hk : Kp k80 M4 M5 := by rw [e5']; exact Kp.rf.u1 rfl
        exact cphr (s := (0, 0, 5, 0, [], kLen (eK s) (owd W (eL s)))) (k0.tr ((k4.wk pQr_k).tr (hk.wk pQr_8))) ((hw.wk k4).w8 hk) hkn (CK1.w8 hK4 hk) (by rw [e5', up1_eq]; rfl) rfl ho rfl (Q5_len a owd_k).1 h0 h1
      first | exact hfin _ rfl | exact fun M5 e5' => hfin M5 e5'
/-- where a fault is -/
theorem PP_btw {i : Nat} {s : Qd} (o : Option Nat) (h : eF s = 0) : eF (btw s i o) ≠ 0 → eP (btw s i o) = i := by
  unfold btw
  cases o with
  | none => dsimp only; split <;> intro q <;> first | exact absurd h q | rfl
  | some c => dsimp only; repeat' split
              all_goals (intro q; first | exact absurd h q | exact absurd rfl q | rfl)
theorem PP_phr {i : Nat} {s : Qd} (o : Option Nat) (h : eF s = 0) : eF (phr s i o) ≠ 0 → eP (phr s i o) = i := by
  unfold phr
  cases o with
  | none => exact fun _ => rfl
  | some c => dsimp only; repeat' split
              all_goals (intro q; first | exact absurd h q | exact absurd rfl q | rfl)
theorem PP_st {i : Nat} {W : List Wd} {s : Qd} (h0 : eF s = 0) (o : Option Nat) : eF (stQ W s i o) ≠ 0 → eP (stQ W s i o) = i := by
  have hc := clQ_F (W := W) h0
  unfold stQ
  rw [if_neg (nn0 h0)]
  unfold ltr
  repeat' split
  all_goals (first | exact PP_btw o hc | exact PP_btw o h0 | exact PP_phr o hc | exact PP_phr o h0 | exact fun q => absurd rfl q | exact fun _ => rfl)
theorem end_mode {i : Nat} {W : List Wd} {s : Qd} (hI : QI W s) (h0 : eF s = 0) (hf : eF (stQ W s i none) = 0) : eM (stQ W s i none) = 0 := by
  have hb : ∀ s' : Qd, eM s' = 0 → eF (btw s' i none) = 0 → eM (btw s' i none) = 0 := fun s' hm hf' => by
    unfold btw at hf' ⊢
    dsimp only at hf' ⊢
    by_cases e : qP (eK s') = 0
    · rw [if_pos e] at hf'; exact absurd hf' (by show ¬ (1 : Nat) = 0; decide)
    · rw [if_neg e]; exact hm
  have n1 : ∀ (s' : Qd) (f : Nat), f ≠ 0 → eF (flt s' f i) = 0 → eM (flt s' f i) = 0 := fun s' f h1 h2 => absurd h2 h1
  unfold stQ at hf ⊢
  rw [if_neg (nn0 h0)] at hf ⊢
  rcases hI h0 with ⟨m, a⟩ | ⟨m, a, b⟩ | ⟨m, a, b, c⟩ | ⟨m, a, b, c⟩ | ⟨m, a⟩ | ⟨m, a⟩ | ⟨m, a, c⟩
  · rw [if_neg (by omega), if_neg (by omega), if_neg (by omega), if_neg (by omega), if_neg (by omega), if_neg (by omega)] at hf ⊢
    exact hb s m hf
  · rw [if_pos m, if_neg (by decide)] at hf
    exact absurd hf (by show ¬ (1 : Nat) = 0; decide)
  · rw [if_neg (by omega), if_pos m, if_neg (by decide), if_neg (show ¬ (eA s ≠ 45 ∧ (none : Option Nat) = some 94) from fun z => by cases z.2)] at hf ⊢
    refine hb _ ?_ hf
    unfold clQ
    rw [if_pos m]; rfl
  · rw [if_neg (by omega), if_neg (by omega), if_pos m, if_neg (by decide)] at hf
    exact absurd hf (by show ¬ (1 : Nat) = 0; decide)
  · rw [if_neg (by omega), if_neg (by omega), if_neg (by omega), if_pos m, if_neg (by decide)] at hf
    exact absurd hf (by show ¬ (1 : Nat) = 0; decide)
  · rw [if_neg (by omega), if_neg (by omega), if_neg (by omega), if_neg (by omega), if_pos m] at hf
    exact absurd hf (by show ¬ (1 : Nat) = 0; decide)
  · rw [if_neg (by omega), if_neg (by omega), if_neg (by omega), if_neg (by omega), if_neg (by omega), if_pos m, if_neg (by decide)] at hf
    exact absurd hf (by show ¬ (1 : Nat) = 0; decide)
theorem Q0_QW {kn : Nat} {K : Qc} (h : Q0 kn K) : QW K kn := by
  obtain ⟨h1, h2, ⟨a1, a2, a3, a4, a5, a6, a7⟩, h4⟩ := h
  exact ⟨by omega, h2, by omega, by omega, fun i hi => ⟨(a2 i hi).1, by have := (a2 i hi).2; omega⟩, a3, a5, fun j hj => ⟨by have := h4 j hj; omega, (h4 j hj).2⟩, a7⟩
theorem fqR_W {t : Nat → Nat} {n : Nat} {W : List Wd} (hf : eF (fqR t n W) = 0) : QW (eK (fqR t n W)) W.length ∧ sN (eK (fqR t n W)) ≤ 24 := by
  have h0 : eF (rdQ t n W n) = 0 := by
    by_cases e : eF (rdQ t n W n) = 0
    · exact e
    · rw [fqR_f (i := n) (by omega) e] at hf; exact absurd hf e
  have en : bt t n n = none := by unfold bt; rw [if_neg (Nat.lt_irrefl n)]
  have e1 : fqR t n W = stQ W (rdQ t n W n) n none := by show stQ W (rdQ t n W n) n (bt t n n) = _; rw [en]
  have hm := end_mode (i := n) (rdQ_I t n W n) h0 (by rw [← e1]; exact hf)
  rw [← e1] at hm
  have hI : QI W (fqR t n W) := rdQ_I t n W (n + 1)
  rcases hI hf with ⟨m, a⟩ | ⟨m, -⟩ | ⟨m, -⟩ | ⟨m, -⟩ | ⟨m, -⟩ | ⟨m, -⟩ | ⟨m, -⟩
  · have := Q0_QW a
    exact ⟨this, this.1⟩
  all_goals (rw [hm] at m; exact absurd m (by decide))
theorem bt_256 {t : Nat → Nat} (ht : ∀ k, t k < 256) {n i : Nat} : ∀ c, bt t n i = some c → c < 256 := by
  intro c hc
  unfold bt at hc
  by_cases e : i < n
  · rw [if_pos e] at hc; have := ht i; cases hc; exact this
  · rw [if_neg e] at hc; cases hc
theorem cqread {W : List Wd} {t : Nat → Nat} {n : Nat} {M : Mem} (h : CWr W M) (hW : Kw W) (hn : n ≤ 300) (ht : ∀ k, k < n → M.1 1100 0 k = nI (t k)) (ht2 : ∀ k, t k < 256) {Q : Int32 → Mem → Prop} (h0 : eF (fqR t n W) = 0 → ∀ M', Kp pQr M M' → CWr W M' → CK (eK (fqR t n W)) 1 M' → M'.1 802 0 0 = nO → Q (nI 0) M') (h1 : eF (fqR t n W) ≠ 0 → ∀ M', Kp pQr M M' → CWr W M' → M'.1 802 0 0 = nI (eP (fqR t n W)) → Q (nI (eF (fqR t n W))) M') : pX7_read M (nI n) Q := by
  unfold pX7_read pX6_clear
  intro M1 e1 M2 e2 M3 e3 M4 e4 M5 e5 M6 e6 M7 e7
  have k7 : Kp pQr M M7 := by
    subst e1 e2 e3 e4 e5 e6 e7
    exact ((((((Kp.rf.u1 rfl).u1 rfl).u1 rfl).u1 rfl).u1 rfl).u1 rfl).u1 rfl
  have hK7 : CK K00 1 M7 := by
    subst e1 e2 e3 e4 e5 e6 e7
    refine ⟨?_, ?_, ?_, ?_, ?_, ?_, fun k hk => absurd hk (Nat.not_lt_zero _), fun k hk => absurd hk (Nat.not_lt_zero _), fun k hk => absurd hk (Nat.not_lt_zero _), fun j k hj => absurd hj (Nat.not_lt_zero _)⟩
    · rw [up1_ne (by simp), up1_ne (by simp), up1_ne (by simp), up1_ne (by simp), up1_ne (by simp), up1_ne (by simp), up1_eq]; rfl
    · rw [up1_ne (by simp), up1_ne (by simp), up1_ne (by simp), up1_ne (by simp), up1_ne (by simp), up1_eq]; rfl
    · rw [up1_ne (by simp), up1_ne (by simp), up1_ne (by simp), up1_ne (by simp), up1_eq]; rfl
    · rw [up1_ne (by simp), up1_ne (by simp), up1_ne (by simp), up1_eq]; rfl
    · rw [up1_ne (by simp), up1_ne (by simp), up1_eq]; rfl
    · rw [up1_ne (by simp), up1_eq]; rfl
  have hw7 : CWr W M7 := h.kp k7 rfl rfl
  have e803 : M7.1 803 0 0 = nI 0 := by rw [e7, up1_eq]; rfl
  clear e1 e2 e3 e4 e5 e6 e7
  refine lp_up (fun i s => eF (rdQ t n W i) = 0 ∧ s.2 = nI i ∧ CQd W (rdQ t n W i) M s.1) (Nat.zero_le (n + 1)) ⟨rfl, rfl, k7, hw7, hK7, e803, fun q => ?_, fun q => ?_⟩ ?_ ?_
  · rcases q with q | q | q <;> exact absurd (show (0 : Nat) = _ from q) (by decide)
  · rcases q with q | q | q <;> exact absurd (show (0 : Nat) = _ from q) (by decide)
  · rintro i ⟨m, y⟩ L - hi ⟨hf, ey, hC⟩ hL
    dsimp only at ey hC
    subst ey
    have hadd := adI i 1
    have hst : rdQ t n W (i + 1) = stQ W (rdQ t n W i) i (bt t n i) := rfl
    have hstep : pX7_step m (oI (bt t n i)) (fun r M8 => bX7_read_37 (nI n) Q L M8 (nI i) r) := by
      refine cstep (i := i) hW hC (rdQ_I t n W i) hf (bt_256 ht2) (fun q M' hC' => ?_) (fun q M' m1 m2 => ?_)
      · rw [← hst] at q hC'
        unfold bX7_read_37
        refine ⟨fun _ v13 e13 => hL _ ⟨q, by rw [e13]; exact hadd, hC'⟩, fun c => absurd rfl c⟩
      · rw [← hst] at q ⊢
        have hP := rdQ_P t n W (i + 1) (by omega) q
        have hp : eP (rdQ t n W (i + 1)) = i := PP_st hf _ q
        have ef := fqR_f (show i + 1 ≤ n + 1 by omega) q
        rw [ef, hp] at h1
        unfold bX7_read_37
        refine ⟨fun c => absurd ((eqI (b := 0) (by omega) (by omega)).mp c) q, fun _ M14 e14 => ?_⟩
        subst e14
        exact h1 q _ (m1.u1 rfl) (m2.w8 (Kp.rf.u1 rfl)) up1_eq
    unfold bX7_read_14
    dsimp only
    refine ⟨fun c => absurd c (by rw [ltI (by omega) (by omega)]; omega), fun _ => ?_⟩
    by_cases h3 : i < n
    · have eb : bt t n i = some (t i) := by unfold bt; rw [if_pos h3]
      rw [eb] at hstep
      have e0 : m.1 1100 0 i = nI (t i) := (hC.1.g rfl i).trans (ht i h3)
      refine ⟨fun c => absurd c (by rw [leI (by omega) (by omega)]; omega), fun _ => ⟨(vpI (by omega)).mpr (by omega), ?_⟩⟩
      rw [tnI (by omega), e0]
      exact hstep
    · have eb : bt t n i = none := by unfold bt; rw [if_neg h3]
      rw [eb] at hstep
      exact ⟨fun _ => hstep, fun c => absurd (by rw [leI (by omega) (by omega)]; omega) c⟩
  · rintro ⟨m, y⟩ L ⟨hf, ey, hC⟩
    dsimp only at ey hC
    subst ey
    unfold bX7_read_14
    dsimp only
    refine ⟨fun _ M5' e5' => ?_, fun c => absurd (by rw [ltI (by omega) (by omega)]; omega) c⟩
    subst e5'
    exact h0 hf _ (hC.1.u1 rfl) (hC.2.1.w8 (Kp.rf.u1 rfl)) (CK1.w8 hC.2.2.1 (Kp.rf.u1 rfl)) (by rw [up1_eq]; rfl)
