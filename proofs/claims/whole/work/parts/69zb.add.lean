/-! PURE: operations: add, find -/
def addS (S : St) (T : List Nat) (W : List Wd) : St := (0, tB S, nO, dE (tD S) T, W, tK S, tZ S, t0 S, t1 S)
def oAdd (S : St) (x : Int32) : Rs := match ixr x 0 (tN S + 1) with
  | none => rfs S 2
  | some n => if (tD S).length < 64 then (if rF (fdR (tB S) n (tW S)) = 0 then (addS S (rT (fdR (tB S) n (tW S))) (rW (fdR (tB S) n (tW S))), 0, nI (tD S).length) else (setT S 0 (tB S) (nI (rP (fdR (tB S) n (tW S)))), 0, nI (rF (fdR (tB S) n (tW S))) - nI 10)) else rfs S 2
theorem QW_mono {K : Qc} {kn kn' : Nat} (h : QW K kn) (hk : kn ≤ kn') : QW K kn' := by
  obtain ⟨a1, a2, a3, a4, a5, a6, a7, a8, a9⟩ := h
  exact ⟨a1, a2, a3, a4, fun i hi => ⟨by have := (a5 i hi).1; omega, (a5 i hi).2⟩, a6, fun i hi => by have := a7 i hi; omega, a8, fun j k w hw => by have := a9 j k w hw; omega⟩
theorem SW_add {S : St} (hS : SW S) {n : Nat} (hd : (tD S).length < 64) (hf : rF (fdR (tB S) n (tW S)) = 0) : SW (addS S (rT (fdR (tB S) n (tW S))) (rW (fdR (tB S) n (tW S)))) := by
  obtain ⟨s1, s2, hD, hW, hK, s5, s6, s7⟩ := id hS
  obtain ⟨g1, ⟨e, g2⟩, g3, g4, g5⟩ := fdR_I hW hf
  have hlen : (tW S).length ≤ (rW (fdR (tB S) n (tW S))).length := by rw [g2, List.length_append]; omega
  refine ⟨Nat.zero_le _, s2, DW_E hD hlen g1.1 hd g3 g4 g5, g1, QW_mono hK hlen, s5, s6, fun _ => ?_⟩
  have := g5 _ (getD_mem g3)
  show 0 < (rW (fdR (tB S) n (tW S))).length
  omega
def pAc (c i : Nat) : Bool := decide (c = 1100 ∨ c = 1103 ∨ c = 1104 ∨ c = 507 ∨ (699 < c ∧ c < 712 ∧ i = 0) ∨ c = 5710 ∨ (1200 ≤ c ∧ c < 1300) ∨ (6000 ≤ c ∧ c < 9000))
def pAd (c i : Nat) : Bool := pAc c i || decide ((500 < c ∧ c < 513) ∨ (5500 < c ∧ c < 5511))
theorem pAc_R (c i : Nat) (h : pRf c i = true) : pAc c i = true := by unfold pRf at h; unfold pAc; simp at h ⊢; omega
theorem pAc_K (c i : Nat) (h : pCK c i = true) : pAc c i = true := by unfold pCK at h; unfold pAc; simp at h ⊢; omega
theorem pAc_S (c i : Nat) (h : pAc c i = true) : pSv c i = true := by unfold pAc at h; unfold pSv; simp at h ⊢; omega
theorem pAc_d (c i : Nat) (h : pAc c i = true) : pAd c i = true := by unfold pAd; rw [h]; rfl
theorem pAd_r (c i : Nat) (h : pAd c i = true) : pDr c i = true := by unfold pAd pAc at h; unfold pDr; simp at h ⊢; omega
theorem pAd_D (c i : Nat) (h : pCD c i = true) : pAd c i = true := by unfold pCD at h; unfold pAd pAc; simp at h ⊢; omega
theorem c_add {S : St} {M : Mem} (h : CI S M) (hS : SW S) {Q : Int32 → Mem → Prop} {K : String → Mem → Prop} (x : Int32) (k : CE (oAdd S x) M Q K) : pX10_add M x Q K := by
  obtain ⟨s1, s2, hD, hW, hK, s5, s6, s7⟩ := id hS
  obtain ⟨i1, i2, i3, i4, i5, hC, hw, hq, hz⟩ := id h
  have hkn := hD.2.1
  have hdn := hD.1
  unfold oAdd at k
  unfold pX10_add
  refine cneed (lo := 0) (m := tN S) rfl i1 (by omega) (by omega) (fun n _ hn e en => ?_) (fun en => by rw [en] at k; exact k.no2 Kp.rf h)
  rw [en] at k
  dsimp only at k
  subst e
  rw [hC.n]
  have l64 : nI (tD S).length < (64 : Int32) ↔ (tD S).length < 64 := ltI (b := 64) (by omega) (by omega)
  rw [l64]
  by_cases hd : (tD S).length < 64
  · rw [if_pos hd] at k
    refine ⟨fun _ => ?_, fun c => absurd hd c⟩
    have k6 : Kp pAd M (up1 M 1101 0 0 0) := Kp.rf.u1 rfl
    have hP := fdR_P hW (t := tB S) (n := n)
    unfold bX10_add_26
    intro M6 e6
    subst e6
    refine cread (t := tB S) (n := n) (W := tW S) ⟨(up1_ne (by simp)).trans hw.1, hw.2⟩ hW (by omega) (fun j hj => (up1_ne (by simp)).trans (i2 j (by omega))) s2 (fun hf M8 k8 d1 d2 d3 d4 => ?_) (fun hf M8 k8 d1 d2 => ?_)
    · rw [if_pos hf] at k
      obtain ⟨g1, g2, g3, g4, g5⟩ := fdR_I hW hf
      have g1' := g1.1
      intro M9 e9
      rw [d1] at e9
      subst e9
      have k9 : Kp pAd M (up1 M8 1102 0 0 nO) := (k6.tr (k8.wk pAd_r)).u1 rfl
      refine ⟨fun _ => ?_, fun c => absurd rfl c⟩
      rw [up1_ne (by simp), d3]
      refine cshelve (hC.kp (k9.wk pAd_D)) hD hd g4 (fun w hw' => by have := g5 w hw'; omega) (fun j hj => (up1_ne (by simp)).trans (d4 j hj)) (fun M' k10 hC' => ?_)
      have kk : Kp pAc M M' := (k9.wk pAc_d).tr (k10.wk pAc_S)
      refine (k M' (kk.wk pAc_R) ⟨?_, fun j hj => absurd hj (Nat.not_lt_zero _), ?_, (kk.g rfl 0).trans i4, (kk.g rfl 0).trans i5, hC', ⟨?_, fun w hw' => ?_⟩, hq.kp (kk.wk pAc_K), (kk.g rfl 0).trans hz⟩).1 rfl
      · rw [k10.g rfl, up1_ne (by simp), k8.g rfl, up1_eq]; rfl
      · rw [k10.g rfl, up1_eq]; rfl
      · rw [k10.g rfl, up1_ne (by simp)]; exact d2.1
      · rw [k10.g2 rfl, up1_2]; exact d2.2 w hw'
    · rw [if_neg hf] at k
      have hx := hP hf
      intro M9 e9
      rw [d1] at e9
      subst e9
      have k9 : Kp pAd M (up1 M8 1102 0 0 (nI (rP (fdR (tB S) n (tW S))))) := (k6.tr (k8.wk pAd_r)).u1 rfl
      have kc : Kp pAc M (up1 M8 1102 0 0 (nI (rP (fdR (tB S) n (tW S))))) := k9.wk pAc_d
      refine ⟨fun c => absurd ((eqI (b := 0) (by omega) (by omega)).mp c) hf, fun _ => ?_⟩
      refine (k _ (kc.wk pAc_R) ⟨?_, fun j hj => absurd hj (Nat.not_lt_zero _), up1_eq, (kc.g rfl 0).trans i4, (kc.g rfl 0).trans i5, hC.kp (k9.wk pAd_D), ⟨?_, fun w hw' => ?_⟩, hq.kp (kc.wk pAc_K), (kc.g rfl 0).trans hz⟩).1 rfl
      · rw [up1_ne (by simp), k8.g rfl, up1_eq]; rfl
      · rw [up1_ne (by simp)]; exact d2.1
      · rw [up1_2]; exact d2.2 w hw'
  · rw [if_neg hd] at k
    refine ⟨fun c => absurd c hd, fun _ => ?_⟩
    unfold pX10_refuseArgument
    intro M1 e1
    subst e1
    exact k.no2 Kp.rf h
def kSt (c _ : Nat) : Bool := decide (c ≠ 1202 ∧ c ≠ 1203 ∧ c ≠ 1204 ∧ c ≠ 1206 ∧ c ≠ 1207)
theorem mstarts {M : Mem} {n : Int32} {Q : Mem → Prop} (hQ : ∀ M', Kp kSt M M' → M'.1 1202 0 0 = nI 0 → M'.1 1203 0 0 = n → M'.1 1204 0 0 = nI 0 → M'.1 1206 0 0 = nI 0 → M'.1 1207 0 0 = nO → Q M') : pX11_starts M n Q := by
  unfold pX11_starts
  intro M1 e1 M2 e2 M3 e3 M4 e4 M5 e5
  subst e1 e2 e3 e4 e5
  refine hQ _ (((((Kp.rf.u1 rfl).u1 rfl).u1 rfl).u1 rfl).u1 rfl) ?_ ?_ ?_ ?_ ?_
  · rw [up1_ne (by simp), up1_ne (by simp), up1_ne (by simp), up1_ne (by simp), up1_eq]; rfl
  · rw [up1_ne (by simp), up1_ne (by simp), up1_ne (by simp), up1_eq]
  · rw [up1_ne (by simp), up1_ne (by simp), up1_eq]; rfl
  · rw [up1_ne (by simp), up1_eq]; rfl
  · rw [up1_eq]; rfl
def pBm (c i : Nat) : Bool := decide (¬ ((1202 ≤ c ∧ c ≤ 1207) ∨ c = 1209 ∨ c = 1210 ∨ (1213 ≤ c ∧ c ≤ 1216) ∨ c = 1231 ∨ c = 1232 ∨ c = 6212 ∨ c = 6217))
theorem pBm_s (c i : Nat) (h : pBm c i = true) : kSt c i = true := by unfold pBm at h; unfold kSt; simp at h ⊢; omega
theorem pBm_a (c i : Nat) (h : pBm c i = true) : pMa c i = true := by unfold pBm at h; unfold pMa; simp at h ⊢; omega
theorem pBm_C (c i : Nat) (h : pCl c i = true) : pBm c i = true := by unfold pCl at h; unfold pBm; simp at h ⊢; omega
theorem pBm_K (c i : Nat) (h : pMK c i = true) : pBm c i = true := by unfold pMK at h; unfold pBm; simp at h ⊢; omega
theorem kSt_D (c i : Nat) (h : pMD c i = true) : kSt c i = true := by unfold pMD at h; unfold kSt; simp at h ⊢; omega
theorem m_add {S : St} {M : Mem} (h : MI S M) (hS : SW S) {Q : Int32 → Mem → Prop} (x : Int32) (k : ME (oAdd S x) 1 M Q) : pX11_add M x Q := by
  unfold pX11_add
  obtain ⟨s1, s2, hD, hW, hK, s5, s6, s7⟩ := id hS
  have hkn := hD.2.1
  have hdn := hD.1
  refine mstart h (fun N hN k0 h0 => ?_)
  obtain ⟨i1, i2, i3, i4, i5, hC, hw, hq, hz, hn⟩ := id hN
  unfold oAdd at k
  refine minR (lo := 0) (m := tN S) rfl i1 (by omega) (by omega) (fun n _ hn2 e en => ?_) (fun en => ?_)
  · rw [en] at k
    dsimp only at k
    subst e
    first | refine s1a ?_ | refine s1b ?_
    rw [hC.n]
    have l64 : nI (tD S).length = (64 : Int32) ↔ (tD S).length = 64 := eqI (b := 64) (by omega) (by omega)
    rw [l64]
    by_cases hd : (tD S).length < 64
    · rw [if_pos hd] at k
      refine ⟨fun _ => ?_, fun c => absurd c (by omega)⟩
      refine mbad0 h0 ?_
      first | refine s0a ?_ | refine s0b ?_
      refine mstarts (fun M0 k1 b2 b3 b4 b6 b7 => ?_)
      intro v10 e10
      rw [k1.g rfl, hw.1] at e10
      subst e10
      have hD0 := hC.kp (k1.wk kSt_D)
      have hT : MT (tB S) n M0 := ⟨b3, fun j hj => (k1.g rfl j).trans (i2 j (by omega)), by omega, s2⟩
      refine madd_all hD0 hD hT hW hd (fun hf M' k2 hD' hW' h5 => ?_) (fun hf M' k2 hD' hW' h5 => ?_) (hw.kp k1 rfl rfl rfl) b4 b6 b7
      · rw [if_pos hf] at k
        have kk : Kp pBm N M' := (k1.wk pBm_s).tr (k2.wk pBm_a)
        exact k M' _ (k0.tr (kk.wk pBm_C)) ⟨(k2.g rfl 0).trans b2, fun j hj => absurd hj (Nat.not_lt_zero _), h5, (kk.g rfl 0).trans i4, (kk.g rfl 1).trans i5, hD', hW', hq.kp (kk.wk pBm_K), (kk.g rfl 0).trans hz, (kk.g rfl 0).trans hn⟩ ((kk.g rfl 0).trans h0) (fun _ => rfl)
      · rw [if_neg hf] at k
        have kk : Kp pBm N M' := (k1.wk pBm_s).tr (k2.wk pBm_a)
        exact k M' _ (k0.tr (kk.wk pBm_C)) ⟨(k2.g rfl 0).trans b2, fun j hj => absurd hj (Nat.not_lt_zero _), h5, (kk.g rfl 0).trans i4, (kk.g rfl 1).trans i5, hD', hW', hq.kp (kk.wk pBm_K), (kk.g rfl 0).trans hz, (kk.g rfl 0).trans hn⟩ ((kk.g rfl 0).trans h0) (fun _ => rfl)
    · rw [if_neg hd] at k
      refine ⟨fun c => absurd (by omega) c, fun _ => ?_⟩
      refine mbadA rfl (Or.inl rfl) hN h0 k0 k (fun M' hb => ?_)
      first | refine s1a ?_ | refine s1b ?_
      exact hb _
  · rw [en] at k
    first | refine s0a ?_ | refine s0b ?_
    refine mbadA rfl (Or.inl rfl) hN h0 k0 k (fun M' hb => ?_)
    first | refine s1a ?_ | refine s1b ?_
    exact hb _
/-! find -/
def fnW (t : Nat → Nat) (n : Nat) : Wd := if n ≤ 8 ∧ wE t 0 n = n then wdr t 0 n else []
def oFind (S : St) (x : Int32) : Rs := match ixr x 0 (tN S + 1) with
  | none => rfs S 2
  | some n => (setT S 0 (tB S) (tP S), 0, whI (tW S) (fnW (tB S) n))
theorem whI_nil {W : List Wd} (hW : Kw W) : whI W [] = nO := by
  have : whP W [] = W.length := ffn_at (Nat.zero_le _) (Nat.le_refl _) (fun j _ j2 => by
    refine beq_eq_false_iff_ne.mpr (fun e => ?_)
    have h1 := (wD_ok hW j2).2.1
    rw [e] at h1
    exact absurd h1 (by decide)) (Or.inl rfl)
  unfold whI
  rw [if_pos this]
theorem fnW_ok {t : Nat → Nat} {n : Nat} : Wok (fnW t n) ∧ (fnW t n).length ≤ 8 := by
  unfold fnW
  by_cases e : n ≤ 8 ∧ wE t 0 n = n
  · rw [if_pos e]
    obtain ⟨w1, w2, w3, w4⟩ := wE_c (t := t) (Nat.zero_le n)
    exact ⟨wdr_ok (fun j hj => by rw [Nat.zero_add]; exact w3 j (Nat.zero_le _) (by omega)), by rw [wdr_len]; exact e.1⟩
  · rw [if_neg e]
    exact ⟨(fun x hx => by cases hx), Nat.zero_le _⟩
theorem cspellingOf {t : Nat → Nat} {n : Nat} {M : Mem} (hn : n ≤ 300) (ht : ∀ k, k < n → M.1 1100 0 k = nI (t k)) (ht2 : ∀ k, t k < 256) {Q : Int64 → Mem → Prop} (hQ : Q (nG (rb 32 (fnW t n))) M) : pX10_spellingOf M (nI n) Q := by
  obtain ⟨w1, w2, w3, w4⟩ := wE_c (t := t) (Nat.zero_le n)
  have l8 : nI n ≤ (8 : Int32) ↔ n ≤ 8 := leI (b := 8) (by omega) (by omega)
  unfold pX10_spellingOf
  rw [l8]
  unfold fnW at hQ
  by_cases e8 : n ≤ 8
  · refine ⟨fun _ => ?_, fun c => absurd e8 c⟩
    refine lp_up (fun i s => s = (M, nG (rb 32 (wdr t 0 i)), nI i)) (Nat.zero_le (wE t 0 n)) rfl ?_ ?_
    · rintro i s L - hi rfl hL
      have e1 := ht i (by omega)
      have hl := w3 i (Nat.zero_le _) hi
      have hadd := adI i 1
      unfold bX10_spellingOf_13
      dsimp only
      refine ⟨fun c => absurd c (by rw [leI (by omega) (by omega)]; omega), fun _ => ⟨(vpI (by omega)).mpr (by omega), ?_⟩⟩
      rw [tnI (by omega), e1]
      refine cisL (by have := ht2 i; omega) ?_
      rw [hl]
      refine s1a ?_
      rw [e1]
      refine cspell hl ?_
      intro v9 e9
      have e10 : (t i - 96) :: wdr t 0 i = wdr t 0 (i + 1) := by
        show _ = (t (0 + i) - 96) :: wdr t 0 i
        rw [Nat.zero_add]
      rw [e10, e9]
      exact hL _ (congrArg (fun z => (M, nG (rb 32 (wdr t 0 (i + 1))), z)) hadd)
    · rintro s L rfl
      unfold bX10_spellingOf_13
      dsimp only
      by_cases ew : wE t 0 n = n
      · rw [if_pos ⟨e8, ew⟩] at hQ
        rw [ew]
        exact ⟨fun _ => hQ, fun c => absurd (Int32.le_refl _) c⟩
      · rw [if_neg (show ¬ (n ≤ 8 ∧ wE t 0 n = n) from fun z => ew z.2)] at hQ
        have e1 := ht (wE t 0 n) (by omega)
        have hl : isL (t (wE t 0 n)) = false := by
          rcases w4 with w4 | w4
          · exact absurd w4 ew
          · exact w4
        refine ⟨fun c => absurd c (by rw [leI (by omega) (by omega)]; omega), fun _ => ⟨(vpI (by omega)).mpr (by omega), ?_⟩⟩
        rw [tnI (by omega), e1]
        refine cisL (by have := ht2 (wE t 0 n); omega) ?_
        rw [hl]
        exact s0a hQ
  · rw [if_neg (show ¬ (n ≤ 8 ∧ wE t 0 n = n) from fun z => e8 z.1)] at hQ
    exact ⟨fun c => absurd c e8, fun _ => hQ⟩
theorem c_find {S : St} {M : Mem} (h : CI S M) (hS : SW S) {Q : Int32 → Mem → Prop} {K : String → Mem → Prop} (x : Int32) (k : CE (oFind S x) M Q K) : pX10_find M x Q K := by
  obtain ⟨s1, s2, hD, hW, hK, s5, s6, s7⟩ := id hS
  obtain ⟨i1, i2, i3, i4, i5, hC, hw, hq, hz⟩ := id h
  have hkn := hD.2.1
  have hdn := hD.1
  unfold oFind at k
  unfold pX10_find
  refine cneed (lo := 0) (m := tN S) rfl i1 (by omega) (by omega) (fun n _ hn e en => ?_) (fun en => by rw [en] at k; exact k.no2 Kp.rf h)
  rw [en] at k
  dsimp only at k
  subst e
  intro M3 e3
  subst e3
  have hc := h.tape (M' := up1 M 1101 0 0 0) (n := 0) (t := tB S) (p := tP S) (Kp.rf.u1 rfl) up1_eq (fun j hj => absurd hj (Nat.not_lt_zero _)) ((up1_ne (by simp)).trans i3)
  obtain ⟨f1, f2⟩ := fnW_ok (t := tB S) (n := n)
  refine cspellingOf (t := tB S) (by omega) (fun j hj => (up1_ne (by simp)).trans (i2 j (by omega))) s2 ?_
  refine cnumberOf hc.2.2.2.2.2.2.1 hW f1 f2 ?_
  exact (k _ (Kp.rf.u1 rfl) hc).1 rfl
def pFm (c _ : Nat) : Bool := decide (c ≠ 1202 ∧ c ≠ 1203 ∧ c ≠ 1204 ∧ c ≠ 1206 ∧ c ≠ 1207 ∧ c ≠ 1231 ∧ c ≠ 1232)
theorem pFm_s (c i : Nat) (h : pFm c i = true) : kSt c i = true := by unfold pFm at h; unfold kSt; simp at h ⊢; omega
theorem pFm_w (c i : Nat) (h : pFm c i = true) : kWo c i = true := by unfold pFm at h; unfold kWo; simp at h ⊢; omega
theorem pFm_C (c i : Nat) (h : pCl c i = true) : pFm c i = true := by unfold pCl at h; unfold pFm; simp at h ⊢; omega
theorem pFm_U (c i : Nat) (h : pSU c i = true) : pFm c i = true := by unfold pSU pSM at h; unfold pFm; simp at h ⊢; omega
theorem m_find {S : St} {M : Mem} (h : MI S M) (hS : SW S) {Q : Int32 → Mem → Prop} (x : Int32) (k : ME (oFind S x) 1 M Q) : pX11_find M x Q := by
  unfold pX11_find
  obtain ⟨s1, s2, hD, hW, hK, s5, s6, s7⟩ := id hS
  have hkn := hD.2.1
  have hdn := hD.1
  refine mstart h (fun N hN k0 h0 => ?_)
  obtain ⟨i1, i2, i3, i4, i5, hC, hw, hq, hz, hn⟩ := id hN
  unfold oFind at k
  refine minR (lo := 0) (m := tN S) rfl i1 (by omega) (by omega) (fun n _ hn2 e en => ?_) (fun en => ?_)
  · rw [en] at k
    dsimp only at k
    subst e
    first | refine s1a ?_ | refine s1b ?_
    refine mbad0 h0 ?_
    first | refine s0a ?_ | refine s0b ?_
    intro v8 e8 v9 e9
    refine mstarts (fun M0 k1 b2 b3 b4 b6 b7 => ?_)
    have hT : MT (tB S) n M0 := ⟨b3, fun j hj => (k1.g rfl j).trans (i2 j (by omega)), by omega, s2⟩
    obtain ⟨w1, w2, w3, w4⟩ := wE_c (t := tB S) (Nat.zero_le n)
    have hend : ∀ M1, Kp kWo M0 M1 → MI (setT S 0 (tB S) (tP S)) (up1 (up1 M1 1206 0 0 v8) 1207 0 0 v9) ∧ Kp pFm N (up1 (up1 M1 1206 0 0 v8) 1207 0 0 v9) := fun M1 k2 => by
      have kk : Kp pFm N (up1 (up1 M1 1206 0 0 v8) 1207 0 0 v9) := (((k1.wk pFm_s).tr (k2.wk pFm_w)).u1 rfl).u1 rfl
      exact ⟨hN.tape (kk.wk pFm_U) (by rw [up1_ne (by simp), up1_ne (by simp), k2.g rfl]; exact b2) (fun j hj => absurd hj (Nat.not_lt_zero _)) ((kk.g rfl 0).trans i3), kk⟩
    have hno : ∀ M1, Kp kWo M0 M1 → fnW (tB S) n = [] → bX11_find_74 (nI n) Q M1 v8 v9 := fun M1 k2 ef => by
      obtain ⟨e1, e2⟩ := hend M1 k2
      rw [ef, whI_nil hW] at k
      unfold bX11_find_74 bX11_find_77
      intro M31 e31 M32 e32
      subst e31 e32
      exact ⟨fun _ => k _ _ (k0.tr (e2.wk pFm_C)) e1 ((e2.g rfl 0).trans h0) (fun _ => rfl), fun c => absurd rfl c⟩
    refine mreadsWord hT (Nat.zero_le _) b4 b6 (fun q M1 k2 c1 c2 => ?_) (fun q q2 M1 k2 c1 c2 c3 c4 c5 => ?_) (fun q M1 k2 c1 c2 => ?_)
    · refine mfine1 c1 (by omega) (by omega) ?_
      first | refine s0a ?_ | refine s0b ?_
      refine hno M1 k2 ?_
      unfold fnW
      by_cases e : n ≤ 8 ∧ wE (tB S) 0 n = n
      · rw [if_pos e]
        rw [show n = 0 by omega]; rfl
      · rw [if_neg e]
    · refine mfine0 c1 ?_
      first | refine s1a ?_ | refine s1b ?_
      rw [c3, k2.g rfl, b3, eqI (by omega) (by omega)]
      by_cases e : wE (tB S) 0 n = n
      · refine ⟨fun c => absurd e c, fun _ => ?_⟩
        obtain ⟨e1, e2⟩ := hend M1 k2
        have ef : fnW (tB S) n = wdr (tB S) 0 n := by unfold fnW; rw [if_pos ⟨by omega, e⟩]
        obtain ⟨f1, f2⟩ := fnW_ok (t := tB S) (n := n)
        unfold bX11_find_77
        intro M31 e31 M32 e32
        subst e31 e32
        refine ⟨fun c => absurd c n10, fun _ => ?_⟩
        refine mseek e1.2.2.2.2.2.2.1 hW f1 f2 (by rw [up1_2, up1_2, c4, e, ef, Nat.sub_zero]) ?_
        exact k _ _ (k0.tr (e2.wk pFm_C)) e1 ((e2.g rfl 0).trans h0) (fun _ => rfl)
      · refine ⟨fun _ => ?_, fun c => absurd c e⟩
        exact hno M1 k2 (by unfold fnW; rw [if_neg (show ¬ (n ≤ 8 ∧ wE (tB S) 0 n = n) from fun z => e z.2)])
    · refine mfine1 c1 (by omega) (by omega) ?_
      first | refine s0a ?_ | refine s0b ?_
      exact hno M1 k2 (by unfold fnW; rw [if_neg (show ¬ (n ≤ 8 ∧ wE (tB S) 0 n = n) from fun z => by omega)])
  · rw [en] at k
    first | refine s0a ?_ | refine s0b ?_
    refine mbadA rfl (Or.inl rfl) hN h0 k0 k (fun M' hb => ?_)
    first | refine s1a ?_ | refine s1b ?_
    exact hb _
