/-! PURE: the tape: feed, find -/
def byt (x : Int32) (k : Nat) : Nat := x.toBitVec.toNat / 2 ^ k % 256
theorem byt_lt (x : Int32) (k : Nat) : byt x k < 256 := Nat.mod_lt _ (by omega)
theorem byt_u (x s : Int32) (k : Nat) (hs : ((s.toUInt32 &&& Int32.toUInt32 31).toBitVec % 32).toNat = k) : ((x.toUInt32 >>> (s.toUInt32 &&& Int32.toUInt32 31)).toInt32) &&& 255 = nI (byt x k) := by
  rw [pk_and _ (m := 255) 8 (by decide), pk_ushr x s k hs]
  rfl
theorem byt_s (x s : Int32) (k : Nat) (hs : (s.toBitVec.smod 32).toNat = k) (hk : k = 0 ∨ k = 8 ∨ k = 16 ∨ k = 24) : (x >>> s) &&& 255 = nI (byt x k) := by
  rw [pk_and _ (m := 255) 8 (by decide)]
  have h1 := pk_shr x s k hs
  have h2 : (x >>> s).toInt = (x >>> s).toBitVec.toInt := rfl
  have h3 : x.toInt = x.toBitVec.toInt := rfl
  rw [h2, h3, BitVec.toInt_eq_toNat_cond, BitVec.toInt_eq_toNat_cond, Int.shiftRight_eq_div_pow] at h1
  have b1' := (x >>> s).toBitVec.isLt
  have b2 := x.toBitVec.isLt
  unfold byt
  congr 1
  generalize (x >>> s).toBitVec.toNat = A at h1 b1' ⊢
  generalize x.toBitVec.toNat = B at h1 b2 ⊢
  rcases hk with rfl | rfl | rfl | rfl
  · simp only [Nat.reducePow] at h1 ⊢
    split at h1 <;> split at h1 <;> omega
  · simp only [Nat.reducePow] at h1 ⊢
    split at h1 <;> split at h1 <;> omega
  · simp only [Nat.reducePow] at h1 ⊢
    split at h1 <;> split at h1 <;> omega
  · simp only [Nat.reducePow] at h1 ⊢
    split at h1 <;> split at h1 <;> omega
def xsl (x1 x2 x3 x4 x5 : Int32) (j : Nat) : Int32 := if j = 0 then x1 else if j = 1 then x2 else if j = 2 then x3 else if j = 3 then x4 else x5
def fdB (x1 x2 x3 x4 x5 : Int32) (q : Nat) : Nat := byt (xsl x1 x2 x3 x4 x5 (q / 4)) (24 - 8 * (q % 4))
def setT (S : St) (n : Nat) (t : Nat → Nat) (p : Int32) : St := (n, t, p, tD S, tW S, tK S, tZ S, t0 S, t1 S)
theorem SW_T {S : St} (h : SW S) {n : Nat} {t : Nat → Nat} {p : Int32} (hn : n ≤ 300) (ht : ∀ k, t k < 256) : SW (setT S n t p) := ⟨hn, ht, h.2.2⟩
def pST (c i : Nat) : Bool := pSC c i && decide (c ≠ 1100 ∧ c ≠ 1101 ∧ c ≠ 1102)
def pSU (c i : Nat) : Bool := pSM c i && decide (c ≠ 1202 ∧ c ≠ 1205 ∧ c ≠ 1208)
theorem CI.tape {S : St} {M M' : Mem} {n : Nat} {t : Nat → Nat} {p : Int32} (h : CI S M) (k : Kp pST M M') (e1 : M'.1 1101 0 0 = nI n) (e2 : ∀ j, j < n → M'.1 1100 0 j = nI (t j)) (e3 : M'.1 1102 0 0 = p) : CI (setT S n t p) M' := by
  obtain ⟨a1, a2, a3, a4, a5, a6, a7, a8, a9⟩ := h
  have hD : ∀ c i, pCD c i = true → pST c i = true := fun c i q => by unfold pCD at q; unfold pST pSC; simp at q ⊢; omega
  have hK : ∀ c i, pCK c i = true → pST c i = true := fun c i q => by unfold pCK at q; unfold pST pSC; simp at q ⊢; omega
  exact ⟨e1, e2, e3, (k.g rfl 0).trans a4, (k.g rfl 0).trans a5, a6.kp (k.wk hD), a7.kp k rfl rfl, a8.kp (k.wk hK), (k.g rfl 0).trans a9⟩
theorem MI.tape {S : St} {M M' : Mem} {n : Nat} {t : Nat → Nat} {p : Int32} (h : MI S M) (k : Kp pSU M M') (e1 : M'.1 1202 0 0 = nI n) (e2 : ∀ j, j < n → M'.1 1208 0 j = nI (t j)) (e3 : M'.1 1205 0 0 = p) : MI (setT S n t p) M' := by
  obtain ⟨a1, a2, a3, a4, a5, a6, a7, a8, a9, a10⟩ := h
  have hD : ∀ c i, pMD c i = true → pSU c i = true := fun c i q => by unfold pMD at q; unfold pSU pSM; simp at q ⊢; omega
  have hK : ∀ c i, pMK c i = true → pSU c i = true := fun c i q => by unfold pMK at q; unfold pSU pSM; simp at q ⊢; omega
  exact ⟨e1, e2, e3, (k.g rfl 0).trans a4, (k.g rfl 1).trans a5, a6.kp (k.wk hD), a7.kp k rfl rfl rfl, a8.kp (k.wk hK), (k.g rfl 0).trans a9, (k.g rfl 0).trans a10⟩
def oFeed (S : St) (x1 x2 x3 x4 x5 : Int32) : Rs := if tN S + 20 ≤ 300 then (setT S (tN S + 20) (fun p => if p < tN S then tB S p else fdB x1 x2 x3 x4 x5 (p - tN S)) (tP S), 0, nI (tN S + 20)) else okR S nO
def pTp (c _ : Nat) : Bool := decide (c ≠ 1100 ∧ c ≠ 1101)
def shB (j : Nat) : Int32 := if j = 4 then (-8) else nI (24 - 8 * j)
theorem cput {M : Mem} {n : Nat} (x : Int32) (hn : M.1 1101 0 0 = nI n) (h4 : n + 4 ≤ 300) {Q : Mem → Prop} (hQ : ∀ M', Kp pTp M M' → M'.1 1101 0 0 = nI (n + 4) → (∀ p, M'.1 1100 0 p = if n ≤ p ∧ p < n + 4 then nI (byt x (24 - 8 * (p - n))) else M.1 1100 0 p) → Q M') : pX10_putBytes M x Q := by
  unfold pX10_putBytes
  refine lp_up (fun j s => s.2 = shB j ∧ Kp pTp M s.1 ∧ s.1.1 1101 0 0 = nI (n + j) ∧ ∀ p, s.1.1 1100 0 p = if n ≤ p ∧ p < n + j then nI (byt x (24 - 8 * (p - n))) else M.1 1100 0 p) (Nat.zero_le 4) ⟨rfl, Kp.rf, hn, fun p => by rw [if_neg (by omega)]⟩ ?_ ?_
  · rintro j ⟨m, y⟩ L - hj ⟨ey, k1, k2, k3⟩ hL
    dsimp only at ey k1 k2 k3
    subst ey
    have hs : ¬ shB j < 0 ∧ shB j + (-8) = shB (j + 1) ∧ (((shB j).toUInt32 &&& Int32.toUInt32 31).toBitVec % 32).toNat = 24 - 8 * j := by
      rcases (show j = 0 ∨ j = 1 ∨ j = 2 ∨ j = 3 by omega) with rfl | rfl | rfl | rfl <;> decide
    unfold bX10_putBytes_3
    dsimp only
    refine ⟨fun c => absurd c hs.1, fun _ => ?_⟩
    rw [k2]
    refine ⟨(vpI (by omega)).mpr (by omega), ?_⟩
    rw [tnI (by omega), byt_u x (shB j) (24 - 8 * j) hs.2.2]
    intro M3 e3 M4 e4 v5 e5
    have e31 : M3.1 1101 0 0 = nI (n + j) := by rw [e3, up1_ne (by simp)]; exact k2
    rw [e31] at e4
    have e4' : M4 = up1 M3 1101 0 0 (nI (n + (j + 1))) := by rw [e4]; exact congrArg (up1 M3 1101 0 0) (adI (n + j) 1)
    subst e4' e3
    refine hL _ ⟨by rw [e5]; exact hs.2.1, (k1.u1 rfl).u1 rfl, up1_eq, fun p => ?_⟩
    dsimp only
    rw [up1_ne (by simp), up1_if]
    by_cases ep : p = n + j
    · rw [if_pos ⟨rfl, ep⟩, if_pos (by omega), ep, show n + j - n = j by omega]
    · rw [if_neg (na2 ep), k3 p]
      by_cases eq : n ≤ p ∧ p < n + j
      · rw [if_pos eq, if_pos (by omega)]
      · rw [if_neg eq, if_neg (by omega)]
  · rintro ⟨m, y⟩ L ⟨ey, k1, k2, k3⟩
    dsimp only at ey k1 k2 k3
    subst ey
    unfold bX10_putBytes_3
    exact ⟨fun _ => hQ m k1 k2 k3, fun c => absurd (show shB 4 < 0 by decide) c⟩
theorem pTp_R (c i : Nat) (h : pRf c i = true) : pTp c i = true := by unfold pRf at h; unfold pTp; simp at h ⊢; omega
theorem pTp_T (c i : Nat) (h : pST c i = true) : pTp c i = true := by unfold pST at h; unfold pTp; simp at h ⊢; omega
theorem fdB_sel {x1 x2 x3 x4 x5 : Int32} {n p a : Nat} {x : Int32} (h1 : n + 4 * a ≤ p) (h2 : p < n + 4 * a + 4) (hx : xsl x1 x2 x3 x4 x5 a = x) : byt x (24 - 8 * (p - (n + 4 * a))) = fdB x1 x2 x3 x4 x5 (p - n) := by
  unfold fdB
  rw [show (p - n) / 4 = a by omega, hx, show (p - n) % 4 = p - (n + 4 * a) by omega]
theorem c_feed {S : St} {M : Mem} (h : CI S M) (hS : SW S) {Q : Int32 → Mem → Prop} {K : String → Mem → Prop} (x1 x2 x3 x4 x5 : Int32) (k : CE (oFeed S x1 x2 x3 x4 x5) M Q K) : pX10_feed M x1 x2 x3 x4 x5 Q := by
  obtain ⟨s1, s2, hD, hW, hK, s5, s6, s7⟩ := id hS
  obtain ⟨i1, i2, i3, i4, i5, hC, hw, hq, hz⟩ := id h
  have hkn := hD.2.1
  have hdn := hD.1
  unfold oFeed at k
  unfold pX10_feed
  rw [i1]
  have hadd := adI (tN S) 20
  refine ⟨fun c => ?_, fun c => ?_⟩
  · have c' : nI (tN S + 20) ≤ nI 300 := by rw [← hadd]; exact c
    rw [leI (by omega) (by omega)] at c'
    rw [if_pos c'] at k
    refine cput x1 i1 (by omega) (fun M1 k1 a1 d1 => ?_)
    refine cput x2 a1 (by omega) (fun M2 k2 a2 d2 => ?_)
    refine cput x3 a2 (by omega) (fun M3 k3 a3 d3 => ?_)
    refine cput x4 a3 (by omega) (fun M4 k4 a4 d4 => ?_)
    refine cput x5 a4 (by omega) (fun M5 k5 a5 d5 => ?_)
    have kk := (((k1.tr k2).tr k3).tr k4).tr k5
    rw [a5]
    refine (k M5 (kk.wk pTp_R) (h.tape (kk.wk pTp_T) a5 (fun j hj => ?_) ((kk.g rfl 0).trans i3))).1 rfl
    by_cases e : j < tN S
    · rw [if_pos e, d5, if_neg (by omega), d4, if_neg (by omega), d3, if_neg (by omega), d2, if_neg (by omega), d1, if_neg (by omega)]
      exact i2 j e
    · rw [if_neg e]
      by_cases e1 : j < tN S + 4
      · rw [d5, if_neg (by omega), d4, if_neg (by omega), d3, if_neg (by omega), d2, if_neg (by omega), d1, if_pos (by omega)]
        exact congrArg nI (fdB_sel (n := tN S) (a := 0) (by omega) (by omega) rfl)
      · by_cases e2 : j < tN S + 8
        · rw [d5, if_neg (by omega), d4, if_neg (by omega), d3, if_neg (by omega), d2, if_pos (by omega)]
          exact congrArg nI (fdB_sel (n := tN S) (a := 1) (by omega) (by omega) rfl)
        · by_cases e3 : j < tN S + 12
          · rw [d5, if_neg (by omega), d4, if_neg (by omega), d3, if_pos (by omega)]
            exact congrArg nI (fdB_sel (n := tN S) (a := 2) (by omega) (by omega) rfl)
          · by_cases e4 : j < tN S + 16
            · rw [d5, if_neg (by omega), d4, if_pos (by omega)]
              exact congrArg nI (fdB_sel (n := tN S) (a := 3) (by omega) (by omega) rfl)
            · rw [d5, if_pos (by omega)]
              exact congrArg nI (fdB_sel (n := tN S) (a := 4) (by omega) (by omega) rfl)
  · have c' : ¬ nI (tN S + 20) ≤ nI 300 := by rw [← hadd]; exact c
    rw [leI (by omega) (by omega)] at c'
    rw [if_neg c'] at k
    exact k.ok Kp.rf h
def pTm (c _ : Nat) : Bool := decide (c ≠ 1202 ∧ c ≠ 1208)
theorem pTm_C (c i : Nat) (h : pCl c i = true) : pTm c i = true := by unfold pCl at h; unfold pTm; simp at h ⊢; omega
theorem pTm_U (c i : Nat) (h : pSU c i = true) : pTm c i = true := by unfold pSU at h; unfold pTm; simp at h ⊢; omega
theorem m_feed {S : St} {M : Mem} (h : MI S M) (hS : SW S) {Q : Int32 → Mem → Prop} (x1 x2 x3 x4 x5 : Int32) (k : ME (oFeed S x1 x2 x3 x4 x5) 2 M Q) : pX11_feed M x1 x2 x3 x4 x5 Q := by
  unfold pX11_feed
  obtain ⟨s1, s2, hD, hW, hK, s5, s6, s7⟩ := id hS
  have hkn := hD.2.1
  have hdn := hD.1
  refine mstart h (fun N hN k0 h0 => ?_)
  obtain ⟨i1, i2, i3, i4, i5, hC, hw, hq, hz, hn⟩ := id hN
  unfold oFeed at k
  have hadd := adI (tN S) 20
  rw [i1]
  refine ⟨fun c => ?_, fun c => ?_⟩
  · have c' : nI (tN S + 20) ≤ nI 300 := by rw [← hadd]; exact c
    rw [leI (by omega) (by omega)] at c'
    rw [if_pos c'] at k
    refine lp_up (fun q s => s.2 = nI q ∧ Kp pTm N s.1 ∧ s.1.1 1202 0 0 = nI (tN S + q) ∧ ∀ p, p < tN S + q → s.1.1 1208 0 p = nI (if p < tN S then tB S p else fdB x1 x2 x3 x4 x5 (p - tN S))) (Nat.zero_le 20) ⟨rfl, Kp.rf, i1, fun p hp => by rw [if_pos (by omega)]; exact i2 p (by omega)⟩ ?_ ?_
    · rintro q ⟨m, y⟩ L - hq2 ⟨ey, k1, k2, k3⟩ hL
      dsimp only at ey k1 k2 k3
      subst ey
      have h78 : bX11_feed_78 x1 x2 x3 x4 x5 Q L m (nI q) (xsl x1 x2 x3 x4 x5 (q / 4)) := by
        have es : (24 - (8 * (nI q - nI q / 4 * 4))) = nI (24 - 8 * (q % 4)) := by
          show nI 24 - (nI 8 * (nI q - nI q / nI 4 * nI 4)) = _
          rw [dvI (by omega) (by omega) (by omega), mlI, sbI (by omega), mlI, sbI (by omega)]
          congr 1
          omega
        have hs : ((nI (24 - 8 * (q % 4)) &&& 31).toBitVec.smod 32).toNat = 24 - 8 * (q % 4) := by
          rcases (show q % 4 = 0 ∨ q % 4 = 1 ∨ q % 4 = 2 ∨ q % 4 = 3 by omega) with e | e | e | e <;> (rw [e]; decide)
        unfold bX11_feed_78
        rw [es, byt_s _ _ _ hs (by omega), k2]
        refine ⟨(vpI (by omega)).mpr (by omega), ?_⟩
        rw [tnI (by omega)]
        intro M9 e9 M10 e10 v11 e11
        have e91 : M9.1 1202 0 0 = nI (tN S + q) := by rw [e9, up1_ne (by simp)]; exact k2
        rw [e91] at e10
        have e10' : M10 = up1 M9 1202 0 0 (nI (tN S + (q + 1))) := by rw [e10]; exact congrArg (up1 M9 1202 0 0) (adI (tN S + q) 1)
        subst e10' e9
        refine hL _ ⟨by rw [e11]; exact adI q 1, (k1.u1 rfl).u1 rfl, up1_eq, fun p hp => ?_⟩
        dsimp only
        rw [up1_ne (by simp)]
        by_cases ep : p = tN S + q
        · rw [ep, up1_eq, if_neg (by omega), show tN S + q - tN S = q by omega]; rfl
        · rw [up1_ne (by simp; exact ep)]; exact k3 p (by omega)
      have l4 : (4 : Int32) ≤ nI q ↔ 4 ≤ q := leI (a := 4) (by omega) (by omega)
      have l8 : (8 : Int32) ≤ nI q ↔ 8 ≤ q := leI (a := 8) (by omega) (by omega)
      have l12 : (12 : Int32) ≤ nI q ↔ 12 ≤ q := leI (a := 12) (by omega) (by omega)
      have l16 : (16 : Int32) ≤ nI q ↔ 16 ≤ q := leI (a := 16) (by omega) (by omega)
      have l20 : (20 : Int32) ≤ nI q ↔ 20 ≤ q := leI (a := 20) (by omega) (by omega)
      unfold bX11_feed_23
      dsimp only
      rw [l4, l8, l12, l16, l20]
      refine ⟨fun c => absurd c (by omega), fun _ => ⟨fun c4 => ⟨fun c8 => ⟨fun c12 => ⟨fun c16 => ?_, fun c16 => ?_⟩, fun c12 => ?_⟩, fun c8 => ?_⟩, fun c4 => ?_⟩⟩
      · rw [show q / 4 = 4 by omega] at h78; exact h78
      · rw [show q / 4 = 3 by omega] at h78; exact h78
      · rw [show q / 4 = 2 by omega] at h78; exact h78
      · rw [show q / 4 = 1 by omega] at h78; exact h78
      · rw [show q / 4 = 0 by omega] at h78; exact h78
    · rintro ⟨m, y⟩ L ⟨ey, k1, k2, k3⟩
      dsimp only at ey k1 k2 k3
      subst ey
      unfold bX11_feed_23
      refine ⟨fun _ => ?_, fun c => absurd (Int32.le_refl _) c⟩
      dsimp only
      rw [k2]
      exact k m _ (k0.tr (k1.wk pTm_C)) (hN.tape (k1.wk pTm_U) k2 k3 ((k1.g rfl 0).trans i3)) ((k1.g rfl 0).trans h0) (fun _ => rfl)
  · have c' : ¬ nI (tN S + 20) ≤ nI 300 := by rw [← hadd]; exact c
    rw [leI (by omega) (by omega)] at c'
    rw [if_neg c'] at k
    exact k.ok k0 hN h0
