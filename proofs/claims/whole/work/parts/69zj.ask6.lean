/-! PURE: the draft becomes the question; the class's ask -/
def pC0 (c i : Nat) : Bool := decide (¬ ((699 < c ∧ c < 712 ∧ i = 0) ∨ c = 5710))
theorem pC0_n {c i : Nat} (h : (699 < c ∧ c < 712 ∧ i = 0) ∨ c = 5710) : pC0 c i = false := by unfold pC0; rw [decide_eq_false (fun q => q h)]
theorem pC0_y {c i : Nat} (h : ¬ ((699 < c ∧ c < 712 ∧ i = 0) ∨ c = 5710)) : pC0 c i = true := by unfold pC0; rw [decide_eq_true h]
/-- the single numbers are copied -/
def CPs (M0 M : Mem) : Prop := M.1 700 0 0 = M0.1 700 1 0 ∧ M.1 701 0 0 = M0.1 701 1 0 ∧ M.1 705 0 0 = M0.1 705 1 0 ∧ M.1 706 0 0 = M0.1 706 1 0 ∧ M.1 708 0 0 = M0.1 708 1 0 ∧ M.1 711 0 0 = M0.1 711 1 0
def CPa (n : Nat) (M0 M : Mem) : Prop := ∀ k, k < n → M.1 702 0 k = M0.1 702 1 k ∧ M.1 703 0 k = M0.1 703 1 k ∧ M.1 704 0 k = M0.1 704 1 k
def CPb (n : Nat) (M0 M : Mem) : Prop := ∀ k, k < n → M.1 707 0 k = M0.1 707 1 k ∧ M.1 709 0 k = M0.1 709 1 k
def CPc (n : Nat) (M0 M : Mem) : Prop := ∀ k q, k < n → q < 4 → M.1 5710 k q = M0.1 5711 k q
theorem CP_end {K : Qc} {M0 M : Mem} (h : CK K 1 M0) (hx : xN K ≤ 6) (hf : fN K ≤ 6) (hl : ∀ j, j < fN K → fL K j ≤ 4) (h1 : CPs M0 M) (h2 : CPa (sN K) M0 M) (h3 : CPb 6 M0 M) (h4 : CPc 6 M0 M) : CK K 0 M := by
  obtain ⟨a1, a2, a3, a4, a5, a6⟩ := h1
  obtain ⟨a, b, c, d, e', f, g, i, j, l⟩ := h
  exact ⟨a1.trans a, a2.trans b, a3.trans c, a4.trans d, a5.trans e', a6.trans f, fun k hk => ⟨(h2 k hk).1.trans (g k hk).1, (h2 k hk).2.1.trans (g k hk).2.1, (h2 k hk).2.2.trans (g k hk).2.2⟩, fun k hk => (h3 k (by omega)).1.trans (i k hk), fun k hk => (h3 k (by omega)).2.trans (j k hk), fun j2 k hj hk => (h4 j2 k (by omega) (by have := hl j2 hj; omega)).trans (l j2 k hj hk)⟩
theorem bzb (b : Bool) : bz (nI (b1 b)) := by
  cases b
  · exact Or.inl rfl
  · exact Or.inr rfl
theorem ccopyFrom {K : Qc} {M : Mem} (h : CK K 1 M) (hs : sN K ≤ 24) (hx : xN K ≤ 6) (hf : fN K ≤ 6) (hl : ∀ j, j < fN K → fL K j ≤ 4) {Q : Mem → Prop} (hQ : ∀ M', Kp pC0 M M' → CK K 0 M' → Q M') : pX6_copyFrom M Q := by
  have hb0 : bz (nI 0) := Or.inl rfl
  have s1 : ∀ N : Mem, Kp pC0 M N → ∀ c k, 699 < c → c < 712 → N.1 c 1 k = M.1 c 1 k := fun N hk c k h1 h2 => hk.g (pC0_y (by omega)) k
  have s2 : ∀ N : Mem, Kp pC0 M N → ∀ k q, N.1 5711 k q = M.1 5711 k q := fun N hk k q => hk.g (pC0_y (by omega)) q
  unfold pX6_copyFrom
  intro M1 e1 M2 e2
  have k2 : Kp pC0 M M2 := by rw [e2, e1]; exact (Kp.rf.u1 (pC0_n (by omega))).u1 (pC0_n (by omega))
  refine ⟨by rw [s1 M2 k2 705 0 (by omega) (by omega), h.u]; exact bzb _, ?_⟩
  intro M4 e4 M5 e5 M6 e6 M7 e7
  have k7 : Kp pC0 M M7 := by rw [e7, e6, e5, e4]; exact (((k2.u1 (pC0_n (by omega))).u1 (pC0_n (by omega))).u1 (pC0_n (by omega))).u1 (pC0_n (by omega))
  have p7 : CPs M M7 := by
    subst e1 e2 e4 e5 e6 e7
    refine ⟨?_, ?_, ?_, ?_, ?_, ?_⟩
    · rw [up1_ne (by simp), up1_ne (by simp), up1_ne (by simp), up1_ne (by simp), up1_ne (by simp), up1_eq]
    · rw [up1_ne (by simp), up1_ne (by simp), up1_ne (by simp), up1_ne (by simp), up1_eq, up1_ne (by simp)]
    · rw [up1_ne (by simp), up1_ne (by simp), up1_ne (by simp), up1_eq, up1_ne (by simp), up1_ne (by simp)]
    · rw [up1_ne (by simp), up1_ne (by simp), up1_eq, up1_ne (by simp), up1_ne (by simp), up1_ne (by simp)]
    · rw [up1_ne (by simp), up1_eq, up1_ne (by simp), up1_ne (by simp), up1_ne (by simp), up1_ne (by simp)]
    · rw [up1_eq, up1_ne (by simp), up1_ne (by simp), up1_ne (by simp), up1_ne (by simp), up1_ne (by simp)]
  clear e1 e2 e4 e5 e6 e7 k2
  refine lp_up (fun i s => s.2 = nI i ∧ Kp pC0 M s.1 ∧ CPs M s.1 ∧ CPa i M s.1) (Nat.zero_le (sN K)) ⟨rfl, k7, p7, fun k hk => absurd hk (Nat.not_lt_zero _)⟩ ?_ ?_
  · rintro i ⟨m, y⟩ L - hi ⟨ey, c1, c2, c3⟩ hL
    dsimp only at ey c1 c2 c3
    subst ey
    have hadd := adI i 1
    have e701 : m.1 701 0 0 = nI (sN K) := c2.2.1.trans h.n
    have e2 := s1 m c1 702 i (by omega) (by omega)
    have e3 := s1 m c1 703 i (by omega) (by omega)
    have e4 := s1 m c1 704 i (by omega) (by omega)
    unfold bX6_copyFrom_50
    dsimp only
    rw [e701]
    refine ⟨fun c => absurd c (by rw [leI (by omega) (by omega)]; omega), fun _ => ⟨(vpI (by omega)).mpr (by omega), ?_⟩⟩
    rw [tnI (by omega), e2]
    intro M10 e10 M11 e11
    have f3 : M10.1 703 1 i = M.1 703 1 i := by rw [e10, up1_ne (by simp)]; exact e3
    rw [f3] at e11
    have f4 : M11.1 704 1 i = M.1 704 1 i := by rw [e11, up1_ne (by simp), e10, up1_ne (by simp)]; exact e4
    rw [f4]
    refine ⟨by rw [h.m hi]; exact bzb _, ?_⟩
    intro M13 e13 v14 e14
    subst e10 e11 e13
    refine hL _ ⟨by rw [e14]; exact hadd, ((c1.u1 (pC0_n (by omega))).u1 (pC0_n (by omega))).u1 (pC0_n (by omega)), ?_, fun k hk => ?_⟩
    · obtain ⟨a1, a2, a3, a4, a5, a6⟩ := c2
      refine ⟨?_, ?_, ?_, ?_, ?_, ?_⟩
      all_goals (dsimp only; rw [up1_ne (by simp), up1_ne (by simp), up1_ne (by simp)]; assumption)
    · dsimp only
      by_cases q : k = i
      · rw [q]
        refine ⟨?_, ?_, ?_⟩
        · rw [up1_ne (by simp), up1_ne (by simp), up1_eq]
        · rw [up1_ne (by simp), up1_eq]
        · rw [up1_eq]
      · have := c3 k (by omega)
        refine ⟨?_, ?_, ?_⟩
        · rw [up1_ne (by simp), up1_ne (by simp), up1_ne (by simp; exact q)]; exact this.1
        · rw [up1_ne (by simp), up1_ne (by simp; exact q), up1_ne (by simp)]; exact this.2.1
        · rw [up1_ne (by simp; exact q), up1_ne (by simp), up1_ne (by simp)]; exact this.2.2
  · rintro ⟨m, y⟩ L ⟨ey, c1, c2, c3⟩
    dsimp only at ey c1 c2 c3
    subst ey
    have e701 : m.1 701 0 0 = nI (sN K) := c2.2.1.trans h.n
    unfold bX6_copyFrom_50
    dsimp only
    rw [e701]
    refine ⟨fun _ => ?_, fun c => absurd (Int32.le_refl _) c⟩
    refine lp_up (fun i s => s.2 = nI i ∧ Kp pC0 M s.1 ∧ CPs M s.1 ∧ CPa (sN K) M s.1 ∧ CPb i M s.1 ∧ CPc i M s.1) (Nat.zero_le 6) ⟨rfl, c1, c2, c3, fun k hk => absurd hk (Nat.not_lt_zero _), fun k q hk => absurd hk (Nat.not_lt_zero _)⟩ ?_ ?_
    · rintro i ⟨m2, y⟩ L2 - hi ⟨ey, d1, d2, d3, d4, d5⟩ hL2
      dsimp only at ey d1 d2 d3 d4 d5
      subst ey
      have hadd := adI i 1
      have l6 : (6 : Int32) ≤ nI i ↔ 6 ≤ i := leI (a := 6) (by omega) (by omega)
      have e2 := s1 m2 d1 707 i (by omega) (by omega)
      have e3 := s1 m2 d1 709 i (by omega) (by omega)
      unfold bX6_copyFrom_102
      dsimp only
      rw [l6]
      refine ⟨fun c => absurd c (by omega), fun _ => ⟨(vpI (by omega)).mpr (by omega), ?_⟩⟩
      rw [tnI (by omega), e2]
      intro M17 e17 M18 e18
      have f3 : M17.1 709 1 i = M.1 709 1 i := by rw [e17, up1_ne (by simp)]; exact e3
      rw [f3] at e18
      subst e17 e18
      refine lp_up (fun q s => s.2 = (nI i, nI q) ∧ Kp pC0 M s.1 ∧ CPs M s.1 ∧ CPa (sN K) M s.1 ∧ CPb (i + 1) M s.1 ∧ CPc i M s.1 ∧ ∀ p, p < q → s.1.1 5710 i p = M.1 5711 i p) (Nat.zero_le 4) ⟨rfl, (d1.u1 (pC0_n (by omega))).u1 (pC0_n (by omega)), ?_, fun k hk => ?_, fun k hk => ?_, fun k q hk hq => ?_, fun p hp => absurd hp (Nat.not_lt_zero _)⟩ ?_ ?_
      · obtain ⟨a1, a2, a3, a4, a5, a6⟩ := d2
        refine ⟨?_, ?_, ?_, ?_, ?_, ?_⟩
        all_goals (dsimp only; rw [up1_ne (by simp), up1_ne (by simp)]; assumption)
      · dsimp only
        have := d3 k hk
        refine ⟨?_, ?_, ?_⟩
        · rw [up1_ne (by simp), up1_ne (by simp)]; exact this.1
        · rw [up1_ne (by simp), up1_ne (by simp)]; exact this.2.1
        · rw [up1_ne (by simp), up1_ne (by simp)]; exact this.2.2
      · dsimp only
        by_cases q : k = i
        · rw [q]
          exact ⟨by rw [up1_ne (by simp), up1_eq], by rw [up1_eq]⟩
        · have := d4 k (by omega)
          exact ⟨by rw [up1_ne (by simp), up1_ne (by simp; exact q)]; exact this.1, by rw [up1_ne (by simp; exact q), up1_ne (by simp)]; exact this.2⟩
      · dsimp only
        rw [up1_ne (by simp), up1_ne (by simp)]; exact d5 k q hk hq
      · rintro q ⟨m3, y⟩ L3 - hq ⟨ey, f1, f2, f3, f4, f5, f6⟩ hL3
        dsimp only at ey f1 f2 f3 f4 f5 f6
        subst ey
        have hadd3 := adI q 1
        have l4 : (4 : Int32) ≤ nI q ↔ 4 ≤ q := leI (a := 4) (by omega) (by omega)
        unfold bX6_copyFrom_134
        dsimp only
        rw [l4]
        refine ⟨fun c => absurd c (by omega), fun _ => ⟨(vpI (by omega)).mpr (by omega), (vpI (by omega)).mpr (by omega), ?_⟩⟩
        rw [tnI (by omega), tnI (by omega), s2 m3 f1 i q]
        intro M23 e23 v24 e24
        subst e23
        refine hL3 _ ⟨by rw [e24]; exact congrArg (fun z => (nI i, z)) hadd3, f1.u1 (pC0_n (by omega)), ?_, fun k hk => ?_, fun k hk => ?_, fun k p hk hp => ?_, fun p hp => ?_⟩
        · obtain ⟨a1, a2, a3, a4, a5, a6⟩ := f2
          refine ⟨?_, ?_, ?_, ?_, ?_, ?_⟩
          all_goals (dsimp only; rw [up1_ne (by simp)]; assumption)
        · dsimp only
          have := f3 k hk
          refine ⟨?_, ?_, ?_⟩
          · rw [up1_ne (by simp)]; exact this.1
          · rw [up1_ne (by simp)]; exact this.2.1
          · rw [up1_ne (by simp)]; exact this.2.2
        · dsimp only
          have := f4 k hk
          exact ⟨by rw [up1_ne (by simp)]; exact this.1, by rw [up1_ne (by simp)]; exact this.2⟩
        · dsimp only
          rw [up1_ne (fun z => by have := z.2.1; omega)]; exact f5 k p hk hp
        · dsimp only
          by_cases z : p = q
          · rw [z, up1_eq]
          · rw [up1_ne (fun w => z w.2.2)]; exact f6 p (by omega)
      · rintro ⟨m3, y⟩ L3 ⟨ey, f1, f2, f3, f4, f5, f6⟩
        dsimp only at ey f1 f2 f3 f4 f5 f6
        subst ey
        unfold bX6_copyFrom_134
        dsimp only
        refine ⟨fun _ v20 e20 => ?_, fun c => absurd (Int32.le_refl _) c⟩
        refine hL2 _ ⟨by rw [e20]; exact hadd, f1, f2, f3, f4, fun k p hk hp => ?_⟩
        by_cases z : k = i
        · rw [z]; exact f6 p hp
        · exact f5 k p (by omega) hp
    · rintro ⟨m2, y⟩ L2 ⟨ey, d1, d2, d3, d4, d5⟩
      dsimp only at ey d1 d2 d3 d4 d5
      subst ey
      unfold bX6_copyFrom_102
      exact ⟨fun _ => hQ m2 d1 (CP_end h hx hf hl d2 d3 d4 d5), fun c => absurd (Int32.le_refl _) c⟩
def askS (S : St) (K : Qc) : St := (0, tB S, nO, tD S, tW S, K, tZ S, t0 S, t1 S)
def oAsk (S : St) (x : Int32) : Rs := match ixr x 0 (min (tN S) 120 + 1) with
  | none => rfs S 2
  | some n => if eF (fqR (tB S) n (tW S)) = 0 then (askS S (eK (fqR (tB S) n (tW S))), 0, nI (sN (eK (fqR (tB S) n (tW S))))) else (setT S 0 (tB S) (nI (eP (fqR (tB S) n (tW S)))), 0, nI (eF (fqR (tB S) n (tW S))) - nI 10)
theorem SW_ask {S : St} (hS : SW S) {n : Nat} (hf : eF (fqR (tB S) n (tW S)) = 0) : SW (askS S (eK (fqR (tB S) n (tW S)))) := by
  obtain ⟨s1, s2, hD, hW, hK, s5, s6, s7⟩ := id hS
  exact ⟨Nat.zero_le _, s2, hD, hW, (fqR_W hf).1, s5, s6, s7⟩
def pAk (c i : Nat) : Bool := decide (¬ ((699 < c ∧ c < 712) ∨ c = 5710 ∨ c = 5711 ∨ (802 ≤ c ∧ c ≤ 806) ∨ c = 1101 ∨ c = 1102))
def pAl (c i : Nat) : Bool := decide (¬ ((699 < c ∧ c < 712 ∧ i = 1) ∨ c = 5711 ∨ (802 ≤ c ∧ c ≤ 806) ∨ c = 1101 ∨ c = 1102))
theorem pAl_q (c i : Nat) (h : pAl c i = true) : pQr c i = true := by unfold pAl at h; unfold pQr pC1; simp at h ⊢; omega
theorem pAk_l (c i : Nat) (h : pAk c i = true) : pAl c i = true := by unfold pAk at h; unfold pAl; simp at h ⊢; omega
theorem pAk_0 (c i : Nat) (h : pAk c i = true) : pC0 c i = true := by unfold pAk at h; unfold pC0; simp at h ⊢; omega
theorem pAk_R (c i : Nat) (h : pRf c i = true) : pAk c i = true := by unfold pRf at h; unfold pAk; simp at h ⊢; omega
theorem pAl_R (c i : Nat) (h : pRf c i = true) : pAl c i = true := by unfold pRf at h; unfold pAl; simp at h ⊢; omega
theorem pAk_D (c i : Nat) (h : pCD c i = true) : pAk c i = true := by unfold pCD at h; unfold pAk; simp at h ⊢; omega
theorem pAl_T (c i : Nat) (h : pST c i = true) : pAl c i = true := by unfold pST pSC at h; unfold pAl; simp at h ⊢; omega
theorem c_ask {S : St} {M : Mem} (h : CI S M) (hS : SW S) {Q : Int32 → Mem → Prop} {K : String → Mem → Prop} (x : Int32) (k : CE (oAsk S x) M Q K) : pX10_ask M x Q K := by
  obtain ⟨s1, s2, hD, hW, hK, s5, s6, s7⟩ := id hS
  obtain ⟨i1, i2, i3, i4, i5, hC, hw, hq, hz⟩ := id h
  have hkn := hD.2.1
  have hdn := hD.1
  unfold oAsk at k
  unfold pX10_ask
  have emn : imin (M.1 1101 0 0) 120 = nI (min (tN S) 120) := by rw [i1]; exact mnI (b := 120) (by omega) (by omega)
  refine cneed (lo := 0) (m := min (tN S) 120) rfl emn (by omega) (by omega) (fun n _ hn e en => ?_) (fun en => by rw [en] at k; exact k.no2 Kp.rf h)
  rw [en] at k
  dsimp only at k
  subst e
  intro M3 e3
  have k3 : Kp pAl M M3 := by rw [e3]; exact Kp.rf.u1 rfl
  have f1101 : M3.1 1101 0 0 = nI 0 := by rw [e3, up1_eq]; rfl
  have hw3 : CWr (tW S) M3 := hw.kp k3 rfl rfl
  have ht3 : ∀ j, j < n → M3.1 1100 0 j = nI (tB S j) := fun j hj => (k3.g rfl j).trans (i2 j (by omega))
  clear e3
  refine cqread (t := tB S) (n := n) hw3 hW (by omega) ht3 s2 (fun hf M5 k5 w5 c5 d5 => ?_) (fun hf M5 k5 w5 d5 => ?_)
  · rw [if_pos hf] at k
    obtain ⟨q1, q2⟩ := fqR_W hf
    intro M6 e6
    rw [d5] at e6
    have k6 : Kp pAl M M6 := by rw [e6]; exact (k3.tr (k5.wk pAl_q)).u1 rfl
    have c6 : CK (eK (fqR (tB S) n (tW S))) 1 M6 := by rw [e6]; exact CK1.kp c5 (Kp.rf.u1 rfl)
    have f6 : M6.1 1101 0 0 = nI 0 := by rw [e6, up1_ne (by simp), k5.g rfl]; exact f1101
    have g6 : M6.1 1102 0 0 = nO := by rw [e6, up1_eq]
    have w6 : CWr (tW S) M6 := by rw [e6]; exact ⟨(up1_ne (by simp)).trans w5.1, w5.2⟩
    refine ⟨fun _ => ?_, fun c => absurd rfl c⟩
    refine ccopyFrom c6 q2 q1.2.2.1 q1.2.2.2.1 (fun j hj => (q1.2.2.2.2.2.2.2.1 j hj).2) (fun M9 k9 c9 => ?_)
    have kk : Kp pAk M M9 := (k6.wk pAk_l).tr (k9.wk pAk_0)
    rw [c9.n]
    refine (k M9 (kk.wk pAk_R) ⟨(k9.g rfl 0).trans f6, fun j hj => absurd hj (Nat.not_lt_zero _), (k9.g rfl 0).trans g6, (kk.g rfl 0).trans i4, (kk.g rfl 0).trans i5, hC.kp (kk.wk pAk_D), w6.kp k9 rfl rfl, c9, (kk.g rfl 0).trans hz⟩).1 rfl
  · rw [if_neg hf] at k
    have hP := rdQ_P (tB S) n (tW S) (n + 1) (by omega) hf
    have hP : (eF (fqR (tB S) n (tW S)) = 1 ∨ eF (fqR (tB S) n (tW S)) = 2) ∧ eP (fqR (tB S) n (tW S)) ≤ n := hP
    intro M6 e6
    rw [d5] at e6
    have k6 : Kp pAl M M6 := by rw [e6]; exact (k3.tr (k5.wk pAl_q)).u1 rfl
    refine ⟨fun c => absurd ((eqI (b := 0) (by omega) (by omega)).mp c) hf, fun _ => ?_⟩
    refine (k M6 (k6.wk pAl_R) (h.tape (k6.wk pAl_T) ?_ (fun j hj => absurd hj (Nat.not_lt_zero _)) (by rw [e6, up1_eq]))).1 rfl
    rw [e6, up1_ne (by simp), k5.g rfl]; exact f1101
