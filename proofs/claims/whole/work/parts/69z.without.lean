/-! PURE: the answers without a word; both sides -/
def hitA (n : Nat) (a : Nat → Nat × Nat) (d : Nat) : Bool := (List.range n).any (fun j => (a j).1 == d)
def wiN (S : St) (m i n : Nat) : Nat := ctF (fun e => !hitA (min m (rN (tD S) (tK S) (some i))) (rA (tD S) (tK S) (some i)) (rA (tD S) (tK S) none e).1) n
def oWithout (S : St) (x y : Int32) : Rs := match ixr x 1 11 with
  | none => rfs S 2
  | some m => match ixr y 0 (sN (tK S)) with
    | none => okR S nO
    | some i => okR S (nI (wiN S m i (min m (rN (tD S) (tK S) none))))
theorem hitA_t {n : Nat} {a : Nat → Nat × Nat} {d : Nat} : hitA n a d = true ↔ ∃ j, j < n ∧ (a j).1 = d := by
  unfold hitA
  rw [anyR]
  constructor
  · rintro ⟨j, j1, j2⟩; exact ⟨j, j1, beq_iff_eq.mp j2⟩
  · rintro ⟨j, j1, j2⟩; exact ⟨j, j1, beq_iff_eq.mpr j2⟩
theorem hitA_f {n : Nat} {a : Nat → Nat × Nat} {d : Nat} (h : ∀ j, j < n → (a j).1 ≠ d) : hitA n a d = false := by
  cases q : hitA n a d
  · rfl
  · obtain ⟨j, j1, j2⟩ := hitA_t.mp q
    exact absurd j2 (h j j1)
theorem hitA_s (n : Nat) (a : Nat → Nat × Nat) (d : Nat) : hitA (n + 1) a d = (hitA n a d || ((a n).1 == d)) := by
  unfold hitA
  rw [List.range_succ, List.any_append]
  simp
theorem wiN_s (S : St) (m i n : Nat) : wiN S m i (n + 1) = if hitA (min m (rN (tD S) (tK S) (some i))) (rA (tD S) (tK S) (some i)) (rA (tD S) (tK S) none n).1 = true then wiN S m i n else wiN S m i n + 1 := by
  show wiN S m i n + (if (!hitA (min m (rN (tD S) (tK S) (some i))) (rA (tD S) (tK S) (some i)) (rA (tD S) (tK S) none n).1) = true then 1 else 0) = _
  cases hitA (min m (rN (tD S) (tK S) (some i))) (rA (tD S) (tK S) (some i)) (rA (tD S) (tK S) none n).1 <;> rfl
theorem los {i : Nat} (h : i < 2147483648) : ∀ j : Nat, (some i : Option Nat) = some j → j < 2147483648 := fun j e => by cases e; exact h
theorem RK_k {n : Nat} {a : Nat → Nat × Nat} {M M' : Mem} (h : RK 0 n a M) (k : Kp (pRk 1) M M') : RK 0 n a M' := ⟨(k.g (by unfold pRk; simp) 0).trans h.1, h.2.kp k (by unfold pRk; simp) (by unfold pRk; simp)⟩
theorem c_without {S : St} {M : Mem} (h : CI S M) (hS : SW S) {Q : Int32 → Mem → Prop} {K : String → Mem → Prop} (x y : Int32) (k : CE (oWithout S x y) M Q K) : pX10_without M x y Q K := by
  obtain ⟨s1, s2, hD, hW, hK, s5, s6, s7⟩ := id hS
  obtain ⟨i1, i2, i3, i4, i5, hC, hw, hq, hz⟩ := id h
  have hkn := hD.2.1
  have hdn := hD.1
  have hsn := hK.1
  unfold oWithout at k
  unfold pX10_without
  refine cneed (lo := 1) (m := 10) rfl rfl (by omega) (by omega) (fun m m1 m2 e em => ?_) (fun em => by rw [em] at k; exact k.no2 Kp.rf h)
  rw [em] at k
  dsimp only at k
  subst e
  rcases ixr_c y (lo := 0) (n := sN (tK S)) (by omega) (by omega) with ⟨e, h1⟩ | ⟨i, -, i2, e, ei⟩
  · rw [e] at k
    exact chasScored hq rfl hK.1 y (fun j hj q => absurd q (ixr_n (by omega) e hj)) (fun _ => s0a (k.ok Kp.rf h))
  · rw [ei] at k
    dsimp only at k
    subst e
    refine chasScored hq rfl hK.1 _ (fun i' hi' q => ?_) (fun q => absurd rfl (q i i2))
    refine s1a ?_
    refine crank hC hq hD hK (lo := none) lo0 0 (fun M1 k1 r1 => ?_)
    have h1 := h.v k1 (cRS 0)
    refine crank h1.2.2.2.2.2.1 h1.2.2.2.2.2.2.2.1 hD hK (lo := some i) (los (by omega)) 1 (fun M2 k2 r2 => ?_)
    have h2 := h1.v k2 (cRS 1)
    have r1' := RK_k r1 k2
    have hk2 := k.ok ((k1.wk (cRR 0)).tr (k2.wk (cRR 1))) h2
    have hle : rN (tD S) (tK S) none ≤ (tD S).length := rk_le _ _ _ _
    have hle2 : rN (tD S) (tK S) (some i) ≤ (tD S).length := rk_le _ _ _ _
    refine lp_up (fun e s => s = (M2, nI (wiN S m i e), nI e)) (Nat.zero_le (min m (rN (tD S) (tK S) none))) rfl ?_ ?_
    · rintro e s L - e2 rfl hL
      have ha := (r1'.2 e (by omega)).1
      have hb := (rk_b none hD hK (tD S).length e (show e < rN (tD S) (tK S) none by omega)).1
      have hb : (rA (tD S) (tK S) none e).1 < (tD S).length := hb
      have hadd := adI e 1
      have hadd2 := adI (wiN S m i e) 1
      have hL' := hL _ rfl
      rw [wiN_s] at hL'
      unfold bX10_without_42
      dsimp only
      refine ⟨fun c => absurd c (by rw [leI (by omega) (by omega)]; omega), fun _ => ⟨fun c => absurd c (by rw [r1'.1, leI (by omega) (by omega)]; omega), fun _ => ⟨(vpI (by omega)).mpr (by omega), ?_⟩⟩⟩
      rw [tnI (by omega), ha]
      have hyes : hitA (min m (rN (tD S) (tK S) (some i))) (rA (tD S) (tK S) (some i)) (rA (tD S) (tK S) none e).1 = true → bX10_without_94 (nI m) (nI i) Q K L M2 (nI (wiN S m i e)) (nI e) := fun q => by
        rw [if_pos q] at hL'
        unfold bX10_without_94
        intro v ev
        rw [ev]
        exact (show L (M2, nI (wiN S m i e), nI e + nI 1) by rw [hadd]; exact hL')
      have hno : hitA (min m (rN (tD S) (tK S) (some i))) (rA (tD S) (tK S) (some i)) (rA (tD S) (tK S) none e).1 = false → bX10_without_91 (nI m) (nI i) Q K L M2 (nI (wiN S m i e)) (nI e) := fun q => by
        rw [q, if_neg (by decide)] at hL'
        unfold bX10_without_91 bX10_without_94
        intro v17 e17 v ev
        rw [ev, e17]
        exact (show L (M2, nI (wiN S m i e) + nI 1, nI e + nI 1) by rw [hadd, hadd2]; exact hL')
      refine cplaceOf r2 (by omega) (by omega) (fun n hn => by have := (rk_b (some i) hD hK (tD S).length n hn).1; show (rA (tD S) (tK S) (some i) n).1 < 2147483648; unfold rA; omega) (fun n n1 n2 n3 => ?_) (fun n3 => ?_)
      · refine ⟨fun c => absurd c (nO_ne (by omega)), fun _ => ?_⟩
        rw [ltI (by omega) (by omega)]
        refine ⟨fun c => hyes (hitA_t.mpr ⟨n, by omega, n2⟩), fun c => hno (hitA_f (fun j j2 => n3 j (by omega)))⟩
      · exact ⟨fun _ => hno (hitA_f (fun j j2 => n3 j (by omega))), fun c => absurd rfl c⟩
    · rintro s L rfl
      unfold bX10_without_42
      dsimp only
      rw [r1'.1, leI (by omega) (by omega), leI (by omega) (by omega)]
      exact ⟨fun _ => hk2, fun c => ⟨fun _ => hk2, fun c2 => absurd (by omega) c2⟩⟩
def pS9 (c i : Nat) : Bool := pSM c i && decide (c ≠ 1239)
theorem MI.k9 {S : St} {M M' : Mem} (h : MI S M) (k : Kp pS9 M M') (e : M'.1 1239 0 0 = nO) : MI S M' := by
  obtain ⟨a1, a2, a3, a4, a5, a6, a7, a8, a9, a10⟩ := h
  have hD : ∀ c i, pMD c i = true → pS9 c i = true := fun c i q => by unfold pMD at q; unfold pS9 pSM; simp at q ⊢; omega
  have hK : ∀ c i, pMK c i = true → pS9 c i = true := fun c i q => by unfold pMK at q; unfold pS9 pSM; simp at q ⊢; omega
  exact ⟨(k.g rfl 0).trans a1, fun j hj => (k.g rfl j).trans (a2 j hj), (k.g rfl 0).trans a3, (k.g rfl 0).trans a4, (k.g rfl 1).trans a5, a6.kp (k.wk hD), a7.kp k rfl rfl rfl, a8.kp (k.wk hK), (k.g rfl 0).trans a9, e⟩
def kB (c _ : Nat) : Bool := decide (c ≠ 1254)
theorem kB_9 (c i : Nat) (h : pS9 c i = true) : kB c i = true := by unfold pS9 pSM at h; unfold kB; simp at h ⊢; omega
theorem kA_9 (c i : Nat) (h : pS9 c i = true) : kA c i = true := by unfold pS9 pSM at h; unfold kA; simp at h ⊢; omega
theorem kB_C (c i : Nat) (h : pCl c i = true) : kB c i = true := by unfold pCl at h; unfold kB; simp at h ⊢; omega
theorem m_without {S : St} {M : Mem} (h : MI S M) (hS : SW S) {Q : Int32 → Mem → Prop} (x y : Int32) (k : ME (oWithout S x y) 1 M Q) : pX11_without M x y Q := by
  unfold pX11_without
  obtain ⟨s1, s2, hD, hW, hK, s5, s6, s7⟩ := id hS
  have hkn := hD.2.1
  have hdn := hD.1
  refine mstart h (fun N hN k0 h0 => ?_)
  obtain ⟨i1, i2, i3, i4, i5, hC, hw, hq, hz, hn⟩ := id hN
  have hsn := hK.1
  unfold oWithout at k
  refine minR (lo := 1) (m := 10) rfl rfl (by omega) (by omega) (fun m m1 m2 e em => ?_) (fun em => ?_)
  · rw [em] at k
    dsimp only at k
    subst e
    first | refine s1a ?_ | refine s1b ?_
    refine mbad0 h0 ?_
    first | refine s0a ?_ | refine s0b ?_
    refine minN (n := sN (tK S)) (by rw [hq.n]; rfl) (by omega) (fun i i2 e ei => ?_) (fun ei => ?_)
    · rw [ei] at k
      dsimp only at k
      subst e
      first | refine s1a ?_ | refine s1b ?_
      have hle : rN (tD S) (tK S) none ≤ (tD S).length := rk_le _ _ _ _
      have hle2 : rN (tD S) (tK S) (some i) ≤ (tD S).length := rk_le _ _ _ _
      refine manswers hC hq hD hK (lo := none) hn lo0 (fun M1 k1 r1 => ?_)
      rw [r1.1]
      refine mless (by omega) (by omega) ?_
      refine lp_up (fun e s => s.2 = (nI (min m (rN (tD S) (tK S) none)), nI 0, nI e) ∧ Kp kB M1 s.1 ∧ ∀ j, j < e → s.1.1 1254 0 j = nI (rA (tD S) (tK S) none j).1) (Nat.zero_le (min m (rN (tD S) (tK S) none))) ⟨rfl, Kp.rf, fun j hj => absurd hj (Nat.not_lt_zero _)⟩ ?_ ?_
      · rintro e ⟨M2, v⟩ L - e2 ⟨rfl, k2, c2⟩ hL
        have ha : M2.1 1241 0 e = nI (rA (tD S) (tK S) none e).1 := (k2.g rfl e).trans (r1.2 e (by omega)).1
        have hadd := adI e 1
        unfold bX11_without_66
        dsimp only
        refine ⟨fun c => absurd c (by rw [leI (by omega) (by omega)]; omega), fun _ => ⟨(vpI (by omega)).mpr (by omega), (vpI (by omega)).mpr (by omega), ?_⟩⟩
        rw [tnI (by omega), ha]
        intro M3 e3 v33 e33
        subst e3
        refine hL _ ⟨?_, k2.u1 rfl, fun j hj => ?_⟩
        · rw [e33]
          exact congrArg (fun z => (nI (min m (rN (tD S) (tK S) none)), nI 0, z)) hadd
        · dsimp only
          by_cases ej : j = e
          · rw [ej, up1_eq]
          · rw [up1_ne (by simp; exact ej)]; exact c2 j (by omega)
      · rintro ⟨M2, v⟩ L ⟨rfl, k2, c2⟩
        dsimp only at k2 c2
        unfold bX11_without_66
        dsimp only
        refine ⟨fun _ => ?_, fun c => absurd (Int32.le_refl _) c⟩
        intro M26 e26
        subst e26
        have k9 : Kp pS9 N (up1 M2 1239 0 0 (nI i)) := ((k1.wk kA_9).tr (k2.wk kB_9)).u1 rfl
        have hD9 : ∀ c i, pMD c i = true → pS9 c i = true := fun c i q => by unfold pMD at q; unfold pS9 pSM; simp at q ⊢; omega
        have hK9 : ∀ c i, pMK c i = true → pS9 c i = true := fun c i q => by unfold pMK at q; unfold pS9 pSM; simp at q ⊢; omega
        refine manswers (hC.kp (k9.wk hD9)) (hq.kp (k9.wk hK9)) hD hK (lo := some i) up1_eq (los (by omega)) (fun M3 k3 r3 => ?_)
        intro M29 e29
        have hM : MI S M29 := by
          rw [e29]
          exact hN.k9 ((k9.tr (k3.wk kA_9)).u1 rfl) up1_eq
        have kc : Kp pCl M M29 := by
          rw [e29]
          exact (k0.tr (((((k1.wk mAR).tr (k2.wk kB_C)).u1 rfl).tr (k3.wk mAR)).u1 rfl))
        have h02 : M29.1 1200 0 0 = nI 0 := by
          rw [e29, up1_ne (by simp), k3.g rfl, up1_ne (by simp), k2.g rfl, k1.g rfl]; exact h0
        have hk2 := k.ok kc hM h02
        have r3' : MA (rN (tD S) (tK S) (some i)) (rA (tD S) (tK S) (some i)) M29 := by
          rw [e29]
          exact ⟨(up1_ne (by simp)).trans r3.1, fun j hj => ⟨(up1_ne (by simp)).trans (r3.2 j hj).1, (up1_ne (by simp)).trans (r3.2 j hj).2⟩⟩
        have c3 : ∀ j, j < min m (rN (tD S) (tK S) none) → M29.1 1254 0 j = nI (rA (tD S) (tK S) none j).1 := fun j hj => by
          rw [e29, up1_ne (by simp), k3.g rfl, up1_ne (by simp)]; exact c2 j hj
        clear e29
        refine lp_up (fun e s => s = (M29, nI (min m (rN (tD S) (tK S) none)), nI (wiN S m i e), nI e)) (Nat.zero_le (min m (rN (tD S) (tK S) none))) rfl ?_ ?_
        · rintro e s L2 - e2 rfl hL2
          have hb := (rk_b none hD hK (tD S).length e (show e < rN (tD S) (tK S) none by omega)).1
          have hb : (rA (tD S) (tK S) none e).1 < (tD S).length := hb
          have hadd := adI e 1
          have hL' := hL2 _ rfl
          rw [wiN_s] at hL'
          unfold bX11_without_109
          dsimp only
          refine ⟨fun c => absurd c (by rw [leI (by omega) (by omega)]; omega), fun _ => ?_⟩
          refine lp_up (fun j s => s = (M29, nI (min m (rN (tD S) (tK S) none)), nI (wiN S m i e), nI e, nI (b1 (hitA j (rA (tD S) (tK S) (some i)) (rA (tD S) (tK S) none e).1)), nI j)) (Nat.zero_le (min m (rN (tD S) (tK S) (some i)))) rfl ?_ ?_
          · rintro j s L3 - j2 rfl hL3
            have hbj := (rk_b (some i) hD hK (tD S).length j (show j < rN (tD S) (tK S) (some i) by omega)).1
            have hbj : (rA (tD S) (tK S) (some i) j).1 < (tD S).length := hbj
            have hadd3 := adI j 1
            have hL3' := hL3 _ rfl
            rw [hitA_s] at hL3'
            unfold bX11_without_121 bX11_without_161
            dsimp only
            rw [r3'.1]
            refine mless (by omega) (by omega) ?_
            refine ⟨fun c => absurd c (by rw [leI (by omega) (by omega)]; omega), fun _ => ⟨(vpI (by omega)).mpr (by omega), (vpI (by omega)).mpr (by omega), ?_⟩⟩
            rw [tnI (by omega), tnI (by omega), (r3'.2 j (by omega)).1, c3 e e2, eqI (by omega) (by omega)]
            by_cases q : (rA (tD S) (tK S) (some i) j).1 = (rA (tD S) (tK S) none e).1
            · rw [beq_iff_eq.mpr q, Bool.or_true] at hL3'
              refine ⟨fun c => absurd q c, fun _ v45 e45 v46 e46 => ?_⟩
              rw [e45, e46, (b1_or _).2]
              exact (show L3 (M29, nI (min m (rN (tD S) (tK S) none)), nI (wiN S m i e), nI e, nI 1, nI j + nI 1) by rw [hadd3]; exact hL3')
            · rw [beq_eq_false_iff_ne.mpr q, Bool.or_false] at hL3'
              refine ⟨fun _ v45 e45 v46 e46 => ?_, fun c => absurd c q⟩
              rw [e45, e46, (b1_or _).1]
              exact (show L3 (M29, nI (min m (rN (tD S) (tK S) none)), nI (wiN S m i e), nI e, nI (b1 (hitA j (rA (tD S) (tK S) (some i)) (rA (tD S) (tK S) none e).1)), nI j + nI 1) by rw [hadd3]; exact hL3')
          · rintro s L3 rfl
            unfold bX11_without_121 bX11_without_182
            dsimp only
            rw [r3'.1]
            refine mless (by omega) (by omega) ?_
            refine ⟨fun _ => ?_, fun c => absurd (Int32.le_refl _) c⟩
            cases q : hitA (min m (rN (tD S) (tK S) (some i))) (rA (tD S) (tK S) (some i)) (rA (tD S) (tK S) none e).1
            · rw [q, if_neg (by decide)] at hL'
              refine ⟨fun _ v39 e39 v47 e47 => ?_, fun c => absurd rfl c⟩
              have hadd2 := adI (wiN S m i e) 1
              rw [e39, e47]
              exact (show L2 (M29, nI (min m (rN (tD S) (tK S) none)), nI (wiN S m i e) + nI 1, nI e + nI 1) by rw [hadd, hadd2]; exact hL')
            · rw [q, if_pos rfl] at hL'
              refine ⟨fun c => absurd c n10, fun _ v39 e39 v47 e47 => ?_⟩
              have hadd2 := adI (wiN S m i e) 0
              rw [e39, e47]
              exact (show L2 (M29, nI (min m (rN (tD S) (tK S) none)), nI (wiN S m i e) + nI 0, nI e + nI 1) by rw [hadd, hadd2]; exact hL')
        · rintro s L2 rfl
          unfold bX11_without_109
          exact ⟨fun _ => hk2, fun c => absurd (Int32.le_refl _) c⟩
    · rw [ei] at k
      first | refine s0a ?_ | refine s0b ?_
      exact k.ok k0 hN h0
  · rw [em] at k
    first | refine s0a ?_ | refine s0b ?_
    refine mbadA rfl (Or.inl rfl) hN h0 k0 k (fun M' hb => ?_)
    first | refine s1a ?_ | refine s1b ?_
    exact hb _
