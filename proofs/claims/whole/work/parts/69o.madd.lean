/-! PURE: the reference adds a document -/
def JB (t : Nat → Nat) (n : Nat) (W : List Wd) (d : Nat) (M0 : Mem) (i : Nat) (M : Mem) (y : Int32) : Prop := i ≤ n ∧ rF (rdD t n W i) = 0 ∧ (rB (rdD t n W i) = 0 ∨ i = n ∨ isL (t i) = false) ∧ rF (clD (rdD t n W i)) = 0 ∧ MRd (clD (rdD t n W i)) i d M0 M ∧ y = nI (rT (clD (rdD t n W i))).length
def JA (t : Nat → Nat) (n : Nat) (W : List Wd) (d : Nat) (M0 M : Mem) : Prop := rF (fdR t n W) ≠ 0 ∧ MRf W (rF (fdR t n W)) (rP (fdR t n W)) d M0 M
theorem MRd.at {s : Rd} {i j d : Nat} {M0 M M' : Mem} (h : MRd s i d M0 M) (k : Kp kAt M M') (ha : M'.1 1204 0 0 = nI j) : MRd s j d M0 M' := by
  obtain ⟨a1, a2, a3, a4, a5, a6⟩ := h
  exact ⟨a1.tr (k.wk (fun _ _ => pMr_a)), ha, (k.g rfl 0).trans a3, (k.g rfl 0).trans a4, ⟨(k.g rfl 0).trans a5.1, fun w hw => ⟨(k.g2 rfl w).trans (a5.2 w hw).1, (k.g rfl w).trans (a5.2 w hw).2⟩⟩, fun j hj => (k.g rfl j).trans (a6 j hj)⟩
theorem rdD_bl {t : Nat → Nat} {n : Nat} {W : List Wd} (hW : Kw W) {i j : Nat} (hij : i ≤ j) (hj : j ≤ n) (hf : rF (rdD t n W i) = 0) (hg : rF (clD (rdD t n W i)) = 0) (hb : ∀ k, i ≤ k → k < j → t k = 32) : rF (rdD t n W j) = 0 ∧ clD (rdD t n W j) = clD (rdD t n W i) ∧ (i < j → rB (rdD t n W j) = 0) := by
  induction j with
  | zero =>
    obtain rfl : i = 0 := by omega
    exact ⟨hf, rfl, fun q => absurd q (Nat.lt_irrefl _)⟩
  | succ j ih =>
    by_cases e : i = j + 1
    · rw [← e]; exact ⟨hf, rfl, fun q => absurd q (Nat.lt_irrefl _)⟩
    · obtain ⟨i1, i2, i3⟩ := ih (by omega) (by omega) (fun k k1 k2 => hb k k1 (by omega))
      have e1 := rdD_blank hW (i := j) (by omega) i1 (hb j (by omega) (by omega))
      rw [e1]
      exact ⟨by rw [i2]; exact hg, by rw [clD_cl, i2], fun _ => clD_B _⟩
theorem madd_body {W : List Wd} {t : Nat → Nat} {n d : Nat} {M0 : Mem} {x : Int32} {Q : Int32 → Mem → Prop} (hT : MT t n M0) (hW : Kw W) (hd : d < 64) (h9 : M0.1 1209 0 0 = nI d) (q0 : rF (fdR t n W) = 0 → ∀ M, MRd (fdR t n W) n d M0 M → bX11_add_110 x Q M (nI W.length) (nI (rT (fdR t n W)).length)) (q1 : ∀ M y, JA t n W d M0 M → bX11_add_110 x Q M (nI W.length) y) {L : Mem × Int32 × Int32 → Prop} {M : Mem} {y : Int32} {i : Nat} (h : JB t n W d M0 i M y) (hL1 : ∀ M' y' j, i < j → JB t n W d M0 j M' y' → L (M', nI W.length, y')) (hL2 : ∀ M' y', JA t n W d M0 M' → L (M', nI W.length, y')) : bX11_add_54 x Q L M (nI W.length) y := by
  obtain ⟨hi, j1, j2, j3, j4, rfl⟩ := h
  obtain ⟨b1', b2, b3, b4⟩ := bE_c (t := t) hi
  obtain ⟨r1, r2, r3⟩ := rdD_bl hW b1' b2 j1 j3 b3
  have hn := hT.2.2.1
  have ht := hT.2.2.2
  have hm : MT t n M := hT.kp j4.1 (by unfold pMr; simp) (by unfold pMr; simp)
  have h1n : ¬ nI 1 = (0 : Int32) := by show ¬ nI 1 = nI 0; rw [eqI (by omega) (by omega)]; omega
  have hIc := RI_cl (rdD_I hW (t := t) (n := n) i) j1
  have hTl := (hIc i j3).2.2.1
  unfold bX11_add_54
  refine mfine0 j4.2.2.1 ?_
  refine ⟨fun q => absurd q h1n, fun _ => ?_⟩
  refine mblanks hm hi j4.2.1 (fun M1 k1 a1 => ?_)
  have j5 : MRd (clD (rdD t n W i)) (bE t i n) d M0 M1 := j4.at k1 a1
  have hm1 : MT t n M1 := hm.kp k1 rfl rfl
  have h91 : M1.1 1209 0 0 = nI d := by rw [j5.1.g (by unfold pMr; simp)]; exact h9
  generalize hk : bE t i n = k at b1' b2 b3 b4 r1 r2 r3 a1 j5
  by_cases ek : k = n
  · have eb : bt t n k = none := by unfold bt; rw [if_neg (by omega)]
    rw [eb]
    refine ⟨fun _ => ?_, fun q => absurd rfl q⟩
    rw [ek] at r1 r2 j5
    have e1 := rdD_end hW r1
    rw [r2] at e1
    by_cases eT : rT (clD (rdD t n W i)) = []
    · have ef : fdR t n W = (1, n, [], W, 0, []) := by unfold fdR; rw [if_pos (by rw [e1]; exact ⟨j3, eT⟩)]
      have e0 : (rT (clD (rdD t n W i))).length = 0 := by rw [eT]; rfl
      rw [e0]
      obtain ⟨z1, z2, z3, z4, z5, z6⟩ := j5
      obtain ⟨-, ⟨e, g2⟩, -⟩ := hIc i j3
      have hq := q1 (up1 (up1 M1 1206 0 0 (nI 1)) 1207 0 0 (nI n)) (nI 0) (by
        unfold JA
        rw [ef]
        exact ⟨Nat.succ_ne_zero 0, z1.tr (k_wrong.wk (fun _ _ => pMr_w)), by rw [up1_ne (by simp), up1_eq]; rfl, by rw [up1_eq]; rfl, (MPre_of z5 g2).wo k_wrong⟩)
      unfold bX11_add_110 at hq ⊢
      refine ⟨fun q => absurd rfl q, fun _ => ?_⟩
      have hq2 := hq.2 rfl
      have : M1.1 1204 0 0 = nI n := z2
      rw [this]
      refine mwrong0 z3 ?_
      have hx : ∀ N : Mem, N.1 1206 0 0 = nI 1 → pX11_wrong N 1 (N.1 1204 0 0) (fun M42 => bX11_add_123 x Q M42 (nI W.length) (nI 0)) → bX11_add_123 x Q N (nI W.length) (nI 0) := by
        intro N hN hq3
        unfold pX11_wrong at hq3
        exact hq3.1 (by rw [hN]; exact h1n)
      exact hx _ (by rw [up1_ne (by simp), up1_eq]; rfl) hq2
    · have ef : fdR t n W = clD (rdD t n W i) := by unfold fdR; rw [if_neg (show ¬ (rF (rdD t n W (n + 1)) = 0 ∧ rT (rdD t n W (n + 1)) = []) from fun q => eT (by rw [← e1]; exact q.2)), e1]
      rw [ef] at q0
      exact q0 j3 M1 j5
  · have hkn : k < n := by omega
    have eb : bt t n k = some (t k) := by unfold bt; rw [if_pos hkn]
    have htk := ht k
    have hnO : ¬ nI (t k) = nO := nO_ne (by omega)
    rw [eb]
    refine ⟨fun q => absurd q hnO, fun _ => ?_⟩
    show pX11_byteAt M1 (M1.1 1204 0 0) _
    rw [a1]
    refine mbyteAt hm1 (by omega) ?_
    rw [eb]
    refine misL (by omega) ?_
    by_cases hl : isL (t k) = true
    · rw [hl]
      refine ⟨fun _ => ?_, fun q => absurd q h1n⟩
      have hb0 : rB (rdD t n W k) = 0 := by
        by_cases z : i < k
        · exact r3 z
        · obtain rfl : i = k := by omega
          rcases j2 with j2 | j2 | j2
          · exact j2
          · omega
          · rw [hl] at j2; cases j2
      have ec : clD (rdD t n W i) = rdD t n W k := by rw [← r2, clD_0 hb0]
      rw [ec] at j5 hTl ⊢
      rw [h91]
      obtain ⟨w1, w2, w3, w4⟩ := wE_c (t := t) b2
      have hI := rdD_I hW (t := t) (n := n) k
      refine mreadsNext hT hI r1 hb0 hkn hl hd j5 (fun z M2 m2 => ?_) (fun z z2 M2 m2 => ?_) (fun z z2 z3 M2 m2 => ?_) (fun z z2 z3 M2 m2 => ?_)
      · have e1 := rdD_150 hW r1 hb0 (by omega) hkn hl
        have ef := fdR_f (t := t) (n := n) (W := W) (i := k + 1) (by omega) (by rw [e1]; exact Nat.succ_ne_zero 1)
        unfold bX11_add_104
        intro v39 e39
        refine hL2 M2 v39 ?_
        unfold JA
        rw [ef, e1]
        exact ⟨Nat.succ_ne_zero 1, m2⟩
      · have e1 := rdD_nine hW r1 hb0 z (by omega) (fun j hj => w3 (k + j) (by omega) (by omega))
        have ef := fdR_f (t := t) (n := n) (W := W) (i := k + 8 + 1) (by omega) (by rw [e1]; exact Nat.succ_ne_zero 0)
        unfold bX11_add_104
        intro v39 e39
        refine hL2 M2 v39 ?_
        unfold JA
        rw [ef, e1]
        exact ⟨Nat.succ_ne_zero 0, m2⟩
      · have hke : k < wE t k n := by
          rcases w4 with w4 | w4
          · omega
          · by_cases q : wE t k n = k
            · rw [q, hl] at w4; cases w4
            · omega
        have e1 := rdD_let hW (m := wE t k n - k - 1) r1 hb0 z (by omega) (by omega) (fun j hj => w3 (k + j) (by omega) (by omega))
        rw [show k + (wE t k n - k - 1) + 1 = wE t k n by omega, show wE t k n - k - 1 + 1 = wE t k n - k by omega] at e1
        have e2 : clD (rdD t n W (wE t k n)) = (2, k, rT (rdD t n W k), rW (rdD t n W k), 0, []) := by
          rw [e1]
          unfold clD
          rw [if_neg (show ¬ rB ((0, 0, rT (rdD t n W k), rW (rdD t n W k), k + 1, wdr t k (wE t k n - k)) : Rd) = 0 from Nat.succ_ne_zero k)]
          exact if_pos z3
        have e3 := rdD_cl hW (i := wE t k n) w2 (by rw [e1]; rfl) w4 (by rw [e2]; exact Nat.succ_ne_zero 1)
        rw [e2] at e3
        have ef := fdR_f (t := t) (n := n) (W := W) (i := wE t k n + 1) (by omega) (by rw [e3]; exact Nat.succ_ne_zero 1)
        unfold bX11_add_104
        intro v39 e39
        refine hL2 M2 v39 ?_
        unfold JA
        rw [ef, e3]
        exact ⟨Nat.succ_ne_zero 1, m2⟩
      · have hke : k < wE t k n := by
          rcases w4 with w4 | w4
          · omega
          · by_cases q : wE t k n = k
            · rw [q, hl] at w4; cases w4
            · omega
        have e1 := rdD_let hW (m := wE t k n - k - 1) r1 hb0 z (by omega) (by omega) (fun j hj => w3 (k + j) (by omega) (by omega))
        rw [show k + (wE t k n - k - 1) + 1 = wE t k n by omega, show wE t k n - k - 1 + 1 = wE t k n - k by omega] at e1
        have e2 : clD (rdD t n W (wE t k n)) = (0, 0, rT (rdD t n W k) ++ [whP (rW (rdD t n W k)) (wdr t k (wE t k n - k))], tkW (rW (rdD t n W k)) (wdr t k (wE t k n - k)), 0, []) := by
          rw [e1]
          unfold clD
          rw [if_neg (show ¬ rB ((0, 0, rT (rdD t n W k), rW (rdD t n W k), k + 1, wdr t k (wE t k n - k)) : Rd) = 0 from Nat.succ_ne_zero k)]
          exact if_neg z3
        unfold bX11_add_104
        intro v39 e39
        refine hL1 M2 v39 (wE t k n) (by omega) ⟨w2, by rw [e1]; rfl, Or.inr w4, by rw [e2]; rfl, by rw [e2]; exact m2, ?_⟩
        rw [e39, e2]
        show nI (rT (rdD t n W k)).length + nI 1 = nI (rT (rdD t n W k) ++ [whP (rW (rdD t n W k)) (wdr t k (wE t k n - k))]).length
        rw [adI, List.length_append]; rfl
    · have hlf : isL (t k) = false := by cases q : isL (t k); rfl; exact absurd q hl
      rw [hlf]
      refine ⟨fun q => absurd rfl q, fun _ => ?_⟩
      have hb32 : t k ≠ 32 := by
        rcases b4 with b4 | b4
        · omega
        · exact b4
      have e1 := rdD_other hW (i := k) hkn r1 hb32 hlf (by rw [r2]; exact j3)
      have ef := fdR_f (t := t) (n := n) (W := W) (i := k + 1) (by omega) (by rw [e1]; exact Nat.succ_ne_zero 0)
      obtain ⟨z1, z2, z3, z4, z5, z6⟩ := j5
      obtain ⟨-, ⟨e, g2⟩, -⟩ := hIc i j3
      show pX11_wrong M1 1 (M1.1 1204 0 0) _
      rw [a1]
      refine mwrong0 z3 ?_
      unfold bX11_add_104
      intro v39 e39
      refine hL2 _ v39 ?_
      unfold JA
      rw [ef, e1]
      exact ⟨Nat.succ_ne_zero 0, z1.tr (k_wrong.wk (fun _ _ => pMr_w)), by rw [up1_ne (by simp), up1_eq]; rfl, by rw [up1_eq]; rfl, (MPre_of z5 g2).wo k_wrong⟩
theorem madd_loop {W : List Wd} {t : Nat → Nat} {n d : Nat} {M0 : Mem} {x : Int32} {Q : Int32 → Mem → Prop} (hT : MT t n M0) (hW : Kw W) (hd : d < 64) (h9 : M0.1 1209 0 0 = nI d) (q0 : rF (fdR t n W) = 0 → ∀ M, MRd (fdR t n W) n d M0 M → bX11_add_110 x Q M (nI W.length) (nI (rT (fdR t n W)).length)) (q1 : ∀ M y, JA t n W d M0 M → bX11_add_110 x Q M (nI W.length) y) {M : Mem} (h : JB t n W d M0 0 M (nI 0)) : ∃ k : Nat, lp (fun L s => bX11_add_54 x Q L s.1 s.2.1 s.2.2) k (M, nI W.length, nI 0) := by
  have hn := hT.2.2.1
  refine lp_rule (fun s => s.2.1 = nI W.length ∧ ((∃ i, JB t n W d M0 i s.1 s.2.2) ∨ JA t n W d M0 s.1)) (fun s => if s.1.1 1206 0 0 = nI 0 then 301 - tn (s.1.1 1204 0 0) else 0) ?_ ⟨rfl, Or.inl ⟨0, h⟩⟩
  rintro ⟨m, y1, y2⟩ ⟨rfl, hJ⟩ L hL
  rcases hJ with ⟨i, hB⟩ | hA
  · have hB0 := hB
    dsimp only at hB
    have e6 : m.1 1206 0 0 = nI 0 := hB.2.2.2.2.1.2.2.1
    have e4 : m.1 1204 0 0 = nI i := hB.2.2.2.2.1.2.1
    have hi := hB.1
    have mu : (if m.1 1206 0 0 = nI 0 then 301 - tn (m.1 1204 0 0) else 0) = 301 - i := by
      rw [if_pos e6, e4, tnI (by omega)]
    refine madd_body hT hW hd h9 q0 q1 hB (fun M' y' j hj hJ' => ?_) (fun M' y' hJ' => ?_)
    · refine hL _ ⟨rfl, Or.inl ⟨j, hJ'⟩⟩ ?_
      show (if M'.1 1206 0 0 = nI 0 then 301 - tn (M'.1 1204 0 0) else 0) < (if m.1 1206 0 0 = nI 0 then 301 - tn (m.1 1204 0 0) else 0)
      rw [mu]
      have hj2 := hJ'.1
      rw [if_pos hJ'.2.2.2.2.1.2.2.1, hJ'.2.2.2.2.1.2.1, tnI (by omega)]
      omega
    · refine hL _ ⟨rfl, Or.inr hJ'⟩ ?_
      show (if M'.1 1206 0 0 = nI 0 then 301 - tn (M'.1 1204 0 0) else 0) < (if m.1 1206 0 0 = nI 0 then 301 - tn (m.1 1204 0 0) else 0)
      rw [mu]
      have hP := fdR_P hW (t := t) (n := n) hJ'.1
      rw [if_neg (show ¬ M'.1 1206 0 0 = nI 0 by rw [hJ'.2.2.1, eqI (by omega) (by omega)]; exact hJ'.1)]
      omega
  · dsimp only at hA
    have hP := fdR_P hW (t := t) (n := n) hA.1
    unfold bX11_add_54
    refine mfine1 hA.2.2.1 hA.1 (by omega) ?_
    exact ⟨fun _ => q1 m y2 hA, fun q => absurd rfl q⟩
