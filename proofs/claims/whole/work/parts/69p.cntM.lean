/-! PURE: the reference counts a document's words -/
def pMa (c _ : Nat) : Bool := decide (¬ (c = 1204 ∨ c = 1205 ∨ c = 1206 ∨ c = 1207 ∨ c = 1209 ∨ c = 1210 ∨ c = 1213 ∨ c = 1214 ∨ c = 1215 ∨ c = 1216 ∨ c = 1231 ∨ c = 1232 ∨ c = 6212 ∨ c = 6217))
theorem pMa_r {d c i : Nat} (h : pMa c i = true) : pMr d c i = true := by unfold pMa at h; unfold pMr; simp at h ⊢; omega
def pCt (c _ : Nat) : Bool := decide (c ≠ 6217)
theorem pMa_c {c i : Nat} (h : pMa c i = true) : pCt c i = true := by unfold pMa at h; unfold pCt; simp at h ⊢; omega
def CT (D : Dc) (T : List Nat) (k : Nat) (M : Mem) : Prop := ∀ w e, M.1 6217 w e = nI (if e = D.length then ctT T w k else cnt D w e)
theorem mcount {D : Dc} {T : List Nat} {M : Mem} {x : Int32} (hd : D.length < 64) (hT : T.length ≤ 150) (hw : ∀ w, w ∈ T → w < 255) (ht : ∀ k, k < T.length → M.1 6212 D.length k = nI (T.getD k 0)) (h9 : M.1 1209 0 0 = nI D.length) (hc : CT D T 0 M) {Q : Int32 → Mem → Prop} (hQ : ∀ M', Kp pCt M M' → CT D T T.length M' → Q (nI D.length) (up1 M' 1209 0 0 (nI (D.length + 1)))) : ∃ n : Nat, lp (fun L s => bX11_add_205 x Q L s.1 s.2.1 s.2.2.1 s.2.2.2) n (M, nI T.length, nI D.length, 0) := by
  refine lp_up (fun k s => s.2 = (nI T.length, nI D.length, nI k) ∧ Kp pCt M s.1 ∧ CT D T k s.1) (Nat.zero_le T.length) ⟨rfl, Kp.rf, hc⟩ ?_ ?_
  · rintro k ⟨m, y⟩ L - hk ⟨rfl, k1, k2⟩ hL
    dsimp only at k1 k2
    have e1 : m.1 6212 D.length k = nI (T.getD k 0) := by rw [k1.g rfl]; exact ht k hk
    have e2 := hw _ (getD_mem hk)
    have e3 : m.1 6217 (T.getD k 0) D.length = nI (ctT T (T.getD k 0) k) := by rw [k2, if_pos rfl]
    unfold bX11_add_205
    try simp (disch := omega) only [li, nO_n, adI, mlI, tnI, vpI, ltI, leI, eqI, forall_eq, leT, leF, ltT, ltF, eqT, eqF, true_and, and_true, false_implies, true_implies, forall_const, not_true_eq_false, not_false_eq_true, implies_true, e1, e3]
    refine hL _ ⟨rfl, k1.u1 rfl, fun w e => ?_⟩
    dsimp only
    rw [up1_if]
    by_cases q : w = T.getD k 0 ∧ e = D.length
    · rw [if_pos q, if_pos q.2, q.1, ctT_s, if_pos rfl]
    · rw [if_neg q, k2]
      by_cases q2 : e = D.length
      · rw [if_pos q2, if_pos q2, ctT_s, if_neg (show ¬ T.getD k 0 = w from fun z => q ⟨z.symm, q2⟩)]
      · rw [if_neg q2, if_neg q2]
  · rintro ⟨m, y⟩ L ⟨rfl, k1, k2⟩
    dsimp only at k1 k2
    have e9 : m.1 1209 0 0 = nI D.length := by rw [k1.g rfl]; exact h9
    unfold bX11_add_205
    try simp (disch := omega) only [li, nO_n, adI, mlI, tnI, vpI, ltI, leI, eqI, forall_eq, leT, leF, ltT, ltF, eqT, eqF, true_and, and_true, false_implies, true_implies, forall_const, not_true_eq_false, not_false_eq_true, implies_true, e9]
    exact hQ m k1 k2
theorem mclear {D : Dc} {T : List Nat} {kn : Nat} {M : Mem} {x : Int32} (hd : D.length < 64) (hkn : kn ≤ 255) (hk : M.1 1210 0 0 = nI kn) (hT : T.length ≤ 150) (hw : ∀ w, w ∈ T → w < 255) (ht : ∀ k, k < T.length → M.1 6212 D.length k = nI (T.getD k 0)) (h9 : M.1 1209 0 0 = nI D.length) (hc : CT D T 0 M) {Q : Int32 → Mem → Prop} (hQ : ∀ M', Kp pCt M M' → CT D T T.length M' → Q (nI D.length) (up1 M' 1209 0 0 (nI (D.length + 1)))) : ∃ n : Nat, lp (fun L s => bX11_add_176 x Q L s.1 s.2.1 s.2.2.1 s.2.2.2) n (M, nI T.length, nI D.length, 0) := by
  refine lp_up (fun k s => s.2 = (nI T.length, nI D.length, nI k) ∧ Kp pCt M s.1 ∧ CT D T 0 s.1) (Nat.zero_le kn) ⟨rfl, Kp.rf, hc⟩ ?_ ?_
  · rintro k ⟨m, y⟩ L - hk2 ⟨rfl, k1, k2⟩ hL
    dsimp only at k1 k2
    have e1 : m.1 1210 0 0 = nI kn := by rw [k1.g rfl]; exact hk
    unfold bX11_add_176
    try simp (disch := omega) only [li, nO_n, adI, mlI, tnI, vpI, ltI, leI, eqI, forall_eq, leT, leF, ltT, ltF, eqT, eqF, true_and, and_true, false_implies, true_implies, forall_const, not_true_eq_false, not_false_eq_true, implies_true, e1]
    refine hL _ ⟨rfl, k1.u1 rfl, fun w e => ?_⟩
    dsimp only
    rw [up1_if]
    by_cases q : w = k ∧ e = D.length
    · rw [if_pos q, if_pos q.2]; rfl
    · rw [if_neg q]; exact k2 w e
  · rintro ⟨m, y⟩ L ⟨rfl, k1, k2⟩
    dsimp only at k1 k2
    have e1 : m.1 1210 0 0 = nI kn := by rw [k1.g rfl]; exact hk
    unfold bX11_add_176
    try simp (disch := omega) only [li, nO_n, adI, mlI, tnI, vpI, ltI, leI, eqI, forall_eq, leT, leF, ltT, ltF, eqT, eqF, true_and, and_true, false_implies, true_implies, forall_const, not_true_eq_false, not_false_eq_true, implies_true, e1]
    exact mcount hd hT hw (fun k hk => by rw [k1.g rfl]; exact ht k hk) (by rw [k1.g rfl]; exact h9) k2 (fun M' z1 z2 => hQ M' (k1.tr z1) z2)
theorem madd_ok {D : Dc} {W : List Wd} {t : Nat → Nat} {n : Nat} {M0 : Mem} {x : Int32} {Q : Int32 → Mem → Prop} (h : MD D M0) (hD : DW D W.length) (hT : MT t n M0) (hW : Kw W) (hd : D.length < 64) (q0 : rF (fdR t n W) = 0 → ∀ M', Kp pMa M0 M' → MD (dE D (rT (fdR t n W))) M' → MWr (rW (fdR t n W)) M' → M'.1 1205 0 0 = nO → Q (nI D.length) M') (q1 : rF (fdR t n W) ≠ 0 → ∀ M', Kp pMa M0 M' → MD D M' → MWr W M' → M'.1 1205 0 0 = nI (rP (fdR t n W)) → Q (nI (rF (fdR t n W)) - nI 10) M') (hf : rF (fdR t n W) = 0) {M : Mem} (hR : MRd (fdR t n W) n D.length M0 M) : bX11_add_110 x Q M (nI W.length) (nI (rT (fdR t n W)).length) := by
  obtain ⟨g1, g2, g3, g4, g5⟩ := fdR_I hW hf
  obtain ⟨a1, a2, a3, a4, a5, a6⟩ := hR
  have q0 := q0 hf
  generalize fdR t n W = s at g1 g2 g3 g4 g5 a5 a6 q0
  have hkn := g1.1
  have h9 : M.1 1209 0 0 = nI D.length := by rw [a1.g (by unfold pMr; simp)]; exact h.n
  have f6 : (up1 M 1205 0 0 nO).1 1206 0 0 = nI 0 := by rw [up1_ne (by simp)]; exact a3
  have f9 : (up1 M 1205 0 0 nO).1 1209 0 0 = nI D.length := by rw [up1_ne (by simp)]; exact h9
  unfold bX11_add_110 bX11_add_123
  have hz : ¬ nI (rT s).length = 0 := by show ¬ nI (rT s).length = nI 0; rw [eqI (by omega) (by omega)]; omega
  refine ⟨fun _ => ?_, fun q => absurd q hz⟩
  intro M43 e43
  rw [a4] at e43
  subst e43
  refine mfine0 f6 ?_
  refine ⟨fun _ => ?_, fun q => absurd q (by show ¬ nI 1 = nI 0; rw [eqI (by omega) (by omega)]; omega)⟩
  try simp (disch := omega) only [li, nO_n, adI, mlI, tnI, vpI, ltI, leI, eqI, forall_eq, leT, leF, ltT, ltF, eqT, eqF, true_and, and_true, false_implies, true_implies, forall_const, not_true_eq_false, not_false_eq_true, implies_true, f9]
  have kk : Kp pMa M0 (up1 (up1 (up1 M 1205 0 0 nO) 1213 0 D.length (nI (rT s).length)) 1214 0 D.length (nI 1)) := (((a1.wk (fun _ _ => pMa_r)).u1 rfl).u1 rfl).u1 rfl
  refine mclear (kn := (rW s).length) hd hkn (by rw [up1_ne (by simp), up1_ne (by simp), up1_ne (by simp)]; exact a5.1) g4 (fun w hw => by have := g5 w hw; omega) (fun k hk => by rw [up1_ne (by simp), up1_ne (by simp), up1_ne (by simp)]; exact a6 k hk) (by rw [up1_ne (by simp), up1_ne (by simp), up1_ne (by simp)]; exact h9) (fun w e => ?_) (fun M' k1 k2 => ?_)
  · rw [up1_ne (by simp), up1_ne (by simp), up1_ne (by simp), a1.g (by unfold pMr; simp), h.cn]
    by_cases z : e = D.length
    · rw [if_pos z, z, cnt_out (Nat.le_refl _)]; rfl
    · rw [if_neg z]
  · refine q0 _ ((kk.tr (k1.wk (fun _ _ => pMa_c))).u1 rfl) ⟨?_, fun d => ?_, fun d => ?_, fun d p hd1 hp => ?_, fun w d => ?_⟩ ⟨?_, fun w hw => ⟨?_, ?_⟩⟩ ?_
    · rw [up1_eq, dE_len]
    · rw [up1_ne (by simp), k1.g rfl, up1_ne (by simp), up1_if]
      by_cases e : d = D.length
      · rw [if_pos ⟨rfl, e⟩, e, dL_d]
      · rw [if_neg (na2 e), up1_ne (by simp), a1.g (by unfold pMr; simp), dL_o _ e]; exact h.len d
    · rw [up1_ne (by simp), k1.g rfl, up1_if]
      by_cases e : d = D.length
      · rw [if_pos ⟨rfl, e⟩, e, dS_d]
      · rw [if_neg (na2 e), up1_ne (by simp), up1_ne (by simp), a1.g (by unfold pMr; simp), dS_o _ e]; exact h.st d
    · rw [up1_ne (by simp), k1.g rfl, up1_ne (by simp), up1_ne (by simp), up1_ne (by simp)]
      by_cases e : d = D.length
      · rw [e, dL_d] at hp
        rw [e, dT_d]; exact a6 p hp
      · rw [dL_o _ e] at hp
        rw [dT_o _ e, a1.g (by unfold pMr; simp; exact e)]; exact h.tx hp
    · rw [up1_ne (by simp), k2]
      by_cases e : d = D.length
      · rw [if_pos e, e, cnt_d]
      · rw [if_neg e, cnt_o _ e]
    · rw [up1_ne (by simp), k1.g rfl, up1_ne (by simp), up1_ne (by simp), up1_ne (by simp)]; exact a5.1
    · rw [up1_2, k1.g2 rfl, up1_2, up1_2, up1_2]; exact (a5.2 w hw).1
    · rw [up1_ne (by simp), k1.g rfl, up1_ne (by simp), up1_ne (by simp), up1_ne (by simp)]; exact (a5.2 w hw).2
    · rw [up1_ne (by simp), k1.g rfl, up1_ne (by simp), up1_ne (by simp), up1_eq]
theorem madd_no {D : Dc} {W : List Wd} {t : Nat → Nat} {n : Nat} {M0 : Mem} {x : Int32} {Q : Int32 → Mem → Prop} (h : MD D M0) (hD : DW D W.length) (hT : MT t n M0) (hW : Kw W) (hd : D.length < 64) (q0 : rF (fdR t n W) = 0 → ∀ M', Kp pMa M0 M' → MD (dE D (rT (fdR t n W))) M' → MWr (rW (fdR t n W)) M' → M'.1 1205 0 0 = nO → Q (nI D.length) M') (q1 : rF (fdR t n W) ≠ 0 → ∀ M', Kp pMa M0 M' → MD D M' → MWr W M' → M'.1 1205 0 0 = nI (rP (fdR t n W)) → Q (nI (rF (fdR t n W)) - nI 10) M') {M : Mem} {y : Int32} (hA : JA t n W D.length M0 M) : bX11_add_110 x Q M (nI W.length) y := by
  obtain ⟨hf, a1, a2, a3, a4⟩ := hA
  have hP := fdR_P hW hf
  have q1 := q1 hf
  generalize fdR t n W = s at hf a1 a2 a3 hP q1
  have h23 : bX11_add_123 x Q M (nI W.length) y := by
    have f6 : (up1 M 1205 0 0 (nI (rP s))).1 1206 0 0 = nI (rF s) := by rw [up1_ne (by simp)]; exact a2
    have f6b : (up1 (up1 M 1205 0 0 (nI (rP s))) 1210 0 0 (nI W.length)).1 1206 0 0 = nI (rF s) := by rw [up1_ne (by simp)]; exact f6
    unfold bX11_add_123
    intro M43 e43
    rw [a3] at e43
    subst e43
    refine mfine1 f6 hf (by omega) ?_
    refine ⟨fun q => absurd rfl q, fun _ => ?_⟩
    intro M51 e51
    subst e51
    rw [f6b]
    have kk : Kp (pMr D.length) M0 M := a1
    refine q1 _ (((a1.wk (fun _ _ => pMa_r)).u1 rfl).u1 rfl) ⟨?_, fun d => ?_, fun d => ?_, fun d p hd1 hp => ?_, fun w d => ?_⟩ ⟨up1_eq, fun w hw => ⟨?_, ?_⟩⟩ ?_
    · rw [up1_ne (by simp), up1_ne (by simp), a1.g (by unfold pMr; simp)]; exact h.n
    · rw [up1_ne (by simp), up1_ne (by simp), a1.g (by unfold pMr; simp)]; exact h.len d
    · rw [up1_ne (by simp), up1_ne (by simp), a1.g (by unfold pMr; simp)]; exact h.st d
    · rw [up1_ne (by simp), up1_ne (by simp), a1.g (by unfold pMr; simp; omega)]; exact h.tx hp
    · rw [up1_ne (by simp), up1_ne (by simp), a1.g (by unfold pMr; simp)]; exact h.cn w d
    · rw [up1_2, up1_2]; exact (a4 w hw).1
    · rw [up1_ne (by simp), up1_ne (by simp)]; exact (a4 w hw).2
    · rw [up1_ne (by simp), up1_eq]
  unfold bX11_add_110
  refine ⟨fun _ => h23, fun _ => ?_⟩
  exact mwrong1 a2 hf (by omega) h23
/-- from the start on -/
theorem madd_all {D : Dc} {W : List Wd} {t : Nat → Nat} {n : Nat} {M0 : Mem} {x : Int32} {Q : Int32 → Mem → Prop} (h : MD D M0) (hD : DW D W.length) (hT : MT t n M0) (hW : Kw W) (hd : D.length < 64) (q0 : rF (fdR t n W) = 0 → ∀ M', Kp pMa M0 M' → MD (dE D (rT (fdR t n W))) M' → MWr (rW (fdR t n W)) M' → M'.1 1205 0 0 = nO → Q (nI D.length) M') (q1 : rF (fdR t n W) ≠ 0 → ∀ M', Kp pMa M0 M' → MD D M' → MWr W M' → M'.1 1205 0 0 = nI (rP (fdR t n W)) → Q (nI (rF (fdR t n W)) - nI 10) M') (hw : MWr W M0) (h4 : M0.1 1204 0 0 = nI 0) (h6 : M0.1 1206 0 0 = nI 0) (h7 : M0.1 1207 0 0 = nO) : ∃ k : Nat, lp (fun L s => bX11_add_54 x Q L s.1 s.2.1 s.2.2) k (M0, nI W.length, nI 0) := by
  refine madd_loop hT hW hd h.n (fun hf M hM => madd_ok h hD hT hW hd q0 q1 hf hM) (fun M y hM => madd_no h hD hT hW hd q0 q1 hM) ⟨Nat.zero_le _, rfl, Or.inl rfl, rfl, ?_, rfl⟩
  exact ⟨Kp.rf, h4, h6, h7, hw, fun k hk => absurd hk (Nat.not_lt_zero _)⟩
