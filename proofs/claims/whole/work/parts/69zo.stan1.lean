/-! PURE: the reference's question, piece by piece -/
def PA (L : Sc) (M : Mem) : Prop := M.1 1218 0 0 = nI L.length ∧ ∀ k, k < L.length → M.1 1225 0 k = nI (L.getD k (0, 0, false)).1 ∧ M.1 1226 0 k = nI (L.getD k (0, 0, false)).2.1
def PM (L : Sc) (c : Nat) (M : Mem) : Prop := ∃ ml : List Nat, ml.length ≤ c ∧ M.1 1219 0 0 = nI ml.length ∧ (∀ k, k < ml.length → M.1 1227 0 k = nI (ml.getD k 0)) ∧ ∀ w, w ∈ ml ↔ ∃ i, i < L.length ∧ (L.getD i (0, 0, false)).1 = w ∧ (L.getD i (0, 0, false)).2.2 = true
def PU (u : Bool) (M : Mem) : Prop := M.1 1224 0 0 = nI (b1 u)
def PX (X : List Nat) (M : Mem) : Prop := M.1 1220 0 0 = nI X.length ∧ ∀ k, k < X.length → M.1 1228 0 k = nI (X.getD k 0)
def PF (F : List (List (Option Nat))) (M : Mem) : Prop := M.1 1221 0 0 = nI F.length ∧ (∀ j, j < F.length → M.1 1229 0 j = nI (F.getD j []).length) ∧ ∀ j k, j < F.length → k < (F.getD j []).length → M.1 6230 j k = oI ((F.getD j []).getD k none)
theorem MK_of {K : Qc} {M : Mem} (h1 : M.1 1222 0 0 = nI (qP K)) (h2 : M.1 1223 0 0 = nI (qR K)) (a : PA (qS K) M) (m : PM (qS K) 24 M) (u : PU (qU K) M) (x : PX (qX K) M) (f : PF (qF K) M) : MK K M := ⟨h1, a.1, u, x.1, f.1, h2, a.2, m, x.2, f.2.1, f.2.2⟩
theorem PA.kp {P : Nat → Nat → Bool} {L : Sc} {M M' : Mem} (h : PA L M) (k : Kp P M M') (a : P 1218 0 = true) (b : P 1225 0 = true) (c : P 1226 0 = true) : PA L M' := ⟨(k.g a 0).trans h.1, fun j hj => ⟨(k.g b j).trans (h.2 j hj).1, (k.g c j).trans (h.2 j hj).2⟩⟩
theorem PM.kp {P : Nat → Nat → Bool} {L : Sc} {c : Nat} {M M' : Mem} (h : PM L c M) (k : Kp P M M') (a : P 1219 0 = true) (b : P 1227 0 = true) : PM L c M' := by
  obtain ⟨ml, h1, h2, h3, h4⟩ := h
  exact ⟨ml, h1, (k.g a 0).trans h2, fun j hj => (k.g b j).trans (h3 j hj), h4⟩
theorem PX.kp {P : Nat → Nat → Bool} {X : List Nat} {M M' : Mem} (h : PX X M) (k : Kp P M M') (a : P 1220 0 = true) (b : P 1228 0 = true) : PX X M' := ⟨(k.g a 0).trans h.1, fun j hj => (k.g b j).trans (h.2 j hj)⟩
theorem PF.kp {P : Nat → Nat → Bool} {F : List (List (Option Nat))} {M M' : Mem} (h : PF F M) (k : Kp P M M') (a : P 1221 0 = true) (b : P 1229 0 = true) (c : ∀ i, P 6230 i = true) : PF F M' := ⟨(k.g a 0).trans h.1, fun j hj => (k.g b j).trans (h.2.1 j hj), fun j i hj hi => (k.g (c j) i).trans (h.2.2 j i hj hi)⟩
def kSco (c _ : Nat) : Bool := decide (c ≠ 1218 ∧ c ≠ 1225 ∧ c ≠ 1226)
theorem mscores {L : Sc} {w y : Nat} {M : Mem} (h : PA L M) (hL : L.length < 24) (hw : w < 255) (hk : ∀ i, i < L.length → (L.getD i (0, 0, false)).1 < 255) {Q : Mem → Prop} (hQ : ∀ M', Kp kSco M M' → (∀ m, PA (wntL L w y m) M') → Q M') : pX11_scores M (nI w) (nI y) Q := by
  obtain ⟨c1, c2, c3⟩ := sci_c L w
  unfold pX11_scores
  refine lp_up (fun i s => s = (M, nI i)) (Nat.zero_le (sci L w)) rfl ?_ ?_
  · rintro i s L2 - hi rfl hL2
    have hne := c2 i hi
    have hki := hk i (by omega)
    have e1 := (h.2 i (by omega)).1
    have hadd := adI i 1
    unfold bX11_scores_2
    dsimp only
    rw [h.1, leI (by omega) (by omega)]
    refine ⟨fun q => absurd q (by omega), fun _ => ⟨(vpI (by omega)).mpr (by omega), ?_⟩⟩
    rw [tnI (by omega), e1, eqI (by omega) (by omega)]
    exact ⟨fun q => absurd q hne, fun _ v ev => hL2 _ (by rw [ev]; exact congrArg (fun z => (M, z)) hadd)⟩
  · rintro s L2 rfl
    unfold bX11_scores_2
    dsimp only
    rw [h.1, leI (by omega) (by omega)]
    by_cases e : sci L w = L.length
    · refine ⟨fun _ => ⟨(vpI (by omega)).mpr (by omega), ?_⟩, fun q => absurd (by omega) q⟩
      rw [tnI (by omega)]
      intro M3 e3
      have f3 : M3.1 1218 0 0 = nI L.length := by rw [e3, up1_ne (by simp)]; exact h.1
      rw [f3]
      refine ⟨(vpI (by omega)).mpr (by omega), ?_⟩
      rw [tnI (by omega)]
      intro M5 e5
      have f5 : M5.1 1218 0 0 = nI L.length := by rw [e5, up1_ne (by simp)]; exact f3
      rw [f5]
      intro M6 e6
      have e6' : M6 = up1 M5 1218 0 0 (nI (L.length + 1)) := by rw [e6]; exact congrArg (up1 M5 1218 0 0) (adI _ 1)
      subst e6' e5 e3
      refine hQ _ (((Kp.rf.u1 rfl).u1 rfl).u1 rfl) (fun m => ?_)
      unfold wntL
      rw [if_pos e]
      have hl : (L ++ [(w, y, m)]).length = L.length + 1 := by rw [List.length_append]; rfl
      refine ⟨by rw [up1_eq, hl], fun k hk2 => ?_⟩
      rw [hl] at hk2
      rw [gd_app]
      by_cases q : k = L.length
      · rw [if_pos q, q]
        exact ⟨by rw [up1_ne (by simp), up1_ne (by simp), up1_eq], by rw [up1_ne (by simp), up1_eq]⟩
      · rw [if_neg q]
        have := h.2 k (by omega)
        exact ⟨by rw [up1_ne (by simp), up1_ne (by simp), up1_ne (fun z => q z.2.2)]; exact this.1, by rw [up1_ne (by simp), up1_ne (fun z => q z.2.2), up1_ne (by simp)]; exact this.2⟩
    · have c4 : sci L w < L.length := by omega
      have c5 := c3.resolve_left e
      obtain ⟨e1, e2⟩ := h.2 _ c4
      refine ⟨fun q => absurd q (by omega), fun _ => ⟨(vpI (by omega)).mpr (by omega), ?_⟩⟩
      rw [tnI (by omega), e1, eqI (by omega) (by omega), e2]
      refine ⟨fun _ M9 e9 => ?_, fun q => absurd c5 q⟩
      have e9' : M9 = up1 M 1226 0 (sci L w) (nI ((L.getD (sci L w) (0, 0, false)).2.1 + y)) := by rw [e9]; exact congrArg (up1 M 1226 0 (sci L w)) (adI _ y)
      subst e9'
      refine hQ _ (Kp.rf.u1 rfl) (fun m => ?_)
      unfold wntL
      rw [if_neg e]
      refine ⟨by rw [List.length_set, up1_ne (by simp)]; exact h.1, fun k hk2 => ?_⟩
      rw [List.length_set] at hk2
      rw [gd_set c4]
      by_cases q : k = sci L w
      · rw [if_pos q, q]
        exact ⟨by rw [up1_ne (by simp), e1, c5], by rw [up1_eq]⟩
      · rw [if_neg q]
        have := h.2 k hk2
        exact ⟨by rw [up1_ne (by simp)]; exact this.1, by rw [up1_ne (fun z => q z.2.2)]; exact this.2⟩
theorem wnt_m {L : Sc} {w y : Nat} {m : Bool} {v : Nat} : (∃ i, i < (wntL L w y m).length ∧ ((wntL L w y m).getD i (0, 0, false)).1 = v ∧ ((wntL L w y m).getD i (0, 0, false)).2.2 = true) ↔ (∃ i, i < L.length ∧ (L.getD i (0, 0, false)).1 = v ∧ (L.getD i (0, 0, false)).2.2 = true) ∨ (m = true ∧ v = w) := by
  obtain ⟨c1, c2, c3⟩ := sci_c L w
  unfold wntL
  by_cases e : sci L w = L.length
  · rw [if_pos e]
    have hl : (L ++ [(w, y, m)]).length = L.length + 1 := by rw [List.length_append]; rfl
    rw [hl]
    constructor
    · rintro ⟨i, h1, h2, h3⟩
      rw [gd_app] at h2 h3
      by_cases q : i = L.length
      · rw [if_pos q] at h2 h3
        exact Or.inr ⟨h3, h2.symm⟩
      · rw [if_neg q] at h2 h3
        exact Or.inl ⟨i, by omega, h2, h3⟩
    · rintro (⟨i, h1, h2, h3⟩ | ⟨h1, h2⟩)
      · refine ⟨i, by omega, ?_, ?_⟩
        · rw [gd_app, if_neg (by omega)]; exact h2
        · rw [gd_app, if_neg (by omega)]; exact h3
      · refine ⟨L.length, by omega, ?_, ?_⟩
        · rw [gd_app, if_pos rfl]; exact h2.symm
        · rw [gd_app, if_pos rfl]; exact h1
  · have c4 : sci L w < L.length := by omega
    have c5 := c3.resolve_left e
    rw [if_neg e, List.length_set]
    constructor
    · rintro ⟨i, h1, h2, h3⟩
      rw [gd_set c4] at h2 h3
      by_cases q : i = sci L w
      · rw [if_pos q] at h2 h3
        have h2 : w = v := h2
        have h3 : ((L.getD (sci L w) (0, 0, false)).2.2 || m) = true := h3
        by_cases hm : m = true
        · exact Or.inr ⟨hm, h2.symm⟩
        · refine Or.inl ⟨sci L w, c4, c5.trans h2, ?_⟩
          cases m
          · simpa using h3
          · exact absurd rfl hm
      · rw [if_neg q] at h2 h3
        exact Or.inl ⟨i, h1, h2, h3⟩
    · rintro (⟨i, h1, h2, h3⟩ | ⟨h1, h2⟩)
      · refine ⟨i, h1, ?_, ?_⟩
        · rw [gd_set c4]
          by_cases q : i = sci L w
          · rw [if_pos q]; show w = v; rw [← h2, q, c5]
          · rw [if_neg q]; exact h2
        · rw [gd_set c4]
          by_cases q : i = sci L w
          · rw [if_pos q]; show ((L.getD (sci L w) (0, 0, false)).2.2 || m) = true; rw [← q, h3]; rfl
          · rw [if_neg q]; exact h3
      · refine ⟨sci L w, c4, ?_, ?_⟩
        · rw [gd_set c4, if_pos rfl]; exact h2.symm
        · rw [gd_set c4, if_pos rfl]; show ((L.getD (sci L w) (0, 0, false)).2.2 || m) = true; rw [h1]; simp
theorem PM_no {L : Sc} {c w y : Nat} {M : Mem} (h : PM L c M) : PM (wntL L w y false) (c + 1) M := by
  obtain ⟨ml, h1, h2, h3, h4⟩ := h
  refine ⟨ml, by omega, h2, h3, fun v => ?_⟩
  rw [h4 v, wnt_m]
  constructor
  · exact Or.inl
  · rintro (q | ⟨q, _⟩)
    · exact q
    · cases q
theorem PM.mono {L : Sc} {c : Nat} {M : Mem} (h : PM L c M) : PM L (c + 1) M := by
  obtain ⟨ml, h1, h2, h3, h4⟩ := h
  exact ⟨ml, by omega, h2, h3, h4⟩
theorem PM_add {L : Sc} {c w y : Nat} {M : Mem} (h : PM L c M) (hc : c < 24) {R : Mem → Prop} (hR : ∀ M', Kp (fun c _ => decide (c ≠ 1219 ∧ c ≠ 1227)) M M' → PM (wntL L w y true) (c + 1) M' → R M') : ∀ M25 : Mem, M25 = up1 M 1219 0 0 ((M.1 1219 0 0) + 1) → vp_in (M.1 1219 0 0) 24 ∧ ∀ M27 : Mem, M27 = up1 M25 1227 0 (tn (M.1 1219 0 0)) (nI w) → R M27 := by
  obtain ⟨ml, h1, h2, h3, h4⟩ := h
  rw [h2]
  intro M25 e25
  have e25' : M25 = up1 M 1219 0 0 (nI (ml.length + 1)) := by rw [e25]; exact congrArg (up1 M 1219 0 0) (adI _ 1)
  refine ⟨(vpI (by omega)).mpr (by omega), ?_⟩
  rw [tnI (by omega)]
  intro M27 e27
  subst e27 e25'
  have hl : (ml ++ [w]).length = ml.length + 1 := by rw [List.length_append]; rfl
  refine hR _ ((Kp.rf.u1 rfl).u1 rfl) ⟨ml ++ [w], by omega, by rw [up1_ne (by simp), up1_eq, hl], fun k hk => ?_, fun v => ?_⟩
  · rw [hl] at hk
    rw [gd_app]
    by_cases q : k = ml.length
    · rw [if_pos q, q, up1_eq]
    · rw [if_neg q, up1_ne (fun z => q z.2.2), up1_ne (by simp)]
      exact h3 k (by omega)
  · rw [wnt_m, ← h4 v, List.mem_append, List.mem_singleton]
    constructor
    · rintro (q | q)
      · exact Or.inl q
      · exact Or.inr ⟨rfl, q⟩
    · rintro (q | ⟨_, q⟩)
      · exact Or.inl q
      · exact Or.inr q
theorem PX_add {X : List Nat} {w : Nat} {M : Mem} (h : PX X M) (hc : X.length < 6) {R : Mem → Prop} (hR : ∀ M', Kp (fun c _ => decide (c ≠ 1220 ∧ c ≠ 1228)) M M' → PX (X ++ [w]) M' → R M') : ∀ M15 : Mem, M15 = up1 M 1220 0 0 ((M.1 1220 0 0) + 1) → vp_in (M.1 1220 0 0) 6 ∧ ∀ M17 : Mem, M17 = up1 M15 1228 0 (tn (M.1 1220 0 0)) (nI w) → R M17 := by
  obtain ⟨h1, h2⟩ := h
  rw [h1]
  intro M25 e25
  have e25' : M25 = up1 M 1220 0 0 (nI (X.length + 1)) := by rw [e25]; exact congrArg (up1 M 1220 0 0) (adI _ 1)
  refine ⟨(vpI (by omega)).mpr (by omega), ?_⟩
  rw [tnI (by omega)]
  intro M27 e27
  subst e27 e25'
  have hl : (X ++ [w]).length = X.length + 1 := by rw [List.length_append]; rfl
  refine hR _ ((Kp.rf.u1 rfl).u1 rfl) ⟨by rw [up1_ne (by simp), up1_eq, hl], fun k hk => ?_⟩
  rw [hl] at hk
  rw [gd_app]
  by_cases q : k = X.length
  · rw [if_pos q, q, up1_eq]
  · rw [if_neg q, up1_ne (fun z => q z.2.2), up1_ne (by simp)]
    exact h2 k (by omega)
theorem PF_beg {F : List (List (Option Nat))} {M : Mem} (h : PF F M) (hc : F.length < 6) {R : Mem → Prop} (hR : ∀ M', Kp (fun c _ => decide (c ≠ 1221 ∧ c ≠ 1229)) M M' → PF (F ++ [[]]) M' → R M') : ∀ M30 : Mem, M30 = up1 M 1221 0 0 ((M.1 1221 0 0) + 1) → vp_in (M.1 1221 0 0) 6 ∧ ∀ M32 : Mem, M32 = up1 M30 1229 0 (tn (M.1 1221 0 0)) 0 → R M32 := by
  obtain ⟨h1, h2, h3⟩ := h
  rw [h1]
  intro M25 e25
  have e25' : M25 = up1 M 1221 0 0 (nI (F.length + 1)) := by rw [e25]; exact congrArg (up1 M 1221 0 0) (adI _ 1)
  refine ⟨(vpI (by omega)).mpr (by omega), ?_⟩
  rw [tnI (by omega)]
  intro M27 e27
  subst e27 e25'
  have hl : (F ++ [([] : List (Option Nat))]).length = F.length + 1 := by rw [List.length_append]; rfl
  refine hR _ ((Kp.rf.u1 rfl).u1 rfl) ⟨by rw [up1_ne (by simp), up1_eq, hl], fun k hk => ?_, fun j k hj hk => ?_⟩
  · rw [hl] at hk
    rw [gd_app]
    by_cases q : k = F.length
    · rw [if_pos q, q, up1_eq]; rfl
    · rw [if_neg q, up1_ne (fun z => q z.2.2), up1_ne (by simp)]
      exact h2 k (by omega)
  · rw [hl] at hj
    rw [gd_app] at hk ⊢
    by_cases q : j = F.length
    · rw [if_pos q] at hk; exact absurd hk (Nat.not_lt_zero _)
    · rw [if_neg q] at hk ⊢
      rw [up1_ne (by simp), up1_ne (by simp)]
      exact h3 j k (by omega) hk
theorem PF_add {F : List (List (Option Nat))} {o : Option Nat} {M : Mem} (h : PF F M) (hc : 0 < F.length) (hc6 : F.length ≤ 6) (h4 : (F.getD (F.length - 1) []).length < 4) {R : Mem → Prop} (hR : ∀ M', Kp (fun c _ => decide (c ≠ 1229 ∧ c ≠ 6230)) M M' → PF (F.set (F.length - 1) (F.getD (F.length - 1) [] ++ [o])) M' → R M') : vp_in ((M.1 1221 0 0) - 1) 6 ∧ ∀ M35 : Mem, M35 = up1 M 1229 0 (tn ((M.1 1221 0 0) - 1)) ((M.1 1229 0 (tn ((M.1 1221 0 0) - 1))) + 1) → vp_in (M.1 1229 0 (tn ((M.1 1221 0 0) - 1))) 4 ∧ ∀ M37 : Mem, M37 = up1 M35 6230 (tn ((M.1 1221 0 0) - 1)) (tn (M.1 1229 0 (tn ((M.1 1221 0 0) - 1)))) (oI o) → R M37 := by
  obtain ⟨h1, h2, h3⟩ := h
  have es : nI F.length - 1 = nI (F.length - 1) := by show nI F.length - nI 1 = _; exact sbI (by omega)
  rw [h1, es]
  refine ⟨(vpI (by omega)).mpr (by omega), ?_⟩
  rw [tnI (by omega), h2 (F.length - 1) (by omega)]
  intro M25 e25
  generalize hj9 : F.length - 1 = j9 at *
  have e25' : M25 = up1 M 1229 0 j9 (nI ((F.getD j9 []).length + 1)) := by rw [e25]; exact congrArg (up1 M 1229 0 j9) (adI _ 1)
  refine ⟨(vpI (by omega)).mpr (by omega), ?_⟩
  rw [tnI (by omega)]
  intro M27 e27
  subst e27 e25'
  have hl : (F.getD j9 [] ++ [o]).length = (F.getD j9 []).length + 1 := by rw [List.length_append]; rfl
  refine hR _ ((Kp.rf.u1 rfl).u1 rfl) ⟨by rw [up1_ne (by simp), up1_ne (by simp), List.length_set]; exact h1, fun k hk => ?_, fun j k hj hk => ?_⟩
  · rw [List.length_set] at hk
    rw [gd_set (by omega)]
    by_cases q : k = j9
    · rw [if_pos q, q, up1_ne (by simp), up1_eq, hl]
    · rw [if_neg q, up1_ne (by simp), up1_ne (fun z => q z.2.2)]
      exact h2 k (by omega)
  · rw [List.length_set] at hj
    rw [gd_set (by omega)] at hk ⊢
    by_cases q : j = j9
    · rw [if_pos q] at hk ⊢
      rw [hl] at hk
      rw [gd_app, q]
      by_cases q2 : k = (F.getD j9 []).length
      · rw [if_pos q2, q2, up1_eq]
      · rw [if_neg q2, up1_ne (fun z => q2 z.2.2), up1_ne (by simp)]
        exact h3 j9 k (by omega) (by omega)
    · rw [if_neg q] at hk ⊢
      rw [up1_ne (fun z => q z.2.1), up1_ne (by simp)]
      exact h3 j k (by omega) hk
