/-! PURE: the class's draft of a question -/
def pC1 (c i : Nat) : Bool := decide ((699 < c ∧ c < 712 ∧ i = 1) ∨ c = 5711)
def pQk (c i : Nat) : Bool := !pC1 c i
theorem CK1.kp {K : Qc} {M M' : Mem} (h : CK K 1 M) (k : Kp pC1 M M') : CK K 1 M' := by
  obtain ⟨a, b, c, d, e, f, g, i, j, l⟩ := h
  exact ⟨by rw [k.g rfl]; exact a, by rw [k.g rfl]; exact b, by rw [k.g rfl]; exact c, by rw [k.g rfl]; exact d, by rw [k.g rfl]; exact e, by rw [k.g rfl]; exact f, fun x hx => by rw [k.g rfl, k.g rfl, k.g rfl]; exact g x hx, fun x hx => by rw [k.g rfl]; exact i x hx, fun x hx => by rw [k.g rfl]; exact j x hx, fun x y hx hy => by rw [k.g (by unfold pC1; simp)]; exact l x y hx hy⟩
theorem pQk_n {c i : Nat} (h : (699 < c ∧ c < 712 ∧ i = 1) ∨ c = 5711) : pQk c i = false := by
  unfold pQk pC1
  rw [decide_eq_true h]; rfl
theorem cscoredIndex {K : Qc} {w : Nat} {M : Mem} (h : CK K 1 M) (hw : w < 255) (hk : ∀ i, i < sN K → sW K i < 255) (hs : sci (qS K) w = sN K → sN K < 24) (hs2 : sN K ≤ 24) {Q : Int32 → Mem → Prop} (hQ : ∀ M', Kp pQk M M' → CK (if sci (qS K) w = sN K then (qP K, qR K, qU K, qS K ++ [(w, 0, false)], qX K, qF K) else K) 1 M' → Q (nI (sci (qS K) w)) M') : pX6_scoredIndex M (nI w) Q := by
  obtain ⟨c1, c2, c3⟩ := sci_c (qS K) w
  have c1 : sci (qS K) w ≤ sN K := c1
  unfold pX6_scoredIndex
  refine lp_up (fun i s => s = (M, nI i)) (Nat.zero_le (sci (qS K) w)) rfl ?_ ?_
  · rintro i s L - hi rfl hL
    have hne : sW K i ≠ w := c2 i hi
    have hki := hk i (by omega)
    have e1 := h.w (k := i) (by omega)
    unfold bX6_scoredIndex_2
    try simp (disch := omega) only [li, nO_n, adI, mlI, tnI, vpI, ltI, leI, eqI, forall_eq, leT, leF, ltT, ltF, eqT, eqF, true_and, and_true, false_implies, true_implies, forall_const, not_true_eq_false, not_false_eq_true, implies_true, h.n, e1]
    exact hL _ rfl
  · rintro s L rfl
    unfold bX6_scoredIndex_2
    by_cases e : sci (qS K) w = sN K
    · have h24 := hs e
      rw [if_pos e] at hQ
      have hL : (qS K ++ [(w, 0, false)]).length = sN K + 1 := by rw [List.length_append]; rfl
      have e1 : ∀ v : Int32, (up1 M 702 1 (sN K) v).1 701 1 0 = nI (sN K) := fun v => by rw [up1_ne (by simp)]; exact h.n
      have e2 : ∀ v u : Int32, (up1 (up1 M 702 1 (sN K) v) 703 1 (sN K) u).1 701 1 0 = nI (sN K) := fun v u => by rw [up1_ne (by simp)]; exact e1 v
      have e3 : ∀ v u x : Int32, (up1 (up1 (up1 M 702 1 (sN K) v) 703 1 (sN K) u) 704 1 (sN K) x).1 701 1 0 = nI (sN K) := fun v u x => by rw [up1_ne (by simp)]; exact e2 v u
      have hfin := hQ (up1 (up1 (up1 (up1 M 702 1 (sN K) (nI w)) 703 1 (sN K) (nI 0)) 704 1 (sN K) (nI 0)) 701 1 0 (nI (sN K + 1))) ((((Kp.rf.u1 (pQk_n (by omega))).u1 (pQk_n (by omega))).u1 (pQk_n (by omega))).u1 (pQk_n (by omega))) (by
        obtain ⟨a, b, c, d, e', f, g, i, j, l⟩ := h
        refine ⟨?_, ?_, ?_, ?_, ?_, ?_, fun k hk2 => ?_, fun k hk2 => ?_, fun k hk2 => ?_, fun j2 k hj hk2 => ?_⟩
        · rw [up1_ne (by simp), up1_ne (by simp), up1_ne (by simp), up1_ne (by simp)]; exact a
        · rw [up1_eq]; exact congrArg nI hL.symm
        · rw [up1_ne (by simp), up1_ne (by simp), up1_ne (by simp), up1_ne (by simp)]; exact c
        · rw [up1_ne (by simp), up1_ne (by simp), up1_ne (by simp), up1_ne (by simp)]; exact d
        · rw [up1_ne (by simp), up1_ne (by simp), up1_ne (by simp), up1_ne (by simp)]; exact e'
        · rw [up1_ne (by simp), up1_ne (by simp), up1_ne (by simp), up1_ne (by simp)]; exact f
        · have hk2 : k < (qS K ++ [(w, 0, false)]).length := hk2
          rw [hL] at hk2
          show _ = nI ((qS K ++ [(w, 0, false)]).getD k (0, 0, false)).1 ∧ _ = nI ((qS K ++ [(w, 0, false)]).getD k (0, 0, false)).2.1 ∧ _ = nI (b1 ((qS K ++ [(w, 0, false)]).getD k (0, 0, false)).2.2)
          rw [gd_app]
          by_cases q : k = sN K
          · rw [if_pos (show k = (qS K).length from q), q, up1_ne (by simp), up1_ne (by simp), up1_ne (by simp), up1_eq, up1_ne (by simp), up1_ne (by simp), up1_eq, up1_ne (by simp), up1_eq]
            exact ⟨rfl, rfl, rfl⟩
          · rw [if_neg (show ¬ k = (qS K).length from q), up1_ne (by simp), up1_ne (by simp), up1_ne (by simp), up1_ne (by simp; exact q), up1_ne (by simp), up1_ne (by simp), up1_ne (by simp; exact q), up1_ne (by simp), up1_ne (by simp), up1_ne (by simp; exact q), up1_ne (by simp), up1_ne (by simp)]
            exact g k (by omega)
        · rw [up1_ne (by simp), up1_ne (by simp), up1_ne (by simp), up1_ne (by simp)]; exact i k hk2
        · rw [up1_ne (by simp), up1_ne (by simp), up1_ne (by simp), up1_ne (by simp)]; exact j k hk2
        · rw [up1_ne (by simp), up1_ne (by simp), up1_ne (by simp), up1_ne (by simp)]; exact l j2 k hj hk2)
      rw [e] at hfin ⊢
      have e4 : ∀ N : Mem, (up1 N 701 1 0 (nI (sN K + 1))).1 701 1 0 = nI (sN K + 1) := fun N => up1_eq
      try simp (disch := omega) only [li, nO_n, adI, mlI, tnI, vpI, ltI, leI, eqI, forall_eq, leT, leF, ltT, ltF, eqT, eqF, true_and, and_true, false_implies, true_implies, forall_const, not_true_eq_false, not_false_eq_true, implies_true, h.n, e1, e2, e3, e4, sbs]
      exact hfin
    · have e5 : sW K (sci (qS K) w) = w := c3.resolve_left e
      have e1 := h.w (k := sci (qS K) w) (by omega)
      rw [if_neg e] at hQ
      try simp (disch := omega) only [li, nO_n, adI, mlI, tnI, vpI, ltI, leI, eqI, forall_eq, leT, leF, ltT, ltF, eqT, eqF, true_and, and_true, false_implies, true_implies, forall_const, not_true_eq_false, not_false_eq_true, implies_true, h.n, e1, e5]
      exact hQ M Kp.rf h
theorem cwant {K : Qc} {o : Option Nat} {y : Nat} {m : Bool} {M : Mem} (h : CK K 1 M) (ho : ∀ w, o = some w → w < 255) (hk : ∀ i, i < sN K → sW K i < 255) (hs : sN K < 24) {Q : Mem → Prop} (hQ : ∀ M', Kp pQk M M' → CK (kWant K o y m) 1 M' → Q M') : pX6_want M (oI o) (nI y) (nI (b1 m)) Q := by
  unfold pX6_want
  cases o with
  | none =>
    refine ⟨fun c => absurd rfl c, fun _ => ?_⟩
    have hfin : ∀ v : Int32, v = nI (b1 (qU K || m)) → Q (up1 M 705 1 0 v) := fun v ev => by
      subst ev
      refine hQ _ (Kp.rf.u1 (pQk_n (by omega))) ?_
      obtain ⟨a, b, c, d, e', f, g, i, j, l⟩ := h
      refine ⟨?_, ?_, up1_eq, ?_, ?_, ?_, fun k hk2 => ?_, fun k hk2 => ?_, fun k hk2 => ?_, fun j2 k hj hk2 => ?_⟩
      · rw [up1_ne (by simp)]; exact a
      · rw [up1_ne (by simp)]; exact b
      · rw [up1_ne (by simp)]; exact d
      · rw [up1_ne (by simp)]; exact e'
      · rw [up1_ne (by simp)]; exact f
      · rw [up1_ne (by simp), up1_ne (by simp), up1_ne (by simp)]; exact g k hk2
      · rw [up1_ne (by simp)]; exact i k hk2
      · rw [up1_ne (by simp)]; exact j k hk2
      · rw [up1_ne (by simp)]; exact l j2 k hj hk2
    rw [h.u]
    cases qu : qU K <;> cases qm : m <;> (rw [qu, qm] at hfin)
    · exact s0a (s0b (fun M' e => by subst e; exact hfin _ rfl))
    · exact s0a (s1b (fun M' e => by subst e; exact hfin _ rfl))
    · exact s1a (fun M' e => by subst e; exact hfin _ rfl)
    · exact s1a (fun M' e => by subst e; exact hfin _ rfl)
  | some w =>
    have hw := ho w rfl
    have hn : ¬ nI w = nO := nO_ne (by omega)
    refine ⟨fun _ => ?_, fun c => absurd c hn⟩
    obtain ⟨c1, c2, c3⟩ := sci_c (qS K) w
    have c1 : sci (qS K) w ≤ sN K := c1
    refine cscoredIndex h hw hk (fun _ => hs) (by omega) (fun M1 k1 h1 => ?_)
    obtain ⟨K1, eK1⟩ : ∃ K1, K1 = (if sci (qS K) w = sN K then (qP K, qR K, qU K, qS K ++ [(w, 0, false)], qX K, qF K) else K) := ⟨_, rfl⟩
    rw [← eK1] at h1
    have hK1 : qP K1 = qP K ∧ qR K1 = qR K ∧ qU K1 = qU K ∧ qX K1 = qX K ∧ qF K1 = qF K := by
      rw [eK1]
      split <;> exact ⟨rfl, rfl, rfl, rfl, rfl⟩
    have hlt : sci (qS K) w < sN K1 := by
      rw [eK1]
      by_cases e : sci (qS K) w = sN K
      · rw [if_pos e]
        show _ < (qS K ++ [(w, 0, false)]).length
        rw [List.length_append]; show _ < (qS K).length + 1; unfold sN at e; omega
      · rw [if_neg e]; omega
    have hle : sN K1 ≤ 24 := by
      rw [eK1]
      by_cases e : sci (qS K) w = sN K
      · rw [if_pos e]
        show (qS K ++ [(w, 0, false)]).length ≤ 24
        rw [List.length_append]; show (qS K).length + 1 ≤ 24; unfold sN at hs; omega
      · rw [if_neg e]; omega
    have hS : qS (kWant K (some w) y m) = (qS K1).set (sci (qS K) w) (w, sB K1 (sci (qS K) w) + y, sM K1 (sci (qS K) w) || m) := by
      show wntL (qS K) w y m = _
      unfold wntL sB sM
      rw [eK1]
      by_cases e : sci (qS K) w = (qS K).length
      · rw [if_pos e, if_pos (show sci (qS K) w = sN K from e)]
        show _ = (qS K ++ [(w, 0, false)]).set (sci (qS K) w) (w, ((qS K ++ [(w, 0, false)]).getD (sci (qS K) w) (0, 0, false)).2.1 + y, ((qS K ++ [(w, 0, false)]).getD (sci (qS K) w) (0, 0, false)).2.2 || m)
        rw [e, gd_r, List.set_append_right _ _ (Nat.le_refl _), Nat.sub_self]
        show _ = _ ++ [(w, 0 + y, false || m)]
        rw [Nat.zero_add, Bool.false_or]
      · rw [if_neg e, if_neg (show ¬ sci (qS K) w = sN K from e)]
    have hW1 : sW K1 (sci (qS K) w) = w := by
      unfold sW
      rw [eK1]
      by_cases e : sci (qS K) w = sN K
      · rw [if_pos e]
        show ((qS K ++ [(w, 0, false)]).getD (sci (qS K) w) (0, 0, false)).1 = w
        rw [gd_app, if_pos (show sci (qS K) w = (qS K).length from e)]
      · rw [if_neg e]; exact c3.resolve_left e
    obtain ⟨x, ex⟩ : ∃ x, x = sci (qS K) w := ⟨_, rfl⟩
    rw [← ex] at hlt hS hW1 ⊢
    have e3 := h1.b hlt
    have e4 := h1.m hlt
    refine ⟨(vpI (by omega)).mpr (by omega), ?_⟩
    rw [tnI (by omega)]
    intro M5 e5
    rw [e3, adI] at e5
    have f4 : M5.1 704 1 x = nI (b1 (sM K1 x)) := by rw [e5, up1_ne (by simp)]; exact e4
    have hfin : ∀ v : Int32, v = nI (b1 (sM K1 x || m)) → Q (up1 M5 704 1 x v) := fun v ev => by
      subst ev e5
      refine hQ _ ((k1.u1 (pQk_n (by omega))).u1 (pQk_n (by omega))) ?_
      obtain ⟨a, b, c, d, e', f, g, i, j, l⟩ := h1
      obtain ⟨r1, r2, r3, r4, r5⟩ := hK1
      have hn2 : sN (kWant K (some w) y m) = sN K1 := by show (qS (kWant K (some w) y m)).length = _; rw [hS, List.length_set]; rfl
      refine ⟨?_, ?_, ?_, ?_, ?_, ?_, fun k hk2 => ?_, fun k hk2 => ?_, fun k hk2 => ?_, fun j2 k hj hk2 => ?_⟩
      · rw [up1_ne (by simp), up1_ne (by simp), a, r1]; rfl
      · rw [up1_ne (by simp), up1_ne (by simp), b, hn2]
      · rw [up1_ne (by simp), up1_ne (by simp), c, r3]; rfl
      · rw [up1_ne (by simp), up1_ne (by simp), d]; unfold xN; rw [r4]; rfl
      · rw [up1_ne (by simp), up1_ne (by simp), e']; unfold fN; rw [r5]; rfl
      · rw [up1_ne (by simp), up1_ne (by simp), f, r2]; rfl
      · rw [hn2] at hk2
        have g1 := g k hk2
        unfold sW sB sM
        rw [hS, gd_set hlt]
        by_cases q : k = x
        · rw [if_pos q, q, up1_ne (by simp), up1_ne (by simp), up1_ne (by simp), up1_eq, up1_eq]
          have := (g x hlt).1
          rw [hW1] at this
          exact ⟨this, rfl, rfl⟩
        · rw [if_neg q, up1_ne (by simp), up1_ne (by simp), up1_ne (by simp), up1_ne (by simp; exact q), up1_ne (by simp; exact q), up1_ne (by simp)]
          exact g1
      · rw [up1_ne (by simp), up1_ne (by simp), i k (by unfold xN at hk2 ⊢; rw [r4]; exact hk2)]
        unfold xW
        rw [r4]; rfl
      · rw [up1_ne (by simp), up1_ne (by simp), j k (by unfold fN at hk2 ⊢; rw [r5]; exact hk2)]
        unfold fL fP
        rw [r5]; rfl
      · rw [up1_ne (by simp), up1_ne (by simp), l j2 k (by unfold fN at hj ⊢; rw [r5]; exact hj) (by unfold fL fP at hk2 ⊢; rw [r5]; exact hk2)]
        unfold fW fP
        rw [r5]; rfl
    rw [f4]
    cases qu : sM K1 x <;> cases qm : m <;> (rw [qu, qm] at hfin)
    · exact s0a (s0b (fun M' e => by subst e; exact hfin _ rfl))
    · exact s0a (s1b (fun M' e => by subst e; exact hfin _ rfl))
    · exact s1a (fun M' e => by subst e; exact hfin _ rfl)
    · exact s1a (fun M' e => by subst e; exact hfin _ rfl)
theorem crefuse {K : Qc} {o : Option Nat} {M : Mem} (h : CK K 1 M) (ho : ∀ w, o = some w → w < 255) (hx : xN K < 6) {Q : Mem → Prop} (hQ : ∀ M', Kp pQk M M' → CK (kRef K o) 1 M' → Q M') : pX6_refuse M (oI o) Q := by
  unfold pX6_refuse
  cases o with
  | none => exact ⟨fun _ => hQ M Kp.rf h, fun c => absurd rfl c⟩
  | some w =>
    have hw := ho w rfl
    have hn : ¬ nI w = nO := nO_ne (by omega)
    have e1 : ∀ v : Int32, (up1 M 707 1 (xN K) v).1 706 1 0 = nI (xN K) := fun v => by rw [up1_ne (by simp)]; exact h.xn
    have hL : (qX K ++ [w]).length = xN K + 1 := by rw [List.length_append]; rfl
    have hfin := hQ (up1 (up1 M 707 1 (xN K) (nI w)) 706 1 0 (nI (xN K + 1))) ((Kp.rf.u1 (pQk_n (by omega))).u1 (pQk_n (by omega))) (by
      obtain ⟨a, b, c, d, e', f, g, i, j, l⟩ := h
      refine ⟨?_, ?_, ?_, ?_, ?_, ?_, fun k hk2 => ?_, fun k hk2 => ?_, fun k hk2 => ?_, fun j2 k hj hk2 => ?_⟩
      · rw [up1_ne (by simp), up1_ne (by simp)]; exact a
      · rw [up1_ne (by simp), up1_ne (by simp)]; exact b
      · rw [up1_ne (by simp), up1_ne (by simp)]; exact c
      · rw [up1_eq]; exact congrArg nI hL.symm
      · rw [up1_ne (by simp), up1_ne (by simp)]; exact e'
      · rw [up1_ne (by simp), up1_ne (by simp)]; exact f
      · rw [up1_ne (by simp), up1_ne (by simp), up1_ne (by simp), up1_ne (by simp), up1_ne (by simp), up1_ne (by simp)]; exact g k hk2
      · have hk2 : k < (qX K ++ [w]).length := hk2
        rw [hL] at hk2
        show _ = nI ((qX K ++ [w]).getD k 0)
        rw [gd_app, up1_ne (by simp)]
        by_cases q : k = xN K
        · rw [if_pos (show k = (qX K).length from q), q, up1_eq]
        · rw [if_neg (show ¬ k = (qX K).length from q), up1_ne (by simp; exact q)]; exact i k (by omega)
      · rw [up1_ne (by simp), up1_ne (by simp)]; exact j k hk2
      · rw [up1_ne (by simp), up1_ne (by simp)]; exact l j2 k hj hk2)
    show (nI w = -1 → _) ∧ (¬ nI w = -1 → _)
    try simp (disch := omega) only [li, nO_n, adI, mlI, tnI, vpI, ltI, leI, eqI, forall_eq, leT, leF, ltT, ltF, eqT, eqF, true_and, and_true, false_implies, true_implies, forall_const, not_true_eq_false, not_false_eq_true, implies_true, eq_false hn, h.xn, e1]
    exact hfin
theorem cbeginPhrase {K : Qc} {M : Mem} (h : CK K 1 M) (hf : fN K < 6) {Q : Mem → Prop} (hQ : ∀ M', Kp pQk M M' → CK (kBeg K) 1 M' → Q M') : pX6_beginPhrase M Q := by
  unfold pX6_beginPhrase
  have e1 : ∀ v : Int32, (up1 M 709 1 (fN K) v).1 708 1 0 = nI (fN K) := fun v => by rw [up1_ne (by simp)]; exact h.fn
  have hL : (qF K ++ [[]]).length = fN K + 1 := by rw [List.length_append]; rfl
  have hfin := hQ (up1 (up1 M 709 1 (fN K) (nI 0)) 708 1 0 (nI (fN K + 1))) ((Kp.rf.u1 (pQk_n (by omega))).u1 (pQk_n (by omega))) (by
    obtain ⟨a, b, c, d, e', f, g, i, j, l⟩ := h
    refine ⟨?_, ?_, ?_, ?_, ?_, ?_, fun k hk2 => ?_, fun k hk2 => ?_, fun k hk2 => ?_, fun j2 k hj hk2 => ?_⟩
    · rw [up1_ne (by simp), up1_ne (by simp)]; exact a
    · rw [up1_ne (by simp), up1_ne (by simp)]; exact b
    · rw [up1_ne (by simp), up1_ne (by simp)]; exact c
    · rw [up1_ne (by simp), up1_ne (by simp)]; exact d
    · rw [up1_eq]; exact congrArg nI hL.symm
    · rw [up1_ne (by simp), up1_ne (by simp)]; exact f
    · rw [up1_ne (by simp), up1_ne (by simp), up1_ne (by simp), up1_ne (by simp), up1_ne (by simp), up1_ne (by simp)]; exact g k hk2
    · rw [up1_ne (by simp), up1_ne (by simp)]; exact i k hk2
    · rw [(fL_beg K 0).1] at hk2
      rw [(fL_beg K k).2, up1_ne (by simp)]
      by_cases q : k = fN K
      · rw [if_pos q, q, up1_eq]
      · rw [if_neg q, up1_ne (by simp; exact q)]; exact j k (by omega)
    · rw [(fL_beg K 0).1] at hj
      rw [(fL_beg K j2).2] at hk2
      by_cases q : j2 = fN K
      · rw [if_pos q] at hk2; exact absurd hk2 (Nat.not_lt_zero _)
      · rw [if_neg q] at hk2
        have hW : fW (kBeg K) j2 k = fW K j2 k := by
          show ((qF K ++ [[]]).getD j2 []).getD k none = _
          rw [gd_app, if_neg (show ¬ j2 = (qF K).length from q)]; rfl
        rw [hW, up1_ne (by simp), up1_ne (by simp)]; exact l j2 k (by omega) hk2)
  try simp (disch := omega) only [li, nO_n, adI, mlI, tnI, vpI, ltI, leI, eqI, forall_eq, leT, leF, ltT, ltF, eqT, eqF, true_and, and_true, false_implies, true_implies, forall_const, not_true_eq_false, not_false_eq_true, implies_true, h.fn, e1]
  exact hfin
theorem cphraseLen {K : Qc} {M : Mem} (h : CK K 1 M) (hf : 1 ≤ fN K) (hf2 : fN K ≤ 6) {Q : Int32 → Mem → Prop} (hQ : Q (nI (pll K)) M) : pX6_phraseLengthNow M Q := by
  have e1 := h.fl (j := fN K - 1) (by omega)
  have hz : ¬ nI (fN K) = 0 := by show ¬ nI (fN K) = nI 0; rw [eqI (by omega) (by omega)]; omega
  have es : nI (fN K) - 1 = nI (fN K - 1) := by show nI (fN K) - nI 1 = _; exact sbI hf
  unfold pX6_phraseLengthNow
  rw [h.fn]
  refine ⟨fun _ => ?_, fun c => absurd c hz⟩
  rw [es, tnI (by omega), e1]
  exact ⟨(vpI (by omega)).mpr (by omega), hQ⟩
theorem clengthen {K : Qc} {o : Option Nat} {M : Mem} (h : CK K 1 M) (ho : ∀ w, o = some w → w < 255) (hk : ∀ i, i < sN K → sW K i < 255) (hs : sN K < 24) (hf : 1 ≤ fN K) (hf2 : fN K ≤ 6) (hp : pll K < 4) {Q : Mem → Prop} (hQ : ∀ M', Kp pQk M M' → CK (kLen K o) 1 M' → Q M') : pX6_lengthenPhrase M (oI o) Q := by
  have e1 : M.1 709 1 (fN K - 1) = nI (pll K) := h.fl (j := fN K - 1) (by omega)
  have es : nI (fN K) - 1 = nI (fN K - 1) := by show nI (fN K) - nI 1 = _; exact sbI hf
  have hlf : fN K - 1 < (qF K).length := by show fN K - 1 < fN K; omega
  unfold pX6_lengthenPhrase
  intro v1 ev
  rw [h.fn, es] at ev
  subst ev
  refine ⟨(vpI (by omega)).mpr (by omega), ?_⟩
  rw [tnI (by omega), e1]
  refine ⟨(vpI (by omega)).mpr (by omega), ?_⟩
  rw [tnI (by omega)]
  intro M4 e4 M5 e5
  have f4 : M4.1 709 1 (fN K - 1) = nI (pll K) := by rw [e4, up1_ne (by simp)]; exact e1
  rw [f4] at e5
  have e5' : M5 = up1 M4 709 1 (fN K - 1) (nI (pll K + 1)) := by rw [e5]; exact congrArg (up1 M4 709 1 (fN K - 1)) (adI _ 1)
  subst e5' e4
  have hadd : CK (kAdd K o) 1 (up1 (up1 M 5711 (fN K - 1) (pll K) (oI o)) 709 1 (fN K - 1) (nI (pll K + 1))) := by
    obtain ⟨a, b, c, d, e', f, g, i, j, l⟩ := h
    have hfn : fN (kAdd K o) = fN K := by show ((qF K).set (fN K - 1) _).length = _; rw [List.length_set]; rfl
    have hP : ∀ j2, fP (kAdd K o) j2 = if j2 = fN K - 1 then fP K (fN K - 1) ++ [o] else fP K j2 := fun j2 => by
      show ((qF K).set (fN K - 1) (fP K (fN K - 1) ++ [o])).getD j2 [] = _
      rw [gd_set hlf]; rfl
    refine ⟨?_, ?_, ?_, ?_, ?_, ?_, fun k hk2 => ?_, fun k hk2 => ?_, fun k hk2 => ?_, fun j2 k hj hk2 => ?_⟩
    · rw [up1_ne (by simp), up1_ne (by simp)]; exact a
    · rw [up1_ne (by simp), up1_ne (by simp)]; exact b
    · rw [up1_ne (by simp), up1_ne (by simp)]; exact c
    · rw [up1_ne (by simp), up1_ne (by simp)]; exact d
    · rw [up1_ne (by simp), up1_ne (by simp), hfn]; exact e'
    · rw [up1_ne (by simp), up1_ne (by simp)]; exact f
    · rw [up1_ne (by simp), up1_ne (by simp), up1_ne (by simp), up1_ne (by simp), up1_ne (by simp), up1_ne (by simp)]; exact g k hk2
    · rw [up1_ne (by simp), up1_ne (by simp)]; exact i k hk2
    · rw [hfn] at hk2
      unfold fL
      rw [hP]
      by_cases q : k = fN K - 1
      · rw [if_pos q, q, up1_eq, List.length_append]; rfl
      · rw [if_neg q, up1_ne (by simp; exact q), up1_ne (by simp)]; exact j k hk2
    · rw [hfn] at hj
      unfold fL at hk2
      unfold fW
      rw [hP] at hk2 ⊢
      rw [up1_ne (by simp)]
      show (up1 M 5711 (fN K - 1) (pll K) (oI o)).1 5711 j2 k = _
      by_cases q : j2 = fN K - 1
      · rw [if_pos q] at hk2 ⊢
        rw [List.length_append] at hk2
        have hk2 : k < pll K + 1 := hk2
        rw [gd_app]
        by_cases q2 : k = pll K
        · rw [if_pos (show k = (fP K (fN K - 1)).length from q2), q, q2, up1_eq]
        · rw [if_neg (show ¬ k = (fP K (fN K - 1)).length from q2), up1_ne (fun z => q2 z.2.2)]
          exact l j2 k hj (by rw [q]; show k < pll K; omega) |>.trans (by rw [q]; rfl)
      · rw [if_neg q] at hk2 ⊢
        rw [up1_ne (fun z => q z.2.1)]
        exact l j2 k hj hk2
  have kk : Kp pQk M (up1 (up1 M 5711 (fN K - 1) (pll K) (oI o)) 709 1 (fN K - 1) (nI (pll K + 1))) := (Kp.rf.u1 (pQk_n (by omega))).u1 (pQk_n (by omega))
  exact cwant (y := 1) (m := true) hadd ho hk hs (fun M' k1 h1 => hQ M' (kk.tr k1) h1)
