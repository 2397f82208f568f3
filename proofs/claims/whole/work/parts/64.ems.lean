/-! PURE: the reference's hunt, the best -/
def pLk (c _ : Nat) : Bool := decide (c ≠ 1237 ∧ c ≠ 1238 ∧ ¬ (1254 ≤ c ∧ c ≤ 1256) ∧ c ≠ 1262)
theorem NW.lo {D : Dc} {K : Qc} {so n l : Nat} {g : Ge} {a : Nat → Nat × Nat} {M M' : Mem} (h : NW D K so g M) (k : Kp pLk M M') (h9 : M'.1 1256 0 0 = nI n) (hA : AW 1254 1255 0 n a M') (h13 : M'.1 1262 0 0 = nI l) : NW D K so (setB g (n, a) l) M' := by
  obtain ⟨h1, h2, h3, q1, q2, q3, q4, q5, q6, q7, q8, q9⟩ := h
  have kg : ∀ c, pLk c 0 = true → ∀ j b, M'.1 c j b = M.1 c j b := fun c hc j b => k.g (by unfold pLk at hc ⊢; exact hc) b
  refine ⟨h1.kp (k.wk fun c j hc => by unfold pMD at hc; unfold pLk; simp at hc ⊢; omega), h2.kp (k.wk fun c j hc => by unfold pMK at hc; unfold pLk; simp at hc ⊢; omega), (kg 1239 rfl _ _).trans h3, fun i hi => ⟨?_, ?_⟩, h9, hA, (kg 1257 rfl _ _).trans q4, (kg 1258 rfl _ _).trans q5, (kg 1259 rfl _ _).trans q6, (kg 1260 rfl _ _).trans q7, (kg 1261 rfl _ _).trans q8, h13⟩
  · obtain ⟨a, b, c, d, e⟩ := (q1 i hi).1
    exact ⟨(kg 1263 rfl _ _).trans a, (kg 1246 rfl _ _).trans b, (kg 1247 rfl _ _).trans c, (kg 1248 rfl _ _).trans d, fun x hx => ⟨(kg 6243 rfl _ _).trans (e x hx).1, (kg 6244 rfl _ _).trans (e x hx).2⟩⟩
  · obtain ⟨a, b, c, d, e⟩ := (q1 i hi).2
    exact ⟨(kg 1249 rfl _ _).trans a, (kg 1250 rfl _ _).trans b, (kg 1253 rfl _ _).trans c, (kg 1251 rfl _ _).trans d, fun x hx => (kg 6245 rfl _ _).trans (e x hx)⟩
def pKb (c _ : Nat) : Bool := decide (c ≠ 1254 ∧ c ≠ 1255)
theorem insA_m {a : Nat → Nat × Nat} {p : Nat × Nat} {m : Nat} (hm : 1 ≤ m) (h : ¬ p.2 ≤ (a (m - 1)).2) : insA a p m = insA a p (m - 1) := by
  funext k
  unfold insA
  have : ip a p.2 m = ip a p.2 (m - 1) := by
    obtain ⟨z, rfl⟩ : ∃ z, m = z + 1 := ⟨m - 1, by omega⟩
    rw [Nat.add_sub_cancel] at h ⊢
    rw [ip, if_neg h]
  rw [this]
theorem mkeepsBest {D : Dc} {K : Qc} {kn so m : Nat} {g : Ge} {M : Mem} (h : NW D K so g M) (hg : GI D K so m g) (hD : DW D kn) (hK : QW K kn) (h2 : 2 ≤ so) (h8 : so ≤ 8) (hm : 1 ≤ m) (hm2 : m ≤ 10) {x : Nat} (hx : x < D.length) (hy : why D K none x = 0) {Q : Mem → Prop} (hQ : ∀ M', Kp pLk M M' → NW D K so (setB g (keep D K m g.2.1 x) g.2.2.2.2.2) M' → Q M') : pX11_keepsBest M (nI x) (nI m) Q := by
  have hl := hD.1
  have ht := total_le none x hD hK
  have hb := hg.2.1
  have hbb := hg.2.2
  unfold pX11_keepsBest
  refine mtotal h.1 h.2.1 hD hK h.2.2.1 (fun i e => by cases e) hx (fun M2 k2 => ?_)
  have k2' : Kp pLk M M2 := k2.wk fun c j hc => by unfold pLk at hc; unfold kL; simp at hc ⊢; omega
  have w2 : NW D K so g M2 := h.kp (k2.wk fun c j hc => by unfold pNW pEM pMD pMK at hc; unfold kL; simp at hc ⊢; omega)
  have e56 := w2.2.2.2.2.1
  have eA := w2.2.2.2.2.2.1
  have e62 := w2.2.2.2.2.2.2.2.2.2.2.2
  unfold keep at hQ
  rw [if_pos hy] at hQ
  have go : g.2.1.1 ≤ 10 → (∀ M', Kp pLk M M' → NW D K so (setB g (min m (g.2.1.1 + 1), insA g.2.1.2 (x, total D K none x) g.2.1.1) g.2.2.2.2.2) M' → Q M') → bX11_keepsBest_24 (nI x) (nI m) Q M2 (nI (total D K none x)) := by
    intro hn hQ2
    unfold bX11_keepsBest_24
    simp only [e56, forall_eq]
    refine ins_loop (fun m y => (m, nI (total D K none x), y)) (P := pKb) (c := 1254) (e := 1255) (i := 0) (s := total D K none x) (p := x) (a := g.2.1.2) (by decide) eA rfl rfl (fun M' y L hy hk e1 e2 hL => ?_) (fun M' y L hy hk hz hA2 => ?_)
    · have hbv := (hbb y hy).2
      unfold bX11_keepsBest_30
      try simp (disch := omega) only [li, nO_n, adI, mlI, tnI, vpI, ltI, leI, eqI, forall_eq, leT, leF, ltT, ltF, eqT, eqF, true_and, and_true, false_implies, true_implies, forall_const, not_true_eq_false, not_false_eq_true, implies_true, sbs, e1, nO_add]
      exact hL
    · have fin : bX11_keepsBest_86 (nI x) (nI m) Q M' (nI (total D K none x)) (nI y) := by
        have x9 : ∀ u v, (up1 (up1 M' 1254 0 y u) 1255 0 y v).1 1256 0 0 = nI g.2.1.1 := fun u v => (((up1_ne (by omega)).trans (up1_ne (by omega))).trans (hk.g rfl 0)).trans e56
        unfold bX11_keepsBest_86
        try simp (disch := omega) only [li, nO_n, adI, mlI, tnI, vpI, ltI, leI, eqI, forall_eq, leT, leF, ltT, ltF, eqT, eqF, true_and, and_true, false_implies, true_implies, forall_const, not_true_eq_false, not_false_eq_true, implies_true, x9]
        refine mless (by omega) (by omega) ?_
        have kk : Kp pLk M (up1 (up1 (up1 M' 1254 0 y (nI x)) 1255 0 y (nI (total D K none x))) 1256 0 0 (nI (min m (g.2.1.1 + 1)))) := (((k2'.tr (hk.wk fun c j hc => by unfold pLk at hc; unfold pKb; simp at hc ⊢; omega)).u1 rfl).u1 rfl).u1 rfl
        refine hQ2 _ kk (h.lo kk up1_eq (fun k hk2 => ⟨(up1_ne (by omega)).trans (hA2 k (by omega)).1, (up1_ne (by omega)).trans (hA2 k (by omega)).2⟩) ?_)
        exact ((up1_ne (by omega)).trans ((up1_ne (by omega)).trans (up1_ne (by omega)))).trans ((hk.g rfl 0).trans e62)
      unfold bX11_keepsBest_30
      cases y with
      | zero =>
        try simp (disch := omega) only [li, nO_n, adI, mlI, tnI, vpI, ltI, leI, eqI, forall_eq, leT, leF, ltT, ltF, eqT, eqF, true_and, and_true, false_implies, true_implies, forall_const, not_true_eq_false, not_false_eq_true, implies_true]
        exact fin
      | succ z =>
        have hbv := (hbb z (by omega)).2
        obtain ⟨e1, e2⟩ := hz z rfl
        try simp (disch := omega) only [li, nO_n, adI, mlI, tnI, vpI, ltI, leI, eqI, forall_eq, leT, leF, ltT, ltF, eqT, eqF, true_and, and_true, false_implies, true_implies, forall_const, not_true_eq_false, not_false_eq_true, implies_true, sbs, e1]
        exact fin
  by_cases e1 : g.2.1.1 < m
  · rw [if_pos e1] at hQ
    rw [show min m (g.2.1.1 + 1) = g.2.1.1 + 1 by omega] at go
    have := go (by omega) hQ
    try simp (disch := omega) only [li, nO_n, adI, mlI, tnI, vpI, ltI, leI, eqI, forall_eq, leT, leF, ltT, ltF, eqT, eqF, true_and, and_true, false_implies, true_implies, forall_const, not_true_eq_false, not_false_eq_true, implies_true, e56]
    exact this
  · rw [if_neg e1] at hQ
    have e2 : g.2.1.1 = m := by omega
    try simp (disch := omega) only [li, nO_n, adI, mlI, tnI, vpI, ltI, leI, eqI, forall_eq, leT, leF, ltT, ltF, eqT, eqF, true_and, and_true, false_implies, true_implies, forall_const, not_true_eq_false, not_false_eq_true, implies_true, e56]
    refine mfloor w2 hg hD hK h2 h8 hm hm2 ?_
    have ef : flo m g.2.1 = (g.2.1.2 (m - 1)).2 := if_pos (by omega)
    have hfb := (hbb (m - 1) (by omega)).2
    rw [ef]
    by_cases e3 : (g.2.1.2 (m - 1)).2 < total D K none x
    · rw [if_pos e3] at hQ
      rw [e2, show min m (m + 1) = m by omega, insA_m hm (show ¬ ((x, total D K none x) : Nat × Nat).2 ≤ (g.2.1.2 (m - 1)).2 by show ¬ total D K none x ≤ _; omega)] at go
      have := go (by omega) hQ
      try simp (disch := omega) only [li, nO_n, adI, mlI, tnI, vpI, ltI, leI, eqI, forall_eq, leT, leF, ltT, ltF, eqT, eqF, true_and, and_true, false_implies, true_implies, forall_const, not_true_eq_false, not_false_eq_true, implies_true]
      exact this
    · rw [if_neg e3] at hQ
      try simp (disch := omega) only [li, nO_n, adI, mlI, tnI, vpI, ltI, leI, eqI, forall_eq, leT, leF, ltT, ltF, eqT, eqF, true_and, and_true, false_implies, true_implies, forall_const, not_true_eq_false, not_false_eq_true, implies_true]
      exact hQ M2 k2' w2
theorem opn_upd {z : Cs} {i n : Nat} {c : Cu} (hi : i < n) (h : cN (z i) ≤ cN c) : opn (updZ z i c) n = opn z n + (cN c - cN (z i)) := by
  unfold opn
  induction n with
  | zero => omega
  | succ n ih =>
    unfold smF
    by_cases e : i = n
    · subst e
      have : smF (fun j => cN (updZ z i c j)) i = smF (fun j => cN (z j)) i := smF_congr fun k hk => by
        show cN (updZ z i c k) = cN (z k)
        unfold updZ; rw [if_neg (by omega)]
      rw [this]
      show _ + cN (updZ z i c i) = _
      unfold updZ; rw [if_pos rfl]; omega
    · rw [ih (by omega)]
      show _ + cN (updZ z i c n) = _
      unfold updZ; rw [if_neg (by omega)]; omega
theorem wrk_upd {z : Cs} {i n : Nat} {c : Cu} (hi : i < n) (h : cK (z i) ≤ cK c) : wrk (updZ z i c) n = wrk z n + (cK c - cK (z i)) := by
  unfold wrk
  induction n with
  | zero => omega
  | succ n ih =>
    unfold smF
    by_cases e : i = n
    · subst e
      have : smF (fun j => cK (updZ z i c j)) i = smF (fun j => cK (z j)) i := smF_congr fun k hk => by
        show cK (updZ z i c k) = cK (z k)
        unfold updZ; rw [if_neg (by omega)]
      rw [this]
      show _ + cK (updZ z i c i) = _
      unfold updZ; rw [if_pos rfl]; omega
    · rw [ih (by omega)]
      show _ + cK (updZ z i c n) = _
      unfold updZ; rw [if_neg (by omega)]; omega
theorem sek_mono (D : Dc) (w so x : Nat) (c : Cu) : cN c ≤ cN (sekC D w so x c) ∧ cK c ≤ cK (sekC D w so x c) := by
  have e1 : cN (if x ≤ cP c then c else dipC D w so x c) = cN c ∧ cK (if x ≤ cP c then c else dipC D w so x c) = cK c := by
    by_cases e : x ≤ cP c
    · rw [if_pos e]; exact ⟨rfl, rfl⟩
    · rw [if_neg e]; exact ⟨rfl, rfl⟩
  unfold sekC
  generalize (if x ≤ cP c then c else dipC D w so x c) = c1 at e1
  rw [← e1.1, ← e1.2]
  by_cases e : cB c1 = nB D w so
  · rw [if_pos e]; exact ⟨Nat.le_refl _, Nat.le_refl _⟩
  · rw [if_neg e]
    have o : ∀ c2 : Cu, cN (movC D w so x c2) = cN c2 ∧ cK (movC D w so x c2) = cK c2 := fun c2 => ⟨rfl, rfl⟩
    rw [(o _).1, (o _).2]
    unfold opnC
    by_cases e2 : cL c1 = cB c1 + 1
    · rw [if_pos e2]; exact ⟨Nat.le_refl _, Nat.le_refl _⟩
    · rw [if_neg e2]; exact ⟨Nat.le_succ _, Nat.le_add_right _ _⟩
theorem NW.fy {D : Dc} {K : Qc} {so i s : Nat} {g : Ge} {c : Cu} {M M' : Mem} (h : NW D K so g M) (hi : i < sN K) (k : Fy i M M') (hv : MV D (sW K i) so c i M') (h1 : cN (g.1 i) ≤ cN c) (h2 : cK (g.1 i) ≤ cK c) (ho : M'.1 1258 0 0 = nI (opn g.1 (sN K) + (cN c - cN (g.1 i)))) (hk : M'.1 1259 0 0 = nI (wrk g.1 (sN K) + (cK c - cK (g.1 i)))) (hs : M'.1 1260 0 0 = nI s) : NW D K so (setZ g (updZ g.1 i c) s g.2.2.2.2.1) M' := by
  obtain ⟨m1, m2, m3, q1, q2, q3, q4, q5, q6, q7, q8, q9⟩ := h
  have kk : Kp (fun c _ => decide (¬ ((1249 ≤ c ∧ c ≤ 1253) ∨ c = 6245 ∨ (1258 ≤ c ∧ c ≤ 1260)))) M M' := fun c j q => by
    simp at q
    exact ⟨by funext b; exact k.1 c j b (by omega), k.2 c j⟩
  refine ⟨m1.kp (kk.wk fun c j hc => by unfold pMD at hc; simp at hc ⊢; omega), m2.kp (kk.wk fun c j hc => by unfold pMK at hc; simp at hc ⊢; omega), (k.1 _ _ _ (by omega)).trans m3, fun x hx => ⟨(q1 x hx).1.fy k, ?_⟩, (k.1 _ _ _ (by omega)).trans q2, fun z hz => ⟨(k.1 _ _ _ (by omega)).trans (q3 z hz).1, (k.1 _ _ _ (by omega)).trans (q3 z hz).2⟩, (k.1 _ _ _ (by omega)).trans q4, ?_, ?_, hs, (k.1 _ _ _ (by omega)).trans q8, (k.1 _ _ _ (by omega)).trans q9⟩
  · show MV D (sW K x) so (updZ g.1 i c x) x M'
    unfold updZ
    by_cases e : x = i
    · subst e; rw [if_pos rfl]; exact hv
    · rw [if_neg e]; exact (q1 x hx).2.fy e k
  · show _ = nI (opn (updZ g.1 i c) (sN K))
    rw [opn_upd hi h1]; exact ho
  · show _ = nI (wrk (updZ g.1 i c) (sN K))
    rw [wrk_upd hi h2]; exact hk
theorem NW.dp {D : Dc} {K : Qc} {so i x : Nat} {g : Ge} {M M' : Mem} (h : NW D K so g M) (hi : i < sN K) (k : Fx i M M') (hv : MV D (sW K i) so (dipC D (sW K i) so x (g.1 i)) i M') : NW D K so (setZ g (updZ g.1 i (dipC D (sW K i) so x (g.1 i))) g.2.2.2.1 g.2.2.2.2.1) M' := by
  have e1 : cN (dipC D (sW K i) so x (g.1 i)) = cN (g.1 i) := rfl
  have e2 : cK (dipC D (sW K i) so x (g.1 i)) = cK (g.1 i) := rfl
  exact h.fy hi k.y hv (Nat.le_of_eq e1.symm) (Nat.le_of_eq e2.symm) (by rw [e1, Nat.sub_self]; exact (k.1 _ _ _ (by omega)).trans h.2.2.2.2.2.2.2.1) (by rw [e2, Nat.sub_self]; exact (k.1 _ _ _ (by omega)).trans h.2.2.2.2.2.2.2.2.1) ((k.1 _ _ _ (by omega)).trans h.2.2.2.2.2.2.2.2.2.1)
