/-! PURE: the class's hunt, the turns -/
def pBk (c j : Nat) : Bool := decide (¬ (j = 0 ∧ 307 ≤ c ∧ c ≤ 309))
def pBi (c j : Nat) : Bool := decide (¬ (j = 0 ∧ 307 ≤ c ∧ c ≤ 308))
theorem pBi_k {c j : Nat} (h : pBk c j = true) : pBi c j = true := by unfold pBk at h; unfold pBi; simp at h ⊢; omega
theorem clook63 {x s n : Nat} {a : Nat → Nat × Nat} {M : Mem} (hn : n < 10) (hs : s < 2147483648) (ha : ∀ k, k < n → (a k).2 < 2147483648) (h9 : M.1 309 0 0 = nI n) (hA : AW 307 308 0 n a M) {Q : Mem → Prop} (hQ : ∀ M', Kp pBk M M' → M'.1 309 0 0 = nI (n + 1) → AW 307 308 0 (n + 1) (insA a (x, s) n) M' → Q M') : bX2_lookAt_63 (nI x) Q M (nI s) := by
  unfold bX2_lookAt_63
  simp only [h9, forall_eq]
  refine ins_loop (fun m y => (m, nI s, y)) (P := pBi) (c := 307) (e := 308) (i := 0) (s := s) (p := x) (a := a) (by decide) hA rfl rfl (fun M' y L hy hk e1 e2 hL => ?_) (fun M' y L hy hk hz hA2 => ?_)
  · have hb := ha y hy
    unfold bX2_lookAt_68
    try simp (disch := omega) only [li, nO_n, adI, mlI, tnI, vpI, ltI, leI, eqI, forall_eq, leT, leF, ltT, ltF, eqT, eqF, true_and, and_true, false_implies, true_implies, forall_const, not_true_eq_false, not_false_eq_true, implies_true, sbs, e1, nO_add]
    exact hL
  · have fin : bX2_lookAt_118 (nI x) Q M' (nI s) (nI y) := by
      have x9 : ∀ u v, (up1 (up1 M' 307 0 y u) 308 0 y v).1 309 0 0 = nI n := fun u v => (((up1_ne (by omega)).trans (up1_ne (by omega))).trans (hk.g rfl 0)).trans h9
      unfold bX2_lookAt_118
      try simp (disch := omega) only [li, nO_n, adI, mlI, tnI, vpI, ltI, leI, eqI, forall_eq, leT, leF, ltT, ltF, eqT, eqF, true_and, and_true, false_implies, true_implies, forall_const, not_true_eq_false, not_false_eq_true, implies_true, x9]
      refine hQ _ ((((hk.wk fun c j => pBi_k).u1 rfl).u1 rfl).u1 rfl) up1_eq (fun k hk2 => ⟨(up1_ne (by omega)).trans (hA2 k hk2).1, (up1_ne (by omega)).trans (hA2 k hk2).2⟩)
    unfold bX2_lookAt_68
    cases y with
    | zero =>
      try simp (disch := omega) only [li, nO_n, adI, mlI, tnI, vpI, ltI, leI, eqI, forall_eq, leT, leF, ltT, ltF, eqT, eqF, true_and, and_true, false_implies, true_implies, forall_const, not_true_eq_false, not_false_eq_true, implies_true]
      exact fin
    | succ z =>
      have hb := ha z (by omega)
      obtain ⟨e1, e2⟩ := hz z rfl
      try simp (disch := omega) only [li, nO_n, adI, mlI, tnI, vpI, ltI, leI, eqI, forall_eq, leT, leF, ltT, ltF, eqT, eqF, true_and, and_true, false_implies, true_implies, forall_const, not_true_eq_false, not_false_eq_true, implies_true, sbs, e1]
      exact fin
def pLo (c j : Nat) : Bool := decide (¬ (j = 0 ∧ ((307 ≤ c ∧ c ≤ 309) ∨ c = 313)))
theorem pLo_k {c j : Nat} (h : pLo c j = true) : pBk c j = true := by unfold pLo at h; unfold pBk; simp at h ⊢; omega
theorem pLo_C {c j : Nat} (h : pCD c j = true) : pLo c j = true := by unfold pCD at h; unfold pLo; simp at h ⊢; omega
theorem pLo_K {c j : Nat} (h : pCK c j = true) : pLo c j = true := by unfold pCK at h; unfold pLo; simp at h ⊢; omega
theorem pLo_a {c j : Nat} (h : c ≤ 306 ∨ (310 ≤ c ∧ c ≤ 312)) : pLo c j = true := by unfold pLo; simp; omega
def setB (g : Ge) (b : Nat × (Nat → Nat × Nat)) (l : Nat) : Ge := (g.1, b, g.2.2.1, g.2.2.2.1, g.2.2.2.2.1, l)
def setZ (g : Ge) (z : Cs) (s k : Nat) : Ge := (z, g.2.1, g.2.2.1, s, k, g.2.2.2.2.2)
theorem why_5 (D : Dc) (K : Qc) (lo : Option Nat) (d : Nat) : why D K lo d ≤ 5 := by
  unfold why
  repeat' split
  all_goals omega
theorem HW.lo {D : Dc} {K : Qc} {so m n l : Nat} {g : Ge} {a : Nat → Nat × Nat} {M M' : Mem} (h : HW D K so m g M) (k : Kp pLo M M') (h9 : M'.1 309 0 0 = nI n) (hA : AW 307 308 0 n a M') (h13 : M'.1 313 0 0 = nI l) : HW D K so m (setB g (n, a) l) M' := by
  obtain ⟨h1, h2, q1, q2, q3, q4, q5, q6, q7, q8⟩ := h
  have ka : ∀ j c, 100 ≤ c → c ≤ 116 → ∀ b, M'.1 c j b = M.1 c j b := fun j c h3 h4 b => k.g (pLo_a (by omega)) b
  exact ⟨h1.kp (k.wk fun c j => pLo_C), h2.kp (k.wk fun c j => pLo_K), fun x hx => ⟨(q1 x hx).1.all (ka x), (q1 x hx).2.all (ka x)⟩, by rw [k.g (pLo_a (by omega))]; exact q2, h9, hA, by rw [k.g (pLo_a (by omega))]; exact q5, by rw [k.g (pLo_a (by omega))]; exact q6, by rw [k.g (pLo_a (by omega))]; exact q7, h13⟩
theorem HW.upd {D : Dc} {K : Qc} {so m i : Nat} {g : Ge} {c : Cu} {M M' : Mem} (h : HW D K so m g M) (k : Kp (pCv i) M M') (hv : CV D (sW K i) so c i M') : HW D K so m (setZ g (updZ g.1 i c) g.2.2.2.1 g.2.2.2.2.1) M' := by
  obtain ⟨h1, h2, q1, q2, q3, q4, q5, q6, q7, q8⟩ := h
  refine ⟨h1.cv k, h2.kp (k.wk fun c j hc => pCv_0 (by unfold pCK at hc; simp at hc; omega)), fun x hx => ⟨(q1 x hx).1.kp k, ?_⟩, by rw [k.g (pCv_0 (by omega))]; exact q2, by rw [k.g (pCv_0 (by omega))]; exact q3, q4.kp k (pCv_0 (by omega)) (pCv_0 (by omega)), by rw [k.g (pCv_0 (by omega))]; exact q5, by rw [k.g (pCv_0 (by omega))]; exact q6, by rw [k.g (pCv_0 (by omega))]; exact q7, by rw [k.g (pCv_0 (by omega))]; exact q8⟩
  show CV D (sW K x) so (updZ g.1 i c x) x M'
  unfold updZ
  by_cases e : x = i
  · subst e; rw [if_pos rfl]; exact hv
  · rw [if_neg e]; exact (q1 x hx).2.kp e k
theorem GI.mpZ {D : Dc} {K : Qc} {so m s k n : Nat} {g : Ge} {F : Nat → Cu → Cu} {a : Nat → Nat} (hg : GI D K so m g) (hF : ∀ i c, IC D (sW K i) so c → IC D (sW K i) so (F i c)) : GI D K so m (setZ g (mp F g.1 a n) s k) := by
  refine ⟨fun i hi => ?_, hg.2.1, hg.2.2⟩
  show IC D (sW K i) so (mp F g.1 a n i)
  unfold mp
  by_cases e : (List.range n).any (fun k => a k == i) = true
  · rw [if_pos e]; exact hF i _ (hg.1 i hi)
  · rw [if_neg e]; exact hg.1 i hi
def pHt (c _ : Nat) : Bool := decide (¬ ((100 ≤ c ∧ c ≤ 116) ∨ (300 ≤ c ∧ c ≤ 313) ∨ (600 ≤ c ∧ c < 610)))
theorem pHt_v {i c j : Nat} (h : pHt c j = true) : pCv i c j = true := pCv_0 (by unfold pHt at h; simp at h; omega)
theorem pHt_o {c j : Nat} (h : pHt c j = true) : pLo c j = true := by unfold pHt at h; unfold pLo; simp at h ⊢; omega
theorem pHt_n {c j : Nat} (h : pHt c j = true) : pLn c j = true := by unfold pHt at h; unfold pLn; simp at h ⊢; omega
theorem pHt_5 {c j : Nat} (h : pHt c j = true) : p5 c j = true := by unfold pHt at h; unfold p5; simp at h ⊢; omega
theorem LW.kp {P : Nat → Nat → Bool} {t : Nat} {a : Nat → Nat} {M M' : Mem} (h : LW t a M) (k : Kp P M M') (h3 : P 303 0 = true) (h4 : P 304 0 = true) : LW t a M' := ⟨(k.g h4 0).trans h.1, fun x hx => (k.g h3 x).trans (h.2 x hx)⟩
theorem clookAt {D : Dc} {K : Qc} {kn so m : Nat} {g : Ge} {M : Mem} (h : HW D K so m g M) (hg : GI D K so m g) (hD : DW D kn) (hK : QW K kn) (h2 : 2 ≤ so) (h8 : so ≤ 8) (hm : 1 ≤ m) (hm2 : m ≤ 10) {x : Nat} (hx : x < D.length) (h3 : dS D x ≠ 3) {Q : Mem → Prop} (hQ : ∀ M', Kp pLo M M' → HW D K so m (setB g (keep D K m g.2.1 x) (g.2.2.2.2.2 + 1)) M' → Q M') : pX2_lookAt M (nI x) Q := by
  have hno : (-1 : Int32) = oI none := rfl
  have hl := hD.1
  have ht := total_le none x hD hK
  have hfl := flo_le h hg hD hK h2 h8 hm hm2
  have hw5 := why_5 D K none x
  have hb := hg.2.1
  have hbb := hg.2.2
  unfold pX2_lookAt
  rw [h.2.2.2.2.2.2.2.2.2]
  simp only [li, adI, forall_eq]
  have k1 : Kp pLo M (up1 M 313 0 0 (nI (g.2.2.2.2.2 + 1))) := Kp.rf.u1 rfl
  have h313 : (up1 M 313 0 0 (nI (g.2.2.2.2.2 + 1))).1 313 0 0 = nI (g.2.2.2.2.2 + 1) := up1_eq
  have h9 : (up1 M 313 0 0 (nI (g.2.2.2.2.2 + 1))).1 309 0 0 = nI g.2.1.1 := (up1_ne (by omega)).trans h.2.2.2.2.1
  have h6 : (up1 M 313 0 0 (nI (g.2.2.2.2.2 + 1))).1 306 0 0 = nI m := (up1_ne (by omega)).trans h.2.2.2.1
  have hA : AW 307 308 0 g.2.1.1 g.2.1.2 (up1 M 313 0 0 (nI (g.2.2.2.2.2 + 1))) := fun k hk => ⟨(up1_ne (by omega)).trans (h.2.2.2.2.2.1 k hk).1, (up1_ne (by omega)).trans (h.2.2.2.2.2.1 k hk).2⟩
  generalize up1 M 313 0 0 (nI (g.2.2.2.2.2 + 1)) = M1 at k1 h313 h9 h6 hA
  have hw1 : HW D K so m (setB g g.2.1 (g.2.2.2.2.2 + 1)) M1 := h.lo k1 h9 hA h313
  have hg1 : GI D K so m (setB g g.2.1 (g.2.2.2.2.2 + 1)) := hg
  rw [show (-nI 1 : Int32) = oI none from rfl]
  refine cwhy hw1.1 hw1.2.1 hD hK hx h3 (fun i e => by cases e) ?_
  unfold keep at hQ
  by_cases e0 : why D K none x = 0
  · rw [if_pos e0] at hQ
    try simp (disch := omega) only [li, nO_n, adI, mlI, tnI, vpI, ltI, leI, eqI, forall_eq, leT, leF, ltT, ltF, eqT, eqF, true_and, and_true, false_implies, true_implies, forall_const, not_true_eq_false, not_false_eq_true, implies_true, e0]
    refine ctotal hw1.1 hw1.2.1 hD hK (by omega) (fun i e => by cases e) ?_
    have fin : ∀ (n : Nat) (m2 : Mem), n < 10 → n ≤ g.2.1.1 → Kp pLo M m2 → m2.1 309 0 0 = nI n → AW 307 308 0 n g.2.1.2 m2 → m2.1 313 0 0 = nI (g.2.2.2.2.2 + 1) → (∀ M', Kp pLo M M' → HW D K so m (setB g (n + 1, insA g.2.1.2 (x, total D K none x) n) (g.2.2.2.2.2 + 1)) M' → Q M') → bX2_lookAt_63 (nI x) Q m2 (nI (total D K none x)) := by
      intro n m2 hn hn2 k2 g9 gA g13 hQ2
      refine clook63 hn (by omega) (fun k hk => by have := (hbb k (by omega)).2; omega) g9 gA (fun M' k3 f9 fA => ?_)
      have k4 : Kp pLo M M' := k2.tr (k3.wk fun c j => pLo_k)
      exact hQ2 M' k4 (h.lo k4 f9 fA ((k3.g rfl 0).trans g13))
    by_cases e1 : g.2.1.1 < m
    · rw [if_pos e1] at hQ
      have := fin g.2.1.1 M1 (by omega) (Nat.le_refl _) k1 h9 hA h313 hQ
      try simp (disch := omega) only [li, nO_n, adI, mlI, tnI, vpI, ltI, leI, eqI, forall_eq, leT, leF, ltT, ltF, eqT, eqF, true_and, and_true, false_implies, true_implies, forall_const, not_true_eq_false, not_false_eq_true, implies_true, h9, h6]
      exact this
    · rw [if_neg e1] at hQ
      try simp (disch := omega) only [li, nO_n, adI, mlI, tnI, vpI, ltI, leI, eqI, forall_eq, leT, leF, ltT, ltF, eqT, eqF, true_and, and_true, false_implies, true_implies, forall_const, not_true_eq_false, not_false_eq_true, implies_true, h9, h6]
      refine cfloor hw1 hg1 hD hK h2 h8 hm hm2 ?_
      have ef : flo m (setB g g.2.1 (g.2.2.2.2.2 + 1)).2.1 = (g.2.1.2 (m - 1)).2 := if_pos (by show m ≤ g.2.1.1; omega)
      have ef2 : flo m g.2.1 = (g.2.1.2 (m - 1)).2 := if_pos (by omega)
      rw [ef]
      by_cases e2 : (g.2.1.2 (m - 1)).2 < total D K none x
      · rw [if_pos e2] at hQ
        have e3 : m - 1 + 1 = m := by omega
        have := fin (m - 1) (up1 M1 309 0 0 (nI (m - 1))) (by omega) (by omega) (k1.u1 rfl) up1_eq (fun k hk => ⟨(up1_ne (by omega)).trans (hA k (by omega)).1, (up1_ne (by omega)).trans (hA k (by omega)).2⟩) ((up1_ne (by omega)).trans h313) (by rw [e3]; exact hQ)
        try simp (disch := omega) only [li, nO_n, adI, mlI, tnI, vpI, ltI, leI, eqI, forall_eq, leT, leF, ltT, ltF, eqT, eqF, true_and, and_true, false_implies, true_implies, forall_const, not_true_eq_false, not_false_eq_true, implies_true, h6, sbI]
        exact this
      · rw [if_neg e2] at hQ
        try simp (disch := omega) only [li, nO_n, adI, mlI, tnI, vpI, ltI, leI, eqI, forall_eq, leT, leF, ltT, ltF, eqT, eqF, true_and, and_true, false_implies, true_implies, forall_const, not_true_eq_false, not_false_eq_true, implies_true]
        exact hQ M1 k1 hw1
  · rw [if_neg e0] at hQ
    try simp (disch := omega) only [li, nO_n, adI, mlI, tnI, vpI, ltI, leI, eqI, forall_eq, leT, leF, ltT, ltF, eqT, eqF, true_and, and_true, false_implies, true_implies, forall_const, not_true_eq_false, not_false_eq_true, implies_true]
    exact hQ M1 k1 hw1
theorem cleave {D : Dc} {K : Qc} {kn so m : Nat} {g : Ge} {M : Mem} (h : HW D K so m g M) (hg : GI D K so m g) (hD : DW D kn) (hK : QW K kn) (h2 : 2 ≤ so) (h8 : so ≤ 8) (hm : 1 ≤ m) (hm2 : m ≤ 10) {t x hh : Nat} {a : Nat → Nat} (hht : hh ≤ t) (hLN : LN D K so g.1 (sN K) t a) (hx : x < 1000) {g1 : Ge} {m2 : Mem} (i1 : GI D K so m g1) (w1 : HW D K so m g1 m2) (k1 : Kp pHt M m2) (l1 : LW t a m2) (f5 : m2.1 305 0 0 = nI hh) {Q : Mem → Prop} (hQ2 : ∀ M', Kp pHt M M' → HW D K so m (setZ g1 (mp (Fdx D K so x) g1.1 a hh) g1.2.2.2.1 g1.2.2.2.2.1) M' → Q M') : pX2_leave m2 (nI x) Q := by
  have hn := hK.1
  have htn := hLN.1
  have ha : ∀ k, k < t → a k < sN K := fun k hk => (hLN.2.1 k hk).1
  have hne : ∀ n, n < t → ∀ k, k < n → a k ≠ a n := fun n hn2 k hk => (hLN.2.2 k n hk hn2).1
  unfold pX2_leave
  refine lp_up (fun k s => s.2 = nI k ∧ Kp pHt M s.1 ∧ HW D K so m (setZ g1 (mp (Fdx D K so x) g1.1 a k) g1.2.2.2.1 g1.2.2.2.2.1) s.1 ∧ LW t a s.1 ∧ s.1.1 305 0 0 = nI hh) (Nat.zero_le hh) ⟨rfl, k1, (by show HW D K so m (setZ g1 (mp (Fdx D K so x) g1.1 a 0) g1.2.2.2.1 g1.2.2.2.2.1) m2; rw [mp_0]; exact w1), l1, f5⟩ ?_ ?_
  · rintro k ⟨m3, y⟩ L - hk ⟨rfl, k3, w3, l3, e5⟩ hL
    have k3 : Kp pHt M m3 := k3
    have w3 : HW D K so m (setZ g1 (mp (Fdx D K so x) g1.1 a k) g1.2.2.2.1 g1.2.2.2.2.1) m3 := w3
    have l3 : LW t a m3 := l3
    have e5 : m3.1 305 0 0 = nI hh := e5
    have hak := ha k (by omega)
    have hat := mp_at (F := Fdx D K so x) (z := g1.1) (hne k (by omega))
    have hs := mp_s (F := Fdx D K so x) (z := g1.1) (hne k (by omega))
    have ic := i1.1 _ hak
    have hp := ic.2.2.1
    obtain ⟨s1, s2⟩ := w3.2.2.1 (a k) hak
    obtain ⟨w1', w2', w3'⟩ := HW.w h hg hD hK h2 h8 hm hm2 hak
    have s2 : CV D (sW K (a k)) so (mp (Fdx D K so x) g1.1 a k (a k)) (a k) m3 := s2
    rw [hat] at s2 hs
    have e12 : m3.1 112 (a k) 0 = nI (cP (g1.1 (a k))) := s2.2.1
    unfold bX2_leave_2 bX2_leave_37
    by_cases e : cP (g1.1 (a k)) = x
    · have ef : Fdx D K so x (a k) (g1.1 (a k)) = dipC D (sW K (a k)) so (x + 1) (g1.1 (a k)) := if_pos e
      try simp (disch := omega) only [li, nO_n, adI, mlI, tnI, vpI, ltI, leI, eqI, forall_eq, leT, leF, ltT, ltF, eqT, eqF, true_and, and_true, false_implies, true_implies, forall_const, not_true_eq_false, not_false_eq_true, implies_true, e5, l3.2 k (by omega), e12, e]
      refine cdip s1 s2 ic hD h2 h8 w1' (x := x + 1) (by omega) (fun M' k4 v4 => ?_)
      try simp (disch := omega) only [li, nO_n, adI, mlI, tnI, vpI, ltI, leI, eqI, forall_eq, leT, leF, ltT, ltF, eqT, eqF, true_and, and_true, false_implies, true_implies, forall_const, not_true_eq_false, not_false_eq_true, implies_true]
      refine hL _ ⟨rfl, k3.tr (k4.wk fun c j => pHt_v), ?_, l3.kp k4 (pCv_0 (by omega)) (pCv_0 (by omega)), (k4.g (pCv_0 (by omega)) 0).trans e5⟩
      rw [hs, ef]
      exact w3.upd k4 v4
    · have ef : Fdx D K so x (a k) (g1.1 (a k)) = g1.1 (a k) := if_neg e
      try simp (disch := omega) only [li, nO_n, adI, mlI, tnI, vpI, ltI, leI, eqI, forall_eq, leT, leF, ltT, ltF, eqT, eqF, true_and, and_true, false_implies, true_implies, forall_const, not_true_eq_false, not_false_eq_true, implies_true, e5, l3.2 k (by omega), e12]
      refine hL _ ⟨rfl, k3, ?_, l3, e5⟩
      have eu : updZ (mp (Fdx D K so x) g1.1 a k) (a k) (g1.1 (a k)) = mp (Fdx D K so x) g1.1 a k := by
        funext j
        unfold updZ
        by_cases ej : j = a k
        · rw [if_pos ej, ej, hat]
        · rw [if_neg ej]
      rw [hs, ef, eu]
      exact w3
  · rintro ⟨m3, y⟩ L ⟨rfl, k3, w3, l3, e5⟩
    have k3 : Kp pHt M m3 := k3
    have e5 : m3.1 305 0 0 = nI hh := e5
    unfold bX2_leave_2
    try simp (disch := omega) only [li, nO_n, adI, mlI, tnI, vpI, ltI, leI, eqI, forall_eq, leT, leF, ltT, ltF, eqT, eqF, true_and, and_true, false_implies, true_implies, forall_const, not_true_eq_false, not_false_eq_true, implies_true, e5]
    exact hQ2 m3 k3 w3
theorem cseekAll {D : Dc} {K : Qc} {kn so m : Nat} {g : Ge} {M : Mem} (h : HW D K so m g M) (hg : GI D K so m g) (hD : DW D kn) (hK : QW K kn) (h2 : 2 ≤ so) (h8 : so ≤ 8) (hm : 1 ≤ m) (hm2 : m ≤ 10) {t x hh : Nat} {a : Nat → Nat} (hl : LW t a M) (h5 : M.1 305 0 0 = nI hh) (hht : hh ≤ t) (hLN : LN D K so g.1 (sN K) t a) (hx : x < 1000) {Q : Int32 → Mem → Prop} (hQ : ∀ M', Kp pHt M M' → HW D K so m (setZ g (mp (Fsk D K so x) g.1 a hh) (g.2.2.2.1 + hh) g.2.2.2.2.1) M' → LW t a M' → M'.1 305 0 0 = nI hh → Q (nI (b1 (flg (mp (Fsk D K so x) g.1 a hh) a x hh))) M') : pX2_seekAll M (nI x) Q := by
  have hn := hK.1
  have htn := hLN.1
  have ha : ∀ k, k < t → a k < sN K := fun k hk => (hLN.2.1 k hk).1
  have hne : ∀ n, n < t → ∀ k, k < n → a k ≠ a n := fun n hn2 k hk => (hLN.2.2 k n hk hn2).1
  have hfl : flg (mp (Fsk D K so x) g.1 a hh) a x hh = (List.range hh).any (fun j => cP (sekC D (sW K (a j)) so x (g.1 (a j))) == x) := by
    unfold flg
    rw [Bool.eq_iff_iff, anyR, anyR]
    constructor
    · rintro ⟨i, i1, i2⟩
      rw [mp_in i1] at i2
      exact ⟨i, i1, i2⟩
    · rintro ⟨i, i1, i2⟩
      refine ⟨i, i1, ?_⟩
      rw [mp_in i1]
      exact i2
  unfold pX2_seekAll
  refine lp_up (fun k s => s.2.1 = nI (b1 ((List.range k).any (fun j => cP (sekC D (sW K (a j)) so x (g.1 (a j))) == x))) ∧ s.2.2 = nI k ∧ Kp pHt M s.1 ∧ HW D K so m (setZ g (mp (Fsk D K so x) g.1 a k) (g.2.2.2.1 + k) g.2.2.2.2.1) s.1 ∧ LW t a s.1 ∧ s.1.1 305 0 0 = nI hh) (Nat.zero_le hh) ⟨rfl, rfl, Kp.rf, (by show HW D K so m (setZ g (mp (Fsk D K so x) g.1 a 0) (g.2.2.2.1 + 0) g.2.2.2.2.1) M; rw [mp_0]; exact h), hl, h5⟩ ?_ ?_
  · rintro k ⟨m3, y2, y3⟩ L - hk ⟨rfl, rfl, k3, w3, l3, e5⟩ hL
    have k3 : Kp pHt M m3 := k3
    have w3 : HW D K so m (setZ g (mp (Fsk D K so x) g.1 a k) (g.2.2.2.1 + k) g.2.2.2.2.1) m3 := w3
    have l3 : LW t a m3 := l3
    have e5 : m3.1 305 0 0 = nI hh := e5
    have hak := ha k (by omega)
    have hat := mp_at (F := Fsk D K so x) (z := g.1) (hne k (by omega))
    have hs := mp_s (F := Fsk D K so x) (z := g.1) (hne k (by omega))
    have ic := hg.1 _ hak
    obtain ⟨w1', w2', w3'⟩ := HW.w h hg hD hK h2 h8 hm hm2 hak
    have e11 : m3.1 311 0 0 = nI (g.2.2.2.1 + k) := w3.2.2.2.2.2.2.2.1
    rw [hat] at hs
    have ka : Kp pHt M (up1 m3 311 0 0 (nI (g.2.2.2.1 + k + 1))) := k3.u1 rfl
    have wa : HW D K so m (setZ g (mp (Fsk D K so x) g.1 a k) (g.2.2.2.1 + (k + 1)) g.2.2.2.2.1) (up1 m3 311 0 0 (nI (g.2.2.2.1 + k + 1))) := by
      obtain ⟨h1, h2, r1, r2, r3, r4, r5, r6, r7, r8⟩ := w3
      have kk : Kp (fun c _ => decide (c ≠ 311)) m3 (up1 m3 311 0 0 (nI (g.2.2.2.1 + k + 1))) := Kp.rf.u1 rfl
      have kb : ∀ j c, 100 ≤ c → c ≤ 116 → ∀ b, (up1 m3 311 0 0 (nI (g.2.2.2.1 + k + 1))).1 c j b = m3.1 c j b := fun j c h3 h4 b => kk.g (by simp; omega) b
      exact ⟨h1.kp (kk.wk fun c j hc => by unfold pCD at hc; simp at hc ⊢; omega), h2.kp (kk.wk fun c j hc => by unfold pCK at hc; simp at hc ⊢; omega), fun x hx => ⟨(r1 x hx).1.all (kb x), (r1 x hx).2.all (kb x)⟩, (up1_ne (by omega)).trans r2, (up1_ne (by omega)).trans r3, r4.kp kk rfl rfl, (up1_ne (by omega)).trans r5, up1_eq, (up1_ne (by omega)).trans r7, (up1_ne (by omega)).trans r8⟩
    have la : LW t a (up1 m3 311 0 0 (nI (g.2.2.2.1 + k + 1))) := ⟨(up1_ne (by omega)).trans l3.1, fun j hj => (up1_ne (by omega)).trans (l3.2 j hj)⟩
    have ea : (up1 m3 311 0 0 (nI (g.2.2.2.1 + k + 1))).1 305 0 0 = nI hh := (up1_ne (by omega)).trans e5
    unfold bX2_seekAll_4
    try simp (disch := omega) only [li, nO_n, adI, mlI, tnI, vpI, ltI, leI, eqI, forall_eq, leT, leF, ltT, ltF, eqT, eqF, true_and, and_true, false_implies, true_implies, forall_const, not_true_eq_false, not_false_eq_true, implies_true, e5, e11, l3.2 k (by omega)]
    generalize up1 m3 311 0 0 (nI (g.2.2.2.1 + k + 1)) = m4 at ka wa la ea
    obtain ⟨s1, s2⟩ := wa.2.2.1 (a k) hak
    have s2 : CV D (sW K (a k)) so (mp (Fsk D K so x) g.1 a k (a k)) (a k) m4 := s2
    rw [hat] at s2
    refine cseek s1 s2 ic hD h2 h8 w1' wa.1 hx (fun M' k4 v4 => ?_)
    have is2 := (ic.sek hD h2 (x := x)).1.2.2.1
    have e12 : M'.1 112 (a k) 0 = nI (cP (sekC D (sW K (a k)) so x (g.1 (a k)))) := v4.2.1
    have go : ∀ b : Bool, b = (List.range (k + 1)).any (fun j => cP (sekC D (sW K (a j)) so x (g.1 (a j))) == x) → L (M', nI (b1 b), nI (k + 1)) := fun b eb => by
      refine hL _ ⟨by rw [eb], rfl, ka.tr (k4.wk fun c j => pHt_v), ?_, la.kp k4 (pCv_0 (by omega)) (pCv_0 (by omega)), (k4.g (pCv_0 (by omega)) 0).trans ea⟩
      rw [hs]
      exact wa.upd k4 v4
    have ers : (List.range (k + 1)).any (fun j => cP (sekC D (sW K (a j)) so x (g.1 (a j))) == x) = ((List.range k).any (fun j => cP (sekC D (sW K (a j)) so x (g.1 (a j))) == x) || (cP (sekC D (sW K (a k)) so x (g.1 (a k))) == x)) := by
      rw [List.range_succ, List.any_append]
      simp
    rw [ers] at go
    unfold bX2_seekAll_54 bX2_seekAll_60
    cases eb : (List.range k).any (fun j => cP (sekC D (sW K (a j)) so x (g.1 (a j))) == x)
    · rw [eb] at go
      by_cases ex : cP (sekC D (sW K (a k)) so x (g.1 (a k))) = x
      · have := go true (by rw [Bool.false_or]; exact (beq_iff_eq.mpr ex).symm)
        try simp (disch := omega) only [li, nO_n, adI, mlI, tnI, vpI, ltI, leI, eqI, forall_eq, leT, leF, ltT, ltF, eqT, eqF, true_and, and_true, false_implies, true_implies, forall_const, not_true_eq_false, not_false_eq_true, implies_true, b1, reduceCtorEq, if_false, l3.2 k (by omega), e12, ex]
        exact this
      · have := go false (by rw [Bool.false_or]; exact (beq_eq_false_iff_ne.mpr ex).symm)
        try simp (disch := omega) only [li, nO_n, adI, mlI, tnI, vpI, ltI, leI, eqI, forall_eq, leT, leF, ltT, ltF, eqT, eqF, true_and, and_true, false_implies, true_implies, forall_const, not_true_eq_false, not_false_eq_true, implies_true, b1, reduceCtorEq, if_false, l3.2 k (by omega), e12]
        exact this
    · rw [eb] at go
      have := go true (by rw [Bool.true_or])
      have e1 : b1 true = 1 := rfl
      try simp (disch := omega) only [li, nO_n, adI, mlI, tnI, vpI, ltI, leI, eqI, forall_eq, leT, leF, ltT, ltF, eqT, eqF, true_and, and_true, false_implies, true_implies, forall_const, not_true_eq_false, not_false_eq_true, implies_true, e1]
      exact this
  · rintro ⟨m3, y2, y3⟩ L ⟨rfl, rfl, k3, w3, l3, e5⟩
    have k3 : Kp pHt M m3 := k3
    have w3 : HW D K so m (setZ g (mp (Fsk D K so x) g.1 a hh) (g.2.2.2.1 + hh) g.2.2.2.2.1) m3 := w3
    have l3 : LW t a m3 := l3
    have e5 : m3.1 305 0 0 = nI hh := e5
    have i3 : GI D K so m (setZ g (mp (Fsk D K so x) g.1 a hh) (g.2.2.2.1 + hh) g.2.2.2.2.1) := hg.mpZ (fun i c hc => (hc.sek hD h2).1)
    have hQ := hQ m3 k3 w3 l3 e5
    rw [hfl] at hQ
    unfold bX2_seekAll_4
    try simp (disch := omega) only [li, nO_n, adI, mlI, tnI, vpI, ltI, leI, eqI, forall_eq, leT, leF, ltT, ltF, eqT, eqF, true_and, and_true, false_implies, true_implies, forall_const, not_true_eq_false, not_false_eq_true, implies_true, e5]
    exact ⟨bz1 w3.1 w3.2.1 hD hK _, hQ⟩
theorem cali {D : Dc} {K : Qc} {kn so m : Nat} {g : Ge} {M : Mem} (h : HW D K so m g M) (hg : GI D K so m g) (hD : DW D kn) (hK : QW K kn) (h2 : 2 ≤ so) (h8 : so ≤ 8) (hm : 1 ≤ m) (hm2 : m ≤ 10) {t x hh : Nat} {a : Nat → Nat} (hl : LW t a M) (h5 : M.1 305 0 0 = nI hh) (hht : hh ≤ t) (hLN : LN D K so g.1 (sN K) t a) (hx : x < 1000) (hx0 : ∀ k, k < hh → cP (g.1 (a k)) = x) {Q : Int32 → Mem → Prop} {R : Mem → Prop} (hR : ∀ M', Kp pHt M M' → HW D K so m (trS D K so m g a x hh) M' → R M') (g0 : ∀ M', pX2_leave M' (nI x) R → Q 0 M') (g1 : ∀ M', pX2_lookAt M' (nI x) (fun M2 => pX2_leave M2 (nI x) R) → Q 1 M') : pX2_seekAll M (nI x) Q := by
  have hi : ∀ k, k < t → IC D (sW K (a k)) so (g.1 (a k)) ∧ liv D K so g.1 (a k) := fun k hk => ⟨hg.1 _ (hLN.2.1 k hk).1, (hLN.2.1 k hk).2⟩
  refine cseekAll h hg hD hK h2 h8 hm hm2 hl h5 hht hLN hx (fun m3 k3 w3 l3 e5 => ?_)
  have i3 : GI D K so m (setZ g (mp (Fsk D K so x) g.1 a hh) (g.2.2.2.1 + hh) g.2.2.2.2.1) := hg.mpZ (fun i c hc => (hc.sek hD h2).1)
  unfold trS at hR
  cases eb : flg (mp (Fsk D K so x) g.1 a hh) a x hh
  · rw [eb] at hR
    exact g0 m3 (cleave h hg hD hK h2 h8 hm hm2 hht hLN hx i3 w3 k3 l3 e5 hR)
  · have hd := flg_doc hD hK h2 (t := t) hi hht (fun k hk => by rw [hx0 k hk]; exact Nat.le_refl _) eb
    rw [eb] at hR
    refine g1 m3 (clookAt w3 i3 hD hK h2 h8 hm hm2 hd.1 hd.2 (fun M' k4 w4 => ?_))
    have hk := keep_c hD hK h2 hm i3.2.1 i3.2.2 hd.1
    refine cleave h hg hD hK h2 h8 hm hm2 hht hLN hx ?_ w4 (k3.tr (k4.wk fun c j => pHt_o)) (l3.kp k4 rfl rfl) ((k4.g rfl 0).trans e5) hR
    exact ⟨i3.1, hk.1, hk.2⟩
