/-! PURE: to put an answer in its place -/
def ip (a : Nat → Nat × Nat) (s : Nat) : Nat → Nat
  | 0 => 0
  | n + 1 => if s ≤ (a n).2 then n + 1 else ip a s n
theorem ip_le (a : Nat → Nat × Nat) (s n : Nat) : ip a s n ≤ n := by
  induction n with
  | zero => exact Nat.le_refl _
  | succ n ih =>
    unfold ip
    by_cases h : s ≤ (a n).2
    · rw [if_pos h]; exact Nat.le_refl _
    · rw [if_neg h]; omega
def insA (a : Nat → Nat × Nat) (p : Nat × Nat) (n k : Nat) : Nat × Nat := if k < ip a p.2 n then a k else if k = ip a p.2 n then p else a (k - 1)
theorem insA_P {a : Nat → Nat × Nat} {p : Nat × Nat} {n k : Nat} {P : Nat × Nat → Prop} (hp : P p) (ha : ∀ j, j < n → P (a j)) (hk : k < n + 1) : P (insA a p n k) := by
  have h := ip_le a p.2 n
  unfold insA
  by_cases h1 : k < ip a p.2 n
  · rw [if_pos h1]; exact ha _ (by omega)
  · rw [if_neg h1]
    by_cases h2 : k = ip a p.2 n
    · rw [if_pos h2]; exact hp
    · rw [if_neg h2]; exact ha _ (by omega)
def AW (c e i n : Nat) (a : Nat → Nat × Nat) (M : Mem) : Prop := ∀ k, k < n → M.1 c i k = nI (a k).1 ∧ M.1 e i k = nI (a k).2
theorem AW.kp {P : Nat → Nat → Bool} {c e i n : Nat} {a : Nat → Nat × Nat} {M M' : Mem} (h : AW c e i n a M) (k : Kp P M M') (h1 : P c i = true) (h2 : P e i = true) : AW c e i n a M' := fun x hx => ⟨(k.g h1 x).trans (h x hx).1, (k.g h2 x).trans (h x hx).2⟩
theorem AW.put {c e i n y p s : Nat} {a : Nat → Nat × Nat} {M : Mem} (hce : c ≠ e) (hy : ip a s n = y) (h1 : ∀ k, k < y → M.1 c i k = nI (a k).1 ∧ M.1 e i k = nI (a k).2) (h2 : ∀ k, y < k → k ≤ n → M.1 c i k = nI (a (k - 1)).1 ∧ M.1 e i k = nI (a (k - 1)).2) : AW c e i (n + 1) (insA a (p, s) n) (up1 (up1 M c i y (nI p)) e i y (nI s)) := by
  intro k hk
  unfold insA
  show (up1 (up1 M c i y (nI p)) e i y (nI s)).1 c i k = nI (if k < ip a s n then a k else if k = ip a s n then (p, s) else a (k - 1)).1 ∧ (up1 (up1 M c i y (nI p)) e i y (nI s)).1 e i k = nI (if k < ip a s n then a k else if k = ip a s n then (p, s) else a (k - 1)).2
  rw [hy]
  by_cases ee : k = y
  · subst ee
    rw [if_neg (by omega), if_pos rfl, up1_eq, up1_ne (by omega), up1_eq]
    exact ⟨rfl, rfl⟩
  · rw [up1_ne (by omega), up1_ne (by omega), up1_ne (by omega), up1_ne (by omega)]
    by_cases e2 : k < y
    · rw [if_pos e2]; exact h1 k e2
    · rw [if_neg e2, if_neg ee]; exact h2 k (by omega) (by omega)
theorem ins_loop {σ : Type} {body : (σ → Prop) → σ → Prop} (mk : Mem → Int32 → σ) {P : Nat → Nat → Bool} {c e i n s p : Nat} {a : Nat → Nat × Nat} {M : Mem} (hce : c ≠ e) (h : AW c e i n a M) (h1 : P c i = false) (h2 : P e i = false) (step : ∀ (M' : Mem) (y : Nat) (L : σ → Prop), y < n → Kp P M M' → M'.1 e i y = nI (a y).2 → ¬ s ≤ (a y).2 → L (mk (up1 (up1 M' c i (y + 1) (M'.1 c i y)) e i (y + 1) ((up1 M' c i (y + 1) (M'.1 c i y)).1 e i y)) (nI y)) → body L (mk M' (nI (y + 1)))) (stop : ∀ (M' : Mem) (y : Nat) (L : σ → Prop), y ≤ n → Kp P M M' → (∀ z, y = z + 1 → M'.1 e i z = nI (a z).2 ∧ s ≤ (a z).2) → AW c e i (n + 1) (insA a (p, s) n) (up1 (up1 M' c i y (nI p)) e i y (nI s)) → body L (mk M' (nI y))) : ∃ m, lp body m (mk M (nI n)) := by
  have key : ∀ y, y ≤ n → ∀ M', Kp P M M' → ip a s n = ip a s y → (∀ k, k < y → M'.1 c i k = nI (a k).1 ∧ M'.1 e i k = nI (a k).2) → (∀ k, y < k → k ≤ n → M'.1 c i k = nI (a (k - 1)).1 ∧ M'.1 e i k = nI (a (k - 1)).2) → lp body (y + 1) (mk M' (nI y)) := by
    intro y
    induction y with
    | zero =>
      intro hy M' hk hi g1 g2
      exact stop M' 0 _ hy hk (fun z ez => absurd ez (by omega)) (AW.put hce hi g1 g2)
    | succ y ih =>
      intro hy M' hk hi g1 g2
      by_cases es : s ≤ (a y).2
      · refine stop M' (y + 1) _ hy hk (fun z ez => ?_) (AW.put hce (by rw [hi, ip, if_pos es]) g1 g2)
        obtain rfl : y = z := by omega
        exact ⟨(g1 y (by omega)).2, es⟩
      · refine step M' y _ (by omega) hk (g1 y (by omega)).2 es ?_
        refine ih (by omega) _ ((hk.u1 h1).u1 h2) (by rw [hi, ip, if_neg es]) (fun k hk2 => ?_) (fun k hk1 hk2 => ?_)
        · rw [up1_ne (by omega), up1_ne (by omega), up1_ne (by omega), up1_ne (by omega)]
          exact g1 k (by omega)
        · by_cases ek : k = y + 1
          · subst ek
            rw [up1_eq, up1_ne (by omega), up1_eq, up1_ne (by omega), Nat.add_sub_cancel]
            exact g1 y (by omega)
          · rw [up1_ne (by omega), up1_ne (by omega), up1_ne (by omega), up1_ne (by omega)]
            exact g2 k (by omega) hk2
  exact ⟨n + 1, key n (Nat.le_refl _) M Kp.rf rfl h (fun k k1 k2 => absurd k1 (by omega))⟩
/-- the answers among the first documents -/
def rk (D : Dc) (K : Qc) (lo : Option Nat) : Nat → Nat × (Nat → Nat × Nat)
  | 0 => (0, fun _ => (0, 0))
  | d + 1 => if why D K lo d = 0 then ((rk D K lo d).1 + 1, insA (rk D K lo d).2 (d, total D K lo d) (rk D K lo d).1) else rk D K lo d
def rN (D : Dc) (K : Qc) (lo : Option Nat) : Nat := (rk D K lo D.length).1
def rA (D : Dc) (K : Qc) (lo : Option Nat) : Nat → Nat × Nat := (rk D K lo D.length).2
theorem rk_le (D : Dc) (K : Qc) (lo : Option Nat) (d : Nat) : (rk D K lo d).1 ≤ d := by
  induction d with
  | zero => exact Nat.le_refl _
  | succ d ih =>
    unfold rk
    by_cases h : why D K lo d = 0
    · rw [if_pos h]; show (rk D K lo d).1 + 1 ≤ _; omega
    · rw [if_neg h]; omega
theorem rk_b {D : Dc} {K : Qc} {kn : Nat} (lo : Option Nat) (hD : DW D kn) (hK : QW K kn) (d : Nat) : ∀ k, k < (rk D K lo d).1 → ((rk D K lo d).2 k).1 < d ∧ ((rk D K lo d).2 k).2 ≤ 93612000 := by
  induction d with
  | zero => intro k hk; exact absurd hk (by simp [rk])
  | succ d ih =>
    intro k hk
    unfold rk at hk ⊢
    by_cases h : why D K lo d = 0
    · rw [if_pos h] at hk ⊢
      refine insA_P (P := fun x => x.1 < d + 1 ∧ x.2 ≤ 93612000) ⟨Nat.lt_succ_self d, total_le lo d hD hK⟩ (fun j hj => ?_) hk
      have := ih j hj
      omega
    · rw [if_neg h] at hk ⊢
      have := ih k hk
      omega
theorem why_2 {D : Dc} {K : Qc} {lo : Option Nat} {d : Nat} (h : dS D d ≠ 1) : ¬ why D K lo d = 0 := by unfold why; rw [if_pos h]; decide
def pRk (i c j : Nat) : Bool := decide (¬ (j = i ∧ (c = 902 ∨ c = 903 ∨ c = 904)))
def RK (i n : Nat) (a : Nat → Nat × Nat) (M : Mem) : Prop := M.1 904 i 0 = nI n ∧ AW 902 903 i n a M
theorem pRk_1 (i : Nat) : pRk i 902 i = false := by unfold pRk; simp
theorem pRk_2 (i : Nat) : pRk i 903 i = false := by unfold pRk; simp
theorem pRk_3 (i : Nat) : pRk i 904 i = false := by unfold pRk; simp
def pIn (i c j : Nat) : Bool := decide (¬ (j = i ∧ (c = 902 ∨ c = 903)))
theorem pIn_1 (i : Nat) : pIn i 902 i = false := by unfold pIn; simp
theorem pIn_2 (i : Nat) : pIn i 903 i = false := by unfold pIn; simp
theorem pIn_R {i c j : Nat} (h : pRk i c j = true) : pIn i c j = true := by unfold pRk at h; unfold pIn; simp at h ⊢; omega
theorem cinsert {i n p s : Nat} {a : Nat → Nat × Nat} {M : Mem} (h : RK i n a M) (hn : n < 64) (hs : s < 2147483648) (ha : ∀ k, k < n → (a k).2 < 2147483648) {Q : Mem → Prop} (hQ : ∀ M', Kp (pRk i) M M' → RK i (n + 1) (insA a (p, s) n) M' → Q M') : pX8_insert i M (nI p) (nI s) Q := by
  unfold pX8_insert
  simp only [h.1, forall_eq]
  refine ins_loop (fun m y => (m, y)) (P := pIn i) (c := 902) (e := 903) (i := i) (s := s) (p := p) (a := a) (by decide) h.2 (pIn_1 i) (pIn_2 i) (fun M' y L hy hk e1 e2 hL => ?_) (fun M' y L hy hk hz hA => ?_)
  · have hb := ha y hy
    unfold bX8_insert_5
    try simp (disch := omega) only [li, nO_n, adI, mlI, tnI, vpI, ltI, leI, eqI, forall_eq, leT, leF, ltT, ltF, eqT, eqF, true_and, and_true, false_implies, true_implies, forall_const, not_true_eq_false, not_false_eq_true, implies_true, Nat.add_sub_cancel, sbs, e1, nO_add]
    exact hL
  · have fin : bX8_insert_55 i (nI p) (nI s) Q M' (nI y) := by
      unfold bX8_insert_55
      try simp (disch := omega) only [li, nO_n, adI, mlI, tnI, vpI, ltI, leI, eqI, forall_eq, leT, leF, ltT, ltF, eqT, eqF, true_and, and_true, false_implies, true_implies, forall_const, not_true_eq_false, not_false_eq_true, implies_true]
      refine hQ _ ((((hk.wk fun c j => pIn_R).u1 (pRk_1 i)).u1 (pRk_2 i)).u1 (pRk_3 i)) ⟨?_, ?_⟩
      · rw [up1_eq, up1_ne (by omega), up1_ne (by omega), ← adI, ← h.1, (hk 904 i (by unfold pIn; simp)).1]
      · exact fun k hk2 => ⟨by rw [up1_ne (by omega)]; exact (hA k hk2).1, by rw [up1_ne (by omega)]; exact (hA k hk2).2⟩
    unfold bX8_insert_5
    cases y with
    | zero =>
      try simp (disch := omega) only [li, nO_n, adI, mlI, tnI, vpI, ltI, leI, eqI, forall_eq, leT, leF, ltT, ltF, eqT, eqF, true_and, and_true, false_implies, true_implies, forall_const, not_true_eq_false, not_false_eq_true, implies_true]
      exact fin
    | succ z =>
      have hb := ha z (by omega)
      obtain ⟨e1, e2⟩ := hz z rfl
      try simp (disch := omega) only [li, nO_n, adI, mlI, tnI, vpI, ltI, leI, eqI, forall_eq, leT, leF, ltT, ltF, eqT, eqF, true_and, and_true, false_implies, true_implies, forall_const, not_true_eq_false, not_false_eq_true, implies_true, sbs, e1]
      exact fin
theorem pRk_C {i c j : Nat} (h : pCD c j = true) : pRk i c j = true := by unfold pCD at h; unfold pRk; simp at h ⊢; omega
theorem pRk_K {i c j : Nat} (h : pCK c j = true) : pRk i c j = true := by unfold pCK at h; unfold pRk; simp at h ⊢; omega
theorem crank {D : Dc} {K : Qc} {kn : Nat} {M : Mem} {lo : Option Nat} (h : CD D M) (hq : CK K 0 M) (hD : DW D kn) (hK : QW K kn) (hlo : ∀ i, lo = some i → i < 2147483648) (i : Nat) {Q : Mem → Prop} (hQ : ∀ M', Kp (pRk i) M M' → RK i (rN D K lo) (rA D K lo) M' → Q M') : pX8_rank i M (oI lo) Q := by
  have hl := hD.1
  unfold pX8_rank
  simp only [forall_eq]
  refine lp_up (fun d s => s.2 = nI d ∧ Kp (pRk i) M s.1 ∧ RK i (rk D K lo d).1 (rk D K lo d).2 s.1) (Nat.zero_le D.length) ⟨rfl, Kp.rf.u1 (pRk_3 i), up1_eq, fun k hk => absurd hk (Nat.not_lt_zero _)⟩ ?_ ?_
  · rintro d ⟨m, y⟩ L - hlt ⟨rfl, hk, hr⟩ hL
    have hk : Kp (pRk i) M m := hk
    have hr : RK i (rk D K lo d).1 (rk D K lo d).2 m := hr
    have h2 : CD D m := h.kp (hk.wk fun c j => pRk_C)
    have hq2 : CK K 0 m := hq.kp (hk.wk fun c j => pRk_K)
    have ht := total_le lo d hD hK
    have hrl := rk_le D K lo d
    have hrb := rk_b lo hD hK d
    unfold bX8_rank_7 bX8_rank_55
    try simp (disch := omega) only [li, nO_n, adI, mlI, tnI, vpI, ltI, leI, eqI, forall_eq, leT, leF, ltT, ltF, eqT, eqF, true_and, and_true, false_implies, true_implies, forall_const, not_true_eq_false, not_false_eq_true, implies_true, h2.n]
    refine cholds h2 hD _ (fun d2 hd2 hs e => ?_) (fun hn => ?_)
    · try simp (disch := omega) only [li, nO_n, adI, mlI, tnI, vpI, ltI, leI, eqI, forall_eq, leT, leF, ltT, ltF, eqT, eqF, true_and, and_true, false_implies, true_implies, forall_const, not_true_eq_false, not_false_eq_true, implies_true]
      refine cwhy h2 hq2 hD hK hlt (fun e3 => ?_) hlo ?_
      · have ed := (eqI (by omega) (by omega)).mp e
        rw [ed] at e3; exact hs e3
      have hw : why D K lo d ≤ 5 := by
        unfold why
        repeat' split
        all_goals omega
      by_cases e0 : why D K lo d = 0
      · try simp (disch := omega) only [li, nO_n, adI, mlI, tnI, vpI, ltI, leI, eqI, forall_eq, leT, leF, ltT, ltF, eqT, eqF, true_and, and_true, false_implies, true_implies, forall_const, not_true_eq_false, not_false_eq_true, implies_true, e0]
        refine ctotal h2 hq2 hD hK (by omega) hlo ?_
        refine cinsert hr (by omega) (by omega) (fun k hk2 => by have := hrb k hk2; omega) (fun M' k2 hr2 => ?_)
        try simp (disch := omega) only [li, nO_n, adI, mlI, tnI, vpI, ltI, leI, eqI, forall_eq, leT, leF, ltT, ltF, eqT, eqF, true_and, and_true, false_implies, true_implies, forall_const, not_true_eq_false, not_false_eq_true, implies_true]
        refine hL _ ⟨rfl, hk.tr k2, ?_⟩
        unfold rk
        rw [if_pos e0]
        exact hr2
      · try simp (disch := omega) only [li, nO_n, adI, mlI, tnI, vpI, ltI, leI, eqI, forall_eq, leT, leF, ltT, ltF, eqT, eqF, true_and, and_true, false_implies, true_implies, forall_const, not_true_eq_false, not_false_eq_true, implies_true]
        refine hL _ ⟨rfl, hk, ?_⟩
        unfold rk
        rw [if_neg e0]
        exact hr
    · try simp (disch := omega) only [li, nO_n, adI, mlI, tnI, vpI, ltI, leI, eqI, forall_eq, leT, leF, ltT, ltF, eqT, eqF, true_and, and_true, false_implies, true_implies, forall_const, not_true_eq_false, not_false_eq_true, implies_true]
      refine hL _ ⟨rfl, hk, ?_⟩
      unfold rk
      rw [if_neg]
      · exact hr
      · by_cases e3 : dS D d = 3
        · exact why_2 (by omega)
        · exact absurd rfl (hn d hlt e3)
  · rintro ⟨m, y⟩ L ⟨rfl, hk, hr⟩
    have hk : Kp (pRk i) M m := hk
    have h2 : CD D m := h.kp (hk.wk fun c j => pRk_C)
    unfold bX8_rank_7
    try simp (disch := omega) only [li, nO_n, adI, mlI, tnI, vpI, ltI, leI, eqI, forall_eq, leT, leF, ltT, ltF, eqT, eqF, true_and, and_true, false_implies, true_implies, forall_const, not_true_eq_false, not_false_eq_true, implies_true, h2.n]
    exact hQ m hk hr
theorem cplaceOf {i n d : Nat} {a : Nat → Nat × Nat} {M : Mem} (h : RK i n a M) (hn : n ≤ 64) (hd : d < 2147483648) (ha : ∀ k, k < n → (a k).1 < 2147483648) {Q : Int32 → Mem → Prop} (hy : ∀ k, k < n → (a k).1 = d → (∀ j, j < k → (a j).1 ≠ d) → Q (nI k) M) (hx : (∀ j, j < n → (a j).1 ≠ d) → Q nO M) : pX8_placeOf i M (nI d) Q := by
  unfold pX8_placeOf
  refine lp_up (fun k s => s = (M, nI k) ∧ ∀ j, j < k → (a j).1 ≠ d) (Nat.zero_le n) ⟨rfl, fun j hj => absurd hj (Nat.not_lt_zero _)⟩ ?_ ?_
  · rintro k s L - hk ⟨rfl, hj⟩ hL
    have hb := ha k hk
    have e1 := (h.2 k hk).1
    unfold bX8_placeOf_2
    by_cases e : (a k).1 = d
    · try simp (disch := omega) only [li, nO_n, adI, mlI, tnI, vpI, ltI, leI, eqI, forall_eq, leT, leF, ltT, ltF, eqT, eqF, true_and, and_true, false_implies, true_implies, forall_const, not_true_eq_false, not_false_eq_true, implies_true, h.1, e1]
      exact hy k hk e hj
    · try simp (disch := omega) only [li, nO_n, adI, mlI, tnI, vpI, ltI, leI, eqI, forall_eq, leT, leF, ltT, ltF, eqT, eqF, true_and, and_true, false_implies, true_implies, forall_const, not_true_eq_false, not_false_eq_true, implies_true, h.1, e1]
      exact hL _ ⟨rfl, lt_s hj e⟩
  · rintro s L ⟨rfl, hj⟩
    unfold bX8_placeOf_2
    try simp (disch := omega) only [li, nO_n, adI, mlI, tnI, vpI, ltI, leI, eqI, forall_eq, leT, leF, ltT, ltF, eqT, eqF, true_and, and_true, false_implies, true_implies, forall_const, not_true_eq_false, not_false_eq_true, implies_true, h.1]
    exact hx hj
/-! PURE: the reference's answers -/
def kA (c _ : Nat) : Bool := decide (c ≠ 1237 ∧ c ≠ 1238 ∧ c ≠ 1240 ∧ c ≠ 1241 ∧ c ≠ 1242)
def MA (n : Nat) (a : Nat → Nat × Nat) (M : Mem) : Prop := M.1 1240 0 0 = nI n ∧ AW 1241 1242 0 n a M
theorem kA_D {c j : Nat} (h : pMD c j = true) : kA c j = true := by unfold pMD at h; unfold kA; simp at h ⊢; omega
theorem kA_K {c j : Nat} (h : pMK c j = true) : kA c j = true := by unfold pMK at h; unfold kA; simp at h ⊢; omega
theorem kA_L {c j : Nat} (h : kA c j = true) : kL c j = true := by unfold kA at h; unfold kL; simp at h ⊢; omega
def kI (c _ : Nat) : Bool := decide (c ≠ 1241 ∧ c ≠ 1242)
theorem kI_A {c j : Nat} (h : kA c j = true) : kI c j = true := by unfold kA at h; unfold kI; simp at h ⊢; omega
theorem manswers {D : Dc} {K : Qc} {kn : Nat} {M : Mem} {lo : Option Nat} (h : MD D M) (hq : MK K M) (hD : DW D kn) (hK : QW K kn) (hN : M.1 1239 0 0 = oI lo) (hlo : ∀ i, lo = some i → i < 2147483648) {Q : Mem → Prop} (hQ : ∀ M', Kp kA M M' → MA (rN D K lo) (rA D K lo) M' → Q M') : pX11_answersAll M Q := by
  have hl := hD.1
  unfold pX11_answersAll
  simp only [forall_eq]
  refine lp_up (fun d s => s.2 = nI d ∧ Kp kA M s.1 ∧ MA (rk D K lo d).1 (rk D K lo d).2 s.1) (Nat.zero_le D.length) ⟨rfl, Kp.rf.u1 rfl, up1_eq, fun k hk => absurd hk (Nat.not_lt_zero _)⟩ ?_ ?_
  · rintro d ⟨m, y⟩ L - hlt ⟨rfl, hk, hr⟩ hL
    have hk : Kp kA M m := hk
    have hr : MA (rk D K lo d).1 (rk D K lo d).2 m := hr
    have h2 : MD D m := h.kp (hk.wk fun c j => kA_D)
    have hq2 : MK K m := hq.kp (hk.wk fun c j => kA_K)
    have hN2 : m.1 1239 0 0 = oI lo := (hk.g rfl 0).trans hN
    have ht := total_le lo d hD hK
    have hrl := rk_le D K lo d
    have hrb := rk_b lo hD hK d
    have hw : why D K lo d ≤ 5 := by
      unfold why
      repeat' split
      all_goals omega
    unfold bX11_answersAll_7 bX11_answersAll_111
    try simp (disch := omega) only [li, nO_n, adI, mlI, tnI, vpI, ltI, leI, eqI, forall_eq, leT, leF, ltT, ltF, eqT, eqF, true_and, and_true, false_implies, true_implies, forall_const, not_true_eq_false, not_false_eq_true, implies_true, h2.n]
    refine mwhy h2 hq2 hD hK hN2 hlo hlt ?_
    by_cases e0 : why D K lo d = 0
    · try simp (disch := omega) only [li, nO_n, adI, mlI, tnI, vpI, ltI, leI, eqI, forall_eq, leT, leF, ltT, ltF, eqT, eqF, true_and, and_true, false_implies, true_implies, forall_const, not_true_eq_false, not_false_eq_true, implies_true, e0]
      refine mtotal h2 hq2 hD hK hN2 hlo hlt (fun M2 k2 => ?_)
      have hk2 : Kp kA m M2 := k2.wk fun c j => kA_L
      have hr2 : MA (rk D K lo d).1 (rk D K lo d).2 M2 := ⟨(k2.g rfl 0).trans hr.1, hr.2.kp k2 rfl rfl⟩
      simp only [hr2.1, forall_eq]
      refine ins_loop (fun m y => (m, nI d, nI (total D K lo d), y)) (P := kI) (c := 1241) (e := 1242) (i := 0) (s := total D K lo d) (p := d) (a := (rk D K lo d).2) (by decide) hr2.2 rfl rfl (fun M' y L2 hy k3 e1 e2 hL2 => ?_) (fun M' y L2 hy k3 hz hA => ?_)
      · have hb := hrb y hy
        unfold bX11_answersAll_37
        try simp (disch := omega) only [li, nO_n, adI, mlI, tnI, vpI, ltI, leI, eqI, forall_eq, leT, leF, ltT, ltF, eqT, eqF, true_and, and_true, false_implies, true_implies, forall_const, not_true_eq_false, not_false_eq_true, implies_true, Nat.add_sub_cancel, sbs, e1, nO_add]
        exact hL2
      · have fin : bX11_answersAll_87 Q L M' (nI d) (nI (total D K lo d)) (nI y) := by
          unfold bX11_answersAll_87 bX11_answersAll_111
          try simp (disch := omega) only [li, nO_n, adI, mlI, tnI, vpI, ltI, leI, eqI, forall_eq, leT, leF, ltT, ltF, eqT, eqF, true_and, and_true, false_implies, true_implies, forall_const, not_true_eq_false, not_false_eq_true, implies_true]
          refine hL _ ⟨rfl, (((hk.tr (hk2.tr (k3.wk fun c j => kI_A))).u1 rfl).u1 rfl).u1 rfl, ?_, ?_⟩
          · show (up1 _ 1240 0 0 _).1 1240 0 0 = _
            rw [up1_eq, up1_ne (by omega), up1_ne (by omega)]
            rw [k3.g rfl, hr2.1, adI, rk, if_pos e0]
          · unfold rk
            rw [if_pos e0]
            exact fun k hk2 => ⟨by rw [up1_ne (by omega)]; exact (hA k hk2).1, by rw [up1_ne (by omega)]; exact (hA k hk2).2⟩
        unfold bX11_answersAll_37
        cases y with
        | zero =>
          try simp (disch := omega) only [li, nO_n, adI, mlI, tnI, vpI, ltI, leI, eqI, forall_eq, leT, leF, ltT, ltF, eqT, eqF, true_and, and_true, false_implies, true_implies, forall_const, not_true_eq_false, not_false_eq_true, implies_true]
          exact fin
        | succ z =>
          have hb := hrb z (by omega)
          obtain ⟨e1, e2⟩ := hz z rfl
          try simp (disch := omega) only [li, nO_n, adI, mlI, tnI, vpI, ltI, leI, eqI, forall_eq, leT, leF, ltT, ltF, eqT, eqF, true_and, and_true, false_implies, true_implies, forall_const, not_true_eq_false, not_false_eq_true, implies_true, sbs, e1]
          exact fin
    · try simp (disch := omega) only [li, nO_n, adI, mlI, tnI, vpI, ltI, leI, eqI, forall_eq, leT, leF, ltT, ltF, eqT, eqF, true_and, and_true, false_implies, true_implies, forall_const, not_true_eq_false, not_false_eq_true, implies_true]
      refine hL _ ⟨rfl, hk, ?_⟩
      unfold rk
      rw [if_neg e0]
      exact hr
  · rintro ⟨m, y⟩ L ⟨rfl, hk, hr⟩
    have hk : Kp kA M m := hk
    have h2 : MD D m := h.kp (hk.wk fun c j => kA_D)
    unfold bX11_answersAll_7
    try simp (disch := omega) only [li, nO_n, adI, mlI, tnI, vpI, ltI, leI, eqI, forall_eq, leT, leF, ltT, ltF, eqT, eqF, true_and, and_true, false_implies, true_implies, forall_const, not_true_eq_false, not_false_eq_true, implies_true, h2.n]
    exact hQ m hk hr
