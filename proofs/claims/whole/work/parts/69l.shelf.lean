/-! PURE: a document more -/
def dE (D : Dc) (T : List Nat) : Dc := D ++ [(T, 1)]
def ctT (T : List Nat) (w n : Nat) : Nat := ctF (fun p => T.getD p 0 == w) n
def jsT (T : List Nat) (w n : Nat) : Nat × Nat := jst w (fun p => T.getD p 0) n
theorem dE_len (D : Dc) (T : List Nat) : (dE D T).length = D.length + 1 := by unfold dE; rw [List.length_append]; rfl
theorem dE_d (D : Dc) (T : List Nat) : (dE D T).getD D.length ([], 0) = (T, 1) := gd_r
theorem dE_o {D : Dc} (T : List Nat) {d : Nat} (h : d ≠ D.length) : (dE D T).getD d ([], 0) = D.getD d ([], 0) := by
  by_cases h2 : d < D.length
  · exact gd_l h2
  · rw [gd_out (by rw [dE_len]; omega), gd_out (by omega)]
theorem dW_d (D : Dc) (T : List Nat) : dW (dE D T) D.length = T := by unfold dW; rw [dE_d]
theorem dW_o {D : Dc} (T : List Nat) {d : Nat} (h : d ≠ D.length) : dW (dE D T) d = dW D d := by unfold dW; rw [dE_o T h]
theorem dS_d (D : Dc) (T : List Nat) : dS (dE D T) D.length = 1 := by unfold dS; rw [dE_d]
theorem dS_o {D : Dc} (T : List Nat) {d : Nat} (h : d ≠ D.length) : dS (dE D T) d = dS D d := by unfold dS; rw [dE_o T h]
theorem dL_d (D : Dc) (T : List Nat) : dL (dE D T) D.length = T.length := by unfold dL; rw [dW_d]
theorem dL_o {D : Dc} (T : List Nat) {d : Nat} (h : d ≠ D.length) : dL (dE D T) d = dL D d := by unfold dL; rw [dW_o T h]
theorem dT_d (D : Dc) (T : List Nat) (p : Nat) : dT (dE D T) D.length p = T.getD p 0 := by unfold dT; rw [dW_d]
theorem dT_o {D : Dc} (T : List Nat) {d : Nat} (h : d ≠ D.length) (p : Nat) : dT (dE D T) d p = dT D d p := by unfold dT; rw [dW_o T h]
theorem cnt_d (D : Dc) (T : List Nat) (w : Nat) : cnt (dE D T) w D.length = ctT T w T.length := by
  unfold cnt ctT
  rw [dL_d]
  exact ctF_congr (fun p _ => by rw [dT_d])
theorem cnt_o {D : Dc} (T : List Nat) {d : Nat} (h : d ≠ D.length) (w : Nat) : cnt (dE D T) w d = cnt D w d := by
  unfold cnt
  rw [dL_o T h]
  exact ctF_congr (fun p _ => by rw [dT_o T h])
theorem jst_congr {w : Nat} {t u : Nat → Nat} {n : Nat} (h : ∀ k, k < n → t k = u k) : jst w t n = jst w u n := by
  induction n with
  | zero => rfl
  | succ n ih => unfold jst; rw [ih (fun k hk => h k (by omega)), h n (by omega)]
theorem jmp_d (D : Dc) (T : List Nat) (w : Nat) : jmp (dE D T) w D.length = (jsT T w T.length).2 := by
  unfold jmp jsT
  rw [dL_d]
  exact congrArg Prod.snd (jst_congr (fun p _ => dT_d D T p))
theorem jmp_o {D : Dc} (T : List Nat) {d : Nat} (h : d ≠ D.length) (w : Nat) : jmp (dE D T) w d = jmp D w d := by
  unfold jmp
  rw [dL_o T h]
  exact congrArg Prod.snd (jst_congr (fun p _ => dT_o T h p))
theorem keptN_E (D : Dc) (T : List Nat) : keptN (dE D T) = keptN D + 1 := by
  unfold keptN
  rw [dE_len]
  show ctF (fun d => dS (dE D T) d != 3) D.length + (if (dS (dE D T) D.length != 3) = true then 1 else 0) = _
  rw [dS_d]
  exact congrArg (· + 1) (ctF_congr (fun k hk => by rw [dS_o T (by omega)]))
theorem goneN_E (D : Dc) (T : List Nat) : goneN (dE D T) = goneN D := by
  unfold goneN
  rw [dE_len]
  show ctF (fun d => dS (dE D T) d == 2) D.length + (if (dS (dE D T) D.length == 2) = true then 1 else 0) = _
  rw [dS_d]
  exact (ctF_congr (fun k hk => by rw [dS_o T (by omega)]))
theorem lst_E (D : Dc) (T : List Nat) (w : Nat) : lst (dE D T) w = lst D w ++ (if ctT T w T.length = 0 then [] else [D.length]) := by
  unfold lst
  rw [dE_len, lsT_succ]
  have e1 : lsT (dE D T) w D.length = lsT D w D.length := by
    unfold lsT
    refine List.filter_congr (fun d hd => ?_)
    have := List.mem_range.mp hd
    unfold inL
    rw [dS_o T (by omega), cnt_o T (by omega)]
  have e2 : inL (dE D T) w D.length = (ctT T w T.length != 0) := by
    unfold inL
    rw [dS_d, cnt_d]
    rfl
  rw [e1, e2]
  by_cases h : ctT T w T.length = 0
  · rw [if_pos h, h]; rfl
  · rw [if_neg h, if_pos (by simp; exact h)]
theorem pN_E (D : Dc) (T : List Nat) (w : Nat) : pN (dE D T) w = pN D w + (if ctT T w T.length = 0 then 0 else 1) := by
  unfold pN
  rw [lst_E, List.length_append]
  by_cases h : ctT T w T.length = 0
  · rw [if_pos h, if_pos h]; rfl
  · rw [if_neg h, if_neg h]; rfl
theorem pK_l {D : Dc} (T : List Nat) {w k : Nat} (h : k < pN D w) : pK (dE D T) w k = pK D w k := by
  unfold pK
  rw [lst_E, gd_l h]
theorem pK_r {D : Dc} {T : List Nat} {w : Nat} (h : ctT T w T.length ≠ 0) : pK (dE D T) w (pN D w) = D.length := by
  unfold pK
  rw [lst_E, if_neg h]
  exact gd_r
theorem getD_mem {T : List Nat} {p : Nat} (h : p < T.length) : T.getD p 0 ∈ T := by rw [gd_in h]; exact List.getElem_mem h
theorem DW_E {D : Dc} {kn kn' : Nat} {T : List Nat} (h : DW D kn) (hk : kn ≤ kn') (hk2 : kn' ≤ 255) (hd : D.length < 64) (h1 : 1 ≤ T.length) (h2 : T.length ≤ 150) (h3 : ∀ x, x ∈ T → x < kn') : DW (dE D T) kn' := by
  refine ⟨by rw [dE_len]; omega, hk2, fun d hd2 => ?_⟩
  rw [dE_len] at hd2
  by_cases e : d = D.length
  · rw [e, dL_d, dS_d]
    exact ⟨h1, h2, by omega, by omega, fun p hp => by rw [dT_d]; exact h3 _ (getD_mem hp)⟩
  · rw [dL_o T e, dS_o T e]
    obtain ⟨a, b, c, f, g⟩ := h.2.2 d (by omega)
    exact ⟨a, b, c, f, fun p hp => by rw [dT_o T e]; have := g p hp; omega⟩
theorem jsT_0 {T : List Nat} {w n : Nat} (h : ctT T w n = 0) : jsT T w n = (0, 0) := by
  induction n with
  | zero => rfl
  | succ n ih =>
    unfold ctT ctF at h
    unfold jsT jst
    have h1 : ctT T w n = 0 := by unfold ctT; omega
    by_cases e : T.getD n 0 = w
    · rw [e] at h; simp at h
    · rw [if_neg e]; exact ih h1
theorem jsT_1 {T : List Nat} {w n : Nat} (h : ctT T w n ≠ 0) : 1 ≤ (jsT T w n).1 ∧ (jsT T w n).1 ≤ n := by
  refine ⟨?_, (jst_le w _ n).1⟩
  induction n with
  | zero => exact absurd rfl h
  | succ n ih =>
    unfold jsT jst
    by_cases e : T.getD n 0 = w
    · rw [if_pos e]; show 1 ≤ n + 1; omega
    · rw [if_neg e]
      refine ih (fun q => h ?_)
      have hb : (T.getD n 0 == w) = false := beq_eq_false_iff_ne.mpr e
      show ctT T w n + (if (T.getD n 0 == w) = true then 1 else 0) = 0
      rw [hb, q]; rfl
theorem ctT_s (T : List Nat) (w n : Nat) : ctT T w (n + 1) = if T.getD n 0 = w then ctT T w n + 1 else ctT T w n := by
  show ctT T w n + (if (T.getD n 0 == w) = true then 1 else 0) = _
  by_cases e : T.getD n 0 = w
  · rw [if_pos e, if_pos (beq_iff_eq.mpr e)]
  · rw [if_neg e, if_neg (by rw [beq_iff_eq]; exact e), Nat.add_zero]
theorem jsT_s (T : List Nat) (w n : Nat) : jsT T w (n + 1) = if T.getD n 0 = w then (n + 1, max (jsT T w n).2 (n + 1 - (jsT T w n).1)) else jsT T w n := rfl
theorem ctT_le (T : List Nat) (w n : Nat) : ctT T w n ≤ n := ctF_le _ _
theorem na2 {p q : Prop} (h : ¬ q) : ¬ (p ∧ q) := fun z => h z.2
theorem na1 {p q : Prop} (h : ¬ p) : ¬ (p ∧ q) := fun z => h z.1
theorem nsy {α : Type} {a b : α} (h : ¬ a = b) : ¬ b = a := fun z => h z.symm
theorem up1_if {M : Mem} {c i k i' k' : Nat} {v : Int32} : (up1 M c i k v).1 c i' k' = if i' = i ∧ k' = k then v else M.1 c i' k' := by
  by_cases h : i' = i ∧ k' = k
  · rw [if_pos h, h.1, h.2, up1_eq]
  · rw [if_neg h, up1_ne (fun q => h q.2)]
def pSv (c _ : Nat) : Bool := decide (¬ ((501 < c ∧ c < 506) ∨ c = 511 ∨ c = 512 ∨ c = 5501 ∨ (5507 < c ∧ c < 5511)))
def SVs (D : Dc) (T : List Nat) (p : Nat) (M0 M : Mem) : Prop := Kp pSv M0 M ∧ M.1 504 0 0 = nI (D.length + 1) ∧ M.1 505 0 0 = nI (keptN D + 1) ∧ M.1 506 0 0 = nI (goneN D) ∧ (∀ e, M.1 502 0 e = nI (if e = D.length then T.length else dL D e)) ∧ (∀ e, M.1 503 0 e = nI (dS D e - 1)) ∧ (∀ e q, M.1 5501 e q = nI (if e = D.length then (if q < p then T.getD q 0 else 0) else dT D e q)) ∧ (∀ w e, M.1 5508 w e = nI (if e = D.length then ctT T w p else cnt D w e)) ∧ (∀ w e, M.1 5509 w e = nI (if e = D.length then (jsT T w p).2 else jmp D w e)) ∧ (∀ w, M.1 511 0 w = nI (pN D w + (if ctT T w p = 0 then 0 else 1))) ∧ (∀ w k, k < pN D w → M.1 5510 w k = nI (pK D w k)) ∧ (∀ w, ctT T w p ≠ 0 → M.1 5510 w (pN D w) = nI D.length) ∧ (∀ w, ctT T w p ≠ 0 → M.1 512 0 w = nI ((jsT T w p).1 - 1))
theorem SV_end {D : Dc} {T : List Nat} {M0 M : Mem} (h : SVs D T T.length M0 M) : CD (dE D T) M := by
  obtain ⟨-, a1, a2, a3, a4, a5, a6, a7, a8, a9, a10, a11, -⟩ := h
  refine ⟨by rw [dE_len]; exact a1, by rw [keptN_E]; exact a2, by rw [goneN_E]; exact a3, fun d => ?_, fun d => ?_, fun d p => ?_, fun w d => ?_, fun w d => ?_, fun w => by rw [pN_E]; exact a9 w, fun w k hk => ?_⟩
  · rw [a4]
    by_cases e : d = D.length
    · rw [if_pos e, e, dL_d]
    · rw [if_neg e, dL_o T e]
  · rw [a5]
    by_cases e : d = D.length
    · rw [e, dS_d, dS_out (Nat.le_refl _)]
    · rw [dS_o T e]
  · rw [a6]
    by_cases e : d = D.length
    · rw [if_pos e, e, dT_d]
      by_cases h : p < T.length
      · rw [if_pos h]
      · rw [if_neg h, gd_out (by omega)]
    · rw [if_neg e, dT_o T e]
  · rw [a7]
    by_cases e : d = D.length
    · rw [if_pos e, e, cnt_d]
    · rw [if_neg e, cnt_o T e]
  · rw [a8]
    by_cases e : d = D.length
    · rw [if_pos e, e, jmp_d]
    · rw [if_neg e, jmp_o T e]
  · rw [pN_E] at hk
    by_cases e : k < pN D w
    · rw [pK_l T e]; exact a10 w k e
    · by_cases h : ctT T w T.length = 0
      · rw [if_pos h] at hk; omega
      · rw [if_neg h] at hk
        obtain rfl : k = pN D w := by omega
        rw [pK_r h]; exact a11 w h
/-- the last three writings of a posting -/
theorem SV_53 {D : Dc} {T : List Nat} {p : Nat} {M0 M : Mem} (h : SVs D T p M0 M) (hd : D.length < 64) (hp : p < T.length) (hT : T.length ≤ 150) (hw : T.getD p 0 < 255) {N : Mem} {y : Int32} (e0 : N.1 511 = fun i k => if i = 0 ∧ k = T.getD p 0 then nI (pN D (T.getD p 0) + 1) else M.1 511 i k) (e1 : ∀ w k, k < pN D w → N.1 5510 w k = nI (pK D w k)) (e2 : N.1 5510 (T.getD p 0) (pN D (T.getD p 0)) = nI D.length) (e3 : ∀ w, ctT T w p ≠ 0 → N.1 5510 w (pN D w) = nI D.length) (e4 : ∀ c i, c ≠ 511 → c ≠ 5510 → c ≠ 5501 → N.1 c i = M.1 c i ∧ N.2 c i = M.2 c i) (e6 : ∀ e q, N.1 5501 e q = nI (if e = D.length then (if q < p + 1 then T.getD q 0 else 0) else dT D e q)) (e5 : Kp pSv M0 N) (ey : y = nI (p + 1 - (jsT T (T.getD p 0) p).1)) {Q : Mem → Prop} (hQ : ∀ M', SVs D T (p + 1) M0 M' → Q M') : bX4_post_53 (nI (T.getD p 0)) (nI D.length) (nI p) Q N y := by
  obtain ⟨-, a1, a2, a3, a4, a5, a6, a7, a8, a9, a10, a11, a12⟩ := h
  subst ey
  have hj := (jst_le (T.getD p 0) (fun p => T.getD p 0) p).2
  have hj1 := (jst_le (T.getD p 0) (fun p => T.getD p 0) p).1
  have hc := ctT_le T (T.getD p 0) p
  have f8 : ∀ w e, N.1 5508 w e = nI (if e = D.length then ctT T w p else cnt D w e) := fun w e => by rw [(e4 5508 w (by decide) (by decide) (by decide)).1]; exact a7 w e
  have f9 : ∀ w e, N.1 5509 w e = nI (if e = D.length then (jsT T w p).2 else jmp D w e) := fun w e => by rw [(e4 5509 w (by decide) (by decide) (by decide)).1]; exact a8 w e
  have g8 : ∀ x, (up1 N 512 0 (T.getD p 0) x).1 5508 (T.getD p 0) D.length = nI (ctT T (T.getD p 0) p) := fun x => by rw [up1_ne (by simp), f8, if_pos rfl]
  have g9 : ∀ x z, (up1 (up1 N 512 0 (T.getD p 0) x) 5508 (T.getD p 0) D.length z).1 5509 (T.getD p 0) D.length = nI (jsT T (T.getD p 0) p).2 := fun x z => by rw [up1_ne (by simp), up1_ne (by simp), f9, if_pos rfl]
  have hj2 : (jsT T (T.getD p 0) p).2 ≤ p := hj
  have hj3 : (jsT T (T.getD p 0) p).1 ≤ p := hj1
  have emx : imax (nI (jsT T (T.getD p 0) p).2) (nI (p + 1 - (jsT T (T.getD p 0) p).1)) = nI (max (jsT T (T.getD p 0) p).2 (p + 1 - (jsT T (T.getD p 0) p).1)) := mxI (by omega) (by omega)
  unfold bX4_post_53
  try simp (disch := omega) only [li, nO_n, adI, mlI, tnI, vpI, ltI, leI, eqI, forall_eq, leT, leF, ltT, ltF, eqT, eqF, true_and, and_true, false_implies, true_implies, forall_const, not_true_eq_false, not_false_eq_true, implies_true, g8, g9, emx]
  refine hQ _ ⟨((e5.u1 rfl).u1 rfl).u1 rfl, ?_, ?_, ?_, fun e => ?_, fun e => ?_, fun e q => ?_, fun w e => ?_, fun w e => ?_, fun w => ?_, fun w k hk => ?_, fun w hk => ?_, fun w hk => ?_⟩
  · rw [up1_ne (by simp), up1_ne (by simp), up1_ne (by simp), (e4 504 0 (by decide) (by decide) (by decide)).1]; exact a1
  · rw [up1_ne (by simp), up1_ne (by simp), up1_ne (by simp), (e4 505 0 (by decide) (by decide) (by decide)).1]; exact a2
  · rw [up1_ne (by simp), up1_ne (by simp), up1_ne (by simp), (e4 506 0 (by decide) (by decide) (by decide)).1]; exact a3
  · rw [up1_ne (by simp), up1_ne (by simp), up1_ne (by simp), (e4 502 0 (by decide) (by decide) (by decide)).1]; exact a4 e
  · rw [up1_ne (by simp), up1_ne (by simp), up1_ne (by simp), (e4 503 0 (by decide) (by decide) (by decide)).1]; exact a5 e
  · rw [up1_ne (by simp), up1_ne (by simp), up1_ne (by simp)]; exact e6 e q
  · rw [up1_ne (by simp), up1_if]
    by_cases q : w = T.getD p 0 ∧ e = D.length
    · rw [if_pos q, if_pos q.2, ctT_s, if_pos q.1.symm, q.1]
    · rw [if_neg q, up1_ne (by simp), f8]
      by_cases q2 : e = D.length
      · rw [if_pos q2, if_pos q2, ctT_s, if_neg (show ¬ T.getD p 0 = w from fun z => q ⟨z.symm, q2⟩)]
      · rw [if_neg q2, if_neg q2]
  · rw [up1_if]
    by_cases q : w = T.getD p 0 ∧ e = D.length
    · rw [if_pos q, if_pos q.2, jsT_s, if_pos q.1.symm, q.1]
    · rw [if_neg q, up1_ne (by simp), up1_ne (by simp), f9]
      by_cases q2 : e = D.length
      · rw [if_pos q2, if_pos q2, jsT_s, if_neg (show ¬ T.getD p 0 = w from fun z => q ⟨z.symm, q2⟩)]
      · rw [if_neg q2, if_neg q2]
  · rw [up1_ne (by simp), up1_ne (by simp), up1_ne (by simp), e0]
    show (if 0 = 0 ∧ w = T.getD p 0 then _ else _) = _
    by_cases q : w = T.getD p 0
    · rw [if_pos ⟨rfl, q⟩, ctT_s, if_pos q.symm, q]
      rfl
    · rw [if_neg (na2 q), ctT_s, if_neg (nsy q)]
      exact a9 w
  · rw [up1_ne (by simp), up1_ne (by simp), up1_ne (by simp)]; exact e1 w k hk
  · rw [up1_ne (by simp), up1_ne (by simp), up1_ne (by simp)]
    by_cases q : w = T.getD p 0
    · rw [q]; exact e2
    · rw [ctT_s, if_neg (nsy q)] at hk
      exact e3 w hk
  · rw [up1_ne (by simp), up1_ne (by simp), up1_if]
    by_cases q : w = T.getD p 0
    · rw [if_pos ⟨rfl, q⟩, jsT_s, if_pos q.symm]; rfl
    · rw [if_neg (na2 q), (e4 512 0 (by decide) (by decide) (by decide)).1, jsT_s, if_neg (nsy q)]
      rw [ctT_s, if_neg (nsy q)] at hk
      exact a12 w hk
theorem cpost {D : Dc} {T : List Nat} {p : Nat} {M0 M : Mem} (h : SVs D T p M0 M) (hd : D.length < 64) (hp : p < T.length) (hT : T.length ≤ 150) (hw : T.getD p 0 < 255) {Q : Mem → Prop} (hQ : ∀ M', SVs D T (p + 1) M0 M' → Q M') : pX4_post (up1 M 5501 D.length p (nI (T.getD p 0))) (nI (T.getD p 0)) (nI D.length) (nI p) Q := by
  have h0 := h
  obtain ⟨k0, a1, a2, a3, a4, a5, a6, a7, a8, a9, a10, a11, a12⟩ := h
  have hc := ctT_le T (T.getD p 0) p
  have hpn := pN_le D (T.getD p 0)
  have m8 : (up1 M 5501 D.length p (nI (T.getD p 0))).1 5508 (T.getD p 0) D.length = nI (ctT T (T.getD p 0) p) := by rw [up1_ne (by simp), a7, if_pos rfl]
  have e6 : ∀ e q, (up1 M 5501 D.length p (nI (T.getD p 0))).1 5501 e q = nI (if e = D.length then (if q < p + 1 then T.getD q 0 else 0) else dT D e q) := fun e q => by
    rw [up1_if]
    by_cases z : e = D.length ∧ q = p
    · rw [if_pos z, if_pos z.1, z.2, if_pos (by omega)]
    · rw [if_neg z, a6]
      by_cases z1 : e = D.length
      · rw [if_pos z1, if_pos z1]
        by_cases z2 : q < p
        · rw [if_pos z2, if_pos (by omega)]
        · rw [if_neg z2, if_neg (fun (q3 : q < p + 1) => z ⟨z1, by omega⟩)]
      · rw [if_neg z1, if_neg z1]
  unfold pX4_post
  by_cases e : ctT T (T.getD p 0) p = 0
  · have m9 : (up1 M 5501 D.length p (nI (T.getD p 0))).1 511 0 (T.getD p 0) = nI (pN D (T.getD p 0)) := by rw [up1_ne (by simp), a9, if_pos e]; rfl
    have m9b : ∀ x, (up1 (up1 M 5501 D.length p (nI (T.getD p 0))) 5510 (T.getD p 0) (pN D (T.getD p 0)) x).1 511 0 (T.getD p 0) = nI (pN D (T.getD p 0)) := fun x => by rw [up1_ne (by simp), m9]
    have hh := SV_53 h0 hd hp hT hw (N := up1 (up1 (up1 M 5501 D.length p (nI (T.getD p 0))) 5510 (T.getD p 0) (pN D (T.getD p 0)) (nI D.length)) 511 0 (T.getD p 0) (nI (pN D (T.getD p 0) + 1))) (y := nI (p + 1)) (by
        funext i k
        rw [up1_if, up1_ne (by simp), up1_ne (by simp)]) (fun w k hk => by
        rw [up1_ne (by simp), up1_if, if_neg (show ¬ (w = T.getD p 0 ∧ k = pN D (T.getD p 0)) from fun z => by rw [z.1] at hk; omega), up1_ne (by simp)]; exact a10 w k hk) (by
        rw [up1_ne (by simp), up1_eq]) (fun w hk => by
        rw [up1_ne (by simp), up1_if, if_neg (show ¬ (w = T.getD p 0 ∧ pN D w = pN D (T.getD p 0)) from fun z => by rw [z.1] at hk; exact hk e), up1_ne (by simp)]; exact a11 w hk) (fun c i h1 h2 h3 => ⟨by rw [up1_other (fun z => h1 z.1), up1_other (fun z => h2 z.1), up1_other (fun z => h3 z.1)], rfl⟩) (fun e q => by
        rw [up1_ne (by simp), up1_ne (by simp)]; exact e6 e q) (((k0.u1 rfl).u1 rfl).u1 rfl) (by rw [jsT_0 e]; rfl) hQ
    try simp (disch := omega) only [li, nO_n, adI, mlI, tnI, vpI, ltI, leI, eqI, forall_eq, leT, leF, ltT, ltF, eqT, eqF, true_and, and_true, false_implies, true_implies, forall_const, not_true_eq_false, not_false_eq_true, implies_true, m8, e, m9, m9b]
    exact hh
  · obtain ⟨j1, j2⟩ := jsT_1 e
    have m12 : (up1 M 5501 D.length p (nI (T.getD p 0))).1 512 0 (T.getD p 0) = nI ((jsT T (T.getD p 0) p).1 - 1) := by rw [up1_ne (by simp)]; exact a12 _ e
    have hh := SV_53 h0 hd hp hT hw (N := up1 M 5501 D.length p (nI (T.getD p 0))) (y := nI (p - ((jsT T (T.getD p 0) p).1 - 1))) (by
        funext i k
        rw [up1_ne (by simp)]
        by_cases z : i = 0 ∧ k = T.getD p 0
        · rw [if_pos z, z.1, z.2, a9, if_neg e]
        · rw [if_neg z]) (fun w k hk => by
        rw [up1_ne (by simp)]; exact a10 w k hk) (by
        rw [up1_ne (by simp)]; exact a11 _ e) (fun w hk => by
        rw [up1_ne (by simp)]; exact a11 w hk) (fun c i h1 h2 h3 => ⟨by rw [up1_other (fun z => h3 z.1)], rfl⟩) e6 (k0.u1 rfl) (by congr 1; omega) hQ
    try simp (disch := omega) only [li, nO_n, adI, mlI, tnI, vpI, ltI, leI, eqI, forall_eq, leT, leF, ltT, ltF, eqT, eqF, true_and, and_true, false_implies, true_implies, forall_const, not_true_eq_false, not_false_eq_true, implies_true, m8, m12, sbI]
    exact hh
theorem cshelve {D : Dc} {kn : Nat} {T : List Nat} {M : Mem} (h : CD D M) (hD : DW D kn) (hd : D.length < 64) (hT : T.length ≤ 150) (hw : ∀ x, x ∈ T → x < 255) (ht : ∀ k, k < T.length → M.1 201 0 k = nI (T.getD k 0)) {Q : Int32 → Mem → Prop} (hQ : ∀ M', Kp pSv M M' → CD (dE D T) M' → Q (nI D.length) M') : pX4_shelve M (nI T.length) Q := by
  have hkp : keptN D ≤ D.length := ctF_le _ _
  have m5 : ∀ x, (up1 M 504 0 0 x).1 505 0 0 = nI (keptN D) := fun x => by rw [up1_ne (by simp)]; exact h.kept
  unfold pX4_shelve
  try simp (disch := omega) only [li, nO_n, adI, mlI, tnI, vpI, ltI, leI, eqI, forall_eq, leT, leF, ltT, ltF, eqT, eqF, true_and, and_true, false_implies, true_implies, forall_const, not_true_eq_false, not_false_eq_true, implies_true, h.n, m5]
  refine lp_up (fun p s => s.2.1 = nI D.length ∧ s.2.2 = nI p ∧ SVs D T p M s.1) (Nat.zero_le T.length) ⟨rfl, rfl, ?_⟩ ?_ ?_
  · refine ⟨(((Kp.rf.u1 rfl).u1 rfl).u1 rfl).u1 rfl, ?_, ?_, ?_, fun e => ?_, fun e => ?_, fun e q => ?_, fun w e => ?_, fun w e => ?_, fun w => ?_, fun w k hk => ?_, fun w hk => absurd rfl hk, fun w hk => absurd rfl hk⟩
    · rw [up1_ne (by simp), up1_ne (by simp), up1_ne (by simp), up1_eq]
    · rw [up1_ne (by simp), up1_ne (by simp), up1_eq]
    · rw [up1_ne (by simp), up1_ne (by simp), up1_ne (by simp), up1_ne (by simp)]; exact h.gone
    · rw [up1_if]
      by_cases q : e = D.length
      · rw [if_pos ⟨rfl, q⟩, if_pos q]
      · rw [if_neg (na2 q), if_neg q, up1_ne (by simp), up1_ne (by simp), up1_ne (by simp)]; exact h.len e
    · rw [up1_ne (by simp), up1_if]
      by_cases q : e = D.length
      · rw [if_pos ⟨rfl, q⟩, q, dS_out (Nat.le_refl _)]
      · rw [if_neg (na2 q), up1_ne (by simp), up1_ne (by simp)]; exact h.st e
    · rw [up1_ne (by simp), up1_ne (by simp), up1_ne (by simp), up1_ne (by simp), h.tx]
      by_cases z : e = D.length
      · rw [if_pos z, if_neg (Nat.not_lt_zero _), z, dT_out (by rw [dL_out (Nat.le_refl _)]; omega)]
      · rw [if_neg z]
    · rw [up1_ne (by simp), up1_ne (by simp), up1_ne (by simp), up1_ne (by simp), h.cn]
      by_cases z : e = D.length
      · rw [if_pos z, z, cnt_out (Nat.le_refl _)]; rfl
      · rw [if_neg z]
    · rw [up1_ne (by simp), up1_ne (by simp), up1_ne (by simp), up1_ne (by simp), h.jm]
      by_cases z : e = D.length
      · rw [if_pos z, z, jmp_out (Nat.le_refl _)]; rfl
      · rw [if_neg z]
    · rw [up1_ne (by simp), up1_ne (by simp), up1_ne (by simp), up1_ne (by simp), h.po]; rfl
    · rw [up1_ne (by simp), up1_ne (by simp), up1_ne (by simp), up1_ne (by simp)]; exact h.li hk
  · rintro p ⟨m, y1, y2⟩ L - hp ⟨rfl, rfl, hS⟩ hL
    dsimp only at hS
    have hw1 := hw _ (getD_mem hp)
    have e1 : m.1 201 0 p = nI (T.getD p 0) := by rw [hS.1.g rfl]; exact ht p hp
    have e2 : ∀ x, (up1 m 5501 D.length p x).1 201 0 p = nI (T.getD p 0) := fun x => by rw [up1_ne (by simp)]; exact e1
    unfold bX4_shelve_42
    try simp (disch := omega) only [li, nO_n, adI, mlI, tnI, vpI, ltI, leI, eqI, forall_eq, leT, leF, ltT, ltF, eqT, eqF, true_and, and_true, false_implies, true_implies, forall_const, not_true_eq_false, not_false_eq_true, implies_true, e1, e2]
    refine cpost hS hd hp hT hw1 (fun M' hM' => ?_)
    exact hL _ ⟨rfl, rfl, hM'⟩
  · rintro ⟨m, y1, y2⟩ L ⟨rfl, rfl, hS⟩
    dsimp only at hS
    unfold bX4_shelve_42
    try simp (disch := omega) only [li, nO_n, adI, mlI, tnI, vpI, ltI, leI, eqI, forall_eq, leT, leF, ltT, ltF, eqT, eqF, true_and, and_true, false_implies, true_implies, forall_const, not_true_eq_false, not_false_eq_true, implies_true]
    exact hQ m hS.1 (SV_end hS)
