/-! PURE: the reference stands by its question -/
def FV (W : List Wd) (i : Nat) (z : Qc × Option Nat) : Prop := KV z.1 W.length i (9 * i) i i ∧ ∀ q, z.2 = some q → q ≤ 6 ∧ 1 ≤ fN z.1
theorem fN_beg (K : Qc) : fN (kBeg K) = fN K + 1 := (fL_beg K 0).1
def aOK (W : List Wd) (a : It) : Prop := (∀ w, a.1 = some w → w < W.length) ∧ (a.2.1 ≤ 9 ∧ (a.2.2.1 = 3 → a.2.1 = 1)) ∧ a.2.2.1 ≤ 3 ∧ a.2.2.2 ≤ 6
theorem FV_s {W : List Wd} {i : Nat} {z : Qc × Option Nat} {a : It} (h : FV W i z) (ha : aOK W a) : FV W (i + 1) (itK z a) := by
  obtain ⟨h1, h2⟩ := h
  obtain ⟨a1, ⟨a2, a3⟩, a4, a5⟩ := ha
  unfold itK
  by_cases e2 : a.2.2.1 = 2
  · rw [if_pos e2]
    refine ⟨(h1.ref a1).mono (by omega) (by omega) (by omega) (by omega), fun q hq => ?_⟩
    have := h2 q hq
    exact ⟨this.1, by show 1 ≤ fN (kRef z.1 a.1); rw [fN_of (kRef_q z.1 a.1).2.2.2.2]; exact this.2⟩
  · rw [if_neg e2]
    by_cases e3 : a.2.2.1 = 3
    · rw [if_pos e3]
      by_cases el : z.2 = some a.2.2.2
      · rw [if_pos el]
        have hf := (h2 _ el).2
        refine ⟨?_, fun q hq => ?_⟩
        · unfold kLen
          exact ((h1.add a1 (by omega)).want (y := 1) (m := true) a1).mono (by omega) (by omega) (by omega) (by omega)
        · cases hq
          exact ⟨a5, by show 1 ≤ fN (kLen z.1 a.1); rw [(fL_len a.1 (show 0 < fN z.1 by omega) 0).1]; exact hf⟩
      · rw [if_neg el]
        have hf : 0 < fN (kBeg z.1) := by rw [fN_beg]; omega
        refine ⟨?_, fun q hq => ?_⟩
        · unfold kLen
          exact ((h1.beg.add a1 hf).want (y := 1) (m := true) a1).mono (by omega) (by omega) (by omega) (by omega)
        · cases hq
          exact ⟨a5, by show 1 ≤ fN (kLen (kBeg z.1) a.1); rw [(fL_len a.1 hf 0).1]; exact hf⟩
    · rw [if_neg e3]
      refine ⟨(h1.want a1).mono (by omega) (by omega) (by omega) (by omega), fun q hq => ?_⟩
      have := h2 q hq
      exact ⟨this.1, by show 1 ≤ fN (kWant z.1 a.1 a.2.1 (a.2.2.1 == 1)); rw [fN_of (kWant_q z.1 a.1 a.2.1 (a.2.2.1 == 1)).2.2.2]; exact this.2⟩
def mo (K K' : Qc) : Prop := xN K ≤ xN K' ∧ fN K ≤ fN K' ∧ ∀ j, fL K j ≤ fL K' j
theorem mo_rf {K : Qc} : mo K K := ⟨Nat.le_refl _, Nat.le_refl _, fun _ => Nat.le_refl _⟩
theorem mo_tr {K K' K'' : Qc} (h : mo K K') (h' : mo K' K'') : mo K K'' := ⟨Nat.le_trans h.1 h'.1, Nat.le_trans h.2.1 h'.2.1, fun j => Nat.le_trans (h.2.2 j) (h'.2.2 j)⟩
theorem mo_len {K : Qc} (o : Option Nat) (hf : 0 < fN K) : mo K (kLen K o) := by
  refine ⟨?_, ?_, fun j => ?_⟩
  · have e : qX (kLen K o) = qX K := (kWant_q (kAdd K o) o 1 true).2.2.1
    unfold xN
    rw [e]
    exact Nat.le_refl _
  · rw [(fL_len o hf 0).1]
    exact Nat.le_refl _
  · rw [(fL_len o hf j).2]
    by_cases q : j = fN K - 1
    · rw [if_pos q]; omega
    · rw [if_neg q]; exact Nat.le_refl _
theorem mo_beg {K : Qc} : mo K (kBeg K) := by
  refine ⟨Nat.le_refl _, ?_, fun j => ?_⟩
  · rw [fN_beg]; omega
  · rw [(fL_beg K j).2]
    by_cases q : j = fN K
    · rw [if_pos q]
      unfold fL fP
      rw [gd_out (show (qF K).length ≤ j by unfold fN at q; omega)]
      exact Nat.le_refl _
    · rw [if_neg q]; exact Nat.le_refl _
theorem mo_it {W : List Wd} {i : Nat} {z : Qc × Option Nat} {a : It} (h : FV W i z) : mo z.1 (itK z a).1 := by
  obtain ⟨h1, h2⟩ := h
  unfold itK
  by_cases e2 : a.2.2.1 = 2
  · rw [if_pos e2]
    show mo z.1 (kRef z.1 a.1)
    cases a.1 with
    | none => exact mo_rf
    | some w => exact ⟨by show (qX z.1).length ≤ (qX z.1 ++ [w]).length; rw [List.length_append]; omega, Nat.le_refl _, fun _ => Nat.le_refl _⟩
  · rw [if_neg e2]
    by_cases e3 : a.2.2.1 = 3
    · rw [if_pos e3]
      by_cases el : z.2 = some a.2.2.2
      · rw [if_pos el]
        exact mo_len _ (h2 _ el).2
      · rw [if_neg el]
        exact mo_tr mo_beg (mo_len _ (by rw [fN_beg]; omega))
    · rw [if_neg e3]
      obtain ⟨q1, q2, q3, q4⟩ := kWant_q z.1 a.1 a.2.1 (a.2.2.1 == 1)
      refine ⟨?_, ?_, fun j => ?_⟩
      · show (qX z.1).length ≤ (qX (kWant z.1 a.1 a.2.1 (a.2.2.1 == 1))).length
        rw [q3]; exact Nat.le_refl _
      · show fN z.1 ≤ fN (kWant z.1 a.1 a.2.1 (a.2.2.1 == 1))
        rw [fN_of q4]; exact Nat.le_refl _
      · show fL z.1 j ≤ fL (kWant z.1 a.1 a.2.1 (a.2.2.1 == 1)) j
        rw [fL_of q4]; exact Nat.le_refl _
def fT (A : List It) (i : Nat) : Qc × Option Nat := fA (A.take i)
theorem fT_s {A : List It} {i : Nat} (hi : i < A.length) : fT A (i + 1) = itK (fT A i) (A.getD i i0) := by
  unfold fT
  have e : A.take (i + 1) = A.take i ++ [A.getD i i0] := by
    rw [List.take_succ, List.getD_eq_getElem?_getD, List.getElem?_eq_getElem hi]; rfl
  rw [e, fA_app]
theorem fT_n {A : List It} : fT A A.length = fA A := by unfold fT; rw [List.take_length]
theorem aOK_of {W : List Wd} {A : List It} (h : AV W A) {i : Nat} (hi : i < A.length) : aOK W (A.getD i i0) := by
  rw [gd_in hi]
  exact h _ (List.getElem_mem hi)
theorem FV_t {W : List Wd} {A : List It} (h : AV W A) {i : Nat} (hi : i ≤ A.length) : FV W i (fT A i) := by
  induction i with
  | zero => exact ⟨⟨Nat.zero_le _, fun i hi => absurd hi (Nat.not_lt_zero _), fun i j _ hj => absurd hj (Nat.not_lt_zero _), Nat.zero_le _, fun i hi => absurd hi (Nat.not_lt_zero _), Nat.zero_le _, (fun j k w hw => by cases hw)⟩, fun q hq => by cases hq⟩
  | succ i ih =>
    rw [fT_s (by omega)]
    exact FV_s (ih (by omega)) (aOK_of h (by omega))
theorem mo_t {W : List Wd} {A : List It} (h : AV W A) {i j : Nat} (hij : i ≤ j) (hj : j ≤ A.length) : mo (fT A i).1 (fT A j).1 := by
  induction j with
  | zero =>
    obtain rfl : i = 0 := by omega
    exact mo_rf
  | succ j ih =>
    by_cases e : i = j + 1
    · rw [e]; exact mo_rf
    · rw [fT_s (by omega)]
      exact mo_tr (ih (by omega) (by omega)) (mo_it (FV_t h (i := j) (by omega)))
def pSd (c _ : Nat) : Bool := decide (¬ ((1218 ≤ c ∧ c ≤ 1229) ∨ c = 6230))
def SJ (A : List It) (p r : Nat) (M0 : Mem) (L : Sc) (c : Nat) (u : Bool) (X : List Nat) (F : List (List (Option Nat))) (M : Mem) : Prop := PA L M ∧ PM L c M ∧ PU u M ∧ PX X M ∧ PF F M ∧ M.1 1222 0 0 = nI p ∧ M.1 1223 0 0 = nI r ∧ MQi A p r M ∧ Kp pSd M0 M
theorem pSd_w {P : Nat → Nat → Bool} (h : ∀ c i, (¬ ((1218 ≤ c ∧ c ≤ 1229) ∨ c = 6230)) → P c i = true) (c i : Nat) (q : pSd c i = true) : P c i = true := h c i (by unfold pSd at q; simp at q; omega)
def nF (l : Option Nat) (F : List (List (Option Nat))) (om : Nat) : List (List (Option Nat)) := if l = some om then F else F ++ [[]]
def lF (F : List (List (Option Nat))) (o : Option Nat) : List (List (Option Nat)) := F.set (F.length - 1) (F.getD (F.length - 1) [] ++ [o])
theorem s238 {Q : Mem → Prop} {L : Mem × Int32 × Int32 → Prop} {M : Mem} {y1 : Int32} {i : Nat} (h : L (M, y1, nI (i + 1))) : bX11_stands_238 Q L M y1 (nI i) := by
  unfold bX11_stands_238
  intro v ev
  rw [ev, show nI i + 1 = nI (i + 1) from adI i 1]
  exact h
theorem s203 {A : List It} {p r : Nat} {M0 : Mem} {Q : Mem → Prop} {L : Mem × Int32 × Int32 → Prop} {i : Nat} (hA : A.length ≤ 24) (hi : i < A.length) {o : Option Nat} {y ka om : Nat} (ha : A.getD i i0 = (o, y, ka, om)) (hom : om ≤ 6) (hka : ka ≤ 3) {M : Mem} {S : Sc} {c : Nat} {u : Bool} {X : List Nat} {F : List (List (Option Nat))} (h : SJ A p r M0 S c u X F M) (hc : 0 < F.length) (hc6 : F.length ≤ 6) (h4 : (F.getD (F.length - 1) []).length < 4) (hfin : ∀ M', SJ A p r M0 S c u X (lF F o) M' → L (M', nI om, nI (i + 1))) : bX11_stands_203 Q L M (nI i) i := by
  obtain ⟨h1, h2, h3, h4', h5, h6, h7, h8, h9⟩ := h
  obtain ⟨m1, m2, m3, m4⟩ := h8.2.2.2 i hi
  rw [ha] at m1 m4
  unfold bX11_stands_203
  simp only [tn0, tn3]
  refine ⟨by omega, fun v ev => ?_⟩
  have ev' : v = nI om := by rw [ev]; exact m4
  subst ev'
  obtain ⟨q1, q2⟩ := PF_add (o := o) h5 hc hc6 h4 (R := fun M37 => bX11_stands_238 Q L M37 (nI om) (nI i)) (fun M' k hF => s238 (hfin M' ⟨h1.kp k rfl rfl rfl, h2.kp k rfl rfl, (k.g rfl 0).trans h3, h4'.kp k rfl rfl, hF, (k.g rfl 0).trans h6, (k.g rfl 0).trans h7, h8.kp k rfl rfl rfl (fun _ => rfl), h9.tr (k.wk (pSd_w (fun c _ q => by simp; omega)))⟩))
  refine ⟨q1, fun M35 e35 => ?_⟩
  obtain ⟨q3, q4⟩ := q2 M35 e35
  have e : M35.1 6236 i 0 = oI o := by rw [e35, up1_ne (by simp)]; exact m1
  rw [e]
  exact ⟨q3, q4⟩
theorem s169 {A : List It} {p r : Nat} {M0 : Mem} {Q : Mem → Prop} {L : Mem × Int32 × Int32 → Prop} {i : Nat} (hA : A.length ≤ 24) (hi : i < A.length) {o : Option Nat} {y ka om : Nat} (ha : A.getD i i0 = (o, y, ka, om)) (hom : om ≤ 6) (hka : ka ≤ 3) {M : Mem} {S : Sc} {c : Nat} {u : Bool} {X : List Nat} {F : List (List (Option Nat))} {l : Option Nat} (hl : ∀ q, l = some q → q ≤ 6 ∧ 1 ≤ F.length) (h : SJ A p r M0 S c u X F M) (h6 : ka = 3 → (nF l F om).length ≤ 6) (h4 : ka = 3 → ((nF l F om).getD ((nF l F om).length - 1) []).length < 4) (hn3 : ka ≠ 3 → ∀ M', SJ A p r M0 S c u X F M' → L (M', oI l, nI (i + 1))) (h3 : ka = 3 → ∀ M', SJ A p r M0 S c u X (lF (nF l F om) o) M' → L (M', nI om, nI (i + 1))) : bX11_stands_169 Q L M (oI l) (nI i) i := by
  obtain ⟨m1, m2, m3, m4⟩ := h.2.2.2.2.2.2.2.1.2.2.2 i hi
  rw [ha] at m3 m4
  have l3 : nI ka = (3 : Int32) ↔ ka = 3 := eqI (b := 3) (by omega) (by omega)
  have lo : nI om = oI l ↔ l = some om := by
    rw [eq_comm]
    exact oI_n (fun q hq => by have := hl q hq; omega) (by omega)
  unfold bX11_stands_169
  simp only [tn2, tn3]
  rw [show M.1 6236 i 2 = nI ka from m3, show M.1 6236 i 3 = nI om from m4, l3, lo]
  refine ⟨by omega, fun q => ?_, fun q => s238 (hn3 q M h)⟩
  have h6 := h6 q
  have h4 := h4 q
  have h3 := h3 q
  unfold nF at h6 h4 h3
  refine ⟨fun q2 => ?_, fun q2 => ?_⟩
  · rw [if_pos q2] at h6 h4 h3
    exact s203 hA hi ha hom hka h (by have := hl _ q2; omega) h6 h4 h3
  · rw [if_neg q2] at h6 h4 h3
    obtain ⟨g1, g2, g3, g4, g5, g6, g7, g8, g9⟩ := h
    have hlen : (F ++ [([] : List (Option Nat))]).length = F.length + 1 := by rw [List.length_append]; rfl
    exact PF_beg g5 (by omega) (fun M' k hF => s203 hA hi ha hom hka ⟨g1.kp k rfl rfl rfl, g2.kp k rfl rfl, (k.g rfl 0).trans g3, g4.kp k rfl rfl, hF, (k.g rfl 0).trans g6, (k.g rfl 0).trans g7, g8.kp k rfl rfl rfl (fun _ => rfl), g9.tr (k.wk (pSd_w (fun c _ q => by simp; omega)))⟩ (by omega) h6 h4 h3)
