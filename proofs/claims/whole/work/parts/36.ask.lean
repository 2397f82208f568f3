/-! PURE: the question, and what it tells of a document -/
/-- parts, reach, whether a word of MUST is unknown, the scored words (word, boost, must), the words not wanted, the phrases -/
abbrev Qc : Type := Nat × Nat × Bool × List (Nat × Nat × Bool) × List Nat × List (List (Option Nat))
def qP (K : Qc) : Nat := K.1
def qR (K : Qc) : Nat := K.2.1
def qU (K : Qc) : Bool := K.2.2.1
def qS (K : Qc) : List (Nat × Nat × Bool) := K.2.2.2.1
def qX (K : Qc) : List Nat := K.2.2.2.2.1
def qF (K : Qc) : List (List (Option Nat)) := K.2.2.2.2.2
def sN (K : Qc) : Nat := (qS K).length
def sW (K : Qc) (i : Nat) : Nat := ((qS K).getD i (0, 0, false)).1
def sB (K : Qc) (i : Nat) : Nat := ((qS K).getD i (0, 0, false)).2.1
def sM (K : Qc) (i : Nat) : Bool := ((qS K).getD i (0, 0, false)).2.2
def xN (K : Qc) : Nat := (qX K).length
def xW (K : Qc) (i : Nat) : Nat := (qX K).getD i 0
def fN (K : Qc) : Nat := (qF K).length
def fP (K : Qc) (j : Nat) : List (Option Nat) := (qF K).getD j []
def fL (K : Qc) (j : Nat) : Nat := (fP K j).length
def fW (K : Qc) (j k : Nat) : Option Nat := (fP K j).getD k none
def oI : Option Nat → Int32
  | none => nO
  | some w => nI w
theorem oI_eq {n : Nat} {o : Option Nat} (hn : n < 2147483648) (ho : ∀ i, o = some i → i < 2147483648) : nI n = oI o ↔ o = some n := by
  cases o with
  | none => exact ⟨fun e => absurd e (nO_ne hn), fun e => by cases e⟩
  | some i =>
    show nI n = nI i ↔ _
    rw [eqI hn (ho i rfl)]
    constructor
    · intro e; rw [e]
    · intro e; cases e; rfl
/-- what questions are allowed, with kn words known -/
def QW (K : Qc) (kn : Nat) : Prop := sN K ≤ 24 ∧ qR K ≤ 9 ∧ xN K ≤ 6 ∧ fN K ≤ 6 ∧ (∀ i, i < sN K → sW K i < kn ∧ sB K i ≤ 60) ∧ (∀ i j, i < j → j < sN K → sW K i ≠ sW K j) ∧ (∀ i, i < xN K → xW K i < kn) ∧ (∀ j, j < fN K → 1 ≤ fL K j ∧ fL K j ≤ 4) ∧ (∀ j k w, fW K j k = some w → w < kn)
def b1 (b : Bool) : Nat := if b = true then 1 else 0
def pCK (c i : Nat) : Bool := decide ((699 < c ∧ c < 712 ∧ i = 0) ∨ c = 5710)
/-- the class's question i -/
def CK (K : Qc) (i : Nat) (M : Mem) : Prop := M.1 700 i 0 = nI (qP K) ∧ M.1 701 i 0 = nI (sN K) ∧ M.1 705 i 0 = nI (b1 (qU K)) ∧ M.1 706 i 0 = nI (xN K) ∧ M.1 708 i 0 = nI (fN K) ∧ M.1 711 i 0 = nI (qR K) ∧ (∀ k, k < sN K → M.1 702 i k = nI (sW K k) ∧ M.1 703 i k = nI (sB K k) ∧ M.1 704 i k = nI (b1 (sM K k))) ∧ (∀ k, k < xN K → M.1 707 i k = nI (xW K k)) ∧ (∀ j, j < fN K → M.1 709 i j = nI (fL K j)) ∧ (∀ j k, j < fN K → k < fL K j → M.1 (5710 + i) j k = oI (fW K j k))
theorem CK.pa {K : Qc} {i : Nat} {M : Mem} (h : CK K i M) : M.1 700 i 0 = nI (qP K) := h.1
theorem CK.n {K : Qc} {i : Nat} {M : Mem} (h : CK K i M) : M.1 701 i 0 = nI (sN K) := h.2.1
theorem CK.u {K : Qc} {i : Nat} {M : Mem} (h : CK K i M) : M.1 705 i 0 = nI (b1 (qU K)) := h.2.2.1
theorem CK.xn {K : Qc} {i : Nat} {M : Mem} (h : CK K i M) : M.1 706 i 0 = nI (xN K) := h.2.2.2.1
theorem CK.fn {K : Qc} {i : Nat} {M : Mem} (h : CK K i M) : M.1 708 i 0 = nI (fN K) := h.2.2.2.2.1
theorem CK.r {K : Qc} {i : Nat} {M : Mem} (h : CK K i M) : M.1 711 i 0 = nI (qR K) := h.2.2.2.2.2.1
theorem CK.w {K : Qc} {i : Nat} {M : Mem} (h : CK K i M) {k : Nat} (hk : k < sN K) : M.1 702 i k = nI (sW K k) := (h.2.2.2.2.2.2.1 k hk).1
theorem CK.b {K : Qc} {i : Nat} {M : Mem} (h : CK K i M) {k : Nat} (hk : k < sN K) : M.1 703 i k = nI (sB K k) := (h.2.2.2.2.2.2.1 k hk).2.1
theorem CK.m {K : Qc} {i : Nat} {M : Mem} (h : CK K i M) {k : Nat} (hk : k < sN K) : M.1 704 i k = nI (b1 (sM K k)) := (h.2.2.2.2.2.2.1 k hk).2.2
theorem CK.x {K : Qc} {i : Nat} {M : Mem} (h : CK K i M) {k : Nat} (hk : k < xN K) : M.1 707 i k = nI (xW K k) := h.2.2.2.2.2.2.2.1 k hk
theorem CK.fl {K : Qc} {i : Nat} {M : Mem} (h : CK K i M) {j : Nat} (hj : j < fN K) : M.1 709 i j = nI (fL K j) := h.2.2.2.2.2.2.2.2.1 j hj
theorem CK.fw {K : Qc} {i : Nat} {M : Mem} (h : CK K i M) {j k : Nat} (hj : j < fN K) (hk : k < fL K j) : M.1 (5710 + i) j k = oI (fW K j k) := h.2.2.2.2.2.2.2.2.2 j k hj hk
theorem CK.kp {K : Qc} {M M' : Mem} (h : CK K 0 M) (k : Kp pCK M M') : CK K 0 M' := by
  obtain ⟨a, b, c, d, e, f, g, i, j, l⟩ := h
  exact ⟨by rw [k.g rfl]; exact a, by rw [k.g rfl]; exact b, by rw [k.g rfl]; exact c, by rw [k.g rfl]; exact d, by rw [k.g rfl]; exact e, by rw [k.g rfl]; exact f, fun x hx => by rw [k.g rfl, k.g rfl, k.g rfl]; exact g x hx, fun x hx => by rw [k.g rfl]; exact i x hx, fun x hx => by rw [k.g rfl]; exact j x hx, fun x y hx hy => by rw [k.g (by unfold pCK; simp)]; exact l x y hx hy⟩
/-- the reference's question -/
def pMK (c _ : Nat) : Bool := decide ((1217 < c ∧ c < 1230) ∨ c = 6230)
def MK (K : Qc) (M : Mem) : Prop := M.1 1222 0 0 = nI (qP K) ∧ M.1 1218 0 0 = nI (sN K) ∧ M.1 1224 0 0 = nI (b1 (qU K)) ∧ M.1 1220 0 0 = nI (xN K) ∧ M.1 1221 0 0 = nI (fN K) ∧ M.1 1223 0 0 = nI (qR K) ∧ (∀ k, k < sN K → M.1 1225 0 k = nI (sW K k) ∧ M.1 1226 0 k = nI (sB K k)) ∧ (∃ ml : List Nat, ml.length ≤ 24 ∧ M.1 1219 0 0 = nI ml.length ∧ (∀ k, k < ml.length → M.1 1227 0 k = nI (ml.getD k 0)) ∧ ∀ w, w ∈ ml ↔ ∃ i, i < sN K ∧ sW K i = w ∧ sM K i = true) ∧ (∀ k, k < xN K → M.1 1228 0 k = nI (xW K k)) ∧ (∀ j, j < fN K → M.1 1229 0 j = nI (fL K j)) ∧ (∀ j k, j < fN K → k < fL K j → M.1 6230 j k = oI (fW K j k))
theorem MK.pa {K : Qc} {M : Mem} (h : MK K M) : M.1 1222 0 0 = nI (qP K) := h.1
theorem MK.n {K : Qc} {M : Mem} (h : MK K M) : M.1 1218 0 0 = nI (sN K) := h.2.1
theorem MK.u {K : Qc} {M : Mem} (h : MK K M) : M.1 1224 0 0 = nI (b1 (qU K)) := h.2.2.1
theorem MK.xn {K : Qc} {M : Mem} (h : MK K M) : M.1 1220 0 0 = nI (xN K) := h.2.2.2.1
theorem MK.fn {K : Qc} {M : Mem} (h : MK K M) : M.1 1221 0 0 = nI (fN K) := h.2.2.2.2.1
theorem MK.r {K : Qc} {M : Mem} (h : MK K M) : M.1 1223 0 0 = nI (qR K) := h.2.2.2.2.2.1
theorem MK.w {K : Qc} {M : Mem} (h : MK K M) {k : Nat} (hk : k < sN K) : M.1 1225 0 k = nI (sW K k) := (h.2.2.2.2.2.2.1 k hk).1
theorem MK.b {K : Qc} {M : Mem} (h : MK K M) {k : Nat} (hk : k < sN K) : M.1 1226 0 k = nI (sB K k) := (h.2.2.2.2.2.2.1 k hk).2
theorem MK.mu {K : Qc} {M : Mem} (h : MK K M) : ∃ ml : List Nat, ml.length ≤ 24 ∧ M.1 1219 0 0 = nI ml.length ∧ (∀ k, k < ml.length → M.1 1227 0 k = nI (ml.getD k 0)) ∧ ∀ w, w ∈ ml ↔ ∃ i, i < sN K ∧ sW K i = w ∧ sM K i = true := h.2.2.2.2.2.2.2.1
theorem MK.x {K : Qc} {M : Mem} (h : MK K M) {k : Nat} (hk : k < xN K) : M.1 1228 0 k = nI (xW K k) := h.2.2.2.2.2.2.2.2.1 k hk
theorem MK.fl {K : Qc} {M : Mem} (h : MK K M) {j : Nat} (hj : j < fN K) : M.1 1229 0 j = nI (fL K j) := h.2.2.2.2.2.2.2.2.2.1 j hj
theorem MK.fw {K : Qc} {M : Mem} (h : MK K M) {j k : Nat} (hj : j < fN K) (hk : k < fL K j) : M.1 6230 j k = oI (fW K j k) := h.2.2.2.2.2.2.2.2.2.2 j k hj hk
theorem MK.kp {K : Qc} {M : Mem} (h : MK K M) {M' : Mem} (k : Kp pMK M M') : MK K M' := by
  obtain ⟨a, b, c, d, e, f, g, i, j, l, n⟩ := h
  exact ⟨by rw [k.g rfl]; exact a, by rw [k.g rfl]; exact b, by rw [k.g rfl]; exact c, by rw [k.g rfl]; exact d, by rw [k.g rfl]; exact e, by rw [k.g rfl]; exact f, fun x hx => by rw [k.g rfl, k.g rfl]; exact g x hx, by obtain ⟨ml, m1, m2, m3, m4⟩ := i; exact ⟨ml, m1, by rw [k.g rfl]; exact m2, fun x hx => by rw [k.g rfl]; exact m3 x hx, m4⟩, fun x hx => by rw [k.g rfl]; exact j x hx, fun x hx => by rw [k.g rfl]; exact l x hx, fun x y hx hy => by rw [k.g rfl]; exact n x y hx hy⟩
theorem anyR {p : Nat → Bool} {n : Nat} : (List.range n).any p = true ↔ ∃ i, i < n ∧ p i = true := by
  rw [List.any_eq_true]
  simp [List.mem_range]
theorem anyF {p : Nat → Bool} {n : Nat} (h : ∀ i, i < n → ¬ p i = true) : (List.range n).any p = false := by
  cases e : (List.range n).any p
  · rfl
  · obtain ⟨i, hi, hp⟩ := anyR.mp e; exact absurd hp (h i hi)
/-- lo: a scored word that is taken as none -/
def someS (D : Dc) (K : Qc) (lo : Option Nat) (d : Nat) : Bool := (List.range (sN K)).any (fun i => decide (lo ≠ some i ∧ cnt D (sW K i) d ≠ 0))
def missM (D : Dc) (K : Qc) (d : Nat) : Bool := (List.range (sN K)).any (fun i => decide (sM K i = true ∧ cnt D (sW K i) d = 0)) || qU K
def hasX (D : Dc) (K : Qc) (d : Nat) : Bool := (List.range (xN K)).any (fun i => decide (cnt D (xW K i) d ≠ 0))
def stA (D : Dc) (K : Qc) (j d p : Nat) : Bool := !(List.range (fL K j)).any (fun k => decide (fW K j k ≠ some (dT D d (p + k))))
def phN (D : Dc) (K : Qc) (j d : Nat) : Nat := ctF (stA D K j d) (dL D d + 1 - fL K j)
def missP (D : Dc) (K : Qc) (d : Nat) : Bool := (List.range (fN K)).any (fun j => decide (phN D K j d = 0))
def why (D : Dc) (K : Qc) (lo : Option Nat) (d : Nat) : Nat := if dS D d ≠ 1 then 1 else if someS D K lo d = true then (if missM D K d = true then 3 else if hasX D K d = true then 4 else if missP D K d = true then 5 else 0) else 2
/-- behind k positions: the last one and 1 of a, of b; the least distance -/
def dst (a b : Nat) (t : Nat → Nat) : Nat → Nat × Nat × Nat
  | 0 => (0, 0, 150)
  | k + 1 => ((if t k = a then k + 1 else (dst a b t k).1), (if t k = b then k + 1 else (dst a b t k).2.1), (if (if t k = a then k + 1 else (dst a b t k).1) = 0 ∨ (if t k = b then k + 1 else (dst a b t k).2.1) = 0 then (dst a b t k).2.2 else min (dst a b t k).2.2 (if (if t k = a then k + 1 else (dst a b t k).1) < (if t k = b then k + 1 else (dst a b t k).2.1) then (if t k = b then k + 1 else (dst a b t k).2.1) - (if t k = a then k + 1 else (dst a b t k).1) else (if t k = a then k + 1 else (dst a b t k).1) - (if t k = b then k + 1 else (dst a b t k).2.1))))
def dist (D : Dc) (a b d : Nat) : Nat := (dst a b (dT D d) (dL D d)).2.2
theorem dst_b {a b : Nat} (t : Nat → Nat) (hab : a ≠ b) (k : Nat) : (dst a b t k).1 ≤ k ∧ (dst a b t k).2.1 ≤ k ∧ 1 ≤ (dst a b t k).2.2 ∧ (dst a b t k).2.2 ≤ 150 ∧ ((dst a b t k).1 ≠ 0 → (dst a b t k).1 ≠ (dst a b t k).2.1) := by
  induction k with
  | zero => exact ⟨Nat.le_refl _, Nat.le_refl _, (by show 1 ≤ 150; omega), (by show 150 ≤ 150; omega), fun h => absurd rfl h⟩
  | succ k ih =>
    obtain ⟨h1, h2, h3, h4, h5⟩ := ih
    show (if t k = a then k + 1 else (dst a b t k).1) ≤ k + 1 ∧ (if t k = b then k + 1 else (dst a b t k).2.1) ≤ k + 1 ∧ 1 ≤ (if (if t k = a then k + 1 else (dst a b t k).1) = 0 ∨ (if t k = b then k + 1 else (dst a b t k).2.1) = 0 then (dst a b t k).2.2 else min (dst a b t k).2.2 (if (if t k = a then k + 1 else (dst a b t k).1) < (if t k = b then k + 1 else (dst a b t k).2.1) then (if t k = b then k + 1 else (dst a b t k).2.1) - (if t k = a then k + 1 else (dst a b t k).1) else (if t k = a then k + 1 else (dst a b t k).1) - (if t k = b then k + 1 else (dst a b t k).2.1))) ∧ (if (if t k = a then k + 1 else (dst a b t k).1) = 0 ∨ (if t k = b then k + 1 else (dst a b t k).2.1) = 0 then (dst a b t k).2.2 else min (dst a b t k).2.2 (if (if t k = a then k + 1 else (dst a b t k).1) < (if t k = b then k + 1 else (dst a b t k).2.1) then (if t k = b then k + 1 else (dst a b t k).2.1) - (if t k = a then k + 1 else (dst a b t k).1) else (if t k = a then k + 1 else (dst a b t k).1) - (if t k = b then k + 1 else (dst a b t k).2.1))) ≤ 150 ∧ ((if t k = a then k + 1 else (dst a b t k).1) ≠ 0 → (if t k = a then k + 1 else (dst a b t k).1) ≠ (if t k = b then k + 1 else (dst a b t k).2.1))
    by_cases ea : t k = a
    · have eb : t k ≠ b := fun e => hab (ea.symm.trans e)
      rw [if_pos ea, if_neg eb]
      by_cases e0 : (dst a b t k).2.1 = 0
      · rw [if_pos (Or.inr e0)]; omega
      · rw [if_neg (by omega)]
        by_cases e1 : k + 1 < (dst a b t k).2.1
        · omega
        · rw [if_neg e1]; omega
    · rw [if_neg ea]
      by_cases eb : t k = b
      · rw [if_pos eb]
        by_cases e0 : (dst a b t k).1 = 0
        · rw [if_pos (Or.inl e0)]; omega
        · rw [if_neg (by omega)]
          by_cases e1 : (dst a b t k).1 < k + 1
          · rw [if_pos e1]; omega
          · omega
      · rw [if_neg eb]
        by_cases e0 : (dst a b t k).1 = 0 ∨ (dst a b t k).2.1 = 0
        · rw [if_pos e0]; omega
        · rw [if_neg e0]
          by_cases e1 : (dst a b t k).1 < (dst a b t k).2.1
          · rw [if_pos e1]; omega
          · rw [if_neg e1]
            have := h5 (by omega)
            omega
/-- nearness, word by word: the sum, and the word ahead and 1 -/
def nst (D : Dc) (K : Qc) (lo : Option Nat) (d : Nat) : Nat → Nat × Nat
  | 0 => (0, 0)
  | i + 1 => if lo = some i then nst D K lo d i else ((if (nst D K lo d i).2 = 0 then (nst D K lo d i).1 else (nst D K lo d i).1 + 50 * (qR K + 1 - dist D (sW K ((nst D K lo d i).2 - 1)) (sW K i) d)), i + 1)
def near (D : Dc) (K : Qc) (lo : Option Nat) (d : Nat) : Nat := (nst D K lo d (sN K)).1
theorem nst_le (D : Dc) (K : Qc) (lo : Option Nat) (d i : Nat) : (nst D K lo d i).2 ≤ i := by
  induction i with
  | zero => exact Nat.le_refl _
  | succ i ih =>
    unfold nst
    by_cases h : lo = some i
    · rw [if_pos h]; omega
    · rw [if_neg h]; exact Nat.le_refl _
theorem nst_b {D : Dc} {K : Qc} {lo : Option Nat} {d i : Nat} (hr : qR K ≤ 9) : (nst D K lo d i).1 ≤ i * 500 := by
  induction i with
  | zero => exact Nat.zero_le _
  | succ i ih =>
    have e : (i + 1) * 500 = i * 500 + 500 := by rw [Nat.add_mul, Nat.one_mul]
    rw [e]
    generalize i * 500 = z at ih
    unfold nst
    by_cases h : lo = some i
    · rw [if_pos h]; exact Nat.le_trans ih (Nat.le_add_right _ _)
    · rw [if_neg h]
      show (if (nst D K lo d i).2 = 0 then (nst D K lo d i).1 else (nst D K lo d i).1 + 50 * (qR K + 1 - dist D (sW K ((nst D K lo d i).2 - 1)) (sW K i) d)) ≤ _
      by_cases h2 : (nst D K lo d i).2 = 0
      · rw [if_pos h2]; exact Nat.le_trans ih (Nat.le_add_right _ _)
      · rw [if_neg h2]
        refine Nat.add_le_add ih ?_
        generalize dist D (sW K ((nst D K lo d i).2 - 1)) (sW K i) d = x
        omega
theorem nst_0 {D : Dc} {K : Qc} {kn : Nat} {lo : Option Nat} {d i : Nat} (hK : QW K kn) (hr : qR K = 0) (hi : i ≤ sN K) : (nst D K lo d i).1 = 0 := by
  induction i with
  | zero => rfl
  | succ i ih =>
    have ih := ih (by omega)
    unfold nst
    by_cases h : lo = some i
    · rw [if_pos h]; exact ih
    · rw [if_neg h]
      show (if (nst D K lo d i).2 = 0 then (nst D K lo d i).1 else (nst D K lo d i).1 + 50 * (qR K + 1 - dist D (sW K ((nst D K lo d i).2 - 1)) (sW K i) d)) = 0
      by_cases h2 : (nst D K lo d i).2 = 0
      · rw [if_pos h2]; exact ih
      · rw [if_neg h2]
        have h3 := nst_le D K lo d i
        have := (dst_b (dT D d) (hK.2.2.2.2.2.1 ((nst D K lo d i).2 - 1) i (by omega) (by omega)) (dL D d)).2.2.1
        unfold dist
        omega
def pts (D : Dc) (K : Qc) (i d : Nat) : Nat := sB K i * rare D (sW K i) * gain D (sW K i) d
def ptS (D : Dc) (K : Qc) (lo : Option Nat) (d n : Nat) : Nat := smF (fun i => if lo = some i then 0 else pts D K i d) n
def total (D : Dc) (K : Qc) (lo : Option Nat) (d : Nat) : Nat := near D K lo d + ptS D K lo d (sN K)
theorem pts_le {D : Dc} {K : Qc} {kn i : Nat} (d : Nat) (hD : DW D kn) (hK : QW K kn) (hi : i < sN K) : pts D K i d ≤ 3900000 := by
  have h1 := (hK.2.2.2.2.1 i hi).2
  have h2 := rare_le D (sW K i)
  have h3 := gain_le D (sW K i) d
  have h4 := hD.1
  unfold pts
  have : sB K i * rare D (sW K i) ≤ 60 * 65 := Nat.mul_le_mul h1 (by omega)
  exact Nat.le_trans (Nat.mul_le_mul this h3) (by decide)
theorem total_le {D : Dc} {K : Qc} {kn : Nat} (lo : Option Nat) (d : Nat) (hD : DW D kn) (hK : QW K kn) : total D K lo d ≤ 93612000 := by
  have h1 := nst_b (D := D) (lo := lo) (d := d) (i := sN K) hK.2.1
  have h2 : ptS D K lo d (sN K) ≤ sN K * 3900000 := smF_le (fun k hk => by
    by_cases h : lo = some k
    · rw [if_pos h]; omega
    · rw [if_neg h]; exact pts_le d hD hK hk)
  have h3 := hK.1
  unfold total near
  omega
theorem absI {a b : Nat} (ha : a < 1073741824) (hb : b < 1073741824) : iabs (nI a - nI b) = nI (if a < b then b - a else a - b) := by
  unfold iabs
  by_cases h : a < b
  · have hn : ¬ (0 : Int32) ≤ nI a - nI b := by
      rw [Int32.le_iff_toInt_le, pk_sub_toInt ha hb]
      show ¬ (0 : Int) ≤ _
      omega
    rw [if_neg hn, if_pos h, ← sbI (show a ≤ b by omega)]
    show 0 - (nI a - nI b) = nI b - nI a
    rw [Int32.zero_sub, Int32.neg_sub]
  · rw [sbI (by omega), if_neg h, if_pos (nI_pos' (by omega))]
theorem mx0 {a b : Nat} (ha : a < 1073741824) (hb : b < 1073741824) : imax (nI 0) (nI a - nI b) = nI (a - b) := by
  unfold imax
  by_cases h : b < a
  · have hn : nI 0 < nI a - nI b := by
      rw [sbI (by omega)]
      exact nI_lt (by omega) (by omega)
    rw [if_pos hn, sbI (by omega)]
  · have hn : ¬ nI 0 < nI a - nI b := by
      rw [Int32.lt_iff_toInt_lt, pk_sub_toInt ha hb]
      show ¬ (0 : Int) < _
      omega
    rw [if_neg hn, show a - b = 0 by omega]
theorem s1O {q : Nat} (h : q < 2147483648) : nI q - nI 1 = nO ↔ q = 0 := by
  cases q with
  | zero => exact ⟨fun _ => rfl, fun _ => rfl⟩
  | succ k => rw [sbs]; exact ⟨fun e => absurd e (nO_ne (by omega)), fun e => by omega⟩
