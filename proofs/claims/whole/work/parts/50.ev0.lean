/-! PURE: to answer early, list by list -/
def ff (p : Nat → Bool) (b : Nat) : Nat → Nat
  | 0 => b
  | m + 1 => if p b = true then b else ff p (b + 1) m
def ffn (p : Nat → Bool) (b n : Nat) : Nat := ff p b (n - b)
theorem ff_c (p : Nat → Bool) (m b : Nat) : b ≤ ff p b m ∧ ff p b m ≤ b + m ∧ (∀ j, b ≤ j → j < ff p b m → p j = false) ∧ (ff p b m = b + m ∨ p (ff p b m) = true) := by
  induction m generalizing b with
  | zero => exact ⟨Nat.le_refl _, Nat.le_refl _, fun j h1 h2 => absurd h2 (by show ¬ j < b; omega), Or.inl rfl⟩
  | succ m ih =>
    unfold ff
    by_cases e : p b = true
    · rw [if_pos e]
      exact ⟨Nat.le_refl _, by omega, fun j h1 h2 => absurd h2 (by omega), Or.inr e⟩
    · rw [if_neg e]
      obtain ⟨h1, h2, h3, h4⟩ := ih (b + 1)
      refine ⟨by omega, by omega, fun j j1 j2 => ?_, ?_⟩
      · by_cases ej : j = b
        · rw [ej]; cases q : p b; rfl; exact absurd q e
        · exact h3 j (by omega) j2
      · rcases h4 with h4 | h4
        · exact Or.inl (by omega)
        · exact Or.inr h4
theorem ffn_c {p : Nat → Bool} {b n : Nat} (h : b ≤ n) : b ≤ ffn p b n ∧ ffn p b n ≤ n ∧ (∀ j, b ≤ j → j < ffn p b n → p j = false) ∧ (ffn p b n = n ∨ p (ffn p b n) = true) := by
  obtain ⟨h1, h2, h3, h4⟩ := ff_c p (n - b) b
  refine ⟨h1, by unfold ffn; omega, h3, ?_⟩
  rcases h4 with h4 | h4
  · exact Or.inl (by unfold ffn; omega)
  · exact Or.inr h4
theorem ffn_at {p : Nat → Bool} {b n k : Nat} (h1 : b ≤ k) (h2 : k ≤ n) (h3 : ∀ j, b ≤ j → j < k → p j = false) (h4 : k = n ∨ p k = true) : ffn p b n = k := by
  obtain ⟨g1, g2, g3, g4⟩ := ffn_c (p := p) (b := b) (n := n) (by omega)
  by_cases e : ffn p b n < k
  · rcases g4 with g4 | g4
    · omega
    · rw [h3 _ g1 e] at g4; cases g4
  · by_cases e2 : k < ffn p b n
    · rcases h4 with h4 | h4
      · omega
      · rw [g3 _ h1 e2] at h4; cases h4
    · omega
def FST (D : Dc) (w so b : Nat) : Nat := pK D w (b * so)
def LST (D : Dc) (w so b : Nat) : Nat := pK D w (b * so + bkM D w so b - 1)
def TOPb (D : Dc) (w so b : Nat) : Nat := topR D w (b * so) (bkM D w so b)
def nB (D : Dc) (w so : Nat) : Nat := bkN (pN D w) so
/-- of a list: its block, its place, the block opened last and 1, how often each was opened, how many openings, the work -/
abbrev Cu : Type := Nat × Nat × Nat × (Nat → Nat) × Nat × Nat
def cB (c : Cu) : Nat := c.1
def cP (c : Cu) : Nat := c.2.1
def cL (c : Cu) : Nat := c.2.2.1
def cO (c : Cu) : Nat → Nat := c.2.2.2.1
def cN (c : Cu) : Nat := c.2.2.2.2.1
def cK (c : Cu) : Nat := c.2.2.2.2.2
def rch (D : Dc) (w so x : Nat) (c : Cu) : Nat := ffn (fun b => decide (x ≤ LST D w so b)) (cB c) (nB D w so)
def dipC (D : Dc) (w so x : Nat) (c : Cu) : Cu := (rch D w so x c, (if rch D w so x c < nB D w so then max x (FST D w so (rch D w so x c)) else cP c), cL c, cO c, cN c, cK c)
def opnC (D : Dc) (w so : Nat) (c : Cu) : Cu := if cL c = cB c + 1 then c else (cB c, cP c, cB c + 1, (fun b => if b = cB c then cO c b + 1 else cO c b), cN c + 1, cK c + bkM D w so (cB c))
def mvI (D : Dc) (w so x : Nat) (c : Cu) : Nat := ffn (fun k => decide (x ≤ pK D w k)) (cB c * so) (cB c * so + bkM D w so (cB c))
def movC (D : Dc) (w so x : Nat) (c : Cu) : Cu := (cB c, pK D w (mvI D w so x c), cL c, cO c, cN c, cK c)
def sekC (D : Dc) (w so x : Nat) (c : Cu) : Cu := if cB (if x ≤ cP c then c else dipC D w so x c) = nB D w so then (if x ≤ cP c then c else dipC D w so x c) else movC D w so x (opnC D w so (if x ≤ cP c then c else dipC D w so x c))
def IC (D : Dc) (w so : Nat) (c : Cu) : Prop := cB c ≤ nB D w so ∧ (cB c < nB D w so → cP c ≤ LST D w so (cB c)) ∧ cP c ≤ 63 ∧ cL c ≤ cB c + 1 ∧ cL c ≤ nB D w so ∧ (∀ b, cL c ≤ b → cO c b = 0) ∧ (∀ b, cO c b ≤ 1) ∧ cN c ≤ cL c ∧ cK c ≤ cL c * so
def muC (D : Dc) (w so : Nat) (c : Cu) : Nat := if cB c = nB D w so then 0 else 65 - cP c
theorem nB_in {D : Dc} {kn w so : Nat} (hD : DW D kn) (h2 : 2 ≤ so) {b : Nat} (hb : b < nB D w so) : b * so < pN D w ∧ 0 < bkM D w so b ∧ b * so + bkM D w so b ≤ pN D w ∧ bkM D w so b ≤ so := by
  have h := (bk_div h2).mp hb
  exact ⟨h, bkM_pos h2 h⟩
theorem FL_le {D : Dc} {kn w so : Nat} (hD : DW D kn) (h2 : 2 ≤ so) {b : Nat} (hb : b < nB D w so) : FST D w so b ≤ LST D w so b ∧ LST D w so b < D.length ∧ LST D w so b ≤ 63 ∧ FST D w so b ≤ 63 := by
  obtain ⟨g1, g2, g3, g4⟩ := nB_in hD h2 hb
  have hl := hD.1
  have e1 : LST D w so b < D.length := pK_lt (by omega)
  have e2 : FST D w so b ≤ LST D w so b := by
    unfold FST LST
    by_cases e : b * so = b * so + bkM D w so b - 1
    · rw [← e]; exact Nat.le_refl _
    · exact Nat.le_of_lt (pK_mono (by omega) (by omega))
  omega
theorem rch_c {D : Dc} {kn w so : Nat} (hD : DW D kn) (h2 : 2 ≤ so) {c : Cu} (x : Nat) (h : cB c ≤ nB D w so) : cB c ≤ rch D w so x c ∧ rch D w so x c ≤ nB D w so ∧ (rch D w so x c < nB D w so → x ≤ LST D w so (rch D w so x c)) := by
  obtain ⟨g1, g2, g3, g4⟩ := ffn_c (p := fun b => decide (x ≤ LST D w so b)) h
  refine ⟨g1, g2, fun hlt => ?_⟩
  rcases g4 with g4 | g4
  · unfold rch at hlt; omega
  · exact of_decide_eq_true g4
theorem IC.dip {D : Dc} {kn w so : Nat} (hD : DW D kn) (h2 : 2 ≤ so) {c : Cu} (x : Nat) (h : IC D w so c) : IC D w so (dipC D w so x c) ∧ (cB (dipC D w so x c) < nB D w so → x ≤ cP (dipC D w so x c)) := by
  obtain ⟨a1, a2, a3, a4, a5, a6, a7, a8, a9⟩ := h
  obtain ⟨g1, g2, g3⟩ := rch_c hD h2 x a1
  have key : rch D w so x c < nB D w so → cP (dipC D w so x c) = max x (FST D w so (rch D w so x c)) := fun hlt => if_pos hlt
  refine ⟨⟨g2, fun hlt => ?_, ?_, ?_, a5, a6, a7, a8, a9⟩, fun hlt => ?_⟩
  · have hlt : rch D w so x c < nB D w so := hlt
    rw [key hlt]
    have := FL_le hD h2 hlt
    have := g3 hlt
    show max x (FST D w so (rch D w so x c)) ≤ LST D w so (rch D w so x c)
    omega
  · by_cases hlt : rch D w so x c < nB D w so
    · rw [key hlt]
      have := FL_le hD h2 hlt
      have := g3 hlt
      omega
    · have : cP (dipC D w so x c) = cP c := if_neg hlt
      omega
  · show cL c ≤ rch D w so x c + 1; omega
  · rw [key hlt]; omega
theorem IC.opn {D : Dc} {kn w so : Nat} (hD : DW D kn) (h2 : 2 ≤ so) {c : Cu} (h : IC D w so c) (hb : cB c < nB D w so) : IC D w so (opnC D w so c) ∧ cB (opnC D w so c) = cB c ∧ cP (opnC D w so c) = cP c := by
  unfold opnC
  by_cases e : cL c = cB c + 1
  · rw [if_pos e]; exact ⟨h, rfl, rfl⟩
  · rw [if_neg e]
    obtain ⟨a1, a2, a3, a4, a5, a6, a7, a8, a9⟩ := h
    obtain ⟨g1, g2, g3, g4⟩ := nB_in hD h2 hb
    refine ⟨⟨a1, a2, a3, Nat.le_refl _, by show cB c + 1 ≤ _; omega, fun b hb2 => ?_, fun b => ?_, ?_, ?_⟩, rfl, rfl⟩
    · have hb2 : cB c + 1 ≤ b := hb2
      show (if b = cB c then cO c b + 1 else cO c b) = 0
      rw [if_neg (by omega)]; exact a6 b (by omega)
    · show (if b = cB c then cO c b + 1 else cO c b) ≤ 1
      by_cases eb : b = cB c
      · rw [if_pos eb, a6 b (by omega)]; omega
      · rw [if_neg eb]; exact a7 b
    · show cN c + 1 ≤ cB c + 1; omega
    · show cK c + bkM D w so (cB c) ≤ (cB c + 1) * so
      have : cL c * so ≤ cB c * so := Nat.mul_le_mul_right _ (by omega)
      rw [Nat.add_mul, Nat.one_mul]
      omega
theorem mvI_c {D : Dc} {kn w so : Nat} (hD : DW D kn) (h2 : 2 ≤ so) {c : Cu} {x : Nat} (hb : cB c < nB D w so) (hx : x ≤ LST D w so (cB c)) : cB c * so ≤ mvI D w so x c ∧ mvI D w so x c < cB c * so + bkM D w so (cB c) ∧ x ≤ pK D w (mvI D w so x c) ∧ pK D w (mvI D w so x c) ≤ LST D w so (cB c) := by
  obtain ⟨g1, g2, g3, g4⟩ := nB_in hD h2 hb
  obtain ⟨f1, f2, f3, f4⟩ := ffn_c (p := fun k => decide (x ≤ pK D w k)) (b := cB c * so) (n := cB c * so + bkM D w so (cB c)) (by omega)
  have hlt : mvI D w so x c < cB c * so + bkM D w so (cB c) := by
    rcases f4 with f4 | f4
    · exfalso
      have := f3 (cB c * so + bkM D w so (cB c) - 1) (by omega) (by omega)
      exact of_decide_eq_false this hx
    · by_cases q : mvI D w so x c < cB c * so + bkM D w so (cB c)
      · exact q
      · exfalso
        have e : mvI D w so x c = cB c * so + bkM D w so (cB c) := by unfold mvI at q ⊢; omega
        have := f3 (cB c * so + bkM D w so (cB c) - 1) (by omega) (by unfold mvI at e; omega)
        exact of_decide_eq_false this hx
  refine ⟨f1, hlt, ?_, ?_⟩
  · rcases f4 with f4 | f4
    · unfold mvI at hlt; omega
    · exact of_decide_eq_true f4
  · unfold LST
    by_cases e : mvI D w so x c = cB c * so + bkM D w so (cB c) - 1
    · rw [e]; exact Nat.le_refl _
    · exact Nat.le_of_lt (pK_mono (by omega) (by omega))
theorem IC.mov {D : Dc} {kn w so : Nat} (hD : DW D kn) (h2 : 2 ≤ so) {c : Cu} {x : Nat} (h : IC D w so c) (hb : cB c < nB D w so) (hx : x ≤ LST D w so (cB c)) : IC D w so (movC D w so x c) ∧ x ≤ cP (movC D w so x c) ∧ ∃ k, k < pN D w ∧ cP (movC D w so x c) = pK D w k := by
  obtain ⟨g1, g2, g3, g4⟩ := nB_in hD h2 hb
  obtain ⟨m1, m2, m3, m4⟩ := mvI_c hD h2 hb hx
  have := FL_le hD h2 hb
  obtain ⟨a1, a2, a3, a4, a5, a6, a7, a8, a9⟩ := h
  exact ⟨⟨a1, fun _ => m4, by show pK D w (mvI D w so x c) ≤ 63; omega, a4, a5, a6, a7, a8, a9⟩, m3, _, by omega, rfl⟩
theorem IC.sek {D : Dc} {kn w so : Nat} (hD : DW D kn) (h2 : 2 ≤ so) {c : Cu} {x : Nat} (h : IC D w so c) : IC D w so (sekC D w so x c) ∧ (cB (sekC D w so x c) < nB D w so → x ≤ cP (sekC D w so x c) ∧ ∃ k, k < pN D w ∧ cP (sekC D w so x c) = pK D w k) := by
  have h1 : IC D w so (if x ≤ cP c then c else dipC D w so x c) ∧ (cB (if x ≤ cP c then c else dipC D w so x c) < nB D w so → x ≤ cP (if x ≤ cP c then c else dipC D w so x c)) := by
    by_cases e : x ≤ cP c
    · rw [if_pos e]; exact ⟨h, fun _ => e⟩
    · rw [if_neg e]; exact h.dip hD h2 x
  unfold sekC
  generalize (if x ≤ cP c then c else dipC D w so x c) = c1 at h1
  obtain ⟨i1, i2⟩ := h1
  by_cases e : cB c1 = nB D w so
  · rw [if_pos e]; exact ⟨i1, fun hlt => by omega⟩
  · rw [if_neg e]
    have hb : cB c1 < nB D w so := by have := i1.1; omega
    obtain ⟨o1, o2, o3⟩ := i1.opn hD h2 hb
    obtain ⟨n1, n2, n3⟩ := o1.mov hD h2 (x := x) (by omega) (by have := i1.2.1 hb; have := i2 hb; rw [o2]; omega)
    exact ⟨n1, fun _ => ⟨n2, n3⟩⟩
theorem sek_live {D : Dc} {kn w so : Nat} (hD : DW D kn) (h2 : 2 ≤ so) {c : Cu} {x : Nat} (h : IC D w so c) (hb : cB c < nB D w so) (hx : x ≤ cP c) : cB (sekC D w so x c) = cB c := by
  unfold sekC
  rw [if_pos hx, if_neg (by omega)]
  exact (h.opn hD h2 hb).2.1
theorem mu_dip {D : Dc} {kn w so : Nat} (hD : DW D kn) (h2 : 2 ≤ so) {c : Cu} {x : Nat} (h : IC D w so c) (hb : cB c < nB D w so) (hx : cP c < x) : muC D w so (dipC D w so x c) < muC D w so c := by
  obtain ⟨i1, i2⟩ := h.dip hD h2 x
  have h3 := h.2.2.1
  have j1 := i1.1
  unfold muC
  rw [if_neg (show ¬ cB c = nB D w so by omega)]
  by_cases e : cB (dipC D w so x c) = nB D w so
  · rw [if_pos e]; omega
  · rw [if_neg e]
    have := i2 (by omega)
    omega
theorem mu_sek {D : Dc} {kn w so : Nat} (hD : DW D kn) (h2 : 2 ≤ so) {c : Cu} {x : Nat} (h : IC D w so c) (hb : cB c < nB D w so) (hx : cP c < x) : muC D w so (sekC D w so x c) < muC D w so c := by
  obtain ⟨i1, i2⟩ := h.sek hD h2 (x := x)
  have h3 := h.2.2.1
  have j1 := i1.1
  unfold muC
  rw [if_neg (show ¬ cB c = nB D w so by omega)]
  by_cases e : cB (sekC D w so x c) = nB D w so
  · rw [if_pos e]; omega
  · rw [if_neg e]
    have := (i2 (by omega)).1
    omega
