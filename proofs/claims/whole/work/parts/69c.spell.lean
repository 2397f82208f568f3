/-! PURE: words, letter by letter, the last letter first -/
abbrev Wd : Type := List Nat
def Wok (l : Wd) : Prop := ∀ x, x ∈ l → 1 ≤ x ∧ x ≤ 26
def rb (b : Nat) : Wd → Nat
  | [] => 0
  | x :: t => rb b t * b + x
theorem rb_inj {b : Nat} (hb : 27 ≤ b) : ∀ (l k : Wd), Wok l → Wok k → rb b l = rb b k → l = k := by
  intro l
  induction l with
  | nil =>
    intro k _ hk h
    cases k with
    | nil => rfl
    | cons y t =>
      have := hk y (List.mem_cons_self ..)
      have h : 0 = rb b t * b + y := h
      omega
  | cons x s ih =>
    intro k hl hk h
    have hx := hl x (List.mem_cons_self ..)
    cases k with
    | nil =>
      have h : rb b s * b + x = 0 := h
      omega
    | cons y t =>
      have hy := hk y (List.mem_cons_self ..)
      have h : rb b s * b + x = rb b t * b + y := h
      have e1 : (rb b s * b + x) % b = x := by rw [Nat.add_comm, Nat.add_mul_mod_self_right]; exact Nat.mod_eq_of_lt (by omega)
      have e2 : (rb b t * b + y) % b = y := by rw [Nat.add_comm, Nat.add_mul_mod_self_right]; exact Nat.mod_eq_of_lt (by omega)
      have exy : x = y := by rw [← e1, ← e2, h]
      subst exy
      have e3 : rb b s * b = rb b t * b := by omega
      have e4 : rb b s = rb b t := Nat.eq_of_mul_eq_mul_right (by omega) e3
      rw [ih t (fun z hz => hl z (List.mem_cons_of_mem _ hz)) (fun z hz => hk z (List.mem_cons_of_mem _ hz)) e4]
theorem rb_le {b : Nat} (hb : 27 ≤ b) (l : Wd) (h : Wok l) : rb b l < b ^ l.length := by
  induction l with
  | nil => show 0 < 1; omega
  | cons x t ih =>
    have hx := h x (List.mem_cons_self ..)
    have h1 := ih (fun z hz => h z (List.mem_cons_of_mem _ hz))
    show rb b t * b + x < b ^ (t.length + 1)
    rw [Nat.pow_succ]
    have : (rb b t + 1) * b ≤ b ^ t.length * b := Nat.mul_le_mul_right _ h1
    rw [Nat.add_mul, Nat.one_mul] at this
    omega
theorem rb_div {b : Nat} (hb : 27 ≤ b) {x : Nat} {t : Wd} (hx : x ≤ 26) : rb b (x :: t) / b = rb b t ∧ rb b (x :: t) % b = x := by
  show (rb b t * b + x) / b = rb b t ∧ (rb b t * b + x) % b = x
  constructor
  · rw [Nat.add_comm, Nat.add_mul_div_right _ _ (by omega), Nat.div_eq_of_lt (by omega)]; omega
  · rw [Nat.add_comm, Nat.add_mul_mod_self_right]; exact Nat.mod_eq_of_lt (by omega)
/-- the known words: each once, of one letter to eight -/
def Kw (W : List Wd) : Prop := W.length ≤ 255 ∧ (∀ l, l ∈ W → Wok l ∧ 1 ≤ l.length ∧ l.length ≤ 8) ∧ ∀ i j, i < j → j < W.length → W.getD i [] ≠ W.getD j []
