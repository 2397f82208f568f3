/-! PURE: numbers, loops, what stays -/
theorem li (n : Nat) : (OfNat.ofNat n : Int32) = nI n := rfl
def nO : Int32 := -1
theorem nO_e : (-1 : Int32) = nO := rfl
theorem nO_n : -nI 1 = nO := rfl
theorem nO_t : nO.toInt = -1 := rfl
theorem tnI {n : Nat} (h : n < 2147483648) : tn (nI n) = n := nI_clamp h
theorem vpI {n k : Nat} (h : n < 2147483648) : vp_in (nI n) k ↔ n < k := by
  unfold vp_in
  rw [nI_clamp h]
  constructor
  · intro q
    exact Nat.not_le.mp fun z => q (Or.inr z)
  · intro q z
    rcases z with z | z
    · exact nI_pos h z
    · omega
theorem ltI {a b : Nat} (ha : a < 2147483648) (hb : b < 2147483648) : nI a < nI b ↔ a < b := nI_ltI ha hb
theorem leI {a b : Nat} (ha : a < 2147483648) (hb : b < 2147483648) : nI a ≤ nI b ↔ a ≤ b := nI_leI ha hb
theorem eqI {a b : Nat} (ha : a < 2147483648) (hb : b < 2147483648) : nI a = nI b ↔ a = b := nI_eq ha hb
theorem sbI {a b : Nat} (h : b ≤ a) : nI a - nI b = nI (a - b) := pk_sub h
theorem dvI {a d : Nat} (ha : a < 2147483648) (h0 : 0 < d) (hd : d < 2147483648) : nI a / nI d = nI (a / d) := pk_div ha h0 hd
theorem adI (a b : Nat) : nI a + nI b = nI (a + b) := nI_add a b
theorem mlI (a b : Nat) : nI a * nI b = nI (a * b) := pk_mul a b
theorem nO_l {n : Nat} (h : n < 2147483648) : nO ≤ nI n := by
  rw [Int32.le_iff_toInt_le, nO_t, nI_toInt h]; omega
theorem nO_lt {n : Nat} (h : n < 2147483648) : nO < nI n := by
  rw [Int32.lt_iff_toInt_lt, nO_t, nI_toInt h]; omega
theorem nO_nl {n : Nat} (h : n < 2147483648) : ¬ nI n ≤ nO := by
  rw [Int32.le_iff_toInt_le, nO_t, nI_toInt h]; omega
theorem nO_nlt {n : Nat} (h : n < 2147483648) : ¬ nI n < nO := by
  rw [Int32.lt_iff_toInt_lt, nO_t, nI_toInt h]; omega
theorem nO_ne {n : Nat} (h : n < 2147483648) : ¬ nI n = nO := fun e => nO_nl h (by rw [e]; exact Int32.le_refl _)
theorem nO_ne' {n : Nat} (h : n < 2147483648) : ¬ nO = nI n := fun e => nO_ne h e.symm
theorem nO_add (n : Nat) : nI (n + 1) + nO = nI n := pk_m1 n
theorem nO_sub (x : Int32) : x - nO = x + nI 1 := by
  show x - (-1) = x + 1
  rw [Int32.sub_eq_add_neg, Int32.neg_neg]
/-- q stands for 'NONE', if it is 0, for one less else -/
theorem sb0 : nI 0 - nI 1 = nO := rfl
theorem sbs (n : Nat) : nI (n + 1) - nI 1 = nI n := by rw [sbI (by omega)]; rfl
theorem sb1 {p q : Nat} (h : q ≤ p + 1) : nI p - (nI q - nI 1) = nI (p + 1 - q) := by
  cases q with
  | zero => rw [sb0, nO_sub, adI]; rfl
  | succ k =>
    rw [sbs, sbI (by omega)]
    congr 1
    omega
theorem mxI {a b : Nat} (ha : a < 2147483648) (hb : b < 2147483648) : imax (nI a) (nI b) = nI (max a b) := by
  unfold imax
  by_cases h : a < b
  · rw [if_pos ((ltI ha hb).mpr h), Nat.max_eq_right (by omega)]
  · rw [if_neg (fun q => h ((ltI ha hb).mp q)), Nat.max_eq_left (by omega)]
theorem mnI {a b : Nat} (ha : a < 2147483648) (hb : b < 2147483648) : imin (nI a) (nI b) = nI (min a b) := by
  unfold imin
  by_cases h : b < a
  · rw [if_pos ((ltI hb ha).mpr h), Nat.min_eq_right (by omega)]
  · rw [if_neg (fun q => h ((ltI hb ha).mp q)), Nat.min_eq_left (by omega)]
theorem lt0 (n : Nat) (h : n < 2147483648) : ¬ nI n < nI 0 := nI_pos h
/-- every number is one of three: negative, a small one, a large one -/
theorem ix3 (x : Int32) (n : Nat) (hn : n < 2147483648) : x < nI 0 ∨ nI n ≤ x ∨ ∃ j : Nat, j < n ∧ x = nI j := pk_ix x hn
/-- loops that count -/
theorem lp_up {σ : Type} {body : (σ → Prop) → σ → Prop} (st : Nat → σ → Prop) {a N : Nat} {s : σ} (h : a ≤ N) (h0 : st a s) (step : ∀ (n : Nat) (s : σ) (L : σ → Prop), a ≤ n → n < N → st n s → (∀ s', st (n + 1) s' → L s') → body L s) (last : ∀ (s : σ) (L : σ → Prop), st N s → body L s) : ∃ n, lp body n s := by
  have key : ∀ (k n : Nat) (s : σ), n + k = N → a ≤ n → st n s → lp body (k + 1) s := by
    intro k
    induction k with
    | zero =>
      intro n s hn _ hs
      obtain rfl : n = N := by omega
      exact last s _ hs
    | succ k ih =>
      intro n s hn ha hs
      exact step n s _ ha (by omega) hs (fun s' h' => ih (n + 1) s' (by omega) (by omega) h')
  exact ⟨N - a + 1, key (N - a) a s (by omega) (Nat.le_refl _) h0⟩
theorem lp_fn {σ : Type} {body : (σ → Prop) → σ → Prop} (g : Nat → σ) {a N : Nat} (h : a ≤ N) (step : ∀ (n : Nat) (L : σ → Prop), a ≤ n → n < N → L (g (n + 1)) → body L (g n)) (last : ∀ L : σ → Prop, body L (g N)) : ∃ n, lp body n (g a) :=
  lp_up (fun n s => s = g n) h rfl (fun n s L h1 h2 e k => by subst e; exact step n L h1 h2 (k _ rfl)) (fun s L e => by subst e; exact last L)
/-- a loop that seeks: it may leave at the first n of a kind -/
theorem lp_find {σ : Type} {body : (σ → Prop) → σ → Prop} (g : Nat → σ) (P : Nat → Prop) {a N : Nat} (h : a ≤ N) (step : ∀ (n : Nat) (L : σ → Prop), a ≤ n → n < N → (∀ j, a ≤ j → j < n → ¬ P j) → (P n ∨ L (g (n + 1))) → (¬ P n → L (g (n + 1))) → body L (g n)) (last : ∀ L : σ → Prop, (∀ j, a ≤ j → j < N → ¬ P j) → body L (g N)) : ∃ n, lp body n (g a) :=
  lp_up (fun n s => s = g n ∧ ∀ j, a ≤ j → j < n → ¬ P j) h ⟨rfl, fun j h1 h2 => absurd h2 (by omega)⟩ (fun n s L h1 h2 e k => by
    obtain ⟨e, hj⟩ := e
    subst e
    have hn : ¬ P n → L (g (n + 1)) := fun hp => k _ ⟨rfl, fun j g1 g2 => by
      by_cases g3 : j = n
      · subst g3; exact hp
      · exact hj j g1 (by omega)⟩
    exact step n L h1 h2 hj (by by_cases q : P n; exact Or.inl q; exact Or.inr (hn q)) hn) (fun s L e => by obtain ⟨e, hj⟩ := e; subst e; exact last L hj)
/-- what a piece of code leaves as it was: the components (and instances) of P -/
def Kp (P : Nat → Nat → Bool) (M M' : Mem) : Prop := ∀ c i, P c i = true → M'.1 c i = M.1 c i ∧ M'.2 c i = M.2 c i
theorem Kp.rf {P : Nat → Nat → Bool} {M : Mem} : Kp P M M := fun _ _ _ => ⟨rfl, rfl⟩
theorem Kp.tr {P : Nat → Nat → Bool} {M M' M'' : Mem} (h : Kp P M M') (k : Kp P M' M'') : Kp P M M'' := fun c i q => ⟨(k c i q).1.trans (h c i q).1, (k c i q).2.trans (h c i q).2⟩
theorem Kp.wk {P Q : Nat → Nat → Bool} {M M' : Mem} (h : Kp P M M') (hq : ∀ c i, Q c i = true → P c i = true) : Kp Q M M' := fun c i q => h c i (hq c i q)
theorem Kp.u1 {P : Nat → Nat → Bool} {M M' : Mem} {c i k : Nat} {v : Int32} (h : Kp P M M') (hp : P c i = false) : Kp P M (up1 M' c i k v) := fun c' i' q => by
  have hne : ¬ (c' = c ∧ i' = i) := fun e => by rw [e.1, e.2, hp] at q; cases q
  exact ⟨(up1_other hne).trans (h c' i' q).1, (h c' i' q).2⟩
theorem Kp.u2 {P : Nat → Nat → Bool} {M M' : Mem} {c i k : Nat} {v : Int64} (h : Kp P M M') (hp : P c i = false) : Kp P M (up2 M' c i k v) := fun c' i' q => by
  have hne : ¬ (c' = c ∧ i' = i) := fun e => by rw [e.1, e.2, hp] at q; cases q
  exact ⟨(h c' i' q).1, (up2_other hne).trans (h c' i' q).2⟩
theorem Kp.g {P : Nat → Nat → Bool} {M M' : Mem} (h : Kp P M M') {c i : Nat} (hp : P c i = true) (k : Nat) : M'.1 c i k = M.1 c i k := by rw [(h c i hp).1]
theorem Kp.g2 {P : Nat → Nat → Bool} {M M' : Mem} (h : Kp P M M') {c i : Nat} (hp : P c i = true) (k : Nat) : M'.2 c i k = M.2 c i k := by rw [(h c i hp).2]
/-! PURE: sums, greatest, counts -/
def smF (f : Nat → Nat) : Nat → Nat
  | 0 => 0
  | n + 1 => smF f n + f n
def mxF (f : Nat → Nat) : Nat → Nat
  | 0 => 0
  | n + 1 => max (mxF f n) (f n)
def ctF (p : Nat → Bool) : Nat → Nat
  | 0 => 0
  | n + 1 => ctF p n + if p n then 1 else 0
theorem smF_congr {f g : Nat → Nat} {n : Nat} (h : ∀ k, k < n → f k = g k) : smF f n = smF g n := by
  induction n with
  | zero => rfl
  | succ n ih => unfold smF; rw [ih (fun k hk => h k (by omega)), h n (by omega)]
theorem mxF_congr {f g : Nat → Nat} {n : Nat} (h : ∀ k, k < n → f k = g k) : mxF f n = mxF g n := by
  induction n with
  | zero => rfl
  | succ n ih => unfold mxF; rw [ih (fun k hk => h k (by omega)), h n (by omega)]
theorem ctF_congr {f g : Nat → Bool} {n : Nat} (h : ∀ k, k < n → f k = g k) : ctF f n = ctF g n := by
  induction n with
  | zero => rfl
  | succ n ih => unfold ctF; rw [ih (fun k hk => h k (by omega)), h n (by omega)]
theorem ctF_le (p : Nat → Bool) (n : Nat) : ctF p n ≤ n := by
  induction n with
  | zero => exact Nat.le_refl _
  | succ n ih => unfold ctF; by_cases h : p n = true <;> simp [h] <;> omega
theorem mxF_le {f : Nat → Nat} {n B : Nat} (h : ∀ k, k < n → f k ≤ B) : mxF f n ≤ B := by
  induction n with
  | zero => exact Nat.zero_le _
  | succ n ih => unfold mxF; exact Nat.max_le.mpr ⟨ih (fun k hk => h k (by omega)), h n (by omega)⟩
theorem le_mxF {f : Nat → Nat} {n k : Nat} (h : k < n) : f k ≤ mxF f n := by
  induction n with
  | zero => omega
  | succ n ih =>
    unfold mxF
    by_cases hk : k = n
    · subst hk; exact Nat.le_max_right _ _
    · exact Nat.le_trans (ih (by omega)) (Nat.le_max_left _ _)
theorem smF_le {f : Nat → Nat} {n B : Nat} (h : ∀ k, k < n → f k ≤ B) : smF f n ≤ n * B := by
  induction n with
  | zero => simp [smF]
  | succ n ih => unfold smF; rw [Nat.succ_mul]; exact Nat.add_le_add (ih (fun k hk => h k (by omega))) (h n (by omega))
theorem ctF_pos {p : Nat → Bool} {n k : Nat} (h : k < n) (hp : p k = true) : 0 < ctF p n := by
  induction n with
  | zero => omega
  | succ n ih =>
    unfold ctF
    by_cases hk : k = n
    · subst hk; simp [hp]
    · have := ih (by omega); omega
theorem ctF_zero {p : Nat → Bool} {n : Nat} : ctF p n = 0 ↔ ∀ k, k < n → p k = false := by
  induction n with
  | zero => simp [ctF]
  | succ n ih =>
    unfold ctF
    constructor
    · intro h k hk
      by_cases e : k = n
      · subst e
        cases hp : p k
        · rfl
        · rw [hp] at h; simp at h
      · exact ih.mp (by omega) k (by omega)
    · intro h
      rw [ih.mpr (fun k hk => h k (by omega)), h n (by omega)]
      rfl
theorem smF_ct (p : Nat → Bool) (n : Nat) : smF (fun k => if p k then 1 else 0) n = ctF p n := by
  induction n with
  | zero => rfl
  | succ n ih => unfold smF ctF; rw [ih]
/-- halved until it is 1 -/
def hlv (v : Nat) : Nat := if v ≤ 1 then 0 else 1 + hlv (v / 2)
termination_by v
decreasing_by omega
/-- how many bits -/
def wid (v : Nat) : Nat := if v = 0 then 0 else 1 + wid (v / 2)
termination_by v
decreasing_by omega
theorem hlv_le (v : Nat) : hlv v ≤ v := by
  induction v using Nat.strongRecOn with
  | ind v ih =>
    rw [hlv]
    by_cases h : v ≤ 1
    · rw [if_pos h]; exact Nat.zero_le _
    · rw [if_neg h]; have := ih (v / 2) (by omega); omega
theorem wid_le (v : Nat) : wid v ≤ v := by
  induction v using Nat.strongRecOn with
  | ind v ih =>
    rw [wid]
    by_cases h : v = 0
    · rw [if_pos h]; exact Nat.zero_le _
    · rw [if_neg h]; have := ih (v / 2) (by omega); omega
theorem leT {a b : Nat} (h : a ≤ b) : (a ≤ b) = True := eq_true h
theorem leF {a b : Nat} (h : b < a) : (a ≤ b) = False := eq_false (by omega)
theorem ltT {a b : Nat} (h : a < b) : (a < b) = True := eq_true h
theorem ltF {a b : Nat} (h : b ≤ a) : (a < b) = False := eq_false (by omega)
theorem eqT {a b : Nat} (h : a = b) : (a = b) = True := eq_true h
theorem eqF {a b : Nat} (h : a ≠ b) : (a = b) = False := eq_false h
