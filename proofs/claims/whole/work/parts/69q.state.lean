/-! PURE: the state -/
/-- how many bytes the tape has, these, the place of the fault, the documents, the known words, the question, the size, how many calls were refused -/
abbrev St : Type := Nat × (Nat → Nat) × Int32 × Dc × List Wd × Qc × Nat × Nat × Nat
def tN (S : St) : Nat := S.1
def tB (S : St) : Nat → Nat := S.2.1
def tP (S : St) : Int32 := S.2.2.1
def tD (S : St) : Dc := S.2.2.2.1
def tW (S : St) : List Wd := S.2.2.2.2.1
def tK (S : St) : Qc := S.2.2.2.2.2.1
def tZ (S : St) : Nat := S.2.2.2.2.2.2.1
def t0 (S : St) : Nat := S.2.2.2.2.2.2.2.1
def t1 (S : St) : Nat := S.2.2.2.2.2.2.2.2
def SW (S : St) : Prop := tN S ≤ 300 ∧ (∀ k, tB S k < 256) ∧ DW (tD S) (tW S).length ∧ Kw (tW S) ∧ QW (tK S) (tW S).length ∧ 2 ≤ tZ S ∧ tZ S ≤ 8 ∧ ((tD S).length ≠ 0 → 0 < (tW S).length)
def CI (S : St) (M : Mem) : Prop := M.1 1101 0 0 = nI (tN S) ∧ (∀ k, k < tN S → M.1 1100 0 k = nI (tB S k)) ∧ M.1 1102 0 0 = tP S ∧ M.1 1103 0 0 = nI (t0 S) ∧ M.1 1104 0 0 = nI (t1 S) ∧ CD (tD S) M ∧ CWr (tW S) M ∧ CK (tK S) 0 M ∧ M.1 507 0 0 = nI (tZ S)
def MI (S : St) (M : Mem) : Prop := M.1 1202 0 0 = nI (tN S) ∧ (∀ k, k < tN S → M.1 1208 0 k = nI (tB S k)) ∧ M.1 1205 0 0 = tP S ∧ M.1 1201 0 0 = nI (t0 S) ∧ M.1 1201 0 1 = nI (t1 S) ∧ MD (tD S) M ∧ MWr (tW S) M ∧ MK (tK S) M ∧ M.1 1211 0 0 = nI (tZ S) ∧ M.1 1239 0 0 = nO
/-- what the state needs, in the class, in the reference -/
def pSC (c i : Nat) : Bool := decide (c = 1100 ∨ c = 1101 ∨ c = 1102 ∨ c = 1103 ∨ c = 1104 ∨ (500 < c ∧ c < 513) ∨ (5500 < c ∧ c < 5511) ∨ (699 < c ∧ c < 712 ∧ i = 0) ∨ c = 5710 ∨ c = 1000 ∨ c = 1001)
def pSM (c _ : Nat) : Bool := decide (c = 1201 ∨ c = 1202 ∨ c = 1205 ∨ c = 1208 ∨ c = 1209 ∨ c = 1210 ∨ c = 1211 ∨ c = 6212 ∨ (1212 < c ∧ c < 1231) ∨ c = 6217 ∨ c = 6230 ∨ c = 1239)
theorem CWr.kp {P : Nat → Nat → Bool} {W : List Wd} {M M' : Mem} (h : CWr W M) (k : Kp P M M') (h1 : P 1000 0 = true) (h2 : P 1001 0 = true) : CWr W M' := ⟨(k.g h2 0).trans h.1, fun w hw => (k.g2 h1 w).trans (h.2 w hw)⟩
theorem MWr.kp {P : Nat → Nat → Bool} {W : List Wd} {M M' : Mem} (h : MWr W M) (k : Kp P M M') (h1 : P 1210 0 = true) (h2 : P 1215 0 = true) (h3 : P 1216 0 = true) : MWr W M' := ⟨(k.g h1 0).trans h.1, fun w hw => ⟨(k.g2 h3 w).trans (h.2 w hw).1, (k.g h2 w).trans (h.2 w hw).2⟩⟩
theorem pSC_D {c i : Nat} (h : pCD c i = true) : pSC c i = true := by unfold pCD at h; unfold pSC; simp at h ⊢; omega
theorem pSC_K {c i : Nat} (h : pCK c i = true) : pSC c i = true := by unfold pCK at h; unfold pSC; simp at h ⊢; omega
theorem pSM_D {c i : Nat} (h : pMD c i = true) : pSM c i = true := by unfold pMD at h; unfold pSM; simp at h ⊢; omega
theorem pSM_K {c i : Nat} (h : pMK c i = true) : pSM c i = true := by unfold pMK at h; unfold pSM; simp at h ⊢; omega
theorem CI.kp {S : St} {M M' : Mem} (h : CI S M) (k : Kp pSC M M') : CI S M' := by
  obtain ⟨a1, a2, a3, a4, a5, a6, a7, a8, a9⟩ := h
  exact ⟨(k.g rfl 0).trans a1, fun j hj => (k.g rfl j).trans (a2 j hj), (k.g rfl 0).trans a3, (k.g rfl 0).trans a4, (k.g rfl 0).trans a5, a6.kp (k.wk (fun _ _ => pSC_D)), a7.kp k rfl rfl, a8.kp (k.wk (fun _ _ => pSC_K)), (k.g rfl 0).trans a9⟩
theorem MI.kp {S : St} {M M' : Mem} (h : MI S M) (k : Kp pSM M M') : MI S M' := by
  obtain ⟨a1, a2, a3, a4, a5, a6, a7, a8, a9, a10⟩ := h
  exact ⟨(k.g rfl 0).trans a1, fun j hj => (k.g rfl j).trans (a2 j hj), (k.g rfl 0).trans a3, (k.g rfl 0).trans a4, (k.g rfl 1).trans a5, a6.kp (k.wk (fun _ _ => pSM_D)), a7.kp k rfl rfl rfl, a8.kp (k.wk (fun _ _ => pSM_K)), (k.g rfl 0).trans a9, (k.g rfl 0).trans a10⟩
/-- the class's own, and the law's; the reference's own -/
def pCl (c _ : Nat) : Bool := decide (c < 1200 ∨ (5000 ≤ c ∧ c < 6000) ∨ 9000 ≤ c)
def pRf (c _ : Nat) : Bool := decide ((1200 ≤ c ∧ c < 1300) ∨ (6000 ≤ c ∧ c < 9000))
theorem pCl_S {c i : Nat} (h : pSC c i = true) : pCl c i = true := by unfold pSC at h; unfold pCl; simp at h ⊢; omega
theorem pRf_S {c i : Nat} (h : pSM c i = true) : pRf c i = true := by unfold pSM at h; unfold pRf; simp at h ⊢; omega
/-- a refused call -/
def bmp (S : St) (e : Nat) : St := (tN S, tB S, tP S, tD S, tW S, tK S, tZ S, (if e = 1 then t0 S + 1 else t0 S), (if e = 2 then t1 S + 1 else t1 S))
theorem bmp_0 (S : St) : bmp S 0 = S := rfl
theorem SW_bmp {S : St} (h : SW S) (e : Nat) : SW (bmp S e) := h
/-- what is answered: the state behind it; 0, 1 no such one, 2 not allowed; the answer -/
abbrev Rs : Type := St × Nat × Int32
def CE (R : Rs) (M : Mem) (Q : Int32 → Mem → Prop) (K : String → Mem → Prop) : Prop := ∀ M', Kp pRf M M' → CI R.1 M' → (R.2.1 = 0 → Q R.2.2 M') ∧ (R.2.1 = 1 → K EN M') ∧ (R.2.1 = 2 → K EI M')
def ME (R : Rs) (e : Nat) (M : Mem) (Q : Int32 → Mem → Prop) : Prop := ∀ M' b, Kp pCl M M' → MI R.1 M' → M'.1 1200 0 0 = nI (if R.2.1 = 2 then e else R.2.1) → (R.2.1 = 0 → b = R.2.2) → Q b M'
def okR (S : St) (v : Int32) : Rs := (S, 0, v)
def rfs (S : St) (e : Nat) : Rs := (bmp S e, e, 0)
theorem CE.ok {S : St} {v : Int32} {M M' : Mem} {Q : Int32 → Mem → Prop} {K : String → Mem → Prop} (k : CE (okR S v) M Q K) (h : Kp pRf M M') (hc : CI S M') : Q v M' := (k M' h hc).1 rfl
theorem pRf_n {c i : Nat} (h : c < 1200 ∨ (5000 ≤ c ∧ c < 6000)) : pRf c i = false := by unfold pRf; simp; omega
theorem CI.b1 {S : St} {M : Mem} (h : CI S M) : CI (bmp S 1) (up1 M 1103 0 0 (M.1 1103 0 0 + 1)) := by
  obtain ⟨a1, a2, a3, a4, a5, a6, a7, a8, a9⟩ := h
  refine ⟨(up1_ne (by simp)).trans a1, fun j hj => (up1_ne (by simp)).trans (a2 j hj), (up1_ne (by simp)).trans a3, ?_, (up1_ne (by simp)).trans a5, a6.kp (Kp.rf.u1 rfl), ⟨(up1_ne (by simp)).trans a7.1, fun w hw => a7.2 w hw⟩, a8.kp (Kp.rf.u1 rfl), (up1_ne (by simp)).trans a9⟩
  rw [up1_eq, a4]
  exact adI _ 1
theorem CI.b2 {S : St} {M : Mem} (h : CI S M) : CI (bmp S 2) (up1 M 1104 0 0 (M.1 1104 0 0 + 1)) := by
  obtain ⟨a1, a2, a3, a4, a5, a6, a7, a8, a9⟩ := h
  refine ⟨(up1_ne (by simp)).trans a1, fun j hj => (up1_ne (by simp)).trans (a2 j hj), (up1_ne (by simp)).trans a3, (up1_ne (by simp)).trans a4, ?_, a6.kp (Kp.rf.u1 rfl), ⟨(up1_ne (by simp)).trans a7.1, fun w hw => a7.2 w hw⟩, a8.kp (Kp.rf.u1 rfl), (up1_ne (by simp)).trans a9⟩
  rw [up1_eq, a5]
  exact adI _ 1
theorem CE.no1 {S : St} {M M' : Mem} {Q : Int32 → Mem → Prop} {K : String → Mem → Prop} (k : CE (rfs S 1) M Q K) (h : Kp pRf M M') (hc : CI S M') : K EN (up1 M' 1103 0 0 (M'.1 1103 0 0 + 1)) := (k _ (h.u1 rfl) hc.b1).2.1 rfl
theorem CE.no2 {S : St} {M M' : Mem} {Q : Int32 → Mem → Prop} {K : String → Mem → Prop} (k : CE (rfs S 2) M Q K) (h : Kp pRf M M') (hc : CI S M') : K EI (up1 M' 1104 0 0 (M'.1 1104 0 0 + 1)) := (k _ (h.u1 rfl) hc.b2).2.2 rfl
theorem ME.ok {S : St} {v : Int32} {e : Nat} {M M' : Mem} {Q : Int32 → Mem → Prop} (k : ME (okR S v) e M Q) (h : Kp pCl M M') (hc : MI S M') (h0 : M'.1 1200 0 0 = nI 0) : Q v M' := k M' v h hc h0 (fun _ => rfl)
theorem pSM_no {c i : Nat} (h : c = 1200 ∨ c = 1237 ∨ c = 1238) : pSM c i = false := by unfold pSM; simp; omega
theorem MI.b {S : St} {M : Mem} {c : Int32} (h : MI S M) : MI (bmp S 1) (up1 (up1 M 1200 0 0 c) 1201 0 0 (M.1 1201 0 0 + 1)) ∧ MI (bmp S 2) (up1 (up1 M 1200 0 0 c) 1201 0 1 (M.1 1201 0 1 + 1)) := by
  obtain ⟨a1, a2, a3, a4, a5, a6, a7, a8, a9, a10⟩ := h
  have hx : ∀ (k : Nat) (v : Int32), Kp pMD M (up1 (up1 M 1200 0 0 c) 1201 0 k v) := fun k v => (Kp.rf.u1 rfl).u1 rfl
  have hy : ∀ (k : Nat) (v : Int32), Kp pMK M (up1 (up1 M 1200 0 0 c) 1201 0 k v) := fun k v => (Kp.rf.u1 rfl).u1 rfl
  have hz : ∀ (k : Nat) (v : Int32) (c' i' k' : Nat), c' ≠ 1200 → c' ≠ 1201 → (up1 (up1 M 1200 0 0 c) 1201 0 k v).1 c' i' k' = M.1 c' i' k' := fun k v c' i' k' h1 h2 => by rw [up1_ne (fun q => h2 q.1), up1_ne (fun q => h1 q.1)]
  have hw : ∀ (k : Nat) (v : Int32), MWr (tW S) (up1 (up1 M 1200 0 0 c) 1201 0 k v) := fun k v => ⟨(hz k v _ _ _ (by decide) (by decide)).trans a7.1, fun w hw => ⟨(a7.2 w hw).1, (hz k v _ _ _ (by decide) (by decide)).trans (a7.2 w hw).2⟩⟩
  refine ⟨⟨(hz _ _ _ _ _ (by decide) (by decide)).trans a1, fun j hj => (hz _ _ _ _ _ (by decide) (by decide)).trans (a2 j hj), (hz _ _ _ _ _ (by decide) (by decide)).trans a3, ?_, ?_, a6.kp (hx _ _), hw _ _, a8.kp (hy _ _), (hz _ _ _ _ _ (by decide) (by decide)).trans a9, (hz _ _ _ _ _ (by decide) (by decide)).trans a10⟩, ⟨(hz _ _ _ _ _ (by decide) (by decide)).trans a1, fun j hj => (hz _ _ _ _ _ (by decide) (by decide)).trans (a2 j hj), (hz _ _ _ _ _ (by decide) (by decide)).trans a3, ?_, ?_, a6.kp (hx _ _), hw _ _, a8.kp (hy _ _), (hz _ _ _ _ _ (by decide) (by decide)).trans a9, (hz _ _ _ _ _ (by decide) (by decide)).trans a10⟩⟩
  · rw [up1_eq, a4]; exact adI _ 1
  · rw [up1_ne (by simp), up1_ne (by simp)]; exact a5
  · rw [up1_ne (by simp), up1_ne (by simp)]; exact a4
  · rw [up1_eq, a5]; exact adI _ 1
/-- the reference's refusals -/
theorem mbad0 {M : Mem} {c r : Int32} (h0 : M.1 1200 0 0 = nI 0) {Q : Int32 → Mem → Prop} (hQ : Q (nI 0) M) : pX11_bad M 0 c r Q := by
  unfold pX11_bad bX11_bad_26
  exact ⟨fun _ => ⟨fun _ => hQ, fun q => absurd h0 q⟩, fun q => absurd rfl q⟩
theorem n10 : ¬ (1 : Int32) = 0 := by decide
theorem n20 : ¬ (2 : Int32) = 0 := by decide
theorem mbadN {S : St} {e : Nat} {M0 M : Mem} {P : Int32 → Mem → Prop} (hM : MI S M) (h0 : M.1 1200 0 0 = nI 0) (k : Kp pCl M0 M) (hk : ME (rfs S 1) e M0 P) {Q : Int32 → Mem → Prop} (hQ : ∀ M', (∀ b, P b M') → Q (nI 1) M') : pX11_bad M 1 1 0 Q := by
  have hb := (hM.b (c := nI 1)).1
  have hq := hQ (up1 (up1 M 1200 0 0 (nI 1)) 1201 0 0 (M.1 1201 0 0 + 1)) (fun b => hk _ b ((k.u1 rfl).u1 rfl) hb (by rw [up1_ne (by simp), up1_eq]; rfl) (fun q => by cases q))
  have e1 : (up1 M 1200 0 0 (nI 1)).1 1201 0 0 = M.1 1201 0 0 := up1_ne (by simp)
  have e2 : (up1 (up1 M 1200 0 0 (nI 1)) 1201 0 0 (M.1 1201 0 0 + 1)).1 1200 0 0 = nI 1 := by rw [up1_ne (by simp), up1_eq]
  unfold pX11_bad bX11_bad_26
  refine ⟨fun q => absurd q n10, fun _ => ⟨fun q => absurd h0 q, fun _ => ?_⟩⟩
  intro M3 e3
  subst e3
  refine ⟨(vpI (n := 0) (by omega)).mpr (by omega), ?_⟩
  intro M5 e5
  have e5' : M5 = up1 (up1 M 1200 0 0 (nI 1)) 1201 0 0 (M.1 1201 0 0 + 1) := by rw [e5]; show up1 _ 1201 0 0 ((up1 M 1200 0 0 (nI 1)).1 1201 0 0 + 1) = _; rw [e1]; rfl
  subst e5'
  exact ⟨fun q => absurd (e2.symm.trans q) (by show ¬ nI 1 = nI 0; rw [eqI (by omega) (by omega)]; omega), fun _ => hq⟩
theorem mbadA {S : St} {e : Nat} {M0 M : Mem} {c : Int32} {P : Int32 → Mem → Prop} (hc : c = nI e) (he : e = 1 ∨ e = 2) (hM : MI S M) (h0 : M.1 1200 0 0 = nI 0) (k : Kp pCl M0 M) (hk : ME (rfs S 2) e M0 P) {Q : Int32 → Mem → Prop} (hQ : ∀ M', (∀ b, P b M') → Q (nI 1) M') : pX11_bad M 1 c 1 Q := by
  subst hc
  have hb := (hM.b (c := nI e)).2
  have hq := hQ (up1 (up1 M 1200 0 0 (nI e)) 1201 0 1 (M.1 1201 0 1 + 1)) (fun b => hk _ b ((k.u1 rfl).u1 rfl) hb (by rw [up1_ne (by simp), up1_eq]; rfl) (fun q => by cases q))
  have e1 : (up1 M 1200 0 0 (nI e)).1 1201 0 1 = M.1 1201 0 1 := up1_ne (by simp)
  have e2 : (up1 (up1 M 1200 0 0 (nI e)) 1201 0 1 (M.1 1201 0 1 + 1)).1 1200 0 0 = nI e := by rw [up1_ne (by simp), up1_eq]
  unfold pX11_bad bX11_bad_26
  refine ⟨fun q => absurd q n10, fun _ => ⟨fun q => absurd h0 q, fun _ => ?_⟩⟩
  intro M3 e3
  subst e3
  refine ⟨(vpI (n := 1) (by omega)).mpr (by omega), ?_⟩
  intro M5 e5
  have e5' : M5 = up1 (up1 M 1200 0 0 (nI e)) 1201 0 1 (M.1 1201 0 1 + 1) := by rw [e5]; show up1 _ 1201 0 1 ((up1 M 1200 0 0 (nI e)).1 1201 0 1 + 1) = _; rw [e1]
  subst e5'
  exact ⟨fun q => absurd (e2.symm.trans q) (by show ¬ nI e = nI 0; rw [eqI (by omega) (by omega)]; omega), fun _ => hq⟩
theorem mstart {S : St} {M : Mem} (h : MI S M) {P : Mem → Prop} (hp : ∀ N, MI S N → Kp pCl M N → N.1 1200 0 0 = nI 0 → P N) : ∀ M1 : Mem, M1 = up1 M 1200 0 0 0 → P M1 := by
  intro M1 e1
  subst e1
  exact hp _ (h.kp (Kp.rf.u1 rfl)) (Kp.rf.u1 rfl) up1_eq
/-- choices at 1, at 0 -/
theorem s1a {A B : Prop} (h : A) : (¬ nI 1 = 0 → A) ∧ (nI 1 = 0 → B) := ⟨fun _ => h, fun q => absurd q n10⟩
theorem s1b {A B : Prop} (h : A) : (nI 1 = 0 → B) ∧ (¬ nI 1 = 0 → A) := ⟨fun q => absurd q n10, fun _ => h⟩
theorem s0a {A B : Prop} (h : A) : (¬ nI 0 = 0 → B) ∧ (nI 0 = 0 → A) := ⟨fun q => absurd rfl q, fun _ => h⟩
theorem s0b {A B : Prop} (h : A) : (nI 0 = 0 → A) ∧ (¬ nI 0 = 0 → B) := ⟨fun _ => h, fun q => absurd rfl q⟩
/-! numbers that are allowed -/
def ixr (x : Int32) (lo n : Nat) : Option Nat := if x < nI lo then none else if nI n ≤ x then none else some (tn x)
theorem ixr_c (x : Int32) {lo n : Nat} (hn : n < 2147483648) (hl : lo < 2147483648) : (ixr x lo n = none ∧ (x < nI lo ∨ nI n ≤ x)) ∨ ∃ j, lo ≤ j ∧ j < n ∧ x = nI j ∧ ixr x lo n = some j := by
  unfold ixr
  by_cases h1 : x < nI lo
  · exact Or.inl ⟨if_pos h1, Or.inl h1⟩
  · rw [if_neg h1]
    by_cases h2 : nI n ≤ x
    · exact Or.inl ⟨if_pos h2, Or.inr h2⟩
    · rw [if_neg h2]
      rcases ix3 x n hn with h | h | ⟨j, hj, rfl⟩
      · exfalso
        refine h1 ?_
        have a1 := Int32.lt_iff_toInt_lt.mp h
        rw [nI_toInt (by omega)] at a1
        rw [Int32.lt_iff_toInt_lt, nI_toInt hl]; omega
      · exact absurd h h2
      · rw [ltI (by omega) hl] at h1
        exact Or.inr ⟨j, by omega, hj, rfl, by rw [tnI (by omega)]⟩
theorem ixr_n {x : Int32} {n : Nat} (hn : n < 2147483648) (h : ixr x 0 n = none) {j : Nat} (hj : j < n) : ¬ x = nI j := by
  intro e
  subst e
  unfold ixr at h
  rw [if_neg (lt0 j (by omega)), if_neg (by rw [leI (by omega) (by omega)]; omega)] at h
  cases h
theorem not_lt_le {x y : Int32} (h : x < y) : ¬ y ≤ x := by
  rw [Int32.lt_iff_toInt_lt] at h
  rw [Int32.le_iff_toInt_le]; omega
theorem le_not_lt {x y : Int32} (h : x ≤ y) : ¬ y < x := by
  rw [Int32.le_iff_toInt_le] at h
  rw [Int32.lt_iff_toInt_lt]; omega
theorem suc_le {x : Int32} {m : Nat} (hm : m + 1 < 2147483648) (h : nI (m + 1) ≤ x) : nI m < x := by
  rw [Int32.le_iff_toInt_le, nI_toInt (by omega)] at h
  rw [Int32.lt_iff_toInt_lt, nI_toInt (by omega)]; omega
theorem cneed {M : Mem} {lo m : Nat} {a b x : Int32} (ha : a = nI lo) (hb : b = nI m) (hm : m + 1 < 2147483648) (hl : lo < 2147483648) {Q : Mem → Prop} {K : String → Mem → Prop} (hy : ∀ j, lo ≤ j → j < m + 1 → x = nI j → ixr x lo (m + 1) = some j → Q M) (hx : ixr x lo (m + 1) = none → K EI (up1 M 1104 0 0 (M.1 1104 0 0 + 1))) : pX10_needBetween M x a b Q K := by
  subst ha hb
  unfold pX10_needBetween bX10_needBetween_10 pX10_refuseArgument
  rcases ixr_c x hm hl with ⟨e, h⟩ | ⟨j, j1, j2, e, ej⟩
  · have hk := hx e
    refine ⟨fun _ M1 e1 => by subst e1; exact hk, fun c1 => ⟨fun c2 => ?_, fun _ M1 e1 => by subst e1; exact hk⟩⟩
    rcases h with h | h
    · exact absurd h c1
    · exact absurd c2 (not_lt_le (suc_le hm h))
  · have hq := hy j j1 j2 e ej
    subst e
    refine ⟨fun c1 => ?_, fun _ => ⟨fun _ => hq, fun c2 => ?_⟩⟩
    · rw [ltI (by omega) (by omega)] at c1; omega
    · rw [leI (by omega) (by omega)] at c2; omega
theorem minR {M : Mem} {lo m : Nat} {a b x : Int32} (ha : a = nI lo) (hb : b = nI m) (hm : m + 1 < 2147483648) (hl : lo < 2147483648) {Q : Int32 → Mem → Prop} (hy : ∀ j, lo ≤ j → j < m + 1 → x = nI j → ixr x lo (m + 1) = some j → Q (nI 1) M) (hx : ixr x lo (m + 1) = none → Q (nI 0) M) : pX11_in M x a b Q := by
  subst ha hb
  unfold pX11_in
  rcases ixr_c x hm hl with ⟨e, h⟩ | ⟨j, j1, j2, e, ej⟩
  · have hk := hx e
    refine ⟨fun _ => hk, fun c1 => ⟨fun _ => hk, fun c2 => ?_⟩⟩
    rcases h with h | h
    · exact absurd h c1
    · exact absurd (suc_le hm h) c2
  · have hq := hy j j1 j2 e ej
    subst e
    refine ⟨fun c1 => ?_, fun _ => ⟨fun c2 => ?_, fun _ => hq⟩⟩
    · rw [ltI (by omega) (by omega)] at c1; omega
    · rw [ltI (by omega) (by omega)] at c2; omega
/-- from 0 to one less -/
theorem minN {M : Mem} {n : Nat} {b x : Int32} (hb : b = nI n - nI 1) (hn : n < 2147483648) {Q : Int32 → Mem → Prop} (hy : ∀ j, j < n → x = nI j → ixr x 0 n = some j → Q (nI 1) M) (hx : ixr x 0 n = none → Q (nI 0) M) : pX11_in M x 0 b Q := by
  cases n with
  | zero =>
    subst hb
    have e : ixr x 0 0 = none := by
      rcases ixr_c x (lo := 0) (n := 0) (by omega) (by omega) with ⟨e, -⟩ | ⟨j, -, j2, -⟩
      · exact e
      · omega
    have hk := hx e
    unfold pX11_in
    refine ⟨fun _ => hk, fun c1 => ⟨fun _ => hk, fun c2 => absurd ?_ c2⟩⟩
    show nO < x
    rw [Int32.lt_iff_toInt_lt] at c1 ⊢
    rw [nO_t]
    have : (0 : Int32).toInt = 0 := by decide
    omega
  | succ m =>
    refine minR (lo := 0) (m := m) rfl (by rw [hb, sbs]) hn (by omega) (fun j _ j2 e ej => hy j j2 e ej) hx
def dix (D : Dc) (x : Int32) : Option Nat := match ixr x 0 D.length with
  | none => none
  | some d => if dS D d = 3 then none else some d
theorem dix_c (D : Dc) (x : Int32) (hn : D.length < 2147483648) : (dix D x = none ∧ ∀ d, d < D.length → dS D d ≠ 3 → ¬ x = nI d) ∨ ∃ d, d < D.length ∧ dS D d ≠ 3 ∧ x = nI d ∧ dix D x = some d := by
  unfold dix
  rcases ixr_c x (lo := 0) hn (by omega) with ⟨e, h⟩ | ⟨j, -, j2, e, ej⟩
  · exact Or.inl ⟨by rw [e], fun d hd _ => ixr_n hn e hd⟩
  · rw [ej]
    by_cases h3 : dS D j = 3
    · refine Or.inl ⟨if_pos h3, fun d hd hd3 q => ?_⟩
      rw [e, eqI (by omega) (by omega)] at q
      subst q
      exact hd3 h3
    · exact Or.inr ⟨j, j2, h3, e, if_neg h3⟩
theorem cneedD {S : St} {M : Mem} (h : CI S M) (hS : SW S) {x : Int32} {Q : Mem → Prop} {K : String → Mem → Prop} (hy : ∀ d, d < (tD S).length → dS (tD S) d ≠ 3 → x = nI d → dix (tD S) x = some d → Q M) (hx : dix (tD S) x = none → K EN (up1 M 1103 0 0 (M.1 1103 0 0 + 1))) : pX10_needDocument M x Q K := by
  have hl := hS.2.2.1.1
  unfold pX10_needDocument pX10_refuseMissing
  rcases dix_c (tD S) x (by omega) with ⟨e, h1⟩ | ⟨d, d1, d2, d3, d4⟩
  · have hk := hx e
    refine cholds h.2.2.2.2.2.1 hS.2.2.1 x (fun d hd h3 q => absurd q (h1 d hd h3)) (fun _ => ?_)
    exact s0a (fun M1 e1 => by subst e1; exact hk)
  · have hq := hy d d1 d2 d3 d4
    refine cholds h.2.2.2.2.2.1 hS.2.2.1 x (fun _ _ _ _ => ?_) (fun q => absurd d3 (q d d1 d2))
    exact s1a hq
theorem misDoc {S : St} {M : Mem} (h : MI S M) (hS : SW S) {x : Int32} {Q : Int32 → Mem → Prop} (hy : ∀ d, d < (tD S).length → dS (tD S) d ≠ 3 → x = nI d → dix (tD S) x = some d → Q (nI 1) M) (hx : dix (tD S) x = none → Q (nI 0) M) : pX11_isDocument M x Q := by
  have hl := hS.2.2.1.1
  have hD := h.2.2.2.2.2.1
  unfold pX11_isDocument
  refine minN (n := (tD S).length) (by rw [hD.n]; rfl) (by omega) (fun j j2 e ej => ?_) (fun e => ?_)
  · refine s1b ?_
    subst e
    refine misKept hD hS.2.2.1 j2 ?_
    by_cases h3 : dS (tD S) j = 3
    · rw [if_pos h3]
      exact s0b (hx (by unfold dix; rw [ej]; exact if_pos h3))
    · rw [if_neg h3]
      exact s1b (hy j j2 h3 rfl (by unfold dix; rw [ej]; exact if_neg h3))
  · exact s0b (hx (by unfold dix; rw [e]))
theorem cneedW {S : St} {M : Mem} (h : CI S M) (hS : SW S) {x : Int32} {Q : Mem → Prop} {K : String → Mem → Prop} (hy : ∀ w, w < (tW S).length → x = nI w → ixr x 0 (tW S).length = some w → Q M) (hx : ixr x 0 (tW S).length = none → K EN (up1 M 1103 0 0 (M.1 1103 0 0 + 1))) : pX10_needWord M x Q K := by
  have hl := hS.2.2.2.1.1
  have hk : M.1 1001 0 0 = nI (tW S).length := h.2.2.2.2.2.2.1.1
  unfold pX10_needWord bX10_needWord_15 pX10_refuseMissing
  rcases ixr_c x (lo := 0) (n := (tW S).length) (by omega) (by omega) with ⟨e, h1⟩ | ⟨j, -, j2, e, ej⟩
  · have hk2 := hx e
    refine ⟨fun _ M1 e1 => by subst e1; exact hk2, fun c1 => ⟨fun c2 => ?_, fun _ M1 e1 => by subst e1; exact hk2⟩⟩
    rcases h1 with h1 | h1
    · exact absurd h1 c1
    · rw [hk] at c2; exact absurd c2 (le_not_lt h1)
  · have hq := hy j j2 e ej
    subst e
    refine ⟨fun c1 => absurd c1 (lt0 j (by omega)), fun _ => ⟨fun _ => hq, fun c2 => ?_⟩⟩
    rw [hk, ltI (by omega) (by omega)] at c2; exact absurd j2 c2
theorem misWord {S : St} {M : Mem} (h : MI S M) (hS : SW S) {x : Int32} {Q : Int32 → Mem → Prop} (hy : ∀ w, w < (tW S).length → x = nI w → ixr x 0 (tW S).length = some w → Q (nI 1) M) (hx : ixr x 0 (tW S).length = none → Q (nI 0) M) : pX11_isWord M x Q := by
  have hl := hS.2.2.2.1.1
  unfold pX11_isWord
  refine minN (n := (tW S).length) (by rw [h.2.2.2.2.2.2.1.1]; rfl) (by omega) (fun j j2 e ej => ⟨Or.inr rfl, hy j j2 e ej⟩) (fun e => ⟨Or.inl rfl, hx e⟩)
