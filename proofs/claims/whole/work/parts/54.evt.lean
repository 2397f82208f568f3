/-! PURE: to answer early, a turn -/
/-- the lists, the best, the turns, the seeks, the skips, the looks -/
abbrev Ge : Type := Cs × (Nat × (Nat → Nat × Nat)) × Nat × Nat × Nat × Nat
def flo (m : Nat) (b : Nat × (Nat → Nat × Nat)) : Nat := if m ≤ b.1 then (b.2 (m - 1)).2 else 0
def mnr (K : Qc) : Nat := (sN K - 1) * 50 * qR K
def pvS (D : Dc) (K : Qc) (a : Nat → Nat) (n : Nat) : Nat := mnr K + smF (fun k => bnd D K (a k)) n
def pvt (D : Dc) (K : Qc) (t : Nat) (a : Nat → Nat) (fl : Nat) : Nat := ffn (fun y => decide (fl < pvS D K a (y + 1))) 0 t
def her (z : Cs) (t : Nat) (a : Nat → Nat) (x : Nat) : Nat := ffn (fun k => decide (x < cP (z (a k)))) 0 t
def bds (D : Dc) (K : Qc) (so : Nat) (z : Cs) (a : Nat → Nat) (x h : Nat) : Nat := mnr K + smF (fun k => bdR D (sW K (a k)) so (wei D K (a k)) x (z (a k))) h
def nxF (D : Dc) (K : Qc) (so : Nat) (z : Cs) (t : Nat) (a : Nat → Nat) (x h : Nat) : Nat → Nat
  | 0 => if h < t then cP (z (a h)) else 65
  | k + 1 => min (nxF D K so z t a x h k) (bhR D (sW K (a k)) so x 65 (z (a k)))
def Fsk (D : Dc) (K : Qc) (so x : Nat) (j : Nat) (c : Cu) : Cu := sekC D (sW K j) so x c
def Fdp (D : Dc) (K : Qc) (so x : Nat) (j : Nat) (c : Cu) : Cu := dipC D (sW K j) so x c
def Fdx (D : Dc) (K : Qc) (so x : Nat) (j : Nat) (c : Cu) : Cu := if cP c = x then dipC D (sW K j) so (x + 1) c else c
def keep (D : Dc) (K : Qc) (m : Nat) (b : Nat × (Nat → Nat × Nat)) (x : Nat) : Nat × (Nat → Nat × Nat) := if why D K none x = 0 then (if b.1 < m then (b.1 + 1, insA b.2 (x, total D K none x) b.1) else if (b.2 (m - 1)).2 < total D K none x then (m, insA b.2 (x, total D K none x) (m - 1)) else b) else b
def flg (z : Cs) (a : Nat → Nat) (x h : Nat) : Bool := (List.range h).any (fun k => cP (z (a k)) == x)
def trS (D : Dc) (K : Qc) (so m : Nat) (g : Ge) (a : Nat → Nat) (x h : Nat) : Ge := (mp (Fdx D K so x) (mp (Fsk D K so x) g.1 a h) a h, (if flg (mp (Fsk D K so x) g.1 a h) a x h = true then keep D K m g.2.1 x else g.2.1), g.2.2.1, g.2.2.2.1 + h, g.2.2.2.2.1, g.2.2.2.2.2 + b1 (flg (mp (Fsk D K so x) g.1 a h) a x h))
def tr1 (D : Dc) (K : Qc) (so : Nat) (g : Ge) (a : Nat → Nat) (x : Nat) : Ge := (updZ g.1 (a 0) (sekC D (sW K (a 0)) so x (g.1 (a 0))), g.2.1, g.2.2.1, g.2.2.2.1 + 1, g.2.2.2.2.1, g.2.2.2.2.2)
def trK (D : Dc) (K : Qc) (so : Nat) (g : Ge) (t : Nat) (a : Nat → Nat) (x h : Nat) : Ge := (mp (Fdp D K so (nxF D K so g.1 t a x h h)) g.1 a h, g.2.1, g.2.2.1, g.2.2.2.1, g.2.2.2.2.1 + 1, g.2.2.2.2.2)
def trX (D : Dc) (K : Qc) (so m : Nat) (g : Ge) (t : Nat) (a : Nat → Nat) (x h : Nat) : Ge := if flo m g.2.1 < bds D K so g.1 a x h then (if x ≤ cP (g.1 (a 0)) then trS D K so m g a x h else tr1 D K so g a x) else trK D K so g t a x h
def lnT (D : Dc) (K : Qc) (so : Nat) (g : Ge) : Nat := (ln D K so g.1 (sN K)).1
def lnA (D : Dc) (K : Qc) (so : Nat) (g : Ge) : Nat → Nat := (ln D K so g.1 (sN K)).2
def pvG (D : Dc) (K : Qc) (so m : Nat) (g : Ge) : Nat := pvt D K (lnT D K so g) (lnA D K so g) (flo m g.2.1)
def pvX (D : Dc) (K : Qc) (so m : Nat) (g : Ge) : Nat := cP (g.1 (lnA D K so g (pvG D K so m g)))
def heG (D : Dc) (K : Qc) (so m : Nat) (g : Ge) : Nat := her g.1 (lnT D K so g) (lnA D K so g) (pvX D K so m g)
def trn (D : Dc) (K : Qc) (so m : Nat) (g : Ge) : Ge := trX D K so m g (lnT D K so g) (lnA D K so g) (pvX D K so m g) (heG D K so m g)
def gI (g : Ge) : Ge := (g.1, g.2.1, g.2.2.1 + 1, g.2.2.2.1, g.2.2.2.2.1, g.2.2.2.2.2)
def er (D : Dc) (K : Qc) (so m : Nat) : Nat → Ge → Ge
  | 0, g => g
  | f + 1, g => if pvG D K so m (gI g) = lnT D K so (gI g) then gI g else er D K so m f (trn D K so m (gI g))
def g0 (D : Dc) (K : Qc) (so : Nat) : Ge := (fun i => c0 D (sW K i) so, (0, fun _ => (0, 0)), 0, 0, 0, 0)
def erl (D : Dc) (K : Qc) (so m : Nat) : Ge := if sN K = 0 then g0 D K so else er D K so m 1600 (g0 D K so)
def muG (D : Dc) (K : Qc) (so : Nat) (z : Cs) : Nat := smF (fun i => muC D (sW K i) so (z i)) (sN K)
def GI (D : Dc) (K : Qc) (so m : Nat) (g : Ge) : Prop := (∀ i, i < sN K → IC D (sW K i) so (g.1 i)) ∧ g.2.1.1 ≤ m ∧ ∀ k, k < g.2.1.1 → (g.2.1.2 k).1 < D.length ∧ (g.2.1.2 k).2 ≤ 93612000
theorem smF_lt {f g : Nat → Nat} {n k : Nat} (h : ∀ j, j < n → f j ≤ g j) (hk : k < n) (hl : f k < g k) : smF f n < smF g n := by
  induction n with
  | zero => omega
  | succ n ih =>
    unfold smF
    have h1 := h n (by omega)
    by_cases e : k = n
    · subst e
      have : smF f k ≤ smF g k := by
        clear ih hl hk h1
        induction k with
        | zero => exact Nat.le_refl _
        | succ k ih2 =>
          unfold smF
          have := ih2 (fun j hj => h j (by omega))
          have := h k (by omega)
          omega
      omega
    · have := ih (fun j hj => h j (by omega)) (by omega)
      omega
theorem mu_mp {D : Dc} {K : Qc} {kn so : Nat} (hD : DW D kn) (hK : QW K kn) (h2 : 2 ≤ so) {F : Nat → Cu → Cu} {z : Cs} {a : Nat → Nat} {h : Nat} (h0 : 0 < h) (ha : a 0 < sN K) (hd : ∀ k, k < h → muC D (sW K (a k)) so (F (a k) (z (a k))) < muC D (sW K (a k)) so (z (a k))) : muG D K so (mp F z a h) < muG D K so z := by
  refine smF_lt (k := a 0) (fun j hj => ?_) ha ?_
  · by_cases e : ∃ k, k < h ∧ a k = j
    · obtain ⟨k, k1, k2⟩ := e
      subst k2
      show muC D _ so (mp F z a h (a k)) ≤ _
      rw [mp_in k1]; exact Nat.le_of_lt (hd k k1)
    · show muC D _ so (mp F z a h j) ≤ _
      rw [mp_out (fun k hk q => e ⟨k, hk, q⟩)]; exact Nat.le_refl _
  · show muC D _ so (mp F z a h (a 0)) < _
    rw [mp_in h0]; exact hd 0 h0
theorem mp_mp {D : Dc} {K : Qc} {kn so : Nat} (hD : DW D kn) (hK : QW K kn) (h2 : 2 ≤ so) {F H : Nat → Cu → Cu} {z : Cs} {a : Nat → Nat} {h : Nat} : mp H (mp F z a h) a h = mp (fun j c => H j (F j c)) z a h := by
  funext j
  by_cases e : ∃ k, k < h ∧ a k = j
  · obtain ⟨k, k1, k2⟩ := e
    subst k2
    rw [mp_in k1, mp_in k1, mp_in k1]
  · have e2 : ∀ k, k < h → a k ≠ j := fun k hk q => e ⟨k, hk, q⟩
    rw [mp_out e2, mp_out e2, mp_out e2]
theorem her_c {D : Dc} {K : Qc} {kn so : Nat} (hD : DW D kn) (hK : QW K kn) (h2 : 2 ≤ so) {z : Cs} {n t p : Nat} {a : Nat → Nat} (hl : LN D K so z n t a) (hp : p < t) : p < her z t a (cP (z (a p))) ∧ her z t a (cP (z (a p))) ≤ t ∧ (∀ k, k < her z t a (cP (z (a p))) → cP (z (a k)) ≤ cP (z (a p))) ∧ (her z t a (cP (z (a p))) < t → cP (z (a p)) < cP (z (a (her z t a (cP (z (a p))))))) := by
  obtain ⟨f1, f2, f3, f4⟩ := ffn_c (p := fun k => decide (cP (z (a p)) < cP (z (a k)))) (Nat.zero_le t)
  refine ⟨?_, f2, fun k hk => ?_, fun hlt => ?_⟩
  · by_cases q : p < her z t a (cP (z (a p)))
    · exact q
    · exfalso
      rcases f4 with f4 | f4
      · unfold her at q; omega
      · have f4 := of_decide_eq_true f4
        have q2 : her z t a (cP (z (a p))) ≤ p := by omega
        by_cases e : her z t a (cP (z (a p))) = p
        · unfold her at e; rw [e] at f4; omega
        · have := (hl.2.2 (her z t a (cP (z (a p)))) p (by omega) hp).2
          unfold her at this
          omega
  · have := of_decide_eq_false (f3 k (Nat.zero_le _) hk)
    omega
  · rcases f4 with f4 | f4
    · unfold her at hlt; omega
    · exact of_decide_eq_true f4
theorem nx_c {D : Dc} {K : Qc} {kn so : Nat} (hD : DW D kn) (hK : QW K kn) (h2 : 2 ≤ so) {z : Cs} {t x h p : Nat} {a : Nat → Nat} (hi : ∀ k, k < t → IC D (sW K (a k)) so (z (a k)) ∧ liv D K so z (a k)) (hh : h ≤ t) (hp : p < h) (hx : ∀ k, k < h → cP (z (a k)) ≤ x) (hpx : cP (z (a p)) = x) (hn : h < t → x < cP (z (a h))) : x < nxF D K so z t a x h h ∧ nxF D K so z t a x h h ≤ 64 := by
  have hbh : ∀ k, k < t → x < bhR D (sW K (a k)) so x 65 (z (a k)) := by
    intro k hk
    obtain ⟨r1, r2, r3⟩ := rch_c hD h2 x (hi k hk).1.1
    unfold bhR
    by_cases e : rch D (sW K (a k)) so x (z (a k)) < nB D (sW K (a k)) so
    · rw [if_pos e]; have := r3 e; omega
    · rw [if_neg e]
      have := (hi p (by omega)).1.2.2.1
      omega
  have hbp : bhR D (sW K (a p)) so x 65 (z (a p)) ≤ 64 := by
    obtain ⟨i1, i2⟩ := hi p (by omega)
    obtain ⟨r1, r2, r3⟩ := rch_c hD h2 x i1.1
    have hl := i1.2.1 i2
    have er : rch D (sW K (a p)) so x (z (a p)) = cB (z (a p)) := ffn_at (Nat.le_refl _) i1.1 (fun j j1 j2 => by omega) (Or.inr (decide_eq_true (by omega)))
    unfold bhR
    rw [er, if_pos i2]
    have := FL_le hD h2 i2
    omega
  have key : ∀ k, k ≤ h → x < nxF D K so z t a x h k ∧ (p < k → nxF D K so z t a x h k ≤ 64) := by
    intro k
    induction k with
    | zero =>
      intro _
      refine ⟨?_, fun q => by omega⟩
      show x < if h < t then cP (z (a h)) else 65
      by_cases e : h < t
      · rw [if_pos e]; exact hn e
      · rw [if_neg e]; have := (hi p (by omega)).1.2.2.1; omega
    | succ k ih =>
      intro hk
      have ih := ih (by omega)
      have g1 := hbh k (by omega)
      unfold nxF
      refine ⟨by omega, fun q => ?_⟩
      by_cases e : p = k
      · subst e; omega
      · have := ih.2 (by omega); omega
  exact ⟨(key h (Nat.le_refl _)).1, (key h (Nat.le_refl _)).2 hp⟩
theorem keep_c {D : Dc} {K : Qc} {kn so : Nat} (hD : DW D kn) (hK : QW K kn) (h2 : 2 ≤ so) {m : Nat} {b : Nat × (Nat → Nat × Nat)} {x : Nat} (hm : 1 ≤ m) (hb : b.1 ≤ m) (hk : ∀ k, k < b.1 → (b.2 k).1 < D.length ∧ (b.2 k).2 ≤ 93612000) (hx : x < D.length) : (keep D K m b x).1 ≤ m ∧ ∀ k, k < (keep D K m b x).1 → ((keep D K m b x).2 k).1 < D.length ∧ ((keep D K m b x).2 k).2 ≤ 93612000 := by
  unfold keep
  by_cases e : why D K none x = 0
  · rw [if_pos e]
    have hp : ∀ p : Nat × Nat, p = (x, total D K none x) → p.1 < D.length ∧ p.2 ≤ 93612000 := by rintro p rfl; exact ⟨hx, total_le none x hD hK⟩
    by_cases e1 : b.1 < m
    · rw [if_pos e1]
      exact ⟨e1, fun k hk2 => insA_P (P := fun p => p.1 < D.length ∧ p.2 ≤ 93612000) (hp _ rfl) hk hk2⟩
    · rw [if_neg e1]
      by_cases e2 : (b.2 (m - 1)).2 < total D K none x
      · rw [if_pos e2]
        exact ⟨Nat.le_refl _, fun k hk2 => insA_P (P := fun p => p.1 < D.length ∧ p.2 ≤ 93612000) (n := m - 1) (hp _ rfl) (fun j hj => hk j (by omega)) (by have hk2 : k < m := hk2; omega)⟩
      · rw [if_neg e2]; exact ⟨hb, hk⟩
  · rw [if_neg e]; exact ⟨hb, hk⟩
theorem flg_doc {D : Dc} {K : Qc} {kn so : Nat} (hD : DW D kn) (hK : QW K kn) (h2 : 2 ≤ so) {z : Cs} {t x h : Nat} {a : Nat → Nat} (hi : ∀ k, k < t → IC D (sW K (a k)) so (z (a k)) ∧ liv D K so z (a k)) (hh : h ≤ t) (hx : ∀ k, k < h → x ≤ cP (z (a k))) (hf : flg (mp (Fsk D K so x) z a h) a x h = true) : x < D.length ∧ dS D x ≠ 3 := by
  obtain ⟨k, k1, k2⟩ := anyR.mp hf
  rw [mp_in k1] at k2
  have k2 : cP (sekC D (sW K (a k)) so x (z (a k))) = x := eq_of_beq k2
  obtain ⟨i1, i2⟩ := hi k (by omega)
  have hb := sek_live hD h2 i1 i2 (hx k k1)
  have := ((i1.sek hD h2 (x := x)).2 (by omega)).2
  obtain ⟨j, j1, j2⟩ := this
  rw [k2] at j2
  rw [j2]
  exact ⟨pK_lt j1, (pK_cnt j1).2⟩
theorem GI.ln {D : Dc} {K : Qc} {kn so : Nat} (hD : DW D kn) (hK : QW K kn) (h2 : 2 ≤ so) {m : Nat} {g : Ge} (hg : GI D K so m g) : LN D K so g.1 (sN K) (lnT D K so g) (lnA D K so g) ∧ ∀ k, k < lnT D K so g → IC D (sW K (lnA D K so g k)) so (g.1 (lnA D K so g k)) ∧ liv D K so g.1 (lnA D K so g k) := by
  have := ln_c D K so g.1 (sN K)
  exact ⟨this, fun k hk => ⟨hg.1 _ (this.2.1 k hk).1, (this.2.1 k hk).2⟩⟩
theorem trn_c {D : Dc} {K : Qc} {kn so : Nat} (hD : DW D kn) (hK : QW K kn) (h2 : 2 ≤ so) {m : Nat} {g : Ge} (hm : 1 ≤ m) (hg : GI D K so m g) (hp : pvG D K so m g ≠ lnT D K so g) : GI D K so m (trn D K so m g) ∧ muG D K so (trn D K so m g).1 < muG D K so g.1 := by
  obtain ⟨hl, hi⟩ := hg.ln hD hK h2
  obtain ⟨p1, p2, p3, p4⟩ := ffn_c (p := fun y => decide (flo m g.2.1 < pvS D K (lnA D K so g) (y + 1))) (Nat.zero_le (lnT D K so g))
  have hpt : pvG D K so m g < lnT D K so g := by
    have : pvG D K so m g ≤ lnT D K so g := p2
    omega
  obtain ⟨q1, q2, q3, q4⟩ := her_c hD hK h2 hl hpt
  unfold trn
  have ex : cP (g.1 (lnA D K so g (pvG D K so m g))) = pvX D K so m g := rfl
  have eh : her g.1 (lnT D K so g) (lnA D K so g) (pvX D K so m g) = heG D K so m g := rfl
  rw [ex] at q1 q2 q3 q4
  rw [eh] at q1 q2 q3 q4
  generalize lnT D K so g = t at *
  generalize lnA D K so g = a at *
  generalize pvX D K so m g = x at *
  generalize heG D K so m g = h at *
  generalize pvG D K so m g = p at *
  have ha : ∀ k, k < t → a k < sN K := fun k hk => (hl.2.1 k hk).1
  have hxx : x ≤ 63 := by have := (hi p hpt).1.2.2.1; omega
  obtain ⟨g1, g2, g3⟩ := hg
  have icmp : ∀ (F : Nat → Cu → Cu) (z : Cs), (∀ i, i < sN K → IC D (sW K i) so (z i)) → (∀ i c, IC D (sW K i) so c → IC D (sW K i) so (F i c)) → ∀ i, i < sN K → IC D (sW K i) so (mp F z a h i) := fun F z hz hF i hi2 => by
    unfold mp
    by_cases e : (List.range h).any (fun k => a k == i) = true
    · rw [if_pos e]; exact hF i _ (hz i hi2)
    · rw [if_neg e]; exact hz i hi2
  unfold trX
  by_cases e1 : flo m g.2.1 < bds D K so g.1 a x h
  · rw [if_pos e1]
    by_cases e2 : x ≤ cP (g.1 (a 0))
    · rw [if_pos e2]
      have hx0 : ∀ k, k < h → cP (g.1 (a k)) = x := fun k hk => by
        have := q3 k hk
        by_cases e : k = 0
        · subst e; omega
        · have := (hl.2.2 0 k (by omega) (by omega)).2
          omega
      refine ⟨⟨?_, ?_⟩, ?_⟩
      · exact icmp _ _ (icmp _ _ g1 (fun i c hc => (hc.sek hD h2).1)) (fun i c hc => by
          unfold Fdx
          by_cases e : cP c = x
          · rw [if_pos e]; exact (hc.dip hD h2 _).1
          · rw [if_neg e]; exact hc)
      · show (if flg (mp (Fsk D K so x) g.1 a h) a x h = true then keep D K m g.2.1 x else g.2.1).1 ≤ m ∧ _
        by_cases ef : flg (mp (Fsk D K so x) g.1 a h) a x h = true
        · have := flg_doc hD hK h2 hi q2 (fun k hk => by rw [hx0 k hk]; exact Nat.le_refl _) ef
          have := keep_c hD hK h2 hm g2 g3 this.1
          unfold trS
          rw [if_pos ef]
          exact this
        · unfold trS
          rw [if_neg ef]
          exact ⟨g2, g3⟩
      · show muG D K so (mp (Fdx D K so x) (mp (Fsk D K so x) g.1 a h) a h) < _
        rw [mp_mp hD hK h2]
        refine mu_mp hD hK h2 (by omega) (ha 0 (by omega)) (fun k hk => ?_)
        obtain ⟨i1, i2⟩ := hi k (by omega)
        have i3 := hx0 k hk
        have s1 := sek_live hD h2 i1 i2 (x := x) (by omega)
        obtain ⟨s2, s3⟩ := i1.sek hD h2 (x := x)
        have i2 : cB (g.1 (a k)) < nB D (sW K (a k)) so := i2
        have s3 := (s3 (by omega)).1
        have e9 : muC D (sW K (a k)) so (g.1 (a k)) = 65 - x := by unfold muC; rw [if_neg (by omega), i3]
        have e8 : muC D (sW K (a k)) so (sekC D (sW K (a k)) so x (g.1 (a k))) = 65 - cP (sekC D (sW K (a k)) so x (g.1 (a k))) := by unfold muC; rw [if_neg (by omega)]
        show muC D (sW K (a k)) so (Fdx D K so x (a k) (sekC D (sW K (a k)) so x (g.1 (a k)))) < _
        unfold Fdx
        have s4 := s2.2.2.1
        by_cases e : cP (sekC D (sW K (a k)) so x (g.1 (a k))) = x
        · rw [if_pos e]
          have := mu_dip hD h2 s2 (by omega) (x := x + 1) (by omega)
          omega
        · rw [if_neg e]
          omega
    · rw [if_neg e2]
      obtain ⟨i1, i2⟩ := hi 0 (by omega)
      refine ⟨⟨fun i hi2 => ?_, g2, g3⟩, ?_⟩
      · show IC D (sW K i) so (updZ g.1 (a 0) (sekC D (sW K (a 0)) so x (g.1 (a 0))) i)
        unfold updZ
        by_cases e : i = a 0
        · rw [if_pos e, e]; exact (i1.sek hD h2).1
        · rw [if_neg e]; exact g1 i hi2
      · refine smF_lt (k := a 0) (fun j hj => ?_) (ha 0 (by omega)) ?_
        · show muC D (sW K j) so (updZ g.1 (a 0) (sekC D (sW K (a 0)) so x (g.1 (a 0))) j) ≤ muC D (sW K j) so (g.1 j)
          unfold updZ
          by_cases e : j = a 0
          · rw [if_pos e, e]; exact Nat.le_of_lt (mu_sek hD h2 i1 i2 (by omega))
          · rw [if_neg e]; exact Nat.le_refl _
        · show muC D (sW K (a 0)) so (updZ g.1 (a 0) (sekC D (sW K (a 0)) so x (g.1 (a 0))) (a 0)) < muC D (sW K (a 0)) so (g.1 (a 0))
          unfold updZ
          rw [if_pos rfl]; exact mu_sek hD h2 i1 i2 (by omega)
  · rw [if_neg e1]
    have hnx := nx_c hD hK h2 hi q2 q1 q3 ex q4
    refine ⟨⟨icmp _ _ g1 (fun i c hc => (hc.dip hD h2 _).1), g2, g3⟩, ?_⟩
    refine mu_mp hD hK h2 (by omega) (ha 0 (by omega)) (fun k hk => ?_)
    obtain ⟨i1, i2⟩ := hi k (by omega)
    have := q3 k hk
    exact mu_dip hD h2 i1 i2 (by omega)
theorem g0_c {D : Dc} {K : Qc} {kn so : Nat} (hD : DW D kn) (hK : QW K kn) (h2 : 2 ≤ so) {m : Nat} : GI D K so m (g0 D K so) ∧ muG D K so (g0 D K so).1 ≤ 1560 := by
  refine ⟨⟨fun i hi => IC.c0 hD h2, Nat.zero_le _, fun k hk => absurd hk (Nat.not_lt_zero _)⟩, ?_⟩
  have h1 := hK.1
  have : muG D K so (g0 D K so).1 ≤ sN K * 65 := smF_le fun i hi => by
    show muC D (sW K i) so (c0 D (sW K i) so) ≤ 65
    unfold muC
    split <;> omega
  omega
