/-! PURE: the reference stands by its question, item by item -/
def wS (o : Option Nat) (L : Sc) (y : Nat) (m : Bool) : Sc := match o with
  | none => L
  | some w => wntL L w y m
def wU (o : Option Nat) (u m : Bool) : Bool := match o with
  | none => u || m
  | some _ => u
theorem it_c {z : Qc × Option Nat} {o : Option Nat} {y ka om : Nat} (h2 : ka ≠ 2) (h3 : ka ≤ 3) (hy : ka = 3 → y = 1) : qS (itK z (o, y, ka, om)).1 = wS o (qS z.1) y (!(ka == 0)) ∧ qU (itK z (o, y, ka, om)).1 = wU o (qU z.1) (!(ka == 0)) ∧ qX (itK z (o, y, ka, om)).1 = qX z.1 ∧ qF (itK z (o, y, ka, om)).1 = (if ka = 3 then lF (nF z.2 (qF z.1) om) o else qF z.1) ∧ (itK z (o, y, ka, om)).2 = if ka = 3 then some om else z.2 := by
  have hka : ka = 0 ∨ ka = 1 ∨ ka = 3 := by omega
  unfold itK
  dsimp only
  rw [if_neg h2]
  rcases hka with rfl | rfl | rfl
  · cases o <;> exact ⟨rfl, rfl, rfl, rfl, rfl⟩
  · cases o <;> exact ⟨rfl, rfl, rfl, rfl, rfl⟩
  · have := hy rfl
    subst this
    rw [if_pos rfl, if_pos rfl, if_pos rfl]
    dsimp only
    unfold nF lF
    by_cases el : z.2 = some om
    · rw [if_pos el, if_pos el]
      cases o <;> exact ⟨rfl, rfl, rfl, rfl, rfl⟩
    · rw [if_neg el, if_neg el]
      cases o <;> exact ⟨rfl, rfl, rfl, rfl, rfl⟩
def k1224 (c _ : Nat) : Bool := decide (c ≠ 1224)
theorem s113 {A : List It} {p r : Nat} {M0 : Mem} {Q : Mem → Prop} {L : Mem × Int32 × Int32 → Prop} {i : Nat} (hA : A.length ≤ 24) (hi : i < A.length) {o : Option Nat} {y ka om : Nat} (ha : A.getD i i0 = (o, y, ka, om)) (hom : om ≤ 6) (hka : ka ≤ 3) {M : Mem} {S : Sc} {u : Bool} {X : List Nat} {F : List (List (Option Nat))} {l : Option Nat} (ho : ∀ w, o = some w → w < 2147483648) (hl : ∀ q, l = some q → q ≤ 6 ∧ 1 ≤ F.length) (g1 : ∀ m, PA (wS o S y m) M) (g2 : PM S i M) (g3 : PU u M) (g4 : PX X M) (g5 : PF F M) (g6 : M.1 1222 0 0 = nI p) (g7 : M.1 1223 0 0 = nI r) (g8 : MQi A p r M) (g9 : Kp pSd M0 M) (h6 : ka = 3 → (nF l F om).length ≤ 6) (h4 : ka = 3 → ((nF l F om).getD ((nF l F om).length - 1) []).length < 4) (hn3 : ka ≠ 3 → ∀ M', SJ A p r M0 (wS o S y (!(ka == 0))) (i + 1) (wU o u (!(ka == 0))) X F M' → L (M', oI l, nI (i + 1))) (h3 : ka = 3 → ∀ M', SJ A p r M0 (wS o S y (!(ka == 0))) (i + 1) (wU o u (!(ka == 0))) X (lF (nF l F om) o) M' → L (M', nI om, nI (i + 1))) : bX11_stands_113 Q L M (oI l) (nI i) i := by
  obtain ⟨m1, m2, m3, m4⟩ := g8.2.2.2 i hi
  rw [ha] at m1 m3
  have m1 : M.1 6236 i 0 = oI o := m1
  have m3 : M.1 6236 i 2 = nI ka := m3
  have l0 : nI ka = (0 : Int32) ↔ ka = 0 := eqI (b := 0) (by omega) (by omega)
  have lO : oI o = (-1 : Int32) ↔ o = none := oI_O ho
  unfold bX11_stands_113
  simp only [tn0, tn2]
  rw [m1, m3, l0, lO, show M.1 1224 0 0 = nI (b1 u) from g3, (b1_or u).1, (b1_or u).2]
  refine ⟨by omega, fun q => ?_, fun q => ?_⟩
  · have hm : (!(ka == 0)) = true := by rw [beq_eq_false_iff_ne.mpr q]; rfl
    rw [hm] at hn3 h3
    refine ⟨fun q2 => ⟨bzb u, fun M21 e21 => ?_⟩, fun q2 => ⟨bzb true, fun M23 e23 => ?_⟩⟩
    · cases o with
      | none => exact absurd rfl q2
      | some w =>
        have k : Kp k1224 M M21 := by rw [e21]; exact Kp.rf.u1 rfl
        have g3' : PU u M21 := by rw [e21]; exact up1_eq
        have f1 : M21.1 6236 i 0 = oI (some w) := (k.g rfl 0).trans m1
        unfold bX11_stands_143
        simp only [tn0]
        rw [f1, lO]
        refine ⟨by omega, fun z => absurd z q2, fun _ => ?_⟩
        intro M25 e25
        have f2 : M25.1 6236 i 0 = nI w := by rw [e25, up1_ne (by simp)]; exact f1
        rw [f2]
        revert M25
        have hh := PM_add (w := w) (y := y) (g2.kp k rfl rfl) (by omega) (R := fun M27 => bX11_stands_169 Q L M27 (oI l) (nI i) i) (fun M' k2 hM => s169 hA hi ha hom hka hl ⟨((g1 true).kp k rfl rfl rfl).kp k2 rfl rfl rfl, hM, (k2.g rfl 0).trans g3', (g4.kp k rfl rfl).kp k2 rfl rfl, (g5.kp k rfl rfl (fun _ => rfl)).kp k2 rfl rfl (fun _ => rfl), (k2.g rfl 0).trans ((k.g rfl 0).trans g6), (k2.g rfl 0).trans ((k.g rfl 0).trans g7), (g8.kp k rfl rfl rfl (fun _ => rfl)).kp k2 rfl rfl rfl (fun _ => rfl), (g9.tr (k.wk (pSd_w (fun c _ q => by unfold k1224; simp; omega)))).tr (k2.wk (pSd_w (fun c _ q => by simp; omega)))⟩ h6 h4 hn3 h3)
        exact fun M25 e25 _ => hh M25 e25
    · subst q2
      have k : Kp k1224 M M23 := by rw [e23]; exact Kp.rf.u1 rfl
      have g3' : PU (u || true) M23 := by rw [e23, Bool.or_true]; exact up1_eq
      have f1 : M23.1 6236 i 0 = oI none := (k.g rfl 0).trans m1
      unfold bX11_stands_143
      simp only [tn0]
      rw [f1, lO]
      refine ⟨by omega, fun _ => ?_, fun z => absurd rfl z⟩
      exact s169 hA hi ha hom hka hl ⟨(g1 true).kp k rfl rfl rfl, (g2.kp k rfl rfl).mono, g3', g4.kp k rfl rfl, g5.kp k rfl rfl (fun _ => rfl), (k.g rfl 0).trans g6, (k.g rfl 0).trans g7, g8.kp k rfl rfl rfl (fun _ => rfl), g9.tr (k.wk (pSd_w (fun c _ q => by unfold k1224; simp; omega)))⟩ h6 h4 hn3 h3
  · have hm : (!(ka == 0)) = false := by rw [q]; rfl
    rw [hm] at hn3
    refine s238 (hn3 (by omega) M ⟨g1 false, ?_, ?_, g4, g5, g6, g7, g8, g9⟩)
    · cases o with
      | none => exact g2.mono
      | some w => exact PM_no g2
    · cases o with
      | none => show PU (u || false) M; rw [Bool.or_false]; exact g3
      | some w => exact g3
theorem s45 {A : List It} {p r : Nat} {M0 : Mem} {Q : Mem → Prop} {L : Mem × Int32 × Int32 → Prop} {i : Nat} (hA : A.length ≤ 24) (hi : i < A.length) {o : Option Nat} {y ka om : Nat} (ha : A.getD i i0 = (o, y, ka, om)) (hom : om ≤ 6) (hka : ka ≤ 3) {M : Mem} {z : Qc × Option Nat} {W : List Wd} (h : SJ A p r M0 (qS z.1) i (qU z.1) (qX z.1) (qF z.1) M) (hV : FV W i z) (hok : aOK W (o, y, ka, om)) (hkn : W.length ≤ 255) (hx : xN (itK z (o, y, ka, om)).1 ≤ 6) (hf : fN (itK z (o, y, ka, om)).1 ≤ 6) (h4 : ∀ j, fL (itK z (o, y, ka, om)).1 j ≤ 4) (hL : ∀ M', SJ A p r M0 (qS (itK z (o, y, ka, om)).1) (i + 1) (qU (itK z (o, y, ka, om)).1) (qX (itK z (o, y, ka, om)).1) (qF (itK z (o, y, ka, om)).1) M' → L (M', oI (itK z (o, y, ka, om)).2, nI (i + 1))) : bX11_stands_45 Q L M (oI z.2) (nI i) := by
  obtain ⟨g1, g2, g3, g4, g5, g6, g7, g8, g9⟩ := id h
  obtain ⟨b1', ⟨b2, b3⟩, b4, b5⟩ := hok
  have b1' : ∀ w, o = some w → w < W.length := b1'
  have b2 : y ≤ 9 := b2
  have b3 : ka = 3 → y = 1 := b3
  obtain ⟨v1, v2⟩ := hV
  obtain ⟨m1, m2, m3, m4⟩ := g8.2.2.2 i hi
  rw [ha] at m1 m2 m3
  have m1 : M.1 6236 i 0 = oI o := m1
  have m2 : M.1 6236 i 1 = nI y := m2
  have m3 : M.1 6236 i 2 = nI ka := m3
  have l2 : nI ka = (2 : Int32) ↔ ka = 2 := eqI (b := 2) (by omega) (by omega)
  have ho : ∀ w, o = some w → w < 2147483648 := fun w hw => by have := b1' w hw; omega
  have lO : oI o = (-1 : Int32) ↔ o = none := oI_O ho
  unfold bX11_stands_45
  rw [g8.1, leI (by omega) (by omega)]
  simp only [tn0, tn1, tn2, tnI (show i < 2147483648 by omega)]
  rw [m1, m2, m3, l2, lO]
  refine ⟨fun q => absurd q (by omega), fun _ => ⟨(vpI (by omega)).mpr (by omega), fun q => ?_, fun q => ?_⟩⟩
  · obtain ⟨c1, c2, c3, c4, c5⟩ := it_c (z := z) (o := o) (om := om) q hka b3
    rw [c1, c2, c3, c4, c5] at hL
    have hN6 : ka = 3 → (nF z.2 (qF z.1) om).length ≤ 6 := fun e => by
      unfold fN at hf
      rw [c4, if_pos e] at hf
      unfold lF at hf
      rw [List.length_set] at hf
      exact hf
    have hne : 0 < (nF z.2 (qF z.1) om).length := by
      unfold nF
      by_cases e : z.2 = some om
      · rw [if_pos e]; have := (v2 _ e).2; exact this
      · rw [if_neg e, List.length_append]; show 0 < _ + 1; omega
    have hN4 : ka = 3 → ((nF z.2 (qF z.1) om).getD ((nF z.2 (qF z.1) om).length - 1) []).length < 4 := fun e => by
      have := h4 ((nF z.2 (qF z.1) om).length - 1)
      unfold fL fP at this
      rw [c4, if_pos e] at this
      unfold lF at this
      rw [gd_set (by omega), if_pos rfl, List.length_append] at this
      have : _ + 1 ≤ 4 := this
      omega
    have hn3 : ka ≠ 3 → ∀ M', SJ A p r M0 (wS o (qS z.1) y (!(ka == 0))) (i + 1) (wU o (qU z.1) (!(ka == 0))) (qX z.1) (qF z.1) M' → L (M', oI z.2, nI (i + 1)) := fun e => by
      rw [if_neg e, if_neg e] at hL; exact hL
    have hn4 : ka = 3 → ∀ M', SJ A p r M0 (wS o (qS z.1) y (!(ka == 0))) (i + 1) (wU o (qU z.1) (!(ka == 0))) (qX z.1) (lF (nF z.2 (qF z.1) om) o) M' → L (M', nI om, nI (i + 1)) := fun e => by
      rw [if_pos e, if_pos e] at hL; exact hL
    have hl : ∀ q, z.2 = some q → q ≤ 6 ∧ 1 ≤ (qF z.1).length := v2
    refine ⟨fun q2 => ?_, fun q2 => ?_⟩
    · subst q2
      exact s113 hA hi ha hom hka ho hl (fun _ => g1) g2 g3 g4 g5 g6 g7 g8 g9 hN6 hN4 hn3 hn4
    · cases o with
      | none => exact absurd rfl q2
      | some w =>
        have hw := b1' w rfl
        refine mscores g1 (by have := v1.1; unfold sN at this; omega) (by omega) (fun k hk => by have := (v1.2.1 k hk).1; unfold sW at this; omega) (fun M' k hP => ?_)
        exact s113 hA hi ha hom hka ho hl hP (g2.kp k rfl rfl) ((k.g rfl 0).trans g3) (g4.kp k rfl rfl) (g5.kp k rfl rfl (fun _ => rfl)) ((k.g rfl 0).trans g6) ((k.g rfl 0).trans g7) (g8.kp k rfl rfl rfl (fun _ => rfl)) (g9.tr (k.wk (pSd_w (fun c _ q => by unfold kSco; simp; omega)))) hN6 hN4 hn3 hn4
  · subst q
    refine ⟨fun q2 => ?_, fun q2 => ?_⟩
    · subst q2
      exact s238 (hL M ⟨g1, g2.mono, g3, g4, g5, g6, g7, g8, g9⟩)
    · cases o with
      | none => exact absurd rfl q2
      | some w =>
        have hx : (qX z.1 ++ [w]).length ≤ 6 := hx
        rw [List.length_append] at hx
        have hx : (qX z.1).length + 1 ≤ 6 := hx
        have hh := PX_add (w := w) g4 (by omega) (R := fun M17 => bX11_stands_238 Q L M17 (oI z.2) (nI i)) (fun M' k hX => s238 (hL M' ⟨g1.kp k rfl rfl rfl, (g2.kp k rfl rfl).mono, (k.g rfl 0).trans g3, hX, g5.kp k rfl rfl (fun _ => rfl), (k.g rfl 0).trans g6, (k.g rfl 0).trans g7, g8.kp k rfl rfl rfl (fun _ => rfl), g9.tr (k.wk (pSd_w (fun c _ q => by simp; omega)))⟩))
        intro M15 e15
        have f2 : M15.1 6236 i 0 = nI w := by rw [e15, up1_ne (by simp)]; exact m1
        rw [f2]
        exact hh M15 e15
theorem mstands {A : List It} {p r : Nat} {W : List Wd} {M : Mem} (hm : MQi A p r M) (hV : AV W A) (hA : A.length ≤ 24) (hq : QW (kPR (fA A).1 p r) W.length) (hkn : W.length ≤ 255) {Q : Mem → Prop} (hQ : ∀ M', Kp pSd M M' → MK (kPR (fA A).1 p r) M' → Q M') : pX11_stands M Q := by
  have hx6 : xN (fA A).1 ≤ 6 := hq.2.2.1
  have hf6 : fN (fA A).1 ≤ 6 := hq.2.2.2.1
  have h4 : ∀ j, fL (fA A).1 j ≤ 4 := fun j => by
    by_cases e : j < fN (fA A).1
    · exact (hq.2.2.2.2.2.2.2.1 j e).2
    · unfold fL fP
      rw [gd_out (show (qF (fA A).1).length ≤ j by unfold fN at e; omega)]
      exact Nat.zero_le _
  unfold pX11_stands
  intro M1 e1 M2 e2 M3 e3 M4 e4 M5 e5 M6 e6 M7 e7
  have f5 : M4.1 1234 0 0 = nI p := by rw [e4, up1_ne (by simp), e3, up1_ne (by simp), e2, up1_ne (by simp), e1, up1_ne (by simp)]; exact hm.2.1
  rw [f5] at e5
  have f6 : M5.1 1235 0 0 = nI r := by rw [e5, up1_ne (by simp), e4, up1_ne (by simp), e3, up1_ne (by simp), e2, up1_ne (by simp), e1, up1_ne (by simp)]; exact hm.2.2.1
  rw [f6] at e6
  subst e7 e6 e5 e4 e3 e2 e1
  have kk : Kp pSd M (up1 (up1 (up1 (up1 (up1 (up1 (up1 M 1218 0 0 0) 1219 0 0 0) 1220 0 0 0) 1221 0 0 0) 1222 0 0 (nI p)) 1223 0 0 (nI r)) 1224 0 0 0) := (((((((Kp.rf.u1 rfl).u1 rfl).u1 rfl).u1 rfl).u1 rfl).u1 rfl).u1 rfl)
  refine lp_up (fun i s => s.2 = (oI (fT A i).2, nI i) ∧ SJ A p r M (qS (fT A i).1) i (qU (fT A i).1) (qX (fT A i).1) (qF (fT A i).1) s.1) (Nat.zero_le A.length) ⟨rfl, ⟨?_, fun k hk => absurd hk (Nat.not_lt_zero _)⟩, ⟨[], Nat.le_refl _, ?_, fun k hk => absurd hk (Nat.not_lt_zero _), fun w => ⟨fun q => absurd q (by simp), fun ⟨i, q, _⟩ => absurd q (Nat.not_lt_zero _)⟩⟩, ?_, ⟨?_, fun k hk => absurd hk (Nat.not_lt_zero _)⟩, ⟨?_, fun k hk => absurd hk (Nat.not_lt_zero _), fun j k hj => absurd hj (Nat.not_lt_zero _)⟩, ?_, ?_, hm.kp kk rfl rfl rfl (fun _ => rfl), kk⟩ ?_ ?_
  · rw [up1_ne (by simp), up1_ne (by simp), up1_ne (by simp), up1_ne (by simp), up1_ne (by simp), up1_ne (by simp), up1_eq]; rfl
  · rw [up1_ne (by simp), up1_ne (by simp), up1_ne (by simp), up1_ne (by simp), up1_ne (by simp), up1_eq]; rfl
  · exact up1_eq
  · rw [up1_ne (by simp), up1_ne (by simp), up1_ne (by simp), up1_ne (by simp), up1_eq]; rfl
  · rw [up1_ne (by simp), up1_ne (by simp), up1_ne (by simp), up1_eq]; rfl
  · rw [up1_ne (by simp), up1_ne (by simp), up1_eq]
  · rw [up1_ne (by simp), up1_eq]
  · rintro i ⟨m, y⟩ L - hi ⟨ey, hJ⟩ hL
    dsimp only at ey hJ
    subst ey
    dsimp only
    obtain ⟨⟨o, y, ka, om⟩, ha⟩ : ∃ a, A.getD i i0 = a := ⟨_, rfl⟩
    have hok := aOK_of hV hi
    rw [ha] at hok
    have es := fT_s hi
    rw [ha] at es
    have hmo := mo_t hV (i := i + 1) (j := A.length) (by omega) (Nat.le_refl _)
    rw [fT_n, es] at hmo
    refine s45 hA hi ha hok.2.2.2 hok.2.2.1 hJ (FV_t hV (by omega)) hok hkn (Nat.le_trans hmo.1 hx6) (Nat.le_trans hmo.2.1 hf6) (fun j => Nat.le_trans (hmo.2.2 j) (h4 j)) (fun M' hJ' => hL _ ?_)
    rw [es]
    exact ⟨rfl, hJ'⟩
  · rintro ⟨m, y⟩ L ⟨ey, hJ⟩
    dsimp only at ey hJ
    subst ey
    rw [fT_n] at hJ
    obtain ⟨g1, g2, g3, g4, g5, g6, g7, g8, g9⟩ := hJ
    unfold bX11_stands_45
    dsimp only
    rw [g8.1]
    refine ⟨fun _ => hQ m g9 ?_, fun q => absurd (Int32.le_refl _) q⟩
    obtain ⟨ml, n1, n2⟩ := g2
    exact MK_of (K := kPR (fA A).1 p r) g6 g7 g1 ⟨ml, by omega, n2⟩ g3 g4 g5
