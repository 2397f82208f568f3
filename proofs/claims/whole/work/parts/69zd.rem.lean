/-! PURE: operations: remove, repack -/
def remS (S : St) (d : Nat) : St := (tN S, tB S, tP S, chS (tD S) (gRm (tD S) d), tW S, tK S, tZ S, t0 S, t1 S)
def repS (S : St) (so : Nat) : St := (tN S, tB S, tP S, chS (tD S) (gPu (tD S)), tW S, tK S, so, t0 S, t1 S)
def oRemove (S : St) (x : Int32) : Rs := match dix (tD S) x with
  | none => rfs S 1
  | some d => if dS (tD S) d = 2 then rfs S 1 else (remS S d, 0, nI (goneN (tD S) + 1))
def oRepack (S : St) (x : Int32) : Rs := match ixr x 2 9 with
  | none => rfs S 2
  | some so => (repS S so, 0, nI (goneN (tD S)))
theorem SW_rem {S : St} (hS : SW S) (d : Nat) : SW (remS S d) := by
  obtain ⟨s1, s2, hD, hW, hK, s5, s6, s7⟩ := id hS
  exact ⟨s1, s2, ch_DW hD (gRm_b hD), hW, hK, s5, s6, fun q => s7 (by rw [← ch_len (tD S) (gRm (tD S) d)]; exact q)⟩
theorem SW_rep {S : St} (hS : SW S) {so : Nat} (h2 : 2 ≤ so) (h8 : so ≤ 8) : SW (repS S so) := by
  obtain ⟨s1, s2, hD, hW, hK, s5, s6, s7⟩ := id hS
  exact ⟨s1, s2, ch_DW hD (gPu_b hD), hW, hK, h2, h8, fun q => s7 (by rw [← ch_len (tD S) (gPu (tD S))]; exact q)⟩
def pRm (c _ : Nat) : Bool := decide (c ≠ 503 ∧ c ≠ 506)
theorem pRm_R (c i : Nat) (h : pRf c i = true) : pRm c i = true := by unfold pRf at h; unfold pRm; simp at h ⊢; omega
theorem pRm_K (c i : Nat) (h : pCK c i = true) : pRm c i = true := by unfold pCK at h; unfold pRm; simp at h ⊢; omega
theorem c_remove {S : St} {M : Mem} (h : CI S M) (hS : SW S) {Q : Int32 → Mem → Prop} {K : String → Mem → Prop} (x : Int32) (k : CE (oRemove S x) M Q K) : pX10_remove M x Q K := by
  obtain ⟨s1, s2, hD, hW, hK, s5, s6, s7⟩ := id hS
  obtain ⟨i1, i2, i3, i4, i5, hC, hw, hq, hz⟩ := id h
  have hkn := hD.2.1
  have hdn := hD.1
  unfold oRemove at k
  unfold pX10_remove
  refine cneedD h hS (fun d d1 d2 e ed => ?_) (fun ed => by rw [ed] at k; exact k.no1 Kp.rf h)
  rw [ed] at k
  dsimp only at k
  subst e
  have hs := hD.2.2 d d1
  refine cisGone hC hD (by omega) ?_
  by_cases e2 : dS (tD S) d = 2
  · rw [if_pos e2] at k ⊢
    refine s1b ?_
    unfold pX10_refuseMissing
    intro M1 e1
    subst e1
    exact k.no1 Kp.rf h
  · rw [if_neg e2] at k ⊢
    refine s0b ?_
    have hd1 : dS (tD S) d = 1 := by omega
    unfold bX10_remove_20 pX4_takeAway
    refine ⟨(vpI (by omega)).mpr (by omega), ?_⟩
    rw [tnI (by omega)]
    intro M2 e2' M3 e3
    have e6 : M2.1 506 0 0 = nI (goneN (tD S)) := by rw [e2', up1_ne (by simp)]; exact hC.gone
    rw [e6] at e3
    have e3' : M3 = up1 M2 506 0 0 (nI (goneN (tD S) + 1)) := by rw [e3]; exact congrArg (up1 M2 506 0 0) (adI _ 1)
    subst e3' e2'
    rw [up1_eq]
    have kk : Kp pRm M (up1 (up1 M 503 0 d 1) 506 0 0 (nI (goneN (tD S) + 1))) := (Kp.rf.u1 rfl).u1 rfl
    refine (k _ (kk.wk pRm_R) ⟨(kk.g rfl 0).trans i1, fun j hj => (kk.g rfl j).trans (i2 j hj), (kk.g rfl 0).trans i3, (kk.g rfl 0).trans i4, (kk.g rfl 0).trans i5, ⟨?_, ?_, ?_, fun e => ?_, fun e => ?_, fun e p => ?_, fun w e => ?_, fun w e => ?_, fun w => ?_, fun w j hj => ?_⟩, ⟨(kk.g rfl 0).trans hw.1, fun w hw' => (kk.g2 rfl w).trans (hw.2 w hw')⟩, hq.kp (kk.wk pRm_K), (kk.g rfl 0).trans hz⟩).1 rfl
    · show _ = nI (chS (tD S) (gRm (tD S) d)).length
      rw [ch_len, kk.g rfl]; exact hC.n
    · show _ = nI (keptN (chS (tD S) (gRm (tD S) d)))
      rw [keptN_R hd1, kk.g rfl]; exact hC.kept
    · show _ = nI (goneN (chS (tD S) (gRm (tD S) d)))
      rw [goneN_R d1 hd1, up1_eq]
    · show _ = nI (dL (chS (tD S) (gRm (tD S) d)) e)
      rw [ch_L, kk.g rfl]; exact hC.len e
    · show _ = nI (dS (chS (tD S) (gRm (tD S) d)) e - 1)
      rw [up1_ne (by simp), up1_if]
      by_cases q : e = d
      · rw [if_pos ⟨rfl, q⟩, q, ch_S d1]
        unfold gRm
        rw [if_pos rfl]; rfl
      · rw [if_neg (na2 q), hC.st]
        by_cases q2 : e < (tD S).length
        · rw [ch_S q2]
          unfold gRm
          rw [if_neg q]
        · rw [dS_out (by omega), dS_out (by rw [ch_len]; omega)]
    · show _ = nI (dT (chS (tD S) (gRm (tD S) d)) e p)
      rw [ch_T, kk.g rfl]; exact hC.tx e p
    · show _ = nI (cnt (chS (tD S) (gRm (tD S) d)) w e)
      rw [ch_cn, kk.g rfl]; exact hC.cn w e
    · show _ = nI (jmp (chS (tD S) (gRm (tD S) d)) w e)
      rw [ch_jm, kk.g rfl]; exact hC.jm w e
    · show _ = nI (pN (chS (tD S) (gRm (tD S) d)) w)
      have : pN (chS (tD S) (gRm (tD S) d)) w = pN (tD S) w := by unfold pN; rw [lst_R hd1]
      rw [this, kk.g rfl]; exact hC.po w
    · have e1 : pN (chS (tD S) (gRm (tD S) d)) w = pN (tD S) w := by unfold pN; rw [lst_R hd1]
      have e4 : pK (chS (tD S) (gRm (tD S) d)) w j = pK (tD S) w j := by unfold pK; rw [lst_R hd1]
      show _ = nI (pK (chS (tD S) (gRm (tD S) d)) w j)
      rw [e4, kk.g rfl]
      exact hC.li (by rw [← e1]; exact hj)
/-- purging -/
def pPg (c _ : Nat) : Bool := decide (¬ (c = 503 ∨ c = 505 ∨ c = 506 ∨ c = 511 ∨ c = 5510))
theorem lst_P2 {D : Dc} {kn : Nat} (hD : DW D kn) (w : Nat) : (lst D w).filter (fun d => decide (dS (chS D (gPu D)) d ≠ 3)) = lst (chS D (gPu D)) w := by
  rw [lst_P]
  refine List.filter_congr (fun e he => ?_)
  obtain ⟨he1, he2⟩ := lst_mem.mp he
  unfold inL at he2
  simp at he2
  unfold alv
  rw [ch_S he1]
  unfold gPu
  by_cases q : dS D e = 2
  · rw [if_pos q, q]; rfl
  · rw [if_neg q, decide_eq_true he2.1, decide_eq_true q]
theorem cpurge {D : Dc} {W : List Wd} {M : Mem} (hC : CD D M) (hD : DW D W.length) (hk : M.1 1001 0 0 = nI W.length) {Q : Int32 → Mem → Prop} (hQ : ∀ M', Kp pPg M M' → CD (chS D (gPu D)) M' → Q (nI (goneN D)) M') : pX4_purge M Q := by
  have hdn := hD.1
  have hkn := hD.2.1
  have hg : goneN D ≤ D.length := ctF_le _ _
  have hkp : keptN D ≤ D.length := ctF_le _ _
  have hP := keptN_P D
  have hE := ch_DW hD (gPu_b hD)
  have hel := ch_len D (gPu D)
  have hst1 : ∀ e, nI (dS (chS D (gPu D)) e - 1) = (if e < D.length ∧ dS D e = 2 then nI 2 else nI (dS D e - 1)) := fun e => by
    by_cases q2 : e < D.length
    · rw [ch_S q2]
      unfold gPu
      by_cases q : dS D e = 2
      · rw [if_pos q, if_pos ⟨q2, q⟩]
      · rw [if_neg q, if_neg (na2 q)]
    · rw [if_neg (na1 q2), dS_out (D := D) (by omega), dS_out (D := chS D (gPu D)) (by omega)]
  unfold pX4_purge
  intro v1 ev
  rw [hC.gone] at ev
  subst ev
  refine lp_up (fun n s => s.2 = (nI (goneN D), nI n) ∧ Kp pRm M s.1 ∧ s.1.1 506 = M.1 506 ∧ ∀ e, s.1.1 503 0 e = (if e < n ∧ dS D e = 2 then nI 2 else nI (dS D e - 1))) (Nat.zero_le D.length) ⟨rfl, Kp.rf, rfl, fun e => by rw [if_neg (by omega)]; exact hC.st e⟩ ?_ ?_
  · rintro n ⟨m, y⟩ L - hn ⟨ey, k1, k2, k3⟩ hL
    dsimp only at ey k1 k2 k3
    subst ey
    have hadd := adI n 1
    have hs := hD.2.2 n hn
    unfold bX4_purge_7
    dsimp only
    rw [k1.g rfl, hC.n]
    refine ⟨fun c => absurd c (by rw [leI (by omega) (by omega)]; omega), fun _ => ⟨(vpI (by omega)).mpr (by omega), ?_⟩⟩
    rw [tnI (by omega), k3 n, if_neg (by omega)]
    by_cases q : dS D n = 2
    · refine ⟨fun c => absurd (by rw [q]; rfl) c, fun _ => ?_⟩
      intro M7 e7
      subst e7
      unfold bX4_purge_32
      intro v8 e8
      refine hL _ ⟨?_, k1.u1 rfl, ?_, fun e => ?_⟩
      · rw [e8]; exact congrArg (fun z => (nI (goneN D), z)) hadd
      · rw [← k2]; funext i j; exact up1_ne (by simp)
      · dsimp only
        rw [up1_if]
        by_cases q2 : e = n
        · rw [if_pos ⟨rfl, q2⟩, if_pos ⟨by omega, by rw [q2]; exact q⟩]; rfl
        · rw [if_neg (na2 q2), k3 e]
          by_cases q3 : e < n ∧ dS D e = 2
          · rw [if_pos q3, if_pos ⟨by omega, q3.2⟩]
          · rw [if_neg q3, if_neg (show ¬ (e < n + 1 ∧ dS D e = 2) from fun z => q3 ⟨by omega, z.2⟩)]
    · refine ⟨fun _ => ?_, fun c => absurd ((eqI (b := 1) (by omega) (by omega)).mp c) (by omega)⟩
      unfold bX4_purge_32
      intro v8 e8
      refine hL _ ⟨?_, k1, k2, fun e => ?_⟩
      · rw [e8]; exact congrArg (fun z => (nI (goneN D), z)) hadd
      · dsimp only
        rw [k3 e]
        by_cases q3 : e < n ∧ dS D e = 2
        · rw [if_pos q3, if_pos ⟨by omega, q3.2⟩]
        · rw [if_neg q3, if_neg (show ¬ (e < n + 1 ∧ dS D e = 2) from fun z => by
            by_cases q4 : e = n
            · rw [q4] at z; exact q z.2
            · exact q3 ⟨by omega, z.2⟩)]
  · rintro ⟨m, y⟩ L ⟨ey, k1, k2, k3⟩
    dsimp only at ey k1 k2 k3
    subst ey
    unfold bX4_purge_7
    dsimp only
    rw [k1.g rfl, hC.n]
    refine ⟨fun _ => ?_, fun c => absurd (Int32.le_refl _) c⟩
    have e505 : m.1 505 0 0 = nI (keptN D) := (k1.g rfl 0).trans hC.kept
    intro M3 e3 M4 e4
    rw [e505] at e3
    have e3' : M3 = up1 m 505 0 0 (nI (keptN (chS D (gPu D)))) := by
      rw [e3]
      refine congrArg (up1 m 505 0 0) ?_
      rw [sbI (by omega)]
      congr 1
      omega
    subst e3' e4
    have kx : Kp pPg M (up1 (up1 m 505 0 0 (nI (keptN (chS D (gPu D))))) 506 0 0 0) := ((k1.wk (fun c i q => by unfold pPg at q; unfold pRm; simp at q ⊢; omega)).u1 rfl).u1 rfl
    have x503 : ∀ e, (up1 (up1 m 505 0 0 (nI (keptN (chS D (gPu D))))) 506 0 0 0).1 503 0 e = nI (dS (chS D (gPu D)) e - 1) := fun e => by
      rw [up1_ne (by simp), up1_ne (by simp), k3 e, hst1 e]
    have x505 : (up1 (up1 m 505 0 0 (nI (keptN (chS D (gPu D))))) 506 0 0 0).1 505 0 0 = nI (keptN (chS D (gPu D))) := by rw [up1_ne (by simp), up1_eq]
    have x506 : (up1 (up1 m 505 0 0 (nI (keptN (chS D (gPu D))))) 506 0 0 0).1 506 0 0 = nI 0 := by rw [up1_eq]; rfl
    have x511 : ∀ w, (up1 (up1 m 505 0 0 (nI (keptN (chS D (gPu D))))) 506 0 0 0).1 511 0 w = nI (pN D w) := fun w => by
      rw [up1_ne (by simp), up1_ne (by simp), k1.g rfl]; exact hC.po w
    have x510 : ∀ w j, j < pN D w → (up1 (up1 m 505 0 0 (nI (keptN (chS D (gPu D))))) 506 0 0 0).1 5510 w j = nI (pK D w j) := fun w j hj => by
      rw [up1_ne (by simp), up1_ne (by simp), k1.g rfl]; exact hC.li hj
    generalize up1 (up1 m 505 0 0 (nI (keptN (chS D (gPu D))))) 506 0 0 0 = M4 at kx x503 x505 x506 x511 x510 ⊢
    refine lp_up (fun w s => s.2 = (nI (goneN D), nI w) ∧ Kp pPg M s.1 ∧ (∀ e, s.1.1 503 0 e = nI (dS (chS D (gPu D)) e - 1)) ∧ s.1.1 505 0 0 = nI (keptN (chS D (gPu D))) ∧ s.1.1 506 0 0 = nI 0 ∧ (∀ v, s.1.1 511 0 v = nI (if v < w then pN (chS D (gPu D)) v else pN D v)) ∧ (∀ v j, v < w → j < pN (chS D (gPu D)) v → s.1.1 5510 v j = nI (pK (chS D (gPu D)) v j)) ∧ (∀ v j, w ≤ v → j < pN D v → s.1.1 5510 v j = nI (pK D v j))) (Nat.zero_le W.length) ⟨rfl, kx, x503, x505, x506, fun v => by rw [if_neg (Nat.not_lt_zero _)]; exact x511 v, fun v j hv => absurd hv (Nat.not_lt_zero _), fun v j _ hj => x510 v j hj⟩ ?_ ?_
    · rintro w ⟨m5, y⟩ L5 - hw5 ⟨ey, c1, c2, c3, c4, c5, c6, c7⟩ hL5
      dsimp only at ey c1 c2 c3 c4 c5 c6 c7
      subst ey
      have hadd := adI w 1
      have hpn := pN_le D w
      unfold bX4_purge_55
      dsimp only
      rw [c1.g rfl, hk]
      refine ⟨fun c => absurd c (by rw [leI (by omega) (by omega)]; omega), fun _ => ?_⟩
      refine ckeepHeld (E := chS D (gPu D)) (l := lst D w) hE (by rw [c1.g rfl, hel]; exact hC.n) c2 (by omega) (by show pN D w ≤ 64; omega) (fun d hd => by rw [hel]; exact (lst_mem.mp hd).1) (by rw [c5, if_neg (Nat.lt_irrefl _)]; rfl) (fun j hj => c7 w j (Nat.le_refl _) hj) (fun M6 d1 d2 d3 d4 => ?_)
      rw [lst_P2 hD] at d3 d4
      intro v12 e12
      have dP : Kp pPg m5 M6 := d1.wk (fun c i q => by unfold pPg at q; unfold pKh; simp at q ⊢; omega)
      refine hL5 _ ⟨?_, c1.tr dP, fun e => (d1.g rfl e).trans (c2 e), (d1.g rfl 0).trans c3, (d1.g rfl 0).trans c4, fun v => ?_, fun v j hv hj => ?_, fun v j hv hj => ?_⟩
      · rw [e12]; exact congrArg (fun z => (nI (goneN D), z)) hadd
      · dsimp only
        by_cases q : v = w
        · rw [q, d3, if_pos (by omega)]; rfl
        · rw [d2 v q, c5]
          by_cases q2 : v < w
          · rw [if_pos q2, if_pos (by omega)]
          · rw [if_neg q2, if_neg (by omega)]
      · dsimp only
        by_cases q : v = w
        · rw [q] at hj ⊢; exact d4 j hj
        · rw [d1.g (by unfold pKh; simp; exact q)]; exact c6 v j (by omega) hj
      · dsimp only
        rw [d1.g (by unfold pKh; simp; omega)]; exact c7 v j (by omega) hj
    · rintro ⟨m5, y⟩ L5 ⟨ey, c1, c2, c3, c4, c5, c6, c7⟩
      dsimp only at ey c1 c2 c3 c4 c5 c6 c7
      subst ey
      unfold bX4_purge_55
      dsimp only
      rw [c1.g rfl, hk]
      refine ⟨fun _ => ?_, fun c => absurd (Int32.le_refl _) c⟩
      have hz1 : ∀ v, W.length ≤ v → pN D v = 0 := fun v hv => by
        have hnil : lst D v = [] := by
          rw [List.eq_nil_iff_forall_not_mem]
          intro d hd
          have := (lst_mem.mp hd).2
          unfold inL at this
          rw [hD.ge v d hv] at this
          simp at this
        unfold pN
        rw [hnil]; rfl
      have hz2 : ∀ v, W.length ≤ v → pN (chS D (gPu D)) v = 0 := fun v hv => by
        have h1 := hz1 v hv
        unfold pN at h1 ⊢
        rw [lst_P, List.length_eq_zero_iff.mp h1]; rfl
      refine hQ m5 c1 ⟨?_, c3, ?_, fun d => ?_, c2, fun d p => ?_, fun w d => ?_, fun w d => ?_, fun w => ?_, fun w j hj => ?_⟩
      · rw [hel, c1.g rfl]; exact hC.n
      · rw [goneN_P hD]; exact c4
      · rw [ch_L, c1.g rfl]; exact hC.len d
      · rw [ch_T, c1.g rfl]; exact hC.tx d p
      · rw [ch_cn, c1.g rfl]; exact hC.cn w d
      · rw [ch_jm, c1.g rfl]; exact hC.jm w d
      · rw [c5]
        by_cases q : w < W.length
        · rw [if_pos q]
        · rw [if_neg q, hz1 w (by omega), hz2 w (by omega)]
      · by_cases q : w < W.length
        · exact c6 w j q hj
        · rw [hz2 w (by omega)] at hj; exact absurd hj (Nat.not_lt_zero _)
theorem pPg_R (c i : Nat) (h : pRf c i = true) : pPg c i = true := by unfold pRf at h; unfold pPg; simp at h ⊢; omega
theorem pPg_K (c i : Nat) (h : pCK c i = true) : pPg c i = true := by unfold pCK at h; unfold pPg; simp at h ⊢; omega
def p507 (c _ : Nat) : Bool := decide (c ≠ 507)
theorem p507_R (c i : Nat) (h : pRf c i = true) : p507 c i = true := by unfold pRf at h; unfold p507; simp at h ⊢; omega
theorem p507_K (c i : Nat) (h : pCK c i = true) : p507 c i = true := by unfold pCK at h; unfold p507; simp at h ⊢; omega
theorem c_repack {S : St} {M : Mem} (h : CI S M) (hS : SW S) {Q : Int32 → Mem → Prop} {K : String → Mem → Prop} (x : Int32) (k : CE (oRepack S x) M Q K) : pX10_repack M x Q K := by
  obtain ⟨s1, s2, hD, hW, hK, s5, s6, s7⟩ := id hS
  obtain ⟨i1, i2, i3, i4, i5, hC, hw, hq, hz⟩ := id h
  have hkn := hD.2.1
  have hdn := hD.1
  unfold oRepack at k
  unfold pX10_repack pX10_needSize
  refine cneed (lo := 2) (m := 8) rfl rfl (by omega) (by omega) (fun so h2 h8 e eo => ?_) (fun eo => by rw [eo] at k; exact k.no2 Kp.rf h)
  rw [eo] at k
  dsimp only at k
  subst e
  intro M3 e3
  have k3 : Kp p507 M M3 := by rw [e3]; exact Kp.rf.u1 rfl
  have hC3 : CD (tD S) M3 := by
    obtain ⟨a, b, c, d, e, f, g, i, j, l⟩ := hC
    exact ⟨(k3.g rfl 0).trans a, (k3.g rfl 0).trans b, (k3.g rfl 0).trans c, fun x => (k3.g rfl x).trans (d x), fun x => (k3.g rfl x).trans (e x), fun x y => (k3.g rfl y).trans (f x y), fun x y => (k3.g rfl y).trans (g x y), fun x y => (k3.g rfl y).trans (i x y), fun x => (k3.g rfl x).trans (j x), fun x y hy => (k3.g rfl y).trans (l x y hy)⟩
  have h507 : M3.1 507 0 0 = nI so := by rw [e3, up1_eq]
  refine cpurge (W := tW S) hC3 hD ((k3.g rfl 0).trans hw.1) (fun M' k4 hC' => ?_)
  refine (k M' ((k3.wk p507_R).tr (k4.wk pPg_R)) ⟨(k4.g rfl 0).trans ((k3.g rfl 0).trans i1), fun j hj => (k4.g rfl j).trans ((k3.g rfl j).trans (i2 j hj)), (k4.g rfl 0).trans ((k3.g rfl 0).trans i3), (k4.g rfl 0).trans ((k3.g rfl 0).trans i4), (k4.g rfl 0).trans ((k3.g rfl 0).trans i5), hC', ⟨(k4.g rfl 0).trans ((k3.g rfl 0).trans hw.1), fun w hw' => (k4.g2 rfl w).trans ((k3.g2 rfl w).trans (hw.2 w hw'))⟩, hq.kp ((k3.wk p507_K).tr (k4.wk pPg_K)), (k4.g rfl 0).trans h507⟩).1 rfl
/-! the reference -/
def pRs (c _ : Nat) : Bool := decide (c ≠ 1214)
theorem pRs_C (c i : Nat) (h : pCl c i = true) : pRs c i = true := by unfold pCl at h; unfold pRs; simp at h ⊢; omega
theorem pRs_K (c i : Nat) (h : pMK c i = true) : pRs c i = true := by unfold pMK at h; unfold pRs; simp at h ⊢; omega
theorem MD_ch {D : Dc} {g : Nat → Nat} {M M' : Mem} (h : MD D M) (k : Kp pRs M M') (hs : ∀ d, M'.1 1214 0 d = nI (dS (chS D g) d)) : MD (chS D g) M' := by
  refine ⟨by rw [ch_len, k.g rfl]; exact h.n, fun d => by rw [ch_L, k.g rfl]; exact h.len d, hs, fun d p _ hp => ?_, fun w d => by rw [ch_cn, k.g rfl]; exact h.cn w d⟩
  rw [ch_L] at hp
  rw [ch_T, k.g rfl]; exact h.tx hp
theorem m_remove {S : St} {M : Mem} (h : MI S M) (hS : SW S) {Q : Int32 → Mem → Prop} (x : Int32) (k : ME (oRemove S x) 2 M Q) : pX11_remove M x Q := by
  unfold pX11_remove
  obtain ⟨s1, s2, hD, hW, hK, s5, s6, s7⟩ := id hS
  have hkn := hD.2.1
  have hdn := hD.1
  refine mstart h (fun N hN k0 h0 => ?_)
  obtain ⟨i1, i2, i3, i4, i5, hC, hw, hq, hz, hn⟩ := id hN
  unfold oRemove at k
  refine minN (n := (tD S).length) (by rw [hC.n]; rfl) (by omega) (fun d d1 e ed => ?_) (fun ed => ?_)
  · subst e
    have hs := hD.2.2 d d1
    first | refine s1a ?_ | refine s1b ?_
    refine ⟨(vpI (by omega)).mpr (by omega), ?_⟩
    rw [tnI (by omega), hC.st]
    have l1 : nI (dS (tD S) d) = (1 : Int32) ↔ dS (tD S) d = 1 := eqI (b := 1) (by omega) (by omega)
    rw [l1]
    by_cases e1 : dS (tD S) d = 1
    · have ex : dix (tD S) (nI d) = some d := by unfold dix; rw [ed]; exact if_neg (by omega)
      rw [ex] at k
      dsimp only at k
      rw [if_neg (by omega)] at k
      refine ⟨fun _ => ?_, fun c => absurd e1 c⟩
      refine mbad0 h0 ?_
      first | refine s0a ?_ | refine s0b ?_
      intro M17 e17
      subst e17
      have k1 : Kp pRs N (up1 N 1214 0 d 2) := Kp.rf.u1 rfl
      have hC' : MD (chS (tD S) (gRm (tD S) d)) (up1 N 1214 0 d 2) := MD_ch hC k1 (fun e => by
        rw [up1_if]
        by_cases q : e = d
        · rw [if_pos ⟨rfl, q⟩, q, ch_S d1]
          unfold gRm
          rw [if_pos rfl]; rfl
        · rw [if_neg (na2 q), hC.st]
          by_cases q2 : e < (tD S).length
          · rw [ch_S q2]
            unfold gRm
            rw [if_neg q]
          · rw [dS_out (by omega), dS_out (by rw [ch_len]; omega)])
      refine mgone hC' (ch_DW hD (gRm_b hD)) ?_
      rw [goneN_R d1 e1]
      exact k _ _ (k0.tr (k1.wk pRs_C)) ⟨(k1.g rfl 0).trans i1, fun j hj => (k1.g rfl j).trans (i2 j hj), (k1.g rfl 0).trans i3, (k1.g rfl 0).trans i4, (k1.g rfl 1).trans i5, hC', hw.kp k1 rfl rfl rfl, hq.kp (k1.wk pRs_K), (k1.g rfl 0).trans hz, (k1.g rfl 0).trans hn⟩ ((k1.g rfl 0).trans h0) (fun _ => rfl)
    · have ex : (match dix (tD S) (nI d) with | none => rfs S 1 | some d => if dS (tD S) d = 2 then rfs S 1 else (remS S d, 0, nI (goneN (tD S) + 1))) = rfs S 1 := by
        unfold dix
        rw [ed]
        dsimp only
        by_cases e3 : dS (tD S) d = 3
        · rw [if_pos e3]
        · rw [if_neg e3]
          dsimp only
          rw [if_pos (by omega)]
      rw [ex] at k
      refine ⟨fun c => absurd c e1, fun _ => ?_⟩
      refine mbadN hN h0 k0 k (fun M' hb => ?_)
      first | refine s1a ?_ | refine s1b ?_
      exact hb _
  · have ex : dix (tD S) x = none := by unfold dix; rw [ed]
    rw [ex] at k
    first | refine s0a ?_ | refine s0b ?_
    refine mbadN hN h0 k0 k (fun M' hb => ?_)
    first | refine s1a ?_ | refine s1b ?_
    exact hb _
theorem m_repack {S : St} {M : Mem} (h : MI S M) (hS : SW S) {Q : Int32 → Mem → Prop} (x : Int32) (k : ME (oRepack S x) 1 M Q) : pX11_repack M x Q := by
  unfold pX11_repack
  obtain ⟨s1, s2, hD, hW, hK, s5, s6, s7⟩ := id hS
  have hkn := hD.2.1
  have hdn := hD.1
  refine mstart h (fun N hN k0 h0 => ?_)
  obtain ⟨i1, i2, i3, i4, i5, hC, hw, hq, hz, hn⟩ := id hN
  unfold oRepack at k
  refine minR (lo := 2) (m := 8) rfl rfl (by omega) (by omega) (fun so h2 h8 e eo => ?_) (fun eo => ?_)
  · rw [eo] at k
    dsimp only at k
    subst e
    first | refine s1a ?_ | refine s1b ?_
    refine mbad0 h0 ?_
    first | refine s0a ?_ | refine s0b ?_
    refine mgone hC hD ?_
    refine lp_up (fun n s => s.2 = (nI (goneN (tD S)), nI n) ∧ Kp pRs N s.1 ∧ ∀ e, s.1.1 1214 0 e = (if e < n ∧ dS (tD S) e = 2 then nI 3 else nI (dS (tD S) e))) (Nat.zero_le (tD S).length) ⟨rfl, Kp.rf, fun e => by rw [if_neg (by omega)]; exact hC.st e⟩ ?_ ?_
    · rintro n ⟨m, y⟩ L - hn2 ⟨ey, k1, k3⟩ hL
      dsimp only at ey k1 k3
      subst ey
      have hadd := adI n 1
      have hs := hD.2.2 n hn2
      have l2 : nI (dS (tD S) n) = (2 : Int32) ↔ dS (tD S) n = 2 := eqI (b := 2) (by omega) (by omega)
      unfold bX11_repack_38 bX11_repack_72
      dsimp only
      rw [k1.g rfl, hC.n]
      refine ⟨fun c => absurd c (by rw [leI (by omega) (by omega)]; omega), fun _ => ⟨(vpI (by omega)).mpr (by omega), ?_⟩⟩
      rw [tnI (by omega), k3 n, if_neg (by omega), l2]
      by_cases q : dS (tD S) n = 2
      · refine ⟨fun c => absurd q c, fun _ M20 e20 v21 e21 => ?_⟩
        subst e20
        refine hL _ ⟨?_, k1.u1 rfl, fun e => ?_⟩
        · rw [e21]; exact congrArg (fun z => (nI (goneN (tD S)), z)) hadd
        · dsimp only
          rw [up1_if]
          by_cases q2 : e = n
          · rw [if_pos ⟨rfl, q2⟩, if_pos ⟨by omega, by rw [q2]; exact q⟩]; rfl
          · rw [if_neg (na2 q2), k3 e]
            by_cases q3 : e < n ∧ dS (tD S) e = 2
            · rw [if_pos q3, if_pos ⟨by omega, q3.2⟩]
            · rw [if_neg q3, if_neg (show ¬ (e < n + 1 ∧ dS (tD S) e = 2) from fun z => q3 ⟨by omega, z.2⟩)]
      · refine ⟨fun _ M19 e19 v21 e21 => ?_, fun c => absurd c q⟩
        subst e19
        refine hL _ ⟨?_, k1.u1 rfl, fun e => ?_⟩
        · rw [e21]; exact congrArg (fun z => (nI (goneN (tD S)), z)) hadd
        · dsimp only
          rw [up1_if]
          by_cases q2 : e = n
          · rw [if_pos ⟨rfl, q2⟩, if_neg (show ¬ (e < n + 1 ∧ dS (tD S) e = 2) from fun z => q (by rw [← q2]; exact z.2)), q2]
          · rw [if_neg (na2 q2), k3 e]
            by_cases q3 : e < n ∧ dS (tD S) e = 2
            · rw [if_pos q3, if_pos ⟨by omega, q3.2⟩]
            · rw [if_neg q3, if_neg (show ¬ (e < n + 1 ∧ dS (tD S) e = 2) from fun z => q3 ⟨by omega, z.2⟩)]
    · rintro ⟨m, y⟩ L ⟨ey, k1, k3⟩
      dsimp only at ey k1 k3
      subst ey
      unfold bX11_repack_38
      dsimp only
      rw [k1.g rfl, hC.n]
      refine ⟨fun _ M16 e16 => ?_, fun c => absurd (Int32.le_refl _) c⟩
      subst e16
      have hC1 : MD (chS (tD S) (gPu (tD S))) m := MD_ch hC k1 (fun e => by
        rw [k3 e]
        by_cases q2 : e < (tD S).length
        · rw [ch_S q2]
          unfold gPu
          by_cases q : dS (tD S) e = 2
          · rw [if_pos q, if_pos ⟨q2, q⟩]
          · rw [if_neg q, if_neg (na2 q)]
        · rw [if_neg (na1 q2), dS_out (by omega), dS_out (by rw [ch_len]; omega)])
      have kc : Kp pCl N (up1 m 1211 0 0 (nI so)) := (k1.wk pRs_C).u1 rfl
      refine k _ _ (k0.tr kc) ⟨?_, fun j hj => ?_, ?_, ?_, ?_, hC1.kp (Kp.rf.u1 rfl), (hw.kp k1 rfl rfl rfl).kp (P := fun c _ => decide (c ≠ 1211)) (Kp.rf.u1 rfl) rfl rfl rfl, (hq.kp (k1.wk pRs_K)).kp (Kp.rf.u1 rfl), up1_eq, ?_⟩ ?_ (fun _ => rfl)
      · rw [up1_ne (by simp), k1.g rfl]; exact i1
      · rw [up1_ne (by simp), k1.g rfl]; exact i2 j hj
      · rw [up1_ne (by simp), k1.g rfl]; exact i3
      · rw [up1_ne (by simp), k1.g rfl]; exact i4
      · rw [up1_ne (by simp), k1.g rfl]; exact i5
      · rw [up1_ne (by simp), k1.g rfl]; exact hn
      · rw [up1_ne (by simp), k1.g rfl]; exact h0
  · rw [eo] at k
    first | refine s0a ?_ | refine s0b ?_
    refine mbadA rfl (Or.inl rfl) hN h0 k0 k (fun M' hb => ?_)
    first | refine s1a ?_ | refine s1b ?_
    exact hb _
