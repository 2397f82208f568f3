/-! PURE: the reference is asked -/
def pAr (c _ : Nat) : Bool := decide (¬ ((1202 ≤ c ∧ c ≤ 1207) ∨ (1231 ≤ c ∧ c ≤ 1235) ∨ c = 6236))
def pAs (c i : Nat) : Bool := pAr c i && pSd c i
theorem pAr_s (c i : Nat) (h : pAr c i = true) : kSt c i = true := by unfold pAr at h; unfold kSt; simp at h ⊢; omega
theorem pAr_q (c i : Nat) (h : pAr c i = true) : kMq c i = true := by unfold pAr at h; unfold kMq; simp at h ⊢; omega
theorem pAr_m (c i : Nat) (h : pAr c i = true) : pMs c i = true := by unfold pAr at h; unfold pMs pMq; simp at h ⊢; omega
theorem pAr_C (c i : Nat) (h : pCl c i = true) : pAr c i = true := by unfold pCl at h; unfold pAr; simp at h ⊢; omega
theorem pAr_U (c i : Nat) (h : pSU c i = true) : pAr c i = true := by unfold pSU pSM at h; unfold pAr; simp at h ⊢; omega
theorem pAs_r (c i : Nat) (h : pAs c i = true) : pAr c i = true := by unfold pAs at h; simp at h; exact h.1
theorem pAs_d (c i : Nat) (h : pAs c i = true) : pSd c i = true := by unfold pAs at h; simp at h; exact h.2
theorem pAs_C (c i : Nat) (h : pCl c i = true) : pAs c i = true := by unfold pCl at h; unfold pAs pAr pSd; simp at h ⊢; omega
theorem pAs_D (c i : Nat) (h : pMD c i = true) : pAs c i = true := by unfold pMD at h; unfold pAs pAr pSd; simp at h ⊢; omega
theorem m_ask {S : St} {M : Mem} (h : MI S M) (hS : SW S) {Q : Int32 → Mem → Prop} (x : Int32) (k : ME (oAsk S x) 1 M Q) : pX11_ask M x Q := by
  unfold pX11_ask
  obtain ⟨s1, s2, hD, hW, hK, s5, s6, s7⟩ := id hS
  have hkn := hD.2.1
  have hdn := hD.1
  refine mstart h (fun N hN k0 h0 => ?_)
  obtain ⟨i1, i2, i3, i4, i5, hC, hw, hq, hz, hn⟩ := id hN
  unfold oAsk at k
  rw [i1]
  refine mless (a := 120) (by omega) (by omega) ?_
  rw [Nat.min_comm]
  refine minR (lo := 0) (m := min (tN S) 120) rfl rfl (by omega) (by omega) (fun n _ hn2 e en => ?_) (fun en => ?_)
  · rw [en] at k
    dsimp only at k
    subst e
    first | refine s1a ?_ | refine s1b ?_
    refine mbad0 h0 ?_
    first | refine s0a ?_ | refine s0b ?_
    refine mstarts (fun M0 k1 b2 b3 b4 b6 b7 => ?_)
    intro M12 e12 M13 e13 M14 e14
    have k14 : Kp kMq M0 M14 := by rw [e14, e13, e12]; exact (((Kp.rf.u1 rfl).u1 rfl).u1 rfl)
    have hmq : MQi [] 0 0 M14 := by
      rw [e14, e13, e12]
      refine ⟨?_, ?_, ?_, fun k hk => absurd hk (Nat.not_lt_zero _)⟩
      · rw [up1_ne (by simp), up1_ne (by simp), up1_eq]; rfl
      · rw [up1_ne (by simp), up1_eq]; rfl
      · rw [up1_eq]; rfl
    clear e14 e13 e12
    have hT : MT (tB S) n M14 := ⟨(k14.g rfl 0).trans b3, fun j hj => (k14.g rfl j).trans ((k1.g rfl j).trans (i2 j (by omega))), by omega, s2⟩
    have hwm : MWr (tW S) M14 := (hw.kp k1 rfl rfl rfl).kp k14 rfl rfl rfl
    refine maskloop hT hwm hW (fun hf M' k2 h5 => ?_) (fun hf M' A p r k2 h5 hm hV hA hp hr hK => ?_) ⟨Nat.zero_le _, ⟨rfl, Or.inl rfl⟩, ?_, (fun q hq => by cases hq), Nat.zero_le _, Nat.zero_le _, Nat.zero_le _, (fun a ha => by cases ha), Kp.rf, (k14.g rfl 0).trans b4, (k14.g rfl 0).trans b6, (k14.g rfl 0).trans b7⟩ hmq
    · rw [if_neg hf] at k
      have kk : Kp pAr N M' := ((k1.wk pAr_s).tr (k14.wk pAr_q)).tr (k2.wk pAr_m)
      exact k M' _ (k0.tr (kk.wk pAr_C)) (hN.tape (kk.wk pAr_U) ((k2.g rfl 0).trans ((k14.g rfl 0).trans b2)) (fun j hj => absurd hj (Nat.not_lt_zero _)) h5) ((kk.g rfl 0).trans h0) (fun _ => rfl)
    · rw [if_pos hf] at k
      obtain ⟨qw1, qw2⟩ := fqR_W hf
      rw [hK] at k qw1
      refine mstands hm hV hA qw1 hkn (fun M2 k3 hMK => ?_)
      have kk : Kp pAs N M2 := ((((k1.wk pAr_s).tr (k14.wk pAr_q)).tr (k2.wk pAr_m)).wk pAs_r).tr (k3.wk pAs_d)
      rw [hMK.2.1]
      exact k M2 _ (k0.tr (kk.wk pAs_C)) ⟨(k3.g rfl 0).trans ((k2.g rfl 0).trans ((k14.g rfl 0).trans b2)), (fun j hj => absurd hj (Nat.not_lt_zero _)), (k3.g rfl 0).trans h5, (kk.g rfl 0).trans i4, (kk.g rfl 1).trans i5, hC.kp (kk.wk pAs_D), hw.kp kk rfl rfl rfl, hMK, (kk.g rfl 0).trans hz, (kk.g rfl 0).trans hn⟩ ((kk.g rfl 0).trans h0) (fun _ => rfl)
    · rw [clQ_0 (Or.inl rfl)]; rfl
  · rw [en] at k
    first | refine s0a ?_ | refine s0b ?_
    refine mbadA rfl (Or.inl rfl) hN h0 k0 k (fun M' hM' => ?_)
    first | refine s1a ?_ | refine s1b ?_
    exact hM' _
