/-! PURE: what is allowed stays so -/
theorem fdB_lt (x1 x2 x3 x4 x5 : Int32) (q : Nat) : fdB x1 x2 x3 x4 x5 q < 256 := byt_lt _ _
theorem qS_feed {S : St} (hS : SW S) (x1 x2 x3 x4 x5 : Int32) : SW (oFeed S x1 x2 x3 x4 x5).1 := by
  unfold oFeed
  split
  · refine SW_T hS (by assumption) (fun k => ?_)
    split
    · exact hS.2.1 k
    · exact fdB_lt _ _ _ _ _ _
  · exact hS
theorem qS_add {S : St} (hS : SW S) (x1 : Int32) : SW (oAdd S x1).1 := by
  unfold oAdd
  split
  · exact hS
  · split
    · split
      · exact SW_add hS (by assumption) (by assumption)
      · exact SW_T hS (Nat.zero_le _) hS.2.1
    · exact hS
theorem qS_find {S : St} (hS : SW S) (x1 : Int32) : SW (oFind S x1).1 := by
  unfold oFind
  split
  · exact hS
  · exact SW_T hS (Nat.zero_le _) hS.2.1
theorem qS_remove {S : St} (hS : SW S) (x1 : Int32) : SW (oRemove S x1).1 := by
  unfold oRemove
  split
  · exact hS
  · split
    · exact hS
    · exact SW_rem hS _
theorem qS_repack {S : St} (hS : SW S) (x1 : Int32) : SW (oRepack S x1).1 := by
  unfold oRepack
  rcases ixr_c x1 (lo := 2) (n := 9) (by omega) (by omega) with ⟨e, -⟩ | ⟨j, h1, h2, -, e⟩
  · rw [e]; exact hS
  · rw [e]; exact SW_rep hS h1 (by omega)
theorem qS_ask {S : St} (hS : SW S) (x1 : Int32) : SW (oAsk S x1).1 := by
  unfold oAsk
  split
  · exact hS
  · split
    · exact SW_ask hS (by assumption)
    · exact SW_T hS (Nat.zero_le _) hS.2.1
/-! PURE: the law, all of it -/
theorem qC_feed (S : St) (x1 x2 x3 x4 x5 : Int32) : (oFeed S x1 x2 x3 x4 x5).2.1 = 0 := by
  unfold oFeed
  repeat' split
  all_goals rfl
theorem w_feed {xs : Nat → Int32} {L : Nat} {L23 : Mem × Int32 → Prop} {S : St} {M : Mem} {y4 : Int32} (hS : SW S) (hC : CI S M) (hM : MI S M) (hv : ∀ k : Nat, k < 6 → vp_in (y4 + nI k) L) (hT : ∀ S' M', SW S' → CI S' M' → MI S' M' → bL_law_2690 xs L L23 M' y4) : bL_law_224 xs L L23 M y4 := by
  unfold bL_law_224
  refine ⟨hv 1 (by omega), hv 2 (by omega), hv 3 (by omega), hv 4 (by omega), hv 5 (by omega), ?_⟩
  exact lawP (R := oFeed S (xs (tn (y4 + 1))) (xs (tn (y4 + 2))) (xs (tn (y4 + 3))) (xs (tn (y4 + 4))) (xs (tn (y4 + 5)))) (PC := fun Q => pX10_feed M (xs (tn (y4 + 1))) (xs (tn (y4 + 2))) (xs (tn (y4 + 3))) (xs (tn (y4 + 4))) (xs (tn (y4 + 5))) Q) (PM := fun M1 Q => pX11_feed M1 (xs (tn (y4 + 1))) (xs (tn (y4 + 2))) (xs (tn (y4 + 3))) (xs (tn (y4 + 4))) (xs (tn (y4 + 5))) Q) (G := fun M' => bL_law_2690 xs L L23 M' y4) hM (fun Q k => c_feed hC hS (xs (tn (y4 + 1))) (xs (tn (y4 + 2))) (xs (tn (y4 + 3))) (xs (tn (y4 + 4))) (xs (tn (y4 + 5))) k) (fun M1 Q h k => m_feed h hS (xs (tn (y4 + 1))) (xs (tn (y4 + 2))) (xs (tn (y4 + 3))) (xs (tn (y4 + 4))) (xs (tn (y4 + 5))) k) (qC_feed S (xs (tn (y4 + 1))) (xs (tn (y4 + 2))) (xs (tn (y4 + 3))) (xs (tn (y4 + 4))) (xs (tn (y4 + 5)))) (fun M' a b => hT _ M' (qS_feed hS (xs (tn (y4 + 1))) (xs (tn (y4 + 2))) (xs (tn (y4 + 3))) (xs (tn (y4 + 4))) (xs (tn (y4 + 5)))) a b)
theorem qC_add (S : St) (x1 : Int32) : (oAdd S x1).2.1 = 0 ∨ (oAdd S x1).2.1 = 2 := by
  unfold oAdd
  repeat' split
  all_goals (first | exact Or.inl rfl | exact Or.inr rfl)
theorem w_add {xs : Nat → Int32} {L : Nat} {L23 : Mem × Int32 → Prop} {S : St} {M : Mem} {y4 : Int32} (hS : SW S) (hC : CI S M) (hM : MI S M) (hv : ∀ k : Nat, k < 6 → vp_in (y4 + nI k) L) (hT : ∀ S' M', SW S' → CI S' M' → MI S' M' → bL_law_2690 xs L L23 M' y4) : bL_law_297 xs L L23 M y4 := by
  unfold bL_law_297 pL_add
  refine ⟨hv 1 (by omega), ?_⟩
  exact lawI (R := oAdd S (xs (tn (y4 + 1)))) (PC := fun Q K => pX10_add M (xs (tn (y4 + 1))) Q K) (PM := fun M1 Q => pX11_add M1 (xs (tn (y4 + 1))) Q) (G := fun M' => bL_law_350 xs L L23 M' y4) hM (fun Q K k => c_add hC hS (xs (tn (y4 + 1))) k) (fun M1 Q h k => m_add h hS (xs (tn (y4 + 1))) k) (qC_add S (xs (tn (y4 + 1)))) (fun M' a b => hT _ M' (qS_add hS (xs (tn (y4 + 1)))) a b)
theorem qC_ask (S : St) (x1 : Int32) : (oAsk S x1).2.1 = 0 ∨ (oAsk S x1).2.1 = 2 := by
  unfold oAsk
  repeat' split
  all_goals (first | exact Or.inl rfl | exact Or.inr rfl)
theorem w_ask {xs : Nat → Int32} {L : Nat} {L23 : Mem × Int32 → Prop} {S : St} {M : Mem} {y4 : Int32} (hS : SW S) (hC : CI S M) (hM : MI S M) (hv : ∀ k : Nat, k < 6 → vp_in (y4 + nI k) L) (hT : ∀ S' M', SW S' → CI S' M' → MI S' M' → bL_law_2690 xs L L23 M' y4) : bL_law_353 xs L L23 M y4 := by
  unfold bL_law_353 pL_ask
  refine ⟨hv 1 (by omega), ?_⟩
  exact lawI (R := oAsk S (xs (tn (y4 + 1)))) (PC := fun Q K => pX10_ask M (xs (tn (y4 + 1))) Q K) (PM := fun M1 Q => pX11_ask M1 (xs (tn (y4 + 1))) Q) (G := fun M' => bL_law_406 xs L L23 M' y4) hM (fun Q K k => c_ask hC hS (xs (tn (y4 + 1))) k) (fun M1 Q h k => m_ask h hS (xs (tn (y4 + 1))) k) (qC_ask S (xs (tn (y4 + 1)))) (fun M' a b => hT _ M' (qS_ask hS (xs (tn (y4 + 1)))) a b)
theorem qS_fault {S : St} (hS : SW S)  : SW (oFault S ).1 := by
  unfold oFault
  repeat' split
  all_goals exact hS
theorem qC_fault (S : St)  : (oFault S ).2.1 = 0 := by
  unfold oFault
  repeat' split
  all_goals rfl
theorem w_fault {xs : Nat → Int32} {L : Nat} {L23 : Mem × Int32 → Prop} {S : St} {M : Mem} {y4 : Int32} (hS : SW S) (hC : CI S M) (hM : MI S M) (hv : ∀ k : Nat, k < 6 → vp_in (y4 + nI k) L) (hT : ∀ S' M', SW S' → CI S' M' → MI S' M' → bL_law_2690 xs L L23 M' y4) : bL_law_409 xs L L23 M y4 := by
  unfold bL_law_409
  exact lawP (R := oFault S ) (PC := fun Q => pX10_fault M  Q) (PM := fun M1 Q => pX11_fault M1  Q) (G := fun M' => bL_law_2690 xs L L23 M' y4) hM (fun Q k => c_fault hC hS  k) (fun M1 Q h k => m_fault h hS  k) (qC_fault S ) (fun M' a b => hT _ M' (qS_fault hS ) a b)
theorem qC_find (S : St) (x1 : Int32) : (oFind S x1).2.1 = 0 ∨ (oFind S x1).2.1 = 2 := by
  unfold oFind
  repeat' split
  all_goals (first | exact Or.inl rfl | exact Or.inr rfl)
theorem w_find {xs : Nat → Int32} {L : Nat} {L23 : Mem × Int32 → Prop} {S : St} {M : Mem} {y4 : Int32} (hS : SW S) (hC : CI S M) (hM : MI S M) (hv : ∀ k : Nat, k < 6 → vp_in (y4 + nI k) L) (hT : ∀ S' M', SW S' → CI S' M' → MI S' M' → bL_law_2690 xs L L23 M' y4) : bL_law_422 xs L L23 M y4 := by
  unfold bL_law_422 pL_find
  refine ⟨hv 1 (by omega), ?_⟩
  exact lawI (R := oFind S (xs (tn (y4 + 1)))) (PC := fun Q K => pX10_find M (xs (tn (y4 + 1))) Q K) (PM := fun M1 Q => pX11_find M1 (xs (tn (y4 + 1))) Q) (G := fun M' => bL_law_475 xs L L23 M' y4) hM (fun Q K k => c_find hC hS (xs (tn (y4 + 1))) k) (fun M1 Q h k => m_find h hS (xs (tn (y4 + 1))) k) (qC_find S (xs (tn (y4 + 1)))) (fun M' a b => hT _ M' (qS_find hS (xs (tn (y4 + 1)))) a b)
theorem qC_remove (S : St) (x1 : Int32) : (oRemove S x1).2.1 = 0 ∨ (oRemove S x1).2.1 = 1 := by
  unfold oRemove
  repeat' split
  all_goals (first | exact Or.inl rfl | exact Or.inr rfl)
theorem w_remove {xs : Nat → Int32} {L : Nat} {L23 : Mem × Int32 → Prop} {S : St} {M : Mem} {y4 : Int32} (hS : SW S) (hC : CI S M) (hM : MI S M) (hv : ∀ k : Nat, k < 6 → vp_in (y4 + nI k) L) (hT : ∀ S' M', SW S' → CI S' M' → MI S' M' → bL_law_2690 xs L L23 M' y4) : bL_law_478 xs L L23 M y4 := by
  unfold bL_law_478 pL_remove
  refine ⟨hv 1 (by omega), ?_⟩
  exact lawN (R := oRemove S (xs (tn (y4 + 1)))) (PC := fun Q K => pX10_remove M (xs (tn (y4 + 1))) Q K) (PM := fun M1 Q => pX11_remove M1 (xs (tn (y4 + 1))) Q) (G := fun M' => bL_law_531 xs L L23 M' y4) hM (fun Q K k => c_remove hC hS (xs (tn (y4 + 1))) k) (fun M1 Q h k => m_remove h hS (xs (tn (y4 + 1))) k) (qC_remove S (xs (tn (y4 + 1)))) (fun M' a b => hT _ M' (qS_remove hS (xs (tn (y4 + 1)))) a b)
theorem qC_repack (S : St) (x1 : Int32) : (oRepack S x1).2.1 = 0 ∨ (oRepack S x1).2.1 = 2 := by
  unfold oRepack
  repeat' split
  all_goals (first | exact Or.inl rfl | exact Or.inr rfl)
theorem w_repack {xs : Nat → Int32} {L : Nat} {L23 : Mem × Int32 → Prop} {S : St} {M : Mem} {y4 : Int32} (hS : SW S) (hC : CI S M) (hM : MI S M) (hv : ∀ k : Nat, k < 6 → vp_in (y4 + nI k) L) (hT : ∀ S' M', SW S' → CI S' M' → MI S' M' → bL_law_2690 xs L L23 M' y4) : bL_law_534 xs L L23 M y4 := by
  unfold bL_law_534 pL_repack
  refine ⟨hv 1 (by omega), ?_⟩
  exact lawI (R := oRepack S (xs (tn (y4 + 1)))) (PC := fun Q K => pX10_repack M (xs (tn (y4 + 1))) Q K) (PM := fun M1 Q => pX11_repack M1 (xs (tn (y4 + 1))) Q) (G := fun M' => bL_law_587 xs L L23 M' y4) hM (fun Q K k => c_repack hC hS (xs (tn (y4 + 1))) k) (fun M1 Q h k => m_repack h hS (xs (tn (y4 + 1))) k) (qC_repack S (xs (tn (y4 + 1)))) (fun M' a b => hT _ M' (qS_repack hS (xs (tn (y4 + 1)))) a b)
theorem qS_told {S : St} (hS : SW S) (x1 : Int32) : SW (oTold S x1).1 := by
  unfold oTold
  repeat' split
  all_goals exact hS
theorem qC_told (S : St) (x1 : Int32) : (oTold S x1).2.1 = 0 ∨ (oTold S x1).2.1 = 2 := by
  unfold oTold
  repeat' split
  all_goals (first | exact Or.inl rfl | exact Or.inr rfl)
theorem w_told {xs : Nat → Int32} {L : Nat} {L23 : Mem × Int32 → Prop} {S : St} {M : Mem} {y4 : Int32} (hS : SW S) (hC : CI S M) (hM : MI S M) (hv : ∀ k : Nat, k < 6 → vp_in (y4 + nI k) L) (hT : ∀ S' M', SW S' → CI S' M' → MI S' M' → bL_law_2690 xs L L23 M' y4) : bL_law_590 xs L L23 M y4 := by
  unfold bL_law_590 pL_told
  refine ⟨hv 1 (by omega), ?_⟩
  exact lawI (R := oTold S (xs (tn (y4 + 1)))) (PC := fun Q K => pX10_told M (xs (tn (y4 + 1))) Q K) (PM := fun M1 Q => pX11_told M1 (xs (tn (y4 + 1))) Q) (G := fun M' => bL_law_643 xs L L23 M' y4) hM (fun Q K k => c_told hC hS (xs (tn (y4 + 1))) k) (fun M1 Q h k => m_told h hS (xs (tn (y4 + 1))) k) (qC_told S (xs (tn (y4 + 1)))) (fun M' a b => hT _ M' (qS_told hS (xs (tn (y4 + 1)))) a b)
theorem qS_document {S : St} (hS : SW S) (x1 x2 : Int32) : SW (oDoc S x1 x2).1 := by
  unfold oDoc
  repeat' split
  all_goals exact hS
theorem w_document {xs : Nat → Int32} {L : Nat} {L23 : Mem × Int32 → Prop} {S : St} {M : Mem} {y4 : Int32} (hS : SW S) (hC : CI S M) (hM : MI S M) (hv : ∀ k : Nat, k < 6 → vp_in (y4 + nI k) L) (hT : ∀ S' M', SW S' → CI S' M' → MI S' M' → bL_law_2690 xs L L23 M' y4) : bL_law_646 xs L L23 M y4 := by
  unfold bL_law_646 pL_document
  refine ⟨hv 1 (by omega), hv 2 (by omega), ?_⟩
  exact lawB (R := oDoc S (xs (tn (y4 + 1))) (xs (tn (y4 + 2)))) (PC := fun Q K => pX10_document M (xs (tn (y4 + 1))) (xs (tn (y4 + 2))) Q K) (PM := fun M1 Q => pX11_document M1 (xs (tn (y4 + 1))) (xs (tn (y4 + 2))) Q) (G := fun M' => bL_law_711 xs L L23 M' y4) hM (fun Q K k => c_document hC hS (xs (tn (y4 + 1))) (xs (tn (y4 + 2))) k) (fun M1 Q h k => m_document h hS (xs (tn (y4 + 1))) (xs (tn (y4 + 2))) k) (fun M' a b => hT _ M' (qS_document hS (xs (tn (y4 + 1))) (xs (tn (y4 + 2)))) a b)
theorem qS_at {S : St} (hS : SW S) (x1 x2 : Int32) : SW (oAt S x1 x2).1 := by
  unfold oAt
  repeat' split
  all_goals exact hS
theorem qC_at (S : St) (x1 x2 : Int32) : (oAt S x1 x2).2.1 = 0 ∨ (oAt S x1 x2).2.1 = 1 := by
  unfold oAt
  repeat' split
  all_goals (first | exact Or.inl rfl | exact Or.inr rfl)
theorem w_at {xs : Nat → Int32} {L : Nat} {L23 : Mem × Int32 → Prop} {S : St} {M : Mem} {y4 : Int32} (hS : SW S) (hC : CI S M) (hM : MI S M) (hv : ∀ k : Nat, k < 6 → vp_in (y4 + nI k) L) (hT : ∀ S' M', SW S' → CI S' M' → MI S' M' → bL_law_2690 xs L L23 M' y4) : bL_law_714 xs L L23 M y4 := by
  unfold bL_law_714 pL_at
  refine ⟨hv 1 (by omega), hv 2 (by omega), ?_⟩
  exact lawN (R := oAt S (xs (tn (y4 + 1))) (xs (tn (y4 + 2)))) (PC := fun Q K => pX10_at M (xs (tn (y4 + 1))) (xs (tn (y4 + 2))) Q K) (PM := fun M1 Q => pX11_at M1 (xs (tn (y4 + 1))) (xs (tn (y4 + 2))) Q) (G := fun M' => bL_law_779 xs L L23 M' y4) hM (fun Q K k => c_at hC hS (xs (tn (y4 + 1))) (xs (tn (y4 + 2))) k) (fun M1 Q h k => m_at h hS (xs (tn (y4 + 1))) (xs (tn (y4 + 2))) k) (qC_at S (xs (tn (y4 + 1))) (xs (tn (y4 + 2)))) (fun M' a b => hT _ M' (qS_at hS (xs (tn (y4 + 1))) (xs (tn (y4 + 2)))) a b)
theorem qS_word {S : St} (hS : SW S) (x1 x2 : Int32) : SW (oWord S x1 x2).1 := by
  unfold oWord
  repeat' split
  all_goals exact hS
theorem w_word {xs : Nat → Int32} {L : Nat} {L23 : Mem × Int32 → Prop} {S : St} {M : Mem} {y4 : Int32} (hS : SW S) (hC : CI S M) (hM : MI S M) (hv : ∀ k : Nat, k < 6 → vp_in (y4 + nI k) L) (hT : ∀ S' M', SW S' → CI S' M' → MI S' M' → bL_law_2690 xs L L23 M' y4) : bL_law_782 xs L L23 M y4 := by
  unfold bL_law_782 pL_word
  refine ⟨hv 1 (by omega), hv 2 (by omega), ?_⟩
  exact lawB (R := oWord S (xs (tn (y4 + 1))) (xs (tn (y4 + 2)))) (PC := fun Q K => pX10_word M (xs (tn (y4 + 1))) (xs (tn (y4 + 2))) Q K) (PM := fun M1 Q => pX11_word M1 (xs (tn (y4 + 1))) (xs (tn (y4 + 2))) Q) (G := fun M' => bL_law_847 xs L L23 M' y4) hM (fun Q K k => c_word hC hS (xs (tn (y4 + 1))) (xs (tn (y4 + 2))) k) (fun M1 Q h k => m_word h hS (xs (tn (y4 + 1))) (xs (tn (y4 + 2))) k) (fun M' a b => hT _ M' (qS_word hS (xs (tn (y4 + 1))) (xs (tn (y4 + 2)))) a b)
theorem qS_letter {S : St} (hS : SW S) (x1 x2 : Int32) : SW (oLetter S x1 x2).1 := by
  unfold oLetter
  repeat' split
  all_goals exact hS
theorem qC_letter (S : St) (x1 x2 : Int32) : (oLetter S x1 x2).2.1 = 0 ∨ (oLetter S x1 x2).2.1 = 1 := by
  unfold oLetter
  repeat' split
  all_goals (first | exact Or.inl rfl | exact Or.inr rfl)
theorem w_letter {xs : Nat → Int32} {L : Nat} {L23 : Mem × Int32 → Prop} {S : St} {M : Mem} {y4 : Int32} (hS : SW S) (hC : CI S M) (hM : MI S M) (hv : ∀ k : Nat, k < 6 → vp_in (y4 + nI k) L) (hT : ∀ S' M', SW S' → CI S' M' → MI S' M' → bL_law_2690 xs L L23 M' y4) : bL_law_850 xs L L23 M y4 := by
  unfold bL_law_850 pL_letter
  refine ⟨hv 1 (by omega), hv 2 (by omega), ?_⟩
  exact lawN (R := oLetter S (xs (tn (y4 + 1))) (xs (tn (y4 + 2)))) (PC := fun Q K => pX10_letter M (xs (tn (y4 + 1))) (xs (tn (y4 + 2))) Q K) (PM := fun M1 Q => pX11_letter M1 (xs (tn (y4 + 1))) (xs (tn (y4 + 2))) Q) (G := fun M' => bL_law_915 xs L L23 M' y4) hM (fun Q K k => c_letter hC hS (xs (tn (y4 + 1))) (xs (tn (y4 + 2))) k) (fun M1 Q h k => m_letter h hS (xs (tn (y4 + 1))) (xs (tn (y4 + 2))) k) (qC_letter S (xs (tn (y4 + 1))) (xs (tn (y4 + 2)))) (fun M' a b => hT _ M' (qS_letter hS (xs (tn (y4 + 1))) (xs (tn (y4 + 2)))) a b)
theorem qS_block {S : St} (hS : SW S) (x1 x2 x3 : Int32) : SW (oBlock S x1 x2 x3).1 := by
  unfold oBlock
  repeat' split
  all_goals exact hS
theorem w_block {xs : Nat → Int32} {L : Nat} {L23 : Mem × Int32 → Prop} {S : St} {M : Mem} {y4 : Int32} (hS : SW S) (hC : CI S M) (hM : MI S M) (hv : ∀ k : Nat, k < 6 → vp_in (y4 + nI k) L) (hT : ∀ S' M', SW S' → CI S' M' → MI S' M' → bL_law_2690 xs L L23 M' y4) : bL_law_918 xs L L23 M y4 := by
  unfold bL_law_918 pL_block
  refine ⟨hv 1 (by omega), hv 2 (by omega), hv 3 (by omega), ?_⟩
  exact lawB (R := oBlock S (xs (tn (y4 + 1))) (xs (tn (y4 + 2))) (xs (tn (y4 + 3)))) (PC := fun Q K => pX10_block M (xs (tn (y4 + 1))) (xs (tn (y4 + 2))) (xs (tn (y4 + 3))) Q K) (PM := fun M1 Q => pX11_block M1 (xs (tn (y4 + 1))) (xs (tn (y4 + 2))) (xs (tn (y4 + 3))) Q) (G := fun M' => bL_law_995 xs L L23 M' y4) hM (fun Q K k => c_block hC hS (xs (tn (y4 + 1))) (xs (tn (y4 + 2))) (xs (tn (y4 + 3))) k) (fun M1 Q h k => m_block h hS (xs (tn (y4 + 1))) (xs (tn (y4 + 2))) (xs (tn (y4 + 3))) k) (fun M' a b => hT _ M' (qS_block hS (xs (tn (y4 + 1))) (xs (tn (y4 + 2))) (xs (tn (y4 + 3)))) a b)
theorem qS_posting {S : St} (hS : SW S) (x1 x2 x3 : Int32) : SW (oPosting S x1 x2 x3).1 := by
  unfold oPosting
  repeat' split
  all_goals exact hS
theorem w_posting {xs : Nat → Int32} {L : Nat} {L23 : Mem × Int32 → Prop} {S : St} {M : Mem} {y4 : Int32} (hS : SW S) (hC : CI S M) (hM : MI S M) (hv : ∀ k : Nat, k < 6 → vp_in (y4 + nI k) L) (hT : ∀ S' M', SW S' → CI S' M' → MI S' M' → bL_law_2690 xs L L23 M' y4) : bL_law_998 xs L L23 M y4 := by
  unfold bL_law_998 pL_posting
  refine ⟨hv 1 (by omega), hv 2 (by omega), hv 3 (by omega), ?_⟩
  exact lawB (R := oPosting S (xs (tn (y4 + 1))) (xs (tn (y4 + 2))) (xs (tn (y4 + 3)))) (PC := fun Q K => pX10_posting M (xs (tn (y4 + 1))) (xs (tn (y4 + 2))) (xs (tn (y4 + 3))) Q K) (PM := fun M1 Q => pX11_posting M1 (xs (tn (y4 + 1))) (xs (tn (y4 + 2))) (xs (tn (y4 + 3))) Q) (G := fun M' => bL_law_1075 xs L L23 M' y4) hM (fun Q K k => c_posting hC hS (xs (tn (y4 + 1))) (xs (tn (y4 + 2))) (xs (tn (y4 + 3))) k) (fun M1 Q h k => m_posting h hS (xs (tn (y4 + 1))) (xs (tn (y4 + 2))) (xs (tn (y4 + 3))) k) (fun M' a b => hT _ M' (qS_posting hS (xs (tn (y4 + 1))) (xs (tn (y4 + 2))) (xs (tn (y4 + 3)))) a b)
theorem qS_position {S : St} (hS : SW S) (x1 x2 x3 : Int32) : SW (oPosition S x1 x2 x3).1 := by
  unfold oPosition
  repeat' split
  all_goals exact hS
theorem qC_position (S : St) (x1 x2 x3 : Int32) : (oPosition S x1 x2 x3).2.1 = 0 ∨ (oPosition S x1 x2 x3).2.1 = 1 := by
  unfold oPosition
  repeat' split
  all_goals (first | exact Or.inl rfl | exact Or.inr rfl)
theorem w_position {xs : Nat → Int32} {L : Nat} {L23 : Mem × Int32 → Prop} {S : St} {M : Mem} {y4 : Int32} (hS : SW S) (hC : CI S M) (hM : MI S M) (hv : ∀ k : Nat, k < 6 → vp_in (y4 + nI k) L) (hT : ∀ S' M', SW S' → CI S' M' → MI S' M' → bL_law_2690 xs L L23 M' y4) : bL_law_1078 xs L L23 M y4 := by
  unfold bL_law_1078 pL_position
  refine ⟨hv 1 (by omega), hv 2 (by omega), hv 3 (by omega), ?_⟩
  exact lawN (R := oPosition S (xs (tn (y4 + 1))) (xs (tn (y4 + 2))) (xs (tn (y4 + 3)))) (PC := fun Q K => pX10_position M (xs (tn (y4 + 1))) (xs (tn (y4 + 2))) (xs (tn (y4 + 3))) Q K) (PM := fun M1 Q => pX11_position M1 (xs (tn (y4 + 1))) (xs (tn (y4 + 2))) (xs (tn (y4 + 3))) Q) (G := fun M' => bL_law_1155 xs L L23 M' y4) hM (fun Q K k => c_position hC hS (xs (tn (y4 + 1))) (xs (tn (y4 + 2))) (xs (tn (y4 + 3))) k) (fun M1 Q h k => m_position h hS (xs (tn (y4 + 1))) (xs (tn (y4 + 2))) (xs (tn (y4 + 3))) k) (qC_position S (xs (tn (y4 + 1))) (xs (tn (y4 + 2))) (xs (tn (y4 + 3)))) (fun M' a b => hT _ M' (qS_position hS (xs (tn (y4 + 1))) (xs (tn (y4 + 2))) (xs (tn (y4 + 3)))) a b)
theorem qS_common {S : St} (hS : SW S) (x1 : Int32) : SW (oCommon S x1).1 := by
  unfold oCommon
  repeat' split
  all_goals exact hS
theorem qC_common (S : St) (x1 : Int32) : (oCommon S x1).2.1 = 0 ∨ (oCommon S x1).2.1 = 1 := by
  unfold oCommon
  repeat' split
  all_goals (first | exact Or.inl rfl | exact Or.inr rfl)
theorem w_common {xs : Nat → Int32} {L : Nat} {L23 : Mem × Int32 → Prop} {S : St} {M : Mem} {y4 : Int32} (hS : SW S) (hC : CI S M) (hM : MI S M) (hv : ∀ k : Nat, k < 6 → vp_in (y4 + nI k) L) (hT : ∀ S' M', SW S' → CI S' M' → MI S' M' → bL_law_2690 xs L L23 M' y4) : bL_law_1158 xs L L23 M y4 := by
  unfold bL_law_1158 pL_common
  refine ⟨hv 1 (by omega), ?_⟩
  exact lawN (R := oCommon S (xs (tn (y4 + 1)))) (PC := fun Q K => pX10_common M (xs (tn (y4 + 1))) Q K) (PM := fun M1 Q => pX11_common M1 (xs (tn (y4 + 1))) Q) (G := fun M' => bL_law_1211 xs L L23 M' y4) hM (fun Q K k => c_common hC hS (xs (tn (y4 + 1))) k) (fun M1 Q h k => m_common h hS (xs (tn (y4 + 1))) k) (qC_common S (xs (tn (y4 + 1)))) (fun M' a b => hT _ M' (qS_common hS (xs (tn (y4 + 1)))) a b)
theorem qS_alike {S : St} (hS : SW S) (x1 x2 : Int32) : SW (oAlike S x1 x2).1 := by
  unfold oAlike
  repeat' split
  all_goals exact hS
theorem qC_alike (S : St) (x1 x2 : Int32) : (oAlike S x1 x2).2.1 = 0 ∨ (oAlike S x1 x2).2.1 = 1 := by
  unfold oAlike
  repeat' split
  all_goals (first | exact Or.inl rfl | exact Or.inr rfl)
theorem w_alike {xs : Nat → Int32} {L : Nat} {L23 : Mem × Int32 → Prop} {S : St} {M : Mem} {y4 : Int32} (hS : SW S) (hC : CI S M) (hM : MI S M) (hv : ∀ k : Nat, k < 6 → vp_in (y4 + nI k) L) (hT : ∀ S' M', SW S' → CI S' M' → MI S' M' → bL_law_2690 xs L L23 M' y4) : bL_law_1214 xs L L23 M y4 := by
  unfold bL_law_1214 pL_alike
  refine ⟨hv 1 (by omega), hv 2 (by omega), ?_⟩
  exact lawN (R := oAlike S (xs (tn (y4 + 1))) (xs (tn (y4 + 2)))) (PC := fun Q K => pX10_alike M (xs (tn (y4 + 1))) (xs (tn (y4 + 2))) Q K) (PM := fun M1 Q => pX11_alike M1 (xs (tn (y4 + 1))) (xs (tn (y4 + 2))) Q) (G := fun M' => bL_law_1279 xs L L23 M' y4) hM (fun Q K k => c_alike hC hS (xs (tn (y4 + 1))) (xs (tn (y4 + 2))) k) (fun M1 Q h k => m_alike h hS (xs (tn (y4 + 1))) (xs (tn (y4 + 2))) k) (qC_alike S (xs (tn (y4 + 1))) (xs (tn (y4 + 2)))) (fun M' a b => hT _ M' (qS_alike hS (xs (tn (y4 + 1))) (xs (tn (y4 + 2)))) a b)
theorem qS_scored {S : St} (hS : SW S) (x1 x2 : Int32) : SW (oScored S x1 x2).1 := by
  unfold oScored
  repeat' split
  all_goals exact hS
theorem qC_scored (S : St) (x1 x2 : Int32) : (oScored S x1 x2).2.1 = 0 ∨ (oScored S x1 x2).2.1 = 2 := by
  unfold oScored
  repeat' split
  all_goals (first | exact Or.inl rfl | exact Or.inr rfl)
theorem w_scored {xs : Nat → Int32} {L : Nat} {L23 : Mem × Int32 → Prop} {S : St} {M : Mem} {y4 : Int32} (hS : SW S) (hC : CI S M) (hM : MI S M) (hv : ∀ k : Nat, k < 6 → vp_in (y4 + nI k) L) (hT : ∀ S' M', SW S' → CI S' M' → MI S' M' → bL_law_2690 xs L L23 M' y4) : bL_law_1282 xs L L23 M y4 := by
  unfold bL_law_1282 pL_scored
  refine ⟨hv 1 (by omega), hv 2 (by omega), ?_⟩
  exact lawI (R := oScored S (xs (tn (y4 + 1))) (xs (tn (y4 + 2)))) (PC := fun Q K => pX10_scored M (xs (tn (y4 + 1))) (xs (tn (y4 + 2))) Q K) (PM := fun M1 Q => pX11_scored M1 (xs (tn (y4 + 1))) (xs (tn (y4 + 2))) Q) (G := fun M' => bL_law_1347 xs L L23 M' y4) hM (fun Q K k => c_scored hC hS (xs (tn (y4 + 1))) (xs (tn (y4 + 2))) k) (fun M1 Q h k => m_scored h hS (xs (tn (y4 + 1))) (xs (tn (y4 + 2))) k) (qC_scored S (xs (tn (y4 + 1))) (xs (tn (y4 + 2)))) (fun M' a b => hT _ M' (qS_scored hS (xs (tn (y4 + 1))) (xs (tn (y4 + 2)))) a b)
theorem qS_why {S : St} (hS : SW S) (x1 : Int32) : SW (oWhy S x1).1 := by
  unfold oWhy
  repeat' split
  all_goals exact hS
theorem qC_why (S : St) (x1 : Int32) : (oWhy S x1).2.1 = 0 ∨ (oWhy S x1).2.1 = 1 := by
  unfold oWhy
  repeat' split
  all_goals (first | exact Or.inl rfl | exact Or.inr rfl)
theorem w_why {xs : Nat → Int32} {L : Nat} {L23 : Mem × Int32 → Prop} {S : St} {M : Mem} {y4 : Int32} (hS : SW S) (hC : CI S M) (hM : MI S M) (hv : ∀ k : Nat, k < 6 → vp_in (y4 + nI k) L) (hT : ∀ S' M', SW S' → CI S' M' → MI S' M' → bL_law_2690 xs L L23 M' y4) : bL_law_1350 xs L L23 M y4 := by
  unfold bL_law_1350 pL_why
  refine ⟨hv 1 (by omega), ?_⟩
  exact lawN (R := oWhy S (xs (tn (y4 + 1)))) (PC := fun Q K => pX10_why M (xs (tn (y4 + 1))) Q K) (PM := fun M1 Q => pX11_why M1 (xs (tn (y4 + 1))) Q) (G := fun M' => bL_law_1403 xs L L23 M' y4) hM (fun Q K k => c_why hC hS (xs (tn (y4 + 1))) k) (fun M1 Q h k => m_why h hS (xs (tn (y4 + 1))) k) (qC_why S (xs (tn (y4 + 1)))) (fun M' a b => hT _ M' (qS_why hS (xs (tn (y4 + 1)))) a b)
theorem qS_score {S : St} (hS : SW S) (x1 : Int32) : SW (oScore S x1).1 := by
  unfold oScore
  repeat' split
  all_goals exact hS
theorem qC_score (S : St) (x1 : Int32) : (oScore S x1).2.1 = 0 ∨ (oScore S x1).2.1 = 1 := by
  unfold oScore
  repeat' split
  all_goals (first | exact Or.inl rfl | exact Or.inr rfl)
theorem w_score {xs : Nat → Int32} {L : Nat} {L23 : Mem × Int32 → Prop} {S : St} {M : Mem} {y4 : Int32} (hS : SW S) (hC : CI S M) (hM : MI S M) (hv : ∀ k : Nat, k < 6 → vp_in (y4 + nI k) L) (hT : ∀ S' M', SW S' → CI S' M' → MI S' M' → bL_law_2690 xs L L23 M' y4) : bL_law_1406 xs L L23 M y4 := by
  unfold bL_law_1406 pL_score
  refine ⟨hv 1 (by omega), ?_⟩
  exact lawN (R := oScore S (xs (tn (y4 + 1)))) (PC := fun Q K => pX10_score M (xs (tn (y4 + 1))) Q K) (PM := fun M1 Q => pX11_score M1 (xs (tn (y4 + 1))) Q) (G := fun M' => bL_law_1459 xs L L23 M' y4) hM (fun Q K k => c_score hC hS (xs (tn (y4 + 1))) k) (fun M1 Q h k => m_score h hS (xs (tn (y4 + 1))) k) (qC_score S (xs (tn (y4 + 1)))) (fun M' a b => hT _ M' (qS_score hS (xs (tn (y4 + 1)))) a b)
theorem qS_near {S : St} (hS : SW S) (x1 : Int32) : SW (oNear S x1).1 := by
  unfold oNear
  repeat' split
  all_goals exact hS
theorem qC_near (S : St) (x1 : Int32) : (oNear S x1).2.1 = 0 ∨ (oNear S x1).2.1 = 1 := by
  unfold oNear
  repeat' split
  all_goals (first | exact Or.inl rfl | exact Or.inr rfl)
theorem w_near {xs : Nat → Int32} {L : Nat} {L23 : Mem × Int32 → Prop} {S : St} {M : Mem} {y4 : Int32} (hS : SW S) (hC : CI S M) (hM : MI S M) (hv : ∀ k : Nat, k < 6 → vp_in (y4 + nI k) L) (hT : ∀ S' M', SW S' → CI S' M' → MI S' M' → bL_law_2690 xs L L23 M' y4) : bL_law_1462 xs L L23 M y4 := by
  unfold bL_law_1462 pL_near
  refine ⟨hv 1 (by omega), ?_⟩
  exact lawN (R := oNear S (xs (tn (y4 + 1)))) (PC := fun Q K => pX10_near M (xs (tn (y4 + 1))) Q K) (PM := fun M1 Q => pX11_near M1 (xs (tn (y4 + 1))) Q) (G := fun M' => bL_law_1515 xs L L23 M' y4) hM (fun Q K k => c_near hC hS (xs (tn (y4 + 1))) k) (fun M1 Q h k => m_near h hS (xs (tn (y4 + 1))) k) (qC_near S (xs (tn (y4 + 1)))) (fun M' a b => hT _ M' (qS_near hS (xs (tn (y4 + 1)))) a b)
theorem qS_window {S : St} (hS : SW S) (x1 x2 : Int32) : SW (oWindow S x1 x2).1 := by
  unfold oWindow
  repeat' split
  all_goals exact hS
theorem w_window {xs : Nat → Int32} {L : Nat} {L23 : Mem × Int32 → Prop} {S : St} {M : Mem} {y4 : Int32} (hS : SW S) (hC : CI S M) (hM : MI S M) (hv : ∀ k : Nat, k < 6 → vp_in (y4 + nI k) L) (hT : ∀ S' M', SW S' → CI S' M' → MI S' M' → bL_law_2690 xs L L23 M' y4) : bL_law_1518 xs L L23 M y4 := by
  unfold bL_law_1518 pL_window
  refine ⟨hv 1 (by omega), hv 2 (by omega), ?_⟩
  exact lawB (R := oWindow S (xs (tn (y4 + 1))) (xs (tn (y4 + 2)))) (PC := fun Q K => pX10_window M (xs (tn (y4 + 1))) (xs (tn (y4 + 2))) Q K) (PM := fun M1 Q => pX11_window M1 (xs (tn (y4 + 1))) (xs (tn (y4 + 2))) Q) (G := fun M' => bL_law_1583 xs L L23 M' y4) hM (fun Q K k => c_window hC hS (xs (tn (y4 + 1))) (xs (tn (y4 + 2))) k) (fun M1 Q h k => m_window h hS (xs (tn (y4 + 1))) (xs (tn (y4 + 2))) k) (fun M' a b => hT _ M' (qS_window hS (xs (tn (y4 + 1))) (xs (tn (y4 + 2)))) a b)
theorem qS_answers {S : St} (hS : SW S)  : SW (oAnswers S ).1 := by
  unfold oAnswers
  repeat' split
  all_goals exact hS
theorem qC_answers (S : St)  : (oAnswers S ).2.1 = 0 := by
  unfold oAnswers
  repeat' split
  all_goals rfl
theorem w_answers {xs : Nat → Int32} {L : Nat} {L23 : Mem × Int32 → Prop} {S : St} {M : Mem} {y4 : Int32} (hS : SW S) (hC : CI S M) (hM : MI S M) (hv : ∀ k : Nat, k < 6 → vp_in (y4 + nI k) L) (hT : ∀ S' M', SW S' → CI S' M' → MI S' M' → bL_law_2690 xs L L23 M' y4) : bL_law_1586 xs L L23 M y4 := by
  unfold bL_law_1586
  exact lawP (R := oAnswers S ) (PC := fun Q => pX10_answers M  Q) (PM := fun M1 Q => pX11_answers M1  Q) (G := fun M' => bL_law_2690 xs L L23 M' y4) hM (fun Q k => c_answers hC hS  k) (fun M1 Q h k => m_answers h hS  k) (qC_answers S ) (fun M' a b => hT _ M' (qS_answers hS ) a b)
theorem qS_answer {S : St} (hS : SW S) (x1 x2 : Int32) : SW (oAnswer S x1 x2).1 := by
  unfold oAnswer
  repeat' split
  all_goals exact hS
theorem w_answer {xs : Nat → Int32} {L : Nat} {L23 : Mem × Int32 → Prop} {S : St} {M : Mem} {y4 : Int32} (hS : SW S) (hC : CI S M) (hM : MI S M) (hv : ∀ k : Nat, k < 6 → vp_in (y4 + nI k) L) (hT : ∀ S' M', SW S' → CI S' M' → MI S' M' → bL_law_2690 xs L L23 M' y4) : bL_law_1599 xs L L23 M y4 := by
  unfold bL_law_1599 pL_answer
  refine ⟨hv 1 (by omega), hv 2 (by omega), ?_⟩
  exact lawB (R := oAnswer S (xs (tn (y4 + 1))) (xs (tn (y4 + 2)))) (PC := fun Q K => pX10_answer M (xs (tn (y4 + 1))) (xs (tn (y4 + 2))) Q K) (PM := fun M1 Q => pX11_answer M1 (xs (tn (y4 + 1))) (xs (tn (y4 + 2))) Q) (G := fun M' => bL_law_1664 xs L L23 M' y4) hM (fun Q K k => c_answer hC hS (xs (tn (y4 + 1))) (xs (tn (y4 + 2))) k) (fun M1 Q h k => m_answer h hS (xs (tn (y4 + 1))) (xs (tn (y4 + 2))) k) (fun M' a b => hT _ M' (qS_answer hS (xs (tn (y4 + 1))) (xs (tn (y4 + 2)))) a b)
theorem qS_place {S : St} (hS : SW S) (x1 : Int32) : SW (oPlace S x1).1 := by
  unfold oPlace
  repeat' split
  all_goals exact hS
theorem qC_place (S : St) (x1 : Int32) : (oPlace S x1).2.1 = 0 ∨ (oPlace S x1).2.1 = 1 := by
  unfold oPlace
  repeat' split
  all_goals (first | exact Or.inl rfl | exact Or.inr rfl)
theorem w_place {xs : Nat → Int32} {L : Nat} {L23 : Mem × Int32 → Prop} {S : St} {M : Mem} {y4 : Int32} (hS : SW S) (hC : CI S M) (hM : MI S M) (hv : ∀ k : Nat, k < 6 → vp_in (y4 + nI k) L) (hT : ∀ S' M', SW S' → CI S' M' → MI S' M' → bL_law_2690 xs L L23 M' y4) : bL_law_1667 xs L L23 M y4 := by
  unfold bL_law_1667 pL_place
  refine ⟨hv 1 (by omega), ?_⟩
  exact lawN (R := oPlace S (xs (tn (y4 + 1)))) (PC := fun Q K => pX10_place M (xs (tn (y4 + 1))) Q K) (PM := fun M1 Q => pX11_place M1 (xs (tn (y4 + 1))) Q) (G := fun M' => bL_law_1720 xs L L23 M' y4) hM (fun Q K k => c_place hC hS (xs (tn (y4 + 1))) k) (fun M1 Q h k => m_place h hS (xs (tn (y4 + 1))) k) (qC_place S (xs (tn (y4 + 1)))) (fun M' a b => hT _ M' (qS_place hS (xs (tn (y4 + 1)))) a b)
theorem qS_early {S : St} (hS : SW S) (x1 x2 : Int32) : SW (oEarly S x1 x2).1 := by
  unfold oEarly
  repeat' split
  all_goals exact hS
theorem qC_early (S : St) (x1 x2 : Int32) : (oEarly S x1 x2).2.1 = 0 ∨ (oEarly S x1 x2).2.1 = 2 := by
  unfold oEarly
  repeat' split
  all_goals (first | exact Or.inl rfl | exact Or.inr rfl)
theorem w_early {xs : Nat → Int32} {L : Nat} {L23 : Mem × Int32 → Prop} {S : St} {M : Mem} {y4 : Int32} (hS : SW S) (hC : CI S M) (hM : MI S M) (hv : ∀ k : Nat, k < 6 → vp_in (y4 + nI k) L) (hT : ∀ S' M', SW S' → CI S' M' → MI S' M' → bL_law_2690 xs L L23 M' y4) : bL_law_1723 xs L L23 M y4 := by
  unfold bL_law_1723 pL_early
  refine ⟨hv 1 (by omega), hv 2 (by omega), ?_⟩
  exact lawI (R := oEarly S (xs (tn (y4 + 1))) (xs (tn (y4 + 2)))) (PC := fun Q K => pX10_early M (xs (tn (y4 + 1))) (xs (tn (y4 + 2))) Q K) (PM := fun M1 Q => pX11_early M1 (xs (tn (y4 + 1))) (xs (tn (y4 + 2))) Q) (G := fun M' => bL_law_1788 xs L L23 M' y4) hM (fun Q K k => c_early hC hS (xs (tn (y4 + 1))) (xs (tn (y4 + 2))) k) (fun M1 Q h k => m_early h hS (xs (tn (y4 + 1))) (xs (tn (y4 + 2))) k) (qC_early S (xs (tn (y4 + 1))) (xs (tn (y4 + 2)))) (fun M' a b => hT _ M' (qS_early hS (xs (tn (y4 + 1))) (xs (tn (y4 + 2)))) a b)
theorem qS_best {S : St} (hS : SW S) (x1 x2 : Int32) : SW (oBest S x1 x2).1 := by
  unfold oBest
  repeat' split
  all_goals exact hS
theorem qC_best (S : St) (x1 x2 : Int32) : (oBest S x1 x2).2.1 = 0 ∨ (oBest S x1 x2).2.1 = 2 := by
  unfold oBest
  repeat' split
  all_goals (first | exact Or.inl rfl | exact Or.inr rfl)
theorem w_best {xs : Nat → Int32} {L : Nat} {L23 : Mem × Int32 → Prop} {S : St} {M : Mem} {y4 : Int32} (hS : SW S) (hC : CI S M) (hM : MI S M) (hv : ∀ k : Nat, k < 6 → vp_in (y4 + nI k) L) (hT : ∀ S' M', SW S' → CI S' M' → MI S' M' → bL_law_2690 xs L L23 M' y4) : bL_law_1791 xs L L23 M y4 := by
  unfold bL_law_1791 pL_best
  refine ⟨hv 1 (by omega), hv 2 (by omega), ?_⟩
  exact lawI (R := oBest S (xs (tn (y4 + 1))) (xs (tn (y4 + 2)))) (PC := fun Q K => pX10_best M (xs (tn (y4 + 1))) (xs (tn (y4 + 2))) Q K) (PM := fun M1 Q => pX11_best M1 (xs (tn (y4 + 1))) (xs (tn (y4 + 2))) Q) (G := fun M' => bL_law_1856 xs L L23 M' y4) hM (fun Q K k => c_best hC hS (xs (tn (y4 + 1))) (xs (tn (y4 + 2))) k) (fun M1 Q h k => m_best h hS (xs (tn (y4 + 1))) (xs (tn (y4 + 2))) k) (qC_best S (xs (tn (y4 + 1))) (xs (tn (y4 + 2)))) (fun M' a b => hT _ M' (qS_best hS (xs (tn (y4 + 1))) (xs (tn (y4 + 2)))) a b)
theorem qS_opened {S : St} (hS : SW S) (x1 x2 x3 : Int32) : SW (oOpened S x1 x2 x3).1 := by
  unfold oOpened
  repeat' split
  all_goals exact hS
theorem w_opened {xs : Nat → Int32} {L : Nat} {L23 : Mem × Int32 → Prop} {S : St} {M : Mem} {y4 : Int32} (hS : SW S) (hC : CI S M) (hM : MI S M) (hv : ∀ k : Nat, k < 6 → vp_in (y4 + nI k) L) (hT : ∀ S' M', SW S' → CI S' M' → MI S' M' → bL_law_2690 xs L L23 M' y4) : bL_law_1859 xs L L23 M y4 := by
  unfold bL_law_1859 pL_opened
  refine ⟨hv 1 (by omega), hv 2 (by omega), hv 3 (by omega), ?_⟩
  exact lawB (R := oOpened S (xs (tn (y4 + 1))) (xs (tn (y4 + 2))) (xs (tn (y4 + 3)))) (PC := fun Q K => pX10_opened M (xs (tn (y4 + 1))) (xs (tn (y4 + 2))) (xs (tn (y4 + 3))) Q K) (PM := fun M1 Q => pX11_opened M1 (xs (tn (y4 + 1))) (xs (tn (y4 + 2))) (xs (tn (y4 + 3))) Q) (G := fun M' => bL_law_1936 xs L L23 M' y4) hM (fun Q K k => c_opened hC hS (xs (tn (y4 + 1))) (xs (tn (y4 + 2))) (xs (tn (y4 + 3))) k) (fun M1 Q h k => m_opened h hS (xs (tn (y4 + 1))) (xs (tn (y4 + 2))) (xs (tn (y4 + 3))) k) (fun M' a b => hT _ M' (qS_opened hS (xs (tn (y4 + 1))) (xs (tn (y4 + 2))) (xs (tn (y4 + 3)))) a b)
theorem qS_inside {S : St} (hS : SW S) (x1 x2 : Int32) : SW (oInside S x1 x2).1 := by
  unfold oInside
  repeat' split
  all_goals exact hS
theorem qC_inside (S : St) (x1 x2 : Int32) : (oInside S x1 x2).2.1 = 0 ∨ (oInside S x1 x2).2.1 = 1 := by
  unfold oInside
  repeat' split
  all_goals (first | exact Or.inl rfl | exact Or.inr rfl)
theorem w_inside {xs : Nat → Int32} {L : Nat} {L23 : Mem × Int32 → Prop} {S : St} {M : Mem} {y4 : Int32} (hS : SW S) (hC : CI S M) (hM : MI S M) (hv : ∀ k : Nat, k < 6 → vp_in (y4 + nI k) L) (hT : ∀ S' M', SW S' → CI S' M' → MI S' M' → bL_law_2690 xs L L23 M' y4) : bL_law_1939 xs L L23 M y4 := by
  unfold bL_law_1939 pL_inside
  refine ⟨hv 1 (by omega), hv 2 (by omega), ?_⟩
  exact lawN (R := oInside S (xs (tn (y4 + 1))) (xs (tn (y4 + 2)))) (PC := fun Q K => pX10_inside M (xs (tn (y4 + 1))) (xs (tn (y4 + 2))) Q K) (PM := fun M1 Q => pX11_inside M1 (xs (tn (y4 + 1))) (xs (tn (y4 + 2))) Q) (G := fun M' => bL_law_2004 xs L L23 M' y4) hM (fun Q K k => c_inside hC hS (xs (tn (y4 + 1))) (xs (tn (y4 + 2))) k) (fun M1 Q h k => m_inside h hS (xs (tn (y4 + 1))) (xs (tn (y4 + 2))) k) (qC_inside S (xs (tn (y4 + 1))) (xs (tn (y4 + 2)))) (fun M' a b => hT _ M' (qS_inside hS (xs (tn (y4 + 1))) (xs (tn (y4 + 2)))) a b)
theorem qS_bits {S : St} (hS : SW S) (x1 : Int32) : SW (oBits S x1).1 := by
  unfold oBits
  repeat' split
  all_goals exact hS
theorem qC_bits (S : St) (x1 : Int32) : (oBits S x1).2.1 = 0 ∨ (oBits S x1).2.1 = 2 := by
  unfold oBits
  repeat' split
  all_goals (first | exact Or.inl rfl | exact Or.inr rfl)
theorem w_bits {xs : Nat → Int32} {L : Nat} {L23 : Mem × Int32 → Prop} {S : St} {M : Mem} {y4 : Int32} (hS : SW S) (hC : CI S M) (hM : MI S M) (hv : ∀ k : Nat, k < 6 → vp_in (y4 + nI k) L) (hT : ∀ S' M', SW S' → CI S' M' → MI S' M' → bL_law_2690 xs L L23 M' y4) : bL_law_2007 xs L L23 M y4 := by
  unfold bL_law_2007 pL_bits
  refine ⟨hv 1 (by omega), ?_⟩
  exact lawI (R := oBits S (xs (tn (y4 + 1)))) (PC := fun Q K => pX10_bits M (xs (tn (y4 + 1))) Q K) (PM := fun M1 Q => pX11_bits M1 (xs (tn (y4 + 1))) Q) (G := fun M' => bL_law_2060 xs L L23 M' y4) hM (fun Q K k => c_bits hC hS (xs (tn (y4 + 1))) k) (fun M1 Q h k => m_bits h hS (xs (tn (y4 + 1))) k) (qC_bits S (xs (tn (y4 + 1)))) (fun M' a b => hT _ M' (qS_bits hS (xs (tn (y4 + 1)))) a b)
theorem qS_thrift {S : St} (hS : SW S)  : SW (oThrift S ).1 := by
  unfold oThrift
  repeat' split
  all_goals exact hS
theorem qC_thrift (S : St)  : (oThrift S ).2.1 = 0 := by
  unfold oThrift
  repeat' split
  all_goals rfl
theorem w_thrift {xs : Nat → Int32} {L : Nat} {L23 : Mem × Int32 → Prop} {S : St} {M : Mem} {y4 : Int32} (hS : SW S) (hC : CI S M) (hM : MI S M) (hv : ∀ k : Nat, k < 6 → vp_in (y4 + nI k) L) (hT : ∀ S' M', SW S' → CI S' M' → MI S' M' → bL_law_2690 xs L L23 M' y4) : bL_law_2063 xs L L23 M y4 := by
  unfold bL_law_2063
  exact lawP (R := oThrift S ) (PC := fun Q => pX10_thrift M  Q) (PM := fun M1 Q => pX11_thrift M1  Q) (G := fun M' => bL_law_2690 xs L L23 M' y4) hM (fun Q k => c_thrift hC hS  k) (fun M1 Q h k => m_thrift h hS  k) (qC_thrift S ) (fun M' a b => hT _ M' (qS_thrift hS ) a b)
theorem qS_swift {S : St} (hS : SW S) (x1 x2 : Int32) : SW (oSwift S x1 x2).1 := by
  unfold oSwift
  repeat' split
  all_goals exact hS
theorem qC_swift (S : St) (x1 x2 : Int32) : (oSwift S x1 x2).2.1 = 0 ∨ (oSwift S x1 x2).2.1 = 2 := by
  unfold oSwift
  repeat' split
  all_goals (first | exact Or.inl rfl | exact Or.inr rfl)
theorem w_swift {xs : Nat → Int32} {L : Nat} {L23 : Mem × Int32 → Prop} {S : St} {M : Mem} {y4 : Int32} (hS : SW S) (hC : CI S M) (hM : MI S M) (hv : ∀ k : Nat, k < 6 → vp_in (y4 + nI k) L) (hT : ∀ S' M', SW S' → CI S' M' → MI S' M' → bL_law_2690 xs L L23 M' y4) : bL_law_2076 xs L L23 M y4 := by
  unfold bL_law_2076 pL_swift
  refine ⟨hv 1 (by omega), hv 2 (by omega), ?_⟩
  exact lawI (R := oSwift S (xs (tn (y4 + 1))) (xs (tn (y4 + 2)))) (PC := fun Q K => pX10_swift M (xs (tn (y4 + 1))) (xs (tn (y4 + 2))) Q K) (PM := fun M1 Q => pX11_swift M1 (xs (tn (y4 + 1))) (xs (tn (y4 + 2))) Q) (G := fun M' => bL_law_2141 xs L L23 M' y4) hM (fun Q K k => c_swift hC hS (xs (tn (y4 + 1))) (xs (tn (y4 + 2))) k) (fun M1 Q h k => m_swift h hS (xs (tn (y4 + 1))) (xs (tn (y4 + 2))) k) (qC_swift S (xs (tn (y4 + 1))) (xs (tn (y4 + 2)))) (fun M' a b => hT _ M' (qS_swift hS (xs (tn (y4 + 1))) (xs (tn (y4 + 2)))) a b)
theorem qS_blockOf {S : St} (hS : SW S) (x1 x2 : Int32) : SW (oBlockOf S x1 x2).1 := by
  unfold oBlockOf
  repeat' split
  all_goals exact hS
theorem qC_blockOf (S : St) (x1 x2 : Int32) : (oBlockOf S x1 x2).2.1 = 0 ∨ (oBlockOf S x1 x2).2.1 = 1 := by
  unfold oBlockOf
  repeat' split
  all_goals (first | exact Or.inl rfl | exact Or.inr rfl)
theorem w_blockOf {xs : Nat → Int32} {L : Nat} {L23 : Mem × Int32 → Prop} {S : St} {M : Mem} {y4 : Int32} (hS : SW S) (hC : CI S M) (hM : MI S M) (hv : ∀ k : Nat, k < 6 → vp_in (y4 + nI k) L) (hT : ∀ S' M', SW S' → CI S' M' → MI S' M' → bL_law_2690 xs L L23 M' y4) : bL_law_2144 xs L L23 M y4 := by
  unfold bL_law_2144 pL_blockOf
  refine ⟨hv 1 (by omega), hv 2 (by omega), ?_⟩
  exact lawN (R := oBlockOf S (xs (tn (y4 + 1))) (xs (tn (y4 + 2)))) (PC := fun Q K => pX10_blockOf M (xs (tn (y4 + 1))) (xs (tn (y4 + 2))) Q K) (PM := fun M1 Q => pX11_blockOf M1 (xs (tn (y4 + 1))) (xs (tn (y4 + 2))) Q) (G := fun M' => bL_law_2209 xs L L23 M' y4) hM (fun Q K k => c_blockOf hC hS (xs (tn (y4 + 1))) (xs (tn (y4 + 2))) k) (fun M1 Q h k => m_blockOf h hS (xs (tn (y4 + 1))) (xs (tn (y4 + 2))) k) (qC_blockOf S (xs (tn (y4 + 1))) (xs (tn (y4 + 2)))) (fun M' a b => hT _ M' (qS_blockOf hS (xs (tn (y4 + 1))) (xs (tn (y4 + 2)))) a b)
theorem qS_full {S : St} (hS : SW S)  : SW (oFull S ).1 := by
  unfold oFull
  repeat' split
  all_goals exact hS
theorem qC_full (S : St)  : (oFull S ).2.1 = 0 := by
  unfold oFull
  repeat' split
  all_goals rfl
theorem w_full {xs : Nat → Int32} {L : Nat} {L23 : Mem × Int32 → Prop} {S : St} {M : Mem} {y4 : Int32} (hS : SW S) (hC : CI S M) (hM : MI S M) (hv : ∀ k : Nat, k < 6 → vp_in (y4 + nI k) L) (hT : ∀ S' M', SW S' → CI S' M' → MI S' M' → bL_law_2690 xs L L23 M' y4) : bL_law_2212 xs L L23 M y4 := by
  unfold bL_law_2212
  exact lawP (R := oFull S ) (PC := fun Q => pX10_full M  Q) (PM := fun M1 Q => pX11_full M1  Q) (G := fun M' => bL_law_2690 xs L L23 M' y4) hM (fun Q k => c_full hC hS  k) (fun M1 Q h k => m_full h hS  k) (qC_full S ) (fun M' a b => hT _ M' (qS_full hS ) a b)
theorem qS_spread {S : St} (hS : SW S) (x1 : Int32) : SW (oSpread S x1).1 := by
  unfold oSpread
  repeat' split
  all_goals exact hS
theorem qC_spread (S : St) (x1 : Int32) : (oSpread S x1).2.1 = 0 ∨ (oSpread S x1).2.1 = 2 := by
  unfold oSpread
  repeat' split
  all_goals (first | exact Or.inl rfl | exact Or.inr rfl)
theorem w_spread {xs : Nat → Int32} {L : Nat} {L23 : Mem × Int32 → Prop} {S : St} {M : Mem} {y4 : Int32} (hS : SW S) (hC : CI S M) (hM : MI S M) (hv : ∀ k : Nat, k < 6 → vp_in (y4 + nI k) L) (hT : ∀ S' M', SW S' → CI S' M' → MI S' M' → bL_law_2690 xs L L23 M' y4) : bL_law_2225 xs L L23 M y4 := by
  unfold bL_law_2225 pL_spread
  refine ⟨hv 1 (by omega), ?_⟩
  exact lawI (R := oSpread S (xs (tn (y4 + 1)))) (PC := fun Q K => pX10_spread M (xs (tn (y4 + 1))) Q K) (PM := fun M1 Q => pX11_spread M1 (xs (tn (y4 + 1))) Q) (G := fun M' => bL_law_2278 xs L L23 M' y4) hM (fun Q K k => c_spread hC hS (xs (tn (y4 + 1))) k) (fun M1 Q h k => m_spread h hS (xs (tn (y4 + 1))) k) (qC_spread S (xs (tn (y4 + 1)))) (fun M' a b => hT _ M' (qS_spread hS (xs (tn (y4 + 1)))) a b)
theorem qS_nearest {S : St} (hS : SW S) (x1 : Int32) : SW (oNearest S x1).1 := by
  unfold oNearest
  repeat' split
  all_goals exact hS
theorem qC_nearest (S : St) (x1 : Int32) : (oNearest S x1).2.1 = 0 ∨ (oNearest S x1).2.1 = 1 := by
  unfold oNearest
  repeat' split
  all_goals (first | exact Or.inl rfl | exact Or.inr rfl)
theorem w_nearest {xs : Nat → Int32} {L : Nat} {L23 : Mem × Int32 → Prop} {S : St} {M : Mem} {y4 : Int32} (hS : SW S) (hC : CI S M) (hM : MI S M) (hv : ∀ k : Nat, k < 6 → vp_in (y4 + nI k) L) (hT : ∀ S' M', SW S' → CI S' M' → MI S' M' → bL_law_2690 xs L L23 M' y4) : bL_law_2281 xs L L23 M y4 := by
  unfold bL_law_2281 pL_nearest
  refine ⟨hv 1 (by omega), ?_⟩
  exact lawN (R := oNearest S (xs (tn (y4 + 1)))) (PC := fun Q K => pX10_nearest M (xs (tn (y4 + 1))) Q K) (PM := fun M1 Q => pX11_nearest M1 (xs (tn (y4 + 1))) Q) (G := fun M' => bL_law_2334 xs L L23 M' y4) hM (fun Q K k => c_nearest hC hS (xs (tn (y4 + 1))) k) (fun M1 Q h k => m_nearest h hS (xs (tn (y4 + 1))) k) (qC_nearest S (xs (tn (y4 + 1)))) (fun M' a b => hT _ M' (qS_nearest hS (xs (tn (y4 + 1)))) a b)
theorem qS_rarest {S : St} (hS : SW S) (x1 : Int32) : SW (oRarest S x1).1 := by
  unfold oRarest
  repeat' split
  all_goals exact hS
theorem qC_rarest (S : St) (x1 : Int32) : (oRarest S x1).2.1 = 0 ∨ (oRarest S x1).2.1 = 1 := by
  unfold oRarest
  repeat' split
  all_goals (first | exact Or.inl rfl | exact Or.inr rfl)
theorem w_rarest {xs : Nat → Int32} {L : Nat} {L23 : Mem × Int32 → Prop} {S : St} {M : Mem} {y4 : Int32} (hS : SW S) (hC : CI S M) (hM : MI S M) (hv : ∀ k : Nat, k < 6 → vp_in (y4 + nI k) L) (hT : ∀ S' M', SW S' → CI S' M' → MI S' M' → bL_law_2690 xs L L23 M' y4) : bL_law_2337 xs L L23 M y4 := by
  unfold bL_law_2337 pL_rarest
  refine ⟨hv 1 (by omega), ?_⟩
  exact lawN (R := oRarest S (xs (tn (y4 + 1)))) (PC := fun Q K => pX10_rarest M (xs (tn (y4 + 1))) Q K) (PM := fun M1 Q => pX11_rarest M1 (xs (tn (y4 + 1))) Q) (G := fun M' => bL_law_2390 xs L L23 M' y4) hM (fun Q K k => c_rarest hC hS (xs (tn (y4 + 1))) k) (fun M1 Q h k => m_rarest h hS (xs (tn (y4 + 1))) k) (qC_rarest S (xs (tn (y4 + 1)))) (fun M' a b => hT _ M' (qS_rarest hS (xs (tn (y4 + 1)))) a b)
theorem qS_points {S : St} (hS : SW S) (x1 x2 : Int32) : SW (oPoints S x1 x2).1 := by
  unfold oPoints
  repeat' split
  all_goals exact hS
theorem qC_points (S : St) (x1 x2 : Int32) : (oPoints S x1 x2).2.1 = 0 ∨ (oPoints S x1 x2).2.1 = 1 := by
  unfold oPoints
  repeat' split
  all_goals (first | exact Or.inl rfl | exact Or.inr rfl)
theorem w_points {xs : Nat → Int32} {L : Nat} {L23 : Mem × Int32 → Prop} {S : St} {M : Mem} {y4 : Int32} (hS : SW S) (hC : CI S M) (hM : MI S M) (hv : ∀ k : Nat, k < 6 → vp_in (y4 + nI k) L) (hT : ∀ S' M', SW S' → CI S' M' → MI S' M' → bL_law_2690 xs L L23 M' y4) : bL_law_2393 xs L L23 M y4 := by
  unfold bL_law_2393 pL_points
  refine ⟨hv 1 (by omega), hv 2 (by omega), ?_⟩
  exact lawN (R := oPoints S (xs (tn (y4 + 1))) (xs (tn (y4 + 2)))) (PC := fun Q K => pX10_points M (xs (tn (y4 + 1))) (xs (tn (y4 + 2))) Q K) (PM := fun M1 Q => pX11_points M1 (xs (tn (y4 + 1))) (xs (tn (y4 + 2))) Q) (G := fun M' => bL_law_2458 xs L L23 M' y4) hM (fun Q K k => c_points hC hS (xs (tn (y4 + 1))) (xs (tn (y4 + 2))) k) (fun M1 Q h k => m_points h hS (xs (tn (y4 + 1))) (xs (tn (y4 + 2))) k) (qC_points S (xs (tn (y4 + 1))) (xs (tn (y4 + 2)))) (fun M' a b => hT _ M' (qS_points hS (xs (tn (y4 + 1))) (xs (tn (y4 + 2)))) a b)
theorem qS_phrase {S : St} (hS : SW S) (x1 x2 : Int32) : SW (oPhrase S x1 x2).1 := by
  unfold oPhrase
  repeat' split
  all_goals exact hS
theorem qC_phrase (S : St) (x1 x2 : Int32) : (oPhrase S x1 x2).2.1 = 0 ∨ (oPhrase S x1 x2).2.1 = 1 := by
  unfold oPhrase
  repeat' split
  all_goals (first | exact Or.inl rfl | exact Or.inr rfl)
theorem w_phrase {xs : Nat → Int32} {L : Nat} {L23 : Mem × Int32 → Prop} {S : St} {M : Mem} {y4 : Int32} (hS : SW S) (hC : CI S M) (hM : MI S M) (hv : ∀ k : Nat, k < 6 → vp_in (y4 + nI k) L) (hT : ∀ S' M', SW S' → CI S' M' → MI S' M' → bL_law_2690 xs L L23 M' y4) : bL_law_2461 xs L L23 M y4 := by
  unfold bL_law_2461 pL_phrase
  refine ⟨hv 1 (by omega), hv 2 (by omega), ?_⟩
  exact lawN (R := oPhrase S (xs (tn (y4 + 1))) (xs (tn (y4 + 2)))) (PC := fun Q K => pX10_phrase M (xs (tn (y4 + 1))) (xs (tn (y4 + 2))) Q K) (PM := fun M1 Q => pX11_phrase M1 (xs (tn (y4 + 1))) (xs (tn (y4 + 2))) Q) (G := fun M' => bL_law_2526 xs L L23 M' y4) hM (fun Q K k => c_phrase hC hS (xs (tn (y4 + 1))) (xs (tn (y4 + 2))) k) (fun M1 Q h k => m_phrase h hS (xs (tn (y4 + 1))) (xs (tn (y4 + 2))) k) (qC_phrase S (xs (tn (y4 + 1))) (xs (tn (y4 + 2)))) (fun M' a b => hT _ M' (qS_phrase hS (xs (tn (y4 + 1))) (xs (tn (y4 + 2)))) a b)
theorem qS_depth {S : St} (hS : SW S) (x1 x2 : Int32) : SW (oDepth S x1 x2).1 := by
  unfold oDepth
  repeat' split
  all_goals exact hS
theorem qC_depth (S : St) (x1 x2 : Int32) : (oDepth S x1 x2).2.1 = 0 ∨ (oDepth S x1 x2).2.1 = 1 := by
  unfold oDepth
  repeat' split
  all_goals (first | exact Or.inl rfl | exact Or.inr rfl)
theorem w_depth {xs : Nat → Int32} {L : Nat} {L23 : Mem × Int32 → Prop} {S : St} {M : Mem} {y4 : Int32} (hS : SW S) (hC : CI S M) (hM : MI S M) (hv : ∀ k : Nat, k < 6 → vp_in (y4 + nI k) L) (hT : ∀ S' M', SW S' → CI S' M' → MI S' M' → bL_law_2690 xs L L23 M' y4) : bL_law_2529 xs L L23 M y4 := by
  unfold bL_law_2529 pL_depth
  refine ⟨hv 1 (by omega), hv 2 (by omega), ?_⟩
  exact lawN (R := oDepth S (xs (tn (y4 + 1))) (xs (tn (y4 + 2)))) (PC := fun Q K => pX10_depth M (xs (tn (y4 + 1))) (xs (tn (y4 + 2))) Q K) (PM := fun M1 Q => pX11_depth M1 (xs (tn (y4 + 1))) (xs (tn (y4 + 2))) Q) (G := fun M' => bL_law_2594 xs L L23 M' y4) hM (fun Q K k => c_depth hC hS (xs (tn (y4 + 1))) (xs (tn (y4 + 2))) k) (fun M1 Q h k => m_depth h hS (xs (tn (y4 + 1))) (xs (tn (y4 + 2))) k) (qC_depth S (xs (tn (y4 + 1))) (xs (tn (y4 + 2)))) (fun M' a b => hT _ M' (qS_depth hS (xs (tn (y4 + 1))) (xs (tn (y4 + 2)))) a b)
theorem qS_without {S : St} (hS : SW S) (x1 x2 : Int32) : SW (oWithout S x1 x2).1 := by
  unfold oWithout
  repeat' split
  all_goals exact hS
theorem qC_without (S : St) (x1 x2 : Int32) : (oWithout S x1 x2).2.1 = 0 ∨ (oWithout S x1 x2).2.1 = 2 := by
  unfold oWithout
  repeat' split
  all_goals (first | exact Or.inl rfl | exact Or.inr rfl)
theorem w_without {xs : Nat → Int32} {L : Nat} {L23 : Mem × Int32 → Prop} {S : St} {M : Mem} {y4 : Int32} (hS : SW S) (hC : CI S M) (hM : MI S M) (hv : ∀ k : Nat, k < 6 → vp_in (y4 + nI k) L) (hT : ∀ S' M', SW S' → CI S' M' → MI S' M' → bL_law_2690 xs L L23 M' y4) : bL_law_2597 xs L L23 M y4 := by
  unfold bL_law_2597 pL_without
  refine ⟨hv 1 (by omega), hv 2 (by omega), ?_⟩
  exact lawI (R := oWithout S (xs (tn (y4 + 1))) (xs (tn (y4 + 2)))) (PC := fun Q K => pX10_without M (xs (tn (y4 + 1))) (xs (tn (y4 + 2))) Q K) (PM := fun M1 Q => pX11_without M1 (xs (tn (y4 + 1))) (xs (tn (y4 + 2))) Q) (G := fun M' => bL_law_2662 xs L L23 M' y4) hM (fun Q K k => c_without hC hS (xs (tn (y4 + 1))) (xs (tn (y4 + 2))) k) (fun M1 Q h k => m_without h hS (xs (tn (y4 + 1))) (xs (tn (y4 + 2))) k) (qC_without S (xs (tn (y4 + 1))) (xs (tn (y4 + 2)))) (fun M' a b => hT _ M' (qS_without hS (xs (tn (y4 + 1))) (xs (tn (y4 + 2)))) a b)
theorem qS_status {S : St} (hS : SW S) (x1 : Int32) : SW (oStatus S x1).1 := by
  unfold oStatus
  repeat' split
  all_goals exact hS
theorem qC_status (S : St) (x1 : Int32) : (oStatus S x1).2.1 = 0 := by
  unfold oStatus
  repeat' split
  all_goals rfl
theorem w_status {xs : Nat → Int32} {L : Nat} {L23 : Mem × Int32 → Prop} {S : St} {M : Mem} {y4 : Int32} (hS : SW S) (hC : CI S M) (hM : MI S M) (hv : ∀ k : Nat, k < 6 → vp_in (y4 + nI k) L) (hT : ∀ S' M', SW S' → CI S' M' → MI S' M' → bL_law_2690 xs L L23 M' y4) : bL_law_2665 xs L L23 M y4 := by
  unfold bL_law_2665
  refine ⟨hv 1 (by omega), ?_⟩
  exact lawP (R := oStatus S (xs (tn (y4 + 1)))) (PC := fun Q => pX10_status M (xs (tn (y4 + 1))) Q) (PM := fun M1 Q => pX11_status M1 (xs (tn (y4 + 1))) Q) (G := fun M' => bL_law_2690 xs L L23 M' y4) hM (fun Q k => c_status hC hS (xs (tn (y4 + 1))) k) (fun M1 Q h k => m_status h hS (xs (tn (y4 + 1))) k) (qC_status S (xs (tn (y4 + 1)))) (fun M' a b => hT _ M' (qS_status hS (xs (tn (y4 + 1)))) a b)
theorem lt6 {L j : Nat} (hL : L ≤ 3072) (h : ¬ (nI L - 6) < nI (6 * j)) (hj : 6 * j ≤ L) : 6 * j + 6 ≤ L := by
  by_cases e : L < 6
  · exfalso
    refine h ?_
    have hn : nI L - 6 < nI 0 := by
      rcases (show L = 0 ∨ L = 1 ∨ L = 2 ∨ L = 3 ∨ L = 4 ∨ L = 5 by omega) with rfl | rfl | rfl | rfl | rfl | rfl <;> decide
    rw [Int32.lt_iff_toInt_lt] at hn ⊢
    rw [nI_toInt (by omega)] at hn ⊢
    omega
  · have es : nI L - 6 = nI (L - 6) := by show nI L - nI 6 = _; exact sbI (by omega)
    rw [es, ltI (by omega) (by omega)] at h
    omega
theorem law_all (xs : Nat → Int32) (L : Nat) (hL : L ≤ 3072) (f : Nat) : ∀ (j : Nat) (S : St) (M : Mem), SW S → CI S M → MI S M → f + j = 513 → 6 * j ≤ L → pL_law xs L f M (nI (6 * j)) := by
  induction f with
  | zero => intro j S M hS hC hM h1 h2; omega
  | succ f ih =>
    intro j S M hS hC hM h1 h2
    show bL_law_23 xs L (fun s => pL_law xs L f s.1 s.2) M (nI (6 * j))
    unfold bL_law_23
    refine ⟨fun _ => trivial, fun hlt => ?_⟩
    have h6 := lt6 hL hlt h2
    have hv : ∀ k : Nat, k < 6 → vp_in (nI (6 * j) + nI k) L := fun k hk => by
      rw [show nI (6 * j) + nI k = nI (6 * j + k) from adI (6 * j) k]
      exact (vpI (by omega)).mpr (by omega)
    have hT : ∀ S' M', SW S' → CI S' M' → MI S' M' → bL_law_2690 xs L (fun s => pL_law xs L f s.1 s.2) M' (nI (6 * j)) := fun S' M' a b c => by
      unfold bL_law_2690
      intro v ev
      rw [ev, show nI (6 * j) + 6 = nI (6 * (j + 1)) from adI (6 * j) 6]
      exact ih (j + 1) S' M' a b c (by omega) (by omega)
    refine ⟨(vpI (by omega)).mpr (by omega), fun _ => w_feed hS hC hM hv hT, fun _ => w_add hS hC hM hv hT, fun _ => w_ask hS hC hM hv hT, fun _ => w_fault hS hC hM hv hT, fun _ => w_find hS hC hM hv hT, fun _ => w_remove hS hC hM hv hT, fun _ => w_repack hS hC hM hv hT, fun _ => w_told hS hC hM hv hT, fun _ => w_document hS hC hM hv hT, fun _ => w_at hS hC hM hv hT, fun _ => w_word hS hC hM hv hT, fun _ => w_letter hS hC hM hv hT, fun _ => w_block hS hC hM hv hT, fun _ => w_posting hS hC hM hv hT, fun _ => w_position hS hC hM hv hT, fun _ => w_common hS hC hM hv hT, fun _ => w_alike hS hC hM hv hT, fun _ => w_scored hS hC hM hv hT, fun _ => w_why hS hC hM hv hT, fun _ => w_score hS hC hM hv hT, fun _ => w_near hS hC hM hv hT, fun _ => w_window hS hC hM hv hT, fun _ => w_answers hS hC hM hv hT, fun _ => w_answer hS hC hM hv hT, fun _ => w_place hS hC hM hv hT, fun _ => w_early hS hC hM hv hT, fun _ => w_best hS hC hM hv hT, fun _ => w_opened hS hC hM hv hT, fun _ => w_inside hS hC hM hv hT, fun _ => w_bits hS hC hM hv hT, fun _ => w_thrift hS hC hM hv hT, fun _ => w_swift hS hC hM hv hT, fun _ => w_blockOf hS hC hM hv hT, fun _ => w_full hS hC hM hv hT, fun _ => w_spread hS hC hM hv hT, fun _ => w_nearest hS hC hM hv hT, fun _ => w_rarest hS hC hM hv hT, fun _ => w_points hS hC hM hv hT, fun _ => w_phrase hS hC hM hv hT, fun _ => w_depth hS hC hM hv hT, fun _ => w_without hS hC hM hv hT, fun _ => w_status hS hC hM hv hT, ?_⟩
    intros
    exact hT S M hS hC hM
