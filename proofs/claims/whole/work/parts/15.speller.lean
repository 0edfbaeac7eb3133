def X5_putDigit (σ : Wd) (x1 : Int32) : Option (Wd) :=
  ((X4_append σ 91 (48 + x1)).bind fun σ1 => ((X4_append σ1 91 59).bind fun σ2 => some σ2))
set_option maxRecDepth 100000 in
set_option maxHeartbeats 4000000 in
theorem m_X5_putDigit {E : JE} (hE : 120 ≤ E.2.2.2.2.1) (σ : Wd) (x1 : Int32) {res : Wd} (hT : X5_putDigit σ x1 = some res) : kMt E yX5_putDigit mX5_putDigit rmX5_putDigit [.inr 90, .inl x1] σ (kQv res) := by
  refine kMt_of (by decide +kernel) rfl (Nat.le_of_ble_eq_true rfl) ?_
  generalize hQ : (kQv res) = Q
  show KJ E mX5_putDigit rmX5_putDigit 0 [some (.inr 90), some (.inl x1)] [] σ Q
  unfold X5_putDigit at hT
  refine kj_aload_n dX5_putDigit_0 (pc' := 1) rfl rfl rfl ?_
  refine kj_getR f_RX5_14 rfl (Nat.lt_of_lt_of_le (Nat.le_of_ble_eq_true rfl : 90 < 120) hE) (q := 91) rfl dX5_putDigit_1 (pc' := 4) rfl ?_
  refine kj_bipush dX5_putDigit_4 (pc' := 6) rfl kb_48 ?_
  refine kj_iload_n dX5_putDigit_6 (pc' := 7) rfl rfl rfl ?_
  refine kj_iadd dX5_putDigit_7 (pc' := 8) rfl ?_
  obtain ⟨σ1, hσ1, hT⟩ := bind_some' hT
  refine kcVv (as := [.inl (48 + x1)]) (st := []) l_RX5_43 (m_X4_append hE rfl σ (48 + x1) hσ1) rfl (Nat.lt_of_lt_of_le (Nat.le_of_ble_eq_true rfl : 91 < 120) hE) rfl ⟨⟨rfl, rfl⟩, Nat.le_of_ble_eq_true rfl, Nat.le_of_ble_eq_true rfl⟩ (Nat.le_of_ble_eq_true rfl) dX5_putDigit_8 (pc' := 11) rfl ?_
  refine kj_aload_n dX5_putDigit_11 (pc' := 12) rfl rfl rfl ?_
  refine kj_getR f_RX5_14 rfl (Nat.lt_of_lt_of_le (Nat.le_of_ble_eq_true rfl : 90 < 120) hE) (q := 91) rfl dX5_putDigit_12 (pc' := 15) rfl ?_
  refine kj_bipush dX5_putDigit_15 (pc' := 17) rfl kb_59 ?_
  obtain ⟨σ2, hσ2, hT⟩ := bind_some' hT
  refine kcVv (as := [.inl 59]) (st := []) l_RX5_43 (m_X4_append hE rfl σ1 59 hσ2) rfl (Nat.lt_of_lt_of_le (Nat.le_of_ble_eq_true rfl : 91 < 120) hE) rfl ⟨⟨rfl, rfl⟩, Nat.le_of_ble_eq_true rfl, Nat.le_of_ble_eq_true rfl⟩ (Nat.le_of_ble_eq_true rfl) dX5_putDigit_17 (pc' := 20) rfl ?_
  have hR := Option.some.inj hT
  subst hR
  exact kj_vret rfl dX5_putDigit_20 (by subst hQ; exact ⟨rfl, rfl⟩)
def X5_putLetters_J28 (rec2 : Int32 × Wd → Option (Wd)) (y2 : Int32) (ς : Wd) : Option (Wd) :=
  rec2 (y2 + 1, ς)
def X5_putLetters_B2 (x1 : Int32) (rec2 : Int32 × Wd → Option (Wd)) : Int32 × Wd → Option (Wd)
  | (x2, σ) => (if 7 ≤ x2 then ((X4_append σ 91 59).bind fun σ2 => some σ2) else (if ((x1 >>> (x2 &&& 31)) &&& 1) = 1 then ((X4_append σ 91 (97 + x2)).bind fun σ4 => X5_putLetters_J28 rec2 x2 σ4) else X5_putLetters_J28 rec2 x2 σ))
def X5_putLetters (σ : Wd) (x1 : Int32) : Option (Wd) :=
  (lp (X5_putLetters_B2 x1) FU (0, σ))
set_option maxRecDepth 100000 in
set_option maxHeartbeats 4000000 in
theorem m_X5_putLetters {E : JE} (hE : 120 ≤ E.2.2.2.2.1) (σ : Wd) (x1 : Int32) {res : Wd} (hT : X5_putLetters σ x1 = some res) : kMt E yX5_putLetters mX5_putLetters rmX5_putLetters [.inr 90, .inl x1] σ (kQv res) := by
  refine kMt_of (by decide +kernel) rfl (Nat.le_of_ble_eq_true rfl) ?_
  generalize hQ : (kQv res) = Q
  show KJ E mX5_putLetters rmX5_putLetters 0 [some (.inr 90), some (.inl x1)] [] σ Q
  unfold X5_putLetters at hT
  refine kj_iconst dX5_putLetters_0 (pc' := 1) rfl kc_0 ?_
  refine kj_istore_n dX5_putLetters_1 (pc' := 2) rfl rfl (Nat.le_of_ble_eq_true rfl) (ls' := [some (.inr 90), some (.inl x1), some (.inl 0)]) rfl ?_
  refine lp_ind (P := fun s => KJ E mX5_putLetters rmX5_putLetters 2 [some (.inr 90), some (.inl x1), some (.inl s.1)] [] s.2 Q) (fun rec2 s ih2 hT => ?_) FU (0, σ) hT
  obtain ⟨x2, σ⟩ := s
  show KJ E mX5_putLetters rmX5_putLetters 2 [some (.inr 90), some (.inl x1), some (.inl x2)] [] σ Q
  rw [X5_putLetters_B2] at hT
  have hJ28_2 : ∀ y2 ς, X5_putLetters_J28 rec2 y2 ς = some res → KJ E mX5_putLetters rmX5_putLetters 28 [some (.inr 90), some (.inl x1), some (.inl y2)] [] ς Q := by
    intro y2 ς hT
    unfold X5_putLetters_J28 at hT
    refine kj_iinc dX5_putLetters_28 (pc' := 31) rfl rfl (congrArg (_ + ·) kc_1) (Nat.le_of_ble_eq_true rfl) (ls' := [some (.inr 90), some (.inl x1), some (.inl (y2 + 1))]) rfl ?_
    refine kj_goto dX5_putLetters_31 (pc' := 2) rfl ?_
    exact ih2 (y2 + 1, ς) hT
  refine kj_iload_n dX5_putLetters_2 (pc' := 3) rfl rfl rfl ?_
  refine kj_bipush dX5_putLetters_3 (pc' := 5) rfl kb_7 ?_
  refine kj_icmp_ge dX5_putLetters_5 (tgt := 34) rfl (pc' := 8) rfl (fun c1 => ?_) (fun c1 => ?_)
  · rw [if_pos c1] at hT
    refine kj_aload_n dX5_putLetters_34 (pc' := 35) rfl rfl rfl ?_
    refine kj_getR f_RX5_14 rfl (Nat.lt_of_lt_of_le (Nat.le_of_ble_eq_true rfl : 90 < 120) hE) (q := 91) rfl dX5_putLetters_35 (pc' := 38) rfl ?_
    refine kj_bipush dX5_putLetters_38 (pc' := 40) rfl kb_59 ?_
    obtain ⟨σ2, hσ2, hT⟩ := bind_some' hT
    refine kcVv (as := [.inl 59]) (st := []) l_RX5_43 (m_X4_append hE rfl σ 59 hσ2) rfl (Nat.lt_of_lt_of_le (Nat.le_of_ble_eq_true rfl : 91 < 120) hE) rfl ⟨⟨rfl, rfl⟩, Nat.le_of_ble_eq_true rfl, Nat.le_of_ble_eq_true rfl⟩ (Nat.le_of_ble_eq_true rfl) dX5_putLetters_40 (pc' := 43) rfl ?_
    have hR := Option.some.inj hT
    subst hR
    exact kj_vret rfl dX5_putLetters_43 (by subst hQ; exact ⟨rfl, rfl⟩)
  · rw [if_neg c1] at hT
    refine kj_iload_n dX5_putLetters_8 (pc' := 9) rfl rfl rfl ?_
    refine kj_iload_n dX5_putLetters_9 (pc' := 10) rfl rfl rfl ?_
    refine kj_ishr dX5_putLetters_10 (pc' := 11) rfl ?_
    refine kj_iconst dX5_putLetters_11 (pc' := 12) rfl kc_1 ?_
    refine kj_iand dX5_putLetters_12 (pc' := 13) rfl ?_
    refine kj_iconst dX5_putLetters_13 (pc' := 14) rfl kc_1 ?_
    refine kj_icmp_ne dX5_putLetters_14 (tgt := 28) rfl (pc' := 17) rfl (fun c3 => ?_) (fun c3 => ?_)
    · rw [if_neg c3] at hT
      exact hJ28_2 x2 σ hT
    · rw [if_pos c3] at hT
      refine kj_aload_n dX5_putLetters_17 (pc' := 18) rfl rfl rfl ?_
      refine kj_getR f_RX5_14 rfl (Nat.lt_of_lt_of_le (Nat.le_of_ble_eq_true rfl : 90 < 120) hE) (q := 91) rfl dX5_putLetters_18 (pc' := 21) rfl ?_
      refine kj_bipush dX5_putLetters_21 (pc' := 23) rfl kb_97 ?_
      refine kj_iload_n dX5_putLetters_23 (pc' := 24) rfl rfl rfl ?_
      refine kj_iadd dX5_putLetters_24 (pc' := 25) rfl ?_
      obtain ⟨σ4, hσ4, hT⟩ := bind_some' hT
      refine kcVv (as := [.inl (97 + x2)]) (st := []) l_RX5_43 (m_X4_append hE rfl σ (97 + x2) hσ4) rfl (Nat.lt_of_lt_of_le (Nat.le_of_ble_eq_true rfl : 91 < 120) hE) rfl ⟨⟨rfl, rfl⟩, Nat.le_of_ble_eq_true rfl, Nat.le_of_ble_eq_true rfl⟩ (Nat.le_of_ble_eq_true rfl) dX5_putLetters_25 (pc' := 28) rfl ?_
      exact hJ28_2 x2 σ4 hT
