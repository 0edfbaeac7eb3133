def X5_putDigit (σ : Wd) (x1 : Int32) : Option (Wd) :=
  ((X4_append σ 91 (48 + x1)).bind fun σ1 => ((X4_append σ1 91 59).bind fun σ2 => some σ2))
set_option maxRecDepth 100000 in
set_option maxHeartbeats 4000000 in
theorem m_X5_putDigit {E : JE} (hE : kOk 120 E) (σ : Wd) (x1 : Int32) {res : Wd} (hT : X5_putDigit σ x1 = some res) : kMt E yX5_putDigit mX5_putDigit rmX5_putDigit [.inr 90, .inl x1] σ (kQv res) := by
  refine kMt_of (by decide +kernel) rfl (Nat.le_of_ble_eq_true rfl) ?_
  generalize hQ : (kQv res) = Q
  show KJ E mX5_putDigit rmX5_putDigit 0 [some (.inr 90), some (.inl x1)] [] σ Q
  unfold X5_putDigit at hT
  refine kj_aload_n dX5_putDigit_0 (pc' := 1) rfl rfl rfl ?_
  refine kj_getR f_RX5_14 rfl (Nat.lt_of_lt_of_le (Nat.le_of_ble_eq_true rfl : 90 < 120) hE.1) (hE.2 _ _) (q := 91) rfl dX5_putDigit_1 (pc' := 4) rfl ?_
  refine kj_bipush dX5_putDigit_4 (pc' := 6) rfl kb_48 ?_
  refine kj_iload_n dX5_putDigit_6 (pc' := 7) rfl rfl rfl ?_
  refine kj_iadd dX5_putDigit_7 (pc' := 8) rfl ?_
  obtain ⟨σ1, hσ1, hT⟩ := bind_some' hT
  refine kcVv (as := [.inl (48 + x1)]) (st := []) l_RX5_43 (m_X4_append hE rfl σ (48 + x1) hσ1) rfl (Nat.lt_of_lt_of_le (Nat.le_of_ble_eq_true rfl : 91 < 120) hE.1) rfl ⟨⟨rfl, rfl⟩, Nat.le_of_ble_eq_true rfl, Nat.le_of_ble_eq_true rfl⟩ (Nat.le_of_ble_eq_true rfl) dX5_putDigit_8 (pc' := 11) rfl ?_
  refine kj_aload_n dX5_putDigit_11 (pc' := 12) rfl rfl rfl ?_
  refine kj_getR f_RX5_14 rfl (Nat.lt_of_lt_of_le (Nat.le_of_ble_eq_true rfl : 90 < 120) hE.1) (hE.2 _ _) (q := 91) rfl dX5_putDigit_12 (pc' := 15) rfl ?_
  refine kj_bipush dX5_putDigit_15 (pc' := 17) rfl kb_59 ?_
  obtain ⟨σ2, hσ2, hT⟩ := bind_some' hT
  refine kcVv (as := [.inl 59]) (st := []) l_RX5_43 (m_X4_append hE rfl σ1 59 hσ2) rfl (Nat.lt_of_lt_of_le (Nat.le_of_ble_eq_true rfl : 91 < 120) hE.1) rfl ⟨⟨rfl, rfl⟩, Nat.le_of_ble_eq_true rfl, Nat.le_of_ble_eq_true rfl⟩ (Nat.le_of_ble_eq_true rfl) dX5_putDigit_17 (pc' := 20) rfl ?_
  have hR := Option.some.inj hT
  subst hR
  exact kj_vret rfl dX5_putDigit_20 (by subst hQ; exact ⟨rfl, rfl⟩)
def X5_putLetters_J28 (rec2 : Int32 × Wd → Option (Wd)) (y2 : Int32) (ς : Wd) : Option (Wd) :=
  rec2 (y2 + 1, ς)
def X5_putLetters_B2 (x1 : Int32) (rec2 : Int32 × Wd → Option (Wd)) : Int32 × Wd → Option (Wd)
  | (x2, σ) => (if 7 ≤ x2 then ((X4_append σ 91 59).bind fun σ2 => some σ2) else (if ((x1 >>> (x2 &&& 31)) &&& 1) = 1 then ((X4_append σ 91 (97 + x2)).bind fun σ4 => X5_putLetters_J28 rec2 x2 σ4) else X5_putLetters_J28 rec2 x2 σ))
def X5_putLetters (σ : Wd) (x1 : Int32) : Option (Wd) :=
  (lp (X5_putLetters_B2 x1) FU (0, σ))
set_option maxRecDepth 100000 in
set_option maxHeartbeats 4000000 in
theorem m_X5_putLetters {E : JE} (hE : kOk 120 E) (σ : Wd) (x1 : Int32) {res : Wd} (hT : X5_putLetters σ x1 = some res) : kMt E yX5_putLetters mX5_putLetters rmX5_putLetters [.inr 90, .inl x1] σ (kQv res) := by
  refine kMt_of (by decide +kernel) rfl (Nat.le_of_ble_eq_true rfl) ?_
  generalize hQ : (kQv res) = Q
  show KJ E mX5_putLetters rmX5_putLetters 0 [some (.inr 90), some (.inl x1)] [] σ Q
  unfold X5_putLetters at hT
  refine kj_iconst dX5_putLetters_0 (pc' := 1) rfl kc_0 ?_
  refine kj_istore_n dX5_putLetters_1 (pc' := 2) rfl rfl (Nat.le_of_ble_eq_true rfl) (ls' := [some (.inr 90), some (.inl x1), some (.inl 0)]) rfl ?_
  refine lp_ind (P := fun s => KJ E mX5_putLetters rmX5_putLetters 2 [some (.inr 90), some (.inl x1), some (.inl s.1)] [] s.2 Q) (fun rec2 s ih2 hT => ?_) FU (0, σ) hT
  obtain ⟨x2, σ⟩ := s
  show KJ E mX5_putLetters rmX5_putLetters 2 [some (.inr 90), some (.inl x1), some (.inl x2)] [] σ Q
  rw [X5_putLetters_B2] at hT
  have hJ28_2 : ∀ y2 ς, X5_putLetters_J28 rec2 y2 ς = some res → KJ E mX5_putLetters rmX5_putLetters 28 [some (.inr 90), some (.inl x1), some (.inl y2)] [] ς Q := by
    intro y2 ς hT
    unfold X5_putLetters_J28 at hT
    refine kj_iinc dX5_putLetters_28 (pc' := 31) rfl rfl (congrArg (_ + ·) kc_1) (Nat.le_of_ble_eq_true rfl) (ls' := [some (.inr 90), some (.inl x1), some (.inl (y2 + 1))]) rfl ?_
    refine kj_goto dX5_putLetters_31 (pc' := 2) rfl ?_
    exact ih2 (y2 + 1, ς) hT
  refine kj_iload_n dX5_putLetters_2 (pc' := 3) rfl rfl rfl ?_
  refine kj_bipush dX5_putLetters_3 (pc' := 5) rfl kb_7 ?_
  refine kj_icmp_ge dX5_putLetters_5 (tgt := 34) rfl (pc' := 8) rfl (fun c1 => ?_) (fun c1 => ?_)
  · rw [if_pos c1] at hT
    refine kj_aload_n dX5_putLetters_34 (pc' := 35) rfl rfl rfl ?_
    refine kj_getR f_RX5_14 rfl (Nat.lt_of_lt_of_le (Nat.le_of_ble_eq_true rfl : 90 < 120) hE.1) (hE.2 _ _) (q := 91) rfl dX5_putLetters_35 (pc' := 38) rfl ?_
    refine kj_bipush dX5_putLetters_38 (pc' := 40) rfl kb_59 ?_
    obtain ⟨σ2, hσ2, hT⟩ := bind_some' hT
    refine kcVv (as := [.inl 59]) (st := []) l_RX5_43 (m_X4_append hE rfl σ 59 hσ2) rfl (Nat.lt_of_lt_of_le (Nat.le_of_ble_eq_true rfl : 91 < 120) hE.1) rfl ⟨⟨rfl, rfl⟩, Nat.le_of_ble_eq_true rfl, Nat.le_of_ble_eq_true rfl⟩ (Nat.le_of_ble_eq_true rfl) dX5_putLetters_40 (pc' := 43) rfl ?_
    have hR := Option.some.inj hT
    subst hR
    exact kj_vret rfl dX5_putLetters_43 (by subst hQ; exact ⟨rfl, rfl⟩)
  · rw [if_neg c1] at hT
    refine kj_iload_n dX5_putLetters_8 (pc' := 9) rfl rfl rfl ?_
    refine kj_iload_n dX5_putLetters_9 (pc' := 10) rfl rfl rfl ?_
    refine kj_ishr dX5_putLetters_10 (pc' := 11) rfl ?_
    refine kj_iconst dX5_putLetters_11 (pc' := 12) rfl kc_1 ?_
    refine kj_iand dX5_putLetters_12 (pc' := 13) rfl ?_
    refine kj_iconst dX5_putLetters_13 (pc' := 14) rfl kc_1 ?_
    refine kj_icmp_ne dX5_putLetters_14 (tgt := 28) rfl (pc' := 17) rfl (fun c3 => ?_) (fun c3 => ?_)
    · rw [if_neg c3] at hT
      exact hJ28_2 x2 σ hT
    · rw [if_pos c3] at hT
      refine kj_aload_n dX5_putLetters_17 (pc' := 18) rfl rfl rfl ?_
      refine kj_getR f_RX5_14 rfl (Nat.lt_of_lt_of_le (Nat.le_of_ble_eq_true rfl : 90 < 120) hE.1) (hE.2 _ _) (q := 91) rfl dX5_putLetters_18 (pc' := 21) rfl ?_
      refine kj_bipush dX5_putLetters_21 (pc' := 23) rfl kb_97 ?_
      refine kj_iload_n dX5_putLetters_23 (pc' := 24) rfl rfl rfl ?_
      refine kj_iadd dX5_putLetters_24 (pc' := 25) rfl ?_
      obtain ⟨σ4, hσ4, hT⟩ := bind_some' hT
      refine kcVv (as := [.inl (97 + x2)]) (st := []) l_RX5_43 (m_X4_append hE rfl σ (97 + x2) hσ4) rfl (Nat.lt_of_lt_of_le (Nat.le_of_ble_eq_true rfl : 91 < 120) hE.1) rfl ⟨⟨rfl, rfl⟩, Nat.le_of_ble_eq_true rfl, Nat.le_of_ble_eq_true rfl⟩ (Nat.le_of_ble_eq_true rfl) dX5_putLetters_25 (pc' := 28) rfl ?_
      exact hJ28_2 x2 σ4 hT
def X5_putWord_B2 (w1 : Nat) (rec2 : Int32 × Wd → Option (Wd)) : Int32 × Wd → Option (Wd)
  | (x2, σ) => (if (nI (kSN.getD w1 0)) ≤ x2 then ((X4_append σ 91 32).bind fun σ2 => some σ2) else (ckA x2 (kSN.getD w1 0) <| ((X4_append σ 91 ((kSB.getD w1 []).getD x2.toNatClampNeg 0)).bind fun σ4 => rec2 (x2 + 1, σ4))))
def X5_putWord (σ : Wd) (w1 : Nat) : Option (Wd) :=
  (lp (X5_putWord_B2 w1) FU (0, σ))
set_option maxRecDepth 100000 in
set_option maxHeartbeats 4000000 in
theorem m_X5_putWord {E : JE} (hE : kOk 120 E) (hX : kHX E) {w1 : Nat} (hw1 : w1 < 3) (σ : Wd) {res : Wd} (hT : X5_putWord σ w1 = some res) : kMt E yX5_putWord mX5_putWord rmX5_putWord [.inr 90, .inr (1000 + w1)] σ (kQv res) := by
  refine kMt_of (by decide +kernel) rfl (Nat.le_of_ble_eq_true rfl) ?_
  generalize hQ : (kQv res) = Q
  show KJ E mX5_putWord rmX5_putWord 0 [some (.inr 90), some (.inr (1000 + w1))] [] σ Q
  unfold X5_putWord at hT
  refine kj_iconst dX5_putWord_0 (pc' := 1) rfl kc_0 ?_
  refine kj_istore_n dX5_putWord_1 (pc' := 2) rfl rfl (Nat.le_of_ble_eq_true rfl) (ls' := [some (.inr 90), some (.inr (1000 + w1)), some (.inl 0)]) rfl ?_
  refine lp_ind (P := fun s => KJ E mX5_putWord rmX5_putWord 2 [some (.inr 90), some (.inr (1000 + w1)), some (.inl s.1)] [] s.2 Q) (fun rec2 s ih2 hT => ?_) FU (0, σ) hT
  obtain ⟨x2, σ⟩ := s
  show KJ E mX5_putWord rmX5_putWord 2 [some (.inr 90), some (.inr (1000 + w1)), some (.inl x2)] [] σ Q
  rw [X5_putWord_B2] at hT
  refine kj_iload_n dX5_putWord_2 (pc' := 3) rfl rfl rfl ?_
  refine kj_aload_n dX5_putWord_3 (pc' := 4) rfl rfl rfl ?_
  refine kcT (as := []) (st := [.inl x2]) hX hw1 lt_RX5_60 (m_J0_length_8abf5 hX hw1 σ) rfl ⟨⟨rfl, rfl⟩, Nat.le_of_ble_eq_true rfl, Nat.le_of_ble_eq_true rfl⟩ (Nat.le_of_ble_eq_true rfl) dX5_putWord_4 (pc' := 7) rfl ?_
  refine kj_icmp_ge dX5_putWord_7 (tgt := 28) rfl (pc' := 10) rfl (fun c1 => ?_) (fun c1 => ?_)
  · rw [if_pos c1] at hT
    refine kj_aload_n dX5_putWord_28 (pc' := 29) rfl rfl rfl ?_
    refine kj_getR f_RX5_14 rfl (Nat.lt_of_lt_of_le (Nat.le_of_ble_eq_true rfl : 90 < 120) hE.1) (hE.2 _ _) (q := 91) rfl dX5_putWord_29 (pc' := 32) rfl ?_
    refine kj_bipush dX5_putWord_32 (pc' := 34) rfl kb_32 ?_
    obtain ⟨σ2, hσ2, hT⟩ := bind_some' hT
    refine kcVv (as := [.inl 32]) (st := []) l_RX5_43 (m_X4_append hE rfl σ 32 hσ2) rfl (Nat.lt_of_lt_of_le (Nat.le_of_ble_eq_true rfl : 91 < 120) hE.1) rfl ⟨⟨rfl, rfl⟩, Nat.le_of_ble_eq_true rfl, Nat.le_of_ble_eq_true rfl⟩ (Nat.le_of_ble_eq_true rfl) dX5_putWord_34 (pc' := 37) rfl ?_
    have hR := Option.some.inj hT
    subst hR
    exact kj_vret rfl dX5_putWord_37 (by subst hQ; exact ⟨rfl, rfl⟩)
  · rw [if_neg c1] at hT
    refine kj_aload_n dX5_putWord_10 (pc' := 11) rfl rfl rfl ?_
    refine kj_getR f_RX5_14 rfl (Nat.lt_of_lt_of_le (Nat.le_of_ble_eq_true rfl : 90 < 120) hE.1) (hE.2 _ _) (q := 91) rfl dX5_putWord_11 (pc' := 14) rfl ?_
    refine kj_aload_n dX5_putWord_14 (pc' := 15) rfl rfl rfl ?_
    refine kj_iload_n dX5_putWord_15 (pc' := 16) rfl rfl rfl ?_
    obtain ⟨hi3, hT⟩ := ckA_some hT
    refine kcT (as := [.inl x2]) (st := [.inr 91]) hX hw1 lt_RX5_66 (m_J0_charAt_5068e hX hw1 σ x2 hi3) rfl ⟨⟨rfl, rfl⟩, Nat.le_of_ble_eq_true rfl, Nat.le_of_ble_eq_true rfl⟩ (Nat.le_of_ble_eq_true rfl) dX5_putWord_16 (pc' := 19) rfl ?_
    obtain ⟨σ4, hσ4, hT⟩ := bind_some' hT
    refine kcVv (as := [.inl ((kSB.getD w1 []).getD x2.toNatClampNeg 0)]) (st := []) l_RX5_43 (m_X4_append hE rfl σ ((kSB.getD w1 []).getD x2.toNatClampNeg 0) hσ4) rfl (Nat.lt_of_lt_of_le (Nat.le_of_ble_eq_true rfl : 91 < 120) hE.1) rfl ⟨⟨rfl, rfl⟩, Nat.le_of_ble_eq_true rfl, Nat.le_of_ble_eq_true rfl⟩ (Nat.le_of_ble_eq_true rfl) dX5_putWord_19 (pc' := 22) rfl ?_
    refine kj_iinc dX5_putWord_22 (pc' := 25) rfl rfl (congrArg (_ + ·) kc_1) (Nat.le_of_ble_eq_true rfl) (ls' := [some (.inr 90), some (.inr (1000 + w1)), some (.inl (x2 + 1))]) rfl ?_
    refine kj_goto dX5_putWord_25 (pc' := 2) rfl ?_
    exact ih2 (x2 + 1, σ4) hT
def X5_write_B83 (q1 : Nat) (rec83 : Int32 × Wd → Option (Wd)) : Int32 × Wd → Option (Wd)
  | (x2, σ) => (if (σ (q1 + 1) 1) ≤ x2 then some σ else ((X5_putWord σ 2).bind fun σ4 => ((X4_at σ4 (q1 + 1) x2).bind fun t5 => ((X5_putLetters σ4 t5).bind fun σ6 => rec83 (x2 + 1, σ6)))))
def X5_write_T81 (q1 : Nat) (σ : Wd) : Option (Wd) :=
  (lp (X5_write_B83 q1) FU (0, σ))
def X5_write_J75 (rec23 : Int32 × Wd → Option (Wd)) (y2 : Int32) (ς : Wd) : Option (Wd) :=
  rec23 (y2 + 1, ς)
def X5_write_B23 (q1 : Nat) (kx23 : Wd → Option (Wd)) (rec23 : Int32 × Wd → Option (Wd)) : Int32 × Wd → Option (Wd)
  | (x2, σ) => (if (σ q1 3) ≤ x2 then kx23 σ else ((X7_weightOf σ q1 x2).bind fun t8 => (if t8 = 1 then X5_write_J75 rec23 x2 σ else ((X5_putWord σ 1).bind fun σ10 => ((X4_append σ10 91 (97 + x2)).bind fun σ11 => ((X4_append σ11 91 32).bind fun σ12 => ((X7_weightOf σ12 q1 x2).bind fun t13 => ((X5_putDigit σ12 t13).bind fun σ14 => X5_write_J75 rec23 x2 σ14))))))))
def X5_write (σ : Wd) (q1 : Nat) : Option (Wd) :=
  ((X5_putWord (X4_clear σ 91) 0).bind fun σ1 => ((X5_putDigit σ1 (σ1 q1 3)).bind fun σ2 => (lp (X5_write_B23 q1 (X5_write_T81 q1)) FU (0, σ2))))
set_option maxRecDepth 100000 in
set_option maxHeartbeats 4000000 in
theorem m_X5_write {E : JE} (hE : kOk 120 E) (hX : kHX E) {q1 : Nat} (hq1 : kKd q1 = 7) (σ : Wd) {res : Wd} (hT : X5_write σ q1 = some res) : kMt E yX5_write mX5_write rmX5_write [.inr 90, .inr q1] σ (kQv res) := by
  refine kMt_of (by decide +kernel) rfl (Nat.le_of_ble_eq_true rfl) ?_
  generalize hQ : (kQv res) = Q
  show KJ E mX5_write rmX5_write 0 [some (.inr 90), some (.inr q1)] [] σ Q
  unfold X5_write at hT
  refine kj_aload_n dX5_write_0 (pc' := 1) rfl rfl rfl ?_
  refine kj_getR f_RX5_14 rfl (Nat.lt_of_lt_of_le (Nat.le_of_ble_eq_true rfl : 90 < 120) hE.1) (hE.2 _ _) (q := 91) rfl dX5_write_1 (pc' := 4) rfl ?_
  refine kcVv (as := []) (st := []) l_RX5_20 (m_X4_clear hE rfl σ rfl) rfl (Nat.lt_of_lt_of_le (Nat.le_of_ble_eq_true rfl : 91 < 120) hE.1) rfl ⟨⟨rfl, rfl⟩, Nat.le_of_ble_eq_true rfl, Nat.le_of_ble_eq_true rfl⟩ (Nat.le_of_ble_eq_true rfl) dX5_write_4 (pc' := 7) rfl ?_
  refine kj_aload_n dX5_write_7 (pc' := 8) rfl rfl rfl ?_
  refine kj_ldcS (i := 0) hX (fun U h => h.2.1.2.2.2.1) dX5_write_8 (pc' := 10) rfl ?_
  obtain ⟨σ1, hσ1, hT⟩ := bind_some' hT
  refine kcVv (as := [.inr (1000 + 0)]) (st := []) l_RX5_25 (m_X5_putWord hE hX (Nat.le_of_ble_eq_true rfl : 0 < 3) (X4_clear σ 91) hσ1) rfl (Nat.lt_of_lt_of_le (Nat.le_of_ble_eq_true rfl : 90 < 120) hE.1) rfl ⟨⟨rfl, rfl⟩, Nat.le_of_ble_eq_true rfl, Nat.le_of_ble_eq_true rfl⟩ (Nat.le_of_ble_eq_true rfl) dX5_write_10 (pc' := 13) rfl ?_
  refine kj_aload_n dX5_write_13 (pc' := 14) rfl rfl rfl ?_
  refine kj_aload_n dX5_write_14 (pc' := 15) rfl rfl rfl ?_
  refine kj_getI f_RX5_29 hq1 (Nat.lt_of_lt_of_le (kn7_0 hq1) hE.1) dX5_write_15 (pc' := 18) rfl ?_
  obtain ⟨σ2, hσ2, hT⟩ := bind_some' hT
  refine kcVv (as := [.inl (σ1 q1 3)]) (st := []) l_RX5_34 (m_X5_putDigit hE σ1 (σ1 q1 3) hσ2) rfl (Nat.lt_of_lt_of_le (Nat.le_of_ble_eq_true rfl : 90 < 120) hE.1) rfl ⟨⟨rfl, rfl⟩, Nat.le_of_ble_eq_true rfl, Nat.le_of_ble_eq_true rfl⟩ (Nat.le_of_ble_eq_true rfl) dX5_write_18 (pc' := 21) rfl ?_
  refine kj_iconst dX5_write_21 (pc' := 22) rfl kc_0 ?_
  refine kj_istore_n dX5_write_22 (pc' := 23) rfl rfl (Nat.le_of_ble_eq_true rfl) (ls' := [some (.inr 90), some (.inr q1), some (.inl 0)]) rfl ?_
  have hX23 : ∀ σ, X5_write_T81 q1 σ = some res → KJ E mX5_write rmX5_write 81 [some (.inr 90), some (.inr q1)] [] σ Q := by
    intro σ hT
    unfold X5_write_T81 at hT
    refine kj_iconst dX5_write_81 (pc' := 82) rfl kc_0 ?_
    refine kj_istore_n dX5_write_82 (pc' := 83) rfl rfl (Nat.le_of_ble_eq_true rfl) (ls' := [some (.inr 90), some (.inr q1), some (.inl 0)]) rfl ?_
    refine lp_ind (P := fun s => KJ E mX5_write rmX5_write 83 [some (.inr 90), some (.inr q1), some (.inl s.1)] [] s.2 Q) (fun rec83 s ih83 hT => ?_) FU (0, σ) hT
    obtain ⟨x2, σ⟩ := s
    show KJ E mX5_write rmX5_write 83 [some (.inr 90), some (.inr q1), some (.inl x2)] [] σ Q
    rw [X5_write_B83] at hT
    refine kj_iload_n dX5_write_83 (pc' := 84) rfl rfl rfl ?_
    refine kj_aload_n dX5_write_84 (pc' := 85) rfl rfl rfl ?_
    refine kj_getR f_RX5_46 hq1 (Nat.lt_of_lt_of_le (kn7_0 hq1) hE.1) (hE.2 _ _) (q := (q1 + 1)) (kr7_0_0 hq1) dX5_write_85 (pc' := 88) rfl ?_
    refine kj_getI f_RX5_49 (kk7_1 hq1) (Nat.lt_of_lt_of_le (kn7_1 hq1) hE.1) dX5_write_88 (pc' := 91) rfl ?_
    refine kj_icmp_ge dX5_write_91 (tgt := 118) rfl (pc' := 94) rfl (fun c3 => ?_) (fun c3 => ?_)
    · rw [if_pos c3] at hT
      have hR := Option.some.inj hT
      subst hR
      exact kj_vret rfl dX5_write_118 (by subst hQ; exact ⟨rfl, rfl⟩)
    · rw [if_neg c3] at hT
      refine kj_aload_n dX5_write_94 (pc' := 95) rfl rfl rfl ?_
      refine kj_ldcS (i := 2) hX (fun U h => h.2.1.2.2.2.2.2) dX5_write_95 (pc' := 97) rfl ?_
      obtain ⟨σ4, hσ4, hT⟩ := bind_some' hT
      refine kcVv (as := [.inr (1000 + 2)]) (st := []) l_RX5_25 (m_X5_putWord hE hX (Nat.le_of_ble_eq_true rfl : 2 < 3) σ hσ4) rfl (Nat.lt_of_lt_of_le (Nat.le_of_ble_eq_true rfl : 90 < 120) hE.1) rfl ⟨⟨rfl, rfl⟩, Nat.le_of_ble_eq_true rfl, Nat.le_of_ble_eq_true rfl⟩ (Nat.le_of_ble_eq_true rfl) dX5_write_97 (pc' := 100) rfl ?_
      refine kj_aload_n dX5_write_100 (pc' := 101) rfl rfl rfl ?_
      refine kj_aload_n dX5_write_101 (pc' := 102) rfl rfl rfl ?_
      refine kj_getR f_RX5_46 hq1 (Nat.lt_of_lt_of_le (kn7_0 hq1) hE.1) (hE.2 _ _) (q := (q1 + 1)) (kr7_0_0 hq1) dX5_write_102 (pc' := 105) rfl ?_
      refine kj_iload_n dX5_write_105 (pc' := 106) rfl rfl rfl ?_
      obtain ⟨t5, ht5, hT⟩ := bind_some' hT
      refine kcVi (as := [.inl x2]) (st := [.inr 90]) l_RX5_54 (m_X4_at hE (kk7_1 hq1) σ4 x2 ht5) (kk7_1 hq1) (Nat.lt_of_lt_of_le (kn7_1 hq1) hE.1) rfl ⟨⟨rfl, rfl⟩, Nat.le_of_ble_eq_true rfl, Nat.le_of_ble_eq_true rfl⟩ (Nat.le_of_ble_eq_true rfl) dX5_write_106 (pc' := 109) rfl ?_
      obtain ⟨σ6, hσ6, hT⟩ := bind_some' hT
      refine kcVv (as := [.inl t5]) (st := []) l_RX5_57 (m_X5_putLetters hE σ4 t5 hσ6) rfl (Nat.lt_of_lt_of_le (Nat.le_of_ble_eq_true rfl : 90 < 120) hE.1) rfl ⟨⟨rfl, rfl⟩, Nat.le_of_ble_eq_true rfl, Nat.le_of_ble_eq_true rfl⟩ (Nat.le_of_ble_eq_true rfl) dX5_write_109 (pc' := 112) rfl ?_
      refine kj_iinc dX5_write_112 (pc' := 115) rfl rfl (congrArg (_ + ·) kc_1) (Nat.le_of_ble_eq_true rfl) (ls' := [some (.inr 90), some (.inr q1), some (.inl (x2 + 1))]) rfl ?_
      refine kj_goto dX5_write_115 (pc' := 83) rfl ?_
      exact ih83 (x2 + 1, σ6) hT
  refine lp_ind (P := fun s => KJ E mX5_write rmX5_write 23 [some (.inr 90), some (.inr q1), some (.inl s.1)] [] s.2 Q) (fun rec23 s ih23 hT => ?_) FU (0, σ2) hT
  obtain ⟨x2, σ⟩ := s
  show KJ E mX5_write rmX5_write 23 [some (.inr 90), some (.inr q1), some (.inl x2)] [] σ Q
  rw [X5_write_B23] at hT
  have hJ75_23 : ∀ y2 ς, X5_write_J75 rec23 y2 ς = some res → KJ E mX5_write rmX5_write 75 [some (.inr 90), some (.inr q1), some (.inl y2)] [] ς Q := by
    intro y2 ς hT
    unfold X5_write_J75 at hT
    refine kj_iinc dX5_write_75 (pc' := 78) rfl rfl (congrArg (_ + ·) kc_1) (Nat.le_of_ble_eq_true rfl) (ls' := [some (.inr 90), some (.inr q1), some (.inl (y2 + 1))]) rfl ?_
    refine kj_goto dX5_write_78 (pc' := 23) rfl ?_
    exact ih23 (y2 + 1, ς) hT
  refine kj_iload_n dX5_write_23 (pc' := 24) rfl rfl rfl ?_
  refine kj_aload_n dX5_write_24 (pc' := 25) rfl rfl rfl ?_
  refine kj_getI f_RX5_29 hq1 (Nat.lt_of_lt_of_le (kn7_0 hq1) hE.1) dX5_write_25 (pc' := 28) rfl ?_
  refine kj_icmp_ge dX5_write_28 (tgt := 81) rfl (pc' := 31) rfl (fun c7 => ?_) (fun c7 => ?_)
  · rw [if_pos c7] at hT
    refine kj_keep [true, true] (ls' := [some (.inr 90), some (.inr q1)]) rfl ?_
    exact hX23 σ hT
  · rw [if_neg c7] at hT
    refine kj_aload_n dX5_write_31 (pc' := 32) rfl rfl rfl ?_
    refine kj_iload_n dX5_write_32 (pc' := 33) rfl rfl rfl ?_
    obtain ⟨t8, ht8, hT⟩ := bind_some' hT
    refine kcVi (as := [.inl x2]) (st := []) l_RX5_37 (m_X7_weightOf hE hq1 σ x2 ht8) hq1 (Nat.lt_of_lt_of_le (kn7_0 hq1) hE.1) rfl ⟨⟨rfl, rfl⟩, Nat.le_of_ble_eq_true rfl, Nat.le_of_ble_eq_true rfl⟩ (Nat.le_of_ble_eq_true rfl) dX5_write_33 (pc' := 36) rfl ?_
    refine kj_iconst dX5_write_36 (pc' := 37) rfl kc_1 ?_
    refine kj_icmp_eq dX5_write_37 (tgt := 75) rfl (pc' := 40) rfl (fun c9 => ?_) (fun c9 => ?_)
    · rw [if_pos c9] at hT
      exact hJ75_23 x2 σ hT
    · rw [if_neg c9] at hT
      refine kj_aload_n dX5_write_40 (pc' := 41) rfl rfl rfl ?_
      refine kj_ldcS (i := 1) hX (fun U h => h.2.1.2.2.2.2.1) dX5_write_41 (pc' := 43) rfl ?_
      obtain ⟨σ10, hσ10, hT⟩ := bind_some' hT
      refine kcVv (as := [.inr (1000 + 1)]) (st := []) l_RX5_25 (m_X5_putWord hE hX (Nat.le_of_ble_eq_true rfl : 1 < 3) σ hσ10) rfl (Nat.lt_of_lt_of_le (Nat.le_of_ble_eq_true rfl : 90 < 120) hE.1) rfl ⟨⟨rfl, rfl⟩, Nat.le_of_ble_eq_true rfl, Nat.le_of_ble_eq_true rfl⟩ (Nat.le_of_ble_eq_true rfl) dX5_write_43 (pc' := 46) rfl ?_
      refine kj_aload_n dX5_write_46 (pc' := 47) rfl rfl rfl ?_
      refine kj_getR f_RX5_14 rfl (Nat.lt_of_lt_of_le (Nat.le_of_ble_eq_true rfl : 90 < 120) hE.1) (hE.2 _ _) (q := 91) rfl dX5_write_47 (pc' := 50) rfl ?_
      refine kj_bipush dX5_write_50 (pc' := 52) rfl kb_97 ?_
      refine kj_iload_n dX5_write_52 (pc' := 53) rfl rfl rfl ?_
      refine kj_iadd dX5_write_53 (pc' := 54) rfl ?_
      obtain ⟨σ11, hσ11, hT⟩ := bind_some' hT
      refine kcVv (as := [.inl (97 + x2)]) (st := []) l_RX5_43 (m_X4_append hE rfl σ10 (97 + x2) hσ11) rfl (Nat.lt_of_lt_of_le (Nat.le_of_ble_eq_true rfl : 91 < 120) hE.1) rfl ⟨⟨rfl, rfl⟩, Nat.le_of_ble_eq_true rfl, Nat.le_of_ble_eq_true rfl⟩ (Nat.le_of_ble_eq_true rfl) dX5_write_54 (pc' := 57) rfl ?_
      refine kj_aload_n dX5_write_57 (pc' := 58) rfl rfl rfl ?_
      refine kj_getR f_RX5_14 rfl (Nat.lt_of_lt_of_le (Nat.le_of_ble_eq_true rfl : 90 < 120) hE.1) (hE.2 _ _) (q := 91) rfl dX5_write_58 (pc' := 61) rfl ?_
      refine kj_bipush dX5_write_61 (pc' := 63) rfl kb_32 ?_
      obtain ⟨σ12, hσ12, hT⟩ := bind_some' hT
      refine kcVv (as := [.inl 32]) (st := []) l_RX5_43 (m_X4_append hE rfl σ11 32 hσ12) rfl (Nat.lt_of_lt_of_le (Nat.le_of_ble_eq_true rfl : 91 < 120) hE.1) rfl ⟨⟨rfl, rfl⟩, Nat.le_of_ble_eq_true rfl, Nat.le_of_ble_eq_true rfl⟩ (Nat.le_of_ble_eq_true rfl) dX5_write_63 (pc' := 66) rfl ?_
      refine kj_aload_n dX5_write_66 (pc' := 67) rfl rfl rfl ?_
      refine kj_aload_n dX5_write_67 (pc' := 68) rfl rfl rfl ?_
      refine kj_iload_n dX5_write_68 (pc' := 69) rfl rfl rfl ?_
      obtain ⟨t13, ht13, hT⟩ := bind_some' hT
      refine kcVi (as := [.inl x2]) (st := [.inr 90]) l_RX5_37 (m_X7_weightOf hE hq1 σ12 x2 ht13) hq1 (Nat.lt_of_lt_of_le (kn7_0 hq1) hE.1) rfl ⟨⟨rfl, rfl⟩, Nat.le_of_ble_eq_true rfl, Nat.le_of_ble_eq_true rfl⟩ (Nat.le_of_ble_eq_true rfl) dX5_write_69 (pc' := 72) rfl ?_
      obtain ⟨σ14, hσ14, hT⟩ := bind_some' hT
      refine kcVv (as := [.inl t13]) (st := []) l_RX5_34 (m_X5_putDigit hE σ12 t13 hσ14) rfl (Nat.lt_of_lt_of_le (Nat.le_of_ble_eq_true rfl : 90 < 120) hE.1) rfl ⟨⟨rfl, rfl⟩, Nat.le_of_ble_eq_true rfl, Nat.le_of_ble_eq_true rfl⟩ (Nat.le_of_ble_eq_true rfl) dX5_write_72 (pc' := 75) rfl ?_
      exact hJ75_23 x2 σ14 hT
