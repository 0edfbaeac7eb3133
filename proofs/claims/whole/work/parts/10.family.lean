def X0_countAround_J32 (rec4 : Int32 × Int32 → Option (Int32)) (y2 : Int32) (y3 : Int32) : Option (Int32) :=
  rec4 (y2, y3 + 1)
def X0_countAround_B4 (σ : Wd) (x1 : Int32) (rec4 : Int32 × Int32 → Option (Int32)) : Int32 × Int32 → Option (Int32)
  | (x2, x3) => (if (σ 95 1) ≤ x3 then some x2 else ((X4_at σ 95 x3).bind fun t3 => (if (t3 &&& x1) = x1 then X0_countAround_J32 rec4 (x2 + 1) x3 else X0_countAround_J32 rec4 x2 x3)))
def X0_countAround (σ : Wd) (x1 : Int32) : Option (Int32) :=
  (lp (X0_countAround_B4 σ x1) FU (0, 0))
set_option maxRecDepth 100000 in
set_option maxHeartbeats 4000000 in
theorem m_X0_countAround {E : JE} (hE : kOk 120 E) (σ : Wd) (x1 : Int32) {res : Int32} (hT : X0_countAround σ x1 = some res) : kMt E yX0_countAround mX0_countAround rmX0_countAround [.inr 93, .inl x1] σ (kQi res σ) := by
  refine kMt_of (by decide +kernel) rfl (Nat.le_of_ble_eq_true rfl) ?_
  generalize hQ : (kQi res σ) = Q
  show KJ E mX0_countAround rmX0_countAround 0 [some (.inr 93), some (.inl x1)] [] σ Q
  unfold X0_countAround at hT
  refine kj_iconst dX0_countAround_0 (pc' := 1) rfl kc_0 ?_
  refine kj_istore_n dX0_countAround_1 (pc' := 2) rfl rfl (Nat.le_of_ble_eq_true rfl) (ls' := [some (.inr 93), some (.inl x1), some (.inl 0)]) rfl ?_
  refine kj_iconst dX0_countAround_2 (pc' := 3) rfl kc_0 ?_
  refine kj_istore_n dX0_countAround_3 (pc' := 4) rfl rfl (Nat.le_of_ble_eq_true rfl) (ls' := [some (.inr 93), some (.inl x1), some (.inl 0), some (.inl 0)]) rfl ?_
  refine lp_ind (P := fun s => KJ E mX0_countAround rmX0_countAround 4 [some (.inr 93), some (.inl x1), some (.inl s.1), some (.inl s.2)] [] σ Q) (fun rec4 s ih4 hT => ?_) FU (0, 0) hT
  obtain ⟨x2, x3⟩ := s
  show KJ E mX0_countAround rmX0_countAround 4 [some (.inr 93), some (.inl x1), some (.inl x2), some (.inl x3)] [] σ Q
  rw [X0_countAround_B4] at hT
  have hJ32_4 : ∀ y2 y3, X0_countAround_J32 rec4 y2 y3 = some res → KJ E mX0_countAround rmX0_countAround 32 [some (.inr 93), some (.inl x1), some (.inl y2), some (.inl y3)] [] σ Q := by
    intro y2 y3 hT
    unfold X0_countAround_J32 at hT
    refine kj_iinc dX0_countAround_32 (pc' := 35) rfl rfl (congrArg (_ + ·) kc_1) (Nat.le_of_ble_eq_true rfl) (ls' := [some (.inr 93), some (.inl x1), some (.inl y2), some (.inl (y3 + 1))]) rfl ?_
    refine kj_goto dX0_countAround_35 (pc' := 4) rfl ?_
    exact ih4 (y2, y3 + 1) hT
  refine kj_iload_n dX0_countAround_4 (pc' := 5) rfl rfl rfl ?_
  refine kj_aload_n dX0_countAround_5 (pc' := 6) rfl rfl rfl ?_
  refine kj_getR f_RX0_20 rfl (Nat.lt_of_lt_of_le (Nat.le_of_ble_eq_true rfl : 93 < 120) hE.1) (hE.2 _ _) (q := 95) rfl dX0_countAround_6 (pc' := 9) rfl ?_
  refine kj_getI f_RX0_71 rfl (Nat.lt_of_lt_of_le (Nat.le_of_ble_eq_true rfl : 95 < 120) hE.1) dX0_countAround_9 (pc' := 12) rfl ?_
  refine kj_icmp_ge dX0_countAround_12 (tgt := 38) rfl (pc' := 15) rfl (fun c2 => ?_) (fun c2 => ?_)
  · rw [if_pos c2] at hT
    refine kj_iload_n dX0_countAround_38 (pc' := 39) rfl rfl rfl ?_
    have hR := Option.some.inj hT
    subst hR
    exact kj_iret rfl dX0_countAround_39 (by subst hQ; exact ⟨rfl, rfl⟩)
  · rw [if_neg c2] at hT
    refine kj_aload_n dX0_countAround_15 (pc' := 16) rfl rfl rfl ?_
    refine kj_getR f_RX0_20 rfl (Nat.lt_of_lt_of_le (Nat.le_of_ble_eq_true rfl : 93 < 120) hE.1) (hE.2 _ _) (q := 95) rfl dX0_countAround_16 (pc' := 19) rfl ?_
    refine kj_iload_n dX0_countAround_19 (pc' := 20) rfl rfl rfl ?_
    obtain ⟨t3, ht3, hT⟩ := bind_some' hT
    refine kcVi (as := [.inl x3]) (st := []) l_RX0_74 (m_X4_at hE rfl σ x3 ht3) rfl (Nat.lt_of_lt_of_le (Nat.le_of_ble_eq_true rfl : 95 < 120) hE.1) rfl ⟨⟨rfl, rfl⟩, Nat.le_of_ble_eq_true rfl, Nat.le_of_ble_eq_true rfl⟩ (Nat.le_of_ble_eq_true rfl) dX0_countAround_20 (pc' := 23) rfl ?_
    refine kj_iload_n dX0_countAround_23 (pc' := 24) rfl rfl rfl ?_
    refine kj_iand dX0_countAround_24 (pc' := 25) rfl ?_
    refine kj_iload_n dX0_countAround_25 (pc' := 26) rfl rfl rfl ?_
    refine kj_icmp_ne dX0_countAround_26 (tgt := 32) rfl (pc' := 29) rfl (fun c4 => ?_) (fun c4 => ?_)
    · rw [if_neg c4] at hT
      exact hJ32_4 x2 x3 hT
    · rw [if_pos c4] at hT
      refine kj_iinc dX0_countAround_29 (pc' := 32) rfl rfl (congrArg (_ + ·) kc_1) (Nat.le_of_ble_eq_true rfl) (ls' := [some (.inr 93), some (.inl x1), some (.inl (x2 + 1)), some (.inl x3)]) rfl ?_
      exact hJ32_4 (x2 + 1) x3 hT
def X0_countPoints_B2 (rec2 : Int32 × Wd → Option (Wd)) : Int32 × Wd → Option (Wd)
  | (x1, σ) => (if 7 ≤ x1 then some σ else ((X0_countAround σ (1 <<< (x1 &&& 31))).bind fun t2 => (ckA x1 7 <| rec2 (x1 + 1, up σ 102 x1.toNatClampNeg t2))))
def X0_countPoints (σ : Wd) : Option (Wd) :=
  (lp (X0_countPoints_B2) FU (0, σ))
set_option maxRecDepth 100000 in
set_option maxHeartbeats 4000000 in
theorem m_X0_countPoints {E : JE} (hE : kOk 120 E) (σ : Wd) {res : Wd} (hT : X0_countPoints σ = some res) : kMt E yX0_countPoints mX0_countPoints rmX0_countPoints [.inr 93] σ (kQv res) := by
  refine kMt_of (by decide +kernel) rfl (Nat.le_of_ble_eq_true rfl) ?_
  generalize hQ : (kQv res) = Q
  show KJ E mX0_countPoints rmX0_countPoints 0 [some (.inr 93)] [] σ Q
  unfold X0_countPoints at hT
  refine kj_iconst dX0_countPoints_0 (pc' := 1) rfl kc_0 ?_
  refine kj_istore_n dX0_countPoints_1 (pc' := 2) rfl rfl (Nat.le_of_ble_eq_true rfl) (ls' := [some (.inr 93), some (.inl 0)]) rfl ?_
  refine lp_ind (P := fun s => KJ E mX0_countPoints rmX0_countPoints 2 [some (.inr 93), some (.inl s.1)] [] s.2 Q) (fun rec2 s ih2 hT => ?_) FU (0, σ) hT
  obtain ⟨x1, σ⟩ := s
  show KJ E mX0_countPoints rmX0_countPoints 2 [some (.inr 93), some (.inl x1)] [] σ Q
  rw [X0_countPoints_B2] at hT
  refine kj_iload_n dX0_countPoints_2 (pc' := 3) rfl rfl rfl ?_
  refine kj_aload_n dX0_countPoints_3 (pc' := 4) rfl rfl rfl ?_
  refine kj_getR f_RX0_36 rfl (Nat.lt_of_lt_of_le (Nat.le_of_ble_eq_true rfl : 93 < 120) hE.1) (hE.2 _ _) (q := 102) rfl dX0_countPoints_4 (pc' := 7) rfl ?_
  refine kj_alen (n := 0) (v := 7) 0 (ty := .int) rfl (by decide) rfl (Nat.lt_of_lt_of_le (Nat.le_of_ble_eq_true rfl : 102 < 120) hE.1) (by decide +kernel) dX0_countPoints_7 (pc' := 8) rfl ?_
  refine kj_icmp_ge dX0_countPoints_8 (tgt := 30) rfl (pc' := 11) rfl (fun c1 => ?_) (fun c1 => ?_)
  · rw [if_pos c1] at hT
    have hR := Option.some.inj hT
    subst hR
    exact kj_vret rfl dX0_countPoints_30 (by subst hQ; exact ⟨rfl, rfl⟩)
  · rw [if_neg c1] at hT
    refine kj_aload_n dX0_countPoints_11 (pc' := 12) rfl rfl rfl ?_
    refine kj_getR f_RX0_36 rfl (Nat.lt_of_lt_of_le (Nat.le_of_ble_eq_true rfl : 93 < 120) hE.1) (hE.2 _ _) (q := 102) rfl dX0_countPoints_12 (pc' := 15) rfl ?_
    refine kj_iload_n dX0_countPoints_15 (pc' := 16) rfl rfl rfl ?_
    refine kj_aload_n dX0_countPoints_16 (pc' := 17) rfl rfl rfl ?_
    refine kj_iconst dX0_countPoints_17 (pc' := 18) rfl kc_1 ?_
    refine kj_iload_n dX0_countPoints_18 (pc' := 19) rfl rfl rfl ?_
    refine kj_ishl dX0_countPoints_19 (pc' := 20) rfl ?_
    obtain ⟨t2, ht2, hT⟩ := bind_some' hT
    refine kcVi (as := [.inl (1 <<< (x1 &&& 31))]) (st := [.inl x1, .inr 102]) l_RX0_92 (m_X0_countAround hE σ (1 <<< (x1 &&& 31)) ht2) rfl (Nat.lt_of_lt_of_le (Nat.le_of_ble_eq_true rfl : 93 < 120) hE.1) rfl ⟨⟨rfl, rfl⟩, Nat.le_of_ble_eq_true rfl, Nat.le_of_ble_eq_true rfl⟩ (Nat.le_of_ble_eq_true rfl) dX0_countPoints_20 (pc' := 23) rfl ?_
    obtain ⟨hi3, hT⟩ := ckA_some hT
    refine kj_iast rfl (Nat.lt_of_lt_of_le (Nat.le_of_ble_eq_true rfl : 102 < 120) hE.1) hi3 rfl dX0_countPoints_23 (pc' := 24) rfl ?_
    refine kj_iinc dX0_countPoints_24 (pc' := 27) rfl rfl (congrArg (_ + ·) kc_1) (Nat.le_of_ble_eq_true rfl) (ls' := [some (.inr 93), some (.inl (x1 + 1))]) rfl ?_
    refine kj_goto dX0_countPoints_27 (pc' := 2) rfl ?_
    exact ih2 (x1 + 1, up σ 102 x1.toNatClampNeg t2) hT
def X0_numberOf (σ : Wd) (x1 : Int32) : Option (Int32) :=
  (if x1 < 0 then some (-2) else (if 128 ≤ x1 then some (-2) else (ckA x1 128 <| some (σ 99 x1.toNatClampNeg))))
set_option maxRecDepth 100000 in
set_option maxHeartbeats 4000000 in
theorem m_X0_numberOf {E : JE} (hE : kOk 120 E) (σ : Wd) (x1 : Int32) {res : Int32} (hT : X0_numberOf σ x1 = some res) : kMt E yX0_numberOf mX0_numberOf rmX0_numberOf [.inr 93, .inl x1] σ (kQi res σ) := by
  refine kMt_of (by decide +kernel) rfl (Nat.le_of_ble_eq_true rfl) ?_
  generalize hQ : (kQi res σ) = Q
  show KJ E mX0_numberOf rmX0_numberOf 0 [some (.inr 93), some (.inl x1)] [] σ Q
  unfold X0_numberOf at hT
  refine kj_iload_n dX0_numberOf_0 (pc' := 1) rfl rfl rfl ?_
  refine kj_if_lt dX0_numberOf_1 (tgt := 22) rfl (pc' := 4) rfl (fun c1 => ?_) (fun c1 => ?_)
  · rw [if_pos c1] at hT
    refine kj_bipush dX0_numberOf_22 (pc' := 24) rfl kb_m2 ?_
    have hR := Option.some.inj hT
    subst hR
    exact kj_iret rfl dX0_numberOf_24 (by subst hQ; exact ⟨rfl, rfl⟩)
  · rw [if_neg c1] at hT
    refine kj_iload_n dX0_numberOf_4 (pc' := 5) rfl rfl rfl ?_
    refine kj_aload_n dX0_numberOf_5 (pc' := 6) rfl rfl rfl ?_
    refine kj_getR f_RX0_27 rfl (Nat.lt_of_lt_of_le (Nat.le_of_ble_eq_true rfl : 93 < 120) hE.1) (hE.2 _ _) (q := 99) rfl dX0_numberOf_6 (pc' := 9) rfl ?_
    refine kj_alen (n := 0) (v := 128) 0 (ty := .int) rfl (by decide) rfl (Nat.lt_of_lt_of_le (Nat.le_of_ble_eq_true rfl : 99 < 120) hE.1) (by decide +kernel) dX0_numberOf_9 (pc' := 10) rfl ?_
    refine kj_icmp_ge dX0_numberOf_10 (tgt := 22) rfl (pc' := 13) rfl (fun c2 => ?_) (fun c2 => ?_)
    · rw [if_pos c2] at hT
      refine kj_bipush dX0_numberOf_22 (pc' := 24) rfl kb_m2 ?_
      have hR := Option.some.inj hT
      subst hR
      exact kj_iret rfl dX0_numberOf_24 (by subst hQ; exact ⟨rfl, rfl⟩)
    · rw [if_neg c2] at hT
      refine kj_aload_n dX0_numberOf_13 (pc' := 14) rfl rfl rfl ?_
      refine kj_getR f_RX0_27 rfl (Nat.lt_of_lt_of_le (Nat.le_of_ble_eq_true rfl : 93 < 120) hE.1) (hE.2 _ _) (q := 99) rfl dX0_numberOf_14 (pc' := 17) rfl ?_
      refine kj_iload_n dX0_numberOf_17 (pc' := 18) rfl rfl rfl ?_
      obtain ⟨hi3, hT⟩ := ckA_some hT
      refine kj_iald rfl (Nat.lt_of_lt_of_le (Nat.le_of_ble_eq_true rfl : 99 < 120) hE.1) hi3 rfl dX0_numberOf_18 (pc' := 19) rfl ?_
      refine kj_goto dX0_numberOf_19 (pc' := 24) rfl ?_
      have hR := Option.some.inj hT
      subst hR
      exact kj_iret rfl dX0_numberOf_24 (by subst hQ; exact ⟨rfl, rfl⟩)
def X0_unionBelow_J50 (rec4 : Int32 × Int32 → Option (Int32)) (y2 : Int32) (y3 : Int32) : Option (Int32) :=
  rec4 (y2, y3 + 1)
def X0_unionBelow_B4 (x1 : Int32) (σ : Wd) (rec4 : Int32 × Int32 → Option (Int32)) : Int32 × Int32 → Option (Int32)
  | (x2, x3) => (if 7 ≤ x3 then some x2 else (lett (x1 &&& ((1 <<< (x3 &&& 31)) ^^^ (-1))) fun x4 => (if x4 = x1 then X0_unionBelow_J50 rec4 x2 x3 else (if x4 < 0 then X0_unionBelow_J50 rec4 x2 x3 else (if 128 ≤ x4 then X0_unionBelow_J50 rec4 x2 x3 else (ckA x4 128 <| (lett (x2 ||| (σ 101 x4.toNatClampNeg)) fun t7 => X0_unionBelow_J50 rec4 t7 x3)))))))
def X0_unionBelow (σ : Wd) (x1 : Int32) : Option (Int32) :=
  (lp (X0_unionBelow_B4 x1 σ) FU (0, 0))
set_option maxRecDepth 100000 in
set_option maxHeartbeats 4000000 in
theorem m_X0_unionBelow {E : JE} (hE : kOk 120 E) (σ : Wd) (x1 : Int32) {res : Int32} (hT : X0_unionBelow σ x1 = some res) : kMt E yX0_unionBelow mX0_unionBelow rmX0_unionBelow [.inr 93, .inl x1] σ (kQi res σ) := by
  refine kMt_of (by decide +kernel) rfl (Nat.le_of_ble_eq_true rfl) ?_
  generalize hQ : (kQi res σ) = Q
  show KJ E mX0_unionBelow rmX0_unionBelow 0 [some (.inr 93), some (.inl x1)] [] σ Q
  unfold X0_unionBelow at hT
  refine kj_iconst dX0_unionBelow_0 (pc' := 1) rfl kc_0 ?_
  refine kj_istore_n dX0_unionBelow_1 (pc' := 2) rfl rfl (Nat.le_of_ble_eq_true rfl) (ls' := [some (.inr 93), some (.inl x1), some (.inl 0)]) rfl ?_
  refine kj_iconst dX0_unionBelow_2 (pc' := 3) rfl kc_0 ?_
  refine kj_istore_n dX0_unionBelow_3 (pc' := 4) rfl rfl (Nat.le_of_ble_eq_true rfl) (ls' := [some (.inr 93), some (.inl x1), some (.inl 0), some (.inl 0)]) rfl ?_
  refine lp_ind (P := fun s => KJ E mX0_unionBelow rmX0_unionBelow 4 [some (.inr 93), some (.inl x1), some (.inl s.1), some (.inl s.2)] [] σ Q) (fun rec4 s ih4 hT => ?_) FU (0, 0) hT
  obtain ⟨x2, x3⟩ := s
  show KJ E mX0_unionBelow rmX0_unionBelow 4 [some (.inr 93), some (.inl x1), some (.inl x2), some (.inl x3)] [] σ Q
  rw [X0_unionBelow_B4] at hT
  have hJ50_4 : ∀ y2 y3, X0_unionBelow_J50 rec4 y2 y3 = some res → KJ E mX0_unionBelow rmX0_unionBelow 50 [some (.inr 93), some (.inl x1), some (.inl y2), some (.inl y3)] [] σ Q := by
    intro y2 y3 hT
    unfold X0_unionBelow_J50 at hT
    refine kj_iinc dX0_unionBelow_50 (pc' := 53) rfl rfl (congrArg (_ + ·) kc_1) (Nat.le_of_ble_eq_true rfl) (ls' := [some (.inr 93), some (.inl x1), some (.inl y2), some (.inl (y3 + 1))]) rfl ?_
    refine kj_goto dX0_unionBelow_53 (pc' := 4) rfl ?_
    exact ih4 (y2, y3 + 1) hT
  refine kj_iload_n dX0_unionBelow_4 (pc' := 5) rfl rfl rfl ?_
  refine kj_bipush dX0_unionBelow_5 (pc' := 7) rfl kb_7 ?_
  refine kj_icmp_ge dX0_unionBelow_7 (tgt := 56) rfl (pc' := 10) rfl (fun c2 => ?_) (fun c2 => ?_)
  · rw [if_pos c2] at hT
    refine kj_iload_n dX0_unionBelow_56 (pc' := 57) rfl rfl rfl ?_
    have hR := Option.some.inj hT
    subst hR
    exact kj_iret rfl dX0_unionBelow_57 (by subst hQ; exact ⟨rfl, rfl⟩)
  · rw [if_neg c2] at hT
    refine kj_iload_n dX0_unionBelow_10 (pc' := 11) rfl rfl rfl ?_
    refine kj_iconst dX0_unionBelow_11 (pc' := 12) rfl kc_1 ?_
    refine kj_iload_n dX0_unionBelow_12 (pc' := 13) rfl rfl rfl ?_
    refine kj_ishl dX0_unionBelow_13 (pc' := 14) rfl ?_
    refine kj_iconst dX0_unionBelow_14 (pc' := 15) rfl kc_m1 ?_
    refine kj_ixor dX0_unionBelow_15 (pc' := 16) rfl ?_
    refine kj_iand dX0_unionBelow_16 (pc' := 17) rfl ?_
    obtain ⟨x4, ex4, hT⟩ := lett_i hT
    rw [← ex4]
    refine kj_istore dX0_unionBelow_17 (pc' := 19) rfl (Nat.le_of_ble_eq_true rfl) (ls' := [some (.inr 93), some (.inl x1), some (.inl x2), some (.inl x3), some (.inl x4)]) rfl ?_
    refine kj_iload dX0_unionBelow_19 (pc' := 21) rfl rfl ?_
    refine kj_iload_n dX0_unionBelow_21 (pc' := 22) rfl rfl rfl ?_
    refine kj_icmp_eq dX0_unionBelow_22 (tgt := 50) rfl (pc' := 25) rfl (fun c3 => ?_) (fun c3 => ?_)
    · rw [if_pos c3] at hT
      refine kj_keep [true, true, true, true] (ls' := [some (.inr 93), some (.inl x1), some (.inl x2), some (.inl x3)]) rfl ?_
      exact hJ50_4 x2 x3 hT
    · rw [if_neg c3] at hT
      refine kj_iload dX0_unionBelow_25 (pc' := 27) rfl rfl ?_
      refine kj_if_lt dX0_unionBelow_27 (tgt := 50) rfl (pc' := 30) rfl (fun c4 => ?_) (fun c4 => ?_)
      · rw [if_pos c4] at hT
        refine kj_keep [true, true, true, true] (ls' := [some (.inr 93), some (.inl x1), some (.inl x2), some (.inl x3)]) rfl ?_
        exact hJ50_4 x2 x3 hT
      · rw [if_neg c4] at hT
        refine kj_iload dX0_unionBelow_30 (pc' := 32) rfl rfl ?_
        refine kj_aload_n dX0_unionBelow_32 (pc' := 33) rfl rfl rfl ?_
        refine kj_getR f_RX0_33 rfl (Nat.lt_of_lt_of_le (Nat.le_of_ble_eq_true rfl : 93 < 120) hE.1) (hE.2 _ _) (q := 101) rfl dX0_unionBelow_33 (pc' := 36) rfl ?_
        refine kj_alen (n := 0) (v := 128) 0 (ty := .int) rfl (by decide) rfl (Nat.lt_of_lt_of_le (Nat.le_of_ble_eq_true rfl : 101 < 120) hE.1) (by decide +kernel) dX0_unionBelow_36 (pc' := 37) rfl ?_
        refine kj_icmp_ge dX0_unionBelow_37 (tgt := 50) rfl (pc' := 40) rfl (fun c5 => ?_) (fun c5 => ?_)
        · rw [if_pos c5] at hT
          refine kj_keep [true, true, true, true] (ls' := [some (.inr 93), some (.inl x1), some (.inl x2), some (.inl x3)]) rfl ?_
          exact hJ50_4 x2 x3 hT
        · rw [if_neg c5] at hT
          refine kj_iload_n dX0_unionBelow_40 (pc' := 41) rfl rfl rfl ?_
          refine kj_aload_n dX0_unionBelow_41 (pc' := 42) rfl rfl rfl ?_
          refine kj_getR f_RX0_33 rfl (Nat.lt_of_lt_of_le (Nat.le_of_ble_eq_true rfl : 93 < 120) hE.1) (hE.2 _ _) (q := 101) rfl dX0_unionBelow_42 (pc' := 45) rfl ?_
          refine kj_iload dX0_unionBelow_45 (pc' := 47) rfl rfl ?_
          obtain ⟨hi6, hT⟩ := ckA_some hT
          refine kj_iald rfl (Nat.lt_of_lt_of_le (Nat.le_of_ble_eq_true rfl : 101 < 120) hE.1) hi6 rfl dX0_unionBelow_47 (pc' := 48) rfl ?_
          refine kj_ior dX0_unionBelow_48 (pc' := 49) rfl ?_
          obtain ⟨t7, et7, hT⟩ := lett_i hT
          rw [← et7]
          refine kj_istore_n dX0_unionBelow_49 (pc' := 50) rfl rfl (Nat.le_of_ble_eq_true rfl) (ls' := [some (.inr 93), some (.inl x1), some (.inl t7), some (.inl x3), some (.inl x4)]) rfl ?_
          refine kj_keep [true, true, true, true] (ls' := [some (.inr 93), some (.inl x1), some (.inl t7), some (.inl x3)]) rfl ?_
          exact hJ50_4 t7 x3 hT
def X0_fillWithin_J34 (rec2 : Int32 × Wd → Option (Wd)) (y1 : Int32) (ς : Wd) : Option (Wd) :=
  rec2 (y1 + 1, ς)
def X0_fillWithin_B2 (rec2 : Int32 × Wd → Option (Wd)) : Int32 × Wd → Option (Wd)
  | (x1, σ) => (if 128 ≤ x1 then some σ else ((X0_numberOf σ x1).bind fun t2 => (if t2 < 0 then ((X0_unionBelow σ x1).bind fun t4 => (ckA x1 128 <| X0_fillWithin_J34 rec2 x1 (up σ 101 x1.toNatClampNeg t4))) else (ckA x1 128 <| X0_fillWithin_J34 rec2 x1 (up σ 101 x1.toNatClampNeg x1)))))
def X0_fillWithin (σ : Wd) : Option (Wd) :=
  (lp (X0_fillWithin_B2) FU (0, σ))
set_option maxRecDepth 100000 in
set_option maxHeartbeats 4000000 in
theorem m_X0_fillWithin {E : JE} (hE : kOk 120 E) (σ : Wd) {res : Wd} (hT : X0_fillWithin σ = some res) : kMt E yX0_fillWithin mX0_fillWithin rmX0_fillWithin [.inr 93] σ (kQv res) := by
  refine kMt_of (by decide +kernel) rfl (Nat.le_of_ble_eq_true rfl) ?_
  generalize hQ : (kQv res) = Q
  show KJ E mX0_fillWithin rmX0_fillWithin 0 [some (.inr 93)] [] σ Q
  unfold X0_fillWithin at hT
  refine kj_iconst dX0_fillWithin_0 (pc' := 1) rfl kc_0 ?_
  refine kj_istore_n dX0_fillWithin_1 (pc' := 2) rfl rfl (Nat.le_of_ble_eq_true rfl) (ls' := [some (.inr 93), some (.inl 0)]) rfl ?_
  refine lp_ind (P := fun s => KJ E mX0_fillWithin rmX0_fillWithin 2 [some (.inr 93), some (.inl s.1)] [] s.2 Q) (fun rec2 s ih2 hT => ?_) FU (0, σ) hT
  obtain ⟨x1, σ⟩ := s
  show KJ E mX0_fillWithin rmX0_fillWithin 2 [some (.inr 93), some (.inl x1)] [] σ Q
  rw [X0_fillWithin_B2] at hT
  have hJ34_2 : ∀ y1 ς, X0_fillWithin_J34 rec2 y1 ς = some res → KJ E mX0_fillWithin rmX0_fillWithin 34 [some (.inr 93), some (.inl y1)] [] ς Q := by
    intro y1 ς hT
    unfold X0_fillWithin_J34 at hT
    refine kj_iinc dX0_fillWithin_34 (pc' := 37) rfl rfl (congrArg (_ + ·) kc_1) (Nat.le_of_ble_eq_true rfl) (ls' := [some (.inr 93), some (.inl (y1 + 1))]) rfl ?_
    refine kj_goto dX0_fillWithin_37 (pc' := 2) rfl ?_
    exact ih2 (y1 + 1, ς) hT
  refine kj_iload_n dX0_fillWithin_2 (pc' := 3) rfl rfl rfl ?_
  refine kj_aload_n dX0_fillWithin_3 (pc' := 4) rfl rfl rfl ?_
  refine kj_getR f_RX0_33 rfl (Nat.lt_of_lt_of_le (Nat.le_of_ble_eq_true rfl : 93 < 120) hE.1) (hE.2 _ _) (q := 101) rfl dX0_fillWithin_4 (pc' := 7) rfl ?_
  refine kj_alen (n := 0) (v := 128) 0 (ty := .int) rfl (by decide) rfl (Nat.lt_of_lt_of_le (Nat.le_of_ble_eq_true rfl : 101 < 120) hE.1) (by decide +kernel) dX0_fillWithin_7 (pc' := 8) rfl ?_
  refine kj_icmp_ge dX0_fillWithin_8 (tgt := 40) rfl (pc' := 11) rfl (fun c1 => ?_) (fun c1 => ?_)
  · rw [if_pos c1] at hT
    have hR := Option.some.inj hT
    subst hR
    exact kj_vret rfl dX0_fillWithin_40 (by subst hQ; exact ⟨rfl, rfl⟩)
  · rw [if_neg c1] at hT
    refine kj_aload_n dX0_fillWithin_11 (pc' := 12) rfl rfl rfl ?_
    refine kj_getR f_RX0_33 rfl (Nat.lt_of_lt_of_le (Nat.le_of_ble_eq_true rfl : 93 < 120) hE.1) (hE.2 _ _) (q := 101) rfl dX0_fillWithin_12 (pc' := 15) rfl ?_
    refine kj_iload_n dX0_fillWithin_15 (pc' := 16) rfl rfl rfl ?_
    refine kj_aload_n dX0_fillWithin_16 (pc' := 17) rfl rfl rfl ?_
    refine kj_iload_n dX0_fillWithin_17 (pc' := 18) rfl rfl rfl ?_
    obtain ⟨t2, ht2, hT⟩ := bind_some' hT
    refine kcVi (as := [.inl x1]) (st := [.inl x1, .inr 101]) l_RX0_86 (m_X0_numberOf hE σ x1 ht2) rfl (Nat.lt_of_lt_of_le (Nat.le_of_ble_eq_true rfl : 93 < 120) hE.1) rfl ⟨⟨rfl, rfl⟩, Nat.le_of_ble_eq_true rfl, Nat.le_of_ble_eq_true rfl⟩ (Nat.le_of_ble_eq_true rfl) dX0_fillWithin_18 (pc' := 21) rfl ?_
    refine kj_if_lt dX0_fillWithin_21 (tgt := 28) rfl (pc' := 24) rfl (fun c3 => ?_) (fun c3 => ?_)
    · rw [if_pos c3] at hT
      refine kj_aload_n dX0_fillWithin_28 (pc' := 29) rfl rfl rfl ?_
      refine kj_iload_n dX0_fillWithin_29 (pc' := 30) rfl rfl rfl ?_
      obtain ⟨t4, ht4, hT⟩ := bind_some' hT
      refine kcVi (as := [.inl x1]) (st := [.inl x1, .inr 101]) l_RX0_89 (m_X0_unionBelow hE σ x1 ht4) rfl (Nat.lt_of_lt_of_le (Nat.le_of_ble_eq_true rfl : 93 < 120) hE.1) rfl ⟨⟨rfl, rfl⟩, Nat.le_of_ble_eq_true rfl, Nat.le_of_ble_eq_true rfl⟩ (Nat.le_of_ble_eq_true rfl) dX0_fillWithin_30 (pc' := 33) rfl ?_
      obtain ⟨hi5, hT⟩ := ckA_some hT
      refine kj_iast rfl (Nat.lt_of_lt_of_le (Nat.le_of_ble_eq_true rfl : 101 < 120) hE.1) hi5 rfl dX0_fillWithin_33 (pc' := 34) rfl ?_
      exact hJ34_2 x1 (up σ 101 x1.toNatClampNeg t4) hT
    · rw [if_neg c3] at hT
      refine kj_iload_n dX0_fillWithin_24 (pc' := 25) rfl rfl rfl ?_
      refine kj_goto dX0_fillWithin_25 (pc' := 33) rfl ?_
      obtain ⟨hi6, hT⟩ := ckA_some hT
      refine kj_iast rfl (Nat.lt_of_lt_of_le (Nat.le_of_ble_eq_true rfl : 101 < 120) hE.1) hi6 rfl dX0_fillWithin_33 (pc' := 34) rfl ?_
      exact hJ34_2 x1 (up σ 101 x1.toNatClampNeg x1) hT
def X0_fewestFor (σ : Wd) (x1 : Int32) : Option (Int32) :=
  (if x1 < 0 then some (-2) else (if 128 ≤ x1 then some (-2) else (ckA x1 128 <| some (σ 100 x1.toNatClampNeg))))
set_option maxRecDepth 100000 in
set_option maxHeartbeats 4000000 in
theorem m_X0_fewestFor {E : JE} (hE : kOk 120 E) (σ : Wd) (x1 : Int32) {res : Int32} (hT : X0_fewestFor σ x1 = some res) : kMt E yX0_fewestFor mX0_fewestFor rmX0_fewestFor [.inr 93, .inl x1] σ (kQi res σ) := by
  refine kMt_of (by decide +kernel) rfl (Nat.le_of_ble_eq_true rfl) ?_
  generalize hQ : (kQi res σ) = Q
  show KJ E mX0_fewestFor rmX0_fewestFor 0 [some (.inr 93), some (.inl x1)] [] σ Q
  unfold X0_fewestFor at hT
  refine kj_iload_n dX0_fewestFor_0 (pc' := 1) rfl rfl rfl ?_
  refine kj_if_lt dX0_fewestFor_1 (tgt := 22) rfl (pc' := 4) rfl (fun c1 => ?_) (fun c1 => ?_)
  · rw [if_pos c1] at hT
    refine kj_bipush dX0_fewestFor_22 (pc' := 24) rfl kb_m2 ?_
    have hR := Option.some.inj hT
    subst hR
    exact kj_iret rfl dX0_fewestFor_24 (by subst hQ; exact ⟨rfl, rfl⟩)
  · rw [if_neg c1] at hT
    refine kj_iload_n dX0_fewestFor_4 (pc' := 5) rfl rfl rfl ?_
    refine kj_aload_n dX0_fewestFor_5 (pc' := 6) rfl rfl rfl ?_
    refine kj_getR f_RX0_30 rfl (Nat.lt_of_lt_of_le (Nat.le_of_ble_eq_true rfl : 93 < 120) hE.1) (hE.2 _ _) (q := 100) rfl dX0_fewestFor_6 (pc' := 9) rfl ?_
    refine kj_alen (n := 0) (v := 128) 0 (ty := .int) rfl (by decide) rfl (Nat.lt_of_lt_of_le (Nat.le_of_ble_eq_true rfl : 100 < 120) hE.1) (by decide +kernel) dX0_fewestFor_9 (pc' := 10) rfl ?_
    refine kj_icmp_ge dX0_fewestFor_10 (tgt := 22) rfl (pc' := 13) rfl (fun c2 => ?_) (fun c2 => ?_)
    · rw [if_pos c2] at hT
      refine kj_bipush dX0_fewestFor_22 (pc' := 24) rfl kb_m2 ?_
      have hR := Option.some.inj hT
      subst hR
      exact kj_iret rfl dX0_fewestFor_24 (by subst hQ; exact ⟨rfl, rfl⟩)
    · rw [if_neg c2] at hT
      refine kj_aload_n dX0_fewestFor_13 (pc' := 14) rfl rfl rfl ?_
      refine kj_getR f_RX0_30 rfl (Nat.lt_of_lt_of_le (Nat.le_of_ble_eq_true rfl : 93 < 120) hE.1) (hE.2 _ _) (q := 100) rfl dX0_fewestFor_14 (pc' := 17) rfl ?_
      refine kj_iload_n dX0_fewestFor_17 (pc' := 18) rfl rfl rfl ?_
      obtain ⟨hi3, hT⟩ := ckA_some hT
      refine kj_iald rfl (Nat.lt_of_lt_of_le (Nat.le_of_ble_eq_true rfl : 100 < 120) hE.1) hi3 rfl dX0_fewestFor_18 (pc' := 19) rfl ?_
      refine kj_goto dX0_fewestFor_19 (pc' := 24) rfl ?_
      have hR := Option.some.inj hT
      subst hR
      exact kj_iret rfl dX0_fewestFor_24 (by subst hQ; exact ⟨rfl, rfl⟩)
def X0_numberMembers_J76 (rec18 : Int32 × Wd → Option (Wd)) (y1 : Int32) (ς : Wd) : Option (Wd) :=
  rec18 (y1 + 1, ς)
def X0_numberMembers_B18 (rec18 : Int32 × Wd → Option (Wd)) : Int32 × Wd → Option (Wd)
  | (x1, σ) => (if 128 ≤ x1 then some σ else (ckA x1 128 <| ((X0_fewestFor σ (σ 94 x1.toNatClampNeg)).bind fun t4 => (if t4 < 0 then X0_numberMembers_J76 rec18 x1 σ else (if (σ 94 x1.toNatClampNeg) < 0 then X0_numberMembers_J76 rec18 x1 σ else (if 128 ≤ (σ 94 x1.toNatClampNeg) then X0_numberMembers_J76 rec18 x1 σ else (ckA (σ 94 x1.toNatClampNeg) 128 <| ((X4_append (up σ 99 ((σ 94 x1.toNatClampNeg).toNatClampNeg) (σ 95 1)) 95 (σ 94 x1.toNatClampNeg)).bind fun σ9 => X0_numberMembers_J76 rec18 x1 σ9))))))))
def X0_numberMembers (σ : Wd) : Option (Wd) :=
  ((J7_fill_53178 (X4_clear σ 95) 99 (-2)).bind fun σ1 => (lp (X0_numberMembers_B18) FU (0, σ1)))
set_option maxRecDepth 100000 in
set_option maxHeartbeats 4000000 in
theorem m_X0_numberMembers {E : JE} (hE : kOk 120 E) (σ : Wd) {res : Wd} (hT : X0_numberMembers σ = some res) : kMt E yX0_numberMembers mX0_numberMembers rmX0_numberMembers [.inr 93] σ (kQv res) := by
  refine kMt_of (by decide +kernel) rfl (Nat.le_of_ble_eq_true rfl) ?_
  generalize hQ : (kQv res) = Q
  show KJ E mX0_numberMembers rmX0_numberMembers 0 [some (.inr 93)] [] σ Q
  unfold X0_numberMembers at hT
  refine kj_aload_n dX0_numberMembers_0 (pc' := 1) rfl rfl rfl ?_
  refine kj_getR f_RX0_20 rfl (Nat.lt_of_lt_of_le (Nat.le_of_ble_eq_true rfl : 93 < 120) hE.1) (hE.2 _ _) (q := 95) rfl dX0_numberMembers_1 (pc' := 4) rfl ?_
  refine kcVv (as := []) (st := []) l_RX0_77 (m_X4_clear hE rfl σ rfl) rfl (Nat.lt_of_lt_of_le (Nat.le_of_ble_eq_true rfl : 95 < 120) hE.1) rfl ⟨⟨rfl, rfl⟩, Nat.le_of_ble_eq_true rfl, Nat.le_of_ble_eq_true rfl⟩ (Nat.le_of_ble_eq_true rfl) dX0_numberMembers_4 (pc' := 7) rfl ?_
  refine kj_aload_n dX0_numberMembers_7 (pc' := 8) rfl rfl rfl ?_
  refine kj_getR f_RX0_27 rfl (Nat.lt_of_lt_of_le (Nat.le_of_ble_eq_true rfl : 93 < 120) hE.1) (hE.2 _ _) (q := 99) rfl dX0_numberMembers_8 (pc' := 11) rfl ?_
  refine kj_bipush dX0_numberMembers_11 (pc' := 13) rfl kb_m2 ?_
  obtain ⟨σ1, hσ1, hT⟩ := bind_some' hT
  refine kcSv (as := [.inr 99, .inl (-2)]) (st := []) l_RX0_65 (m_J7_fill_53178 (Nat.zero_le _) rfl (Nat.lt_of_lt_of_le (Nat.le_of_ble_eq_true rfl : 99 < 120) hE.1) (X4_clear σ 95) (-2) hσ1) rfl ⟨⟨rfl, rfl⟩, Nat.le_of_ble_eq_true rfl, Nat.le_of_ble_eq_true rfl⟩ (Nat.le_of_ble_eq_true rfl) dX0_numberMembers_13 (pc' := 16) rfl ?_
  refine kj_iconst dX0_numberMembers_16 (pc' := 17) rfl kc_0 ?_
  refine kj_istore_n dX0_numberMembers_17 (pc' := 18) rfl rfl (Nat.le_of_ble_eq_true rfl) (ls' := [some (.inr 93), some (.inl 0)]) rfl ?_
  refine lp_ind (P := fun s => KJ E mX0_numberMembers rmX0_numberMembers 18 [some (.inr 93), some (.inl s.1)] [] s.2 Q) (fun rec18 s ih18 hT => ?_) FU (0, σ1) hT
  obtain ⟨x1, σ⟩ := s
  show KJ E mX0_numberMembers rmX0_numberMembers 18 [some (.inr 93), some (.inl x1)] [] σ Q
  rw [X0_numberMembers_B18] at hT
  have hJ76_18 : ∀ y1 ς, X0_numberMembers_J76 rec18 y1 ς = some res → KJ E mX0_numberMembers rmX0_numberMembers 76 [some (.inr 93), some (.inl y1)] [] ς Q := by
    intro y1 ς hT
    unfold X0_numberMembers_J76 at hT
    refine kj_iinc dX0_numberMembers_76 (pc' := 79) rfl rfl (congrArg (_ + ·) kc_1) (Nat.le_of_ble_eq_true rfl) (ls' := [some (.inr 93), some (.inl (y1 + 1))]) rfl ?_
    refine kj_goto dX0_numberMembers_79 (pc' := 18) rfl ?_
    exact ih18 (y1 + 1, ς) hT
  refine kj_iload_n dX0_numberMembers_18 (pc' := 19) rfl rfl rfl ?_
  refine kj_aload_n dX0_numberMembers_19 (pc' := 20) rfl rfl rfl ?_
  refine kj_getR f_RX0_9 rfl (Nat.lt_of_lt_of_le (Nat.le_of_ble_eq_true rfl : 93 < 120) hE.1) (hE.2 _ _) (q := 94) rfl dX0_numberMembers_20 (pc' := 23) rfl ?_
  refine kj_alen (n := 0) (v := 128) 0 (ty := .int) rfl (by decide) rfl (Nat.lt_of_lt_of_le (Nat.le_of_ble_eq_true rfl : 94 < 120) hE.1) (by decide +kernel) dX0_numberMembers_23 (pc' := 24) rfl ?_
  refine kj_icmp_ge dX0_numberMembers_24 (tgt := 82) rfl (pc' := 27) rfl (fun c2 => ?_) (fun c2 => ?_)
  · rw [if_pos c2] at hT
    have hR := Option.some.inj hT
    subst hR
    exact kj_vret rfl dX0_numberMembers_82 (by subst hQ; exact ⟨rfl, rfl⟩)
  · rw [if_neg c2] at hT
    refine kj_aload_n dX0_numberMembers_27 (pc' := 28) rfl rfl rfl ?_
    refine kj_getR f_RX0_9 rfl (Nat.lt_of_lt_of_le (Nat.le_of_ble_eq_true rfl : 93 < 120) hE.1) (hE.2 _ _) (q := 94) rfl dX0_numberMembers_28 (pc' := 31) rfl ?_
    refine kj_iload_n dX0_numberMembers_31 (pc' := 32) rfl rfl rfl ?_
    obtain ⟨hi3, hT⟩ := ckA_some hT
    refine kj_iald rfl (Nat.lt_of_lt_of_le (Nat.le_of_ble_eq_true rfl : 94 < 120) hE.1) hi3 rfl dX0_numberMembers_32 (pc' := 33) rfl ?_
    refine kj_istore_n dX0_numberMembers_33 (pc' := 34) rfl rfl (Nat.le_of_ble_eq_true rfl) (ls' := [some (.inr 93), some (.inl x1), some (.inl (σ 94 x1.toNatClampNeg))]) rfl ?_
    refine kj_aload_n dX0_numberMembers_34 (pc' := 35) rfl rfl rfl ?_
    refine kj_iload_n dX0_numberMembers_35 (pc' := 36) rfl rfl rfl ?_
    obtain ⟨t4, ht4, hT⟩ := bind_some' hT
    refine kcVi (as := [.inl (σ 94 x1.toNatClampNeg)]) (st := []) l_RX0_80 (m_X0_fewestFor hE σ (σ 94 x1.toNatClampNeg) ht4) rfl (Nat.lt_of_lt_of_le (Nat.le_of_ble_eq_true rfl : 93 < 120) hE.1) rfl ⟨⟨rfl, rfl⟩, Nat.le_of_ble_eq_true rfl, Nat.le_of_ble_eq_true rfl⟩ (Nat.le_of_ble_eq_true rfl) dX0_numberMembers_36 (pc' := 39) rfl ?_
    refine kj_if_lt dX0_numberMembers_39 (tgt := 76) rfl (pc' := 42) rfl (fun c5 => ?_) (fun c5 => ?_)
    · rw [if_pos c5] at hT
      refine kj_keep [true, true] (ls' := [some (.inr 93), some (.inl x1)]) rfl ?_
      exact hJ76_18 x1 σ hT
    · rw [if_neg c5] at hT
      refine kj_iload_n dX0_numberMembers_42 (pc' := 43) rfl rfl rfl ?_
      refine kj_if_lt dX0_numberMembers_43 (tgt := 76) rfl (pc' := 46) rfl (fun c6 => ?_) (fun c6 => ?_)
      · rw [if_pos c6] at hT
        refine kj_keep [true, true] (ls' := [some (.inr 93), some (.inl x1)]) rfl ?_
        exact hJ76_18 x1 σ hT
      · rw [if_neg c6] at hT
        refine kj_iload_n dX0_numberMembers_46 (pc' := 47) rfl rfl rfl ?_
        refine kj_aload_n dX0_numberMembers_47 (pc' := 48) rfl rfl rfl ?_
        refine kj_getR f_RX0_27 rfl (Nat.lt_of_lt_of_le (Nat.le_of_ble_eq_true rfl : 93 < 120) hE.1) (hE.2 _ _) (q := 99) rfl dX0_numberMembers_48 (pc' := 51) rfl ?_
        refine kj_alen (n := 0) (v := 128) 0 (ty := .int) rfl (by decide) rfl (Nat.lt_of_lt_of_le (Nat.le_of_ble_eq_true rfl : 99 < 120) hE.1) (by decide +kernel) dX0_numberMembers_51 (pc' := 52) rfl ?_
        refine kj_icmp_ge dX0_numberMembers_52 (tgt := 76) rfl (pc' := 55) rfl (fun c7 => ?_) (fun c7 => ?_)
        · rw [if_pos c7] at hT
          refine kj_keep [true, true] (ls' := [some (.inr 93), some (.inl x1)]) rfl ?_
          exact hJ76_18 x1 σ hT
        · rw [if_neg c7] at hT
          refine kj_aload_n dX0_numberMembers_55 (pc' := 56) rfl rfl rfl ?_
          refine kj_getR f_RX0_27 rfl (Nat.lt_of_lt_of_le (Nat.le_of_ble_eq_true rfl : 93 < 120) hE.1) (hE.2 _ _) (q := 99) rfl dX0_numberMembers_56 (pc' := 59) rfl ?_
          refine kj_iload_n dX0_numberMembers_59 (pc' := 60) rfl rfl rfl ?_
          refine kj_aload_n dX0_numberMembers_60 (pc' := 61) rfl rfl rfl ?_
          refine kj_getR f_RX0_20 rfl (Nat.lt_of_lt_of_le (Nat.le_of_ble_eq_true rfl : 93 < 120) hE.1) (hE.2 _ _) (q := 95) rfl dX0_numberMembers_61 (pc' := 64) rfl ?_
          refine kj_getI f_RX0_71 rfl (Nat.lt_of_lt_of_le (Nat.le_of_ble_eq_true rfl : 95 < 120) hE.1) dX0_numberMembers_64 (pc' := 67) rfl ?_
          obtain ⟨hi8, hT⟩ := ckA_some hT
          refine kj_iast rfl (Nat.lt_of_lt_of_le (Nat.le_of_ble_eq_true rfl : 99 < 120) hE.1) hi8 rfl dX0_numberMembers_67 (pc' := 68) rfl ?_
          refine kj_aload_n dX0_numberMembers_68 (pc' := 69) rfl rfl rfl ?_
          refine kj_getR f_RX0_20 rfl (Nat.lt_of_lt_of_le (Nat.le_of_ble_eq_true rfl : 93 < 120) hE.1) (hE.2 _ _) (q := 95) rfl dX0_numberMembers_69 (pc' := 72) rfl ?_
          refine kj_iload_n dX0_numberMembers_72 (pc' := 73) rfl rfl rfl ?_
          obtain ⟨σ9, hσ9, hT⟩ := bind_some' hT
          refine kcVv (as := [.inl (σ 94 x1.toNatClampNeg)]) (st := []) l_RX0_83 (m_X4_append hE rfl (up σ 99 ((σ 94 x1.toNatClampNeg).toNatClampNeg) (σ 95 1)) (σ 94 x1.toNatClampNeg) hσ9) rfl (Nat.lt_of_lt_of_le (Nat.le_of_ble_eq_true rfl : 95 < 120) hE.1) rfl ⟨⟨rfl, rfl⟩, Nat.le_of_ble_eq_true rfl, Nat.le_of_ble_eq_true rfl⟩ (Nat.le_of_ble_eq_true rfl) dX0_numberMembers_73 (pc' := 76) rfl ?_
          refine kj_keep [true, true] (ls' := [some (.inr 93), some (.inl x1)]) rfl ?_
          exact hJ76_18 x1 σ9 hT
def X0_pickBase_J46 (rec9 : Int32 × Wd → Option (Wd)) (y1 : Int32) (ς : Wd) : Option (Wd) :=
  rec9 (y1 + 1, ς)
def X0_pickBase_B9 (rec9 : Int32 × Wd → Option (Wd)) : Int32 × Wd → Option (Wd)
  | (x1, σ) => (if (σ 95 1) ≤ x1 then some σ else ((X4_at σ 95 x1).bind fun t2 => ((X0_unionBelow σ t2).bind fun t3 => (if t3 = t2 then X0_pickBase_J46 rec9 x1 σ else ((X4_append σ 97 t2).bind fun σ5 => X0_pickBase_J46 rec9 x1 σ5)))))
def X0_pickBase (σ : Wd) : Option (Wd) :=
  (lp (X0_pickBase_B9) FU (1, X4_clear σ 97))
set_option maxRecDepth 100000 in
set_option maxHeartbeats 4000000 in
theorem m_X0_pickBase {E : JE} (hE : kOk 120 E) (σ : Wd) {res : Wd} (hT : X0_pickBase σ = some res) : kMt E yX0_pickBase mX0_pickBase rmX0_pickBase [.inr 93] σ (kQv res) := by
  refine kMt_of (by decide +kernel) rfl (Nat.le_of_ble_eq_true rfl) ?_
  generalize hQ : (kQv res) = Q
  show KJ E mX0_pickBase rmX0_pickBase 0 [some (.inr 93)] [] σ Q
  unfold X0_pickBase at hT
  refine kj_aload_n dX0_pickBase_0 (pc' := 1) rfl rfl rfl ?_
  refine kj_getR f_RX0_24 rfl (Nat.lt_of_lt_of_le (Nat.le_of_ble_eq_true rfl : 93 < 120) hE.1) (hE.2 _ _) (q := 97) rfl dX0_pickBase_1 (pc' := 4) rfl ?_
  refine kcVv (as := []) (st := []) l_RX0_77 (m_X4_clear hE rfl σ rfl) rfl (Nat.lt_of_lt_of_le (Nat.le_of_ble_eq_true rfl : 97 < 120) hE.1) rfl ⟨⟨rfl, rfl⟩, Nat.le_of_ble_eq_true rfl, Nat.le_of_ble_eq_true rfl⟩ (Nat.le_of_ble_eq_true rfl) dX0_pickBase_4 (pc' := 7) rfl ?_
  refine kj_iconst dX0_pickBase_7 (pc' := 8) rfl kc_1 ?_
  refine kj_istore_n dX0_pickBase_8 (pc' := 9) rfl rfl (Nat.le_of_ble_eq_true rfl) (ls' := [some (.inr 93), some (.inl 1)]) rfl ?_
  refine lp_ind (P := fun s => KJ E mX0_pickBase rmX0_pickBase 9 [some (.inr 93), some (.inl s.1)] [] s.2 Q) (fun rec9 s ih9 hT => ?_) FU (1, X4_clear σ 97) hT
  obtain ⟨x1, σ⟩ := s
  show KJ E mX0_pickBase rmX0_pickBase 9 [some (.inr 93), some (.inl x1)] [] σ Q
  rw [X0_pickBase_B9] at hT
  have hJ46_9 : ∀ y1 ς, X0_pickBase_J46 rec9 y1 ς = some res → KJ E mX0_pickBase rmX0_pickBase 46 [some (.inr 93), some (.inl y1)] [] ς Q := by
    intro y1 ς hT
    unfold X0_pickBase_J46 at hT
    refine kj_iinc dX0_pickBase_46 (pc' := 49) rfl rfl (congrArg (_ + ·) kc_1) (Nat.le_of_ble_eq_true rfl) (ls' := [some (.inr 93), some (.inl (y1 + 1))]) rfl ?_
    refine kj_goto dX0_pickBase_49 (pc' := 9) rfl ?_
    exact ih9 (y1 + 1, ς) hT
  refine kj_iload_n dX0_pickBase_9 (pc' := 10) rfl rfl rfl ?_
  refine kj_aload_n dX0_pickBase_10 (pc' := 11) rfl rfl rfl ?_
  refine kj_getR f_RX0_20 rfl (Nat.lt_of_lt_of_le (Nat.le_of_ble_eq_true rfl : 93 < 120) hE.1) (hE.2 _ _) (q := 95) rfl dX0_pickBase_11 (pc' := 14) rfl ?_
  refine kj_getI f_RX0_71 rfl (Nat.lt_of_lt_of_le (Nat.le_of_ble_eq_true rfl : 95 < 120) hE.1) dX0_pickBase_14 (pc' := 17) rfl ?_
  refine kj_icmp_ge dX0_pickBase_17 (tgt := 52) rfl (pc' := 20) rfl (fun c1 => ?_) (fun c1 => ?_)
  · rw [if_pos c1] at hT
    have hR := Option.some.inj hT
    subst hR
    exact kj_vret rfl dX0_pickBase_52 (by subst hQ; exact ⟨rfl, rfl⟩)
  · rw [if_neg c1] at hT
    refine kj_aload_n dX0_pickBase_20 (pc' := 21) rfl rfl rfl ?_
    refine kj_getR f_RX0_20 rfl (Nat.lt_of_lt_of_le (Nat.le_of_ble_eq_true rfl : 93 < 120) hE.1) (hE.2 _ _) (q := 95) rfl dX0_pickBase_21 (pc' := 24) rfl ?_
    refine kj_iload_n dX0_pickBase_24 (pc' := 25) rfl rfl rfl ?_
    obtain ⟨t2, ht2, hT⟩ := bind_some' hT
    refine kcVi (as := [.inl x1]) (st := []) l_RX0_74 (m_X4_at hE rfl σ x1 ht2) rfl (Nat.lt_of_lt_of_le (Nat.le_of_ble_eq_true rfl : 95 < 120) hE.1) rfl ⟨⟨rfl, rfl⟩, Nat.le_of_ble_eq_true rfl, Nat.le_of_ble_eq_true rfl⟩ (Nat.le_of_ble_eq_true rfl) dX0_pickBase_25 (pc' := 28) rfl ?_
    refine kj_istore_n dX0_pickBase_28 (pc' := 29) rfl rfl (Nat.le_of_ble_eq_true rfl) (ls' := [some (.inr 93), some (.inl x1), some (.inl t2)]) rfl ?_
    refine kj_aload_n dX0_pickBase_29 (pc' := 30) rfl rfl rfl ?_
    refine kj_iload_n dX0_pickBase_30 (pc' := 31) rfl rfl rfl ?_
    obtain ⟨t3, ht3, hT⟩ := bind_some' hT
    refine kcVi (as := [.inl t2]) (st := []) l_RX0_89 (m_X0_unionBelow hE σ t2 ht3) rfl (Nat.lt_of_lt_of_le (Nat.le_of_ble_eq_true rfl : 93 < 120) hE.1) rfl ⟨⟨rfl, rfl⟩, Nat.le_of_ble_eq_true rfl, Nat.le_of_ble_eq_true rfl⟩ (Nat.le_of_ble_eq_true rfl) dX0_pickBase_31 (pc' := 34) rfl ?_
    refine kj_iload_n dX0_pickBase_34 (pc' := 35) rfl rfl rfl ?_
    refine kj_icmp_eq dX0_pickBase_35 (tgt := 46) rfl (pc' := 38) rfl (fun c4 => ?_) (fun c4 => ?_)
    · rw [if_pos c4] at hT
      refine kj_keep [true, true] (ls' := [some (.inr 93), some (.inl x1)]) rfl ?_
      exact hJ46_9 x1 σ hT
    · rw [if_neg c4] at hT
      refine kj_aload_n dX0_pickBase_38 (pc' := 39) rfl rfl rfl ?_
      refine kj_getR f_RX0_24 rfl (Nat.lt_of_lt_of_le (Nat.le_of_ble_eq_true rfl : 93 < 120) hE.1) (hE.2 _ _) (q := 97) rfl dX0_pickBase_39 (pc' := 42) rfl ?_
      refine kj_iload_n dX0_pickBase_42 (pc' := 43) rfl rfl rfl ?_
      obtain ⟨σ5, hσ5, hT⟩ := bind_some' hT
      refine kcVv (as := [.inl t2]) (st := []) l_RX0_83 (m_X4_append hE rfl σ t2 hσ5) rfl (Nat.lt_of_lt_of_le (Nat.le_of_ble_eq_true rfl : 97 < 120) hE.1) rfl ⟨⟨rfl, rfl⟩, Nat.le_of_ble_eq_true rfl, Nat.le_of_ble_eq_true rfl⟩ (Nat.le_of_ble_eq_true rfl) dX0_pickBase_43 (pc' := 46) rfl ?_
      refine kj_keep [true, true] (ls' := [some (.inr 93), some (.inl x1)]) rfl ?_
      exact hJ46_9 x1 σ5 hT
def X0_unite_T119 (rec18 : Int32 × Wd → Option (Wd)) (x2 : Int32) (σ : Wd) : Option (Wd) :=
  rec18 (x2 + 1, σ)
def X0_unite_J113 (rec28 : Int32 × Wd → Option (Wd)) (y3 : Int32) (ς : Wd) : Option (Wd) :=
  rec28 (y3 + 1, ς)
def X0_unite_J98 (rec28 : Int32 × Wd → Option (Wd)) (y3 : Int32) (y4 : Int32) (ς : Wd) : Option (Wd) :=
  (ckA y3 128 <| (ckA y4 128 <| X0_unite_J113 rec28 y3 (up ς 100 y4.toNatClampNeg ((ς 100 y3.toNatClampNeg) + 1))))
def X0_unite_B28 (q1 : Nat) (x2 : Int32) (kx28 : Wd → Option (Wd)) (rec28 : Int32 × Wd → Option (Wd)) : Int32 × Wd → Option (Wd)
  | (x3, σ) => (if 128 ≤ x3 then kx28 σ else ((X4_at σ q1 x2).bind fun t4 => (ckA x3 128 <| (if (σ 100 x3.toNatClampNeg) < 0 then X0_unite_J113 rec28 x3 σ else (if (x3 ||| t4) < 0 then X0_unite_J113 rec28 x3 σ else (if 128 ≤ (x3 ||| t4) then X0_unite_J113 rec28 x3 σ else (ckA (x3 ||| t4) 128 <| (if (σ 100 ((x3 ||| t4).toNatClampNeg)) < 0 then X0_unite_J98 rec28 x3 (x3 ||| t4) σ else (ckA (x3 ||| t4) 128 <| (ckA x3 128 <| (if (σ 100 ((x3 ||| t4).toNatClampNeg)) ≤ ((σ 100 x3.toNatClampNeg) + 1) then X0_unite_J113 rec28 x3 σ else X0_unite_J98 rec28 x3 (x3 ||| t4) σ)))))))))))
def X0_unite_B18 (q1 : Nat) (rec18 : Int32 × Wd → Option (Wd)) : Int32 × Wd → Option (Wd)
  | (x2, σ) => (if (σ q1 1) ≤ x2 then some σ else (lp (X0_unite_B28 q1 x2 (X0_unite_T119 rec18 x2)) FU (0, σ)))
def X0_unite (σ : Wd) (q1 : Nat) : Option (Wd) :=
  ((J7_fill_53178 σ 100 (-2)).bind fun σ1 => (lp (X0_unite_B18 q1) FU (0, up σ1 100 0 0)))
set_option maxRecDepth 100000 in
set_option maxHeartbeats 4000000 in
theorem m_X0_unite {E : JE} (hE : kOk 120 E) {q1 : Nat} (hq1 : kKd q1 = 4) (σ : Wd) {res : Wd} (hT : X0_unite σ q1 = some res) : kMt E yX0_unite mX0_unite rmX0_unite [.inr 93, .inr q1] σ (kQv res) := by
  refine kMt_of (by decide +kernel) rfl (Nat.le_of_ble_eq_true rfl) ?_
  generalize hQ : (kQv res) = Q
  show KJ E mX0_unite rmX0_unite 0 [some (.inr 93), some (.inr q1)] [] σ Q
  unfold X0_unite at hT
  refine kj_aload_n dX0_unite_0 (pc' := 1) rfl rfl rfl ?_
  refine kj_getR f_RX0_30 rfl (Nat.lt_of_lt_of_le (Nat.le_of_ble_eq_true rfl : 93 < 120) hE.1) (hE.2 _ _) (q := 100) rfl dX0_unite_1 (pc' := 4) rfl ?_
  refine kj_bipush dX0_unite_4 (pc' := 6) rfl kb_m2 ?_
  obtain ⟨σ1, hσ1, hT⟩ := bind_some' hT
  refine kcSv (as := [.inr 100, .inl (-2)]) (st := []) l_RX0_65 (m_J7_fill_53178 (Nat.zero_le _) rfl (Nat.lt_of_lt_of_le (Nat.le_of_ble_eq_true rfl : 100 < 120) hE.1) σ (-2) hσ1) rfl ⟨⟨rfl, rfl⟩, Nat.le_of_ble_eq_true rfl, Nat.le_of_ble_eq_true rfl⟩ (Nat.le_of_ble_eq_true rfl) dX0_unite_6 (pc' := 9) rfl ?_
  refine kj_aload_n dX0_unite_9 (pc' := 10) rfl rfl rfl ?_
  refine kj_getR f_RX0_30 rfl (Nat.lt_of_lt_of_le (Nat.le_of_ble_eq_true rfl : 93 < 120) hE.1) (hE.2 _ _) (q := 100) rfl dX0_unite_10 (pc' := 13) rfl ?_
  refine kj_iconst dX0_unite_13 (pc' := 14) rfl kc_0 ?_
  refine kj_iconst dX0_unite_14 (pc' := 15) rfl kc_0 ?_
  refine kj_iast rfl (Nat.lt_of_lt_of_le (Nat.le_of_ble_eq_true rfl : 100 < 120) hE.1) (vp_lit (by decide +kernel)) (j := 0) (by decide +kernel) dX0_unite_15 (pc' := 16) rfl ?_
  refine kj_iconst dX0_unite_16 (pc' := 17) rfl kc_0 ?_
  refine kj_istore_n dX0_unite_17 (pc' := 18) rfl rfl (Nat.le_of_ble_eq_true rfl) (ls' := [some (.inr 93), some (.inr q1), some (.inl 0)]) rfl ?_
  refine lp_ind (P := fun s => KJ E mX0_unite rmX0_unite 18 [some (.inr 93), some (.inr q1), some (.inl s.1)] [] s.2 Q) (fun rec18 s ih18 hT => ?_) FU (0, up σ1 100 0 0) hT
  obtain ⟨x2, σ⟩ := s
  show KJ E mX0_unite rmX0_unite 18 [some (.inr 93), some (.inr q1), some (.inl x2)] [] σ Q
  rw [X0_unite_B18] at hT
  refine kj_iload_n dX0_unite_18 (pc' := 19) rfl rfl rfl ?_
  refine kj_aload_n dX0_unite_19 (pc' := 20) rfl rfl rfl ?_
  refine kj_getI f_RX0_71 hq1 (Nat.lt_of_lt_of_le (kn4_0 hq1) hE.1) dX0_unite_20 (pc' := 23) rfl ?_
  refine kj_icmp_ge dX0_unite_23 (tgt := 125) rfl (pc' := 26) rfl (fun c2 => ?_) (fun c2 => ?_)
  · rw [if_pos c2] at hT
    have hR := Option.some.inj hT
    subst hR
    exact kj_vret rfl dX0_unite_125 (by subst hQ; exact ⟨rfl, rfl⟩)
  · rw [if_neg c2] at hT
    refine kj_iconst dX0_unite_26 (pc' := 27) rfl kc_0 ?_
    refine kj_istore_n dX0_unite_27 (pc' := 28) rfl rfl (Nat.le_of_ble_eq_true rfl) (ls' := [some (.inr 93), some (.inr q1), some (.inl x2), some (.inl 0)]) rfl ?_
    have hX28 : ∀ σ, X0_unite_T119 rec18 x2 σ = some res → KJ E mX0_unite rmX0_unite 119 [some (.inr 93), some (.inr q1), some (.inl x2)] [] σ Q := by
      intro σ hT
      unfold X0_unite_T119 at hT
      refine kj_iinc dX0_unite_119 (pc' := 122) rfl rfl (congrArg (_ + ·) kc_1) (Nat.le_of_ble_eq_true rfl) (ls' := [some (.inr 93), some (.inr q1), some (.inl (x2 + 1))]) rfl ?_
      refine kj_goto dX0_unite_122 (pc' := 18) rfl ?_
      exact ih18 (x2 + 1, σ) hT
    refine lp_ind (P := fun s => KJ E mX0_unite rmX0_unite 28 [some (.inr 93), some (.inr q1), some (.inl x2), some (.inl s.1)] [] s.2 Q) (fun rec28 s ih28 hT => ?_) FU (0, σ) hT
    obtain ⟨x3, σ⟩ := s
    show KJ E mX0_unite rmX0_unite 28 [some (.inr 93), some (.inr q1), some (.inl x2), some (.inl x3)] [] σ Q
    rw [X0_unite_B28] at hT
    have hJ113_18_28 : ∀ y3 ς, X0_unite_J113 rec28 y3 ς = some res → KJ E mX0_unite rmX0_unite 113 [some (.inr 93), some (.inr q1), some (.inl x2), some (.inl y3)] [] ς Q := by
      intro y3 ς hT
      unfold X0_unite_J113 at hT
      refine kj_iinc dX0_unite_113 (pc' := 116) rfl rfl (congrArg (_ + ·) kc_1) (Nat.le_of_ble_eq_true rfl) (ls' := [some (.inr 93), some (.inr q1), some (.inl x2), some (.inl (y3 + 1))]) rfl ?_
      refine kj_goto dX0_unite_116 (pc' := 28) rfl ?_
      exact ih28 (y3 + 1, ς) hT
    have hJ98_18_28 : ∀ y3 y4 ς, X0_unite_J98 rec28 y3 y4 ς = some res → KJ E mX0_unite rmX0_unite 98 [some (.inr 93), some (.inr q1), some (.inl x2), some (.inl y3), some (.inl y4)] [] ς Q := by
      intro y3 y4 ς hT
      unfold X0_unite_J98 at hT
      refine kj_aload_n dX0_unite_98 (pc' := 99) rfl rfl rfl ?_
      refine kj_getR f_RX0_30 rfl (Nat.lt_of_lt_of_le (Nat.le_of_ble_eq_true rfl : 93 < 120) hE.1) (hE.2 _ _) (q := 100) rfl dX0_unite_99 (pc' := 102) rfl ?_
      refine kj_iload dX0_unite_102 (pc' := 104) rfl rfl ?_
      refine kj_aload_n dX0_unite_104 (pc' := 105) rfl rfl rfl ?_
      refine kj_getR f_RX0_30 rfl (Nat.lt_of_lt_of_le (Nat.le_of_ble_eq_true rfl : 93 < 120) hE.1) (hE.2 _ _) (q := 100) rfl dX0_unite_105 (pc' := 108) rfl ?_
      refine kj_iload_n dX0_unite_108 (pc' := 109) rfl rfl rfl ?_
      obtain ⟨hi11, hT⟩ := ckA_some hT
      refine kj_iald rfl (Nat.lt_of_lt_of_le (Nat.le_of_ble_eq_true rfl : 100 < 120) hE.1) hi11 rfl dX0_unite_109 (pc' := 110) rfl ?_
      refine kj_iconst dX0_unite_110 (pc' := 111) rfl kc_1 ?_
      refine kj_iadd dX0_unite_111 (pc' := 112) rfl ?_
      obtain ⟨hi12, hT⟩ := ckA_some hT
      refine kj_iast rfl (Nat.lt_of_lt_of_le (Nat.le_of_ble_eq_true rfl : 100 < 120) hE.1) hi12 rfl dX0_unite_112 (pc' := 113) rfl ?_
      refine kj_keep [true, true, true, true] (ls' := [some (.inr 93), some (.inr q1), some (.inl x2), some (.inl y3)]) rfl ?_
      exact hJ113_18_28 y3 (up ς 100 y4.toNatClampNeg ((ς 100 y3.toNatClampNeg) + 1)) hT
    refine kj_iload_n dX0_unite_28 (pc' := 29) rfl rfl rfl ?_
    refine kj_aload_n dX0_unite_29 (pc' := 30) rfl rfl rfl ?_
    refine kj_getR f_RX0_30 rfl (Nat.lt_of_lt_of_le (Nat.le_of_ble_eq_true rfl : 93 < 120) hE.1) (hE.2 _ _) (q := 100) rfl dX0_unite_30 (pc' := 33) rfl ?_
    refine kj_alen (n := 0) (v := 128) 0 (ty := .int) rfl (by decide) rfl (Nat.lt_of_lt_of_le (Nat.le_of_ble_eq_true rfl : 100 < 120) hE.1) (by decide +kernel) dX0_unite_33 (pc' := 34) rfl ?_
    refine kj_icmp_ge dX0_unite_34 (tgt := 119) rfl (pc' := 37) rfl (fun c3 => ?_) (fun c3 => ?_)
    · rw [if_pos c3] at hT
      refine kj_keep [true, true, true] (ls' := [some (.inr 93), some (.inr q1), some (.inl x2)]) rfl ?_
      exact hX28 σ hT
    · rw [if_neg c3] at hT
      refine kj_iload_n dX0_unite_37 (pc' := 38) rfl rfl rfl ?_
      refine kj_aload_n dX0_unite_38 (pc' := 39) rfl rfl rfl ?_
      refine kj_iload_n dX0_unite_39 (pc' := 40) rfl rfl rfl ?_
      obtain ⟨t4, ht4, hT⟩ := bind_some' hT
      refine kcVi (as := [.inl x2]) (st := [.inl x3]) l_RX0_74 (m_X4_at hE hq1 σ x2 ht4) hq1 (Nat.lt_of_lt_of_le (kn4_0 hq1) hE.1) rfl ⟨⟨rfl, rfl⟩, Nat.le_of_ble_eq_true rfl, Nat.le_of_ble_eq_true rfl⟩ (Nat.le_of_ble_eq_true rfl) dX0_unite_40 (pc' := 43) rfl ?_
      refine kj_ior dX0_unite_43 (pc' := 44) rfl ?_
      refine kj_istore dX0_unite_44 (pc' := 46) rfl (Nat.le_of_ble_eq_true rfl) (ls' := [some (.inr 93), some (.inr q1), some (.inl x2), some (.inl x3), some (.inl (x3 ||| t4))]) rfl ?_
      refine kj_aload_n dX0_unite_46 (pc' := 47) rfl rfl rfl ?_
      refine kj_getR f_RX0_30 rfl (Nat.lt_of_lt_of_le (Nat.le_of_ble_eq_true rfl : 93 < 120) hE.1) (hE.2 _ _) (q := 100) rfl dX0_unite_47 (pc' := 50) rfl ?_
      refine kj_iload_n dX0_unite_50 (pc' := 51) rfl rfl rfl ?_
      obtain ⟨hi5, hT⟩ := ckA_some hT
      refine kj_iald rfl (Nat.lt_of_lt_of_le (Nat.le_of_ble_eq_true rfl : 100 < 120) hE.1) hi5 rfl dX0_unite_51 (pc' := 52) rfl ?_
      refine kj_if_lt dX0_unite_52 (tgt := 113) rfl (pc' := 55) rfl (fun c6 => ?_) (fun c6 => ?_)
      · rw [if_pos c6] at hT
        refine kj_keep [true, true, true, true] (ls' := [some (.inr 93), some (.inr q1), some (.inl x2), some (.inl x3)]) rfl ?_
        exact hJ113_18_28 x3 σ hT
      · rw [if_neg c6] at hT
        refine kj_iload dX0_unite_55 (pc' := 57) rfl rfl ?_
        refine kj_if_lt dX0_unite_57 (tgt := 113) rfl (pc' := 60) rfl (fun c7 => ?_) (fun c7 => ?_)
        · rw [if_pos c7] at hT
          refine kj_keep [true, true, true, true] (ls' := [some (.inr 93), some (.inr q1), some (.inl x2), some (.inl x3)]) rfl ?_
          exact hJ113_18_28 x3 σ hT
        · rw [if_neg c7] at hT
          refine kj_iload dX0_unite_60 (pc' := 62) rfl rfl ?_
          refine kj_aload_n dX0_unite_62 (pc' := 63) rfl rfl rfl ?_
          refine kj_getR f_RX0_30 rfl (Nat.lt_of_lt_of_le (Nat.le_of_ble_eq_true rfl : 93 < 120) hE.1) (hE.2 _ _) (q := 100) rfl dX0_unite_63 (pc' := 66) rfl ?_
          refine kj_alen (n := 0) (v := 128) 0 (ty := .int) rfl (by decide) rfl (Nat.lt_of_lt_of_le (Nat.le_of_ble_eq_true rfl : 100 < 120) hE.1) (by decide +kernel) dX0_unite_66 (pc' := 67) rfl ?_
          refine kj_icmp_ge dX0_unite_67 (tgt := 113) rfl (pc' := 70) rfl (fun c8 => ?_) (fun c8 => ?_)
          · rw [if_pos c8] at hT
            refine kj_keep [true, true, true, true] (ls' := [some (.inr 93), some (.inr q1), some (.inl x2), some (.inl x3)]) rfl ?_
            exact hJ113_18_28 x3 σ hT
          · rw [if_neg c8] at hT
            refine kj_aload_n dX0_unite_70 (pc' := 71) rfl rfl rfl ?_
            refine kj_getR f_RX0_30 rfl (Nat.lt_of_lt_of_le (Nat.le_of_ble_eq_true rfl : 93 < 120) hE.1) (hE.2 _ _) (q := 100) rfl dX0_unite_71 (pc' := 74) rfl ?_
            refine kj_iload dX0_unite_74 (pc' := 76) rfl rfl ?_
            obtain ⟨hi9, hT⟩ := ckA_some hT
            refine kj_iald rfl (Nat.lt_of_lt_of_le (Nat.le_of_ble_eq_true rfl : 100 < 120) hE.1) hi9 rfl dX0_unite_76 (pc' := 77) rfl ?_
            refine kj_if_lt dX0_unite_77 (tgt := 98) rfl (pc' := 80) rfl (fun c10 => ?_) (fun c10 => ?_)
            · rw [if_pos c10] at hT
              exact hJ98_18_28 x3 (x3 ||| t4) σ hT
            · rw [if_neg c10] at hT
              refine kj_aload_n dX0_unite_80 (pc' := 81) rfl rfl rfl ?_
              refine kj_getR f_RX0_30 rfl (Nat.lt_of_lt_of_le (Nat.le_of_ble_eq_true rfl : 93 < 120) hE.1) (hE.2 _ _) (q := 100) rfl dX0_unite_81 (pc' := 84) rfl ?_
              refine kj_iload dX0_unite_84 (pc' := 86) rfl rfl ?_
              obtain ⟨hi13, hT⟩ := ckA_some hT
              refine kj_iald rfl (Nat.lt_of_lt_of_le (Nat.le_of_ble_eq_true rfl : 100 < 120) hE.1) hi13 rfl dX0_unite_86 (pc' := 87) rfl ?_
              refine kj_aload_n dX0_unite_87 (pc' := 88) rfl rfl rfl ?_
              refine kj_getR f_RX0_30 rfl (Nat.lt_of_lt_of_le (Nat.le_of_ble_eq_true rfl : 93 < 120) hE.1) (hE.2 _ _) (q := 100) rfl dX0_unite_88 (pc' := 91) rfl ?_
              refine kj_iload_n dX0_unite_91 (pc' := 92) rfl rfl rfl ?_
              obtain ⟨hi14, hT⟩ := ckA_some hT
              refine kj_iald rfl (Nat.lt_of_lt_of_le (Nat.le_of_ble_eq_true rfl : 100 < 120) hE.1) hi14 rfl dX0_unite_92 (pc' := 93) rfl ?_
              refine kj_iconst dX0_unite_93 (pc' := 94) rfl kc_1 ?_
              refine kj_iadd dX0_unite_94 (pc' := 95) rfl ?_
              refine kj_icmp_le dX0_unite_95 (tgt := 113) rfl (pc' := 98) rfl (fun c15 => ?_) (fun c15 => ?_)
              · rw [if_pos c15] at hT
                refine kj_keep [true, true, true, true] (ls' := [some (.inr 93), some (.inr q1), some (.inl x2), some (.inl x3)]) rfl ?_
                exact hJ113_18_28 x3 σ hT
              · rw [if_neg c15] at hT
                exact hJ98_18_28 x3 (x3 ||| t4) σ hT
def X0_rebuild (σ : Wd) (x1 : Int32) (q2 : Nat) : Option (Wd) :=
  ((X0_unite (up σ 93 7 x1) q2).bind fun σ1 => ((X0_numberMembers σ1).bind fun σ2 => ((X0_fillWithin σ2).bind fun σ3 => ((X0_pickBase σ3).bind fun σ4 => ((X0_countPoints σ4).bind fun σ5 => some σ5)))))
set_option maxRecDepth 100000 in
set_option maxHeartbeats 4000000 in
theorem m_X0_rebuild {E : JE} (hE : kOk 120 E) {q2 : Nat} (hq2 : kKd q2 = 4) (σ : Wd) (x1 : Int32) {res : Wd} (hT : X0_rebuild σ x1 q2 = some res) : kMt E yX0_rebuild mX0_rebuild rmX0_rebuild [.inr 93, .inl x1, .inr q2] σ (kQv res) := by
  refine kMt_of (by decide +kernel) rfl (Nat.le_of_ble_eq_true rfl) ?_
  generalize hQ : (kQv res) = Q
  show KJ E mX0_rebuild rmX0_rebuild 0 [some (.inr 93), some (.inl x1), some (.inr q2)] [] σ Q
  unfold X0_rebuild at hT
  refine kj_aload_n dX0_rebuild_0 (pc' := 1) rfl rfl rfl ?_
  refine kj_iload_n dX0_rebuild_1 (pc' := 2) rfl rfl rfl ?_
  refine kj_putI p_RX0_39 rfl rfl rfl (Nat.lt_of_lt_of_le (Nat.le_of_ble_eq_true rfl : 93 < 120) hE.1) dX0_rebuild_2 (pc' := 5) rfl ?_
  refine kj_aload_n dX0_rebuild_5 (pc' := 6) rfl rfl rfl ?_
  refine kj_aload_n dX0_rebuild_6 (pc' := 7) rfl rfl rfl ?_
  obtain ⟨σ1, hσ1, hT⟩ := bind_some' hT
  refine kcVv (as := [.inr q2]) (st := []) l_RX0_49 (m_X0_unite hE hq2 (up σ 93 7 x1) hσ1) rfl (Nat.lt_of_lt_of_le (Nat.le_of_ble_eq_true rfl : 93 < 120) hE.1) rfl ⟨⟨rfl, rfl⟩, Nat.le_of_ble_eq_true rfl, Nat.le_of_ble_eq_true rfl⟩ (Nat.le_of_ble_eq_true rfl) dX0_rebuild_7 (pc' := 10) rfl ?_
  refine kj_aload_n dX0_rebuild_10 (pc' := 11) rfl rfl rfl ?_
  obtain ⟨σ2, hσ2, hT⟩ := bind_some' hT
  refine kcVv (as := []) (st := []) l_RX0_53 (m_X0_numberMembers hE σ1 hσ2) rfl (Nat.lt_of_lt_of_le (Nat.le_of_ble_eq_true rfl : 93 < 120) hE.1) rfl ⟨⟨rfl, rfl⟩, Nat.le_of_ble_eq_true rfl, Nat.le_of_ble_eq_true rfl⟩ (Nat.le_of_ble_eq_true rfl) dX0_rebuild_11 (pc' := 14) rfl ?_
  refine kj_aload_n dX0_rebuild_14 (pc' := 15) rfl rfl rfl ?_
  obtain ⟨σ3, hσ3, hT⟩ := bind_some' hT
  refine kcVv (as := []) (st := []) l_RX0_56 (m_X0_fillWithin hE σ2 hσ3) rfl (Nat.lt_of_lt_of_le (Nat.le_of_ble_eq_true rfl : 93 < 120) hE.1) rfl ⟨⟨rfl, rfl⟩, Nat.le_of_ble_eq_true rfl, Nat.le_of_ble_eq_true rfl⟩ (Nat.le_of_ble_eq_true rfl) dX0_rebuild_15 (pc' := 18) rfl ?_
  refine kj_aload_n dX0_rebuild_18 (pc' := 19) rfl rfl rfl ?_
  obtain ⟨σ4, hσ4, hT⟩ := bind_some' hT
  refine kcVv (as := []) (st := []) l_RX0_59 (m_X0_pickBase hE σ3 hσ4) rfl (Nat.lt_of_lt_of_le (Nat.le_of_ble_eq_true rfl : 93 < 120) hE.1) rfl ⟨⟨rfl, rfl⟩, Nat.le_of_ble_eq_true rfl, Nat.le_of_ble_eq_true rfl⟩ (Nat.le_of_ble_eq_true rfl) dX0_rebuild_19 (pc' := 22) rfl ?_
  refine kj_aload_n dX0_rebuild_22 (pc' := 23) rfl rfl rfl ?_
  obtain ⟨σ5, hσ5, hT⟩ := bind_some' hT
  refine kcVv (as := []) (st := []) l_RX0_62 (m_X0_countPoints hE σ4 hσ5) rfl (Nat.lt_of_lt_of_le (Nat.le_of_ble_eq_true rfl : 93 < 120) hE.1) rfl ⟨⟨rfl, rfl⟩, Nat.le_of_ble_eq_true rfl, Nat.le_of_ble_eq_true rfl⟩ (Nat.le_of_ble_eq_true rfl) dX0_rebuild_23 (pc' := 26) rfl ?_
  have hR := Option.some.inj hT
  subst hR
  exact kj_vret rfl dX0_rebuild_26 (by subst hQ; exact ⟨rfl, rfl⟩)
def X0_innerOf (σ : Wd) (x1 : Int32) : Option (Int32) :=
  (if x1 < 0 then some 0 else (if 128 ≤ x1 then some 0 else (ckA x1 128 <| some (σ 101 x1.toNatClampNeg))))
set_option maxRecDepth 100000 in
set_option maxHeartbeats 4000000 in
theorem m_X0_innerOf {E : JE} (hE : kOk 120 E) (σ : Wd) (x1 : Int32) {res : Int32} (hT : X0_innerOf σ x1 = some res) : kMt E yX0_innerOf mX0_innerOf rmX0_innerOf [.inr 93, .inl x1] σ (kQi res σ) := by
  refine kMt_of (by decide +kernel) rfl (Nat.le_of_ble_eq_true rfl) ?_
  generalize hQ : (kQi res σ) = Q
  show KJ E mX0_innerOf rmX0_innerOf 0 [some (.inr 93), some (.inl x1)] [] σ Q
  unfold X0_innerOf at hT
  refine kj_iload_n dX0_innerOf_0 (pc' := 1) rfl rfl rfl ?_
  refine kj_if_lt dX0_innerOf_1 (tgt := 22) rfl (pc' := 4) rfl (fun c1 => ?_) (fun c1 => ?_)
  · rw [if_pos c1] at hT
    refine kj_iconst dX0_innerOf_22 (pc' := 23) rfl kc_0 ?_
    have hR := Option.some.inj hT
    subst hR
    exact kj_iret rfl dX0_innerOf_23 (by subst hQ; exact ⟨rfl, rfl⟩)
  · rw [if_neg c1] at hT
    refine kj_iload_n dX0_innerOf_4 (pc' := 5) rfl rfl rfl ?_
    refine kj_aload_n dX0_innerOf_5 (pc' := 6) rfl rfl rfl ?_
    refine kj_getR f_RX0_33 rfl (Nat.lt_of_lt_of_le (Nat.le_of_ble_eq_true rfl : 93 < 120) hE.1) (hE.2 _ _) (q := 101) rfl dX0_innerOf_6 (pc' := 9) rfl ?_
    refine kj_alen (n := 0) (v := 128) 0 (ty := .int) rfl (by decide) rfl (Nat.lt_of_lt_of_le (Nat.le_of_ble_eq_true rfl : 101 < 120) hE.1) (by decide +kernel) dX0_innerOf_9 (pc' := 10) rfl ?_
    refine kj_icmp_ge dX0_innerOf_10 (tgt := 22) rfl (pc' := 13) rfl (fun c2 => ?_) (fun c2 => ?_)
    · rw [if_pos c2] at hT
      refine kj_iconst dX0_innerOf_22 (pc' := 23) rfl kc_0 ?_
      have hR := Option.some.inj hT
      subst hR
      exact kj_iret rfl dX0_innerOf_23 (by subst hQ; exact ⟨rfl, rfl⟩)
    · rw [if_neg c2] at hT
      refine kj_aload_n dX0_innerOf_13 (pc' := 14) rfl rfl rfl ?_
      refine kj_getR f_RX0_33 rfl (Nat.lt_of_lt_of_le (Nat.le_of_ble_eq_true rfl : 93 < 120) hE.1) (hE.2 _ _) (q := 101) rfl dX0_innerOf_14 (pc' := 17) rfl ?_
      refine kj_iload_n dX0_innerOf_17 (pc' := 18) rfl rfl rfl ?_
      obtain ⟨hi3, hT⟩ := ckA_some hT
      refine kj_iald rfl (Nat.lt_of_lt_of_le (Nat.le_of_ble_eq_true rfl : 101 < 120) hE.1) hi3 rfl dX0_innerOf_18 (pc' := 19) rfl ?_
      refine kj_goto dX0_innerOf_19 (pc' := 23) rfl ?_
      have hR := Option.some.inj hT
      subst hR
      exact kj_iret rfl dX0_innerOf_23 (by subst hQ; exact ⟨rfl, rfl⟩)
def X0_oftenOf (σ : Wd) (x1 : Int32) : Option (Int32) :=
  (if x1 < 0 then some 0 else (if 7 ≤ x1 then some 0 else (ckA x1 7 <| some (σ 102 x1.toNatClampNeg))))
set_option maxRecDepth 100000 in
set_option maxHeartbeats 4000000 in
theorem m_X0_oftenOf {E : JE} (hE : kOk 120 E) (σ : Wd) (x1 : Int32) {res : Int32} (hT : X0_oftenOf σ x1 = some res) : kMt E yX0_oftenOf mX0_oftenOf rmX0_oftenOf [.inr 93, .inl x1] σ (kQi res σ) := by
  refine kMt_of (by decide +kernel) rfl (Nat.le_of_ble_eq_true rfl) ?_
  generalize hQ : (kQi res σ) = Q
  show KJ E mX0_oftenOf rmX0_oftenOf 0 [some (.inr 93), some (.inl x1)] [] σ Q
  unfold X0_oftenOf at hT
  refine kj_iload_n dX0_oftenOf_0 (pc' := 1) rfl rfl rfl ?_
  refine kj_if_lt dX0_oftenOf_1 (tgt := 22) rfl (pc' := 4) rfl (fun c1 => ?_) (fun c1 => ?_)
  · rw [if_pos c1] at hT
    refine kj_iconst dX0_oftenOf_22 (pc' := 23) rfl kc_0 ?_
    have hR := Option.some.inj hT
    subst hR
    exact kj_iret rfl dX0_oftenOf_23 (by subst hQ; exact ⟨rfl, rfl⟩)
  · rw [if_neg c1] at hT
    refine kj_iload_n dX0_oftenOf_4 (pc' := 5) rfl rfl rfl ?_
    refine kj_aload_n dX0_oftenOf_5 (pc' := 6) rfl rfl rfl ?_
    refine kj_getR f_RX0_36 rfl (Nat.lt_of_lt_of_le (Nat.le_of_ble_eq_true rfl : 93 < 120) hE.1) (hE.2 _ _) (q := 102) rfl dX0_oftenOf_6 (pc' := 9) rfl ?_
    refine kj_alen (n := 0) (v := 7) 0 (ty := .int) rfl (by decide) rfl (Nat.lt_of_lt_of_le (Nat.le_of_ble_eq_true rfl : 102 < 120) hE.1) (by decide +kernel) dX0_oftenOf_9 (pc' := 10) rfl ?_
    refine kj_icmp_ge dX0_oftenOf_10 (tgt := 22) rfl (pc' := 13) rfl (fun c2 => ?_) (fun c2 => ?_)
    · rw [if_pos c2] at hT
      refine kj_iconst dX0_oftenOf_22 (pc' := 23) rfl kc_0 ?_
      have hR := Option.some.inj hT
      subst hR
      exact kj_iret rfl dX0_oftenOf_23 (by subst hQ; exact ⟨rfl, rfl⟩)
    · rw [if_neg c2] at hT
      refine kj_aload_n dX0_oftenOf_13 (pc' := 14) rfl rfl rfl ?_
      refine kj_getR f_RX0_36 rfl (Nat.lt_of_lt_of_le (Nat.le_of_ble_eq_true rfl : 93 < 120) hE.1) (hE.2 _ _) (q := 102) rfl dX0_oftenOf_14 (pc' := 17) rfl ?_
      refine kj_iload_n dX0_oftenOf_17 (pc' := 18) rfl rfl rfl ?_
      obtain ⟨hi3, hT⟩ := ckA_some hT
      refine kj_iald rfl (Nat.lt_of_lt_of_le (Nat.le_of_ble_eq_true rfl : 102 < 120) hE.1) hi3 rfl dX0_oftenOf_18 (pc' := 19) rfl ?_
      refine kj_goto dX0_oftenOf_19 (pc' := 23) rfl ?_
      have hR := Option.some.inj hT
      subst hR
      exact kj_iret rfl dX0_oftenOf_23 (by subst hQ; exact ⟨rfl, rfl⟩)
def X0_orderedSet (σ : Wd) (x1 : Int32) : Option (Int32) :=
  (if x1 < 0 then some 0 else (if 128 ≤ x1 then some 0 else (ckA x1 128 <| some (σ 94 x1.toNatClampNeg))))
set_option maxRecDepth 100000 in
set_option maxHeartbeats 4000000 in
theorem m_X0_orderedSet {E : JE} (hE : kOk 120 E) (σ : Wd) (x1 : Int32) {res : Int32} (hT : X0_orderedSet σ x1 = some res) : kMt E yX0_orderedSet mX0_orderedSet rmX0_orderedSet [.inr 93, .inl x1] σ (kQi res σ) := by
  refine kMt_of (by decide +kernel) rfl (Nat.le_of_ble_eq_true rfl) ?_
  generalize hQ : (kQi res σ) = Q
  show KJ E mX0_orderedSet rmX0_orderedSet 0 [some (.inr 93), some (.inl x1)] [] σ Q
  unfold X0_orderedSet at hT
  refine kj_iload_n dX0_orderedSet_0 (pc' := 1) rfl rfl rfl ?_
  refine kj_if_lt dX0_orderedSet_1 (tgt := 22) rfl (pc' := 4) rfl (fun c1 => ?_) (fun c1 => ?_)
  · rw [if_pos c1] at hT
    refine kj_iconst dX0_orderedSet_22 (pc' := 23) rfl kc_0 ?_
    have hR := Option.some.inj hT
    subst hR
    exact kj_iret rfl dX0_orderedSet_23 (by subst hQ; exact ⟨rfl, rfl⟩)
  · rw [if_neg c1] at hT
    refine kj_iload_n dX0_orderedSet_4 (pc' := 5) rfl rfl rfl ?_
    refine kj_aload_n dX0_orderedSet_5 (pc' := 6) rfl rfl rfl ?_
    refine kj_getR f_RX0_9 rfl (Nat.lt_of_lt_of_le (Nat.le_of_ble_eq_true rfl : 93 < 120) hE.1) (hE.2 _ _) (q := 94) rfl dX0_orderedSet_6 (pc' := 9) rfl ?_
    refine kj_alen (n := 0) (v := 128) 0 (ty := .int) rfl (by decide) rfl (Nat.lt_of_lt_of_le (Nat.le_of_ble_eq_true rfl : 94 < 120) hE.1) (by decide +kernel) dX0_orderedSet_9 (pc' := 10) rfl ?_
    refine kj_icmp_ge dX0_orderedSet_10 (tgt := 22) rfl (pc' := 13) rfl (fun c2 => ?_) (fun c2 => ?_)
    · rw [if_pos c2] at hT
      refine kj_iconst dX0_orderedSet_22 (pc' := 23) rfl kc_0 ?_
      have hR := Option.some.inj hT
      subst hR
      exact kj_iret rfl dX0_orderedSet_23 (by subst hQ; exact ⟨rfl, rfl⟩)
    · rw [if_neg c2] at hT
      refine kj_aload_n dX0_orderedSet_13 (pc' := 14) rfl rfl rfl ?_
      refine kj_getR f_RX0_9 rfl (Nat.lt_of_lt_of_le (Nat.le_of_ble_eq_true rfl : 93 < 120) hE.1) (hE.2 _ _) (q := 94) rfl dX0_orderedSet_14 (pc' := 17) rfl ?_
      refine kj_iload_n dX0_orderedSet_17 (pc' := 18) rfl rfl rfl ?_
      obtain ⟨hi3, hT⟩ := ckA_some hT
      refine kj_iald rfl (Nat.lt_of_lt_of_le (Nat.le_of_ble_eq_true rfl : 94 < 120) hE.1) hi3 rfl dX0_orderedSet_18 (pc' := 19) rfl ?_
      refine kj_goto dX0_orderedSet_19 (pc' := 23) rfl ?_
      have hR := Option.some.inj hT
      subst hR
      exact kj_iret rfl dX0_orderedSet_23 (by subst hQ; exact ⟨rfl, rfl⟩)
def X0_allPoints (σ : Wd) : Int32 :=
  ((1 <<< ((σ 93 7) &&& 31)) - 1)
set_option maxRecDepth 100000 in
set_option maxHeartbeats 4000000 in
theorem m_X0_allPoints {E : JE} (hE : kOk 120 E) (σ : Wd) {res : Int32} (hT : X0_allPoints σ = res) : kMt E yX0_allPoints mX0_allPoints rmX0_allPoints [.inr 93] σ (kQi res σ) := by
  refine kMt_of (by decide +kernel) rfl (Nat.le_of_ble_eq_true rfl) ?_
  generalize hQ : (kQi res σ) = Q
  show KJ E mX0_allPoints rmX0_allPoints 0 [some (.inr 93)] [] σ Q
  unfold X0_allPoints at hT
  refine kj_iconst dX0_allPoints_0 (pc' := 1) rfl kc_1 ?_
  refine kj_aload_n dX0_allPoints_1 (pc' := 2) rfl rfl rfl ?_
  refine kj_getI f_RX0_39 rfl (Nat.lt_of_lt_of_le (Nat.le_of_ble_eq_true rfl : 93 < 120) hE.1) dX0_allPoints_2 (pc' := 5) rfl ?_
  refine kj_ishl dX0_allPoints_5 (pc' := 6) rfl ?_
  refine kj_iconst dX0_allPoints_6 (pc' := 7) rfl kc_1 ?_
  refine kj_isub dX0_allPoints_7 (pc' := 8) rfl ?_
  subst hT
  exact kj_iret rfl dX0_allPoints_8 (by subst hQ; exact ⟨rfl, rfl⟩)
def X0_top (σ : Wd) : Option (Int32) :=
  ((X4_at σ 95 ((σ 95 1) - 1)).bind fun t1 => some t1)
set_option maxRecDepth 100000 in
set_option maxHeartbeats 4000000 in
theorem m_X0_top {E : JE} (hE : kOk 120 E) (σ : Wd) {res : Int32} (hT : X0_top σ = some res) : kMt E yX0_top mX0_top rmX0_top [.inr 93] σ (kQi res σ) := by
  refine kMt_of (by decide +kernel) rfl (Nat.le_of_ble_eq_true rfl) ?_
  generalize hQ : (kQi res σ) = Q
  show KJ E mX0_top rmX0_top 0 [some (.inr 93)] [] σ Q
  unfold X0_top at hT
  refine kj_aload_n dX0_top_0 (pc' := 1) rfl rfl rfl ?_
  refine kj_getR f_RX0_20 rfl (Nat.lt_of_lt_of_le (Nat.le_of_ble_eq_true rfl : 93 < 120) hE.1) (hE.2 _ _) (q := 95) rfl dX0_top_1 (pc' := 4) rfl ?_
  refine kj_aload_n dX0_top_4 (pc' := 5) rfl rfl rfl ?_
  refine kj_getR f_RX0_20 rfl (Nat.lt_of_lt_of_le (Nat.le_of_ble_eq_true rfl : 93 < 120) hE.1) (hE.2 _ _) (q := 95) rfl dX0_top_5 (pc' := 8) rfl ?_
  refine kj_getI f_RX0_71 rfl (Nat.lt_of_lt_of_le (Nat.le_of_ble_eq_true rfl : 95 < 120) hE.1) dX0_top_8 (pc' := 11) rfl ?_
  refine kj_iconst dX0_top_11 (pc' := 12) rfl kc_1 ?_
  refine kj_isub dX0_top_12 (pc' := 13) rfl ?_
  obtain ⟨t1, ht1, hT⟩ := bind_some' hT
  refine kcVi (as := [.inl ((σ 95 1) - 1)]) (st := []) l_RX0_74 (m_X4_at hE rfl σ ((σ 95 1) - 1) ht1) rfl (Nat.lt_of_lt_of_le (Nat.le_of_ble_eq_true rfl : 95 < 120) hE.1) rfl ⟨⟨rfl, rfl⟩, Nat.le_of_ble_eq_true rfl, Nat.le_of_ble_eq_true rfl⟩ (Nat.le_of_ble_eq_true rfl) dX0_top_13 (pc' := 16) rfl ?_
  have hR := Option.some.inj hT
  subst hR
  exact kj_iret rfl dX0_top_16 (by subst hQ; exact ⟨rfl, rfl⟩)
def X0_isFrequent (σ : Wd) (x1 : Int32) : Option (Int32) :=
  ((X0_oftenOf σ x1).bind fun t1 => (if (2 * t1) < (σ 95 1) then some 0 else some 1))
set_option maxRecDepth 100000 in
set_option maxHeartbeats 4000000 in
theorem m_X0_isFrequent {E : JE} (hE : kOk 120 E) (σ : Wd) (x1 : Int32) {res : Int32} (hT : X0_isFrequent σ x1 = some res) : kMt E yX0_isFrequent mX0_isFrequent rmX0_isFrequent [.inr 93, .inl x1] σ (kQz res σ) := by
  refine kMt_of (by decide +kernel) rfl (Nat.le_of_ble_eq_true rfl) ?_
  generalize hQ : (kQz res σ) = Q
  show KJ E mX0_isFrequent rmX0_isFrequent 0 [some (.inr 93), some (.inl x1)] [] σ Q
  unfold X0_isFrequent at hT
  refine kj_iconst dX0_isFrequent_0 (pc' := 1) rfl kc_2 ?_
  refine kj_aload_n dX0_isFrequent_1 (pc' := 2) rfl rfl rfl ?_
  refine kj_iload_n dX0_isFrequent_2 (pc' := 3) rfl rfl rfl ?_
  obtain ⟨t1, ht1, hT⟩ := bind_some' hT
  refine kcVi (as := [.inl x1]) (st := [.inl 2]) l_RX0_95 (m_X0_oftenOf hE σ x1 ht1) rfl (Nat.lt_of_lt_of_le (Nat.le_of_ble_eq_true rfl : 93 < 120) hE.1) rfl ⟨⟨rfl, rfl⟩, Nat.le_of_ble_eq_true rfl, Nat.le_of_ble_eq_true rfl⟩ (Nat.le_of_ble_eq_true rfl) dX0_isFrequent_3 (pc' := 6) rfl ?_
  refine kj_imul dX0_isFrequent_6 (pc' := 7) rfl ?_
  refine kj_aload_n dX0_isFrequent_7 (pc' := 8) rfl rfl rfl ?_
  refine kj_getR f_RX0_20 rfl (Nat.lt_of_lt_of_le (Nat.le_of_ble_eq_true rfl : 93 < 120) hE.1) (hE.2 _ _) (q := 95) rfl dX0_isFrequent_8 (pc' := 11) rfl ?_
  refine kj_getI f_RX0_71 rfl (Nat.lt_of_lt_of_le (Nat.le_of_ble_eq_true rfl : 95 < 120) hE.1) dX0_isFrequent_11 (pc' := 14) rfl ?_
  refine kj_icmp_lt dX0_isFrequent_14 (tgt := 21) rfl (pc' := 17) rfl (fun c2 => ?_) (fun c2 => ?_)
  · rw [if_pos c2] at hT
    refine kj_iconst dX0_isFrequent_21 (pc' := 22) rfl kc_0 ?_
    have hR := Option.some.inj hT
    subst hR
    exact kj_zret rfl (Or.inl rfl) dX0_isFrequent_22 (by subst hQ; exact ⟨rfl, rfl, (Or.inl rfl)⟩)
  · rw [if_neg c2] at hT
    refine kj_iconst dX0_isFrequent_17 (pc' := 18) rfl kc_1 ?_
    refine kj_goto dX0_isFrequent_18 (pc' := 22) rfl ?_
    have hR := Option.some.inj hT
    subst hR
    exact kj_zret rfl (Or.inr rfl) dX0_isFrequent_22 (by subst hQ; exact ⟨rfl, rfl, (Or.inr rfl)⟩)
def X0_frequentPoints_J26 (rec4 : Int32 × Int32 → Option (Int32)) (y1 : Int32) (y2 : Int32) : Option (Int32) :=
  rec4 (y1, y2 + 1)
def X0_frequentPoints_B4 (σ : Wd) (rec4 : Int32 × Int32 → Option (Int32)) : Int32 × Int32 → Option (Int32)
  | (x1, x2) => (if (σ 93 7) ≤ x2 then some x1 else ((X0_isFrequent σ x2).bind fun t3 => (if t3 = 0 then X0_frequentPoints_J26 rec4 x1 x2 else X0_frequentPoints_J26 rec4 (x1 ||| (1 <<< (x2 &&& 31))) x2)))
def X0_frequentPoints (σ : Wd) : Option (Int32) :=
  (lp (X0_frequentPoints_B4 σ) FU (0, 0))
set_option maxRecDepth 100000 in
set_option maxHeartbeats 4000000 in
theorem m_X0_frequentPoints {E : JE} (hE : kOk 120 E) (σ : Wd) {res : Int32} (hT : X0_frequentPoints σ = some res) : kMt E yX0_frequentPoints mX0_frequentPoints rmX0_frequentPoints [.inr 93] σ (kQi res σ) := by
  refine kMt_of (by decide +kernel) rfl (Nat.le_of_ble_eq_true rfl) ?_
  generalize hQ : (kQi res σ) = Q
  show KJ E mX0_frequentPoints rmX0_frequentPoints 0 [some (.inr 93)] [] σ Q
  unfold X0_frequentPoints at hT
  refine kj_iconst dX0_frequentPoints_0 (pc' := 1) rfl kc_0 ?_
  refine kj_istore_n dX0_frequentPoints_1 (pc' := 2) rfl rfl (Nat.le_of_ble_eq_true rfl) (ls' := [some (.inr 93), some (.inl 0)]) rfl ?_
  refine kj_iconst dX0_frequentPoints_2 (pc' := 3) rfl kc_0 ?_
  refine kj_istore_n dX0_frequentPoints_3 (pc' := 4) rfl rfl (Nat.le_of_ble_eq_true rfl) (ls' := [some (.inr 93), some (.inl 0), some (.inl 0)]) rfl ?_
  refine lp_ind (P := fun s => KJ E mX0_frequentPoints rmX0_frequentPoints 4 [some (.inr 93), some (.inl s.1), some (.inl s.2)] [] σ Q) (fun rec4 s ih4 hT => ?_) FU (0, 0) hT
  obtain ⟨x1, x2⟩ := s
  show KJ E mX0_frequentPoints rmX0_frequentPoints 4 [some (.inr 93), some (.inl x1), some (.inl x2)] [] σ Q
  rw [X0_frequentPoints_B4] at hT
  have hJ26_4 : ∀ y1 y2, X0_frequentPoints_J26 rec4 y1 y2 = some res → KJ E mX0_frequentPoints rmX0_frequentPoints 26 [some (.inr 93), some (.inl y1), some (.inl y2)] [] σ Q := by
    intro y1 y2 hT
    unfold X0_frequentPoints_J26 at hT
    refine kj_iinc dX0_frequentPoints_26 (pc' := 29) rfl rfl (congrArg (_ + ·) kc_1) (Nat.le_of_ble_eq_true rfl) (ls' := [some (.inr 93), some (.inl y1), some (.inl (y2 + 1))]) rfl ?_
    refine kj_goto dX0_frequentPoints_29 (pc' := 4) rfl ?_
    exact ih4 (y1, y2 + 1) hT
  refine kj_iload_n dX0_frequentPoints_4 (pc' := 5) rfl rfl rfl ?_
  refine kj_aload_n dX0_frequentPoints_5 (pc' := 6) rfl rfl rfl ?_
  refine kj_getI f_RX0_39 rfl (Nat.lt_of_lt_of_le (Nat.le_of_ble_eq_true rfl : 93 < 120) hE.1) dX0_frequentPoints_6 (pc' := 9) rfl ?_
  refine kj_icmp_ge dX0_frequentPoints_9 (tgt := 32) rfl (pc' := 12) rfl (fun c2 => ?_) (fun c2 => ?_)
  · rw [if_pos c2] at hT
    refine kj_iload_n dX0_frequentPoints_32 (pc' := 33) rfl rfl rfl ?_
    have hR := Option.some.inj hT
    subst hR
    exact kj_iret rfl dX0_frequentPoints_33 (by subst hQ; exact ⟨rfl, rfl⟩)
  · rw [if_neg c2] at hT
    refine kj_aload_n dX0_frequentPoints_12 (pc' := 13) rfl rfl rfl ?_
    refine kj_iload_n dX0_frequentPoints_13 (pc' := 14) rfl rfl rfl ?_
    obtain ⟨t3, ht3, hT⟩ := bind_some' hT
    refine kcVz (as := [.inl x2]) (st := []) l_RX0_98 (m_X0_isFrequent hE σ x2 ht3) rfl (Nat.lt_of_lt_of_le (Nat.le_of_ble_eq_true rfl : 93 < 120) hE.1) rfl ⟨⟨rfl, rfl⟩, Nat.le_of_ble_eq_true rfl, Nat.le_of_ble_eq_true rfl⟩ (Nat.le_of_ble_eq_true rfl) dX0_frequentPoints_14 (pc' := 17) rfl (fun z4 => ?_)
    refine kj_if_eq dX0_frequentPoints_17 (tgt := 26) rfl (pc' := 20) rfl (fun c5 => ?_) (fun c5 => ?_)
    · rw [if_pos c5] at hT
      exact hJ26_4 x1 x2 hT
    · rw [if_neg c5] at hT
      refine kj_iload_n dX0_frequentPoints_20 (pc' := 21) rfl rfl rfl ?_
      refine kj_iconst dX0_frequentPoints_21 (pc' := 22) rfl kc_1 ?_
      refine kj_iload_n dX0_frequentPoints_22 (pc' := 23) rfl rfl rfl ?_
      refine kj_ishl dX0_frequentPoints_23 (pc' := 24) rfl ?_
      refine kj_ior dX0_frequentPoints_24 (pc' := 25) rfl ?_
      refine kj_istore_n dX0_frequentPoints_25 (pc' := 26) rfl rfl (Nat.le_of_ble_eq_true rfl) (ls' := [some (.inr 93), some (.inl (x1 ||| (1 <<< (x2 &&& 31)))), some (.inl x2)]) rfl ?_
      exact hJ26_4 (x1 ||| (1 <<< (x2 &&& 31))) x2 hT
def X0_rankOf_J58 (rec4 : Int32 × Int32 → Option (Int32)) (y2 : Int32) (y3 : Int32) : Option (Int32) :=
  rec4 (y2, y3 + 1)
def X0_rankOf_J55 (rec4 : Int32 × Int32 → Option (Int32)) (y2 : Int32) (y3 : Int32) : Option (Int32) :=
  X0_rankOf_J58 rec4 (y2 + 1) y3
def X0_rankOf_J32 (σ : Wd) (x1 : Int32) (rec4 : Int32 × Int32 → Option (Int32)) (y2 : Int32) (y3 : Int32) (y4 : Int32) : Option (Int32) :=
  ((X0_oftenOf σ y3).bind fun t6 => ((X0_oftenOf σ x1).bind fun t7 => (if t7 < t6 then X0_rankOf_J55 rec4 y2 y3 else (if y4 = 0 then X0_rankOf_J58 rec4 y2 y3 else (if x1 ≤ y3 then X0_rankOf_J58 rec4 y2 y3 else X0_rankOf_J55 rec4 y2 y3)))))
def X0_rankOf_B4 (σ : Wd) (x1 : Int32) (rec4 : Int32 × Int32 → Option (Int32)) : Int32 × Int32 → Option (Int32)
  | (x2, x3) => (if (σ 93 7) ≤ x3 then some x2 else ((X0_oftenOf σ x3).bind fun t3 => ((X0_oftenOf σ x1).bind fun t4 => (if t3 = t4 then X0_rankOf_J32 σ x1 rec4 x2 x3 1 else X0_rankOf_J32 σ x1 rec4 x2 x3 0))))
def X0_rankOf (σ : Wd) (x1 : Int32) : Option (Int32) :=
  (lp (X0_rankOf_B4 σ x1) FU (0, 0))
set_option maxRecDepth 100000 in
set_option maxHeartbeats 4000000 in
theorem m_X0_rankOf {E : JE} (hE : kOk 120 E) (σ : Wd) (x1 : Int32) {res : Int32} (hT : X0_rankOf σ x1 = some res) : kMt E yX0_rankOf mX0_rankOf rmX0_rankOf [.inr 93, .inl x1] σ (kQi res σ) := by
  refine kMt_of (by decide +kernel) rfl (Nat.le_of_ble_eq_true rfl) ?_
  generalize hQ : (kQi res σ) = Q
  show KJ E mX0_rankOf rmX0_rankOf 0 [some (.inr 93), some (.inl x1)] [] σ Q
  unfold X0_rankOf at hT
  refine kj_iconst dX0_rankOf_0 (pc' := 1) rfl kc_0 ?_
  refine kj_istore_n dX0_rankOf_1 (pc' := 2) rfl rfl (Nat.le_of_ble_eq_true rfl) (ls' := [some (.inr 93), some (.inl x1), some (.inl 0)]) rfl ?_
  refine kj_iconst dX0_rankOf_2 (pc' := 3) rfl kc_0 ?_
  refine kj_istore_n dX0_rankOf_3 (pc' := 4) rfl rfl (Nat.le_of_ble_eq_true rfl) (ls' := [some (.inr 93), some (.inl x1), some (.inl 0), some (.inl 0)]) rfl ?_
  refine lp_ind (P := fun s => KJ E mX0_rankOf rmX0_rankOf 4 [some (.inr 93), some (.inl x1), some (.inl s.1), some (.inl s.2)] [] σ Q) (fun rec4 s ih4 hT => ?_) FU (0, 0) hT
  obtain ⟨x2, x3⟩ := s
  show KJ E mX0_rankOf rmX0_rankOf 4 [some (.inr 93), some (.inl x1), some (.inl x2), some (.inl x3)] [] σ Q
  rw [X0_rankOf_B4] at hT
  have hJ58_4 : ∀ y2 y3, X0_rankOf_J58 rec4 y2 y3 = some res → KJ E mX0_rankOf rmX0_rankOf 58 [some (.inr 93), some (.inl x1), some (.inl y2), some (.inl y3)] [] σ Q := by
    intro y2 y3 hT
    unfold X0_rankOf_J58 at hT
    refine kj_iinc dX0_rankOf_58 (pc' := 61) rfl rfl (congrArg (_ + ·) kc_1) (Nat.le_of_ble_eq_true rfl) (ls' := [some (.inr 93), some (.inl x1), some (.inl y2), some (.inl (y3 + 1))]) rfl ?_
    refine kj_goto dX0_rankOf_61 (pc' := 4) rfl ?_
    exact ih4 (y2, y3 + 1) hT
  have hJ55_4 : ∀ y2 y3, X0_rankOf_J55 rec4 y2 y3 = some res → KJ E mX0_rankOf rmX0_rankOf 55 [some (.inr 93), some (.inl x1), some (.inl y2), some (.inl y3)] [] σ Q := by
    intro y2 y3 hT
    unfold X0_rankOf_J55 at hT
    refine kj_iinc dX0_rankOf_55 (pc' := 58) rfl rfl (congrArg (_ + ·) kc_1) (Nat.le_of_ble_eq_true rfl) (ls' := [some (.inr 93), some (.inl x1), some (.inl (y2 + 1)), some (.inl y3)]) rfl ?_
    exact hJ58_4 (y2 + 1) y3 hT
  have hJ32_4 : ∀ y2 y3 y4, X0_rankOf_J32 σ x1 rec4 y2 y3 y4 = some res → KJ E mX0_rankOf rmX0_rankOf 32 [some (.inr 93), some (.inl x1), some (.inl y2), some (.inl y3), some (.inl y4)] [] σ Q := by
    intro y2 y3 y4 hT
    unfold X0_rankOf_J32 at hT
    refine kj_aload_n dX0_rankOf_32 (pc' := 33) rfl rfl rfl ?_
    refine kj_iload_n dX0_rankOf_33 (pc' := 34) rfl rfl rfl ?_
    obtain ⟨t6, ht6, hT⟩ := bind_some' hT
    refine kcVi (as := [.inl y3]) (st := []) l_RX0_95 (m_X0_oftenOf hE σ y3 ht6) rfl (Nat.lt_of_lt_of_le (Nat.le_of_ble_eq_true rfl : 93 < 120) hE.1) rfl ⟨⟨rfl, rfl⟩, Nat.le_of_ble_eq_true rfl, Nat.le_of_ble_eq_true rfl⟩ (Nat.le_of_ble_eq_true rfl) dX0_rankOf_34 (pc' := 37) rfl ?_
    refine kj_aload_n dX0_rankOf_37 (pc' := 38) rfl rfl rfl ?_
    refine kj_iload_n dX0_rankOf_38 (pc' := 39) rfl rfl rfl ?_
    obtain ⟨t7, ht7, hT⟩ := bind_some' hT
    refine kcVi (as := [.inl x1]) (st := [.inl t6]) l_RX0_95 (m_X0_oftenOf hE σ x1 ht7) rfl (Nat.lt_of_lt_of_le (Nat.le_of_ble_eq_true rfl : 93 < 120) hE.1) rfl ⟨⟨rfl, rfl⟩, Nat.le_of_ble_eq_true rfl, Nat.le_of_ble_eq_true rfl⟩ (Nat.le_of_ble_eq_true rfl) dX0_rankOf_39 (pc' := 42) rfl ?_
    refine kj_icmp_gt dX0_rankOf_42 (tgt := 55) rfl (pc' := 45) rfl (fun c8 => ?_) (fun c8 => ?_)
    · rw [if_pos c8] at hT
      refine kj_keep [true, true, true, true] (ls' := [some (.inr 93), some (.inl x1), some (.inl y2), some (.inl y3)]) rfl ?_
      exact hJ55_4 y2 y3 hT
    · rw [if_neg c8] at hT
      refine kj_iload dX0_rankOf_45 (pc' := 47) rfl rfl ?_
      refine kj_if_eq dX0_rankOf_47 (tgt := 58) rfl (pc' := 50) rfl (fun c9 => ?_) (fun c9 => ?_)
      · rw [if_pos c9] at hT
        refine kj_keep [true, true, true, true] (ls' := [some (.inr 93), some (.inl x1), some (.inl y2), some (.inl y3)]) rfl ?_
        exact hJ58_4 y2 y3 hT
      · rw [if_neg c9] at hT
        refine kj_iload_n dX0_rankOf_50 (pc' := 51) rfl rfl rfl ?_
        refine kj_iload_n dX0_rankOf_51 (pc' := 52) rfl rfl rfl ?_
        refine kj_icmp_ge dX0_rankOf_52 (tgt := 58) rfl (pc' := 55) rfl (fun c10 => ?_) (fun c10 => ?_)
        · rw [if_pos c10] at hT
          refine kj_keep [true, true, true, true] (ls' := [some (.inr 93), some (.inl x1), some (.inl y2), some (.inl y3)]) rfl ?_
          exact hJ58_4 y2 y3 hT
        · rw [if_neg c10] at hT
          refine kj_keep [true, true, true, true] (ls' := [some (.inr 93), some (.inl x1), some (.inl y2), some (.inl y3)]) rfl ?_
          exact hJ55_4 y2 y3 hT
  refine kj_iload_n dX0_rankOf_4 (pc' := 5) rfl rfl rfl ?_
  refine kj_aload_n dX0_rankOf_5 (pc' := 6) rfl rfl rfl ?_
  refine kj_getI f_RX0_39 rfl (Nat.lt_of_lt_of_le (Nat.le_of_ble_eq_true rfl : 93 < 120) hE.1) dX0_rankOf_6 (pc' := 9) rfl ?_
  refine kj_icmp_ge dX0_rankOf_9 (tgt := 64) rfl (pc' := 12) rfl (fun c2 => ?_) (fun c2 => ?_)
  · rw [if_pos c2] at hT
    refine kj_iload_n dX0_rankOf_64 (pc' := 65) rfl rfl rfl ?_
    have hR := Option.some.inj hT
    subst hR
    exact kj_iret rfl dX0_rankOf_65 (by subst hQ; exact ⟨rfl, rfl⟩)
  · rw [if_neg c2] at hT
    refine kj_aload_n dX0_rankOf_12 (pc' := 13) rfl rfl rfl ?_
    refine kj_iload_n dX0_rankOf_13 (pc' := 14) rfl rfl rfl ?_
    obtain ⟨t3, ht3, hT⟩ := bind_some' hT
    refine kcVi (as := [.inl x3]) (st := []) l_RX0_95 (m_X0_oftenOf hE σ x3 ht3) rfl (Nat.lt_of_lt_of_le (Nat.le_of_ble_eq_true rfl : 93 < 120) hE.1) rfl ⟨⟨rfl, rfl⟩, Nat.le_of_ble_eq_true rfl, Nat.le_of_ble_eq_true rfl⟩ (Nat.le_of_ble_eq_true rfl) dX0_rankOf_14 (pc' := 17) rfl ?_
    refine kj_aload_n dX0_rankOf_17 (pc' := 18) rfl rfl rfl ?_
    refine kj_iload_n dX0_rankOf_18 (pc' := 19) rfl rfl rfl ?_
    obtain ⟨t4, ht4, hT⟩ := bind_some' hT
    refine kcVi (as := [.inl x1]) (st := [.inl t3]) l_RX0_95 (m_X0_oftenOf hE σ x1 ht4) rfl (Nat.lt_of_lt_of_le (Nat.le_of_ble_eq_true rfl : 93 < 120) hE.1) rfl ⟨⟨rfl, rfl⟩, Nat.le_of_ble_eq_true rfl, Nat.le_of_ble_eq_true rfl⟩ (Nat.le_of_ble_eq_true rfl) dX0_rankOf_19 (pc' := 22) rfl ?_
    refine kj_icmp_ne dX0_rankOf_22 (tgt := 29) rfl (pc' := 25) rfl (fun c5 => ?_) (fun c5 => ?_)
    · rw [if_neg c5] at hT
      refine kj_iconst dX0_rankOf_29 (pc' := 30) rfl kc_0 ?_
      refine kj_istore dX0_rankOf_30 (pc' := 32) rfl (Nat.le_of_ble_eq_true rfl) (ls' := [some (.inr 93), some (.inl x1), some (.inl x2), some (.inl x3), some (.inl 0)]) rfl ?_
      exact hJ32_4 x2 x3 0 hT
    · rw [if_pos c5] at hT
      refine kj_iconst dX0_rankOf_25 (pc' := 26) rfl kc_1 ?_
      refine kj_goto dX0_rankOf_26 (pc' := 30) rfl ?_
      refine kj_istore dX0_rankOf_30 (pc' := 32) rfl (Nat.le_of_ble_eq_true rfl) (ls' := [some (.inr 93), some (.inl x1), some (.inl x2), some (.inl x3), some (.inl 1)]) rfl ?_
      exact hJ32_4 x2 x3 1 hT
def X0_pointRanked_B2 (σ : Wd) (x1 : Int32) (rec2 : Int32 → Option (Int32)) : Int32 → Option (Int32)
  | (x2) => (if (σ 93 7) ≤ x2 then some (-1) else ((X0_rankOf σ x2).bind fun t3 => (if t3 = x1 then some x2 else rec2 (x2 + 1))))
def X0_pointRanked (σ : Wd) (x1 : Int32) : Option (Int32) :=
  (lp (X0_pointRanked_B2 σ x1) FU (0))
set_option maxRecDepth 100000 in
set_option maxHeartbeats 4000000 in
theorem m_X0_pointRanked {E : JE} (hE : kOk 120 E) (σ : Wd) (x1 : Int32) {res : Int32} (hT : X0_pointRanked σ x1 = some res) : kMt E yX0_pointRanked mX0_pointRanked rmX0_pointRanked [.inr 93, .inl x1] σ (kQi res σ) := by
  refine kMt_of (by decide +kernel) rfl (Nat.le_of_ble_eq_true rfl) ?_
  generalize hQ : (kQi res σ) = Q
  show KJ E mX0_pointRanked rmX0_pointRanked 0 [some (.inr 93), some (.inl x1)] [] σ Q
  unfold X0_pointRanked at hT
  refine kj_iconst dX0_pointRanked_0 (pc' := 1) rfl kc_0 ?_
  refine kj_istore_n dX0_pointRanked_1 (pc' := 2) rfl rfl (Nat.le_of_ble_eq_true rfl) (ls' := [some (.inr 93), some (.inl x1), some (.inl 0)]) rfl ?_
  refine lp_ind (P := fun s => KJ E mX0_pointRanked rmX0_pointRanked 2 [some (.inr 93), some (.inl x1), some (.inl s)] [] σ Q) (fun rec2 s ih2 hT => ?_) FU (0) hT
  obtain ⟨x2, hs⟩ : ∃ z, z = s := ⟨_, rfl⟩
  subst hs
  show KJ E mX0_pointRanked rmX0_pointRanked 2 [some (.inr 93), some (.inl x1), some (.inl x2)] [] σ Q
  rw [X0_pointRanked_B2] at hT
  refine kj_iload_n dX0_pointRanked_2 (pc' := 3) rfl rfl rfl ?_
  refine kj_aload_n dX0_pointRanked_3 (pc' := 4) rfl rfl rfl ?_
  refine kj_getI f_RX0_39 rfl (Nat.lt_of_lt_of_le (Nat.le_of_ble_eq_true rfl : 93 < 120) hE.1) dX0_pointRanked_4 (pc' := 7) rfl ?_
  refine kj_icmp_ge dX0_pointRanked_7 (tgt := 27) rfl (pc' := 10) rfl (fun c2 => ?_) (fun c2 => ?_)
  · rw [if_pos c2] at hT
    refine kj_iconst dX0_pointRanked_27 (pc' := 28) rfl kc_m1 ?_
    have hR := Option.some.inj hT
    subst hR
    exact kj_iret rfl dX0_pointRanked_28 (by subst hQ; exact ⟨rfl, rfl⟩)
  · rw [if_neg c2] at hT
    refine kj_aload_n dX0_pointRanked_10 (pc' := 11) rfl rfl rfl ?_
    refine kj_iload_n dX0_pointRanked_11 (pc' := 12) rfl rfl rfl ?_
    obtain ⟨t3, ht3, hT⟩ := bind_some' hT
    refine kcVi (as := [.inl x2]) (st := []) l_RX0_102 (m_X0_rankOf hE σ x2 ht3) rfl (Nat.lt_of_lt_of_le (Nat.le_of_ble_eq_true rfl : 93 < 120) hE.1) rfl ⟨⟨rfl, rfl⟩, Nat.le_of_ble_eq_true rfl, Nat.le_of_ble_eq_true rfl⟩ (Nat.le_of_ble_eq_true rfl) dX0_pointRanked_12 (pc' := 15) rfl ?_
    refine kj_iload_n dX0_pointRanked_15 (pc' := 16) rfl rfl rfl ?_
    refine kj_icmp_ne dX0_pointRanked_16 (tgt := 21) rfl (pc' := 19) rfl (fun c4 => ?_) (fun c4 => ?_)
    · rw [if_neg c4] at hT
      refine kj_iinc dX0_pointRanked_21 (pc' := 24) rfl rfl (congrArg (_ + ·) kc_1) (Nat.le_of_ble_eq_true rfl) (ls' := [some (.inr 93), some (.inl x1), some (.inl (x2 + 1))]) rfl ?_
      refine kj_goto dX0_pointRanked_24 (pc' := 2) rfl ?_
      exact ih2 (x2 + 1) hT
    · rw [if_pos c4] at hT
      refine kj_iload_n dX0_pointRanked_19 (pc' := 20) rfl rfl rfl ?_
      have hR := Option.some.inj hT
      subst hR
      exact kj_iret rfl dX0_pointRanked_20 (by subst hQ; exact ⟨rfl, rfl⟩)
def X0_firstTwin_J51 (rec8 : Int32 → Option (Int32)) (y3 : Int32) : Option (Int32) :=
  rec8 (y3 + 1)
def X0_firstTwin_B8 (σ : Wd) (x1 : Int32) (t1 : Int32) (rec8 : Int32 → Option (Int32)) : Int32 → Option (Int32)
  | (x3) => (if (σ 93 7) ≤ x3 then some (-2) else (if x3 = x1 then X0_firstTwin_J51 rec8 x3 else (if t1 ≤ 0 then X0_firstTwin_J51 rec8 x3 else ((X0_oftenOf σ x3).bind fun t6 => (if t6 = t1 then ((X0_countAround σ ((1 <<< (x3 &&& 31)) ||| (1 <<< (x1 &&& 31)))).bind fun t8 => (if t8 = t1 then some x3 else X0_firstTwin_J51 rec8 x3)) else X0_firstTwin_J51 rec8 x3)))))
def X0_firstTwin (σ : Wd) (x1 : Int32) : Option (Int32) :=
  ((X0_oftenOf σ x1).bind fun t1 => (lp (X0_firstTwin_B8 σ x1 t1) FU (0)))
set_option maxRecDepth 100000 in
set_option maxHeartbeats 4000000 in
theorem m_X0_firstTwin {E : JE} (hE : kOk 120 E) (σ : Wd) (x1 : Int32) {res : Int32} (hT : X0_firstTwin σ x1 = some res) : kMt E yX0_firstTwin mX0_firstTwin rmX0_firstTwin [.inr 93, .inl x1] σ (kQi res σ) := by
  refine kMt_of (by decide +kernel) rfl (Nat.le_of_ble_eq_true rfl) ?_
  generalize hQ : (kQi res σ) = Q
  show KJ E mX0_firstTwin rmX0_firstTwin 0 [some (.inr 93), some (.inl x1)] [] σ Q
  unfold X0_firstTwin at hT
  refine kj_aload_n dX0_firstTwin_0 (pc' := 1) rfl rfl rfl ?_
  refine kj_iload_n dX0_firstTwin_1 (pc' := 2) rfl rfl rfl ?_
  obtain ⟨t1, ht1, hT⟩ := bind_some' hT
  refine kcVi (as := [.inl x1]) (st := []) l_RX0_95 (m_X0_oftenOf hE σ x1 ht1) rfl (Nat.lt_of_lt_of_le (Nat.le_of_ble_eq_true rfl : 93 < 120) hE.1) rfl ⟨⟨rfl, rfl⟩, Nat.le_of_ble_eq_true rfl, Nat.le_of_ble_eq_true rfl⟩ (Nat.le_of_ble_eq_true rfl) dX0_firstTwin_2 (pc' := 5) rfl ?_
  refine kj_istore_n dX0_firstTwin_5 (pc' := 6) rfl rfl (Nat.le_of_ble_eq_true rfl) (ls' := [some (.inr 93), some (.inl x1), some (.inl t1)]) rfl ?_
  refine kj_iconst dX0_firstTwin_6 (pc' := 7) rfl kc_0 ?_
  refine kj_istore_n dX0_firstTwin_7 (pc' := 8) rfl rfl (Nat.le_of_ble_eq_true rfl) (ls' := [some (.inr 93), some (.inl x1), some (.inl t1), some (.inl 0)]) rfl ?_
  refine lp_ind (P := fun s => KJ E mX0_firstTwin rmX0_firstTwin 8 [some (.inr 93), some (.inl x1), some (.inl t1), some (.inl s)] [] σ Q) (fun rec8 s ih8 hT => ?_) FU (0) hT
  obtain ⟨x3, hs⟩ : ∃ z, z = s := ⟨_, rfl⟩
  subst hs
  show KJ E mX0_firstTwin rmX0_firstTwin 8 [some (.inr 93), some (.inl x1), some (.inl t1), some (.inl x3)] [] σ Q
  rw [X0_firstTwin_B8] at hT
  have hJ51_8 : ∀ y3, X0_firstTwin_J51 rec8 y3 = some res → KJ E mX0_firstTwin rmX0_firstTwin 51 [some (.inr 93), some (.inl x1), some (.inl t1), some (.inl y3)] [] σ Q := by
    intro y3 hT
    unfold X0_firstTwin_J51 at hT
    refine kj_iinc dX0_firstTwin_51 (pc' := 54) rfl rfl (congrArg (_ + ·) kc_1) (Nat.le_of_ble_eq_true rfl) (ls' := [some (.inr 93), some (.inl x1), some (.inl t1), some (.inl (y3 + 1))]) rfl ?_
    refine kj_goto dX0_firstTwin_54 (pc' := 8) rfl ?_
    exact ih8 (y3 + 1) hT
  refine kj_iload_n dX0_firstTwin_8 (pc' := 9) rfl rfl rfl ?_
  refine kj_aload_n dX0_firstTwin_9 (pc' := 10) rfl rfl rfl ?_
  refine kj_getI f_RX0_39 rfl (Nat.lt_of_lt_of_le (Nat.le_of_ble_eq_true rfl : 93 < 120) hE.1) dX0_firstTwin_10 (pc' := 13) rfl ?_
  refine kj_icmp_ge dX0_firstTwin_13 (tgt := 57) rfl (pc' := 16) rfl (fun c3 => ?_) (fun c3 => ?_)
  · rw [if_pos c3] at hT
    refine kj_bipush dX0_firstTwin_57 (pc' := 59) rfl kb_m2 ?_
    have hR := Option.some.inj hT
    subst hR
    exact kj_iret rfl dX0_firstTwin_59 (by subst hQ; exact ⟨rfl, rfl⟩)
  · rw [if_neg c3] at hT
    refine kj_iload_n dX0_firstTwin_16 (pc' := 17) rfl rfl rfl ?_
    refine kj_iload_n dX0_firstTwin_17 (pc' := 18) rfl rfl rfl ?_
    refine kj_icmp_eq dX0_firstTwin_18 (tgt := 51) rfl (pc' := 21) rfl (fun c4 => ?_) (fun c4 => ?_)
    · rw [if_pos c4] at hT
      exact hJ51_8 x3 hT
    · rw [if_neg c4] at hT
      refine kj_iload_n dX0_firstTwin_21 (pc' := 22) rfl rfl rfl ?_
      refine kj_if_le dX0_firstTwin_22 (tgt := 51) rfl (pc' := 25) rfl (fun c5 => ?_) (fun c5 => ?_)
      · rw [if_pos c5] at hT
        exact hJ51_8 x3 hT
      · rw [if_neg c5] at hT
        refine kj_aload_n dX0_firstTwin_25 (pc' := 26) rfl rfl rfl ?_
        refine kj_iload_n dX0_firstTwin_26 (pc' := 27) rfl rfl rfl ?_
        obtain ⟨t6, ht6, hT⟩ := bind_some' hT
        refine kcVi (as := [.inl x3]) (st := []) l_RX0_95 (m_X0_oftenOf hE σ x3 ht6) rfl (Nat.lt_of_lt_of_le (Nat.le_of_ble_eq_true rfl : 93 < 120) hE.1) rfl ⟨⟨rfl, rfl⟩, Nat.le_of_ble_eq_true rfl, Nat.le_of_ble_eq_true rfl⟩ (Nat.le_of_ble_eq_true rfl) dX0_firstTwin_27 (pc' := 30) rfl ?_
        refine kj_iload_n dX0_firstTwin_30 (pc' := 31) rfl rfl rfl ?_
        refine kj_icmp_ne dX0_firstTwin_31 (tgt := 51) rfl (pc' := 34) rfl (fun c7 => ?_) (fun c7 => ?_)
        · rw [if_neg c7] at hT
          exact hJ51_8 x3 hT
        · rw [if_pos c7] at hT
          refine kj_aload_n dX0_firstTwin_34 (pc' := 35) rfl rfl rfl ?_
          refine kj_iconst dX0_firstTwin_35 (pc' := 36) rfl kc_1 ?_
          refine kj_iload_n dX0_firstTwin_36 (pc' := 37) rfl rfl rfl ?_
          refine kj_ishl dX0_firstTwin_37 (pc' := 38) rfl ?_
          refine kj_iconst dX0_firstTwin_38 (pc' := 39) rfl kc_1 ?_
          refine kj_iload_n dX0_firstTwin_39 (pc' := 40) rfl rfl rfl ?_
          refine kj_ishl dX0_firstTwin_40 (pc' := 41) rfl ?_
          refine kj_ior dX0_firstTwin_41 (pc' := 42) rfl ?_
          obtain ⟨t8, ht8, hT⟩ := bind_some' hT
          refine kcVi (as := [.inl ((1 <<< (x3 &&& 31)) ||| (1 <<< (x1 &&& 31)))]) (st := []) l_RX0_92 (m_X0_countAround hE σ ((1 <<< (x3 &&& 31)) ||| (1 <<< (x1 &&& 31))) ht8) rfl (Nat.lt_of_lt_of_le (Nat.le_of_ble_eq_true rfl : 93 < 120) hE.1) rfl ⟨⟨rfl, rfl⟩, Nat.le_of_ble_eq_true rfl, Nat.le_of_ble_eq_true rfl⟩ (Nat.le_of_ble_eq_true rfl) dX0_firstTwin_42 (pc' := 45) rfl ?_
          refine kj_iload_n dX0_firstTwin_45 (pc' := 46) rfl rfl rfl ?_
          refine kj_icmp_ne dX0_firstTwin_46 (tgt := 51) rfl (pc' := 49) rfl (fun c9 => ?_) (fun c9 => ?_)
          · rw [if_neg c9] at hT
            exact hJ51_8 x3 hT
          · rw [if_pos c9] at hT
            refine kj_iload_n dX0_firstTwin_49 (pc' := 50) rfl rfl rfl ?_
            have hR := Option.some.inj hT
            subst hR
            exact kj_iret rfl dX0_firstTwin_50 (by subst hQ; exact ⟨rfl, rfl⟩)
def X0_leastSizeWith_B2 (σ : Wd) (x1 : Int32) (rec2 : Int32 → Option (Int32)) : Int32 → Option (Int32)
  | (x2) => (if (σ 95 1) ≤ x2 then some (-2) else ((X4_at σ 95 x2).bind fun t3 => (if ((t3 >>> (x1 &&& 31)) &&& 1) = 1 then ((X4_at σ 95 x2).bind fun t5 => some (J6_bitCount_0f7a4 t5)) else rec2 (x2 + 1))))
def X0_leastSizeWith (σ : Wd) (x1 : Int32) : Option (Int32) :=
  (lp (X0_leastSizeWith_B2 σ x1) FU (0))
set_option maxRecDepth 100000 in
set_option maxHeartbeats 4000000 in
theorem m_X0_leastSizeWith {E : JE} (hE : kOk 120 E) (σ : Wd) (x1 : Int32) {res : Int32} (hT : X0_leastSizeWith σ x1 = some res) : kMt E yX0_leastSizeWith mX0_leastSizeWith rmX0_leastSizeWith [.inr 93, .inl x1] σ (kQi res σ) := by
  refine kMt_of (by decide +kernel) rfl (Nat.le_of_ble_eq_true rfl) ?_
  generalize hQ : (kQi res σ) = Q
  show KJ E mX0_leastSizeWith rmX0_leastSizeWith 0 [some (.inr 93), some (.inl x1)] [] σ Q
  unfold X0_leastSizeWith at hT
  refine kj_iconst dX0_leastSizeWith_0 (pc' := 1) rfl kc_0 ?_
  refine kj_istore_n dX0_leastSizeWith_1 (pc' := 2) rfl rfl (Nat.le_of_ble_eq_true rfl) (ls' := [some (.inr 93), some (.inl x1), some (.inl 0)]) rfl ?_
  refine lp_ind (P := fun s => KJ E mX0_leastSizeWith rmX0_leastSizeWith 2 [some (.inr 93), some (.inl x1), some (.inl s)] [] σ Q) (fun rec2 s ih2 hT => ?_) FU (0) hT
  obtain ⟨x2, hs⟩ : ∃ z, z = s := ⟨_, rfl⟩
  subst hs
  show KJ E mX0_leastSizeWith rmX0_leastSizeWith 2 [some (.inr 93), some (.inl x1), some (.inl x2)] [] σ Q
  rw [X0_leastSizeWith_B2] at hT
  refine kj_iload_n dX0_leastSizeWith_2 (pc' := 3) rfl rfl rfl ?_
  refine kj_aload_n dX0_leastSizeWith_3 (pc' := 4) rfl rfl rfl ?_
  refine kj_getR f_RX0_20 rfl (Nat.lt_of_lt_of_le (Nat.le_of_ble_eq_true rfl : 93 < 120) hE.1) (hE.2 _ _) (q := 95) rfl dX0_leastSizeWith_4 (pc' := 7) rfl ?_
  refine kj_getI f_RX0_71 rfl (Nat.lt_of_lt_of_le (Nat.le_of_ble_eq_true rfl : 95 < 120) hE.1) dX0_leastSizeWith_7 (pc' := 10) rfl ?_
  refine kj_icmp_ge dX0_leastSizeWith_10 (tgt := 47) rfl (pc' := 13) rfl (fun c2 => ?_) (fun c2 => ?_)
  · rw [if_pos c2] at hT
    refine kj_bipush dX0_leastSizeWith_47 (pc' := 49) rfl kb_m2 ?_
    have hR := Option.some.inj hT
    subst hR
    exact kj_iret rfl dX0_leastSizeWith_49 (by subst hQ; exact ⟨rfl, rfl⟩)
  · rw [if_neg c2] at hT
    refine kj_aload_n dX0_leastSizeWith_13 (pc' := 14) rfl rfl rfl ?_
    refine kj_getR f_RX0_20 rfl (Nat.lt_of_lt_of_le (Nat.le_of_ble_eq_true rfl : 93 < 120) hE.1) (hE.2 _ _) (q := 95) rfl dX0_leastSizeWith_14 (pc' := 17) rfl ?_
    refine kj_iload_n dX0_leastSizeWith_17 (pc' := 18) rfl rfl rfl ?_
    obtain ⟨t3, ht3, hT⟩ := bind_some' hT
    refine kcVi (as := [.inl x2]) (st := []) l_RX0_74 (m_X4_at hE rfl σ x2 ht3) rfl (Nat.lt_of_lt_of_le (Nat.le_of_ble_eq_true rfl : 95 < 120) hE.1) rfl ⟨⟨rfl, rfl⟩, Nat.le_of_ble_eq_true rfl, Nat.le_of_ble_eq_true rfl⟩ (Nat.le_of_ble_eq_true rfl) dX0_leastSizeWith_18 (pc' := 21) rfl ?_
    refine kj_iload_n dX0_leastSizeWith_21 (pc' := 22) rfl rfl rfl ?_
    refine kj_ishr dX0_leastSizeWith_22 (pc' := 23) rfl ?_
    refine kj_iconst dX0_leastSizeWith_23 (pc' := 24) rfl kc_1 ?_
    refine kj_iand dX0_leastSizeWith_24 (pc' := 25) rfl ?_
    refine kj_iconst dX0_leastSizeWith_25 (pc' := 26) rfl kc_1 ?_
    refine kj_icmp_ne dX0_leastSizeWith_26 (tgt := 41) rfl (pc' := 29) rfl (fun c4 => ?_) (fun c4 => ?_)
    · rw [if_neg c4] at hT
      refine kj_iinc dX0_leastSizeWith_41 (pc' := 44) rfl rfl (congrArg (_ + ·) kc_1) (Nat.le_of_ble_eq_true rfl) (ls' := [some (.inr 93), some (.inl x1), some (.inl (x2 + 1))]) rfl ?_
      refine kj_goto dX0_leastSizeWith_44 (pc' := 2) rfl ?_
      exact ih2 (x2 + 1) hT
    · rw [if_pos c4] at hT
      refine kj_aload_n dX0_leastSizeWith_29 (pc' := 30) rfl rfl rfl ?_
      refine kj_getR f_RX0_20 rfl (Nat.lt_of_lt_of_le (Nat.le_of_ble_eq_true rfl : 93 < 120) hE.1) (hE.2 _ _) (q := 95) rfl dX0_leastSizeWith_30 (pc' := 33) rfl ?_
      refine kj_iload_n dX0_leastSizeWith_33 (pc' := 34) rfl rfl rfl ?_
      obtain ⟨t5, ht5, hT⟩ := bind_some' hT
      refine kcVi (as := [.inl x2]) (st := []) l_RX0_74 (m_X4_at hE rfl σ x2 ht5) rfl (Nat.lt_of_lt_of_le (Nat.le_of_ble_eq_true rfl : 95 < 120) hE.1) rfl ⟨⟨rfl, rfl⟩, Nat.le_of_ble_eq_true rfl, Nat.le_of_ble_eq_true rfl⟩ (Nat.le_of_ble_eq_true rfl) dX0_leastSizeWith_34 (pc' := 37) rfl ?_
      refine kcSi (as := [.inl t5]) (st := []) l_RX0_43 (m_J6_bitCount_0f7a4 (Nat.zero_le _) σ t5 rfl) rfl ⟨⟨rfl, rfl⟩, Nat.le_of_ble_eq_true rfl, Nat.le_of_ble_eq_true rfl⟩ (Nat.le_of_ble_eq_true rfl) dX0_leastSizeWith_37 (pc' := 40) rfl ?_
      have hR := Option.some.inj hT
      subst hR
      exact kj_iret rfl dX0_leastSizeWith_40 (by subst hQ; exact ⟨rfl, rfl⟩)
def X0_sizeOfAll_B4 (σ : Wd) (rec4 : Int32 × Int32 → Option (Int32)) : Int32 × Int32 → Option (Int32)
  | (x1, x2) => (if (σ 93 7) ≤ x2 then some x1 else ((X0_oftenOf σ x2).bind fun t3 => rec4 (x1 + t3, x2 + 1)))
def X0_sizeOfAll (σ : Wd) : Option (Int32) :=
  (lp (X0_sizeOfAll_B4 σ) FU (0, 0))
set_option maxRecDepth 100000 in
set_option maxHeartbeats 4000000 in
theorem m_X0_sizeOfAll {E : JE} (hE : kOk 120 E) (σ : Wd) {res : Int32} (hT : X0_sizeOfAll σ = some res) : kMt E yX0_sizeOfAll mX0_sizeOfAll rmX0_sizeOfAll [.inr 93] σ (kQi res σ) := by
  refine kMt_of (by decide +kernel) rfl (Nat.le_of_ble_eq_true rfl) ?_
  generalize hQ : (kQi res σ) = Q
  show KJ E mX0_sizeOfAll rmX0_sizeOfAll 0 [some (.inr 93)] [] σ Q
  unfold X0_sizeOfAll at hT
  refine kj_iconst dX0_sizeOfAll_0 (pc' := 1) rfl kc_0 ?_
  refine kj_istore_n dX0_sizeOfAll_1 (pc' := 2) rfl rfl (Nat.le_of_ble_eq_true rfl) (ls' := [some (.inr 93), some (.inl 0)]) rfl ?_
  refine kj_iconst dX0_sizeOfAll_2 (pc' := 3) rfl kc_0 ?_
  refine kj_istore_n dX0_sizeOfAll_3 (pc' := 4) rfl rfl (Nat.le_of_ble_eq_true rfl) (ls' := [some (.inr 93), some (.inl 0), some (.inl 0)]) rfl ?_
  refine lp_ind (P := fun s => KJ E mX0_sizeOfAll rmX0_sizeOfAll 4 [some (.inr 93), some (.inl s.1), some (.inl s.2)] [] σ Q) (fun rec4 s ih4 hT => ?_) FU (0, 0) hT
  obtain ⟨x1, x2⟩ := s
  show KJ E mX0_sizeOfAll rmX0_sizeOfAll 4 [some (.inr 93), some (.inl x1), some (.inl x2)] [] σ Q
  rw [X0_sizeOfAll_B4] at hT
  refine kj_iload_n dX0_sizeOfAll_4 (pc' := 5) rfl rfl rfl ?_
  refine kj_aload_n dX0_sizeOfAll_5 (pc' := 6) rfl rfl rfl ?_
  refine kj_getI f_RX0_39 rfl (Nat.lt_of_lt_of_le (Nat.le_of_ble_eq_true rfl : 93 < 120) hE.1) dX0_sizeOfAll_6 (pc' := 9) rfl ?_
  refine kj_icmp_ge dX0_sizeOfAll_9 (tgt := 26) rfl (pc' := 12) rfl (fun c2 => ?_) (fun c2 => ?_)
  · rw [if_pos c2] at hT
    refine kj_iload_n dX0_sizeOfAll_26 (pc' := 27) rfl rfl rfl ?_
    have hR := Option.some.inj hT
    subst hR
    exact kj_iret rfl dX0_sizeOfAll_27 (by subst hQ; exact ⟨rfl, rfl⟩)
  · rw [if_neg c2] at hT
    refine kj_iload_n dX0_sizeOfAll_12 (pc' := 13) rfl rfl rfl ?_
    refine kj_aload_n dX0_sizeOfAll_13 (pc' := 14) rfl rfl rfl ?_
    refine kj_iload_n dX0_sizeOfAll_14 (pc' := 15) rfl rfl rfl ?_
    obtain ⟨t3, ht3, hT⟩ := bind_some' hT
    refine kcVi (as := [.inl x2]) (st := [.inl x1]) l_RX0_95 (m_X0_oftenOf hE σ x2 ht3) rfl (Nat.lt_of_lt_of_le (Nat.le_of_ble_eq_true rfl : 93 < 120) hE.1) rfl ⟨⟨rfl, rfl⟩, Nat.le_of_ble_eq_true rfl, Nat.le_of_ble_eq_true rfl⟩ (Nat.le_of_ble_eq_true rfl) dX0_sizeOfAll_15 (pc' := 18) rfl ?_
    refine kj_iadd dX0_sizeOfAll_18 (pc' := 19) rfl ?_
    refine kj_istore_n dX0_sizeOfAll_19 (pc' := 20) rfl rfl (Nat.le_of_ble_eq_true rfl) (ls' := [some (.inr 93), some (.inl (x1 + t3)), some (.inl x2)]) rfl ?_
    refine kj_iinc dX0_sizeOfAll_20 (pc' := 23) rfl rfl (congrArg (_ + ·) kc_1) (Nat.le_of_ble_eq_true rfl) (ls' := [some (.inr 93), some (.inl (x1 + t3)), some (.inl (x2 + 1))]) rfl ?_
    refine kj_goto dX0_sizeOfAll_23 (pc' := 4) rfl ?_
    exact ih4 (x1 + t3, x2 + 1) hT
def X0_massOfAll_B4 (σ : Wd) (q1 : Nat) (rec4 : Int32 × Int32 → Option (Int32)) : Int32 × Int32 → Option (Int32)
  | (x2, x3) => (if (σ 93 7) ≤ x3 then some x2 else (if (nI (kLn q1)) ≤ x3 then some x2 else (ckA x3 (kLn q1) <| ((X0_oftenOf σ x3).bind fun t5 => (lett (x2 + ((σ q1 x3.toNatClampNeg) * t5)) fun t6 => rec4 (t6, x3 + 1))))))
def X0_massOfAll (σ : Wd) (q1 : Nat) : Option (Int32) :=
  (lp (X0_massOfAll_B4 σ q1) FU (0, 0))
set_option maxRecDepth 100000 in
set_option maxHeartbeats 4000000 in
theorem m_X0_massOfAll {E : JE} (hE : kOk 120 E) {q1 : Nat} (hq1 : kKd q1 = 20) (nq1 : q1 < E.2.2.2.2.1) (σ : Wd) {res : Int32} (hT : X0_massOfAll σ q1 = some res) : kMt E yX0_massOfAll mX0_massOfAll rmX0_massOfAll [.inr 93, .inr q1] σ (kQi res σ) := by
  refine kMt_of (by decide +kernel) rfl (Nat.le_of_ble_eq_true rfl) ?_
  generalize hQ : (kQi res σ) = Q
  show KJ E mX0_massOfAll rmX0_massOfAll 0 [some (.inr 93), some (.inr q1)] [] σ Q
  unfold X0_massOfAll at hT
  refine kj_iconst dX0_massOfAll_0 (pc' := 1) rfl kc_0 ?_
  refine kj_istore_n dX0_massOfAll_1 (pc' := 2) rfl rfl (Nat.le_of_ble_eq_true rfl) (ls' := [some (.inr 93), some (.inr q1), some (.inl 0)]) rfl ?_
  refine kj_iconst dX0_massOfAll_2 (pc' := 3) rfl kc_0 ?_
  refine kj_istore_n dX0_massOfAll_3 (pc' := 4) rfl rfl (Nat.le_of_ble_eq_true rfl) (ls' := [some (.inr 93), some (.inr q1), some (.inl 0), some (.inl 0)]) rfl ?_
  refine lp_ind (P := fun s => KJ E mX0_massOfAll rmX0_massOfAll 4 [some (.inr 93), some (.inr q1), some (.inl s.1), some (.inl s.2)] [] σ Q) (fun rec4 s ih4 hT => ?_) FU (0, 0) hT
  obtain ⟨x2, x3⟩ := s
  show KJ E mX0_massOfAll rmX0_massOfAll 4 [some (.inr 93), some (.inr q1), some (.inl x2), some (.inl x3)] [] σ Q
  rw [X0_massOfAll_B4] at hT
  refine kj_iload_n dX0_massOfAll_4 (pc' := 5) rfl rfl rfl ?_
  refine kj_aload_n dX0_massOfAll_5 (pc' := 6) rfl rfl rfl ?_
  refine kj_getI f_RX0_39 rfl (Nat.lt_of_lt_of_le (Nat.le_of_ble_eq_true rfl : 93 < 120) hE.1) dX0_massOfAll_6 (pc' := 9) rfl ?_
  refine kj_icmp_ge dX0_massOfAll_9 (tgt := 36) rfl (pc' := 12) rfl (fun c2 => ?_) (fun c2 => ?_)
  · rw [if_pos c2] at hT
    refine kj_iload_n dX0_massOfAll_36 (pc' := 37) rfl rfl rfl ?_
    have hR := Option.some.inj hT
    subst hR
    exact kj_iret rfl dX0_massOfAll_37 (by subst hQ; exact ⟨rfl, rfl⟩)
  · rw [if_neg c2] at hT
    refine kj_iload_n dX0_massOfAll_12 (pc' := 13) rfl rfl rfl ?_
    refine kj_aload_n dX0_massOfAll_13 (pc' := 14) rfl rfl rfl ?_
    refine kj_alen (n := 0) (v := nI (kLn q1)) 0 (ty := .int) hq1 (by decide) rfl nq1 rfl dX0_massOfAll_14 (pc' := 15) rfl ?_
    refine kj_icmp_ge dX0_massOfAll_15 (tgt := 36) rfl (pc' := 18) rfl (fun c3 => ?_) (fun c3 => ?_)
    · rw [if_pos c3] at hT
      refine kj_iload_n dX0_massOfAll_36 (pc' := 37) rfl rfl rfl ?_
      have hR := Option.some.inj hT
      subst hR
      exact kj_iret rfl dX0_massOfAll_37 (by subst hQ; exact ⟨rfl, rfl⟩)
    · rw [if_neg c3] at hT
      refine kj_iload_n dX0_massOfAll_18 (pc' := 19) rfl rfl rfl ?_
      refine kj_aload_n dX0_massOfAll_19 (pc' := 20) rfl rfl rfl ?_
      refine kj_iload_n dX0_massOfAll_20 (pc' := 21) rfl rfl rfl ?_
      obtain ⟨hi4, hT⟩ := ckA_some hT
      refine kj_iald hq1 nq1 hi4 rfl dX0_massOfAll_21 (pc' := 22) rfl ?_
      refine kj_aload_n dX0_massOfAll_22 (pc' := 23) rfl rfl rfl ?_
      refine kj_iload_n dX0_massOfAll_23 (pc' := 24) rfl rfl rfl ?_
      obtain ⟨t5, ht5, hT⟩ := bind_some' hT
      refine kcVi (as := [.inl x3]) (st := [.inl (σ q1 x3.toNatClampNeg), .inl x2]) l_RX0_95 (m_X0_oftenOf hE σ x3 ht5) rfl (Nat.lt_of_lt_of_le (Nat.le_of_ble_eq_true rfl : 93 < 120) hE.1) rfl ⟨⟨rfl, rfl⟩, Nat.le_of_ble_eq_true rfl, Nat.le_of_ble_eq_true rfl⟩ (Nat.le_of_ble_eq_true rfl) dX0_massOfAll_24 (pc' := 27) rfl ?_
      refine kj_imul dX0_massOfAll_27 (pc' := 28) rfl ?_
      refine kj_iadd dX0_massOfAll_28 (pc' := 29) rfl ?_
      obtain ⟨t6, et6, hT⟩ := lett_i hT
      rw [← et6]
      refine kj_istore_n dX0_massOfAll_29 (pc' := 30) rfl rfl (Nat.le_of_ble_eq_true rfl) (ls' := [some (.inr 93), some (.inr q1), some (.inl t6), some (.inl x3)]) rfl ?_
      refine kj_iinc dX0_massOfAll_30 (pc' := 33) rfl rfl (congrArg (_ + ·) kc_1) (Nat.le_of_ble_eq_true rfl) (ls' := [some (.inr 93), some (.inr q1), some (.inl t6), some (.inl (x3 + 1))]) rfl ?_
      refine kj_goto dX0_massOfAll_33 (pc' := 4) rfl ?_
      exact ih4 (t6, x3 + 1) hT
def X0_isProof_J42 (σ : Wd) (q1 : Nat) (y2 : Int32) : Option (Int32) :=
  (if y2 ≤ 0 then some 0 else ((X0_massOfAll σ q1).bind fun t3 => (if (2 * t3) < (y2 * (σ 95 1)) then some 0 else some 1)))
def X0_isProof_T42 (σ : Wd) (q1 : Nat) (x2 : Int32) : Option (Int32) :=
  X0_isProof_J42 σ q1 x2
def X0_isProof_J36 (rec4 : Int32 × Int32 → Option (Int32)) (y2 : Int32) (y3 : Int32) : Option (Int32) :=
  rec4 (y2, y3 + 1)
def X0_isProof_B4 (σ : Wd) (q1 : Nat) (kx4 : Int32 → Option (Int32)) (rec4 : Int32 × Int32 → Option (Int32)) : Int32 × Int32 → Option (Int32)
  | (x2, x3) => (if (σ 93 7) ≤ x3 then kx4 x2 else (if (nI (kLn q1)) ≤ x3 then kx4 x2 else ((X0_top σ).bind fun t7 => (if ((t7 >>> (x3 &&& 31)) &&& 1) = 1 then (ckA x3 (kLn q1) <| X0_isProof_J36 rec4 (x2 + (σ q1 x3.toNatClampNeg)) x3) else X0_isProof_J36 rec4 x2 x3))))
def X0_isProof (σ : Wd) (q1 : Nat) : Option (Int32) :=
  (lp (X0_isProof_B4 σ q1 (X0_isProof_T42 σ q1)) FU (0, 0))
set_option maxRecDepth 100000 in
set_option maxHeartbeats 4000000 in
theorem m_X0_isProof {E : JE} (hE : kOk 120 E) {q1 : Nat} (hq1 : kKd q1 = 20) (nq1 : q1 < E.2.2.2.2.1) (σ : Wd) {res : Int32} (hT : X0_isProof σ q1 = some res) : kMt E yX0_isProof mX0_isProof rmX0_isProof [.inr 93, .inr q1] σ (kQz res σ) := by
  refine kMt_of (by decide +kernel) rfl (Nat.le_of_ble_eq_true rfl) ?_
  generalize hQ : (kQz res σ) = Q
  show KJ E mX0_isProof rmX0_isProof 0 [some (.inr 93), some (.inr q1)] [] σ Q
  unfold X0_isProof at hT
  have hJ42 : ∀ y2, X0_isProof_J42 σ q1 y2 = some res → KJ E mX0_isProof rmX0_isProof 42 [some (.inr 93), some (.inr q1), some (.inl y2)] [] σ Q := by
    intro y2 hT
    unfold X0_isProof_J42 at hT
    refine kj_iload_n dX0_isProof_42 (pc' := 43) rfl rfl rfl ?_
    refine kj_if_le dX0_isProof_43 (tgt := 69) rfl (pc' := 46) rfl (fun c2 => ?_) (fun c2 => ?_)
    · rw [if_pos c2] at hT
      refine kj_iconst dX0_isProof_69 (pc' := 70) rfl kc_0 ?_
      have hR := Option.some.inj hT
      subst hR
      exact kj_zret rfl (Or.inl rfl) dX0_isProof_70 (by subst hQ; exact ⟨rfl, rfl, (Or.inl rfl)⟩)
    · rw [if_neg c2] at hT
      refine kj_iconst dX0_isProof_46 (pc' := 47) rfl kc_2 ?_
      refine kj_aload_n dX0_isProof_47 (pc' := 48) rfl rfl rfl ?_
      refine kj_aload_n dX0_isProof_48 (pc' := 49) rfl rfl rfl ?_
      obtain ⟨t3, ht3, hT⟩ := bind_some' hT
      refine kcVi (as := [.inr q1]) (st := [.inl 2]) l_RX0_109 (m_X0_massOfAll hE hq1 nq1 σ ht3) rfl (Nat.lt_of_lt_of_le (Nat.le_of_ble_eq_true rfl : 93 < 120) hE.1) rfl ⟨⟨rfl, rfl⟩, Nat.le_of_ble_eq_true rfl, Nat.le_of_ble_eq_true rfl⟩ (Nat.le_of_ble_eq_true rfl) dX0_isProof_49 (pc' := 52) rfl ?_
      refine kj_imul dX0_isProof_52 (pc' := 53) rfl ?_
      refine kj_iload_n dX0_isProof_53 (pc' := 54) rfl rfl rfl ?_
      refine kj_aload_n dX0_isProof_54 (pc' := 55) rfl rfl rfl ?_
      refine kj_getR f_RX0_20 rfl (Nat.lt_of_lt_of_le (Nat.le_of_ble_eq_true rfl : 93 < 120) hE.1) (hE.2 _ _) (q := 95) rfl dX0_isProof_55 (pc' := 58) rfl ?_
      refine kj_getI f_RX0_71 rfl (Nat.lt_of_lt_of_le (Nat.le_of_ble_eq_true rfl : 95 < 120) hE.1) dX0_isProof_58 (pc' := 61) rfl ?_
      refine kj_imul dX0_isProof_61 (pc' := 62) rfl ?_
      refine kj_icmp_lt dX0_isProof_62 (tgt := 69) rfl (pc' := 65) rfl (fun c4 => ?_) (fun c4 => ?_)
      · rw [if_pos c4] at hT
        refine kj_iconst dX0_isProof_69 (pc' := 70) rfl kc_0 ?_
        have hR := Option.some.inj hT
        subst hR
        exact kj_zret rfl (Or.inl rfl) dX0_isProof_70 (by subst hQ; exact ⟨rfl, rfl, (Or.inl rfl)⟩)
      · rw [if_neg c4] at hT
        refine kj_iconst dX0_isProof_65 (pc' := 66) rfl kc_1 ?_
        refine kj_goto dX0_isProof_66 (pc' := 70) rfl ?_
        have hR := Option.some.inj hT
        subst hR
        exact kj_zret rfl (Or.inr rfl) dX0_isProof_70 (by subst hQ; exact ⟨rfl, rfl, (Or.inr rfl)⟩)
  refine kj_iconst dX0_isProof_0 (pc' := 1) rfl kc_0 ?_
  refine kj_istore_n dX0_isProof_1 (pc' := 2) rfl rfl (Nat.le_of_ble_eq_true rfl) (ls' := [some (.inr 93), some (.inr q1), some (.inl 0)]) rfl ?_
  refine kj_iconst dX0_isProof_2 (pc' := 3) rfl kc_0 ?_
  refine kj_istore_n dX0_isProof_3 (pc' := 4) rfl rfl (Nat.le_of_ble_eq_true rfl) (ls' := [some (.inr 93), some (.inr q1), some (.inl 0), some (.inl 0)]) rfl ?_
  have hX4 : ∀ x2, X0_isProof_T42 σ q1 x2 = some res → KJ E mX0_isProof rmX0_isProof 42 [some (.inr 93), some (.inr q1), some (.inl x2)] [] σ Q := by
    intro x2 hT
    unfold X0_isProof_T42 at hT
    exact hJ42 x2 hT
  refine lp_ind (P := fun s => KJ E mX0_isProof rmX0_isProof 4 [some (.inr 93), some (.inr q1), some (.inl s.1), some (.inl s.2)] [] σ Q) (fun rec4 s ih4 hT => ?_) FU (0, 0) hT
  obtain ⟨x2, x3⟩ := s
  show KJ E mX0_isProof rmX0_isProof 4 [some (.inr 93), some (.inr q1), some (.inl x2), some (.inl x3)] [] σ Q
  rw [X0_isProof_B4] at hT
  have hJ36_4 : ∀ y2 y3, X0_isProof_J36 rec4 y2 y3 = some res → KJ E mX0_isProof rmX0_isProof 36 [some (.inr 93), some (.inr q1), some (.inl y2), some (.inl y3)] [] σ Q := by
    intro y2 y3 hT
    unfold X0_isProof_J36 at hT
    refine kj_iinc dX0_isProof_36 (pc' := 39) rfl rfl (congrArg (_ + ·) kc_1) (Nat.le_of_ble_eq_true rfl) (ls' := [some (.inr 93), some (.inr q1), some (.inl y2), some (.inl (y3 + 1))]) rfl ?_
    refine kj_goto dX0_isProof_39 (pc' := 4) rfl ?_
    exact ih4 (y2, y3 + 1) hT
  refine kj_iload_n dX0_isProof_4 (pc' := 5) rfl rfl rfl ?_
  refine kj_aload_n dX0_isProof_5 (pc' := 6) rfl rfl rfl ?_
  refine kj_getI f_RX0_39 rfl (Nat.lt_of_lt_of_le (Nat.le_of_ble_eq_true rfl : 93 < 120) hE.1) dX0_isProof_6 (pc' := 9) rfl ?_
  refine kj_icmp_ge dX0_isProof_9 (tgt := 42) rfl (pc' := 12) rfl (fun c5 => ?_) (fun c5 => ?_)
  · rw [if_pos c5] at hT
    refine kj_keep [true, true, true] (ls' := [some (.inr 93), some (.inr q1), some (.inl x2)]) rfl ?_
    exact hX4 x2 hT
  · rw [if_neg c5] at hT
    refine kj_iload_n dX0_isProof_12 (pc' := 13) rfl rfl rfl ?_
    refine kj_aload_n dX0_isProof_13 (pc' := 14) rfl rfl rfl ?_
    refine kj_alen (n := 0) (v := nI (kLn q1)) 0 (ty := .int) hq1 (by decide) rfl nq1 rfl dX0_isProof_14 (pc' := 15) rfl ?_
    refine kj_icmp_ge dX0_isProof_15 (tgt := 42) rfl (pc' := 18) rfl (fun c6 => ?_) (fun c6 => ?_)
    · rw [if_pos c6] at hT
      refine kj_keep [true, true, true] (ls' := [some (.inr 93), some (.inr q1), some (.inl x2)]) rfl ?_
      exact hX4 x2 hT
    · rw [if_neg c6] at hT
      refine kj_aload_n dX0_isProof_18 (pc' := 19) rfl rfl rfl ?_
      obtain ⟨t7, ht7, hT⟩ := bind_some' hT
      refine kcVi (as := []) (st := []) l_RX0_105 (m_X0_top hE σ ht7) rfl (Nat.lt_of_lt_of_le (Nat.le_of_ble_eq_true rfl : 93 < 120) hE.1) rfl ⟨⟨rfl, rfl⟩, Nat.le_of_ble_eq_true rfl, Nat.le_of_ble_eq_true rfl⟩ (Nat.le_of_ble_eq_true rfl) dX0_isProof_19 (pc' := 22) rfl ?_
      refine kj_iload_n dX0_isProof_22 (pc' := 23) rfl rfl rfl ?_
      refine kj_ishr dX0_isProof_23 (pc' := 24) rfl ?_
      refine kj_iconst dX0_isProof_24 (pc' := 25) rfl kc_1 ?_
      refine kj_iand dX0_isProof_25 (pc' := 26) rfl ?_
      refine kj_iconst dX0_isProof_26 (pc' := 27) rfl kc_1 ?_
      refine kj_icmp_ne dX0_isProof_27 (tgt := 36) rfl (pc' := 30) rfl (fun c8 => ?_) (fun c8 => ?_)
      · rw [if_neg c8] at hT
        exact hJ36_4 x2 x3 hT
      · rw [if_pos c8] at hT
        refine kj_iload_n dX0_isProof_30 (pc' := 31) rfl rfl rfl ?_
        refine kj_aload_n dX0_isProof_31 (pc' := 32) rfl rfl rfl ?_
        refine kj_iload_n dX0_isProof_32 (pc' := 33) rfl rfl rfl ?_
        obtain ⟨hi9, hT⟩ := ckA_some hT
        refine kj_iald hq1 nq1 hi9 rfl dX0_isProof_33 (pc' := 34) rfl ?_
        refine kj_iadd dX0_isProof_34 (pc' := 35) rfl ?_
        refine kj_istore_n dX0_isProof_35 (pc' := 36) rfl rfl (Nat.le_of_ble_eq_true rfl) (ls' := [some (.inr 93), some (.inr q1), some (.inl (x2 + (σ q1 x3.toNatClampNeg))), some (.inl x3)]) rfl ?_
        exact hJ36_4 (x2 + (σ q1 x3.toNatClampNeg)) x3 hT
def X0_hullOf_J41 (rec7 : Int32 × Int32 → Option (Int32)) (y2 : Int32) (y3 : Int32) : Option (Int32) :=
  rec7 (y2, y3 + 1)
def X0_hullOf_B7 (σ : Wd) (x1 : Int32) (rec7 : Int32 × Int32 → Option (Int32)) : Int32 × Int32 → Option (Int32)
  | (x2, x3) => (if (σ 95 1) ≤ x3 then some x2 else ((X4_at σ 95 x3).bind fun t3 => (if (t3 &&& x1) = x1 then X0_hullOf_J41 rec7 (x2 &&& t3) x3 else X0_hullOf_J41 rec7 x2 x3)))
def X0_hullOf (σ : Wd) (x1 : Int32) : Option (Int32) :=
  (lp (X0_hullOf_B7 σ x1) FU (X0_allPoints σ, 0))
set_option maxRecDepth 100000 in
set_option maxHeartbeats 4000000 in
theorem m_X0_hullOf {E : JE} (hE : kOk 120 E) (σ : Wd) (x1 : Int32) {res : Int32} (hT : X0_hullOf σ x1 = some res) : kMt E yX0_hullOf mX0_hullOf rmX0_hullOf [.inr 93, .inl x1] σ (kQi res σ) := by
  refine kMt_of (by decide +kernel) rfl (Nat.le_of_ble_eq_true rfl) ?_
  generalize hQ : (kQi res σ) = Q
  show KJ E mX0_hullOf rmX0_hullOf 0 [some (.inr 93), some (.inl x1)] [] σ Q
  unfold X0_hullOf at hT
  refine kj_aload_n dX0_hullOf_0 (pc' := 1) rfl rfl rfl ?_
  refine kcVi (as := []) (st := []) l_RX0_113 (m_X0_allPoints hE σ rfl) rfl (Nat.lt_of_lt_of_le (Nat.le_of_ble_eq_true rfl : 93 < 120) hE.1) rfl ⟨⟨rfl, rfl⟩, Nat.le_of_ble_eq_true rfl, Nat.le_of_ble_eq_true rfl⟩ (Nat.le_of_ble_eq_true rfl) dX0_hullOf_1 (pc' := 4) rfl ?_
  refine kj_istore_n dX0_hullOf_4 (pc' := 5) rfl rfl (Nat.le_of_ble_eq_true rfl) (ls' := [some (.inr 93), some (.inl x1), some (.inl (X0_allPoints σ))]) rfl ?_
  refine kj_iconst dX0_hullOf_5 (pc' := 6) rfl kc_0 ?_
  refine kj_istore_n dX0_hullOf_6 (pc' := 7) rfl rfl (Nat.le_of_ble_eq_true rfl) (ls' := [some (.inr 93), some (.inl x1), some (.inl (X0_allPoints σ)), some (.inl 0)]) rfl ?_
  refine lp_ind (P := fun s => KJ E mX0_hullOf rmX0_hullOf 7 [some (.inr 93), some (.inl x1), some (.inl s.1), some (.inl s.2)] [] σ Q) (fun rec7 s ih7 hT => ?_) FU (X0_allPoints σ, 0) hT
  obtain ⟨x2, x3⟩ := s
  show KJ E mX0_hullOf rmX0_hullOf 7 [some (.inr 93), some (.inl x1), some (.inl x2), some (.inl x3)] [] σ Q
  rw [X0_hullOf_B7] at hT
  have hJ41_7 : ∀ y2 y3, X0_hullOf_J41 rec7 y2 y3 = some res → KJ E mX0_hullOf rmX0_hullOf 41 [some (.inr 93), some (.inl x1), some (.inl y2), some (.inl y3)] [] σ Q := by
    intro y2 y3 hT
    unfold X0_hullOf_J41 at hT
    refine kj_iinc dX0_hullOf_41 (pc' := 44) rfl rfl (congrArg (_ + ·) kc_1) (Nat.le_of_ble_eq_true rfl) (ls' := [some (.inr 93), some (.inl x1), some (.inl y2), some (.inl (y3 + 1))]) rfl ?_
    refine kj_goto dX0_hullOf_44 (pc' := 7) rfl ?_
    exact ih7 (y2, y3 + 1) hT
  refine kj_iload_n dX0_hullOf_7 (pc' := 8) rfl rfl rfl ?_
  refine kj_aload_n dX0_hullOf_8 (pc' := 9) rfl rfl rfl ?_
  refine kj_getR f_RX0_20 rfl (Nat.lt_of_lt_of_le (Nat.le_of_ble_eq_true rfl : 93 < 120) hE.1) (hE.2 _ _) (q := 95) rfl dX0_hullOf_9 (pc' := 12) rfl ?_
  refine kj_getI f_RX0_71 rfl (Nat.lt_of_lt_of_le (Nat.le_of_ble_eq_true rfl : 95 < 120) hE.1) dX0_hullOf_12 (pc' := 15) rfl ?_
  refine kj_icmp_ge dX0_hullOf_15 (tgt := 47) rfl (pc' := 18) rfl (fun c2 => ?_) (fun c2 => ?_)
  · rw [if_pos c2] at hT
    refine kj_iload_n dX0_hullOf_47 (pc' := 48) rfl rfl rfl ?_
    have hR := Option.some.inj hT
    subst hR
    exact kj_iret rfl dX0_hullOf_48 (by subst hQ; exact ⟨rfl, rfl⟩)
  · rw [if_neg c2] at hT
    refine kj_aload_n dX0_hullOf_18 (pc' := 19) rfl rfl rfl ?_
    refine kj_getR f_RX0_20 rfl (Nat.lt_of_lt_of_le (Nat.le_of_ble_eq_true rfl : 93 < 120) hE.1) (hE.2 _ _) (q := 95) rfl dX0_hullOf_19 (pc' := 22) rfl ?_
    refine kj_iload_n dX0_hullOf_22 (pc' := 23) rfl rfl rfl ?_
    obtain ⟨t3, ht3, hT⟩ := bind_some' hT
    refine kcVi (as := [.inl x3]) (st := []) l_RX0_74 (m_X4_at hE rfl σ x3 ht3) rfl (Nat.lt_of_lt_of_le (Nat.le_of_ble_eq_true rfl : 95 < 120) hE.1) rfl ⟨⟨rfl, rfl⟩, Nat.le_of_ble_eq_true rfl, Nat.le_of_ble_eq_true rfl⟩ (Nat.le_of_ble_eq_true rfl) dX0_hullOf_23 (pc' := 26) rfl ?_
    refine kj_istore dX0_hullOf_26 (pc' := 28) rfl (Nat.le_of_ble_eq_true rfl) (ls' := [some (.inr 93), some (.inl x1), some (.inl x2), some (.inl x3), some (.inl t3)]) rfl ?_
    refine kj_iload dX0_hullOf_28 (pc' := 30) rfl rfl ?_
    refine kj_iload_n dX0_hullOf_30 (pc' := 31) rfl rfl rfl ?_
    refine kj_iand dX0_hullOf_31 (pc' := 32) rfl ?_
    refine kj_iload_n dX0_hullOf_32 (pc' := 33) rfl rfl rfl ?_
    refine kj_icmp_ne dX0_hullOf_33 (tgt := 41) rfl (pc' := 36) rfl (fun c4 => ?_) (fun c4 => ?_)
    · rw [if_neg c4] at hT
      refine kj_keep [true, true, true, true] (ls' := [some (.inr 93), some (.inl x1), some (.inl x2), some (.inl x3)]) rfl ?_
      exact hJ41_7 x2 x3 hT
    · rw [if_pos c4] at hT
      refine kj_iload_n dX0_hullOf_36 (pc' := 37) rfl rfl rfl ?_
      refine kj_iload dX0_hullOf_37 (pc' := 39) rfl rfl ?_
      refine kj_iand dX0_hullOf_39 (pc' := 40) rfl ?_
      refine kj_istore_n dX0_hullOf_40 (pc' := 41) rfl rfl (Nat.le_of_ble_eq_true rfl) (ls' := [some (.inr 93), some (.inl x1), some (.inl (x2 &&& t3)), some (.inl x3), some (.inl t3)]) rfl ?_
      refine kj_keep [true, true, true, true] (ls' := [some (.inr 93), some (.inl x1), some (.inl (x2 &&& t3)), some (.inl x3)]) rfl ?_
      exact hJ41_7 (x2 &&& t3) x3 hT
def X0_countWithin_J33 (rec4 : Int32 × Int32 → Option (Int32)) (y2 : Int32) (y3 : Int32) : Option (Int32) :=
  rec4 (y2, y3 + 1)
def X0_countWithin_B4 (σ : Wd) (x1 : Int32) (rec4 : Int32 × Int32 → Option (Int32)) : Int32 × Int32 → Option (Int32)
  | (x2, x3) => (if (σ 95 1) ≤ x3 then some x2 else ((X4_at σ 95 x3).bind fun t3 => (if (t3 &&& (x1 ^^^ (-1))) = 0 then X0_countWithin_J33 rec4 (x2 + 1) x3 else X0_countWithin_J33 rec4 x2 x3)))
def X0_countWithin (σ : Wd) (x1 : Int32) : Option (Int32) :=
  (lp (X0_countWithin_B4 σ x1) FU (0, 0))
set_option maxRecDepth 100000 in
set_option maxHeartbeats 4000000 in
theorem m_X0_countWithin {E : JE} (hE : kOk 120 E) (σ : Wd) (x1 : Int32) {res : Int32} (hT : X0_countWithin σ x1 = some res) : kMt E yX0_countWithin mX0_countWithin rmX0_countWithin [.inr 93, .inl x1] σ (kQi res σ) := by
  refine kMt_of (by decide +kernel) rfl (Nat.le_of_ble_eq_true rfl) ?_
  generalize hQ : (kQi res σ) = Q
  show KJ E mX0_countWithin rmX0_countWithin 0 [some (.inr 93), some (.inl x1)] [] σ Q
  unfold X0_countWithin at hT
  refine kj_iconst dX0_countWithin_0 (pc' := 1) rfl kc_0 ?_
  refine kj_istore_n dX0_countWithin_1 (pc' := 2) rfl rfl (Nat.le_of_ble_eq_true rfl) (ls' := [some (.inr 93), some (.inl x1), some (.inl 0)]) rfl ?_
  refine kj_iconst dX0_countWithin_2 (pc' := 3) rfl kc_0 ?_
  refine kj_istore_n dX0_countWithin_3 (pc' := 4) rfl rfl (Nat.le_of_ble_eq_true rfl) (ls' := [some (.inr 93), some (.inl x1), some (.inl 0), some (.inl 0)]) rfl ?_
  refine lp_ind (P := fun s => KJ E mX0_countWithin rmX0_countWithin 4 [some (.inr 93), some (.inl x1), some (.inl s.1), some (.inl s.2)] [] σ Q) (fun rec4 s ih4 hT => ?_) FU (0, 0) hT
  obtain ⟨x2, x3⟩ := s
  show KJ E mX0_countWithin rmX0_countWithin 4 [some (.inr 93), some (.inl x1), some (.inl x2), some (.inl x3)] [] σ Q
  rw [X0_countWithin_B4] at hT
  have hJ33_4 : ∀ y2 y3, X0_countWithin_J33 rec4 y2 y3 = some res → KJ E mX0_countWithin rmX0_countWithin 33 [some (.inr 93), some (.inl x1), some (.inl y2), some (.inl y3)] [] σ Q := by
    intro y2 y3 hT
    unfold X0_countWithin_J33 at hT
    refine kj_iinc dX0_countWithin_33 (pc' := 36) rfl rfl (congrArg (_ + ·) kc_1) (Nat.le_of_ble_eq_true rfl) (ls' := [some (.inr 93), some (.inl x1), some (.inl y2), some (.inl (y3 + 1))]) rfl ?_
    refine kj_goto dX0_countWithin_36 (pc' := 4) rfl ?_
    exact ih4 (y2, y3 + 1) hT
  refine kj_iload_n dX0_countWithin_4 (pc' := 5) rfl rfl rfl ?_
  refine kj_aload_n dX0_countWithin_5 (pc' := 6) rfl rfl rfl ?_
  refine kj_getR f_RX0_20 rfl (Nat.lt_of_lt_of_le (Nat.le_of_ble_eq_true rfl : 93 < 120) hE.1) (hE.2 _ _) (q := 95) rfl dX0_countWithin_6 (pc' := 9) rfl ?_
  refine kj_getI f_RX0_71 rfl (Nat.lt_of_lt_of_le (Nat.le_of_ble_eq_true rfl : 95 < 120) hE.1) dX0_countWithin_9 (pc' := 12) rfl ?_
  refine kj_icmp_ge dX0_countWithin_12 (tgt := 39) rfl (pc' := 15) rfl (fun c2 => ?_) (fun c2 => ?_)
  · rw [if_pos c2] at hT
    refine kj_iload_n dX0_countWithin_39 (pc' := 40) rfl rfl rfl ?_
    have hR := Option.some.inj hT
    subst hR
    exact kj_iret rfl dX0_countWithin_40 (by subst hQ; exact ⟨rfl, rfl⟩)
  · rw [if_neg c2] at hT
    refine kj_aload_n dX0_countWithin_15 (pc' := 16) rfl rfl rfl ?_
    refine kj_getR f_RX0_20 rfl (Nat.lt_of_lt_of_le (Nat.le_of_ble_eq_true rfl : 93 < 120) hE.1) (hE.2 _ _) (q := 95) rfl dX0_countWithin_16 (pc' := 19) rfl ?_
    refine kj_iload_n dX0_countWithin_19 (pc' := 20) rfl rfl rfl ?_
    obtain ⟨t3, ht3, hT⟩ := bind_some' hT
    refine kcVi (as := [.inl x3]) (st := []) l_RX0_74 (m_X4_at hE rfl σ x3 ht3) rfl (Nat.lt_of_lt_of_le (Nat.le_of_ble_eq_true rfl : 95 < 120) hE.1) rfl ⟨⟨rfl, rfl⟩, Nat.le_of_ble_eq_true rfl, Nat.le_of_ble_eq_true rfl⟩ (Nat.le_of_ble_eq_true rfl) dX0_countWithin_20 (pc' := 23) rfl ?_
    refine kj_iload_n dX0_countWithin_23 (pc' := 24) rfl rfl rfl ?_
    refine kj_iconst dX0_countWithin_24 (pc' := 25) rfl kc_m1 ?_
    refine kj_ixor dX0_countWithin_25 (pc' := 26) rfl ?_
    refine kj_iand dX0_countWithin_26 (pc' := 27) rfl ?_
    refine kj_if_ne dX0_countWithin_27 (tgt := 33) rfl (pc' := 30) rfl (fun c4 => ?_) (fun c4 => ?_)
    · rw [if_neg c4] at hT
      exact hJ33_4 x2 x3 hT
    · rw [if_pos c4] at hT
      refine kj_iinc dX0_countWithin_30 (pc' := 33) rfl rfl (congrArg (_ + ·) kc_1) (Nat.le_of_ble_eq_true rfl) (ls' := [some (.inr 93), some (.inl x1), some (.inl (x2 + 1)), some (.inl x3)]) rfl ?_
      exact hJ33_4 (x2 + 1) x3 hT
def X0_isInPart (σ : Wd) (x1 : Int32) (x2 : Int32) (x3 : Int32) : Option (Int32) :=
  ((X4_at σ 95 x1).bind fun t1 => (if ((t1 >>> (x2 &&& 31)) &&& 1) = 1 then (if 1 = x3 then some 1 else some 0) else (if 0 = x3 then some 1 else some 0)))
set_option maxRecDepth 100000 in
set_option maxHeartbeats 4000000 in
theorem m_X0_isInPart {E : JE} (hE : kOk 120 E) (σ : Wd) (x1 : Int32) (x2 : Int32) (x3 : Int32) {res : Int32} (hT : X0_isInPart σ x1 x2 x3 = some res) : kMt E yX0_isInPart mX0_isInPart rmX0_isInPart [.inr 93, .inl x1, .inl x2, .inl x3] σ (kQz res σ) := by
  refine kMt_of (by decide +kernel) rfl (Nat.le_of_ble_eq_true rfl) ?_
  generalize hQ : (kQz res σ) = Q
  show KJ E mX0_isInPart rmX0_isInPart 0 [some (.inr 93), some (.inl x1), some (.inl x2), some (.inl x3)] [] σ Q
  unfold X0_isInPart at hT
  refine kj_aload_n dX0_isInPart_0 (pc' := 1) rfl rfl rfl ?_
  refine kj_getR f_RX0_20 rfl (Nat.lt_of_lt_of_le (Nat.le_of_ble_eq_true rfl : 93 < 120) hE.1) (hE.2 _ _) (q := 95) rfl dX0_isInPart_1 (pc' := 4) rfl ?_
  refine kj_iload_n dX0_isInPart_4 (pc' := 5) rfl rfl rfl ?_
  obtain ⟨t1, ht1, hT⟩ := bind_some' hT
  refine kcVi (as := [.inl x1]) (st := []) l_RX0_74 (m_X4_at hE rfl σ x1 ht1) rfl (Nat.lt_of_lt_of_le (Nat.le_of_ble_eq_true rfl : 95 < 120) hE.1) rfl ⟨⟨rfl, rfl⟩, Nat.le_of_ble_eq_true rfl, Nat.le_of_ble_eq_true rfl⟩ (Nat.le_of_ble_eq_true rfl) dX0_isInPart_5 (pc' := 8) rfl ?_
  refine kj_iload_n dX0_isInPart_8 (pc' := 9) rfl rfl rfl ?_
  refine kj_ishr dX0_isInPart_9 (pc' := 10) rfl ?_
  refine kj_iconst dX0_isInPart_10 (pc' := 11) rfl kc_1 ?_
  refine kj_iand dX0_isInPart_11 (pc' := 12) rfl ?_
  refine kj_iconst dX0_isInPart_12 (pc' := 13) rfl kc_1 ?_
  refine kj_icmp_ne dX0_isInPart_13 (tgt := 20) rfl (pc' := 16) rfl (fun c2 => ?_) (fun c2 => ?_)
  · rw [if_neg c2] at hT
    refine kj_iconst dX0_isInPart_20 (pc' := 21) rfl kc_0 ?_
    refine kj_iload_n dX0_isInPart_21 (pc' := 22) rfl rfl rfl ?_
    refine kj_icmp_ne dX0_isInPart_22 (tgt := 29) rfl (pc' := 25) rfl (fun c3 => ?_) (fun c3 => ?_)
    · rw [if_neg c3] at hT
      refine kj_iconst dX0_isInPart_29 (pc' := 30) rfl kc_0 ?_
      have hR := Option.some.inj hT
      subst hR
      exact kj_zret rfl (Or.inl rfl) dX0_isInPart_30 (by subst hQ; exact ⟨rfl, rfl, (Or.inl rfl)⟩)
    · rw [if_pos c3] at hT
      refine kj_iconst dX0_isInPart_25 (pc' := 26) rfl kc_1 ?_
      refine kj_goto dX0_isInPart_26 (pc' := 30) rfl ?_
      have hR := Option.some.inj hT
      subst hR
      exact kj_zret rfl (Or.inr rfl) dX0_isInPart_30 (by subst hQ; exact ⟨rfl, rfl, (Or.inr rfl)⟩)
  · rw [if_pos c2] at hT
    refine kj_iconst dX0_isInPart_16 (pc' := 17) rfl kc_1 ?_
    refine kj_goto dX0_isInPart_17 (pc' := 21) rfl ?_
    refine kj_iload_n dX0_isInPart_21 (pc' := 22) rfl rfl rfl ?_
    refine kj_icmp_ne dX0_isInPart_22 (tgt := 29) rfl (pc' := 25) rfl (fun c4 => ?_) (fun c4 => ?_)
    · rw [if_neg c4] at hT
      refine kj_iconst dX0_isInPart_29 (pc' := 30) rfl kc_0 ?_
      have hR := Option.some.inj hT
      subst hR
      exact kj_zret rfl (Or.inl rfl) dX0_isInPart_30 (by subst hQ; exact ⟨rfl, rfl, (Or.inl rfl)⟩)
    · rw [if_pos c4] at hT
      refine kj_iconst dX0_isInPart_25 (pc' := 26) rfl kc_1 ?_
      refine kj_goto dX0_isInPart_26 (pc' := 30) rfl ?_
      have hR := Option.some.inj hT
      subst hR
      exact kj_zret rfl (Or.inr rfl) dX0_isInPart_30 (by subst hQ; exact ⟨rfl, rfl, (Or.inr rfl)⟩)
def X0_countPart (σ : Wd) (x1 : Int32) (x2 : Int32) : Option (Int32) :=
  (if x2 = 0 then ((X0_oftenOf σ x1).bind fun t2 => some ((σ 95 1) - t2)) else ((X0_oftenOf σ x1).bind fun t3 => some t3))
set_option maxRecDepth 100000 in
set_option maxHeartbeats 4000000 in
theorem m_X0_countPart {E : JE} (hE : kOk 120 E) (σ : Wd) (x1 : Int32) (x2 : Int32) {res : Int32} (hT : X0_countPart σ x1 x2 = some res) : kMt E yX0_countPart mX0_countPart rmX0_countPart [.inr 93, .inl x1, .inl x2] σ (kQi res σ) := by
  refine kMt_of (by decide +kernel) rfl (Nat.le_of_ble_eq_true rfl) ?_
  generalize hQ : (kQi res σ) = Q
  show KJ E mX0_countPart rmX0_countPart 0 [some (.inr 93), some (.inl x1), some (.inl x2)] [] σ Q
  unfold X0_countPart at hT
  refine kj_iload_n dX0_countPart_0 (pc' := 1) rfl rfl rfl ?_
  refine kj_if_eq dX0_countPart_1 (tgt := 12) rfl (pc' := 4) rfl (fun c1 => ?_) (fun c1 => ?_)
  · rw [if_pos c1] at hT
    refine kj_aload_n dX0_countPart_12 (pc' := 13) rfl rfl rfl ?_
    refine kj_getR f_RX0_20 rfl (Nat.lt_of_lt_of_le (Nat.le_of_ble_eq_true rfl : 93 < 120) hE.1) (hE.2 _ _) (q := 95) rfl dX0_countPart_13 (pc' := 16) rfl ?_
    refine kj_getI f_RX0_71 rfl (Nat.lt_of_lt_of_le (Nat.le_of_ble_eq_true rfl : 95 < 120) hE.1) dX0_countPart_16 (pc' := 19) rfl ?_
    refine kj_aload_n dX0_countPart_19 (pc' := 20) rfl rfl rfl ?_
    refine kj_iload_n dX0_countPart_20 (pc' := 21) rfl rfl rfl ?_
    obtain ⟨t2, ht2, hT⟩ := bind_some' hT
    refine kcVi (as := [.inl x1]) (st := [.inl (σ 95 1)]) l_RX0_95 (m_X0_oftenOf hE σ x1 ht2) rfl (Nat.lt_of_lt_of_le (Nat.le_of_ble_eq_true rfl : 93 < 120) hE.1) rfl ⟨⟨rfl, rfl⟩, Nat.le_of_ble_eq_true rfl, Nat.le_of_ble_eq_true rfl⟩ (Nat.le_of_ble_eq_true rfl) dX0_countPart_21 (pc' := 24) rfl ?_
    refine kj_isub dX0_countPart_24 (pc' := 25) rfl ?_
    have hR := Option.some.inj hT
    subst hR
    exact kj_iret rfl dX0_countPart_25 (by subst hQ; exact ⟨rfl, rfl⟩)
  · rw [if_neg c1] at hT
    refine kj_aload_n dX0_countPart_4 (pc' := 5) rfl rfl rfl ?_
    refine kj_iload_n dX0_countPart_5 (pc' := 6) rfl rfl rfl ?_
    obtain ⟨t3, ht3, hT⟩ := bind_some' hT
    refine kcVi (as := [.inl x1]) (st := []) l_RX0_95 (m_X0_oftenOf hE σ x1 ht3) rfl (Nat.lt_of_lt_of_le (Nat.le_of_ble_eq_true rfl : 93 < 120) hE.1) rfl ⟨⟨rfl, rfl⟩, Nat.le_of_ble_eq_true rfl, Nat.le_of_ble_eq_true rfl⟩ (Nat.le_of_ble_eq_true rfl) dX0_countPart_6 (pc' := 9) rfl ?_
    refine kj_goto dX0_countPart_9 (pc' := 25) rfl ?_
    have hR := Option.some.inj hT
    subst hR
    exact kj_iret rfl dX0_countPart_25 (by subst hQ; exact ⟨rfl, rfl⟩)
def X0_unionOfPart_T46 (σ : Wd) (x1 : Int32) (x2 : Int32) (x3 : Int32) : Option (Int32) :=
  ((X0_countPart σ x1 x2).bind fun t2 => (if t2 = 0 then some (-2) else some x3))
def X0_unionOfPart_J40 (rec5 : Int32 × Int32 → Option (Int32)) (y3 : Int32) (y4 : Int32) : Option (Int32) :=
  rec5 (y3, y4 + 1)
def X0_unionOfPart_B5 (σ : Wd) (x1 : Int32) (x2 : Int32) (kx5 : Int32 → Option (Int32)) (rec5 : Int32 × Int32 → Option (Int32)) : Int32 × Int32 → Option (Int32)
  | (x3, x4) => (if (σ 95 1) ≤ x4 then kx5 x3 else ((X0_isInPart σ x4 x1 x2).bind fun t5 => (if t5 = 0 then X0_unionOfPart_J40 rec5 x3 x4 else ((X4_at σ 95 x4).bind fun t8 => X0_unionOfPart_J40 rec5 (x3 ||| t8) x4))))
def X0_unionOfPart (σ : Wd) (x1 : Int32) (x2 : Int32) : Option (Int32) :=
  (lp (X0_unionOfPart_B5 σ x1 x2 (X0_unionOfPart_T46 σ x1 x2)) FU (0, 0))
set_option maxRecDepth 100000 in
set_option maxHeartbeats 4000000 in
theorem m_X0_unionOfPart {E : JE} (hE : kOk 120 E) (σ : Wd) (x1 : Int32) (x2 : Int32) {res : Int32} (hT : X0_unionOfPart σ x1 x2 = some res) : kMt E yX0_unionOfPart mX0_unionOfPart rmX0_unionOfPart [.inr 93, .inl x1, .inl x2] σ (kQi res σ) := by
  refine kMt_of (by decide +kernel) rfl (Nat.le_of_ble_eq_true rfl) ?_
  generalize hQ : (kQi res σ) = Q
  show KJ E mX0_unionOfPart rmX0_unionOfPart 0 [some (.inr 93), some (.inl x1), some (.inl x2)] [] σ Q
  unfold X0_unionOfPart at hT
  refine kj_iconst dX0_unionOfPart_0 (pc' := 1) rfl kc_0 ?_
  refine kj_istore_n dX0_unionOfPart_1 (pc' := 2) rfl rfl (Nat.le_of_ble_eq_true rfl) (ls' := [some (.inr 93), some (.inl x1), some (.inl x2), some (.inl 0)]) rfl ?_
  refine kj_iconst dX0_unionOfPart_2 (pc' := 3) rfl kc_0 ?_
  refine kj_istore dX0_unionOfPart_3 (pc' := 5) rfl (Nat.le_of_ble_eq_true rfl) (ls' := [some (.inr 93), some (.inl x1), some (.inl x2), some (.inl 0), some (.inl 0)]) rfl ?_
  have hX5 : ∀ x3, X0_unionOfPart_T46 σ x1 x2 x3 = some res → KJ E mX0_unionOfPart rmX0_unionOfPart 46 [some (.inr 93), some (.inl x1), some (.inl x2), some (.inl x3)] [] σ Q := by
    intro x3 hT
    unfold X0_unionOfPart_T46 at hT
    refine kj_aload_n dX0_unionOfPart_46 (pc' := 47) rfl rfl rfl ?_
    refine kj_iload_n dX0_unionOfPart_47 (pc' := 48) rfl rfl rfl ?_
    refine kj_iload_n dX0_unionOfPart_48 (pc' := 49) rfl rfl rfl ?_
    obtain ⟨t2, ht2, hT⟩ := bind_some' hT
    refine kcVi (as := [.inl x1, .inl x2]) (st := []) l_RX0_120 (m_X0_countPart hE σ x1 x2 ht2) rfl (Nat.lt_of_lt_of_le (Nat.le_of_ble_eq_true rfl : 93 < 120) hE.1) rfl ⟨⟨rfl, rfl⟩, Nat.le_of_ble_eq_true rfl, Nat.le_of_ble_eq_true rfl⟩ (Nat.le_of_ble_eq_true rfl) dX0_unionOfPart_49 (pc' := 52) rfl ?_
    refine kj_if_ne dX0_unionOfPart_52 (tgt := 60) rfl (pc' := 55) rfl (fun c3 => ?_) (fun c3 => ?_)
    · rw [if_neg c3] at hT
      refine kj_iload_n dX0_unionOfPart_60 (pc' := 61) rfl rfl rfl ?_
      have hR := Option.some.inj hT
      subst hR
      exact kj_iret rfl dX0_unionOfPart_61 (by subst hQ; exact ⟨rfl, rfl⟩)
    · rw [if_pos c3] at hT
      refine kj_bipush dX0_unionOfPart_55 (pc' := 57) rfl kb_m2 ?_
      refine kj_goto dX0_unionOfPart_57 (pc' := 61) rfl ?_
      have hR := Option.some.inj hT
      subst hR
      exact kj_iret rfl dX0_unionOfPart_61 (by subst hQ; exact ⟨rfl, rfl⟩)
  refine lp_ind (P := fun s => KJ E mX0_unionOfPart rmX0_unionOfPart 5 [some (.inr 93), some (.inl x1), some (.inl x2), some (.inl s.1), some (.inl s.2)] [] σ Q) (fun rec5 s ih5 hT => ?_) FU (0, 0) hT
  obtain ⟨x3, x4⟩ := s
  show KJ E mX0_unionOfPart rmX0_unionOfPart 5 [some (.inr 93), some (.inl x1), some (.inl x2), some (.inl x3), some (.inl x4)] [] σ Q
  rw [X0_unionOfPart_B5] at hT
  have hJ40_5 : ∀ y3 y4, X0_unionOfPart_J40 rec5 y3 y4 = some res → KJ E mX0_unionOfPart rmX0_unionOfPart 40 [some (.inr 93), some (.inl x1), some (.inl x2), some (.inl y3), some (.inl y4)] [] σ Q := by
    intro y3 y4 hT
    unfold X0_unionOfPart_J40 at hT
    refine kj_iinc dX0_unionOfPart_40 (pc' := 43) rfl rfl (congrArg (_ + ·) kc_1) (Nat.le_of_ble_eq_true rfl) (ls' := [some (.inr 93), some (.inl x1), some (.inl x2), some (.inl y3), some (.inl (y4 + 1))]) rfl ?_
    refine kj_goto dX0_unionOfPart_43 (pc' := 5) rfl ?_
    exact ih5 (y3, y4 + 1) hT
  refine kj_iload dX0_unionOfPart_5 (pc' := 7) rfl rfl ?_
  refine kj_aload_n dX0_unionOfPart_7 (pc' := 8) rfl rfl rfl ?_
  refine kj_getR f_RX0_20 rfl (Nat.lt_of_lt_of_le (Nat.le_of_ble_eq_true rfl : 93 < 120) hE.1) (hE.2 _ _) (q := 95) rfl dX0_unionOfPart_8 (pc' := 11) rfl ?_
  refine kj_getI f_RX0_71 rfl (Nat.lt_of_lt_of_le (Nat.le_of_ble_eq_true rfl : 95 < 120) hE.1) dX0_unionOfPart_11 (pc' := 14) rfl ?_
  refine kj_icmp_ge dX0_unionOfPart_14 (tgt := 46) rfl (pc' := 17) rfl (fun c4 => ?_) (fun c4 => ?_)
  · rw [if_pos c4] at hT
    refine kj_keep [true, true, true, true] (ls' := [some (.inr 93), some (.inl x1), some (.inl x2), some (.inl x3)]) rfl ?_
    exact hX5 x3 hT
  · rw [if_neg c4] at hT
    refine kj_aload_n dX0_unionOfPart_17 (pc' := 18) rfl rfl rfl ?_
    refine kj_iload dX0_unionOfPart_18 (pc' := 20) rfl rfl ?_
    refine kj_iload_n dX0_unionOfPart_20 (pc' := 21) rfl rfl rfl ?_
    refine kj_iload_n dX0_unionOfPart_21 (pc' := 22) rfl rfl rfl ?_
    obtain ⟨t5, ht5, hT⟩ := bind_some' hT
    refine kcVz (as := [.inl x4, .inl x1, .inl x2]) (st := []) l_RX0_116 (m_X0_isInPart hE σ x4 x1 x2 ht5) rfl (Nat.lt_of_lt_of_le (Nat.le_of_ble_eq_true rfl : 93 < 120) hE.1) rfl ⟨⟨rfl, rfl⟩, Nat.le_of_ble_eq_true rfl, Nat.le_of_ble_eq_true rfl⟩ (Nat.le_of_ble_eq_true rfl) dX0_unionOfPart_22 (pc' := 25) rfl (fun z6 => ?_)
    refine kj_if_eq dX0_unionOfPart_25 (tgt := 40) rfl (pc' := 28) rfl (fun c7 => ?_) (fun c7 => ?_)
    · rw [if_pos c7] at hT
      exact hJ40_5 x3 x4 hT
    · rw [if_neg c7] at hT
      refine kj_iload_n dX0_unionOfPart_28 (pc' := 29) rfl rfl rfl ?_
      refine kj_aload_n dX0_unionOfPart_29 (pc' := 30) rfl rfl rfl ?_
      refine kj_getR f_RX0_20 rfl (Nat.lt_of_lt_of_le (Nat.le_of_ble_eq_true rfl : 93 < 120) hE.1) (hE.2 _ _) (q := 95) rfl dX0_unionOfPart_30 (pc' := 33) rfl ?_
      refine kj_iload dX0_unionOfPart_33 (pc' := 35) rfl rfl ?_
      obtain ⟨t8, ht8, hT⟩ := bind_some' hT
      refine kcVi (as := [.inl x4]) (st := [.inl x3]) l_RX0_74 (m_X4_at hE rfl σ x4 ht8) rfl (Nat.lt_of_lt_of_le (Nat.le_of_ble_eq_true rfl : 95 < 120) hE.1) rfl ⟨⟨rfl, rfl⟩, Nat.le_of_ble_eq_true rfl, Nat.le_of_ble_eq_true rfl⟩ (Nat.le_of_ble_eq_true rfl) dX0_unionOfPart_35 (pc' := 38) rfl ?_
      refine kj_ior dX0_unionOfPart_38 (pc' := 39) rfl ?_
      refine kj_istore_n dX0_unionOfPart_39 (pc' := 40) rfl rfl (Nat.le_of_ble_eq_true rfl) (ls' := [some (.inr 93), some (.inl x1), some (.inl x2), some (.inl (x3 ||| t8)), some (.inl x4)]) rfl ?_
      exact hJ40_5 (x3 ||| t8) x4 hT
def X0_commonOfPart_T49 (σ : Wd) (x1 : Int32) (x2 : Int32) (x3 : Int32) : Option (Int32) :=
  ((X0_countPart σ x1 x2).bind fun t2 => (if t2 = 0 then some (-2) else some x3))
def X0_commonOfPart_J43 (rec8 : Int32 × Int32 → Option (Int32)) (y3 : Int32) (y4 : Int32) : Option (Int32) :=
  rec8 (y3, y4 + 1)
def X0_commonOfPart_B8 (σ : Wd) (x1 : Int32) (x2 : Int32) (kx8 : Int32 → Option (Int32)) (rec8 : Int32 × Int32 → Option (Int32)) : Int32 × Int32 → Option (Int32)
  | (x3, x4) => (if (σ 95 1) ≤ x4 then kx8 x3 else ((X0_isInPart σ x4 x1 x2).bind fun t5 => (if t5 = 0 then X0_commonOfPart_J43 rec8 x3 x4 else ((X4_at σ 95 x4).bind fun t8 => X0_commonOfPart_J43 rec8 (x3 &&& t8) x4))))
def X0_commonOfPart (σ : Wd) (x1 : Int32) (x2 : Int32) : Option (Int32) :=
  (lp (X0_commonOfPart_B8 σ x1 x2 (X0_commonOfPart_T49 σ x1 x2)) FU (X0_allPoints σ, 0))
set_option maxRecDepth 100000 in
set_option maxHeartbeats 4000000 in
theorem m_X0_commonOfPart {E : JE} (hE : kOk 120 E) (σ : Wd) (x1 : Int32) (x2 : Int32) {res : Int32} (hT : X0_commonOfPart σ x1 x2 = some res) : kMt E yX0_commonOfPart mX0_commonOfPart rmX0_commonOfPart [.inr 93, .inl x1, .inl x2] σ (kQi res σ) := by
  refine kMt_of (by decide +kernel) rfl (Nat.le_of_ble_eq_true rfl) ?_
  generalize hQ : (kQi res σ) = Q
  show KJ E mX0_commonOfPart rmX0_commonOfPart 0 [some (.inr 93), some (.inl x1), some (.inl x2)] [] σ Q
  unfold X0_commonOfPart at hT
  refine kj_aload_n dX0_commonOfPart_0 (pc' := 1) rfl rfl rfl ?_
  refine kcVi (as := []) (st := []) l_RX0_113 (m_X0_allPoints hE σ rfl) rfl (Nat.lt_of_lt_of_le (Nat.le_of_ble_eq_true rfl : 93 < 120) hE.1) rfl ⟨⟨rfl, rfl⟩, Nat.le_of_ble_eq_true rfl, Nat.le_of_ble_eq_true rfl⟩ (Nat.le_of_ble_eq_true rfl) dX0_commonOfPart_1 (pc' := 4) rfl ?_
  refine kj_istore_n dX0_commonOfPart_4 (pc' := 5) rfl rfl (Nat.le_of_ble_eq_true rfl) (ls' := [some (.inr 93), some (.inl x1), some (.inl x2), some (.inl (X0_allPoints σ))]) rfl ?_
  refine kj_iconst dX0_commonOfPart_5 (pc' := 6) rfl kc_0 ?_
  refine kj_istore dX0_commonOfPart_6 (pc' := 8) rfl (Nat.le_of_ble_eq_true rfl) (ls' := [some (.inr 93), some (.inl x1), some (.inl x2), some (.inl (X0_allPoints σ)), some (.inl 0)]) rfl ?_
  have hX8 : ∀ x3, X0_commonOfPart_T49 σ x1 x2 x3 = some res → KJ E mX0_commonOfPart rmX0_commonOfPart 49 [some (.inr 93), some (.inl x1), some (.inl x2), some (.inl x3)] [] σ Q := by
    intro x3 hT
    unfold X0_commonOfPart_T49 at hT
    refine kj_aload_n dX0_commonOfPart_49 (pc' := 50) rfl rfl rfl ?_
    refine kj_iload_n dX0_commonOfPart_50 (pc' := 51) rfl rfl rfl ?_
    refine kj_iload_n dX0_commonOfPart_51 (pc' := 52) rfl rfl rfl ?_
    obtain ⟨t2, ht2, hT⟩ := bind_some' hT
    refine kcVi (as := [.inl x1, .inl x2]) (st := []) l_RX0_120 (m_X0_countPart hE σ x1 x2 ht2) rfl (Nat.lt_of_lt_of_le (Nat.le_of_ble_eq_true rfl : 93 < 120) hE.1) rfl ⟨⟨rfl, rfl⟩, Nat.le_of_ble_eq_true rfl, Nat.le_of_ble_eq_true rfl⟩ (Nat.le_of_ble_eq_true rfl) dX0_commonOfPart_52 (pc' := 55) rfl ?_
    refine kj_if_ne dX0_commonOfPart_55 (tgt := 63) rfl (pc' := 58) rfl (fun c3 => ?_) (fun c3 => ?_)
    · rw [if_neg c3] at hT
      refine kj_iload_n dX0_commonOfPart_63 (pc' := 64) rfl rfl rfl ?_
      have hR := Option.some.inj hT
      subst hR
      exact kj_iret rfl dX0_commonOfPart_64 (by subst hQ; exact ⟨rfl, rfl⟩)
    · rw [if_pos c3] at hT
      refine kj_bipush dX0_commonOfPart_58 (pc' := 60) rfl kb_m2 ?_
      refine kj_goto dX0_commonOfPart_60 (pc' := 64) rfl ?_
      have hR := Option.some.inj hT
      subst hR
      exact kj_iret rfl dX0_commonOfPart_64 (by subst hQ; exact ⟨rfl, rfl⟩)
  refine lp_ind (P := fun s => KJ E mX0_commonOfPart rmX0_commonOfPart 8 [some (.inr 93), some (.inl x1), some (.inl x2), some (.inl s.1), some (.inl s.2)] [] σ Q) (fun rec8 s ih8 hT => ?_) FU (X0_allPoints σ, 0) hT
  obtain ⟨x3, x4⟩ := s
  show KJ E mX0_commonOfPart rmX0_commonOfPart 8 [some (.inr 93), some (.inl x1), some (.inl x2), some (.inl x3), some (.inl x4)] [] σ Q
  rw [X0_commonOfPart_B8] at hT
  have hJ43_8 : ∀ y3 y4, X0_commonOfPart_J43 rec8 y3 y4 = some res → KJ E mX0_commonOfPart rmX0_commonOfPart 43 [some (.inr 93), some (.inl x1), some (.inl x2), some (.inl y3), some (.inl y4)] [] σ Q := by
    intro y3 y4 hT
    unfold X0_commonOfPart_J43 at hT
    refine kj_iinc dX0_commonOfPart_43 (pc' := 46) rfl rfl (congrArg (_ + ·) kc_1) (Nat.le_of_ble_eq_true rfl) (ls' := [some (.inr 93), some (.inl x1), some (.inl x2), some (.inl y3), some (.inl (y4 + 1))]) rfl ?_
    refine kj_goto dX0_commonOfPart_46 (pc' := 8) rfl ?_
    exact ih8 (y3, y4 + 1) hT
  refine kj_iload dX0_commonOfPart_8 (pc' := 10) rfl rfl ?_
  refine kj_aload_n dX0_commonOfPart_10 (pc' := 11) rfl rfl rfl ?_
  refine kj_getR f_RX0_20 rfl (Nat.lt_of_lt_of_le (Nat.le_of_ble_eq_true rfl : 93 < 120) hE.1) (hE.2 _ _) (q := 95) rfl dX0_commonOfPart_11 (pc' := 14) rfl ?_
  refine kj_getI f_RX0_71 rfl (Nat.lt_of_lt_of_le (Nat.le_of_ble_eq_true rfl : 95 < 120) hE.1) dX0_commonOfPart_14 (pc' := 17) rfl ?_
  refine kj_icmp_ge dX0_commonOfPart_17 (tgt := 49) rfl (pc' := 20) rfl (fun c4 => ?_) (fun c4 => ?_)
  · rw [if_pos c4] at hT
    refine kj_keep [true, true, true, true] (ls' := [some (.inr 93), some (.inl x1), some (.inl x2), some (.inl x3)]) rfl ?_
    exact hX8 x3 hT
  · rw [if_neg c4] at hT
    refine kj_aload_n dX0_commonOfPart_20 (pc' := 21) rfl rfl rfl ?_
    refine kj_iload dX0_commonOfPart_21 (pc' := 23) rfl rfl ?_
    refine kj_iload_n dX0_commonOfPart_23 (pc' := 24) rfl rfl rfl ?_
    refine kj_iload_n dX0_commonOfPart_24 (pc' := 25) rfl rfl rfl ?_
    obtain ⟨t5, ht5, hT⟩ := bind_some' hT
    refine kcVz (as := [.inl x4, .inl x1, .inl x2]) (st := []) l_RX0_116 (m_X0_isInPart hE σ x4 x1 x2 ht5) rfl (Nat.lt_of_lt_of_le (Nat.le_of_ble_eq_true rfl : 93 < 120) hE.1) rfl ⟨⟨rfl, rfl⟩, Nat.le_of_ble_eq_true rfl, Nat.le_of_ble_eq_true rfl⟩ (Nat.le_of_ble_eq_true rfl) dX0_commonOfPart_25 (pc' := 28) rfl (fun z6 => ?_)
    refine kj_if_eq dX0_commonOfPart_28 (tgt := 43) rfl (pc' := 31) rfl (fun c7 => ?_) (fun c7 => ?_)
    · rw [if_pos c7] at hT
      exact hJ43_8 x3 x4 hT
    · rw [if_neg c7] at hT
      refine kj_iload_n dX0_commonOfPart_31 (pc' := 32) rfl rfl rfl ?_
      refine kj_aload_n dX0_commonOfPart_32 (pc' := 33) rfl rfl rfl ?_
      refine kj_getR f_RX0_20 rfl (Nat.lt_of_lt_of_le (Nat.le_of_ble_eq_true rfl : 93 < 120) hE.1) (hE.2 _ _) (q := 95) rfl dX0_commonOfPart_33 (pc' := 36) rfl ?_
      refine kj_iload dX0_commonOfPart_36 (pc' := 38) rfl rfl ?_
      obtain ⟨t8, ht8, hT⟩ := bind_some' hT
      refine kcVi (as := [.inl x4]) (st := [.inl x3]) l_RX0_74 (m_X4_at hE rfl σ x4 ht8) rfl (Nat.lt_of_lt_of_le (Nat.le_of_ble_eq_true rfl : 95 < 120) hE.1) rfl ⟨⟨rfl, rfl⟩, Nat.le_of_ble_eq_true rfl, Nat.le_of_ble_eq_true rfl⟩ (Nat.le_of_ble_eq_true rfl) dX0_commonOfPart_38 (pc' := 41) rfl ?_
      refine kj_iand dX0_commonOfPart_41 (pc' := 42) rfl ?_
      refine kj_istore_n dX0_commonOfPart_42 (pc' := 43) rfl rfl (Nat.le_of_ble_eq_true rfl) (ls' := [some (.inr 93), some (.inl x1), some (.inl x2), some (.inl (x3 &&& t8)), some (.inl x4)]) rfl ?_
      exact hJ43_8 (x3 &&& t8) x4 hT
def X0_isPartClosed_T102 (rec2 : Int32 → Option (Int32)) (x3 : Int32) : Option (Int32) :=
  rec2 (x3 + 1)
def X0_isPartClosed_J96 (rec18 : Int32 → Option (Int32)) (y4 : Int32) : Option (Int32) :=
  rec18 (y4 + 1)
def X0_isPartClosed_J58 (rec18 : Int32 → Option (Int32)) (σ : Wd) (x3 : Int32) (x1 : Int32) (x2 : Int32) (y4 : Int32) (y5 : Int32) : Option (Int32) :=
  (if y5 = 0 then X0_isPartClosed_J96 rec18 y4 else ((X4_at σ 95 x3).bind fun t9 => ((X4_at σ 95 y4).bind fun t10 => ((X0_numberOf σ (t9 ||| t10)).bind fun t11 => ((X0_isInPart σ t11 x1 x2).bind fun t12 => (if t12 = 0 then some 0 else X0_isPartClosed_J96 rec18 y4))))))
def X0_isPartClosed_J55 (rec18 : Int32 → Option (Int32)) (σ : Wd) (x3 : Int32) (x1 : Int32) (x2 : Int32) (y4 : Int32) : Option (Int32) :=
  X0_isPartClosed_J58 rec18 σ x3 x1 x2 y4 0
def X0_isPartClosed_B18 (σ : Wd) (x3 : Int32) (x1 : Int32) (x2 : Int32) (kx18 : Option (Int32)) (rec18 : Int32 → Option (Int32)) : Int32 → Option (Int32)
  | (x4) => (if (σ 95 1) ≤ x4 then kx18 else ((X0_isInPart σ x3 x1 x2).bind fun t5 => (if t5 = 0 then X0_isPartClosed_J55 rec18 σ x3 x1 x2 x4 else ((X0_isInPart σ x4 x1 x2).bind fun t15 => (if t15 = 0 then X0_isPartClosed_J55 rec18 σ x3 x1 x2 x4 else X0_isPartClosed_J58 rec18 σ x3 x1 x2 x4 1)))))
def X0_isPartClosed_B2 (σ : Wd) (x1 : Int32) (x2 : Int32) (rec2 : Int32 → Option (Int32)) : Int32 → Option (Int32)
  | (x3) => (if (σ 95 1) ≤ x3 then some 1 else (lp (X0_isPartClosed_B18 σ x3 x1 x2 (X0_isPartClosed_T102 rec2 x3)) FU (x3 + 1)))
def X0_isPartClosed (σ : Wd) (x1 : Int32) (x2 : Int32) : Option (Int32) :=
  (lp (X0_isPartClosed_B2 σ x1 x2) FU (0))
set_option maxRecDepth 100000 in
set_option maxHeartbeats 4000000 in
theorem m_X0_isPartClosed {E : JE} (hE : kOk 120 E) (σ : Wd) (x1 : Int32) (x2 : Int32) {res : Int32} (hT : X0_isPartClosed σ x1 x2 = some res) : kMt E yX0_isPartClosed mX0_isPartClosed rmX0_isPartClosed [.inr 93, .inl x1, .inl x2] σ (kQz res σ) := by
  refine kMt_of (by decide +kernel) rfl (Nat.le_of_ble_eq_true rfl) ?_
  generalize hQ : (kQz res σ) = Q
  show KJ E mX0_isPartClosed rmX0_isPartClosed 0 [some (.inr 93), some (.inl x1), some (.inl x2)] [] σ Q
  unfold X0_isPartClosed at hT
  refine kj_iconst dX0_isPartClosed_0 (pc' := 1) rfl kc_0 ?_
  refine kj_istore_n dX0_isPartClosed_1 (pc' := 2) rfl rfl (Nat.le_of_ble_eq_true rfl) (ls' := [some (.inr 93), some (.inl x1), some (.inl x2), some (.inl 0)]) rfl ?_
  refine lp_ind (P := fun s => KJ E mX0_isPartClosed rmX0_isPartClosed 2 [some (.inr 93), some (.inl x1), some (.inl x2), some (.inl s)] [] σ Q) (fun rec2 s ih2 hT => ?_) FU (0) hT
  obtain ⟨x3, hs⟩ : ∃ z, z = s := ⟨_, rfl⟩
  subst hs
  show KJ E mX0_isPartClosed rmX0_isPartClosed 2 [some (.inr 93), some (.inl x1), some (.inl x2), some (.inl x3)] [] σ Q
  rw [X0_isPartClosed_B2] at hT
  refine kj_iload_n dX0_isPartClosed_2 (pc' := 3) rfl rfl rfl ?_
  refine kj_aload_n dX0_isPartClosed_3 (pc' := 4) rfl rfl rfl ?_
  refine kj_getR f_RX0_20 rfl (Nat.lt_of_lt_of_le (Nat.le_of_ble_eq_true rfl : 93 < 120) hE.1) (hE.2 _ _) (q := 95) rfl dX0_isPartClosed_4 (pc' := 7) rfl ?_
  refine kj_getI f_RX0_71 rfl (Nat.lt_of_lt_of_le (Nat.le_of_ble_eq_true rfl : 95 < 120) hE.1) dX0_isPartClosed_7 (pc' := 10) rfl ?_
  refine kj_icmp_ge dX0_isPartClosed_10 (tgt := 108) rfl (pc' := 13) rfl (fun c2 => ?_) (fun c2 => ?_)
  · rw [if_pos c2] at hT
    refine kj_iconst dX0_isPartClosed_108 (pc' := 109) rfl kc_1 ?_
    have hR := Option.some.inj hT
    subst hR
    exact kj_zret rfl (Or.inr rfl) dX0_isPartClosed_109 (by subst hQ; exact ⟨rfl, rfl, (Or.inr rfl)⟩)
  · rw [if_neg c2] at hT
    refine kj_iload_n dX0_isPartClosed_13 (pc' := 14) rfl rfl rfl ?_
    refine kj_iconst dX0_isPartClosed_14 (pc' := 15) rfl kc_1 ?_
    refine kj_iadd dX0_isPartClosed_15 (pc' := 16) rfl ?_
    refine kj_istore dX0_isPartClosed_16 (pc' := 18) rfl (Nat.le_of_ble_eq_true rfl) (ls' := [some (.inr 93), some (.inl x1), some (.inl x2), some (.inl x3), some (.inl (x3 + 1))]) rfl ?_
    have hX18 : ∀ (_ : Unit), X0_isPartClosed_T102 rec2 x3 = some res → KJ E mX0_isPartClosed rmX0_isPartClosed 102 [some (.inr 93), some (.inl x1), some (.inl x2), some (.inl x3)] [] σ Q := by
      intro _ hT
      unfold X0_isPartClosed_T102 at hT
      refine kj_iinc dX0_isPartClosed_102 (pc' := 105) rfl rfl (congrArg (_ + ·) kc_1) (Nat.le_of_ble_eq_true rfl) (ls' := [some (.inr 93), some (.inl x1), some (.inl x2), some (.inl (x3 + 1))]) rfl ?_
      refine kj_goto dX0_isPartClosed_105 (pc' := 2) rfl ?_
      exact ih2 (x3 + 1) hT
    refine lp_ind (P := fun s => KJ E mX0_isPartClosed rmX0_isPartClosed 18 [some (.inr 93), some (.inl x1), some (.inl x2), some (.inl x3), some (.inl s)] [] σ Q) (fun rec18 s ih18 hT => ?_) FU (x3 + 1) hT
    obtain ⟨x4, hs⟩ : ∃ z, z = s := ⟨_, rfl⟩
    subst hs
    show KJ E mX0_isPartClosed rmX0_isPartClosed 18 [some (.inr 93), some (.inl x1), some (.inl x2), some (.inl x3), some (.inl x4)] [] σ Q
    rw [X0_isPartClosed_B18] at hT
    have hJ96_2_18 : ∀ y4, X0_isPartClosed_J96 rec18 y4 = some res → KJ E mX0_isPartClosed rmX0_isPartClosed 96 [some (.inr 93), some (.inl x1), some (.inl x2), some (.inl x3), some (.inl y4)] [] σ Q := by
      intro y4 hT
      unfold X0_isPartClosed_J96 at hT
      refine kj_iinc dX0_isPartClosed_96 (pc' := 99) rfl rfl (congrArg (_ + ·) kc_1) (Nat.le_of_ble_eq_true rfl) (ls' := [some (.inr 93), some (.inl x1), some (.inl x2), some (.inl x3), some (.inl (y4 + 1))]) rfl ?_
      refine kj_goto dX0_isPartClosed_99 (pc' := 18) rfl ?_
      exact ih18 (y4 + 1) hT
    have hJ58_2_18 : ∀ y4 y5, X0_isPartClosed_J58 rec18 σ x3 x1 x2 y4 y5 = some res → KJ E mX0_isPartClosed rmX0_isPartClosed 58 [some (.inr 93), some (.inl x1), some (.inl x2), some (.inl x3), some (.inl y4), some (.inl y5)] [] σ Q := by
      intro y4 y5 hT
      unfold X0_isPartClosed_J58 at hT
      refine kj_iload dX0_isPartClosed_58 (pc' := 60) rfl rfl ?_
      refine kj_if_eq dX0_isPartClosed_60 (tgt := 96) rfl (pc' := 63) rfl (fun c8 => ?_) (fun c8 => ?_)
      · rw [if_pos c8] at hT
        refine kj_keep [true, true, true, true, true] (ls' := [some (.inr 93), some (.inl x1), some (.inl x2), some (.inl x3), some (.inl y4)]) rfl ?_
        exact hJ96_2_18 y4 hT
      · rw [if_neg c8] at hT
        refine kj_aload_n dX0_isPartClosed_63 (pc' := 64) rfl rfl rfl ?_
        refine kj_aload_n dX0_isPartClosed_64 (pc' := 65) rfl rfl rfl ?_
        refine kj_aload_n dX0_isPartClosed_65 (pc' := 66) rfl rfl rfl ?_
        refine kj_getR f_RX0_20 rfl (Nat.lt_of_lt_of_le (Nat.le_of_ble_eq_true rfl : 93 < 120) hE.1) (hE.2 _ _) (q := 95) rfl dX0_isPartClosed_66 (pc' := 69) rfl ?_
        refine kj_iload_n dX0_isPartClosed_69 (pc' := 70) rfl rfl rfl ?_
        obtain ⟨t9, ht9, hT⟩ := bind_some' hT
        refine kcVi (as := [.inl x3]) (st := [.inr 93, .inr 93]) l_RX0_74 (m_X4_at hE rfl σ x3 ht9) rfl (Nat.lt_of_lt_of_le (Nat.le_of_ble_eq_true rfl : 95 < 120) hE.1) rfl ⟨⟨rfl, rfl⟩, Nat.le_of_ble_eq_true rfl, Nat.le_of_ble_eq_true rfl⟩ (Nat.le_of_ble_eq_true rfl) dX0_isPartClosed_70 (pc' := 73) rfl ?_
        refine kj_aload_n dX0_isPartClosed_73 (pc' := 74) rfl rfl rfl ?_
        refine kj_getR f_RX0_20 rfl (Nat.lt_of_lt_of_le (Nat.le_of_ble_eq_true rfl : 93 < 120) hE.1) (hE.2 _ _) (q := 95) rfl dX0_isPartClosed_74 (pc' := 77) rfl ?_
        refine kj_iload dX0_isPartClosed_77 (pc' := 79) rfl rfl ?_
        obtain ⟨t10, ht10, hT⟩ := bind_some' hT
        refine kcVi (as := [.inl y4]) (st := [.inl t9, .inr 93, .inr 93]) l_RX0_74 (m_X4_at hE rfl σ y4 ht10) rfl (Nat.lt_of_lt_of_le (Nat.le_of_ble_eq_true rfl : 95 < 120) hE.1) rfl ⟨⟨rfl, rfl⟩, Nat.le_of_ble_eq_true rfl, Nat.le_of_ble_eq_true rfl⟩ (Nat.le_of_ble_eq_true rfl) dX0_isPartClosed_79 (pc' := 82) rfl ?_
        refine kj_ior dX0_isPartClosed_82 (pc' := 83) rfl ?_
        obtain ⟨t11, ht11, hT⟩ := bind_some' hT
        refine kcVi (as := [.inl (t9 ||| t10)]) (st := [.inr 93]) l_RX0_86 (m_X0_numberOf hE σ (t9 ||| t10) ht11) rfl (Nat.lt_of_lt_of_le (Nat.le_of_ble_eq_true rfl : 93 < 120) hE.1) rfl ⟨⟨rfl, rfl⟩, Nat.le_of_ble_eq_true rfl, Nat.le_of_ble_eq_true rfl⟩ (Nat.le_of_ble_eq_true rfl) dX0_isPartClosed_83 (pc' := 86) rfl ?_
        refine kj_iload_n dX0_isPartClosed_86 (pc' := 87) rfl rfl rfl ?_
        refine kj_iload_n dX0_isPartClosed_87 (pc' := 88) rfl rfl rfl ?_
        obtain ⟨t12, ht12, hT⟩ := bind_some' hT
        refine kcVz (as := [.inl t11, .inl x1, .inl x2]) (st := []) l_RX0_116 (m_X0_isInPart hE σ t11 x1 x2 ht12) rfl (Nat.lt_of_lt_of_le (Nat.le_of_ble_eq_true rfl : 93 < 120) hE.1) rfl ⟨⟨rfl, rfl⟩, Nat.le_of_ble_eq_true rfl, Nat.le_of_ble_eq_true rfl⟩ (Nat.le_of_ble_eq_true rfl) dX0_isPartClosed_88 (pc' := 91) rfl (fun z13 => ?_)
        refine kj_if_ne dX0_isPartClosed_91 (tgt := 96) rfl (pc' := 94) rfl (fun c14 => ?_) (fun c14 => ?_)
        · rw [if_neg c14] at hT
          refine kj_keep [true, true, true, true, true] (ls' := [some (.inr 93), some (.inl x1), some (.inl x2), some (.inl x3), some (.inl y4)]) rfl ?_
          exact hJ96_2_18 y4 hT
        · rw [if_pos c14] at hT
          refine kj_iconst dX0_isPartClosed_94 (pc' := 95) rfl kc_0 ?_
          have hR := Option.some.inj hT
          subst hR
          exact kj_zret rfl (Or.inl rfl) dX0_isPartClosed_95 (by subst hQ; exact ⟨rfl, rfl, (Or.inl rfl)⟩)
    have hJ55_2_18 : ∀ y4, X0_isPartClosed_J55 rec18 σ x3 x1 x2 y4 = some res → KJ E mX0_isPartClosed rmX0_isPartClosed 55 [some (.inr 93), some (.inl x1), some (.inl x2), some (.inl x3), some (.inl y4)] [] σ Q := by
      intro y4 hT
      unfold X0_isPartClosed_J55 at hT
      refine kj_iconst dX0_isPartClosed_55 (pc' := 56) rfl kc_0 ?_
      refine kj_istore dX0_isPartClosed_56 (pc' := 58) rfl (Nat.le_of_ble_eq_true rfl) (ls' := [some (.inr 93), some (.inl x1), some (.inl x2), some (.inl x3), some (.inl y4), some (.inl 0)]) rfl ?_
      exact hJ58_2_18 y4 0 hT
    refine kj_iload dX0_isPartClosed_18 (pc' := 20) rfl rfl ?_
    refine kj_aload_n dX0_isPartClosed_20 (pc' := 21) rfl rfl rfl ?_
    refine kj_getR f_RX0_20 rfl (Nat.lt_of_lt_of_le (Nat.le_of_ble_eq_true rfl : 93 < 120) hE.1) (hE.2 _ _) (q := 95) rfl dX0_isPartClosed_21 (pc' := 24) rfl ?_
    refine kj_getI f_RX0_71 rfl (Nat.lt_of_lt_of_le (Nat.le_of_ble_eq_true rfl : 95 < 120) hE.1) dX0_isPartClosed_24 (pc' := 27) rfl ?_
    refine kj_icmp_ge dX0_isPartClosed_27 (tgt := 102) rfl (pc' := 30) rfl (fun c4 => ?_) (fun c4 => ?_)
    · rw [if_pos c4] at hT
      refine kj_keep [true, true, true, true] (ls' := [some (.inr 93), some (.inl x1), some (.inl x2), some (.inl x3)]) rfl ?_
      exact hX18 () hT
    · rw [if_neg c4] at hT
      refine kj_aload_n dX0_isPartClosed_30 (pc' := 31) rfl rfl rfl ?_
      refine kj_iload_n dX0_isPartClosed_31 (pc' := 32) rfl rfl rfl ?_
      refine kj_iload_n dX0_isPartClosed_32 (pc' := 33) rfl rfl rfl ?_
      refine kj_iload_n dX0_isPartClosed_33 (pc' := 34) rfl rfl rfl ?_
      obtain ⟨t5, ht5, hT⟩ := bind_some' hT
      refine kcVz (as := [.inl x3, .inl x1, .inl x2]) (st := []) l_RX0_116 (m_X0_isInPart hE σ x3 x1 x2 ht5) rfl (Nat.lt_of_lt_of_le (Nat.le_of_ble_eq_true rfl : 93 < 120) hE.1) rfl ⟨⟨rfl, rfl⟩, Nat.le_of_ble_eq_true rfl, Nat.le_of_ble_eq_true rfl⟩ (Nat.le_of_ble_eq_true rfl) dX0_isPartClosed_34 (pc' := 37) rfl (fun z6 => ?_)
      refine kj_if_eq dX0_isPartClosed_37 (tgt := 55) rfl (pc' := 40) rfl (fun c7 => ?_) (fun c7 => ?_)
      · rw [if_pos c7] at hT
        exact hJ55_2_18 x4 hT
      · rw [if_neg c7] at hT
        refine kj_aload_n dX0_isPartClosed_40 (pc' := 41) rfl rfl rfl ?_
        refine kj_iload dX0_isPartClosed_41 (pc' := 43) rfl rfl ?_
        refine kj_iload_n dX0_isPartClosed_43 (pc' := 44) rfl rfl rfl ?_
        refine kj_iload_n dX0_isPartClosed_44 (pc' := 45) rfl rfl rfl ?_
        obtain ⟨t15, ht15, hT⟩ := bind_some' hT
        refine kcVz (as := [.inl x4, .inl x1, .inl x2]) (st := []) l_RX0_116 (m_X0_isInPart hE σ x4 x1 x2 ht15) rfl (Nat.lt_of_lt_of_le (Nat.le_of_ble_eq_true rfl : 93 < 120) hE.1) rfl ⟨⟨rfl, rfl⟩, Nat.le_of_ble_eq_true rfl, Nat.le_of_ble_eq_true rfl⟩ (Nat.le_of_ble_eq_true rfl) dX0_isPartClosed_45 (pc' := 48) rfl (fun z16 => ?_)
        refine kj_if_eq dX0_isPartClosed_48 (tgt := 55) rfl (pc' := 51) rfl (fun c17 => ?_) (fun c17 => ?_)
        · rw [if_pos c17] at hT
          exact hJ55_2_18 x4 hT
        · rw [if_neg c17] at hT
          refine kj_iconst dX0_isPartClosed_51 (pc' := 52) rfl kc_1 ?_
          refine kj_goto dX0_isPartClosed_52 (pc' := 56) rfl ?_
          refine kj_istore dX0_isPartClosed_56 (pc' := 58) rfl (Nat.le_of_ble_eq_true rfl) (ls' := [some (.inr 93), some (.inl x1), some (.inl x2), some (.inl x3), some (.inl x4), some (.inl 1)]) rfl ?_
          exact hJ58_2_18 x4 1 hT
def X0_isCover_J77 (rec16 : Int32 → Option (Int32)) (y3 : Int32) : Option (Int32) :=
  rec16 (y3 + 1)
def X0_isCover_J62 (rec16 : Int32 → Option (Int32)) (x2 : Int32) (x1 : Int32) (y3 : Int32) (y4 : Int32) (y5 : Int32) : Option (Int32) :=
  (if y5 = 0 then X0_isCover_J77 rec16 y3 else (if (x2 ||| y4) = x1 then X0_isCover_J77 rec16 y3 else some 0))
def X0_isCover_J59 (rec16 : Int32 → Option (Int32)) (x2 : Int32) (x1 : Int32) (y3 : Int32) (y4 : Int32) : Option (Int32) :=
  X0_isCover_J62 rec16 x2 x1 y3 y4 0
def X0_isCover_B16 (σ : Wd) (x1 : Int32) (x2 : Int32) (rec16 : Int32 → Option (Int32)) : Int32 → Option (Int32)
  | (x3) => (if (σ 97 1) ≤ x3 then some 1 else ((X4_at σ 97 x3).bind fun t5 => (if (t5 &&& (x1 ^^^ (-1))) = 0 then (if (t5 &&& (x2 ^^^ (-1))) = 0 then X0_isCover_J59 rec16 x2 x1 x3 t5 else X0_isCover_J62 rec16 x2 x1 x3 t5 1) else X0_isCover_J59 rec16 x2 x1 x3 t5)))
def X0_isCover (σ : Wd) (x1 : Int32) (x2 : Int32) : Option (Int32) :=
  (if x1 = x2 then some 0 else (if (x1 &&& x2) = x2 then (lp (X0_isCover_B16 σ x1 x2) FU (0)) else some 0))
set_option maxRecDepth 100000 in
set_option maxHeartbeats 4000000 in
theorem m_X0_isCover {E : JE} (hE : kOk 120 E) (σ : Wd) (x1 : Int32) (x2 : Int32) {res : Int32} (hT : X0_isCover σ x1 x2 = some res) : kMt E yX0_isCover mX0_isCover rmX0_isCover [.inr 93, .inl x1, .inl x2] σ (kQz res σ) := by
  refine kMt_of (by decide +kernel) rfl (Nat.le_of_ble_eq_true rfl) ?_
  generalize hQ : (kQz res σ) = Q
  show KJ E mX0_isCover rmX0_isCover 0 [some (.inr 93), some (.inl x1), some (.inl x2)] [] σ Q
  unfold X0_isCover at hT
  refine kj_iload_n dX0_isCover_0 (pc' := 1) rfl rfl rfl ?_
  refine kj_iload_n dX0_isCover_1 (pc' := 2) rfl rfl rfl ?_
  refine kj_icmp_eq dX0_isCover_2 (tgt := 12) rfl (pc' := 5) rfl (fun c1 => ?_) (fun c1 => ?_)
  · rw [if_pos c1] at hT
    refine kj_iconst dX0_isCover_12 (pc' := 13) rfl kc_0 ?_
    have hR := Option.some.inj hT
    subst hR
    exact kj_zret rfl (Or.inl rfl) dX0_isCover_13 (by subst hQ; exact ⟨rfl, rfl, (Or.inl rfl)⟩)
  · rw [if_neg c1] at hT
    refine kj_iload_n dX0_isCover_5 (pc' := 6) rfl rfl rfl ?_
    refine kj_iload_n dX0_isCover_6 (pc' := 7) rfl rfl rfl ?_
    refine kj_iand dX0_isCover_7 (pc' := 8) rfl ?_
    refine kj_iload_n dX0_isCover_8 (pc' := 9) rfl rfl rfl ?_
    refine kj_icmp_eq dX0_isCover_9 (tgt := 14) rfl (pc' := 12) rfl (fun c2 => ?_) (fun c2 => ?_)
    · rw [if_pos c2] at hT
      refine kj_iconst dX0_isCover_14 (pc' := 15) rfl kc_0 ?_
      refine kj_istore_n dX0_isCover_15 (pc' := 16) rfl rfl (Nat.le_of_ble_eq_true rfl) (ls' := [some (.inr 93), some (.inl x1), some (.inl x2), some (.inl 0)]) rfl ?_
      refine lp_ind (P := fun s => KJ E mX0_isCover rmX0_isCover 16 [some (.inr 93), some (.inl x1), some (.inl x2), some (.inl s)] [] σ Q) (fun rec16 s ih16 hT => ?_) FU (0) hT
      obtain ⟨x3, hs⟩ : ∃ z, z = s := ⟨_, rfl⟩
      subst hs
      show KJ E mX0_isCover rmX0_isCover 16 [some (.inr 93), some (.inl x1), some (.inl x2), some (.inl x3)] [] σ Q
      rw [X0_isCover_B16] at hT
      have hJ77_16 : ∀ y3, X0_isCover_J77 rec16 y3 = some res → KJ E mX0_isCover rmX0_isCover 77 [some (.inr 93), some (.inl x1), some (.inl x2), some (.inl y3)] [] σ Q := by
        intro y3 hT
        unfold X0_isCover_J77 at hT
        refine kj_iinc dX0_isCover_77 (pc' := 80) rfl rfl (congrArg (_ + ·) kc_1) (Nat.le_of_ble_eq_true rfl) (ls' := [some (.inr 93), some (.inl x1), some (.inl x2), some (.inl (y3 + 1))]) rfl ?_
        refine kj_goto dX0_isCover_80 (pc' := 16) rfl ?_
        exact ih16 (y3 + 1) hT
      have hJ62_16 : ∀ y3 y4 y5, X0_isCover_J62 rec16 x2 x1 y3 y4 y5 = some res → KJ E mX0_isCover rmX0_isCover 62 [some (.inr 93), some (.inl x1), some (.inl x2), some (.inl y3), some (.inl y4), some (.inl y5)] [] σ Q := by
        intro y3 y4 y5 hT
        unfold X0_isCover_J62 at hT
        refine kj_iload dX0_isCover_62 (pc' := 64) rfl rfl ?_
        refine kj_if_eq dX0_isCover_64 (tgt := 77) rfl (pc' := 67) rfl (fun c7 => ?_) (fun c7 => ?_)
        · rw [if_pos c7] at hT
          refine kj_keep [true, true, true, true] (ls' := [some (.inr 93), some (.inl x1), some (.inl x2), some (.inl y3)]) rfl ?_
          exact hJ77_16 y3 hT
        · rw [if_neg c7] at hT
          refine kj_iload_n dX0_isCover_67 (pc' := 68) rfl rfl rfl ?_
          refine kj_iload dX0_isCover_68 (pc' := 70) rfl rfl ?_
          refine kj_ior dX0_isCover_70 (pc' := 71) rfl ?_
          refine kj_iload_n dX0_isCover_71 (pc' := 72) rfl rfl rfl ?_
          refine kj_icmp_eq dX0_isCover_72 (tgt := 77) rfl (pc' := 75) rfl (fun c8 => ?_) (fun c8 => ?_)
          · rw [if_pos c8] at hT
            refine kj_keep [true, true, true, true] (ls' := [some (.inr 93), some (.inl x1), some (.inl x2), some (.inl y3)]) rfl ?_
            exact hJ77_16 y3 hT
          · rw [if_neg c8] at hT
            refine kj_iconst dX0_isCover_75 (pc' := 76) rfl kc_0 ?_
            have hR := Option.some.inj hT
            subst hR
            exact kj_zret rfl (Or.inl rfl) dX0_isCover_76 (by subst hQ; exact ⟨rfl, rfl, (Or.inl rfl)⟩)
      have hJ59_16 : ∀ y3 y4, X0_isCover_J59 rec16 x2 x1 y3 y4 = some res → KJ E mX0_isCover rmX0_isCover 59 [some (.inr 93), some (.inl x1), some (.inl x2), some (.inl y3), some (.inl y4)] [] σ Q := by
        intro y3 y4 hT
        unfold X0_isCover_J59 at hT
        refine kj_iconst dX0_isCover_59 (pc' := 60) rfl kc_0 ?_
        refine kj_istore dX0_isCover_60 (pc' := 62) rfl (Nat.le_of_ble_eq_true rfl) (ls' := [some (.inr 93), some (.inl x1), some (.inl x2), some (.inl y3), some (.inl y4), some (.inl 0)]) rfl ?_
        exact hJ62_16 y3 y4 0 hT
      refine kj_iload_n dX0_isCover_16 (pc' := 17) rfl rfl rfl ?_
      refine kj_aload_n dX0_isCover_17 (pc' := 18) rfl rfl rfl ?_
      refine kj_getR f_RX0_24 rfl (Nat.lt_of_lt_of_le (Nat.le_of_ble_eq_true rfl : 93 < 120) hE.1) (hE.2 _ _) (q := 97) rfl dX0_isCover_18 (pc' := 21) rfl ?_
      refine kj_getI f_RX0_71 rfl (Nat.lt_of_lt_of_le (Nat.le_of_ble_eq_true rfl : 97 < 120) hE.1) dX0_isCover_21 (pc' := 24) rfl ?_
      refine kj_icmp_ge dX0_isCover_24 (tgt := 83) rfl (pc' := 27) rfl (fun c4 => ?_) (fun c4 => ?_)
      · rw [if_pos c4] at hT
        refine kj_iconst dX0_isCover_83 (pc' := 84) rfl kc_1 ?_
        have hR := Option.some.inj hT
        subst hR
        exact kj_zret rfl (Or.inr rfl) dX0_isCover_84 (by subst hQ; exact ⟨rfl, rfl, (Or.inr rfl)⟩)
      · rw [if_neg c4] at hT
        refine kj_aload_n dX0_isCover_27 (pc' := 28) rfl rfl rfl ?_
        refine kj_getR f_RX0_24 rfl (Nat.lt_of_lt_of_le (Nat.le_of_ble_eq_true rfl : 93 < 120) hE.1) (hE.2 _ _) (q := 97) rfl dX0_isCover_28 (pc' := 31) rfl ?_
        refine kj_iload_n dX0_isCover_31 (pc' := 32) rfl rfl rfl ?_
        obtain ⟨t5, ht5, hT⟩ := bind_some' hT
        refine kcVi (as := [.inl x3]) (st := []) l_RX0_74 (m_X4_at hE rfl σ x3 ht5) rfl (Nat.lt_of_lt_of_le (Nat.le_of_ble_eq_true rfl : 97 < 120) hE.1) rfl ⟨⟨rfl, rfl⟩, Nat.le_of_ble_eq_true rfl, Nat.le_of_ble_eq_true rfl⟩ (Nat.le_of_ble_eq_true rfl) dX0_isCover_32 (pc' := 35) rfl ?_
        refine kj_istore dX0_isCover_35 (pc' := 37) rfl (Nat.le_of_ble_eq_true rfl) (ls' := [some (.inr 93), some (.inl x1), some (.inl x2), some (.inl x3), some (.inl t5)]) rfl ?_
        refine kj_iload dX0_isCover_37 (pc' := 39) rfl rfl ?_
        refine kj_iload_n dX0_isCover_39 (pc' := 40) rfl rfl rfl ?_
        refine kj_iconst dX0_isCover_40 (pc' := 41) rfl kc_m1 ?_
        refine kj_ixor dX0_isCover_41 (pc' := 42) rfl ?_
        refine kj_iand dX0_isCover_42 (pc' := 43) rfl ?_
        refine kj_if_ne dX0_isCover_43 (tgt := 59) rfl (pc' := 46) rfl (fun c6 => ?_) (fun c6 => ?_)
        · rw [if_neg c6] at hT
          exact hJ59_16 x3 t5 hT
        · rw [if_pos c6] at hT
          refine kj_iload dX0_isCover_46 (pc' := 48) rfl rfl ?_
          refine kj_iload_n dX0_isCover_48 (pc' := 49) rfl rfl rfl ?_
          refine kj_iconst dX0_isCover_49 (pc' := 50) rfl kc_m1 ?_
          refine kj_ixor dX0_isCover_50 (pc' := 51) rfl ?_
          refine kj_iand dX0_isCover_51 (pc' := 52) rfl ?_
          refine kj_if_eq dX0_isCover_52 (tgt := 59) rfl (pc' := 55) rfl (fun c9 => ?_) (fun c9 => ?_)
          · rw [if_pos c9] at hT
            exact hJ59_16 x3 t5 hT
          · rw [if_neg c9] at hT
            refine kj_iconst dX0_isCover_55 (pc' := 56) rfl kc_1 ?_
            refine kj_goto dX0_isCover_56 (pc' := 60) rfl ?_
            refine kj_istore dX0_isCover_60 (pc' := 62) rfl (Nat.le_of_ble_eq_true rfl) (ls' := [some (.inr 93), some (.inl x1), some (.inl x2), some (.inl x3), some (.inl t5), some (.inl 1)]) rfl ?_
            exact hJ62_16 x3 t5 1 hT
    · rw [if_neg c2] at hT
      refine kj_iconst dX0_isCover_12 (pc' := 13) rfl kc_0 ?_
      have hR := Option.some.inj hT
      subst hR
      exact kj_zret rfl (Or.inl rfl) dX0_isCover_13 (by subst hQ; exact ⟨rfl, rfl, (Or.inl rfl)⟩)
def X0_sharesOut (σ : Wd) (x1 : Int32) (x2 : Int32) (x3 : Int32) : Option (Int32) :=
  ((X0_innerOf σ (x1 &&& (x2 ||| x3))).bind fun t1 => ((X0_innerOf σ (x1 &&& x2)).bind fun t2 => ((X0_innerOf σ (x1 &&& x3)).bind fun t3 => (if t1 = (t2 ||| t3) then some 1 else some 0))))
set_option maxRecDepth 100000 in
set_option maxHeartbeats 4000000 in
theorem m_X0_sharesOut {E : JE} (hE : kOk 120 E) (σ : Wd) (x1 : Int32) (x2 : Int32) (x3 : Int32) {res : Int32} (hT : X0_sharesOut σ x1 x2 x3 = some res) : kMt E yX0_sharesOut mX0_sharesOut rmX0_sharesOut [.inr 93, .inl x1, .inl x2, .inl x3] σ (kQz res σ) := by
  refine kMt_of (by decide +kernel) rfl (Nat.le_of_ble_eq_true rfl) ?_
  generalize hQ : (kQz res σ) = Q
  show KJ E mX0_sharesOut rmX0_sharesOut 0 [some (.inr 93), some (.inl x1), some (.inl x2), some (.inl x3)] [] σ Q
  unfold X0_sharesOut at hT
  refine kj_aload_n dX0_sharesOut_0 (pc' := 1) rfl rfl rfl ?_
  refine kj_iload_n dX0_sharesOut_1 (pc' := 2) rfl rfl rfl ?_
  refine kj_iload_n dX0_sharesOut_2 (pc' := 3) rfl rfl rfl ?_
  refine kj_iload_n dX0_sharesOut_3 (pc' := 4) rfl rfl rfl ?_
  refine kj_ior dX0_sharesOut_4 (pc' := 5) rfl ?_
  refine kj_iand dX0_sharesOut_5 (pc' := 6) rfl ?_
  obtain ⟨t1, ht1, hT⟩ := bind_some' hT
  refine kcVi (as := [.inl (x1 &&& (x2 ||| x3))]) (st := []) l_RX0_124 (m_X0_innerOf hE σ (x1 &&& (x2 ||| x3)) ht1) rfl (Nat.lt_of_lt_of_le (Nat.le_of_ble_eq_true rfl : 93 < 120) hE.1) rfl ⟨⟨rfl, rfl⟩, Nat.le_of_ble_eq_true rfl, Nat.le_of_ble_eq_true rfl⟩ (Nat.le_of_ble_eq_true rfl) dX0_sharesOut_6 (pc' := 9) rfl ?_
  refine kj_aload_n dX0_sharesOut_9 (pc' := 10) rfl rfl rfl ?_
  refine kj_iload_n dX0_sharesOut_10 (pc' := 11) rfl rfl rfl ?_
  refine kj_iload_n dX0_sharesOut_11 (pc' := 12) rfl rfl rfl ?_
  refine kj_iand dX0_sharesOut_12 (pc' := 13) rfl ?_
  obtain ⟨t2, ht2, hT⟩ := bind_some' hT
  refine kcVi (as := [.inl (x1 &&& x2)]) (st := [.inl t1]) l_RX0_124 (m_X0_innerOf hE σ (x1 &&& x2) ht2) rfl (Nat.lt_of_lt_of_le (Nat.le_of_ble_eq_true rfl : 93 < 120) hE.1) rfl ⟨⟨rfl, rfl⟩, Nat.le_of_ble_eq_true rfl, Nat.le_of_ble_eq_true rfl⟩ (Nat.le_of_ble_eq_true rfl) dX0_sharesOut_13 (pc' := 16) rfl ?_
  refine kj_aload_n dX0_sharesOut_16 (pc' := 17) rfl rfl rfl ?_
  refine kj_iload_n dX0_sharesOut_17 (pc' := 18) rfl rfl rfl ?_
  refine kj_iload_n dX0_sharesOut_18 (pc' := 19) rfl rfl rfl ?_
  refine kj_iand dX0_sharesOut_19 (pc' := 20) rfl ?_
  obtain ⟨t3, ht3, hT⟩ := bind_some' hT
  refine kcVi (as := [.inl (x1 &&& x3)]) (st := [.inl t2, .inl t1]) l_RX0_124 (m_X0_innerOf hE σ (x1 &&& x3) ht3) rfl (Nat.lt_of_lt_of_le (Nat.le_of_ble_eq_true rfl : 93 < 120) hE.1) rfl ⟨⟨rfl, rfl⟩, Nat.le_of_ble_eq_true rfl, Nat.le_of_ble_eq_true rfl⟩ (Nat.le_of_ble_eq_true rfl) dX0_sharesOut_20 (pc' := 23) rfl ?_
  refine kj_ior dX0_sharesOut_23 (pc' := 24) rfl ?_
  refine kj_icmp_ne dX0_sharesOut_24 (tgt := 31) rfl (pc' := 27) rfl (fun c4 => ?_) (fun c4 => ?_)
  · rw [if_neg c4] at hT
    refine kj_iconst dX0_sharesOut_31 (pc' := 32) rfl kc_0 ?_
    have hR := Option.some.inj hT
    subst hR
    exact kj_zret rfl (Or.inl rfl) dX0_sharesOut_32 (by subst hQ; exact ⟨rfl, rfl, (Or.inl rfl)⟩)
  · rw [if_pos c4] at hT
    refine kj_iconst dX0_sharesOut_27 (pc' := 28) rfl kc_1 ?_
    refine kj_goto dX0_sharesOut_28 (pc' := 32) rfl ?_
    have hR := Option.some.inj hT
    subst hR
    exact kj_zret rfl (Or.inr rfl) dX0_sharesOut_32 (by subst hQ; exact ⟨rfl, rfl, (Or.inr rfl)⟩)
def X0_hasAllIntersections_T60 (rec2 : Int32 → Option (Int32)) (x1 : Int32) : Option (Int32) :=
  rec2 (x1 + 1)
def X0_hasAllIntersections_B17 (σ : Wd) (x1 : Int32) (kx17 : Option (Int32)) (rec17 : Int32 → Option (Int32)) : Int32 → Option (Int32)
  | (x2) => (if (σ 95 1) ≤ x2 then kx17 else ((X4_at σ 95 x1).bind fun t5 => ((X4_at σ 95 x2).bind fun t6 => ((X0_numberOf σ (t5 &&& t6)).bind fun t7 => (if 0 ≤ t7 then rec17 (x2 + 1) else some 0)))))
def X0_hasAllIntersections_B2 (σ : Wd) (rec2 : Int32 → Option (Int32)) : Int32 → Option (Int32)
  | (x1) => (if (σ 95 1) ≤ x1 then some 1 else (lp (X0_hasAllIntersections_B17 σ x1 (X0_hasAllIntersections_T60 rec2 x1)) FU (x1 + 1)))
def X0_hasAllIntersections (σ : Wd) : Option (Int32) :=
  (lp (X0_hasAllIntersections_B2 σ) FU (0))
set_option maxRecDepth 100000 in
set_option maxHeartbeats 4000000 in
theorem m_X0_hasAllIntersections {E : JE} (hE : kOk 120 E) (σ : Wd) {res : Int32} (hT : X0_hasAllIntersections σ = some res) : kMt E yX0_hasAllIntersections mX0_hasAllIntersections rmX0_hasAllIntersections [.inr 93] σ (kQz res σ) := by
  refine kMt_of (by decide +kernel) rfl (Nat.le_of_ble_eq_true rfl) ?_
  generalize hQ : (kQz res σ) = Q
  show KJ E mX0_hasAllIntersections rmX0_hasAllIntersections 0 [some (.inr 93)] [] σ Q
  unfold X0_hasAllIntersections at hT
  refine kj_iconst dX0_hasAllIntersections_0 (pc' := 1) rfl kc_0 ?_
  refine kj_istore_n dX0_hasAllIntersections_1 (pc' := 2) rfl rfl (Nat.le_of_ble_eq_true rfl) (ls' := [some (.inr 93), some (.inl 0)]) rfl ?_
  refine lp_ind (P := fun s => KJ E mX0_hasAllIntersections rmX0_hasAllIntersections 2 [some (.inr 93), some (.inl s)] [] σ Q) (fun rec2 s ih2 hT => ?_) FU (0) hT
  obtain ⟨x1, hs⟩ : ∃ z, z = s := ⟨_, rfl⟩
  subst hs
  show KJ E mX0_hasAllIntersections rmX0_hasAllIntersections 2 [some (.inr 93), some (.inl x1)] [] σ Q
  rw [X0_hasAllIntersections_B2] at hT
  refine kj_iload_n dX0_hasAllIntersections_2 (pc' := 3) rfl rfl rfl ?_
  refine kj_aload_n dX0_hasAllIntersections_3 (pc' := 4) rfl rfl rfl ?_
  refine kj_getR f_RX0_20 rfl (Nat.lt_of_lt_of_le (Nat.le_of_ble_eq_true rfl : 93 < 120) hE.1) (hE.2 _ _) (q := 95) rfl dX0_hasAllIntersections_4 (pc' := 7) rfl ?_
  refine kj_getI f_RX0_71 rfl (Nat.lt_of_lt_of_le (Nat.le_of_ble_eq_true rfl : 95 < 120) hE.1) dX0_hasAllIntersections_7 (pc' := 10) rfl ?_
  refine kj_icmp_ge dX0_hasAllIntersections_10 (tgt := 66) rfl (pc' := 13) rfl (fun c2 => ?_) (fun c2 => ?_)
  · rw [if_pos c2] at hT
    refine kj_iconst dX0_hasAllIntersections_66 (pc' := 67) rfl kc_1 ?_
    have hR := Option.some.inj hT
    subst hR
    exact kj_zret rfl (Or.inr rfl) dX0_hasAllIntersections_67 (by subst hQ; exact ⟨rfl, rfl, (Or.inr rfl)⟩)
  · rw [if_neg c2] at hT
    refine kj_iload_n dX0_hasAllIntersections_13 (pc' := 14) rfl rfl rfl ?_
    refine kj_iconst dX0_hasAllIntersections_14 (pc' := 15) rfl kc_1 ?_
    refine kj_iadd dX0_hasAllIntersections_15 (pc' := 16) rfl ?_
    refine kj_istore_n dX0_hasAllIntersections_16 (pc' := 17) rfl rfl (Nat.le_of_ble_eq_true rfl) (ls' := [some (.inr 93), some (.inl x1), some (.inl (x1 + 1))]) rfl ?_
    have hX17 : ∀ (_ : Unit), X0_hasAllIntersections_T60 rec2 x1 = some res → KJ E mX0_hasAllIntersections rmX0_hasAllIntersections 60 [some (.inr 93), some (.inl x1)] [] σ Q := by
      intro _ hT
      unfold X0_hasAllIntersections_T60 at hT
      refine kj_iinc dX0_hasAllIntersections_60 (pc' := 63) rfl rfl (congrArg (_ + ·) kc_1) (Nat.le_of_ble_eq_true rfl) (ls' := [some (.inr 93), some (.inl (x1 + 1))]) rfl ?_
      refine kj_goto dX0_hasAllIntersections_63 (pc' := 2) rfl ?_
      exact ih2 (x1 + 1) hT
    refine lp_ind (P := fun s => KJ E mX0_hasAllIntersections rmX0_hasAllIntersections 17 [some (.inr 93), some (.inl x1), some (.inl s)] [] σ Q) (fun rec17 s ih17 hT => ?_) FU (x1 + 1) hT
    obtain ⟨x2, hs⟩ : ∃ z, z = s := ⟨_, rfl⟩
    subst hs
    show KJ E mX0_hasAllIntersections rmX0_hasAllIntersections 17 [some (.inr 93), some (.inl x1), some (.inl x2)] [] σ Q
    rw [X0_hasAllIntersections_B17] at hT
    refine kj_iload_n dX0_hasAllIntersections_17 (pc' := 18) rfl rfl rfl ?_
    refine kj_aload_n dX0_hasAllIntersections_18 (pc' := 19) rfl rfl rfl ?_
    refine kj_getR f_RX0_20 rfl (Nat.lt_of_lt_of_le (Nat.le_of_ble_eq_true rfl : 93 < 120) hE.1) (hE.2 _ _) (q := 95) rfl dX0_hasAllIntersections_19 (pc' := 22) rfl ?_
    refine kj_getI f_RX0_71 rfl (Nat.lt_of_lt_of_le (Nat.le_of_ble_eq_true rfl : 95 < 120) hE.1) dX0_hasAllIntersections_22 (pc' := 25) rfl ?_
    refine kj_icmp_ge dX0_hasAllIntersections_25 (tgt := 60) rfl (pc' := 28) rfl (fun c4 => ?_) (fun c4 => ?_)
    · rw [if_pos c4] at hT
      refine kj_keep [true, true] (ls' := [some (.inr 93), some (.inl x1)]) rfl ?_
      exact hX17 () hT
    · rw [if_neg c4] at hT
      refine kj_aload_n dX0_hasAllIntersections_28 (pc' := 29) rfl rfl rfl ?_
      refine kj_aload_n dX0_hasAllIntersections_29 (pc' := 30) rfl rfl rfl ?_
      refine kj_getR f_RX0_20 rfl (Nat.lt_of_lt_of_le (Nat.le_of_ble_eq_true rfl : 93 < 120) hE.1) (hE.2 _ _) (q := 95) rfl dX0_hasAllIntersections_30 (pc' := 33) rfl ?_
      refine kj_iload_n dX0_hasAllIntersections_33 (pc' := 34) rfl rfl rfl ?_
      obtain ⟨t5, ht5, hT⟩ := bind_some' hT
      refine kcVi (as := [.inl x1]) (st := [.inr 93]) l_RX0_74 (m_X4_at hE rfl σ x1 ht5) rfl (Nat.lt_of_lt_of_le (Nat.le_of_ble_eq_true rfl : 95 < 120) hE.1) rfl ⟨⟨rfl, rfl⟩, Nat.le_of_ble_eq_true rfl, Nat.le_of_ble_eq_true rfl⟩ (Nat.le_of_ble_eq_true rfl) dX0_hasAllIntersections_34 (pc' := 37) rfl ?_
      refine kj_aload_n dX0_hasAllIntersections_37 (pc' := 38) rfl rfl rfl ?_
      refine kj_getR f_RX0_20 rfl (Nat.lt_of_lt_of_le (Nat.le_of_ble_eq_true rfl : 93 < 120) hE.1) (hE.2 _ _) (q := 95) rfl dX0_hasAllIntersections_38 (pc' := 41) rfl ?_
      refine kj_iload_n dX0_hasAllIntersections_41 (pc' := 42) rfl rfl rfl ?_
      obtain ⟨t6, ht6, hT⟩ := bind_some' hT
      refine kcVi (as := [.inl x2]) (st := [.inl t5, .inr 93]) l_RX0_74 (m_X4_at hE rfl σ x2 ht6) rfl (Nat.lt_of_lt_of_le (Nat.le_of_ble_eq_true rfl : 95 < 120) hE.1) rfl ⟨⟨rfl, rfl⟩, Nat.le_of_ble_eq_true rfl, Nat.le_of_ble_eq_true rfl⟩ (Nat.le_of_ble_eq_true rfl) dX0_hasAllIntersections_42 (pc' := 45) rfl ?_
      refine kj_iand dX0_hasAllIntersections_45 (pc' := 46) rfl ?_
      obtain ⟨t7, ht7, hT⟩ := bind_some' hT
      refine kcVi (as := [.inl (t5 &&& t6)]) (st := []) l_RX0_86 (m_X0_numberOf hE σ (t5 &&& t6) ht7) rfl (Nat.lt_of_lt_of_le (Nat.le_of_ble_eq_true rfl : 93 < 120) hE.1) rfl ⟨⟨rfl, rfl⟩, Nat.le_of_ble_eq_true rfl, Nat.le_of_ble_eq_true rfl⟩ (Nat.le_of_ble_eq_true rfl) dX0_hasAllIntersections_46 (pc' := 49) rfl ?_
      refine kj_if_ge dX0_hasAllIntersections_49 (tgt := 54) rfl (pc' := 52) rfl (fun c8 => ?_) (fun c8 => ?_)
      · rw [if_pos c8] at hT
        refine kj_iinc dX0_hasAllIntersections_54 (pc' := 57) rfl rfl (congrArg (_ + ·) kc_1) (Nat.le_of_ble_eq_true rfl) (ls' := [some (.inr 93), some (.inl x1), some (.inl (x2 + 1))]) rfl ?_
        refine kj_goto dX0_hasAllIntersections_57 (pc' := 17) rfl ?_
        exact ih17 (x2 + 1) hT
      · rw [if_neg c8] at hT
        refine kj_iconst dX0_hasAllIntersections_52 (pc' := 53) rfl kc_0 ?_
        have hR := Option.some.inj hT
        subst hR
        exact kj_zret rfl (Or.inl rfl) dX0_hasAllIntersections_53 (by subst hQ; exact ⟨rfl, rfl, (Or.inl rfl)⟩)
def X0_partOf_T57 (rec4 : Int32 × Int32 → Option (Int32)) (x3 : Int32) (x2 : Int32) : Option (Int32) :=
  rec4 (x2, x3 + 1)
def X0_partOf_J51 (rec13 : Int32 × Int32 → Option (Int32)) (y2 : Int32) (y4 : Int32) : Option (Int32) :=
  rec13 (y2, y4 + 1)
def X0_partOf_B13 (σ : Wd) (kx13 : Int32 → Option (Int32)) (rec13 : Int32 × Int32 → Option (Int32)) : Int32 × Int32 → Option (Int32)
  | (x2, x4) => (if (σ 97 1) ≤ x4 then kx13 x2 else ((X4_at σ 97 x4).bind fun t5 => (if (t5 &&& x2) = 0 then X0_partOf_J51 rec13 x2 x4 else ((X4_at σ 97 x4).bind fun t7 => X0_partOf_J51 rec13 (x2 ||| t7) x4))))
def X0_partOf_B4 (σ : Wd) (rec4 : Int32 × Int32 → Option (Int32)) : Int32 × Int32 → Option (Int32)
  | (x2, x3) => (if 7 ≤ x3 then some x2 else (lp (X0_partOf_B13 σ (X0_partOf_T57 rec4 x3)) FU (x2, 0)))
def X0_partOf (σ : Wd) (x1 : Int32) : Option (Int32) :=
  (lp (X0_partOf_B4 σ) FU (x1, 0))
set_option maxRecDepth 100000 in
set_option maxHeartbeats 4000000 in
theorem m_X0_partOf {E : JE} (hE : kOk 120 E) (σ : Wd) (x1 : Int32) {res : Int32} (hT : X0_partOf σ x1 = some res) : kMt E yX0_partOf mX0_partOf rmX0_partOf [.inr 93, .inl x1] σ (kQi res σ) := by
  refine kMt_of (by decide +kernel) rfl (Nat.le_of_ble_eq_true rfl) ?_
  generalize hQ : (kQi res σ) = Q
  show KJ E mX0_partOf rmX0_partOf 0 [some (.inr 93), some (.inl x1)] [] σ Q
  unfold X0_partOf at hT
  refine kj_iload_n dX0_partOf_0 (pc' := 1) rfl rfl rfl ?_
  refine kj_istore_n dX0_partOf_1 (pc' := 2) rfl rfl (Nat.le_of_ble_eq_true rfl) (ls' := [some (.inr 93), some (.inl x1), some (.inl x1)]) rfl ?_
  refine kj_iconst dX0_partOf_2 (pc' := 3) rfl kc_0 ?_
  refine kj_istore_n dX0_partOf_3 (pc' := 4) rfl rfl (Nat.le_of_ble_eq_true rfl) (ls' := [some (.inr 93), some (.inl x1), some (.inl x1), some (.inl 0)]) rfl ?_
  refine kj_keep [true, false, true, true] (ls' := [some (.inr 93), none, some (.inl x1), some (.inl 0)]) rfl ?_
  refine lp_ind (P := fun s => KJ E mX0_partOf rmX0_partOf 4 [some (.inr 93), none, some (.inl s.1), some (.inl s.2)] [] σ Q) (fun rec4 s ih4 hT => ?_) FU (x1, 0) hT
  obtain ⟨x2, x3⟩ := s
  show KJ E mX0_partOf rmX0_partOf 4 [some (.inr 93), none, some (.inl x2), some (.inl x3)] [] σ Q
  rw [X0_partOf_B4] at hT
  refine kj_iload_n dX0_partOf_4 (pc' := 5) rfl rfl rfl ?_
  refine kj_bipush dX0_partOf_5 (pc' := 7) rfl kb_7 ?_
  refine kj_icmp_ge dX0_partOf_7 (tgt := 63) rfl (pc' := 10) rfl (fun c2 => ?_) (fun c2 => ?_)
  · rw [if_pos c2] at hT
    refine kj_iload_n dX0_partOf_63 (pc' := 64) rfl rfl rfl ?_
    have hR := Option.some.inj hT
    subst hR
    exact kj_iret rfl dX0_partOf_64 (by subst hQ; exact ⟨rfl, rfl⟩)
  · rw [if_neg c2] at hT
    refine kj_iconst dX0_partOf_10 (pc' := 11) rfl kc_0 ?_
    refine kj_istore dX0_partOf_11 (pc' := 13) rfl (Nat.le_of_ble_eq_true rfl) (ls' := [some (.inr 93), none, some (.inl x2), some (.inl x3), some (.inl 0)]) rfl ?_
    have hX13 : ∀ x2, X0_partOf_T57 rec4 x3 x2 = some res → KJ E mX0_partOf rmX0_partOf 57 [some (.inr 93), none, some (.inl x2), some (.inl x3)] [] σ Q := by
      intro x2 hT
      unfold X0_partOf_T57 at hT
      refine kj_iinc dX0_partOf_57 (pc' := 60) rfl rfl (congrArg (_ + ·) kc_1) (Nat.le_of_ble_eq_true rfl) (ls' := [some (.inr 93), none, some (.inl x2), some (.inl (x3 + 1))]) rfl ?_
      refine kj_goto dX0_partOf_60 (pc' := 4) rfl ?_
      exact ih4 (x2, x3 + 1) hT
    refine lp_ind (P := fun s => KJ E mX0_partOf rmX0_partOf 13 [some (.inr 93), none, some (.inl s.1), some (.inl x3), some (.inl s.2)] [] σ Q) (fun rec13 s ih13 hT => ?_) FU (x2, 0) hT
    obtain ⟨x2, x4⟩ := s
    show KJ E mX0_partOf rmX0_partOf 13 [some (.inr 93), none, some (.inl x2), some (.inl x3), some (.inl x4)] [] σ Q
    rw [X0_partOf_B13] at hT
    have hJ51_4_13 : ∀ y2 y4, X0_partOf_J51 rec13 y2 y4 = some res → KJ E mX0_partOf rmX0_partOf 51 [some (.inr 93), none, some (.inl y2), some (.inl x3), some (.inl y4)] [] σ Q := by
      intro y2 y4 hT
      unfold X0_partOf_J51 at hT
      refine kj_iinc dX0_partOf_51 (pc' := 54) rfl rfl (congrArg (_ + ·) kc_1) (Nat.le_of_ble_eq_true rfl) (ls' := [some (.inr 93), none, some (.inl y2), some (.inl x3), some (.inl (y4 + 1))]) rfl ?_
      refine kj_goto dX0_partOf_54 (pc' := 13) rfl ?_
      exact ih13 (y2, y4 + 1) hT
    refine kj_iload dX0_partOf_13 (pc' := 15) rfl rfl ?_
    refine kj_aload_n dX0_partOf_15 (pc' := 16) rfl rfl rfl ?_
    refine kj_getR f_RX0_24 rfl (Nat.lt_of_lt_of_le (Nat.le_of_ble_eq_true rfl : 93 < 120) hE.1) (hE.2 _ _) (q := 97) rfl dX0_partOf_16 (pc' := 19) rfl ?_
    refine kj_getI f_RX0_71 rfl (Nat.lt_of_lt_of_le (Nat.le_of_ble_eq_true rfl : 97 < 120) hE.1) dX0_partOf_19 (pc' := 22) rfl ?_
    refine kj_icmp_ge dX0_partOf_22 (tgt := 57) rfl (pc' := 25) rfl (fun c4 => ?_) (fun c4 => ?_)
    · rw [if_pos c4] at hT
      refine kj_keep [true, false, true, true] (ls' := [some (.inr 93), none, some (.inl x2), some (.inl x3)]) rfl ?_
      exact hX13 x2 hT
    · rw [if_neg c4] at hT
      refine kj_aload_n dX0_partOf_25 (pc' := 26) rfl rfl rfl ?_
      refine kj_getR f_RX0_24 rfl (Nat.lt_of_lt_of_le (Nat.le_of_ble_eq_true rfl : 93 < 120) hE.1) (hE.2 _ _) (q := 97) rfl dX0_partOf_26 (pc' := 29) rfl ?_
      refine kj_iload dX0_partOf_29 (pc' := 31) rfl rfl ?_
      obtain ⟨t5, ht5, hT⟩ := bind_some' hT
      refine kcVi (as := [.inl x4]) (st := []) l_RX0_74 (m_X4_at hE rfl σ x4 ht5) rfl (Nat.lt_of_lt_of_le (Nat.le_of_ble_eq_true rfl : 97 < 120) hE.1) rfl ⟨⟨rfl, rfl⟩, Nat.le_of_ble_eq_true rfl, Nat.le_of_ble_eq_true rfl⟩ (Nat.le_of_ble_eq_true rfl) dX0_partOf_31 (pc' := 34) rfl ?_
      refine kj_iload_n dX0_partOf_34 (pc' := 35) rfl rfl rfl ?_
      refine kj_iand dX0_partOf_35 (pc' := 36) rfl ?_
      refine kj_if_eq dX0_partOf_36 (tgt := 51) rfl (pc' := 39) rfl (fun c6 => ?_) (fun c6 => ?_)
      · rw [if_pos c6] at hT
        exact hJ51_4_13 x2 x4 hT
      · rw [if_neg c6] at hT
        refine kj_iload_n dX0_partOf_39 (pc' := 40) rfl rfl rfl ?_
        refine kj_aload_n dX0_partOf_40 (pc' := 41) rfl rfl rfl ?_
        refine kj_getR f_RX0_24 rfl (Nat.lt_of_lt_of_le (Nat.le_of_ble_eq_true rfl : 93 < 120) hE.1) (hE.2 _ _) (q := 97) rfl dX0_partOf_41 (pc' := 44) rfl ?_
        refine kj_iload dX0_partOf_44 (pc' := 46) rfl rfl ?_
        obtain ⟨t7, ht7, hT⟩ := bind_some' hT
        refine kcVi (as := [.inl x4]) (st := [.inl x2]) l_RX0_74 (m_X4_at hE rfl σ x4 ht7) rfl (Nat.lt_of_lt_of_le (Nat.le_of_ble_eq_true rfl : 97 < 120) hE.1) rfl ⟨⟨rfl, rfl⟩, Nat.le_of_ble_eq_true rfl, Nat.le_of_ble_eq_true rfl⟩ (Nat.le_of_ble_eq_true rfl) dX0_partOf_46 (pc' := 49) rfl ?_
        refine kj_ior dX0_partOf_49 (pc' := 50) rfl ?_
        refine kj_istore_n dX0_partOf_50 (pc' := 51) rfl rfl (Nat.le_of_ble_eq_true rfl) (ls' := [some (.inr 93), none, some (.inl (x2 ||| t7)), some (.inl x3), some (.inl x4)]) rfl ?_
        exact hJ51_4_13 (x2 ||| t7) x4 hT
def X0_countParts_J41 (rec9 : Int32 × Int32 × Int32 → Option (Int32)) (y1 : Int32) (y2 : Int32) (y3 : Int32) : Option (Int32) :=
  rec9 (y1, y2, y3 + 1)
def X0_countParts_B9 (σ : Wd) (rec9 : Int32 × Int32 × Int32 → Option (Int32)) : Int32 × Int32 × Int32 → Option (Int32)
  | (x1, x2, x3) => (if (σ 93 7) ≤ x3 then some x2 else (if ((x1 >>> (x3 &&& 31)) &&& 1) = 1 then ((X0_partOf σ (1 <<< (x3 &&& 31))).bind fun t5 => X0_countParts_J41 rec9 (x1 &&& (t5 ^^^ (-1))) (x2 + 1) x3) else X0_countParts_J41 rec9 x1 x2 x3))
def X0_countParts (σ : Wd) : Option (Int32) :=
  ((X0_top σ).bind fun t1 => (lp (X0_countParts_B9 σ) FU (t1, 0, 0)))
set_option maxRecDepth 100000 in
set_option maxHeartbeats 4000000 in
theorem m_X0_countParts {E : JE} (hE : kOk 120 E) (σ : Wd) {res : Int32} (hT : X0_countParts σ = some res) : kMt E yX0_countParts mX0_countParts rmX0_countParts [.inr 93] σ (kQi res σ) := by
  refine kMt_of (by decide +kernel) rfl (Nat.le_of_ble_eq_true rfl) ?_
  generalize hQ : (kQi res σ) = Q
  show KJ E mX0_countParts rmX0_countParts 0 [some (.inr 93)] [] σ Q
  unfold X0_countParts at hT
  refine kj_aload_n dX0_countParts_0 (pc' := 1) rfl rfl rfl ?_
  obtain ⟨t1, ht1, hT⟩ := bind_some' hT
  refine kcVi (as := []) (st := []) l_RX0_105 (m_X0_top hE σ ht1) rfl (Nat.lt_of_lt_of_le (Nat.le_of_ble_eq_true rfl : 93 < 120) hE.1) rfl ⟨⟨rfl, rfl⟩, Nat.le_of_ble_eq_true rfl, Nat.le_of_ble_eq_true rfl⟩ (Nat.le_of_ble_eq_true rfl) dX0_countParts_1 (pc' := 4) rfl ?_
  refine kj_istore_n dX0_countParts_4 (pc' := 5) rfl rfl (Nat.le_of_ble_eq_true rfl) (ls' := [some (.inr 93), some (.inl t1)]) rfl ?_
  refine kj_iconst dX0_countParts_5 (pc' := 6) rfl kc_0 ?_
  refine kj_istore_n dX0_countParts_6 (pc' := 7) rfl rfl (Nat.le_of_ble_eq_true rfl) (ls' := [some (.inr 93), some (.inl t1), some (.inl 0)]) rfl ?_
  refine kj_iconst dX0_countParts_7 (pc' := 8) rfl kc_0 ?_
  refine kj_istore_n dX0_countParts_8 (pc' := 9) rfl rfl (Nat.le_of_ble_eq_true rfl) (ls' := [some (.inr 93), some (.inl t1), some (.inl 0), some (.inl 0)]) rfl ?_
  refine lp_ind (P := fun s => KJ E mX0_countParts rmX0_countParts 9 [some (.inr 93), some (.inl s.1), some (.inl s.2.1), some (.inl s.2.2)] [] σ Q) (fun rec9 s ih9 hT => ?_) FU (t1, 0, 0) hT
  obtain ⟨x1, x2, x3⟩ := s
  show KJ E mX0_countParts rmX0_countParts 9 [some (.inr 93), some (.inl x1), some (.inl x2), some (.inl x3)] [] σ Q
  rw [X0_countParts_B9] at hT
  have hJ41_9 : ∀ y1 y2 y3, X0_countParts_J41 rec9 y1 y2 y3 = some res → KJ E mX0_countParts rmX0_countParts 41 [some (.inr 93), some (.inl y1), some (.inl y2), some (.inl y3)] [] σ Q := by
    intro y1 y2 y3 hT
    unfold X0_countParts_J41 at hT
    refine kj_iinc dX0_countParts_41 (pc' := 44) rfl rfl (congrArg (_ + ·) kc_1) (Nat.le_of_ble_eq_true rfl) (ls' := [some (.inr 93), some (.inl y1), some (.inl y2), some (.inl (y3 + 1))]) rfl ?_
    refine kj_goto dX0_countParts_44 (pc' := 9) rfl ?_
    exact ih9 (y1, y2, y3 + 1) hT
  refine kj_iload_n dX0_countParts_9 (pc' := 10) rfl rfl rfl ?_
  refine kj_aload_n dX0_countParts_10 (pc' := 11) rfl rfl rfl ?_
  refine kj_getI f_RX0_39 rfl (Nat.lt_of_lt_of_le (Nat.le_of_ble_eq_true rfl : 93 < 120) hE.1) dX0_countParts_11 (pc' := 14) rfl ?_
  refine kj_icmp_ge dX0_countParts_14 (tgt := 47) rfl (pc' := 17) rfl (fun c3 => ?_) (fun c3 => ?_)
  · rw [if_pos c3] at hT
    refine kj_iload_n dX0_countParts_47 (pc' := 48) rfl rfl rfl ?_
    have hR := Option.some.inj hT
    subst hR
    exact kj_iret rfl dX0_countParts_48 (by subst hQ; exact ⟨rfl, rfl⟩)
  · rw [if_neg c3] at hT
    refine kj_iload_n dX0_countParts_17 (pc' := 18) rfl rfl rfl ?_
    refine kj_iload_n dX0_countParts_18 (pc' := 19) rfl rfl rfl ?_
    refine kj_ishr dX0_countParts_19 (pc' := 20) rfl ?_
    refine kj_iconst dX0_countParts_20 (pc' := 21) rfl kc_1 ?_
    refine kj_iand dX0_countParts_21 (pc' := 22) rfl ?_
    refine kj_iconst dX0_countParts_22 (pc' := 23) rfl kc_1 ?_
    refine kj_icmp_ne dX0_countParts_23 (tgt := 41) rfl (pc' := 26) rfl (fun c4 => ?_) (fun c4 => ?_)
    · rw [if_neg c4] at hT
      exact hJ41_9 x1 x2 x3 hT
    · rw [if_pos c4] at hT
      refine kj_iload_n dX0_countParts_26 (pc' := 27) rfl rfl rfl ?_
      refine kj_aload_n dX0_countParts_27 (pc' := 28) rfl rfl rfl ?_
      refine kj_iconst dX0_countParts_28 (pc' := 29) rfl kc_1 ?_
      refine kj_iload_n dX0_countParts_29 (pc' := 30) rfl rfl rfl ?_
      refine kj_ishl dX0_countParts_30 (pc' := 31) rfl ?_
      obtain ⟨t5, ht5, hT⟩ := bind_some' hT
      refine kcVi (as := [.inl (1 <<< (x3 &&& 31))]) (st := [.inl x1]) l_RX0_127 (m_X0_partOf hE σ (1 <<< (x3 &&& 31)) ht5) rfl (Nat.lt_of_lt_of_le (Nat.le_of_ble_eq_true rfl : 93 < 120) hE.1) rfl ⟨⟨rfl, rfl⟩, Nat.le_of_ble_eq_true rfl, Nat.le_of_ble_eq_true rfl⟩ (Nat.le_of_ble_eq_true rfl) dX0_countParts_31 (pc' := 34) rfl ?_
      refine kj_iconst dX0_countParts_34 (pc' := 35) rfl kc_m1 ?_
      refine kj_ixor dX0_countParts_35 (pc' := 36) rfl ?_
      refine kj_iand dX0_countParts_36 (pc' := 37) rfl ?_
      refine kj_istore_n dX0_countParts_37 (pc' := 38) rfl rfl (Nat.le_of_ble_eq_true rfl) (ls' := [some (.inr 93), some (.inl (x1 &&& (t5 ^^^ (-1)))), some (.inl x2), some (.inl x3)]) rfl ?_
      refine kj_iinc dX0_countParts_38 (pc' := 41) rfl rfl (congrArg (_ + ·) kc_1) (Nat.le_of_ble_eq_true rfl) (ls' := [some (.inr 93), some (.inl (x1 &&& (t5 ^^^ (-1)))), some (.inl (x2 + 1)), some (.inl x3)]) rfl ?_
      exact hJ41_9 (x1 &&& (t5 ^^^ (-1))) (x2 + 1) x3 hT
