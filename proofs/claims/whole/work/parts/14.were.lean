def X9_countUnions_J112 (rec20 : Int32 × Int32 × Wd → Option (Int32 × Wd)) (y3 : Int32) (y4 : Int32) (ς : Wd) : Option (Int32 × Wd) :=
  rec20 (y3, y4 + 1, ς)
def X9_countUnions_T112 (rec20 : Int32 × Int32 × Wd → Option (Int32 × Wd)) (x4 : Int32) (x3 : Int32) (σ : Wd) : Option (Int32 × Wd) :=
  X9_countUnions_J112 rec20 x3 x4 σ
def X9_countUnions_J106 (rec32 : Int32 × Int32 × Wd → Option (Int32 × Wd)) (y3 : Int32) (y5 : Int32) (ς : Wd) : Option (Int32 × Wd) :=
  rec32 (y3, y5 + 1, ς)
def X9_countUnions_B32 (x4 : Int32) (x2 : Int32) (q1 : Nat) (kx32 : Int32 → Wd → Option (Int32 × Wd)) (rec32 : Int32 × Int32 × Wd → Option (Int32 × Wd)) : Int32 × Int32 × Wd → Option (Int32 × Wd)
  | (x3, x5, σ) => (if 128 ≤ x5 then kx32 x3 σ else (if x4 = x2 then kx32 x3 σ else ((X4_at σ q1 x4).bind fun t5 => (ckA x5 128 <| (if (σ 117 x5.toNatClampNeg) = 1 then (if (x5 ||| t5) < 0 then X9_countUnions_J106 rec32 x3 x5 σ else (if 128 ≤ (x5 ||| t5) then X9_countUnions_J106 rec32 x3 x5 σ else (ckA (x5 ||| t5) 128 <| (if (σ 117 ((x5 ||| t5).toNatClampNeg)) = 0 then (ckA (x5 ||| t5) 128 <| X9_countUnions_J106 rec32 (x3 + 1) x5 (up σ 117 ((x5 ||| t5).toNatClampNeg) 1)) else X9_countUnions_J106 rec32 x3 x5 σ)))) else X9_countUnions_J106 rec32 x3 x5 σ)))))
def X9_countUnions_B20 (q1 : Nat) (x2 : Int32) (rec20 : Int32 × Int32 × Wd → Option (Int32 × Wd)) : Int32 × Int32 × Wd → Option (Int32 × Wd)
  | (x3, x4, σ) => (if (σ q1 1) ≤ x4 then some (x3, σ) else (lp (X9_countUnions_B32 x4 x2 q1 (X9_countUnions_T112 rec20 x4)) FU (x3, 0, σ)))
def X9_countUnions (σ : Wd) (q1 : Nat) (x2 : Int32) : Option (Int32 × Wd) :=
  ((J7_fill_53178 σ 117 0).bind fun σ1 => (lp (X9_countUnions_B20 q1 x2) FU (1, 0, up σ1 117 0 1)))
set_option maxRecDepth 100000 in
set_option maxHeartbeats 4000000 in
theorem m_X9_countUnions {E : JE} (hE : kOk 120 E) {q1 : Nat} (hq1 : kKd q1 = 4) (σ : Wd) (x2 : Int32) {res : Int32 × Wd} (hT : X9_countUnions σ q1 x2 = some res) : kMt E yX9_countUnions mX9_countUnions rmX9_countUnions [.inr 116, .inr q1, .inl x2] σ (kQi res.1 res.2) := by
  refine kMt_of (by decide +kernel) rfl (Nat.le_of_ble_eq_true rfl) ?_
  generalize hQ : (kQi res.1 res.2) = Q
  show KJ E mX9_countUnions rmX9_countUnions 0 [some (.inr 116), some (.inr q1), some (.inl x2)] [] σ Q
  unfold X9_countUnions at hT
  refine kj_aload_n dX9_countUnions_0 (pc' := 1) rfl rfl rfl ?_
  refine kj_getR f_RX9_15 rfl (Nat.lt_of_lt_of_le (Nat.le_of_ble_eq_true rfl : 116 < 120) hE.1) (hE.2 _ _) (q := 117) rfl dX9_countUnions_1 (pc' := 4) rfl ?_
  refine kj_iconst dX9_countUnions_4 (pc' := 5) rfl kc_0 ?_
  obtain ⟨σ1, hσ1, hT⟩ := bind_some' hT
  refine kcSv (as := [.inr 117, .inl 0]) (st := []) l_RX9_22 (m_J7_fill_53178 (Nat.zero_le _) rfl (Nat.lt_of_lt_of_le (Nat.le_of_ble_eq_true rfl : 117 < 120) hE.1) σ 0 hσ1) rfl ⟨⟨rfl, rfl⟩, Nat.le_of_ble_eq_true rfl, Nat.le_of_ble_eq_true rfl⟩ (Nat.le_of_ble_eq_true rfl) dX9_countUnions_5 (pc' := 8) rfl ?_
  refine kj_aload_n dX9_countUnions_8 (pc' := 9) rfl rfl rfl ?_
  refine kj_getR f_RX9_15 rfl (Nat.lt_of_lt_of_le (Nat.le_of_ble_eq_true rfl : 116 < 120) hE.1) (hE.2 _ _) (q := 117) rfl dX9_countUnions_9 (pc' := 12) rfl ?_
  refine kj_iconst dX9_countUnions_12 (pc' := 13) rfl kc_0 ?_
  refine kj_iconst dX9_countUnions_13 (pc' := 14) rfl kc_1 ?_
  refine kj_iast rfl (Nat.lt_of_lt_of_le (Nat.le_of_ble_eq_true rfl : 117 < 120) hE.1) (vp_lit (by decide +kernel)) (j := 0) (by decide +kernel) dX9_countUnions_14 (pc' := 15) rfl ?_
  refine kj_iconst dX9_countUnions_15 (pc' := 16) rfl kc_1 ?_
  refine kj_istore_n dX9_countUnions_16 (pc' := 17) rfl rfl (Nat.le_of_ble_eq_true rfl) (ls' := [some (.inr 116), some (.inr q1), some (.inl x2), some (.inl 1)]) rfl ?_
  refine kj_iconst dX9_countUnions_17 (pc' := 18) rfl kc_0 ?_
  refine kj_istore dX9_countUnions_18 (pc' := 20) rfl (Nat.le_of_ble_eq_true rfl) (ls' := [some (.inr 116), some (.inr q1), some (.inl x2), some (.inl 1), some (.inl 0)]) rfl ?_
  refine lp_ind (P := fun s => KJ E mX9_countUnions rmX9_countUnions 20 [some (.inr 116), some (.inr q1), some (.inl x2), some (.inl s.1), some (.inl s.2.1)] [] s.2.2 Q) (fun rec20 s ih20 hT => ?_) FU (1, 0, up σ1 117 0 1) hT
  obtain ⟨x3, x4, σ⟩ := s
  show KJ E mX9_countUnions rmX9_countUnions 20 [some (.inr 116), some (.inr q1), some (.inl x2), some (.inl x3), some (.inl x4)] [] σ Q
  rw [X9_countUnions_B20] at hT
  have hJ112_20 : ∀ y3 y4 ς, X9_countUnions_J112 rec20 y3 y4 ς = some res → KJ E mX9_countUnions rmX9_countUnions 112 [some (.inr 116), some (.inr q1), some (.inl x2), some (.inl y3), some (.inl y4)] [] ς Q := by
    intro y3 y4 ς hT
    unfold X9_countUnions_J112 at hT
    refine kj_iinc dX9_countUnions_112 (pc' := 115) rfl rfl (congrArg (_ + ·) kc_1) (Nat.le_of_ble_eq_true rfl) (ls' := [some (.inr 116), some (.inr q1), some (.inl x2), some (.inl y3), some (.inl (y4 + 1))]) rfl ?_
    refine kj_goto dX9_countUnions_115 (pc' := 20) rfl ?_
    exact ih20 (y3, y4 + 1, ς) hT
  refine kj_iload dX9_countUnions_20 (pc' := 22) rfl rfl ?_
  refine kj_aload_n dX9_countUnions_22 (pc' := 23) rfl rfl rfl ?_
  refine kj_getI f_RX9_28 hq1 (Nat.lt_of_lt_of_le (kn4_0 hq1) hE.1) dX9_countUnions_23 (pc' := 26) rfl ?_
  refine kj_icmp_ge dX9_countUnions_26 (tgt := 118) rfl (pc' := 29) rfl (fun c2 => ?_) (fun c2 => ?_)
  · rw [if_pos c2] at hT
    refine kj_iload_n dX9_countUnions_118 (pc' := 119) rfl rfl rfl ?_
    have hR := Option.some.inj hT
    subst hR
    exact kj_iret rfl dX9_countUnions_119 (by subst hQ; exact ⟨rfl, rfl⟩)
  · rw [if_neg c2] at hT
    refine kj_iconst dX9_countUnions_29 (pc' := 30) rfl kc_0 ?_
    refine kj_istore dX9_countUnions_30 (pc' := 32) rfl (Nat.le_of_ble_eq_true rfl) (ls' := [some (.inr 116), some (.inr q1), some (.inl x2), some (.inl x3), some (.inl x4), some (.inl 0)]) rfl ?_
    have hX32 : ∀ x3 σ, X9_countUnions_T112 rec20 x4 x3 σ = some res → KJ E mX9_countUnions rmX9_countUnions 112 [some (.inr 116), some (.inr q1), some (.inl x2), some (.inl x3), some (.inl x4)] [] σ Q := by
      intro x3 σ hT
      unfold X9_countUnions_T112 at hT
      exact hJ112_20 x3 x4 σ hT
    refine lp_ind (P := fun s => KJ E mX9_countUnions rmX9_countUnions 32 [some (.inr 116), some (.inr q1), some (.inl x2), some (.inl s.1), some (.inl x4), some (.inl s.2.1)] [] s.2.2 Q) (fun rec32 s ih32 hT => ?_) FU (x3, 0, σ) hT
    obtain ⟨x3, x5, σ⟩ := s
    show KJ E mX9_countUnions rmX9_countUnions 32 [some (.inr 116), some (.inr q1), some (.inl x2), some (.inl x3), some (.inl x4), some (.inl x5)] [] σ Q
    rw [X9_countUnions_B32] at hT
    have hJ106_20_32 : ∀ y3 y5 ς, X9_countUnions_J106 rec32 y3 y5 ς = some res → KJ E mX9_countUnions rmX9_countUnions 106 [some (.inr 116), some (.inr q1), some (.inl x2), some (.inl y3), some (.inl x4), some (.inl y5)] [] ς Q := by
      intro y3 y5 ς hT
      unfold X9_countUnions_J106 at hT
      refine kj_iinc dX9_countUnions_106 (pc' := 109) rfl rfl (congrArg (_ + ·) kc_1) (Nat.le_of_ble_eq_true rfl) (ls' := [some (.inr 116), some (.inr q1), some (.inl x2), some (.inl y3), some (.inl x4), some (.inl (y5 + 1))]) rfl ?_
      refine kj_goto dX9_countUnions_109 (pc' := 32) rfl ?_
      exact ih32 (y3, y5 + 1, ς) hT
    refine kj_iload dX9_countUnions_32 (pc' := 34) rfl rfl ?_
    refine kj_aload_n dX9_countUnions_34 (pc' := 35) rfl rfl rfl ?_
    refine kj_getR f_RX9_15 rfl (Nat.lt_of_lt_of_le (Nat.le_of_ble_eq_true rfl : 116 < 120) hE.1) (hE.2 _ _) (q := 117) rfl dX9_countUnions_35 (pc' := 38) rfl ?_
    refine kj_alen (n := 0) (v := 128) 0 (ty := .int) rfl (by decide) rfl (Nat.lt_of_lt_of_le (Nat.le_of_ble_eq_true rfl : 117 < 120) hE.1) (by decide +kernel) dX9_countUnions_38 (pc' := 39) rfl ?_
    refine kj_icmp_ge dX9_countUnions_39 (tgt := 112) rfl (pc' := 42) rfl (fun c3 => ?_) (fun c3 => ?_)
    · rw [if_pos c3] at hT
      refine kj_keep [true, true, true, true, true] (ls' := [some (.inr 116), some (.inr q1), some (.inl x2), some (.inl x3), some (.inl x4)]) rfl ?_
      exact hX32 x3 σ hT
    · rw [if_neg c3] at hT
      refine kj_iload dX9_countUnions_42 (pc' := 44) rfl rfl ?_
      refine kj_iload_n dX9_countUnions_44 (pc' := 45) rfl rfl rfl ?_
      refine kj_icmp_eq dX9_countUnions_45 (tgt := 112) rfl (pc' := 48) rfl (fun c4 => ?_) (fun c4 => ?_)
      · rw [if_pos c4] at hT
        refine kj_keep [true, true, true, true, true] (ls' := [some (.inr 116), some (.inr q1), some (.inl x2), some (.inl x3), some (.inl x4)]) rfl ?_
        exact hX32 x3 σ hT
      · rw [if_neg c4] at hT
        refine kj_iload dX9_countUnions_48 (pc' := 50) rfl rfl ?_
        refine kj_aload_n dX9_countUnions_50 (pc' := 51) rfl rfl rfl ?_
        refine kj_iload dX9_countUnions_51 (pc' := 53) rfl rfl ?_
        obtain ⟨t5, ht5, hT⟩ := bind_some' hT
        refine kcVi (as := [.inl x4]) (st := [.inl x5]) l_RX9_34 (m_X4_at hE hq1 σ x4 ht5) hq1 (Nat.lt_of_lt_of_le (kn4_0 hq1) hE.1) rfl ⟨⟨rfl, rfl⟩, Nat.le_of_ble_eq_true rfl, Nat.le_of_ble_eq_true rfl⟩ (Nat.le_of_ble_eq_true rfl) dX9_countUnions_53 (pc' := 56) rfl ?_
        refine kj_ior dX9_countUnions_56 (pc' := 57) rfl ?_
        refine kj_istore dX9_countUnions_57 (pc' := 59) rfl (Nat.le_of_ble_eq_true rfl) (ls' := [some (.inr 116), some (.inr q1), some (.inl x2), some (.inl x3), some (.inl x4), some (.inl x5), some (.inl (x5 ||| t5))]) rfl ?_
        refine kj_aload_n dX9_countUnions_59 (pc' := 60) rfl rfl rfl ?_
        refine kj_getR f_RX9_15 rfl (Nat.lt_of_lt_of_le (Nat.le_of_ble_eq_true rfl : 116 < 120) hE.1) (hE.2 _ _) (q := 117) rfl dX9_countUnions_60 (pc' := 63) rfl ?_
        refine kj_iload dX9_countUnions_63 (pc' := 65) rfl rfl ?_
        obtain ⟨hi6, hT⟩ := ckA_some hT
        refine kj_iald rfl (Nat.lt_of_lt_of_le (Nat.le_of_ble_eq_true rfl : 117 < 120) hE.1) hi6 rfl dX9_countUnions_65 (pc' := 66) rfl ?_
        refine kj_iconst dX9_countUnions_66 (pc' := 67) rfl kc_1 ?_
        refine kj_icmp_ne dX9_countUnions_67 (tgt := 106) rfl (pc' := 70) rfl (fun c7 => ?_) (fun c7 => ?_)
        · rw [if_neg c7] at hT
          refine kj_keep [true, true, true, true, true, true] (ls' := [some (.inr 116), some (.inr q1), some (.inl x2), some (.inl x3), some (.inl x4), some (.inl x5)]) rfl ?_
          exact hJ106_20_32 x3 x5 σ hT
        · rw [if_pos c7] at hT
          refine kj_iload dX9_countUnions_70 (pc' := 72) rfl rfl ?_
          refine kj_if_lt dX9_countUnions_72 (tgt := 106) rfl (pc' := 75) rfl (fun c8 => ?_) (fun c8 => ?_)
          · rw [if_pos c8] at hT
            refine kj_keep [true, true, true, true, true, true] (ls' := [some (.inr 116), some (.inr q1), some (.inl x2), some (.inl x3), some (.inl x4), some (.inl x5)]) rfl ?_
            exact hJ106_20_32 x3 x5 σ hT
          · rw [if_neg c8] at hT
            refine kj_iload dX9_countUnions_75 (pc' := 77) rfl rfl ?_
            refine kj_aload_n dX9_countUnions_77 (pc' := 78) rfl rfl rfl ?_
            refine kj_getR f_RX9_15 rfl (Nat.lt_of_lt_of_le (Nat.le_of_ble_eq_true rfl : 116 < 120) hE.1) (hE.2 _ _) (q := 117) rfl dX9_countUnions_78 (pc' := 81) rfl ?_
            refine kj_alen (n := 0) (v := 128) 0 (ty := .int) rfl (by decide) rfl (Nat.lt_of_lt_of_le (Nat.le_of_ble_eq_true rfl : 117 < 120) hE.1) (by decide +kernel) dX9_countUnions_81 (pc' := 82) rfl ?_
            refine kj_icmp_ge dX9_countUnions_82 (tgt := 106) rfl (pc' := 85) rfl (fun c9 => ?_) (fun c9 => ?_)
            · rw [if_pos c9] at hT
              refine kj_keep [true, true, true, true, true, true] (ls' := [some (.inr 116), some (.inr q1), some (.inl x2), some (.inl x3), some (.inl x4), some (.inl x5)]) rfl ?_
              exact hJ106_20_32 x3 x5 σ hT
            · rw [if_neg c9] at hT
              refine kj_aload_n dX9_countUnions_85 (pc' := 86) rfl rfl rfl ?_
              refine kj_getR f_RX9_15 rfl (Nat.lt_of_lt_of_le (Nat.le_of_ble_eq_true rfl : 116 < 120) hE.1) (hE.2 _ _) (q := 117) rfl dX9_countUnions_86 (pc' := 89) rfl ?_
              refine kj_iload dX9_countUnions_89 (pc' := 91) rfl rfl ?_
              obtain ⟨hi10, hT⟩ := ckA_some hT
              refine kj_iald rfl (Nat.lt_of_lt_of_le (Nat.le_of_ble_eq_true rfl : 117 < 120) hE.1) hi10 rfl dX9_countUnions_91 (pc' := 92) rfl ?_
              refine kj_if_ne dX9_countUnions_92 (tgt := 106) rfl (pc' := 95) rfl (fun c11 => ?_) (fun c11 => ?_)
              · rw [if_neg c11] at hT
                refine kj_keep [true, true, true, true, true, true] (ls' := [some (.inr 116), some (.inr q1), some (.inl x2), some (.inl x3), some (.inl x4), some (.inl x5)]) rfl ?_
                exact hJ106_20_32 x3 x5 σ hT
              · rw [if_pos c11] at hT
                refine kj_aload_n dX9_countUnions_95 (pc' := 96) rfl rfl rfl ?_
                refine kj_getR f_RX9_15 rfl (Nat.lt_of_lt_of_le (Nat.le_of_ble_eq_true rfl : 116 < 120) hE.1) (hE.2 _ _) (q := 117) rfl dX9_countUnions_96 (pc' := 99) rfl ?_
                refine kj_iload dX9_countUnions_99 (pc' := 101) rfl rfl ?_
                refine kj_iconst dX9_countUnions_101 (pc' := 102) rfl kc_1 ?_
                obtain ⟨hi12, hT⟩ := ckA_some hT
                refine kj_iast rfl (Nat.lt_of_lt_of_le (Nat.le_of_ble_eq_true rfl : 117 < 120) hE.1) hi12 rfl dX9_countUnions_102 (pc' := 103) rfl ?_
                refine kj_iinc dX9_countUnions_103 (pc' := 106) rfl rfl (congrArg (_ + ·) kc_1) (Nat.le_of_ble_eq_true rfl) (ls' := [some (.inr 116), some (.inr q1), some (.inl x2), some (.inl (x3 + 1)), some (.inl x4), some (.inl x5), some (.inl (x5 ||| t5))]) rfl ?_
                refine kj_keep [true, true, true, true, true, true] (ls' := [some (.inr 116), some (.inr q1), some (.inl x2), some (.inl (x3 + 1)), some (.inl x4), some (.inl x5)]) rfl ?_
                exact hJ106_20_32 (x3 + 1) x5 (up σ 117 ((x5 ||| t5).toNatClampNeg) 1) hT
def X9_addPoints_B2 (x1 : Int32) (rec2 : Int32 × Wd → Option (Wd)) : Int32 × Wd → Option (Wd)
  | (x2, σ) => (if 7 ≤ x2 then some σ else (ckA x2 7 <| (ckA x2 7 <| rec2 (x2 + 1, up σ 118 x2.toNatClampNeg ((σ 118 x2.toNatClampNeg) + ((x1 >>> (x2 &&& 31)) &&& 1))))))
def X9_addPoints (σ : Wd) (x1 : Int32) : Option (Wd) :=
  (lp (X9_addPoints_B2 x1) FU (0, σ))
set_option maxRecDepth 100000 in
set_option maxHeartbeats 4000000 in
theorem m_X9_addPoints {E : JE} (hE : kOk 120 E) (σ : Wd) (x1 : Int32) {res : Wd} (hT : X9_addPoints σ x1 = some res) : kMt E yX9_addPoints mX9_addPoints rmX9_addPoints [.inr 116, .inl x1] σ (kQv res) := by
  refine kMt_of (by decide +kernel) rfl (Nat.le_of_ble_eq_true rfl) ?_
  generalize hQ : (kQv res) = Q
  show KJ E mX9_addPoints rmX9_addPoints 0 [some (.inr 116), some (.inl x1)] [] σ Q
  unfold X9_addPoints at hT
  refine kj_iconst dX9_addPoints_0 (pc' := 1) rfl kc_0 ?_
  refine kj_istore_n dX9_addPoints_1 (pc' := 2) rfl rfl (Nat.le_of_ble_eq_true rfl) (ls' := [some (.inr 116), some (.inl x1), some (.inl 0)]) rfl ?_
  refine lp_ind (P := fun s => KJ E mX9_addPoints rmX9_addPoints 2 [some (.inr 116), some (.inl x1), some (.inl s.1)] [] s.2 Q) (fun rec2 s ih2 hT => ?_) FU (0, σ) hT
  obtain ⟨x2, σ⟩ := s
  show KJ E mX9_addPoints rmX9_addPoints 2 [some (.inr 116), some (.inl x1), some (.inl x2)] [] σ Q
  rw [X9_addPoints_B2] at hT
  refine kj_iload_n dX9_addPoints_2 (pc' := 3) rfl rfl rfl ?_
  refine kj_aload_n dX9_addPoints_3 (pc' := 4) rfl rfl rfl ?_
  refine kj_getR f_RX9_19 rfl (Nat.lt_of_lt_of_le (Nat.le_of_ble_eq_true rfl : 116 < 120) hE.1) (hE.2 _ _) (q := 118) rfl dX9_addPoints_4 (pc' := 7) rfl ?_
  refine kj_alen (n := 0) (v := 7) 0 (ty := .int) rfl (by decide) rfl (Nat.lt_of_lt_of_le (Nat.le_of_ble_eq_true rfl : 118 < 120) hE.1) (by decide +kernel) dX9_addPoints_7 (pc' := 8) rfl ?_
  refine kj_icmp_ge dX9_addPoints_8 (tgt := 31) rfl (pc' := 11) rfl (fun c1 => ?_) (fun c1 => ?_)
  · rw [if_pos c1] at hT
    have hR := Option.some.inj hT
    subst hR
    exact kj_vret rfl dX9_addPoints_31 (by subst hQ; exact ⟨rfl, rfl⟩)
  · rw [if_neg c1] at hT
    refine kj_aload_n dX9_addPoints_11 (pc' := 12) rfl rfl rfl ?_
    refine kj_getR f_RX9_19 rfl (Nat.lt_of_lt_of_le (Nat.le_of_ble_eq_true rfl : 116 < 120) hE.1) (hE.2 _ _) (q := 118) rfl dX9_addPoints_12 (pc' := 15) rfl ?_
    refine kj_iload_n dX9_addPoints_15 (pc' := 16) rfl rfl rfl ?_
    refine kj_dup2 dX9_addPoints_16 (pc' := 17) rfl ?_
    obtain ⟨hi2, hT⟩ := ckA_some hT
    refine kj_iald rfl (Nat.lt_of_lt_of_le (Nat.le_of_ble_eq_true rfl : 118 < 120) hE.1) hi2 rfl dX9_addPoints_17 (pc' := 18) rfl ?_
    refine kj_iload_n dX9_addPoints_18 (pc' := 19) rfl rfl rfl ?_
    refine kj_iload_n dX9_addPoints_19 (pc' := 20) rfl rfl rfl ?_
    refine kj_ishr dX9_addPoints_20 (pc' := 21) rfl ?_
    refine kj_iconst dX9_addPoints_21 (pc' := 22) rfl kc_1 ?_
    refine kj_iand dX9_addPoints_22 (pc' := 23) rfl ?_
    refine kj_iadd dX9_addPoints_23 (pc' := 24) rfl ?_
    obtain ⟨hi3, hT⟩ := ckA_some hT
    refine kj_iast rfl (Nat.lt_of_lt_of_le (Nat.le_of_ble_eq_true rfl : 118 < 120) hE.1) hi3 rfl dX9_addPoints_24 (pc' := 25) rfl ?_
    refine kj_iinc dX9_addPoints_25 (pc' := 28) rfl rfl (congrArg (_ + ·) kc_1) (Nat.le_of_ble_eq_true rfl) (ls' := [some (.inr 116), some (.inl x1), some (.inl (x2 + 1))]) rfl ?_
    refine kj_goto dX9_addPoints_28 (pc' := 2) rfl ?_
    exact ih2 (x2 + 1, up σ 118 x2.toNatClampNeg ((σ 118 x2.toNatClampNeg) + ((x1 >>> (x2 &&& 31)) &&& 1))) hT
def X9_gain_J115 (rec20 : Int32 × Int32 × Wd → Option (Int32 × Wd)) (y2 : Int32) (y3 : Int32) (ς : Wd) : Option (Int32 × Wd) :=
  rec20 (y2, y3 + 1, ς)
def X9_gain_J68 (rec20 : Int32 × Int32 × Wd → Option (Int32 × Wd)) (y2 : Int32) (y3 : Int32) (y4 : Int32) (y5 : Int32) (ς : Wd) : Option (Int32 × Wd) :=
  (if y5 = 0 then X9_gain_J115 rec20 y2 y3 ς else (if y4 < 0 then X9_gain_J115 rec20 y2 y3 ς else (if 128 ≤ y4 then X9_gain_J115 rec20 y2 y3 ς else (ckA y4 128 <| (if (ς 117 y4.toNatClampNeg) = 0 then (ckA y4 128 <| ((X9_addPoints (up ς 117 y4.toNatClampNeg 1) y4).bind fun σ13 => X9_gain_J115 rec20 (y2 + 1) y3 σ13)) else X9_gain_J115 rec20 y2 y3 ς)))))
def X9_gain_B20 (x1 : Int32) (rec20 : Int32 × Int32 × Wd → Option (Int32 × Wd)) : Int32 × Int32 × Wd → Option (Int32 × Wd)
  | (x2, x3, σ) => (if (σ 95 1) ≤ x3 then some (x2, σ) else ((X4_at σ 95 x3).bind fun t4 => ((X0_numberOf σ (t4 ||| x1)).bind fun t5 => (if 0 ≤ t5 then X9_gain_J68 rec20 x2 x3 (t4 ||| x1) 0 σ else X9_gain_J68 rec20 x2 x3 (t4 ||| x1) 1 σ))))
def X9_gain (σ : Wd) (x1 : Int32) : Option (Int32 × Wd) :=
  ((J7_fill_53178 σ 117 0).bind fun σ1 => ((J7_fill_53178 σ1 118 0).bind fun σ2 => (lp (X9_gain_B20 x1) FU (0, 0, σ2))))
set_option maxRecDepth 100000 in
set_option maxHeartbeats 4000000 in
theorem m_X9_gain {E : JE} (hE : kOk 120 E) (σ : Wd) (x1 : Int32) {res : Int32 × Wd} (hT : X9_gain σ x1 = some res) : kMt E yX9_gain mX9_gain rmX9_gain [.inr 116, .inl x1] σ (kQi res.1 res.2) := by
  refine kMt_of (by decide +kernel) rfl (Nat.le_of_ble_eq_true rfl) ?_
  generalize hQ : (kQi res.1 res.2) = Q
  show KJ E mX9_gain rmX9_gain 0 [some (.inr 116), some (.inl x1)] [] σ Q
  unfold X9_gain at hT
  refine kj_aload_n dX9_gain_0 (pc' := 1) rfl rfl rfl ?_
  refine kj_getR f_RX9_15 rfl (Nat.lt_of_lt_of_le (Nat.le_of_ble_eq_true rfl : 116 < 120) hE.1) (hE.2 _ _) (q := 117) rfl dX9_gain_1 (pc' := 4) rfl ?_
  refine kj_iconst dX9_gain_4 (pc' := 5) rfl kc_0 ?_
  obtain ⟨σ1, hσ1, hT⟩ := bind_some' hT
  refine kcSv (as := [.inr 117, .inl 0]) (st := []) l_RX9_22 (m_J7_fill_53178 (Nat.zero_le _) rfl (Nat.lt_of_lt_of_le (Nat.le_of_ble_eq_true rfl : 117 < 120) hE.1) σ 0 hσ1) rfl ⟨⟨rfl, rfl⟩, Nat.le_of_ble_eq_true rfl, Nat.le_of_ble_eq_true rfl⟩ (Nat.le_of_ble_eq_true rfl) dX9_gain_5 (pc' := 8) rfl ?_
  refine kj_aload_n dX9_gain_8 (pc' := 9) rfl rfl rfl ?_
  refine kj_getR f_RX9_19 rfl (Nat.lt_of_lt_of_le (Nat.le_of_ble_eq_true rfl : 116 < 120) hE.1) (hE.2 _ _) (q := 118) rfl dX9_gain_9 (pc' := 12) rfl ?_
  refine kj_iconst dX9_gain_12 (pc' := 13) rfl kc_0 ?_
  obtain ⟨σ2, hσ2, hT⟩ := bind_some' hT
  refine kcSv (as := [.inr 118, .inl 0]) (st := []) l_RX9_22 (m_J7_fill_53178 (Nat.zero_le _) rfl (Nat.lt_of_lt_of_le (Nat.le_of_ble_eq_true rfl : 118 < 120) hE.1) σ1 0 hσ2) rfl ⟨⟨rfl, rfl⟩, Nat.le_of_ble_eq_true rfl, Nat.le_of_ble_eq_true rfl⟩ (Nat.le_of_ble_eq_true rfl) dX9_gain_13 (pc' := 16) rfl ?_
  refine kj_iconst dX9_gain_16 (pc' := 17) rfl kc_0 ?_
  refine kj_istore_n dX9_gain_17 (pc' := 18) rfl rfl (Nat.le_of_ble_eq_true rfl) (ls' := [some (.inr 116), some (.inl x1), some (.inl 0)]) rfl ?_
  refine kj_iconst dX9_gain_18 (pc' := 19) rfl kc_0 ?_
  refine kj_istore_n dX9_gain_19 (pc' := 20) rfl rfl (Nat.le_of_ble_eq_true rfl) (ls' := [some (.inr 116), some (.inl x1), some (.inl 0), some (.inl 0)]) rfl ?_
  refine lp_ind (P := fun s => KJ E mX9_gain rmX9_gain 20 [some (.inr 116), some (.inl x1), some (.inl s.1), some (.inl s.2.1)] [] s.2.2 Q) (fun rec20 s ih20 hT => ?_) FU (0, 0, σ2) hT
  obtain ⟨x2, x3, σ⟩ := s
  show KJ E mX9_gain rmX9_gain 20 [some (.inr 116), some (.inl x1), some (.inl x2), some (.inl x3)] [] σ Q
  rw [X9_gain_B20] at hT
  have hJ115_20 : ∀ y2 y3 ς, X9_gain_J115 rec20 y2 y3 ς = some res → KJ E mX9_gain rmX9_gain 115 [some (.inr 116), some (.inl x1), some (.inl y2), some (.inl y3)] [] ς Q := by
    intro y2 y3 ς hT
    unfold X9_gain_J115 at hT
    refine kj_iinc dX9_gain_115 (pc' := 118) rfl rfl (congrArg (_ + ·) kc_1) (Nat.le_of_ble_eq_true rfl) (ls' := [some (.inr 116), some (.inl x1), some (.inl y2), some (.inl (y3 + 1))]) rfl ?_
    refine kj_goto dX9_gain_118 (pc' := 20) rfl ?_
    exact ih20 (y2, y3 + 1, ς) hT
  have hJ68_20 : ∀ y2 y3 y4 y5 ς, X9_gain_J68 rec20 y2 y3 y4 y5 ς = some res → KJ E mX9_gain rmX9_gain 68 [some (.inr 116), some (.inl x1), some (.inl y2), some (.inl y3), some (.inl y4), some (.inl y5)] [] ς Q := by
    intro y2 y3 y4 y5 ς hT
    unfold X9_gain_J68 at hT
    refine kj_iload dX9_gain_68 (pc' := 70) rfl rfl ?_
    refine kj_if_eq dX9_gain_70 (tgt := 115) rfl (pc' := 73) rfl (fun c7 => ?_) (fun c7 => ?_)
    · rw [if_pos c7] at hT
      refine kj_keep [true, true, true, true] (ls' := [some (.inr 116), some (.inl x1), some (.inl y2), some (.inl y3)]) rfl ?_
      exact hJ115_20 y2 y3 ς hT
    · rw [if_neg c7] at hT
      refine kj_iload dX9_gain_73 (pc' := 75) rfl rfl ?_
      refine kj_if_lt dX9_gain_75 (tgt := 115) rfl (pc' := 78) rfl (fun c8 => ?_) (fun c8 => ?_)
      · rw [if_pos c8] at hT
        refine kj_keep [true, true, true, true] (ls' := [some (.inr 116), some (.inl x1), some (.inl y2), some (.inl y3)]) rfl ?_
        exact hJ115_20 y2 y3 ς hT
      · rw [if_neg c8] at hT
        refine kj_iload dX9_gain_78 (pc' := 80) rfl rfl ?_
        refine kj_aload_n dX9_gain_80 (pc' := 81) rfl rfl rfl ?_
        refine kj_getR f_RX9_15 rfl (Nat.lt_of_lt_of_le (Nat.le_of_ble_eq_true rfl : 116 < 120) hE.1) (hE.2 _ _) (q := 117) rfl dX9_gain_81 (pc' := 84) rfl ?_
        refine kj_alen (n := 0) (v := 128) 0 (ty := .int) rfl (by decide) rfl (Nat.lt_of_lt_of_le (Nat.le_of_ble_eq_true rfl : 117 < 120) hE.1) (by decide +kernel) dX9_gain_84 (pc' := 85) rfl ?_
        refine kj_icmp_ge dX9_gain_85 (tgt := 115) rfl (pc' := 88) rfl (fun c9 => ?_) (fun c9 => ?_)
        · rw [if_pos c9] at hT
          refine kj_keep [true, true, true, true] (ls' := [some (.inr 116), some (.inl x1), some (.inl y2), some (.inl y3)]) rfl ?_
          exact hJ115_20 y2 y3 ς hT
        · rw [if_neg c9] at hT
          refine kj_aload_n dX9_gain_88 (pc' := 89) rfl rfl rfl ?_
          refine kj_getR f_RX9_15 rfl (Nat.lt_of_lt_of_le (Nat.le_of_ble_eq_true rfl : 116 < 120) hE.1) (hE.2 _ _) (q := 117) rfl dX9_gain_89 (pc' := 92) rfl ?_
          refine kj_iload dX9_gain_92 (pc' := 94) rfl rfl ?_
          obtain ⟨hi10, hT⟩ := ckA_some hT
          refine kj_iald rfl (Nat.lt_of_lt_of_le (Nat.le_of_ble_eq_true rfl : 117 < 120) hE.1) hi10 rfl dX9_gain_94 (pc' := 95) rfl ?_
          refine kj_if_ne dX9_gain_95 (tgt := 115) rfl (pc' := 98) rfl (fun c11 => ?_) (fun c11 => ?_)
          · rw [if_neg c11] at hT
            refine kj_keep [true, true, true, true] (ls' := [some (.inr 116), some (.inl x1), some (.inl y2), some (.inl y3)]) rfl ?_
            exact hJ115_20 y2 y3 ς hT
          · rw [if_pos c11] at hT
            refine kj_aload_n dX9_gain_98 (pc' := 99) rfl rfl rfl ?_
            refine kj_getR f_RX9_15 rfl (Nat.lt_of_lt_of_le (Nat.le_of_ble_eq_true rfl : 116 < 120) hE.1) (hE.2 _ _) (q := 117) rfl dX9_gain_99 (pc' := 102) rfl ?_
            refine kj_iload dX9_gain_102 (pc' := 104) rfl rfl ?_
            refine kj_iconst dX9_gain_104 (pc' := 105) rfl kc_1 ?_
            obtain ⟨hi12, hT⟩ := ckA_some hT
            refine kj_iast rfl (Nat.lt_of_lt_of_le (Nat.le_of_ble_eq_true rfl : 117 < 120) hE.1) hi12 rfl dX9_gain_105 (pc' := 106) rfl ?_
            refine kj_iinc dX9_gain_106 (pc' := 109) rfl rfl (congrArg (_ + ·) kc_1) (Nat.le_of_ble_eq_true rfl) (ls' := [some (.inr 116), some (.inl x1), some (.inl (y2 + 1)), some (.inl y3), some (.inl y4), some (.inl y5)]) rfl ?_
            refine kj_aload_n dX9_gain_109 (pc' := 110) rfl rfl rfl ?_
            refine kj_iload dX9_gain_110 (pc' := 112) rfl rfl ?_
            obtain ⟨σ13, hσ13, hT⟩ := bind_some' hT
            refine kcVv (as := [.inl y4]) (st := []) l_RX9_47 (m_X9_addPoints hE (up ς 117 y4.toNatClampNeg 1) y4 hσ13) rfl (Nat.lt_of_lt_of_le (Nat.le_of_ble_eq_true rfl : 116 < 120) hE.1) rfl ⟨⟨rfl, rfl⟩, Nat.le_of_ble_eq_true rfl, Nat.le_of_ble_eq_true rfl⟩ (Nat.le_of_ble_eq_true rfl) dX9_gain_112 (pc' := 115) rfl ?_
            refine kj_keep [true, true, true, true] (ls' := [some (.inr 116), some (.inl x1), some (.inl (y2 + 1)), some (.inl y3)]) rfl ?_
            exact hJ115_20 (y2 + 1) y3 σ13 hT
  refine kj_iload_n dX9_gain_20 (pc' := 21) rfl rfl rfl ?_
  refine kj_aload_n dX9_gain_21 (pc' := 22) rfl rfl rfl ?_
  refine kj_getR f_RX9_9 rfl (Nat.lt_of_lt_of_le (Nat.le_of_ble_eq_true rfl : 116 < 120) hE.1) (hE.2 _ _) (q := 93) rfl dX9_gain_22 (pc' := 25) rfl ?_
  refine kj_getR f_RX9_38 rfl (Nat.lt_of_lt_of_le (Nat.le_of_ble_eq_true rfl : 93 < 120) hE.1) (hE.2 _ _) (q := 95) rfl dX9_gain_25 (pc' := 28) rfl ?_
  refine kj_getI f_RX9_28 rfl (Nat.lt_of_lt_of_le (Nat.le_of_ble_eq_true rfl : 95 < 120) hE.1) dX9_gain_28 (pc' := 31) rfl ?_
  refine kj_icmp_ge dX9_gain_31 (tgt := 121) rfl (pc' := 34) rfl (fun c3 => ?_) (fun c3 => ?_)
  · rw [if_pos c3] at hT
    refine kj_iload_n dX9_gain_121 (pc' := 122) rfl rfl rfl ?_
    have hR := Option.some.inj hT
    subst hR
    exact kj_iret rfl dX9_gain_122 (by subst hQ; exact ⟨rfl, rfl⟩)
  · rw [if_neg c3] at hT
    refine kj_aload_n dX9_gain_34 (pc' := 35) rfl rfl rfl ?_
    refine kj_getR f_RX9_9 rfl (Nat.lt_of_lt_of_le (Nat.le_of_ble_eq_true rfl : 116 < 120) hE.1) (hE.2 _ _) (q := 93) rfl dX9_gain_35 (pc' := 38) rfl ?_
    refine kj_getR f_RX9_38 rfl (Nat.lt_of_lt_of_le (Nat.le_of_ble_eq_true rfl : 93 < 120) hE.1) (hE.2 _ _) (q := 95) rfl dX9_gain_38 (pc' := 41) rfl ?_
    refine kj_iload_n dX9_gain_41 (pc' := 42) rfl rfl rfl ?_
    obtain ⟨t4, ht4, hT⟩ := bind_some' hT
    refine kcVi (as := [.inl x3]) (st := []) l_RX9_34 (m_X4_at hE rfl σ x3 ht4) rfl (Nat.lt_of_lt_of_le (Nat.le_of_ble_eq_true rfl : 95 < 120) hE.1) rfl ⟨⟨rfl, rfl⟩, Nat.le_of_ble_eq_true rfl, Nat.le_of_ble_eq_true rfl⟩ (Nat.le_of_ble_eq_true rfl) dX9_gain_42 (pc' := 45) rfl ?_
    refine kj_iload_n dX9_gain_45 (pc' := 46) rfl rfl rfl ?_
    refine kj_ior dX9_gain_46 (pc' := 47) rfl ?_
    refine kj_istore dX9_gain_47 (pc' := 49) rfl (Nat.le_of_ble_eq_true rfl) (ls' := [some (.inr 116), some (.inl x1), some (.inl x2), some (.inl x3), some (.inl (t4 ||| x1))]) rfl ?_
    refine kj_aload_n dX9_gain_49 (pc' := 50) rfl rfl rfl ?_
    refine kj_getR f_RX9_9 rfl (Nat.lt_of_lt_of_le (Nat.le_of_ble_eq_true rfl : 116 < 120) hE.1) (hE.2 _ _) (q := 93) rfl dX9_gain_50 (pc' := 53) rfl ?_
    refine kj_iload dX9_gain_53 (pc' := 55) rfl rfl ?_
    obtain ⟨t5, ht5, hT⟩ := bind_some' hT
    refine kcVi (as := [.inl (t4 ||| x1)]) (st := []) l_RX9_44 (m_X0_numberOf hE σ (t4 ||| x1) ht5) rfl (Nat.lt_of_lt_of_le (Nat.le_of_ble_eq_true rfl : 93 < 120) hE.1) rfl ⟨⟨rfl, rfl⟩, Nat.le_of_ble_eq_true rfl, Nat.le_of_ble_eq_true rfl⟩ (Nat.le_of_ble_eq_true rfl) dX9_gain_55 (pc' := 58) rfl ?_
    refine kj_if_ge dX9_gain_58 (tgt := 65) rfl (pc' := 61) rfl (fun c6 => ?_) (fun c6 => ?_)
    · rw [if_pos c6] at hT
      refine kj_iconst dX9_gain_65 (pc' := 66) rfl kc_0 ?_
      refine kj_istore dX9_gain_66 (pc' := 68) rfl (Nat.le_of_ble_eq_true rfl) (ls' := [some (.inr 116), some (.inl x1), some (.inl x2), some (.inl x3), some (.inl (t4 ||| x1)), some (.inl 0)]) rfl ?_
      exact hJ68_20 x2 x3 (t4 ||| x1) 0 σ hT
    · rw [if_neg c6] at hT
      refine kj_iconst dX9_gain_61 (pc' := 62) rfl kc_1 ?_
      refine kj_goto dX9_gain_62 (pc' := 66) rfl ?_
      refine kj_istore dX9_gain_66 (pc' := 68) rfl (Nat.le_of_ble_eq_true rfl) (ls' := [some (.inr 116), some (.inl x1), some (.inl x2), some (.inl x3), some (.inl (t4 ||| x1)), some (.inl 1)]) rfl ?_
      exact hJ68_20 x2 x3 (t4 ||| x1) 1 σ hT
def X9_leastGain_J69 (rec8 : Int32 × Int32 × Int32 × Wd → Option (Int32 × Wd)) (y1 : Int32) (y2 : Int32) (y3 : Int32) (ς : Wd) : Option (Int32 × Wd) :=
  rec8 (y1, y2, y3 + 1, ς)
def X9_leastGain_B8 (rec8 : Int32 × Int32 × Int32 × Wd → Option (Int32 × Wd)) : Int32 × Int32 × Int32 × Wd → Option (Int32 × Wd)
  | (x1, x2, x3, σ) => (if 128 ≤ x3 then some (x1, σ) else ((X0_orderedSet σ x3).bind fun t2 => (if (X0_allPoints σ) < t2 then X9_leastGain_J69 rec8 x1 x2 x3 σ else ((X0_numberOf σ t2).bind fun t4 => (if 0 ≤ t4 then X9_leastGain_J69 rec8 x1 x2 x3 σ else ((X9_gain σ t2).bind fun (t6, σ7) => (if x2 ≤ t6 then X9_leastGain_J69 rec8 x1 x2 x3 σ7 else X9_leastGain_J69 rec8 t2 t6 x3 σ7)))))))
def X9_leastGain (σ : Wd) : Option (Int32 × Wd) :=
  (lp (X9_leastGain_B8) FU ((-2), 1000000, 1, σ))
set_option maxRecDepth 100000 in
set_option maxHeartbeats 4000000 in
theorem m_X9_leastGain {E : JE} (hE : kOk 120 E) (σ : Wd) {res : Int32 × Wd} (hT : X9_leastGain σ = some res) : kMt E yX9_leastGain mX9_leastGain rmX9_leastGain [.inr 116] σ (kQi res.1 res.2) := by
  refine kMt_of (by decide +kernel) rfl (Nat.le_of_ble_eq_true rfl) ?_
  generalize hQ : (kQi res.1 res.2) = Q
  show KJ E mX9_leastGain rmX9_leastGain 0 [some (.inr 116)] [] σ Q
  unfold X9_leastGain at hT
  refine kj_bipush dX9_leastGain_0 (pc' := 2) rfl kb_m2 ?_
  refine kj_istore_n dX9_leastGain_2 (pc' := 3) rfl rfl (Nat.le_of_ble_eq_true rfl) (ls' := [some (.inr 116), some (.inl (-2))]) rfl ?_
  refine kj_ldc (v := 1000000) (kMem 1071 (by decide +kernel) rfl) dX9_leastGain_3 (pc' := 5) rfl ?_
  refine kj_istore_n dX9_leastGain_5 (pc' := 6) rfl rfl (Nat.le_of_ble_eq_true rfl) (ls' := [some (.inr 116), some (.inl (-2)), some (.inl 1000000)]) rfl ?_
  refine kj_iconst dX9_leastGain_6 (pc' := 7) rfl kc_1 ?_
  refine kj_istore_n dX9_leastGain_7 (pc' := 8) rfl rfl (Nat.le_of_ble_eq_true rfl) (ls' := [some (.inr 116), some (.inl (-2)), some (.inl 1000000), some (.inl 1)]) rfl ?_
  refine lp_ind (P := fun s => KJ E mX9_leastGain rmX9_leastGain 8 [some (.inr 116), some (.inl s.1), some (.inl s.2.1), some (.inl s.2.2.1)] [] s.2.2.2 Q) (fun rec8 s ih8 hT => ?_) FU ((-2), 1000000, 1, σ) hT
  obtain ⟨x1, x2, x3, σ⟩ := s
  show KJ E mX9_leastGain rmX9_leastGain 8 [some (.inr 116), some (.inl x1), some (.inl x2), some (.inl x3)] [] σ Q
  rw [X9_leastGain_B8] at hT
  have hJ69_8 : ∀ y1 y2 y3 ς, X9_leastGain_J69 rec8 y1 y2 y3 ς = some res → KJ E mX9_leastGain rmX9_leastGain 69 [some (.inr 116), some (.inl y1), some (.inl y2), some (.inl y3)] [] ς Q := by
    intro y1 y2 y3 ς hT
    unfold X9_leastGain_J69 at hT
    refine kj_iinc dX9_leastGain_69 (pc' := 72) rfl rfl (congrArg (_ + ·) kc_1) (Nat.le_of_ble_eq_true rfl) (ls' := [some (.inr 116), some (.inl y1), some (.inl y2), some (.inl (y3 + 1))]) rfl ?_
    refine kj_goto dX9_leastGain_72 (pc' := 8) rfl ?_
    exact ih8 (y1, y2, y3 + 1, ς) hT
  refine kj_iload_n dX9_leastGain_8 (pc' := 9) rfl rfl rfl ?_
  refine kj_sipush dX9_leastGain_9 (pc' := 12) rfl ks_128 ?_
  refine kj_icmp_ge dX9_leastGain_12 (tgt := 75) rfl (pc' := 15) rfl (fun c1 => ?_) (fun c1 => ?_)
  · rw [if_pos c1] at hT
    refine kj_iload_n dX9_leastGain_75 (pc' := 76) rfl rfl rfl ?_
    have hR := Option.some.inj hT
    subst hR
    exact kj_iret rfl dX9_leastGain_76 (by subst hQ; exact ⟨rfl, rfl⟩)
  · rw [if_neg c1] at hT
    refine kj_aload_n dX9_leastGain_15 (pc' := 16) rfl rfl rfl ?_
    refine kj_getR f_RX9_9 rfl (Nat.lt_of_lt_of_le (Nat.le_of_ble_eq_true rfl : 116 < 120) hE.1) (hE.2 _ _) (q := 93) rfl dX9_leastGain_16 (pc' := 19) rfl ?_
    refine kj_iload_n dX9_leastGain_19 (pc' := 20) rfl rfl rfl ?_
    obtain ⟨t2, ht2, hT⟩ := bind_some' hT
    refine kcVi (as := [.inl x3]) (st := []) l_RX9_52 (m_X0_orderedSet hE σ x3 ht2) rfl (Nat.lt_of_lt_of_le (Nat.le_of_ble_eq_true rfl : 93 < 120) hE.1) rfl ⟨⟨rfl, rfl⟩, Nat.le_of_ble_eq_true rfl, Nat.le_of_ble_eq_true rfl⟩ (Nat.le_of_ble_eq_true rfl) dX9_leastGain_20 (pc' := 23) rfl ?_
    refine kj_istore dX9_leastGain_23 (pc' := 25) rfl (Nat.le_of_ble_eq_true rfl) (ls' := [some (.inr 116), some (.inl x1), some (.inl x2), some (.inl x3), some (.inl t2)]) rfl ?_
    refine kj_iload dX9_leastGain_25 (pc' := 27) rfl rfl ?_
    refine kj_aload_n dX9_leastGain_27 (pc' := 28) rfl rfl rfl ?_
    refine kj_getR f_RX9_9 rfl (Nat.lt_of_lt_of_le (Nat.le_of_ble_eq_true rfl : 116 < 120) hE.1) (hE.2 _ _) (q := 93) rfl dX9_leastGain_28 (pc' := 31) rfl ?_
    refine kcVi (as := []) (st := [.inl t2]) l_RX9_55 (m_X0_allPoints hE σ rfl) rfl (Nat.lt_of_lt_of_le (Nat.le_of_ble_eq_true rfl : 93 < 120) hE.1) rfl ⟨⟨rfl, rfl⟩, Nat.le_of_ble_eq_true rfl, Nat.le_of_ble_eq_true rfl⟩ (Nat.le_of_ble_eq_true rfl) dX9_leastGain_31 (pc' := 34) rfl ?_
    refine kj_icmp_gt dX9_leastGain_34 (tgt := 69) rfl (pc' := 37) rfl (fun c3 => ?_) (fun c3 => ?_)
    · rw [if_pos c3] at hT
      refine kj_keep [true, true, true, true] (ls' := [some (.inr 116), some (.inl x1), some (.inl x2), some (.inl x3)]) rfl ?_
      exact hJ69_8 x1 x2 x3 σ hT
    · rw [if_neg c3] at hT
      refine kj_aload_n dX9_leastGain_37 (pc' := 38) rfl rfl rfl ?_
      refine kj_getR f_RX9_9 rfl (Nat.lt_of_lt_of_le (Nat.le_of_ble_eq_true rfl : 116 < 120) hE.1) (hE.2 _ _) (q := 93) rfl dX9_leastGain_38 (pc' := 41) rfl ?_
      refine kj_iload dX9_leastGain_41 (pc' := 43) rfl rfl ?_
      obtain ⟨t4, ht4, hT⟩ := bind_some' hT
      refine kcVi (as := [.inl t2]) (st := []) l_RX9_44 (m_X0_numberOf hE σ t2 ht4) rfl (Nat.lt_of_lt_of_le (Nat.le_of_ble_eq_true rfl : 93 < 120) hE.1) rfl ⟨⟨rfl, rfl⟩, Nat.le_of_ble_eq_true rfl, Nat.le_of_ble_eq_true rfl⟩ (Nat.le_of_ble_eq_true rfl) dX9_leastGain_43 (pc' := 46) rfl ?_
      refine kj_if_ge dX9_leastGain_46 (tgt := 69) rfl (pc' := 49) rfl (fun c5 => ?_) (fun c5 => ?_)
      · rw [if_pos c5] at hT
        refine kj_keep [true, true, true, true] (ls' := [some (.inr 116), some (.inl x1), some (.inl x2), some (.inl x3)]) rfl ?_
        exact hJ69_8 x1 x2 x3 σ hT
      · rw [if_neg c5] at hT
        refine kj_aload_n dX9_leastGain_49 (pc' := 50) rfl rfl rfl ?_
        refine kj_iload dX9_leastGain_50 (pc' := 52) rfl rfl ?_
        obtain ⟨t6, ht6, hT⟩ := bind_some' hT
        obtain ⟨t6, σ7⟩ := t6
        dsimp only at hT
        refine kcVi (as := [.inl t2]) (st := []) l_RX9_59 (m_X9_gain hE σ t2 ht6) rfl (Nat.lt_of_lt_of_le (Nat.le_of_ble_eq_true rfl : 116 < 120) hE.1) rfl ⟨⟨rfl, rfl⟩, Nat.le_of_ble_eq_true rfl, Nat.le_of_ble_eq_true rfl⟩ (Nat.le_of_ble_eq_true rfl) dX9_leastGain_52 (pc' := 55) rfl ?_
        refine kj_istore dX9_leastGain_55 (pc' := 57) rfl (Nat.le_of_ble_eq_true rfl) (ls' := [some (.inr 116), some (.inl x1), some (.inl x2), some (.inl x3), some (.inl t2), some (.inl t6)]) rfl ?_
        refine kj_iload dX9_leastGain_57 (pc' := 59) rfl rfl ?_
        refine kj_iload_n dX9_leastGain_59 (pc' := 60) rfl rfl rfl ?_
        refine kj_icmp_ge dX9_leastGain_60 (tgt := 69) rfl (pc' := 63) rfl (fun c8 => ?_) (fun c8 => ?_)
        · rw [if_pos c8] at hT
          refine kj_keep [true, true, true, true] (ls' := [some (.inr 116), some (.inl x1), some (.inl x2), some (.inl x3)]) rfl ?_
          exact hJ69_8 x1 x2 x3 σ7 hT
        · rw [if_neg c8] at hT
          refine kj_iload dX9_leastGain_63 (pc' := 65) rfl rfl ?_
          refine kj_istore_n dX9_leastGain_65 (pc' := 66) rfl rfl (Nat.le_of_ble_eq_true rfl) (ls' := [some (.inr 116), some (.inl x1), some (.inl t6), some (.inl x3), some (.inl t2), some (.inl t6)]) rfl ?_
          refine kj_iload dX9_leastGain_66 (pc' := 68) rfl rfl ?_
          refine kj_istore_n dX9_leastGain_68 (pc' := 69) rfl rfl (Nat.le_of_ble_eq_true rfl) (ls' := [some (.inr 116), some (.inl t2), some (.inl t6), some (.inl x3), some (.inl t2), some (.inl t6)]) rfl ?_
          refine kj_keep [true, true, true, true] (ls' := [some (.inr 116), some (.inl t2), some (.inl t6), some (.inl x3)]) rfl ?_
          exact hJ69_8 t2 t6 x3 σ7 hT
def X9_countFrequentWith_J70 (rec22 : Int32 × Int32 → Option (Int32 × Wd)) (y3 : Int32) (y4 : Int32) : Option (Int32 × Wd) :=
  rec22 (y3, y4 + 1)
def X9_countFrequentWith_B22 (σ2 : Wd) (t3 : Int32) (rec22 : Int32 × Int32 → Option (Int32 × Wd)) : Int32 × Int32 → Option (Int32 × Wd)
  | (x3, x4) => (if (σ2 93 7) ≤ x4 then some (x3, σ2) else (if 7 ≤ x4 then some (x3, σ2) else ((X0_oftenOf σ2 x4).bind fun t6 => (ckA x4 7 <| (if (2 * (t6 + (σ2 118 x4.toNatClampNeg))) < t3 then X9_countFrequentWith_J70 rec22 x3 x4 else X9_countFrequentWith_J70 rec22 (x3 + 1) x4)))))
def X9_countFrequentWith (σ : Wd) (x1 : Int32) : Option (Int32 × Wd) :=
  ((X9_gain σ x1).bind fun (t1, σ2) => (lett ((σ 95 1) + t1) fun t3 => (lp (X9_countFrequentWith_B22 σ2 t3) FU (0, 0))))
set_option maxRecDepth 100000 in
set_option maxHeartbeats 4000000 in
theorem m_X9_countFrequentWith {E : JE} (hE : kOk 120 E) (σ : Wd) (x1 : Int32) {res : Int32 × Wd} (hT : X9_countFrequentWith σ x1 = some res) : kMt E yX9_countFrequentWith mX9_countFrequentWith rmX9_countFrequentWith [.inr 116, .inl x1] σ (kQi res.1 res.2) := by
  refine kMt_of (by decide +kernel) rfl (Nat.le_of_ble_eq_true rfl) ?_
  generalize hQ : (kQi res.1 res.2) = Q
  show KJ E mX9_countFrequentWith rmX9_countFrequentWith 0 [some (.inr 116), some (.inl x1)] [] σ Q
  unfold X9_countFrequentWith at hT
  refine kj_aload_n dX9_countFrequentWith_0 (pc' := 1) rfl rfl rfl ?_
  refine kj_getR f_RX9_9 rfl (Nat.lt_of_lt_of_le (Nat.le_of_ble_eq_true rfl : 116 < 120) hE.1) (hE.2 _ _) (q := 93) rfl dX9_countFrequentWith_1 (pc' := 4) rfl ?_
  refine kj_getR f_RX9_38 rfl (Nat.lt_of_lt_of_le (Nat.le_of_ble_eq_true rfl : 93 < 120) hE.1) (hE.2 _ _) (q := 95) rfl dX9_countFrequentWith_4 (pc' := 7) rfl ?_
  refine kj_getI f_RX9_28 rfl (Nat.lt_of_lt_of_le (Nat.le_of_ble_eq_true rfl : 95 < 120) hE.1) dX9_countFrequentWith_7 (pc' := 10) rfl ?_
  refine kj_aload_n dX9_countFrequentWith_10 (pc' := 11) rfl rfl rfl ?_
  refine kj_iload_n dX9_countFrequentWith_11 (pc' := 12) rfl rfl rfl ?_
  obtain ⟨t1, ht1, hT⟩ := bind_some' hT
  obtain ⟨t1, σ2⟩ := t1
  dsimp only at hT
  refine kcVi (as := [.inl x1]) (st := [.inl (σ 95 1)]) l_RX9_59 (m_X9_gain hE σ x1 ht1) rfl (Nat.lt_of_lt_of_le (Nat.le_of_ble_eq_true rfl : 116 < 120) hE.1) rfl ⟨⟨rfl, rfl⟩, Nat.le_of_ble_eq_true rfl, Nat.le_of_ble_eq_true rfl⟩ (Nat.le_of_ble_eq_true rfl) dX9_countFrequentWith_12 (pc' := 15) rfl ?_
  refine kj_iadd dX9_countFrequentWith_15 (pc' := 16) rfl ?_
  refine kj_istore_n dX9_countFrequentWith_16 (pc' := 17) rfl rfl (Nat.le_of_ble_eq_true rfl) (ls' := [some (.inr 116), some (.inl x1), some (.inl ((σ 95 1) + t1))]) rfl ?_
  refine kj_iconst dX9_countFrequentWith_17 (pc' := 18) rfl kc_0 ?_
  refine kj_istore_n dX9_countFrequentWith_18 (pc' := 19) rfl rfl (Nat.le_of_ble_eq_true rfl) (ls' := [some (.inr 116), some (.inl x1), some (.inl ((σ 95 1) + t1)), some (.inl 0)]) rfl ?_
  refine kj_iconst dX9_countFrequentWith_19 (pc' := 20) rfl kc_0 ?_
  refine kj_istore dX9_countFrequentWith_20 (pc' := 22) rfl (Nat.le_of_ble_eq_true rfl) (ls' := [some (.inr 116), some (.inl x1), some (.inl ((σ 95 1) + t1)), some (.inl 0), some (.inl 0)]) rfl ?_
  obtain ⟨t3, et3, hT⟩ := lett_i hT
  rw [← et3]
  refine kj_keep [true, false, true, true, true] (ls' := [some (.inr 116), none, some (.inl t3), some (.inl 0), some (.inl 0)]) rfl ?_
  refine lp_ind (P := fun s => KJ E mX9_countFrequentWith rmX9_countFrequentWith 22 [some (.inr 116), none, some (.inl t3), some (.inl s.1), some (.inl s.2)] [] σ2 Q) (fun rec22 s ih22 hT => ?_) FU (0, 0) hT
  obtain ⟨x3, x4⟩ := s
  show KJ E mX9_countFrequentWith rmX9_countFrequentWith 22 [some (.inr 116), none, some (.inl t3), some (.inl x3), some (.inl x4)] [] σ2 Q
  rw [X9_countFrequentWith_B22] at hT
  have hJ70_22 : ∀ y3 y4, X9_countFrequentWith_J70 rec22 y3 y4 = some res → KJ E mX9_countFrequentWith rmX9_countFrequentWith 70 [some (.inr 116), none, some (.inl t3), some (.inl y3), some (.inl y4)] [] σ2 Q := by
    intro y3 y4 hT
    unfold X9_countFrequentWith_J70 at hT
    refine kj_iinc dX9_countFrequentWith_70 (pc' := 73) rfl rfl (congrArg (_ + ·) kc_1) (Nat.le_of_ble_eq_true rfl) (ls' := [some (.inr 116), none, some (.inl t3), some (.inl y3), some (.inl (y4 + 1))]) rfl ?_
    refine kj_goto dX9_countFrequentWith_73 (pc' := 22) rfl ?_
    exact ih22 (y3, y4 + 1) hT
  refine kj_iload dX9_countFrequentWith_22 (pc' := 24) rfl rfl ?_
  refine kj_aload_n dX9_countFrequentWith_24 (pc' := 25) rfl rfl rfl ?_
  refine kj_getR f_RX9_9 rfl (Nat.lt_of_lt_of_le (Nat.le_of_ble_eq_true rfl : 116 < 120) hE.1) (hE.2 _ _) (q := 93) rfl dX9_countFrequentWith_25 (pc' := 28) rfl ?_
  refine kj_getI f_RX9_65 rfl (Nat.lt_of_lt_of_le (Nat.le_of_ble_eq_true rfl : 93 < 120) hE.1) dX9_countFrequentWith_28 (pc' := 31) rfl ?_
  refine kj_icmp_ge dX9_countFrequentWith_31 (tgt := 76) rfl (pc' := 34) rfl (fun c4 => ?_) (fun c4 => ?_)
  · rw [if_pos c4] at hT
    refine kj_iload_n dX9_countFrequentWith_76 (pc' := 77) rfl rfl rfl ?_
    have hR := Option.some.inj hT
    subst hR
    exact kj_iret rfl dX9_countFrequentWith_77 (by subst hQ; exact ⟨rfl, rfl⟩)
  · rw [if_neg c4] at hT
    refine kj_iload dX9_countFrequentWith_34 (pc' := 36) rfl rfl ?_
    refine kj_aload_n dX9_countFrequentWith_36 (pc' := 37) rfl rfl rfl ?_
    refine kj_getR f_RX9_19 rfl (Nat.lt_of_lt_of_le (Nat.le_of_ble_eq_true rfl : 116 < 120) hE.1) (hE.2 _ _) (q := 118) rfl dX9_countFrequentWith_37 (pc' := 40) rfl ?_
    refine kj_alen (n := 0) (v := 7) 0 (ty := .int) rfl (by decide) rfl (Nat.lt_of_lt_of_le (Nat.le_of_ble_eq_true rfl : 118 < 120) hE.1) (by decide +kernel) dX9_countFrequentWith_40 (pc' := 41) rfl ?_
    refine kj_icmp_ge dX9_countFrequentWith_41 (tgt := 76) rfl (pc' := 44) rfl (fun c5 => ?_) (fun c5 => ?_)
    · rw [if_pos c5] at hT
      refine kj_iload_n dX9_countFrequentWith_76 (pc' := 77) rfl rfl rfl ?_
      have hR := Option.some.inj hT
      subst hR
      exact kj_iret rfl dX9_countFrequentWith_77 (by subst hQ; exact ⟨rfl, rfl⟩)
    · rw [if_neg c5] at hT
      refine kj_iconst dX9_countFrequentWith_44 (pc' := 45) rfl kc_2 ?_
      refine kj_aload_n dX9_countFrequentWith_45 (pc' := 46) rfl rfl rfl ?_
      refine kj_getR f_RX9_9 rfl (Nat.lt_of_lt_of_le (Nat.le_of_ble_eq_true rfl : 116 < 120) hE.1) (hE.2 _ _) (q := 93) rfl dX9_countFrequentWith_46 (pc' := 49) rfl ?_
      refine kj_iload dX9_countFrequentWith_49 (pc' := 51) rfl rfl ?_
      obtain ⟨t6, ht6, hT⟩ := bind_some' hT
      refine kcVi (as := [.inl x4]) (st := [.inl 2]) l_RX9_68 (m_X0_oftenOf hE σ2 x4 ht6) rfl (Nat.lt_of_lt_of_le (Nat.le_of_ble_eq_true rfl : 93 < 120) hE.1) rfl ⟨⟨rfl, rfl⟩, Nat.le_of_ble_eq_true rfl, Nat.le_of_ble_eq_true rfl⟩ (Nat.le_of_ble_eq_true rfl) dX9_countFrequentWith_51 (pc' := 54) rfl ?_
      refine kj_aload_n dX9_countFrequentWith_54 (pc' := 55) rfl rfl rfl ?_
      refine kj_getR f_RX9_19 rfl (Nat.lt_of_lt_of_le (Nat.le_of_ble_eq_true rfl : 116 < 120) hE.1) (hE.2 _ _) (q := 118) rfl dX9_countFrequentWith_55 (pc' := 58) rfl ?_
      refine kj_iload dX9_countFrequentWith_58 (pc' := 60) rfl rfl ?_
      obtain ⟨hi7, hT⟩ := ckA_some hT
      refine kj_iald rfl (Nat.lt_of_lt_of_le (Nat.le_of_ble_eq_true rfl : 118 < 120) hE.1) hi7 rfl dX9_countFrequentWith_60 (pc' := 61) rfl ?_
      refine kj_iadd dX9_countFrequentWith_61 (pc' := 62) rfl ?_
      refine kj_imul dX9_countFrequentWith_62 (pc' := 63) rfl ?_
      refine kj_iload_n dX9_countFrequentWith_63 (pc' := 64) rfl rfl rfl ?_
      refine kj_icmp_lt dX9_countFrequentWith_64 (tgt := 70) rfl (pc' := 67) rfl (fun c8 => ?_) (fun c8 => ?_)
      · rw [if_pos c8] at hT
        exact hJ70_22 x3 x4 hT
      · rw [if_neg c8] at hT
        refine kj_iinc dX9_countFrequentWith_67 (pc' := 70) rfl rfl (congrArg (_ + ·) kc_1) (Nat.le_of_ble_eq_true rfl) (ls' := [some (.inr 116), none, some (.inl t3), some (.inl (x3 + 1)), some (.inl x4)]) rfl ?_
        exact hJ70_22 (x3 + 1) x4 hT
def X9_leastFrequent_J57 (rec8 : Int32 × Int32 × Int32 × Wd → Option (Int32 × Wd)) (y1 : Int32) (y2 : Int32) (y3 : Int32) (ς : Wd) : Option (Int32 × Wd) :=
  rec8 (y1, y2, y3 + 1, ς)
def X9_leastFrequent_B8 (rec8 : Int32 × Int32 × Int32 × Wd → Option (Int32 × Wd)) : Int32 × Int32 × Int32 × Wd → Option (Int32 × Wd)
  | (x1, x2, x3, σ) => (if 128 ≤ x3 then some (x1, σ) else ((X0_orderedSet σ x3).bind fun t2 => (if (X0_allPoints σ) < t2 then X9_leastFrequent_J57 rec8 x1 x2 x3 σ else ((X9_countFrequentWith σ t2).bind fun (t4, σ5) => (if x2 ≤ t4 then X9_leastFrequent_J57 rec8 x1 x2 x3 σ5 else X9_leastFrequent_J57 rec8 t2 t4 x3 σ5)))))
def X9_leastFrequent (σ : Wd) : Option (Int32 × Wd) :=
  (lp (X9_leastFrequent_B8) FU ((-2), 1000000, 1, σ))
set_option maxRecDepth 100000 in
set_option maxHeartbeats 4000000 in
theorem m_X9_leastFrequent {E : JE} (hE : kOk 120 E) (σ : Wd) {res : Int32 × Wd} (hT : X9_leastFrequent σ = some res) : kMt E yX9_leastFrequent mX9_leastFrequent rmX9_leastFrequent [.inr 116] σ (kQi res.1 res.2) := by
  refine kMt_of (by decide +kernel) rfl (Nat.le_of_ble_eq_true rfl) ?_
  generalize hQ : (kQi res.1 res.2) = Q
  show KJ E mX9_leastFrequent rmX9_leastFrequent 0 [some (.inr 116)] [] σ Q
  unfold X9_leastFrequent at hT
  refine kj_bipush dX9_leastFrequent_0 (pc' := 2) rfl kb_m2 ?_
  refine kj_istore_n dX9_leastFrequent_2 (pc' := 3) rfl rfl (Nat.le_of_ble_eq_true rfl) (ls' := [some (.inr 116), some (.inl (-2))]) rfl ?_
  refine kj_ldc (v := 1000000) (kMem 1071 (by decide +kernel) rfl) dX9_leastFrequent_3 (pc' := 5) rfl ?_
  refine kj_istore_n dX9_leastFrequent_5 (pc' := 6) rfl rfl (Nat.le_of_ble_eq_true rfl) (ls' := [some (.inr 116), some (.inl (-2)), some (.inl 1000000)]) rfl ?_
  refine kj_iconst dX9_leastFrequent_6 (pc' := 7) rfl kc_1 ?_
  refine kj_istore_n dX9_leastFrequent_7 (pc' := 8) rfl rfl (Nat.le_of_ble_eq_true rfl) (ls' := [some (.inr 116), some (.inl (-2)), some (.inl 1000000), some (.inl 1)]) rfl ?_
  refine lp_ind (P := fun s => KJ E mX9_leastFrequent rmX9_leastFrequent 8 [some (.inr 116), some (.inl s.1), some (.inl s.2.1), some (.inl s.2.2.1)] [] s.2.2.2 Q) (fun rec8 s ih8 hT => ?_) FU ((-2), 1000000, 1, σ) hT
  obtain ⟨x1, x2, x3, σ⟩ := s
  show KJ E mX9_leastFrequent rmX9_leastFrequent 8 [some (.inr 116), some (.inl x1), some (.inl x2), some (.inl x3)] [] σ Q
  rw [X9_leastFrequent_B8] at hT
  have hJ57_8 : ∀ y1 y2 y3 ς, X9_leastFrequent_J57 rec8 y1 y2 y3 ς = some res → KJ E mX9_leastFrequent rmX9_leastFrequent 57 [some (.inr 116), some (.inl y1), some (.inl y2), some (.inl y3)] [] ς Q := by
    intro y1 y2 y3 ς hT
    unfold X9_leastFrequent_J57 at hT
    refine kj_iinc dX9_leastFrequent_57 (pc' := 60) rfl rfl (congrArg (_ + ·) kc_1) (Nat.le_of_ble_eq_true rfl) (ls' := [some (.inr 116), some (.inl y1), some (.inl y2), some (.inl (y3 + 1))]) rfl ?_
    refine kj_goto dX9_leastFrequent_60 (pc' := 8) rfl ?_
    exact ih8 (y1, y2, y3 + 1, ς) hT
  refine kj_iload_n dX9_leastFrequent_8 (pc' := 9) rfl rfl rfl ?_
  refine kj_sipush dX9_leastFrequent_9 (pc' := 12) rfl ks_128 ?_
  refine kj_icmp_ge dX9_leastFrequent_12 (tgt := 63) rfl (pc' := 15) rfl (fun c1 => ?_) (fun c1 => ?_)
  · rw [if_pos c1] at hT
    refine kj_iload_n dX9_leastFrequent_63 (pc' := 64) rfl rfl rfl ?_
    have hR := Option.some.inj hT
    subst hR
    exact kj_iret rfl dX9_leastFrequent_64 (by subst hQ; exact ⟨rfl, rfl⟩)
  · rw [if_neg c1] at hT
    refine kj_aload_n dX9_leastFrequent_15 (pc' := 16) rfl rfl rfl ?_
    refine kj_getR f_RX9_9 rfl (Nat.lt_of_lt_of_le (Nat.le_of_ble_eq_true rfl : 116 < 120) hE.1) (hE.2 _ _) (q := 93) rfl dX9_leastFrequent_16 (pc' := 19) rfl ?_
    refine kj_iload_n dX9_leastFrequent_19 (pc' := 20) rfl rfl rfl ?_
    obtain ⟨t2, ht2, hT⟩ := bind_some' hT
    refine kcVi (as := [.inl x3]) (st := []) l_RX9_52 (m_X0_orderedSet hE σ x3 ht2) rfl (Nat.lt_of_lt_of_le (Nat.le_of_ble_eq_true rfl : 93 < 120) hE.1) rfl ⟨⟨rfl, rfl⟩, Nat.le_of_ble_eq_true rfl, Nat.le_of_ble_eq_true rfl⟩ (Nat.le_of_ble_eq_true rfl) dX9_leastFrequent_20 (pc' := 23) rfl ?_
    refine kj_istore dX9_leastFrequent_23 (pc' := 25) rfl (Nat.le_of_ble_eq_true rfl) (ls' := [some (.inr 116), some (.inl x1), some (.inl x2), some (.inl x3), some (.inl t2)]) rfl ?_
    refine kj_iload dX9_leastFrequent_25 (pc' := 27) rfl rfl ?_
    refine kj_aload_n dX9_leastFrequent_27 (pc' := 28) rfl rfl rfl ?_
    refine kj_getR f_RX9_9 rfl (Nat.lt_of_lt_of_le (Nat.le_of_ble_eq_true rfl : 116 < 120) hE.1) (hE.2 _ _) (q := 93) rfl dX9_leastFrequent_28 (pc' := 31) rfl ?_
    refine kcVi (as := []) (st := [.inl t2]) l_RX9_55 (m_X0_allPoints hE σ rfl) rfl (Nat.lt_of_lt_of_le (Nat.le_of_ble_eq_true rfl : 93 < 120) hE.1) rfl ⟨⟨rfl, rfl⟩, Nat.le_of_ble_eq_true rfl, Nat.le_of_ble_eq_true rfl⟩ (Nat.le_of_ble_eq_true rfl) dX9_leastFrequent_31 (pc' := 34) rfl ?_
    refine kj_icmp_gt dX9_leastFrequent_34 (tgt := 57) rfl (pc' := 37) rfl (fun c3 => ?_) (fun c3 => ?_)
    · rw [if_pos c3] at hT
      refine kj_keep [true, true, true, true] (ls' := [some (.inr 116), some (.inl x1), some (.inl x2), some (.inl x3)]) rfl ?_
      exact hJ57_8 x1 x2 x3 σ hT
    · rw [if_neg c3] at hT
      refine kj_aload_n dX9_leastFrequent_37 (pc' := 38) rfl rfl rfl ?_
      refine kj_iload dX9_leastFrequent_38 (pc' := 40) rfl rfl ?_
      obtain ⟨t4, ht4, hT⟩ := bind_some' hT
      obtain ⟨t4, σ5⟩ := t4
      dsimp only at hT
      refine kcVi (as := [.inl t2]) (st := []) l_RX9_62 (m_X9_countFrequentWith hE σ t2 ht4) rfl (Nat.lt_of_lt_of_le (Nat.le_of_ble_eq_true rfl : 116 < 120) hE.1) rfl ⟨⟨rfl, rfl⟩, Nat.le_of_ble_eq_true rfl, Nat.le_of_ble_eq_true rfl⟩ (Nat.le_of_ble_eq_true rfl) dX9_leastFrequent_40 (pc' := 43) rfl ?_
      refine kj_istore dX9_leastFrequent_43 (pc' := 45) rfl (Nat.le_of_ble_eq_true rfl) (ls' := [some (.inr 116), some (.inl x1), some (.inl x2), some (.inl x3), some (.inl t2), some (.inl t4)]) rfl ?_
      refine kj_iload dX9_leastFrequent_45 (pc' := 47) rfl rfl ?_
      refine kj_iload_n dX9_leastFrequent_47 (pc' := 48) rfl rfl rfl ?_
      refine kj_icmp_ge dX9_leastFrequent_48 (tgt := 57) rfl (pc' := 51) rfl (fun c6 => ?_) (fun c6 => ?_)
      · rw [if_pos c6] at hT
        refine kj_keep [true, true, true, true] (ls' := [some (.inr 116), some (.inl x1), some (.inl x2), some (.inl x3)]) rfl ?_
        exact hJ57_8 x1 x2 x3 σ5 hT
      · rw [if_neg c6] at hT
        refine kj_iload dX9_leastFrequent_51 (pc' := 53) rfl rfl ?_
        refine kj_istore_n dX9_leastFrequent_53 (pc' := 54) rfl rfl (Nat.le_of_ble_eq_true rfl) (ls' := [some (.inr 116), some (.inl x1), some (.inl t4), some (.inl x3), some (.inl t2), some (.inl t4)]) rfl ?_
        refine kj_iload dX9_leastFrequent_54 (pc' := 56) rfl rfl ?_
        refine kj_istore_n dX9_leastFrequent_56 (pc' := 57) rfl rfl (Nat.le_of_ble_eq_true rfl) (ls' := [some (.inr 116), some (.inl t2), some (.inl t4), some (.inl x3), some (.inl t2), some (.inl t4)]) rfl ?_
        refine kj_keep [true, true, true, true] (ls' := [some (.inr 116), some (.inl t2), some (.inl t4), some (.inl x3)]) rfl ?_
        exact hJ57_8 t2 t4 x3 σ5 hT
