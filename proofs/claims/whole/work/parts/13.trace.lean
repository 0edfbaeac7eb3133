def X8_mark_J77 (rec12 : Int32 × Int32 × Wd → Option (Int32 × Wd)) (y2 : Int32) (y3 : Int32) (ς : Wd) : Option (Int32 × Wd) :=
  rec12 (y2, y3 + 1, ς)
def X8_mark_B12 (x1 : Int32) (rec12 : Int32 × Int32 × Wd → Option (Int32 × Wd)) : Int32 × Int32 × Wd → Option (Int32 × Wd)
  | (x2, x3, σ) => (if (σ 95 1) ≤ x3 then some (x2, σ) else ((X4_at σ 95 x3).bind fun t3 => (if (t3 &&& x1) < 0 then X8_mark_J77 rec12 x2 x3 σ else (if 128 ≤ (t3 &&& x1) then X8_mark_J77 rec12 x2 x3 σ else (ckA (t3 &&& x1) 128 <| (if (σ 115 ((t3 &&& x1).toNatClampNeg)) = 0 then (ckA (t3 &&& x1) 128 <| X8_mark_J77 rec12 (x2 + 1) x3 (up σ 115 ((t3 &&& x1).toNatClampNeg) 1)) else X8_mark_J77 rec12 x2 x3 σ))))))
def X8_mark (σ : Wd) (x1 : Int32) : Option (Int32 × Wd) :=
  ((J7_fill_53178 σ 115 0).bind fun σ1 => (lp (X8_mark_B12 x1) FU (0, 0, σ1)))
set_option maxRecDepth 100000 in
set_option maxHeartbeats 4000000 in
theorem m_X8_mark {E : JE} (hE : kOk 120 E) (σ : Wd) (x1 : Int32) {res : Int32 × Wd} (hT : X8_mark σ x1 = some res) : kMt E yX8_mark mX8_mark rmX8_mark [.inr 112, .inl x1] σ (kQi res.1 res.2) := by
  refine kMt_of (by decide +kernel) rfl (Nat.le_of_ble_eq_true rfl) ?_
  generalize hQ : (kQi res.1 res.2) = Q
  show KJ E mX8_mark rmX8_mark 0 [some (.inr 112), some (.inl x1)] [] σ Q
  unfold X8_mark at hT
  refine kj_aload_n dX8_mark_0 (pc' := 1) rfl rfl rfl ?_
  refine kj_getR f_RX8_24 rfl (Nat.lt_of_lt_of_le (Nat.le_of_ble_eq_true rfl : 112 < 120) hE.1) (hE.2 _ _) (q := 115) rfl dX8_mark_1 (pc' := 4) rfl ?_
  refine kj_iconst dX8_mark_4 (pc' := 5) rfl kc_0 ?_
  obtain ⟨σ1, hσ1, hT⟩ := bind_some' hT
  refine kcSv (as := [.inr 115, .inl 0]) (st := []) l_RX8_28 (m_J7_fill_53178 (Nat.zero_le _) rfl (Nat.lt_of_lt_of_le (Nat.le_of_ble_eq_true rfl : 115 < 120) hE.1) σ 0 hσ1) rfl ⟨⟨rfl, rfl⟩, Nat.le_of_ble_eq_true rfl, Nat.le_of_ble_eq_true rfl⟩ (Nat.le_of_ble_eq_true rfl) dX8_mark_5 (pc' := 8) rfl ?_
  refine kj_iconst dX8_mark_8 (pc' := 9) rfl kc_0 ?_
  refine kj_istore_n dX8_mark_9 (pc' := 10) rfl rfl (Nat.le_of_ble_eq_true rfl) (ls' := [some (.inr 112), some (.inl x1), some (.inl 0)]) rfl ?_
  refine kj_iconst dX8_mark_10 (pc' := 11) rfl kc_0 ?_
  refine kj_istore_n dX8_mark_11 (pc' := 12) rfl rfl (Nat.le_of_ble_eq_true rfl) (ls' := [some (.inr 112), some (.inl x1), some (.inl 0), some (.inl 0)]) rfl ?_
  refine lp_ind (P := fun s => KJ E mX8_mark rmX8_mark 12 [some (.inr 112), some (.inl x1), some (.inl s.1), some (.inl s.2.1)] [] s.2.2 Q) (fun rec12 s ih12 hT => ?_) FU (0, 0, σ1) hT
  obtain ⟨x2, x3, σ⟩ := s
  show KJ E mX8_mark rmX8_mark 12 [some (.inr 112), some (.inl x1), some (.inl x2), some (.inl x3)] [] σ Q
  rw [X8_mark_B12] at hT
  have hJ77_12 : ∀ y2 y3 ς, X8_mark_J77 rec12 y2 y3 ς = some res → KJ E mX8_mark rmX8_mark 77 [some (.inr 112), some (.inl x1), some (.inl y2), some (.inl y3)] [] ς Q := by
    intro y2 y3 ς hT
    unfold X8_mark_J77 at hT
    refine kj_iinc dX8_mark_77 (pc' := 80) rfl rfl (congrArg (_ + ·) kc_1) (Nat.le_of_ble_eq_true rfl) (ls' := [some (.inr 112), some (.inl x1), some (.inl y2), some (.inl (y3 + 1))]) rfl ?_
    refine kj_goto dX8_mark_80 (pc' := 12) rfl ?_
    exact ih12 (y2, y3 + 1, ς) hT
  refine kj_iload_n dX8_mark_12 (pc' := 13) rfl rfl rfl ?_
  refine kj_aload_n dX8_mark_13 (pc' := 14) rfl rfl rfl ?_
  refine kj_getR f_RX8_9 rfl (Nat.lt_of_lt_of_le (Nat.le_of_ble_eq_true rfl : 112 < 120) hE.1) (hE.2 _ _) (q := 93) rfl dX8_mark_14 (pc' := 17) rfl ?_
  refine kj_getR f_RX8_34 rfl (Nat.lt_of_lt_of_le (Nat.le_of_ble_eq_true rfl : 93 < 120) hE.1) (hE.2 _ _) (q := 95) rfl dX8_mark_17 (pc' := 20) rfl ?_
  refine kj_getI f_RX8_39 rfl (Nat.lt_of_lt_of_le (Nat.le_of_ble_eq_true rfl : 95 < 120) hE.1) dX8_mark_20 (pc' := 23) rfl ?_
  refine kj_icmp_ge dX8_mark_23 (tgt := 83) rfl (pc' := 26) rfl (fun c2 => ?_) (fun c2 => ?_)
  · rw [if_pos c2] at hT
    refine kj_iload_n dX8_mark_83 (pc' := 84) rfl rfl rfl ?_
    have hR := Option.some.inj hT
    subst hR
    exact kj_iret rfl dX8_mark_84 (by subst hQ; exact ⟨rfl, rfl⟩)
  · rw [if_neg c2] at hT
    refine kj_aload_n dX8_mark_26 (pc' := 27) rfl rfl rfl ?_
    refine kj_getR f_RX8_9 rfl (Nat.lt_of_lt_of_le (Nat.le_of_ble_eq_true rfl : 112 < 120) hE.1) (hE.2 _ _) (q := 93) rfl dX8_mark_27 (pc' := 30) rfl ?_
    refine kj_getR f_RX8_34 rfl (Nat.lt_of_lt_of_le (Nat.le_of_ble_eq_true rfl : 93 < 120) hE.1) (hE.2 _ _) (q := 95) rfl dX8_mark_30 (pc' := 33) rfl ?_
    refine kj_iload_n dX8_mark_33 (pc' := 34) rfl rfl rfl ?_
    obtain ⟨t3, ht3, hT⟩ := bind_some' hT
    refine kcVi (as := [.inl x3]) (st := []) l_RX8_43 (m_X4_at hE rfl σ x3 ht3) rfl (Nat.lt_of_lt_of_le (Nat.le_of_ble_eq_true rfl : 95 < 120) hE.1) rfl ⟨⟨rfl, rfl⟩, Nat.le_of_ble_eq_true rfl, Nat.le_of_ble_eq_true rfl⟩ (Nat.le_of_ble_eq_true rfl) dX8_mark_34 (pc' := 37) rfl ?_
    refine kj_iload_n dX8_mark_37 (pc' := 38) rfl rfl rfl ?_
    refine kj_iand dX8_mark_38 (pc' := 39) rfl ?_
    refine kj_istore dX8_mark_39 (pc' := 41) rfl (Nat.le_of_ble_eq_true rfl) (ls' := [some (.inr 112), some (.inl x1), some (.inl x2), some (.inl x3), some (.inl (t3 &&& x1))]) rfl ?_
    refine kj_iload dX8_mark_41 (pc' := 43) rfl rfl ?_
    refine kj_if_lt dX8_mark_43 (tgt := 77) rfl (pc' := 46) rfl (fun c4 => ?_) (fun c4 => ?_)
    · rw [if_pos c4] at hT
      refine kj_keep [true, true, true, true] (ls' := [some (.inr 112), some (.inl x1), some (.inl x2), some (.inl x3)]) rfl ?_
      exact hJ77_12 x2 x3 σ hT
    · rw [if_neg c4] at hT
      refine kj_iload dX8_mark_46 (pc' := 48) rfl rfl ?_
      refine kj_aload_n dX8_mark_48 (pc' := 49) rfl rfl rfl ?_
      refine kj_getR f_RX8_24 rfl (Nat.lt_of_lt_of_le (Nat.le_of_ble_eq_true rfl : 112 < 120) hE.1) (hE.2 _ _) (q := 115) rfl dX8_mark_49 (pc' := 52) rfl ?_
      refine kj_alen (n := 0) (v := 128) 0 (ty := .int) rfl (by decide) rfl (Nat.lt_of_lt_of_le (Nat.le_of_ble_eq_true rfl : 115 < 120) hE.1) (by decide +kernel) dX8_mark_52 (pc' := 53) rfl ?_
      refine kj_icmp_ge dX8_mark_53 (tgt := 77) rfl (pc' := 56) rfl (fun c5 => ?_) (fun c5 => ?_)
      · rw [if_pos c5] at hT
        refine kj_keep [true, true, true, true] (ls' := [some (.inr 112), some (.inl x1), some (.inl x2), some (.inl x3)]) rfl ?_
        exact hJ77_12 x2 x3 σ hT
      · rw [if_neg c5] at hT
        refine kj_aload_n dX8_mark_56 (pc' := 57) rfl rfl rfl ?_
        refine kj_getR f_RX8_24 rfl (Nat.lt_of_lt_of_le (Nat.le_of_ble_eq_true rfl : 112 < 120) hE.1) (hE.2 _ _) (q := 115) rfl dX8_mark_57 (pc' := 60) rfl ?_
        refine kj_iload dX8_mark_60 (pc' := 62) rfl rfl ?_
        obtain ⟨hi6, hT⟩ := ckA_some hT
        refine kj_iald rfl (Nat.lt_of_lt_of_le (Nat.le_of_ble_eq_true rfl : 115 < 120) hE.1) hi6 rfl dX8_mark_62 (pc' := 63) rfl ?_
        refine kj_if_ne dX8_mark_63 (tgt := 77) rfl (pc' := 66) rfl (fun c7 => ?_) (fun c7 => ?_)
        · rw [if_neg c7] at hT
          refine kj_keep [true, true, true, true] (ls' := [some (.inr 112), some (.inl x1), some (.inl x2), some (.inl x3)]) rfl ?_
          exact hJ77_12 x2 x3 σ hT
        · rw [if_pos c7] at hT
          refine kj_aload_n dX8_mark_66 (pc' := 67) rfl rfl rfl ?_
          refine kj_getR f_RX8_24 rfl (Nat.lt_of_lt_of_le (Nat.le_of_ble_eq_true rfl : 112 < 120) hE.1) (hE.2 _ _) (q := 115) rfl dX8_mark_67 (pc' := 70) rfl ?_
          refine kj_iload dX8_mark_70 (pc' := 72) rfl rfl ?_
          refine kj_iconst dX8_mark_72 (pc' := 73) rfl kc_1 ?_
          obtain ⟨hi8, hT⟩ := ckA_some hT
          refine kj_iast rfl (Nat.lt_of_lt_of_le (Nat.le_of_ble_eq_true rfl : 115 < 120) hE.1) hi8 rfl dX8_mark_73 (pc' := 74) rfl ?_
          refine kj_iinc dX8_mark_74 (pc' := 77) rfl rfl (congrArg (_ + ·) kc_1) (Nat.le_of_ble_eq_true rfl) (ls' := [some (.inr 112), some (.inl x1), some (.inl (x2 + 1)), some (.inl x3), some (.inl (t3 &&& x1))]) rfl ?_
          refine kj_keep [true, true, true, true] (ls' := [some (.inr 112), some (.inl x1), some (.inl (x2 + 1)), some (.inl x3)]) rfl ?_
          exact hJ77_12 (x2 + 1) x3 (up σ 115 ((t3 &&& x1).toNatClampNeg) 1) hT
def X8_take_J62 (rec15 : Int32 × Wd → Option (Wd)) (y2 : Int32) (ς : Wd) : Option (Wd) :=
  rec15 (y2 + 1, ς)
def X8_take_B15 (rec15 : Int32 × Wd → Option (Wd)) : Int32 × Wd → Option (Wd)
  | (x2, σ) => (if 128 ≤ x2 then some σ else ((X0_orderedSet σ x2).bind fun t4 => (if 128 ≤ t4 then X8_take_J62 rec15 x2 σ else (if t4 < 0 then X8_take_J62 rec15 x2 σ else (ckA t4 128 <| (if (σ 115 t4.toNatClampNeg) = 1 then ((X4_append σ 113 t4).bind fun σ9 => X8_take_J62 rec15 x2 σ9) else X8_take_J62 rec15 x2 σ))))))
def X8_take (σ : Wd) (x1 : Int32) : Option (Wd) :=
  ((X8_mark σ x1).bind fun (t1, σ2) => (lp (X8_take_B15) FU (0, X4_clear σ2 113)))
set_option maxRecDepth 100000 in
set_option maxHeartbeats 4000000 in
theorem m_X8_take {E : JE} (hE : kOk 120 E) (σ : Wd) (x1 : Int32) {res : Wd} (hT : X8_take σ x1 = some res) : kMt E yX8_take mX8_take rmX8_take [.inr 112, .inl x1] σ (kQv res) := by
  refine kMt_of (by decide +kernel) rfl (Nat.le_of_ble_eq_true rfl) ?_
  generalize hQ : (kQv res) = Q
  show KJ E mX8_take rmX8_take 0 [some (.inr 112), some (.inl x1)] [] σ Q
  unfold X8_take at hT
  refine kj_aload_n dX8_take_0 (pc' := 1) rfl rfl rfl ?_
  refine kj_iload_n dX8_take_1 (pc' := 2) rfl rfl rfl ?_
  obtain ⟨t1, ht1, hT⟩ := bind_some' hT
  obtain ⟨t1, σ2⟩ := t1
  dsimp only at hT
  refine kcVi (as := [.inl x1]) (st := []) l_RX8_47 (m_X8_mark hE σ x1 ht1) rfl (Nat.lt_of_lt_of_le (Nat.le_of_ble_eq_true rfl : 112 < 120) hE.1) rfl ⟨⟨rfl, rfl⟩, Nat.le_of_ble_eq_true rfl, Nat.le_of_ble_eq_true rfl⟩ (Nat.le_of_ble_eq_true rfl) dX8_take_2 (pc' := 5) rfl ?_
  refine kj_pop dX8_take_5 (pc' := 6) rfl ?_
  refine kj_aload_n dX8_take_6 (pc' := 7) rfl rfl rfl ?_
  refine kj_getR f_RX8_20 rfl (Nat.lt_of_lt_of_le (Nat.le_of_ble_eq_true rfl : 112 < 120) hE.1) (hE.2 _ _) (q := 113) rfl dX8_take_7 (pc' := 10) rfl ?_
  refine kcVv (as := []) (st := []) l_RX8_50 (m_X4_clear hE rfl σ2 rfl) rfl (Nat.lt_of_lt_of_le (Nat.le_of_ble_eq_true rfl : 113 < 120) hE.1) rfl ⟨⟨rfl, rfl⟩, Nat.le_of_ble_eq_true rfl, Nat.le_of_ble_eq_true rfl⟩ (Nat.le_of_ble_eq_true rfl) dX8_take_10 (pc' := 13) rfl ?_
  refine kj_iconst dX8_take_13 (pc' := 14) rfl kc_0 ?_
  refine kj_istore_n dX8_take_14 (pc' := 15) rfl rfl (Nat.le_of_ble_eq_true rfl) (ls' := [some (.inr 112), some (.inl x1), some (.inl 0)]) rfl ?_
  refine kj_keep [true, false, true] (ls' := [some (.inr 112), none, some (.inl 0)]) rfl ?_
  refine lp_ind (P := fun s => KJ E mX8_take rmX8_take 15 [some (.inr 112), none, some (.inl s.1)] [] s.2 Q) (fun rec15 s ih15 hT => ?_) FU (0, X4_clear σ2 113) hT
  obtain ⟨x2, σ⟩ := s
  show KJ E mX8_take rmX8_take 15 [some (.inr 112), none, some (.inl x2)] [] σ Q
  rw [X8_take_B15] at hT
  have hJ62_15 : ∀ y2 ς, X8_take_J62 rec15 y2 ς = some res → KJ E mX8_take rmX8_take 62 [some (.inr 112), none, some (.inl y2)] [] ς Q := by
    intro y2 ς hT
    unfold X8_take_J62 at hT
    refine kj_iinc dX8_take_62 (pc' := 65) rfl rfl (congrArg (_ + ·) kc_1) (Nat.le_of_ble_eq_true rfl) (ls' := [some (.inr 112), none, some (.inl (y2 + 1))]) rfl ?_
    refine kj_goto dX8_take_65 (pc' := 15) rfl ?_
    exact ih15 (y2 + 1, ς) hT
  refine kj_iload_n dX8_take_15 (pc' := 16) rfl rfl rfl ?_
  refine kj_sipush dX8_take_16 (pc' := 19) rfl ks_128 ?_
  refine kj_icmp_ge dX8_take_19 (tgt := 68) rfl (pc' := 22) rfl (fun c3 => ?_) (fun c3 => ?_)
  · rw [if_pos c3] at hT
    have hR := Option.some.inj hT
    subst hR
    exact kj_vret rfl dX8_take_68 (by subst hQ; exact ⟨rfl, rfl⟩)
  · rw [if_neg c3] at hT
    refine kj_aload_n dX8_take_22 (pc' := 23) rfl rfl rfl ?_
    refine kj_getR f_RX8_9 rfl (Nat.lt_of_lt_of_le (Nat.le_of_ble_eq_true rfl : 112 < 120) hE.1) (hE.2 _ _) (q := 93) rfl dX8_take_23 (pc' := 26) rfl ?_
    refine kj_iload_n dX8_take_26 (pc' := 27) rfl rfl rfl ?_
    obtain ⟨t4, ht4, hT⟩ := bind_some' hT
    refine kcVi (as := [.inl x2]) (st := []) l_RX8_53 (m_X0_orderedSet hE σ x2 ht4) rfl (Nat.lt_of_lt_of_le (Nat.le_of_ble_eq_true rfl : 93 < 120) hE.1) rfl ⟨⟨rfl, rfl⟩, Nat.le_of_ble_eq_true rfl, Nat.le_of_ble_eq_true rfl⟩ (Nat.le_of_ble_eq_true rfl) dX8_take_27 (pc' := 30) rfl ?_
    refine kj_istore_n dX8_take_30 (pc' := 31) rfl rfl (Nat.le_of_ble_eq_true rfl) (ls' := [some (.inr 112), none, some (.inl x2), some (.inl t4)]) rfl ?_
    refine kj_iload_n dX8_take_31 (pc' := 32) rfl rfl rfl ?_
    refine kj_aload_n dX8_take_32 (pc' := 33) rfl rfl rfl ?_
    refine kj_getR f_RX8_24 rfl (Nat.lt_of_lt_of_le (Nat.le_of_ble_eq_true rfl : 112 < 120) hE.1) (hE.2 _ _) (q := 115) rfl dX8_take_33 (pc' := 36) rfl ?_
    refine kj_alen (n := 0) (v := 128) 0 (ty := .int) rfl (by decide) rfl (Nat.lt_of_lt_of_le (Nat.le_of_ble_eq_true rfl : 115 < 120) hE.1) (by decide +kernel) dX8_take_36 (pc' := 37) rfl ?_
    refine kj_icmp_ge dX8_take_37 (tgt := 62) rfl (pc' := 40) rfl (fun c5 => ?_) (fun c5 => ?_)
    · rw [if_pos c5] at hT
      refine kj_keep [true, false, true] (ls' := [some (.inr 112), none, some (.inl x2)]) rfl ?_
      exact hJ62_15 x2 σ hT
    · rw [if_neg c5] at hT
      refine kj_iload_n dX8_take_40 (pc' := 41) rfl rfl rfl ?_
      refine kj_if_lt dX8_take_41 (tgt := 62) rfl (pc' := 44) rfl (fun c6 => ?_) (fun c6 => ?_)
      · rw [if_pos c6] at hT
        refine kj_keep [true, false, true] (ls' := [some (.inr 112), none, some (.inl x2)]) rfl ?_
        exact hJ62_15 x2 σ hT
      · rw [if_neg c6] at hT
        refine kj_aload_n dX8_take_44 (pc' := 45) rfl rfl rfl ?_
        refine kj_getR f_RX8_24 rfl (Nat.lt_of_lt_of_le (Nat.le_of_ble_eq_true rfl : 112 < 120) hE.1) (hE.2 _ _) (q := 115) rfl dX8_take_45 (pc' := 48) rfl ?_
        refine kj_iload_n dX8_take_48 (pc' := 49) rfl rfl rfl ?_
        obtain ⟨hi7, hT⟩ := ckA_some hT
        refine kj_iald rfl (Nat.lt_of_lt_of_le (Nat.le_of_ble_eq_true rfl : 115 < 120) hE.1) hi7 rfl dX8_take_49 (pc' := 50) rfl ?_
        refine kj_iconst dX8_take_50 (pc' := 51) rfl kc_1 ?_
        refine kj_icmp_ne dX8_take_51 (tgt := 62) rfl (pc' := 54) rfl (fun c8 => ?_) (fun c8 => ?_)
        · rw [if_neg c8] at hT
          refine kj_keep [true, false, true] (ls' := [some (.inr 112), none, some (.inl x2)]) rfl ?_
          exact hJ62_15 x2 σ hT
        · rw [if_pos c8] at hT
          refine kj_aload_n dX8_take_54 (pc' := 55) rfl rfl rfl ?_
          refine kj_getR f_RX8_20 rfl (Nat.lt_of_lt_of_le (Nat.le_of_ble_eq_true rfl : 112 < 120) hE.1) (hE.2 _ _) (q := 113) rfl dX8_take_55 (pc' := 58) rfl ?_
          refine kj_iload_n dX8_take_58 (pc' := 59) rfl rfl rfl ?_
          obtain ⟨σ9, hσ9, hT⟩ := bind_some' hT
          refine kcVv (as := [.inl t4]) (st := []) l_RX8_56 (m_X4_append hE rfl σ t4 hσ9) rfl (Nat.lt_of_lt_of_le (Nat.le_of_ble_eq_true rfl : 113 < 120) hE.1) rfl ⟨⟨rfl, rfl⟩, Nat.le_of_ble_eq_true rfl, Nat.le_of_ble_eq_true rfl⟩ (Nat.le_of_ble_eq_true rfl) dX8_take_59 (pc' := 62) rfl ?_
          refine kj_keep [true, false, true] (ls' := [some (.inr 112), none, some (.inl x2)]) rfl ?_
          exact hJ62_15 x2 σ9 hT
def X8_isShattered (σ : Wd) (x1 : Int32) : Option (Int32 × Wd) :=
  ((X8_mark σ x1).bind fun (t1, σ2) => (if t1 = (1 <<< ((J6_bitCount_0f7a4 x1) &&& 31)) then some (1, σ2) else some (0, σ2)))
set_option maxRecDepth 100000 in
set_option maxHeartbeats 4000000 in
theorem m_X8_isShattered {E : JE} (hE : kOk 120 E) (σ : Wd) (x1 : Int32) {res : Int32 × Wd} (hT : X8_isShattered σ x1 = some res) : kMt E yX8_isShattered mX8_isShattered rmX8_isShattered [.inr 112, .inl x1] σ (kQz res.1 res.2) := by
  refine kMt_of (by decide +kernel) rfl (Nat.le_of_ble_eq_true rfl) ?_
  generalize hQ : (kQz res.1 res.2) = Q
  show KJ E mX8_isShattered rmX8_isShattered 0 [some (.inr 112), some (.inl x1)] [] σ Q
  unfold X8_isShattered at hT
  refine kj_aload_n dX8_isShattered_0 (pc' := 1) rfl rfl rfl ?_
  refine kj_iload_n dX8_isShattered_1 (pc' := 2) rfl rfl rfl ?_
  obtain ⟨t1, ht1, hT⟩ := bind_some' hT
  obtain ⟨t1, σ2⟩ := t1
  dsimp only at hT
  refine kcVi (as := [.inl x1]) (st := []) l_RX8_47 (m_X8_mark hE σ x1 ht1) rfl (Nat.lt_of_lt_of_le (Nat.le_of_ble_eq_true rfl : 112 < 120) hE.1) rfl ⟨⟨rfl, rfl⟩, Nat.le_of_ble_eq_true rfl, Nat.le_of_ble_eq_true rfl⟩ (Nat.le_of_ble_eq_true rfl) dX8_isShattered_2 (pc' := 5) rfl ?_
  refine kj_iconst dX8_isShattered_5 (pc' := 6) rfl kc_1 ?_
  refine kj_iload_n dX8_isShattered_6 (pc' := 7) rfl rfl rfl ?_
  refine kcSi (as := [.inl x1]) (st := [.inl 1, .inl t1]) l_RX8_59 (m_J6_bitCount_0f7a4 (Nat.zero_le _) σ2 x1 rfl) rfl ⟨⟨rfl, rfl⟩, Nat.le_of_ble_eq_true rfl, Nat.le_of_ble_eq_true rfl⟩ (Nat.le_of_ble_eq_true rfl) dX8_isShattered_7 (pc' := 10) rfl ?_
  refine kj_ishl dX8_isShattered_10 (pc' := 11) rfl ?_
  refine kj_icmp_ne dX8_isShattered_11 (tgt := 18) rfl (pc' := 14) rfl (fun c3 => ?_) (fun c3 => ?_)
  · rw [if_neg c3] at hT
    refine kj_iconst dX8_isShattered_18 (pc' := 19) rfl kc_0 ?_
    have hR := Option.some.inj hT
    subst hR
    exact kj_zret rfl (Or.inl rfl) dX8_isShattered_19 (by subst hQ; exact ⟨rfl, rfl, (Or.inl rfl)⟩)
  · rw [if_pos c3] at hT
    refine kj_iconst dX8_isShattered_14 (pc' := 15) rfl kc_1 ?_
    refine kj_goto dX8_isShattered_15 (pc' := 19) rfl ?_
    have hR := Option.some.inj hT
    subst hR
    exact kj_zret rfl (Or.inr rfl) dX8_isShattered_19 (by subst hQ; exact ⟨rfl, rfl, (Or.inr rfl)⟩)
def X8_depth_J35 (rec4 : Int32 × Int32 × Wd → Option (Int32 × Wd)) (y1 : Int32) (y2 : Int32) (ς : Wd) : Option (Int32 × Wd) :=
  rec4 (y1, y2 + 1, ς)
def X8_depth_B4 (rec4 : Int32 × Int32 × Wd → Option (Int32 × Wd)) : Int32 × Int32 × Wd → Option (Int32 × Wd)
  | (x1, x2, σ) => (if (X0_allPoints σ) < x2 then some (x1, σ) else (if (J6_bitCount_0f7a4 x2) ≤ x1 then X8_depth_J35 rec4 x1 x2 σ else ((X8_isShattered σ x2).bind fun (t3, σ4) => (if t3 = 0 then X8_depth_J35 rec4 x1 x2 σ4 else X8_depth_J35 rec4 (J6_bitCount_0f7a4 x2) x2 σ4))))
def X8_depth (σ : Wd) : Option (Int32 × Wd) :=
  (lp (X8_depth_B4) FU (0, 0, σ))
set_option maxRecDepth 100000 in
set_option maxHeartbeats 4000000 in
theorem m_X8_depth {E : JE} (hE : kOk 120 E) (σ : Wd) {res : Int32 × Wd} (hT : X8_depth σ = some res) : kMt E yX8_depth mX8_depth rmX8_depth [.inr 112] σ (kQi res.1 res.2) := by
  refine kMt_of (by decide +kernel) rfl (Nat.le_of_ble_eq_true rfl) ?_
  generalize hQ : (kQi res.1 res.2) = Q
  show KJ E mX8_depth rmX8_depth 0 [some (.inr 112)] [] σ Q
  unfold X8_depth at hT
  refine kj_iconst dX8_depth_0 (pc' := 1) rfl kc_0 ?_
  refine kj_istore_n dX8_depth_1 (pc' := 2) rfl rfl (Nat.le_of_ble_eq_true rfl) (ls' := [some (.inr 112), some (.inl 0)]) rfl ?_
  refine kj_iconst dX8_depth_2 (pc' := 3) rfl kc_0 ?_
  refine kj_istore_n dX8_depth_3 (pc' := 4) rfl rfl (Nat.le_of_ble_eq_true rfl) (ls' := [some (.inr 112), some (.inl 0), some (.inl 0)]) rfl ?_
  refine lp_ind (P := fun s => KJ E mX8_depth rmX8_depth 4 [some (.inr 112), some (.inl s.1), some (.inl s.2.1)] [] s.2.2 Q) (fun rec4 s ih4 hT => ?_) FU (0, 0, σ) hT
  obtain ⟨x1, x2, σ⟩ := s
  show KJ E mX8_depth rmX8_depth 4 [some (.inr 112), some (.inl x1), some (.inl x2)] [] σ Q
  rw [X8_depth_B4] at hT
  have hJ35_4 : ∀ y1 y2 ς, X8_depth_J35 rec4 y1 y2 ς = some res → KJ E mX8_depth rmX8_depth 35 [some (.inr 112), some (.inl y1), some (.inl y2)] [] ς Q := by
    intro y1 y2 ς hT
    unfold X8_depth_J35 at hT
    refine kj_iinc dX8_depth_35 (pc' := 38) rfl rfl (congrArg (_ + ·) kc_1) (Nat.le_of_ble_eq_true rfl) (ls' := [some (.inr 112), some (.inl y1), some (.inl (y2 + 1))]) rfl ?_
    refine kj_goto dX8_depth_38 (pc' := 4) rfl ?_
    exact ih4 (y1, y2 + 1, ς) hT
  refine kj_iload_n dX8_depth_4 (pc' := 5) rfl rfl rfl ?_
  refine kj_aload_n dX8_depth_5 (pc' := 6) rfl rfl rfl ?_
  refine kj_getR f_RX8_9 rfl (Nat.lt_of_lt_of_le (Nat.le_of_ble_eq_true rfl : 112 < 120) hE.1) (hE.2 _ _) (q := 93) rfl dX8_depth_6 (pc' := 9) rfl ?_
  refine kcVi (as := []) (st := [.inl x2]) l_RX8_64 (m_X0_allPoints hE σ rfl) rfl (Nat.lt_of_lt_of_le (Nat.le_of_ble_eq_true rfl : 93 < 120) hE.1) rfl ⟨⟨rfl, rfl⟩, Nat.le_of_ble_eq_true rfl, Nat.le_of_ble_eq_true rfl⟩ (Nat.le_of_ble_eq_true rfl) dX8_depth_9 (pc' := 12) rfl ?_
  refine kj_icmp_gt dX8_depth_12 (tgt := 41) rfl (pc' := 15) rfl (fun c1 => ?_) (fun c1 => ?_)
  · rw [if_pos c1] at hT
    refine kj_iload_n dX8_depth_41 (pc' := 42) rfl rfl rfl ?_
    have hR := Option.some.inj hT
    subst hR
    exact kj_iret rfl dX8_depth_42 (by subst hQ; exact ⟨rfl, rfl⟩)
  · rw [if_neg c1] at hT
    refine kj_iload_n dX8_depth_15 (pc' := 16) rfl rfl rfl ?_
    refine kcSi (as := [.inl x2]) (st := []) l_RX8_59 (m_J6_bitCount_0f7a4 (Nat.zero_le _) σ x2 rfl) rfl ⟨⟨rfl, rfl⟩, Nat.le_of_ble_eq_true rfl, Nat.le_of_ble_eq_true rfl⟩ (Nat.le_of_ble_eq_true rfl) dX8_depth_16 (pc' := 19) rfl ?_
    refine kj_istore_n dX8_depth_19 (pc' := 20) rfl rfl (Nat.le_of_ble_eq_true rfl) (ls' := [some (.inr 112), some (.inl x1), some (.inl x2), some (.inl (J6_bitCount_0f7a4 x2))]) rfl ?_
    refine kj_iload_n dX8_depth_20 (pc' := 21) rfl rfl rfl ?_
    refine kj_iload_n dX8_depth_21 (pc' := 22) rfl rfl rfl ?_
    refine kj_icmp_le dX8_depth_22 (tgt := 35) rfl (pc' := 25) rfl (fun c2 => ?_) (fun c2 => ?_)
    · rw [if_pos c2] at hT
      refine kj_keep [true, true, true] (ls' := [some (.inr 112), some (.inl x1), some (.inl x2)]) rfl ?_
      exact hJ35_4 x1 x2 σ hT
    · rw [if_neg c2] at hT
      refine kj_aload_n dX8_depth_25 (pc' := 26) rfl rfl rfl ?_
      refine kj_iload_n dX8_depth_26 (pc' := 27) rfl rfl rfl ?_
      obtain ⟨t3, ht3, hT⟩ := bind_some' hT
      obtain ⟨t3, σ4⟩ := t3
      dsimp only at hT
      refine kcVz (as := [.inl x2]) (st := []) l_RX8_68 (m_X8_isShattered hE σ x2 ht3) rfl (Nat.lt_of_lt_of_le (Nat.le_of_ble_eq_true rfl : 112 < 120) hE.1) rfl ⟨⟨rfl, rfl⟩, Nat.le_of_ble_eq_true rfl, Nat.le_of_ble_eq_true rfl⟩ (Nat.le_of_ble_eq_true rfl) dX8_depth_27 (pc' := 30) rfl (fun z5 => ?_)
      refine kj_if_eq dX8_depth_30 (tgt := 35) rfl (pc' := 33) rfl (fun c6 => ?_) (fun c6 => ?_)
      · rw [if_pos c6] at hT
        refine kj_keep [true, true, true] (ls' := [some (.inr 112), some (.inl x1), some (.inl x2)]) rfl ?_
        exact hJ35_4 x1 x2 σ4 hT
      · rw [if_neg c6] at hT
        refine kj_iload_n dX8_depth_33 (pc' := 34) rfl rfl rfl ?_
        refine kj_istore_n dX8_depth_34 (pc' := 35) rfl rfl (Nat.le_of_ble_eq_true rfl) (ls' := [some (.inr 112), some (.inl (J6_bitCount_0f7a4 x2)), some (.inl x2), some (.inl (J6_bitCount_0f7a4 x2))]) rfl ?_
        refine kj_keep [true, true, true] (ls' := [some (.inr 112), some (.inl (J6_bitCount_0f7a4 x2)), some (.inl x2)]) rfl ?_
        exact hJ35_4 (J6_bitCount_0f7a4 x2) x2 σ4 hT
