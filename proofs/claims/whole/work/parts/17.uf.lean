def X10_feed (σ : Wd) (x1 : Int32) (x2 : Int32) (x3 : Int32) (x4 : Int32) (x5 : Int32) : Option (Int32 × Wd) :=
  (if ((σ 87 1) + 20) ≤ 300 then ((X4_appendBytes σ 87 x1).bind fun σ2 => ((X4_appendBytes σ2 87 x2).bind fun σ3 => ((X4_appendBytes σ3 87 x3).bind fun σ4 => ((X4_appendBytes σ4 87 x4).bind fun σ5 => ((X4_appendBytes σ5 87 x5).bind fun σ6 => some (σ6 87 1, σ6)))))) else some ((-1), σ))
set_option maxRecDepth 100000 in
set_option maxHeartbeats 4000000 in
theorem m_X10_feed {E : JE} (hE : kOk 120 E) (σ : Wd) (x1 : Int32) (x2 : Int32) (x3 : Int32) (x4 : Int32) (x5 : Int32) {res : Int32 × Wd} (hT : X10_feed σ x1 x2 x3 x4 x5 = some res) : kMt E yX10_feed mX10_feed rmX10_feed [.inr 0, .inl x1, .inl x2, .inl x3, .inl x4, .inl x5] σ (kQi res.1 res.2) := by
  refine kMt_of (by decide +kernel) rfl (Nat.le_of_ble_eq_true rfl) ?_
  generalize hQ : (kQi res.1 res.2) = Q
  show KJ E mX10_feed rmX10_feed 0 [some (.inr 0), some (.inl x1), some (.inl x2), some (.inl x3), some (.inl x4), some (.inl x5)] [] σ Q
  unfold X10_feed at hT
  refine kj_aload_n dX10_feed_0 (pc' := 1) rfl rfl rfl ?_
  refine kj_getR f_RX10_31 rfl (Nat.lt_of_lt_of_le (Nat.le_of_ble_eq_true rfl : 0 < 120) hE.1) (hE.2 _ _) (q := 87) rfl dX10_feed_1 (pc' := 4) rfl ?_
  refine kj_getI f_RX10_100 rfl (Nat.lt_of_lt_of_le (Nat.le_of_ble_eq_true rfl : 87 < 120) hE.1) dX10_feed_4 (pc' := 7) rfl ?_
  refine kj_bipush dX10_feed_7 (pc' := 9) rfl kb_20 ?_
  refine kj_iadd dX10_feed_9 (pc' := 10) rfl ?_
  refine kj_sipush dX10_feed_10 (pc' := 13) rfl ks_300 ?_
  refine kj_icmp_le dX10_feed_13 (tgt := 18) rfl (pc' := 16) rfl (fun c1 => ?_) (fun c1 => ?_)
  · rw [if_pos c1] at hT
    refine kj_aload_n dX10_feed_18 (pc' := 19) rfl rfl rfl ?_
    refine kj_getR f_RX10_31 rfl (Nat.lt_of_lt_of_le (Nat.le_of_ble_eq_true rfl : 0 < 120) hE.1) (hE.2 _ _) (q := 87) rfl dX10_feed_19 (pc' := 22) rfl ?_
    refine kj_iload_n dX10_feed_22 (pc' := 23) rfl rfl rfl ?_
    obtain ⟨σ2, hσ2, hT⟩ := bind_some' hT
    refine kcVv (as := [.inl x1]) (st := []) l_RX10_104 (m_X4_appendBytes hE rfl σ x1 hσ2) rfl (Nat.lt_of_lt_of_le (Nat.le_of_ble_eq_true rfl : 87 < 120) hE.1) rfl ⟨⟨rfl, rfl⟩, Nat.le_of_ble_eq_true rfl, Nat.le_of_ble_eq_true rfl⟩ (Nat.le_of_ble_eq_true rfl) dX10_feed_23 (pc' := 26) rfl ?_
    refine kj_aload_n dX10_feed_26 (pc' := 27) rfl rfl rfl ?_
    refine kj_getR f_RX10_31 rfl (Nat.lt_of_lt_of_le (Nat.le_of_ble_eq_true rfl : 0 < 120) hE.1) (hE.2 _ _) (q := 87) rfl dX10_feed_27 (pc' := 30) rfl ?_
    refine kj_iload_n dX10_feed_30 (pc' := 31) rfl rfl rfl ?_
    obtain ⟨σ3, hσ3, hT⟩ := bind_some' hT
    refine kcVv (as := [.inl x2]) (st := []) l_RX10_104 (m_X4_appendBytes hE rfl σ2 x2 hσ3) rfl (Nat.lt_of_lt_of_le (Nat.le_of_ble_eq_true rfl : 87 < 120) hE.1) rfl ⟨⟨rfl, rfl⟩, Nat.le_of_ble_eq_true rfl, Nat.le_of_ble_eq_true rfl⟩ (Nat.le_of_ble_eq_true rfl) dX10_feed_31 (pc' := 34) rfl ?_
    refine kj_aload_n dX10_feed_34 (pc' := 35) rfl rfl rfl ?_
    refine kj_getR f_RX10_31 rfl (Nat.lt_of_lt_of_le (Nat.le_of_ble_eq_true rfl : 0 < 120) hE.1) (hE.2 _ _) (q := 87) rfl dX10_feed_35 (pc' := 38) rfl ?_
    refine kj_iload_n dX10_feed_38 (pc' := 39) rfl rfl rfl ?_
    obtain ⟨σ4, hσ4, hT⟩ := bind_some' hT
    refine kcVv (as := [.inl x3]) (st := []) l_RX10_104 (m_X4_appendBytes hE rfl σ3 x3 hσ4) rfl (Nat.lt_of_lt_of_le (Nat.le_of_ble_eq_true rfl : 87 < 120) hE.1) rfl ⟨⟨rfl, rfl⟩, Nat.le_of_ble_eq_true rfl, Nat.le_of_ble_eq_true rfl⟩ (Nat.le_of_ble_eq_true rfl) dX10_feed_39 (pc' := 42) rfl ?_
    refine kj_aload_n dX10_feed_42 (pc' := 43) rfl rfl rfl ?_
    refine kj_getR f_RX10_31 rfl (Nat.lt_of_lt_of_le (Nat.le_of_ble_eq_true rfl : 0 < 120) hE.1) (hE.2 _ _) (q := 87) rfl dX10_feed_43 (pc' := 46) rfl ?_
    refine kj_iload dX10_feed_46 (pc' := 48) rfl rfl ?_
    obtain ⟨σ5, hσ5, hT⟩ := bind_some' hT
    refine kcVv (as := [.inl x4]) (st := []) l_RX10_104 (m_X4_appendBytes hE rfl σ4 x4 hσ5) rfl (Nat.lt_of_lt_of_le (Nat.le_of_ble_eq_true rfl : 87 < 120) hE.1) rfl ⟨⟨rfl, rfl⟩, Nat.le_of_ble_eq_true rfl, Nat.le_of_ble_eq_true rfl⟩ (Nat.le_of_ble_eq_true rfl) dX10_feed_48 (pc' := 51) rfl ?_
    refine kj_aload_n dX10_feed_51 (pc' := 52) rfl rfl rfl ?_
    refine kj_getR f_RX10_31 rfl (Nat.lt_of_lt_of_le (Nat.le_of_ble_eq_true rfl : 0 < 120) hE.1) (hE.2 _ _) (q := 87) rfl dX10_feed_52 (pc' := 55) rfl ?_
    refine kj_iload dX10_feed_55 (pc' := 57) rfl rfl ?_
    obtain ⟨σ6, hσ6, hT⟩ := bind_some' hT
    refine kcVv (as := [.inl x5]) (st := []) l_RX10_104 (m_X4_appendBytes hE rfl σ5 x5 hσ6) rfl (Nat.lt_of_lt_of_le (Nat.le_of_ble_eq_true rfl : 87 < 120) hE.1) rfl ⟨⟨rfl, rfl⟩, Nat.le_of_ble_eq_true rfl, Nat.le_of_ble_eq_true rfl⟩ (Nat.le_of_ble_eq_true rfl) dX10_feed_57 (pc' := 60) rfl ?_
    refine kj_aload_n dX10_feed_60 (pc' := 61) rfl rfl rfl ?_
    refine kj_getR f_RX10_31 rfl (Nat.lt_of_lt_of_le (Nat.le_of_ble_eq_true rfl : 0 < 120) hE.1) (hE.2 _ _) (q := 87) rfl dX10_feed_61 (pc' := 64) rfl ?_
    refine kj_getI f_RX10_100 rfl (Nat.lt_of_lt_of_le (Nat.le_of_ble_eq_true rfl : 87 < 120) hE.1) dX10_feed_64 (pc' := 67) rfl ?_
    have hR := Option.some.inj hT
    subst hR
    exact kj_iret rfl dX10_feed_67 (by subst hQ; exact ⟨rfl, rfl⟩)
  · rw [if_neg c1] at hT
    refine kj_iconst dX10_feed_16 (pc' := 17) rfl kc_m1 ?_
    have hR := Option.some.inj hT
    subst hR
    exact kj_iret rfl dX10_feed_17 (by subst hQ; exact ⟨rfl, rfl⟩)
def X10_back (σ : Wd) (x1 : Int32) : Int32 × Wd :=
  (if x1 < 0 then ((-1), σ) else (if x1 ≤ (σ 87 1) then ((up σ 87 1 ((σ 87 1) - x1)) 87 1, up σ 87 1 ((σ 87 1) - x1)) else ((-1), σ)))
set_option maxRecDepth 100000 in
set_option maxHeartbeats 4000000 in
theorem m_X10_back {E : JE} (hE : kOk 120 E) (σ : Wd) (x1 : Int32) {res : Int32 × Wd} (hT : X10_back σ x1 = res) : kMt E yX10_back mX10_back rmX10_back [.inr 0, .inl x1] σ (kQi res.1 res.2) := by
  refine kMt_of (by decide +kernel) rfl (Nat.le_of_ble_eq_true rfl) ?_
  generalize hQ : (kQi res.1 res.2) = Q
  show KJ E mX10_back rmX10_back 0 [some (.inr 0), some (.inl x1)] [] σ Q
  unfold X10_back at hT
  refine kj_iload_n dX10_back_0 (pc' := 1) rfl rfl rfl ?_
  refine kj_if_lt dX10_back_1 (tgt := 15) rfl (pc' := 4) rfl (fun c1 => ?_) (fun c1 => ?_)
  · rw [if_pos c1] at hT
    refine kj_iconst dX10_back_15 (pc' := 16) rfl kc_m1 ?_
    subst hT
    exact kj_iret rfl dX10_back_16 (by subst hQ; exact ⟨rfl, rfl⟩)
  · rw [if_neg c1] at hT
    refine kj_iload_n dX10_back_4 (pc' := 5) rfl rfl rfl ?_
    refine kj_aload_n dX10_back_5 (pc' := 6) rfl rfl rfl ?_
    refine kj_getR f_RX10_31 rfl (Nat.lt_of_lt_of_le (Nat.le_of_ble_eq_true rfl : 0 < 120) hE.1) (hE.2 _ _) (q := 87) rfl dX10_back_6 (pc' := 9) rfl ?_
    refine kj_getI f_RX10_100 rfl (Nat.lt_of_lt_of_le (Nat.le_of_ble_eq_true rfl : 87 < 120) hE.1) dX10_back_9 (pc' := 12) rfl ?_
    refine kj_icmp_le dX10_back_12 (tgt := 17) rfl (pc' := 15) rfl (fun c2 => ?_) (fun c2 => ?_)
    · rw [if_pos c2] at hT
      refine kj_aload_n dX10_back_17 (pc' := 18) rfl rfl rfl ?_
      refine kj_getR f_RX10_31 rfl (Nat.lt_of_lt_of_le (Nat.le_of_ble_eq_true rfl : 0 < 120) hE.1) (hE.2 _ _) (q := 87) rfl dX10_back_18 (pc' := 21) rfl ?_
      refine kj_dup dX10_back_21 (pc' := 22) rfl ?_
      refine kj_getI f_RX10_100 rfl (Nat.lt_of_lt_of_le (Nat.le_of_ble_eq_true rfl : 87 < 120) hE.1) dX10_back_22 (pc' := 25) rfl ?_
      refine kj_iload_n dX10_back_25 (pc' := 26) rfl rfl rfl ?_
      refine kj_isub dX10_back_26 (pc' := 27) rfl ?_
      refine kj_putI p_RX10_100 rfl rfl rfl (Nat.lt_of_lt_of_le (Nat.le_of_ble_eq_true rfl : 87 < 120) hE.1) dX10_back_27 (pc' := 30) rfl ?_
      refine kj_aload_n dX10_back_30 (pc' := 31) rfl rfl rfl ?_
      refine kj_getR f_RX10_31 rfl (Nat.lt_of_lt_of_le (Nat.le_of_ble_eq_true rfl : 0 < 120) hE.1) (hE.2 _ _) (q := 87) rfl dX10_back_31 (pc' := 34) rfl ?_
      refine kj_getI f_RX10_100 rfl (Nat.lt_of_lt_of_le (Nat.le_of_ble_eq_true rfl : 87 < 120) hE.1) dX10_back_34 (pc' := 37) rfl ?_
      subst hT
      exact kj_iret rfl dX10_back_37 (by subst hQ; exact ⟨rfl, rfl⟩)
    · rw [if_neg c2] at hT
      refine kj_iconst dX10_back_15 (pc' := 16) rfl kc_m1 ?_
      subst hT
      exact kj_iret rfl dX10_back_16 (by subst hQ; exact ⟨rfl, rfl⟩)
def X10_refresh (σ : Wd) : Option (Wd) :=
  ((X0_rebuild σ (σ 1 3) 2).bind fun σ1 => some (X6_forget (X2_forget σ1)))
set_option maxRecDepth 100000 in
set_option maxHeartbeats 4000000 in
theorem m_X10_refresh {E : JE} (hE : kOk 120 E) (σ : Wd) {res : Wd} (hT : X10_refresh σ = some res) : kMt E yX10_refresh mX10_refresh rmX10_refresh [.inr 0] σ (kQv res) := by
  refine kMt_of (by decide +kernel) rfl (Nat.le_of_ble_eq_true rfl) ?_
  generalize hQ : (kQv res) = Q
  show KJ E mX10_refresh rmX10_refresh 0 [some (.inr 0)] [] σ Q
  unfold X10_refresh at hT
  refine kj_aload_n dX10_refresh_0 (pc' := 1) rfl rfl rfl ?_
  refine kj_getR f_RX10_54 rfl (Nat.lt_of_lt_of_le (Nat.le_of_ble_eq_true rfl : 0 < 120) hE.1) (hE.2 _ _) (q := 93) rfl dX10_refresh_1 (pc' := 4) rfl ?_
  refine kj_aload_n dX10_refresh_4 (pc' := 5) rfl rfl rfl ?_
  refine kj_getR f_RX10_10 rfl (Nat.lt_of_lt_of_le (Nat.le_of_ble_eq_true rfl : 0 < 120) hE.1) (hE.2 _ _) (q := 1) rfl dX10_refresh_5 (pc' := 8) rfl ?_
  refine kj_getI f_RX10_171 rfl (Nat.lt_of_lt_of_le (Nat.le_of_ble_eq_true rfl : 1 < 120) hE.1) dX10_refresh_8 (pc' := 11) rfl ?_
  refine kj_aload_n dX10_refresh_11 (pc' := 12) rfl rfl rfl ?_
  refine kj_getR f_RX10_10 rfl (Nat.lt_of_lt_of_le (Nat.le_of_ble_eq_true rfl : 0 < 120) hE.1) (hE.2 _ _) (q := 1) rfl dX10_refresh_12 (pc' := 15) rfl ?_
  refine kj_getR f_RX10_125 rfl (Nat.lt_of_lt_of_le (Nat.le_of_ble_eq_true rfl : 1 < 120) hE.1) (hE.2 _ _) (q := 2) rfl dX10_refresh_15 (pc' := 18) rfl ?_
  obtain ⟨σ1, hσ1, hT⟩ := bind_some' hT
  refine kcVv (as := [.inl (σ 1 3), .inr 2]) (st := []) l_RX10_366 (m_X0_rebuild hE rfl σ (σ 1 3) hσ1) rfl (Nat.lt_of_lt_of_le (Nat.le_of_ble_eq_true rfl : 93 < 120) hE.1) rfl ⟨⟨rfl, rfl⟩, Nat.le_of_ble_eq_true rfl, Nat.le_of_ble_eq_true rfl⟩ (Nat.le_of_ble_eq_true rfl) dX10_refresh_18 (pc' := 21) rfl ?_
  refine kj_aload_n dX10_refresh_21 (pc' := 22) rfl rfl rfl ?_
  refine kj_getR f_RX10_63 rfl (Nat.lt_of_lt_of_le (Nat.le_of_ble_eq_true rfl : 0 < 120) hE.1) (hE.2 _ _) (q := 103) rfl dX10_refresh_22 (pc' := 25) rfl ?_
  refine kcVv (as := []) (st := []) l_RX10_370 (m_X2_forget hE σ1 rfl) rfl (Nat.lt_of_lt_of_le (Nat.le_of_ble_eq_true rfl : 103 < 120) hE.1) rfl ⟨⟨rfl, rfl⟩, Nat.le_of_ble_eq_true rfl, Nat.le_of_ble_eq_true rfl⟩ (Nat.le_of_ble_eq_true rfl) dX10_refresh_25 (pc' := 28) rfl ?_
  refine kj_aload_n dX10_refresh_28 (pc' := 29) rfl rfl rfl ?_
  refine kj_getR f_RX10_75 rfl (Nat.lt_of_lt_of_le (Nat.le_of_ble_eq_true rfl : 0 < 120) hE.1) (hE.2 _ _) (q := 107) rfl dX10_refresh_29 (pc' := 32) rfl ?_
  refine kcVv (as := []) (st := []) l_RX10_373 (m_X6_forget hE (X2_forget σ1) rfl) rfl (Nat.lt_of_lt_of_le (Nat.le_of_ble_eq_true rfl : 107 < 120) hE.1) rfl ⟨⟨rfl, rfl⟩, Nat.le_of_ble_eq_true rfl, Nat.le_of_ble_eq_true rfl⟩ (Nat.le_of_ble_eq_true rfl) dX10_refresh_32 (pc' := 35) rfl ?_
  have hR := Option.some.inj hT
  subst hR
  exact kj_vret rfl dX10_refresh_35 (by subst hQ; exact ⟨rfl, rfl⟩)
def X10_text (σ : Wd) : Option (Int32 × Wd) :=
  ((X3_read σ).bind fun (t1, σ2) => (if t1 = (-1) then ((X7_keepList (X4_clear σ2 87) 7 4).bind fun σ4 => ((X7_copy σ4 1 7).bind fun σ5 => ((X10_refresh (X1_clear σ5)).bind fun σ6 => some (σ6 2 1, σ6)))) else some ((-4) - t1, X4_clear σ2 87)))
set_option maxRecDepth 100000 in
set_option maxHeartbeats 4000000 in
theorem m_X10_text {E : JE} (hE : kOk 120 E) (hX : kHX E) (σ : Wd) {res : Int32 × Wd} (hT : X10_text σ = some res) : kMt E yX10_text mX10_text rmX10_text [.inr 0] σ (kQi res.1 res.2) := by
  refine kMt_of (by decide +kernel) rfl (Nat.le_of_ble_eq_true rfl) ?_
  generalize hQ : (kQi res.1 res.2) = Q
  show KJ E mX10_text rmX10_text 0 [some (.inr 0)] [] σ Q
  unfold X10_text at hT
  refine kj_aload_n dX10_text_0 (pc' := 1) rfl rfl rfl ?_
  refine kj_getR f_RX10_40 rfl (Nat.lt_of_lt_of_le (Nat.le_of_ble_eq_true rfl : 0 < 120) hE.1) (hE.2 _ _) (q := 89) rfl dX10_text_1 (pc' := 4) rfl ?_
  obtain ⟨t1, ht1, hT⟩ := bind_some' hT
  obtain ⟨t1, σ2⟩ := t1
  dsimp only at hT
  refine kcVi (as := []) (st := []) l_RX10_107 (m_X3_read hE hX σ ht1) rfl (Nat.lt_of_lt_of_le (Nat.le_of_ble_eq_true rfl : 89 < 120) hE.1) rfl ⟨⟨rfl, rfl⟩, Nat.le_of_ble_eq_true rfl, Nat.le_of_ble_eq_true rfl⟩ (Nat.le_of_ble_eq_true rfl) dX10_text_4 (pc' := 7) rfl ?_
  refine kj_istore_n dX10_text_7 (pc' := 8) rfl rfl (Nat.le_of_ble_eq_true rfl) (ls' := [some (.inr 0), some (.inl t1)]) rfl ?_
  refine kj_aload_n dX10_text_8 (pc' := 9) rfl rfl rfl ?_
  refine kj_getR f_RX10_31 rfl (Nat.lt_of_lt_of_le (Nat.le_of_ble_eq_true rfl : 0 < 120) hE.1) (hE.2 _ _) (q := 87) rfl dX10_text_9 (pc' := 12) rfl ?_
  refine kcVv (as := []) (st := []) l_RX10_111 (m_X4_clear hE rfl σ2 rfl) rfl (Nat.lt_of_lt_of_le (Nat.le_of_ble_eq_true rfl : 87 < 120) hE.1) rfl ⟨⟨rfl, rfl⟩, Nat.le_of_ble_eq_true rfl, Nat.le_of_ble_eq_true rfl⟩ (Nat.le_of_ble_eq_true rfl) dX10_text_12 (pc' := 15) rfl ?_
  refine kj_iload_n dX10_text_15 (pc' := 16) rfl rfl rfl ?_
  refine kj_iconst dX10_text_16 (pc' := 17) rfl kc_m1 ?_
  refine kj_icmp_eq dX10_text_17 (tgt := 25) rfl (pc' := 20) rfl (fun c3 => ?_) (fun c3 => ?_)
  · rw [if_pos c3] at hT
    refine kj_aload_n dX10_text_25 (pc' := 26) rfl rfl rfl ?_
    refine kj_getR f_RX10_16 rfl (Nat.lt_of_lt_of_le (Nat.le_of_ble_eq_true rfl : 0 < 120) hE.1) (hE.2 _ _) (q := 7) rfl dX10_text_26 (pc' := 29) rfl ?_
    refine kj_aload_n dX10_text_29 (pc' := 30) rfl rfl rfl ?_
    refine kj_getR f_RX10_10 rfl (Nat.lt_of_lt_of_le (Nat.le_of_ble_eq_true rfl : 0 < 120) hE.1) (hE.2 _ _) (q := 1) rfl dX10_text_30 (pc' := 33) rfl ?_
    refine kj_getR f_RX10_114 rfl (Nat.lt_of_lt_of_le (Nat.le_of_ble_eq_true rfl : 1 < 120) hE.1) (hE.2 _ _) (q := 4) rfl dX10_text_33 (pc' := 36) rfl ?_
    obtain ⟨σ4, hσ4, hT⟩ := bind_some' hT
    refine kcVv (as := [.inr 4]) (st := []) l_RX10_117 (m_X7_keepList hE rfl rfl (X4_clear σ2 87) hσ4) rfl (Nat.lt_of_lt_of_le (Nat.le_of_ble_eq_true rfl : 7 < 120) hE.1) rfl ⟨⟨rfl, rfl⟩, Nat.le_of_ble_eq_true rfl, Nat.le_of_ble_eq_true rfl⟩ (Nat.le_of_ble_eq_true rfl) dX10_text_36 (pc' := 39) rfl ?_
    refine kj_aload_n dX10_text_39 (pc' := 40) rfl rfl rfl ?_
    refine kj_getR f_RX10_10 rfl (Nat.lt_of_lt_of_le (Nat.le_of_ble_eq_true rfl : 0 < 120) hE.1) (hE.2 _ _) (q := 1) rfl dX10_text_40 (pc' := 43) rfl ?_
    refine kj_aload_n dX10_text_43 (pc' := 44) rfl rfl rfl ?_
    refine kj_getR f_RX10_16 rfl (Nat.lt_of_lt_of_le (Nat.le_of_ble_eq_true rfl : 0 < 120) hE.1) (hE.2 _ _) (q := 7) rfl dX10_text_44 (pc' := 47) rfl ?_
    obtain ⟨σ5, hσ5, hT⟩ := bind_some' hT
    refine kcVv (as := [.inr 7]) (st := []) l_RX10_120 (m_X7_copy hE rfl rfl σ4 hσ5) rfl (Nat.lt_of_lt_of_le (Nat.le_of_ble_eq_true rfl : 1 < 120) hE.1) rfl ⟨⟨rfl, rfl⟩, Nat.le_of_ble_eq_true rfl, Nat.le_of_ble_eq_true rfl⟩ (Nat.le_of_ble_eq_true rfl) dX10_text_47 (pc' := 50) rfl ?_
    refine kj_aload_n dX10_text_50 (pc' := 51) rfl rfl rfl ?_
    refine kj_getR f_RX10_22 rfl (Nat.lt_of_lt_of_le (Nat.le_of_ble_eq_true rfl : 0 < 120) hE.1) (hE.2 _ _) (q := 13) rfl dX10_text_51 (pc' := 54) rfl ?_
    refine kcVv (as := []) (st := []) l_RX10_124 (m_X1_clear hE σ5 rfl) rfl (Nat.lt_of_lt_of_le (Nat.le_of_ble_eq_true rfl : 13 < 120) hE.1) rfl ⟨⟨rfl, rfl⟩, Nat.le_of_ble_eq_true rfl, Nat.le_of_ble_eq_true rfl⟩ (Nat.le_of_ble_eq_true rfl) dX10_text_54 (pc' := 57) rfl ?_
    refine kj_aload_n dX10_text_57 (pc' := 58) rfl rfl rfl ?_
    obtain ⟨σ6, hσ6, hT⟩ := bind_some' hT
    refine kcVv (as := []) (st := []) l_RX10_97 (m_X10_refresh hE (X1_clear σ5) hσ6) rfl (Nat.lt_of_lt_of_le (Nat.le_of_ble_eq_true rfl : 0 < 120) hE.1) rfl ⟨⟨rfl, rfl⟩, Nat.le_of_ble_eq_true rfl, Nat.le_of_ble_eq_true rfl⟩ (Nat.le_of_ble_eq_true rfl) dX10_text_58 (pc' := 61) rfl ?_
    refine kj_aload_n dX10_text_61 (pc' := 62) rfl rfl rfl ?_
    refine kj_getR f_RX10_10 rfl (Nat.lt_of_lt_of_le (Nat.le_of_ble_eq_true rfl : 0 < 120) hE.1) (hE.2 _ _) (q := 1) rfl dX10_text_62 (pc' := 65) rfl ?_
    refine kj_getR f_RX10_125 rfl (Nat.lt_of_lt_of_le (Nat.le_of_ble_eq_true rfl : 1 < 120) hE.1) (hE.2 _ _) (q := 2) rfl dX10_text_65 (pc' := 68) rfl ?_
    refine kj_getI f_RX10_100 rfl (Nat.lt_of_lt_of_le (Nat.le_of_ble_eq_true rfl : 2 < 120) hE.1) dX10_text_68 (pc' := 71) rfl ?_
    have hR := Option.some.inj hT
    subst hR
    exact kj_iret rfl dX10_text_71 (by subst hQ; exact ⟨rfl, rfl⟩)
  · rw [if_neg c3] at hT
    refine kj_bipush dX10_text_20 (pc' := 22) rfl kb_m4 ?_
    refine kj_iload_n dX10_text_22 (pc' := 23) rfl rfl rfl ?_
    refine kj_isub dX10_text_23 (pc' := 24) rfl ?_
    have hR := Option.some.inj hT
    subst hR
    exact kj_iret rfl dX10_text_24 (by subst hQ; exact ⟨rfl, rfl⟩)
def X10_isSet (σ : Wd) (x1 : Int32) : Int32 :=
  (if x1 < 0 then 0 else (if (1 <<< ((σ 1 3) &&& 31)) ≤ x1 then 0 else 1))
set_option maxRecDepth 100000 in
set_option maxHeartbeats 4000000 in
theorem m_X10_isSet {E : JE} (hE : kOk 120 E) (σ : Wd) (x1 : Int32) {res : Int32} (hT : X10_isSet σ x1 = res) : kMt E yX10_isSet mX10_isSet rmX10_isSet [.inr 0, .inl x1] σ (kQz res σ) := by
  refine kMt_of (by decide +kernel) rfl (Nat.le_of_ble_eq_true rfl) ?_
  generalize hQ : (kQz res σ) = Q
  show KJ E mX10_isSet rmX10_isSet 0 [some (.inr 0), some (.inl x1)] [] σ Q
  unfold X10_isSet at hT
  refine kj_iload_n dX10_isSet_0 (pc' := 1) rfl rfl rfl ?_
  refine kj_if_lt dX10_isSet_1 (tgt := 21) rfl (pc' := 4) rfl (fun c1 => ?_) (fun c1 => ?_)
  · rw [if_pos c1] at hT
    refine kj_iconst dX10_isSet_21 (pc' := 22) rfl kc_0 ?_
    subst hT
    exact kj_zret rfl (Or.inl rfl) dX10_isSet_22 (by subst hQ; exact ⟨rfl, rfl, (Or.inl rfl)⟩)
  · rw [if_neg c1] at hT
    refine kj_iload_n dX10_isSet_4 (pc' := 5) rfl rfl rfl ?_
    refine kj_iconst dX10_isSet_5 (pc' := 6) rfl kc_1 ?_
    refine kj_aload_n dX10_isSet_6 (pc' := 7) rfl rfl rfl ?_
    refine kj_getR f_RX10_10 rfl (Nat.lt_of_lt_of_le (Nat.le_of_ble_eq_true rfl : 0 < 120) hE.1) (hE.2 _ _) (q := 1) rfl dX10_isSet_7 (pc' := 10) rfl ?_
    refine kj_getI f_RX10_171 rfl (Nat.lt_of_lt_of_le (Nat.le_of_ble_eq_true rfl : 1 < 120) hE.1) dX10_isSet_10 (pc' := 13) rfl ?_
    refine kj_ishl dX10_isSet_13 (pc' := 14) rfl ?_
    refine kj_icmp_ge dX10_isSet_14 (tgt := 21) rfl (pc' := 17) rfl (fun c2 => ?_) (fun c2 => ?_)
    · rw [if_pos c2] at hT
      refine kj_iconst dX10_isSet_21 (pc' := 22) rfl kc_0 ?_
      subst hT
      exact kj_zret rfl (Or.inl rfl) dX10_isSet_22 (by subst hQ; exact ⟨rfl, rfl, (Or.inl rfl)⟩)
    · rw [if_neg c2] at hT
      refine kj_iconst dX10_isSet_17 (pc' := 18) rfl kc_1 ?_
      refine kj_goto dX10_isSet_18 (pc' := 22) rfl ?_
      subst hT
      exact kj_zret rfl (Or.inr rfl) dX10_isSet_22 (by subst hQ; exact ⟨rfl, rfl, (Or.inr rfl)⟩)
def X10_isFilledSet (σ : Wd) (x1 : Int32) : Int32 :=
  (if x1 = 0 then 0 else (if (X10_isSet σ x1) = 0 then 0 else 1))
set_option maxRecDepth 100000 in
set_option maxHeartbeats 4000000 in
theorem m_X10_isFilledSet {E : JE} (hE : kOk 120 E) (σ : Wd) (x1 : Int32) {res : Int32} (hT : X10_isFilledSet σ x1 = res) : kMt E yX10_isFilledSet mX10_isFilledSet rmX10_isFilledSet [.inr 0, .inl x1] σ (kQz res σ) := by
  refine kMt_of (by decide +kernel) rfl (Nat.le_of_ble_eq_true rfl) ?_
  generalize hQ : (kQz res σ) = Q
  show KJ E mX10_isFilledSet rmX10_isFilledSet 0 [some (.inr 0), some (.inl x1)] [] σ Q
  unfold X10_isFilledSet at hT
  refine kj_iload_n dX10_isFilledSet_0 (pc' := 1) rfl rfl rfl ?_
  refine kj_if_eq dX10_isFilledSet_1 (tgt := 16) rfl (pc' := 4) rfl (fun c1 => ?_) (fun c1 => ?_)
  · rw [if_pos c1] at hT
    refine kj_iconst dX10_isFilledSet_16 (pc' := 17) rfl kc_0 ?_
    subst hT
    exact kj_zret rfl (Or.inl rfl) dX10_isFilledSet_17 (by subst hQ; exact ⟨rfl, rfl, (Or.inl rfl)⟩)
  · rw [if_neg c1] at hT
    refine kj_aload_n dX10_isFilledSet_4 (pc' := 5) rfl rfl rfl ?_
    refine kj_iload_n dX10_isFilledSet_5 (pc' := 6) rfl rfl rfl ?_
    refine kcVz (as := [.inl x1]) (st := []) l_RX10_202 (m_X10_isSet hE σ x1 rfl) rfl (Nat.lt_of_lt_of_le (Nat.le_of_ble_eq_true rfl : 0 < 120) hE.1) rfl ⟨⟨rfl, rfl⟩, Nat.le_of_ble_eq_true rfl, Nat.le_of_ble_eq_true rfl⟩ (Nat.le_of_ble_eq_true rfl) dX10_isFilledSet_6 (pc' := 9) rfl (fun z2 => ?_)
    refine kj_if_eq dX10_isFilledSet_9 (tgt := 16) rfl (pc' := 12) rfl (fun c3 => ?_) (fun c3 => ?_)
    · rw [if_pos c3] at hT
      refine kj_iconst dX10_isFilledSet_16 (pc' := 17) rfl kc_0 ?_
      subst hT
      exact kj_zret rfl (Or.inl rfl) dX10_isFilledSet_17 (by subst hQ; exact ⟨rfl, rfl, (Or.inl rfl)⟩)
    · rw [if_neg c3] at hT
      refine kj_iconst dX10_isFilledSet_12 (pc' := 13) rfl kc_1 ?_
      refine kj_goto dX10_isFilledSet_13 (pc' := 17) rfl ?_
      subst hT
      exact kj_zret rfl (Or.inr rfl) dX10_isFilledSet_17 (by subst hQ; exact ⟨rfl, rfl, (Or.inr rfl)⟩)
def X10_settle (σ : Wd) : Option (Wd) :=
  ((X1_push σ 1).bind fun σ1 => ((X7_copy σ1 1 7).bind fun σ2 => ((X10_refresh σ2).bind fun σ3 => some σ3)))
set_option maxRecDepth 100000 in
set_option maxHeartbeats 4000000 in
theorem m_X10_settle {E : JE} (hE : kOk 120 E) (σ : Wd) {res : Wd} (hT : X10_settle σ = some res) : kMt E yX10_settle mX10_settle rmX10_settle [.inr 0] σ (kQv res) := by
  refine kMt_of (by decide +kernel) rfl (Nat.le_of_ble_eq_true rfl) ?_
  generalize hQ : (kQv res) = Q
  show KJ E mX10_settle rmX10_settle 0 [some (.inr 0)] [] σ Q
  unfold X10_settle at hT
  refine kj_aload_n dX10_settle_0 (pc' := 1) rfl rfl rfl ?_
  refine kj_getR f_RX10_22 rfl (Nat.lt_of_lt_of_le (Nat.le_of_ble_eq_true rfl : 0 < 120) hE.1) (hE.2 _ _) (q := 13) rfl dX10_settle_1 (pc' := 4) rfl ?_
  refine kj_aload_n dX10_settle_4 (pc' := 5) rfl rfl rfl ?_
  refine kj_getR f_RX10_10 rfl (Nat.lt_of_lt_of_le (Nat.le_of_ble_eq_true rfl : 0 < 120) hE.1) (hE.2 _ _) (q := 1) rfl dX10_settle_5 (pc' := 8) rfl ?_
  obtain ⟨σ1, hσ1, hT⟩ := bind_some' hT
  refine kcVv (as := [.inr 1]) (st := []) l_RX10_357 (m_X1_push hE rfl σ hσ1) rfl (Nat.lt_of_lt_of_le (Nat.le_of_ble_eq_true rfl : 13 < 120) hE.1) rfl ⟨⟨rfl, rfl⟩, Nat.le_of_ble_eq_true rfl, Nat.le_of_ble_eq_true rfl⟩ (Nat.le_of_ble_eq_true rfl) dX10_settle_8 (pc' := 11) rfl ?_
  refine kj_aload_n dX10_settle_11 (pc' := 12) rfl rfl rfl ?_
  refine kj_getR f_RX10_10 rfl (Nat.lt_of_lt_of_le (Nat.le_of_ble_eq_true rfl : 0 < 120) hE.1) (hE.2 _ _) (q := 1) rfl dX10_settle_12 (pc' := 15) rfl ?_
  refine kj_aload_n dX10_settle_15 (pc' := 16) rfl rfl rfl ?_
  refine kj_getR f_RX10_16 rfl (Nat.lt_of_lt_of_le (Nat.le_of_ble_eq_true rfl : 0 < 120) hE.1) (hE.2 _ _) (q := 7) rfl dX10_settle_16 (pc' := 19) rfl ?_
  obtain ⟨σ2, hσ2, hT⟩ := bind_some' hT
  refine kcVv (as := [.inr 7]) (st := []) l_RX10_120 (m_X7_copy hE rfl rfl σ1 hσ2) rfl (Nat.lt_of_lt_of_le (Nat.le_of_ble_eq_true rfl : 1 < 120) hE.1) rfl ⟨⟨rfl, rfl⟩, Nat.le_of_ble_eq_true rfl, Nat.le_of_ble_eq_true rfl⟩ (Nat.le_of_ble_eq_true rfl) dX10_settle_19 (pc' := 22) rfl ?_
  refine kj_aload_n dX10_settle_22 (pc' := 23) rfl rfl rfl ?_
  obtain ⟨σ3, hσ3, hT⟩ := bind_some' hT
  refine kcVv (as := []) (st := []) l_RX10_97 (m_X10_refresh hE σ2 hσ3) rfl (Nat.lt_of_lt_of_le (Nat.le_of_ble_eq_true rfl : 0 < 120) hE.1) rfl ⟨⟨rfl, rfl⟩, Nat.le_of_ble_eq_true rfl, Nat.le_of_ble_eq_true rfl⟩ (Nat.le_of_ble_eq_true rfl) dX10_settle_23 (pc' := 26) rfl ?_
  have hR := Option.some.inj hT
  subst hR
  exact kj_vret rfl dX10_settle_26 (by subst hQ; exact ⟨rfl, rfl⟩)
def X10_generate (σ : Wd) (x1 : Int32) : Option (Int32 × Wd) :=
  (if (X10_isFilledSet σ x1) = 0 then some ((-1), σ) else ((X4_find σ 2 x1).bind fun t3 => (if t3 = (-1) then (if (σ 2 1) < 12 then ((X7_copy σ 7 1).bind fun σ6 => ((X4_append σ6 8 x1).bind fun σ7 => ((X10_settle σ7).bind fun σ8 => some ((σ8 2 1) - 1, σ8)))) else some ((-1), σ)) else some ((-1), σ))))
set_option maxRecDepth 100000 in
set_option maxHeartbeats 4000000 in
theorem m_X10_generate {E : JE} (hE : kOk 120 E) (σ : Wd) (x1 : Int32) {res : Int32 × Wd} (hT : X10_generate σ x1 = some res) : kMt E yX10_generate mX10_generate rmX10_generate [.inr 0, .inl x1] σ (kQi res.1 res.2) := by
  refine kMt_of (by decide +kernel) rfl (Nat.le_of_ble_eq_true rfl) ?_
  generalize hQ : (kQi res.1 res.2) = Q
  show KJ E mX10_generate rmX10_generate 0 [some (.inr 0), some (.inl x1)] [] σ Q
  unfold X10_generate at hT
  refine kj_aload_n dX10_generate_0 (pc' := 1) rfl rfl rfl ?_
  refine kj_iload_n dX10_generate_1 (pc' := 2) rfl rfl rfl ?_
  refine kcVz (as := [.inl x1]) (st := []) l_RX10_128 (m_X10_isFilledSet hE σ x1 rfl) rfl (Nat.lt_of_lt_of_le (Nat.le_of_ble_eq_true rfl : 0 < 120) hE.1) rfl ⟨⟨rfl, rfl⟩, Nat.le_of_ble_eq_true rfl, Nat.le_of_ble_eq_true rfl⟩ (Nat.le_of_ble_eq_true rfl) dX10_generate_2 (pc' := 5) rfl (fun z1 => ?_)
  refine kj_if_eq dX10_generate_5 (tgt := 38) rfl (pc' := 8) rfl (fun c2 => ?_) (fun c2 => ?_)
  · rw [if_pos c2] at hT
    refine kj_iconst dX10_generate_38 (pc' := 39) rfl kc_m1 ?_
    have hR := Option.some.inj hT
    subst hR
    exact kj_iret rfl dX10_generate_39 (by subst hQ; exact ⟨rfl, rfl⟩)
  · rw [if_neg c2] at hT
    refine kj_aload_n dX10_generate_8 (pc' := 9) rfl rfl rfl ?_
    refine kj_getR f_RX10_10 rfl (Nat.lt_of_lt_of_le (Nat.le_of_ble_eq_true rfl : 0 < 120) hE.1) (hE.2 _ _) (q := 1) rfl dX10_generate_9 (pc' := 12) rfl ?_
    refine kj_getR f_RX10_125 rfl (Nat.lt_of_lt_of_le (Nat.le_of_ble_eq_true rfl : 1 < 120) hE.1) (hE.2 _ _) (q := 2) rfl dX10_generate_12 (pc' := 15) rfl ?_
    refine kj_iload_n dX10_generate_15 (pc' := 16) rfl rfl rfl ?_
    obtain ⟨t3, ht3, hT⟩ := bind_some' hT
    refine kcVi (as := [.inl x1]) (st := []) l_RX10_132 (m_X4_find hE rfl σ x1 ht3) rfl (Nat.lt_of_lt_of_le (Nat.le_of_ble_eq_true rfl : 2 < 120) hE.1) rfl ⟨⟨rfl, rfl⟩, Nat.le_of_ble_eq_true rfl, Nat.le_of_ble_eq_true rfl⟩ (Nat.le_of_ble_eq_true rfl) dX10_generate_16 (pc' := 19) rfl ?_
    refine kj_iconst dX10_generate_19 (pc' := 20) rfl kc_m1 ?_
    refine kj_icmp_ne dX10_generate_20 (tgt := 38) rfl (pc' := 23) rfl (fun c4 => ?_) (fun c4 => ?_)
    · rw [if_neg c4] at hT
      refine kj_iconst dX10_generate_38 (pc' := 39) rfl kc_m1 ?_
      have hR := Option.some.inj hT
      subst hR
      exact kj_iret rfl dX10_generate_39 (by subst hQ; exact ⟨rfl, rfl⟩)
    · rw [if_pos c4] at hT
      refine kj_aload_n dX10_generate_23 (pc' := 24) rfl rfl rfl ?_
      refine kj_getR f_RX10_10 rfl (Nat.lt_of_lt_of_le (Nat.le_of_ble_eq_true rfl : 0 < 120) hE.1) (hE.2 _ _) (q := 1) rfl dX10_generate_24 (pc' := 27) rfl ?_
      refine kj_getR f_RX10_125 rfl (Nat.lt_of_lt_of_le (Nat.le_of_ble_eq_true rfl : 1 < 120) hE.1) (hE.2 _ _) (q := 2) rfl dX10_generate_27 (pc' := 30) rfl ?_
      refine kj_getI f_RX10_100 rfl (Nat.lt_of_lt_of_le (Nat.le_of_ble_eq_true rfl : 2 < 120) hE.1) dX10_generate_30 (pc' := 33) rfl ?_
      refine kj_bipush dX10_generate_33 (pc' := 35) rfl kb_12 ?_
      refine kj_icmp_lt dX10_generate_35 (tgt := 40) rfl (pc' := 38) rfl (fun c5 => ?_) (fun c5 => ?_)
      · rw [if_pos c5] at hT
        refine kj_aload_n dX10_generate_40 (pc' := 41) rfl rfl rfl ?_
        refine kj_getR f_RX10_16 rfl (Nat.lt_of_lt_of_le (Nat.le_of_ble_eq_true rfl : 0 < 120) hE.1) (hE.2 _ _) (q := 7) rfl dX10_generate_41 (pc' := 44) rfl ?_
        refine kj_aload_n dX10_generate_44 (pc' := 45) rfl rfl rfl ?_
        refine kj_getR f_RX10_10 rfl (Nat.lt_of_lt_of_le (Nat.le_of_ble_eq_true rfl : 0 < 120) hE.1) (hE.2 _ _) (q := 1) rfl dX10_generate_45 (pc' := 48) rfl ?_
        obtain ⟨σ6, hσ6, hT⟩ := bind_some' hT
        refine kcVv (as := [.inr 1]) (st := []) l_RX10_120 (m_X7_copy hE rfl rfl σ hσ6) rfl (Nat.lt_of_lt_of_le (Nat.le_of_ble_eq_true rfl : 7 < 120) hE.1) rfl ⟨⟨rfl, rfl⟩, Nat.le_of_ble_eq_true rfl, Nat.le_of_ble_eq_true rfl⟩ (Nat.le_of_ble_eq_true rfl) dX10_generate_48 (pc' := 51) rfl ?_
        refine kj_aload_n dX10_generate_51 (pc' := 52) rfl rfl rfl ?_
        refine kj_getR f_RX10_16 rfl (Nat.lt_of_lt_of_le (Nat.le_of_ble_eq_true rfl : 0 < 120) hE.1) (hE.2 _ _) (q := 7) rfl dX10_generate_52 (pc' := 55) rfl ?_
        refine kj_getR f_RX10_125 rfl (Nat.lt_of_lt_of_le (Nat.le_of_ble_eq_true rfl : 7 < 120) hE.1) (hE.2 _ _) (q := 8) rfl dX10_generate_55 (pc' := 58) rfl ?_
        refine kj_iload_n dX10_generate_58 (pc' := 59) rfl rfl rfl ?_
        obtain ⟨σ7, hσ7, hT⟩ := bind_some' hT
        refine kcVv (as := [.inl x1]) (st := []) l_RX10_136 (m_X4_append hE rfl σ6 x1 hσ7) rfl (Nat.lt_of_lt_of_le (Nat.le_of_ble_eq_true rfl : 8 < 120) hE.1) rfl ⟨⟨rfl, rfl⟩, Nat.le_of_ble_eq_true rfl, Nat.le_of_ble_eq_true rfl⟩ (Nat.le_of_ble_eq_true rfl) dX10_generate_59 (pc' := 62) rfl ?_
        refine kj_aload_n dX10_generate_62 (pc' := 63) rfl rfl rfl ?_
        obtain ⟨σ8, hσ8, hT⟩ := bind_some' hT
        refine kcVv (as := []) (st := []) l_RX10_139 (m_X10_settle hE σ7 hσ8) rfl (Nat.lt_of_lt_of_le (Nat.le_of_ble_eq_true rfl : 0 < 120) hE.1) rfl ⟨⟨rfl, rfl⟩, Nat.le_of_ble_eq_true rfl, Nat.le_of_ble_eq_true rfl⟩ (Nat.le_of_ble_eq_true rfl) dX10_generate_63 (pc' := 66) rfl ?_
        refine kj_aload_n dX10_generate_66 (pc' := 67) rfl rfl rfl ?_
        refine kj_getR f_RX10_10 rfl (Nat.lt_of_lt_of_le (Nat.le_of_ble_eq_true rfl : 0 < 120) hE.1) (hE.2 _ _) (q := 1) rfl dX10_generate_67 (pc' := 70) rfl ?_
        refine kj_getR f_RX10_125 rfl (Nat.lt_of_lt_of_le (Nat.le_of_ble_eq_true rfl : 1 < 120) hE.1) (hE.2 _ _) (q := 2) rfl dX10_generate_70 (pc' := 73) rfl ?_
        refine kj_getI f_RX10_100 rfl (Nat.lt_of_lt_of_le (Nat.le_of_ble_eq_true rfl : 2 < 120) hE.1) dX10_generate_73 (pc' := 76) rfl ?_
        refine kj_iconst dX10_generate_76 (pc' := 77) rfl kc_1 ?_
        refine kj_isub dX10_generate_77 (pc' := 78) rfl ?_
        have hR := Option.some.inj hT
        subst hR
        exact kj_iret rfl dX10_generate_78 (by subst hQ; exact ⟨rfl, rfl⟩)
      · rw [if_neg c5] at hT
        refine kj_iconst dX10_generate_38 (pc' := 39) rfl kc_m1 ?_
        have hR := Option.some.inj hT
        subst hR
        exact kj_iret rfl dX10_generate_39 (by subst hQ; exact ⟨rfl, rfl⟩)
def X10_isGenerator (σ : Wd) (x1 : Int32) : Int32 :=
  (if x1 < 0 then 0 else (if (σ 2 1) ≤ x1 then 0 else 1))
set_option maxRecDepth 100000 in
set_option maxHeartbeats 4000000 in
theorem m_X10_isGenerator {E : JE} (hE : kOk 120 E) (σ : Wd) (x1 : Int32) {res : Int32} (hT : X10_isGenerator σ x1 = res) : kMt E yX10_isGenerator mX10_isGenerator rmX10_isGenerator [.inr 0, .inl x1] σ (kQz res σ) := by
  refine kMt_of (by decide +kernel) rfl (Nat.le_of_ble_eq_true rfl) ?_
  generalize hQ : (kQz res σ) = Q
  show KJ E mX10_isGenerator rmX10_isGenerator 0 [some (.inr 0), some (.inl x1)] [] σ Q
  unfold X10_isGenerator at hT
  refine kj_iload_n dX10_isGenerator_0 (pc' := 1) rfl rfl rfl ?_
  refine kj_if_lt dX10_isGenerator_1 (tgt := 22) rfl (pc' := 4) rfl (fun c1 => ?_) (fun c1 => ?_)
  · rw [if_pos c1] at hT
    refine kj_iconst dX10_isGenerator_22 (pc' := 23) rfl kc_0 ?_
    subst hT
    exact kj_zret rfl (Or.inl rfl) dX10_isGenerator_23 (by subst hQ; exact ⟨rfl, rfl, (Or.inl rfl)⟩)
  · rw [if_neg c1] at hT
    refine kj_iload_n dX10_isGenerator_4 (pc' := 5) rfl rfl rfl ?_
    refine kj_aload_n dX10_isGenerator_5 (pc' := 6) rfl rfl rfl ?_
    refine kj_getR f_RX10_10 rfl (Nat.lt_of_lt_of_le (Nat.le_of_ble_eq_true rfl : 0 < 120) hE.1) (hE.2 _ _) (q := 1) rfl dX10_isGenerator_6 (pc' := 9) rfl ?_
    refine kj_getR f_RX10_125 rfl (Nat.lt_of_lt_of_le (Nat.le_of_ble_eq_true rfl : 1 < 120) hE.1) (hE.2 _ _) (q := 2) rfl dX10_isGenerator_9 (pc' := 12) rfl ?_
    refine kj_getI f_RX10_100 rfl (Nat.lt_of_lt_of_le (Nat.le_of_ble_eq_true rfl : 2 < 120) hE.1) dX10_isGenerator_12 (pc' := 15) rfl ?_
    refine kj_icmp_ge dX10_isGenerator_15 (tgt := 22) rfl (pc' := 18) rfl (fun c2 => ?_) (fun c2 => ?_)
    · rw [if_pos c2] at hT
      refine kj_iconst dX10_isGenerator_22 (pc' := 23) rfl kc_0 ?_
      subst hT
      exact kj_zret rfl (Or.inl rfl) dX10_isGenerator_23 (by subst hQ; exact ⟨rfl, rfl, (Or.inl rfl)⟩)
    · rw [if_neg c2] at hT
      refine kj_iconst dX10_isGenerator_18 (pc' := 19) rfl kc_1 ?_
      refine kj_goto dX10_isGenerator_19 (pc' := 23) rfl ?_
      subst hT
      exact kj_zret rfl (Or.inr rfl) dX10_isGenerator_23 (by subst hQ; exact ⟨rfl, rfl, (Or.inr rfl)⟩)
def X10_drop (σ : Wd) (x1 : Int32) : Option (Int32 × Wd) :=
  (if (X10_isGenerator σ x1) = 0 then some (0, σ) else ((X7_copy σ 7 1).bind fun σ3 => ((X4_cutOut σ3 8 x1).bind fun σ4 => ((X10_settle σ4).bind fun σ5 => some (1, σ5)))))
set_option maxRecDepth 100000 in
set_option maxHeartbeats 4000000 in
theorem m_X10_drop {E : JE} (hE : kOk 120 E) (σ : Wd) (x1 : Int32) {res : Int32 × Wd} (hT : X10_drop σ x1 = some res) : kMt E yX10_drop mX10_drop rmX10_drop [.inr 0, .inl x1] σ (kQz res.1 res.2) := by
  refine kMt_of (by decide +kernel) rfl (Nat.le_of_ble_eq_true rfl) ?_
  generalize hQ : (kQz res.1 res.2) = Q
  show KJ E mX10_drop rmX10_drop 0 [some (.inr 0), some (.inl x1)] [] σ Q
  unfold X10_drop at hT
  refine kj_aload_n dX10_drop_0 (pc' := 1) rfl rfl rfl ?_
  refine kj_iload_n dX10_drop_1 (pc' := 2) rfl rfl rfl ?_
  refine kcVz (as := [.inl x1]) (st := []) l_RX10_142 (m_X10_isGenerator hE σ x1 rfl) rfl (Nat.lt_of_lt_of_le (Nat.le_of_ble_eq_true rfl : 0 < 120) hE.1) rfl ⟨⟨rfl, rfl⟩, Nat.le_of_ble_eq_true rfl, Nat.le_of_ble_eq_true rfl⟩ (Nat.le_of_ble_eq_true rfl) dX10_drop_2 (pc' := 5) rfl (fun z1 => ?_)
  refine kj_if_ne dX10_drop_5 (tgt := 10) rfl (pc' := 8) rfl (fun c2 => ?_) (fun c2 => ?_)
  · rw [if_neg c2] at hT
    refine kj_aload_n dX10_drop_10 (pc' := 11) rfl rfl rfl ?_
    refine kj_getR f_RX10_16 rfl (Nat.lt_of_lt_of_le (Nat.le_of_ble_eq_true rfl : 0 < 120) hE.1) (hE.2 _ _) (q := 7) rfl dX10_drop_11 (pc' := 14) rfl ?_
    refine kj_aload_n dX10_drop_14 (pc' := 15) rfl rfl rfl ?_
    refine kj_getR f_RX10_10 rfl (Nat.lt_of_lt_of_le (Nat.le_of_ble_eq_true rfl : 0 < 120) hE.1) (hE.2 _ _) (q := 1) rfl dX10_drop_15 (pc' := 18) rfl ?_
    obtain ⟨σ3, hσ3, hT⟩ := bind_some' hT
    refine kcVv (as := [.inr 1]) (st := []) l_RX10_120 (m_X7_copy hE rfl rfl σ hσ3) rfl (Nat.lt_of_lt_of_le (Nat.le_of_ble_eq_true rfl : 7 < 120) hE.1) rfl ⟨⟨rfl, rfl⟩, Nat.le_of_ble_eq_true rfl, Nat.le_of_ble_eq_true rfl⟩ (Nat.le_of_ble_eq_true rfl) dX10_drop_18 (pc' := 21) rfl ?_
    refine kj_aload_n dX10_drop_21 (pc' := 22) rfl rfl rfl ?_
    refine kj_getR f_RX10_16 rfl (Nat.lt_of_lt_of_le (Nat.le_of_ble_eq_true rfl : 0 < 120) hE.1) (hE.2 _ _) (q := 7) rfl dX10_drop_22 (pc' := 25) rfl ?_
    refine kj_getR f_RX10_125 rfl (Nat.lt_of_lt_of_le (Nat.le_of_ble_eq_true rfl : 7 < 120) hE.1) (hE.2 _ _) (q := 8) rfl dX10_drop_25 (pc' := 28) rfl ?_
    refine kj_iload_n dX10_drop_28 (pc' := 29) rfl rfl rfl ?_
    obtain ⟨σ4, hσ4, hT⟩ := bind_some' hT
    refine kcVv (as := [.inl x1]) (st := []) l_RX10_145 (m_X4_cutOut hE rfl σ3 x1 hσ4) rfl (Nat.lt_of_lt_of_le (Nat.le_of_ble_eq_true rfl : 8 < 120) hE.1) rfl ⟨⟨rfl, rfl⟩, Nat.le_of_ble_eq_true rfl, Nat.le_of_ble_eq_true rfl⟩ (Nat.le_of_ble_eq_true rfl) dX10_drop_29 (pc' := 32) rfl ?_
    refine kj_aload_n dX10_drop_32 (pc' := 33) rfl rfl rfl ?_
    obtain ⟨σ5, hσ5, hT⟩ := bind_some' hT
    refine kcVv (as := []) (st := []) l_RX10_139 (m_X10_settle hE σ4 hσ5) rfl (Nat.lt_of_lt_of_le (Nat.le_of_ble_eq_true rfl : 0 < 120) hE.1) rfl ⟨⟨rfl, rfl⟩, Nat.le_of_ble_eq_true rfl, Nat.le_of_ble_eq_true rfl⟩ (Nat.le_of_ble_eq_true rfl) dX10_drop_33 (pc' := 36) rfl ?_
    refine kj_iconst dX10_drop_36 (pc' := 37) rfl kc_1 ?_
    have hR := Option.some.inj hT
    subst hR
    exact kj_zret rfl (Or.inr rfl) dX10_drop_37 (by subst hQ; exact ⟨rfl, rfl, (Or.inr rfl)⟩)
  · rw [if_pos c2] at hT
    refine kj_iconst dX10_drop_8 (pc' := 9) rfl kc_0 ?_
    have hR := Option.some.inj hT
    subst hR
    exact kj_zret rfl (Or.inl rfl) dX10_drop_9 (by subst hQ; exact ⟨rfl, rfl, (Or.inl rfl)⟩)
def X10_change (σ : Wd) (x1 : Int32) (x2 : Int32) : Option (Int32 × Wd) :=
  (if (X10_isGenerator σ x1) = 0 then some ((-1), σ) else (if (X10_isFilledSet σ x2) = 0 then some ((-1), σ) else ((X4_find σ 2 x2).bind fun t5 => (if t5 = (-1) then ((X4_at σ 2 x1).bind fun t7 => ((X7_copy σ 7 1).bind fun σ8 => ((X4_replace σ8 8 x1 x2).bind fun σ9 => ((X10_settle σ9).bind fun σ10 => some (t7, σ10))))) else some ((-1), σ)))))
set_option maxRecDepth 100000 in
set_option maxHeartbeats 4000000 in
theorem m_X10_change {E : JE} (hE : kOk 120 E) (σ : Wd) (x1 : Int32) (x2 : Int32) {res : Int32 × Wd} (hT : X10_change σ x1 x2 = some res) : kMt E yX10_change mX10_change rmX10_change [.inr 0, .inl x1, .inl x2] σ (kQi res.1 res.2) := by
  refine kMt_of (by decide +kernel) rfl (Nat.le_of_ble_eq_true rfl) ?_
  generalize hQ : (kQi res.1 res.2) = Q
  show KJ E mX10_change rmX10_change 0 [some (.inr 0), some (.inl x1), some (.inl x2)] [] σ Q
  unfold X10_change at hT
  refine kj_aload_n dX10_change_0 (pc' := 1) rfl rfl rfl ?_
  refine kj_iload_n dX10_change_1 (pc' := 2) rfl rfl rfl ?_
  refine kcVz (as := [.inl x1]) (st := []) l_RX10_142 (m_X10_isGenerator hE σ x1 rfl) rfl (Nat.lt_of_lt_of_le (Nat.le_of_ble_eq_true rfl : 0 < 120) hE.1) rfl ⟨⟨rfl, rfl⟩, Nat.le_of_ble_eq_true rfl, Nat.le_of_ble_eq_true rfl⟩ (Nat.le_of_ble_eq_true rfl) dX10_change_2 (pc' := 5) rfl (fun z1 => ?_)
  refine kj_if_eq dX10_change_5 (tgt := 31) rfl (pc' := 8) rfl (fun c2 => ?_) (fun c2 => ?_)
  · rw [if_pos c2] at hT
    refine kj_iconst dX10_change_31 (pc' := 32) rfl kc_m1 ?_
    have hR := Option.some.inj hT
    subst hR
    exact kj_iret rfl dX10_change_32 (by subst hQ; exact ⟨rfl, rfl⟩)
  · rw [if_neg c2] at hT
    refine kj_aload_n dX10_change_8 (pc' := 9) rfl rfl rfl ?_
    refine kj_iload_n dX10_change_9 (pc' := 10) rfl rfl rfl ?_
    refine kcVz (as := [.inl x2]) (st := []) l_RX10_128 (m_X10_isFilledSet hE σ x2 rfl) rfl (Nat.lt_of_lt_of_le (Nat.le_of_ble_eq_true rfl : 0 < 120) hE.1) rfl ⟨⟨rfl, rfl⟩, Nat.le_of_ble_eq_true rfl, Nat.le_of_ble_eq_true rfl⟩ (Nat.le_of_ble_eq_true rfl) dX10_change_10 (pc' := 13) rfl (fun z3 => ?_)
    refine kj_if_eq dX10_change_13 (tgt := 31) rfl (pc' := 16) rfl (fun c4 => ?_) (fun c4 => ?_)
    · rw [if_pos c4] at hT
      refine kj_iconst dX10_change_31 (pc' := 32) rfl kc_m1 ?_
      have hR := Option.some.inj hT
      subst hR
      exact kj_iret rfl dX10_change_32 (by subst hQ; exact ⟨rfl, rfl⟩)
    · rw [if_neg c4] at hT
      refine kj_aload_n dX10_change_16 (pc' := 17) rfl rfl rfl ?_
      refine kj_getR f_RX10_10 rfl (Nat.lt_of_lt_of_le (Nat.le_of_ble_eq_true rfl : 0 < 120) hE.1) (hE.2 _ _) (q := 1) rfl dX10_change_17 (pc' := 20) rfl ?_
      refine kj_getR f_RX10_125 rfl (Nat.lt_of_lt_of_le (Nat.le_of_ble_eq_true rfl : 1 < 120) hE.1) (hE.2 _ _) (q := 2) rfl dX10_change_20 (pc' := 23) rfl ?_
      refine kj_iload_n dX10_change_23 (pc' := 24) rfl rfl rfl ?_
      obtain ⟨t5, ht5, hT⟩ := bind_some' hT
      refine kcVi (as := [.inl x2]) (st := []) l_RX10_132 (m_X4_find hE rfl σ x2 ht5) rfl (Nat.lt_of_lt_of_le (Nat.le_of_ble_eq_true rfl : 2 < 120) hE.1) rfl ⟨⟨rfl, rfl⟩, Nat.le_of_ble_eq_true rfl, Nat.le_of_ble_eq_true rfl⟩ (Nat.le_of_ble_eq_true rfl) dX10_change_24 (pc' := 27) rfl ?_
      refine kj_iconst dX10_change_27 (pc' := 28) rfl kc_m1 ?_
      refine kj_icmp_eq dX10_change_28 (tgt := 33) rfl (pc' := 31) rfl (fun c6 => ?_) (fun c6 => ?_)
      · rw [if_pos c6] at hT
        refine kj_aload_n dX10_change_33 (pc' := 34) rfl rfl rfl ?_
        refine kj_getR f_RX10_10 rfl (Nat.lt_of_lt_of_le (Nat.le_of_ble_eq_true rfl : 0 < 120) hE.1) (hE.2 _ _) (q := 1) rfl dX10_change_34 (pc' := 37) rfl ?_
        refine kj_getR f_RX10_125 rfl (Nat.lt_of_lt_of_le (Nat.le_of_ble_eq_true rfl : 1 < 120) hE.1) (hE.2 _ _) (q := 2) rfl dX10_change_37 (pc' := 40) rfl ?_
        refine kj_iload_n dX10_change_40 (pc' := 41) rfl rfl rfl ?_
        obtain ⟨t7, ht7, hT⟩ := bind_some' hT
        refine kcVi (as := [.inl x1]) (st := []) l_RX10_148 (m_X4_at hE rfl σ x1 ht7) rfl (Nat.lt_of_lt_of_le (Nat.le_of_ble_eq_true rfl : 2 < 120) hE.1) rfl ⟨⟨rfl, rfl⟩, Nat.le_of_ble_eq_true rfl, Nat.le_of_ble_eq_true rfl⟩ (Nat.le_of_ble_eq_true rfl) dX10_change_41 (pc' := 44) rfl ?_
        refine kj_istore_n dX10_change_44 (pc' := 45) rfl rfl (Nat.le_of_ble_eq_true rfl) (ls' := [some (.inr 0), some (.inl x1), some (.inl x2), some (.inl t7)]) rfl ?_
        refine kj_aload_n dX10_change_45 (pc' := 46) rfl rfl rfl ?_
        refine kj_getR f_RX10_16 rfl (Nat.lt_of_lt_of_le (Nat.le_of_ble_eq_true rfl : 0 < 120) hE.1) (hE.2 _ _) (q := 7) rfl dX10_change_46 (pc' := 49) rfl ?_
        refine kj_aload_n dX10_change_49 (pc' := 50) rfl rfl rfl ?_
        refine kj_getR f_RX10_10 rfl (Nat.lt_of_lt_of_le (Nat.le_of_ble_eq_true rfl : 0 < 120) hE.1) (hE.2 _ _) (q := 1) rfl dX10_change_50 (pc' := 53) rfl ?_
        obtain ⟨σ8, hσ8, hT⟩ := bind_some' hT
        refine kcVv (as := [.inr 1]) (st := []) l_RX10_120 (m_X7_copy hE rfl rfl σ hσ8) rfl (Nat.lt_of_lt_of_le (Nat.le_of_ble_eq_true rfl : 7 < 120) hE.1) rfl ⟨⟨rfl, rfl⟩, Nat.le_of_ble_eq_true rfl, Nat.le_of_ble_eq_true rfl⟩ (Nat.le_of_ble_eq_true rfl) dX10_change_53 (pc' := 56) rfl ?_
        refine kj_aload_n dX10_change_56 (pc' := 57) rfl rfl rfl ?_
        refine kj_getR f_RX10_16 rfl (Nat.lt_of_lt_of_le (Nat.le_of_ble_eq_true rfl : 0 < 120) hE.1) (hE.2 _ _) (q := 7) rfl dX10_change_57 (pc' := 60) rfl ?_
        refine kj_getR f_RX10_125 rfl (Nat.lt_of_lt_of_le (Nat.le_of_ble_eq_true rfl : 7 < 120) hE.1) (hE.2 _ _) (q := 8) rfl dX10_change_60 (pc' := 63) rfl ?_
        refine kj_iload_n dX10_change_63 (pc' := 64) rfl rfl rfl ?_
        refine kj_iload_n dX10_change_64 (pc' := 65) rfl rfl rfl ?_
        obtain ⟨σ9, hσ9, hT⟩ := bind_some' hT
        refine kcVv (as := [.inl x1, .inl x2]) (st := []) l_RX10_151 (m_X4_replace hE rfl σ8 x1 x2 hσ9) rfl (Nat.lt_of_lt_of_le (Nat.le_of_ble_eq_true rfl : 8 < 120) hE.1) rfl ⟨⟨rfl, rfl⟩, Nat.le_of_ble_eq_true rfl, Nat.le_of_ble_eq_true rfl⟩ (Nat.le_of_ble_eq_true rfl) dX10_change_65 (pc' := 68) rfl ?_
        refine kj_aload_n dX10_change_68 (pc' := 69) rfl rfl rfl ?_
        obtain ⟨σ10, hσ10, hT⟩ := bind_some' hT
        refine kcVv (as := []) (st := []) l_RX10_139 (m_X10_settle hE σ9 hσ10) rfl (Nat.lt_of_lt_of_le (Nat.le_of_ble_eq_true rfl : 0 < 120) hE.1) rfl ⟨⟨rfl, rfl⟩, Nat.le_of_ble_eq_true rfl, Nat.le_of_ble_eq_true rfl⟩ (Nat.le_of_ble_eq_true rfl) dX10_change_69 (pc' := 72) rfl ?_
        refine kj_iload_n dX10_change_72 (pc' := 73) rfl rfl rfl ?_
        have hR := Option.some.inj hT
        subst hR
        exact kj_iret rfl dX10_change_73 (by subst hQ; exact ⟨rfl, rfl⟩)
      · rw [if_neg c6] at hT
        refine kj_iconst dX10_change_31 (pc' := 32) rfl kc_m1 ?_
        have hR := Option.some.inj hT
        subst hR
        exact kj_iret rfl dX10_change_32 (by subst hQ; exact ⟨rfl, rfl⟩)
def X10_isPoint (σ : Wd) (x1 : Int32) : Int32 :=
  (if x1 < 0 then 0 else (if (σ 1 3) ≤ x1 then 0 else 1))
set_option maxRecDepth 100000 in
set_option maxHeartbeats 4000000 in
theorem m_X10_isPoint {E : JE} (hE : kOk 120 E) (σ : Wd) (x1 : Int32) {res : Int32} (hT : X10_isPoint σ x1 = res) : kMt E yX10_isPoint mX10_isPoint rmX10_isPoint [.inr 0, .inl x1] σ (kQz res σ) := by
  refine kMt_of (by decide +kernel) rfl (Nat.le_of_ble_eq_true rfl) ?_
  generalize hQ : (kQz res σ) = Q
  show KJ E mX10_isPoint rmX10_isPoint 0 [some (.inr 0), some (.inl x1)] [] σ Q
  unfold X10_isPoint at hT
  refine kj_iload_n dX10_isPoint_0 (pc' := 1) rfl rfl rfl ?_
  refine kj_if_lt dX10_isPoint_1 (tgt := 19) rfl (pc' := 4) rfl (fun c1 => ?_) (fun c1 => ?_)
  · rw [if_pos c1] at hT
    refine kj_iconst dX10_isPoint_19 (pc' := 20) rfl kc_0 ?_
    subst hT
    exact kj_zret rfl (Or.inl rfl) dX10_isPoint_20 (by subst hQ; exact ⟨rfl, rfl, (Or.inl rfl)⟩)
  · rw [if_neg c1] at hT
    refine kj_iload_n dX10_isPoint_4 (pc' := 5) rfl rfl rfl ?_
    refine kj_aload_n dX10_isPoint_5 (pc' := 6) rfl rfl rfl ?_
    refine kj_getR f_RX10_10 rfl (Nat.lt_of_lt_of_le (Nat.le_of_ble_eq_true rfl : 0 < 120) hE.1) (hE.2 _ _) (q := 1) rfl dX10_isPoint_6 (pc' := 9) rfl ?_
    refine kj_getI f_RX10_171 rfl (Nat.lt_of_lt_of_le (Nat.le_of_ble_eq_true rfl : 1 < 120) hE.1) dX10_isPoint_9 (pc' := 12) rfl ?_
    refine kj_icmp_ge dX10_isPoint_12 (tgt := 19) rfl (pc' := 15) rfl (fun c2 => ?_) (fun c2 => ?_)
    · rw [if_pos c2] at hT
      refine kj_iconst dX10_isPoint_19 (pc' := 20) rfl kc_0 ?_
      subst hT
      exact kj_zret rfl (Or.inl rfl) dX10_isPoint_20 (by subst hQ; exact ⟨rfl, rfl, (Or.inl rfl)⟩)
    · rw [if_neg c2] at hT
      refine kj_iconst dX10_isPoint_15 (pc' := 16) rfl kc_1 ?_
      refine kj_goto dX10_isPoint_16 (pc' := 20) rfl ?_
      subst hT
      exact kj_zret rfl (Or.inr rfl) dX10_isPoint_20 (by subst hQ; exact ⟨rfl, rfl, (Or.inr rfl)⟩)
def X10_weigh (σ : Wd) (x1 : Int32) (x2 : Int32) : Option (Int32 × Wd) :=
  (if (X10_isPoint σ x1) = 0 then some ((-1), σ) else (if x2 < 0 then some ((-1), σ) else (if x2 ≤ 9 then ((X7_weightOf σ 1 x1).bind fun t5 => (if t5 = x2 then some ((-1), σ) else ((X7_copy σ 7 1).bind fun σ7 => ((X7_setWeight σ7 7 x1 x2).bind fun σ8 => ((X10_settle σ8).bind fun σ9 => some (t5, σ9)))))) else some ((-1), σ))))
set_option maxRecDepth 100000 in
set_option maxHeartbeats 4000000 in
theorem m_X10_weigh {E : JE} (hE : kOk 120 E) (σ : Wd) (x1 : Int32) (x2 : Int32) {res : Int32 × Wd} (hT : X10_weigh σ x1 x2 = some res) : kMt E yX10_weigh mX10_weigh rmX10_weigh [.inr 0, .inl x1, .inl x2] σ (kQi res.1 res.2) := by
  refine kMt_of (by decide +kernel) rfl (Nat.le_of_ble_eq_true rfl) ?_
  generalize hQ : (kQi res.1 res.2) = Q
  show KJ E mX10_weigh rmX10_weigh 0 [some (.inr 0), some (.inl x1), some (.inl x2)] [] σ Q
  unfold X10_weigh at hT
  refine kj_aload_n dX10_weigh_0 (pc' := 1) rfl rfl rfl ?_
  refine kj_iload_n dX10_weigh_1 (pc' := 2) rfl rfl rfl ?_
  refine kcVz (as := [.inl x1]) (st := []) l_RX10_155 (m_X10_isPoint hE σ x1 rfl) rfl (Nat.lt_of_lt_of_le (Nat.le_of_ble_eq_true rfl : 0 < 120) hE.1) rfl ⟨⟨rfl, rfl⟩, Nat.le_of_ble_eq_true rfl, Nat.le_of_ble_eq_true rfl⟩ (Nat.le_of_ble_eq_true rfl) dX10_weigh_2 (pc' := 5) rfl (fun z1 => ?_)
  refine kj_if_eq dX10_weigh_5 (tgt := 18) rfl (pc' := 8) rfl (fun c2 => ?_) (fun c2 => ?_)
  · rw [if_pos c2] at hT
    refine kj_iconst dX10_weigh_18 (pc' := 19) rfl kc_m1 ?_
    have hR := Option.some.inj hT
    subst hR
    exact kj_iret rfl dX10_weigh_19 (by subst hQ; exact ⟨rfl, rfl⟩)
  · rw [if_neg c2] at hT
    refine kj_iload_n dX10_weigh_8 (pc' := 9) rfl rfl rfl ?_
    refine kj_if_lt dX10_weigh_9 (tgt := 18) rfl (pc' := 12) rfl (fun c3 => ?_) (fun c3 => ?_)
    · rw [if_pos c3] at hT
      refine kj_iconst dX10_weigh_18 (pc' := 19) rfl kc_m1 ?_
      have hR := Option.some.inj hT
      subst hR
      exact kj_iret rfl dX10_weigh_19 (by subst hQ; exact ⟨rfl, rfl⟩)
    · rw [if_neg c3] at hT
      refine kj_iload_n dX10_weigh_12 (pc' := 13) rfl rfl rfl ?_
      refine kj_bipush dX10_weigh_13 (pc' := 15) rfl kb_9 ?_
      refine kj_icmp_le dX10_weigh_15 (tgt := 20) rfl (pc' := 18) rfl (fun c4 => ?_) (fun c4 => ?_)
      · rw [if_pos c4] at hT
        refine kj_aload_n dX10_weigh_20 (pc' := 21) rfl rfl rfl ?_
        refine kj_getR f_RX10_10 rfl (Nat.lt_of_lt_of_le (Nat.le_of_ble_eq_true rfl : 0 < 120) hE.1) (hE.2 _ _) (q := 1) rfl dX10_weigh_21 (pc' := 24) rfl ?_
        refine kj_iload_n dX10_weigh_24 (pc' := 25) rfl rfl rfl ?_
        obtain ⟨t5, ht5, hT⟩ := bind_some' hT
        refine kcVi (as := [.inl x1]) (st := []) l_RX10_158 (m_X7_weightOf hE rfl σ x1 ht5) rfl (Nat.lt_of_lt_of_le (Nat.le_of_ble_eq_true rfl : 1 < 120) hE.1) rfl ⟨⟨rfl, rfl⟩, Nat.le_of_ble_eq_true rfl, Nat.le_of_ble_eq_true rfl⟩ (Nat.le_of_ble_eq_true rfl) dX10_weigh_25 (pc' := 28) rfl ?_
        refine kj_istore_n dX10_weigh_28 (pc' := 29) rfl rfl (Nat.le_of_ble_eq_true rfl) (ls' := [some (.inr 0), some (.inl x1), some (.inl x2), some (.inl t5)]) rfl ?_
        refine kj_iload_n dX10_weigh_29 (pc' := 30) rfl rfl rfl ?_
        refine kj_iload_n dX10_weigh_30 (pc' := 31) rfl rfl rfl ?_
        refine kj_icmp_ne dX10_weigh_31 (tgt := 36) rfl (pc' := 34) rfl (fun c6 => ?_) (fun c6 => ?_)
        · rw [if_neg c6] at hT
          refine kj_aload_n dX10_weigh_36 (pc' := 37) rfl rfl rfl ?_
          refine kj_getR f_RX10_16 rfl (Nat.lt_of_lt_of_le (Nat.le_of_ble_eq_true rfl : 0 < 120) hE.1) (hE.2 _ _) (q := 7) rfl dX10_weigh_37 (pc' := 40) rfl ?_
          refine kj_aload_n dX10_weigh_40 (pc' := 41) rfl rfl rfl ?_
          refine kj_getR f_RX10_10 rfl (Nat.lt_of_lt_of_le (Nat.le_of_ble_eq_true rfl : 0 < 120) hE.1) (hE.2 _ _) (q := 1) rfl dX10_weigh_41 (pc' := 44) rfl ?_
          obtain ⟨σ7, hσ7, hT⟩ := bind_some' hT
          refine kcVv (as := [.inr 1]) (st := []) l_RX10_120 (m_X7_copy hE rfl rfl σ hσ7) rfl (Nat.lt_of_lt_of_le (Nat.le_of_ble_eq_true rfl : 7 < 120) hE.1) rfl ⟨⟨rfl, rfl⟩, Nat.le_of_ble_eq_true rfl, Nat.le_of_ble_eq_true rfl⟩ (Nat.le_of_ble_eq_true rfl) dX10_weigh_44 (pc' := 47) rfl ?_
          refine kj_aload_n dX10_weigh_47 (pc' := 48) rfl rfl rfl ?_
          refine kj_getR f_RX10_16 rfl (Nat.lt_of_lt_of_le (Nat.le_of_ble_eq_true rfl : 0 < 120) hE.1) (hE.2 _ _) (q := 7) rfl dX10_weigh_48 (pc' := 51) rfl ?_
          refine kj_iload_n dX10_weigh_51 (pc' := 52) rfl rfl rfl ?_
          refine kj_iload_n dX10_weigh_52 (pc' := 53) rfl rfl rfl ?_
          obtain ⟨σ8, hσ8, hT⟩ := bind_some' hT
          refine kcVv (as := [.inl x1, .inl x2]) (st := []) l_RX10_161 (m_X7_setWeight hE rfl σ7 x1 x2 hσ8) rfl (Nat.lt_of_lt_of_le (Nat.le_of_ble_eq_true rfl : 7 < 120) hE.1) rfl ⟨⟨rfl, rfl⟩, Nat.le_of_ble_eq_true rfl, Nat.le_of_ble_eq_true rfl⟩ (Nat.le_of_ble_eq_true rfl) dX10_weigh_53 (pc' := 56) rfl ?_
          refine kj_aload_n dX10_weigh_56 (pc' := 57) rfl rfl rfl ?_
          obtain ⟨σ9, hσ9, hT⟩ := bind_some' hT
          refine kcVv (as := []) (st := []) l_RX10_139 (m_X10_settle hE σ8 hσ9) rfl (Nat.lt_of_lt_of_le (Nat.le_of_ble_eq_true rfl : 0 < 120) hE.1) rfl ⟨⟨rfl, rfl⟩, Nat.le_of_ble_eq_true rfl, Nat.le_of_ble_eq_true rfl⟩ (Nat.le_of_ble_eq_true rfl) dX10_weigh_57 (pc' := 60) rfl ?_
          refine kj_iload_n dX10_weigh_60 (pc' := 61) rfl rfl rfl ?_
          have hR := Option.some.inj hT
          subst hR
          exact kj_iret rfl dX10_weigh_61 (by subst hQ; exact ⟨rfl, rfl⟩)
        · rw [if_pos c6] at hT
          refine kj_iconst dX10_weigh_34 (pc' := 35) rfl kc_m1 ?_
          have hR := Option.some.inj hT
          subst hR
          exact kj_iret rfl dX10_weigh_35 (by subst hQ; exact ⟨rfl, rfl⟩)
      · rw [if_neg c4] at hT
        refine kj_iconst dX10_weigh_18 (pc' := 19) rfl kc_m1 ?_
        have hR := Option.some.inj hT
        subst hR
        exact kj_iret rfl dX10_weigh_19 (by subst hQ; exact ⟨rfl, rfl⟩)
def X10_exchanged_J19 (x0 : Int32) (x1 : Int32) (x2 : Int32) (y3 : Int32) : Int32 :=
  (if y3 = 0 then ((x0 ^^^ (1 <<< (x1 &&& 31))) ^^^ (1 <<< (x2 &&& 31))) else x0)
def X10_exchanged (x0 : Int32) (x1 : Int32) (x2 : Int32) : Int32 :=
  (if ((x0 >>> (x1 &&& 31)) &&& 1) = ((x0 >>> (x2 &&& 31)) &&& 1) then X10_exchanged_J19 x0 x1 x2 1 else X10_exchanged_J19 x0 x1 x2 0)
set_option maxRecDepth 100000 in
set_option maxHeartbeats 4000000 in
theorem m_X10_exchanged {E : JE} (hE : kOk 120 E) (σ : Wd) (x0 : Int32) (x1 : Int32) (x2 : Int32) {res : Int32} (hT : X10_exchanged x0 x1 x2 = res) : kMt E yX10_exchanged mX10_exchanged rmX10_exchanged [.inl x0, .inl x1, .inl x2] σ (kQi res σ) := by
  refine kMt_of (by decide +kernel) rfl (Nat.le_of_ble_eq_true rfl) ?_
  generalize hQ : (kQi res σ) = Q
  show KJ E mX10_exchanged rmX10_exchanged 0 [some (.inl x0), some (.inl x1), some (.inl x2)] [] σ Q
  unfold X10_exchanged at hT
  have hJ19 : ∀ y3, X10_exchanged_J19 x0 x1 x2 y3 = res → KJ E mX10_exchanged rmX10_exchanged 19 [some (.inl x0), some (.inl x1), some (.inl x2), some (.inl y3)] [] σ Q := by
    intro y3 hT
    unfold X10_exchanged_J19 at hT
    refine kj_iload_n dX10_exchanged_19 (pc' := 20) rfl rfl rfl ?_
    refine kj_if_eq dX10_exchanged_20 (tgt := 27) rfl (pc' := 23) rfl (fun c2 => ?_) (fun c2 => ?_)
    · rw [if_pos c2] at hT
      refine kj_iload_n dX10_exchanged_27 (pc' := 28) rfl rfl rfl ?_
      refine kj_iconst dX10_exchanged_28 (pc' := 29) rfl kc_1 ?_
      refine kj_iload_n dX10_exchanged_29 (pc' := 30) rfl rfl rfl ?_
      refine kj_ishl dX10_exchanged_30 (pc' := 31) rfl ?_
      refine kj_ixor dX10_exchanged_31 (pc' := 32) rfl ?_
      refine kj_iconst dX10_exchanged_32 (pc' := 33) rfl kc_1 ?_
      refine kj_iload_n dX10_exchanged_33 (pc' := 34) rfl rfl rfl ?_
      refine kj_ishl dX10_exchanged_34 (pc' := 35) rfl ?_
      refine kj_ixor dX10_exchanged_35 (pc' := 36) rfl ?_
      subst hT
      exact kj_iret rfl dX10_exchanged_36 (by subst hQ; exact ⟨rfl, rfl⟩)
    · rw [if_neg c2] at hT
      refine kj_iload_n dX10_exchanged_23 (pc' := 24) rfl rfl rfl ?_
      refine kj_goto dX10_exchanged_24 (pc' := 36) rfl ?_
      subst hT
      exact kj_iret rfl dX10_exchanged_36 (by subst hQ; exact ⟨rfl, rfl⟩)
  refine kj_iload_n dX10_exchanged_0 (pc' := 1) rfl rfl rfl ?_
  refine kj_iload_n dX10_exchanged_1 (pc' := 2) rfl rfl rfl ?_
  refine kj_ishr dX10_exchanged_2 (pc' := 3) rfl ?_
  refine kj_iconst dX10_exchanged_3 (pc' := 4) rfl kc_1 ?_
  refine kj_iand dX10_exchanged_4 (pc' := 5) rfl ?_
  refine kj_iload_n dX10_exchanged_5 (pc' := 6) rfl rfl rfl ?_
  refine kj_iload_n dX10_exchanged_6 (pc' := 7) rfl rfl rfl ?_
  refine kj_ishr dX10_exchanged_7 (pc' := 8) rfl ?_
  refine kj_iconst dX10_exchanged_8 (pc' := 9) rfl kc_1 ?_
  refine kj_iand dX10_exchanged_9 (pc' := 10) rfl ?_
  refine kj_icmp_ne dX10_exchanged_10 (tgt := 17) rfl (pc' := 13) rfl (fun c1 => ?_) (fun c1 => ?_)
  · rw [if_neg c1] at hT
    refine kj_iconst dX10_exchanged_17 (pc' := 18) rfl kc_0 ?_
    refine kj_istore_n dX10_exchanged_18 (pc' := 19) rfl rfl (Nat.le_of_ble_eq_true rfl) (ls' := [some (.inl x0), some (.inl x1), some (.inl x2), some (.inl 0)]) rfl ?_
    exact hJ19 0 hT
  · rw [if_pos c1] at hT
    refine kj_iconst dX10_exchanged_13 (pc' := 14) rfl kc_1 ?_
    refine kj_goto dX10_exchanged_14 (pc' := 18) rfl ?_
    refine kj_istore_n dX10_exchanged_18 (pc' := 19) rfl rfl (Nat.le_of_ble_eq_true rfl) (ls' := [some (.inl x0), some (.inl x1), some (.inl x2), some (.inl 1)]) rfl ?_
    exact hJ19 1 hT
def X10_settleChanged (σ : Wd) (x1 : Int32) : Option (Int32 × Wd) :=
  (if x1 = 0 then some ((-1), σ) else ((X10_settle σ).bind fun σ2 => some (x1, σ2)))
set_option maxRecDepth 100000 in
set_option maxHeartbeats 4000000 in
theorem m_X10_settleChanged {E : JE} (hE : kOk 120 E) (σ : Wd) (x1 : Int32) {res : Int32 × Wd} (hT : X10_settleChanged σ x1 = some res) : kMt E yX10_settleChanged mX10_settleChanged rmX10_settleChanged [.inr 0, .inl x1] σ (kQi res.1 res.2) := by
  refine kMt_of (by decide +kernel) rfl (Nat.le_of_ble_eq_true rfl) ?_
  generalize hQ : (kQi res.1 res.2) = Q
  show KJ E mX10_settleChanged rmX10_settleChanged 0 [some (.inr 0), some (.inl x1)] [] σ Q
  unfold X10_settleChanged at hT
  refine kj_iload_n dX10_settleChanged_0 (pc' := 1) rfl rfl rfl ?_
  refine kj_if_ne dX10_settleChanged_1 (tgt := 6) rfl (pc' := 4) rfl (fun c1 => ?_) (fun c1 => ?_)
  · rw [if_neg c1] at hT
    refine kj_aload_n dX10_settleChanged_6 (pc' := 7) rfl rfl rfl ?_
    obtain ⟨σ2, hσ2, hT⟩ := bind_some' hT
    refine kcVv (as := []) (st := []) l_RX10_139 (m_X10_settle hE σ hσ2) rfl (Nat.lt_of_lt_of_le (Nat.le_of_ble_eq_true rfl : 0 < 120) hE.1) rfl ⟨⟨rfl, rfl⟩, Nat.le_of_ble_eq_true rfl, Nat.le_of_ble_eq_true rfl⟩ (Nat.le_of_ble_eq_true rfl) dX10_settleChanged_7 (pc' := 10) rfl ?_
    refine kj_iload_n dX10_settleChanged_10 (pc' := 11) rfl rfl rfl ?_
    have hR := Option.some.inj hT
    subst hR
    exact kj_iret rfl dX10_settleChanged_11 (by subst hQ; exact ⟨rfl, rfl⟩)
  · rw [if_pos c1] at hT
    refine kj_iconst dX10_settleChanged_4 (pc' := 5) rfl kc_m1 ?_
    have hR := Option.some.inj hT
    subst hR
    exact kj_iret rfl dX10_settleChanged_5 (by subst hQ; exact ⟨rfl, rfl⟩)
def X10_swap_J101 (rec39 : Int32 × Int32 × Wd → Option (Int32 × Wd)) (y3 : Int32) (y4 : Int32) (ς : Wd) : Option (Int32 × Wd) :=
  rec39 (y3, y4 + 1, ς)
def X10_swap_B39 (x1 : Int32) (x2 : Int32) (rec39 : Int32 × Int32 × Wd → Option (Int32 × Wd)) : Int32 × Int32 × Wd → Option (Int32 × Wd)
  | (x3, x4, σ) => (if (σ 2 1) ≤ x4 then ((X10_settleChanged σ x3).bind fun (t8, σ9) => some (t8, σ9)) else ((X4_at σ 2 x4).bind fun t10 => (if (X10_exchanged t10 x1 x2) = t10 then X10_swap_J101 rec39 x3 x4 σ else ((X4_replace σ 8 x4 (X10_exchanged t10 x1 x2)).bind fun σ12 => X10_swap_J101 rec39 (x3 + 1) x4 σ12))))
def X10_swap (σ : Wd) (x1 : Int32) (x2 : Int32) : Option (Int32 × Wd) :=
  (if (X10_isPoint σ x1) = 0 then some ((-1), σ) else (if (X10_isPoint σ x2) = 0 then some ((-1), σ) else (if x1 = x2 then some ((-1), σ) else ((X7_copy σ 7 1).bind fun σ6 => (lp (X10_swap_B39 x1 x2) FU (0, 0, σ6))))))
set_option maxRecDepth 100000 in
set_option maxHeartbeats 4000000 in
theorem m_X10_swap {E : JE} (hE : kOk 120 E) (σ : Wd) (x1 : Int32) (x2 : Int32) {res : Int32 × Wd} (hT : X10_swap σ x1 x2 = some res) : kMt E yX10_swap mX10_swap rmX10_swap [.inr 0, .inl x1, .inl x2] σ (kQi res.1 res.2) := by
  refine kMt_of (by decide +kernel) rfl (Nat.le_of_ble_eq_true rfl) ?_
  generalize hQ : (kQi res.1 res.2) = Q
  show KJ E mX10_swap rmX10_swap 0 [some (.inr 0), some (.inl x1), some (.inl x2)] [] σ Q
  unfold X10_swap at hT
  refine kj_aload_n dX10_swap_0 (pc' := 1) rfl rfl rfl ?_
  refine kj_iload_n dX10_swap_1 (pc' := 2) rfl rfl rfl ?_
  refine kcVz (as := [.inl x1]) (st := []) l_RX10_155 (m_X10_isPoint hE σ x1 rfl) rfl (Nat.lt_of_lt_of_le (Nat.le_of_ble_eq_true rfl : 0 < 120) hE.1) rfl ⟨⟨rfl, rfl⟩, Nat.le_of_ble_eq_true rfl, Nat.le_of_ble_eq_true rfl⟩ (Nat.le_of_ble_eq_true rfl) dX10_swap_2 (pc' := 5) rfl (fun z1 => ?_)
  refine kj_if_eq dX10_swap_5 (tgt := 21) rfl (pc' := 8) rfl (fun c2 => ?_) (fun c2 => ?_)
  · rw [if_pos c2] at hT
    refine kj_iconst dX10_swap_21 (pc' := 22) rfl kc_m1 ?_
    have hR := Option.some.inj hT
    subst hR
    exact kj_iret rfl dX10_swap_22 (by subst hQ; exact ⟨rfl, rfl⟩)
  · rw [if_neg c2] at hT
    refine kj_aload_n dX10_swap_8 (pc' := 9) rfl rfl rfl ?_
    refine kj_iload_n dX10_swap_9 (pc' := 10) rfl rfl rfl ?_
    refine kcVz (as := [.inl x2]) (st := []) l_RX10_155 (m_X10_isPoint hE σ x2 rfl) rfl (Nat.lt_of_lt_of_le (Nat.le_of_ble_eq_true rfl : 0 < 120) hE.1) rfl ⟨⟨rfl, rfl⟩, Nat.le_of_ble_eq_true rfl, Nat.le_of_ble_eq_true rfl⟩ (Nat.le_of_ble_eq_true rfl) dX10_swap_10 (pc' := 13) rfl (fun z3 => ?_)
    refine kj_if_eq dX10_swap_13 (tgt := 21) rfl (pc' := 16) rfl (fun c4 => ?_) (fun c4 => ?_)
    · rw [if_pos c4] at hT
      refine kj_iconst dX10_swap_21 (pc' := 22) rfl kc_m1 ?_
      have hR := Option.some.inj hT
      subst hR
      exact kj_iret rfl dX10_swap_22 (by subst hQ; exact ⟨rfl, rfl⟩)
    · rw [if_neg c4] at hT
      refine kj_iload_n dX10_swap_16 (pc' := 17) rfl rfl rfl ?_
      refine kj_iload_n dX10_swap_17 (pc' := 18) rfl rfl rfl ?_
      refine kj_icmp_ne dX10_swap_18 (tgt := 23) rfl (pc' := 21) rfl (fun c5 => ?_) (fun c5 => ?_)
      · rw [if_neg c5] at hT
        refine kj_aload_n dX10_swap_23 (pc' := 24) rfl rfl rfl ?_
        refine kj_getR f_RX10_16 rfl (Nat.lt_of_lt_of_le (Nat.le_of_ble_eq_true rfl : 0 < 120) hE.1) (hE.2 _ _) (q := 7) rfl dX10_swap_24 (pc' := 27) rfl ?_
        refine kj_aload_n dX10_swap_27 (pc' := 28) rfl rfl rfl ?_
        refine kj_getR f_RX10_10 rfl (Nat.lt_of_lt_of_le (Nat.le_of_ble_eq_true rfl : 0 < 120) hE.1) (hE.2 _ _) (q := 1) rfl dX10_swap_28 (pc' := 31) rfl ?_
        obtain ⟨σ6, hσ6, hT⟩ := bind_some' hT
        refine kcVv (as := [.inr 1]) (st := []) l_RX10_120 (m_X7_copy hE rfl rfl σ hσ6) rfl (Nat.lt_of_lt_of_le (Nat.le_of_ble_eq_true rfl : 7 < 120) hE.1) rfl ⟨⟨rfl, rfl⟩, Nat.le_of_ble_eq_true rfl, Nat.le_of_ble_eq_true rfl⟩ (Nat.le_of_ble_eq_true rfl) dX10_swap_31 (pc' := 34) rfl ?_
        refine kj_iconst dX10_swap_34 (pc' := 35) rfl kc_0 ?_
        refine kj_istore_n dX10_swap_35 (pc' := 36) rfl rfl (Nat.le_of_ble_eq_true rfl) (ls' := [some (.inr 0), some (.inl x1), some (.inl x2), some (.inl 0)]) rfl ?_
        refine kj_iconst dX10_swap_36 (pc' := 37) rfl kc_0 ?_
        refine kj_istore dX10_swap_37 (pc' := 39) rfl (Nat.le_of_ble_eq_true rfl) (ls' := [some (.inr 0), some (.inl x1), some (.inl x2), some (.inl 0), some (.inl 0)]) rfl ?_
        refine lp_ind (P := fun s => KJ E mX10_swap rmX10_swap 39 [some (.inr 0), some (.inl x1), some (.inl x2), some (.inl s.1), some (.inl s.2.1)] [] s.2.2 Q) (fun rec39 s ih39 hT => ?_) FU (0, 0, σ6) hT
        obtain ⟨x3, x4, σ⟩ := s
        show KJ E mX10_swap rmX10_swap 39 [some (.inr 0), some (.inl x1), some (.inl x2), some (.inl x3), some (.inl x4)] [] σ Q
        rw [X10_swap_B39] at hT
        have hJ101_39 : ∀ y3 y4 ς, X10_swap_J101 rec39 y3 y4 ς = some res → KJ E mX10_swap rmX10_swap 101 [some (.inr 0), some (.inl x1), some (.inl x2), some (.inl y3), some (.inl y4)] [] ς Q := by
          intro y3 y4 ς hT
          unfold X10_swap_J101 at hT
          refine kj_iinc dX10_swap_101 (pc' := 104) rfl rfl (congrArg (_ + ·) kc_1) (Nat.le_of_ble_eq_true rfl) (ls' := [some (.inr 0), some (.inl x1), some (.inl x2), some (.inl y3), some (.inl (y4 + 1))]) rfl ?_
          refine kj_goto dX10_swap_104 (pc' := 39) rfl ?_
          exact ih39 (y3, y4 + 1, ς) hT
        refine kj_iload dX10_swap_39 (pc' := 41) rfl rfl ?_
        refine kj_aload_n dX10_swap_41 (pc' := 42) rfl rfl rfl ?_
        refine kj_getR f_RX10_10 rfl (Nat.lt_of_lt_of_le (Nat.le_of_ble_eq_true rfl : 0 < 120) hE.1) (hE.2 _ _) (q := 1) rfl dX10_swap_42 (pc' := 45) rfl ?_
        refine kj_getR f_RX10_125 rfl (Nat.lt_of_lt_of_le (Nat.le_of_ble_eq_true rfl : 1 < 120) hE.1) (hE.2 _ _) (q := 2) rfl dX10_swap_45 (pc' := 48) rfl ?_
        refine kj_getI f_RX10_100 rfl (Nat.lt_of_lt_of_le (Nat.le_of_ble_eq_true rfl : 2 < 120) hE.1) dX10_swap_48 (pc' := 51) rfl ?_
        refine kj_icmp_ge dX10_swap_51 (tgt := 107) rfl (pc' := 54) rfl (fun c7 => ?_) (fun c7 => ?_)
        · rw [if_pos c7] at hT
          refine kj_aload_n dX10_swap_107 (pc' := 108) rfl rfl rfl ?_
          refine kj_iload_n dX10_swap_108 (pc' := 109) rfl rfl rfl ?_
          obtain ⟨t8, ht8, hT⟩ := bind_some' hT
          obtain ⟨t8, σ9⟩ := t8
          dsimp only at hT
          refine kcVi (as := [.inl x3]) (st := []) l_RX10_168 (m_X10_settleChanged hE σ x3 ht8) rfl (Nat.lt_of_lt_of_le (Nat.le_of_ble_eq_true rfl : 0 < 120) hE.1) rfl ⟨⟨rfl, rfl⟩, Nat.le_of_ble_eq_true rfl, Nat.le_of_ble_eq_true rfl⟩ (Nat.le_of_ble_eq_true rfl) dX10_swap_109 (pc' := 112) rfl ?_
          have hR := Option.some.inj hT
          subst hR
          exact kj_iret rfl dX10_swap_112 (by subst hQ; exact ⟨rfl, rfl⟩)
        · rw [if_neg c7] at hT
          refine kj_aload_n dX10_swap_54 (pc' := 55) rfl rfl rfl ?_
          refine kj_getR f_RX10_10 rfl (Nat.lt_of_lt_of_le (Nat.le_of_ble_eq_true rfl : 0 < 120) hE.1) (hE.2 _ _) (q := 1) rfl dX10_swap_55 (pc' := 58) rfl ?_
          refine kj_getR f_RX10_125 rfl (Nat.lt_of_lt_of_le (Nat.le_of_ble_eq_true rfl : 1 < 120) hE.1) (hE.2 _ _) (q := 2) rfl dX10_swap_58 (pc' := 61) rfl ?_
          refine kj_iload dX10_swap_61 (pc' := 63) rfl rfl ?_
          obtain ⟨t10, ht10, hT⟩ := bind_some' hT
          refine kcVi (as := [.inl x4]) (st := []) l_RX10_148 (m_X4_at hE rfl σ x4 ht10) rfl (Nat.lt_of_lt_of_le (Nat.le_of_ble_eq_true rfl : 2 < 120) hE.1) rfl ⟨⟨rfl, rfl⟩, Nat.le_of_ble_eq_true rfl, Nat.le_of_ble_eq_true rfl⟩ (Nat.le_of_ble_eq_true rfl) dX10_swap_63 (pc' := 66) rfl ?_
          refine kj_istore dX10_swap_66 (pc' := 68) rfl (Nat.le_of_ble_eq_true rfl) (ls' := [some (.inr 0), some (.inl x1), some (.inl x2), some (.inl x3), some (.inl x4), some (.inl t10)]) rfl ?_
          refine kj_iload dX10_swap_68 (pc' := 70) rfl rfl ?_
          refine kj_iload_n dX10_swap_70 (pc' := 71) rfl rfl rfl ?_
          refine kj_iload_n dX10_swap_71 (pc' := 72) rfl rfl rfl ?_
          refine kcSi (as := [.inl t10, .inl x1, .inl x2]) (st := []) l_RX10_164 (m_X10_exchanged hE σ t10 x1 x2 rfl) rfl ⟨⟨rfl, rfl⟩, Nat.le_of_ble_eq_true rfl, Nat.le_of_ble_eq_true rfl⟩ (Nat.le_of_ble_eq_true rfl) dX10_swap_72 (pc' := 75) rfl ?_
          refine kj_istore dX10_swap_75 (pc' := 77) rfl (Nat.le_of_ble_eq_true rfl) (ls' := [some (.inr 0), some (.inl x1), some (.inl x2), some (.inl x3), some (.inl x4), some (.inl t10), some (.inl (X10_exchanged t10 x1 x2))]) rfl ?_
          refine kj_iload dX10_swap_77 (pc' := 79) rfl rfl ?_
          refine kj_iload dX10_swap_79 (pc' := 81) rfl rfl ?_
          refine kj_icmp_eq dX10_swap_81 (tgt := 101) rfl (pc' := 84) rfl (fun c11 => ?_) (fun c11 => ?_)
          · rw [if_pos c11] at hT
            refine kj_keep [true, true, true, true, true] (ls' := [some (.inr 0), some (.inl x1), some (.inl x2), some (.inl x3), some (.inl x4)]) rfl ?_
            exact hJ101_39 x3 x4 σ hT
          · rw [if_neg c11] at hT
            refine kj_aload_n dX10_swap_84 (pc' := 85) rfl rfl rfl ?_
            refine kj_getR f_RX10_16 rfl (Nat.lt_of_lt_of_le (Nat.le_of_ble_eq_true rfl : 0 < 120) hE.1) (hE.2 _ _) (q := 7) rfl dX10_swap_85 (pc' := 88) rfl ?_
            refine kj_getR f_RX10_125 rfl (Nat.lt_of_lt_of_le (Nat.le_of_ble_eq_true rfl : 7 < 120) hE.1) (hE.2 _ _) (q := 8) rfl dX10_swap_88 (pc' := 91) rfl ?_
            refine kj_iload dX10_swap_91 (pc' := 93) rfl rfl ?_
            refine kj_iload dX10_swap_93 (pc' := 95) rfl rfl ?_
            obtain ⟨σ12, hσ12, hT⟩ := bind_some' hT
            refine kcVv (as := [.inl x4, .inl (X10_exchanged t10 x1 x2)]) (st := []) l_RX10_151 (m_X4_replace hE rfl σ x4 (X10_exchanged t10 x1 x2) hσ12) rfl (Nat.lt_of_lt_of_le (Nat.le_of_ble_eq_true rfl : 8 < 120) hE.1) rfl ⟨⟨rfl, rfl⟩, Nat.le_of_ble_eq_true rfl, Nat.le_of_ble_eq_true rfl⟩ (Nat.le_of_ble_eq_true rfl) dX10_swap_95 (pc' := 98) rfl ?_
            refine kj_iinc dX10_swap_98 (pc' := 101) rfl rfl (congrArg (_ + ·) kc_1) (Nat.le_of_ble_eq_true rfl) (ls' := [some (.inr 0), some (.inl x1), some (.inl x2), some (.inl (x3 + 1)), some (.inl x4), some (.inl t10), some (.inl (X10_exchanged t10 x1 x2))]) rfl ?_
            refine kj_keep [true, true, true, true, true] (ls' := [some (.inr 0), some (.inl x1), some (.inl x2), some (.inl (x3 + 1)), some (.inl x4)]) rfl ?_
            exact hJ101_39 (x3 + 1) x4 σ12 hT
      · rw [if_pos c5] at hT
        refine kj_iconst dX10_swap_21 (pc' := 22) rfl kc_m1 ?_
        have hR := Option.some.inj hT
        subst hR
        exact kj_iret rfl dX10_swap_22 (by subst hQ; exact ⟨rfl, rfl⟩)
def X10_rotated (x0 : Int32) (x1 : Int32) : Int32 :=
  (lett ((x0 >>> ((x1 - 1) &&& 31)) &&& 1) fun x2 => (((x0 <<< (1 &&& 31)) &&& ((1 <<< (x1 &&& 31)) - 1)) ||| x2))
set_option maxRecDepth 100000 in
set_option maxHeartbeats 4000000 in
theorem m_X10_rotated {E : JE} (hE : kOk 120 E) (σ : Wd) (x0 : Int32) (x1 : Int32) {res : Int32} (hT : X10_rotated x0 x1 = res) : kMt E yX10_rotated mX10_rotated rmX10_rotated [.inl x0, .inl x1] σ (kQi res σ) := by
  refine kMt_of (by decide +kernel) rfl (Nat.le_of_ble_eq_true rfl) ?_
  generalize hQ : (kQi res σ) = Q
  show KJ E mX10_rotated rmX10_rotated 0 [some (.inl x0), some (.inl x1)] [] σ Q
  unfold X10_rotated at hT
  refine kj_iload_n dX10_rotated_0 (pc' := 1) rfl rfl rfl ?_
  refine kj_iload_n dX10_rotated_1 (pc' := 2) rfl rfl rfl ?_
  refine kj_iconst dX10_rotated_2 (pc' := 3) rfl kc_1 ?_
  refine kj_isub dX10_rotated_3 (pc' := 4) rfl ?_
  refine kj_ishr dX10_rotated_4 (pc' := 5) rfl ?_
  refine kj_iconst dX10_rotated_5 (pc' := 6) rfl kc_1 ?_
  refine kj_iand dX10_rotated_6 (pc' := 7) rfl ?_
  obtain ⟨x2, ex2, hT⟩ := lett_i hT
  rw [← ex2]
  refine kj_istore_n dX10_rotated_7 (pc' := 8) rfl rfl (Nat.le_of_ble_eq_true rfl) (ls' := [some (.inl x0), some (.inl x1), some (.inl x2)]) rfl ?_
  refine kj_iload_n dX10_rotated_8 (pc' := 9) rfl rfl rfl ?_
  refine kj_iconst dX10_rotated_9 (pc' := 10) rfl kc_1 ?_
  refine kj_ishl dX10_rotated_10 (pc' := 11) rfl ?_
  refine kj_iconst dX10_rotated_11 (pc' := 12) rfl kc_1 ?_
  refine kj_iload_n dX10_rotated_12 (pc' := 13) rfl rfl rfl ?_
  refine kj_ishl dX10_rotated_13 (pc' := 14) rfl ?_
  refine kj_iconst dX10_rotated_14 (pc' := 15) rfl kc_1 ?_
  refine kj_isub dX10_rotated_15 (pc' := 16) rfl ?_
  refine kj_iand dX10_rotated_16 (pc' := 17) rfl ?_
  refine kj_iload_n dX10_rotated_17 (pc' := 18) rfl rfl rfl ?_
  refine kj_ior dX10_rotated_18 (pc' := 19) rfl ?_
  subst hT
  exact kj_iret rfl dX10_rotated_19 (by subst hQ; exact ⟨rfl, rfl⟩)
def X10_turn_J76 (rec15 : Int32 × Int32 × Wd → Option (Int32 × Wd)) (y1 : Int32) (y2 : Int32) (ς : Wd) : Option (Int32 × Wd) :=
  rec15 (y1, y2 + 1, ς)
def X10_turn_B15 (rec15 : Int32 × Int32 × Wd → Option (Int32 × Wd)) : Int32 × Int32 × Wd → Option (Int32 × Wd)
  | (x1, x2, σ) => (if (σ 2 1) ≤ x2 then ((X10_settleChanged σ x1).bind fun (t3, σ4) => some (t3, σ4)) else ((X4_at σ 2 x2).bind fun t5 => (if (X10_rotated t5 (σ 1 3)) = t5 then X10_turn_J76 rec15 x1 x2 σ else ((X4_replace σ 8 x2 (X10_rotated t5 (σ 1 3))).bind fun σ7 => X10_turn_J76 rec15 (x1 + 1) x2 σ7))))
def X10_turn (σ : Wd) : Option (Int32 × Wd) :=
  ((X7_copy σ 7 1).bind fun σ1 => (lp (X10_turn_B15) FU (0, 0, σ1)))
set_option maxRecDepth 100000 in
set_option maxHeartbeats 4000000 in
theorem m_X10_turn {E : JE} (hE : kOk 120 E) (σ : Wd) {res : Int32 × Wd} (hT : X10_turn σ = some res) : kMt E yX10_turn mX10_turn rmX10_turn [.inr 0] σ (kQi res.1 res.2) := by
  refine kMt_of (by decide +kernel) rfl (Nat.le_of_ble_eq_true rfl) ?_
  generalize hQ : (kQi res.1 res.2) = Q
  show KJ E mX10_turn rmX10_turn 0 [some (.inr 0)] [] σ Q
  unfold X10_turn at hT
  refine kj_aload_n dX10_turn_0 (pc' := 1) rfl rfl rfl ?_
  refine kj_getR f_RX10_16 rfl (Nat.lt_of_lt_of_le (Nat.le_of_ble_eq_true rfl : 0 < 120) hE.1) (hE.2 _ _) (q := 7) rfl dX10_turn_1 (pc' := 4) rfl ?_
  refine kj_aload_n dX10_turn_4 (pc' := 5) rfl rfl rfl ?_
  refine kj_getR f_RX10_10 rfl (Nat.lt_of_lt_of_le (Nat.le_of_ble_eq_true rfl : 0 < 120) hE.1) (hE.2 _ _) (q := 1) rfl dX10_turn_5 (pc' := 8) rfl ?_
  obtain ⟨σ1, hσ1, hT⟩ := bind_some' hT
  refine kcVv (as := [.inr 1]) (st := []) l_RX10_120 (m_X7_copy hE rfl rfl σ hσ1) rfl (Nat.lt_of_lt_of_le (Nat.le_of_ble_eq_true rfl : 7 < 120) hE.1) rfl ⟨⟨rfl, rfl⟩, Nat.le_of_ble_eq_true rfl, Nat.le_of_ble_eq_true rfl⟩ (Nat.le_of_ble_eq_true rfl) dX10_turn_8 (pc' := 11) rfl ?_
  refine kj_iconst dX10_turn_11 (pc' := 12) rfl kc_0 ?_
  refine kj_istore_n dX10_turn_12 (pc' := 13) rfl rfl (Nat.le_of_ble_eq_true rfl) (ls' := [some (.inr 0), some (.inl 0)]) rfl ?_
  refine kj_iconst dX10_turn_13 (pc' := 14) rfl kc_0 ?_
  refine kj_istore_n dX10_turn_14 (pc' := 15) rfl rfl (Nat.le_of_ble_eq_true rfl) (ls' := [some (.inr 0), some (.inl 0), some (.inl 0)]) rfl ?_
  refine lp_ind (P := fun s => KJ E mX10_turn rmX10_turn 15 [some (.inr 0), some (.inl s.1), some (.inl s.2.1)] [] s.2.2 Q) (fun rec15 s ih15 hT => ?_) FU (0, 0, σ1) hT
  obtain ⟨x1, x2, σ⟩ := s
  show KJ E mX10_turn rmX10_turn 15 [some (.inr 0), some (.inl x1), some (.inl x2)] [] σ Q
  rw [X10_turn_B15] at hT
  have hJ76_15 : ∀ y1 y2 ς, X10_turn_J76 rec15 y1 y2 ς = some res → KJ E mX10_turn rmX10_turn 76 [some (.inr 0), some (.inl y1), some (.inl y2)] [] ς Q := by
    intro y1 y2 ς hT
    unfold X10_turn_J76 at hT
    refine kj_iinc dX10_turn_76 (pc' := 79) rfl rfl (congrArg (_ + ·) kc_1) (Nat.le_of_ble_eq_true rfl) (ls' := [some (.inr 0), some (.inl y1), some (.inl (y2 + 1))]) rfl ?_
    refine kj_goto dX10_turn_79 (pc' := 15) rfl ?_
    exact ih15 (y1, y2 + 1, ς) hT
  refine kj_iload_n dX10_turn_15 (pc' := 16) rfl rfl rfl ?_
  refine kj_aload_n dX10_turn_16 (pc' := 17) rfl rfl rfl ?_
  refine kj_getR f_RX10_10 rfl (Nat.lt_of_lt_of_le (Nat.le_of_ble_eq_true rfl : 0 < 120) hE.1) (hE.2 _ _) (q := 1) rfl dX10_turn_17 (pc' := 20) rfl ?_
  refine kj_getR f_RX10_125 rfl (Nat.lt_of_lt_of_le (Nat.le_of_ble_eq_true rfl : 1 < 120) hE.1) (hE.2 _ _) (q := 2) rfl dX10_turn_20 (pc' := 23) rfl ?_
  refine kj_getI f_RX10_100 rfl (Nat.lt_of_lt_of_le (Nat.le_of_ble_eq_true rfl : 2 < 120) hE.1) dX10_turn_23 (pc' := 26) rfl ?_
  refine kj_icmp_ge dX10_turn_26 (tgt := 82) rfl (pc' := 29) rfl (fun c2 => ?_) (fun c2 => ?_)
  · rw [if_pos c2] at hT
    refine kj_aload_n dX10_turn_82 (pc' := 83) rfl rfl rfl ?_
    refine kj_iload_n dX10_turn_83 (pc' := 84) rfl rfl rfl ?_
    obtain ⟨t3, ht3, hT⟩ := bind_some' hT
    obtain ⟨t3, σ4⟩ := t3
    dsimp only at hT
    refine kcVi (as := [.inl x1]) (st := []) l_RX10_168 (m_X10_settleChanged hE σ x1 ht3) rfl (Nat.lt_of_lt_of_le (Nat.le_of_ble_eq_true rfl : 0 < 120) hE.1) rfl ⟨⟨rfl, rfl⟩, Nat.le_of_ble_eq_true rfl, Nat.le_of_ble_eq_true rfl⟩ (Nat.le_of_ble_eq_true rfl) dX10_turn_84 (pc' := 87) rfl ?_
    have hR := Option.some.inj hT
    subst hR
    exact kj_iret rfl dX10_turn_87 (by subst hQ; exact ⟨rfl, rfl⟩)
  · rw [if_neg c2] at hT
    refine kj_aload_n dX10_turn_29 (pc' := 30) rfl rfl rfl ?_
    refine kj_getR f_RX10_10 rfl (Nat.lt_of_lt_of_le (Nat.le_of_ble_eq_true rfl : 0 < 120) hE.1) (hE.2 _ _) (q := 1) rfl dX10_turn_30 (pc' := 33) rfl ?_
    refine kj_getR f_RX10_125 rfl (Nat.lt_of_lt_of_le (Nat.le_of_ble_eq_true rfl : 1 < 120) hE.1) (hE.2 _ _) (q := 2) rfl dX10_turn_33 (pc' := 36) rfl ?_
    refine kj_iload_n dX10_turn_36 (pc' := 37) rfl rfl rfl ?_
    obtain ⟨t5, ht5, hT⟩ := bind_some' hT
    refine kcVi (as := [.inl x2]) (st := []) l_RX10_148 (m_X4_at hE rfl σ x2 ht5) rfl (Nat.lt_of_lt_of_le (Nat.le_of_ble_eq_true rfl : 2 < 120) hE.1) rfl ⟨⟨rfl, rfl⟩, Nat.le_of_ble_eq_true rfl, Nat.le_of_ble_eq_true rfl⟩ (Nat.le_of_ble_eq_true rfl) dX10_turn_37 (pc' := 40) rfl ?_
    refine kj_istore_n dX10_turn_40 (pc' := 41) rfl rfl (Nat.le_of_ble_eq_true rfl) (ls' := [some (.inr 0), some (.inl x1), some (.inl x2), some (.inl t5)]) rfl ?_
    refine kj_iload_n dX10_turn_41 (pc' := 42) rfl rfl rfl ?_
    refine kj_aload_n dX10_turn_42 (pc' := 43) rfl rfl rfl ?_
    refine kj_getR f_RX10_10 rfl (Nat.lt_of_lt_of_le (Nat.le_of_ble_eq_true rfl : 0 < 120) hE.1) (hE.2 _ _) (q := 1) rfl dX10_turn_43 (pc' := 46) rfl ?_
    refine kj_getI f_RX10_171 rfl (Nat.lt_of_lt_of_le (Nat.le_of_ble_eq_true rfl : 1 < 120) hE.1) dX10_turn_46 (pc' := 49) rfl ?_
    refine kcSi (as := [.inl t5, .inl (σ 1 3)]) (st := []) l_RX10_174 (m_X10_rotated hE σ t5 (σ 1 3) rfl) rfl ⟨⟨rfl, rfl⟩, Nat.le_of_ble_eq_true rfl, Nat.le_of_ble_eq_true rfl⟩ (Nat.le_of_ble_eq_true rfl) dX10_turn_49 (pc' := 52) rfl ?_
    refine kj_istore dX10_turn_52 (pc' := 54) rfl (Nat.le_of_ble_eq_true rfl) (ls' := [some (.inr 0), some (.inl x1), some (.inl x2), some (.inl t5), some (.inl (X10_rotated t5 (σ 1 3)))]) rfl ?_
    refine kj_iload dX10_turn_54 (pc' := 56) rfl rfl ?_
    refine kj_iload_n dX10_turn_56 (pc' := 57) rfl rfl rfl ?_
    refine kj_icmp_eq dX10_turn_57 (tgt := 76) rfl (pc' := 60) rfl (fun c6 => ?_) (fun c6 => ?_)
    · rw [if_pos c6] at hT
      refine kj_keep [true, true, true] (ls' := [some (.inr 0), some (.inl x1), some (.inl x2)]) rfl ?_
      exact hJ76_15 x1 x2 σ hT
    · rw [if_neg c6] at hT
      refine kj_aload_n dX10_turn_60 (pc' := 61) rfl rfl rfl ?_
      refine kj_getR f_RX10_16 rfl (Nat.lt_of_lt_of_le (Nat.le_of_ble_eq_true rfl : 0 < 120) hE.1) (hE.2 _ _) (q := 7) rfl dX10_turn_61 (pc' := 64) rfl ?_
      refine kj_getR f_RX10_125 rfl (Nat.lt_of_lt_of_le (Nat.le_of_ble_eq_true rfl : 7 < 120) hE.1) (hE.2 _ _) (q := 8) rfl dX10_turn_64 (pc' := 67) rfl ?_
      refine kj_iload_n dX10_turn_67 (pc' := 68) rfl rfl rfl ?_
      refine kj_iload dX10_turn_68 (pc' := 70) rfl rfl ?_
      obtain ⟨σ7, hσ7, hT⟩ := bind_some' hT
      refine kcVv (as := [.inl x2, .inl (X10_rotated t5 (σ 1 3))]) (st := []) l_RX10_151 (m_X4_replace hE rfl σ x2 (X10_rotated t5 (σ 1 3)) hσ7) rfl (Nat.lt_of_lt_of_le (Nat.le_of_ble_eq_true rfl : 8 < 120) hE.1) rfl ⟨⟨rfl, rfl⟩, Nat.le_of_ble_eq_true rfl, Nat.le_of_ble_eq_true rfl⟩ (Nat.le_of_ble_eq_true rfl) dX10_turn_70 (pc' := 73) rfl ?_
      refine kj_iinc dX10_turn_73 (pc' := 76) rfl rfl (congrArg (_ + ·) kc_1) (Nat.le_of_ble_eq_true rfl) (ls' := [some (.inr 0), some (.inl (x1 + 1)), some (.inl x2), some (.inl t5), some (.inl (X10_rotated t5 (σ 1 3)))]) rfl ?_
      refine kj_keep [true, true, true] (ls' := [some (.inr 0), some (.inl (x1 + 1)), some (.inl x2)]) rfl ?_
      exact hJ76_15 (x1 + 1) x2 σ7 hT
def X10_generatorsWith_B4 (σ : Wd) (x1 : Int32) (rec4 : Int32 × Int32 → Option (Int32)) : Int32 × Int32 → Option (Int32)
  | (x2, x3) => (if (σ 2 1) ≤ x3 then some x2 else ((X4_at σ 2 x3).bind fun t3 => (lett (x2 + ((t3 >>> (x1 &&& 31)) &&& 1)) fun t4 => rec4 (t4, x3 + 1))))
def X10_generatorsWith (σ : Wd) (x1 : Int32) : Option (Int32) :=
  (lp (X10_generatorsWith_B4 σ x1) FU (0, 0))
set_option maxRecDepth 100000 in
set_option maxHeartbeats 4000000 in
theorem m_X10_generatorsWith {E : JE} (hE : kOk 120 E) (σ : Wd) (x1 : Int32) {res : Int32} (hT : X10_generatorsWith σ x1 = some res) : kMt E yX10_generatorsWith mX10_generatorsWith rmX10_generatorsWith [.inr 0, .inl x1] σ (kQi res σ) := by
  refine kMt_of (by decide +kernel) rfl (Nat.le_of_ble_eq_true rfl) ?_
  generalize hQ : (kQi res σ) = Q
  show KJ E mX10_generatorsWith rmX10_generatorsWith 0 [some (.inr 0), some (.inl x1)] [] σ Q
  unfold X10_generatorsWith at hT
  refine kj_iconst dX10_generatorsWith_0 (pc' := 1) rfl kc_0 ?_
  refine kj_istore_n dX10_generatorsWith_1 (pc' := 2) rfl rfl (Nat.le_of_ble_eq_true rfl) (ls' := [some (.inr 0), some (.inl x1), some (.inl 0)]) rfl ?_
  refine kj_iconst dX10_generatorsWith_2 (pc' := 3) rfl kc_0 ?_
  refine kj_istore_n dX10_generatorsWith_3 (pc' := 4) rfl rfl (Nat.le_of_ble_eq_true rfl) (ls' := [some (.inr 0), some (.inl x1), some (.inl 0), some (.inl 0)]) rfl ?_
  refine lp_ind (P := fun s => KJ E mX10_generatorsWith rmX10_generatorsWith 4 [some (.inr 0), some (.inl x1), some (.inl s.1), some (.inl s.2)] [] σ Q) (fun rec4 s ih4 hT => ?_) FU (0, 0) hT
  obtain ⟨x2, x3⟩ := s
  show KJ E mX10_generatorsWith rmX10_generatorsWith 4 [some (.inr 0), some (.inl x1), some (.inl x2), some (.inl x3)] [] σ Q
  rw [X10_generatorsWith_B4] at hT
  refine kj_iload_n dX10_generatorsWith_4 (pc' := 5) rfl rfl rfl ?_
  refine kj_aload_n dX10_generatorsWith_5 (pc' := 6) rfl rfl rfl ?_
  refine kj_getR f_RX10_10 rfl (Nat.lt_of_lt_of_le (Nat.le_of_ble_eq_true rfl : 0 < 120) hE.1) (hE.2 _ _) (q := 1) rfl dX10_generatorsWith_6 (pc' := 9) rfl ?_
  refine kj_getR f_RX10_125 rfl (Nat.lt_of_lt_of_le (Nat.le_of_ble_eq_true rfl : 1 < 120) hE.1) (hE.2 _ _) (q := 2) rfl dX10_generatorsWith_9 (pc' := 12) rfl ?_
  refine kj_getI f_RX10_100 rfl (Nat.lt_of_lt_of_le (Nat.le_of_ble_eq_true rfl : 2 < 120) hE.1) dX10_generatorsWith_12 (pc' := 15) rfl ?_
  refine kj_icmp_ge dX10_generatorsWith_15 (tgt := 42) rfl (pc' := 18) rfl (fun c2 => ?_) (fun c2 => ?_)
  · rw [if_pos c2] at hT
    refine kj_iload_n dX10_generatorsWith_42 (pc' := 43) rfl rfl rfl ?_
    have hR := Option.some.inj hT
    subst hR
    exact kj_iret rfl dX10_generatorsWith_43 (by subst hQ; exact ⟨rfl, rfl⟩)
  · rw [if_neg c2] at hT
    refine kj_iload_n dX10_generatorsWith_18 (pc' := 19) rfl rfl rfl ?_
    refine kj_aload_n dX10_generatorsWith_19 (pc' := 20) rfl rfl rfl ?_
    refine kj_getR f_RX10_10 rfl (Nat.lt_of_lt_of_le (Nat.le_of_ble_eq_true rfl : 0 < 120) hE.1) (hE.2 _ _) (q := 1) rfl dX10_generatorsWith_20 (pc' := 23) rfl ?_
    refine kj_getR f_RX10_125 rfl (Nat.lt_of_lt_of_le (Nat.le_of_ble_eq_true rfl : 1 < 120) hE.1) (hE.2 _ _) (q := 2) rfl dX10_generatorsWith_23 (pc' := 26) rfl ?_
    refine kj_iload_n dX10_generatorsWith_26 (pc' := 27) rfl rfl rfl ?_
    obtain ⟨t3, ht3, hT⟩ := bind_some' hT
    refine kcVi (as := [.inl x3]) (st := [.inl x2]) l_RX10_148 (m_X4_at hE rfl σ x3 ht3) rfl (Nat.lt_of_lt_of_le (Nat.le_of_ble_eq_true rfl : 2 < 120) hE.1) rfl ⟨⟨rfl, rfl⟩, Nat.le_of_ble_eq_true rfl, Nat.le_of_ble_eq_true rfl⟩ (Nat.le_of_ble_eq_true rfl) dX10_generatorsWith_27 (pc' := 30) rfl ?_
    refine kj_iload_n dX10_generatorsWith_30 (pc' := 31) rfl rfl rfl ?_
    refine kj_ishr dX10_generatorsWith_31 (pc' := 32) rfl ?_
    refine kj_iconst dX10_generatorsWith_32 (pc' := 33) rfl kc_1 ?_
    refine kj_iand dX10_generatorsWith_33 (pc' := 34) rfl ?_
    refine kj_iadd dX10_generatorsWith_34 (pc' := 35) rfl ?_
    obtain ⟨t4, et4, hT⟩ := lett_i hT
    rw [← et4]
    refine kj_istore_n dX10_generatorsWith_35 (pc' := 36) rfl rfl (Nat.le_of_ble_eq_true rfl) (ls' := [some (.inr 0), some (.inl x1), some (.inl t4), some (.inl x3)]) rfl ?_
    refine kj_iinc dX10_generatorsWith_36 (pc' := 39) rfl rfl (congrArg (_ + ·) kc_1) (Nat.le_of_ble_eq_true rfl) (ls' := [some (.inr 0), some (.inl x1), some (.inl t4), some (.inl (x3 + 1))]) rfl ?_
    refine kj_goto dX10_generatorsWith_39 (pc' := 4) rfl ?_
    exact ih4 (t4, x3 + 1) hT
def X10_without_J103 (rec41 : Int32 × Wd → Option (Int32 × Wd)) (y2 : Int32) (ς : Wd) : Option (Int32 × Wd) :=
  rec41 (y2 + 1, ς)
def X10_without_B41 (x1 : Int32) (rec41 : Int32 × Wd → Option (Int32 × Wd)) : Int32 × Wd → Option (Int32 × Wd)
  | (x2, σ) => (if (σ 2 1) ≤ x2 then ((X10_settle σ).bind fun σ7 => some (σ7 2 1, σ7)) else ((X4_at σ 2 x2).bind fun t8 => (lett (t8 &&& ((1 <<< (x1 &&& 31)) ^^^ (-1))) fun x3 => (if x3 = 0 then X10_without_J103 rec41 x2 σ else ((X4_find σ 8 x3).bind fun t10 => (if t10 = (-1) then ((X4_append σ 8 x3).bind fun σ12 => X10_without_J103 rec41 x2 σ12) else X10_without_J103 rec41 x2 σ))))))
def X10_without (σ : Wd) (x1 : Int32) : Option (Int32 × Wd) :=
  (if (X10_isPoint σ x1) = 0 then some ((-1), σ) else ((X10_generatorsWith σ x1).bind fun t3 => (if t3 = 0 then some ((-1), σ) else ((X7_copy σ 7 1).bind fun σ5 => (lp (X10_without_B41 x1) FU (0, X4_clear σ5 8))))))
set_option maxRecDepth 100000 in
set_option maxHeartbeats 4000000 in
theorem m_X10_without {E : JE} (hE : kOk 120 E) (σ : Wd) (x1 : Int32) {res : Int32 × Wd} (hT : X10_without σ x1 = some res) : kMt E yX10_without mX10_without rmX10_without [.inr 0, .inl x1] σ (kQi res.1 res.2) := by
  refine kMt_of (by decide +kernel) rfl (Nat.le_of_ble_eq_true rfl) ?_
  generalize hQ : (kQi res.1 res.2) = Q
  show KJ E mX10_without rmX10_without 0 [some (.inr 0), some (.inl x1)] [] σ Q
  unfold X10_without at hT
  refine kj_aload_n dX10_without_0 (pc' := 1) rfl rfl rfl ?_
  refine kj_iload_n dX10_without_1 (pc' := 2) rfl rfl rfl ?_
  refine kcVz (as := [.inl x1]) (st := []) l_RX10_155 (m_X10_isPoint hE σ x1 rfl) rfl (Nat.lt_of_lt_of_le (Nat.le_of_ble_eq_true rfl : 0 < 120) hE.1) rfl ⟨⟨rfl, rfl⟩, Nat.le_of_ble_eq_true rfl, Nat.le_of_ble_eq_true rfl⟩ (Nat.le_of_ble_eq_true rfl) dX10_without_2 (pc' := 5) rfl (fun z1 => ?_)
  refine kj_if_eq dX10_without_5 (tgt := 16) rfl (pc' := 8) rfl (fun c2 => ?_) (fun c2 => ?_)
  · rw [if_pos c2] at hT
    refine kj_iconst dX10_without_16 (pc' := 17) rfl kc_m1 ?_
    have hR := Option.some.inj hT
    subst hR
    exact kj_iret rfl dX10_without_17 (by subst hQ; exact ⟨rfl, rfl⟩)
  · rw [if_neg c2] at hT
    refine kj_aload_n dX10_without_8 (pc' := 9) rfl rfl rfl ?_
    refine kj_iload_n dX10_without_9 (pc' := 10) rfl rfl rfl ?_
    obtain ⟨t3, ht3, hT⟩ := bind_some' hT
    refine kcVi (as := [.inl x1]) (st := []) l_RX10_178 (m_X10_generatorsWith hE σ x1 ht3) rfl (Nat.lt_of_lt_of_le (Nat.le_of_ble_eq_true rfl : 0 < 120) hE.1) rfl ⟨⟨rfl, rfl⟩, Nat.le_of_ble_eq_true rfl, Nat.le_of_ble_eq_true rfl⟩ (Nat.le_of_ble_eq_true rfl) dX10_without_10 (pc' := 13) rfl ?_
    refine kj_if_ne dX10_without_13 (tgt := 18) rfl (pc' := 16) rfl (fun c4 => ?_) (fun c4 => ?_)
    · rw [if_neg c4] at hT
      refine kj_aload_n dX10_without_18 (pc' := 19) rfl rfl rfl ?_
      refine kj_getR f_RX10_16 rfl (Nat.lt_of_lt_of_le (Nat.le_of_ble_eq_true rfl : 0 < 120) hE.1) (hE.2 _ _) (q := 7) rfl dX10_without_19 (pc' := 22) rfl ?_
      refine kj_aload_n dX10_without_22 (pc' := 23) rfl rfl rfl ?_
      refine kj_getR f_RX10_10 rfl (Nat.lt_of_lt_of_le (Nat.le_of_ble_eq_true rfl : 0 < 120) hE.1) (hE.2 _ _) (q := 1) rfl dX10_without_23 (pc' := 26) rfl ?_
      obtain ⟨σ5, hσ5, hT⟩ := bind_some' hT
      refine kcVv (as := [.inr 1]) (st := []) l_RX10_120 (m_X7_copy hE rfl rfl σ hσ5) rfl (Nat.lt_of_lt_of_le (Nat.le_of_ble_eq_true rfl : 7 < 120) hE.1) rfl ⟨⟨rfl, rfl⟩, Nat.le_of_ble_eq_true rfl, Nat.le_of_ble_eq_true rfl⟩ (Nat.le_of_ble_eq_true rfl) dX10_without_26 (pc' := 29) rfl ?_
      refine kj_aload_n dX10_without_29 (pc' := 30) rfl rfl rfl ?_
      refine kj_getR f_RX10_16 rfl (Nat.lt_of_lt_of_le (Nat.le_of_ble_eq_true rfl : 0 < 120) hE.1) (hE.2 _ _) (q := 7) rfl dX10_without_30 (pc' := 33) rfl ?_
      refine kj_getR f_RX10_125 rfl (Nat.lt_of_lt_of_le (Nat.le_of_ble_eq_true rfl : 7 < 120) hE.1) (hE.2 _ _) (q := 8) rfl dX10_without_33 (pc' := 36) rfl ?_
      refine kcVv (as := []) (st := []) l_RX10_111 (m_X4_clear hE rfl σ5 rfl) rfl (Nat.lt_of_lt_of_le (Nat.le_of_ble_eq_true rfl : 8 < 120) hE.1) rfl ⟨⟨rfl, rfl⟩, Nat.le_of_ble_eq_true rfl, Nat.le_of_ble_eq_true rfl⟩ (Nat.le_of_ble_eq_true rfl) dX10_without_36 (pc' := 39) rfl ?_
      refine kj_iconst dX10_without_39 (pc' := 40) rfl kc_0 ?_
      refine kj_istore_n dX10_without_40 (pc' := 41) rfl rfl (Nat.le_of_ble_eq_true rfl) (ls' := [some (.inr 0), some (.inl x1), some (.inl 0)]) rfl ?_
      refine lp_ind (P := fun s => KJ E mX10_without rmX10_without 41 [some (.inr 0), some (.inl x1), some (.inl s.1)] [] s.2 Q) (fun rec41 s ih41 hT => ?_) FU (0, X4_clear σ5 8) hT
      obtain ⟨x2, σ⟩ := s
      show KJ E mX10_without rmX10_without 41 [some (.inr 0), some (.inl x1), some (.inl x2)] [] σ Q
      rw [X10_without_B41] at hT
      have hJ103_41 : ∀ y2 ς, X10_without_J103 rec41 y2 ς = some res → KJ E mX10_without rmX10_without 103 [some (.inr 0), some (.inl x1), some (.inl y2)] [] ς Q := by
        intro y2 ς hT
        unfold X10_without_J103 at hT
        refine kj_iinc dX10_without_103 (pc' := 106) rfl rfl (congrArg (_ + ·) kc_1) (Nat.le_of_ble_eq_true rfl) (ls' := [some (.inr 0), some (.inl x1), some (.inl (y2 + 1))]) rfl ?_
        refine kj_goto dX10_without_106 (pc' := 41) rfl ?_
        exact ih41 (y2 + 1, ς) hT
      refine kj_iload_n dX10_without_41 (pc' := 42) rfl rfl rfl ?_
      refine kj_aload_n dX10_without_42 (pc' := 43) rfl rfl rfl ?_
      refine kj_getR f_RX10_10 rfl (Nat.lt_of_lt_of_le (Nat.le_of_ble_eq_true rfl : 0 < 120) hE.1) (hE.2 _ _) (q := 1) rfl dX10_without_43 (pc' := 46) rfl ?_
      refine kj_getR f_RX10_125 rfl (Nat.lt_of_lt_of_le (Nat.le_of_ble_eq_true rfl : 1 < 120) hE.1) (hE.2 _ _) (q := 2) rfl dX10_without_46 (pc' := 49) rfl ?_
      refine kj_getI f_RX10_100 rfl (Nat.lt_of_lt_of_le (Nat.le_of_ble_eq_true rfl : 2 < 120) hE.1) dX10_without_49 (pc' := 52) rfl ?_
      refine kj_icmp_ge dX10_without_52 (tgt := 109) rfl (pc' := 55) rfl (fun c6 => ?_) (fun c6 => ?_)
      · rw [if_pos c6] at hT
        refine kj_aload_n dX10_without_109 (pc' := 110) rfl rfl rfl ?_
        obtain ⟨σ7, hσ7, hT⟩ := bind_some' hT
        refine kcVv (as := []) (st := []) l_RX10_139 (m_X10_settle hE σ hσ7) rfl (Nat.lt_of_lt_of_le (Nat.le_of_ble_eq_true rfl : 0 < 120) hE.1) rfl ⟨⟨rfl, rfl⟩, Nat.le_of_ble_eq_true rfl, Nat.le_of_ble_eq_true rfl⟩ (Nat.le_of_ble_eq_true rfl) dX10_without_110 (pc' := 113) rfl ?_
        refine kj_aload_n dX10_without_113 (pc' := 114) rfl rfl rfl ?_
        refine kj_getR f_RX10_10 rfl (Nat.lt_of_lt_of_le (Nat.le_of_ble_eq_true rfl : 0 < 120) hE.1) (hE.2 _ _) (q := 1) rfl dX10_without_114 (pc' := 117) rfl ?_
        refine kj_getR f_RX10_125 rfl (Nat.lt_of_lt_of_le (Nat.le_of_ble_eq_true rfl : 1 < 120) hE.1) (hE.2 _ _) (q := 2) rfl dX10_without_117 (pc' := 120) rfl ?_
        refine kj_getI f_RX10_100 rfl (Nat.lt_of_lt_of_le (Nat.le_of_ble_eq_true rfl : 2 < 120) hE.1) dX10_without_120 (pc' := 123) rfl ?_
        have hR := Option.some.inj hT
        subst hR
        exact kj_iret rfl dX10_without_123 (by subst hQ; exact ⟨rfl, rfl⟩)
      · rw [if_neg c6] at hT
        refine kj_aload_n dX10_without_55 (pc' := 56) rfl rfl rfl ?_
        refine kj_getR f_RX10_10 rfl (Nat.lt_of_lt_of_le (Nat.le_of_ble_eq_true rfl : 0 < 120) hE.1) (hE.2 _ _) (q := 1) rfl dX10_without_56 (pc' := 59) rfl ?_
        refine kj_getR f_RX10_125 rfl (Nat.lt_of_lt_of_le (Nat.le_of_ble_eq_true rfl : 1 < 120) hE.1) (hE.2 _ _) (q := 2) rfl dX10_without_59 (pc' := 62) rfl ?_
        refine kj_iload_n dX10_without_62 (pc' := 63) rfl rfl rfl ?_
        obtain ⟨t8, ht8, hT⟩ := bind_some' hT
        refine kcVi (as := [.inl x2]) (st := []) l_RX10_148 (m_X4_at hE rfl σ x2 ht8) rfl (Nat.lt_of_lt_of_le (Nat.le_of_ble_eq_true rfl : 2 < 120) hE.1) rfl ⟨⟨rfl, rfl⟩, Nat.le_of_ble_eq_true rfl, Nat.le_of_ble_eq_true rfl⟩ (Nat.le_of_ble_eq_true rfl) dX10_without_63 (pc' := 66) rfl ?_
        refine kj_iconst dX10_without_66 (pc' := 67) rfl kc_1 ?_
        refine kj_iload_n dX10_without_67 (pc' := 68) rfl rfl rfl ?_
        refine kj_ishl dX10_without_68 (pc' := 69) rfl ?_
        refine kj_iconst dX10_without_69 (pc' := 70) rfl kc_m1 ?_
        refine kj_ixor dX10_without_70 (pc' := 71) rfl ?_
        refine kj_iand dX10_without_71 (pc' := 72) rfl ?_
        obtain ⟨x3, ex3, hT⟩ := lett_i hT
        rw [← ex3]
        refine kj_istore_n dX10_without_72 (pc' := 73) rfl rfl (Nat.le_of_ble_eq_true rfl) (ls' := [some (.inr 0), some (.inl x1), some (.inl x2), some (.inl x3)]) rfl ?_
        refine kj_iload_n dX10_without_73 (pc' := 74) rfl rfl rfl ?_
        refine kj_if_eq dX10_without_74 (tgt := 103) rfl (pc' := 77) rfl (fun c9 => ?_) (fun c9 => ?_)
        · rw [if_pos c9] at hT
          refine kj_keep [true, true, true] (ls' := [some (.inr 0), some (.inl x1), some (.inl x2)]) rfl ?_
          exact hJ103_41 x2 σ hT
        · rw [if_neg c9] at hT
          refine kj_aload_n dX10_without_77 (pc' := 78) rfl rfl rfl ?_
          refine kj_getR f_RX10_16 rfl (Nat.lt_of_lt_of_le (Nat.le_of_ble_eq_true rfl : 0 < 120) hE.1) (hE.2 _ _) (q := 7) rfl dX10_without_78 (pc' := 81) rfl ?_
          refine kj_getR f_RX10_125 rfl (Nat.lt_of_lt_of_le (Nat.le_of_ble_eq_true rfl : 7 < 120) hE.1) (hE.2 _ _) (q := 8) rfl dX10_without_81 (pc' := 84) rfl ?_
          refine kj_iload_n dX10_without_84 (pc' := 85) rfl rfl rfl ?_
          obtain ⟨t10, ht10, hT⟩ := bind_some' hT
          refine kcVi (as := [.inl x3]) (st := []) l_RX10_132 (m_X4_find hE rfl σ x3 ht10) rfl (Nat.lt_of_lt_of_le (Nat.le_of_ble_eq_true rfl : 8 < 120) hE.1) rfl ⟨⟨rfl, rfl⟩, Nat.le_of_ble_eq_true rfl, Nat.le_of_ble_eq_true rfl⟩ (Nat.le_of_ble_eq_true rfl) dX10_without_85 (pc' := 88) rfl ?_
          refine kj_iconst dX10_without_88 (pc' := 89) rfl kc_m1 ?_
          refine kj_icmp_ne dX10_without_89 (tgt := 103) rfl (pc' := 92) rfl (fun c11 => ?_) (fun c11 => ?_)
          · rw [if_neg c11] at hT
            refine kj_keep [true, true, true] (ls' := [some (.inr 0), some (.inl x1), some (.inl x2)]) rfl ?_
            exact hJ103_41 x2 σ hT
          · rw [if_pos c11] at hT
            refine kj_aload_n dX10_without_92 (pc' := 93) rfl rfl rfl ?_
            refine kj_getR f_RX10_16 rfl (Nat.lt_of_lt_of_le (Nat.le_of_ble_eq_true rfl : 0 < 120) hE.1) (hE.2 _ _) (q := 7) rfl dX10_without_93 (pc' := 96) rfl ?_
            refine kj_getR f_RX10_125 rfl (Nat.lt_of_lt_of_le (Nat.le_of_ble_eq_true rfl : 7 < 120) hE.1) (hE.2 _ _) (q := 8) rfl dX10_without_96 (pc' := 99) rfl ?_
            refine kj_iload_n dX10_without_99 (pc' := 100) rfl rfl rfl ?_
            obtain ⟨σ12, hσ12, hT⟩ := bind_some' hT
            refine kcVv (as := [.inl x3]) (st := []) l_RX10_136 (m_X4_append hE rfl σ x3 hσ12) rfl (Nat.lt_of_lt_of_le (Nat.le_of_ble_eq_true rfl : 8 < 120) hE.1) rfl ⟨⟨rfl, rfl⟩, Nat.le_of_ble_eq_true rfl, Nat.le_of_ble_eq_true rfl⟩ (Nat.le_of_ble_eq_true rfl) dX10_without_100 (pc' := 103) rfl ?_
            refine kj_keep [true, true, true] (ls' := [some (.inr 0), some (.inl x1), some (.inl x2)]) rfl ?_
            exact hJ103_41 x2 σ12 hT
    · rw [if_pos c4] at hT
      refine kj_iconst dX10_without_16 (pc' := 17) rfl kc_m1 ?_
      have hR := Option.some.inj hT
      subst hR
      exact kj_iret rfl dX10_without_17 (by subst hQ; exact ⟨rfl, rfl⟩)
def X10_isIdle (σ : Wd) (x1 : Int32) : Option (Int32) :=
  ((X4_at σ 2 x1).bind fun t1 => ((X4_find σ 97 t1).bind fun t2 => (if t2 = (-1) then some 1 else some 0)))
set_option maxRecDepth 100000 in
set_option maxHeartbeats 4000000 in
theorem m_X10_isIdle {E : JE} (hE : kOk 120 E) (σ : Wd) (x1 : Int32) {res : Int32} (hT : X10_isIdle σ x1 = some res) : kMt E yX10_isIdle mX10_isIdle rmX10_isIdle [.inr 0, .inl x1] σ (kQz res σ) := by
  refine kMt_of (by decide +kernel) rfl (Nat.le_of_ble_eq_true rfl) ?_
  generalize hQ : (kQz res σ) = Q
  show KJ E mX10_isIdle rmX10_isIdle 0 [some (.inr 0), some (.inl x1)] [] σ Q
  unfold X10_isIdle at hT
  refine kj_aload_n dX10_isIdle_0 (pc' := 1) rfl rfl rfl ?_
  refine kj_getR f_RX10_54 rfl (Nat.lt_of_lt_of_le (Nat.le_of_ble_eq_true rfl : 0 < 120) hE.1) (hE.2 _ _) (q := 93) rfl dX10_isIdle_1 (pc' := 4) rfl ?_
  refine kj_getR f_RX10_184 rfl (Nat.lt_of_lt_of_le (Nat.le_of_ble_eq_true rfl : 93 < 120) hE.1) (hE.2 _ _) (q := 97) rfl dX10_isIdle_4 (pc' := 7) rfl ?_
  refine kj_aload_n dX10_isIdle_7 (pc' := 8) rfl rfl rfl ?_
  refine kj_getR f_RX10_10 rfl (Nat.lt_of_lt_of_le (Nat.le_of_ble_eq_true rfl : 0 < 120) hE.1) (hE.2 _ _) (q := 1) rfl dX10_isIdle_8 (pc' := 11) rfl ?_
  refine kj_getR f_RX10_125 rfl (Nat.lt_of_lt_of_le (Nat.le_of_ble_eq_true rfl : 1 < 120) hE.1) (hE.2 _ _) (q := 2) rfl dX10_isIdle_11 (pc' := 14) rfl ?_
  refine kj_iload_n dX10_isIdle_14 (pc' := 15) rfl rfl rfl ?_
  obtain ⟨t1, ht1, hT⟩ := bind_some' hT
  refine kcVi (as := [.inl x1]) (st := [.inr 97]) l_RX10_148 (m_X4_at hE rfl σ x1 ht1) rfl (Nat.lt_of_lt_of_le (Nat.le_of_ble_eq_true rfl : 2 < 120) hE.1) rfl ⟨⟨rfl, rfl⟩, Nat.le_of_ble_eq_true rfl, Nat.le_of_ble_eq_true rfl⟩ (Nat.le_of_ble_eq_true rfl) dX10_isIdle_15 (pc' := 18) rfl ?_
  obtain ⟨t2, ht2, hT⟩ := bind_some' hT
  refine kcVi (as := [.inl t1]) (st := []) l_RX10_132 (m_X4_find hE rfl σ t1 ht2) rfl (Nat.lt_of_lt_of_le (Nat.le_of_ble_eq_true rfl : 97 < 120) hE.1) rfl ⟨⟨rfl, rfl⟩, Nat.le_of_ble_eq_true rfl, Nat.le_of_ble_eq_true rfl⟩ (Nat.le_of_ble_eq_true rfl) dX10_isIdle_18 (pc' := 21) rfl ?_
  refine kj_iconst dX10_isIdle_21 (pc' := 22) rfl kc_m1 ?_
  refine kj_icmp_ne dX10_isIdle_22 (tgt := 29) rfl (pc' := 25) rfl (fun c3 => ?_) (fun c3 => ?_)
  · rw [if_neg c3] at hT
    refine kj_iconst dX10_isIdle_29 (pc' := 30) rfl kc_0 ?_
    have hR := Option.some.inj hT
    subst hR
    exact kj_zret rfl (Or.inl rfl) dX10_isIdle_30 (by subst hQ; exact ⟨rfl, rfl, (Or.inl rfl)⟩)
  · rw [if_pos c3] at hT
    refine kj_iconst dX10_isIdle_25 (pc' := 26) rfl kc_1 ?_
    refine kj_goto dX10_isIdle_26 (pc' := 30) rfl ?_
    have hR := Option.some.inj hT
    subst hR
    exact kj_zret rfl (Or.inr rfl) dX10_isIdle_30 (by subst hQ; exact ⟨rfl, rfl, (Or.inr rfl)⟩)
def X10_lean_T72 (σ : Wd) : Option (Int32 × Wd) :=
  ((X10_settleChanged σ ((σ 2 1) - (σ 8 1))).bind fun (t2, σ3) => some (t2, σ3))
def X10_lean_J66 (rec23 : Int32 × Wd → Option (Int32 × Wd)) (y1 : Int32) (ς : Wd) : Option (Int32 × Wd) :=
  rec23 (y1 + 1, ς)
def X10_lean_B23 (kx23 : Wd → Option (Int32 × Wd)) (rec23 : Int32 × Wd → Option (Int32 × Wd)) : Int32 × Wd → Option (Int32 × Wd)
  | (x1, σ) => (if (σ 2 1) ≤ x1 then kx23 σ else ((X10_isIdle σ x1).bind fun t5 => (if t5 = 0 then ((X4_at σ 2 x1).bind fun t8 => ((X4_append σ 8 t8).bind fun σ9 => X10_lean_J66 rec23 x1 σ9)) else X10_lean_J66 rec23 x1 σ)))
def X10_lean (σ : Wd) : Option (Int32 × Wd) :=
  ((X7_copy σ 7 1).bind fun σ1 => (lp (X10_lean_B23 X10_lean_T72) FU (0, X4_clear σ1 8)))
set_option maxRecDepth 100000 in
set_option maxHeartbeats 4000000 in
theorem m_X10_lean {E : JE} (hE : kOk 120 E) (σ : Wd) {res : Int32 × Wd} (hT : X10_lean σ = some res) : kMt E yX10_lean mX10_lean rmX10_lean [.inr 0] σ (kQi res.1 res.2) := by
  refine kMt_of (by decide +kernel) rfl (Nat.le_of_ble_eq_true rfl) ?_
  generalize hQ : (kQi res.1 res.2) = Q
  show KJ E mX10_lean rmX10_lean 0 [some (.inr 0)] [] σ Q
  unfold X10_lean at hT
  refine kj_aload_n dX10_lean_0 (pc' := 1) rfl rfl rfl ?_
  refine kj_getR f_RX10_16 rfl (Nat.lt_of_lt_of_le (Nat.le_of_ble_eq_true rfl : 0 < 120) hE.1) (hE.2 _ _) (q := 7) rfl dX10_lean_1 (pc' := 4) rfl ?_
  refine kj_aload_n dX10_lean_4 (pc' := 5) rfl rfl rfl ?_
  refine kj_getR f_RX10_10 rfl (Nat.lt_of_lt_of_le (Nat.le_of_ble_eq_true rfl : 0 < 120) hE.1) (hE.2 _ _) (q := 1) rfl dX10_lean_5 (pc' := 8) rfl ?_
  obtain ⟨σ1, hσ1, hT⟩ := bind_some' hT
  refine kcVv (as := [.inr 1]) (st := []) l_RX10_120 (m_X7_copy hE rfl rfl σ hσ1) rfl (Nat.lt_of_lt_of_le (Nat.le_of_ble_eq_true rfl : 7 < 120) hE.1) rfl ⟨⟨rfl, rfl⟩, Nat.le_of_ble_eq_true rfl, Nat.le_of_ble_eq_true rfl⟩ (Nat.le_of_ble_eq_true rfl) dX10_lean_8 (pc' := 11) rfl ?_
  refine kj_aload_n dX10_lean_11 (pc' := 12) rfl rfl rfl ?_
  refine kj_getR f_RX10_16 rfl (Nat.lt_of_lt_of_le (Nat.le_of_ble_eq_true rfl : 0 < 120) hE.1) (hE.2 _ _) (q := 7) rfl dX10_lean_12 (pc' := 15) rfl ?_
  refine kj_getR f_RX10_125 rfl (Nat.lt_of_lt_of_le (Nat.le_of_ble_eq_true rfl : 7 < 120) hE.1) (hE.2 _ _) (q := 8) rfl dX10_lean_15 (pc' := 18) rfl ?_
  refine kcVv (as := []) (st := []) l_RX10_111 (m_X4_clear hE rfl σ1 rfl) rfl (Nat.lt_of_lt_of_le (Nat.le_of_ble_eq_true rfl : 8 < 120) hE.1) rfl ⟨⟨rfl, rfl⟩, Nat.le_of_ble_eq_true rfl, Nat.le_of_ble_eq_true rfl⟩ (Nat.le_of_ble_eq_true rfl) dX10_lean_18 (pc' := 21) rfl ?_
  refine kj_iconst dX10_lean_21 (pc' := 22) rfl kc_0 ?_
  refine kj_istore_n dX10_lean_22 (pc' := 23) rfl rfl (Nat.le_of_ble_eq_true rfl) (ls' := [some (.inr 0), some (.inl 0)]) rfl ?_
  have hX23 : ∀ σ, X10_lean_T72 σ = some res → KJ E mX10_lean rmX10_lean 72 [some (.inr 0)] [] σ Q := by
    intro σ hT
    unfold X10_lean_T72 at hT
    refine kj_aload_n dX10_lean_72 (pc' := 73) rfl rfl rfl ?_
    refine kj_aload_n dX10_lean_73 (pc' := 74) rfl rfl rfl ?_
    refine kj_getR f_RX10_10 rfl (Nat.lt_of_lt_of_le (Nat.le_of_ble_eq_true rfl : 0 < 120) hE.1) (hE.2 _ _) (q := 1) rfl dX10_lean_74 (pc' := 77) rfl ?_
    refine kj_getR f_RX10_125 rfl (Nat.lt_of_lt_of_le (Nat.le_of_ble_eq_true rfl : 1 < 120) hE.1) (hE.2 _ _) (q := 2) rfl dX10_lean_77 (pc' := 80) rfl ?_
    refine kj_getI f_RX10_100 rfl (Nat.lt_of_lt_of_le (Nat.le_of_ble_eq_true rfl : 2 < 120) hE.1) dX10_lean_80 (pc' := 83) rfl ?_
    refine kj_aload_n dX10_lean_83 (pc' := 84) rfl rfl rfl ?_
    refine kj_getR f_RX10_16 rfl (Nat.lt_of_lt_of_le (Nat.le_of_ble_eq_true rfl : 0 < 120) hE.1) (hE.2 _ _) (q := 7) rfl dX10_lean_84 (pc' := 87) rfl ?_
    refine kj_getR f_RX10_125 rfl (Nat.lt_of_lt_of_le (Nat.le_of_ble_eq_true rfl : 7 < 120) hE.1) (hE.2 _ _) (q := 8) rfl dX10_lean_87 (pc' := 90) rfl ?_
    refine kj_getI f_RX10_100 rfl (Nat.lt_of_lt_of_le (Nat.le_of_ble_eq_true rfl : 8 < 120) hE.1) dX10_lean_90 (pc' := 93) rfl ?_
    refine kj_isub dX10_lean_93 (pc' := 94) rfl ?_
    obtain ⟨t2, ht2, hT⟩ := bind_some' hT
    obtain ⟨t2, σ3⟩ := t2
    dsimp only at hT
    refine kcVi (as := [.inl ((σ 2 1) - (σ 8 1))]) (st := []) l_RX10_168 (m_X10_settleChanged hE σ ((σ 2 1) - (σ 8 1)) ht2) rfl (Nat.lt_of_lt_of_le (Nat.le_of_ble_eq_true rfl : 0 < 120) hE.1) rfl ⟨⟨rfl, rfl⟩, Nat.le_of_ble_eq_true rfl, Nat.le_of_ble_eq_true rfl⟩ (Nat.le_of_ble_eq_true rfl) dX10_lean_94 (pc' := 97) rfl ?_
    have hR := Option.some.inj hT
    subst hR
    exact kj_iret rfl dX10_lean_97 (by subst hQ; exact ⟨rfl, rfl⟩)
  refine lp_ind (P := fun s => KJ E mX10_lean rmX10_lean 23 [some (.inr 0), some (.inl s.1)] [] s.2 Q) (fun rec23 s ih23 hT => ?_) FU (0, X4_clear σ1 8) hT
  obtain ⟨x1, σ⟩ := s
  show KJ E mX10_lean rmX10_lean 23 [some (.inr 0), some (.inl x1)] [] σ Q
  rw [X10_lean_B23] at hT
  have hJ66_23 : ∀ y1 ς, X10_lean_J66 rec23 y1 ς = some res → KJ E mX10_lean rmX10_lean 66 [some (.inr 0), some (.inl y1)] [] ς Q := by
    intro y1 ς hT
    unfold X10_lean_J66 at hT
    refine kj_iinc dX10_lean_66 (pc' := 69) rfl rfl (congrArg (_ + ·) kc_1) (Nat.le_of_ble_eq_true rfl) (ls' := [some (.inr 0), some (.inl (y1 + 1))]) rfl ?_
    refine kj_goto dX10_lean_69 (pc' := 23) rfl ?_
    exact ih23 (y1 + 1, ς) hT
  refine kj_iload_n dX10_lean_23 (pc' := 24) rfl rfl rfl ?_
  refine kj_aload_n dX10_lean_24 (pc' := 25) rfl rfl rfl ?_
  refine kj_getR f_RX10_10 rfl (Nat.lt_of_lt_of_le (Nat.le_of_ble_eq_true rfl : 0 < 120) hE.1) (hE.2 _ _) (q := 1) rfl dX10_lean_25 (pc' := 28) rfl ?_
  refine kj_getR f_RX10_125 rfl (Nat.lt_of_lt_of_le (Nat.le_of_ble_eq_true rfl : 1 < 120) hE.1) (hE.2 _ _) (q := 2) rfl dX10_lean_28 (pc' := 31) rfl ?_
  refine kj_getI f_RX10_100 rfl (Nat.lt_of_lt_of_le (Nat.le_of_ble_eq_true rfl : 2 < 120) hE.1) dX10_lean_31 (pc' := 34) rfl ?_
  refine kj_icmp_ge dX10_lean_34 (tgt := 72) rfl (pc' := 37) rfl (fun c4 => ?_) (fun c4 => ?_)
  · rw [if_pos c4] at hT
    refine kj_keep [true] (ls' := [some (.inr 0)]) rfl ?_
    exact hX23 σ hT
  · rw [if_neg c4] at hT
    refine kj_aload_n dX10_lean_37 (pc' := 38) rfl rfl rfl ?_
    refine kj_iload_n dX10_lean_38 (pc' := 39) rfl rfl rfl ?_
    obtain ⟨t5, ht5, hT⟩ := bind_some' hT
    refine kcVz (as := [.inl x1]) (st := []) l_RX10_181 (m_X10_isIdle hE σ x1 ht5) rfl (Nat.lt_of_lt_of_le (Nat.le_of_ble_eq_true rfl : 0 < 120) hE.1) rfl ⟨⟨rfl, rfl⟩, Nat.le_of_ble_eq_true rfl, Nat.le_of_ble_eq_true rfl⟩ (Nat.le_of_ble_eq_true rfl) dX10_lean_39 (pc' := 42) rfl (fun z6 => ?_)
    refine kj_if_ne dX10_lean_42 (tgt := 66) rfl (pc' := 45) rfl (fun c7 => ?_) (fun c7 => ?_)
    · rw [if_neg c7] at hT
      exact hJ66_23 x1 σ hT
    · rw [if_pos c7] at hT
      refine kj_aload_n dX10_lean_45 (pc' := 46) rfl rfl rfl ?_
      refine kj_getR f_RX10_16 rfl (Nat.lt_of_lt_of_le (Nat.le_of_ble_eq_true rfl : 0 < 120) hE.1) (hE.2 _ _) (q := 7) rfl dX10_lean_46 (pc' := 49) rfl ?_
      refine kj_getR f_RX10_125 rfl (Nat.lt_of_lt_of_le (Nat.le_of_ble_eq_true rfl : 7 < 120) hE.1) (hE.2 _ _) (q := 8) rfl dX10_lean_49 (pc' := 52) rfl ?_
      refine kj_aload_n dX10_lean_52 (pc' := 53) rfl rfl rfl ?_
      refine kj_getR f_RX10_10 rfl (Nat.lt_of_lt_of_le (Nat.le_of_ble_eq_true rfl : 0 < 120) hE.1) (hE.2 _ _) (q := 1) rfl dX10_lean_53 (pc' := 56) rfl ?_
      refine kj_getR f_RX10_125 rfl (Nat.lt_of_lt_of_le (Nat.le_of_ble_eq_true rfl : 1 < 120) hE.1) (hE.2 _ _) (q := 2) rfl dX10_lean_56 (pc' := 59) rfl ?_
      refine kj_iload_n dX10_lean_59 (pc' := 60) rfl rfl rfl ?_
      obtain ⟨t8, ht8, hT⟩ := bind_some' hT
      refine kcVi (as := [.inl x1]) (st := [.inr 8]) l_RX10_148 (m_X4_at hE rfl σ x1 ht8) rfl (Nat.lt_of_lt_of_le (Nat.le_of_ble_eq_true rfl : 2 < 120) hE.1) rfl ⟨⟨rfl, rfl⟩, Nat.le_of_ble_eq_true rfl, Nat.le_of_ble_eq_true rfl⟩ (Nat.le_of_ble_eq_true rfl) dX10_lean_60 (pc' := 63) rfl ?_
      obtain ⟨σ9, hσ9, hT⟩ := bind_some' hT
      refine kcVv (as := [.inl t8]) (st := []) l_RX10_136 (m_X4_append hE rfl σ t8 hσ9) rfl (Nat.lt_of_lt_of_le (Nat.le_of_ble_eq_true rfl : 8 < 120) hE.1) rfl ⟨⟨rfl, rfl⟩, Nat.le_of_ble_eq_true rfl, Nat.le_of_ble_eq_true rfl⟩ (Nat.le_of_ble_eq_true rfl) dX10_lean_63 (pc' := 66) rfl ?_
      exact hJ66_23 x1 σ9 hT
def X10_replaceGenerators (σ : Wd) (q1 : Nat) : Option (Int32 × Wd) :=
  (if 12 < (σ q1 1) then some ((-1), σ) else ((X4_isSame σ 2 q1).bind fun t2 => (if t2 = 0 then ((X7_copy σ 7 1).bind fun σ5 => ((X4_copy σ5 8 q1).bind fun σ6 => ((X10_settle σ6).bind fun σ7 => some (σ7 2 1, σ7)))) else some ((-1), σ))))
set_option maxRecDepth 100000 in
set_option maxHeartbeats 4000000 in
theorem m_X10_replaceGenerators {E : JE} (hE : kOk 120 E) {q1 : Nat} (hq1 : kKd q1 = 4) (σ : Wd) {res : Int32 × Wd} (hT : X10_replaceGenerators σ q1 = some res) : kMt E yX10_replaceGenerators mX10_replaceGenerators rmX10_replaceGenerators [.inr 0, .inr q1] σ (kQi res.1 res.2) := by
  refine kMt_of (by decide +kernel) rfl (Nat.le_of_ble_eq_true rfl) ?_
  generalize hQ : (kQi res.1 res.2) = Q
  show KJ E mX10_replaceGenerators rmX10_replaceGenerators 0 [some (.inr 0), some (.inr q1)] [] σ Q
  unfold X10_replaceGenerators at hT
  refine kj_aload_n dX10_replaceGenerators_0 (pc' := 1) rfl rfl rfl ?_
  refine kj_getI f_RX10_100 hq1 (Nat.lt_of_lt_of_le (kn4_0 hq1) hE.1) dX10_replaceGenerators_1 (pc' := 4) rfl ?_
  refine kj_bipush dX10_replaceGenerators_4 (pc' := 6) rfl kb_12 ?_
  refine kj_icmp_gt dX10_replaceGenerators_6 (tgt := 23) rfl (pc' := 9) rfl (fun c1 => ?_) (fun c1 => ?_)
  · rw [if_pos c1] at hT
    refine kj_iconst dX10_replaceGenerators_23 (pc' := 24) rfl kc_m1 ?_
    have hR := Option.some.inj hT
    subst hR
    exact kj_iret rfl dX10_replaceGenerators_24 (by subst hQ; exact ⟨rfl, rfl⟩)
  · rw [if_neg c1] at hT
    refine kj_aload_n dX10_replaceGenerators_9 (pc' := 10) rfl rfl rfl ?_
    refine kj_getR f_RX10_10 rfl (Nat.lt_of_lt_of_le (Nat.le_of_ble_eq_true rfl : 0 < 120) hE.1) (hE.2 _ _) (q := 1) rfl dX10_replaceGenerators_10 (pc' := 13) rfl ?_
    refine kj_getR f_RX10_125 rfl (Nat.lt_of_lt_of_le (Nat.le_of_ble_eq_true rfl : 1 < 120) hE.1) (hE.2 _ _) (q := 2) rfl dX10_replaceGenerators_13 (pc' := 16) rfl ?_
    refine kj_aload_n dX10_replaceGenerators_16 (pc' := 17) rfl rfl rfl ?_
    obtain ⟨t2, ht2, hT⟩ := bind_some' hT
    refine kcVz (as := [.inr q1]) (st := []) l_RX10_360 (m_X4_isSame hE rfl hq1 σ ht2) rfl (Nat.lt_of_lt_of_le (Nat.le_of_ble_eq_true rfl : 2 < 120) hE.1) rfl ⟨⟨rfl, rfl⟩, Nat.le_of_ble_eq_true rfl, Nat.le_of_ble_eq_true rfl⟩ (Nat.le_of_ble_eq_true rfl) dX10_replaceGenerators_17 (pc' := 20) rfl (fun z3 => ?_)
    refine kj_if_eq dX10_replaceGenerators_20 (tgt := 25) rfl (pc' := 23) rfl (fun c4 => ?_) (fun c4 => ?_)
    · rw [if_pos c4] at hT
      refine kj_aload_n dX10_replaceGenerators_25 (pc' := 26) rfl rfl rfl ?_
      refine kj_getR f_RX10_16 rfl (Nat.lt_of_lt_of_le (Nat.le_of_ble_eq_true rfl : 0 < 120) hE.1) (hE.2 _ _) (q := 7) rfl dX10_replaceGenerators_26 (pc' := 29) rfl ?_
      refine kj_aload_n dX10_replaceGenerators_29 (pc' := 30) rfl rfl rfl ?_
      refine kj_getR f_RX10_10 rfl (Nat.lt_of_lt_of_le (Nat.le_of_ble_eq_true rfl : 0 < 120) hE.1) (hE.2 _ _) (q := 1) rfl dX10_replaceGenerators_30 (pc' := 33) rfl ?_
      obtain ⟨σ5, hσ5, hT⟩ := bind_some' hT
      refine kcVv (as := [.inr 1]) (st := []) l_RX10_120 (m_X7_copy hE rfl rfl σ hσ5) rfl (Nat.lt_of_lt_of_le (Nat.le_of_ble_eq_true rfl : 7 < 120) hE.1) rfl ⟨⟨rfl, rfl⟩, Nat.le_of_ble_eq_true rfl, Nat.le_of_ble_eq_true rfl⟩ (Nat.le_of_ble_eq_true rfl) dX10_replaceGenerators_33 (pc' := 36) rfl ?_
      refine kj_aload_n dX10_replaceGenerators_36 (pc' := 37) rfl rfl rfl ?_
      refine kj_getR f_RX10_16 rfl (Nat.lt_of_lt_of_le (Nat.le_of_ble_eq_true rfl : 0 < 120) hE.1) (hE.2 _ _) (q := 7) rfl dX10_replaceGenerators_37 (pc' := 40) rfl ?_
      refine kj_getR f_RX10_125 rfl (Nat.lt_of_lt_of_le (Nat.le_of_ble_eq_true rfl : 7 < 120) hE.1) (hE.2 _ _) (q := 8) rfl dX10_replaceGenerators_40 (pc' := 43) rfl ?_
      refine kj_aload_n dX10_replaceGenerators_43 (pc' := 44) rfl rfl rfl ?_
      obtain ⟨σ6, hσ6, hT⟩ := bind_some' hT
      refine kcVv (as := [.inr q1]) (st := []) l_RX10_364 (m_X4_copy hE rfl hq1 σ5 hσ6) rfl (Nat.lt_of_lt_of_le (Nat.le_of_ble_eq_true rfl : 8 < 120) hE.1) rfl ⟨⟨rfl, rfl⟩, Nat.le_of_ble_eq_true rfl, Nat.le_of_ble_eq_true rfl⟩ (Nat.le_of_ble_eq_true rfl) dX10_replaceGenerators_44 (pc' := 47) rfl ?_
      refine kj_aload_n dX10_replaceGenerators_47 (pc' := 48) rfl rfl rfl ?_
      obtain ⟨σ7, hσ7, hT⟩ := bind_some' hT
      refine kcVv (as := []) (st := []) l_RX10_139 (m_X10_settle hE σ6 hσ7) rfl (Nat.lt_of_lt_of_le (Nat.le_of_ble_eq_true rfl : 0 < 120) hE.1) rfl ⟨⟨rfl, rfl⟩, Nat.le_of_ble_eq_true rfl, Nat.le_of_ble_eq_true rfl⟩ (Nat.le_of_ble_eq_true rfl) dX10_replaceGenerators_48 (pc' := 51) rfl ?_
      refine kj_aload_n dX10_replaceGenerators_51 (pc' := 52) rfl rfl rfl ?_
      refine kj_getR f_RX10_10 rfl (Nat.lt_of_lt_of_le (Nat.le_of_ble_eq_true rfl : 0 < 120) hE.1) (hE.2 _ _) (q := 1) rfl dX10_replaceGenerators_52 (pc' := 55) rfl ?_
      refine kj_getR f_RX10_125 rfl (Nat.lt_of_lt_of_le (Nat.le_of_ble_eq_true rfl : 1 < 120) hE.1) (hE.2 _ _) (q := 2) rfl dX10_replaceGenerators_55 (pc' := 58) rfl ?_
      refine kj_getI f_RX10_100 rfl (Nat.lt_of_lt_of_le (Nat.le_of_ble_eq_true rfl : 2 < 120) hE.1) dX10_replaceGenerators_58 (pc' := 61) rfl ?_
      have hR := Option.some.inj hT
      subst hR
      exact kj_iret rfl dX10_replaceGenerators_61 (by subst hQ; exact ⟨rfl, rfl⟩)
    · rw [if_neg c4] at hT
      refine kj_iconst dX10_replaceGenerators_23 (pc' := 24) rfl kc_m1 ?_
      have hR := Option.some.inj hT
      subst hR
      exact kj_iret rfl dX10_replaceGenerators_24 (by subst hQ; exact ⟨rfl, rfl⟩)
def X10_basis (σ : Wd) : Option (Int32 × Wd) :=
  ((X10_replaceGenerators σ 97).bind fun (t1, σ2) => some (t1, σ2))
set_option maxRecDepth 100000 in
set_option maxHeartbeats 4000000 in
theorem m_X10_basis {E : JE} (hE : kOk 120 E) (σ : Wd) {res : Int32 × Wd} (hT : X10_basis σ = some res) : kMt E yX10_basis mX10_basis rmX10_basis [.inr 0] σ (kQi res.1 res.2) := by
  refine kMt_of (by decide +kernel) rfl (Nat.le_of_ble_eq_true rfl) ?_
  generalize hQ : (kQi res.1 res.2) = Q
  show KJ E mX10_basis rmX10_basis 0 [some (.inr 0)] [] σ Q
  unfold X10_basis at hT
  refine kj_aload_n dX10_basis_0 (pc' := 1) rfl rfl rfl ?_
  refine kj_aload_n dX10_basis_1 (pc' := 2) rfl rfl rfl ?_
  refine kj_getR f_RX10_54 rfl (Nat.lt_of_lt_of_le (Nat.le_of_ble_eq_true rfl : 0 < 120) hE.1) (hE.2 _ _) (q := 93) rfl dX10_basis_2 (pc' := 5) rfl ?_
  refine kj_getR f_RX10_184 rfl (Nat.lt_of_lt_of_le (Nat.le_of_ble_eq_true rfl : 93 < 120) hE.1) (hE.2 _ _) (q := 97) rfl dX10_basis_5 (pc' := 8) rfl ?_
  obtain ⟨t1, ht1, hT⟩ := bind_some' hT
  obtain ⟨t1, σ2⟩ := t1
  dsimp only at hT
  refine kcVi (as := [.inr 97]) (st := []) l_RX10_187 (m_X10_replaceGenerators hE rfl σ ht1) rfl (Nat.lt_of_lt_of_le (Nat.le_of_ble_eq_true rfl : 0 < 120) hE.1) rfl ⟨⟨rfl, rfl⟩, Nat.le_of_ble_eq_true rfl, Nat.le_of_ble_eq_true rfl⟩ (Nat.le_of_ble_eq_true rfl) dX10_basis_8 (pc' := 11) rfl ?_
  have hR := Option.some.inj hT
  subst hR
  exact kj_iret rfl dX10_basis_11 (by subst hQ; exact ⟨rfl, rfl⟩)
def X10_list (σ : Wd) (x1 : Int32) : Option (Int32 × Wd) :=
  (if (X10_isFilledSet σ x1) = 0 then some ((-1), σ) else ((X4_find σ 4 x1).bind fun t3 => (if t3 = (-1) then (if (σ 4 1) < 20 then ((X7_copy σ 7 1).bind fun σ6 => ((X4_append σ6 10 x1).bind fun σ7 => ((X10_settle σ7).bind fun σ8 => some (σ8 4 1, σ8)))) else some ((-1), σ)) else some ((-1), σ))))
set_option maxRecDepth 100000 in
set_option maxHeartbeats 4000000 in
theorem m_X10_list {E : JE} (hE : kOk 120 E) (σ : Wd) (x1 : Int32) {res : Int32 × Wd} (hT : X10_list σ x1 = some res) : kMt E yX10_list mX10_list rmX10_list [.inr 0, .inl x1] σ (kQi res.1 res.2) := by
  refine kMt_of (by decide +kernel) rfl (Nat.le_of_ble_eq_true rfl) ?_
  generalize hQ : (kQi res.1 res.2) = Q
  show KJ E mX10_list rmX10_list 0 [some (.inr 0), some (.inl x1)] [] σ Q
  unfold X10_list at hT
  refine kj_aload_n dX10_list_0 (pc' := 1) rfl rfl rfl ?_
  refine kj_iload_n dX10_list_1 (pc' := 2) rfl rfl rfl ?_
  refine kcVz (as := [.inl x1]) (st := []) l_RX10_128 (m_X10_isFilledSet hE σ x1 rfl) rfl (Nat.lt_of_lt_of_le (Nat.le_of_ble_eq_true rfl : 0 < 120) hE.1) rfl ⟨⟨rfl, rfl⟩, Nat.le_of_ble_eq_true rfl, Nat.le_of_ble_eq_true rfl⟩ (Nat.le_of_ble_eq_true rfl) dX10_list_2 (pc' := 5) rfl (fun z1 => ?_)
  refine kj_if_eq dX10_list_5 (tgt := 38) rfl (pc' := 8) rfl (fun c2 => ?_) (fun c2 => ?_)
  · rw [if_pos c2] at hT
    refine kj_iconst dX10_list_38 (pc' := 39) rfl kc_m1 ?_
    have hR := Option.some.inj hT
    subst hR
    exact kj_iret rfl dX10_list_39 (by subst hQ; exact ⟨rfl, rfl⟩)
  · rw [if_neg c2] at hT
    refine kj_aload_n dX10_list_8 (pc' := 9) rfl rfl rfl ?_
    refine kj_getR f_RX10_10 rfl (Nat.lt_of_lt_of_le (Nat.le_of_ble_eq_true rfl : 0 < 120) hE.1) (hE.2 _ _) (q := 1) rfl dX10_list_9 (pc' := 12) rfl ?_
    refine kj_getR f_RX10_114 rfl (Nat.lt_of_lt_of_le (Nat.le_of_ble_eq_true rfl : 1 < 120) hE.1) (hE.2 _ _) (q := 4) rfl dX10_list_12 (pc' := 15) rfl ?_
    refine kj_iload_n dX10_list_15 (pc' := 16) rfl rfl rfl ?_
    obtain ⟨t3, ht3, hT⟩ := bind_some' hT
    refine kcVi (as := [.inl x1]) (st := []) l_RX10_132 (m_X4_find hE rfl σ x1 ht3) rfl (Nat.lt_of_lt_of_le (Nat.le_of_ble_eq_true rfl : 4 < 120) hE.1) rfl ⟨⟨rfl, rfl⟩, Nat.le_of_ble_eq_true rfl, Nat.le_of_ble_eq_true rfl⟩ (Nat.le_of_ble_eq_true rfl) dX10_list_16 (pc' := 19) rfl ?_
    refine kj_iconst dX10_list_19 (pc' := 20) rfl kc_m1 ?_
    refine kj_icmp_ne dX10_list_20 (tgt := 38) rfl (pc' := 23) rfl (fun c4 => ?_) (fun c4 => ?_)
    · rw [if_neg c4] at hT
      refine kj_iconst dX10_list_38 (pc' := 39) rfl kc_m1 ?_
      have hR := Option.some.inj hT
      subst hR
      exact kj_iret rfl dX10_list_39 (by subst hQ; exact ⟨rfl, rfl⟩)
    · rw [if_pos c4] at hT
      refine kj_aload_n dX10_list_23 (pc' := 24) rfl rfl rfl ?_
      refine kj_getR f_RX10_10 rfl (Nat.lt_of_lt_of_le (Nat.le_of_ble_eq_true rfl : 0 < 120) hE.1) (hE.2 _ _) (q := 1) rfl dX10_list_24 (pc' := 27) rfl ?_
      refine kj_getR f_RX10_114 rfl (Nat.lt_of_lt_of_le (Nat.le_of_ble_eq_true rfl : 1 < 120) hE.1) (hE.2 _ _) (q := 4) rfl dX10_list_27 (pc' := 30) rfl ?_
      refine kj_getI f_RX10_100 rfl (Nat.lt_of_lt_of_le (Nat.le_of_ble_eq_true rfl : 4 < 120) hE.1) dX10_list_30 (pc' := 33) rfl ?_
      refine kj_bipush dX10_list_33 (pc' := 35) rfl kb_20 ?_
      refine kj_icmp_lt dX10_list_35 (tgt := 40) rfl (pc' := 38) rfl (fun c5 => ?_) (fun c5 => ?_)
      · rw [if_pos c5] at hT
        refine kj_aload_n dX10_list_40 (pc' := 41) rfl rfl rfl ?_
        refine kj_getR f_RX10_16 rfl (Nat.lt_of_lt_of_le (Nat.le_of_ble_eq_true rfl : 0 < 120) hE.1) (hE.2 _ _) (q := 7) rfl dX10_list_41 (pc' := 44) rfl ?_
        refine kj_aload_n dX10_list_44 (pc' := 45) rfl rfl rfl ?_
        refine kj_getR f_RX10_10 rfl (Nat.lt_of_lt_of_le (Nat.le_of_ble_eq_true rfl : 0 < 120) hE.1) (hE.2 _ _) (q := 1) rfl dX10_list_45 (pc' := 48) rfl ?_
        obtain ⟨σ6, hσ6, hT⟩ := bind_some' hT
        refine kcVv (as := [.inr 1]) (st := []) l_RX10_120 (m_X7_copy hE rfl rfl σ hσ6) rfl (Nat.lt_of_lt_of_le (Nat.le_of_ble_eq_true rfl : 7 < 120) hE.1) rfl ⟨⟨rfl, rfl⟩, Nat.le_of_ble_eq_true rfl, Nat.le_of_ble_eq_true rfl⟩ (Nat.le_of_ble_eq_true rfl) dX10_list_48 (pc' := 51) rfl ?_
        refine kj_aload_n dX10_list_51 (pc' := 52) rfl rfl rfl ?_
        refine kj_getR f_RX10_16 rfl (Nat.lt_of_lt_of_le (Nat.le_of_ble_eq_true rfl : 0 < 120) hE.1) (hE.2 _ _) (q := 7) rfl dX10_list_52 (pc' := 55) rfl ?_
        refine kj_getR f_RX10_114 rfl (Nat.lt_of_lt_of_le (Nat.le_of_ble_eq_true rfl : 7 < 120) hE.1) (hE.2 _ _) (q := 10) rfl dX10_list_55 (pc' := 58) rfl ?_
        refine kj_iload_n dX10_list_58 (pc' := 59) rfl rfl rfl ?_
        obtain ⟨σ7, hσ7, hT⟩ := bind_some' hT
        refine kcVv (as := [.inl x1]) (st := []) l_RX10_136 (m_X4_append hE rfl σ6 x1 hσ7) rfl (Nat.lt_of_lt_of_le (Nat.le_of_ble_eq_true rfl : 10 < 120) hE.1) rfl ⟨⟨rfl, rfl⟩, Nat.le_of_ble_eq_true rfl, Nat.le_of_ble_eq_true rfl⟩ (Nat.le_of_ble_eq_true rfl) dX10_list_59 (pc' := 62) rfl ?_
        refine kj_aload_n dX10_list_62 (pc' := 63) rfl rfl rfl ?_
        obtain ⟨σ8, hσ8, hT⟩ := bind_some' hT
        refine kcVv (as := []) (st := []) l_RX10_139 (m_X10_settle hE σ7 hσ8) rfl (Nat.lt_of_lt_of_le (Nat.le_of_ble_eq_true rfl : 0 < 120) hE.1) rfl ⟨⟨rfl, rfl⟩, Nat.le_of_ble_eq_true rfl, Nat.le_of_ble_eq_true rfl⟩ (Nat.le_of_ble_eq_true rfl) dX10_list_63 (pc' := 66) rfl ?_
        refine kj_aload_n dX10_list_66 (pc' := 67) rfl rfl rfl ?_
        refine kj_getR f_RX10_10 rfl (Nat.lt_of_lt_of_le (Nat.le_of_ble_eq_true rfl : 0 < 120) hE.1) (hE.2 _ _) (q := 1) rfl dX10_list_67 (pc' := 70) rfl ?_
        refine kj_getR f_RX10_114 rfl (Nat.lt_of_lt_of_le (Nat.le_of_ble_eq_true rfl : 1 < 120) hE.1) (hE.2 _ _) (q := 4) rfl dX10_list_70 (pc' := 73) rfl ?_
        refine kj_getI f_RX10_100 rfl (Nat.lt_of_lt_of_le (Nat.le_of_ble_eq_true rfl : 4 < 120) hE.1) dX10_list_73 (pc' := 76) rfl ?_
        have hR := Option.some.inj hT
        subst hR
        exact kj_iret rfl dX10_list_76 (by subst hQ; exact ⟨rfl, rfl⟩)
      · rw [if_neg c5] at hT
        refine kj_iconst dX10_list_38 (pc' := 39) rfl kc_m1 ?_
        have hR := Option.some.inj hT
        subst hR
        exact kj_iret rfl dX10_list_39 (by subst hQ; exact ⟨rfl, rfl⟩)
def X10_strike (σ : Wd) (x1 : Int32) : Option (Int32 × Wd) :=
  (if x1 < 0 then some ((-1), σ) else (if x1 < (σ 4 1) then ((X7_copy σ 7 1).bind fun σ3 => ((X4_cutOut σ3 10 x1).bind fun σ4 => ((X10_settle σ4).bind fun σ5 => some (σ5 4 1, σ5)))) else some ((-1), σ)))
set_option maxRecDepth 100000 in
set_option maxHeartbeats 4000000 in
theorem m_X10_strike {E : JE} (hE : kOk 120 E) (σ : Wd) (x1 : Int32) {res : Int32 × Wd} (hT : X10_strike σ x1 = some res) : kMt E yX10_strike mX10_strike rmX10_strike [.inr 0, .inl x1] σ (kQi res.1 res.2) := by
  refine kMt_of (by decide +kernel) rfl (Nat.le_of_ble_eq_true rfl) ?_
  generalize hQ : (kQi res.1 res.2) = Q
  show KJ E mX10_strike rmX10_strike 0 [some (.inr 0), some (.inl x1)] [] σ Q
  unfold X10_strike at hT
  refine kj_iload_n dX10_strike_0 (pc' := 1) rfl rfl rfl ?_
  refine kj_if_lt dX10_strike_1 (tgt := 18) rfl (pc' := 4) rfl (fun c1 => ?_) (fun c1 => ?_)
  · rw [if_pos c1] at hT
    refine kj_iconst dX10_strike_18 (pc' := 19) rfl kc_m1 ?_
    have hR := Option.some.inj hT
    subst hR
    exact kj_iret rfl dX10_strike_19 (by subst hQ; exact ⟨rfl, rfl⟩)
  · rw [if_neg c1] at hT
    refine kj_iload_n dX10_strike_4 (pc' := 5) rfl rfl rfl ?_
    refine kj_aload_n dX10_strike_5 (pc' := 6) rfl rfl rfl ?_
    refine kj_getR f_RX10_10 rfl (Nat.lt_of_lt_of_le (Nat.le_of_ble_eq_true rfl : 0 < 120) hE.1) (hE.2 _ _) (q := 1) rfl dX10_strike_6 (pc' := 9) rfl ?_
    refine kj_getR f_RX10_114 rfl (Nat.lt_of_lt_of_le (Nat.le_of_ble_eq_true rfl : 1 < 120) hE.1) (hE.2 _ _) (q := 4) rfl dX10_strike_9 (pc' := 12) rfl ?_
    refine kj_getI f_RX10_100 rfl (Nat.lt_of_lt_of_le (Nat.le_of_ble_eq_true rfl : 4 < 120) hE.1) dX10_strike_12 (pc' := 15) rfl ?_
    refine kj_icmp_lt dX10_strike_15 (tgt := 20) rfl (pc' := 18) rfl (fun c2 => ?_) (fun c2 => ?_)
    · rw [if_pos c2] at hT
      refine kj_aload_n dX10_strike_20 (pc' := 21) rfl rfl rfl ?_
      refine kj_getR f_RX10_16 rfl (Nat.lt_of_lt_of_le (Nat.le_of_ble_eq_true rfl : 0 < 120) hE.1) (hE.2 _ _) (q := 7) rfl dX10_strike_21 (pc' := 24) rfl ?_
      refine kj_aload_n dX10_strike_24 (pc' := 25) rfl rfl rfl ?_
      refine kj_getR f_RX10_10 rfl (Nat.lt_of_lt_of_le (Nat.le_of_ble_eq_true rfl : 0 < 120) hE.1) (hE.2 _ _) (q := 1) rfl dX10_strike_25 (pc' := 28) rfl ?_
      obtain ⟨σ3, hσ3, hT⟩ := bind_some' hT
      refine kcVv (as := [.inr 1]) (st := []) l_RX10_120 (m_X7_copy hE rfl rfl σ hσ3) rfl (Nat.lt_of_lt_of_le (Nat.le_of_ble_eq_true rfl : 7 < 120) hE.1) rfl ⟨⟨rfl, rfl⟩, Nat.le_of_ble_eq_true rfl, Nat.le_of_ble_eq_true rfl⟩ (Nat.le_of_ble_eq_true rfl) dX10_strike_28 (pc' := 31) rfl ?_
      refine kj_aload_n dX10_strike_31 (pc' := 32) rfl rfl rfl ?_
      refine kj_getR f_RX10_16 rfl (Nat.lt_of_lt_of_le (Nat.le_of_ble_eq_true rfl : 0 < 120) hE.1) (hE.2 _ _) (q := 7) rfl dX10_strike_32 (pc' := 35) rfl ?_
      refine kj_getR f_RX10_114 rfl (Nat.lt_of_lt_of_le (Nat.le_of_ble_eq_true rfl : 7 < 120) hE.1) (hE.2 _ _) (q := 10) rfl dX10_strike_35 (pc' := 38) rfl ?_
      refine kj_iload_n dX10_strike_38 (pc' := 39) rfl rfl rfl ?_
      obtain ⟨σ4, hσ4, hT⟩ := bind_some' hT
      refine kcVv (as := [.inl x1]) (st := []) l_RX10_145 (m_X4_cutOut hE rfl σ3 x1 hσ4) rfl (Nat.lt_of_lt_of_le (Nat.le_of_ble_eq_true rfl : 10 < 120) hE.1) rfl ⟨⟨rfl, rfl⟩, Nat.le_of_ble_eq_true rfl, Nat.le_of_ble_eq_true rfl⟩ (Nat.le_of_ble_eq_true rfl) dX10_strike_39 (pc' := 42) rfl ?_
      refine kj_aload_n dX10_strike_42 (pc' := 43) rfl rfl rfl ?_
      obtain ⟨σ5, hσ5, hT⟩ := bind_some' hT
      refine kcVv (as := []) (st := []) l_RX10_139 (m_X10_settle hE σ4 hσ5) rfl (Nat.lt_of_lt_of_le (Nat.le_of_ble_eq_true rfl : 0 < 120) hE.1) rfl ⟨⟨rfl, rfl⟩, Nat.le_of_ble_eq_true rfl, Nat.le_of_ble_eq_true rfl⟩ (Nat.le_of_ble_eq_true rfl) dX10_strike_43 (pc' := 46) rfl ?_
      refine kj_aload_n dX10_strike_46 (pc' := 47) rfl rfl rfl ?_
      refine kj_getR f_RX10_10 rfl (Nat.lt_of_lt_of_le (Nat.le_of_ble_eq_true rfl : 0 < 120) hE.1) (hE.2 _ _) (q := 1) rfl dX10_strike_47 (pc' := 50) rfl ?_
      refine kj_getR f_RX10_114 rfl (Nat.lt_of_lt_of_le (Nat.le_of_ble_eq_true rfl : 1 < 120) hE.1) (hE.2 _ _) (q := 4) rfl dX10_strike_50 (pc' := 53) rfl ?_
      refine kj_getI f_RX10_100 rfl (Nat.lt_of_lt_of_le (Nat.le_of_ble_eq_true rfl : 4 < 120) hE.1) dX10_strike_53 (pc' := 56) rfl ?_
      have hR := Option.some.inj hT
      subst hR
      exact kj_iret rfl dX10_strike_56 (by subst hQ; exact ⟨rfl, rfl⟩)
    · rw [if_neg c2] at hT
      refine kj_iconst dX10_strike_18 (pc' := 19) rfl kc_m1 ?_
      have hR := Option.some.inj hT
      subst hR
      exact kj_iret rfl dX10_strike_19 (by subst hQ; exact ⟨rfl, rfl⟩)
def X10_adopt (σ : Wd) : Option (Int32 × Wd) :=
  (if (σ 4 1) = 0 then some ((-1), σ) else ((X10_replaceGenerators σ 4).bind fun (t2, σ3) => some (t2, σ3)))
set_option maxRecDepth 100000 in
set_option maxHeartbeats 4000000 in
theorem m_X10_adopt {E : JE} (hE : kOk 120 E) (σ : Wd) {res : Int32 × Wd} (hT : X10_adopt σ = some res) : kMt E yX10_adopt mX10_adopt rmX10_adopt [.inr 0] σ (kQi res.1 res.2) := by
  refine kMt_of (by decide +kernel) rfl (Nat.le_of_ble_eq_true rfl) ?_
  generalize hQ : (kQi res.1 res.2) = Q
  show KJ E mX10_adopt rmX10_adopt 0 [some (.inr 0)] [] σ Q
  unfold X10_adopt at hT
  refine kj_aload_n dX10_adopt_0 (pc' := 1) rfl rfl rfl ?_
  refine kj_getR f_RX10_10 rfl (Nat.lt_of_lt_of_le (Nat.le_of_ble_eq_true rfl : 0 < 120) hE.1) (hE.2 _ _) (q := 1) rfl dX10_adopt_1 (pc' := 4) rfl ?_
  refine kj_getR f_RX10_114 rfl (Nat.lt_of_lt_of_le (Nat.le_of_ble_eq_true rfl : 1 < 120) hE.1) (hE.2 _ _) (q := 4) rfl dX10_adopt_4 (pc' := 7) rfl ?_
  refine kj_getI f_RX10_100 rfl (Nat.lt_of_lt_of_le (Nat.le_of_ble_eq_true rfl : 4 < 120) hE.1) dX10_adopt_7 (pc' := 10) rfl ?_
  refine kj_if_ne dX10_adopt_10 (tgt := 15) rfl (pc' := 13) rfl (fun c1 => ?_) (fun c1 => ?_)
  · rw [if_neg c1] at hT
    refine kj_aload_n dX10_adopt_15 (pc' := 16) rfl rfl rfl ?_
    refine kj_aload_n dX10_adopt_16 (pc' := 17) rfl rfl rfl ?_
    refine kj_getR f_RX10_10 rfl (Nat.lt_of_lt_of_le (Nat.le_of_ble_eq_true rfl : 0 < 120) hE.1) (hE.2 _ _) (q := 1) rfl dX10_adopt_17 (pc' := 20) rfl ?_
    refine kj_getR f_RX10_114 rfl (Nat.lt_of_lt_of_le (Nat.le_of_ble_eq_true rfl : 1 < 120) hE.1) (hE.2 _ _) (q := 4) rfl dX10_adopt_20 (pc' := 23) rfl ?_
    obtain ⟨t2, ht2, hT⟩ := bind_some' hT
    obtain ⟨t2, σ3⟩ := t2
    dsimp only at hT
    refine kcVi (as := [.inr 4]) (st := []) l_RX10_187 (m_X10_replaceGenerators hE rfl σ ht2) rfl (Nat.lt_of_lt_of_le (Nat.le_of_ble_eq_true rfl : 0 < 120) hE.1) rfl ⟨⟨rfl, rfl⟩, Nat.le_of_ble_eq_true rfl, Nat.le_of_ble_eq_true rfl⟩ (Nat.le_of_ble_eq_true rfl) dX10_adopt_23 (pc' := 26) rfl ?_
    have hR := Option.some.inj hT
    subst hR
    exact kj_iret rfl dX10_adopt_26 (by subst hQ; exact ⟨rfl, rfl⟩)
  · rw [if_pos c1] at hT
    refine kj_iconst dX10_adopt_13 (pc' := 14) rfl kc_m1 ?_
    have hR := Option.some.inj hT
    subst hR
    exact kj_iret rfl dX10_adopt_14 (by subst hQ; exact ⟨rfl, rfl⟩)
def X10_undo (σ : Wd) : Option (Int32 × Wd) :=
  (if (σ 13 2) = 0 then some ((-1), σ) else ((X1_pop σ 1).bind fun σ2 => ((X10_refresh σ2).bind fun σ3 => some (σ3 13 2, σ3))))
set_option maxRecDepth 100000 in
set_option maxHeartbeats 4000000 in
theorem m_X10_undo {E : JE} (hE : kOk 120 E) (σ : Wd) {res : Int32 × Wd} (hT : X10_undo σ = some res) : kMt E yX10_undo mX10_undo rmX10_undo [.inr 0] σ (kQi res.1 res.2) := by
  refine kMt_of (by decide +kernel) rfl (Nat.le_of_ble_eq_true rfl) ?_
  generalize hQ : (kQi res.1 res.2) = Q
  show KJ E mX10_undo rmX10_undo 0 [some (.inr 0)] [] σ Q
  unfold X10_undo at hT
  refine kj_aload_n dX10_undo_0 (pc' := 1) rfl rfl rfl ?_
  refine kj_getR f_RX10_22 rfl (Nat.lt_of_lt_of_le (Nat.le_of_ble_eq_true rfl : 0 < 120) hE.1) (hE.2 _ _) (q := 13) rfl dX10_undo_1 (pc' := 4) rfl ?_
  refine kj_getI f_RX10_191 rfl (Nat.lt_of_lt_of_le (Nat.le_of_ble_eq_true rfl : 13 < 120) hE.1) dX10_undo_4 (pc' := 7) rfl ?_
  refine kj_if_ne dX10_undo_7 (tgt := 12) rfl (pc' := 10) rfl (fun c1 => ?_) (fun c1 => ?_)
  · rw [if_neg c1] at hT
    refine kj_aload_n dX10_undo_12 (pc' := 13) rfl rfl rfl ?_
    refine kj_getR f_RX10_22 rfl (Nat.lt_of_lt_of_le (Nat.le_of_ble_eq_true rfl : 0 < 120) hE.1) (hE.2 _ _) (q := 13) rfl dX10_undo_13 (pc' := 16) rfl ?_
    refine kj_aload_n dX10_undo_16 (pc' := 17) rfl rfl rfl ?_
    refine kj_getR f_RX10_10 rfl (Nat.lt_of_lt_of_le (Nat.le_of_ble_eq_true rfl : 0 < 120) hE.1) (hE.2 _ _) (q := 1) rfl dX10_undo_17 (pc' := 20) rfl ?_
    obtain ⟨σ2, hσ2, hT⟩ := bind_some' hT
    refine kcVv (as := [.inr 1]) (st := []) l_RX10_192 (m_X1_pop hE rfl σ hσ2) rfl (Nat.lt_of_lt_of_le (Nat.le_of_ble_eq_true rfl : 13 < 120) hE.1) rfl ⟨⟨rfl, rfl⟩, Nat.le_of_ble_eq_true rfl, Nat.le_of_ble_eq_true rfl⟩ (Nat.le_of_ble_eq_true rfl) dX10_undo_20 (pc' := 23) rfl ?_
    refine kj_aload_n dX10_undo_23 (pc' := 24) rfl rfl rfl ?_
    obtain ⟨σ3, hσ3, hT⟩ := bind_some' hT
    refine kcVv (as := []) (st := []) l_RX10_97 (m_X10_refresh hE σ2 hσ3) rfl (Nat.lt_of_lt_of_le (Nat.le_of_ble_eq_true rfl : 0 < 120) hE.1) rfl ⟨⟨rfl, rfl⟩, Nat.le_of_ble_eq_true rfl, Nat.le_of_ble_eq_true rfl⟩ (Nat.le_of_ble_eq_true rfl) dX10_undo_24 (pc' := 27) rfl ?_
    refine kj_aload_n dX10_undo_27 (pc' := 28) rfl rfl rfl ?_
    refine kj_getR f_RX10_22 rfl (Nat.lt_of_lt_of_le (Nat.le_of_ble_eq_true rfl : 0 < 120) hE.1) (hE.2 _ _) (q := 13) rfl dX10_undo_28 (pc' := 31) rfl ?_
    refine kj_getI f_RX10_191 rfl (Nat.lt_of_lt_of_le (Nat.le_of_ble_eq_true rfl : 13 < 120) hE.1) dX10_undo_31 (pc' := 34) rfl ?_
    have hR := Option.some.inj hT
    subst hR
    exact kj_iret rfl dX10_undo_34 (by subst hQ; exact ⟨rfl, rfl⟩)
  · rw [if_pos c1] at hT
    refine kj_iconst dX10_undo_10 (pc' := 11) rfl kc_m1 ?_
    have hR := Option.some.inj hT
    subst hR
    exact kj_iret rfl dX10_undo_11 (by subst hQ; exact ⟨rfl, rfl⟩)
def X10_bit (x0 : Int32) : Int32 :=
  (if x0 = 0 then 0 else 1)
set_option maxRecDepth 100000 in
set_option maxHeartbeats 4000000 in
theorem m_X10_bit {E : JE} (hE : kOk 120 E) (σ : Wd) (x0 : Int32) {res : Int32} (hT : X10_bit x0 = res) : kMt E yX10_bit mX10_bit rmX10_bit [.inl x0] σ (kQi res σ) := by
  refine kMt_of (by decide +kernel) rfl (Nat.le_of_ble_eq_true rfl) ?_
  generalize hQ : (kQi res σ) = Q
  show KJ E mX10_bit rmX10_bit 0 [some (.inl x0)] [] σ Q
  unfold X10_bit at hT
  refine kj_iload_n dX10_bit_0 (pc' := 1) rfl rfl rfl ?_
  refine kj_if_eq dX10_bit_1 (tgt := 8) rfl (pc' := 4) rfl (fun c1 => ?_) (fun c1 => ?_)
  · rw [if_pos c1] at hT
    refine kj_iconst dX10_bit_8 (pc' := 9) rfl kc_0 ?_
    subst hT
    exact kj_iret rfl dX10_bit_9 (by subst hQ; exact ⟨rfl, rfl⟩)
  · rw [if_neg c1] at hT
    refine kj_iconst dX10_bit_4 (pc' := 5) rfl kc_1 ?_
    refine kj_goto dX10_bit_5 (pc' := 9) rfl ?_
    subst hT
    exact kj_iret rfl dX10_bit_9 (by subst hQ; exact ⟨rfl, rfl⟩)
def X10_generator (σ : Wd) (x1 : Int32) (x2 : Int32) : Option (Int32) :=
  (if (X10_isGenerator σ x1) = 0 then some (-1) else (if x2 = 0 then ((X4_at σ 2 x1).bind fun t4 => some t4) else (if x2 = 1 then ((X10_isIdle σ x1).bind fun t6 => some (X10_bit t6)) else (if x2 = 2 then ((X4_at σ 2 x1).bind fun t9 => ((X0_numberOf σ t9).bind fun t10 => some t10)) else some (-1)))))
set_option maxRecDepth 100000 in
set_option maxHeartbeats 4000000 in
theorem m_X10_generator {E : JE} (hE : kOk 120 E) (σ : Wd) (x1 : Int32) (x2 : Int32) {res : Int32} (hT : X10_generator σ x1 x2 = some res) : kMt E yX10_generator mX10_generator rmX10_generator [.inr 0, .inl x1, .inl x2] σ (kQi res σ) := by
  refine kMt_of (by decide +kernel) rfl (Nat.le_of_ble_eq_true rfl) ?_
  generalize hQ : (kQi res σ) = Q
  show KJ E mX10_generator rmX10_generator 0 [some (.inr 0), some (.inl x1), some (.inl x2)] [] σ Q
  unfold X10_generator at hT
  refine kj_aload_n dX10_generator_0 (pc' := 1) rfl rfl rfl ?_
  refine kj_iload_n dX10_generator_1 (pc' := 2) rfl rfl rfl ?_
  refine kcVz (as := [.inl x1]) (st := []) l_RX10_142 (m_X10_isGenerator hE σ x1 rfl) rfl (Nat.lt_of_lt_of_le (Nat.le_of_ble_eq_true rfl : 0 < 120) hE.1) rfl ⟨⟨rfl, rfl⟩, Nat.le_of_ble_eq_true rfl, Nat.le_of_ble_eq_true rfl⟩ (Nat.le_of_ble_eq_true rfl) dX10_generator_2 (pc' := 5) rfl (fun z1 => ?_)
  refine kj_if_ne dX10_generator_5 (tgt := 10) rfl (pc' := 8) rfl (fun c2 => ?_) (fun c2 => ?_)
  · rw [if_neg c2] at hT
    refine kj_iload_n dX10_generator_10 (pc' := 11) rfl rfl rfl ?_
    by_cases c3 : x2 = 0
    · rw [if_pos c3] at hT
      refine kj_tableIn (x := x2) (off := 25) (tgt := 36) dX10_generator_11 (by rw [c3]; decide +kernel) (by rw [c3]; decide +kernel) (by rw [c3]; decide +kernel) rfl ?_
      refine kj_aload_n dX10_generator_36 (pc' := 37) rfl rfl rfl ?_
      refine kj_getR f_RX10_10 rfl (Nat.lt_of_lt_of_le (Nat.le_of_ble_eq_true rfl : 0 < 120) hE.1) (hE.2 _ _) (q := 1) rfl dX10_generator_37 (pc' := 40) rfl ?_
      refine kj_getR f_RX10_125 rfl (Nat.lt_of_lt_of_le (Nat.le_of_ble_eq_true rfl : 1 < 120) hE.1) (hE.2 _ _) (q := 2) rfl dX10_generator_40 (pc' := 43) rfl ?_
      refine kj_iload_n dX10_generator_43 (pc' := 44) rfl rfl rfl ?_
      obtain ⟨t4, ht4, hT⟩ := bind_some' hT
      refine kcVi (as := [.inl x1]) (st := []) l_RX10_148 (m_X4_at hE rfl σ x1 ht4) rfl (Nat.lt_of_lt_of_le (Nat.le_of_ble_eq_true rfl : 2 < 120) hE.1) rfl ⟨⟨rfl, rfl⟩, Nat.le_of_ble_eq_true rfl, Nat.le_of_ble_eq_true rfl⟩ (Nat.le_of_ble_eq_true rfl) dX10_generator_44 (pc' := 47) rfl ?_
      have hR := Option.some.inj hT
      subst hR
      exact kj_iret rfl dX10_generator_47 (by subst hQ; exact ⟨rfl, rfl⟩)
    rw [if_neg c3] at hT
    by_cases c5 : x2 = 1
    · rw [if_pos c5] at hT
      refine kj_tableIn (x := x2) (off := 37) (tgt := 48) dX10_generator_11 (by rw [c5]; decide +kernel) (by rw [c5]; decide +kernel) (by rw [c5]; decide +kernel) rfl ?_
      refine kj_aload_n dX10_generator_48 (pc' := 49) rfl rfl rfl ?_
      refine kj_iload_n dX10_generator_49 (pc' := 50) rfl rfl rfl ?_
      obtain ⟨t6, ht6, hT⟩ := bind_some' hT
      refine kcVz (as := [.inl x1]) (st := []) l_RX10_181 (m_X10_isIdle hE σ x1 ht6) rfl (Nat.lt_of_lt_of_le (Nat.le_of_ble_eq_true rfl : 0 < 120) hE.1) rfl ⟨⟨rfl, rfl⟩, Nat.le_of_ble_eq_true rfl, Nat.le_of_ble_eq_true rfl⟩ (Nat.le_of_ble_eq_true rfl) dX10_generator_50 (pc' := 53) rfl (fun z7 => ?_)
      refine kcSi (as := [.inl t6]) (st := []) l_RX10_195 (m_X10_bit hE σ t6 rfl) rfl ⟨⟨rfl, rfl⟩, Nat.le_of_ble_eq_true rfl, Nat.le_of_ble_eq_true rfl⟩ (Nat.le_of_ble_eq_true rfl) dX10_generator_53 (pc' := 56) rfl ?_
      have hR := Option.some.inj hT
      subst hR
      exact kj_iret rfl dX10_generator_56 (by subst hQ; exact ⟨rfl, rfl⟩)
    rw [if_neg c5] at hT
    by_cases c8 : x2 = 2
    · rw [if_pos c8] at hT
      refine kj_tableIn (x := x2) (off := 46) (tgt := 57) dX10_generator_11 (by rw [c8]; decide +kernel) (by rw [c8]; decide +kernel) (by rw [c8]; decide +kernel) rfl ?_
      refine kj_aload_n dX10_generator_57 (pc' := 58) rfl rfl rfl ?_
      refine kj_getR f_RX10_54 rfl (Nat.lt_of_lt_of_le (Nat.le_of_ble_eq_true rfl : 0 < 120) hE.1) (hE.2 _ _) (q := 93) rfl dX10_generator_58 (pc' := 61) rfl ?_
      refine kj_aload_n dX10_generator_61 (pc' := 62) rfl rfl rfl ?_
      refine kj_getR f_RX10_10 rfl (Nat.lt_of_lt_of_le (Nat.le_of_ble_eq_true rfl : 0 < 120) hE.1) (hE.2 _ _) (q := 1) rfl dX10_generator_62 (pc' := 65) rfl ?_
      refine kj_getR f_RX10_125 rfl (Nat.lt_of_lt_of_le (Nat.le_of_ble_eq_true rfl : 1 < 120) hE.1) (hE.2 _ _) (q := 2) rfl dX10_generator_65 (pc' := 68) rfl ?_
      refine kj_iload_n dX10_generator_68 (pc' := 69) rfl rfl rfl ?_
      obtain ⟨t9, ht9, hT⟩ := bind_some' hT
      refine kcVi (as := [.inl x1]) (st := [.inr 93]) l_RX10_148 (m_X4_at hE rfl σ x1 ht9) rfl (Nat.lt_of_lt_of_le (Nat.le_of_ble_eq_true rfl : 2 < 120) hE.1) rfl ⟨⟨rfl, rfl⟩, Nat.le_of_ble_eq_true rfl, Nat.le_of_ble_eq_true rfl⟩ (Nat.le_of_ble_eq_true rfl) dX10_generator_69 (pc' := 72) rfl ?_
      obtain ⟨t10, ht10, hT⟩ := bind_some' hT
      refine kcVi (as := [.inl t9]) (st := []) l_RX10_199 (m_X0_numberOf hE σ t9 ht10) rfl (Nat.lt_of_lt_of_le (Nat.le_of_ble_eq_true rfl : 93 < 120) hE.1) rfl ⟨⟨rfl, rfl⟩, Nat.le_of_ble_eq_true rfl, Nat.le_of_ble_eq_true rfl⟩ (Nat.le_of_ble_eq_true rfl) dX10_generator_72 (pc' := 75) rfl ?_
      have hR := Option.some.inj hT
      subst hR
      exact kj_iret rfl dX10_generator_75 (by subst hQ; exact ⟨rfl, rfl⟩)
    rw [if_neg c8] at hT
    refine kj_tableOut (x := x2) (tgt := 76) dX10_generator_11 (tb_out (hi := 2) (fun k hk => by rcases (show k = 0 ∨ k = 1 ∨ k = 2  from by omega) with rfl | rfl | rfl <;> assumption) (by decide)) rfl ?_
    refine kj_iconst dX10_generator_76 (pc' := 77) rfl kc_m1 ?_
    have hR := Option.some.inj hT
    subst hR
    exact kj_iret rfl dX10_generator_77 (by subst hQ; exact ⟨rfl, rfl⟩)
  · rw [if_pos c2] at hT
    refine kj_iconst dX10_generator_8 (pc' := 9) rfl kc_m1 ?_
    have hR := Option.some.inj hT
    subst hR
    exact kj_iret rfl dX10_generator_9 (by subst hQ; exact ⟨rfl, rfl⟩)
def X10_member (σ : Wd) (x1 : Int32) : Option (Int32) :=
  ((X4_at σ 95 x1).bind fun t1 => some t1)
set_option maxRecDepth 100000 in
set_option maxHeartbeats 4000000 in
theorem m_X10_member {E : JE} (hE : kOk 120 E) (σ : Wd) (x1 : Int32) {res : Int32} (hT : X10_member σ x1 = some res) : kMt E yX10_member mX10_member rmX10_member [.inr 0, .inl x1] σ (kQi res σ) := by
  refine kMt_of (by decide +kernel) rfl (Nat.le_of_ble_eq_true rfl) ?_
  generalize hQ : (kQi res σ) = Q
  show KJ E mX10_member rmX10_member 0 [some (.inr 0), some (.inl x1)] [] σ Q
  unfold X10_member at hT
  refine kj_aload_n dX10_member_0 (pc' := 1) rfl rfl rfl ?_
  refine kj_getR f_RX10_54 rfl (Nat.lt_of_lt_of_le (Nat.le_of_ble_eq_true rfl : 0 < 120) hE.1) (hE.2 _ _) (q := 93) rfl dX10_member_1 (pc' := 4) rfl ?_
  refine kj_getR f_RX10_69 rfl (Nat.lt_of_lt_of_le (Nat.le_of_ble_eq_true rfl : 93 < 120) hE.1) (hE.2 _ _) (q := 95) rfl dX10_member_4 (pc' := 7) rfl ?_
  refine kj_iload_n dX10_member_7 (pc' := 8) rfl rfl rfl ?_
  obtain ⟨t1, ht1, hT⟩ := bind_some' hT
  refine kcVi (as := [.inl x1]) (st := []) l_RX10_148 (m_X4_at hE rfl σ x1 ht1) rfl (Nat.lt_of_lt_of_le (Nat.le_of_ble_eq_true rfl : 95 < 120) hE.1) rfl ⟨⟨rfl, rfl⟩, Nat.le_of_ble_eq_true rfl, Nat.le_of_ble_eq_true rfl⟩ (Nat.le_of_ble_eq_true rfl) dX10_member_8 (pc' := 11) rfl ?_
  have hR := Option.some.inj hT
  subst hR
  exact kj_iret rfl dX10_member_11 (by subst hQ; exact ⟨rfl, rfl⟩)
def X10_place (σ : Wd) (x1 : Int32) : Option (Int32) :=
  (if (X10_isSet σ x1) = 0 then some (-1) else ((X0_numberOf σ x1).bind fun t3 => some t3))
set_option maxRecDepth 100000 in
set_option maxHeartbeats 4000000 in
theorem m_X10_place {E : JE} (hE : kOk 120 E) (σ : Wd) (x1 : Int32) {res : Int32} (hT : X10_place σ x1 = some res) : kMt E yX10_place mX10_place rmX10_place [.inr 0, .inl x1] σ (kQi res σ) := by
  refine kMt_of (by decide +kernel) rfl (Nat.le_of_ble_eq_true rfl) ?_
  generalize hQ : (kQi res σ) = Q
  show KJ E mX10_place rmX10_place 0 [some (.inr 0), some (.inl x1)] [] σ Q
  unfold X10_place at hT
  refine kj_aload_n dX10_place_0 (pc' := 1) rfl rfl rfl ?_
  refine kj_iload_n dX10_place_1 (pc' := 2) rfl rfl rfl ?_
  refine kcVz (as := [.inl x1]) (st := []) l_RX10_202 (m_X10_isSet hE σ x1 rfl) rfl (Nat.lt_of_lt_of_le (Nat.le_of_ble_eq_true rfl : 0 < 120) hE.1) rfl ⟨⟨rfl, rfl⟩, Nat.le_of_ble_eq_true rfl, Nat.le_of_ble_eq_true rfl⟩ (Nat.le_of_ble_eq_true rfl) dX10_place_2 (pc' := 5) rfl (fun z1 => ?_)
  refine kj_if_eq dX10_place_5 (tgt := 19) rfl (pc' := 8) rfl (fun c2 => ?_) (fun c2 => ?_)
  · rw [if_pos c2] at hT
    refine kj_iconst dX10_place_19 (pc' := 20) rfl kc_m1 ?_
    have hR := Option.some.inj hT
    subst hR
    exact kj_iret rfl dX10_place_20 (by subst hQ; exact ⟨rfl, rfl⟩)
  · rw [if_neg c2] at hT
    refine kj_aload_n dX10_place_8 (pc' := 9) rfl rfl rfl ?_
    refine kj_getR f_RX10_54 rfl (Nat.lt_of_lt_of_le (Nat.le_of_ble_eq_true rfl : 0 < 120) hE.1) (hE.2 _ _) (q := 93) rfl dX10_place_9 (pc' := 12) rfl ?_
    refine kj_iload_n dX10_place_12 (pc' := 13) rfl rfl rfl ?_
    obtain ⟨t3, ht3, hT⟩ := bind_some' hT
    refine kcVi (as := [.inl x1]) (st := []) l_RX10_199 (m_X0_numberOf hE σ x1 ht3) rfl (Nat.lt_of_lt_of_le (Nat.le_of_ble_eq_true rfl : 93 < 120) hE.1) rfl ⟨⟨rfl, rfl⟩, Nat.le_of_ble_eq_true rfl, Nat.le_of_ble_eq_true rfl⟩ (Nat.le_of_ble_eq_true rfl) dX10_place_13 (pc' := 16) rfl ?_
    refine kj_goto dX10_place_16 (pc' := 20) rfl ?_
    have hR := Option.some.inj hT
    subst hR
    exact kj_iret rfl dX10_place_20 (by subst hQ; exact ⟨rfl, rfl⟩)
def X10_based (σ : Wd) (x1 : Int32) : Option (Int32) :=
  ((X4_at σ 97 x1).bind fun t1 => some t1)
set_option maxRecDepth 100000 in
set_option maxHeartbeats 4000000 in
theorem m_X10_based {E : JE} (hE : kOk 120 E) (σ : Wd) (x1 : Int32) {res : Int32} (hT : X10_based σ x1 = some res) : kMt E yX10_based mX10_based rmX10_based [.inr 0, .inl x1] σ (kQi res σ) := by
  refine kMt_of (by decide +kernel) rfl (Nat.le_of_ble_eq_true rfl) ?_
  generalize hQ : (kQi res σ) = Q
  show KJ E mX10_based rmX10_based 0 [some (.inr 0), some (.inl x1)] [] σ Q
  unfold X10_based at hT
  refine kj_aload_n dX10_based_0 (pc' := 1) rfl rfl rfl ?_
  refine kj_getR f_RX10_54 rfl (Nat.lt_of_lt_of_le (Nat.le_of_ble_eq_true rfl : 0 < 120) hE.1) (hE.2 _ _) (q := 93) rfl dX10_based_1 (pc' := 4) rfl ?_
  refine kj_getR f_RX10_184 rfl (Nat.lt_of_lt_of_le (Nat.le_of_ble_eq_true rfl : 93 < 120) hE.1) (hE.2 _ _) (q := 97) rfl dX10_based_4 (pc' := 7) rfl ?_
  refine kj_iload_n dX10_based_7 (pc' := 8) rfl rfl rfl ?_
  obtain ⟨t1, ht1, hT⟩ := bind_some' hT
  refine kcVi (as := [.inl x1]) (st := []) l_RX10_148 (m_X4_at hE rfl σ x1 ht1) rfl (Nat.lt_of_lt_of_le (Nat.le_of_ble_eq_true rfl : 97 < 120) hE.1) rfl ⟨⟨rfl, rfl⟩, Nat.le_of_ble_eq_true rfl, Nat.le_of_ble_eq_true rfl⟩ (Nat.le_of_ble_eq_true rfl) dX10_based_8 (pc' := 11) rfl ?_
  have hR := Option.some.inj hT
  subst hR
  exact kj_iret rfl dX10_based_11 (by subst hQ; exact ⟨rfl, rfl⟩)
def X10_point (σ : Wd) (x1 : Int32) (x2 : Int32) : Option (Int32) :=
  (if (X10_isPoint σ x1) = 0 then some (-1) else (if x2 = 0 then ((X0_oftenOf σ x1).bind fun t4 => some t4) else (if x2 = 1 then ((X0_isFrequent σ x1).bind fun t6 => some (X10_bit t6)) else (if x2 = 2 then ((X7_weightOf σ 1 x1).bind fun t9 => some t9) else (if x2 = 3 then ((X10_generatorsWith σ x1).bind fun t11 => some t11) else (if x2 = 4 then ((X0_firstTwin σ x1).bind fun t13 => some t13) else (if x2 = 5 then ((X0_leastSizeWith σ x1).bind fun t15 => some t15) else some (-1))))))))
set_option maxRecDepth 100000 in
set_option maxHeartbeats 4000000 in
theorem m_X10_point {E : JE} (hE : kOk 120 E) (σ : Wd) (x1 : Int32) (x2 : Int32) {res : Int32} (hT : X10_point σ x1 x2 = some res) : kMt E yX10_point mX10_point rmX10_point [.inr 0, .inl x1, .inl x2] σ (kQi res σ) := by
  refine kMt_of (by decide +kernel) rfl (Nat.le_of_ble_eq_true rfl) ?_
  generalize hQ : (kQi res σ) = Q
  show KJ E mX10_point rmX10_point 0 [some (.inr 0), some (.inl x1), some (.inl x2)] [] σ Q
  unfold X10_point at hT
  refine kj_aload_n dX10_point_0 (pc' := 1) rfl rfl rfl ?_
  refine kj_iload_n dX10_point_1 (pc' := 2) rfl rfl rfl ?_
  refine kcVz (as := [.inl x1]) (st := []) l_RX10_155 (m_X10_isPoint hE σ x1 rfl) rfl (Nat.lt_of_lt_of_le (Nat.le_of_ble_eq_true rfl : 0 < 120) hE.1) rfl ⟨⟨rfl, rfl⟩, Nat.le_of_ble_eq_true rfl, Nat.le_of_ble_eq_true rfl⟩ (Nat.le_of_ble_eq_true rfl) dX10_point_2 (pc' := 5) rfl (fun z1 => ?_)
  refine kj_if_ne dX10_point_5 (tgt := 10) rfl (pc' := 8) rfl (fun c2 => ?_) (fun c2 => ?_)
  · rw [if_neg c2] at hT
    refine kj_iload_n dX10_point_10 (pc' := 11) rfl rfl rfl ?_
    by_cases c3 : x2 = 0
    · rw [if_pos c3] at hT
      refine kj_tableIn (x := x2) (off := 37) (tgt := 48) dX10_point_11 (by rw [c3]; decide +kernel) (by rw [c3]; decide +kernel) (by rw [c3]; decide +kernel) rfl ?_
      refine kj_aload_n dX10_point_48 (pc' := 49) rfl rfl rfl ?_
      refine kj_getR f_RX10_54 rfl (Nat.lt_of_lt_of_le (Nat.le_of_ble_eq_true rfl : 0 < 120) hE.1) (hE.2 _ _) (q := 93) rfl dX10_point_49 (pc' := 52) rfl ?_
      refine kj_iload_n dX10_point_52 (pc' := 53) rfl rfl rfl ?_
      obtain ⟨t4, ht4, hT⟩ := bind_some' hT
      refine kcVi (as := [.inl x1]) (st := []) l_RX10_205 (m_X0_oftenOf hE σ x1 ht4) rfl (Nat.lt_of_lt_of_le (Nat.le_of_ble_eq_true rfl : 93 < 120) hE.1) rfl ⟨⟨rfl, rfl⟩, Nat.le_of_ble_eq_true rfl, Nat.le_of_ble_eq_true rfl⟩ (Nat.le_of_ble_eq_true rfl) dX10_point_53 (pc' := 56) rfl ?_
      have hR := Option.some.inj hT
      subst hR
      exact kj_iret rfl dX10_point_56 (by subst hQ; exact ⟨rfl, rfl⟩)
    rw [if_neg c3] at hT
    by_cases c5 : x2 = 1
    · rw [if_pos c5] at hT
      refine kj_tableIn (x := x2) (off := 46) (tgt := 57) dX10_point_11 (by rw [c5]; decide +kernel) (by rw [c5]; decide +kernel) (by rw [c5]; decide +kernel) rfl ?_
      refine kj_aload_n dX10_point_57 (pc' := 58) rfl rfl rfl ?_
      refine kj_getR f_RX10_54 rfl (Nat.lt_of_lt_of_le (Nat.le_of_ble_eq_true rfl : 0 < 120) hE.1) (hE.2 _ _) (q := 93) rfl dX10_point_58 (pc' := 61) rfl ?_
      refine kj_iload_n dX10_point_61 (pc' := 62) rfl rfl rfl ?_
      obtain ⟨t6, ht6, hT⟩ := bind_some' hT
      refine kcVz (as := [.inl x1]) (st := []) l_RX10_208 (m_X0_isFrequent hE σ x1 ht6) rfl (Nat.lt_of_lt_of_le (Nat.le_of_ble_eq_true rfl : 93 < 120) hE.1) rfl ⟨⟨rfl, rfl⟩, Nat.le_of_ble_eq_true rfl, Nat.le_of_ble_eq_true rfl⟩ (Nat.le_of_ble_eq_true rfl) dX10_point_62 (pc' := 65) rfl (fun z7 => ?_)
      refine kcSi (as := [.inl t6]) (st := []) l_RX10_195 (m_X10_bit hE σ t6 rfl) rfl ⟨⟨rfl, rfl⟩, Nat.le_of_ble_eq_true rfl, Nat.le_of_ble_eq_true rfl⟩ (Nat.le_of_ble_eq_true rfl) dX10_point_65 (pc' := 68) rfl ?_
      have hR := Option.some.inj hT
      subst hR
      exact kj_iret rfl dX10_point_68 (by subst hQ; exact ⟨rfl, rfl⟩)
    rw [if_neg c5] at hT
    by_cases c8 : x2 = 2
    · rw [if_pos c8] at hT
      refine kj_tableIn (x := x2) (off := 58) (tgt := 69) dX10_point_11 (by rw [c8]; decide +kernel) (by rw [c8]; decide +kernel) (by rw [c8]; decide +kernel) rfl ?_
      refine kj_aload_n dX10_point_69 (pc' := 70) rfl rfl rfl ?_
      refine kj_getR f_RX10_10 rfl (Nat.lt_of_lt_of_le (Nat.le_of_ble_eq_true rfl : 0 < 120) hE.1) (hE.2 _ _) (q := 1) rfl dX10_point_70 (pc' := 73) rfl ?_
      refine kj_iload_n dX10_point_73 (pc' := 74) rfl rfl rfl ?_
      obtain ⟨t9, ht9, hT⟩ := bind_some' hT
      refine kcVi (as := [.inl x1]) (st := []) l_RX10_158 (m_X7_weightOf hE rfl σ x1 ht9) rfl (Nat.lt_of_lt_of_le (Nat.le_of_ble_eq_true rfl : 1 < 120) hE.1) rfl ⟨⟨rfl, rfl⟩, Nat.le_of_ble_eq_true rfl, Nat.le_of_ble_eq_true rfl⟩ (Nat.le_of_ble_eq_true rfl) dX10_point_74 (pc' := 77) rfl ?_
      have hR := Option.some.inj hT
      subst hR
      exact kj_iret rfl dX10_point_77 (by subst hQ; exact ⟨rfl, rfl⟩)
    rw [if_neg c8] at hT
    by_cases c10 : x2 = 3
    · rw [if_pos c10] at hT
      refine kj_tableIn (x := x2) (off := 67) (tgt := 78) dX10_point_11 (by rw [c10]; decide +kernel) (by rw [c10]; decide +kernel) (by rw [c10]; decide +kernel) rfl ?_
      refine kj_aload_n dX10_point_78 (pc' := 79) rfl rfl rfl ?_
      refine kj_iload_n dX10_point_79 (pc' := 80) rfl rfl rfl ?_
      obtain ⟨t11, ht11, hT⟩ := bind_some' hT
      refine kcVi (as := [.inl x1]) (st := []) l_RX10_178 (m_X10_generatorsWith hE σ x1 ht11) rfl (Nat.lt_of_lt_of_le (Nat.le_of_ble_eq_true rfl : 0 < 120) hE.1) rfl ⟨⟨rfl, rfl⟩, Nat.le_of_ble_eq_true rfl, Nat.le_of_ble_eq_true rfl⟩ (Nat.le_of_ble_eq_true rfl) dX10_point_80 (pc' := 83) rfl ?_
      have hR := Option.some.inj hT
      subst hR
      exact kj_iret rfl dX10_point_83 (by subst hQ; exact ⟨rfl, rfl⟩)
    rw [if_neg c10] at hT
    by_cases c12 : x2 = 4
    · rw [if_pos c12] at hT
      refine kj_tableIn (x := x2) (off := 73) (tgt := 84) dX10_point_11 (by rw [c12]; decide +kernel) (by rw [c12]; decide +kernel) (by rw [c12]; decide +kernel) rfl ?_
      refine kj_aload_n dX10_point_84 (pc' := 85) rfl rfl rfl ?_
      refine kj_getR f_RX10_54 rfl (Nat.lt_of_lt_of_le (Nat.le_of_ble_eq_true rfl : 0 < 120) hE.1) (hE.2 _ _) (q := 93) rfl dX10_point_85 (pc' := 88) rfl ?_
      refine kj_iload_n dX10_point_88 (pc' := 89) rfl rfl rfl ?_
      obtain ⟨t13, ht13, hT⟩ := bind_some' hT
      refine kcVi (as := [.inl x1]) (st := []) l_RX10_211 (m_X0_firstTwin hE σ x1 ht13) rfl (Nat.lt_of_lt_of_le (Nat.le_of_ble_eq_true rfl : 93 < 120) hE.1) rfl ⟨⟨rfl, rfl⟩, Nat.le_of_ble_eq_true rfl, Nat.le_of_ble_eq_true rfl⟩ (Nat.le_of_ble_eq_true rfl) dX10_point_89 (pc' := 92) rfl ?_
      have hR := Option.some.inj hT
      subst hR
      exact kj_iret rfl dX10_point_92 (by subst hQ; exact ⟨rfl, rfl⟩)
    rw [if_neg c12] at hT
    by_cases c14 : x2 = 5
    · rw [if_pos c14] at hT
      refine kj_tableIn (x := x2) (off := 82) (tgt := 93) dX10_point_11 (by rw [c14]; decide +kernel) (by rw [c14]; decide +kernel) (by rw [c14]; decide +kernel) rfl ?_
      refine kj_aload_n dX10_point_93 (pc' := 94) rfl rfl rfl ?_
      refine kj_getR f_RX10_54 rfl (Nat.lt_of_lt_of_le (Nat.le_of_ble_eq_true rfl : 0 < 120) hE.1) (hE.2 _ _) (q := 93) rfl dX10_point_94 (pc' := 97) rfl ?_
      refine kj_iload_n dX10_point_97 (pc' := 98) rfl rfl rfl ?_
      obtain ⟨t15, ht15, hT⟩ := bind_some' hT
      refine kcVi (as := [.inl x1]) (st := []) l_RX10_214 (m_X0_leastSizeWith hE σ x1 ht15) rfl (Nat.lt_of_lt_of_le (Nat.le_of_ble_eq_true rfl : 93 < 120) hE.1) rfl ⟨⟨rfl, rfl⟩, Nat.le_of_ble_eq_true rfl, Nat.le_of_ble_eq_true rfl⟩ (Nat.le_of_ble_eq_true rfl) dX10_point_98 (pc' := 101) rfl ?_
      have hR := Option.some.inj hT
      subst hR
      exact kj_iret rfl dX10_point_101 (by subst hQ; exact ⟨rfl, rfl⟩)
    rw [if_neg c14] at hT
    refine kj_tableOut (x := x2) (tgt := 102) dX10_point_11 (tb_out (hi := 5) (fun k hk => by rcases (show k = 0 ∨ k = 1 ∨ k = 2 ∨ k = 3 ∨ k = 4 ∨ k = 5  from by omega) with rfl | rfl | rfl | rfl | rfl | rfl <;> assumption) (by decide)) rfl ?_
    refine kj_iconst dX10_point_102 (pc' := 103) rfl kc_m1 ?_
    have hR := Option.some.inj hT
    subst hR
    exact kj_iret rfl dX10_point_103 (by subst hQ; exact ⟨rfl, rfl⟩)
  · rw [if_pos c2] at hT
    refine kj_iconst dX10_point_8 (pc' := 9) rfl kc_m1 ?_
    have hR := Option.some.inj hT
    subst hR
    exact kj_iret rfl dX10_point_9 (by subst hQ; exact ⟨rfl, rfl⟩)
def X10_family (σ : Wd) (x1 : Int32) : Option (Int32 × Wd) :=
  (if x1 = 0 then some (σ 95 1, σ) else (if x1 = 1 then ((X0_top σ).bind fun t3 => some (t3, σ)) else (if x1 = 2 then some (σ 97 1, σ) else (if x1 = 3 then ((X0_frequentPoints σ).bind fun t6 => some (t6, σ)) else (if x1 = 4 then ((X0_pointRanked σ 0).bind fun t8 => some (t8, σ)) else (if x1 = 5 then ((X2_height σ).bind fun (t10, σ11) => some (t10, σ11)) else (if x1 = 6 then ((X6_most σ).bind fun (t13, σ14) => some (t13, σ14)) else (if x1 = 7 then ((X2_pairs σ).bind fun (t16, σ17) => some (t16, σ17)) else (if x1 = 8 then ((X8_depth σ).bind fun (t19, σ20) => some (t19, σ20)) else (if x1 = 9 then ((X0_isProof σ 6).bind fun t22 => some (X10_bit t22, σ)) else (if x1 = 10 then ((X0_massOfAll σ 6).bind fun t25 => some (t25, σ)) else (if x1 = 11 then ((X2_coversOf σ 0 1).bind fun (t27, σ28) => some (t27, σ28)) else (if x1 = 12 then ((X2_coversOf σ ((σ 95 1) - 1) 0).bind fun (t30, σ31) => some (t30, σ31)) else some ((-1), σ))))))))))))))
set_option maxRecDepth 100000 in
set_option maxHeartbeats 4000000 in
theorem m_X10_family {E : JE} (hE : kOk 120 E) (σ : Wd) (x1 : Int32) {res : Int32 × Wd} (hT : X10_family σ x1 = some res) : kMt E yX10_family mX10_family rmX10_family [.inr 0, .inl x1] σ (kQi res.1 res.2) := by
  refine kMt_of (by decide +kernel) rfl (Nat.le_of_ble_eq_true rfl) ?_
  generalize hQ : (kQi res.1 res.2) = Q
  show KJ E mX10_family rmX10_family 0 [some (.inr 0), some (.inl x1)] [] σ Q
  unfold X10_family at hT
  refine kj_iload_n dX10_family_0 (pc' := 1) rfl rfl rfl ?_
  by_cases c1 : x1 = 0
  · rw [if_pos c1] at hT
    refine kj_tableIn (x := x1) (off := 67) (tgt := 68) dX10_family_1 (by rw [c1]; decide +kernel) (by rw [c1]; decide +kernel) (by rw [c1]; decide +kernel) rfl ?_
    refine kj_aload_n dX10_family_68 (pc' := 69) rfl rfl rfl ?_
    refine kj_getR f_RX10_54 rfl (Nat.lt_of_lt_of_le (Nat.le_of_ble_eq_true rfl : 0 < 120) hE.1) (hE.2 _ _) (q := 93) rfl dX10_family_69 (pc' := 72) rfl ?_
    refine kj_getR f_RX10_69 rfl (Nat.lt_of_lt_of_le (Nat.le_of_ble_eq_true rfl : 93 < 120) hE.1) (hE.2 _ _) (q := 95) rfl dX10_family_72 (pc' := 75) rfl ?_
    refine kj_getI f_RX10_100 rfl (Nat.lt_of_lt_of_le (Nat.le_of_ble_eq_true rfl : 95 < 120) hE.1) dX10_family_75 (pc' := 78) rfl ?_
    have hR := Option.some.inj hT
    subst hR
    exact kj_iret rfl dX10_family_78 (by subst hQ; exact ⟨rfl, rfl⟩)
  rw [if_neg c1] at hT
  by_cases c2 : x1 = 1
  · rw [if_pos c2] at hT
    refine kj_tableIn (x := x1) (off := 78) (tgt := 79) dX10_family_1 (by rw [c2]; decide +kernel) (by rw [c2]; decide +kernel) (by rw [c2]; decide +kernel) rfl ?_
    refine kj_aload_n dX10_family_79 (pc' := 80) rfl rfl rfl ?_
    refine kj_getR f_RX10_54 rfl (Nat.lt_of_lt_of_le (Nat.le_of_ble_eq_true rfl : 0 < 120) hE.1) (hE.2 _ _) (q := 93) rfl dX10_family_80 (pc' := 83) rfl ?_
    obtain ⟨t3, ht3, hT⟩ := bind_some' hT
    refine kcVi (as := []) (st := []) l_RX10_217 (m_X0_top hE σ ht3) rfl (Nat.lt_of_lt_of_le (Nat.le_of_ble_eq_true rfl : 93 < 120) hE.1) rfl ⟨⟨rfl, rfl⟩, Nat.le_of_ble_eq_true rfl, Nat.le_of_ble_eq_true rfl⟩ (Nat.le_of_ble_eq_true rfl) dX10_family_83 (pc' := 86) rfl ?_
    have hR := Option.some.inj hT
    subst hR
    exact kj_iret rfl dX10_family_86 (by subst hQ; exact ⟨rfl, rfl⟩)
  rw [if_neg c2] at hT
  by_cases c4 : x1 = 2
  · rw [if_pos c4] at hT
    refine kj_tableIn (x := x1) (off := 86) (tgt := 87) dX10_family_1 (by rw [c4]; decide +kernel) (by rw [c4]; decide +kernel) (by rw [c4]; decide +kernel) rfl ?_
    refine kj_aload_n dX10_family_87 (pc' := 88) rfl rfl rfl ?_
    refine kj_getR f_RX10_54 rfl (Nat.lt_of_lt_of_le (Nat.le_of_ble_eq_true rfl : 0 < 120) hE.1) (hE.2 _ _) (q := 93) rfl dX10_family_88 (pc' := 91) rfl ?_
    refine kj_getR f_RX10_184 rfl (Nat.lt_of_lt_of_le (Nat.le_of_ble_eq_true rfl : 93 < 120) hE.1) (hE.2 _ _) (q := 97) rfl dX10_family_91 (pc' := 94) rfl ?_
    refine kj_getI f_RX10_100 rfl (Nat.lt_of_lt_of_le (Nat.le_of_ble_eq_true rfl : 97 < 120) hE.1) dX10_family_94 (pc' := 97) rfl ?_
    have hR := Option.some.inj hT
    subst hR
    exact kj_iret rfl dX10_family_97 (by subst hQ; exact ⟨rfl, rfl⟩)
  rw [if_neg c4] at hT
  by_cases c5 : x1 = 3
  · rw [if_pos c5] at hT
    refine kj_tableIn (x := x1) (off := 97) (tgt := 98) dX10_family_1 (by rw [c5]; decide +kernel) (by rw [c5]; decide +kernel) (by rw [c5]; decide +kernel) rfl ?_
    refine kj_aload_n dX10_family_98 (pc' := 99) rfl rfl rfl ?_
    refine kj_getR f_RX10_54 rfl (Nat.lt_of_lt_of_le (Nat.le_of_ble_eq_true rfl : 0 < 120) hE.1) (hE.2 _ _) (q := 93) rfl dX10_family_99 (pc' := 102) rfl ?_
    obtain ⟨t6, ht6, hT⟩ := bind_some' hT
    refine kcVi (as := []) (st := []) l_RX10_220 (m_X0_frequentPoints hE σ ht6) rfl (Nat.lt_of_lt_of_le (Nat.le_of_ble_eq_true rfl : 93 < 120) hE.1) rfl ⟨⟨rfl, rfl⟩, Nat.le_of_ble_eq_true rfl, Nat.le_of_ble_eq_true rfl⟩ (Nat.le_of_ble_eq_true rfl) dX10_family_102 (pc' := 105) rfl ?_
    have hR := Option.some.inj hT
    subst hR
    exact kj_iret rfl dX10_family_105 (by subst hQ; exact ⟨rfl, rfl⟩)
  rw [if_neg c5] at hT
  by_cases c7 : x1 = 4
  · rw [if_pos c7] at hT
    refine kj_tableIn (x := x1) (off := 105) (tgt := 106) dX10_family_1 (by rw [c7]; decide +kernel) (by rw [c7]; decide +kernel) (by rw [c7]; decide +kernel) rfl ?_
    refine kj_aload_n dX10_family_106 (pc' := 107) rfl rfl rfl ?_
    refine kj_getR f_RX10_54 rfl (Nat.lt_of_lt_of_le (Nat.le_of_ble_eq_true rfl : 0 < 120) hE.1) (hE.2 _ _) (q := 93) rfl dX10_family_107 (pc' := 110) rfl ?_
    refine kj_iconst dX10_family_110 (pc' := 111) rfl kc_0 ?_
    obtain ⟨t8, ht8, hT⟩ := bind_some' hT
    refine kcVi (as := [.inl 0]) (st := []) l_RX10_223 (m_X0_pointRanked hE σ 0 ht8) rfl (Nat.lt_of_lt_of_le (Nat.le_of_ble_eq_true rfl : 93 < 120) hE.1) rfl ⟨⟨rfl, rfl⟩, Nat.le_of_ble_eq_true rfl, Nat.le_of_ble_eq_true rfl⟩ (Nat.le_of_ble_eq_true rfl) dX10_family_111 (pc' := 114) rfl ?_
    have hR := Option.some.inj hT
    subst hR
    exact kj_iret rfl dX10_family_114 (by subst hQ; exact ⟨rfl, rfl⟩)
  rw [if_neg c7] at hT
  by_cases c9 : x1 = 5
  · rw [if_pos c9] at hT
    refine kj_tableIn (x := x1) (off := 114) (tgt := 115) dX10_family_1 (by rw [c9]; decide +kernel) (by rw [c9]; decide +kernel) (by rw [c9]; decide +kernel) rfl ?_
    refine kj_aload_n dX10_family_115 (pc' := 116) rfl rfl rfl ?_
    refine kj_getR f_RX10_63 rfl (Nat.lt_of_lt_of_le (Nat.le_of_ble_eq_true rfl : 0 < 120) hE.1) (hE.2 _ _) (q := 103) rfl dX10_family_116 (pc' := 119) rfl ?_
    obtain ⟨t10, ht10, hT⟩ := bind_some' hT
    obtain ⟨t10, σ11⟩ := t10
    dsimp only at hT
    refine kcVi (as := []) (st := []) l_RX10_226 (m_X2_height hE σ ht10) rfl (Nat.lt_of_lt_of_le (Nat.le_of_ble_eq_true rfl : 103 < 120) hE.1) rfl ⟨⟨rfl, rfl⟩, Nat.le_of_ble_eq_true rfl, Nat.le_of_ble_eq_true rfl⟩ (Nat.le_of_ble_eq_true rfl) dX10_family_119 (pc' := 122) rfl ?_
    have hR := Option.some.inj hT
    subst hR
    exact kj_iret rfl dX10_family_122 (by subst hQ; exact ⟨rfl, rfl⟩)
  rw [if_neg c9] at hT
  by_cases c12 : x1 = 6
  · rw [if_pos c12] at hT
    refine kj_tableIn (x := x1) (off := 122) (tgt := 123) dX10_family_1 (by rw [c12]; decide +kernel) (by rw [c12]; decide +kernel) (by rw [c12]; decide +kernel) rfl ?_
    refine kj_aload_n dX10_family_123 (pc' := 124) rfl rfl rfl ?_
    refine kj_getR f_RX10_75 rfl (Nat.lt_of_lt_of_le (Nat.le_of_ble_eq_true rfl : 0 < 120) hE.1) (hE.2 _ _) (q := 107) rfl dX10_family_124 (pc' := 127) rfl ?_
    obtain ⟨t13, ht13, hT⟩ := bind_some' hT
    obtain ⟨t13, σ14⟩ := t13
    dsimp only at hT
    refine kcVi (as := []) (st := []) l_RX10_229 (m_X6_most hE σ ht13) rfl (Nat.lt_of_lt_of_le (Nat.le_of_ble_eq_true rfl : 107 < 120) hE.1) rfl ⟨⟨rfl, rfl⟩, Nat.le_of_ble_eq_true rfl, Nat.le_of_ble_eq_true rfl⟩ (Nat.le_of_ble_eq_true rfl) dX10_family_127 (pc' := 130) rfl ?_
    have hR := Option.some.inj hT
    subst hR
    exact kj_iret rfl dX10_family_130 (by subst hQ; exact ⟨rfl, rfl⟩)
  rw [if_neg c12] at hT
  by_cases c15 : x1 = 7
  · rw [if_pos c15] at hT
    refine kj_tableIn (x := x1) (off := 130) (tgt := 131) dX10_family_1 (by rw [c15]; decide +kernel) (by rw [c15]; decide +kernel) (by rw [c15]; decide +kernel) rfl ?_
    refine kj_aload_n dX10_family_131 (pc' := 132) rfl rfl rfl ?_
    refine kj_getR f_RX10_63 rfl (Nat.lt_of_lt_of_le (Nat.le_of_ble_eq_true rfl : 0 < 120) hE.1) (hE.2 _ _) (q := 103) rfl dX10_family_132 (pc' := 135) rfl ?_
    obtain ⟨t16, ht16, hT⟩ := bind_some' hT
    obtain ⟨t16, σ17⟩ := t16
    dsimp only at hT
    refine kcVi (as := []) (st := []) l_RX10_232 (m_X2_pairs hE σ ht16) rfl (Nat.lt_of_lt_of_le (Nat.le_of_ble_eq_true rfl : 103 < 120) hE.1) rfl ⟨⟨rfl, rfl⟩, Nat.le_of_ble_eq_true rfl, Nat.le_of_ble_eq_true rfl⟩ (Nat.le_of_ble_eq_true rfl) dX10_family_135 (pc' := 138) rfl ?_
    have hR := Option.some.inj hT
    subst hR
    exact kj_iret rfl dX10_family_138 (by subst hQ; exact ⟨rfl, rfl⟩)
  rw [if_neg c15] at hT
  by_cases c18 : x1 = 8
  · rw [if_pos c18] at hT
    refine kj_tableIn (x := x1) (off := 138) (tgt := 139) dX10_family_1 (by rw [c18]; decide +kernel) (by rw [c18]; decide +kernel) (by rw [c18]; decide +kernel) rfl ?_
    refine kj_aload_n dX10_family_139 (pc' := 140) rfl rfl rfl ?_
    refine kj_getR f_RX10_82 rfl (Nat.lt_of_lt_of_le (Nat.le_of_ble_eq_true rfl : 0 < 120) hE.1) (hE.2 _ _) (q := 112) rfl dX10_family_140 (pc' := 143) rfl ?_
    obtain ⟨t19, ht19, hT⟩ := bind_some' hT
    obtain ⟨t19, σ20⟩ := t19
    dsimp only at hT
    refine kcVi (as := []) (st := []) l_RX10_235 (m_X8_depth hE σ ht19) rfl (Nat.lt_of_lt_of_le (Nat.le_of_ble_eq_true rfl : 112 < 120) hE.1) rfl ⟨⟨rfl, rfl⟩, Nat.le_of_ble_eq_true rfl, Nat.le_of_ble_eq_true rfl⟩ (Nat.le_of_ble_eq_true rfl) dX10_family_143 (pc' := 146) rfl ?_
    have hR := Option.some.inj hT
    subst hR
    exact kj_iret rfl dX10_family_146 (by subst hQ; exact ⟨rfl, rfl⟩)
  rw [if_neg c18] at hT
  by_cases c21 : x1 = 9
  · rw [if_pos c21] at hT
    refine kj_tableIn (x := x1) (off := 146) (tgt := 147) dX10_family_1 (by rw [c21]; decide +kernel) (by rw [c21]; decide +kernel) (by rw [c21]; decide +kernel) rfl ?_
    refine kj_aload_n dX10_family_147 (pc' := 148) rfl rfl rfl ?_
    refine kj_getR f_RX10_54 rfl (Nat.lt_of_lt_of_le (Nat.le_of_ble_eq_true rfl : 0 < 120) hE.1) (hE.2 _ _) (q := 93) rfl dX10_family_148 (pc' := 151) rfl ?_
    refine kj_aload_n dX10_family_151 (pc' := 152) rfl rfl rfl ?_
    refine kj_getR f_RX10_10 rfl (Nat.lt_of_lt_of_le (Nat.le_of_ble_eq_true rfl : 0 < 120) hE.1) (hE.2 _ _) (q := 1) rfl dX10_family_152 (pc' := 155) rfl ?_
    refine kj_getR f_RX10_238 rfl (Nat.lt_of_lt_of_le (Nat.le_of_ble_eq_true rfl : 1 < 120) hE.1) (hE.2 _ _) (q := 6) rfl dX10_family_155 (pc' := 158) rfl ?_
    obtain ⟨t22, ht22, hT⟩ := bind_some' hT
    refine kcVz (as := [.inr 6]) (st := []) l_RX10_241 (m_X0_isProof hE rfl (Nat.lt_of_lt_of_le (Nat.le_of_ble_eq_true rfl : 6 < 120) hE.1) σ ht22) rfl (Nat.lt_of_lt_of_le (Nat.le_of_ble_eq_true rfl : 93 < 120) hE.1) rfl ⟨⟨rfl, rfl⟩, Nat.le_of_ble_eq_true rfl, Nat.le_of_ble_eq_true rfl⟩ (Nat.le_of_ble_eq_true rfl) dX10_family_158 (pc' := 161) rfl (fun z23 => ?_)
    refine kcSi (as := [.inl t22]) (st := []) l_RX10_195 (m_X10_bit hE σ t22 rfl) rfl ⟨⟨rfl, rfl⟩, Nat.le_of_ble_eq_true rfl, Nat.le_of_ble_eq_true rfl⟩ (Nat.le_of_ble_eq_true rfl) dX10_family_161 (pc' := 164) rfl ?_
    have hR := Option.some.inj hT
    subst hR
    exact kj_iret rfl dX10_family_164 (by subst hQ; exact ⟨rfl, rfl⟩)
  rw [if_neg c21] at hT
  by_cases c24 : x1 = 10
  · rw [if_pos c24] at hT
    refine kj_tableIn (x := x1) (off := 164) (tgt := 165) dX10_family_1 (by rw [c24]; decide +kernel) (by rw [c24]; decide +kernel) (by rw [c24]; decide +kernel) rfl ?_
    refine kj_aload_n dX10_family_165 (pc' := 166) rfl rfl rfl ?_
    refine kj_getR f_RX10_54 rfl (Nat.lt_of_lt_of_le (Nat.le_of_ble_eq_true rfl : 0 < 120) hE.1) (hE.2 _ _) (q := 93) rfl dX10_family_166 (pc' := 169) rfl ?_
    refine kj_aload_n dX10_family_169 (pc' := 170) rfl rfl rfl ?_
    refine kj_getR f_RX10_10 rfl (Nat.lt_of_lt_of_le (Nat.le_of_ble_eq_true rfl : 0 < 120) hE.1) (hE.2 _ _) (q := 1) rfl dX10_family_170 (pc' := 173) rfl ?_
    refine kj_getR f_RX10_238 rfl (Nat.lt_of_lt_of_le (Nat.le_of_ble_eq_true rfl : 1 < 120) hE.1) (hE.2 _ _) (q := 6) rfl dX10_family_173 (pc' := 176) rfl ?_
    obtain ⟨t25, ht25, hT⟩ := bind_some' hT
    refine kcVi (as := [.inr 6]) (st := []) l_RX10_245 (m_X0_massOfAll hE rfl (Nat.lt_of_lt_of_le (Nat.le_of_ble_eq_true rfl : 6 < 120) hE.1) σ ht25) rfl (Nat.lt_of_lt_of_le (Nat.le_of_ble_eq_true rfl : 93 < 120) hE.1) rfl ⟨⟨rfl, rfl⟩, Nat.le_of_ble_eq_true rfl, Nat.le_of_ble_eq_true rfl⟩ (Nat.le_of_ble_eq_true rfl) dX10_family_176 (pc' := 179) rfl ?_
    have hR := Option.some.inj hT
    subst hR
    exact kj_iret rfl dX10_family_179 (by subst hQ; exact ⟨rfl, rfl⟩)
  rw [if_neg c24] at hT
  by_cases c26 : x1 = 11
  · rw [if_pos c26] at hT
    refine kj_tableIn (x := x1) (off := 179) (tgt := 180) dX10_family_1 (by rw [c26]; decide +kernel) (by rw [c26]; decide +kernel) (by rw [c26]; decide +kernel) rfl ?_
    refine kj_aload_n dX10_family_180 (pc' := 181) rfl rfl rfl ?_
    refine kj_getR f_RX10_63 rfl (Nat.lt_of_lt_of_le (Nat.le_of_ble_eq_true rfl : 0 < 120) hE.1) (hE.2 _ _) (q := 103) rfl dX10_family_181 (pc' := 184) rfl ?_
    refine kj_iconst dX10_family_184 (pc' := 185) rfl kc_0 ?_
    refine kj_iconst dX10_family_185 (pc' := 186) rfl kc_1 ?_
    obtain ⟨t27, ht27, hT⟩ := bind_some' hT
    obtain ⟨t27, σ28⟩ := t27
    dsimp only at hT
    refine kcVi (as := [.inl 0, .inl 1]) (st := []) l_RX10_249 (m_X2_coversOf hE σ 0 1 ht27) rfl (Nat.lt_of_lt_of_le (Nat.le_of_ble_eq_true rfl : 103 < 120) hE.1) rfl ⟨⟨rfl, rfl⟩, Nat.le_of_ble_eq_true rfl, Nat.le_of_ble_eq_true rfl⟩ (Nat.le_of_ble_eq_true rfl) dX10_family_186 (pc' := 189) rfl ?_
    have hR := Option.some.inj hT
    subst hR
    exact kj_iret rfl dX10_family_189 (by subst hQ; exact ⟨rfl, rfl⟩)
  rw [if_neg c26] at hT
  by_cases c29 : x1 = 12
  · rw [if_pos c29] at hT
    refine kj_tableIn (x := x1) (off := 189) (tgt := 190) dX10_family_1 (by rw [c29]; decide +kernel) (by rw [c29]; decide +kernel) (by rw [c29]; decide +kernel) rfl ?_
    refine kj_aload_n dX10_family_190 (pc' := 191) rfl rfl rfl ?_
    refine kj_getR f_RX10_63 rfl (Nat.lt_of_lt_of_le (Nat.le_of_ble_eq_true rfl : 0 < 120) hE.1) (hE.2 _ _) (q := 103) rfl dX10_family_191 (pc' := 194) rfl ?_
    refine kj_aload_n dX10_family_194 (pc' := 195) rfl rfl rfl ?_
    refine kj_getR f_RX10_54 rfl (Nat.lt_of_lt_of_le (Nat.le_of_ble_eq_true rfl : 0 < 120) hE.1) (hE.2 _ _) (q := 93) rfl dX10_family_195 (pc' := 198) rfl ?_
    refine kj_getR f_RX10_69 rfl (Nat.lt_of_lt_of_le (Nat.le_of_ble_eq_true rfl : 93 < 120) hE.1) (hE.2 _ _) (q := 95) rfl dX10_family_198 (pc' := 201) rfl ?_
    refine kj_getI f_RX10_100 rfl (Nat.lt_of_lt_of_le (Nat.le_of_ble_eq_true rfl : 95 < 120) hE.1) dX10_family_201 (pc' := 204) rfl ?_
    refine kj_iconst dX10_family_204 (pc' := 205) rfl kc_1 ?_
    refine kj_isub dX10_family_205 (pc' := 206) rfl ?_
    refine kj_iconst dX10_family_206 (pc' := 207) rfl kc_0 ?_
    obtain ⟨t30, ht30, hT⟩ := bind_some' hT
    obtain ⟨t30, σ31⟩ := t30
    dsimp only at hT
    refine kcVi (as := [.inl ((σ 95 1) - 1), .inl 0]) (st := []) l_RX10_249 (m_X2_coversOf hE σ ((σ 95 1) - 1) 0 ht30) rfl (Nat.lt_of_lt_of_le (Nat.le_of_ble_eq_true rfl : 103 < 120) hE.1) rfl ⟨⟨rfl, rfl⟩, Nat.le_of_ble_eq_true rfl, Nat.le_of_ble_eq_true rfl⟩ (Nat.le_of_ble_eq_true rfl) dX10_family_207 (pc' := 210) rfl ?_
    have hR := Option.some.inj hT
    subst hR
    exact kj_iret rfl dX10_family_210 (by subst hQ; exact ⟨rfl, rfl⟩)
  rw [if_neg c29] at hT
  refine kj_tableOut (x := x1) (tgt := 211) dX10_family_1 (tb_out (hi := 12) (fun k hk => by rcases (show k = 0 ∨ k = 1 ∨ k = 2 ∨ k = 3 ∨ k = 4 ∨ k = 5 ∨ k = 6 ∨ k = 7 ∨ k = 8 ∨ k = 9 ∨ k = 10 ∨ k = 11 ∨ k = 12  from by omega) with rfl | rfl | rfl | rfl | rfl | rfl | rfl | rfl | rfl | rfl | rfl | rfl | rfl <;> assumption) (by decide)) rfl ?_
  refine kj_iconst dX10_family_211 (pc' := 212) rfl kc_m1 ?_
  have hR := Option.some.inj hT
  subst hR
  exact kj_iret rfl dX10_family_212 (by subst hQ; exact ⟨rfl, rfl⟩)
def X10_sized_J51 (rec16 : Int32 × Int32 → Option (Int32)) (y2 : Int32) (y3 : Int32) : Option (Int32) :=
  rec16 (y2, y3 + 1)
def X10_sized_B16 (σ : Wd) (x1 : Int32) (rec16 : Int32 × Int32 → Option (Int32)) : Int32 × Int32 → Option (Int32)
  | (x2, x3) => (if (σ 95 1) ≤ x3 then some x2 else ((X4_at σ 95 x3).bind fun t5 => (if (J6_bitCount_0f7a4 t5) = x1 then X10_sized_J51 rec16 (x2 + 1) x3 else X10_sized_J51 rec16 x2 x3)))
def X10_sized (σ : Wd) (x1 : Int32) : Option (Int32) :=
  (if x1 < 0 then some (-1) else (if x1 ≤ 7 then (lp (X10_sized_B16 σ x1) FU (0, 0)) else some (-1)))
set_option maxRecDepth 100000 in
set_option maxHeartbeats 4000000 in
theorem m_X10_sized {E : JE} (hE : kOk 120 E) (σ : Wd) (x1 : Int32) {res : Int32} (hT : X10_sized σ x1 = some res) : kMt E yX10_sized mX10_sized rmX10_sized [.inr 0, .inl x1] σ (kQi res σ) := by
  refine kMt_of (by decide +kernel) rfl (Nat.le_of_ble_eq_true rfl) ?_
  generalize hQ : (kQi res σ) = Q
  show KJ E mX10_sized rmX10_sized 0 [some (.inr 0), some (.inl x1)] [] σ Q
  unfold X10_sized at hT
  refine kj_iload_n dX10_sized_0 (pc' := 1) rfl rfl rfl ?_
  refine kj_if_lt dX10_sized_1 (tgt := 10) rfl (pc' := 4) rfl (fun c1 => ?_) (fun c1 => ?_)
  · rw [if_pos c1] at hT
    refine kj_iconst dX10_sized_10 (pc' := 11) rfl kc_m1 ?_
    have hR := Option.some.inj hT
    subst hR
    exact kj_iret rfl dX10_sized_11 (by subst hQ; exact ⟨rfl, rfl⟩)
  · rw [if_neg c1] at hT
    refine kj_iload_n dX10_sized_4 (pc' := 5) rfl rfl rfl ?_
    refine kj_bipush dX10_sized_5 (pc' := 7) rfl kb_7 ?_
    refine kj_icmp_le dX10_sized_7 (tgt := 12) rfl (pc' := 10) rfl (fun c2 => ?_) (fun c2 => ?_)
    · rw [if_pos c2] at hT
      refine kj_iconst dX10_sized_12 (pc' := 13) rfl kc_0 ?_
      refine kj_istore_n dX10_sized_13 (pc' := 14) rfl rfl (Nat.le_of_ble_eq_true rfl) (ls' := [some (.inr 0), some (.inl x1), some (.inl 0)]) rfl ?_
      refine kj_iconst dX10_sized_14 (pc' := 15) rfl kc_0 ?_
      refine kj_istore_n dX10_sized_15 (pc' := 16) rfl rfl (Nat.le_of_ble_eq_true rfl) (ls' := [some (.inr 0), some (.inl x1), some (.inl 0), some (.inl 0)]) rfl ?_
      refine lp_ind (P := fun s => KJ E mX10_sized rmX10_sized 16 [some (.inr 0), some (.inl x1), some (.inl s.1), some (.inl s.2)] [] σ Q) (fun rec16 s ih16 hT => ?_) FU (0, 0) hT
      obtain ⟨x2, x3⟩ := s
      show KJ E mX10_sized rmX10_sized 16 [some (.inr 0), some (.inl x1), some (.inl x2), some (.inl x3)] [] σ Q
      rw [X10_sized_B16] at hT
      have hJ51_16 : ∀ y2 y3, X10_sized_J51 rec16 y2 y3 = some res → KJ E mX10_sized rmX10_sized 51 [some (.inr 0), some (.inl x1), some (.inl y2), some (.inl y3)] [] σ Q := by
        intro y2 y3 hT
        unfold X10_sized_J51 at hT
        refine kj_iinc dX10_sized_51 (pc' := 54) rfl rfl (congrArg (_ + ·) kc_1) (Nat.le_of_ble_eq_true rfl) (ls' := [some (.inr 0), some (.inl x1), some (.inl y2), some (.inl (y3 + 1))]) rfl ?_
        refine kj_goto dX10_sized_54 (pc' := 16) rfl ?_
        exact ih16 (y2, y3 + 1) hT
      refine kj_iload_n dX10_sized_16 (pc' := 17) rfl rfl rfl ?_
      refine kj_aload_n dX10_sized_17 (pc' := 18) rfl rfl rfl ?_
      refine kj_getR f_RX10_54 rfl (Nat.lt_of_lt_of_le (Nat.le_of_ble_eq_true rfl : 0 < 120) hE.1) (hE.2 _ _) (q := 93) rfl dX10_sized_18 (pc' := 21) rfl ?_
      refine kj_getR f_RX10_69 rfl (Nat.lt_of_lt_of_le (Nat.le_of_ble_eq_true rfl : 93 < 120) hE.1) (hE.2 _ _) (q := 95) rfl dX10_sized_21 (pc' := 24) rfl ?_
      refine kj_getI f_RX10_100 rfl (Nat.lt_of_lt_of_le (Nat.le_of_ble_eq_true rfl : 95 < 120) hE.1) dX10_sized_24 (pc' := 27) rfl ?_
      refine kj_icmp_ge dX10_sized_27 (tgt := 57) rfl (pc' := 30) rfl (fun c4 => ?_) (fun c4 => ?_)
      · rw [if_pos c4] at hT
        refine kj_iload_n dX10_sized_57 (pc' := 58) rfl rfl rfl ?_
        have hR := Option.some.inj hT
        subst hR
        exact kj_iret rfl dX10_sized_58 (by subst hQ; exact ⟨rfl, rfl⟩)
      · rw [if_neg c4] at hT
        refine kj_aload_n dX10_sized_30 (pc' := 31) rfl rfl rfl ?_
        refine kj_getR f_RX10_54 rfl (Nat.lt_of_lt_of_le (Nat.le_of_ble_eq_true rfl : 0 < 120) hE.1) (hE.2 _ _) (q := 93) rfl dX10_sized_31 (pc' := 34) rfl ?_
        refine kj_getR f_RX10_69 rfl (Nat.lt_of_lt_of_le (Nat.le_of_ble_eq_true rfl : 93 < 120) hE.1) (hE.2 _ _) (q := 95) rfl dX10_sized_34 (pc' := 37) rfl ?_
        refine kj_iload_n dX10_sized_37 (pc' := 38) rfl rfl rfl ?_
        obtain ⟨t5, ht5, hT⟩ := bind_some' hT
        refine kcVi (as := [.inl x3]) (st := []) l_RX10_148 (m_X4_at hE rfl σ x3 ht5) rfl (Nat.lt_of_lt_of_le (Nat.le_of_ble_eq_true rfl : 95 < 120) hE.1) rfl ⟨⟨rfl, rfl⟩, Nat.le_of_ble_eq_true rfl, Nat.le_of_ble_eq_true rfl⟩ (Nat.le_of_ble_eq_true rfl) dX10_sized_38 (pc' := 41) rfl ?_
        refine kcSi (as := [.inl t5]) (st := []) l_RX10_253 (m_J6_bitCount_0f7a4 (Nat.zero_le _) σ t5 rfl) rfl ⟨⟨rfl, rfl⟩, Nat.le_of_ble_eq_true rfl, Nat.le_of_ble_eq_true rfl⟩ (Nat.le_of_ble_eq_true rfl) dX10_sized_41 (pc' := 44) rfl ?_
        refine kj_iload_n dX10_sized_44 (pc' := 45) rfl rfl rfl ?_
        refine kj_icmp_ne dX10_sized_45 (tgt := 51) rfl (pc' := 48) rfl (fun c6 => ?_) (fun c6 => ?_)
        · rw [if_neg c6] at hT
          exact hJ51_16 x2 x3 hT
        · rw [if_pos c6] at hT
          refine kj_iinc dX10_sized_48 (pc' := 51) rfl rfl (congrArg (_ + ·) kc_1) (Nat.le_of_ble_eq_true rfl) (ls' := [some (.inr 0), some (.inl x1), some (.inl (x2 + 1)), some (.inl x3)]) rfl ?_
          exact hJ51_16 (x2 + 1) x3 hT
    · rw [if_neg c2] at hT
      refine kj_iconst dX10_sized_10 (pc' := 11) rfl kc_m1 ?_
      have hR := Option.some.inj hT
      subst hR
      exact kj_iret rfl dX10_sized_11 (by subst hQ; exact ⟨rfl, rfl⟩)
def X10_commonDivisor_B7 (rec7 : Int32 × Int32 × Int32 → Option (Int32)) : Int32 × Int32 × Int32 → Option (Int32)
  | (x2, x3, x4) => (if 64 ≤ x4 then some x2 else (if x3 = 0 then some x2 else (ckZ x3 <| rec7 (x3, x2 % x3, x4 + 1))))
def X10_commonDivisor (x0 : Int32) (x1 : Int32) : Option (Int32) :=
  (lp (X10_commonDivisor_B7) FU (x0, x1, 0))
set_option maxRecDepth 100000 in
set_option maxHeartbeats 4000000 in
theorem m_X10_commonDivisor {E : JE} (hE : kOk 120 E) (σ : Wd) (x0 : Int32) (x1 : Int32) {res : Int32} (hT : X10_commonDivisor x0 x1 = some res) : kMt E yX10_commonDivisor mX10_commonDivisor rmX10_commonDivisor [.inl x0, .inl x1] σ (kQi res σ) := by
  refine kMt_of (by decide +kernel) rfl (Nat.le_of_ble_eq_true rfl) ?_
  generalize hQ : (kQi res σ) = Q
  show KJ E mX10_commonDivisor rmX10_commonDivisor 0 [some (.inl x0), some (.inl x1)] [] σ Q
  unfold X10_commonDivisor at hT
  refine kj_iload_n dX10_commonDivisor_0 (pc' := 1) rfl rfl rfl ?_
  refine kj_istore_n dX10_commonDivisor_1 (pc' := 2) rfl rfl (Nat.le_of_ble_eq_true rfl) (ls' := [some (.inl x0), some (.inl x1), some (.inl x0)]) rfl ?_
  refine kj_iload_n dX10_commonDivisor_2 (pc' := 3) rfl rfl rfl ?_
  refine kj_istore_n dX10_commonDivisor_3 (pc' := 4) rfl rfl (Nat.le_of_ble_eq_true rfl) (ls' := [some (.inl x0), some (.inl x1), some (.inl x0), some (.inl x1)]) rfl ?_
  refine kj_iconst dX10_commonDivisor_4 (pc' := 5) rfl kc_0 ?_
  refine kj_istore dX10_commonDivisor_5 (pc' := 7) rfl (Nat.le_of_ble_eq_true rfl) (ls' := [some (.inl x0), some (.inl x1), some (.inl x0), some (.inl x1), some (.inl 0)]) rfl ?_
  refine kj_keep [false, false, true, true, true] (ls' := [none, none, some (.inl x0), some (.inl x1), some (.inl 0)]) rfl ?_
  refine lp_ind (P := fun s => KJ E mX10_commonDivisor rmX10_commonDivisor 7 [none, none, some (.inl s.1), some (.inl s.2.1), some (.inl s.2.2)] [] σ Q) (fun rec7 s ih7 hT => ?_) FU (x0, x1, 0) hT
  obtain ⟨x2, x3, x4⟩ := s
  show KJ E mX10_commonDivisor rmX10_commonDivisor 7 [none, none, some (.inl x2), some (.inl x3), some (.inl x4)] [] σ Q
  rw [X10_commonDivisor_B7] at hT
  refine kj_iload dX10_commonDivisor_7 (pc' := 9) rfl rfl ?_
  refine kj_bipush dX10_commonDivisor_9 (pc' := 11) rfl kb_64 ?_
  refine kj_icmp_ge dX10_commonDivisor_11 (tgt := 34) rfl (pc' := 14) rfl (fun c2 => ?_) (fun c2 => ?_)
  · rw [if_pos c2] at hT
    refine kj_iload_n dX10_commonDivisor_34 (pc' := 35) rfl rfl rfl ?_
    have hR := Option.some.inj hT
    subst hR
    exact kj_iret rfl dX10_commonDivisor_35 (by subst hQ; exact ⟨rfl, rfl⟩)
  · rw [if_neg c2] at hT
    refine kj_iload_n dX10_commonDivisor_14 (pc' := 15) rfl rfl rfl ?_
    refine kj_if_eq dX10_commonDivisor_15 (tgt := 34) rfl (pc' := 18) rfl (fun c3 => ?_) (fun c3 => ?_)
    · rw [if_pos c3] at hT
      refine kj_iload_n dX10_commonDivisor_34 (pc' := 35) rfl rfl rfl ?_
      have hR := Option.some.inj hT
      subst hR
      exact kj_iret rfl dX10_commonDivisor_35 (by subst hQ; exact ⟨rfl, rfl⟩)
    · rw [if_neg c3] at hT
      refine kj_iload_n dX10_commonDivisor_18 (pc' := 19) rfl rfl rfl ?_
      refine kj_iload_n dX10_commonDivisor_19 (pc' := 20) rfl rfl rfl ?_
      obtain ⟨hz4, hT⟩ := ckZ_some hT
      refine kj_irem dX10_commonDivisor_20 (pc' := 21) rfl hz4 ?_
      refine kj_istore dX10_commonDivisor_21 (pc' := 23) rfl (Nat.le_of_ble_eq_true rfl) (ls' := [none, none, some (.inl x2), some (.inl x3), some (.inl x4), some (.inl (x2 % x3))]) rfl ?_
      refine kj_iload_n dX10_commonDivisor_23 (pc' := 24) rfl rfl rfl ?_
      refine kj_istore_n dX10_commonDivisor_24 (pc' := 25) rfl rfl (Nat.le_of_ble_eq_true rfl) (ls' := [none, none, some (.inl x3), some (.inl x3), some (.inl x4), some (.inl (x2 % x3))]) rfl ?_
      refine kj_iload dX10_commonDivisor_25 (pc' := 27) rfl rfl ?_
      refine kj_istore_n dX10_commonDivisor_27 (pc' := 28) rfl rfl (Nat.le_of_ble_eq_true rfl) (ls' := [none, none, some (.inl x3), some (.inl (x2 % x3)), some (.inl x4), some (.inl (x2 % x3))]) rfl ?_
      refine kj_iinc dX10_commonDivisor_28 (pc' := 31) rfl rfl (congrArg (_ + ·) kc_1) (Nat.le_of_ble_eq_true rfl) (ls' := [none, none, some (.inl x3), some (.inl (x2 % x3)), some (.inl (x4 + 1)), some (.inl (x2 % x3))]) rfl ?_
      refine kj_goto dX10_commonDivisor_31 (pc' := 7) rfl ?_
      refine kj_keep [false, false, true, true, true] (ls' := [none, none, some (.inl x3), some (.inl (x2 % x3)), some (.inl (x4 + 1))]) rfl ?_
      exact ih7 (x3, x2 % x3, x4 + 1) hT
def X10_mean_J40 (σ : Wd) (x2 : Int32) (y3 : Int32) : Option (Int32) :=
  ((X10_commonDivisor y3 (σ 95 1)).bind fun t4 => (if 0 < t4 then (if x2 = 0 then (ckZ t4 <| some (y3 / t4)) else (ckZ t4 <| some ((σ 95 1) / t4))) else some (-1)))
def X10_mean_J11 (x1 : Int32) (σ : Wd) (x2 : Int32) : Option (Int32) :=
  (if x1 = 0 then ((X0_sizeOfAll σ).bind fun t9 => X10_mean_J40 σ x2 t9) else ((X0_massOfAll σ 6).bind fun t3 => X10_mean_J40 σ x2 t3))
def X10_mean (σ : Wd) (x1 : Int32) (x2 : Int32) : Option (Int32) :=
  (if x1 = 0 then X10_mean_J11 x1 σ x2 else (if x1 = 1 then X10_mean_J11 x1 σ x2 else some (-1)))
set_option maxRecDepth 100000 in
set_option maxHeartbeats 4000000 in
theorem m_X10_mean {E : JE} (hE : kOk 120 E) (σ : Wd) (x1 : Int32) (x2 : Int32) {res : Int32} (hT : X10_mean σ x1 x2 = some res) : kMt E yX10_mean mX10_mean rmX10_mean [.inr 0, .inl x1, .inl x2] σ (kQi res σ) := by
  refine kMt_of (by decide +kernel) rfl (Nat.le_of_ble_eq_true rfl) ?_
  generalize hQ : (kQi res σ) = Q
  show KJ E mX10_mean rmX10_mean 0 [some (.inr 0), some (.inl x1), some (.inl x2)] [] σ Q
  unfold X10_mean at hT
  have hJ40 : ∀ y3, X10_mean_J40 σ x2 y3 = some res → KJ E mX10_mean rmX10_mean 40 [some (.inr 0), none, some (.inl x2), some (.inl y3)] [] σ Q := by
    intro y3 hT
    unfold X10_mean_J40 at hT
    refine kj_iload_n dX10_mean_40 (pc' := 41) rfl rfl rfl ?_
    refine kj_aload_n dX10_mean_41 (pc' := 42) rfl rfl rfl ?_
    refine kj_getR f_RX10_54 rfl (Nat.lt_of_lt_of_le (Nat.le_of_ble_eq_true rfl : 0 < 120) hE.1) (hE.2 _ _) (q := 93) rfl dX10_mean_42 (pc' := 45) rfl ?_
    refine kj_getR f_RX10_69 rfl (Nat.lt_of_lt_of_le (Nat.le_of_ble_eq_true rfl : 93 < 120) hE.1) (hE.2 _ _) (q := 95) rfl dX10_mean_45 (pc' := 48) rfl ?_
    refine kj_getI f_RX10_100 rfl (Nat.lt_of_lt_of_le (Nat.le_of_ble_eq_true rfl : 95 < 120) hE.1) dX10_mean_48 (pc' := 51) rfl ?_
    obtain ⟨t4, ht4, hT⟩ := bind_some' hT
    refine kcSi (as := [.inl y3, .inl (σ 95 1)]) (st := []) l_RX10_261 (m_X10_commonDivisor hE σ y3 (σ 95 1) ht4) rfl ⟨⟨rfl, rfl⟩, Nat.le_of_ble_eq_true rfl, Nat.le_of_ble_eq_true rfl⟩ (Nat.le_of_ble_eq_true rfl) dX10_mean_51 (pc' := 54) rfl ?_
    refine kj_istore dX10_mean_54 (pc' := 56) rfl (Nat.le_of_ble_eq_true rfl) (ls' := [some (.inr 0), none, some (.inl x2), some (.inl y3), some (.inl t4)]) rfl ?_
    refine kj_iload dX10_mean_56 (pc' := 58) rfl rfl ?_
    refine kj_if_gt dX10_mean_58 (tgt := 63) rfl (pc' := 61) rfl (fun c5 => ?_) (fun c5 => ?_)
    · rw [if_pos c5] at hT
      refine kj_iload_n dX10_mean_63 (pc' := 64) rfl rfl rfl ?_
      refine kj_if_eq dX10_mean_64 (tgt := 80) rfl (pc' := 67) rfl (fun c6 => ?_) (fun c6 => ?_)
      · rw [if_pos c6] at hT
        refine kj_iload_n dX10_mean_80 (pc' := 81) rfl rfl rfl ?_
        refine kj_iload dX10_mean_81 (pc' := 83) rfl rfl ?_
        obtain ⟨hz7, hT⟩ := ckZ_some hT
        refine kj_idiv dX10_mean_83 (pc' := 84) rfl hz7 ?_
        have hR := Option.some.inj hT
        subst hR
        exact kj_iret rfl dX10_mean_84 (by subst hQ; exact ⟨rfl, rfl⟩)
      · rw [if_neg c6] at hT
        refine kj_aload_n dX10_mean_67 (pc' := 68) rfl rfl rfl ?_
        refine kj_getR f_RX10_54 rfl (Nat.lt_of_lt_of_le (Nat.le_of_ble_eq_true rfl : 0 < 120) hE.1) (hE.2 _ _) (q := 93) rfl dX10_mean_68 (pc' := 71) rfl ?_
        refine kj_getR f_RX10_69 rfl (Nat.lt_of_lt_of_le (Nat.le_of_ble_eq_true rfl : 93 < 120) hE.1) (hE.2 _ _) (q := 95) rfl dX10_mean_71 (pc' := 74) rfl ?_
        refine kj_getI f_RX10_100 rfl (Nat.lt_of_lt_of_le (Nat.le_of_ble_eq_true rfl : 95 < 120) hE.1) dX10_mean_74 (pc' := 77) rfl ?_
        refine kj_goto dX10_mean_77 (pc' := 81) rfl ?_
        refine kj_iload dX10_mean_81 (pc' := 83) rfl rfl ?_
        obtain ⟨hz8, hT⟩ := ckZ_some hT
        refine kj_idiv dX10_mean_83 (pc' := 84) rfl hz8 ?_
        have hR := Option.some.inj hT
        subst hR
        exact kj_iret rfl dX10_mean_84 (by subst hQ; exact ⟨rfl, rfl⟩)
    · rw [if_neg c5] at hT
      refine kj_iconst dX10_mean_61 (pc' := 62) rfl kc_m1 ?_
      have hR := Option.some.inj hT
      subst hR
      exact kj_iret rfl dX10_mean_62 (by subst hQ; exact ⟨rfl, rfl⟩)
  have hJ11 : ∀ (_ : Unit), X10_mean_J11 x1 σ x2 = some res → KJ E mX10_mean rmX10_mean 11 [some (.inr 0), some (.inl x1), some (.inl x2)] [] σ Q := by
    intro _ hT
    unfold X10_mean_J11 at hT
    refine kj_iload_n dX10_mean_11 (pc' := 12) rfl rfl rfl ?_
    refine kj_if_ne dX10_mean_12 (tgt := 25) rfl (pc' := 15) rfl (fun c2 => ?_) (fun c2 => ?_)
    · rw [if_neg c2] at hT
      refine kj_aload_n dX10_mean_25 (pc' := 26) rfl rfl rfl ?_
      refine kj_getR f_RX10_54 rfl (Nat.lt_of_lt_of_le (Nat.le_of_ble_eq_true rfl : 0 < 120) hE.1) (hE.2 _ _) (q := 93) rfl dX10_mean_26 (pc' := 29) rfl ?_
      refine kj_aload_n dX10_mean_29 (pc' := 30) rfl rfl rfl ?_
      refine kj_getR f_RX10_10 rfl (Nat.lt_of_lt_of_le (Nat.le_of_ble_eq_true rfl : 0 < 120) hE.1) (hE.2 _ _) (q := 1) rfl dX10_mean_30 (pc' := 33) rfl ?_
      refine kj_getR f_RX10_238 rfl (Nat.lt_of_lt_of_le (Nat.le_of_ble_eq_true rfl : 1 < 120) hE.1) (hE.2 _ _) (q := 6) rfl dX10_mean_33 (pc' := 36) rfl ?_
      obtain ⟨t3, ht3, hT⟩ := bind_some' hT
      refine kcVi (as := [.inr 6]) (st := []) l_RX10_245 (m_X0_massOfAll hE rfl (Nat.lt_of_lt_of_le (Nat.le_of_ble_eq_true rfl : 6 < 120) hE.1) σ ht3) rfl (Nat.lt_of_lt_of_le (Nat.le_of_ble_eq_true rfl : 93 < 120) hE.1) rfl ⟨⟨rfl, rfl⟩, Nat.le_of_ble_eq_true rfl, Nat.le_of_ble_eq_true rfl⟩ (Nat.le_of_ble_eq_true rfl) dX10_mean_36 (pc' := 39) rfl ?_
      refine kj_istore_n dX10_mean_39 (pc' := 40) rfl rfl (Nat.le_of_ble_eq_true rfl) (ls' := [some (.inr 0), some (.inl x1), some (.inl x2), some (.inl t3)]) rfl ?_
      refine kj_keep [true, false, true, true] (ls' := [some (.inr 0), none, some (.inl x2), some (.inl t3)]) rfl ?_
      exact hJ40 t3 hT
    · rw [if_pos c2] at hT
      refine kj_aload_n dX10_mean_15 (pc' := 16) rfl rfl rfl ?_
      refine kj_getR f_RX10_54 rfl (Nat.lt_of_lt_of_le (Nat.le_of_ble_eq_true rfl : 0 < 120) hE.1) (hE.2 _ _) (q := 93) rfl dX10_mean_16 (pc' := 19) rfl ?_
      obtain ⟨t9, ht9, hT⟩ := bind_some' hT
      refine kcVi (as := []) (st := []) l_RX10_258 (m_X0_sizeOfAll hE σ ht9) rfl (Nat.lt_of_lt_of_le (Nat.le_of_ble_eq_true rfl : 93 < 120) hE.1) rfl ⟨⟨rfl, rfl⟩, Nat.le_of_ble_eq_true rfl, Nat.le_of_ble_eq_true rfl⟩ (Nat.le_of_ble_eq_true rfl) dX10_mean_19 (pc' := 22) rfl ?_
      refine kj_goto dX10_mean_22 (pc' := 39) rfl ?_
      refine kj_istore_n dX10_mean_39 (pc' := 40) rfl rfl (Nat.le_of_ble_eq_true rfl) (ls' := [some (.inr 0), some (.inl x1), some (.inl x2), some (.inl t9)]) rfl ?_
      refine kj_keep [true, false, true, true] (ls' := [some (.inr 0), none, some (.inl x2), some (.inl t9)]) rfl ?_
      exact hJ40 t9 hT
  refine kj_iload_n dX10_mean_0 (pc' := 1) rfl rfl rfl ?_
  refine kj_if_eq dX10_mean_1 (tgt := 11) rfl (pc' := 4) rfl (fun c1 => ?_) (fun c1 => ?_)
  · rw [if_pos c1] at hT
    exact hJ11 () hT
  · rw [if_neg c1] at hT
    refine kj_iload_n dX10_mean_4 (pc' := 5) rfl rfl rfl ?_
    refine kj_iconst dX10_mean_5 (pc' := 6) rfl kc_1 ?_
    refine kj_icmp_eq dX10_mean_6 (tgt := 11) rfl (pc' := 9) rfl (fun c10 => ?_) (fun c10 => ?_)
    · rw [if_pos c10] at hT
      exact hJ11 () hT
    · rw [if_neg c10] at hT
      refine kj_iconst dX10_mean_9 (pc' := 10) rfl kc_m1 ?_
      have hR := Option.some.inj hT
      subst hR
      exact kj_iret rfl dX10_mean_10 (by subst hQ; exact ⟨rfl, rfl⟩)
def X10_mass (σ : Wd) (x1 : Int32) : Option (Int32) :=
  (if (X10_isSet σ x1) = 0 then some (-1) else ((X7_massOf σ 1 x1).bind fun t3 => some t3))
set_option maxRecDepth 100000 in
set_option maxHeartbeats 4000000 in
theorem m_X10_mass {E : JE} (hE : kOk 120 E) (σ : Wd) (x1 : Int32) {res : Int32} (hT : X10_mass σ x1 = some res) : kMt E yX10_mass mX10_mass rmX10_mass [.inr 0, .inl x1] σ (kQi res σ) := by
  refine kMt_of (by decide +kernel) rfl (Nat.le_of_ble_eq_true rfl) ?_
  generalize hQ : (kQi res σ) = Q
  show KJ E mX10_mass rmX10_mass 0 [some (.inr 0), some (.inl x1)] [] σ Q
  unfold X10_mass at hT
  refine kj_aload_n dX10_mass_0 (pc' := 1) rfl rfl rfl ?_
  refine kj_iload_n dX10_mass_1 (pc' := 2) rfl rfl rfl ?_
  refine kcVz (as := [.inl x1]) (st := []) l_RX10_202 (m_X10_isSet hE σ x1 rfl) rfl (Nat.lt_of_lt_of_le (Nat.le_of_ble_eq_true rfl : 0 < 120) hE.1) rfl ⟨⟨rfl, rfl⟩, Nat.le_of_ble_eq_true rfl, Nat.le_of_ble_eq_true rfl⟩ (Nat.le_of_ble_eq_true rfl) dX10_mass_2 (pc' := 5) rfl (fun z1 => ?_)
  refine kj_if_eq dX10_mass_5 (tgt := 19) rfl (pc' := 8) rfl (fun c2 => ?_) (fun c2 => ?_)
  · rw [if_pos c2] at hT
    refine kj_iconst dX10_mass_19 (pc' := 20) rfl kc_m1 ?_
    have hR := Option.some.inj hT
    subst hR
    exact kj_iret rfl dX10_mass_20 (by subst hQ; exact ⟨rfl, rfl⟩)
  · rw [if_neg c2] at hT
    refine kj_aload_n dX10_mass_8 (pc' := 9) rfl rfl rfl ?_
    refine kj_getR f_RX10_10 rfl (Nat.lt_of_lt_of_le (Nat.le_of_ble_eq_true rfl : 0 < 120) hE.1) (hE.2 _ _) (q := 1) rfl dX10_mass_9 (pc' := 12) rfl ?_
    refine kj_iload_n dX10_mass_12 (pc' := 13) rfl rfl rfl ?_
    obtain ⟨t3, ht3, hT⟩ := bind_some' hT
    refine kcVi (as := [.inl x1]) (st := []) l_RX10_264 (m_X7_massOf hE rfl σ x1 ht3) rfl (Nat.lt_of_lt_of_le (Nat.le_of_ble_eq_true rfl : 1 < 120) hE.1) rfl ⟨⟨rfl, rfl⟩, Nat.le_of_ble_eq_true rfl, Nat.le_of_ble_eq_true rfl⟩ (Nat.le_of_ble_eq_true rfl) dX10_mass_13 (pc' := 16) rfl ?_
    refine kj_goto dX10_mass_16 (pc' := 20) rfl ?_
    have hR := Option.some.inj hT
    subst hR
    exact kj_iret rfl dX10_mass_20 (by subst hQ; exact ⟨rfl, rfl⟩)
def X10_inner (σ : Wd) (x1 : Int32) : Option (Int32) :=
  (if (X10_isSet σ x1) = 0 then some (-1) else ((X0_innerOf σ x1).bind fun t3 => some t3))
set_option maxRecDepth 100000 in
set_option maxHeartbeats 4000000 in
theorem m_X10_inner {E : JE} (hE : kOk 120 E) (σ : Wd) (x1 : Int32) {res : Int32} (hT : X10_inner σ x1 = some res) : kMt E yX10_inner mX10_inner rmX10_inner [.inr 0, .inl x1] σ (kQi res σ) := by
  refine kMt_of (by decide +kernel) rfl (Nat.le_of_ble_eq_true rfl) ?_
  generalize hQ : (kQi res σ) = Q
  show KJ E mX10_inner rmX10_inner 0 [some (.inr 0), some (.inl x1)] [] σ Q
  unfold X10_inner at hT
  refine kj_aload_n dX10_inner_0 (pc' := 1) rfl rfl rfl ?_
  refine kj_iload_n dX10_inner_1 (pc' := 2) rfl rfl rfl ?_
  refine kcVz (as := [.inl x1]) (st := []) l_RX10_202 (m_X10_isSet hE σ x1 rfl) rfl (Nat.lt_of_lt_of_le (Nat.le_of_ble_eq_true rfl : 0 < 120) hE.1) rfl ⟨⟨rfl, rfl⟩, Nat.le_of_ble_eq_true rfl, Nat.le_of_ble_eq_true rfl⟩ (Nat.le_of_ble_eq_true rfl) dX10_inner_2 (pc' := 5) rfl (fun z1 => ?_)
  refine kj_if_eq dX10_inner_5 (tgt := 19) rfl (pc' := 8) rfl (fun c2 => ?_) (fun c2 => ?_)
  · rw [if_pos c2] at hT
    refine kj_iconst dX10_inner_19 (pc' := 20) rfl kc_m1 ?_
    have hR := Option.some.inj hT
    subst hR
    exact kj_iret rfl dX10_inner_20 (by subst hQ; exact ⟨rfl, rfl⟩)
  · rw [if_neg c2] at hT
    refine kj_aload_n dX10_inner_8 (pc' := 9) rfl rfl rfl ?_
    refine kj_getR f_RX10_54 rfl (Nat.lt_of_lt_of_le (Nat.le_of_ble_eq_true rfl : 0 < 120) hE.1) (hE.2 _ _) (q := 93) rfl dX10_inner_9 (pc' := 12) rfl ?_
    refine kj_iload_n dX10_inner_12 (pc' := 13) rfl rfl rfl ?_
    obtain ⟨t3, ht3, hT⟩ := bind_some' hT
    refine kcVi (as := [.inl x1]) (st := []) l_RX10_267 (m_X0_innerOf hE σ x1 ht3) rfl (Nat.lt_of_lt_of_le (Nat.le_of_ble_eq_true rfl : 93 < 120) hE.1) rfl ⟨⟨rfl, rfl⟩, Nat.le_of_ble_eq_true rfl, Nat.le_of_ble_eq_true rfl⟩ (Nat.le_of_ble_eq_true rfl) dX10_inner_13 (pc' := 16) rfl ?_
    refine kj_goto dX10_inner_16 (pc' := 20) rfl ?_
    have hR := Option.some.inj hT
    subst hR
    exact kj_iret rfl dX10_inner_20 (by subst hQ; exact ⟨rfl, rfl⟩)
def X10_hull (σ : Wd) (x1 : Int32) : Option (Int32) :=
  (if (X10_isSet σ x1) = 0 then some (-1) else ((X0_hullOf σ x1).bind fun t3 => some t3))
set_option maxRecDepth 100000 in
set_option maxHeartbeats 4000000 in
theorem m_X10_hull {E : JE} (hE : kOk 120 E) (σ : Wd) (x1 : Int32) {res : Int32} (hT : X10_hull σ x1 = some res) : kMt E yX10_hull mX10_hull rmX10_hull [.inr 0, .inl x1] σ (kQi res σ) := by
  refine kMt_of (by decide +kernel) rfl (Nat.le_of_ble_eq_true rfl) ?_
  generalize hQ : (kQi res σ) = Q
  show KJ E mX10_hull rmX10_hull 0 [some (.inr 0), some (.inl x1)] [] σ Q
  unfold X10_hull at hT
  refine kj_aload_n dX10_hull_0 (pc' := 1) rfl rfl rfl ?_
  refine kj_iload_n dX10_hull_1 (pc' := 2) rfl rfl rfl ?_
  refine kcVz (as := [.inl x1]) (st := []) l_RX10_202 (m_X10_isSet hE σ x1 rfl) rfl (Nat.lt_of_lt_of_le (Nat.le_of_ble_eq_true rfl : 0 < 120) hE.1) rfl ⟨⟨rfl, rfl⟩, Nat.le_of_ble_eq_true rfl, Nat.le_of_ble_eq_true rfl⟩ (Nat.le_of_ble_eq_true rfl) dX10_hull_2 (pc' := 5) rfl (fun z1 => ?_)
  refine kj_if_eq dX10_hull_5 (tgt := 19) rfl (pc' := 8) rfl (fun c2 => ?_) (fun c2 => ?_)
  · rw [if_pos c2] at hT
    refine kj_iconst dX10_hull_19 (pc' := 20) rfl kc_m1 ?_
    have hR := Option.some.inj hT
    subst hR
    exact kj_iret rfl dX10_hull_20 (by subst hQ; exact ⟨rfl, rfl⟩)
  · rw [if_neg c2] at hT
    refine kj_aload_n dX10_hull_8 (pc' := 9) rfl rfl rfl ?_
    refine kj_getR f_RX10_54 rfl (Nat.lt_of_lt_of_le (Nat.le_of_ble_eq_true rfl : 0 < 120) hE.1) (hE.2 _ _) (q := 93) rfl dX10_hull_9 (pc' := 12) rfl ?_
    refine kj_iload_n dX10_hull_12 (pc' := 13) rfl rfl rfl ?_
    obtain ⟨t3, ht3, hT⟩ := bind_some' hT
    refine kcVi (as := [.inl x1]) (st := []) l_RX10_270 (m_X0_hullOf hE σ x1 ht3) rfl (Nat.lt_of_lt_of_le (Nat.le_of_ble_eq_true rfl : 93 < 120) hE.1) rfl ⟨⟨rfl, rfl⟩, Nat.le_of_ble_eq_true rfl, Nat.le_of_ble_eq_true rfl⟩ (Nat.le_of_ble_eq_true rfl) dX10_hull_13 (pc' := 16) rfl ?_
    refine kj_goto dX10_hull_16 (pc' := 20) rfl ?_
    have hR := Option.some.inj hT
    subst hR
    exact kj_iret rfl dX10_hull_20 (by subst hQ; exact ⟨rfl, rfl⟩)
def X10_trace (σ : Wd) (x1 : Int32) (x2 : Int32) : Option (Int32 × Wd) :=
  (if (X10_isSet σ x1) = 0 then some ((-1), σ) else (if (-1) ≤ x2 then ((X8_take σ x1).bind fun σ4 => (if x2 = (-1) then some (σ4 113 1, σ4) else (if (σ4 113 1) ≤ x2 then some ((-2), σ4) else ((X4_at σ4 113 x2).bind fun t7 => some (t7, σ4))))) else some ((-1), σ)))
set_option maxRecDepth 100000 in
set_option maxHeartbeats 4000000 in
theorem m_X10_trace {E : JE} (hE : kOk 120 E) (σ : Wd) (x1 : Int32) (x2 : Int32) {res : Int32 × Wd} (hT : X10_trace σ x1 x2 = some res) : kMt E yX10_trace mX10_trace rmX10_trace [.inr 0, .inl x1, .inl x2] σ (kQi res.1 res.2) := by
  refine kMt_of (by decide +kernel) rfl (Nat.le_of_ble_eq_true rfl) ?_
  generalize hQ : (kQi res.1 res.2) = Q
  show KJ E mX10_trace rmX10_trace 0 [some (.inr 0), some (.inl x1), some (.inl x2)] [] σ Q
  unfold X10_trace at hT
  refine kj_aload_n dX10_trace_0 (pc' := 1) rfl rfl rfl ?_
  refine kj_iload_n dX10_trace_1 (pc' := 2) rfl rfl rfl ?_
  refine kcVz (as := [.inl x1]) (st := []) l_RX10_202 (m_X10_isSet hE σ x1 rfl) rfl (Nat.lt_of_lt_of_le (Nat.le_of_ble_eq_true rfl : 0 < 120) hE.1) rfl ⟨⟨rfl, rfl⟩, Nat.le_of_ble_eq_true rfl, Nat.le_of_ble_eq_true rfl⟩ (Nat.le_of_ble_eq_true rfl) dX10_trace_2 (pc' := 5) rfl (fun z1 => ?_)
  refine kj_if_eq dX10_trace_5 (tgt := 13) rfl (pc' := 8) rfl (fun c2 => ?_) (fun c2 => ?_)
  · rw [if_pos c2] at hT
    refine kj_iconst dX10_trace_13 (pc' := 14) rfl kc_m1 ?_
    have hR := Option.some.inj hT
    subst hR
    exact kj_iret rfl dX10_trace_14 (by subst hQ; exact ⟨rfl, rfl⟩)
  · rw [if_neg c2] at hT
    refine kj_iload_n dX10_trace_8 (pc' := 9) rfl rfl rfl ?_
    refine kj_iconst dX10_trace_9 (pc' := 10) rfl kc_m1 ?_
    refine kj_icmp_ge dX10_trace_10 (tgt := 15) rfl (pc' := 13) rfl (fun c3 => ?_) (fun c3 => ?_)
    · rw [if_pos c3] at hT
      refine kj_aload_n dX10_trace_15 (pc' := 16) rfl rfl rfl ?_
      refine kj_getR f_RX10_82 rfl (Nat.lt_of_lt_of_le (Nat.le_of_ble_eq_true rfl : 0 < 120) hE.1) (hE.2 _ _) (q := 112) rfl dX10_trace_16 (pc' := 19) rfl ?_
      refine kj_iload_n dX10_trace_19 (pc' := 20) rfl rfl rfl ?_
      obtain ⟨σ4, hσ4, hT⟩ := bind_some' hT
      refine kcVv (as := [.inl x1]) (st := []) l_RX10_273 (m_X8_take hE σ x1 hσ4) rfl (Nat.lt_of_lt_of_le (Nat.le_of_ble_eq_true rfl : 112 < 120) hE.1) rfl ⟨⟨rfl, rfl⟩, Nat.le_of_ble_eq_true rfl, Nat.le_of_ble_eq_true rfl⟩ (Nat.le_of_ble_eq_true rfl) dX10_trace_20 (pc' := 23) rfl ?_
      refine kj_iload_n dX10_trace_23 (pc' := 24) rfl rfl rfl ?_
      refine kj_iconst dX10_trace_24 (pc' := 25) rfl kc_m1 ?_
      refine kj_icmp_ne dX10_trace_25 (tgt := 39) rfl (pc' := 28) rfl (fun c5 => ?_) (fun c5 => ?_)
      · rw [if_neg c5] at hT
        refine kj_iload_n dX10_trace_39 (pc' := 40) rfl rfl rfl ?_
        refine kj_aload_n dX10_trace_40 (pc' := 41) rfl rfl rfl ?_
        refine kj_getR f_RX10_82 rfl (Nat.lt_of_lt_of_le (Nat.le_of_ble_eq_true rfl : 0 < 120) hE.1) (hE.2 _ _) (q := 112) rfl dX10_trace_41 (pc' := 44) rfl ?_
        refine kj_getR f_RX10_276 rfl (Nat.lt_of_lt_of_le (Nat.le_of_ble_eq_true rfl : 112 < 120) hE.1) (hE.2 _ _) (q := 113) rfl dX10_trace_44 (pc' := 47) rfl ?_
        refine kj_getI f_RX10_100 rfl (Nat.lt_of_lt_of_le (Nat.le_of_ble_eq_true rfl : 113 < 120) hE.1) dX10_trace_47 (pc' := 50) rfl ?_
        refine kj_icmp_ge dX10_trace_50 (tgt := 67) rfl (pc' := 53) rfl (fun c6 => ?_) (fun c6 => ?_)
        · rw [if_pos c6] at hT
          refine kj_bipush dX10_trace_67 (pc' := 69) rfl kb_m2 ?_
          have hR := Option.some.inj hT
          subst hR
          exact kj_iret rfl dX10_trace_69 (by subst hQ; exact ⟨rfl, rfl⟩)
        · rw [if_neg c6] at hT
          refine kj_aload_n dX10_trace_53 (pc' := 54) rfl rfl rfl ?_
          refine kj_getR f_RX10_82 rfl (Nat.lt_of_lt_of_le (Nat.le_of_ble_eq_true rfl : 0 < 120) hE.1) (hE.2 _ _) (q := 112) rfl dX10_trace_54 (pc' := 57) rfl ?_
          refine kj_getR f_RX10_276 rfl (Nat.lt_of_lt_of_le (Nat.le_of_ble_eq_true rfl : 112 < 120) hE.1) (hE.2 _ _) (q := 113) rfl dX10_trace_57 (pc' := 60) rfl ?_
          refine kj_iload_n dX10_trace_60 (pc' := 61) rfl rfl rfl ?_
          obtain ⟨t7, ht7, hT⟩ := bind_some' hT
          refine kcVi (as := [.inl x2]) (st := []) l_RX10_148 (m_X4_at hE rfl σ4 x2 ht7) rfl (Nat.lt_of_lt_of_le (Nat.le_of_ble_eq_true rfl : 113 < 120) hE.1) rfl ⟨⟨rfl, rfl⟩, Nat.le_of_ble_eq_true rfl, Nat.le_of_ble_eq_true rfl⟩ (Nat.le_of_ble_eq_true rfl) dX10_trace_61 (pc' := 64) rfl ?_
          refine kj_goto dX10_trace_64 (pc' := 69) rfl ?_
          have hR := Option.some.inj hT
          subst hR
          exact kj_iret rfl dX10_trace_69 (by subst hQ; exact ⟨rfl, rfl⟩)
      · rw [if_pos c5] at hT
        refine kj_aload_n dX10_trace_28 (pc' := 29) rfl rfl rfl ?_
        refine kj_getR f_RX10_82 rfl (Nat.lt_of_lt_of_le (Nat.le_of_ble_eq_true rfl : 0 < 120) hE.1) (hE.2 _ _) (q := 112) rfl dX10_trace_29 (pc' := 32) rfl ?_
        refine kj_getR f_RX10_276 rfl (Nat.lt_of_lt_of_le (Nat.le_of_ble_eq_true rfl : 112 < 120) hE.1) (hE.2 _ _) (q := 113) rfl dX10_trace_32 (pc' := 35) rfl ?_
        refine kj_getI f_RX10_100 rfl (Nat.lt_of_lt_of_le (Nat.le_of_ble_eq_true rfl : 113 < 120) hE.1) dX10_trace_35 (pc' := 38) rfl ?_
        have hR := Option.some.inj hT
        subst hR
        exact kj_iret rfl dX10_trace_38 (by subst hQ; exact ⟨rfl, rfl⟩)
    · rw [if_neg c3] at hT
      refine kj_iconst dX10_trace_13 (pc' := 14) rfl kc_m1 ?_
      have hR := Option.some.inj hT
      subst hR
      exact kj_iret rfl dX10_trace_14 (by subst hQ; exact ⟨rfl, rfl⟩)
def X10_part (σ : Wd) (x1 : Int32) (x2 : Int32) (x3 : Int32) : Option (Int32) :=
  (if (X10_isPoint σ x1) = 0 then some (-1) else (if x3 = 0 then ((X0_countPart σ x1 x2).bind fun t4 => some t4) else (if x3 = 1 then ((X0_unionOfPart σ x1 x2).bind fun t6 => some t6) else (if x3 = 2 then ((X0_commonOfPart σ x1 x2).bind fun t8 => some t8) else (if x3 = 3 then ((X0_isPartClosed σ x1 x2).bind fun t10 => some (X10_bit t10)) else some (-1))))))
set_option maxRecDepth 100000 in
set_option maxHeartbeats 4000000 in
theorem m_X10_part {E : JE} (hE : kOk 120 E) (σ : Wd) (x1 : Int32) (x2 : Int32) (x3 : Int32) {res : Int32} (hT : X10_part σ x1 x2 x3 = some res) : kMt E yX10_part mX10_part rmX10_part [.inr 0, .inl x1, .inl x2, .inl x3] σ (kQi res σ) := by
  refine kMt_of (by decide +kernel) rfl (Nat.le_of_ble_eq_true rfl) ?_
  generalize hQ : (kQi res σ) = Q
  show KJ E mX10_part rmX10_part 0 [some (.inr 0), some (.inl x1), some (.inl x2), some (.inl x3)] [] σ Q
  unfold X10_part at hT
  refine kj_aload_n dX10_part_0 (pc' := 1) rfl rfl rfl ?_
  refine kj_iload_n dX10_part_1 (pc' := 2) rfl rfl rfl ?_
  refine kcVz (as := [.inl x1]) (st := []) l_RX10_155 (m_X10_isPoint hE σ x1 rfl) rfl (Nat.lt_of_lt_of_le (Nat.le_of_ble_eq_true rfl : 0 < 120) hE.1) rfl ⟨⟨rfl, rfl⟩, Nat.le_of_ble_eq_true rfl, Nat.le_of_ble_eq_true rfl⟩ (Nat.le_of_ble_eq_true rfl) dX10_part_2 (pc' := 5) rfl (fun z1 => ?_)
  refine kj_if_ne dX10_part_5 (tgt := 10) rfl (pc' := 8) rfl (fun c2 => ?_) (fun c2 => ?_)
  · rw [if_neg c2] at hT
    refine kj_iload_n dX10_part_10 (pc' := 11) rfl rfl rfl ?_
    by_cases c3 : x3 = 0
    · rw [if_pos c3] at hT
      refine kj_tableIn (x := x3) (off := 29) (tgt := 40) dX10_part_11 (by rw [c3]; decide +kernel) (by rw [c3]; decide +kernel) (by rw [c3]; decide +kernel) rfl ?_
      refine kj_aload_n dX10_part_40 (pc' := 41) rfl rfl rfl ?_
      refine kj_getR f_RX10_54 rfl (Nat.lt_of_lt_of_le (Nat.le_of_ble_eq_true rfl : 0 < 120) hE.1) (hE.2 _ _) (q := 93) rfl dX10_part_41 (pc' := 44) rfl ?_
      refine kj_iload_n dX10_part_44 (pc' := 45) rfl rfl rfl ?_
      refine kj_iload_n dX10_part_45 (pc' := 46) rfl rfl rfl ?_
      obtain ⟨t4, ht4, hT⟩ := bind_some' hT
      refine kcVi (as := [.inl x1, .inl x2]) (st := []) l_RX10_279 (m_X0_countPart hE σ x1 x2 ht4) rfl (Nat.lt_of_lt_of_le (Nat.le_of_ble_eq_true rfl : 93 < 120) hE.1) rfl ⟨⟨rfl, rfl⟩, Nat.le_of_ble_eq_true rfl, Nat.le_of_ble_eq_true rfl⟩ (Nat.le_of_ble_eq_true rfl) dX10_part_46 (pc' := 49) rfl ?_
      have hR := Option.some.inj hT
      subst hR
      exact kj_iret rfl dX10_part_49 (by subst hQ; exact ⟨rfl, rfl⟩)
    rw [if_neg c3] at hT
    by_cases c5 : x3 = 1
    · rw [if_pos c5] at hT
      refine kj_tableIn (x := x3) (off := 39) (tgt := 50) dX10_part_11 (by rw [c5]; decide +kernel) (by rw [c5]; decide +kernel) (by rw [c5]; decide +kernel) rfl ?_
      refine kj_aload_n dX10_part_50 (pc' := 51) rfl rfl rfl ?_
      refine kj_getR f_RX10_54 rfl (Nat.lt_of_lt_of_le (Nat.le_of_ble_eq_true rfl : 0 < 120) hE.1) (hE.2 _ _) (q := 93) rfl dX10_part_51 (pc' := 54) rfl ?_
      refine kj_iload_n dX10_part_54 (pc' := 55) rfl rfl rfl ?_
      refine kj_iload_n dX10_part_55 (pc' := 56) rfl rfl rfl ?_
      obtain ⟨t6, ht6, hT⟩ := bind_some' hT
      refine kcVi (as := [.inl x1, .inl x2]) (st := []) l_RX10_282 (m_X0_unionOfPart hE σ x1 x2 ht6) rfl (Nat.lt_of_lt_of_le (Nat.le_of_ble_eq_true rfl : 93 < 120) hE.1) rfl ⟨⟨rfl, rfl⟩, Nat.le_of_ble_eq_true rfl, Nat.le_of_ble_eq_true rfl⟩ (Nat.le_of_ble_eq_true rfl) dX10_part_56 (pc' := 59) rfl ?_
      have hR := Option.some.inj hT
      subst hR
      exact kj_iret rfl dX10_part_59 (by subst hQ; exact ⟨rfl, rfl⟩)
    rw [if_neg c5] at hT
    by_cases c7 : x3 = 2
    · rw [if_pos c7] at hT
      refine kj_tableIn (x := x3) (off := 49) (tgt := 60) dX10_part_11 (by rw [c7]; decide +kernel) (by rw [c7]; decide +kernel) (by rw [c7]; decide +kernel) rfl ?_
      refine kj_aload_n dX10_part_60 (pc' := 61) rfl rfl rfl ?_
      refine kj_getR f_RX10_54 rfl (Nat.lt_of_lt_of_le (Nat.le_of_ble_eq_true rfl : 0 < 120) hE.1) (hE.2 _ _) (q := 93) rfl dX10_part_61 (pc' := 64) rfl ?_
      refine kj_iload_n dX10_part_64 (pc' := 65) rfl rfl rfl ?_
      refine kj_iload_n dX10_part_65 (pc' := 66) rfl rfl rfl ?_
      obtain ⟨t8, ht8, hT⟩ := bind_some' hT
      refine kcVi (as := [.inl x1, .inl x2]) (st := []) l_RX10_285 (m_X0_commonOfPart hE σ x1 x2 ht8) rfl (Nat.lt_of_lt_of_le (Nat.le_of_ble_eq_true rfl : 93 < 120) hE.1) rfl ⟨⟨rfl, rfl⟩, Nat.le_of_ble_eq_true rfl, Nat.le_of_ble_eq_true rfl⟩ (Nat.le_of_ble_eq_true rfl) dX10_part_66 (pc' := 69) rfl ?_
      have hR := Option.some.inj hT
      subst hR
      exact kj_iret rfl dX10_part_69 (by subst hQ; exact ⟨rfl, rfl⟩)
    rw [if_neg c7] at hT
    by_cases c9 : x3 = 3
    · rw [if_pos c9] at hT
      refine kj_tableIn (x := x3) (off := 59) (tgt := 70) dX10_part_11 (by rw [c9]; decide +kernel) (by rw [c9]; decide +kernel) (by rw [c9]; decide +kernel) rfl ?_
      refine kj_aload_n dX10_part_70 (pc' := 71) rfl rfl rfl ?_
      refine kj_getR f_RX10_54 rfl (Nat.lt_of_lt_of_le (Nat.le_of_ble_eq_true rfl : 0 < 120) hE.1) (hE.2 _ _) (q := 93) rfl dX10_part_71 (pc' := 74) rfl ?_
      refine kj_iload_n dX10_part_74 (pc' := 75) rfl rfl rfl ?_
      refine kj_iload_n dX10_part_75 (pc' := 76) rfl rfl rfl ?_
      obtain ⟨t10, ht10, hT⟩ := bind_some' hT
      refine kcVz (as := [.inl x1, .inl x2]) (st := []) l_RX10_288 (m_X0_isPartClosed hE σ x1 x2 ht10) rfl (Nat.lt_of_lt_of_le (Nat.le_of_ble_eq_true rfl : 93 < 120) hE.1) rfl ⟨⟨rfl, rfl⟩, Nat.le_of_ble_eq_true rfl, Nat.le_of_ble_eq_true rfl⟩ (Nat.le_of_ble_eq_true rfl) dX10_part_76 (pc' := 79) rfl (fun z11 => ?_)
      refine kcSi (as := [.inl t10]) (st := []) l_RX10_195 (m_X10_bit hE σ t10 rfl) rfl ⟨⟨rfl, rfl⟩, Nat.le_of_ble_eq_true rfl, Nat.le_of_ble_eq_true rfl⟩ (Nat.le_of_ble_eq_true rfl) dX10_part_79 (pc' := 82) rfl ?_
      have hR := Option.some.inj hT
      subst hR
      exact kj_iret rfl dX10_part_82 (by subst hQ; exact ⟨rfl, rfl⟩)
    rw [if_neg c9] at hT
    refine kj_tableOut (x := x3) (tgt := 83) dX10_part_11 (tb_out (hi := 3) (fun k hk => by rcases (show k = 0 ∨ k = 1 ∨ k = 2 ∨ k = 3  from by omega) with rfl | rfl | rfl | rfl <;> assumption) (by decide)) rfl ?_
    refine kj_iconst dX10_part_83 (pc' := 84) rfl kc_m1 ?_
    have hR := Option.some.inj hT
    subst hR
    exact kj_iret rfl dX10_part_84 (by subst hQ; exact ⟨rfl, rfl⟩)
  · rw [if_pos c2] at hT
    refine kj_iconst dX10_part_8 (pc' := 9) rfl kc_m1 ?_
    have hR := Option.some.inj hT
    subst hR
    exact kj_iret rfl dX10_part_9 (by subst hQ; exact ⟨rfl, rfl⟩)
def X10_isMember (σ : Wd) (x1 : Int32) : Int32 :=
  (if x1 < 0 then 0 else (if (σ 95 1) ≤ x1 then 0 else 1))
set_option maxRecDepth 100000 in
set_option maxHeartbeats 4000000 in
theorem m_X10_isMember {E : JE} (hE : kOk 120 E) (σ : Wd) (x1 : Int32) {res : Int32} (hT : X10_isMember σ x1 = res) : kMt E yX10_isMember mX10_isMember rmX10_isMember [.inr 0, .inl x1] σ (kQz res σ) := by
  refine kMt_of (by decide +kernel) rfl (Nat.le_of_ble_eq_true rfl) ?_
  generalize hQ : (kQz res σ) = Q
  show KJ E mX10_isMember rmX10_isMember 0 [some (.inr 0), some (.inl x1)] [] σ Q
  unfold X10_isMember at hT
  refine kj_iload_n dX10_isMember_0 (pc' := 1) rfl rfl rfl ?_
  refine kj_if_lt dX10_isMember_1 (tgt := 22) rfl (pc' := 4) rfl (fun c1 => ?_) (fun c1 => ?_)
  · rw [if_pos c1] at hT
    refine kj_iconst dX10_isMember_22 (pc' := 23) rfl kc_0 ?_
    subst hT
    exact kj_zret rfl (Or.inl rfl) dX10_isMember_23 (by subst hQ; exact ⟨rfl, rfl, (Or.inl rfl)⟩)
  · rw [if_neg c1] at hT
    refine kj_iload_n dX10_isMember_4 (pc' := 5) rfl rfl rfl ?_
    refine kj_aload_n dX10_isMember_5 (pc' := 6) rfl rfl rfl ?_
    refine kj_getR f_RX10_54 rfl (Nat.lt_of_lt_of_le (Nat.le_of_ble_eq_true rfl : 0 < 120) hE.1) (hE.2 _ _) (q := 93) rfl dX10_isMember_6 (pc' := 9) rfl ?_
    refine kj_getR f_RX10_69 rfl (Nat.lt_of_lt_of_le (Nat.le_of_ble_eq_true rfl : 93 < 120) hE.1) (hE.2 _ _) (q := 95) rfl dX10_isMember_9 (pc' := 12) rfl ?_
    refine kj_getI f_RX10_100 rfl (Nat.lt_of_lt_of_le (Nat.le_of_ble_eq_true rfl : 95 < 120) hE.1) dX10_isMember_12 (pc' := 15) rfl ?_
    refine kj_icmp_ge dX10_isMember_15 (tgt := 22) rfl (pc' := 18) rfl (fun c2 => ?_) (fun c2 => ?_)
    · rw [if_pos c2] at hT
      refine kj_iconst dX10_isMember_22 (pc' := 23) rfl kc_0 ?_
      subst hT
      exact kj_zret rfl (Or.inl rfl) dX10_isMember_23 (by subst hQ; exact ⟨rfl, rfl, (Or.inl rfl)⟩)
    · rw [if_neg c2] at hT
      refine kj_iconst dX10_isMember_18 (pc' := 19) rfl kc_1 ?_
      refine kj_goto dX10_isMember_19 (pc' := 23) rfl ?_
      subst hT
      exact kj_zret rfl (Or.inr rfl) dX10_isMember_23 (by subst hQ; exact ⟨rfl, rfl, (Or.inr rfl)⟩)
def X10_covers (σ : Wd) (x1 : Int32) (x2 : Int32) : Option (Int32) :=
  (if (X10_isMember σ x1) = 0 then some (-1) else (if (X10_isMember σ x2) = 0 then some (-1) else ((X4_at σ 95 x1).bind fun t5 => ((X4_at σ 95 x2).bind fun t6 => ((X0_isCover σ t5 t6).bind fun t7 => some (X10_bit t7))))))
set_option maxRecDepth 100000 in
set_option maxHeartbeats 4000000 in
theorem m_X10_covers {E : JE} (hE : kOk 120 E) (σ : Wd) (x1 : Int32) (x2 : Int32) {res : Int32} (hT : X10_covers σ x1 x2 = some res) : kMt E yX10_covers mX10_covers rmX10_covers [.inr 0, .inl x1, .inl x2] σ (kQi res σ) := by
  refine kMt_of (by decide +kernel) rfl (Nat.le_of_ble_eq_true rfl) ?_
  generalize hQ : (kQi res σ) = Q
  show KJ E mX10_covers rmX10_covers 0 [some (.inr 0), some (.inl x1), some (.inl x2)] [] σ Q
  unfold X10_covers at hT
  refine kj_aload_n dX10_covers_0 (pc' := 1) rfl rfl rfl ?_
  refine kj_iload_n dX10_covers_1 (pc' := 2) rfl rfl rfl ?_
  refine kcVz (as := [.inl x1]) (st := []) l_RX10_292 (m_X10_isMember hE σ x1 rfl) rfl (Nat.lt_of_lt_of_le (Nat.le_of_ble_eq_true rfl : 0 < 120) hE.1) rfl ⟨⟨rfl, rfl⟩, Nat.le_of_ble_eq_true rfl, Nat.le_of_ble_eq_true rfl⟩ (Nat.le_of_ble_eq_true rfl) dX10_covers_2 (pc' := 5) rfl (fun z1 => ?_)
  refine kj_if_eq dX10_covers_5 (tgt := 16) rfl (pc' := 8) rfl (fun c2 => ?_) (fun c2 => ?_)
  · rw [if_pos c2] at hT
    refine kj_iconst dX10_covers_16 (pc' := 17) rfl kc_m1 ?_
    have hR := Option.some.inj hT
    subst hR
    exact kj_iret rfl dX10_covers_17 (by subst hQ; exact ⟨rfl, rfl⟩)
  · rw [if_neg c2] at hT
    refine kj_aload_n dX10_covers_8 (pc' := 9) rfl rfl rfl ?_
    refine kj_iload_n dX10_covers_9 (pc' := 10) rfl rfl rfl ?_
    refine kcVz (as := [.inl x2]) (st := []) l_RX10_292 (m_X10_isMember hE σ x2 rfl) rfl (Nat.lt_of_lt_of_le (Nat.le_of_ble_eq_true rfl : 0 < 120) hE.1) rfl ⟨⟨rfl, rfl⟩, Nat.le_of_ble_eq_true rfl, Nat.le_of_ble_eq_true rfl⟩ (Nat.le_of_ble_eq_true rfl) dX10_covers_10 (pc' := 13) rfl (fun z3 => ?_)
    refine kj_if_ne dX10_covers_13 (tgt := 18) rfl (pc' := 16) rfl (fun c4 => ?_) (fun c4 => ?_)
    · rw [if_neg c4] at hT
      refine kj_aload_n dX10_covers_18 (pc' := 19) rfl rfl rfl ?_
      refine kj_getR f_RX10_54 rfl (Nat.lt_of_lt_of_le (Nat.le_of_ble_eq_true rfl : 0 < 120) hE.1) (hE.2 _ _) (q := 93) rfl dX10_covers_19 (pc' := 22) rfl ?_
      refine kj_aload_n dX10_covers_22 (pc' := 23) rfl rfl rfl ?_
      refine kj_getR f_RX10_54 rfl (Nat.lt_of_lt_of_le (Nat.le_of_ble_eq_true rfl : 0 < 120) hE.1) (hE.2 _ _) (q := 93) rfl dX10_covers_23 (pc' := 26) rfl ?_
      refine kj_getR f_RX10_69 rfl (Nat.lt_of_lt_of_le (Nat.le_of_ble_eq_true rfl : 93 < 120) hE.1) (hE.2 _ _) (q := 95) rfl dX10_covers_26 (pc' := 29) rfl ?_
      refine kj_iload_n dX10_covers_29 (pc' := 30) rfl rfl rfl ?_
      obtain ⟨t5, ht5, hT⟩ := bind_some' hT
      refine kcVi (as := [.inl x1]) (st := [.inr 93]) l_RX10_148 (m_X4_at hE rfl σ x1 ht5) rfl (Nat.lt_of_lt_of_le (Nat.le_of_ble_eq_true rfl : 95 < 120) hE.1) rfl ⟨⟨rfl, rfl⟩, Nat.le_of_ble_eq_true rfl, Nat.le_of_ble_eq_true rfl⟩ (Nat.le_of_ble_eq_true rfl) dX10_covers_30 (pc' := 33) rfl ?_
      refine kj_aload_n dX10_covers_33 (pc' := 34) rfl rfl rfl ?_
      refine kj_getR f_RX10_54 rfl (Nat.lt_of_lt_of_le (Nat.le_of_ble_eq_true rfl : 0 < 120) hE.1) (hE.2 _ _) (q := 93) rfl dX10_covers_34 (pc' := 37) rfl ?_
      refine kj_getR f_RX10_69 rfl (Nat.lt_of_lt_of_le (Nat.le_of_ble_eq_true rfl : 93 < 120) hE.1) (hE.2 _ _) (q := 95) rfl dX10_covers_37 (pc' := 40) rfl ?_
      refine kj_iload_n dX10_covers_40 (pc' := 41) rfl rfl rfl ?_
      obtain ⟨t6, ht6, hT⟩ := bind_some' hT
      refine kcVi (as := [.inl x2]) (st := [.inl t5, .inr 93]) l_RX10_148 (m_X4_at hE rfl σ x2 ht6) rfl (Nat.lt_of_lt_of_le (Nat.le_of_ble_eq_true rfl : 95 < 120) hE.1) rfl ⟨⟨rfl, rfl⟩, Nat.le_of_ble_eq_true rfl, Nat.le_of_ble_eq_true rfl⟩ (Nat.le_of_ble_eq_true rfl) dX10_covers_41 (pc' := 44) rfl ?_
      obtain ⟨t7, ht7, hT⟩ := bind_some' hT
      refine kcVz (as := [.inl t5, .inl t6]) (st := []) l_RX10_295 (m_X0_isCover hE σ t5 t6 ht7) rfl (Nat.lt_of_lt_of_le (Nat.le_of_ble_eq_true rfl : 93 < 120) hE.1) rfl ⟨⟨rfl, rfl⟩, Nat.le_of_ble_eq_true rfl, Nat.le_of_ble_eq_true rfl⟩ (Nat.le_of_ble_eq_true rfl) dX10_covers_44 (pc' := 47) rfl (fun z8 => ?_)
      refine kcSi (as := [.inl t7]) (st := []) l_RX10_195 (m_X10_bit hE σ t7 rfl) rfl ⟨⟨rfl, rfl⟩, Nat.le_of_ble_eq_true rfl, Nat.le_of_ble_eq_true rfl⟩ (Nat.le_of_ble_eq_true rfl) dX10_covers_47 (pc' := 50) rfl ?_
      have hR := Option.some.inj hT
      subst hR
      exact kj_iret rfl dX10_covers_50 (by subst hQ; exact ⟨rfl, rfl⟩)
    · rw [if_pos c4] at hT
      refine kj_iconst dX10_covers_16 (pc' := 17) rfl kc_m1 ?_
      have hR := Option.some.inj hT
      subst hR
      exact kj_iret rfl dX10_covers_17 (by subst hQ; exact ⟨rfl, rfl⟩)
def X10_degree (σ : Wd) (x1 : Int32) (x2 : Int32) : Option (Int32 × Wd) :=
  (if (X10_isMember σ x1) = 0 then some ((-1), σ) else ((X2_coversOf σ x1 x2).bind fun (t3, σ4) => some (t3, σ4)))
set_option maxRecDepth 100000 in
set_option maxHeartbeats 4000000 in
theorem m_X10_degree {E : JE} (hE : kOk 120 E) (σ : Wd) (x1 : Int32) (x2 : Int32) {res : Int32 × Wd} (hT : X10_degree σ x1 x2 = some res) : kMt E yX10_degree mX10_degree rmX10_degree [.inr 0, .inl x1, .inl x2] σ (kQi res.1 res.2) := by
  refine kMt_of (by decide +kernel) rfl (Nat.le_of_ble_eq_true rfl) ?_
  generalize hQ : (kQi res.1 res.2) = Q
  show KJ E mX10_degree rmX10_degree 0 [some (.inr 0), some (.inl x1), some (.inl x2)] [] σ Q
  unfold X10_degree at hT
  refine kj_aload_n dX10_degree_0 (pc' := 1) rfl rfl rfl ?_
  refine kj_iload_n dX10_degree_1 (pc' := 2) rfl rfl rfl ?_
  refine kcVz (as := [.inl x1]) (st := []) l_RX10_292 (m_X10_isMember hE σ x1 rfl) rfl (Nat.lt_of_lt_of_le (Nat.le_of_ble_eq_true rfl : 0 < 120) hE.1) rfl ⟨⟨rfl, rfl⟩, Nat.le_of_ble_eq_true rfl, Nat.le_of_ble_eq_true rfl⟩ (Nat.le_of_ble_eq_true rfl) dX10_degree_2 (pc' := 5) rfl (fun z1 => ?_)
  refine kj_if_eq dX10_degree_5 (tgt := 20) rfl (pc' := 8) rfl (fun c2 => ?_) (fun c2 => ?_)
  · rw [if_pos c2] at hT
    refine kj_iconst dX10_degree_20 (pc' := 21) rfl kc_m1 ?_
    have hR := Option.some.inj hT
    subst hR
    exact kj_iret rfl dX10_degree_21 (by subst hQ; exact ⟨rfl, rfl⟩)
  · rw [if_neg c2] at hT
    refine kj_aload_n dX10_degree_8 (pc' := 9) rfl rfl rfl ?_
    refine kj_getR f_RX10_63 rfl (Nat.lt_of_lt_of_le (Nat.le_of_ble_eq_true rfl : 0 < 120) hE.1) (hE.2 _ _) (q := 103) rfl dX10_degree_9 (pc' := 12) rfl ?_
    refine kj_iload_n dX10_degree_12 (pc' := 13) rfl rfl rfl ?_
    refine kj_iload_n dX10_degree_13 (pc' := 14) rfl rfl rfl ?_
    obtain ⟨t3, ht3, hT⟩ := bind_some' hT
    obtain ⟨t3, σ4⟩ := t3
    dsimp only at hT
    refine kcVi (as := [.inl x1, .inl x2]) (st := []) l_RX10_249 (m_X2_coversOf hE σ x1 x2 ht3) rfl (Nat.lt_of_lt_of_le (Nat.le_of_ble_eq_true rfl : 103 < 120) hE.1) rfl ⟨⟨rfl, rfl⟩, Nat.le_of_ble_eq_true rfl, Nat.le_of_ble_eq_true rfl⟩ (Nat.le_of_ble_eq_true rfl) dX10_degree_14 (pc' := 17) rfl ?_
    refine kj_goto dX10_degree_17 (pc' := 21) rfl ?_
    have hR := Option.some.inj hT
    subst hR
    exact kj_iret rfl dX10_degree_21 (by subst hQ; exact ⟨rfl, rfl⟩)
def X10_single (σ : Wd) : Option (Int32 × Wd) :=
  ((X2_coveredOnce σ).bind fun (t1, σ2) => some (t1, σ2))
set_option maxRecDepth 100000 in
set_option maxHeartbeats 4000000 in
theorem m_X10_single {E : JE} (hE : kOk 120 E) (σ : Wd) {res : Int32 × Wd} (hT : X10_single σ = some res) : kMt E yX10_single mX10_single rmX10_single [.inr 0] σ (kQi res.1 res.2) := by
  refine kMt_of (by decide +kernel) rfl (Nat.le_of_ble_eq_true rfl) ?_
  generalize hQ : (kQi res.1 res.2) = Q
  show KJ E mX10_single rmX10_single 0 [some (.inr 0)] [] σ Q
  unfold X10_single at hT
  refine kj_aload_n dX10_single_0 (pc' := 1) rfl rfl rfl ?_
  refine kj_getR f_RX10_63 rfl (Nat.lt_of_lt_of_le (Nat.le_of_ble_eq_true rfl : 0 < 120) hE.1) (hE.2 _ _) (q := 103) rfl dX10_single_1 (pc' := 4) rfl ?_
  obtain ⟨t1, ht1, hT⟩ := bind_some' hT
  obtain ⟨t1, σ2⟩ := t1
  dsimp only at hT
  refine kcVi (as := []) (st := []) l_RX10_299 (m_X2_coveredOnce hE σ ht1) rfl (Nat.lt_of_lt_of_le (Nat.le_of_ble_eq_true rfl : 103 < 120) hE.1) rfl ⟨⟨rfl, rfl⟩, Nat.le_of_ble_eq_true rfl, Nat.le_of_ble_eq_true rfl⟩ (Nat.le_of_ble_eq_true rfl) dX10_single_4 (pc' := 7) rfl ?_
  have hR := Option.some.inj hT
  subst hR
  exact kj_iret rfl dX10_single_7 (by subst hQ; exact ⟨rfl, rfl⟩)
def X10_both (σ : Wd) (x1 : Int32) (x2 : Int32) (x3 : Int32) : Option (Int32) :=
  (if (X10_isMember σ x1) = 0 then some (-1) else (if (X10_isMember σ x2) = 0 then some (-1) else ((X4_at σ 95 x1).bind fun t5 => ((X4_at σ 95 x2).bind fun t6 => (if x3 = 0 then ((X0_numberOf σ (t5 ||| t6)).bind fun t8 => some t8) else (if x3 = 1 then ((X0_innerOf σ (t5 &&& t6)).bind fun t10 => ((X0_numberOf σ t10).bind fun t11 => some t11)) else some (-1)))))))
set_option maxRecDepth 100000 in
set_option maxHeartbeats 4000000 in
theorem m_X10_both {E : JE} (hE : kOk 120 E) (σ : Wd) (x1 : Int32) (x2 : Int32) (x3 : Int32) {res : Int32} (hT : X10_both σ x1 x2 x3 = some res) : kMt E yX10_both mX10_both rmX10_both [.inr 0, .inl x1, .inl x2, .inl x3] σ (kQi res σ) := by
  refine kMt_of (by decide +kernel) rfl (Nat.le_of_ble_eq_true rfl) ?_
  generalize hQ : (kQi res σ) = Q
  show KJ E mX10_both rmX10_both 0 [some (.inr 0), some (.inl x1), some (.inl x2), some (.inl x3)] [] σ Q
  unfold X10_both at hT
  refine kj_aload_n dX10_both_0 (pc' := 1) rfl rfl rfl ?_
  refine kj_iload_n dX10_both_1 (pc' := 2) rfl rfl rfl ?_
  refine kcVz (as := [.inl x1]) (st := []) l_RX10_292 (m_X10_isMember hE σ x1 rfl) rfl (Nat.lt_of_lt_of_le (Nat.le_of_ble_eq_true rfl : 0 < 120) hE.1) rfl ⟨⟨rfl, rfl⟩, Nat.le_of_ble_eq_true rfl, Nat.le_of_ble_eq_true rfl⟩ (Nat.le_of_ble_eq_true rfl) dX10_both_2 (pc' := 5) rfl (fun z1 => ?_)
  refine kj_if_eq dX10_both_5 (tgt := 16) rfl (pc' := 8) rfl (fun c2 => ?_) (fun c2 => ?_)
  · rw [if_pos c2] at hT
    refine kj_iconst dX10_both_16 (pc' := 17) rfl kc_m1 ?_
    have hR := Option.some.inj hT
    subst hR
    exact kj_iret rfl dX10_both_17 (by subst hQ; exact ⟨rfl, rfl⟩)
  · rw [if_neg c2] at hT
    refine kj_aload_n dX10_both_8 (pc' := 9) rfl rfl rfl ?_
    refine kj_iload_n dX10_both_9 (pc' := 10) rfl rfl rfl ?_
    refine kcVz (as := [.inl x2]) (st := []) l_RX10_292 (m_X10_isMember hE σ x2 rfl) rfl (Nat.lt_of_lt_of_le (Nat.le_of_ble_eq_true rfl : 0 < 120) hE.1) rfl ⟨⟨rfl, rfl⟩, Nat.le_of_ble_eq_true rfl, Nat.le_of_ble_eq_true rfl⟩ (Nat.le_of_ble_eq_true rfl) dX10_both_10 (pc' := 13) rfl (fun z3 => ?_)
    refine kj_if_ne dX10_both_13 (tgt := 18) rfl (pc' := 16) rfl (fun c4 => ?_) (fun c4 => ?_)
    · rw [if_neg c4] at hT
      refine kj_aload_n dX10_both_18 (pc' := 19) rfl rfl rfl ?_
      refine kj_getR f_RX10_54 rfl (Nat.lt_of_lt_of_le (Nat.le_of_ble_eq_true rfl : 0 < 120) hE.1) (hE.2 _ _) (q := 93) rfl dX10_both_19 (pc' := 22) rfl ?_
      refine kj_getR f_RX10_69 rfl (Nat.lt_of_lt_of_le (Nat.le_of_ble_eq_true rfl : 93 < 120) hE.1) (hE.2 _ _) (q := 95) rfl dX10_both_22 (pc' := 25) rfl ?_
      refine kj_iload_n dX10_both_25 (pc' := 26) rfl rfl rfl ?_
      obtain ⟨t5, ht5, hT⟩ := bind_some' hT
      refine kcVi (as := [.inl x1]) (st := []) l_RX10_148 (m_X4_at hE rfl σ x1 ht5) rfl (Nat.lt_of_lt_of_le (Nat.le_of_ble_eq_true rfl : 95 < 120) hE.1) rfl ⟨⟨rfl, rfl⟩, Nat.le_of_ble_eq_true rfl, Nat.le_of_ble_eq_true rfl⟩ (Nat.le_of_ble_eq_true rfl) dX10_both_26 (pc' := 29) rfl ?_
      refine kj_istore dX10_both_29 (pc' := 31) rfl (Nat.le_of_ble_eq_true rfl) (ls' := [some (.inr 0), some (.inl x1), some (.inl x2), some (.inl x3), some (.inl t5)]) rfl ?_
      refine kj_aload_n dX10_both_31 (pc' := 32) rfl rfl rfl ?_
      refine kj_getR f_RX10_54 rfl (Nat.lt_of_lt_of_le (Nat.le_of_ble_eq_true rfl : 0 < 120) hE.1) (hE.2 _ _) (q := 93) rfl dX10_both_32 (pc' := 35) rfl ?_
      refine kj_getR f_RX10_69 rfl (Nat.lt_of_lt_of_le (Nat.le_of_ble_eq_true rfl : 93 < 120) hE.1) (hE.2 _ _) (q := 95) rfl dX10_both_35 (pc' := 38) rfl ?_
      refine kj_iload_n dX10_both_38 (pc' := 39) rfl rfl rfl ?_
      obtain ⟨t6, ht6, hT⟩ := bind_some' hT
      refine kcVi (as := [.inl x2]) (st := []) l_RX10_148 (m_X4_at hE rfl σ x2 ht6) rfl (Nat.lt_of_lt_of_le (Nat.le_of_ble_eq_true rfl : 95 < 120) hE.1) rfl ⟨⟨rfl, rfl⟩, Nat.le_of_ble_eq_true rfl, Nat.le_of_ble_eq_true rfl⟩ (Nat.le_of_ble_eq_true rfl) dX10_both_39 (pc' := 42) rfl ?_
      refine kj_istore dX10_both_42 (pc' := 44) rfl (Nat.le_of_ble_eq_true rfl) (ls' := [some (.inr 0), some (.inl x1), some (.inl x2), some (.inl x3), some (.inl t5), some (.inl t6)]) rfl ?_
      refine kj_iload_n dX10_both_44 (pc' := 45) rfl rfl rfl ?_
      by_cases c7 : x3 = 0
      · rw [if_pos c7] at hT
        refine kj_lookup (x := x3) (off := 27) (tgt := 72) dX10_both_45 (by decide +kernel) (by rw [c7]; decide +kernel) rfl ?_
        refine kj_aload_n dX10_both_72 (pc' := 73) rfl rfl rfl ?_
        refine kj_getR f_RX10_54 rfl (Nat.lt_of_lt_of_le (Nat.le_of_ble_eq_true rfl : 0 < 120) hE.1) (hE.2 _ _) (q := 93) rfl dX10_both_73 (pc' := 76) rfl ?_
        refine kj_iload dX10_both_76 (pc' := 78) rfl rfl ?_
        refine kj_iload dX10_both_78 (pc' := 80) rfl rfl ?_
        refine kj_ior dX10_both_80 (pc' := 81) rfl ?_
        obtain ⟨t8, ht8, hT⟩ := bind_some' hT
        refine kcVi (as := [.inl (t5 ||| t6)]) (st := []) l_RX10_199 (m_X0_numberOf hE σ (t5 ||| t6) ht8) rfl (Nat.lt_of_lt_of_le (Nat.le_of_ble_eq_true rfl : 93 < 120) hE.1) rfl ⟨⟨rfl, rfl⟩, Nat.le_of_ble_eq_true rfl, Nat.le_of_ble_eq_true rfl⟩ (Nat.le_of_ble_eq_true rfl) dX10_both_81 (pc' := 84) rfl ?_
        have hR := Option.some.inj hT
        subst hR
        exact kj_iret rfl dX10_both_84 (by subst hQ; exact ⟨rfl, rfl⟩)
      rw [if_neg c7] at hT
      by_cases c9 : x3 = 1
      · rw [if_pos c9] at hT
        refine kj_lookup (x := x3) (off := 40) (tgt := 85) dX10_both_45 (by decide +kernel) (by rw [c9]; decide +kernel) rfl ?_
        refine kj_aload_n dX10_both_85 (pc' := 86) rfl rfl rfl ?_
        refine kj_getR f_RX10_54 rfl (Nat.lt_of_lt_of_le (Nat.le_of_ble_eq_true rfl : 0 < 120) hE.1) (hE.2 _ _) (q := 93) rfl dX10_both_86 (pc' := 89) rfl ?_
        refine kj_aload_n dX10_both_89 (pc' := 90) rfl rfl rfl ?_
        refine kj_getR f_RX10_54 rfl (Nat.lt_of_lt_of_le (Nat.le_of_ble_eq_true rfl : 0 < 120) hE.1) (hE.2 _ _) (q := 93) rfl dX10_both_90 (pc' := 93) rfl ?_
        refine kj_iload dX10_both_93 (pc' := 95) rfl rfl ?_
        refine kj_iload dX10_both_95 (pc' := 97) rfl rfl ?_
        refine kj_iand dX10_both_97 (pc' := 98) rfl ?_
        obtain ⟨t10, ht10, hT⟩ := bind_some' hT
        refine kcVi (as := [.inl (t5 &&& t6)]) (st := [.inr 93]) l_RX10_267 (m_X0_innerOf hE σ (t5 &&& t6) ht10) rfl (Nat.lt_of_lt_of_le (Nat.le_of_ble_eq_true rfl : 93 < 120) hE.1) rfl ⟨⟨rfl, rfl⟩, Nat.le_of_ble_eq_true rfl, Nat.le_of_ble_eq_true rfl⟩ (Nat.le_of_ble_eq_true rfl) dX10_both_98 (pc' := 101) rfl ?_
        obtain ⟨t11, ht11, hT⟩ := bind_some' hT
        refine kcVi (as := [.inl t10]) (st := []) l_RX10_199 (m_X0_numberOf hE σ t10 ht11) rfl (Nat.lt_of_lt_of_le (Nat.le_of_ble_eq_true rfl : 93 < 120) hE.1) rfl ⟨⟨rfl, rfl⟩, Nat.le_of_ble_eq_true rfl, Nat.le_of_ble_eq_true rfl⟩ (Nat.le_of_ble_eq_true rfl) dX10_both_101 (pc' := 104) rfl ?_
        have hR := Option.some.inj hT
        subst hR
        exact kj_iret rfl dX10_both_104 (by subst hQ; exact ⟨rfl, rfl⟩)
      rw [if_neg c9] at hT
      refine kj_lookup (x := x3) (off := 60) (tgt := 105) dX10_both_45 (by decide +kernel) (lk_out c7 c9) rfl ?_
      refine kj_iconst dX10_both_105 (pc' := 106) rfl kc_m1 ?_
      have hR := Option.some.inj hT
      subst hR
      exact kj_iret rfl dX10_both_106 (by subst hQ; exact ⟨rfl, rfl⟩)
    · rw [if_pos c4] at hT
      refine kj_iconst dX10_both_16 (pc' := 17) rfl kc_m1 ?_
      have hR := Option.some.inj hT
      subst hR
      exact kj_iret rfl dX10_both_17 (by subst hQ; exact ⟨rfl, rfl⟩)
def X10_unshared_T113 (rec22 : Int32 → Option (Int32)) (x2 : Int32) : Option (Int32) :=
  rec22 (x2 + 1)
def X10_unshared_T107 (rec29 : Int32 → Option (Int32)) (x3 : Int32) : Option (Int32) :=
  rec29 (x3 + 1)
def X10_unshared_B37 (t2 : Int32) (σ : Wd) (x2 : Int32) (x3 : Int32) (kx37 : Option (Int32)) (rec37 : Int32 → Option (Int32)) : Int32 → Option (Int32)
  | (x4) => (if t2 ≤ x4 then kx37 else ((X4_at σ 95 x2).bind fun t9 => ((X4_at σ 95 x3).bind fun t10 => ((X4_at σ 95 x4).bind fun t11 => ((X0_sharesOut σ t9 t10 t11).bind fun t12 => (if t12 = 0 then some (((10000 * x2) + (100 * x3)) + x4) else rec37 (x4 + 1)))))))
def X10_unshared_B29 (t2 : Int32) (σ : Wd) (x2 : Int32) (kx29 : Option (Int32)) (rec29 : Int32 → Option (Int32)) : Int32 → Option (Int32)
  | (x3) => (if t2 ≤ x3 then kx29 else (lp (X10_unshared_B37 t2 σ x2 x3 (X10_unshared_T107 rec29 x3)) FU (0)))
def X10_unshared_B22 (t2 : Int32) (σ : Wd) (rec22 : Int32 → Option (Int32)) : Int32 → Option (Int32)
  | (x2) => (if t2 ≤ x2 then some (-2) else (lp (X10_unshared_B29 t2 σ x2 (X10_unshared_T113 rec22 x2)) FU (0)))
def X10_unshared (σ : Wd) : Option (Int32) :=
  (if (σ 95 1) ≤ 40 then (lett (σ 95 1) fun t2 => (lp (X10_unshared_B22 t2 σ) FU (0))) else some (-2))
set_option maxRecDepth 100000 in
set_option maxHeartbeats 4000000 in
theorem m_X10_unshared {E : JE} (hE : kOk 120 E) (σ : Wd) {res : Int32} (hT : X10_unshared σ = some res) : kMt E yX10_unshared mX10_unshared rmX10_unshared [.inr 0] σ (kQi res σ) := by
  refine kMt_of (by decide +kernel) rfl (Nat.le_of_ble_eq_true rfl) ?_
  generalize hQ : (kQi res σ) = Q
  show KJ E mX10_unshared rmX10_unshared 0 [some (.inr 0)] [] σ Q
  unfold X10_unshared at hT
  refine kj_aload_n dX10_unshared_0 (pc' := 1) rfl rfl rfl ?_
  refine kj_getR f_RX10_54 rfl (Nat.lt_of_lt_of_le (Nat.le_of_ble_eq_true rfl : 0 < 120) hE.1) (hE.2 _ _) (q := 93) rfl dX10_unshared_1 (pc' := 4) rfl ?_
  refine kj_getR f_RX10_69 rfl (Nat.lt_of_lt_of_le (Nat.le_of_ble_eq_true rfl : 93 < 120) hE.1) (hE.2 _ _) (q := 95) rfl dX10_unshared_4 (pc' := 7) rfl ?_
  refine kj_getI f_RX10_100 rfl (Nat.lt_of_lt_of_le (Nat.le_of_ble_eq_true rfl : 95 < 120) hE.1) dX10_unshared_7 (pc' := 10) rfl ?_
  refine kj_istore_n dX10_unshared_10 (pc' := 11) rfl rfl (Nat.le_of_ble_eq_true rfl) (ls' := [some (.inr 0), some (.inl (σ 95 1))]) rfl ?_
  refine kj_iload_n dX10_unshared_11 (pc' := 12) rfl rfl rfl ?_
  refine kj_bipush dX10_unshared_12 (pc' := 14) rfl kb_40 ?_
  refine kj_icmp_le dX10_unshared_14 (tgt := 20) rfl (pc' := 17) rfl (fun c1 => ?_) (fun c1 => ?_)
  · rw [if_pos c1] at hT
    refine kj_iconst dX10_unshared_20 (pc' := 21) rfl kc_0 ?_
    refine kj_istore_n dX10_unshared_21 (pc' := 22) rfl rfl (Nat.le_of_ble_eq_true rfl) (ls' := [some (.inr 0), some (.inl (σ 95 1)), some (.inl 0)]) rfl ?_
    obtain ⟨t2, et2, hT⟩ := lett_i hT
    rw [← et2]
    refine lp_ind (P := fun s => KJ E mX10_unshared rmX10_unshared 22 [some (.inr 0), some (.inl t2), some (.inl s)] [] σ Q) (fun rec22 s ih22 hT => ?_) FU (0) hT
    obtain ⟨x2, hs⟩ : ∃ z, z = s := ⟨_, rfl⟩
    subst hs
    show KJ E mX10_unshared rmX10_unshared 22 [some (.inr 0), some (.inl t2), some (.inl x2)] [] σ Q
    rw [X10_unshared_B22] at hT
    refine kj_iload_n dX10_unshared_22 (pc' := 23) rfl rfl rfl ?_
    refine kj_iload_n dX10_unshared_23 (pc' := 24) rfl rfl rfl ?_
    refine kj_icmp_ge dX10_unshared_24 (tgt := 119) rfl (pc' := 27) rfl (fun c4 => ?_) (fun c4 => ?_)
    · rw [if_pos c4] at hT
      refine kj_bipush dX10_unshared_119 (pc' := 121) rfl kb_m2 ?_
      have hR := Option.some.inj hT
      subst hR
      exact kj_iret rfl dX10_unshared_121 (by subst hQ; exact ⟨rfl, rfl⟩)
    · rw [if_neg c4] at hT
      refine kj_iconst dX10_unshared_27 (pc' := 28) rfl kc_0 ?_
      refine kj_istore_n dX10_unshared_28 (pc' := 29) rfl rfl (Nat.le_of_ble_eq_true rfl) (ls' := [some (.inr 0), some (.inl t2), some (.inl x2), some (.inl 0)]) rfl ?_
      have hX29 : ∀ (_ : Unit), X10_unshared_T113 rec22 x2 = some res → KJ E mX10_unshared rmX10_unshared 113 [some (.inr 0), some (.inl t2), some (.inl x2)] [] σ Q := by
        intro _ hT
        unfold X10_unshared_T113 at hT
        refine kj_iinc dX10_unshared_113 (pc' := 116) rfl rfl (congrArg (_ + ·) kc_1) (Nat.le_of_ble_eq_true rfl) (ls' := [some (.inr 0), some (.inl t2), some (.inl (x2 + 1))]) rfl ?_
        refine kj_goto dX10_unshared_116 (pc' := 22) rfl ?_
        exact ih22 (x2 + 1) hT
      refine lp_ind (P := fun s => KJ E mX10_unshared rmX10_unshared 29 [some (.inr 0), some (.inl t2), some (.inl x2), some (.inl s)] [] σ Q) (fun rec29 s ih29 hT => ?_) FU (0) hT
      obtain ⟨x3, hs⟩ : ∃ z, z = s := ⟨_, rfl⟩
      subst hs
      show KJ E mX10_unshared rmX10_unshared 29 [some (.inr 0), some (.inl t2), some (.inl x2), some (.inl x3)] [] σ Q
      rw [X10_unshared_B29] at hT
      refine kj_iload_n dX10_unshared_29 (pc' := 30) rfl rfl rfl ?_
      refine kj_iload_n dX10_unshared_30 (pc' := 31) rfl rfl rfl ?_
      refine kj_icmp_ge dX10_unshared_31 (tgt := 113) rfl (pc' := 34) rfl (fun c6 => ?_) (fun c6 => ?_)
      · rw [if_pos c6] at hT
        refine kj_keep [true, true, true] (ls' := [some (.inr 0), some (.inl t2), some (.inl x2)]) rfl ?_
        exact hX29 () hT
      · rw [if_neg c6] at hT
        refine kj_iconst dX10_unshared_34 (pc' := 35) rfl kc_0 ?_
        refine kj_istore dX10_unshared_35 (pc' := 37) rfl (Nat.le_of_ble_eq_true rfl) (ls' := [some (.inr 0), some (.inl t2), some (.inl x2), some (.inl x3), some (.inl 0)]) rfl ?_
        have hX37 : ∀ (_ : Unit), X10_unshared_T107 rec29 x3 = some res → KJ E mX10_unshared rmX10_unshared 107 [some (.inr 0), some (.inl t2), some (.inl x2), some (.inl x3)] [] σ Q := by
          intro _ hT
          unfold X10_unshared_T107 at hT
          refine kj_iinc dX10_unshared_107 (pc' := 110) rfl rfl (congrArg (_ + ·) kc_1) (Nat.le_of_ble_eq_true rfl) (ls' := [some (.inr 0), some (.inl t2), some (.inl x2), some (.inl (x3 + 1))]) rfl ?_
          refine kj_goto dX10_unshared_110 (pc' := 29) rfl ?_
          exact ih29 (x3 + 1) hT
        refine lp_ind (P := fun s => KJ E mX10_unshared rmX10_unshared 37 [some (.inr 0), some (.inl t2), some (.inl x2), some (.inl x3), some (.inl s)] [] σ Q) (fun rec37 s ih37 hT => ?_) FU (0) hT
        obtain ⟨x4, hs⟩ : ∃ z, z = s := ⟨_, rfl⟩
        subst hs
        show KJ E mX10_unshared rmX10_unshared 37 [some (.inr 0), some (.inl t2), some (.inl x2), some (.inl x3), some (.inl x4)] [] σ Q
        rw [X10_unshared_B37] at hT
        refine kj_iload dX10_unshared_37 (pc' := 39) rfl rfl ?_
        refine kj_iload_n dX10_unshared_39 (pc' := 40) rfl rfl rfl ?_
        refine kj_icmp_ge dX10_unshared_40 (tgt := 107) rfl (pc' := 43) rfl (fun c8 => ?_) (fun c8 => ?_)
        · rw [if_pos c8] at hT
          refine kj_keep [true, true, true, true] (ls' := [some (.inr 0), some (.inl t2), some (.inl x2), some (.inl x3)]) rfl ?_
          exact hX37 () hT
        · rw [if_neg c8] at hT
          refine kj_aload_n dX10_unshared_43 (pc' := 44) rfl rfl rfl ?_
          refine kj_getR f_RX10_54 rfl (Nat.lt_of_lt_of_le (Nat.le_of_ble_eq_true rfl : 0 < 120) hE.1) (hE.2 _ _) (q := 93) rfl dX10_unshared_44 (pc' := 47) rfl ?_
          refine kj_aload_n dX10_unshared_47 (pc' := 48) rfl rfl rfl ?_
          refine kj_getR f_RX10_54 rfl (Nat.lt_of_lt_of_le (Nat.le_of_ble_eq_true rfl : 0 < 120) hE.1) (hE.2 _ _) (q := 93) rfl dX10_unshared_48 (pc' := 51) rfl ?_
          refine kj_getR f_RX10_69 rfl (Nat.lt_of_lt_of_le (Nat.le_of_ble_eq_true rfl : 93 < 120) hE.1) (hE.2 _ _) (q := 95) rfl dX10_unshared_51 (pc' := 54) rfl ?_
          refine kj_iload_n dX10_unshared_54 (pc' := 55) rfl rfl rfl ?_
          obtain ⟨t9, ht9, hT⟩ := bind_some' hT
          refine kcVi (as := [.inl x2]) (st := [.inr 93]) l_RX10_148 (m_X4_at hE rfl σ x2 ht9) rfl (Nat.lt_of_lt_of_le (Nat.le_of_ble_eq_true rfl : 95 < 120) hE.1) rfl ⟨⟨rfl, rfl⟩, Nat.le_of_ble_eq_true rfl, Nat.le_of_ble_eq_true rfl⟩ (Nat.le_of_ble_eq_true rfl) dX10_unshared_55 (pc' := 58) rfl ?_
          refine kj_aload_n dX10_unshared_58 (pc' := 59) rfl rfl rfl ?_
          refine kj_getR f_RX10_54 rfl (Nat.lt_of_lt_of_le (Nat.le_of_ble_eq_true rfl : 0 < 120) hE.1) (hE.2 _ _) (q := 93) rfl dX10_unshared_59 (pc' := 62) rfl ?_
          refine kj_getR f_RX10_69 rfl (Nat.lt_of_lt_of_le (Nat.le_of_ble_eq_true rfl : 93 < 120) hE.1) (hE.2 _ _) (q := 95) rfl dX10_unshared_62 (pc' := 65) rfl ?_
          refine kj_iload_n dX10_unshared_65 (pc' := 66) rfl rfl rfl ?_
          obtain ⟨t10, ht10, hT⟩ := bind_some' hT
          refine kcVi (as := [.inl x3]) (st := [.inl t9, .inr 93]) l_RX10_148 (m_X4_at hE rfl σ x3 ht10) rfl (Nat.lt_of_lt_of_le (Nat.le_of_ble_eq_true rfl : 95 < 120) hE.1) rfl ⟨⟨rfl, rfl⟩, Nat.le_of_ble_eq_true rfl, Nat.le_of_ble_eq_true rfl⟩ (Nat.le_of_ble_eq_true rfl) dX10_unshared_66 (pc' := 69) rfl ?_
          refine kj_aload_n dX10_unshared_69 (pc' := 70) rfl rfl rfl ?_
          refine kj_getR f_RX10_54 rfl (Nat.lt_of_lt_of_le (Nat.le_of_ble_eq_true rfl : 0 < 120) hE.1) (hE.2 _ _) (q := 93) rfl dX10_unshared_70 (pc' := 73) rfl ?_
          refine kj_getR f_RX10_69 rfl (Nat.lt_of_lt_of_le (Nat.le_of_ble_eq_true rfl : 93 < 120) hE.1) (hE.2 _ _) (q := 95) rfl dX10_unshared_73 (pc' := 76) rfl ?_
          refine kj_iload dX10_unshared_76 (pc' := 78) rfl rfl ?_
          obtain ⟨t11, ht11, hT⟩ := bind_some' hT
          refine kcVi (as := [.inl x4]) (st := [.inl t10, .inl t9, .inr 93]) l_RX10_148 (m_X4_at hE rfl σ x4 ht11) rfl (Nat.lt_of_lt_of_le (Nat.le_of_ble_eq_true rfl : 95 < 120) hE.1) rfl ⟨⟨rfl, rfl⟩, Nat.le_of_ble_eq_true rfl, Nat.le_of_ble_eq_true rfl⟩ (Nat.le_of_ble_eq_true rfl) dX10_unshared_78 (pc' := 81) rfl ?_
          obtain ⟨t12, ht12, hT⟩ := bind_some' hT
          refine kcVz (as := [.inl t9, .inl t10, .inl t11]) (st := []) l_RX10_302 (m_X0_sharesOut hE σ t9 t10 t11 ht12) rfl (Nat.lt_of_lt_of_le (Nat.le_of_ble_eq_true rfl : 93 < 120) hE.1) rfl ⟨⟨rfl, rfl⟩, Nat.le_of_ble_eq_true rfl, Nat.le_of_ble_eq_true rfl⟩ (Nat.le_of_ble_eq_true rfl) dX10_unshared_81 (pc' := 84) rfl (fun z13 => ?_)
          refine kj_if_ne dX10_unshared_84 (tgt := 101) rfl (pc' := 87) rfl (fun c14 => ?_) (fun c14 => ?_)
          · rw [if_neg c14] at hT
            refine kj_iinc dX10_unshared_101 (pc' := 104) rfl rfl (congrArg (_ + ·) kc_1) (Nat.le_of_ble_eq_true rfl) (ls' := [some (.inr 0), some (.inl t2), some (.inl x2), some (.inl x3), some (.inl (x4 + 1))]) rfl ?_
            refine kj_goto dX10_unshared_104 (pc' := 37) rfl ?_
            exact ih37 (x4 + 1) hT
          · rw [if_pos c14] at hT
            refine kj_sipush dX10_unshared_87 (pc' := 90) rfl ks_10000 ?_
            refine kj_iload_n dX10_unshared_90 (pc' := 91) rfl rfl rfl ?_
            refine kj_imul dX10_unshared_91 (pc' := 92) rfl ?_
            refine kj_bipush dX10_unshared_92 (pc' := 94) rfl kb_100 ?_
            refine kj_iload_n dX10_unshared_94 (pc' := 95) rfl rfl rfl ?_
            refine kj_imul dX10_unshared_95 (pc' := 96) rfl ?_
            refine kj_iadd dX10_unshared_96 (pc' := 97) rfl ?_
            refine kj_iload dX10_unshared_97 (pc' := 99) rfl rfl ?_
            refine kj_iadd dX10_unshared_99 (pc' := 100) rfl ?_
            have hR := Option.some.inj hT
            subst hR
            exact kj_iret rfl dX10_unshared_100 (by subst hQ; exact ⟨rfl, rfl⟩)
  · rw [if_neg c1] at hT
    refine kj_bipush dX10_unshared_17 (pc' := 19) rfl kb_m2 ?_
    have hR := Option.some.inj hT
    subst hR
    exact kj_iret rfl dX10_unshared_19 (by subst hQ; exact ⟨rfl, rfl⟩)
def X10_chain (σ : Wd) (x1 : Int32) : Option (Int32 × Wd) :=
  ((X2_stepOfLongest σ x1).bind fun (t1, σ2) => some (t1, σ2))
set_option maxRecDepth 100000 in
set_option maxHeartbeats 4000000 in
theorem m_X10_chain {E : JE} (hE : kOk 120 E) (σ : Wd) (x1 : Int32) {res : Int32 × Wd} (hT : X10_chain σ x1 = some res) : kMt E yX10_chain mX10_chain rmX10_chain [.inr 0, .inl x1] σ (kQi res.1 res.2) := by
  refine kMt_of (by decide +kernel) rfl (Nat.le_of_ble_eq_true rfl) ?_
  generalize hQ : (kQi res.1 res.2) = Q
  show KJ E mX10_chain rmX10_chain 0 [some (.inr 0), some (.inl x1)] [] σ Q
  unfold X10_chain at hT
  refine kj_aload_n dX10_chain_0 (pc' := 1) rfl rfl rfl ?_
  refine kj_getR f_RX10_63 rfl (Nat.lt_of_lt_of_le (Nat.le_of_ble_eq_true rfl : 0 < 120) hE.1) (hE.2 _ _) (q := 103) rfl dX10_chain_1 (pc' := 4) rfl ?_
  refine kj_iload_n dX10_chain_4 (pc' := 5) rfl rfl rfl ?_
  obtain ⟨t1, ht1, hT⟩ := bind_some' hT
  obtain ⟨t1, σ2⟩ := t1
  dsimp only at hT
  refine kcVi (as := [.inl x1]) (st := []) l_RX10_306 (m_X2_stepOfLongest hE σ x1 ht1) rfl (Nat.lt_of_lt_of_le (Nat.le_of_ble_eq_true rfl : 103 < 120) hE.1) rfl ⟨⟨rfl, rfl⟩, Nat.le_of_ble_eq_true rfl, Nat.le_of_ble_eq_true rfl⟩ (Nat.le_of_ble_eq_true rfl) dX10_chain_5 (pc' := 8) rfl ?_
  have hR := Option.some.inj hT
  subst hR
  exact kj_iret rfl dX10_chain_8 (by subst hQ; exact ⟨rfl, rfl⟩)
def X10_common (σ : Wd) (x1 : Int32) (x2 : Int32) : Option (Int32) :=
  (if (X10_isPoint σ x1) = 0 then some (-1) else (if (X10_isPoint σ x2) = 0 then some (-1) else ((X0_countAround σ ((1 <<< (x1 &&& 31)) ||| (1 <<< (x2 &&& 31)))).bind fun t5 => some t5)))
set_option maxRecDepth 100000 in
set_option maxHeartbeats 4000000 in
theorem m_X10_common {E : JE} (hE : kOk 120 E) (σ : Wd) (x1 : Int32) (x2 : Int32) {res : Int32} (hT : X10_common σ x1 x2 = some res) : kMt E yX10_common mX10_common rmX10_common [.inr 0, .inl x1, .inl x2] σ (kQi res σ) := by
  refine kMt_of (by decide +kernel) rfl (Nat.le_of_ble_eq_true rfl) ?_
  generalize hQ : (kQi res σ) = Q
  show KJ E mX10_common rmX10_common 0 [some (.inr 0), some (.inl x1), some (.inl x2)] [] σ Q
  unfold X10_common at hT
  refine kj_aload_n dX10_common_0 (pc' := 1) rfl rfl rfl ?_
  refine kj_iload_n dX10_common_1 (pc' := 2) rfl rfl rfl ?_
  refine kcVz (as := [.inl x1]) (st := []) l_RX10_155 (m_X10_isPoint hE σ x1 rfl) rfl (Nat.lt_of_lt_of_le (Nat.le_of_ble_eq_true rfl : 0 < 120) hE.1) rfl ⟨⟨rfl, rfl⟩, Nat.le_of_ble_eq_true rfl, Nat.le_of_ble_eq_true rfl⟩ (Nat.le_of_ble_eq_true rfl) dX10_common_2 (pc' := 5) rfl (fun z1 => ?_)
  refine kj_if_eq dX10_common_5 (tgt := 16) rfl (pc' := 8) rfl (fun c2 => ?_) (fun c2 => ?_)
  · rw [if_pos c2] at hT
    refine kj_iconst dX10_common_16 (pc' := 17) rfl kc_m1 ?_
    have hR := Option.some.inj hT
    subst hR
    exact kj_iret rfl dX10_common_17 (by subst hQ; exact ⟨rfl, rfl⟩)
  · rw [if_neg c2] at hT
    refine kj_aload_n dX10_common_8 (pc' := 9) rfl rfl rfl ?_
    refine kj_iload_n dX10_common_9 (pc' := 10) rfl rfl rfl ?_
    refine kcVz (as := [.inl x2]) (st := []) l_RX10_155 (m_X10_isPoint hE σ x2 rfl) rfl (Nat.lt_of_lt_of_le (Nat.le_of_ble_eq_true rfl : 0 < 120) hE.1) rfl ⟨⟨rfl, rfl⟩, Nat.le_of_ble_eq_true rfl, Nat.le_of_ble_eq_true rfl⟩ (Nat.le_of_ble_eq_true rfl) dX10_common_10 (pc' := 13) rfl (fun z3 => ?_)
    refine kj_if_ne dX10_common_13 (tgt := 18) rfl (pc' := 16) rfl (fun c4 => ?_) (fun c4 => ?_)
    · rw [if_neg c4] at hT
      refine kj_aload_n dX10_common_18 (pc' := 19) rfl rfl rfl ?_
      refine kj_getR f_RX10_54 rfl (Nat.lt_of_lt_of_le (Nat.le_of_ble_eq_true rfl : 0 < 120) hE.1) (hE.2 _ _) (q := 93) rfl dX10_common_19 (pc' := 22) rfl ?_
      refine kj_iconst dX10_common_22 (pc' := 23) rfl kc_1 ?_
      refine kj_iload_n dX10_common_23 (pc' := 24) rfl rfl rfl ?_
      refine kj_ishl dX10_common_24 (pc' := 25) rfl ?_
      refine kj_iconst dX10_common_25 (pc' := 26) rfl kc_1 ?_
      refine kj_iload_n dX10_common_26 (pc' := 27) rfl rfl rfl ?_
      refine kj_ishl dX10_common_27 (pc' := 28) rfl ?_
      refine kj_ior dX10_common_28 (pc' := 29) rfl ?_
      obtain ⟨t5, ht5, hT⟩ := bind_some' hT
      refine kcVi (as := [.inl ((1 <<< (x1 &&& 31)) ||| (1 <<< (x2 &&& 31)))]) (st := []) l_RX10_309 (m_X0_countAround hE σ ((1 <<< (x1 &&& 31)) ||| (1 <<< (x2 &&& 31))) ht5) rfl (Nat.lt_of_lt_of_le (Nat.le_of_ble_eq_true rfl : 93 < 120) hE.1) rfl ⟨⟨rfl, rfl⟩, Nat.le_of_ble_eq_true rfl, Nat.le_of_ble_eq_true rfl⟩ (Nat.le_of_ble_eq_true rfl) dX10_common_29 (pc' := 32) rfl ?_
      have hR := Option.some.inj hT
      subst hR
      exact kj_iret rfl dX10_common_32 (by subst hQ; exact ⟨rfl, rfl⟩)
    · rw [if_pos c4] at hT
      refine kj_iconst dX10_common_16 (pc' := 17) rfl kc_m1 ?_
      have hR := Option.some.inj hT
      subst hR
      exact kj_iret rfl dX10_common_17 (by subst hQ; exact ⟨rfl, rfl⟩)
def X10_ranked (σ : Wd) (x1 : Int32) : Option (Int32) :=
  ((X0_pointRanked σ x1).bind fun t1 => some t1)
set_option maxRecDepth 100000 in
set_option maxHeartbeats 4000000 in
theorem m_X10_ranked {E : JE} (hE : kOk 120 E) (σ : Wd) (x1 : Int32) {res : Int32} (hT : X10_ranked σ x1 = some res) : kMt E yX10_ranked mX10_ranked rmX10_ranked [.inr 0, .inl x1] σ (kQi res σ) := by
  refine kMt_of (by decide +kernel) rfl (Nat.le_of_ble_eq_true rfl) ?_
  generalize hQ : (kQi res σ) = Q
  show KJ E mX10_ranked rmX10_ranked 0 [some (.inr 0), some (.inl x1)] [] σ Q
  unfold X10_ranked at hT
  refine kj_aload_n dX10_ranked_0 (pc' := 1) rfl rfl rfl ?_
  refine kj_getR f_RX10_54 rfl (Nat.lt_of_lt_of_le (Nat.le_of_ble_eq_true rfl : 0 < 120) hE.1) (hE.2 _ _) (q := 93) rfl dX10_ranked_1 (pc' := 4) rfl ?_
  refine kj_iload_n dX10_ranked_4 (pc' := 5) rfl rfl rfl ?_
  obtain ⟨t1, ht1, hT⟩ := bind_some' hT
  refine kcVi (as := [.inl x1]) (st := []) l_RX10_223 (m_X0_pointRanked hE σ x1 ht1) rfl (Nat.lt_of_lt_of_le (Nat.le_of_ble_eq_true rfl : 93 < 120) hE.1) rfl ⟨⟨rfl, rfl⟩, Nat.le_of_ble_eq_true rfl, Nat.le_of_ble_eq_true rfl⟩ (Nat.le_of_ble_eq_true rfl) dX10_ranked_5 (pc' := 8) rfl ?_
  have hR := Option.some.inj hT
  subst hR
  exact kj_iret rfl dX10_ranked_8 (by subst hQ; exact ⟨rfl, rfl⟩)
def X10_nested (σ : Wd) (x1 : Int32) (x2 : Int32) : Option (Int32) :=
  (if (X10_isSet σ x1) = 0 then some (-1) else (if x2 = 0 then ((X0_countWithin σ x1).bind fun t4 => some t4) else ((X0_countAround σ x1).bind fun t5 => some t5)))
set_option maxRecDepth 100000 in
set_option maxHeartbeats 4000000 in
theorem m_X10_nested {E : JE} (hE : kOk 120 E) (σ : Wd) (x1 : Int32) (x2 : Int32) {res : Int32} (hT : X10_nested σ x1 x2 = some res) : kMt E yX10_nested mX10_nested rmX10_nested [.inr 0, .inl x1, .inl x2] σ (kQi res σ) := by
  refine kMt_of (by decide +kernel) rfl (Nat.le_of_ble_eq_true rfl) ?_
  generalize hQ : (kQi res σ) = Q
  show KJ E mX10_nested rmX10_nested 0 [some (.inr 0), some (.inl x1), some (.inl x2)] [] σ Q
  unfold X10_nested at hT
  refine kj_aload_n dX10_nested_0 (pc' := 1) rfl rfl rfl ?_
  refine kj_iload_n dX10_nested_1 (pc' := 2) rfl rfl rfl ?_
  refine kcVz (as := [.inl x1]) (st := []) l_RX10_202 (m_X10_isSet hE σ x1 rfl) rfl (Nat.lt_of_lt_of_le (Nat.le_of_ble_eq_true rfl : 0 < 120) hE.1) rfl ⟨⟨rfl, rfl⟩, Nat.le_of_ble_eq_true rfl, Nat.le_of_ble_eq_true rfl⟩ (Nat.le_of_ble_eq_true rfl) dX10_nested_2 (pc' := 5) rfl (fun z1 => ?_)
  refine kj_if_ne dX10_nested_5 (tgt := 10) rfl (pc' := 8) rfl (fun c2 => ?_) (fun c2 => ?_)
  · rw [if_neg c2] at hT
    refine kj_iload_n dX10_nested_10 (pc' := 11) rfl rfl rfl ?_
    refine kj_if_eq dX10_nested_11 (tgt := 25) rfl (pc' := 14) rfl (fun c3 => ?_) (fun c3 => ?_)
    · rw [if_pos c3] at hT
      refine kj_aload_n dX10_nested_25 (pc' := 26) rfl rfl rfl ?_
      refine kj_getR f_RX10_54 rfl (Nat.lt_of_lt_of_le (Nat.le_of_ble_eq_true rfl : 0 < 120) hE.1) (hE.2 _ _) (q := 93) rfl dX10_nested_26 (pc' := 29) rfl ?_
      refine kj_iload_n dX10_nested_29 (pc' := 30) rfl rfl rfl ?_
      obtain ⟨t4, ht4, hT⟩ := bind_some' hT
      refine kcVi (as := [.inl x1]) (st := []) l_RX10_312 (m_X0_countWithin hE σ x1 ht4) rfl (Nat.lt_of_lt_of_le (Nat.le_of_ble_eq_true rfl : 93 < 120) hE.1) rfl ⟨⟨rfl, rfl⟩, Nat.le_of_ble_eq_true rfl, Nat.le_of_ble_eq_true rfl⟩ (Nat.le_of_ble_eq_true rfl) dX10_nested_30 (pc' := 33) rfl ?_
      have hR := Option.some.inj hT
      subst hR
      exact kj_iret rfl dX10_nested_33 (by subst hQ; exact ⟨rfl, rfl⟩)
    · rw [if_neg c3] at hT
      refine kj_aload_n dX10_nested_14 (pc' := 15) rfl rfl rfl ?_
      refine kj_getR f_RX10_54 rfl (Nat.lt_of_lt_of_le (Nat.le_of_ble_eq_true rfl : 0 < 120) hE.1) (hE.2 _ _) (q := 93) rfl dX10_nested_15 (pc' := 18) rfl ?_
      refine kj_iload_n dX10_nested_18 (pc' := 19) rfl rfl rfl ?_
      obtain ⟨t5, ht5, hT⟩ := bind_some' hT
      refine kcVi (as := [.inl x1]) (st := []) l_RX10_309 (m_X0_countAround hE σ x1 ht5) rfl (Nat.lt_of_lt_of_le (Nat.le_of_ble_eq_true rfl : 93 < 120) hE.1) rfl ⟨⟨rfl, rfl⟩, Nat.le_of_ble_eq_true rfl, Nat.le_of_ble_eq_true rfl⟩ (Nat.le_of_ble_eq_true rfl) dX10_nested_19 (pc' := 22) rfl ?_
      refine kj_goto dX10_nested_22 (pc' := 33) rfl ?_
      have hR := Option.some.inj hT
      subst hR
      exact kj_iret rfl dX10_nested_33 (by subst hQ; exact ⟨rfl, rfl⟩)
  · rw [if_pos c2] at hT
    refine kj_iconst dX10_nested_8 (pc' := 9) rfl kc_m1 ?_
    have hR := Option.some.inj hT
    subst hR
    exact kj_iret rfl dX10_nested_9 (by subst hQ; exact ⟨rfl, rfl⟩)
def X10_crossing (σ : Wd) : Option (Int32) :=
  ((X0_hasAllIntersections σ).bind fun t1 => some (X10_bit t1))
set_option maxRecDepth 100000 in
set_option maxHeartbeats 4000000 in
theorem m_X10_crossing {E : JE} (hE : kOk 120 E) (σ : Wd) {res : Int32} (hT : X10_crossing σ = some res) : kMt E yX10_crossing mX10_crossing rmX10_crossing [.inr 0] σ (kQi res σ) := by
  refine kMt_of (by decide +kernel) rfl (Nat.le_of_ble_eq_true rfl) ?_
  generalize hQ : (kQi res σ) = Q
  show KJ E mX10_crossing rmX10_crossing 0 [some (.inr 0)] [] σ Q
  unfold X10_crossing at hT
  refine kj_aload_n dX10_crossing_0 (pc' := 1) rfl rfl rfl ?_
  refine kj_getR f_RX10_54 rfl (Nat.lt_of_lt_of_le (Nat.le_of_ble_eq_true rfl : 0 < 120) hE.1) (hE.2 _ _) (q := 93) rfl dX10_crossing_1 (pc' := 4) rfl ?_
  obtain ⟨t1, ht1, hT⟩ := bind_some' hT
  refine kcVz (as := []) (st := []) l_RX10_315 (m_X0_hasAllIntersections hE σ ht1) rfl (Nat.lt_of_lt_of_le (Nat.le_of_ble_eq_true rfl : 93 < 120) hE.1) rfl ⟨⟨rfl, rfl⟩, Nat.le_of_ble_eq_true rfl, Nat.le_of_ble_eq_true rfl⟩ (Nat.le_of_ble_eq_true rfl) dX10_crossing_4 (pc' := 7) rfl (fun z2 => ?_)
  refine kcSi (as := [.inl t1]) (st := []) l_RX10_195 (m_X10_bit hE σ t1 rfl) rfl ⟨⟨rfl, rfl⟩, Nat.le_of_ble_eq_true rfl, Nat.le_of_ble_eq_true rfl⟩ (Nat.le_of_ble_eq_true rfl) dX10_crossing_7 (pc' := 10) rfl ?_
  have hR := Option.some.inj hT
  subst hR
  exact kj_iret rfl dX10_crossing_10 (by subst hQ; exact ⟨rfl, rfl⟩)
def X10_parts (σ : Wd) : Option (Int32) :=
  ((X0_countParts σ).bind fun t1 => some t1)
set_option maxRecDepth 100000 in
set_option maxHeartbeats 4000000 in
theorem m_X10_parts {E : JE} (hE : kOk 120 E) (σ : Wd) {res : Int32} (hT : X10_parts σ = some res) : kMt E yX10_parts mX10_parts rmX10_parts [.inr 0] σ (kQi res σ) := by
  refine kMt_of (by decide +kernel) rfl (Nat.le_of_ble_eq_true rfl) ?_
  generalize hQ : (kQi res σ) = Q
  show KJ E mX10_parts rmX10_parts 0 [some (.inr 0)] [] σ Q
  unfold X10_parts at hT
  refine kj_aload_n dX10_parts_0 (pc' := 1) rfl rfl rfl ?_
  refine kj_getR f_RX10_54 rfl (Nat.lt_of_lt_of_le (Nat.le_of_ble_eq_true rfl : 0 < 120) hE.1) (hE.2 _ _) (q := 93) rfl dX10_parts_1 (pc' := 4) rfl ?_
  obtain ⟨t1, ht1, hT⟩ := bind_some' hT
  refine kcVi (as := []) (st := []) l_RX10_319 (m_X0_countParts hE σ ht1) rfl (Nat.lt_of_lt_of_le (Nat.le_of_ble_eq_true rfl : 93 < 120) hE.1) rfl ⟨⟨rfl, rfl⟩, Nat.le_of_ble_eq_true rfl, Nat.le_of_ble_eq_true rfl⟩ (Nat.le_of_ble_eq_true rfl) dX10_parts_4 (pc' := 7) rfl ?_
  have hR := Option.some.inj hT
  subst hR
  exact kj_iret rfl dX10_parts_7 (by subst hQ; exact ⟨rfl, rfl⟩)
def X10_shattered (σ : Wd) (x1 : Int32) : Option (Int32 × Wd) :=
  (if (X10_isSet σ x1) = 0 then some ((-1), σ) else ((X8_isShattered σ x1).bind fun (t3, σ4) => some (X10_bit t3, σ4)))
set_option maxRecDepth 100000 in
set_option maxHeartbeats 4000000 in
theorem m_X10_shattered {E : JE} (hE : kOk 120 E) (σ : Wd) (x1 : Int32) {res : Int32 × Wd} (hT : X10_shattered σ x1 = some res) : kMt E yX10_shattered mX10_shattered rmX10_shattered [.inr 0, .inl x1] σ (kQi res.1 res.2) := by
  refine kMt_of (by decide +kernel) rfl (Nat.le_of_ble_eq_true rfl) ?_
  generalize hQ : (kQi res.1 res.2) = Q
  show KJ E mX10_shattered rmX10_shattered 0 [some (.inr 0), some (.inl x1)] [] σ Q
  unfold X10_shattered at hT
  refine kj_aload_n dX10_shattered_0 (pc' := 1) rfl rfl rfl ?_
  refine kj_iload_n dX10_shattered_1 (pc' := 2) rfl rfl rfl ?_
  refine kcVz (as := [.inl x1]) (st := []) l_RX10_202 (m_X10_isSet hE σ x1 rfl) rfl (Nat.lt_of_lt_of_le (Nat.le_of_ble_eq_true rfl : 0 < 120) hE.1) rfl ⟨⟨rfl, rfl⟩, Nat.le_of_ble_eq_true rfl, Nat.le_of_ble_eq_true rfl⟩ (Nat.le_of_ble_eq_true rfl) dX10_shattered_2 (pc' := 5) rfl (fun z1 => ?_)
  refine kj_if_eq dX10_shattered_5 (tgt := 22) rfl (pc' := 8) rfl (fun c2 => ?_) (fun c2 => ?_)
  · rw [if_pos c2] at hT
    refine kj_iconst dX10_shattered_22 (pc' := 23) rfl kc_m1 ?_
    have hR := Option.some.inj hT
    subst hR
    exact kj_iret rfl dX10_shattered_23 (by subst hQ; exact ⟨rfl, rfl⟩)
  · rw [if_neg c2] at hT
    refine kj_aload_n dX10_shattered_8 (pc' := 9) rfl rfl rfl ?_
    refine kj_getR f_RX10_82 rfl (Nat.lt_of_lt_of_le (Nat.le_of_ble_eq_true rfl : 0 < 120) hE.1) (hE.2 _ _) (q := 112) rfl dX10_shattered_9 (pc' := 12) rfl ?_
    refine kj_iload_n dX10_shattered_12 (pc' := 13) rfl rfl rfl ?_
    obtain ⟨t3, ht3, hT⟩ := bind_some' hT
    obtain ⟨t3, σ4⟩ := t3
    dsimp only at hT
    refine kcVz (as := [.inl x1]) (st := []) l_RX10_322 (m_X8_isShattered hE σ x1 ht3) rfl (Nat.lt_of_lt_of_le (Nat.le_of_ble_eq_true rfl : 112 < 120) hE.1) rfl ⟨⟨rfl, rfl⟩, Nat.le_of_ble_eq_true rfl, Nat.le_of_ble_eq_true rfl⟩ (Nat.le_of_ble_eq_true rfl) dX10_shattered_13 (pc' := 16) rfl (fun z5 => ?_)
    refine kcSi (as := [.inl t3]) (st := []) l_RX10_195 (m_X10_bit hE σ4 t3 rfl) rfl ⟨⟨rfl, rfl⟩, Nat.le_of_ble_eq_true rfl, Nat.le_of_ble_eq_true rfl⟩ (Nat.le_of_ble_eq_true rfl) dX10_shattered_16 (pc' := 19) rfl ?_
    refine kj_goto dX10_shattered_19 (pc' := 23) rfl ?_
    have hR := Option.some.inj hT
    subst hR
    exact kj_iret rfl dX10_shattered_23 (by subst hQ; exact ⟨rfl, rfl⟩)
def X10_fewest (σ : Wd) (x1 : Int32) : Option (Int32) :=
  (if (X10_isSet σ x1) = 0 then some (-1) else ((X0_fewestFor σ x1).bind fun t3 => some t3))
set_option maxRecDepth 100000 in
set_option maxHeartbeats 4000000 in
theorem m_X10_fewest {E : JE} (hE : kOk 120 E) (σ : Wd) (x1 : Int32) {res : Int32} (hT : X10_fewest σ x1 = some res) : kMt E yX10_fewest mX10_fewest rmX10_fewest [.inr 0, .inl x1] σ (kQi res σ) := by
  refine kMt_of (by decide +kernel) rfl (Nat.le_of_ble_eq_true rfl) ?_
  generalize hQ : (kQi res σ) = Q
  show KJ E mX10_fewest rmX10_fewest 0 [some (.inr 0), some (.inl x1)] [] σ Q
  unfold X10_fewest at hT
  refine kj_aload_n dX10_fewest_0 (pc' := 1) rfl rfl rfl ?_
  refine kj_iload_n dX10_fewest_1 (pc' := 2) rfl rfl rfl ?_
  refine kcVz (as := [.inl x1]) (st := []) l_RX10_202 (m_X10_isSet hE σ x1 rfl) rfl (Nat.lt_of_lt_of_le (Nat.le_of_ble_eq_true rfl : 0 < 120) hE.1) rfl ⟨⟨rfl, rfl⟩, Nat.le_of_ble_eq_true rfl, Nat.le_of_ble_eq_true rfl⟩ (Nat.le_of_ble_eq_true rfl) dX10_fewest_2 (pc' := 5) rfl (fun z1 => ?_)
  refine kj_if_eq dX10_fewest_5 (tgt := 19) rfl (pc' := 8) rfl (fun c2 => ?_) (fun c2 => ?_)
  · rw [if_pos c2] at hT
    refine kj_iconst dX10_fewest_19 (pc' := 20) rfl kc_m1 ?_
    have hR := Option.some.inj hT
    subst hR
    exact kj_iret rfl dX10_fewest_20 (by subst hQ; exact ⟨rfl, rfl⟩)
  · rw [if_neg c2] at hT
    refine kj_aload_n dX10_fewest_8 (pc' := 9) rfl rfl rfl ?_
    refine kj_getR f_RX10_54 rfl (Nat.lt_of_lt_of_le (Nat.le_of_ble_eq_true rfl : 0 < 120) hE.1) (hE.2 _ _) (q := 93) rfl dX10_fewest_9 (pc' := 12) rfl ?_
    refine kj_iload_n dX10_fewest_12 (pc' := 13) rfl rfl rfl ?_
    obtain ⟨t3, ht3, hT⟩ := bind_some' hT
    refine kcVi (as := [.inl x1]) (st := []) l_RX10_325 (m_X0_fewestFor hE σ x1 ht3) rfl (Nat.lt_of_lt_of_le (Nat.le_of_ble_eq_true rfl : 93 < 120) hE.1) rfl ⟨⟨rfl, rfl⟩, Nat.le_of_ble_eq_true rfl, Nat.le_of_ble_eq_true rfl⟩ (Nat.le_of_ble_eq_true rfl) dX10_fewest_13 (pc' := 16) rfl ?_
    refine kj_goto dX10_fewest_16 (pc' := 20) rfl ?_
    have hR := Option.some.inj hT
    subst hR
    exact kj_iret rfl dX10_fewest_20 (by subst hQ; exact ⟨rfl, rfl⟩)
def X10_withSet (σ : Wd) (x1 : Int32) : Option (Int32 × Wd) :=
  (if (X10_isFilledSet σ x1) = 0 then some ((-1), σ) else ((X9_gain σ x1).bind fun (t3, σ4) => some ((σ 95 1) + t3, σ4)))
set_option maxRecDepth 100000 in
set_option maxHeartbeats 4000000 in
theorem m_X10_withSet {E : JE} (hE : kOk 120 E) (σ : Wd) (x1 : Int32) {res : Int32 × Wd} (hT : X10_withSet σ x1 = some res) : kMt E yX10_withSet mX10_withSet rmX10_withSet [.inr 0, .inl x1] σ (kQi res.1 res.2) := by
  refine kMt_of (by decide +kernel) rfl (Nat.le_of_ble_eq_true rfl) ?_
  generalize hQ : (kQi res.1 res.2) = Q
  show KJ E mX10_withSet rmX10_withSet 0 [some (.inr 0), some (.inl x1)] [] σ Q
  unfold X10_withSet at hT
  refine kj_aload_n dX10_withSet_0 (pc' := 1) rfl rfl rfl ?_
  refine kj_iload_n dX10_withSet_1 (pc' := 2) rfl rfl rfl ?_
  refine kcVz (as := [.inl x1]) (st := []) l_RX10_128 (m_X10_isFilledSet hE σ x1 rfl) rfl (Nat.lt_of_lt_of_le (Nat.le_of_ble_eq_true rfl : 0 < 120) hE.1) rfl ⟨⟨rfl, rfl⟩, Nat.le_of_ble_eq_true rfl, Nat.le_of_ble_eq_true rfl⟩ (Nat.le_of_ble_eq_true rfl) dX10_withSet_2 (pc' := 5) rfl (fun z1 => ?_)
  refine kj_if_eq dX10_withSet_5 (tgt := 30) rfl (pc' := 8) rfl (fun c2 => ?_) (fun c2 => ?_)
  · rw [if_pos c2] at hT
    refine kj_iconst dX10_withSet_30 (pc' := 31) rfl kc_m1 ?_
    have hR := Option.some.inj hT
    subst hR
    exact kj_iret rfl dX10_withSet_31 (by subst hQ; exact ⟨rfl, rfl⟩)
  · rw [if_neg c2] at hT
    refine kj_aload_n dX10_withSet_8 (pc' := 9) rfl rfl rfl ?_
    refine kj_getR f_RX10_54 rfl (Nat.lt_of_lt_of_le (Nat.le_of_ble_eq_true rfl : 0 < 120) hE.1) (hE.2 _ _) (q := 93) rfl dX10_withSet_9 (pc' := 12) rfl ?_
    refine kj_getR f_RX10_69 rfl (Nat.lt_of_lt_of_le (Nat.le_of_ble_eq_true rfl : 93 < 120) hE.1) (hE.2 _ _) (q := 95) rfl dX10_withSet_12 (pc' := 15) rfl ?_
    refine kj_getI f_RX10_100 rfl (Nat.lt_of_lt_of_le (Nat.le_of_ble_eq_true rfl : 95 < 120) hE.1) dX10_withSet_15 (pc' := 18) rfl ?_
    refine kj_aload_n dX10_withSet_18 (pc' := 19) rfl rfl rfl ?_
    refine kj_getR f_RX10_89 rfl (Nat.lt_of_lt_of_le (Nat.le_of_ble_eq_true rfl : 0 < 120) hE.1) (hE.2 _ _) (q := 116) rfl dX10_withSet_19 (pc' := 22) rfl ?_
    refine kj_iload_n dX10_withSet_22 (pc' := 23) rfl rfl rfl ?_
    obtain ⟨t3, ht3, hT⟩ := bind_some' hT
    obtain ⟨t3, σ4⟩ := t3
    dsimp only at hT
    refine kcVi (as := [.inl x1]) (st := [.inl (σ 95 1)]) l_RX10_328 (m_X9_gain hE σ x1 ht3) rfl (Nat.lt_of_lt_of_le (Nat.le_of_ble_eq_true rfl : 116 < 120) hE.1) rfl ⟨⟨rfl, rfl⟩, Nat.le_of_ble_eq_true rfl, Nat.le_of_ble_eq_true rfl⟩ (Nat.le_of_ble_eq_true rfl) dX10_withSet_23 (pc' := 26) rfl ?_
    refine kj_iadd dX10_withSet_26 (pc' := 27) rfl ?_
    refine kj_goto dX10_withSet_27 (pc' := 31) rfl ?_
    have hR := Option.some.inj hT
    subst hR
    exact kj_iret rfl dX10_withSet_31 (by subst hQ; exact ⟨rfl, rfl⟩)
def X10_withoutGenerator (σ : Wd) (x1 : Int32) : Option (Int32 × Wd) :=
  (if (X10_isGenerator σ x1) = 0 then some ((-1), σ) else ((X9_countUnions σ 2 x1).bind fun (t3, σ4) => some (t3, σ4)))
set_option maxRecDepth 100000 in
set_option maxHeartbeats 4000000 in
theorem m_X10_withoutGenerator {E : JE} (hE : kOk 120 E) (σ : Wd) (x1 : Int32) {res : Int32 × Wd} (hT : X10_withoutGenerator σ x1 = some res) : kMt E yX10_withoutGenerator mX10_withoutGenerator rmX10_withoutGenerator [.inr 0, .inl x1] σ (kQi res.1 res.2) := by
  refine kMt_of (by decide +kernel) rfl (Nat.le_of_ble_eq_true rfl) ?_
  generalize hQ : (kQi res.1 res.2) = Q
  show KJ E mX10_withoutGenerator rmX10_withoutGenerator 0 [some (.inr 0), some (.inl x1)] [] σ Q
  unfold X10_withoutGenerator at hT
  refine kj_aload_n dX10_withoutGenerator_0 (pc' := 1) rfl rfl rfl ?_
  refine kj_iload_n dX10_withoutGenerator_1 (pc' := 2) rfl rfl rfl ?_
  refine kcVz (as := [.inl x1]) (st := []) l_RX10_142 (m_X10_isGenerator hE σ x1 rfl) rfl (Nat.lt_of_lt_of_le (Nat.le_of_ble_eq_true rfl : 0 < 120) hE.1) rfl ⟨⟨rfl, rfl⟩, Nat.le_of_ble_eq_true rfl, Nat.le_of_ble_eq_true rfl⟩ (Nat.le_of_ble_eq_true rfl) dX10_withoutGenerator_2 (pc' := 5) rfl (fun z1 => ?_)
  refine kj_if_eq dX10_withoutGenerator_5 (tgt := 26) rfl (pc' := 8) rfl (fun c2 => ?_) (fun c2 => ?_)
  · rw [if_pos c2] at hT
    refine kj_iconst dX10_withoutGenerator_26 (pc' := 27) rfl kc_m1 ?_
    have hR := Option.some.inj hT
    subst hR
    exact kj_iret rfl dX10_withoutGenerator_27 (by subst hQ; exact ⟨rfl, rfl⟩)
  · rw [if_neg c2] at hT
    refine kj_aload_n dX10_withoutGenerator_8 (pc' := 9) rfl rfl rfl ?_
    refine kj_getR f_RX10_89 rfl (Nat.lt_of_lt_of_le (Nat.le_of_ble_eq_true rfl : 0 < 120) hE.1) (hE.2 _ _) (q := 116) rfl dX10_withoutGenerator_9 (pc' := 12) rfl ?_
    refine kj_aload_n dX10_withoutGenerator_12 (pc' := 13) rfl rfl rfl ?_
    refine kj_getR f_RX10_10 rfl (Nat.lt_of_lt_of_le (Nat.le_of_ble_eq_true rfl : 0 < 120) hE.1) (hE.2 _ _) (q := 1) rfl dX10_withoutGenerator_13 (pc' := 16) rfl ?_
    refine kj_getR f_RX10_125 rfl (Nat.lt_of_lt_of_le (Nat.le_of_ble_eq_true rfl : 1 < 120) hE.1) (hE.2 _ _) (q := 2) rfl dX10_withoutGenerator_16 (pc' := 19) rfl ?_
    refine kj_iload_n dX10_withoutGenerator_19 (pc' := 20) rfl rfl rfl ?_
    obtain ⟨t3, ht3, hT⟩ := bind_some' hT
    obtain ⟨t3, σ4⟩ := t3
    dsimp only at hT
    refine kcVi (as := [.inr 2, .inl x1]) (st := []) l_RX10_331 (m_X9_countUnions hE rfl σ x1 ht3) rfl (Nat.lt_of_lt_of_le (Nat.le_of_ble_eq_true rfl : 116 < 120) hE.1) rfl ⟨⟨rfl, rfl⟩, Nat.le_of_ble_eq_true rfl, Nat.le_of_ble_eq_true rfl⟩ (Nat.le_of_ble_eq_true rfl) dX10_withoutGenerator_20 (pc' := 23) rfl ?_
    refine kj_goto dX10_withoutGenerator_23 (pc' := 27) rfl ?_
    have hR := Option.some.inj hT
    subst hR
    exact kj_iret rfl dX10_withoutGenerator_27 (by subst hQ; exact ⟨rfl, rfl⟩)
def X10_gentlest (σ : Wd) : Option (Int32 × Wd) :=
  ((X9_leastGain σ).bind fun (t1, σ2) => some (t1, σ2))
set_option maxRecDepth 100000 in
set_option maxHeartbeats 4000000 in
theorem m_X10_gentlest {E : JE} (hE : kOk 120 E) (σ : Wd) {res : Int32 × Wd} (hT : X10_gentlest σ = some res) : kMt E yX10_gentlest mX10_gentlest rmX10_gentlest [.inr 0] σ (kQi res.1 res.2) := by
  refine kMt_of (by decide +kernel) rfl (Nat.le_of_ble_eq_true rfl) ?_
  generalize hQ : (kQi res.1 res.2) = Q
  show KJ E mX10_gentlest rmX10_gentlest 0 [some (.inr 0)] [] σ Q
  unfold X10_gentlest at hT
  refine kj_aload_n dX10_gentlest_0 (pc' := 1) rfl rfl rfl ?_
  refine kj_getR f_RX10_89 rfl (Nat.lt_of_lt_of_le (Nat.le_of_ble_eq_true rfl : 0 < 120) hE.1) (hE.2 _ _) (q := 116) rfl dX10_gentlest_1 (pc' := 4) rfl ?_
  obtain ⟨t1, ht1, hT⟩ := bind_some' hT
  obtain ⟨t1, σ2⟩ := t1
  dsimp only at hT
  refine kcVi (as := []) (st := []) l_RX10_335 (m_X9_leastGain hE σ ht1) rfl (Nat.lt_of_lt_of_le (Nat.le_of_ble_eq_true rfl : 116 < 120) hE.1) rfl ⟨⟨rfl, rfl⟩, Nat.le_of_ble_eq_true rfl, Nat.le_of_ble_eq_true rfl⟩ (Nat.le_of_ble_eq_true rfl) dX10_gentlest_4 (pc' := 7) rfl ?_
  have hR := Option.some.inj hT
  subst hR
  exact kj_iret rfl dX10_gentlest_7 (by subst hQ; exact ⟨rfl, rfl⟩)
def X10_spoiler (σ : Wd) : Option (Int32 × Wd) :=
  ((X9_leastFrequent σ).bind fun (t1, σ2) => some (t1, σ2))
set_option maxRecDepth 100000 in
set_option maxHeartbeats 4000000 in
theorem m_X10_spoiler {E : JE} (hE : kOk 120 E) (σ : Wd) {res : Int32 × Wd} (hT : X10_spoiler σ = some res) : kMt E yX10_spoiler mX10_spoiler rmX10_spoiler [.inr 0] σ (kQi res.1 res.2) := by
  refine kMt_of (by decide +kernel) rfl (Nat.le_of_ble_eq_true rfl) ?_
  generalize hQ : (kQi res.1 res.2) = Q
  show KJ E mX10_spoiler rmX10_spoiler 0 [some (.inr 0)] [] σ Q
  unfold X10_spoiler at hT
  refine kj_aload_n dX10_spoiler_0 (pc' := 1) rfl rfl rfl ?_
  refine kj_getR f_RX10_89 rfl (Nat.lt_of_lt_of_le (Nat.le_of_ble_eq_true rfl : 0 < 120) hE.1) (hE.2 _ _) (q := 116) rfl dX10_spoiler_1 (pc' := 4) rfl ?_
  obtain ⟨t1, ht1, hT⟩ := bind_some' hT
  obtain ⟨t1, σ2⟩ := t1
  dsimp only at hT
  refine kcVi (as := []) (st := []) l_RX10_338 (m_X9_leastFrequent hE σ ht1) rfl (Nat.lt_of_lt_of_le (Nat.le_of_ble_eq_true rfl : 116 < 120) hE.1) rfl ⟨⟨rfl, rfl⟩, Nat.le_of_ble_eq_true rfl, Nat.le_of_ble_eq_true rfl⟩ (Nat.le_of_ble_eq_true rfl) dX10_spoiler_4 (pc' := 7) rfl ?_
  have hR := Option.some.inj hT
  subst hR
  exact kj_iret rfl dX10_spoiler_7 (by subst hQ; exact ⟨rfl, rfl⟩)
def X10_fillTrial_B23 (rec23 : Int32 × Int32 × Int32 × Wd → Option (Int32 × Wd)) : Int32 × Int32 × Int32 × Wd → Option (Int32 × Wd)
  | (x2, x3, x4, σ) => (if x4 < 0 then some (x2, σ) else (ckA x4 7 <| (ckA x4 7 <| (lett (x2 + ((up σ 119 x4.toNatClampNeg (x3 % 3)) 119 x4.toNatClampNeg)) fun t4 => rec23 (t4, x3 / 3, x4 + (-1), up σ 119 x4.toNatClampNeg (x3 % 3))))))
def X10_fillTrial (σ : Wd) (x1 : Int32) : Option (Int32 × Wd) :=
  (lp (X10_fillTrial_B23) FU (0, x1, (J9_min_7cf53 (σ 1 3) 7) - 1, σ))
set_option maxRecDepth 100000 in
set_option maxHeartbeats 4000000 in
theorem m_X10_fillTrial {E : JE} (hE : kOk 120 E) (σ : Wd) (x1 : Int32) {res : Int32 × Wd} (hT : X10_fillTrial σ x1 = some res) : kMt E yX10_fillTrial mX10_fillTrial rmX10_fillTrial [.inr 0, .inl x1] σ (kQi res.1 res.2) := by
  refine kMt_of (by decide +kernel) rfl (Nat.le_of_ble_eq_true rfl) ?_
  generalize hQ : (kQi res.1 res.2) = Q
  show KJ E mX10_fillTrial rmX10_fillTrial 0 [some (.inr 0), some (.inl x1)] [] σ Q
  unfold X10_fillTrial at hT
  refine kj_iconst dX10_fillTrial_0 (pc' := 1) rfl kc_0 ?_
  refine kj_istore_n dX10_fillTrial_1 (pc' := 2) rfl rfl (Nat.le_of_ble_eq_true rfl) (ls' := [some (.inr 0), some (.inl x1), some (.inl 0)]) rfl ?_
  refine kj_iload_n dX10_fillTrial_2 (pc' := 3) rfl rfl rfl ?_
  refine kj_istore_n dX10_fillTrial_3 (pc' := 4) rfl rfl (Nat.le_of_ble_eq_true rfl) (ls' := [some (.inr 0), some (.inl x1), some (.inl 0), some (.inl x1)]) rfl ?_
  refine kj_aload_n dX10_fillTrial_4 (pc' := 5) rfl rfl rfl ?_
  refine kj_getR f_RX10_10 rfl (Nat.lt_of_lt_of_le (Nat.le_of_ble_eq_true rfl : 0 < 120) hE.1) (hE.2 _ _) (q := 1) rfl dX10_fillTrial_5 (pc' := 8) rfl ?_
  refine kj_getI f_RX10_171 rfl (Nat.lt_of_lt_of_le (Nat.le_of_ble_eq_true rfl : 1 < 120) hE.1) dX10_fillTrial_8 (pc' := 11) rfl ?_
  refine kj_aload_n dX10_fillTrial_11 (pc' := 12) rfl rfl rfl ?_
  refine kj_getR f_RX10_93 rfl (Nat.lt_of_lt_of_le (Nat.le_of_ble_eq_true rfl : 0 < 120) hE.1) (hE.2 _ _) (q := 119) rfl dX10_fillTrial_12 (pc' := 15) rfl ?_
  refine kj_alen (n := 0) (v := 7) 0 (ty := .int) rfl (by decide) rfl (Nat.lt_of_lt_of_le (Nat.le_of_ble_eq_true rfl : 119 < 120) hE.1) (by decide +kernel) dX10_fillTrial_15 (pc' := 16) rfl ?_
  refine kcSi (as := [.inl (σ 1 3), .inl 7]) (st := []) l_RX10_374 (m_J9_min_7cf53 (Nat.zero_le _) σ (σ 1 3) 7 rfl) rfl ⟨⟨rfl, rfl⟩, Nat.le_of_ble_eq_true rfl, Nat.le_of_ble_eq_true rfl⟩ (Nat.le_of_ble_eq_true rfl) dX10_fillTrial_16 (pc' := 19) rfl ?_
  refine kj_iconst dX10_fillTrial_19 (pc' := 20) rfl kc_1 ?_
  refine kj_isub dX10_fillTrial_20 (pc' := 21) rfl ?_
  refine kj_istore dX10_fillTrial_21 (pc' := 23) rfl (Nat.le_of_ble_eq_true rfl) (ls' := [some (.inr 0), some (.inl x1), some (.inl 0), some (.inl x1), some (.inl ((J9_min_7cf53 (σ 1 3) 7) - 1))]) rfl ?_
  refine kj_keep [true, false, true, true, true] (ls' := [some (.inr 0), none, some (.inl 0), some (.inl x1), some (.inl ((J9_min_7cf53 (σ 1 3) 7) - 1))]) rfl ?_
  refine lp_ind (P := fun s => KJ E mX10_fillTrial rmX10_fillTrial 23 [some (.inr 0), none, some (.inl s.1), some (.inl s.2.1), some (.inl s.2.2.1)] [] s.2.2.2 Q) (fun rec23 s ih23 hT => ?_) FU (0, x1, (J9_min_7cf53 (σ 1 3) 7) - 1, σ) hT
  obtain ⟨x2, x3, x4, σ⟩ := s
  show KJ E mX10_fillTrial rmX10_fillTrial 23 [some (.inr 0), none, some (.inl x2), some (.inl x3), some (.inl x4)] [] σ Q
  rw [X10_fillTrial_B23] at hT
  refine kj_iload dX10_fillTrial_23 (pc' := 25) rfl rfl ?_
  refine kj_if_lt dX10_fillTrial_25 (tgt := 58) rfl (pc' := 28) rfl (fun c1 => ?_) (fun c1 => ?_)
  · rw [if_pos c1] at hT
    refine kj_iload_n dX10_fillTrial_58 (pc' := 59) rfl rfl rfl ?_
    have hR := Option.some.inj hT
    subst hR
    exact kj_iret rfl dX10_fillTrial_59 (by subst hQ; exact ⟨rfl, rfl⟩)
  · rw [if_neg c1] at hT
    refine kj_aload_n dX10_fillTrial_28 (pc' := 29) rfl rfl rfl ?_
    refine kj_getR f_RX10_93 rfl (Nat.lt_of_lt_of_le (Nat.le_of_ble_eq_true rfl : 0 < 120) hE.1) (hE.2 _ _) (q := 119) rfl dX10_fillTrial_29 (pc' := 32) rfl ?_
    refine kj_iload dX10_fillTrial_32 (pc' := 34) rfl rfl ?_
    refine kj_iload_n dX10_fillTrial_34 (pc' := 35) rfl rfl rfl ?_
    refine kj_iconst dX10_fillTrial_35 (pc' := 36) rfl kc_3 ?_
    refine kj_irem dX10_fillTrial_36 (pc' := 37) rfl (by decide +kernel) ?_
    obtain ⟨hi2, hT⟩ := ckA_some hT
    refine kj_iast rfl (Nat.lt_of_lt_of_le (Nat.le_of_ble_eq_true rfl : 119 < 120) hE.1) hi2 rfl dX10_fillTrial_37 (pc' := 38) rfl ?_
    refine kj_iload_n dX10_fillTrial_38 (pc' := 39) rfl rfl rfl ?_
    refine kj_iconst dX10_fillTrial_39 (pc' := 40) rfl kc_3 ?_
    refine kj_idiv dX10_fillTrial_40 (pc' := 41) rfl (by decide +kernel) ?_
    refine kj_istore_n dX10_fillTrial_41 (pc' := 42) rfl rfl (Nat.le_of_ble_eq_true rfl) (ls' := [some (.inr 0), none, some (.inl x2), some (.inl (x3 / 3)), some (.inl x4)]) rfl ?_
    refine kj_iload_n dX10_fillTrial_42 (pc' := 43) rfl rfl rfl ?_
    refine kj_aload_n dX10_fillTrial_43 (pc' := 44) rfl rfl rfl ?_
    refine kj_getR f_RX10_93 rfl (Nat.lt_of_lt_of_le (Nat.le_of_ble_eq_true rfl : 0 < 120) hE.1) (hE.2 _ _) (q := 119) rfl dX10_fillTrial_44 (pc' := 47) rfl ?_
    refine kj_iload dX10_fillTrial_47 (pc' := 49) rfl rfl ?_
    obtain ⟨hi3, hT⟩ := ckA_some hT
    refine kj_iald rfl (Nat.lt_of_lt_of_le (Nat.le_of_ble_eq_true rfl : 119 < 120) hE.1) hi3 rfl dX10_fillTrial_49 (pc' := 50) rfl ?_
    refine kj_iadd dX10_fillTrial_50 (pc' := 51) rfl ?_
    obtain ⟨t4, et4, hT⟩ := lett_i hT
    rw [← et4]
    refine kj_istore_n dX10_fillTrial_51 (pc' := 52) rfl rfl (Nat.le_of_ble_eq_true rfl) (ls' := [some (.inr 0), none, some (.inl t4), some (.inl (x3 / 3)), some (.inl x4)]) rfl ?_
    refine kj_iinc dX10_fillTrial_52 (pc' := 55) rfl rfl (congrArg (_ + ·) kc_m1) (Nat.le_of_ble_eq_true rfl) (ls' := [some (.inr 0), none, some (.inl t4), some (.inl (x3 / 3)), some (.inl (x4 + (-1)))]) rfl ?_
    refine kj_goto dX10_fillTrial_55 (pc' := 23) rfl ?_
    exact ih23 (t4, x3 / 3, x4 + (-1), up σ 119 x4.toNatClampNeg (x3 % 3)) hT
def X10_trialDigits_B4 (σ : Wd) (rec4 : Int32 × Int32 → Option (Int32)) : Int32 × Int32 → Option (Int32)
  | (x1, x2) => (if (σ 1 3) ≤ x2 then some x1 else (if 7 ≤ x2 then some x1 else (ckA x2 7 <| (lett ((10 * x1) + (σ 119 x2.toNatClampNeg)) fun t5 => rec4 (t5, x2 + 1)))))
def X10_trialDigits (σ : Wd) : Option (Int32) :=
  (lp (X10_trialDigits_B4 σ) FU (0, 0))
set_option maxRecDepth 100000 in
set_option maxHeartbeats 4000000 in
theorem m_X10_trialDigits {E : JE} (hE : kOk 120 E) (σ : Wd) {res : Int32} (hT : X10_trialDigits σ = some res) : kMt E yX10_trialDigits mX10_trialDigits rmX10_trialDigits [.inr 0] σ (kQi res σ) := by
  refine kMt_of (by decide +kernel) rfl (Nat.le_of_ble_eq_true rfl) ?_
  generalize hQ : (kQi res σ) = Q
  show KJ E mX10_trialDigits rmX10_trialDigits 0 [some (.inr 0)] [] σ Q
  unfold X10_trialDigits at hT
  refine kj_iconst dX10_trialDigits_0 (pc' := 1) rfl kc_0 ?_
  refine kj_istore_n dX10_trialDigits_1 (pc' := 2) rfl rfl (Nat.le_of_ble_eq_true rfl) (ls' := [some (.inr 0), some (.inl 0)]) rfl ?_
  refine kj_iconst dX10_trialDigits_2 (pc' := 3) rfl kc_0 ?_
  refine kj_istore_n dX10_trialDigits_3 (pc' := 4) rfl rfl (Nat.le_of_ble_eq_true rfl) (ls' := [some (.inr 0), some (.inl 0), some (.inl 0)]) rfl ?_
  refine lp_ind (P := fun s => KJ E mX10_trialDigits rmX10_trialDigits 4 [some (.inr 0), some (.inl s.1), some (.inl s.2)] [] σ Q) (fun rec4 s ih4 hT => ?_) FU (0, 0) hT
  obtain ⟨x1, x2⟩ := s
  show KJ E mX10_trialDigits rmX10_trialDigits 4 [some (.inr 0), some (.inl x1), some (.inl x2)] [] σ Q
  rw [X10_trialDigits_B4] at hT
  refine kj_iload_n dX10_trialDigits_4 (pc' := 5) rfl rfl rfl ?_
  refine kj_aload_n dX10_trialDigits_5 (pc' := 6) rfl rfl rfl ?_
  refine kj_getR f_RX10_10 rfl (Nat.lt_of_lt_of_le (Nat.le_of_ble_eq_true rfl : 0 < 120) hE.1) (hE.2 _ _) (q := 1) rfl dX10_trialDigits_6 (pc' := 9) rfl ?_
  refine kj_getI f_RX10_171 rfl (Nat.lt_of_lt_of_le (Nat.le_of_ble_eq_true rfl : 1 < 120) hE.1) dX10_trialDigits_9 (pc' := 12) rfl ?_
  refine kj_icmp_ge dX10_trialDigits_12 (tgt := 42) rfl (pc' := 15) rfl (fun c2 => ?_) (fun c2 => ?_)
  · rw [if_pos c2] at hT
    refine kj_iload_n dX10_trialDigits_42 (pc' := 43) rfl rfl rfl ?_
    have hR := Option.some.inj hT
    subst hR
    exact kj_iret rfl dX10_trialDigits_43 (by subst hQ; exact ⟨rfl, rfl⟩)
  · rw [if_neg c2] at hT
    refine kj_iload_n dX10_trialDigits_15 (pc' := 16) rfl rfl rfl ?_
    refine kj_aload_n dX10_trialDigits_16 (pc' := 17) rfl rfl rfl ?_
    refine kj_getR f_RX10_93 rfl (Nat.lt_of_lt_of_le (Nat.le_of_ble_eq_true rfl : 0 < 120) hE.1) (hE.2 _ _) (q := 119) rfl dX10_trialDigits_17 (pc' := 20) rfl ?_
    refine kj_alen (n := 0) (v := 7) 0 (ty := .int) rfl (by decide) rfl (Nat.lt_of_lt_of_le (Nat.le_of_ble_eq_true rfl : 119 < 120) hE.1) (by decide +kernel) dX10_trialDigits_20 (pc' := 21) rfl ?_
    refine kj_icmp_ge dX10_trialDigits_21 (tgt := 42) rfl (pc' := 24) rfl (fun c3 => ?_) (fun c3 => ?_)
    · rw [if_pos c3] at hT
      refine kj_iload_n dX10_trialDigits_42 (pc' := 43) rfl rfl rfl ?_
      have hR := Option.some.inj hT
      subst hR
      exact kj_iret rfl dX10_trialDigits_43 (by subst hQ; exact ⟨rfl, rfl⟩)
    · rw [if_neg c3] at hT
      refine kj_bipush dX10_trialDigits_24 (pc' := 26) rfl kb_10 ?_
      refine kj_iload_n dX10_trialDigits_26 (pc' := 27) rfl rfl rfl ?_
      refine kj_imul dX10_trialDigits_27 (pc' := 28) rfl ?_
      refine kj_aload_n dX10_trialDigits_28 (pc' := 29) rfl rfl rfl ?_
      refine kj_getR f_RX10_93 rfl (Nat.lt_of_lt_of_le (Nat.le_of_ble_eq_true rfl : 0 < 120) hE.1) (hE.2 _ _) (q := 119) rfl dX10_trialDigits_29 (pc' := 32) rfl ?_
      refine kj_iload_n dX10_trialDigits_32 (pc' := 33) rfl rfl rfl ?_
      obtain ⟨hi4, hT⟩ := ckA_some hT
      refine kj_iald rfl (Nat.lt_of_lt_of_le (Nat.le_of_ble_eq_true rfl : 119 < 120) hE.1) hi4 rfl dX10_trialDigits_33 (pc' := 34) rfl ?_
      refine kj_iadd dX10_trialDigits_34 (pc' := 35) rfl ?_
      obtain ⟨t5, et5, hT⟩ := lett_i hT
      rw [← et5]
      refine kj_istore_n dX10_trialDigits_35 (pc' := 36) rfl rfl (Nat.le_of_ble_eq_true rfl) (ls' := [some (.inr 0), some (.inl t5), some (.inl x2)]) rfl ?_
      refine kj_iinc dX10_trialDigits_36 (pc' := 39) rfl rfl (congrArg (_ + ·) kc_1) (Nat.le_of_ble_eq_true rfl) (ls' := [some (.inr 0), some (.inl t5), some (.inl (x2 + 1))]) rfl ?_
      refine kj_goto dX10_trialDigits_39 (pc' := 4) rfl ?_
      exact ih4 (t5, x2 + 1) hT
def X10_proof_J77 (rec35 : Int32 × Int32 × Int32 × Wd → Option (Int32 × Wd)) (y2 : Int32) (y3 : Int32) (y4 : Int32) (ς : Wd) : Option (Int32 × Wd) :=
  rec35 (y2, y3, y4 + 1, ς)
def X10_proof_B35 (x1 : Int32) (rec35 : Int32 × Int32 × Int32 × Wd → Option (Int32 × Wd)) : Int32 × Int32 × Int32 × Wd → Option (Int32 × Wd)
  | (x2, x3, x4, σ) => (if x1 ≤ x4 then some (x2, σ) else ((X10_fillTrial σ x4).bind fun (t3, σ4) => (if x3 ≤ t3 then X10_proof_J77 rec35 x2 x3 x4 σ4 else ((X0_isProof σ4 119).bind fun t6 => (if t6 = 0 then X10_proof_J77 rec35 x2 x3 x4 σ4 else ((X10_trialDigits σ4).bind fun t9 => X10_proof_J77 rec35 t9 t3 x4 σ4))))))
def X10_proof_T25 (σ : Wd) (x1 : Int32) : Option (Int32 × Wd) :=
  (lp (X10_proof_B35 x1) FU ((-2), 1000000, 1, σ))
def X10_proof_B4 (σ : Wd) (kx4 : Int32 → Option (Int32 × Wd)) (rec4 : Int32 × Int32 → Option (Int32 × Wd)) : Int32 × Int32 → Option (Int32 × Wd)
  | (x1, x2) => (if (σ 1 3) ≤ x2 then kx4 x1 else rec4 (x1 * 3, x2 + 1))
def X10_proof (σ : Wd) : Option (Int32 × Wd) :=
  (lp (X10_proof_B4 σ (X10_proof_T25 σ)) FU (1, 0))
set_option maxRecDepth 100000 in
set_option maxHeartbeats 4000000 in
theorem m_X10_proof {E : JE} (hE : kOk 120 E) (σ : Wd) {res : Int32 × Wd} (hT : X10_proof σ = some res) : kMt E yX10_proof mX10_proof rmX10_proof [.inr 0] σ (kQi res.1 res.2) := by
  refine kMt_of (by decide +kernel) rfl (Nat.le_of_ble_eq_true rfl) ?_
  generalize hQ : (kQi res.1 res.2) = Q
  show KJ E mX10_proof rmX10_proof 0 [some (.inr 0)] [] σ Q
  unfold X10_proof at hT
  refine kj_iconst dX10_proof_0 (pc' := 1) rfl kc_1 ?_
  refine kj_istore_n dX10_proof_1 (pc' := 2) rfl rfl (Nat.le_of_ble_eq_true rfl) (ls' := [some (.inr 0), some (.inl 1)]) rfl ?_
  refine kj_iconst dX10_proof_2 (pc' := 3) rfl kc_0 ?_
  refine kj_istore_n dX10_proof_3 (pc' := 4) rfl rfl (Nat.le_of_ble_eq_true rfl) (ls' := [some (.inr 0), some (.inl 1), some (.inl 0)]) rfl ?_
  have hX4 : ∀ x1, X10_proof_T25 σ x1 = some res → KJ E mX10_proof rmX10_proof 25 [some (.inr 0), some (.inl x1)] [] σ Q := by
    intro x1 hT
    unfold X10_proof_T25 at hT
    refine kj_bipush dX10_proof_25 (pc' := 27) rfl kb_m2 ?_
    refine kj_istore_n dX10_proof_27 (pc' := 28) rfl rfl (Nat.le_of_ble_eq_true rfl) (ls' := [some (.inr 0), some (.inl x1), some (.inl (-2))]) rfl ?_
    refine kj_ldc_w (v := 1000000) (kMem 1092 (by decide +kernel) rfl) dX10_proof_28 (pc' := 31) rfl ?_
    refine kj_istore_n dX10_proof_31 (pc' := 32) rfl rfl (Nat.le_of_ble_eq_true rfl) (ls' := [some (.inr 0), some (.inl x1), some (.inl (-2)), some (.inl 1000000)]) rfl ?_
    refine kj_iconst dX10_proof_32 (pc' := 33) rfl kc_1 ?_
    refine kj_istore dX10_proof_33 (pc' := 35) rfl (Nat.le_of_ble_eq_true rfl) (ls' := [some (.inr 0), some (.inl x1), some (.inl (-2)), some (.inl 1000000), some (.inl 1)]) rfl ?_
    refine lp_ind (P := fun s => KJ E mX10_proof rmX10_proof 35 [some (.inr 0), some (.inl x1), some (.inl s.1), some (.inl s.2.1), some (.inl s.2.2.1)] [] s.2.2.2 Q) (fun rec35 s ih35 hT => ?_) FU ((-2), 1000000, 1, σ) hT
    obtain ⟨x2, x3, x4, σ⟩ := s
    show KJ E mX10_proof rmX10_proof 35 [some (.inr 0), some (.inl x1), some (.inl x2), some (.inl x3), some (.inl x4)] [] σ Q
    rw [X10_proof_B35] at hT
    have hJ77_35 : ∀ y2 y3 y4 ς, X10_proof_J77 rec35 y2 y3 y4 ς = some res → KJ E mX10_proof rmX10_proof 77 [some (.inr 0), some (.inl x1), some (.inl y2), some (.inl y3), some (.inl y4)] [] ς Q := by
      intro y2 y3 y4 ς hT
      unfold X10_proof_J77 at hT
      refine kj_iinc dX10_proof_77 (pc' := 80) rfl rfl (congrArg (_ + ·) kc_1) (Nat.le_of_ble_eq_true rfl) (ls' := [some (.inr 0), some (.inl x1), some (.inl y2), some (.inl y3), some (.inl (y4 + 1))]) rfl ?_
      refine kj_goto dX10_proof_80 (pc' := 35) rfl ?_
      exact ih35 (y2, y3, y4 + 1, ς) hT
    refine kj_iload dX10_proof_35 (pc' := 37) rfl rfl ?_
    refine kj_iload_n dX10_proof_37 (pc' := 38) rfl rfl rfl ?_
    refine kj_icmp_ge dX10_proof_38 (tgt := 83) rfl (pc' := 41) rfl (fun c2 => ?_) (fun c2 => ?_)
    · rw [if_pos c2] at hT
      refine kj_iload_n dX10_proof_83 (pc' := 84) rfl rfl rfl ?_
      have hR := Option.some.inj hT
      subst hR
      exact kj_iret rfl dX10_proof_84 (by subst hQ; exact ⟨rfl, rfl⟩)
    · rw [if_neg c2] at hT
      refine kj_aload_n dX10_proof_41 (pc' := 42) rfl rfl rfl ?_
      refine kj_iload dX10_proof_42 (pc' := 44) rfl rfl ?_
      obtain ⟨t3, ht3, hT⟩ := bind_some' hT
      obtain ⟨t3, σ4⟩ := t3
      dsimp only at hT
      refine kcVi (as := [.inl x4]) (st := []) l_RX10_342 (m_X10_fillTrial hE σ x4 ht3) rfl (Nat.lt_of_lt_of_le (Nat.le_of_ble_eq_true rfl : 0 < 120) hE.1) rfl ⟨⟨rfl, rfl⟩, Nat.le_of_ble_eq_true rfl, Nat.le_of_ble_eq_true rfl⟩ (Nat.le_of_ble_eq_true rfl) dX10_proof_44 (pc' := 47) rfl ?_
      refine kj_istore dX10_proof_47 (pc' := 49) rfl (Nat.le_of_ble_eq_true rfl) (ls' := [some (.inr 0), some (.inl x1), some (.inl x2), some (.inl x3), some (.inl x4), some (.inl t3)]) rfl ?_
      refine kj_iload dX10_proof_49 (pc' := 51) rfl rfl ?_
      refine kj_iload_n dX10_proof_51 (pc' := 52) rfl rfl rfl ?_
      refine kj_icmp_ge dX10_proof_52 (tgt := 77) rfl (pc' := 55) rfl (fun c5 => ?_) (fun c5 => ?_)
      · rw [if_pos c5] at hT
        refine kj_keep [true, true, true, true, true] (ls' := [some (.inr 0), some (.inl x1), some (.inl x2), some (.inl x3), some (.inl x4)]) rfl ?_
        exact hJ77_35 x2 x3 x4 σ4 hT
      · rw [if_neg c5] at hT
        refine kj_aload_n dX10_proof_55 (pc' := 56) rfl rfl rfl ?_
        refine kj_getR f_RX10_54 rfl (Nat.lt_of_lt_of_le (Nat.le_of_ble_eq_true rfl : 0 < 120) hE.1) (hE.2 _ _) (q := 93) rfl dX10_proof_56 (pc' := 59) rfl ?_
        refine kj_aload_n dX10_proof_59 (pc' := 60) rfl rfl rfl ?_
        refine kj_getR f_RX10_93 rfl (Nat.lt_of_lt_of_le (Nat.le_of_ble_eq_true rfl : 0 < 120) hE.1) (hE.2 _ _) (q := 119) rfl dX10_proof_60 (pc' := 63) rfl ?_
        obtain ⟨t6, ht6, hT⟩ := bind_some' hT
        refine kcVz (as := [.inr 119]) (st := []) l_RX10_241 (m_X0_isProof hE rfl (Nat.lt_of_lt_of_le (Nat.le_of_ble_eq_true rfl : 119 < 120) hE.1) σ4 ht6) rfl (Nat.lt_of_lt_of_le (Nat.le_of_ble_eq_true rfl : 93 < 120) hE.1) rfl ⟨⟨rfl, rfl⟩, Nat.le_of_ble_eq_true rfl, Nat.le_of_ble_eq_true rfl⟩ (Nat.le_of_ble_eq_true rfl) dX10_proof_63 (pc' := 66) rfl (fun z7 => ?_)
        refine kj_if_eq dX10_proof_66 (tgt := 77) rfl (pc' := 69) rfl (fun c8 => ?_) (fun c8 => ?_)
        · rw [if_pos c8] at hT
          refine kj_keep [true, true, true, true, true] (ls' := [some (.inr 0), some (.inl x1), some (.inl x2), some (.inl x3), some (.inl x4)]) rfl ?_
          exact hJ77_35 x2 x3 x4 σ4 hT
        · rw [if_neg c8] at hT
          refine kj_iload dX10_proof_69 (pc' := 71) rfl rfl ?_
          refine kj_istore_n dX10_proof_71 (pc' := 72) rfl rfl (Nat.le_of_ble_eq_true rfl) (ls' := [some (.inr 0), some (.inl x1), some (.inl x2), some (.inl t3), some (.inl x4), some (.inl t3)]) rfl ?_
          refine kj_aload_n dX10_proof_72 (pc' := 73) rfl rfl rfl ?_
          obtain ⟨t9, ht9, hT⟩ := bind_some' hT
          refine kcVi (as := []) (st := []) l_RX10_345 (m_X10_trialDigits hE σ4 ht9) rfl (Nat.lt_of_lt_of_le (Nat.le_of_ble_eq_true rfl : 0 < 120) hE.1) rfl ⟨⟨rfl, rfl⟩, Nat.le_of_ble_eq_true rfl, Nat.le_of_ble_eq_true rfl⟩ (Nat.le_of_ble_eq_true rfl) dX10_proof_73 (pc' := 76) rfl ?_
          refine kj_istore_n dX10_proof_76 (pc' := 77) rfl rfl (Nat.le_of_ble_eq_true rfl) (ls' := [some (.inr 0), some (.inl x1), some (.inl t9), some (.inl t3), some (.inl x4), some (.inl t3)]) rfl ?_
          refine kj_keep [true, true, true, true, true] (ls' := [some (.inr 0), some (.inl x1), some (.inl t9), some (.inl t3), some (.inl x4)]) rfl ?_
          exact hJ77_35 t9 t3 x4 σ4 hT
  refine lp_ind (P := fun s => KJ E mX10_proof rmX10_proof 4 [some (.inr 0), some (.inl s.1), some (.inl s.2)] [] σ Q) (fun rec4 s ih4 hT => ?_) FU (1, 0) hT
  obtain ⟨x1, x2⟩ := s
  show KJ E mX10_proof rmX10_proof 4 [some (.inr 0), some (.inl x1), some (.inl x2)] [] σ Q
  rw [X10_proof_B4] at hT
  refine kj_iload_n dX10_proof_4 (pc' := 5) rfl rfl rfl ?_
  refine kj_aload_n dX10_proof_5 (pc' := 6) rfl rfl rfl ?_
  refine kj_getR f_RX10_10 rfl (Nat.lt_of_lt_of_le (Nat.le_of_ble_eq_true rfl : 0 < 120) hE.1) (hE.2 _ _) (q := 1) rfl dX10_proof_6 (pc' := 9) rfl ?_
  refine kj_getI f_RX10_171 rfl (Nat.lt_of_lt_of_le (Nat.le_of_ble_eq_true rfl : 1 < 120) hE.1) dX10_proof_9 (pc' := 12) rfl ?_
  refine kj_icmp_ge dX10_proof_12 (tgt := 25) rfl (pc' := 15) rfl (fun c10 => ?_) (fun c10 => ?_)
  · rw [if_pos c10] at hT
    refine kj_keep [true, true] (ls' := [some (.inr 0), some (.inl x1)]) rfl ?_
    exact hX4 x1 hT
  · rw [if_neg c10] at hT
    refine kj_iload_n dX10_proof_15 (pc' := 16) rfl rfl rfl ?_
    refine kj_iconst dX10_proof_16 (pc' := 17) rfl kc_3 ?_
    refine kj_imul dX10_proof_17 (pc' := 18) rfl ?_
    refine kj_istore_n dX10_proof_18 (pc' := 19) rfl rfl (Nat.le_of_ble_eq_true rfl) (ls' := [some (.inr 0), some (.inl (x1 * 3)), some (.inl x2)]) rfl ?_
    refine kj_iinc dX10_proof_19 (pc' := 22) rfl rfl (congrArg (_ + ·) kc_1) (Nat.le_of_ble_eq_true rfl) (ls' := [some (.inr 0), some (.inl (x1 * 3)), some (.inl (x2 + 1))]) rfl ?_
    refine kj_goto dX10_proof_22 (pc' := 4) rfl ?_
    exact ih4 (x1 * 3, x2 + 1) hT
def X10_listed (σ : Wd) (x1 : Int32) : Option (Int32) :=
  ((X4_at σ 4 x1).bind fun t1 => some t1)
set_option maxRecDepth 100000 in
set_option maxHeartbeats 4000000 in
theorem m_X10_listed {E : JE} (hE : kOk 120 E) (σ : Wd) (x1 : Int32) {res : Int32} (hT : X10_listed σ x1 = some res) : kMt E yX10_listed mX10_listed rmX10_listed [.inr 0, .inl x1] σ (kQi res σ) := by
  refine kMt_of (by decide +kernel) rfl (Nat.le_of_ble_eq_true rfl) ?_
  generalize hQ : (kQi res σ) = Q
  show KJ E mX10_listed rmX10_listed 0 [some (.inr 0), some (.inl x1)] [] σ Q
  unfold X10_listed at hT
  refine kj_aload_n dX10_listed_0 (pc' := 1) rfl rfl rfl ?_
  refine kj_getR f_RX10_10 rfl (Nat.lt_of_lt_of_le (Nat.le_of_ble_eq_true rfl : 0 < 120) hE.1) (hE.2 _ _) (q := 1) rfl dX10_listed_1 (pc' := 4) rfl ?_
  refine kj_getR f_RX10_114 rfl (Nat.lt_of_lt_of_le (Nat.le_of_ble_eq_true rfl : 1 < 120) hE.1) (hE.2 _ _) (q := 4) rfl dX10_listed_4 (pc' := 7) rfl ?_
  refine kj_iload_n dX10_listed_7 (pc' := 8) rfl rfl rfl ?_
  obtain ⟨t1, ht1, hT⟩ := bind_some' hT
  refine kcVi (as := [.inl x1]) (st := []) l_RX10_148 (m_X4_at hE rfl σ x1 ht1) rfl (Nat.lt_of_lt_of_le (Nat.le_of_ble_eq_true rfl : 4 < 120) hE.1) rfl ⟨⟨rfl, rfl⟩, Nat.le_of_ble_eq_true rfl, Nat.le_of_ble_eq_true rfl⟩ (Nat.le_of_ble_eq_true rfl) dX10_listed_8 (pc' := 11) rfl ?_
  have hR := Option.some.inj hT
  subst hR
  exact kj_iret rfl dX10_listed_11 (by subst hQ; exact ⟨rfl, rfl⟩)
def X10_refused_T112 (rec13 : Int32 → Option (Int32)) (x2 : Int32) : Option (Int32) :=
  rec13 (x2 + 1)
def X10_refused_B31 (σ : Wd) (x2 : Int32) (x1 : Int32) (kx31 : Option (Int32)) (rec31 : Int32 → Option (Int32)) : Int32 → Option (Int32)
  | (x3) => (if (σ 4 1) ≤ x3 then kx31 else ((X4_at σ 4 x2).bind fun t7 => ((X4_at σ 4 x3).bind fun t8 => ((X4_find σ 4 (t7 ||| t8)).bind fun t9 => (if t9 = (-1) then (if x1 = 0 then some x2 else (if x1 = 1 then some x3 else some (t7 ||| t8))) else rec31 (x3 + 1))))))
def X10_refused_B13 (σ : Wd) (x1 : Int32) (rec13 : Int32 → Option (Int32)) : Int32 → Option (Int32)
  | (x2) => (if (σ 4 1) ≤ x2 then some (-2) else (lp (X10_refused_B31 σ x2 x1 (X10_refused_T112 rec13 x2)) FU (x2 + 1)))
def X10_refused (σ : Wd) (x1 : Int32) : Option (Int32) :=
  (if x1 < 0 then some (-1) else (if x1 ≤ 2 then (lp (X10_refused_B13 σ x1) FU (0)) else some (-1)))
set_option maxRecDepth 100000 in
set_option maxHeartbeats 4000000 in
theorem m_X10_refused {E : JE} (hE : kOk 120 E) (σ : Wd) (x1 : Int32) {res : Int32} (hT : X10_refused σ x1 = some res) : kMt E yX10_refused mX10_refused rmX10_refused [.inr 0, .inl x1] σ (kQi res σ) := by
  refine kMt_of (by decide +kernel) rfl (Nat.le_of_ble_eq_true rfl) ?_
  generalize hQ : (kQi res σ) = Q
  show KJ E mX10_refused rmX10_refused 0 [some (.inr 0), some (.inl x1)] [] σ Q
  unfold X10_refused at hT
  refine kj_iload_n dX10_refused_0 (pc' := 1) rfl rfl rfl ?_
  refine kj_if_lt dX10_refused_1 (tgt := 9) rfl (pc' := 4) rfl (fun c1 => ?_) (fun c1 => ?_)
  · rw [if_pos c1] at hT
    refine kj_iconst dX10_refused_9 (pc' := 10) rfl kc_m1 ?_
    have hR := Option.some.inj hT
    subst hR
    exact kj_iret rfl dX10_refused_10 (by subst hQ; exact ⟨rfl, rfl⟩)
  · rw [if_neg c1] at hT
    refine kj_iload_n dX10_refused_4 (pc' := 5) rfl rfl rfl ?_
    refine kj_iconst dX10_refused_5 (pc' := 6) rfl kc_2 ?_
    refine kj_icmp_le dX10_refused_6 (tgt := 11) rfl (pc' := 9) rfl (fun c2 => ?_) (fun c2 => ?_)
    · rw [if_pos c2] at hT
      refine kj_iconst dX10_refused_11 (pc' := 12) rfl kc_0 ?_
      refine kj_istore_n dX10_refused_12 (pc' := 13) rfl rfl (Nat.le_of_ble_eq_true rfl) (ls' := [some (.inr 0), some (.inl x1), some (.inl 0)]) rfl ?_
      refine lp_ind (P := fun s => KJ E mX10_refused rmX10_refused 13 [some (.inr 0), some (.inl x1), some (.inl s)] [] σ Q) (fun rec13 s ih13 hT => ?_) FU (0) hT
      obtain ⟨x2, hs⟩ : ∃ z, z = s := ⟨_, rfl⟩
      subst hs
      show KJ E mX10_refused rmX10_refused 13 [some (.inr 0), some (.inl x1), some (.inl x2)] [] σ Q
      rw [X10_refused_B13] at hT
      refine kj_iload_n dX10_refused_13 (pc' := 14) rfl rfl rfl ?_
      refine kj_aload_n dX10_refused_14 (pc' := 15) rfl rfl rfl ?_
      refine kj_getR f_RX10_10 rfl (Nat.lt_of_lt_of_le (Nat.le_of_ble_eq_true rfl : 0 < 120) hE.1) (hE.2 _ _) (q := 1) rfl dX10_refused_15 (pc' := 18) rfl ?_
      refine kj_getR f_RX10_114 rfl (Nat.lt_of_lt_of_le (Nat.le_of_ble_eq_true rfl : 1 < 120) hE.1) (hE.2 _ _) (q := 4) rfl dX10_refused_18 (pc' := 21) rfl ?_
      refine kj_getI f_RX10_100 rfl (Nat.lt_of_lt_of_le (Nat.le_of_ble_eq_true rfl : 4 < 120) hE.1) dX10_refused_21 (pc' := 24) rfl ?_
      refine kj_icmp_ge dX10_refused_24 (tgt := 118) rfl (pc' := 27) rfl (fun c4 => ?_) (fun c4 => ?_)
      · rw [if_pos c4] at hT
        refine kj_bipush dX10_refused_118 (pc' := 120) rfl kb_m2 ?_
        have hR := Option.some.inj hT
        subst hR
        exact kj_iret rfl dX10_refused_120 (by subst hQ; exact ⟨rfl, rfl⟩)
      · rw [if_neg c4] at hT
        refine kj_iload_n dX10_refused_27 (pc' := 28) rfl rfl rfl ?_
        refine kj_iconst dX10_refused_28 (pc' := 29) rfl kc_1 ?_
        refine kj_iadd dX10_refused_29 (pc' := 30) rfl ?_
        refine kj_istore_n dX10_refused_30 (pc' := 31) rfl rfl (Nat.le_of_ble_eq_true rfl) (ls' := [some (.inr 0), some (.inl x1), some (.inl x2), some (.inl (x2 + 1))]) rfl ?_
        have hX31 : ∀ (_ : Unit), X10_refused_T112 rec13 x2 = some res → KJ E mX10_refused rmX10_refused 112 [some (.inr 0), some (.inl x1), some (.inl x2)] [] σ Q := by
          intro _ hT
          unfold X10_refused_T112 at hT
          refine kj_iinc dX10_refused_112 (pc' := 115) rfl rfl (congrArg (_ + ·) kc_1) (Nat.le_of_ble_eq_true rfl) (ls' := [some (.inr 0), some (.inl x1), some (.inl (x2 + 1))]) rfl ?_
          refine kj_goto dX10_refused_115 (pc' := 13) rfl ?_
          exact ih13 (x2 + 1) hT
        refine lp_ind (P := fun s => KJ E mX10_refused rmX10_refused 31 [some (.inr 0), some (.inl x1), some (.inl x2), some (.inl s)] [] σ Q) (fun rec31 s ih31 hT => ?_) FU (x2 + 1) hT
        obtain ⟨x3, hs⟩ : ∃ z, z = s := ⟨_, rfl⟩
        subst hs
        show KJ E mX10_refused rmX10_refused 31 [some (.inr 0), some (.inl x1), some (.inl x2), some (.inl x3)] [] σ Q
        rw [X10_refused_B31] at hT
        refine kj_iload_n dX10_refused_31 (pc' := 32) rfl rfl rfl ?_
        refine kj_aload_n dX10_refused_32 (pc' := 33) rfl rfl rfl ?_
        refine kj_getR f_RX10_10 rfl (Nat.lt_of_lt_of_le (Nat.le_of_ble_eq_true rfl : 0 < 120) hE.1) (hE.2 _ _) (q := 1) rfl dX10_refused_33 (pc' := 36) rfl ?_
        refine kj_getR f_RX10_114 rfl (Nat.lt_of_lt_of_le (Nat.le_of_ble_eq_true rfl : 1 < 120) hE.1) (hE.2 _ _) (q := 4) rfl dX10_refused_36 (pc' := 39) rfl ?_
        refine kj_getI f_RX10_100 rfl (Nat.lt_of_lt_of_le (Nat.le_of_ble_eq_true rfl : 4 < 120) hE.1) dX10_refused_39 (pc' := 42) rfl ?_
        refine kj_icmp_ge dX10_refused_42 (tgt := 112) rfl (pc' := 45) rfl (fun c6 => ?_) (fun c6 => ?_)
        · rw [if_pos c6] at hT
          refine kj_keep [true, true, true] (ls' := [some (.inr 0), some (.inl x1), some (.inl x2)]) rfl ?_
          exact hX31 () hT
        · rw [if_neg c6] at hT
          refine kj_aload_n dX10_refused_45 (pc' := 46) rfl rfl rfl ?_
          refine kj_getR f_RX10_10 rfl (Nat.lt_of_lt_of_le (Nat.le_of_ble_eq_true rfl : 0 < 120) hE.1) (hE.2 _ _) (q := 1) rfl dX10_refused_46 (pc' := 49) rfl ?_
          refine kj_getR f_RX10_114 rfl (Nat.lt_of_lt_of_le (Nat.le_of_ble_eq_true rfl : 1 < 120) hE.1) (hE.2 _ _) (q := 4) rfl dX10_refused_49 (pc' := 52) rfl ?_
          refine kj_iload_n dX10_refused_52 (pc' := 53) rfl rfl rfl ?_
          obtain ⟨t7, ht7, hT⟩ := bind_some' hT
          refine kcVi (as := [.inl x2]) (st := []) l_RX10_148 (m_X4_at hE rfl σ x2 ht7) rfl (Nat.lt_of_lt_of_le (Nat.le_of_ble_eq_true rfl : 4 < 120) hE.1) rfl ⟨⟨rfl, rfl⟩, Nat.le_of_ble_eq_true rfl, Nat.le_of_ble_eq_true rfl⟩ (Nat.le_of_ble_eq_true rfl) dX10_refused_53 (pc' := 56) rfl ?_
          refine kj_aload_n dX10_refused_56 (pc' := 57) rfl rfl rfl ?_
          refine kj_getR f_RX10_10 rfl (Nat.lt_of_lt_of_le (Nat.le_of_ble_eq_true rfl : 0 < 120) hE.1) (hE.2 _ _) (q := 1) rfl dX10_refused_57 (pc' := 60) rfl ?_
          refine kj_getR f_RX10_114 rfl (Nat.lt_of_lt_of_le (Nat.le_of_ble_eq_true rfl : 1 < 120) hE.1) (hE.2 _ _) (q := 4) rfl dX10_refused_60 (pc' := 63) rfl ?_
          refine kj_iload_n dX10_refused_63 (pc' := 64) rfl rfl rfl ?_
          obtain ⟨t8, ht8, hT⟩ := bind_some' hT
          refine kcVi (as := [.inl x3]) (st := [.inl t7]) l_RX10_148 (m_X4_at hE rfl σ x3 ht8) rfl (Nat.lt_of_lt_of_le (Nat.le_of_ble_eq_true rfl : 4 < 120) hE.1) rfl ⟨⟨rfl, rfl⟩, Nat.le_of_ble_eq_true rfl, Nat.le_of_ble_eq_true rfl⟩ (Nat.le_of_ble_eq_true rfl) dX10_refused_64 (pc' := 67) rfl ?_
          refine kj_ior dX10_refused_67 (pc' := 68) rfl ?_
          refine kj_istore dX10_refused_68 (pc' := 70) rfl (Nat.le_of_ble_eq_true rfl) (ls' := [some (.inr 0), some (.inl x1), some (.inl x2), some (.inl x3), some (.inl (t7 ||| t8))]) rfl ?_
          refine kj_aload_n dX10_refused_70 (pc' := 71) rfl rfl rfl ?_
          refine kj_getR f_RX10_10 rfl (Nat.lt_of_lt_of_le (Nat.le_of_ble_eq_true rfl : 0 < 120) hE.1) (hE.2 _ _) (q := 1) rfl dX10_refused_71 (pc' := 74) rfl ?_
          refine kj_getR f_RX10_114 rfl (Nat.lt_of_lt_of_le (Nat.le_of_ble_eq_true rfl : 1 < 120) hE.1) (hE.2 _ _) (q := 4) rfl dX10_refused_74 (pc' := 77) rfl ?_
          refine kj_iload dX10_refused_77 (pc' := 79) rfl rfl ?_
          obtain ⟨t9, ht9, hT⟩ := bind_some' hT
          refine kcVi (as := [.inl (t7 ||| t8)]) (st := []) l_RX10_132 (m_X4_find hE rfl σ (t7 ||| t8) ht9) rfl (Nat.lt_of_lt_of_le (Nat.le_of_ble_eq_true rfl : 4 < 120) hE.1) rfl ⟨⟨rfl, rfl⟩, Nat.le_of_ble_eq_true rfl, Nat.le_of_ble_eq_true rfl⟩ (Nat.le_of_ble_eq_true rfl) dX10_refused_79 (pc' := 82) rfl ?_
          refine kj_iconst dX10_refused_82 (pc' := 83) rfl kc_m1 ?_
          refine kj_icmp_ne dX10_refused_83 (tgt := 106) rfl (pc' := 86) rfl (fun c10 => ?_) (fun c10 => ?_)
          · rw [if_neg c10] at hT
            refine kj_iinc dX10_refused_106 (pc' := 109) rfl rfl (congrArg (_ + ·) kc_1) (Nat.le_of_ble_eq_true rfl) (ls' := [some (.inr 0), some (.inl x1), some (.inl x2), some (.inl (x3 + 1)), some (.inl (t7 ||| t8))]) rfl ?_
            refine kj_goto dX10_refused_109 (pc' := 31) rfl ?_
            refine kj_keep [true, true, true, true] (ls' := [some (.inr 0), some (.inl x1), some (.inl x2), some (.inl (x3 + 1))]) rfl ?_
            exact ih31 (x3 + 1) hT
          · rw [if_pos c10] at hT
            refine kj_iload_n dX10_refused_86 (pc' := 87) rfl rfl rfl ?_
            refine kj_if_ne dX10_refused_87 (tgt := 94) rfl (pc' := 90) rfl (fun c11 => ?_) (fun c11 => ?_)
            · rw [if_neg c11] at hT
              refine kj_iload_n dX10_refused_94 (pc' := 95) rfl rfl rfl ?_
              refine kj_iconst dX10_refused_95 (pc' := 96) rfl kc_1 ?_
              refine kj_icmp_ne dX10_refused_96 (tgt := 103) rfl (pc' := 99) rfl (fun c12 => ?_) (fun c12 => ?_)
              · rw [if_neg c12] at hT
                refine kj_iload dX10_refused_103 (pc' := 105) rfl rfl ?_
                have hR := Option.some.inj hT
                subst hR
                exact kj_iret rfl dX10_refused_105 (by subst hQ; exact ⟨rfl, rfl⟩)
              · rw [if_pos c12] at hT
                refine kj_iload_n dX10_refused_99 (pc' := 100) rfl rfl rfl ?_
                refine kj_goto dX10_refused_100 (pc' := 105) rfl ?_
                have hR := Option.some.inj hT
                subst hR
                exact kj_iret rfl dX10_refused_105 (by subst hQ; exact ⟨rfl, rfl⟩)
            · rw [if_pos c11] at hT
              refine kj_iload_n dX10_refused_90 (pc' := 91) rfl rfl rfl ?_
              refine kj_goto dX10_refused_91 (pc' := 105) rfl ?_
              have hR := Option.some.inj hT
              subst hR
              exact kj_iret rfl dX10_refused_105 (by subst hQ; exact ⟨rfl, rfl⟩)
    · rw [if_neg c2] at hT
      refine kj_iconst dX10_refused_9 (pc' := 10) rfl kc_m1 ?_
      have hR := Option.some.inj hT
      subst hR
      exact kj_iret rfl dX10_refused_10 (by subst hQ; exact ⟨rfl, rfl⟩)
def X10_needs (σ : Wd) : Option (Int32 × Wd) :=
  ((X9_countUnions σ 4 (-1)).bind fun (t1, σ2) => some ((t1 - 1) - (σ2 4 1), σ2))
set_option maxRecDepth 100000 in
set_option maxHeartbeats 4000000 in
theorem m_X10_needs {E : JE} (hE : kOk 120 E) (σ : Wd) {res : Int32 × Wd} (hT : X10_needs σ = some res) : kMt E yX10_needs mX10_needs rmX10_needs [.inr 0] σ (kQi res.1 res.2) := by
  refine kMt_of (by decide +kernel) rfl (Nat.le_of_ble_eq_true rfl) ?_
  generalize hQ : (kQi res.1 res.2) = Q
  show KJ E mX10_needs rmX10_needs 0 [some (.inr 0)] [] σ Q
  unfold X10_needs at hT
  refine kj_aload_n dX10_needs_0 (pc' := 1) rfl rfl rfl ?_
  refine kj_getR f_RX10_89 rfl (Nat.lt_of_lt_of_le (Nat.le_of_ble_eq_true rfl : 0 < 120) hE.1) (hE.2 _ _) (q := 116) rfl dX10_needs_1 (pc' := 4) rfl ?_
  refine kj_aload_n dX10_needs_4 (pc' := 5) rfl rfl rfl ?_
  refine kj_getR f_RX10_10 rfl (Nat.lt_of_lt_of_le (Nat.le_of_ble_eq_true rfl : 0 < 120) hE.1) (hE.2 _ _) (q := 1) rfl dX10_needs_5 (pc' := 8) rfl ?_
  refine kj_getR f_RX10_114 rfl (Nat.lt_of_lt_of_le (Nat.le_of_ble_eq_true rfl : 1 < 120) hE.1) (hE.2 _ _) (q := 4) rfl dX10_needs_8 (pc' := 11) rfl ?_
  refine kj_iconst dX10_needs_11 (pc' := 12) rfl kc_m1 ?_
  obtain ⟨t1, ht1, hT⟩ := bind_some' hT
  obtain ⟨t1, σ2⟩ := t1
  dsimp only at hT
  refine kcVi (as := [.inr 4, .inl (-1)]) (st := []) l_RX10_331 (m_X9_countUnions hE rfl σ (-1) ht1) rfl (Nat.lt_of_lt_of_le (Nat.le_of_ble_eq_true rfl : 116 < 120) hE.1) rfl ⟨⟨rfl, rfl⟩, Nat.le_of_ble_eq_true rfl, Nat.le_of_ble_eq_true rfl⟩ (Nat.le_of_ble_eq_true rfl) dX10_needs_12 (pc' := 15) rfl ?_
  refine kj_iconst dX10_needs_15 (pc' := 16) rfl kc_1 ?_
  refine kj_isub dX10_needs_16 (pc' := 17) rfl ?_
  refine kj_aload_n dX10_needs_17 (pc' := 18) rfl rfl rfl ?_
  refine kj_getR f_RX10_10 rfl (Nat.lt_of_lt_of_le (Nat.le_of_ble_eq_true rfl : 0 < 120) hE.1) (hE.2 _ _) (q := 1) rfl dX10_needs_18 (pc' := 21) rfl ?_
  refine kj_getR f_RX10_114 rfl (Nat.lt_of_lt_of_le (Nat.le_of_ble_eq_true rfl : 1 < 120) hE.1) (hE.2 _ _) (q := 4) rfl dX10_needs_21 (pc' := 24) rfl ?_
  refine kj_getI f_RX10_100 rfl (Nat.lt_of_lt_of_le (Nat.le_of_ble_eq_true rfl : 4 < 120) hE.1) dX10_needs_24 (pc' := 27) rfl ?_
  refine kj_isub dX10_needs_27 (pc' := 28) rfl ?_
  have hR := Option.some.inj hT
  subst hR
  exact kj_iret rfl dX10_needs_28 (by subst hQ; exact ⟨rfl, rfl⟩)
def X10_spell (σ : Wd) (x1 : Int32) : Option (Int32 × Wd) :=
  (if (-1) ≤ x1 then ((X5_write σ 1).bind fun σ2 => (if x1 = (-1) then some (σ2 91 1, σ2) else (if (σ2 91 1) ≤ x1 then some ((-2), σ2) else ((X4_at σ2 91 x1).bind fun t5 => some (t5, σ2))))) else some ((-1), σ))
set_option maxRecDepth 100000 in
set_option maxHeartbeats 4000000 in
theorem m_X10_spell {E : JE} (hE : kOk 120 E) (hX : kHX E) (σ : Wd) (x1 : Int32) {res : Int32 × Wd} (hT : X10_spell σ x1 = some res) : kMt E yX10_spell mX10_spell rmX10_spell [.inr 0, .inl x1] σ (kQi res.1 res.2) := by
  refine kMt_of (by decide +kernel) rfl (Nat.le_of_ble_eq_true rfl) ?_
  generalize hQ : (kQi res.1 res.2) = Q
  show KJ E mX10_spell rmX10_spell 0 [some (.inr 0), some (.inl x1)] [] σ Q
  unfold X10_spell at hT
  refine kj_iload_n dX10_spell_0 (pc' := 1) rfl rfl rfl ?_
  refine kj_iconst dX10_spell_1 (pc' := 2) rfl kc_m1 ?_
  refine kj_icmp_ge dX10_spell_2 (tgt := 7) rfl (pc' := 5) rfl (fun c1 => ?_) (fun c1 => ?_)
  · rw [if_pos c1] at hT
    refine kj_aload_n dX10_spell_7 (pc' := 8) rfl rfl rfl ?_
    refine kj_getR f_RX10_47 rfl (Nat.lt_of_lt_of_le (Nat.le_of_ble_eq_true rfl : 0 < 120) hE.1) (hE.2 _ _) (q := 90) rfl dX10_spell_8 (pc' := 11) rfl ?_
    refine kj_aload_n dX10_spell_11 (pc' := 12) rfl rfl rfl ?_
    refine kj_getR f_RX10_10 rfl (Nat.lt_of_lt_of_le (Nat.le_of_ble_eq_true rfl : 0 < 120) hE.1) (hE.2 _ _) (q := 1) rfl dX10_spell_12 (pc' := 15) rfl ?_
    obtain ⟨σ2, hσ2, hT⟩ := bind_some' hT
    refine kcVv (as := [.inr 1]) (st := []) l_RX10_348 (m_X5_write hE hX rfl σ hσ2) rfl (Nat.lt_of_lt_of_le (Nat.le_of_ble_eq_true rfl : 90 < 120) hE.1) rfl ⟨⟨rfl, rfl⟩, Nat.le_of_ble_eq_true rfl, Nat.le_of_ble_eq_true rfl⟩ (Nat.le_of_ble_eq_true rfl) dX10_spell_15 (pc' := 18) rfl ?_
    refine kj_iload_n dX10_spell_18 (pc' := 19) rfl rfl rfl ?_
    refine kj_iconst dX10_spell_19 (pc' := 20) rfl kc_m1 ?_
    refine kj_icmp_ne dX10_spell_20 (tgt := 34) rfl (pc' := 23) rfl (fun c3 => ?_) (fun c3 => ?_)
    · rw [if_neg c3] at hT
      refine kj_iload_n dX10_spell_34 (pc' := 35) rfl rfl rfl ?_
      refine kj_aload_n dX10_spell_35 (pc' := 36) rfl rfl rfl ?_
      refine kj_getR f_RX10_47 rfl (Nat.lt_of_lt_of_le (Nat.le_of_ble_eq_true rfl : 0 < 120) hE.1) (hE.2 _ _) (q := 90) rfl dX10_spell_36 (pc' := 39) rfl ?_
      refine kj_getR f_RX10_351 rfl (Nat.lt_of_lt_of_le (Nat.le_of_ble_eq_true rfl : 90 < 120) hE.1) (hE.2 _ _) (q := 91) rfl dX10_spell_39 (pc' := 42) rfl ?_
      refine kj_getI f_RX10_100 rfl (Nat.lt_of_lt_of_le (Nat.le_of_ble_eq_true rfl : 91 < 120) hE.1) dX10_spell_42 (pc' := 45) rfl ?_
      refine kj_icmp_ge dX10_spell_45 (tgt := 62) rfl (pc' := 48) rfl (fun c4 => ?_) (fun c4 => ?_)
      · rw [if_pos c4] at hT
        refine kj_bipush dX10_spell_62 (pc' := 64) rfl kb_m2 ?_
        have hR := Option.some.inj hT
        subst hR
        exact kj_iret rfl dX10_spell_64 (by subst hQ; exact ⟨rfl, rfl⟩)
      · rw [if_neg c4] at hT
        refine kj_aload_n dX10_spell_48 (pc' := 49) rfl rfl rfl ?_
        refine kj_getR f_RX10_47 rfl (Nat.lt_of_lt_of_le (Nat.le_of_ble_eq_true rfl : 0 < 120) hE.1) (hE.2 _ _) (q := 90) rfl dX10_spell_49 (pc' := 52) rfl ?_
        refine kj_getR f_RX10_351 rfl (Nat.lt_of_lt_of_le (Nat.le_of_ble_eq_true rfl : 90 < 120) hE.1) (hE.2 _ _) (q := 91) rfl dX10_spell_52 (pc' := 55) rfl ?_
        refine kj_iload_n dX10_spell_55 (pc' := 56) rfl rfl rfl ?_
        obtain ⟨t5, ht5, hT⟩ := bind_some' hT
        refine kcVi (as := [.inl x1]) (st := []) l_RX10_148 (m_X4_at hE rfl σ2 x1 ht5) rfl (Nat.lt_of_lt_of_le (Nat.le_of_ble_eq_true rfl : 91 < 120) hE.1) rfl ⟨⟨rfl, rfl⟩, Nat.le_of_ble_eq_true rfl, Nat.le_of_ble_eq_true rfl⟩ (Nat.le_of_ble_eq_true rfl) dX10_spell_56 (pc' := 59) rfl ?_
        refine kj_goto dX10_spell_59 (pc' := 64) rfl ?_
        have hR := Option.some.inj hT
        subst hR
        exact kj_iret rfl dX10_spell_64 (by subst hQ; exact ⟨rfl, rfl⟩)
    · rw [if_pos c3] at hT
      refine kj_aload_n dX10_spell_23 (pc' := 24) rfl rfl rfl ?_
      refine kj_getR f_RX10_47 rfl (Nat.lt_of_lt_of_le (Nat.le_of_ble_eq_true rfl : 0 < 120) hE.1) (hE.2 _ _) (q := 90) rfl dX10_spell_24 (pc' := 27) rfl ?_
      refine kj_getR f_RX10_351 rfl (Nat.lt_of_lt_of_le (Nat.le_of_ble_eq_true rfl : 90 < 120) hE.1) (hE.2 _ _) (q := 91) rfl dX10_spell_27 (pc' := 30) rfl ?_
      refine kj_getI f_RX10_100 rfl (Nat.lt_of_lt_of_le (Nat.le_of_ble_eq_true rfl : 91 < 120) hE.1) dX10_spell_30 (pc' := 33) rfl ?_
      have hR := Option.some.inj hT
      subst hR
      exact kj_iret rfl dX10_spell_33 (by subst hQ; exact ⟨rfl, rfl⟩)
  · rw [if_neg c1] at hT
    refine kj_iconst dX10_spell_5 (pc' := 6) rfl kc_m1 ?_
    have hR := Option.some.inj hT
    subst hR
    exact kj_iret rfl dX10_spell_6 (by subst hQ; exact ⟨rfl, rfl⟩)
def X10_idleGenerators_J29 (rec4 : Int32 × Int32 → Option (Int32)) (y1 : Int32) (y2 : Int32) : Option (Int32) :=
  rec4 (y1, y2 + 1)
def X10_idleGenerators_B4 (σ : Wd) (rec4 : Int32 × Int32 → Option (Int32)) : Int32 × Int32 → Option (Int32)
  | (x1, x2) => (if (σ 2 1) ≤ x2 then some x1 else ((X10_isIdle σ x2).bind fun t3 => (if t3 = 0 then X10_idleGenerators_J29 rec4 x1 x2 else X10_idleGenerators_J29 rec4 (x1 + 1) x2)))
def X10_idleGenerators (σ : Wd) : Option (Int32) :=
  (lp (X10_idleGenerators_B4 σ) FU (0, 0))
set_option maxRecDepth 100000 in
set_option maxHeartbeats 4000000 in
theorem m_X10_idleGenerators {E : JE} (hE : kOk 120 E) (σ : Wd) {res : Int32} (hT : X10_idleGenerators σ = some res) : kMt E yX10_idleGenerators mX10_idleGenerators rmX10_idleGenerators [.inr 0] σ (kQi res σ) := by
  refine kMt_of (by decide +kernel) rfl (Nat.le_of_ble_eq_true rfl) ?_
  generalize hQ : (kQi res σ) = Q
  show KJ E mX10_idleGenerators rmX10_idleGenerators 0 [some (.inr 0)] [] σ Q
  unfold X10_idleGenerators at hT
  refine kj_iconst dX10_idleGenerators_0 (pc' := 1) rfl kc_0 ?_
  refine kj_istore_n dX10_idleGenerators_1 (pc' := 2) rfl rfl (Nat.le_of_ble_eq_true rfl) (ls' := [some (.inr 0), some (.inl 0)]) rfl ?_
  refine kj_iconst dX10_idleGenerators_2 (pc' := 3) rfl kc_0 ?_
  refine kj_istore_n dX10_idleGenerators_3 (pc' := 4) rfl rfl (Nat.le_of_ble_eq_true rfl) (ls' := [some (.inr 0), some (.inl 0), some (.inl 0)]) rfl ?_
  refine lp_ind (P := fun s => KJ E mX10_idleGenerators rmX10_idleGenerators 4 [some (.inr 0), some (.inl s.1), some (.inl s.2)] [] σ Q) (fun rec4 s ih4 hT => ?_) FU (0, 0) hT
  obtain ⟨x1, x2⟩ := s
  show KJ E mX10_idleGenerators rmX10_idleGenerators 4 [some (.inr 0), some (.inl x1), some (.inl x2)] [] σ Q
  rw [X10_idleGenerators_B4] at hT
  have hJ29_4 : ∀ y1 y2, X10_idleGenerators_J29 rec4 y1 y2 = some res → KJ E mX10_idleGenerators rmX10_idleGenerators 29 [some (.inr 0), some (.inl y1), some (.inl y2)] [] σ Q := by
    intro y1 y2 hT
    unfold X10_idleGenerators_J29 at hT
    refine kj_iinc dX10_idleGenerators_29 (pc' := 32) rfl rfl (congrArg (_ + ·) kc_1) (Nat.le_of_ble_eq_true rfl) (ls' := [some (.inr 0), some (.inl y1), some (.inl (y2 + 1))]) rfl ?_
    refine kj_goto dX10_idleGenerators_32 (pc' := 4) rfl ?_
    exact ih4 (y1, y2 + 1) hT
  refine kj_iload_n dX10_idleGenerators_4 (pc' := 5) rfl rfl rfl ?_
  refine kj_aload_n dX10_idleGenerators_5 (pc' := 6) rfl rfl rfl ?_
  refine kj_getR f_RX10_10 rfl (Nat.lt_of_lt_of_le (Nat.le_of_ble_eq_true rfl : 0 < 120) hE.1) (hE.2 _ _) (q := 1) rfl dX10_idleGenerators_6 (pc' := 9) rfl ?_
  refine kj_getR f_RX10_125 rfl (Nat.lt_of_lt_of_le (Nat.le_of_ble_eq_true rfl : 1 < 120) hE.1) (hE.2 _ _) (q := 2) rfl dX10_idleGenerators_9 (pc' := 12) rfl ?_
  refine kj_getI f_RX10_100 rfl (Nat.lt_of_lt_of_le (Nat.le_of_ble_eq_true rfl : 2 < 120) hE.1) dX10_idleGenerators_12 (pc' := 15) rfl ?_
  refine kj_icmp_ge dX10_idleGenerators_15 (tgt := 35) rfl (pc' := 18) rfl (fun c2 => ?_) (fun c2 => ?_)
  · rw [if_pos c2] at hT
    refine kj_iload_n dX10_idleGenerators_35 (pc' := 36) rfl rfl rfl ?_
    have hR := Option.some.inj hT
    subst hR
    exact kj_iret rfl dX10_idleGenerators_36 (by subst hQ; exact ⟨rfl, rfl⟩)
  · rw [if_neg c2] at hT
    refine kj_aload_n dX10_idleGenerators_18 (pc' := 19) rfl rfl rfl ?_
    refine kj_iload_n dX10_idleGenerators_19 (pc' := 20) rfl rfl rfl ?_
    obtain ⟨t3, ht3, hT⟩ := bind_some' hT
    refine kcVz (as := [.inl x2]) (st := []) l_RX10_181 (m_X10_isIdle hE σ x2 ht3) rfl (Nat.lt_of_lt_of_le (Nat.le_of_ble_eq_true rfl : 0 < 120) hE.1) rfl ⟨⟨rfl, rfl⟩, Nat.le_of_ble_eq_true rfl, Nat.le_of_ble_eq_true rfl⟩ (Nat.le_of_ble_eq_true rfl) dX10_idleGenerators_20 (pc' := 23) rfl (fun z4 => ?_)
    refine kj_if_eq dX10_idleGenerators_23 (tgt := 29) rfl (pc' := 26) rfl (fun c5 => ?_) (fun c5 => ?_)
    · rw [if_pos c5] at hT
      exact hJ29_4 x1 x2 hT
    · rw [if_neg c5] at hT
      refine kj_iinc dX10_idleGenerators_26 (pc' := 29) rfl rfl (congrArg (_ + ·) kc_1) (Nat.le_of_ble_eq_true rfl) (ls' := [some (.inr 0), some (.inl (x1 + 1)), some (.inl x2)]) rfl ?_
      exact hJ29_4 (x1 + 1) x2 hT
def X10_count (σ : Wd) (x1 : Int32) : Option (Int32) :=
  (if x1 = 0 then some (σ 1 3) else (if x1 = 1 then some (σ 2 1) else (if x1 = 2 then some (σ 4 1) else (if x1 = 3 then some (σ 13 2) else (if x1 = 4 then some (σ 87 1) else (if x1 = 5 then ((X10_idleGenerators σ).bind fun t7 => some t7) else (if x1 = 6 then ((X7_massOf σ 1 ((1 <<< ((σ 1 3) &&& 31)) - 1)).bind fun t9 => some t9) else some (-1))))))))
set_option maxRecDepth 100000 in
set_option maxHeartbeats 4000000 in
theorem m_X10_count {E : JE} (hE : kOk 120 E) (σ : Wd) (x1 : Int32) {res : Int32} (hT : X10_count σ x1 = some res) : kMt E yX10_count mX10_count rmX10_count [.inr 0, .inl x1] σ (kQi res σ) := by
  refine kMt_of (by decide +kernel) rfl (Nat.le_of_ble_eq_true rfl) ?_
  generalize hQ : (kQi res σ) = Q
  show KJ E mX10_count rmX10_count 0 [some (.inr 0), some (.inl x1)] [] σ Q
  unfold X10_count at hT
  refine kj_iload_n dX10_count_0 (pc' := 1) rfl rfl rfl ?_
  by_cases c1 : x1 = 0
  · rw [if_pos c1] at hT
    refine kj_tableIn (x := x1) (off := 43) (tgt := 44) dX10_count_1 (by rw [c1]; decide +kernel) (by rw [c1]; decide +kernel) (by rw [c1]; decide +kernel) rfl ?_
    refine kj_aload_n dX10_count_44 (pc' := 45) rfl rfl rfl ?_
    refine kj_getR f_RX10_10 rfl (Nat.lt_of_lt_of_le (Nat.le_of_ble_eq_true rfl : 0 < 120) hE.1) (hE.2 _ _) (q := 1) rfl dX10_count_45 (pc' := 48) rfl ?_
    refine kj_getI f_RX10_171 rfl (Nat.lt_of_lt_of_le (Nat.le_of_ble_eq_true rfl : 1 < 120) hE.1) dX10_count_48 (pc' := 51) rfl ?_
    have hR := Option.some.inj hT
    subst hR
    exact kj_iret rfl dX10_count_51 (by subst hQ; exact ⟨rfl, rfl⟩)
  rw [if_neg c1] at hT
  by_cases c2 : x1 = 1
  · rw [if_pos c2] at hT
    refine kj_tableIn (x := x1) (off := 51) (tgt := 52) dX10_count_1 (by rw [c2]; decide +kernel) (by rw [c2]; decide +kernel) (by rw [c2]; decide +kernel) rfl ?_
    refine kj_aload_n dX10_count_52 (pc' := 53) rfl rfl rfl ?_
    refine kj_getR f_RX10_10 rfl (Nat.lt_of_lt_of_le (Nat.le_of_ble_eq_true rfl : 0 < 120) hE.1) (hE.2 _ _) (q := 1) rfl dX10_count_53 (pc' := 56) rfl ?_
    refine kj_getR f_RX10_125 rfl (Nat.lt_of_lt_of_le (Nat.le_of_ble_eq_true rfl : 1 < 120) hE.1) (hE.2 _ _) (q := 2) rfl dX10_count_56 (pc' := 59) rfl ?_
    refine kj_getI f_RX10_100 rfl (Nat.lt_of_lt_of_le (Nat.le_of_ble_eq_true rfl : 2 < 120) hE.1) dX10_count_59 (pc' := 62) rfl ?_
    have hR := Option.some.inj hT
    subst hR
    exact kj_iret rfl dX10_count_62 (by subst hQ; exact ⟨rfl, rfl⟩)
  rw [if_neg c2] at hT
  by_cases c3 : x1 = 2
  · rw [if_pos c3] at hT
    refine kj_tableIn (x := x1) (off := 62) (tgt := 63) dX10_count_1 (by rw [c3]; decide +kernel) (by rw [c3]; decide +kernel) (by rw [c3]; decide +kernel) rfl ?_
    refine kj_aload_n dX10_count_63 (pc' := 64) rfl rfl rfl ?_
    refine kj_getR f_RX10_10 rfl (Nat.lt_of_lt_of_le (Nat.le_of_ble_eq_true rfl : 0 < 120) hE.1) (hE.2 _ _) (q := 1) rfl dX10_count_64 (pc' := 67) rfl ?_
    refine kj_getR f_RX10_114 rfl (Nat.lt_of_lt_of_le (Nat.le_of_ble_eq_true rfl : 1 < 120) hE.1) (hE.2 _ _) (q := 4) rfl dX10_count_67 (pc' := 70) rfl ?_
    refine kj_getI f_RX10_100 rfl (Nat.lt_of_lt_of_le (Nat.le_of_ble_eq_true rfl : 4 < 120) hE.1) dX10_count_70 (pc' := 73) rfl ?_
    have hR := Option.some.inj hT
    subst hR
    exact kj_iret rfl dX10_count_73 (by subst hQ; exact ⟨rfl, rfl⟩)
  rw [if_neg c3] at hT
  by_cases c4 : x1 = 3
  · rw [if_pos c4] at hT
    refine kj_tableIn (x := x1) (off := 73) (tgt := 74) dX10_count_1 (by rw [c4]; decide +kernel) (by rw [c4]; decide +kernel) (by rw [c4]; decide +kernel) rfl ?_
    refine kj_aload_n dX10_count_74 (pc' := 75) rfl rfl rfl ?_
    refine kj_getR f_RX10_22 rfl (Nat.lt_of_lt_of_le (Nat.le_of_ble_eq_true rfl : 0 < 120) hE.1) (hE.2 _ _) (q := 13) rfl dX10_count_75 (pc' := 78) rfl ?_
    refine kj_getI f_RX10_191 rfl (Nat.lt_of_lt_of_le (Nat.le_of_ble_eq_true rfl : 13 < 120) hE.1) dX10_count_78 (pc' := 81) rfl ?_
    have hR := Option.some.inj hT
    subst hR
    exact kj_iret rfl dX10_count_81 (by subst hQ; exact ⟨rfl, rfl⟩)
  rw [if_neg c4] at hT
  by_cases c5 : x1 = 4
  · rw [if_pos c5] at hT
    refine kj_tableIn (x := x1) (off := 81) (tgt := 82) dX10_count_1 (by rw [c5]; decide +kernel) (by rw [c5]; decide +kernel) (by rw [c5]; decide +kernel) rfl ?_
    refine kj_aload_n dX10_count_82 (pc' := 83) rfl rfl rfl ?_
    refine kj_getR f_RX10_31 rfl (Nat.lt_of_lt_of_le (Nat.le_of_ble_eq_true rfl : 0 < 120) hE.1) (hE.2 _ _) (q := 87) rfl dX10_count_83 (pc' := 86) rfl ?_
    refine kj_getI f_RX10_100 rfl (Nat.lt_of_lt_of_le (Nat.le_of_ble_eq_true rfl : 87 < 120) hE.1) dX10_count_86 (pc' := 89) rfl ?_
    have hR := Option.some.inj hT
    subst hR
    exact kj_iret rfl dX10_count_89 (by subst hQ; exact ⟨rfl, rfl⟩)
  rw [if_neg c5] at hT
  by_cases c6 : x1 = 5
  · rw [if_pos c6] at hT
    refine kj_tableIn (x := x1) (off := 89) (tgt := 90) dX10_count_1 (by rw [c6]; decide +kernel) (by rw [c6]; decide +kernel) (by rw [c6]; decide +kernel) rfl ?_
    refine kj_aload_n dX10_count_90 (pc' := 91) rfl rfl rfl ?_
    obtain ⟨t7, ht7, hT⟩ := bind_some' hT
    refine kcVi (as := []) (st := []) l_RX10_354 (m_X10_idleGenerators hE σ ht7) rfl (Nat.lt_of_lt_of_le (Nat.le_of_ble_eq_true rfl : 0 < 120) hE.1) rfl ⟨⟨rfl, rfl⟩, Nat.le_of_ble_eq_true rfl, Nat.le_of_ble_eq_true rfl⟩ (Nat.le_of_ble_eq_true rfl) dX10_count_91 (pc' := 94) rfl ?_
    have hR := Option.some.inj hT
    subst hR
    exact kj_iret rfl dX10_count_94 (by subst hQ; exact ⟨rfl, rfl⟩)
  rw [if_neg c6] at hT
  by_cases c8 : x1 = 6
  · rw [if_pos c8] at hT
    refine kj_tableIn (x := x1) (off := 94) (tgt := 95) dX10_count_1 (by rw [c8]; decide +kernel) (by rw [c8]; decide +kernel) (by rw [c8]; decide +kernel) rfl ?_
    refine kj_aload_n dX10_count_95 (pc' := 96) rfl rfl rfl ?_
    refine kj_getR f_RX10_10 rfl (Nat.lt_of_lt_of_le (Nat.le_of_ble_eq_true rfl : 0 < 120) hE.1) (hE.2 _ _) (q := 1) rfl dX10_count_96 (pc' := 99) rfl ?_
    refine kj_iconst dX10_count_99 (pc' := 100) rfl kc_1 ?_
    refine kj_aload_n dX10_count_100 (pc' := 101) rfl rfl rfl ?_
    refine kj_getR f_RX10_10 rfl (Nat.lt_of_lt_of_le (Nat.le_of_ble_eq_true rfl : 0 < 120) hE.1) (hE.2 _ _) (q := 1) rfl dX10_count_101 (pc' := 104) rfl ?_
    refine kj_getI f_RX10_171 rfl (Nat.lt_of_lt_of_le (Nat.le_of_ble_eq_true rfl : 1 < 120) hE.1) dX10_count_104 (pc' := 107) rfl ?_
    refine kj_ishl dX10_count_107 (pc' := 108) rfl ?_
    refine kj_iconst dX10_count_108 (pc' := 109) rfl kc_1 ?_
    refine kj_isub dX10_count_109 (pc' := 110) rfl ?_
    obtain ⟨t9, ht9, hT⟩ := bind_some' hT
    refine kcVi (as := [.inl ((1 <<< ((σ 1 3) &&& 31)) - 1)]) (st := []) l_RX10_264 (m_X7_massOf hE rfl σ ((1 <<< ((σ 1 3) &&& 31)) - 1) ht9) rfl (Nat.lt_of_lt_of_le (Nat.le_of_ble_eq_true rfl : 1 < 120) hE.1) rfl ⟨⟨rfl, rfl⟩, Nat.le_of_ble_eq_true rfl, Nat.le_of_ble_eq_true rfl⟩ (Nat.le_of_ble_eq_true rfl) dX10_count_110 (pc' := 113) rfl ?_
    have hR := Option.some.inj hT
    subst hR
    exact kj_iret rfl dX10_count_113 (by subst hQ; exact ⟨rfl, rfl⟩)
  rw [if_neg c8] at hT
  refine kj_tableOut (x := x1) (tgt := 114) dX10_count_1 (tb_out (hi := 6) (fun k hk => by rcases (show k = 0 ∨ k = 1 ∨ k = 2 ∨ k = 3 ∨ k = 4 ∨ k = 5 ∨ k = 6  from by omega) with rfl | rfl | rfl | rfl | rfl | rfl | rfl <;> assumption) (by decide)) rfl ?_
  refine kj_iconst dX10_count_114 (pc' := 115) rfl kc_m1 ?_
  have hR := Option.some.inj hT
  subst hR
  exact kj_iret rfl dX10_count_115 (by subst hQ; exact ⟨rfl, rfl⟩)
