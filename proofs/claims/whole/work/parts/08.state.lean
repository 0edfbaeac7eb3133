def X7_reset (σ : Wd) (r : Nat) : Option (Wd) :=
  ((J7_fill_53178 (X4_clear (X4_clear σ (r + 1)) (r + 3)) (r + 5) 1).bind fun σ1 => some (up σ1 r 3 4))
set_option maxRecDepth 100000 in
set_option maxHeartbeats 4000000 in
theorem m_X7_reset {E : JE} (hE : kOk 120 E) {r : Nat} (hr : kKd r = 7) (σ : Wd) {res : Wd} (hT : X7_reset σ r = some res) : kMt E yX7_reset mX7_reset rmX7_reset [.inr r] σ (kQv res) := by
  refine kMt_of (by decide +kernel) rfl (Nat.le_of_ble_eq_true rfl) ?_
  generalize hQ : (kQv res) = Q
  show KJ E mX7_reset rmX7_reset 0 [some (.inr r)] [] σ Q
  unfold X7_reset at hT
  refine kj_aload_n dX7_reset_0 (pc' := 1) rfl rfl rfl ?_
  refine kj_getR f_RX7_14 hr (Nat.lt_of_lt_of_le (kn7_0 hr) hE.1) (hE.2 _ _) (q := (r + 1)) (kr7_0_0 hr) dX7_reset_1 (pc' := 4) rfl ?_
  refine kcVv (as := []) (st := []) l_RX7_37 (m_X4_clear hE (kk7_1 hr) σ rfl) (kk7_1 hr) (Nat.lt_of_lt_of_le (kn7_1 hr) hE.1) rfl ⟨⟨rfl, rfl⟩, Nat.le_of_ble_eq_true rfl, Nat.le_of_ble_eq_true rfl⟩ (Nat.le_of_ble_eq_true rfl) dX7_reset_4 (pc' := 7) rfl ?_
  refine kj_aload_n dX7_reset_7 (pc' := 8) rfl rfl rfl ?_
  refine kj_getR f_RX7_20 hr (Nat.lt_of_lt_of_le (kn7_0 hr) hE.1) (hE.2 _ _) (q := (r + 3)) (kr7_0_1 hr) dX7_reset_8 (pc' := 11) rfl ?_
  refine kcVv (as := []) (st := []) l_RX7_37 (m_X4_clear hE (kk7_3 hr) (X4_clear σ (r + 1)) rfl) (kk7_3 hr) (Nat.lt_of_lt_of_le (kn7_3 hr) hE.1) rfl ⟨⟨rfl, rfl⟩, Nat.le_of_ble_eq_true rfl, Nat.le_of_ble_eq_true rfl⟩ (Nat.le_of_ble_eq_true rfl) dX7_reset_11 (pc' := 14) rfl ?_
  refine kj_aload_n dX7_reset_14 (pc' := 15) rfl rfl rfl ?_
  refine kj_getR f_RX7_23 hr (Nat.lt_of_lt_of_le (kn7_0 hr) hE.1) (hE.2 _ _) (q := (r + 5)) (kr7_0_2 hr) dX7_reset_15 (pc' := 18) rfl ?_
  refine kj_iconst dX7_reset_18 (pc' := 19) rfl kc_1 ?_
  obtain ⟨σ1, hσ1, hT⟩ := bind_some' hT
  refine kcSv (as := [.inr (r + 5), .inl 1]) (st := []) l_RX7_27 (m_J7_fill_53178 (Nat.zero_le _) (kk7_5 hr) (Nat.lt_of_lt_of_le (kn7_5 hr) hE.1) (X4_clear (X4_clear σ (r + 1)) (r + 3)) 1 hσ1) rfl ⟨⟨rfl, rfl⟩, Nat.le_of_ble_eq_true rfl, Nat.le_of_ble_eq_true rfl⟩ (Nat.le_of_ble_eq_true rfl) dX7_reset_19 (pc' := 22) rfl ?_
  refine kj_aload_n dX7_reset_22 (pc' := 23) rfl rfl rfl ?_
  refine kj_iconst dX7_reset_23 (pc' := 24) rfl kc_4 ?_
  refine kj_putI p_RX7_33 rfl rfl hr (Nat.lt_of_lt_of_le (kn7_0 hr) hE.1) dX7_reset_24 (pc' := 27) rfl ?_
  have hR := Option.some.inj hT
  subst hR
  exact kj_vret rfl dX7_reset_27 (by subst hQ; exact ⟨rfl, rfl⟩)
def X7_weightOf (σ : Wd) (r : Nat) (x1 : Int32) : Option (Int32) :=
  (if x1 < 0 then some 0 else (if (nI (kLn (r + 5))) ≤ x1 then some 0 else (ckA x1 (kLn (r + 5)) <| some (σ (r + 5) x1.toNatClampNeg))))
set_option maxRecDepth 100000 in
set_option maxHeartbeats 4000000 in
theorem m_X7_weightOf {E : JE} (hE : kOk 120 E) {r : Nat} (hr : kKd r = 7) (σ : Wd) (x1 : Int32) {res : Int32} (hT : X7_weightOf σ r x1 = some res) : kMt E yX7_weightOf mX7_weightOf rmX7_weightOf [.inr r, .inl x1] σ (kQi res σ) := by
  refine kMt_of (by decide +kernel) rfl (Nat.le_of_ble_eq_true rfl) ?_
  generalize hQ : (kQi res σ) = Q
  show KJ E mX7_weightOf rmX7_weightOf 0 [some (.inr r), some (.inl x1)] [] σ Q
  unfold X7_weightOf at hT
  refine kj_iload_n dX7_weightOf_0 (pc' := 1) rfl rfl rfl ?_
  refine kj_if_lt dX7_weightOf_1 (tgt := 22) rfl (pc' := 4) rfl (fun c1 => ?_) (fun c1 => ?_)
  · rw [if_pos c1] at hT
    refine kj_iconst dX7_weightOf_22 (pc' := 23) rfl kc_0 ?_
    have hR := Option.some.inj hT
    subst hR
    exact kj_iret rfl dX7_weightOf_23 (by subst hQ; exact ⟨rfl, rfl⟩)
  · rw [if_neg c1] at hT
    refine kj_iload_n dX7_weightOf_4 (pc' := 5) rfl rfl rfl ?_
    refine kj_aload_n dX7_weightOf_5 (pc' := 6) rfl rfl rfl ?_
    refine kj_getR f_RX7_23 hr (Nat.lt_of_lt_of_le (kn7_0 hr) hE.1) (hE.2 _ _) (q := (r + 5)) (kr7_0_2 hr) dX7_weightOf_6 (pc' := 9) rfl ?_
    refine kj_alen (n := 0) (v := nI (kLn (r + 5))) 0 (ty := .int) (kk7_5 hr) (by decide) rfl (Nat.lt_of_lt_of_le (kn7_5 hr) hE.1) rfl dX7_weightOf_9 (pc' := 10) rfl ?_
    refine kj_icmp_ge dX7_weightOf_10 (tgt := 22) rfl (pc' := 13) rfl (fun c2 => ?_) (fun c2 => ?_)
    · rw [if_pos c2] at hT
      refine kj_iconst dX7_weightOf_22 (pc' := 23) rfl kc_0 ?_
      have hR := Option.some.inj hT
      subst hR
      exact kj_iret rfl dX7_weightOf_23 (by subst hQ; exact ⟨rfl, rfl⟩)
    · rw [if_neg c2] at hT
      refine kj_aload_n dX7_weightOf_13 (pc' := 14) rfl rfl rfl ?_
      refine kj_getR f_RX7_23 hr (Nat.lt_of_lt_of_le (kn7_0 hr) hE.1) (hE.2 _ _) (q := (r + 5)) (kr7_0_2 hr) dX7_weightOf_14 (pc' := 17) rfl ?_
      refine kj_iload_n dX7_weightOf_17 (pc' := 18) rfl rfl rfl ?_
      obtain ⟨hi3, hT⟩ := ckA_some hT
      refine kj_iald (kk7_5 hr) (Nat.lt_of_lt_of_le (kn7_5 hr) hE.1) hi3 rfl dX7_weightOf_18 (pc' := 19) rfl ?_
      refine kj_goto dX7_weightOf_19 (pc' := 23) rfl ?_
      have hR := Option.some.inj hT
      subst hR
      exact kj_iret rfl dX7_weightOf_23 (by subst hQ; exact ⟨rfl, rfl⟩)
def X7_copy_B24 (r : Nat) (q1 : Nat) (rec24 : Int32 × Wd → Option (Wd)) : Int32 × Wd → Option (Wd)
  | (x2, σ) => (if (nI (kLn (r + 5))) ≤ x2 then some (up σ r 3 (σ q1 3)) else ((X7_weightOf σ q1 x2).bind fun t4 => (ckA x2 (kLn (r + 5)) <| rec24 (x2 + 1, up σ (r + 5) x2.toNatClampNeg t4))))
def X7_copy (σ : Wd) (r : Nat) (q1 : Nat) : Option (Wd) :=
  ((X4_copy σ (r + 1) (q1 + 1)).bind fun σ1 => ((X4_copy σ1 (r + 3) (q1 + 3)).bind fun σ2 => (lp (X7_copy_B24 r q1) FU (0, σ2))))
set_option maxRecDepth 100000 in
set_option maxHeartbeats 4000000 in
theorem m_X7_copy {E : JE} (hE : kOk 120 E) {r : Nat} {q1 : Nat} (hr : kKd r = 7) (hq1 : kKd q1 = 7) (σ : Wd) {res : Wd} (hT : X7_copy σ r q1 = some res) : kMt E yX7_copy mX7_copy rmX7_copy [.inr r, .inr q1] σ (kQv res) := by
  refine kMt_of (by decide +kernel) rfl (Nat.le_of_ble_eq_true rfl) ?_
  generalize hQ : (kQv res) = Q
  show KJ E mX7_copy rmX7_copy 0 [some (.inr r), some (.inr q1)] [] σ Q
  unfold X7_copy at hT
  refine kj_aload_n dX7_copy_0 (pc' := 1) rfl rfl rfl ?_
  refine kj_getR f_RX7_14 hr (Nat.lt_of_lt_of_le (kn7_0 hr) hE.1) (hE.2 _ _) (q := (r + 1)) (kr7_0_0 hr) dX7_copy_1 (pc' := 4) rfl ?_
  refine kj_aload_n dX7_copy_4 (pc' := 5) rfl rfl rfl ?_
  refine kj_getR f_RX7_14 hq1 (Nat.lt_of_lt_of_le (kn7_0 hq1) hE.1) (hE.2 _ _) (q := (q1 + 1)) (kr7_0_0 hq1) dX7_copy_5 (pc' := 8) rfl ?_
  obtain ⟨σ1, hσ1, hT⟩ := bind_some' hT
  refine kcVv (as := [.inr (q1 + 1)]) (st := []) l_RX7_40 (m_X4_copy hE (kk7_1 hr) (kk7_1 hq1) σ hσ1) (kk7_1 hr) (Nat.lt_of_lt_of_le (kn7_1 hr) hE.1) rfl ⟨⟨rfl, rfl⟩, Nat.le_of_ble_eq_true rfl, Nat.le_of_ble_eq_true rfl⟩ (Nat.le_of_ble_eq_true rfl) dX7_copy_8 (pc' := 11) rfl ?_
  refine kj_aload_n dX7_copy_11 (pc' := 12) rfl rfl rfl ?_
  refine kj_getR f_RX7_20 hr (Nat.lt_of_lt_of_le (kn7_0 hr) hE.1) (hE.2 _ _) (q := (r + 3)) (kr7_0_1 hr) dX7_copy_12 (pc' := 15) rfl ?_
  refine kj_aload_n dX7_copy_15 (pc' := 16) rfl rfl rfl ?_
  refine kj_getR f_RX7_20 hq1 (Nat.lt_of_lt_of_le (kn7_0 hq1) hE.1) (hE.2 _ _) (q := (q1 + 3)) (kr7_0_1 hq1) dX7_copy_16 (pc' := 19) rfl ?_
  obtain ⟨σ2, hσ2, hT⟩ := bind_some' hT
  refine kcVv (as := [.inr (q1 + 3)]) (st := []) l_RX7_40 (m_X4_copy hE (kk7_3 hr) (kk7_3 hq1) σ1 hσ2) (kk7_3 hr) (Nat.lt_of_lt_of_le (kn7_3 hr) hE.1) rfl ⟨⟨rfl, rfl⟩, Nat.le_of_ble_eq_true rfl, Nat.le_of_ble_eq_true rfl⟩ (Nat.le_of_ble_eq_true rfl) dX7_copy_19 (pc' := 22) rfl ?_
  refine kj_iconst dX7_copy_22 (pc' := 23) rfl kc_0 ?_
  refine kj_istore_n dX7_copy_23 (pc' := 24) rfl rfl (Nat.le_of_ble_eq_true rfl) (ls' := [some (.inr r), some (.inr q1), some (.inl 0)]) rfl ?_
  refine lp_ind (P := fun s => KJ E mX7_copy rmX7_copy 24 [some (.inr r), some (.inr q1), some (.inl s.1)] [] s.2 Q) (fun rec24 s ih24 hT => ?_) FU (0, σ2) hT
  obtain ⟨x2, σ⟩ := s
  show KJ E mX7_copy rmX7_copy 24 [some (.inr r), some (.inr q1), some (.inl x2)] [] σ Q
  rw [X7_copy_B24] at hT
  refine kj_iload_n dX7_copy_24 (pc' := 25) rfl rfl rfl ?_
  refine kj_aload_n dX7_copy_25 (pc' := 26) rfl rfl rfl ?_
  refine kj_getR f_RX7_23 hr (Nat.lt_of_lt_of_le (kn7_0 hr) hE.1) (hE.2 _ _) (q := (r + 5)) (kr7_0_2 hr) dX7_copy_26 (pc' := 29) rfl ?_
  refine kj_alen (n := 0) (v := nI (kLn (r + 5))) 0 (ty := .int) (kk7_5 hr) (by decide) rfl (Nat.lt_of_lt_of_le (kn7_5 hr) hE.1) rfl dX7_copy_29 (pc' := 30) rfl ?_
  refine kj_icmp_ge dX7_copy_30 (tgt := 50) rfl (pc' := 33) rfl (fun c3 => ?_) (fun c3 => ?_)
  · rw [if_pos c3] at hT
    refine kj_aload_n dX7_copy_50 (pc' := 51) rfl rfl rfl ?_
    refine kj_aload_n dX7_copy_51 (pc' := 52) rfl rfl rfl ?_
    refine kj_getI f_RX7_33 hq1 (Nat.lt_of_lt_of_le (kn7_0 hq1) hE.1) dX7_copy_52 (pc' := 55) rfl ?_
    refine kj_putI p_RX7_33 rfl rfl hr (Nat.lt_of_lt_of_le (kn7_0 hr) hE.1) dX7_copy_55 (pc' := 58) rfl ?_
    have hR := Option.some.inj hT
    subst hR
    exact kj_vret rfl dX7_copy_58 (by subst hQ; exact ⟨rfl, rfl⟩)
  · rw [if_neg c3] at hT
    refine kj_aload_n dX7_copy_33 (pc' := 34) rfl rfl rfl ?_
    refine kj_getR f_RX7_23 hr (Nat.lt_of_lt_of_le (kn7_0 hr) hE.1) (hE.2 _ _) (q := (r + 5)) (kr7_0_2 hr) dX7_copy_34 (pc' := 37) rfl ?_
    refine kj_iload_n dX7_copy_37 (pc' := 38) rfl rfl rfl ?_
    refine kj_aload_n dX7_copy_38 (pc' := 39) rfl rfl rfl ?_
    refine kj_iload_n dX7_copy_39 (pc' := 40) rfl rfl rfl ?_
    obtain ⟨t4, ht4, hT⟩ := bind_some' hT
    refine kcVi (as := [.inl x2]) (st := [.inl x2, .inr (r + 5)]) l_RX7_44 (m_X7_weightOf hE hq1 σ x2 ht4) hq1 (Nat.lt_of_lt_of_le (kn7_0 hq1) hE.1) rfl ⟨⟨rfl, rfl⟩, Nat.le_of_ble_eq_true rfl, Nat.le_of_ble_eq_true rfl⟩ (Nat.le_of_ble_eq_true rfl) dX7_copy_40 (pc' := 43) rfl ?_
    obtain ⟨hi5, hT⟩ := ckA_some hT
    refine kj_iast (kk7_5 hr) (Nat.lt_of_lt_of_le (kn7_5 hr) hE.1) hi5 rfl dX7_copy_43 (pc' := 44) rfl ?_
    refine kj_iinc dX7_copy_44 (pc' := 47) rfl rfl (congrArg (_ + ·) kc_1) (Nat.le_of_ble_eq_true rfl) (ls' := [some (.inr r), some (.inr q1), some (.inl (x2 + 1))]) rfl ?_
    refine kj_goto dX7_copy_47 (pc' := 24) rfl ?_
    exact ih24 (x2 + 1, up σ (r + 5) x2.toNatClampNeg t4) hT
def X7_keepList_B9 (σ1 : Wd) (q1 : Nat) (r : Nat) (rec9 : Int32 → Option (Wd)) : Int32 → Option (Wd)
  | (x2) => (if (σ1 q1 1) ≤ x2 then ((X4_copy σ1 (r + 3) q1).bind fun σ3 => some σ3) else ((X4_at σ1 q1 x2).bind fun t4 => (if t4 < (1 <<< ((σ1 r 3) &&& 31)) then rec9 (x2 + 1) else some σ1)))
def X7_keepList (σ : Wd) (r : Nat) (q1 : Nat) : Option (Wd) :=
  (lett (X4_clear σ (r + 3)) fun σ1 => (lp (X7_keepList_B9 σ1 q1 r) FU (0)))
set_option maxRecDepth 100000 in
set_option maxHeartbeats 4000000 in
theorem m_X7_keepList {E : JE} (hE : kOk 120 E) {r : Nat} {q1 : Nat} (hr : kKd r = 7) (hq1 : kKd q1 = 4) (σ : Wd) {res : Wd} (hT : X7_keepList σ r q1 = some res) : kMt E yX7_keepList mX7_keepList rmX7_keepList [.inr r, .inr q1] σ (kQv res) := by
  refine kMt_of (by decide +kernel) rfl (Nat.le_of_ble_eq_true rfl) ?_
  generalize hQ : (kQv res) = Q
  show KJ E mX7_keepList rmX7_keepList 0 [some (.inr r), some (.inr q1)] [] σ Q
  unfold X7_keepList at hT
  refine kj_aload_n dX7_keepList_0 (pc' := 1) rfl rfl rfl ?_
  refine kj_getR f_RX7_20 hr (Nat.lt_of_lt_of_le (kn7_0 hr) hE.1) (hE.2 _ _) (q := (r + 3)) (kr7_0_1 hr) dX7_keepList_1 (pc' := 4) rfl ?_
  refine kcVv (as := []) (st := []) l_RX7_37 (m_X4_clear hE (kk7_3 hr) σ rfl) (kk7_3 hr) (Nat.lt_of_lt_of_le (kn7_3 hr) hE.1) rfl ⟨⟨rfl, rfl⟩, Nat.le_of_ble_eq_true rfl, Nat.le_of_ble_eq_true rfl⟩ (Nat.le_of_ble_eq_true rfl) dX7_keepList_4 (pc' := 7) rfl ?_
  refine kj_iconst dX7_keepList_7 (pc' := 8) rfl kc_0 ?_
  refine kj_istore_n dX7_keepList_8 (pc' := 9) rfl rfl (Nat.le_of_ble_eq_true rfl) (ls' := [some (.inr r), some (.inr q1), some (.inl 0)]) rfl ?_
  obtain ⟨σ1, eσ1, hT⟩ := lett_i hT
  rw [← eσ1]
  refine lp_ind (P := fun s => KJ E mX7_keepList rmX7_keepList 9 [some (.inr r), some (.inr q1), some (.inl s)] [] σ1 Q) (fun rec9 s ih9 hT => ?_) FU (0) hT
  obtain ⟨x2, hs⟩ : ∃ z, z = s := ⟨_, rfl⟩
  subst hs
  show KJ E mX7_keepList rmX7_keepList 9 [some (.inr r), some (.inr q1), some (.inl x2)] [] σ1 Q
  rw [X7_keepList_B9] at hT
  refine kj_iload_n dX7_keepList_9 (pc' := 10) rfl rfl rfl ?_
  refine kj_aload_n dX7_keepList_10 (pc' := 11) rfl rfl rfl ?_
  refine kj_getI f_RX7_48 hq1 (Nat.lt_of_lt_of_le (kn4_0 hq1) hE.1) dX7_keepList_11 (pc' := 14) rfl ?_
  refine kj_icmp_ge dX7_keepList_14 (tgt := 38) rfl (pc' := 17) rfl (fun c2 => ?_) (fun c2 => ?_)
  · rw [if_pos c2] at hT
    refine kj_aload_n dX7_keepList_38 (pc' := 39) rfl rfl rfl ?_
    refine kj_getR f_RX7_20 hr (Nat.lt_of_lt_of_le (kn7_0 hr) hE.1) (hE.2 _ _) (q := (r + 3)) (kr7_0_1 hr) dX7_keepList_39 (pc' := 42) rfl ?_
    refine kj_aload_n dX7_keepList_42 (pc' := 43) rfl rfl rfl ?_
    obtain ⟨σ3, hσ3, hT⟩ := bind_some' hT
    refine kcVv (as := [.inr q1]) (st := []) l_RX7_40 (m_X4_copy hE (kk7_3 hr) hq1 σ1 hσ3) (kk7_3 hr) (Nat.lt_of_lt_of_le (kn7_3 hr) hE.1) rfl ⟨⟨rfl, rfl⟩, Nat.le_of_ble_eq_true rfl, Nat.le_of_ble_eq_true rfl⟩ (Nat.le_of_ble_eq_true rfl) dX7_keepList_43 (pc' := 46) rfl ?_
    have hR := Option.some.inj hT
    subst hR
    exact kj_vret rfl dX7_keepList_46 (by subst hQ; exact ⟨rfl, rfl⟩)
  · rw [if_neg c2] at hT
    refine kj_aload_n dX7_keepList_17 (pc' := 18) rfl rfl rfl ?_
    refine kj_iload_n dX7_keepList_18 (pc' := 19) rfl rfl rfl ?_
    obtain ⟨t4, ht4, hT⟩ := bind_some' hT
    refine kcVi (as := [.inl x2]) (st := []) l_RX7_51 (m_X4_at hE hq1 σ1 x2 ht4) hq1 (Nat.lt_of_lt_of_le (kn4_0 hq1) hE.1) rfl ⟨⟨rfl, rfl⟩, Nat.le_of_ble_eq_true rfl, Nat.le_of_ble_eq_true rfl⟩ (Nat.le_of_ble_eq_true rfl) dX7_keepList_19 (pc' := 22) rfl ?_
    refine kj_iconst dX7_keepList_22 (pc' := 23) rfl kc_1 ?_
    refine kj_aload_n dX7_keepList_23 (pc' := 24) rfl rfl rfl ?_
    refine kj_getI f_RX7_33 hr (Nat.lt_of_lt_of_le (kn7_0 hr) hE.1) dX7_keepList_24 (pc' := 27) rfl ?_
    refine kj_ishl dX7_keepList_27 (pc' := 28) rfl ?_
    refine kj_icmp_lt dX7_keepList_28 (tgt := 32) rfl (pc' := 31) rfl (fun c5 => ?_) (fun c5 => ?_)
    · rw [if_pos c5] at hT
      refine kj_iinc dX7_keepList_32 (pc' := 35) rfl rfl (congrArg (_ + ·) kc_1) (Nat.le_of_ble_eq_true rfl) (ls' := [some (.inr r), some (.inr q1), some (.inl (x2 + 1))]) rfl ?_
      refine kj_goto dX7_keepList_35 (pc' := 9) rfl ?_
      exact ih9 (x2 + 1) hT
    · rw [if_neg c5] at hT
      have hR := Option.some.inj hT
      subst hR
      exact kj_vret rfl dX7_keepList_31 (by subst hQ; exact ⟨rfl, rfl⟩)
def X7_setWeight (σ : Wd) (r : Nat) (x1 : Int32) (x2 : Int32) : Option (Wd) :=
  (if x1 < 0 then some σ else (if (nI (kLn (r + 5))) ≤ x1 then some σ else (ckA x1 (kLn (r + 5)) <| some (up σ (r + 5) x1.toNatClampNeg x2))))
set_option maxRecDepth 100000 in
set_option maxHeartbeats 4000000 in
theorem m_X7_setWeight {E : JE} (hE : kOk 120 E) {r : Nat} (hr : kKd r = 7) (σ : Wd) (x1 : Int32) (x2 : Int32) {res : Wd} (hT : X7_setWeight σ r x1 x2 = some res) : kMt E yX7_setWeight mX7_setWeight rmX7_setWeight [.inr r, .inl x1, .inl x2] σ (kQv res) := by
  refine kMt_of (by decide +kernel) rfl (Nat.le_of_ble_eq_true rfl) ?_
  generalize hQ : (kQv res) = Q
  show KJ E mX7_setWeight rmX7_setWeight 0 [some (.inr r), some (.inl x1), some (.inl x2)] [] σ Q
  unfold X7_setWeight at hT
  refine kj_iload_n dX7_setWeight_0 (pc' := 1) rfl rfl rfl ?_
  refine kj_if_lt dX7_setWeight_1 (tgt := 20) rfl (pc' := 4) rfl (fun c1 => ?_) (fun c1 => ?_)
  · rw [if_pos c1] at hT
    have hR := Option.some.inj hT
    subst hR
    exact kj_vret rfl dX7_setWeight_20 (by subst hQ; exact ⟨rfl, rfl⟩)
  · rw [if_neg c1] at hT
    refine kj_iload_n dX7_setWeight_4 (pc' := 5) rfl rfl rfl ?_
    refine kj_aload_n dX7_setWeight_5 (pc' := 6) rfl rfl rfl ?_
    refine kj_getR f_RX7_23 hr (Nat.lt_of_lt_of_le (kn7_0 hr) hE.1) (hE.2 _ _) (q := (r + 5)) (kr7_0_2 hr) dX7_setWeight_6 (pc' := 9) rfl ?_
    refine kj_alen (n := 0) (v := nI (kLn (r + 5))) 0 (ty := .int) (kk7_5 hr) (by decide) rfl (Nat.lt_of_lt_of_le (kn7_5 hr) hE.1) rfl dX7_setWeight_9 (pc' := 10) rfl ?_
    refine kj_icmp_ge dX7_setWeight_10 (tgt := 20) rfl (pc' := 13) rfl (fun c2 => ?_) (fun c2 => ?_)
    · rw [if_pos c2] at hT
      have hR := Option.some.inj hT
      subst hR
      exact kj_vret rfl dX7_setWeight_20 (by subst hQ; exact ⟨rfl, rfl⟩)
    · rw [if_neg c2] at hT
      refine kj_aload_n dX7_setWeight_13 (pc' := 14) rfl rfl rfl ?_
      refine kj_getR f_RX7_23 hr (Nat.lt_of_lt_of_le (kn7_0 hr) hE.1) (hE.2 _ _) (q := (r + 5)) (kr7_0_2 hr) dX7_setWeight_14 (pc' := 17) rfl ?_
      refine kj_iload_n dX7_setWeight_17 (pc' := 18) rfl rfl rfl ?_
      refine kj_iload_n dX7_setWeight_18 (pc' := 19) rfl rfl rfl ?_
      obtain ⟨hi3, hT⟩ := ckA_some hT
      refine kj_iast (kk7_5 hr) (Nat.lt_of_lt_of_le (kn7_5 hr) hE.1) hi3 rfl dX7_setWeight_19 (pc' := 20) rfl ?_
      have hR := Option.some.inj hT
      subst hR
      exact kj_vret rfl dX7_setWeight_20 (by subst hQ; exact ⟨rfl, rfl⟩)
def X7_massOf_J31 (rec4 : Int32 × Int32 → Option (Int32)) (y2 : Int32) (y3 : Int32) : Option (Int32) :=
  rec4 (y2, y3 + 1)
def X7_massOf_B4 (r : Nat) (x1 : Int32) (σ : Wd) (rec4 : Int32 × Int32 → Option (Int32)) : Int32 × Int32 → Option (Int32)
  | (x2, x3) => (if (nI (kLn (r + 5))) ≤ x3 then some x2 else (if ((x1 >>> (x3 &&& 31)) &&& 1) = 1 then (ckA x3 (kLn (r + 5)) <| (lett (x2 + (σ (r + 5) x3.toNatClampNeg)) fun t5 => X7_massOf_J31 rec4 t5 x3)) else X7_massOf_J31 rec4 x2 x3))
def X7_massOf (σ : Wd) (r : Nat) (x1 : Int32) : Option (Int32) :=
  (lp (X7_massOf_B4 r x1 σ) FU (0, 0))
set_option maxRecDepth 100000 in
set_option maxHeartbeats 4000000 in
theorem m_X7_massOf {E : JE} (hE : kOk 120 E) {r : Nat} (hr : kKd r = 7) (σ : Wd) (x1 : Int32) {res : Int32} (hT : X7_massOf σ r x1 = some res) : kMt E yX7_massOf mX7_massOf rmX7_massOf [.inr r, .inl x1] σ (kQi res σ) := by
  refine kMt_of (by decide +kernel) rfl (Nat.le_of_ble_eq_true rfl) ?_
  generalize hQ : (kQi res σ) = Q
  show KJ E mX7_massOf rmX7_massOf 0 [some (.inr r), some (.inl x1)] [] σ Q
  unfold X7_massOf at hT
  refine kj_iconst dX7_massOf_0 (pc' := 1) rfl kc_0 ?_
  refine kj_istore_n dX7_massOf_1 (pc' := 2) rfl rfl (Nat.le_of_ble_eq_true rfl) (ls' := [some (.inr r), some (.inl x1), some (.inl 0)]) rfl ?_
  refine kj_iconst dX7_massOf_2 (pc' := 3) rfl kc_0 ?_
  refine kj_istore_n dX7_massOf_3 (pc' := 4) rfl rfl (Nat.le_of_ble_eq_true rfl) (ls' := [some (.inr r), some (.inl x1), some (.inl 0), some (.inl 0)]) rfl ?_
  refine lp_ind (P := fun s => KJ E mX7_massOf rmX7_massOf 4 [some (.inr r), some (.inl x1), some (.inl s.1), some (.inl s.2)] [] σ Q) (fun rec4 s ih4 hT => ?_) FU (0, 0) hT
  obtain ⟨x2, x3⟩ := s
  show KJ E mX7_massOf rmX7_massOf 4 [some (.inr r), some (.inl x1), some (.inl x2), some (.inl x3)] [] σ Q
  rw [X7_massOf_B4] at hT
  have hJ31_4 : ∀ y2 y3, X7_massOf_J31 rec4 y2 y3 = some res → KJ E mX7_massOf rmX7_massOf 31 [some (.inr r), some (.inl x1), some (.inl y2), some (.inl y3)] [] σ Q := by
    intro y2 y3 hT
    unfold X7_massOf_J31 at hT
    refine kj_iinc dX7_massOf_31 (pc' := 34) rfl rfl (congrArg (_ + ·) kc_1) (Nat.le_of_ble_eq_true rfl) (ls' := [some (.inr r), some (.inl x1), some (.inl y2), some (.inl (y3 + 1))]) rfl ?_
    refine kj_goto dX7_massOf_34 (pc' := 4) rfl ?_
    exact ih4 (y2, y3 + 1) hT
  refine kj_iload_n dX7_massOf_4 (pc' := 5) rfl rfl rfl ?_
  refine kj_aload_n dX7_massOf_5 (pc' := 6) rfl rfl rfl ?_
  refine kj_getR f_RX7_23 hr (Nat.lt_of_lt_of_le (kn7_0 hr) hE.1) (hE.2 _ _) (q := (r + 5)) (kr7_0_2 hr) dX7_massOf_6 (pc' := 9) rfl ?_
  refine kj_alen (n := 0) (v := nI (kLn (r + 5))) 0 (ty := .int) (kk7_5 hr) (by decide) rfl (Nat.lt_of_lt_of_le (kn7_5 hr) hE.1) rfl dX7_massOf_9 (pc' := 10) rfl ?_
  refine kj_icmp_ge dX7_massOf_10 (tgt := 37) rfl (pc' := 13) rfl (fun c2 => ?_) (fun c2 => ?_)
  · rw [if_pos c2] at hT
    refine kj_iload_n dX7_massOf_37 (pc' := 38) rfl rfl rfl ?_
    have hR := Option.some.inj hT
    subst hR
    exact kj_iret rfl dX7_massOf_38 (by subst hQ; exact ⟨rfl, rfl⟩)
  · rw [if_neg c2] at hT
    refine kj_iload_n dX7_massOf_13 (pc' := 14) rfl rfl rfl ?_
    refine kj_iload_n dX7_massOf_14 (pc' := 15) rfl rfl rfl ?_
    refine kj_ishr dX7_massOf_15 (pc' := 16) rfl ?_
    refine kj_iconst dX7_massOf_16 (pc' := 17) rfl kc_1 ?_
    refine kj_iand dX7_massOf_17 (pc' := 18) rfl ?_
    refine kj_iconst dX7_massOf_18 (pc' := 19) rfl kc_1 ?_
    refine kj_icmp_ne dX7_massOf_19 (tgt := 31) rfl (pc' := 22) rfl (fun c3 => ?_) (fun c3 => ?_)
    · rw [if_neg c3] at hT
      exact hJ31_4 x2 x3 hT
    · rw [if_pos c3] at hT
      refine kj_iload_n dX7_massOf_22 (pc' := 23) rfl rfl rfl ?_
      refine kj_aload_n dX7_massOf_23 (pc' := 24) rfl rfl rfl ?_
      refine kj_getR f_RX7_23 hr (Nat.lt_of_lt_of_le (kn7_0 hr) hE.1) (hE.2 _ _) (q := (r + 5)) (kr7_0_2 hr) dX7_massOf_24 (pc' := 27) rfl ?_
      refine kj_iload_n dX7_massOf_27 (pc' := 28) rfl rfl rfl ?_
      obtain ⟨hi4, hT⟩ := ckA_some hT
      refine kj_iald (kk7_5 hr) (Nat.lt_of_lt_of_le (kn7_5 hr) hE.1) hi4 rfl dX7_massOf_28 (pc' := 29) rfl ?_
      refine kj_iadd dX7_massOf_29 (pc' := 30) rfl ?_
      obtain ⟨t5, et5, hT⟩ := lett_i hT
      rw [← et5]
      refine kj_istore_n dX7_massOf_30 (pc' := 31) rfl rfl (Nat.le_of_ble_eq_true rfl) (ls' := [some (.inr r), some (.inl x1), some (.inl t5), some (.inl x3)]) rfl ?_
      exact hJ31_4 t5 x3 hT
