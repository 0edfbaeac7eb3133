def X1_clear (σ : Wd) : Wd :=
  (up σ 13 2 0)
set_option maxRecDepth 100000 in
set_option maxHeartbeats 4000000 in
theorem m_X1_clear {E : JE} (hE : kOk 120 E) (σ : Wd) {res : Wd} (hT : X1_clear σ = res) : kMt E yX1_clear mX1_clear rmX1_clear [.inr 13] σ (kQv res) := by
  refine kMt_of (by decide +kernel) rfl (Nat.le_of_ble_eq_true rfl) ?_
  generalize hQ : (kQv res) = Q
  show KJ E mX1_clear rmX1_clear 0 [some (.inr 13)] [] σ Q
  unfold X1_clear at hT
  refine kj_aload_n dX1_clear_0 (pc' := 1) rfl rfl rfl ?_
  refine kj_iconst dX1_clear_1 (pc' := 2) rfl kc_0 ?_
  refine kj_putI p_RX1_22 rfl rfl rfl (Nat.lt_of_lt_of_le (Nat.le_of_ble_eq_true rfl : 13 < 120) hE.1) dX1_clear_2 (pc' := 5) rfl ?_
  subst hT
  exact kj_vret rfl dX1_clear_5 (by subst hQ; exact ⟨rfl, rfl⟩)
def X1_push_J29 (ς : Wd) : Option (Wd) :=
  (if 12 ≤ (ς 13 2) then ((J9_floorMod_7cf53 ((ς 13 1) + 1) 12).bind fun t7 => some (up ς 13 1 t7)) else some (up ς 13 2 ((ς 13 2) + 1)))
def X1_push (σ : Wd) (q1 : Nat) : Option (Wd) :=
  ((J9_floorMod_7cf53 ((σ 13 1) + (σ 13 2)) 12).bind fun t1 => (ckA t1 12 <| (lett (kRf 14 t1.toNatClampNeg) fun o3 => ((X7_copy σ o3 q1).bind fun σ5 => X1_push_J29 σ5))))
set_option maxRecDepth 100000 in
set_option maxHeartbeats 4000000 in
theorem m_X1_push {E : JE} (hE : kOk 120 E) {q1 : Nat} (hq1 : kKd q1 = 7) (σ : Wd) {res : Wd} (hT : X1_push σ q1 = some res) : kMt E yX1_push mX1_push rmX1_push [.inr 13, .inr q1] σ (kQv res) := by
  refine kMt_of (by decide +kernel) rfl (Nat.le_of_ble_eq_true rfl) ?_
  generalize hQ : (kQv res) = Q
  show KJ E mX1_push rmX1_push 0 [some (.inr 13), some (.inr q1)] [] σ Q
  unfold X1_push at hT
  have hJ29 : ∀ ς, X1_push_J29 ς = some res → KJ E mX1_push rmX1_push 29 [some (.inr 13)] [] ς Q := by
    intro ς hT
    unfold X1_push_J29 at hT
    refine kj_aload_n dX1_push_29 (pc' := 30) rfl rfl rfl ?_
    refine kj_getI f_RX1_22 rfl (Nat.lt_of_lt_of_le (Nat.le_of_ble_eq_true rfl : 13 < 120) hE.1) dX1_push_30 (pc' := 33) rfl ?_
    refine kj_bipush dX1_push_33 (pc' := 35) rfl kb_12 ?_
    refine kj_icmp_ge dX1_push_35 (tgt := 51) rfl (pc' := 38) rfl (fun c6 => ?_) (fun c6 => ?_)
    · rw [if_pos c6] at hT
      refine kj_aload_n dX1_push_51 (pc' := 52) rfl rfl rfl ?_
      refine kj_aload_n dX1_push_52 (pc' := 53) rfl rfl rfl ?_
      refine kj_getI f_RX1_18 rfl (Nat.lt_of_lt_of_le (Nat.le_of_ble_eq_true rfl : 13 < 120) hE.1) dX1_push_53 (pc' := 56) rfl ?_
      refine kj_iconst dX1_push_56 (pc' := 57) rfl kc_1 ?_
      refine kj_iadd dX1_push_57 (pc' := 58) rfl ?_
      refine kj_bipush dX1_push_58 (pc' := 60) rfl kb_12 ?_
      obtain ⟨t7, ht7, hT⟩ := bind_some' hT
      refine kcSi (as := [.inl ((ς 13 1) + 1), .inl 12]) (st := [.inr 13]) l_RX1_25 (m_J9_floorMod_7cf53 (Nat.zero_le _) ς ((ς 13 1) + 1) 12 ht7) rfl ⟨⟨rfl, rfl⟩, Nat.le_of_ble_eq_true rfl, Nat.le_of_ble_eq_true rfl⟩ (Nat.le_of_ble_eq_true rfl) dX1_push_60 (pc' := 63) rfl ?_
      refine kj_putI p_RX1_18 rfl rfl rfl (Nat.lt_of_lt_of_le (Nat.le_of_ble_eq_true rfl : 13 < 120) hE.1) dX1_push_63 (pc' := 66) rfl ?_
      have hR := Option.some.inj hT
      subst hR
      exact kj_vret rfl dX1_push_66 (by subst hQ; exact ⟨rfl, rfl⟩)
    · rw [if_neg c6] at hT
      refine kj_aload_n dX1_push_38 (pc' := 39) rfl rfl rfl ?_
      refine kj_dup dX1_push_39 (pc' := 40) rfl ?_
      refine kj_getI f_RX1_22 rfl (Nat.lt_of_lt_of_le (Nat.le_of_ble_eq_true rfl : 13 < 120) hE.1) dX1_push_40 (pc' := 43) rfl ?_
      refine kj_iconst dX1_push_43 (pc' := 44) rfl kc_1 ?_
      refine kj_iadd dX1_push_44 (pc' := 45) rfl ?_
      refine kj_putI p_RX1_22 rfl rfl rfl (Nat.lt_of_lt_of_le (Nat.le_of_ble_eq_true rfl : 13 < 120) hE.1) dX1_push_45 (pc' := 48) rfl ?_
      refine kj_goto dX1_push_48 (pc' := 66) rfl ?_
      have hR := Option.some.inj hT
      subst hR
      exact kj_vret rfl dX1_push_66 (by subst hQ; exact ⟨rfl, rfl⟩)
  refine kj_aload_n dX1_push_0 (pc' := 1) rfl rfl rfl ?_
  refine kj_getR f_RX1_11 rfl (Nat.lt_of_lt_of_le (Nat.le_of_ble_eq_true rfl : 13 < 120) hE.1) (hE.2 _ _) (q := 14) rfl dX1_push_1 (pc' := 4) rfl ?_
  refine kj_aload_n dX1_push_4 (pc' := 5) rfl rfl rfl ?_
  refine kj_getI f_RX1_18 rfl (Nat.lt_of_lt_of_le (Nat.le_of_ble_eq_true rfl : 13 < 120) hE.1) dX1_push_5 (pc' := 8) rfl ?_
  refine kj_aload_n dX1_push_8 (pc' := 9) rfl rfl rfl ?_
  refine kj_getI f_RX1_22 rfl (Nat.lt_of_lt_of_le (Nat.le_of_ble_eq_true rfl : 13 < 120) hE.1) dX1_push_9 (pc' := 12) rfl ?_
  refine kj_iadd dX1_push_12 (pc' := 13) rfl ?_
  refine kj_bipush dX1_push_13 (pc' := 15) rfl kb_12 ?_
  obtain ⟨t1, ht1, hT⟩ := bind_some' hT
  refine kcSi (as := [.inl ((σ 13 1) + (σ 13 2)), .inl 12]) (st := [.inr 14]) l_RX1_25 (m_J9_floorMod_7cf53 (Nat.zero_le _) σ ((σ 13 1) + (σ 13 2)) 12 ht1) rfl ⟨⟨rfl, rfl⟩, Nat.le_of_ble_eq_true rfl, Nat.le_of_ble_eq_true rfl⟩ (Nat.le_of_ble_eq_true rfl) dX1_push_15 (pc' := 18) rfl ?_
  obtain ⟨hi2, hT⟩ := ckA_some hT
  refine kj_aald rfl (Nat.lt_of_lt_of_le (Nat.le_of_ble_eq_true rfl : 14 < 120) hE.1) (hE.2 _ _) hi2 rfl dX1_push_18 (pc' := 19) rfl ?_
  obtain ⟨o3, eo3, hT⟩ := lett_i hT
  rw [← eo3]
  have ho4 : kKd o3 = 7 := by rw [eo3]; exact kPast hi2
  refine kj_astore_n dX1_push_19 (pc' := 20) rfl rfl (Nat.le_of_ble_eq_true rfl) (ls' := [some (.inr 13), some (.inr q1), some (.inr o3)]) rfl ?_
  refine kj_aload_n dX1_push_20 (pc' := 21) rfl rfl rfl ?_
  refine kj_ifnull dX1_push_21 (pc' := 24) rfl ?_
  refine kj_aload_n dX1_push_24 (pc' := 25) rfl rfl rfl ?_
  refine kj_aload_n dX1_push_25 (pc' := 26) rfl rfl rfl ?_
  obtain ⟨σ5, hσ5, hT⟩ := bind_some' hT
  refine kcVv (as := [.inr q1]) (st := []) l_RX1_31 (m_X7_copy hE ho4 hq1 σ hσ5) ho4 (Nat.lt_of_lt_of_le (kn7_0 ho4) hE.1) rfl ⟨⟨rfl, rfl⟩, Nat.le_of_ble_eq_true rfl, Nat.le_of_ble_eq_true rfl⟩ (Nat.le_of_ble_eq_true rfl) dX1_push_26 (pc' := 29) rfl ?_
  refine kj_keep [true] (ls' := [some (.inr 13)]) rfl ?_
  exact hJ29 σ5 hT
def X1_pop (σ : Wd) (q1 : Nat) : Option (Wd) :=
  (if 0 < (σ 13 2) then ((J9_floorMod_7cf53 (((up σ 13 2 ((σ 13 2) - 1)) 13 1) + ((up σ 13 2 ((σ 13 2) - 1)) 13 2)) 12).bind fun t2 => (ckA t2 12 <| (lett (kRf 14 t2.toNatClampNeg) fun o4 => ((X7_copy (up σ 13 2 ((σ 13 2) - 1)) q1 o4).bind fun σ6 => some σ6)))) else some σ)
set_option maxRecDepth 100000 in
set_option maxHeartbeats 4000000 in
theorem m_X1_pop {E : JE} (hE : kOk 120 E) {q1 : Nat} (hq1 : kKd q1 = 7) (σ : Wd) {res : Wd} (hT : X1_pop σ q1 = some res) : kMt E yX1_pop mX1_pop rmX1_pop [.inr 13, .inr q1] σ (kQv res) := by
  refine kMt_of (by decide +kernel) rfl (Nat.le_of_ble_eq_true rfl) ?_
  generalize hQ : (kQv res) = Q
  show KJ E mX1_pop rmX1_pop 0 [some (.inr 13), some (.inr q1)] [] σ Q
  unfold X1_pop at hT
  refine kj_aload_n dX1_pop_0 (pc' := 1) rfl rfl rfl ?_
  refine kj_getI f_RX1_22 rfl (Nat.lt_of_lt_of_le (Nat.le_of_ble_eq_true rfl : 13 < 120) hE.1) dX1_pop_1 (pc' := 4) rfl ?_
  refine kj_if_gt dX1_pop_4 (tgt := 8) rfl (pc' := 7) rfl (fun c1 => ?_) (fun c1 => ?_)
  · rw [if_pos c1] at hT
    refine kj_aload_n dX1_pop_8 (pc' := 9) rfl rfl rfl ?_
    refine kj_dup dX1_pop_9 (pc' := 10) rfl ?_
    refine kj_getI f_RX1_22 rfl (Nat.lt_of_lt_of_le (Nat.le_of_ble_eq_true rfl : 13 < 120) hE.1) dX1_pop_10 (pc' := 13) rfl ?_
    refine kj_iconst dX1_pop_13 (pc' := 14) rfl kc_1 ?_
    refine kj_isub dX1_pop_14 (pc' := 15) rfl ?_
    refine kj_putI p_RX1_22 rfl rfl rfl (Nat.lt_of_lt_of_le (Nat.le_of_ble_eq_true rfl : 13 < 120) hE.1) dX1_pop_15 (pc' := 18) rfl ?_
    refine kj_aload_n dX1_pop_18 (pc' := 19) rfl rfl rfl ?_
    refine kj_getR f_RX1_11 rfl (Nat.lt_of_lt_of_le (Nat.le_of_ble_eq_true rfl : 13 < 120) hE.1) (hE.2 _ _) (q := 14) rfl dX1_pop_19 (pc' := 22) rfl ?_
    refine kj_aload_n dX1_pop_22 (pc' := 23) rfl rfl rfl ?_
    refine kj_getI f_RX1_18 rfl (Nat.lt_of_lt_of_le (Nat.le_of_ble_eq_true rfl : 13 < 120) hE.1) dX1_pop_23 (pc' := 26) rfl ?_
    refine kj_aload_n dX1_pop_26 (pc' := 27) rfl rfl rfl ?_
    refine kj_getI f_RX1_22 rfl (Nat.lt_of_lt_of_le (Nat.le_of_ble_eq_true rfl : 13 < 120) hE.1) dX1_pop_27 (pc' := 30) rfl ?_
    refine kj_iadd dX1_pop_30 (pc' := 31) rfl ?_
    refine kj_bipush dX1_pop_31 (pc' := 33) rfl kb_12 ?_
    obtain ⟨t2, ht2, hT⟩ := bind_some' hT
    refine kcSi (as := [.inl (((up σ 13 2 ((σ 13 2) - 1)) 13 1) + ((up σ 13 2 ((σ 13 2) - 1)) 13 2)), .inl 12]) (st := [.inr 14]) l_RX1_25 (m_J9_floorMod_7cf53 (Nat.zero_le _) (up σ 13 2 ((σ 13 2) - 1)) (((up σ 13 2 ((σ 13 2) - 1)) 13 1) + ((up σ 13 2 ((σ 13 2) - 1)) 13 2)) 12 ht2) rfl ⟨⟨rfl, rfl⟩, Nat.le_of_ble_eq_true rfl, Nat.le_of_ble_eq_true rfl⟩ (Nat.le_of_ble_eq_true rfl) dX1_pop_33 (pc' := 36) rfl ?_
    obtain ⟨hi3, hT⟩ := ckA_some hT
    refine kj_aald rfl (Nat.lt_of_lt_of_le (Nat.le_of_ble_eq_true rfl : 14 < 120) hE.1) (hE.2 _ _) hi3 rfl dX1_pop_36 (pc' := 37) rfl ?_
    obtain ⟨o4, eo4, hT⟩ := lett_i hT
    rw [← eo4]
    have ho5 : kKd o4 = 7 := by rw [eo4]; exact kPast hi3
    refine kj_astore_n dX1_pop_37 (pc' := 38) rfl rfl (Nat.le_of_ble_eq_true rfl) (ls' := [some (.inr 13), some (.inr q1), some (.inr o4)]) rfl ?_
    refine kj_aload_n dX1_pop_38 (pc' := 39) rfl rfl rfl ?_
    refine kj_ifnull dX1_pop_39 (pc' := 42) rfl ?_
    refine kj_aload_n dX1_pop_42 (pc' := 43) rfl rfl rfl ?_
    refine kj_aload_n dX1_pop_43 (pc' := 44) rfl rfl rfl ?_
    obtain ⟨σ6, hσ6, hT⟩ := bind_some' hT
    refine kcVv (as := [.inr o4]) (st := []) l_RX1_31 (m_X7_copy hE hq1 ho5 (up σ 13 2 ((σ 13 2) - 1)) hσ6) hq1 (Nat.lt_of_lt_of_le (kn7_0 hq1) hE.1) rfl ⟨⟨rfl, rfl⟩, Nat.le_of_ble_eq_true rfl, Nat.le_of_ble_eq_true rfl⟩ (Nat.le_of_ble_eq_true rfl) dX1_pop_44 (pc' := 47) rfl ?_
    have hR := Option.some.inj hT
    subst hR
    exact kj_vret rfl dX1_pop_47 (by subst hQ; exact ⟨rfl, rfl⟩)
  · rw [if_neg c1] at hT
    have hR := Option.some.inj hT
    subst hR
    exact kj_vret rfl dX1_pop_7 (by subst hQ; exact ⟨rfl, rfl⟩)
