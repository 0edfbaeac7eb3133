def X3_fail (σ : Wd) (x1 : Int32) : Wd :=
  (if (σ 89 3) = (-1) then (up σ 89 3 x1) else σ)
set_option maxRecDepth 100000 in
set_option maxHeartbeats 4000000 in
theorem m_X3_fail {E : JE} (hE : kOk 120 E) (σ : Wd) (x1 : Int32) {res : Wd} (hT : X3_fail σ x1 = res) : kMt E yX3_fail mX3_fail rmX3_fail [.inr 89, .inl x1] σ (kQv res) := by
  refine kMt_of (by decide +kernel) rfl (Nat.le_of_ble_eq_true rfl) ?_
  generalize hQ : (kQv res) = Q
  show KJ E mX3_fail rmX3_fail 0 [some (.inr 89), some (.inl x1)] [] σ Q
  unfold X3_fail at hT
  refine kj_aload_n dX3_fail_0 (pc' := 1) rfl rfl rfl ?_
  refine kj_getI f_RX3_23 rfl (Nat.lt_of_lt_of_le (Nat.le_of_ble_eq_true rfl : 89 < 120) hE.1) dX3_fail_1 (pc' := 4) rfl ?_
  refine kj_iconst dX3_fail_4 (pc' := 5) rfl kc_m1 ?_
  refine kj_icmp_ne dX3_fail_5 (tgt := 13) rfl (pc' := 8) rfl (fun c1 => ?_) (fun c1 => ?_)
  · rw [if_neg c1] at hT
    subst hT
    exact kj_vret rfl dX3_fail_13 (by subst hQ; exact ⟨rfl, rfl⟩)
  · rw [if_pos c1] at hT
    refine kj_aload_n dX3_fail_8 (pc' := 9) rfl rfl rfl ?_
    refine kj_iload_n dX3_fail_9 (pc' := 10) rfl rfl rfl ?_
    refine kj_putI p_RX3_23 rfl rfl rfl (Nat.lt_of_lt_of_le (Nat.le_of_ble_eq_true rfl : 89 < 120) hE.1) dX3_fail_10 (pc' := 13) rfl ?_
    subst hT
    exact kj_vret rfl dX3_fail_13 (by subst hQ; exact ⟨rfl, rfl⟩)
def X3_isBlank (x0 : Int32) : Int32 :=
  (if x0 = 32 then 1 else (if x0 = 10 then 1 else 0))
set_option maxRecDepth 100000 in
set_option maxHeartbeats 4000000 in
theorem m_X3_isBlank {E : JE} (hE : kOk 120 E) (σ : Wd) (x0 : Int32) {res : Int32} (hT : X3_isBlank x0 = res) : kMt E yX3_isBlank mX3_isBlank rmX3_isBlank [.inl x0] σ (kQz res σ) := by
  refine kMt_of (by decide +kernel) rfl (Nat.le_of_ble_eq_true rfl) ?_
  generalize hQ : (kQz res σ) = Q
  show KJ E mX3_isBlank rmX3_isBlank 0 [some (.inl x0)] [] σ Q
  unfold X3_isBlank at hT
  refine kj_iload_n dX3_isBlank_0 (pc' := 1) rfl rfl rfl ?_
  refine kj_bipush dX3_isBlank_1 (pc' := 3) rfl kb_32 ?_
  refine kj_icmp_eq dX3_isBlank_3 (tgt := 12) rfl (pc' := 6) rfl (fun c1 => ?_) (fun c1 => ?_)
  · rw [if_pos c1] at hT
    refine kj_iconst dX3_isBlank_12 (pc' := 13) rfl kc_1 ?_
    refine kj_goto dX3_isBlank_13 (pc' := 17) rfl ?_
    subst hT
    exact kj_zret rfl (Or.inr rfl) dX3_isBlank_17 (by subst hQ; exact ⟨rfl, rfl, (Or.inr rfl)⟩)
  · rw [if_neg c1] at hT
    refine kj_iload_n dX3_isBlank_6 (pc' := 7) rfl rfl rfl ?_
    refine kj_bipush dX3_isBlank_7 (pc' := 9) rfl kb_10 ?_
    refine kj_icmp_ne dX3_isBlank_9 (tgt := 16) rfl (pc' := 12) rfl (fun c2 => ?_) (fun c2 => ?_)
    · rw [if_neg c2] at hT
      refine kj_iconst dX3_isBlank_16 (pc' := 17) rfl kc_0 ?_
      subst hT
      exact kj_zret rfl (Or.inl rfl) dX3_isBlank_17 (by subst hQ; exact ⟨rfl, rfl, (Or.inl rfl)⟩)
    · rw [if_pos c2] at hT
      refine kj_iconst dX3_isBlank_12 (pc' := 13) rfl kc_1 ?_
      refine kj_goto dX3_isBlank_13 (pc' := 17) rfl ?_
      subst hT
      exact kj_zret rfl (Or.inr rfl) dX3_isBlank_17 (by subst hQ; exact ⟨rfl, rfl, (Or.inr rfl)⟩)
def X3_skipGap_B0 (rec0 : Wd → Option (Wd)) : Wd → Option (Wd)
  | (σ) => (if (σ 87 1) ≤ (σ 89 2) then some σ else ((X4_at σ 87 (σ 89 2)).bind fun t2 => (if (X3_isBlank t2) = 0 then some σ else rec0 (up σ 89 2 ((σ 89 2) + 1)))))
def X3_skipGap (σ : Wd) : Option (Wd) :=
  (lp (X3_skipGap_B0) FU (σ))
set_option maxRecDepth 100000 in
set_option maxHeartbeats 4000000 in
theorem m_X3_skipGap {E : JE} (hE : kOk 120 E) (σ : Wd) {res : Wd} (hT : X3_skipGap σ = some res) : kMt E yX3_skipGap mX3_skipGap rmX3_skipGap [.inr 89] σ (kQv res) := by
  refine kMt_of (by decide +kernel) rfl (Nat.le_of_ble_eq_true rfl) ?_
  generalize hQ : (kQv res) = Q
  show KJ E mX3_skipGap rmX3_skipGap 0 [some (.inr 89)] [] σ Q
  unfold X3_skipGap at hT
  refine lp_ind (P := fun s => KJ E mX3_skipGap rmX3_skipGap 0 [some (.inr 89)] [] s Q) (fun rec0 s ih0 hT => ?_) FU (σ) hT
  obtain ⟨σ, hs⟩ : ∃ z, z = s := ⟨_, rfl⟩
  subst hs
  show KJ E mX3_skipGap rmX3_skipGap 0 [some (.inr 89)] [] σ Q
  rw [X3_skipGap_B0] at hT
  refine kj_aload_n dX3_skipGap_0 (pc' := 1) rfl rfl rfl ?_
  refine kj_getI f_RX3_19 rfl (Nat.lt_of_lt_of_le (Nat.le_of_ble_eq_true rfl : 89 < 120) hE.1) dX3_skipGap_1 (pc' := 4) rfl ?_
  refine kj_aload_n dX3_skipGap_4 (pc' := 5) rfl rfl rfl ?_
  refine kj_getR f_RX3_9 rfl (Nat.lt_of_lt_of_le (Nat.le_of_ble_eq_true rfl : 89 < 120) hE.1) (hE.2 _ _) (q := 87) rfl dX3_skipGap_5 (pc' := 8) rfl ?_
  refine kj_getI f_RX3_34 rfl (Nat.lt_of_lt_of_le (Nat.le_of_ble_eq_true rfl : 87 < 120) hE.1) dX3_skipGap_8 (pc' := 11) rfl ?_
  refine kj_icmp_ge dX3_skipGap_11 (tgt := 44) rfl (pc' := 14) rfl (fun c1 => ?_) (fun c1 => ?_)
  · rw [if_pos c1] at hT
    have hR := Option.some.inj hT
    subst hR
    exact kj_vret rfl dX3_skipGap_44 (by subst hQ; exact ⟨rfl, rfl⟩)
  · rw [if_neg c1] at hT
    refine kj_aload_n dX3_skipGap_14 (pc' := 15) rfl rfl rfl ?_
    refine kj_getR f_RX3_9 rfl (Nat.lt_of_lt_of_le (Nat.le_of_ble_eq_true rfl : 89 < 120) hE.1) (hE.2 _ _) (q := 87) rfl dX3_skipGap_15 (pc' := 18) rfl ?_
    refine kj_aload_n dX3_skipGap_18 (pc' := 19) rfl rfl rfl ?_
    refine kj_getI f_RX3_19 rfl (Nat.lt_of_lt_of_le (Nat.le_of_ble_eq_true rfl : 89 < 120) hE.1) dX3_skipGap_19 (pc' := 22) rfl ?_
    obtain ⟨t2, ht2, hT⟩ := bind_some' hT
    refine kcVi (as := [.inl (σ 89 2)]) (st := []) l_RX3_85 (m_X4_at hE rfl σ (σ 89 2) ht2) rfl (Nat.lt_of_lt_of_le (Nat.le_of_ble_eq_true rfl : 87 < 120) hE.1) rfl ⟨⟨rfl, rfl⟩, Nat.le_of_ble_eq_true rfl, Nat.le_of_ble_eq_true rfl⟩ (Nat.le_of_ble_eq_true rfl) dX3_skipGap_22 (pc' := 25) rfl ?_
    refine kcSz (as := [.inl t2]) (st := []) l_RX3_98 (m_X3_isBlank hE σ t2 rfl) rfl ⟨⟨rfl, rfl⟩, Nat.le_of_ble_eq_true rfl, Nat.le_of_ble_eq_true rfl⟩ (Nat.le_of_ble_eq_true rfl) dX3_skipGap_25 (pc' := 28) rfl (fun z3 => ?_)
    refine kj_if_eq dX3_skipGap_28 (tgt := 44) rfl (pc' := 31) rfl (fun c4 => ?_) (fun c4 => ?_)
    · rw [if_pos c4] at hT
      have hR := Option.some.inj hT
      subst hR
      exact kj_vret rfl dX3_skipGap_44 (by subst hQ; exact ⟨rfl, rfl⟩)
    · rw [if_neg c4] at hT
      refine kj_aload_n dX3_skipGap_31 (pc' := 32) rfl rfl rfl ?_
      refine kj_dup dX3_skipGap_32 (pc' := 33) rfl ?_
      refine kj_getI f_RX3_19 rfl (Nat.lt_of_lt_of_le (Nat.le_of_ble_eq_true rfl : 89 < 120) hE.1) dX3_skipGap_33 (pc' := 36) rfl ?_
      refine kj_iconst dX3_skipGap_36 (pc' := 37) rfl kc_1 ?_
      refine kj_iadd dX3_skipGap_37 (pc' := 38) rfl ?_
      refine kj_putI p_RX3_19 rfl rfl rfl (Nat.lt_of_lt_of_le (Nat.le_of_ble_eq_true rfl : 89 < 120) hE.1) dX3_skipGap_38 (pc' := 41) rfl ?_
      refine kj_goto dX3_skipGap_41 (pc' := 0) rfl ?_
      exact ih0 (up σ 89 2 ((σ 89 2) + 1)) hT
def X3_expectEnd (σ : Wd) : Option (Wd) :=
  ((X3_skipGap σ).bind fun σ1 => ((X4_at σ1 87 (σ1 89 2)).bind fun t2 => (if t2 = 59 then some (up σ1 89 2 ((σ1 89 2) + 1)) else some (up (X3_fail σ1 (σ1 89 2)) 89 2 (((X3_fail σ1 (σ1 89 2)) 89 2) + 1)))))
set_option maxRecDepth 100000 in
set_option maxHeartbeats 4000000 in
theorem m_X3_expectEnd {E : JE} (hE : kOk 120 E) (σ : Wd) {res : Wd} (hT : X3_expectEnd σ = some res) : kMt E yX3_expectEnd mX3_expectEnd rmX3_expectEnd [.inr 89] σ (kQv res) := by
  refine kMt_of (by decide +kernel) rfl (Nat.le_of_ble_eq_true rfl) ?_
  generalize hQ : (kQv res) = Q
  show KJ E mX3_expectEnd rmX3_expectEnd 0 [some (.inr 89)] [] σ Q
  unfold X3_expectEnd at hT
  refine kj_aload_n dX3_expectEnd_0 (pc' := 1) rfl rfl rfl ?_
  obtain ⟨σ1, hσ1, hT⟩ := bind_some' hT
  refine kcVv (as := []) (st := []) l_RX3_31 (m_X3_skipGap hE σ hσ1) rfl (Nat.lt_of_lt_of_le (Nat.le_of_ble_eq_true rfl : 89 < 120) hE.1) rfl ⟨⟨rfl, rfl⟩, Nat.le_of_ble_eq_true rfl, Nat.le_of_ble_eq_true rfl⟩ (Nat.le_of_ble_eq_true rfl) dX3_expectEnd_1 (pc' := 4) rfl ?_
  refine kj_aload_n dX3_expectEnd_4 (pc' := 5) rfl rfl rfl ?_
  refine kj_getR f_RX3_9 rfl (Nat.lt_of_lt_of_le (Nat.le_of_ble_eq_true rfl : 89 < 120) hE.1) (hE.2 _ _) (q := 87) rfl dX3_expectEnd_5 (pc' := 8) rfl ?_
  refine kj_aload_n dX3_expectEnd_8 (pc' := 9) rfl rfl rfl ?_
  refine kj_getI f_RX3_19 rfl (Nat.lt_of_lt_of_le (Nat.le_of_ble_eq_true rfl : 89 < 120) hE.1) dX3_expectEnd_9 (pc' := 12) rfl ?_
  obtain ⟨t2, ht2, hT⟩ := bind_some' hT
  refine kcVi (as := [.inl (σ1 89 2)]) (st := []) l_RX3_85 (m_X4_at hE rfl σ1 (σ1 89 2) ht2) rfl (Nat.lt_of_lt_of_le (Nat.le_of_ble_eq_true rfl : 87 < 120) hE.1) rfl ⟨⟨rfl, rfl⟩, Nat.le_of_ble_eq_true rfl, Nat.le_of_ble_eq_true rfl⟩ (Nat.le_of_ble_eq_true rfl) dX3_expectEnd_12 (pc' := 15) rfl ?_
  refine kj_bipush dX3_expectEnd_15 (pc' := 17) rfl kb_59 ?_
  refine kj_icmp_eq dX3_expectEnd_17 (tgt := 28) rfl (pc' := 20) rfl (fun c3 => ?_) (fun c3 => ?_)
  · rw [if_pos c3] at hT
    refine kj_aload_n dX3_expectEnd_28 (pc' := 29) rfl rfl rfl ?_
    refine kj_dup dX3_expectEnd_29 (pc' := 30) rfl ?_
    refine kj_getI f_RX3_19 rfl (Nat.lt_of_lt_of_le (Nat.le_of_ble_eq_true rfl : 89 < 120) hE.1) dX3_expectEnd_30 (pc' := 33) rfl ?_
    refine kj_iconst dX3_expectEnd_33 (pc' := 34) rfl kc_1 ?_
    refine kj_iadd dX3_expectEnd_34 (pc' := 35) rfl ?_
    refine kj_putI p_RX3_19 rfl rfl rfl (Nat.lt_of_lt_of_le (Nat.le_of_ble_eq_true rfl : 89 < 120) hE.1) dX3_expectEnd_35 (pc' := 38) rfl ?_
    have hR := Option.some.inj hT
    subst hR
    exact kj_vret rfl dX3_expectEnd_38 (by subst hQ; exact ⟨rfl, rfl⟩)
  · rw [if_neg c3] at hT
    refine kj_aload_n dX3_expectEnd_20 (pc' := 21) rfl rfl rfl ?_
    refine kj_aload_n dX3_expectEnd_21 (pc' := 22) rfl rfl rfl ?_
    refine kj_getI f_RX3_19 rfl (Nat.lt_of_lt_of_le (Nat.le_of_ble_eq_true rfl : 89 < 120) hE.1) dX3_expectEnd_22 (pc' := 25) rfl ?_
    refine kcVv (as := [.inl (σ1 89 2)]) (st := []) l_RX3_69 (m_X3_fail hE σ1 (σ1 89 2) rfl) rfl (Nat.lt_of_lt_of_le (Nat.le_of_ble_eq_true rfl : 89 < 120) hE.1) rfl ⟨⟨rfl, rfl⟩, Nat.le_of_ble_eq_true rfl, Nat.le_of_ble_eq_true rfl⟩ (Nat.le_of_ble_eq_true rfl) dX3_expectEnd_25 (pc' := 28) rfl ?_
    refine kj_aload_n dX3_expectEnd_28 (pc' := 29) rfl rfl rfl ?_
    refine kj_dup dX3_expectEnd_29 (pc' := 30) rfl ?_
    refine kj_getI f_RX3_19 rfl (Nat.lt_of_lt_of_le (Nat.le_of_ble_eq_true rfl : 89 < 120) hE.1) dX3_expectEnd_30 (pc' := 33) rfl ?_
    refine kj_iconst dX3_expectEnd_33 (pc' := 34) rfl kc_1 ?_
    refine kj_iadd dX3_expectEnd_34 (pc' := 35) rfl ?_
    refine kj_putI p_RX3_19 rfl rfl rfl (Nat.lt_of_lt_of_le (Nat.le_of_ble_eq_true rfl : 89 < 120) hE.1) dX3_expectEnd_35 (pc' := 38) rfl ?_
    have hR := Option.some.inj hT
    subst hR
    exact kj_vret rfl dX3_expectEnd_38 (by subst hQ; exact ⟨rfl, rfl⟩)
def X3_isWord_B15 (w3 : Nat) (σ : Wd) (x1 : Int32) (rec15 : Int32 → Option (Int32)) : Int32 → Option (Int32)
  | (x4) => (if (nI (kSN.getD w3 0)) ≤ x4 then some 1 else ((X4_at σ 87 (x1 + x4)).bind fun t4 => (ckA x4 (kSN.getD w3 0) <| (if t4 = ((kSB.getD w3 []).getD x4.toNatClampNeg 0) then rec15 (x4 + 1) else some 0))))
def X3_isWord (σ : Wd) (x1 : Int32) (x2 : Int32) (w3 : Nat) : Option (Int32) :=
  (if (x2 - x1) = (nI (kSN.getD w3 0)) then (lp (X3_isWord_B15 w3 σ x1) FU (0)) else some 0)
set_option maxRecDepth 100000 in
set_option maxHeartbeats 4000000 in
theorem m_X3_isWord {E : JE} (hE : kOk 120 E) (hX : kHX E) {w3 : Nat} (hw3 : w3 < 3) (σ : Wd) (x1 : Int32) (x2 : Int32) {res : Int32} (hT : X3_isWord σ x1 x2 w3 = some res) : kMt E yX3_isWord mX3_isWord rmX3_isWord [.inr 89, .inl x1, .inl x2, .inr (1000 + w3)] σ (kQz res σ) := by
  refine kMt_of (by decide +kernel) rfl (Nat.le_of_ble_eq_true rfl) ?_
  generalize hQ : (kQz res σ) = Q
  show KJ E mX3_isWord rmX3_isWord 0 [some (.inr 89), some (.inl x1), some (.inl x2), some (.inr (1000 + w3))] [] σ Q
  unfold X3_isWord at hT
  refine kj_iload_n dX3_isWord_0 (pc' := 1) rfl rfl rfl ?_
  refine kj_iload_n dX3_isWord_1 (pc' := 2) rfl rfl rfl ?_
  refine kj_isub dX3_isWord_2 (pc' := 3) rfl ?_
  refine kj_aload_n dX3_isWord_3 (pc' := 4) rfl rfl rfl ?_
  refine kcT (as := []) (st := [.inl (x2 - x1)]) hX hw3 lt_RX3_105 (m_J0_length_8abf5 hX hw3 σ) rfl ⟨⟨rfl, rfl⟩, Nat.le_of_ble_eq_true rfl, Nat.le_of_ble_eq_true rfl⟩ (Nat.le_of_ble_eq_true rfl) dX3_isWord_4 (pc' := 7) rfl ?_
  refine kj_icmp_eq dX3_isWord_7 (tgt := 12) rfl (pc' := 10) rfl (fun c1 => ?_) (fun c1 => ?_)
  · rw [if_pos c1] at hT
    refine kj_iconst dX3_isWord_12 (pc' := 13) rfl kc_0 ?_
    refine kj_istore dX3_isWord_13 (pc' := 15) rfl (Nat.le_of_ble_eq_true rfl) (ls' := [some (.inr 89), some (.inl x1), some (.inl x2), some (.inr (1000 + w3)), some (.inl 0)]) rfl ?_
    refine kj_keep [true, true, false, true, true] (ls' := [some (.inr 89), some (.inl x1), none, some (.inr (1000 + w3)), some (.inl 0)]) rfl ?_
    refine lp_ind (P := fun s => KJ E mX3_isWord rmX3_isWord 15 [some (.inr 89), some (.inl x1), none, some (.inr (1000 + w3)), some (.inl s)] [] σ Q) (fun rec15 s ih15 hT => ?_) FU (0) hT
    obtain ⟨x4, hs⟩ : ∃ z, z = s := ⟨_, rfl⟩
    subst hs
    show KJ E mX3_isWord rmX3_isWord 15 [some (.inr 89), some (.inl x1), none, some (.inr (1000 + w3)), some (.inl x4)] [] σ Q
    rw [X3_isWord_B15] at hT
    refine kj_iload dX3_isWord_15 (pc' := 17) rfl rfl ?_
    refine kj_aload_n dX3_isWord_17 (pc' := 18) rfl rfl rfl ?_
    refine kcT (as := []) (st := [.inl x4]) hX hw3 lt_RX3_105 (m_J0_length_8abf5 hX hw3 σ) rfl ⟨⟨rfl, rfl⟩, Nat.le_of_ble_eq_true rfl, Nat.le_of_ble_eq_true rfl⟩ (Nat.le_of_ble_eq_true rfl) dX3_isWord_18 (pc' := 21) rfl ?_
    refine kj_icmp_ge dX3_isWord_21 (tgt := 52) rfl (pc' := 24) rfl (fun c3 => ?_) (fun c3 => ?_)
    · rw [if_pos c3] at hT
      refine kj_iconst dX3_isWord_52 (pc' := 53) rfl kc_1 ?_
      have hR := Option.some.inj hT
      subst hR
      exact kj_zret rfl (Or.inr rfl) dX3_isWord_53 (by subst hQ; exact ⟨rfl, rfl, (Or.inr rfl)⟩)
    · rw [if_neg c3] at hT
      refine kj_aload_n dX3_isWord_24 (pc' := 25) rfl rfl rfl ?_
      refine kj_getR f_RX3_9 rfl (Nat.lt_of_lt_of_le (Nat.le_of_ble_eq_true rfl : 89 < 120) hE.1) (hE.2 _ _) (q := 87) rfl dX3_isWord_25 (pc' := 28) rfl ?_
      refine kj_iload_n dX3_isWord_28 (pc' := 29) rfl rfl rfl ?_
      refine kj_iload dX3_isWord_29 (pc' := 31) rfl rfl ?_
      refine kj_iadd dX3_isWord_31 (pc' := 32) rfl ?_
      obtain ⟨t4, ht4, hT⟩ := bind_some' hT
      refine kcVi (as := [.inl (x1 + x4)]) (st := []) l_RX3_85 (m_X4_at hE rfl σ (x1 + x4) ht4) rfl (Nat.lt_of_lt_of_le (Nat.le_of_ble_eq_true rfl : 87 < 120) hE.1) rfl ⟨⟨rfl, rfl⟩, Nat.le_of_ble_eq_true rfl, Nat.le_of_ble_eq_true rfl⟩ (Nat.le_of_ble_eq_true rfl) dX3_isWord_32 (pc' := 35) rfl ?_
      refine kj_aload_n dX3_isWord_35 (pc' := 36) rfl rfl rfl ?_
      refine kj_iload dX3_isWord_36 (pc' := 38) rfl rfl ?_
      obtain ⟨hi5, hT⟩ := ckA_some hT
      refine kcT (as := [.inl x4]) (st := [.inl t4]) hX hw3 lt_RX3_111 (m_J0_charAt_5068e hX hw3 σ x4 hi5) rfl ⟨⟨rfl, rfl⟩, Nat.le_of_ble_eq_true rfl, Nat.le_of_ble_eq_true rfl⟩ (Nat.le_of_ble_eq_true rfl) dX3_isWord_38 (pc' := 41) rfl ?_
      refine kj_icmp_eq dX3_isWord_41 (tgt := 46) rfl (pc' := 44) rfl (fun c6 => ?_) (fun c6 => ?_)
      · rw [if_pos c6] at hT
        refine kj_iinc dX3_isWord_46 (pc' := 49) rfl rfl (congrArg (_ + ·) kc_1) (Nat.le_of_ble_eq_true rfl) (ls' := [some (.inr 89), some (.inl x1), none, some (.inr (1000 + w3)), some (.inl (x4 + 1))]) rfl ?_
        refine kj_goto dX3_isWord_49 (pc' := 15) rfl ?_
        exact ih15 (x4 + 1) hT
      · rw [if_neg c6] at hT
        refine kj_iconst dX3_isWord_44 (pc' := 45) rfl kc_0 ?_
        have hR := Option.some.inj hT
        subst hR
        exact kj_zret rfl (Or.inl rfl) dX3_isWord_45 (by subst hQ; exact ⟨rfl, rfl, (Or.inl rfl)⟩)
  · rw [if_neg c1] at hT
    refine kj_iconst dX3_isWord_10 (pc' := 11) rfl kc_0 ?_
    have hR := Option.some.inj hT
    subst hR
    exact kj_zret rfl (Or.inl rfl) dX3_isWord_11 (by subst hQ; exact ⟨rfl, rfl, (Or.inl rfl)⟩)
def X3_isLetter (x0 : Int32) : Int32 :=
  (if x0 < 97 then 0 else (if 122 < x0 then 0 else 1))
set_option maxRecDepth 100000 in
set_option maxHeartbeats 4000000 in
theorem m_X3_isLetter {E : JE} (hE : kOk 120 E) (σ : Wd) (x0 : Int32) {res : Int32} (hT : X3_isLetter x0 = res) : kMt E yX3_isLetter mX3_isLetter rmX3_isLetter [.inl x0] σ (kQz res σ) := by
  refine kMt_of (by decide +kernel) rfl (Nat.le_of_ble_eq_true rfl) ?_
  generalize hQ : (kQz res σ) = Q
  show KJ E mX3_isLetter rmX3_isLetter 0 [some (.inl x0)] [] σ Q
  unfold X3_isLetter at hT
  refine kj_iload_n dX3_isLetter_0 (pc' := 1) rfl rfl rfl ?_
  refine kj_bipush dX3_isLetter_1 (pc' := 3) rfl kb_97 ?_
  refine kj_icmp_lt dX3_isLetter_3 (tgt := 16) rfl (pc' := 6) rfl (fun c1 => ?_) (fun c1 => ?_)
  · rw [if_pos c1] at hT
    refine kj_iconst dX3_isLetter_16 (pc' := 17) rfl kc_0 ?_
    subst hT
    exact kj_zret rfl (Or.inl rfl) dX3_isLetter_17 (by subst hQ; exact ⟨rfl, rfl, (Or.inl rfl)⟩)
  · rw [if_neg c1] at hT
    refine kj_iload_n dX3_isLetter_6 (pc' := 7) rfl rfl rfl ?_
    refine kj_bipush dX3_isLetter_7 (pc' := 9) rfl kb_122 ?_
    refine kj_icmp_gt dX3_isLetter_9 (tgt := 16) rfl (pc' := 12) rfl (fun c2 => ?_) (fun c2 => ?_)
    · rw [if_pos c2] at hT
      refine kj_iconst dX3_isLetter_16 (pc' := 17) rfl kc_0 ?_
      subst hT
      exact kj_zret rfl (Or.inl rfl) dX3_isLetter_17 (by subst hQ; exact ⟨rfl, rfl, (Or.inl rfl)⟩)
    · rw [if_neg c2] at hT
      refine kj_iconst dX3_isLetter_12 (pc' := 13) rfl kc_1 ?_
      refine kj_goto dX3_isLetter_13 (pc' := 17) rfl ?_
      subst hT
      exact kj_zret rfl (Or.inr rfl) dX3_isLetter_17 (by subst hQ; exact ⟨rfl, rfl, (Or.inr rfl)⟩)
def X3_lettersEnd_B2 (σ : Wd) (rec2 : Int32 → Option (Int32)) : Int32 → Option (Int32)
  | (x2) => (if (σ 87 1) ≤ x2 then some x2 else ((X4_at σ 87 x2).bind fun t3 => (if (X3_isLetter t3) = 0 then some x2 else rec2 (x2 + 1))))
def X3_lettersEnd (σ : Wd) (x1 : Int32) : Option (Int32) :=
  (lp (X3_lettersEnd_B2 σ) FU (x1))
set_option maxRecDepth 100000 in
set_option maxHeartbeats 4000000 in
theorem m_X3_lettersEnd {E : JE} (hE : kOk 120 E) (σ : Wd) (x1 : Int32) {res : Int32} (hT : X3_lettersEnd σ x1 = some res) : kMt E yX3_lettersEnd mX3_lettersEnd rmX3_lettersEnd [.inr 89, .inl x1] σ (kQi res σ) := by
  refine kMt_of (by decide +kernel) rfl (Nat.le_of_ble_eq_true rfl) ?_
  generalize hQ : (kQi res σ) = Q
  show KJ E mX3_lettersEnd rmX3_lettersEnd 0 [some (.inr 89), some (.inl x1)] [] σ Q
  unfold X3_lettersEnd at hT
  refine kj_iload_n dX3_lettersEnd_0 (pc' := 1) rfl rfl rfl ?_
  refine kj_istore_n dX3_lettersEnd_1 (pc' := 2) rfl rfl (Nat.le_of_ble_eq_true rfl) (ls' := [some (.inr 89), some (.inl x1), some (.inl x1)]) rfl ?_
  refine kj_keep [true, false, true] (ls' := [some (.inr 89), none, some (.inl x1)]) rfl ?_
  refine lp_ind (P := fun s => KJ E mX3_lettersEnd rmX3_lettersEnd 2 [some (.inr 89), none, some (.inl s)] [] σ Q) (fun rec2 s ih2 hT => ?_) FU (x1) hT
  obtain ⟨x2, hs⟩ : ∃ z, z = s := ⟨_, rfl⟩
  subst hs
  show KJ E mX3_lettersEnd rmX3_lettersEnd 2 [some (.inr 89), none, some (.inl x2)] [] σ Q
  rw [X3_lettersEnd_B2] at hT
  refine kj_iload_n dX3_lettersEnd_2 (pc' := 3) rfl rfl rfl ?_
  refine kj_aload_n dX3_lettersEnd_3 (pc' := 4) rfl rfl rfl ?_
  refine kj_getR f_RX3_9 rfl (Nat.lt_of_lt_of_le (Nat.le_of_ble_eq_true rfl : 89 < 120) hE.1) (hE.2 _ _) (q := 87) rfl dX3_lettersEnd_4 (pc' := 7) rfl ?_
  refine kj_getI f_RX3_34 rfl (Nat.lt_of_lt_of_le (Nat.le_of_ble_eq_true rfl : 87 < 120) hE.1) dX3_lettersEnd_7 (pc' := 10) rfl ?_
  refine kj_icmp_ge dX3_lettersEnd_10 (tgt := 33) rfl (pc' := 13) rfl (fun c2 => ?_) (fun c2 => ?_)
  · rw [if_pos c2] at hT
    refine kj_iload_n dX3_lettersEnd_33 (pc' := 34) rfl rfl rfl ?_
    have hR := Option.some.inj hT
    subst hR
    exact kj_iret rfl dX3_lettersEnd_34 (by subst hQ; exact ⟨rfl, rfl⟩)
  · rw [if_neg c2] at hT
    refine kj_aload_n dX3_lettersEnd_13 (pc' := 14) rfl rfl rfl ?_
    refine kj_getR f_RX3_9 rfl (Nat.lt_of_lt_of_le (Nat.le_of_ble_eq_true rfl : 89 < 120) hE.1) (hE.2 _ _) (q := 87) rfl dX3_lettersEnd_14 (pc' := 17) rfl ?_
    refine kj_iload_n dX3_lettersEnd_17 (pc' := 18) rfl rfl rfl ?_
    obtain ⟨t3, ht3, hT⟩ := bind_some' hT
    refine kcVi (as := [.inl x2]) (st := []) l_RX3_85 (m_X4_at hE rfl σ x2 ht3) rfl (Nat.lt_of_lt_of_le (Nat.le_of_ble_eq_true rfl : 87 < 120) hE.1) rfl ⟨⟨rfl, rfl⟩, Nat.le_of_ble_eq_true rfl, Nat.le_of_ble_eq_true rfl⟩ (Nat.le_of_ble_eq_true rfl) dX3_lettersEnd_18 (pc' := 21) rfl ?_
    refine kcSz (as := [.inl t3]) (st := []) l_RX3_102 (m_X3_isLetter hE σ t3 rfl) rfl ⟨⟨rfl, rfl⟩, Nat.le_of_ble_eq_true rfl, Nat.le_of_ble_eq_true rfl⟩ (Nat.le_of_ble_eq_true rfl) dX3_lettersEnd_21 (pc' := 24) rfl (fun z4 => ?_)
    refine kj_if_eq dX3_lettersEnd_24 (tgt := 33) rfl (pc' := 27) rfl (fun c5 => ?_) (fun c5 => ?_)
    · rw [if_pos c5] at hT
      refine kj_iload_n dX3_lettersEnd_33 (pc' := 34) rfl rfl rfl ?_
      have hR := Option.some.inj hT
      subst hR
      exact kj_iret rfl dX3_lettersEnd_34 (by subst hQ; exact ⟨rfl, rfl⟩)
    · rw [if_neg c5] at hT
      refine kj_iinc dX3_lettersEnd_27 (pc' := 30) rfl rfl (congrArg (_ + ·) kc_1) (Nat.le_of_ble_eq_true rfl) (ls' := [some (.inr 89), none, some (.inl (x2 + 1))]) rfl ?_
      refine kj_goto dX3_lettersEnd_30 (pc' := 2) rfl ?_
      exact ih2 (x2 + 1) hT
def X3_expectGap (σ : Wd) : Option (Wd) :=
  ((X4_at σ 87 (σ 89 2)).bind fun t1 => (if (X3_isBlank t1) = 0 then ((X3_skipGap (X3_fail σ (σ 89 2))).bind fun σ5 => some σ5) else ((X3_skipGap σ).bind fun σ4 => some σ4)))
set_option maxRecDepth 100000 in
set_option maxHeartbeats 4000000 in
theorem m_X3_expectGap {E : JE} (hE : kOk 120 E) (σ : Wd) {res : Wd} (hT : X3_expectGap σ = some res) : kMt E yX3_expectGap mX3_expectGap rmX3_expectGap [.inr 89] σ (kQv res) := by
  refine kMt_of (by decide +kernel) rfl (Nat.le_of_ble_eq_true rfl) ?_
  generalize hQ : (kQv res) = Q
  show KJ E mX3_expectGap rmX3_expectGap 0 [some (.inr 89)] [] σ Q
  unfold X3_expectGap at hT
  refine kj_aload_n dX3_expectGap_0 (pc' := 1) rfl rfl rfl ?_
  refine kj_getR f_RX3_9 rfl (Nat.lt_of_lt_of_le (Nat.le_of_ble_eq_true rfl : 89 < 120) hE.1) (hE.2 _ _) (q := 87) rfl dX3_expectGap_1 (pc' := 4) rfl ?_
  refine kj_aload_n dX3_expectGap_4 (pc' := 5) rfl rfl rfl ?_
  refine kj_getI f_RX3_19 rfl (Nat.lt_of_lt_of_le (Nat.le_of_ble_eq_true rfl : 89 < 120) hE.1) dX3_expectGap_5 (pc' := 8) rfl ?_
  obtain ⟨t1, ht1, hT⟩ := bind_some' hT
  refine kcVi (as := [.inl (σ 89 2)]) (st := []) l_RX3_85 (m_X4_at hE rfl σ (σ 89 2) ht1) rfl (Nat.lt_of_lt_of_le (Nat.le_of_ble_eq_true rfl : 87 < 120) hE.1) rfl ⟨⟨rfl, rfl⟩, Nat.le_of_ble_eq_true rfl, Nat.le_of_ble_eq_true rfl⟩ (Nat.le_of_ble_eq_true rfl) dX3_expectGap_8 (pc' := 11) rfl ?_
  refine kcSz (as := [.inl t1]) (st := []) l_RX3_98 (m_X3_isBlank hE σ t1 rfl) rfl ⟨⟨rfl, rfl⟩, Nat.le_of_ble_eq_true rfl, Nat.le_of_ble_eq_true rfl⟩ (Nat.le_of_ble_eq_true rfl) dX3_expectGap_11 (pc' := 14) rfl (fun z2 => ?_)
  refine kj_if_ne dX3_expectGap_14 (tgt := 25) rfl (pc' := 17) rfl (fun c3 => ?_) (fun c3 => ?_)
  · rw [if_neg c3] at hT
    refine kj_aload_n dX3_expectGap_25 (pc' := 26) rfl rfl rfl ?_
    obtain ⟨σ4, hσ4, hT⟩ := bind_some' hT
    refine kcVv (as := []) (st := []) l_RX3_31 (m_X3_skipGap hE σ hσ4) rfl (Nat.lt_of_lt_of_le (Nat.le_of_ble_eq_true rfl : 89 < 120) hE.1) rfl ⟨⟨rfl, rfl⟩, Nat.le_of_ble_eq_true rfl, Nat.le_of_ble_eq_true rfl⟩ (Nat.le_of_ble_eq_true rfl) dX3_expectGap_26 (pc' := 29) rfl ?_
    have hR := Option.some.inj hT
    subst hR
    exact kj_vret rfl dX3_expectGap_29 (by subst hQ; exact ⟨rfl, rfl⟩)
  · rw [if_pos c3] at hT
    refine kj_aload_n dX3_expectGap_17 (pc' := 18) rfl rfl rfl ?_
    refine kj_aload_n dX3_expectGap_18 (pc' := 19) rfl rfl rfl ?_
    refine kj_getI f_RX3_19 rfl (Nat.lt_of_lt_of_le (Nat.le_of_ble_eq_true rfl : 89 < 120) hE.1) dX3_expectGap_19 (pc' := 22) rfl ?_
    refine kcVv (as := [.inl (σ 89 2)]) (st := []) l_RX3_69 (m_X3_fail hE σ (σ 89 2) rfl) rfl (Nat.lt_of_lt_of_le (Nat.le_of_ble_eq_true rfl : 89 < 120) hE.1) rfl ⟨⟨rfl, rfl⟩, Nat.le_of_ble_eq_true rfl, Nat.le_of_ble_eq_true rfl⟩ (Nat.le_of_ble_eq_true rfl) dX3_expectGap_22 (pc' := 25) rfl ?_
    refine kj_aload_n dX3_expectGap_25 (pc' := 26) rfl rfl rfl ?_
    obtain ⟨σ5, hσ5, hT⟩ := bind_some' hT
    refine kcVv (as := []) (st := []) l_RX3_31 (m_X3_skipGap hE (X3_fail σ (σ 89 2)) hσ5) rfl (Nat.lt_of_lt_of_le (Nat.le_of_ble_eq_true rfl : 89 < 120) hE.1) rfl ⟨⟨rfl, rfl⟩, Nat.le_of_ble_eq_true rfl, Nat.le_of_ble_eq_true rfl⟩ (Nat.le_of_ble_eq_true rfl) dX3_expectGap_26 (pc' := 29) rfl ?_
    have hR := Option.some.inj hT
    subst hR
    exact kj_vret rfl dX3_expectGap_29 (by subst hQ; exact ⟨rfl, rfl⟩)
def X3_readDigit (σ : Wd) (x1 : Int32) (x2 : Int32) : Option (Int32 × Wd) :=
  ((X4_at σ 87 (σ 89 2)).bind fun t1 => (if (t1 - 48) < x1 then some (x1, X3_fail σ (σ 89 2)) else (if (t1 - 48) ≤ x2 then some (t1 - 48, up σ 89 2 ((σ 89 2) + 1)) else some (x1, X3_fail σ (σ 89 2)))))
set_option maxRecDepth 100000 in
set_option maxHeartbeats 4000000 in
theorem m_X3_readDigit {E : JE} (hE : kOk 120 E) (σ : Wd) (x1 : Int32) (x2 : Int32) {res : Int32 × Wd} (hT : X3_readDigit σ x1 x2 = some res) : kMt E yX3_readDigit mX3_readDigit rmX3_readDigit [.inr 89, .inl x1, .inl x2] σ (kQi res.1 res.2) := by
  refine kMt_of (by decide +kernel) rfl (Nat.le_of_ble_eq_true rfl) ?_
  generalize hQ : (kQi res.1 res.2) = Q
  show KJ E mX3_readDigit rmX3_readDigit 0 [some (.inr 89), some (.inl x1), some (.inl x2)] [] σ Q
  unfold X3_readDigit at hT
  refine kj_aload_n dX3_readDigit_0 (pc' := 1) rfl rfl rfl ?_
  refine kj_getR f_RX3_9 rfl (Nat.lt_of_lt_of_le (Nat.le_of_ble_eq_true rfl : 89 < 120) hE.1) (hE.2 _ _) (q := 87) rfl dX3_readDigit_1 (pc' := 4) rfl ?_
  refine kj_aload_n dX3_readDigit_4 (pc' := 5) rfl rfl rfl ?_
  refine kj_getI f_RX3_19 rfl (Nat.lt_of_lt_of_le (Nat.le_of_ble_eq_true rfl : 89 < 120) hE.1) dX3_readDigit_5 (pc' := 8) rfl ?_
  obtain ⟨t1, ht1, hT⟩ := bind_some' hT
  refine kcVi (as := [.inl (σ 89 2)]) (st := []) l_RX3_85 (m_X4_at hE rfl σ (σ 89 2) ht1) rfl (Nat.lt_of_lt_of_le (Nat.le_of_ble_eq_true rfl : 87 < 120) hE.1) rfl ⟨⟨rfl, rfl⟩, Nat.le_of_ble_eq_true rfl, Nat.le_of_ble_eq_true rfl⟩ (Nat.le_of_ble_eq_true rfl) dX3_readDigit_8 (pc' := 11) rfl ?_
  refine kj_bipush dX3_readDigit_11 (pc' := 13) rfl kb_48 ?_
  refine kj_isub dX3_readDigit_13 (pc' := 14) rfl ?_
  refine kj_istore_n dX3_readDigit_14 (pc' := 15) rfl rfl (Nat.le_of_ble_eq_true rfl) (ls' := [some (.inr 89), some (.inl x1), some (.inl x2), some (.inl (t1 - 48))]) rfl ?_
  refine kj_iload_n dX3_readDigit_15 (pc' := 16) rfl rfl rfl ?_
  refine kj_iload_n dX3_readDigit_16 (pc' := 17) rfl rfl rfl ?_
  refine kj_icmp_lt dX3_readDigit_17 (tgt := 25) rfl (pc' := 20) rfl (fun c2 => ?_) (fun c2 => ?_)
  · rw [if_pos c2] at hT
    refine kj_aload_n dX3_readDigit_25 (pc' := 26) rfl rfl rfl ?_
    refine kj_aload_n dX3_readDigit_26 (pc' := 27) rfl rfl rfl ?_
    refine kj_getI f_RX3_19 rfl (Nat.lt_of_lt_of_le (Nat.le_of_ble_eq_true rfl : 89 < 120) hE.1) dX3_readDigit_27 (pc' := 30) rfl ?_
    refine kcVv (as := [.inl (σ 89 2)]) (st := []) l_RX3_69 (m_X3_fail hE σ (σ 89 2) rfl) rfl (Nat.lt_of_lt_of_le (Nat.le_of_ble_eq_true rfl : 89 < 120) hE.1) rfl ⟨⟨rfl, rfl⟩, Nat.le_of_ble_eq_true rfl, Nat.le_of_ble_eq_true rfl⟩ (Nat.le_of_ble_eq_true rfl) dX3_readDigit_30 (pc' := 33) rfl ?_
    refine kj_iload_n dX3_readDigit_33 (pc' := 34) rfl rfl rfl ?_
    have hR := Option.some.inj hT
    subst hR
    exact kj_iret rfl dX3_readDigit_34 (by subst hQ; exact ⟨rfl, rfl⟩)
  · rw [if_neg c2] at hT
    refine kj_iload_n dX3_readDigit_20 (pc' := 21) rfl rfl rfl ?_
    refine kj_iload_n dX3_readDigit_21 (pc' := 22) rfl rfl rfl ?_
    refine kj_icmp_le dX3_readDigit_22 (tgt := 35) rfl (pc' := 25) rfl (fun c3 => ?_) (fun c3 => ?_)
    · rw [if_pos c3] at hT
      refine kj_aload_n dX3_readDigit_35 (pc' := 36) rfl rfl rfl ?_
      refine kj_dup dX3_readDigit_36 (pc' := 37) rfl ?_
      refine kj_getI f_RX3_19 rfl (Nat.lt_of_lt_of_le (Nat.le_of_ble_eq_true rfl : 89 < 120) hE.1) dX3_readDigit_37 (pc' := 40) rfl ?_
      refine kj_iconst dX3_readDigit_40 (pc' := 41) rfl kc_1 ?_
      refine kj_iadd dX3_readDigit_41 (pc' := 42) rfl ?_
      refine kj_putI p_RX3_19 rfl rfl rfl (Nat.lt_of_lt_of_le (Nat.le_of_ble_eq_true rfl : 89 < 120) hE.1) dX3_readDigit_42 (pc' := 45) rfl ?_
      refine kj_iload_n dX3_readDigit_45 (pc' := 46) rfl rfl rfl ?_
      have hR := Option.some.inj hT
      subst hR
      exact kj_iret rfl dX3_readDigit_46 (by subst hQ; exact ⟨rfl, rfl⟩)
    · rw [if_neg c3] at hT
      refine kj_aload_n dX3_readDigit_25 (pc' := 26) rfl rfl rfl ?_
      refine kj_aload_n dX3_readDigit_26 (pc' := 27) rfl rfl rfl ?_
      refine kj_getI f_RX3_19 rfl (Nat.lt_of_lt_of_le (Nat.le_of_ble_eq_true rfl : 89 < 120) hE.1) dX3_readDigit_27 (pc' := 30) rfl ?_
      refine kcVv (as := [.inl (σ 89 2)]) (st := []) l_RX3_69 (m_X3_fail hE σ (σ 89 2) rfl) rfl (Nat.lt_of_lt_of_le (Nat.le_of_ble_eq_true rfl : 89 < 120) hE.1) rfl ⟨⟨rfl, rfl⟩, Nat.le_of_ble_eq_true rfl, Nat.le_of_ble_eq_true rfl⟩ (Nat.le_of_ble_eq_true rfl) dX3_readDigit_30 (pc' := 33) rfl ?_
      refine kj_iload_n dX3_readDigit_33 (pc' := 34) rfl rfl rfl ?_
      have hR := Option.some.inj hT
      subst hR
      exact kj_iret rfl dX3_readDigit_34 (by subst hQ; exact ⟨rfl, rfl⟩)
def X3_readPoints (σ : Wd) : Option (Wd) :=
  ((X3_expectGap σ).bind fun σ1 => ((X3_readDigit σ1 1 7).bind fun (t2, σ3) => some (up σ3 7 3 t2)))
set_option maxRecDepth 100000 in
set_option maxHeartbeats 4000000 in
theorem m_X3_readPoints {E : JE} (hE : kOk 120 E) (σ : Wd) {res : Wd} (hT : X3_readPoints σ = some res) : kMt E yX3_readPoints mX3_readPoints rmX3_readPoints [.inr 89] σ (kQv res) := by
  refine kMt_of (by decide +kernel) rfl (Nat.le_of_ble_eq_true rfl) ?_
  generalize hQ : (kQv res) = Q
  show KJ E mX3_readPoints rmX3_readPoints 0 [some (.inr 89)] [] σ Q
  unfold X3_readPoints at hT
  refine kj_aload_n dX3_readPoints_0 (pc' := 1) rfl rfl rfl ?_
  obtain ⟨σ1, hσ1, hT⟩ := bind_some' hT
  refine kcVv (as := []) (st := []) l_RX3_76 (m_X3_expectGap hE σ hσ1) rfl (Nat.lt_of_lt_of_le (Nat.le_of_ble_eq_true rfl : 89 < 120) hE.1) rfl ⟨⟨rfl, rfl⟩, Nat.le_of_ble_eq_true rfl, Nat.le_of_ble_eq_true rfl⟩ (Nat.le_of_ble_eq_true rfl) dX3_readPoints_1 (pc' := 4) rfl ?_
  refine kj_aload_n dX3_readPoints_4 (pc' := 5) rfl rfl rfl ?_
  refine kj_getR f_RX3_15 rfl (Nat.lt_of_lt_of_le (Nat.le_of_ble_eq_true rfl : 89 < 120) hE.1) (hE.2 _ _) (q := 7) rfl dX3_readPoints_5 (pc' := 8) rfl ?_
  refine kj_aload_n dX3_readPoints_8 (pc' := 9) rfl rfl rfl ?_
  refine kj_iconst dX3_readPoints_9 (pc' := 10) rfl kc_1 ?_
  refine kj_bipush dX3_readPoints_10 (pc' := 12) rfl kb_7 ?_
  obtain ⟨t2, ht2, hT⟩ := bind_some' hT
  obtain ⟨t2, σ3⟩ := t2
  dsimp only at hT
  refine kcVi (as := [.inl 1, .inl 7]) (st := [.inr 7]) l_RX3_79 (m_X3_readDigit hE σ1 1 7 ht2) rfl (Nat.lt_of_lt_of_le (Nat.le_of_ble_eq_true rfl : 89 < 120) hE.1) rfl ⟨⟨rfl, rfl⟩, Nat.le_of_ble_eq_true rfl, Nat.le_of_ble_eq_true rfl⟩ (Nat.le_of_ble_eq_true rfl) dX3_readPoints_12 (pc' := 15) rfl ?_
  refine kj_putI p_RX3_83 rfl rfl rfl (Nat.lt_of_lt_of_le (Nat.le_of_ble_eq_true rfl : 7 < 120) hE.1) dX3_readPoints_15 (pc' := 18) rfl ?_
  have hR := Option.some.inj hT
  subst hR
  exact kj_vret rfl dX3_readPoints_18 (by subst hQ; exact ⟨rfl, rfl⟩)
def X3_readSet_J107 (y2 : Int32) (y3 : Int32) (ς : Wd) : Option (Wd) :=
  ((X4_append (up ς 89 2 y2) 8 y3).bind fun σ5 => some σ5)
def X3_readSet_J102 (y1 : Int32) (y2 : Int32) (y3 : Int32) (ς : Wd) : Option (Wd) :=
  X3_readSet_J107 y2 y3 (X3_fail ς y1)
def X3_readSet_T83 (t3 : Int32) (t2 : Int32) (x3 : Int32) (σ : Wd) : Option (Wd) :=
  (if x3 = 0 then X3_readSet_J102 t3 t2 x3 σ else ((X4_find σ 8 x3).bind fun t6 => (if t6 = (-1) then X3_readSet_J107 t2 x3 σ else X3_readSet_J102 t3 t2 x3 σ)))
def X3_readSet_J77 (rec20 : Int32 × Int32 × Wd → Option (Wd)) (y3 : Int32) (y4 : Int32) (ς : Wd) : Option (Wd) :=
  rec20 (y3, y4 + 1, ς)
def X3_readSet_J62 (rec20 : Int32 × Int32 × Wd → Option (Wd)) (t3 : Int32) (y3 : Int32) (y4 : Int32) (ς : Wd) : Option (Wd) :=
  X3_readSet_J77 rec20 y3 y4 (X3_fail ς t3)
def X3_readSet_B20 (t2 : Int32) (t3 : Int32) (kx20 : Int32 → Wd → Option (Wd)) (rec20 : Int32 × Int32 × Wd → Option (Wd)) : Int32 × Int32 × Wd → Option (Wd)
  | (x3, x4, σ) => (if t2 ≤ x4 then kx20 x3 σ else ((X4_at σ 87 x4).bind fun t9 => (if (σ 7 3) ≤ (t9 - 97) then X3_readSet_J62 rec20 t3 x3 x4 σ else (if ((x3 >>> ((t9 - 97) &&& 31)) &&& 1) = 1 then X3_readSet_J62 rec20 t3 x3 x4 σ else (lett (x3 ||| (1 <<< ((t9 - 97) &&& 31))) fun t12 => X3_readSet_J77 rec20 t12 x4 σ)))))
def X3_readSet (σ : Wd) : Option (Wd) :=
  ((X3_expectGap σ).bind fun σ1 => ((X3_lettersEnd σ1 (σ1 89 2)).bind fun t2 => (lett (σ1 89 2) fun t3 => (lp (X3_readSet_B20 t2 t3 (X3_readSet_T83 t3 t2)) FU (0, t3, σ1)))))
set_option maxRecDepth 100000 in
set_option maxHeartbeats 4000000 in
theorem m_X3_readSet {E : JE} (hE : kOk 120 E) (σ : Wd) {res : Wd} (hT : X3_readSet σ = some res) : kMt E yX3_readSet mX3_readSet rmX3_readSet [.inr 89] σ (kQv res) := by
  refine kMt_of (by decide +kernel) rfl (Nat.le_of_ble_eq_true rfl) ?_
  generalize hQ : (kQv res) = Q
  show KJ E mX3_readSet rmX3_readSet 0 [some (.inr 89)] [] σ Q
  unfold X3_readSet at hT
  have hJ107 : ∀ y2 y3 ς, X3_readSet_J107 y2 y3 ς = some res → KJ E mX3_readSet rmX3_readSet 107 [some (.inr 89), none, some (.inl y2), some (.inl y3)] [] ς Q := by
    intro y2 y3 ς hT
    unfold X3_readSet_J107 at hT
    refine kj_aload_n dX3_readSet_107 (pc' := 108) rfl rfl rfl ?_
    refine kj_iload_n dX3_readSet_108 (pc' := 109) rfl rfl rfl ?_
    refine kj_putI p_RX3_19 rfl rfl rfl (Nat.lt_of_lt_of_le (Nat.le_of_ble_eq_true rfl : 89 < 120) hE.1) dX3_readSet_109 (pc' := 112) rfl ?_
    refine kj_aload_n dX3_readSet_112 (pc' := 113) rfl rfl rfl ?_
    refine kj_getR f_RX3_15 rfl (Nat.lt_of_lt_of_le (Nat.le_of_ble_eq_true rfl : 89 < 120) hE.1) (hE.2 _ _) (q := 7) rfl dX3_readSet_113 (pc' := 116) rfl ?_
    refine kj_getR f_RX3_63 rfl (Nat.lt_of_lt_of_le (Nat.le_of_ble_eq_true rfl : 7 < 120) hE.1) (hE.2 _ _) (q := 8) rfl dX3_readSet_116 (pc' := 119) rfl ?_
    refine kj_iload_n dX3_readSet_119 (pc' := 120) rfl rfl rfl ?_
    obtain ⟨σ5, hσ5, hT⟩ := bind_some' hT
    refine kcVv (as := [.inl y3]) (st := []) l_RX3_95 (m_X4_append hE rfl (up ς 89 2 y2) y3 hσ5) rfl (Nat.lt_of_lt_of_le (Nat.le_of_ble_eq_true rfl : 8 < 120) hE.1) rfl ⟨⟨rfl, rfl⟩, Nat.le_of_ble_eq_true rfl, Nat.le_of_ble_eq_true rfl⟩ (Nat.le_of_ble_eq_true rfl) dX3_readSet_120 (pc' := 123) rfl ?_
    have hR := Option.some.inj hT
    subst hR
    exact kj_vret rfl dX3_readSet_123 (by subst hQ; exact ⟨rfl, rfl⟩)
  have hJ102 : ∀ y1 y2 y3 ς, X3_readSet_J102 y1 y2 y3 ς = some res → KJ E mX3_readSet rmX3_readSet 102 [some (.inr 89), some (.inl y1), some (.inl y2), some (.inl y3)] [] ς Q := by
    intro y1 y2 y3 ς hT
    unfold X3_readSet_J102 at hT
    refine kj_aload_n dX3_readSet_102 (pc' := 103) rfl rfl rfl ?_
    refine kj_iload_n dX3_readSet_103 (pc' := 104) rfl rfl rfl ?_
    refine kcVv (as := [.inl y1]) (st := []) l_RX3_69 (m_X3_fail hE ς y1 rfl) rfl (Nat.lt_of_lt_of_le (Nat.le_of_ble_eq_true rfl : 89 < 120) hE.1) rfl ⟨⟨rfl, rfl⟩, Nat.le_of_ble_eq_true rfl, Nat.le_of_ble_eq_true rfl⟩ (Nat.le_of_ble_eq_true rfl) dX3_readSet_104 (pc' := 107) rfl ?_
    refine kj_keep [true, false, true, true] (ls' := [some (.inr 89), none, some (.inl y2), some (.inl y3)]) rfl ?_
    exact hJ107 y2 y3 (X3_fail ς y1) hT
  refine kj_aload_n dX3_readSet_0 (pc' := 1) rfl rfl rfl ?_
  obtain ⟨σ1, hσ1, hT⟩ := bind_some' hT
  refine kcVv (as := []) (st := []) l_RX3_76 (m_X3_expectGap hE σ hσ1) rfl (Nat.lt_of_lt_of_le (Nat.le_of_ble_eq_true rfl : 89 < 120) hE.1) rfl ⟨⟨rfl, rfl⟩, Nat.le_of_ble_eq_true rfl, Nat.le_of_ble_eq_true rfl⟩ (Nat.le_of_ble_eq_true rfl) dX3_readSet_1 (pc' := 4) rfl ?_
  refine kj_aload_n dX3_readSet_4 (pc' := 5) rfl rfl rfl ?_
  refine kj_getI f_RX3_19 rfl (Nat.lt_of_lt_of_le (Nat.le_of_ble_eq_true rfl : 89 < 120) hE.1) dX3_readSet_5 (pc' := 8) rfl ?_
  refine kj_istore_n dX3_readSet_8 (pc' := 9) rfl rfl (Nat.le_of_ble_eq_true rfl) (ls' := [some (.inr 89), some (.inl (σ1 89 2))]) rfl ?_
  refine kj_aload_n dX3_readSet_9 (pc' := 10) rfl rfl rfl ?_
  refine kj_iload_n dX3_readSet_10 (pc' := 11) rfl rfl rfl ?_
  obtain ⟨t2, ht2, hT⟩ := bind_some' hT
  refine kcVi (as := [.inl (σ1 89 2)]) (st := []) l_RX3_43 (m_X3_lettersEnd hE σ1 (σ1 89 2) ht2) rfl (Nat.lt_of_lt_of_le (Nat.le_of_ble_eq_true rfl : 89 < 120) hE.1) rfl ⟨⟨rfl, rfl⟩, Nat.le_of_ble_eq_true rfl, Nat.le_of_ble_eq_true rfl⟩ (Nat.le_of_ble_eq_true rfl) dX3_readSet_11 (pc' := 14) rfl ?_
  refine kj_istore_n dX3_readSet_14 (pc' := 15) rfl rfl (Nat.le_of_ble_eq_true rfl) (ls' := [some (.inr 89), some (.inl (σ1 89 2)), some (.inl t2)]) rfl ?_
  refine kj_iconst dX3_readSet_15 (pc' := 16) rfl kc_0 ?_
  refine kj_istore_n dX3_readSet_16 (pc' := 17) rfl rfl (Nat.le_of_ble_eq_true rfl) (ls' := [some (.inr 89), some (.inl (σ1 89 2)), some (.inl t2), some (.inl 0)]) rfl ?_
  refine kj_iload_n dX3_readSet_17 (pc' := 18) rfl rfl rfl ?_
  refine kj_istore dX3_readSet_18 (pc' := 20) rfl (Nat.le_of_ble_eq_true rfl) (ls' := [some (.inr 89), some (.inl (σ1 89 2)), some (.inl t2), some (.inl 0), some (.inl (σ1 89 2))]) rfl ?_
  obtain ⟨t3, et3, hT⟩ := lett_i hT
  rw [← et3]
  have hX20 : ∀ x3 σ, X3_readSet_T83 t3 t2 x3 σ = some res → KJ E mX3_readSet rmX3_readSet 83 [some (.inr 89), some (.inl t3), some (.inl t2), some (.inl x3)] [] σ Q := by
    intro x3 σ hT
    unfold X3_readSet_T83 at hT
    refine kj_iload_n dX3_readSet_83 (pc' := 84) rfl rfl rfl ?_
    refine kj_if_eq dX3_readSet_84 (tgt := 102) rfl (pc' := 87) rfl (fun c4 => ?_) (fun c4 => ?_)
    · rw [if_pos c4] at hT
      exact hJ102 t3 t2 x3 σ hT
    · rw [if_neg c4] at hT
      refine kj_aload_n dX3_readSet_87 (pc' := 88) rfl rfl rfl ?_
      refine kj_getR f_RX3_15 rfl (Nat.lt_of_lt_of_le (Nat.le_of_ble_eq_true rfl : 89 < 120) hE.1) (hE.2 _ _) (q := 7) rfl dX3_readSet_88 (pc' := 91) rfl ?_
      refine kj_getR f_RX3_63 rfl (Nat.lt_of_lt_of_le (Nat.le_of_ble_eq_true rfl : 7 < 120) hE.1) (hE.2 _ _) (q := 8) rfl dX3_readSet_91 (pc' := 94) rfl ?_
      refine kj_iload_n dX3_readSet_94 (pc' := 95) rfl rfl rfl ?_
      obtain ⟨t6, ht6, hT⟩ := bind_some' hT
      refine kcVi (as := [.inl x3]) (st := []) l_RX3_92 (m_X4_find hE rfl σ x3 ht6) rfl (Nat.lt_of_lt_of_le (Nat.le_of_ble_eq_true rfl : 8 < 120) hE.1) rfl ⟨⟨rfl, rfl⟩, Nat.le_of_ble_eq_true rfl, Nat.le_of_ble_eq_true rfl⟩ (Nat.le_of_ble_eq_true rfl) dX3_readSet_95 (pc' := 98) rfl ?_
      refine kj_iconst dX3_readSet_98 (pc' := 99) rfl kc_m1 ?_
      refine kj_icmp_eq dX3_readSet_99 (tgt := 107) rfl (pc' := 102) rfl (fun c7 => ?_) (fun c7 => ?_)
      · rw [if_pos c7] at hT
        refine kj_keep [true, false, true, true] (ls' := [some (.inr 89), none, some (.inl t2), some (.inl x3)]) rfl ?_
        exact hJ107 t2 x3 σ hT
      · rw [if_neg c7] at hT
        exact hJ102 t3 t2 x3 σ hT
  refine lp_ind (P := fun s => KJ E mX3_readSet rmX3_readSet 20 [some (.inr 89), some (.inl t3), some (.inl t2), some (.inl s.1), some (.inl s.2.1)] [] s.2.2 Q) (fun rec20 s ih20 hT => ?_) FU (0, t3, σ1) hT
  obtain ⟨x3, x4, σ⟩ := s
  show KJ E mX3_readSet rmX3_readSet 20 [some (.inr 89), some (.inl t3), some (.inl t2), some (.inl x3), some (.inl x4)] [] σ Q
  rw [X3_readSet_B20] at hT
  have hJ77_20 : ∀ y3 y4 ς, X3_readSet_J77 rec20 y3 y4 ς = some res → KJ E mX3_readSet rmX3_readSet 77 [some (.inr 89), some (.inl t3), some (.inl t2), some (.inl y3), some (.inl y4)] [] ς Q := by
    intro y3 y4 ς hT
    unfold X3_readSet_J77 at hT
    refine kj_iinc dX3_readSet_77 (pc' := 80) rfl rfl (congrArg (_ + ·) kc_1) (Nat.le_of_ble_eq_true rfl) (ls' := [some (.inr 89), some (.inl t3), some (.inl t2), some (.inl y3), some (.inl (y4 + 1))]) rfl ?_
    refine kj_goto dX3_readSet_80 (pc' := 20) rfl ?_
    exact ih20 (y3, y4 + 1, ς) hT
  have hJ62_20 : ∀ y3 y4 ς, X3_readSet_J62 rec20 t3 y3 y4 ς = some res → KJ E mX3_readSet rmX3_readSet 62 [some (.inr 89), some (.inl t3), some (.inl t2), some (.inl y3), some (.inl y4)] [] ς Q := by
    intro y3 y4 ς hT
    unfold X3_readSet_J62 at hT
    refine kj_aload_n dX3_readSet_62 (pc' := 63) rfl rfl rfl ?_
    refine kj_iload_n dX3_readSet_63 (pc' := 64) rfl rfl rfl ?_
    refine kcVv (as := [.inl t3]) (st := []) l_RX3_69 (m_X3_fail hE ς t3 rfl) rfl (Nat.lt_of_lt_of_le (Nat.le_of_ble_eq_true rfl : 89 < 120) hE.1) rfl ⟨⟨rfl, rfl⟩, Nat.le_of_ble_eq_true rfl, Nat.le_of_ble_eq_true rfl⟩ (Nat.le_of_ble_eq_true rfl) dX3_readSet_64 (pc' := 67) rfl ?_
    refine kj_goto dX3_readSet_67 (pc' := 77) rfl ?_
    exact hJ77_20 y3 y4 (X3_fail ς t3) hT
  refine kj_iload dX3_readSet_20 (pc' := 22) rfl rfl ?_
  refine kj_iload_n dX3_readSet_22 (pc' := 23) rfl rfl rfl ?_
  refine kj_icmp_ge dX3_readSet_23 (tgt := 83) rfl (pc' := 26) rfl (fun c8 => ?_) (fun c8 => ?_)
  · rw [if_pos c8] at hT
    refine kj_keep [true, true, true, true] (ls' := [some (.inr 89), some (.inl t3), some (.inl t2), some (.inl x3)]) rfl ?_
    exact hX20 x3 σ hT
  · rw [if_neg c8] at hT
    refine kj_aload_n dX3_readSet_26 (pc' := 27) rfl rfl rfl ?_
    refine kj_getR f_RX3_9 rfl (Nat.lt_of_lt_of_le (Nat.le_of_ble_eq_true rfl : 89 < 120) hE.1) (hE.2 _ _) (q := 87) rfl dX3_readSet_27 (pc' := 30) rfl ?_
    refine kj_iload dX3_readSet_30 (pc' := 32) rfl rfl ?_
    obtain ⟨t9, ht9, hT⟩ := bind_some' hT
    refine kcVi (as := [.inl x4]) (st := []) l_RX3_85 (m_X4_at hE rfl σ x4 ht9) rfl (Nat.lt_of_lt_of_le (Nat.le_of_ble_eq_true rfl : 87 < 120) hE.1) rfl ⟨⟨rfl, rfl⟩, Nat.le_of_ble_eq_true rfl, Nat.le_of_ble_eq_true rfl⟩ (Nat.le_of_ble_eq_true rfl) dX3_readSet_32 (pc' := 35) rfl ?_
    refine kj_bipush dX3_readSet_35 (pc' := 37) rfl kb_97 ?_
    refine kj_isub dX3_readSet_37 (pc' := 38) rfl ?_
    refine kj_istore dX3_readSet_38 (pc' := 40) rfl (Nat.le_of_ble_eq_true rfl) (ls' := [some (.inr 89), some (.inl t3), some (.inl t2), some (.inl x3), some (.inl x4), some (.inl (t9 - 97))]) rfl ?_
    refine kj_iload dX3_readSet_40 (pc' := 42) rfl rfl ?_
    refine kj_aload_n dX3_readSet_42 (pc' := 43) rfl rfl rfl ?_
    refine kj_getR f_RX3_15 rfl (Nat.lt_of_lt_of_le (Nat.le_of_ble_eq_true rfl : 89 < 120) hE.1) (hE.2 _ _) (q := 7) rfl dX3_readSet_43 (pc' := 46) rfl ?_
    refine kj_getI f_RX3_83 rfl (Nat.lt_of_lt_of_le (Nat.le_of_ble_eq_true rfl : 7 < 120) hE.1) dX3_readSet_46 (pc' := 49) rfl ?_
    refine kj_icmp_ge dX3_readSet_49 (tgt := 62) rfl (pc' := 52) rfl (fun c10 => ?_) (fun c10 => ?_)
    · rw [if_pos c10] at hT
      refine kj_keep [true, true, true, true, true] (ls' := [some (.inr 89), some (.inl t3), some (.inl t2), some (.inl x3), some (.inl x4)]) rfl ?_
      exact hJ62_20 x3 x4 σ hT
    · rw [if_neg c10] at hT
      refine kj_iload_n dX3_readSet_52 (pc' := 53) rfl rfl rfl ?_
      refine kj_iload dX3_readSet_53 (pc' := 55) rfl rfl ?_
      refine kj_ishr dX3_readSet_55 (pc' := 56) rfl ?_
      refine kj_iconst dX3_readSet_56 (pc' := 57) rfl kc_1 ?_
      refine kj_iand dX3_readSet_57 (pc' := 58) rfl ?_
      refine kj_iconst dX3_readSet_58 (pc' := 59) rfl kc_1 ?_
      refine kj_icmp_ne dX3_readSet_59 (tgt := 70) rfl (pc' := 62) rfl (fun c11 => ?_) (fun c11 => ?_)
      · rw [if_neg c11] at hT
        refine kj_iload_n dX3_readSet_70 (pc' := 71) rfl rfl rfl ?_
        refine kj_iconst dX3_readSet_71 (pc' := 72) rfl kc_1 ?_
        refine kj_iload dX3_readSet_72 (pc' := 74) rfl rfl ?_
        refine kj_ishl dX3_readSet_74 (pc' := 75) rfl ?_
        refine kj_ior dX3_readSet_75 (pc' := 76) rfl ?_
        obtain ⟨t12, et12, hT⟩ := lett_i hT
        rw [← et12]
        refine kj_istore_n dX3_readSet_76 (pc' := 77) rfl rfl (Nat.le_of_ble_eq_true rfl) (ls' := [some (.inr 89), some (.inl t3), some (.inl t2), some (.inl t12), some (.inl x4), some (.inl (t9 - 97))]) rfl ?_
        refine kj_keep [true, true, true, true, true] (ls' := [some (.inr 89), some (.inl t3), some (.inl t2), some (.inl t12), some (.inl x4)]) rfl ?_
        exact hJ77_20 t12 x4 σ hT
      · rw [if_pos c11] at hT
        refine kj_keep [true, true, true, true, true] (ls' := [some (.inr 89), some (.inl t3), some (.inl t2), some (.inl x3), some (.inl x4)]) rfl ?_
        exact hJ62_20 x3 x4 σ hT
def X3_readWeight_J50 (y2 : Int32) (y3 : Int32) (ς : Wd) : Option (Wd) :=
  ((X3_expectGap (up ς 89 2 y2)).bind fun σ5 => ((X3_readDigit σ5 0 9).bind fun (t6, σ7) => ((X7_setWeight σ7 7 y3 t6).bind fun σ8 => some σ8)))
def X3_readWeight_J45 (y1 : Int32) (y2 : Int32) (y3 : Int32) (ς : Wd) : Option (Wd) :=
  X3_readWeight_J50 y2 y3 (X3_fail ς y1)
def X3_readWeight (σ : Wd) : Option (Wd) :=
  ((X3_expectGap σ).bind fun σ1 => ((X3_lettersEnd σ1 (σ1 89 2)).bind fun t2 => ((X4_at σ1 87 (σ1 89 2)).bind fun t3 => (if t2 = ((σ1 89 2) + 1) then (if (t3 - 97) < (σ1 7 3) then X3_readWeight_J50 t2 (t3 - 97) σ1 else X3_readWeight_J45 (σ1 89 2) t2 (t3 - 97) σ1) else X3_readWeight_J45 (σ1 89 2) t2 (t3 - 97) σ1))))
set_option maxRecDepth 100000 in
set_option maxHeartbeats 4000000 in
theorem m_X3_readWeight {E : JE} (hE : kOk 120 E) (σ : Wd) {res : Wd} (hT : X3_readWeight σ = some res) : kMt E yX3_readWeight mX3_readWeight rmX3_readWeight [.inr 89] σ (kQv res) := by
  refine kMt_of (by decide +kernel) rfl (Nat.le_of_ble_eq_true rfl) ?_
  generalize hQ : (kQv res) = Q
  show KJ E mX3_readWeight rmX3_readWeight 0 [some (.inr 89)] [] σ Q
  unfold X3_readWeight at hT
  have hJ50 : ∀ y2 y3 ς, X3_readWeight_J50 y2 y3 ς = some res → KJ E mX3_readWeight rmX3_readWeight 50 [some (.inr 89), none, some (.inl y2), some (.inl y3)] [] ς Q := by
    intro y2 y3 ς hT
    unfold X3_readWeight_J50 at hT
    refine kj_aload_n dX3_readWeight_50 (pc' := 51) rfl rfl rfl ?_
    refine kj_iload_n dX3_readWeight_51 (pc' := 52) rfl rfl rfl ?_
    refine kj_putI p_RX3_19 rfl rfl rfl (Nat.lt_of_lt_of_le (Nat.le_of_ble_eq_true rfl : 89 < 120) hE.1) dX3_readWeight_52 (pc' := 55) rfl ?_
    refine kj_aload_n dX3_readWeight_55 (pc' := 56) rfl rfl rfl ?_
    obtain ⟨σ5, hσ5, hT⟩ := bind_some' hT
    refine kcVv (as := []) (st := []) l_RX3_76 (m_X3_expectGap hE (up ς 89 2 y2) hσ5) rfl (Nat.lt_of_lt_of_le (Nat.le_of_ble_eq_true rfl : 89 < 120) hE.1) rfl ⟨⟨rfl, rfl⟩, Nat.le_of_ble_eq_true rfl, Nat.le_of_ble_eq_true rfl⟩ (Nat.le_of_ble_eq_true rfl) dX3_readWeight_56 (pc' := 59) rfl ?_
    refine kj_aload_n dX3_readWeight_59 (pc' := 60) rfl rfl rfl ?_
    refine kj_getR f_RX3_15 rfl (Nat.lt_of_lt_of_le (Nat.le_of_ble_eq_true rfl : 89 < 120) hE.1) (hE.2 _ _) (q := 7) rfl dX3_readWeight_60 (pc' := 63) rfl ?_
    refine kj_iload_n dX3_readWeight_63 (pc' := 64) rfl rfl rfl ?_
    refine kj_aload_n dX3_readWeight_64 (pc' := 65) rfl rfl rfl ?_
    refine kj_iconst dX3_readWeight_65 (pc' := 66) rfl kc_0 ?_
    refine kj_bipush dX3_readWeight_66 (pc' := 68) rfl kb_9 ?_
    obtain ⟨t6, ht6, hT⟩ := bind_some' hT
    obtain ⟨t6, σ7⟩ := t6
    dsimp only at hT
    refine kcVi (as := [.inl 0, .inl 9]) (st := [.inl y3, .inr 7]) l_RX3_79 (m_X3_readDigit hE σ5 0 9 ht6) rfl (Nat.lt_of_lt_of_le (Nat.le_of_ble_eq_true rfl : 89 < 120) hE.1) rfl ⟨⟨rfl, rfl⟩, Nat.le_of_ble_eq_true rfl, Nat.le_of_ble_eq_true rfl⟩ (Nat.le_of_ble_eq_true rfl) dX3_readWeight_68 (pc' := 71) rfl ?_
    obtain ⟨σ8, hσ8, hT⟩ := bind_some' hT
    refine kcVv (as := [.inl y3, .inl t6]) (st := []) l_RX3_88 (m_X7_setWeight hE rfl σ7 y3 t6 hσ8) rfl (Nat.lt_of_lt_of_le (Nat.le_of_ble_eq_true rfl : 7 < 120) hE.1) rfl ⟨⟨rfl, rfl⟩, Nat.le_of_ble_eq_true rfl, Nat.le_of_ble_eq_true rfl⟩ (Nat.le_of_ble_eq_true rfl) dX3_readWeight_71 (pc' := 74) rfl ?_
    have hR := Option.some.inj hT
    subst hR
    exact kj_vret rfl dX3_readWeight_74 (by subst hQ; exact ⟨rfl, rfl⟩)
  have hJ45 : ∀ y1 y2 y3 ς, X3_readWeight_J45 y1 y2 y3 ς = some res → KJ E mX3_readWeight rmX3_readWeight 45 [some (.inr 89), some (.inl y1), some (.inl y2), some (.inl y3)] [] ς Q := by
    intro y1 y2 y3 ς hT
    unfold X3_readWeight_J45 at hT
    refine kj_aload_n dX3_readWeight_45 (pc' := 46) rfl rfl rfl ?_
    refine kj_iload_n dX3_readWeight_46 (pc' := 47) rfl rfl rfl ?_
    refine kcVv (as := [.inl y1]) (st := []) l_RX3_69 (m_X3_fail hE ς y1 rfl) rfl (Nat.lt_of_lt_of_le (Nat.le_of_ble_eq_true rfl : 89 < 120) hE.1) rfl ⟨⟨rfl, rfl⟩, Nat.le_of_ble_eq_true rfl, Nat.le_of_ble_eq_true rfl⟩ (Nat.le_of_ble_eq_true rfl) dX3_readWeight_47 (pc' := 50) rfl ?_
    refine kj_keep [true, false, true, true] (ls' := [some (.inr 89), none, some (.inl y2), some (.inl y3)]) rfl ?_
    exact hJ50 y2 y3 (X3_fail ς y1) hT
  refine kj_aload_n dX3_readWeight_0 (pc' := 1) rfl rfl rfl ?_
  obtain ⟨σ1, hσ1, hT⟩ := bind_some' hT
  refine kcVv (as := []) (st := []) l_RX3_76 (m_X3_expectGap hE σ hσ1) rfl (Nat.lt_of_lt_of_le (Nat.le_of_ble_eq_true rfl : 89 < 120) hE.1) rfl ⟨⟨rfl, rfl⟩, Nat.le_of_ble_eq_true rfl, Nat.le_of_ble_eq_true rfl⟩ (Nat.le_of_ble_eq_true rfl) dX3_readWeight_1 (pc' := 4) rfl ?_
  refine kj_aload_n dX3_readWeight_4 (pc' := 5) rfl rfl rfl ?_
  refine kj_getI f_RX3_19 rfl (Nat.lt_of_lt_of_le (Nat.le_of_ble_eq_true rfl : 89 < 120) hE.1) dX3_readWeight_5 (pc' := 8) rfl ?_
  refine kj_istore_n dX3_readWeight_8 (pc' := 9) rfl rfl (Nat.le_of_ble_eq_true rfl) (ls' := [some (.inr 89), some (.inl (σ1 89 2))]) rfl ?_
  refine kj_aload_n dX3_readWeight_9 (pc' := 10) rfl rfl rfl ?_
  refine kj_iload_n dX3_readWeight_10 (pc' := 11) rfl rfl rfl ?_
  obtain ⟨t2, ht2, hT⟩ := bind_some' hT
  refine kcVi (as := [.inl (σ1 89 2)]) (st := []) l_RX3_43 (m_X3_lettersEnd hE σ1 (σ1 89 2) ht2) rfl (Nat.lt_of_lt_of_le (Nat.le_of_ble_eq_true rfl : 89 < 120) hE.1) rfl ⟨⟨rfl, rfl⟩, Nat.le_of_ble_eq_true rfl, Nat.le_of_ble_eq_true rfl⟩ (Nat.le_of_ble_eq_true rfl) dX3_readWeight_11 (pc' := 14) rfl ?_
  refine kj_istore_n dX3_readWeight_14 (pc' := 15) rfl rfl (Nat.le_of_ble_eq_true rfl) (ls' := [some (.inr 89), some (.inl (σ1 89 2)), some (.inl t2)]) rfl ?_
  refine kj_aload_n dX3_readWeight_15 (pc' := 16) rfl rfl rfl ?_
  refine kj_getR f_RX3_9 rfl (Nat.lt_of_lt_of_le (Nat.le_of_ble_eq_true rfl : 89 < 120) hE.1) (hE.2 _ _) (q := 87) rfl dX3_readWeight_16 (pc' := 19) rfl ?_
  refine kj_iload_n dX3_readWeight_19 (pc' := 20) rfl rfl rfl ?_
  obtain ⟨t3, ht3, hT⟩ := bind_some' hT
  refine kcVi (as := [.inl (σ1 89 2)]) (st := []) l_RX3_85 (m_X4_at hE rfl σ1 (σ1 89 2) ht3) rfl (Nat.lt_of_lt_of_le (Nat.le_of_ble_eq_true rfl : 87 < 120) hE.1) rfl ⟨⟨rfl, rfl⟩, Nat.le_of_ble_eq_true rfl, Nat.le_of_ble_eq_true rfl⟩ (Nat.le_of_ble_eq_true rfl) dX3_readWeight_20 (pc' := 23) rfl ?_
  refine kj_bipush dX3_readWeight_23 (pc' := 25) rfl kb_97 ?_
  refine kj_isub dX3_readWeight_25 (pc' := 26) rfl ?_
  refine kj_istore_n dX3_readWeight_26 (pc' := 27) rfl rfl (Nat.le_of_ble_eq_true rfl) (ls' := [some (.inr 89), some (.inl (σ1 89 2)), some (.inl t2), some (.inl (t3 - 97))]) rfl ?_
  refine kj_iload_n dX3_readWeight_27 (pc' := 28) rfl rfl rfl ?_
  refine kj_iload_n dX3_readWeight_28 (pc' := 29) rfl rfl rfl ?_
  refine kj_iconst dX3_readWeight_29 (pc' := 30) rfl kc_1 ?_
  refine kj_iadd dX3_readWeight_30 (pc' := 31) rfl ?_
  refine kj_icmp_ne dX3_readWeight_31 (tgt := 45) rfl (pc' := 34) rfl (fun c4 => ?_) (fun c4 => ?_)
  · rw [if_neg c4] at hT
    exact hJ45 (σ1 89 2) t2 (t3 - 97) σ1 hT
  · rw [if_pos c4] at hT
    refine kj_iload_n dX3_readWeight_34 (pc' := 35) rfl rfl rfl ?_
    refine kj_aload_n dX3_readWeight_35 (pc' := 36) rfl rfl rfl ?_
    refine kj_getR f_RX3_15 rfl (Nat.lt_of_lt_of_le (Nat.le_of_ble_eq_true rfl : 89 < 120) hE.1) (hE.2 _ _) (q := 7) rfl dX3_readWeight_36 (pc' := 39) rfl ?_
    refine kj_getI f_RX3_83 rfl (Nat.lt_of_lt_of_le (Nat.le_of_ble_eq_true rfl : 7 < 120) hE.1) dX3_readWeight_39 (pc' := 42) rfl ?_
    refine kj_icmp_lt dX3_readWeight_42 (tgt := 50) rfl (pc' := 45) rfl (fun c9 => ?_) (fun c9 => ?_)
    · rw [if_pos c9] at hT
      refine kj_keep [true, false, true, true] (ls' := [some (.inr 89), none, some (.inl t2), some (.inl (t3 - 97))]) rfl ?_
      exact hJ50 t2 (t3 - 97) σ1 hT
    · rw [if_neg c9] at hT
      exact hJ45 (σ1 89 2) t2 (t3 - 97) σ1 hT
def X3_readClause_J89 (y2 : Int32) (ς : Wd) : Option (Wd) :=
  ((X3_expectEnd (X3_fail ς y2)).bind fun σ11 => some σ11)
def X3_readClause_J38 (y2 : Int32) (y3 : Int32) (ς : Wd) : Option (Wd) :=
  ((X3_isWord ς y2 y3 1).bind fun t5 => (if t5 = 0 then ((X3_isWord ς y2 y3 2).bind fun t8 => (if t8 = 0 then X3_readClause_J89 y2 ς else (if 12 ≤ (ς 8 1) then X3_readClause_J89 y2 ς else ((X3_readSet ς).bind fun σ13 => ((X3_expectEnd σ13).bind fun σ14 => some σ14))))) else ((X3_readWeight ς).bind fun σ15 => ((X3_expectEnd σ15).bind fun σ16 => some σ16))))
def X3_readClause (σ : Wd) (x1 : Int32) : Option (Wd) :=
  ((X3_lettersEnd σ (σ 89 2)).bind fun t1 => ((X3_isWord (up σ 89 2 t1) (σ 89 2) t1 0).bind fun t2 => (if t2 = 0 then X3_readClause_J38 (σ 89 2) t1 (up σ 89 2 t1) else (if x1 = 0 then X3_readClause_J38 (σ 89 2) t1 (up σ 89 2 t1) else ((X3_readPoints (up σ 89 2 t1)).bind fun σ18 => ((X3_expectEnd σ18).bind fun σ19 => some σ19))))))
set_option maxRecDepth 100000 in
set_option maxHeartbeats 4000000 in
theorem m_X3_readClause {E : JE} (hE : kOk 120 E) (hX : kHX E) (σ : Wd) (x1 : Int32) {res : Wd} (hT : X3_readClause σ x1 = some res) : kMt E yX3_readClause mX3_readClause rmX3_readClause [.inr 89, .inl x1] σ (kQv res) := by
  refine kMt_of (by decide +kernel) rfl (Nat.le_of_ble_eq_true rfl) ?_
  generalize hQ : (kQv res) = Q
  show KJ E mX3_readClause rmX3_readClause 0 [some (.inr 89), some (.inl x1)] [] σ Q
  unfold X3_readClause at hT
  have hJ89 : ∀ y2 ς, X3_readClause_J89 y2 ς = some res → KJ E mX3_readClause rmX3_readClause 89 [some (.inr 89), none, some (.inl y2)] [] ς Q := by
    intro y2 ς hT
    unfold X3_readClause_J89 at hT
    refine kj_aload_n dX3_readClause_89 (pc' := 90) rfl rfl rfl ?_
    refine kj_iload_n dX3_readClause_90 (pc' := 91) rfl rfl rfl ?_
    refine kcVv (as := [.inl y2]) (st := []) l_RX3_69 (m_X3_fail hE ς y2 rfl) rfl (Nat.lt_of_lt_of_le (Nat.le_of_ble_eq_true rfl : 89 < 120) hE.1) rfl ⟨⟨rfl, rfl⟩, Nat.le_of_ble_eq_true rfl, Nat.le_of_ble_eq_true rfl⟩ (Nat.le_of_ble_eq_true rfl) dX3_readClause_91 (pc' := 94) rfl ?_
    refine kj_aload_n dX3_readClause_94 (pc' := 95) rfl rfl rfl ?_
    obtain ⟨σ11, hσ11, hT⟩ := bind_some' hT
    refine kcVv (as := []) (st := []) l_RX3_73 (m_X3_expectEnd hE (X3_fail ς y2) hσ11) rfl (Nat.lt_of_lt_of_le (Nat.le_of_ble_eq_true rfl : 89 < 120) hE.1) rfl ⟨⟨rfl, rfl⟩, Nat.le_of_ble_eq_true rfl, Nat.le_of_ble_eq_true rfl⟩ (Nat.le_of_ble_eq_true rfl) dX3_readClause_95 (pc' := 98) rfl ?_
    have hR := Option.some.inj hT
    subst hR
    exact kj_vret rfl dX3_readClause_98 (by subst hQ; exact ⟨rfl, rfl⟩)
  have hJ38 : ∀ y2 y3 ς, X3_readClause_J38 y2 y3 ς = some res → KJ E mX3_readClause rmX3_readClause 38 [some (.inr 89), none, some (.inl y2), some (.inl y3)] [] ς Q := by
    intro y2 y3 ς hT
    unfold X3_readClause_J38 at hT
    refine kj_aload_n dX3_readClause_38 (pc' := 39) rfl rfl rfl ?_
    refine kj_iload_n dX3_readClause_39 (pc' := 40) rfl rfl rfl ?_
    refine kj_iload_n dX3_readClause_40 (pc' := 41) rfl rfl rfl ?_
    refine kj_ldcS (i := 1) hX (fun U h => h.2.1.2.1) dX3_readClause_41 (pc' := 43) rfl ?_
    obtain ⟨t5, ht5, hT⟩ := bind_some' hT
    refine kcVz (as := [.inl y2, .inl y3, .inr (1000 + 1)]) (st := []) l_RX3_49 (m_X3_isWord hE hX (Nat.le_of_ble_eq_true rfl : 1 < 3) ς y2 y3 ht5) rfl (Nat.lt_of_lt_of_le (Nat.le_of_ble_eq_true rfl : 89 < 120) hE.1) rfl ⟨⟨rfl, rfl⟩, Nat.le_of_ble_eq_true rfl, Nat.le_of_ble_eq_true rfl⟩ (Nat.le_of_ble_eq_true rfl) dX3_readClause_43 (pc' := 46) rfl (fun z6 => ?_)
    refine kj_if_eq dX3_readClause_46 (tgt := 56) rfl (pc' := 49) rfl (fun c7 => ?_) (fun c7 => ?_)
    · rw [if_pos c7] at hT
      refine kj_aload_n dX3_readClause_56 (pc' := 57) rfl rfl rfl ?_
      refine kj_iload_n dX3_readClause_57 (pc' := 58) rfl rfl rfl ?_
      refine kj_iload_n dX3_readClause_58 (pc' := 59) rfl rfl rfl ?_
      refine kj_ldcS (i := 2) hX (fun U h => h.2.1.2.2.1) dX3_readClause_59 (pc' := 61) rfl ?_
      obtain ⟨t8, ht8, hT⟩ := bind_some' hT
      refine kcVz (as := [.inl y2, .inl y3, .inr (1000 + 2)]) (st := []) l_RX3_49 (m_X3_isWord hE hX (Nat.le_of_ble_eq_true rfl : 2 < 3) ς y2 y3 ht8) rfl (Nat.lt_of_lt_of_le (Nat.le_of_ble_eq_true rfl : 89 < 120) hE.1) rfl ⟨⟨rfl, rfl⟩, Nat.le_of_ble_eq_true rfl, Nat.le_of_ble_eq_true rfl⟩ (Nat.le_of_ble_eq_true rfl) dX3_readClause_61 (pc' := 64) rfl (fun z9 => ?_)
      refine kj_if_eq dX3_readClause_64 (tgt := 89) rfl (pc' := 67) rfl (fun c10 => ?_) (fun c10 => ?_)
      · rw [if_pos c10] at hT
        refine kj_keep [true, false, true] (ls' := [some (.inr 89), none, some (.inl y2)]) rfl ?_
        exact hJ89 y2 ς hT
      · rw [if_neg c10] at hT
        refine kj_aload_n dX3_readClause_67 (pc' := 68) rfl rfl rfl ?_
        refine kj_getR f_RX3_15 rfl (Nat.lt_of_lt_of_le (Nat.le_of_ble_eq_true rfl : 89 < 120) hE.1) (hE.2 _ _) (q := 7) rfl dX3_readClause_68 (pc' := 71) rfl ?_
        refine kj_getR f_RX3_63 rfl (Nat.lt_of_lt_of_le (Nat.le_of_ble_eq_true rfl : 7 < 120) hE.1) (hE.2 _ _) (q := 8) rfl dX3_readClause_71 (pc' := 74) rfl ?_
        refine kj_getI f_RX3_34 rfl (Nat.lt_of_lt_of_le (Nat.le_of_ble_eq_true rfl : 8 < 120) hE.1) dX3_readClause_74 (pc' := 77) rfl ?_
        refine kj_bipush dX3_readClause_77 (pc' := 79) rfl kb_12 ?_
        refine kj_icmp_ge dX3_readClause_79 (tgt := 89) rfl (pc' := 82) rfl (fun c12 => ?_) (fun c12 => ?_)
        · rw [if_pos c12] at hT
          refine kj_keep [true, false, true] (ls' := [some (.inr 89), none, some (.inl y2)]) rfl ?_
          exact hJ89 y2 ς hT
        · rw [if_neg c12] at hT
          refine kj_aload_n dX3_readClause_82 (pc' := 83) rfl rfl rfl ?_
          obtain ⟨σ13, hσ13, hT⟩ := bind_some' hT
          refine kcVv (as := []) (st := []) l_RX3_66 (m_X3_readSet hE ς hσ13) rfl (Nat.lt_of_lt_of_le (Nat.le_of_ble_eq_true rfl : 89 < 120) hE.1) rfl ⟨⟨rfl, rfl⟩, Nat.le_of_ble_eq_true rfl, Nat.le_of_ble_eq_true rfl⟩ (Nat.le_of_ble_eq_true rfl) dX3_readClause_83 (pc' := 86) rfl ?_
          refine kj_goto dX3_readClause_86 (pc' := 94) rfl ?_
          refine kj_aload_n dX3_readClause_94 (pc' := 95) rfl rfl rfl ?_
          obtain ⟨σ14, hσ14, hT⟩ := bind_some' hT
          refine kcVv (as := []) (st := []) l_RX3_73 (m_X3_expectEnd hE σ13 hσ14) rfl (Nat.lt_of_lt_of_le (Nat.le_of_ble_eq_true rfl : 89 < 120) hE.1) rfl ⟨⟨rfl, rfl⟩, Nat.le_of_ble_eq_true rfl, Nat.le_of_ble_eq_true rfl⟩ (Nat.le_of_ble_eq_true rfl) dX3_readClause_95 (pc' := 98) rfl ?_
          have hR := Option.some.inj hT
          subst hR
          exact kj_vret rfl dX3_readClause_98 (by subst hQ; exact ⟨rfl, rfl⟩)
    · rw [if_neg c7] at hT
      refine kj_aload_n dX3_readClause_49 (pc' := 50) rfl rfl rfl ?_
      obtain ⟨σ15, hσ15, hT⟩ := bind_some' hT
      refine kcVv (as := []) (st := []) l_RX3_58 (m_X3_readWeight hE ς hσ15) rfl (Nat.lt_of_lt_of_le (Nat.le_of_ble_eq_true rfl : 89 < 120) hE.1) rfl ⟨⟨rfl, rfl⟩, Nat.le_of_ble_eq_true rfl, Nat.le_of_ble_eq_true rfl⟩ (Nat.le_of_ble_eq_true rfl) dX3_readClause_50 (pc' := 53) rfl ?_
      refine kj_goto dX3_readClause_53 (pc' := 94) rfl ?_
      refine kj_aload_n dX3_readClause_94 (pc' := 95) rfl rfl rfl ?_
      obtain ⟨σ16, hσ16, hT⟩ := bind_some' hT
      refine kcVv (as := []) (st := []) l_RX3_73 (m_X3_expectEnd hE σ15 hσ16) rfl (Nat.lt_of_lt_of_le (Nat.le_of_ble_eq_true rfl : 89 < 120) hE.1) rfl ⟨⟨rfl, rfl⟩, Nat.le_of_ble_eq_true rfl, Nat.le_of_ble_eq_true rfl⟩ (Nat.le_of_ble_eq_true rfl) dX3_readClause_95 (pc' := 98) rfl ?_
      have hR := Option.some.inj hT
      subst hR
      exact kj_vret rfl dX3_readClause_98 (by subst hQ; exact ⟨rfl, rfl⟩)
  refine kj_aload_n dX3_readClause_0 (pc' := 1) rfl rfl rfl ?_
  refine kj_getI f_RX3_19 rfl (Nat.lt_of_lt_of_le (Nat.le_of_ble_eq_true rfl : 89 < 120) hE.1) dX3_readClause_1 (pc' := 4) rfl ?_
  refine kj_istore_n dX3_readClause_4 (pc' := 5) rfl rfl (Nat.le_of_ble_eq_true rfl) (ls' := [some (.inr 89), some (.inl x1), some (.inl (σ 89 2))]) rfl ?_
  refine kj_aload_n dX3_readClause_5 (pc' := 6) rfl rfl rfl ?_
  refine kj_iload_n dX3_readClause_6 (pc' := 7) rfl rfl rfl ?_
  obtain ⟨t1, ht1, hT⟩ := bind_some' hT
  refine kcVi (as := [.inl (σ 89 2)]) (st := []) l_RX3_43 (m_X3_lettersEnd hE σ (σ 89 2) ht1) rfl (Nat.lt_of_lt_of_le (Nat.le_of_ble_eq_true rfl : 89 < 120) hE.1) rfl ⟨⟨rfl, rfl⟩, Nat.le_of_ble_eq_true rfl, Nat.le_of_ble_eq_true rfl⟩ (Nat.le_of_ble_eq_true rfl) dX3_readClause_7 (pc' := 10) rfl ?_
  refine kj_istore_n dX3_readClause_10 (pc' := 11) rfl rfl (Nat.le_of_ble_eq_true rfl) (ls' := [some (.inr 89), some (.inl x1), some (.inl (σ 89 2)), some (.inl t1)]) rfl ?_
  refine kj_aload_n dX3_readClause_11 (pc' := 12) rfl rfl rfl ?_
  refine kj_iload_n dX3_readClause_12 (pc' := 13) rfl rfl rfl ?_
  refine kj_putI p_RX3_19 rfl rfl rfl (Nat.lt_of_lt_of_le (Nat.le_of_ble_eq_true rfl : 89 < 120) hE.1) dX3_readClause_13 (pc' := 16) rfl ?_
  refine kj_aload_n dX3_readClause_16 (pc' := 17) rfl rfl rfl ?_
  refine kj_iload_n dX3_readClause_17 (pc' := 18) rfl rfl rfl ?_
  refine kj_iload_n dX3_readClause_18 (pc' := 19) rfl rfl rfl ?_
  refine kj_ldcS (i := 0) hX (fun U h => h.2.1.1) dX3_readClause_19 (pc' := 21) rfl ?_
  obtain ⟨t2, ht2, hT⟩ := bind_some' hT
  refine kcVz (as := [.inl (σ 89 2), .inl t1, .inr (1000 + 0)]) (st := []) l_RX3_49 (m_X3_isWord hE hX (Nat.le_of_ble_eq_true rfl : 0 < 3) (up σ 89 2 t1) (σ 89 2) t1 ht2) rfl (Nat.lt_of_lt_of_le (Nat.le_of_ble_eq_true rfl : 89 < 120) hE.1) rfl ⟨⟨rfl, rfl⟩, Nat.le_of_ble_eq_true rfl, Nat.le_of_ble_eq_true rfl⟩ (Nat.le_of_ble_eq_true rfl) dX3_readClause_21 (pc' := 24) rfl (fun z3 => ?_)
  refine kj_if_eq dX3_readClause_24 (tgt := 38) rfl (pc' := 27) rfl (fun c4 => ?_) (fun c4 => ?_)
  · rw [if_pos c4] at hT
    refine kj_keep [true, false, true, true] (ls' := [some (.inr 89), none, some (.inl (σ 89 2)), some (.inl t1)]) rfl ?_
    exact hJ38 (σ 89 2) t1 (up σ 89 2 t1) hT
  · rw [if_neg c4] at hT
    refine kj_iload_n dX3_readClause_27 (pc' := 28) rfl rfl rfl ?_
    refine kj_if_eq dX3_readClause_28 (tgt := 38) rfl (pc' := 31) rfl (fun c17 => ?_) (fun c17 => ?_)
    · rw [if_pos c17] at hT
      refine kj_keep [true, false, true, true] (ls' := [some (.inr 89), none, some (.inl (σ 89 2)), some (.inl t1)]) rfl ?_
      exact hJ38 (σ 89 2) t1 (up σ 89 2 t1) hT
    · rw [if_neg c17] at hT
      refine kj_aload_n dX3_readClause_31 (pc' := 32) rfl rfl rfl ?_
      obtain ⟨σ18, hσ18, hT⟩ := bind_some' hT
      refine kcVv (as := []) (st := []) l_RX3_53 (m_X3_readPoints hE (up σ 89 2 t1) hσ18) rfl (Nat.lt_of_lt_of_le (Nat.le_of_ble_eq_true rfl : 89 < 120) hE.1) rfl ⟨⟨rfl, rfl⟩, Nat.le_of_ble_eq_true rfl, Nat.le_of_ble_eq_true rfl⟩ (Nat.le_of_ble_eq_true rfl) dX3_readClause_32 (pc' := 35) rfl ?_
      refine kj_goto dX3_readClause_35 (pc' := 94) rfl ?_
      refine kj_aload_n dX3_readClause_94 (pc' := 95) rfl rfl rfl ?_
      obtain ⟨σ19, hσ19, hT⟩ := bind_some' hT
      refine kcVv (as := []) (st := []) l_RX3_73 (m_X3_expectEnd hE σ18 hσ19) rfl (Nat.lt_of_lt_of_le (Nat.le_of_ble_eq_true rfl : 89 < 120) hE.1) rfl ⟨⟨rfl, rfl⟩, Nat.le_of_ble_eq_true rfl, Nat.le_of_ble_eq_true rfl⟩ (Nat.le_of_ble_eq_true rfl) dX3_readClause_95 (pc' := 98) rfl ?_
      have hR := Option.some.inj hT
      subst hR
      exact kj_vret rfl dX3_readClause_98 (by subst hQ; exact ⟨rfl, rfl⟩)
def X3_read_B25 (rec25 : Int32 × Int32 × Wd → Option (Int32 × Wd)) : Int32 × Int32 × Wd → Option (Int32 × Wd)
  | (x1, x2, σ) => (if 300 ≤ x2 then some (σ 89 3, σ) else (if (σ 89 3) = (-1) then (if (σ 87 1) ≤ (σ 89 2) then some (σ 89 3, σ) else ((X3_readClause σ x1).bind fun σ6 => ((X3_skipGap σ6).bind fun σ7 => rec25 (0, x2 + 1, σ7)))) else some (σ 89 3, σ)))
def X3_read (σ : Wd) : Option (Int32 × Wd) :=
  ((X7_reset (up (up σ 89 2 0) 89 3 (-1)) 7).bind fun σ1 => ((X3_skipGap σ1).bind fun σ2 => (lp (X3_read_B25) FU (1, 0, σ2))))
set_option maxRecDepth 100000 in
set_option maxHeartbeats 4000000 in
theorem m_X3_read {E : JE} (hE : kOk 120 E) (hX : kHX E) (σ : Wd) {res : Int32 × Wd} (hT : X3_read σ = some res) : kMt E yX3_read mX3_read rmX3_read [.inr 89] σ (kQi res.1 res.2) := by
  refine kMt_of (by decide +kernel) rfl (Nat.le_of_ble_eq_true rfl) ?_
  generalize hQ : (kQi res.1 res.2) = Q
  show KJ E mX3_read rmX3_read 0 [some (.inr 89)] [] σ Q
  unfold X3_read at hT
  refine kj_aload_n dX3_read_0 (pc' := 1) rfl rfl rfl ?_
  refine kj_iconst dX3_read_1 (pc' := 2) rfl kc_0 ?_
  refine kj_putI p_RX3_19 rfl rfl rfl (Nat.lt_of_lt_of_le (Nat.le_of_ble_eq_true rfl : 89 < 120) hE.1) dX3_read_2 (pc' := 5) rfl ?_
  refine kj_aload_n dX3_read_5 (pc' := 6) rfl rfl rfl ?_
  refine kj_iconst dX3_read_6 (pc' := 7) rfl kc_m1 ?_
  refine kj_putI p_RX3_23 rfl rfl rfl (Nat.lt_of_lt_of_le (Nat.le_of_ble_eq_true rfl : 89 < 120) hE.1) dX3_read_7 (pc' := 10) rfl ?_
  refine kj_aload_n dX3_read_10 (pc' := 11) rfl rfl rfl ?_
  refine kj_getR f_RX3_15 rfl (Nat.lt_of_lt_of_le (Nat.le_of_ble_eq_true rfl : 89 < 120) hE.1) (hE.2 _ _) (q := 7) rfl dX3_read_11 (pc' := 14) rfl ?_
  obtain ⟨σ1, hσ1, hT⟩ := bind_some' hT
  refine kcVv (as := []) (st := []) l_RX3_26 (m_X7_reset hE rfl (up (up σ 89 2 0) 89 3 (-1)) hσ1) rfl (Nat.lt_of_lt_of_le (Nat.le_of_ble_eq_true rfl : 7 < 120) hE.1) rfl ⟨⟨rfl, rfl⟩, Nat.le_of_ble_eq_true rfl, Nat.le_of_ble_eq_true rfl⟩ (Nat.le_of_ble_eq_true rfl) dX3_read_14 (pc' := 17) rfl ?_
  refine kj_aload_n dX3_read_17 (pc' := 18) rfl rfl rfl ?_
  obtain ⟨σ2, hσ2, hT⟩ := bind_some' hT
  refine kcVv (as := []) (st := []) l_RX3_31 (m_X3_skipGap hE σ1 hσ2) rfl (Nat.lt_of_lt_of_le (Nat.le_of_ble_eq_true rfl : 89 < 120) hE.1) rfl ⟨⟨rfl, rfl⟩, Nat.le_of_ble_eq_true rfl, Nat.le_of_ble_eq_true rfl⟩ (Nat.le_of_ble_eq_true rfl) dX3_read_18 (pc' := 21) rfl ?_
  refine kj_iconst dX3_read_21 (pc' := 22) rfl kc_1 ?_
  refine kj_istore_n dX3_read_22 (pc' := 23) rfl rfl (Nat.le_of_ble_eq_true rfl) (ls' := [some (.inr 89), some (.inl 1)]) rfl ?_
  refine kj_iconst dX3_read_23 (pc' := 24) rfl kc_0 ?_
  refine kj_istore_n dX3_read_24 (pc' := 25) rfl rfl (Nat.le_of_ble_eq_true rfl) (ls' := [some (.inr 89), some (.inl 1), some (.inl 0)]) rfl ?_
  refine lp_ind (P := fun s => KJ E mX3_read rmX3_read 25 [some (.inr 89), some (.inl s.1), some (.inl s.2.1)] [] s.2.2 Q) (fun rec25 s ih25 hT => ?_) FU (1, 0, σ2) hT
  obtain ⟨x1, x2, σ⟩ := s
  show KJ E mX3_read rmX3_read 25 [some (.inr 89), some (.inl x1), some (.inl x2)] [] σ Q
  rw [X3_read_B25] at hT
  refine kj_iload_n dX3_read_25 (pc' := 26) rfl rfl rfl ?_
  refine kj_sipush dX3_read_26 (pc' := 29) rfl ks_300 ?_
  refine kj_icmp_ge dX3_read_29 (tgt := 71) rfl (pc' := 32) rfl (fun c3 => ?_) (fun c3 => ?_)
  · rw [if_pos c3] at hT
    refine kj_aload_n dX3_read_71 (pc' := 72) rfl rfl rfl ?_
    refine kj_getI f_RX3_23 rfl (Nat.lt_of_lt_of_le (Nat.le_of_ble_eq_true rfl : 89 < 120) hE.1) dX3_read_72 (pc' := 75) rfl ?_
    have hR := Option.some.inj hT
    subst hR
    exact kj_iret rfl dX3_read_75 (by subst hQ; exact ⟨rfl, rfl⟩)
  · rw [if_neg c3] at hT
    refine kj_aload_n dX3_read_32 (pc' := 33) rfl rfl rfl ?_
    refine kj_getI f_RX3_23 rfl (Nat.lt_of_lt_of_le (Nat.le_of_ble_eq_true rfl : 89 < 120) hE.1) dX3_read_33 (pc' := 36) rfl ?_
    refine kj_iconst dX3_read_36 (pc' := 37) rfl kc_m1 ?_
    refine kj_icmp_ne dX3_read_37 (tgt := 71) rfl (pc' := 40) rfl (fun c4 => ?_) (fun c4 => ?_)
    · rw [if_neg c4] at hT
      refine kj_aload_n dX3_read_71 (pc' := 72) rfl rfl rfl ?_
      refine kj_getI f_RX3_23 rfl (Nat.lt_of_lt_of_le (Nat.le_of_ble_eq_true rfl : 89 < 120) hE.1) dX3_read_72 (pc' := 75) rfl ?_
      have hR := Option.some.inj hT
      subst hR
      exact kj_iret rfl dX3_read_75 (by subst hQ; exact ⟨rfl, rfl⟩)
    · rw [if_pos c4] at hT
      refine kj_aload_n dX3_read_40 (pc' := 41) rfl rfl rfl ?_
      refine kj_getI f_RX3_19 rfl (Nat.lt_of_lt_of_le (Nat.le_of_ble_eq_true rfl : 89 < 120) hE.1) dX3_read_41 (pc' := 44) rfl ?_
      refine kj_aload_n dX3_read_44 (pc' := 45) rfl rfl rfl ?_
      refine kj_getR f_RX3_9 rfl (Nat.lt_of_lt_of_le (Nat.le_of_ble_eq_true rfl : 89 < 120) hE.1) (hE.2 _ _) (q := 87) rfl dX3_read_45 (pc' := 48) rfl ?_
      refine kj_getI f_RX3_34 rfl (Nat.lt_of_lt_of_le (Nat.le_of_ble_eq_true rfl : 87 < 120) hE.1) dX3_read_48 (pc' := 51) rfl ?_
      refine kj_icmp_ge dX3_read_51 (tgt := 71) rfl (pc' := 54) rfl (fun c5 => ?_) (fun c5 => ?_)
      · rw [if_pos c5] at hT
        refine kj_aload_n dX3_read_71 (pc' := 72) rfl rfl rfl ?_
        refine kj_getI f_RX3_23 rfl (Nat.lt_of_lt_of_le (Nat.le_of_ble_eq_true rfl : 89 < 120) hE.1) dX3_read_72 (pc' := 75) rfl ?_
        have hR := Option.some.inj hT
        subst hR
        exact kj_iret rfl dX3_read_75 (by subst hQ; exact ⟨rfl, rfl⟩)
      · rw [if_neg c5] at hT
        refine kj_aload_n dX3_read_54 (pc' := 55) rfl rfl rfl ?_
        refine kj_iload_n dX3_read_55 (pc' := 56) rfl rfl rfl ?_
        obtain ⟨σ6, hσ6, hT⟩ := bind_some' hT
        refine kcVv (as := [.inl x1]) (st := []) l_RX3_39 (m_X3_readClause hE hX σ x1 hσ6) rfl (Nat.lt_of_lt_of_le (Nat.le_of_ble_eq_true rfl : 89 < 120) hE.1) rfl ⟨⟨rfl, rfl⟩, Nat.le_of_ble_eq_true rfl, Nat.le_of_ble_eq_true rfl⟩ (Nat.le_of_ble_eq_true rfl) dX3_read_56 (pc' := 59) rfl ?_
        refine kj_iconst dX3_read_59 (pc' := 60) rfl kc_0 ?_
        refine kj_istore_n dX3_read_60 (pc' := 61) rfl rfl (Nat.le_of_ble_eq_true rfl) (ls' := [some (.inr 89), some (.inl 0), some (.inl x2)]) rfl ?_
        refine kj_aload_n dX3_read_61 (pc' := 62) rfl rfl rfl ?_
        obtain ⟨σ7, hσ7, hT⟩ := bind_some' hT
        refine kcVv (as := []) (st := []) l_RX3_31 (m_X3_skipGap hE σ6 hσ7) rfl (Nat.lt_of_lt_of_le (Nat.le_of_ble_eq_true rfl : 89 < 120) hE.1) rfl ⟨⟨rfl, rfl⟩, Nat.le_of_ble_eq_true rfl, Nat.le_of_ble_eq_true rfl⟩ (Nat.le_of_ble_eq_true rfl) dX3_read_62 (pc' := 65) rfl ?_
        refine kj_iinc dX3_read_65 (pc' := 68) rfl rfl (congrArg (_ + ·) kc_1) (Nat.le_of_ble_eq_true rfl) (ls' := [some (.inr 89), some (.inl 0), some (.inl (x2 + 1))]) rfl ?_
        refine kj_goto dX3_read_68 (pc' := 25) rfl ?_
        exact ih25 (0, x2 + 1, σ7) hT
