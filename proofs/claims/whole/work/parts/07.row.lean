def X4_at (σ : Wd) (r : Nat) (x1 : Int32) : Option (Int32) :=
  (if x1 < 0 then some (-1) else (if (σ r 1) ≤ x1 then some (-1) else (if (nI (kLn (r + 1))) ≤ x1 then some (-1) else (ckA x1 (kLn (r + 1)) <| some (σ (r + 1) x1.toNatClampNeg)))))
set_option maxRecDepth 100000 in
set_option maxHeartbeats 4000000 in
theorem m_X4_at {E : JE} (hE : kOk 120 E) {r : Nat} (hr : kKd r = 4) (σ : Wd) (x1 : Int32) {res : Int32} (hT : X4_at σ r x1 = some res) : kMt E yX4_at mX4_at rmX4_at [.inr r, .inl x1] σ (kQi res σ) := by
  refine kMt_of (by decide +kernel) rfl (Nat.le_of_ble_eq_true rfl) ?_
  generalize hQ : (kQi res σ) = Q
  show KJ E mX4_at rmX4_at 0 [some (.inr r), some (.inl x1)] [] σ Q
  unfold X4_at at hT
  refine kj_iload_n dX4_at_0 (pc' := 1) rfl rfl rfl ?_
  refine kj_if_lt dX4_at_1 (tgt := 30) rfl (pc' := 4) rfl (fun c1 => ?_) (fun c1 => ?_)
  · rw [if_pos c1] at hT
    refine kj_iconst dX4_at_30 (pc' := 31) rfl kc_m1 ?_
    have hR := Option.some.inj hT
    subst hR
    exact kj_iret rfl dX4_at_31 (by subst hQ; exact ⟨rfl, rfl⟩)
  · rw [if_neg c1] at hT
    refine kj_iload_n dX4_at_4 (pc' := 5) rfl rfl rfl ?_
    refine kj_aload_n dX4_at_5 (pc' := 6) rfl rfl rfl ?_
    refine kj_getI f_RX4_21 hr (Nat.lt_of_lt_of_le (kn4_0 hr) hE.1) dX4_at_6 (pc' := 9) rfl ?_
    refine kj_icmp_ge dX4_at_9 (tgt := 30) rfl (pc' := 12) rfl (fun c2 => ?_) (fun c2 => ?_)
    · rw [if_pos c2] at hT
      refine kj_iconst dX4_at_30 (pc' := 31) rfl kc_m1 ?_
      have hR := Option.some.inj hT
      subst hR
      exact kj_iret rfl dX4_at_31 (by subst hQ; exact ⟨rfl, rfl⟩)
    · rw [if_neg c2] at hT
      refine kj_iload_n dX4_at_12 (pc' := 13) rfl rfl rfl ?_
      refine kj_aload_n dX4_at_13 (pc' := 14) rfl rfl rfl ?_
      refine kj_getR f_RX4_15 hr (Nat.lt_of_lt_of_le (kn4_0 hr) hE.1) (hE.2 _ _) (q := (r + 1)) (kr4_0_0 hr) dX4_at_14 (pc' := 17) rfl ?_
      refine kj_alen (n := 0) (v := nI (kLn (r + 1))) 0 (ty := .int) (kk4_1 hr) (by decide) rfl (Nat.lt_of_lt_of_le (kn4_1 hr) hE.1) rfl dX4_at_17 (pc' := 18) rfl ?_
      refine kj_icmp_ge dX4_at_18 (tgt := 30) rfl (pc' := 21) rfl (fun c3 => ?_) (fun c3 => ?_)
      · rw [if_pos c3] at hT
        refine kj_iconst dX4_at_30 (pc' := 31) rfl kc_m1 ?_
        have hR := Option.some.inj hT
        subst hR
        exact kj_iret rfl dX4_at_31 (by subst hQ; exact ⟨rfl, rfl⟩)
      · rw [if_neg c3] at hT
        refine kj_aload_n dX4_at_21 (pc' := 22) rfl rfl rfl ?_
        refine kj_getR f_RX4_15 hr (Nat.lt_of_lt_of_le (kn4_0 hr) hE.1) (hE.2 _ _) (q := (r + 1)) (kr4_0_0 hr) dX4_at_22 (pc' := 25) rfl ?_
        refine kj_iload_n dX4_at_25 (pc' := 26) rfl rfl rfl ?_
        obtain ⟨hi4, hT⟩ := ckA_some hT
        refine kj_iald (kk4_1 hr) (Nat.lt_of_lt_of_le (kn4_1 hr) hE.1) hi4 rfl dX4_at_26 (pc' := 27) rfl ?_
        refine kj_goto dX4_at_27 (pc' := 31) rfl ?_
        have hR := Option.some.inj hT
        subst hR
        exact kj_iret rfl dX4_at_31 (by subst hQ; exact ⟨rfl, rfl⟩)
def X4_find_B2 (σ : Wd) (r : Nat) (x1 : Int32) (rec2 : Int32 → Option (Int32)) : Int32 → Option (Int32)
  | (x2) => (if (σ r 1) ≤ x2 then some (-1) else (if (nI (kLn (r + 1))) ≤ x2 then some (-1) else (ckA x2 (kLn (r + 1)) <| (if (σ (r + 1) x2.toNatClampNeg) = x1 then some x2 else rec2 (x2 + 1)))))
def X4_find (σ : Wd) (r : Nat) (x1 : Int32) : Option (Int32) :=
  (lp (X4_find_B2 σ r x1) FU (0))
set_option maxRecDepth 100000 in
set_option maxHeartbeats 4000000 in
theorem m_X4_find {E : JE} (hE : kOk 120 E) {r : Nat} (hr : kKd r = 4) (σ : Wd) (x1 : Int32) {res : Int32} (hT : X4_find σ r x1 = some res) : kMt E yX4_find mX4_find rmX4_find [.inr r, .inl x1] σ (kQi res σ) := by
  refine kMt_of (by decide +kernel) rfl (Nat.le_of_ble_eq_true rfl) ?_
  generalize hQ : (kQi res σ) = Q
  show KJ E mX4_find rmX4_find 0 [some (.inr r), some (.inl x1)] [] σ Q
  unfold X4_find at hT
  refine kj_iconst dX4_find_0 (pc' := 1) rfl kc_0 ?_
  refine kj_istore_n dX4_find_1 (pc' := 2) rfl rfl (Nat.le_of_ble_eq_true rfl) (ls' := [some (.inr r), some (.inl x1), some (.inl 0)]) rfl ?_
  refine lp_ind (P := fun s => KJ E mX4_find rmX4_find 2 [some (.inr r), some (.inl x1), some (.inl s)] [] σ Q) (fun rec2 s ih2 hT => ?_) FU (0) hT
  obtain ⟨x2, hs⟩ : ∃ z, z = s := ⟨_, rfl⟩
  subst hs
  show KJ E mX4_find rmX4_find 2 [some (.inr r), some (.inl x1), some (.inl x2)] [] σ Q
  rw [X4_find_B2] at hT
  refine kj_iload_n dX4_find_2 (pc' := 3) rfl rfl rfl ?_
  refine kj_aload_n dX4_find_3 (pc' := 4) rfl rfl rfl ?_
  refine kj_getI f_RX4_21 hr (Nat.lt_of_lt_of_le (kn4_0 hr) hE.1) dX4_find_4 (pc' := 7) rfl ?_
  refine kj_icmp_ge dX4_find_7 (tgt := 37) rfl (pc' := 10) rfl (fun c2 => ?_) (fun c2 => ?_)
  · rw [if_pos c2] at hT
    refine kj_iconst dX4_find_37 (pc' := 38) rfl kc_m1 ?_
    have hR := Option.some.inj hT
    subst hR
    exact kj_iret rfl dX4_find_38 (by subst hQ; exact ⟨rfl, rfl⟩)
  · rw [if_neg c2] at hT
    refine kj_iload_n dX4_find_10 (pc' := 11) rfl rfl rfl ?_
    refine kj_aload_n dX4_find_11 (pc' := 12) rfl rfl rfl ?_
    refine kj_getR f_RX4_15 hr (Nat.lt_of_lt_of_le (kn4_0 hr) hE.1) (hE.2 _ _) (q := (r + 1)) (kr4_0_0 hr) dX4_find_12 (pc' := 15) rfl ?_
    refine kj_alen (n := 0) (v := nI (kLn (r + 1))) 0 (ty := .int) (kk4_1 hr) (by decide) rfl (Nat.lt_of_lt_of_le (kn4_1 hr) hE.1) rfl dX4_find_15 (pc' := 16) rfl ?_
    refine kj_icmp_ge dX4_find_16 (tgt := 37) rfl (pc' := 19) rfl (fun c3 => ?_) (fun c3 => ?_)
    · rw [if_pos c3] at hT
      refine kj_iconst dX4_find_37 (pc' := 38) rfl kc_m1 ?_
      have hR := Option.some.inj hT
      subst hR
      exact kj_iret rfl dX4_find_38 (by subst hQ; exact ⟨rfl, rfl⟩)
    · rw [if_neg c3] at hT
      refine kj_aload_n dX4_find_19 (pc' := 20) rfl rfl rfl ?_
      refine kj_getR f_RX4_15 hr (Nat.lt_of_lt_of_le (kn4_0 hr) hE.1) (hE.2 _ _) (q := (r + 1)) (kr4_0_0 hr) dX4_find_20 (pc' := 23) rfl ?_
      refine kj_iload_n dX4_find_23 (pc' := 24) rfl rfl rfl ?_
      obtain ⟨hi4, hT⟩ := ckA_some hT
      refine kj_iald (kk4_1 hr) (Nat.lt_of_lt_of_le (kn4_1 hr) hE.1) hi4 rfl dX4_find_24 (pc' := 25) rfl ?_
      refine kj_iload_n dX4_find_25 (pc' := 26) rfl rfl rfl ?_
      refine kj_icmp_ne dX4_find_26 (tgt := 31) rfl (pc' := 29) rfl (fun c5 => ?_) (fun c5 => ?_)
      · rw [if_neg c5] at hT
        refine kj_iinc dX4_find_31 (pc' := 34) rfl rfl (congrArg (_ + ·) kc_1) (Nat.le_of_ble_eq_true rfl) (ls' := [some (.inr r), some (.inl x1), some (.inl (x2 + 1))]) rfl ?_
        refine kj_goto dX4_find_34 (pc' := 2) rfl ?_
        exact ih2 (x2 + 1) hT
      · rw [if_pos c5] at hT
        refine kj_iload_n dX4_find_29 (pc' := 30) rfl rfl rfl ?_
        have hR := Option.some.inj hT
        subst hR
        exact kj_iret rfl dX4_find_30 (by subst hQ; exact ⟨rfl, rfl⟩)
def X4_append (σ : Wd) (r : Nat) (x1 : Int32) : Option (Wd) :=
  (if (σ r 1) < 0 then some σ else (if (nI (kLn (r + 1))) ≤ (σ r 1) then some σ else (ckA (σ r 1) (kLn (r + 1)) <| some (up (up σ (r + 1) ((σ r 1).toNatClampNeg) x1) r 1 (((up σ (r + 1) ((σ r 1).toNatClampNeg) x1) r 1) + 1)))))
set_option maxRecDepth 100000 in
set_option maxHeartbeats 4000000 in
theorem m_X4_append {E : JE} (hE : kOk 120 E) {r : Nat} (hr : kKd r = 4) (σ : Wd) (x1 : Int32) {res : Wd} (hT : X4_append σ r x1 = some res) : kMt E yX4_append mX4_append rmX4_append [.inr r, .inl x1] σ (kQv res) := by
  refine kMt_of (by decide +kernel) rfl (Nat.le_of_ble_eq_true rfl) ?_
  generalize hQ : (kQv res) = Q
  show KJ E mX4_append rmX4_append 0 [some (.inr r), some (.inl x1)] [] σ Q
  unfold X4_append at hT
  refine kj_aload_n dX4_append_0 (pc' := 1) rfl rfl rfl ?_
  refine kj_getI f_RX4_21 hr (Nat.lt_of_lt_of_le (kn4_0 hr) hE.1) dX4_append_1 (pc' := 4) rfl ?_
  refine kj_if_lt dX4_append_4 (tgt := 39) rfl (pc' := 7) rfl (fun c1 => ?_) (fun c1 => ?_)
  · rw [if_pos c1] at hT
    have hR := Option.some.inj hT
    subst hR
    exact kj_vret rfl dX4_append_39 (by subst hQ; exact ⟨rfl, rfl⟩)
  · rw [if_neg c1] at hT
    refine kj_aload_n dX4_append_7 (pc' := 8) rfl rfl rfl ?_
    refine kj_getI f_RX4_21 hr (Nat.lt_of_lt_of_le (kn4_0 hr) hE.1) dX4_append_8 (pc' := 11) rfl ?_
    refine kj_aload_n dX4_append_11 (pc' := 12) rfl rfl rfl ?_
    refine kj_getR f_RX4_15 hr (Nat.lt_of_lt_of_le (kn4_0 hr) hE.1) (hE.2 _ _) (q := (r + 1)) (kr4_0_0 hr) dX4_append_12 (pc' := 15) rfl ?_
    refine kj_alen (n := 0) (v := nI (kLn (r + 1))) 0 (ty := .int) (kk4_1 hr) (by decide) rfl (Nat.lt_of_lt_of_le (kn4_1 hr) hE.1) rfl dX4_append_15 (pc' := 16) rfl ?_
    refine kj_icmp_ge dX4_append_16 (tgt := 39) rfl (pc' := 19) rfl (fun c2 => ?_) (fun c2 => ?_)
    · rw [if_pos c2] at hT
      have hR := Option.some.inj hT
      subst hR
      exact kj_vret rfl dX4_append_39 (by subst hQ; exact ⟨rfl, rfl⟩)
    · rw [if_neg c2] at hT
      refine kj_aload_n dX4_append_19 (pc' := 20) rfl rfl rfl ?_
      refine kj_getR f_RX4_15 hr (Nat.lt_of_lt_of_le (kn4_0 hr) hE.1) (hE.2 _ _) (q := (r + 1)) (kr4_0_0 hr) dX4_append_20 (pc' := 23) rfl ?_
      refine kj_aload_n dX4_append_23 (pc' := 24) rfl rfl rfl ?_
      refine kj_getI f_RX4_21 hr (Nat.lt_of_lt_of_le (kn4_0 hr) hE.1) dX4_append_24 (pc' := 27) rfl ?_
      refine kj_iload_n dX4_append_27 (pc' := 28) rfl rfl rfl ?_
      obtain ⟨hi3, hT⟩ := ckA_some hT
      refine kj_iast (kk4_1 hr) (Nat.lt_of_lt_of_le (kn4_1 hr) hE.1) hi3 rfl dX4_append_28 (pc' := 29) rfl ?_
      refine kj_aload_n dX4_append_29 (pc' := 30) rfl rfl rfl ?_
      refine kj_dup dX4_append_30 (pc' := 31) rfl ?_
      refine kj_getI f_RX4_21 hr (Nat.lt_of_lt_of_le (kn4_0 hr) hE.1) dX4_append_31 (pc' := 34) rfl ?_
      refine kj_iconst dX4_append_34 (pc' := 35) rfl kc_1 ?_
      refine kj_iadd dX4_append_35 (pc' := 36) rfl ?_
      refine kj_putI p_RX4_21 rfl rfl hr (Nat.lt_of_lt_of_le (kn4_0 hr) hE.1) dX4_append_36 (pc' := 39) rfl ?_
      have hR := Option.some.inj hT
      subst hR
      exact kj_vret rfl dX4_append_39 (by subst hQ; exact ⟨rfl, rfl⟩)
def X4_appendBytes_B3 (r : Nat) (x1 : Int32) (rec3 : Int32 × Wd → Option (Wd)) : Int32 × Wd → Option (Wd)
  | (x2, σ) => (if x2 < 0 then some σ else ((X4_append σ r ((ushr x1 x2) &&& 255)).bind fun σ2 => rec3 (x2 + (-8), σ2)))
def X4_appendBytes (σ : Wd) (r : Nat) (x1 : Int32) : Option (Wd) :=
  (lp (X4_appendBytes_B3 r x1) FU (24, σ))
set_option maxRecDepth 100000 in
set_option maxHeartbeats 4000000 in
theorem m_X4_appendBytes {E : JE} (hE : kOk 120 E) {r : Nat} (hr : kKd r = 4) (σ : Wd) (x1 : Int32) {res : Wd} (hT : X4_appendBytes σ r x1 = some res) : kMt E yX4_appendBytes mX4_appendBytes rmX4_appendBytes [.inr r, .inl x1] σ (kQv res) := by
  refine kMt_of (by decide +kernel) rfl (Nat.le_of_ble_eq_true rfl) ?_
  generalize hQ : (kQv res) = Q
  show KJ E mX4_appendBytes rmX4_appendBytes 0 [some (.inr r), some (.inl x1)] [] σ Q
  unfold X4_appendBytes at hT
  refine kj_bipush dX4_appendBytes_0 (pc' := 2) rfl kb_24 ?_
  refine kj_istore_n dX4_appendBytes_2 (pc' := 3) rfl rfl (Nat.le_of_ble_eq_true rfl) (ls' := [some (.inr r), some (.inl x1), some (.inl 24)]) rfl ?_
  refine lp_ind (P := fun s => KJ E mX4_appendBytes rmX4_appendBytes 3 [some (.inr r), some (.inl x1), some (.inl s.1)] [] s.2 Q) (fun rec3 s ih3 hT => ?_) FU (24, σ) hT
  obtain ⟨x2, σ⟩ := s
  show KJ E mX4_appendBytes rmX4_appendBytes 3 [some (.inr r), some (.inl x1), some (.inl x2)] [] σ Q
  rw [X4_appendBytes_B3] at hT
  refine kj_iload_n dX4_appendBytes_3 (pc' := 4) rfl rfl rfl ?_
  refine kj_if_lt dX4_appendBytes_4 (tgt := 24) rfl (pc' := 7) rfl (fun c1 => ?_) (fun c1 => ?_)
  · rw [if_pos c1] at hT
    have hR := Option.some.inj hT
    subst hR
    exact kj_vret rfl dX4_appendBytes_24 (by subst hQ; exact ⟨rfl, rfl⟩)
  · rw [if_neg c1] at hT
    refine kj_aload_n dX4_appendBytes_7 (pc' := 8) rfl rfl rfl ?_
    refine kj_iload_n dX4_appendBytes_8 (pc' := 9) rfl rfl rfl ?_
    refine kj_iload_n dX4_appendBytes_9 (pc' := 10) rfl rfl rfl ?_
    refine kj_iushr dX4_appendBytes_10 (pc' := 11) rfl ?_
    refine kj_sipush dX4_appendBytes_11 (pc' := 14) rfl ks_255 ?_
    refine kj_iand dX4_appendBytes_14 (pc' := 15) rfl ?_
    obtain ⟨σ2, hσ2, hT⟩ := bind_some' hT
    refine kcVv (as := [.inl ((ushr x1 x2) &&& 255)]) (st := []) l_RX4_25 (m_X4_append hE hr σ ((ushr x1 x2) &&& 255) hσ2) hr (Nat.lt_of_lt_of_le (kn4_0 hr) hE.1) rfl ⟨⟨rfl, rfl⟩, Nat.le_of_ble_eq_true rfl, Nat.le_of_ble_eq_true rfl⟩ (Nat.le_of_ble_eq_true rfl) dX4_appendBytes_15 (pc' := 18) rfl ?_
    refine kj_iinc dX4_appendBytes_18 (pc' := 21) rfl rfl (congrArg (_ + ·) kc_m8) (Nat.le_of_ble_eq_true rfl) (ls' := [some (.inr r), some (.inl x1), some (.inl (x2 + (-8)))]) rfl ?_
    refine kj_goto dX4_appendBytes_21 (pc' := 3) rfl ?_
    exact ih3 (x2 + (-8), σ2) hT
def X4_replace (σ : Wd) (r : Nat) (x1 : Int32) (x2 : Int32) : Option (Wd) :=
  (if x1 < 0 then some σ else (if (σ r 1) ≤ x1 then some σ else (if (nI (kLn (r + 1))) ≤ x1 then some σ else (ckA x1 (kLn (r + 1)) <| some (up σ (r + 1) x1.toNatClampNeg x2)))))
set_option maxRecDepth 100000 in
set_option maxHeartbeats 4000000 in
theorem m_X4_replace {E : JE} (hE : kOk 120 E) {r : Nat} (hr : kKd r = 4) (σ : Wd) (x1 : Int32) (x2 : Int32) {res : Wd} (hT : X4_replace σ r x1 x2 = some res) : kMt E yX4_replace mX4_replace rmX4_replace [.inr r, .inl x1, .inl x2] σ (kQv res) := by
  refine kMt_of (by decide +kernel) rfl (Nat.le_of_ble_eq_true rfl) ?_
  generalize hQ : (kQv res) = Q
  show KJ E mX4_replace rmX4_replace 0 [some (.inr r), some (.inl x1), some (.inl x2)] [] σ Q
  unfold X4_replace at hT
  refine kj_iload_n dX4_replace_0 (pc' := 1) rfl rfl rfl ?_
  refine kj_if_lt dX4_replace_1 (tgt := 28) rfl (pc' := 4) rfl (fun c1 => ?_) (fun c1 => ?_)
  · rw [if_pos c1] at hT
    have hR := Option.some.inj hT
    subst hR
    exact kj_vret rfl dX4_replace_28 (by subst hQ; exact ⟨rfl, rfl⟩)
  · rw [if_neg c1] at hT
    refine kj_iload_n dX4_replace_4 (pc' := 5) rfl rfl rfl ?_
    refine kj_aload_n dX4_replace_5 (pc' := 6) rfl rfl rfl ?_
    refine kj_getI f_RX4_21 hr (Nat.lt_of_lt_of_le (kn4_0 hr) hE.1) dX4_replace_6 (pc' := 9) rfl ?_
    refine kj_icmp_ge dX4_replace_9 (tgt := 28) rfl (pc' := 12) rfl (fun c2 => ?_) (fun c2 => ?_)
    · rw [if_pos c2] at hT
      have hR := Option.some.inj hT
      subst hR
      exact kj_vret rfl dX4_replace_28 (by subst hQ; exact ⟨rfl, rfl⟩)
    · rw [if_neg c2] at hT
      refine kj_iload_n dX4_replace_12 (pc' := 13) rfl rfl rfl ?_
      refine kj_aload_n dX4_replace_13 (pc' := 14) rfl rfl rfl ?_
      refine kj_getR f_RX4_15 hr (Nat.lt_of_lt_of_le (kn4_0 hr) hE.1) (hE.2 _ _) (q := (r + 1)) (kr4_0_0 hr) dX4_replace_14 (pc' := 17) rfl ?_
      refine kj_alen (n := 0) (v := nI (kLn (r + 1))) 0 (ty := .int) (kk4_1 hr) (by decide) rfl (Nat.lt_of_lt_of_le (kn4_1 hr) hE.1) rfl dX4_replace_17 (pc' := 18) rfl ?_
      refine kj_icmp_ge dX4_replace_18 (tgt := 28) rfl (pc' := 21) rfl (fun c3 => ?_) (fun c3 => ?_)
      · rw [if_pos c3] at hT
        have hR := Option.some.inj hT
        subst hR
        exact kj_vret rfl dX4_replace_28 (by subst hQ; exact ⟨rfl, rfl⟩)
      · rw [if_neg c3] at hT
        refine kj_aload_n dX4_replace_21 (pc' := 22) rfl rfl rfl ?_
        refine kj_getR f_RX4_15 hr (Nat.lt_of_lt_of_le (kn4_0 hr) hE.1) (hE.2 _ _) (q := (r + 1)) (kr4_0_0 hr) dX4_replace_22 (pc' := 25) rfl ?_
        refine kj_iload_n dX4_replace_25 (pc' := 26) rfl rfl rfl ?_
        refine kj_iload_n dX4_replace_26 (pc' := 27) rfl rfl rfl ?_
        obtain ⟨hi4, hT⟩ := ckA_some hT
        refine kj_iast (kk4_1 hr) (Nat.lt_of_lt_of_le (kn4_1 hr) hE.1) hi4 rfl dX4_replace_27 (pc' := 28) rfl ?_
        have hR := Option.some.inj hT
        subst hR
        exact kj_vret rfl dX4_replace_28 (by subst hQ; exact ⟨rfl, rfl⟩)
def X4_cutOut_B15 (r : Nat) (rec15 : Int32 × Wd → Option (Wd)) : Int32 × Wd → Option (Wd)
  | (x2, σ) => (if (σ r 1) ≤ (x2 + 1) then some (up σ r 1 ((σ r 1) - 1)) else ((X4_at σ r (x2 + 1)).bind fun t4 => ((X4_replace σ r x2 t4).bind fun σ5 => rec15 (x2 + 1, σ5))))
def X4_cutOut (σ : Wd) (r : Nat) (x1 : Int32) : Option (Wd) :=
  (if x1 < 0 then some σ else (if x1 < (σ r 1) then (lp (X4_cutOut_B15 r) FU (x1, σ)) else some σ))
set_option maxRecDepth 100000 in
set_option maxHeartbeats 4000000 in
theorem m_X4_cutOut {E : JE} (hE : kOk 120 E) {r : Nat} (hr : kKd r = 4) (σ : Wd) (x1 : Int32) {res : Wd} (hT : X4_cutOut σ r x1 = some res) : kMt E yX4_cutOut mX4_cutOut rmX4_cutOut [.inr r, .inl x1] σ (kQv res) := by
  refine kMt_of (by decide +kernel) rfl (Nat.le_of_ble_eq_true rfl) ?_
  generalize hQ : (kQv res) = Q
  show KJ E mX4_cutOut rmX4_cutOut 0 [some (.inr r), some (.inl x1)] [] σ Q
  unfold X4_cutOut at hT
  refine kj_iload_n dX4_cutOut_0 (pc' := 1) rfl rfl rfl ?_
  refine kj_if_lt dX4_cutOut_1 (tgt := 12) rfl (pc' := 4) rfl (fun c1 => ?_) (fun c1 => ?_)
  · rw [if_pos c1] at hT
    have hR := Option.some.inj hT
    subst hR
    exact kj_vret rfl dX4_cutOut_12 (by subst hQ; exact ⟨rfl, rfl⟩)
  · rw [if_neg c1] at hT
    refine kj_iload_n dX4_cutOut_4 (pc' := 5) rfl rfl rfl ?_
    refine kj_aload_n dX4_cutOut_5 (pc' := 6) rfl rfl rfl ?_
    refine kj_getI f_RX4_21 hr (Nat.lt_of_lt_of_le (kn4_0 hr) hE.1) dX4_cutOut_6 (pc' := 9) rfl ?_
    refine kj_icmp_lt dX4_cutOut_9 (tgt := 13) rfl (pc' := 12) rfl (fun c2 => ?_) (fun c2 => ?_)
    · rw [if_pos c2] at hT
      refine kj_iload_n dX4_cutOut_13 (pc' := 14) rfl rfl rfl ?_
      refine kj_istore_n dX4_cutOut_14 (pc' := 15) rfl rfl (Nat.le_of_ble_eq_true rfl) (ls' := [some (.inr r), some (.inl x1), some (.inl x1)]) rfl ?_
      refine kj_keep [true, false, true] (ls' := [some (.inr r), none, some (.inl x1)]) rfl ?_
      refine lp_ind (P := fun s => KJ E mX4_cutOut rmX4_cutOut 15 [some (.inr r), none, some (.inl s.1)] [] s.2 Q) (fun rec15 s ih15 hT => ?_) FU (x1, σ) hT
      obtain ⟨x2, σ⟩ := s
      show KJ E mX4_cutOut rmX4_cutOut 15 [some (.inr r), none, some (.inl x2)] [] σ Q
      rw [X4_cutOut_B15] at hT
      refine kj_iload_n dX4_cutOut_15 (pc' := 16) rfl rfl rfl ?_
      refine kj_iconst dX4_cutOut_16 (pc' := 17) rfl kc_1 ?_
      refine kj_iadd dX4_cutOut_17 (pc' := 18) rfl ?_
      refine kj_aload_n dX4_cutOut_18 (pc' := 19) rfl rfl rfl ?_
      refine kj_getI f_RX4_21 hr (Nat.lt_of_lt_of_le (kn4_0 hr) hE.1) dX4_cutOut_19 (pc' := 22) rfl ?_
      refine kj_icmp_ge dX4_cutOut_22 (tgt := 43) rfl (pc' := 25) rfl (fun c3 => ?_) (fun c3 => ?_)
      · rw [if_pos c3] at hT
        refine kj_aload_n dX4_cutOut_43 (pc' := 44) rfl rfl rfl ?_
        refine kj_dup dX4_cutOut_44 (pc' := 45) rfl ?_
        refine kj_getI f_RX4_21 hr (Nat.lt_of_lt_of_le (kn4_0 hr) hE.1) dX4_cutOut_45 (pc' := 48) rfl ?_
        refine kj_iconst dX4_cutOut_48 (pc' := 49) rfl kc_1 ?_
        refine kj_isub dX4_cutOut_49 (pc' := 50) rfl ?_
        refine kj_putI p_RX4_21 rfl rfl hr (Nat.lt_of_lt_of_le (kn4_0 hr) hE.1) dX4_cutOut_50 (pc' := 53) rfl ?_
        have hR := Option.some.inj hT
        subst hR
        exact kj_vret rfl dX4_cutOut_53 (by subst hQ; exact ⟨rfl, rfl⟩)
      · rw [if_neg c3] at hT
        refine kj_aload_n dX4_cutOut_25 (pc' := 26) rfl rfl rfl ?_
        refine kj_iload_n dX4_cutOut_26 (pc' := 27) rfl rfl rfl ?_
        refine kj_aload_n dX4_cutOut_27 (pc' := 28) rfl rfl rfl ?_
        refine kj_iload_n dX4_cutOut_28 (pc' := 29) rfl rfl rfl ?_
        refine kj_iconst dX4_cutOut_29 (pc' := 30) rfl kc_1 ?_
        refine kj_iadd dX4_cutOut_30 (pc' := 31) rfl ?_
        obtain ⟨t4, ht4, hT⟩ := bind_some' hT
        refine kcVi (as := [.inl (x2 + 1)]) (st := [.inl x2, .inr r]) l_RX4_29 (m_X4_at hE hr σ (x2 + 1) ht4) hr (Nat.lt_of_lt_of_le (kn4_0 hr) hE.1) rfl ⟨⟨rfl, rfl⟩, Nat.le_of_ble_eq_true rfl, Nat.le_of_ble_eq_true rfl⟩ (Nat.le_of_ble_eq_true rfl) dX4_cutOut_31 (pc' := 34) rfl ?_
        obtain ⟨σ5, hσ5, hT⟩ := bind_some' hT
        refine kcVv (as := [.inl x2, .inl t4]) (st := []) l_RX4_33 (m_X4_replace hE hr σ x2 t4 hσ5) hr (Nat.lt_of_lt_of_le (kn4_0 hr) hE.1) rfl ⟨⟨rfl, rfl⟩, Nat.le_of_ble_eq_true rfl, Nat.le_of_ble_eq_true rfl⟩ (Nat.le_of_ble_eq_true rfl) dX4_cutOut_34 (pc' := 37) rfl ?_
        refine kj_iinc dX4_cutOut_37 (pc' := 40) rfl rfl (congrArg (_ + ·) kc_1) (Nat.le_of_ble_eq_true rfl) (ls' := [some (.inr r), none, some (.inl (x2 + 1))]) rfl ?_
        refine kj_goto dX4_cutOut_40 (pc' := 15) rfl ?_
        exact ih15 (x2 + 1, σ5) hT
    · rw [if_neg c2] at hT
      have hR := Option.some.inj hT
      subst hR
      exact kj_vret rfl dX4_cutOut_12 (by subst hQ; exact ⟨rfl, rfl⟩)
def X4_clear (σ : Wd) (r : Nat) : Wd :=
  (up σ r 1 0)
set_option maxRecDepth 100000 in
set_option maxHeartbeats 4000000 in
theorem m_X4_clear {E : JE} (hE : kOk 120 E) {r : Nat} (hr : kKd r = 4) (σ : Wd) {res : Wd} (hT : X4_clear σ r = res) : kMt E yX4_clear mX4_clear rmX4_clear [.inr r] σ (kQv res) := by
  refine kMt_of (by decide +kernel) rfl (Nat.le_of_ble_eq_true rfl) ?_
  generalize hQ : (kQv res) = Q
  show KJ E mX4_clear rmX4_clear 0 [some (.inr r)] [] σ Q
  unfold X4_clear at hT
  refine kj_aload_n dX4_clear_0 (pc' := 1) rfl rfl rfl ?_
  refine kj_iconst dX4_clear_1 (pc' := 2) rfl kc_0 ?_
  refine kj_putI p_RX4_21 rfl rfl hr (Nat.lt_of_lt_of_le (kn4_0 hr) hE.1) dX4_clear_2 (pc' := 5) rfl ?_
  subst hT
  exact kj_vret rfl dX4_clear_5 (by subst hQ; exact ⟨rfl, rfl⟩)
def X4_copy_B7 (q1 : Nat) (r : Nat) (rec7 : Int32 × Wd → Option (Wd)) : Int32 × Wd → Option (Wd)
  | (x2, σ) => (if (σ q1 1) ≤ x2 then some σ else ((X4_at σ q1 x2).bind fun t2 => ((X4_append σ r t2).bind fun σ3 => rec7 (x2 + 1, σ3))))
def X4_copy (σ : Wd) (r : Nat) (q1 : Nat) : Option (Wd) :=
  (lp (X4_copy_B7 q1 r) FU (0, up σ r 1 0))
set_option maxRecDepth 100000 in
set_option maxHeartbeats 4000000 in
theorem m_X4_copy {E : JE} (hE : kOk 120 E) {r : Nat} {q1 : Nat} (hr : kKd r = 4) (hq1 : kKd q1 = 4) (σ : Wd) {res : Wd} (hT : X4_copy σ r q1 = some res) : kMt E yX4_copy mX4_copy rmX4_copy [.inr r, .inr q1] σ (kQv res) := by
  refine kMt_of (by decide +kernel) rfl (Nat.le_of_ble_eq_true rfl) ?_
  generalize hQ : (kQv res) = Q
  show KJ E mX4_copy rmX4_copy 0 [some (.inr r), some (.inr q1)] [] σ Q
  unfold X4_copy at hT
  refine kj_aload_n dX4_copy_0 (pc' := 1) rfl rfl rfl ?_
  refine kj_iconst dX4_copy_1 (pc' := 2) rfl kc_0 ?_
  refine kj_putI p_RX4_21 rfl rfl hr (Nat.lt_of_lt_of_le (kn4_0 hr) hE.1) dX4_copy_2 (pc' := 5) rfl ?_
  refine kj_iconst dX4_copy_5 (pc' := 6) rfl kc_0 ?_
  refine kj_istore_n dX4_copy_6 (pc' := 7) rfl rfl (Nat.le_of_ble_eq_true rfl) (ls' := [some (.inr r), some (.inr q1), some (.inl 0)]) rfl ?_
  refine lp_ind (P := fun s => KJ E mX4_copy rmX4_copy 7 [some (.inr r), some (.inr q1), some (.inl s.1)] [] s.2 Q) (fun rec7 s ih7 hT => ?_) FU (0, up σ r 1 0) hT
  obtain ⟨x2, σ⟩ := s
  show KJ E mX4_copy rmX4_copy 7 [some (.inr r), some (.inr q1), some (.inl x2)] [] σ Q
  rw [X4_copy_B7] at hT
  refine kj_iload_n dX4_copy_7 (pc' := 8) rfl rfl rfl ?_
  refine kj_aload_n dX4_copy_8 (pc' := 9) rfl rfl rfl ?_
  refine kj_getI f_RX4_21 hq1 (Nat.lt_of_lt_of_le (kn4_0 hq1) hE.1) dX4_copy_9 (pc' := 12) rfl ?_
  refine kj_icmp_ge dX4_copy_12 (tgt := 30) rfl (pc' := 15) rfl (fun c1 => ?_) (fun c1 => ?_)
  · rw [if_pos c1] at hT
    have hR := Option.some.inj hT
    subst hR
    exact kj_vret rfl dX4_copy_30 (by subst hQ; exact ⟨rfl, rfl⟩)
  · rw [if_neg c1] at hT
    refine kj_aload_n dX4_copy_15 (pc' := 16) rfl rfl rfl ?_
    refine kj_aload_n dX4_copy_16 (pc' := 17) rfl rfl rfl ?_
    refine kj_iload_n dX4_copy_17 (pc' := 18) rfl rfl rfl ?_
    obtain ⟨t2, ht2, hT⟩ := bind_some' hT
    refine kcVi (as := [.inl x2]) (st := [.inr r]) l_RX4_29 (m_X4_at hE hq1 σ x2 ht2) hq1 (Nat.lt_of_lt_of_le (kn4_0 hq1) hE.1) rfl ⟨⟨rfl, rfl⟩, Nat.le_of_ble_eq_true rfl, Nat.le_of_ble_eq_true rfl⟩ (Nat.le_of_ble_eq_true rfl) dX4_copy_18 (pc' := 21) rfl ?_
    obtain ⟨σ3, hσ3, hT⟩ := bind_some' hT
    refine kcVv (as := [.inl t2]) (st := []) l_RX4_25 (m_X4_append hE hr σ t2 hσ3) hr (Nat.lt_of_lt_of_le (kn4_0 hr) hE.1) rfl ⟨⟨rfl, rfl⟩, Nat.le_of_ble_eq_true rfl, Nat.le_of_ble_eq_true rfl⟩ (Nat.le_of_ble_eq_true rfl) dX4_copy_21 (pc' := 24) rfl ?_
    refine kj_iinc dX4_copy_24 (pc' := 27) rfl rfl (congrArg (_ + ·) kc_1) (Nat.le_of_ble_eq_true rfl) (ls' := [some (.inr r), some (.inr q1), some (.inl (x2 + 1))]) rfl ?_
    refine kj_goto dX4_copy_27 (pc' := 7) rfl ?_
    exact ih7 (x2 + 1, σ3) hT
def X4_isSame_B15 (σ : Wd) (r : Nat) (q1 : Nat) (rec15 : Int32 → Option (Int32)) : Int32 → Option (Int32)
  | (x2) => (if (σ r 1) ≤ x2 then some 1 else ((X4_at σ r x2).bind fun t4 => ((X4_at σ q1 x2).bind fun t5 => (if t4 = t5 then rec15 (x2 + 1) else some 0))))
def X4_isSame (σ : Wd) (r : Nat) (q1 : Nat) : Option (Int32) :=
  (if (σ r 1) = (σ q1 1) then (lp (X4_isSame_B15 σ r q1) FU (0)) else some 0)
set_option maxRecDepth 100000 in
set_option maxHeartbeats 4000000 in
theorem m_X4_isSame {E : JE} (hE : kOk 120 E) {r : Nat} {q1 : Nat} (hr : kKd r = 4) (hq1 : kKd q1 = 4) (σ : Wd) {res : Int32} (hT : X4_isSame σ r q1 = some res) : kMt E yX4_isSame mX4_isSame rmX4_isSame [.inr r, .inr q1] σ (kQz res σ) := by
  refine kMt_of (by decide +kernel) rfl (Nat.le_of_ble_eq_true rfl) ?_
  generalize hQ : (kQz res σ) = Q
  show KJ E mX4_isSame rmX4_isSame 0 [some (.inr r), some (.inr q1)] [] σ Q
  unfold X4_isSame at hT
  refine kj_aload_n dX4_isSame_0 (pc' := 1) rfl rfl rfl ?_
  refine kj_getI f_RX4_21 hr (Nat.lt_of_lt_of_le (kn4_0 hr) hE.1) dX4_isSame_1 (pc' := 4) rfl ?_
  refine kj_aload_n dX4_isSame_4 (pc' := 5) rfl rfl rfl ?_
  refine kj_getI f_RX4_21 hq1 (Nat.lt_of_lt_of_le (kn4_0 hq1) hE.1) dX4_isSame_5 (pc' := 8) rfl ?_
  refine kj_icmp_eq dX4_isSame_8 (tgt := 13) rfl (pc' := 11) rfl (fun c1 => ?_) (fun c1 => ?_)
  · rw [if_pos c1] at hT
    refine kj_iconst dX4_isSame_13 (pc' := 14) rfl kc_0 ?_
    refine kj_istore_n dX4_isSame_14 (pc' := 15) rfl rfl (Nat.le_of_ble_eq_true rfl) (ls' := [some (.inr r), some (.inr q1), some (.inl 0)]) rfl ?_
    refine lp_ind (P := fun s => KJ E mX4_isSame rmX4_isSame 15 [some (.inr r), some (.inr q1), some (.inl s)] [] σ Q) (fun rec15 s ih15 hT => ?_) FU (0) hT
    obtain ⟨x2, hs⟩ : ∃ z, z = s := ⟨_, rfl⟩
    subst hs
    show KJ E mX4_isSame rmX4_isSame 15 [some (.inr r), some (.inr q1), some (.inl x2)] [] σ Q
    rw [X4_isSame_B15] at hT
    refine kj_iload_n dX4_isSame_15 (pc' := 16) rfl rfl rfl ?_
    refine kj_aload_n dX4_isSame_16 (pc' := 17) rfl rfl rfl ?_
    refine kj_getI f_RX4_21 hr (Nat.lt_of_lt_of_le (kn4_0 hr) hE.1) dX4_isSame_17 (pc' := 20) rfl ?_
    refine kj_icmp_ge dX4_isSame_20 (tgt := 44) rfl (pc' := 23) rfl (fun c3 => ?_) (fun c3 => ?_)
    · rw [if_pos c3] at hT
      refine kj_iconst dX4_isSame_44 (pc' := 45) rfl kc_1 ?_
      have hR := Option.some.inj hT
      subst hR
      exact kj_zret rfl (Or.inr rfl) dX4_isSame_45 (by subst hQ; exact ⟨rfl, rfl, (Or.inr rfl)⟩)
    · rw [if_neg c3] at hT
      refine kj_aload_n dX4_isSame_23 (pc' := 24) rfl rfl rfl ?_
      refine kj_iload_n dX4_isSame_24 (pc' := 25) rfl rfl rfl ?_
      obtain ⟨t4, ht4, hT⟩ := bind_some' hT
      refine kcVi (as := [.inl x2]) (st := []) l_RX4_29 (m_X4_at hE hr σ x2 ht4) hr (Nat.lt_of_lt_of_le (kn4_0 hr) hE.1) rfl ⟨⟨rfl, rfl⟩, Nat.le_of_ble_eq_true rfl, Nat.le_of_ble_eq_true rfl⟩ (Nat.le_of_ble_eq_true rfl) dX4_isSame_25 (pc' := 28) rfl ?_
      refine kj_aload_n dX4_isSame_28 (pc' := 29) rfl rfl rfl ?_
      refine kj_iload_n dX4_isSame_29 (pc' := 30) rfl rfl rfl ?_
      obtain ⟨t5, ht5, hT⟩ := bind_some' hT
      refine kcVi (as := [.inl x2]) (st := [.inl t4]) l_RX4_29 (m_X4_at hE hq1 σ x2 ht5) hq1 (Nat.lt_of_lt_of_le (kn4_0 hq1) hE.1) rfl ⟨⟨rfl, rfl⟩, Nat.le_of_ble_eq_true rfl, Nat.le_of_ble_eq_true rfl⟩ (Nat.le_of_ble_eq_true rfl) dX4_isSame_30 (pc' := 33) rfl ?_
      refine kj_icmp_eq dX4_isSame_33 (tgt := 38) rfl (pc' := 36) rfl (fun c6 => ?_) (fun c6 => ?_)
      · rw [if_pos c6] at hT
        refine kj_iinc dX4_isSame_38 (pc' := 41) rfl rfl (congrArg (_ + ·) kc_1) (Nat.le_of_ble_eq_true rfl) (ls' := [some (.inr r), some (.inr q1), some (.inl (x2 + 1))]) rfl ?_
        refine kj_goto dX4_isSame_41 (pc' := 15) rfl ?_
        exact ih15 (x2 + 1) hT
      · rw [if_neg c6] at hT
        refine kj_iconst dX4_isSame_36 (pc' := 37) rfl kc_0 ?_
        have hR := Option.some.inj hT
        subst hR
        exact kj_zret rfl (Or.inl rfl) dX4_isSame_37 (by subst hQ; exact ⟨rfl, rfl, (Or.inl rfl)⟩)
  · rw [if_neg c1] at hT
    refine kj_iconst dX4_isSame_11 (pc' := 12) rfl kc_0 ?_
    have hR := Option.some.inj hT
    subst hR
    exact kj_zret rfl (Or.inl rfl) dX4_isSame_12 (by subst hQ; exact ⟨rfl, rfl, (Or.inl rfl)⟩)
