def J6_bitCount_0f7a4 (x0 : Int32) : Int32 :=
  (lett (x0 - ((ushr x0 1) &&& 1431655765)) fun t1 => (lett ((t1 &&& 858993459) + ((ushr t1 2) &&& 858993459)) fun x0 => (lett ((x0 + (ushr x0 4)) &&& 252645135) fun t2 => (lett ((t2 + (ushr t2 8)) + (ushr (t2 + (ushr t2 8)) 16)) fun x0 => (x0 &&& 63)))))
set_option maxRecDepth 100000 in
set_option maxHeartbeats 4000000 in
theorem m_J6_bitCount_0f7a4 {E : JE} (hE : 0 ≤ E.2.2.2.2.1) (σ : Wd) (x0 : Int32) {res : Int32} (hT : J6_bitCount_0f7a4 x0 = res) : kMt E yJ6_bitCount_0f7a4 mJ6_bitCount_0f7a4 rmJ6_bitCount_0f7a4 [.inl x0] σ (kQi res σ) := by
  refine kMt_of (by decide +kernel) rfl (Nat.le_of_ble_eq_true rfl) ?_
  generalize hQ : (kQi res σ) = Q
  show KJ E mJ6_bitCount_0f7a4 rmJ6_bitCount_0f7a4 0 [some (.inl x0)] [] σ Q
  unfold J6_bitCount_0f7a4 at hT
  refine kj_iload_n dJ6_bitCount_0f7a4_0 (pc' := 1) rfl rfl rfl ?_
  refine kj_iload_n dJ6_bitCount_0f7a4_1 (pc' := 2) rfl rfl rfl ?_
  refine kj_iconst dJ6_bitCount_0f7a4_2 (pc' := 3) rfl kc_1 ?_
  refine kj_iushr dJ6_bitCount_0f7a4_3 (pc' := 4) rfl ?_
  refine kj_ldc_w (v := 1431655765) (kMem 220 (by decide +kernel) rfl) dJ6_bitCount_0f7a4_4 (pc' := 7) rfl ?_
  refine kj_iand dJ6_bitCount_0f7a4_7 (pc' := 8) rfl ?_
  refine kj_isub dJ6_bitCount_0f7a4_8 (pc' := 9) rfl ?_
  obtain ⟨t1, et1, hT⟩ := lett_i hT
  rw [← et1]
  refine kj_istore_n dJ6_bitCount_0f7a4_9 (pc' := 10) rfl rfl (Nat.le_of_ble_eq_true rfl) (ls' := [some (.inl t1)]) rfl ?_
  refine kj_iload_n dJ6_bitCount_0f7a4_10 (pc' := 11) rfl rfl rfl ?_
  refine kj_ldc_w (v := 858993459) (kMem 221 (by decide +kernel) rfl) dJ6_bitCount_0f7a4_11 (pc' := 14) rfl ?_
  refine kj_iand dJ6_bitCount_0f7a4_14 (pc' := 15) rfl ?_
  refine kj_iload_n dJ6_bitCount_0f7a4_15 (pc' := 16) rfl rfl rfl ?_
  refine kj_iconst dJ6_bitCount_0f7a4_16 (pc' := 17) rfl kc_2 ?_
  refine kj_iushr dJ6_bitCount_0f7a4_17 (pc' := 18) rfl ?_
  refine kj_ldc_w (v := 858993459) (kMem 221 (by decide +kernel) rfl) dJ6_bitCount_0f7a4_18 (pc' := 21) rfl ?_
  refine kj_iand dJ6_bitCount_0f7a4_21 (pc' := 22) rfl ?_
  refine kj_iadd dJ6_bitCount_0f7a4_22 (pc' := 23) rfl ?_
  obtain ⟨x0, ex0, hT⟩ := lett_i hT
  rw [← ex0]
  refine kj_istore_n dJ6_bitCount_0f7a4_23 (pc' := 24) rfl rfl (Nat.le_of_ble_eq_true rfl) (ls' := [some (.inl x0)]) rfl ?_
  refine kj_iload_n dJ6_bitCount_0f7a4_24 (pc' := 25) rfl rfl rfl ?_
  refine kj_iload_n dJ6_bitCount_0f7a4_25 (pc' := 26) rfl rfl rfl ?_
  refine kj_iconst dJ6_bitCount_0f7a4_26 (pc' := 27) rfl kc_4 ?_
  refine kj_iushr dJ6_bitCount_0f7a4_27 (pc' := 28) rfl ?_
  refine kj_iadd dJ6_bitCount_0f7a4_28 (pc' := 29) rfl ?_
  refine kj_ldc_w (v := 252645135) (kMem 222 (by decide +kernel) rfl) dJ6_bitCount_0f7a4_29 (pc' := 32) rfl ?_
  refine kj_iand dJ6_bitCount_0f7a4_32 (pc' := 33) rfl ?_
  obtain ⟨t2, et2, hT⟩ := lett_i hT
  rw [← et2]
  refine kj_istore_n dJ6_bitCount_0f7a4_33 (pc' := 34) rfl rfl (Nat.le_of_ble_eq_true rfl) (ls' := [some (.inl t2)]) rfl ?_
  refine kj_iload_n dJ6_bitCount_0f7a4_34 (pc' := 35) rfl rfl rfl ?_
  refine kj_iload_n dJ6_bitCount_0f7a4_35 (pc' := 36) rfl rfl rfl ?_
  refine kj_bipush dJ6_bitCount_0f7a4_36 (pc' := 38) rfl kb_8 ?_
  refine kj_iushr dJ6_bitCount_0f7a4_38 (pc' := 39) rfl ?_
  refine kj_iadd dJ6_bitCount_0f7a4_39 (pc' := 40) rfl ?_
  refine kj_istore_n dJ6_bitCount_0f7a4_40 (pc' := 41) rfl rfl (Nat.le_of_ble_eq_true rfl) (ls' := [some (.inl (t2 + (ushr t2 8)))]) rfl ?_
  refine kj_iload_n dJ6_bitCount_0f7a4_41 (pc' := 42) rfl rfl rfl ?_
  refine kj_iload_n dJ6_bitCount_0f7a4_42 (pc' := 43) rfl rfl rfl ?_
  refine kj_bipush dJ6_bitCount_0f7a4_43 (pc' := 45) rfl kb_16 ?_
  refine kj_iushr dJ6_bitCount_0f7a4_45 (pc' := 46) rfl ?_
  refine kj_iadd dJ6_bitCount_0f7a4_46 (pc' := 47) rfl ?_
  obtain ⟨x0, ex0, hT⟩ := lett_i hT
  rw [← ex0]
  refine kj_istore_n dJ6_bitCount_0f7a4_47 (pc' := 48) rfl rfl (Nat.le_of_ble_eq_true rfl) (ls' := [some (.inl x0)]) rfl ?_
  refine kj_iload_n dJ6_bitCount_0f7a4_48 (pc' := 49) rfl rfl rfl ?_
  refine kj_bipush dJ6_bitCount_0f7a4_49 (pc' := 51) rfl kb_63 ?_
  refine kj_iand dJ6_bitCount_0f7a4_51 (pc' := 52) rfl ?_
  subst hT
  exact kj_iret rfl dJ6_bitCount_0f7a4_52 (by subst hQ; exact ⟨rfl, rfl⟩)
def J9_floorMod_7cf53 (x0 : Int32) (x1 : Int32) : Option (Int32) :=
  (ckZ x1 <| (if 0 ≤ (x0 ^^^ x1) then some (x0 % x1) else (if (x0 % x1) = 0 then some (x0 % x1) else some ((x0 % x1) + x1))))
set_option maxRecDepth 100000 in
set_option maxHeartbeats 4000000 in
theorem m_J9_floorMod_7cf53 {E : JE} (hE : 0 ≤ E.2.2.2.2.1) (σ : Wd) (x0 : Int32) (x1 : Int32) {res : Int32} (hT : J9_floorMod_7cf53 x0 x1 = some res) : kMt E yJ9_floorMod_7cf53 mJ9_floorMod_7cf53 rmJ9_floorMod_7cf53 [.inl x0, .inl x1] σ (kQi res σ) := by
  refine kMt_of (by decide +kernel) rfl (Nat.le_of_ble_eq_true rfl) ?_
  generalize hQ : (kQi res σ) = Q
  show KJ E mJ9_floorMod_7cf53 rmJ9_floorMod_7cf53 0 [some (.inl x0), some (.inl x1)] [] σ Q
  unfold J9_floorMod_7cf53 at hT
  refine kj_iload_n dJ9_floorMod_7cf53_0 (pc' := 1) rfl rfl rfl ?_
  refine kj_iload_n dJ9_floorMod_7cf53_1 (pc' := 2) rfl rfl rfl ?_
  obtain ⟨hz1, hT⟩ := ckZ_some hT
  refine kj_irem dJ9_floorMod_7cf53_2 (pc' := 3) rfl hz1 ?_
  refine kj_istore_n dJ9_floorMod_7cf53_3 (pc' := 4) rfl rfl (Nat.le_of_ble_eq_true rfl) (ls' := [some (.inl x0), some (.inl x1), some (.inl (x0 % x1))]) rfl ?_
  refine kj_iload_n dJ9_floorMod_7cf53_4 (pc' := 5) rfl rfl rfl ?_
  refine kj_iload_n dJ9_floorMod_7cf53_5 (pc' := 6) rfl rfl rfl ?_
  refine kj_ixor dJ9_floorMod_7cf53_6 (pc' := 7) rfl ?_
  refine kj_if_ge dJ9_floorMod_7cf53_7 (tgt := 18) rfl (pc' := 10) rfl (fun c2 => ?_) (fun c2 => ?_)
  · rw [if_pos c2] at hT
    refine kj_iload_n dJ9_floorMod_7cf53_18 (pc' := 19) rfl rfl rfl ?_
    have hR := Option.some.inj hT
    subst hR
    exact kj_iret rfl dJ9_floorMod_7cf53_19 (by subst hQ; exact ⟨rfl, rfl⟩)
  · rw [if_neg c2] at hT
    refine kj_iload_n dJ9_floorMod_7cf53_10 (pc' := 11) rfl rfl rfl ?_
    refine kj_if_eq dJ9_floorMod_7cf53_11 (tgt := 18) rfl (pc' := 14) rfl (fun c3 => ?_) (fun c3 => ?_)
    · rw [if_pos c3] at hT
      refine kj_iload_n dJ9_floorMod_7cf53_18 (pc' := 19) rfl rfl rfl ?_
      have hR := Option.some.inj hT
      subst hR
      exact kj_iret rfl dJ9_floorMod_7cf53_19 (by subst hQ; exact ⟨rfl, rfl⟩)
    · rw [if_neg c3] at hT
      refine kj_iload_n dJ9_floorMod_7cf53_14 (pc' := 15) rfl rfl rfl ?_
      refine kj_iload_n dJ9_floorMod_7cf53_15 (pc' := 16) rfl rfl rfl ?_
      refine kj_iadd dJ9_floorMod_7cf53_16 (pc' := 17) rfl ?_
      have hR := Option.some.inj hT
      subst hR
      exact kj_iret rfl dJ9_floorMod_7cf53_17 (by subst hQ; exact ⟨rfl, rfl⟩)
def J9_min_7cf53 (x0 : Int32) (x1 : Int32) : Int32 :=
  (if x1 < x0 then x1 else x0)
set_option maxRecDepth 100000 in
set_option maxHeartbeats 4000000 in
theorem m_J9_min_7cf53 {E : JE} (hE : 0 ≤ E.2.2.2.2.1) (σ : Wd) (x0 : Int32) (x1 : Int32) {res : Int32} (hT : J9_min_7cf53 x0 x1 = res) : kMt E yJ9_min_7cf53 mJ9_min_7cf53 rmJ9_min_7cf53 [.inl x0, .inl x1] σ (kQi res σ) := by
  refine kMt_of (by decide +kernel) rfl (Nat.le_of_ble_eq_true rfl) ?_
  generalize hQ : (kQi res σ) = Q
  show KJ E mJ9_min_7cf53 rmJ9_min_7cf53 0 [some (.inl x0), some (.inl x1)] [] σ Q
  unfold J9_min_7cf53 at hT
  refine kj_iload_n dJ9_min_7cf53_0 (pc' := 1) rfl rfl rfl ?_
  refine kj_iload_n dJ9_min_7cf53_1 (pc' := 2) rfl rfl rfl ?_
  refine kj_icmp_gt dJ9_min_7cf53_2 (tgt := 9) rfl (pc' := 5) rfl (fun c1 => ?_) (fun c1 => ?_)
  · rw [if_pos c1] at hT
    refine kj_iload_n dJ9_min_7cf53_9 (pc' := 10) rfl rfl rfl ?_
    subst hT
    exact kj_iret rfl dJ9_min_7cf53_10 (by subst hQ; exact ⟨rfl, rfl⟩)
  · rw [if_neg c1] at hT
    refine kj_iload_n dJ9_min_7cf53_5 (pc' := 6) rfl rfl rfl ?_
    refine kj_goto dJ9_min_7cf53_6 (pc' := 10) rfl ?_
    subst hT
    exact kj_iret rfl dJ9_min_7cf53_10 (by subst hQ; exact ⟨rfl, rfl⟩)
def J9_max_7cf53 (x0 : Int32) (x1 : Int32) : Int32 :=
  (if x0 < x1 then x1 else x0)
set_option maxRecDepth 100000 in
set_option maxHeartbeats 4000000 in
theorem m_J9_max_7cf53 {E : JE} (hE : 0 ≤ E.2.2.2.2.1) (σ : Wd) (x0 : Int32) (x1 : Int32) {res : Int32} (hT : J9_max_7cf53 x0 x1 = res) : kMt E yJ9_max_7cf53 mJ9_max_7cf53 rmJ9_max_7cf53 [.inl x0, .inl x1] σ (kQi res σ) := by
  refine kMt_of (by decide +kernel) rfl (Nat.le_of_ble_eq_true rfl) ?_
  generalize hQ : (kQi res σ) = Q
  show KJ E mJ9_max_7cf53 rmJ9_max_7cf53 0 [some (.inl x0), some (.inl x1)] [] σ Q
  unfold J9_max_7cf53 at hT
  refine kj_iload_n dJ9_max_7cf53_0 (pc' := 1) rfl rfl rfl ?_
  refine kj_iload_n dJ9_max_7cf53_1 (pc' := 2) rfl rfl rfl ?_
  refine kj_icmp_lt dJ9_max_7cf53_2 (tgt := 9) rfl (pc' := 5) rfl (fun c1 => ?_) (fun c1 => ?_)
  · rw [if_pos c1] at hT
    refine kj_iload_n dJ9_max_7cf53_9 (pc' := 10) rfl rfl rfl ?_
    subst hT
    exact kj_iret rfl dJ9_max_7cf53_10 (by subst hQ; exact ⟨rfl, rfl⟩)
  · rw [if_neg c1] at hT
    refine kj_iload_n dJ9_max_7cf53_5 (pc' := 6) rfl rfl rfl ?_
    refine kj_goto dJ9_max_7cf53_6 (pc' := 10) rfl ?_
    subst hT
    exact kj_iret rfl dJ9_max_7cf53_10 (by subst hQ; exact ⟨rfl, rfl⟩)
def J7_fill_53178_B5 (t1 : Int32) (q0 : Nat) (x1 : Int32) (rec5 : Int32 × Wd → Option (Wd)) : Int32 × Wd → Option (Wd)
  | (x2, σ) => (if t1 ≤ x2 then some σ else (ckA x2 (kLn q0) <| rec5 (x2 + 1, up σ q0 x2.toNatClampNeg x1)))
def J7_fill_53178 (σ : Wd) (q0 : Nat) (x1 : Int32) : Option (Wd) :=
  (lett (nI (kLn q0)) fun t1 => (lp (J7_fill_53178_B5 t1 q0 x1) FU (0, σ)))
set_option maxRecDepth 100000 in
set_option maxHeartbeats 4000000 in
theorem m_J7_fill_53178 {E : JE} (hE : 0 ≤ E.2.2.2.2.1) {q0 : Nat} (hq0 : kKd q0 = 20) (nq0 : q0 < E.2.2.2.2.1) (σ : Wd) (x1 : Int32) {res : Wd} (hT : J7_fill_53178 σ q0 x1 = some res) : kMt E yJ7_fill_53178 mJ7_fill_53178 rmJ7_fill_53178 [.inr q0, .inl x1] σ (kQv res) := by
  refine kMt_of (by decide +kernel) rfl (Nat.le_of_ble_eq_true rfl) ?_
  generalize hQ : (kQv res) = Q
  show KJ E mJ7_fill_53178 rmJ7_fill_53178 0 [some (.inr q0), some (.inl x1)] [] σ Q
  unfold J7_fill_53178 at hT
  refine kj_iconst dJ7_fill_53178_0 (pc' := 1) rfl kc_0 ?_
  refine kj_istore_n dJ7_fill_53178_1 (pc' := 2) rfl rfl (Nat.le_of_ble_eq_true rfl) (ls' := [some (.inr q0), some (.inl x1), some (.inl 0)]) rfl ?_
  refine kj_aload_n dJ7_fill_53178_2 (pc' := 3) rfl rfl rfl ?_
  refine kj_alen (n := 0) (v := nI (kLn q0)) 0 (ty := .int) hq0 (by decide) rfl nq0 rfl dJ7_fill_53178_3 (pc' := 4) rfl ?_
  refine kj_istore_n dJ7_fill_53178_4 (pc' := 5) rfl rfl (Nat.le_of_ble_eq_true rfl) (ls' := [some (.inr q0), some (.inl x1), some (.inl 0), some (.inl (nI (kLn q0)))]) rfl ?_
  obtain ⟨t1, et1, hT⟩ := lett_i hT
  rw [← et1]
  refine lp_ind (P := fun s => KJ E mJ7_fill_53178 rmJ7_fill_53178 5 [some (.inr q0), some (.inl x1), some (.inl s.1), some (.inl t1)] [] s.2 Q) (fun rec5 s ih5 hT => ?_) FU (0, σ) hT
  obtain ⟨x2, σ⟩ := s
  show KJ E mJ7_fill_53178 rmJ7_fill_53178 5 [some (.inr q0), some (.inl x1), some (.inl x2), some (.inl t1)] [] σ Q
  rw [J7_fill_53178_B5] at hT
  refine kj_iload_n dJ7_fill_53178_5 (pc' := 6) rfl rfl rfl ?_
  refine kj_iload_n dJ7_fill_53178_6 (pc' := 7) rfl rfl rfl ?_
  refine kj_icmp_ge dJ7_fill_53178_7 (tgt := 20) rfl (pc' := 10) rfl (fun c2 => ?_) (fun c2 => ?_)
  · rw [if_pos c2] at hT
    have hR := Option.some.inj hT
    subst hR
    exact kj_vret rfl dJ7_fill_53178_20 (by subst hQ; exact ⟨rfl, rfl⟩)
  · rw [if_neg c2] at hT
    refine kj_aload_n dJ7_fill_53178_10 (pc' := 11) rfl rfl rfl ?_
    refine kj_iload_n dJ7_fill_53178_11 (pc' := 12) rfl rfl rfl ?_
    refine kj_iload_n dJ7_fill_53178_12 (pc' := 13) rfl rfl rfl ?_
    obtain ⟨hi3, hT⟩ := ckA_some hT
    refine kj_iast hq0 nq0 hi3 rfl dJ7_fill_53178_13 (pc' := 14) rfl ?_
    refine kj_iinc dJ7_fill_53178_14 (pc' := 17) rfl rfl (congrArg (_ + ·) kc_1) (Nat.le_of_ble_eq_true rfl) (ls' := [some (.inr q0), some (.inl x1), some (.inl (x2 + 1)), some (.inl t1)]) rfl ?_
    refine kj_goto dJ7_fill_53178_17 (pc' := 5) rfl ?_
    exact ih5 (x2 + 1, up σ q0 x2.toNatClampNeg x1) hT
