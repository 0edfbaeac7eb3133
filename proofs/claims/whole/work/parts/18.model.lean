def X11_in (x0 : Int32) (x1 : Int32) (x2 : Int32) : Int32 :=
  (if x0 < x1 then 0 else (if x2 < x0 then 0 else 1))
set_option maxRecDepth 100000 in
set_option maxHeartbeats 4000000 in
theorem m_X11_in {E : JE} (hE : 0 ≤ E.2.2.2.2.1) (σ : Wd) (x0 : Int32) (x1 : Int32) (x2 : Int32) {res : Int32} (hT : X11_in x0 x1 x2 = res) : kMt E yX11_in mX11_in rmX11_in [.inl x0, .inl x1, .inl x2] σ (kQz res σ) := by
  refine kMt_of (by decide +kernel) rfl (Nat.le_of_ble_eq_true rfl) ?_
  generalize hQ : (kQz res σ) = Q
  show KJ E mX11_in rmX11_in 0 [some (.inl x0), some (.inl x1), some (.inl x2)] [] σ Q
  unfold X11_in at hT
  refine kj_iload_n dX11_in_0 (pc' := 1) rfl rfl rfl ?_
  refine kj_iload_n dX11_in_1 (pc' := 2) rfl rfl rfl ?_
  refine kj_icmp_lt dX11_in_2 (tgt := 14) rfl (pc' := 5) rfl (fun c1 => ?_) (fun c1 => ?_)
  · rw [if_pos c1] at hT
    refine kj_iconst dX11_in_14 (pc' := 15) rfl kc_0 ?_
    subst hT
    exact kj_zret rfl (Or.inl rfl) dX11_in_15 (by subst hQ; exact ⟨rfl, rfl, (Or.inl rfl)⟩)
  · rw [if_neg c1] at hT
    refine kj_iload_n dX11_in_5 (pc' := 6) rfl rfl rfl ?_
    refine kj_iload_n dX11_in_6 (pc' := 7) rfl rfl rfl ?_
    refine kj_icmp_gt dX11_in_7 (tgt := 14) rfl (pc' := 10) rfl (fun c2 => ?_) (fun c2 => ?_)
    · rw [if_pos c2] at hT
      refine kj_iconst dX11_in_14 (pc' := 15) rfl kc_0 ?_
      subst hT
      exact kj_zret rfl (Or.inl rfl) dX11_in_15 (by subst hQ; exact ⟨rfl, rfl, (Or.inl rfl)⟩)
    · rw [if_neg c2] at hT
      refine kj_iconst dX11_in_10 (pc' := 11) rfl kc_1 ?_
      refine kj_goto dX11_in_11 (pc' := 15) rfl ?_
      subst hT
      exact kj_zret rfl (Or.inr rfl) dX11_in_15 (by subst hQ; exact ⟨rfl, rfl, (Or.inr rfl)⟩)
def X11_has (x0 : Int32) (x1 : Int32) : Int32 :=
  (if ((x0 >>> (x1 &&& 31)) &&& 1) = 1 then 1 else 0)
set_option maxRecDepth 100000 in
set_option maxHeartbeats 4000000 in
theorem m_X11_has {E : JE} (hE : 0 ≤ E.2.2.2.2.1) (σ : Wd) (x0 : Int32) (x1 : Int32) {res : Int32} (hT : X11_has x0 x1 = res) : kMt E yX11_has mX11_has rmX11_has [.inl x0, .inl x1] σ (kQz res σ) := by
  refine kMt_of (by decide +kernel) rfl (Nat.le_of_ble_eq_true rfl) ?_
  generalize hQ : (kQz res σ) = Q
  show KJ E mX11_has rmX11_has 0 [some (.inl x0), some (.inl x1)] [] σ Q
  unfold X11_has at hT
  refine kj_iload_n dX11_has_0 (pc' := 1) rfl rfl rfl ?_
  refine kj_iload_n dX11_has_1 (pc' := 2) rfl rfl rfl ?_
  refine kj_ishr dX11_has_2 (pc' := 3) rfl ?_
  refine kj_iconst dX11_has_3 (pc' := 4) rfl kc_1 ?_
  refine kj_iand dX11_has_4 (pc' := 5) rfl ?_
  refine kj_iconst dX11_has_5 (pc' := 6) rfl kc_1 ?_
  refine kj_icmp_ne dX11_has_6 (tgt := 13) rfl (pc' := 9) rfl (fun c1 => ?_) (fun c1 => ?_)
  · rw [if_neg c1] at hT
    refine kj_iconst dX11_has_13 (pc' := 14) rfl kc_0 ?_
    subst hT
    exact kj_zret rfl (Or.inl rfl) dX11_has_14 (by subst hQ; exact ⟨rfl, rfl, (Or.inl rfl)⟩)
  · rw [if_pos c1] at hT
    refine kj_iconst dX11_has_9 (pc' := 10) rfl kc_1 ?_
    refine kj_goto dX11_has_10 (pc' := 14) rfl ?_
    subst hT
    exact kj_zret rfl (Or.inr rfl) dX11_has_14 (by subst hQ; exact ⟨rfl, rfl, (Or.inr rfl)⟩)
def X11_isWithin (x0 : Int32) (x1 : Int32) : Int32 :=
  (if (x0 &&& (x1 ^^^ (-1))) = 0 then 1 else 0)
set_option maxRecDepth 100000 in
set_option maxHeartbeats 4000000 in
theorem m_X11_isWithin {E : JE} (hE : 0 ≤ E.2.2.2.2.1) (σ : Wd) (x0 : Int32) (x1 : Int32) {res : Int32} (hT : X11_isWithin x0 x1 = res) : kMt E yX11_isWithin mX11_isWithin rmX11_isWithin [.inl x0, .inl x1] σ (kQz res σ) := by
  refine kMt_of (by decide +kernel) rfl (Nat.le_of_ble_eq_true rfl) ?_
  generalize hQ : (kQz res σ) = Q
  show KJ E mX11_isWithin rmX11_isWithin 0 [some (.inl x0), some (.inl x1)] [] σ Q
  unfold X11_isWithin at hT
  refine kj_iload_n dX11_isWithin_0 (pc' := 1) rfl rfl rfl ?_
  refine kj_iload_n dX11_isWithin_1 (pc' := 2) rfl rfl rfl ?_
  refine kj_iconst dX11_isWithin_2 (pc' := 3) rfl kc_m1 ?_
  refine kj_ixor dX11_isWithin_3 (pc' := 4) rfl ?_
  refine kj_iand dX11_isWithin_4 (pc' := 5) rfl ?_
  refine kj_if_ne dX11_isWithin_5 (tgt := 12) rfl (pc' := 8) rfl (fun c1 => ?_) (fun c1 => ?_)
  · rw [if_neg c1] at hT
    refine kj_iconst dX11_isWithin_12 (pc' := 13) rfl kc_0 ?_
    subst hT
    exact kj_zret rfl (Or.inl rfl) dX11_isWithin_13 (by subst hQ; exact ⟨rfl, rfl, (Or.inl rfl)⟩)
  · rw [if_pos c1] at hT
    refine kj_iconst dX11_isWithin_8 (pc' := 9) rfl kc_1 ?_
    refine kj_goto dX11_isWithin_9 (pc' := 13) rfl ?_
    subst hT
    exact kj_zret rfl (Or.inr rfl) dX11_isWithin_13 (by subst hQ; exact ⟨rfl, rfl, (Or.inr rfl)⟩)
def X11_ones_B4 (x0 : Int32) (rec4 : Int32 × Int32 → Option (Int32)) : Int32 × Int32 → Option (Int32)
  | (x1, x2) => (if 7 ≤ x2 then some x1 else (lett (x1 + ((x0 >>> (x2 &&& 31)) &&& 1)) fun t3 => rec4 (t3, x2 + 1)))
def X11_ones (x0 : Int32) : Option (Int32) :=
  (lp (X11_ones_B4 x0) FU (0, 0))
set_option maxRecDepth 100000 in
set_option maxHeartbeats 4000000 in
theorem m_X11_ones {E : JE} (hE : 0 ≤ E.2.2.2.2.1) (σ : Wd) (x0 : Int32) {res : Int32} (hT : X11_ones x0 = some res) : kMt E yX11_ones mX11_ones rmX11_ones [.inl x0] σ (kQi res σ) := by
  refine kMt_of (by decide +kernel) rfl (Nat.le_of_ble_eq_true rfl) ?_
  generalize hQ : (kQi res σ) = Q
  show KJ E mX11_ones rmX11_ones 0 [some (.inl x0)] [] σ Q
  unfold X11_ones at hT
  refine kj_iconst dX11_ones_0 (pc' := 1) rfl kc_0 ?_
  refine kj_istore_n dX11_ones_1 (pc' := 2) rfl rfl (Nat.le_of_ble_eq_true rfl) (ls' := [some (.inl x0), some (.inl 0)]) rfl ?_
  refine kj_iconst dX11_ones_2 (pc' := 3) rfl kc_0 ?_
  refine kj_istore_n dX11_ones_3 (pc' := 4) rfl rfl (Nat.le_of_ble_eq_true rfl) (ls' := [some (.inl x0), some (.inl 0), some (.inl 0)]) rfl ?_
  refine lp_ind (P := fun s => KJ E mX11_ones rmX11_ones 4 [some (.inl x0), some (.inl s.1), some (.inl s.2)] [] σ Q) (fun rec4 s ih4 hT => ?_) FU (0, 0) hT
  obtain ⟨x1, x2⟩ := s
  show KJ E mX11_ones rmX11_ones 4 [some (.inl x0), some (.inl x1), some (.inl x2)] [] σ Q
  rw [X11_ones_B4] at hT
  refine kj_iload_n dX11_ones_4 (pc' := 5) rfl rfl rfl ?_
  refine kj_bipush dX11_ones_5 (pc' := 7) rfl kb_7 ?_
  refine kj_icmp_ge dX11_ones_7 (tgt := 24) rfl (pc' := 10) rfl (fun c2 => ?_) (fun c2 => ?_)
  · rw [if_pos c2] at hT
    refine kj_iload_n dX11_ones_24 (pc' := 25) rfl rfl rfl ?_
    have hR := Option.some.inj hT
    subst hR
    exact kj_iret rfl dX11_ones_25 (by subst hQ; exact ⟨rfl, rfl⟩)
  · rw [if_neg c2] at hT
    refine kj_iload_n dX11_ones_10 (pc' := 11) rfl rfl rfl ?_
    refine kj_iload_n dX11_ones_11 (pc' := 12) rfl rfl rfl ?_
    refine kj_iload_n dX11_ones_12 (pc' := 13) rfl rfl rfl ?_
    refine kj_ishr dX11_ones_13 (pc' := 14) rfl ?_
    refine kj_iconst dX11_ones_14 (pc' := 15) rfl kc_1 ?_
    refine kj_iand dX11_ones_15 (pc' := 16) rfl ?_
    refine kj_iadd dX11_ones_16 (pc' := 17) rfl ?_
    obtain ⟨t3, et3, hT⟩ := lett_i hT
    rw [← et3]
    refine kj_istore_n dX11_ones_17 (pc' := 18) rfl rfl (Nat.le_of_ble_eq_true rfl) (ls' := [some (.inl x0), some (.inl t3), some (.inl x2)]) rfl ?_
    refine kj_iinc dX11_ones_18 (pc' := 21) rfl rfl (congrArg (_ + ·) kc_1) (Nat.le_of_ble_eq_true rfl) (ls' := [some (.inl x0), some (.inl t3), some (.inl (x2 + 1))]) rfl ?_
    refine kj_goto dX11_ones_21 (pc' := 4) rfl ?_
    exact ih4 (t3, x2 + 1) hT
def X11_starts_B24 (q0 : Nat) (rec24 : Int32 × Wd → Option (Wd)) : Int32 × Wd → Option (Wd)
  | (x1, σ) => (if 7 ≤ x1 then some σ else (ckA (3 + x1) (kLn q0) <| rec24 (x1 + 1, up σ q0 ((3 + x1).toNatClampNeg) 1)))
def X11_starts_T18 (q0 : Nat) (σ : Wd) : Option (Wd) :=
  (ckA 0 (kLn q0) <| (lp (X11_starts_B24 q0) FU (0, up σ q0 0 4)))
def X11_starts_B2 (q0 : Nat) (kx2 : Wd → Option (Wd)) (rec2 : Int32 × Wd → Option (Wd)) : Int32 × Wd → Option (Wd)
  | (x1, σ) => (if 42 ≤ x1 then kx2 σ else (ckA x1 (kLn q0) <| rec2 (x1 + 1, up σ q0 x1.toNatClampNeg 0)))
def X11_starts (σ : Wd) (q0 : Nat) : Option (Wd) :=
  (lp (X11_starts_B2 q0 (X11_starts_T18 q0)) FU (0, σ))
set_option maxRecDepth 100000 in
set_option maxHeartbeats 4000000 in
theorem m_X11_starts {E : JE} (hE : 0 ≤ E.2.2.2.2.1) {q0 : Nat} (hq0 : kKd q0 = 20) (nq0 : q0 < E.2.2.2.2.1) (σ : Wd) {res : Wd} (hT : X11_starts σ q0 = some res) : kMt E yX11_starts mX11_starts rmX11_starts [.inr q0] σ (kQv res) := by
  refine kMt_of (by decide +kernel) rfl (Nat.le_of_ble_eq_true rfl) ?_
  generalize hQ : (kQv res) = Q
  show KJ E mX11_starts rmX11_starts 0 [some (.inr q0)] [] σ Q
  unfold X11_starts at hT
  refine kj_iconst dX11_starts_0 (pc' := 1) rfl kc_0 ?_
  refine kj_istore_n dX11_starts_1 (pc' := 2) rfl rfl (Nat.le_of_ble_eq_true rfl) (ls' := [some (.inr q0), some (.inl 0)]) rfl ?_
  have hX2 : ∀ σ, X11_starts_T18 q0 σ = some res → KJ E mX11_starts rmX11_starts 18 [some (.inr q0)] [] σ Q := by
    intro σ hT
    unfold X11_starts_T18 at hT
    refine kj_aload_n dX11_starts_18 (pc' := 19) rfl rfl rfl ?_
    refine kj_iconst dX11_starts_19 (pc' := 20) rfl kc_0 ?_
    refine kj_iconst dX11_starts_20 (pc' := 21) rfl kc_4 ?_
    obtain ⟨hi1, hT⟩ := ckA_some hT
    refine kj_iast hq0 nq0 hi1 (j := 0) (by decide +kernel) dX11_starts_21 (pc' := 22) rfl ?_
    refine kj_iconst dX11_starts_22 (pc' := 23) rfl kc_0 ?_
    refine kj_istore_n dX11_starts_23 (pc' := 24) rfl rfl (Nat.le_of_ble_eq_true rfl) (ls' := [some (.inr q0), some (.inl 0)]) rfl ?_
    refine lp_ind (P := fun s => KJ E mX11_starts rmX11_starts 24 [some (.inr q0), some (.inl s.1)] [] s.2 Q) (fun rec24 s ih24 hT => ?_) FU (0, up σ q0 0 4) hT
    obtain ⟨x1, σ⟩ := s
    show KJ E mX11_starts rmX11_starts 24 [some (.inr q0), some (.inl x1)] [] σ Q
    rw [X11_starts_B24] at hT
    refine kj_iload_n dX11_starts_24 (pc' := 25) rfl rfl rfl ?_
    refine kj_bipush dX11_starts_25 (pc' := 27) rfl kb_7 ?_
    refine kj_icmp_ge dX11_starts_27 (tgt := 42) rfl (pc' := 30) rfl (fun c2 => ?_) (fun c2 => ?_)
    · rw [if_pos c2] at hT
      have hR := Option.some.inj hT
      subst hR
      exact kj_vret rfl dX11_starts_42 (by subst hQ; exact ⟨rfl, rfl⟩)
    · rw [if_neg c2] at hT
      refine kj_aload_n dX11_starts_30 (pc' := 31) rfl rfl rfl ?_
      refine kj_iconst dX11_starts_31 (pc' := 32) rfl kc_3 ?_
      refine kj_iload_n dX11_starts_32 (pc' := 33) rfl rfl rfl ?_
      refine kj_iadd dX11_starts_33 (pc' := 34) rfl ?_
      refine kj_iconst dX11_starts_34 (pc' := 35) rfl kc_1 ?_
      obtain ⟨hi3, hT⟩ := ckA_some hT
      refine kj_iast hq0 nq0 hi3 rfl dX11_starts_35 (pc' := 36) rfl ?_
      refine kj_iinc dX11_starts_36 (pc' := 39) rfl rfl (congrArg (_ + ·) kc_1) (Nat.le_of_ble_eq_true rfl) (ls' := [some (.inr q0), some (.inl (x1 + 1))]) rfl ?_
      refine kj_goto dX11_starts_39 (pc' := 24) rfl ?_
      exact ih24 (x1 + 1, up σ q0 ((3 + x1).toNatClampNeg) 1) hT
  refine lp_ind (P := fun s => KJ E mX11_starts rmX11_starts 2 [some (.inr q0), some (.inl s.1)] [] s.2 Q) (fun rec2 s ih2 hT => ?_) FU (0, σ) hT
  obtain ⟨x1, σ⟩ := s
  show KJ E mX11_starts rmX11_starts 2 [some (.inr q0), some (.inl x1)] [] σ Q
  rw [X11_starts_B2] at hT
  refine kj_iload_n dX11_starts_2 (pc' := 3) rfl rfl rfl ?_
  refine kj_bipush dX11_starts_3 (pc' := 5) rfl kb_42 ?_
  refine kj_icmp_ge dX11_starts_5 (tgt := 18) rfl (pc' := 8) rfl (fun c4 => ?_) (fun c4 => ?_)
  · rw [if_pos c4] at hT
    refine kj_keep [true] (ls' := [some (.inr q0)]) rfl ?_
    exact hX2 σ hT
  · rw [if_neg c4] at hT
    refine kj_aload_n dX11_starts_8 (pc' := 9) rfl rfl rfl ?_
    refine kj_iload_n dX11_starts_9 (pc' := 10) rfl rfl rfl ?_
    refine kj_iconst dX11_starts_10 (pc' := 11) rfl kc_0 ?_
    obtain ⟨hi5, hT⟩ := ckA_some hT
    refine kj_iast hq0 nq0 hi5 rfl dX11_starts_11 (pc' := 12) rfl ?_
    refine kj_iinc dX11_starts_12 (pc' := 15) rfl rfl (congrArg (_ + ·) kc_1) (Nat.le_of_ble_eq_true rfl) (ls' := [some (.inr q0), some (.inl (x1 + 1))]) rfl ?_
    refine kj_goto dX11_starts_15 (pc' := 2) rfl ?_
    exact ih2 (x1 + 1, up σ q0 x1.toNatClampNeg 0) hT
def X11_keeps_B52 (rec52 : Int32 × Wd → Option (Wd)) : Int32 × Wd → Option (Wd)
  | (x1, σ) => (if 42 ≤ x1 then some (up σ 120 4 ((σ 120 4) + 1)) else (ckA x1 42 <| (ckA ((42 * (σ 120 4)) + x1) 504 <| rec52 (x1 + 1, up σ 123 (((42 * (σ 120 4)) + x1).toNatClampNeg) (σ 121 x1.toNatClampNeg)))))
def X11_keeps_J50 (ς : Wd) : Option (Wd) :=
  (lp (X11_keeps_B52) FU (0, ς))
def X11_keeps_T40 (σ : Wd) : Option (Wd) :=
  X11_keeps_J50 (up σ 120 4 ((σ 120 4) - 1))
def X11_keeps_B12 (kx12 : Wd → Option (Wd)) (rec12 : Int32 × Wd → Option (Wd)) : Int32 × Wd → Option (Wd)
  | (x1, σ) => (if 504 ≤ x1 then kx12 σ else (ckA x1 504 <| (ckA (x1 - 42) 504 <| rec12 (x1 + 1, up σ 123 ((x1 - 42).toNatClampNeg) (σ 123 x1.toNatClampNeg)))))
def X11_keeps (σ : Wd) : Option (Wd) :=
  (if (σ 120 4) = 12 then (lp (X11_keeps_B12 X11_keeps_T40) FU (42, σ)) else X11_keeps_J50 σ)
set_option maxRecDepth 100000 in
set_option maxHeartbeats 4000000 in
theorem m_X11_keeps {E : JE} (hE : kOk 140 E) (σ : Wd) {res : Wd} (hT : X11_keeps σ = some res) : kMt E yX11_keeps mX11_keeps rmX11_keeps [.inr 120] σ (kQv res) := by
  refine kMt_of (by decide +kernel) rfl (Nat.le_of_ble_eq_true rfl) ?_
  generalize hQ : (kQv res) = Q
  show KJ E mX11_keeps rmX11_keeps 0 [some (.inr 120)] [] σ Q
  unfold X11_keeps at hT
  have hJ50 : ∀ ς, X11_keeps_J50 ς = some res → KJ E mX11_keeps rmX11_keeps 50 [some (.inr 120)] [] ς Q := by
    intro ς hT
    unfold X11_keeps_J50 at hT
    refine kj_iconst dX11_keeps_50 (pc' := 51) rfl kc_0 ?_
    refine kj_istore_n dX11_keeps_51 (pc' := 52) rfl rfl (Nat.le_of_ble_eq_true rfl) (ls' := [some (.inr 120), some (.inl 0)]) rfl ?_
    refine lp_ind (P := fun s => KJ E mX11_keeps rmX11_keeps 52 [some (.inr 120), some (.inl s.1)] [] s.2 Q) (fun rec52 s ih52 hT => ?_) FU (0, ς) hT
    obtain ⟨x1, σ⟩ := s
    show KJ E mX11_keeps rmX11_keeps 52 [some (.inr 120), some (.inl x1)] [] σ Q
    rw [X11_keeps_B52] at hT
    refine kj_iload_n dX11_keeps_52 (pc' := 53) rfl rfl rfl ?_
    refine kj_bipush dX11_keeps_53 (pc' := 55) rfl kb_42 ?_
    refine kj_icmp_ge dX11_keeps_55 (tgt := 84) rfl (pc' := 58) rfl (fun c2 => ?_) (fun c2 => ?_)
    · rw [if_pos c2] at hT
      refine kj_aload_n dX11_keeps_84 (pc' := 85) rfl rfl rfl ?_
      refine kj_dup dX11_keeps_85 (pc' := 86) rfl ?_
      refine kj_getI f_RX11_77 rfl (Nat.lt_of_lt_of_le (Nat.le_of_ble_eq_true rfl : 120 < 140) hE.1) dX11_keeps_86 (pc' := 89) rfl ?_
      refine kj_iconst dX11_keeps_89 (pc' := 90) rfl kc_1 ?_
      refine kj_iadd dX11_keeps_90 (pc' := 91) rfl ?_
      refine kj_putI p_RX11_77 rfl rfl rfl (Nat.lt_of_lt_of_le (Nat.le_of_ble_eq_true rfl : 120 < 140) hE.1) dX11_keeps_91 (pc' := 94) rfl ?_
      have hR := Option.some.inj hT
      subst hR
      exact kj_vret rfl dX11_keeps_94 (by subst hQ; exact ⟨rfl, rfl⟩)
    · rw [if_neg c2] at hT
      refine kj_aload_n dX11_keeps_58 (pc' := 59) rfl rfl rfl ?_
      refine kj_getR f_RX11_20 rfl (Nat.lt_of_lt_of_le (Nat.le_of_ble_eq_true rfl : 120 < 140) hE.1) (hE.2 _ _) (q := 123) rfl dX11_keeps_59 (pc' := 62) rfl ?_
      refine kj_bipush dX11_keeps_62 (pc' := 64) rfl kb_42 ?_
      refine kj_aload_n dX11_keeps_64 (pc' := 65) rfl rfl rfl ?_
      refine kj_getI f_RX11_77 rfl (Nat.lt_of_lt_of_le (Nat.le_of_ble_eq_true rfl : 120 < 140) hE.1) dX11_keeps_65 (pc' := 68) rfl ?_
      refine kj_imul dX11_keeps_68 (pc' := 69) rfl ?_
      refine kj_iload_n dX11_keeps_69 (pc' := 70) rfl rfl rfl ?_
      refine kj_iadd dX11_keeps_70 (pc' := 71) rfl ?_
      refine kj_aload_n dX11_keeps_71 (pc' := 72) rfl rfl rfl ?_
      refine kj_getR f_RX11_13 rfl (Nat.lt_of_lt_of_le (Nat.le_of_ble_eq_true rfl : 120 < 140) hE.1) (hE.2 _ _) (q := 121) rfl dX11_keeps_72 (pc' := 75) rfl ?_
      refine kj_iload_n dX11_keeps_75 (pc' := 76) rfl rfl rfl ?_
      obtain ⟨hi3, hT⟩ := ckA_some hT
      refine kj_iald rfl (Nat.lt_of_lt_of_le (Nat.le_of_ble_eq_true rfl : 121 < 140) hE.1) hi3 rfl dX11_keeps_76 (pc' := 77) rfl ?_
      obtain ⟨hi4, hT⟩ := ckA_some hT
      refine kj_iast rfl (Nat.lt_of_lt_of_le (Nat.le_of_ble_eq_true rfl : 123 < 140) hE.1) hi4 rfl dX11_keeps_77 (pc' := 78) rfl ?_
      refine kj_iinc dX11_keeps_78 (pc' := 81) rfl rfl (congrArg (_ + ·) kc_1) (Nat.le_of_ble_eq_true rfl) (ls' := [some (.inr 120), some (.inl (x1 + 1))]) rfl ?_
      refine kj_goto dX11_keeps_81 (pc' := 52) rfl ?_
      exact ih52 (x1 + 1, up σ 123 (((42 * (σ 120 4)) + x1).toNatClampNeg) (σ 121 x1.toNatClampNeg)) hT
  refine kj_aload_n dX11_keeps_0 (pc' := 1) rfl rfl rfl ?_
  refine kj_getI f_RX11_77 rfl (Nat.lt_of_lt_of_le (Nat.le_of_ble_eq_true rfl : 120 < 140) hE.1) dX11_keeps_1 (pc' := 4) rfl ?_
  refine kj_bipush dX11_keeps_4 (pc' := 6) rfl kb_12 ?_
  refine kj_icmp_ne dX11_keeps_6 (tgt := 50) rfl (pc' := 9) rfl (fun c1 => ?_) (fun c1 => ?_)
  · rw [if_neg c1] at hT
    exact hJ50 σ hT
  · rw [if_pos c1] at hT
    refine kj_bipush dX11_keeps_9 (pc' := 11) rfl kb_42 ?_
    refine kj_istore_n dX11_keeps_11 (pc' := 12) rfl rfl (Nat.le_of_ble_eq_true rfl) (ls' := [some (.inr 120), some (.inl 42)]) rfl ?_
    have hX12 : ∀ σ, X11_keeps_T40 σ = some res → KJ E mX11_keeps rmX11_keeps 40 [some (.inr 120)] [] σ Q := by
      intro σ hT
      unfold X11_keeps_T40 at hT
      refine kj_aload_n dX11_keeps_40 (pc' := 41) rfl rfl rfl ?_
      refine kj_dup dX11_keeps_41 (pc' := 42) rfl ?_
      refine kj_getI f_RX11_77 rfl (Nat.lt_of_lt_of_le (Nat.le_of_ble_eq_true rfl : 120 < 140) hE.1) dX11_keeps_42 (pc' := 45) rfl ?_
      refine kj_iconst dX11_keeps_45 (pc' := 46) rfl kc_1 ?_
      refine kj_isub dX11_keeps_46 (pc' := 47) rfl ?_
      refine kj_putI p_RX11_77 rfl rfl rfl (Nat.lt_of_lt_of_le (Nat.le_of_ble_eq_true rfl : 120 < 140) hE.1) dX11_keeps_47 (pc' := 50) rfl ?_
      exact hJ50 (up σ 120 4 ((σ 120 4) - 1)) hT
    refine lp_ind (P := fun s => KJ E mX11_keeps rmX11_keeps 12 [some (.inr 120), some (.inl s.1)] [] s.2 Q) (fun rec12 s ih12 hT => ?_) FU (42, σ) hT
    obtain ⟨x1, σ⟩ := s
    show KJ E mX11_keeps rmX11_keeps 12 [some (.inr 120), some (.inl x1)] [] σ Q
    rw [X11_keeps_B12] at hT
    refine kj_iload_n dX11_keeps_12 (pc' := 13) rfl rfl rfl ?_
    refine kj_sipush dX11_keeps_13 (pc' := 16) rfl ks_504 ?_
    refine kj_icmp_ge dX11_keeps_16 (tgt := 40) rfl (pc' := 19) rfl (fun c5 => ?_) (fun c5 => ?_)
    · rw [if_pos c5] at hT
      refine kj_keep [true] (ls' := [some (.inr 120)]) rfl ?_
      exact hX12 σ hT
    · rw [if_neg c5] at hT
      refine kj_aload_n dX11_keeps_19 (pc' := 20) rfl rfl rfl ?_
      refine kj_getR f_RX11_20 rfl (Nat.lt_of_lt_of_le (Nat.le_of_ble_eq_true rfl : 120 < 140) hE.1) (hE.2 _ _) (q := 123) rfl dX11_keeps_20 (pc' := 23) rfl ?_
      refine kj_iload_n dX11_keeps_23 (pc' := 24) rfl rfl rfl ?_
      refine kj_bipush dX11_keeps_24 (pc' := 26) rfl kb_42 ?_
      refine kj_isub dX11_keeps_26 (pc' := 27) rfl ?_
      refine kj_aload_n dX11_keeps_27 (pc' := 28) rfl rfl rfl ?_
      refine kj_getR f_RX11_20 rfl (Nat.lt_of_lt_of_le (Nat.le_of_ble_eq_true rfl : 120 < 140) hE.1) (hE.2 _ _) (q := 123) rfl dX11_keeps_28 (pc' := 31) rfl ?_
      refine kj_iload_n dX11_keeps_31 (pc' := 32) rfl rfl rfl ?_
      obtain ⟨hi6, hT⟩ := ckA_some hT
      refine kj_iald rfl (Nat.lt_of_lt_of_le (Nat.le_of_ble_eq_true rfl : 123 < 140) hE.1) hi6 rfl dX11_keeps_32 (pc' := 33) rfl ?_
      obtain ⟨hi7, hT⟩ := ckA_some hT
      refine kj_iast rfl (Nat.lt_of_lt_of_le (Nat.le_of_ble_eq_true rfl : 123 < 140) hE.1) hi7 rfl dX11_keeps_33 (pc' := 34) rfl ?_
      refine kj_iinc dX11_keeps_34 (pc' := 37) rfl rfl (congrArg (_ + ·) kc_1) (Nat.le_of_ble_eq_true rfl) (ls' := [some (.inr 120), some (.inl (x1 + 1))]) rfl ?_
      refine kj_goto dX11_keeps_37 (pc' := 12) rfl ?_
      exact ih12 (x1 + 1, up σ 123 ((x1 - 42).toNatClampNeg) (σ 123 x1.toNatClampNeg)) hT
def X11_many (σ : Wd) : Int32 :=
  (σ 121 1)
set_option maxRecDepth 100000 in
set_option maxHeartbeats 4000000 in
theorem m_X11_many {E : JE} (hE : kOk 140 E) (σ : Wd) {res : Int32} (hT : X11_many σ = res) : kMt E yX11_many mX11_many rmX11_many [.inr 120] σ (kQi res σ) := by
  refine kMt_of (by decide +kernel) rfl (Nat.le_of_ble_eq_true rfl) ?_
  generalize hQ : (kQi res σ) = Q
  show KJ E mX11_many rmX11_many 0 [some (.inr 120)] [] σ Q
  unfold X11_many at hT
  refine kj_aload_n dX11_many_0 (pc' := 1) rfl rfl rfl ?_
  refine kj_getR f_RX11_13 rfl (Nat.lt_of_lt_of_le (Nat.le_of_ble_eq_true rfl : 120 < 140) hE.1) (hE.2 _ _) (q := 121) rfl dX11_many_1 (pc' := 4) rfl ?_
  refine kj_iconst dX11_many_4 (pc' := 5) rfl kc_1 ?_
  refine kj_iald rfl (Nat.lt_of_lt_of_le (Nat.le_of_ble_eq_true rfl : 121 < 140) hE.1) (vp_lit (by decide +kernel)) (j := 1) (by decide +kernel) dX11_many_5 (pc' := 6) rfl ?_
  subst hT
  exact kj_iret rfl dX11_many_6 (by subst hQ; exact ⟨rfl, rfl⟩)
def X11_gen (σ : Wd) (x1 : Int32) : Option (Int32) :=
  (ckA (10 + x1) 42 <| some (σ 121 ((10 + x1).toNatClampNeg)))
set_option maxRecDepth 100000 in
set_option maxHeartbeats 4000000 in
theorem m_X11_gen {E : JE} (hE : kOk 140 E) (σ : Wd) (x1 : Int32) {res : Int32} (hT : X11_gen σ x1 = some res) : kMt E yX11_gen mX11_gen rmX11_gen [.inr 120, .inl x1] σ (kQi res σ) := by
  refine kMt_of (by decide +kernel) rfl (Nat.le_of_ble_eq_true rfl) ?_
  generalize hQ : (kQi res σ) = Q
  show KJ E mX11_gen rmX11_gen 0 [some (.inr 120), some (.inl x1)] [] σ Q
  unfold X11_gen at hT
  refine kj_aload_n dX11_gen_0 (pc' := 1) rfl rfl rfl ?_
  refine kj_getR f_RX11_13 rfl (Nat.lt_of_lt_of_le (Nat.le_of_ble_eq_true rfl : 120 < 140) hE.1) (hE.2 _ _) (q := 121) rfl dX11_gen_1 (pc' := 4) rfl ?_
  refine kj_bipush dX11_gen_4 (pc' := 6) rfl kb_10 ?_
  refine kj_iload_n dX11_gen_6 (pc' := 7) rfl rfl rfl ?_
  refine kj_iadd dX11_gen_7 (pc' := 8) rfl ?_
  obtain ⟨hi1, hT⟩ := ckA_some hT
  refine kj_iald rfl (Nat.lt_of_lt_of_le (Nat.le_of_ble_eq_true rfl : 121 < 140) hE.1) hi1 rfl dX11_gen_8 (pc' := 9) rfl ?_
  have hR := Option.some.inj hT
  subst hR
  exact kj_iret rfl dX11_gen_9 (by subst hQ; exact ⟨rfl, rfl⟩)
def X11_isGenerator (σ : Wd) (x1 : Int32) : Int32 :=
  (X11_in x1 0 ((X11_many σ) - 1))
set_option maxRecDepth 100000 in
set_option maxHeartbeats 4000000 in
theorem m_X11_isGenerator {E : JE} (hE : kOk 140 E) (σ : Wd) (x1 : Int32) {res : Int32} (hT : X11_isGenerator σ x1 = res) : kMt E yX11_isGenerator mX11_isGenerator rmX11_isGenerator [.inr 120, .inl x1] σ (kQz res σ) := by
  refine kMt_of (by decide +kernel) rfl (Nat.le_of_ble_eq_true rfl) ?_
  generalize hQ : (kQz res σ) = Q
  show KJ E mX11_isGenerator rmX11_isGenerator 0 [some (.inr 120), some (.inl x1)] [] σ Q
  unfold X11_isGenerator at hT
  refine kj_iload_n dX11_isGenerator_0 (pc' := 1) rfl rfl rfl ?_
  refine kj_iconst dX11_isGenerator_1 (pc' := 2) rfl kc_0 ?_
  refine kj_aload_n dX11_isGenerator_2 (pc' := 3) rfl rfl rfl ?_
  refine kcVi (as := []) (st := [.inl 0, .inl x1]) l_RX11_80 (m_X11_many hE σ rfl) rfl (Nat.lt_of_lt_of_le (Nat.le_of_ble_eq_true rfl : 120 < 140) hE.1) rfl ⟨⟨rfl, rfl⟩, Nat.le_of_ble_eq_true rfl, Nat.le_of_ble_eq_true rfl⟩ (Nat.le_of_ble_eq_true rfl) dX11_isGenerator_3 (pc' := 6) rfl ?_
  refine kj_iconst dX11_isGenerator_6 (pc' := 7) rfl kc_1 ?_
  refine kj_isub dX11_isGenerator_7 (pc' := 8) rfl ?_
  refine kcSz (as := [.inl x1, .inl 0, .inl ((X11_many σ) - 1)]) (st := []) l_RX11_84 (m_X11_in (Nat.zero_le _) σ x1 0 ((X11_many σ) - 1) rfl) rfl ⟨⟨rfl, rfl⟩, Nat.le_of_ble_eq_true rfl, Nat.le_of_ble_eq_true rfl⟩ (Nat.le_of_ble_eq_true rfl) dX11_isGenerator_8 (pc' := 11) rfl (fun z1 => ?_)
  subst hT
  exact kj_zret rfl z1 dX11_isGenerator_11 (by subst hQ; exact ⟨rfl, rfl, z1⟩)
def X11_isPoint (σ : Wd) (x1 : Int32) : Int32 :=
  (X11_in x1 0 ((σ 121 0) - 1))
set_option maxRecDepth 100000 in
set_option maxHeartbeats 4000000 in
theorem m_X11_isPoint {E : JE} (hE : kOk 140 E) (σ : Wd) (x1 : Int32) {res : Int32} (hT : X11_isPoint σ x1 = res) : kMt E yX11_isPoint mX11_isPoint rmX11_isPoint [.inr 120, .inl x1] σ (kQz res σ) := by
  refine kMt_of (by decide +kernel) rfl (Nat.le_of_ble_eq_true rfl) ?_
  generalize hQ : (kQz res σ) = Q
  show KJ E mX11_isPoint rmX11_isPoint 0 [some (.inr 120), some (.inl x1)] [] σ Q
  unfold X11_isPoint at hT
  refine kj_iload_n dX11_isPoint_0 (pc' := 1) rfl rfl rfl ?_
  refine kj_iconst dX11_isPoint_1 (pc' := 2) rfl kc_0 ?_
  refine kj_aload_n dX11_isPoint_2 (pc' := 3) rfl rfl rfl ?_
  refine kj_getR f_RX11_13 rfl (Nat.lt_of_lt_of_le (Nat.le_of_ble_eq_true rfl : 120 < 140) hE.1) (hE.2 _ _) (q := 121) rfl dX11_isPoint_3 (pc' := 6) rfl ?_
  refine kj_iconst dX11_isPoint_6 (pc' := 7) rfl kc_0 ?_
  refine kj_iald rfl (Nat.lt_of_lt_of_le (Nat.le_of_ble_eq_true rfl : 121 < 140) hE.1) (vp_lit (by decide +kernel)) (j := 0) (by decide +kernel) dX11_isPoint_7 (pc' := 8) rfl ?_
  refine kj_iconst dX11_isPoint_8 (pc' := 9) rfl kc_1 ?_
  refine kj_isub dX11_isPoint_9 (pc' := 10) rfl ?_
  refine kcSz (as := [.inl x1, .inl 0, .inl ((σ 121 0) - 1)]) (st := []) l_RX11_84 (m_X11_in (Nat.zero_le _) σ x1 0 ((σ 121 0) - 1) rfl) rfl ⟨⟨rfl, rfl⟩, Nat.le_of_ble_eq_true rfl, Nat.le_of_ble_eq_true rfl⟩ (Nat.le_of_ble_eq_true rfl) dX11_isPoint_10 (pc' := 13) rfl (fun z1 => ?_)
  subst hT
  exact kj_zret rfl z1 dX11_isPoint_13 (by subst hQ; exact ⟨rfl, rfl, z1⟩)
def X11_allPoints (σ : Wd) : Int32 :=
  ((1 <<< ((σ 121 0) &&& 31)) - 1)
set_option maxRecDepth 100000 in
set_option maxHeartbeats 4000000 in
theorem m_X11_allPoints {E : JE} (hE : kOk 140 E) (σ : Wd) {res : Int32} (hT : X11_allPoints σ = res) : kMt E yX11_allPoints mX11_allPoints rmX11_allPoints [.inr 120] σ (kQi res σ) := by
  refine kMt_of (by decide +kernel) rfl (Nat.le_of_ble_eq_true rfl) ?_
  generalize hQ : (kQi res σ) = Q
  show KJ E mX11_allPoints rmX11_allPoints 0 [some (.inr 120)] [] σ Q
  unfold X11_allPoints at hT
  refine kj_iconst dX11_allPoints_0 (pc' := 1) rfl kc_1 ?_
  refine kj_aload_n dX11_allPoints_1 (pc' := 2) rfl rfl rfl ?_
  refine kj_getR f_RX11_13 rfl (Nat.lt_of_lt_of_le (Nat.le_of_ble_eq_true rfl : 120 < 140) hE.1) (hE.2 _ _) (q := 121) rfl dX11_allPoints_2 (pc' := 5) rfl ?_
  refine kj_iconst dX11_allPoints_5 (pc' := 6) rfl kc_0 ?_
  refine kj_iald rfl (Nat.lt_of_lt_of_le (Nat.le_of_ble_eq_true rfl : 121 < 140) hE.1) (vp_lit (by decide +kernel)) (j := 0) (by decide +kernel) dX11_allPoints_6 (pc' := 7) rfl ?_
  refine kj_ishl dX11_allPoints_7 (pc' := 8) rfl ?_
  refine kj_iconst dX11_allPoints_8 (pc' := 9) rfl kc_1 ?_
  refine kj_isub dX11_allPoints_9 (pc' := 10) rfl ?_
  subst hT
  exact kj_iret rfl dX11_allPoints_10 (by subst hQ; exact ⟨rfl, rfl⟩)
def X11_isSet (σ : Wd) (x1 : Int32) : Int32 :=
  (X11_in x1 0 (X11_allPoints σ))
set_option maxRecDepth 100000 in
set_option maxHeartbeats 4000000 in
theorem m_X11_isSet {E : JE} (hE : kOk 140 E) (σ : Wd) (x1 : Int32) {res : Int32} (hT : X11_isSet σ x1 = res) : kMt E yX11_isSet mX11_isSet rmX11_isSet [.inr 120, .inl x1] σ (kQz res σ) := by
  refine kMt_of (by decide +kernel) rfl (Nat.le_of_ble_eq_true rfl) ?_
  generalize hQ : (kQz res σ) = Q
  show KJ E mX11_isSet rmX11_isSet 0 [some (.inr 120), some (.inl x1)] [] σ Q
  unfold X11_isSet at hT
  refine kj_iload_n dX11_isSet_0 (pc' := 1) rfl rfl rfl ?_
  refine kj_iconst dX11_isSet_1 (pc' := 2) rfl kc_0 ?_
  refine kj_aload_n dX11_isSet_2 (pc' := 3) rfl rfl rfl ?_
  refine kcVi (as := []) (st := [.inl 0, .inl x1]) l_RX11_88 (m_X11_allPoints hE σ rfl) rfl (Nat.lt_of_lt_of_le (Nat.le_of_ble_eq_true rfl : 120 < 140) hE.1) rfl ⟨⟨rfl, rfl⟩, Nat.le_of_ble_eq_true rfl, Nat.le_of_ble_eq_true rfl⟩ (Nat.le_of_ble_eq_true rfl) dX11_isSet_3 (pc' := 6) rfl ?_
  refine kcSz (as := [.inl x1, .inl 0, .inl (X11_allPoints σ)]) (st := []) l_RX11_84 (m_X11_in (Nat.zero_le _) σ x1 0 (X11_allPoints σ) rfl) rfl ⟨⟨rfl, rfl⟩, Nat.le_of_ble_eq_true rfl, Nat.le_of_ble_eq_true rfl⟩ (Nat.le_of_ble_eq_true rfl) dX11_isSet_6 (pc' := 9) rfl (fun z1 => ?_)
  subst hT
  exact kj_zret rfl z1 dX11_isSet_9 (by subst hQ; exact ⟨rfl, rfl, z1⟩)
def X11_isThere_B3 (x2 : Int32) (x1 : Int32) (q0 : Nat) (σ : Wd) (x3 : Int32) (rec3 : Int32 → Option (Int32)) : Int32 → Option (Int32)
  | (x4) => (if x2 ≤ x4 then some 0 else (ckA (x1 + x4) (kLn q0) <| (if (σ q0 ((x1 + x4).toNatClampNeg)) = x3 then some 1 else rec3 (x4 + 1))))
def X11_isThere (σ : Wd) (q0 : Nat) (x1 : Int32) (x2 : Int32) (x3 : Int32) : Option (Int32) :=
  (lp (X11_isThere_B3 x2 x1 q0 σ x3) FU (0))
set_option maxRecDepth 100000 in
set_option maxHeartbeats 4000000 in
theorem m_X11_isThere {E : JE} (hE : 0 ≤ E.2.2.2.2.1) {q0 : Nat} (hq0 : kKd q0 = 20) (nq0 : q0 < E.2.2.2.2.1) (σ : Wd) (x1 : Int32) (x2 : Int32) (x3 : Int32) {res : Int32} (hT : X11_isThere σ q0 x1 x2 x3 = some res) : kMt E yX11_isThere mX11_isThere rmX11_isThere [.inr q0, .inl x1, .inl x2, .inl x3] σ (kQz res σ) := by
  refine kMt_of (by decide +kernel) rfl (Nat.le_of_ble_eq_true rfl) ?_
  generalize hQ : (kQz res σ) = Q
  show KJ E mX11_isThere rmX11_isThere 0 [some (.inr q0), some (.inl x1), some (.inl x2), some (.inl x3)] [] σ Q
  unfold X11_isThere at hT
  refine kj_iconst dX11_isThere_0 (pc' := 1) rfl kc_0 ?_
  refine kj_istore dX11_isThere_1 (pc' := 3) rfl (Nat.le_of_ble_eq_true rfl) (ls' := [some (.inr q0), some (.inl x1), some (.inl x2), some (.inl x3), some (.inl 0)]) rfl ?_
  refine lp_ind (P := fun s => KJ E mX11_isThere rmX11_isThere 3 [some (.inr q0), some (.inl x1), some (.inl x2), some (.inl x3), some (.inl s)] [] σ Q) (fun rec3 s ih3 hT => ?_) FU (0) hT
  obtain ⟨x4, hs⟩ : ∃ z, z = s := ⟨_, rfl⟩
  subst hs
  show KJ E mX11_isThere rmX11_isThere 3 [some (.inr q0), some (.inl x1), some (.inl x2), some (.inl x3), some (.inl x4)] [] σ Q
  rw [X11_isThere_B3] at hT
  refine kj_iload dX11_isThere_3 (pc' := 5) rfl rfl ?_
  refine kj_iload_n dX11_isThere_5 (pc' := 6) rfl rfl rfl ?_
  refine kj_icmp_ge dX11_isThere_6 (tgt := 27) rfl (pc' := 9) rfl (fun c2 => ?_) (fun c2 => ?_)
  · rw [if_pos c2] at hT
    refine kj_iconst dX11_isThere_27 (pc' := 28) rfl kc_0 ?_
    have hR := Option.some.inj hT
    subst hR
    exact kj_zret rfl (Or.inl rfl) dX11_isThere_28 (by subst hQ; exact ⟨rfl, rfl, (Or.inl rfl)⟩)
  · rw [if_neg c2] at hT
    refine kj_aload_n dX11_isThere_9 (pc' := 10) rfl rfl rfl ?_
    refine kj_iload_n dX11_isThere_10 (pc' := 11) rfl rfl rfl ?_
    refine kj_iload dX11_isThere_11 (pc' := 13) rfl rfl ?_
    refine kj_iadd dX11_isThere_13 (pc' := 14) rfl ?_
    obtain ⟨hi3, hT⟩ := ckA_some hT
    refine kj_iald hq0 nq0 hi3 rfl dX11_isThere_14 (pc' := 15) rfl ?_
    refine kj_iload_n dX11_isThere_15 (pc' := 16) rfl rfl rfl ?_
    refine kj_icmp_ne dX11_isThere_16 (tgt := 21) rfl (pc' := 19) rfl (fun c4 => ?_) (fun c4 => ?_)
    · rw [if_neg c4] at hT
      refine kj_iinc dX11_isThere_21 (pc' := 24) rfl rfl (congrArg (_ + ·) kc_1) (Nat.le_of_ble_eq_true rfl) (ls' := [some (.inr q0), some (.inl x1), some (.inl x2), some (.inl x3), some (.inl (x4 + 1))]) rfl ?_
      refine kj_goto dX11_isThere_24 (pc' := 3) rfl ?_
      exact ih3 (x4 + 1) hT
    · rw [if_pos c4] at hT
      refine kj_iconst dX11_isThere_19 (pc' := 20) rfl kc_1 ?_
      have hR := Option.some.inj hT
      subst hR
      exact kj_zret rfl (Or.inr rfl) dX11_isThere_20 (by subst hQ; exact ⟨rfl, rfl, (Or.inr rfl)⟩)
def X11_isTold (σ : Wd) (x1 : Int32) : Option (Int32) :=
  ((X11_isThere σ 121 10 (X11_many σ) x1).bind fun t1 => some t1)
set_option maxRecDepth 100000 in
set_option maxHeartbeats 4000000 in
theorem m_X11_isTold {E : JE} (hE : kOk 140 E) (σ : Wd) (x1 : Int32) {res : Int32} (hT : X11_isTold σ x1 = some res) : kMt E yX11_isTold mX11_isTold rmX11_isTold [.inr 120, .inl x1] σ (kQz res σ) := by
  refine kMt_of (by decide +kernel) rfl (Nat.le_of_ble_eq_true rfl) ?_
  generalize hQ : (kQz res σ) = Q
  show KJ E mX11_isTold rmX11_isTold 0 [some (.inr 120), some (.inl x1)] [] σ Q
  unfold X11_isTold at hT
  refine kj_aload_n dX11_isTold_0 (pc' := 1) rfl rfl rfl ?_
  refine kj_getR f_RX11_13 rfl (Nat.lt_of_lt_of_le (Nat.le_of_ble_eq_true rfl : 120 < 140) hE.1) (hE.2 _ _) (q := 121) rfl dX11_isTold_1 (pc' := 4) rfl ?_
  refine kj_bipush dX11_isTold_4 (pc' := 6) rfl kb_10 ?_
  refine kj_aload_n dX11_isTold_6 (pc' := 7) rfl rfl rfl ?_
  refine kcVi (as := []) (st := [.inl 10, .inr 121]) l_RX11_80 (m_X11_many hE σ rfl) rfl (Nat.lt_of_lt_of_le (Nat.le_of_ble_eq_true rfl : 120 < 140) hE.1) rfl ⟨⟨rfl, rfl⟩, Nat.le_of_ble_eq_true rfl, Nat.le_of_ble_eq_true rfl⟩ (Nat.le_of_ble_eq_true rfl) dX11_isTold_7 (pc' := 10) rfl ?_
  refine kj_iload_n dX11_isTold_10 (pc' := 11) rfl rfl rfl ?_
  obtain ⟨t1, ht1, hT⟩ := bind_some' hT
  refine kcSz (as := [.inr 121, .inl 10, .inl (X11_many σ), .inl x1]) (st := []) l_RX11_91 (m_X11_isThere (Nat.zero_le _) rfl (Nat.lt_of_lt_of_le (Nat.le_of_ble_eq_true rfl : 121 < 140) hE.1) σ 10 (X11_many σ) x1 ht1) rfl ⟨⟨rfl, rfl⟩, Nat.le_of_ble_eq_true rfl, Nat.le_of_ble_eq_true rfl⟩ (Nat.le_of_ble_eq_true rfl) dX11_isTold_11 (pc' := 14) rfl (fun z2 => ?_)
  have hR := Option.some.inj hT
  subst hR
  exact kj_zret rfl z2 dX11_isTold_14 (by subst hQ; exact ⟨rfl, rfl, z2⟩)
def X11_generate (σ : Wd) (x1 : Int32) : Option (Int32 × Wd) :=
  (if (X11_isSet σ x1) = 0 then some ((-1), σ) else (if x1 = 0 then some ((-1), σ) else ((X11_isTold σ x1).bind fun t4 => (if t4 = 0 then (if (X11_many σ) = 12 then some ((-1), σ) else ((X11_keeps σ).bind fun σ8 => (ckA (10 + (X11_many σ8)) 42 <| some ((X11_many (up (up σ8 121 ((10 + (X11_many σ8)).toNatClampNeg) x1) 121 1 (((up σ8 121 ((10 + (X11_many σ8)).toNatClampNeg) x1) 121 1) + 1))) - 1, up (up σ8 121 ((10 + (X11_many σ8)).toNatClampNeg) x1) 121 1 (((up σ8 121 ((10 + (X11_many σ8)).toNatClampNeg) x1) 121 1) + 1))))) else some ((-1), σ)))))
set_option maxRecDepth 100000 in
set_option maxHeartbeats 4000000 in
theorem m_X11_generate {E : JE} (hE : kOk 140 E) (σ : Wd) (x1 : Int32) {res : Int32 × Wd} (hT : X11_generate σ x1 = some res) : kMt E yX11_generate mX11_generate rmX11_generate [.inr 120, .inl x1] σ (kQi res.1 res.2) := by
  refine kMt_of (by decide +kernel) rfl (Nat.le_of_ble_eq_true rfl) ?_
  generalize hQ : (kQi res.1 res.2) = Q
  show KJ E mX11_generate rmX11_generate 0 [some (.inr 120), some (.inl x1)] [] σ Q
  unfold X11_generate at hT
  refine kj_aload_n dX11_generate_0 (pc' := 1) rfl rfl rfl ?_
  refine kj_iload_n dX11_generate_1 (pc' := 2) rfl rfl rfl ?_
  refine kcVz (as := [.inl x1]) (st := []) l_RX11_95 (m_X11_isSet hE σ x1 rfl) rfl (Nat.lt_of_lt_of_le (Nat.le_of_ble_eq_true rfl : 120 < 140) hE.1) rfl ⟨⟨rfl, rfl⟩, Nat.le_of_ble_eq_true rfl, Nat.le_of_ble_eq_true rfl⟩ (Nat.le_of_ble_eq_true rfl) dX11_generate_2 (pc' := 5) rfl (fun z1 => ?_)
  refine kj_if_eq dX11_generate_5 (tgt := 29) rfl (pc' := 8) rfl (fun c2 => ?_) (fun c2 => ?_)
  · rw [if_pos c2] at hT
    refine kj_iconst dX11_generate_29 (pc' := 30) rfl kc_m1 ?_
    have hR := Option.some.inj hT
    subst hR
    exact kj_iret rfl dX11_generate_30 (by subst hQ; exact ⟨rfl, rfl⟩)
  · rw [if_neg c2] at hT
    refine kj_iload_n dX11_generate_8 (pc' := 9) rfl rfl rfl ?_
    refine kj_if_eq dX11_generate_9 (tgt := 29) rfl (pc' := 12) rfl (fun c3 => ?_) (fun c3 => ?_)
    · rw [if_pos c3] at hT
      refine kj_iconst dX11_generate_29 (pc' := 30) rfl kc_m1 ?_
      have hR := Option.some.inj hT
      subst hR
      exact kj_iret rfl dX11_generate_30 (by subst hQ; exact ⟨rfl, rfl⟩)
    · rw [if_neg c3] at hT
      refine kj_aload_n dX11_generate_12 (pc' := 13) rfl rfl rfl ?_
      refine kj_iload_n dX11_generate_13 (pc' := 14) rfl rfl rfl ?_
      obtain ⟨t4, ht4, hT⟩ := bind_some' hT
      refine kcVz (as := [.inl x1]) (st := []) l_RX11_99 (m_X11_isTold hE σ x1 ht4) rfl (Nat.lt_of_lt_of_le (Nat.le_of_ble_eq_true rfl : 120 < 140) hE.1) rfl ⟨⟨rfl, rfl⟩, Nat.le_of_ble_eq_true rfl, Nat.le_of_ble_eq_true rfl⟩ (Nat.le_of_ble_eq_true rfl) dX11_generate_14 (pc' := 17) rfl (fun z5 => ?_)
      refine kj_if_ne dX11_generate_17 (tgt := 29) rfl (pc' := 20) rfl (fun c6 => ?_) (fun c6 => ?_)
      · rw [if_neg c6] at hT
        refine kj_iconst dX11_generate_29 (pc' := 30) rfl kc_m1 ?_
        have hR := Option.some.inj hT
        subst hR
        exact kj_iret rfl dX11_generate_30 (by subst hQ; exact ⟨rfl, rfl⟩)
      · rw [if_pos c6] at hT
        refine kj_aload_n dX11_generate_20 (pc' := 21) rfl rfl rfl ?_
        refine kcVi (as := []) (st := []) l_RX11_80 (m_X11_many hE σ rfl) rfl (Nat.lt_of_lt_of_le (Nat.le_of_ble_eq_true rfl : 120 < 140) hE.1) rfl ⟨⟨rfl, rfl⟩, Nat.le_of_ble_eq_true rfl, Nat.le_of_ble_eq_true rfl⟩ (Nat.le_of_ble_eq_true rfl) dX11_generate_21 (pc' := 24) rfl ?_
        refine kj_bipush dX11_generate_24 (pc' := 26) rfl kb_12 ?_
        refine kj_icmp_ne dX11_generate_26 (tgt := 31) rfl (pc' := 29) rfl (fun c7 => ?_) (fun c7 => ?_)
        · rw [if_neg c7] at hT
          refine kj_aload_n dX11_generate_31 (pc' := 32) rfl rfl rfl ?_
          obtain ⟨σ8, hσ8, hT⟩ := bind_some' hT
          refine kcVv (as := []) (st := []) l_RX11_102 (m_X11_keeps hE σ hσ8) rfl (Nat.lt_of_lt_of_le (Nat.le_of_ble_eq_true rfl : 120 < 140) hE.1) rfl ⟨⟨rfl, rfl⟩, Nat.le_of_ble_eq_true rfl, Nat.le_of_ble_eq_true rfl⟩ (Nat.le_of_ble_eq_true rfl) dX11_generate_32 (pc' := 35) rfl ?_
          refine kj_aload_n dX11_generate_35 (pc' := 36) rfl rfl rfl ?_
          refine kj_getR f_RX11_13 rfl (Nat.lt_of_lt_of_le (Nat.le_of_ble_eq_true rfl : 120 < 140) hE.1) (hE.2 _ _) (q := 121) rfl dX11_generate_36 (pc' := 39) rfl ?_
          refine kj_bipush dX11_generate_39 (pc' := 41) rfl kb_10 ?_
          refine kj_aload_n dX11_generate_41 (pc' := 42) rfl rfl rfl ?_
          refine kcVi (as := []) (st := [.inl 10, .inr 121]) l_RX11_80 (m_X11_many hE σ8 rfl) rfl (Nat.lt_of_lt_of_le (Nat.le_of_ble_eq_true rfl : 120 < 140) hE.1) rfl ⟨⟨rfl, rfl⟩, Nat.le_of_ble_eq_true rfl, Nat.le_of_ble_eq_true rfl⟩ (Nat.le_of_ble_eq_true rfl) dX11_generate_42 (pc' := 45) rfl ?_
          refine kj_iadd dX11_generate_45 (pc' := 46) rfl ?_
          refine kj_iload_n dX11_generate_46 (pc' := 47) rfl rfl rfl ?_
          obtain ⟨hi9, hT⟩ := ckA_some hT
          refine kj_iast rfl (Nat.lt_of_lt_of_le (Nat.le_of_ble_eq_true rfl : 121 < 140) hE.1) hi9 rfl dX11_generate_47 (pc' := 48) rfl ?_
          refine kj_aload_n dX11_generate_48 (pc' := 49) rfl rfl rfl ?_
          refine kj_getR f_RX11_13 rfl (Nat.lt_of_lt_of_le (Nat.le_of_ble_eq_true rfl : 120 < 140) hE.1) (hE.2 _ _) (q := 121) rfl dX11_generate_49 (pc' := 52) rfl ?_
          refine kj_iconst dX11_generate_52 (pc' := 53) rfl kc_1 ?_
          refine kj_dup2 dX11_generate_53 (pc' := 54) rfl ?_
          refine kj_iald rfl (Nat.lt_of_lt_of_le (Nat.le_of_ble_eq_true rfl : 121 < 140) hE.1) (vp_lit (by decide +kernel)) (j := 1) (by decide +kernel) dX11_generate_54 (pc' := 55) rfl ?_
          refine kj_iconst dX11_generate_55 (pc' := 56) rfl kc_1 ?_
          refine kj_iadd dX11_generate_56 (pc' := 57) rfl ?_
          refine kj_iast rfl (Nat.lt_of_lt_of_le (Nat.le_of_ble_eq_true rfl : 121 < 140) hE.1) (vp_lit (by decide +kernel)) (j := 1) (by decide +kernel) dX11_generate_57 (pc' := 58) rfl ?_
          refine kj_aload_n dX11_generate_58 (pc' := 59) rfl rfl rfl ?_
          refine kcVi (as := []) (st := []) l_RX11_80 (m_X11_many hE (up (up σ8 121 ((10 + (X11_many σ8)).toNatClampNeg) x1) 121 1 (((up σ8 121 ((10 + (X11_many σ8)).toNatClampNeg) x1) 121 1) + 1)) rfl) rfl (Nat.lt_of_lt_of_le (Nat.le_of_ble_eq_true rfl : 120 < 140) hE.1) rfl ⟨⟨rfl, rfl⟩, Nat.le_of_ble_eq_true rfl, Nat.le_of_ble_eq_true rfl⟩ (Nat.le_of_ble_eq_true rfl) dX11_generate_59 (pc' := 62) rfl ?_
          refine kj_iconst dX11_generate_62 (pc' := 63) rfl kc_1 ?_
          refine kj_isub dX11_generate_63 (pc' := 64) rfl ?_
          have hR := Option.some.inj hT
          subst hR
          exact kj_iret rfl dX11_generate_64 (by subst hQ; exact ⟨rfl, rfl⟩)
        · rw [if_pos c7] at hT
          refine kj_iconst dX11_generate_29 (pc' := 30) rfl kc_m1 ?_
          have hR := Option.some.inj hT
          subst hR
          exact kj_iret rfl dX11_generate_30 (by subst hQ; exact ⟨rfl, rfl⟩)
def X11_takesOut_B2 (rec2 : Int32 × Wd → Option (Wd)) : Int32 × Wd → Option (Wd)
  | (x2, σ) => (if (X11_many σ) ≤ (x2 + 1) then some (up σ 121 1 ((σ 121 1) - 1)) else (ckA ((10 + x2) + 1) 42 <| (ckA (10 + x2) 42 <| rec2 (x2 + 1, up σ 121 ((10 + x2).toNatClampNeg) (σ 121 (((10 + x2) + 1).toNatClampNeg))))))
def X11_takesOut (σ : Wd) (x1 : Int32) : Option (Wd) :=
  (lp (X11_takesOut_B2) FU (x1, σ))
set_option maxRecDepth 100000 in
set_option maxHeartbeats 4000000 in
theorem m_X11_takesOut {E : JE} (hE : kOk 140 E) (σ : Wd) (x1 : Int32) {res : Wd} (hT : X11_takesOut σ x1 = some res) : kMt E yX11_takesOut mX11_takesOut rmX11_takesOut [.inr 120, .inl x1] σ (kQv res) := by
  refine kMt_of (by decide +kernel) rfl (Nat.le_of_ble_eq_true rfl) ?_
  generalize hQ : (kQv res) = Q
  show KJ E mX11_takesOut rmX11_takesOut 0 [some (.inr 120), some (.inl x1)] [] σ Q
  unfold X11_takesOut at hT
  refine kj_iload_n dX11_takesOut_0 (pc' := 1) rfl rfl rfl ?_
  refine kj_istore_n dX11_takesOut_1 (pc' := 2) rfl rfl (Nat.le_of_ble_eq_true rfl) (ls' := [some (.inr 120), some (.inl x1), some (.inl x1)]) rfl ?_
  refine kj_keep [true, false, true] (ls' := [some (.inr 120), none, some (.inl x1)]) rfl ?_
  refine lp_ind (P := fun s => KJ E mX11_takesOut rmX11_takesOut 2 [some (.inr 120), none, some (.inl s.1)] [] s.2 Q) (fun rec2 s ih2 hT => ?_) FU (x1, σ) hT
  obtain ⟨x2, σ⟩ := s
  show KJ E mX11_takesOut rmX11_takesOut 2 [some (.inr 120), none, some (.inl x2)] [] σ Q
  rw [X11_takesOut_B2] at hT
  refine kj_iload_n dX11_takesOut_2 (pc' := 3) rfl rfl rfl ?_
  refine kj_iconst dX11_takesOut_3 (pc' := 4) rfl kc_1 ?_
  refine kj_iadd dX11_takesOut_4 (pc' := 5) rfl ?_
  refine kj_aload_n dX11_takesOut_5 (pc' := 6) rfl rfl rfl ?_
  refine kcVi (as := []) (st := [.inl (x2 + 1)]) l_RX11_80 (m_X11_many hE σ rfl) rfl (Nat.lt_of_lt_of_le (Nat.le_of_ble_eq_true rfl : 120 < 140) hE.1) rfl ⟨⟨rfl, rfl⟩, Nat.le_of_ble_eq_true rfl, Nat.le_of_ble_eq_true rfl⟩ (Nat.le_of_ble_eq_true rfl) dX11_takesOut_6 (pc' := 9) rfl ?_
  refine kj_icmp_ge dX11_takesOut_9 (tgt := 38) rfl (pc' := 12) rfl (fun c1 => ?_) (fun c1 => ?_)
  · rw [if_pos c1] at hT
    refine kj_aload_n dX11_takesOut_38 (pc' := 39) rfl rfl rfl ?_
    refine kj_getR f_RX11_13 rfl (Nat.lt_of_lt_of_le (Nat.le_of_ble_eq_true rfl : 120 < 140) hE.1) (hE.2 _ _) (q := 121) rfl dX11_takesOut_39 (pc' := 42) rfl ?_
    refine kj_iconst dX11_takesOut_42 (pc' := 43) rfl kc_1 ?_
    refine kj_dup2 dX11_takesOut_43 (pc' := 44) rfl ?_
    refine kj_iald rfl (Nat.lt_of_lt_of_le (Nat.le_of_ble_eq_true rfl : 121 < 140) hE.1) (vp_lit (by decide +kernel)) (j := 1) (by decide +kernel) dX11_takesOut_44 (pc' := 45) rfl ?_
    refine kj_iconst dX11_takesOut_45 (pc' := 46) rfl kc_1 ?_
    refine kj_isub dX11_takesOut_46 (pc' := 47) rfl ?_
    refine kj_iast rfl (Nat.lt_of_lt_of_le (Nat.le_of_ble_eq_true rfl : 121 < 140) hE.1) (vp_lit (by decide +kernel)) (j := 1) (by decide +kernel) dX11_takesOut_47 (pc' := 48) rfl ?_
    have hR := Option.some.inj hT
    subst hR
    exact kj_vret rfl dX11_takesOut_48 (by subst hQ; exact ⟨rfl, rfl⟩)
  · rw [if_neg c1] at hT
    refine kj_aload_n dX11_takesOut_12 (pc' := 13) rfl rfl rfl ?_
    refine kj_getR f_RX11_13 rfl (Nat.lt_of_lt_of_le (Nat.le_of_ble_eq_true rfl : 120 < 140) hE.1) (hE.2 _ _) (q := 121) rfl dX11_takesOut_13 (pc' := 16) rfl ?_
    refine kj_bipush dX11_takesOut_16 (pc' := 18) rfl kb_10 ?_
    refine kj_iload_n dX11_takesOut_18 (pc' := 19) rfl rfl rfl ?_
    refine kj_iadd dX11_takesOut_19 (pc' := 20) rfl ?_
    refine kj_aload_n dX11_takesOut_20 (pc' := 21) rfl rfl rfl ?_
    refine kj_getR f_RX11_13 rfl (Nat.lt_of_lt_of_le (Nat.le_of_ble_eq_true rfl : 120 < 140) hE.1) (hE.2 _ _) (q := 121) rfl dX11_takesOut_21 (pc' := 24) rfl ?_
    refine kj_bipush dX11_takesOut_24 (pc' := 26) rfl kb_10 ?_
    refine kj_iload_n dX11_takesOut_26 (pc' := 27) rfl rfl rfl ?_
    refine kj_iadd dX11_takesOut_27 (pc' := 28) rfl ?_
    refine kj_iconst dX11_takesOut_28 (pc' := 29) rfl kc_1 ?_
    refine kj_iadd dX11_takesOut_29 (pc' := 30) rfl ?_
    obtain ⟨hi2, hT⟩ := ckA_some hT
    refine kj_iald rfl (Nat.lt_of_lt_of_le (Nat.le_of_ble_eq_true rfl : 121 < 140) hE.1) hi2 rfl dX11_takesOut_30 (pc' := 31) rfl ?_
    obtain ⟨hi3, hT⟩ := ckA_some hT
    refine kj_iast rfl (Nat.lt_of_lt_of_le (Nat.le_of_ble_eq_true rfl : 121 < 140) hE.1) hi3 rfl dX11_takesOut_31 (pc' := 32) rfl ?_
    refine kj_iinc dX11_takesOut_32 (pc' := 35) rfl rfl (congrArg (_ + ·) kc_1) (Nat.le_of_ble_eq_true rfl) (ls' := [some (.inr 120), none, some (.inl (x2 + 1))]) rfl ?_
    refine kj_goto dX11_takesOut_35 (pc' := 2) rfl ?_
    exact ih2 (x2 + 1, up σ 121 ((10 + x2).toNatClampNeg) (σ 121 (((10 + x2) + 1).toNatClampNeg))) hT
def X11_drop (σ : Wd) (x1 : Int32) : Option (Int32 × Wd) :=
  (if (X11_isGenerator σ x1) = 0 then some (0, σ) else ((X11_keeps σ).bind fun σ3 => ((X11_takesOut σ3 x1).bind fun σ4 => some (1, σ4))))
set_option maxRecDepth 100000 in
set_option maxHeartbeats 4000000 in
theorem m_X11_drop {E : JE} (hE : kOk 140 E) (σ : Wd) (x1 : Int32) {res : Int32 × Wd} (hT : X11_drop σ x1 = some res) : kMt E yX11_drop mX11_drop rmX11_drop [.inr 120, .inl x1] σ (kQz res.1 res.2) := by
  refine kMt_of (by decide +kernel) rfl (Nat.le_of_ble_eq_true rfl) ?_
  generalize hQ : (kQz res.1 res.2) = Q
  show KJ E mX11_drop rmX11_drop 0 [some (.inr 120), some (.inl x1)] [] σ Q
  unfold X11_drop at hT
  refine kj_aload_n dX11_drop_0 (pc' := 1) rfl rfl rfl ?_
  refine kj_iload_n dX11_drop_1 (pc' := 2) rfl rfl rfl ?_
  refine kcVz (as := [.inl x1]) (st := []) l_RX11_105 (m_X11_isGenerator hE σ x1 rfl) rfl (Nat.lt_of_lt_of_le (Nat.le_of_ble_eq_true rfl : 120 < 140) hE.1) rfl ⟨⟨rfl, rfl⟩, Nat.le_of_ble_eq_true rfl, Nat.le_of_ble_eq_true rfl⟩ (Nat.le_of_ble_eq_true rfl) dX11_drop_2 (pc' := 5) rfl (fun z1 => ?_)
  refine kj_if_ne dX11_drop_5 (tgt := 10) rfl (pc' := 8) rfl (fun c2 => ?_) (fun c2 => ?_)
  · rw [if_neg c2] at hT
    refine kj_aload_n dX11_drop_10 (pc' := 11) rfl rfl rfl ?_
    obtain ⟨σ3, hσ3, hT⟩ := bind_some' hT
    refine kcVv (as := []) (st := []) l_RX11_102 (m_X11_keeps hE σ hσ3) rfl (Nat.lt_of_lt_of_le (Nat.le_of_ble_eq_true rfl : 120 < 140) hE.1) rfl ⟨⟨rfl, rfl⟩, Nat.le_of_ble_eq_true rfl, Nat.le_of_ble_eq_true rfl⟩ (Nat.le_of_ble_eq_true rfl) dX11_drop_11 (pc' := 14) rfl ?_
    refine kj_aload_n dX11_drop_14 (pc' := 15) rfl rfl rfl ?_
    refine kj_iload_n dX11_drop_15 (pc' := 16) rfl rfl rfl ?_
    obtain ⟨σ4, hσ4, hT⟩ := bind_some' hT
    refine kcVv (as := [.inl x1]) (st := []) l_RX11_108 (m_X11_takesOut hE σ3 x1 hσ4) rfl (Nat.lt_of_lt_of_le (Nat.le_of_ble_eq_true rfl : 120 < 140) hE.1) rfl ⟨⟨rfl, rfl⟩, Nat.le_of_ble_eq_true rfl, Nat.le_of_ble_eq_true rfl⟩ (Nat.le_of_ble_eq_true rfl) dX11_drop_16 (pc' := 19) rfl ?_
    refine kj_iconst dX11_drop_19 (pc' := 20) rfl kc_1 ?_
    have hR := Option.some.inj hT
    subst hR
    exact kj_zret rfl (Or.inr rfl) dX11_drop_20 (by subst hQ; exact ⟨rfl, rfl, (Or.inr rfl)⟩)
  · rw [if_pos c2] at hT
    refine kj_iconst dX11_drop_8 (pc' := 9) rfl kc_0 ?_
    have hR := Option.some.inj hT
    subst hR
    exact kj_zret rfl (Or.inl rfl) dX11_drop_9 (by subst hQ; exact ⟨rfl, rfl, (Or.inl rfl)⟩)
def X11_change (σ : Wd) (x1 : Int32) (x2 : Int32) : Option (Int32 × Wd) :=
  (if (X11_isGenerator σ x1) = 0 then some ((-1), σ) else (if (X11_isSet σ x2) = 0 then some ((-1), σ) else (if x2 = 0 then some ((-1), σ) else ((X11_isTold σ x2).bind fun t6 => (if t6 = 0 then ((X11_keeps σ).bind fun σ9 => ((X11_gen σ9 x1).bind fun t10 => (ckA (10 + x1) 42 <| some (t10, up σ9 121 ((10 + x1).toNatClampNeg) x2)))) else some ((-1), σ))))))
set_option maxRecDepth 100000 in
set_option maxHeartbeats 4000000 in
theorem m_X11_change {E : JE} (hE : kOk 140 E) (σ : Wd) (x1 : Int32) (x2 : Int32) {res : Int32 × Wd} (hT : X11_change σ x1 x2 = some res) : kMt E yX11_change mX11_change rmX11_change [.inr 120, .inl x1, .inl x2] σ (kQi res.1 res.2) := by
  refine kMt_of (by decide +kernel) rfl (Nat.le_of_ble_eq_true rfl) ?_
  generalize hQ : (kQi res.1 res.2) = Q
  show KJ E mX11_change rmX11_change 0 [some (.inr 120), some (.inl x1), some (.inl x2)] [] σ Q
  unfold X11_change at hT
  refine kj_aload_n dX11_change_0 (pc' := 1) rfl rfl rfl ?_
  refine kj_iload_n dX11_change_1 (pc' := 2) rfl rfl rfl ?_
  refine kcVz (as := [.inl x1]) (st := []) l_RX11_105 (m_X11_isGenerator hE σ x1 rfl) rfl (Nat.lt_of_lt_of_le (Nat.le_of_ble_eq_true rfl : 120 < 140) hE.1) rfl ⟨⟨rfl, rfl⟩, Nat.le_of_ble_eq_true rfl, Nat.le_of_ble_eq_true rfl⟩ (Nat.le_of_ble_eq_true rfl) dX11_change_2 (pc' := 5) rfl (fun z1 => ?_)
  refine kj_if_eq dX11_change_5 (tgt := 28) rfl (pc' := 8) rfl (fun c2 => ?_) (fun c2 => ?_)
  · rw [if_pos c2] at hT
    refine kj_iconst dX11_change_28 (pc' := 29) rfl kc_m1 ?_
    have hR := Option.some.inj hT
    subst hR
    exact kj_iret rfl dX11_change_29 (by subst hQ; exact ⟨rfl, rfl⟩)
  · rw [if_neg c2] at hT
    refine kj_aload_n dX11_change_8 (pc' := 9) rfl rfl rfl ?_
    refine kj_iload_n dX11_change_9 (pc' := 10) rfl rfl rfl ?_
    refine kcVz (as := [.inl x2]) (st := []) l_RX11_95 (m_X11_isSet hE σ x2 rfl) rfl (Nat.lt_of_lt_of_le (Nat.le_of_ble_eq_true rfl : 120 < 140) hE.1) rfl ⟨⟨rfl, rfl⟩, Nat.le_of_ble_eq_true rfl, Nat.le_of_ble_eq_true rfl⟩ (Nat.le_of_ble_eq_true rfl) dX11_change_10 (pc' := 13) rfl (fun z3 => ?_)
    refine kj_if_eq dX11_change_13 (tgt := 28) rfl (pc' := 16) rfl (fun c4 => ?_) (fun c4 => ?_)
    · rw [if_pos c4] at hT
      refine kj_iconst dX11_change_28 (pc' := 29) rfl kc_m1 ?_
      have hR := Option.some.inj hT
      subst hR
      exact kj_iret rfl dX11_change_29 (by subst hQ; exact ⟨rfl, rfl⟩)
    · rw [if_neg c4] at hT
      refine kj_iload_n dX11_change_16 (pc' := 17) rfl rfl rfl ?_
      refine kj_if_eq dX11_change_17 (tgt := 28) rfl (pc' := 20) rfl (fun c5 => ?_) (fun c5 => ?_)
      · rw [if_pos c5] at hT
        refine kj_iconst dX11_change_28 (pc' := 29) rfl kc_m1 ?_
        have hR := Option.some.inj hT
        subst hR
        exact kj_iret rfl dX11_change_29 (by subst hQ; exact ⟨rfl, rfl⟩)
      · rw [if_neg c5] at hT
        refine kj_aload_n dX11_change_20 (pc' := 21) rfl rfl rfl ?_
        refine kj_iload_n dX11_change_21 (pc' := 22) rfl rfl rfl ?_
        obtain ⟨t6, ht6, hT⟩ := bind_some' hT
        refine kcVz (as := [.inl x2]) (st := []) l_RX11_99 (m_X11_isTold hE σ x2 ht6) rfl (Nat.lt_of_lt_of_le (Nat.le_of_ble_eq_true rfl : 120 < 140) hE.1) rfl ⟨⟨rfl, rfl⟩, Nat.le_of_ble_eq_true rfl, Nat.le_of_ble_eq_true rfl⟩ (Nat.le_of_ble_eq_true rfl) dX11_change_22 (pc' := 25) rfl (fun z7 => ?_)
        refine kj_if_eq dX11_change_25 (tgt := 30) rfl (pc' := 28) rfl (fun c8 => ?_) (fun c8 => ?_)
        · rw [if_pos c8] at hT
          refine kj_aload_n dX11_change_30 (pc' := 31) rfl rfl rfl ?_
          obtain ⟨σ9, hσ9, hT⟩ := bind_some' hT
          refine kcVv (as := []) (st := []) l_RX11_102 (m_X11_keeps hE σ hσ9) rfl (Nat.lt_of_lt_of_le (Nat.le_of_ble_eq_true rfl : 120 < 140) hE.1) rfl ⟨⟨rfl, rfl⟩, Nat.le_of_ble_eq_true rfl, Nat.le_of_ble_eq_true rfl⟩ (Nat.le_of_ble_eq_true rfl) dX11_change_31 (pc' := 34) rfl ?_
          refine kj_aload_n dX11_change_34 (pc' := 35) rfl rfl rfl ?_
          refine kj_iload_n dX11_change_35 (pc' := 36) rfl rfl rfl ?_
          obtain ⟨t10, ht10, hT⟩ := bind_some' hT
          refine kcVi (as := [.inl x1]) (st := []) l_RX11_112 (m_X11_gen hE σ9 x1 ht10) rfl (Nat.lt_of_lt_of_le (Nat.le_of_ble_eq_true rfl : 120 < 140) hE.1) rfl ⟨⟨rfl, rfl⟩, Nat.le_of_ble_eq_true rfl, Nat.le_of_ble_eq_true rfl⟩ (Nat.le_of_ble_eq_true rfl) dX11_change_36 (pc' := 39) rfl ?_
          refine kj_istore_n dX11_change_39 (pc' := 40) rfl rfl (Nat.le_of_ble_eq_true rfl) (ls' := [some (.inr 120), some (.inl x1), some (.inl x2), some (.inl t10)]) rfl ?_
          refine kj_aload_n dX11_change_40 (pc' := 41) rfl rfl rfl ?_
          refine kj_getR f_RX11_13 rfl (Nat.lt_of_lt_of_le (Nat.le_of_ble_eq_true rfl : 120 < 140) hE.1) (hE.2 _ _) (q := 121) rfl dX11_change_41 (pc' := 44) rfl ?_
          refine kj_bipush dX11_change_44 (pc' := 46) rfl kb_10 ?_
          refine kj_iload_n dX11_change_46 (pc' := 47) rfl rfl rfl ?_
          refine kj_iadd dX11_change_47 (pc' := 48) rfl ?_
          refine kj_iload_n dX11_change_48 (pc' := 49) rfl rfl rfl ?_
          obtain ⟨hi11, hT⟩ := ckA_some hT
          refine kj_iast rfl (Nat.lt_of_lt_of_le (Nat.le_of_ble_eq_true rfl : 121 < 140) hE.1) hi11 rfl dX11_change_49 (pc' := 50) rfl ?_
          refine kj_iload_n dX11_change_50 (pc' := 51) rfl rfl rfl ?_
          have hR := Option.some.inj hT
          subst hR
          exact kj_iret rfl dX11_change_51 (by subst hQ; exact ⟨rfl, rfl⟩)
        · rw [if_neg c8] at hT
          refine kj_iconst dX11_change_28 (pc' := 29) rfl kc_m1 ?_
          have hR := Option.some.inj hT
          subst hR
          exact kj_iret rfl dX11_change_29 (by subst hQ; exact ⟨rfl, rfl⟩)
def X11_weigh (σ : Wd) (x1 : Int32) (x2 : Int32) : Option (Int32 × Wd) :=
  (if (X11_isPoint σ x1) = 0 then some ((-1), σ) else (if (X11_in x2 0 9) = 0 then some ((-1), σ) else (ckA (3 + x1) 42 <| (if (σ 121 ((3 + x1).toNatClampNeg)) = x2 then some ((-1), σ) else ((X11_keeps σ).bind fun σ7 => (ckA (3 + x1) 42 <| (lett (σ7 121 ((3 + x1).toNatClampNeg)) fun x3 => (ckA (3 + x1) 42 <| some (x3, up σ7 121 ((3 + x1).toNatClampNeg) x2)))))))))
set_option maxRecDepth 100000 in
set_option maxHeartbeats 4000000 in
theorem m_X11_weigh {E : JE} (hE : kOk 140 E) (σ : Wd) (x1 : Int32) (x2 : Int32) {res : Int32 × Wd} (hT : X11_weigh σ x1 x2 = some res) : kMt E yX11_weigh mX11_weigh rmX11_weigh [.inr 120, .inl x1, .inl x2] σ (kQi res.1 res.2) := by
  refine kMt_of (by decide +kernel) rfl (Nat.le_of_ble_eq_true rfl) ?_
  generalize hQ : (kQi res.1 res.2) = Q
  show KJ E mX11_weigh rmX11_weigh 0 [some (.inr 120), some (.inl x1), some (.inl x2)] [] σ Q
  unfold X11_weigh at hT
  refine kj_aload_n dX11_weigh_0 (pc' := 1) rfl rfl rfl ?_
  refine kj_iload_n dX11_weigh_1 (pc' := 2) rfl rfl rfl ?_
  refine kcVz (as := [.inl x1]) (st := []) l_RX11_116 (m_X11_isPoint hE σ x1 rfl) rfl (Nat.lt_of_lt_of_le (Nat.le_of_ble_eq_true rfl : 120 < 140) hE.1) rfl ⟨⟨rfl, rfl⟩, Nat.le_of_ble_eq_true rfl, Nat.le_of_ble_eq_true rfl⟩ (Nat.le_of_ble_eq_true rfl) dX11_weigh_2 (pc' := 5) rfl (fun z1 => ?_)
  refine kj_if_eq dX11_weigh_5 (tgt := 30) rfl (pc' := 8) rfl (fun c2 => ?_) (fun c2 => ?_)
  · rw [if_pos c2] at hT
    refine kj_iconst dX11_weigh_30 (pc' := 31) rfl kc_m1 ?_
    have hR := Option.some.inj hT
    subst hR
    exact kj_iret rfl dX11_weigh_31 (by subst hQ; exact ⟨rfl, rfl⟩)
  · rw [if_neg c2] at hT
    refine kj_iload_n dX11_weigh_8 (pc' := 9) rfl rfl rfl ?_
    refine kj_iconst dX11_weigh_9 (pc' := 10) rfl kc_0 ?_
    refine kj_bipush dX11_weigh_10 (pc' := 12) rfl kb_9 ?_
    refine kcSz (as := [.inl x2, .inl 0, .inl 9]) (st := []) l_RX11_84 (m_X11_in (Nat.zero_le _) σ x2 0 9 rfl) rfl ⟨⟨rfl, rfl⟩, Nat.le_of_ble_eq_true rfl, Nat.le_of_ble_eq_true rfl⟩ (Nat.le_of_ble_eq_true rfl) dX11_weigh_12 (pc' := 15) rfl (fun z3 => ?_)
    refine kj_if_eq dX11_weigh_15 (tgt := 30) rfl (pc' := 18) rfl (fun c4 => ?_) (fun c4 => ?_)
    · rw [if_pos c4] at hT
      refine kj_iconst dX11_weigh_30 (pc' := 31) rfl kc_m1 ?_
      have hR := Option.some.inj hT
      subst hR
      exact kj_iret rfl dX11_weigh_31 (by subst hQ; exact ⟨rfl, rfl⟩)
    · rw [if_neg c4] at hT
      refine kj_aload_n dX11_weigh_18 (pc' := 19) rfl rfl rfl ?_
      refine kj_getR f_RX11_13 rfl (Nat.lt_of_lt_of_le (Nat.le_of_ble_eq_true rfl : 120 < 140) hE.1) (hE.2 _ _) (q := 121) rfl dX11_weigh_19 (pc' := 22) rfl ?_
      refine kj_iconst dX11_weigh_22 (pc' := 23) rfl kc_3 ?_
      refine kj_iload_n dX11_weigh_23 (pc' := 24) rfl rfl rfl ?_
      refine kj_iadd dX11_weigh_24 (pc' := 25) rfl ?_
      obtain ⟨hi5, hT⟩ := ckA_some hT
      refine kj_iald rfl (Nat.lt_of_lt_of_le (Nat.le_of_ble_eq_true rfl : 121 < 140) hE.1) hi5 rfl dX11_weigh_25 (pc' := 26) rfl ?_
      refine kj_iload_n dX11_weigh_26 (pc' := 27) rfl rfl rfl ?_
      refine kj_icmp_ne dX11_weigh_27 (tgt := 32) rfl (pc' := 30) rfl (fun c6 => ?_) (fun c6 => ?_)
      · rw [if_neg c6] at hT
        refine kj_aload_n dX11_weigh_32 (pc' := 33) rfl rfl rfl ?_
        obtain ⟨σ7, hσ7, hT⟩ := bind_some' hT
        refine kcVv (as := []) (st := []) l_RX11_102 (m_X11_keeps hE σ hσ7) rfl (Nat.lt_of_lt_of_le (Nat.le_of_ble_eq_true rfl : 120 < 140) hE.1) rfl ⟨⟨rfl, rfl⟩, Nat.le_of_ble_eq_true rfl, Nat.le_of_ble_eq_true rfl⟩ (Nat.le_of_ble_eq_true rfl) dX11_weigh_33 (pc' := 36) rfl ?_
        refine kj_aload_n dX11_weigh_36 (pc' := 37) rfl rfl rfl ?_
        refine kj_getR f_RX11_13 rfl (Nat.lt_of_lt_of_le (Nat.le_of_ble_eq_true rfl : 120 < 140) hE.1) (hE.2 _ _) (q := 121) rfl dX11_weigh_37 (pc' := 40) rfl ?_
        refine kj_iconst dX11_weigh_40 (pc' := 41) rfl kc_3 ?_
        refine kj_iload_n dX11_weigh_41 (pc' := 42) rfl rfl rfl ?_
        refine kj_iadd dX11_weigh_42 (pc' := 43) rfl ?_
        obtain ⟨hi8, hT⟩ := ckA_some hT
        refine kj_iald rfl (Nat.lt_of_lt_of_le (Nat.le_of_ble_eq_true rfl : 121 < 140) hE.1) hi8 rfl dX11_weigh_43 (pc' := 44) rfl ?_
        obtain ⟨x3, ex3, hT⟩ := lett_i hT
        rw [← ex3]
        refine kj_istore_n dX11_weigh_44 (pc' := 45) rfl rfl (Nat.le_of_ble_eq_true rfl) (ls' := [some (.inr 120), some (.inl x1), some (.inl x2), some (.inl x3)]) rfl ?_
        refine kj_aload_n dX11_weigh_45 (pc' := 46) rfl rfl rfl ?_
        refine kj_getR f_RX11_13 rfl (Nat.lt_of_lt_of_le (Nat.le_of_ble_eq_true rfl : 120 < 140) hE.1) (hE.2 _ _) (q := 121) rfl dX11_weigh_46 (pc' := 49) rfl ?_
        refine kj_iconst dX11_weigh_49 (pc' := 50) rfl kc_3 ?_
        refine kj_iload_n dX11_weigh_50 (pc' := 51) rfl rfl rfl ?_
        refine kj_iadd dX11_weigh_51 (pc' := 52) rfl ?_
        refine kj_iload_n dX11_weigh_52 (pc' := 53) rfl rfl rfl ?_
        obtain ⟨hi9, hT⟩ := ckA_some hT
        refine kj_iast rfl (Nat.lt_of_lt_of_le (Nat.le_of_ble_eq_true rfl : 121 < 140) hE.1) hi9 rfl dX11_weigh_53 (pc' := 54) rfl ?_
        refine kj_iload_n dX11_weigh_54 (pc' := 55) rfl rfl rfl ?_
        have hR := Option.some.inj hT
        subst hR
        exact kj_iret rfl dX11_weigh_55 (by subst hQ; exact ⟨rfl, rfl⟩)
      · rw [if_pos c6] at hT
        refine kj_iconst dX11_weigh_30 (pc' := 31) rfl kc_m1 ?_
        have hR := Option.some.inj hT
        subst hR
        exact kj_iret rfl dX11_weigh_31 (by subst hQ; exact ⟨rfl, rfl⟩)
def X11_unlike_J29 (rec4 : Int32 × Int32 → Option (Int32)) (y1 : Int32) (y2 : Int32) : Option (Int32) :=
  rec4 (y1, y2 + 1)
def X11_unlike_B4 (σ : Wd) (rec4 : Int32 × Int32 → Option (Int32)) : Int32 × Int32 → Option (Int32)
  | (x1, x2) => (if (X11_many σ) ≤ x2 then some x1 else (ckA x2 20 <| ((X11_gen σ x2).bind fun t4 => (if (σ 124 x2.toNatClampNeg) = t4 then X11_unlike_J29 rec4 x1 x2 else X11_unlike_J29 rec4 (x1 + 1) x2))))
def X11_unlike (σ : Wd) : Option (Int32) :=
  (lp (X11_unlike_B4 σ) FU (0, 0))
set_option maxRecDepth 100000 in
set_option maxHeartbeats 4000000 in
theorem m_X11_unlike {E : JE} (hE : kOk 140 E) (σ : Wd) {res : Int32} (hT : X11_unlike σ = some res) : kMt E yX11_unlike mX11_unlike rmX11_unlike [.inr 120] σ (kQi res σ) := by
  refine kMt_of (by decide +kernel) rfl (Nat.le_of_ble_eq_true rfl) ?_
  generalize hQ : (kQi res σ) = Q
  show KJ E mX11_unlike rmX11_unlike 0 [some (.inr 120)] [] σ Q
  unfold X11_unlike at hT
  refine kj_iconst dX11_unlike_0 (pc' := 1) rfl kc_0 ?_
  refine kj_istore_n dX11_unlike_1 (pc' := 2) rfl rfl (Nat.le_of_ble_eq_true rfl) (ls' := [some (.inr 120), some (.inl 0)]) rfl ?_
  refine kj_iconst dX11_unlike_2 (pc' := 3) rfl kc_0 ?_
  refine kj_istore_n dX11_unlike_3 (pc' := 4) rfl rfl (Nat.le_of_ble_eq_true rfl) (ls' := [some (.inr 120), some (.inl 0), some (.inl 0)]) rfl ?_
  refine lp_ind (P := fun s => KJ E mX11_unlike rmX11_unlike 4 [some (.inr 120), some (.inl s.1), some (.inl s.2)] [] σ Q) (fun rec4 s ih4 hT => ?_) FU (0, 0) hT
  obtain ⟨x1, x2⟩ := s
  show KJ E mX11_unlike rmX11_unlike 4 [some (.inr 120), some (.inl x1), some (.inl x2)] [] σ Q
  rw [X11_unlike_B4] at hT
  have hJ29_4 : ∀ y1 y2, X11_unlike_J29 rec4 y1 y2 = some res → KJ E mX11_unlike rmX11_unlike 29 [some (.inr 120), some (.inl y1), some (.inl y2)] [] σ Q := by
    intro y1 y2 hT
    unfold X11_unlike_J29 at hT
    refine kj_iinc dX11_unlike_29 (pc' := 32) rfl rfl (congrArg (_ + ·) kc_1) (Nat.le_of_ble_eq_true rfl) (ls' := [some (.inr 120), some (.inl y1), some (.inl (y2 + 1))]) rfl ?_
    refine kj_goto dX11_unlike_32 (pc' := 4) rfl ?_
    exact ih4 (y1, y2 + 1) hT
  refine kj_iload_n dX11_unlike_4 (pc' := 5) rfl rfl rfl ?_
  refine kj_aload_n dX11_unlike_5 (pc' := 6) rfl rfl rfl ?_
  refine kcVi (as := []) (st := [.inl x2]) l_RX11_80 (m_X11_many hE σ rfl) rfl (Nat.lt_of_lt_of_le (Nat.le_of_ble_eq_true rfl : 120 < 140) hE.1) rfl ⟨⟨rfl, rfl⟩, Nat.le_of_ble_eq_true rfl, Nat.le_of_ble_eq_true rfl⟩ (Nat.le_of_ble_eq_true rfl) dX11_unlike_6 (pc' := 9) rfl ?_
  refine kj_icmp_ge dX11_unlike_9 (tgt := 35) rfl (pc' := 12) rfl (fun c2 => ?_) (fun c2 => ?_)
  · rw [if_pos c2] at hT
    refine kj_iload_n dX11_unlike_35 (pc' := 36) rfl rfl rfl ?_
    have hR := Option.some.inj hT
    subst hR
    exact kj_iret rfl dX11_unlike_36 (by subst hQ; exact ⟨rfl, rfl⟩)
  · rw [if_neg c2] at hT
    refine kj_aload_n dX11_unlike_12 (pc' := 13) rfl rfl rfl ?_
    refine kj_getR f_RX11_23 rfl (Nat.lt_of_lt_of_le (Nat.le_of_ble_eq_true rfl : 120 < 140) hE.1) (hE.2 _ _) (q := 124) rfl dX11_unlike_13 (pc' := 16) rfl ?_
    refine kj_iload_n dX11_unlike_16 (pc' := 17) rfl rfl rfl ?_
    obtain ⟨hi3, hT⟩ := ckA_some hT
    refine kj_iald rfl (Nat.lt_of_lt_of_le (Nat.le_of_ble_eq_true rfl : 124 < 140) hE.1) hi3 rfl dX11_unlike_17 (pc' := 18) rfl ?_
    refine kj_aload_n dX11_unlike_18 (pc' := 19) rfl rfl rfl ?_
    refine kj_iload_n dX11_unlike_19 (pc' := 20) rfl rfl rfl ?_
    obtain ⟨t4, ht4, hT⟩ := bind_some' hT
    refine kcVi (as := [.inl x2]) (st := [.inl (σ 124 x2.toNatClampNeg)]) l_RX11_112 (m_X11_gen hE σ x2 ht4) rfl (Nat.lt_of_lt_of_le (Nat.le_of_ble_eq_true rfl : 120 < 140) hE.1) rfl ⟨⟨rfl, rfl⟩, Nat.le_of_ble_eq_true rfl, Nat.le_of_ble_eq_true rfl⟩ (Nat.le_of_ble_eq_true rfl) dX11_unlike_20 (pc' := 23) rfl ?_
    refine kj_icmp_eq dX11_unlike_23 (tgt := 29) rfl (pc' := 26) rfl (fun c5 => ?_) (fun c5 => ?_)
    · rw [if_pos c5] at hT
      exact hJ29_4 x1 x2 hT
    · rw [if_neg c5] at hT
      refine kj_iinc dX11_unlike_26 (pc' := 29) rfl rfl (congrArg (_ + ·) kc_1) (Nat.le_of_ble_eq_true rfl) (ls' := [some (.inr 120), some (.inl (x1 + 1)), some (.inl x2)]) rfl ?_
      exact hJ29_4 (x1 + 1) x2 hT
def X11_becomes_B6 (rec6 : Int32 × Wd → Option (Wd)) : Int32 × Wd → Option (Wd)
  | (x1, σ) => (if (σ 120 6) ≤ x1 then some (up σ 121 1 (σ 120 6)) else (ckA x1 20 <| (ckA (10 + x1) 42 <| rec6 (x1 + 1, up σ 121 ((10 + x1).toNatClampNeg) (σ 124 x1.toNatClampNeg)))))
def X11_becomes (σ : Wd) : Option (Wd) :=
  ((X11_keeps σ).bind fun σ1 => (lp (X11_becomes_B6) FU (0, σ1)))
set_option maxRecDepth 100000 in
set_option maxHeartbeats 4000000 in
theorem m_X11_becomes {E : JE} (hE : kOk 140 E) (σ : Wd) {res : Wd} (hT : X11_becomes σ = some res) : kMt E yX11_becomes mX11_becomes rmX11_becomes [.inr 120] σ (kQv res) := by
  refine kMt_of (by decide +kernel) rfl (Nat.le_of_ble_eq_true rfl) ?_
  generalize hQ : (kQv res) = Q
  show KJ E mX11_becomes rmX11_becomes 0 [some (.inr 120)] [] σ Q
  unfold X11_becomes at hT
  refine kj_aload_n dX11_becomes_0 (pc' := 1) rfl rfl rfl ?_
  obtain ⟨σ1, hσ1, hT⟩ := bind_some' hT
  refine kcVv (as := []) (st := []) l_RX11_102 (m_X11_keeps hE σ hσ1) rfl (Nat.lt_of_lt_of_le (Nat.le_of_ble_eq_true rfl : 120 < 140) hE.1) rfl ⟨⟨rfl, rfl⟩, Nat.le_of_ble_eq_true rfl, Nat.le_of_ble_eq_true rfl⟩ (Nat.le_of_ble_eq_true rfl) dX11_becomes_1 (pc' := 4) rfl ?_
  refine kj_iconst dX11_becomes_4 (pc' := 5) rfl kc_0 ?_
  refine kj_istore_n dX11_becomes_5 (pc' := 6) rfl rfl (Nat.le_of_ble_eq_true rfl) (ls' := [some (.inr 120), some (.inl 0)]) rfl ?_
  refine lp_ind (P := fun s => KJ E mX11_becomes rmX11_becomes 6 [some (.inr 120), some (.inl s.1)] [] s.2 Q) (fun rec6 s ih6 hT => ?_) FU (0, σ1) hT
  obtain ⟨x1, σ⟩ := s
  show KJ E mX11_becomes rmX11_becomes 6 [some (.inr 120), some (.inl x1)] [] σ Q
  rw [X11_becomes_B6] at hT
  refine kj_iload_n dX11_becomes_6 (pc' := 7) rfl rfl rfl ?_
  refine kj_aload_n dX11_becomes_7 (pc' := 8) rfl rfl rfl ?_
  refine kj_getI f_RX11_119 rfl (Nat.lt_of_lt_of_le (Nat.le_of_ble_eq_true rfl : 120 < 140) hE.1) dX11_becomes_8 (pc' := 11) rfl ?_
  refine kj_icmp_ge dX11_becomes_11 (tgt := 35) rfl (pc' := 14) rfl (fun c2 => ?_) (fun c2 => ?_)
  · rw [if_pos c2] at hT
    refine kj_aload_n dX11_becomes_35 (pc' := 36) rfl rfl rfl ?_
    refine kj_getR f_RX11_13 rfl (Nat.lt_of_lt_of_le (Nat.le_of_ble_eq_true rfl : 120 < 140) hE.1) (hE.2 _ _) (q := 121) rfl dX11_becomes_36 (pc' := 39) rfl ?_
    refine kj_iconst dX11_becomes_39 (pc' := 40) rfl kc_1 ?_
    refine kj_aload_n dX11_becomes_40 (pc' := 41) rfl rfl rfl ?_
    refine kj_getI f_RX11_119 rfl (Nat.lt_of_lt_of_le (Nat.le_of_ble_eq_true rfl : 120 < 140) hE.1) dX11_becomes_41 (pc' := 44) rfl ?_
    refine kj_iast rfl (Nat.lt_of_lt_of_le (Nat.le_of_ble_eq_true rfl : 121 < 140) hE.1) (vp_lit (by decide +kernel)) (j := 1) (by decide +kernel) dX11_becomes_44 (pc' := 45) rfl ?_
    have hR := Option.some.inj hT
    subst hR
    exact kj_vret rfl dX11_becomes_45 (by subst hQ; exact ⟨rfl, rfl⟩)
  · rw [if_neg c2] at hT
    refine kj_aload_n dX11_becomes_14 (pc' := 15) rfl rfl rfl ?_
    refine kj_getR f_RX11_13 rfl (Nat.lt_of_lt_of_le (Nat.le_of_ble_eq_true rfl : 120 < 140) hE.1) (hE.2 _ _) (q := 121) rfl dX11_becomes_15 (pc' := 18) rfl ?_
    refine kj_bipush dX11_becomes_18 (pc' := 20) rfl kb_10 ?_
    refine kj_iload_n dX11_becomes_20 (pc' := 21) rfl rfl rfl ?_
    refine kj_iadd dX11_becomes_21 (pc' := 22) rfl ?_
    refine kj_aload_n dX11_becomes_22 (pc' := 23) rfl rfl rfl ?_
    refine kj_getR f_RX11_23 rfl (Nat.lt_of_lt_of_le (Nat.le_of_ble_eq_true rfl : 120 < 140) hE.1) (hE.2 _ _) (q := 124) rfl dX11_becomes_23 (pc' := 26) rfl ?_
    refine kj_iload_n dX11_becomes_26 (pc' := 27) rfl rfl rfl ?_
    obtain ⟨hi3, hT⟩ := ckA_some hT
    refine kj_iald rfl (Nat.lt_of_lt_of_le (Nat.le_of_ble_eq_true rfl : 124 < 140) hE.1) hi3 rfl dX11_becomes_27 (pc' := 28) rfl ?_
    obtain ⟨hi4, hT⟩ := ckA_some hT
    refine kj_iast rfl (Nat.lt_of_lt_of_le (Nat.le_of_ble_eq_true rfl : 121 < 140) hE.1) hi4 rfl dX11_becomes_28 (pc' := 29) rfl ?_
    refine kj_iinc dX11_becomes_29 (pc' := 32) rfl rfl (congrArg (_ + ·) kc_1) (Nat.le_of_ble_eq_true rfl) (ls' := [some (.inr 120), some (.inl (x1 + 1))]) rfl ?_
    refine kj_goto dX11_becomes_32 (pc' := 6) rfl ?_
    exact ih6 (x1 + 1, up σ 121 ((10 + x1).toNatClampNeg) (σ 124 x1.toNatClampNeg)) hT
def X11_changes (σ : Wd) : Option (Int32 × Wd) :=
  ((X11_unlike (up σ 120 6 (X11_many σ))).bind fun t1 => (if t1 = 0 then some ((-1), up σ 120 6 (X11_many σ)) else ((X11_becomes (up σ 120 6 (X11_many σ))).bind fun σ3 => some (t1, σ3))))
set_option maxRecDepth 100000 in
set_option maxHeartbeats 4000000 in
theorem m_X11_changes {E : JE} (hE : kOk 140 E) (σ : Wd) {res : Int32 × Wd} (hT : X11_changes σ = some res) : kMt E yX11_changes mX11_changes rmX11_changes [.inr 120] σ (kQi res.1 res.2) := by
  refine kMt_of (by decide +kernel) rfl (Nat.le_of_ble_eq_true rfl) ?_
  generalize hQ : (kQi res.1 res.2) = Q
  show KJ E mX11_changes rmX11_changes 0 [some (.inr 120)] [] σ Q
  unfold X11_changes at hT
  refine kj_aload_n dX11_changes_0 (pc' := 1) rfl rfl rfl ?_
  refine kj_aload_n dX11_changes_1 (pc' := 2) rfl rfl rfl ?_
  refine kcVi (as := []) (st := [.inr 120]) l_RX11_80 (m_X11_many hE σ rfl) rfl (Nat.lt_of_lt_of_le (Nat.le_of_ble_eq_true rfl : 120 < 140) hE.1) rfl ⟨⟨rfl, rfl⟩, Nat.le_of_ble_eq_true rfl, Nat.le_of_ble_eq_true rfl⟩ (Nat.le_of_ble_eq_true rfl) dX11_changes_2 (pc' := 5) rfl ?_
  refine kj_putI p_RX11_119 rfl rfl rfl (Nat.lt_of_lt_of_le (Nat.le_of_ble_eq_true rfl : 120 < 140) hE.1) dX11_changes_5 (pc' := 8) rfl ?_
  refine kj_aload_n dX11_changes_8 (pc' := 9) rfl rfl rfl ?_
  obtain ⟨t1, ht1, hT⟩ := bind_some' hT
  refine kcVi (as := []) (st := []) l_RX11_122 (m_X11_unlike hE (up σ 120 6 (X11_many σ)) ht1) rfl (Nat.lt_of_lt_of_le (Nat.le_of_ble_eq_true rfl : 120 < 140) hE.1) rfl ⟨⟨rfl, rfl⟩, Nat.le_of_ble_eq_true rfl, Nat.le_of_ble_eq_true rfl⟩ (Nat.le_of_ble_eq_true rfl) dX11_changes_9 (pc' := 12) rfl ?_
  refine kj_istore_n dX11_changes_12 (pc' := 13) rfl rfl (Nat.le_of_ble_eq_true rfl) (ls' := [some (.inr 120), some (.inl t1)]) rfl ?_
  refine kj_iload_n dX11_changes_13 (pc' := 14) rfl rfl rfl ?_
  refine kj_if_ne dX11_changes_14 (tgt := 19) rfl (pc' := 17) rfl (fun c2 => ?_) (fun c2 => ?_)
  · rw [if_neg c2] at hT
    refine kj_aload_n dX11_changes_19 (pc' := 20) rfl rfl rfl ?_
    obtain ⟨σ3, hσ3, hT⟩ := bind_some' hT
    refine kcVv (as := []) (st := []) l_RX11_125 (m_X11_becomes hE (up σ 120 6 (X11_many σ)) hσ3) rfl (Nat.lt_of_lt_of_le (Nat.le_of_ble_eq_true rfl : 120 < 140) hE.1) rfl ⟨⟨rfl, rfl⟩, Nat.le_of_ble_eq_true rfl, Nat.le_of_ble_eq_true rfl⟩ (Nat.le_of_ble_eq_true rfl) dX11_changes_20 (pc' := 23) rfl ?_
    refine kj_iload_n dX11_changes_23 (pc' := 24) rfl rfl rfl ?_
    have hR := Option.some.inj hT
    subst hR
    exact kj_iret rfl dX11_changes_24 (by subst hQ; exact ⟨rfl, rfl⟩)
  · rw [if_pos c2] at hT
    refine kj_iconst dX11_changes_17 (pc' := 18) rfl kc_m1 ?_
    have hR := Option.some.inj hT
    subst hR
    exact kj_iret rfl dX11_changes_18 (by subst hQ; exact ⟨rfl, rfl⟩)
def X11_swap_J76 (rec25 : Int32 × Wd → Option (Int32 × Wd)) (y3 : Int32) (ς : Wd) : Option (Int32 × Wd) :=
  rec25 (y3 + 1, ς)
def X11_swap_B25 (x1 : Int32) (x2 : Int32) (rec25 : Int32 × Wd → Option (Int32 × Wd)) : Int32 × Wd → Option (Int32 × Wd)
  | (x3, σ) => (if (X11_many σ) ≤ x3 then ((X11_changes σ).bind fun (t7, σ8) => some (t7, σ8)) else ((X11_gen σ x3).bind fun t9 => (if (X11_has t9 x1) = (X11_has t9 x2) then (ckA x3 20 <| X11_swap_J76 rec25 x3 (up σ 124 x3.toNatClampNeg t9)) else (ckA x3 20 <| X11_swap_J76 rec25 x3 (up σ 124 x3.toNatClampNeg (t9 ^^^ ((1 <<< (x1 &&& 31)) ||| (1 <<< (x2 &&& 31)))))))))
def X11_swap (σ : Wd) (x1 : Int32) (x2 : Int32) : Option (Int32 × Wd) :=
  (if (X11_isPoint σ x1) = 0 then some ((-1), σ) else (if (X11_isPoint σ x2) = 0 then some ((-1), σ) else (if x1 = x2 then some ((-1), σ) else (lp (X11_swap_B25 x1 x2) FU (0, σ)))))
set_option maxRecDepth 100000 in
set_option maxHeartbeats 4000000 in
theorem m_X11_swap {E : JE} (hE : kOk 140 E) (σ : Wd) (x1 : Int32) (x2 : Int32) {res : Int32 × Wd} (hT : X11_swap σ x1 x2 = some res) : kMt E yX11_swap mX11_swap rmX11_swap [.inr 120, .inl x1, .inl x2] σ (kQi res.1 res.2) := by
  refine kMt_of (by decide +kernel) rfl (Nat.le_of_ble_eq_true rfl) ?_
  generalize hQ : (kQi res.1 res.2) = Q
  show KJ E mX11_swap rmX11_swap 0 [some (.inr 120), some (.inl x1), some (.inl x2)] [] σ Q
  unfold X11_swap at hT
  refine kj_aload_n dX11_swap_0 (pc' := 1) rfl rfl rfl ?_
  refine kj_iload_n dX11_swap_1 (pc' := 2) rfl rfl rfl ?_
  refine kcVz (as := [.inl x1]) (st := []) l_RX11_116 (m_X11_isPoint hE σ x1 rfl) rfl (Nat.lt_of_lt_of_le (Nat.le_of_ble_eq_true rfl : 120 < 140) hE.1) rfl ⟨⟨rfl, rfl⟩, Nat.le_of_ble_eq_true rfl, Nat.le_of_ble_eq_true rfl⟩ (Nat.le_of_ble_eq_true rfl) dX11_swap_2 (pc' := 5) rfl (fun z1 => ?_)
  refine kj_if_eq dX11_swap_5 (tgt := 21) rfl (pc' := 8) rfl (fun c2 => ?_) (fun c2 => ?_)
  · rw [if_pos c2] at hT
    refine kj_iconst dX11_swap_21 (pc' := 22) rfl kc_m1 ?_
    have hR := Option.some.inj hT
    subst hR
    exact kj_iret rfl dX11_swap_22 (by subst hQ; exact ⟨rfl, rfl⟩)
  · rw [if_neg c2] at hT
    refine kj_aload_n dX11_swap_8 (pc' := 9) rfl rfl rfl ?_
    refine kj_iload_n dX11_swap_9 (pc' := 10) rfl rfl rfl ?_
    refine kcVz (as := [.inl x2]) (st := []) l_RX11_116 (m_X11_isPoint hE σ x2 rfl) rfl (Nat.lt_of_lt_of_le (Nat.le_of_ble_eq_true rfl : 120 < 140) hE.1) rfl ⟨⟨rfl, rfl⟩, Nat.le_of_ble_eq_true rfl, Nat.le_of_ble_eq_true rfl⟩ (Nat.le_of_ble_eq_true rfl) dX11_swap_10 (pc' := 13) rfl (fun z3 => ?_)
    refine kj_if_eq dX11_swap_13 (tgt := 21) rfl (pc' := 16) rfl (fun c4 => ?_) (fun c4 => ?_)
    · rw [if_pos c4] at hT
      refine kj_iconst dX11_swap_21 (pc' := 22) rfl kc_m1 ?_
      have hR := Option.some.inj hT
      subst hR
      exact kj_iret rfl dX11_swap_22 (by subst hQ; exact ⟨rfl, rfl⟩)
    · rw [if_neg c4] at hT
      refine kj_iload_n dX11_swap_16 (pc' := 17) rfl rfl rfl ?_
      refine kj_iload_n dX11_swap_17 (pc' := 18) rfl rfl rfl ?_
      refine kj_icmp_ne dX11_swap_18 (tgt := 23) rfl (pc' := 21) rfl (fun c5 => ?_) (fun c5 => ?_)
      · rw [if_neg c5] at hT
        refine kj_iconst dX11_swap_23 (pc' := 24) rfl kc_0 ?_
        refine kj_istore_n dX11_swap_24 (pc' := 25) rfl rfl (Nat.le_of_ble_eq_true rfl) (ls' := [some (.inr 120), some (.inl x1), some (.inl x2), some (.inl 0)]) rfl ?_
        refine lp_ind (P := fun s => KJ E mX11_swap rmX11_swap 25 [some (.inr 120), some (.inl x1), some (.inl x2), some (.inl s.1)] [] s.2 Q) (fun rec25 s ih25 hT => ?_) FU (0, σ) hT
        obtain ⟨x3, σ⟩ := s
        show KJ E mX11_swap rmX11_swap 25 [some (.inr 120), some (.inl x1), some (.inl x2), some (.inl x3)] [] σ Q
        rw [X11_swap_B25] at hT
        have hJ76_25 : ∀ y3 ς, X11_swap_J76 rec25 y3 ς = some res → KJ E mX11_swap rmX11_swap 76 [some (.inr 120), some (.inl x1), some (.inl x2), some (.inl y3)] [] ς Q := by
          intro y3 ς hT
          unfold X11_swap_J76 at hT
          refine kj_iinc dX11_swap_76 (pc' := 79) rfl rfl (congrArg (_ + ·) kc_1) (Nat.le_of_ble_eq_true rfl) (ls' := [some (.inr 120), some (.inl x1), some (.inl x2), some (.inl (y3 + 1))]) rfl ?_
          refine kj_goto dX11_swap_79 (pc' := 25) rfl ?_
          exact ih25 (y3 + 1, ς) hT
        refine kj_iload_n dX11_swap_25 (pc' := 26) rfl rfl rfl ?_
        refine kj_aload_n dX11_swap_26 (pc' := 27) rfl rfl rfl ?_
        refine kcVi (as := []) (st := [.inl x3]) l_RX11_80 (m_X11_many hE σ rfl) rfl (Nat.lt_of_lt_of_le (Nat.le_of_ble_eq_true rfl : 120 < 140) hE.1) rfl ⟨⟨rfl, rfl⟩, Nat.le_of_ble_eq_true rfl, Nat.le_of_ble_eq_true rfl⟩ (Nat.le_of_ble_eq_true rfl) dX11_swap_27 (pc' := 30) rfl ?_
        refine kj_icmp_ge dX11_swap_30 (tgt := 82) rfl (pc' := 33) rfl (fun c6 => ?_) (fun c6 => ?_)
        · rw [if_pos c6] at hT
          refine kj_aload_n dX11_swap_82 (pc' := 83) rfl rfl rfl ?_
          obtain ⟨t7, ht7, hT⟩ := bind_some' hT
          obtain ⟨t7, σ8⟩ := t7
          dsimp only at hT
          refine kcVi (as := []) (st := []) l_RX11_132 (m_X11_changes hE σ ht7) rfl (Nat.lt_of_lt_of_le (Nat.le_of_ble_eq_true rfl : 120 < 140) hE.1) rfl ⟨⟨rfl, rfl⟩, Nat.le_of_ble_eq_true rfl, Nat.le_of_ble_eq_true rfl⟩ (Nat.le_of_ble_eq_true rfl) dX11_swap_83 (pc' := 86) rfl ?_
          have hR := Option.some.inj hT
          subst hR
          exact kj_iret rfl dX11_swap_86 (by subst hQ; exact ⟨rfl, rfl⟩)
        · rw [if_neg c6] at hT
          refine kj_aload_n dX11_swap_33 (pc' := 34) rfl rfl rfl ?_
          refine kj_iload_n dX11_swap_34 (pc' := 35) rfl rfl rfl ?_
          obtain ⟨t9, ht9, hT⟩ := bind_some' hT
          refine kcVi (as := [.inl x3]) (st := []) l_RX11_112 (m_X11_gen hE σ x3 ht9) rfl (Nat.lt_of_lt_of_le (Nat.le_of_ble_eq_true rfl : 120 < 140) hE.1) rfl ⟨⟨rfl, rfl⟩, Nat.le_of_ble_eq_true rfl, Nat.le_of_ble_eq_true rfl⟩ (Nat.le_of_ble_eq_true rfl) dX11_swap_35 (pc' := 38) rfl ?_
          refine kj_istore dX11_swap_38 (pc' := 40) rfl (Nat.le_of_ble_eq_true rfl) (ls' := [some (.inr 120), some (.inl x1), some (.inl x2), some (.inl x3), some (.inl t9)]) rfl ?_
          refine kj_aload_n dX11_swap_40 (pc' := 41) rfl rfl rfl ?_
          refine kj_getR f_RX11_23 rfl (Nat.lt_of_lt_of_le (Nat.le_of_ble_eq_true rfl : 120 < 140) hE.1) (hE.2 _ _) (q := 124) rfl dX11_swap_41 (pc' := 44) rfl ?_
          refine kj_iload_n dX11_swap_44 (pc' := 45) rfl rfl rfl ?_
          refine kj_iload dX11_swap_45 (pc' := 47) rfl rfl ?_
          refine kj_iload_n dX11_swap_47 (pc' := 48) rfl rfl rfl ?_
          refine kcSz (as := [.inl t9, .inl x1]) (st := [.inl x3, .inr 124]) l_RX11_128 (m_X11_has (Nat.zero_le _) σ t9 x1 rfl) rfl ⟨⟨rfl, rfl⟩, Nat.le_of_ble_eq_true rfl, Nat.le_of_ble_eq_true rfl⟩ (Nat.le_of_ble_eq_true rfl) dX11_swap_48 (pc' := 51) rfl (fun z10 => ?_)
          refine kj_iload dX11_swap_51 (pc' := 53) rfl rfl ?_
          refine kj_iload_n dX11_swap_53 (pc' := 54) rfl rfl rfl ?_
          refine kcSz (as := [.inl t9, .inl x2]) (st := [.inl (X11_has t9 x1), .inl x3, .inr 124]) l_RX11_128 (m_X11_has (Nat.zero_le _) σ t9 x2 rfl) rfl ⟨⟨rfl, rfl⟩, Nat.le_of_ble_eq_true rfl, Nat.le_of_ble_eq_true rfl⟩ (Nat.le_of_ble_eq_true rfl) dX11_swap_54 (pc' := 57) rfl (fun z11 => ?_)
          refine kj_icmp_eq dX11_swap_57 (tgt := 73) rfl (pc' := 60) rfl (fun c12 => ?_) (fun c12 => ?_)
          · rw [if_pos c12] at hT
            refine kj_iload dX11_swap_73 (pc' := 75) rfl rfl ?_
            obtain ⟨hi13, hT⟩ := ckA_some hT
            refine kj_iast rfl (Nat.lt_of_lt_of_le (Nat.le_of_ble_eq_true rfl : 124 < 140) hE.1) hi13 rfl dX11_swap_75 (pc' := 76) rfl ?_
            refine kj_keep [true, true, true, true] (ls' := [some (.inr 120), some (.inl x1), some (.inl x2), some (.inl x3)]) rfl ?_
            exact hJ76_25 x3 (up σ 124 x3.toNatClampNeg t9) hT
          · rw [if_neg c12] at hT
            refine kj_iload dX11_swap_60 (pc' := 62) rfl rfl ?_
            refine kj_iconst dX11_swap_62 (pc' := 63) rfl kc_1 ?_
            refine kj_iload_n dX11_swap_63 (pc' := 64) rfl rfl rfl ?_
            refine kj_ishl dX11_swap_64 (pc' := 65) rfl ?_
            refine kj_iconst dX11_swap_65 (pc' := 66) rfl kc_1 ?_
            refine kj_iload_n dX11_swap_66 (pc' := 67) rfl rfl rfl ?_
            refine kj_ishl dX11_swap_67 (pc' := 68) rfl ?_
            refine kj_ior dX11_swap_68 (pc' := 69) rfl ?_
            refine kj_ixor dX11_swap_69 (pc' := 70) rfl ?_
            refine kj_goto dX11_swap_70 (pc' := 75) rfl ?_
            obtain ⟨hi14, hT⟩ := ckA_some hT
            refine kj_iast rfl (Nat.lt_of_lt_of_le (Nat.le_of_ble_eq_true rfl : 124 < 140) hE.1) hi14 rfl dX11_swap_75 (pc' := 76) rfl ?_
            refine kj_keep [true, true, true, true] (ls' := [some (.inr 120), some (.inl x1), some (.inl x2), some (.inl x3)]) rfl ?_
            exact hJ76_25 x3 (up σ 124 x3.toNatClampNeg (t9 ^^^ ((1 <<< (x1 &&& 31)) ||| (1 <<< (x2 &&& 31))))) hT
      · rw [if_pos c5] at hT
        refine kj_iconst dX11_swap_21 (pc' := 22) rfl kc_m1 ?_
        have hR := Option.some.inj hT
        subst hR
        exact kj_iret rfl dX11_swap_22 (by subst hQ; exact ⟨rfl, rfl⟩)
def X11_turn_B2 (rec2 : Int32 × Wd → Option (Int32 × Wd)) : Int32 × Wd → Option (Int32 × Wd)
  | (x1, σ) => (if (X11_many σ) ≤ x1 then ((X11_changes σ).bind fun (t2, σ3) => some (t2, σ3)) else ((X11_gen σ x1).bind fun t4 => (ckA x1 20 <| rec2 (x1 + 1, up σ 124 x1.toNatClampNeg (((t4 <<< (1 &&& 31)) &&& (X11_allPoints σ)) ||| (((t4 <<< (1 &&& 31)) >>> ((σ 121 0) &&& 31)) &&& 1))))))
def X11_turn (σ : Wd) : Option (Int32 × Wd) :=
  (lp (X11_turn_B2) FU (0, σ))
set_option maxRecDepth 100000 in
set_option maxHeartbeats 4000000 in
theorem m_X11_turn {E : JE} (hE : kOk 140 E) (σ : Wd) {res : Int32 × Wd} (hT : X11_turn σ = some res) : kMt E yX11_turn mX11_turn rmX11_turn [.inr 120] σ (kQi res.1 res.2) := by
  refine kMt_of (by decide +kernel) rfl (Nat.le_of_ble_eq_true rfl) ?_
  generalize hQ : (kQi res.1 res.2) = Q
  show KJ E mX11_turn rmX11_turn 0 [some (.inr 120)] [] σ Q
  unfold X11_turn at hT
  refine kj_iconst dX11_turn_0 (pc' := 1) rfl kc_0 ?_
  refine kj_istore_n dX11_turn_1 (pc' := 2) rfl rfl (Nat.le_of_ble_eq_true rfl) (ls' := [some (.inr 120), some (.inl 0)]) rfl ?_
  refine lp_ind (P := fun s => KJ E mX11_turn rmX11_turn 2 [some (.inr 120), some (.inl s.1)] [] s.2 Q) (fun rec2 s ih2 hT => ?_) FU (0, σ) hT
  obtain ⟨x1, σ⟩ := s
  show KJ E mX11_turn rmX11_turn 2 [some (.inr 120), some (.inl x1)] [] σ Q
  rw [X11_turn_B2] at hT
  refine kj_iload_n dX11_turn_2 (pc' := 3) rfl rfl rfl ?_
  refine kj_aload_n dX11_turn_3 (pc' := 4) rfl rfl rfl ?_
  refine kcVi (as := []) (st := [.inl x1]) l_RX11_80 (m_X11_many hE σ rfl) rfl (Nat.lt_of_lt_of_le (Nat.le_of_ble_eq_true rfl : 120 < 140) hE.1) rfl ⟨⟨rfl, rfl⟩, Nat.le_of_ble_eq_true rfl, Nat.le_of_ble_eq_true rfl⟩ (Nat.le_of_ble_eq_true rfl) dX11_turn_4 (pc' := 7) rfl ?_
  refine kj_icmp_ge dX11_turn_7 (tgt := 47) rfl (pc' := 10) rfl (fun c1 => ?_) (fun c1 => ?_)
  · rw [if_pos c1] at hT
    refine kj_aload_n dX11_turn_47 (pc' := 48) rfl rfl rfl ?_
    obtain ⟨t2, ht2, hT⟩ := bind_some' hT
    obtain ⟨t2, σ3⟩ := t2
    dsimp only at hT
    refine kcVi (as := []) (st := []) l_RX11_132 (m_X11_changes hE σ ht2) rfl (Nat.lt_of_lt_of_le (Nat.le_of_ble_eq_true rfl : 120 < 140) hE.1) rfl ⟨⟨rfl, rfl⟩, Nat.le_of_ble_eq_true rfl, Nat.le_of_ble_eq_true rfl⟩ (Nat.le_of_ble_eq_true rfl) dX11_turn_48 (pc' := 51) rfl ?_
    have hR := Option.some.inj hT
    subst hR
    exact kj_iret rfl dX11_turn_51 (by subst hQ; exact ⟨rfl, rfl⟩)
  · rw [if_neg c1] at hT
    refine kj_aload_n dX11_turn_10 (pc' := 11) rfl rfl rfl ?_
    refine kj_iload_n dX11_turn_11 (pc' := 12) rfl rfl rfl ?_
    obtain ⟨t4, ht4, hT⟩ := bind_some' hT
    refine kcVi (as := [.inl x1]) (st := []) l_RX11_112 (m_X11_gen hE σ x1 ht4) rfl (Nat.lt_of_lt_of_le (Nat.le_of_ble_eq_true rfl : 120 < 140) hE.1) rfl ⟨⟨rfl, rfl⟩, Nat.le_of_ble_eq_true rfl, Nat.le_of_ble_eq_true rfl⟩ (Nat.le_of_ble_eq_true rfl) dX11_turn_12 (pc' := 15) rfl ?_
    refine kj_iconst dX11_turn_15 (pc' := 16) rfl kc_1 ?_
    refine kj_ishl dX11_turn_16 (pc' := 17) rfl ?_
    refine kj_istore_n dX11_turn_17 (pc' := 18) rfl rfl (Nat.le_of_ble_eq_true rfl) (ls' := [some (.inr 120), some (.inl x1), some (.inl (t4 <<< (1 &&& 31)))]) rfl ?_
    refine kj_aload_n dX11_turn_18 (pc' := 19) rfl rfl rfl ?_
    refine kj_getR f_RX11_23 rfl (Nat.lt_of_lt_of_le (Nat.le_of_ble_eq_true rfl : 120 < 140) hE.1) (hE.2 _ _) (q := 124) rfl dX11_turn_19 (pc' := 22) rfl ?_
    refine kj_iload_n dX11_turn_22 (pc' := 23) rfl rfl rfl ?_
    refine kj_iload_n dX11_turn_23 (pc' := 24) rfl rfl rfl ?_
    refine kj_aload_n dX11_turn_24 (pc' := 25) rfl rfl rfl ?_
    refine kcVi (as := []) (st := [.inl (t4 <<< (1 &&& 31)), .inl x1, .inr 124]) l_RX11_88 (m_X11_allPoints hE σ rfl) rfl (Nat.lt_of_lt_of_le (Nat.le_of_ble_eq_true rfl : 120 < 140) hE.1) rfl ⟨⟨rfl, rfl⟩, Nat.le_of_ble_eq_true rfl, Nat.le_of_ble_eq_true rfl⟩ (Nat.le_of_ble_eq_true rfl) dX11_turn_25 (pc' := 28) rfl ?_
    refine kj_iand dX11_turn_28 (pc' := 29) rfl ?_
    refine kj_iload_n dX11_turn_29 (pc' := 30) rfl rfl rfl ?_
    refine kj_aload_n dX11_turn_30 (pc' := 31) rfl rfl rfl ?_
    refine kj_getR f_RX11_13 rfl (Nat.lt_of_lt_of_le (Nat.le_of_ble_eq_true rfl : 120 < 140) hE.1) (hE.2 _ _) (q := 121) rfl dX11_turn_31 (pc' := 34) rfl ?_
    refine kj_iconst dX11_turn_34 (pc' := 35) rfl kc_0 ?_
    refine kj_iald rfl (Nat.lt_of_lt_of_le (Nat.le_of_ble_eq_true rfl : 121 < 140) hE.1) (vp_lit (by decide +kernel)) (j := 0) (by decide +kernel) dX11_turn_35 (pc' := 36) rfl ?_
    refine kj_ishr dX11_turn_36 (pc' := 37) rfl ?_
    refine kj_iconst dX11_turn_37 (pc' := 38) rfl kc_1 ?_
    refine kj_iand dX11_turn_38 (pc' := 39) rfl ?_
    refine kj_ior dX11_turn_39 (pc' := 40) rfl ?_
    obtain ⟨hi5, hT⟩ := ckA_some hT
    refine kj_iast rfl (Nat.lt_of_lt_of_le (Nat.le_of_ble_eq_true rfl : 124 < 140) hE.1) hi5 rfl dX11_turn_40 (pc' := 41) rfl ?_
    refine kj_iinc dX11_turn_41 (pc' := 44) rfl rfl (congrArg (_ + ·) kc_1) (Nat.le_of_ble_eq_true rfl) (ls' := [some (.inr 120), some (.inl (x1 + 1)), some (.inl (t4 <<< (1 &&& 31)))]) rfl ?_
    refine kj_goto dX11_turn_44 (pc' := 2) rfl ?_
    refine kj_keep [true, true] (ls' := [some (.inr 120), some (.inl (x1 + 1))]) rfl ?_
    exact ih2 (x1 + 1, up σ 124 x1.toNatClampNeg (((t4 <<< (1 &&& 31)) &&& (X11_allPoints σ)) ||| (((t4 <<< (1 &&& 31)) >>> ((σ 121 0) &&& 31)) &&& 1))) hT
def X11_without_T114 (x2 : Int32) (σ : Wd) : Option (Int32 × Wd) :=
  (if x2 = 0 then some ((-1), σ) else ((X11_becomes σ).bind fun σ4 => some (X11_many σ4, σ4)))
def X11_without_J108 (rec19 : Int32 × Int32 × Wd → Option (Int32 × Wd)) (y2 : Int32) (y3 : Int32) (ς : Wd) : Option (Int32 × Wd) :=
  rec19 (y2, y3 + 1, ς)
def X11_without_J49 (x1 : Int32) (rec19 : Int32 × Int32 × Wd → Option (Int32 × Wd)) (y2 : Int32) (y3 : Int32) (ς : Wd) : Option (Int32 × Wd) :=
  ((X11_gen ς y3).bind fun t7 => (lett (t7 &&& ((1 <<< (x1 &&& 31)) ^^^ (-1))) fun x4 => (if x4 = 0 then X11_without_J108 rec19 y2 y3 ς else ((X11_isThere ς 124 0 (ς 120 6) x4).bind fun t9 => (if t9 = 0 then (ckA (ς 120 6) 20 <| X11_without_J108 rec19 y2 y3 (up (up ς 124 ((ς 120 6).toNatClampNeg) x4) 120 6 (((up ς 124 ((ς 120 6).toNatClampNeg) x4) 120 6) + 1))) else X11_without_J108 rec19 y2 y3 ς)))))
def X11_without_J43 (x1 : Int32) (rec19 : Int32 × Int32 × Wd → Option (Int32 × Wd)) (y3 : Int32) (ς : Wd) : Option (Int32 × Wd) :=
  X11_without_J49 x1 rec19 1 y3 ς
def X11_without_B19 (x1 : Int32) (kx19 : Int32 → Wd → Option (Int32 × Wd)) (rec19 : Int32 × Int32 × Wd → Option (Int32 × Wd)) : Int32 × Int32 × Wd → Option (Int32 × Wd)
  | (x2, x3, σ) => (if (X11_many σ) ≤ x3 then kx19 x2 σ else (if x2 = 0 then ((X11_gen σ x3).bind fun t13 => (if (X11_has t13 x1) = 0 then X11_without_J49 x1 rec19 0 x3 σ else X11_without_J43 x1 rec19 x3 σ)) else X11_without_J43 x1 rec19 x3 σ))
def X11_without (σ : Wd) (x1 : Int32) : Option (Int32 × Wd) :=
  (if (X11_isPoint σ x1) = 0 then some ((-1), σ) else (lp (X11_without_B19 x1 X11_without_T114) FU (0, 0, up σ 120 6 0)))
set_option maxRecDepth 100000 in
set_option maxHeartbeats 4000000 in
theorem m_X11_without {E : JE} (hE : kOk 140 E) (σ : Wd) (x1 : Int32) {res : Int32 × Wd} (hT : X11_without σ x1 = some res) : kMt E yX11_without mX11_without rmX11_without [.inr 120, .inl x1] σ (kQi res.1 res.2) := by
  refine kMt_of (by decide +kernel) rfl (Nat.le_of_ble_eq_true rfl) ?_
  generalize hQ : (kQi res.1 res.2) = Q
  show KJ E mX11_without rmX11_without 0 [some (.inr 120), some (.inl x1)] [] σ Q
  unfold X11_without at hT
  refine kj_aload_n dX11_without_0 (pc' := 1) rfl rfl rfl ?_
  refine kj_iload_n dX11_without_1 (pc' := 2) rfl rfl rfl ?_
  refine kcVz (as := [.inl x1]) (st := []) l_RX11_116 (m_X11_isPoint hE σ x1 rfl) rfl (Nat.lt_of_lt_of_le (Nat.le_of_ble_eq_true rfl : 120 < 140) hE.1) rfl ⟨⟨rfl, rfl⟩, Nat.le_of_ble_eq_true rfl, Nat.le_of_ble_eq_true rfl⟩ (Nat.le_of_ble_eq_true rfl) dX11_without_2 (pc' := 5) rfl (fun z1 => ?_)
  refine kj_if_ne dX11_without_5 (tgt := 10) rfl (pc' := 8) rfl (fun c2 => ?_) (fun c2 => ?_)
  · rw [if_neg c2] at hT
    refine kj_iconst dX11_without_10 (pc' := 11) rfl kc_0 ?_
    refine kj_istore_n dX11_without_11 (pc' := 12) rfl rfl (Nat.le_of_ble_eq_true rfl) (ls' := [some (.inr 120), some (.inl x1), some (.inl 0)]) rfl ?_
    refine kj_aload_n dX11_without_12 (pc' := 13) rfl rfl rfl ?_
    refine kj_iconst dX11_without_13 (pc' := 14) rfl kc_0 ?_
    refine kj_putI p_RX11_119 rfl rfl rfl (Nat.lt_of_lt_of_le (Nat.le_of_ble_eq_true rfl : 120 < 140) hE.1) dX11_without_14 (pc' := 17) rfl ?_
    refine kj_iconst dX11_without_17 (pc' := 18) rfl kc_0 ?_
    refine kj_istore_n dX11_without_18 (pc' := 19) rfl rfl (Nat.le_of_ble_eq_true rfl) (ls' := [some (.inr 120), some (.inl x1), some (.inl 0), some (.inl 0)]) rfl ?_
    have hX19 : ∀ x2 σ, X11_without_T114 x2 σ = some res → KJ E mX11_without rmX11_without 114 [some (.inr 120), none, some (.inl x2)] [] σ Q := by
      intro x2 σ hT
      unfold X11_without_T114 at hT
      refine kj_iload_n dX11_without_114 (pc' := 115) rfl rfl rfl ?_
      refine kj_if_ne dX11_without_115 (tgt := 120) rfl (pc' := 118) rfl (fun c3 => ?_) (fun c3 => ?_)
      · rw [if_neg c3] at hT
        refine kj_aload_n dX11_without_120 (pc' := 121) rfl rfl rfl ?_
        obtain ⟨σ4, hσ4, hT⟩ := bind_some' hT
        refine kcVv (as := []) (st := []) l_RX11_125 (m_X11_becomes hE σ hσ4) rfl (Nat.lt_of_lt_of_le (Nat.le_of_ble_eq_true rfl : 120 < 140) hE.1) rfl ⟨⟨rfl, rfl⟩, Nat.le_of_ble_eq_true rfl, Nat.le_of_ble_eq_true rfl⟩ (Nat.le_of_ble_eq_true rfl) dX11_without_121 (pc' := 124) rfl ?_
        refine kj_aload_n dX11_without_124 (pc' := 125) rfl rfl rfl ?_
        refine kcVi (as := []) (st := []) l_RX11_80 (m_X11_many hE σ4 rfl) rfl (Nat.lt_of_lt_of_le (Nat.le_of_ble_eq_true rfl : 120 < 140) hE.1) rfl ⟨⟨rfl, rfl⟩, Nat.le_of_ble_eq_true rfl, Nat.le_of_ble_eq_true rfl⟩ (Nat.le_of_ble_eq_true rfl) dX11_without_125 (pc' := 128) rfl ?_
        have hR := Option.some.inj hT
        subst hR
        exact kj_iret rfl dX11_without_128 (by subst hQ; exact ⟨rfl, rfl⟩)
      · rw [if_pos c3] at hT
        refine kj_iconst dX11_without_118 (pc' := 119) rfl kc_m1 ?_
        have hR := Option.some.inj hT
        subst hR
        exact kj_iret rfl dX11_without_119 (by subst hQ; exact ⟨rfl, rfl⟩)
    refine lp_ind (P := fun s => KJ E mX11_without rmX11_without 19 [some (.inr 120), some (.inl x1), some (.inl s.1), some (.inl s.2.1)] [] s.2.2 Q) (fun rec19 s ih19 hT => ?_) FU (0, 0, up σ 120 6 0) hT
    obtain ⟨x2, x3, σ⟩ := s
    show KJ E mX11_without rmX11_without 19 [some (.inr 120), some (.inl x1), some (.inl x2), some (.inl x3)] [] σ Q
    rw [X11_without_B19] at hT
    have hJ108_19 : ∀ y2 y3 ς, X11_without_J108 rec19 y2 y3 ς = some res → KJ E mX11_without rmX11_without 108 [some (.inr 120), some (.inl x1), some (.inl y2), some (.inl y3)] [] ς Q := by
      intro y2 y3 ς hT
      unfold X11_without_J108 at hT
      refine kj_iinc dX11_without_108 (pc' := 111) rfl rfl (congrArg (_ + ·) kc_1) (Nat.le_of_ble_eq_true rfl) (ls' := [some (.inr 120), some (.inl x1), some (.inl y2), some (.inl (y3 + 1))]) rfl ?_
      refine kj_goto dX11_without_111 (pc' := 19) rfl ?_
      exact ih19 (y2, y3 + 1, ς) hT
    have hJ49_19 : ∀ y2 y3 ς, X11_without_J49 x1 rec19 y2 y3 ς = some res → KJ E mX11_without rmX11_without 49 [some (.inr 120), some (.inl x1), some (.inl y2), some (.inl y3)] [] ς Q := by
      intro y2 y3 ς hT
      unfold X11_without_J49 at hT
      refine kj_aload_n dX11_without_49 (pc' := 50) rfl rfl rfl ?_
      refine kj_iload_n dX11_without_50 (pc' := 51) rfl rfl rfl ?_
      obtain ⟨t7, ht7, hT⟩ := bind_some' hT
      refine kcVi (as := [.inl y3]) (st := []) l_RX11_112 (m_X11_gen hE ς y3 ht7) rfl (Nat.lt_of_lt_of_le (Nat.le_of_ble_eq_true rfl : 120 < 140) hE.1) rfl ⟨⟨rfl, rfl⟩, Nat.le_of_ble_eq_true rfl, Nat.le_of_ble_eq_true rfl⟩ (Nat.le_of_ble_eq_true rfl) dX11_without_51 (pc' := 54) rfl ?_
      refine kj_iconst dX11_without_54 (pc' := 55) rfl kc_1 ?_
      refine kj_iload_n dX11_without_55 (pc' := 56) rfl rfl rfl ?_
      refine kj_ishl dX11_without_56 (pc' := 57) rfl ?_
      refine kj_iconst dX11_without_57 (pc' := 58) rfl kc_m1 ?_
      refine kj_ixor dX11_without_58 (pc' := 59) rfl ?_
      refine kj_iand dX11_without_59 (pc' := 60) rfl ?_
      obtain ⟨x4, ex4, hT⟩ := lett_i hT
      rw [← ex4]
      refine kj_istore dX11_without_60 (pc' := 62) rfl (Nat.le_of_ble_eq_true rfl) (ls' := [some (.inr 120), some (.inl x1), some (.inl y2), some (.inl y3), some (.inl x4)]) rfl ?_
      refine kj_iload dX11_without_62 (pc' := 64) rfl rfl ?_
      refine kj_if_eq dX11_without_64 (tgt := 108) rfl (pc' := 67) rfl (fun c8 => ?_) (fun c8 => ?_)
      · rw [if_pos c8] at hT
        refine kj_keep [true, true, true, true] (ls' := [some (.inr 120), some (.inl x1), some (.inl y2), some (.inl y3)]) rfl ?_
        exact hJ108_19 y2 y3 ς hT
      · rw [if_neg c8] at hT
        refine kj_aload_n dX11_without_67 (pc' := 68) rfl rfl rfl ?_
        refine kj_getR f_RX11_23 rfl (Nat.lt_of_lt_of_le (Nat.le_of_ble_eq_true rfl : 120 < 140) hE.1) (hE.2 _ _) (q := 124) rfl dX11_without_68 (pc' := 71) rfl ?_
        refine kj_iconst dX11_without_71 (pc' := 72) rfl kc_0 ?_
        refine kj_aload_n dX11_without_72 (pc' := 73) rfl rfl rfl ?_
        refine kj_getI f_RX11_119 rfl (Nat.lt_of_lt_of_le (Nat.le_of_ble_eq_true rfl : 120 < 140) hE.1) dX11_without_73 (pc' := 76) rfl ?_
        refine kj_iload dX11_without_76 (pc' := 78) rfl rfl ?_
        obtain ⟨t9, ht9, hT⟩ := bind_some' hT
        refine kcSz (as := [.inr 124, .inl 0, .inl (ς 120 6), .inl x4]) (st := []) l_RX11_91 (m_X11_isThere (Nat.zero_le _) rfl (Nat.lt_of_lt_of_le (Nat.le_of_ble_eq_true rfl : 124 < 140) hE.1) ς 0 (ς 120 6) x4 ht9) rfl ⟨⟨rfl, rfl⟩, Nat.le_of_ble_eq_true rfl, Nat.le_of_ble_eq_true rfl⟩ (Nat.le_of_ble_eq_true rfl) dX11_without_78 (pc' := 81) rfl (fun z10 => ?_)
        refine kj_if_eq dX11_without_81 (tgt := 87) rfl (pc' := 84) rfl (fun c11 => ?_) (fun c11 => ?_)
        · rw [if_pos c11] at hT
          refine kj_aload_n dX11_without_87 (pc' := 88) rfl rfl rfl ?_
          refine kj_getR f_RX11_23 rfl (Nat.lt_of_lt_of_le (Nat.le_of_ble_eq_true rfl : 120 < 140) hE.1) (hE.2 _ _) (q := 124) rfl dX11_without_88 (pc' := 91) rfl ?_
          refine kj_aload_n dX11_without_91 (pc' := 92) rfl rfl rfl ?_
          refine kj_getI f_RX11_119 rfl (Nat.lt_of_lt_of_le (Nat.le_of_ble_eq_true rfl : 120 < 140) hE.1) dX11_without_92 (pc' := 95) rfl ?_
          refine kj_iload dX11_without_95 (pc' := 97) rfl rfl ?_
          obtain ⟨hi12, hT⟩ := ckA_some hT
          refine kj_iast rfl (Nat.lt_of_lt_of_le (Nat.le_of_ble_eq_true rfl : 124 < 140) hE.1) hi12 rfl dX11_without_97 (pc' := 98) rfl ?_
          refine kj_aload_n dX11_without_98 (pc' := 99) rfl rfl rfl ?_
          refine kj_dup dX11_without_99 (pc' := 100) rfl ?_
          refine kj_getI f_RX11_119 rfl (Nat.lt_of_lt_of_le (Nat.le_of_ble_eq_true rfl : 120 < 140) hE.1) dX11_without_100 (pc' := 103) rfl ?_
          refine kj_iconst dX11_without_103 (pc' := 104) rfl kc_1 ?_
          refine kj_iadd dX11_without_104 (pc' := 105) rfl ?_
          refine kj_putI p_RX11_119 rfl rfl rfl (Nat.lt_of_lt_of_le (Nat.le_of_ble_eq_true rfl : 120 < 140) hE.1) dX11_without_105 (pc' := 108) rfl ?_
          refine kj_keep [true, true, true, true] (ls' := [some (.inr 120), some (.inl x1), some (.inl y2), some (.inl y3)]) rfl ?_
          exact hJ108_19 y2 y3 (up (up ς 124 ((ς 120 6).toNatClampNeg) x4) 120 6 (((up ς 124 ((ς 120 6).toNatClampNeg) x4) 120 6) + 1)) hT
        · rw [if_neg c11] at hT
          refine kj_goto dX11_without_84 (pc' := 108) rfl ?_
          refine kj_keep [true, true, true, true] (ls' := [some (.inr 120), some (.inl x1), some (.inl y2), some (.inl y3)]) rfl ?_
          exact hJ108_19 y2 y3 ς hT
    have hJ43_19 : ∀ y3 ς, X11_without_J43 x1 rec19 y3 ς = some res → KJ E mX11_without rmX11_without 43 [some (.inr 120), some (.inl x1), none, some (.inl y3)] [] ς Q := by
      intro y3 ς hT
      unfold X11_without_J43 at hT
      refine kj_iconst dX11_without_43 (pc' := 44) rfl kc_1 ?_
      refine kj_goto dX11_without_44 (pc' := 48) rfl ?_
      refine kj_istore_n dX11_without_48 (pc' := 49) rfl rfl (Nat.le_of_ble_eq_true rfl) (ls' := [some (.inr 120), some (.inl x1), some (.inl 1), some (.inl y3)]) rfl ?_
      exact hJ49_19 1 y3 ς hT
    refine kj_iload_n dX11_without_19 (pc' := 20) rfl rfl rfl ?_
    refine kj_aload_n dX11_without_20 (pc' := 21) rfl rfl rfl ?_
    refine kcVi (as := []) (st := [.inl x3]) l_RX11_80 (m_X11_many hE σ rfl) rfl (Nat.lt_of_lt_of_le (Nat.le_of_ble_eq_true rfl : 120 < 140) hE.1) rfl ⟨⟨rfl, rfl⟩, Nat.le_of_ble_eq_true rfl, Nat.le_of_ble_eq_true rfl⟩ (Nat.le_of_ble_eq_true rfl) dX11_without_21 (pc' := 24) rfl ?_
    refine kj_icmp_ge dX11_without_24 (tgt := 114) rfl (pc' := 27) rfl (fun c5 => ?_) (fun c5 => ?_)
    · rw [if_pos c5] at hT
      refine kj_keep [true, false, true] (ls' := [some (.inr 120), none, some (.inl x2)]) rfl ?_
      exact hX19 x2 σ hT
    · rw [if_neg c5] at hT
      refine kj_iload_n dX11_without_27 (pc' := 28) rfl rfl rfl ?_
      refine kj_if_ne dX11_without_28 (tgt := 43) rfl (pc' := 31) rfl (fun c6 => ?_) (fun c6 => ?_)
      · rw [if_neg c6] at hT
        refine kj_keep [true, true, false, true] (ls' := [some (.inr 120), some (.inl x1), none, some (.inl x3)]) rfl ?_
        exact hJ43_19 x3 σ hT
      · rw [if_pos c6] at hT
        refine kj_aload_n dX11_without_31 (pc' := 32) rfl rfl rfl ?_
        refine kj_iload_n dX11_without_32 (pc' := 33) rfl rfl rfl ?_
        obtain ⟨t13, ht13, hT⟩ := bind_some' hT
        refine kcVi (as := [.inl x3]) (st := []) l_RX11_112 (m_X11_gen hE σ x3 ht13) rfl (Nat.lt_of_lt_of_le (Nat.le_of_ble_eq_true rfl : 120 < 140) hE.1) rfl ⟨⟨rfl, rfl⟩, Nat.le_of_ble_eq_true rfl, Nat.le_of_ble_eq_true rfl⟩ (Nat.le_of_ble_eq_true rfl) dX11_without_33 (pc' := 36) rfl ?_
        refine kj_iload_n dX11_without_36 (pc' := 37) rfl rfl rfl ?_
        refine kcSz (as := [.inl t13, .inl x1]) (st := []) l_RX11_128 (m_X11_has (Nat.zero_le _) σ t13 x1 rfl) rfl ⟨⟨rfl, rfl⟩, Nat.le_of_ble_eq_true rfl, Nat.le_of_ble_eq_true rfl⟩ (Nat.le_of_ble_eq_true rfl) dX11_without_37 (pc' := 40) rfl (fun z14 => ?_)
        refine kj_if_eq dX11_without_40 (tgt := 47) rfl (pc' := 43) rfl (fun c15 => ?_) (fun c15 => ?_)
        · rw [if_pos c15] at hT
          refine kj_iconst dX11_without_47 (pc' := 48) rfl kc_0 ?_
          refine kj_istore_n dX11_without_48 (pc' := 49) rfl rfl (Nat.le_of_ble_eq_true rfl) (ls' := [some (.inr 120), some (.inl x1), some (.inl 0), some (.inl x3)]) rfl ?_
          exact hJ49_19 0 x3 σ hT
        · rw [if_neg c15] at hT
          refine kj_keep [true, true, false, true] (ls' := [some (.inr 120), some (.inl x1), none, some (.inl x3)]) rfl ?_
          exact hJ43_19 x3 σ hT
  · rw [if_pos c2] at hT
    refine kj_iconst dX11_without_8 (pc' := 9) rfl kc_m1 ?_
    have hR := Option.some.inj hT
    subst hR
    exact kj_iret rfl dX11_without_9 (by subst hQ; exact ⟨rfl, rfl⟩)
def X11_innerOf_J53 (rec5 : Int32 × Int32 → Option (Int32)) (y3 : Int32) (y4 : Int32) : Option (Int32) :=
  rec5 (y3, y4 + 1)
def X11_innerOf_J43 (σ : Wd) (rec5 : Int32 × Int32 → Option (Int32)) (y3 : Int32) (y4 : Int32) : Option (Int32) :=
  (ckA y4 128 <| (lett (y3 ||| (σ 126 y4.toNatClampNeg)) fun x3 => X11_innerOf_J53 rec5 x3 y4))
def X11_innerOf_B5 (σ : Wd) (x1 : Int32) (x2 : Int32) (rec5 : Int32 × Int32 → Option (Int32)) : Int32 × Int32 → Option (Int32)
  | (x3, x4) => (if (σ 120 10) ≤ x4 then some x3 else (ckA x4 128 <| (if (X11_isWithin (σ 126 x4.toNatClampNeg) x1) = 0 then X11_innerOf_J53 rec5 x3 x4 else (if x2 = 0 then X11_innerOf_J43 σ rec5 x3 x4 else (ckA x4 128 <| (if (σ 126 x4.toNatClampNeg) = x1 then X11_innerOf_J53 rec5 x3 x4 else X11_innerOf_J43 σ rec5 x3 x4))))))
def X11_innerOf (σ : Wd) (x1 : Int32) (x2 : Int32) : Option (Int32) :=
  (lp (X11_innerOf_B5 σ x1 x2) FU (0, 0))
set_option maxRecDepth 100000 in
set_option maxHeartbeats 4000000 in
theorem m_X11_innerOf {E : JE} (hE : kOk 140 E) (σ : Wd) (x1 : Int32) (x2 : Int32) {res : Int32} (hT : X11_innerOf σ x1 x2 = some res) : kMt E yX11_innerOf mX11_innerOf rmX11_innerOf [.inr 120, .inl x1, .inl x2] σ (kQi res σ) := by
  refine kMt_of (by decide +kernel) rfl (Nat.le_of_ble_eq_true rfl) ?_
  generalize hQ : (kQi res σ) = Q
  show KJ E mX11_innerOf rmX11_innerOf 0 [some (.inr 120), some (.inl x1), some (.inl x2)] [] σ Q
  unfold X11_innerOf at hT
  refine kj_iconst dX11_innerOf_0 (pc' := 1) rfl kc_0 ?_
  refine kj_istore_n dX11_innerOf_1 (pc' := 2) rfl rfl (Nat.le_of_ble_eq_true rfl) (ls' := [some (.inr 120), some (.inl x1), some (.inl x2), some (.inl 0)]) rfl ?_
  refine kj_iconst dX11_innerOf_2 (pc' := 3) rfl kc_0 ?_
  refine kj_istore dX11_innerOf_3 (pc' := 5) rfl (Nat.le_of_ble_eq_true rfl) (ls' := [some (.inr 120), some (.inl x1), some (.inl x2), some (.inl 0), some (.inl 0)]) rfl ?_
  refine lp_ind (P := fun s => KJ E mX11_innerOf rmX11_innerOf 5 [some (.inr 120), some (.inl x1), some (.inl x2), some (.inl s.1), some (.inl s.2)] [] σ Q) (fun rec5 s ih5 hT => ?_) FU (0, 0) hT
  obtain ⟨x3, x4⟩ := s
  show KJ E mX11_innerOf rmX11_innerOf 5 [some (.inr 120), some (.inl x1), some (.inl x2), some (.inl x3), some (.inl x4)] [] σ Q
  rw [X11_innerOf_B5] at hT
  have hJ53_5 : ∀ y3 y4, X11_innerOf_J53 rec5 y3 y4 = some res → KJ E mX11_innerOf rmX11_innerOf 53 [some (.inr 120), some (.inl x1), some (.inl x2), some (.inl y3), some (.inl y4)] [] σ Q := by
    intro y3 y4 hT
    unfold X11_innerOf_J53 at hT
    refine kj_iinc dX11_innerOf_53 (pc' := 56) rfl rfl (congrArg (_ + ·) kc_1) (Nat.le_of_ble_eq_true rfl) (ls' := [some (.inr 120), some (.inl x1), some (.inl x2), some (.inl y3), some (.inl (y4 + 1))]) rfl ?_
    refine kj_goto dX11_innerOf_56 (pc' := 5) rfl ?_
    exact ih5 (y3, y4 + 1) hT
  have hJ43_5 : ∀ y3 y4, X11_innerOf_J43 σ rec5 y3 y4 = some res → KJ E mX11_innerOf rmX11_innerOf 43 [some (.inr 120), some (.inl x1), some (.inl x2), some (.inl y3), some (.inl y4)] [] σ Q := by
    intro y3 y4 hT
    unfold X11_innerOf_J43 at hT
    refine kj_iload_n dX11_innerOf_43 (pc' := 44) rfl rfl rfl ?_
    refine kj_aload_n dX11_innerOf_44 (pc' := 45) rfl rfl rfl ?_
    refine kj_getR f_RX11_30 rfl (Nat.lt_of_lt_of_le (Nat.le_of_ble_eq_true rfl : 120 < 140) hE.1) (hE.2 _ _) (q := 126) rfl dX11_innerOf_45 (pc' := 48) rfl ?_
    refine kj_iload dX11_innerOf_48 (pc' := 50) rfl rfl ?_
    obtain ⟨hi7, hT⟩ := ckA_some hT
    refine kj_iald rfl (Nat.lt_of_lt_of_le (Nat.le_of_ble_eq_true rfl : 126 < 140) hE.1) hi7 rfl dX11_innerOf_50 (pc' := 51) rfl ?_
    refine kj_ior dX11_innerOf_51 (pc' := 52) rfl ?_
    obtain ⟨x3, ex3, hT⟩ := lett_i hT
    rw [← ex3]
    refine kj_istore_n dX11_innerOf_52 (pc' := 53) rfl rfl (Nat.le_of_ble_eq_true rfl) (ls' := [some (.inr 120), some (.inl x1), some (.inl x2), some (.inl x3), some (.inl y4)]) rfl ?_
    exact hJ53_5 x3 y4 hT
  refine kj_iload dX11_innerOf_5 (pc' := 7) rfl rfl ?_
  refine kj_aload_n dX11_innerOf_7 (pc' := 8) rfl rfl rfl ?_
  refine kj_getI f_RX11_141 rfl (Nat.lt_of_lt_of_le (Nat.le_of_ble_eq_true rfl : 120 < 140) hE.1) dX11_innerOf_8 (pc' := 11) rfl ?_
  refine kj_icmp_ge dX11_innerOf_11 (tgt := 59) rfl (pc' := 14) rfl (fun c2 => ?_) (fun c2 => ?_)
  · rw [if_pos c2] at hT
    refine kj_iload_n dX11_innerOf_59 (pc' := 60) rfl rfl rfl ?_
    have hR := Option.some.inj hT
    subst hR
    exact kj_iret rfl dX11_innerOf_60 (by subst hQ; exact ⟨rfl, rfl⟩)
  · rw [if_neg c2] at hT
    refine kj_aload_n dX11_innerOf_14 (pc' := 15) rfl rfl rfl ?_
    refine kj_getR f_RX11_30 rfl (Nat.lt_of_lt_of_le (Nat.le_of_ble_eq_true rfl : 120 < 140) hE.1) (hE.2 _ _) (q := 126) rfl dX11_innerOf_15 (pc' := 18) rfl ?_
    refine kj_iload dX11_innerOf_18 (pc' := 20) rfl rfl ?_
    obtain ⟨hi3, hT⟩ := ckA_some hT
    refine kj_iald rfl (Nat.lt_of_lt_of_le (Nat.le_of_ble_eq_true rfl : 126 < 140) hE.1) hi3 rfl dX11_innerOf_20 (pc' := 21) rfl ?_
    refine kj_iload_n dX11_innerOf_21 (pc' := 22) rfl rfl rfl ?_
    refine kcSz (as := [.inl (σ 126 x4.toNatClampNeg), .inl x1]) (st := []) l_RX11_160 (m_X11_isWithin (Nat.zero_le _) σ (σ 126 x4.toNatClampNeg) x1 rfl) rfl ⟨⟨rfl, rfl⟩, Nat.le_of_ble_eq_true rfl, Nat.le_of_ble_eq_true rfl⟩ (Nat.le_of_ble_eq_true rfl) dX11_innerOf_22 (pc' := 25) rfl (fun z4 => ?_)
    refine kj_if_eq dX11_innerOf_25 (tgt := 53) rfl (pc' := 28) rfl (fun c5 => ?_) (fun c5 => ?_)
    · rw [if_pos c5] at hT
      exact hJ53_5 x3 x4 hT
    · rw [if_neg c5] at hT
      refine kj_iload_n dX11_innerOf_28 (pc' := 29) rfl rfl rfl ?_
      refine kj_if_eq dX11_innerOf_29 (tgt := 43) rfl (pc' := 32) rfl (fun c6 => ?_) (fun c6 => ?_)
      · rw [if_pos c6] at hT
        exact hJ43_5 x3 x4 hT
      · rw [if_neg c6] at hT
        refine kj_aload_n dX11_innerOf_32 (pc' := 33) rfl rfl rfl ?_
        refine kj_getR f_RX11_30 rfl (Nat.lt_of_lt_of_le (Nat.le_of_ble_eq_true rfl : 120 < 140) hE.1) (hE.2 _ _) (q := 126) rfl dX11_innerOf_33 (pc' := 36) rfl ?_
        refine kj_iload dX11_innerOf_36 (pc' := 38) rfl rfl ?_
        obtain ⟨hi8, hT⟩ := ckA_some hT
        refine kj_iald rfl (Nat.lt_of_lt_of_le (Nat.le_of_ble_eq_true rfl : 126 < 140) hE.1) hi8 rfl dX11_innerOf_38 (pc' := 39) rfl ?_
        refine kj_iload_n dX11_innerOf_39 (pc' := 40) rfl rfl rfl ?_
        refine kj_icmp_eq dX11_innerOf_40 (tgt := 53) rfl (pc' := 43) rfl (fun c9 => ?_) (fun c9 => ?_)
        · rw [if_pos c9] at hT
          exact hJ53_5 x3 x4 hT
        · rw [if_neg c9] at hT
          exact hJ43_5 x3 x4 hT
def X11_isBased (σ : Wd) (x1 : Int32) : Option (Int32) :=
  (if x1 = 0 then some 0 else (ckA x1 128 <| (if (σ 125 x1.toNatClampNeg) = 0 then some 0 else ((X11_innerOf σ x1 1).bind fun t4 => (if t4 = x1 then some 0 else some 1)))))
set_option maxRecDepth 100000 in
set_option maxHeartbeats 4000000 in
theorem m_X11_isBased {E : JE} (hE : kOk 140 E) (σ : Wd) (x1 : Int32) {res : Int32} (hT : X11_isBased σ x1 = some res) : kMt E yX11_isBased mX11_isBased rmX11_isBased [.inr 120, .inl x1] σ (kQz res σ) := by
  refine kMt_of (by decide +kernel) rfl (Nat.le_of_ble_eq_true rfl) ?_
  generalize hQ : (kQz res σ) = Q
  show KJ E mX11_isBased rmX11_isBased 0 [some (.inr 120), some (.inl x1)] [] σ Q
  unfold X11_isBased at hT
  refine kj_iload_n dX11_isBased_0 (pc' := 1) rfl rfl rfl ?_
  refine kj_if_eq dX11_isBased_1 (tgt := 27) rfl (pc' := 4) rfl (fun c1 => ?_) (fun c1 => ?_)
  · rw [if_pos c1] at hT
    refine kj_iconst dX11_isBased_27 (pc' := 28) rfl kc_0 ?_
    have hR := Option.some.inj hT
    subst hR
    exact kj_zret rfl (Or.inl rfl) dX11_isBased_28 (by subst hQ; exact ⟨rfl, rfl, (Or.inl rfl)⟩)
  · rw [if_neg c1] at hT
    refine kj_aload_n dX11_isBased_4 (pc' := 5) rfl rfl rfl ?_
    refine kj_getR f_RX11_26 rfl (Nat.lt_of_lt_of_le (Nat.le_of_ble_eq_true rfl : 120 < 140) hE.1) (hE.2 _ _) (q := 125) rfl dX11_isBased_5 (pc' := 8) rfl ?_
    refine kj_iload_n dX11_isBased_8 (pc' := 9) rfl rfl rfl ?_
    obtain ⟨hi2, hT⟩ := ckA_some hT
    refine kj_zald rfl (Nat.lt_of_lt_of_le (Nat.le_of_ble_eq_true rfl : 125 < 140) hE.1) hi2 rfl dX11_isBased_9 (pc' := 10) rfl ?_
    refine kj_if_eq dX11_isBased_10 (tgt := 27) rfl (pc' := 13) rfl (fun c3 => ?_) (fun c3 => ?_)
    · rw [if_pos c3] at hT
      refine kj_iconst dX11_isBased_27 (pc' := 28) rfl kc_0 ?_
      have hR := Option.some.inj hT
      subst hR
      exact kj_zret rfl (Or.inl rfl) dX11_isBased_28 (by subst hQ; exact ⟨rfl, rfl, (Or.inl rfl)⟩)
    · rw [if_neg c3] at hT
      refine kj_aload_n dX11_isBased_13 (pc' := 14) rfl rfl rfl ?_
      refine kj_iload_n dX11_isBased_14 (pc' := 15) rfl rfl rfl ?_
      refine kj_iconst dX11_isBased_15 (pc' := 16) rfl kc_1 ?_
      obtain ⟨t4, ht4, hT⟩ := bind_some' hT
      refine kcVi (as := [.inl x1, .inl 1]) (st := []) l_RX11_163 (m_X11_innerOf hE σ x1 1 ht4) rfl (Nat.lt_of_lt_of_le (Nat.le_of_ble_eq_true rfl : 120 < 140) hE.1) rfl ⟨⟨rfl, rfl⟩, Nat.le_of_ble_eq_true rfl, Nat.le_of_ble_eq_true rfl⟩ (Nat.le_of_ble_eq_true rfl) dX11_isBased_16 (pc' := 19) rfl ?_
      refine kj_iload_n dX11_isBased_19 (pc' := 20) rfl rfl rfl ?_
      refine kj_icmp_eq dX11_isBased_20 (tgt := 27) rfl (pc' := 23) rfl (fun c5 => ?_) (fun c5 => ?_)
      · rw [if_pos c5] at hT
        refine kj_iconst dX11_isBased_27 (pc' := 28) rfl kc_0 ?_
        have hR := Option.some.inj hT
        subst hR
        exact kj_zret rfl (Or.inl rfl) dX11_isBased_28 (by subst hQ; exact ⟨rfl, rfl, (Or.inl rfl)⟩)
      · rw [if_neg c5] at hT
        refine kj_iconst dX11_isBased_23 (pc' := 24) rfl kc_1 ?_
        refine kj_goto dX11_isBased_24 (pc' := 28) rfl ?_
        have hR := Option.some.inj hT
        subst hR
        exact kj_zret rfl (Or.inr rfl) dX11_isBased_28 (by subst hQ; exact ⟨rfl, rfl, (Or.inr rfl)⟩)
def X11_spans_J105 (rec34 : Int32 × Wd → Option (Wd)) (y4 : Int32) (ς : Wd) : Option (Wd) :=
  rec34 (y4 + 1, ς)
def X11_spans_T105 (rec34 : Int32 × Wd → Option (Wd)) (y4 : Int32) (σ : Wd) : Option (Wd) :=
  X11_spans_J105 rec34 y4 σ
def X11_spans_J99 (rec76 : Int32 × Wd → Option (Wd)) (y6 : Int32) (ς : Wd) : Option (Wd) :=
  rec76 (y6 + 1, ς)
def X11_spans_B76 (q1 : Nat) (y5 : Int32) (kx76 : Wd → Option (Wd)) (rec76 : Int32 × Wd → Option (Wd)) : Int32 × Wd → Option (Wd)
  | (x6, σ) => (if 128 ≤ x6 then kx76 σ else (ckA x6 (kLn q1) <| (if (σ q1 x6.toNatClampNeg) = 0 then X11_spans_J99 rec76 x6 σ else (ckA (x6 ||| y5) (kLn q1) <| X11_spans_J99 rec76 x6 (up σ q1 ((x6 ||| y5).toNatClampNeg) 1)))))
def X11_spans_J73 (q1 : Nat) (rec34 : Int32 × Wd → Option (Wd)) (y4 : Int32) (y5 : Int32) (ς : Wd) : Option (Wd) :=
  (lp (X11_spans_B76 q1 y5 (X11_spans_T105 rec34 y4)) FU (0, ς))
def X11_spans_B34 (x2 : Int32) (q1 : Nat) (x3 : Int32) (rec34 : Int32 × Wd → Option (Wd)) : Int32 × Wd → Option (Wd)
  | (x4, σ) => (if (X11_many σ) < x4 then some σ else (if x4 = x2 then X11_spans_J105 rec34 x4 σ else (if (X11_many σ) ≤ x4 then X11_spans_J73 q1 rec34 x4 x3 σ else ((X11_gen σ x4).bind fun t8 => X11_spans_J73 q1 rec34 x4 t8 σ))))
def X11_spans_T31 (x2 : Int32) (q1 : Nat) (x3 : Int32) (σ : Wd) : Option (Wd) :=
  (lp (X11_spans_B34 x2 q1 x3) FU (0, σ))
def X11_spans_J25 (rec3 : Int32 × Wd → Option (Wd)) (y4 : Int32) (ς : Wd) : Option (Wd) :=
  rec3 (y4 + 1, ς)
def X11_spans_B3 (q1 : Nat) (kx3 : Wd → Option (Wd)) (rec3 : Int32 × Wd → Option (Wd)) : Int32 × Wd → Option (Wd)
  | (x4, σ) => (if 128 ≤ x4 then kx3 σ else (if x4 = 0 then (ckA x4 (kLn q1) <| X11_spans_J25 rec3 x4 (up σ q1 x4.toNatClampNeg 1)) else (ckA x4 (kLn q1) <| X11_spans_J25 rec3 x4 (up σ q1 x4.toNatClampNeg 0))))
def X11_spans (σ : Wd) (q1 : Nat) (x2 : Int32) (x3 : Int32) : Option (Wd) :=
  (lp (X11_spans_B3 q1 (X11_spans_T31 x2 q1 x3)) FU (0, σ))
set_option maxRecDepth 100000 in
set_option maxHeartbeats 4000000 in
theorem m_X11_spans {E : JE} (hE : kOk 140 E) {q1 : Nat} (hq1 : kKd q1 = 21) (nq1 : q1 < E.2.2.2.2.1) (σ : Wd) (x2 : Int32) (x3 : Int32) {res : Wd} (hT : X11_spans σ q1 x2 x3 = some res) : kMt E yX11_spans mX11_spans rmX11_spans [.inr 120, .inr q1, .inl x2, .inl x3] σ (kQv res) := by
  refine kMt_of (by decide +kernel) rfl (Nat.le_of_ble_eq_true rfl) ?_
  generalize hQ : (kQv res) = Q
  show KJ E mX11_spans rmX11_spans 0 [some (.inr 120), some (.inr q1), some (.inl x2), some (.inl x3)] [] σ Q
  unfold X11_spans at hT
  refine kj_iconst dX11_spans_0 (pc' := 1) rfl kc_0 ?_
  refine kj_istore dX11_spans_1 (pc' := 3) rfl (Nat.le_of_ble_eq_true rfl) (ls' := [some (.inr 120), some (.inr q1), some (.inl x2), some (.inl x3), some (.inl 0)]) rfl ?_
  have hX3 : ∀ σ, X11_spans_T31 x2 q1 x3 σ = some res → KJ E mX11_spans rmX11_spans 31 [some (.inr 120), some (.inr q1), some (.inl x2), some (.inl x3)] [] σ Q := by
    intro σ hT
    unfold X11_spans_T31 at hT
    refine kj_iconst dX11_spans_31 (pc' := 32) rfl kc_0 ?_
    refine kj_istore dX11_spans_32 (pc' := 34) rfl (Nat.le_of_ble_eq_true rfl) (ls' := [some (.inr 120), some (.inr q1), some (.inl x2), some (.inl x3), some (.inl 0)]) rfl ?_
    refine lp_ind (P := fun s => KJ E mX11_spans rmX11_spans 34 [some (.inr 120), some (.inr q1), some (.inl x2), some (.inl x3), some (.inl s.1)] [] s.2 Q) (fun rec34 s ih34 hT => ?_) FU (0, σ) hT
    obtain ⟨x4, σ⟩ := s
    show KJ E mX11_spans rmX11_spans 34 [some (.inr 120), some (.inr q1), some (.inl x2), some (.inl x3), some (.inl x4)] [] σ Q
    rw [X11_spans_B34] at hT
    have hJ105_34 : ∀ y4 ς, X11_spans_J105 rec34 y4 ς = some res → KJ E mX11_spans rmX11_spans 105 [some (.inr 120), some (.inr q1), some (.inl x2), some (.inl x3), some (.inl y4)] [] ς Q := by
      intro y4 ς hT
      unfold X11_spans_J105 at hT
      refine kj_iinc dX11_spans_105 (pc' := 108) rfl rfl (congrArg (_ + ·) kc_1) (Nat.le_of_ble_eq_true rfl) (ls' := [some (.inr 120), some (.inr q1), some (.inl x2), some (.inl x3), some (.inl (y4 + 1))]) rfl ?_
      refine kj_goto dX11_spans_108 (pc' := 34) rfl ?_
      exact ih34 (y4 + 1, ς) hT
    have hJ73_34 : ∀ y4 y5 ς, X11_spans_J73 q1 rec34 y4 y5 ς = some res → KJ E mX11_spans rmX11_spans 73 [some (.inr 120), some (.inr q1), some (.inl x2), some (.inl x3), some (.inl y4), some (.inl y5)] [] ς Q := by
      intro y4 y5 ς hT
      unfold X11_spans_J73 at hT
      refine kj_iconst dX11_spans_73 (pc' := 74) rfl kc_0 ?_
      refine kj_istore dX11_spans_74 (pc' := 76) rfl (Nat.le_of_ble_eq_true rfl) (ls' := [some (.inr 120), some (.inr q1), some (.inl x2), some (.inl x3), some (.inl y4), some (.inl y5), some (.inl 0)]) rfl ?_
      have hX76 : ∀ σ, X11_spans_T105 rec34 y4 σ = some res → KJ E mX11_spans rmX11_spans 105 [some (.inr 120), some (.inr q1), some (.inl x2), some (.inl x3), some (.inl y4)] [] σ Q := by
        intro σ hT
        unfold X11_spans_T105 at hT
        exact hJ105_34 y4 σ hT
      refine lp_ind (P := fun s => KJ E mX11_spans rmX11_spans 76 [some (.inr 120), some (.inr q1), some (.inl x2), some (.inl x3), some (.inl y4), some (.inl y5), some (.inl s.1)] [] s.2 Q) (fun rec76 s ih76 hT => ?_) FU (0, ς) hT
      obtain ⟨x6, σ⟩ := s
      show KJ E mX11_spans rmX11_spans 76 [some (.inr 120), some (.inr q1), some (.inl x2), some (.inl x3), some (.inl y4), some (.inl y5), some (.inl x6)] [] σ Q
      rw [X11_spans_B76] at hT
      have hJ99_34_76 : ∀ y6 ς, X11_spans_J99 rec76 y6 ς = some res → KJ E mX11_spans rmX11_spans 99 [some (.inr 120), some (.inr q1), some (.inl x2), some (.inl x3), some (.inl y4), some (.inl y5), some (.inl y6)] [] ς Q := by
        intro y6 ς hT
        unfold X11_spans_J99 at hT
        refine kj_iinc dX11_spans_99 (pc' := 102) rfl rfl (congrArg (_ + ·) kc_1) (Nat.le_of_ble_eq_true rfl) (ls' := [some (.inr 120), some (.inr q1), some (.inl x2), some (.inl x3), some (.inl y4), some (.inl y5), some (.inl (y6 + 1))]) rfl ?_
        refine kj_goto dX11_spans_102 (pc' := 76) rfl ?_
        exact ih76 (y6 + 1, ς) hT
      refine kj_iload dX11_spans_76 (pc' := 78) rfl rfl ?_
      refine kj_sipush dX11_spans_78 (pc' := 81) rfl ks_128 ?_
      refine kj_icmp_ge dX11_spans_81 (tgt := 105) rfl (pc' := 84) rfl (fun c4 => ?_) (fun c4 => ?_)
      · rw [if_pos c4] at hT
        refine kj_keep [true, true, true, true, true] (ls' := [some (.inr 120), some (.inr q1), some (.inl x2), some (.inl x3), some (.inl y4)]) rfl ?_
        exact hX76 σ hT
      · rw [if_neg c4] at hT
        refine kj_aload_n dX11_spans_84 (pc' := 85) rfl rfl rfl ?_
        refine kj_iload dX11_spans_85 (pc' := 87) rfl rfl ?_
        obtain ⟨hi5, hT⟩ := ckA_some hT
        refine kj_zald hq1 nq1 hi5 rfl dX11_spans_87 (pc' := 88) rfl ?_
        refine kj_if_eq dX11_spans_88 (tgt := 99) rfl (pc' := 91) rfl (fun c6 => ?_) (fun c6 => ?_)
        · rw [if_pos c6] at hT
          exact hJ99_34_76 x6 σ hT
        · rw [if_neg c6] at hT
          refine kj_aload_n dX11_spans_91 (pc' := 92) rfl rfl rfl ?_
          refine kj_iload dX11_spans_92 (pc' := 94) rfl rfl ?_
          refine kj_iload dX11_spans_94 (pc' := 96) rfl rfl ?_
          refine kj_ior dX11_spans_96 (pc' := 97) rfl ?_
          refine kj_iconst dX11_spans_97 (pc' := 98) rfl kc_1 ?_
          obtain ⟨hi7, hT⟩ := ckA_some hT
          refine kj_zast hq1 nq1 hi7 (y := 1) (by decide +kernel) rfl dX11_spans_98 (pc' := 99) rfl ?_
          exact hJ99_34_76 x6 (up σ q1 ((x6 ||| y5).toNatClampNeg) 1) hT
    refine kj_iload dX11_spans_34 (pc' := 36) rfl rfl ?_
    refine kj_aload_n dX11_spans_36 (pc' := 37) rfl rfl rfl ?_
    refine kcVi (as := []) (st := [.inl x4]) l_RX11_80 (m_X11_many hE σ rfl) rfl (Nat.lt_of_lt_of_le (Nat.le_of_ble_eq_true rfl : 120 < 140) hE.1) rfl ⟨⟨rfl, rfl⟩, Nat.le_of_ble_eq_true rfl, Nat.le_of_ble_eq_true rfl⟩ (Nat.le_of_ble_eq_true rfl) dX11_spans_37 (pc' := 40) rfl ?_
    refine kj_icmp_gt dX11_spans_40 (tgt := 111) rfl (pc' := 43) rfl (fun c1 => ?_) (fun c1 => ?_)
    · rw [if_pos c1] at hT
      have hR := Option.some.inj hT
      subst hR
      exact kj_vret rfl dX11_spans_111 (by subst hQ; exact ⟨rfl, rfl⟩)
    · rw [if_neg c1] at hT
      refine kj_iload dX11_spans_43 (pc' := 45) rfl rfl ?_
      refine kj_iload_n dX11_spans_45 (pc' := 46) rfl rfl rfl ?_
      refine kj_icmp_ne dX11_spans_46 (tgt := 52) rfl (pc' := 49) rfl (fun c2 => ?_) (fun c2 => ?_)
      · rw [if_neg c2] at hT
        refine kj_iload dX11_spans_52 (pc' := 54) rfl rfl ?_
        refine kj_aload_n dX11_spans_54 (pc' := 55) rfl rfl rfl ?_
        refine kcVi (as := []) (st := [.inl x4]) l_RX11_80 (m_X11_many hE σ rfl) rfl (Nat.lt_of_lt_of_le (Nat.le_of_ble_eq_true rfl : 120 < 140) hE.1) rfl ⟨⟨rfl, rfl⟩, Nat.le_of_ble_eq_true rfl, Nat.le_of_ble_eq_true rfl⟩ (Nat.le_of_ble_eq_true rfl) dX11_spans_55 (pc' := 58) rfl ?_
        refine kj_icmp_ge dX11_spans_58 (tgt := 70) rfl (pc' := 61) rfl (fun c3 => ?_) (fun c3 => ?_)
        · rw [if_pos c3] at hT
          refine kj_iload_n dX11_spans_70 (pc' := 71) rfl rfl rfl ?_
          refine kj_istore dX11_spans_71 (pc' := 73) rfl (Nat.le_of_ble_eq_true rfl) (ls' := [some (.inr 120), some (.inr q1), some (.inl x2), some (.inl x3), some (.inl x4), some (.inl x3)]) rfl ?_
          exact hJ73_34 x4 x3 σ hT
        · rw [if_neg c3] at hT
          refine kj_aload_n dX11_spans_61 (pc' := 62) rfl rfl rfl ?_
          refine kj_iload dX11_spans_62 (pc' := 64) rfl rfl ?_
          obtain ⟨t8, ht8, hT⟩ := bind_some' hT
          refine kcVi (as := [.inl x4]) (st := []) l_RX11_112 (m_X11_gen hE σ x4 ht8) rfl (Nat.lt_of_lt_of_le (Nat.le_of_ble_eq_true rfl : 120 < 140) hE.1) rfl ⟨⟨rfl, rfl⟩, Nat.le_of_ble_eq_true rfl, Nat.le_of_ble_eq_true rfl⟩ (Nat.le_of_ble_eq_true rfl) dX11_spans_64 (pc' := 67) rfl ?_
          refine kj_goto dX11_spans_67 (pc' := 71) rfl ?_
          refine kj_istore dX11_spans_71 (pc' := 73) rfl (Nat.le_of_ble_eq_true rfl) (ls' := [some (.inr 120), some (.inr q1), some (.inl x2), some (.inl x3), some (.inl x4), some (.inl t8)]) rfl ?_
          exact hJ73_34 x4 t8 σ hT
      · rw [if_pos c2] at hT
        refine kj_goto dX11_spans_49 (pc' := 105) rfl ?_
        exact hJ105_34 x4 σ hT
  refine lp_ind (P := fun s => KJ E mX11_spans rmX11_spans 3 [some (.inr 120), some (.inr q1), some (.inl x2), some (.inl x3), some (.inl s.1)] [] s.2 Q) (fun rec3 s ih3 hT => ?_) FU (0, σ) hT
  obtain ⟨x4, σ⟩ := s
  show KJ E mX11_spans rmX11_spans 3 [some (.inr 120), some (.inr q1), some (.inl x2), some (.inl x3), some (.inl x4)] [] σ Q
  rw [X11_spans_B3] at hT
  have hJ25_3 : ∀ y4 ς, X11_spans_J25 rec3 y4 ς = some res → KJ E mX11_spans rmX11_spans 25 [some (.inr 120), some (.inr q1), some (.inl x2), some (.inl x3), some (.inl y4)] [] ς Q := by
    intro y4 ς hT
    unfold X11_spans_J25 at hT
    refine kj_iinc dX11_spans_25 (pc' := 28) rfl rfl (congrArg (_ + ·) kc_1) (Nat.le_of_ble_eq_true rfl) (ls' := [some (.inr 120), some (.inr q1), some (.inl x2), some (.inl x3), some (.inl (y4 + 1))]) rfl ?_
    refine kj_goto dX11_spans_28 (pc' := 3) rfl ?_
    exact ih3 (y4 + 1, ς) hT
  refine kj_iload dX11_spans_3 (pc' := 5) rfl rfl ?_
  refine kj_sipush dX11_spans_5 (pc' := 8) rfl ks_128 ?_
  refine kj_icmp_ge dX11_spans_8 (tgt := 31) rfl (pc' := 11) rfl (fun c9 => ?_) (fun c9 => ?_)
  · rw [if_pos c9] at hT
    refine kj_keep [true, true, true, true] (ls' := [some (.inr 120), some (.inr q1), some (.inl x2), some (.inl x3)]) rfl ?_
    exact hX3 σ hT
  · rw [if_neg c9] at hT
    refine kj_aload_n dX11_spans_11 (pc' := 12) rfl rfl rfl ?_
    refine kj_iload dX11_spans_12 (pc' := 14) rfl rfl ?_
    refine kj_iload dX11_spans_14 (pc' := 16) rfl rfl ?_
    refine kj_if_ne dX11_spans_16 (tgt := 23) rfl (pc' := 19) rfl (fun c10 => ?_) (fun c10 => ?_)
    · rw [if_neg c10] at hT
      refine kj_iconst dX11_spans_23 (pc' := 24) rfl kc_0 ?_
      obtain ⟨hi11, hT⟩ := ckA_some hT
      refine kj_zast hq1 nq1 hi11 (y := 0) (by decide +kernel) rfl dX11_spans_24 (pc' := 25) rfl ?_
      exact hJ25_3 x4 (up σ q1 x4.toNatClampNeg 0) hT
    · rw [if_pos c10] at hT
      refine kj_iconst dX11_spans_19 (pc' := 20) rfl kc_1 ?_
      refine kj_goto dX11_spans_20 (pc' := 24) rfl ?_
      obtain ⟨hi12, hT⟩ := ckA_some hT
      refine kj_zast hq1 nq1 hi12 (y := 1) (by decide +kernel) rfl dX11_spans_24 (pc' := 25) rfl ?_
      exact hJ25_3 x4 (up σ q1 x4.toNatClampNeg 1) hT
def X11_lays_T88 (rec17 : Int32 × Wd → Option (Wd)) (x1 : Int32) (σ : Wd) : Option (Wd) :=
  rec17 (x1 + 1, σ)
def X11_lays_J82 (rec25 : Int32 × Wd → Option (Wd)) (y2 : Int32) (ς : Wd) : Option (Wd) :=
  rec25 (y2 + 1, ς)
def X11_lays_B25 (x1 : Int32) (kx25 : Wd → Option (Wd)) (rec25 : Int32 × Wd → Option (Wd)) : Int32 × Wd → Option (Wd)
  | (x2, σ) => (if 128 ≤ x2 then kx25 σ else (ckA x2 128 <| (if (σ 125 x2.toNatClampNeg) = 0 then X11_lays_J82 rec25 x2 σ else ((X11_ones x2).bind fun t6 => (if t6 = x1 then (ckA x2 128 <| (ckA ((up σ 127 x2.toNatClampNeg (σ 120 10)) 120 10) 128 <| X11_lays_J82 rec25 x2 (up (up (up σ 127 x2.toNatClampNeg (σ 120 10)) 126 (((up σ 127 x2.toNatClampNeg (σ 120 10)) 120 10).toNatClampNeg) x2) 120 10 (((up (up σ 127 x2.toNatClampNeg (σ 120 10)) 126 (((up σ 127 x2.toNatClampNeg (σ 120 10)) 120 10).toNatClampNeg) x2) 120 10) + 1)))) else X11_lays_J82 rec25 x2 σ)))))
def X11_lays_B17 (rec17 : Int32 × Wd → Option (Wd)) : Int32 × Wd → Option (Wd)
  | (x1, σ) => (if 7 < x1 then some σ else (lp (X11_lays_B25 x1 (X11_lays_T88 rec17 x1)) FU (0, σ)))
def X11_lays (σ : Wd) : Option (Wd) :=
  ((X11_spans σ 125 (-1) 0).bind fun σ1 => (lp (X11_lays_B17) FU (0, up σ1 120 10 0)))
set_option maxRecDepth 100000 in
set_option maxHeartbeats 4000000 in
theorem m_X11_lays {E : JE} (hE : kOk 140 E) (σ : Wd) {res : Wd} (hT : X11_lays σ = some res) : kMt E yX11_lays mX11_lays rmX11_lays [.inr 120] σ (kQv res) := by
  refine kMt_of (by decide +kernel) rfl (Nat.le_of_ble_eq_true rfl) ?_
  generalize hQ : (kQv res) = Q
  show KJ E mX11_lays rmX11_lays 0 [some (.inr 120)] [] σ Q
  unfold X11_lays at hT
  refine kj_aload_n dX11_lays_0 (pc' := 1) rfl rfl rfl ?_
  refine kj_aload_n dX11_lays_1 (pc' := 2) rfl rfl rfl ?_
  refine kj_getR f_RX11_26 rfl (Nat.lt_of_lt_of_le (Nat.le_of_ble_eq_true rfl : 120 < 140) hE.1) (hE.2 _ _) (q := 125) rfl dX11_lays_2 (pc' := 5) rfl ?_
  refine kj_iconst dX11_lays_5 (pc' := 6) rfl kc_m1 ?_
  refine kj_iconst dX11_lays_6 (pc' := 7) rfl kc_0 ?_
  obtain ⟨σ1, hσ1, hT⟩ := bind_some' hT
  refine kcVv (as := [.inr 125, .inl (-1), .inl 0]) (st := []) l_RX11_153 (m_X11_spans hE rfl (Nat.lt_of_lt_of_le (Nat.le_of_ble_eq_true rfl : 125 < 140) hE.1) σ (-1) 0 hσ1) rfl (Nat.lt_of_lt_of_le (Nat.le_of_ble_eq_true rfl : 120 < 140) hE.1) rfl ⟨⟨rfl, rfl⟩, Nat.le_of_ble_eq_true rfl, Nat.le_of_ble_eq_true rfl⟩ (Nat.le_of_ble_eq_true rfl) dX11_lays_7 (pc' := 10) rfl ?_
  refine kj_aload_n dX11_lays_10 (pc' := 11) rfl rfl rfl ?_
  refine kj_iconst dX11_lays_11 (pc' := 12) rfl kc_0 ?_
  refine kj_putI p_RX11_141 rfl rfl rfl (Nat.lt_of_lt_of_le (Nat.le_of_ble_eq_true rfl : 120 < 140) hE.1) dX11_lays_12 (pc' := 15) rfl ?_
  refine kj_iconst dX11_lays_15 (pc' := 16) rfl kc_0 ?_
  refine kj_istore_n dX11_lays_16 (pc' := 17) rfl rfl (Nat.le_of_ble_eq_true rfl) (ls' := [some (.inr 120), some (.inl 0)]) rfl ?_
  refine lp_ind (P := fun s => KJ E mX11_lays rmX11_lays 17 [some (.inr 120), some (.inl s.1)] [] s.2 Q) (fun rec17 s ih17 hT => ?_) FU (0, up σ1 120 10 0) hT
  obtain ⟨x1, σ⟩ := s
  show KJ E mX11_lays rmX11_lays 17 [some (.inr 120), some (.inl x1)] [] σ Q
  rw [X11_lays_B17] at hT
  refine kj_iload_n dX11_lays_17 (pc' := 18) rfl rfl rfl ?_
  refine kj_bipush dX11_lays_18 (pc' := 20) rfl kb_7 ?_
  refine kj_icmp_gt dX11_lays_20 (tgt := 94) rfl (pc' := 23) rfl (fun c2 => ?_) (fun c2 => ?_)
  · rw [if_pos c2] at hT
    have hR := Option.some.inj hT
    subst hR
    exact kj_vret rfl dX11_lays_94 (by subst hQ; exact ⟨rfl, rfl⟩)
  · rw [if_neg c2] at hT
    refine kj_iconst dX11_lays_23 (pc' := 24) rfl kc_0 ?_
    refine kj_istore_n dX11_lays_24 (pc' := 25) rfl rfl (Nat.le_of_ble_eq_true rfl) (ls' := [some (.inr 120), some (.inl x1), some (.inl 0)]) rfl ?_
    have hX25 : ∀ σ, X11_lays_T88 rec17 x1 σ = some res → KJ E mX11_lays rmX11_lays 88 [some (.inr 120), some (.inl x1)] [] σ Q := by
      intro σ hT
      unfold X11_lays_T88 at hT
      refine kj_iinc dX11_lays_88 (pc' := 91) rfl rfl (congrArg (_ + ·) kc_1) (Nat.le_of_ble_eq_true rfl) (ls' := [some (.inr 120), some (.inl (x1 + 1))]) rfl ?_
      refine kj_goto dX11_lays_91 (pc' := 17) rfl ?_
      exact ih17 (x1 + 1, σ) hT
    refine lp_ind (P := fun s => KJ E mX11_lays rmX11_lays 25 [some (.inr 120), some (.inl x1), some (.inl s.1)] [] s.2 Q) (fun rec25 s ih25 hT => ?_) FU (0, σ) hT
    obtain ⟨x2, σ⟩ := s
    show KJ E mX11_lays rmX11_lays 25 [some (.inr 120), some (.inl x1), some (.inl x2)] [] σ Q
    rw [X11_lays_B25] at hT
    have hJ82_17_25 : ∀ y2 ς, X11_lays_J82 rec25 y2 ς = some res → KJ E mX11_lays rmX11_lays 82 [some (.inr 120), some (.inl x1), some (.inl y2)] [] ς Q := by
      intro y2 ς hT
      unfold X11_lays_J82 at hT
      refine kj_iinc dX11_lays_82 (pc' := 85) rfl rfl (congrArg (_ + ·) kc_1) (Nat.le_of_ble_eq_true rfl) (ls' := [some (.inr 120), some (.inl x1), some (.inl (y2 + 1))]) rfl ?_
      refine kj_goto dX11_lays_85 (pc' := 25) rfl ?_
      exact ih25 (y2 + 1, ς) hT
    refine kj_iload_n dX11_lays_25 (pc' := 26) rfl rfl rfl ?_
    refine kj_sipush dX11_lays_26 (pc' := 29) rfl ks_128 ?_
    refine kj_icmp_ge dX11_lays_29 (tgt := 88) rfl (pc' := 32) rfl (fun c3 => ?_) (fun c3 => ?_)
    · rw [if_pos c3] at hT
      refine kj_keep [true, true] (ls' := [some (.inr 120), some (.inl x1)]) rfl ?_
      exact hX25 σ hT
    · rw [if_neg c3] at hT
      refine kj_aload_n dX11_lays_32 (pc' := 33) rfl rfl rfl ?_
      refine kj_getR f_RX11_26 rfl (Nat.lt_of_lt_of_le (Nat.le_of_ble_eq_true rfl : 120 < 140) hE.1) (hE.2 _ _) (q := 125) rfl dX11_lays_33 (pc' := 36) rfl ?_
      refine kj_iload_n dX11_lays_36 (pc' := 37) rfl rfl rfl ?_
      obtain ⟨hi4, hT⟩ := ckA_some hT
      refine kj_zald rfl (Nat.lt_of_lt_of_le (Nat.le_of_ble_eq_true rfl : 125 < 140) hE.1) hi4 rfl dX11_lays_37 (pc' := 38) rfl ?_
      refine kj_if_eq dX11_lays_38 (tgt := 82) rfl (pc' := 41) rfl (fun c5 => ?_) (fun c5 => ?_)
      · rw [if_pos c5] at hT
        exact hJ82_17_25 x2 σ hT
      · rw [if_neg c5] at hT
        refine kj_iload_n dX11_lays_41 (pc' := 42) rfl rfl rfl ?_
        obtain ⟨t6, ht6, hT⟩ := bind_some' hT
        refine kcSi (as := [.inl x2]) (st := []) l_RX11_157 (m_X11_ones (Nat.zero_le _) σ x2 ht6) rfl ⟨⟨rfl, rfl⟩, Nat.le_of_ble_eq_true rfl, Nat.le_of_ble_eq_true rfl⟩ (Nat.le_of_ble_eq_true rfl) dX11_lays_42 (pc' := 45) rfl ?_
        refine kj_iload_n dX11_lays_45 (pc' := 46) rfl rfl rfl ?_
        refine kj_icmp_eq dX11_lays_46 (tgt := 52) rfl (pc' := 49) rfl (fun c7 => ?_) (fun c7 => ?_)
        · rw [if_pos c7] at hT
          refine kj_aload_n dX11_lays_52 (pc' := 53) rfl rfl rfl ?_
          refine kj_getR f_RX11_33 rfl (Nat.lt_of_lt_of_le (Nat.le_of_ble_eq_true rfl : 120 < 140) hE.1) (hE.2 _ _) (q := 127) rfl dX11_lays_53 (pc' := 56) rfl ?_
          refine kj_iload_n dX11_lays_56 (pc' := 57) rfl rfl rfl ?_
          refine kj_aload_n dX11_lays_57 (pc' := 58) rfl rfl rfl ?_
          refine kj_getI f_RX11_141 rfl (Nat.lt_of_lt_of_le (Nat.le_of_ble_eq_true rfl : 120 < 140) hE.1) dX11_lays_58 (pc' := 61) rfl ?_
          obtain ⟨hi8, hT⟩ := ckA_some hT
          refine kj_iast rfl (Nat.lt_of_lt_of_le (Nat.le_of_ble_eq_true rfl : 127 < 140) hE.1) hi8 rfl dX11_lays_61 (pc' := 62) rfl ?_
          refine kj_aload_n dX11_lays_62 (pc' := 63) rfl rfl rfl ?_
          refine kj_getR f_RX11_30 rfl (Nat.lt_of_lt_of_le (Nat.le_of_ble_eq_true rfl : 120 < 140) hE.1) (hE.2 _ _) (q := 126) rfl dX11_lays_63 (pc' := 66) rfl ?_
          refine kj_aload_n dX11_lays_66 (pc' := 67) rfl rfl rfl ?_
          refine kj_getI f_RX11_141 rfl (Nat.lt_of_lt_of_le (Nat.le_of_ble_eq_true rfl : 120 < 140) hE.1) dX11_lays_67 (pc' := 70) rfl ?_
          refine kj_iload_n dX11_lays_70 (pc' := 71) rfl rfl rfl ?_
          obtain ⟨hi9, hT⟩ := ckA_some hT
          refine kj_iast rfl (Nat.lt_of_lt_of_le (Nat.le_of_ble_eq_true rfl : 126 < 140) hE.1) hi9 rfl dX11_lays_71 (pc' := 72) rfl ?_
          refine kj_aload_n dX11_lays_72 (pc' := 73) rfl rfl rfl ?_
          refine kj_dup dX11_lays_73 (pc' := 74) rfl ?_
          refine kj_getI f_RX11_141 rfl (Nat.lt_of_lt_of_le (Nat.le_of_ble_eq_true rfl : 120 < 140) hE.1) dX11_lays_74 (pc' := 77) rfl ?_
          refine kj_iconst dX11_lays_77 (pc' := 78) rfl kc_1 ?_
          refine kj_iadd dX11_lays_78 (pc' := 79) rfl ?_
          refine kj_putI p_RX11_141 rfl rfl rfl (Nat.lt_of_lt_of_le (Nat.le_of_ble_eq_true rfl : 120 < 140) hE.1) dX11_lays_79 (pc' := 82) rfl ?_
          exact hJ82_17_25 x2 (up (up (up σ 127 x2.toNatClampNeg (σ 120 10)) 126 (((up σ 127 x2.toNatClampNeg (σ 120 10)) 120 10).toNatClampNeg) x2) 120 10 (((up (up σ 127 x2.toNatClampNeg (σ 120 10)) 126 (((up σ 127 x2.toNatClampNeg (σ 120 10)) 120 10).toNatClampNeg) x2) 120 10) + 1)) hT
        · rw [if_neg c7] at hT
          refine kj_goto dX11_lays_49 (pc' := 82) rfl ?_
          exact hJ82_17_25 x2 σ hT
def X11_lean_T69 (x1 : Int32) (σ : Wd) : Option (Int32 × Wd) :=
  (if x1 = 0 then some ((-1), σ) else ((X11_becomes σ).bind fun σ3 => some (x1, σ3)))
def X11_lean_J63 (rec13 : Int32 × Int32 × Wd → Option (Int32 × Wd)) (y1 : Int32) (y2 : Int32) (ς : Wd) : Option (Int32 × Wd) :=
  rec13 (y1, y2 + 1, ς)
def X11_lean_B13 (kx13 : Int32 → Wd → Option (Int32 × Wd)) (rec13 : Int32 × Int32 × Wd → Option (Int32 × Wd)) : Int32 × Int32 × Wd → Option (Int32 × Wd)
  | (x1, x2, σ) => (if (X11_many σ) ≤ x2 then kx13 x1 σ else ((X11_gen σ x2).bind fun t5 => ((X11_isBased σ t5).bind fun t6 => (if t6 = 0 then X11_lean_J63 rec13 (x1 + 1) x2 σ else ((X11_gen σ x2).bind fun t9 => (ckA (σ 120 6) 20 <| X11_lean_J63 rec13 x1 x2 (up (up σ 124 ((σ 120 6).toNatClampNeg) t9) 120 6 (((up σ 124 ((σ 120 6).toNatClampNeg) t9) 120 6) + 1))))))))
def X11_lean (σ : Wd) : Option (Int32 × Wd) :=
  ((X11_lays σ).bind fun σ1 => (lp (X11_lean_B13 X11_lean_T69) FU (0, 0, up σ1 120 6 0)))
set_option maxRecDepth 100000 in
set_option maxHeartbeats 4000000 in
theorem m_X11_lean {E : JE} (hE : kOk 140 E) (σ : Wd) {res : Int32 × Wd} (hT : X11_lean σ = some res) : kMt E yX11_lean mX11_lean rmX11_lean [.inr 120] σ (kQi res.1 res.2) := by
  refine kMt_of (by decide +kernel) rfl (Nat.le_of_ble_eq_true rfl) ?_
  generalize hQ : (kQi res.1 res.2) = Q
  show KJ E mX11_lean rmX11_lean 0 [some (.inr 120)] [] σ Q
  unfold X11_lean at hT
  refine kj_aload_n dX11_lean_0 (pc' := 1) rfl rfl rfl ?_
  obtain ⟨σ1, hσ1, hT⟩ := bind_some' hT
  refine kcVv (as := []) (st := []) l_RX11_135 (m_X11_lays hE σ hσ1) rfl (Nat.lt_of_lt_of_le (Nat.le_of_ble_eq_true rfl : 120 < 140) hE.1) rfl ⟨⟨rfl, rfl⟩, Nat.le_of_ble_eq_true rfl, Nat.le_of_ble_eq_true rfl⟩ (Nat.le_of_ble_eq_true rfl) dX11_lean_1 (pc' := 4) rfl ?_
  refine kj_iconst dX11_lean_4 (pc' := 5) rfl kc_0 ?_
  refine kj_istore_n dX11_lean_5 (pc' := 6) rfl rfl (Nat.le_of_ble_eq_true rfl) (ls' := [some (.inr 120), some (.inl 0)]) rfl ?_
  refine kj_aload_n dX11_lean_6 (pc' := 7) rfl rfl rfl ?_
  refine kj_iconst dX11_lean_7 (pc' := 8) rfl kc_0 ?_
  refine kj_putI p_RX11_119 rfl rfl rfl (Nat.lt_of_lt_of_le (Nat.le_of_ble_eq_true rfl : 120 < 140) hE.1) dX11_lean_8 (pc' := 11) rfl ?_
  refine kj_iconst dX11_lean_11 (pc' := 12) rfl kc_0 ?_
  refine kj_istore_n dX11_lean_12 (pc' := 13) rfl rfl (Nat.le_of_ble_eq_true rfl) (ls' := [some (.inr 120), some (.inl 0), some (.inl 0)]) rfl ?_
  have hX13 : ∀ x1 σ, X11_lean_T69 x1 σ = some res → KJ E mX11_lean rmX11_lean 69 [some (.inr 120), some (.inl x1)] [] σ Q := by
    intro x1 σ hT
    unfold X11_lean_T69 at hT
    refine kj_iload_n dX11_lean_69 (pc' := 70) rfl rfl rfl ?_
    refine kj_if_ne dX11_lean_70 (tgt := 75) rfl (pc' := 73) rfl (fun c2 => ?_) (fun c2 => ?_)
    · rw [if_neg c2] at hT
      refine kj_aload_n dX11_lean_75 (pc' := 76) rfl rfl rfl ?_
      obtain ⟨σ3, hσ3, hT⟩ := bind_some' hT
      refine kcVv (as := []) (st := []) l_RX11_125 (m_X11_becomes hE σ hσ3) rfl (Nat.lt_of_lt_of_le (Nat.le_of_ble_eq_true rfl : 120 < 140) hE.1) rfl ⟨⟨rfl, rfl⟩, Nat.le_of_ble_eq_true rfl, Nat.le_of_ble_eq_true rfl⟩ (Nat.le_of_ble_eq_true rfl) dX11_lean_76 (pc' := 79) rfl ?_
      refine kj_iload_n dX11_lean_79 (pc' := 80) rfl rfl rfl ?_
      have hR := Option.some.inj hT
      subst hR
      exact kj_iret rfl dX11_lean_80 (by subst hQ; exact ⟨rfl, rfl⟩)
    · rw [if_pos c2] at hT
      refine kj_iconst dX11_lean_73 (pc' := 74) rfl kc_m1 ?_
      have hR := Option.some.inj hT
      subst hR
      exact kj_iret rfl dX11_lean_74 (by subst hQ; exact ⟨rfl, rfl⟩)
  refine lp_ind (P := fun s => KJ E mX11_lean rmX11_lean 13 [some (.inr 120), some (.inl s.1), some (.inl s.2.1)] [] s.2.2 Q) (fun rec13 s ih13 hT => ?_) FU (0, 0, up σ1 120 6 0) hT
  obtain ⟨x1, x2, σ⟩ := s
  show KJ E mX11_lean rmX11_lean 13 [some (.inr 120), some (.inl x1), some (.inl x2)] [] σ Q
  rw [X11_lean_B13] at hT
  have hJ63_13 : ∀ y1 y2 ς, X11_lean_J63 rec13 y1 y2 ς = some res → KJ E mX11_lean rmX11_lean 63 [some (.inr 120), some (.inl y1), some (.inl y2)] [] ς Q := by
    intro y1 y2 ς hT
    unfold X11_lean_J63 at hT
    refine kj_iinc dX11_lean_63 (pc' := 66) rfl rfl (congrArg (_ + ·) kc_1) (Nat.le_of_ble_eq_true rfl) (ls' := [some (.inr 120), some (.inl y1), some (.inl (y2 + 1))]) rfl ?_
    refine kj_goto dX11_lean_66 (pc' := 13) rfl ?_
    exact ih13 (y1, y2 + 1, ς) hT
  refine kj_iload_n dX11_lean_13 (pc' := 14) rfl rfl rfl ?_
  refine kj_aload_n dX11_lean_14 (pc' := 15) rfl rfl rfl ?_
  refine kcVi (as := []) (st := [.inl x2]) l_RX11_80 (m_X11_many hE σ rfl) rfl (Nat.lt_of_lt_of_le (Nat.le_of_ble_eq_true rfl : 120 < 140) hE.1) rfl ⟨⟨rfl, rfl⟩, Nat.le_of_ble_eq_true rfl, Nat.le_of_ble_eq_true rfl⟩ (Nat.le_of_ble_eq_true rfl) dX11_lean_15 (pc' := 18) rfl ?_
  refine kj_icmp_ge dX11_lean_18 (tgt := 69) rfl (pc' := 21) rfl (fun c4 => ?_) (fun c4 => ?_)
  · rw [if_pos c4] at hT
    refine kj_keep [true, true] (ls' := [some (.inr 120), some (.inl x1)]) rfl ?_
    exact hX13 x1 σ hT
  · rw [if_neg c4] at hT
    refine kj_aload_n dX11_lean_21 (pc' := 22) rfl rfl rfl ?_
    refine kj_aload_n dX11_lean_22 (pc' := 23) rfl rfl rfl ?_
    refine kj_iload_n dX11_lean_23 (pc' := 24) rfl rfl rfl ?_
    obtain ⟨t5, ht5, hT⟩ := bind_some' hT
    refine kcVi (as := [.inl x2]) (st := [.inr 120]) l_RX11_112 (m_X11_gen hE σ x2 ht5) rfl (Nat.lt_of_lt_of_le (Nat.le_of_ble_eq_true rfl : 120 < 140) hE.1) rfl ⟨⟨rfl, rfl⟩, Nat.le_of_ble_eq_true rfl, Nat.le_of_ble_eq_true rfl⟩ (Nat.le_of_ble_eq_true rfl) dX11_lean_24 (pc' := 27) rfl ?_
    obtain ⟨t6, ht6, hT⟩ := bind_some' hT
    refine kcVz (as := [.inl t5]) (st := []) l_RX11_138 (m_X11_isBased hE σ t5 ht6) rfl (Nat.lt_of_lt_of_le (Nat.le_of_ble_eq_true rfl : 120 < 140) hE.1) rfl ⟨⟨rfl, rfl⟩, Nat.le_of_ble_eq_true rfl, Nat.le_of_ble_eq_true rfl⟩ (Nat.le_of_ble_eq_true rfl) dX11_lean_27 (pc' := 30) rfl (fun z7 => ?_)
    refine kj_if_ne dX11_lean_30 (tgt := 39) rfl (pc' := 33) rfl (fun c8 => ?_) (fun c8 => ?_)
    · rw [if_neg c8] at hT
      refine kj_aload_n dX11_lean_39 (pc' := 40) rfl rfl rfl ?_
      refine kj_getR f_RX11_23 rfl (Nat.lt_of_lt_of_le (Nat.le_of_ble_eq_true rfl : 120 < 140) hE.1) (hE.2 _ _) (q := 124) rfl dX11_lean_40 (pc' := 43) rfl ?_
      refine kj_aload_n dX11_lean_43 (pc' := 44) rfl rfl rfl ?_
      refine kj_getI f_RX11_119 rfl (Nat.lt_of_lt_of_le (Nat.le_of_ble_eq_true rfl : 120 < 140) hE.1) dX11_lean_44 (pc' := 47) rfl ?_
      refine kj_aload_n dX11_lean_47 (pc' := 48) rfl rfl rfl ?_
      refine kj_iload_n dX11_lean_48 (pc' := 49) rfl rfl rfl ?_
      obtain ⟨t9, ht9, hT⟩ := bind_some' hT
      refine kcVi (as := [.inl x2]) (st := [.inl (σ 120 6), .inr 124]) l_RX11_112 (m_X11_gen hE σ x2 ht9) rfl (Nat.lt_of_lt_of_le (Nat.le_of_ble_eq_true rfl : 120 < 140) hE.1) rfl ⟨⟨rfl, rfl⟩, Nat.le_of_ble_eq_true rfl, Nat.le_of_ble_eq_true rfl⟩ (Nat.le_of_ble_eq_true rfl) dX11_lean_49 (pc' := 52) rfl ?_
      obtain ⟨hi10, hT⟩ := ckA_some hT
      refine kj_iast rfl (Nat.lt_of_lt_of_le (Nat.le_of_ble_eq_true rfl : 124 < 140) hE.1) hi10 rfl dX11_lean_52 (pc' := 53) rfl ?_
      refine kj_aload_n dX11_lean_53 (pc' := 54) rfl rfl rfl ?_
      refine kj_dup dX11_lean_54 (pc' := 55) rfl ?_
      refine kj_getI f_RX11_119 rfl (Nat.lt_of_lt_of_le (Nat.le_of_ble_eq_true rfl : 120 < 140) hE.1) dX11_lean_55 (pc' := 58) rfl ?_
      refine kj_iconst dX11_lean_58 (pc' := 59) rfl kc_1 ?_
      refine kj_iadd dX11_lean_59 (pc' := 60) rfl ?_
      refine kj_putI p_RX11_119 rfl rfl rfl (Nat.lt_of_lt_of_le (Nat.le_of_ble_eq_true rfl : 120 < 140) hE.1) dX11_lean_60 (pc' := 63) rfl ?_
      exact hJ63_13 x1 x2 (up (up σ 124 ((σ 120 6).toNatClampNeg) t9) 120 6 (((up σ 124 ((σ 120 6).toNatClampNeg) t9) 120 6) + 1)) hT
    · rw [if_pos c8] at hT
      refine kj_iinc dX11_lean_33 (pc' := 36) rfl rfl (congrArg (_ + ·) kc_1) (Nat.le_of_ble_eq_true rfl) (ls' := [some (.inr 120), some (.inl (x1 + 1)), some (.inl x2)]) rfl ?_
      refine kj_goto dX11_lean_36 (pc' := 63) rfl ?_
      exact hJ63_13 (x1 + 1) x2 σ hT
def X11_replaces (σ : Wd) : Option (Int32 × Wd) :=
  (if 12 < (σ 120 6) then some ((-1), σ) else (if (σ 120 6) = (X11_many σ) then ((X11_unlike σ).bind fun t4 => (if t4 = 0 then some ((-1), σ) else ((X11_becomes σ).bind fun σ6 => some (X11_many σ6, σ6)))) else ((X11_becomes σ).bind fun σ3 => some (X11_many σ3, σ3))))
set_option maxRecDepth 100000 in
set_option maxHeartbeats 4000000 in
theorem m_X11_replaces {E : JE} (hE : kOk 140 E) (σ : Wd) {res : Int32 × Wd} (hT : X11_replaces σ = some res) : kMt E yX11_replaces mX11_replaces rmX11_replaces [.inr 120] σ (kQi res.1 res.2) := by
  refine kMt_of (by decide +kernel) rfl (Nat.le_of_ble_eq_true rfl) ?_
  generalize hQ : (kQi res.1 res.2) = Q
  show KJ E mX11_replaces rmX11_replaces 0 [some (.inr 120)] [] σ Q
  unfold X11_replaces at hT
  refine kj_aload_n dX11_replaces_0 (pc' := 1) rfl rfl rfl ?_
  refine kj_getI f_RX11_119 rfl (Nat.lt_of_lt_of_le (Nat.le_of_ble_eq_true rfl : 120 < 140) hE.1) dX11_replaces_1 (pc' := 4) rfl ?_
  refine kj_bipush dX11_replaces_4 (pc' := 6) rfl kb_12 ?_
  refine kj_icmp_gt dX11_replaces_6 (tgt := 27) rfl (pc' := 9) rfl (fun c1 => ?_) (fun c1 => ?_)
  · rw [if_pos c1] at hT
    refine kj_iconst dX11_replaces_27 (pc' := 28) rfl kc_m1 ?_
    have hR := Option.some.inj hT
    subst hR
    exact kj_iret rfl dX11_replaces_28 (by subst hQ; exact ⟨rfl, rfl⟩)
  · rw [if_neg c1] at hT
    refine kj_aload_n dX11_replaces_9 (pc' := 10) rfl rfl rfl ?_
    refine kj_getI f_RX11_119 rfl (Nat.lt_of_lt_of_le (Nat.le_of_ble_eq_true rfl : 120 < 140) hE.1) dX11_replaces_10 (pc' := 13) rfl ?_
    refine kj_aload_n dX11_replaces_13 (pc' := 14) rfl rfl rfl ?_
    refine kcVi (as := []) (st := [.inl (σ 120 6)]) l_RX11_80 (m_X11_many hE σ rfl) rfl (Nat.lt_of_lt_of_le (Nat.le_of_ble_eq_true rfl : 120 < 140) hE.1) rfl ⟨⟨rfl, rfl⟩, Nat.le_of_ble_eq_true rfl, Nat.le_of_ble_eq_true rfl⟩ (Nat.le_of_ble_eq_true rfl) dX11_replaces_14 (pc' := 17) rfl ?_
    refine kj_icmp_ne dX11_replaces_17 (tgt := 29) rfl (pc' := 20) rfl (fun c2 => ?_) (fun c2 => ?_)
    · rw [if_neg c2] at hT
      refine kj_aload_n dX11_replaces_29 (pc' := 30) rfl rfl rfl ?_
      obtain ⟨σ3, hσ3, hT⟩ := bind_some' hT
      refine kcVv (as := []) (st := []) l_RX11_125 (m_X11_becomes hE σ hσ3) rfl (Nat.lt_of_lt_of_le (Nat.le_of_ble_eq_true rfl : 120 < 140) hE.1) rfl ⟨⟨rfl, rfl⟩, Nat.le_of_ble_eq_true rfl, Nat.le_of_ble_eq_true rfl⟩ (Nat.le_of_ble_eq_true rfl) dX11_replaces_30 (pc' := 33) rfl ?_
      refine kj_aload_n dX11_replaces_33 (pc' := 34) rfl rfl rfl ?_
      refine kcVi (as := []) (st := []) l_RX11_80 (m_X11_many hE σ3 rfl) rfl (Nat.lt_of_lt_of_le (Nat.le_of_ble_eq_true rfl : 120 < 140) hE.1) rfl ⟨⟨rfl, rfl⟩, Nat.le_of_ble_eq_true rfl, Nat.le_of_ble_eq_true rfl⟩ (Nat.le_of_ble_eq_true rfl) dX11_replaces_34 (pc' := 37) rfl ?_
      have hR := Option.some.inj hT
      subst hR
      exact kj_iret rfl dX11_replaces_37 (by subst hQ; exact ⟨rfl, rfl⟩)
    · rw [if_pos c2] at hT
      refine kj_aload_n dX11_replaces_20 (pc' := 21) rfl rfl rfl ?_
      obtain ⟨t4, ht4, hT⟩ := bind_some' hT
      refine kcVi (as := []) (st := []) l_RX11_122 (m_X11_unlike hE σ ht4) rfl (Nat.lt_of_lt_of_le (Nat.le_of_ble_eq_true rfl : 120 < 140) hE.1) rfl ⟨⟨rfl, rfl⟩, Nat.le_of_ble_eq_true rfl, Nat.le_of_ble_eq_true rfl⟩ (Nat.le_of_ble_eq_true rfl) dX11_replaces_21 (pc' := 24) rfl ?_
      refine kj_if_ne dX11_replaces_24 (tgt := 29) rfl (pc' := 27) rfl (fun c5 => ?_) (fun c5 => ?_)
      · rw [if_neg c5] at hT
        refine kj_aload_n dX11_replaces_29 (pc' := 30) rfl rfl rfl ?_
        obtain ⟨σ6, hσ6, hT⟩ := bind_some' hT
        refine kcVv (as := []) (st := []) l_RX11_125 (m_X11_becomes hE σ hσ6) rfl (Nat.lt_of_lt_of_le (Nat.le_of_ble_eq_true rfl : 120 < 140) hE.1) rfl ⟨⟨rfl, rfl⟩, Nat.le_of_ble_eq_true rfl, Nat.le_of_ble_eq_true rfl⟩ (Nat.le_of_ble_eq_true rfl) dX11_replaces_30 (pc' := 33) rfl ?_
        refine kj_aload_n dX11_replaces_33 (pc' := 34) rfl rfl rfl ?_
        refine kcVi (as := []) (st := []) l_RX11_80 (m_X11_many hE σ6 rfl) rfl (Nat.lt_of_lt_of_le (Nat.le_of_ble_eq_true rfl : 120 < 140) hE.1) rfl ⟨⟨rfl, rfl⟩, Nat.le_of_ble_eq_true rfl, Nat.le_of_ble_eq_true rfl⟩ (Nat.le_of_ble_eq_true rfl) dX11_replaces_34 (pc' := 37) rfl ?_
        have hR := Option.some.inj hT
        subst hR
        exact kj_iret rfl dX11_replaces_37 (by subst hQ; exact ⟨rfl, rfl⟩)
      · rw [if_pos c5] at hT
        refine kj_iconst dX11_replaces_27 (pc' := 28) rfl kc_m1 ?_
        have hR := Option.some.inj hT
        subst hR
        exact kj_iret rfl dX11_replaces_28 (by subst hQ; exact ⟨rfl, rfl⟩)
def X11_basis_J60 (rec11 : Int32 × Wd → Option (Int32 × Wd)) (y1 : Int32) (ς : Wd) : Option (Int32 × Wd) :=
  rec11 (y1 + 1, ς)
def X11_basis_B11 (rec11 : Int32 × Wd → Option (Int32 × Wd)) : Int32 × Wd → Option (Int32 × Wd)
  | (x1, σ) => (if (σ 120 10) ≤ x1 then ((X11_replaces σ).bind fun (t3, σ4) => some (t3, σ4)) else (ckA x1 128 <| ((X11_isBased σ (σ 126 x1.toNatClampNeg)).bind fun t6 => (if t6 = 0 then X11_basis_J60 rec11 x1 σ else (ckA x1 128 <| (ckA (σ 120 6) 20 <| X11_basis_J60 rec11 x1 (up (up σ 124 ((σ 120 6).toNatClampNeg) (σ 126 x1.toNatClampNeg)) 120 6 (((up σ 124 ((σ 120 6).toNatClampNeg) (σ 126 x1.toNatClampNeg)) 120 6) + 1))))))))
def X11_basis (σ : Wd) : Option (Int32 × Wd) :=
  ((X11_lays σ).bind fun σ1 => (lp (X11_basis_B11) FU (0, up σ1 120 6 0)))
set_option maxRecDepth 100000 in
set_option maxHeartbeats 4000000 in
theorem m_X11_basis {E : JE} (hE : kOk 140 E) (σ : Wd) {res : Int32 × Wd} (hT : X11_basis σ = some res) : kMt E yX11_basis mX11_basis rmX11_basis [.inr 120] σ (kQi res.1 res.2) := by
  refine kMt_of (by decide +kernel) rfl (Nat.le_of_ble_eq_true rfl) ?_
  generalize hQ : (kQi res.1 res.2) = Q
  show KJ E mX11_basis rmX11_basis 0 [some (.inr 120)] [] σ Q
  unfold X11_basis at hT
  refine kj_aload_n dX11_basis_0 (pc' := 1) rfl rfl rfl ?_
  obtain ⟨σ1, hσ1, hT⟩ := bind_some' hT
  refine kcVv (as := []) (st := []) l_RX11_135 (m_X11_lays hE σ hσ1) rfl (Nat.lt_of_lt_of_le (Nat.le_of_ble_eq_true rfl : 120 < 140) hE.1) rfl ⟨⟨rfl, rfl⟩, Nat.le_of_ble_eq_true rfl, Nat.le_of_ble_eq_true rfl⟩ (Nat.le_of_ble_eq_true rfl) dX11_basis_1 (pc' := 4) rfl ?_
  refine kj_aload_n dX11_basis_4 (pc' := 5) rfl rfl rfl ?_
  refine kj_iconst dX11_basis_5 (pc' := 6) rfl kc_0 ?_
  refine kj_putI p_RX11_119 rfl rfl rfl (Nat.lt_of_lt_of_le (Nat.le_of_ble_eq_true rfl : 120 < 140) hE.1) dX11_basis_6 (pc' := 9) rfl ?_
  refine kj_iconst dX11_basis_9 (pc' := 10) rfl kc_0 ?_
  refine kj_istore_n dX11_basis_10 (pc' := 11) rfl rfl (Nat.le_of_ble_eq_true rfl) (ls' := [some (.inr 120), some (.inl 0)]) rfl ?_
  refine lp_ind (P := fun s => KJ E mX11_basis rmX11_basis 11 [some (.inr 120), some (.inl s.1)] [] s.2 Q) (fun rec11 s ih11 hT => ?_) FU (0, up σ1 120 6 0) hT
  obtain ⟨x1, σ⟩ := s
  show KJ E mX11_basis rmX11_basis 11 [some (.inr 120), some (.inl x1)] [] σ Q
  rw [X11_basis_B11] at hT
  have hJ60_11 : ∀ y1 ς, X11_basis_J60 rec11 y1 ς = some res → KJ E mX11_basis rmX11_basis 60 [some (.inr 120), some (.inl y1)] [] ς Q := by
    intro y1 ς hT
    unfold X11_basis_J60 at hT
    refine kj_iinc dX11_basis_60 (pc' := 63) rfl rfl (congrArg (_ + ·) kc_1) (Nat.le_of_ble_eq_true rfl) (ls' := [some (.inr 120), some (.inl (y1 + 1))]) rfl ?_
    refine kj_goto dX11_basis_63 (pc' := 11) rfl ?_
    exact ih11 (y1 + 1, ς) hT
  refine kj_iload_n dX11_basis_11 (pc' := 12) rfl rfl rfl ?_
  refine kj_aload_n dX11_basis_12 (pc' := 13) rfl rfl rfl ?_
  refine kj_getI f_RX11_141 rfl (Nat.lt_of_lt_of_le (Nat.le_of_ble_eq_true rfl : 120 < 140) hE.1) dX11_basis_13 (pc' := 16) rfl ?_
  refine kj_icmp_ge dX11_basis_16 (tgt := 66) rfl (pc' := 19) rfl (fun c2 => ?_) (fun c2 => ?_)
  · rw [if_pos c2] at hT
    refine kj_aload_n dX11_basis_66 (pc' := 67) rfl rfl rfl ?_
    obtain ⟨t3, ht3, hT⟩ := bind_some' hT
    obtain ⟨t3, σ4⟩ := t3
    dsimp only at hT
    refine kcVi (as := []) (st := []) l_RX11_144 (m_X11_replaces hE σ ht3) rfl (Nat.lt_of_lt_of_le (Nat.le_of_ble_eq_true rfl : 120 < 140) hE.1) rfl ⟨⟨rfl, rfl⟩, Nat.le_of_ble_eq_true rfl, Nat.le_of_ble_eq_true rfl⟩ (Nat.le_of_ble_eq_true rfl) dX11_basis_67 (pc' := 70) rfl ?_
    have hR := Option.some.inj hT
    subst hR
    exact kj_iret rfl dX11_basis_70 (by subst hQ; exact ⟨rfl, rfl⟩)
  · rw [if_neg c2] at hT
    refine kj_aload_n dX11_basis_19 (pc' := 20) rfl rfl rfl ?_
    refine kj_aload_n dX11_basis_20 (pc' := 21) rfl rfl rfl ?_
    refine kj_getR f_RX11_30 rfl (Nat.lt_of_lt_of_le (Nat.le_of_ble_eq_true rfl : 120 < 140) hE.1) (hE.2 _ _) (q := 126) rfl dX11_basis_21 (pc' := 24) rfl ?_
    refine kj_iload_n dX11_basis_24 (pc' := 25) rfl rfl rfl ?_
    obtain ⟨hi5, hT⟩ := ckA_some hT
    refine kj_iald rfl (Nat.lt_of_lt_of_le (Nat.le_of_ble_eq_true rfl : 126 < 140) hE.1) hi5 rfl dX11_basis_25 (pc' := 26) rfl ?_
    obtain ⟨t6, ht6, hT⟩ := bind_some' hT
    refine kcVz (as := [.inl (σ 126 x1.toNatClampNeg)]) (st := []) l_RX11_138 (m_X11_isBased hE σ (σ 126 x1.toNatClampNeg) ht6) rfl (Nat.lt_of_lt_of_le (Nat.le_of_ble_eq_true rfl : 120 < 140) hE.1) rfl ⟨⟨rfl, rfl⟩, Nat.le_of_ble_eq_true rfl, Nat.le_of_ble_eq_true rfl⟩ (Nat.le_of_ble_eq_true rfl) dX11_basis_26 (pc' := 29) rfl (fun z7 => ?_)
    refine kj_if_ne dX11_basis_29 (tgt := 35) rfl (pc' := 32) rfl (fun c8 => ?_) (fun c8 => ?_)
    · rw [if_neg c8] at hT
      refine kj_aload_n dX11_basis_35 (pc' := 36) rfl rfl rfl ?_
      refine kj_getR f_RX11_23 rfl (Nat.lt_of_lt_of_le (Nat.le_of_ble_eq_true rfl : 120 < 140) hE.1) (hE.2 _ _) (q := 124) rfl dX11_basis_36 (pc' := 39) rfl ?_
      refine kj_aload_n dX11_basis_39 (pc' := 40) rfl rfl rfl ?_
      refine kj_getI f_RX11_119 rfl (Nat.lt_of_lt_of_le (Nat.le_of_ble_eq_true rfl : 120 < 140) hE.1) dX11_basis_40 (pc' := 43) rfl ?_
      refine kj_aload_n dX11_basis_43 (pc' := 44) rfl rfl rfl ?_
      refine kj_getR f_RX11_30 rfl (Nat.lt_of_lt_of_le (Nat.le_of_ble_eq_true rfl : 120 < 140) hE.1) (hE.2 _ _) (q := 126) rfl dX11_basis_44 (pc' := 47) rfl ?_
      refine kj_iload_n dX11_basis_47 (pc' := 48) rfl rfl rfl ?_
      obtain ⟨hi9, hT⟩ := ckA_some hT
      refine kj_iald rfl (Nat.lt_of_lt_of_le (Nat.le_of_ble_eq_true rfl : 126 < 140) hE.1) hi9 rfl dX11_basis_48 (pc' := 49) rfl ?_
      obtain ⟨hi10, hT⟩ := ckA_some hT
      refine kj_iast rfl (Nat.lt_of_lt_of_le (Nat.le_of_ble_eq_true rfl : 124 < 140) hE.1) hi10 rfl dX11_basis_49 (pc' := 50) rfl ?_
      refine kj_aload_n dX11_basis_50 (pc' := 51) rfl rfl rfl ?_
      refine kj_dup dX11_basis_51 (pc' := 52) rfl ?_
      refine kj_getI f_RX11_119 rfl (Nat.lt_of_lt_of_le (Nat.le_of_ble_eq_true rfl : 120 < 140) hE.1) dX11_basis_52 (pc' := 55) rfl ?_
      refine kj_iconst dX11_basis_55 (pc' := 56) rfl kc_1 ?_
      refine kj_iadd dX11_basis_56 (pc' := 57) rfl ?_
      refine kj_putI p_RX11_119 rfl rfl rfl (Nat.lt_of_lt_of_le (Nat.le_of_ble_eq_true rfl : 120 < 140) hE.1) dX11_basis_57 (pc' := 60) rfl ?_
      exact hJ60_11 x1 (up (up σ 124 ((σ 120 6).toNatClampNeg) (σ 126 x1.toNatClampNeg)) 120 6 (((up σ 124 ((σ 120 6).toNatClampNeg) (σ 126 x1.toNatClampNeg)) 120 6) + 1)) hT
    · rw [if_pos c8] at hT
      refine kj_goto dX11_basis_32 (pc' := 60) rfl ?_
      exact hJ60_11 x1 σ hT
def X11_listMany (σ : Wd) : Int32 :=
  (σ 121 2)
set_option maxRecDepth 100000 in
set_option maxHeartbeats 4000000 in
theorem m_X11_listMany {E : JE} (hE : kOk 140 E) (σ : Wd) {res : Int32} (hT : X11_listMany σ = res) : kMt E yX11_listMany mX11_listMany rmX11_listMany [.inr 120] σ (kQi res σ) := by
  refine kMt_of (by decide +kernel) rfl (Nat.le_of_ble_eq_true rfl) ?_
  generalize hQ : (kQi res σ) = Q
  show KJ E mX11_listMany rmX11_listMany 0 [some (.inr 120)] [] σ Q
  unfold X11_listMany at hT
  refine kj_aload_n dX11_listMany_0 (pc' := 1) rfl rfl rfl ?_
  refine kj_getR f_RX11_13 rfl (Nat.lt_of_lt_of_le (Nat.le_of_ble_eq_true rfl : 120 < 140) hE.1) (hE.2 _ _) (q := 121) rfl dX11_listMany_1 (pc' := 4) rfl ?_
  refine kj_iconst dX11_listMany_4 (pc' := 5) rfl kc_2 ?_
  refine kj_iald rfl (Nat.lt_of_lt_of_le (Nat.le_of_ble_eq_true rfl : 121 < 140) hE.1) (vp_lit (by decide +kernel)) (j := 2) (by decide +kernel) dX11_listMany_5 (pc' := 6) rfl ?_
  subst hT
  exact kj_iret rfl dX11_listMany_6 (by subst hQ; exact ⟨rfl, rfl⟩)
def X11_isListed (σ : Wd) (x1 : Int32) : Option (Int32) :=
  ((X11_isThere σ 121 22 (X11_listMany σ) x1).bind fun t1 => some t1)
set_option maxRecDepth 100000 in
set_option maxHeartbeats 4000000 in
theorem m_X11_isListed {E : JE} (hE : kOk 140 E) (σ : Wd) (x1 : Int32) {res : Int32} (hT : X11_isListed σ x1 = some res) : kMt E yX11_isListed mX11_isListed rmX11_isListed [.inr 120, .inl x1] σ (kQz res σ) := by
  refine kMt_of (by decide +kernel) rfl (Nat.le_of_ble_eq_true rfl) ?_
  generalize hQ : (kQz res σ) = Q
  show KJ E mX11_isListed rmX11_isListed 0 [some (.inr 120), some (.inl x1)] [] σ Q
  unfold X11_isListed at hT
  refine kj_aload_n dX11_isListed_0 (pc' := 1) rfl rfl rfl ?_
  refine kj_getR f_RX11_13 rfl (Nat.lt_of_lt_of_le (Nat.le_of_ble_eq_true rfl : 120 < 140) hE.1) (hE.2 _ _) (q := 121) rfl dX11_isListed_1 (pc' := 4) rfl ?_
  refine kj_bipush dX11_isListed_4 (pc' := 6) rfl kb_22 ?_
  refine kj_aload_n dX11_isListed_6 (pc' := 7) rfl rfl rfl ?_
  refine kcVi (as := []) (st := [.inl 22, .inr 121]) l_RX11_147 (m_X11_listMany hE σ rfl) rfl (Nat.lt_of_lt_of_le (Nat.le_of_ble_eq_true rfl : 120 < 140) hE.1) rfl ⟨⟨rfl, rfl⟩, Nat.le_of_ble_eq_true rfl, Nat.le_of_ble_eq_true rfl⟩ (Nat.le_of_ble_eq_true rfl) dX11_isListed_7 (pc' := 10) rfl ?_
  refine kj_iload_n dX11_isListed_10 (pc' := 11) rfl rfl rfl ?_
  obtain ⟨t1, ht1, hT⟩ := bind_some' hT
  refine kcSz (as := [.inr 121, .inl 22, .inl (X11_listMany σ), .inl x1]) (st := []) l_RX11_91 (m_X11_isThere (Nat.zero_le _) rfl (Nat.lt_of_lt_of_le (Nat.le_of_ble_eq_true rfl : 121 < 140) hE.1) σ 22 (X11_listMany σ) x1 ht1) rfl ⟨⟨rfl, rfl⟩, Nat.le_of_ble_eq_true rfl, Nat.le_of_ble_eq_true rfl⟩ (Nat.le_of_ble_eq_true rfl) dX11_isListed_11 (pc' := 14) rfl (fun z2 => ?_)
  have hR := Option.some.inj hT
  subst hR
  exact kj_zret rfl z2 dX11_isListed_14 (by subst hQ; exact ⟨rfl, rfl, z2⟩)
def X11_list (σ : Wd) (x1 : Int32) : Option (Int32 × Wd) :=
  (if (X11_isSet σ x1) = 0 then some ((-1), σ) else (if x1 = 0 then some ((-1), σ) else ((X11_isListed σ x1).bind fun t4 => (if t4 = 0 then (if (X11_listMany σ) = 20 then some ((-1), σ) else ((X11_keeps σ).bind fun σ8 => (ckA (22 + (X11_listMany σ8)) 42 <| some (X11_listMany (up (up σ8 121 ((22 + (X11_listMany σ8)).toNatClampNeg) x1) 121 2 (((up σ8 121 ((22 + (X11_listMany σ8)).toNatClampNeg) x1) 121 2) + 1)), up (up σ8 121 ((22 + (X11_listMany σ8)).toNatClampNeg) x1) 121 2 (((up σ8 121 ((22 + (X11_listMany σ8)).toNatClampNeg) x1) 121 2) + 1))))) else some ((-1), σ)))))
set_option maxRecDepth 100000 in
set_option maxHeartbeats 4000000 in
theorem m_X11_list {E : JE} (hE : kOk 140 E) (σ : Wd) (x1 : Int32) {res : Int32 × Wd} (hT : X11_list σ x1 = some res) : kMt E yX11_list mX11_list rmX11_list [.inr 120, .inl x1] σ (kQi res.1 res.2) := by
  refine kMt_of (by decide +kernel) rfl (Nat.le_of_ble_eq_true rfl) ?_
  generalize hQ : (kQi res.1 res.2) = Q
  show KJ E mX11_list rmX11_list 0 [some (.inr 120), some (.inl x1)] [] σ Q
  unfold X11_list at hT
  refine kj_aload_n dX11_list_0 (pc' := 1) rfl rfl rfl ?_
  refine kj_iload_n dX11_list_1 (pc' := 2) rfl rfl rfl ?_
  refine kcVz (as := [.inl x1]) (st := []) l_RX11_95 (m_X11_isSet hE σ x1 rfl) rfl (Nat.lt_of_lt_of_le (Nat.le_of_ble_eq_true rfl : 120 < 140) hE.1) rfl ⟨⟨rfl, rfl⟩, Nat.le_of_ble_eq_true rfl, Nat.le_of_ble_eq_true rfl⟩ (Nat.le_of_ble_eq_true rfl) dX11_list_2 (pc' := 5) rfl (fun z1 => ?_)
  refine kj_if_eq dX11_list_5 (tgt := 29) rfl (pc' := 8) rfl (fun c2 => ?_) (fun c2 => ?_)
  · rw [if_pos c2] at hT
    refine kj_iconst dX11_list_29 (pc' := 30) rfl kc_m1 ?_
    have hR := Option.some.inj hT
    subst hR
    exact kj_iret rfl dX11_list_30 (by subst hQ; exact ⟨rfl, rfl⟩)
  · rw [if_neg c2] at hT
    refine kj_iload_n dX11_list_8 (pc' := 9) rfl rfl rfl ?_
    refine kj_if_eq dX11_list_9 (tgt := 29) rfl (pc' := 12) rfl (fun c3 => ?_) (fun c3 => ?_)
    · rw [if_pos c3] at hT
      refine kj_iconst dX11_list_29 (pc' := 30) rfl kc_m1 ?_
      have hR := Option.some.inj hT
      subst hR
      exact kj_iret rfl dX11_list_30 (by subst hQ; exact ⟨rfl, rfl⟩)
    · rw [if_neg c3] at hT
      refine kj_aload_n dX11_list_12 (pc' := 13) rfl rfl rfl ?_
      refine kj_iload_n dX11_list_13 (pc' := 14) rfl rfl rfl ?_
      obtain ⟨t4, ht4, hT⟩ := bind_some' hT
      refine kcVz (as := [.inl x1]) (st := []) l_RX11_150 (m_X11_isListed hE σ x1 ht4) rfl (Nat.lt_of_lt_of_le (Nat.le_of_ble_eq_true rfl : 120 < 140) hE.1) rfl ⟨⟨rfl, rfl⟩, Nat.le_of_ble_eq_true rfl, Nat.le_of_ble_eq_true rfl⟩ (Nat.le_of_ble_eq_true rfl) dX11_list_14 (pc' := 17) rfl (fun z5 => ?_)
      refine kj_if_ne dX11_list_17 (tgt := 29) rfl (pc' := 20) rfl (fun c6 => ?_) (fun c6 => ?_)
      · rw [if_neg c6] at hT
        refine kj_iconst dX11_list_29 (pc' := 30) rfl kc_m1 ?_
        have hR := Option.some.inj hT
        subst hR
        exact kj_iret rfl dX11_list_30 (by subst hQ; exact ⟨rfl, rfl⟩)
      · rw [if_pos c6] at hT
        refine kj_aload_n dX11_list_20 (pc' := 21) rfl rfl rfl ?_
        refine kcVi (as := []) (st := []) l_RX11_147 (m_X11_listMany hE σ rfl) rfl (Nat.lt_of_lt_of_le (Nat.le_of_ble_eq_true rfl : 120 < 140) hE.1) rfl ⟨⟨rfl, rfl⟩, Nat.le_of_ble_eq_true rfl, Nat.le_of_ble_eq_true rfl⟩ (Nat.le_of_ble_eq_true rfl) dX11_list_21 (pc' := 24) rfl ?_
        refine kj_bipush dX11_list_24 (pc' := 26) rfl kb_20 ?_
        refine kj_icmp_ne dX11_list_26 (tgt := 31) rfl (pc' := 29) rfl (fun c7 => ?_) (fun c7 => ?_)
        · rw [if_neg c7] at hT
          refine kj_aload_n dX11_list_31 (pc' := 32) rfl rfl rfl ?_
          obtain ⟨σ8, hσ8, hT⟩ := bind_some' hT
          refine kcVv (as := []) (st := []) l_RX11_102 (m_X11_keeps hE σ hσ8) rfl (Nat.lt_of_lt_of_le (Nat.le_of_ble_eq_true rfl : 120 < 140) hE.1) rfl ⟨⟨rfl, rfl⟩, Nat.le_of_ble_eq_true rfl, Nat.le_of_ble_eq_true rfl⟩ (Nat.le_of_ble_eq_true rfl) dX11_list_32 (pc' := 35) rfl ?_
          refine kj_aload_n dX11_list_35 (pc' := 36) rfl rfl rfl ?_
          refine kj_getR f_RX11_13 rfl (Nat.lt_of_lt_of_le (Nat.le_of_ble_eq_true rfl : 120 < 140) hE.1) (hE.2 _ _) (q := 121) rfl dX11_list_36 (pc' := 39) rfl ?_
          refine kj_bipush dX11_list_39 (pc' := 41) rfl kb_22 ?_
          refine kj_aload_n dX11_list_41 (pc' := 42) rfl rfl rfl ?_
          refine kcVi (as := []) (st := [.inl 22, .inr 121]) l_RX11_147 (m_X11_listMany hE σ8 rfl) rfl (Nat.lt_of_lt_of_le (Nat.le_of_ble_eq_true rfl : 120 < 140) hE.1) rfl ⟨⟨rfl, rfl⟩, Nat.le_of_ble_eq_true rfl, Nat.le_of_ble_eq_true rfl⟩ (Nat.le_of_ble_eq_true rfl) dX11_list_42 (pc' := 45) rfl ?_
          refine kj_iadd dX11_list_45 (pc' := 46) rfl ?_
          refine kj_iload_n dX11_list_46 (pc' := 47) rfl rfl rfl ?_
          obtain ⟨hi9, hT⟩ := ckA_some hT
          refine kj_iast rfl (Nat.lt_of_lt_of_le (Nat.le_of_ble_eq_true rfl : 121 < 140) hE.1) hi9 rfl dX11_list_47 (pc' := 48) rfl ?_
          refine kj_aload_n dX11_list_48 (pc' := 49) rfl rfl rfl ?_
          refine kj_getR f_RX11_13 rfl (Nat.lt_of_lt_of_le (Nat.le_of_ble_eq_true rfl : 120 < 140) hE.1) (hE.2 _ _) (q := 121) rfl dX11_list_49 (pc' := 52) rfl ?_
          refine kj_iconst dX11_list_52 (pc' := 53) rfl kc_2 ?_
          refine kj_dup2 dX11_list_53 (pc' := 54) rfl ?_
          refine kj_iald rfl (Nat.lt_of_lt_of_le (Nat.le_of_ble_eq_true rfl : 121 < 140) hE.1) (vp_lit (by decide +kernel)) (j := 2) (by decide +kernel) dX11_list_54 (pc' := 55) rfl ?_
          refine kj_iconst dX11_list_55 (pc' := 56) rfl kc_1 ?_
          refine kj_iadd dX11_list_56 (pc' := 57) rfl ?_
          refine kj_iast rfl (Nat.lt_of_lt_of_le (Nat.le_of_ble_eq_true rfl : 121 < 140) hE.1) (vp_lit (by decide +kernel)) (j := 2) (by decide +kernel) dX11_list_57 (pc' := 58) rfl ?_
          refine kj_aload_n dX11_list_58 (pc' := 59) rfl rfl rfl ?_
          refine kcVi (as := []) (st := []) l_RX11_147 (m_X11_listMany hE (up (up σ8 121 ((22 + (X11_listMany σ8)).toNatClampNeg) x1) 121 2 (((up σ8 121 ((22 + (X11_listMany σ8)).toNatClampNeg) x1) 121 2) + 1)) rfl) rfl (Nat.lt_of_lt_of_le (Nat.le_of_ble_eq_true rfl : 120 < 140) hE.1) rfl ⟨⟨rfl, rfl⟩, Nat.le_of_ble_eq_true rfl, Nat.le_of_ble_eq_true rfl⟩ (Nat.le_of_ble_eq_true rfl) dX11_list_59 (pc' := 62) rfl ?_
          have hR := Option.some.inj hT
          subst hR
          exact kj_iret rfl dX11_list_62 (by subst hQ; exact ⟨rfl, rfl⟩)
        · rw [if_pos c7] at hT
          refine kj_iconst dX11_list_29 (pc' := 30) rfl kc_m1 ?_
          have hR := Option.some.inj hT
          subst hR
          exact kj_iret rfl dX11_list_30 (by subst hQ; exact ⟨rfl, rfl⟩)
def X11_strike_T58 (σ : Wd) : Option (Int32 × Wd) :=
  some (X11_listMany (up σ 121 2 ((σ 121 2) - 1)), up σ 121 2 ((σ 121 2) - 1))
def X11_strike_B22 (kx22 : Wd → Option (Int32 × Wd)) (rec22 : Int32 × Wd → Option (Int32 × Wd)) : Int32 × Wd → Option (Int32 × Wd)
  | (x2, σ) => (if (X11_listMany σ) ≤ (x2 + 1) then kx22 σ else (ckA ((22 + x2) + 1) 42 <| (ckA (22 + x2) 42 <| rec22 (x2 + 1, up σ 121 ((22 + x2).toNatClampNeg) (σ 121 (((22 + x2) + 1).toNatClampNeg))))))
def X11_strike (σ : Wd) (x1 : Int32) : Option (Int32 × Wd) :=
  (if (X11_in x1 0 ((X11_listMany σ) - 1)) = 0 then some ((-1), σ) else ((X11_keeps σ).bind fun σ3 => (lp (X11_strike_B22 X11_strike_T58) FU (x1, σ3))))
set_option maxRecDepth 100000 in
set_option maxHeartbeats 4000000 in
theorem m_X11_strike {E : JE} (hE : kOk 140 E) (σ : Wd) (x1 : Int32) {res : Int32 × Wd} (hT : X11_strike σ x1 = some res) : kMt E yX11_strike mX11_strike rmX11_strike [.inr 120, .inl x1] σ (kQi res.1 res.2) := by
  refine kMt_of (by decide +kernel) rfl (Nat.le_of_ble_eq_true rfl) ?_
  generalize hQ : (kQi res.1 res.2) = Q
  show KJ E mX11_strike rmX11_strike 0 [some (.inr 120), some (.inl x1)] [] σ Q
  unfold X11_strike at hT
  refine kj_iload_n dX11_strike_0 (pc' := 1) rfl rfl rfl ?_
  refine kj_iconst dX11_strike_1 (pc' := 2) rfl kc_0 ?_
  refine kj_aload_n dX11_strike_2 (pc' := 3) rfl rfl rfl ?_
  refine kcVi (as := []) (st := [.inl 0, .inl x1]) l_RX11_147 (m_X11_listMany hE σ rfl) rfl (Nat.lt_of_lt_of_le (Nat.le_of_ble_eq_true rfl : 120 < 140) hE.1) rfl ⟨⟨rfl, rfl⟩, Nat.le_of_ble_eq_true rfl, Nat.le_of_ble_eq_true rfl⟩ (Nat.le_of_ble_eq_true rfl) dX11_strike_3 (pc' := 6) rfl ?_
  refine kj_iconst dX11_strike_6 (pc' := 7) rfl kc_1 ?_
  refine kj_isub dX11_strike_7 (pc' := 8) rfl ?_
  refine kcSz (as := [.inl x1, .inl 0, .inl ((X11_listMany σ) - 1)]) (st := []) l_RX11_84 (m_X11_in (Nat.zero_le _) σ x1 0 ((X11_listMany σ) - 1) rfl) rfl ⟨⟨rfl, rfl⟩, Nat.le_of_ble_eq_true rfl, Nat.le_of_ble_eq_true rfl⟩ (Nat.le_of_ble_eq_true rfl) dX11_strike_8 (pc' := 11) rfl (fun z1 => ?_)
  refine kj_if_ne dX11_strike_11 (tgt := 16) rfl (pc' := 14) rfl (fun c2 => ?_) (fun c2 => ?_)
  · rw [if_neg c2] at hT
    refine kj_aload_n dX11_strike_16 (pc' := 17) rfl rfl rfl ?_
    obtain ⟨σ3, hσ3, hT⟩ := bind_some' hT
    refine kcVv (as := []) (st := []) l_RX11_102 (m_X11_keeps hE σ hσ3) rfl (Nat.lt_of_lt_of_le (Nat.le_of_ble_eq_true rfl : 120 < 140) hE.1) rfl ⟨⟨rfl, rfl⟩, Nat.le_of_ble_eq_true rfl, Nat.le_of_ble_eq_true rfl⟩ (Nat.le_of_ble_eq_true rfl) dX11_strike_17 (pc' := 20) rfl ?_
    refine kj_iload_n dX11_strike_20 (pc' := 21) rfl rfl rfl ?_
    refine kj_istore_n dX11_strike_21 (pc' := 22) rfl rfl (Nat.le_of_ble_eq_true rfl) (ls' := [some (.inr 120), some (.inl x1), some (.inl x1)]) rfl ?_
    refine kj_keep [true, false, true] (ls' := [some (.inr 120), none, some (.inl x1)]) rfl ?_
    have hX22 : ∀ σ, X11_strike_T58 σ = some res → KJ E mX11_strike rmX11_strike 58 [some (.inr 120)] [] σ Q := by
      intro σ hT
      unfold X11_strike_T58 at hT
      refine kj_aload_n dX11_strike_58 (pc' := 59) rfl rfl rfl ?_
      refine kj_getR f_RX11_13 rfl (Nat.lt_of_lt_of_le (Nat.le_of_ble_eq_true rfl : 120 < 140) hE.1) (hE.2 _ _) (q := 121) rfl dX11_strike_59 (pc' := 62) rfl ?_
      refine kj_iconst dX11_strike_62 (pc' := 63) rfl kc_2 ?_
      refine kj_dup2 dX11_strike_63 (pc' := 64) rfl ?_
      refine kj_iald rfl (Nat.lt_of_lt_of_le (Nat.le_of_ble_eq_true rfl : 121 < 140) hE.1) (vp_lit (by decide +kernel)) (j := 2) (by decide +kernel) dX11_strike_64 (pc' := 65) rfl ?_
      refine kj_iconst dX11_strike_65 (pc' := 66) rfl kc_1 ?_
      refine kj_isub dX11_strike_66 (pc' := 67) rfl ?_
      refine kj_iast rfl (Nat.lt_of_lt_of_le (Nat.le_of_ble_eq_true rfl : 121 < 140) hE.1) (vp_lit (by decide +kernel)) (j := 2) (by decide +kernel) dX11_strike_67 (pc' := 68) rfl ?_
      refine kj_aload_n dX11_strike_68 (pc' := 69) rfl rfl rfl ?_
      refine kcVi (as := []) (st := []) l_RX11_147 (m_X11_listMany hE (up σ 121 2 ((σ 121 2) - 1)) rfl) rfl (Nat.lt_of_lt_of_le (Nat.le_of_ble_eq_true rfl : 120 < 140) hE.1) rfl ⟨⟨rfl, rfl⟩, Nat.le_of_ble_eq_true rfl, Nat.le_of_ble_eq_true rfl⟩ (Nat.le_of_ble_eq_true rfl) dX11_strike_69 (pc' := 72) rfl ?_
      have hR := Option.some.inj hT
      subst hR
      exact kj_iret rfl dX11_strike_72 (by subst hQ; exact ⟨rfl, rfl⟩)
    refine lp_ind (P := fun s => KJ E mX11_strike rmX11_strike 22 [some (.inr 120), none, some (.inl s.1)] [] s.2 Q) (fun rec22 s ih22 hT => ?_) FU (x1, σ3) hT
    obtain ⟨x2, σ⟩ := s
    show KJ E mX11_strike rmX11_strike 22 [some (.inr 120), none, some (.inl x2)] [] σ Q
    rw [X11_strike_B22] at hT
    refine kj_iload_n dX11_strike_22 (pc' := 23) rfl rfl rfl ?_
    refine kj_iconst dX11_strike_23 (pc' := 24) rfl kc_1 ?_
    refine kj_iadd dX11_strike_24 (pc' := 25) rfl ?_
    refine kj_aload_n dX11_strike_25 (pc' := 26) rfl rfl rfl ?_
    refine kcVi (as := []) (st := [.inl (x2 + 1)]) l_RX11_147 (m_X11_listMany hE σ rfl) rfl (Nat.lt_of_lt_of_le (Nat.le_of_ble_eq_true rfl : 120 < 140) hE.1) rfl ⟨⟨rfl, rfl⟩, Nat.le_of_ble_eq_true rfl, Nat.le_of_ble_eq_true rfl⟩ (Nat.le_of_ble_eq_true rfl) dX11_strike_26 (pc' := 29) rfl ?_
    refine kj_icmp_ge dX11_strike_29 (tgt := 58) rfl (pc' := 32) rfl (fun c4 => ?_) (fun c4 => ?_)
    · rw [if_pos c4] at hT
      refine kj_keep [true] (ls' := [some (.inr 120)]) rfl ?_
      exact hX22 σ hT
    · rw [if_neg c4] at hT
      refine kj_aload_n dX11_strike_32 (pc' := 33) rfl rfl rfl ?_
      refine kj_getR f_RX11_13 rfl (Nat.lt_of_lt_of_le (Nat.le_of_ble_eq_true rfl : 120 < 140) hE.1) (hE.2 _ _) (q := 121) rfl dX11_strike_33 (pc' := 36) rfl ?_
      refine kj_bipush dX11_strike_36 (pc' := 38) rfl kb_22 ?_
      refine kj_iload_n dX11_strike_38 (pc' := 39) rfl rfl rfl ?_
      refine kj_iadd dX11_strike_39 (pc' := 40) rfl ?_
      refine kj_aload_n dX11_strike_40 (pc' := 41) rfl rfl rfl ?_
      refine kj_getR f_RX11_13 rfl (Nat.lt_of_lt_of_le (Nat.le_of_ble_eq_true rfl : 120 < 140) hE.1) (hE.2 _ _) (q := 121) rfl dX11_strike_41 (pc' := 44) rfl ?_
      refine kj_bipush dX11_strike_44 (pc' := 46) rfl kb_22 ?_
      refine kj_iload_n dX11_strike_46 (pc' := 47) rfl rfl rfl ?_
      refine kj_iadd dX11_strike_47 (pc' := 48) rfl ?_
      refine kj_iconst dX11_strike_48 (pc' := 49) rfl kc_1 ?_
      refine kj_iadd dX11_strike_49 (pc' := 50) rfl ?_
      obtain ⟨hi5, hT⟩ := ckA_some hT
      refine kj_iald rfl (Nat.lt_of_lt_of_le (Nat.le_of_ble_eq_true rfl : 121 < 140) hE.1) hi5 rfl dX11_strike_50 (pc' := 51) rfl ?_
      obtain ⟨hi6, hT⟩ := ckA_some hT
      refine kj_iast rfl (Nat.lt_of_lt_of_le (Nat.le_of_ble_eq_true rfl : 121 < 140) hE.1) hi6 rfl dX11_strike_51 (pc' := 52) rfl ?_
      refine kj_iinc dX11_strike_52 (pc' := 55) rfl rfl (congrArg (_ + ·) kc_1) (Nat.le_of_ble_eq_true rfl) (ls' := [some (.inr 120), none, some (.inl (x2 + 1))]) rfl ?_
      refine kj_goto dX11_strike_55 (pc' := 22) rfl ?_
      exact ih22 (x2 + 1, up σ 121 ((22 + x2).toNatClampNeg) (σ 121 (((22 + x2) + 1).toNatClampNeg))) hT
  · rw [if_pos c2] at hT
    refine kj_iconst dX11_strike_14 (pc' := 15) rfl kc_m1 ?_
    have hR := Option.some.inj hT
    subst hR
    exact kj_iret rfl dX11_strike_15 (by subst hQ; exact ⟨rfl, rfl⟩)
def X11_adopt_B19 (rec19 : Int32 × Wd → Option (Int32 × Wd)) : Int32 × Wd → Option (Int32 × Wd)
  | (x1, σ) => (if (σ 120 6) ≤ x1 then ((X11_replaces σ).bind fun (t3, σ4) => some (t3, σ4)) else (ckA (22 + x1) 42 <| (ckA x1 20 <| rec19 (x1 + 1, up σ 124 x1.toNatClampNeg (σ 121 ((22 + x1).toNatClampNeg))))))
def X11_adopt (σ : Wd) : Option (Int32 × Wd) :=
  (if (X11_listMany σ) = 0 then some ((-1), σ) else (lp (X11_adopt_B19) FU (0, up σ 120 6 (X11_listMany σ))))
set_option maxRecDepth 100000 in
set_option maxHeartbeats 4000000 in
theorem m_X11_adopt {E : JE} (hE : kOk 140 E) (σ : Wd) {res : Int32 × Wd} (hT : X11_adopt σ = some res) : kMt E yX11_adopt mX11_adopt rmX11_adopt [.inr 120] σ (kQi res.1 res.2) := by
  refine kMt_of (by decide +kernel) rfl (Nat.le_of_ble_eq_true rfl) ?_
  generalize hQ : (kQi res.1 res.2) = Q
  show KJ E mX11_adopt rmX11_adopt 0 [some (.inr 120)] [] σ Q
  unfold X11_adopt at hT
  refine kj_aload_n dX11_adopt_0 (pc' := 1) rfl rfl rfl ?_
  refine kcVi (as := []) (st := []) l_RX11_147 (m_X11_listMany hE σ rfl) rfl (Nat.lt_of_lt_of_le (Nat.le_of_ble_eq_true rfl : 120 < 140) hE.1) rfl ⟨⟨rfl, rfl⟩, Nat.le_of_ble_eq_true rfl, Nat.le_of_ble_eq_true rfl⟩ (Nat.le_of_ble_eq_true rfl) dX11_adopt_1 (pc' := 4) rfl ?_
  refine kj_if_ne dX11_adopt_4 (tgt := 9) rfl (pc' := 7) rfl (fun c1 => ?_) (fun c1 => ?_)
  · rw [if_neg c1] at hT
    refine kj_aload_n dX11_adopt_9 (pc' := 10) rfl rfl rfl ?_
    refine kj_aload_n dX11_adopt_10 (pc' := 11) rfl rfl rfl ?_
    refine kcVi (as := []) (st := [.inr 120]) l_RX11_147 (m_X11_listMany hE σ rfl) rfl (Nat.lt_of_lt_of_le (Nat.le_of_ble_eq_true rfl : 120 < 140) hE.1) rfl ⟨⟨rfl, rfl⟩, Nat.le_of_ble_eq_true rfl, Nat.le_of_ble_eq_true rfl⟩ (Nat.le_of_ble_eq_true rfl) dX11_adopt_11 (pc' := 14) rfl ?_
    refine kj_putI p_RX11_119 rfl rfl rfl (Nat.lt_of_lt_of_le (Nat.le_of_ble_eq_true rfl : 120 < 140) hE.1) dX11_adopt_14 (pc' := 17) rfl ?_
    refine kj_iconst dX11_adopt_17 (pc' := 18) rfl kc_0 ?_
    refine kj_istore_n dX11_adopt_18 (pc' := 19) rfl rfl (Nat.le_of_ble_eq_true rfl) (ls' := [some (.inr 120), some (.inl 0)]) rfl ?_
    refine lp_ind (P := fun s => KJ E mX11_adopt rmX11_adopt 19 [some (.inr 120), some (.inl s.1)] [] s.2 Q) (fun rec19 s ih19 hT => ?_) FU (0, up σ 120 6 (X11_listMany σ)) hT
    obtain ⟨x1, σ⟩ := s
    show KJ E mX11_adopt rmX11_adopt 19 [some (.inr 120), some (.inl x1)] [] σ Q
    rw [X11_adopt_B19] at hT
    refine kj_iload_n dX11_adopt_19 (pc' := 20) rfl rfl rfl ?_
    refine kj_aload_n dX11_adopt_20 (pc' := 21) rfl rfl rfl ?_
    refine kj_getI f_RX11_119 rfl (Nat.lt_of_lt_of_le (Nat.le_of_ble_eq_true rfl : 120 < 140) hE.1) dX11_adopt_21 (pc' := 24) rfl ?_
    refine kj_icmp_ge dX11_adopt_24 (tgt := 48) rfl (pc' := 27) rfl (fun c2 => ?_) (fun c2 => ?_)
    · rw [if_pos c2] at hT
      refine kj_aload_n dX11_adopt_48 (pc' := 49) rfl rfl rfl ?_
      obtain ⟨t3, ht3, hT⟩ := bind_some' hT
      obtain ⟨t3, σ4⟩ := t3
      dsimp only at hT
      refine kcVi (as := []) (st := []) l_RX11_144 (m_X11_replaces hE σ ht3) rfl (Nat.lt_of_lt_of_le (Nat.le_of_ble_eq_true rfl : 120 < 140) hE.1) rfl ⟨⟨rfl, rfl⟩, Nat.le_of_ble_eq_true rfl, Nat.le_of_ble_eq_true rfl⟩ (Nat.le_of_ble_eq_true rfl) dX11_adopt_49 (pc' := 52) rfl ?_
      have hR := Option.some.inj hT
      subst hR
      exact kj_iret rfl dX11_adopt_52 (by subst hQ; exact ⟨rfl, rfl⟩)
    · rw [if_neg c2] at hT
      refine kj_aload_n dX11_adopt_27 (pc' := 28) rfl rfl rfl ?_
      refine kj_getR f_RX11_23 rfl (Nat.lt_of_lt_of_le (Nat.le_of_ble_eq_true rfl : 120 < 140) hE.1) (hE.2 _ _) (q := 124) rfl dX11_adopt_28 (pc' := 31) rfl ?_
      refine kj_iload_n dX11_adopt_31 (pc' := 32) rfl rfl rfl ?_
      refine kj_aload_n dX11_adopt_32 (pc' := 33) rfl rfl rfl ?_
      refine kj_getR f_RX11_13 rfl (Nat.lt_of_lt_of_le (Nat.le_of_ble_eq_true rfl : 120 < 140) hE.1) (hE.2 _ _) (q := 121) rfl dX11_adopt_33 (pc' := 36) rfl ?_
      refine kj_bipush dX11_adopt_36 (pc' := 38) rfl kb_22 ?_
      refine kj_iload_n dX11_adopt_38 (pc' := 39) rfl rfl rfl ?_
      refine kj_iadd dX11_adopt_39 (pc' := 40) rfl ?_
      obtain ⟨hi5, hT⟩ := ckA_some hT
      refine kj_iald rfl (Nat.lt_of_lt_of_le (Nat.le_of_ble_eq_true rfl : 121 < 140) hE.1) hi5 rfl dX11_adopt_40 (pc' := 41) rfl ?_
      obtain ⟨hi6, hT⟩ := ckA_some hT
      refine kj_iast rfl (Nat.lt_of_lt_of_le (Nat.le_of_ble_eq_true rfl : 124 < 140) hE.1) hi6 rfl dX11_adopt_41 (pc' := 42) rfl ?_
      refine kj_iinc dX11_adopt_42 (pc' := 45) rfl rfl (congrArg (_ + ·) kc_1) (Nat.le_of_ble_eq_true rfl) (ls' := [some (.inr 120), some (.inl (x1 + 1))]) rfl ?_
      refine kj_goto dX11_adopt_45 (pc' := 19) rfl ?_
      exact ih19 (x1 + 1, up σ 124 x1.toNatClampNeg (σ 121 ((22 + x1).toNatClampNeg))) hT
  · rw [if_pos c1] at hT
    refine kj_iconst dX11_adopt_7 (pc' := 8) rfl kc_m1 ?_
    have hR := Option.some.inj hT
    subst hR
    exact kj_iret rfl dX11_adopt_8 (by subst hQ; exact ⟨rfl, rfl⟩)
def X11_undo_B21 (rec21 : Int32 × Wd → Option (Int32 × Wd)) : Int32 × Wd → Option (Int32 × Wd)
  | (x1, σ) => (if 42 ≤ x1 then some (σ 120 4, σ) else (ckA ((42 * (σ 120 4)) + x1) 504 <| (ckA x1 42 <| rec21 (x1 + 1, up σ 121 x1.toNatClampNeg (σ 123 (((42 * (σ 120 4)) + x1).toNatClampNeg))))))
def X11_undo (σ : Wd) : Option (Int32 × Wd) :=
  (if (σ 120 4) = 0 then some ((-1), σ) else (lp (X11_undo_B21) FU (0, up σ 120 4 ((σ 120 4) - 1))))
set_option maxRecDepth 100000 in
set_option maxHeartbeats 4000000 in
theorem m_X11_undo {E : JE} (hE : kOk 140 E) (σ : Wd) {res : Int32 × Wd} (hT : X11_undo σ = some res) : kMt E yX11_undo mX11_undo rmX11_undo [.inr 120] σ (kQi res.1 res.2) := by
  refine kMt_of (by decide +kernel) rfl (Nat.le_of_ble_eq_true rfl) ?_
  generalize hQ : (kQi res.1 res.2) = Q
  show KJ E mX11_undo rmX11_undo 0 [some (.inr 120)] [] σ Q
  unfold X11_undo at hT
  refine kj_aload_n dX11_undo_0 (pc' := 1) rfl rfl rfl ?_
  refine kj_getI f_RX11_77 rfl (Nat.lt_of_lt_of_le (Nat.le_of_ble_eq_true rfl : 120 < 140) hE.1) dX11_undo_1 (pc' := 4) rfl ?_
  refine kj_if_ne dX11_undo_4 (tgt := 9) rfl (pc' := 7) rfl (fun c1 => ?_) (fun c1 => ?_)
  · rw [if_neg c1] at hT
    refine kj_aload_n dX11_undo_9 (pc' := 10) rfl rfl rfl ?_
    refine kj_dup dX11_undo_10 (pc' := 11) rfl ?_
    refine kj_getI f_RX11_77 rfl (Nat.lt_of_lt_of_le (Nat.le_of_ble_eq_true rfl : 120 < 140) hE.1) dX11_undo_11 (pc' := 14) rfl ?_
    refine kj_iconst dX11_undo_14 (pc' := 15) rfl kc_1 ?_
    refine kj_isub dX11_undo_15 (pc' := 16) rfl ?_
    refine kj_putI p_RX11_77 rfl rfl rfl (Nat.lt_of_lt_of_le (Nat.le_of_ble_eq_true rfl : 120 < 140) hE.1) dX11_undo_16 (pc' := 19) rfl ?_
    refine kj_iconst dX11_undo_19 (pc' := 20) rfl kc_0 ?_
    refine kj_istore_n dX11_undo_20 (pc' := 21) rfl rfl (Nat.le_of_ble_eq_true rfl) (ls' := [some (.inr 120), some (.inl 0)]) rfl ?_
    refine lp_ind (P := fun s => KJ E mX11_undo rmX11_undo 21 [some (.inr 120), some (.inl s.1)] [] s.2 Q) (fun rec21 s ih21 hT => ?_) FU (0, up σ 120 4 ((σ 120 4) - 1)) hT
    obtain ⟨x1, σ⟩ := s
    show KJ E mX11_undo rmX11_undo 21 [some (.inr 120), some (.inl x1)] [] σ Q
    rw [X11_undo_B21] at hT
    refine kj_iload_n dX11_undo_21 (pc' := 22) rfl rfl rfl ?_
    refine kj_bipush dX11_undo_22 (pc' := 24) rfl kb_42 ?_
    refine kj_icmp_ge dX11_undo_24 (tgt := 53) rfl (pc' := 27) rfl (fun c2 => ?_) (fun c2 => ?_)
    · rw [if_pos c2] at hT
      refine kj_aload_n dX11_undo_53 (pc' := 54) rfl rfl rfl ?_
      refine kj_getI f_RX11_77 rfl (Nat.lt_of_lt_of_le (Nat.le_of_ble_eq_true rfl : 120 < 140) hE.1) dX11_undo_54 (pc' := 57) rfl ?_
      have hR := Option.some.inj hT
      subst hR
      exact kj_iret rfl dX11_undo_57 (by subst hQ; exact ⟨rfl, rfl⟩)
    · rw [if_neg c2] at hT
      refine kj_aload_n dX11_undo_27 (pc' := 28) rfl rfl rfl ?_
      refine kj_getR f_RX11_13 rfl (Nat.lt_of_lt_of_le (Nat.le_of_ble_eq_true rfl : 120 < 140) hE.1) (hE.2 _ _) (q := 121) rfl dX11_undo_28 (pc' := 31) rfl ?_
      refine kj_iload_n dX11_undo_31 (pc' := 32) rfl rfl rfl ?_
      refine kj_aload_n dX11_undo_32 (pc' := 33) rfl rfl rfl ?_
      refine kj_getR f_RX11_20 rfl (Nat.lt_of_lt_of_le (Nat.le_of_ble_eq_true rfl : 120 < 140) hE.1) (hE.2 _ _) (q := 123) rfl dX11_undo_33 (pc' := 36) rfl ?_
      refine kj_bipush dX11_undo_36 (pc' := 38) rfl kb_42 ?_
      refine kj_aload_n dX11_undo_38 (pc' := 39) rfl rfl rfl ?_
      refine kj_getI f_RX11_77 rfl (Nat.lt_of_lt_of_le (Nat.le_of_ble_eq_true rfl : 120 < 140) hE.1) dX11_undo_39 (pc' := 42) rfl ?_
      refine kj_imul dX11_undo_42 (pc' := 43) rfl ?_
      refine kj_iload_n dX11_undo_43 (pc' := 44) rfl rfl rfl ?_
      refine kj_iadd dX11_undo_44 (pc' := 45) rfl ?_
      obtain ⟨hi3, hT⟩ := ckA_some hT
      refine kj_iald rfl (Nat.lt_of_lt_of_le (Nat.le_of_ble_eq_true rfl : 123 < 140) hE.1) hi3 rfl dX11_undo_45 (pc' := 46) rfl ?_
      obtain ⟨hi4, hT⟩ := ckA_some hT
      refine kj_iast rfl (Nat.lt_of_lt_of_le (Nat.le_of_ble_eq_true rfl : 121 < 140) hE.1) hi4 rfl dX11_undo_46 (pc' := 47) rfl ?_
      refine kj_iinc dX11_undo_47 (pc' := 50) rfl rfl (congrArg (_ + ·) kc_1) (Nat.le_of_ble_eq_true rfl) (ls' := [some (.inr 120), some (.inl (x1 + 1))]) rfl ?_
      refine kj_goto dX11_undo_50 (pc' := 21) rfl ?_
      exact ih21 (x1 + 1, up σ 121 x1.toNatClampNeg (σ 123 (((42 * (σ 120 4)) + x1).toNatClampNeg))) hT
  · rw [if_pos c1] at hT
    refine kj_iconst dX11_undo_7 (pc' := 8) rfl kc_m1 ?_
    have hR := Option.some.inj hT
    subst hR
    exact kj_iret rfl dX11_undo_8 (by subst hQ; exact ⟨rfl, rfl⟩)
def X11_manyOf_J20 (rec4 : Int32 × Int32 → Option (Int32)) (y1 : Int32) (y2 : Int32) : Option (Int32) :=
  rec4 (y1, y2 + 1)
def X11_manyOf_B4 (q0 : Nat) (σ : Wd) (rec4 : Int32 × Int32 → Option (Int32)) : Int32 × Int32 → Option (Int32)
  | (x1, x2) => (if 128 ≤ x2 then some x1 else (ckA x2 (kLn q0) <| (if (σ q0 x2.toNatClampNeg) = 0 then X11_manyOf_J20 rec4 x1 x2 else X11_manyOf_J20 rec4 (x1 + 1) x2)))
def X11_manyOf (σ : Wd) (q0 : Nat) : Option (Int32) :=
  (lp (X11_manyOf_B4 q0 σ) FU (0, 0))
set_option maxRecDepth 100000 in
set_option maxHeartbeats 4000000 in
theorem m_X11_manyOf {E : JE} (hE : 0 ≤ E.2.2.2.2.1) {q0 : Nat} (hq0 : kKd q0 = 21) (nq0 : q0 < E.2.2.2.2.1) (σ : Wd) {res : Int32} (hT : X11_manyOf σ q0 = some res) : kMt E yX11_manyOf mX11_manyOf rmX11_manyOf [.inr q0] σ (kQi res σ) := by
  refine kMt_of (by decide +kernel) rfl (Nat.le_of_ble_eq_true rfl) ?_
  generalize hQ : (kQi res σ) = Q
  show KJ E mX11_manyOf rmX11_manyOf 0 [some (.inr q0)] [] σ Q
  unfold X11_manyOf at hT
  refine kj_iconst dX11_manyOf_0 (pc' := 1) rfl kc_0 ?_
  refine kj_istore_n dX11_manyOf_1 (pc' := 2) rfl rfl (Nat.le_of_ble_eq_true rfl) (ls' := [some (.inr q0), some (.inl 0)]) rfl ?_
  refine kj_iconst dX11_manyOf_2 (pc' := 3) rfl kc_0 ?_
  refine kj_istore_n dX11_manyOf_3 (pc' := 4) rfl rfl (Nat.le_of_ble_eq_true rfl) (ls' := [some (.inr q0), some (.inl 0), some (.inl 0)]) rfl ?_
  refine lp_ind (P := fun s => KJ E mX11_manyOf rmX11_manyOf 4 [some (.inr q0), some (.inl s.1), some (.inl s.2)] [] σ Q) (fun rec4 s ih4 hT => ?_) FU (0, 0) hT
  obtain ⟨x1, x2⟩ := s
  show KJ E mX11_manyOf rmX11_manyOf 4 [some (.inr q0), some (.inl x1), some (.inl x2)] [] σ Q
  rw [X11_manyOf_B4] at hT
  have hJ20_4 : ∀ y1 y2, X11_manyOf_J20 rec4 y1 y2 = some res → KJ E mX11_manyOf rmX11_manyOf 20 [some (.inr q0), some (.inl y1), some (.inl y2)] [] σ Q := by
    intro y1 y2 hT
    unfold X11_manyOf_J20 at hT
    refine kj_iinc dX11_manyOf_20 (pc' := 23) rfl rfl (congrArg (_ + ·) kc_1) (Nat.le_of_ble_eq_true rfl) (ls' := [some (.inr q0), some (.inl y1), some (.inl (y2 + 1))]) rfl ?_
    refine kj_goto dX11_manyOf_23 (pc' := 4) rfl ?_
    exact ih4 (y1, y2 + 1) hT
  refine kj_iload_n dX11_manyOf_4 (pc' := 5) rfl rfl rfl ?_
  refine kj_sipush dX11_manyOf_5 (pc' := 8) rfl ks_128 ?_
  refine kj_icmp_ge dX11_manyOf_8 (tgt := 26) rfl (pc' := 11) rfl (fun c2 => ?_) (fun c2 => ?_)
  · rw [if_pos c2] at hT
    refine kj_iload_n dX11_manyOf_26 (pc' := 27) rfl rfl rfl ?_
    have hR := Option.some.inj hT
    subst hR
    exact kj_iret rfl dX11_manyOf_27 (by subst hQ; exact ⟨rfl, rfl⟩)
  · rw [if_neg c2] at hT
    refine kj_aload_n dX11_manyOf_11 (pc' := 12) rfl rfl rfl ?_
    refine kj_iload_n dX11_manyOf_12 (pc' := 13) rfl rfl rfl ?_
    obtain ⟨hi3, hT⟩ := ckA_some hT
    refine kj_zald hq0 nq0 hi3 rfl dX11_manyOf_13 (pc' := 14) rfl ?_
    refine kj_if_eq dX11_manyOf_14 (tgt := 20) rfl (pc' := 17) rfl (fun c4 => ?_) (fun c4 => ?_)
    · rw [if_pos c4] at hT
      exact hJ20_4 x1 x2 hT
    · rw [if_neg c4] at hT
      refine kj_iinc dX11_manyOf_17 (pc' := 20) rfl rfl (congrArg (_ + ·) kc_1) (Nat.le_of_ble_eq_true rfl) (ls' := [some (.inr q0), some (.inl (x1 + 1)), some (.inl x2)]) rfl ?_
      exact hJ20_4 (x1 + 1) x2 hT
def X11_isMember (σ : Wd) (x1 : Int32) : Int32 :=
  (X11_in x1 0 ((σ 120 10) - 1))
set_option maxRecDepth 100000 in
set_option maxHeartbeats 4000000 in
theorem m_X11_isMember {E : JE} (hE : kOk 140 E) (σ : Wd) (x1 : Int32) {res : Int32} (hT : X11_isMember σ x1 = res) : kMt E yX11_isMember mX11_isMember rmX11_isMember [.inr 120, .inl x1] σ (kQz res σ) := by
  refine kMt_of (by decide +kernel) rfl (Nat.le_of_ble_eq_true rfl) ?_
  generalize hQ : (kQz res σ) = Q
  show KJ E mX11_isMember rmX11_isMember 0 [some (.inr 120), some (.inl x1)] [] σ Q
  unfold X11_isMember at hT
  refine kj_iload_n dX11_isMember_0 (pc' := 1) rfl rfl rfl ?_
  refine kj_iconst dX11_isMember_1 (pc' := 2) rfl kc_0 ?_
  refine kj_aload_n dX11_isMember_2 (pc' := 3) rfl rfl rfl ?_
  refine kj_getI f_RX11_141 rfl (Nat.lt_of_lt_of_le (Nat.le_of_ble_eq_true rfl : 120 < 140) hE.1) dX11_isMember_3 (pc' := 6) rfl ?_
  refine kj_iconst dX11_isMember_6 (pc' := 7) rfl kc_1 ?_
  refine kj_isub dX11_isMember_7 (pc' := 8) rfl ?_
  refine kcSz (as := [.inl x1, .inl 0, .inl ((σ 120 10) - 1)]) (st := []) l_RX11_84 (m_X11_in (Nat.zero_le _) σ x1 0 ((σ 120 10) - 1) rfl) rfl ⟨⟨rfl, rfl⟩, Nat.le_of_ble_eq_true rfl, Nat.le_of_ble_eq_true rfl⟩ (Nat.le_of_ble_eq_true rfl) dX11_isMember_8 (pc' := 11) rfl (fun z1 => ?_)
  subst hT
  exact kj_zret rfl z1 dX11_isMember_11 (by subst hQ; exact ⟨rfl, rfl, z1⟩)
def X11_top (σ : Wd) : Option (Int32) :=
  (ckA ((σ 120 10) - 1) 128 <| some (σ 126 (((σ 120 10) - 1).toNatClampNeg)))
set_option maxRecDepth 100000 in
set_option maxHeartbeats 4000000 in
theorem m_X11_top {E : JE} (hE : kOk 140 E) (σ : Wd) {res : Int32} (hT : X11_top σ = some res) : kMt E yX11_top mX11_top rmX11_top [.inr 120] σ (kQi res σ) := by
  refine kMt_of (by decide +kernel) rfl (Nat.le_of_ble_eq_true rfl) ?_
  generalize hQ : (kQi res σ) = Q
  show KJ E mX11_top rmX11_top 0 [some (.inr 120)] [] σ Q
  unfold X11_top at hT
  refine kj_aload_n dX11_top_0 (pc' := 1) rfl rfl rfl ?_
  refine kj_getR f_RX11_30 rfl (Nat.lt_of_lt_of_le (Nat.le_of_ble_eq_true rfl : 120 < 140) hE.1) (hE.2 _ _) (q := 126) rfl dX11_top_1 (pc' := 4) rfl ?_
  refine kj_aload_n dX11_top_4 (pc' := 5) rfl rfl rfl ?_
  refine kj_getI f_RX11_141 rfl (Nat.lt_of_lt_of_le (Nat.le_of_ble_eq_true rfl : 120 < 140) hE.1) dX11_top_5 (pc' := 8) rfl ?_
  refine kj_iconst dX11_top_8 (pc' := 9) rfl kc_1 ?_
  refine kj_isub dX11_top_9 (pc' := 10) rfl ?_
  obtain ⟨hi1, hT⟩ := ckA_some hT
  refine kj_iald rfl (Nat.lt_of_lt_of_le (Nat.le_of_ble_eq_true rfl : 126 < 140) hE.1) hi1 rfl dX11_top_10 (pc' := 11) rfl ?_
  have hR := Option.some.inj hT
  subst hR
  exact kj_iret rfl dX11_top_11 (by subst hQ; exact ⟨rfl, rfl⟩)
def X11_frequencyIn_J28 (rec4 : Int32 × Int32 → Option (Int32)) (y2 : Int32) (y3 : Int32) : Option (Int32) :=
  rec4 (y2, y3 + 1)
def X11_frequencyIn_B4 (q0 : Nat) (σ : Wd) (x1 : Int32) (rec4 : Int32 × Int32 → Option (Int32)) : Int32 × Int32 → Option (Int32)
  | (x2, x3) => (if 128 ≤ x3 then some x2 else (ckA x3 (kLn q0) <| (if (σ q0 x3.toNatClampNeg) = 0 then X11_frequencyIn_J28 rec4 x2 x3 else (if (X11_has x3 x1) = 0 then X11_frequencyIn_J28 rec4 x2 x3 else X11_frequencyIn_J28 rec4 (x2 + 1) x3))))
def X11_frequencyIn (σ : Wd) (q0 : Nat) (x1 : Int32) : Option (Int32) :=
  (lp (X11_frequencyIn_B4 q0 σ x1) FU (0, 0))
set_option maxRecDepth 100000 in
set_option maxHeartbeats 4000000 in
theorem m_X11_frequencyIn {E : JE} (hE : 0 ≤ E.2.2.2.2.1) {q0 : Nat} (hq0 : kKd q0 = 21) (nq0 : q0 < E.2.2.2.2.1) (σ : Wd) (x1 : Int32) {res : Int32} (hT : X11_frequencyIn σ q0 x1 = some res) : kMt E yX11_frequencyIn mX11_frequencyIn rmX11_frequencyIn [.inr q0, .inl x1] σ (kQi res σ) := by
  refine kMt_of (by decide +kernel) rfl (Nat.le_of_ble_eq_true rfl) ?_
  generalize hQ : (kQi res σ) = Q
  show KJ E mX11_frequencyIn rmX11_frequencyIn 0 [some (.inr q0), some (.inl x1)] [] σ Q
  unfold X11_frequencyIn at hT
  refine kj_iconst dX11_frequencyIn_0 (pc' := 1) rfl kc_0 ?_
  refine kj_istore_n dX11_frequencyIn_1 (pc' := 2) rfl rfl (Nat.le_of_ble_eq_true rfl) (ls' := [some (.inr q0), some (.inl x1), some (.inl 0)]) rfl ?_
  refine kj_iconst dX11_frequencyIn_2 (pc' := 3) rfl kc_0 ?_
  refine kj_istore_n dX11_frequencyIn_3 (pc' := 4) rfl rfl (Nat.le_of_ble_eq_true rfl) (ls' := [some (.inr q0), some (.inl x1), some (.inl 0), some (.inl 0)]) rfl ?_
  refine lp_ind (P := fun s => KJ E mX11_frequencyIn rmX11_frequencyIn 4 [some (.inr q0), some (.inl x1), some (.inl s.1), some (.inl s.2)] [] σ Q) (fun rec4 s ih4 hT => ?_) FU (0, 0) hT
  obtain ⟨x2, x3⟩ := s
  show KJ E mX11_frequencyIn rmX11_frequencyIn 4 [some (.inr q0), some (.inl x1), some (.inl x2), some (.inl x3)] [] σ Q
  rw [X11_frequencyIn_B4] at hT
  have hJ28_4 : ∀ y2 y3, X11_frequencyIn_J28 rec4 y2 y3 = some res → KJ E mX11_frequencyIn rmX11_frequencyIn 28 [some (.inr q0), some (.inl x1), some (.inl y2), some (.inl y3)] [] σ Q := by
    intro y2 y3 hT
    unfold X11_frequencyIn_J28 at hT
    refine kj_iinc dX11_frequencyIn_28 (pc' := 31) rfl rfl (congrArg (_ + ·) kc_1) (Nat.le_of_ble_eq_true rfl) (ls' := [some (.inr q0), some (.inl x1), some (.inl y2), some (.inl (y3 + 1))]) rfl ?_
    refine kj_goto dX11_frequencyIn_31 (pc' := 4) rfl ?_
    exact ih4 (y2, y3 + 1) hT
  refine kj_iload_n dX11_frequencyIn_4 (pc' := 5) rfl rfl rfl ?_
  refine kj_sipush dX11_frequencyIn_5 (pc' := 8) rfl ks_128 ?_
  refine kj_icmp_ge dX11_frequencyIn_8 (tgt := 34) rfl (pc' := 11) rfl (fun c2 => ?_) (fun c2 => ?_)
  · rw [if_pos c2] at hT
    refine kj_iload_n dX11_frequencyIn_34 (pc' := 35) rfl rfl rfl ?_
    have hR := Option.some.inj hT
    subst hR
    exact kj_iret rfl dX11_frequencyIn_35 (by subst hQ; exact ⟨rfl, rfl⟩)
  · rw [if_neg c2] at hT
    refine kj_aload_n dX11_frequencyIn_11 (pc' := 12) rfl rfl rfl ?_
    refine kj_iload_n dX11_frequencyIn_12 (pc' := 13) rfl rfl rfl ?_
    obtain ⟨hi3, hT⟩ := ckA_some hT
    refine kj_zald hq0 nq0 hi3 rfl dX11_frequencyIn_13 (pc' := 14) rfl ?_
    refine kj_if_eq dX11_frequencyIn_14 (tgt := 28) rfl (pc' := 17) rfl (fun c4 => ?_) (fun c4 => ?_)
    · rw [if_pos c4] at hT
      exact hJ28_4 x2 x3 hT
    · rw [if_neg c4] at hT
      refine kj_iload_n dX11_frequencyIn_17 (pc' := 18) rfl rfl rfl ?_
      refine kj_iload_n dX11_frequencyIn_18 (pc' := 19) rfl rfl rfl ?_
      refine kcSz (as := [.inl x3, .inl x1]) (st := []) l_RX11_128 (m_X11_has hE σ x3 x1 rfl) rfl ⟨⟨rfl, rfl⟩, Nat.le_of_ble_eq_true rfl, Nat.le_of_ble_eq_true rfl⟩ (Nat.le_of_ble_eq_true rfl) dX11_frequencyIn_19 (pc' := 22) rfl (fun z5 => ?_)
      refine kj_if_eq dX11_frequencyIn_22 (tgt := 28) rfl (pc' := 25) rfl (fun c6 => ?_) (fun c6 => ?_)
      · rw [if_pos c6] at hT
        exact hJ28_4 x2 x3 hT
      · rw [if_neg c6] at hT
        refine kj_iinc dX11_frequencyIn_25 (pc' := 28) rfl rfl (congrArg (_ + ·) kc_1) (Nat.le_of_ble_eq_true rfl) (ls' := [some (.inr q0), some (.inl x1), some (.inl (x2 + 1)), some (.inl x3)]) rfl ?_
        exact hJ28_4 (x2 + 1) x3 hT
def X11_frequentIn_J40 (rec10 : Int32 × Int32 → Option (Int32)) (y3 : Int32) (y4 : Int32) : Option (Int32) :=
  rec10 (y3, y4 + 1)
def X11_frequentIn_B10 (σ : Wd) (q1 : Nat) (t1 : Int32) (rec10 : Int32 × Int32 → Option (Int32)) : Int32 × Int32 → Option (Int32)
  | (x3, x4) => (if (σ 121 0) ≤ x4 then some x3 else ((X11_frequencyIn σ q1 x4).bind fun t4 => (if (2 * t4) < t1 then X11_frequentIn_J40 rec10 x3 x4 else X11_frequentIn_J40 rec10 (x3 ||| (1 <<< (x4 &&& 31))) x4)))
def X11_frequentIn (σ : Wd) (q1 : Nat) : Option (Int32) :=
  ((X11_manyOf σ q1).bind fun t1 => (lp (X11_frequentIn_B10 σ q1 t1) FU (0, 0)))
set_option maxRecDepth 100000 in
set_option maxHeartbeats 4000000 in
theorem m_X11_frequentIn {E : JE} (hE : kOk 140 E) {q1 : Nat} (hq1 : kKd q1 = 21) (nq1 : q1 < E.2.2.2.2.1) (σ : Wd) {res : Int32} (hT : X11_frequentIn σ q1 = some res) : kMt E yX11_frequentIn mX11_frequentIn rmX11_frequentIn [.inr 120, .inr q1] σ (kQi res σ) := by
  refine kMt_of (by decide +kernel) rfl (Nat.le_of_ble_eq_true rfl) ?_
  generalize hQ : (kQi res σ) = Q
  show KJ E mX11_frequentIn rmX11_frequentIn 0 [some (.inr 120), some (.inr q1)] [] σ Q
  unfold X11_frequentIn at hT
  refine kj_aload_n dX11_frequentIn_0 (pc' := 1) rfl rfl rfl ?_
  obtain ⟨t1, ht1, hT⟩ := bind_some' hT
  refine kcSi (as := [.inr q1]) (st := []) l_RX11_167 (m_X11_manyOf (Nat.zero_le _) hq1 nq1 σ ht1) rfl ⟨⟨rfl, rfl⟩, Nat.le_of_ble_eq_true rfl, Nat.le_of_ble_eq_true rfl⟩ (Nat.le_of_ble_eq_true rfl) dX11_frequentIn_1 (pc' := 4) rfl ?_
  refine kj_istore_n dX11_frequentIn_4 (pc' := 5) rfl rfl (Nat.le_of_ble_eq_true rfl) (ls' := [some (.inr 120), some (.inr q1), some (.inl t1)]) rfl ?_
  refine kj_iconst dX11_frequentIn_5 (pc' := 6) rfl kc_0 ?_
  refine kj_istore_n dX11_frequentIn_6 (pc' := 7) rfl rfl (Nat.le_of_ble_eq_true rfl) (ls' := [some (.inr 120), some (.inr q1), some (.inl t1), some (.inl 0)]) rfl ?_
  refine kj_iconst dX11_frequentIn_7 (pc' := 8) rfl kc_0 ?_
  refine kj_istore dX11_frequentIn_8 (pc' := 10) rfl (Nat.le_of_ble_eq_true rfl) (ls' := [some (.inr 120), some (.inr q1), some (.inl t1), some (.inl 0), some (.inl 0)]) rfl ?_
  refine lp_ind (P := fun s => KJ E mX11_frequentIn rmX11_frequentIn 10 [some (.inr 120), some (.inr q1), some (.inl t1), some (.inl s.1), some (.inl s.2)] [] σ Q) (fun rec10 s ih10 hT => ?_) FU (0, 0) hT
  obtain ⟨x3, x4⟩ := s
  show KJ E mX11_frequentIn rmX11_frequentIn 10 [some (.inr 120), some (.inr q1), some (.inl t1), some (.inl x3), some (.inl x4)] [] σ Q
  rw [X11_frequentIn_B10] at hT
  have hJ40_10 : ∀ y3 y4, X11_frequentIn_J40 rec10 y3 y4 = some res → KJ E mX11_frequentIn rmX11_frequentIn 40 [some (.inr 120), some (.inr q1), some (.inl t1), some (.inl y3), some (.inl y4)] [] σ Q := by
    intro y3 y4 hT
    unfold X11_frequentIn_J40 at hT
    refine kj_iinc dX11_frequentIn_40 (pc' := 43) rfl rfl (congrArg (_ + ·) kc_1) (Nat.le_of_ble_eq_true rfl) (ls' := [some (.inr 120), some (.inr q1), some (.inl t1), some (.inl y3), some (.inl (y4 + 1))]) rfl ?_
    refine kj_goto dX11_frequentIn_43 (pc' := 10) rfl ?_
    exact ih10 (y3, y4 + 1) hT
  refine kj_iload dX11_frequentIn_10 (pc' := 12) rfl rfl ?_
  refine kj_aload_n dX11_frequentIn_12 (pc' := 13) rfl rfl rfl ?_
  refine kj_getR f_RX11_13 rfl (Nat.lt_of_lt_of_le (Nat.le_of_ble_eq_true rfl : 120 < 140) hE.1) (hE.2 _ _) (q := 121) rfl dX11_frequentIn_13 (pc' := 16) rfl ?_
  refine kj_iconst dX11_frequentIn_16 (pc' := 17) rfl kc_0 ?_
  refine kj_iald rfl (Nat.lt_of_lt_of_le (Nat.le_of_ble_eq_true rfl : 121 < 140) hE.1) (vp_lit (by decide +kernel)) (j := 0) (by decide +kernel) dX11_frequentIn_17 (pc' := 18) rfl ?_
  refine kj_icmp_ge dX11_frequentIn_18 (tgt := 46) rfl (pc' := 21) rfl (fun c3 => ?_) (fun c3 => ?_)
  · rw [if_pos c3] at hT
    refine kj_iload_n dX11_frequentIn_46 (pc' := 47) rfl rfl rfl ?_
    have hR := Option.some.inj hT
    subst hR
    exact kj_iret rfl dX11_frequentIn_47 (by subst hQ; exact ⟨rfl, rfl⟩)
  · rw [if_neg c3] at hT
    refine kj_iconst dX11_frequentIn_21 (pc' := 22) rfl kc_2 ?_
    refine kj_aload_n dX11_frequentIn_22 (pc' := 23) rfl rfl rfl ?_
    refine kj_iload dX11_frequentIn_23 (pc' := 25) rfl rfl ?_
    obtain ⟨t4, ht4, hT⟩ := bind_some' hT
    refine kcSi (as := [.inr q1, .inl x4]) (st := [.inl 2]) l_RX11_171 (m_X11_frequencyIn (Nat.zero_le _) hq1 nq1 σ x4 ht4) rfl ⟨⟨rfl, rfl⟩, Nat.le_of_ble_eq_true rfl, Nat.le_of_ble_eq_true rfl⟩ (Nat.le_of_ble_eq_true rfl) dX11_frequentIn_25 (pc' := 28) rfl ?_
    refine kj_imul dX11_frequentIn_28 (pc' := 29) rfl ?_
    refine kj_iload_n dX11_frequentIn_29 (pc' := 30) rfl rfl rfl ?_
    refine kj_icmp_lt dX11_frequentIn_30 (tgt := 40) rfl (pc' := 33) rfl (fun c5 => ?_) (fun c5 => ?_)
    · rw [if_pos c5] at hT
      exact hJ40_10 x3 x4 hT
    · rw [if_neg c5] at hT
      refine kj_iload_n dX11_frequentIn_33 (pc' := 34) rfl rfl rfl ?_
      refine kj_iconst dX11_frequentIn_34 (pc' := 35) rfl kc_1 ?_
      refine kj_iload dX11_frequentIn_35 (pc' := 37) rfl rfl ?_
      refine kj_ishl dX11_frequentIn_37 (pc' := 38) rfl ?_
      refine kj_ior dX11_frequentIn_38 (pc' := 39) rfl ?_
      refine kj_istore_n dX11_frequentIn_39 (pc' := 40) rfl rfl (Nat.le_of_ble_eq_true rfl) (ls' := [some (.inr 120), some (.inr q1), some (.inl t1), some (.inl (x3 ||| (1 <<< (x4 &&& 31)))), some (.inl x4)]) rfl ?_
      exact hJ40_10 (x3 ||| (1 <<< (x4 &&& 31))) x4 hT
def X11_massOf_J33 (rec4 : Int32 × Int32 → Option (Int32)) (y2 : Int32) (y3 : Int32) : Option (Int32) :=
  rec4 (y2, y3 + 1)
def X11_massOf_B4 (σ : Wd) (x1 : Int32) (rec4 : Int32 × Int32 → Option (Int32)) : Int32 × Int32 → Option (Int32)
  | (x2, x3) => (if (σ 121 0) ≤ x3 then some x2 else (if (X11_has x1 x3) = 0 then X11_massOf_J33 rec4 x2 x3 else (ckA (3 + x3) 42 <| (lett (x2 + (σ 121 ((3 + x3).toNatClampNeg))) fun t6 => X11_massOf_J33 rec4 t6 x3))))
def X11_massOf (σ : Wd) (x1 : Int32) : Option (Int32) :=
  (lp (X11_massOf_B4 σ x1) FU (0, 0))
set_option maxRecDepth 100000 in
set_option maxHeartbeats 4000000 in
theorem m_X11_massOf {E : JE} (hE : kOk 140 E) (σ : Wd) (x1 : Int32) {res : Int32} (hT : X11_massOf σ x1 = some res) : kMt E yX11_massOf mX11_massOf rmX11_massOf [.inr 120, .inl x1] σ (kQi res σ) := by
  refine kMt_of (by decide +kernel) rfl (Nat.le_of_ble_eq_true rfl) ?_
  generalize hQ : (kQi res σ) = Q
  show KJ E mX11_massOf rmX11_massOf 0 [some (.inr 120), some (.inl x1)] [] σ Q
  unfold X11_massOf at hT
  refine kj_iconst dX11_massOf_0 (pc' := 1) rfl kc_0 ?_
  refine kj_istore_n dX11_massOf_1 (pc' := 2) rfl rfl (Nat.le_of_ble_eq_true rfl) (ls' := [some (.inr 120), some (.inl x1), some (.inl 0)]) rfl ?_
  refine kj_iconst dX11_massOf_2 (pc' := 3) rfl kc_0 ?_
  refine kj_istore_n dX11_massOf_3 (pc' := 4) rfl rfl (Nat.le_of_ble_eq_true rfl) (ls' := [some (.inr 120), some (.inl x1), some (.inl 0), some (.inl 0)]) rfl ?_
  refine lp_ind (P := fun s => KJ E mX11_massOf rmX11_massOf 4 [some (.inr 120), some (.inl x1), some (.inl s.1), some (.inl s.2)] [] σ Q) (fun rec4 s ih4 hT => ?_) FU (0, 0) hT
  obtain ⟨x2, x3⟩ := s
  show KJ E mX11_massOf rmX11_massOf 4 [some (.inr 120), some (.inl x1), some (.inl x2), some (.inl x3)] [] σ Q
  rw [X11_massOf_B4] at hT
  have hJ33_4 : ∀ y2 y3, X11_massOf_J33 rec4 y2 y3 = some res → KJ E mX11_massOf rmX11_massOf 33 [some (.inr 120), some (.inl x1), some (.inl y2), some (.inl y3)] [] σ Q := by
    intro y2 y3 hT
    unfold X11_massOf_J33 at hT
    refine kj_iinc dX11_massOf_33 (pc' := 36) rfl rfl (congrArg (_ + ·) kc_1) (Nat.le_of_ble_eq_true rfl) (ls' := [some (.inr 120), some (.inl x1), some (.inl y2), some (.inl (y3 + 1))]) rfl ?_
    refine kj_goto dX11_massOf_36 (pc' := 4) rfl ?_
    exact ih4 (y2, y3 + 1) hT
  refine kj_iload_n dX11_massOf_4 (pc' := 5) rfl rfl rfl ?_
  refine kj_aload_n dX11_massOf_5 (pc' := 6) rfl rfl rfl ?_
  refine kj_getR f_RX11_13 rfl (Nat.lt_of_lt_of_le (Nat.le_of_ble_eq_true rfl : 120 < 140) hE.1) (hE.2 _ _) (q := 121) rfl dX11_massOf_6 (pc' := 9) rfl ?_
  refine kj_iconst dX11_massOf_9 (pc' := 10) rfl kc_0 ?_
  refine kj_iald rfl (Nat.lt_of_lt_of_le (Nat.le_of_ble_eq_true rfl : 121 < 140) hE.1) (vp_lit (by decide +kernel)) (j := 0) (by decide +kernel) dX11_massOf_10 (pc' := 11) rfl ?_
  refine kj_icmp_ge dX11_massOf_11 (tgt := 39) rfl (pc' := 14) rfl (fun c2 => ?_) (fun c2 => ?_)
  · rw [if_pos c2] at hT
    refine kj_iload_n dX11_massOf_39 (pc' := 40) rfl rfl rfl ?_
    have hR := Option.some.inj hT
    subst hR
    exact kj_iret rfl dX11_massOf_40 (by subst hQ; exact ⟨rfl, rfl⟩)
  · rw [if_neg c2] at hT
    refine kj_iload_n dX11_massOf_14 (pc' := 15) rfl rfl rfl ?_
    refine kj_iload_n dX11_massOf_15 (pc' := 16) rfl rfl rfl ?_
    refine kcSz (as := [.inl x1, .inl x3]) (st := []) l_RX11_128 (m_X11_has (Nat.zero_le _) σ x1 x3 rfl) rfl ⟨⟨rfl, rfl⟩, Nat.le_of_ble_eq_true rfl, Nat.le_of_ble_eq_true rfl⟩ (Nat.le_of_ble_eq_true rfl) dX11_massOf_16 (pc' := 19) rfl (fun z3 => ?_)
    refine kj_if_eq dX11_massOf_19 (tgt := 33) rfl (pc' := 22) rfl (fun c4 => ?_) (fun c4 => ?_)
    · rw [if_pos c4] at hT
      exact hJ33_4 x2 x3 hT
    · rw [if_neg c4] at hT
      refine kj_iload_n dX11_massOf_22 (pc' := 23) rfl rfl rfl ?_
      refine kj_aload_n dX11_massOf_23 (pc' := 24) rfl rfl rfl ?_
      refine kj_getR f_RX11_13 rfl (Nat.lt_of_lt_of_le (Nat.le_of_ble_eq_true rfl : 120 < 140) hE.1) (hE.2 _ _) (q := 121) rfl dX11_massOf_24 (pc' := 27) rfl ?_
      refine kj_iconst dX11_massOf_27 (pc' := 28) rfl kc_3 ?_
      refine kj_iload_n dX11_massOf_28 (pc' := 29) rfl rfl rfl ?_
      refine kj_iadd dX11_massOf_29 (pc' := 30) rfl ?_
      obtain ⟨hi5, hT⟩ := ckA_some hT
      refine kj_iald rfl (Nat.lt_of_lt_of_le (Nat.le_of_ble_eq_true rfl : 121 < 140) hE.1) hi5 rfl dX11_massOf_30 (pc' := 31) rfl ?_
      refine kj_iadd dX11_massOf_31 (pc' := 32) rfl ?_
      obtain ⟨t6, et6, hT⟩ := lett_i hT
      rw [← et6]
      refine kj_istore_n dX11_massOf_32 (pc' := 33) rfl rfl (Nat.le_of_ble_eq_true rfl) (ls' := [some (.inr 120), some (.inl x1), some (.inl t6), some (.inl x3)]) rfl ?_
      exact hJ33_4 t6 x3 hT
def X11_isCovered_J65 (rec17 : Int32 → Option (Int32)) (y3 : Int32) : Option (Int32) :=
  rec17 (y3 + 1)
def X11_isCovered_B17 (σ : Wd) (x1 : Int32) (x2 : Int32) (rec17 : Int32 → Option (Int32)) : Int32 → Option (Int32)
  | (x3) => (if (σ 120 10) ≤ x3 then some 1 else (ckA x3 128 <| (if (σ 126 x3.toNatClampNeg) = x1 then X11_isCovered_J65 rec17 x3 else (if (σ 126 x3.toNatClampNeg) = x2 then X11_isCovered_J65 rec17 x3 else (if (X11_isWithin x2 (σ 126 x3.toNatClampNeg)) = 0 then X11_isCovered_J65 rec17 x3 else (if (X11_isWithin (σ 126 x3.toNatClampNeg) x1) = 0 then X11_isCovered_J65 rec17 x3 else some 0))))))
def X11_isCovered (σ : Wd) (x1 : Int32) (x2 : Int32) : Option (Int32) :=
  (if x1 = x2 then some 0 else (if (X11_isWithin x2 x1) = 0 then some 0 else (lp (X11_isCovered_B17 σ x1 x2) FU (0))))
set_option maxRecDepth 100000 in
set_option maxHeartbeats 4000000 in
theorem m_X11_isCovered {E : JE} (hE : kOk 140 E) (σ : Wd) (x1 : Int32) (x2 : Int32) {res : Int32} (hT : X11_isCovered σ x1 x2 = some res) : kMt E yX11_isCovered mX11_isCovered rmX11_isCovered [.inr 120, .inl x1, .inl x2] σ (kQz res σ) := by
  refine kMt_of (by decide +kernel) rfl (Nat.le_of_ble_eq_true rfl) ?_
  generalize hQ : (kQz res σ) = Q
  show KJ E mX11_isCovered rmX11_isCovered 0 [some (.inr 120), some (.inl x1), some (.inl x2)] [] σ Q
  unfold X11_isCovered at hT
  refine kj_iload_n dX11_isCovered_0 (pc' := 1) rfl rfl rfl ?_
  refine kj_iload_n dX11_isCovered_1 (pc' := 2) rfl rfl rfl ?_
  refine kj_icmp_eq dX11_isCovered_2 (tgt := 13) rfl (pc' := 5) rfl (fun c1 => ?_) (fun c1 => ?_)
  · rw [if_pos c1] at hT
    refine kj_iconst dX11_isCovered_13 (pc' := 14) rfl kc_0 ?_
    have hR := Option.some.inj hT
    subst hR
    exact kj_zret rfl (Or.inl rfl) dX11_isCovered_14 (by subst hQ; exact ⟨rfl, rfl, (Or.inl rfl)⟩)
  · rw [if_neg c1] at hT
    refine kj_iload_n dX11_isCovered_5 (pc' := 6) rfl rfl rfl ?_
    refine kj_iload_n dX11_isCovered_6 (pc' := 7) rfl rfl rfl ?_
    refine kcSz (as := [.inl x2, .inl x1]) (st := []) l_RX11_160 (m_X11_isWithin (Nat.zero_le _) σ x2 x1 rfl) rfl ⟨⟨rfl, rfl⟩, Nat.le_of_ble_eq_true rfl, Nat.le_of_ble_eq_true rfl⟩ (Nat.le_of_ble_eq_true rfl) dX11_isCovered_7 (pc' := 10) rfl (fun z2 => ?_)
    refine kj_if_ne dX11_isCovered_10 (tgt := 15) rfl (pc' := 13) rfl (fun c3 => ?_) (fun c3 => ?_)
    · rw [if_neg c3] at hT
      refine kj_iconst dX11_isCovered_15 (pc' := 16) rfl kc_0 ?_
      refine kj_istore_n dX11_isCovered_16 (pc' := 17) rfl rfl (Nat.le_of_ble_eq_true rfl) (ls' := [some (.inr 120), some (.inl x1), some (.inl x2), some (.inl 0)]) rfl ?_
      refine lp_ind (P := fun s => KJ E mX11_isCovered rmX11_isCovered 17 [some (.inr 120), some (.inl x1), some (.inl x2), some (.inl s)] [] σ Q) (fun rec17 s ih17 hT => ?_) FU (0) hT
      obtain ⟨x3, hs⟩ : ∃ z, z = s := ⟨_, rfl⟩
      subst hs
      show KJ E mX11_isCovered rmX11_isCovered 17 [some (.inr 120), some (.inl x1), some (.inl x2), some (.inl x3)] [] σ Q
      rw [X11_isCovered_B17] at hT
      have hJ65_17 : ∀ y3, X11_isCovered_J65 rec17 y3 = some res → KJ E mX11_isCovered rmX11_isCovered 65 [some (.inr 120), some (.inl x1), some (.inl x2), some (.inl y3)] [] σ Q := by
        intro y3 hT
        unfold X11_isCovered_J65 at hT
        refine kj_iinc dX11_isCovered_65 (pc' := 68) rfl rfl (congrArg (_ + ·) kc_1) (Nat.le_of_ble_eq_true rfl) (ls' := [some (.inr 120), some (.inl x1), some (.inl x2), some (.inl (y3 + 1))]) rfl ?_
        refine kj_goto dX11_isCovered_68 (pc' := 17) rfl ?_
        exact ih17 (y3 + 1) hT
      refine kj_iload_n dX11_isCovered_17 (pc' := 18) rfl rfl rfl ?_
      refine kj_aload_n dX11_isCovered_18 (pc' := 19) rfl rfl rfl ?_
      refine kj_getI f_RX11_141 rfl (Nat.lt_of_lt_of_le (Nat.le_of_ble_eq_true rfl : 120 < 140) hE.1) dX11_isCovered_19 (pc' := 22) rfl ?_
      refine kj_icmp_ge dX11_isCovered_22 (tgt := 71) rfl (pc' := 25) rfl (fun c5 => ?_) (fun c5 => ?_)
      · rw [if_pos c5] at hT
        refine kj_iconst dX11_isCovered_71 (pc' := 72) rfl kc_1 ?_
        have hR := Option.some.inj hT
        subst hR
        exact kj_zret rfl (Or.inr rfl) dX11_isCovered_72 (by subst hQ; exact ⟨rfl, rfl, (Or.inr rfl)⟩)
      · rw [if_neg c5] at hT
        refine kj_aload_n dX11_isCovered_25 (pc' := 26) rfl rfl rfl ?_
        refine kj_getR f_RX11_30 rfl (Nat.lt_of_lt_of_le (Nat.le_of_ble_eq_true rfl : 120 < 140) hE.1) (hE.2 _ _) (q := 126) rfl dX11_isCovered_26 (pc' := 29) rfl ?_
        refine kj_iload_n dX11_isCovered_29 (pc' := 30) rfl rfl rfl ?_
        obtain ⟨hi6, hT⟩ := ckA_some hT
        refine kj_iald rfl (Nat.lt_of_lt_of_le (Nat.le_of_ble_eq_true rfl : 126 < 140) hE.1) hi6 rfl dX11_isCovered_30 (pc' := 31) rfl ?_
        refine kj_istore dX11_isCovered_31 (pc' := 33) rfl (Nat.le_of_ble_eq_true rfl) (ls' := [some (.inr 120), some (.inl x1), some (.inl x2), some (.inl x3), some (.inl (σ 126 x3.toNatClampNeg))]) rfl ?_
        refine kj_iload dX11_isCovered_33 (pc' := 35) rfl rfl ?_
        refine kj_iload_n dX11_isCovered_35 (pc' := 36) rfl rfl rfl ?_
        refine kj_icmp_eq dX11_isCovered_36 (tgt := 65) rfl (pc' := 39) rfl (fun c7 => ?_) (fun c7 => ?_)
        · rw [if_pos c7] at hT
          refine kj_keep [true, true, true, true] (ls' := [some (.inr 120), some (.inl x1), some (.inl x2), some (.inl x3)]) rfl ?_
          exact hJ65_17 x3 hT
        · rw [if_neg c7] at hT
          refine kj_iload dX11_isCovered_39 (pc' := 41) rfl rfl ?_
          refine kj_iload_n dX11_isCovered_41 (pc' := 42) rfl rfl rfl ?_
          refine kj_icmp_eq dX11_isCovered_42 (tgt := 65) rfl (pc' := 45) rfl (fun c8 => ?_) (fun c8 => ?_)
          · rw [if_pos c8] at hT
            refine kj_keep [true, true, true, true] (ls' := [some (.inr 120), some (.inl x1), some (.inl x2), some (.inl x3)]) rfl ?_
            exact hJ65_17 x3 hT
          · rw [if_neg c8] at hT
            refine kj_iload_n dX11_isCovered_45 (pc' := 46) rfl rfl rfl ?_
            refine kj_iload dX11_isCovered_46 (pc' := 48) rfl rfl ?_
            refine kcSz (as := [.inl x2, .inl (σ 126 x3.toNatClampNeg)]) (st := []) l_RX11_160 (m_X11_isWithin (Nat.zero_le _) σ x2 (σ 126 x3.toNatClampNeg) rfl) rfl ⟨⟨rfl, rfl⟩, Nat.le_of_ble_eq_true rfl, Nat.le_of_ble_eq_true rfl⟩ (Nat.le_of_ble_eq_true rfl) dX11_isCovered_48 (pc' := 51) rfl (fun z9 => ?_)
            refine kj_if_eq dX11_isCovered_51 (tgt := 65) rfl (pc' := 54) rfl (fun c10 => ?_) (fun c10 => ?_)
            · rw [if_pos c10] at hT
              refine kj_keep [true, true, true, true] (ls' := [some (.inr 120), some (.inl x1), some (.inl x2), some (.inl x3)]) rfl ?_
              exact hJ65_17 x3 hT
            · rw [if_neg c10] at hT
              refine kj_iload dX11_isCovered_54 (pc' := 56) rfl rfl ?_
              refine kj_iload_n dX11_isCovered_56 (pc' := 57) rfl rfl rfl ?_
              refine kcSz (as := [.inl (σ 126 x3.toNatClampNeg), .inl x1]) (st := []) l_RX11_160 (m_X11_isWithin (Nat.zero_le _) σ (σ 126 x3.toNatClampNeg) x1 rfl) rfl ⟨⟨rfl, rfl⟩, Nat.le_of_ble_eq_true rfl, Nat.le_of_ble_eq_true rfl⟩ (Nat.le_of_ble_eq_true rfl) dX11_isCovered_57 (pc' := 60) rfl (fun z11 => ?_)
              refine kj_if_eq dX11_isCovered_60 (tgt := 65) rfl (pc' := 63) rfl (fun c12 => ?_) (fun c12 => ?_)
              · rw [if_pos c12] at hT
                refine kj_keep [true, true, true, true] (ls' := [some (.inr 120), some (.inl x1), some (.inl x2), some (.inl x3)]) rfl ?_
                exact hJ65_17 x3 hT
              · rw [if_neg c12] at hT
                refine kj_iconst dX11_isCovered_63 (pc' := 64) rfl kc_0 ?_
                have hR := Option.some.inj hT
                subst hR
                exact kj_zret rfl (Or.inl rfl) dX11_isCovered_64 (by subst hQ; exact ⟨rfl, rfl, (Or.inl rfl)⟩)
    · rw [if_pos c3] at hT
      refine kj_iconst dX11_isCovered_13 (pc' := 14) rfl kc_0 ?_
      have hR := Option.some.inj hT
      subst hR
      exact kj_zret rfl (Or.inl rfl) dX11_isCovered_14 (by subst hQ; exact ⟨rfl, rfl, (Or.inl rfl)⟩)
def X11_degreeOf_J54 (rec5 : Int32 × Int32 → Option (Int32)) (y3 : Int32) (y4 : Int32) : Option (Int32) :=
  rec5 (y3, y4 + 1)
def X11_degreeOf_J51 (rec5 : Int32 × Int32 → Option (Int32)) (y3 : Int32) (y4 : Int32) : Option (Int32) :=
  X11_degreeOf_J54 rec5 (y3 + 1) y4
def X11_degreeOf_B5 (σ : Wd) (x2 : Int32) (x1 : Int32) (rec5 : Int32 × Int32 → Option (Int32)) : Int32 × Int32 → Option (Int32)
  | (x3, x4) => (if (σ 120 10) ≤ x4 then some x3 else (if x2 = 0 then (ckA x4 128 <| ((X11_isCovered σ x1 (σ 126 x4.toNatClampNeg)).bind fun t5 => (if t5 = 0 then X11_degreeOf_J54 rec5 x3 x4 else X11_degreeOf_J51 rec5 x3 x4))) else (ckA x4 128 <| ((X11_isCovered σ (σ 126 x4.toNatClampNeg) x1).bind fun t9 => (if t9 = 0 then X11_degreeOf_J54 rec5 x3 x4 else X11_degreeOf_J51 rec5 x3 x4)))))
def X11_degreeOf (σ : Wd) (x1 : Int32) (x2 : Int32) : Option (Int32) :=
  (lp (X11_degreeOf_B5 σ x2 x1) FU (0, 0))
set_option maxRecDepth 100000 in
set_option maxHeartbeats 4000000 in
theorem m_X11_degreeOf {E : JE} (hE : kOk 140 E) (σ : Wd) (x1 : Int32) (x2 : Int32) {res : Int32} (hT : X11_degreeOf σ x1 x2 = some res) : kMt E yX11_degreeOf mX11_degreeOf rmX11_degreeOf [.inr 120, .inl x1, .inl x2] σ (kQi res σ) := by
  refine kMt_of (by decide +kernel) rfl (Nat.le_of_ble_eq_true rfl) ?_
  generalize hQ : (kQi res σ) = Q
  show KJ E mX11_degreeOf rmX11_degreeOf 0 [some (.inr 120), some (.inl x1), some (.inl x2)] [] σ Q
  unfold X11_degreeOf at hT
  refine kj_iconst dX11_degreeOf_0 (pc' := 1) rfl kc_0 ?_
  refine kj_istore_n dX11_degreeOf_1 (pc' := 2) rfl rfl (Nat.le_of_ble_eq_true rfl) (ls' := [some (.inr 120), some (.inl x1), some (.inl x2), some (.inl 0)]) rfl ?_
  refine kj_iconst dX11_degreeOf_2 (pc' := 3) rfl kc_0 ?_
  refine kj_istore dX11_degreeOf_3 (pc' := 5) rfl (Nat.le_of_ble_eq_true rfl) (ls' := [some (.inr 120), some (.inl x1), some (.inl x2), some (.inl 0), some (.inl 0)]) rfl ?_
  refine lp_ind (P := fun s => KJ E mX11_degreeOf rmX11_degreeOf 5 [some (.inr 120), some (.inl x1), some (.inl x2), some (.inl s.1), some (.inl s.2)] [] σ Q) (fun rec5 s ih5 hT => ?_) FU (0, 0) hT
  obtain ⟨x3, x4⟩ := s
  show KJ E mX11_degreeOf rmX11_degreeOf 5 [some (.inr 120), some (.inl x1), some (.inl x2), some (.inl x3), some (.inl x4)] [] σ Q
  rw [X11_degreeOf_B5] at hT
  have hJ54_5 : ∀ y3 y4, X11_degreeOf_J54 rec5 y3 y4 = some res → KJ E mX11_degreeOf rmX11_degreeOf 54 [some (.inr 120), some (.inl x1), some (.inl x2), some (.inl y3), some (.inl y4)] [] σ Q := by
    intro y3 y4 hT
    unfold X11_degreeOf_J54 at hT
    refine kj_iinc dX11_degreeOf_54 (pc' := 57) rfl rfl (congrArg (_ + ·) kc_1) (Nat.le_of_ble_eq_true rfl) (ls' := [some (.inr 120), some (.inl x1), some (.inl x2), some (.inl y3), some (.inl (y4 + 1))]) rfl ?_
    refine kj_goto dX11_degreeOf_57 (pc' := 5) rfl ?_
    exact ih5 (y3, y4 + 1) hT
  have hJ51_5 : ∀ y3 y4, X11_degreeOf_J51 rec5 y3 y4 = some res → KJ E mX11_degreeOf rmX11_degreeOf 51 [some (.inr 120), some (.inl x1), some (.inl x2), some (.inl y3), some (.inl y4)] [] σ Q := by
    intro y3 y4 hT
    unfold X11_degreeOf_J51 at hT
    refine kj_iinc dX11_degreeOf_51 (pc' := 54) rfl rfl (congrArg (_ + ·) kc_1) (Nat.le_of_ble_eq_true rfl) (ls' := [some (.inr 120), some (.inl x1), some (.inl x2), some (.inl (y3 + 1)), some (.inl y4)]) rfl ?_
    exact hJ54_5 (y3 + 1) y4 hT
  refine kj_iload dX11_degreeOf_5 (pc' := 7) rfl rfl ?_
  refine kj_aload_n dX11_degreeOf_7 (pc' := 8) rfl rfl rfl ?_
  refine kj_getI f_RX11_141 rfl (Nat.lt_of_lt_of_le (Nat.le_of_ble_eq_true rfl : 120 < 140) hE.1) dX11_degreeOf_8 (pc' := 11) rfl ?_
  refine kj_icmp_ge dX11_degreeOf_11 (tgt := 60) rfl (pc' := 14) rfl (fun c2 => ?_) (fun c2 => ?_)
  · rw [if_pos c2] at hT
    refine kj_iload_n dX11_degreeOf_60 (pc' := 61) rfl rfl rfl ?_
    have hR := Option.some.inj hT
    subst hR
    exact kj_iret rfl dX11_degreeOf_61 (by subst hQ; exact ⟨rfl, rfl⟩)
  · rw [if_neg c2] at hT
    refine kj_iload_n dX11_degreeOf_14 (pc' := 15) rfl rfl rfl ?_
    refine kj_if_eq dX11_degreeOf_15 (tgt := 36) rfl (pc' := 18) rfl (fun c3 => ?_) (fun c3 => ?_)
    · rw [if_pos c3] at hT
      refine kj_aload_n dX11_degreeOf_36 (pc' := 37) rfl rfl rfl ?_
      refine kj_iload_n dX11_degreeOf_37 (pc' := 38) rfl rfl rfl ?_
      refine kj_aload_n dX11_degreeOf_38 (pc' := 39) rfl rfl rfl ?_
      refine kj_getR f_RX11_30 rfl (Nat.lt_of_lt_of_le (Nat.le_of_ble_eq_true rfl : 120 < 140) hE.1) (hE.2 _ _) (q := 126) rfl dX11_degreeOf_39 (pc' := 42) rfl ?_
      refine kj_iload dX11_degreeOf_42 (pc' := 44) rfl rfl ?_
      obtain ⟨hi4, hT⟩ := ckA_some hT
      refine kj_iald rfl (Nat.lt_of_lt_of_le (Nat.le_of_ble_eq_true rfl : 126 < 140) hE.1) hi4 rfl dX11_degreeOf_44 (pc' := 45) rfl ?_
      obtain ⟨t5, ht5, hT⟩ := bind_some' hT
      refine kcVz (as := [.inl x1, .inl (σ 126 x4.toNatClampNeg)]) (st := []) l_RX11_175 (m_X11_isCovered hE σ x1 (σ 126 x4.toNatClampNeg) ht5) rfl (Nat.lt_of_lt_of_le (Nat.le_of_ble_eq_true rfl : 120 < 140) hE.1) rfl ⟨⟨rfl, rfl⟩, Nat.le_of_ble_eq_true rfl, Nat.le_of_ble_eq_true rfl⟩ (Nat.le_of_ble_eq_true rfl) dX11_degreeOf_45 (pc' := 48) rfl (fun z6 => ?_)
      refine kj_if_eq dX11_degreeOf_48 (tgt := 54) rfl (pc' := 51) rfl (fun c7 => ?_) (fun c7 => ?_)
      · rw [if_pos c7] at hT
        exact hJ54_5 x3 x4 hT
      · rw [if_neg c7] at hT
        exact hJ51_5 x3 x4 hT
    · rw [if_neg c3] at hT
      refine kj_aload_n dX11_degreeOf_18 (pc' := 19) rfl rfl rfl ?_
      refine kj_aload_n dX11_degreeOf_19 (pc' := 20) rfl rfl rfl ?_
      refine kj_getR f_RX11_30 rfl (Nat.lt_of_lt_of_le (Nat.le_of_ble_eq_true rfl : 120 < 140) hE.1) (hE.2 _ _) (q := 126) rfl dX11_degreeOf_20 (pc' := 23) rfl ?_
      refine kj_iload dX11_degreeOf_23 (pc' := 25) rfl rfl ?_
      obtain ⟨hi8, hT⟩ := ckA_some hT
      refine kj_iald rfl (Nat.lt_of_lt_of_le (Nat.le_of_ble_eq_true rfl : 126 < 140) hE.1) hi8 rfl dX11_degreeOf_25 (pc' := 26) rfl ?_
      refine kj_iload_n dX11_degreeOf_26 (pc' := 27) rfl rfl rfl ?_
      obtain ⟨t9, ht9, hT⟩ := bind_some' hT
      refine kcVz (as := [.inl (σ 126 x4.toNatClampNeg), .inl x1]) (st := []) l_RX11_175 (m_X11_isCovered hE σ (σ 126 x4.toNatClampNeg) x1 ht9) rfl (Nat.lt_of_lt_of_le (Nat.le_of_ble_eq_true rfl : 120 < 140) hE.1) rfl ⟨⟨rfl, rfl⟩, Nat.le_of_ble_eq_true rfl, Nat.le_of_ble_eq_true rfl⟩ (Nat.le_of_ble_eq_true rfl) dX11_degreeOf_27 (pc' := 30) rfl (fun z10 => ?_)
      refine kj_if_eq dX11_degreeOf_30 (tgt := 54) rfl (pc' := 33) rfl (fun c11 => ?_) (fun c11 => ?_)
      · rw [if_pos c11] at hT
        exact hJ54_5 x3 x4 hT
      · rw [if_neg c11] at hT
        refine kj_goto dX11_degreeOf_33 (pc' := 51) rfl ?_
        exact hJ51_5 x3 x4 hT
def X11_generator (σ : Wd) (x1 : Int32) (x2 : Int32) : Option (Int32 × Wd) :=
  (if (X11_isGenerator σ x1) = 0 then some ((-1), σ) else (if (X11_in x2 0 2) = 0 then some ((-1), σ) else ((X11_gen σ x1).bind fun t5 => ((X11_lays σ).bind fun σ6 => (if x2 = 0 then some (t5, σ6) else (if x2 = 1 then ((X11_isBased σ6 t5).bind fun t10 => (if t10 = 0 then some (1, σ6) else some (0, σ6))) else (ckA t5 128 <| some (σ6 127 t5.toNatClampNeg, σ6))))))))
set_option maxRecDepth 100000 in
set_option maxHeartbeats 4000000 in
theorem m_X11_generator {E : JE} (hE : kOk 140 E) (σ : Wd) (x1 : Int32) (x2 : Int32) {res : Int32 × Wd} (hT : X11_generator σ x1 x2 = some res) : kMt E yX11_generator mX11_generator rmX11_generator [.inr 120, .inl x1, .inl x2] σ (kQi res.1 res.2) := by
  refine kMt_of (by decide +kernel) rfl (Nat.le_of_ble_eq_true rfl) ?_
  generalize hQ : (kQi res.1 res.2) = Q
  show KJ E mX11_generator rmX11_generator 0 [some (.inr 120), some (.inl x1), some (.inl x2)] [] σ Q
  unfold X11_generator at hT
  refine kj_aload_n dX11_generator_0 (pc' := 1) rfl rfl rfl ?_
  refine kj_iload_n dX11_generator_1 (pc' := 2) rfl rfl rfl ?_
  refine kcVz (as := [.inl x1]) (st := []) l_RX11_105 (m_X11_isGenerator hE σ x1 rfl) rfl (Nat.lt_of_lt_of_le (Nat.le_of_ble_eq_true rfl : 120 < 140) hE.1) rfl ⟨⟨rfl, rfl⟩, Nat.le_of_ble_eq_true rfl, Nat.le_of_ble_eq_true rfl⟩ (Nat.le_of_ble_eq_true rfl) dX11_generator_2 (pc' := 5) rfl (fun z1 => ?_)
  refine kj_if_eq dX11_generator_5 (tgt := 17) rfl (pc' := 8) rfl (fun c2 => ?_) (fun c2 => ?_)
  · rw [if_pos c2] at hT
    refine kj_iconst dX11_generator_17 (pc' := 18) rfl kc_m1 ?_
    have hR := Option.some.inj hT
    subst hR
    exact kj_iret rfl dX11_generator_18 (by subst hQ; exact ⟨rfl, rfl⟩)
  · rw [if_neg c2] at hT
    refine kj_iload_n dX11_generator_8 (pc' := 9) rfl rfl rfl ?_
    refine kj_iconst dX11_generator_9 (pc' := 10) rfl kc_0 ?_
    refine kj_iconst dX11_generator_10 (pc' := 11) rfl kc_2 ?_
    refine kcSz (as := [.inl x2, .inl 0, .inl 2]) (st := []) l_RX11_84 (m_X11_in (Nat.zero_le _) σ x2 0 2 rfl) rfl ⟨⟨rfl, rfl⟩, Nat.le_of_ble_eq_true rfl, Nat.le_of_ble_eq_true rfl⟩ (Nat.le_of_ble_eq_true rfl) dX11_generator_11 (pc' := 14) rfl (fun z3 => ?_)
    refine kj_if_ne dX11_generator_14 (tgt := 19) rfl (pc' := 17) rfl (fun c4 => ?_) (fun c4 => ?_)
    · rw [if_neg c4] at hT
      refine kj_aload_n dX11_generator_19 (pc' := 20) rfl rfl rfl ?_
      refine kj_iload_n dX11_generator_20 (pc' := 21) rfl rfl rfl ?_
      obtain ⟨t5, ht5, hT⟩ := bind_some' hT
      refine kcVi (as := [.inl x1]) (st := []) l_RX11_112 (m_X11_gen hE σ x1 ht5) rfl (Nat.lt_of_lt_of_le (Nat.le_of_ble_eq_true rfl : 120 < 140) hE.1) rfl ⟨⟨rfl, rfl⟩, Nat.le_of_ble_eq_true rfl, Nat.le_of_ble_eq_true rfl⟩ (Nat.le_of_ble_eq_true rfl) dX11_generator_21 (pc' := 24) rfl ?_
      refine kj_istore_n dX11_generator_24 (pc' := 25) rfl rfl (Nat.le_of_ble_eq_true rfl) (ls' := [some (.inr 120), some (.inl x1), some (.inl x2), some (.inl t5)]) rfl ?_
      refine kj_aload_n dX11_generator_25 (pc' := 26) rfl rfl rfl ?_
      obtain ⟨σ6, hσ6, hT⟩ := bind_some' hT
      refine kcVv (as := []) (st := []) l_RX11_135 (m_X11_lays hE σ hσ6) rfl (Nat.lt_of_lt_of_le (Nat.le_of_ble_eq_true rfl : 120 < 140) hE.1) rfl ⟨⟨rfl, rfl⟩, Nat.le_of_ble_eq_true rfl, Nat.le_of_ble_eq_true rfl⟩ (Nat.le_of_ble_eq_true rfl) dX11_generator_26 (pc' := 29) rfl ?_
      refine kj_iload_n dX11_generator_29 (pc' := 30) rfl rfl rfl ?_
      refine kj_if_ne dX11_generator_30 (tgt := 37) rfl (pc' := 33) rfl (fun c7 => ?_) (fun c7 => ?_)
      · rw [if_neg c7] at hT
        refine kj_iload_n dX11_generator_37 (pc' := 38) rfl rfl rfl ?_
        refine kj_iconst dX11_generator_38 (pc' := 39) rfl kc_1 ?_
        refine kj_icmp_ne dX11_generator_39 (tgt := 58) rfl (pc' := 42) rfl (fun c8 => ?_) (fun c8 => ?_)
        · rw [if_neg c8] at hT
          refine kj_aload_n dX11_generator_58 (pc' := 59) rfl rfl rfl ?_
          refine kj_getR f_RX11_33 rfl (Nat.lt_of_lt_of_le (Nat.le_of_ble_eq_true rfl : 120 < 140) hE.1) (hE.2 _ _) (q := 127) rfl dX11_generator_59 (pc' := 62) rfl ?_
          refine kj_iload_n dX11_generator_62 (pc' := 63) rfl rfl rfl ?_
          obtain ⟨hi9, hT⟩ := ckA_some hT
          refine kj_iald rfl (Nat.lt_of_lt_of_le (Nat.le_of_ble_eq_true rfl : 127 < 140) hE.1) hi9 rfl dX11_generator_63 (pc' := 64) rfl ?_
          have hR := Option.some.inj hT
          subst hR
          exact kj_iret rfl dX11_generator_64 (by subst hQ; exact ⟨rfl, rfl⟩)
        · rw [if_pos c8] at hT
          refine kj_aload_n dX11_generator_42 (pc' := 43) rfl rfl rfl ?_
          refine kj_iload_n dX11_generator_43 (pc' := 44) rfl rfl rfl ?_
          obtain ⟨t10, ht10, hT⟩ := bind_some' hT
          refine kcVz (as := [.inl t5]) (st := []) l_RX11_138 (m_X11_isBased hE σ6 t5 ht10) rfl (Nat.lt_of_lt_of_le (Nat.le_of_ble_eq_true rfl : 120 < 140) hE.1) rfl ⟨⟨rfl, rfl⟩, Nat.le_of_ble_eq_true rfl, Nat.le_of_ble_eq_true rfl⟩ (Nat.le_of_ble_eq_true rfl) dX11_generator_44 (pc' := 47) rfl (fun z11 => ?_)
          refine kj_if_eq dX11_generator_47 (tgt := 54) rfl (pc' := 50) rfl (fun c12 => ?_) (fun c12 => ?_)
          · rw [if_pos c12] at hT
            refine kj_iconst dX11_generator_54 (pc' := 55) rfl kc_1 ?_
            refine kj_goto dX11_generator_55 (pc' := 64) rfl ?_
            have hR := Option.some.inj hT
            subst hR
            exact kj_iret rfl dX11_generator_64 (by subst hQ; exact ⟨rfl, rfl⟩)
          · rw [if_neg c12] at hT
            refine kj_iconst dX11_generator_50 (pc' := 51) rfl kc_0 ?_
            refine kj_goto dX11_generator_51 (pc' := 64) rfl ?_
            have hR := Option.some.inj hT
            subst hR
            exact kj_iret rfl dX11_generator_64 (by subst hQ; exact ⟨rfl, rfl⟩)
      · rw [if_pos c7] at hT
        refine kj_iload_n dX11_generator_33 (pc' := 34) rfl rfl rfl ?_
        refine kj_goto dX11_generator_34 (pc' := 64) rfl ?_
        have hR := Option.some.inj hT
        subst hR
        exact kj_iret rfl dX11_generator_64 (by subst hQ; exact ⟨rfl, rfl⟩)
    · rw [if_pos c4] at hT
      refine kj_iconst dX11_generator_17 (pc' := 18) rfl kc_m1 ?_
      have hR := Option.some.inj hT
      subst hR
      exact kj_iret rfl dX11_generator_18 (by subst hQ; exact ⟨rfl, rfl⟩)
def X11_member (σ : Wd) (x1 : Int32) : Option (Int32 × Wd) :=
  ((X11_lays σ).bind fun σ1 => (if (X11_isMember σ1 x1) = 0 then some ((-1), σ1) else (ckA x1 128 <| some (σ1 126 x1.toNatClampNeg, σ1))))
set_option maxRecDepth 100000 in
set_option maxHeartbeats 4000000 in
theorem m_X11_member {E : JE} (hE : kOk 140 E) (σ : Wd) (x1 : Int32) {res : Int32 × Wd} (hT : X11_member σ x1 = some res) : kMt E yX11_member mX11_member rmX11_member [.inr 120, .inl x1] σ (kQi res.1 res.2) := by
  refine kMt_of (by decide +kernel) rfl (Nat.le_of_ble_eq_true rfl) ?_
  generalize hQ : (kQi res.1 res.2) = Q
  show KJ E mX11_member rmX11_member 0 [some (.inr 120), some (.inl x1)] [] σ Q
  unfold X11_member at hT
  refine kj_aload_n dX11_member_0 (pc' := 1) rfl rfl rfl ?_
  obtain ⟨σ1, hσ1, hT⟩ := bind_some' hT
  refine kcVv (as := []) (st := []) l_RX11_135 (m_X11_lays hE σ hσ1) rfl (Nat.lt_of_lt_of_le (Nat.le_of_ble_eq_true rfl : 120 < 140) hE.1) rfl ⟨⟨rfl, rfl⟩, Nat.le_of_ble_eq_true rfl, Nat.le_of_ble_eq_true rfl⟩ (Nat.le_of_ble_eq_true rfl) dX11_member_1 (pc' := 4) rfl ?_
  refine kj_aload_n dX11_member_4 (pc' := 5) rfl rfl rfl ?_
  refine kj_iload_n dX11_member_5 (pc' := 6) rfl rfl rfl ?_
  refine kcVz (as := [.inl x1]) (st := []) l_RX11_178 (m_X11_isMember hE σ1 x1 rfl) rfl (Nat.lt_of_lt_of_le (Nat.le_of_ble_eq_true rfl : 120 < 140) hE.1) rfl ⟨⟨rfl, rfl⟩, Nat.le_of_ble_eq_true rfl, Nat.le_of_ble_eq_true rfl⟩ (Nat.le_of_ble_eq_true rfl) dX11_member_6 (pc' := 9) rfl (fun z2 => ?_)
  refine kj_if_eq dX11_member_9 (tgt := 21) rfl (pc' := 12) rfl (fun c3 => ?_) (fun c3 => ?_)
  · rw [if_pos c3] at hT
    refine kj_iconst dX11_member_21 (pc' := 22) rfl kc_m1 ?_
    have hR := Option.some.inj hT
    subst hR
    exact kj_iret rfl dX11_member_22 (by subst hQ; exact ⟨rfl, rfl⟩)
  · rw [if_neg c3] at hT
    refine kj_aload_n dX11_member_12 (pc' := 13) rfl rfl rfl ?_
    refine kj_getR f_RX11_30 rfl (Nat.lt_of_lt_of_le (Nat.le_of_ble_eq_true rfl : 120 < 140) hE.1) (hE.2 _ _) (q := 126) rfl dX11_member_13 (pc' := 16) rfl ?_
    refine kj_iload_n dX11_member_16 (pc' := 17) rfl rfl rfl ?_
    obtain ⟨hi4, hT⟩ := ckA_some hT
    refine kj_iald rfl (Nat.lt_of_lt_of_le (Nat.le_of_ble_eq_true rfl : 126 < 140) hE.1) hi4 rfl dX11_member_17 (pc' := 18) rfl ?_
    refine kj_goto dX11_member_18 (pc' := 22) rfl ?_
    have hR := Option.some.inj hT
    subst hR
    exact kj_iret rfl dX11_member_22 (by subst hQ; exact ⟨rfl, rfl⟩)
def X11_place (σ : Wd) (x1 : Int32) : Option (Int32 × Wd) :=
  (if (X11_isSet σ x1) = 0 then some ((-1), σ) else ((X11_lays σ).bind fun σ3 => (ckA x1 128 <| (if (σ3 125 x1.toNatClampNeg) = 0 then some ((-2), σ3) else (ckA x1 128 <| some (σ3 127 x1.toNatClampNeg, σ3))))))
set_option maxRecDepth 100000 in
set_option maxHeartbeats 4000000 in
theorem m_X11_place {E : JE} (hE : kOk 140 E) (σ : Wd) (x1 : Int32) {res : Int32 × Wd} (hT : X11_place σ x1 = some res) : kMt E yX11_place mX11_place rmX11_place [.inr 120, .inl x1] σ (kQi res.1 res.2) := by
  refine kMt_of (by decide +kernel) rfl (Nat.le_of_ble_eq_true rfl) ?_
  generalize hQ : (kQi res.1 res.2) = Q
  show KJ E mX11_place rmX11_place 0 [some (.inr 120), some (.inl x1)] [] σ Q
  unfold X11_place at hT
  refine kj_aload_n dX11_place_0 (pc' := 1) rfl rfl rfl ?_
  refine kj_iload_n dX11_place_1 (pc' := 2) rfl rfl rfl ?_
  refine kcVz (as := [.inl x1]) (st := []) l_RX11_95 (m_X11_isSet hE σ x1 rfl) rfl (Nat.lt_of_lt_of_le (Nat.le_of_ble_eq_true rfl : 120 < 140) hE.1) rfl ⟨⟨rfl, rfl⟩, Nat.le_of_ble_eq_true rfl, Nat.le_of_ble_eq_true rfl⟩ (Nat.le_of_ble_eq_true rfl) dX11_place_2 (pc' := 5) rfl (fun z1 => ?_)
  refine kj_if_ne dX11_place_5 (tgt := 10) rfl (pc' := 8) rfl (fun c2 => ?_) (fun c2 => ?_)
  · rw [if_neg c2] at hT
    refine kj_aload_n dX11_place_10 (pc' := 11) rfl rfl rfl ?_
    obtain ⟨σ3, hσ3, hT⟩ := bind_some' hT
    refine kcVv (as := []) (st := []) l_RX11_135 (m_X11_lays hE σ hσ3) rfl (Nat.lt_of_lt_of_le (Nat.le_of_ble_eq_true rfl : 120 < 140) hE.1) rfl ⟨⟨rfl, rfl⟩, Nat.le_of_ble_eq_true rfl, Nat.le_of_ble_eq_true rfl⟩ (Nat.le_of_ble_eq_true rfl) dX11_place_11 (pc' := 14) rfl ?_
    refine kj_aload_n dX11_place_14 (pc' := 15) rfl rfl rfl ?_
    refine kj_getR f_RX11_26 rfl (Nat.lt_of_lt_of_le (Nat.le_of_ble_eq_true rfl : 120 < 140) hE.1) (hE.2 _ _) (q := 125) rfl dX11_place_15 (pc' := 18) rfl ?_
    refine kj_iload_n dX11_place_18 (pc' := 19) rfl rfl rfl ?_
    obtain ⟨hi4, hT⟩ := ckA_some hT
    refine kj_zald rfl (Nat.lt_of_lt_of_le (Nat.le_of_ble_eq_true rfl : 125 < 140) hE.1) hi4 rfl dX11_place_19 (pc' := 20) rfl ?_
    refine kj_if_eq dX11_place_20 (tgt := 32) rfl (pc' := 23) rfl (fun c5 => ?_) (fun c5 => ?_)
    · rw [if_pos c5] at hT
      refine kj_bipush dX11_place_32 (pc' := 34) rfl kb_m2 ?_
      have hR := Option.some.inj hT
      subst hR
      exact kj_iret rfl dX11_place_34 (by subst hQ; exact ⟨rfl, rfl⟩)
    · rw [if_neg c5] at hT
      refine kj_aload_n dX11_place_23 (pc' := 24) rfl rfl rfl ?_
      refine kj_getR f_RX11_33 rfl (Nat.lt_of_lt_of_le (Nat.le_of_ble_eq_true rfl : 120 < 140) hE.1) (hE.2 _ _) (q := 127) rfl dX11_place_24 (pc' := 27) rfl ?_
      refine kj_iload_n dX11_place_27 (pc' := 28) rfl rfl rfl ?_
      obtain ⟨hi6, hT⟩ := ckA_some hT
      refine kj_iald rfl (Nat.lt_of_lt_of_le (Nat.le_of_ble_eq_true rfl : 127 < 140) hE.1) hi6 rfl dX11_place_28 (pc' := 29) rfl ?_
      refine kj_goto dX11_place_29 (pc' := 34) rfl ?_
      have hR := Option.some.inj hT
      subst hR
      exact kj_iret rfl dX11_place_34 (by subst hQ; exact ⟨rfl, rfl⟩)
  · rw [if_pos c2] at hT
    refine kj_iconst dX11_place_8 (pc' := 9) rfl kc_m1 ?_
    have hR := Option.some.inj hT
    subst hR
    exact kj_iret rfl dX11_place_9 (by subst hQ; exact ⟨rfl, rfl⟩)
def X11_based_J50 (rec8 : Int32 × Int32 → Option (Int32 × Wd)) (y2 : Int32) (y3 : Int32) : Option (Int32 × Wd) :=
  rec8 (y2, y3 + 1)
def X11_based_B8 (σ1 : Wd) (rec8 : Int32 × Int32 → Option (Int32 × Wd)) : Int32 × Int32 → Option (Int32 × Wd)
  | (x2, x3) => (if (σ1 120 10) ≤ x3 then some ((-1), σ1) else (if x2 < 0 then some ((-1), σ1) else (ckA x3 128 <| ((X11_isBased σ1 (σ1 126 x3.toNatClampNeg)).bind fun t5 => (if t5 = 0 then X11_based_J50 rec8 x2 x3 else (if x2 = 0 then (ckA x3 128 <| some (σ1 126 x3.toNatClampNeg, σ1)) else X11_based_J50 rec8 (x2 + (-1)) x3))))))
def X11_based (σ : Wd) (x1 : Int32) : Option (Int32 × Wd) :=
  ((X11_lays σ).bind fun σ1 => (lp (X11_based_B8 σ1) FU (x1, 0)))
set_option maxRecDepth 100000 in
set_option maxHeartbeats 4000000 in
theorem m_X11_based {E : JE} (hE : kOk 140 E) (σ : Wd) (x1 : Int32) {res : Int32 × Wd} (hT : X11_based σ x1 = some res) : kMt E yX11_based mX11_based rmX11_based [.inr 120, .inl x1] σ (kQi res.1 res.2) := by
  refine kMt_of (by decide +kernel) rfl (Nat.le_of_ble_eq_true rfl) ?_
  generalize hQ : (kQi res.1 res.2) = Q
  show KJ E mX11_based rmX11_based 0 [some (.inr 120), some (.inl x1)] [] σ Q
  unfold X11_based at hT
  refine kj_aload_n dX11_based_0 (pc' := 1) rfl rfl rfl ?_
  obtain ⟨σ1, hσ1, hT⟩ := bind_some' hT
  refine kcVv (as := []) (st := []) l_RX11_135 (m_X11_lays hE σ hσ1) rfl (Nat.lt_of_lt_of_le (Nat.le_of_ble_eq_true rfl : 120 < 140) hE.1) rfl ⟨⟨rfl, rfl⟩, Nat.le_of_ble_eq_true rfl, Nat.le_of_ble_eq_true rfl⟩ (Nat.le_of_ble_eq_true rfl) dX11_based_1 (pc' := 4) rfl ?_
  refine kj_iload_n dX11_based_4 (pc' := 5) rfl rfl rfl ?_
  refine kj_istore_n dX11_based_5 (pc' := 6) rfl rfl (Nat.le_of_ble_eq_true rfl) (ls' := [some (.inr 120), some (.inl x1), some (.inl x1)]) rfl ?_
  refine kj_iconst dX11_based_6 (pc' := 7) rfl kc_0 ?_
  refine kj_istore_n dX11_based_7 (pc' := 8) rfl rfl (Nat.le_of_ble_eq_true rfl) (ls' := [some (.inr 120), some (.inl x1), some (.inl x1), some (.inl 0)]) rfl ?_
  refine kj_keep [true, false, true, true] (ls' := [some (.inr 120), none, some (.inl x1), some (.inl 0)]) rfl ?_
  refine lp_ind (P := fun s => KJ E mX11_based rmX11_based 8 [some (.inr 120), none, some (.inl s.1), some (.inl s.2)] [] σ1 Q) (fun rec8 s ih8 hT => ?_) FU (x1, 0) hT
  obtain ⟨x2, x3⟩ := s
  show KJ E mX11_based rmX11_based 8 [some (.inr 120), none, some (.inl x2), some (.inl x3)] [] σ1 Q
  rw [X11_based_B8] at hT
  have hJ50_8 : ∀ y2 y3, X11_based_J50 rec8 y2 y3 = some res → KJ E mX11_based rmX11_based 50 [some (.inr 120), none, some (.inl y2), some (.inl y3)] [] σ1 Q := by
    intro y2 y3 hT
    unfold X11_based_J50 at hT
    refine kj_iinc dX11_based_50 (pc' := 53) rfl rfl (congrArg (_ + ·) kc_1) (Nat.le_of_ble_eq_true rfl) (ls' := [some (.inr 120), none, some (.inl y2), some (.inl (y3 + 1))]) rfl ?_
    refine kj_goto dX11_based_53 (pc' := 8) rfl ?_
    exact ih8 (y2, y3 + 1) hT
  refine kj_iload_n dX11_based_8 (pc' := 9) rfl rfl rfl ?_
  refine kj_aload_n dX11_based_9 (pc' := 10) rfl rfl rfl ?_
  refine kj_getI f_RX11_141 rfl (Nat.lt_of_lt_of_le (Nat.le_of_ble_eq_true rfl : 120 < 140) hE.1) dX11_based_10 (pc' := 13) rfl ?_
  refine kj_icmp_ge dX11_based_13 (tgt := 56) rfl (pc' := 16) rfl (fun c2 => ?_) (fun c2 => ?_)
  · rw [if_pos c2] at hT
    refine kj_iconst dX11_based_56 (pc' := 57) rfl kc_m1 ?_
    have hR := Option.some.inj hT
    subst hR
    exact kj_iret rfl dX11_based_57 (by subst hQ; exact ⟨rfl, rfl⟩)
  · rw [if_neg c2] at hT
    refine kj_iload_n dX11_based_16 (pc' := 17) rfl rfl rfl ?_
    refine kj_if_lt dX11_based_17 (tgt := 56) rfl (pc' := 20) rfl (fun c3 => ?_) (fun c3 => ?_)
    · rw [if_pos c3] at hT
      refine kj_iconst dX11_based_56 (pc' := 57) rfl kc_m1 ?_
      have hR := Option.some.inj hT
      subst hR
      exact kj_iret rfl dX11_based_57 (by subst hQ; exact ⟨rfl, rfl⟩)
    · rw [if_neg c3] at hT
      refine kj_aload_n dX11_based_20 (pc' := 21) rfl rfl rfl ?_
      refine kj_aload_n dX11_based_21 (pc' := 22) rfl rfl rfl ?_
      refine kj_getR f_RX11_30 rfl (Nat.lt_of_lt_of_le (Nat.le_of_ble_eq_true rfl : 120 < 140) hE.1) (hE.2 _ _) (q := 126) rfl dX11_based_22 (pc' := 25) rfl ?_
      refine kj_iload_n dX11_based_25 (pc' := 26) rfl rfl rfl ?_
      obtain ⟨hi4, hT⟩ := ckA_some hT
      refine kj_iald rfl (Nat.lt_of_lt_of_le (Nat.le_of_ble_eq_true rfl : 126 < 140) hE.1) hi4 rfl dX11_based_26 (pc' := 27) rfl ?_
      obtain ⟨t5, ht5, hT⟩ := bind_some' hT
      refine kcVz (as := [.inl (σ1 126 x3.toNatClampNeg)]) (st := []) l_RX11_138 (m_X11_isBased hE σ1 (σ1 126 x3.toNatClampNeg) ht5) rfl (Nat.lt_of_lt_of_le (Nat.le_of_ble_eq_true rfl : 120 < 140) hE.1) rfl ⟨⟨rfl, rfl⟩, Nat.le_of_ble_eq_true rfl, Nat.le_of_ble_eq_true rfl⟩ (Nat.le_of_ble_eq_true rfl) dX11_based_27 (pc' := 30) rfl (fun z6 => ?_)
      refine kj_if_ne dX11_based_30 (tgt := 36) rfl (pc' := 33) rfl (fun c7 => ?_) (fun c7 => ?_)
      · rw [if_neg c7] at hT
        refine kj_iload_n dX11_based_36 (pc' := 37) rfl rfl rfl ?_
        refine kj_if_ne dX11_based_37 (tgt := 47) rfl (pc' := 40) rfl (fun c8 => ?_) (fun c8 => ?_)
        · rw [if_neg c8] at hT
          refine kj_iinc dX11_based_47 (pc' := 50) rfl rfl (congrArg (_ + ·) kc_m1) (Nat.le_of_ble_eq_true rfl) (ls' := [some (.inr 120), none, some (.inl (x2 + (-1))), some (.inl x3)]) rfl ?_
          exact hJ50_8 (x2 + (-1)) x3 hT
        · rw [if_pos c8] at hT
          refine kj_aload_n dX11_based_40 (pc' := 41) rfl rfl rfl ?_
          refine kj_getR f_RX11_30 rfl (Nat.lt_of_lt_of_le (Nat.le_of_ble_eq_true rfl : 120 < 140) hE.1) (hE.2 _ _) (q := 126) rfl dX11_based_41 (pc' := 44) rfl ?_
          refine kj_iload_n dX11_based_44 (pc' := 45) rfl rfl rfl ?_
          obtain ⟨hi9, hT⟩ := ckA_some hT
          refine kj_iald rfl (Nat.lt_of_lt_of_le (Nat.le_of_ble_eq_true rfl : 126 < 140) hE.1) hi9 rfl dX11_based_45 (pc' := 46) rfl ?_
          have hR := Option.some.inj hT
          subst hR
          exact kj_iret rfl dX11_based_46 (by subst hQ; exact ⟨rfl, rfl⟩)
      · rw [if_pos c7] at hT
        refine kj_goto dX11_based_33 (pc' := 50) rfl ?_
        exact hJ50_8 x2 x3 hT
def X11_together_J45 (rec5 : Int32 × Int32 → Option (Int32)) (y3 : Int32) (y4 : Int32) : Option (Int32) :=
  rec5 (y3, y4 + 1)
def X11_together_B5 (σ : Wd) (x1 : Int32) (x2 : Int32) (rec5 : Int32 × Int32 → Option (Int32)) : Int32 × Int32 → Option (Int32)
  | (x3, x4) => (if (σ 120 10) ≤ x4 then some x3 else (ckA x4 128 <| (if (X11_has (σ 126 x4.toNatClampNeg) x1) = 0 then X11_together_J45 rec5 x3 x4 else (ckA x4 128 <| (if (X11_has (σ 126 x4.toNatClampNeg) x2) = 0 then X11_together_J45 rec5 x3 x4 else X11_together_J45 rec5 (x3 + 1) x4)))))
def X11_together (σ : Wd) (x1 : Int32) (x2 : Int32) : Option (Int32) :=
  (lp (X11_together_B5 σ x1 x2) FU (0, 0))
set_option maxRecDepth 100000 in
set_option maxHeartbeats 4000000 in
theorem m_X11_together {E : JE} (hE : kOk 140 E) (σ : Wd) (x1 : Int32) (x2 : Int32) {res : Int32} (hT : X11_together σ x1 x2 = some res) : kMt E yX11_together mX11_together rmX11_together [.inr 120, .inl x1, .inl x2] σ (kQi res σ) := by
  refine kMt_of (by decide +kernel) rfl (Nat.le_of_ble_eq_true rfl) ?_
  generalize hQ : (kQi res σ) = Q
  show KJ E mX11_together rmX11_together 0 [some (.inr 120), some (.inl x1), some (.inl x2)] [] σ Q
  unfold X11_together at hT
  refine kj_iconst dX11_together_0 (pc' := 1) rfl kc_0 ?_
  refine kj_istore_n dX11_together_1 (pc' := 2) rfl rfl (Nat.le_of_ble_eq_true rfl) (ls' := [some (.inr 120), some (.inl x1), some (.inl x2), some (.inl 0)]) rfl ?_
  refine kj_iconst dX11_together_2 (pc' := 3) rfl kc_0 ?_
  refine kj_istore dX11_together_3 (pc' := 5) rfl (Nat.le_of_ble_eq_true rfl) (ls' := [some (.inr 120), some (.inl x1), some (.inl x2), some (.inl 0), some (.inl 0)]) rfl ?_
  refine lp_ind (P := fun s => KJ E mX11_together rmX11_together 5 [some (.inr 120), some (.inl x1), some (.inl x2), some (.inl s.1), some (.inl s.2)] [] σ Q) (fun rec5 s ih5 hT => ?_) FU (0, 0) hT
  obtain ⟨x3, x4⟩ := s
  show KJ E mX11_together rmX11_together 5 [some (.inr 120), some (.inl x1), some (.inl x2), some (.inl x3), some (.inl x4)] [] σ Q
  rw [X11_together_B5] at hT
  have hJ45_5 : ∀ y3 y4, X11_together_J45 rec5 y3 y4 = some res → KJ E mX11_together rmX11_together 45 [some (.inr 120), some (.inl x1), some (.inl x2), some (.inl y3), some (.inl y4)] [] σ Q := by
    intro y3 y4 hT
    unfold X11_together_J45 at hT
    refine kj_iinc dX11_together_45 (pc' := 48) rfl rfl (congrArg (_ + ·) kc_1) (Nat.le_of_ble_eq_true rfl) (ls' := [some (.inr 120), some (.inl x1), some (.inl x2), some (.inl y3), some (.inl (y4 + 1))]) rfl ?_
    refine kj_goto dX11_together_48 (pc' := 5) rfl ?_
    exact ih5 (y3, y4 + 1) hT
  refine kj_iload dX11_together_5 (pc' := 7) rfl rfl ?_
  refine kj_aload_n dX11_together_7 (pc' := 8) rfl rfl rfl ?_
  refine kj_getI f_RX11_141 rfl (Nat.lt_of_lt_of_le (Nat.le_of_ble_eq_true rfl : 120 < 140) hE.1) dX11_together_8 (pc' := 11) rfl ?_
  refine kj_icmp_ge dX11_together_11 (tgt := 51) rfl (pc' := 14) rfl (fun c2 => ?_) (fun c2 => ?_)
  · rw [if_pos c2] at hT
    refine kj_iload_n dX11_together_51 (pc' := 52) rfl rfl rfl ?_
    have hR := Option.some.inj hT
    subst hR
    exact kj_iret rfl dX11_together_52 (by subst hQ; exact ⟨rfl, rfl⟩)
  · rw [if_neg c2] at hT
    refine kj_aload_n dX11_together_14 (pc' := 15) rfl rfl rfl ?_
    refine kj_getR f_RX11_30 rfl (Nat.lt_of_lt_of_le (Nat.le_of_ble_eq_true rfl : 120 < 140) hE.1) (hE.2 _ _) (q := 126) rfl dX11_together_15 (pc' := 18) rfl ?_
    refine kj_iload dX11_together_18 (pc' := 20) rfl rfl ?_
    obtain ⟨hi3, hT⟩ := ckA_some hT
    refine kj_iald rfl (Nat.lt_of_lt_of_le (Nat.le_of_ble_eq_true rfl : 126 < 140) hE.1) hi3 rfl dX11_together_20 (pc' := 21) rfl ?_
    refine kj_iload_n dX11_together_21 (pc' := 22) rfl rfl rfl ?_
    refine kcSz (as := [.inl (σ 126 x4.toNatClampNeg), .inl x1]) (st := []) l_RX11_128 (m_X11_has (Nat.zero_le _) σ (σ 126 x4.toNatClampNeg) x1 rfl) rfl ⟨⟨rfl, rfl⟩, Nat.le_of_ble_eq_true rfl, Nat.le_of_ble_eq_true rfl⟩ (Nat.le_of_ble_eq_true rfl) dX11_together_22 (pc' := 25) rfl (fun z4 => ?_)
    refine kj_if_eq dX11_together_25 (tgt := 45) rfl (pc' := 28) rfl (fun c5 => ?_) (fun c5 => ?_)
    · rw [if_pos c5] at hT
      exact hJ45_5 x3 x4 hT
    · rw [if_neg c5] at hT
      refine kj_aload_n dX11_together_28 (pc' := 29) rfl rfl rfl ?_
      refine kj_getR f_RX11_30 rfl (Nat.lt_of_lt_of_le (Nat.le_of_ble_eq_true rfl : 120 < 140) hE.1) (hE.2 _ _) (q := 126) rfl dX11_together_29 (pc' := 32) rfl ?_
      refine kj_iload dX11_together_32 (pc' := 34) rfl rfl ?_
      obtain ⟨hi6, hT⟩ := ckA_some hT
      refine kj_iald rfl (Nat.lt_of_lt_of_le (Nat.le_of_ble_eq_true rfl : 126 < 140) hE.1) hi6 rfl dX11_together_34 (pc' := 35) rfl ?_
      refine kj_iload_n dX11_together_35 (pc' := 36) rfl rfl rfl ?_
      refine kcSz (as := [.inl (σ 126 x4.toNatClampNeg), .inl x2]) (st := []) l_RX11_128 (m_X11_has (Nat.zero_le _) σ (σ 126 x4.toNatClampNeg) x2 rfl) rfl ⟨⟨rfl, rfl⟩, Nat.le_of_ble_eq_true rfl, Nat.le_of_ble_eq_true rfl⟩ (Nat.le_of_ble_eq_true rfl) dX11_together_36 (pc' := 39) rfl (fun z7 => ?_)
      refine kj_if_eq dX11_together_39 (tgt := 45) rfl (pc' := 42) rfl (fun c8 => ?_) (fun c8 => ?_)
      · rw [if_pos c8] at hT
        exact hJ45_5 x3 x4 hT
      · rw [if_neg c8] at hT
        refine kj_iinc dX11_together_42 (pc' := 45) rfl rfl (congrArg (_ + ·) kc_1) (Nat.le_of_ble_eq_true rfl) (ls' := [some (.inr 120), some (.inl x1), some (.inl x2), some (.inl (x3 + 1)), some (.inl x4)]) rfl ?_
        exact hJ45_5 (x3 + 1) x4 hT
def X11_twinOf_J60 (rec16 : Int32 → Option (Int32)) (y2 : Int32) : Option (Int32) :=
  rec16 (y2 + 1)
def X11_twinOf_B16 (σ : Wd) (x1 : Int32) (rec16 : Int32 → Option (Int32)) : Int32 → Option (Int32)
  | (x2) => (if (σ 121 0) ≤ x2 then some (-2) else ((X11_together σ x1 x2).bind fun t6 => (if x2 = x1 then X11_twinOf_J60 rec16 x2 else ((X11_together σ x1 x1).bind fun t8 => (if t6 = t8 then ((X11_together σ x2 x2).bind fun t10 => (if t6 = t10 then some x2 else X11_twinOf_J60 rec16 x2)) else X11_twinOf_J60 rec16 x2)))))
def X11_twinOf (σ : Wd) (x1 : Int32) : Option (Int32) :=
  ((X11_top σ).bind fun t1 => (if (X11_has t1 x1) = 0 then some (-2) else (lp (X11_twinOf_B16 σ x1) FU (0))))
set_option maxRecDepth 100000 in
set_option maxHeartbeats 4000000 in
theorem m_X11_twinOf {E : JE} (hE : kOk 140 E) (σ : Wd) (x1 : Int32) {res : Int32} (hT : X11_twinOf σ x1 = some res) : kMt E yX11_twinOf mX11_twinOf rmX11_twinOf [.inr 120, .inl x1] σ (kQi res σ) := by
  refine kMt_of (by decide +kernel) rfl (Nat.le_of_ble_eq_true rfl) ?_
  generalize hQ : (kQi res σ) = Q
  show KJ E mX11_twinOf rmX11_twinOf 0 [some (.inr 120), some (.inl x1)] [] σ Q
  unfold X11_twinOf at hT
  refine kj_aload_n dX11_twinOf_0 (pc' := 1) rfl rfl rfl ?_
  obtain ⟨t1, ht1, hT⟩ := bind_some' hT
  refine kcVi (as := []) (st := []) l_RX11_181 (m_X11_top hE σ ht1) rfl (Nat.lt_of_lt_of_le (Nat.le_of_ble_eq_true rfl : 120 < 140) hE.1) rfl ⟨⟨rfl, rfl⟩, Nat.le_of_ble_eq_true rfl, Nat.le_of_ble_eq_true rfl⟩ (Nat.le_of_ble_eq_true rfl) dX11_twinOf_1 (pc' := 4) rfl ?_
  refine kj_iload_n dX11_twinOf_4 (pc' := 5) rfl rfl rfl ?_
  refine kcSz (as := [.inl t1, .inl x1]) (st := []) l_RX11_128 (m_X11_has (Nat.zero_le _) σ t1 x1 rfl) rfl ⟨⟨rfl, rfl⟩, Nat.le_of_ble_eq_true rfl, Nat.le_of_ble_eq_true rfl⟩ (Nat.le_of_ble_eq_true rfl) dX11_twinOf_5 (pc' := 8) rfl (fun z2 => ?_)
  refine kj_if_ne dX11_twinOf_8 (tgt := 14) rfl (pc' := 11) rfl (fun c3 => ?_) (fun c3 => ?_)
  · rw [if_neg c3] at hT
    refine kj_iconst dX11_twinOf_14 (pc' := 15) rfl kc_0 ?_
    refine kj_istore_n dX11_twinOf_15 (pc' := 16) rfl rfl (Nat.le_of_ble_eq_true rfl) (ls' := [some (.inr 120), some (.inl x1), some (.inl 0)]) rfl ?_
    refine lp_ind (P := fun s => KJ E mX11_twinOf rmX11_twinOf 16 [some (.inr 120), some (.inl x1), some (.inl s)] [] σ Q) (fun rec16 s ih16 hT => ?_) FU (0) hT
    obtain ⟨x2, hs⟩ : ∃ z, z = s := ⟨_, rfl⟩
    subst hs
    show KJ E mX11_twinOf rmX11_twinOf 16 [some (.inr 120), some (.inl x1), some (.inl x2)] [] σ Q
    rw [X11_twinOf_B16] at hT
    have hJ60_16 : ∀ y2, X11_twinOf_J60 rec16 y2 = some res → KJ E mX11_twinOf rmX11_twinOf 60 [some (.inr 120), some (.inl x1), some (.inl y2)] [] σ Q := by
      intro y2 hT
      unfold X11_twinOf_J60 at hT
      refine kj_iinc dX11_twinOf_60 (pc' := 63) rfl rfl (congrArg (_ + ·) kc_1) (Nat.le_of_ble_eq_true rfl) (ls' := [some (.inr 120), some (.inl x1), some (.inl (y2 + 1))]) rfl ?_
      refine kj_goto dX11_twinOf_63 (pc' := 16) rfl ?_
      exact ih16 (y2 + 1) hT
    refine kj_iload_n dX11_twinOf_16 (pc' := 17) rfl rfl rfl ?_
    refine kj_aload_n dX11_twinOf_17 (pc' := 18) rfl rfl rfl ?_
    refine kj_getR f_RX11_13 rfl (Nat.lt_of_lt_of_le (Nat.le_of_ble_eq_true rfl : 120 < 140) hE.1) (hE.2 _ _) (q := 121) rfl dX11_twinOf_18 (pc' := 21) rfl ?_
    refine kj_iconst dX11_twinOf_21 (pc' := 22) rfl kc_0 ?_
    refine kj_iald rfl (Nat.lt_of_lt_of_le (Nat.le_of_ble_eq_true rfl : 121 < 140) hE.1) (vp_lit (by decide +kernel)) (j := 0) (by decide +kernel) dX11_twinOf_22 (pc' := 23) rfl ?_
    refine kj_icmp_ge dX11_twinOf_23 (tgt := 66) rfl (pc' := 26) rfl (fun c5 => ?_) (fun c5 => ?_)
    · rw [if_pos c5] at hT
      refine kj_bipush dX11_twinOf_66 (pc' := 68) rfl kb_m2 ?_
      have hR := Option.some.inj hT
      subst hR
      exact kj_iret rfl dX11_twinOf_68 (by subst hQ; exact ⟨rfl, rfl⟩)
    · rw [if_neg c5] at hT
      refine kj_aload_n dX11_twinOf_26 (pc' := 27) rfl rfl rfl ?_
      refine kj_iload_n dX11_twinOf_27 (pc' := 28) rfl rfl rfl ?_
      refine kj_iload_n dX11_twinOf_28 (pc' := 29) rfl rfl rfl ?_
      obtain ⟨t6, ht6, hT⟩ := bind_some' hT
      refine kcVi (as := [.inl x1, .inl x2]) (st := []) l_RX11_184 (m_X11_together hE σ x1 x2 ht6) rfl (Nat.lt_of_lt_of_le (Nat.le_of_ble_eq_true rfl : 120 < 140) hE.1) rfl ⟨⟨rfl, rfl⟩, Nat.le_of_ble_eq_true rfl, Nat.le_of_ble_eq_true rfl⟩ (Nat.le_of_ble_eq_true rfl) dX11_twinOf_29 (pc' := 32) rfl ?_
      refine kj_istore_n dX11_twinOf_32 (pc' := 33) rfl rfl (Nat.le_of_ble_eq_true rfl) (ls' := [some (.inr 120), some (.inl x1), some (.inl x2), some (.inl t6)]) rfl ?_
      refine kj_iload_n dX11_twinOf_33 (pc' := 34) rfl rfl rfl ?_
      refine kj_iload_n dX11_twinOf_34 (pc' := 35) rfl rfl rfl ?_
      refine kj_icmp_eq dX11_twinOf_35 (tgt := 60) rfl (pc' := 38) rfl (fun c7 => ?_) (fun c7 => ?_)
      · rw [if_pos c7] at hT
        refine kj_keep [true, true, true] (ls' := [some (.inr 120), some (.inl x1), some (.inl x2)]) rfl ?_
        exact hJ60_16 x2 hT
      · rw [if_neg c7] at hT
        refine kj_iload_n dX11_twinOf_38 (pc' := 39) rfl rfl rfl ?_
        refine kj_aload_n dX11_twinOf_39 (pc' := 40) rfl rfl rfl ?_
        refine kj_iload_n dX11_twinOf_40 (pc' := 41) rfl rfl rfl ?_
        refine kj_iload_n dX11_twinOf_41 (pc' := 42) rfl rfl rfl ?_
        obtain ⟨t8, ht8, hT⟩ := bind_some' hT
        refine kcVi (as := [.inl x1, .inl x1]) (st := [.inl t6]) l_RX11_184 (m_X11_together hE σ x1 x1 ht8) rfl (Nat.lt_of_lt_of_le (Nat.le_of_ble_eq_true rfl : 120 < 140) hE.1) rfl ⟨⟨rfl, rfl⟩, Nat.le_of_ble_eq_true rfl, Nat.le_of_ble_eq_true rfl⟩ (Nat.le_of_ble_eq_true rfl) dX11_twinOf_42 (pc' := 45) rfl ?_
        refine kj_icmp_ne dX11_twinOf_45 (tgt := 60) rfl (pc' := 48) rfl (fun c9 => ?_) (fun c9 => ?_)
        · rw [if_neg c9] at hT
          refine kj_keep [true, true, true] (ls' := [some (.inr 120), some (.inl x1), some (.inl x2)]) rfl ?_
          exact hJ60_16 x2 hT
        · rw [if_pos c9] at hT
          refine kj_iload_n dX11_twinOf_48 (pc' := 49) rfl rfl rfl ?_
          refine kj_aload_n dX11_twinOf_49 (pc' := 50) rfl rfl rfl ?_
          refine kj_iload_n dX11_twinOf_50 (pc' := 51) rfl rfl rfl ?_
          refine kj_iload_n dX11_twinOf_51 (pc' := 52) rfl rfl rfl ?_
          obtain ⟨t10, ht10, hT⟩ := bind_some' hT
          refine kcVi (as := [.inl x2, .inl x2]) (st := [.inl t6]) l_RX11_184 (m_X11_together hE σ x2 x2 ht10) rfl (Nat.lt_of_lt_of_le (Nat.le_of_ble_eq_true rfl : 120 < 140) hE.1) rfl ⟨⟨rfl, rfl⟩, Nat.le_of_ble_eq_true rfl, Nat.le_of_ble_eq_true rfl⟩ (Nat.le_of_ble_eq_true rfl) dX11_twinOf_52 (pc' := 55) rfl ?_
          refine kj_icmp_ne dX11_twinOf_55 (tgt := 60) rfl (pc' := 58) rfl (fun c11 => ?_) (fun c11 => ?_)
          · rw [if_neg c11] at hT
            refine kj_keep [true, true, true] (ls' := [some (.inr 120), some (.inl x1), some (.inl x2)]) rfl ?_
            exact hJ60_16 x2 hT
          · rw [if_pos c11] at hT
            refine kj_iload_n dX11_twinOf_58 (pc' := 59) rfl rfl rfl ?_
            have hR := Option.some.inj hT
            subst hR
            exact kj_iret rfl dX11_twinOf_59 (by subst hQ; exact ⟨rfl, rfl⟩)
  · rw [if_pos c3] at hT
    refine kj_bipush dX11_twinOf_11 (pc' := 13) rfl kb_m2 ?_
    have hR := Option.some.inj hT
    subst hR
    exact kj_iret rfl dX11_twinOf_13 (by subst hQ; exact ⟨rfl, rfl⟩)
def X11_leastWith_B2 (σ : Wd) (x1 : Int32) (rec2 : Int32 → Option (Int32)) : Int32 → Option (Int32)
  | (x2) => (if (σ 120 10) ≤ x2 then some (-2) else (ckA x2 128 <| (if (X11_has (σ 126 x2.toNatClampNeg) x1) = 0 then rec2 (x2 + 1) else (ckA x2 128 <| ((X11_ones (σ 126 x2.toNatClampNeg)).bind fun t7 => some t7)))))
def X11_leastWith (σ : Wd) (x1 : Int32) : Option (Int32) :=
  (lp (X11_leastWith_B2 σ x1) FU (0))
set_option maxRecDepth 100000 in
set_option maxHeartbeats 4000000 in
theorem m_X11_leastWith {E : JE} (hE : kOk 140 E) (σ : Wd) (x1 : Int32) {res : Int32} (hT : X11_leastWith σ x1 = some res) : kMt E yX11_leastWith mX11_leastWith rmX11_leastWith [.inr 120, .inl x1] σ (kQi res σ) := by
  refine kMt_of (by decide +kernel) rfl (Nat.le_of_ble_eq_true rfl) ?_
  generalize hQ : (kQi res σ) = Q
  show KJ E mX11_leastWith rmX11_leastWith 0 [some (.inr 120), some (.inl x1)] [] σ Q
  unfold X11_leastWith at hT
  refine kj_iconst dX11_leastWith_0 (pc' := 1) rfl kc_0 ?_
  refine kj_istore_n dX11_leastWith_1 (pc' := 2) rfl rfl (Nat.le_of_ble_eq_true rfl) (ls' := [some (.inr 120), some (.inl x1), some (.inl 0)]) rfl ?_
  refine lp_ind (P := fun s => KJ E mX11_leastWith rmX11_leastWith 2 [some (.inr 120), some (.inl x1), some (.inl s)] [] σ Q) (fun rec2 s ih2 hT => ?_) FU (0) hT
  obtain ⟨x2, hs⟩ : ∃ z, z = s := ⟨_, rfl⟩
  subst hs
  show KJ E mX11_leastWith rmX11_leastWith 2 [some (.inr 120), some (.inl x1), some (.inl x2)] [] σ Q
  rw [X11_leastWith_B2] at hT
  refine kj_iload_n dX11_leastWith_2 (pc' := 3) rfl rfl rfl ?_
  refine kj_aload_n dX11_leastWith_3 (pc' := 4) rfl rfl rfl ?_
  refine kj_getI f_RX11_141 rfl (Nat.lt_of_lt_of_le (Nat.le_of_ble_eq_true rfl : 120 < 140) hE.1) dX11_leastWith_4 (pc' := 7) rfl ?_
  refine kj_icmp_ge dX11_leastWith_7 (tgt := 39) rfl (pc' := 10) rfl (fun c2 => ?_) (fun c2 => ?_)
  · rw [if_pos c2] at hT
    refine kj_bipush dX11_leastWith_39 (pc' := 41) rfl kb_m2 ?_
    have hR := Option.some.inj hT
    subst hR
    exact kj_iret rfl dX11_leastWith_41 (by subst hQ; exact ⟨rfl, rfl⟩)
  · rw [if_neg c2] at hT
    refine kj_aload_n dX11_leastWith_10 (pc' := 11) rfl rfl rfl ?_
    refine kj_getR f_RX11_30 rfl (Nat.lt_of_lt_of_le (Nat.le_of_ble_eq_true rfl : 120 < 140) hE.1) (hE.2 _ _) (q := 126) rfl dX11_leastWith_11 (pc' := 14) rfl ?_
    refine kj_iload_n dX11_leastWith_14 (pc' := 15) rfl rfl rfl ?_
    obtain ⟨hi3, hT⟩ := ckA_some hT
    refine kj_iald rfl (Nat.lt_of_lt_of_le (Nat.le_of_ble_eq_true rfl : 126 < 140) hE.1) hi3 rfl dX11_leastWith_15 (pc' := 16) rfl ?_
    refine kj_iload_n dX11_leastWith_16 (pc' := 17) rfl rfl rfl ?_
    refine kcSz (as := [.inl (σ 126 x2.toNatClampNeg), .inl x1]) (st := []) l_RX11_128 (m_X11_has (Nat.zero_le _) σ (σ 126 x2.toNatClampNeg) x1 rfl) rfl ⟨⟨rfl, rfl⟩, Nat.le_of_ble_eq_true rfl, Nat.le_of_ble_eq_true rfl⟩ (Nat.le_of_ble_eq_true rfl) dX11_leastWith_17 (pc' := 20) rfl (fun z4 => ?_)
    refine kj_if_eq dX11_leastWith_20 (tgt := 33) rfl (pc' := 23) rfl (fun c5 => ?_) (fun c5 => ?_)
    · rw [if_pos c5] at hT
      refine kj_iinc dX11_leastWith_33 (pc' := 36) rfl rfl (congrArg (_ + ·) kc_1) (Nat.le_of_ble_eq_true rfl) (ls' := [some (.inr 120), some (.inl x1), some (.inl (x2 + 1))]) rfl ?_
      refine kj_goto dX11_leastWith_36 (pc' := 2) rfl ?_
      exact ih2 (x2 + 1) hT
    · rw [if_neg c5] at hT
      refine kj_aload_n dX11_leastWith_23 (pc' := 24) rfl rfl rfl ?_
      refine kj_getR f_RX11_30 rfl (Nat.lt_of_lt_of_le (Nat.le_of_ble_eq_true rfl : 120 < 140) hE.1) (hE.2 _ _) (q := 126) rfl dX11_leastWith_24 (pc' := 27) rfl ?_
      refine kj_iload_n dX11_leastWith_27 (pc' := 28) rfl rfl rfl ?_
      obtain ⟨hi6, hT⟩ := ckA_some hT
      refine kj_iald rfl (Nat.lt_of_lt_of_le (Nat.le_of_ble_eq_true rfl : 126 < 140) hE.1) hi6 rfl dX11_leastWith_28 (pc' := 29) rfl ?_
      obtain ⟨t7, ht7, hT⟩ := bind_some' hT
      refine kcSi (as := [.inl (σ 126 x2.toNatClampNeg)]) (st := []) l_RX11_157 (m_X11_ones (Nat.zero_le _) σ (σ 126 x2.toNatClampNeg) ht7) rfl ⟨⟨rfl, rfl⟩, Nat.le_of_ble_eq_true rfl, Nat.le_of_ble_eq_true rfl⟩ (Nat.le_of_ble_eq_true rfl) dX11_leastWith_29 (pc' := 32) rfl ?_
      have hR := Option.some.inj hT
      subst hR
      exact kj_iret rfl dX11_leastWith_32 (by subst hQ; exact ⟨rfl, rfl⟩)
def X11_point_J121 (rec96 : Int32 × Int32 → Option (Int32 × Wd)) (y3 : Int32) (y4 : Int32) : Option (Int32 × Wd) :=
  rec96 (y3, y4 + 1)
def X11_point_B96 (σ5 : Wd) (x1 : Int32) (rec96 : Int32 × Int32 → Option (Int32 × Wd)) : Int32 × Int32 → Option (Int32 × Wd)
  | (x3, x4) => (if (X11_many σ5) ≤ x4 then some (x3, σ5) else ((X11_gen σ5 x4).bind fun t14 => (if (X11_has t14 x1) = 0 then X11_point_J121 rec96 x3 x4 else X11_point_J121 rec96 (x3 + 1) x4)))
def X11_point (σ : Wd) (x1 : Int32) (x2 : Int32) : Option (Int32 × Wd) :=
  (if (X11_isPoint σ x1) = 0 then some ((-1), σ) else (if (X11_in x2 0 5) = 0 then some ((-1), σ) else ((X11_lays σ).bind fun σ5 => (if x2 = 0 then ((X11_frequencyIn σ5 125 x1).bind fun t7 => some (t7, σ5)) else (if x2 = 1 then ((X11_frequentIn σ5 125).bind fun t9 => some ((t9 >>> (x1 &&& 31)) &&& 1, σ5)) else (if x2 = 2 then (ckA (3 + x1) 42 <| some (σ5 121 ((3 + x1).toNatClampNeg), σ5)) else (if x2 = 3 then (lp (X11_point_B96 σ5 x1) FU (0, 0)) else (if x2 = 4 then ((X11_twinOf σ5 x1).bind fun t18 => some (t18, σ5)) else ((X11_leastWith σ5 x1).bind fun t19 => some (t19, σ5))))))))))
set_option maxRecDepth 100000 in
set_option maxHeartbeats 4000000 in
theorem m_X11_point {E : JE} (hE : kOk 140 E) (σ : Wd) (x1 : Int32) (x2 : Int32) {res : Int32 × Wd} (hT : X11_point σ x1 x2 = some res) : kMt E yX11_point mX11_point rmX11_point [.inr 120, .inl x1, .inl x2] σ (kQi res.1 res.2) := by
  refine kMt_of (by decide +kernel) rfl (Nat.le_of_ble_eq_true rfl) ?_
  generalize hQ : (kQi res.1 res.2) = Q
  show KJ E mX11_point rmX11_point 0 [some (.inr 120), some (.inl x1), some (.inl x2)] [] σ Q
  unfold X11_point at hT
  refine kj_aload_n dX11_point_0 (pc' := 1) rfl rfl rfl ?_
  refine kj_iload_n dX11_point_1 (pc' := 2) rfl rfl rfl ?_
  refine kcVz (as := [.inl x1]) (st := []) l_RX11_116 (m_X11_isPoint hE σ x1 rfl) rfl (Nat.lt_of_lt_of_le (Nat.le_of_ble_eq_true rfl : 120 < 140) hE.1) rfl ⟨⟨rfl, rfl⟩, Nat.le_of_ble_eq_true rfl, Nat.le_of_ble_eq_true rfl⟩ (Nat.le_of_ble_eq_true rfl) dX11_point_2 (pc' := 5) rfl (fun z1 => ?_)
  refine kj_if_eq dX11_point_5 (tgt := 17) rfl (pc' := 8) rfl (fun c2 => ?_) (fun c2 => ?_)
  · rw [if_pos c2] at hT
    refine kj_iconst dX11_point_17 (pc' := 18) rfl kc_m1 ?_
    have hR := Option.some.inj hT
    subst hR
    exact kj_iret rfl dX11_point_18 (by subst hQ; exact ⟨rfl, rfl⟩)
  · rw [if_neg c2] at hT
    refine kj_iload_n dX11_point_8 (pc' := 9) rfl rfl rfl ?_
    refine kj_iconst dX11_point_9 (pc' := 10) rfl kc_0 ?_
    refine kj_iconst dX11_point_10 (pc' := 11) rfl kc_5 ?_
    refine kcSz (as := [.inl x2, .inl 0, .inl 5]) (st := []) l_RX11_84 (m_X11_in (Nat.zero_le _) σ x2 0 5 rfl) rfl ⟨⟨rfl, rfl⟩, Nat.le_of_ble_eq_true rfl, Nat.le_of_ble_eq_true rfl⟩ (Nat.le_of_ble_eq_true rfl) dX11_point_11 (pc' := 14) rfl (fun z3 => ?_)
    refine kj_if_ne dX11_point_14 (tgt := 19) rfl (pc' := 17) rfl (fun c4 => ?_) (fun c4 => ?_)
    · rw [if_neg c4] at hT
      refine kj_aload_n dX11_point_19 (pc' := 20) rfl rfl rfl ?_
      obtain ⟨σ5, hσ5, hT⟩ := bind_some' hT
      refine kcVv (as := []) (st := []) l_RX11_135 (m_X11_lays hE σ hσ5) rfl (Nat.lt_of_lt_of_le (Nat.le_of_ble_eq_true rfl : 120 < 140) hE.1) rfl ⟨⟨rfl, rfl⟩, Nat.le_of_ble_eq_true rfl, Nat.le_of_ble_eq_true rfl⟩ (Nat.le_of_ble_eq_true rfl) dX11_point_20 (pc' := 23) rfl ?_
      refine kj_iload_n dX11_point_23 (pc' := 24) rfl rfl rfl ?_
      by_cases c6 : x2 = 0
      · rw [if_pos c6] at hT
        refine kj_tableIn (x := x2) (off := 36) (tgt := 60) dX11_point_24 (by rw [c6]; decide +kernel) (by rw [c6]; decide +kernel) (by rw [c6]; decide +kernel) rfl ?_
        refine kj_aload_n dX11_point_60 (pc' := 61) rfl rfl rfl ?_
        refine kj_getR f_RX11_26 rfl (Nat.lt_of_lt_of_le (Nat.le_of_ble_eq_true rfl : 120 < 140) hE.1) (hE.2 _ _) (q := 125) rfl dX11_point_61 (pc' := 64) rfl ?_
        refine kj_iload_n dX11_point_64 (pc' := 65) rfl rfl rfl ?_
        obtain ⟨t7, ht7, hT⟩ := bind_some' hT
        refine kcSi (as := [.inr 125, .inl x1]) (st := []) l_RX11_171 (m_X11_frequencyIn (Nat.zero_le _) rfl (Nat.lt_of_lt_of_le (Nat.le_of_ble_eq_true rfl : 125 < 140) hE.1) σ5 x1 ht7) rfl ⟨⟨rfl, rfl⟩, Nat.le_of_ble_eq_true rfl, Nat.le_of_ble_eq_true rfl⟩ (Nat.le_of_ble_eq_true rfl) dX11_point_65 (pc' := 68) rfl ?_
        have hR := Option.some.inj hT
        subst hR
        exact kj_iret rfl dX11_point_68 (by subst hQ; exact ⟨rfl, rfl⟩)
      rw [if_neg c6] at hT
      by_cases c8 : x2 = 1
      · rw [if_pos c8] at hT
        refine kj_tableIn (x := x2) (off := 45) (tgt := 69) dX11_point_24 (by rw [c8]; decide +kernel) (by rw [c8]; decide +kernel) (by rw [c8]; decide +kernel) rfl ?_
        refine kj_aload_n dX11_point_69 (pc' := 70) rfl rfl rfl ?_
        refine kj_aload_n dX11_point_70 (pc' := 71) rfl rfl rfl ?_
        refine kj_getR f_RX11_26 rfl (Nat.lt_of_lt_of_le (Nat.le_of_ble_eq_true rfl : 120 < 140) hE.1) (hE.2 _ _) (q := 125) rfl dX11_point_71 (pc' := 74) rfl ?_
        obtain ⟨t9, ht9, hT⟩ := bind_some' hT
        refine kcVi (as := [.inr 125]) (st := []) l_RX11_188 (m_X11_frequentIn hE rfl (Nat.lt_of_lt_of_le (Nat.le_of_ble_eq_true rfl : 125 < 140) hE.1) σ5 ht9) rfl (Nat.lt_of_lt_of_le (Nat.le_of_ble_eq_true rfl : 120 < 140) hE.1) rfl ⟨⟨rfl, rfl⟩, Nat.le_of_ble_eq_true rfl, Nat.le_of_ble_eq_true rfl⟩ (Nat.le_of_ble_eq_true rfl) dX11_point_74 (pc' := 77) rfl ?_
        refine kj_iload_n dX11_point_77 (pc' := 78) rfl rfl rfl ?_
        refine kj_ishr dX11_point_78 (pc' := 79) rfl ?_
        refine kj_iconst dX11_point_79 (pc' := 80) rfl kc_1 ?_
        refine kj_iand dX11_point_80 (pc' := 81) rfl ?_
        have hR := Option.some.inj hT
        subst hR
        exact kj_iret rfl dX11_point_81 (by subst hQ; exact ⟨rfl, rfl⟩)
      rw [if_neg c8] at hT
      by_cases c10 : x2 = 2
      · rw [if_pos c10] at hT
        refine kj_tableIn (x := x2) (off := 58) (tgt := 82) dX11_point_24 (by rw [c10]; decide +kernel) (by rw [c10]; decide +kernel) (by rw [c10]; decide +kernel) rfl ?_
        refine kj_aload_n dX11_point_82 (pc' := 83) rfl rfl rfl ?_
        refine kj_getR f_RX11_13 rfl (Nat.lt_of_lt_of_le (Nat.le_of_ble_eq_true rfl : 120 < 140) hE.1) (hE.2 _ _) (q := 121) rfl dX11_point_83 (pc' := 86) rfl ?_
        refine kj_iconst dX11_point_86 (pc' := 87) rfl kc_3 ?_
        refine kj_iload_n dX11_point_87 (pc' := 88) rfl rfl rfl ?_
        refine kj_iadd dX11_point_88 (pc' := 89) rfl ?_
        obtain ⟨hi11, hT⟩ := ckA_some hT
        refine kj_iald rfl (Nat.lt_of_lt_of_le (Nat.le_of_ble_eq_true rfl : 121 < 140) hE.1) hi11 rfl dX11_point_89 (pc' := 90) rfl ?_
        have hR := Option.some.inj hT
        subst hR
        exact kj_iret rfl dX11_point_90 (by subst hQ; exact ⟨rfl, rfl⟩)
      rw [if_neg c10] at hT
      by_cases c12 : x2 = 3
      · rw [if_pos c12] at hT
        refine kj_tableIn (x := x2) (off := 67) (tgt := 91) dX11_point_24 (by rw [c12]; decide +kernel) (by rw [c12]; decide +kernel) (by rw [c12]; decide +kernel) rfl ?_
        refine kj_iconst dX11_point_91 (pc' := 92) rfl kc_0 ?_
        refine kj_istore_n dX11_point_92 (pc' := 93) rfl rfl (Nat.le_of_ble_eq_true rfl) (ls' := [some (.inr 120), some (.inl x1), some (.inl x2), some (.inl 0)]) rfl ?_
        refine kj_iconst dX11_point_93 (pc' := 94) rfl kc_0 ?_
        refine kj_istore dX11_point_94 (pc' := 96) rfl (Nat.le_of_ble_eq_true rfl) (ls' := [some (.inr 120), some (.inl x1), some (.inl x2), some (.inl 0), some (.inl 0)]) rfl ?_
        refine kj_keep [true, true, false, true, true] (ls' := [some (.inr 120), some (.inl x1), none, some (.inl 0), some (.inl 0)]) rfl ?_
        refine lp_ind (P := fun s => KJ E mX11_point rmX11_point 96 [some (.inr 120), some (.inl x1), none, some (.inl s.1), some (.inl s.2)] [] σ5 Q) (fun rec96 s ih96 hT => ?_) FU (0, 0) hT
        obtain ⟨x3, x4⟩ := s
        show KJ E mX11_point rmX11_point 96 [some (.inr 120), some (.inl x1), none, some (.inl x3), some (.inl x4)] [] σ5 Q
        rw [X11_point_B96] at hT
        have hJ121_96 : ∀ y3 y4, X11_point_J121 rec96 y3 y4 = some res → KJ E mX11_point rmX11_point 121 [some (.inr 120), some (.inl x1), none, some (.inl y3), some (.inl y4)] [] σ5 Q := by
          intro y3 y4 hT
          unfold X11_point_J121 at hT
          refine kj_iinc dX11_point_121 (pc' := 124) rfl rfl (congrArg (_ + ·) kc_1) (Nat.le_of_ble_eq_true rfl) (ls' := [some (.inr 120), some (.inl x1), none, some (.inl y3), some (.inl (y4 + 1))]) rfl ?_
          refine kj_goto dX11_point_124 (pc' := 96) rfl ?_
          exact ih96 (y3, y4 + 1) hT
        refine kj_iload dX11_point_96 (pc' := 98) rfl rfl ?_
        refine kj_aload_n dX11_point_98 (pc' := 99) rfl rfl rfl ?_
        refine kcVi (as := []) (st := [.inl x4]) l_RX11_80 (m_X11_many hE σ5 rfl) rfl (Nat.lt_of_lt_of_le (Nat.le_of_ble_eq_true rfl : 120 < 140) hE.1) rfl ⟨⟨rfl, rfl⟩, Nat.le_of_ble_eq_true rfl, Nat.le_of_ble_eq_true rfl⟩ (Nat.le_of_ble_eq_true rfl) dX11_point_99 (pc' := 102) rfl ?_
        refine kj_icmp_ge dX11_point_102 (tgt := 127) rfl (pc' := 105) rfl (fun c13 => ?_) (fun c13 => ?_)
        · rw [if_pos c13] at hT
          refine kj_iload_n dX11_point_127 (pc' := 128) rfl rfl rfl ?_
          have hR := Option.some.inj hT
          subst hR
          exact kj_iret rfl dX11_point_128 (by subst hQ; exact ⟨rfl, rfl⟩)
        · rw [if_neg c13] at hT
          refine kj_aload_n dX11_point_105 (pc' := 106) rfl rfl rfl ?_
          refine kj_iload dX11_point_106 (pc' := 108) rfl rfl ?_
          obtain ⟨t14, ht14, hT⟩ := bind_some' hT
          refine kcVi (as := [.inl x4]) (st := []) l_RX11_112 (m_X11_gen hE σ5 x4 ht14) rfl (Nat.lt_of_lt_of_le (Nat.le_of_ble_eq_true rfl : 120 < 140) hE.1) rfl ⟨⟨rfl, rfl⟩, Nat.le_of_ble_eq_true rfl, Nat.le_of_ble_eq_true rfl⟩ (Nat.le_of_ble_eq_true rfl) dX11_point_108 (pc' := 111) rfl ?_
          refine kj_iload_n dX11_point_111 (pc' := 112) rfl rfl rfl ?_
          refine kcSz (as := [.inl t14, .inl x1]) (st := []) l_RX11_128 (m_X11_has (Nat.zero_le _) σ5 t14 x1 rfl) rfl ⟨⟨rfl, rfl⟩, Nat.le_of_ble_eq_true rfl, Nat.le_of_ble_eq_true rfl⟩ (Nat.le_of_ble_eq_true rfl) dX11_point_112 (pc' := 115) rfl (fun z15 => ?_)
          refine kj_if_eq dX11_point_115 (tgt := 121) rfl (pc' := 118) rfl (fun c16 => ?_) (fun c16 => ?_)
          · rw [if_pos c16] at hT
            exact hJ121_96 x3 x4 hT
          · rw [if_neg c16] at hT
            refine kj_iinc dX11_point_118 (pc' := 121) rfl rfl (congrArg (_ + ·) kc_1) (Nat.le_of_ble_eq_true rfl) (ls' := [some (.inr 120), some (.inl x1), none, some (.inl (x3 + 1)), some (.inl x4)]) rfl ?_
            exact hJ121_96 (x3 + 1) x4 hT
      rw [if_neg c12] at hT
      by_cases c17 : x2 = 4
      · rw [if_pos c17] at hT
        refine kj_tableIn (x := x2) (off := 105) (tgt := 129) dX11_point_24 (by rw [c17]; decide +kernel) (by rw [c17]; decide +kernel) (by rw [c17]; decide +kernel) rfl ?_
        refine kj_aload_n dX11_point_129 (pc' := 130) rfl rfl rfl ?_
        refine kj_iload_n dX11_point_130 (pc' := 131) rfl rfl rfl ?_
        obtain ⟨t18, ht18, hT⟩ := bind_some' hT
        refine kcVi (as := [.inl x1]) (st := []) l_RX11_191 (m_X11_twinOf hE σ5 x1 ht18) rfl (Nat.lt_of_lt_of_le (Nat.le_of_ble_eq_true rfl : 120 < 140) hE.1) rfl ⟨⟨rfl, rfl⟩, Nat.le_of_ble_eq_true rfl, Nat.le_of_ble_eq_true rfl⟩ (Nat.le_of_ble_eq_true rfl) dX11_point_131 (pc' := 134) rfl ?_
        have hR := Option.some.inj hT
        subst hR
        exact kj_iret rfl dX11_point_134 (by subst hQ; exact ⟨rfl, rfl⟩)
      rw [if_neg c17] at hT
      refine kj_tableOut (x := x2) (tgt := 135) dX11_point_24 (tb_out (hi := 4) (fun k hk => by rcases (show k = 0 ∨ k = 1 ∨ k = 2 ∨ k = 3 ∨ k = 4  from by omega) with rfl | rfl | rfl | rfl | rfl <;> assumption) (by decide)) rfl ?_
      refine kj_aload_n dX11_point_135 (pc' := 136) rfl rfl rfl ?_
      refine kj_iload_n dX11_point_136 (pc' := 137) rfl rfl rfl ?_
      obtain ⟨t19, ht19, hT⟩ := bind_some' hT
      refine kcVi (as := [.inl x1]) (st := []) l_RX11_194 (m_X11_leastWith hE σ5 x1 ht19) rfl (Nat.lt_of_lt_of_le (Nat.le_of_ble_eq_true rfl : 120 < 140) hE.1) rfl ⟨⟨rfl, rfl⟩, Nat.le_of_ble_eq_true rfl, Nat.le_of_ble_eq_true rfl⟩ (Nat.le_of_ble_eq_true rfl) dX11_point_137 (pc' := 140) rfl ?_
      have hR := Option.some.inj hT
      subst hR
      exact kj_iret rfl dX11_point_140 (by subst hQ; exact ⟨rfl, rfl⟩)
    · rw [if_pos c4] at hT
      refine kj_iconst dX11_point_17 (pc' := 18) rfl kc_m1 ?_
      have hR := Option.some.inj hT
      subst hR
      exact kj_iret rfl dX11_point_18 (by subst hQ; exact ⟨rfl, rfl⟩)
def X11_measures_T137 (rec2 : Int32 × Wd → Option (Wd)) (y2 : Int32) (σ : Wd) : Option (Wd) :=
  rec2 (y2 + 1, σ)
def X11_measures_J131 (rec37 : Int32 × Wd → Option (Wd)) (y4 : Int32) (ς : Wd) : Option (Wd) :=
  rec37 (y4 + 1, ς)
def X11_measures_J87 (y3 : Int32) (rec37 : Int32 × Wd → Option (Wd)) (y4 : Int32) (y5 : Int32) (ς : Wd) : Option (Wd) :=
  (if y4 = y3 then X11_measures_J131 rec37 y4 ς else (if y5 = 0 then X11_measures_J131 rec37 y4 ς else (ckA y4 128 <| (ckA y3 128 <| (if ((ς 129 y4.toNatClampNeg) + 1) ≤ (ς 129 y3.toNatClampNeg) then X11_measures_J131 rec37 y4 ς else (ckA y4 128 <| (ckA y3 128 <| X11_measures_J131 rec37 y4 (up ς 129 y3.toNatClampNeg ((ς 129 y4.toNatClampNeg) + 1)))))))))
def X11_measures_B37 (x1 : Int32) (y3 : Int32) (kx37 : Wd → Option (Wd)) (rec37 : Int32 × Wd → Option (Wd)) : Int32 × Wd → Option (Wd)
  | (x4, σ) => (if (σ 120 10) ≤ x4 then kx37 σ else (if x1 = 0 then (ckA x4 128 <| (ckA y3 128 <| (lett (X11_isWithin (σ 126 x4.toNatClampNeg) (σ 126 y3.toNatClampNeg)) fun x5 => X11_measures_J87 y3 rec37 x4 x5 σ))) else (ckA y3 128 <| (ckA x4 128 <| (lett (X11_isWithin (σ 126 y3.toNatClampNeg) (σ 126 x4.toNatClampNeg)) fun x5 => X11_measures_J87 y3 rec37 x4 x5 σ)))))
def X11_measures_J27 (x1 : Int32) (rec2 : Int32 × Wd → Option (Wd)) (y2 : Int32) (y3 : Int32) (ς : Wd) : Option (Wd) :=
  (ckA y3 128 <| (lp (X11_measures_B37 x1 y3 (X11_measures_T137 rec2 y2)) FU (0, up ς 129 y3.toNatClampNeg 0)))
def X11_measures_B2 (x1 : Int32) (rec2 : Int32 × Wd → Option (Wd)) : Int32 × Wd → Option (Wd)
  | (x2, σ) => (if (σ 120 10) ≤ x2 then some σ else (if x1 = 0 then X11_measures_J27 x1 rec2 x2 x2 σ else X11_measures_J27 x1 rec2 x2 (((σ 120 10) - 1) - x2) σ))
def X11_measures (σ : Wd) (x1 : Int32) : Option (Wd) :=
  (lp (X11_measures_B2 x1) FU (0, σ))
set_option maxRecDepth 100000 in
set_option maxHeartbeats 4000000 in
theorem m_X11_measures {E : JE} (hE : kOk 140 E) (σ : Wd) (x1 : Int32) {res : Wd} (hT : X11_measures σ x1 = some res) : kMt E yX11_measures mX11_measures rmX11_measures [.inr 120, .inl x1] σ (kQv res) := by
  refine kMt_of (by decide +kernel) rfl (Nat.le_of_ble_eq_true rfl) ?_
  generalize hQ : (kQv res) = Q
  show KJ E mX11_measures rmX11_measures 0 [some (.inr 120), some (.inl x1)] [] σ Q
  unfold X11_measures at hT
  refine kj_iconst dX11_measures_0 (pc' := 1) rfl kc_0 ?_
  refine kj_istore_n dX11_measures_1 (pc' := 2) rfl rfl (Nat.le_of_ble_eq_true rfl) (ls' := [some (.inr 120), some (.inl x1), some (.inl 0)]) rfl ?_
  refine lp_ind (P := fun s => KJ E mX11_measures rmX11_measures 2 [some (.inr 120), some (.inl x1), some (.inl s.1)] [] s.2 Q) (fun rec2 s ih2 hT => ?_) FU (0, σ) hT
  obtain ⟨x2, σ⟩ := s
  show KJ E mX11_measures rmX11_measures 2 [some (.inr 120), some (.inl x1), some (.inl x2)] [] σ Q
  rw [X11_measures_B2] at hT
  have hJ27_2 : ∀ y2 y3 ς, X11_measures_J27 x1 rec2 y2 y3 ς = some res → KJ E mX11_measures rmX11_measures 27 [some (.inr 120), some (.inl x1), some (.inl y2), some (.inl y3)] [] ς Q := by
    intro y2 y3 ς hT
    unfold X11_measures_J27 at hT
    refine kj_aload_n dX11_measures_27 (pc' := 28) rfl rfl rfl ?_
    refine kj_getR f_RX11_39 rfl (Nat.lt_of_lt_of_le (Nat.le_of_ble_eq_true rfl : 120 < 140) hE.1) (hE.2 _ _) (q := 129) rfl dX11_measures_28 (pc' := 31) rfl ?_
    refine kj_iload_n dX11_measures_31 (pc' := 32) rfl rfl rfl ?_
    refine kj_iconst dX11_measures_32 (pc' := 33) rfl kc_0 ?_
    obtain ⟨hi3, hT⟩ := ckA_some hT
    refine kj_iast rfl (Nat.lt_of_lt_of_le (Nat.le_of_ble_eq_true rfl : 129 < 140) hE.1) hi3 rfl dX11_measures_33 (pc' := 34) rfl ?_
    refine kj_iconst dX11_measures_34 (pc' := 35) rfl kc_0 ?_
    refine kj_istore dX11_measures_35 (pc' := 37) rfl (Nat.le_of_ble_eq_true rfl) (ls' := [some (.inr 120), some (.inl x1), some (.inl y2), some (.inl y3), some (.inl 0)]) rfl ?_
    have hX37 : ∀ σ, X11_measures_T137 rec2 y2 σ = some res → KJ E mX11_measures rmX11_measures 137 [some (.inr 120), some (.inl x1), some (.inl y2)] [] σ Q := by
      intro σ hT
      unfold X11_measures_T137 at hT
      refine kj_iinc dX11_measures_137 (pc' := 140) rfl rfl (congrArg (_ + ·) kc_1) (Nat.le_of_ble_eq_true rfl) (ls' := [some (.inr 120), some (.inl x1), some (.inl (y2 + 1))]) rfl ?_
      refine kj_goto dX11_measures_140 (pc' := 2) rfl ?_
      exact ih2 (y2 + 1, σ) hT
    refine lp_ind (P := fun s => KJ E mX11_measures rmX11_measures 37 [some (.inr 120), some (.inl x1), some (.inl y2), some (.inl y3), some (.inl s.1)] [] s.2 Q) (fun rec37 s ih37 hT => ?_) FU (0, up ς 129 y3.toNatClampNeg 0) hT
    obtain ⟨x4, σ⟩ := s
    show KJ E mX11_measures rmX11_measures 37 [some (.inr 120), some (.inl x1), some (.inl y2), some (.inl y3), some (.inl x4)] [] σ Q
    rw [X11_measures_B37] at hT
    have hJ131_2_37 : ∀ y4 ς, X11_measures_J131 rec37 y4 ς = some res → KJ E mX11_measures rmX11_measures 131 [some (.inr 120), some (.inl x1), some (.inl y2), some (.inl y3), some (.inl y4)] [] ς Q := by
      intro y4 ς hT
      unfold X11_measures_J131 at hT
      refine kj_iinc dX11_measures_131 (pc' := 134) rfl rfl (congrArg (_ + ·) kc_1) (Nat.le_of_ble_eq_true rfl) (ls' := [some (.inr 120), some (.inl x1), some (.inl y2), some (.inl y3), some (.inl (y4 + 1))]) rfl ?_
      refine kj_goto dX11_measures_134 (pc' := 37) rfl ?_
      exact ih37 (y4 + 1, ς) hT
    have hJ87_2_37 : ∀ y4 y5 ς, X11_measures_J87 y3 rec37 y4 y5 ς = some res → KJ E mX11_measures rmX11_measures 87 [some (.inr 120), some (.inl x1), some (.inl y2), some (.inl y3), some (.inl y4), some (.inl y5)] [] ς Q := by
      intro y4 y5 ς hT
      unfold X11_measures_J87 at hT
      refine kj_iload dX11_measures_87 (pc' := 89) rfl rfl ?_
      refine kj_iload_n dX11_measures_89 (pc' := 90) rfl rfl rfl ?_
      refine kj_icmp_eq dX11_measures_90 (tgt := 131) rfl (pc' := 93) rfl (fun c9 => ?_) (fun c9 => ?_)
      · rw [if_pos c9] at hT
        refine kj_keep [true, true, true, true, true] (ls' := [some (.inr 120), some (.inl x1), some (.inl y2), some (.inl y3), some (.inl y4)]) rfl ?_
        exact hJ131_2_37 y4 ς hT
      · rw [if_neg c9] at hT
        refine kj_iload dX11_measures_93 (pc' := 95) rfl rfl ?_
        refine kj_if_eq dX11_measures_95 (tgt := 131) rfl (pc' := 98) rfl (fun c10 => ?_) (fun c10 => ?_)
        · rw [if_pos c10] at hT
          refine kj_keep [true, true, true, true, true] (ls' := [some (.inr 120), some (.inl x1), some (.inl y2), some (.inl y3), some (.inl y4)]) rfl ?_
          exact hJ131_2_37 y4 ς hT
        · rw [if_neg c10] at hT
          refine kj_aload_n dX11_measures_98 (pc' := 99) rfl rfl rfl ?_
          refine kj_getR f_RX11_39 rfl (Nat.lt_of_lt_of_le (Nat.le_of_ble_eq_true rfl : 120 < 140) hE.1) (hE.2 _ _) (q := 129) rfl dX11_measures_99 (pc' := 102) rfl ?_
          refine kj_iload dX11_measures_102 (pc' := 104) rfl rfl ?_
          obtain ⟨hi11, hT⟩ := ckA_some hT
          refine kj_iald rfl (Nat.lt_of_lt_of_le (Nat.le_of_ble_eq_true rfl : 129 < 140) hE.1) hi11 rfl dX11_measures_104 (pc' := 105) rfl ?_
          refine kj_iconst dX11_measures_105 (pc' := 106) rfl kc_1 ?_
          refine kj_iadd dX11_measures_106 (pc' := 107) rfl ?_
          refine kj_aload_n dX11_measures_107 (pc' := 108) rfl rfl rfl ?_
          refine kj_getR f_RX11_39 rfl (Nat.lt_of_lt_of_le (Nat.le_of_ble_eq_true rfl : 120 < 140) hE.1) (hE.2 _ _) (q := 129) rfl dX11_measures_108 (pc' := 111) rfl ?_
          refine kj_iload_n dX11_measures_111 (pc' := 112) rfl rfl rfl ?_
          obtain ⟨hi12, hT⟩ := ckA_some hT
          refine kj_iald rfl (Nat.lt_of_lt_of_le (Nat.le_of_ble_eq_true rfl : 129 < 140) hE.1) hi12 rfl dX11_measures_112 (pc' := 113) rfl ?_
          refine kj_icmp_le dX11_measures_113 (tgt := 131) rfl (pc' := 116) rfl (fun c13 => ?_) (fun c13 => ?_)
          · rw [if_pos c13] at hT
            refine kj_keep [true, true, true, true, true] (ls' := [some (.inr 120), some (.inl x1), some (.inl y2), some (.inl y3), some (.inl y4)]) rfl ?_
            exact hJ131_2_37 y4 ς hT
          · rw [if_neg c13] at hT
            refine kj_aload_n dX11_measures_116 (pc' := 117) rfl rfl rfl ?_
            refine kj_getR f_RX11_39 rfl (Nat.lt_of_lt_of_le (Nat.le_of_ble_eq_true rfl : 120 < 140) hE.1) (hE.2 _ _) (q := 129) rfl dX11_measures_117 (pc' := 120) rfl ?_
            refine kj_iload_n dX11_measures_120 (pc' := 121) rfl rfl rfl ?_
            refine kj_aload_n dX11_measures_121 (pc' := 122) rfl rfl rfl ?_
            refine kj_getR f_RX11_39 rfl (Nat.lt_of_lt_of_le (Nat.le_of_ble_eq_true rfl : 120 < 140) hE.1) (hE.2 _ _) (q := 129) rfl dX11_measures_122 (pc' := 125) rfl ?_
            refine kj_iload dX11_measures_125 (pc' := 127) rfl rfl ?_
            obtain ⟨hi14, hT⟩ := ckA_some hT
            refine kj_iald rfl (Nat.lt_of_lt_of_le (Nat.le_of_ble_eq_true rfl : 129 < 140) hE.1) hi14 rfl dX11_measures_127 (pc' := 128) rfl ?_
            refine kj_iconst dX11_measures_128 (pc' := 129) rfl kc_1 ?_
            refine kj_iadd dX11_measures_129 (pc' := 130) rfl ?_
            obtain ⟨hi15, hT⟩ := ckA_some hT
            refine kj_iast rfl (Nat.lt_of_lt_of_le (Nat.le_of_ble_eq_true rfl : 129 < 140) hE.1) hi15 rfl dX11_measures_130 (pc' := 131) rfl ?_
            refine kj_keep [true, true, true, true, true] (ls' := [some (.inr 120), some (.inl x1), some (.inl y2), some (.inl y3), some (.inl y4)]) rfl ?_
            exact hJ131_2_37 y4 (up ς 129 y3.toNatClampNeg ((ς 129 y4.toNatClampNeg) + 1)) hT
    refine kj_iload dX11_measures_37 (pc' := 39) rfl rfl ?_
    refine kj_aload_n dX11_measures_39 (pc' := 40) rfl rfl rfl ?_
    refine kj_getI f_RX11_141 rfl (Nat.lt_of_lt_of_le (Nat.le_of_ble_eq_true rfl : 120 < 140) hE.1) dX11_measures_40 (pc' := 43) rfl ?_
    refine kj_icmp_ge dX11_measures_43 (tgt := 137) rfl (pc' := 46) rfl (fun c4 => ?_) (fun c4 => ?_)
    · rw [if_pos c4] at hT
      refine kj_keep [true, true, true] (ls' := [some (.inr 120), some (.inl x1), some (.inl y2)]) rfl ?_
      exact hX37 σ hT
    · rw [if_neg c4] at hT
      refine kj_iload_n dX11_measures_46 (pc' := 47) rfl rfl rfl ?_
      refine kj_if_eq dX11_measures_47 (tgt := 69) rfl (pc' := 50) rfl (fun c5 => ?_) (fun c5 => ?_)
      · rw [if_pos c5] at hT
        refine kj_aload_n dX11_measures_69 (pc' := 70) rfl rfl rfl ?_
        refine kj_getR f_RX11_30 rfl (Nat.lt_of_lt_of_le (Nat.le_of_ble_eq_true rfl : 120 < 140) hE.1) (hE.2 _ _) (q := 126) rfl dX11_measures_70 (pc' := 73) rfl ?_
        refine kj_iload dX11_measures_73 (pc' := 75) rfl rfl ?_
        obtain ⟨hi6, hT⟩ := ckA_some hT
        refine kj_iald rfl (Nat.lt_of_lt_of_le (Nat.le_of_ble_eq_true rfl : 126 < 140) hE.1) hi6 rfl dX11_measures_75 (pc' := 76) rfl ?_
        refine kj_aload_n dX11_measures_76 (pc' := 77) rfl rfl rfl ?_
        refine kj_getR f_RX11_30 rfl (Nat.lt_of_lt_of_le (Nat.le_of_ble_eq_true rfl : 120 < 140) hE.1) (hE.2 _ _) (q := 126) rfl dX11_measures_77 (pc' := 80) rfl ?_
        refine kj_iload_n dX11_measures_80 (pc' := 81) rfl rfl rfl ?_
        obtain ⟨hi7, hT⟩ := ckA_some hT
        refine kj_iald rfl (Nat.lt_of_lt_of_le (Nat.le_of_ble_eq_true rfl : 126 < 140) hE.1) hi7 rfl dX11_measures_81 (pc' := 82) rfl ?_
        refine kcSz (as := [.inl (σ 126 x4.toNatClampNeg), .inl (σ 126 y3.toNatClampNeg)]) (st := []) l_RX11_160 (m_X11_isWithin (Nat.zero_le _) σ (σ 126 x4.toNatClampNeg) (σ 126 y3.toNatClampNeg) rfl) rfl ⟨⟨rfl, rfl⟩, Nat.le_of_ble_eq_true rfl, Nat.le_of_ble_eq_true rfl⟩ (Nat.le_of_ble_eq_true rfl) dX11_measures_82 (pc' := 85) rfl (fun z8 => ?_)
        obtain ⟨x5, ex5, hT⟩ := lett_i hT
        rw [← ex5]
        refine kj_istore dX11_measures_85 (pc' := 87) rfl (Nat.le_of_ble_eq_true rfl) (ls' := [some (.inr 120), some (.inl x1), some (.inl y2), some (.inl y3), some (.inl x4), some (.inl x5)]) rfl ?_
        exact hJ87_2_37 x4 x5 σ hT
      · rw [if_neg c5] at hT
        refine kj_aload_n dX11_measures_50 (pc' := 51) rfl rfl rfl ?_
        refine kj_getR f_RX11_30 rfl (Nat.lt_of_lt_of_le (Nat.le_of_ble_eq_true rfl : 120 < 140) hE.1) (hE.2 _ _) (q := 126) rfl dX11_measures_51 (pc' := 54) rfl ?_
        refine kj_iload_n dX11_measures_54 (pc' := 55) rfl rfl rfl ?_
        obtain ⟨hi16, hT⟩ := ckA_some hT
        refine kj_iald rfl (Nat.lt_of_lt_of_le (Nat.le_of_ble_eq_true rfl : 126 < 140) hE.1) hi16 rfl dX11_measures_55 (pc' := 56) rfl ?_
        refine kj_aload_n dX11_measures_56 (pc' := 57) rfl rfl rfl ?_
        refine kj_getR f_RX11_30 rfl (Nat.lt_of_lt_of_le (Nat.le_of_ble_eq_true rfl : 120 < 140) hE.1) (hE.2 _ _) (q := 126) rfl dX11_measures_57 (pc' := 60) rfl ?_
        refine kj_iload dX11_measures_60 (pc' := 62) rfl rfl ?_
        obtain ⟨hi17, hT⟩ := ckA_some hT
        refine kj_iald rfl (Nat.lt_of_lt_of_le (Nat.le_of_ble_eq_true rfl : 126 < 140) hE.1) hi17 rfl dX11_measures_62 (pc' := 63) rfl ?_
        refine kcSz (as := [.inl (σ 126 y3.toNatClampNeg), .inl (σ 126 x4.toNatClampNeg)]) (st := []) l_RX11_160 (m_X11_isWithin (Nat.zero_le _) σ (σ 126 y3.toNatClampNeg) (σ 126 x4.toNatClampNeg) rfl) rfl ⟨⟨rfl, rfl⟩, Nat.le_of_ble_eq_true rfl, Nat.le_of_ble_eq_true rfl⟩ (Nat.le_of_ble_eq_true rfl) dX11_measures_63 (pc' := 66) rfl (fun z18 => ?_)
        refine kj_goto dX11_measures_66 (pc' := 85) rfl ?_
        obtain ⟨x5, ex5, hT⟩ := lett_i hT
        rw [← ex5]
        refine kj_istore dX11_measures_85 (pc' := 87) rfl (Nat.le_of_ble_eq_true rfl) (ls' := [some (.inr 120), some (.inl x1), some (.inl y2), some (.inl y3), some (.inl x4), some (.inl x5)]) rfl ?_
        exact hJ87_2_37 x4 x5 σ hT
  refine kj_iload_n dX11_measures_2 (pc' := 3) rfl rfl rfl ?_
  refine kj_aload_n dX11_measures_3 (pc' := 4) rfl rfl rfl ?_
  refine kj_getI f_RX11_141 rfl (Nat.lt_of_lt_of_le (Nat.le_of_ble_eq_true rfl : 120 < 140) hE.1) dX11_measures_4 (pc' := 7) rfl ?_
  refine kj_icmp_ge dX11_measures_7 (tgt := 143) rfl (pc' := 10) rfl (fun c1 => ?_) (fun c1 => ?_)
  · rw [if_pos c1] at hT
    have hR := Option.some.inj hT
    subst hR
    exact kj_vret rfl dX11_measures_143 (by subst hQ; exact ⟨rfl, rfl⟩)
  · rw [if_neg c1] at hT
    refine kj_iload_n dX11_measures_10 (pc' := 11) rfl rfl rfl ?_
    refine kj_if_eq dX11_measures_11 (tgt := 25) rfl (pc' := 14) rfl (fun c2 => ?_) (fun c2 => ?_)
    · rw [if_pos c2] at hT
      refine kj_iload_n dX11_measures_25 (pc' := 26) rfl rfl rfl ?_
      refine kj_istore_n dX11_measures_26 (pc' := 27) rfl rfl (Nat.le_of_ble_eq_true rfl) (ls' := [some (.inr 120), some (.inl x1), some (.inl x2), some (.inl x2)]) rfl ?_
      exact hJ27_2 x2 x2 σ hT
    · rw [if_neg c2] at hT
      refine kj_aload_n dX11_measures_14 (pc' := 15) rfl rfl rfl ?_
      refine kj_getI f_RX11_141 rfl (Nat.lt_of_lt_of_le (Nat.le_of_ble_eq_true rfl : 120 < 140) hE.1) dX11_measures_15 (pc' := 18) rfl ?_
      refine kj_iconst dX11_measures_18 (pc' := 19) rfl kc_1 ?_
      refine kj_isub dX11_measures_19 (pc' := 20) rfl ?_
      refine kj_iload_n dX11_measures_20 (pc' := 21) rfl rfl rfl ?_
      refine kj_isub dX11_measures_21 (pc' := 22) rfl ?_
      refine kj_goto dX11_measures_22 (pc' := 26) rfl ?_
      refine kj_istore_n dX11_measures_26 (pc' := 27) rfl rfl (Nat.le_of_ble_eq_true rfl) (ls' := [some (.inr 120), some (.inl x1), some (.inl x2), some (.inl (((σ 120 10) - 1) - x2))]) rfl ?_
      exact hJ27_2 x2 (((σ 120 10) - 1) - x2) σ hT
def X11_turnsOver_B2 (rec2 : Int32 × Wd → Option (Wd)) : Int32 × Wd → Option (Wd)
  | (x2, σ) => (if x2 = (-1) then some σ else (ckA x2 128 <| (ckA (σ 132 x2.toNatClampNeg) 128 <| (lett (σ 130 ((σ 132 x2.toNatClampNeg).toNatClampNeg)) fun x4 => (ckA (σ 132 x2.toNatClampNeg) 128 <| (ckA x2 128 <| rec2 (x4, up (up σ 130 ((σ 132 x2.toNatClampNeg).toNatClampNeg) x2) 131 x2.toNatClampNeg (σ 132 x2.toNatClampNeg))))))))
def X11_turnsOver (σ : Wd) (x1 : Int32) : Option (Wd) :=
  (lp (X11_turnsOver_B2) FU (x1, σ))
set_option maxRecDepth 100000 in
set_option maxHeartbeats 4000000 in
theorem m_X11_turnsOver {E : JE} (hE : kOk 140 E) (σ : Wd) (x1 : Int32) {res : Wd} (hT : X11_turnsOver σ x1 = some res) : kMt E yX11_turnsOver mX11_turnsOver rmX11_turnsOver [.inr 120, .inl x1] σ (kQv res) := by
  refine kMt_of (by decide +kernel) rfl (Nat.le_of_ble_eq_true rfl) ?_
  generalize hQ : (kQv res) = Q
  show KJ E mX11_turnsOver rmX11_turnsOver 0 [some (.inr 120), some (.inl x1)] [] σ Q
  unfold X11_turnsOver at hT
  refine kj_iload_n dX11_turnsOver_0 (pc' := 1) rfl rfl rfl ?_
  refine kj_istore_n dX11_turnsOver_1 (pc' := 2) rfl rfl (Nat.le_of_ble_eq_true rfl) (ls' := [some (.inr 120), some (.inl x1), some (.inl x1)]) rfl ?_
  refine kj_keep [true, false, true] (ls' := [some (.inr 120), none, some (.inl x1)]) rfl ?_
  refine lp_ind (P := fun s => KJ E mX11_turnsOver rmX11_turnsOver 2 [some (.inr 120), none, some (.inl s.1)] [] s.2 Q) (fun rec2 s ih2 hT => ?_) FU (x1, σ) hT
  obtain ⟨x2, σ⟩ := s
  show KJ E mX11_turnsOver rmX11_turnsOver 2 [some (.inr 120), none, some (.inl x2)] [] σ Q
  rw [X11_turnsOver_B2] at hT
  refine kj_iload_n dX11_turnsOver_2 (pc' := 3) rfl rfl rfl ?_
  refine kj_iconst dX11_turnsOver_3 (pc' := 4) rfl kc_m1 ?_
  refine kj_icmp_eq dX11_turnsOver_4 (tgt := 42) rfl (pc' := 7) rfl (fun c1 => ?_) (fun c1 => ?_)
  · rw [if_pos c1] at hT
    have hR := Option.some.inj hT
    subst hR
    exact kj_vret rfl dX11_turnsOver_42 (by subst hQ; exact ⟨rfl, rfl⟩)
  · rw [if_neg c1] at hT
    refine kj_aload_n dX11_turnsOver_7 (pc' := 8) rfl rfl rfl ?_
    refine kj_getR f_RX11_48 rfl (Nat.lt_of_lt_of_le (Nat.le_of_ble_eq_true rfl : 120 < 140) hE.1) (hE.2 _ _) (q := 132) rfl dX11_turnsOver_8 (pc' := 11) rfl ?_
    refine kj_iload_n dX11_turnsOver_11 (pc' := 12) rfl rfl rfl ?_
    obtain ⟨hi2, hT⟩ := ckA_some hT
    refine kj_iald rfl (Nat.lt_of_lt_of_le (Nat.le_of_ble_eq_true rfl : 132 < 140) hE.1) hi2 rfl dX11_turnsOver_12 (pc' := 13) rfl ?_
    refine kj_istore_n dX11_turnsOver_13 (pc' := 14) rfl rfl (Nat.le_of_ble_eq_true rfl) (ls' := [some (.inr 120), none, some (.inl x2), some (.inl (σ 132 x2.toNatClampNeg))]) rfl ?_
    refine kj_aload_n dX11_turnsOver_14 (pc' := 15) rfl rfl rfl ?_
    refine kj_getR f_RX11_42 rfl (Nat.lt_of_lt_of_le (Nat.le_of_ble_eq_true rfl : 120 < 140) hE.1) (hE.2 _ _) (q := 130) rfl dX11_turnsOver_15 (pc' := 18) rfl ?_
    refine kj_iload_n dX11_turnsOver_18 (pc' := 19) rfl rfl rfl ?_
    obtain ⟨hi3, hT⟩ := ckA_some hT
    refine kj_iald rfl (Nat.lt_of_lt_of_le (Nat.le_of_ble_eq_true rfl : 130 < 140) hE.1) hi3 rfl dX11_turnsOver_19 (pc' := 20) rfl ?_
    obtain ⟨x4, ex4, hT⟩ := lett_i hT
    rw [← ex4]
    refine kj_istore dX11_turnsOver_20 (pc' := 22) rfl (Nat.le_of_ble_eq_true rfl) (ls' := [some (.inr 120), none, some (.inl x2), some (.inl (σ 132 x2.toNatClampNeg)), some (.inl x4)]) rfl ?_
    refine kj_aload_n dX11_turnsOver_22 (pc' := 23) rfl rfl rfl ?_
    refine kj_getR f_RX11_42 rfl (Nat.lt_of_lt_of_le (Nat.le_of_ble_eq_true rfl : 120 < 140) hE.1) (hE.2 _ _) (q := 130) rfl dX11_turnsOver_23 (pc' := 26) rfl ?_
    refine kj_iload_n dX11_turnsOver_26 (pc' := 27) rfl rfl rfl ?_
    refine kj_iload_n dX11_turnsOver_27 (pc' := 28) rfl rfl rfl ?_
    obtain ⟨hi4, hT⟩ := ckA_some hT
    refine kj_iast rfl (Nat.lt_of_lt_of_le (Nat.le_of_ble_eq_true rfl : 130 < 140) hE.1) hi4 rfl dX11_turnsOver_28 (pc' := 29) rfl ?_
    refine kj_aload_n dX11_turnsOver_29 (pc' := 30) rfl rfl rfl ?_
    refine kj_getR f_RX11_45 rfl (Nat.lt_of_lt_of_le (Nat.le_of_ble_eq_true rfl : 120 < 140) hE.1) (hE.2 _ _) (q := 131) rfl dX11_turnsOver_30 (pc' := 33) rfl ?_
    refine kj_iload_n dX11_turnsOver_33 (pc' := 34) rfl rfl rfl ?_
    refine kj_iload_n dX11_turnsOver_34 (pc' := 35) rfl rfl rfl ?_
    obtain ⟨hi5, hT⟩ := ckA_some hT
    refine kj_iast rfl (Nat.lt_of_lt_of_le (Nat.le_of_ble_eq_true rfl : 131 < 140) hE.1) hi5 rfl dX11_turnsOver_35 (pc' := 36) rfl ?_
    refine kj_iload dX11_turnsOver_36 (pc' := 38) rfl rfl ?_
    refine kj_istore_n dX11_turnsOver_38 (pc' := 39) rfl rfl (Nat.le_of_ble_eq_true rfl) (ls' := [some (.inr 120), none, some (.inl x4), some (.inl (σ 132 x2.toNatClampNeg)), some (.inl x4)]) rfl ?_
    refine kj_goto dX11_turnsOver_39 (pc' := 2) rfl ?_
    refine kj_keep [true, false, true] (ls' := [some (.inr 120), none, some (.inl x4)]) rfl ?_
    exact ih2 (x4, up (up σ 130 ((σ 132 x2.toNatClampNeg).toNatClampNeg) x2) 131 x2.toNatClampNeg (σ 132 x2.toNatClampNeg)) hT
def X11_couples_T153 (rec34 : Int32 × Int32 × Wd → Option (Int32 × Wd)) (t3 : Int32) (x3 : Int32) (σ : Wd) : Option (Int32 × Wd) :=
  rec34 (t3, x3, σ)
def X11_couples_J147 (rec53 : Int32 × Int32 × Wd → Option (Int32 × Wd)) (y3 : Int32) (y5 : Int32) (ς : Wd) : Option (Int32 × Wd) :=
  rec53 (y3, y5 + 1, ς)
def X11_couples_B53 (t4 : Int32) (kx53 : Int32 → Wd → Option (Int32 × Wd)) (rec53 : Int32 × Int32 × Wd → Option (Int32 × Wd)) : Int32 × Int32 × Wd → Option (Int32 × Wd)
  | (x3, x5, σ) => (if (σ 120 10) ≤ x5 then kx53 x3 σ else (if t4 = x5 then X11_couples_J147 rec53 x3 x5 σ else (ckA x5 128 <| (if (σ 132 x5.toNatClampNeg) = (-1) then (ckA t4 128 <| (ckA x5 128 <| (if (X11_isWithin (σ 126 t4.toNatClampNeg) (σ 126 x5.toNatClampNeg)) = 0 then X11_couples_J147 rec53 x3 x5 σ else (ckA x5 128 <| (ckA x5 128 <| (if ((up σ 132 x5.toNatClampNeg t4) 131 x5.toNatClampNeg) = (-1) then ((X11_turnsOver (up σ 132 x5.toNatClampNeg t4) x5).bind fun σ18 => some (1, σ18)) else (ckA x5 128 <| (ckA x3 128 <| X11_couples_J147 rec53 (x3 + 1) x5 (up (up σ 132 x5.toNatClampNeg t4) 133 x3.toNatClampNeg ((up σ 132 x5.toNatClampNeg t4) 131 x5.toNatClampNeg)))))))))) else X11_couples_J147 rec53 x3 x5 σ))))
def X11_couples_B34 (rec34 : Int32 × Int32 × Wd → Option (Int32 × Wd)) : Int32 × Int32 × Wd → Option (Int32 × Wd)
  | (x2, x3, σ) => (if x3 ≤ x2 then some (0, σ) else (ckA x2 128 <| (lett (x2 + 1) fun t3 => (lett (σ 133 x2.toNatClampNeg) fun t4 => (lp (X11_couples_B53 t4 (X11_couples_T153 rec34 t3)) FU (x3, 0, σ))))))
def X11_couples_T23 (x1 : Int32) (σ : Wd) : Option (Int32 × Wd) :=
  (lp (X11_couples_B34) FU (0, 1, up σ 133 0 x1))
def X11_couples_B2 (kx2 : Wd → Option (Int32 × Wd)) (rec2 : Int32 × Wd → Option (Int32 × Wd)) : Int32 × Wd → Option (Int32 × Wd)
  | (x2, σ) => (if (σ 120 10) ≤ x2 then kx2 σ else (ckA x2 128 <| rec2 (x2 + 1, up σ 132 x2.toNatClampNeg (-1))))
def X11_couples (σ : Wd) (x1 : Int32) : Option (Int32 × Wd) :=
  (lp (X11_couples_B2 (X11_couples_T23 x1)) FU (0, σ))
set_option maxRecDepth 100000 in
set_option maxHeartbeats 4000000 in
theorem m_X11_couples {E : JE} (hE : kOk 140 E) (σ : Wd) (x1 : Int32) {res : Int32 × Wd} (hT : X11_couples σ x1 = some res) : kMt E yX11_couples mX11_couples rmX11_couples [.inr 120, .inl x1] σ (kQz res.1 res.2) := by
  refine kMt_of (by decide +kernel) rfl (Nat.le_of_ble_eq_true rfl) ?_
  generalize hQ : (kQz res.1 res.2) = Q
  show KJ E mX11_couples rmX11_couples 0 [some (.inr 120), some (.inl x1)] [] σ Q
  unfold X11_couples at hT
  refine kj_iconst dX11_couples_0 (pc' := 1) rfl kc_0 ?_
  refine kj_istore_n dX11_couples_1 (pc' := 2) rfl rfl (Nat.le_of_ble_eq_true rfl) (ls' := [some (.inr 120), some (.inl x1), some (.inl 0)]) rfl ?_
  have hX2 : ∀ σ, X11_couples_T23 x1 σ = some res → KJ E mX11_couples rmX11_couples 23 [some (.inr 120), some (.inl x1)] [] σ Q := by
    intro σ hT
    unfold X11_couples_T23 at hT
    refine kj_iconst dX11_couples_23 (pc' := 24) rfl kc_0 ?_
    refine kj_istore_n dX11_couples_24 (pc' := 25) rfl rfl (Nat.le_of_ble_eq_true rfl) (ls' := [some (.inr 120), some (.inl x1), some (.inl 0)]) rfl ?_
    refine kj_iconst dX11_couples_25 (pc' := 26) rfl kc_1 ?_
    refine kj_istore_n dX11_couples_26 (pc' := 27) rfl rfl (Nat.le_of_ble_eq_true rfl) (ls' := [some (.inr 120), some (.inl x1), some (.inl 0), some (.inl 1)]) rfl ?_
    refine kj_aload_n dX11_couples_27 (pc' := 28) rfl rfl rfl ?_
    refine kj_getR f_RX11_51 rfl (Nat.lt_of_lt_of_le (Nat.le_of_ble_eq_true rfl : 120 < 140) hE.1) (hE.2 _ _) (q := 133) rfl dX11_couples_28 (pc' := 31) rfl ?_
    refine kj_iconst dX11_couples_31 (pc' := 32) rfl kc_0 ?_
    refine kj_iload_n dX11_couples_32 (pc' := 33) rfl rfl rfl ?_
    refine kj_iast rfl (Nat.lt_of_lt_of_le (Nat.le_of_ble_eq_true rfl : 133 < 140) hE.1) (vp_lit (by decide +kernel)) (j := 0) (by decide +kernel) dX11_couples_33 (pc' := 34) rfl ?_
    refine kj_keep [true, false, true, true] (ls' := [some (.inr 120), none, some (.inl 0), some (.inl 1)]) rfl ?_
    refine lp_ind (P := fun s => KJ E mX11_couples rmX11_couples 34 [some (.inr 120), none, some (.inl s.1), some (.inl s.2.1)] [] s.2.2 Q) (fun rec34 s ih34 hT => ?_) FU (0, 1, up σ 133 0 x1) hT
    obtain ⟨x2, x3, σ⟩ := s
    show KJ E mX11_couples rmX11_couples 34 [some (.inr 120), none, some (.inl x2), some (.inl x3)] [] σ Q
    rw [X11_couples_B34] at hT
    refine kj_iload_n dX11_couples_34 (pc' := 35) rfl rfl rfl ?_
    refine kj_iload_n dX11_couples_35 (pc' := 36) rfl rfl rfl ?_
    refine kj_icmp_ge dX11_couples_36 (tgt := 156) rfl (pc' := 39) rfl (fun c1 => ?_) (fun c1 => ?_)
    · rw [if_pos c1] at hT
      refine kj_iconst dX11_couples_156 (pc' := 157) rfl kc_0 ?_
      have hR := Option.some.inj hT
      subst hR
      exact kj_zret rfl (Or.inl rfl) dX11_couples_157 (by subst hQ; exact ⟨rfl, rfl, (Or.inl rfl)⟩)
    · rw [if_neg c1] at hT
      refine kj_aload_n dX11_couples_39 (pc' := 40) rfl rfl rfl ?_
      refine kj_getR f_RX11_51 rfl (Nat.lt_of_lt_of_le (Nat.le_of_ble_eq_true rfl : 120 < 140) hE.1) (hE.2 _ _) (q := 133) rfl dX11_couples_40 (pc' := 43) rfl ?_
      refine kj_iload_n dX11_couples_43 (pc' := 44) rfl rfl rfl ?_
      obtain ⟨hi2, hT⟩ := ckA_some hT
      refine kj_iald rfl (Nat.lt_of_lt_of_le (Nat.le_of_ble_eq_true rfl : 133 < 140) hE.1) hi2 rfl dX11_couples_44 (pc' := 45) rfl ?_
      refine kj_istore dX11_couples_45 (pc' := 47) rfl (Nat.le_of_ble_eq_true rfl) (ls' := [some (.inr 120), none, some (.inl x2), some (.inl x3), some (.inl (σ 133 x2.toNatClampNeg))]) rfl ?_
      refine kj_iinc dX11_couples_47 (pc' := 50) rfl rfl (congrArg (_ + ·) kc_1) (Nat.le_of_ble_eq_true rfl) (ls' := [some (.inr 120), none, some (.inl (x2 + 1)), some (.inl x3), some (.inl (σ 133 x2.toNatClampNeg))]) rfl ?_
      refine kj_iconst dX11_couples_50 (pc' := 51) rfl kc_0 ?_
      refine kj_istore dX11_couples_51 (pc' := 53) rfl (Nat.le_of_ble_eq_true rfl) (ls' := [some (.inr 120), none, some (.inl (x2 + 1)), some (.inl x3), some (.inl (σ 133 x2.toNatClampNeg)), some (.inl 0)]) rfl ?_
      obtain ⟨t3, et3, hT⟩ := lett_i hT
      rw [← et3]
      obtain ⟨t4, et4, hT⟩ := lett_i hT
      rw [← et4]
      have hX53 : ∀ x3 σ, X11_couples_T153 rec34 t3 x3 σ = some res → KJ E mX11_couples rmX11_couples 153 [some (.inr 120), none, some (.inl t3), some (.inl x3)] [] σ Q := by
        intro x3 σ hT
        unfold X11_couples_T153 at hT
        refine kj_goto dX11_couples_153 (pc' := 34) rfl ?_
        exact ih34 (t3, x3, σ) hT
      refine lp_ind (P := fun s => KJ E mX11_couples rmX11_couples 53 [some (.inr 120), none, some (.inl t3), some (.inl s.1), some (.inl t4), some (.inl s.2.1)] [] s.2.2 Q) (fun rec53 s ih53 hT => ?_) FU (x3, 0, σ) hT
      obtain ⟨x3, x5, σ⟩ := s
      show KJ E mX11_couples rmX11_couples 53 [some (.inr 120), none, some (.inl t3), some (.inl x3), some (.inl t4), some (.inl x5)] [] σ Q
      rw [X11_couples_B53] at hT
      have hJ147_34_53 : ∀ y3 y5 ς, X11_couples_J147 rec53 y3 y5 ς = some res → KJ E mX11_couples rmX11_couples 147 [some (.inr 120), none, some (.inl t3), some (.inl y3), some (.inl t4), some (.inl y5)] [] ς Q := by
        intro y3 y5 ς hT
        unfold X11_couples_J147 at hT
        refine kj_iinc dX11_couples_147 (pc' := 150) rfl rfl (congrArg (_ + ·) kc_1) (Nat.le_of_ble_eq_true rfl) (ls' := [some (.inr 120), none, some (.inl t3), some (.inl y3), some (.inl t4), some (.inl (y5 + 1))]) rfl ?_
        refine kj_goto dX11_couples_150 (pc' := 53) rfl ?_
        exact ih53 (y3, y5 + 1, ς) hT
      refine kj_iload dX11_couples_53 (pc' := 55) rfl rfl ?_
      refine kj_aload_n dX11_couples_55 (pc' := 56) rfl rfl rfl ?_
      refine kj_getI f_RX11_141 rfl (Nat.lt_of_lt_of_le (Nat.le_of_ble_eq_true rfl : 120 < 140) hE.1) dX11_couples_56 (pc' := 59) rfl ?_
      refine kj_icmp_ge dX11_couples_59 (tgt := 153) rfl (pc' := 62) rfl (fun c5 => ?_) (fun c5 => ?_)
      · rw [if_pos c5] at hT
        refine kj_keep [true, false, true, true] (ls' := [some (.inr 120), none, some (.inl t3), some (.inl x3)]) rfl ?_
        exact hX53 x3 σ hT
      · rw [if_neg c5] at hT
        refine kj_iload dX11_couples_62 (pc' := 64) rfl rfl ?_
        refine kj_iload dX11_couples_64 (pc' := 66) rfl rfl ?_
        refine kj_icmp_eq dX11_couples_66 (tgt := 147) rfl (pc' := 69) rfl (fun c6 => ?_) (fun c6 => ?_)
        · rw [if_pos c6] at hT
          exact hJ147_34_53 x3 x5 σ hT
        · rw [if_neg c6] at hT
          refine kj_aload_n dX11_couples_69 (pc' := 70) rfl rfl rfl ?_
          refine kj_getR f_RX11_48 rfl (Nat.lt_of_lt_of_le (Nat.le_of_ble_eq_true rfl : 120 < 140) hE.1) (hE.2 _ _) (q := 132) rfl dX11_couples_70 (pc' := 73) rfl ?_
          refine kj_iload dX11_couples_73 (pc' := 75) rfl rfl ?_
          obtain ⟨hi7, hT⟩ := ckA_some hT
          refine kj_iald rfl (Nat.lt_of_lt_of_le (Nat.le_of_ble_eq_true rfl : 132 < 140) hE.1) hi7 rfl dX11_couples_75 (pc' := 76) rfl ?_
          refine kj_iconst dX11_couples_76 (pc' := 77) rfl kc_m1 ?_
          refine kj_icmp_ne dX11_couples_77 (tgt := 147) rfl (pc' := 80) rfl (fun c8 => ?_) (fun c8 => ?_)
          · rw [if_neg c8] at hT
            exact hJ147_34_53 x3 x5 σ hT
          · rw [if_pos c8] at hT
            refine kj_aload_n dX11_couples_80 (pc' := 81) rfl rfl rfl ?_
            refine kj_getR f_RX11_30 rfl (Nat.lt_of_lt_of_le (Nat.le_of_ble_eq_true rfl : 120 < 140) hE.1) (hE.2 _ _) (q := 126) rfl dX11_couples_81 (pc' := 84) rfl ?_
            refine kj_iload dX11_couples_84 (pc' := 86) rfl rfl ?_
            obtain ⟨hi9, hT⟩ := ckA_some hT
            refine kj_iald rfl (Nat.lt_of_lt_of_le (Nat.le_of_ble_eq_true rfl : 126 < 140) hE.1) hi9 rfl dX11_couples_86 (pc' := 87) rfl ?_
            refine kj_aload_n dX11_couples_87 (pc' := 88) rfl rfl rfl ?_
            refine kj_getR f_RX11_30 rfl (Nat.lt_of_lt_of_le (Nat.le_of_ble_eq_true rfl : 120 < 140) hE.1) (hE.2 _ _) (q := 126) rfl dX11_couples_88 (pc' := 91) rfl ?_
            refine kj_iload dX11_couples_91 (pc' := 93) rfl rfl ?_
            obtain ⟨hi10, hT⟩ := ckA_some hT
            refine kj_iald rfl (Nat.lt_of_lt_of_le (Nat.le_of_ble_eq_true rfl : 126 < 140) hE.1) hi10 rfl dX11_couples_93 (pc' := 94) rfl ?_
            refine kcSz (as := [.inl (σ 126 t4.toNatClampNeg), .inl (σ 126 x5.toNatClampNeg)]) (st := []) l_RX11_160 (m_X11_isWithin (Nat.zero_le _) σ (σ 126 t4.toNatClampNeg) (σ 126 x5.toNatClampNeg) rfl) rfl ⟨⟨rfl, rfl⟩, Nat.le_of_ble_eq_true rfl, Nat.le_of_ble_eq_true rfl⟩ (Nat.le_of_ble_eq_true rfl) dX11_couples_94 (pc' := 97) rfl (fun z11 => ?_)
            refine kj_if_ne dX11_couples_97 (tgt := 103) rfl (pc' := 100) rfl (fun c12 => ?_) (fun c12 => ?_)
            · rw [if_neg c12] at hT
              refine kj_aload_n dX11_couples_103 (pc' := 104) rfl rfl rfl ?_
              refine kj_getR f_RX11_48 rfl (Nat.lt_of_lt_of_le (Nat.le_of_ble_eq_true rfl : 120 < 140) hE.1) (hE.2 _ _) (q := 132) rfl dX11_couples_104 (pc' := 107) rfl ?_
              refine kj_iload dX11_couples_107 (pc' := 109) rfl rfl ?_
              refine kj_iload dX11_couples_109 (pc' := 111) rfl rfl ?_
              obtain ⟨hi13, hT⟩ := ckA_some hT
              refine kj_iast rfl (Nat.lt_of_lt_of_le (Nat.le_of_ble_eq_true rfl : 132 < 140) hE.1) hi13 rfl dX11_couples_111 (pc' := 112) rfl ?_
              refine kj_aload_n dX11_couples_112 (pc' := 113) rfl rfl rfl ?_
              refine kj_getR f_RX11_45 rfl (Nat.lt_of_lt_of_le (Nat.le_of_ble_eq_true rfl : 120 < 140) hE.1) (hE.2 _ _) (q := 131) rfl dX11_couples_113 (pc' := 116) rfl ?_
              refine kj_iload dX11_couples_116 (pc' := 118) rfl rfl ?_
              obtain ⟨hi14, hT⟩ := ckA_some hT
              refine kj_iald rfl (Nat.lt_of_lt_of_le (Nat.le_of_ble_eq_true rfl : 131 < 140) hE.1) hi14 rfl dX11_couples_118 (pc' := 119) rfl ?_
              refine kj_iconst dX11_couples_119 (pc' := 120) rfl kc_m1 ?_
              refine kj_icmp_ne dX11_couples_120 (tgt := 131) rfl (pc' := 123) rfl (fun c15 => ?_) (fun c15 => ?_)
              · rw [if_neg c15] at hT
                refine kj_aload_n dX11_couples_131 (pc' := 132) rfl rfl rfl ?_
                refine kj_getR f_RX11_51 rfl (Nat.lt_of_lt_of_le (Nat.le_of_ble_eq_true rfl : 120 < 140) hE.1) (hE.2 _ _) (q := 133) rfl dX11_couples_132 (pc' := 135) rfl ?_
                refine kj_iload_n dX11_couples_135 (pc' := 136) rfl rfl rfl ?_
                refine kj_aload_n dX11_couples_136 (pc' := 137) rfl rfl rfl ?_
                refine kj_getR f_RX11_45 rfl (Nat.lt_of_lt_of_le (Nat.le_of_ble_eq_true rfl : 120 < 140) hE.1) (hE.2 _ _) (q := 131) rfl dX11_couples_137 (pc' := 140) rfl ?_
                refine kj_iload dX11_couples_140 (pc' := 142) rfl rfl ?_
                obtain ⟨hi16, hT⟩ := ckA_some hT
                refine kj_iald rfl (Nat.lt_of_lt_of_le (Nat.le_of_ble_eq_true rfl : 131 < 140) hE.1) hi16 rfl dX11_couples_142 (pc' := 143) rfl ?_
                obtain ⟨hi17, hT⟩ := ckA_some hT
                refine kj_iast rfl (Nat.lt_of_lt_of_le (Nat.le_of_ble_eq_true rfl : 133 < 140) hE.1) hi17 rfl dX11_couples_143 (pc' := 144) rfl ?_
                refine kj_iinc dX11_couples_144 (pc' := 147) rfl rfl (congrArg (_ + ·) kc_1) (Nat.le_of_ble_eq_true rfl) (ls' := [some (.inr 120), none, some (.inl t3), some (.inl (x3 + 1)), some (.inl t4), some (.inl x5)]) rfl ?_
                exact hJ147_34_53 (x3 + 1) x5 (up (up σ 132 x5.toNatClampNeg t4) 133 x3.toNatClampNeg ((up σ 132 x5.toNatClampNeg t4) 131 x5.toNatClampNeg)) hT
              · rw [if_pos c15] at hT
                refine kj_aload_n dX11_couples_123 (pc' := 124) rfl rfl rfl ?_
                refine kj_iload dX11_couples_124 (pc' := 126) rfl rfl ?_
                obtain ⟨σ18, hσ18, hT⟩ := bind_some' hT
                refine kcVv (as := [.inl x5]) (st := []) l_RX11_197 (m_X11_turnsOver hE (up σ 132 x5.toNatClampNeg t4) x5 hσ18) rfl (Nat.lt_of_lt_of_le (Nat.le_of_ble_eq_true rfl : 120 < 140) hE.1) rfl ⟨⟨rfl, rfl⟩, Nat.le_of_ble_eq_true rfl, Nat.le_of_ble_eq_true rfl⟩ (Nat.le_of_ble_eq_true rfl) dX11_couples_126 (pc' := 129) rfl ?_
                refine kj_iconst dX11_couples_129 (pc' := 130) rfl kc_1 ?_
                have hR := Option.some.inj hT
                subst hR
                exact kj_zret rfl (Or.inr rfl) dX11_couples_130 (by subst hQ; exact ⟨rfl, rfl, (Or.inr rfl)⟩)
            · rw [if_pos c12] at hT
              refine kj_goto dX11_couples_100 (pc' := 147) rfl ?_
              exact hJ147_34_53 x3 x5 σ hT
  refine lp_ind (P := fun s => KJ E mX11_couples rmX11_couples 2 [some (.inr 120), some (.inl x1), some (.inl s.1)] [] s.2 Q) (fun rec2 s ih2 hT => ?_) FU (0, σ) hT
  obtain ⟨x2, σ⟩ := s
  show KJ E mX11_couples rmX11_couples 2 [some (.inr 120), some (.inl x1), some (.inl x2)] [] σ Q
  rw [X11_couples_B2] at hT
  refine kj_iload_n dX11_couples_2 (pc' := 3) rfl rfl rfl ?_
  refine kj_aload_n dX11_couples_3 (pc' := 4) rfl rfl rfl ?_
  refine kj_getI f_RX11_141 rfl (Nat.lt_of_lt_of_le (Nat.le_of_ble_eq_true rfl : 120 < 140) hE.1) dX11_couples_4 (pc' := 7) rfl ?_
  refine kj_icmp_ge dX11_couples_7 (tgt := 23) rfl (pc' := 10) rfl (fun c19 => ?_) (fun c19 => ?_)
  · rw [if_pos c19] at hT
    refine kj_keep [true, true] (ls' := [some (.inr 120), some (.inl x1)]) rfl ?_
    exact hX2 σ hT
  · rw [if_neg c19] at hT
    refine kj_aload_n dX11_couples_10 (pc' := 11) rfl rfl rfl ?_
    refine kj_getR f_RX11_48 rfl (Nat.lt_of_lt_of_le (Nat.le_of_ble_eq_true rfl : 120 < 140) hE.1) (hE.2 _ _) (q := 132) rfl dX11_couples_11 (pc' := 14) rfl ?_
    refine kj_iload_n dX11_couples_14 (pc' := 15) rfl rfl rfl ?_
    refine kj_iconst dX11_couples_15 (pc' := 16) rfl kc_m1 ?_
    obtain ⟨hi20, hT⟩ := ckA_some hT
    refine kj_iast rfl (Nat.lt_of_lt_of_le (Nat.le_of_ble_eq_true rfl : 132 < 140) hE.1) hi20 rfl dX11_couples_16 (pc' := 17) rfl ?_
    refine kj_iinc dX11_couples_17 (pc' := 20) rfl rfl (congrArg (_ + ·) kc_1) (Nat.le_of_ble_eq_true rfl) (ls' := [some (.inr 120), some (.inl x1), some (.inl (x2 + 1))]) rfl ?_
    refine kj_goto dX11_couples_20 (pc' := 2) rfl ?_
    exact ih2 (x2 + 1, up σ 132 x2.toNatClampNeg (-1)) hT
def X11_spread_J56 (rec37 : Int32 × Int32 × Wd → Option (Int32 × Wd)) (y1 : Int32) (y2 : Int32) (ς : Wd) : Option (Int32 × Wd) :=
  rec37 (y1, y2 + 1, ς)
def X11_spread_B37 (rec37 : Int32 × Int32 × Wd → Option (Int32 × Wd)) : Int32 × Int32 × Wd → Option (Int32 × Wd)
  | (x1, x2, σ) => (if (σ 120 10) ≤ x2 then some (x1, σ) else ((X11_couples σ x2).bind fun (t2, σ3) => (if t2 = 0 then X11_spread_J56 rec37 x1 x2 σ3 else X11_spread_J56 rec37 (x1 + (-1)) x2 σ3)))
def X11_spread_T30 (σ : Wd) : Option (Int32 × Wd) :=
  (lp (X11_spread_B37) FU (σ 120 10, 0, σ))
def X11_spread_B2 (kx2 : Wd → Option (Int32 × Wd)) (rec2 : Int32 × Wd → Option (Int32 × Wd)) : Int32 × Wd → Option (Int32 × Wd)
  | (x1, σ) => (if (σ 120 10) ≤ x1 then kx2 σ else (ckA x1 128 <| (ckA x1 128 <| rec2 (x1 + 1, up (up σ 130 x1.toNatClampNeg (-1)) 131 x1.toNatClampNeg (-1)))))
def X11_spread (σ : Wd) : Option (Int32 × Wd) :=
  (lp (X11_spread_B2 X11_spread_T30) FU (0, σ))
set_option maxRecDepth 100000 in
set_option maxHeartbeats 4000000 in
theorem m_X11_spread {E : JE} (hE : kOk 140 E) (σ : Wd) {res : Int32 × Wd} (hT : X11_spread σ = some res) : kMt E yX11_spread mX11_spread rmX11_spread [.inr 120] σ (kQi res.1 res.2) := by
  refine kMt_of (by decide +kernel) rfl (Nat.le_of_ble_eq_true rfl) ?_
  generalize hQ : (kQi res.1 res.2) = Q
  show KJ E mX11_spread rmX11_spread 0 [some (.inr 120)] [] σ Q
  unfold X11_spread at hT
  refine kj_iconst dX11_spread_0 (pc' := 1) rfl kc_0 ?_
  refine kj_istore_n dX11_spread_1 (pc' := 2) rfl rfl (Nat.le_of_ble_eq_true rfl) (ls' := [some (.inr 120), some (.inl 0)]) rfl ?_
  have hX2 : ∀ σ, X11_spread_T30 σ = some res → KJ E mX11_spread rmX11_spread 30 [some (.inr 120)] [] σ Q := by
    intro σ hT
    unfold X11_spread_T30 at hT
    refine kj_aload_n dX11_spread_30 (pc' := 31) rfl rfl rfl ?_
    refine kj_getI f_RX11_141 rfl (Nat.lt_of_lt_of_le (Nat.le_of_ble_eq_true rfl : 120 < 140) hE.1) dX11_spread_31 (pc' := 34) rfl ?_
    refine kj_istore_n dX11_spread_34 (pc' := 35) rfl rfl (Nat.le_of_ble_eq_true rfl) (ls' := [some (.inr 120), some (.inl (σ 120 10))]) rfl ?_
    refine kj_iconst dX11_spread_35 (pc' := 36) rfl kc_0 ?_
    refine kj_istore_n dX11_spread_36 (pc' := 37) rfl rfl (Nat.le_of_ble_eq_true rfl) (ls' := [some (.inr 120), some (.inl (σ 120 10)), some (.inl 0)]) rfl ?_
    refine lp_ind (P := fun s => KJ E mX11_spread rmX11_spread 37 [some (.inr 120), some (.inl s.1), some (.inl s.2.1)] [] s.2.2 Q) (fun rec37 s ih37 hT => ?_) FU (σ 120 10, 0, σ) hT
    obtain ⟨x1, x2, σ⟩ := s
    show KJ E mX11_spread rmX11_spread 37 [some (.inr 120), some (.inl x1), some (.inl x2)] [] σ Q
    rw [X11_spread_B37] at hT
    have hJ56_37 : ∀ y1 y2 ς, X11_spread_J56 rec37 y1 y2 ς = some res → KJ E mX11_spread rmX11_spread 56 [some (.inr 120), some (.inl y1), some (.inl y2)] [] ς Q := by
      intro y1 y2 ς hT
      unfold X11_spread_J56 at hT
      refine kj_iinc dX11_spread_56 (pc' := 59) rfl rfl (congrArg (_ + ·) kc_1) (Nat.le_of_ble_eq_true rfl) (ls' := [some (.inr 120), some (.inl y1), some (.inl (y2 + 1))]) rfl ?_
      refine kj_goto dX11_spread_59 (pc' := 37) rfl ?_
      exact ih37 (y1, y2 + 1, ς) hT
    refine kj_iload_n dX11_spread_37 (pc' := 38) rfl rfl rfl ?_
    refine kj_aload_n dX11_spread_38 (pc' := 39) rfl rfl rfl ?_
    refine kj_getI f_RX11_141 rfl (Nat.lt_of_lt_of_le (Nat.le_of_ble_eq_true rfl : 120 < 140) hE.1) dX11_spread_39 (pc' := 42) rfl ?_
    refine kj_icmp_ge dX11_spread_42 (tgt := 62) rfl (pc' := 45) rfl (fun c1 => ?_) (fun c1 => ?_)
    · rw [if_pos c1] at hT
      refine kj_iload_n dX11_spread_62 (pc' := 63) rfl rfl rfl ?_
      have hR := Option.some.inj hT
      subst hR
      exact kj_iret rfl dX11_spread_63 (by subst hQ; exact ⟨rfl, rfl⟩)
    · rw [if_neg c1] at hT
      refine kj_aload_n dX11_spread_45 (pc' := 46) rfl rfl rfl ?_
      refine kj_iload_n dX11_spread_46 (pc' := 47) rfl rfl rfl ?_
      obtain ⟨t2, ht2, hT⟩ := bind_some' hT
      obtain ⟨t2, σ3⟩ := t2
      dsimp only at hT
      refine kcVz (as := [.inl x2]) (st := []) l_RX11_200 (m_X11_couples hE σ x2 ht2) rfl (Nat.lt_of_lt_of_le (Nat.le_of_ble_eq_true rfl : 120 < 140) hE.1) rfl ⟨⟨rfl, rfl⟩, Nat.le_of_ble_eq_true rfl, Nat.le_of_ble_eq_true rfl⟩ (Nat.le_of_ble_eq_true rfl) dX11_spread_47 (pc' := 50) rfl (fun z4 => ?_)
      refine kj_if_eq dX11_spread_50 (tgt := 56) rfl (pc' := 53) rfl (fun c5 => ?_) (fun c5 => ?_)
      · rw [if_pos c5] at hT
        exact hJ56_37 x1 x2 σ3 hT
      · rw [if_neg c5] at hT
        refine kj_iinc dX11_spread_53 (pc' := 56) rfl rfl (congrArg (_ + ·) kc_m1) (Nat.le_of_ble_eq_true rfl) (ls' := [some (.inr 120), some (.inl (x1 + (-1))), some (.inl x2)]) rfl ?_
        exact hJ56_37 (x1 + (-1)) x2 σ3 hT
  refine lp_ind (P := fun s => KJ E mX11_spread rmX11_spread 2 [some (.inr 120), some (.inl s.1)] [] s.2 Q) (fun rec2 s ih2 hT => ?_) FU (0, σ) hT
  obtain ⟨x1, σ⟩ := s
  show KJ E mX11_spread rmX11_spread 2 [some (.inr 120), some (.inl x1)] [] σ Q
  rw [X11_spread_B2] at hT
  refine kj_iload_n dX11_spread_2 (pc' := 3) rfl rfl rfl ?_
  refine kj_aload_n dX11_spread_3 (pc' := 4) rfl rfl rfl ?_
  refine kj_getI f_RX11_141 rfl (Nat.lt_of_lt_of_le (Nat.le_of_ble_eq_true rfl : 120 < 140) hE.1) dX11_spread_4 (pc' := 7) rfl ?_
  refine kj_icmp_ge dX11_spread_7 (tgt := 30) rfl (pc' := 10) rfl (fun c6 => ?_) (fun c6 => ?_)
  · rw [if_pos c6] at hT
    refine kj_keep [true] (ls' := [some (.inr 120)]) rfl ?_
    exact hX2 σ hT
  · rw [if_neg c6] at hT
    refine kj_aload_n dX11_spread_10 (pc' := 11) rfl rfl rfl ?_
    refine kj_getR f_RX11_42 rfl (Nat.lt_of_lt_of_le (Nat.le_of_ble_eq_true rfl : 120 < 140) hE.1) (hE.2 _ _) (q := 130) rfl dX11_spread_11 (pc' := 14) rfl ?_
    refine kj_iload_n dX11_spread_14 (pc' := 15) rfl rfl rfl ?_
    refine kj_iconst dX11_spread_15 (pc' := 16) rfl kc_m1 ?_
    obtain ⟨hi7, hT⟩ := ckA_some hT
    refine kj_iast rfl (Nat.lt_of_lt_of_le (Nat.le_of_ble_eq_true rfl : 130 < 140) hE.1) hi7 rfl dX11_spread_16 (pc' := 17) rfl ?_
    refine kj_aload_n dX11_spread_17 (pc' := 18) rfl rfl rfl ?_
    refine kj_getR f_RX11_45 rfl (Nat.lt_of_lt_of_le (Nat.le_of_ble_eq_true rfl : 120 < 140) hE.1) (hE.2 _ _) (q := 131) rfl dX11_spread_18 (pc' := 21) rfl ?_
    refine kj_iload_n dX11_spread_21 (pc' := 22) rfl rfl rfl ?_
    refine kj_iconst dX11_spread_22 (pc' := 23) rfl kc_m1 ?_
    obtain ⟨hi8, hT⟩ := ckA_some hT
    refine kj_iast rfl (Nat.lt_of_lt_of_le (Nat.le_of_ble_eq_true rfl : 131 < 140) hE.1) hi8 rfl dX11_spread_23 (pc' := 24) rfl ?_
    refine kj_iinc dX11_spread_24 (pc' := 27) rfl rfl (congrArg (_ + ·) kc_1) (Nat.le_of_ble_eq_true rfl) (ls' := [some (.inr 120), some (.inl (x1 + 1))]) rfl ?_
    refine kj_goto dX11_spread_27 (pc' := 2) rfl ?_
    exact ih2 (x1 + 1, up (up σ 130 x1.toNatClampNeg (-1)) 131 x1.toNatClampNeg (-1)) hT
def X11_traces_B24 (x1 : Int32) (rec24 : Int32 × Wd → Option (Int32 × Wd)) : Int32 × Wd → Option (Int32 × Wd)
  | (x2, σ) => (if (σ 120 10) ≤ x2 then ((X11_manyOf σ 134).bind fun t2 => some (t2, σ)) else (ckA x2 128 <| (ckA ((σ 126 x2.toNatClampNeg) &&& x1) 128 <| rec24 (x2 + 1, up σ 134 (((σ 126 x2.toNatClampNeg) &&& x1).toNatClampNeg) 1))))
def X11_traces_T22 (x1 : Int32) (σ : Wd) : Option (Int32 × Wd) :=
  (lp (X11_traces_B24 x1) FU (0, σ))
def X11_traces_B2 (kx2 : Wd → Option (Int32 × Wd)) (rec2 : Int32 × Wd → Option (Int32 × Wd)) : Int32 × Wd → Option (Int32 × Wd)
  | (x2, σ) => (if 128 ≤ x2 then kx2 σ else (ckA x2 128 <| rec2 (x2 + 1, up σ 134 x2.toNatClampNeg 0)))
def X11_traces (σ : Wd) (x1 : Int32) : Option (Int32 × Wd) :=
  (lp (X11_traces_B2 (X11_traces_T22 x1)) FU (0, σ))
set_option maxRecDepth 100000 in
set_option maxHeartbeats 4000000 in
theorem m_X11_traces {E : JE} (hE : kOk 140 E) (σ : Wd) (x1 : Int32) {res : Int32 × Wd} (hT : X11_traces σ x1 = some res) : kMt E yX11_traces mX11_traces rmX11_traces [.inr 120, .inl x1] σ (kQi res.1 res.2) := by
  refine kMt_of (by decide +kernel) rfl (Nat.le_of_ble_eq_true rfl) ?_
  generalize hQ : (kQi res.1 res.2) = Q
  show KJ E mX11_traces rmX11_traces 0 [some (.inr 120), some (.inl x1)] [] σ Q
  unfold X11_traces at hT
  refine kj_iconst dX11_traces_0 (pc' := 1) rfl kc_0 ?_
  refine kj_istore_n dX11_traces_1 (pc' := 2) rfl rfl (Nat.le_of_ble_eq_true rfl) (ls' := [some (.inr 120), some (.inl x1), some (.inl 0)]) rfl ?_
  have hX2 : ∀ σ, X11_traces_T22 x1 σ = some res → KJ E mX11_traces rmX11_traces 22 [some (.inr 120), some (.inl x1)] [] σ Q := by
    intro σ hT
    unfold X11_traces_T22 at hT
    refine kj_iconst dX11_traces_22 (pc' := 23) rfl kc_0 ?_
    refine kj_istore_n dX11_traces_23 (pc' := 24) rfl rfl (Nat.le_of_ble_eq_true rfl) (ls' := [some (.inr 120), some (.inl x1), some (.inl 0)]) rfl ?_
    refine lp_ind (P := fun s => KJ E mX11_traces rmX11_traces 24 [some (.inr 120), some (.inl x1), some (.inl s.1)] [] s.2 Q) (fun rec24 s ih24 hT => ?_) FU (0, σ) hT
    obtain ⟨x2, σ⟩ := s
    show KJ E mX11_traces rmX11_traces 24 [some (.inr 120), some (.inl x1), some (.inl x2)] [] σ Q
    rw [X11_traces_B24] at hT
    refine kj_iload_n dX11_traces_24 (pc' := 25) rfl rfl rfl ?_
    refine kj_aload_n dX11_traces_25 (pc' := 26) rfl rfl rfl ?_
    refine kj_getI f_RX11_141 rfl (Nat.lt_of_lt_of_le (Nat.le_of_ble_eq_true rfl : 120 < 140) hE.1) dX11_traces_26 (pc' := 29) rfl ?_
    refine kj_icmp_ge dX11_traces_29 (tgt := 52) rfl (pc' := 32) rfl (fun c1 => ?_) (fun c1 => ?_)
    · rw [if_pos c1] at hT
      refine kj_aload_n dX11_traces_52 (pc' := 53) rfl rfl rfl ?_
      refine kj_getR f_RX11_54 rfl (Nat.lt_of_lt_of_le (Nat.le_of_ble_eq_true rfl : 120 < 140) hE.1) (hE.2 _ _) (q := 134) rfl dX11_traces_53 (pc' := 56) rfl ?_
      obtain ⟨t2, ht2, hT⟩ := bind_some' hT
      refine kcSi (as := [.inr 134]) (st := []) l_RX11_167 (m_X11_manyOf (Nat.zero_le _) rfl (Nat.lt_of_lt_of_le (Nat.le_of_ble_eq_true rfl : 134 < 140) hE.1) σ ht2) rfl ⟨⟨rfl, rfl⟩, Nat.le_of_ble_eq_true rfl, Nat.le_of_ble_eq_true rfl⟩ (Nat.le_of_ble_eq_true rfl) dX11_traces_56 (pc' := 59) rfl ?_
      have hR := Option.some.inj hT
      subst hR
      exact kj_iret rfl dX11_traces_59 (by subst hQ; exact ⟨rfl, rfl⟩)
    · rw [if_neg c1] at hT
      refine kj_aload_n dX11_traces_32 (pc' := 33) rfl rfl rfl ?_
      refine kj_getR f_RX11_54 rfl (Nat.lt_of_lt_of_le (Nat.le_of_ble_eq_true rfl : 120 < 140) hE.1) (hE.2 _ _) (q := 134) rfl dX11_traces_33 (pc' := 36) rfl ?_
      refine kj_aload_n dX11_traces_36 (pc' := 37) rfl rfl rfl ?_
      refine kj_getR f_RX11_30 rfl (Nat.lt_of_lt_of_le (Nat.le_of_ble_eq_true rfl : 120 < 140) hE.1) (hE.2 _ _) (q := 126) rfl dX11_traces_37 (pc' := 40) rfl ?_
      refine kj_iload_n dX11_traces_40 (pc' := 41) rfl rfl rfl ?_
      obtain ⟨hi3, hT⟩ := ckA_some hT
      refine kj_iald rfl (Nat.lt_of_lt_of_le (Nat.le_of_ble_eq_true rfl : 126 < 140) hE.1) hi3 rfl dX11_traces_41 (pc' := 42) rfl ?_
      refine kj_iload_n dX11_traces_42 (pc' := 43) rfl rfl rfl ?_
      refine kj_iand dX11_traces_43 (pc' := 44) rfl ?_
      refine kj_iconst dX11_traces_44 (pc' := 45) rfl kc_1 ?_
      obtain ⟨hi4, hT⟩ := ckA_some hT
      refine kj_zast rfl (Nat.lt_of_lt_of_le (Nat.le_of_ble_eq_true rfl : 134 < 140) hE.1) hi4 (y := 1) (by decide +kernel) rfl dX11_traces_45 (pc' := 46) rfl ?_
      refine kj_iinc dX11_traces_46 (pc' := 49) rfl rfl (congrArg (_ + ·) kc_1) (Nat.le_of_ble_eq_true rfl) (ls' := [some (.inr 120), some (.inl x1), some (.inl (x2 + 1))]) rfl ?_
      refine kj_goto dX11_traces_49 (pc' := 24) rfl ?_
      exact ih24 (x2 + 1, up σ 134 (((σ 126 x2.toNatClampNeg) &&& x1).toNatClampNeg) 1) hT
  refine lp_ind (P := fun s => KJ E mX11_traces rmX11_traces 2 [some (.inr 120), some (.inl x1), some (.inl s.1)] [] s.2 Q) (fun rec2 s ih2 hT => ?_) FU (0, σ) hT
  obtain ⟨x2, σ⟩ := s
  show KJ E mX11_traces rmX11_traces 2 [some (.inr 120), some (.inl x1), some (.inl x2)] [] σ Q
  rw [X11_traces_B2] at hT
  refine kj_iload_n dX11_traces_2 (pc' := 3) rfl rfl rfl ?_
  refine kj_sipush dX11_traces_3 (pc' := 6) rfl ks_128 ?_
  refine kj_icmp_ge dX11_traces_6 (tgt := 22) rfl (pc' := 9) rfl (fun c5 => ?_) (fun c5 => ?_)
  · rw [if_pos c5] at hT
    refine kj_keep [true, true] (ls' := [some (.inr 120), some (.inl x1)]) rfl ?_
    exact hX2 σ hT
  · rw [if_neg c5] at hT
    refine kj_aload_n dX11_traces_9 (pc' := 10) rfl rfl rfl ?_
    refine kj_getR f_RX11_54 rfl (Nat.lt_of_lt_of_le (Nat.le_of_ble_eq_true rfl : 120 < 140) hE.1) (hE.2 _ _) (q := 134) rfl dX11_traces_10 (pc' := 13) rfl ?_
    refine kj_iload_n dX11_traces_13 (pc' := 14) rfl rfl rfl ?_
    refine kj_iconst dX11_traces_14 (pc' := 15) rfl kc_0 ?_
    obtain ⟨hi6, hT⟩ := ckA_some hT
    refine kj_zast rfl (Nat.lt_of_lt_of_le (Nat.le_of_ble_eq_true rfl : 134 < 140) hE.1) hi6 (y := 0) (by decide +kernel) rfl dX11_traces_15 (pc' := 16) rfl ?_
    refine kj_iinc dX11_traces_16 (pc' := 19) rfl rfl (congrArg (_ + ·) kc_1) (Nat.le_of_ble_eq_true rfl) (ls' := [some (.inr 120), some (.inl x1), some (.inl (x2 + 1))]) rfl ?_
    refine kj_goto dX11_traces_19 (pc' := 2) rfl ?_
    exact ih2 (x2 + 1, up σ 134 x2.toNatClampNeg 0) hT
def X11_isShattered (σ : Wd) (x1 : Int32) : Option (Int32 × Wd) :=
  ((X11_traces σ x1).bind fun (t1, σ2) => ((X11_ones x1).bind fun t3 => (if t1 = (1 <<< (t3 &&& 31)) then some (1, σ2) else some (0, σ2))))
set_option maxRecDepth 100000 in
set_option maxHeartbeats 4000000 in
theorem m_X11_isShattered {E : JE} (hE : kOk 140 E) (σ : Wd) (x1 : Int32) {res : Int32 × Wd} (hT : X11_isShattered σ x1 = some res) : kMt E yX11_isShattered mX11_isShattered rmX11_isShattered [.inr 120, .inl x1] σ (kQz res.1 res.2) := by
  refine kMt_of (by decide +kernel) rfl (Nat.le_of_ble_eq_true rfl) ?_
  generalize hQ : (kQz res.1 res.2) = Q
  show KJ E mX11_isShattered rmX11_isShattered 0 [some (.inr 120), some (.inl x1)] [] σ Q
  unfold X11_isShattered at hT
  refine kj_aload_n dX11_isShattered_0 (pc' := 1) rfl rfl rfl ?_
  refine kj_iload_n dX11_isShattered_1 (pc' := 2) rfl rfl rfl ?_
  obtain ⟨t1, ht1, hT⟩ := bind_some' hT
  obtain ⟨t1, σ2⟩ := t1
  dsimp only at hT
  refine kcVi (as := [.inl x1]) (st := []) l_RX11_203 (m_X11_traces hE σ x1 ht1) rfl (Nat.lt_of_lt_of_le (Nat.le_of_ble_eq_true rfl : 120 < 140) hE.1) rfl ⟨⟨rfl, rfl⟩, Nat.le_of_ble_eq_true rfl, Nat.le_of_ble_eq_true rfl⟩ (Nat.le_of_ble_eq_true rfl) dX11_isShattered_2 (pc' := 5) rfl ?_
  refine kj_iconst dX11_isShattered_5 (pc' := 6) rfl kc_1 ?_
  refine kj_iload_n dX11_isShattered_6 (pc' := 7) rfl rfl rfl ?_
  obtain ⟨t3, ht3, hT⟩ := bind_some' hT
  refine kcSi (as := [.inl x1]) (st := [.inl 1, .inl t1]) l_RX11_157 (m_X11_ones (Nat.zero_le _) σ2 x1 ht3) rfl ⟨⟨rfl, rfl⟩, Nat.le_of_ble_eq_true rfl, Nat.le_of_ble_eq_true rfl⟩ (Nat.le_of_ble_eq_true rfl) dX11_isShattered_7 (pc' := 10) rfl ?_
  refine kj_ishl dX11_isShattered_10 (pc' := 11) rfl ?_
  refine kj_icmp_ne dX11_isShattered_11 (tgt := 18) rfl (pc' := 14) rfl (fun c4 => ?_) (fun c4 => ?_)
  · rw [if_neg c4] at hT
    refine kj_iconst dX11_isShattered_18 (pc' := 19) rfl kc_0 ?_
    have hR := Option.some.inj hT
    subst hR
    exact kj_zret rfl (Or.inl rfl) dX11_isShattered_19 (by subst hQ; exact ⟨rfl, rfl, (Or.inl rfl)⟩)
  · rw [if_pos c4] at hT
    refine kj_iconst dX11_isShattered_14 (pc' := 15) rfl kc_1 ?_
    refine kj_goto dX11_isShattered_15 (pc' := 19) rfl ?_
    have hR := Option.some.inj hT
    subst hR
    exact kj_zret rfl (Or.inr rfl) dX11_isShattered_19 (by subst hQ; exact ⟨rfl, rfl, (Or.inr rfl)⟩)
def X11_depth_J33 (rec4 : Int32 × Int32 × Wd → Option (Int32 × Wd)) (y1 : Int32) (y2 : Int32) (ς : Wd) : Option (Int32 × Wd) :=
  rec4 (y1, y2 + 1, ς)
def X11_depth_B4 (rec4 : Int32 × Int32 × Wd → Option (Int32 × Wd)) : Int32 × Int32 × Wd → Option (Int32 × Wd)
  | (x1, x2, σ) => (if (X11_allPoints σ) < x2 then some (x1, σ) else ((X11_ones x2).bind fun t2 => (if t2 ≤ x1 then X11_depth_J33 rec4 x1 x2 σ else ((X11_isShattered σ x2).bind fun (t4, σ5) => (if t4 = 0 then X11_depth_J33 rec4 x1 x2 σ5 else ((X11_ones x2).bind fun t8 => X11_depth_J33 rec4 t8 x2 σ5))))))
def X11_depth (σ : Wd) : Option (Int32 × Wd) :=
  (lp (X11_depth_B4) FU (0, 0, σ))
set_option maxRecDepth 100000 in
set_option maxHeartbeats 4000000 in
theorem m_X11_depth {E : JE} (hE : kOk 140 E) (σ : Wd) {res : Int32 × Wd} (hT : X11_depth σ = some res) : kMt E yX11_depth mX11_depth rmX11_depth [.inr 120] σ (kQi res.1 res.2) := by
  refine kMt_of (by decide +kernel) rfl (Nat.le_of_ble_eq_true rfl) ?_
  generalize hQ : (kQi res.1 res.2) = Q
  show KJ E mX11_depth rmX11_depth 0 [some (.inr 120)] [] σ Q
  unfold X11_depth at hT
  refine kj_iconst dX11_depth_0 (pc' := 1) rfl kc_0 ?_
  refine kj_istore_n dX11_depth_1 (pc' := 2) rfl rfl (Nat.le_of_ble_eq_true rfl) (ls' := [some (.inr 120), some (.inl 0)]) rfl ?_
  refine kj_iconst dX11_depth_2 (pc' := 3) rfl kc_0 ?_
  refine kj_istore_n dX11_depth_3 (pc' := 4) rfl rfl (Nat.le_of_ble_eq_true rfl) (ls' := [some (.inr 120), some (.inl 0), some (.inl 0)]) rfl ?_
  refine lp_ind (P := fun s => KJ E mX11_depth rmX11_depth 4 [some (.inr 120), some (.inl s.1), some (.inl s.2.1)] [] s.2.2 Q) (fun rec4 s ih4 hT => ?_) FU (0, 0, σ) hT
  obtain ⟨x1, x2, σ⟩ := s
  show KJ E mX11_depth rmX11_depth 4 [some (.inr 120), some (.inl x1), some (.inl x2)] [] σ Q
  rw [X11_depth_B4] at hT
  have hJ33_4 : ∀ y1 y2 ς, X11_depth_J33 rec4 y1 y2 ς = some res → KJ E mX11_depth rmX11_depth 33 [some (.inr 120), some (.inl y1), some (.inl y2)] [] ς Q := by
    intro y1 y2 ς hT
    unfold X11_depth_J33 at hT
    refine kj_iinc dX11_depth_33 (pc' := 36) rfl rfl (congrArg (_ + ·) kc_1) (Nat.le_of_ble_eq_true rfl) (ls' := [some (.inr 120), some (.inl y1), some (.inl (y2 + 1))]) rfl ?_
    refine kj_goto dX11_depth_36 (pc' := 4) rfl ?_
    exact ih4 (y1, y2 + 1, ς) hT
  refine kj_iload_n dX11_depth_4 (pc' := 5) rfl rfl rfl ?_
  refine kj_aload_n dX11_depth_5 (pc' := 6) rfl rfl rfl ?_
  refine kcVi (as := []) (st := [.inl x2]) l_RX11_88 (m_X11_allPoints hE σ rfl) rfl (Nat.lt_of_lt_of_le (Nat.le_of_ble_eq_true rfl : 120 < 140) hE.1) rfl ⟨⟨rfl, rfl⟩, Nat.le_of_ble_eq_true rfl, Nat.le_of_ble_eq_true rfl⟩ (Nat.le_of_ble_eq_true rfl) dX11_depth_6 (pc' := 9) rfl ?_
  refine kj_icmp_gt dX11_depth_9 (tgt := 39) rfl (pc' := 12) rfl (fun c1 => ?_) (fun c1 => ?_)
  · rw [if_pos c1] at hT
    refine kj_iload_n dX11_depth_39 (pc' := 40) rfl rfl rfl ?_
    have hR := Option.some.inj hT
    subst hR
    exact kj_iret rfl dX11_depth_40 (by subst hQ; exact ⟨rfl, rfl⟩)
  · rw [if_neg c1] at hT
    refine kj_iload_n dX11_depth_12 (pc' := 13) rfl rfl rfl ?_
    obtain ⟨t2, ht2, hT⟩ := bind_some' hT
    refine kcSi (as := [.inl x2]) (st := []) l_RX11_157 (m_X11_ones (Nat.zero_le _) σ x2 ht2) rfl ⟨⟨rfl, rfl⟩, Nat.le_of_ble_eq_true rfl, Nat.le_of_ble_eq_true rfl⟩ (Nat.le_of_ble_eq_true rfl) dX11_depth_13 (pc' := 16) rfl ?_
    refine kj_iload_n dX11_depth_16 (pc' := 17) rfl rfl rfl ?_
    refine kj_icmp_le dX11_depth_17 (tgt := 33) rfl (pc' := 20) rfl (fun c3 => ?_) (fun c3 => ?_)
    · rw [if_pos c3] at hT
      exact hJ33_4 x1 x2 σ hT
    · rw [if_neg c3] at hT
      refine kj_aload_n dX11_depth_20 (pc' := 21) rfl rfl rfl ?_
      refine kj_iload_n dX11_depth_21 (pc' := 22) rfl rfl rfl ?_
      obtain ⟨t4, ht4, hT⟩ := bind_some' hT
      obtain ⟨t4, σ5⟩ := t4
      dsimp only at hT
      refine kcVz (as := [.inl x2]) (st := []) l_RX11_206 (m_X11_isShattered hE σ x2 ht4) rfl (Nat.lt_of_lt_of_le (Nat.le_of_ble_eq_true rfl : 120 < 140) hE.1) rfl ⟨⟨rfl, rfl⟩, Nat.le_of_ble_eq_true rfl, Nat.le_of_ble_eq_true rfl⟩ (Nat.le_of_ble_eq_true rfl) dX11_depth_22 (pc' := 25) rfl (fun z6 => ?_)
      refine kj_if_eq dX11_depth_25 (tgt := 33) rfl (pc' := 28) rfl (fun c7 => ?_) (fun c7 => ?_)
      · rw [if_pos c7] at hT
        exact hJ33_4 x1 x2 σ5 hT
      · rw [if_neg c7] at hT
        refine kj_iload_n dX11_depth_28 (pc' := 29) rfl rfl rfl ?_
        obtain ⟨t8, ht8, hT⟩ := bind_some' hT
        refine kcSi (as := [.inl x2]) (st := []) l_RX11_157 (m_X11_ones (Nat.zero_le _) σ5 x2 ht8) rfl ⟨⟨rfl, rfl⟩, Nat.le_of_ble_eq_true rfl, Nat.le_of_ble_eq_true rfl⟩ (Nat.le_of_ble_eq_true rfl) dX11_depth_29 (pc' := 32) rfl ?_
        refine kj_istore_n dX11_depth_32 (pc' := 33) rfl rfl (Nat.le_of_ble_eq_true rfl) (ls' := [some (.inr 120), some (.inl t8), some (.inl x2)]) rfl ?_
        exact hJ33_4 t8 x2 σ5 hT
def X11_coverMany_B4 (σ : Wd) (rec4 : Int32 × Int32 → Option (Int32)) : Int32 × Int32 → Option (Int32)
  | (x1, x2) => (if (σ 120 10) ≤ x2 then some x1 else (ckA x2 128 <| ((X11_degreeOf σ (σ 126 x2.toNatClampNeg) 1).bind fun t4 => rec4 (x1 + t4, x2 + 1))))
def X11_coverMany (σ : Wd) : Option (Int32) :=
  (lp (X11_coverMany_B4 σ) FU (0, 0))
set_option maxRecDepth 100000 in
set_option maxHeartbeats 4000000 in
theorem m_X11_coverMany {E : JE} (hE : kOk 140 E) (σ : Wd) {res : Int32} (hT : X11_coverMany σ = some res) : kMt E yX11_coverMany mX11_coverMany rmX11_coverMany [.inr 120] σ (kQi res σ) := by
  refine kMt_of (by decide +kernel) rfl (Nat.le_of_ble_eq_true rfl) ?_
  generalize hQ : (kQi res σ) = Q
  show KJ E mX11_coverMany rmX11_coverMany 0 [some (.inr 120)] [] σ Q
  unfold X11_coverMany at hT
  refine kj_iconst dX11_coverMany_0 (pc' := 1) rfl kc_0 ?_
  refine kj_istore_n dX11_coverMany_1 (pc' := 2) rfl rfl (Nat.le_of_ble_eq_true rfl) (ls' := [some (.inr 120), some (.inl 0)]) rfl ?_
  refine kj_iconst dX11_coverMany_2 (pc' := 3) rfl kc_0 ?_
  refine kj_istore_n dX11_coverMany_3 (pc' := 4) rfl rfl (Nat.le_of_ble_eq_true rfl) (ls' := [some (.inr 120), some (.inl 0), some (.inl 0)]) rfl ?_
  refine lp_ind (P := fun s => KJ E mX11_coverMany rmX11_coverMany 4 [some (.inr 120), some (.inl s.1), some (.inl s.2)] [] σ Q) (fun rec4 s ih4 hT => ?_) FU (0, 0) hT
  obtain ⟨x1, x2⟩ := s
  show KJ E mX11_coverMany rmX11_coverMany 4 [some (.inr 120), some (.inl x1), some (.inl x2)] [] σ Q
  rw [X11_coverMany_B4] at hT
  refine kj_iload_n dX11_coverMany_4 (pc' := 5) rfl rfl rfl ?_
  refine kj_aload_n dX11_coverMany_5 (pc' := 6) rfl rfl rfl ?_
  refine kj_getI f_RX11_141 rfl (Nat.lt_of_lt_of_le (Nat.le_of_ble_eq_true rfl : 120 < 140) hE.1) dX11_coverMany_6 (pc' := 9) rfl ?_
  refine kj_icmp_ge dX11_coverMany_9 (tgt := 32) rfl (pc' := 12) rfl (fun c2 => ?_) (fun c2 => ?_)
  · rw [if_pos c2] at hT
    refine kj_iload_n dX11_coverMany_32 (pc' := 33) rfl rfl rfl ?_
    have hR := Option.some.inj hT
    subst hR
    exact kj_iret rfl dX11_coverMany_33 (by subst hQ; exact ⟨rfl, rfl⟩)
  · rw [if_neg c2] at hT
    refine kj_iload_n dX11_coverMany_12 (pc' := 13) rfl rfl rfl ?_
    refine kj_aload_n dX11_coverMany_13 (pc' := 14) rfl rfl rfl ?_
    refine kj_aload_n dX11_coverMany_14 (pc' := 15) rfl rfl rfl ?_
    refine kj_getR f_RX11_30 rfl (Nat.lt_of_lt_of_le (Nat.le_of_ble_eq_true rfl : 120 < 140) hE.1) (hE.2 _ _) (q := 126) rfl dX11_coverMany_15 (pc' := 18) rfl ?_
    refine kj_iload_n dX11_coverMany_18 (pc' := 19) rfl rfl rfl ?_
    obtain ⟨hi3, hT⟩ := ckA_some hT
    refine kj_iald rfl (Nat.lt_of_lt_of_le (Nat.le_of_ble_eq_true rfl : 126 < 140) hE.1) hi3 rfl dX11_coverMany_19 (pc' := 20) rfl ?_
    refine kj_iconst dX11_coverMany_20 (pc' := 21) rfl kc_1 ?_
    obtain ⟨t4, ht4, hT⟩ := bind_some' hT
    refine kcVi (as := [.inl (σ 126 x2.toNatClampNeg), .inl 1]) (st := [.inl x1]) l_RX11_209 (m_X11_degreeOf hE σ (σ 126 x2.toNatClampNeg) 1 ht4) rfl (Nat.lt_of_lt_of_le (Nat.le_of_ble_eq_true rfl : 120 < 140) hE.1) rfl ⟨⟨rfl, rfl⟩, Nat.le_of_ble_eq_true rfl, Nat.le_of_ble_eq_true rfl⟩ (Nat.le_of_ble_eq_true rfl) dX11_coverMany_21 (pc' := 24) rfl ?_
    refine kj_iadd dX11_coverMany_24 (pc' := 25) rfl ?_
    refine kj_istore_n dX11_coverMany_25 (pc' := 26) rfl rfl (Nat.le_of_ble_eq_true rfl) (ls' := [some (.inr 120), some (.inl (x1 + t4)), some (.inl x2)]) rfl ?_
    refine kj_iinc dX11_coverMany_26 (pc' := 29) rfl rfl (congrArg (_ + ·) kc_1) (Nat.le_of_ble_eq_true rfl) (ls' := [some (.inr 120), some (.inl (x1 + t4)), some (.inl (x2 + 1))]) rfl ?_
    refine kj_goto dX11_coverMany_29 (pc' := 4) rfl ?_
    exact ih4 (x1 + t4, x2 + 1) hT
def X11_basedMany_J28 (rec4 : Int32 × Int32 → Option (Int32)) (y1 : Int32) (y2 : Int32) : Option (Int32) :=
  rec4 (y1, y2 + 1)
def X11_basedMany_B4 (σ : Wd) (rec4 : Int32 × Int32 → Option (Int32)) : Int32 × Int32 → Option (Int32)
  | (x1, x2) => (if (σ 120 10) ≤ x2 then some x1 else (ckA x2 128 <| ((X11_isBased σ (σ 126 x2.toNatClampNeg)).bind fun t4 => (if t4 = 0 then X11_basedMany_J28 rec4 x1 x2 else X11_basedMany_J28 rec4 (x1 + 1) x2))))
def X11_basedMany (σ : Wd) : Option (Int32) :=
  (lp (X11_basedMany_B4 σ) FU (0, 0))
set_option maxRecDepth 100000 in
set_option maxHeartbeats 4000000 in
theorem m_X11_basedMany {E : JE} (hE : kOk 140 E) (σ : Wd) {res : Int32} (hT : X11_basedMany σ = some res) : kMt E yX11_basedMany mX11_basedMany rmX11_basedMany [.inr 120] σ (kQi res σ) := by
  refine kMt_of (by decide +kernel) rfl (Nat.le_of_ble_eq_true rfl) ?_
  generalize hQ : (kQi res σ) = Q
  show KJ E mX11_basedMany rmX11_basedMany 0 [some (.inr 120)] [] σ Q
  unfold X11_basedMany at hT
  refine kj_iconst dX11_basedMany_0 (pc' := 1) rfl kc_0 ?_
  refine kj_istore_n dX11_basedMany_1 (pc' := 2) rfl rfl (Nat.le_of_ble_eq_true rfl) (ls' := [some (.inr 120), some (.inl 0)]) rfl ?_
  refine kj_iconst dX11_basedMany_2 (pc' := 3) rfl kc_0 ?_
  refine kj_istore_n dX11_basedMany_3 (pc' := 4) rfl rfl (Nat.le_of_ble_eq_true rfl) (ls' := [some (.inr 120), some (.inl 0), some (.inl 0)]) rfl ?_
  refine lp_ind (P := fun s => KJ E mX11_basedMany rmX11_basedMany 4 [some (.inr 120), some (.inl s.1), some (.inl s.2)] [] σ Q) (fun rec4 s ih4 hT => ?_) FU (0, 0) hT
  obtain ⟨x1, x2⟩ := s
  show KJ E mX11_basedMany rmX11_basedMany 4 [some (.inr 120), some (.inl x1), some (.inl x2)] [] σ Q
  rw [X11_basedMany_B4] at hT
  have hJ28_4 : ∀ y1 y2, X11_basedMany_J28 rec4 y1 y2 = some res → KJ E mX11_basedMany rmX11_basedMany 28 [some (.inr 120), some (.inl y1), some (.inl y2)] [] σ Q := by
    intro y1 y2 hT
    unfold X11_basedMany_J28 at hT
    refine kj_iinc dX11_basedMany_28 (pc' := 31) rfl rfl (congrArg (_ + ·) kc_1) (Nat.le_of_ble_eq_true rfl) (ls' := [some (.inr 120), some (.inl y1), some (.inl (y2 + 1))]) rfl ?_
    refine kj_goto dX11_basedMany_31 (pc' := 4) rfl ?_
    exact ih4 (y1, y2 + 1) hT
  refine kj_iload_n dX11_basedMany_4 (pc' := 5) rfl rfl rfl ?_
  refine kj_aload_n dX11_basedMany_5 (pc' := 6) rfl rfl rfl ?_
  refine kj_getI f_RX11_141 rfl (Nat.lt_of_lt_of_le (Nat.le_of_ble_eq_true rfl : 120 < 140) hE.1) dX11_basedMany_6 (pc' := 9) rfl ?_
  refine kj_icmp_ge dX11_basedMany_9 (tgt := 34) rfl (pc' := 12) rfl (fun c2 => ?_) (fun c2 => ?_)
  · rw [if_pos c2] at hT
    refine kj_iload_n dX11_basedMany_34 (pc' := 35) rfl rfl rfl ?_
    have hR := Option.some.inj hT
    subst hR
    exact kj_iret rfl dX11_basedMany_35 (by subst hQ; exact ⟨rfl, rfl⟩)
  · rw [if_neg c2] at hT
    refine kj_aload_n dX11_basedMany_12 (pc' := 13) rfl rfl rfl ?_
    refine kj_aload_n dX11_basedMany_13 (pc' := 14) rfl rfl rfl ?_
    refine kj_getR f_RX11_30 rfl (Nat.lt_of_lt_of_le (Nat.le_of_ble_eq_true rfl : 120 < 140) hE.1) (hE.2 _ _) (q := 126) rfl dX11_basedMany_14 (pc' := 17) rfl ?_
    refine kj_iload_n dX11_basedMany_17 (pc' := 18) rfl rfl rfl ?_
    obtain ⟨hi3, hT⟩ := ckA_some hT
    refine kj_iald rfl (Nat.lt_of_lt_of_le (Nat.le_of_ble_eq_true rfl : 126 < 140) hE.1) hi3 rfl dX11_basedMany_18 (pc' := 19) rfl ?_
    obtain ⟨t4, ht4, hT⟩ := bind_some' hT
    refine kcVz (as := [.inl (σ 126 x2.toNatClampNeg)]) (st := []) l_RX11_138 (m_X11_isBased hE σ (σ 126 x2.toNatClampNeg) ht4) rfl (Nat.lt_of_lt_of_le (Nat.le_of_ble_eq_true rfl : 120 < 140) hE.1) rfl ⟨⟨rfl, rfl⟩, Nat.le_of_ble_eq_true rfl, Nat.le_of_ble_eq_true rfl⟩ (Nat.le_of_ble_eq_true rfl) dX11_basedMany_19 (pc' := 22) rfl (fun z5 => ?_)
    refine kj_if_eq dX11_basedMany_22 (tgt := 28) rfl (pc' := 25) rfl (fun c6 => ?_) (fun c6 => ?_)
    · rw [if_pos c6] at hT
      exact hJ28_4 x1 x2 hT
    · rw [if_neg c6] at hT
      refine kj_iinc dX11_basedMany_25 (pc' := 28) rfl rfl (congrArg (_ + ·) kc_1) (Nat.le_of_ble_eq_true rfl) (ls' := [some (.inr 120), some (.inl (x1 + 1)), some (.inl x2)]) rfl ?_
      exact hJ28_4 (x1 + 1) x2 hT
def X11_massOfAll_B4 (σ : Wd) (rec4 : Int32 × Int32 → Option (Int32)) : Int32 × Int32 → Option (Int32)
  | (x1, x2) => (if (σ 120 10) ≤ x2 then some x1 else (ckA x2 128 <| ((X11_massOf σ (σ 126 x2.toNatClampNeg)).bind fun t4 => rec4 (x1 + t4, x2 + 1))))
def X11_massOfAll (σ : Wd) : Option (Int32) :=
  (lp (X11_massOfAll_B4 σ) FU (0, 0))
set_option maxRecDepth 100000 in
set_option maxHeartbeats 4000000 in
theorem m_X11_massOfAll {E : JE} (hE : kOk 140 E) (σ : Wd) {res : Int32} (hT : X11_massOfAll σ = some res) : kMt E yX11_massOfAll mX11_massOfAll rmX11_massOfAll [.inr 120] σ (kQi res σ) := by
  refine kMt_of (by decide +kernel) rfl (Nat.le_of_ble_eq_true rfl) ?_
  generalize hQ : (kQi res σ) = Q
  show KJ E mX11_massOfAll rmX11_massOfAll 0 [some (.inr 120)] [] σ Q
  unfold X11_massOfAll at hT
  refine kj_iconst dX11_massOfAll_0 (pc' := 1) rfl kc_0 ?_
  refine kj_istore_n dX11_massOfAll_1 (pc' := 2) rfl rfl (Nat.le_of_ble_eq_true rfl) (ls' := [some (.inr 120), some (.inl 0)]) rfl ?_
  refine kj_iconst dX11_massOfAll_2 (pc' := 3) rfl kc_0 ?_
  refine kj_istore_n dX11_massOfAll_3 (pc' := 4) rfl rfl (Nat.le_of_ble_eq_true rfl) (ls' := [some (.inr 120), some (.inl 0), some (.inl 0)]) rfl ?_
  refine lp_ind (P := fun s => KJ E mX11_massOfAll rmX11_massOfAll 4 [some (.inr 120), some (.inl s.1), some (.inl s.2)] [] σ Q) (fun rec4 s ih4 hT => ?_) FU (0, 0) hT
  obtain ⟨x1, x2⟩ := s
  show KJ E mX11_massOfAll rmX11_massOfAll 4 [some (.inr 120), some (.inl x1), some (.inl x2)] [] σ Q
  rw [X11_massOfAll_B4] at hT
  refine kj_iload_n dX11_massOfAll_4 (pc' := 5) rfl rfl rfl ?_
  refine kj_aload_n dX11_massOfAll_5 (pc' := 6) rfl rfl rfl ?_
  refine kj_getI f_RX11_141 rfl (Nat.lt_of_lt_of_le (Nat.le_of_ble_eq_true rfl : 120 < 140) hE.1) dX11_massOfAll_6 (pc' := 9) rfl ?_
  refine kj_icmp_ge dX11_massOfAll_9 (tgt := 31) rfl (pc' := 12) rfl (fun c2 => ?_) (fun c2 => ?_)
  · rw [if_pos c2] at hT
    refine kj_iload_n dX11_massOfAll_31 (pc' := 32) rfl rfl rfl ?_
    have hR := Option.some.inj hT
    subst hR
    exact kj_iret rfl dX11_massOfAll_32 (by subst hQ; exact ⟨rfl, rfl⟩)
  · rw [if_neg c2] at hT
    refine kj_iload_n dX11_massOfAll_12 (pc' := 13) rfl rfl rfl ?_
    refine kj_aload_n dX11_massOfAll_13 (pc' := 14) rfl rfl rfl ?_
    refine kj_aload_n dX11_massOfAll_14 (pc' := 15) rfl rfl rfl ?_
    refine kj_getR f_RX11_30 rfl (Nat.lt_of_lt_of_le (Nat.le_of_ble_eq_true rfl : 120 < 140) hE.1) (hE.2 _ _) (q := 126) rfl dX11_massOfAll_15 (pc' := 18) rfl ?_
    refine kj_iload_n dX11_massOfAll_18 (pc' := 19) rfl rfl rfl ?_
    obtain ⟨hi3, hT⟩ := ckA_some hT
    refine kj_iald rfl (Nat.lt_of_lt_of_le (Nat.le_of_ble_eq_true rfl : 126 < 140) hE.1) hi3 rfl dX11_massOfAll_19 (pc' := 20) rfl ?_
    obtain ⟨t4, ht4, hT⟩ := bind_some' hT
    refine kcVi (as := [.inl (σ 126 x2.toNatClampNeg)]) (st := [.inl x1]) l_RX11_212 (m_X11_massOf hE σ (σ 126 x2.toNatClampNeg) ht4) rfl (Nat.lt_of_lt_of_le (Nat.le_of_ble_eq_true rfl : 120 < 140) hE.1) rfl ⟨⟨rfl, rfl⟩, Nat.le_of_ble_eq_true rfl, Nat.le_of_ble_eq_true rfl⟩ (Nat.le_of_ble_eq_true rfl) dX11_massOfAll_20 (pc' := 23) rfl ?_
    refine kj_iadd dX11_massOfAll_23 (pc' := 24) rfl ?_
    refine kj_istore_n dX11_massOfAll_24 (pc' := 25) rfl rfl (Nat.le_of_ble_eq_true rfl) (ls' := [some (.inr 120), some (.inl (x1 + t4)), some (.inl x2)]) rfl ?_
    refine kj_iinc dX11_massOfAll_25 (pc' := 28) rfl rfl (congrArg (_ + ·) kc_1) (Nat.le_of_ble_eq_true rfl) (ls' := [some (.inr 120), some (.inl (x1 + t4)), some (.inl (x2 + 1))]) rfl ?_
    refine kj_goto dX11_massOfAll_28 (pc' := 4) rfl ?_
    exact ih4 (x1 + t4, x2 + 1) hT
def X11_byFrequency_T78 (x1 : Int32) (x2 : Int32) (rec2 : Int32 → Option (Int32)) (x3 : Int32) : Option (Int32) :=
  (if x3 = x1 then some x2 else rec2 (x2 + 1))
def X11_byFrequency_J72 (rec27 : Int32 × Int32 → Option (Int32)) (y3 : Int32) (y5 : Int32) : Option (Int32) :=
  rec27 (y3, y5 + 1)
def X11_byFrequency_J69 (rec27 : Int32 × Int32 → Option (Int32)) (y3 : Int32) (y5 : Int32) : Option (Int32) :=
  X11_byFrequency_J72 rec27 (y3 + 1) y5
def X11_byFrequency_B27 (σ : Wd) (t3 : Int32) (x2 : Int32) (kx27 : Int32 → Option (Int32)) (rec27 : Int32 × Int32 → Option (Int32)) : Int32 × Int32 → Option (Int32)
  | (x3, x5) => (if (σ 121 0) ≤ x5 then kx27 x3 else ((X11_frequencyIn σ 125 x5).bind fun t7 => (if t3 < t7 then X11_byFrequency_J69 rec27 x3 x5 else (if t7 = t3 then (if x2 ≤ x5 then X11_byFrequency_J72 rec27 x3 x5 else X11_byFrequency_J69 rec27 x3 x5) else X11_byFrequency_J72 rec27 x3 x5))))
def X11_byFrequency_B2 (σ : Wd) (x1 : Int32) (rec2 : Int32 → Option (Int32)) : Int32 → Option (Int32)
  | (x2) => (if (σ 121 0) ≤ x2 then some (-1) else ((X11_frequencyIn σ 125 x2).bind fun t3 => (lp (X11_byFrequency_B27 σ t3 x2 (X11_byFrequency_T78 x1 x2 rec2)) FU (0, 0))))
def X11_byFrequency (σ : Wd) (x1 : Int32) : Option (Int32) :=
  (lp (X11_byFrequency_B2 σ x1) FU (0))
set_option maxRecDepth 100000 in
set_option maxHeartbeats 4000000 in
theorem m_X11_byFrequency {E : JE} (hE : kOk 140 E) (σ : Wd) (x1 : Int32) {res : Int32} (hT : X11_byFrequency σ x1 = some res) : kMt E yX11_byFrequency mX11_byFrequency rmX11_byFrequency [.inr 120, .inl x1] σ (kQi res σ) := by
  refine kMt_of (by decide +kernel) rfl (Nat.le_of_ble_eq_true rfl) ?_
  generalize hQ : (kQi res σ) = Q
  show KJ E mX11_byFrequency rmX11_byFrequency 0 [some (.inr 120), some (.inl x1)] [] σ Q
  unfold X11_byFrequency at hT
  refine kj_iconst dX11_byFrequency_0 (pc' := 1) rfl kc_0 ?_
  refine kj_istore_n dX11_byFrequency_1 (pc' := 2) rfl rfl (Nat.le_of_ble_eq_true rfl) (ls' := [some (.inr 120), some (.inl x1), some (.inl 0)]) rfl ?_
  refine lp_ind (P := fun s => KJ E mX11_byFrequency rmX11_byFrequency 2 [some (.inr 120), some (.inl x1), some (.inl s)] [] σ Q) (fun rec2 s ih2 hT => ?_) FU (0) hT
  obtain ⟨x2, hs⟩ : ∃ z, z = s := ⟨_, rfl⟩
  subst hs
  show KJ E mX11_byFrequency rmX11_byFrequency 2 [some (.inr 120), some (.inl x1), some (.inl x2)] [] σ Q
  rw [X11_byFrequency_B2] at hT
  refine kj_iload_n dX11_byFrequency_2 (pc' := 3) rfl rfl rfl ?_
  refine kj_aload_n dX11_byFrequency_3 (pc' := 4) rfl rfl rfl ?_
  refine kj_getR f_RX11_13 rfl (Nat.lt_of_lt_of_le (Nat.le_of_ble_eq_true rfl : 120 < 140) hE.1) (hE.2 _ _) (q := 121) rfl dX11_byFrequency_4 (pc' := 7) rfl ?_
  refine kj_iconst dX11_byFrequency_7 (pc' := 8) rfl kc_0 ?_
  refine kj_iald rfl (Nat.lt_of_lt_of_le (Nat.le_of_ble_eq_true rfl : 121 < 140) hE.1) (vp_lit (by decide +kernel)) (j := 0) (by decide +kernel) dX11_byFrequency_8 (pc' := 9) rfl ?_
  refine kj_icmp_ge dX11_byFrequency_9 (tgt := 91) rfl (pc' := 12) rfl (fun c2 => ?_) (fun c2 => ?_)
  · rw [if_pos c2] at hT
    refine kj_iconst dX11_byFrequency_91 (pc' := 92) rfl kc_m1 ?_
    have hR := Option.some.inj hT
    subst hR
    exact kj_iret rfl dX11_byFrequency_92 (by subst hQ; exact ⟨rfl, rfl⟩)
  · rw [if_neg c2] at hT
    refine kj_iconst dX11_byFrequency_12 (pc' := 13) rfl kc_0 ?_
    refine kj_istore_n dX11_byFrequency_13 (pc' := 14) rfl rfl (Nat.le_of_ble_eq_true rfl) (ls' := [some (.inr 120), some (.inl x1), some (.inl x2), some (.inl 0)]) rfl ?_
    refine kj_aload_n dX11_byFrequency_14 (pc' := 15) rfl rfl rfl ?_
    refine kj_getR f_RX11_26 rfl (Nat.lt_of_lt_of_le (Nat.le_of_ble_eq_true rfl : 120 < 140) hE.1) (hE.2 _ _) (q := 125) rfl dX11_byFrequency_15 (pc' := 18) rfl ?_
    refine kj_iload_n dX11_byFrequency_18 (pc' := 19) rfl rfl rfl ?_
    obtain ⟨t3, ht3, hT⟩ := bind_some' hT
    refine kcSi (as := [.inr 125, .inl x2]) (st := []) l_RX11_171 (m_X11_frequencyIn (Nat.zero_le _) rfl (Nat.lt_of_lt_of_le (Nat.le_of_ble_eq_true rfl : 125 < 140) hE.1) σ x2 ht3) rfl ⟨⟨rfl, rfl⟩, Nat.le_of_ble_eq_true rfl, Nat.le_of_ble_eq_true rfl⟩ (Nat.le_of_ble_eq_true rfl) dX11_byFrequency_19 (pc' := 22) rfl ?_
    refine kj_istore dX11_byFrequency_22 (pc' := 24) rfl (Nat.le_of_ble_eq_true rfl) (ls' := [some (.inr 120), some (.inl x1), some (.inl x2), some (.inl 0), some (.inl t3)]) rfl ?_
    refine kj_iconst dX11_byFrequency_24 (pc' := 25) rfl kc_0 ?_
    refine kj_istore dX11_byFrequency_25 (pc' := 27) rfl (Nat.le_of_ble_eq_true rfl) (ls' := [some (.inr 120), some (.inl x1), some (.inl x2), some (.inl 0), some (.inl t3), some (.inl 0)]) rfl ?_
    have hX27 : ∀ x3, X11_byFrequency_T78 x1 x2 rec2 x3 = some res → KJ E mX11_byFrequency rmX11_byFrequency 78 [some (.inr 120), some (.inl x1), some (.inl x2), some (.inl x3)] [] σ Q := by
      intro x3 hT
      unfold X11_byFrequency_T78 at hT
      refine kj_iload_n dX11_byFrequency_78 (pc' := 79) rfl rfl rfl ?_
      refine kj_iload_n dX11_byFrequency_79 (pc' := 80) rfl rfl rfl ?_
      refine kj_icmp_ne dX11_byFrequency_80 (tgt := 85) rfl (pc' := 83) rfl (fun c5 => ?_) (fun c5 => ?_)
      · rw [if_neg c5] at hT
        refine kj_iinc dX11_byFrequency_85 (pc' := 88) rfl rfl (congrArg (_ + ·) kc_1) (Nat.le_of_ble_eq_true rfl) (ls' := [some (.inr 120), some (.inl x1), some (.inl (x2 + 1)), some (.inl x3)]) rfl ?_
        refine kj_goto dX11_byFrequency_88 (pc' := 2) rfl ?_
        refine kj_keep [true, true, true] (ls' := [some (.inr 120), some (.inl x1), some (.inl (x2 + 1))]) rfl ?_
        exact ih2 (x2 + 1) hT
      · rw [if_pos c5] at hT
        refine kj_iload_n dX11_byFrequency_83 (pc' := 84) rfl rfl rfl ?_
        have hR := Option.some.inj hT
        subst hR
        exact kj_iret rfl dX11_byFrequency_84 (by subst hQ; exact ⟨rfl, rfl⟩)
    refine lp_ind (P := fun s => KJ E mX11_byFrequency rmX11_byFrequency 27 [some (.inr 120), some (.inl x1), some (.inl x2), some (.inl s.1), some (.inl t3), some (.inl s.2)] [] σ Q) (fun rec27 s ih27 hT => ?_) FU (0, 0) hT
    obtain ⟨x3, x5⟩ := s
    show KJ E mX11_byFrequency rmX11_byFrequency 27 [some (.inr 120), some (.inl x1), some (.inl x2), some (.inl x3), some (.inl t3), some (.inl x5)] [] σ Q
    rw [X11_byFrequency_B27] at hT
    have hJ72_2_27 : ∀ y3 y5, X11_byFrequency_J72 rec27 y3 y5 = some res → KJ E mX11_byFrequency rmX11_byFrequency 72 [some (.inr 120), some (.inl x1), some (.inl x2), some (.inl y3), some (.inl t3), some (.inl y5)] [] σ Q := by
      intro y3 y5 hT
      unfold X11_byFrequency_J72 at hT
      refine kj_iinc dX11_byFrequency_72 (pc' := 75) rfl rfl (congrArg (_ + ·) kc_1) (Nat.le_of_ble_eq_true rfl) (ls' := [some (.inr 120), some (.inl x1), some (.inl x2), some (.inl y3), some (.inl t3), some (.inl (y5 + 1))]) rfl ?_
      refine kj_goto dX11_byFrequency_75 (pc' := 27) rfl ?_
      exact ih27 (y3, y5 + 1) hT
    have hJ69_2_27 : ∀ y3 y5, X11_byFrequency_J69 rec27 y3 y5 = some res → KJ E mX11_byFrequency rmX11_byFrequency 69 [some (.inr 120), some (.inl x1), some (.inl x2), some (.inl y3), some (.inl t3), some (.inl y5)] [] σ Q := by
      intro y3 y5 hT
      unfold X11_byFrequency_J69 at hT
      refine kj_iinc dX11_byFrequency_69 (pc' := 72) rfl rfl (congrArg (_ + ·) kc_1) (Nat.le_of_ble_eq_true rfl) (ls' := [some (.inr 120), some (.inl x1), some (.inl x2), some (.inl (y3 + 1)), some (.inl t3), some (.inl y5)]) rfl ?_
      exact hJ72_2_27 (y3 + 1) y5 hT
    refine kj_iload dX11_byFrequency_27 (pc' := 29) rfl rfl ?_
    refine kj_aload_n dX11_byFrequency_29 (pc' := 30) rfl rfl rfl ?_
    refine kj_getR f_RX11_13 rfl (Nat.lt_of_lt_of_le (Nat.le_of_ble_eq_true rfl : 120 < 140) hE.1) (hE.2 _ _) (q := 121) rfl dX11_byFrequency_30 (pc' := 33) rfl ?_
    refine kj_iconst dX11_byFrequency_33 (pc' := 34) rfl kc_0 ?_
    refine kj_iald rfl (Nat.lt_of_lt_of_le (Nat.le_of_ble_eq_true rfl : 121 < 140) hE.1) (vp_lit (by decide +kernel)) (j := 0) (by decide +kernel) dX11_byFrequency_34 (pc' := 35) rfl ?_
    refine kj_icmp_ge dX11_byFrequency_35 (tgt := 78) rfl (pc' := 38) rfl (fun c6 => ?_) (fun c6 => ?_)
    · rw [if_pos c6] at hT
      refine kj_keep [true, true, true, true] (ls' := [some (.inr 120), some (.inl x1), some (.inl x2), some (.inl x3)]) rfl ?_
      exact hX27 x3 hT
    · rw [if_neg c6] at hT
      refine kj_aload_n dX11_byFrequency_38 (pc' := 39) rfl rfl rfl ?_
      refine kj_getR f_RX11_26 rfl (Nat.lt_of_lt_of_le (Nat.le_of_ble_eq_true rfl : 120 < 140) hE.1) (hE.2 _ _) (q := 125) rfl dX11_byFrequency_39 (pc' := 42) rfl ?_
      refine kj_iload dX11_byFrequency_42 (pc' := 44) rfl rfl ?_
      obtain ⟨t7, ht7, hT⟩ := bind_some' hT
      refine kcSi (as := [.inr 125, .inl x5]) (st := []) l_RX11_171 (m_X11_frequencyIn (Nat.zero_le _) rfl (Nat.lt_of_lt_of_le (Nat.le_of_ble_eq_true rfl : 125 < 140) hE.1) σ x5 ht7) rfl ⟨⟨rfl, rfl⟩, Nat.le_of_ble_eq_true rfl, Nat.le_of_ble_eq_true rfl⟩ (Nat.le_of_ble_eq_true rfl) dX11_byFrequency_44 (pc' := 47) rfl ?_
      refine kj_istore dX11_byFrequency_47 (pc' := 49) rfl (Nat.le_of_ble_eq_true rfl) (ls' := [some (.inr 120), some (.inl x1), some (.inl x2), some (.inl x3), some (.inl t3), some (.inl x5), some (.inl t7)]) rfl ?_
      refine kj_iload dX11_byFrequency_49 (pc' := 51) rfl rfl ?_
      refine kj_iload dX11_byFrequency_51 (pc' := 53) rfl rfl ?_
      refine kj_icmp_gt dX11_byFrequency_53 (tgt := 69) rfl (pc' := 56) rfl (fun c8 => ?_) (fun c8 => ?_)
      · rw [if_pos c8] at hT
        refine kj_keep [true, true, true, true, true, true] (ls' := [some (.inr 120), some (.inl x1), some (.inl x2), some (.inl x3), some (.inl t3), some (.inl x5)]) rfl ?_
        exact hJ69_2_27 x3 x5 hT
      · rw [if_neg c8] at hT
        refine kj_iload dX11_byFrequency_56 (pc' := 58) rfl rfl ?_
        refine kj_iload dX11_byFrequency_58 (pc' := 60) rfl rfl ?_
        refine kj_icmp_ne dX11_byFrequency_60 (tgt := 72) rfl (pc' := 63) rfl (fun c9 => ?_) (fun c9 => ?_)
        · rw [if_neg c9] at hT
          refine kj_keep [true, true, true, true, true, true] (ls' := [some (.inr 120), some (.inl x1), some (.inl x2), some (.inl x3), some (.inl t3), some (.inl x5)]) rfl ?_
          exact hJ72_2_27 x3 x5 hT
        · rw [if_pos c9] at hT
          refine kj_iload dX11_byFrequency_63 (pc' := 65) rfl rfl ?_
          refine kj_iload_n dX11_byFrequency_65 (pc' := 66) rfl rfl rfl ?_
          refine kj_icmp_ge dX11_byFrequency_66 (tgt := 72) rfl (pc' := 69) rfl (fun c10 => ?_) (fun c10 => ?_)
          · rw [if_pos c10] at hT
            refine kj_keep [true, true, true, true, true, true] (ls' := [some (.inr 120), some (.inl x1), some (.inl x2), some (.inl x3), some (.inl t3), some (.inl x5)]) rfl ?_
            exact hJ72_2_27 x3 x5 hT
          · rw [if_neg c10] at hT
            refine kj_keep [true, true, true, true, true, true] (ls' := [some (.inr 120), some (.inl x1), some (.inl x2), some (.inl x3), some (.inl t3), some (.inl x5)]) rfl ?_
            exact hJ69_2_27 x3 x5 hT
def X11_family (σ : Wd) (x1 : Int32) : Option (Int32 × Wd) :=
  ((X11_lays σ).bind fun σ1 => (if x1 = 0 then some (σ1 120 10, σ1) else (if x1 = 1 then ((X11_top σ1).bind fun t4 => some (t4, σ1)) else (if x1 = 2 then ((X11_basedMany σ1).bind fun t6 => some (t6, σ1)) else (if x1 = 3 then ((X11_frequentIn σ1 125).bind fun t8 => some (t8, σ1)) else (if x1 = 4 then ((X11_byFrequency σ1 0).bind fun t10 => some (t10, σ1)) else (if x1 = 5 then ((X11_measures σ1 0).bind fun σ12 => (ckA ((σ12 120 10) - 1) 128 <| some (σ12 129 (((σ12 120 10) - 1).toNatClampNeg), σ12))) else (if x1 = 6 then ((X11_spread σ1).bind fun (t15, σ16) => some (t15, σ16)) else (if x1 = 7 then ((X11_coverMany σ1).bind fun t18 => some (t18, σ1)) else (if x1 = 8 then ((X11_depth σ1).bind fun (t20, σ21) => some (t20, σ21)) else (if x1 = 9 then ((X11_top σ1).bind fun t23 => ((X11_massOf σ1 t23).bind fun t24 => (if t24 ≤ 0 then some (0, σ1) else ((X11_massOfAll σ1).bind fun t26 => ((X11_top σ1).bind fun t27 => ((X11_massOf σ1 t27).bind fun t28 => (if (2 * t26) < (t28 * (σ1 120 10)) then some (0, σ1) else some (1, σ1)))))))) else (if x1 = 10 then ((X11_massOfAll σ1).bind fun t31 => some (t31, σ1)) else (if x1 = 11 then ((X11_degreeOf σ1 0 1).bind fun t33 => some (t33, σ1)) else (if x1 = 12 then ((X11_top σ1).bind fun t35 => ((X11_degreeOf σ1 t35 0).bind fun t36 => some (t36, σ1))) else some ((-1), σ1)))))))))))))))
set_option maxRecDepth 100000 in
set_option maxHeartbeats 4000000 in
theorem m_X11_family {E : JE} (hE : kOk 140 E) (σ : Wd) (x1 : Int32) {res : Int32 × Wd} (hT : X11_family σ x1 = some res) : kMt E yX11_family mX11_family rmX11_family [.inr 120, .inl x1] σ (kQi res.1 res.2) := by
  refine kMt_of (by decide +kernel) rfl (Nat.le_of_ble_eq_true rfl) ?_
  generalize hQ : (kQi res.1 res.2) = Q
  show KJ E mX11_family rmX11_family 0 [some (.inr 120), some (.inl x1)] [] σ Q
  unfold X11_family at hT
  refine kj_aload_n dX11_family_0 (pc' := 1) rfl rfl rfl ?_
  obtain ⟨σ1, hσ1, hT⟩ := bind_some' hT
  refine kcVv (as := []) (st := []) l_RX11_135 (m_X11_lays hE σ hσ1) rfl (Nat.lt_of_lt_of_le (Nat.le_of_ble_eq_true rfl : 120 < 140) hE.1) rfl ⟨⟨rfl, rfl⟩, Nat.le_of_ble_eq_true rfl, Nat.le_of_ble_eq_true rfl⟩ (Nat.le_of_ble_eq_true rfl) dX11_family_1 (pc' := 4) rfl ?_
  refine kj_iload_n dX11_family_4 (pc' := 5) rfl rfl rfl ?_
  by_cases c2 : x1 = 0
  · rw [if_pos c2] at hT
    refine kj_tableIn (x := x1) (off := 67) (tgt := 72) dX11_family_5 (by rw [c2]; decide +kernel) (by rw [c2]; decide +kernel) (by rw [c2]; decide +kernel) rfl ?_
    refine kj_aload_n dX11_family_72 (pc' := 73) rfl rfl rfl ?_
    refine kj_getI f_RX11_141 rfl (Nat.lt_of_lt_of_le (Nat.le_of_ble_eq_true rfl : 120 < 140) hE.1) dX11_family_73 (pc' := 76) rfl ?_
    have hR := Option.some.inj hT
    subst hR
    exact kj_iret rfl dX11_family_76 (by subst hQ; exact ⟨rfl, rfl⟩)
  rw [if_neg c2] at hT
  by_cases c3 : x1 = 1
  · rw [if_pos c3] at hT
    refine kj_tableIn (x := x1) (off := 72) (tgt := 77) dX11_family_5 (by rw [c3]; decide +kernel) (by rw [c3]; decide +kernel) (by rw [c3]; decide +kernel) rfl ?_
    refine kj_aload_n dX11_family_77 (pc' := 78) rfl rfl rfl ?_
    obtain ⟨t4, ht4, hT⟩ := bind_some' hT
    refine kcVi (as := []) (st := []) l_RX11_181 (m_X11_top hE σ1 ht4) rfl (Nat.lt_of_lt_of_le (Nat.le_of_ble_eq_true rfl : 120 < 140) hE.1) rfl ⟨⟨rfl, rfl⟩, Nat.le_of_ble_eq_true rfl, Nat.le_of_ble_eq_true rfl⟩ (Nat.le_of_ble_eq_true rfl) dX11_family_78 (pc' := 81) rfl ?_
    have hR := Option.some.inj hT
    subst hR
    exact kj_iret rfl dX11_family_81 (by subst hQ; exact ⟨rfl, rfl⟩)
  rw [if_neg c3] at hT
  by_cases c5 : x1 = 2
  · rw [if_pos c5] at hT
    refine kj_tableIn (x := x1) (off := 77) (tgt := 82) dX11_family_5 (by rw [c5]; decide +kernel) (by rw [c5]; decide +kernel) (by rw [c5]; decide +kernel) rfl ?_
    refine kj_aload_n dX11_family_82 (pc' := 83) rfl rfl rfl ?_
    obtain ⟨t6, ht6, hT⟩ := bind_some' hT
    refine kcVi (as := []) (st := []) l_RX11_215 (m_X11_basedMany hE σ1 ht6) rfl (Nat.lt_of_lt_of_le (Nat.le_of_ble_eq_true rfl : 120 < 140) hE.1) rfl ⟨⟨rfl, rfl⟩, Nat.le_of_ble_eq_true rfl, Nat.le_of_ble_eq_true rfl⟩ (Nat.le_of_ble_eq_true rfl) dX11_family_83 (pc' := 86) rfl ?_
    have hR := Option.some.inj hT
    subst hR
    exact kj_iret rfl dX11_family_86 (by subst hQ; exact ⟨rfl, rfl⟩)
  rw [if_neg c5] at hT
  by_cases c7 : x1 = 3
  · rw [if_pos c7] at hT
    refine kj_tableIn (x := x1) (off := 82) (tgt := 87) dX11_family_5 (by rw [c7]; decide +kernel) (by rw [c7]; decide +kernel) (by rw [c7]; decide +kernel) rfl ?_
    refine kj_aload_n dX11_family_87 (pc' := 88) rfl rfl rfl ?_
    refine kj_aload_n dX11_family_88 (pc' := 89) rfl rfl rfl ?_
    refine kj_getR f_RX11_26 rfl (Nat.lt_of_lt_of_le (Nat.le_of_ble_eq_true rfl : 120 < 140) hE.1) (hE.2 _ _) (q := 125) rfl dX11_family_89 (pc' := 92) rfl ?_
    obtain ⟨t8, ht8, hT⟩ := bind_some' hT
    refine kcVi (as := [.inr 125]) (st := []) l_RX11_188 (m_X11_frequentIn hE rfl (Nat.lt_of_lt_of_le (Nat.le_of_ble_eq_true rfl : 125 < 140) hE.1) σ1 ht8) rfl (Nat.lt_of_lt_of_le (Nat.le_of_ble_eq_true rfl : 120 < 140) hE.1) rfl ⟨⟨rfl, rfl⟩, Nat.le_of_ble_eq_true rfl, Nat.le_of_ble_eq_true rfl⟩ (Nat.le_of_ble_eq_true rfl) dX11_family_92 (pc' := 95) rfl ?_
    have hR := Option.some.inj hT
    subst hR
    exact kj_iret rfl dX11_family_95 (by subst hQ; exact ⟨rfl, rfl⟩)
  rw [if_neg c7] at hT
  by_cases c9 : x1 = 4
  · rw [if_pos c9] at hT
    refine kj_tableIn (x := x1) (off := 91) (tgt := 96) dX11_family_5 (by rw [c9]; decide +kernel) (by rw [c9]; decide +kernel) (by rw [c9]; decide +kernel) rfl ?_
    refine kj_aload_n dX11_family_96 (pc' := 97) rfl rfl rfl ?_
    refine kj_iconst dX11_family_97 (pc' := 98) rfl kc_0 ?_
    obtain ⟨t10, ht10, hT⟩ := bind_some' hT
    refine kcVi (as := [.inl 0]) (st := []) l_RX11_218 (m_X11_byFrequency hE σ1 0 ht10) rfl (Nat.lt_of_lt_of_le (Nat.le_of_ble_eq_true rfl : 120 < 140) hE.1) rfl ⟨⟨rfl, rfl⟩, Nat.le_of_ble_eq_true rfl, Nat.le_of_ble_eq_true rfl⟩ (Nat.le_of_ble_eq_true rfl) dX11_family_98 (pc' := 101) rfl ?_
    have hR := Option.some.inj hT
    subst hR
    exact kj_iret rfl dX11_family_101 (by subst hQ; exact ⟨rfl, rfl⟩)
  rw [if_neg c9] at hT
  by_cases c11 : x1 = 5
  · rw [if_pos c11] at hT
    refine kj_tableIn (x := x1) (off := 97) (tgt := 102) dX11_family_5 (by rw [c11]; decide +kernel) (by rw [c11]; decide +kernel) (by rw [c11]; decide +kernel) rfl ?_
    refine kj_aload_n dX11_family_102 (pc' := 103) rfl rfl rfl ?_
    refine kj_iconst dX11_family_103 (pc' := 104) rfl kc_0 ?_
    obtain ⟨σ12, hσ12, hT⟩ := bind_some' hT
    refine kcVv (as := [.inl 0]) (st := []) l_RX11_221 (m_X11_measures hE σ1 0 hσ12) rfl (Nat.lt_of_lt_of_le (Nat.le_of_ble_eq_true rfl : 120 < 140) hE.1) rfl ⟨⟨rfl, rfl⟩, Nat.le_of_ble_eq_true rfl, Nat.le_of_ble_eq_true rfl⟩ (Nat.le_of_ble_eq_true rfl) dX11_family_104 (pc' := 107) rfl ?_
    refine kj_aload_n dX11_family_107 (pc' := 108) rfl rfl rfl ?_
    refine kj_getR f_RX11_39 rfl (Nat.lt_of_lt_of_le (Nat.le_of_ble_eq_true rfl : 120 < 140) hE.1) (hE.2 _ _) (q := 129) rfl dX11_family_108 (pc' := 111) rfl ?_
    refine kj_aload_n dX11_family_111 (pc' := 112) rfl rfl rfl ?_
    refine kj_getI f_RX11_141 rfl (Nat.lt_of_lt_of_le (Nat.le_of_ble_eq_true rfl : 120 < 140) hE.1) dX11_family_112 (pc' := 115) rfl ?_
    refine kj_iconst dX11_family_115 (pc' := 116) rfl kc_1 ?_
    refine kj_isub dX11_family_116 (pc' := 117) rfl ?_
    obtain ⟨hi13, hT⟩ := ckA_some hT
    refine kj_iald rfl (Nat.lt_of_lt_of_le (Nat.le_of_ble_eq_true rfl : 129 < 140) hE.1) hi13 rfl dX11_family_117 (pc' := 118) rfl ?_
    have hR := Option.some.inj hT
    subst hR
    exact kj_iret rfl dX11_family_118 (by subst hQ; exact ⟨rfl, rfl⟩)
  rw [if_neg c11] at hT
  by_cases c14 : x1 = 6
  · rw [if_pos c14] at hT
    refine kj_tableIn (x := x1) (off := 114) (tgt := 119) dX11_family_5 (by rw [c14]; decide +kernel) (by rw [c14]; decide +kernel) (by rw [c14]; decide +kernel) rfl ?_
    refine kj_aload_n dX11_family_119 (pc' := 120) rfl rfl rfl ?_
    obtain ⟨t15, ht15, hT⟩ := bind_some' hT
    obtain ⟨t15, σ16⟩ := t15
    dsimp only at hT
    refine kcVi (as := []) (st := []) l_RX11_225 (m_X11_spread hE σ1 ht15) rfl (Nat.lt_of_lt_of_le (Nat.le_of_ble_eq_true rfl : 120 < 140) hE.1) rfl ⟨⟨rfl, rfl⟩, Nat.le_of_ble_eq_true rfl, Nat.le_of_ble_eq_true rfl⟩ (Nat.le_of_ble_eq_true rfl) dX11_family_120 (pc' := 123) rfl ?_
    have hR := Option.some.inj hT
    subst hR
    exact kj_iret rfl dX11_family_123 (by subst hQ; exact ⟨rfl, rfl⟩)
  rw [if_neg c14] at hT
  by_cases c17 : x1 = 7
  · rw [if_pos c17] at hT
    refine kj_tableIn (x := x1) (off := 119) (tgt := 124) dX11_family_5 (by rw [c17]; decide +kernel) (by rw [c17]; decide +kernel) (by rw [c17]; decide +kernel) rfl ?_
    refine kj_aload_n dX11_family_124 (pc' := 125) rfl rfl rfl ?_
    obtain ⟨t18, ht18, hT⟩ := bind_some' hT
    refine kcVi (as := []) (st := []) l_RX11_228 (m_X11_coverMany hE σ1 ht18) rfl (Nat.lt_of_lt_of_le (Nat.le_of_ble_eq_true rfl : 120 < 140) hE.1) rfl ⟨⟨rfl, rfl⟩, Nat.le_of_ble_eq_true rfl, Nat.le_of_ble_eq_true rfl⟩ (Nat.le_of_ble_eq_true rfl) dX11_family_125 (pc' := 128) rfl ?_
    have hR := Option.some.inj hT
    subst hR
    exact kj_iret rfl dX11_family_128 (by subst hQ; exact ⟨rfl, rfl⟩)
  rw [if_neg c17] at hT
  by_cases c19 : x1 = 8
  · rw [if_pos c19] at hT
    refine kj_tableIn (x := x1) (off := 124) (tgt := 129) dX11_family_5 (by rw [c19]; decide +kernel) (by rw [c19]; decide +kernel) (by rw [c19]; decide +kernel) rfl ?_
    refine kj_aload_n dX11_family_129 (pc' := 130) rfl rfl rfl ?_
    obtain ⟨t20, ht20, hT⟩ := bind_some' hT
    obtain ⟨t20, σ21⟩ := t20
    dsimp only at hT
    refine kcVi (as := []) (st := []) l_RX11_231 (m_X11_depth hE σ1 ht20) rfl (Nat.lt_of_lt_of_le (Nat.le_of_ble_eq_true rfl : 120 < 140) hE.1) rfl ⟨⟨rfl, rfl⟩, Nat.le_of_ble_eq_true rfl, Nat.le_of_ble_eq_true rfl⟩ (Nat.le_of_ble_eq_true rfl) dX11_family_130 (pc' := 133) rfl ?_
    have hR := Option.some.inj hT
    subst hR
    exact kj_iret rfl dX11_family_133 (by subst hQ; exact ⟨rfl, rfl⟩)
  rw [if_neg c19] at hT
  by_cases c22 : x1 = 9
  · rw [if_pos c22] at hT
    refine kj_tableIn (x := x1) (off := 129) (tgt := 134) dX11_family_5 (by rw [c22]; decide +kernel) (by rw [c22]; decide +kernel) (by rw [c22]; decide +kernel) rfl ?_
    refine kj_aload_n dX11_family_134 (pc' := 135) rfl rfl rfl ?_
    refine kj_aload_n dX11_family_135 (pc' := 136) rfl rfl rfl ?_
    obtain ⟨t23, ht23, hT⟩ := bind_some' hT
    refine kcVi (as := []) (st := [.inr 120]) l_RX11_181 (m_X11_top hE σ1 ht23) rfl (Nat.lt_of_lt_of_le (Nat.le_of_ble_eq_true rfl : 120 < 140) hE.1) rfl ⟨⟨rfl, rfl⟩, Nat.le_of_ble_eq_true rfl, Nat.le_of_ble_eq_true rfl⟩ (Nat.le_of_ble_eq_true rfl) dX11_family_136 (pc' := 139) rfl ?_
    obtain ⟨t24, ht24, hT⟩ := bind_some' hT
    refine kcVi (as := [.inl t23]) (st := []) l_RX11_212 (m_X11_massOf hE σ1 t23 ht24) rfl (Nat.lt_of_lt_of_le (Nat.le_of_ble_eq_true rfl : 120 < 140) hE.1) rfl ⟨⟨rfl, rfl⟩, Nat.le_of_ble_eq_true rfl, Nat.le_of_ble_eq_true rfl⟩ (Nat.le_of_ble_eq_true rfl) dX11_family_139 (pc' := 142) rfl ?_
    refine kj_if_le dX11_family_142 (tgt := 171) rfl (pc' := 145) rfl (fun c25 => ?_) (fun c25 => ?_)
    · rw [if_pos c25] at hT
      refine kj_iconst dX11_family_171 (pc' := 172) rfl kc_0 ?_
      have hR := Option.some.inj hT
      subst hR
      exact kj_iret rfl dX11_family_172 (by subst hQ; exact ⟨rfl, rfl⟩)
    · rw [if_neg c25] at hT
      refine kj_iconst dX11_family_145 (pc' := 146) rfl kc_2 ?_
      refine kj_aload_n dX11_family_146 (pc' := 147) rfl rfl rfl ?_
      obtain ⟨t26, ht26, hT⟩ := bind_some' hT
      refine kcVi (as := []) (st := [.inl 2]) l_RX11_234 (m_X11_massOfAll hE σ1 ht26) rfl (Nat.lt_of_lt_of_le (Nat.le_of_ble_eq_true rfl : 120 < 140) hE.1) rfl ⟨⟨rfl, rfl⟩, Nat.le_of_ble_eq_true rfl, Nat.le_of_ble_eq_true rfl⟩ (Nat.le_of_ble_eq_true rfl) dX11_family_147 (pc' := 150) rfl ?_
      refine kj_imul dX11_family_150 (pc' := 151) rfl ?_
      refine kj_aload_n dX11_family_151 (pc' := 152) rfl rfl rfl ?_
      refine kj_aload_n dX11_family_152 (pc' := 153) rfl rfl rfl ?_
      obtain ⟨t27, ht27, hT⟩ := bind_some' hT
      refine kcVi (as := []) (st := [.inr 120, .inl (2 * t26)]) l_RX11_181 (m_X11_top hE σ1 ht27) rfl (Nat.lt_of_lt_of_le (Nat.le_of_ble_eq_true rfl : 120 < 140) hE.1) rfl ⟨⟨rfl, rfl⟩, Nat.le_of_ble_eq_true rfl, Nat.le_of_ble_eq_true rfl⟩ (Nat.le_of_ble_eq_true rfl) dX11_family_153 (pc' := 156) rfl ?_
      obtain ⟨t28, ht28, hT⟩ := bind_some' hT
      refine kcVi (as := [.inl t27]) (st := [.inl (2 * t26)]) l_RX11_212 (m_X11_massOf hE σ1 t27 ht28) rfl (Nat.lt_of_lt_of_le (Nat.le_of_ble_eq_true rfl : 120 < 140) hE.1) rfl ⟨⟨rfl, rfl⟩, Nat.le_of_ble_eq_true rfl, Nat.le_of_ble_eq_true rfl⟩ (Nat.le_of_ble_eq_true rfl) dX11_family_156 (pc' := 159) rfl ?_
      refine kj_aload_n dX11_family_159 (pc' := 160) rfl rfl rfl ?_
      refine kj_getI f_RX11_141 rfl (Nat.lt_of_lt_of_le (Nat.le_of_ble_eq_true rfl : 120 < 140) hE.1) dX11_family_160 (pc' := 163) rfl ?_
      refine kj_imul dX11_family_163 (pc' := 164) rfl ?_
      refine kj_icmp_lt dX11_family_164 (tgt := 171) rfl (pc' := 167) rfl (fun c29 => ?_) (fun c29 => ?_)
      · rw [if_pos c29] at hT
        refine kj_iconst dX11_family_171 (pc' := 172) rfl kc_0 ?_
        have hR := Option.some.inj hT
        subst hR
        exact kj_iret rfl dX11_family_172 (by subst hQ; exact ⟨rfl, rfl⟩)
      · rw [if_neg c29] at hT
        refine kj_iconst dX11_family_167 (pc' := 168) rfl kc_1 ?_
        refine kj_goto dX11_family_168 (pc' := 172) rfl ?_
        have hR := Option.some.inj hT
        subst hR
        exact kj_iret rfl dX11_family_172 (by subst hQ; exact ⟨rfl, rfl⟩)
  rw [if_neg c22] at hT
  by_cases c30 : x1 = 10
  · rw [if_pos c30] at hT
    refine kj_tableIn (x := x1) (off := 168) (tgt := 173) dX11_family_5 (by rw [c30]; decide +kernel) (by rw [c30]; decide +kernel) (by rw [c30]; decide +kernel) rfl ?_
    refine kj_aload_n dX11_family_173 (pc' := 174) rfl rfl rfl ?_
    obtain ⟨t31, ht31, hT⟩ := bind_some' hT
    refine kcVi (as := []) (st := []) l_RX11_234 (m_X11_massOfAll hE σ1 ht31) rfl (Nat.lt_of_lt_of_le (Nat.le_of_ble_eq_true rfl : 120 < 140) hE.1) rfl ⟨⟨rfl, rfl⟩, Nat.le_of_ble_eq_true rfl, Nat.le_of_ble_eq_true rfl⟩ (Nat.le_of_ble_eq_true rfl) dX11_family_174 (pc' := 177) rfl ?_
    have hR := Option.some.inj hT
    subst hR
    exact kj_iret rfl dX11_family_177 (by subst hQ; exact ⟨rfl, rfl⟩)
  rw [if_neg c30] at hT
  by_cases c32 : x1 = 11
  · rw [if_pos c32] at hT
    refine kj_tableIn (x := x1) (off := 173) (tgt := 178) dX11_family_5 (by rw [c32]; decide +kernel) (by rw [c32]; decide +kernel) (by rw [c32]; decide +kernel) rfl ?_
    refine kj_aload_n dX11_family_178 (pc' := 179) rfl rfl rfl ?_
    refine kj_iconst dX11_family_179 (pc' := 180) rfl kc_0 ?_
    refine kj_iconst dX11_family_180 (pc' := 181) rfl kc_1 ?_
    obtain ⟨t33, ht33, hT⟩ := bind_some' hT
    refine kcVi (as := [.inl 0, .inl 1]) (st := []) l_RX11_209 (m_X11_degreeOf hE σ1 0 1 ht33) rfl (Nat.lt_of_lt_of_le (Nat.le_of_ble_eq_true rfl : 120 < 140) hE.1) rfl ⟨⟨rfl, rfl⟩, Nat.le_of_ble_eq_true rfl, Nat.le_of_ble_eq_true rfl⟩ (Nat.le_of_ble_eq_true rfl) dX11_family_181 (pc' := 184) rfl ?_
    have hR := Option.some.inj hT
    subst hR
    exact kj_iret rfl dX11_family_184 (by subst hQ; exact ⟨rfl, rfl⟩)
  rw [if_neg c32] at hT
  by_cases c34 : x1 = 12
  · rw [if_pos c34] at hT
    refine kj_tableIn (x := x1) (off := 180) (tgt := 185) dX11_family_5 (by rw [c34]; decide +kernel) (by rw [c34]; decide +kernel) (by rw [c34]; decide +kernel) rfl ?_
    refine kj_aload_n dX11_family_185 (pc' := 186) rfl rfl rfl ?_
    refine kj_aload_n dX11_family_186 (pc' := 187) rfl rfl rfl ?_
    obtain ⟨t35, ht35, hT⟩ := bind_some' hT
    refine kcVi (as := []) (st := [.inr 120]) l_RX11_181 (m_X11_top hE σ1 ht35) rfl (Nat.lt_of_lt_of_le (Nat.le_of_ble_eq_true rfl : 120 < 140) hE.1) rfl ⟨⟨rfl, rfl⟩, Nat.le_of_ble_eq_true rfl, Nat.le_of_ble_eq_true rfl⟩ (Nat.le_of_ble_eq_true rfl) dX11_family_187 (pc' := 190) rfl ?_
    refine kj_iconst dX11_family_190 (pc' := 191) rfl kc_0 ?_
    obtain ⟨t36, ht36, hT⟩ := bind_some' hT
    refine kcVi (as := [.inl t35, .inl 0]) (st := []) l_RX11_209 (m_X11_degreeOf hE σ1 t35 0 ht36) rfl (Nat.lt_of_lt_of_le (Nat.le_of_ble_eq_true rfl : 120 < 140) hE.1) rfl ⟨⟨rfl, rfl⟩, Nat.le_of_ble_eq_true rfl, Nat.le_of_ble_eq_true rfl⟩ (Nat.le_of_ble_eq_true rfl) dX11_family_191 (pc' := 194) rfl ?_
    have hR := Option.some.inj hT
    subst hR
    exact kj_iret rfl dX11_family_194 (by subst hQ; exact ⟨rfl, rfl⟩)
  rw [if_neg c34] at hT
  refine kj_tableOut (x := x1) (tgt := 195) dX11_family_5 (tb_out (hi := 12) (fun k hk => by rcases (show k = 0 ∨ k = 1 ∨ k = 2 ∨ k = 3 ∨ k = 4 ∨ k = 5 ∨ k = 6 ∨ k = 7 ∨ k = 8 ∨ k = 9 ∨ k = 10 ∨ k = 11 ∨ k = 12  from by omega) with rfl | rfl | rfl | rfl | rfl | rfl | rfl | rfl | rfl | rfl | rfl | rfl | rfl <;> assumption) (by decide)) rfl ?_
  refine kj_iconst dX11_family_195 (pc' := 196) rfl kc_m1 ?_
  have hR := Option.some.inj hT
  subst hR
  exact kj_iret rfl dX11_family_196 (by subst hQ; exact ⟨rfl, rfl⟩)
def X11_sizedMany_J28 (rec4 : Int32 × Int32 → Option (Int32)) (y2 : Int32) (y3 : Int32) : Option (Int32) :=
  rec4 (y2, y3 + 1)
def X11_sizedMany_B4 (σ : Wd) (x1 : Int32) (rec4 : Int32 × Int32 → Option (Int32)) : Int32 × Int32 → Option (Int32)
  | (x2, x3) => (if (σ 120 10) ≤ x3 then some x2 else (ckA x3 128 <| ((X11_ones (σ 126 x3.toNatClampNeg)).bind fun t4 => (if t4 = x1 then X11_sizedMany_J28 rec4 (x2 + 1) x3 else X11_sizedMany_J28 rec4 x2 x3))))
def X11_sizedMany (σ : Wd) (x1 : Int32) : Option (Int32) :=
  (lp (X11_sizedMany_B4 σ x1) FU (0, 0))
set_option maxRecDepth 100000 in
set_option maxHeartbeats 4000000 in
theorem m_X11_sizedMany {E : JE} (hE : kOk 140 E) (σ : Wd) (x1 : Int32) {res : Int32} (hT : X11_sizedMany σ x1 = some res) : kMt E yX11_sizedMany mX11_sizedMany rmX11_sizedMany [.inr 120, .inl x1] σ (kQi res σ) := by
  refine kMt_of (by decide +kernel) rfl (Nat.le_of_ble_eq_true rfl) ?_
  generalize hQ : (kQi res σ) = Q
  show KJ E mX11_sizedMany rmX11_sizedMany 0 [some (.inr 120), some (.inl x1)] [] σ Q
  unfold X11_sizedMany at hT
  refine kj_iconst dX11_sizedMany_0 (pc' := 1) rfl kc_0 ?_
  refine kj_istore_n dX11_sizedMany_1 (pc' := 2) rfl rfl (Nat.le_of_ble_eq_true rfl) (ls' := [some (.inr 120), some (.inl x1), some (.inl 0)]) rfl ?_
  refine kj_iconst dX11_sizedMany_2 (pc' := 3) rfl kc_0 ?_
  refine kj_istore_n dX11_sizedMany_3 (pc' := 4) rfl rfl (Nat.le_of_ble_eq_true rfl) (ls' := [some (.inr 120), some (.inl x1), some (.inl 0), some (.inl 0)]) rfl ?_
  refine lp_ind (P := fun s => KJ E mX11_sizedMany rmX11_sizedMany 4 [some (.inr 120), some (.inl x1), some (.inl s.1), some (.inl s.2)] [] σ Q) (fun rec4 s ih4 hT => ?_) FU (0, 0) hT
  obtain ⟨x2, x3⟩ := s
  show KJ E mX11_sizedMany rmX11_sizedMany 4 [some (.inr 120), some (.inl x1), some (.inl x2), some (.inl x3)] [] σ Q
  rw [X11_sizedMany_B4] at hT
  have hJ28_4 : ∀ y2 y3, X11_sizedMany_J28 rec4 y2 y3 = some res → KJ E mX11_sizedMany rmX11_sizedMany 28 [some (.inr 120), some (.inl x1), some (.inl y2), some (.inl y3)] [] σ Q := by
    intro y2 y3 hT
    unfold X11_sizedMany_J28 at hT
    refine kj_iinc dX11_sizedMany_28 (pc' := 31) rfl rfl (congrArg (_ + ·) kc_1) (Nat.le_of_ble_eq_true rfl) (ls' := [some (.inr 120), some (.inl x1), some (.inl y2), some (.inl (y3 + 1))]) rfl ?_
    refine kj_goto dX11_sizedMany_31 (pc' := 4) rfl ?_
    exact ih4 (y2, y3 + 1) hT
  refine kj_iload_n dX11_sizedMany_4 (pc' := 5) rfl rfl rfl ?_
  refine kj_aload_n dX11_sizedMany_5 (pc' := 6) rfl rfl rfl ?_
  refine kj_getI f_RX11_141 rfl (Nat.lt_of_lt_of_le (Nat.le_of_ble_eq_true rfl : 120 < 140) hE.1) dX11_sizedMany_6 (pc' := 9) rfl ?_
  refine kj_icmp_ge dX11_sizedMany_9 (tgt := 34) rfl (pc' := 12) rfl (fun c2 => ?_) (fun c2 => ?_)
  · rw [if_pos c2] at hT
    refine kj_iload_n dX11_sizedMany_34 (pc' := 35) rfl rfl rfl ?_
    have hR := Option.some.inj hT
    subst hR
    exact kj_iret rfl dX11_sizedMany_35 (by subst hQ; exact ⟨rfl, rfl⟩)
  · rw [if_neg c2] at hT
    refine kj_aload_n dX11_sizedMany_12 (pc' := 13) rfl rfl rfl ?_
    refine kj_getR f_RX11_30 rfl (Nat.lt_of_lt_of_le (Nat.le_of_ble_eq_true rfl : 120 < 140) hE.1) (hE.2 _ _) (q := 126) rfl dX11_sizedMany_13 (pc' := 16) rfl ?_
    refine kj_iload_n dX11_sizedMany_16 (pc' := 17) rfl rfl rfl ?_
    obtain ⟨hi3, hT⟩ := ckA_some hT
    refine kj_iald rfl (Nat.lt_of_lt_of_le (Nat.le_of_ble_eq_true rfl : 126 < 140) hE.1) hi3 rfl dX11_sizedMany_17 (pc' := 18) rfl ?_
    obtain ⟨t4, ht4, hT⟩ := bind_some' hT
    refine kcSi (as := [.inl (σ 126 x3.toNatClampNeg)]) (st := []) l_RX11_157 (m_X11_ones (Nat.zero_le _) σ (σ 126 x3.toNatClampNeg) ht4) rfl ⟨⟨rfl, rfl⟩, Nat.le_of_ble_eq_true rfl, Nat.le_of_ble_eq_true rfl⟩ (Nat.le_of_ble_eq_true rfl) dX11_sizedMany_18 (pc' := 21) rfl ?_
    refine kj_iload_n dX11_sizedMany_21 (pc' := 22) rfl rfl rfl ?_
    refine kj_icmp_ne dX11_sizedMany_22 (tgt := 28) rfl (pc' := 25) rfl (fun c5 => ?_) (fun c5 => ?_)
    · rw [if_neg c5] at hT
      exact hJ28_4 x2 x3 hT
    · rw [if_pos c5] at hT
      refine kj_iinc dX11_sizedMany_25 (pc' := 28) rfl rfl (congrArg (_ + ·) kc_1) (Nat.le_of_ble_eq_true rfl) (ls' := [some (.inr 120), some (.inl x1), some (.inl (x2 + 1)), some (.inl x3)]) rfl ?_
      exact hJ28_4 (x2 + 1) x3 hT
def X11_sized (σ : Wd) (x1 : Int32) : Option (Int32 × Wd) :=
  (if (X11_in x1 0 7) = 0 then some ((-1), σ) else ((X11_lays σ).bind fun σ3 => ((X11_sizedMany σ3 x1).bind fun t4 => some (t4, σ3))))
set_option maxRecDepth 100000 in
set_option maxHeartbeats 4000000 in
theorem m_X11_sized {E : JE} (hE : kOk 140 E) (σ : Wd) (x1 : Int32) {res : Int32 × Wd} (hT : X11_sized σ x1 = some res) : kMt E yX11_sized mX11_sized rmX11_sized [.inr 120, .inl x1] σ (kQi res.1 res.2) := by
  refine kMt_of (by decide +kernel) rfl (Nat.le_of_ble_eq_true rfl) ?_
  generalize hQ : (kQi res.1 res.2) = Q
  show KJ E mX11_sized rmX11_sized 0 [some (.inr 120), some (.inl x1)] [] σ Q
  unfold X11_sized at hT
  refine kj_iload_n dX11_sized_0 (pc' := 1) rfl rfl rfl ?_
  refine kj_iconst dX11_sized_1 (pc' := 2) rfl kc_0 ?_
  refine kj_bipush dX11_sized_2 (pc' := 4) rfl kb_7 ?_
  refine kcSz (as := [.inl x1, .inl 0, .inl 7]) (st := []) l_RX11_84 (m_X11_in (Nat.zero_le _) σ x1 0 7 rfl) rfl ⟨⟨rfl, rfl⟩, Nat.le_of_ble_eq_true rfl, Nat.le_of_ble_eq_true rfl⟩ (Nat.le_of_ble_eq_true rfl) dX11_sized_4 (pc' := 7) rfl (fun z1 => ?_)
  refine kj_if_ne dX11_sized_7 (tgt := 12) rfl (pc' := 10) rfl (fun c2 => ?_) (fun c2 => ?_)
  · rw [if_neg c2] at hT
    refine kj_aload_n dX11_sized_12 (pc' := 13) rfl rfl rfl ?_
    obtain ⟨σ3, hσ3, hT⟩ := bind_some' hT
    refine kcVv (as := []) (st := []) l_RX11_135 (m_X11_lays hE σ hσ3) rfl (Nat.lt_of_lt_of_le (Nat.le_of_ble_eq_true rfl : 120 < 140) hE.1) rfl ⟨⟨rfl, rfl⟩, Nat.le_of_ble_eq_true rfl, Nat.le_of_ble_eq_true rfl⟩ (Nat.le_of_ble_eq_true rfl) dX11_sized_13 (pc' := 16) rfl ?_
    refine kj_aload_n dX11_sized_16 (pc' := 17) rfl rfl rfl ?_
    refine kj_iload_n dX11_sized_17 (pc' := 18) rfl rfl rfl ?_
    obtain ⟨t4, ht4, hT⟩ := bind_some' hT
    refine kcVi (as := [.inl x1]) (st := []) l_RX11_237 (m_X11_sizedMany hE σ3 x1 ht4) rfl (Nat.lt_of_lt_of_le (Nat.le_of_ble_eq_true rfl : 120 < 140) hE.1) rfl ⟨⟨rfl, rfl⟩, Nat.le_of_ble_eq_true rfl, Nat.le_of_ble_eq_true rfl⟩ (Nat.le_of_ble_eq_true rfl) dX11_sized_18 (pc' := 21) rfl ?_
    have hR := Option.some.inj hT
    subst hR
    exact kj_iret rfl dX11_sized_21 (by subst hQ; exact ⟨rfl, rfl⟩)
  · rw [if_pos c2] at hT
    refine kj_iconst dX11_sized_10 (pc' := 11) rfl kc_m1 ?_
    have hR := Option.some.inj hT
    subst hR
    exact kj_iret rfl dX11_sized_11 (by subst hQ; exact ⟨rfl, rfl⟩)
def X11_mean_T87 (x2 : Int32) (y3 : Int32) (ς : Wd) (x4 : Int32) : Option (Int32 × Wd) :=
  (if x2 = 0 then (ckZ x4 <| some (y3 / x4, ς)) else (ckZ x4 <| some ((ς 120 10) / x4, ς)))
def X11_mean_B64 (kx64 : Int32 → Option (Int32 × Wd)) (rec64 : Int32 × Int32 → Option (Int32 × Wd)) : Int32 × Int32 → Option (Int32 × Wd)
  | (x4, x5) => (if x5 = 0 then kx64 x4 else (ckZ x5 <| rec64 (x5, x4 % x5)))
def X11_mean_J55 (x2 : Int32) (y3 : Int32) (ς : Wd) : Option (Int32 × Wd) :=
  (lp (X11_mean_B64 (X11_mean_T87 x2 y3 ς)) FU (y3, ς 120 10))
def X11_mean_T45 (x1 : Int32) (σ3 : Wd) (x2 : Int32) (x3 : Int32) : Option (Int32 × Wd) :=
  (if x1 = 1 then ((X11_massOfAll σ3).bind fun t10 => X11_mean_J55 x2 t10 σ3) else X11_mean_J55 x2 x3 σ3)
def X11_mean_B20 (σ3 : Wd) (kx20 : Int32 → Option (Int32 × Wd)) (rec20 : Int32 × Int32 → Option (Int32 × Wd)) : Int32 × Int32 → Option (Int32 × Wd)
  | (x3, x4) => (if 7 < x4 then kx20 x3 else ((X11_sizedMany σ3 x4).bind fun t12 => rec20 (x3 + (x4 * t12), x4 + 1)))
def X11_mean (σ : Wd) (x1 : Int32) (x2 : Int32) : Option (Int32 × Wd) :=
  (if (X11_in x1 0 1) = 0 then some ((-1), σ) else ((X11_lays σ).bind fun σ3 => (lp (X11_mean_B20 σ3 (X11_mean_T45 x1 σ3 x2)) FU (0, 1))))
set_option maxRecDepth 100000 in
set_option maxHeartbeats 4000000 in
theorem m_X11_mean {E : JE} (hE : kOk 140 E) (σ : Wd) (x1 : Int32) (x2 : Int32) {res : Int32 × Wd} (hT : X11_mean σ x1 x2 = some res) : kMt E yX11_mean mX11_mean rmX11_mean [.inr 120, .inl x1, .inl x2] σ (kQi res.1 res.2) := by
  refine kMt_of (by decide +kernel) rfl (Nat.le_of_ble_eq_true rfl) ?_
  generalize hQ : (kQi res.1 res.2) = Q
  show KJ E mX11_mean rmX11_mean 0 [some (.inr 120), some (.inl x1), some (.inl x2)] [] σ Q
  unfold X11_mean at hT
  have hJ55 : ∀ y3 ς, X11_mean_J55 x2 y3 ς = some res → KJ E mX11_mean rmX11_mean 55 [some (.inr 120), none, some (.inl x2), some (.inl y3)] [] ς Q := by
    intro y3 ς hT
    unfold X11_mean_J55 at hT
    refine kj_iload_n dX11_mean_55 (pc' := 56) rfl rfl rfl ?_
    refine kj_istore dX11_mean_56 (pc' := 58) rfl (Nat.le_of_ble_eq_true rfl) (ls' := [some (.inr 120), none, some (.inl x2), some (.inl y3), some (.inl y3)]) rfl ?_
    refine kj_aload_n dX11_mean_58 (pc' := 59) rfl rfl rfl ?_
    refine kj_getI f_RX11_141 rfl (Nat.lt_of_lt_of_le (Nat.le_of_ble_eq_true rfl : 120 < 140) hE.1) dX11_mean_59 (pc' := 62) rfl ?_
    refine kj_istore dX11_mean_62 (pc' := 64) rfl (Nat.le_of_ble_eq_true rfl) (ls' := [some (.inr 120), none, some (.inl x2), some (.inl y3), some (.inl y3), some (.inl (ς 120 10))]) rfl ?_
    have hX64 : ∀ x4, X11_mean_T87 x2 y3 ς x4 = some res → KJ E mX11_mean rmX11_mean 87 [some (.inr 120), none, some (.inl x2), some (.inl y3), some (.inl x4)] [] ς Q := by
      intro x4 hT
      unfold X11_mean_T87 at hT
      refine kj_iload_n dX11_mean_87 (pc' := 88) rfl rfl rfl ?_
      refine kj_if_eq dX11_mean_88 (tgt := 101) rfl (pc' := 91) rfl (fun c5 => ?_) (fun c5 => ?_)
      · rw [if_pos c5] at hT
        refine kj_iload_n dX11_mean_101 (pc' := 102) rfl rfl rfl ?_
        refine kj_iload dX11_mean_102 (pc' := 104) rfl rfl ?_
        obtain ⟨hz6, hT⟩ := ckZ_some hT
        refine kj_idiv dX11_mean_104 (pc' := 105) rfl hz6 ?_
        have hR := Option.some.inj hT
        subst hR
        exact kj_iret rfl dX11_mean_105 (by subst hQ; exact ⟨rfl, rfl⟩)
      · rw [if_neg c5] at hT
        refine kj_aload_n dX11_mean_91 (pc' := 92) rfl rfl rfl ?_
        refine kj_getI f_RX11_141 rfl (Nat.lt_of_lt_of_le (Nat.le_of_ble_eq_true rfl : 120 < 140) hE.1) dX11_mean_92 (pc' := 95) rfl ?_
        refine kj_iload dX11_mean_95 (pc' := 97) rfl rfl ?_
        obtain ⟨hz7, hT⟩ := ckZ_some hT
        refine kj_idiv dX11_mean_97 (pc' := 98) rfl hz7 ?_
        refine kj_goto dX11_mean_98 (pc' := 105) rfl ?_
        have hR := Option.some.inj hT
        subst hR
        exact kj_iret rfl dX11_mean_105 (by subst hQ; exact ⟨rfl, rfl⟩)
    refine lp_ind (P := fun s => KJ E mX11_mean rmX11_mean 64 [some (.inr 120), none, some (.inl x2), some (.inl y3), some (.inl s.1), some (.inl s.2)] [] ς Q) (fun rec64 s ih64 hT => ?_) FU (y3, ς 120 10) hT
    obtain ⟨x4, x5⟩ := s
    show KJ E mX11_mean rmX11_mean 64 [some (.inr 120), none, some (.inl x2), some (.inl y3), some (.inl x4), some (.inl x5)] [] ς Q
    rw [X11_mean_B64] at hT
    refine kj_iload dX11_mean_64 (pc' := 66) rfl rfl ?_
    refine kj_if_eq dX11_mean_66 (tgt := 87) rfl (pc' := 69) rfl (fun c8 => ?_) (fun c8 => ?_)
    · rw [if_pos c8] at hT
      refine kj_keep [true, false, true, true, true] (ls' := [some (.inr 120), none, some (.inl x2), some (.inl y3), some (.inl x4)]) rfl ?_
      exact hX64 x4 hT
    · rw [if_neg c8] at hT
      refine kj_iload dX11_mean_69 (pc' := 71) rfl rfl ?_
      refine kj_iload dX11_mean_71 (pc' := 73) rfl rfl ?_
      obtain ⟨hz9, hT⟩ := ckZ_some hT
      refine kj_irem dX11_mean_73 (pc' := 74) rfl hz9 ?_
      refine kj_istore dX11_mean_74 (pc' := 76) rfl (Nat.le_of_ble_eq_true rfl) (ls' := [some (.inr 120), none, some (.inl x2), some (.inl y3), some (.inl x4), some (.inl x5), some (.inl (x4 % x5))]) rfl ?_
      refine kj_iload dX11_mean_76 (pc' := 78) rfl rfl ?_
      refine kj_istore dX11_mean_78 (pc' := 80) rfl (Nat.le_of_ble_eq_true rfl) (ls' := [some (.inr 120), none, some (.inl x2), some (.inl y3), some (.inl x5), some (.inl x5), some (.inl (x4 % x5))]) rfl ?_
      refine kj_iload dX11_mean_80 (pc' := 82) rfl rfl ?_
      refine kj_istore dX11_mean_82 (pc' := 84) rfl (Nat.le_of_ble_eq_true rfl) (ls' := [some (.inr 120), none, some (.inl x2), some (.inl y3), some (.inl x5), some (.inl (x4 % x5)), some (.inl (x4 % x5))]) rfl ?_
      refine kj_goto dX11_mean_84 (pc' := 64) rfl ?_
      refine kj_keep [true, false, true, true, true, true] (ls' := [some (.inr 120), none, some (.inl x2), some (.inl y3), some (.inl x5), some (.inl (x4 % x5))]) rfl ?_
      exact ih64 (x5, x4 % x5) hT
  refine kj_iload_n dX11_mean_0 (pc' := 1) rfl rfl rfl ?_
  refine kj_iconst dX11_mean_1 (pc' := 2) rfl kc_0 ?_
  refine kj_iconst dX11_mean_2 (pc' := 3) rfl kc_1 ?_
  refine kcSz (as := [.inl x1, .inl 0, .inl 1]) (st := []) l_RX11_84 (m_X11_in (Nat.zero_le _) σ x1 0 1 rfl) rfl ⟨⟨rfl, rfl⟩, Nat.le_of_ble_eq_true rfl, Nat.le_of_ble_eq_true rfl⟩ (Nat.le_of_ble_eq_true rfl) dX11_mean_3 (pc' := 6) rfl (fun z1 => ?_)
  refine kj_if_ne dX11_mean_6 (tgt := 11) rfl (pc' := 9) rfl (fun c2 => ?_) (fun c2 => ?_)
  · rw [if_neg c2] at hT
    refine kj_aload_n dX11_mean_11 (pc' := 12) rfl rfl rfl ?_
    obtain ⟨σ3, hσ3, hT⟩ := bind_some' hT
    refine kcVv (as := []) (st := []) l_RX11_135 (m_X11_lays hE σ hσ3) rfl (Nat.lt_of_lt_of_le (Nat.le_of_ble_eq_true rfl : 120 < 140) hE.1) rfl ⟨⟨rfl, rfl⟩, Nat.le_of_ble_eq_true rfl, Nat.le_of_ble_eq_true rfl⟩ (Nat.le_of_ble_eq_true rfl) dX11_mean_12 (pc' := 15) rfl ?_
    refine kj_iconst dX11_mean_15 (pc' := 16) rfl kc_0 ?_
    refine kj_istore_n dX11_mean_16 (pc' := 17) rfl rfl (Nat.le_of_ble_eq_true rfl) (ls' := [some (.inr 120), some (.inl x1), some (.inl x2), some (.inl 0)]) rfl ?_
    refine kj_iconst dX11_mean_17 (pc' := 18) rfl kc_1 ?_
    refine kj_istore dX11_mean_18 (pc' := 20) rfl (Nat.le_of_ble_eq_true rfl) (ls' := [some (.inr 120), some (.inl x1), some (.inl x2), some (.inl 0), some (.inl 1)]) rfl ?_
    have hX20 : ∀ x3, X11_mean_T45 x1 σ3 x2 x3 = some res → KJ E mX11_mean rmX11_mean 45 [some (.inr 120), some (.inl x1), some (.inl x2), some (.inl x3)] [] σ3 Q := by
      intro x3 hT
      unfold X11_mean_T45 at hT
      refine kj_iload_n dX11_mean_45 (pc' := 46) rfl rfl rfl ?_
      refine kj_iconst dX11_mean_46 (pc' := 47) rfl kc_1 ?_
      refine kj_icmp_ne dX11_mean_47 (tgt := 55) rfl (pc' := 50) rfl (fun c4 => ?_) (fun c4 => ?_)
      · rw [if_neg c4] at hT
        refine kj_keep [true, false, true, true] (ls' := [some (.inr 120), none, some (.inl x2), some (.inl x3)]) rfl ?_
        exact hJ55 x3 σ3 hT
      · rw [if_pos c4] at hT
        refine kj_aload_n dX11_mean_50 (pc' := 51) rfl rfl rfl ?_
        obtain ⟨t10, ht10, hT⟩ := bind_some' hT
        refine kcVi (as := []) (st := []) l_RX11_234 (m_X11_massOfAll hE σ3 ht10) rfl (Nat.lt_of_lt_of_le (Nat.le_of_ble_eq_true rfl : 120 < 140) hE.1) rfl ⟨⟨rfl, rfl⟩, Nat.le_of_ble_eq_true rfl, Nat.le_of_ble_eq_true rfl⟩ (Nat.le_of_ble_eq_true rfl) dX11_mean_51 (pc' := 54) rfl ?_
        refine kj_istore_n dX11_mean_54 (pc' := 55) rfl rfl (Nat.le_of_ble_eq_true rfl) (ls' := [some (.inr 120), some (.inl x1), some (.inl x2), some (.inl t10)]) rfl ?_
        refine kj_keep [true, false, true, true] (ls' := [some (.inr 120), none, some (.inl x2), some (.inl t10)]) rfl ?_
        exact hJ55 t10 σ3 hT
    refine lp_ind (P := fun s => KJ E mX11_mean rmX11_mean 20 [some (.inr 120), some (.inl x1), some (.inl x2), some (.inl s.1), some (.inl s.2)] [] σ3 Q) (fun rec20 s ih20 hT => ?_) FU (0, 1) hT
    obtain ⟨x3, x4⟩ := s
    show KJ E mX11_mean rmX11_mean 20 [some (.inr 120), some (.inl x1), some (.inl x2), some (.inl x3), some (.inl x4)] [] σ3 Q
    rw [X11_mean_B20] at hT
    refine kj_iload dX11_mean_20 (pc' := 22) rfl rfl ?_
    refine kj_bipush dX11_mean_22 (pc' := 24) rfl kb_7 ?_
    refine kj_icmp_gt dX11_mean_24 (tgt := 45) rfl (pc' := 27) rfl (fun c11 => ?_) (fun c11 => ?_)
    · rw [if_pos c11] at hT
      refine kj_keep [true, true, true, true] (ls' := [some (.inr 120), some (.inl x1), some (.inl x2), some (.inl x3)]) rfl ?_
      exact hX20 x3 hT
    · rw [if_neg c11] at hT
      refine kj_iload_n dX11_mean_27 (pc' := 28) rfl rfl rfl ?_
      refine kj_iload dX11_mean_28 (pc' := 30) rfl rfl ?_
      refine kj_aload_n dX11_mean_30 (pc' := 31) rfl rfl rfl ?_
      refine kj_iload dX11_mean_31 (pc' := 33) rfl rfl ?_
      obtain ⟨t12, ht12, hT⟩ := bind_some' hT
      refine kcVi (as := [.inl x4]) (st := [.inl x4, .inl x3]) l_RX11_237 (m_X11_sizedMany hE σ3 x4 ht12) rfl (Nat.lt_of_lt_of_le (Nat.le_of_ble_eq_true rfl : 120 < 140) hE.1) rfl ⟨⟨rfl, rfl⟩, Nat.le_of_ble_eq_true rfl, Nat.le_of_ble_eq_true rfl⟩ (Nat.le_of_ble_eq_true rfl) dX11_mean_33 (pc' := 36) rfl ?_
      refine kj_imul dX11_mean_36 (pc' := 37) rfl ?_
      refine kj_iadd dX11_mean_37 (pc' := 38) rfl ?_
      refine kj_istore_n dX11_mean_38 (pc' := 39) rfl rfl (Nat.le_of_ble_eq_true rfl) (ls' := [some (.inr 120), some (.inl x1), some (.inl x2), some (.inl (x3 + (x4 * t12))), some (.inl x4)]) rfl ?_
      refine kj_iinc dX11_mean_39 (pc' := 42) rfl rfl (congrArg (_ + ·) kc_1) (Nat.le_of_ble_eq_true rfl) (ls' := [some (.inr 120), some (.inl x1), some (.inl x2), some (.inl (x3 + (x4 * t12))), some (.inl (x4 + 1))]) rfl ?_
      refine kj_goto dX11_mean_42 (pc' := 20) rfl ?_
      exact ih20 (x3 + (x4 * t12), x4 + 1) hT
  · rw [if_pos c2] at hT
    refine kj_iconst dX11_mean_9 (pc' := 10) rfl kc_m1 ?_
    have hR := Option.some.inj hT
    subst hR
    exact kj_iret rfl dX11_mean_10 (by subst hQ; exact ⟨rfl, rfl⟩)
def X11_mass (σ : Wd) (x1 : Int32) : Option (Int32) :=
  (if (X11_isSet σ x1) = 0 then some (-1) else ((X11_massOf σ x1).bind fun t3 => some t3))
set_option maxRecDepth 100000 in
set_option maxHeartbeats 4000000 in
theorem m_X11_mass {E : JE} (hE : kOk 140 E) (σ : Wd) (x1 : Int32) {res : Int32} (hT : X11_mass σ x1 = some res) : kMt E yX11_mass mX11_mass rmX11_mass [.inr 120, .inl x1] σ (kQi res σ) := by
  refine kMt_of (by decide +kernel) rfl (Nat.le_of_ble_eq_true rfl) ?_
  generalize hQ : (kQi res σ) = Q
  show KJ E mX11_mass rmX11_mass 0 [some (.inr 120), some (.inl x1)] [] σ Q
  unfold X11_mass at hT
  refine kj_aload_n dX11_mass_0 (pc' := 1) rfl rfl rfl ?_
  refine kj_iload_n dX11_mass_1 (pc' := 2) rfl rfl rfl ?_
  refine kcVz (as := [.inl x1]) (st := []) l_RX11_95 (m_X11_isSet hE σ x1 rfl) rfl (Nat.lt_of_lt_of_le (Nat.le_of_ble_eq_true rfl : 120 < 140) hE.1) rfl ⟨⟨rfl, rfl⟩, Nat.le_of_ble_eq_true rfl, Nat.le_of_ble_eq_true rfl⟩ (Nat.le_of_ble_eq_true rfl) dX11_mass_2 (pc' := 5) rfl (fun z1 => ?_)
  refine kj_if_eq dX11_mass_5 (tgt := 16) rfl (pc' := 8) rfl (fun c2 => ?_) (fun c2 => ?_)
  · rw [if_pos c2] at hT
    refine kj_iconst dX11_mass_16 (pc' := 17) rfl kc_m1 ?_
    have hR := Option.some.inj hT
    subst hR
    exact kj_iret rfl dX11_mass_17 (by subst hQ; exact ⟨rfl, rfl⟩)
  · rw [if_neg c2] at hT
    refine kj_aload_n dX11_mass_8 (pc' := 9) rfl rfl rfl ?_
    refine kj_iload_n dX11_mass_9 (pc' := 10) rfl rfl rfl ?_
    obtain ⟨t3, ht3, hT⟩ := bind_some' hT
    refine kcVi (as := [.inl x1]) (st := []) l_RX11_212 (m_X11_massOf hE σ x1 ht3) rfl (Nat.lt_of_lt_of_le (Nat.le_of_ble_eq_true rfl : 120 < 140) hE.1) rfl ⟨⟨rfl, rfl⟩, Nat.le_of_ble_eq_true rfl, Nat.le_of_ble_eq_true rfl⟩ (Nat.le_of_ble_eq_true rfl) dX11_mass_10 (pc' := 13) rfl ?_
    refine kj_goto dX11_mass_13 (pc' := 17) rfl ?_
    have hR := Option.some.inj hT
    subst hR
    exact kj_iret rfl dX11_mass_17 (by subst hQ; exact ⟨rfl, rfl⟩)
def X11_inner (σ : Wd) (x1 : Int32) : Option (Int32 × Wd) :=
  (if (X11_isSet σ x1) = 0 then some ((-1), σ) else ((X11_lays σ).bind fun σ3 => ((X11_innerOf σ3 x1 0).bind fun t4 => some (t4, σ3))))
set_option maxRecDepth 100000 in
set_option maxHeartbeats 4000000 in
theorem m_X11_inner {E : JE} (hE : kOk 140 E) (σ : Wd) (x1 : Int32) {res : Int32 × Wd} (hT : X11_inner σ x1 = some res) : kMt E yX11_inner mX11_inner rmX11_inner [.inr 120, .inl x1] σ (kQi res.1 res.2) := by
  refine kMt_of (by decide +kernel) rfl (Nat.le_of_ble_eq_true rfl) ?_
  generalize hQ : (kQi res.1 res.2) = Q
  show KJ E mX11_inner rmX11_inner 0 [some (.inr 120), some (.inl x1)] [] σ Q
  unfold X11_inner at hT
  refine kj_aload_n dX11_inner_0 (pc' := 1) rfl rfl rfl ?_
  refine kj_iload_n dX11_inner_1 (pc' := 2) rfl rfl rfl ?_
  refine kcVz (as := [.inl x1]) (st := []) l_RX11_95 (m_X11_isSet hE σ x1 rfl) rfl (Nat.lt_of_lt_of_le (Nat.le_of_ble_eq_true rfl : 120 < 140) hE.1) rfl ⟨⟨rfl, rfl⟩, Nat.le_of_ble_eq_true rfl, Nat.le_of_ble_eq_true rfl⟩ (Nat.le_of_ble_eq_true rfl) dX11_inner_2 (pc' := 5) rfl (fun z1 => ?_)
  refine kj_if_ne dX11_inner_5 (tgt := 10) rfl (pc' := 8) rfl (fun c2 => ?_) (fun c2 => ?_)
  · rw [if_neg c2] at hT
    refine kj_aload_n dX11_inner_10 (pc' := 11) rfl rfl rfl ?_
    obtain ⟨σ3, hσ3, hT⟩ := bind_some' hT
    refine kcVv (as := []) (st := []) l_RX11_135 (m_X11_lays hE σ hσ3) rfl (Nat.lt_of_lt_of_le (Nat.le_of_ble_eq_true rfl : 120 < 140) hE.1) rfl ⟨⟨rfl, rfl⟩, Nat.le_of_ble_eq_true rfl, Nat.le_of_ble_eq_true rfl⟩ (Nat.le_of_ble_eq_true rfl) dX11_inner_11 (pc' := 14) rfl ?_
    refine kj_aload_n dX11_inner_14 (pc' := 15) rfl rfl rfl ?_
    refine kj_iload_n dX11_inner_15 (pc' := 16) rfl rfl rfl ?_
    refine kj_iconst dX11_inner_16 (pc' := 17) rfl kc_0 ?_
    obtain ⟨t4, ht4, hT⟩ := bind_some' hT
    refine kcVi (as := [.inl x1, .inl 0]) (st := []) l_RX11_163 (m_X11_innerOf hE σ3 x1 0 ht4) rfl (Nat.lt_of_lt_of_le (Nat.le_of_ble_eq_true rfl : 120 < 140) hE.1) rfl ⟨⟨rfl, rfl⟩, Nat.le_of_ble_eq_true rfl, Nat.le_of_ble_eq_true rfl⟩ (Nat.le_of_ble_eq_true rfl) dX11_inner_17 (pc' := 20) rfl ?_
    have hR := Option.some.inj hT
    subst hR
    exact kj_iret rfl dX11_inner_20 (by subst hQ; exact ⟨rfl, rfl⟩)
  · rw [if_pos c2] at hT
    refine kj_iconst dX11_inner_8 (pc' := 9) rfl kc_m1 ?_
    have hR := Option.some.inj hT
    subst hR
    exact kj_iret rfl dX11_inner_9 (by subst hQ; exact ⟨rfl, rfl⟩)
def X11_hull_J51 (rec21 : Int32 × Int32 → Option (Int32 × Wd)) (y2 : Int32) (y3 : Int32) : Option (Int32 × Wd) :=
  rec21 (y2, y3 + 1)
def X11_hull_B21 (σ3 : Wd) (x1 : Int32) (rec21 : Int32 × Int32 → Option (Int32 × Wd)) : Int32 × Int32 → Option (Int32 × Wd)
  | (x2, x3) => (if (σ3 120 10) ≤ x3 then some (x2, σ3) else (ckA x3 128 <| (if (X11_isWithin x1 (σ3 126 x3.toNatClampNeg)) = 0 then X11_hull_J51 rec21 x2 x3 else (ckA x3 128 <| (lett (x2 &&& (σ3 126 x3.toNatClampNeg)) fun t9 => X11_hull_J51 rec21 t9 x3)))))
def X11_hull (σ : Wd) (x1 : Int32) : Option (Int32 × Wd) :=
  (if (X11_isSet σ x1) = 0 then some ((-1), σ) else ((X11_lays σ).bind fun σ3 => (lp (X11_hull_B21 σ3 x1) FU (X11_allPoints σ3, 0))))
set_option maxRecDepth 100000 in
set_option maxHeartbeats 4000000 in
theorem m_X11_hull {E : JE} (hE : kOk 140 E) (σ : Wd) (x1 : Int32) {res : Int32 × Wd} (hT : X11_hull σ x1 = some res) : kMt E yX11_hull mX11_hull rmX11_hull [.inr 120, .inl x1] σ (kQi res.1 res.2) := by
  refine kMt_of (by decide +kernel) rfl (Nat.le_of_ble_eq_true rfl) ?_
  generalize hQ : (kQi res.1 res.2) = Q
  show KJ E mX11_hull rmX11_hull 0 [some (.inr 120), some (.inl x1)] [] σ Q
  unfold X11_hull at hT
  refine kj_aload_n dX11_hull_0 (pc' := 1) rfl rfl rfl ?_
  refine kj_iload_n dX11_hull_1 (pc' := 2) rfl rfl rfl ?_
  refine kcVz (as := [.inl x1]) (st := []) l_RX11_95 (m_X11_isSet hE σ x1 rfl) rfl (Nat.lt_of_lt_of_le (Nat.le_of_ble_eq_true rfl : 120 < 140) hE.1) rfl ⟨⟨rfl, rfl⟩, Nat.le_of_ble_eq_true rfl, Nat.le_of_ble_eq_true rfl⟩ (Nat.le_of_ble_eq_true rfl) dX11_hull_2 (pc' := 5) rfl (fun z1 => ?_)
  refine kj_if_ne dX11_hull_5 (tgt := 10) rfl (pc' := 8) rfl (fun c2 => ?_) (fun c2 => ?_)
  · rw [if_neg c2] at hT
    refine kj_aload_n dX11_hull_10 (pc' := 11) rfl rfl rfl ?_
    obtain ⟨σ3, hσ3, hT⟩ := bind_some' hT
    refine kcVv (as := []) (st := []) l_RX11_135 (m_X11_lays hE σ hσ3) rfl (Nat.lt_of_lt_of_le (Nat.le_of_ble_eq_true rfl : 120 < 140) hE.1) rfl ⟨⟨rfl, rfl⟩, Nat.le_of_ble_eq_true rfl, Nat.le_of_ble_eq_true rfl⟩ (Nat.le_of_ble_eq_true rfl) dX11_hull_11 (pc' := 14) rfl ?_
    refine kj_aload_n dX11_hull_14 (pc' := 15) rfl rfl rfl ?_
    refine kcVi (as := []) (st := []) l_RX11_88 (m_X11_allPoints hE σ3 rfl) rfl (Nat.lt_of_lt_of_le (Nat.le_of_ble_eq_true rfl : 120 < 140) hE.1) rfl ⟨⟨rfl, rfl⟩, Nat.le_of_ble_eq_true rfl, Nat.le_of_ble_eq_true rfl⟩ (Nat.le_of_ble_eq_true rfl) dX11_hull_15 (pc' := 18) rfl ?_
    refine kj_istore_n dX11_hull_18 (pc' := 19) rfl rfl (Nat.le_of_ble_eq_true rfl) (ls' := [some (.inr 120), some (.inl x1), some (.inl (X11_allPoints σ3))]) rfl ?_
    refine kj_iconst dX11_hull_19 (pc' := 20) rfl kc_0 ?_
    refine kj_istore_n dX11_hull_20 (pc' := 21) rfl rfl (Nat.le_of_ble_eq_true rfl) (ls' := [some (.inr 120), some (.inl x1), some (.inl (X11_allPoints σ3)), some (.inl 0)]) rfl ?_
    refine lp_ind (P := fun s => KJ E mX11_hull rmX11_hull 21 [some (.inr 120), some (.inl x1), some (.inl s.1), some (.inl s.2)] [] σ3 Q) (fun rec21 s ih21 hT => ?_) FU (X11_allPoints σ3, 0) hT
    obtain ⟨x2, x3⟩ := s
    show KJ E mX11_hull rmX11_hull 21 [some (.inr 120), some (.inl x1), some (.inl x2), some (.inl x3)] [] σ3 Q
    rw [X11_hull_B21] at hT
    have hJ51_21 : ∀ y2 y3, X11_hull_J51 rec21 y2 y3 = some res → KJ E mX11_hull rmX11_hull 51 [some (.inr 120), some (.inl x1), some (.inl y2), some (.inl y3)] [] σ3 Q := by
      intro y2 y3 hT
      unfold X11_hull_J51 at hT
      refine kj_iinc dX11_hull_51 (pc' := 54) rfl rfl (congrArg (_ + ·) kc_1) (Nat.le_of_ble_eq_true rfl) (ls' := [some (.inr 120), some (.inl x1), some (.inl y2), some (.inl (y3 + 1))]) rfl ?_
      refine kj_goto dX11_hull_54 (pc' := 21) rfl ?_
      exact ih21 (y2, y3 + 1) hT
    refine kj_iload_n dX11_hull_21 (pc' := 22) rfl rfl rfl ?_
    refine kj_aload_n dX11_hull_22 (pc' := 23) rfl rfl rfl ?_
    refine kj_getI f_RX11_141 rfl (Nat.lt_of_lt_of_le (Nat.le_of_ble_eq_true rfl : 120 < 140) hE.1) dX11_hull_23 (pc' := 26) rfl ?_
    refine kj_icmp_ge dX11_hull_26 (tgt := 57) rfl (pc' := 29) rfl (fun c4 => ?_) (fun c4 => ?_)
    · rw [if_pos c4] at hT
      refine kj_iload_n dX11_hull_57 (pc' := 58) rfl rfl rfl ?_
      have hR := Option.some.inj hT
      subst hR
      exact kj_iret rfl dX11_hull_58 (by subst hQ; exact ⟨rfl, rfl⟩)
    · rw [if_neg c4] at hT
      refine kj_iload_n dX11_hull_29 (pc' := 30) rfl rfl rfl ?_
      refine kj_aload_n dX11_hull_30 (pc' := 31) rfl rfl rfl ?_
      refine kj_getR f_RX11_30 rfl (Nat.lt_of_lt_of_le (Nat.le_of_ble_eq_true rfl : 120 < 140) hE.1) (hE.2 _ _) (q := 126) rfl dX11_hull_31 (pc' := 34) rfl ?_
      refine kj_iload_n dX11_hull_34 (pc' := 35) rfl rfl rfl ?_
      obtain ⟨hi5, hT⟩ := ckA_some hT
      refine kj_iald rfl (Nat.lt_of_lt_of_le (Nat.le_of_ble_eq_true rfl : 126 < 140) hE.1) hi5 rfl dX11_hull_35 (pc' := 36) rfl ?_
      refine kcSz (as := [.inl x1, .inl (σ3 126 x3.toNatClampNeg)]) (st := []) l_RX11_160 (m_X11_isWithin (Nat.zero_le _) σ3 x1 (σ3 126 x3.toNatClampNeg) rfl) rfl ⟨⟨rfl, rfl⟩, Nat.le_of_ble_eq_true rfl, Nat.le_of_ble_eq_true rfl⟩ (Nat.le_of_ble_eq_true rfl) dX11_hull_36 (pc' := 39) rfl (fun z6 => ?_)
      refine kj_if_eq dX11_hull_39 (tgt := 51) rfl (pc' := 42) rfl (fun c7 => ?_) (fun c7 => ?_)
      · rw [if_pos c7] at hT
        exact hJ51_21 x2 x3 hT
      · rw [if_neg c7] at hT
        refine kj_iload_n dX11_hull_42 (pc' := 43) rfl rfl rfl ?_
        refine kj_aload_n dX11_hull_43 (pc' := 44) rfl rfl rfl ?_
        refine kj_getR f_RX11_30 rfl (Nat.lt_of_lt_of_le (Nat.le_of_ble_eq_true rfl : 120 < 140) hE.1) (hE.2 _ _) (q := 126) rfl dX11_hull_44 (pc' := 47) rfl ?_
        refine kj_iload_n dX11_hull_47 (pc' := 48) rfl rfl rfl ?_
        obtain ⟨hi8, hT⟩ := ckA_some hT
        refine kj_iald rfl (Nat.lt_of_lt_of_le (Nat.le_of_ble_eq_true rfl : 126 < 140) hE.1) hi8 rfl dX11_hull_48 (pc' := 49) rfl ?_
        refine kj_iand dX11_hull_49 (pc' := 50) rfl ?_
        obtain ⟨t9, et9, hT⟩ := lett_i hT
        rw [← et9]
        refine kj_istore_n dX11_hull_50 (pc' := 51) rfl rfl (Nat.le_of_ble_eq_true rfl) (ls' := [some (.inr 120), some (.inl x1), some (.inl t9), some (.inl x3)]) rfl ?_
        exact hJ51_21 t9 x3 hT
  · rw [if_pos c2] at hT
    refine kj_iconst dX11_hull_8 (pc' := 9) rfl kc_m1 ?_
    have hR := Option.some.inj hT
    subst hR
    exact kj_iret rfl dX11_hull_9 (by subst hQ; exact ⟨rfl, rfl⟩)
def X11_trace_T96 (rec38 : Int32 × Int32 → Option (Int32 × Wd)) (x5 : Int32) (x4 : Int32) : Option (Int32 × Wd) :=
  rec38 (x4, x5 + 1)
def X11_trace_J90 (rec48 : Int32 × Int32 → Option (Int32 × Wd)) (y4 : Int32) (y6 : Int32) : Option (Int32 × Wd) :=
  rec48 (y4, y6 + 1)
def X11_trace_B48 (σ6 : Wd) (x5 : Int32) (kx48 : Int32 → Option (Int32 × Wd)) (rec48 : Int32 × Int32 → Option (Int32 × Wd)) : Int32 × Int32 → Option (Int32 × Wd)
  | (x4, x6) => (if 128 ≤ x6 then kx48 x4 else (ckA x6 128 <| (if (σ6 134 x6.toNatClampNeg) = 0 then X11_trace_J90 rec48 x4 x6 else ((X11_ones x6).bind fun t12 => (if t12 = x5 then (if x4 = 0 then some (x6, σ6) else X11_trace_J90 rec48 (x4 + (-1)) x6) else X11_trace_J90 rec48 x4 x6)))))
def X11_trace_B38 (σ6 : Wd) (rec38 : Int32 × Int32 → Option (Int32 × Wd)) : Int32 × Int32 → Option (Int32 × Wd)
  | (x4, x5) => (if 7 < x5 then some ((-2), σ6) else (lp (X11_trace_B48 σ6 x5 (X11_trace_T96 rec38 x5)) FU (x4, 0)))
def X11_trace (σ : Wd) (x1 : Int32) (x2 : Int32) : Option (Int32 × Wd) :=
  (if (X11_isSet σ x1) = 0 then some ((-1), σ) else (if (-1) ≤ x2 then ((X11_lays σ).bind fun σ4 => ((X11_traces σ4 x1).bind fun (t5, σ6) => (if x2 = (-1) then some (t5, σ6) else (lp (X11_trace_B38 σ6) FU (x2, 0))))) else some ((-1), σ)))
set_option maxRecDepth 100000 in
set_option maxHeartbeats 4000000 in
theorem m_X11_trace {E : JE} (hE : kOk 140 E) (σ : Wd) (x1 : Int32) (x2 : Int32) {res : Int32 × Wd} (hT : X11_trace σ x1 x2 = some res) : kMt E yX11_trace mX11_trace rmX11_trace [.inr 120, .inl x1, .inl x2] σ (kQi res.1 res.2) := by
  refine kMt_of (by decide +kernel) rfl (Nat.le_of_ble_eq_true rfl) ?_
  generalize hQ : (kQi res.1 res.2) = Q
  show KJ E mX11_trace rmX11_trace 0 [some (.inr 120), some (.inl x1), some (.inl x2)] [] σ Q
  unfold X11_trace at hT
  refine kj_aload_n dX11_trace_0 (pc' := 1) rfl rfl rfl ?_
  refine kj_iload_n dX11_trace_1 (pc' := 2) rfl rfl rfl ?_
  refine kcVz (as := [.inl x1]) (st := []) l_RX11_95 (m_X11_isSet hE σ x1 rfl) rfl (Nat.lt_of_lt_of_le (Nat.le_of_ble_eq_true rfl : 120 < 140) hE.1) rfl ⟨⟨rfl, rfl⟩, Nat.le_of_ble_eq_true rfl, Nat.le_of_ble_eq_true rfl⟩ (Nat.le_of_ble_eq_true rfl) dX11_trace_2 (pc' := 5) rfl (fun z1 => ?_)
  refine kj_if_eq dX11_trace_5 (tgt := 13) rfl (pc' := 8) rfl (fun c2 => ?_) (fun c2 => ?_)
  · rw [if_pos c2] at hT
    refine kj_iconst dX11_trace_13 (pc' := 14) rfl kc_m1 ?_
    have hR := Option.some.inj hT
    subst hR
    exact kj_iret rfl dX11_trace_14 (by subst hQ; exact ⟨rfl, rfl⟩)
  · rw [if_neg c2] at hT
    refine kj_iload_n dX11_trace_8 (pc' := 9) rfl rfl rfl ?_
    refine kj_iconst dX11_trace_9 (pc' := 10) rfl kc_m1 ?_
    refine kj_icmp_ge dX11_trace_10 (tgt := 15) rfl (pc' := 13) rfl (fun c3 => ?_) (fun c3 => ?_)
    · rw [if_pos c3] at hT
      refine kj_aload_n dX11_trace_15 (pc' := 16) rfl rfl rfl ?_
      obtain ⟨σ4, hσ4, hT⟩ := bind_some' hT
      refine kcVv (as := []) (st := []) l_RX11_135 (m_X11_lays hE σ hσ4) rfl (Nat.lt_of_lt_of_le (Nat.le_of_ble_eq_true rfl : 120 < 140) hE.1) rfl ⟨⟨rfl, rfl⟩, Nat.le_of_ble_eq_true rfl, Nat.le_of_ble_eq_true rfl⟩ (Nat.le_of_ble_eq_true rfl) dX11_trace_16 (pc' := 19) rfl ?_
      refine kj_aload_n dX11_trace_19 (pc' := 20) rfl rfl rfl ?_
      refine kj_iload_n dX11_trace_20 (pc' := 21) rfl rfl rfl ?_
      obtain ⟨t5, ht5, hT⟩ := bind_some' hT
      obtain ⟨t5, σ6⟩ := t5
      dsimp only at hT
      refine kcVi (as := [.inl x1]) (st := []) l_RX11_203 (m_X11_traces hE σ4 x1 ht5) rfl (Nat.lt_of_lt_of_le (Nat.le_of_ble_eq_true rfl : 120 < 140) hE.1) rfl ⟨⟨rfl, rfl⟩, Nat.le_of_ble_eq_true rfl, Nat.le_of_ble_eq_true rfl⟩ (Nat.le_of_ble_eq_true rfl) dX11_trace_21 (pc' := 24) rfl ?_
      refine kj_istore_n dX11_trace_24 (pc' := 25) rfl rfl (Nat.le_of_ble_eq_true rfl) (ls' := [some (.inr 120), some (.inl x1), some (.inl x2), some (.inl t5)]) rfl ?_
      refine kj_iload_n dX11_trace_25 (pc' := 26) rfl rfl rfl ?_
      refine kj_iconst dX11_trace_26 (pc' := 27) rfl kc_m1 ?_
      refine kj_icmp_ne dX11_trace_27 (tgt := 32) rfl (pc' := 30) rfl (fun c7 => ?_) (fun c7 => ?_)
      · rw [if_neg c7] at hT
        refine kj_iload_n dX11_trace_32 (pc' := 33) rfl rfl rfl ?_
        refine kj_istore dX11_trace_33 (pc' := 35) rfl (Nat.le_of_ble_eq_true rfl) (ls' := [some (.inr 120), some (.inl x1), some (.inl x2), some (.inl t5), some (.inl x2)]) rfl ?_
        refine kj_iconst dX11_trace_35 (pc' := 36) rfl kc_0 ?_
        refine kj_istore dX11_trace_36 (pc' := 38) rfl (Nat.le_of_ble_eq_true rfl) (ls' := [some (.inr 120), some (.inl x1), some (.inl x2), some (.inl t5), some (.inl x2), some (.inl 0)]) rfl ?_
        refine kj_keep [true, false, false, false, true, true] (ls' := [some (.inr 120), none, none, none, some (.inl x2), some (.inl 0)]) rfl ?_
        refine lp_ind (P := fun s => KJ E mX11_trace rmX11_trace 38 [some (.inr 120), none, none, none, some (.inl s.1), some (.inl s.2)] [] σ6 Q) (fun rec38 s ih38 hT => ?_) FU (x2, 0) hT
        obtain ⟨x4, x5⟩ := s
        show KJ E mX11_trace rmX11_trace 38 [some (.inr 120), none, none, none, some (.inl x4), some (.inl x5)] [] σ6 Q
        rw [X11_trace_B38] at hT
        refine kj_iload dX11_trace_38 (pc' := 40) rfl rfl ?_
        refine kj_bipush dX11_trace_40 (pc' := 42) rfl kb_7 ?_
        refine kj_icmp_gt dX11_trace_42 (tgt := 102) rfl (pc' := 45) rfl (fun c8 => ?_) (fun c8 => ?_)
        · rw [if_pos c8] at hT
          refine kj_bipush dX11_trace_102 (pc' := 104) rfl kb_m2 ?_
          have hR := Option.some.inj hT
          subst hR
          exact kj_iret rfl dX11_trace_104 (by subst hQ; exact ⟨rfl, rfl⟩)
        · rw [if_neg c8] at hT
          refine kj_iconst dX11_trace_45 (pc' := 46) rfl kc_0 ?_
          refine kj_istore dX11_trace_46 (pc' := 48) rfl (Nat.le_of_ble_eq_true rfl) (ls' := [some (.inr 120), none, none, none, some (.inl x4), some (.inl x5), some (.inl 0)]) rfl ?_
          have hX48 : ∀ x4, X11_trace_T96 rec38 x5 x4 = some res → KJ E mX11_trace rmX11_trace 96 [some (.inr 120), none, none, none, some (.inl x4), some (.inl x5)] [] σ6 Q := by
            intro x4 hT
            unfold X11_trace_T96 at hT
            refine kj_iinc dX11_trace_96 (pc' := 99) rfl rfl (congrArg (_ + ·) kc_1) (Nat.le_of_ble_eq_true rfl) (ls' := [some (.inr 120), none, none, none, some (.inl x4), some (.inl (x5 + 1))]) rfl ?_
            refine kj_goto dX11_trace_99 (pc' := 38) rfl ?_
            exact ih38 (x4, x5 + 1) hT
          refine lp_ind (P := fun s => KJ E mX11_trace rmX11_trace 48 [some (.inr 120), none, none, none, some (.inl s.1), some (.inl x5), some (.inl s.2)] [] σ6 Q) (fun rec48 s ih48 hT => ?_) FU (x4, 0) hT
          obtain ⟨x4, x6⟩ := s
          show KJ E mX11_trace rmX11_trace 48 [some (.inr 120), none, none, none, some (.inl x4), some (.inl x5), some (.inl x6)] [] σ6 Q
          rw [X11_trace_B48] at hT
          have hJ90_38_48 : ∀ y4 y6, X11_trace_J90 rec48 y4 y6 = some res → KJ E mX11_trace rmX11_trace 90 [some (.inr 120), none, none, none, some (.inl y4), some (.inl x5), some (.inl y6)] [] σ6 Q := by
            intro y4 y6 hT
            unfold X11_trace_J90 at hT
            refine kj_iinc dX11_trace_90 (pc' := 93) rfl rfl (congrArg (_ + ·) kc_1) (Nat.le_of_ble_eq_true rfl) (ls' := [some (.inr 120), none, none, none, some (.inl y4), some (.inl x5), some (.inl (y6 + 1))]) rfl ?_
            refine kj_goto dX11_trace_93 (pc' := 48) rfl ?_
            exact ih48 (y4, y6 + 1) hT
          refine kj_iload dX11_trace_48 (pc' := 50) rfl rfl ?_
          refine kj_sipush dX11_trace_50 (pc' := 53) rfl ks_128 ?_
          refine kj_icmp_ge dX11_trace_53 (tgt := 96) rfl (pc' := 56) rfl (fun c9 => ?_) (fun c9 => ?_)
          · rw [if_pos c9] at hT
            refine kj_keep [true, false, false, false, true, true] (ls' := [some (.inr 120), none, none, none, some (.inl x4), some (.inl x5)]) rfl ?_
            exact hX48 x4 hT
          · rw [if_neg c9] at hT
            refine kj_aload_n dX11_trace_56 (pc' := 57) rfl rfl rfl ?_
            refine kj_getR f_RX11_54 rfl (Nat.lt_of_lt_of_le (Nat.le_of_ble_eq_true rfl : 120 < 140) hE.1) (hE.2 _ _) (q := 134) rfl dX11_trace_57 (pc' := 60) rfl ?_
            refine kj_iload dX11_trace_60 (pc' := 62) rfl rfl ?_
            obtain ⟨hi10, hT⟩ := ckA_some hT
            refine kj_zald rfl (Nat.lt_of_lt_of_le (Nat.le_of_ble_eq_true rfl : 134 < 140) hE.1) hi10 rfl dX11_trace_62 (pc' := 63) rfl ?_
            refine kj_if_eq dX11_trace_63 (tgt := 90) rfl (pc' := 66) rfl (fun c11 => ?_) (fun c11 => ?_)
            · rw [if_pos c11] at hT
              exact hJ90_38_48 x4 x6 hT
            · rw [if_neg c11] at hT
              refine kj_iload dX11_trace_66 (pc' := 68) rfl rfl ?_
              obtain ⟨t12, ht12, hT⟩ := bind_some' hT
              refine kcSi (as := [.inl x6]) (st := []) l_RX11_157 (m_X11_ones (Nat.zero_le _) σ6 x6 ht12) rfl ⟨⟨rfl, rfl⟩, Nat.le_of_ble_eq_true rfl, Nat.le_of_ble_eq_true rfl⟩ (Nat.le_of_ble_eq_true rfl) dX11_trace_68 (pc' := 71) rfl ?_
              refine kj_iload dX11_trace_71 (pc' := 73) rfl rfl ?_
              refine kj_icmp_eq dX11_trace_73 (tgt := 79) rfl (pc' := 76) rfl (fun c13 => ?_) (fun c13 => ?_)
              · rw [if_pos c13] at hT
                refine kj_iload dX11_trace_79 (pc' := 81) rfl rfl ?_
                refine kj_if_ne dX11_trace_81 (tgt := 87) rfl (pc' := 84) rfl (fun c14 => ?_) (fun c14 => ?_)
                · rw [if_neg c14] at hT
                  refine kj_iinc dX11_trace_87 (pc' := 90) rfl rfl (congrArg (_ + ·) kc_m1) (Nat.le_of_ble_eq_true rfl) (ls' := [some (.inr 120), none, none, none, some (.inl (x4 + (-1))), some (.inl x5), some (.inl x6)]) rfl ?_
                  exact hJ90_38_48 (x4 + (-1)) x6 hT
                · rw [if_pos c14] at hT
                  refine kj_iload dX11_trace_84 (pc' := 86) rfl rfl ?_
                  have hR := Option.some.inj hT
                  subst hR
                  exact kj_iret rfl dX11_trace_86 (by subst hQ; exact ⟨rfl, rfl⟩)
              · rw [if_neg c13] at hT
                refine kj_goto dX11_trace_76 (pc' := 90) rfl ?_
                exact hJ90_38_48 x4 x6 hT
      · rw [if_pos c7] at hT
        refine kj_iload_n dX11_trace_30 (pc' := 31) rfl rfl rfl ?_
        have hR := Option.some.inj hT
        subst hR
        exact kj_iret rfl dX11_trace_31 (by subst hQ; exact ⟨rfl, rfl⟩)
    · rw [if_neg c3] at hT
      refine kj_iconst dX11_trace_13 (pc' := 14) rfl kc_m1 ?_
      have hR := Option.some.inj hT
      subst hR
      exact kj_iret rfl dX11_trace_14 (by subst hQ; exact ⟨rfl, rfl⟩)
def X11_isClosed_T95 (rec2 : Int32 → Option (Int32)) (x3 : Int32) : Option (Int32) :=
  rec2 (x3 + 1)
def X11_isClosed_J89 (rec13 : Int32 → Option (Int32)) (y4 : Int32) : Option (Int32) :=
  rec13 (y4 + 1)
def X11_isClosed_B13 (σ : Wd) (x3 : Int32) (x1 : Int32) (x2 : Int32) (kx13 : Option (Int32)) (rec13 : Int32 → Option (Int32)) : Int32 → Option (Int32)
  | (x4) => (if (σ 120 10) ≤ x4 then kx13 else (ckA x3 128 <| (ckA x4 128 <| (lett ((σ 126 x3.toNatClampNeg) ||| (σ 126 x4.toNatClampNeg)) fun x5 => (ckA x3 128 <| (if (X11_has (σ 126 x3.toNatClampNeg) x1) = x2 then (ckA x4 128 <| (if (X11_has (σ 126 x4.toNatClampNeg) x1) = x2 then (ckA x5 128 <| (if (σ 125 x5.toNatClampNeg) = 0 then some 0 else (if (X11_has x5 x1) = x2 then X11_isClosed_J89 rec13 x4 else some 0))) else X11_isClosed_J89 rec13 x4)) else X11_isClosed_J89 rec13 x4))))))
def X11_isClosed_B2 (σ : Wd) (x1 : Int32) (x2 : Int32) (rec2 : Int32 → Option (Int32)) : Int32 → Option (Int32)
  | (x3) => (if (σ 120 10) ≤ x3 then some 1 else (lp (X11_isClosed_B13 σ x3 x1 x2 (X11_isClosed_T95 rec2 x3)) FU (0)))
def X11_isClosed (σ : Wd) (x1 : Int32) (x2 : Int32) : Option (Int32) :=
  (lp (X11_isClosed_B2 σ x1 x2) FU (0))
set_option maxRecDepth 100000 in
set_option maxHeartbeats 4000000 in
theorem m_X11_isClosed {E : JE} (hE : kOk 140 E) (σ : Wd) (x1 : Int32) (x2 : Int32) {res : Int32} (hT : X11_isClosed σ x1 x2 = some res) : kMt E yX11_isClosed mX11_isClosed rmX11_isClosed [.inr 120, .inl x1, .inl x2] σ (kQz res σ) := by
  refine kMt_of (by decide +kernel) rfl (Nat.le_of_ble_eq_true rfl) ?_
  generalize hQ : (kQz res σ) = Q
  show KJ E mX11_isClosed rmX11_isClosed 0 [some (.inr 120), some (.inl x1), some (.inl x2)] [] σ Q
  unfold X11_isClosed at hT
  refine kj_iconst dX11_isClosed_0 (pc' := 1) rfl kc_0 ?_
  refine kj_istore_n dX11_isClosed_1 (pc' := 2) rfl rfl (Nat.le_of_ble_eq_true rfl) (ls' := [some (.inr 120), some (.inl x1), some (.inl x2), some (.inl 0)]) rfl ?_
  refine lp_ind (P := fun s => KJ E mX11_isClosed rmX11_isClosed 2 [some (.inr 120), some (.inl x1), some (.inl x2), some (.inl s)] [] σ Q) (fun rec2 s ih2 hT => ?_) FU (0) hT
  obtain ⟨x3, hs⟩ : ∃ z, z = s := ⟨_, rfl⟩
  subst hs
  show KJ E mX11_isClosed rmX11_isClosed 2 [some (.inr 120), some (.inl x1), some (.inl x2), some (.inl x3)] [] σ Q
  rw [X11_isClosed_B2] at hT
  refine kj_iload_n dX11_isClosed_2 (pc' := 3) rfl rfl rfl ?_
  refine kj_aload_n dX11_isClosed_3 (pc' := 4) rfl rfl rfl ?_
  refine kj_getI f_RX11_141 rfl (Nat.lt_of_lt_of_le (Nat.le_of_ble_eq_true rfl : 120 < 140) hE.1) dX11_isClosed_4 (pc' := 7) rfl ?_
  refine kj_icmp_ge dX11_isClosed_7 (tgt := 101) rfl (pc' := 10) rfl (fun c2 => ?_) (fun c2 => ?_)
  · rw [if_pos c2] at hT
    refine kj_iconst dX11_isClosed_101 (pc' := 102) rfl kc_1 ?_
    have hR := Option.some.inj hT
    subst hR
    exact kj_zret rfl (Or.inr rfl) dX11_isClosed_102 (by subst hQ; exact ⟨rfl, rfl, (Or.inr rfl)⟩)
  · rw [if_neg c2] at hT
    refine kj_iconst dX11_isClosed_10 (pc' := 11) rfl kc_0 ?_
    refine kj_istore dX11_isClosed_11 (pc' := 13) rfl (Nat.le_of_ble_eq_true rfl) (ls' := [some (.inr 120), some (.inl x1), some (.inl x2), some (.inl x3), some (.inl 0)]) rfl ?_
    have hX13 : ∀ (_ : Unit), X11_isClosed_T95 rec2 x3 = some res → KJ E mX11_isClosed rmX11_isClosed 95 [some (.inr 120), some (.inl x1), some (.inl x2), some (.inl x3)] [] σ Q := by
      intro _ hT
      unfold X11_isClosed_T95 at hT
      refine kj_iinc dX11_isClosed_95 (pc' := 98) rfl rfl (congrArg (_ + ·) kc_1) (Nat.le_of_ble_eq_true rfl) (ls' := [some (.inr 120), some (.inl x1), some (.inl x2), some (.inl (x3 + 1))]) rfl ?_
      refine kj_goto dX11_isClosed_98 (pc' := 2) rfl ?_
      exact ih2 (x3 + 1) hT
    refine lp_ind (P := fun s => KJ E mX11_isClosed rmX11_isClosed 13 [some (.inr 120), some (.inl x1), some (.inl x2), some (.inl x3), some (.inl s)] [] σ Q) (fun rec13 s ih13 hT => ?_) FU (0) hT
    obtain ⟨x4, hs⟩ : ∃ z, z = s := ⟨_, rfl⟩
    subst hs
    show KJ E mX11_isClosed rmX11_isClosed 13 [some (.inr 120), some (.inl x1), some (.inl x2), some (.inl x3), some (.inl x4)] [] σ Q
    rw [X11_isClosed_B13] at hT
    have hJ89_2_13 : ∀ y4, X11_isClosed_J89 rec13 y4 = some res → KJ E mX11_isClosed rmX11_isClosed 89 [some (.inr 120), some (.inl x1), some (.inl x2), some (.inl x3), some (.inl y4)] [] σ Q := by
      intro y4 hT
      unfold X11_isClosed_J89 at hT
      refine kj_iinc dX11_isClosed_89 (pc' := 92) rfl rfl (congrArg (_ + ·) kc_1) (Nat.le_of_ble_eq_true rfl) (ls' := [some (.inr 120), some (.inl x1), some (.inl x2), some (.inl x3), some (.inl (y4 + 1))]) rfl ?_
      refine kj_goto dX11_isClosed_92 (pc' := 13) rfl ?_
      exact ih13 (y4 + 1) hT
    refine kj_iload dX11_isClosed_13 (pc' := 15) rfl rfl ?_
    refine kj_aload_n dX11_isClosed_15 (pc' := 16) rfl rfl rfl ?_
    refine kj_getI f_RX11_141 rfl (Nat.lt_of_lt_of_le (Nat.le_of_ble_eq_true rfl : 120 < 140) hE.1) dX11_isClosed_16 (pc' := 19) rfl ?_
    refine kj_icmp_ge dX11_isClosed_19 (tgt := 95) rfl (pc' := 22) rfl (fun c4 => ?_) (fun c4 => ?_)
    · rw [if_pos c4] at hT
      refine kj_keep [true, true, true, true] (ls' := [some (.inr 120), some (.inl x1), some (.inl x2), some (.inl x3)]) rfl ?_
      exact hX13 () hT
    · rw [if_neg c4] at hT
      refine kj_aload_n dX11_isClosed_22 (pc' := 23) rfl rfl rfl ?_
      refine kj_getR f_RX11_30 rfl (Nat.lt_of_lt_of_le (Nat.le_of_ble_eq_true rfl : 120 < 140) hE.1) (hE.2 _ _) (q := 126) rfl dX11_isClosed_23 (pc' := 26) rfl ?_
      refine kj_iload_n dX11_isClosed_26 (pc' := 27) rfl rfl rfl ?_
      obtain ⟨hi5, hT⟩ := ckA_some hT
      refine kj_iald rfl (Nat.lt_of_lt_of_le (Nat.le_of_ble_eq_true rfl : 126 < 140) hE.1) hi5 rfl dX11_isClosed_27 (pc' := 28) rfl ?_
      refine kj_aload_n dX11_isClosed_28 (pc' := 29) rfl rfl rfl ?_
      refine kj_getR f_RX11_30 rfl (Nat.lt_of_lt_of_le (Nat.le_of_ble_eq_true rfl : 120 < 140) hE.1) (hE.2 _ _) (q := 126) rfl dX11_isClosed_29 (pc' := 32) rfl ?_
      refine kj_iload dX11_isClosed_32 (pc' := 34) rfl rfl ?_
      obtain ⟨hi6, hT⟩ := ckA_some hT
      refine kj_iald rfl (Nat.lt_of_lt_of_le (Nat.le_of_ble_eq_true rfl : 126 < 140) hE.1) hi6 rfl dX11_isClosed_34 (pc' := 35) rfl ?_
      refine kj_ior dX11_isClosed_35 (pc' := 36) rfl ?_
      obtain ⟨x5, ex5, hT⟩ := lett_i hT
      rw [← ex5]
      refine kj_istore dX11_isClosed_36 (pc' := 38) rfl (Nat.le_of_ble_eq_true rfl) (ls' := [some (.inr 120), some (.inl x1), some (.inl x2), some (.inl x3), some (.inl x4), some (.inl x5)]) rfl ?_
      refine kj_aload_n dX11_isClosed_38 (pc' := 39) rfl rfl rfl ?_
      refine kj_getR f_RX11_30 rfl (Nat.lt_of_lt_of_le (Nat.le_of_ble_eq_true rfl : 120 < 140) hE.1) (hE.2 _ _) (q := 126) rfl dX11_isClosed_39 (pc' := 42) rfl ?_
      refine kj_iload_n dX11_isClosed_42 (pc' := 43) rfl rfl rfl ?_
      obtain ⟨hi7, hT⟩ := ckA_some hT
      refine kj_iald rfl (Nat.lt_of_lt_of_le (Nat.le_of_ble_eq_true rfl : 126 < 140) hE.1) hi7 rfl dX11_isClosed_43 (pc' := 44) rfl ?_
      refine kj_iload_n dX11_isClosed_44 (pc' := 45) rfl rfl rfl ?_
      refine kcSz (as := [.inl (σ 126 x3.toNatClampNeg), .inl x1]) (st := []) l_RX11_128 (m_X11_has (Nat.zero_le _) σ (σ 126 x3.toNatClampNeg) x1 rfl) rfl ⟨⟨rfl, rfl⟩, Nat.le_of_ble_eq_true rfl, Nat.le_of_ble_eq_true rfl⟩ (Nat.le_of_ble_eq_true rfl) dX11_isClosed_45 (pc' := 48) rfl (fun z8 => ?_)
      refine kj_iload_n dX11_isClosed_48 (pc' := 49) rfl rfl rfl ?_
      refine kj_icmp_ne dX11_isClosed_49 (tgt := 89) rfl (pc' := 52) rfl (fun c9 => ?_) (fun c9 => ?_)
      · rw [if_neg c9] at hT
        refine kj_keep [true, true, true, true, true] (ls' := [some (.inr 120), some (.inl x1), some (.inl x2), some (.inl x3), some (.inl x4)]) rfl ?_
        exact hJ89_2_13 x4 hT
      · rw [if_pos c9] at hT
        refine kj_aload_n dX11_isClosed_52 (pc' := 53) rfl rfl rfl ?_
        refine kj_getR f_RX11_30 rfl (Nat.lt_of_lt_of_le (Nat.le_of_ble_eq_true rfl : 120 < 140) hE.1) (hE.2 _ _) (q := 126) rfl dX11_isClosed_53 (pc' := 56) rfl ?_
        refine kj_iload dX11_isClosed_56 (pc' := 58) rfl rfl ?_
        obtain ⟨hi10, hT⟩ := ckA_some hT
        refine kj_iald rfl (Nat.lt_of_lt_of_le (Nat.le_of_ble_eq_true rfl : 126 < 140) hE.1) hi10 rfl dX11_isClosed_58 (pc' := 59) rfl ?_
        refine kj_iload_n dX11_isClosed_59 (pc' := 60) rfl rfl rfl ?_
        refine kcSz (as := [.inl (σ 126 x4.toNatClampNeg), .inl x1]) (st := []) l_RX11_128 (m_X11_has (Nat.zero_le _) σ (σ 126 x4.toNatClampNeg) x1 rfl) rfl ⟨⟨rfl, rfl⟩, Nat.le_of_ble_eq_true rfl, Nat.le_of_ble_eq_true rfl⟩ (Nat.le_of_ble_eq_true rfl) dX11_isClosed_60 (pc' := 63) rfl (fun z11 => ?_)
        refine kj_iload_n dX11_isClosed_63 (pc' := 64) rfl rfl rfl ?_
        refine kj_icmp_ne dX11_isClosed_64 (tgt := 89) rfl (pc' := 67) rfl (fun c12 => ?_) (fun c12 => ?_)
        · rw [if_neg c12] at hT
          refine kj_keep [true, true, true, true, true] (ls' := [some (.inr 120), some (.inl x1), some (.inl x2), some (.inl x3), some (.inl x4)]) rfl ?_
          exact hJ89_2_13 x4 hT
        · rw [if_pos c12] at hT
          refine kj_aload_n dX11_isClosed_67 (pc' := 68) rfl rfl rfl ?_
          refine kj_getR f_RX11_26 rfl (Nat.lt_of_lt_of_le (Nat.le_of_ble_eq_true rfl : 120 < 140) hE.1) (hE.2 _ _) (q := 125) rfl dX11_isClosed_68 (pc' := 71) rfl ?_
          refine kj_iload dX11_isClosed_71 (pc' := 73) rfl rfl ?_
          obtain ⟨hi13, hT⟩ := ckA_some hT
          refine kj_zald rfl (Nat.lt_of_lt_of_le (Nat.le_of_ble_eq_true rfl : 125 < 140) hE.1) hi13 rfl dX11_isClosed_73 (pc' := 74) rfl ?_
          refine kj_if_eq dX11_isClosed_74 (tgt := 87) rfl (pc' := 77) rfl (fun c14 => ?_) (fun c14 => ?_)
          · rw [if_pos c14] at hT
            refine kj_iconst dX11_isClosed_87 (pc' := 88) rfl kc_0 ?_
            have hR := Option.some.inj hT
            subst hR
            exact kj_zret rfl (Or.inl rfl) dX11_isClosed_88 (by subst hQ; exact ⟨rfl, rfl, (Or.inl rfl)⟩)
          · rw [if_neg c14] at hT
            refine kj_iload dX11_isClosed_77 (pc' := 79) rfl rfl ?_
            refine kj_iload_n dX11_isClosed_79 (pc' := 80) rfl rfl rfl ?_
            refine kcSz (as := [.inl x5, .inl x1]) (st := []) l_RX11_128 (m_X11_has (Nat.zero_le _) σ x5 x1 rfl) rfl ⟨⟨rfl, rfl⟩, Nat.le_of_ble_eq_true rfl, Nat.le_of_ble_eq_true rfl⟩ (Nat.le_of_ble_eq_true rfl) dX11_isClosed_80 (pc' := 83) rfl (fun z15 => ?_)
            refine kj_iload_n dX11_isClosed_83 (pc' := 84) rfl rfl rfl ?_
            refine kj_icmp_eq dX11_isClosed_84 (tgt := 89) rfl (pc' := 87) rfl (fun c16 => ?_) (fun c16 => ?_)
            · rw [if_pos c16] at hT
              refine kj_keep [true, true, true, true, true] (ls' := [some (.inr 120), some (.inl x1), some (.inl x2), some (.inl x3), some (.inl x4)]) rfl ?_
              exact hJ89_2_13 x4 hT
            · rw [if_neg c16] at hT
              refine kj_iconst dX11_isClosed_87 (pc' := 88) rfl kc_0 ?_
              have hR := Option.some.inj hT
              subst hR
              exact kj_zret rfl (Or.inl rfl) dX11_isClosed_88 (by subst hQ; exact ⟨rfl, rfl, (Or.inl rfl)⟩)
def X11_part_T98 (x3 : Int32) (σ5 : Wd) (x1 : Int32) (x2 : Int32) (x4 : Int32) (x5 : Int32) (x6 : Int32) : Option (Int32 × Wd) :=
  (if x3 = 0 then some (x4, σ5) else (if x3 = 1 then (if x4 = 0 then some ((-2), σ5) else some (x5, σ5)) else (if x3 = 2 then (if x4 = 0 then some ((-2), σ5) else some (x6, σ5)) else ((X11_isClosed σ5 x1 x2).bind fun t11 => (if t11 = 0 then some (0, σ5) else some (1, σ5))))))
def X11_part_J92 (rec38 : Int32 × Int32 × Int32 × Int32 → Option (Int32 × Wd)) (y4 : Int32) (y5 : Int32) (y6 : Int32) (y7 : Int32) : Option (Int32 × Wd) :=
  rec38 (y4, y5, y6, y7 + 1)
def X11_part_B38 (σ5 : Wd) (x1 : Int32) (x2 : Int32) (kx38 : Int32 → Int32 → Int32 → Option (Int32 × Wd)) (rec38 : Int32 × Int32 × Int32 × Int32 → Option (Int32 × Wd)) : Int32 × Int32 × Int32 × Int32 → Option (Int32 × Wd)
  | (x4, x5, x6, x7) => (if (σ5 120 10) ≤ x7 then kx38 x4 x5 x6 else (ckA x7 128 <| (if (X11_has (σ5 126 x7.toNatClampNeg) x1) = x2 then (ckA x7 128 <| (lett (x5 ||| (σ5 126 x7.toNatClampNeg)) fun t19 => (ckA x7 128 <| (lett (x6 &&& (σ5 126 x7.toNatClampNeg)) fun t21 => X11_part_J92 rec38 (x4 + 1) t19 t21 x7)))) else X11_part_J92 rec38 x4 x5 x6 x7)))
def X11_part (σ : Wd) (x1 : Int32) (x2 : Int32) (x3 : Int32) : Option (Int32 × Wd) :=
  (if (X11_isPoint σ x1) = 0 then some ((-1), σ) else (if (X11_in x3 0 3) = 0 then some ((-1), σ) else ((X11_lays σ).bind fun σ5 => (lp (X11_part_B38 σ5 x1 x2 (X11_part_T98 x3 σ5 x1 x2)) FU (0, 0, X11_allPoints σ5, 0)))))
set_option maxRecDepth 100000 in
set_option maxHeartbeats 4000000 in
theorem m_X11_part {E : JE} (hE : kOk 140 E) (σ : Wd) (x1 : Int32) (x2 : Int32) (x3 : Int32) {res : Int32 × Wd} (hT : X11_part σ x1 x2 x3 = some res) : kMt E yX11_part mX11_part rmX11_part [.inr 120, .inl x1, .inl x2, .inl x3] σ (kQi res.1 res.2) := by
  refine kMt_of (by decide +kernel) rfl (Nat.le_of_ble_eq_true rfl) ?_
  generalize hQ : (kQi res.1 res.2) = Q
  show KJ E mX11_part rmX11_part 0 [some (.inr 120), some (.inl x1), some (.inl x2), some (.inl x3)] [] σ Q
  unfold X11_part at hT
  refine kj_aload_n dX11_part_0 (pc' := 1) rfl rfl rfl ?_
  refine kj_iload_n dX11_part_1 (pc' := 2) rfl rfl rfl ?_
  refine kcVz (as := [.inl x1]) (st := []) l_RX11_116 (m_X11_isPoint hE σ x1 rfl) rfl (Nat.lt_of_lt_of_le (Nat.le_of_ble_eq_true rfl : 120 < 140) hE.1) rfl ⟨⟨rfl, rfl⟩, Nat.le_of_ble_eq_true rfl, Nat.le_of_ble_eq_true rfl⟩ (Nat.le_of_ble_eq_true rfl) dX11_part_2 (pc' := 5) rfl (fun z1 => ?_)
  refine kj_if_eq dX11_part_5 (tgt := 17) rfl (pc' := 8) rfl (fun c2 => ?_) (fun c2 => ?_)
  · rw [if_pos c2] at hT
    refine kj_iconst dX11_part_17 (pc' := 18) rfl kc_m1 ?_
    have hR := Option.some.inj hT
    subst hR
    exact kj_iret rfl dX11_part_18 (by subst hQ; exact ⟨rfl, rfl⟩)
  · rw [if_neg c2] at hT
    refine kj_iload_n dX11_part_8 (pc' := 9) rfl rfl rfl ?_
    refine kj_iconst dX11_part_9 (pc' := 10) rfl kc_0 ?_
    refine kj_iconst dX11_part_10 (pc' := 11) rfl kc_3 ?_
    refine kcSz (as := [.inl x3, .inl 0, .inl 3]) (st := []) l_RX11_84 (m_X11_in (Nat.zero_le _) σ x3 0 3 rfl) rfl ⟨⟨rfl, rfl⟩, Nat.le_of_ble_eq_true rfl, Nat.le_of_ble_eq_true rfl⟩ (Nat.le_of_ble_eq_true rfl) dX11_part_11 (pc' := 14) rfl (fun z3 => ?_)
    refine kj_if_ne dX11_part_14 (tgt := 19) rfl (pc' := 17) rfl (fun c4 => ?_) (fun c4 => ?_)
    · rw [if_neg c4] at hT
      refine kj_aload_n dX11_part_19 (pc' := 20) rfl rfl rfl ?_
      obtain ⟨σ5, hσ5, hT⟩ := bind_some' hT
      refine kcVv (as := []) (st := []) l_RX11_135 (m_X11_lays hE σ hσ5) rfl (Nat.lt_of_lt_of_le (Nat.le_of_ble_eq_true rfl : 120 < 140) hE.1) rfl ⟨⟨rfl, rfl⟩, Nat.le_of_ble_eq_true rfl, Nat.le_of_ble_eq_true rfl⟩ (Nat.le_of_ble_eq_true rfl) dX11_part_20 (pc' := 23) rfl ?_
      refine kj_iconst dX11_part_23 (pc' := 24) rfl kc_0 ?_
      refine kj_istore dX11_part_24 (pc' := 26) rfl (Nat.le_of_ble_eq_true rfl) (ls' := [some (.inr 120), some (.inl x1), some (.inl x2), some (.inl x3), some (.inl 0)]) rfl ?_
      refine kj_iconst dX11_part_26 (pc' := 27) rfl kc_0 ?_
      refine kj_istore dX11_part_27 (pc' := 29) rfl (Nat.le_of_ble_eq_true rfl) (ls' := [some (.inr 120), some (.inl x1), some (.inl x2), some (.inl x3), some (.inl 0), some (.inl 0)]) rfl ?_
      refine kj_aload_n dX11_part_29 (pc' := 30) rfl rfl rfl ?_
      refine kcVi (as := []) (st := []) l_RX11_88 (m_X11_allPoints hE σ5 rfl) rfl (Nat.lt_of_lt_of_le (Nat.le_of_ble_eq_true rfl : 120 < 140) hE.1) rfl ⟨⟨rfl, rfl⟩, Nat.le_of_ble_eq_true rfl, Nat.le_of_ble_eq_true rfl⟩ (Nat.le_of_ble_eq_true rfl) dX11_part_30 (pc' := 33) rfl ?_
      refine kj_istore dX11_part_33 (pc' := 35) rfl (Nat.le_of_ble_eq_true rfl) (ls' := [some (.inr 120), some (.inl x1), some (.inl x2), some (.inl x3), some (.inl 0), some (.inl 0), some (.inl (X11_allPoints σ5))]) rfl ?_
      refine kj_iconst dX11_part_35 (pc' := 36) rfl kc_0 ?_
      refine kj_istore dX11_part_36 (pc' := 38) rfl (Nat.le_of_ble_eq_true rfl) (ls' := [some (.inr 120), some (.inl x1), some (.inl x2), some (.inl x3), some (.inl 0), some (.inl 0), some (.inl (X11_allPoints σ5)), some (.inl 0)]) rfl ?_
      have hX38 : ∀ x4 x5 x6, X11_part_T98 x3 σ5 x1 x2 x4 x5 x6 = some res → KJ E mX11_part rmX11_part 98 [some (.inr 120), some (.inl x1), some (.inl x2), some (.inl x3), some (.inl x4), some (.inl x5), some (.inl x6)] [] σ5 Q := by
        intro x4 x5 x6 hT
        unfold X11_part_T98 at hT
        refine kj_iload_n dX11_part_98 (pc' := 99) rfl rfl rfl ?_
        by_cases c6 : x3 = 0
        · rw [if_pos c6] at hT
          refine kj_tableIn (x := x3) (off := 25) (tgt := 124) dX11_part_99 (by rw [c6]; decide +kernel) (by rw [c6]; decide +kernel) (by rw [c6]; decide +kernel) rfl ?_
          refine kj_iload dX11_part_124 (pc' := 126) rfl rfl ?_
          have hR := Option.some.inj hT
          subst hR
          exact kj_iret rfl dX11_part_126 (by subst hQ; exact ⟨rfl, rfl⟩)
        rw [if_neg c6] at hT
        by_cases c7 : x3 = 1
        · rw [if_pos c7] at hT
          refine kj_tableIn (x := x3) (off := 28) (tgt := 127) dX11_part_99 (by rw [c7]; decide +kernel) (by rw [c7]; decide +kernel) (by rw [c7]; decide +kernel) rfl ?_
          refine kj_iload dX11_part_127 (pc' := 129) rfl rfl ?_
          refine kj_if_ne dX11_part_129 (tgt := 137) rfl (pc' := 132) rfl (fun c8 => ?_) (fun c8 => ?_)
          · rw [if_neg c8] at hT
            refine kj_iload dX11_part_137 (pc' := 139) rfl rfl ?_
            have hR := Option.some.inj hT
            subst hR
            exact kj_iret rfl dX11_part_139 (by subst hQ; exact ⟨rfl, rfl⟩)
          · rw [if_pos c8] at hT
            refine kj_bipush dX11_part_132 (pc' := 134) rfl kb_m2 ?_
            refine kj_goto dX11_part_134 (pc' := 139) rfl ?_
            have hR := Option.some.inj hT
            subst hR
            exact kj_iret rfl dX11_part_139 (by subst hQ; exact ⟨rfl, rfl⟩)
        rw [if_neg c7] at hT
        by_cases c9 : x3 = 2
        · rw [if_pos c9] at hT
          refine kj_tableIn (x := x3) (off := 41) (tgt := 140) dX11_part_99 (by rw [c9]; decide +kernel) (by rw [c9]; decide +kernel) (by rw [c9]; decide +kernel) rfl ?_
          refine kj_iload dX11_part_140 (pc' := 142) rfl rfl ?_
          refine kj_if_ne dX11_part_142 (tgt := 150) rfl (pc' := 145) rfl (fun c10 => ?_) (fun c10 => ?_)
          · rw [if_neg c10] at hT
            refine kj_iload dX11_part_150 (pc' := 152) rfl rfl ?_
            have hR := Option.some.inj hT
            subst hR
            exact kj_iret rfl dX11_part_152 (by subst hQ; exact ⟨rfl, rfl⟩)
          · rw [if_pos c10] at hT
            refine kj_bipush dX11_part_145 (pc' := 147) rfl kb_m2 ?_
            refine kj_goto dX11_part_147 (pc' := 152) rfl ?_
            have hR := Option.some.inj hT
            subst hR
            exact kj_iret rfl dX11_part_152 (by subst hQ; exact ⟨rfl, rfl⟩)
        rw [if_neg c9] at hT
        refine kj_tableOut (x := x3) (tgt := 153) dX11_part_99 (tb_out (hi := 2) (fun k hk => by rcases (show k = 0 ∨ k = 1 ∨ k = 2  from by omega) with rfl | rfl | rfl <;> assumption) (by decide)) rfl ?_
        refine kj_aload_n dX11_part_153 (pc' := 154) rfl rfl rfl ?_
        refine kj_iload_n dX11_part_154 (pc' := 155) rfl rfl rfl ?_
        refine kj_iload_n dX11_part_155 (pc' := 156) rfl rfl rfl ?_
        obtain ⟨t11, ht11, hT⟩ := bind_some' hT
        refine kcVz (as := [.inl x1, .inl x2]) (st := []) l_RX11_240 (m_X11_isClosed hE σ5 x1 x2 ht11) rfl (Nat.lt_of_lt_of_le (Nat.le_of_ble_eq_true rfl : 120 < 140) hE.1) rfl ⟨⟨rfl, rfl⟩, Nat.le_of_ble_eq_true rfl, Nat.le_of_ble_eq_true rfl⟩ (Nat.le_of_ble_eq_true rfl) dX11_part_156 (pc' := 159) rfl (fun z12 => ?_)
        refine kj_if_eq dX11_part_159 (tgt := 166) rfl (pc' := 162) rfl (fun c13 => ?_) (fun c13 => ?_)
        · rw [if_pos c13] at hT
          refine kj_iconst dX11_part_166 (pc' := 167) rfl kc_0 ?_
          have hR := Option.some.inj hT
          subst hR
          exact kj_iret rfl dX11_part_167 (by subst hQ; exact ⟨rfl, rfl⟩)
        · rw [if_neg c13] at hT
          refine kj_iconst dX11_part_162 (pc' := 163) rfl kc_1 ?_
          refine kj_goto dX11_part_163 (pc' := 167) rfl ?_
          have hR := Option.some.inj hT
          subst hR
          exact kj_iret rfl dX11_part_167 (by subst hQ; exact ⟨rfl, rfl⟩)
      refine lp_ind (P := fun s => KJ E mX11_part rmX11_part 38 [some (.inr 120), some (.inl x1), some (.inl x2), some (.inl x3), some (.inl s.1), some (.inl s.2.1), some (.inl s.2.2.1), some (.inl s.2.2.2)] [] σ5 Q) (fun rec38 s ih38 hT => ?_) FU (0, 0, X11_allPoints σ5, 0) hT
      obtain ⟨x4, x5, x6, x7⟩ := s
      show KJ E mX11_part rmX11_part 38 [some (.inr 120), some (.inl x1), some (.inl x2), some (.inl x3), some (.inl x4), some (.inl x5), some (.inl x6), some (.inl x7)] [] σ5 Q
      rw [X11_part_B38] at hT
      have hJ92_38 : ∀ y4 y5 y6 y7, X11_part_J92 rec38 y4 y5 y6 y7 = some res → KJ E mX11_part rmX11_part 92 [some (.inr 120), some (.inl x1), some (.inl x2), some (.inl x3), some (.inl y4), some (.inl y5), some (.inl y6), some (.inl y7)] [] σ5 Q := by
        intro y4 y5 y6 y7 hT
        unfold X11_part_J92 at hT
        refine kj_iinc dX11_part_92 (pc' := 95) rfl rfl (congrArg (_ + ·) kc_1) (Nat.le_of_ble_eq_true rfl) (ls' := [some (.inr 120), some (.inl x1), some (.inl x2), some (.inl x3), some (.inl y4), some (.inl y5), some (.inl y6), some (.inl (y7 + 1))]) rfl ?_
        refine kj_goto dX11_part_95 (pc' := 38) rfl ?_
        exact ih38 (y4, y5, y6, y7 + 1) hT
      refine kj_iload dX11_part_38 (pc' := 40) rfl rfl ?_
      refine kj_aload_n dX11_part_40 (pc' := 41) rfl rfl rfl ?_
      refine kj_getI f_RX11_141 rfl (Nat.lt_of_lt_of_le (Nat.le_of_ble_eq_true rfl : 120 < 140) hE.1) dX11_part_41 (pc' := 44) rfl ?_
      refine kj_icmp_ge dX11_part_44 (tgt := 98) rfl (pc' := 47) rfl (fun c14 => ?_) (fun c14 => ?_)
      · rw [if_pos c14] at hT
        refine kj_keep [true, true, true, true, true, true, true] (ls' := [some (.inr 120), some (.inl x1), some (.inl x2), some (.inl x3), some (.inl x4), some (.inl x5), some (.inl x6)]) rfl ?_
        exact hX38 x4 x5 x6 hT
      · rw [if_neg c14] at hT
        refine kj_aload_n dX11_part_47 (pc' := 48) rfl rfl rfl ?_
        refine kj_getR f_RX11_30 rfl (Nat.lt_of_lt_of_le (Nat.le_of_ble_eq_true rfl : 120 < 140) hE.1) (hE.2 _ _) (q := 126) rfl dX11_part_48 (pc' := 51) rfl ?_
        refine kj_iload dX11_part_51 (pc' := 53) rfl rfl ?_
        obtain ⟨hi15, hT⟩ := ckA_some hT
        refine kj_iald rfl (Nat.lt_of_lt_of_le (Nat.le_of_ble_eq_true rfl : 126 < 140) hE.1) hi15 rfl dX11_part_53 (pc' := 54) rfl ?_
        refine kj_iload_n dX11_part_54 (pc' := 55) rfl rfl rfl ?_
        refine kcSz (as := [.inl (σ5 126 x7.toNatClampNeg), .inl x1]) (st := []) l_RX11_128 (m_X11_has (Nat.zero_le _) σ5 (σ5 126 x7.toNatClampNeg) x1 rfl) rfl ⟨⟨rfl, rfl⟩, Nat.le_of_ble_eq_true rfl, Nat.le_of_ble_eq_true rfl⟩ (Nat.le_of_ble_eq_true rfl) dX11_part_55 (pc' := 58) rfl (fun z16 => ?_)
        refine kj_iload_n dX11_part_58 (pc' := 59) rfl rfl rfl ?_
        refine kj_icmp_eq dX11_part_59 (tgt := 65) rfl (pc' := 62) rfl (fun c17 => ?_) (fun c17 => ?_)
        · rw [if_pos c17] at hT
          refine kj_iinc dX11_part_65 (pc' := 68) rfl rfl (congrArg (_ + ·) kc_1) (Nat.le_of_ble_eq_true rfl) (ls' := [some (.inr 120), some (.inl x1), some (.inl x2), some (.inl x3), some (.inl (x4 + 1)), some (.inl x5), some (.inl x6), some (.inl x7)]) rfl ?_
          refine kj_iload dX11_part_68 (pc' := 70) rfl rfl ?_
          refine kj_aload_n dX11_part_70 (pc' := 71) rfl rfl rfl ?_
          refine kj_getR f_RX11_30 rfl (Nat.lt_of_lt_of_le (Nat.le_of_ble_eq_true rfl : 120 < 140) hE.1) (hE.2 _ _) (q := 126) rfl dX11_part_71 (pc' := 74) rfl ?_
          refine kj_iload dX11_part_74 (pc' := 76) rfl rfl ?_
          obtain ⟨hi18, hT⟩ := ckA_some hT
          refine kj_iald rfl (Nat.lt_of_lt_of_le (Nat.le_of_ble_eq_true rfl : 126 < 140) hE.1) hi18 rfl dX11_part_76 (pc' := 77) rfl ?_
          refine kj_ior dX11_part_77 (pc' := 78) rfl ?_
          obtain ⟨t19, et19, hT⟩ := lett_i hT
          rw [← et19]
          refine kj_istore dX11_part_78 (pc' := 80) rfl (Nat.le_of_ble_eq_true rfl) (ls' := [some (.inr 120), some (.inl x1), some (.inl x2), some (.inl x3), some (.inl (x4 + 1)), some (.inl t19), some (.inl x6), some (.inl x7)]) rfl ?_
          refine kj_iload dX11_part_80 (pc' := 82) rfl rfl ?_
          refine kj_aload_n dX11_part_82 (pc' := 83) rfl rfl rfl ?_
          refine kj_getR f_RX11_30 rfl (Nat.lt_of_lt_of_le (Nat.le_of_ble_eq_true rfl : 120 < 140) hE.1) (hE.2 _ _) (q := 126) rfl dX11_part_83 (pc' := 86) rfl ?_
          refine kj_iload dX11_part_86 (pc' := 88) rfl rfl ?_
          obtain ⟨hi20, hT⟩ := ckA_some hT
          refine kj_iald rfl (Nat.lt_of_lt_of_le (Nat.le_of_ble_eq_true rfl : 126 < 140) hE.1) hi20 rfl dX11_part_88 (pc' := 89) rfl ?_
          refine kj_iand dX11_part_89 (pc' := 90) rfl ?_
          obtain ⟨t21, et21, hT⟩ := lett_i hT
          rw [← et21]
          refine kj_istore dX11_part_90 (pc' := 92) rfl (Nat.le_of_ble_eq_true rfl) (ls' := [some (.inr 120), some (.inl x1), some (.inl x2), some (.inl x3), some (.inl (x4 + 1)), some (.inl t19), some (.inl t21), some (.inl x7)]) rfl ?_
          exact hJ92_38 (x4 + 1) t19 t21 x7 hT
        · rw [if_neg c17] at hT
          refine kj_goto dX11_part_62 (pc' := 92) rfl ?_
          exact hJ92_38 x4 x5 x6 x7 hT
    · rw [if_pos c4] at hT
      refine kj_iconst dX11_part_17 (pc' := 18) rfl kc_m1 ?_
      have hR := Option.some.inj hT
      subst hR
      exact kj_iret rfl dX11_part_18 (by subst hQ; exact ⟨rfl, rfl⟩)
def X11_covers (σ : Wd) (x1 : Int32) (x2 : Int32) : Option (Int32 × Wd) :=
  ((X11_lays σ).bind fun σ1 => (if (X11_isMember σ1 x1) = 0 then some ((-1), σ1) else (if (X11_isMember σ1 x2) = 0 then some ((-1), σ1) else (ckA x1 128 <| (ckA x2 128 <| ((X11_isCovered σ1 (σ1 126 x1.toNatClampNeg) (σ1 126 x2.toNatClampNeg)).bind fun t8 => (if t8 = 0 then some (0, σ1) else some (1, σ1))))))))
set_option maxRecDepth 100000 in
set_option maxHeartbeats 4000000 in
theorem m_X11_covers {E : JE} (hE : kOk 140 E) (σ : Wd) (x1 : Int32) (x2 : Int32) {res : Int32 × Wd} (hT : X11_covers σ x1 x2 = some res) : kMt E yX11_covers mX11_covers rmX11_covers [.inr 120, .inl x1, .inl x2] σ (kQi res.1 res.2) := by
  refine kMt_of (by decide +kernel) rfl (Nat.le_of_ble_eq_true rfl) ?_
  generalize hQ : (kQi res.1 res.2) = Q
  show KJ E mX11_covers rmX11_covers 0 [some (.inr 120), some (.inl x1), some (.inl x2)] [] σ Q
  unfold X11_covers at hT
  refine kj_aload_n dX11_covers_0 (pc' := 1) rfl rfl rfl ?_
  obtain ⟨σ1, hσ1, hT⟩ := bind_some' hT
  refine kcVv (as := []) (st := []) l_RX11_135 (m_X11_lays hE σ hσ1) rfl (Nat.lt_of_lt_of_le (Nat.le_of_ble_eq_true rfl : 120 < 140) hE.1) rfl ⟨⟨rfl, rfl⟩, Nat.le_of_ble_eq_true rfl, Nat.le_of_ble_eq_true rfl⟩ (Nat.le_of_ble_eq_true rfl) dX11_covers_1 (pc' := 4) rfl ?_
  refine kj_aload_n dX11_covers_4 (pc' := 5) rfl rfl rfl ?_
  refine kj_iload_n dX11_covers_5 (pc' := 6) rfl rfl rfl ?_
  refine kcVz (as := [.inl x1]) (st := []) l_RX11_178 (m_X11_isMember hE σ1 x1 rfl) rfl (Nat.lt_of_lt_of_le (Nat.le_of_ble_eq_true rfl : 120 < 140) hE.1) rfl ⟨⟨rfl, rfl⟩, Nat.le_of_ble_eq_true rfl, Nat.le_of_ble_eq_true rfl⟩ (Nat.le_of_ble_eq_true rfl) dX11_covers_6 (pc' := 9) rfl (fun z2 => ?_)
  refine kj_if_eq dX11_covers_9 (tgt := 47) rfl (pc' := 12) rfl (fun c3 => ?_) (fun c3 => ?_)
  · rw [if_pos c3] at hT
    refine kj_iconst dX11_covers_47 (pc' := 48) rfl kc_m1 ?_
    have hR := Option.some.inj hT
    subst hR
    exact kj_iret rfl dX11_covers_48 (by subst hQ; exact ⟨rfl, rfl⟩)
  · rw [if_neg c3] at hT
    refine kj_aload_n dX11_covers_12 (pc' := 13) rfl rfl rfl ?_
    refine kj_iload_n dX11_covers_13 (pc' := 14) rfl rfl rfl ?_
    refine kcVz (as := [.inl x2]) (st := []) l_RX11_178 (m_X11_isMember hE σ1 x2 rfl) rfl (Nat.lt_of_lt_of_le (Nat.le_of_ble_eq_true rfl : 120 < 140) hE.1) rfl ⟨⟨rfl, rfl⟩, Nat.le_of_ble_eq_true rfl, Nat.le_of_ble_eq_true rfl⟩ (Nat.le_of_ble_eq_true rfl) dX11_covers_14 (pc' := 17) rfl (fun z4 => ?_)
    refine kj_if_eq dX11_covers_17 (tgt := 47) rfl (pc' := 20) rfl (fun c5 => ?_) (fun c5 => ?_)
    · rw [if_pos c5] at hT
      refine kj_iconst dX11_covers_47 (pc' := 48) rfl kc_m1 ?_
      have hR := Option.some.inj hT
      subst hR
      exact kj_iret rfl dX11_covers_48 (by subst hQ; exact ⟨rfl, rfl⟩)
    · rw [if_neg c5] at hT
      refine kj_aload_n dX11_covers_20 (pc' := 21) rfl rfl rfl ?_
      refine kj_aload_n dX11_covers_21 (pc' := 22) rfl rfl rfl ?_
      refine kj_getR f_RX11_30 rfl (Nat.lt_of_lt_of_le (Nat.le_of_ble_eq_true rfl : 120 < 140) hE.1) (hE.2 _ _) (q := 126) rfl dX11_covers_22 (pc' := 25) rfl ?_
      refine kj_iload_n dX11_covers_25 (pc' := 26) rfl rfl rfl ?_
      obtain ⟨hi6, hT⟩ := ckA_some hT
      refine kj_iald rfl (Nat.lt_of_lt_of_le (Nat.le_of_ble_eq_true rfl : 126 < 140) hE.1) hi6 rfl dX11_covers_26 (pc' := 27) rfl ?_
      refine kj_aload_n dX11_covers_27 (pc' := 28) rfl rfl rfl ?_
      refine kj_getR f_RX11_30 rfl (Nat.lt_of_lt_of_le (Nat.le_of_ble_eq_true rfl : 120 < 140) hE.1) (hE.2 _ _) (q := 126) rfl dX11_covers_28 (pc' := 31) rfl ?_
      refine kj_iload_n dX11_covers_31 (pc' := 32) rfl rfl rfl ?_
      obtain ⟨hi7, hT⟩ := ckA_some hT
      refine kj_iald rfl (Nat.lt_of_lt_of_le (Nat.le_of_ble_eq_true rfl : 126 < 140) hE.1) hi7 rfl dX11_covers_32 (pc' := 33) rfl ?_
      obtain ⟨t8, ht8, hT⟩ := bind_some' hT
      refine kcVz (as := [.inl (σ1 126 x1.toNatClampNeg), .inl (σ1 126 x2.toNatClampNeg)]) (st := []) l_RX11_175 (m_X11_isCovered hE σ1 (σ1 126 x1.toNatClampNeg) (σ1 126 x2.toNatClampNeg) ht8) rfl (Nat.lt_of_lt_of_le (Nat.le_of_ble_eq_true rfl : 120 < 140) hE.1) rfl ⟨⟨rfl, rfl⟩, Nat.le_of_ble_eq_true rfl, Nat.le_of_ble_eq_true rfl⟩ (Nat.le_of_ble_eq_true rfl) dX11_covers_33 (pc' := 36) rfl (fun z9 => ?_)
      refine kj_if_eq dX11_covers_36 (tgt := 43) rfl (pc' := 39) rfl (fun c10 => ?_) (fun c10 => ?_)
      · rw [if_pos c10] at hT
        refine kj_iconst dX11_covers_43 (pc' := 44) rfl kc_0 ?_
        refine kj_goto dX11_covers_44 (pc' := 48) rfl ?_
        have hR := Option.some.inj hT
        subst hR
        exact kj_iret rfl dX11_covers_48 (by subst hQ; exact ⟨rfl, rfl⟩)
      · rw [if_neg c10] at hT
        refine kj_iconst dX11_covers_39 (pc' := 40) rfl kc_1 ?_
        refine kj_goto dX11_covers_40 (pc' := 48) rfl ?_
        have hR := Option.some.inj hT
        subst hR
        exact kj_iret rfl dX11_covers_48 (by subst hQ; exact ⟨rfl, rfl⟩)
def X11_degree (σ : Wd) (x1 : Int32) (x2 : Int32) : Option (Int32 × Wd) :=
  ((X11_lays σ).bind fun σ1 => (if (X11_isMember σ1 x1) = 0 then some ((-1), σ1) else (ckA x1 128 <| ((X11_degreeOf σ1 (σ1 126 x1.toNatClampNeg) x2).bind fun t5 => some (t5, σ1)))))
set_option maxRecDepth 100000 in
set_option maxHeartbeats 4000000 in
theorem m_X11_degree {E : JE} (hE : kOk 140 E) (σ : Wd) (x1 : Int32) (x2 : Int32) {res : Int32 × Wd} (hT : X11_degree σ x1 x2 = some res) : kMt E yX11_degree mX11_degree rmX11_degree [.inr 120, .inl x1, .inl x2] σ (kQi res.1 res.2) := by
  refine kMt_of (by decide +kernel) rfl (Nat.le_of_ble_eq_true rfl) ?_
  generalize hQ : (kQi res.1 res.2) = Q
  show KJ E mX11_degree rmX11_degree 0 [some (.inr 120), some (.inl x1), some (.inl x2)] [] σ Q
  unfold X11_degree at hT
  refine kj_aload_n dX11_degree_0 (pc' := 1) rfl rfl rfl ?_
  obtain ⟨σ1, hσ1, hT⟩ := bind_some' hT
  refine kcVv (as := []) (st := []) l_RX11_135 (m_X11_lays hE σ hσ1) rfl (Nat.lt_of_lt_of_le (Nat.le_of_ble_eq_true rfl : 120 < 140) hE.1) rfl ⟨⟨rfl, rfl⟩, Nat.le_of_ble_eq_true rfl, Nat.le_of_ble_eq_true rfl⟩ (Nat.le_of_ble_eq_true rfl) dX11_degree_1 (pc' := 4) rfl ?_
  refine kj_aload_n dX11_degree_4 (pc' := 5) rfl rfl rfl ?_
  refine kj_iload_n dX11_degree_5 (pc' := 6) rfl rfl rfl ?_
  refine kcVz (as := [.inl x1]) (st := []) l_RX11_178 (m_X11_isMember hE σ1 x1 rfl) rfl (Nat.lt_of_lt_of_le (Nat.le_of_ble_eq_true rfl : 120 < 140) hE.1) rfl ⟨⟨rfl, rfl⟩, Nat.le_of_ble_eq_true rfl, Nat.le_of_ble_eq_true rfl⟩ (Nat.le_of_ble_eq_true rfl) dX11_degree_6 (pc' := 9) rfl (fun z2 => ?_)
  refine kj_if_eq dX11_degree_9 (tgt := 26) rfl (pc' := 12) rfl (fun c3 => ?_) (fun c3 => ?_)
  · rw [if_pos c3] at hT
    refine kj_iconst dX11_degree_26 (pc' := 27) rfl kc_m1 ?_
    have hR := Option.some.inj hT
    subst hR
    exact kj_iret rfl dX11_degree_27 (by subst hQ; exact ⟨rfl, rfl⟩)
  · rw [if_neg c3] at hT
    refine kj_aload_n dX11_degree_12 (pc' := 13) rfl rfl rfl ?_
    refine kj_aload_n dX11_degree_13 (pc' := 14) rfl rfl rfl ?_
    refine kj_getR f_RX11_30 rfl (Nat.lt_of_lt_of_le (Nat.le_of_ble_eq_true rfl : 120 < 140) hE.1) (hE.2 _ _) (q := 126) rfl dX11_degree_14 (pc' := 17) rfl ?_
    refine kj_iload_n dX11_degree_17 (pc' := 18) rfl rfl rfl ?_
    obtain ⟨hi4, hT⟩ := ckA_some hT
    refine kj_iald rfl (Nat.lt_of_lt_of_le (Nat.le_of_ble_eq_true rfl : 126 < 140) hE.1) hi4 rfl dX11_degree_18 (pc' := 19) rfl ?_
    refine kj_iload_n dX11_degree_19 (pc' := 20) rfl rfl rfl ?_
    obtain ⟨t5, ht5, hT⟩ := bind_some' hT
    refine kcVi (as := [.inl (σ1 126 x1.toNatClampNeg), .inl x2]) (st := []) l_RX11_209 (m_X11_degreeOf hE σ1 (σ1 126 x1.toNatClampNeg) x2 ht5) rfl (Nat.lt_of_lt_of_le (Nat.le_of_ble_eq_true rfl : 120 < 140) hE.1) rfl ⟨⟨rfl, rfl⟩, Nat.le_of_ble_eq_true rfl, Nat.le_of_ble_eq_true rfl⟩ (Nat.le_of_ble_eq_true rfl) dX11_degree_20 (pc' := 23) rfl ?_
    refine kj_goto dX11_degree_23 (pc' := 27) rfl ?_
    have hR := Option.some.inj hT
    subst hR
    exact kj_iret rfl dX11_degree_27 (by subst hQ; exact ⟨rfl, rfl⟩)
def X11_single_J36 (rec8 : Int32 × Int32 → Option (Int32 × Wd)) (y1 : Int32) (y2 : Int32) : Option (Int32 × Wd) :=
  rec8 (y1, y2 + 1)
def X11_single_B8 (σ1 : Wd) (rec8 : Int32 × Int32 → Option (Int32 × Wd)) : Int32 × Int32 → Option (Int32 × Wd)
  | (x1, x2) => (if (σ1 120 10) ≤ (x2 + 1) then some (x1, σ1) else (ckA x2 128 <| ((X11_degreeOf σ1 (σ1 126 x2.toNatClampNeg) 1).bind fun t4 => (if t4 = 1 then X11_single_J36 rec8 (x1 + 1) x2 else X11_single_J36 rec8 x1 x2))))
def X11_single (σ : Wd) : Option (Int32 × Wd) :=
  ((X11_lays σ).bind fun σ1 => (lp (X11_single_B8 σ1) FU (0, 0)))
set_option maxRecDepth 100000 in
set_option maxHeartbeats 4000000 in
theorem m_X11_single {E : JE} (hE : kOk 140 E) (σ : Wd) {res : Int32 × Wd} (hT : X11_single σ = some res) : kMt E yX11_single mX11_single rmX11_single [.inr 120] σ (kQi res.1 res.2) := by
  refine kMt_of (by decide +kernel) rfl (Nat.le_of_ble_eq_true rfl) ?_
  generalize hQ : (kQi res.1 res.2) = Q
  show KJ E mX11_single rmX11_single 0 [some (.inr 120)] [] σ Q
  unfold X11_single at hT
  refine kj_aload_n dX11_single_0 (pc' := 1) rfl rfl rfl ?_
  obtain ⟨σ1, hσ1, hT⟩ := bind_some' hT
  refine kcVv (as := []) (st := []) l_RX11_135 (m_X11_lays hE σ hσ1) rfl (Nat.lt_of_lt_of_le (Nat.le_of_ble_eq_true rfl : 120 < 140) hE.1) rfl ⟨⟨rfl, rfl⟩, Nat.le_of_ble_eq_true rfl, Nat.le_of_ble_eq_true rfl⟩ (Nat.le_of_ble_eq_true rfl) dX11_single_1 (pc' := 4) rfl ?_
  refine kj_iconst dX11_single_4 (pc' := 5) rfl kc_0 ?_
  refine kj_istore_n dX11_single_5 (pc' := 6) rfl rfl (Nat.le_of_ble_eq_true rfl) (ls' := [some (.inr 120), some (.inl 0)]) rfl ?_
  refine kj_iconst dX11_single_6 (pc' := 7) rfl kc_0 ?_
  refine kj_istore_n dX11_single_7 (pc' := 8) rfl rfl (Nat.le_of_ble_eq_true rfl) (ls' := [some (.inr 120), some (.inl 0), some (.inl 0)]) rfl ?_
  refine lp_ind (P := fun s => KJ E mX11_single rmX11_single 8 [some (.inr 120), some (.inl s.1), some (.inl s.2)] [] σ1 Q) (fun rec8 s ih8 hT => ?_) FU (0, 0) hT
  obtain ⟨x1, x2⟩ := s
  show KJ E mX11_single rmX11_single 8 [some (.inr 120), some (.inl x1), some (.inl x2)] [] σ1 Q
  rw [X11_single_B8] at hT
  have hJ36_8 : ∀ y1 y2, X11_single_J36 rec8 y1 y2 = some res → KJ E mX11_single rmX11_single 36 [some (.inr 120), some (.inl y1), some (.inl y2)] [] σ1 Q := by
    intro y1 y2 hT
    unfold X11_single_J36 at hT
    refine kj_iinc dX11_single_36 (pc' := 39) rfl rfl (congrArg (_ + ·) kc_1) (Nat.le_of_ble_eq_true rfl) (ls' := [some (.inr 120), some (.inl y1), some (.inl (y2 + 1))]) rfl ?_
    refine kj_goto dX11_single_39 (pc' := 8) rfl ?_
    exact ih8 (y1, y2 + 1) hT
  refine kj_iload_n dX11_single_8 (pc' := 9) rfl rfl rfl ?_
  refine kj_iconst dX11_single_9 (pc' := 10) rfl kc_1 ?_
  refine kj_iadd dX11_single_10 (pc' := 11) rfl ?_
  refine kj_aload_n dX11_single_11 (pc' := 12) rfl rfl rfl ?_
  refine kj_getI f_RX11_141 rfl (Nat.lt_of_lt_of_le (Nat.le_of_ble_eq_true rfl : 120 < 140) hE.1) dX11_single_12 (pc' := 15) rfl ?_
  refine kj_icmp_ge dX11_single_15 (tgt := 42) rfl (pc' := 18) rfl (fun c2 => ?_) (fun c2 => ?_)
  · rw [if_pos c2] at hT
    refine kj_iload_n dX11_single_42 (pc' := 43) rfl rfl rfl ?_
    have hR := Option.some.inj hT
    subst hR
    exact kj_iret rfl dX11_single_43 (by subst hQ; exact ⟨rfl, rfl⟩)
  · rw [if_neg c2] at hT
    refine kj_aload_n dX11_single_18 (pc' := 19) rfl rfl rfl ?_
    refine kj_aload_n dX11_single_19 (pc' := 20) rfl rfl rfl ?_
    refine kj_getR f_RX11_30 rfl (Nat.lt_of_lt_of_le (Nat.le_of_ble_eq_true rfl : 120 < 140) hE.1) (hE.2 _ _) (q := 126) rfl dX11_single_20 (pc' := 23) rfl ?_
    refine kj_iload_n dX11_single_23 (pc' := 24) rfl rfl rfl ?_
    obtain ⟨hi3, hT⟩ := ckA_some hT
    refine kj_iald rfl (Nat.lt_of_lt_of_le (Nat.le_of_ble_eq_true rfl : 126 < 140) hE.1) hi3 rfl dX11_single_24 (pc' := 25) rfl ?_
    refine kj_iconst dX11_single_25 (pc' := 26) rfl kc_1 ?_
    obtain ⟨t4, ht4, hT⟩ := bind_some' hT
    refine kcVi (as := [.inl (σ1 126 x2.toNatClampNeg), .inl 1]) (st := []) l_RX11_209 (m_X11_degreeOf hE σ1 (σ1 126 x2.toNatClampNeg) 1 ht4) rfl (Nat.lt_of_lt_of_le (Nat.le_of_ble_eq_true rfl : 120 < 140) hE.1) rfl ⟨⟨rfl, rfl⟩, Nat.le_of_ble_eq_true rfl, Nat.le_of_ble_eq_true rfl⟩ (Nat.le_of_ble_eq_true rfl) dX11_single_26 (pc' := 29) rfl ?_
    refine kj_iconst dX11_single_29 (pc' := 30) rfl kc_1 ?_
    refine kj_icmp_ne dX11_single_30 (tgt := 36) rfl (pc' := 33) rfl (fun c5 => ?_) (fun c5 => ?_)
    · rw [if_neg c5] at hT
      exact hJ36_8 x1 x2 hT
    · rw [if_pos c5] at hT
      refine kj_iinc dX11_single_33 (pc' := 36) rfl rfl (congrArg (_ + ·) kc_1) (Nat.le_of_ble_eq_true rfl) (ls' := [some (.inr 120), some (.inl (x1 + 1)), some (.inl x2)]) rfl ?_
      exact hJ36_8 (x1 + 1) x2 hT
def X11_both (σ : Wd) (x1 : Int32) (x2 : Int32) (x3 : Int32) : Option (Int32 × Wd) :=
  ((X11_lays σ).bind fun σ1 => (if (X11_isMember σ1 x1) = 0 then some ((-1), σ1) else (if (X11_isMember σ1 x2) = 0 then some ((-1), σ1) else (if (X11_in x3 0 1) = 0 then some ((-1), σ1) else (if x3 = 0 then (ckA x1 128 <| (ckA x2 128 <| (ckA ((σ1 126 x1.toNatClampNeg) ||| (σ1 126 x2.toNatClampNeg)) 128 <| some (σ1 127 (((σ1 126 x1.toNatClampNeg) ||| (σ1 126 x2.toNatClampNeg)).toNatClampNeg), σ1)))) else (ckA x1 128 <| (ckA x2 128 <| ((X11_innerOf σ1 ((σ1 126 x1.toNatClampNeg) &&& (σ1 126 x2.toNatClampNeg)) 0).bind fun t11 => (ckA t11 128 <| some (σ1 127 t11.toNatClampNeg, σ1))))))))))
set_option maxRecDepth 100000 in
set_option maxHeartbeats 4000000 in
theorem m_X11_both {E : JE} (hE : kOk 140 E) (σ : Wd) (x1 : Int32) (x2 : Int32) (x3 : Int32) {res : Int32 × Wd} (hT : X11_both σ x1 x2 x3 = some res) : kMt E yX11_both mX11_both rmX11_both [.inr 120, .inl x1, .inl x2, .inl x3] σ (kQi res.1 res.2) := by
  refine kMt_of (by decide +kernel) rfl (Nat.le_of_ble_eq_true rfl) ?_
  generalize hQ : (kQi res.1 res.2) = Q
  show KJ E mX11_both rmX11_both 0 [some (.inr 120), some (.inl x1), some (.inl x2), some (.inl x3)] [] σ Q
  unfold X11_both at hT
  refine kj_aload_n dX11_both_0 (pc' := 1) rfl rfl rfl ?_
  obtain ⟨σ1, hσ1, hT⟩ := bind_some' hT
  refine kcVv (as := []) (st := []) l_RX11_135 (m_X11_lays hE σ hσ1) rfl (Nat.lt_of_lt_of_le (Nat.le_of_ble_eq_true rfl : 120 < 140) hE.1) rfl ⟨⟨rfl, rfl⟩, Nat.le_of_ble_eq_true rfl, Nat.le_of_ble_eq_true rfl⟩ (Nat.le_of_ble_eq_true rfl) dX11_both_1 (pc' := 4) rfl ?_
  refine kj_aload_n dX11_both_4 (pc' := 5) rfl rfl rfl ?_
  refine kj_iload_n dX11_both_5 (pc' := 6) rfl rfl rfl ?_
  refine kcVz (as := [.inl x1]) (st := []) l_RX11_178 (m_X11_isMember hE σ1 x1 rfl) rfl (Nat.lt_of_lt_of_le (Nat.le_of_ble_eq_true rfl : 120 < 140) hE.1) rfl ⟨⟨rfl, rfl⟩, Nat.le_of_ble_eq_true rfl, Nat.le_of_ble_eq_true rfl⟩ (Nat.le_of_ble_eq_true rfl) dX11_both_6 (pc' := 9) rfl (fun z2 => ?_)
  refine kj_if_eq dX11_both_9 (tgt := 29) rfl (pc' := 12) rfl (fun c3 => ?_) (fun c3 => ?_)
  · rw [if_pos c3] at hT
    refine kj_iconst dX11_both_29 (pc' := 30) rfl kc_m1 ?_
    have hR := Option.some.inj hT
    subst hR
    exact kj_iret rfl dX11_both_30 (by subst hQ; exact ⟨rfl, rfl⟩)
  · rw [if_neg c3] at hT
    refine kj_aload_n dX11_both_12 (pc' := 13) rfl rfl rfl ?_
    refine kj_iload_n dX11_both_13 (pc' := 14) rfl rfl rfl ?_
    refine kcVz (as := [.inl x2]) (st := []) l_RX11_178 (m_X11_isMember hE σ1 x2 rfl) rfl (Nat.lt_of_lt_of_le (Nat.le_of_ble_eq_true rfl : 120 < 140) hE.1) rfl ⟨⟨rfl, rfl⟩, Nat.le_of_ble_eq_true rfl, Nat.le_of_ble_eq_true rfl⟩ (Nat.le_of_ble_eq_true rfl) dX11_both_14 (pc' := 17) rfl (fun z4 => ?_)
    refine kj_if_eq dX11_both_17 (tgt := 29) rfl (pc' := 20) rfl (fun c5 => ?_) (fun c5 => ?_)
    · rw [if_pos c5] at hT
      refine kj_iconst dX11_both_29 (pc' := 30) rfl kc_m1 ?_
      have hR := Option.some.inj hT
      subst hR
      exact kj_iret rfl dX11_both_30 (by subst hQ; exact ⟨rfl, rfl⟩)
    · rw [if_neg c5] at hT
      refine kj_iload_n dX11_both_20 (pc' := 21) rfl rfl rfl ?_
      refine kj_iconst dX11_both_21 (pc' := 22) rfl kc_0 ?_
      refine kj_iconst dX11_both_22 (pc' := 23) rfl kc_1 ?_
      refine kcSz (as := [.inl x3, .inl 0, .inl 1]) (st := []) l_RX11_84 (m_X11_in (Nat.zero_le _) σ1 x3 0 1 rfl) rfl ⟨⟨rfl, rfl⟩, Nat.le_of_ble_eq_true rfl, Nat.le_of_ble_eq_true rfl⟩ (Nat.le_of_ble_eq_true rfl) dX11_both_23 (pc' := 26) rfl (fun z6 => ?_)
      refine kj_if_ne dX11_both_26 (tgt := 31) rfl (pc' := 29) rfl (fun c7 => ?_) (fun c7 => ?_)
      · rw [if_neg c7] at hT
        refine kj_aload_n dX11_both_31 (pc' := 32) rfl rfl rfl ?_
        refine kj_getR f_RX11_33 rfl (Nat.lt_of_lt_of_le (Nat.le_of_ble_eq_true rfl : 120 < 140) hE.1) (hE.2 _ _) (q := 127) rfl dX11_both_32 (pc' := 35) rfl ?_
        refine kj_iload_n dX11_both_35 (pc' := 36) rfl rfl rfl ?_
        refine kj_if_ne dX11_both_36 (tgt := 55) rfl (pc' := 39) rfl (fun c8 => ?_) (fun c8 => ?_)
        · rw [if_neg c8] at hT
          refine kj_aload_n dX11_both_55 (pc' := 56) rfl rfl rfl ?_
          refine kj_aload_n dX11_both_56 (pc' := 57) rfl rfl rfl ?_
          refine kj_getR f_RX11_30 rfl (Nat.lt_of_lt_of_le (Nat.le_of_ble_eq_true rfl : 120 < 140) hE.1) (hE.2 _ _) (q := 126) rfl dX11_both_57 (pc' := 60) rfl ?_
          refine kj_iload_n dX11_both_60 (pc' := 61) rfl rfl rfl ?_
          obtain ⟨hi9, hT⟩ := ckA_some hT
          refine kj_iald rfl (Nat.lt_of_lt_of_le (Nat.le_of_ble_eq_true rfl : 126 < 140) hE.1) hi9 rfl dX11_both_61 (pc' := 62) rfl ?_
          refine kj_aload_n dX11_both_62 (pc' := 63) rfl rfl rfl ?_
          refine kj_getR f_RX11_30 rfl (Nat.lt_of_lt_of_le (Nat.le_of_ble_eq_true rfl : 120 < 140) hE.1) (hE.2 _ _) (q := 126) rfl dX11_both_63 (pc' := 66) rfl ?_
          refine kj_iload_n dX11_both_66 (pc' := 67) rfl rfl rfl ?_
          obtain ⟨hi10, hT⟩ := ckA_some hT
          refine kj_iald rfl (Nat.lt_of_lt_of_le (Nat.le_of_ble_eq_true rfl : 126 < 140) hE.1) hi10 rfl dX11_both_67 (pc' := 68) rfl ?_
          refine kj_iand dX11_both_68 (pc' := 69) rfl ?_
          refine kj_iconst dX11_both_69 (pc' := 70) rfl kc_0 ?_
          obtain ⟨t11, ht11, hT⟩ := bind_some' hT
          refine kcVi (as := [.inl ((σ1 126 x1.toNatClampNeg) &&& (σ1 126 x2.toNatClampNeg)), .inl 0]) (st := [.inr 127]) l_RX11_163 (m_X11_innerOf hE σ1 ((σ1 126 x1.toNatClampNeg) &&& (σ1 126 x2.toNatClampNeg)) 0 ht11) rfl (Nat.lt_of_lt_of_le (Nat.le_of_ble_eq_true rfl : 120 < 140) hE.1) rfl ⟨⟨rfl, rfl⟩, Nat.le_of_ble_eq_true rfl, Nat.le_of_ble_eq_true rfl⟩ (Nat.le_of_ble_eq_true rfl) dX11_both_70 (pc' := 73) rfl ?_
          obtain ⟨hi12, hT⟩ := ckA_some hT
          refine kj_iald rfl (Nat.lt_of_lt_of_le (Nat.le_of_ble_eq_true rfl : 127 < 140) hE.1) hi12 rfl dX11_both_73 (pc' := 74) rfl ?_
          have hR := Option.some.inj hT
          subst hR
          exact kj_iret rfl dX11_both_74 (by subst hQ; exact ⟨rfl, rfl⟩)
        · rw [if_pos c8] at hT
          refine kj_aload_n dX11_both_39 (pc' := 40) rfl rfl rfl ?_
          refine kj_getR f_RX11_30 rfl (Nat.lt_of_lt_of_le (Nat.le_of_ble_eq_true rfl : 120 < 140) hE.1) (hE.2 _ _) (q := 126) rfl dX11_both_40 (pc' := 43) rfl ?_
          refine kj_iload_n dX11_both_43 (pc' := 44) rfl rfl rfl ?_
          obtain ⟨hi13, hT⟩ := ckA_some hT
          refine kj_iald rfl (Nat.lt_of_lt_of_le (Nat.le_of_ble_eq_true rfl : 126 < 140) hE.1) hi13 rfl dX11_both_44 (pc' := 45) rfl ?_
          refine kj_aload_n dX11_both_45 (pc' := 46) rfl rfl rfl ?_
          refine kj_getR f_RX11_30 rfl (Nat.lt_of_lt_of_le (Nat.le_of_ble_eq_true rfl : 120 < 140) hE.1) (hE.2 _ _) (q := 126) rfl dX11_both_46 (pc' := 49) rfl ?_
          refine kj_iload_n dX11_both_49 (pc' := 50) rfl rfl rfl ?_
          obtain ⟨hi14, hT⟩ := ckA_some hT
          refine kj_iald rfl (Nat.lt_of_lt_of_le (Nat.le_of_ble_eq_true rfl : 126 < 140) hE.1) hi14 rfl dX11_both_50 (pc' := 51) rfl ?_
          refine kj_ior dX11_both_51 (pc' := 52) rfl ?_
          refine kj_goto dX11_both_52 (pc' := 73) rfl ?_
          obtain ⟨hi15, hT⟩ := ckA_some hT
          refine kj_iald rfl (Nat.lt_of_lt_of_le (Nat.le_of_ble_eq_true rfl : 127 < 140) hE.1) hi15 rfl dX11_both_73 (pc' := 74) rfl ?_
          have hR := Option.some.inj hT
          subst hR
          exact kj_iret rfl dX11_both_74 (by subst hQ; exact ⟨rfl, rfl⟩)
      · rw [if_pos c7] at hT
        refine kj_iconst dX11_both_29 (pc' := 30) rfl kc_m1 ?_
        have hR := Option.some.inj hT
        subst hR
        exact kj_iret rfl dX11_both_30 (by subst hQ; exact ⟨rfl, rfl⟩)
def X11_unshared_T147 (rec18 : Int32 → Option (Int32 × Wd)) (x1 : Int32) : Option (Int32 × Wd) :=
  rec18 (x1 + 1)
def X11_unshared_T141 (rec28 : Int32 → Option (Int32 × Wd)) (x2 : Int32) : Option (Int32 × Wd) :=
  rec28 (x2 + 1)
def X11_unshared_B58 (σ1 : Wd) (x1 : Int32) (x2 : Int32) (t7 : Int32) (kx58 : Option (Int32 × Wd)) (rec58 : Int32 → Option (Int32 × Wd)) : Int32 → Option (Int32 × Wd)
  | (x4) => (if (σ1 120 10) ≤ x4 then kx58 else (ckA x1 128 <| (ckA x2 128 <| (ckA x4 128 <| ((X11_innerOf σ1 ((σ1 126 x1.toNatClampNeg) &&& ((σ1 126 x2.toNatClampNeg) ||| (σ1 126 x4.toNatClampNeg))) 0).bind fun t12 => (ckA x1 128 <| (ckA x4 128 <| ((X11_innerOf σ1 ((σ1 126 x1.toNatClampNeg) &&& (σ1 126 x4.toNatClampNeg)) 0).bind fun t15 => (if t12 = (t7 ||| t15) then rec58 (x4 + 1) else some (((10000 * x1) + (100 * x2)) + x4, σ1))))))))))
def X11_unshared_B28 (σ1 : Wd) (x1 : Int32) (kx28 : Option (Int32 × Wd)) (rec28 : Int32 → Option (Int32 × Wd)) : Int32 → Option (Int32 × Wd)
  | (x2) => (if (σ1 120 10) ≤ x2 then kx28 else (ckA x1 128 <| (ckA x2 128 <| ((X11_innerOf σ1 ((σ1 126 x1.toNatClampNeg) &&& (σ1 126 x2.toNatClampNeg)) 0).bind fun t7 => (lp (X11_unshared_B58 σ1 x1 x2 t7 (X11_unshared_T141 rec28 x2)) FU (0))))))
def X11_unshared_B18 (σ1 : Wd) (rec18 : Int32 → Option (Int32 × Wd)) : Int32 → Option (Int32 × Wd)
  | (x1) => (if (σ1 120 10) ≤ x1 then some ((-2), σ1) else (lp (X11_unshared_B28 σ1 x1 (X11_unshared_T147 rec18 x1)) FU (0)))
def X11_unshared (σ : Wd) : Option (Int32 × Wd) :=
  ((X11_lays σ).bind fun σ1 => (if (σ1 120 10) ≤ 40 then (lp (X11_unshared_B18 σ1) FU (0)) else some ((-2), σ1)))
set_option maxRecDepth 100000 in
set_option maxHeartbeats 4000000 in
theorem m_X11_unshared {E : JE} (hE : kOk 140 E) (σ : Wd) {res : Int32 × Wd} (hT : X11_unshared σ = some res) : kMt E yX11_unshared mX11_unshared rmX11_unshared [.inr 120] σ (kQi res.1 res.2) := by
  refine kMt_of (by decide +kernel) rfl (Nat.le_of_ble_eq_true rfl) ?_
  generalize hQ : (kQi res.1 res.2) = Q
  show KJ E mX11_unshared rmX11_unshared 0 [some (.inr 120)] [] σ Q
  unfold X11_unshared at hT
  refine kj_aload_n dX11_unshared_0 (pc' := 1) rfl rfl rfl ?_
  obtain ⟨σ1, hσ1, hT⟩ := bind_some' hT
  refine kcVv (as := []) (st := []) l_RX11_135 (m_X11_lays hE σ hσ1) rfl (Nat.lt_of_lt_of_le (Nat.le_of_ble_eq_true rfl : 120 < 140) hE.1) rfl ⟨⟨rfl, rfl⟩, Nat.le_of_ble_eq_true rfl, Nat.le_of_ble_eq_true rfl⟩ (Nat.le_of_ble_eq_true rfl) dX11_unshared_1 (pc' := 4) rfl ?_
  refine kj_aload_n dX11_unshared_4 (pc' := 5) rfl rfl rfl ?_
  refine kj_getI f_RX11_141 rfl (Nat.lt_of_lt_of_le (Nat.le_of_ble_eq_true rfl : 120 < 140) hE.1) dX11_unshared_5 (pc' := 8) rfl ?_
  refine kj_bipush dX11_unshared_8 (pc' := 10) rfl kb_40 ?_
  refine kj_icmp_le dX11_unshared_10 (tgt := 16) rfl (pc' := 13) rfl (fun c2 => ?_) (fun c2 => ?_)
  · rw [if_pos c2] at hT
    refine kj_iconst dX11_unshared_16 (pc' := 17) rfl kc_0 ?_
    refine kj_istore_n dX11_unshared_17 (pc' := 18) rfl rfl (Nat.le_of_ble_eq_true rfl) (ls' := [some (.inr 120), some (.inl 0)]) rfl ?_
    refine lp_ind (P := fun s => KJ E mX11_unshared rmX11_unshared 18 [some (.inr 120), some (.inl s)] [] σ1 Q) (fun rec18 s ih18 hT => ?_) FU (0) hT
    obtain ⟨x1, hs⟩ : ∃ z, z = s := ⟨_, rfl⟩
    subst hs
    show KJ E mX11_unshared rmX11_unshared 18 [some (.inr 120), some (.inl x1)] [] σ1 Q
    rw [X11_unshared_B18] at hT
    refine kj_iload_n dX11_unshared_18 (pc' := 19) rfl rfl rfl ?_
    refine kj_aload_n dX11_unshared_19 (pc' := 20) rfl rfl rfl ?_
    refine kj_getI f_RX11_141 rfl (Nat.lt_of_lt_of_le (Nat.le_of_ble_eq_true rfl : 120 < 140) hE.1) dX11_unshared_20 (pc' := 23) rfl ?_
    refine kj_icmp_ge dX11_unshared_23 (tgt := 153) rfl (pc' := 26) rfl (fun c3 => ?_) (fun c3 => ?_)
    · rw [if_pos c3] at hT
      refine kj_bipush dX11_unshared_153 (pc' := 155) rfl kb_m2 ?_
      have hR := Option.some.inj hT
      subst hR
      exact kj_iret rfl dX11_unshared_155 (by subst hQ; exact ⟨rfl, rfl⟩)
    · rw [if_neg c3] at hT
      refine kj_iconst dX11_unshared_26 (pc' := 27) rfl kc_0 ?_
      refine kj_istore_n dX11_unshared_27 (pc' := 28) rfl rfl (Nat.le_of_ble_eq_true rfl) (ls' := [some (.inr 120), some (.inl x1), some (.inl 0)]) rfl ?_
      have hX28 : ∀ (_ : Unit), X11_unshared_T147 rec18 x1 = some res → KJ E mX11_unshared rmX11_unshared 147 [some (.inr 120), some (.inl x1)] [] σ1 Q := by
        intro _ hT
        unfold X11_unshared_T147 at hT
        refine kj_iinc dX11_unshared_147 (pc' := 150) rfl rfl (congrArg (_ + ·) kc_1) (Nat.le_of_ble_eq_true rfl) (ls' := [some (.inr 120), some (.inl (x1 + 1))]) rfl ?_
        refine kj_goto dX11_unshared_150 (pc' := 18) rfl ?_
        exact ih18 (x1 + 1) hT
      refine lp_ind (P := fun s => KJ E mX11_unshared rmX11_unshared 28 [some (.inr 120), some (.inl x1), some (.inl s)] [] σ1 Q) (fun rec28 s ih28 hT => ?_) FU (0) hT
      obtain ⟨x2, hs⟩ : ∃ z, z = s := ⟨_, rfl⟩
      subst hs
      show KJ E mX11_unshared rmX11_unshared 28 [some (.inr 120), some (.inl x1), some (.inl x2)] [] σ1 Q
      rw [X11_unshared_B28] at hT
      refine kj_iload_n dX11_unshared_28 (pc' := 29) rfl rfl rfl ?_
      refine kj_aload_n dX11_unshared_29 (pc' := 30) rfl rfl rfl ?_
      refine kj_getI f_RX11_141 rfl (Nat.lt_of_lt_of_le (Nat.le_of_ble_eq_true rfl : 120 < 140) hE.1) dX11_unshared_30 (pc' := 33) rfl ?_
      refine kj_icmp_ge dX11_unshared_33 (tgt := 147) rfl (pc' := 36) rfl (fun c4 => ?_) (fun c4 => ?_)
      · rw [if_pos c4] at hT
        refine kj_keep [true, true] (ls' := [some (.inr 120), some (.inl x1)]) rfl ?_
        exact hX28 () hT
      · rw [if_neg c4] at hT
        refine kj_aload_n dX11_unshared_36 (pc' := 37) rfl rfl rfl ?_
        refine kj_aload_n dX11_unshared_37 (pc' := 38) rfl rfl rfl ?_
        refine kj_getR f_RX11_30 rfl (Nat.lt_of_lt_of_le (Nat.le_of_ble_eq_true rfl : 120 < 140) hE.1) (hE.2 _ _) (q := 126) rfl dX11_unshared_38 (pc' := 41) rfl ?_
        refine kj_iload_n dX11_unshared_41 (pc' := 42) rfl rfl rfl ?_
        obtain ⟨hi5, hT⟩ := ckA_some hT
        refine kj_iald rfl (Nat.lt_of_lt_of_le (Nat.le_of_ble_eq_true rfl : 126 < 140) hE.1) hi5 rfl dX11_unshared_42 (pc' := 43) rfl ?_
        refine kj_aload_n dX11_unshared_43 (pc' := 44) rfl rfl rfl ?_
        refine kj_getR f_RX11_30 rfl (Nat.lt_of_lt_of_le (Nat.le_of_ble_eq_true rfl : 120 < 140) hE.1) (hE.2 _ _) (q := 126) rfl dX11_unshared_44 (pc' := 47) rfl ?_
        refine kj_iload_n dX11_unshared_47 (pc' := 48) rfl rfl rfl ?_
        obtain ⟨hi6, hT⟩ := ckA_some hT
        refine kj_iald rfl (Nat.lt_of_lt_of_le (Nat.le_of_ble_eq_true rfl : 126 < 140) hE.1) hi6 rfl dX11_unshared_48 (pc' := 49) rfl ?_
        refine kj_iand dX11_unshared_49 (pc' := 50) rfl ?_
        refine kj_iconst dX11_unshared_50 (pc' := 51) rfl kc_0 ?_
        obtain ⟨t7, ht7, hT⟩ := bind_some' hT
        refine kcVi (as := [.inl ((σ1 126 x1.toNatClampNeg) &&& (σ1 126 x2.toNatClampNeg)), .inl 0]) (st := []) l_RX11_163 (m_X11_innerOf hE σ1 ((σ1 126 x1.toNatClampNeg) &&& (σ1 126 x2.toNatClampNeg)) 0 ht7) rfl (Nat.lt_of_lt_of_le (Nat.le_of_ble_eq_true rfl : 120 < 140) hE.1) rfl ⟨⟨rfl, rfl⟩, Nat.le_of_ble_eq_true rfl, Nat.le_of_ble_eq_true rfl⟩ (Nat.le_of_ble_eq_true rfl) dX11_unshared_51 (pc' := 54) rfl ?_
        refine kj_istore_n dX11_unshared_54 (pc' := 55) rfl rfl (Nat.le_of_ble_eq_true rfl) (ls' := [some (.inr 120), some (.inl x1), some (.inl x2), some (.inl t7)]) rfl ?_
        refine kj_iconst dX11_unshared_55 (pc' := 56) rfl kc_0 ?_
        refine kj_istore dX11_unshared_56 (pc' := 58) rfl (Nat.le_of_ble_eq_true rfl) (ls' := [some (.inr 120), some (.inl x1), some (.inl x2), some (.inl t7), some (.inl 0)]) rfl ?_
        have hX58 : ∀ (_ : Unit), X11_unshared_T141 rec28 x2 = some res → KJ E mX11_unshared rmX11_unshared 141 [some (.inr 120), some (.inl x1), some (.inl x2)] [] σ1 Q := by
          intro _ hT
          unfold X11_unshared_T141 at hT
          refine kj_iinc dX11_unshared_141 (pc' := 144) rfl rfl (congrArg (_ + ·) kc_1) (Nat.le_of_ble_eq_true rfl) (ls' := [some (.inr 120), some (.inl x1), some (.inl (x2 + 1))]) rfl ?_
          refine kj_goto dX11_unshared_144 (pc' := 28) rfl ?_
          exact ih28 (x2 + 1) hT
        refine lp_ind (P := fun s => KJ E mX11_unshared rmX11_unshared 58 [some (.inr 120), some (.inl x1), some (.inl x2), some (.inl t7), some (.inl s)] [] σ1 Q) (fun rec58 s ih58 hT => ?_) FU (0) hT
        obtain ⟨x4, hs⟩ : ∃ z, z = s := ⟨_, rfl⟩
        subst hs
        show KJ E mX11_unshared rmX11_unshared 58 [some (.inr 120), some (.inl x1), some (.inl x2), some (.inl t7), some (.inl x4)] [] σ1 Q
        rw [X11_unshared_B58] at hT
        refine kj_iload dX11_unshared_58 (pc' := 60) rfl rfl ?_
        refine kj_aload_n dX11_unshared_60 (pc' := 61) rfl rfl rfl ?_
        refine kj_getI f_RX11_141 rfl (Nat.lt_of_lt_of_le (Nat.le_of_ble_eq_true rfl : 120 < 140) hE.1) dX11_unshared_61 (pc' := 64) rfl ?_
        refine kj_icmp_ge dX11_unshared_64 (tgt := 141) rfl (pc' := 67) rfl (fun c8 => ?_) (fun c8 => ?_)
        · rw [if_pos c8] at hT
          refine kj_keep [true, true, true] (ls' := [some (.inr 120), some (.inl x1), some (.inl x2)]) rfl ?_
          exact hX58 () hT
        · rw [if_neg c8] at hT
          refine kj_aload_n dX11_unshared_67 (pc' := 68) rfl rfl rfl ?_
          refine kj_aload_n dX11_unshared_68 (pc' := 69) rfl rfl rfl ?_
          refine kj_getR f_RX11_30 rfl (Nat.lt_of_lt_of_le (Nat.le_of_ble_eq_true rfl : 120 < 140) hE.1) (hE.2 _ _) (q := 126) rfl dX11_unshared_69 (pc' := 72) rfl ?_
          refine kj_iload_n dX11_unshared_72 (pc' := 73) rfl rfl rfl ?_
          obtain ⟨hi9, hT⟩ := ckA_some hT
          refine kj_iald rfl (Nat.lt_of_lt_of_le (Nat.le_of_ble_eq_true rfl : 126 < 140) hE.1) hi9 rfl dX11_unshared_73 (pc' := 74) rfl ?_
          refine kj_aload_n dX11_unshared_74 (pc' := 75) rfl rfl rfl ?_
          refine kj_getR f_RX11_30 rfl (Nat.lt_of_lt_of_le (Nat.le_of_ble_eq_true rfl : 120 < 140) hE.1) (hE.2 _ _) (q := 126) rfl dX11_unshared_75 (pc' := 78) rfl ?_
          refine kj_iload_n dX11_unshared_78 (pc' := 79) rfl rfl rfl ?_
          obtain ⟨hi10, hT⟩ := ckA_some hT
          refine kj_iald rfl (Nat.lt_of_lt_of_le (Nat.le_of_ble_eq_true rfl : 126 < 140) hE.1) hi10 rfl dX11_unshared_79 (pc' := 80) rfl ?_
          refine kj_aload_n dX11_unshared_80 (pc' := 81) rfl rfl rfl ?_
          refine kj_getR f_RX11_30 rfl (Nat.lt_of_lt_of_le (Nat.le_of_ble_eq_true rfl : 120 < 140) hE.1) (hE.2 _ _) (q := 126) rfl dX11_unshared_81 (pc' := 84) rfl ?_
          refine kj_iload dX11_unshared_84 (pc' := 86) rfl rfl ?_
          obtain ⟨hi11, hT⟩ := ckA_some hT
          refine kj_iald rfl (Nat.lt_of_lt_of_le (Nat.le_of_ble_eq_true rfl : 126 < 140) hE.1) hi11 rfl dX11_unshared_86 (pc' := 87) rfl ?_
          refine kj_ior dX11_unshared_87 (pc' := 88) rfl ?_
          refine kj_iand dX11_unshared_88 (pc' := 89) rfl ?_
          refine kj_iconst dX11_unshared_89 (pc' := 90) rfl kc_0 ?_
          obtain ⟨t12, ht12, hT⟩ := bind_some' hT
          refine kcVi (as := [.inl ((σ1 126 x1.toNatClampNeg) &&& ((σ1 126 x2.toNatClampNeg) ||| (σ1 126 x4.toNatClampNeg))), .inl 0]) (st := []) l_RX11_163 (m_X11_innerOf hE σ1 ((σ1 126 x1.toNatClampNeg) &&& ((σ1 126 x2.toNatClampNeg) ||| (σ1 126 x4.toNatClampNeg))) 0 ht12) rfl (Nat.lt_of_lt_of_le (Nat.le_of_ble_eq_true rfl : 120 < 140) hE.1) rfl ⟨⟨rfl, rfl⟩, Nat.le_of_ble_eq_true rfl, Nat.le_of_ble_eq_true rfl⟩ (Nat.le_of_ble_eq_true rfl) dX11_unshared_90 (pc' := 93) rfl ?_
          refine kj_istore dX11_unshared_93 (pc' := 95) rfl (Nat.le_of_ble_eq_true rfl) (ls' := [some (.inr 120), some (.inl x1), some (.inl x2), some (.inl t7), some (.inl x4), some (.inl t12)]) rfl ?_
          refine kj_iload dX11_unshared_95 (pc' := 97) rfl rfl ?_
          refine kj_iload_n dX11_unshared_97 (pc' := 98) rfl rfl rfl ?_
          refine kj_aload_n dX11_unshared_98 (pc' := 99) rfl rfl rfl ?_
          refine kj_aload_n dX11_unshared_99 (pc' := 100) rfl rfl rfl ?_
          refine kj_getR f_RX11_30 rfl (Nat.lt_of_lt_of_le (Nat.le_of_ble_eq_true rfl : 120 < 140) hE.1) (hE.2 _ _) (q := 126) rfl dX11_unshared_100 (pc' := 103) rfl ?_
          refine kj_iload_n dX11_unshared_103 (pc' := 104) rfl rfl rfl ?_
          obtain ⟨hi13, hT⟩ := ckA_some hT
          refine kj_iald rfl (Nat.lt_of_lt_of_le (Nat.le_of_ble_eq_true rfl : 126 < 140) hE.1) hi13 rfl dX11_unshared_104 (pc' := 105) rfl ?_
          refine kj_aload_n dX11_unshared_105 (pc' := 106) rfl rfl rfl ?_
          refine kj_getR f_RX11_30 rfl (Nat.lt_of_lt_of_le (Nat.le_of_ble_eq_true rfl : 120 < 140) hE.1) (hE.2 _ _) (q := 126) rfl dX11_unshared_106 (pc' := 109) rfl ?_
          refine kj_iload dX11_unshared_109 (pc' := 111) rfl rfl ?_
          obtain ⟨hi14, hT⟩ := ckA_some hT
          refine kj_iald rfl (Nat.lt_of_lt_of_le (Nat.le_of_ble_eq_true rfl : 126 < 140) hE.1) hi14 rfl dX11_unshared_111 (pc' := 112) rfl ?_
          refine kj_iand dX11_unshared_112 (pc' := 113) rfl ?_
          refine kj_iconst dX11_unshared_113 (pc' := 114) rfl kc_0 ?_
          obtain ⟨t15, ht15, hT⟩ := bind_some' hT
          refine kcVi (as := [.inl ((σ1 126 x1.toNatClampNeg) &&& (σ1 126 x4.toNatClampNeg)), .inl 0]) (st := [.inl t7, .inl t12]) l_RX11_163 (m_X11_innerOf hE σ1 ((σ1 126 x1.toNatClampNeg) &&& (σ1 126 x4.toNatClampNeg)) 0 ht15) rfl (Nat.lt_of_lt_of_le (Nat.le_of_ble_eq_true rfl : 120 < 140) hE.1) rfl ⟨⟨rfl, rfl⟩, Nat.le_of_ble_eq_true rfl, Nat.le_of_ble_eq_true rfl⟩ (Nat.le_of_ble_eq_true rfl) dX11_unshared_114 (pc' := 117) rfl ?_
          refine kj_ior dX11_unshared_117 (pc' := 118) rfl ?_
          refine kj_icmp_eq dX11_unshared_118 (tgt := 135) rfl (pc' := 121) rfl (fun c16 => ?_) (fun c16 => ?_)
          · rw [if_pos c16] at hT
            refine kj_iinc dX11_unshared_135 (pc' := 138) rfl rfl (congrArg (_ + ·) kc_1) (Nat.le_of_ble_eq_true rfl) (ls' := [some (.inr 120), some (.inl x1), some (.inl x2), some (.inl t7), some (.inl (x4 + 1)), some (.inl t12)]) rfl ?_
            refine kj_goto dX11_unshared_138 (pc' := 58) rfl ?_
            refine kj_keep [true, true, true, true, true] (ls' := [some (.inr 120), some (.inl x1), some (.inl x2), some (.inl t7), some (.inl (x4 + 1))]) rfl ?_
            exact ih58 (x4 + 1) hT
          · rw [if_neg c16] at hT
            refine kj_sipush dX11_unshared_121 (pc' := 124) rfl ks_10000 ?_
            refine kj_iload_n dX11_unshared_124 (pc' := 125) rfl rfl rfl ?_
            refine kj_imul dX11_unshared_125 (pc' := 126) rfl ?_
            refine kj_bipush dX11_unshared_126 (pc' := 128) rfl kb_100 ?_
            refine kj_iload_n dX11_unshared_128 (pc' := 129) rfl rfl rfl ?_
            refine kj_imul dX11_unshared_129 (pc' := 130) rfl ?_
            refine kj_iadd dX11_unshared_130 (pc' := 131) rfl ?_
            refine kj_iload dX11_unshared_131 (pc' := 133) rfl rfl ?_
            refine kj_iadd dX11_unshared_133 (pc' := 134) rfl ?_
            have hR := Option.some.inj hT
            subst hR
            exact kj_iret rfl dX11_unshared_134 (by subst hQ; exact ⟨rfl, rfl⟩)
  · rw [if_neg c2] at hT
    refine kj_bipush dX11_unshared_13 (pc' := 15) rfl kb_m2 ?_
    have hR := Option.some.inj hT
    subst hR
    exact kj_iret rfl dX11_unshared_15 (by subst hQ; exact ⟨rfl, rfl⟩)
def X11_chain_T83 (rec31 : Int32 × Int32 → Option (Int32 × Wd)) (x3 : Int32) (x4 : Int32) : Option (Int32 × Wd) :=
  rec31 (x4, x3 + 1)
def X11_chain_J77 (rec39 : Int32 → Option (Int32 × Wd)) (y4 : Int32) : Option (Int32 × Wd) :=
  rec39 (y4 + 1)
def X11_chain_B39 (x2 : Int32) (σ3 : Wd) (kx39 : Int32 → Option (Int32 × Wd)) (rec39 : Int32 → Option (Int32 × Wd)) : Int32 → Option (Int32 × Wd)
  | (x4) => (ckA x4 128 <| (ckA x2 128 <| (if (σ3 129 x4.toNatClampNeg) = ((σ3 129 x2.toNatClampNeg) - 1) then (ckA x4 128 <| (ckA x2 128 <| ((X11_isCovered σ3 (σ3 126 x4.toNatClampNeg) (σ3 126 x2.toNatClampNeg)).bind fun t11 => (if t11 = 0 then X11_chain_J77 rec39 x4 else kx39 x4)))) else X11_chain_J77 rec39 x4)))
def X11_chain_B31 (x1 : Int32) (σ3 : Wd) (rec31 : Int32 × Int32 → Option (Int32 × Wd)) : Int32 × Int32 → Option (Int32 × Wd)
  | (x2, x3) => (if x1 ≤ x3 then some (x2, σ3) else (lp (X11_chain_B39 x2 σ3 (X11_chain_T83 rec31 x3)) FU (0)))
def X11_chain (σ : Wd) (x1 : Int32) : Option (Int32 × Wd) :=
  (if 0 ≤ x1 then ((X11_lays σ).bind fun σ2 => ((X11_measures σ2 1).bind fun σ3 => (if x1 ≤ (σ3 129 0) then (lp (X11_chain_B31 x1 σ3) FU (0, 0)) else some ((-1), σ3)))) else some ((-1), σ))
set_option maxRecDepth 100000 in
set_option maxHeartbeats 4000000 in
theorem m_X11_chain {E : JE} (hE : kOk 140 E) (σ : Wd) (x1 : Int32) {res : Int32 × Wd} (hT : X11_chain σ x1 = some res) : kMt E yX11_chain mX11_chain rmX11_chain [.inr 120, .inl x1] σ (kQi res.1 res.2) := by
  refine kMt_of (by decide +kernel) rfl (Nat.le_of_ble_eq_true rfl) ?_
  generalize hQ : (kQi res.1 res.2) = Q
  show KJ E mX11_chain rmX11_chain 0 [some (.inr 120), some (.inl x1)] [] σ Q
  unfold X11_chain at hT
  refine kj_iload_n dX11_chain_0 (pc' := 1) rfl rfl rfl ?_
  refine kj_if_ge dX11_chain_1 (tgt := 6) rfl (pc' := 4) rfl (fun c1 => ?_) (fun c1 => ?_)
  · rw [if_pos c1] at hT
    refine kj_aload_n dX11_chain_6 (pc' := 7) rfl rfl rfl ?_
    obtain ⟨σ2, hσ2, hT⟩ := bind_some' hT
    refine kcVv (as := []) (st := []) l_RX11_135 (m_X11_lays hE σ hσ2) rfl (Nat.lt_of_lt_of_le (Nat.le_of_ble_eq_true rfl : 120 < 140) hE.1) rfl ⟨⟨rfl, rfl⟩, Nat.le_of_ble_eq_true rfl, Nat.le_of_ble_eq_true rfl⟩ (Nat.le_of_ble_eq_true rfl) dX11_chain_7 (pc' := 10) rfl ?_
    refine kj_aload_n dX11_chain_10 (pc' := 11) rfl rfl rfl ?_
    refine kj_iconst dX11_chain_11 (pc' := 12) rfl kc_1 ?_
    obtain ⟨σ3, hσ3, hT⟩ := bind_some' hT
    refine kcVv (as := [.inl 1]) (st := []) l_RX11_221 (m_X11_measures hE σ2 1 hσ3) rfl (Nat.lt_of_lt_of_le (Nat.le_of_ble_eq_true rfl : 120 < 140) hE.1) rfl ⟨⟨rfl, rfl⟩, Nat.le_of_ble_eq_true rfl, Nat.le_of_ble_eq_true rfl⟩ (Nat.le_of_ble_eq_true rfl) dX11_chain_12 (pc' := 15) rfl ?_
    refine kj_iload_n dX11_chain_15 (pc' := 16) rfl rfl rfl ?_
    refine kj_aload_n dX11_chain_16 (pc' := 17) rfl rfl rfl ?_
    refine kj_getR f_RX11_39 rfl (Nat.lt_of_lt_of_le (Nat.le_of_ble_eq_true rfl : 120 < 140) hE.1) (hE.2 _ _) (q := 129) rfl dX11_chain_17 (pc' := 20) rfl ?_
    refine kj_iconst dX11_chain_20 (pc' := 21) rfl kc_0 ?_
    refine kj_iald rfl (Nat.lt_of_lt_of_le (Nat.le_of_ble_eq_true rfl : 129 < 140) hE.1) (vp_lit (by decide +kernel)) (j := 0) (by decide +kernel) dX11_chain_21 (pc' := 22) rfl ?_
    refine kj_icmp_le dX11_chain_22 (tgt := 27) rfl (pc' := 25) rfl (fun c4 => ?_) (fun c4 => ?_)
    · rw [if_pos c4] at hT
      refine kj_iconst dX11_chain_27 (pc' := 28) rfl kc_0 ?_
      refine kj_istore_n dX11_chain_28 (pc' := 29) rfl rfl (Nat.le_of_ble_eq_true rfl) (ls' := [some (.inr 120), some (.inl x1), some (.inl 0)]) rfl ?_
      refine kj_iconst dX11_chain_29 (pc' := 30) rfl kc_0 ?_
      refine kj_istore_n dX11_chain_30 (pc' := 31) rfl rfl (Nat.le_of_ble_eq_true rfl) (ls' := [some (.inr 120), some (.inl x1), some (.inl 0), some (.inl 0)]) rfl ?_
      refine lp_ind (P := fun s => KJ E mX11_chain rmX11_chain 31 [some (.inr 120), some (.inl x1), some (.inl s.1), some (.inl s.2)] [] σ3 Q) (fun rec31 s ih31 hT => ?_) FU (0, 0) hT
      obtain ⟨x2, x3⟩ := s
      show KJ E mX11_chain rmX11_chain 31 [some (.inr 120), some (.inl x1), some (.inl x2), some (.inl x3)] [] σ3 Q
      rw [X11_chain_B31] at hT
      refine kj_iload_n dX11_chain_31 (pc' := 32) rfl rfl rfl ?_
      refine kj_iload_n dX11_chain_32 (pc' := 33) rfl rfl rfl ?_
      refine kj_icmp_ge dX11_chain_33 (tgt := 92) rfl (pc' := 36) rfl (fun c5 => ?_) (fun c5 => ?_)
      · rw [if_pos c5] at hT
        refine kj_iload_n dX11_chain_92 (pc' := 93) rfl rfl rfl ?_
        have hR := Option.some.inj hT
        subst hR
        exact kj_iret rfl dX11_chain_93 (by subst hQ; exact ⟨rfl, rfl⟩)
      · rw [if_neg c5] at hT
        refine kj_iconst dX11_chain_36 (pc' := 37) rfl kc_0 ?_
        refine kj_istore dX11_chain_37 (pc' := 39) rfl (Nat.le_of_ble_eq_true rfl) (ls' := [some (.inr 120), some (.inl x1), some (.inl x2), some (.inl x3), some (.inl 0)]) rfl ?_
        have hX39 : ∀ x4, X11_chain_T83 rec31 x3 x4 = some res → KJ E mX11_chain rmX11_chain 83 [some (.inr 120), some (.inl x1), none, some (.inl x3), some (.inl x4)] [] σ3 Q := by
          intro x4 hT
          unfold X11_chain_T83 at hT
          refine kj_iload dX11_chain_83 (pc' := 85) rfl rfl ?_
          refine kj_istore_n dX11_chain_85 (pc' := 86) rfl rfl (Nat.le_of_ble_eq_true rfl) (ls' := [some (.inr 120), some (.inl x1), some (.inl x4), some (.inl x3), some (.inl x4)]) rfl ?_
          refine kj_iinc dX11_chain_86 (pc' := 89) rfl rfl (congrArg (_ + ·) kc_1) (Nat.le_of_ble_eq_true rfl) (ls' := [some (.inr 120), some (.inl x1), some (.inl x4), some (.inl (x3 + 1)), some (.inl x4)]) rfl ?_
          refine kj_goto dX11_chain_89 (pc' := 31) rfl ?_
          refine kj_keep [true, true, true, true] (ls' := [some (.inr 120), some (.inl x1), some (.inl x4), some (.inl (x3 + 1))]) rfl ?_
          exact ih31 (x4, x3 + 1) hT
        refine lp_ind (P := fun s => KJ E mX11_chain rmX11_chain 39 [some (.inr 120), some (.inl x1), some (.inl x2), some (.inl x3), some (.inl s)] [] σ3 Q) (fun rec39 s ih39 hT => ?_) FU (0) hT
        obtain ⟨x4, hs⟩ : ∃ z, z = s := ⟨_, rfl⟩
        subst hs
        show KJ E mX11_chain rmX11_chain 39 [some (.inr 120), some (.inl x1), some (.inl x2), some (.inl x3), some (.inl x4)] [] σ3 Q
        rw [X11_chain_B39] at hT
        have hJ77_31_39 : ∀ y4, X11_chain_J77 rec39 y4 = some res → KJ E mX11_chain rmX11_chain 77 [some (.inr 120), some (.inl x1), some (.inl x2), some (.inl x3), some (.inl y4)] [] σ3 Q := by
          intro y4 hT
          unfold X11_chain_J77 at hT
          refine kj_iinc dX11_chain_77 (pc' := 80) rfl rfl (congrArg (_ + ·) kc_1) (Nat.le_of_ble_eq_true rfl) (ls' := [some (.inr 120), some (.inl x1), some (.inl x2), some (.inl x3), some (.inl (y4 + 1))]) rfl ?_
          refine kj_goto dX11_chain_80 (pc' := 39) rfl ?_
          exact ih39 (y4 + 1) hT
        refine kj_aload_n dX11_chain_39 (pc' := 40) rfl rfl rfl ?_
        refine kj_getR f_RX11_39 rfl (Nat.lt_of_lt_of_le (Nat.le_of_ble_eq_true rfl : 120 < 140) hE.1) (hE.2 _ _) (q := 129) rfl dX11_chain_40 (pc' := 43) rfl ?_
        refine kj_iload dX11_chain_43 (pc' := 45) rfl rfl ?_
        obtain ⟨hi6, hT⟩ := ckA_some hT
        refine kj_iald rfl (Nat.lt_of_lt_of_le (Nat.le_of_ble_eq_true rfl : 129 < 140) hE.1) hi6 rfl dX11_chain_45 (pc' := 46) rfl ?_
        refine kj_aload_n dX11_chain_46 (pc' := 47) rfl rfl rfl ?_
        refine kj_getR f_RX11_39 rfl (Nat.lt_of_lt_of_le (Nat.le_of_ble_eq_true rfl : 120 < 140) hE.1) (hE.2 _ _) (q := 129) rfl dX11_chain_47 (pc' := 50) rfl ?_
        refine kj_iload_n dX11_chain_50 (pc' := 51) rfl rfl rfl ?_
        obtain ⟨hi7, hT⟩ := ckA_some hT
        refine kj_iald rfl (Nat.lt_of_lt_of_le (Nat.le_of_ble_eq_true rfl : 129 < 140) hE.1) hi7 rfl dX11_chain_51 (pc' := 52) rfl ?_
        refine kj_iconst dX11_chain_52 (pc' := 53) rfl kc_1 ?_
        refine kj_isub dX11_chain_53 (pc' := 54) rfl ?_
        refine kj_icmp_ne dX11_chain_54 (tgt := 77) rfl (pc' := 57) rfl (fun c8 => ?_) (fun c8 => ?_)
        · rw [if_neg c8] at hT
          exact hJ77_31_39 x4 hT
        · rw [if_pos c8] at hT
          refine kj_aload_n dX11_chain_57 (pc' := 58) rfl rfl rfl ?_
          refine kj_aload_n dX11_chain_58 (pc' := 59) rfl rfl rfl ?_
          refine kj_getR f_RX11_30 rfl (Nat.lt_of_lt_of_le (Nat.le_of_ble_eq_true rfl : 120 < 140) hE.1) (hE.2 _ _) (q := 126) rfl dX11_chain_59 (pc' := 62) rfl ?_
          refine kj_iload dX11_chain_62 (pc' := 64) rfl rfl ?_
          obtain ⟨hi9, hT⟩ := ckA_some hT
          refine kj_iald rfl (Nat.lt_of_lt_of_le (Nat.le_of_ble_eq_true rfl : 126 < 140) hE.1) hi9 rfl dX11_chain_64 (pc' := 65) rfl ?_
          refine kj_aload_n dX11_chain_65 (pc' := 66) rfl rfl rfl ?_
          refine kj_getR f_RX11_30 rfl (Nat.lt_of_lt_of_le (Nat.le_of_ble_eq_true rfl : 120 < 140) hE.1) (hE.2 _ _) (q := 126) rfl dX11_chain_66 (pc' := 69) rfl ?_
          refine kj_iload_n dX11_chain_69 (pc' := 70) rfl rfl rfl ?_
          obtain ⟨hi10, hT⟩ := ckA_some hT
          refine kj_iald rfl (Nat.lt_of_lt_of_le (Nat.le_of_ble_eq_true rfl : 126 < 140) hE.1) hi10 rfl dX11_chain_70 (pc' := 71) rfl ?_
          obtain ⟨t11, ht11, hT⟩ := bind_some' hT
          refine kcVz (as := [.inl (σ3 126 x4.toNatClampNeg), .inl (σ3 126 x2.toNatClampNeg)]) (st := []) l_RX11_175 (m_X11_isCovered hE σ3 (σ3 126 x4.toNatClampNeg) (σ3 126 x2.toNatClampNeg) ht11) rfl (Nat.lt_of_lt_of_le (Nat.le_of_ble_eq_true rfl : 120 < 140) hE.1) rfl ⟨⟨rfl, rfl⟩, Nat.le_of_ble_eq_true rfl, Nat.le_of_ble_eq_true rfl⟩ (Nat.le_of_ble_eq_true rfl) dX11_chain_71 (pc' := 74) rfl (fun z12 => ?_)
          refine kj_if_ne dX11_chain_74 (tgt := 83) rfl (pc' := 77) rfl (fun c13 => ?_) (fun c13 => ?_)
          · rw [if_neg c13] at hT
            refine kj_keep [true, true, false, true, true] (ls' := [some (.inr 120), some (.inl x1), none, some (.inl x3), some (.inl x4)]) rfl ?_
            exact hX39 x4 hT
          · rw [if_pos c13] at hT
            exact hJ77_31_39 x4 hT
    · rw [if_neg c4] at hT
      refine kj_iconst dX11_chain_25 (pc' := 26) rfl kc_m1 ?_
      have hR := Option.some.inj hT
      subst hR
      exact kj_iret rfl dX11_chain_26 (by subst hQ; exact ⟨rfl, rfl⟩)
  · rw [if_neg c1] at hT
    refine kj_iconst dX11_chain_4 (pc' := 5) rfl kc_m1 ?_
    have hR := Option.some.inj hT
    subst hR
    exact kj_iret rfl dX11_chain_5 (by subst hQ; exact ⟨rfl, rfl⟩)
def X11_common (σ : Wd) (x1 : Int32) (x2 : Int32) : Option (Int32 × Wd) :=
  (if (X11_isPoint σ x1) = 0 then some ((-1), σ) else (if (X11_isPoint σ x2) = 0 then some ((-1), σ) else ((X11_lays σ).bind fun σ5 => ((X11_together σ5 x1 x2).bind fun t6 => some (t6, σ5)))))
set_option maxRecDepth 100000 in
set_option maxHeartbeats 4000000 in
theorem m_X11_common {E : JE} (hE : kOk 140 E) (σ : Wd) (x1 : Int32) (x2 : Int32) {res : Int32 × Wd} (hT : X11_common σ x1 x2 = some res) : kMt E yX11_common mX11_common rmX11_common [.inr 120, .inl x1, .inl x2] σ (kQi res.1 res.2) := by
  refine kMt_of (by decide +kernel) rfl (Nat.le_of_ble_eq_true rfl) ?_
  generalize hQ : (kQi res.1 res.2) = Q
  show KJ E mX11_common rmX11_common 0 [some (.inr 120), some (.inl x1), some (.inl x2)] [] σ Q
  unfold X11_common at hT
  refine kj_aload_n dX11_common_0 (pc' := 1) rfl rfl rfl ?_
  refine kj_iload_n dX11_common_1 (pc' := 2) rfl rfl rfl ?_
  refine kcVz (as := [.inl x1]) (st := []) l_RX11_116 (m_X11_isPoint hE σ x1 rfl) rfl (Nat.lt_of_lt_of_le (Nat.le_of_ble_eq_true rfl : 120 < 140) hE.1) rfl ⟨⟨rfl, rfl⟩, Nat.le_of_ble_eq_true rfl, Nat.le_of_ble_eq_true rfl⟩ (Nat.le_of_ble_eq_true rfl) dX11_common_2 (pc' := 5) rfl (fun z1 => ?_)
  refine kj_if_eq dX11_common_5 (tgt := 16) rfl (pc' := 8) rfl (fun c2 => ?_) (fun c2 => ?_)
  · rw [if_pos c2] at hT
    refine kj_iconst dX11_common_16 (pc' := 17) rfl kc_m1 ?_
    have hR := Option.some.inj hT
    subst hR
    exact kj_iret rfl dX11_common_17 (by subst hQ; exact ⟨rfl, rfl⟩)
  · rw [if_neg c2] at hT
    refine kj_aload_n dX11_common_8 (pc' := 9) rfl rfl rfl ?_
    refine kj_iload_n dX11_common_9 (pc' := 10) rfl rfl rfl ?_
    refine kcVz (as := [.inl x2]) (st := []) l_RX11_116 (m_X11_isPoint hE σ x2 rfl) rfl (Nat.lt_of_lt_of_le (Nat.le_of_ble_eq_true rfl : 120 < 140) hE.1) rfl ⟨⟨rfl, rfl⟩, Nat.le_of_ble_eq_true rfl, Nat.le_of_ble_eq_true rfl⟩ (Nat.le_of_ble_eq_true rfl) dX11_common_10 (pc' := 13) rfl (fun z3 => ?_)
    refine kj_if_ne dX11_common_13 (tgt := 18) rfl (pc' := 16) rfl (fun c4 => ?_) (fun c4 => ?_)
    · rw [if_neg c4] at hT
      refine kj_aload_n dX11_common_18 (pc' := 19) rfl rfl rfl ?_
      obtain ⟨σ5, hσ5, hT⟩ := bind_some' hT
      refine kcVv (as := []) (st := []) l_RX11_135 (m_X11_lays hE σ hσ5) rfl (Nat.lt_of_lt_of_le (Nat.le_of_ble_eq_true rfl : 120 < 140) hE.1) rfl ⟨⟨rfl, rfl⟩, Nat.le_of_ble_eq_true rfl, Nat.le_of_ble_eq_true rfl⟩ (Nat.le_of_ble_eq_true rfl) dX11_common_19 (pc' := 22) rfl ?_
      refine kj_aload_n dX11_common_22 (pc' := 23) rfl rfl rfl ?_
      refine kj_iload_n dX11_common_23 (pc' := 24) rfl rfl rfl ?_
      refine kj_iload_n dX11_common_24 (pc' := 25) rfl rfl rfl ?_
      obtain ⟨t6, ht6, hT⟩ := bind_some' hT
      refine kcVi (as := [.inl x1, .inl x2]) (st := []) l_RX11_184 (m_X11_together hE σ5 x1 x2 ht6) rfl (Nat.lt_of_lt_of_le (Nat.le_of_ble_eq_true rfl : 120 < 140) hE.1) rfl ⟨⟨rfl, rfl⟩, Nat.le_of_ble_eq_true rfl, Nat.le_of_ble_eq_true rfl⟩ (Nat.le_of_ble_eq_true rfl) dX11_common_25 (pc' := 28) rfl ?_
      have hR := Option.some.inj hT
      subst hR
      exact kj_iret rfl dX11_common_28 (by subst hQ; exact ⟨rfl, rfl⟩)
    · rw [if_pos c4] at hT
      refine kj_iconst dX11_common_16 (pc' := 17) rfl kc_m1 ?_
      have hR := Option.some.inj hT
      subst hR
      exact kj_iret rfl dX11_common_17 (by subst hQ; exact ⟨rfl, rfl⟩)
def X11_ranked (σ : Wd) (x1 : Int32) : Option (Int32 × Wd) :=
  ((X11_lays σ).bind fun σ1 => ((X11_byFrequency σ1 x1).bind fun t2 => some (t2, σ1)))
set_option maxRecDepth 100000 in
set_option maxHeartbeats 4000000 in
theorem m_X11_ranked {E : JE} (hE : kOk 140 E) (σ : Wd) (x1 : Int32) {res : Int32 × Wd} (hT : X11_ranked σ x1 = some res) : kMt E yX11_ranked mX11_ranked rmX11_ranked [.inr 120, .inl x1] σ (kQi res.1 res.2) := by
  refine kMt_of (by decide +kernel) rfl (Nat.le_of_ble_eq_true rfl) ?_
  generalize hQ : (kQi res.1 res.2) = Q
  show KJ E mX11_ranked rmX11_ranked 0 [some (.inr 120), some (.inl x1)] [] σ Q
  unfold X11_ranked at hT
  refine kj_aload_n dX11_ranked_0 (pc' := 1) rfl rfl rfl ?_
  obtain ⟨σ1, hσ1, hT⟩ := bind_some' hT
  refine kcVv (as := []) (st := []) l_RX11_135 (m_X11_lays hE σ hσ1) rfl (Nat.lt_of_lt_of_le (Nat.le_of_ble_eq_true rfl : 120 < 140) hE.1) rfl ⟨⟨rfl, rfl⟩, Nat.le_of_ble_eq_true rfl, Nat.le_of_ble_eq_true rfl⟩ (Nat.le_of_ble_eq_true rfl) dX11_ranked_1 (pc' := 4) rfl ?_
  refine kj_aload_n dX11_ranked_4 (pc' := 5) rfl rfl rfl ?_
  refine kj_iload_n dX11_ranked_5 (pc' := 6) rfl rfl rfl ?_
  obtain ⟨t2, ht2, hT⟩ := bind_some' hT
  refine kcVi (as := [.inl x1]) (st := []) l_RX11_218 (m_X11_byFrequency hE σ1 x1 ht2) rfl (Nat.lt_of_lt_of_le (Nat.le_of_ble_eq_true rfl : 120 < 140) hE.1) rfl ⟨⟨rfl, rfl⟩, Nat.le_of_ble_eq_true rfl, Nat.le_of_ble_eq_true rfl⟩ (Nat.le_of_ble_eq_true rfl) dX11_ranked_6 (pc' := 9) rfl ?_
  have hR := Option.some.inj hT
  subst hR
  exact kj_iret rfl dX11_ranked_9 (by subst hQ; exact ⟨rfl, rfl⟩)
def X11_nested_J66 (rec19 : Int32 × Int32 → Option (Int32 × Wd)) (y3 : Int32) (y4 : Int32) : Option (Int32 × Wd) :=
  rec19 (y3, y4 + 1)
def X11_nested_J63 (rec19 : Int32 × Int32 → Option (Int32 × Wd)) (y3 : Int32) (y4 : Int32) : Option (Int32 × Wd) :=
  X11_nested_J66 rec19 (y3 + 1) y4
def X11_nested_B19 (σ3 : Wd) (x2 : Int32) (x1 : Int32) (rec19 : Int32 × Int32 → Option (Int32 × Wd)) : Int32 × Int32 → Option (Int32 × Wd)
  | (x3, x4) => (if (σ3 120 10) ≤ x4 then some (x3, σ3) else (if x2 = 0 then (ckA x4 128 <| (if (X11_isWithin (σ3 126 x4.toNatClampNeg) x1) = 0 then X11_nested_J66 rec19 x3 x4 else X11_nested_J63 rec19 x3 x4)) else (ckA x4 128 <| (if (X11_isWithin x1 (σ3 126 x4.toNatClampNeg)) = 0 then X11_nested_J66 rec19 x3 x4 else X11_nested_J63 rec19 x3 x4))))
def X11_nested (σ : Wd) (x1 : Int32) (x2 : Int32) : Option (Int32 × Wd) :=
  (if (X11_isSet σ x1) = 0 then some ((-1), σ) else ((X11_lays σ).bind fun σ3 => (lp (X11_nested_B19 σ3 x2 x1) FU (0, 0))))
set_option maxRecDepth 100000 in
set_option maxHeartbeats 4000000 in
theorem m_X11_nested {E : JE} (hE : kOk 140 E) (σ : Wd) (x1 : Int32) (x2 : Int32) {res : Int32 × Wd} (hT : X11_nested σ x1 x2 = some res) : kMt E yX11_nested mX11_nested rmX11_nested [.inr 120, .inl x1, .inl x2] σ (kQi res.1 res.2) := by
  refine kMt_of (by decide +kernel) rfl (Nat.le_of_ble_eq_true rfl) ?_
  generalize hQ : (kQi res.1 res.2) = Q
  show KJ E mX11_nested rmX11_nested 0 [some (.inr 120), some (.inl x1), some (.inl x2)] [] σ Q
  unfold X11_nested at hT
  refine kj_aload_n dX11_nested_0 (pc' := 1) rfl rfl rfl ?_
  refine kj_iload_n dX11_nested_1 (pc' := 2) rfl rfl rfl ?_
  refine kcVz (as := [.inl x1]) (st := []) l_RX11_95 (m_X11_isSet hE σ x1 rfl) rfl (Nat.lt_of_lt_of_le (Nat.le_of_ble_eq_true rfl : 120 < 140) hE.1) rfl ⟨⟨rfl, rfl⟩, Nat.le_of_ble_eq_true rfl, Nat.le_of_ble_eq_true rfl⟩ (Nat.le_of_ble_eq_true rfl) dX11_nested_2 (pc' := 5) rfl (fun z1 => ?_)
  refine kj_if_ne dX11_nested_5 (tgt := 10) rfl (pc' := 8) rfl (fun c2 => ?_) (fun c2 => ?_)
  · rw [if_neg c2] at hT
    refine kj_aload_n dX11_nested_10 (pc' := 11) rfl rfl rfl ?_
    obtain ⟨σ3, hσ3, hT⟩ := bind_some' hT
    refine kcVv (as := []) (st := []) l_RX11_135 (m_X11_lays hE σ hσ3) rfl (Nat.lt_of_lt_of_le (Nat.le_of_ble_eq_true rfl : 120 < 140) hE.1) rfl ⟨⟨rfl, rfl⟩, Nat.le_of_ble_eq_true rfl, Nat.le_of_ble_eq_true rfl⟩ (Nat.le_of_ble_eq_true rfl) dX11_nested_11 (pc' := 14) rfl ?_
    refine kj_iconst dX11_nested_14 (pc' := 15) rfl kc_0 ?_
    refine kj_istore_n dX11_nested_15 (pc' := 16) rfl rfl (Nat.le_of_ble_eq_true rfl) (ls' := [some (.inr 120), some (.inl x1), some (.inl x2), some (.inl 0)]) rfl ?_
    refine kj_iconst dX11_nested_16 (pc' := 17) rfl kc_0 ?_
    refine kj_istore dX11_nested_17 (pc' := 19) rfl (Nat.le_of_ble_eq_true rfl) (ls' := [some (.inr 120), some (.inl x1), some (.inl x2), some (.inl 0), some (.inl 0)]) rfl ?_
    refine lp_ind (P := fun s => KJ E mX11_nested rmX11_nested 19 [some (.inr 120), some (.inl x1), some (.inl x2), some (.inl s.1), some (.inl s.2)] [] σ3 Q) (fun rec19 s ih19 hT => ?_) FU (0, 0) hT
    obtain ⟨x3, x4⟩ := s
    show KJ E mX11_nested rmX11_nested 19 [some (.inr 120), some (.inl x1), some (.inl x2), some (.inl x3), some (.inl x4)] [] σ3 Q
    rw [X11_nested_B19] at hT
    have hJ66_19 : ∀ y3 y4, X11_nested_J66 rec19 y3 y4 = some res → KJ E mX11_nested rmX11_nested 66 [some (.inr 120), some (.inl x1), some (.inl x2), some (.inl y3), some (.inl y4)] [] σ3 Q := by
      intro y3 y4 hT
      unfold X11_nested_J66 at hT
      refine kj_iinc dX11_nested_66 (pc' := 69) rfl rfl (congrArg (_ + ·) kc_1) (Nat.le_of_ble_eq_true rfl) (ls' := [some (.inr 120), some (.inl x1), some (.inl x2), some (.inl y3), some (.inl (y4 + 1))]) rfl ?_
      refine kj_goto dX11_nested_69 (pc' := 19) rfl ?_
      exact ih19 (y3, y4 + 1) hT
    have hJ63_19 : ∀ y3 y4, X11_nested_J63 rec19 y3 y4 = some res → KJ E mX11_nested rmX11_nested 63 [some (.inr 120), some (.inl x1), some (.inl x2), some (.inl y3), some (.inl y4)] [] σ3 Q := by
      intro y3 y4 hT
      unfold X11_nested_J63 at hT
      refine kj_iinc dX11_nested_63 (pc' := 66) rfl rfl (congrArg (_ + ·) kc_1) (Nat.le_of_ble_eq_true rfl) (ls' := [some (.inr 120), some (.inl x1), some (.inl x2), some (.inl (y3 + 1)), some (.inl y4)]) rfl ?_
      exact hJ66_19 (y3 + 1) y4 hT
    refine kj_iload dX11_nested_19 (pc' := 21) rfl rfl ?_
    refine kj_aload_n dX11_nested_21 (pc' := 22) rfl rfl rfl ?_
    refine kj_getI f_RX11_141 rfl (Nat.lt_of_lt_of_le (Nat.le_of_ble_eq_true rfl : 120 < 140) hE.1) dX11_nested_22 (pc' := 25) rfl ?_
    refine kj_icmp_ge dX11_nested_25 (tgt := 72) rfl (pc' := 28) rfl (fun c4 => ?_) (fun c4 => ?_)
    · rw [if_pos c4] at hT
      refine kj_iload_n dX11_nested_72 (pc' := 73) rfl rfl rfl ?_
      have hR := Option.some.inj hT
      subst hR
      exact kj_iret rfl dX11_nested_73 (by subst hQ; exact ⟨rfl, rfl⟩)
    · rw [if_neg c4] at hT
      refine kj_iload_n dX11_nested_28 (pc' := 29) rfl rfl rfl ?_
      refine kj_if_eq dX11_nested_29 (tgt := 49) rfl (pc' := 32) rfl (fun c5 => ?_) (fun c5 => ?_)
      · rw [if_pos c5] at hT
        refine kj_aload_n dX11_nested_49 (pc' := 50) rfl rfl rfl ?_
        refine kj_getR f_RX11_30 rfl (Nat.lt_of_lt_of_le (Nat.le_of_ble_eq_true rfl : 120 < 140) hE.1) (hE.2 _ _) (q := 126) rfl dX11_nested_50 (pc' := 53) rfl ?_
        refine kj_iload dX11_nested_53 (pc' := 55) rfl rfl ?_
        obtain ⟨hi6, hT⟩ := ckA_some hT
        refine kj_iald rfl (Nat.lt_of_lt_of_le (Nat.le_of_ble_eq_true rfl : 126 < 140) hE.1) hi6 rfl dX11_nested_55 (pc' := 56) rfl ?_
        refine kj_iload_n dX11_nested_56 (pc' := 57) rfl rfl rfl ?_
        refine kcSz (as := [.inl (σ3 126 x4.toNatClampNeg), .inl x1]) (st := []) l_RX11_160 (m_X11_isWithin (Nat.zero_le _) σ3 (σ3 126 x4.toNatClampNeg) x1 rfl) rfl ⟨⟨rfl, rfl⟩, Nat.le_of_ble_eq_true rfl, Nat.le_of_ble_eq_true rfl⟩ (Nat.le_of_ble_eq_true rfl) dX11_nested_57 (pc' := 60) rfl (fun z7 => ?_)
        refine kj_if_eq dX11_nested_60 (tgt := 66) rfl (pc' := 63) rfl (fun c8 => ?_) (fun c8 => ?_)
        · rw [if_pos c8] at hT
          exact hJ66_19 x3 x4 hT
        · rw [if_neg c8] at hT
          exact hJ63_19 x3 x4 hT
      · rw [if_neg c5] at hT
        refine kj_iload_n dX11_nested_32 (pc' := 33) rfl rfl rfl ?_
        refine kj_aload_n dX11_nested_33 (pc' := 34) rfl rfl rfl ?_
        refine kj_getR f_RX11_30 rfl (Nat.lt_of_lt_of_le (Nat.le_of_ble_eq_true rfl : 120 < 140) hE.1) (hE.2 _ _) (q := 126) rfl dX11_nested_34 (pc' := 37) rfl ?_
        refine kj_iload dX11_nested_37 (pc' := 39) rfl rfl ?_
        obtain ⟨hi9, hT⟩ := ckA_some hT
        refine kj_iald rfl (Nat.lt_of_lt_of_le (Nat.le_of_ble_eq_true rfl : 126 < 140) hE.1) hi9 rfl dX11_nested_39 (pc' := 40) rfl ?_
        refine kcSz (as := [.inl x1, .inl (σ3 126 x4.toNatClampNeg)]) (st := []) l_RX11_160 (m_X11_isWithin (Nat.zero_le _) σ3 x1 (σ3 126 x4.toNatClampNeg) rfl) rfl ⟨⟨rfl, rfl⟩, Nat.le_of_ble_eq_true rfl, Nat.le_of_ble_eq_true rfl⟩ (Nat.le_of_ble_eq_true rfl) dX11_nested_40 (pc' := 43) rfl (fun z10 => ?_)
        refine kj_if_eq dX11_nested_43 (tgt := 66) rfl (pc' := 46) rfl (fun c11 => ?_) (fun c11 => ?_)
        · rw [if_pos c11] at hT
          exact hJ66_19 x3 x4 hT
        · rw [if_neg c11] at hT
          refine kj_goto dX11_nested_46 (pc' := 63) rfl ?_
          exact hJ63_19 x3 x4 hT
  · rw [if_pos c2] at hT
    refine kj_iconst dX11_nested_8 (pc' := 9) rfl kc_m1 ?_
    have hR := Option.some.inj hT
    subst hR
    exact kj_iret rfl dX11_nested_9 (by subst hQ; exact ⟨rfl, rfl⟩)
def X11_crossing_T50 (rec6 : Int32 → Option (Int32 × Wd)) (x1 : Int32) : Option (Int32 × Wd) :=
  rec6 (x1 + 1)
def X11_crossing_B16 (x1 : Int32) (σ1 : Wd) (kx16 : Option (Int32 × Wd)) (rec16 : Int32 → Option (Int32 × Wd)) : Int32 → Option (Int32 × Wd)
  | (x2) => (if x1 ≤ x2 then kx16 else (ckA x1 128 <| (ckA x2 128 <| (ckA ((σ1 126 x1.toNatClampNeg) &&& (σ1 126 x2.toNatClampNeg)) 128 <| (if (σ1 125 (((σ1 126 x1.toNatClampNeg) &&& (σ1 126 x2.toNatClampNeg)).toNatClampNeg)) = 0 then some (0, σ1) else rec16 (x2 + 1))))))
def X11_crossing_B6 (σ1 : Wd) (rec6 : Int32 → Option (Int32 × Wd)) : Int32 → Option (Int32 × Wd)
  | (x1) => (if (σ1 120 10) ≤ x1 then some (1, σ1) else (lp (X11_crossing_B16 x1 σ1 (X11_crossing_T50 rec6 x1)) FU (0)))
def X11_crossing (σ : Wd) : Option (Int32 × Wd) :=
  ((X11_lays σ).bind fun σ1 => (lp (X11_crossing_B6 σ1) FU (0)))
set_option maxRecDepth 100000 in
set_option maxHeartbeats 4000000 in
theorem m_X11_crossing {E : JE} (hE : kOk 140 E) (σ : Wd) {res : Int32 × Wd} (hT : X11_crossing σ = some res) : kMt E yX11_crossing mX11_crossing rmX11_crossing [.inr 120] σ (kQi res.1 res.2) := by
  refine kMt_of (by decide +kernel) rfl (Nat.le_of_ble_eq_true rfl) ?_
  generalize hQ : (kQi res.1 res.2) = Q
  show KJ E mX11_crossing rmX11_crossing 0 [some (.inr 120)] [] σ Q
  unfold X11_crossing at hT
  refine kj_aload_n dX11_crossing_0 (pc' := 1) rfl rfl rfl ?_
  obtain ⟨σ1, hσ1, hT⟩ := bind_some' hT
  refine kcVv (as := []) (st := []) l_RX11_135 (m_X11_lays hE σ hσ1) rfl (Nat.lt_of_lt_of_le (Nat.le_of_ble_eq_true rfl : 120 < 140) hE.1) rfl ⟨⟨rfl, rfl⟩, Nat.le_of_ble_eq_true rfl, Nat.le_of_ble_eq_true rfl⟩ (Nat.le_of_ble_eq_true rfl) dX11_crossing_1 (pc' := 4) rfl ?_
  refine kj_iconst dX11_crossing_4 (pc' := 5) rfl kc_0 ?_
  refine kj_istore_n dX11_crossing_5 (pc' := 6) rfl rfl (Nat.le_of_ble_eq_true rfl) (ls' := [some (.inr 120), some (.inl 0)]) rfl ?_
  refine lp_ind (P := fun s => KJ E mX11_crossing rmX11_crossing 6 [some (.inr 120), some (.inl s)] [] σ1 Q) (fun rec6 s ih6 hT => ?_) FU (0) hT
  obtain ⟨x1, hs⟩ : ∃ z, z = s := ⟨_, rfl⟩
  subst hs
  show KJ E mX11_crossing rmX11_crossing 6 [some (.inr 120), some (.inl x1)] [] σ1 Q
  rw [X11_crossing_B6] at hT
  refine kj_iload_n dX11_crossing_6 (pc' := 7) rfl rfl rfl ?_
  refine kj_aload_n dX11_crossing_7 (pc' := 8) rfl rfl rfl ?_
  refine kj_getI f_RX11_141 rfl (Nat.lt_of_lt_of_le (Nat.le_of_ble_eq_true rfl : 120 < 140) hE.1) dX11_crossing_8 (pc' := 11) rfl ?_
  refine kj_icmp_ge dX11_crossing_11 (tgt := 56) rfl (pc' := 14) rfl (fun c2 => ?_) (fun c2 => ?_)
  · rw [if_pos c2] at hT
    refine kj_iconst dX11_crossing_56 (pc' := 57) rfl kc_1 ?_
    have hR := Option.some.inj hT
    subst hR
    exact kj_iret rfl dX11_crossing_57 (by subst hQ; exact ⟨rfl, rfl⟩)
  · rw [if_neg c2] at hT
    refine kj_iconst dX11_crossing_14 (pc' := 15) rfl kc_0 ?_
    refine kj_istore_n dX11_crossing_15 (pc' := 16) rfl rfl (Nat.le_of_ble_eq_true rfl) (ls' := [some (.inr 120), some (.inl x1), some (.inl 0)]) rfl ?_
    have hX16 : ∀ (_ : Unit), X11_crossing_T50 rec6 x1 = some res → KJ E mX11_crossing rmX11_crossing 50 [some (.inr 120), some (.inl x1)] [] σ1 Q := by
      intro _ hT
      unfold X11_crossing_T50 at hT
      refine kj_iinc dX11_crossing_50 (pc' := 53) rfl rfl (congrArg (_ + ·) kc_1) (Nat.le_of_ble_eq_true rfl) (ls' := [some (.inr 120), some (.inl (x1 + 1))]) rfl ?_
      refine kj_goto dX11_crossing_53 (pc' := 6) rfl ?_
      exact ih6 (x1 + 1) hT
    refine lp_ind (P := fun s => KJ E mX11_crossing rmX11_crossing 16 [some (.inr 120), some (.inl x1), some (.inl s)] [] σ1 Q) (fun rec16 s ih16 hT => ?_) FU (0) hT
    obtain ⟨x2, hs⟩ : ∃ z, z = s := ⟨_, rfl⟩
    subst hs
    show KJ E mX11_crossing rmX11_crossing 16 [some (.inr 120), some (.inl x1), some (.inl x2)] [] σ1 Q
    rw [X11_crossing_B16] at hT
    refine kj_iload_n dX11_crossing_16 (pc' := 17) rfl rfl rfl ?_
    refine kj_iload_n dX11_crossing_17 (pc' := 18) rfl rfl rfl ?_
    refine kj_icmp_ge dX11_crossing_18 (tgt := 50) rfl (pc' := 21) rfl (fun c3 => ?_) (fun c3 => ?_)
    · rw [if_pos c3] at hT
      refine kj_keep [true, true] (ls' := [some (.inr 120), some (.inl x1)]) rfl ?_
      exact hX16 () hT
    · rw [if_neg c3] at hT
      refine kj_aload_n dX11_crossing_21 (pc' := 22) rfl rfl rfl ?_
      refine kj_getR f_RX11_26 rfl (Nat.lt_of_lt_of_le (Nat.le_of_ble_eq_true rfl : 120 < 140) hE.1) (hE.2 _ _) (q := 125) rfl dX11_crossing_22 (pc' := 25) rfl ?_
      refine kj_aload_n dX11_crossing_25 (pc' := 26) rfl rfl rfl ?_
      refine kj_getR f_RX11_30 rfl (Nat.lt_of_lt_of_le (Nat.le_of_ble_eq_true rfl : 120 < 140) hE.1) (hE.2 _ _) (q := 126) rfl dX11_crossing_26 (pc' := 29) rfl ?_
      refine kj_iload_n dX11_crossing_29 (pc' := 30) rfl rfl rfl ?_
      obtain ⟨hi4, hT⟩ := ckA_some hT
      refine kj_iald rfl (Nat.lt_of_lt_of_le (Nat.le_of_ble_eq_true rfl : 126 < 140) hE.1) hi4 rfl dX11_crossing_30 (pc' := 31) rfl ?_
      refine kj_aload_n dX11_crossing_31 (pc' := 32) rfl rfl rfl ?_
      refine kj_getR f_RX11_30 rfl (Nat.lt_of_lt_of_le (Nat.le_of_ble_eq_true rfl : 120 < 140) hE.1) (hE.2 _ _) (q := 126) rfl dX11_crossing_32 (pc' := 35) rfl ?_
      refine kj_iload_n dX11_crossing_35 (pc' := 36) rfl rfl rfl ?_
      obtain ⟨hi5, hT⟩ := ckA_some hT
      refine kj_iald rfl (Nat.lt_of_lt_of_le (Nat.le_of_ble_eq_true rfl : 126 < 140) hE.1) hi5 rfl dX11_crossing_36 (pc' := 37) rfl ?_
      refine kj_iand dX11_crossing_37 (pc' := 38) rfl ?_
      obtain ⟨hi6, hT⟩ := ckA_some hT
      refine kj_zald rfl (Nat.lt_of_lt_of_le (Nat.le_of_ble_eq_true rfl : 125 < 140) hE.1) hi6 rfl dX11_crossing_38 (pc' := 39) rfl ?_
      refine kj_if_ne dX11_crossing_39 (tgt := 44) rfl (pc' := 42) rfl (fun c7 => ?_) (fun c7 => ?_)
      · rw [if_neg c7] at hT
        refine kj_iinc dX11_crossing_44 (pc' := 47) rfl rfl (congrArg (_ + ·) kc_1) (Nat.le_of_ble_eq_true rfl) (ls' := [some (.inr 120), some (.inl x1), some (.inl (x2 + 1))]) rfl ?_
        refine kj_goto dX11_crossing_47 (pc' := 16) rfl ?_
        exact ih16 (x2 + 1) hT
      · rw [if_pos c7] at hT
        refine kj_iconst dX11_crossing_42 (pc' := 43) rfl kc_0 ?_
        have hR := Option.some.inj hT
        subst hR
        exact kj_iret rfl dX11_crossing_43 (by subst hQ; exact ⟨rfl, rfl⟩)
def X11_parts_T101 (rec11 : Int32 × Int32 → Option (Int32 × Wd)) (x1 : Int32) (x2 : Int32) (x3 : Int32) : Option (Int32 × Wd) :=
  rec11 (x1 &&& (x3 ^^^ (-1)), x2 + 1)
def X11_parts_J98 (rec23 : Int32 × Int32 → Option (Int32 × Wd)) (y3 : Int32) (y4 : Int32) : Option (Int32 × Wd) :=
  rec23 (y3, y4)
def X11_parts_T85 (x3 : Int32) (rec23 : Int32 × Int32 → Option (Int32 × Wd)) (z3_34 : Int32) : Option (Int32 × Wd) :=
  (if z3_34 = x3 then X11_parts_J98 rec23 z3_34 0 else X11_parts_J98 rec23 z3_34 1)
def X11_parts_J79 (rec34 : Int32 × Int32 → Option (Int32 × Wd)) (y3 : Int32) (y6 : Int32) : Option (Int32 × Wd) :=
  rec34 (y3, y6 + 1)
def X11_parts_B34 (σ1 : Wd) (kx34 : Int32 → Option (Int32 × Wd)) (rec34 : Int32 × Int32 → Option (Int32 × Wd)) : Int32 × Int32 → Option (Int32 × Wd)
  | (z3_34, x6) => (if (σ1 120 10) ≤ x6 then kx34 z3_34 else (ckA x6 128 <| (if ((σ1 126 x6.toNatClampNeg) &&& z3_34) = 0 then X11_parts_J79 rec34 z3_34 x6 else (ckA x6 128 <| ((X11_isBased σ1 (σ1 126 x6.toNatClampNeg)).bind fun t10 => (if t10 = 0 then X11_parts_J79 rec34 z3_34 x6 else (ckA x6 128 <| (lett (z3_34 ||| (σ1 126 x6.toNatClampNeg)) fun t14 => X11_parts_J79 rec34 t14 x6))))))))
def X11_parts_B23 (σ1 : Wd) (kx23 : Int32 → Option (Int32 × Wd)) (rec23 : Int32 × Int32 → Option (Int32 × Wd)) : Int32 × Int32 → Option (Int32 × Wd)
  | (x3, x4) => (if x4 = 0 then kx23 x3 else (lp (X11_parts_B34 σ1 (X11_parts_T85 x3 rec23)) FU (x3, 0)))
def X11_parts_B11 (σ1 : Wd) (rec11 : Int32 × Int32 → Option (Int32 × Wd)) : Int32 × Int32 → Option (Int32 × Wd)
  | (x1, x2) => (if x1 = 0 then some (x2, σ1) else (lp (X11_parts_B23 σ1 (X11_parts_T101 rec11 x1 x2)) FU (x1 &&& (-x1), 1)))
def X11_parts (σ : Wd) : Option (Int32 × Wd) :=
  ((X11_lays σ).bind fun σ1 => ((X11_top σ1).bind fun t2 => (lp (X11_parts_B11 σ1) FU (t2, 0))))
set_option maxRecDepth 100000 in
set_option maxHeartbeats 4000000 in
theorem m_X11_parts {E : JE} (hE : kOk 140 E) (σ : Wd) {res : Int32 × Wd} (hT : X11_parts σ = some res) : kMt E yX11_parts mX11_parts rmX11_parts [.inr 120] σ (kQi res.1 res.2) := by
  refine kMt_of (by decide +kernel) rfl (Nat.le_of_ble_eq_true rfl) ?_
  generalize hQ : (kQi res.1 res.2) = Q
  show KJ E mX11_parts rmX11_parts 0 [some (.inr 120)] [] σ Q
  unfold X11_parts at hT
  refine kj_aload_n dX11_parts_0 (pc' := 1) rfl rfl rfl ?_
  obtain ⟨σ1, hσ1, hT⟩ := bind_some' hT
  refine kcVv (as := []) (st := []) l_RX11_135 (m_X11_lays hE σ hσ1) rfl (Nat.lt_of_lt_of_le (Nat.le_of_ble_eq_true rfl : 120 < 140) hE.1) rfl ⟨⟨rfl, rfl⟩, Nat.le_of_ble_eq_true rfl, Nat.le_of_ble_eq_true rfl⟩ (Nat.le_of_ble_eq_true rfl) dX11_parts_1 (pc' := 4) rfl ?_
  refine kj_aload_n dX11_parts_4 (pc' := 5) rfl rfl rfl ?_
  obtain ⟨t2, ht2, hT⟩ := bind_some' hT
  refine kcVi (as := []) (st := []) l_RX11_181 (m_X11_top hE σ1 ht2) rfl (Nat.lt_of_lt_of_le (Nat.le_of_ble_eq_true rfl : 120 < 140) hE.1) rfl ⟨⟨rfl, rfl⟩, Nat.le_of_ble_eq_true rfl, Nat.le_of_ble_eq_true rfl⟩ (Nat.le_of_ble_eq_true rfl) dX11_parts_5 (pc' := 8) rfl ?_
  refine kj_istore_n dX11_parts_8 (pc' := 9) rfl rfl (Nat.le_of_ble_eq_true rfl) (ls' := [some (.inr 120), some (.inl t2)]) rfl ?_
  refine kj_iconst dX11_parts_9 (pc' := 10) rfl kc_0 ?_
  refine kj_istore_n dX11_parts_10 (pc' := 11) rfl rfl (Nat.le_of_ble_eq_true rfl) (ls' := [some (.inr 120), some (.inl t2), some (.inl 0)]) rfl ?_
  refine lp_ind (P := fun s => KJ E mX11_parts rmX11_parts 11 [some (.inr 120), some (.inl s.1), some (.inl s.2)] [] σ1 Q) (fun rec11 s ih11 hT => ?_) FU (t2, 0) hT
  obtain ⟨x1, x2⟩ := s
  show KJ E mX11_parts rmX11_parts 11 [some (.inr 120), some (.inl x1), some (.inl x2)] [] σ1 Q
  rw [X11_parts_B11] at hT
  refine kj_iload_n dX11_parts_11 (pc' := 12) rfl rfl rfl ?_
  refine kj_if_eq dX11_parts_12 (tgt := 113) rfl (pc' := 15) rfl (fun c3 => ?_) (fun c3 => ?_)
  · rw [if_pos c3] at hT
    refine kj_iload_n dX11_parts_113 (pc' := 114) rfl rfl rfl ?_
    have hR := Option.some.inj hT
    subst hR
    exact kj_iret rfl dX11_parts_114 (by subst hQ; exact ⟨rfl, rfl⟩)
  · rw [if_neg c3] at hT
    refine kj_iload_n dX11_parts_15 (pc' := 16) rfl rfl rfl ?_
    refine kj_iload_n dX11_parts_16 (pc' := 17) rfl rfl rfl ?_
    refine kj_ineg dX11_parts_17 (pc' := 18) rfl ?_
    refine kj_iand dX11_parts_18 (pc' := 19) rfl ?_
    refine kj_istore_n dX11_parts_19 (pc' := 20) rfl rfl (Nat.le_of_ble_eq_true rfl) (ls' := [some (.inr 120), some (.inl x1), some (.inl x2), some (.inl (x1 &&& (-x1)))]) rfl ?_
    refine kj_iconst dX11_parts_20 (pc' := 21) rfl kc_1 ?_
    refine kj_istore dX11_parts_21 (pc' := 23) rfl (Nat.le_of_ble_eq_true rfl) (ls' := [some (.inr 120), some (.inl x1), some (.inl x2), some (.inl (x1 &&& (-x1))), some (.inl 1)]) rfl ?_
    have hX23 : ∀ x3, X11_parts_T101 rec11 x1 x2 x3 = some res → KJ E mX11_parts rmX11_parts 101 [some (.inr 120), some (.inl x1), some (.inl x2), some (.inl x3)] [] σ1 Q := by
      intro x3 hT
      unfold X11_parts_T101 at hT
      refine kj_iload_n dX11_parts_101 (pc' := 102) rfl rfl rfl ?_
      refine kj_iload_n dX11_parts_102 (pc' := 103) rfl rfl rfl ?_
      refine kj_iconst dX11_parts_103 (pc' := 104) rfl kc_m1 ?_
      refine kj_ixor dX11_parts_104 (pc' := 105) rfl ?_
      refine kj_iand dX11_parts_105 (pc' := 106) rfl ?_
      refine kj_istore_n dX11_parts_106 (pc' := 107) rfl rfl (Nat.le_of_ble_eq_true rfl) (ls' := [some (.inr 120), some (.inl (x1 &&& (x3 ^^^ (-1)))), some (.inl x2), some (.inl x3)]) rfl ?_
      refine kj_iinc dX11_parts_107 (pc' := 110) rfl rfl (congrArg (_ + ·) kc_1) (Nat.le_of_ble_eq_true rfl) (ls' := [some (.inr 120), some (.inl (x1 &&& (x3 ^^^ (-1)))), some (.inl (x2 + 1)), some (.inl x3)]) rfl ?_
      refine kj_goto dX11_parts_110 (pc' := 11) rfl ?_
      refine kj_keep [true, true, true] (ls' := [some (.inr 120), some (.inl (x1 &&& (x3 ^^^ (-1)))), some (.inl (x2 + 1))]) rfl ?_
      exact ih11 (x1 &&& (x3 ^^^ (-1)), x2 + 1) hT
    refine lp_ind (P := fun s => KJ E mX11_parts rmX11_parts 23 [some (.inr 120), some (.inl x1), some (.inl x2), some (.inl s.1), some (.inl s.2)] [] σ1 Q) (fun rec23 s ih23 hT => ?_) FU (x1 &&& (-x1), 1) hT
    obtain ⟨x3, x4⟩ := s
    show KJ E mX11_parts rmX11_parts 23 [some (.inr 120), some (.inl x1), some (.inl x2), some (.inl x3), some (.inl x4)] [] σ1 Q
    rw [X11_parts_B23] at hT
    have hJ98_11_23 : ∀ y3 y4, X11_parts_J98 rec23 y3 y4 = some res → KJ E mX11_parts rmX11_parts 98 [some (.inr 120), some (.inl x1), some (.inl x2), some (.inl y3), some (.inl y4)] [] σ1 Q := by
      intro y3 y4 hT
      unfold X11_parts_J98 at hT
      refine kj_goto dX11_parts_98 (pc' := 23) rfl ?_
      exact ih23 (y3, y4) hT
    refine kj_iload dX11_parts_23 (pc' := 25) rfl rfl ?_
    refine kj_if_eq dX11_parts_25 (tgt := 101) rfl (pc' := 28) rfl (fun c4 => ?_) (fun c4 => ?_)
    · rw [if_pos c4] at hT
      refine kj_keep [true, true, true, true] (ls' := [some (.inr 120), some (.inl x1), some (.inl x2), some (.inl x3)]) rfl ?_
      exact hX23 x3 hT
    · rw [if_neg c4] at hT
      refine kj_iload_n dX11_parts_28 (pc' := 29) rfl rfl rfl ?_
      refine kj_istore dX11_parts_29 (pc' := 31) rfl (Nat.le_of_ble_eq_true rfl) (ls' := [some (.inr 120), some (.inl x1), some (.inl x2), some (.inl x3), some (.inl x4), some (.inl x3)]) rfl ?_
      refine kj_iconst dX11_parts_31 (pc' := 32) rfl kc_0 ?_
      refine kj_istore dX11_parts_32 (pc' := 34) rfl (Nat.le_of_ble_eq_true rfl) (ls' := [some (.inr 120), some (.inl x1), some (.inl x2), some (.inl x3), some (.inl x4), some (.inl x3), some (.inl 0)]) rfl ?_
      refine kj_keep [true, true, true, true, false, true, true] (ls' := [some (.inr 120), some (.inl x1), some (.inl x2), some (.inl x3), none, some (.inl x3), some (.inl 0)]) rfl ?_
      have hX34 : ∀ z3_34, X11_parts_T85 x3 rec23 z3_34 = some res → KJ E mX11_parts rmX11_parts 85 [some (.inr 120), some (.inl x1), some (.inl x2), some (.inl z3_34), none, some (.inl x3)] [] σ1 Q := by
        intro z3_34 hT
        unfold X11_parts_T85 at hT
        refine kj_iload_n dX11_parts_85 (pc' := 86) rfl rfl rfl ?_
        refine kj_iload dX11_parts_86 (pc' := 88) rfl rfl ?_
        refine kj_icmp_eq dX11_parts_88 (tgt := 95) rfl (pc' := 91) rfl (fun c5 => ?_) (fun c5 => ?_)
        · rw [if_pos c5] at hT
          refine kj_iconst dX11_parts_95 (pc' := 96) rfl kc_0 ?_
          refine kj_istore dX11_parts_96 (pc' := 98) rfl (Nat.le_of_ble_eq_true rfl) (ls' := [some (.inr 120), some (.inl x1), some (.inl x2), some (.inl z3_34), some (.inl 0), some (.inl x3)]) rfl ?_
          refine kj_keep [true, true, true, true, true] (ls' := [some (.inr 120), some (.inl x1), some (.inl x2), some (.inl z3_34), some (.inl 0)]) rfl ?_
          exact hJ98_11_23 z3_34 0 hT
        · rw [if_neg c5] at hT
          refine kj_iconst dX11_parts_91 (pc' := 92) rfl kc_1 ?_
          refine kj_goto dX11_parts_92 (pc' := 96) rfl ?_
          refine kj_istore dX11_parts_96 (pc' := 98) rfl (Nat.le_of_ble_eq_true rfl) (ls' := [some (.inr 120), some (.inl x1), some (.inl x2), some (.inl z3_34), some (.inl 1), some (.inl x3)]) rfl ?_
          refine kj_keep [true, true, true, true, true] (ls' := [some (.inr 120), some (.inl x1), some (.inl x2), some (.inl z3_34), some (.inl 1)]) rfl ?_
          exact hJ98_11_23 z3_34 1 hT
      refine lp_ind (P := fun s => KJ E mX11_parts rmX11_parts 34 [some (.inr 120), some (.inl x1), some (.inl x2), some (.inl s.1), none, some (.inl x3), some (.inl s.2)] [] σ1 Q) (fun rec34 s ih34 hT => ?_) FU (x3, 0) hT
      obtain ⟨z3_34, x6⟩ := s
      show KJ E mX11_parts rmX11_parts 34 [some (.inr 120), some (.inl x1), some (.inl x2), some (.inl z3_34), none, some (.inl x3), some (.inl x6)] [] σ1 Q
      rw [X11_parts_B34] at hT
      have hJ79_11_23_34 : ∀ y3 y6, X11_parts_J79 rec34 y3 y6 = some res → KJ E mX11_parts rmX11_parts 79 [some (.inr 120), some (.inl x1), some (.inl x2), some (.inl y3), none, some (.inl x3), some (.inl y6)] [] σ1 Q := by
        intro y3 y6 hT
        unfold X11_parts_J79 at hT
        refine kj_iinc dX11_parts_79 (pc' := 82) rfl rfl (congrArg (_ + ·) kc_1) (Nat.le_of_ble_eq_true rfl) (ls' := [some (.inr 120), some (.inl x1), some (.inl x2), some (.inl y3), none, some (.inl x3), some (.inl (y6 + 1))]) rfl ?_
        refine kj_goto dX11_parts_82 (pc' := 34) rfl ?_
        exact ih34 (y3, y6 + 1) hT
      refine kj_iload dX11_parts_34 (pc' := 36) rfl rfl ?_
      refine kj_aload_n dX11_parts_36 (pc' := 37) rfl rfl rfl ?_
      refine kj_getI f_RX11_141 rfl (Nat.lt_of_lt_of_le (Nat.le_of_ble_eq_true rfl : 120 < 140) hE.1) dX11_parts_37 (pc' := 40) rfl ?_
      refine kj_icmp_ge dX11_parts_40 (tgt := 85) rfl (pc' := 43) rfl (fun c6 => ?_) (fun c6 => ?_)
      · rw [if_pos c6] at hT
        refine kj_keep [true, true, true, true, false, true] (ls' := [some (.inr 120), some (.inl x1), some (.inl x2), some (.inl z3_34), none, some (.inl x3)]) rfl ?_
        exact hX34 z3_34 hT
      · rw [if_neg c6] at hT
        refine kj_aload_n dX11_parts_43 (pc' := 44) rfl rfl rfl ?_
        refine kj_getR f_RX11_30 rfl (Nat.lt_of_lt_of_le (Nat.le_of_ble_eq_true rfl : 120 < 140) hE.1) (hE.2 _ _) (q := 126) rfl dX11_parts_44 (pc' := 47) rfl ?_
        refine kj_iload dX11_parts_47 (pc' := 49) rfl rfl ?_
        obtain ⟨hi7, hT⟩ := ckA_some hT
        refine kj_iald rfl (Nat.lt_of_lt_of_le (Nat.le_of_ble_eq_true rfl : 126 < 140) hE.1) hi7 rfl dX11_parts_49 (pc' := 50) rfl ?_
        refine kj_iload_n dX11_parts_50 (pc' := 51) rfl rfl rfl ?_
        refine kj_iand dX11_parts_51 (pc' := 52) rfl ?_
        refine kj_if_eq dX11_parts_52 (tgt := 79) rfl (pc' := 55) rfl (fun c8 => ?_) (fun c8 => ?_)
        · rw [if_pos c8] at hT
          exact hJ79_11_23_34 z3_34 x6 hT
        · rw [if_neg c8] at hT
          refine kj_aload_n dX11_parts_55 (pc' := 56) rfl rfl rfl ?_
          refine kj_aload_n dX11_parts_56 (pc' := 57) rfl rfl rfl ?_
          refine kj_getR f_RX11_30 rfl (Nat.lt_of_lt_of_le (Nat.le_of_ble_eq_true rfl : 120 < 140) hE.1) (hE.2 _ _) (q := 126) rfl dX11_parts_57 (pc' := 60) rfl ?_
          refine kj_iload dX11_parts_60 (pc' := 62) rfl rfl ?_
          obtain ⟨hi9, hT⟩ := ckA_some hT
          refine kj_iald rfl (Nat.lt_of_lt_of_le (Nat.le_of_ble_eq_true rfl : 126 < 140) hE.1) hi9 rfl dX11_parts_62 (pc' := 63) rfl ?_
          obtain ⟨t10, ht10, hT⟩ := bind_some' hT
          refine kcVz (as := [.inl (σ1 126 x6.toNatClampNeg)]) (st := []) l_RX11_138 (m_X11_isBased hE σ1 (σ1 126 x6.toNatClampNeg) ht10) rfl (Nat.lt_of_lt_of_le (Nat.le_of_ble_eq_true rfl : 120 < 140) hE.1) rfl ⟨⟨rfl, rfl⟩, Nat.le_of_ble_eq_true rfl, Nat.le_of_ble_eq_true rfl⟩ (Nat.le_of_ble_eq_true rfl) dX11_parts_63 (pc' := 66) rfl (fun z11 => ?_)
          refine kj_if_eq dX11_parts_66 (tgt := 79) rfl (pc' := 69) rfl (fun c12 => ?_) (fun c12 => ?_)
          · rw [if_pos c12] at hT
            exact hJ79_11_23_34 z3_34 x6 hT
          · rw [if_neg c12] at hT
            refine kj_iload_n dX11_parts_69 (pc' := 70) rfl rfl rfl ?_
            refine kj_aload_n dX11_parts_70 (pc' := 71) rfl rfl rfl ?_
            refine kj_getR f_RX11_30 rfl (Nat.lt_of_lt_of_le (Nat.le_of_ble_eq_true rfl : 120 < 140) hE.1) (hE.2 _ _) (q := 126) rfl dX11_parts_71 (pc' := 74) rfl ?_
            refine kj_iload dX11_parts_74 (pc' := 76) rfl rfl ?_
            obtain ⟨hi13, hT⟩ := ckA_some hT
            refine kj_iald rfl (Nat.lt_of_lt_of_le (Nat.le_of_ble_eq_true rfl : 126 < 140) hE.1) hi13 rfl dX11_parts_76 (pc' := 77) rfl ?_
            refine kj_ior dX11_parts_77 (pc' := 78) rfl ?_
            obtain ⟨t14, et14, hT⟩ := lett_i hT
            rw [← et14]
            refine kj_istore_n dX11_parts_78 (pc' := 79) rfl rfl (Nat.le_of_ble_eq_true rfl) (ls' := [some (.inr 120), some (.inl x1), some (.inl x2), some (.inl t14), none, some (.inl x3), some (.inl x6)]) rfl ?_
            exact hJ79_11_23_34 t14 x6 hT
def X11_shattered (σ : Wd) (x1 : Int32) : Option (Int32 × Wd) :=
  (if (X11_isSet σ x1) = 0 then some ((-1), σ) else ((X11_lays σ).bind fun σ3 => ((X11_isShattered σ3 x1).bind fun (t4, σ5) => (if t4 = 0 then some (0, σ5) else some (1, σ5)))))
set_option maxRecDepth 100000 in
set_option maxHeartbeats 4000000 in
theorem m_X11_shattered {E : JE} (hE : kOk 140 E) (σ : Wd) (x1 : Int32) {res : Int32 × Wd} (hT : X11_shattered σ x1 = some res) : kMt E yX11_shattered mX11_shattered rmX11_shattered [.inr 120, .inl x1] σ (kQi res.1 res.2) := by
  refine kMt_of (by decide +kernel) rfl (Nat.le_of_ble_eq_true rfl) ?_
  generalize hQ : (kQi res.1 res.2) = Q
  show KJ E mX11_shattered rmX11_shattered 0 [some (.inr 120), some (.inl x1)] [] σ Q
  unfold X11_shattered at hT
  refine kj_aload_n dX11_shattered_0 (pc' := 1) rfl rfl rfl ?_
  refine kj_iload_n dX11_shattered_1 (pc' := 2) rfl rfl rfl ?_
  refine kcVz (as := [.inl x1]) (st := []) l_RX11_95 (m_X11_isSet hE σ x1 rfl) rfl (Nat.lt_of_lt_of_le (Nat.le_of_ble_eq_true rfl : 120 < 140) hE.1) rfl ⟨⟨rfl, rfl⟩, Nat.le_of_ble_eq_true rfl, Nat.le_of_ble_eq_true rfl⟩ (Nat.le_of_ble_eq_true rfl) dX11_shattered_2 (pc' := 5) rfl (fun z1 => ?_)
  refine kj_if_ne dX11_shattered_5 (tgt := 10) rfl (pc' := 8) rfl (fun c2 => ?_) (fun c2 => ?_)
  · rw [if_neg c2] at hT
    refine kj_aload_n dX11_shattered_10 (pc' := 11) rfl rfl rfl ?_
    obtain ⟨σ3, hσ3, hT⟩ := bind_some' hT
    refine kcVv (as := []) (st := []) l_RX11_135 (m_X11_lays hE σ hσ3) rfl (Nat.lt_of_lt_of_le (Nat.le_of_ble_eq_true rfl : 120 < 140) hE.1) rfl ⟨⟨rfl, rfl⟩, Nat.le_of_ble_eq_true rfl, Nat.le_of_ble_eq_true rfl⟩ (Nat.le_of_ble_eq_true rfl) dX11_shattered_11 (pc' := 14) rfl ?_
    refine kj_aload_n dX11_shattered_14 (pc' := 15) rfl rfl rfl ?_
    refine kj_iload_n dX11_shattered_15 (pc' := 16) rfl rfl rfl ?_
    obtain ⟨t4, ht4, hT⟩ := bind_some' hT
    obtain ⟨t4, σ5⟩ := t4
    dsimp only at hT
    refine kcVz (as := [.inl x1]) (st := []) l_RX11_206 (m_X11_isShattered hE σ3 x1 ht4) rfl (Nat.lt_of_lt_of_le (Nat.le_of_ble_eq_true rfl : 120 < 140) hE.1) rfl ⟨⟨rfl, rfl⟩, Nat.le_of_ble_eq_true rfl, Nat.le_of_ble_eq_true rfl⟩ (Nat.le_of_ble_eq_true rfl) dX11_shattered_16 (pc' := 19) rfl (fun z6 => ?_)
    refine kj_if_eq dX11_shattered_19 (tgt := 26) rfl (pc' := 22) rfl (fun c7 => ?_) (fun c7 => ?_)
    · rw [if_pos c7] at hT
      refine kj_iconst dX11_shattered_26 (pc' := 27) rfl kc_0 ?_
      have hR := Option.some.inj hT
      subst hR
      exact kj_iret rfl dX11_shattered_27 (by subst hQ; exact ⟨rfl, rfl⟩)
    · rw [if_neg c7] at hT
      refine kj_iconst dX11_shattered_22 (pc' := 23) rfl kc_1 ?_
      refine kj_goto dX11_shattered_23 (pc' := 27) rfl ?_
      have hR := Option.some.inj hT
      subst hR
      exact kj_iret rfl dX11_shattered_27 (by subst hQ; exact ⟨rfl, rfl⟩)
  · rw [if_pos c2] at hT
    refine kj_iconst dX11_shattered_8 (pc' := 9) rfl kc_m1 ?_
    have hR := Option.some.inj hT
    subst hR
    exact kj_iret rfl dX11_shattered_9 (by subst hQ; exact ⟨rfl, rfl⟩)
def X11_fewest_T136 (x1 : Int32) (σ : Wd) : Option (Int32 × Wd) :=
  (ckA x1 128 <| (if (σ 135 x1.toNatClampNeg) = 128 then some ((-2), σ) else (ckA x1 128 <| some (σ 135 x1.toNatClampNeg, σ))))
def X11_fewest_T133 (rec44 : Int32 × Wd → Option (Int32 × Wd)) (x2 : Int32) (σ : Wd) : Option (Int32 × Wd) :=
  rec44 (x2, σ)
def X11_fewest_T127 (rec52 : Int32 × Int32 × Wd → Option (Int32 × Wd)) (x3 : Int32) (x2 : Int32) (σ : Wd) : Option (Int32 × Wd) :=
  rec52 (x2, x3 + 1, σ)
def X11_fewest_J121 (rec62 : Int32 × Int32 × Wd → Option (Int32 × Wd)) (y2 : Int32) (y4 : Int32) (ς : Wd) : Option (Int32 × Wd) :=
  rec62 (y2, y4 + 1, ς)
def X11_fewest_B62 (x3 : Int32) (kx62 : Int32 → Wd → Option (Int32 × Wd)) (rec62 : Int32 × Int32 × Wd → Option (Int32 × Wd)) : Int32 × Int32 × Wd → Option (Int32 × Wd)
  | (x2, x4, σ) => (if (X11_many σ) ≤ x4 then kx62 x2 σ else (ckA x3 128 <| ((X11_gen σ x4).bind fun t10 => (ckA (x3 ||| t10) 128 <| (if ((σ 135 x3.toNatClampNeg) + 1) < (σ 135 ((x3 ||| t10).toNatClampNeg)) then ((X11_gen σ x4).bind fun t13 => (ckA x3 128 <| (ckA (x3 ||| t13) 128 <| X11_fewest_J121 rec62 1 x4 (up σ 135 ((x3 ||| t13).toNatClampNeg) ((σ 135 x3.toNatClampNeg) + 1))))) else X11_fewest_J121 rec62 x2 x4 σ)))))
def X11_fewest_B52 (kx52 : Int32 → Wd → Option (Int32 × Wd)) (rec52 : Int32 × Int32 × Wd → Option (Int32 × Wd)) : Int32 × Int32 × Wd → Option (Int32 × Wd)
  | (x2, x3, σ) => (if 128 ≤ x3 then kx52 x2 σ else (lp (X11_fewest_B62 x3 (X11_fewest_T127 rec52 x3)) FU (x2, 0, σ)))
def X11_fewest_B44 (kx44 : Wd → Option (Int32 × Wd)) (rec44 : Int32 × Wd → Option (Int32 × Wd)) : Int32 × Wd → Option (Int32 × Wd)
  | (x2, σ) => (if x2 = 0 then kx44 σ else (lp (X11_fewest_B52 (X11_fewest_T133 rec44)) FU (0, 0, σ)))
def X11_fewest_T42 (x1 : Int32) (σ : Wd) : Option (Int32 × Wd) :=
  (lp (X11_fewest_B44 (X11_fewest_T136 x1)) FU (1, σ))
def X11_fewest_J36 (rec12 : Int32 × Wd → Option (Int32 × Wd)) (y2 : Int32) (ς : Wd) : Option (Int32 × Wd) :=
  rec12 (y2 + 1, ς)
def X11_fewest_B12 (kx12 : Wd → Option (Int32 × Wd)) (rec12 : Int32 × Wd → Option (Int32 × Wd)) : Int32 × Wd → Option (Int32 × Wd)
  | (x2, σ) => (if 128 ≤ x2 then kx12 σ else (if x2 = 0 then (ckA x2 128 <| X11_fewest_J36 rec12 x2 (up σ 135 x2.toNatClampNeg 0)) else (ckA x2 128 <| X11_fewest_J36 rec12 x2 (up σ 135 x2.toNatClampNeg 128))))
def X11_fewest (σ : Wd) (x1 : Int32) : Option (Int32 × Wd) :=
  (if (X11_isSet σ x1) = 0 then some ((-1), σ) else (lp (X11_fewest_B12 (X11_fewest_T42 x1)) FU (0, σ)))
set_option maxRecDepth 100000 in
set_option maxHeartbeats 4000000 in
theorem m_X11_fewest {E : JE} (hE : kOk 140 E) (σ : Wd) (x1 : Int32) {res : Int32 × Wd} (hT : X11_fewest σ x1 = some res) : kMt E yX11_fewest mX11_fewest rmX11_fewest [.inr 120, .inl x1] σ (kQi res.1 res.2) := by
  refine kMt_of (by decide +kernel) rfl (Nat.le_of_ble_eq_true rfl) ?_
  generalize hQ : (kQi res.1 res.2) = Q
  show KJ E mX11_fewest rmX11_fewest 0 [some (.inr 120), some (.inl x1)] [] σ Q
  unfold X11_fewest at hT
  refine kj_aload_n dX11_fewest_0 (pc' := 1) rfl rfl rfl ?_
  refine kj_iload_n dX11_fewest_1 (pc' := 2) rfl rfl rfl ?_
  refine kcVz (as := [.inl x1]) (st := []) l_RX11_95 (m_X11_isSet hE σ x1 rfl) rfl (Nat.lt_of_lt_of_le (Nat.le_of_ble_eq_true rfl : 120 < 140) hE.1) rfl ⟨⟨rfl, rfl⟩, Nat.le_of_ble_eq_true rfl, Nat.le_of_ble_eq_true rfl⟩ (Nat.le_of_ble_eq_true rfl) dX11_fewest_2 (pc' := 5) rfl (fun z1 => ?_)
  refine kj_if_ne dX11_fewest_5 (tgt := 10) rfl (pc' := 8) rfl (fun c2 => ?_) (fun c2 => ?_)
  · rw [if_neg c2] at hT
    refine kj_iconst dX11_fewest_10 (pc' := 11) rfl kc_0 ?_
    refine kj_istore_n dX11_fewest_11 (pc' := 12) rfl rfl (Nat.le_of_ble_eq_true rfl) (ls' := [some (.inr 120), some (.inl x1), some (.inl 0)]) rfl ?_
    have hX12 : ∀ σ, X11_fewest_T42 x1 σ = some res → KJ E mX11_fewest rmX11_fewest 42 [some (.inr 120), some (.inl x1)] [] σ Q := by
      intro σ hT
      unfold X11_fewest_T42 at hT
      refine kj_iconst dX11_fewest_42 (pc' := 43) rfl kc_1 ?_
      refine kj_istore_n dX11_fewest_43 (pc' := 44) rfl rfl (Nat.le_of_ble_eq_true rfl) (ls' := [some (.inr 120), some (.inl x1), some (.inl 1)]) rfl ?_
      have hX44 : ∀ σ, X11_fewest_T136 x1 σ = some res → KJ E mX11_fewest rmX11_fewest 136 [some (.inr 120), some (.inl x1)] [] σ Q := by
        intro σ hT
        unfold X11_fewest_T136 at hT
        refine kj_aload_n dX11_fewest_136 (pc' := 137) rfl rfl rfl ?_
        refine kj_getR f_RX11_57 rfl (Nat.lt_of_lt_of_le (Nat.le_of_ble_eq_true rfl : 120 < 140) hE.1) (hE.2 _ _) (q := 135) rfl dX11_fewest_137 (pc' := 140) rfl ?_
        refine kj_iload_n dX11_fewest_140 (pc' := 141) rfl rfl rfl ?_
        obtain ⟨hi3, hT⟩ := ckA_some hT
        refine kj_iald rfl (Nat.lt_of_lt_of_le (Nat.le_of_ble_eq_true rfl : 135 < 140) hE.1) hi3 rfl dX11_fewest_141 (pc' := 142) rfl ?_
        refine kj_sipush dX11_fewest_142 (pc' := 145) rfl ks_128 ?_
        refine kj_icmp_ne dX11_fewest_145 (tgt := 153) rfl (pc' := 148) rfl (fun c4 => ?_) (fun c4 => ?_)
        · rw [if_neg c4] at hT
          refine kj_aload_n dX11_fewest_153 (pc' := 154) rfl rfl rfl ?_
          refine kj_getR f_RX11_57 rfl (Nat.lt_of_lt_of_le (Nat.le_of_ble_eq_true rfl : 120 < 140) hE.1) (hE.2 _ _) (q := 135) rfl dX11_fewest_154 (pc' := 157) rfl ?_
          refine kj_iload_n dX11_fewest_157 (pc' := 158) rfl rfl rfl ?_
          obtain ⟨hi5, hT⟩ := ckA_some hT
          refine kj_iald rfl (Nat.lt_of_lt_of_le (Nat.le_of_ble_eq_true rfl : 135 < 140) hE.1) hi5 rfl dX11_fewest_158 (pc' := 159) rfl ?_
          have hR := Option.some.inj hT
          subst hR
          exact kj_iret rfl dX11_fewest_159 (by subst hQ; exact ⟨rfl, rfl⟩)
        · rw [if_pos c4] at hT
          refine kj_bipush dX11_fewest_148 (pc' := 150) rfl kb_m2 ?_
          refine kj_goto dX11_fewest_150 (pc' := 159) rfl ?_
          have hR := Option.some.inj hT
          subst hR
          exact kj_iret rfl dX11_fewest_159 (by subst hQ; exact ⟨rfl, rfl⟩)
      refine lp_ind (P := fun s => KJ E mX11_fewest rmX11_fewest 44 [some (.inr 120), some (.inl x1), some (.inl s.1)] [] s.2 Q) (fun rec44 s ih44 hT => ?_) FU (1, σ) hT
      obtain ⟨x2, σ⟩ := s
      show KJ E mX11_fewest rmX11_fewest 44 [some (.inr 120), some (.inl x1), some (.inl x2)] [] σ Q
      rw [X11_fewest_B44] at hT
      refine kj_iload_n dX11_fewest_44 (pc' := 45) rfl rfl rfl ?_
      refine kj_if_eq dX11_fewest_45 (tgt := 136) rfl (pc' := 48) rfl (fun c6 => ?_) (fun c6 => ?_)
      · rw [if_pos c6] at hT
        refine kj_keep [true, true] (ls' := [some (.inr 120), some (.inl x1)]) rfl ?_
        exact hX44 σ hT
      · rw [if_neg c6] at hT
        refine kj_iconst dX11_fewest_48 (pc' := 49) rfl kc_0 ?_
        refine kj_istore_n dX11_fewest_49 (pc' := 50) rfl rfl (Nat.le_of_ble_eq_true rfl) (ls' := [some (.inr 120), some (.inl x1), some (.inl 0)]) rfl ?_
        refine kj_iconst dX11_fewest_50 (pc' := 51) rfl kc_0 ?_
        refine kj_istore_n dX11_fewest_51 (pc' := 52) rfl rfl (Nat.le_of_ble_eq_true rfl) (ls' := [some (.inr 120), some (.inl x1), some (.inl 0), some (.inl 0)]) rfl ?_
        have hX52 : ∀ x2 σ, X11_fewest_T133 rec44 x2 σ = some res → KJ E mX11_fewest rmX11_fewest 133 [some (.inr 120), some (.inl x1), some (.inl x2)] [] σ Q := by
          intro x2 σ hT
          unfold X11_fewest_T133 at hT
          refine kj_goto dX11_fewest_133 (pc' := 44) rfl ?_
          exact ih44 (x2, σ) hT
        refine lp_ind (P := fun s => KJ E mX11_fewest rmX11_fewest 52 [some (.inr 120), some (.inl x1), some (.inl s.1), some (.inl s.2.1)] [] s.2.2 Q) (fun rec52 s ih52 hT => ?_) FU (0, 0, σ) hT
        obtain ⟨x2, x3, σ⟩ := s
        show KJ E mX11_fewest rmX11_fewest 52 [some (.inr 120), some (.inl x1), some (.inl x2), some (.inl x3)] [] σ Q
        rw [X11_fewest_B52] at hT
        refine kj_iload_n dX11_fewest_52 (pc' := 53) rfl rfl rfl ?_
        refine kj_sipush dX11_fewest_53 (pc' := 56) rfl ks_128 ?_
        refine kj_icmp_ge dX11_fewest_56 (tgt := 133) rfl (pc' := 59) rfl (fun c7 => ?_) (fun c7 => ?_)
        · rw [if_pos c7] at hT
          refine kj_keep [true, true, true] (ls' := [some (.inr 120), some (.inl x1), some (.inl x2)]) rfl ?_
          exact hX52 x2 σ hT
        · rw [if_neg c7] at hT
          refine kj_iconst dX11_fewest_59 (pc' := 60) rfl kc_0 ?_
          refine kj_istore dX11_fewest_60 (pc' := 62) rfl (Nat.le_of_ble_eq_true rfl) (ls' := [some (.inr 120), some (.inl x1), some (.inl x2), some (.inl x3), some (.inl 0)]) rfl ?_
          have hX62 : ∀ x2 σ, X11_fewest_T127 rec52 x3 x2 σ = some res → KJ E mX11_fewest rmX11_fewest 127 [some (.inr 120), some (.inl x1), some (.inl x2), some (.inl x3)] [] σ Q := by
            intro x2 σ hT
            unfold X11_fewest_T127 at hT
            refine kj_iinc dX11_fewest_127 (pc' := 130) rfl rfl (congrArg (_ + ·) kc_1) (Nat.le_of_ble_eq_true rfl) (ls' := [some (.inr 120), some (.inl x1), some (.inl x2), some (.inl (x3 + 1))]) rfl ?_
            refine kj_goto dX11_fewest_130 (pc' := 52) rfl ?_
            exact ih52 (x2, x3 + 1, σ) hT
          refine lp_ind (P := fun s => KJ E mX11_fewest rmX11_fewest 62 [some (.inr 120), some (.inl x1), some (.inl s.1), some (.inl x3), some (.inl s.2.1)] [] s.2.2 Q) (fun rec62 s ih62 hT => ?_) FU (x2, 0, σ) hT
          obtain ⟨x2, x4, σ⟩ := s
          show KJ E mX11_fewest rmX11_fewest 62 [some (.inr 120), some (.inl x1), some (.inl x2), some (.inl x3), some (.inl x4)] [] σ Q
          rw [X11_fewest_B62] at hT
          have hJ121_44_52_62 : ∀ y2 y4 ς, X11_fewest_J121 rec62 y2 y4 ς = some res → KJ E mX11_fewest rmX11_fewest 121 [some (.inr 120), some (.inl x1), some (.inl y2), some (.inl x3), some (.inl y4)] [] ς Q := by
            intro y2 y4 ς hT
            unfold X11_fewest_J121 at hT
            refine kj_iinc dX11_fewest_121 (pc' := 124) rfl rfl (congrArg (_ + ·) kc_1) (Nat.le_of_ble_eq_true rfl) (ls' := [some (.inr 120), some (.inl x1), some (.inl y2), some (.inl x3), some (.inl (y4 + 1))]) rfl ?_
            refine kj_goto dX11_fewest_124 (pc' := 62) rfl ?_
            exact ih62 (y2, y4 + 1, ς) hT
          refine kj_iload dX11_fewest_62 (pc' := 64) rfl rfl ?_
          refine kj_aload_n dX11_fewest_64 (pc' := 65) rfl rfl rfl ?_
          refine kcVi (as := []) (st := [.inl x4]) l_RX11_80 (m_X11_many hE σ rfl) rfl (Nat.lt_of_lt_of_le (Nat.le_of_ble_eq_true rfl : 120 < 140) hE.1) rfl ⟨⟨rfl, rfl⟩, Nat.le_of_ble_eq_true rfl, Nat.le_of_ble_eq_true rfl⟩ (Nat.le_of_ble_eq_true rfl) dX11_fewest_65 (pc' := 68) rfl ?_
          refine kj_icmp_ge dX11_fewest_68 (tgt := 127) rfl (pc' := 71) rfl (fun c8 => ?_) (fun c8 => ?_)
          · rw [if_pos c8] at hT
            refine kj_keep [true, true, true, true] (ls' := [some (.inr 120), some (.inl x1), some (.inl x2), some (.inl x3)]) rfl ?_
            exact hX62 x2 σ hT
          · rw [if_neg c8] at hT
            refine kj_aload_n dX11_fewest_71 (pc' := 72) rfl rfl rfl ?_
            refine kj_getR f_RX11_57 rfl (Nat.lt_of_lt_of_le (Nat.le_of_ble_eq_true rfl : 120 < 140) hE.1) (hE.2 _ _) (q := 135) rfl dX11_fewest_72 (pc' := 75) rfl ?_
            refine kj_iload_n dX11_fewest_75 (pc' := 76) rfl rfl rfl ?_
            obtain ⟨hi9, hT⟩ := ckA_some hT
            refine kj_iald rfl (Nat.lt_of_lt_of_le (Nat.le_of_ble_eq_true rfl : 135 < 140) hE.1) hi9 rfl dX11_fewest_76 (pc' := 77) rfl ?_
            refine kj_iconst dX11_fewest_77 (pc' := 78) rfl kc_1 ?_
            refine kj_iadd dX11_fewest_78 (pc' := 79) rfl ?_
            refine kj_aload_n dX11_fewest_79 (pc' := 80) rfl rfl rfl ?_
            refine kj_getR f_RX11_57 rfl (Nat.lt_of_lt_of_le (Nat.le_of_ble_eq_true rfl : 120 < 140) hE.1) (hE.2 _ _) (q := 135) rfl dX11_fewest_80 (pc' := 83) rfl ?_
            refine kj_iload_n dX11_fewest_83 (pc' := 84) rfl rfl rfl ?_
            refine kj_aload_n dX11_fewest_84 (pc' := 85) rfl rfl rfl ?_
            refine kj_iload dX11_fewest_85 (pc' := 87) rfl rfl ?_
            obtain ⟨t10, ht10, hT⟩ := bind_some' hT
            refine kcVi (as := [.inl x4]) (st := [.inl x3, .inr 135, .inl ((σ 135 x3.toNatClampNeg) + 1)]) l_RX11_112 (m_X11_gen hE σ x4 ht10) rfl (Nat.lt_of_lt_of_le (Nat.le_of_ble_eq_true rfl : 120 < 140) hE.1) rfl ⟨⟨rfl, rfl⟩, Nat.le_of_ble_eq_true rfl, Nat.le_of_ble_eq_true rfl⟩ (Nat.le_of_ble_eq_true rfl) dX11_fewest_87 (pc' := 90) rfl ?_
            refine kj_ior dX11_fewest_90 (pc' := 91) rfl ?_
            obtain ⟨hi11, hT⟩ := ckA_some hT
            refine kj_iald rfl (Nat.lt_of_lt_of_le (Nat.le_of_ble_eq_true rfl : 135 < 140) hE.1) hi11 rfl dX11_fewest_91 (pc' := 92) rfl ?_
            refine kj_icmp_lt dX11_fewest_92 (tgt := 98) rfl (pc' := 95) rfl (fun c12 => ?_) (fun c12 => ?_)
            · rw [if_pos c12] at hT
              refine kj_aload_n dX11_fewest_98 (pc' := 99) rfl rfl rfl ?_
              refine kj_getR f_RX11_57 rfl (Nat.lt_of_lt_of_le (Nat.le_of_ble_eq_true rfl : 120 < 140) hE.1) (hE.2 _ _) (q := 135) rfl dX11_fewest_99 (pc' := 102) rfl ?_
              refine kj_iload_n dX11_fewest_102 (pc' := 103) rfl rfl rfl ?_
              refine kj_aload_n dX11_fewest_103 (pc' := 104) rfl rfl rfl ?_
              refine kj_iload dX11_fewest_104 (pc' := 106) rfl rfl ?_
              obtain ⟨t13, ht13, hT⟩ := bind_some' hT
              refine kcVi (as := [.inl x4]) (st := [.inl x3, .inr 135]) l_RX11_112 (m_X11_gen hE σ x4 ht13) rfl (Nat.lt_of_lt_of_le (Nat.le_of_ble_eq_true rfl : 120 < 140) hE.1) rfl ⟨⟨rfl, rfl⟩, Nat.le_of_ble_eq_true rfl, Nat.le_of_ble_eq_true rfl⟩ (Nat.le_of_ble_eq_true rfl) dX11_fewest_106 (pc' := 109) rfl ?_
              refine kj_ior dX11_fewest_109 (pc' := 110) rfl ?_
              refine kj_aload_n dX11_fewest_110 (pc' := 111) rfl rfl rfl ?_
              refine kj_getR f_RX11_57 rfl (Nat.lt_of_lt_of_le (Nat.le_of_ble_eq_true rfl : 120 < 140) hE.1) (hE.2 _ _) (q := 135) rfl dX11_fewest_111 (pc' := 114) rfl ?_
              refine kj_iload_n dX11_fewest_114 (pc' := 115) rfl rfl rfl ?_
              obtain ⟨hi14, hT⟩ := ckA_some hT
              refine kj_iald rfl (Nat.lt_of_lt_of_le (Nat.le_of_ble_eq_true rfl : 135 < 140) hE.1) hi14 rfl dX11_fewest_115 (pc' := 116) rfl ?_
              refine kj_iconst dX11_fewest_116 (pc' := 117) rfl kc_1 ?_
              refine kj_iadd dX11_fewest_117 (pc' := 118) rfl ?_
              obtain ⟨hi15, hT⟩ := ckA_some hT
              refine kj_iast rfl (Nat.lt_of_lt_of_le (Nat.le_of_ble_eq_true rfl : 135 < 140) hE.1) hi15 rfl dX11_fewest_118 (pc' := 119) rfl ?_
              refine kj_iconst dX11_fewest_119 (pc' := 120) rfl kc_1 ?_
              refine kj_istore_n dX11_fewest_120 (pc' := 121) rfl rfl (Nat.le_of_ble_eq_true rfl) (ls' := [some (.inr 120), some (.inl x1), some (.inl 1), some (.inl x3), some (.inl x4)]) rfl ?_
              exact hJ121_44_52_62 1 x4 (up σ 135 ((x3 ||| t13).toNatClampNeg) ((σ 135 x3.toNatClampNeg) + 1)) hT
            · rw [if_neg c12] at hT
              refine kj_goto dX11_fewest_95 (pc' := 121) rfl ?_
              exact hJ121_44_52_62 x2 x4 σ hT
    refine lp_ind (P := fun s => KJ E mX11_fewest rmX11_fewest 12 [some (.inr 120), some (.inl x1), some (.inl s.1)] [] s.2 Q) (fun rec12 s ih12 hT => ?_) FU (0, σ) hT
    obtain ⟨x2, σ⟩ := s
    show KJ E mX11_fewest rmX11_fewest 12 [some (.inr 120), some (.inl x1), some (.inl x2)] [] σ Q
    rw [X11_fewest_B12] at hT
    have hJ36_12 : ∀ y2 ς, X11_fewest_J36 rec12 y2 ς = some res → KJ E mX11_fewest rmX11_fewest 36 [some (.inr 120), some (.inl x1), some (.inl y2)] [] ς Q := by
      intro y2 ς hT
      unfold X11_fewest_J36 at hT
      refine kj_iinc dX11_fewest_36 (pc' := 39) rfl rfl (congrArg (_ + ·) kc_1) (Nat.le_of_ble_eq_true rfl) (ls' := [some (.inr 120), some (.inl x1), some (.inl (y2 + 1))]) rfl ?_
      refine kj_goto dX11_fewest_39 (pc' := 12) rfl ?_
      exact ih12 (y2 + 1, ς) hT
    refine kj_iload_n dX11_fewest_12 (pc' := 13) rfl rfl rfl ?_
    refine kj_sipush dX11_fewest_13 (pc' := 16) rfl ks_128 ?_
    refine kj_icmp_ge dX11_fewest_16 (tgt := 42) rfl (pc' := 19) rfl (fun c16 => ?_) (fun c16 => ?_)
    · rw [if_pos c16] at hT
      refine kj_keep [true, true] (ls' := [some (.inr 120), some (.inl x1)]) rfl ?_
      exact hX12 σ hT
    · rw [if_neg c16] at hT
      refine kj_aload_n dX11_fewest_19 (pc' := 20) rfl rfl rfl ?_
      refine kj_getR f_RX11_57 rfl (Nat.lt_of_lt_of_le (Nat.le_of_ble_eq_true rfl : 120 < 140) hE.1) (hE.2 _ _) (q := 135) rfl dX11_fewest_20 (pc' := 23) rfl ?_
      refine kj_iload_n dX11_fewest_23 (pc' := 24) rfl rfl rfl ?_
      refine kj_iload_n dX11_fewest_24 (pc' := 25) rfl rfl rfl ?_
      refine kj_if_ne dX11_fewest_25 (tgt := 32) rfl (pc' := 28) rfl (fun c17 => ?_) (fun c17 => ?_)
      · rw [if_neg c17] at hT
        refine kj_sipush dX11_fewest_32 (pc' := 35) rfl ks_128 ?_
        obtain ⟨hi18, hT⟩ := ckA_some hT
        refine kj_iast rfl (Nat.lt_of_lt_of_le (Nat.le_of_ble_eq_true rfl : 135 < 140) hE.1) hi18 rfl dX11_fewest_35 (pc' := 36) rfl ?_
        exact hJ36_12 x2 (up σ 135 x2.toNatClampNeg 128) hT
      · rw [if_pos c17] at hT
        refine kj_iconst dX11_fewest_28 (pc' := 29) rfl kc_0 ?_
        refine kj_goto dX11_fewest_29 (pc' := 35) rfl ?_
        obtain ⟨hi19, hT⟩ := ckA_some hT
        refine kj_iast rfl (Nat.lt_of_lt_of_le (Nat.le_of_ble_eq_true rfl : 135 < 140) hE.1) hi19 rfl dX11_fewest_35 (pc' := 36) rfl ?_
        exact hJ36_12 x2 (up σ 135 x2.toNatClampNeg 0) hT
  · rw [if_pos c2] at hT
    refine kj_iconst dX11_fewest_8 (pc' := 9) rfl kc_m1 ?_
    have hR := Option.some.inj hT
    subst hR
    exact kj_iret rfl dX11_fewest_9 (by subst hQ; exact ⟨rfl, rfl⟩)
def X11_withOne (σ : Wd) (x1 : Int32) : Option (Int32 × Wd) :=
  ((X11_spans σ 128 (-1) x1).bind fun σ1 => ((X11_manyOf σ1 128).bind fun t2 => some (t2, σ1)))
set_option maxRecDepth 100000 in
set_option maxHeartbeats 4000000 in
theorem m_X11_withOne {E : JE} (hE : kOk 140 E) (σ : Wd) (x1 : Int32) {res : Int32 × Wd} (hT : X11_withOne σ x1 = some res) : kMt E yX11_withOne mX11_withOne rmX11_withOne [.inr 120, .inl x1] σ (kQi res.1 res.2) := by
  refine kMt_of (by decide +kernel) rfl (Nat.le_of_ble_eq_true rfl) ?_
  generalize hQ : (kQi res.1 res.2) = Q
  show KJ E mX11_withOne rmX11_withOne 0 [some (.inr 120), some (.inl x1)] [] σ Q
  unfold X11_withOne at hT
  refine kj_aload_n dX11_withOne_0 (pc' := 1) rfl rfl rfl ?_
  refine kj_aload_n dX11_withOne_1 (pc' := 2) rfl rfl rfl ?_
  refine kj_getR f_RX11_36 rfl (Nat.lt_of_lt_of_le (Nat.le_of_ble_eq_true rfl : 120 < 140) hE.1) (hE.2 _ _) (q := 128) rfl dX11_withOne_2 (pc' := 5) rfl ?_
  refine kj_iconst dX11_withOne_5 (pc' := 6) rfl kc_m1 ?_
  refine kj_iload_n dX11_withOne_6 (pc' := 7) rfl rfl rfl ?_
  obtain ⟨σ1, hσ1, hT⟩ := bind_some' hT
  refine kcVv (as := [.inr 128, .inl (-1), .inl x1]) (st := []) l_RX11_153 (m_X11_spans hE rfl (Nat.lt_of_lt_of_le (Nat.le_of_ble_eq_true rfl : 128 < 140) hE.1) σ (-1) x1 hσ1) rfl (Nat.lt_of_lt_of_le (Nat.le_of_ble_eq_true rfl : 120 < 140) hE.1) rfl ⟨⟨rfl, rfl⟩, Nat.le_of_ble_eq_true rfl, Nat.le_of_ble_eq_true rfl⟩ (Nat.le_of_ble_eq_true rfl) dX11_withOne_7 (pc' := 10) rfl ?_
  refine kj_aload_n dX11_withOne_10 (pc' := 11) rfl rfl rfl ?_
  refine kj_getR f_RX11_36 rfl (Nat.lt_of_lt_of_le (Nat.le_of_ble_eq_true rfl : 120 < 140) hE.1) (hE.2 _ _) (q := 128) rfl dX11_withOne_11 (pc' := 14) rfl ?_
  obtain ⟨t2, ht2, hT⟩ := bind_some' hT
  refine kcSi (as := [.inr 128]) (st := []) l_RX11_167 (m_X11_manyOf (Nat.zero_le _) rfl (Nat.lt_of_lt_of_le (Nat.le_of_ble_eq_true rfl : 128 < 140) hE.1) σ1 ht2) rfl ⟨⟨rfl, rfl⟩, Nat.le_of_ble_eq_true rfl, Nat.le_of_ble_eq_true rfl⟩ (Nat.le_of_ble_eq_true rfl) dX11_withOne_14 (pc' := 17) rfl ?_
  have hR := Option.some.inj hT
  subst hR
  exact kj_iret rfl dX11_withOne_17 (by subst hQ; exact ⟨rfl, rfl⟩)
def X11_withSet (σ : Wd) (x1 : Int32) : Option (Int32 × Wd) :=
  (if (X11_isSet σ x1) = 0 then some ((-1), σ) else (if x1 = 0 then some ((-1), σ) else ((X11_withOne σ x1).bind fun (t4, σ5) => some (t4, σ5))))
set_option maxRecDepth 100000 in
set_option maxHeartbeats 4000000 in
theorem m_X11_withSet {E : JE} (hE : kOk 140 E) (σ : Wd) (x1 : Int32) {res : Int32 × Wd} (hT : X11_withSet σ x1 = some res) : kMt E yX11_withSet mX11_withSet rmX11_withSet [.inr 120, .inl x1] σ (kQi res.1 res.2) := by
  refine kMt_of (by decide +kernel) rfl (Nat.le_of_ble_eq_true rfl) ?_
  generalize hQ : (kQi res.1 res.2) = Q
  show KJ E mX11_withSet rmX11_withSet 0 [some (.inr 120), some (.inl x1)] [] σ Q
  unfold X11_withSet at hT
  refine kj_aload_n dX11_withSet_0 (pc' := 1) rfl rfl rfl ?_
  refine kj_iload_n dX11_withSet_1 (pc' := 2) rfl rfl rfl ?_
  refine kcVz (as := [.inl x1]) (st := []) l_RX11_95 (m_X11_isSet hE σ x1 rfl) rfl (Nat.lt_of_lt_of_le (Nat.le_of_ble_eq_true rfl : 120 < 140) hE.1) rfl ⟨⟨rfl, rfl⟩, Nat.le_of_ble_eq_true rfl, Nat.le_of_ble_eq_true rfl⟩ (Nat.le_of_ble_eq_true rfl) dX11_withSet_2 (pc' := 5) rfl (fun z1 => ?_)
  refine kj_if_eq dX11_withSet_5 (tgt := 20) rfl (pc' := 8) rfl (fun c2 => ?_) (fun c2 => ?_)
  · rw [if_pos c2] at hT
    refine kj_iconst dX11_withSet_20 (pc' := 21) rfl kc_m1 ?_
    have hR := Option.some.inj hT
    subst hR
    exact kj_iret rfl dX11_withSet_21 (by subst hQ; exact ⟨rfl, rfl⟩)
  · rw [if_neg c2] at hT
    refine kj_iload_n dX11_withSet_8 (pc' := 9) rfl rfl rfl ?_
    refine kj_if_eq dX11_withSet_9 (tgt := 20) rfl (pc' := 12) rfl (fun c3 => ?_) (fun c3 => ?_)
    · rw [if_pos c3] at hT
      refine kj_iconst dX11_withSet_20 (pc' := 21) rfl kc_m1 ?_
      have hR := Option.some.inj hT
      subst hR
      exact kj_iret rfl dX11_withSet_21 (by subst hQ; exact ⟨rfl, rfl⟩)
    · rw [if_neg c3] at hT
      refine kj_aload_n dX11_withSet_12 (pc' := 13) rfl rfl rfl ?_
      refine kj_iload_n dX11_withSet_13 (pc' := 14) rfl rfl rfl ?_
      obtain ⟨t4, ht4, hT⟩ := bind_some' hT
      obtain ⟨t4, σ5⟩ := t4
      dsimp only at hT
      refine kcVi (as := [.inl x1]) (st := []) l_RX11_244 (m_X11_withOne hE σ x1 ht4) rfl (Nat.lt_of_lt_of_le (Nat.le_of_ble_eq_true rfl : 120 < 140) hE.1) rfl ⟨⟨rfl, rfl⟩, Nat.le_of_ble_eq_true rfl, Nat.le_of_ble_eq_true rfl⟩ (Nat.le_of_ble_eq_true rfl) dX11_withSet_14 (pc' := 17) rfl ?_
      refine kj_goto dX11_withSet_17 (pc' := 21) rfl ?_
      have hR := Option.some.inj hT
      subst hR
      exact kj_iret rfl dX11_withSet_21 (by subst hQ; exact ⟨rfl, rfl⟩)
def X11_withoutGenerator (σ : Wd) (x1 : Int32) : Option (Int32 × Wd) :=
  (if (X11_isGenerator σ x1) = 0 then some ((-1), σ) else ((X11_spans σ 128 x1 0).bind fun σ3 => ((X11_manyOf σ3 128).bind fun t4 => some (t4, σ3))))
set_option maxRecDepth 100000 in
set_option maxHeartbeats 4000000 in
theorem m_X11_withoutGenerator {E : JE} (hE : kOk 140 E) (σ : Wd) (x1 : Int32) {res : Int32 × Wd} (hT : X11_withoutGenerator σ x1 = some res) : kMt E yX11_withoutGenerator mX11_withoutGenerator rmX11_withoutGenerator [.inr 120, .inl x1] σ (kQi res.1 res.2) := by
  refine kMt_of (by decide +kernel) rfl (Nat.le_of_ble_eq_true rfl) ?_
  generalize hQ : (kQi res.1 res.2) = Q
  show KJ E mX11_withoutGenerator rmX11_withoutGenerator 0 [some (.inr 120), some (.inl x1)] [] σ Q
  unfold X11_withoutGenerator at hT
  refine kj_aload_n dX11_withoutGenerator_0 (pc' := 1) rfl rfl rfl ?_
  refine kj_iload_n dX11_withoutGenerator_1 (pc' := 2) rfl rfl rfl ?_
  refine kcVz (as := [.inl x1]) (st := []) l_RX11_105 (m_X11_isGenerator hE σ x1 rfl) rfl (Nat.lt_of_lt_of_le (Nat.le_of_ble_eq_true rfl : 120 < 140) hE.1) rfl ⟨⟨rfl, rfl⟩, Nat.le_of_ble_eq_true rfl, Nat.le_of_ble_eq_true rfl⟩ (Nat.le_of_ble_eq_true rfl) dX11_withoutGenerator_2 (pc' := 5) rfl (fun z1 => ?_)
  refine kj_if_ne dX11_withoutGenerator_5 (tgt := 10) rfl (pc' := 8) rfl (fun c2 => ?_) (fun c2 => ?_)
  · rw [if_neg c2] at hT
    refine kj_aload_n dX11_withoutGenerator_10 (pc' := 11) rfl rfl rfl ?_
    refine kj_aload_n dX11_withoutGenerator_11 (pc' := 12) rfl rfl rfl ?_
    refine kj_getR f_RX11_36 rfl (Nat.lt_of_lt_of_le (Nat.le_of_ble_eq_true rfl : 120 < 140) hE.1) (hE.2 _ _) (q := 128) rfl dX11_withoutGenerator_12 (pc' := 15) rfl ?_
    refine kj_iload_n dX11_withoutGenerator_15 (pc' := 16) rfl rfl rfl ?_
    refine kj_iconst dX11_withoutGenerator_16 (pc' := 17) rfl kc_0 ?_
    obtain ⟨σ3, hσ3, hT⟩ := bind_some' hT
    refine kcVv (as := [.inr 128, .inl x1, .inl 0]) (st := []) l_RX11_153 (m_X11_spans hE rfl (Nat.lt_of_lt_of_le (Nat.le_of_ble_eq_true rfl : 128 < 140) hE.1) σ x1 0 hσ3) rfl (Nat.lt_of_lt_of_le (Nat.le_of_ble_eq_true rfl : 120 < 140) hE.1) rfl ⟨⟨rfl, rfl⟩, Nat.le_of_ble_eq_true rfl, Nat.le_of_ble_eq_true rfl⟩ (Nat.le_of_ble_eq_true rfl) dX11_withoutGenerator_17 (pc' := 20) rfl ?_
    refine kj_aload_n dX11_withoutGenerator_20 (pc' := 21) rfl rfl rfl ?_
    refine kj_getR f_RX11_36 rfl (Nat.lt_of_lt_of_le (Nat.le_of_ble_eq_true rfl : 120 < 140) hE.1) (hE.2 _ _) (q := 128) rfl dX11_withoutGenerator_21 (pc' := 24) rfl ?_
    obtain ⟨t4, ht4, hT⟩ := bind_some' hT
    refine kcSi (as := [.inr 128]) (st := []) l_RX11_167 (m_X11_manyOf (Nat.zero_le _) rfl (Nat.lt_of_lt_of_le (Nat.le_of_ble_eq_true rfl : 128 < 140) hE.1) σ3 ht4) rfl ⟨⟨rfl, rfl⟩, Nat.le_of_ble_eq_true rfl, Nat.le_of_ble_eq_true rfl⟩ (Nat.le_of_ble_eq_true rfl) dX11_withoutGenerator_24 (pc' := 27) rfl ?_
    have hR := Option.some.inj hT
    subst hR
    exact kj_iret rfl dX11_withoutGenerator_27 (by subst hQ; exact ⟨rfl, rfl⟩)
  · rw [if_pos c2] at hT
    refine kj_iconst dX11_withoutGenerator_8 (pc' := 9) rfl kc_m1 ?_
    have hR := Option.some.inj hT
    subst hR
    exact kj_iret rfl dX11_withoutGenerator_9 (by subst hQ; exact ⟨rfl, rfl⟩)
def X11_gentlest_T82 (rec13 : Int32 × Int32 × Int32 × Wd → Option (Int32 × Wd)) (x3 : Int32) (x1 : Int32) (x2 : Int32) (σ : Wd) : Option (Int32 × Wd) :=
  rec13 (x1, x2, x3 + 1, σ)
def X11_gentlest_J76 (rec22 : Int32 × Int32 × Int32 × Wd → Option (Int32 × Wd)) (y1 : Int32) (y2 : Int32) (y4 : Int32) (ς : Wd) : Option (Int32 × Wd) :=
  rec22 (y1, y2, y4 + 1, ς)
def X11_gentlest_B22 (x3 : Int32) (kx22 : Int32 → Int32 → Wd → Option (Int32 × Wd)) (rec22 : Int32 × Int32 × Int32 × Wd → Option (Int32 × Wd)) : Int32 × Int32 × Int32 × Wd → Option (Int32 × Wd)
  | (x1, x2, x4, σ) => (if (X11_allPoints σ) < x4 then kx22 x1 x2 σ else ((X11_ones x4).bind fun t4 => (if t4 = x3 then (ckA x4 128 <| (if (σ 125 x4.toNatClampNeg) = 0 then ((X11_withOne σ x4).bind fun (t8, σ9) => (if t8 < x2 then X11_gentlest_J76 rec22 x4 t8 x4 σ9 else X11_gentlest_J76 rec22 x1 x2 x4 σ9)) else X11_gentlest_J76 rec22 x1 x2 x4 σ)) else X11_gentlest_J76 rec22 x1 x2 x4 σ)))
def X11_gentlest_B13 (rec13 : Int32 × Int32 × Int32 × Wd → Option (Int32 × Wd)) : Int32 × Int32 × Int32 × Wd → Option (Int32 × Wd)
  | (x1, x2, x3, σ) => (if 7 < x3 then some (x1, σ) else (lp (X11_gentlest_B22 x3 (X11_gentlest_T82 rec13 x3)) FU (x1, x2, 1, σ)))
def X11_gentlest (σ : Wd) : Option (Int32 × Wd) :=
  ((X11_lays σ).bind fun σ1 => (lp (X11_gentlest_B13) FU ((-2), 129, 1, σ1)))
set_option maxRecDepth 100000 in
set_option maxHeartbeats 4000000 in
theorem m_X11_gentlest {E : JE} (hE : kOk 140 E) (σ : Wd) {res : Int32 × Wd} (hT : X11_gentlest σ = some res) : kMt E yX11_gentlest mX11_gentlest rmX11_gentlest [.inr 120] σ (kQi res.1 res.2) := by
  refine kMt_of (by decide +kernel) rfl (Nat.le_of_ble_eq_true rfl) ?_
  generalize hQ : (kQi res.1 res.2) = Q
  show KJ E mX11_gentlest rmX11_gentlest 0 [some (.inr 120)] [] σ Q
  unfold X11_gentlest at hT
  refine kj_aload_n dX11_gentlest_0 (pc' := 1) rfl rfl rfl ?_
  obtain ⟨σ1, hσ1, hT⟩ := bind_some' hT
  refine kcVv (as := []) (st := []) l_RX11_135 (m_X11_lays hE σ hσ1) rfl (Nat.lt_of_lt_of_le (Nat.le_of_ble_eq_true rfl : 120 < 140) hE.1) rfl ⟨⟨rfl, rfl⟩, Nat.le_of_ble_eq_true rfl, Nat.le_of_ble_eq_true rfl⟩ (Nat.le_of_ble_eq_true rfl) dX11_gentlest_1 (pc' := 4) rfl ?_
  refine kj_bipush dX11_gentlest_4 (pc' := 6) rfl kb_m2 ?_
  refine kj_istore_n dX11_gentlest_6 (pc' := 7) rfl rfl (Nat.le_of_ble_eq_true rfl) (ls' := [some (.inr 120), some (.inl (-2))]) rfl ?_
  refine kj_sipush dX11_gentlest_7 (pc' := 10) rfl ks_129 ?_
  refine kj_istore_n dX11_gentlest_10 (pc' := 11) rfl rfl (Nat.le_of_ble_eq_true rfl) (ls' := [some (.inr 120), some (.inl (-2)), some (.inl 129)]) rfl ?_
  refine kj_iconst dX11_gentlest_11 (pc' := 12) rfl kc_1 ?_
  refine kj_istore_n dX11_gentlest_12 (pc' := 13) rfl rfl (Nat.le_of_ble_eq_true rfl) (ls' := [some (.inr 120), some (.inl (-2)), some (.inl 129), some (.inl 1)]) rfl ?_
  refine lp_ind (P := fun s => KJ E mX11_gentlest rmX11_gentlest 13 [some (.inr 120), some (.inl s.1), some (.inl s.2.1), some (.inl s.2.2.1)] [] s.2.2.2 Q) (fun rec13 s ih13 hT => ?_) FU ((-2), 129, 1, σ1) hT
  obtain ⟨x1, x2, x3, σ⟩ := s
  show KJ E mX11_gentlest rmX11_gentlest 13 [some (.inr 120), some (.inl x1), some (.inl x2), some (.inl x3)] [] σ Q
  rw [X11_gentlest_B13] at hT
  refine kj_iload_n dX11_gentlest_13 (pc' := 14) rfl rfl rfl ?_
  refine kj_bipush dX11_gentlest_14 (pc' := 16) rfl kb_7 ?_
  refine kj_icmp_gt dX11_gentlest_16 (tgt := 88) rfl (pc' := 19) rfl (fun c2 => ?_) (fun c2 => ?_)
  · rw [if_pos c2] at hT
    refine kj_iload_n dX11_gentlest_88 (pc' := 89) rfl rfl rfl ?_
    have hR := Option.some.inj hT
    subst hR
    exact kj_iret rfl dX11_gentlest_89 (by subst hQ; exact ⟨rfl, rfl⟩)
  · rw [if_neg c2] at hT
    refine kj_iconst dX11_gentlest_19 (pc' := 20) rfl kc_1 ?_
    refine kj_istore dX11_gentlest_20 (pc' := 22) rfl (Nat.le_of_ble_eq_true rfl) (ls' := [some (.inr 120), some (.inl x1), some (.inl x2), some (.inl x3), some (.inl 1)]) rfl ?_
    have hX22 : ∀ x1 x2 σ, X11_gentlest_T82 rec13 x3 x1 x2 σ = some res → KJ E mX11_gentlest rmX11_gentlest 82 [some (.inr 120), some (.inl x1), some (.inl x2), some (.inl x3)] [] σ Q := by
      intro x1 x2 σ hT
      unfold X11_gentlest_T82 at hT
      refine kj_iinc dX11_gentlest_82 (pc' := 85) rfl rfl (congrArg (_ + ·) kc_1) (Nat.le_of_ble_eq_true rfl) (ls' := [some (.inr 120), some (.inl x1), some (.inl x2), some (.inl (x3 + 1))]) rfl ?_
      refine kj_goto dX11_gentlest_85 (pc' := 13) rfl ?_
      exact ih13 (x1, x2, x3 + 1, σ) hT
    refine lp_ind (P := fun s => KJ E mX11_gentlest rmX11_gentlest 22 [some (.inr 120), some (.inl s.1), some (.inl s.2.1), some (.inl x3), some (.inl s.2.2.1)] [] s.2.2.2 Q) (fun rec22 s ih22 hT => ?_) FU (x1, x2, 1, σ) hT
    obtain ⟨x1, x2, x4, σ⟩ := s
    show KJ E mX11_gentlest rmX11_gentlest 22 [some (.inr 120), some (.inl x1), some (.inl x2), some (.inl x3), some (.inl x4)] [] σ Q
    rw [X11_gentlest_B22] at hT
    have hJ76_13_22 : ∀ y1 y2 y4 ς, X11_gentlest_J76 rec22 y1 y2 y4 ς = some res → KJ E mX11_gentlest rmX11_gentlest 76 [some (.inr 120), some (.inl y1), some (.inl y2), some (.inl x3), some (.inl y4)] [] ς Q := by
      intro y1 y2 y4 ς hT
      unfold X11_gentlest_J76 at hT
      refine kj_iinc dX11_gentlest_76 (pc' := 79) rfl rfl (congrArg (_ + ·) kc_1) (Nat.le_of_ble_eq_true rfl) (ls' := [some (.inr 120), some (.inl y1), some (.inl y2), some (.inl x3), some (.inl (y4 + 1))]) rfl ?_
      refine kj_goto dX11_gentlest_79 (pc' := 22) rfl ?_
      exact ih22 (y1, y2, y4 + 1, ς) hT
    refine kj_iload dX11_gentlest_22 (pc' := 24) rfl rfl ?_
    refine kj_aload_n dX11_gentlest_24 (pc' := 25) rfl rfl rfl ?_
    refine kcVi (as := []) (st := [.inl x4]) l_RX11_88 (m_X11_allPoints hE σ rfl) rfl (Nat.lt_of_lt_of_le (Nat.le_of_ble_eq_true rfl : 120 < 140) hE.1) rfl ⟨⟨rfl, rfl⟩, Nat.le_of_ble_eq_true rfl, Nat.le_of_ble_eq_true rfl⟩ (Nat.le_of_ble_eq_true rfl) dX11_gentlest_25 (pc' := 28) rfl ?_
    refine kj_icmp_gt dX11_gentlest_28 (tgt := 82) rfl (pc' := 31) rfl (fun c3 => ?_) (fun c3 => ?_)
    · rw [if_pos c3] at hT
      refine kj_keep [true, true, true, true] (ls' := [some (.inr 120), some (.inl x1), some (.inl x2), some (.inl x3)]) rfl ?_
      exact hX22 x1 x2 σ hT
    · rw [if_neg c3] at hT
      refine kj_iload dX11_gentlest_31 (pc' := 33) rfl rfl ?_
      obtain ⟨t4, ht4, hT⟩ := bind_some' hT
      refine kcSi (as := [.inl x4]) (st := []) l_RX11_157 (m_X11_ones (Nat.zero_le _) σ x4 ht4) rfl ⟨⟨rfl, rfl⟩, Nat.le_of_ble_eq_true rfl, Nat.le_of_ble_eq_true rfl⟩ (Nat.le_of_ble_eq_true rfl) dX11_gentlest_33 (pc' := 36) rfl ?_
      refine kj_iload_n dX11_gentlest_36 (pc' := 37) rfl rfl rfl ?_
      refine kj_icmp_ne dX11_gentlest_37 (tgt := 76) rfl (pc' := 40) rfl (fun c5 => ?_) (fun c5 => ?_)
      · rw [if_neg c5] at hT
        exact hJ76_13_22 x1 x2 x4 σ hT
      · rw [if_pos c5] at hT
        refine kj_aload_n dX11_gentlest_40 (pc' := 41) rfl rfl rfl ?_
        refine kj_getR f_RX11_26 rfl (Nat.lt_of_lt_of_le (Nat.le_of_ble_eq_true rfl : 120 < 140) hE.1) (hE.2 _ _) (q := 125) rfl dX11_gentlest_41 (pc' := 44) rfl ?_
        refine kj_iload dX11_gentlest_44 (pc' := 46) rfl rfl ?_
        obtain ⟨hi6, hT⟩ := ckA_some hT
        refine kj_zald rfl (Nat.lt_of_lt_of_le (Nat.le_of_ble_eq_true rfl : 125 < 140) hE.1) hi6 rfl dX11_gentlest_46 (pc' := 47) rfl ?_
        refine kj_if_eq dX11_gentlest_47 (tgt := 53) rfl (pc' := 50) rfl (fun c7 => ?_) (fun c7 => ?_)
        · rw [if_pos c7] at hT
          refine kj_aload_n dX11_gentlest_53 (pc' := 54) rfl rfl rfl ?_
          refine kj_iload dX11_gentlest_54 (pc' := 56) rfl rfl ?_
          obtain ⟨t8, ht8, hT⟩ := bind_some' hT
          obtain ⟨t8, σ9⟩ := t8
          dsimp only at hT
          refine kcVi (as := [.inl x4]) (st := []) l_RX11_244 (m_X11_withOne hE σ x4 ht8) rfl (Nat.lt_of_lt_of_le (Nat.le_of_ble_eq_true rfl : 120 < 140) hE.1) rfl ⟨⟨rfl, rfl⟩, Nat.le_of_ble_eq_true rfl, Nat.le_of_ble_eq_true rfl⟩ (Nat.le_of_ble_eq_true rfl) dX11_gentlest_56 (pc' := 59) rfl ?_
          refine kj_istore dX11_gentlest_59 (pc' := 61) rfl (Nat.le_of_ble_eq_true rfl) (ls' := [some (.inr 120), some (.inl x1), some (.inl x2), some (.inl x3), some (.inl x4), some (.inl t8)]) rfl ?_
          refine kj_iload dX11_gentlest_61 (pc' := 63) rfl rfl ?_
          refine kj_iload_n dX11_gentlest_63 (pc' := 64) rfl rfl rfl ?_
          refine kj_icmp_lt dX11_gentlest_64 (tgt := 70) rfl (pc' := 67) rfl (fun c10 => ?_) (fun c10 => ?_)
          · rw [if_pos c10] at hT
            refine kj_iload dX11_gentlest_70 (pc' := 72) rfl rfl ?_
            refine kj_istore_n dX11_gentlest_72 (pc' := 73) rfl rfl (Nat.le_of_ble_eq_true rfl) (ls' := [some (.inr 120), some (.inl x1), some (.inl t8), some (.inl x3), some (.inl x4), some (.inl t8)]) rfl ?_
            refine kj_iload dX11_gentlest_73 (pc' := 75) rfl rfl ?_
            refine kj_istore_n dX11_gentlest_75 (pc' := 76) rfl rfl (Nat.le_of_ble_eq_true rfl) (ls' := [some (.inr 120), some (.inl x4), some (.inl t8), some (.inl x3), some (.inl x4), some (.inl t8)]) rfl ?_
            refine kj_keep [true, true, true, true, true] (ls' := [some (.inr 120), some (.inl x4), some (.inl t8), some (.inl x3), some (.inl x4)]) rfl ?_
            exact hJ76_13_22 x4 t8 x4 σ9 hT
          · rw [if_neg c10] at hT
            refine kj_goto dX11_gentlest_67 (pc' := 76) rfl ?_
            refine kj_keep [true, true, true, true, true] (ls' := [some (.inr 120), some (.inl x1), some (.inl x2), some (.inl x3), some (.inl x4)]) rfl ?_
            exact hJ76_13_22 x1 x2 x4 σ9 hT
        · rw [if_neg c7] at hT
          refine kj_goto dX11_gentlest_50 (pc' := 76) rfl ?_
          exact hJ76_13_22 x1 x2 x4 σ hT
def X11_spoiler_T83 (rec8 : Int32 × Int32 × Int32 × Wd → Option (Int32 × Wd)) (x3 : Int32) (x1 : Int32) (x2 : Int32) (σ : Wd) : Option (Int32 × Wd) :=
  rec8 (x1, x2, x3 + 1, σ)
def X11_spoiler_J77 (rec17 : Int32 × Int32 × Int32 × Wd → Option (Int32 × Wd)) (y1 : Int32) (y2 : Int32) (y4 : Int32) (ς : Wd) : Option (Int32 × Wd) :=
  rec17 (y1, y2, y4 + 1, ς)
def X11_spoiler_B17 (x3 : Int32) (kx17 : Int32 → Int32 → Wd → Option (Int32 × Wd)) (rec17 : Int32 × Int32 × Int32 × Wd → Option (Int32 × Wd)) : Int32 × Int32 × Int32 × Wd → Option (Int32 × Wd)
  | (x1, x2, x4, σ) => (if (X11_allPoints σ) < x4 then kx17 x1 x2 σ else ((X11_ones x4).bind fun t3 => (if t3 = x3 then ((X11_spans σ 128 (-1) x4).bind fun σ5 => ((X11_frequentIn σ5 128).bind fun t6 => ((X11_ones t6).bind fun t7 => (if t7 < x2 then X11_spoiler_J77 rec17 x4 t7 x4 σ5 else X11_spoiler_J77 rec17 x1 x2 x4 σ5)))) else X11_spoiler_J77 rec17 x1 x2 x4 σ)))
def X11_spoiler_B8 (rec8 : Int32 × Int32 × Int32 × Wd → Option (Int32 × Wd)) : Int32 × Int32 × Int32 × Wd → Option (Int32 × Wd)
  | (x1, x2, x3, σ) => (if 7 < x3 then some (x1, σ) else (lp (X11_spoiler_B17 x3 (X11_spoiler_T83 rec8 x3)) FU (x1, x2, 1, σ)))
def X11_spoiler (σ : Wd) : Option (Int32 × Wd) :=
  (lp (X11_spoiler_B8) FU ((-2), 8, 1, σ))
set_option maxRecDepth 100000 in
set_option maxHeartbeats 4000000 in
theorem m_X11_spoiler {E : JE} (hE : kOk 140 E) (σ : Wd) {res : Int32 × Wd} (hT : X11_spoiler σ = some res) : kMt E yX11_spoiler mX11_spoiler rmX11_spoiler [.inr 120] σ (kQi res.1 res.2) := by
  refine kMt_of (by decide +kernel) rfl (Nat.le_of_ble_eq_true rfl) ?_
  generalize hQ : (kQi res.1 res.2) = Q
  show KJ E mX11_spoiler rmX11_spoiler 0 [some (.inr 120)] [] σ Q
  unfold X11_spoiler at hT
  refine kj_bipush dX11_spoiler_0 (pc' := 2) rfl kb_m2 ?_
  refine kj_istore_n dX11_spoiler_2 (pc' := 3) rfl rfl (Nat.le_of_ble_eq_true rfl) (ls' := [some (.inr 120), some (.inl (-2))]) rfl ?_
  refine kj_bipush dX11_spoiler_3 (pc' := 5) rfl kb_8 ?_
  refine kj_istore_n dX11_spoiler_5 (pc' := 6) rfl rfl (Nat.le_of_ble_eq_true rfl) (ls' := [some (.inr 120), some (.inl (-2)), some (.inl 8)]) rfl ?_
  refine kj_iconst dX11_spoiler_6 (pc' := 7) rfl kc_1 ?_
  refine kj_istore_n dX11_spoiler_7 (pc' := 8) rfl rfl (Nat.le_of_ble_eq_true rfl) (ls' := [some (.inr 120), some (.inl (-2)), some (.inl 8), some (.inl 1)]) rfl ?_
  refine lp_ind (P := fun s => KJ E mX11_spoiler rmX11_spoiler 8 [some (.inr 120), some (.inl s.1), some (.inl s.2.1), some (.inl s.2.2.1)] [] s.2.2.2 Q) (fun rec8 s ih8 hT => ?_) FU ((-2), 8, 1, σ) hT
  obtain ⟨x1, x2, x3, σ⟩ := s
  show KJ E mX11_spoiler rmX11_spoiler 8 [some (.inr 120), some (.inl x1), some (.inl x2), some (.inl x3)] [] σ Q
  rw [X11_spoiler_B8] at hT
  refine kj_iload_n dX11_spoiler_8 (pc' := 9) rfl rfl rfl ?_
  refine kj_bipush dX11_spoiler_9 (pc' := 11) rfl kb_7 ?_
  refine kj_icmp_gt dX11_spoiler_11 (tgt := 89) rfl (pc' := 14) rfl (fun c1 => ?_) (fun c1 => ?_)
  · rw [if_pos c1] at hT
    refine kj_iload_n dX11_spoiler_89 (pc' := 90) rfl rfl rfl ?_
    have hR := Option.some.inj hT
    subst hR
    exact kj_iret rfl dX11_spoiler_90 (by subst hQ; exact ⟨rfl, rfl⟩)
  · rw [if_neg c1] at hT
    refine kj_iconst dX11_spoiler_14 (pc' := 15) rfl kc_1 ?_
    refine kj_istore dX11_spoiler_15 (pc' := 17) rfl (Nat.le_of_ble_eq_true rfl) (ls' := [some (.inr 120), some (.inl x1), some (.inl x2), some (.inl x3), some (.inl 1)]) rfl ?_
    have hX17 : ∀ x1 x2 σ, X11_spoiler_T83 rec8 x3 x1 x2 σ = some res → KJ E mX11_spoiler rmX11_spoiler 83 [some (.inr 120), some (.inl x1), some (.inl x2), some (.inl x3)] [] σ Q := by
      intro x1 x2 σ hT
      unfold X11_spoiler_T83 at hT
      refine kj_iinc dX11_spoiler_83 (pc' := 86) rfl rfl (congrArg (_ + ·) kc_1) (Nat.le_of_ble_eq_true rfl) (ls' := [some (.inr 120), some (.inl x1), some (.inl x2), some (.inl (x3 + 1))]) rfl ?_
      refine kj_goto dX11_spoiler_86 (pc' := 8) rfl ?_
      exact ih8 (x1, x2, x3 + 1, σ) hT
    refine lp_ind (P := fun s => KJ E mX11_spoiler rmX11_spoiler 17 [some (.inr 120), some (.inl s.1), some (.inl s.2.1), some (.inl x3), some (.inl s.2.2.1)] [] s.2.2.2 Q) (fun rec17 s ih17 hT => ?_) FU (x1, x2, 1, σ) hT
    obtain ⟨x1, x2, x4, σ⟩ := s
    show KJ E mX11_spoiler rmX11_spoiler 17 [some (.inr 120), some (.inl x1), some (.inl x2), some (.inl x3), some (.inl x4)] [] σ Q
    rw [X11_spoiler_B17] at hT
    have hJ77_8_17 : ∀ y1 y2 y4 ς, X11_spoiler_J77 rec17 y1 y2 y4 ς = some res → KJ E mX11_spoiler rmX11_spoiler 77 [some (.inr 120), some (.inl y1), some (.inl y2), some (.inl x3), some (.inl y4)] [] ς Q := by
      intro y1 y2 y4 ς hT
      unfold X11_spoiler_J77 at hT
      refine kj_iinc dX11_spoiler_77 (pc' := 80) rfl rfl (congrArg (_ + ·) kc_1) (Nat.le_of_ble_eq_true rfl) (ls' := [some (.inr 120), some (.inl y1), some (.inl y2), some (.inl x3), some (.inl (y4 + 1))]) rfl ?_
      refine kj_goto dX11_spoiler_80 (pc' := 17) rfl ?_
      exact ih17 (y1, y2, y4 + 1, ς) hT
    refine kj_iload dX11_spoiler_17 (pc' := 19) rfl rfl ?_
    refine kj_aload_n dX11_spoiler_19 (pc' := 20) rfl rfl rfl ?_
    refine kcVi (as := []) (st := [.inl x4]) l_RX11_88 (m_X11_allPoints hE σ rfl) rfl (Nat.lt_of_lt_of_le (Nat.le_of_ble_eq_true rfl : 120 < 140) hE.1) rfl ⟨⟨rfl, rfl⟩, Nat.le_of_ble_eq_true rfl, Nat.le_of_ble_eq_true rfl⟩ (Nat.le_of_ble_eq_true rfl) dX11_spoiler_20 (pc' := 23) rfl ?_
    refine kj_icmp_gt dX11_spoiler_23 (tgt := 83) rfl (pc' := 26) rfl (fun c2 => ?_) (fun c2 => ?_)
    · rw [if_pos c2] at hT
      refine kj_keep [true, true, true, true] (ls' := [some (.inr 120), some (.inl x1), some (.inl x2), some (.inl x3)]) rfl ?_
      exact hX17 x1 x2 σ hT
    · rw [if_neg c2] at hT
      refine kj_iload dX11_spoiler_26 (pc' := 28) rfl rfl ?_
      obtain ⟨t3, ht3, hT⟩ := bind_some' hT
      refine kcSi (as := [.inl x4]) (st := []) l_RX11_157 (m_X11_ones (Nat.zero_le _) σ x4 ht3) rfl ⟨⟨rfl, rfl⟩, Nat.le_of_ble_eq_true rfl, Nat.le_of_ble_eq_true rfl⟩ (Nat.le_of_ble_eq_true rfl) dX11_spoiler_28 (pc' := 31) rfl ?_
      refine kj_iload_n dX11_spoiler_31 (pc' := 32) rfl rfl rfl ?_
      refine kj_icmp_eq dX11_spoiler_32 (tgt := 38) rfl (pc' := 35) rfl (fun c4 => ?_) (fun c4 => ?_)
      · rw [if_pos c4] at hT
        refine kj_aload_n dX11_spoiler_38 (pc' := 39) rfl rfl rfl ?_
        refine kj_aload_n dX11_spoiler_39 (pc' := 40) rfl rfl rfl ?_
        refine kj_getR f_RX11_36 rfl (Nat.lt_of_lt_of_le (Nat.le_of_ble_eq_true rfl : 120 < 140) hE.1) (hE.2 _ _) (q := 128) rfl dX11_spoiler_40 (pc' := 43) rfl ?_
        refine kj_iconst dX11_spoiler_43 (pc' := 44) rfl kc_m1 ?_
        refine kj_iload dX11_spoiler_44 (pc' := 46) rfl rfl ?_
        obtain ⟨σ5, hσ5, hT⟩ := bind_some' hT
        refine kcVv (as := [.inr 128, .inl (-1), .inl x4]) (st := []) l_RX11_153 (m_X11_spans hE rfl (Nat.lt_of_lt_of_le (Nat.le_of_ble_eq_true rfl : 128 < 140) hE.1) σ (-1) x4 hσ5) rfl (Nat.lt_of_lt_of_le (Nat.le_of_ble_eq_true rfl : 120 < 140) hE.1) rfl ⟨⟨rfl, rfl⟩, Nat.le_of_ble_eq_true rfl, Nat.le_of_ble_eq_true rfl⟩ (Nat.le_of_ble_eq_true rfl) dX11_spoiler_46 (pc' := 49) rfl ?_
        refine kj_aload_n dX11_spoiler_49 (pc' := 50) rfl rfl rfl ?_
        refine kj_aload_n dX11_spoiler_50 (pc' := 51) rfl rfl rfl ?_
        refine kj_getR f_RX11_36 rfl (Nat.lt_of_lt_of_le (Nat.le_of_ble_eq_true rfl : 120 < 140) hE.1) (hE.2 _ _) (q := 128) rfl dX11_spoiler_51 (pc' := 54) rfl ?_
        obtain ⟨t6, ht6, hT⟩ := bind_some' hT
        refine kcVi (as := [.inr 128]) (st := []) l_RX11_188 (m_X11_frequentIn hE rfl (Nat.lt_of_lt_of_le (Nat.le_of_ble_eq_true rfl : 128 < 140) hE.1) σ5 ht6) rfl (Nat.lt_of_lt_of_le (Nat.le_of_ble_eq_true rfl : 120 < 140) hE.1) rfl ⟨⟨rfl, rfl⟩, Nat.le_of_ble_eq_true rfl, Nat.le_of_ble_eq_true rfl⟩ (Nat.le_of_ble_eq_true rfl) dX11_spoiler_54 (pc' := 57) rfl ?_
        obtain ⟨t7, ht7, hT⟩ := bind_some' hT
        refine kcSi (as := [.inl t6]) (st := []) l_RX11_157 (m_X11_ones (Nat.zero_le _) σ5 t6 ht7) rfl ⟨⟨rfl, rfl⟩, Nat.le_of_ble_eq_true rfl, Nat.le_of_ble_eq_true rfl⟩ (Nat.le_of_ble_eq_true rfl) dX11_spoiler_57 (pc' := 60) rfl ?_
        refine kj_istore dX11_spoiler_60 (pc' := 62) rfl (Nat.le_of_ble_eq_true rfl) (ls' := [some (.inr 120), some (.inl x1), some (.inl x2), some (.inl x3), some (.inl x4), some (.inl t7)]) rfl ?_
        refine kj_iload dX11_spoiler_62 (pc' := 64) rfl rfl ?_
        refine kj_iload_n dX11_spoiler_64 (pc' := 65) rfl rfl rfl ?_
        refine kj_icmp_lt dX11_spoiler_65 (tgt := 71) rfl (pc' := 68) rfl (fun c8 => ?_) (fun c8 => ?_)
        · rw [if_pos c8] at hT
          refine kj_iload dX11_spoiler_71 (pc' := 73) rfl rfl ?_
          refine kj_istore_n dX11_spoiler_73 (pc' := 74) rfl rfl (Nat.le_of_ble_eq_true rfl) (ls' := [some (.inr 120), some (.inl x1), some (.inl t7), some (.inl x3), some (.inl x4), some (.inl t7)]) rfl ?_
          refine kj_iload dX11_spoiler_74 (pc' := 76) rfl rfl ?_
          refine kj_istore_n dX11_spoiler_76 (pc' := 77) rfl rfl (Nat.le_of_ble_eq_true rfl) (ls' := [some (.inr 120), some (.inl x4), some (.inl t7), some (.inl x3), some (.inl x4), some (.inl t7)]) rfl ?_
          refine kj_keep [true, true, true, true, true] (ls' := [some (.inr 120), some (.inl x4), some (.inl t7), some (.inl x3), some (.inl x4)]) rfl ?_
          exact hJ77_8_17 x4 t7 x4 σ5 hT
        · rw [if_neg c8] at hT
          refine kj_goto dX11_spoiler_68 (pc' := 77) rfl ?_
          refine kj_keep [true, true, true, true, true] (ls' := [some (.inr 120), some (.inl x1), some (.inl x2), some (.inl x3), some (.inl x4)]) rfl ?_
          exact hJ77_8_17 x1 x2 x4 σ5 hT
      · rw [if_neg c4] at hT
        refine kj_goto dX11_spoiler_35 (pc' := 77) rfl ?_
        exact hJ77_8_17 x1 x2 x4 σ hT
def X11_sumOf_B14 (rec14 : Int32 × Int32 × Int32 × Wd → Option (Int32 × Wd)) : Int32 × Int32 × Int32 × Wd → Option (Int32 × Wd)
  | (x2, x3, x4, σ) => (if x4 < 0 then some (x3, σ) else (ckA x4 7 <| (ckA x4 7 <| (lett (x3 + ((up σ 136 x4.toNatClampNeg (x2 % 3)) 136 x4.toNatClampNeg)) fun t4 => rec14 (x2 / 3, t4, x4 + (-1), up σ 136 x4.toNatClampNeg (x2 % 3))))))
def X11_sumOf (σ : Wd) (x1 : Int32) : Option (Int32 × Wd) :=
  (lp (X11_sumOf_B14) FU (x1, 0, (σ 121 0) - 1, σ))
set_option maxRecDepth 100000 in
set_option maxHeartbeats 4000000 in
theorem m_X11_sumOf {E : JE} (hE : kOk 140 E) (σ : Wd) (x1 : Int32) {res : Int32 × Wd} (hT : X11_sumOf σ x1 = some res) : kMt E yX11_sumOf mX11_sumOf rmX11_sumOf [.inr 120, .inl x1] σ (kQi res.1 res.2) := by
  refine kMt_of (by decide +kernel) rfl (Nat.le_of_ble_eq_true rfl) ?_
  generalize hQ : (kQi res.1 res.2) = Q
  show KJ E mX11_sumOf rmX11_sumOf 0 [some (.inr 120), some (.inl x1)] [] σ Q
  unfold X11_sumOf at hT
  refine kj_iload_n dX11_sumOf_0 (pc' := 1) rfl rfl rfl ?_
  refine kj_istore_n dX11_sumOf_1 (pc' := 2) rfl rfl (Nat.le_of_ble_eq_true rfl) (ls' := [some (.inr 120), some (.inl x1), some (.inl x1)]) rfl ?_
  refine kj_iconst dX11_sumOf_2 (pc' := 3) rfl kc_0 ?_
  refine kj_istore_n dX11_sumOf_3 (pc' := 4) rfl rfl (Nat.le_of_ble_eq_true rfl) (ls' := [some (.inr 120), some (.inl x1), some (.inl x1), some (.inl 0)]) rfl ?_
  refine kj_aload_n dX11_sumOf_4 (pc' := 5) rfl rfl rfl ?_
  refine kj_getR f_RX11_13 rfl (Nat.lt_of_lt_of_le (Nat.le_of_ble_eq_true rfl : 120 < 140) hE.1) (hE.2 _ _) (q := 121) rfl dX11_sumOf_5 (pc' := 8) rfl ?_
  refine kj_iconst dX11_sumOf_8 (pc' := 9) rfl kc_0 ?_
  refine kj_iald rfl (Nat.lt_of_lt_of_le (Nat.le_of_ble_eq_true rfl : 121 < 140) hE.1) (vp_lit (by decide +kernel)) (j := 0) (by decide +kernel) dX11_sumOf_9 (pc' := 10) rfl ?_
  refine kj_iconst dX11_sumOf_10 (pc' := 11) rfl kc_1 ?_
  refine kj_isub dX11_sumOf_11 (pc' := 12) rfl ?_
  refine kj_istore dX11_sumOf_12 (pc' := 14) rfl (Nat.le_of_ble_eq_true rfl) (ls' := [some (.inr 120), some (.inl x1), some (.inl x1), some (.inl 0), some (.inl ((σ 121 0) - 1))]) rfl ?_
  refine kj_keep [true, false, true, true, true] (ls' := [some (.inr 120), none, some (.inl x1), some (.inl 0), some (.inl ((σ 121 0) - 1))]) rfl ?_
  refine lp_ind (P := fun s => KJ E mX11_sumOf rmX11_sumOf 14 [some (.inr 120), none, some (.inl s.1), some (.inl s.2.1), some (.inl s.2.2.1)] [] s.2.2.2 Q) (fun rec14 s ih14 hT => ?_) FU (x1, 0, (σ 121 0) - 1, σ) hT
  obtain ⟨x2, x3, x4, σ⟩ := s
  show KJ E mX11_sumOf rmX11_sumOf 14 [some (.inr 120), none, some (.inl x2), some (.inl x3), some (.inl x4)] [] σ Q
  rw [X11_sumOf_B14] at hT
  refine kj_iload dX11_sumOf_14 (pc' := 16) rfl rfl ?_
  refine kj_if_lt dX11_sumOf_16 (tgt := 49) rfl (pc' := 19) rfl (fun c1 => ?_) (fun c1 => ?_)
  · rw [if_pos c1] at hT
    refine kj_iload_n dX11_sumOf_49 (pc' := 50) rfl rfl rfl ?_
    have hR := Option.some.inj hT
    subst hR
    exact kj_iret rfl dX11_sumOf_50 (by subst hQ; exact ⟨rfl, rfl⟩)
  · rw [if_neg c1] at hT
    refine kj_aload_n dX11_sumOf_19 (pc' := 20) rfl rfl rfl ?_
    refine kj_getR f_RX11_60 rfl (Nat.lt_of_lt_of_le (Nat.le_of_ble_eq_true rfl : 120 < 140) hE.1) (hE.2 _ _) (q := 136) rfl dX11_sumOf_20 (pc' := 23) rfl ?_
    refine kj_iload dX11_sumOf_23 (pc' := 25) rfl rfl ?_
    refine kj_iload_n dX11_sumOf_25 (pc' := 26) rfl rfl rfl ?_
    refine kj_iconst dX11_sumOf_26 (pc' := 27) rfl kc_3 ?_
    refine kj_irem dX11_sumOf_27 (pc' := 28) rfl (by decide +kernel) ?_
    obtain ⟨hi2, hT⟩ := ckA_some hT
    refine kj_iast rfl (Nat.lt_of_lt_of_le (Nat.le_of_ble_eq_true rfl : 136 < 140) hE.1) hi2 rfl dX11_sumOf_28 (pc' := 29) rfl ?_
    refine kj_iload_n dX11_sumOf_29 (pc' := 30) rfl rfl rfl ?_
    refine kj_aload_n dX11_sumOf_30 (pc' := 31) rfl rfl rfl ?_
    refine kj_getR f_RX11_60 rfl (Nat.lt_of_lt_of_le (Nat.le_of_ble_eq_true rfl : 120 < 140) hE.1) (hE.2 _ _) (q := 136) rfl dX11_sumOf_31 (pc' := 34) rfl ?_
    refine kj_iload dX11_sumOf_34 (pc' := 36) rfl rfl ?_
    obtain ⟨hi3, hT⟩ := ckA_some hT
    refine kj_iald rfl (Nat.lt_of_lt_of_le (Nat.le_of_ble_eq_true rfl : 136 < 140) hE.1) hi3 rfl dX11_sumOf_36 (pc' := 37) rfl ?_
    refine kj_iadd dX11_sumOf_37 (pc' := 38) rfl ?_
    obtain ⟨t4, et4, hT⟩ := lett_i hT
    rw [← et4]
    refine kj_istore_n dX11_sumOf_38 (pc' := 39) rfl rfl (Nat.le_of_ble_eq_true rfl) (ls' := [some (.inr 120), none, some (.inl x2), some (.inl t4), some (.inl x4)]) rfl ?_
    refine kj_iload_n dX11_sumOf_39 (pc' := 40) rfl rfl rfl ?_
    refine kj_iconst dX11_sumOf_40 (pc' := 41) rfl kc_3 ?_
    refine kj_idiv dX11_sumOf_41 (pc' := 42) rfl (by decide +kernel) ?_
    refine kj_istore_n dX11_sumOf_42 (pc' := 43) rfl rfl (Nat.le_of_ble_eq_true rfl) (ls' := [some (.inr 120), none, some (.inl (x2 / 3)), some (.inl t4), some (.inl x4)]) rfl ?_
    refine kj_iinc dX11_sumOf_43 (pc' := 46) rfl rfl (congrArg (_ + ·) kc_m1) (Nat.le_of_ble_eq_true rfl) (ls' := [some (.inr 120), none, some (.inl (x2 / 3)), some (.inl t4), some (.inl (x4 + (-1)))]) rfl ?_
    refine kj_goto dX11_sumOf_46 (pc' := 14) rfl ?_
    exact ih14 (x2 / 3, t4, x4 + (-1), up σ 136 x4.toNatClampNeg (x2 % 3)) hT
def X11_isProved_T60 (σ : Wd) (x1 : Int32) (x2 : Int32) : Option (Int32) :=
  (if x2 ≤ 0 then some 0 else (if (2 * x1) < (x2 * (σ 120 10)) then some 0 else some 1))
def X11_isProved_J54 (rec6 : Int32 × Int32 × Int32 → Option (Int32)) (y1 : Int32) (y2 : Int32) (y3 : Int32) : Option (Int32) :=
  rec6 (y1, y2, y3 + 1)
def X11_isProved_B6 (σ : Wd) (kx6 : Int32 → Int32 → Option (Int32)) (rec6 : Int32 × Int32 × Int32 → Option (Int32)) : Int32 × Int32 × Int32 → Option (Int32)
  | (x1, x2, x3) => (if (σ 121 0) ≤ x3 then kx6 x1 x2 else (ckA x3 7 <| ((X11_frequencyIn σ 125 x3).bind fun t6 => (lett (x1 + ((σ 136 x3.toNatClampNeg) * t6)) fun t7 => ((X11_top σ).bind fun t8 => (if (X11_has t8 x3) = 0 then X11_isProved_J54 rec6 t7 x2 x3 else (ckA x3 7 <| X11_isProved_J54 rec6 t7 (x2 + (σ 136 x3.toNatClampNeg)) x3)))))))
def X11_isProved (σ : Wd) : Option (Int32) :=
  (lp (X11_isProved_B6 σ (X11_isProved_T60 σ)) FU (0, 0, 0))
set_option maxRecDepth 100000 in
set_option maxHeartbeats 4000000 in
theorem m_X11_isProved {E : JE} (hE : kOk 140 E) (σ : Wd) {res : Int32} (hT : X11_isProved σ = some res) : kMt E yX11_isProved mX11_isProved rmX11_isProved [.inr 120] σ (kQz res σ) := by
  refine kMt_of (by decide +kernel) rfl (Nat.le_of_ble_eq_true rfl) ?_
  generalize hQ : (kQz res σ) = Q
  show KJ E mX11_isProved rmX11_isProved 0 [some (.inr 120)] [] σ Q
  unfold X11_isProved at hT
  refine kj_iconst dX11_isProved_0 (pc' := 1) rfl kc_0 ?_
  refine kj_istore_n dX11_isProved_1 (pc' := 2) rfl rfl (Nat.le_of_ble_eq_true rfl) (ls' := [some (.inr 120), some (.inl 0)]) rfl ?_
  refine kj_iconst dX11_isProved_2 (pc' := 3) rfl kc_0 ?_
  refine kj_istore_n dX11_isProved_3 (pc' := 4) rfl rfl (Nat.le_of_ble_eq_true rfl) (ls' := [some (.inr 120), some (.inl 0), some (.inl 0)]) rfl ?_
  refine kj_iconst dX11_isProved_4 (pc' := 5) rfl kc_0 ?_
  refine kj_istore_n dX11_isProved_5 (pc' := 6) rfl rfl (Nat.le_of_ble_eq_true rfl) (ls' := [some (.inr 120), some (.inl 0), some (.inl 0), some (.inl 0)]) rfl ?_
  have hX6 : ∀ x1 x2, X11_isProved_T60 σ x1 x2 = some res → KJ E mX11_isProved rmX11_isProved 60 [some (.inr 120), some (.inl x1), some (.inl x2)] [] σ Q := by
    intro x1 x2 hT
    unfold X11_isProved_T60 at hT
    refine kj_iload_n dX11_isProved_60 (pc' := 61) rfl rfl rfl ?_
    refine kj_if_le dX11_isProved_61 (tgt := 80) rfl (pc' := 64) rfl (fun c2 => ?_) (fun c2 => ?_)
    · rw [if_pos c2] at hT
      refine kj_iconst dX11_isProved_80 (pc' := 81) rfl kc_0 ?_
      have hR := Option.some.inj hT
      subst hR
      exact kj_zret rfl (Or.inl rfl) dX11_isProved_81 (by subst hQ; exact ⟨rfl, rfl, (Or.inl rfl)⟩)
    · rw [if_neg c2] at hT
      refine kj_iconst dX11_isProved_64 (pc' := 65) rfl kc_2 ?_
      refine kj_iload_n dX11_isProved_65 (pc' := 66) rfl rfl rfl ?_
      refine kj_imul dX11_isProved_66 (pc' := 67) rfl ?_
      refine kj_iload_n dX11_isProved_67 (pc' := 68) rfl rfl rfl ?_
      refine kj_aload_n dX11_isProved_68 (pc' := 69) rfl rfl rfl ?_
      refine kj_getI f_RX11_141 rfl (Nat.lt_of_lt_of_le (Nat.le_of_ble_eq_true rfl : 120 < 140) hE.1) dX11_isProved_69 (pc' := 72) rfl ?_
      refine kj_imul dX11_isProved_72 (pc' := 73) rfl ?_
      refine kj_icmp_lt dX11_isProved_73 (tgt := 80) rfl (pc' := 76) rfl (fun c3 => ?_) (fun c3 => ?_)
      · rw [if_pos c3] at hT
        refine kj_iconst dX11_isProved_80 (pc' := 81) rfl kc_0 ?_
        have hR := Option.some.inj hT
        subst hR
        exact kj_zret rfl (Or.inl rfl) dX11_isProved_81 (by subst hQ; exact ⟨rfl, rfl, (Or.inl rfl)⟩)
      · rw [if_neg c3] at hT
        refine kj_iconst dX11_isProved_76 (pc' := 77) rfl kc_1 ?_
        refine kj_goto dX11_isProved_77 (pc' := 81) rfl ?_
        have hR := Option.some.inj hT
        subst hR
        exact kj_zret rfl (Or.inr rfl) dX11_isProved_81 (by subst hQ; exact ⟨rfl, rfl, (Or.inr rfl)⟩)
  refine lp_ind (P := fun s => KJ E mX11_isProved rmX11_isProved 6 [some (.inr 120), some (.inl s.1), some (.inl s.2.1), some (.inl s.2.2)] [] σ Q) (fun rec6 s ih6 hT => ?_) FU (0, 0, 0) hT
  obtain ⟨x1, x2, x3⟩ := s
  show KJ E mX11_isProved rmX11_isProved 6 [some (.inr 120), some (.inl x1), some (.inl x2), some (.inl x3)] [] σ Q
  rw [X11_isProved_B6] at hT
  have hJ54_6 : ∀ y1 y2 y3, X11_isProved_J54 rec6 y1 y2 y3 = some res → KJ E mX11_isProved rmX11_isProved 54 [some (.inr 120), some (.inl y1), some (.inl y2), some (.inl y3)] [] σ Q := by
    intro y1 y2 y3 hT
    unfold X11_isProved_J54 at hT
    refine kj_iinc dX11_isProved_54 (pc' := 57) rfl rfl (congrArg (_ + ·) kc_1) (Nat.le_of_ble_eq_true rfl) (ls' := [some (.inr 120), some (.inl y1), some (.inl y2), some (.inl (y3 + 1))]) rfl ?_
    refine kj_goto dX11_isProved_57 (pc' := 6) rfl ?_
    exact ih6 (y1, y2, y3 + 1) hT
  refine kj_iload_n dX11_isProved_6 (pc' := 7) rfl rfl rfl ?_
  refine kj_aload_n dX11_isProved_7 (pc' := 8) rfl rfl rfl ?_
  refine kj_getR f_RX11_13 rfl (Nat.lt_of_lt_of_le (Nat.le_of_ble_eq_true rfl : 120 < 140) hE.1) (hE.2 _ _) (q := 121) rfl dX11_isProved_8 (pc' := 11) rfl ?_
  refine kj_iconst dX11_isProved_11 (pc' := 12) rfl kc_0 ?_
  refine kj_iald rfl (Nat.lt_of_lt_of_le (Nat.le_of_ble_eq_true rfl : 121 < 140) hE.1) (vp_lit (by decide +kernel)) (j := 0) (by decide +kernel) dX11_isProved_12 (pc' := 13) rfl ?_
  refine kj_icmp_ge dX11_isProved_13 (tgt := 60) rfl (pc' := 16) rfl (fun c4 => ?_) (fun c4 => ?_)
  · rw [if_pos c4] at hT
    refine kj_keep [true, true, true] (ls' := [some (.inr 120), some (.inl x1), some (.inl x2)]) rfl ?_
    exact hX6 x1 x2 hT
  · rw [if_neg c4] at hT
    refine kj_iload_n dX11_isProved_16 (pc' := 17) rfl rfl rfl ?_
    refine kj_aload_n dX11_isProved_17 (pc' := 18) rfl rfl rfl ?_
    refine kj_getR f_RX11_60 rfl (Nat.lt_of_lt_of_le (Nat.le_of_ble_eq_true rfl : 120 < 140) hE.1) (hE.2 _ _) (q := 136) rfl dX11_isProved_18 (pc' := 21) rfl ?_
    refine kj_iload_n dX11_isProved_21 (pc' := 22) rfl rfl rfl ?_
    obtain ⟨hi5, hT⟩ := ckA_some hT
    refine kj_iald rfl (Nat.lt_of_lt_of_le (Nat.le_of_ble_eq_true rfl : 136 < 140) hE.1) hi5 rfl dX11_isProved_22 (pc' := 23) rfl ?_
    refine kj_aload_n dX11_isProved_23 (pc' := 24) rfl rfl rfl ?_
    refine kj_getR f_RX11_26 rfl (Nat.lt_of_lt_of_le (Nat.le_of_ble_eq_true rfl : 120 < 140) hE.1) (hE.2 _ _) (q := 125) rfl dX11_isProved_24 (pc' := 27) rfl ?_
    refine kj_iload_n dX11_isProved_27 (pc' := 28) rfl rfl rfl ?_
    obtain ⟨t6, ht6, hT⟩ := bind_some' hT
    refine kcSi (as := [.inr 125, .inl x3]) (st := [.inl (σ 136 x3.toNatClampNeg), .inl x1]) l_RX11_171 (m_X11_frequencyIn (Nat.zero_le _) rfl (Nat.lt_of_lt_of_le (Nat.le_of_ble_eq_true rfl : 125 < 140) hE.1) σ x3 ht6) rfl ⟨⟨rfl, rfl⟩, Nat.le_of_ble_eq_true rfl, Nat.le_of_ble_eq_true rfl⟩ (Nat.le_of_ble_eq_true rfl) dX11_isProved_28 (pc' := 31) rfl ?_
    refine kj_imul dX11_isProved_31 (pc' := 32) rfl ?_
    refine kj_iadd dX11_isProved_32 (pc' := 33) rfl ?_
    obtain ⟨t7, et7, hT⟩ := lett_i hT
    rw [← et7]
    refine kj_istore_n dX11_isProved_33 (pc' := 34) rfl rfl (Nat.le_of_ble_eq_true rfl) (ls' := [some (.inr 120), some (.inl t7), some (.inl x2), some (.inl x3)]) rfl ?_
    refine kj_aload_n dX11_isProved_34 (pc' := 35) rfl rfl rfl ?_
    obtain ⟨t8, ht8, hT⟩ := bind_some' hT
    refine kcVi (as := []) (st := []) l_RX11_181 (m_X11_top hE σ ht8) rfl (Nat.lt_of_lt_of_le (Nat.le_of_ble_eq_true rfl : 120 < 140) hE.1) rfl ⟨⟨rfl, rfl⟩, Nat.le_of_ble_eq_true rfl, Nat.le_of_ble_eq_true rfl⟩ (Nat.le_of_ble_eq_true rfl) dX11_isProved_35 (pc' := 38) rfl ?_
    refine kj_iload_n dX11_isProved_38 (pc' := 39) rfl rfl rfl ?_
    refine kcSz (as := [.inl t8, .inl x3]) (st := []) l_RX11_128 (m_X11_has (Nat.zero_le _) σ t8 x3 rfl) rfl ⟨⟨rfl, rfl⟩, Nat.le_of_ble_eq_true rfl, Nat.le_of_ble_eq_true rfl⟩ (Nat.le_of_ble_eq_true rfl) dX11_isProved_39 (pc' := 42) rfl (fun z9 => ?_)
    refine kj_if_eq dX11_isProved_42 (tgt := 54) rfl (pc' := 45) rfl (fun c10 => ?_) (fun c10 => ?_)
    · rw [if_pos c10] at hT
      exact hJ54_6 t7 x2 x3 hT
    · rw [if_neg c10] at hT
      refine kj_iload_n dX11_isProved_45 (pc' := 46) rfl rfl rfl ?_
      refine kj_aload_n dX11_isProved_46 (pc' := 47) rfl rfl rfl ?_
      refine kj_getR f_RX11_60 rfl (Nat.lt_of_lt_of_le (Nat.le_of_ble_eq_true rfl : 120 < 140) hE.1) (hE.2 _ _) (q := 136) rfl dX11_isProved_47 (pc' := 50) rfl ?_
      refine kj_iload_n dX11_isProved_50 (pc' := 51) rfl rfl rfl ?_
      obtain ⟨hi11, hT⟩ := ckA_some hT
      refine kj_iald rfl (Nat.lt_of_lt_of_le (Nat.le_of_ble_eq_true rfl : 136 < 140) hE.1) hi11 rfl dX11_isProved_51 (pc' := 52) rfl ?_
      refine kj_iadd dX11_isProved_52 (pc' := 53) rfl ?_
      refine kj_istore_n dX11_isProved_53 (pc' := 54) rfl rfl (Nat.le_of_ble_eq_true rfl) (ls' := [some (.inr 120), some (.inl t7), some (.inl (x2 + (σ 136 x3.toNatClampNeg))), some (.inl x3)]) rfl ?_
      exact hJ54_6 t7 (x2 + (σ 136 x3.toNatClampNeg)) x3 hT
def X11_proof_J106 (rec38 : Int32 × Int32 × Int32 × Wd → Option (Int32 × Wd)) (y2 : Int32) (y3 : Int32) (y4 : Int32) (ς : Wd) : Option (Int32 × Wd) :=
  rec38 (y2, y3, y4 + 1, ς)
def X11_proof_T106 (rec38 : Int32 × Int32 × Int32 × Wd → Option (Int32 × Wd)) (t3 : Int32) (x4 : Int32) (σ4 : Wd) (x3 : Int32) : Option (Int32 × Wd) :=
  X11_proof_J106 rec38 t3 x3 x4 σ4
def X11_proof_B76 (σ4 : Wd) (kx76 : Int32 → Option (Int32 × Wd)) (rec76 : Int32 × Int32 → Option (Int32 × Wd)) : Int32 × Int32 → Option (Int32 × Wd)
  | (x3, x6) => (if (σ4 121 0) ≤ x6 then kx76 x3 else (ckA x6 7 <| (lett ((10 * x3) + (σ4 136 x6.toNatClampNeg)) fun t11 => rec76 (t11, x6 + 1))))
def X11_proof_B38 (x1 : Int32) (rec38 : Int32 × Int32 × Int32 × Wd → Option (Int32 × Wd)) : Int32 × Int32 × Int32 × Wd → Option (Int32 × Wd)
  | (x2, x3, x4, σ) => (if x1 ≤ x4 then some (x3, σ) else ((X11_sumOf σ x4).bind fun (t3, σ4) => (if x2 ≤ t3 then X11_proof_J106 rec38 x2 x3 x4 σ4 else ((X11_isProved σ4).bind fun t6 => (if t6 = 0 then X11_proof_J106 rec38 x2 x3 x4 σ4 else (lp (X11_proof_B76 σ4 (X11_proof_T106 rec38 t3 x4 σ4)) FU (0, 0)))))))
def X11_proof_T28 (σ1 : Wd) (x1 : Int32) : Option (Int32 × Wd) :=
  (lp (X11_proof_B38 x1) FU (128, (-2), 1, σ1))
def X11_proof_B8 (σ1 : Wd) (kx8 : Int32 → Option (Int32 × Wd)) (rec8 : Int32 × Int32 → Option (Int32 × Wd)) : Int32 × Int32 → Option (Int32 × Wd)
  | (x1, x2) => (if (σ1 121 0) ≤ x2 then kx8 x1 else rec8 (x1 * 3, x2 + 1))
def X11_proof (σ : Wd) : Option (Int32 × Wd) :=
  ((X11_lays σ).bind fun σ1 => (lp (X11_proof_B8 σ1 (X11_proof_T28 σ1)) FU (1, 0)))
set_option maxRecDepth 100000 in
set_option maxHeartbeats 4000000 in
theorem m_X11_proof {E : JE} (hE : kOk 140 E) (σ : Wd) {res : Int32 × Wd} (hT : X11_proof σ = some res) : kMt E yX11_proof mX11_proof rmX11_proof [.inr 120] σ (kQi res.1 res.2) := by
  refine kMt_of (by decide +kernel) rfl (Nat.le_of_ble_eq_true rfl) ?_
  generalize hQ : (kQi res.1 res.2) = Q
  show KJ E mX11_proof rmX11_proof 0 [some (.inr 120)] [] σ Q
  unfold X11_proof at hT
  refine kj_aload_n dX11_proof_0 (pc' := 1) rfl rfl rfl ?_
  obtain ⟨σ1, hσ1, hT⟩ := bind_some' hT
  refine kcVv (as := []) (st := []) l_RX11_135 (m_X11_lays hE σ hσ1) rfl (Nat.lt_of_lt_of_le (Nat.le_of_ble_eq_true rfl : 120 < 140) hE.1) rfl ⟨⟨rfl, rfl⟩, Nat.le_of_ble_eq_true rfl, Nat.le_of_ble_eq_true rfl⟩ (Nat.le_of_ble_eq_true rfl) dX11_proof_1 (pc' := 4) rfl ?_
  refine kj_iconst dX11_proof_4 (pc' := 5) rfl kc_1 ?_
  refine kj_istore_n dX11_proof_5 (pc' := 6) rfl rfl (Nat.le_of_ble_eq_true rfl) (ls' := [some (.inr 120), some (.inl 1)]) rfl ?_
  refine kj_iconst dX11_proof_6 (pc' := 7) rfl kc_0 ?_
  refine kj_istore_n dX11_proof_7 (pc' := 8) rfl rfl (Nat.le_of_ble_eq_true rfl) (ls' := [some (.inr 120), some (.inl 1), some (.inl 0)]) rfl ?_
  have hX8 : ∀ x1, X11_proof_T28 σ1 x1 = some res → KJ E mX11_proof rmX11_proof 28 [some (.inr 120), some (.inl x1)] [] σ1 Q := by
    intro x1 hT
    unfold X11_proof_T28 at hT
    refine kj_sipush dX11_proof_28 (pc' := 31) rfl ks_128 ?_
    refine kj_istore_n dX11_proof_31 (pc' := 32) rfl rfl (Nat.le_of_ble_eq_true rfl) (ls' := [some (.inr 120), some (.inl x1), some (.inl 128)]) rfl ?_
    refine kj_bipush dX11_proof_32 (pc' := 34) rfl kb_m2 ?_
    refine kj_istore_n dX11_proof_34 (pc' := 35) rfl rfl (Nat.le_of_ble_eq_true rfl) (ls' := [some (.inr 120), some (.inl x1), some (.inl 128), some (.inl (-2))]) rfl ?_
    refine kj_iconst dX11_proof_35 (pc' := 36) rfl kc_1 ?_
    refine kj_istore dX11_proof_36 (pc' := 38) rfl (Nat.le_of_ble_eq_true rfl) (ls' := [some (.inr 120), some (.inl x1), some (.inl 128), some (.inl (-2)), some (.inl 1)]) rfl ?_
    refine lp_ind (P := fun s => KJ E mX11_proof rmX11_proof 38 [some (.inr 120), some (.inl x1), some (.inl s.1), some (.inl s.2.1), some (.inl s.2.2.1)] [] s.2.2.2 Q) (fun rec38 s ih38 hT => ?_) FU (128, (-2), 1, σ1) hT
    obtain ⟨x2, x3, x4, σ⟩ := s
    show KJ E mX11_proof rmX11_proof 38 [some (.inr 120), some (.inl x1), some (.inl x2), some (.inl x3), some (.inl x4)] [] σ Q
    rw [X11_proof_B38] at hT
    have hJ106_38 : ∀ y2 y3 y4 ς, X11_proof_J106 rec38 y2 y3 y4 ς = some res → KJ E mX11_proof rmX11_proof 106 [some (.inr 120), some (.inl x1), some (.inl y2), some (.inl y3), some (.inl y4)] [] ς Q := by
      intro y2 y3 y4 ς hT
      unfold X11_proof_J106 at hT
      refine kj_iinc dX11_proof_106 (pc' := 109) rfl rfl (congrArg (_ + ·) kc_1) (Nat.le_of_ble_eq_true rfl) (ls' := [some (.inr 120), some (.inl x1), some (.inl y2), some (.inl y3), some (.inl (y4 + 1))]) rfl ?_
      refine kj_goto dX11_proof_109 (pc' := 38) rfl ?_
      exact ih38 (y2, y3, y4 + 1, ς) hT
    refine kj_iload dX11_proof_38 (pc' := 40) rfl rfl ?_
    refine kj_iload_n dX11_proof_40 (pc' := 41) rfl rfl rfl ?_
    refine kj_icmp_ge dX11_proof_41 (tgt := 112) rfl (pc' := 44) rfl (fun c2 => ?_) (fun c2 => ?_)
    · rw [if_pos c2] at hT
      refine kj_iload_n dX11_proof_112 (pc' := 113) rfl rfl rfl ?_
      have hR := Option.some.inj hT
      subst hR
      exact kj_iret rfl dX11_proof_113 (by subst hQ; exact ⟨rfl, rfl⟩)
    · rw [if_neg c2] at hT
      refine kj_aload_n dX11_proof_44 (pc' := 45) rfl rfl rfl ?_
      refine kj_iload dX11_proof_45 (pc' := 47) rfl rfl ?_
      obtain ⟨t3, ht3, hT⟩ := bind_some' hT
      obtain ⟨t3, σ4⟩ := t3
      dsimp only at hT
      refine kcVi (as := [.inl x4]) (st := []) l_RX11_247 (m_X11_sumOf hE σ x4 ht3) rfl (Nat.lt_of_lt_of_le (Nat.le_of_ble_eq_true rfl : 120 < 140) hE.1) rfl ⟨⟨rfl, rfl⟩, Nat.le_of_ble_eq_true rfl, Nat.le_of_ble_eq_true rfl⟩ (Nat.le_of_ble_eq_true rfl) dX11_proof_47 (pc' := 50) rfl ?_
      refine kj_istore dX11_proof_50 (pc' := 52) rfl (Nat.le_of_ble_eq_true rfl) (ls' := [some (.inr 120), some (.inl x1), some (.inl x2), some (.inl x3), some (.inl x4), some (.inl t3)]) rfl ?_
      refine kj_iload dX11_proof_52 (pc' := 54) rfl rfl ?_
      refine kj_iload_n dX11_proof_54 (pc' := 55) rfl rfl rfl ?_
      refine kj_icmp_ge dX11_proof_55 (tgt := 106) rfl (pc' := 58) rfl (fun c5 => ?_) (fun c5 => ?_)
      · rw [if_pos c5] at hT
        refine kj_keep [true, true, true, true, true] (ls' := [some (.inr 120), some (.inl x1), some (.inl x2), some (.inl x3), some (.inl x4)]) rfl ?_
        exact hJ106_38 x2 x3 x4 σ4 hT
      · rw [if_neg c5] at hT
        refine kj_aload_n dX11_proof_58 (pc' := 59) rfl rfl rfl ?_
        obtain ⟨t6, ht6, hT⟩ := bind_some' hT
        refine kcVz (as := []) (st := []) l_RX11_250 (m_X11_isProved hE σ4 ht6) rfl (Nat.lt_of_lt_of_le (Nat.le_of_ble_eq_true rfl : 120 < 140) hE.1) rfl ⟨⟨rfl, rfl⟩, Nat.le_of_ble_eq_true rfl, Nat.le_of_ble_eq_true rfl⟩ (Nat.le_of_ble_eq_true rfl) dX11_proof_59 (pc' := 62) rfl (fun z7 => ?_)
        refine kj_if_ne dX11_proof_62 (tgt := 68) rfl (pc' := 65) rfl (fun c8 => ?_) (fun c8 => ?_)
        · rw [if_neg c8] at hT
          refine kj_iload dX11_proof_68 (pc' := 70) rfl rfl ?_
          refine kj_istore_n dX11_proof_70 (pc' := 71) rfl rfl (Nat.le_of_ble_eq_true rfl) (ls' := [some (.inr 120), some (.inl x1), some (.inl t3), some (.inl x3), some (.inl x4), some (.inl t3)]) rfl ?_
          refine kj_iconst dX11_proof_71 (pc' := 72) rfl kc_0 ?_
          refine kj_istore_n dX11_proof_72 (pc' := 73) rfl rfl (Nat.le_of_ble_eq_true rfl) (ls' := [some (.inr 120), some (.inl x1), some (.inl t3), some (.inl 0), some (.inl x4), some (.inl t3)]) rfl ?_
          refine kj_iconst dX11_proof_73 (pc' := 74) rfl kc_0 ?_
          refine kj_istore dX11_proof_74 (pc' := 76) rfl (Nat.le_of_ble_eq_true rfl) (ls' := [some (.inr 120), some (.inl x1), some (.inl t3), some (.inl 0), some (.inl x4), some (.inl t3), some (.inl 0)]) rfl ?_
          refine kj_keep [true, true, true, true, true, false, true] (ls' := [some (.inr 120), some (.inl x1), some (.inl t3), some (.inl 0), some (.inl x4), none, some (.inl 0)]) rfl ?_
          have hX76 : ∀ x3, X11_proof_T106 rec38 t3 x4 σ4 x3 = some res → KJ E mX11_proof rmX11_proof 106 [some (.inr 120), some (.inl x1), some (.inl t3), some (.inl x3), some (.inl x4)] [] σ4 Q := by
            intro x3 hT
            unfold X11_proof_T106 at hT
            exact hJ106_38 t3 x3 x4 σ4 hT
          refine lp_ind (P := fun s => KJ E mX11_proof rmX11_proof 76 [some (.inr 120), some (.inl x1), some (.inl t3), some (.inl s.1), some (.inl x4), none, some (.inl s.2)] [] σ4 Q) (fun rec76 s ih76 hT => ?_) FU (0, 0) hT
          obtain ⟨x3, x6⟩ := s
          show KJ E mX11_proof rmX11_proof 76 [some (.inr 120), some (.inl x1), some (.inl t3), some (.inl x3), some (.inl x4), none, some (.inl x6)] [] σ4 Q
          rw [X11_proof_B76] at hT
          refine kj_iload dX11_proof_76 (pc' := 78) rfl rfl ?_
          refine kj_aload_n dX11_proof_78 (pc' := 79) rfl rfl rfl ?_
          refine kj_getR f_RX11_13 rfl (Nat.lt_of_lt_of_le (Nat.le_of_ble_eq_true rfl : 120 < 140) hE.1) (hE.2 _ _) (q := 121) rfl dX11_proof_79 (pc' := 82) rfl ?_
          refine kj_iconst dX11_proof_82 (pc' := 83) rfl kc_0 ?_
          refine kj_iald rfl (Nat.lt_of_lt_of_le (Nat.le_of_ble_eq_true rfl : 121 < 140) hE.1) (vp_lit (by decide +kernel)) (j := 0) (by decide +kernel) dX11_proof_83 (pc' := 84) rfl ?_
          refine kj_icmp_ge dX11_proof_84 (tgt := 106) rfl (pc' := 87) rfl (fun c9 => ?_) (fun c9 => ?_)
          · rw [if_pos c9] at hT
            refine kj_keep [true, true, true, true, true] (ls' := [some (.inr 120), some (.inl x1), some (.inl t3), some (.inl x3), some (.inl x4)]) rfl ?_
            exact hX76 x3 hT
          · rw [if_neg c9] at hT
            refine kj_bipush dX11_proof_87 (pc' := 89) rfl kb_10 ?_
            refine kj_iload_n dX11_proof_89 (pc' := 90) rfl rfl rfl ?_
            refine kj_imul dX11_proof_90 (pc' := 91) rfl ?_
            refine kj_aload_n dX11_proof_91 (pc' := 92) rfl rfl rfl ?_
            refine kj_getR f_RX11_60 rfl (Nat.lt_of_lt_of_le (Nat.le_of_ble_eq_true rfl : 120 < 140) hE.1) (hE.2 _ _) (q := 136) rfl dX11_proof_92 (pc' := 95) rfl ?_
            refine kj_iload dX11_proof_95 (pc' := 97) rfl rfl ?_
            obtain ⟨hi10, hT⟩ := ckA_some hT
            refine kj_iald rfl (Nat.lt_of_lt_of_le (Nat.le_of_ble_eq_true rfl : 136 < 140) hE.1) hi10 rfl dX11_proof_97 (pc' := 98) rfl ?_
            refine kj_iadd dX11_proof_98 (pc' := 99) rfl ?_
            obtain ⟨t11, et11, hT⟩ := lett_i hT
            rw [← et11]
            refine kj_istore_n dX11_proof_99 (pc' := 100) rfl rfl (Nat.le_of_ble_eq_true rfl) (ls' := [some (.inr 120), some (.inl x1), some (.inl t3), some (.inl t11), some (.inl x4), none, some (.inl x6)]) rfl ?_
            refine kj_iinc dX11_proof_100 (pc' := 103) rfl rfl (congrArg (_ + ·) kc_1) (Nat.le_of_ble_eq_true rfl) (ls' := [some (.inr 120), some (.inl x1), some (.inl t3), some (.inl t11), some (.inl x4), none, some (.inl (x6 + 1))]) rfl ?_
            refine kj_goto dX11_proof_103 (pc' := 76) rfl ?_
            exact ih76 (t11, x6 + 1) hT
        · rw [if_pos c8] at hT
          refine kj_goto dX11_proof_65 (pc' := 106) rfl ?_
          refine kj_keep [true, true, true, true, true] (ls' := [some (.inr 120), some (.inl x1), some (.inl x2), some (.inl x3), some (.inl x4)]) rfl ?_
          exact hJ106_38 x2 x3 x4 σ4 hT
  refine lp_ind (P := fun s => KJ E mX11_proof rmX11_proof 8 [some (.inr 120), some (.inl s.1), some (.inl s.2)] [] σ1 Q) (fun rec8 s ih8 hT => ?_) FU (1, 0) hT
  obtain ⟨x1, x2⟩ := s
  show KJ E mX11_proof rmX11_proof 8 [some (.inr 120), some (.inl x1), some (.inl x2)] [] σ1 Q
  rw [X11_proof_B8] at hT
  refine kj_iload_n dX11_proof_8 (pc' := 9) rfl rfl rfl ?_
  refine kj_aload_n dX11_proof_9 (pc' := 10) rfl rfl rfl ?_
  refine kj_getR f_RX11_13 rfl (Nat.lt_of_lt_of_le (Nat.le_of_ble_eq_true rfl : 120 < 140) hE.1) (hE.2 _ _) (q := 121) rfl dX11_proof_10 (pc' := 13) rfl ?_
  refine kj_iconst dX11_proof_13 (pc' := 14) rfl kc_0 ?_
  refine kj_iald rfl (Nat.lt_of_lt_of_le (Nat.le_of_ble_eq_true rfl : 121 < 140) hE.1) (vp_lit (by decide +kernel)) (j := 0) (by decide +kernel) dX11_proof_14 (pc' := 15) rfl ?_
  refine kj_icmp_ge dX11_proof_15 (tgt := 28) rfl (pc' := 18) rfl (fun c12 => ?_) (fun c12 => ?_)
  · rw [if_pos c12] at hT
    refine kj_keep [true, true] (ls' := [some (.inr 120), some (.inl x1)]) rfl ?_
    exact hX8 x1 hT
  · rw [if_neg c12] at hT
    refine kj_iload_n dX11_proof_18 (pc' := 19) rfl rfl rfl ?_
    refine kj_iconst dX11_proof_19 (pc' := 20) rfl kc_3 ?_
    refine kj_imul dX11_proof_20 (pc' := 21) rfl ?_
    refine kj_istore_n dX11_proof_21 (pc' := 22) rfl rfl (Nat.le_of_ble_eq_true rfl) (ls' := [some (.inr 120), some (.inl (x1 * 3)), some (.inl x2)]) rfl ?_
    refine kj_iinc dX11_proof_22 (pc' := 25) rfl rfl (congrArg (_ + ·) kc_1) (Nat.le_of_ble_eq_true rfl) (ls' := [some (.inr 120), some (.inl (x1 * 3)), some (.inl (x2 + 1))]) rfl ?_
    refine kj_goto dX11_proof_25 (pc' := 8) rfl ?_
    exact ih8 (x1 * 3, x2 + 1) hT
def X11_listed (σ : Wd) (x1 : Int32) : Option (Int32) :=
  (if (X11_in x1 0 ((X11_listMany σ) - 1)) = 0 then some (-1) else (ckA (22 + x1) 42 <| some (σ 121 ((22 + x1).toNatClampNeg))))
set_option maxRecDepth 100000 in
set_option maxHeartbeats 4000000 in
theorem m_X11_listed {E : JE} (hE : kOk 140 E) (σ : Wd) (x1 : Int32) {res : Int32} (hT : X11_listed σ x1 = some res) : kMt E yX11_listed mX11_listed rmX11_listed [.inr 120, .inl x1] σ (kQi res σ) := by
  refine kMt_of (by decide +kernel) rfl (Nat.le_of_ble_eq_true rfl) ?_
  generalize hQ : (kQi res σ) = Q
  show KJ E mX11_listed rmX11_listed 0 [some (.inr 120), some (.inl x1)] [] σ Q
  unfold X11_listed at hT
  refine kj_iload_n dX11_listed_0 (pc' := 1) rfl rfl rfl ?_
  refine kj_iconst dX11_listed_1 (pc' := 2) rfl kc_0 ?_
  refine kj_aload_n dX11_listed_2 (pc' := 3) rfl rfl rfl ?_
  refine kcVi (as := []) (st := [.inl 0, .inl x1]) l_RX11_147 (m_X11_listMany hE σ rfl) rfl (Nat.lt_of_lt_of_le (Nat.le_of_ble_eq_true rfl : 120 < 140) hE.1) rfl ⟨⟨rfl, rfl⟩, Nat.le_of_ble_eq_true rfl, Nat.le_of_ble_eq_true rfl⟩ (Nat.le_of_ble_eq_true rfl) dX11_listed_3 (pc' := 6) rfl ?_
  refine kj_iconst dX11_listed_6 (pc' := 7) rfl kc_1 ?_
  refine kj_isub dX11_listed_7 (pc' := 8) rfl ?_
  refine kcSz (as := [.inl x1, .inl 0, .inl ((X11_listMany σ) - 1)]) (st := []) l_RX11_84 (m_X11_in (Nat.zero_le _) σ x1 0 ((X11_listMany σ) - 1) rfl) rfl ⟨⟨rfl, rfl⟩, Nat.le_of_ble_eq_true rfl, Nat.le_of_ble_eq_true rfl⟩ (Nat.le_of_ble_eq_true rfl) dX11_listed_8 (pc' := 11) rfl (fun z1 => ?_)
  refine kj_if_eq dX11_listed_11 (tgt := 26) rfl (pc' := 14) rfl (fun c2 => ?_) (fun c2 => ?_)
  · rw [if_pos c2] at hT
    refine kj_iconst dX11_listed_26 (pc' := 27) rfl kc_m1 ?_
    have hR := Option.some.inj hT
    subst hR
    exact kj_iret rfl dX11_listed_27 (by subst hQ; exact ⟨rfl, rfl⟩)
  · rw [if_neg c2] at hT
    refine kj_aload_n dX11_listed_14 (pc' := 15) rfl rfl rfl ?_
    refine kj_getR f_RX11_13 rfl (Nat.lt_of_lt_of_le (Nat.le_of_ble_eq_true rfl : 120 < 140) hE.1) (hE.2 _ _) (q := 121) rfl dX11_listed_15 (pc' := 18) rfl ?_
    refine kj_bipush dX11_listed_18 (pc' := 20) rfl kb_22 ?_
    refine kj_iload_n dX11_listed_20 (pc' := 21) rfl rfl rfl ?_
    refine kj_iadd dX11_listed_21 (pc' := 22) rfl ?_
    obtain ⟨hi3, hT⟩ := ckA_some hT
    refine kj_iald rfl (Nat.lt_of_lt_of_le (Nat.le_of_ble_eq_true rfl : 121 < 140) hE.1) hi3 rfl dX11_listed_22 (pc' := 23) rfl ?_
    refine kj_goto dX11_listed_23 (pc' := 27) rfl ?_
    have hR := Option.some.inj hT
    subst hR
    exact kj_iret rfl dX11_listed_27 (by subst hQ; exact ⟨rfl, rfl⟩)
def X11_refused_T89 (rec13 : Int32 → Option (Int32)) (x2 : Int32) : Option (Int32) :=
  rec13 (x2 + 1)
def X11_refused_B25 (σ : Wd) (x2 : Int32) (x1 : Int32) (kx25 : Option (Int32)) (rec25 : Int32 → Option (Int32)) : Int32 → Option (Int32)
  | (x3) => (if (X11_listMany σ) ≤ x3 then kx25 else (ckA (22 + x2) 42 <| (ckA (22 + x3) 42 <| (lett ((σ 121 ((22 + x2).toNatClampNeg)) ||| (σ 121 ((22 + x3).toNatClampNeg))) fun x4 => ((X11_isListed σ x4).bind fun t9 => (if t9 = 0 then (if x1 = 0 then some x2 else (if x1 = 1 then some x3 else some x4)) else rec25 (x3 + 1)))))))
def X11_refused_B13 (σ : Wd) (x1 : Int32) (rec13 : Int32 → Option (Int32)) : Int32 → Option (Int32)
  | (x2) => (if (X11_listMany σ) ≤ x2 then some (-2) else (lp (X11_refused_B25 σ x2 x1 (X11_refused_T89 rec13 x2)) FU (x2 + 1)))
def X11_refused (σ : Wd) (x1 : Int32) : Option (Int32) :=
  (if (X11_in x1 0 2) = 0 then some (-1) else (lp (X11_refused_B13 σ x1) FU (0)))
set_option maxRecDepth 100000 in
set_option maxHeartbeats 4000000 in
theorem m_X11_refused {E : JE} (hE : kOk 140 E) (σ : Wd) (x1 : Int32) {res : Int32} (hT : X11_refused σ x1 = some res) : kMt E yX11_refused mX11_refused rmX11_refused [.inr 120, .inl x1] σ (kQi res σ) := by
  refine kMt_of (by decide +kernel) rfl (Nat.le_of_ble_eq_true rfl) ?_
  generalize hQ : (kQi res σ) = Q
  show KJ E mX11_refused rmX11_refused 0 [some (.inr 120), some (.inl x1)] [] σ Q
  unfold X11_refused at hT
  refine kj_iload_n dX11_refused_0 (pc' := 1) rfl rfl rfl ?_
  refine kj_iconst dX11_refused_1 (pc' := 2) rfl kc_0 ?_
  refine kj_iconst dX11_refused_2 (pc' := 3) rfl kc_2 ?_
  refine kcSz (as := [.inl x1, .inl 0, .inl 2]) (st := []) l_RX11_84 (m_X11_in (Nat.zero_le _) σ x1 0 2 rfl) rfl ⟨⟨rfl, rfl⟩, Nat.le_of_ble_eq_true rfl, Nat.le_of_ble_eq_true rfl⟩ (Nat.le_of_ble_eq_true rfl) dX11_refused_3 (pc' := 6) rfl (fun z1 => ?_)
  refine kj_if_ne dX11_refused_6 (tgt := 11) rfl (pc' := 9) rfl (fun c2 => ?_) (fun c2 => ?_)
  · rw [if_neg c2] at hT
    refine kj_iconst dX11_refused_11 (pc' := 12) rfl kc_0 ?_
    refine kj_istore_n dX11_refused_12 (pc' := 13) rfl rfl (Nat.le_of_ble_eq_true rfl) (ls' := [some (.inr 120), some (.inl x1), some (.inl 0)]) rfl ?_
    refine lp_ind (P := fun s => KJ E mX11_refused rmX11_refused 13 [some (.inr 120), some (.inl x1), some (.inl s)] [] σ Q) (fun rec13 s ih13 hT => ?_) FU (0) hT
    obtain ⟨x2, hs⟩ : ∃ z, z = s := ⟨_, rfl⟩
    subst hs
    show KJ E mX11_refused rmX11_refused 13 [some (.inr 120), some (.inl x1), some (.inl x2)] [] σ Q
    rw [X11_refused_B13] at hT
    refine kj_iload_n dX11_refused_13 (pc' := 14) rfl rfl rfl ?_
    refine kj_aload_n dX11_refused_14 (pc' := 15) rfl rfl rfl ?_
    refine kcVi (as := []) (st := [.inl x2]) l_RX11_147 (m_X11_listMany hE σ rfl) rfl (Nat.lt_of_lt_of_le (Nat.le_of_ble_eq_true rfl : 120 < 140) hE.1) rfl ⟨⟨rfl, rfl⟩, Nat.le_of_ble_eq_true rfl, Nat.le_of_ble_eq_true rfl⟩ (Nat.le_of_ble_eq_true rfl) dX11_refused_15 (pc' := 18) rfl ?_
    refine kj_icmp_ge dX11_refused_18 (tgt := 95) rfl (pc' := 21) rfl (fun c4 => ?_) (fun c4 => ?_)
    · rw [if_pos c4] at hT
      refine kj_bipush dX11_refused_95 (pc' := 97) rfl kb_m2 ?_
      have hR := Option.some.inj hT
      subst hR
      exact kj_iret rfl dX11_refused_97 (by subst hQ; exact ⟨rfl, rfl⟩)
    · rw [if_neg c4] at hT
      refine kj_iload_n dX11_refused_21 (pc' := 22) rfl rfl rfl ?_
      refine kj_iconst dX11_refused_22 (pc' := 23) rfl kc_1 ?_
      refine kj_iadd dX11_refused_23 (pc' := 24) rfl ?_
      refine kj_istore_n dX11_refused_24 (pc' := 25) rfl rfl (Nat.le_of_ble_eq_true rfl) (ls' := [some (.inr 120), some (.inl x1), some (.inl x2), some (.inl (x2 + 1))]) rfl ?_
      have hX25 : ∀ (_ : Unit), X11_refused_T89 rec13 x2 = some res → KJ E mX11_refused rmX11_refused 89 [some (.inr 120), some (.inl x1), some (.inl x2)] [] σ Q := by
        intro _ hT
        unfold X11_refused_T89 at hT
        refine kj_iinc dX11_refused_89 (pc' := 92) rfl rfl (congrArg (_ + ·) kc_1) (Nat.le_of_ble_eq_true rfl) (ls' := [some (.inr 120), some (.inl x1), some (.inl (x2 + 1))]) rfl ?_
        refine kj_goto dX11_refused_92 (pc' := 13) rfl ?_
        exact ih13 (x2 + 1) hT
      refine lp_ind (P := fun s => KJ E mX11_refused rmX11_refused 25 [some (.inr 120), some (.inl x1), some (.inl x2), some (.inl s)] [] σ Q) (fun rec25 s ih25 hT => ?_) FU (x2 + 1) hT
      obtain ⟨x3, hs⟩ : ∃ z, z = s := ⟨_, rfl⟩
      subst hs
      show KJ E mX11_refused rmX11_refused 25 [some (.inr 120), some (.inl x1), some (.inl x2), some (.inl x3)] [] σ Q
      rw [X11_refused_B25] at hT
      refine kj_iload_n dX11_refused_25 (pc' := 26) rfl rfl rfl ?_
      refine kj_aload_n dX11_refused_26 (pc' := 27) rfl rfl rfl ?_
      refine kcVi (as := []) (st := [.inl x3]) l_RX11_147 (m_X11_listMany hE σ rfl) rfl (Nat.lt_of_lt_of_le (Nat.le_of_ble_eq_true rfl : 120 < 140) hE.1) rfl ⟨⟨rfl, rfl⟩, Nat.le_of_ble_eq_true rfl, Nat.le_of_ble_eq_true rfl⟩ (Nat.le_of_ble_eq_true rfl) dX11_refused_27 (pc' := 30) rfl ?_
      refine kj_icmp_ge dX11_refused_30 (tgt := 89) rfl (pc' := 33) rfl (fun c6 => ?_) (fun c6 => ?_)
      · rw [if_pos c6] at hT
        refine kj_keep [true, true, true] (ls' := [some (.inr 120), some (.inl x1), some (.inl x2)]) rfl ?_
        exact hX25 () hT
      · rw [if_neg c6] at hT
        refine kj_aload_n dX11_refused_33 (pc' := 34) rfl rfl rfl ?_
        refine kj_getR f_RX11_13 rfl (Nat.lt_of_lt_of_le (Nat.le_of_ble_eq_true rfl : 120 < 140) hE.1) (hE.2 _ _) (q := 121) rfl dX11_refused_34 (pc' := 37) rfl ?_
        refine kj_bipush dX11_refused_37 (pc' := 39) rfl kb_22 ?_
        refine kj_iload_n dX11_refused_39 (pc' := 40) rfl rfl rfl ?_
        refine kj_iadd dX11_refused_40 (pc' := 41) rfl ?_
        obtain ⟨hi7, hT⟩ := ckA_some hT
        refine kj_iald rfl (Nat.lt_of_lt_of_le (Nat.le_of_ble_eq_true rfl : 121 < 140) hE.1) hi7 rfl dX11_refused_41 (pc' := 42) rfl ?_
        refine kj_aload_n dX11_refused_42 (pc' := 43) rfl rfl rfl ?_
        refine kj_getR f_RX11_13 rfl (Nat.lt_of_lt_of_le (Nat.le_of_ble_eq_true rfl : 120 < 140) hE.1) (hE.2 _ _) (q := 121) rfl dX11_refused_43 (pc' := 46) rfl ?_
        refine kj_bipush dX11_refused_46 (pc' := 48) rfl kb_22 ?_
        refine kj_iload_n dX11_refused_48 (pc' := 49) rfl rfl rfl ?_
        refine kj_iadd dX11_refused_49 (pc' := 50) rfl ?_
        obtain ⟨hi8, hT⟩ := ckA_some hT
        refine kj_iald rfl (Nat.lt_of_lt_of_le (Nat.le_of_ble_eq_true rfl : 121 < 140) hE.1) hi8 rfl dX11_refused_50 (pc' := 51) rfl ?_
        refine kj_ior dX11_refused_51 (pc' := 52) rfl ?_
        obtain ⟨x4, ex4, hT⟩ := lett_i hT
        rw [← ex4]
        refine kj_istore dX11_refused_52 (pc' := 54) rfl (Nat.le_of_ble_eq_true rfl) (ls' := [some (.inr 120), some (.inl x1), some (.inl x2), some (.inl x3), some (.inl x4)]) rfl ?_
        refine kj_aload_n dX11_refused_54 (pc' := 55) rfl rfl rfl ?_
        refine kj_iload dX11_refused_55 (pc' := 57) rfl rfl ?_
        obtain ⟨t9, ht9, hT⟩ := bind_some' hT
        refine kcVz (as := [.inl x4]) (st := []) l_RX11_150 (m_X11_isListed hE σ x4 ht9) rfl (Nat.lt_of_lt_of_le (Nat.le_of_ble_eq_true rfl : 120 < 140) hE.1) rfl ⟨⟨rfl, rfl⟩, Nat.le_of_ble_eq_true rfl, Nat.le_of_ble_eq_true rfl⟩ (Nat.le_of_ble_eq_true rfl) dX11_refused_57 (pc' := 60) rfl (fun z10 => ?_)
        refine kj_if_ne dX11_refused_60 (tgt := 83) rfl (pc' := 63) rfl (fun c11 => ?_) (fun c11 => ?_)
        · rw [if_neg c11] at hT
          refine kj_iinc dX11_refused_83 (pc' := 86) rfl rfl (congrArg (_ + ·) kc_1) (Nat.le_of_ble_eq_true rfl) (ls' := [some (.inr 120), some (.inl x1), some (.inl x2), some (.inl (x3 + 1)), some (.inl x4)]) rfl ?_
          refine kj_goto dX11_refused_86 (pc' := 25) rfl ?_
          refine kj_keep [true, true, true, true] (ls' := [some (.inr 120), some (.inl x1), some (.inl x2), some (.inl (x3 + 1))]) rfl ?_
          exact ih25 (x3 + 1) hT
        · rw [if_pos c11] at hT
          refine kj_iload_n dX11_refused_63 (pc' := 64) rfl rfl rfl ?_
          refine kj_if_ne dX11_refused_64 (tgt := 71) rfl (pc' := 67) rfl (fun c12 => ?_) (fun c12 => ?_)
          · rw [if_neg c12] at hT
            refine kj_iload_n dX11_refused_71 (pc' := 72) rfl rfl rfl ?_
            refine kj_iconst dX11_refused_72 (pc' := 73) rfl kc_1 ?_
            refine kj_icmp_ne dX11_refused_73 (tgt := 80) rfl (pc' := 76) rfl (fun c13 => ?_) (fun c13 => ?_)
            · rw [if_neg c13] at hT
              refine kj_iload dX11_refused_80 (pc' := 82) rfl rfl ?_
              have hR := Option.some.inj hT
              subst hR
              exact kj_iret rfl dX11_refused_82 (by subst hQ; exact ⟨rfl, rfl⟩)
            · rw [if_pos c13] at hT
              refine kj_iload_n dX11_refused_76 (pc' := 77) rfl rfl rfl ?_
              refine kj_goto dX11_refused_77 (pc' := 82) rfl ?_
              have hR := Option.some.inj hT
              subst hR
              exact kj_iret rfl dX11_refused_82 (by subst hQ; exact ⟨rfl, rfl⟩)
          · rw [if_pos c12] at hT
            refine kj_iload_n dX11_refused_67 (pc' := 68) rfl rfl rfl ?_
            refine kj_goto dX11_refused_68 (pc' := 82) rfl ?_
            have hR := Option.some.inj hT
            subst hR
            exact kj_iret rfl dX11_refused_82 (by subst hQ; exact ⟨rfl, rfl⟩)
  · rw [if_pos c2] at hT
    refine kj_iconst dX11_refused_9 (pc' := 10) rfl kc_m1 ?_
    have hR := Option.some.inj hT
    subst hR
    exact kj_iret rfl dX11_refused_10 (by subst hQ; exact ⟨rfl, rfl⟩)
def X11_needs_T87 (σ : Wd) : Option (Int32 × Wd) :=
  ((X11_manyOf σ 128).bind fun t1 => some ((t1 - 1) - (X11_listMany σ), σ))
def X11_needs_T81 (rec32 : Int32 × Wd → Option (Int32 × Wd)) (x1 : Int32) (σ : Wd) : Option (Int32 × Wd) :=
  rec32 (x1 + 1, σ)
def X11_needs_J75 (rec42 : Int32 × Wd → Option (Int32 × Wd)) (y2 : Int32) (ς : Wd) : Option (Int32 × Wd) :=
  rec42 (y2 + 1, ς)
def X11_needs_B42 (x1 : Int32) (kx42 : Wd → Option (Int32 × Wd)) (rec42 : Int32 × Wd → Option (Int32 × Wd)) : Int32 × Wd → Option (Int32 × Wd)
  | (x2, σ) => (if 128 ≤ x2 then kx42 σ else (ckA x2 128 <| (if (σ 128 x2.toNatClampNeg) = 0 then X11_needs_J75 rec42 x2 σ else (ckA (22 + x1) 42 <| (ckA (x2 ||| (σ 121 ((22 + x1).toNatClampNeg))) 128 <| X11_needs_J75 rec42 x2 (up σ 128 ((x2 ||| (σ 121 ((22 + x1).toNatClampNeg))).toNatClampNeg) 1))))))
def X11_needs_B32 (kx32 : Wd → Option (Int32 × Wd)) (rec32 : Int32 × Wd → Option (Int32 × Wd)) : Int32 × Wd → Option (Int32 × Wd)
  | (x1, σ) => (if (X11_listMany σ) ≤ x1 then kx32 σ else (lp (X11_needs_B42 x1 (X11_needs_T81 rec32 x1)) FU (0, σ)))
def X11_needs_T30 (σ : Wd) : Option (Int32 × Wd) :=
  (lp (X11_needs_B32 X11_needs_T87) FU (0, σ))
def X11_needs_J24 (rec2 : Int32 × Wd → Option (Int32 × Wd)) (y1 : Int32) (ς : Wd) : Option (Int32 × Wd) :=
  rec2 (y1 + 1, ς)
def X11_needs_B2 (kx2 : Wd → Option (Int32 × Wd)) (rec2 : Int32 × Wd → Option (Int32 × Wd)) : Int32 × Wd → Option (Int32 × Wd)
  | (x1, σ) => (if 128 ≤ x1 then kx2 σ else (if x1 = 0 then (ckA x1 128 <| X11_needs_J24 rec2 x1 (up σ 128 x1.toNatClampNeg 1)) else (ckA x1 128 <| X11_needs_J24 rec2 x1 (up σ 128 x1.toNatClampNeg 0))))
def X11_needs (σ : Wd) : Option (Int32 × Wd) :=
  (lp (X11_needs_B2 X11_needs_T30) FU (0, σ))
set_option maxRecDepth 100000 in
set_option maxHeartbeats 4000000 in
theorem m_X11_needs {E : JE} (hE : kOk 140 E) (σ : Wd) {res : Int32 × Wd} (hT : X11_needs σ = some res) : kMt E yX11_needs mX11_needs rmX11_needs [.inr 120] σ (kQi res.1 res.2) := by
  refine kMt_of (by decide +kernel) rfl (Nat.le_of_ble_eq_true rfl) ?_
  generalize hQ : (kQi res.1 res.2) = Q
  show KJ E mX11_needs rmX11_needs 0 [some (.inr 120)] [] σ Q
  unfold X11_needs at hT
  refine kj_iconst dX11_needs_0 (pc' := 1) rfl kc_0 ?_
  refine kj_istore_n dX11_needs_1 (pc' := 2) rfl rfl (Nat.le_of_ble_eq_true rfl) (ls' := [some (.inr 120), some (.inl 0)]) rfl ?_
  have hX2 : ∀ σ, X11_needs_T30 σ = some res → KJ E mX11_needs rmX11_needs 30 [some (.inr 120)] [] σ Q := by
    intro σ hT
    unfold X11_needs_T30 at hT
    refine kj_iconst dX11_needs_30 (pc' := 31) rfl kc_0 ?_
    refine kj_istore_n dX11_needs_31 (pc' := 32) rfl rfl (Nat.le_of_ble_eq_true rfl) (ls' := [some (.inr 120), some (.inl 0)]) rfl ?_
    have hX32 : ∀ σ, X11_needs_T87 σ = some res → KJ E mX11_needs rmX11_needs 87 [some (.inr 120)] [] σ Q := by
      intro σ hT
      unfold X11_needs_T87 at hT
      refine kj_aload_n dX11_needs_87 (pc' := 88) rfl rfl rfl ?_
      refine kj_getR f_RX11_36 rfl (Nat.lt_of_lt_of_le (Nat.le_of_ble_eq_true rfl : 120 < 140) hE.1) (hE.2 _ _) (q := 128) rfl dX11_needs_88 (pc' := 91) rfl ?_
      obtain ⟨t1, ht1, hT⟩ := bind_some' hT
      refine kcSi (as := [.inr 128]) (st := []) l_RX11_167 (m_X11_manyOf (Nat.zero_le _) rfl (Nat.lt_of_lt_of_le (Nat.le_of_ble_eq_true rfl : 128 < 140) hE.1) σ ht1) rfl ⟨⟨rfl, rfl⟩, Nat.le_of_ble_eq_true rfl, Nat.le_of_ble_eq_true rfl⟩ (Nat.le_of_ble_eq_true rfl) dX11_needs_91 (pc' := 94) rfl ?_
      refine kj_iconst dX11_needs_94 (pc' := 95) rfl kc_1 ?_
      refine kj_isub dX11_needs_95 (pc' := 96) rfl ?_
      refine kj_aload_n dX11_needs_96 (pc' := 97) rfl rfl rfl ?_
      refine kcVi (as := []) (st := [.inl (t1 - 1)]) l_RX11_147 (m_X11_listMany hE σ rfl) rfl (Nat.lt_of_lt_of_le (Nat.le_of_ble_eq_true rfl : 120 < 140) hE.1) rfl ⟨⟨rfl, rfl⟩, Nat.le_of_ble_eq_true rfl, Nat.le_of_ble_eq_true rfl⟩ (Nat.le_of_ble_eq_true rfl) dX11_needs_97 (pc' := 100) rfl ?_
      refine kj_isub dX11_needs_100 (pc' := 101) rfl ?_
      have hR := Option.some.inj hT
      subst hR
      exact kj_iret rfl dX11_needs_101 (by subst hQ; exact ⟨rfl, rfl⟩)
    refine lp_ind (P := fun s => KJ E mX11_needs rmX11_needs 32 [some (.inr 120), some (.inl s.1)] [] s.2 Q) (fun rec32 s ih32 hT => ?_) FU (0, σ) hT
    obtain ⟨x1, σ⟩ := s
    show KJ E mX11_needs rmX11_needs 32 [some (.inr 120), some (.inl x1)] [] σ Q
    rw [X11_needs_B32] at hT
    refine kj_iload_n dX11_needs_32 (pc' := 33) rfl rfl rfl ?_
    refine kj_aload_n dX11_needs_33 (pc' := 34) rfl rfl rfl ?_
    refine kcVi (as := []) (st := [.inl x1]) l_RX11_147 (m_X11_listMany hE σ rfl) rfl (Nat.lt_of_lt_of_le (Nat.le_of_ble_eq_true rfl : 120 < 140) hE.1) rfl ⟨⟨rfl, rfl⟩, Nat.le_of_ble_eq_true rfl, Nat.le_of_ble_eq_true rfl⟩ (Nat.le_of_ble_eq_true rfl) dX11_needs_34 (pc' := 37) rfl ?_
    refine kj_icmp_ge dX11_needs_37 (tgt := 87) rfl (pc' := 40) rfl (fun c2 => ?_) (fun c2 => ?_)
    · rw [if_pos c2] at hT
      refine kj_keep [true] (ls' := [some (.inr 120)]) rfl ?_
      exact hX32 σ hT
    · rw [if_neg c2] at hT
      refine kj_iconst dX11_needs_40 (pc' := 41) rfl kc_0 ?_
      refine kj_istore_n dX11_needs_41 (pc' := 42) rfl rfl (Nat.le_of_ble_eq_true rfl) (ls' := [some (.inr 120), some (.inl x1), some (.inl 0)]) rfl ?_
      have hX42 : ∀ σ, X11_needs_T81 rec32 x1 σ = some res → KJ E mX11_needs rmX11_needs 81 [some (.inr 120), some (.inl x1)] [] σ Q := by
        intro σ hT
        unfold X11_needs_T81 at hT
        refine kj_iinc dX11_needs_81 (pc' := 84) rfl rfl (congrArg (_ + ·) kc_1) (Nat.le_of_ble_eq_true rfl) (ls' := [some (.inr 120), some (.inl (x1 + 1))]) rfl ?_
        refine kj_goto dX11_needs_84 (pc' := 32) rfl ?_
        exact ih32 (x1 + 1, σ) hT
      refine lp_ind (P := fun s => KJ E mX11_needs rmX11_needs 42 [some (.inr 120), some (.inl x1), some (.inl s.1)] [] s.2 Q) (fun rec42 s ih42 hT => ?_) FU (0, σ) hT
      obtain ⟨x2, σ⟩ := s
      show KJ E mX11_needs rmX11_needs 42 [some (.inr 120), some (.inl x1), some (.inl x2)] [] σ Q
      rw [X11_needs_B42] at hT
      have hJ75_32_42 : ∀ y2 ς, X11_needs_J75 rec42 y2 ς = some res → KJ E mX11_needs rmX11_needs 75 [some (.inr 120), some (.inl x1), some (.inl y2)] [] ς Q := by
        intro y2 ς hT
        unfold X11_needs_J75 at hT
        refine kj_iinc dX11_needs_75 (pc' := 78) rfl rfl (congrArg (_ + ·) kc_1) (Nat.le_of_ble_eq_true rfl) (ls' := [some (.inr 120), some (.inl x1), some (.inl (y2 + 1))]) rfl ?_
        refine kj_goto dX11_needs_78 (pc' := 42) rfl ?_
        exact ih42 (y2 + 1, ς) hT
      refine kj_iload_n dX11_needs_42 (pc' := 43) rfl rfl rfl ?_
      refine kj_sipush dX11_needs_43 (pc' := 46) rfl ks_128 ?_
      refine kj_icmp_ge dX11_needs_46 (tgt := 81) rfl (pc' := 49) rfl (fun c3 => ?_) (fun c3 => ?_)
      · rw [if_pos c3] at hT
        refine kj_keep [true, true] (ls' := [some (.inr 120), some (.inl x1)]) rfl ?_
        exact hX42 σ hT
      · rw [if_neg c3] at hT
        refine kj_aload_n dX11_needs_49 (pc' := 50) rfl rfl rfl ?_
        refine kj_getR f_RX11_36 rfl (Nat.lt_of_lt_of_le (Nat.le_of_ble_eq_true rfl : 120 < 140) hE.1) (hE.2 _ _) (q := 128) rfl dX11_needs_50 (pc' := 53) rfl ?_
        refine kj_iload_n dX11_needs_53 (pc' := 54) rfl rfl rfl ?_
        obtain ⟨hi4, hT⟩ := ckA_some hT
        refine kj_zald rfl (Nat.lt_of_lt_of_le (Nat.le_of_ble_eq_true rfl : 128 < 140) hE.1) hi4 rfl dX11_needs_54 (pc' := 55) rfl ?_
        refine kj_if_eq dX11_needs_55 (tgt := 75) rfl (pc' := 58) rfl (fun c5 => ?_) (fun c5 => ?_)
        · rw [if_pos c5] at hT
          exact hJ75_32_42 x2 σ hT
        · rw [if_neg c5] at hT
          refine kj_aload_n dX11_needs_58 (pc' := 59) rfl rfl rfl ?_
          refine kj_getR f_RX11_36 rfl (Nat.lt_of_lt_of_le (Nat.le_of_ble_eq_true rfl : 120 < 140) hE.1) (hE.2 _ _) (q := 128) rfl dX11_needs_59 (pc' := 62) rfl ?_
          refine kj_iload_n dX11_needs_62 (pc' := 63) rfl rfl rfl ?_
          refine kj_aload_n dX11_needs_63 (pc' := 64) rfl rfl rfl ?_
          refine kj_getR f_RX11_13 rfl (Nat.lt_of_lt_of_le (Nat.le_of_ble_eq_true rfl : 120 < 140) hE.1) (hE.2 _ _) (q := 121) rfl dX11_needs_64 (pc' := 67) rfl ?_
          refine kj_bipush dX11_needs_67 (pc' := 69) rfl kb_22 ?_
          refine kj_iload_n dX11_needs_69 (pc' := 70) rfl rfl rfl ?_
          refine kj_iadd dX11_needs_70 (pc' := 71) rfl ?_
          obtain ⟨hi6, hT⟩ := ckA_some hT
          refine kj_iald rfl (Nat.lt_of_lt_of_le (Nat.le_of_ble_eq_true rfl : 121 < 140) hE.1) hi6 rfl dX11_needs_71 (pc' := 72) rfl ?_
          refine kj_ior dX11_needs_72 (pc' := 73) rfl ?_
          refine kj_iconst dX11_needs_73 (pc' := 74) rfl kc_1 ?_
          obtain ⟨hi7, hT⟩ := ckA_some hT
          refine kj_zast rfl (Nat.lt_of_lt_of_le (Nat.le_of_ble_eq_true rfl : 128 < 140) hE.1) hi7 (y := 1) (by decide +kernel) rfl dX11_needs_74 (pc' := 75) rfl ?_
          exact hJ75_32_42 x2 (up σ 128 ((x2 ||| (σ 121 ((22 + x1).toNatClampNeg))).toNatClampNeg) 1) hT
  refine lp_ind (P := fun s => KJ E mX11_needs rmX11_needs 2 [some (.inr 120), some (.inl s.1)] [] s.2 Q) (fun rec2 s ih2 hT => ?_) FU (0, σ) hT
  obtain ⟨x1, σ⟩ := s
  show KJ E mX11_needs rmX11_needs 2 [some (.inr 120), some (.inl x1)] [] σ Q
  rw [X11_needs_B2] at hT
  have hJ24_2 : ∀ y1 ς, X11_needs_J24 rec2 y1 ς = some res → KJ E mX11_needs rmX11_needs 24 [some (.inr 120), some (.inl y1)] [] ς Q := by
    intro y1 ς hT
    unfold X11_needs_J24 at hT
    refine kj_iinc dX11_needs_24 (pc' := 27) rfl rfl (congrArg (_ + ·) kc_1) (Nat.le_of_ble_eq_true rfl) (ls' := [some (.inr 120), some (.inl (y1 + 1))]) rfl ?_
    refine kj_goto dX11_needs_27 (pc' := 2) rfl ?_
    exact ih2 (y1 + 1, ς) hT
  refine kj_iload_n dX11_needs_2 (pc' := 3) rfl rfl rfl ?_
  refine kj_sipush dX11_needs_3 (pc' := 6) rfl ks_128 ?_
  refine kj_icmp_ge dX11_needs_6 (tgt := 30) rfl (pc' := 9) rfl (fun c8 => ?_) (fun c8 => ?_)
  · rw [if_pos c8] at hT
    refine kj_keep [true] (ls' := [some (.inr 120)]) rfl ?_
    exact hX2 σ hT
  · rw [if_neg c8] at hT
    refine kj_aload_n dX11_needs_9 (pc' := 10) rfl rfl rfl ?_
    refine kj_getR f_RX11_36 rfl (Nat.lt_of_lt_of_le (Nat.le_of_ble_eq_true rfl : 120 < 140) hE.1) (hE.2 _ _) (q := 128) rfl dX11_needs_10 (pc' := 13) rfl ?_
    refine kj_iload_n dX11_needs_13 (pc' := 14) rfl rfl rfl ?_
    refine kj_iload_n dX11_needs_14 (pc' := 15) rfl rfl rfl ?_
    refine kj_if_ne dX11_needs_15 (tgt := 22) rfl (pc' := 18) rfl (fun c9 => ?_) (fun c9 => ?_)
    · rw [if_neg c9] at hT
      refine kj_iconst dX11_needs_22 (pc' := 23) rfl kc_0 ?_
      obtain ⟨hi10, hT⟩ := ckA_some hT
      refine kj_zast rfl (Nat.lt_of_lt_of_le (Nat.le_of_ble_eq_true rfl : 128 < 140) hE.1) hi10 (y := 0) (by decide +kernel) rfl dX11_needs_23 (pc' := 24) rfl ?_
      exact hJ24_2 x1 (up σ 128 x1.toNatClampNeg 0) hT
    · rw [if_pos c9] at hT
      refine kj_iconst dX11_needs_18 (pc' := 19) rfl kc_1 ?_
      refine kj_goto dX11_needs_19 (pc' := 23) rfl ?_
      obtain ⟨hi11, hT⟩ := ckA_some hT
      refine kj_zast rfl (Nat.lt_of_lt_of_le (Nat.le_of_ble_eq_true rfl : 128 < 140) hE.1) hi11 (y := 1) (by decide +kernel) rfl dX11_needs_23 (pc' := 24) rfl ?_
      exact hJ24_2 x1 (up σ 128 x1.toNatClampNeg 1) hT
def X11_writes (σ : Wd) (x1 : Int32) : Option (Wd) :=
  (ckA (σ 120 21) 400 <| some (up (up σ 137 ((σ 120 21).toNatClampNeg) x1) 120 21 (((up σ 137 ((σ 120 21).toNatClampNeg) x1) 120 21) + 1)))
set_option maxRecDepth 100000 in
set_option maxHeartbeats 4000000 in
theorem m_X11_writes {E : JE} (hE : kOk 140 E) (σ : Wd) (x1 : Int32) {res : Wd} (hT : X11_writes σ x1 = some res) : kMt E yX11_writes mX11_writes rmX11_writes [.inr 120, .inl x1] σ (kQv res) := by
  refine kMt_of (by decide +kernel) rfl (Nat.le_of_ble_eq_true rfl) ?_
  generalize hQ : (kQv res) = Q
  show KJ E mX11_writes rmX11_writes 0 [some (.inr 120), some (.inl x1)] [] σ Q
  unfold X11_writes at hT
  refine kj_aload_n dX11_writes_0 (pc' := 1) rfl rfl rfl ?_
  refine kj_getR f_RX11_63 rfl (Nat.lt_of_lt_of_le (Nat.le_of_ble_eq_true rfl : 120 < 140) hE.1) (hE.2 _ _) (q := 137) rfl dX11_writes_1 (pc' := 4) rfl ?_
  refine kj_aload_n dX11_writes_4 (pc' := 5) rfl rfl rfl ?_
  refine kj_getI f_RX11_254 rfl (Nat.lt_of_lt_of_le (Nat.le_of_ble_eq_true rfl : 120 < 140) hE.1) dX11_writes_5 (pc' := 8) rfl ?_
  refine kj_iload_n dX11_writes_8 (pc' := 9) rfl rfl rfl ?_
  obtain ⟨hi1, hT⟩ := ckA_some hT
  refine kj_iast rfl (Nat.lt_of_lt_of_le (Nat.le_of_ble_eq_true rfl : 137 < 140) hE.1) hi1 rfl dX11_writes_9 (pc' := 10) rfl ?_
  refine kj_aload_n dX11_writes_10 (pc' := 11) rfl rfl rfl ?_
  refine kj_dup dX11_writes_11 (pc' := 12) rfl ?_
  refine kj_getI f_RX11_254 rfl (Nat.lt_of_lt_of_le (Nat.le_of_ble_eq_true rfl : 120 < 140) hE.1) dX11_writes_12 (pc' := 15) rfl ?_
  refine kj_iconst dX11_writes_15 (pc' := 16) rfl kc_1 ?_
  refine kj_iadd dX11_writes_16 (pc' := 17) rfl ?_
  refine kj_putI p_RX11_254 rfl rfl rfl (Nat.lt_of_lt_of_le (Nat.le_of_ble_eq_true rfl : 120 < 140) hE.1) dX11_writes_17 (pc' := 20) rfl ?_
  have hR := Option.some.inj hT
  subst hR
  exact kj_vret rfl dX11_writes_20 (by subst hQ; exact ⟨rfl, rfl⟩)
def X11_wordFrom_J20 (rec4 : Int32 × Int32 → Option (Int32)) (y2 : Int32) (y3 : Int32) : Option (Int32) :=
  rec4 (y2 + 1, y3)
def X11_wordFrom_B4 (σ : Wd) (rec4 : Int32 × Int32 → Option (Int32)) : Int32 × Int32 → Option (Int32)
  | (x2, x3) => (if x3 ≤ 0 then some x2 else (ckA x2 18 <| (if (σ 139 x2.toNatClampNeg) = 0 then X11_wordFrom_J20 rec4 x2 (x3 + (-1)) else X11_wordFrom_J20 rec4 x2 x3)))
def X11_wordFrom (σ : Wd) (x1 : Int32) : Option (Int32) :=
  (lp (X11_wordFrom_B4 σ) FU (0, x1))
set_option maxRecDepth 100000 in
set_option maxHeartbeats 4000000 in
theorem m_X11_wordFrom {E : JE} (hE : kOk 140 E) (σ : Wd) (x1 : Int32) {res : Int32} (hT : X11_wordFrom σ x1 = some res) : kMt E yX11_wordFrom mX11_wordFrom rmX11_wordFrom [.inr 120, .inl x1] σ (kQi res σ) := by
  refine kMt_of (by decide +kernel) rfl (Nat.le_of_ble_eq_true rfl) ?_
  generalize hQ : (kQi res σ) = Q
  show KJ E mX11_wordFrom rmX11_wordFrom 0 [some (.inr 120), some (.inl x1)] [] σ Q
  unfold X11_wordFrom at hT
  refine kj_iconst dX11_wordFrom_0 (pc' := 1) rfl kc_0 ?_
  refine kj_istore_n dX11_wordFrom_1 (pc' := 2) rfl rfl (Nat.le_of_ble_eq_true rfl) (ls' := [some (.inr 120), some (.inl x1), some (.inl 0)]) rfl ?_
  refine kj_iload_n dX11_wordFrom_2 (pc' := 3) rfl rfl rfl ?_
  refine kj_istore_n dX11_wordFrom_3 (pc' := 4) rfl rfl (Nat.le_of_ble_eq_true rfl) (ls' := [some (.inr 120), some (.inl x1), some (.inl 0), some (.inl x1)]) rfl ?_
  refine kj_keep [true, false, true, true] (ls' := [some (.inr 120), none, some (.inl 0), some (.inl x1)]) rfl ?_
  refine lp_ind (P := fun s => KJ E mX11_wordFrom rmX11_wordFrom 4 [some (.inr 120), none, some (.inl s.1), some (.inl s.2)] [] σ Q) (fun rec4 s ih4 hT => ?_) FU (0, x1) hT
  obtain ⟨x2, x3⟩ := s
  show KJ E mX11_wordFrom rmX11_wordFrom 4 [some (.inr 120), none, some (.inl x2), some (.inl x3)] [] σ Q
  rw [X11_wordFrom_B4] at hT
  have hJ20_4 : ∀ y2 y3, X11_wordFrom_J20 rec4 y2 y3 = some res → KJ E mX11_wordFrom rmX11_wordFrom 20 [some (.inr 120), none, some (.inl y2), some (.inl y3)] [] σ Q := by
    intro y2 y3 hT
    unfold X11_wordFrom_J20 at hT
    refine kj_iinc dX11_wordFrom_20 (pc' := 23) rfl rfl (congrArg (_ + ·) kc_1) (Nat.le_of_ble_eq_true rfl) (ls' := [some (.inr 120), none, some (.inl (y2 + 1)), some (.inl y3)]) rfl ?_
    refine kj_goto dX11_wordFrom_23 (pc' := 4) rfl ?_
    exact ih4 (y2 + 1, y3) hT
  refine kj_iload_n dX11_wordFrom_4 (pc' := 5) rfl rfl rfl ?_
  refine kj_if_le dX11_wordFrom_5 (tgt := 26) rfl (pc' := 8) rfl (fun c2 => ?_) (fun c2 => ?_)
  · rw [if_pos c2] at hT
    refine kj_iload_n dX11_wordFrom_26 (pc' := 27) rfl rfl rfl ?_
    have hR := Option.some.inj hT
    subst hR
    exact kj_iret rfl dX11_wordFrom_27 (by subst hQ; exact ⟨rfl, rfl⟩)
  · rw [if_neg c2] at hT
    refine kj_aload_n dX11_wordFrom_8 (pc' := 9) rfl rfl rfl ?_
    refine kj_getR f_RX11_69 rfl (Nat.lt_of_lt_of_le (Nat.le_of_ble_eq_true rfl : 120 < 140) hE.1) (hE.2 _ _) (q := 139) rfl dX11_wordFrom_9 (pc' := 12) rfl ?_
    refine kj_iload_n dX11_wordFrom_12 (pc' := 13) rfl rfl rfl ?_
    obtain ⟨hi3, hT⟩ := ckA_some hT
    refine kj_bald rfl (Nat.lt_of_lt_of_le (Nat.le_of_ble_eq_true rfl : 139 < 140) hE.1) hi3 rfl dX11_wordFrom_13 (pc' := 14) rfl ?_
    refine kj_if_ne dX11_wordFrom_14 (tgt := 20) rfl (pc' := 17) rfl (fun c4 => ?_) (fun c4 => ?_)
    · rw [if_neg c4] at hT
      exact hJ20_4 x2 x3 hT
    · rw [if_pos c4] at hT
      refine kj_iinc dX11_wordFrom_17 (pc' := 20) rfl rfl (congrArg (_ + ·) kc_m1) (Nat.le_of_ble_eq_true rfl) (ls' := [some (.inr 120), none, some (.inl x2), some (.inl (x3 + (-1)))]) rfl ?_
      exact hJ20_4 x2 (x3 + (-1)) hT
def X11_writesWord_B6 (rec6 : Int32 × Wd → Option (Wd)) : Int32 × Wd → Option (Wd)
  | (x2, σ) => (ckA x2 18 <| (if (σ 139 x2.toNatClampNeg) = 0 then ((X11_writes σ 32).bind fun σ4 => some σ4) else (ckA x2 18 <| ((X11_writes σ (σ 139 x2.toNatClampNeg)).bind fun σ6 => rec6 (x2 + 1, σ6)))))
def X11_writesWord (σ : Wd) (x1 : Int32) : Option (Wd) :=
  ((X11_wordFrom σ x1).bind fun t1 => (lp (X11_writesWord_B6) FU (t1, σ)))
set_option maxRecDepth 100000 in
set_option maxHeartbeats 4000000 in
theorem m_X11_writesWord {E : JE} (hE : kOk 140 E) (σ : Wd) (x1 : Int32) {res : Wd} (hT : X11_writesWord σ x1 = some res) : kMt E yX11_writesWord mX11_writesWord rmX11_writesWord [.inr 120, .inl x1] σ (kQv res) := by
  refine kMt_of (by decide +kernel) rfl (Nat.le_of_ble_eq_true rfl) ?_
  generalize hQ : (kQv res) = Q
  show KJ E mX11_writesWord rmX11_writesWord 0 [some (.inr 120), some (.inl x1)] [] σ Q
  unfold X11_writesWord at hT
  refine kj_aload_n dX11_writesWord_0 (pc' := 1) rfl rfl rfl ?_
  refine kj_iload_n dX11_writesWord_1 (pc' := 2) rfl rfl rfl ?_
  obtain ⟨t1, ht1, hT⟩ := bind_some' hT
  refine kcVi (as := [.inl x1]) (st := []) l_RX11_257 (m_X11_wordFrom hE σ x1 ht1) rfl (Nat.lt_of_lt_of_le (Nat.le_of_ble_eq_true rfl : 120 < 140) hE.1) rfl ⟨⟨rfl, rfl⟩, Nat.le_of_ble_eq_true rfl, Nat.le_of_ble_eq_true rfl⟩ (Nat.le_of_ble_eq_true rfl) dX11_writesWord_2 (pc' := 5) rfl ?_
  refine kj_istore_n dX11_writesWord_5 (pc' := 6) rfl rfl (Nat.le_of_ble_eq_true rfl) (ls' := [some (.inr 120), some (.inl x1), some (.inl t1)]) rfl ?_
  refine kj_keep [true, false, true] (ls' := [some (.inr 120), none, some (.inl t1)]) rfl ?_
  refine lp_ind (P := fun s => KJ E mX11_writesWord rmX11_writesWord 6 [some (.inr 120), none, some (.inl s.1)] [] s.2 Q) (fun rec6 s ih6 hT => ?_) FU (t1, σ) hT
  obtain ⟨x2, σ⟩ := s
  show KJ E mX11_writesWord rmX11_writesWord 6 [some (.inr 120), none, some (.inl x2)] [] σ Q
  rw [X11_writesWord_B6] at hT
  refine kj_aload_n dX11_writesWord_6 (pc' := 7) rfl rfl rfl ?_
  refine kj_getR f_RX11_69 rfl (Nat.lt_of_lt_of_le (Nat.le_of_ble_eq_true rfl : 120 < 140) hE.1) (hE.2 _ _) (q := 139) rfl dX11_writesWord_7 (pc' := 10) rfl ?_
  refine kj_iload_n dX11_writesWord_10 (pc' := 11) rfl rfl rfl ?_
  obtain ⟨hi2, hT⟩ := ckA_some hT
  refine kj_bald rfl (Nat.lt_of_lt_of_le (Nat.le_of_ble_eq_true rfl : 139 < 140) hE.1) hi2 rfl dX11_writesWord_11 (pc' := 12) rfl ?_
  refine kj_if_eq dX11_writesWord_12 (tgt := 31) rfl (pc' := 15) rfl (fun c3 => ?_) (fun c3 => ?_)
  · rw [if_pos c3] at hT
    refine kj_aload_n dX11_writesWord_31 (pc' := 32) rfl rfl rfl ?_
    refine kj_bipush dX11_writesWord_32 (pc' := 34) rfl kb_32 ?_
    obtain ⟨σ4, hσ4, hT⟩ := bind_some' hT
    refine kcVv (as := [.inl 32]) (st := []) l_RX11_260 (m_X11_writes hE σ 32 hσ4) rfl (Nat.lt_of_lt_of_le (Nat.le_of_ble_eq_true rfl : 120 < 140) hE.1) rfl ⟨⟨rfl, rfl⟩, Nat.le_of_ble_eq_true rfl, Nat.le_of_ble_eq_true rfl⟩ (Nat.le_of_ble_eq_true rfl) dX11_writesWord_34 (pc' := 37) rfl ?_
    have hR := Option.some.inj hT
    subst hR
    exact kj_vret rfl dX11_writesWord_37 (by subst hQ; exact ⟨rfl, rfl⟩)
  · rw [if_neg c3] at hT
    refine kj_aload_n dX11_writesWord_15 (pc' := 16) rfl rfl rfl ?_
    refine kj_aload_n dX11_writesWord_16 (pc' := 17) rfl rfl rfl ?_
    refine kj_getR f_RX11_69 rfl (Nat.lt_of_lt_of_le (Nat.le_of_ble_eq_true rfl : 120 < 140) hE.1) (hE.2 _ _) (q := 139) rfl dX11_writesWord_17 (pc' := 20) rfl ?_
    refine kj_iload_n dX11_writesWord_20 (pc' := 21) rfl rfl rfl ?_
    obtain ⟨hi5, hT⟩ := ckA_some hT
    refine kj_bald rfl (Nat.lt_of_lt_of_le (Nat.le_of_ble_eq_true rfl : 139 < 140) hE.1) hi5 rfl dX11_writesWord_21 (pc' := 22) rfl ?_
    obtain ⟨σ6, hσ6, hT⟩ := bind_some' hT
    refine kcVv (as := [.inl (σ 139 x2.toNatClampNeg)]) (st := []) l_RX11_260 (m_X11_writes hE σ (σ 139 x2.toNatClampNeg) hσ6) rfl (Nat.lt_of_lt_of_le (Nat.le_of_ble_eq_true rfl : 120 < 140) hE.1) rfl ⟨⟨rfl, rfl⟩, Nat.le_of_ble_eq_true rfl, Nat.le_of_ble_eq_true rfl⟩ (Nat.le_of_ble_eq_true rfl) dX11_writesWord_22 (pc' := 25) rfl ?_
    refine kj_iinc dX11_writesWord_25 (pc' := 28) rfl rfl (congrArg (_ + ·) kc_1) (Nat.le_of_ble_eq_true rfl) (ls' := [some (.inr 120), none, some (.inl (x2 + 1))]) rfl ?_
    refine kj_goto dX11_writesWord_28 (pc' := 6) rfl ?_
    exact ih6 (x2 + 1, σ6) hT
def X11_spell_T174 (x1 : Int32) (σ : Wd) : Option (Int32 × Wd) :=
  (if x1 = (-1) then some (σ 120 21, σ) else (if (σ 120 21) ≤ x1 then some ((-2), σ) else (ckA x1 400 <| some (σ 137 x1.toNatClampNeg, σ))))
def X11_spell_T162 (rec111 : Int32 × Wd → Option (Int32 × Wd)) (x2 : Int32) (σ : Wd) : Option (Int32 × Wd) :=
  ((X11_writes σ 59).bind fun σ10 => rec111 (x2 + 1, σ10))
def X11_spell_J156 (rec126 : Int32 × Wd → Option (Int32 × Wd)) (y3 : Int32) (ς : Wd) : Option (Int32 × Wd) :=
  rec126 (y3 + 1, ς)
def X11_spell_B126 (x2 : Int32) (kx126 : Wd → Option (Int32 × Wd)) (rec126 : Int32 × Wd → Option (Int32 × Wd)) : Int32 × Wd → Option (Int32 × Wd)
  | (x3, σ) => (if (σ 121 0) ≤ x3 then kx126 σ else ((X11_gen σ x2).bind fun t12 => (if (X11_has t12 x3) = 0 then X11_spell_J156 rec126 x3 σ else ((X11_writes σ (97 + x3)).bind fun σ15 => X11_spell_J156 rec126 x3 σ15))))
def X11_spell_B111 (kx111 : Wd → Option (Int32 × Wd)) (rec111 : Int32 × Wd → Option (Int32 × Wd)) : Int32 × Wd → Option (Int32 × Wd)
  | (x2, σ) => (if (X11_many σ) ≤ x2 then kx111 σ else ((X11_writesWord σ 2).bind fun σ9 => (lp (X11_spell_B126 x2 (X11_spell_T162 rec111 x2)) FU (0, σ9))))
def X11_spell_T109 (x1 : Int32) (σ : Wd) : Option (Int32 × Wd) :=
  (lp (X11_spell_B111 (X11_spell_T174 x1)) FU (0, σ))
def X11_spell_J103 (rec38 : Int32 × Wd → Option (Int32 × Wd)) (y2 : Int32) (ς : Wd) : Option (Int32 × Wd) :=
  rec38 (y2 + 1, ς)
def X11_spell_B38 (kx38 : Wd → Option (Int32 × Wd)) (rec38 : Int32 × Wd → Option (Int32 × Wd)) : Int32 × Wd → Option (Int32 × Wd)
  | (x2, σ) => (if (σ 121 0) ≤ x2 then kx38 σ else (ckA (3 + x2) 42 <| (if (σ 121 ((3 + x2).toNatClampNeg)) = 1 then X11_spell_J103 rec38 x2 σ else ((X11_writesWord σ 1).bind fun σ19 => ((X11_writes σ19 (97 + x2)).bind fun σ20 => ((X11_writes σ20 32).bind fun σ21 => (ckA (3 + x2) 42 <| ((X11_writes σ21 (48 + (σ21 121 ((3 + x2).toNatClampNeg)))).bind fun σ23 => ((X11_writes σ23 59).bind fun σ24 => X11_spell_J103 rec38 x2 σ24)))))))))
def X11_spell (σ : Wd) (x1 : Int32) : Option (Int32 × Wd) :=
  (if (-1) ≤ x1 then ((X11_writesWord (up σ 120 21 0) 0).bind fun σ2 => ((X11_writes σ2 (48 + (σ2 121 0))).bind fun σ3 => ((X11_writes σ3 59).bind fun σ4 => (lp (X11_spell_B38 (X11_spell_T109 x1)) FU (0, σ4))))) else some ((-1), σ))
set_option maxRecDepth 100000 in
set_option maxHeartbeats 4000000 in
theorem m_X11_spell {E : JE} (hE : kOk 140 E) (σ : Wd) (x1 : Int32) {res : Int32 × Wd} (hT : X11_spell σ x1 = some res) : kMt E yX11_spell mX11_spell rmX11_spell [.inr 120, .inl x1] σ (kQi res.1 res.2) := by
  refine kMt_of (by decide +kernel) rfl (Nat.le_of_ble_eq_true rfl) ?_
  generalize hQ : (kQi res.1 res.2) = Q
  show KJ E mX11_spell rmX11_spell 0 [some (.inr 120), some (.inl x1)] [] σ Q
  unfold X11_spell at hT
  refine kj_iload_n dX11_spell_0 (pc' := 1) rfl rfl rfl ?_
  refine kj_iconst dX11_spell_1 (pc' := 2) rfl kc_m1 ?_
  refine kj_icmp_ge dX11_spell_2 (tgt := 7) rfl (pc' := 5) rfl (fun c1 => ?_) (fun c1 => ?_)
  · rw [if_pos c1] at hT
    refine kj_aload_n dX11_spell_7 (pc' := 8) rfl rfl rfl ?_
    refine kj_iconst dX11_spell_8 (pc' := 9) rfl kc_0 ?_
    refine kj_putI p_RX11_254 rfl rfl rfl (Nat.lt_of_lt_of_le (Nat.le_of_ble_eq_true rfl : 120 < 140) hE.1) dX11_spell_9 (pc' := 12) rfl ?_
    refine kj_aload_n dX11_spell_12 (pc' := 13) rfl rfl rfl ?_
    refine kj_iconst dX11_spell_13 (pc' := 14) rfl kc_0 ?_
    obtain ⟨σ2, hσ2, hT⟩ := bind_some' hT
    refine kcVv (as := [.inl 0]) (st := []) l_RX11_263 (m_X11_writesWord hE (up σ 120 21 0) 0 hσ2) rfl (Nat.lt_of_lt_of_le (Nat.le_of_ble_eq_true rfl : 120 < 140) hE.1) rfl ⟨⟨rfl, rfl⟩, Nat.le_of_ble_eq_true rfl, Nat.le_of_ble_eq_true rfl⟩ (Nat.le_of_ble_eq_true rfl) dX11_spell_14 (pc' := 17) rfl ?_
    refine kj_aload_n dX11_spell_17 (pc' := 18) rfl rfl rfl ?_
    refine kj_bipush dX11_spell_18 (pc' := 20) rfl kb_48 ?_
    refine kj_aload_n dX11_spell_20 (pc' := 21) rfl rfl rfl ?_
    refine kj_getR f_RX11_13 rfl (Nat.lt_of_lt_of_le (Nat.le_of_ble_eq_true rfl : 120 < 140) hE.1) (hE.2 _ _) (q := 121) rfl dX11_spell_21 (pc' := 24) rfl ?_
    refine kj_iconst dX11_spell_24 (pc' := 25) rfl kc_0 ?_
    refine kj_iald rfl (Nat.lt_of_lt_of_le (Nat.le_of_ble_eq_true rfl : 121 < 140) hE.1) (vp_lit (by decide +kernel)) (j := 0) (by decide +kernel) dX11_spell_25 (pc' := 26) rfl ?_
    refine kj_iadd dX11_spell_26 (pc' := 27) rfl ?_
    obtain ⟨σ3, hσ3, hT⟩ := bind_some' hT
    refine kcVv (as := [.inl (48 + (σ2 121 0))]) (st := []) l_RX11_260 (m_X11_writes hE σ2 (48 + (σ2 121 0)) hσ3) rfl (Nat.lt_of_lt_of_le (Nat.le_of_ble_eq_true rfl : 120 < 140) hE.1) rfl ⟨⟨rfl, rfl⟩, Nat.le_of_ble_eq_true rfl, Nat.le_of_ble_eq_true rfl⟩ (Nat.le_of_ble_eq_true rfl) dX11_spell_27 (pc' := 30) rfl ?_
    refine kj_aload_n dX11_spell_30 (pc' := 31) rfl rfl rfl ?_
    refine kj_bipush dX11_spell_31 (pc' := 33) rfl kb_59 ?_
    obtain ⟨σ4, hσ4, hT⟩ := bind_some' hT
    refine kcVv (as := [.inl 59]) (st := []) l_RX11_260 (m_X11_writes hE σ3 59 hσ4) rfl (Nat.lt_of_lt_of_le (Nat.le_of_ble_eq_true rfl : 120 < 140) hE.1) rfl ⟨⟨rfl, rfl⟩, Nat.le_of_ble_eq_true rfl, Nat.le_of_ble_eq_true rfl⟩ (Nat.le_of_ble_eq_true rfl) dX11_spell_33 (pc' := 36) rfl ?_
    refine kj_iconst dX11_spell_36 (pc' := 37) rfl kc_0 ?_
    refine kj_istore_n dX11_spell_37 (pc' := 38) rfl rfl (Nat.le_of_ble_eq_true rfl) (ls' := [some (.inr 120), some (.inl x1), some (.inl 0)]) rfl ?_
    have hX38 : ∀ σ, X11_spell_T109 x1 σ = some res → KJ E mX11_spell rmX11_spell 109 [some (.inr 120), some (.inl x1)] [] σ Q := by
      intro σ hT
      unfold X11_spell_T109 at hT
      refine kj_iconst dX11_spell_109 (pc' := 110) rfl kc_0 ?_
      refine kj_istore_n dX11_spell_110 (pc' := 111) rfl rfl (Nat.le_of_ble_eq_true rfl) (ls' := [some (.inr 120), some (.inl x1), some (.inl 0)]) rfl ?_
      have hX111 : ∀ σ, X11_spell_T174 x1 σ = some res → KJ E mX11_spell rmX11_spell 174 [some (.inr 120), some (.inl x1)] [] σ Q := by
        intro σ hT
        unfold X11_spell_T174 at hT
        refine kj_iload_n dX11_spell_174 (pc' := 175) rfl rfl rfl ?_
        refine kj_iconst dX11_spell_175 (pc' := 176) rfl kc_m1 ?_
        refine kj_icmp_ne dX11_spell_176 (tgt := 186) rfl (pc' := 179) rfl (fun c5 => ?_) (fun c5 => ?_)
        · rw [if_neg c5] at hT
          refine kj_iload_n dX11_spell_186 (pc' := 187) rfl rfl rfl ?_
          refine kj_aload_n dX11_spell_187 (pc' := 188) rfl rfl rfl ?_
          refine kj_getI f_RX11_254 rfl (Nat.lt_of_lt_of_le (Nat.le_of_ble_eq_true rfl : 120 < 140) hE.1) dX11_spell_188 (pc' := 191) rfl ?_
          refine kj_icmp_ge dX11_spell_191 (tgt := 203) rfl (pc' := 194) rfl (fun c6 => ?_) (fun c6 => ?_)
          · rw [if_pos c6] at hT
            refine kj_bipush dX11_spell_203 (pc' := 205) rfl kb_m2 ?_
            have hR := Option.some.inj hT
            subst hR
            exact kj_iret rfl dX11_spell_205 (by subst hQ; exact ⟨rfl, rfl⟩)
          · rw [if_neg c6] at hT
            refine kj_aload_n dX11_spell_194 (pc' := 195) rfl rfl rfl ?_
            refine kj_getR f_RX11_63 rfl (Nat.lt_of_lt_of_le (Nat.le_of_ble_eq_true rfl : 120 < 140) hE.1) (hE.2 _ _) (q := 137) rfl dX11_spell_195 (pc' := 198) rfl ?_
            refine kj_iload_n dX11_spell_198 (pc' := 199) rfl rfl rfl ?_
            obtain ⟨hi7, hT⟩ := ckA_some hT
            refine kj_iald rfl (Nat.lt_of_lt_of_le (Nat.le_of_ble_eq_true rfl : 137 < 140) hE.1) hi7 rfl dX11_spell_199 (pc' := 200) rfl ?_
            refine kj_goto dX11_spell_200 (pc' := 205) rfl ?_
            have hR := Option.some.inj hT
            subst hR
            exact kj_iret rfl dX11_spell_205 (by subst hQ; exact ⟨rfl, rfl⟩)
        · rw [if_pos c5] at hT
          refine kj_aload_n dX11_spell_179 (pc' := 180) rfl rfl rfl ?_
          refine kj_getI f_RX11_254 rfl (Nat.lt_of_lt_of_le (Nat.le_of_ble_eq_true rfl : 120 < 140) hE.1) dX11_spell_180 (pc' := 183) rfl ?_
          refine kj_goto dX11_spell_183 (pc' := 205) rfl ?_
          have hR := Option.some.inj hT
          subst hR
          exact kj_iret rfl dX11_spell_205 (by subst hQ; exact ⟨rfl, rfl⟩)
      refine lp_ind (P := fun s => KJ E mX11_spell rmX11_spell 111 [some (.inr 120), some (.inl x1), some (.inl s.1)] [] s.2 Q) (fun rec111 s ih111 hT => ?_) FU (0, σ) hT
      obtain ⟨x2, σ⟩ := s
      show KJ E mX11_spell rmX11_spell 111 [some (.inr 120), some (.inl x1), some (.inl x2)] [] σ Q
      rw [X11_spell_B111] at hT
      refine kj_iload_n dX11_spell_111 (pc' := 112) rfl rfl rfl ?_
      refine kj_aload_n dX11_spell_112 (pc' := 113) rfl rfl rfl ?_
      refine kcVi (as := []) (st := [.inl x2]) l_RX11_80 (m_X11_many hE σ rfl) rfl (Nat.lt_of_lt_of_le (Nat.le_of_ble_eq_true rfl : 120 < 140) hE.1) rfl ⟨⟨rfl, rfl⟩, Nat.le_of_ble_eq_true rfl, Nat.le_of_ble_eq_true rfl⟩ (Nat.le_of_ble_eq_true rfl) dX11_spell_113 (pc' := 116) rfl ?_
      refine kj_icmp_ge dX11_spell_116 (tgt := 174) rfl (pc' := 119) rfl (fun c8 => ?_) (fun c8 => ?_)
      · rw [if_pos c8] at hT
        refine kj_keep [true, true] (ls' := [some (.inr 120), some (.inl x1)]) rfl ?_
        exact hX111 σ hT
      · rw [if_neg c8] at hT
        refine kj_aload_n dX11_spell_119 (pc' := 120) rfl rfl rfl ?_
        refine kj_iconst dX11_spell_120 (pc' := 121) rfl kc_2 ?_
        obtain ⟨σ9, hσ9, hT⟩ := bind_some' hT
        refine kcVv (as := [.inl 2]) (st := []) l_RX11_263 (m_X11_writesWord hE σ 2 hσ9) rfl (Nat.lt_of_lt_of_le (Nat.le_of_ble_eq_true rfl : 120 < 140) hE.1) rfl ⟨⟨rfl, rfl⟩, Nat.le_of_ble_eq_true rfl, Nat.le_of_ble_eq_true rfl⟩ (Nat.le_of_ble_eq_true rfl) dX11_spell_121 (pc' := 124) rfl ?_
        refine kj_iconst dX11_spell_124 (pc' := 125) rfl kc_0 ?_
        refine kj_istore_n dX11_spell_125 (pc' := 126) rfl rfl (Nat.le_of_ble_eq_true rfl) (ls' := [some (.inr 120), some (.inl x1), some (.inl x2), some (.inl 0)]) rfl ?_
        have hX126 : ∀ σ, X11_spell_T162 rec111 x2 σ = some res → KJ E mX11_spell rmX11_spell 162 [some (.inr 120), some (.inl x1), some (.inl x2)] [] σ Q := by
          intro σ hT
          unfold X11_spell_T162 at hT
          refine kj_aload_n dX11_spell_162 (pc' := 163) rfl rfl rfl ?_
          refine kj_bipush dX11_spell_163 (pc' := 165) rfl kb_59 ?_
          obtain ⟨σ10, hσ10, hT⟩ := bind_some' hT
          refine kcVv (as := [.inl 59]) (st := []) l_RX11_260 (m_X11_writes hE σ 59 hσ10) rfl (Nat.lt_of_lt_of_le (Nat.le_of_ble_eq_true rfl : 120 < 140) hE.1) rfl ⟨⟨rfl, rfl⟩, Nat.le_of_ble_eq_true rfl, Nat.le_of_ble_eq_true rfl⟩ (Nat.le_of_ble_eq_true rfl) dX11_spell_165 (pc' := 168) rfl ?_
          refine kj_iinc dX11_spell_168 (pc' := 171) rfl rfl (congrArg (_ + ·) kc_1) (Nat.le_of_ble_eq_true rfl) (ls' := [some (.inr 120), some (.inl x1), some (.inl (x2 + 1))]) rfl ?_
          refine kj_goto dX11_spell_171 (pc' := 111) rfl ?_
          exact ih111 (x2 + 1, σ10) hT
        refine lp_ind (P := fun s => KJ E mX11_spell rmX11_spell 126 [some (.inr 120), some (.inl x1), some (.inl x2), some (.inl s.1)] [] s.2 Q) (fun rec126 s ih126 hT => ?_) FU (0, σ9) hT
        obtain ⟨x3, σ⟩ := s
        show KJ E mX11_spell rmX11_spell 126 [some (.inr 120), some (.inl x1), some (.inl x2), some (.inl x3)] [] σ Q
        rw [X11_spell_B126] at hT
        have hJ156_111_126 : ∀ y3 ς, X11_spell_J156 rec126 y3 ς = some res → KJ E mX11_spell rmX11_spell 156 [some (.inr 120), some (.inl x1), some (.inl x2), some (.inl y3)] [] ς Q := by
          intro y3 ς hT
          unfold X11_spell_J156 at hT
          refine kj_iinc dX11_spell_156 (pc' := 159) rfl rfl (congrArg (_ + ·) kc_1) (Nat.le_of_ble_eq_true rfl) (ls' := [some (.inr 120), some (.inl x1), some (.inl x2), some (.inl (y3 + 1))]) rfl ?_
          refine kj_goto dX11_spell_159 (pc' := 126) rfl ?_
          exact ih126 (y3 + 1, ς) hT
        refine kj_iload_n dX11_spell_126 (pc' := 127) rfl rfl rfl ?_
        refine kj_aload_n dX11_spell_127 (pc' := 128) rfl rfl rfl ?_
        refine kj_getR f_RX11_13 rfl (Nat.lt_of_lt_of_le (Nat.le_of_ble_eq_true rfl : 120 < 140) hE.1) (hE.2 _ _) (q := 121) rfl dX11_spell_128 (pc' := 131) rfl ?_
        refine kj_iconst dX11_spell_131 (pc' := 132) rfl kc_0 ?_
        refine kj_iald rfl (Nat.lt_of_lt_of_le (Nat.le_of_ble_eq_true rfl : 121 < 140) hE.1) (vp_lit (by decide +kernel)) (j := 0) (by decide +kernel) dX11_spell_132 (pc' := 133) rfl ?_
        refine kj_icmp_ge dX11_spell_133 (tgt := 162) rfl (pc' := 136) rfl (fun c11 => ?_) (fun c11 => ?_)
        · rw [if_pos c11] at hT
          refine kj_keep [true, true, true] (ls' := [some (.inr 120), some (.inl x1), some (.inl x2)]) rfl ?_
          exact hX126 σ hT
        · rw [if_neg c11] at hT
          refine kj_aload_n dX11_spell_136 (pc' := 137) rfl rfl rfl ?_
          refine kj_iload_n dX11_spell_137 (pc' := 138) rfl rfl rfl ?_
          obtain ⟨t12, ht12, hT⟩ := bind_some' hT
          refine kcVi (as := [.inl x2]) (st := []) l_RX11_112 (m_X11_gen hE σ x2 ht12) rfl (Nat.lt_of_lt_of_le (Nat.le_of_ble_eq_true rfl : 120 < 140) hE.1) rfl ⟨⟨rfl, rfl⟩, Nat.le_of_ble_eq_true rfl, Nat.le_of_ble_eq_true rfl⟩ (Nat.le_of_ble_eq_true rfl) dX11_spell_138 (pc' := 141) rfl ?_
          refine kj_iload_n dX11_spell_141 (pc' := 142) rfl rfl rfl ?_
          refine kcSz (as := [.inl t12, .inl x3]) (st := []) l_RX11_128 (m_X11_has (Nat.zero_le _) σ t12 x3 rfl) rfl ⟨⟨rfl, rfl⟩, Nat.le_of_ble_eq_true rfl, Nat.le_of_ble_eq_true rfl⟩ (Nat.le_of_ble_eq_true rfl) dX11_spell_142 (pc' := 145) rfl (fun z13 => ?_)
          refine kj_if_eq dX11_spell_145 (tgt := 156) rfl (pc' := 148) rfl (fun c14 => ?_) (fun c14 => ?_)
          · rw [if_pos c14] at hT
            exact hJ156_111_126 x3 σ hT
          · rw [if_neg c14] at hT
            refine kj_aload_n dX11_spell_148 (pc' := 149) rfl rfl rfl ?_
            refine kj_bipush dX11_spell_149 (pc' := 151) rfl kb_97 ?_
            refine kj_iload_n dX11_spell_151 (pc' := 152) rfl rfl rfl ?_
            refine kj_iadd dX11_spell_152 (pc' := 153) rfl ?_
            obtain ⟨σ15, hσ15, hT⟩ := bind_some' hT
            refine kcVv (as := [.inl (97 + x3)]) (st := []) l_RX11_260 (m_X11_writes hE σ (97 + x3) hσ15) rfl (Nat.lt_of_lt_of_le (Nat.le_of_ble_eq_true rfl : 120 < 140) hE.1) rfl ⟨⟨rfl, rfl⟩, Nat.le_of_ble_eq_true rfl, Nat.le_of_ble_eq_true rfl⟩ (Nat.le_of_ble_eq_true rfl) dX11_spell_153 (pc' := 156) rfl ?_
            exact hJ156_111_126 x3 σ15 hT
    refine lp_ind (P := fun s => KJ E mX11_spell rmX11_spell 38 [some (.inr 120), some (.inl x1), some (.inl s.1)] [] s.2 Q) (fun rec38 s ih38 hT => ?_) FU (0, σ4) hT
    obtain ⟨x2, σ⟩ := s
    show KJ E mX11_spell rmX11_spell 38 [some (.inr 120), some (.inl x1), some (.inl x2)] [] σ Q
    rw [X11_spell_B38] at hT
    have hJ103_38 : ∀ y2 ς, X11_spell_J103 rec38 y2 ς = some res → KJ E mX11_spell rmX11_spell 103 [some (.inr 120), some (.inl x1), some (.inl y2)] [] ς Q := by
      intro y2 ς hT
      unfold X11_spell_J103 at hT
      refine kj_iinc dX11_spell_103 (pc' := 106) rfl rfl (congrArg (_ + ·) kc_1) (Nat.le_of_ble_eq_true rfl) (ls' := [some (.inr 120), some (.inl x1), some (.inl (y2 + 1))]) rfl ?_
      refine kj_goto dX11_spell_106 (pc' := 38) rfl ?_
      exact ih38 (y2 + 1, ς) hT
    refine kj_iload_n dX11_spell_38 (pc' := 39) rfl rfl rfl ?_
    refine kj_aload_n dX11_spell_39 (pc' := 40) rfl rfl rfl ?_
    refine kj_getR f_RX11_13 rfl (Nat.lt_of_lt_of_le (Nat.le_of_ble_eq_true rfl : 120 < 140) hE.1) (hE.2 _ _) (q := 121) rfl dX11_spell_40 (pc' := 43) rfl ?_
    refine kj_iconst dX11_spell_43 (pc' := 44) rfl kc_0 ?_
    refine kj_iald rfl (Nat.lt_of_lt_of_le (Nat.le_of_ble_eq_true rfl : 121 < 140) hE.1) (vp_lit (by decide +kernel)) (j := 0) (by decide +kernel) dX11_spell_44 (pc' := 45) rfl ?_
    refine kj_icmp_ge dX11_spell_45 (tgt := 109) rfl (pc' := 48) rfl (fun c16 => ?_) (fun c16 => ?_)
    · rw [if_pos c16] at hT
      refine kj_keep [true, true] (ls' := [some (.inr 120), some (.inl x1)]) rfl ?_
      exact hX38 σ hT
    · rw [if_neg c16] at hT
      refine kj_aload_n dX11_spell_48 (pc' := 49) rfl rfl rfl ?_
      refine kj_getR f_RX11_13 rfl (Nat.lt_of_lt_of_le (Nat.le_of_ble_eq_true rfl : 120 < 140) hE.1) (hE.2 _ _) (q := 121) rfl dX11_spell_49 (pc' := 52) rfl ?_
      refine kj_iconst dX11_spell_52 (pc' := 53) rfl kc_3 ?_
      refine kj_iload_n dX11_spell_53 (pc' := 54) rfl rfl rfl ?_
      refine kj_iadd dX11_spell_54 (pc' := 55) rfl ?_
      obtain ⟨hi17, hT⟩ := ckA_some hT
      refine kj_iald rfl (Nat.lt_of_lt_of_le (Nat.le_of_ble_eq_true rfl : 121 < 140) hE.1) hi17 rfl dX11_spell_55 (pc' := 56) rfl ?_
      refine kj_iconst dX11_spell_56 (pc' := 57) rfl kc_1 ?_
      refine kj_icmp_ne dX11_spell_57 (tgt := 63) rfl (pc' := 60) rfl (fun c18 => ?_) (fun c18 => ?_)
      · rw [if_neg c18] at hT
        refine kj_aload_n dX11_spell_63 (pc' := 64) rfl rfl rfl ?_
        refine kj_iconst dX11_spell_64 (pc' := 65) rfl kc_1 ?_
        obtain ⟨σ19, hσ19, hT⟩ := bind_some' hT
        refine kcVv (as := [.inl 1]) (st := []) l_RX11_263 (m_X11_writesWord hE σ 1 hσ19) rfl (Nat.lt_of_lt_of_le (Nat.le_of_ble_eq_true rfl : 120 < 140) hE.1) rfl ⟨⟨rfl, rfl⟩, Nat.le_of_ble_eq_true rfl, Nat.le_of_ble_eq_true rfl⟩ (Nat.le_of_ble_eq_true rfl) dX11_spell_65 (pc' := 68) rfl ?_
        refine kj_aload_n dX11_spell_68 (pc' := 69) rfl rfl rfl ?_
        refine kj_bipush dX11_spell_69 (pc' := 71) rfl kb_97 ?_
        refine kj_iload_n dX11_spell_71 (pc' := 72) rfl rfl rfl ?_
        refine kj_iadd dX11_spell_72 (pc' := 73) rfl ?_
        obtain ⟨σ20, hσ20, hT⟩ := bind_some' hT
        refine kcVv (as := [.inl (97 + x2)]) (st := []) l_RX11_260 (m_X11_writes hE σ19 (97 + x2) hσ20) rfl (Nat.lt_of_lt_of_le (Nat.le_of_ble_eq_true rfl : 120 < 140) hE.1) rfl ⟨⟨rfl, rfl⟩, Nat.le_of_ble_eq_true rfl, Nat.le_of_ble_eq_true rfl⟩ (Nat.le_of_ble_eq_true rfl) dX11_spell_73 (pc' := 76) rfl ?_
        refine kj_aload_n dX11_spell_76 (pc' := 77) rfl rfl rfl ?_
        refine kj_bipush dX11_spell_77 (pc' := 79) rfl kb_32 ?_
        obtain ⟨σ21, hσ21, hT⟩ := bind_some' hT
        refine kcVv (as := [.inl 32]) (st := []) l_RX11_260 (m_X11_writes hE σ20 32 hσ21) rfl (Nat.lt_of_lt_of_le (Nat.le_of_ble_eq_true rfl : 120 < 140) hE.1) rfl ⟨⟨rfl, rfl⟩, Nat.le_of_ble_eq_true rfl, Nat.le_of_ble_eq_true rfl⟩ (Nat.le_of_ble_eq_true rfl) dX11_spell_79 (pc' := 82) rfl ?_
        refine kj_aload_n dX11_spell_82 (pc' := 83) rfl rfl rfl ?_
        refine kj_bipush dX11_spell_83 (pc' := 85) rfl kb_48 ?_
        refine kj_aload_n dX11_spell_85 (pc' := 86) rfl rfl rfl ?_
        refine kj_getR f_RX11_13 rfl (Nat.lt_of_lt_of_le (Nat.le_of_ble_eq_true rfl : 120 < 140) hE.1) (hE.2 _ _) (q := 121) rfl dX11_spell_86 (pc' := 89) rfl ?_
        refine kj_iconst dX11_spell_89 (pc' := 90) rfl kc_3 ?_
        refine kj_iload_n dX11_spell_90 (pc' := 91) rfl rfl rfl ?_
        refine kj_iadd dX11_spell_91 (pc' := 92) rfl ?_
        obtain ⟨hi22, hT⟩ := ckA_some hT
        refine kj_iald rfl (Nat.lt_of_lt_of_le (Nat.le_of_ble_eq_true rfl : 121 < 140) hE.1) hi22 rfl dX11_spell_92 (pc' := 93) rfl ?_
        refine kj_iadd dX11_spell_93 (pc' := 94) rfl ?_
        obtain ⟨σ23, hσ23, hT⟩ := bind_some' hT
        refine kcVv (as := [.inl (48 + (σ21 121 ((3 + x2).toNatClampNeg)))]) (st := []) l_RX11_260 (m_X11_writes hE σ21 (48 + (σ21 121 ((3 + x2).toNatClampNeg))) hσ23) rfl (Nat.lt_of_lt_of_le (Nat.le_of_ble_eq_true rfl : 120 < 140) hE.1) rfl ⟨⟨rfl, rfl⟩, Nat.le_of_ble_eq_true rfl, Nat.le_of_ble_eq_true rfl⟩ (Nat.le_of_ble_eq_true rfl) dX11_spell_94 (pc' := 97) rfl ?_
        refine kj_aload_n dX11_spell_97 (pc' := 98) rfl rfl rfl ?_
        refine kj_bipush dX11_spell_98 (pc' := 100) rfl kb_59 ?_
        obtain ⟨σ24, hσ24, hT⟩ := bind_some' hT
        refine kcVv (as := [.inl 59]) (st := []) l_RX11_260 (m_X11_writes hE σ23 59 hσ24) rfl (Nat.lt_of_lt_of_le (Nat.le_of_ble_eq_true rfl : 120 < 140) hE.1) rfl ⟨⟨rfl, rfl⟩, Nat.le_of_ble_eq_true rfl, Nat.le_of_ble_eq_true rfl⟩ (Nat.le_of_ble_eq_true rfl) dX11_spell_100 (pc' := 103) rfl ?_
        exact hJ103_38 x2 σ24 hT
      · rw [if_pos c18] at hT
        refine kj_goto dX11_spell_60 (pc' := 103) rfl ?_
        exact hJ103_38 x2 σ hT
  · rw [if_neg c1] at hT
    refine kj_iconst dX11_spell_5 (pc' := 6) rfl kc_m1 ?_
    have hR := Option.some.inj hT
    subst hR
    exact kj_iret rfl dX11_spell_6 (by subst hQ; exact ⟨rfl, rfl⟩)
def X11_idle_J31 (rec8 : Int32 × Int32 → Option (Int32 × Wd)) (y1 : Int32) (y2 : Int32) : Option (Int32 × Wd) :=
  rec8 (y1, y2 + 1)
def X11_idle_B8 (σ1 : Wd) (rec8 : Int32 × Int32 → Option (Int32 × Wd)) : Int32 × Int32 → Option (Int32 × Wd)
  | (x1, x2) => (if (X11_many σ1) ≤ x2 then some (x1, σ1) else ((X11_gen σ1 x2).bind fun t3 => ((X11_isBased σ1 t3).bind fun t4 => (if t4 = 0 then X11_idle_J31 rec8 (x1 + 1) x2 else X11_idle_J31 rec8 x1 x2))))
def X11_idle (σ : Wd) : Option (Int32 × Wd) :=
  ((X11_lays σ).bind fun σ1 => (lp (X11_idle_B8 σ1) FU (0, 0)))
set_option maxRecDepth 100000 in
set_option maxHeartbeats 4000000 in
theorem m_X11_idle {E : JE} (hE : kOk 140 E) (σ : Wd) {res : Int32 × Wd} (hT : X11_idle σ = some res) : kMt E yX11_idle mX11_idle rmX11_idle [.inr 120] σ (kQi res.1 res.2) := by
  refine kMt_of (by decide +kernel) rfl (Nat.le_of_ble_eq_true rfl) ?_
  generalize hQ : (kQi res.1 res.2) = Q
  show KJ E mX11_idle rmX11_idle 0 [some (.inr 120)] [] σ Q
  unfold X11_idle at hT
  refine kj_aload_n dX11_idle_0 (pc' := 1) rfl rfl rfl ?_
  obtain ⟨σ1, hσ1, hT⟩ := bind_some' hT
  refine kcVv (as := []) (st := []) l_RX11_135 (m_X11_lays hE σ hσ1) rfl (Nat.lt_of_lt_of_le (Nat.le_of_ble_eq_true rfl : 120 < 140) hE.1) rfl ⟨⟨rfl, rfl⟩, Nat.le_of_ble_eq_true rfl, Nat.le_of_ble_eq_true rfl⟩ (Nat.le_of_ble_eq_true rfl) dX11_idle_1 (pc' := 4) rfl ?_
  refine kj_iconst dX11_idle_4 (pc' := 5) rfl kc_0 ?_
  refine kj_istore_n dX11_idle_5 (pc' := 6) rfl rfl (Nat.le_of_ble_eq_true rfl) (ls' := [some (.inr 120), some (.inl 0)]) rfl ?_
  refine kj_iconst dX11_idle_6 (pc' := 7) rfl kc_0 ?_
  refine kj_istore_n dX11_idle_7 (pc' := 8) rfl rfl (Nat.le_of_ble_eq_true rfl) (ls' := [some (.inr 120), some (.inl 0), some (.inl 0)]) rfl ?_
  refine lp_ind (P := fun s => KJ E mX11_idle rmX11_idle 8 [some (.inr 120), some (.inl s.1), some (.inl s.2)] [] σ1 Q) (fun rec8 s ih8 hT => ?_) FU (0, 0) hT
  obtain ⟨x1, x2⟩ := s
  show KJ E mX11_idle rmX11_idle 8 [some (.inr 120), some (.inl x1), some (.inl x2)] [] σ1 Q
  rw [X11_idle_B8] at hT
  have hJ31_8 : ∀ y1 y2, X11_idle_J31 rec8 y1 y2 = some res → KJ E mX11_idle rmX11_idle 31 [some (.inr 120), some (.inl y1), some (.inl y2)] [] σ1 Q := by
    intro y1 y2 hT
    unfold X11_idle_J31 at hT
    refine kj_iinc dX11_idle_31 (pc' := 34) rfl rfl (congrArg (_ + ·) kc_1) (Nat.le_of_ble_eq_true rfl) (ls' := [some (.inr 120), some (.inl y1), some (.inl (y2 + 1))]) rfl ?_
    refine kj_goto dX11_idle_34 (pc' := 8) rfl ?_
    exact ih8 (y1, y2 + 1) hT
  refine kj_iload_n dX11_idle_8 (pc' := 9) rfl rfl rfl ?_
  refine kj_aload_n dX11_idle_9 (pc' := 10) rfl rfl rfl ?_
  refine kcVi (as := []) (st := [.inl x2]) l_RX11_80 (m_X11_many hE σ1 rfl) rfl (Nat.lt_of_lt_of_le (Nat.le_of_ble_eq_true rfl : 120 < 140) hE.1) rfl ⟨⟨rfl, rfl⟩, Nat.le_of_ble_eq_true rfl, Nat.le_of_ble_eq_true rfl⟩ (Nat.le_of_ble_eq_true rfl) dX11_idle_10 (pc' := 13) rfl ?_
  refine kj_icmp_ge dX11_idle_13 (tgt := 37) rfl (pc' := 16) rfl (fun c2 => ?_) (fun c2 => ?_)
  · rw [if_pos c2] at hT
    refine kj_iload_n dX11_idle_37 (pc' := 38) rfl rfl rfl ?_
    have hR := Option.some.inj hT
    subst hR
    exact kj_iret rfl dX11_idle_38 (by subst hQ; exact ⟨rfl, rfl⟩)
  · rw [if_neg c2] at hT
    refine kj_aload_n dX11_idle_16 (pc' := 17) rfl rfl rfl ?_
    refine kj_aload_n dX11_idle_17 (pc' := 18) rfl rfl rfl ?_
    refine kj_iload_n dX11_idle_18 (pc' := 19) rfl rfl rfl ?_
    obtain ⟨t3, ht3, hT⟩ := bind_some' hT
    refine kcVi (as := [.inl x2]) (st := [.inr 120]) l_RX11_112 (m_X11_gen hE σ1 x2 ht3) rfl (Nat.lt_of_lt_of_le (Nat.le_of_ble_eq_true rfl : 120 < 140) hE.1) rfl ⟨⟨rfl, rfl⟩, Nat.le_of_ble_eq_true rfl, Nat.le_of_ble_eq_true rfl⟩ (Nat.le_of_ble_eq_true rfl) dX11_idle_19 (pc' := 22) rfl ?_
    obtain ⟨t4, ht4, hT⟩ := bind_some' hT
    refine kcVz (as := [.inl t3]) (st := []) l_RX11_138 (m_X11_isBased hE σ1 t3 ht4) rfl (Nat.lt_of_lt_of_le (Nat.le_of_ble_eq_true rfl : 120 < 140) hE.1) rfl ⟨⟨rfl, rfl⟩, Nat.le_of_ble_eq_true rfl, Nat.le_of_ble_eq_true rfl⟩ (Nat.le_of_ble_eq_true rfl) dX11_idle_22 (pc' := 25) rfl (fun z5 => ?_)
    refine kj_if_ne dX11_idle_25 (tgt := 31) rfl (pc' := 28) rfl (fun c6 => ?_) (fun c6 => ?_)
    · rw [if_neg c6] at hT
      exact hJ31_8 x1 x2 hT
    · rw [if_pos c6] at hT
      refine kj_iinc dX11_idle_28 (pc' := 31) rfl rfl (congrArg (_ + ·) kc_1) (Nat.le_of_ble_eq_true rfl) (ls' := [some (.inr 120), some (.inl (x1 + 1)), some (.inl x2)]) rfl ?_
      exact hJ31_8 (x1 + 1) x2 hT
def X11_count (σ : Wd) (x1 : Int32) : Option (Int32 × Wd) :=
  (if x1 = 0 then some (σ 121 0, σ) else (if x1 = 1 then some (X11_many σ, σ) else (if x1 = 2 then some (X11_listMany σ, σ) else (if x1 = 3 then some (σ 120 4, σ) else (if x1 = 4 then some (σ 120 23, σ) else (if x1 = 5 then ((X11_idle σ).bind fun (t7, σ8) => some (t7, σ8)) else (if x1 = 6 then ((X11_massOf σ (X11_allPoints σ)).bind fun t10 => some (t10, σ)) else some ((-1), σ))))))))
set_option maxRecDepth 100000 in
set_option maxHeartbeats 4000000 in
theorem m_X11_count {E : JE} (hE : kOk 140 E) (σ : Wd) (x1 : Int32) {res : Int32 × Wd} (hT : X11_count σ x1 = some res) : kMt E yX11_count mX11_count rmX11_count [.inr 120, .inl x1] σ (kQi res.1 res.2) := by
  refine kMt_of (by decide +kernel) rfl (Nat.le_of_ble_eq_true rfl) ?_
  generalize hQ : (kQi res.1 res.2) = Q
  show KJ E mX11_count rmX11_count 0 [some (.inr 120), some (.inl x1)] [] σ Q
  unfold X11_count at hT
  refine kj_iload_n dX11_count_0 (pc' := 1) rfl rfl rfl ?_
  by_cases c1 : x1 = 0
  · rw [if_pos c1] at hT
    refine kj_tableIn (x := x1) (off := 43) (tgt := 44) dX11_count_1 (by rw [c1]; decide +kernel) (by rw [c1]; decide +kernel) (by rw [c1]; decide +kernel) rfl ?_
    refine kj_aload_n dX11_count_44 (pc' := 45) rfl rfl rfl ?_
    refine kj_getR f_RX11_13 rfl (Nat.lt_of_lt_of_le (Nat.le_of_ble_eq_true rfl : 120 < 140) hE.1) (hE.2 _ _) (q := 121) rfl dX11_count_45 (pc' := 48) rfl ?_
    refine kj_iconst dX11_count_48 (pc' := 49) rfl kc_0 ?_
    refine kj_iald rfl (Nat.lt_of_lt_of_le (Nat.le_of_ble_eq_true rfl : 121 < 140) hE.1) (vp_lit (by decide +kernel)) (j := 0) (by decide +kernel) dX11_count_49 (pc' := 50) rfl ?_
    have hR := Option.some.inj hT
    subst hR
    exact kj_iret rfl dX11_count_50 (by subst hQ; exact ⟨rfl, rfl⟩)
  rw [if_neg c1] at hT
  by_cases c2 : x1 = 1
  · rw [if_pos c2] at hT
    refine kj_tableIn (x := x1) (off := 50) (tgt := 51) dX11_count_1 (by rw [c2]; decide +kernel) (by rw [c2]; decide +kernel) (by rw [c2]; decide +kernel) rfl ?_
    refine kj_aload_n dX11_count_51 (pc' := 52) rfl rfl rfl ?_
    refine kcVi (as := []) (st := []) l_RX11_80 (m_X11_many hE σ rfl) rfl (Nat.lt_of_lt_of_le (Nat.le_of_ble_eq_true rfl : 120 < 140) hE.1) rfl ⟨⟨rfl, rfl⟩, Nat.le_of_ble_eq_true rfl, Nat.le_of_ble_eq_true rfl⟩ (Nat.le_of_ble_eq_true rfl) dX11_count_52 (pc' := 55) rfl ?_
    have hR := Option.some.inj hT
    subst hR
    exact kj_iret rfl dX11_count_55 (by subst hQ; exact ⟨rfl, rfl⟩)
  rw [if_neg c2] at hT
  by_cases c3 : x1 = 2
  · rw [if_pos c3] at hT
    refine kj_tableIn (x := x1) (off := 55) (tgt := 56) dX11_count_1 (by rw [c3]; decide +kernel) (by rw [c3]; decide +kernel) (by rw [c3]; decide +kernel) rfl ?_
    refine kj_aload_n dX11_count_56 (pc' := 57) rfl rfl rfl ?_
    refine kcVi (as := []) (st := []) l_RX11_147 (m_X11_listMany hE σ rfl) rfl (Nat.lt_of_lt_of_le (Nat.le_of_ble_eq_true rfl : 120 < 140) hE.1) rfl ⟨⟨rfl, rfl⟩, Nat.le_of_ble_eq_true rfl, Nat.le_of_ble_eq_true rfl⟩ (Nat.le_of_ble_eq_true rfl) dX11_count_57 (pc' := 60) rfl ?_
    have hR := Option.some.inj hT
    subst hR
    exact kj_iret rfl dX11_count_60 (by subst hQ; exact ⟨rfl, rfl⟩)
  rw [if_neg c3] at hT
  by_cases c4 : x1 = 3
  · rw [if_pos c4] at hT
    refine kj_tableIn (x := x1) (off := 60) (tgt := 61) dX11_count_1 (by rw [c4]; decide +kernel) (by rw [c4]; decide +kernel) (by rw [c4]; decide +kernel) rfl ?_
    refine kj_aload_n dX11_count_61 (pc' := 62) rfl rfl rfl ?_
    refine kj_getI f_RX11_77 rfl (Nat.lt_of_lt_of_le (Nat.le_of_ble_eq_true rfl : 120 < 140) hE.1) dX11_count_62 (pc' := 65) rfl ?_
    have hR := Option.some.inj hT
    subst hR
    exact kj_iret rfl dX11_count_65 (by subst hQ; exact ⟨rfl, rfl⟩)
  rw [if_neg c4] at hT
  by_cases c5 : x1 = 4
  · rw [if_pos c5] at hT
    refine kj_tableIn (x := x1) (off := 65) (tgt := 66) dX11_count_1 (by rw [c5]; decide +kernel) (by rw [c5]; decide +kernel) (by rw [c5]; decide +kernel) rfl ?_
    refine kj_aload_n dX11_count_66 (pc' := 67) rfl rfl rfl ?_
    refine kj_getI f_RX11_266 rfl (Nat.lt_of_lt_of_le (Nat.le_of_ble_eq_true rfl : 120 < 140) hE.1) dX11_count_67 (pc' := 70) rfl ?_
    have hR := Option.some.inj hT
    subst hR
    exact kj_iret rfl dX11_count_70 (by subst hQ; exact ⟨rfl, rfl⟩)
  rw [if_neg c5] at hT
  by_cases c6 : x1 = 5
  · rw [if_pos c6] at hT
    refine kj_tableIn (x := x1) (off := 70) (tgt := 71) dX11_count_1 (by rw [c6]; decide +kernel) (by rw [c6]; decide +kernel) (by rw [c6]; decide +kernel) rfl ?_
    refine kj_aload_n dX11_count_71 (pc' := 72) rfl rfl rfl ?_
    obtain ⟨t7, ht7, hT⟩ := bind_some' hT
    obtain ⟨t7, σ8⟩ := t7
    dsimp only at hT
    refine kcVi (as := []) (st := []) l_RX11_269 (m_X11_idle hE σ ht7) rfl (Nat.lt_of_lt_of_le (Nat.le_of_ble_eq_true rfl : 120 < 140) hE.1) rfl ⟨⟨rfl, rfl⟩, Nat.le_of_ble_eq_true rfl, Nat.le_of_ble_eq_true rfl⟩ (Nat.le_of_ble_eq_true rfl) dX11_count_72 (pc' := 75) rfl ?_
    have hR := Option.some.inj hT
    subst hR
    exact kj_iret rfl dX11_count_75 (by subst hQ; exact ⟨rfl, rfl⟩)
  rw [if_neg c6] at hT
  by_cases c9 : x1 = 6
  · rw [if_pos c9] at hT
    refine kj_tableIn (x := x1) (off := 75) (tgt := 76) dX11_count_1 (by rw [c9]; decide +kernel) (by rw [c9]; decide +kernel) (by rw [c9]; decide +kernel) rfl ?_
    refine kj_aload_n dX11_count_76 (pc' := 77) rfl rfl rfl ?_
    refine kj_aload_n dX11_count_77 (pc' := 78) rfl rfl rfl ?_
    refine kcVi (as := []) (st := [.inr 120]) l_RX11_88 (m_X11_allPoints hE σ rfl) rfl (Nat.lt_of_lt_of_le (Nat.le_of_ble_eq_true rfl : 120 < 140) hE.1) rfl ⟨⟨rfl, rfl⟩, Nat.le_of_ble_eq_true rfl, Nat.le_of_ble_eq_true rfl⟩ (Nat.le_of_ble_eq_true rfl) dX11_count_78 (pc' := 81) rfl ?_
    obtain ⟨t10, ht10, hT⟩ := bind_some' hT
    refine kcVi (as := [.inl (X11_allPoints σ)]) (st := []) l_RX11_212 (m_X11_massOf hE σ (X11_allPoints σ) ht10) rfl (Nat.lt_of_lt_of_le (Nat.le_of_ble_eq_true rfl : 120 < 140) hE.1) rfl ⟨⟨rfl, rfl⟩, Nat.le_of_ble_eq_true rfl, Nat.le_of_ble_eq_true rfl⟩ (Nat.le_of_ble_eq_true rfl) dX11_count_81 (pc' := 84) rfl ?_
    have hR := Option.some.inj hT
    subst hR
    exact kj_iret rfl dX11_count_84 (by subst hQ; exact ⟨rfl, rfl⟩)
  rw [if_neg c9] at hT
  refine kj_tableOut (x := x1) (tgt := 85) dX11_count_1 (tb_out (hi := 6) (fun k hk => by rcases (show k = 0 ∨ k = 1 ∨ k = 2 ∨ k = 3 ∨ k = 4 ∨ k = 5 ∨ k = 6  from by omega) with rfl | rfl | rfl | rfl | rfl | rfl | rfl <;> assumption) (by decide)) rfl ?_
  refine kj_iconst dX11_count_85 (pc' := 86) rfl kc_m1 ?_
  have hR := Option.some.inj hT
  subst hR
  exact kj_iret rfl dX11_count_86 (by subst hQ; exact ⟨rfl, rfl⟩)
def X11_feed_J73 (rec18 : Int32 × Wd → Option (Int32 × Wd)) (y6 : Int32) (y7 : Int32) (ς : Wd) : Option (Int32 × Wd) :=
  (ckA (ς 120 23) 300 <| rec18 (y6 + 1, up (up ς 138 ((ς 120 23).toNatClampNeg) ((y7 >>> ((24 - (8 * (y6 % 4))) &&& 31)) &&& 255)) 120 23 (((up ς 138 ((ς 120 23).toNatClampNeg) ((y7 >>> ((24 - (8 * (y6 % 4))) &&& 31)) &&& 255)) 120 23) + 1)))
def X11_feed_B18 (x5 : Int32) (x4 : Int32) (x3 : Int32) (x2 : Int32) (x1 : Int32) (rec18 : Int32 × Wd → Option (Int32 × Wd)) : Int32 × Wd → Option (Int32 × Wd)
  | (x6, σ) => (if 20 ≤ x6 then some (σ 120 23, σ) else (if 4 ≤ x6 then (if 8 ≤ x6 then (if 12 ≤ x6 then (if 16 ≤ x6 then X11_feed_J73 rec18 x6 x5 σ else X11_feed_J73 rec18 x6 x4 σ) else X11_feed_J73 rec18 x6 x3 σ) else X11_feed_J73 rec18 x6 x2 σ) else X11_feed_J73 rec18 x6 x1 σ))
def X11_feed (σ : Wd) (x1 : Int32) (x2 : Int32) (x3 : Int32) (x4 : Int32) (x5 : Int32) : Option (Int32 × Wd) :=
  (if ((σ 120 23) + 20) ≤ 300 then (lp (X11_feed_B18 x5 x4 x3 x2 x1) FU (0, σ)) else some ((-1), σ))
set_option maxRecDepth 100000 in
set_option maxHeartbeats 4000000 in
theorem m_X11_feed {E : JE} (hE : kOk 140 E) (σ : Wd) (x1 : Int32) (x2 : Int32) (x3 : Int32) (x4 : Int32) (x5 : Int32) {res : Int32 × Wd} (hT : X11_feed σ x1 x2 x3 x4 x5 = some res) : kMt E yX11_feed mX11_feed rmX11_feed [.inr 120, .inl x1, .inl x2, .inl x3, .inl x4, .inl x5] σ (kQi res.1 res.2) := by
  refine kMt_of (by decide +kernel) rfl (Nat.le_of_ble_eq_true rfl) ?_
  generalize hQ : (kQi res.1 res.2) = Q
  show KJ E mX11_feed rmX11_feed 0 [some (.inr 120), some (.inl x1), some (.inl x2), some (.inl x3), some (.inl x4), some (.inl x5)] [] σ Q
  unfold X11_feed at hT
  refine kj_aload_n dX11_feed_0 (pc' := 1) rfl rfl rfl ?_
  refine kj_getI f_RX11_266 rfl (Nat.lt_of_lt_of_le (Nat.le_of_ble_eq_true rfl : 120 < 140) hE.1) dX11_feed_1 (pc' := 4) rfl ?_
  refine kj_bipush dX11_feed_4 (pc' := 6) rfl kb_20 ?_
  refine kj_iadd dX11_feed_6 (pc' := 7) rfl ?_
  refine kj_sipush dX11_feed_7 (pc' := 10) rfl ks_300 ?_
  refine kj_icmp_le dX11_feed_10 (tgt := 15) rfl (pc' := 13) rfl (fun c1 => ?_) (fun c1 => ?_)
  · rw [if_pos c1] at hT
    refine kj_iconst dX11_feed_15 (pc' := 16) rfl kc_0 ?_
    refine kj_istore dX11_feed_16 (pc' := 18) rfl (Nat.le_of_ble_eq_true rfl) (ls' := [some (.inr 120), some (.inl x1), some (.inl x2), some (.inl x3), some (.inl x4), some (.inl x5), some (.inl 0)]) rfl ?_
    refine lp_ind (P := fun s => KJ E mX11_feed rmX11_feed 18 [some (.inr 120), some (.inl x1), some (.inl x2), some (.inl x3), some (.inl x4), some (.inl x5), some (.inl s.1)] [] s.2 Q) (fun rec18 s ih18 hT => ?_) FU (0, σ) hT
    obtain ⟨x6, σ⟩ := s
    show KJ E mX11_feed rmX11_feed 18 [some (.inr 120), some (.inl x1), some (.inl x2), some (.inl x3), some (.inl x4), some (.inl x5), some (.inl x6)] [] σ Q
    rw [X11_feed_B18] at hT
    have hJ73_18 : ∀ y6 y7 ς, X11_feed_J73 rec18 y6 y7 ς = some res → KJ E mX11_feed rmX11_feed 73 [some (.inr 120), some (.inl x1), some (.inl x2), some (.inl x3), some (.inl x4), some (.inl x5), some (.inl y6), some (.inl y7)] [] ς Q := by
      intro y6 y7 ς hT
      unfold X11_feed_J73 at hT
      refine kj_aload_n dX11_feed_73 (pc' := 74) rfl rfl rfl ?_
      refine kj_getR f_RX11_66 rfl (Nat.lt_of_lt_of_le (Nat.le_of_ble_eq_true rfl : 120 < 140) hE.1) (hE.2 _ _) (q := 138) rfl dX11_feed_74 (pc' := 77) rfl ?_
      refine kj_aload_n dX11_feed_77 (pc' := 78) rfl rfl rfl ?_
      refine kj_getI f_RX11_266 rfl (Nat.lt_of_lt_of_le (Nat.le_of_ble_eq_true rfl : 120 < 140) hE.1) dX11_feed_78 (pc' := 81) rfl ?_
      refine kj_iload dX11_feed_81 (pc' := 83) rfl rfl ?_
      refine kj_bipush dX11_feed_83 (pc' := 85) rfl kb_24 ?_
      refine kj_bipush dX11_feed_85 (pc' := 87) rfl kb_8 ?_
      refine kj_iload dX11_feed_87 (pc' := 89) rfl rfl ?_
      refine kj_iconst dX11_feed_89 (pc' := 90) rfl kc_4 ?_
      refine kj_irem dX11_feed_90 (pc' := 91) rfl (by decide +kernel) ?_
      refine kj_imul dX11_feed_91 (pc' := 92) rfl ?_
      refine kj_isub dX11_feed_92 (pc' := 93) rfl ?_
      refine kj_ishr dX11_feed_93 (pc' := 94) rfl ?_
      refine kj_sipush dX11_feed_94 (pc' := 97) rfl ks_255 ?_
      refine kj_iand dX11_feed_97 (pc' := 98) rfl ?_
      obtain ⟨hi7, hT⟩ := ckA_some hT
      refine kj_iast rfl (Nat.lt_of_lt_of_le (Nat.le_of_ble_eq_true rfl : 138 < 140) hE.1) hi7 rfl dX11_feed_98 (pc' := 99) rfl ?_
      refine kj_aload_n dX11_feed_99 (pc' := 100) rfl rfl rfl ?_
      refine kj_dup dX11_feed_100 (pc' := 101) rfl ?_
      refine kj_getI f_RX11_266 rfl (Nat.lt_of_lt_of_le (Nat.le_of_ble_eq_true rfl : 120 < 140) hE.1) dX11_feed_101 (pc' := 104) rfl ?_
      refine kj_iconst dX11_feed_104 (pc' := 105) rfl kc_1 ?_
      refine kj_iadd dX11_feed_105 (pc' := 106) rfl ?_
      refine kj_putI p_RX11_266 rfl rfl rfl (Nat.lt_of_lt_of_le (Nat.le_of_ble_eq_true rfl : 120 < 140) hE.1) dX11_feed_106 (pc' := 109) rfl ?_
      refine kj_iinc dX11_feed_109 (pc' := 112) rfl rfl (congrArg (_ + ·) kc_1) (Nat.le_of_ble_eq_true rfl) (ls' := [some (.inr 120), some (.inl x1), some (.inl x2), some (.inl x3), some (.inl x4), some (.inl x5), some (.inl (y6 + 1)), some (.inl y7)]) rfl ?_
      refine kj_goto dX11_feed_112 (pc' := 18) rfl ?_
      refine kj_keep [true, true, true, true, true, true, true] (ls' := [some (.inr 120), some (.inl x1), some (.inl x2), some (.inl x3), some (.inl x4), some (.inl x5), some (.inl (y6 + 1))]) rfl ?_
      exact ih18 (y6 + 1, up (up ς 138 ((ς 120 23).toNatClampNeg) ((y7 >>> ((24 - (8 * (y6 % 4))) &&& 31)) &&& 255)) 120 23 (((up ς 138 ((ς 120 23).toNatClampNeg) ((y7 >>> ((24 - (8 * (y6 % 4))) &&& 31)) &&& 255)) 120 23) + 1)) hT
    refine kj_iload dX11_feed_18 (pc' := 20) rfl rfl ?_
    refine kj_bipush dX11_feed_20 (pc' := 22) rfl kb_20 ?_
    refine kj_icmp_ge dX11_feed_22 (tgt := 115) rfl (pc' := 25) rfl (fun c2 => ?_) (fun c2 => ?_)
    · rw [if_pos c2] at hT
      refine kj_aload_n dX11_feed_115 (pc' := 116) rfl rfl rfl ?_
      refine kj_getI f_RX11_266 rfl (Nat.lt_of_lt_of_le (Nat.le_of_ble_eq_true rfl : 120 < 140) hE.1) dX11_feed_116 (pc' := 119) rfl ?_
      have hR := Option.some.inj hT
      subst hR
      exact kj_iret rfl dX11_feed_119 (by subst hQ; exact ⟨rfl, rfl⟩)
    · rw [if_neg c2] at hT
      refine kj_iload dX11_feed_25 (pc' := 27) rfl rfl ?_
      refine kj_iconst dX11_feed_27 (pc' := 28) rfl kc_4 ?_
      refine kj_icmp_ge dX11_feed_28 (tgt := 35) rfl (pc' := 31) rfl (fun c3 => ?_) (fun c3 => ?_)
      · rw [if_pos c3] at hT
        refine kj_iload dX11_feed_35 (pc' := 37) rfl rfl ?_
        refine kj_bipush dX11_feed_37 (pc' := 39) rfl kb_8 ?_
        refine kj_icmp_ge dX11_feed_39 (tgt := 46) rfl (pc' := 42) rfl (fun c4 => ?_) (fun c4 => ?_)
        · rw [if_pos c4] at hT
          refine kj_iload dX11_feed_46 (pc' := 48) rfl rfl ?_
          refine kj_bipush dX11_feed_48 (pc' := 50) rfl kb_12 ?_
          refine kj_icmp_ge dX11_feed_50 (tgt := 57) rfl (pc' := 53) rfl (fun c5 => ?_) (fun c5 => ?_)
          · rw [if_pos c5] at hT
            refine kj_iload dX11_feed_57 (pc' := 59) rfl rfl ?_
            refine kj_bipush dX11_feed_59 (pc' := 61) rfl kb_16 ?_
            refine kj_icmp_ge dX11_feed_61 (tgt := 69) rfl (pc' := 64) rfl (fun c6 => ?_) (fun c6 => ?_)
            · rw [if_pos c6] at hT
              refine kj_iload dX11_feed_69 (pc' := 71) rfl rfl ?_
              refine kj_istore dX11_feed_71 (pc' := 73) rfl (Nat.le_of_ble_eq_true rfl) (ls' := [some (.inr 120), some (.inl x1), some (.inl x2), some (.inl x3), some (.inl x4), some (.inl x5), some (.inl x6), some (.inl x5)]) rfl ?_
              exact hJ73_18 x6 x5 σ hT
            · rw [if_neg c6] at hT
              refine kj_iload dX11_feed_64 (pc' := 66) rfl rfl ?_
              refine kj_goto dX11_feed_66 (pc' := 71) rfl ?_
              refine kj_istore dX11_feed_71 (pc' := 73) rfl (Nat.le_of_ble_eq_true rfl) (ls' := [some (.inr 120), some (.inl x1), some (.inl x2), some (.inl x3), some (.inl x4), some (.inl x5), some (.inl x6), some (.inl x4)]) rfl ?_
              exact hJ73_18 x6 x4 σ hT
          · rw [if_neg c5] at hT
            refine kj_iload_n dX11_feed_53 (pc' := 54) rfl rfl rfl ?_
            refine kj_goto dX11_feed_54 (pc' := 71) rfl ?_
            refine kj_istore dX11_feed_71 (pc' := 73) rfl (Nat.le_of_ble_eq_true rfl) (ls' := [some (.inr 120), some (.inl x1), some (.inl x2), some (.inl x3), some (.inl x4), some (.inl x5), some (.inl x6), some (.inl x3)]) rfl ?_
            exact hJ73_18 x6 x3 σ hT
        · rw [if_neg c4] at hT
          refine kj_iload_n dX11_feed_42 (pc' := 43) rfl rfl rfl ?_
          refine kj_goto dX11_feed_43 (pc' := 71) rfl ?_
          refine kj_istore dX11_feed_71 (pc' := 73) rfl (Nat.le_of_ble_eq_true rfl) (ls' := [some (.inr 120), some (.inl x1), some (.inl x2), some (.inl x3), some (.inl x4), some (.inl x5), some (.inl x6), some (.inl x2)]) rfl ?_
          exact hJ73_18 x6 x2 σ hT
      · rw [if_neg c3] at hT
        refine kj_iload_n dX11_feed_31 (pc' := 32) rfl rfl rfl ?_
        refine kj_goto dX11_feed_32 (pc' := 71) rfl ?_
        refine kj_istore dX11_feed_71 (pc' := 73) rfl (Nat.le_of_ble_eq_true rfl) (ls' := [some (.inr 120), some (.inl x1), some (.inl x2), some (.inl x3), some (.inl x4), some (.inl x5), some (.inl x6), some (.inl x1)]) rfl ?_
        exact hJ73_18 x6 x1 σ hT
  · rw [if_neg c1] at hT
    refine kj_iconst dX11_feed_13 (pc' := 14) rfl kc_m1 ?_
    have hR := Option.some.inj hT
    subst hR
    exact kj_iret rfl dX11_feed_14 (by subst hQ; exact ⟨rfl, rfl⟩)
def X11_back (σ : Wd) (x1 : Int32) : Int32 × Wd :=
  (if (X11_in x1 0 (σ 120 23)) = 0 then ((-1), σ) else ((up σ 120 23 ((σ 120 23) - x1)) 120 23, up σ 120 23 ((σ 120 23) - x1)))
set_option maxRecDepth 100000 in
set_option maxHeartbeats 4000000 in
theorem m_X11_back {E : JE} (hE : kOk 140 E) (σ : Wd) (x1 : Int32) {res : Int32 × Wd} (hT : X11_back σ x1 = res) : kMt E yX11_back mX11_back rmX11_back [.inr 120, .inl x1] σ (kQi res.1 res.2) := by
  refine kMt_of (by decide +kernel) rfl (Nat.le_of_ble_eq_true rfl) ?_
  generalize hQ : (kQi res.1 res.2) = Q
  show KJ E mX11_back rmX11_back 0 [some (.inr 120), some (.inl x1)] [] σ Q
  unfold X11_back at hT
  refine kj_iload_n dX11_back_0 (pc' := 1) rfl rfl rfl ?_
  refine kj_iconst dX11_back_1 (pc' := 2) rfl kc_0 ?_
  refine kj_aload_n dX11_back_2 (pc' := 3) rfl rfl rfl ?_
  refine kj_getI f_RX11_266 rfl (Nat.lt_of_lt_of_le (Nat.le_of_ble_eq_true rfl : 120 < 140) hE.1) dX11_back_3 (pc' := 6) rfl ?_
  refine kcSz (as := [.inl x1, .inl 0, .inl (σ 120 23)]) (st := []) l_RX11_84 (m_X11_in (Nat.zero_le _) σ x1 0 (σ 120 23) rfl) rfl ⟨⟨rfl, rfl⟩, Nat.le_of_ble_eq_true rfl, Nat.le_of_ble_eq_true rfl⟩ (Nat.le_of_ble_eq_true rfl) dX11_back_6 (pc' := 9) rfl (fun z1 => ?_)
  refine kj_if_ne dX11_back_9 (tgt := 14) rfl (pc' := 12) rfl (fun c2 => ?_) (fun c2 => ?_)
  · rw [if_neg c2] at hT
    refine kj_aload_n dX11_back_14 (pc' := 15) rfl rfl rfl ?_
    refine kj_dup dX11_back_15 (pc' := 16) rfl ?_
    refine kj_getI f_RX11_266 rfl (Nat.lt_of_lt_of_le (Nat.le_of_ble_eq_true rfl : 120 < 140) hE.1) dX11_back_16 (pc' := 19) rfl ?_
    refine kj_iload_n dX11_back_19 (pc' := 20) rfl rfl rfl ?_
    refine kj_isub dX11_back_20 (pc' := 21) rfl ?_
    refine kj_putI p_RX11_266 rfl rfl rfl (Nat.lt_of_lt_of_le (Nat.le_of_ble_eq_true rfl : 120 < 140) hE.1) dX11_back_21 (pc' := 24) rfl ?_
    refine kj_aload_n dX11_back_24 (pc' := 25) rfl rfl rfl ?_
    refine kj_getI f_RX11_266 rfl (Nat.lt_of_lt_of_le (Nat.le_of_ble_eq_true rfl : 120 < 140) hE.1) dX11_back_25 (pc' := 28) rfl ?_
    subst hT
    exact kj_iret rfl dX11_back_28 (by subst hQ; exact ⟨rfl, rfl⟩)
  · rw [if_pos c2] at hT
    refine kj_iconst dX11_back_12 (pc' := 13) rfl kc_m1 ?_
    subst hT
    exact kj_iret rfl dX11_back_13 (by subst hQ; exact ⟨rfl, rfl⟩)
def X11_here (σ : Wd) : Option (Int32) :=
  (if (σ 120 23) ≤ (σ 120 25) then some (-1) else (ckA (σ 120 25) 300 <| some (σ 138 ((σ 120 25).toNatClampNeg))))
set_option maxRecDepth 100000 in
set_option maxHeartbeats 4000000 in
theorem m_X11_here {E : JE} (hE : kOk 140 E) (σ : Wd) {res : Int32} (hT : X11_here σ = some res) : kMt E yX11_here mX11_here rmX11_here [.inr 120] σ (kQi res σ) := by
  refine kMt_of (by decide +kernel) rfl (Nat.le_of_ble_eq_true rfl) ?_
  generalize hQ : (kQi res σ) = Q
  show KJ E mX11_here rmX11_here 0 [some (.inr 120)] [] σ Q
  unfold X11_here at hT
  refine kj_aload_n dX11_here_0 (pc' := 1) rfl rfl rfl ?_
  refine kj_getI f_RX11_272 rfl (Nat.lt_of_lt_of_le (Nat.le_of_ble_eq_true rfl : 120 < 140) hE.1) dX11_here_1 (pc' := 4) rfl ?_
  refine kj_aload_n dX11_here_4 (pc' := 5) rfl rfl rfl ?_
  refine kj_getI f_RX11_266 rfl (Nat.lt_of_lt_of_le (Nat.le_of_ble_eq_true rfl : 120 < 140) hE.1) dX11_here_5 (pc' := 8) rfl ?_
  refine kj_icmp_ge dX11_here_8 (tgt := 23) rfl (pc' := 11) rfl (fun c1 => ?_) (fun c1 => ?_)
  · rw [if_pos c1] at hT
    refine kj_iconst dX11_here_23 (pc' := 24) rfl kc_m1 ?_
    have hR := Option.some.inj hT
    subst hR
    exact kj_iret rfl dX11_here_24 (by subst hQ; exact ⟨rfl, rfl⟩)
  · rw [if_neg c1] at hT
    refine kj_aload_n dX11_here_11 (pc' := 12) rfl rfl rfl ?_
    refine kj_getR f_RX11_66 rfl (Nat.lt_of_lt_of_le (Nat.le_of_ble_eq_true rfl : 120 < 140) hE.1) (hE.2 _ _) (q := 138) rfl dX11_here_12 (pc' := 15) rfl ?_
    refine kj_aload_n dX11_here_15 (pc' := 16) rfl rfl rfl ?_
    refine kj_getI f_RX11_272 rfl (Nat.lt_of_lt_of_le (Nat.le_of_ble_eq_true rfl : 120 < 140) hE.1) dX11_here_16 (pc' := 19) rfl ?_
    obtain ⟨hi2, hT⟩ := ckA_some hT
    refine kj_iald rfl (Nat.lt_of_lt_of_le (Nat.le_of_ble_eq_true rfl : 138 < 140) hE.1) hi2 rfl dX11_here_19 (pc' := 20) rfl ?_
    refine kj_goto dX11_here_20 (pc' := 24) rfl ?_
    have hR := Option.some.inj hT
    subst hR
    exact kj_iret rfl dX11_here_24 (by subst hQ; exact ⟨rfl, rfl⟩)
def X11_goesOn_T132 (y3 : Int32) (σ : Wd) : Option (Wd) :=
  (if y3 = 0 then some (up σ 120 26 1) else some (up σ 120 26 4))
def X11_goesOn_B105 (kx105 : Wd → Option (Wd)) (rec105 : Wd → Option (Wd)) : Wd → Option (Wd)
  | (σ) => ((X11_here σ).bind fun t13 => (if (X11_in t13 97 122) = 0 then kx105 σ else rec105 (up σ 120 25 ((σ 120 25) + 1))))
def X11_goesOn_J73 (y3 : Int32) (ς : Wd) : Option (Wd) :=
  ((X11_here ς).bind fun t4 => (if t4 = (-1) then some (up ς 120 26 0) else (if (X11_in t4 97 122) = 0 then (if t4 = 59 then some (up (up (up ς 120 25 ((ς 120 25) + 1)) 120 28 (t4 - 48)) 120 26 3) else (if (X11_in t4 48 57) = 0 then some (up (up (up ς 120 25 ((ς 120 25) + 1)) 120 28 (t4 - 48)) 120 26 4) else (if y3 = 0 then some (up (up (up ς 120 25 ((ς 120 25) + 1)) 120 28 (t4 - 48)) 120 26 2) else some (up (up (up ς 120 25 ((ς 120 25) + 1)) 120 28 (t4 - 48)) 120 26 4)))) else (lp (X11_goesOn_B105 (X11_goesOn_T132 y3)) FU (ς)))))
def X11_goesOn_J71 (ς : Wd) : Option (Wd) :=
  X11_goesOn_J73 0 ς
def X11_goesOn_J67 (ς : Wd) : Option (Wd) :=
  X11_goesOn_J73 1 ς
def X11_goesOn_T41 (t2 : Int32) (t1 : Int32) (σ : Wd) : Option (Wd) :=
  (if ((up σ 120 27 (σ 120 25)) 120 27) = t2 then (if t1 = 1 then X11_goesOn_J67 (up σ 120 27 (σ 120 25)) else (if t1 = 2 then X11_goesOn_J67 (up σ 120 27 (σ 120 25)) else X11_goesOn_J71 (up σ 120 27 (σ 120 25)))) else X11_goesOn_J71 (up σ 120 27 (σ 120 25)))
def X11_goesOn_J28 (rec10 : Wd → Option (Wd)) (ς : Wd) : Option (Wd) :=
  rec10 (up ς 120 25 ((ς 120 25) + 1))
def X11_goesOn_B10 (kx10 : Wd → Option (Wd)) (rec10 : Wd → Option (Wd)) : Wd → Option (Wd)
  | (σ) => ((X11_here σ).bind fun t18 => (if t18 = 32 then X11_goesOn_J28 rec10 σ else ((X11_here σ).bind fun t20 => (if t20 = 10 then X11_goesOn_J28 rec10 σ else kx10 σ))))
def X11_goesOn (σ : Wd) : Option (Wd) :=
  (lett (σ 120 26) fun t1 => (lett (σ 120 25) fun t2 => (lp (X11_goesOn_B10 (X11_goesOn_T41 t2 t1)) FU (σ))))
set_option maxRecDepth 100000 in
set_option maxHeartbeats 4000000 in
theorem m_X11_goesOn {E : JE} (hE : kOk 140 E) (σ : Wd) {res : Wd} (hT : X11_goesOn σ = some res) : kMt E yX11_goesOn mX11_goesOn rmX11_goesOn [.inr 120] σ (kQv res) := by
  refine kMt_of (by decide +kernel) rfl (Nat.le_of_ble_eq_true rfl) ?_
  generalize hQ : (kQv res) = Q
  show KJ E mX11_goesOn rmX11_goesOn 0 [some (.inr 120)] [] σ Q
  unfold X11_goesOn at hT
  have hJ73 : ∀ y3 ς, X11_goesOn_J73 y3 ς = some res → KJ E mX11_goesOn rmX11_goesOn 73 [some (.inr 120), none, none, some (.inl y3)] [] ς Q := by
    intro y3 ς hT
    unfold X11_goesOn_J73 at hT
    refine kj_aload_n dX11_goesOn_73 (pc' := 74) rfl rfl rfl ?_
    obtain ⟨t4, ht4, hT⟩ := bind_some' hT
    refine kcVi (as := []) (st := []) l_RX11_278 (m_X11_here hE ς ht4) rfl (Nat.lt_of_lt_of_le (Nat.le_of_ble_eq_true rfl : 120 < 140) hE.1) rfl ⟨⟨rfl, rfl⟩, Nat.le_of_ble_eq_true rfl, Nat.le_of_ble_eq_true rfl⟩ (Nat.le_of_ble_eq_true rfl) dX11_goesOn_74 (pc' := 77) rfl ?_
    refine kj_istore dX11_goesOn_77 (pc' := 79) rfl (Nat.le_of_ble_eq_true rfl) (ls' := [some (.inr 120), none, none, some (.inl y3), some (.inl t4)]) rfl ?_
    refine kj_iload dX11_goesOn_79 (pc' := 81) rfl rfl ?_
    refine kj_iconst dX11_goesOn_81 (pc' := 82) rfl kc_m1 ?_
    refine kj_icmp_ne dX11_goesOn_82 (tgt := 93) rfl (pc' := 85) rfl (fun c5 => ?_) (fun c5 => ?_)
    · rw [if_neg c5] at hT
      refine kj_iload dX11_goesOn_93 (pc' := 95) rfl rfl ?_
      refine kj_bipush dX11_goesOn_95 (pc' := 97) rfl kb_97 ?_
      refine kj_bipush dX11_goesOn_97 (pc' := 99) rfl kb_122 ?_
      refine kcSz (as := [.inl t4, .inl 97, .inl 122]) (st := []) l_RX11_84 (m_X11_in (Nat.zero_le _) ς t4 97 122 rfl) rfl ⟨⟨rfl, rfl⟩, Nat.le_of_ble_eq_true rfl, Nat.le_of_ble_eq_true rfl⟩ (Nat.le_of_ble_eq_true rfl) dX11_goesOn_99 (pc' := 102) rfl (fun z6 => ?_)
      refine kj_if_eq dX11_goesOn_102 (tgt := 148) rfl (pc' := 105) rfl (fun c7 => ?_) (fun c7 => ?_)
      · rw [if_pos c7] at hT
        refine kj_aload_n dX11_goesOn_148 (pc' := 149) rfl rfl rfl ?_
        refine kj_dup dX11_goesOn_149 (pc' := 150) rfl ?_
        refine kj_getI f_RX11_272 rfl (Nat.lt_of_lt_of_le (Nat.le_of_ble_eq_true rfl : 120 < 140) hE.1) dX11_goesOn_150 (pc' := 153) rfl ?_
        refine kj_iconst dX11_goesOn_153 (pc' := 154) rfl kc_1 ?_
        refine kj_iadd dX11_goesOn_154 (pc' := 155) rfl ?_
        refine kj_putI p_RX11_272 rfl rfl rfl (Nat.lt_of_lt_of_le (Nat.le_of_ble_eq_true rfl : 120 < 140) hE.1) dX11_goesOn_155 (pc' := 158) rfl ?_
        refine kj_aload_n dX11_goesOn_158 (pc' := 159) rfl rfl rfl ?_
        refine kj_iload dX11_goesOn_159 (pc' := 161) rfl rfl ?_
        refine kj_bipush dX11_goesOn_161 (pc' := 163) rfl kb_48 ?_
        refine kj_isub dX11_goesOn_163 (pc' := 164) rfl ?_
        refine kj_putI p_RX11_284 rfl rfl rfl (Nat.lt_of_lt_of_le (Nat.le_of_ble_eq_true rfl : 120 < 140) hE.1) dX11_goesOn_164 (pc' := 167) rfl ?_
        refine kj_aload_n dX11_goesOn_167 (pc' := 168) rfl rfl rfl ?_
        refine kj_iload dX11_goesOn_168 (pc' := 170) rfl rfl ?_
        refine kj_bipush dX11_goesOn_170 (pc' := 172) rfl kb_59 ?_
        refine kj_icmp_ne dX11_goesOn_172 (tgt := 179) rfl (pc' := 175) rfl (fun c8 => ?_) (fun c8 => ?_)
        · rw [if_neg c8] at hT
          refine kj_iload dX11_goesOn_179 (pc' := 181) rfl rfl ?_
          refine kj_bipush dX11_goesOn_181 (pc' := 183) rfl kb_48 ?_
          refine kj_bipush dX11_goesOn_183 (pc' := 185) rfl kb_57 ?_
          refine kcSz (as := [.inl t4, .inl 48, .inl 57]) (st := [.inr 120]) l_RX11_84 (m_X11_in (Nat.zero_le _) (up (up ς 120 25 ((ς 120 25) + 1)) 120 28 (t4 - 48)) t4 48 57 rfl) rfl ⟨⟨rfl, rfl⟩, Nat.le_of_ble_eq_true rfl, Nat.le_of_ble_eq_true rfl⟩ (Nat.le_of_ble_eq_true rfl) dX11_goesOn_185 (pc' := 188) rfl (fun z9 => ?_)
          refine kj_if_eq dX11_goesOn_188 (tgt := 199) rfl (pc' := 191) rfl (fun c10 => ?_) (fun c10 => ?_)
          · rw [if_pos c10] at hT
            refine kj_iconst dX11_goesOn_199 (pc' := 200) rfl kc_4 ?_
            refine kj_putI p_RX11_275 rfl rfl rfl (Nat.lt_of_lt_of_le (Nat.le_of_ble_eq_true rfl : 120 < 140) hE.1) dX11_goesOn_200 (pc' := 203) rfl ?_
            have hR := Option.some.inj hT
            subst hR
            exact kj_vret rfl dX11_goesOn_203 (by subst hQ; exact ⟨rfl, rfl⟩)
          · rw [if_neg c10] at hT
            refine kj_iload_n dX11_goesOn_191 (pc' := 192) rfl rfl rfl ?_
            refine kj_if_ne dX11_goesOn_192 (tgt := 199) rfl (pc' := 195) rfl (fun c11 => ?_) (fun c11 => ?_)
            · rw [if_neg c11] at hT
              refine kj_iconst dX11_goesOn_199 (pc' := 200) rfl kc_4 ?_
              refine kj_putI p_RX11_275 rfl rfl rfl (Nat.lt_of_lt_of_le (Nat.le_of_ble_eq_true rfl : 120 < 140) hE.1) dX11_goesOn_200 (pc' := 203) rfl ?_
              have hR := Option.some.inj hT
              subst hR
              exact kj_vret rfl dX11_goesOn_203 (by subst hQ; exact ⟨rfl, rfl⟩)
            · rw [if_pos c11] at hT
              refine kj_iconst dX11_goesOn_195 (pc' := 196) rfl kc_2 ?_
              refine kj_goto dX11_goesOn_196 (pc' := 200) rfl ?_
              refine kj_putI p_RX11_275 rfl rfl rfl (Nat.lt_of_lt_of_le (Nat.le_of_ble_eq_true rfl : 120 < 140) hE.1) dX11_goesOn_200 (pc' := 203) rfl ?_
              have hR := Option.some.inj hT
              subst hR
              exact kj_vret rfl dX11_goesOn_203 (by subst hQ; exact ⟨rfl, rfl⟩)
        · rw [if_pos c8] at hT
          refine kj_iconst dX11_goesOn_175 (pc' := 176) rfl kc_3 ?_
          refine kj_goto dX11_goesOn_176 (pc' := 200) rfl ?_
          refine kj_putI p_RX11_275 rfl rfl rfl (Nat.lt_of_lt_of_le (Nat.le_of_ble_eq_true rfl : 120 < 140) hE.1) dX11_goesOn_200 (pc' := 203) rfl ?_
          have hR := Option.some.inj hT
          subst hR
          exact kj_vret rfl dX11_goesOn_203 (by subst hQ; exact ⟨rfl, rfl⟩)
      · rw [if_neg c7] at hT
        refine kj_keep [true, false, false, true] (ls' := [some (.inr 120), none, none, some (.inl y3)]) rfl ?_
        have hX105 : ∀ σ, X11_goesOn_T132 y3 σ = some res → KJ E mX11_goesOn rmX11_goesOn 132 [some (.inr 120), none, none, some (.inl y3)] [] σ Q := by
          intro σ hT
          unfold X11_goesOn_T132 at hT
          refine kj_aload_n dX11_goesOn_132 (pc' := 133) rfl rfl rfl ?_
          refine kj_iload_n dX11_goesOn_133 (pc' := 134) rfl rfl rfl ?_
          refine kj_if_eq dX11_goesOn_134 (tgt := 141) rfl (pc' := 137) rfl (fun c12 => ?_) (fun c12 => ?_)
          · rw [if_pos c12] at hT
            refine kj_iconst dX11_goesOn_141 (pc' := 142) rfl kc_1 ?_
            refine kj_putI p_RX11_275 rfl rfl rfl (Nat.lt_of_lt_of_le (Nat.le_of_ble_eq_true rfl : 120 < 140) hE.1) dX11_goesOn_142 (pc' := 145) rfl ?_
            refine kj_goto dX11_goesOn_145 (pc' := 203) rfl ?_
            have hR := Option.some.inj hT
            subst hR
            exact kj_vret rfl dX11_goesOn_203 (by subst hQ; exact ⟨rfl, rfl⟩)
          · rw [if_neg c12] at hT
            refine kj_iconst dX11_goesOn_137 (pc' := 138) rfl kc_4 ?_
            refine kj_goto dX11_goesOn_138 (pc' := 142) rfl ?_
            refine kj_putI p_RX11_275 rfl rfl rfl (Nat.lt_of_lt_of_le (Nat.le_of_ble_eq_true rfl : 120 < 140) hE.1) dX11_goesOn_142 (pc' := 145) rfl ?_
            refine kj_goto dX11_goesOn_145 (pc' := 203) rfl ?_
            have hR := Option.some.inj hT
            subst hR
            exact kj_vret rfl dX11_goesOn_203 (by subst hQ; exact ⟨rfl, rfl⟩)
        refine lp_ind (P := fun s => KJ E mX11_goesOn rmX11_goesOn 105 [some (.inr 120), none, none, some (.inl y3)] [] s Q) (fun rec105 s ih105 hT => ?_) FU (ς) hT
        obtain ⟨σ, hs⟩ : ∃ z, z = s := ⟨_, rfl⟩
        subst hs
        show KJ E mX11_goesOn rmX11_goesOn 105 [some (.inr 120), none, none, some (.inl y3)] [] σ Q
        rw [X11_goesOn_B105] at hT
        refine kj_aload_n dX11_goesOn_105 (pc' := 106) rfl rfl rfl ?_
        obtain ⟨t13, ht13, hT⟩ := bind_some' hT
        refine kcVi (as := []) (st := []) l_RX11_278 (m_X11_here hE σ ht13) rfl (Nat.lt_of_lt_of_le (Nat.le_of_ble_eq_true rfl : 120 < 140) hE.1) rfl ⟨⟨rfl, rfl⟩, Nat.le_of_ble_eq_true rfl, Nat.le_of_ble_eq_true rfl⟩ (Nat.le_of_ble_eq_true rfl) dX11_goesOn_106 (pc' := 109) rfl ?_
        refine kj_bipush dX11_goesOn_109 (pc' := 111) rfl kb_97 ?_
        refine kj_bipush dX11_goesOn_111 (pc' := 113) rfl kb_122 ?_
        refine kcSz (as := [.inl t13, .inl 97, .inl 122]) (st := []) l_RX11_84 (m_X11_in (Nat.zero_le _) σ t13 97 122 rfl) rfl ⟨⟨rfl, rfl⟩, Nat.le_of_ble_eq_true rfl, Nat.le_of_ble_eq_true rfl⟩ (Nat.le_of_ble_eq_true rfl) dX11_goesOn_113 (pc' := 116) rfl (fun z14 => ?_)
        refine kj_if_eq dX11_goesOn_116 (tgt := 132) rfl (pc' := 119) rfl (fun c15 => ?_) (fun c15 => ?_)
        · rw [if_pos c15] at hT
          exact hX105 σ hT
        · rw [if_neg c15] at hT
          refine kj_aload_n dX11_goesOn_119 (pc' := 120) rfl rfl rfl ?_
          refine kj_dup dX11_goesOn_120 (pc' := 121) rfl ?_
          refine kj_getI f_RX11_272 rfl (Nat.lt_of_lt_of_le (Nat.le_of_ble_eq_true rfl : 120 < 140) hE.1) dX11_goesOn_121 (pc' := 124) rfl ?_
          refine kj_iconst dX11_goesOn_124 (pc' := 125) rfl kc_1 ?_
          refine kj_iadd dX11_goesOn_125 (pc' := 126) rfl ?_
          refine kj_putI p_RX11_272 rfl rfl rfl (Nat.lt_of_lt_of_le (Nat.le_of_ble_eq_true rfl : 120 < 140) hE.1) dX11_goesOn_126 (pc' := 129) rfl ?_
          refine kj_goto dX11_goesOn_129 (pc' := 105) rfl ?_
          exact ih105 (up σ 120 25 ((σ 120 25) + 1)) hT
    · rw [if_pos c5] at hT
      refine kj_aload_n dX11_goesOn_85 (pc' := 86) rfl rfl rfl ?_
      refine kj_iconst dX11_goesOn_86 (pc' := 87) rfl kc_0 ?_
      refine kj_putI p_RX11_275 rfl rfl rfl (Nat.lt_of_lt_of_le (Nat.le_of_ble_eq_true rfl : 120 < 140) hE.1) dX11_goesOn_87 (pc' := 90) rfl ?_
      refine kj_goto dX11_goesOn_90 (pc' := 203) rfl ?_
      have hR := Option.some.inj hT
      subst hR
      exact kj_vret rfl dX11_goesOn_203 (by subst hQ; exact ⟨rfl, rfl⟩)
  have hJ71 : ∀ ς, X11_goesOn_J71 ς = some res → KJ E mX11_goesOn rmX11_goesOn 71 [some (.inr 120)] [] ς Q := by
    intro ς hT
    unfold X11_goesOn_J71 at hT
    refine kj_iconst dX11_goesOn_71 (pc' := 72) rfl kc_0 ?_
    refine kj_istore_n dX11_goesOn_72 (pc' := 73) rfl rfl (Nat.le_of_ble_eq_true rfl) (ls' := [some (.inr 120), none, none, some (.inl 0)]) rfl ?_
    exact hJ73 0 ς hT
  have hJ67 : ∀ ς, X11_goesOn_J67 ς = some res → KJ E mX11_goesOn rmX11_goesOn 67 [some (.inr 120)] [] ς Q := by
    intro ς hT
    unfold X11_goesOn_J67 at hT
    refine kj_iconst dX11_goesOn_67 (pc' := 68) rfl kc_1 ?_
    refine kj_goto dX11_goesOn_68 (pc' := 72) rfl ?_
    refine kj_istore_n dX11_goesOn_72 (pc' := 73) rfl rfl (Nat.le_of_ble_eq_true rfl) (ls' := [some (.inr 120), none, none, some (.inl 1)]) rfl ?_
    exact hJ73 1 ς hT
  refine kj_aload_n dX11_goesOn_0 (pc' := 1) rfl rfl rfl ?_
  refine kj_getI f_RX11_275 rfl (Nat.lt_of_lt_of_le (Nat.le_of_ble_eq_true rfl : 120 < 140) hE.1) dX11_goesOn_1 (pc' := 4) rfl ?_
  refine kj_istore_n dX11_goesOn_4 (pc' := 5) rfl rfl (Nat.le_of_ble_eq_true rfl) (ls' := [some (.inr 120), some (.inl (σ 120 26))]) rfl ?_
  refine kj_aload_n dX11_goesOn_5 (pc' := 6) rfl rfl rfl ?_
  refine kj_getI f_RX11_272 rfl (Nat.lt_of_lt_of_le (Nat.le_of_ble_eq_true rfl : 120 < 140) hE.1) dX11_goesOn_6 (pc' := 9) rfl ?_
  refine kj_istore_n dX11_goesOn_9 (pc' := 10) rfl rfl (Nat.le_of_ble_eq_true rfl) (ls' := [some (.inr 120), some (.inl (σ 120 26)), some (.inl (σ 120 25))]) rfl ?_
  obtain ⟨t1, et1, hT⟩ := lett_i hT
  rw [← et1]
  obtain ⟨t2, et2, hT⟩ := lett_i hT
  rw [← et2]
  have hX10 : ∀ σ, X11_goesOn_T41 t2 t1 σ = some res → KJ E mX11_goesOn rmX11_goesOn 41 [some (.inr 120), some (.inl t1), some (.inl t2)] [] σ Q := by
    intro σ hT
    unfold X11_goesOn_T41 at hT
    refine kj_aload_n dX11_goesOn_41 (pc' := 42) rfl rfl rfl ?_
    refine kj_aload_n dX11_goesOn_42 (pc' := 43) rfl rfl rfl ?_
    refine kj_getI f_RX11_272 rfl (Nat.lt_of_lt_of_le (Nat.le_of_ble_eq_true rfl : 120 < 140) hE.1) dX11_goesOn_43 (pc' := 46) rfl ?_
    refine kj_putI p_RX11_281 rfl rfl rfl (Nat.lt_of_lt_of_le (Nat.le_of_ble_eq_true rfl : 120 < 140) hE.1) dX11_goesOn_46 (pc' := 49) rfl ?_
    refine kj_aload_n dX11_goesOn_49 (pc' := 50) rfl rfl rfl ?_
    refine kj_getI f_RX11_281 rfl (Nat.lt_of_lt_of_le (Nat.le_of_ble_eq_true rfl : 120 < 140) hE.1) dX11_goesOn_50 (pc' := 53) rfl ?_
    refine kj_iload_n dX11_goesOn_53 (pc' := 54) rfl rfl rfl ?_
    refine kj_icmp_ne dX11_goesOn_54 (tgt := 71) rfl (pc' := 57) rfl (fun c3 => ?_) (fun c3 => ?_)
    · rw [if_neg c3] at hT
      refine kj_keep [true] (ls' := [some (.inr 120)]) rfl ?_
      exact hJ71 (up σ 120 27 (σ 120 25)) hT
    · rw [if_pos c3] at hT
      refine kj_iload_n dX11_goesOn_57 (pc' := 58) rfl rfl rfl ?_
      refine kj_iconst dX11_goesOn_58 (pc' := 59) rfl kc_1 ?_
      refine kj_icmp_eq dX11_goesOn_59 (tgt := 67) rfl (pc' := 62) rfl (fun c16 => ?_) (fun c16 => ?_)
      · rw [if_pos c16] at hT
        refine kj_keep [true] (ls' := [some (.inr 120)]) rfl ?_
        exact hJ67 (up σ 120 27 (σ 120 25)) hT
      · rw [if_neg c16] at hT
        refine kj_iload_n dX11_goesOn_62 (pc' := 63) rfl rfl rfl ?_
        refine kj_iconst dX11_goesOn_63 (pc' := 64) rfl kc_2 ?_
        refine kj_icmp_ne dX11_goesOn_64 (tgt := 71) rfl (pc' := 67) rfl (fun c17 => ?_) (fun c17 => ?_)
        · rw [if_neg c17] at hT
          refine kj_keep [true] (ls' := [some (.inr 120)]) rfl ?_
          exact hJ71 (up σ 120 27 (σ 120 25)) hT
        · rw [if_pos c17] at hT
          refine kj_keep [true] (ls' := [some (.inr 120)]) rfl ?_
          exact hJ67 (up σ 120 27 (σ 120 25)) hT
  refine lp_ind (P := fun s => KJ E mX11_goesOn rmX11_goesOn 10 [some (.inr 120), some (.inl t1), some (.inl t2)] [] s Q) (fun rec10 s ih10 hT => ?_) FU (σ) hT
  obtain ⟨σ, hs⟩ : ∃ z, z = s := ⟨_, rfl⟩
  subst hs
  show KJ E mX11_goesOn rmX11_goesOn 10 [some (.inr 120), some (.inl t1), some (.inl t2)] [] σ Q
  rw [X11_goesOn_B10] at hT
  have hJ28_10 : ∀ ς, X11_goesOn_J28 rec10 ς = some res → KJ E mX11_goesOn rmX11_goesOn 28 [some (.inr 120), some (.inl t1), some (.inl t2)] [] ς Q := by
    intro ς hT
    unfold X11_goesOn_J28 at hT
    refine kj_aload_n dX11_goesOn_28 (pc' := 29) rfl rfl rfl ?_
    refine kj_dup dX11_goesOn_29 (pc' := 30) rfl ?_
    refine kj_getI f_RX11_272 rfl (Nat.lt_of_lt_of_le (Nat.le_of_ble_eq_true rfl : 120 < 140) hE.1) dX11_goesOn_30 (pc' := 33) rfl ?_
    refine kj_iconst dX11_goesOn_33 (pc' := 34) rfl kc_1 ?_
    refine kj_iadd dX11_goesOn_34 (pc' := 35) rfl ?_
    refine kj_putI p_RX11_272 rfl rfl rfl (Nat.lt_of_lt_of_le (Nat.le_of_ble_eq_true rfl : 120 < 140) hE.1) dX11_goesOn_35 (pc' := 38) rfl ?_
    refine kj_goto dX11_goesOn_38 (pc' := 10) rfl ?_
    exact ih10 (up ς 120 25 ((ς 120 25) + 1)) hT
  refine kj_aload_n dX11_goesOn_10 (pc' := 11) rfl rfl rfl ?_
  obtain ⟨t18, ht18, hT⟩ := bind_some' hT
  refine kcVi (as := []) (st := []) l_RX11_278 (m_X11_here hE σ ht18) rfl (Nat.lt_of_lt_of_le (Nat.le_of_ble_eq_true rfl : 120 < 140) hE.1) rfl ⟨⟨rfl, rfl⟩, Nat.le_of_ble_eq_true rfl, Nat.le_of_ble_eq_true rfl⟩ (Nat.le_of_ble_eq_true rfl) dX11_goesOn_11 (pc' := 14) rfl ?_
  refine kj_bipush dX11_goesOn_14 (pc' := 16) rfl kb_32 ?_
  refine kj_icmp_eq dX11_goesOn_16 (tgt := 28) rfl (pc' := 19) rfl (fun c19 => ?_) (fun c19 => ?_)
  · rw [if_pos c19] at hT
    exact hJ28_10 σ hT
  · rw [if_neg c19] at hT
    refine kj_aload_n dX11_goesOn_19 (pc' := 20) rfl rfl rfl ?_
    obtain ⟨t20, ht20, hT⟩ := bind_some' hT
    refine kcVi (as := []) (st := []) l_RX11_278 (m_X11_here hE σ ht20) rfl (Nat.lt_of_lt_of_le (Nat.le_of_ble_eq_true rfl : 120 < 140) hE.1) rfl ⟨⟨rfl, rfl⟩, Nat.le_of_ble_eq_true rfl, Nat.le_of_ble_eq_true rfl⟩ (Nat.le_of_ble_eq_true rfl) dX11_goesOn_20 (pc' := 23) rfl ?_
    refine kj_bipush dX11_goesOn_23 (pc' := 25) rfl kb_10 ?_
    refine kj_icmp_ne dX11_goesOn_25 (tgt := 41) rfl (pc' := 28) rfl (fun c21 => ?_) (fun c21 => ?_)
    · rw [if_neg c21] at hT
      exact hX10 σ hT
    · rw [if_pos c21] at hT
      exact hJ28_10 σ hT
def X11_takesWord_J66 (y2 : Int32) (y3 : Int32) (ς : Wd) : Option (Int32 × Wd) :=
  (if ((ς 120 27) + y3) = (ς 120 25) then (ckA (y2 + y3) 18 <| (if (ς 139 ((y2 + y3).toNatClampNeg)) = 0 then ((X11_goesOn ς).bind fun σ8 => some (1, σ8)) else some (0, ς))) else some (0, ς))
def X11_takesWord_T66 (t3 : Int32) (σ : Wd) (x3 : Int32) : Option (Int32 × Wd) :=
  X11_takesWord_J66 t3 x3 σ
def X11_takesWord_B25 (σ : Wd) (t3 : Int32) (kx25 : Int32 → Option (Int32 × Wd)) (rec25 : Int32 → Option (Int32 × Wd)) : Int32 → Option (Int32 × Wd)
  | (x3) => (if (σ 120 25) ≤ ((σ 120 27) + x3) then kx25 x3 else (ckA (t3 + x3) 18 <| (ckA ((σ 120 27) + x3) 300 <| (if (σ 139 ((t3 + x3).toNatClampNeg)) = (σ 138 (((σ 120 27) + x3).toNatClampNeg)) then rec25 (x3 + 1) else kx25 x3))))
def X11_takesWord (σ : Wd) (x1 : Int32) : Option (Int32 × Wd) :=
  (if (σ 120 29) = 0 then (if (σ 120 26) = 1 then ((X11_wordFrom σ x1).bind fun t3 => (lp (X11_takesWord_B25 σ t3 (X11_takesWord_T66 t3 σ)) FU (0))) else some (0, σ)) else some (0, σ))
set_option maxRecDepth 100000 in
set_option maxHeartbeats 4000000 in
theorem m_X11_takesWord {E : JE} (hE : kOk 140 E) (σ : Wd) (x1 : Int32) {res : Int32 × Wd} (hT : X11_takesWord σ x1 = some res) : kMt E yX11_takesWord mX11_takesWord rmX11_takesWord [.inr 120, .inl x1] σ (kQz res.1 res.2) := by
  refine kMt_of (by decide +kernel) rfl (Nat.le_of_ble_eq_true rfl) ?_
  generalize hQ : (kQz res.1 res.2) = Q
  show KJ E mX11_takesWord rmX11_takesWord 0 [some (.inr 120), some (.inl x1)] [] σ Q
  unfold X11_takesWord at hT
  have hJ66 : ∀ y2 y3 ς, X11_takesWord_J66 y2 y3 ς = some res → KJ E mX11_takesWord rmX11_takesWord 66 [some (.inr 120), none, some (.inl y2), some (.inl y3)] [] ς Q := by
    intro y2 y3 ς hT
    unfold X11_takesWord_J66 at hT
    refine kj_aload_n dX11_takesWord_66 (pc' := 67) rfl rfl rfl ?_
    refine kj_getI f_RX11_281 rfl (Nat.lt_of_lt_of_le (Nat.le_of_ble_eq_true rfl : 120 < 140) hE.1) dX11_takesWord_67 (pc' := 70) rfl ?_
    refine kj_iload_n dX11_takesWord_70 (pc' := 71) rfl rfl rfl ?_
    refine kj_iadd dX11_takesWord_71 (pc' := 72) rfl ?_
    refine kj_aload_n dX11_takesWord_72 (pc' := 73) rfl rfl rfl ?_
    refine kj_getI f_RX11_272 rfl (Nat.lt_of_lt_of_le (Nat.le_of_ble_eq_true rfl : 120 < 140) hE.1) dX11_takesWord_73 (pc' := 76) rfl ?_
    refine kj_icmp_ne dX11_takesWord_76 (tgt := 90) rfl (pc' := 79) rfl (fun c5 => ?_) (fun c5 => ?_)
    · rw [if_neg c5] at hT
      refine kj_iconst dX11_takesWord_90 (pc' := 91) rfl kc_0 ?_
      have hR := Option.some.inj hT
      subst hR
      exact kj_zret rfl (Or.inl rfl) dX11_takesWord_91 (by subst hQ; exact ⟨rfl, rfl, (Or.inl rfl)⟩)
    · rw [if_pos c5] at hT
      refine kj_aload_n dX11_takesWord_79 (pc' := 80) rfl rfl rfl ?_
      refine kj_getR f_RX11_69 rfl (Nat.lt_of_lt_of_le (Nat.le_of_ble_eq_true rfl : 120 < 140) hE.1) (hE.2 _ _) (q := 139) rfl dX11_takesWord_80 (pc' := 83) rfl ?_
      refine kj_iload_n dX11_takesWord_83 (pc' := 84) rfl rfl rfl ?_
      refine kj_iload_n dX11_takesWord_84 (pc' := 85) rfl rfl rfl ?_
      refine kj_iadd dX11_takesWord_85 (pc' := 86) rfl ?_
      obtain ⟨hi6, hT⟩ := ckA_some hT
      refine kj_bald rfl (Nat.lt_of_lt_of_le (Nat.le_of_ble_eq_true rfl : 139 < 140) hE.1) hi6 rfl dX11_takesWord_86 (pc' := 87) rfl ?_
      refine kj_if_eq dX11_takesWord_87 (tgt := 92) rfl (pc' := 90) rfl (fun c7 => ?_) (fun c7 => ?_)
      · rw [if_pos c7] at hT
        refine kj_aload_n dX11_takesWord_92 (pc' := 93) rfl rfl rfl ?_
        obtain ⟨σ8, hσ8, hT⟩ := bind_some' hT
        refine kcVv (as := []) (st := []) l_RX11_291 (m_X11_goesOn hE ς hσ8) rfl (Nat.lt_of_lt_of_le (Nat.le_of_ble_eq_true rfl : 120 < 140) hE.1) rfl ⟨⟨rfl, rfl⟩, Nat.le_of_ble_eq_true rfl, Nat.le_of_ble_eq_true rfl⟩ (Nat.le_of_ble_eq_true rfl) dX11_takesWord_93 (pc' := 96) rfl ?_
        refine kj_iconst dX11_takesWord_96 (pc' := 97) rfl kc_1 ?_
        have hR := Option.some.inj hT
        subst hR
        exact kj_zret rfl (Or.inr rfl) dX11_takesWord_97 (by subst hQ; exact ⟨rfl, rfl, (Or.inr rfl)⟩)
      · rw [if_neg c7] at hT
        refine kj_iconst dX11_takesWord_90 (pc' := 91) rfl kc_0 ?_
        have hR := Option.some.inj hT
        subst hR
        exact kj_zret rfl (Or.inl rfl) dX11_takesWord_91 (by subst hQ; exact ⟨rfl, rfl, (Or.inl rfl)⟩)
  refine kj_aload_n dX11_takesWord_0 (pc' := 1) rfl rfl rfl ?_
  refine kj_getI f_RX11_287 rfl (Nat.lt_of_lt_of_le (Nat.le_of_ble_eq_true rfl : 120 < 140) hE.1) dX11_takesWord_1 (pc' := 4) rfl ?_
  refine kj_if_ne dX11_takesWord_4 (tgt := 15) rfl (pc' := 7) rfl (fun c1 => ?_) (fun c1 => ?_)
  · rw [if_neg c1] at hT
    refine kj_iconst dX11_takesWord_15 (pc' := 16) rfl kc_0 ?_
    have hR := Option.some.inj hT
    subst hR
    exact kj_zret rfl (Or.inl rfl) dX11_takesWord_16 (by subst hQ; exact ⟨rfl, rfl, (Or.inl rfl)⟩)
  · rw [if_pos c1] at hT
    refine kj_aload_n dX11_takesWord_7 (pc' := 8) rfl rfl rfl ?_
    refine kj_getI f_RX11_275 rfl (Nat.lt_of_lt_of_le (Nat.le_of_ble_eq_true rfl : 120 < 140) hE.1) dX11_takesWord_8 (pc' := 11) rfl ?_
    refine kj_iconst dX11_takesWord_11 (pc' := 12) rfl kc_1 ?_
    refine kj_icmp_eq dX11_takesWord_12 (tgt := 17) rfl (pc' := 15) rfl (fun c2 => ?_) (fun c2 => ?_)
    · rw [if_pos c2] at hT
      refine kj_aload_n dX11_takesWord_17 (pc' := 18) rfl rfl rfl ?_
      refine kj_iload_n dX11_takesWord_18 (pc' := 19) rfl rfl rfl ?_
      obtain ⟨t3, ht3, hT⟩ := bind_some' hT
      refine kcVi (as := [.inl x1]) (st := []) l_RX11_257 (m_X11_wordFrom hE σ x1 ht3) rfl (Nat.lt_of_lt_of_le (Nat.le_of_ble_eq_true rfl : 120 < 140) hE.1) rfl ⟨⟨rfl, rfl⟩, Nat.le_of_ble_eq_true rfl, Nat.le_of_ble_eq_true rfl⟩ (Nat.le_of_ble_eq_true rfl) dX11_takesWord_19 (pc' := 22) rfl ?_
      refine kj_istore_n dX11_takesWord_22 (pc' := 23) rfl rfl (Nat.le_of_ble_eq_true rfl) (ls' := [some (.inr 120), some (.inl x1), some (.inl t3)]) rfl ?_
      refine kj_iconst dX11_takesWord_23 (pc' := 24) rfl kc_0 ?_
      refine kj_istore_n dX11_takesWord_24 (pc' := 25) rfl rfl (Nat.le_of_ble_eq_true rfl) (ls' := [some (.inr 120), some (.inl x1), some (.inl t3), some (.inl 0)]) rfl ?_
      refine kj_keep [true, false, true, true] (ls' := [some (.inr 120), none, some (.inl t3), some (.inl 0)]) rfl ?_
      have hX25 : ∀ x3, X11_takesWord_T66 t3 σ x3 = some res → KJ E mX11_takesWord rmX11_takesWord 66 [some (.inr 120), none, some (.inl t3), some (.inl x3)] [] σ Q := by
        intro x3 hT
        unfold X11_takesWord_T66 at hT
        exact hJ66 t3 x3 σ hT
      refine lp_ind (P := fun s => KJ E mX11_takesWord rmX11_takesWord 25 [some (.inr 120), none, some (.inl t3), some (.inl s)] [] σ Q) (fun rec25 s ih25 hT => ?_) FU (0) hT
      obtain ⟨x3, hs⟩ : ∃ z, z = s := ⟨_, rfl⟩
      subst hs
      show KJ E mX11_takesWord rmX11_takesWord 25 [some (.inr 120), none, some (.inl t3), some (.inl x3)] [] σ Q
      rw [X11_takesWord_B25] at hT
      refine kj_aload_n dX11_takesWord_25 (pc' := 26) rfl rfl rfl ?_
      refine kj_getI f_RX11_281 rfl (Nat.lt_of_lt_of_le (Nat.le_of_ble_eq_true rfl : 120 < 140) hE.1) dX11_takesWord_26 (pc' := 29) rfl ?_
      refine kj_iload_n dX11_takesWord_29 (pc' := 30) rfl rfl rfl ?_
      refine kj_iadd dX11_takesWord_30 (pc' := 31) rfl ?_
      refine kj_aload_n dX11_takesWord_31 (pc' := 32) rfl rfl rfl ?_
      refine kj_getI f_RX11_272 rfl (Nat.lt_of_lt_of_le (Nat.le_of_ble_eq_true rfl : 120 < 140) hE.1) dX11_takesWord_32 (pc' := 35) rfl ?_
      refine kj_icmp_ge dX11_takesWord_35 (tgt := 66) rfl (pc' := 38) rfl (fun c9 => ?_) (fun c9 => ?_)
      · rw [if_pos c9] at hT
        exact hX25 x3 hT
      · rw [if_neg c9] at hT
        refine kj_aload_n dX11_takesWord_38 (pc' := 39) rfl rfl rfl ?_
        refine kj_getR f_RX11_69 rfl (Nat.lt_of_lt_of_le (Nat.le_of_ble_eq_true rfl : 120 < 140) hE.1) (hE.2 _ _) (q := 139) rfl dX11_takesWord_39 (pc' := 42) rfl ?_
        refine kj_iload_n dX11_takesWord_42 (pc' := 43) rfl rfl rfl ?_
        refine kj_iload_n dX11_takesWord_43 (pc' := 44) rfl rfl rfl ?_
        refine kj_iadd dX11_takesWord_44 (pc' := 45) rfl ?_
        obtain ⟨hi10, hT⟩ := ckA_some hT
        refine kj_bald rfl (Nat.lt_of_lt_of_le (Nat.le_of_ble_eq_true rfl : 139 < 140) hE.1) hi10 rfl dX11_takesWord_45 (pc' := 46) rfl ?_
        refine kj_aload_n dX11_takesWord_46 (pc' := 47) rfl rfl rfl ?_
        refine kj_getR f_RX11_66 rfl (Nat.lt_of_lt_of_le (Nat.le_of_ble_eq_true rfl : 120 < 140) hE.1) (hE.2 _ _) (q := 138) rfl dX11_takesWord_47 (pc' := 50) rfl ?_
        refine kj_aload_n dX11_takesWord_50 (pc' := 51) rfl rfl rfl ?_
        refine kj_getI f_RX11_281 rfl (Nat.lt_of_lt_of_le (Nat.le_of_ble_eq_true rfl : 120 < 140) hE.1) dX11_takesWord_51 (pc' := 54) rfl ?_
        refine kj_iload_n dX11_takesWord_54 (pc' := 55) rfl rfl rfl ?_
        refine kj_iadd dX11_takesWord_55 (pc' := 56) rfl ?_
        obtain ⟨hi11, hT⟩ := ckA_some hT
        refine kj_iald rfl (Nat.lt_of_lt_of_le (Nat.le_of_ble_eq_true rfl : 138 < 140) hE.1) hi11 rfl dX11_takesWord_56 (pc' := 57) rfl ?_
        refine kj_icmp_ne dX11_takesWord_57 (tgt := 66) rfl (pc' := 60) rfl (fun c12 => ?_) (fun c12 => ?_)
        · rw [if_neg c12] at hT
          exact hX25 x3 hT
        · rw [if_pos c12] at hT
          refine kj_iinc dX11_takesWord_60 (pc' := 63) rfl rfl (congrArg (_ + ·) kc_1) (Nat.le_of_ble_eq_true rfl) (ls' := [some (.inr 120), none, some (.inl t3), some (.inl (x3 + 1))]) rfl ?_
          refine kj_goto dX11_takesWord_63 (pc' := 25) rfl ?_
          exact ih25 (x3 + 1) hT
    · rw [if_neg c2] at hT
      refine kj_iconst dX11_takesWord_15 (pc' := 16) rfl kc_0 ?_
      have hR := Option.some.inj hT
      subst hR
      exact kj_zret rfl (Or.inl rfl) dX11_takesWord_16 (by subst hQ; exact ⟨rfl, rfl, (Or.inl rfl)⟩)
def X11_needsNumber (σ : Wd) (x1 : Int32) (x2 : Int32) : Option (Int32 × Wd) :=
  (if (σ 120 29) = 0 then (if (σ 120 26) = 2 then (if (X11_in (σ 120 28) x1 x2) = 0 then some (x1, up σ 120 29 1) else ((X11_goesOn σ).bind fun σ5 => some (σ 120 28, σ5))) else some (x1, up σ 120 29 1)) else some (x1, up σ 120 29 1))
set_option maxRecDepth 100000 in
set_option maxHeartbeats 4000000 in
theorem m_X11_needsNumber {E : JE} (hE : kOk 140 E) (σ : Wd) (x1 : Int32) (x2 : Int32) {res : Int32 × Wd} (hT : X11_needsNumber σ x1 x2 = some res) : kMt E yX11_needsNumber mX11_needsNumber rmX11_needsNumber [.inr 120, .inl x1, .inl x2] σ (kQi res.1 res.2) := by
  refine kMt_of (by decide +kernel) rfl (Nat.le_of_ble_eq_true rfl) ?_
  generalize hQ : (kQi res.1 res.2) = Q
  show KJ E mX11_needsNumber rmX11_needsNumber 0 [some (.inr 120), some (.inl x1), some (.inl x2)] [] σ Q
  unfold X11_needsNumber at hT
  refine kj_aload_n dX11_needsNumber_0 (pc' := 1) rfl rfl rfl ?_
  refine kj_getI f_RX11_287 rfl (Nat.lt_of_lt_of_le (Nat.le_of_ble_eq_true rfl : 120 < 140) hE.1) dX11_needsNumber_1 (pc' := 4) rfl ?_
  refine kj_if_ne dX11_needsNumber_4 (tgt := 27) rfl (pc' := 7) rfl (fun c1 => ?_) (fun c1 => ?_)
  · rw [if_neg c1] at hT
    refine kj_aload_n dX11_needsNumber_27 (pc' := 28) rfl rfl rfl ?_
    refine kj_iconst dX11_needsNumber_28 (pc' := 29) rfl kc_1 ?_
    refine kj_putI p_RX11_287 (by decide +kernel) (by decide +kernel) rfl (Nat.lt_of_lt_of_le (Nat.le_of_ble_eq_true rfl : 120 < 140) hE.1) dX11_needsNumber_29 (pc' := 32) rfl ?_
    refine kj_iload_n dX11_needsNumber_32 (pc' := 33) rfl rfl rfl ?_
    have hR := Option.some.inj hT
    subst hR
    exact kj_iret rfl dX11_needsNumber_33 (by subst hQ; exact ⟨rfl, rfl⟩)
  · rw [if_pos c1] at hT
    refine kj_aload_n dX11_needsNumber_7 (pc' := 8) rfl rfl rfl ?_
    refine kj_getI f_RX11_275 rfl (Nat.lt_of_lt_of_le (Nat.le_of_ble_eq_true rfl : 120 < 140) hE.1) dX11_needsNumber_8 (pc' := 11) rfl ?_
    refine kj_iconst dX11_needsNumber_11 (pc' := 12) rfl kc_2 ?_
    refine kj_icmp_ne dX11_needsNumber_12 (tgt := 27) rfl (pc' := 15) rfl (fun c2 => ?_) (fun c2 => ?_)
    · rw [if_neg c2] at hT
      refine kj_aload_n dX11_needsNumber_27 (pc' := 28) rfl rfl rfl ?_
      refine kj_iconst dX11_needsNumber_28 (pc' := 29) rfl kc_1 ?_
      refine kj_putI p_RX11_287 (by decide +kernel) (by decide +kernel) rfl (Nat.lt_of_lt_of_le (Nat.le_of_ble_eq_true rfl : 120 < 140) hE.1) dX11_needsNumber_29 (pc' := 32) rfl ?_
      refine kj_iload_n dX11_needsNumber_32 (pc' := 33) rfl rfl rfl ?_
      have hR := Option.some.inj hT
      subst hR
      exact kj_iret rfl dX11_needsNumber_33 (by subst hQ; exact ⟨rfl, rfl⟩)
    · rw [if_pos c2] at hT
      refine kj_aload_n dX11_needsNumber_15 (pc' := 16) rfl rfl rfl ?_
      refine kj_getI f_RX11_284 rfl (Nat.lt_of_lt_of_le (Nat.le_of_ble_eq_true rfl : 120 < 140) hE.1) dX11_needsNumber_16 (pc' := 19) rfl ?_
      refine kj_iload_n dX11_needsNumber_19 (pc' := 20) rfl rfl rfl ?_
      refine kj_iload_n dX11_needsNumber_20 (pc' := 21) rfl rfl rfl ?_
      refine kcSz (as := [.inl (σ 120 28), .inl x1, .inl x2]) (st := []) l_RX11_84 (m_X11_in (Nat.zero_le _) σ (σ 120 28) x1 x2 rfl) rfl ⟨⟨rfl, rfl⟩, Nat.le_of_ble_eq_true rfl, Nat.le_of_ble_eq_true rfl⟩ (Nat.le_of_ble_eq_true rfl) dX11_needsNumber_21 (pc' := 24) rfl (fun z3 => ?_)
      refine kj_if_ne dX11_needsNumber_24 (tgt := 34) rfl (pc' := 27) rfl (fun c4 => ?_) (fun c4 => ?_)
      · rw [if_neg c4] at hT
        refine kj_aload_n dX11_needsNumber_34 (pc' := 35) rfl rfl rfl ?_
        refine kj_getI f_RX11_284 rfl (Nat.lt_of_lt_of_le (Nat.le_of_ble_eq_true rfl : 120 < 140) hE.1) dX11_needsNumber_35 (pc' := 38) rfl ?_
        refine kj_istore_n dX11_needsNumber_38 (pc' := 39) rfl rfl (Nat.le_of_ble_eq_true rfl) (ls' := [some (.inr 120), some (.inl x1), some (.inl x2), some (.inl (σ 120 28))]) rfl ?_
        refine kj_aload_n dX11_needsNumber_39 (pc' := 40) rfl rfl rfl ?_
        obtain ⟨σ5, hσ5, hT⟩ := bind_some' hT
        refine kcVv (as := []) (st := []) l_RX11_291 (m_X11_goesOn hE σ hσ5) rfl (Nat.lt_of_lt_of_le (Nat.le_of_ble_eq_true rfl : 120 < 140) hE.1) rfl ⟨⟨rfl, rfl⟩, Nat.le_of_ble_eq_true rfl, Nat.le_of_ble_eq_true rfl⟩ (Nat.le_of_ble_eq_true rfl) dX11_needsNumber_40 (pc' := 43) rfl ?_
        refine kj_iload_n dX11_needsNumber_43 (pc' := 44) rfl rfl rfl ?_
        have hR := Option.some.inj hT
        subst hR
        exact kj_iret rfl dX11_needsNumber_44 (by subst hQ; exact ⟨rfl, rfl⟩)
      · rw [if_pos c4] at hT
        refine kj_aload_n dX11_needsNumber_27 (pc' := 28) rfl rfl rfl ?_
        refine kj_iconst dX11_needsNumber_28 (pc' := 29) rfl kc_1 ?_
        refine kj_putI p_RX11_287 (by decide +kernel) (by decide +kernel) rfl (Nat.lt_of_lt_of_le (Nat.le_of_ble_eq_true rfl : 120 < 140) hE.1) dX11_needsNumber_29 (pc' := 32) rfl ?_
        refine kj_iload_n dX11_needsNumber_32 (pc' := 33) rfl rfl rfl ?_
        have hR := Option.some.inj hT
        subst hR
        exact kj_iret rfl dX11_needsNumber_33 (by subst hQ; exact ⟨rfl, rfl⟩)
def X11_needsLetters_J86 (y1 : Int32) (ς : Wd) : Option (Int32 × Wd) :=
  (if (ς 120 29) = 0 then (if y1 = 0 then some (y1, up ς 120 29 1) else some (y1, up ς 120 29 0)) else some (y1, up ς 120 29 1))
def X11_needsLetters_T86 (x1 : Int32) (σ : Wd) : Option (Int32 × Wd) :=
  X11_needsLetters_J86 x1 σ
def X11_needsLetters_J80 (rec7 : Int32 × Int32 × Wd → Option (Int32 × Wd)) (y1 : Int32) (y2 : Int32) (ς : Wd) : Option (Int32 × Wd) :=
  rec7 (y1, y2 + 1, ς)
def X11_needsLetters_J67 (rec7 : Int32 × Int32 × Wd → Option (Int32 × Wd)) (y1 : Int32) (y2 : Int32) (y3 : Int32) (ς : Wd) : Option (Int32 × Wd) :=
  (if (ς 120 29) = 0 then X11_needsLetters_J80 rec7 (y1 ||| (1 <<< (y3 &&& 31))) y2 ς else X11_needsLetters_J80 rec7 y1 y2 ς)
def X11_needsLetters_B7 (kx7 : Int32 → Wd → Option (Int32 × Wd)) (rec7 : Int32 × Int32 × Wd → Option (Int32 × Wd)) : Int32 × Int32 × Wd → Option (Int32 × Wd)
  | (x1, x2, σ) => (if (σ 120 25) ≤ x2 then kx7 x1 σ else (if (σ 120 26) = 1 then (if (σ 120 29) = 0 then (ckA x2 300 <| (if (σ 122 0) ≤ ((σ 138 x2.toNatClampNeg) - 97) then X11_needsLetters_J67 rec7 x1 x2 ((σ 138 x2.toNatClampNeg) - 97) (up σ 120 29 1) else (if (X11_has x1 ((σ 138 x2.toNatClampNeg) - 97)) = 0 then X11_needsLetters_J67 rec7 x1 x2 ((σ 138 x2.toNatClampNeg) - 97) (up σ 120 29 0) else X11_needsLetters_J67 rec7 x1 x2 ((σ 138 x2.toNatClampNeg) - 97) (up σ 120 29 1)))) else kx7 x1 σ) else kx7 x1 σ))
def X11_needsLetters (σ : Wd) : Option (Int32 × Wd) :=
  (lp (X11_needsLetters_B7 X11_needsLetters_T86) FU (0, σ 120 27, σ))
set_option maxRecDepth 100000 in
set_option maxHeartbeats 4000000 in
theorem m_X11_needsLetters {E : JE} (hE : kOk 140 E) (σ : Wd) {res : Int32 × Wd} (hT : X11_needsLetters σ = some res) : kMt E yX11_needsLetters mX11_needsLetters rmX11_needsLetters [.inr 120] σ (kQi res.1 res.2) := by
  refine kMt_of (by decide +kernel) rfl (Nat.le_of_ble_eq_true rfl) ?_
  generalize hQ : (kQi res.1 res.2) = Q
  show KJ E mX11_needsLetters rmX11_needsLetters 0 [some (.inr 120)] [] σ Q
  unfold X11_needsLetters at hT
  have hJ86 : ∀ y1 ς, X11_needsLetters_J86 y1 ς = some res → KJ E mX11_needsLetters rmX11_needsLetters 86 [some (.inr 120), some (.inl y1)] [] ς Q := by
    intro y1 ς hT
    unfold X11_needsLetters_J86 at hT
    refine kj_aload_n dX11_needsLetters_86 (pc' := 87) rfl rfl rfl ?_
    refine kj_aload_n dX11_needsLetters_87 (pc' := 88) rfl rfl rfl ?_
    refine kj_getI f_RX11_287 rfl (Nat.lt_of_lt_of_le (Nat.le_of_ble_eq_true rfl : 120 < 140) hE.1) dX11_needsLetters_88 (pc' := 91) rfl ?_
    refine kj_if_ne dX11_needsLetters_91 (tgt := 98) rfl (pc' := 94) rfl (fun c1 => ?_) (fun c1 => ?_)
    · rw [if_neg c1] at hT
      refine kj_iconst dX11_needsLetters_98 (pc' := 99) rfl kc_1 ?_
      refine kj_goto dX11_needsLetters_99 (pc' := 103) rfl ?_
      refine kj_putI p_RX11_287 (by decide +kernel) (by decide +kernel) rfl (Nat.lt_of_lt_of_le (Nat.le_of_ble_eq_true rfl : 120 < 140) hE.1) dX11_needsLetters_103 (pc' := 106) rfl ?_
      refine kj_iload_n dX11_needsLetters_106 (pc' := 107) rfl rfl rfl ?_
      have hR := Option.some.inj hT
      subst hR
      exact kj_iret rfl dX11_needsLetters_107 (by subst hQ; exact ⟨rfl, rfl⟩)
    · rw [if_pos c1] at hT
      refine kj_iload_n dX11_needsLetters_94 (pc' := 95) rfl rfl rfl ?_
      refine kj_if_ne dX11_needsLetters_95 (tgt := 102) rfl (pc' := 98) rfl (fun c2 => ?_) (fun c2 => ?_)
      · rw [if_neg c2] at hT
        refine kj_iconst dX11_needsLetters_102 (pc' := 103) rfl kc_0 ?_
        refine kj_putI p_RX11_287 (by decide +kernel) (by decide +kernel) rfl (Nat.lt_of_lt_of_le (Nat.le_of_ble_eq_true rfl : 120 < 140) hE.1) dX11_needsLetters_103 (pc' := 106) rfl ?_
        refine kj_iload_n dX11_needsLetters_106 (pc' := 107) rfl rfl rfl ?_
        have hR := Option.some.inj hT
        subst hR
        exact kj_iret rfl dX11_needsLetters_107 (by subst hQ; exact ⟨rfl, rfl⟩)
      · rw [if_pos c2] at hT
        refine kj_iconst dX11_needsLetters_98 (pc' := 99) rfl kc_1 ?_
        refine kj_goto dX11_needsLetters_99 (pc' := 103) rfl ?_
        refine kj_putI p_RX11_287 (by decide +kernel) (by decide +kernel) rfl (Nat.lt_of_lt_of_le (Nat.le_of_ble_eq_true rfl : 120 < 140) hE.1) dX11_needsLetters_103 (pc' := 106) rfl ?_
        refine kj_iload_n dX11_needsLetters_106 (pc' := 107) rfl rfl rfl ?_
        have hR := Option.some.inj hT
        subst hR
        exact kj_iret rfl dX11_needsLetters_107 (by subst hQ; exact ⟨rfl, rfl⟩)
  refine kj_iconst dX11_needsLetters_0 (pc' := 1) rfl kc_0 ?_
  refine kj_istore_n dX11_needsLetters_1 (pc' := 2) rfl rfl (Nat.le_of_ble_eq_true rfl) (ls' := [some (.inr 120), some (.inl 0)]) rfl ?_
  refine kj_aload_n dX11_needsLetters_2 (pc' := 3) rfl rfl rfl ?_
  refine kj_getI f_RX11_281 rfl (Nat.lt_of_lt_of_le (Nat.le_of_ble_eq_true rfl : 120 < 140) hE.1) dX11_needsLetters_3 (pc' := 6) rfl ?_
  refine kj_istore_n dX11_needsLetters_6 (pc' := 7) rfl rfl (Nat.le_of_ble_eq_true rfl) (ls' := [some (.inr 120), some (.inl 0), some (.inl (σ 120 27))]) rfl ?_
  have hX7 : ∀ x1 σ, X11_needsLetters_T86 x1 σ = some res → KJ E mX11_needsLetters rmX11_needsLetters 86 [some (.inr 120), some (.inl x1)] [] σ Q := by
    intro x1 σ hT
    unfold X11_needsLetters_T86 at hT
    exact hJ86 x1 σ hT
  refine lp_ind (P := fun s => KJ E mX11_needsLetters rmX11_needsLetters 7 [some (.inr 120), some (.inl s.1), some (.inl s.2.1)] [] s.2.2 Q) (fun rec7 s ih7 hT => ?_) FU (0, σ 120 27, σ) hT
  obtain ⟨x1, x2, σ⟩ := s
  show KJ E mX11_needsLetters rmX11_needsLetters 7 [some (.inr 120), some (.inl x1), some (.inl x2)] [] σ Q
  rw [X11_needsLetters_B7] at hT
  have hJ80_7 : ∀ y1 y2 ς, X11_needsLetters_J80 rec7 y1 y2 ς = some res → KJ E mX11_needsLetters rmX11_needsLetters 80 [some (.inr 120), some (.inl y1), some (.inl y2)] [] ς Q := by
    intro y1 y2 ς hT
    unfold X11_needsLetters_J80 at hT
    refine kj_iinc dX11_needsLetters_80 (pc' := 83) rfl rfl (congrArg (_ + ·) kc_1) (Nat.le_of_ble_eq_true rfl) (ls' := [some (.inr 120), some (.inl y1), some (.inl (y2 + 1))]) rfl ?_
    refine kj_goto dX11_needsLetters_83 (pc' := 7) rfl ?_
    exact ih7 (y1, y2 + 1, ς) hT
  have hJ67_7 : ∀ y1 y2 y3 ς, X11_needsLetters_J67 rec7 y1 y2 y3 ς = some res → KJ E mX11_needsLetters rmX11_needsLetters 67 [some (.inr 120), some (.inl y1), some (.inl y2), some (.inl y3)] [] ς Q := by
    intro y1 y2 y3 ς hT
    unfold X11_needsLetters_J67 at hT
    refine kj_aload_n dX11_needsLetters_67 (pc' := 68) rfl rfl rfl ?_
    refine kj_getI f_RX11_287 rfl (Nat.lt_of_lt_of_le (Nat.le_of_ble_eq_true rfl : 120 < 140) hE.1) dX11_needsLetters_68 (pc' := 71) rfl ?_
    refine kj_if_ne dX11_needsLetters_71 (tgt := 80) rfl (pc' := 74) rfl (fun c8 => ?_) (fun c8 => ?_)
    · rw [if_neg c8] at hT
      refine kj_keep [true, true, true] (ls' := [some (.inr 120), some (.inl y1), some (.inl y2)]) rfl ?_
      exact hJ80_7 y1 y2 ς hT
    · rw [if_pos c8] at hT
      refine kj_iload_n dX11_needsLetters_74 (pc' := 75) rfl rfl rfl ?_
      refine kj_iconst dX11_needsLetters_75 (pc' := 76) rfl kc_1 ?_
      refine kj_iload_n dX11_needsLetters_76 (pc' := 77) rfl rfl rfl ?_
      refine kj_ishl dX11_needsLetters_77 (pc' := 78) rfl ?_
      refine kj_ior dX11_needsLetters_78 (pc' := 79) rfl ?_
      refine kj_istore_n dX11_needsLetters_79 (pc' := 80) rfl rfl (Nat.le_of_ble_eq_true rfl) (ls' := [some (.inr 120), some (.inl (y1 ||| (1 <<< (y3 &&& 31)))), some (.inl y2), some (.inl y3)]) rfl ?_
      refine kj_keep [true, true, true] (ls' := [some (.inr 120), some (.inl (y1 ||| (1 <<< (y3 &&& 31)))), some (.inl y2)]) rfl ?_
      exact hJ80_7 (y1 ||| (1 <<< (y3 &&& 31))) y2 ς hT
  refine kj_iload_n dX11_needsLetters_7 (pc' := 8) rfl rfl rfl ?_
  refine kj_aload_n dX11_needsLetters_8 (pc' := 9) rfl rfl rfl ?_
  refine kj_getI f_RX11_272 rfl (Nat.lt_of_lt_of_le (Nat.le_of_ble_eq_true rfl : 120 < 140) hE.1) dX11_needsLetters_9 (pc' := 12) rfl ?_
  refine kj_icmp_ge dX11_needsLetters_12 (tgt := 86) rfl (pc' := 15) rfl (fun c3 => ?_) (fun c3 => ?_)
  · rw [if_pos c3] at hT
    refine kj_keep [true, true] (ls' := [some (.inr 120), some (.inl x1)]) rfl ?_
    exact hX7 x1 σ hT
  · rw [if_neg c3] at hT
    refine kj_aload_n dX11_needsLetters_15 (pc' := 16) rfl rfl rfl ?_
    refine kj_getI f_RX11_275 rfl (Nat.lt_of_lt_of_le (Nat.le_of_ble_eq_true rfl : 120 < 140) hE.1) dX11_needsLetters_16 (pc' := 19) rfl ?_
    refine kj_iconst dX11_needsLetters_19 (pc' := 20) rfl kc_1 ?_
    refine kj_icmp_ne dX11_needsLetters_20 (tgt := 86) rfl (pc' := 23) rfl (fun c4 => ?_) (fun c4 => ?_)
    · rw [if_neg c4] at hT
      refine kj_keep [true, true] (ls' := [some (.inr 120), some (.inl x1)]) rfl ?_
      exact hX7 x1 σ hT
    · rw [if_pos c4] at hT
      refine kj_aload_n dX11_needsLetters_23 (pc' := 24) rfl rfl rfl ?_
      refine kj_getI f_RX11_287 rfl (Nat.lt_of_lt_of_le (Nat.le_of_ble_eq_true rfl : 120 < 140) hE.1) dX11_needsLetters_24 (pc' := 27) rfl ?_
      refine kj_if_ne dX11_needsLetters_27 (tgt := 86) rfl (pc' := 30) rfl (fun c5 => ?_) (fun c5 => ?_)
      · rw [if_neg c5] at hT
        refine kj_keep [true, true] (ls' := [some (.inr 120), some (.inl x1)]) rfl ?_
        exact hX7 x1 σ hT
      · rw [if_pos c5] at hT
        refine kj_aload_n dX11_needsLetters_30 (pc' := 31) rfl rfl rfl ?_
        refine kj_getR f_RX11_66 rfl (Nat.lt_of_lt_of_le (Nat.le_of_ble_eq_true rfl : 120 < 140) hE.1) (hE.2 _ _) (q := 138) rfl dX11_needsLetters_31 (pc' := 34) rfl ?_
        refine kj_iload_n dX11_needsLetters_34 (pc' := 35) rfl rfl rfl ?_
        obtain ⟨hi6, hT⟩ := ckA_some hT
        refine kj_iald rfl (Nat.lt_of_lt_of_le (Nat.le_of_ble_eq_true rfl : 138 < 140) hE.1) hi6 rfl dX11_needsLetters_35 (pc' := 36) rfl ?_
        refine kj_bipush dX11_needsLetters_36 (pc' := 38) rfl kb_97 ?_
        refine kj_isub dX11_needsLetters_38 (pc' := 39) rfl ?_
        refine kj_istore_n dX11_needsLetters_39 (pc' := 40) rfl rfl (Nat.le_of_ble_eq_true rfl) (ls' := [some (.inr 120), some (.inl x1), some (.inl x2), some (.inl ((σ 138 x2.toNatClampNeg) - 97))]) rfl ?_
        refine kj_aload_n dX11_needsLetters_40 (pc' := 41) rfl rfl rfl ?_
        refine kj_iload_n dX11_needsLetters_41 (pc' := 42) rfl rfl rfl ?_
        refine kj_aload_n dX11_needsLetters_42 (pc' := 43) rfl rfl rfl ?_
        refine kj_getR f_RX11_17 rfl (Nat.lt_of_lt_of_le (Nat.le_of_ble_eq_true rfl : 120 < 140) hE.1) (hE.2 _ _) (q := 122) rfl dX11_needsLetters_43 (pc' := 46) rfl ?_
        refine kj_iconst dX11_needsLetters_46 (pc' := 47) rfl kc_0 ?_
        refine kj_iald rfl (Nat.lt_of_lt_of_le (Nat.le_of_ble_eq_true rfl : 122 < 140) hE.1) (vp_lit (by decide +kernel)) (j := 0) (by decide +kernel) dX11_needsLetters_47 (pc' := 48) rfl ?_
        refine kj_icmp_ge dX11_needsLetters_48 (tgt := 59) rfl (pc' := 51) rfl (fun c7 => ?_) (fun c7 => ?_)
        · rw [if_pos c7] at hT
          refine kj_iconst dX11_needsLetters_59 (pc' := 60) rfl kc_1 ?_
          refine kj_goto dX11_needsLetters_60 (pc' := 64) rfl ?_
          refine kj_putI p_RX11_287 (by decide +kernel) (by decide +kernel) rfl (Nat.lt_of_lt_of_le (Nat.le_of_ble_eq_true rfl : 120 < 140) hE.1) dX11_needsLetters_64 (pc' := 67) rfl ?_
          exact hJ67_7 x1 x2 ((σ 138 x2.toNatClampNeg) - 97) (up σ 120 29 1) hT
        · rw [if_neg c7] at hT
          refine kj_iload_n dX11_needsLetters_51 (pc' := 52) rfl rfl rfl ?_
          refine kj_iload_n dX11_needsLetters_52 (pc' := 53) rfl rfl rfl ?_
          refine kcSz (as := [.inl x1, .inl ((σ 138 x2.toNatClampNeg) - 97)]) (st := [.inr 120]) l_RX11_128 (m_X11_has (Nat.zero_le _) σ x1 ((σ 138 x2.toNatClampNeg) - 97) rfl) rfl ⟨⟨rfl, rfl⟩, Nat.le_of_ble_eq_true rfl, Nat.le_of_ble_eq_true rfl⟩ (Nat.le_of_ble_eq_true rfl) dX11_needsLetters_53 (pc' := 56) rfl (fun z9 => ?_)
          refine kj_if_eq dX11_needsLetters_56 (tgt := 63) rfl (pc' := 59) rfl (fun c10 => ?_) (fun c10 => ?_)
          · rw [if_pos c10] at hT
            refine kj_iconst dX11_needsLetters_63 (pc' := 64) rfl kc_0 ?_
            refine kj_putI p_RX11_287 (by decide +kernel) (by decide +kernel) rfl (Nat.lt_of_lt_of_le (Nat.le_of_ble_eq_true rfl : 120 < 140) hE.1) dX11_needsLetters_64 (pc' := 67) rfl ?_
            exact hJ67_7 x1 x2 ((σ 138 x2.toNatClampNeg) - 97) (up σ 120 29 0) hT
          · rw [if_neg c10] at hT
            refine kj_iconst dX11_needsLetters_59 (pc' := 60) rfl kc_1 ?_
            refine kj_goto dX11_needsLetters_60 (pc' := 64) rfl ?_
            refine kj_putI p_RX11_287 (by decide +kernel) (by decide +kernel) rfl (Nat.lt_of_lt_of_le (Nat.le_of_ble_eq_true rfl : 120 < 140) hE.1) dX11_needsLetters_64 (pc' := 67) rfl ?_
            exact hJ67_7 x1 x2 ((σ 138 x2.toNatClampNeg) - 97) (up σ 120 29 1) hT
def X11_readsWeight_J74 (rec51 : Int32 × Wd → Option (Wd)) (y3 : Int32) (ς : Wd) : Option (Wd) :=
  rec51 (y3 + 1, ς)
def X11_readsWeight_B51 (y1 : Int32) (t6 : Int32) (rec51 : Int32 × Wd → Option (Wd)) : Int32 × Wd → Option (Wd)
  | (x3, σ) => (if 7 ≤ x3 then some σ else (if (X11_has y1 x3) = 0 then X11_readsWeight_J74 rec51 x3 σ else (ckA (3 + x3) 42 <| X11_readsWeight_J74 rec51 x3 (up σ 122 ((3 + x3).toNatClampNeg) t6))))
def X11_readsWeight_J29 (y1 : Int32) (ς : Wd) : Option (Wd) :=
  (if (ς 120 29) = 0 then ((X11_goesOn ς).bind fun σ5 => ((X11_needsNumber σ5 0 9).bind fun (t6, σ7) => (lp (X11_readsWeight_B51 y1 t6) FU (0, σ7)))) else some ς)
def X11_readsWeight (σ : Wd) : Option (Wd) :=
  ((X11_needsLetters σ).bind fun (t1, σ2) => (if (σ2 120 29) = 0 then ((X11_ones t1).bind fun t12 => (if t12 = 1 then X11_readsWeight_J29 t1 (up σ2 120 29 0) else X11_readsWeight_J29 t1 (up σ2 120 29 1))) else X11_readsWeight_J29 t1 (up σ2 120 29 1)))
set_option maxRecDepth 100000 in
set_option maxHeartbeats 4000000 in
theorem m_X11_readsWeight {E : JE} (hE : kOk 140 E) (σ : Wd) {res : Wd} (hT : X11_readsWeight σ = some res) : kMt E yX11_readsWeight mX11_readsWeight rmX11_readsWeight [.inr 120] σ (kQv res) := by
  refine kMt_of (by decide +kernel) rfl (Nat.le_of_ble_eq_true rfl) ?_
  generalize hQ : (kQv res) = Q
  show KJ E mX11_readsWeight rmX11_readsWeight 0 [some (.inr 120)] [] σ Q
  unfold X11_readsWeight at hT
  have hJ29 : ∀ y1 ς, X11_readsWeight_J29 y1 ς = some res → KJ E mX11_readsWeight rmX11_readsWeight 29 [some (.inr 120), some (.inl y1)] [] ς Q := by
    intro y1 ς hT
    unfold X11_readsWeight_J29 at hT
    refine kj_aload_n dX11_readsWeight_29 (pc' := 30) rfl rfl rfl ?_
    refine kj_getI f_RX11_287 rfl (Nat.lt_of_lt_of_le (Nat.le_of_ble_eq_true rfl : 120 < 140) hE.1) dX11_readsWeight_30 (pc' := 33) rfl ?_
    refine kj_if_eq dX11_readsWeight_33 (tgt := 37) rfl (pc' := 36) rfl (fun c4 => ?_) (fun c4 => ?_)
    · rw [if_pos c4] at hT
      refine kj_aload_n dX11_readsWeight_37 (pc' := 38) rfl rfl rfl ?_
      obtain ⟨σ5, hσ5, hT⟩ := bind_some' hT
      refine kcVv (as := []) (st := []) l_RX11_291 (m_X11_goesOn hE ς hσ5) rfl (Nat.lt_of_lt_of_le (Nat.le_of_ble_eq_true rfl : 120 < 140) hE.1) rfl ⟨⟨rfl, rfl⟩, Nat.le_of_ble_eq_true rfl, Nat.le_of_ble_eq_true rfl⟩ (Nat.le_of_ble_eq_true rfl) dX11_readsWeight_38 (pc' := 41) rfl ?_
      refine kj_aload_n dX11_readsWeight_41 (pc' := 42) rfl rfl rfl ?_
      refine kj_iconst dX11_readsWeight_42 (pc' := 43) rfl kc_0 ?_
      refine kj_bipush dX11_readsWeight_43 (pc' := 45) rfl kb_9 ?_
      obtain ⟨t6, ht6, hT⟩ := bind_some' hT
      obtain ⟨t6, σ7⟩ := t6
      dsimp only at hT
      refine kcVi (as := [.inl 0, .inl 9]) (st := []) l_RX11_297 (m_X11_needsNumber hE σ5 0 9 ht6) rfl (Nat.lt_of_lt_of_le (Nat.le_of_ble_eq_true rfl : 120 < 140) hE.1) rfl ⟨⟨rfl, rfl⟩, Nat.le_of_ble_eq_true rfl, Nat.le_of_ble_eq_true rfl⟩ (Nat.le_of_ble_eq_true rfl) dX11_readsWeight_45 (pc' := 48) rfl ?_
      refine kj_istore_n dX11_readsWeight_48 (pc' := 49) rfl rfl (Nat.le_of_ble_eq_true rfl) (ls' := [some (.inr 120), some (.inl y1), some (.inl t6)]) rfl ?_
      refine kj_iconst dX11_readsWeight_49 (pc' := 50) rfl kc_0 ?_
      refine kj_istore_n dX11_readsWeight_50 (pc' := 51) rfl rfl (Nat.le_of_ble_eq_true rfl) (ls' := [some (.inr 120), some (.inl y1), some (.inl t6), some (.inl 0)]) rfl ?_
      refine lp_ind (P := fun s => KJ E mX11_readsWeight rmX11_readsWeight 51 [some (.inr 120), some (.inl y1), some (.inl t6), some (.inl s.1)] [] s.2 Q) (fun rec51 s ih51 hT => ?_) FU (0, σ7) hT
      obtain ⟨x3, σ⟩ := s
      show KJ E mX11_readsWeight rmX11_readsWeight 51 [some (.inr 120), some (.inl y1), some (.inl t6), some (.inl x3)] [] σ Q
      rw [X11_readsWeight_B51] at hT
      have hJ74_51 : ∀ y3 ς, X11_readsWeight_J74 rec51 y3 ς = some res → KJ E mX11_readsWeight rmX11_readsWeight 74 [some (.inr 120), some (.inl y1), some (.inl t6), some (.inl y3)] [] ς Q := by
        intro y3 ς hT
        unfold X11_readsWeight_J74 at hT
        refine kj_iinc dX11_readsWeight_74 (pc' := 77) rfl rfl (congrArg (_ + ·) kc_1) (Nat.le_of_ble_eq_true rfl) (ls' := [some (.inr 120), some (.inl y1), some (.inl t6), some (.inl (y3 + 1))]) rfl ?_
        refine kj_goto dX11_readsWeight_77 (pc' := 51) rfl ?_
        exact ih51 (y3 + 1, ς) hT
      refine kj_iload_n dX11_readsWeight_51 (pc' := 52) rfl rfl rfl ?_
      refine kj_bipush dX11_readsWeight_52 (pc' := 54) rfl kb_7 ?_
      refine kj_icmp_ge dX11_readsWeight_54 (tgt := 80) rfl (pc' := 57) rfl (fun c8 => ?_) (fun c8 => ?_)
      · rw [if_pos c8] at hT
        have hR := Option.some.inj hT
        subst hR
        exact kj_vret rfl dX11_readsWeight_80 (by subst hQ; exact ⟨rfl, rfl⟩)
      · rw [if_neg c8] at hT
        refine kj_iload_n dX11_readsWeight_57 (pc' := 58) rfl rfl rfl ?_
        refine kj_iload_n dX11_readsWeight_58 (pc' := 59) rfl rfl rfl ?_
        refine kcSz (as := [.inl y1, .inl x3]) (st := []) l_RX11_128 (m_X11_has (Nat.zero_le _) σ y1 x3 rfl) rfl ⟨⟨rfl, rfl⟩, Nat.le_of_ble_eq_true rfl, Nat.le_of_ble_eq_true rfl⟩ (Nat.le_of_ble_eq_true rfl) dX11_readsWeight_59 (pc' := 62) rfl (fun z9 => ?_)
        refine kj_if_eq dX11_readsWeight_62 (tgt := 74) rfl (pc' := 65) rfl (fun c10 => ?_) (fun c10 => ?_)
        · rw [if_pos c10] at hT
          exact hJ74_51 x3 σ hT
        · rw [if_neg c10] at hT
          refine kj_aload_n dX11_readsWeight_65 (pc' := 66) rfl rfl rfl ?_
          refine kj_getR f_RX11_17 rfl (Nat.lt_of_lt_of_le (Nat.le_of_ble_eq_true rfl : 120 < 140) hE.1) (hE.2 _ _) (q := 122) rfl dX11_readsWeight_66 (pc' := 69) rfl ?_
          refine kj_iconst dX11_readsWeight_69 (pc' := 70) rfl kc_3 ?_
          refine kj_iload_n dX11_readsWeight_70 (pc' := 71) rfl rfl rfl ?_
          refine kj_iadd dX11_readsWeight_71 (pc' := 72) rfl ?_
          refine kj_iload_n dX11_readsWeight_72 (pc' := 73) rfl rfl rfl ?_
          obtain ⟨hi11, hT⟩ := ckA_some hT
          refine kj_iast rfl (Nat.lt_of_lt_of_le (Nat.le_of_ble_eq_true rfl : 122 < 140) hE.1) hi11 rfl dX11_readsWeight_73 (pc' := 74) rfl ?_
          exact hJ74_51 x3 (up σ 122 ((3 + x3).toNatClampNeg) t6) hT
    · rw [if_neg c4] at hT
      have hR := Option.some.inj hT
      subst hR
      exact kj_vret rfl dX11_readsWeight_36 (by subst hQ; exact ⟨rfl, rfl⟩)
  refine kj_aload_n dX11_readsWeight_0 (pc' := 1) rfl rfl rfl ?_
  obtain ⟨t1, ht1, hT⟩ := bind_some' hT
  obtain ⟨t1, σ2⟩ := t1
  dsimp only at hT
  refine kcVi (as := []) (st := []) l_RX11_294 (m_X11_needsLetters hE σ ht1) rfl (Nat.lt_of_lt_of_le (Nat.le_of_ble_eq_true rfl : 120 < 140) hE.1) rfl ⟨⟨rfl, rfl⟩, Nat.le_of_ble_eq_true rfl, Nat.le_of_ble_eq_true rfl⟩ (Nat.le_of_ble_eq_true rfl) dX11_readsWeight_1 (pc' := 4) rfl ?_
  refine kj_istore_n dX11_readsWeight_4 (pc' := 5) rfl rfl (Nat.le_of_ble_eq_true rfl) (ls' := [some (.inr 120), some (.inl t1)]) rfl ?_
  refine kj_aload_n dX11_readsWeight_5 (pc' := 6) rfl rfl rfl ?_
  refine kj_aload_n dX11_readsWeight_6 (pc' := 7) rfl rfl rfl ?_
  refine kj_getI f_RX11_287 rfl (Nat.lt_of_lt_of_le (Nat.le_of_ble_eq_true rfl : 120 < 140) hE.1) dX11_readsWeight_7 (pc' := 10) rfl ?_
  refine kj_if_ne dX11_readsWeight_10 (tgt := 21) rfl (pc' := 13) rfl (fun c3 => ?_) (fun c3 => ?_)
  · rw [if_neg c3] at hT
    refine kj_iconst dX11_readsWeight_21 (pc' := 22) rfl kc_1 ?_
    refine kj_goto dX11_readsWeight_22 (pc' := 26) rfl ?_
    refine kj_putI p_RX11_287 (by decide +kernel) (by decide +kernel) rfl (Nat.lt_of_lt_of_le (Nat.le_of_ble_eq_true rfl : 120 < 140) hE.1) dX11_readsWeight_26 (pc' := 29) rfl ?_
    exact hJ29 t1 (up σ2 120 29 1) hT
  · rw [if_pos c3] at hT
    refine kj_iload_n dX11_readsWeight_13 (pc' := 14) rfl rfl rfl ?_
    obtain ⟨t12, ht12, hT⟩ := bind_some' hT
    refine kcSi (as := [.inl t1]) (st := [.inr 120]) l_RX11_157 (m_X11_ones (Nat.zero_le _) σ2 t1 ht12) rfl ⟨⟨rfl, rfl⟩, Nat.le_of_ble_eq_true rfl, Nat.le_of_ble_eq_true rfl⟩ (Nat.le_of_ble_eq_true rfl) dX11_readsWeight_14 (pc' := 17) rfl ?_
    refine kj_iconst dX11_readsWeight_17 (pc' := 18) rfl kc_1 ?_
    refine kj_icmp_eq dX11_readsWeight_18 (tgt := 25) rfl (pc' := 21) rfl (fun c13 => ?_) (fun c13 => ?_)
    · rw [if_pos c13] at hT
      refine kj_iconst dX11_readsWeight_25 (pc' := 26) rfl kc_0 ?_
      refine kj_putI p_RX11_287 (by decide +kernel) (by decide +kernel) rfl (Nat.lt_of_lt_of_le (Nat.le_of_ble_eq_true rfl : 120 < 140) hE.1) dX11_readsWeight_26 (pc' := 29) rfl ?_
      exact hJ29 t1 (up σ2 120 29 0) hT
    · rw [if_neg c13] at hT
      refine kj_iconst dX11_readsWeight_21 (pc' := 22) rfl kc_1 ?_
      refine kj_goto dX11_readsWeight_22 (pc' := 26) rfl ?_
      refine kj_putI p_RX11_287 (by decide +kernel) (by decide +kernel) rfl (Nat.lt_of_lt_of_le (Nat.le_of_ble_eq_true rfl : 120 < 140) hE.1) dX11_readsWeight_26 (pc' := 29) rfl ?_
      exact hJ29 t1 (up σ2 120 29 1) hT
def X11_readsSet_J62 (y2 : Int32) (ς : Wd) : Option (Wd) :=
  (if (ς 120 29) = 0 then (ckA (10 + (ς 122 1)) 42 <| ((X11_goesOn (up (up ς 122 ((10 + (ς 122 1)).toNatClampNeg) y2) 122 1 (((up ς 122 ((10 + (ς 122 1)).toNatClampNeg) y2) 122 1) + 1))).bind fun σ7 => some σ7)) else some ς)
def X11_readsSet (σ : Wd) (x1 : Int32) : Option (Wd) :=
  (if (σ 122 1) = 12 then some (up (up σ 120 27 x1) 120 29 1) else ((X11_needsLetters σ).bind fun (t2, σ3) => (if (σ3 120 29) = 0 then ((X11_isThere σ3 122 10 (σ3 122 1) t2).bind fun t8 => (if t8 = 0 then X11_readsSet_J62 t2 (up σ3 120 29 0) else X11_readsSet_J62 t2 (up σ3 120 29 1))) else X11_readsSet_J62 t2 (up σ3 120 29 1))))
set_option maxRecDepth 100000 in
set_option maxHeartbeats 4000000 in
theorem m_X11_readsSet {E : JE} (hE : kOk 140 E) (σ : Wd) (x1 : Int32) {res : Wd} (hT : X11_readsSet σ x1 = some res) : kMt E yX11_readsSet mX11_readsSet rmX11_readsSet [.inr 120, .inl x1] σ (kQv res) := by
  refine kMt_of (by decide +kernel) rfl (Nat.le_of_ble_eq_true rfl) ?_
  generalize hQ : (kQv res) = Q
  show KJ E mX11_readsSet rmX11_readsSet 0 [some (.inr 120), some (.inl x1)] [] σ Q
  unfold X11_readsSet at hT
  have hJ62 : ∀ y2 ς, X11_readsSet_J62 y2 ς = some res → KJ E mX11_readsSet rmX11_readsSet 62 [some (.inr 120), none, some (.inl y2)] [] ς Q := by
    intro y2 ς hT
    unfold X11_readsSet_J62 at hT
    refine kj_aload_n dX11_readsSet_62 (pc' := 63) rfl rfl rfl ?_
    refine kj_getI f_RX11_287 rfl (Nat.lt_of_lt_of_le (Nat.le_of_ble_eq_true rfl : 120 < 140) hE.1) dX11_readsSet_63 (pc' := 66) rfl ?_
    refine kj_if_eq dX11_readsSet_66 (tgt := 70) rfl (pc' := 69) rfl (fun c5 => ?_) (fun c5 => ?_)
    · rw [if_pos c5] at hT
      refine kj_aload_n dX11_readsSet_70 (pc' := 71) rfl rfl rfl ?_
      refine kj_getR f_RX11_17 rfl (Nat.lt_of_lt_of_le (Nat.le_of_ble_eq_true rfl : 120 < 140) hE.1) (hE.2 _ _) (q := 122) rfl dX11_readsSet_71 (pc' := 74) rfl ?_
      refine kj_bipush dX11_readsSet_74 (pc' := 76) rfl kb_10 ?_
      refine kj_aload_n dX11_readsSet_76 (pc' := 77) rfl rfl rfl ?_
      refine kj_getR f_RX11_17 rfl (Nat.lt_of_lt_of_le (Nat.le_of_ble_eq_true rfl : 120 < 140) hE.1) (hE.2 _ _) (q := 122) rfl dX11_readsSet_77 (pc' := 80) rfl ?_
      refine kj_iconst dX11_readsSet_80 (pc' := 81) rfl kc_1 ?_
      refine kj_iald rfl (Nat.lt_of_lt_of_le (Nat.le_of_ble_eq_true rfl : 122 < 140) hE.1) (vp_lit (by decide +kernel)) (j := 1) (by decide +kernel) dX11_readsSet_81 (pc' := 82) rfl ?_
      refine kj_iadd dX11_readsSet_82 (pc' := 83) rfl ?_
      refine kj_iload_n dX11_readsSet_83 (pc' := 84) rfl rfl rfl ?_
      obtain ⟨hi6, hT⟩ := ckA_some hT
      refine kj_iast rfl (Nat.lt_of_lt_of_le (Nat.le_of_ble_eq_true rfl : 122 < 140) hE.1) hi6 rfl dX11_readsSet_84 (pc' := 85) rfl ?_
      refine kj_aload_n dX11_readsSet_85 (pc' := 86) rfl rfl rfl ?_
      refine kj_getR f_RX11_17 rfl (Nat.lt_of_lt_of_le (Nat.le_of_ble_eq_true rfl : 120 < 140) hE.1) (hE.2 _ _) (q := 122) rfl dX11_readsSet_86 (pc' := 89) rfl ?_
      refine kj_iconst dX11_readsSet_89 (pc' := 90) rfl kc_1 ?_
      refine kj_dup2 dX11_readsSet_90 (pc' := 91) rfl ?_
      refine kj_iald rfl (Nat.lt_of_lt_of_le (Nat.le_of_ble_eq_true rfl : 122 < 140) hE.1) (vp_lit (by decide +kernel)) (j := 1) (by decide +kernel) dX11_readsSet_91 (pc' := 92) rfl ?_
      refine kj_iconst dX11_readsSet_92 (pc' := 93) rfl kc_1 ?_
      refine kj_iadd dX11_readsSet_93 (pc' := 94) rfl ?_
      refine kj_iast rfl (Nat.lt_of_lt_of_le (Nat.le_of_ble_eq_true rfl : 122 < 140) hE.1) (vp_lit (by decide +kernel)) (j := 1) (by decide +kernel) dX11_readsSet_94 (pc' := 95) rfl ?_
      refine kj_aload_n dX11_readsSet_95 (pc' := 96) rfl rfl rfl ?_
      obtain ⟨σ7, hσ7, hT⟩ := bind_some' hT
      refine kcVv (as := []) (st := []) l_RX11_291 (m_X11_goesOn hE (up (up ς 122 ((10 + (ς 122 1)).toNatClampNeg) y2) 122 1 (((up ς 122 ((10 + (ς 122 1)).toNatClampNeg) y2) 122 1) + 1)) hσ7) rfl (Nat.lt_of_lt_of_le (Nat.le_of_ble_eq_true rfl : 120 < 140) hE.1) rfl ⟨⟨rfl, rfl⟩, Nat.le_of_ble_eq_true rfl, Nat.le_of_ble_eq_true rfl⟩ (Nat.le_of_ble_eq_true rfl) dX11_readsSet_96 (pc' := 99) rfl ?_
      have hR := Option.some.inj hT
      subst hR
      exact kj_vret rfl dX11_readsSet_99 (by subst hQ; exact ⟨rfl, rfl⟩)
    · rw [if_neg c5] at hT
      have hR := Option.some.inj hT
      subst hR
      exact kj_vret rfl dX11_readsSet_69 (by subst hQ; exact ⟨rfl, rfl⟩)
  refine kj_aload_n dX11_readsSet_0 (pc' := 1) rfl rfl rfl ?_
  refine kj_getR f_RX11_17 rfl (Nat.lt_of_lt_of_le (Nat.le_of_ble_eq_true rfl : 120 < 140) hE.1) (hE.2 _ _) (q := 122) rfl dX11_readsSet_1 (pc' := 4) rfl ?_
  refine kj_iconst dX11_readsSet_4 (pc' := 5) rfl kc_1 ?_
  refine kj_iald rfl (Nat.lt_of_lt_of_le (Nat.le_of_ble_eq_true rfl : 122 < 140) hE.1) (vp_lit (by decide +kernel)) (j := 1) (by decide +kernel) dX11_readsSet_5 (pc' := 6) rfl ?_
  refine kj_bipush dX11_readsSet_6 (pc' := 8) rfl kb_12 ?_
  refine kj_icmp_ne dX11_readsSet_8 (tgt := 22) rfl (pc' := 11) rfl (fun c1 => ?_) (fun c1 => ?_)
  · rw [if_neg c1] at hT
    refine kj_aload_n dX11_readsSet_22 (pc' := 23) rfl rfl rfl ?_
    obtain ⟨t2, ht2, hT⟩ := bind_some' hT
    obtain ⟨t2, σ3⟩ := t2
    dsimp only at hT
    refine kcVi (as := []) (st := []) l_RX11_294 (m_X11_needsLetters hE σ ht2) rfl (Nat.lt_of_lt_of_le (Nat.le_of_ble_eq_true rfl : 120 < 140) hE.1) rfl ⟨⟨rfl, rfl⟩, Nat.le_of_ble_eq_true rfl, Nat.le_of_ble_eq_true rfl⟩ (Nat.le_of_ble_eq_true rfl) dX11_readsSet_23 (pc' := 26) rfl ?_
    refine kj_istore_n dX11_readsSet_26 (pc' := 27) rfl rfl (Nat.le_of_ble_eq_true rfl) (ls' := [some (.inr 120), some (.inl x1), some (.inl t2)]) rfl ?_
    refine kj_aload_n dX11_readsSet_27 (pc' := 28) rfl rfl rfl ?_
    refine kj_aload_n dX11_readsSet_28 (pc' := 29) rfl rfl rfl ?_
    refine kj_getI f_RX11_287 rfl (Nat.lt_of_lt_of_le (Nat.le_of_ble_eq_true rfl : 120 < 140) hE.1) dX11_readsSet_29 (pc' := 32) rfl ?_
    refine kj_if_ne dX11_readsSet_32 (tgt := 54) rfl (pc' := 35) rfl (fun c4 => ?_) (fun c4 => ?_)
    · rw [if_neg c4] at hT
      refine kj_iconst dX11_readsSet_54 (pc' := 55) rfl kc_1 ?_
      refine kj_goto dX11_readsSet_55 (pc' := 59) rfl ?_
      refine kj_putI p_RX11_287 (by decide +kernel) (by decide +kernel) rfl (Nat.lt_of_lt_of_le (Nat.le_of_ble_eq_true rfl : 120 < 140) hE.1) dX11_readsSet_59 (pc' := 62) rfl ?_
      refine kj_keep [true, false, true] (ls' := [some (.inr 120), none, some (.inl t2)]) rfl ?_
      exact hJ62 t2 (up σ3 120 29 1) hT
    · rw [if_pos c4] at hT
      refine kj_aload_n dX11_readsSet_35 (pc' := 36) rfl rfl rfl ?_
      refine kj_getR f_RX11_17 rfl (Nat.lt_of_lt_of_le (Nat.le_of_ble_eq_true rfl : 120 < 140) hE.1) (hE.2 _ _) (q := 122) rfl dX11_readsSet_36 (pc' := 39) rfl ?_
      refine kj_bipush dX11_readsSet_39 (pc' := 41) rfl kb_10 ?_
      refine kj_aload_n dX11_readsSet_41 (pc' := 42) rfl rfl rfl ?_
      refine kj_getR f_RX11_17 rfl (Nat.lt_of_lt_of_le (Nat.le_of_ble_eq_true rfl : 120 < 140) hE.1) (hE.2 _ _) (q := 122) rfl dX11_readsSet_42 (pc' := 45) rfl ?_
      refine kj_iconst dX11_readsSet_45 (pc' := 46) rfl kc_1 ?_
      refine kj_iald rfl (Nat.lt_of_lt_of_le (Nat.le_of_ble_eq_true rfl : 122 < 140) hE.1) (vp_lit (by decide +kernel)) (j := 1) (by decide +kernel) dX11_readsSet_46 (pc' := 47) rfl ?_
      refine kj_iload_n dX11_readsSet_47 (pc' := 48) rfl rfl rfl ?_
      obtain ⟨t8, ht8, hT⟩ := bind_some' hT
      refine kcSz (as := [.inr 122, .inl 10, .inl (σ3 122 1), .inl t2]) (st := [.inr 120]) l_RX11_91 (m_X11_isThere (Nat.zero_le _) rfl (Nat.lt_of_lt_of_le (Nat.le_of_ble_eq_true rfl : 122 < 140) hE.1) σ3 10 (σ3 122 1) t2 ht8) rfl ⟨⟨rfl, rfl⟩, Nat.le_of_ble_eq_true rfl, Nat.le_of_ble_eq_true rfl⟩ (Nat.le_of_ble_eq_true rfl) dX11_readsSet_48 (pc' := 51) rfl (fun z9 => ?_)
      refine kj_if_eq dX11_readsSet_51 (tgt := 58) rfl (pc' := 54) rfl (fun c10 => ?_) (fun c10 => ?_)
      · rw [if_pos c10] at hT
        refine kj_iconst dX11_readsSet_58 (pc' := 59) rfl kc_0 ?_
        refine kj_putI p_RX11_287 (by decide +kernel) (by decide +kernel) rfl (Nat.lt_of_lt_of_le (Nat.le_of_ble_eq_true rfl : 120 < 140) hE.1) dX11_readsSet_59 (pc' := 62) rfl ?_
        refine kj_keep [true, false, true] (ls' := [some (.inr 120), none, some (.inl t2)]) rfl ?_
        exact hJ62 t2 (up σ3 120 29 0) hT
      · rw [if_neg c10] at hT
        refine kj_iconst dX11_readsSet_54 (pc' := 55) rfl kc_1 ?_
        refine kj_goto dX11_readsSet_55 (pc' := 59) rfl ?_
        refine kj_putI p_RX11_287 (by decide +kernel) (by decide +kernel) rfl (Nat.lt_of_lt_of_le (Nat.le_of_ble_eq_true rfl : 120 < 140) hE.1) dX11_readsSet_59 (pc' := 62) rfl ?_
        refine kj_keep [true, false, true] (ls' := [some (.inr 120), none, some (.inl t2)]) rfl ?_
        exact hJ62 t2 (up σ3 120 29 1) hT
  · rw [if_pos c1] at hT
    refine kj_aload_n dX11_readsSet_11 (pc' := 12) rfl rfl rfl ?_
    refine kj_iload_n dX11_readsSet_12 (pc' := 13) rfl rfl rfl ?_
    refine kj_putI p_RX11_281 rfl rfl rfl (Nat.lt_of_lt_of_le (Nat.le_of_ble_eq_true rfl : 120 < 140) hE.1) dX11_readsSet_13 (pc' := 16) rfl ?_
    refine kj_aload_n dX11_readsSet_16 (pc' := 17) rfl rfl rfl ?_
    refine kj_iconst dX11_readsSet_17 (pc' := 18) rfl kc_1 ?_
    refine kj_putI p_RX11_287 (by decide +kernel) (by decide +kernel) rfl (Nat.lt_of_lt_of_le (Nat.le_of_ble_eq_true rfl : 120 < 140) hE.1) dX11_readsSet_18 (pc' := 21) rfl ?_
    have hR := Option.some.inj hT
    subst hR
    exact kj_vret rfl dX11_readsSet_21 (by subst hQ; exact ⟨rfl, rfl⟩)
def X11_readsOne_J69 (ς : Wd) : Option (Wd) :=
  (if (ς 120 29) = 0 then (if (ς 120 26) = 3 then ((X11_goesOn ς).bind fun σ12 => some σ12) else some (up ς 120 29 1)) else some ς)
def X11_readsOne_J33 (y2 : Int32) (ς : Wd) : Option (Wd) :=
  ((X11_takesWord ς 1).bind fun (t2, σ3) => (if t2 = 0 then ((X11_takesWord σ3 2).bind fun (t6, σ7) => (if t6 = 0 then X11_readsOne_J69 (up σ7 120 29 1) else ((X11_readsSet σ7 y2).bind fun σ13 => X11_readsOne_J69 σ13))) else ((X11_readsWeight σ3).bind fun σ14 => X11_readsOne_J69 σ14)))
def X11_readsOne (σ : Wd) (x1 : Int32) : Option (Wd) :=
  (if x1 = 0 then X11_readsOne_J33 (σ 120 27) σ else ((X11_takesWord σ 0).bind fun (t15, σ16) => (if t15 = 0 then X11_readsOne_J33 (σ 120 27) σ16 else ((X11_needsNumber σ16 1 7).bind fun (t19, σ20) => X11_readsOne_J69 (up σ20 122 0 t19)))))
set_option maxRecDepth 100000 in
set_option maxHeartbeats 4000000 in
theorem m_X11_readsOne {E : JE} (hE : kOk 140 E) (σ : Wd) (x1 : Int32) {res : Wd} (hT : X11_readsOne σ x1 = some res) : kMt E yX11_readsOne mX11_readsOne rmX11_readsOne [.inr 120, .inl x1] σ (kQv res) := by
  refine kMt_of (by decide +kernel) rfl (Nat.le_of_ble_eq_true rfl) ?_
  generalize hQ : (kQv res) = Q
  show KJ E mX11_readsOne rmX11_readsOne 0 [some (.inr 120), some (.inl x1)] [] σ Q
  unfold X11_readsOne at hT
  have hJ69 : ∀ ς, X11_readsOne_J69 ς = some res → KJ E mX11_readsOne rmX11_readsOne 69 [some (.inr 120)] [] ς Q := by
    intro ς hT
    unfold X11_readsOne_J69 at hT
    refine kj_aload_n dX11_readsOne_69 (pc' := 70) rfl rfl rfl ?_
    refine kj_getI f_RX11_287 rfl (Nat.lt_of_lt_of_le (Nat.le_of_ble_eq_true rfl : 120 < 140) hE.1) dX11_readsOne_70 (pc' := 73) rfl ?_
    refine kj_if_eq dX11_readsOne_73 (tgt := 77) rfl (pc' := 76) rfl (fun c10 => ?_) (fun c10 => ?_)
    · rw [if_pos c10] at hT
      refine kj_aload_n dX11_readsOne_77 (pc' := 78) rfl rfl rfl ?_
      refine kj_getI f_RX11_275 rfl (Nat.lt_of_lt_of_le (Nat.le_of_ble_eq_true rfl : 120 < 140) hE.1) dX11_readsOne_78 (pc' := 81) rfl ?_
      refine kj_iconst dX11_readsOne_81 (pc' := 82) rfl kc_3 ?_
      refine kj_icmp_ne dX11_readsOne_82 (tgt := 92) rfl (pc' := 85) rfl (fun c11 => ?_) (fun c11 => ?_)
      · rw [if_neg c11] at hT
        refine kj_aload_n dX11_readsOne_92 (pc' := 93) rfl rfl rfl ?_
        refine kj_iconst dX11_readsOne_93 (pc' := 94) rfl kc_1 ?_
        refine kj_putI p_RX11_287 (by decide +kernel) (by decide +kernel) rfl (Nat.lt_of_lt_of_le (Nat.le_of_ble_eq_true rfl : 120 < 140) hE.1) dX11_readsOne_94 (pc' := 97) rfl ?_
        have hR := Option.some.inj hT
        subst hR
        exact kj_vret rfl dX11_readsOne_97 (by subst hQ; exact ⟨rfl, rfl⟩)
      · rw [if_pos c11] at hT
        refine kj_aload_n dX11_readsOne_85 (pc' := 86) rfl rfl rfl ?_
        obtain ⟨σ12, hσ12, hT⟩ := bind_some' hT
        refine kcVv (as := []) (st := []) l_RX11_291 (m_X11_goesOn hE ς hσ12) rfl (Nat.lt_of_lt_of_le (Nat.le_of_ble_eq_true rfl : 120 < 140) hE.1) rfl ⟨⟨rfl, rfl⟩, Nat.le_of_ble_eq_true rfl, Nat.le_of_ble_eq_true rfl⟩ (Nat.le_of_ble_eq_true rfl) dX11_readsOne_86 (pc' := 89) rfl ?_
        refine kj_goto dX11_readsOne_89 (pc' := 97) rfl ?_
        have hR := Option.some.inj hT
        subst hR
        exact kj_vret rfl dX11_readsOne_97 (by subst hQ; exact ⟨rfl, rfl⟩)
    · rw [if_neg c10] at hT
      have hR := Option.some.inj hT
      subst hR
      exact kj_vret rfl dX11_readsOne_76 (by subst hQ; exact ⟨rfl, rfl⟩)
  have hJ33 : ∀ y2 ς, X11_readsOne_J33 y2 ς = some res → KJ E mX11_readsOne rmX11_readsOne 33 [some (.inr 120), none, some (.inl y2)] [] ς Q := by
    intro y2 ς hT
    unfold X11_readsOne_J33 at hT
    refine kj_aload_n dX11_readsOne_33 (pc' := 34) rfl rfl rfl ?_
    refine kj_iconst dX11_readsOne_34 (pc' := 35) rfl kc_1 ?_
    obtain ⟨t2, ht2, hT⟩ := bind_some' hT
    obtain ⟨t2, σ3⟩ := t2
    dsimp only at hT
    refine kcVz (as := [.inl 1]) (st := []) l_RX11_300 (m_X11_takesWord hE ς 1 ht2) rfl (Nat.lt_of_lt_of_le (Nat.le_of_ble_eq_true rfl : 120 < 140) hE.1) rfl ⟨⟨rfl, rfl⟩, Nat.le_of_ble_eq_true rfl, Nat.le_of_ble_eq_true rfl⟩ (Nat.le_of_ble_eq_true rfl) dX11_readsOne_35 (pc' := 38) rfl (fun z4 => ?_)
    refine kj_if_eq dX11_readsOne_38 (tgt := 48) rfl (pc' := 41) rfl (fun c5 => ?_) (fun c5 => ?_)
    · rw [if_pos c5] at hT
      refine kj_aload_n dX11_readsOne_48 (pc' := 49) rfl rfl rfl ?_
      refine kj_iconst dX11_readsOne_49 (pc' := 50) rfl kc_2 ?_
      obtain ⟨t6, ht6, hT⟩ := bind_some' hT
      obtain ⟨t6, σ7⟩ := t6
      dsimp only at hT
      refine kcVz (as := [.inl 2]) (st := []) l_RX11_300 (m_X11_takesWord hE σ3 2 ht6) rfl (Nat.lt_of_lt_of_le (Nat.le_of_ble_eq_true rfl : 120 < 140) hE.1) rfl ⟨⟨rfl, rfl⟩, Nat.le_of_ble_eq_true rfl, Nat.le_of_ble_eq_true rfl⟩ (Nat.le_of_ble_eq_true rfl) dX11_readsOne_50 (pc' := 53) rfl (fun z8 => ?_)
      refine kj_if_eq dX11_readsOne_53 (tgt := 64) rfl (pc' := 56) rfl (fun c9 => ?_) (fun c9 => ?_)
      · rw [if_pos c9] at hT
        refine kj_aload_n dX11_readsOne_64 (pc' := 65) rfl rfl rfl ?_
        refine kj_iconst dX11_readsOne_65 (pc' := 66) rfl kc_1 ?_
        refine kj_putI p_RX11_287 (by decide +kernel) (by decide +kernel) rfl (Nat.lt_of_lt_of_le (Nat.le_of_ble_eq_true rfl : 120 < 140) hE.1) dX11_readsOne_66 (pc' := 69) rfl ?_
        refine kj_keep [true] (ls' := [some (.inr 120)]) rfl ?_
        exact hJ69 (up σ7 120 29 1) hT
      · rw [if_neg c9] at hT
        refine kj_aload_n dX11_readsOne_56 (pc' := 57) rfl rfl rfl ?_
        refine kj_iload_n dX11_readsOne_57 (pc' := 58) rfl rfl rfl ?_
        obtain ⟨σ13, hσ13, hT⟩ := bind_some' hT
        refine kcVv (as := [.inl y2]) (st := []) l_RX11_306 (m_X11_readsSet hE σ7 y2 hσ13) rfl (Nat.lt_of_lt_of_le (Nat.le_of_ble_eq_true rfl : 120 < 140) hE.1) rfl ⟨⟨rfl, rfl⟩, Nat.le_of_ble_eq_true rfl, Nat.le_of_ble_eq_true rfl⟩ (Nat.le_of_ble_eq_true rfl) dX11_readsOne_58 (pc' := 61) rfl ?_
        refine kj_goto dX11_readsOne_61 (pc' := 69) rfl ?_
        refine kj_keep [true] (ls' := [some (.inr 120)]) rfl ?_
        exact hJ69 σ13 hT
    · rw [if_neg c5] at hT
      refine kj_aload_n dX11_readsOne_41 (pc' := 42) rfl rfl rfl ?_
      obtain ⟨σ14, hσ14, hT⟩ := bind_some' hT
      refine kcVv (as := []) (st := []) l_RX11_303 (m_X11_readsWeight hE σ3 hσ14) rfl (Nat.lt_of_lt_of_le (Nat.le_of_ble_eq_true rfl : 120 < 140) hE.1) rfl ⟨⟨rfl, rfl⟩, Nat.le_of_ble_eq_true rfl, Nat.le_of_ble_eq_true rfl⟩ (Nat.le_of_ble_eq_true rfl) dX11_readsOne_42 (pc' := 45) rfl ?_
      refine kj_goto dX11_readsOne_45 (pc' := 69) rfl ?_
      refine kj_keep [true] (ls' := [some (.inr 120)]) rfl ?_
      exact hJ69 σ14 hT
  refine kj_aload_n dX11_readsOne_0 (pc' := 1) rfl rfl rfl ?_
  refine kj_getI f_RX11_281 rfl (Nat.lt_of_lt_of_le (Nat.le_of_ble_eq_true rfl : 120 < 140) hE.1) dX11_readsOne_1 (pc' := 4) rfl ?_
  refine kj_istore_n dX11_readsOne_4 (pc' := 5) rfl rfl (Nat.le_of_ble_eq_true rfl) (ls' := [some (.inr 120), some (.inl x1), some (.inl (σ 120 27))]) rfl ?_
  refine kj_iload_n dX11_readsOne_5 (pc' := 6) rfl rfl rfl ?_
  refine kj_if_eq dX11_readsOne_6 (tgt := 33) rfl (pc' := 9) rfl (fun c1 => ?_) (fun c1 => ?_)
  · rw [if_pos c1] at hT
    refine kj_keep [true, false, true] (ls' := [some (.inr 120), none, some (.inl (σ 120 27))]) rfl ?_
    exact hJ33 (σ 120 27) σ hT
  · rw [if_neg c1] at hT
    refine kj_aload_n dX11_readsOne_9 (pc' := 10) rfl rfl rfl ?_
    refine kj_iconst dX11_readsOne_10 (pc' := 11) rfl kc_0 ?_
    obtain ⟨t15, ht15, hT⟩ := bind_some' hT
    obtain ⟨t15, σ16⟩ := t15
    dsimp only at hT
    refine kcVz (as := [.inl 0]) (st := []) l_RX11_300 (m_X11_takesWord hE σ 0 ht15) rfl (Nat.lt_of_lt_of_le (Nat.le_of_ble_eq_true rfl : 120 < 140) hE.1) rfl ⟨⟨rfl, rfl⟩, Nat.le_of_ble_eq_true rfl, Nat.le_of_ble_eq_true rfl⟩ (Nat.le_of_ble_eq_true rfl) dX11_readsOne_11 (pc' := 14) rfl (fun z17 => ?_)
    refine kj_if_eq dX11_readsOne_14 (tgt := 33) rfl (pc' := 17) rfl (fun c18 => ?_) (fun c18 => ?_)
    · rw [if_pos c18] at hT
      refine kj_keep [true, false, true] (ls' := [some (.inr 120), none, some (.inl (σ 120 27))]) rfl ?_
      exact hJ33 (σ 120 27) σ16 hT
    · rw [if_neg c18] at hT
      refine kj_aload_n dX11_readsOne_17 (pc' := 18) rfl rfl rfl ?_
      refine kj_getR f_RX11_17 rfl (Nat.lt_of_lt_of_le (Nat.le_of_ble_eq_true rfl : 120 < 140) hE.1) (hE.2 _ _) (q := 122) rfl dX11_readsOne_18 (pc' := 21) rfl ?_
      refine kj_iconst dX11_readsOne_21 (pc' := 22) rfl kc_0 ?_
      refine kj_aload_n dX11_readsOne_22 (pc' := 23) rfl rfl rfl ?_
      refine kj_iconst dX11_readsOne_23 (pc' := 24) rfl kc_1 ?_
      refine kj_bipush dX11_readsOne_24 (pc' := 26) rfl kb_7 ?_
      obtain ⟨t19, ht19, hT⟩ := bind_some' hT
      obtain ⟨t19, σ20⟩ := t19
      dsimp only at hT
      refine kcVi (as := [.inl 1, .inl 7]) (st := [.inl 0, .inr 122]) l_RX11_297 (m_X11_needsNumber hE σ16 1 7 ht19) rfl (Nat.lt_of_lt_of_le (Nat.le_of_ble_eq_true rfl : 120 < 140) hE.1) rfl ⟨⟨rfl, rfl⟩, Nat.le_of_ble_eq_true rfl, Nat.le_of_ble_eq_true rfl⟩ (Nat.le_of_ble_eq_true rfl) dX11_readsOne_26 (pc' := 29) rfl ?_
      refine kj_iast rfl (Nat.lt_of_lt_of_le (Nat.le_of_ble_eq_true rfl : 122 < 140) hE.1) (vp_lit (by decide +kernel)) (j := 0) (by decide +kernel) dX11_readsOne_29 (pc' := 30) rfl ?_
      refine kj_goto dX11_readsOne_30 (pc' := 69) rfl ?_
      refine kj_keep [true] (ls' := [some (.inr 120)]) rfl ?_
      exact hJ69 (up σ20 122 0 t19) hT
def X11_keepsList_B65 (rec65 : Int32 × Wd → Option (Wd)) : Int32 × Wd → Option (Wd)
  | (x2, σ) => (if (X11_listMany σ) ≤ x2 then some σ else (ckA (22 + x2) 42 <| (ckA (22 + x2) 42 <| rec65 (x2 + 1, up σ 122 ((22 + x2).toNatClampNeg) (σ 121 ((22 + x2).toNatClampNeg))))))
def X11_keepsList_T48 (σ : Wd) (x1 : Int32) : Option (Wd) :=
  (if x1 = 0 then some σ else (lp (X11_keepsList_B65) FU (0, up σ 122 2 (X11_listMany σ))))
def X11_keepsList_J42 (rec4 : Int32 × Int32 → Option (Wd)) (y1 : Int32) (y2 : Int32) : Option (Wd) :=
  rec4 (y1, y2 + 1)
def X11_keepsList_J40 (rec4 : Int32 × Int32 → Option (Wd)) (y2 : Int32) : Option (Wd) :=
  X11_keepsList_J42 rec4 0 y2
def X11_keepsList_B4 (σ : Wd) (kx4 : Int32 → Option (Wd)) (rec4 : Int32 × Int32 → Option (Wd)) : Int32 × Int32 → Option (Wd)
  | (x1, x2) => (if (X11_listMany σ) ≤ x2 then kx4 x1 else (if x1 = 0 then X11_keepsList_J40 rec4 x2 else (ckA (22 + x2) 42 <| (if (1 <<< ((σ 122 0) &&& 31)) ≤ (σ 121 ((22 + x2).toNatClampNeg)) then X11_keepsList_J40 rec4 x2 else X11_keepsList_J42 rec4 1 x2))))
def X11_keepsList (σ : Wd) : Option (Wd) :=
  (lp (X11_keepsList_B4 σ (X11_keepsList_T48 σ)) FU (1, 0))
set_option maxRecDepth 100000 in
set_option maxHeartbeats 4000000 in
theorem m_X11_keepsList {E : JE} (hE : kOk 140 E) (σ : Wd) {res : Wd} (hT : X11_keepsList σ = some res) : kMt E yX11_keepsList mX11_keepsList rmX11_keepsList [.inr 120] σ (kQv res) := by
  refine kMt_of (by decide +kernel) rfl (Nat.le_of_ble_eq_true rfl) ?_
  generalize hQ : (kQv res) = Q
  show KJ E mX11_keepsList rmX11_keepsList 0 [some (.inr 120)] [] σ Q
  unfold X11_keepsList at hT
  refine kj_iconst dX11_keepsList_0 (pc' := 1) rfl kc_1 ?_
  refine kj_istore_n dX11_keepsList_1 (pc' := 2) rfl rfl (Nat.le_of_ble_eq_true rfl) (ls' := [some (.inr 120), some (.inl 1)]) rfl ?_
  refine kj_iconst dX11_keepsList_2 (pc' := 3) rfl kc_0 ?_
  refine kj_istore_n dX11_keepsList_3 (pc' := 4) rfl rfl (Nat.le_of_ble_eq_true rfl) (ls' := [some (.inr 120), some (.inl 1), some (.inl 0)]) rfl ?_
  have hX4 : ∀ x1, X11_keepsList_T48 σ x1 = some res → KJ E mX11_keepsList rmX11_keepsList 48 [some (.inr 120), some (.inl x1)] [] σ Q := by
    intro x1 hT
    unfold X11_keepsList_T48 at hT
    refine kj_iload_n dX11_keepsList_48 (pc' := 49) rfl rfl rfl ?_
    refine kj_if_ne dX11_keepsList_49 (tgt := 53) rfl (pc' := 52) rfl (fun c2 => ?_) (fun c2 => ?_)
    · rw [if_neg c2] at hT
      refine kj_aload_n dX11_keepsList_53 (pc' := 54) rfl rfl rfl ?_
      refine kj_getR f_RX11_17 rfl (Nat.lt_of_lt_of_le (Nat.le_of_ble_eq_true rfl : 120 < 140) hE.1) (hE.2 _ _) (q := 122) rfl dX11_keepsList_54 (pc' := 57) rfl ?_
      refine kj_iconst dX11_keepsList_57 (pc' := 58) rfl kc_2 ?_
      refine kj_aload_n dX11_keepsList_58 (pc' := 59) rfl rfl rfl ?_
      refine kcVi (as := []) (st := [.inl 2, .inr 122]) l_RX11_147 (m_X11_listMany hE σ rfl) rfl (Nat.lt_of_lt_of_le (Nat.le_of_ble_eq_true rfl : 120 < 140) hE.1) rfl ⟨⟨rfl, rfl⟩, Nat.le_of_ble_eq_true rfl, Nat.le_of_ble_eq_true rfl⟩ (Nat.le_of_ble_eq_true rfl) dX11_keepsList_59 (pc' := 62) rfl ?_
      refine kj_iast rfl (Nat.lt_of_lt_of_le (Nat.le_of_ble_eq_true rfl : 122 < 140) hE.1) (vp_lit (by decide +kernel)) (j := 2) (by decide +kernel) dX11_keepsList_62 (pc' := 63) rfl ?_
      refine kj_iconst dX11_keepsList_63 (pc' := 64) rfl kc_0 ?_
      refine kj_istore_n dX11_keepsList_64 (pc' := 65) rfl rfl (Nat.le_of_ble_eq_true rfl) (ls' := [some (.inr 120), some (.inl x1), some (.inl 0)]) rfl ?_
      refine kj_keep [true, false, true] (ls' := [some (.inr 120), none, some (.inl 0)]) rfl ?_
      refine lp_ind (P := fun s => KJ E mX11_keepsList rmX11_keepsList 65 [some (.inr 120), none, some (.inl s.1)] [] s.2 Q) (fun rec65 s ih65 hT => ?_) FU (0, up σ 122 2 (X11_listMany σ)) hT
      obtain ⟨x2, σ⟩ := s
      show KJ E mX11_keepsList rmX11_keepsList 65 [some (.inr 120), none, some (.inl x2)] [] σ Q
      rw [X11_keepsList_B65] at hT
      refine kj_iload_n dX11_keepsList_65 (pc' := 66) rfl rfl rfl ?_
      refine kj_aload_n dX11_keepsList_66 (pc' := 67) rfl rfl rfl ?_
      refine kcVi (as := []) (st := [.inl x2]) l_RX11_147 (m_X11_listMany hE σ rfl) rfl (Nat.lt_of_lt_of_le (Nat.le_of_ble_eq_true rfl : 120 < 140) hE.1) rfl ⟨⟨rfl, rfl⟩, Nat.le_of_ble_eq_true rfl, Nat.le_of_ble_eq_true rfl⟩ (Nat.le_of_ble_eq_true rfl) dX11_keepsList_67 (pc' := 70) rfl ?_
      refine kj_icmp_ge dX11_keepsList_70 (tgt := 97) rfl (pc' := 73) rfl (fun c3 => ?_) (fun c3 => ?_)
      · rw [if_pos c3] at hT
        have hR := Option.some.inj hT
        subst hR
        exact kj_vret rfl dX11_keepsList_97 (by subst hQ; exact ⟨rfl, rfl⟩)
      · rw [if_neg c3] at hT
        refine kj_aload_n dX11_keepsList_73 (pc' := 74) rfl rfl rfl ?_
        refine kj_getR f_RX11_17 rfl (Nat.lt_of_lt_of_le (Nat.le_of_ble_eq_true rfl : 120 < 140) hE.1) (hE.2 _ _) (q := 122) rfl dX11_keepsList_74 (pc' := 77) rfl ?_
        refine kj_bipush dX11_keepsList_77 (pc' := 79) rfl kb_22 ?_
        refine kj_iload_n dX11_keepsList_79 (pc' := 80) rfl rfl rfl ?_
        refine kj_iadd dX11_keepsList_80 (pc' := 81) rfl ?_
        refine kj_aload_n dX11_keepsList_81 (pc' := 82) rfl rfl rfl ?_
        refine kj_getR f_RX11_13 rfl (Nat.lt_of_lt_of_le (Nat.le_of_ble_eq_true rfl : 120 < 140) hE.1) (hE.2 _ _) (q := 121) rfl dX11_keepsList_82 (pc' := 85) rfl ?_
        refine kj_bipush dX11_keepsList_85 (pc' := 87) rfl kb_22 ?_
        refine kj_iload_n dX11_keepsList_87 (pc' := 88) rfl rfl rfl ?_
        refine kj_iadd dX11_keepsList_88 (pc' := 89) rfl ?_
        obtain ⟨hi4, hT⟩ := ckA_some hT
        refine kj_iald rfl (Nat.lt_of_lt_of_le (Nat.le_of_ble_eq_true rfl : 121 < 140) hE.1) hi4 rfl dX11_keepsList_89 (pc' := 90) rfl ?_
        obtain ⟨hi5, hT⟩ := ckA_some hT
        refine kj_iast rfl (Nat.lt_of_lt_of_le (Nat.le_of_ble_eq_true rfl : 122 < 140) hE.1) hi5 rfl dX11_keepsList_90 (pc' := 91) rfl ?_
        refine kj_iinc dX11_keepsList_91 (pc' := 94) rfl rfl (congrArg (_ + ·) kc_1) (Nat.le_of_ble_eq_true rfl) (ls' := [some (.inr 120), none, some (.inl (x2 + 1))]) rfl ?_
        refine kj_goto dX11_keepsList_94 (pc' := 65) rfl ?_
        exact ih65 (x2 + 1, up σ 122 ((22 + x2).toNatClampNeg) (σ 121 ((22 + x2).toNatClampNeg))) hT
    · rw [if_pos c2] at hT
      have hR := Option.some.inj hT
      subst hR
      exact kj_vret rfl dX11_keepsList_52 (by subst hQ; exact ⟨rfl, rfl⟩)
  refine lp_ind (P := fun s => KJ E mX11_keepsList rmX11_keepsList 4 [some (.inr 120), some (.inl s.1), some (.inl s.2)] [] σ Q) (fun rec4 s ih4 hT => ?_) FU (1, 0) hT
  obtain ⟨x1, x2⟩ := s
  show KJ E mX11_keepsList rmX11_keepsList 4 [some (.inr 120), some (.inl x1), some (.inl x2)] [] σ Q
  rw [X11_keepsList_B4] at hT
  have hJ42_4 : ∀ y1 y2, X11_keepsList_J42 rec4 y1 y2 = some res → KJ E mX11_keepsList rmX11_keepsList 42 [some (.inr 120), some (.inl y1), some (.inl y2)] [] σ Q := by
    intro y1 y2 hT
    unfold X11_keepsList_J42 at hT
    refine kj_iinc dX11_keepsList_42 (pc' := 45) rfl rfl (congrArg (_ + ·) kc_1) (Nat.le_of_ble_eq_true rfl) (ls' := [some (.inr 120), some (.inl y1), some (.inl (y2 + 1))]) rfl ?_
    refine kj_goto dX11_keepsList_45 (pc' := 4) rfl ?_
    exact ih4 (y1, y2 + 1) hT
  have hJ40_4 : ∀ y2, X11_keepsList_J40 rec4 y2 = some res → KJ E mX11_keepsList rmX11_keepsList 40 [some (.inr 120), none, some (.inl y2)] [] σ Q := by
    intro y2 hT
    unfold X11_keepsList_J40 at hT
    refine kj_iconst dX11_keepsList_40 (pc' := 41) rfl kc_0 ?_
    refine kj_istore_n dX11_keepsList_41 (pc' := 42) rfl rfl (Nat.le_of_ble_eq_true rfl) (ls' := [some (.inr 120), some (.inl 0), some (.inl y2)]) rfl ?_
    exact hJ42_4 0 y2 hT
  refine kj_iload_n dX11_keepsList_4 (pc' := 5) rfl rfl rfl ?_
  refine kj_aload_n dX11_keepsList_5 (pc' := 6) rfl rfl rfl ?_
  refine kcVi (as := []) (st := [.inl x2]) l_RX11_147 (m_X11_listMany hE σ rfl) rfl (Nat.lt_of_lt_of_le (Nat.le_of_ble_eq_true rfl : 120 < 140) hE.1) rfl ⟨⟨rfl, rfl⟩, Nat.le_of_ble_eq_true rfl, Nat.le_of_ble_eq_true rfl⟩ (Nat.le_of_ble_eq_true rfl) dX11_keepsList_6 (pc' := 9) rfl ?_
  refine kj_icmp_ge dX11_keepsList_9 (tgt := 48) rfl (pc' := 12) rfl (fun c6 => ?_) (fun c6 => ?_)
  · rw [if_pos c6] at hT
    refine kj_keep [true, true] (ls' := [some (.inr 120), some (.inl x1)]) rfl ?_
    exact hX4 x1 hT
  · rw [if_neg c6] at hT
    refine kj_iload_n dX11_keepsList_12 (pc' := 13) rfl rfl rfl ?_
    refine kj_if_eq dX11_keepsList_13 (tgt := 40) rfl (pc' := 16) rfl (fun c7 => ?_) (fun c7 => ?_)
    · rw [if_pos c7] at hT
      refine kj_keep [true, false, true] (ls' := [some (.inr 120), none, some (.inl x2)]) rfl ?_
      exact hJ40_4 x2 hT
    · rw [if_neg c7] at hT
      refine kj_aload_n dX11_keepsList_16 (pc' := 17) rfl rfl rfl ?_
      refine kj_getR f_RX11_13 rfl (Nat.lt_of_lt_of_le (Nat.le_of_ble_eq_true rfl : 120 < 140) hE.1) (hE.2 _ _) (q := 121) rfl dX11_keepsList_17 (pc' := 20) rfl ?_
      refine kj_bipush dX11_keepsList_20 (pc' := 22) rfl kb_22 ?_
      refine kj_iload_n dX11_keepsList_22 (pc' := 23) rfl rfl rfl ?_
      refine kj_iadd dX11_keepsList_23 (pc' := 24) rfl ?_
      obtain ⟨hi8, hT⟩ := ckA_some hT
      refine kj_iald rfl (Nat.lt_of_lt_of_le (Nat.le_of_ble_eq_true rfl : 121 < 140) hE.1) hi8 rfl dX11_keepsList_24 (pc' := 25) rfl ?_
      refine kj_iconst dX11_keepsList_25 (pc' := 26) rfl kc_1 ?_
      refine kj_aload_n dX11_keepsList_26 (pc' := 27) rfl rfl rfl ?_
      refine kj_getR f_RX11_17 rfl (Nat.lt_of_lt_of_le (Nat.le_of_ble_eq_true rfl : 120 < 140) hE.1) (hE.2 _ _) (q := 122) rfl dX11_keepsList_27 (pc' := 30) rfl ?_
      refine kj_iconst dX11_keepsList_30 (pc' := 31) rfl kc_0 ?_
      refine kj_iald rfl (Nat.lt_of_lt_of_le (Nat.le_of_ble_eq_true rfl : 122 < 140) hE.1) (vp_lit (by decide +kernel)) (j := 0) (by decide +kernel) dX11_keepsList_31 (pc' := 32) rfl ?_
      refine kj_ishl dX11_keepsList_32 (pc' := 33) rfl ?_
      refine kj_icmp_ge dX11_keepsList_33 (tgt := 40) rfl (pc' := 36) rfl (fun c9 => ?_) (fun c9 => ?_)
      · rw [if_pos c9] at hT
        refine kj_keep [true, false, true] (ls' := [some (.inr 120), none, some (.inl x2)]) rfl ?_
        exact hJ40_4 x2 hT
      · rw [if_neg c9] at hT
        refine kj_iconst dX11_keepsList_36 (pc' := 37) rfl kc_1 ?_
        refine kj_goto dX11_keepsList_37 (pc' := 41) rfl ?_
        refine kj_istore_n dX11_keepsList_41 (pc' := 42) rfl rfl (Nat.le_of_ble_eq_true rfl) (ls' := [some (.inr 120), some (.inl 1), some (.inl x2)]) rfl ?_
        exact hJ42_4 1 x2 hT
def X11_text_B78 (rec78 : Int32 × Wd → Option (Int32 × Wd)) : Int32 × Wd → Option (Int32 × Wd)
  | (x2, σ) => (if 42 ≤ x2 then some (X11_many (up σ 120 4 0), up σ 120 4 0) else (ckA x2 42 <| (ckA x2 42 <| rec78 (x2 + 1, up σ 121 x2.toNatClampNeg (σ 122 x2.toNatClampNeg)))))
def X11_text_J52 (ς : Wd) : Option (Int32 × Wd) :=
  (if ((up ς 120 23 0) 120 29) = 0 then ((X11_keepsList (up ς 120 23 0)).bind fun σ4 => (lp (X11_text_B78) FU (0, σ4))) else some ((-4) - ((up ς 120 23 0) 120 27), up ς 120 23 0))
def X11_text_T52 (σ : Wd) : Option (Int32 × Wd) :=
  X11_text_J52 σ
def X11_text_B28 (kx28 : Wd → Option (Int32 × Wd)) (rec28 : Int32 × Wd → Option (Int32 × Wd)) : Int32 × Wd → Option (Int32 × Wd)
  | (x1, σ) => (if (σ 120 29) = 0 then (if (σ 120 26) = 0 then kx28 σ else ((X11_readsOne σ x1).bind fun σ10 => rec28 (0, σ10))) else kx28 σ)
def X11_text (σ : Wd) : Option (Int32 × Wd) :=
  ((X11_starts σ 122).bind fun σ1 => ((X11_goesOn (up (up (up σ1 120 25 0) 120 26 3) 120 29 0)).bind fun σ2 => (lp (X11_text_B28 X11_text_T52) FU (1, σ2))))
set_option maxRecDepth 100000 in
set_option maxHeartbeats 4000000 in
theorem m_X11_text {E : JE} (hE : kOk 140 E) (σ : Wd) {res : Int32 × Wd} (hT : X11_text σ = some res) : kMt E yX11_text mX11_text rmX11_text [.inr 120] σ (kQi res.1 res.2) := by
  refine kMt_of (by decide +kernel) rfl (Nat.le_of_ble_eq_true rfl) ?_
  generalize hQ : (kQi res.1 res.2) = Q
  show KJ E mX11_text rmX11_text 0 [some (.inr 120)] [] σ Q
  unfold X11_text at hT
  have hJ52 : ∀ ς, X11_text_J52 ς = some res → KJ E mX11_text rmX11_text 52 [some (.inr 120)] [] ς Q := by
    intro ς hT
    unfold X11_text_J52 at hT
    refine kj_aload_n dX11_text_52 (pc' := 53) rfl rfl rfl ?_
    refine kj_iconst dX11_text_53 (pc' := 54) rfl kc_0 ?_
    refine kj_putI p_RX11_266 rfl rfl rfl (Nat.lt_of_lt_of_le (Nat.le_of_ble_eq_true rfl : 120 < 140) hE.1) dX11_text_54 (pc' := 57) rfl ?_
    refine kj_aload_n dX11_text_57 (pc' := 58) rfl rfl rfl ?_
    refine kj_getI f_RX11_287 rfl (Nat.lt_of_lt_of_le (Nat.le_of_ble_eq_true rfl : 120 < 140) hE.1) dX11_text_58 (pc' := 61) rfl ?_
    refine kj_if_eq dX11_text_61 (tgt := 72) rfl (pc' := 64) rfl (fun c3 => ?_) (fun c3 => ?_)
    · rw [if_pos c3] at hT
      refine kj_aload_n dX11_text_72 (pc' := 73) rfl rfl rfl ?_
      obtain ⟨σ4, hσ4, hT⟩ := bind_some' hT
      refine kcVv (as := []) (st := []) l_RX11_312 (m_X11_keepsList hE (up ς 120 23 0) hσ4) rfl (Nat.lt_of_lt_of_le (Nat.le_of_ble_eq_true rfl : 120 < 140) hE.1) rfl ⟨⟨rfl, rfl⟩, Nat.le_of_ble_eq_true rfl, Nat.le_of_ble_eq_true rfl⟩ (Nat.le_of_ble_eq_true rfl) dX11_text_73 (pc' := 76) rfl ?_
      refine kj_iconst dX11_text_76 (pc' := 77) rfl kc_0 ?_
      refine kj_istore_n dX11_text_77 (pc' := 78) rfl rfl (Nat.le_of_ble_eq_true rfl) (ls' := [some (.inr 120), none, some (.inl 0)]) rfl ?_
      refine lp_ind (P := fun s => KJ E mX11_text rmX11_text 78 [some (.inr 120), none, some (.inl s.1)] [] s.2 Q) (fun rec78 s ih78 hT => ?_) FU (0, σ4) hT
      obtain ⟨x2, σ⟩ := s
      show KJ E mX11_text rmX11_text 78 [some (.inr 120), none, some (.inl x2)] [] σ Q
      rw [X11_text_B78] at hT
      refine kj_iload_n dX11_text_78 (pc' := 79) rfl rfl rfl ?_
      refine kj_bipush dX11_text_79 (pc' := 81) rfl kb_42 ?_
      refine kj_icmp_ge dX11_text_81 (tgt := 102) rfl (pc' := 84) rfl (fun c5 => ?_) (fun c5 => ?_)
      · rw [if_pos c5] at hT
        refine kj_aload_n dX11_text_102 (pc' := 103) rfl rfl rfl ?_
        refine kj_iconst dX11_text_103 (pc' := 104) rfl kc_0 ?_
        refine kj_putI p_RX11_77 rfl rfl rfl (Nat.lt_of_lt_of_le (Nat.le_of_ble_eq_true rfl : 120 < 140) hE.1) dX11_text_104 (pc' := 107) rfl ?_
        refine kj_aload_n dX11_text_107 (pc' := 108) rfl rfl rfl ?_
        refine kcVi (as := []) (st := []) l_RX11_80 (m_X11_many hE (up σ 120 4 0) rfl) rfl (Nat.lt_of_lt_of_le (Nat.le_of_ble_eq_true rfl : 120 < 140) hE.1) rfl ⟨⟨rfl, rfl⟩, Nat.le_of_ble_eq_true rfl, Nat.le_of_ble_eq_true rfl⟩ (Nat.le_of_ble_eq_true rfl) dX11_text_108 (pc' := 111) rfl ?_
        have hR := Option.some.inj hT
        subst hR
        exact kj_iret rfl dX11_text_111 (by subst hQ; exact ⟨rfl, rfl⟩)
      · rw [if_neg c5] at hT
        refine kj_aload_n dX11_text_84 (pc' := 85) rfl rfl rfl ?_
        refine kj_getR f_RX11_13 rfl (Nat.lt_of_lt_of_le (Nat.le_of_ble_eq_true rfl : 120 < 140) hE.1) (hE.2 _ _) (q := 121) rfl dX11_text_85 (pc' := 88) rfl ?_
        refine kj_iload_n dX11_text_88 (pc' := 89) rfl rfl rfl ?_
        refine kj_aload_n dX11_text_89 (pc' := 90) rfl rfl rfl ?_
        refine kj_getR f_RX11_17 rfl (Nat.lt_of_lt_of_le (Nat.le_of_ble_eq_true rfl : 120 < 140) hE.1) (hE.2 _ _) (q := 122) rfl dX11_text_90 (pc' := 93) rfl ?_
        refine kj_iload_n dX11_text_93 (pc' := 94) rfl rfl rfl ?_
        obtain ⟨hi6, hT⟩ := ckA_some hT
        refine kj_iald rfl (Nat.lt_of_lt_of_le (Nat.le_of_ble_eq_true rfl : 122 < 140) hE.1) hi6 rfl dX11_text_94 (pc' := 95) rfl ?_
        obtain ⟨hi7, hT⟩ := ckA_some hT
        refine kj_iast rfl (Nat.lt_of_lt_of_le (Nat.le_of_ble_eq_true rfl : 121 < 140) hE.1) hi7 rfl dX11_text_95 (pc' := 96) rfl ?_
        refine kj_iinc dX11_text_96 (pc' := 99) rfl rfl (congrArg (_ + ·) kc_1) (Nat.le_of_ble_eq_true rfl) (ls' := [some (.inr 120), none, some (.inl (x2 + 1))]) rfl ?_
        refine kj_goto dX11_text_99 (pc' := 78) rfl ?_
        exact ih78 (x2 + 1, up σ 121 x2.toNatClampNeg (σ 122 x2.toNatClampNeg)) hT
    · rw [if_neg c3] at hT
      refine kj_bipush dX11_text_64 (pc' := 66) rfl kb_m4 ?_
      refine kj_aload_n dX11_text_66 (pc' := 67) rfl rfl rfl ?_
      refine kj_getI f_RX11_281 rfl (Nat.lt_of_lt_of_le (Nat.le_of_ble_eq_true rfl : 120 < 140) hE.1) dX11_text_67 (pc' := 70) rfl ?_
      refine kj_isub dX11_text_70 (pc' := 71) rfl ?_
      have hR := Option.some.inj hT
      subst hR
      exact kj_iret rfl dX11_text_71 (by subst hQ; exact ⟨rfl, rfl⟩)
  refine kj_aload_n dX11_text_0 (pc' := 1) rfl rfl rfl ?_
  refine kj_getR f_RX11_17 rfl (Nat.lt_of_lt_of_le (Nat.le_of_ble_eq_true rfl : 120 < 140) hE.1) (hE.2 _ _) (q := 122) rfl dX11_text_1 (pc' := 4) rfl ?_
  obtain ⟨σ1, hσ1, hT⟩ := bind_some' hT
  refine kcSv (as := [.inr 122]) (st := []) l_RX11_73 (m_X11_starts (Nat.zero_le _) rfl (Nat.lt_of_lt_of_le (Nat.le_of_ble_eq_true rfl : 122 < 140) hE.1) σ hσ1) rfl ⟨⟨rfl, rfl⟩, Nat.le_of_ble_eq_true rfl, Nat.le_of_ble_eq_true rfl⟩ (Nat.le_of_ble_eq_true rfl) dX11_text_4 (pc' := 7) rfl ?_
  refine kj_aload_n dX11_text_7 (pc' := 8) rfl rfl rfl ?_
  refine kj_iconst dX11_text_8 (pc' := 9) rfl kc_0 ?_
  refine kj_putI p_RX11_272 rfl rfl rfl (Nat.lt_of_lt_of_le (Nat.le_of_ble_eq_true rfl : 120 < 140) hE.1) dX11_text_9 (pc' := 12) rfl ?_
  refine kj_aload_n dX11_text_12 (pc' := 13) rfl rfl rfl ?_
  refine kj_iconst dX11_text_13 (pc' := 14) rfl kc_3 ?_
  refine kj_putI p_RX11_275 rfl rfl rfl (Nat.lt_of_lt_of_le (Nat.le_of_ble_eq_true rfl : 120 < 140) hE.1) dX11_text_14 (pc' := 17) rfl ?_
  refine kj_aload_n dX11_text_17 (pc' := 18) rfl rfl rfl ?_
  refine kj_iconst dX11_text_18 (pc' := 19) rfl kc_0 ?_
  refine kj_putI p_RX11_287 (by decide +kernel) (by decide +kernel) rfl (Nat.lt_of_lt_of_le (Nat.le_of_ble_eq_true rfl : 120 < 140) hE.1) dX11_text_19 (pc' := 22) rfl ?_
  refine kj_aload_n dX11_text_22 (pc' := 23) rfl rfl rfl ?_
  obtain ⟨σ2, hσ2, hT⟩ := bind_some' hT
  refine kcVv (as := []) (st := []) l_RX11_291 (m_X11_goesOn hE (up (up (up σ1 120 25 0) 120 26 3) 120 29 0) hσ2) rfl (Nat.lt_of_lt_of_le (Nat.le_of_ble_eq_true rfl : 120 < 140) hE.1) rfl ⟨⟨rfl, rfl⟩, Nat.le_of_ble_eq_true rfl, Nat.le_of_ble_eq_true rfl⟩ (Nat.le_of_ble_eq_true rfl) dX11_text_23 (pc' := 26) rfl ?_
  refine kj_iconst dX11_text_26 (pc' := 27) rfl kc_1 ?_
  refine kj_istore_n dX11_text_27 (pc' := 28) rfl rfl (Nat.le_of_ble_eq_true rfl) (ls' := [some (.inr 120), some (.inl 1)]) rfl ?_
  have hX28 : ∀ σ, X11_text_T52 σ = some res → KJ E mX11_text rmX11_text 52 [some (.inr 120)] [] σ Q := by
    intro σ hT
    unfold X11_text_T52 at hT
    exact hJ52 σ hT
  refine lp_ind (P := fun s => KJ E mX11_text rmX11_text 28 [some (.inr 120), some (.inl s.1)] [] s.2 Q) (fun rec28 s ih28 hT => ?_) FU (1, σ2) hT
  obtain ⟨x1, σ⟩ := s
  show KJ E mX11_text rmX11_text 28 [some (.inr 120), some (.inl x1)] [] σ Q
  rw [X11_text_B28] at hT
  refine kj_aload_n dX11_text_28 (pc' := 29) rfl rfl rfl ?_
  refine kj_getI f_RX11_287 rfl (Nat.lt_of_lt_of_le (Nat.le_of_ble_eq_true rfl : 120 < 140) hE.1) dX11_text_29 (pc' := 32) rfl ?_
  refine kj_if_ne dX11_text_32 (tgt := 52) rfl (pc' := 35) rfl (fun c8 => ?_) (fun c8 => ?_)
  · rw [if_neg c8] at hT
    refine kj_keep [true] (ls' := [some (.inr 120)]) rfl ?_
    exact hX28 σ hT
  · rw [if_pos c8] at hT
    refine kj_aload_n dX11_text_35 (pc' := 36) rfl rfl rfl ?_
    refine kj_getI f_RX11_275 rfl (Nat.lt_of_lt_of_le (Nat.le_of_ble_eq_true rfl : 120 < 140) hE.1) dX11_text_36 (pc' := 39) rfl ?_
    refine kj_if_eq dX11_text_39 (tgt := 52) rfl (pc' := 42) rfl (fun c9 => ?_) (fun c9 => ?_)
    · rw [if_pos c9] at hT
      refine kj_keep [true] (ls' := [some (.inr 120)]) rfl ?_
      exact hX28 σ hT
    · rw [if_neg c9] at hT
      refine kj_aload_n dX11_text_42 (pc' := 43) rfl rfl rfl ?_
      refine kj_iload_n dX11_text_43 (pc' := 44) rfl rfl rfl ?_
      obtain ⟨σ10, hσ10, hT⟩ := bind_some' hT
      refine kcVv (as := [.inl x1]) (st := []) l_RX11_309 (m_X11_readsOne hE σ x1 hσ10) rfl (Nat.lt_of_lt_of_le (Nat.le_of_ble_eq_true rfl : 120 < 140) hE.1) rfl ⟨⟨rfl, rfl⟩, Nat.le_of_ble_eq_true rfl, Nat.le_of_ble_eq_true rfl⟩ (Nat.le_of_ble_eq_true rfl) dX11_text_44 (pc' := 47) rfl ?_
      refine kj_iconst dX11_text_47 (pc' := 48) rfl kc_0 ?_
      refine kj_istore_n dX11_text_48 (pc' := 49) rfl rfl (Nat.le_of_ble_eq_true rfl) (ls' := [some (.inr 120), some (.inl 0)]) rfl ?_
      refine kj_goto dX11_text_49 (pc' := 28) rfl ?_
      exact ih28 (0, σ10) hT
