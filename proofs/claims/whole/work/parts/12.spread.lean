def X6_forget (σ : Wd) : Wd :=
  (up σ 107 5 (-1))
set_option maxRecDepth 100000 in
set_option maxHeartbeats 4000000 in
theorem m_X6_forget {E : JE} (hE : kOk 120 E) (σ : Wd) {res : Wd} (hT : X6_forget σ = res) : kMt E yX6_forget mX6_forget rmX6_forget [.inr 107] σ (kQv res) := by
  refine kMt_of (by decide +kernel) rfl (Nat.le_of_ble_eq_true rfl) ?_
  generalize hQ : (kQv res) = Q
  show KJ E mX6_forget rmX6_forget 0 [some (.inr 107)] [] σ Q
  unfold X6_forget at hT
  refine kj_aload_n dX6_forget_0 (pc' := 1) rfl rfl rfl ?_
  refine kj_iconst dX6_forget_1 (pc' := 2) rfl kc_m1 ?_
  refine kj_putI p_RX6_28 rfl rfl rfl (Nat.lt_of_lt_of_le (Nat.le_of_ble_eq_true rfl : 107 < 120) hE.1) dX6_forget_2 (pc' := 5) rfl ?_
  subst hT
  exact kj_vret rfl dX6_forget_5 (by subst hQ; exact ⟨rfl, rfl⟩)
def X6_isInside (σ : Wd) (x1 : Int32) (x2 : Int32) : Option (Int32) :=
  ((X4_at σ 95 x1).bind fun t1 => ((X4_at σ 95 x2).bind fun t2 => (if (t1 &&& (t2 ^^^ (-1))) = 0 then some 1 else some 0)))
set_option maxRecDepth 100000 in
set_option maxHeartbeats 4000000 in
theorem m_X6_isInside {E : JE} (hE : kOk 120 E) (σ : Wd) (x1 : Int32) (x2 : Int32) {res : Int32} (hT : X6_isInside σ x1 x2 = some res) : kMt E yX6_isInside mX6_isInside rmX6_isInside [.inr 107, .inl x1, .inl x2] σ (kQz res σ) := by
  refine kMt_of (by decide +kernel) rfl (Nat.le_of_ble_eq_true rfl) ?_
  generalize hQ : (kQz res σ) = Q
  show KJ E mX6_isInside rmX6_isInside 0 [some (.inr 107), some (.inl x1), some (.inl x2)] [] σ Q
  unfold X6_isInside at hT
  refine kj_aload_n dX6_isInside_0 (pc' := 1) rfl rfl rfl ?_
  refine kj_getR f_RX6_9 rfl (Nat.lt_of_lt_of_le (Nat.le_of_ble_eq_true rfl : 107 < 120) hE.1) (hE.2 _ _) (q := 95) rfl dX6_isInside_1 (pc' := 4) rfl ?_
  refine kj_iload_n dX6_isInside_4 (pc' := 5) rfl rfl rfl ?_
  obtain ⟨t1, ht1, hT⟩ := bind_some' hT
  refine kcVi (as := [.inl x1]) (st := []) l_RX6_59 (m_X4_at hE rfl σ x1 ht1) rfl (Nat.lt_of_lt_of_le (Nat.le_of_ble_eq_true rfl : 95 < 120) hE.1) rfl ⟨⟨rfl, rfl⟩, Nat.le_of_ble_eq_true rfl, Nat.le_of_ble_eq_true rfl⟩ (Nat.le_of_ble_eq_true rfl) dX6_isInside_5 (pc' := 8) rfl ?_
  refine kj_aload_n dX6_isInside_8 (pc' := 9) rfl rfl rfl ?_
  refine kj_getR f_RX6_9 rfl (Nat.lt_of_lt_of_le (Nat.le_of_ble_eq_true rfl : 107 < 120) hE.1) (hE.2 _ _) (q := 95) rfl dX6_isInside_9 (pc' := 12) rfl ?_
  refine kj_iload_n dX6_isInside_12 (pc' := 13) rfl rfl rfl ?_
  obtain ⟨t2, ht2, hT⟩ := bind_some' hT
  refine kcVi (as := [.inl x2]) (st := [.inl t1]) l_RX6_59 (m_X4_at hE rfl σ x2 ht2) rfl (Nat.lt_of_lt_of_le (Nat.le_of_ble_eq_true rfl : 95 < 120) hE.1) rfl ⟨⟨rfl, rfl⟩, Nat.le_of_ble_eq_true rfl, Nat.le_of_ble_eq_true rfl⟩ (Nat.le_of_ble_eq_true rfl) dX6_isInside_13 (pc' := 16) rfl ?_
  refine kj_iconst dX6_isInside_16 (pc' := 17) rfl kc_m1 ?_
  refine kj_ixor dX6_isInside_17 (pc' := 18) rfl ?_
  refine kj_iand dX6_isInside_18 (pc' := 19) rfl ?_
  refine kj_if_ne dX6_isInside_19 (tgt := 26) rfl (pc' := 22) rfl (fun c3 => ?_) (fun c3 => ?_)
  · rw [if_neg c3] at hT
    refine kj_iconst dX6_isInside_26 (pc' := 27) rfl kc_0 ?_
    have hR := Option.some.inj hT
    subst hR
    exact kj_zret rfl (Or.inl rfl) dX6_isInside_27 (by subst hQ; exact ⟨rfl, rfl, (Or.inl rfl)⟩)
  · rw [if_pos c3] at hT
    refine kj_iconst dX6_isInside_22 (pc' := 23) rfl kc_1 ?_
    refine kj_goto dX6_isInside_23 (pc' := 27) rfl ?_
    have hR := Option.some.inj hT
    subst hR
    exact kj_zret rfl (Or.inr rfl) dX6_isInside_27 (by subst hQ; exact ⟨rfl, rfl, (Or.inr rfl)⟩)
def X6_searchFrom_J150 (rec19 : Int32 × Int32 × Wd → Option (Int32 × Wd)) (y2 : Int32) (y3 : Int32) (ς : Wd) : Option (Int32 × Wd) :=
  rec19 (y2, y3 + 1, ς)
def X6_searchFrom_T150 (rec19 : Int32 × Int32 × Wd → Option (Int32 × Wd)) (x3 : Int32) (x2 : Int32) (σ : Wd) : Option (Int32 × Wd) :=
  X6_searchFrom_J150 rec19 x2 x3 σ
def X6_searchFrom_J144 (rec47 : Int32 × Int32 × Wd → Option (Int32 × Wd)) (y2 : Int32) (y5 : Int32) (ς : Wd) : Option (Int32 × Wd) :=
  rec47 (y2, y5 + 1, ς)
def X6_searchFrom_B47 (t5 : Int32) (kx47 : Int32 → Wd → Option (Int32 × Wd)) (rec47 : Int32 × Int32 × Wd → Option (Int32 × Wd)) : Int32 × Int32 × Wd → Option (Int32 × Wd)
  | (x2, x5, σ) => (if (σ 95 1) ≤ x5 then kx47 x2 σ else (if 128 ≤ x5 then kx47 x2 σ else (if x5 < 0 then X6_searchFrom_J144 rec47 x2 x5 σ else (ckA x5 128 <| (if (σ 110 x5.toNatClampNeg) = (-1) then ((X6_isInside σ t5 x5).bind fun t11 => (if t11 = 0 then X6_searchFrom_J144 rec47 x2 x5 σ else (ckA x5 128 <| (ckA x5 128 <| (if ((up σ 110 x5.toNatClampNeg t5) 109 x5.toNatClampNeg) = (-1) then some (x5, up σ 110 x5.toNatClampNeg t5) else (if 128 ≤ x2 then X6_searchFrom_J144 rec47 x2 x5 (up σ 110 x5.toNatClampNeg t5) else (ckA x5 128 <| (ckA x2 128 <| X6_searchFrom_J144 rec47 (x2 + 1) x5 (up (up σ 110 x5.toNatClampNeg t5) 111 x2.toNatClampNeg ((up σ 110 x5.toNatClampNeg t5) 109 x5.toNatClampNeg)))))))))) else X6_searchFrom_J144 rec47 x2 x5 σ)))))
def X6_searchFrom_B19 (rec19 : Int32 × Int32 × Wd → Option (Int32 × Wd)) : Int32 × Int32 × Wd → Option (Int32 × Wd)
  | (x2, x3, σ) => (if x2 ≤ x3 then some ((-1), σ) else (if 128 ≤ x3 then some ((-1), σ) else (ckA x3 128 <| (lett (σ 111 x3.toNatClampNeg) fun t5 => (lp (X6_searchFrom_B47 t5 (X6_searchFrom_T150 rec19 x3)) FU (x2, t5 + 1, σ))))))
def X6_searchFrom (σ : Wd) (x1 : Int32) : Option (Int32 × Wd) :=
  ((J7_fill_53178 σ 110 (-1)).bind fun σ1 => (lp (X6_searchFrom_B19) FU (1, 0, up σ1 111 0 x1)))
set_option maxRecDepth 100000 in
set_option maxHeartbeats 4000000 in
theorem m_X6_searchFrom {E : JE} (hE : kOk 120 E) (σ : Wd) (x1 : Int32) {res : Int32 × Wd} (hT : X6_searchFrom σ x1 = some res) : kMt E yX6_searchFrom mX6_searchFrom rmX6_searchFrom [.inr 107, .inl x1] σ (kQi res.1 res.2) := by
  refine kMt_of (by decide +kernel) rfl (Nat.le_of_ble_eq_true rfl) ?_
  generalize hQ : (kQi res.1 res.2) = Q
  show KJ E mX6_searchFrom rmX6_searchFrom 0 [some (.inr 107), some (.inl x1)] [] σ Q
  unfold X6_searchFrom at hT
  refine kj_aload_n dX6_searchFrom_0 (pc' := 1) rfl rfl rfl ?_
  refine kj_getR f_RX6_22 rfl (Nat.lt_of_lt_of_le (Nat.le_of_ble_eq_true rfl : 107 < 120) hE.1) (hE.2 _ _) (q := 110) rfl dX6_searchFrom_1 (pc' := 4) rfl ?_
  refine kj_iconst dX6_searchFrom_4 (pc' := 5) rfl kc_m1 ?_
  obtain ⟨σ1, hσ1, hT⟩ := bind_some' hT
  refine kcSv (as := [.inr 110, .inl (-1)]) (st := []) l_RX6_41 (m_J7_fill_53178 (Nat.zero_le _) rfl (Nat.lt_of_lt_of_le (Nat.le_of_ble_eq_true rfl : 110 < 120) hE.1) σ (-1) hσ1) rfl ⟨⟨rfl, rfl⟩, Nat.le_of_ble_eq_true rfl, Nat.le_of_ble_eq_true rfl⟩ (Nat.le_of_ble_eq_true rfl) dX6_searchFrom_5 (pc' := 8) rfl ?_
  refine kj_iconst dX6_searchFrom_8 (pc' := 9) rfl kc_1 ?_
  refine kj_istore_n dX6_searchFrom_9 (pc' := 10) rfl rfl (Nat.le_of_ble_eq_true rfl) (ls' := [some (.inr 107), some (.inl x1), some (.inl 1)]) rfl ?_
  refine kj_aload_n dX6_searchFrom_10 (pc' := 11) rfl rfl rfl ?_
  refine kj_getR f_RX6_25 rfl (Nat.lt_of_lt_of_le (Nat.le_of_ble_eq_true rfl : 107 < 120) hE.1) (hE.2 _ _) (q := 111) rfl dX6_searchFrom_11 (pc' := 14) rfl ?_
  refine kj_iconst dX6_searchFrom_14 (pc' := 15) rfl kc_0 ?_
  refine kj_iload_n dX6_searchFrom_15 (pc' := 16) rfl rfl rfl ?_
  refine kj_iast rfl (Nat.lt_of_lt_of_le (Nat.le_of_ble_eq_true rfl : 111 < 120) hE.1) (vp_lit (by decide +kernel)) (j := 0) (by decide +kernel) dX6_searchFrom_16 (pc' := 17) rfl ?_
  refine kj_iconst dX6_searchFrom_17 (pc' := 18) rfl kc_0 ?_
  refine kj_istore_n dX6_searchFrom_18 (pc' := 19) rfl rfl (Nat.le_of_ble_eq_true rfl) (ls' := [some (.inr 107), some (.inl x1), some (.inl 1), some (.inl 0)]) rfl ?_
  refine kj_keep [true, false, true, true] (ls' := [some (.inr 107), none, some (.inl 1), some (.inl 0)]) rfl ?_
  refine lp_ind (P := fun s => KJ E mX6_searchFrom rmX6_searchFrom 19 [some (.inr 107), none, some (.inl s.1), some (.inl s.2.1)] [] s.2.2 Q) (fun rec19 s ih19 hT => ?_) FU (1, 0, up σ1 111 0 x1) hT
  obtain ⟨x2, x3, σ⟩ := s
  show KJ E mX6_searchFrom rmX6_searchFrom 19 [some (.inr 107), none, some (.inl x2), some (.inl x3)] [] σ Q
  rw [X6_searchFrom_B19] at hT
  have hJ150_19 : ∀ y2 y3 ς, X6_searchFrom_J150 rec19 y2 y3 ς = some res → KJ E mX6_searchFrom rmX6_searchFrom 150 [some (.inr 107), none, some (.inl y2), some (.inl y3)] [] ς Q := by
    intro y2 y3 ς hT
    unfold X6_searchFrom_J150 at hT
    refine kj_iinc dX6_searchFrom_150 (pc' := 153) rfl rfl (congrArg (_ + ·) kc_1) (Nat.le_of_ble_eq_true rfl) (ls' := [some (.inr 107), none, some (.inl y2), some (.inl (y3 + 1))]) rfl ?_
    refine kj_goto dX6_searchFrom_153 (pc' := 19) rfl ?_
    exact ih19 (y2, y3 + 1, ς) hT
  refine kj_iload_n dX6_searchFrom_19 (pc' := 20) rfl rfl rfl ?_
  refine kj_iload_n dX6_searchFrom_20 (pc' := 21) rfl rfl rfl ?_
  refine kj_icmp_ge dX6_searchFrom_21 (tgt := 156) rfl (pc' := 24) rfl (fun c2 => ?_) (fun c2 => ?_)
  · rw [if_pos c2] at hT
    refine kj_iconst dX6_searchFrom_156 (pc' := 157) rfl kc_m1 ?_
    have hR := Option.some.inj hT
    subst hR
    exact kj_iret rfl dX6_searchFrom_157 (by subst hQ; exact ⟨rfl, rfl⟩)
  · rw [if_neg c2] at hT
    refine kj_iload_n dX6_searchFrom_24 (pc' := 25) rfl rfl rfl ?_
    refine kj_aload_n dX6_searchFrom_25 (pc' := 26) rfl rfl rfl ?_
    refine kj_getR f_RX6_25 rfl (Nat.lt_of_lt_of_le (Nat.le_of_ble_eq_true rfl : 107 < 120) hE.1) (hE.2 _ _) (q := 111) rfl dX6_searchFrom_26 (pc' := 29) rfl ?_
    refine kj_alen (n := 0) (v := 128) 0 (ty := .int) rfl (by decide) rfl (Nat.lt_of_lt_of_le (Nat.le_of_ble_eq_true rfl : 111 < 120) hE.1) (by decide +kernel) dX6_searchFrom_29 (pc' := 30) rfl ?_
    refine kj_icmp_ge dX6_searchFrom_30 (tgt := 156) rfl (pc' := 33) rfl (fun c3 => ?_) (fun c3 => ?_)
    · rw [if_pos c3] at hT
      refine kj_iconst dX6_searchFrom_156 (pc' := 157) rfl kc_m1 ?_
      have hR := Option.some.inj hT
      subst hR
      exact kj_iret rfl dX6_searchFrom_157 (by subst hQ; exact ⟨rfl, rfl⟩)
    · rw [if_neg c3] at hT
      refine kj_aload_n dX6_searchFrom_33 (pc' := 34) rfl rfl rfl ?_
      refine kj_getR f_RX6_25 rfl (Nat.lt_of_lt_of_le (Nat.le_of_ble_eq_true rfl : 107 < 120) hE.1) (hE.2 _ _) (q := 111) rfl dX6_searchFrom_34 (pc' := 37) rfl ?_
      refine kj_iload_n dX6_searchFrom_37 (pc' := 38) rfl rfl rfl ?_
      obtain ⟨hi4, hT⟩ := ckA_some hT
      refine kj_iald rfl (Nat.lt_of_lt_of_le (Nat.le_of_ble_eq_true rfl : 111 < 120) hE.1) hi4 rfl dX6_searchFrom_38 (pc' := 39) rfl ?_
      refine kj_istore dX6_searchFrom_39 (pc' := 41) rfl (Nat.le_of_ble_eq_true rfl) (ls' := [some (.inr 107), none, some (.inl x2), some (.inl x3), some (.inl (σ 111 x3.toNatClampNeg))]) rfl ?_
      refine kj_iload dX6_searchFrom_41 (pc' := 43) rfl rfl ?_
      refine kj_iconst dX6_searchFrom_43 (pc' := 44) rfl kc_1 ?_
      refine kj_iadd dX6_searchFrom_44 (pc' := 45) rfl ?_
      refine kj_istore dX6_searchFrom_45 (pc' := 47) rfl (Nat.le_of_ble_eq_true rfl) (ls' := [some (.inr 107), none, some (.inl x2), some (.inl x3), some (.inl (σ 111 x3.toNatClampNeg)), some (.inl ((σ 111 x3.toNatClampNeg) + 1))]) rfl ?_
      obtain ⟨t5, et5, hT⟩ := lett_i hT
      rw [← et5]
      have hX47 : ∀ x2 σ, X6_searchFrom_T150 rec19 x3 x2 σ = some res → KJ E mX6_searchFrom rmX6_searchFrom 150 [some (.inr 107), none, some (.inl x2), some (.inl x3)] [] σ Q := by
        intro x2 σ hT
        unfold X6_searchFrom_T150 at hT
        exact hJ150_19 x2 x3 σ hT
      refine lp_ind (P := fun s => KJ E mX6_searchFrom rmX6_searchFrom 47 [some (.inr 107), none, some (.inl s.1), some (.inl x3), some (.inl t5), some (.inl s.2.1)] [] s.2.2 Q) (fun rec47 s ih47 hT => ?_) FU (x2, t5 + 1, σ) hT
      obtain ⟨x2, x5, σ⟩ := s
      show KJ E mX6_searchFrom rmX6_searchFrom 47 [some (.inr 107), none, some (.inl x2), some (.inl x3), some (.inl t5), some (.inl x5)] [] σ Q
      rw [X6_searchFrom_B47] at hT
      have hJ144_19_47 : ∀ y2 y5 ς, X6_searchFrom_J144 rec47 y2 y5 ς = some res → KJ E mX6_searchFrom rmX6_searchFrom 144 [some (.inr 107), none, some (.inl y2), some (.inl x3), some (.inl t5), some (.inl y5)] [] ς Q := by
        intro y2 y5 ς hT
        unfold X6_searchFrom_J144 at hT
        refine kj_iinc dX6_searchFrom_144 (pc' := 147) rfl rfl (congrArg (_ + ·) kc_1) (Nat.le_of_ble_eq_true rfl) (ls' := [some (.inr 107), none, some (.inl y2), some (.inl x3), some (.inl t5), some (.inl (y5 + 1))]) rfl ?_
        refine kj_goto dX6_searchFrom_147 (pc' := 47) rfl ?_
        exact ih47 (y2, y5 + 1, ς) hT
      refine kj_iload dX6_searchFrom_47 (pc' := 49) rfl rfl ?_
      refine kj_aload_n dX6_searchFrom_49 (pc' := 50) rfl rfl rfl ?_
      refine kj_getR f_RX6_9 rfl (Nat.lt_of_lt_of_le (Nat.le_of_ble_eq_true rfl : 107 < 120) hE.1) (hE.2 _ _) (q := 95) rfl dX6_searchFrom_50 (pc' := 53) rfl ?_
      refine kj_getI f_RX6_32 rfl (Nat.lt_of_lt_of_le (Nat.le_of_ble_eq_true rfl : 95 < 120) hE.1) dX6_searchFrom_53 (pc' := 56) rfl ?_
      refine kj_icmp_ge dX6_searchFrom_56 (tgt := 150) rfl (pc' := 59) rfl (fun c6 => ?_) (fun c6 => ?_)
      · rw [if_pos c6] at hT
        refine kj_keep [true, false, true, true] (ls' := [some (.inr 107), none, some (.inl x2), some (.inl x3)]) rfl ?_
        exact hX47 x2 σ hT
      · rw [if_neg c6] at hT
        refine kj_iload dX6_searchFrom_59 (pc' := 61) rfl rfl ?_
        refine kj_aload_n dX6_searchFrom_61 (pc' := 62) rfl rfl rfl ?_
        refine kj_getR f_RX6_19 rfl (Nat.lt_of_lt_of_le (Nat.le_of_ble_eq_true rfl : 107 < 120) hE.1) (hE.2 _ _) (q := 109) rfl dX6_searchFrom_62 (pc' := 65) rfl ?_
        refine kj_alen (n := 0) (v := 128) 0 (ty := .int) rfl (by decide) rfl (Nat.lt_of_lt_of_le (Nat.le_of_ble_eq_true rfl : 109 < 120) hE.1) (by decide +kernel) dX6_searchFrom_65 (pc' := 66) rfl ?_
        refine kj_icmp_ge dX6_searchFrom_66 (tgt := 150) rfl (pc' := 69) rfl (fun c7 => ?_) (fun c7 => ?_)
        · rw [if_pos c7] at hT
          refine kj_keep [true, false, true, true] (ls' := [some (.inr 107), none, some (.inl x2), some (.inl x3)]) rfl ?_
          exact hX47 x2 σ hT
        · rw [if_neg c7] at hT
          refine kj_iload dX6_searchFrom_69 (pc' := 71) rfl rfl ?_
          refine kj_if_lt dX6_searchFrom_71 (tgt := 144) rfl (pc' := 74) rfl (fun c8 => ?_) (fun c8 => ?_)
          · rw [if_pos c8] at hT
            exact hJ144_19_47 x2 x5 σ hT
          · rw [if_neg c8] at hT
            refine kj_aload_n dX6_searchFrom_74 (pc' := 75) rfl rfl rfl ?_
            refine kj_getR f_RX6_22 rfl (Nat.lt_of_lt_of_le (Nat.le_of_ble_eq_true rfl : 107 < 120) hE.1) (hE.2 _ _) (q := 110) rfl dX6_searchFrom_75 (pc' := 78) rfl ?_
            refine kj_iload dX6_searchFrom_78 (pc' := 80) rfl rfl ?_
            obtain ⟨hi9, hT⟩ := ckA_some hT
            refine kj_iald rfl (Nat.lt_of_lt_of_le (Nat.le_of_ble_eq_true rfl : 110 < 120) hE.1) hi9 rfl dX6_searchFrom_80 (pc' := 81) rfl ?_
            refine kj_iconst dX6_searchFrom_81 (pc' := 82) rfl kc_m1 ?_
            refine kj_icmp_ne dX6_searchFrom_82 (tgt := 144) rfl (pc' := 85) rfl (fun c10 => ?_) (fun c10 => ?_)
            · rw [if_neg c10] at hT
              exact hJ144_19_47 x2 x5 σ hT
            · rw [if_pos c10] at hT
              refine kj_aload_n dX6_searchFrom_85 (pc' := 86) rfl rfl rfl ?_
              refine kj_iload dX6_searchFrom_86 (pc' := 88) rfl rfl ?_
              refine kj_iload dX6_searchFrom_88 (pc' := 90) rfl rfl ?_
              obtain ⟨t11, ht11, hT⟩ := bind_some' hT
              refine kcVz (as := [.inl t5, .inl x5]) (st := []) l_RX6_55 (m_X6_isInside hE σ t5 x5 ht11) rfl (Nat.lt_of_lt_of_le (Nat.le_of_ble_eq_true rfl : 107 < 120) hE.1) rfl ⟨⟨rfl, rfl⟩, Nat.le_of_ble_eq_true rfl, Nat.le_of_ble_eq_true rfl⟩ (Nat.le_of_ble_eq_true rfl) dX6_searchFrom_90 (pc' := 93) rfl (fun z12 => ?_)
              refine kj_if_eq dX6_searchFrom_93 (tgt := 144) rfl (pc' := 96) rfl (fun c13 => ?_) (fun c13 => ?_)
              · rw [if_pos c13] at hT
                exact hJ144_19_47 x2 x5 σ hT
              · rw [if_neg c13] at hT
                refine kj_aload_n dX6_searchFrom_96 (pc' := 97) rfl rfl rfl ?_
                refine kj_getR f_RX6_22 rfl (Nat.lt_of_lt_of_le (Nat.le_of_ble_eq_true rfl : 107 < 120) hE.1) (hE.2 _ _) (q := 110) rfl dX6_searchFrom_97 (pc' := 100) rfl ?_
                refine kj_iload dX6_searchFrom_100 (pc' := 102) rfl rfl ?_
                refine kj_iload dX6_searchFrom_102 (pc' := 104) rfl rfl ?_
                obtain ⟨hi14, hT⟩ := ckA_some hT
                refine kj_iast rfl (Nat.lt_of_lt_of_le (Nat.le_of_ble_eq_true rfl : 110 < 120) hE.1) hi14 rfl dX6_searchFrom_104 (pc' := 105) rfl ?_
                refine kj_aload_n dX6_searchFrom_105 (pc' := 106) rfl rfl rfl ?_
                refine kj_getR f_RX6_19 rfl (Nat.lt_of_lt_of_le (Nat.le_of_ble_eq_true rfl : 107 < 120) hE.1) (hE.2 _ _) (q := 109) rfl dX6_searchFrom_106 (pc' := 109) rfl ?_
                refine kj_iload dX6_searchFrom_109 (pc' := 111) rfl rfl ?_
                obtain ⟨hi15, hT⟩ := ckA_some hT
                refine kj_iald rfl (Nat.lt_of_lt_of_le (Nat.le_of_ble_eq_true rfl : 109 < 120) hE.1) hi15 rfl dX6_searchFrom_111 (pc' := 112) rfl ?_
                refine kj_iconst dX6_searchFrom_112 (pc' := 113) rfl kc_m1 ?_
                refine kj_icmp_ne dX6_searchFrom_113 (tgt := 119) rfl (pc' := 116) rfl (fun c16 => ?_) (fun c16 => ?_)
                · rw [if_neg c16] at hT
                  refine kj_iload_n dX6_searchFrom_119 (pc' := 120) rfl rfl rfl ?_
                  refine kj_aload_n dX6_searchFrom_120 (pc' := 121) rfl rfl rfl ?_
                  refine kj_getR f_RX6_25 rfl (Nat.lt_of_lt_of_le (Nat.le_of_ble_eq_true rfl : 107 < 120) hE.1) (hE.2 _ _) (q := 111) rfl dX6_searchFrom_121 (pc' := 124) rfl ?_
                  refine kj_alen (n := 0) (v := 128) 0 (ty := .int) rfl (by decide) rfl (Nat.lt_of_lt_of_le (Nat.le_of_ble_eq_true rfl : 111 < 120) hE.1) (by decide +kernel) dX6_searchFrom_124 (pc' := 125) rfl ?_
                  refine kj_icmp_ge dX6_searchFrom_125 (tgt := 144) rfl (pc' := 128) rfl (fun c17 => ?_) (fun c17 => ?_)
                  · rw [if_pos c17] at hT
                    exact hJ144_19_47 x2 x5 (up σ 110 x5.toNatClampNeg t5) hT
                  · rw [if_neg c17] at hT
                    refine kj_aload_n dX6_searchFrom_128 (pc' := 129) rfl rfl rfl ?_
                    refine kj_getR f_RX6_25 rfl (Nat.lt_of_lt_of_le (Nat.le_of_ble_eq_true rfl : 107 < 120) hE.1) (hE.2 _ _) (q := 111) rfl dX6_searchFrom_129 (pc' := 132) rfl ?_
                    refine kj_iload_n dX6_searchFrom_132 (pc' := 133) rfl rfl rfl ?_
                    refine kj_aload_n dX6_searchFrom_133 (pc' := 134) rfl rfl rfl ?_
                    refine kj_getR f_RX6_19 rfl (Nat.lt_of_lt_of_le (Nat.le_of_ble_eq_true rfl : 107 < 120) hE.1) (hE.2 _ _) (q := 109) rfl dX6_searchFrom_134 (pc' := 137) rfl ?_
                    refine kj_iload dX6_searchFrom_137 (pc' := 139) rfl rfl ?_
                    obtain ⟨hi18, hT⟩ := ckA_some hT
                    refine kj_iald rfl (Nat.lt_of_lt_of_le (Nat.le_of_ble_eq_true rfl : 109 < 120) hE.1) hi18 rfl dX6_searchFrom_139 (pc' := 140) rfl ?_
                    obtain ⟨hi19, hT⟩ := ckA_some hT
                    refine kj_iast rfl (Nat.lt_of_lt_of_le (Nat.le_of_ble_eq_true rfl : 111 < 120) hE.1) hi19 rfl dX6_searchFrom_140 (pc' := 141) rfl ?_
                    refine kj_iinc dX6_searchFrom_141 (pc' := 144) rfl rfl (congrArg (_ + ·) kc_1) (Nat.le_of_ble_eq_true rfl) (ls' := [some (.inr 107), none, some (.inl (x2 + 1)), some (.inl x3), some (.inl t5), some (.inl x5)]) rfl ?_
                    exact hJ144_19_47 (x2 + 1) x5 (up (up σ 110 x5.toNatClampNeg t5) 111 x2.toNatClampNeg ((up σ 110 x5.toNatClampNeg t5) 109 x5.toNatClampNeg)) hT
                · rw [if_pos c16] at hT
                  refine kj_iload dX6_searchFrom_116 (pc' := 118) rfl rfl ?_
                  have hR := Option.some.inj hT
                  subst hR
                  exact kj_iret rfl dX6_searchFrom_118 (by subst hQ; exact ⟨rfl, rfl⟩)
def X6_turnPath_B4 (rec4 : Int32 × Int32 × Wd → Option (Wd)) : Int32 × Int32 × Wd → Option (Wd)
  | (x2, x3, σ) => (if 128 ≤ x3 then some σ else (if x2 < 0 then some σ else (if 128 ≤ x2 then some σ else (ckA x2 128 <| (if (σ 110 x2.toNatClampNeg) < 0 then some σ else (if (σ 110 x2.toNatClampNeg) < 128 then (ckA (σ 110 x2.toNatClampNeg) 128 <| (lett (σ 108 ((σ 110 x2.toNatClampNeg).toNatClampNeg)) fun x5 => (ckA (σ 110 x2.toNatClampNeg) 128 <| (ckA x2 128 <| rec4 (x5, x3 + 1, up (up σ 108 ((σ 110 x2.toNatClampNeg).toNatClampNeg) x2) 109 x2.toNatClampNeg (σ 110 x2.toNatClampNeg)))))) else some σ))))))
def X6_turnPath (σ : Wd) (x1 : Int32) : Option (Wd) :=
  (lp (X6_turnPath_B4) FU (x1, 0, σ))
set_option maxRecDepth 100000 in
set_option maxHeartbeats 4000000 in
theorem m_X6_turnPath {E : JE} (hE : kOk 120 E) (σ : Wd) (x1 : Int32) {res : Wd} (hT : X6_turnPath σ x1 = some res) : kMt E yX6_turnPath mX6_turnPath rmX6_turnPath [.inr 107, .inl x1] σ (kQv res) := by
  refine kMt_of (by decide +kernel) rfl (Nat.le_of_ble_eq_true rfl) ?_
  generalize hQ : (kQv res) = Q
  show KJ E mX6_turnPath rmX6_turnPath 0 [some (.inr 107), some (.inl x1)] [] σ Q
  unfold X6_turnPath at hT
  refine kj_iload_n dX6_turnPath_0 (pc' := 1) rfl rfl rfl ?_
  refine kj_istore_n dX6_turnPath_1 (pc' := 2) rfl rfl (Nat.le_of_ble_eq_true rfl) (ls' := [some (.inr 107), some (.inl x1), some (.inl x1)]) rfl ?_
  refine kj_iconst dX6_turnPath_2 (pc' := 3) rfl kc_0 ?_
  refine kj_istore_n dX6_turnPath_3 (pc' := 4) rfl rfl (Nat.le_of_ble_eq_true rfl) (ls' := [some (.inr 107), some (.inl x1), some (.inl x1), some (.inl 0)]) rfl ?_
  refine kj_keep [true, false, true, true] (ls' := [some (.inr 107), none, some (.inl x1), some (.inl 0)]) rfl ?_
  refine lp_ind (P := fun s => KJ E mX6_turnPath rmX6_turnPath 4 [some (.inr 107), none, some (.inl s.1), some (.inl s.2.1)] [] s.2.2 Q) (fun rec4 s ih4 hT => ?_) FU (x1, 0, σ) hT
  obtain ⟨x2, x3, σ⟩ := s
  show KJ E mX6_turnPath rmX6_turnPath 4 [some (.inr 107), none, some (.inl x2), some (.inl x3)] [] σ Q
  rw [X6_turnPath_B4] at hT
  refine kj_iload_n dX6_turnPath_4 (pc' := 5) rfl rfl rfl ?_
  refine kj_sipush dX6_turnPath_5 (pc' := 8) rfl ks_128 ?_
  refine kj_icmp_ge dX6_turnPath_8 (tgt := 82) rfl (pc' := 11) rfl (fun c1 => ?_) (fun c1 => ?_)
  · rw [if_pos c1] at hT
    have hR := Option.some.inj hT
    subst hR
    exact kj_vret rfl dX6_turnPath_82 (by subst hQ; exact ⟨rfl, rfl⟩)
  · rw [if_neg c1] at hT
    refine kj_iload_n dX6_turnPath_11 (pc' := 12) rfl rfl rfl ?_
    refine kj_if_lt dX6_turnPath_12 (tgt := 82) rfl (pc' := 15) rfl (fun c2 => ?_) (fun c2 => ?_)
    · rw [if_pos c2] at hT
      have hR := Option.some.inj hT
      subst hR
      exact kj_vret rfl dX6_turnPath_82 (by subst hQ; exact ⟨rfl, rfl⟩)
    · rw [if_neg c2] at hT
      refine kj_iload_n dX6_turnPath_15 (pc' := 16) rfl rfl rfl ?_
      refine kj_aload_n dX6_turnPath_16 (pc' := 17) rfl rfl rfl ?_
      refine kj_getR f_RX6_22 rfl (Nat.lt_of_lt_of_le (Nat.le_of_ble_eq_true rfl : 107 < 120) hE.1) (hE.2 _ _) (q := 110) rfl dX6_turnPath_17 (pc' := 20) rfl ?_
      refine kj_alen (n := 0) (v := 128) 0 (ty := .int) rfl (by decide) rfl (Nat.lt_of_lt_of_le (Nat.le_of_ble_eq_true rfl : 110 < 120) hE.1) (by decide +kernel) dX6_turnPath_20 (pc' := 21) rfl ?_
      refine kj_icmp_ge dX6_turnPath_21 (tgt := 82) rfl (pc' := 24) rfl (fun c3 => ?_) (fun c3 => ?_)
      · rw [if_pos c3] at hT
        have hR := Option.some.inj hT
        subst hR
        exact kj_vret rfl dX6_turnPath_82 (by subst hQ; exact ⟨rfl, rfl⟩)
      · rw [if_neg c3] at hT
        refine kj_aload_n dX6_turnPath_24 (pc' := 25) rfl rfl rfl ?_
        refine kj_getR f_RX6_22 rfl (Nat.lt_of_lt_of_le (Nat.le_of_ble_eq_true rfl : 107 < 120) hE.1) (hE.2 _ _) (q := 110) rfl dX6_turnPath_25 (pc' := 28) rfl ?_
        refine kj_iload_n dX6_turnPath_28 (pc' := 29) rfl rfl rfl ?_
        obtain ⟨hi4, hT⟩ := ckA_some hT
        refine kj_iald rfl (Nat.lt_of_lt_of_le (Nat.le_of_ble_eq_true rfl : 110 < 120) hE.1) hi4 rfl dX6_turnPath_29 (pc' := 30) rfl ?_
        refine kj_istore dX6_turnPath_30 (pc' := 32) rfl (Nat.le_of_ble_eq_true rfl) (ls' := [some (.inr 107), none, some (.inl x2), some (.inl x3), some (.inl (σ 110 x2.toNatClampNeg))]) rfl ?_
        refine kj_iload dX6_turnPath_32 (pc' := 34) rfl rfl ?_
        refine kj_if_lt dX6_turnPath_34 (tgt := 47) rfl (pc' := 37) rfl (fun c5 => ?_) (fun c5 => ?_)
        · rw [if_pos c5] at hT
          have hR := Option.some.inj hT
          subst hR
          exact kj_vret rfl dX6_turnPath_47 (by subst hQ; exact ⟨rfl, rfl⟩)
        · rw [if_neg c5] at hT
          refine kj_iload dX6_turnPath_37 (pc' := 39) rfl rfl ?_
          refine kj_aload_n dX6_turnPath_39 (pc' := 40) rfl rfl rfl ?_
          refine kj_getR f_RX6_15 rfl (Nat.lt_of_lt_of_le (Nat.le_of_ble_eq_true rfl : 107 < 120) hE.1) (hE.2 _ _) (q := 108) rfl dX6_turnPath_40 (pc' := 43) rfl ?_
          refine kj_alen (n := 0) (v := 128) 0 (ty := .int) rfl (by decide) rfl (Nat.lt_of_lt_of_le (Nat.le_of_ble_eq_true rfl : 108 < 120) hE.1) (by decide +kernel) dX6_turnPath_43 (pc' := 44) rfl ?_
          refine kj_icmp_lt dX6_turnPath_44 (tgt := 48) rfl (pc' := 47) rfl (fun c6 => ?_) (fun c6 => ?_)
          · rw [if_pos c6] at hT
            refine kj_aload_n dX6_turnPath_48 (pc' := 49) rfl rfl rfl ?_
            refine kj_getR f_RX6_15 rfl (Nat.lt_of_lt_of_le (Nat.le_of_ble_eq_true rfl : 107 < 120) hE.1) (hE.2 _ _) (q := 108) rfl dX6_turnPath_49 (pc' := 52) rfl ?_
            refine kj_iload dX6_turnPath_52 (pc' := 54) rfl rfl ?_
            obtain ⟨hi7, hT⟩ := ckA_some hT
            refine kj_iald rfl (Nat.lt_of_lt_of_le (Nat.le_of_ble_eq_true rfl : 108 < 120) hE.1) hi7 rfl dX6_turnPath_54 (pc' := 55) rfl ?_
            obtain ⟨x5, ex5, hT⟩ := lett_i hT
            rw [← ex5]
            refine kj_istore dX6_turnPath_55 (pc' := 57) rfl (Nat.le_of_ble_eq_true rfl) (ls' := [some (.inr 107), none, some (.inl x2), some (.inl x3), some (.inl (σ 110 x2.toNatClampNeg)), some (.inl x5)]) rfl ?_
            refine kj_aload_n dX6_turnPath_57 (pc' := 58) rfl rfl rfl ?_
            refine kj_getR f_RX6_15 rfl (Nat.lt_of_lt_of_le (Nat.le_of_ble_eq_true rfl : 107 < 120) hE.1) (hE.2 _ _) (q := 108) rfl dX6_turnPath_58 (pc' := 61) rfl ?_
            refine kj_iload dX6_turnPath_61 (pc' := 63) rfl rfl ?_
            refine kj_iload_n dX6_turnPath_63 (pc' := 64) rfl rfl rfl ?_
            obtain ⟨hi8, hT⟩ := ckA_some hT
            refine kj_iast rfl (Nat.lt_of_lt_of_le (Nat.le_of_ble_eq_true rfl : 108 < 120) hE.1) hi8 rfl dX6_turnPath_64 (pc' := 65) rfl ?_
            refine kj_aload_n dX6_turnPath_65 (pc' := 66) rfl rfl rfl ?_
            refine kj_getR f_RX6_19 rfl (Nat.lt_of_lt_of_le (Nat.le_of_ble_eq_true rfl : 107 < 120) hE.1) (hE.2 _ _) (q := 109) rfl dX6_turnPath_66 (pc' := 69) rfl ?_
            refine kj_iload_n dX6_turnPath_69 (pc' := 70) rfl rfl rfl ?_
            refine kj_iload dX6_turnPath_70 (pc' := 72) rfl rfl ?_
            obtain ⟨hi9, hT⟩ := ckA_some hT
            refine kj_iast rfl (Nat.lt_of_lt_of_le (Nat.le_of_ble_eq_true rfl : 109 < 120) hE.1) hi9 rfl dX6_turnPath_72 (pc' := 73) rfl ?_
            refine kj_iload dX6_turnPath_73 (pc' := 75) rfl rfl ?_
            refine kj_istore_n dX6_turnPath_75 (pc' := 76) rfl rfl (Nat.le_of_ble_eq_true rfl) (ls' := [some (.inr 107), none, some (.inl x5), some (.inl x3), some (.inl (σ 110 x2.toNatClampNeg)), some (.inl x5)]) rfl ?_
            refine kj_iinc dX6_turnPath_76 (pc' := 79) rfl rfl (congrArg (_ + ·) kc_1) (Nat.le_of_ble_eq_true rfl) (ls' := [some (.inr 107), none, some (.inl x5), some (.inl (x3 + 1)), some (.inl (σ 110 x2.toNatClampNeg)), some (.inl x5)]) rfl ?_
            refine kj_goto dX6_turnPath_79 (pc' := 4) rfl ?_
            refine kj_keep [true, false, true, true] (ls' := [some (.inr 107), none, some (.inl x5), some (.inl (x3 + 1))]) rfl ?_
            exact ih4 (x5, x3 + 1, up (up σ 108 ((σ 110 x2.toNatClampNeg).toNatClampNeg) x2) 109 x2.toNatClampNeg (σ 110 x2.toNatClampNeg)) hT
          · rw [if_neg c6] at hT
            have hR := Option.some.inj hT
            subst hR
            exact kj_vret rfl dX6_turnPath_47 (by subst hQ; exact ⟨rfl, rfl⟩)
def X6_matchAll_J50 (rec20 : Int32 × Int32 × Wd → Option (Int32 × Wd)) (y1 : Int32) (y2 : Int32) (ς : Wd) : Option (Int32 × Wd) :=
  rec20 (y1, y2 + 1, ς)
def X6_matchAll_B20 (rec20 : Int32 × Int32 × Wd → Option (Int32 × Wd)) : Int32 × Int32 × Wd → Option (Int32 × Wd)
  | (x1, x2, σ) => (if (σ 95 1) ≤ x2 then some (x1, σ) else ((X6_searchFrom σ x2).bind fun (t4, σ5) => (if t4 = (-1) then X6_matchAll_J50 rec20 x1 x2 σ5 else ((X6_turnPath σ5 t4).bind fun σ7 => X6_matchAll_J50 rec20 (x1 + 1) x2 σ7))))
def X6_matchAll (σ : Wd) : Option (Int32 × Wd) :=
  ((J7_fill_53178 σ 108 (-1)).bind fun σ1 => ((J7_fill_53178 σ1 109 (-1)).bind fun σ2 => (lp (X6_matchAll_B20) FU (0, 0, σ2))))
set_option maxRecDepth 100000 in
set_option maxHeartbeats 4000000 in
theorem m_X6_matchAll {E : JE} (hE : kOk 120 E) (σ : Wd) {res : Int32 × Wd} (hT : X6_matchAll σ = some res) : kMt E yX6_matchAll mX6_matchAll rmX6_matchAll [.inr 107] σ (kQi res.1 res.2) := by
  refine kMt_of (by decide +kernel) rfl (Nat.le_of_ble_eq_true rfl) ?_
  generalize hQ : (kQi res.1 res.2) = Q
  show KJ E mX6_matchAll rmX6_matchAll 0 [some (.inr 107)] [] σ Q
  unfold X6_matchAll at hT
  refine kj_aload_n dX6_matchAll_0 (pc' := 1) rfl rfl rfl ?_
  refine kj_getR f_RX6_15 rfl (Nat.lt_of_lt_of_le (Nat.le_of_ble_eq_true rfl : 107 < 120) hE.1) (hE.2 _ _) (q := 108) rfl dX6_matchAll_1 (pc' := 4) rfl ?_
  refine kj_iconst dX6_matchAll_4 (pc' := 5) rfl kc_m1 ?_
  obtain ⟨σ1, hσ1, hT⟩ := bind_some' hT
  refine kcSv (as := [.inr 108, .inl (-1)]) (st := []) l_RX6_41 (m_J7_fill_53178 (Nat.zero_le _) rfl (Nat.lt_of_lt_of_le (Nat.le_of_ble_eq_true rfl : 108 < 120) hE.1) σ (-1) hσ1) rfl ⟨⟨rfl, rfl⟩, Nat.le_of_ble_eq_true rfl, Nat.le_of_ble_eq_true rfl⟩ (Nat.le_of_ble_eq_true rfl) dX6_matchAll_5 (pc' := 8) rfl ?_
  refine kj_aload_n dX6_matchAll_8 (pc' := 9) rfl rfl rfl ?_
  refine kj_getR f_RX6_19 rfl (Nat.lt_of_lt_of_le (Nat.le_of_ble_eq_true rfl : 107 < 120) hE.1) (hE.2 _ _) (q := 109) rfl dX6_matchAll_9 (pc' := 12) rfl ?_
  refine kj_iconst dX6_matchAll_12 (pc' := 13) rfl kc_m1 ?_
  obtain ⟨σ2, hσ2, hT⟩ := bind_some' hT
  refine kcSv (as := [.inr 109, .inl (-1)]) (st := []) l_RX6_41 (m_J7_fill_53178 (Nat.zero_le _) rfl (Nat.lt_of_lt_of_le (Nat.le_of_ble_eq_true rfl : 109 < 120) hE.1) σ1 (-1) hσ2) rfl ⟨⟨rfl, rfl⟩, Nat.le_of_ble_eq_true rfl, Nat.le_of_ble_eq_true rfl⟩ (Nat.le_of_ble_eq_true rfl) dX6_matchAll_13 (pc' := 16) rfl ?_
  refine kj_iconst dX6_matchAll_16 (pc' := 17) rfl kc_0 ?_
  refine kj_istore_n dX6_matchAll_17 (pc' := 18) rfl rfl (Nat.le_of_ble_eq_true rfl) (ls' := [some (.inr 107), some (.inl 0)]) rfl ?_
  refine kj_iconst dX6_matchAll_18 (pc' := 19) rfl kc_0 ?_
  refine kj_istore_n dX6_matchAll_19 (pc' := 20) rfl rfl (Nat.le_of_ble_eq_true rfl) (ls' := [some (.inr 107), some (.inl 0), some (.inl 0)]) rfl ?_
  refine lp_ind (P := fun s => KJ E mX6_matchAll rmX6_matchAll 20 [some (.inr 107), some (.inl s.1), some (.inl s.2.1)] [] s.2.2 Q) (fun rec20 s ih20 hT => ?_) FU (0, 0, σ2) hT
  obtain ⟨x1, x2, σ⟩ := s
  show KJ E mX6_matchAll rmX6_matchAll 20 [some (.inr 107), some (.inl x1), some (.inl x2)] [] σ Q
  rw [X6_matchAll_B20] at hT
  have hJ50_20 : ∀ y1 y2 ς, X6_matchAll_J50 rec20 y1 y2 ς = some res → KJ E mX6_matchAll rmX6_matchAll 50 [some (.inr 107), some (.inl y1), some (.inl y2)] [] ς Q := by
    intro y1 y2 ς hT
    unfold X6_matchAll_J50 at hT
    refine kj_iinc dX6_matchAll_50 (pc' := 53) rfl rfl (congrArg (_ + ·) kc_1) (Nat.le_of_ble_eq_true rfl) (ls' := [some (.inr 107), some (.inl y1), some (.inl (y2 + 1))]) rfl ?_
    refine kj_goto dX6_matchAll_53 (pc' := 20) rfl ?_
    exact ih20 (y1, y2 + 1, ς) hT
  refine kj_iload_n dX6_matchAll_20 (pc' := 21) rfl rfl rfl ?_
  refine kj_aload_n dX6_matchAll_21 (pc' := 22) rfl rfl rfl ?_
  refine kj_getR f_RX6_9 rfl (Nat.lt_of_lt_of_le (Nat.le_of_ble_eq_true rfl : 107 < 120) hE.1) (hE.2 _ _) (q := 95) rfl dX6_matchAll_22 (pc' := 25) rfl ?_
  refine kj_getI f_RX6_32 rfl (Nat.lt_of_lt_of_le (Nat.le_of_ble_eq_true rfl : 95 < 120) hE.1) dX6_matchAll_25 (pc' := 28) rfl ?_
  refine kj_icmp_ge dX6_matchAll_28 (tgt := 56) rfl (pc' := 31) rfl (fun c3 => ?_) (fun c3 => ?_)
  · rw [if_pos c3] at hT
    refine kj_iload_n dX6_matchAll_56 (pc' := 57) rfl rfl rfl ?_
    have hR := Option.some.inj hT
    subst hR
    exact kj_iret rfl dX6_matchAll_57 (by subst hQ; exact ⟨rfl, rfl⟩)
  · rw [if_neg c3] at hT
    refine kj_aload_n dX6_matchAll_31 (pc' := 32) rfl rfl rfl ?_
    refine kj_iload_n dX6_matchAll_32 (pc' := 33) rfl rfl rfl ?_
    obtain ⟨t4, ht4, hT⟩ := bind_some' hT
    obtain ⟨t4, σ5⟩ := t4
    dsimp only at hT
    refine kcVi (as := [.inl x2]) (st := []) l_RX6_47 (m_X6_searchFrom hE σ x2 ht4) rfl (Nat.lt_of_lt_of_le (Nat.le_of_ble_eq_true rfl : 107 < 120) hE.1) rfl ⟨⟨rfl, rfl⟩, Nat.le_of_ble_eq_true rfl, Nat.le_of_ble_eq_true rfl⟩ (Nat.le_of_ble_eq_true rfl) dX6_matchAll_33 (pc' := 36) rfl ?_
    refine kj_istore_n dX6_matchAll_36 (pc' := 37) rfl rfl (Nat.le_of_ble_eq_true rfl) (ls' := [some (.inr 107), some (.inl x1), some (.inl x2), some (.inl t4)]) rfl ?_
    refine kj_iload_n dX6_matchAll_37 (pc' := 38) rfl rfl rfl ?_
    refine kj_iconst dX6_matchAll_38 (pc' := 39) rfl kc_m1 ?_
    refine kj_icmp_eq dX6_matchAll_39 (tgt := 50) rfl (pc' := 42) rfl (fun c6 => ?_) (fun c6 => ?_)
    · rw [if_pos c6] at hT
      refine kj_keep [true, true, true] (ls' := [some (.inr 107), some (.inl x1), some (.inl x2)]) rfl ?_
      exact hJ50_20 x1 x2 σ5 hT
    · rw [if_neg c6] at hT
      refine kj_aload_n dX6_matchAll_42 (pc' := 43) rfl rfl rfl ?_
      refine kj_iload_n dX6_matchAll_43 (pc' := 44) rfl rfl rfl ?_
      obtain ⟨σ7, hσ7, hT⟩ := bind_some' hT
      refine kcVv (as := [.inl t4]) (st := []) l_RX6_51 (m_X6_turnPath hE σ5 t4 hσ7) rfl (Nat.lt_of_lt_of_le (Nat.le_of_ble_eq_true rfl : 107 < 120) hE.1) rfl ⟨⟨rfl, rfl⟩, Nat.le_of_ble_eq_true rfl, Nat.le_of_ble_eq_true rfl⟩ (Nat.le_of_ble_eq_true rfl) dX6_matchAll_44 (pc' := 47) rfl ?_
      refine kj_iinc dX6_matchAll_47 (pc' := 50) rfl rfl (congrArg (_ + ·) kc_1) (Nat.le_of_ble_eq_true rfl) (ls' := [some (.inr 107), some (.inl (x1 + 1)), some (.inl x2), some (.inl t4)]) rfl ?_
      refine kj_keep [true, true, true] (ls' := [some (.inr 107), some (.inl (x1 + 1)), some (.inl x2)]) rfl ?_
      exact hJ50_20 (x1 + 1) x2 σ7 hT
def X6_most (σ : Wd) : Option (Int32 × Wd) :=
  (if (σ 107 5) = (-1) then ((X6_matchAll σ).bind fun (t2, σ3) => some ((up σ3 107 5 ((σ 95 1) - t2)) 107 5, up σ3 107 5 ((σ 95 1) - t2))) else some (σ 107 5, σ))
set_option maxRecDepth 100000 in
set_option maxHeartbeats 4000000 in
theorem m_X6_most {E : JE} (hE : kOk 120 E) (σ : Wd) {res : Int32 × Wd} (hT : X6_most σ = some res) : kMt E yX6_most mX6_most rmX6_most [.inr 107] σ (kQi res.1 res.2) := by
  refine kMt_of (by decide +kernel) rfl (Nat.le_of_ble_eq_true rfl) ?_
  generalize hQ : (kQi res.1 res.2) = Q
  show KJ E mX6_most rmX6_most 0 [some (.inr 107)] [] σ Q
  unfold X6_most at hT
  refine kj_aload_n dX6_most_0 (pc' := 1) rfl rfl rfl ?_
  refine kj_getI f_RX6_28 rfl (Nat.lt_of_lt_of_le (Nat.le_of_ble_eq_true rfl : 107 < 120) hE.1) dX6_most_1 (pc' := 4) rfl ?_
  refine kj_iconst dX6_most_4 (pc' := 5) rfl kc_m1 ?_
  refine kj_icmp_ne dX6_most_5 (tgt := 24) rfl (pc' := 8) rfl (fun c1 => ?_) (fun c1 => ?_)
  · rw [if_neg c1] at hT
    refine kj_aload_n dX6_most_24 (pc' := 25) rfl rfl rfl ?_
    refine kj_getI f_RX6_28 rfl (Nat.lt_of_lt_of_le (Nat.le_of_ble_eq_true rfl : 107 < 120) hE.1) dX6_most_25 (pc' := 28) rfl ?_
    have hR := Option.some.inj hT
    subst hR
    exact kj_iret rfl dX6_most_28 (by subst hQ; exact ⟨rfl, rfl⟩)
  · rw [if_pos c1] at hT
    refine kj_aload_n dX6_most_8 (pc' := 9) rfl rfl rfl ?_
    refine kj_aload_n dX6_most_9 (pc' := 10) rfl rfl rfl ?_
    refine kj_getR f_RX6_9 rfl (Nat.lt_of_lt_of_le (Nat.le_of_ble_eq_true rfl : 107 < 120) hE.1) (hE.2 _ _) (q := 95) rfl dX6_most_10 (pc' := 13) rfl ?_
    refine kj_getI f_RX6_32 rfl (Nat.lt_of_lt_of_le (Nat.le_of_ble_eq_true rfl : 95 < 120) hE.1) dX6_most_13 (pc' := 16) rfl ?_
    refine kj_aload_n dX6_most_16 (pc' := 17) rfl rfl rfl ?_
    obtain ⟨t2, ht2, hT⟩ := bind_some' hT
    obtain ⟨t2, σ3⟩ := t2
    dsimp only at hT
    refine kcVi (as := []) (st := [.inl (σ 95 1), .inr 107]) l_RX6_37 (m_X6_matchAll hE σ ht2) rfl (Nat.lt_of_lt_of_le (Nat.le_of_ble_eq_true rfl : 107 < 120) hE.1) rfl ⟨⟨rfl, rfl⟩, Nat.le_of_ble_eq_true rfl, Nat.le_of_ble_eq_true rfl⟩ (Nat.le_of_ble_eq_true rfl) dX6_most_17 (pc' := 20) rfl ?_
    refine kj_isub dX6_most_20 (pc' := 21) rfl ?_
    refine kj_putI p_RX6_28 rfl rfl rfl (Nat.lt_of_lt_of_le (Nat.le_of_ble_eq_true rfl : 107 < 120) hE.1) dX6_most_21 (pc' := 24) rfl ?_
    refine kj_aload_n dX6_most_24 (pc' := 25) rfl rfl rfl ?_
    refine kj_getI f_RX6_28 rfl (Nat.lt_of_lt_of_le (Nat.le_of_ble_eq_true rfl : 107 < 120) hE.1) dX6_most_25 (pc' := 28) rfl ?_
    have hR := Option.some.inj hT
    subst hR
    exact kj_iret rfl dX6_most_28 (by subst hQ; exact ⟨rfl, rfl⟩)
