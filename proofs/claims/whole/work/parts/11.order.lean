def X2_forget (σ : Wd) : Wd :=
  (up σ 103 4 0)
set_option maxRecDepth 100000 in
set_option maxHeartbeats 4000000 in
theorem m_X2_forget {E : JE} (hE : kOk 120 E) (σ : Wd) {res : Wd} (hT : X2_forget σ = res) : kMt E yX2_forget mX2_forget rmX2_forget [.inr 103] σ (kQv res) := by
  refine kMt_of (by decide +kernel) rfl (Nat.le_of_ble_eq_true rfl) ?_
  generalize hQ : (kQv res) = Q
  show KJ E mX2_forget rmX2_forget 0 [some (.inr 103)] [] σ Q
  unfold X2_forget at hT
  refine kj_aload_n dX2_forget_0 (pc' := 1) rfl rfl rfl ?_
  refine kj_iconst dX2_forget_1 (pc' := 2) rfl kc_0 ?_
  refine kj_putI p_RX2_25 (by decide +kernel) (by decide +kernel) rfl (Nat.lt_of_lt_of_le (Nat.le_of_ble_eq_true rfl : 103 < 120) hE.1) dX2_forget_2 (pc' := 5) rfl ?_
  subst hT
  exact kj_vret rfl dX2_forget_5 (by subst hQ; exact ⟨rfl, rfl⟩)
def X2_make_T152 (rec58 : Int32 × Wd → Option (Wd)) (x2 : Int32) (σ : Wd) : Option (Wd) :=
  rec58 (x2 + (-1), σ)
def X2_make_J146 (rec66 : Int32 × Wd → Option (Wd)) (y3 : Int32) (ς : Wd) : Option (Wd) :=
  rec66 (y3 + 1, ς)
def X2_make_B66 (t5 : Int32) (x2 : Int32) (kx66 : Wd → Option (Wd)) (rec66 : Int32 × Wd → Option (Wd)) : Int32 × Wd → Option (Wd)
  | (x3, σ) => (if t5 ≤ x3 then kx66 σ else ((X4_at σ 95 x3).bind fun t8 => ((X4_at σ 95 x2).bind fun t9 => ((X0_isCover σ t8 t9).bind fun t10 => (if t10 = 0 then X2_make_J146 rec66 x3 σ else (ckA x2 128 <| (ckA x2 128 <| (ckA x3 128 <| (ckA x3 128 <| (ckA x2 128 <| (ckA x3 128 <| (ckA x2 128 <| X2_make_J146 rec66 x3 (up (up (up σ 104 x2.toNatClampNeg ((σ 104 x2.toNatClampNeg) + 1)) 105 x3.toNatClampNeg (((up σ 104 x2.toNatClampNeg ((σ 104 x2.toNatClampNeg) + 1)) 105 x3.toNatClampNeg) + 1)) 106 x2.toNatClampNeg (J9_max_7cf53 ((up (up σ 104 x2.toNatClampNeg ((σ 104 x2.toNatClampNeg) + 1)) 105 x3.toNatClampNeg (((up σ 104 x2.toNatClampNeg ((σ 104 x2.toNatClampNeg) + 1)) 105 x3.toNatClampNeg) + 1)) 106 x2.toNatClampNeg) (((up (up σ 104 x2.toNatClampNeg ((σ 104 x2.toNatClampNeg) + 1)) 105 x3.toNatClampNeg (((up σ 104 x2.toNatClampNeg ((σ 104 x2.toNatClampNeg) + 1)) 105 x3.toNatClampNeg) + 1)) 106 x3.toNatClampNeg) + 1)))))))))))))))
def X2_make_B58 (t5 : Int32) (rec58 : Int32 × Wd → Option (Wd)) : Int32 × Wd → Option (Wd)
  | (x2, σ) => (if x2 < 0 then some σ else (lp (X2_make_B66 t5 x2 (X2_make_T152 rec58 x2)) FU (x2 + 1, σ)))
def X2_make (σ : Wd) : Option (Wd) :=
  (if (σ 103 4) = 0 then ((J7_fill_53178 (up σ 103 4 1) 104 0).bind fun σ2 => ((J7_fill_53178 σ2 105 0).bind fun σ3 => ((J7_fill_53178 σ3 106 0).bind fun σ4 => (lett ((J9_min_7cf53 (σ4 95 1) 128) - 1) fun x2 => (lett (J9_min_7cf53 (σ4 95 1) 128) fun t5 => (lp (X2_make_B58 t5) FU (x2, σ4))))))) else some σ)
set_option maxRecDepth 100000 in
set_option maxHeartbeats 4000000 in
theorem m_X2_make {E : JE} (hE : kOk 120 E) (σ : Wd) {res : Wd} (hT : X2_make σ = some res) : kMt E yX2_make mX2_make rmX2_make [.inr 103] σ (kQv res) := by
  refine kMt_of (by decide +kernel) rfl (Nat.le_of_ble_eq_true rfl) ?_
  generalize hQ : (kQv res) = Q
  show KJ E mX2_make rmX2_make 0 [some (.inr 103)] [] σ Q
  unfold X2_make at hT
  refine kj_aload_n dX2_make_0 (pc' := 1) rfl rfl rfl ?_
  refine kj_getI f_RX2_25 rfl (Nat.lt_of_lt_of_le (Nat.le_of_ble_eq_true rfl : 103 < 120) hE.1) dX2_make_1 (pc' := 4) rfl ?_
  refine kj_if_eq dX2_make_4 (tgt := 8) rfl (pc' := 7) rfl (fun c1 => ?_) (fun c1 => ?_)
  · rw [if_pos c1] at hT
    refine kj_aload_n dX2_make_8 (pc' := 9) rfl rfl rfl ?_
    refine kj_iconst dX2_make_9 (pc' := 10) rfl kc_1 ?_
    refine kj_putI p_RX2_25 (by decide +kernel) (by decide +kernel) rfl (Nat.lt_of_lt_of_le (Nat.le_of_ble_eq_true rfl : 103 < 120) hE.1) dX2_make_10 (pc' := 13) rfl ?_
    refine kj_aload_n dX2_make_13 (pc' := 14) rfl rfl rfl ?_
    refine kj_getR f_RX2_15 rfl (Nat.lt_of_lt_of_le (Nat.le_of_ble_eq_true rfl : 103 < 120) hE.1) (hE.2 _ _) (q := 104) rfl dX2_make_14 (pc' := 17) rfl ?_
    refine kj_iconst dX2_make_17 (pc' := 18) rfl kc_0 ?_
    obtain ⟨σ2, hσ2, hT⟩ := bind_some' hT
    refine kcSv (as := [.inr 104, .inl 0]) (st := []) l_RX2_29 (m_J7_fill_53178 (Nat.zero_le _) rfl (Nat.lt_of_lt_of_le (Nat.le_of_ble_eq_true rfl : 104 < 120) hE.1) (up σ 103 4 1) 0 hσ2) rfl ⟨⟨rfl, rfl⟩, Nat.le_of_ble_eq_true rfl, Nat.le_of_ble_eq_true rfl⟩ (Nat.le_of_ble_eq_true rfl) dX2_make_18 (pc' := 21) rfl ?_
    refine kj_aload_n dX2_make_21 (pc' := 22) rfl rfl rfl ?_
    refine kj_getR f_RX2_19 rfl (Nat.lt_of_lt_of_le (Nat.le_of_ble_eq_true rfl : 103 < 120) hE.1) (hE.2 _ _) (q := 105) rfl dX2_make_22 (pc' := 25) rfl ?_
    refine kj_iconst dX2_make_25 (pc' := 26) rfl kc_0 ?_
    obtain ⟨σ3, hσ3, hT⟩ := bind_some' hT
    refine kcSv (as := [.inr 105, .inl 0]) (st := []) l_RX2_29 (m_J7_fill_53178 (Nat.zero_le _) rfl (Nat.lt_of_lt_of_le (Nat.le_of_ble_eq_true rfl : 105 < 120) hE.1) σ2 0 hσ3) rfl ⟨⟨rfl, rfl⟩, Nat.le_of_ble_eq_true rfl, Nat.le_of_ble_eq_true rfl⟩ (Nat.le_of_ble_eq_true rfl) dX2_make_26 (pc' := 29) rfl ?_
    refine kj_aload_n dX2_make_29 (pc' := 30) rfl rfl rfl ?_
    refine kj_getR f_RX2_22 rfl (Nat.lt_of_lt_of_le (Nat.le_of_ble_eq_true rfl : 103 < 120) hE.1) (hE.2 _ _) (q := 106) rfl dX2_make_30 (pc' := 33) rfl ?_
    refine kj_iconst dX2_make_33 (pc' := 34) rfl kc_0 ?_
    obtain ⟨σ4, hσ4, hT⟩ := bind_some' hT
    refine kcSv (as := [.inr 106, .inl 0]) (st := []) l_RX2_29 (m_J7_fill_53178 (Nat.zero_le _) rfl (Nat.lt_of_lt_of_le (Nat.le_of_ble_eq_true rfl : 106 < 120) hE.1) σ3 0 hσ4) rfl ⟨⟨rfl, rfl⟩, Nat.le_of_ble_eq_true rfl, Nat.le_of_ble_eq_true rfl⟩ (Nat.le_of_ble_eq_true rfl) dX2_make_34 (pc' := 37) rfl ?_
    refine kj_aload_n dX2_make_37 (pc' := 38) rfl rfl rfl ?_
    refine kj_getR f_RX2_9 rfl (Nat.lt_of_lt_of_le (Nat.le_of_ble_eq_true rfl : 103 < 120) hE.1) (hE.2 _ _) (q := 93) rfl dX2_make_38 (pc' := 41) rfl ?_
    refine kj_getR f_RX2_35 rfl (Nat.lt_of_lt_of_le (Nat.le_of_ble_eq_true rfl : 93 < 120) hE.1) (hE.2 _ _) (q := 95) rfl dX2_make_41 (pc' := 44) rfl ?_
    refine kj_getI f_RX2_41 rfl (Nat.lt_of_lt_of_le (Nat.le_of_ble_eq_true rfl : 95 < 120) hE.1) dX2_make_44 (pc' := 47) rfl ?_
    refine kj_sipush dX2_make_47 (pc' := 50) rfl ks_128 ?_
    refine kcSi (as := [.inl (σ4 95 1), .inl 128]) (st := []) l_RX2_47 (m_J9_min_7cf53 (Nat.zero_le _) σ4 (σ4 95 1) 128 rfl) rfl ⟨⟨rfl, rfl⟩, Nat.le_of_ble_eq_true rfl, Nat.le_of_ble_eq_true rfl⟩ (Nat.le_of_ble_eq_true rfl) dX2_make_50 (pc' := 53) rfl ?_
    refine kj_istore_n dX2_make_53 (pc' := 54) rfl rfl (Nat.le_of_ble_eq_true rfl) (ls' := [some (.inr 103), some (.inl (J9_min_7cf53 (σ4 95 1) 128))]) rfl ?_
    refine kj_iload_n dX2_make_54 (pc' := 55) rfl rfl rfl ?_
    refine kj_iconst dX2_make_55 (pc' := 56) rfl kc_1 ?_
    refine kj_isub dX2_make_56 (pc' := 57) rfl ?_
    obtain ⟨x2, ex2, hT⟩ := lett_i hT
    rw [← ex2]
    refine kj_istore_n dX2_make_57 (pc' := 58) rfl rfl (Nat.le_of_ble_eq_true rfl) (ls' := [some (.inr 103), some (.inl (J9_min_7cf53 (σ4 95 1) 128)), some (.inl x2)]) rfl ?_
    obtain ⟨t5, et5, hT⟩ := lett_i hT
    rw [← et5]
    refine lp_ind (P := fun s => KJ E mX2_make rmX2_make 58 [some (.inr 103), some (.inl t5), some (.inl s.1)] [] s.2 Q) (fun rec58 s ih58 hT => ?_) FU (x2, σ4) hT
    obtain ⟨x2, σ⟩ := s
    show KJ E mX2_make rmX2_make 58 [some (.inr 103), some (.inl t5), some (.inl x2)] [] σ Q
    rw [X2_make_B58] at hT
    refine kj_iload_n dX2_make_58 (pc' := 59) rfl rfl rfl ?_
    refine kj_if_lt dX2_make_59 (tgt := 158) rfl (pc' := 62) rfl (fun c6 => ?_) (fun c6 => ?_)
    · rw [if_pos c6] at hT
      have hR := Option.some.inj hT
      subst hR
      exact kj_vret rfl dX2_make_158 (by subst hQ; exact ⟨rfl, rfl⟩)
    · rw [if_neg c6] at hT
      refine kj_iload_n dX2_make_62 (pc' := 63) rfl rfl rfl ?_
      refine kj_iconst dX2_make_63 (pc' := 64) rfl kc_1 ?_
      refine kj_iadd dX2_make_64 (pc' := 65) rfl ?_
      refine kj_istore_n dX2_make_65 (pc' := 66) rfl rfl (Nat.le_of_ble_eq_true rfl) (ls' := [some (.inr 103), some (.inl t5), some (.inl x2), some (.inl (x2 + 1))]) rfl ?_
      have hX66 : ∀ σ, X2_make_T152 rec58 x2 σ = some res → KJ E mX2_make rmX2_make 152 [some (.inr 103), some (.inl t5), some (.inl x2)] [] σ Q := by
        intro σ hT
        unfold X2_make_T152 at hT
        refine kj_iinc dX2_make_152 (pc' := 155) rfl rfl (congrArg (_ + ·) kc_m1) (Nat.le_of_ble_eq_true rfl) (ls' := [some (.inr 103), some (.inl t5), some (.inl (x2 + (-1)))]) rfl ?_
        refine kj_goto dX2_make_155 (pc' := 58) rfl ?_
        exact ih58 (x2 + (-1), σ) hT
      refine lp_ind (P := fun s => KJ E mX2_make rmX2_make 66 [some (.inr 103), some (.inl t5), some (.inl x2), some (.inl s.1)] [] s.2 Q) (fun rec66 s ih66 hT => ?_) FU (x2 + 1, σ) hT
      obtain ⟨x3, σ⟩ := s
      show KJ E mX2_make rmX2_make 66 [some (.inr 103), some (.inl t5), some (.inl x2), some (.inl x3)] [] σ Q
      rw [X2_make_B66] at hT
      have hJ146_58_66 : ∀ y3 ς, X2_make_J146 rec66 y3 ς = some res → KJ E mX2_make rmX2_make 146 [some (.inr 103), some (.inl t5), some (.inl x2), some (.inl y3)] [] ς Q := by
        intro y3 ς hT
        unfold X2_make_J146 at hT
        refine kj_iinc dX2_make_146 (pc' := 149) rfl rfl (congrArg (_ + ·) kc_1) (Nat.le_of_ble_eq_true rfl) (ls' := [some (.inr 103), some (.inl t5), some (.inl x2), some (.inl (y3 + 1))]) rfl ?_
        refine kj_goto dX2_make_149 (pc' := 66) rfl ?_
        exact ih66 (y3 + 1, ς) hT
      refine kj_iload_n dX2_make_66 (pc' := 67) rfl rfl rfl ?_
      refine kj_iload_n dX2_make_67 (pc' := 68) rfl rfl rfl ?_
      refine kj_icmp_ge dX2_make_68 (tgt := 152) rfl (pc' := 71) rfl (fun c7 => ?_) (fun c7 => ?_)
      · rw [if_pos c7] at hT
        refine kj_keep [true, true, true] (ls' := [some (.inr 103), some (.inl t5), some (.inl x2)]) rfl ?_
        exact hX66 σ hT
      · rw [if_neg c7] at hT
        refine kj_aload_n dX2_make_71 (pc' := 72) rfl rfl rfl ?_
        refine kj_getR f_RX2_9 rfl (Nat.lt_of_lt_of_le (Nat.le_of_ble_eq_true rfl : 103 < 120) hE.1) (hE.2 _ _) (q := 93) rfl dX2_make_72 (pc' := 75) rfl ?_
        refine kj_aload_n dX2_make_75 (pc' := 76) rfl rfl rfl ?_
        refine kj_getR f_RX2_9 rfl (Nat.lt_of_lt_of_le (Nat.le_of_ble_eq_true rfl : 103 < 120) hE.1) (hE.2 _ _) (q := 93) rfl dX2_make_76 (pc' := 79) rfl ?_
        refine kj_getR f_RX2_35 rfl (Nat.lt_of_lt_of_le (Nat.le_of_ble_eq_true rfl : 93 < 120) hE.1) (hE.2 _ _) (q := 95) rfl dX2_make_79 (pc' := 82) rfl ?_
        refine kj_iload_n dX2_make_82 (pc' := 83) rfl rfl rfl ?_
        obtain ⟨t8, ht8, hT⟩ := bind_some' hT
        refine kcVi (as := [.inl x3]) (st := [.inr 93]) l_RX2_53 (m_X4_at hE rfl σ x3 ht8) rfl (Nat.lt_of_lt_of_le (Nat.le_of_ble_eq_true rfl : 95 < 120) hE.1) rfl ⟨⟨rfl, rfl⟩, Nat.le_of_ble_eq_true rfl, Nat.le_of_ble_eq_true rfl⟩ (Nat.le_of_ble_eq_true rfl) dX2_make_83 (pc' := 86) rfl ?_
        refine kj_aload_n dX2_make_86 (pc' := 87) rfl rfl rfl ?_
        refine kj_getR f_RX2_9 rfl (Nat.lt_of_lt_of_le (Nat.le_of_ble_eq_true rfl : 103 < 120) hE.1) (hE.2 _ _) (q := 93) rfl dX2_make_87 (pc' := 90) rfl ?_
        refine kj_getR f_RX2_35 rfl (Nat.lt_of_lt_of_le (Nat.le_of_ble_eq_true rfl : 93 < 120) hE.1) (hE.2 _ _) (q := 95) rfl dX2_make_90 (pc' := 93) rfl ?_
        refine kj_iload_n dX2_make_93 (pc' := 94) rfl rfl rfl ?_
        obtain ⟨t9, ht9, hT⟩ := bind_some' hT
        refine kcVi (as := [.inl x2]) (st := [.inl t8, .inr 93]) l_RX2_53 (m_X4_at hE rfl σ x2 ht9) rfl (Nat.lt_of_lt_of_le (Nat.le_of_ble_eq_true rfl : 95 < 120) hE.1) rfl ⟨⟨rfl, rfl⟩, Nat.le_of_ble_eq_true rfl, Nat.le_of_ble_eq_true rfl⟩ (Nat.le_of_ble_eq_true rfl) dX2_make_94 (pc' := 97) rfl ?_
        obtain ⟨t10, ht10, hT⟩ := bind_some' hT
        refine kcVz (as := [.inl t8, .inl t9]) (st := []) l_RX2_57 (m_X0_isCover hE σ t8 t9 ht10) rfl (Nat.lt_of_lt_of_le (Nat.le_of_ble_eq_true rfl : 93 < 120) hE.1) rfl ⟨⟨rfl, rfl⟩, Nat.le_of_ble_eq_true rfl, Nat.le_of_ble_eq_true rfl⟩ (Nat.le_of_ble_eq_true rfl) dX2_make_97 (pc' := 100) rfl (fun z11 => ?_)
        refine kj_if_eq dX2_make_100 (tgt := 146) rfl (pc' := 103) rfl (fun c12 => ?_) (fun c12 => ?_)
        · rw [if_pos c12] at hT
          exact hJ146_58_66 x3 σ hT
        · rw [if_neg c12] at hT
          refine kj_aload_n dX2_make_103 (pc' := 104) rfl rfl rfl ?_
          refine kj_getR f_RX2_15 rfl (Nat.lt_of_lt_of_le (Nat.le_of_ble_eq_true rfl : 103 < 120) hE.1) (hE.2 _ _) (q := 104) rfl dX2_make_104 (pc' := 107) rfl ?_
          refine kj_iload_n dX2_make_107 (pc' := 108) rfl rfl rfl ?_
          refine kj_dup2 dX2_make_108 (pc' := 109) rfl ?_
          obtain ⟨hi13, hT⟩ := ckA_some hT
          refine kj_iald rfl (Nat.lt_of_lt_of_le (Nat.le_of_ble_eq_true rfl : 104 < 120) hE.1) hi13 rfl dX2_make_109 (pc' := 110) rfl ?_
          refine kj_iconst dX2_make_110 (pc' := 111) rfl kc_1 ?_
          refine kj_iadd dX2_make_111 (pc' := 112) rfl ?_
          obtain ⟨hi14, hT⟩ := ckA_some hT
          refine kj_iast rfl (Nat.lt_of_lt_of_le (Nat.le_of_ble_eq_true rfl : 104 < 120) hE.1) hi14 rfl dX2_make_112 (pc' := 113) rfl ?_
          refine kj_aload_n dX2_make_113 (pc' := 114) rfl rfl rfl ?_
          refine kj_getR f_RX2_19 rfl (Nat.lt_of_lt_of_le (Nat.le_of_ble_eq_true rfl : 103 < 120) hE.1) (hE.2 _ _) (q := 105) rfl dX2_make_114 (pc' := 117) rfl ?_
          refine kj_iload_n dX2_make_117 (pc' := 118) rfl rfl rfl ?_
          refine kj_dup2 dX2_make_118 (pc' := 119) rfl ?_
          obtain ⟨hi15, hT⟩ := ckA_some hT
          refine kj_iald rfl (Nat.lt_of_lt_of_le (Nat.le_of_ble_eq_true rfl : 105 < 120) hE.1) hi15 rfl dX2_make_119 (pc' := 120) rfl ?_
          refine kj_iconst dX2_make_120 (pc' := 121) rfl kc_1 ?_
          refine kj_iadd dX2_make_121 (pc' := 122) rfl ?_
          obtain ⟨hi16, hT⟩ := ckA_some hT
          refine kj_iast rfl (Nat.lt_of_lt_of_le (Nat.le_of_ble_eq_true rfl : 105 < 120) hE.1) hi16 rfl dX2_make_122 (pc' := 123) rfl ?_
          refine kj_aload_n dX2_make_123 (pc' := 124) rfl rfl rfl ?_
          refine kj_getR f_RX2_22 rfl (Nat.lt_of_lt_of_le (Nat.le_of_ble_eq_true rfl : 103 < 120) hE.1) (hE.2 _ _) (q := 106) rfl dX2_make_124 (pc' := 127) rfl ?_
          refine kj_iload_n dX2_make_127 (pc' := 128) rfl rfl rfl ?_
          refine kj_aload_n dX2_make_128 (pc' := 129) rfl rfl rfl ?_
          refine kj_getR f_RX2_22 rfl (Nat.lt_of_lt_of_le (Nat.le_of_ble_eq_true rfl : 103 < 120) hE.1) (hE.2 _ _) (q := 106) rfl dX2_make_129 (pc' := 132) rfl ?_
          refine kj_iload_n dX2_make_132 (pc' := 133) rfl rfl rfl ?_
          obtain ⟨hi17, hT⟩ := ckA_some hT
          refine kj_iald rfl (Nat.lt_of_lt_of_le (Nat.le_of_ble_eq_true rfl : 106 < 120) hE.1) hi17 rfl dX2_make_133 (pc' := 134) rfl ?_
          refine kj_aload_n dX2_make_134 (pc' := 135) rfl rfl rfl ?_
          refine kj_getR f_RX2_22 rfl (Nat.lt_of_lt_of_le (Nat.le_of_ble_eq_true rfl : 103 < 120) hE.1) (hE.2 _ _) (q := 106) rfl dX2_make_135 (pc' := 138) rfl ?_
          refine kj_iload_n dX2_make_138 (pc' := 139) rfl rfl rfl ?_
          obtain ⟨hi18, hT⟩ := ckA_some hT
          refine kj_iald rfl (Nat.lt_of_lt_of_le (Nat.le_of_ble_eq_true rfl : 106 < 120) hE.1) hi18 rfl dX2_make_139 (pc' := 140) rfl ?_
          refine kj_iconst dX2_make_140 (pc' := 141) rfl kc_1 ?_
          refine kj_iadd dX2_make_141 (pc' := 142) rfl ?_
          refine kcSi (as := [.inl ((up (up σ 104 x2.toNatClampNeg ((σ 104 x2.toNatClampNeg) + 1)) 105 x3.toNatClampNeg (((up σ 104 x2.toNatClampNeg ((σ 104 x2.toNatClampNeg) + 1)) 105 x3.toNatClampNeg) + 1)) 106 x2.toNatClampNeg), .inl (((up (up σ 104 x2.toNatClampNeg ((σ 104 x2.toNatClampNeg) + 1)) 105 x3.toNatClampNeg (((up σ 104 x2.toNatClampNeg ((σ 104 x2.toNatClampNeg) + 1)) 105 x3.toNatClampNeg) + 1)) 106 x3.toNatClampNeg) + 1)]) (st := [.inl x2, .inr 106]) l_RX2_61 (m_J9_max_7cf53 (Nat.zero_le _) (up (up σ 104 x2.toNatClampNeg ((σ 104 x2.toNatClampNeg) + 1)) 105 x3.toNatClampNeg (((up σ 104 x2.toNatClampNeg ((σ 104 x2.toNatClampNeg) + 1)) 105 x3.toNatClampNeg) + 1)) ((up (up σ 104 x2.toNatClampNeg ((σ 104 x2.toNatClampNeg) + 1)) 105 x3.toNatClampNeg (((up σ 104 x2.toNatClampNeg ((σ 104 x2.toNatClampNeg) + 1)) 105 x3.toNatClampNeg) + 1)) 106 x2.toNatClampNeg) (((up (up σ 104 x2.toNatClampNeg ((σ 104 x2.toNatClampNeg) + 1)) 105 x3.toNatClampNeg (((up σ 104 x2.toNatClampNeg ((σ 104 x2.toNatClampNeg) + 1)) 105 x3.toNatClampNeg) + 1)) 106 x3.toNatClampNeg) + 1) rfl) rfl ⟨⟨rfl, rfl⟩, Nat.le_of_ble_eq_true rfl, Nat.le_of_ble_eq_true rfl⟩ (Nat.le_of_ble_eq_true rfl) dX2_make_142 (pc' := 145) rfl ?_
          obtain ⟨hi19, hT⟩ := ckA_some hT
          refine kj_iast rfl (Nat.lt_of_lt_of_le (Nat.le_of_ble_eq_true rfl : 106 < 120) hE.1) hi19 rfl dX2_make_145 (pc' := 146) rfl ?_
          exact hJ146_58_66 x3 (up (up (up σ 104 x2.toNatClampNeg ((σ 104 x2.toNatClampNeg) + 1)) 105 x3.toNatClampNeg (((up σ 104 x2.toNatClampNeg ((σ 104 x2.toNatClampNeg) + 1)) 105 x3.toNatClampNeg) + 1)) 106 x2.toNatClampNeg (J9_max_7cf53 ((up (up σ 104 x2.toNatClampNeg ((σ 104 x2.toNatClampNeg) + 1)) 105 x3.toNatClampNeg (((up σ 104 x2.toNatClampNeg ((σ 104 x2.toNatClampNeg) + 1)) 105 x3.toNatClampNeg) + 1)) 106 x2.toNatClampNeg) (((up (up σ 104 x2.toNatClampNeg ((σ 104 x2.toNatClampNeg) + 1)) 105 x3.toNatClampNeg (((up σ 104 x2.toNatClampNeg ((σ 104 x2.toNatClampNeg) + 1)) 105 x3.toNatClampNeg) + 1)) 106 x3.toNatClampNeg) + 1))) hT
  · rw [if_neg c1] at hT
    have hR := Option.some.inj hT
    subst hR
    exact kj_vret rfl dX2_make_7 (by subst hQ; exact ⟨rfl, rfl⟩)
def X2_coversOf (σ : Wd) (x1 : Int32) (x2 : Int32) : Option (Int32 × Wd) :=
  ((X2_make σ).bind fun σ1 => (if x1 < 0 then some ((-1), σ1) else (if (σ1 95 1) ≤ x1 then some ((-1), σ1) else (if x1 < 128 then (if x2 = 0 then (ckA x1 128 <| some (σ1 105 x1.toNatClampNeg, σ1)) else (ckA x1 128 <| some (σ1 104 x1.toNatClampNeg, σ1))) else some ((-1), σ1)))))
set_option maxRecDepth 100000 in
set_option maxHeartbeats 4000000 in
theorem m_X2_coversOf {E : JE} (hE : kOk 120 E) (σ : Wd) (x1 : Int32) (x2 : Int32) {res : Int32 × Wd} (hT : X2_coversOf σ x1 x2 = some res) : kMt E yX2_coversOf mX2_coversOf rmX2_coversOf [.inr 103, .inl x1, .inl x2] σ (kQi res.1 res.2) := by
  refine kMt_of (by decide +kernel) rfl (Nat.le_of_ble_eq_true rfl) ?_
  generalize hQ : (kQi res.1 res.2) = Q
  show KJ E mX2_coversOf rmX2_coversOf 0 [some (.inr 103), some (.inl x1), some (.inl x2)] [] σ Q
  unfold X2_coversOf at hT
  refine kj_aload_n dX2_coversOf_0 (pc' := 1) rfl rfl rfl ?_
  obtain ⟨σ1, hσ1, hT⟩ := bind_some' hT
  refine kcVv (as := []) (st := []) l_RX2_64 (m_X2_make hE σ hσ1) rfl (Nat.lt_of_lt_of_le (Nat.le_of_ble_eq_true rfl : 103 < 120) hE.1) rfl ⟨⟨rfl, rfl⟩, Nat.le_of_ble_eq_true rfl, Nat.le_of_ble_eq_true rfl⟩ (Nat.le_of_ble_eq_true rfl) dX2_coversOf_1 (pc' := 4) rfl ?_
  refine kj_iload_n dX2_coversOf_4 (pc' := 5) rfl rfl rfl ?_
  refine kj_if_lt dX2_coversOf_5 (tgt := 29) rfl (pc' := 8) rfl (fun c2 => ?_) (fun c2 => ?_)
  · rw [if_pos c2] at hT
    refine kj_iconst dX2_coversOf_29 (pc' := 30) rfl kc_m1 ?_
    have hR := Option.some.inj hT
    subst hR
    exact kj_iret rfl dX2_coversOf_30 (by subst hQ; exact ⟨rfl, rfl⟩)
  · rw [if_neg c2] at hT
    refine kj_iload_n dX2_coversOf_8 (pc' := 9) rfl rfl rfl ?_
    refine kj_aload_n dX2_coversOf_9 (pc' := 10) rfl rfl rfl ?_
    refine kj_getR f_RX2_9 rfl (Nat.lt_of_lt_of_le (Nat.le_of_ble_eq_true rfl : 103 < 120) hE.1) (hE.2 _ _) (q := 93) rfl dX2_coversOf_10 (pc' := 13) rfl ?_
    refine kj_getR f_RX2_35 rfl (Nat.lt_of_lt_of_le (Nat.le_of_ble_eq_true rfl : 93 < 120) hE.1) (hE.2 _ _) (q := 95) rfl dX2_coversOf_13 (pc' := 16) rfl ?_
    refine kj_getI f_RX2_41 rfl (Nat.lt_of_lt_of_le (Nat.le_of_ble_eq_true rfl : 95 < 120) hE.1) dX2_coversOf_16 (pc' := 19) rfl ?_
    refine kj_icmp_ge dX2_coversOf_19 (tgt := 29) rfl (pc' := 22) rfl (fun c3 => ?_) (fun c3 => ?_)
    · rw [if_pos c3] at hT
      refine kj_iconst dX2_coversOf_29 (pc' := 30) rfl kc_m1 ?_
      have hR := Option.some.inj hT
      subst hR
      exact kj_iret rfl dX2_coversOf_30 (by subst hQ; exact ⟨rfl, rfl⟩)
    · rw [if_neg c3] at hT
      refine kj_iload_n dX2_coversOf_22 (pc' := 23) rfl rfl rfl ?_
      refine kj_sipush dX2_coversOf_23 (pc' := 26) rfl ks_128 ?_
      refine kj_icmp_lt dX2_coversOf_26 (tgt := 31) rfl (pc' := 29) rfl (fun c4 => ?_) (fun c4 => ?_)
      · rw [if_pos c4] at hT
        refine kj_iload_n dX2_coversOf_31 (pc' := 32) rfl rfl rfl ?_
        refine kj_if_eq dX2_coversOf_32 (tgt := 44) rfl (pc' := 35) rfl (fun c5 => ?_) (fun c5 => ?_)
        · rw [if_pos c5] at hT
          refine kj_aload_n dX2_coversOf_44 (pc' := 45) rfl rfl rfl ?_
          refine kj_getR f_RX2_19 rfl (Nat.lt_of_lt_of_le (Nat.le_of_ble_eq_true rfl : 103 < 120) hE.1) (hE.2 _ _) (q := 105) rfl dX2_coversOf_45 (pc' := 48) rfl ?_
          refine kj_iload_n dX2_coversOf_48 (pc' := 49) rfl rfl rfl ?_
          obtain ⟨hi6, hT⟩ := ckA_some hT
          refine kj_iald rfl (Nat.lt_of_lt_of_le (Nat.le_of_ble_eq_true rfl : 105 < 120) hE.1) hi6 rfl dX2_coversOf_49 (pc' := 50) rfl ?_
          have hR := Option.some.inj hT
          subst hR
          exact kj_iret rfl dX2_coversOf_50 (by subst hQ; exact ⟨rfl, rfl⟩)
        · rw [if_neg c5] at hT
          refine kj_aload_n dX2_coversOf_35 (pc' := 36) rfl rfl rfl ?_
          refine kj_getR f_RX2_15 rfl (Nat.lt_of_lt_of_le (Nat.le_of_ble_eq_true rfl : 103 < 120) hE.1) (hE.2 _ _) (q := 104) rfl dX2_coversOf_36 (pc' := 39) rfl ?_
          refine kj_iload_n dX2_coversOf_39 (pc' := 40) rfl rfl rfl ?_
          obtain ⟨hi7, hT⟩ := ckA_some hT
          refine kj_iald rfl (Nat.lt_of_lt_of_le (Nat.le_of_ble_eq_true rfl : 104 < 120) hE.1) hi7 rfl dX2_coversOf_40 (pc' := 41) rfl ?_
          refine kj_goto dX2_coversOf_41 (pc' := 50) rfl ?_
          have hR := Option.some.inj hT
          subst hR
          exact kj_iret rfl dX2_coversOf_50 (by subst hQ; exact ⟨rfl, rfl⟩)
      · rw [if_neg c4] at hT
        refine kj_iconst dX2_coversOf_29 (pc' := 30) rfl kc_m1 ?_
        have hR := Option.some.inj hT
        subst hR
        exact kj_iret rfl dX2_coversOf_30 (by subst hQ; exact ⟨rfl, rfl⟩)
def X2_riseOf (σ : Wd) (x1 : Int32) : Option (Int32) :=
  (if x1 < 0 then some 0 else (if 128 ≤ x1 then some 0 else (ckA x1 128 <| some (σ 106 x1.toNatClampNeg))))
set_option maxRecDepth 100000 in
set_option maxHeartbeats 4000000 in
theorem m_X2_riseOf {E : JE} (hE : kOk 120 E) (σ : Wd) (x1 : Int32) {res : Int32} (hT : X2_riseOf σ x1 = some res) : kMt E yX2_riseOf mX2_riseOf rmX2_riseOf [.inr 103, .inl x1] σ (kQi res σ) := by
  refine kMt_of (by decide +kernel) rfl (Nat.le_of_ble_eq_true rfl) ?_
  generalize hQ : (kQi res σ) = Q
  show KJ E mX2_riseOf rmX2_riseOf 0 [some (.inr 103), some (.inl x1)] [] σ Q
  unfold X2_riseOf at hT
  refine kj_iload_n dX2_riseOf_0 (pc' := 1) rfl rfl rfl ?_
  refine kj_if_lt dX2_riseOf_1 (tgt := 22) rfl (pc' := 4) rfl (fun c1 => ?_) (fun c1 => ?_)
  · rw [if_pos c1] at hT
    refine kj_iconst dX2_riseOf_22 (pc' := 23) rfl kc_0 ?_
    have hR := Option.some.inj hT
    subst hR
    exact kj_iret rfl dX2_riseOf_23 (by subst hQ; exact ⟨rfl, rfl⟩)
  · rw [if_neg c1] at hT
    refine kj_iload_n dX2_riseOf_4 (pc' := 5) rfl rfl rfl ?_
    refine kj_aload_n dX2_riseOf_5 (pc' := 6) rfl rfl rfl ?_
    refine kj_getR f_RX2_22 rfl (Nat.lt_of_lt_of_le (Nat.le_of_ble_eq_true rfl : 103 < 120) hE.1) (hE.2 _ _) (q := 106) rfl dX2_riseOf_6 (pc' := 9) rfl ?_
    refine kj_alen (n := 0) (v := 128) 0 (ty := .int) rfl (by decide) rfl (Nat.lt_of_lt_of_le (Nat.le_of_ble_eq_true rfl : 106 < 120) hE.1) (by decide +kernel) dX2_riseOf_9 (pc' := 10) rfl ?_
    refine kj_icmp_ge dX2_riseOf_10 (tgt := 22) rfl (pc' := 13) rfl (fun c2 => ?_) (fun c2 => ?_)
    · rw [if_pos c2] at hT
      refine kj_iconst dX2_riseOf_22 (pc' := 23) rfl kc_0 ?_
      have hR := Option.some.inj hT
      subst hR
      exact kj_iret rfl dX2_riseOf_23 (by subst hQ; exact ⟨rfl, rfl⟩)
    · rw [if_neg c2] at hT
      refine kj_aload_n dX2_riseOf_13 (pc' := 14) rfl rfl rfl ?_
      refine kj_getR f_RX2_22 rfl (Nat.lt_of_lt_of_le (Nat.le_of_ble_eq_true rfl : 103 < 120) hE.1) (hE.2 _ _) (q := 106) rfl dX2_riseOf_14 (pc' := 17) rfl ?_
      refine kj_iload_n dX2_riseOf_17 (pc' := 18) rfl rfl rfl ?_
      obtain ⟨hi3, hT⟩ := ckA_some hT
      refine kj_iald rfl (Nat.lt_of_lt_of_le (Nat.le_of_ble_eq_true rfl : 106 < 120) hE.1) hi3 rfl dX2_riseOf_18 (pc' := 19) rfl ?_
      refine kj_goto dX2_riseOf_19 (pc' := 23) rfl ?_
      have hR := Option.some.inj hT
      subst hR
      exact kj_iret rfl dX2_riseOf_23 (by subst hQ; exact ⟨rfl, rfl⟩)
def X2_height (σ : Wd) : Option (Int32 × Wd) :=
  ((X2_make σ).bind fun σ1 => ((X2_riseOf σ1 0).bind fun t2 => some (t2, σ1)))
set_option maxRecDepth 100000 in
set_option maxHeartbeats 4000000 in
theorem m_X2_height {E : JE} (hE : kOk 120 E) (σ : Wd) {res : Int32 × Wd} (hT : X2_height σ = some res) : kMt E yX2_height mX2_height rmX2_height [.inr 103] σ (kQi res.1 res.2) := by
  refine kMt_of (by decide +kernel) rfl (Nat.le_of_ble_eq_true rfl) ?_
  generalize hQ : (kQi res.1 res.2) = Q
  show KJ E mX2_height rmX2_height 0 [some (.inr 103)] [] σ Q
  unfold X2_height at hT
  refine kj_aload_n dX2_height_0 (pc' := 1) rfl rfl rfl ?_
  obtain ⟨σ1, hσ1, hT⟩ := bind_some' hT
  refine kcVv (as := []) (st := []) l_RX2_64 (m_X2_make hE σ hσ1) rfl (Nat.lt_of_lt_of_le (Nat.le_of_ble_eq_true rfl : 103 < 120) hE.1) rfl ⟨⟨rfl, rfl⟩, Nat.le_of_ble_eq_true rfl, Nat.le_of_ble_eq_true rfl⟩ (Nat.le_of_ble_eq_true rfl) dX2_height_1 (pc' := 4) rfl ?_
  refine kj_aload_n dX2_height_4 (pc' := 5) rfl rfl rfl ?_
  refine kj_iconst dX2_height_5 (pc' := 6) rfl kc_0 ?_
  obtain ⟨t2, ht2, hT⟩ := bind_some' hT
  refine kcVi (as := [.inl 0]) (st := []) l_RX2_67 (m_X2_riseOf hE σ1 0 ht2) rfl (Nat.lt_of_lt_of_le (Nat.le_of_ble_eq_true rfl : 103 < 120) hE.1) rfl ⟨⟨rfl, rfl⟩, Nat.le_of_ble_eq_true rfl, Nat.le_of_ble_eq_true rfl⟩ (Nat.le_of_ble_eq_true rfl) dX2_height_6 (pc' := 9) rfl ?_
  have hR := Option.some.inj hT
  subst hR
  exact kj_iret rfl dX2_height_9 (by subst hQ; exact ⟨rfl, rfl⟩)
def X2_pairs_B8 (σ1 : Wd) (rec8 : Int32 × Int32 → Option (Int32 × Wd)) : Int32 × Int32 → Option (Int32 × Wd)
  | (x1, x2) => (if 128 ≤ x2 then some (x1, σ1) else (ckA x2 128 <| rec8 (x1 + (σ1 104 x2.toNatClampNeg), x2 + 1)))
def X2_pairs (σ : Wd) : Option (Int32 × Wd) :=
  ((X2_make σ).bind fun σ1 => (lp (X2_pairs_B8 σ1) FU (0, 0)))
set_option maxRecDepth 100000 in
set_option maxHeartbeats 4000000 in
theorem m_X2_pairs {E : JE} (hE : kOk 120 E) (σ : Wd) {res : Int32 × Wd} (hT : X2_pairs σ = some res) : kMt E yX2_pairs mX2_pairs rmX2_pairs [.inr 103] σ (kQi res.1 res.2) := by
  refine kMt_of (by decide +kernel) rfl (Nat.le_of_ble_eq_true rfl) ?_
  generalize hQ : (kQi res.1 res.2) = Q
  show KJ E mX2_pairs rmX2_pairs 0 [some (.inr 103)] [] σ Q
  unfold X2_pairs at hT
  refine kj_aload_n dX2_pairs_0 (pc' := 1) rfl rfl rfl ?_
  obtain ⟨σ1, hσ1, hT⟩ := bind_some' hT
  refine kcVv (as := []) (st := []) l_RX2_64 (m_X2_make hE σ hσ1) rfl (Nat.lt_of_lt_of_le (Nat.le_of_ble_eq_true rfl : 103 < 120) hE.1) rfl ⟨⟨rfl, rfl⟩, Nat.le_of_ble_eq_true rfl, Nat.le_of_ble_eq_true rfl⟩ (Nat.le_of_ble_eq_true rfl) dX2_pairs_1 (pc' := 4) rfl ?_
  refine kj_iconst dX2_pairs_4 (pc' := 5) rfl kc_0 ?_
  refine kj_istore_n dX2_pairs_5 (pc' := 6) rfl rfl (Nat.le_of_ble_eq_true rfl) (ls' := [some (.inr 103), some (.inl 0)]) rfl ?_
  refine kj_iconst dX2_pairs_6 (pc' := 7) rfl kc_0 ?_
  refine kj_istore_n dX2_pairs_7 (pc' := 8) rfl rfl (Nat.le_of_ble_eq_true rfl) (ls' := [some (.inr 103), some (.inl 0), some (.inl 0)]) rfl ?_
  refine lp_ind (P := fun s => KJ E mX2_pairs rmX2_pairs 8 [some (.inr 103), some (.inl s.1), some (.inl s.2)] [] σ1 Q) (fun rec8 s ih8 hT => ?_) FU (0, 0) hT
  obtain ⟨x1, x2⟩ := s
  show KJ E mX2_pairs rmX2_pairs 8 [some (.inr 103), some (.inl x1), some (.inl x2)] [] σ1 Q
  rw [X2_pairs_B8] at hT
  refine kj_iload_n dX2_pairs_8 (pc' := 9) rfl rfl rfl ?_
  refine kj_aload_n dX2_pairs_9 (pc' := 10) rfl rfl rfl ?_
  refine kj_getR f_RX2_15 rfl (Nat.lt_of_lt_of_le (Nat.le_of_ble_eq_true rfl : 103 < 120) hE.1) (hE.2 _ _) (q := 104) rfl dX2_pairs_10 (pc' := 13) rfl ?_
  refine kj_alen (n := 0) (v := 128) 0 (ty := .int) rfl (by decide) rfl (Nat.lt_of_lt_of_le (Nat.le_of_ble_eq_true rfl : 104 < 120) hE.1) (by decide +kernel) dX2_pairs_13 (pc' := 14) rfl ?_
  refine kj_icmp_ge dX2_pairs_14 (tgt := 32) rfl (pc' := 17) rfl (fun c2 => ?_) (fun c2 => ?_)
  · rw [if_pos c2] at hT
    refine kj_iload_n dX2_pairs_32 (pc' := 33) rfl rfl rfl ?_
    have hR := Option.some.inj hT
    subst hR
    exact kj_iret rfl dX2_pairs_33 (by subst hQ; exact ⟨rfl, rfl⟩)
  · rw [if_neg c2] at hT
    refine kj_iload_n dX2_pairs_17 (pc' := 18) rfl rfl rfl ?_
    refine kj_aload_n dX2_pairs_18 (pc' := 19) rfl rfl rfl ?_
    refine kj_getR f_RX2_15 rfl (Nat.lt_of_lt_of_le (Nat.le_of_ble_eq_true rfl : 103 < 120) hE.1) (hE.2 _ _) (q := 104) rfl dX2_pairs_19 (pc' := 22) rfl ?_
    refine kj_iload_n dX2_pairs_22 (pc' := 23) rfl rfl rfl ?_
    obtain ⟨hi3, hT⟩ := ckA_some hT
    refine kj_iald rfl (Nat.lt_of_lt_of_le (Nat.le_of_ble_eq_true rfl : 104 < 120) hE.1) hi3 rfl dX2_pairs_23 (pc' := 24) rfl ?_
    refine kj_iadd dX2_pairs_24 (pc' := 25) rfl ?_
    refine kj_istore_n dX2_pairs_25 (pc' := 26) rfl rfl (Nat.le_of_ble_eq_true rfl) (ls' := [some (.inr 103), some (.inl (x1 + (σ1 104 x2.toNatClampNeg))), some (.inl x2)]) rfl ?_
    refine kj_iinc dX2_pairs_26 (pc' := 29) rfl rfl (congrArg (_ + ·) kc_1) (Nat.le_of_ble_eq_true rfl) (ls' := [some (.inr 103), some (.inl (x1 + (σ1 104 x2.toNatClampNeg))), some (.inl (x2 + 1))]) rfl ?_
    refine kj_goto dX2_pairs_29 (pc' := 8) rfl ?_
    exact ih8 (x1 + (σ1 104 x2.toNatClampNeg), x2 + 1) hT
def X2_coveredOnce_J46 (rec8 : Int32 × Int32 → Option (Int32 × Wd)) (y1 : Int32) (y2 : Int32) : Option (Int32 × Wd) :=
  rec8 (y1, y2 + 1)
def X2_coveredOnce_B8 (σ1 : Wd) (rec8 : Int32 × Int32 → Option (Int32 × Wd)) : Int32 × Int32 → Option (Int32 × Wd)
  | (x1, x2) => (if (σ1 95 1) ≤ (x2 + 1) then some (x1, σ1) else (if 128 ≤ x2 then some (x1, σ1) else (ckA x2 128 <| (if (σ1 104 x2.toNatClampNeg) = 1 then X2_coveredOnce_J46 rec8 (x1 + 1) x2 else X2_coveredOnce_J46 rec8 x1 x2))))
def X2_coveredOnce (σ : Wd) : Option (Int32 × Wd) :=
  ((X2_make σ).bind fun σ1 => (lp (X2_coveredOnce_B8 σ1) FU (0, 0)))
set_option maxRecDepth 100000 in
set_option maxHeartbeats 4000000 in
theorem m_X2_coveredOnce {E : JE} (hE : kOk 120 E) (σ : Wd) {res : Int32 × Wd} (hT : X2_coveredOnce σ = some res) : kMt E yX2_coveredOnce mX2_coveredOnce rmX2_coveredOnce [.inr 103] σ (kQi res.1 res.2) := by
  refine kMt_of (by decide +kernel) rfl (Nat.le_of_ble_eq_true rfl) ?_
  generalize hQ : (kQi res.1 res.2) = Q
  show KJ E mX2_coveredOnce rmX2_coveredOnce 0 [some (.inr 103)] [] σ Q
  unfold X2_coveredOnce at hT
  refine kj_aload_n dX2_coveredOnce_0 (pc' := 1) rfl rfl rfl ?_
  obtain ⟨σ1, hσ1, hT⟩ := bind_some' hT
  refine kcVv (as := []) (st := []) l_RX2_64 (m_X2_make hE σ hσ1) rfl (Nat.lt_of_lt_of_le (Nat.le_of_ble_eq_true rfl : 103 < 120) hE.1) rfl ⟨⟨rfl, rfl⟩, Nat.le_of_ble_eq_true rfl, Nat.le_of_ble_eq_true rfl⟩ (Nat.le_of_ble_eq_true rfl) dX2_coveredOnce_1 (pc' := 4) rfl ?_
  refine kj_iconst dX2_coveredOnce_4 (pc' := 5) rfl kc_0 ?_
  refine kj_istore_n dX2_coveredOnce_5 (pc' := 6) rfl rfl (Nat.le_of_ble_eq_true rfl) (ls' := [some (.inr 103), some (.inl 0)]) rfl ?_
  refine kj_iconst dX2_coveredOnce_6 (pc' := 7) rfl kc_0 ?_
  refine kj_istore_n dX2_coveredOnce_7 (pc' := 8) rfl rfl (Nat.le_of_ble_eq_true rfl) (ls' := [some (.inr 103), some (.inl 0), some (.inl 0)]) rfl ?_
  refine lp_ind (P := fun s => KJ E mX2_coveredOnce rmX2_coveredOnce 8 [some (.inr 103), some (.inl s.1), some (.inl s.2)] [] σ1 Q) (fun rec8 s ih8 hT => ?_) FU (0, 0) hT
  obtain ⟨x1, x2⟩ := s
  show KJ E mX2_coveredOnce rmX2_coveredOnce 8 [some (.inr 103), some (.inl x1), some (.inl x2)] [] σ1 Q
  rw [X2_coveredOnce_B8] at hT
  have hJ46_8 : ∀ y1 y2, X2_coveredOnce_J46 rec8 y1 y2 = some res → KJ E mX2_coveredOnce rmX2_coveredOnce 46 [some (.inr 103), some (.inl y1), some (.inl y2)] [] σ1 Q := by
    intro y1 y2 hT
    unfold X2_coveredOnce_J46 at hT
    refine kj_iinc dX2_coveredOnce_46 (pc' := 49) rfl rfl (congrArg (_ + ·) kc_1) (Nat.le_of_ble_eq_true rfl) (ls' := [some (.inr 103), some (.inl y1), some (.inl (y2 + 1))]) rfl ?_
    refine kj_goto dX2_coveredOnce_49 (pc' := 8) rfl ?_
    exact ih8 (y1, y2 + 1) hT
  refine kj_iload_n dX2_coveredOnce_8 (pc' := 9) rfl rfl rfl ?_
  refine kj_iconst dX2_coveredOnce_9 (pc' := 10) rfl kc_1 ?_
  refine kj_iadd dX2_coveredOnce_10 (pc' := 11) rfl ?_
  refine kj_aload_n dX2_coveredOnce_11 (pc' := 12) rfl rfl rfl ?_
  refine kj_getR f_RX2_9 rfl (Nat.lt_of_lt_of_le (Nat.le_of_ble_eq_true rfl : 103 < 120) hE.1) (hE.2 _ _) (q := 93) rfl dX2_coveredOnce_12 (pc' := 15) rfl ?_
  refine kj_getR f_RX2_35 rfl (Nat.lt_of_lt_of_le (Nat.le_of_ble_eq_true rfl : 93 < 120) hE.1) (hE.2 _ _) (q := 95) rfl dX2_coveredOnce_15 (pc' := 18) rfl ?_
  refine kj_getI f_RX2_41 rfl (Nat.lt_of_lt_of_le (Nat.le_of_ble_eq_true rfl : 95 < 120) hE.1) dX2_coveredOnce_18 (pc' := 21) rfl ?_
  refine kj_icmp_ge dX2_coveredOnce_21 (tgt := 52) rfl (pc' := 24) rfl (fun c2 => ?_) (fun c2 => ?_)
  · rw [if_pos c2] at hT
    refine kj_iload_n dX2_coveredOnce_52 (pc' := 53) rfl rfl rfl ?_
    have hR := Option.some.inj hT
    subst hR
    exact kj_iret rfl dX2_coveredOnce_53 (by subst hQ; exact ⟨rfl, rfl⟩)
  · rw [if_neg c2] at hT
    refine kj_iload_n dX2_coveredOnce_24 (pc' := 25) rfl rfl rfl ?_
    refine kj_aload_n dX2_coveredOnce_25 (pc' := 26) rfl rfl rfl ?_
    refine kj_getR f_RX2_15 rfl (Nat.lt_of_lt_of_le (Nat.le_of_ble_eq_true rfl : 103 < 120) hE.1) (hE.2 _ _) (q := 104) rfl dX2_coveredOnce_26 (pc' := 29) rfl ?_
    refine kj_alen (n := 0) (v := 128) 0 (ty := .int) rfl (by decide) rfl (Nat.lt_of_lt_of_le (Nat.le_of_ble_eq_true rfl : 104 < 120) hE.1) (by decide +kernel) dX2_coveredOnce_29 (pc' := 30) rfl ?_
    refine kj_icmp_ge dX2_coveredOnce_30 (tgt := 52) rfl (pc' := 33) rfl (fun c3 => ?_) (fun c3 => ?_)
    · rw [if_pos c3] at hT
      refine kj_iload_n dX2_coveredOnce_52 (pc' := 53) rfl rfl rfl ?_
      have hR := Option.some.inj hT
      subst hR
      exact kj_iret rfl dX2_coveredOnce_53 (by subst hQ; exact ⟨rfl, rfl⟩)
    · rw [if_neg c3] at hT
      refine kj_aload_n dX2_coveredOnce_33 (pc' := 34) rfl rfl rfl ?_
      refine kj_getR f_RX2_15 rfl (Nat.lt_of_lt_of_le (Nat.le_of_ble_eq_true rfl : 103 < 120) hE.1) (hE.2 _ _) (q := 104) rfl dX2_coveredOnce_34 (pc' := 37) rfl ?_
      refine kj_iload_n dX2_coveredOnce_37 (pc' := 38) rfl rfl rfl ?_
      obtain ⟨hi4, hT⟩ := ckA_some hT
      refine kj_iald rfl (Nat.lt_of_lt_of_le (Nat.le_of_ble_eq_true rfl : 104 < 120) hE.1) hi4 rfl dX2_coveredOnce_38 (pc' := 39) rfl ?_
      refine kj_iconst dX2_coveredOnce_39 (pc' := 40) rfl kc_1 ?_
      refine kj_icmp_ne dX2_coveredOnce_40 (tgt := 46) rfl (pc' := 43) rfl (fun c5 => ?_) (fun c5 => ?_)
      · rw [if_neg c5] at hT
        exact hJ46_8 x1 x2 hT
      · rw [if_pos c5] at hT
        refine kj_iinc dX2_coveredOnce_43 (pc' := 46) rfl rfl (congrArg (_ + ·) kc_1) (Nat.le_of_ble_eq_true rfl) (ls' := [some (.inr 103), some (.inl (x1 + 1)), some (.inl x2)]) rfl ?_
        exact hJ46_8 (x1 + 1) x2 hT
def X2_firstStepUp_J77 (rec4 : Int32 → Option (Int32)) (y2 : Int32) : Option (Int32) :=
  rec4 (y2 + 1)
def X2_firstStepUp_J39 (rec4 : Int32 → Option (Int32)) (σ : Wd) (x1 : Int32) (y2 : Int32) (y3 : Int32) : Option (Int32) :=
  (if y3 = 0 then X2_firstStepUp_J77 rec4 y2 else ((X4_at σ 95 y2).bind fun t7 => ((X4_at σ 95 x1).bind fun t8 => ((X0_isCover σ t7 t8).bind fun t9 => (if t9 = 0 then X2_firstStepUp_J77 rec4 y2 else some y2)))))
def X2_firstStepUp_B4 (σ : Wd) (x1 : Int32) (rec4 : Int32 → Option (Int32)) : Int32 → Option (Int32)
  | (x2) => (if (σ 95 1) ≤ x2 then some x1 else ((X2_riseOf σ x2).bind fun t3 => ((X2_riseOf σ x1).bind fun t4 => (if (t3 + 1) = t4 then X2_firstStepUp_J39 rec4 σ x1 x2 1 else X2_firstStepUp_J39 rec4 σ x1 x2 0))))
def X2_firstStepUp (σ : Wd) (x1 : Int32) : Option (Int32) :=
  (lp (X2_firstStepUp_B4 σ x1) FU (x1 + 1))
set_option maxRecDepth 100000 in
set_option maxHeartbeats 4000000 in
theorem m_X2_firstStepUp {E : JE} (hE : kOk 120 E) (σ : Wd) (x1 : Int32) {res : Int32} (hT : X2_firstStepUp σ x1 = some res) : kMt E yX2_firstStepUp mX2_firstStepUp rmX2_firstStepUp [.inr 103, .inl x1] σ (kQi res σ) := by
  refine kMt_of (by decide +kernel) rfl (Nat.le_of_ble_eq_true rfl) ?_
  generalize hQ : (kQi res σ) = Q
  show KJ E mX2_firstStepUp rmX2_firstStepUp 0 [some (.inr 103), some (.inl x1)] [] σ Q
  unfold X2_firstStepUp at hT
  refine kj_iload_n dX2_firstStepUp_0 (pc' := 1) rfl rfl rfl ?_
  refine kj_iconst dX2_firstStepUp_1 (pc' := 2) rfl kc_1 ?_
  refine kj_iadd dX2_firstStepUp_2 (pc' := 3) rfl ?_
  refine kj_istore_n dX2_firstStepUp_3 (pc' := 4) rfl rfl (Nat.le_of_ble_eq_true rfl) (ls' := [some (.inr 103), some (.inl x1), some (.inl (x1 + 1))]) rfl ?_
  refine lp_ind (P := fun s => KJ E mX2_firstStepUp rmX2_firstStepUp 4 [some (.inr 103), some (.inl x1), some (.inl s)] [] σ Q) (fun rec4 s ih4 hT => ?_) FU (x1 + 1) hT
  obtain ⟨x2, hs⟩ : ∃ z, z = s := ⟨_, rfl⟩
  subst hs
  show KJ E mX2_firstStepUp rmX2_firstStepUp 4 [some (.inr 103), some (.inl x1), some (.inl x2)] [] σ Q
  rw [X2_firstStepUp_B4] at hT
  have hJ77_4 : ∀ y2, X2_firstStepUp_J77 rec4 y2 = some res → KJ E mX2_firstStepUp rmX2_firstStepUp 77 [some (.inr 103), some (.inl x1), some (.inl y2)] [] σ Q := by
    intro y2 hT
    unfold X2_firstStepUp_J77 at hT
    refine kj_iinc dX2_firstStepUp_77 (pc' := 80) rfl rfl (congrArg (_ + ·) kc_1) (Nat.le_of_ble_eq_true rfl) (ls' := [some (.inr 103), some (.inl x1), some (.inl (y2 + 1))]) rfl ?_
    refine kj_goto dX2_firstStepUp_80 (pc' := 4) rfl ?_
    exact ih4 (y2 + 1) hT
  have hJ39_4 : ∀ y2 y3, X2_firstStepUp_J39 rec4 σ x1 y2 y3 = some res → KJ E mX2_firstStepUp rmX2_firstStepUp 39 [some (.inr 103), some (.inl x1), some (.inl y2), some (.inl y3)] [] σ Q := by
    intro y2 y3 hT
    unfold X2_firstStepUp_J39 at hT
    refine kj_iload_n dX2_firstStepUp_39 (pc' := 40) rfl rfl rfl ?_
    refine kj_if_eq dX2_firstStepUp_40 (tgt := 77) rfl (pc' := 43) rfl (fun c6 => ?_) (fun c6 => ?_)
    · rw [if_pos c6] at hT
      refine kj_keep [true, true, true] (ls' := [some (.inr 103), some (.inl x1), some (.inl y2)]) rfl ?_
      exact hJ77_4 y2 hT
    · rw [if_neg c6] at hT
      refine kj_aload_n dX2_firstStepUp_43 (pc' := 44) rfl rfl rfl ?_
      refine kj_getR f_RX2_9 rfl (Nat.lt_of_lt_of_le (Nat.le_of_ble_eq_true rfl : 103 < 120) hE.1) (hE.2 _ _) (q := 93) rfl dX2_firstStepUp_44 (pc' := 47) rfl ?_
      refine kj_aload_n dX2_firstStepUp_47 (pc' := 48) rfl rfl rfl ?_
      refine kj_getR f_RX2_9 rfl (Nat.lt_of_lt_of_le (Nat.le_of_ble_eq_true rfl : 103 < 120) hE.1) (hE.2 _ _) (q := 93) rfl dX2_firstStepUp_48 (pc' := 51) rfl ?_
      refine kj_getR f_RX2_35 rfl (Nat.lt_of_lt_of_le (Nat.le_of_ble_eq_true rfl : 93 < 120) hE.1) (hE.2 _ _) (q := 95) rfl dX2_firstStepUp_51 (pc' := 54) rfl ?_
      refine kj_iload_n dX2_firstStepUp_54 (pc' := 55) rfl rfl rfl ?_
      obtain ⟨t7, ht7, hT⟩ := bind_some' hT
      refine kcVi (as := [.inl y2]) (st := [.inr 93]) l_RX2_53 (m_X4_at hE rfl σ y2 ht7) rfl (Nat.lt_of_lt_of_le (Nat.le_of_ble_eq_true rfl : 95 < 120) hE.1) rfl ⟨⟨rfl, rfl⟩, Nat.le_of_ble_eq_true rfl, Nat.le_of_ble_eq_true rfl⟩ (Nat.le_of_ble_eq_true rfl) dX2_firstStepUp_55 (pc' := 58) rfl ?_
      refine kj_aload_n dX2_firstStepUp_58 (pc' := 59) rfl rfl rfl ?_
      refine kj_getR f_RX2_9 rfl (Nat.lt_of_lt_of_le (Nat.le_of_ble_eq_true rfl : 103 < 120) hE.1) (hE.2 _ _) (q := 93) rfl dX2_firstStepUp_59 (pc' := 62) rfl ?_
      refine kj_getR f_RX2_35 rfl (Nat.lt_of_lt_of_le (Nat.le_of_ble_eq_true rfl : 93 < 120) hE.1) (hE.2 _ _) (q := 95) rfl dX2_firstStepUp_62 (pc' := 65) rfl ?_
      refine kj_iload_n dX2_firstStepUp_65 (pc' := 66) rfl rfl rfl ?_
      obtain ⟨t8, ht8, hT⟩ := bind_some' hT
      refine kcVi (as := [.inl x1]) (st := [.inl t7, .inr 93]) l_RX2_53 (m_X4_at hE rfl σ x1 ht8) rfl (Nat.lt_of_lt_of_le (Nat.le_of_ble_eq_true rfl : 95 < 120) hE.1) rfl ⟨⟨rfl, rfl⟩, Nat.le_of_ble_eq_true rfl, Nat.le_of_ble_eq_true rfl⟩ (Nat.le_of_ble_eq_true rfl) dX2_firstStepUp_66 (pc' := 69) rfl ?_
      obtain ⟨t9, ht9, hT⟩ := bind_some' hT
      refine kcVz (as := [.inl t7, .inl t8]) (st := []) l_RX2_57 (m_X0_isCover hE σ t7 t8 ht9) rfl (Nat.lt_of_lt_of_le (Nat.le_of_ble_eq_true rfl : 93 < 120) hE.1) rfl ⟨⟨rfl, rfl⟩, Nat.le_of_ble_eq_true rfl, Nat.le_of_ble_eq_true rfl⟩ (Nat.le_of_ble_eq_true rfl) dX2_firstStepUp_69 (pc' := 72) rfl (fun z10 => ?_)
      refine kj_if_eq dX2_firstStepUp_72 (tgt := 77) rfl (pc' := 75) rfl (fun c11 => ?_) (fun c11 => ?_)
      · rw [if_pos c11] at hT
        refine kj_keep [true, true, true] (ls' := [some (.inr 103), some (.inl x1), some (.inl y2)]) rfl ?_
        exact hJ77_4 y2 hT
      · rw [if_neg c11] at hT
        refine kj_iload_n dX2_firstStepUp_75 (pc' := 76) rfl rfl rfl ?_
        have hR := Option.some.inj hT
        subst hR
        exact kj_iret rfl dX2_firstStepUp_76 (by subst hQ; exact ⟨rfl, rfl⟩)
  refine kj_iload_n dX2_firstStepUp_4 (pc' := 5) rfl rfl rfl ?_
  refine kj_aload_n dX2_firstStepUp_5 (pc' := 6) rfl rfl rfl ?_
  refine kj_getR f_RX2_9 rfl (Nat.lt_of_lt_of_le (Nat.le_of_ble_eq_true rfl : 103 < 120) hE.1) (hE.2 _ _) (q := 93) rfl dX2_firstStepUp_6 (pc' := 9) rfl ?_
  refine kj_getR f_RX2_35 rfl (Nat.lt_of_lt_of_le (Nat.le_of_ble_eq_true rfl : 93 < 120) hE.1) (hE.2 _ _) (q := 95) rfl dX2_firstStepUp_9 (pc' := 12) rfl ?_
  refine kj_getI f_RX2_41 rfl (Nat.lt_of_lt_of_le (Nat.le_of_ble_eq_true rfl : 95 < 120) hE.1) dX2_firstStepUp_12 (pc' := 15) rfl ?_
  refine kj_icmp_ge dX2_firstStepUp_15 (tgt := 83) rfl (pc' := 18) rfl (fun c2 => ?_) (fun c2 => ?_)
  · rw [if_pos c2] at hT
    refine kj_iload_n dX2_firstStepUp_83 (pc' := 84) rfl rfl rfl ?_
    have hR := Option.some.inj hT
    subst hR
    exact kj_iret rfl dX2_firstStepUp_84 (by subst hQ; exact ⟨rfl, rfl⟩)
  · rw [if_neg c2] at hT
    refine kj_aload_n dX2_firstStepUp_18 (pc' := 19) rfl rfl rfl ?_
    refine kj_iload_n dX2_firstStepUp_19 (pc' := 20) rfl rfl rfl ?_
    obtain ⟨t3, ht3, hT⟩ := bind_some' hT
    refine kcVi (as := [.inl x2]) (st := []) l_RX2_67 (m_X2_riseOf hE σ x2 ht3) rfl (Nat.lt_of_lt_of_le (Nat.le_of_ble_eq_true rfl : 103 < 120) hE.1) rfl ⟨⟨rfl, rfl⟩, Nat.le_of_ble_eq_true rfl, Nat.le_of_ble_eq_true rfl⟩ (Nat.le_of_ble_eq_true rfl) dX2_firstStepUp_20 (pc' := 23) rfl ?_
    refine kj_iconst dX2_firstStepUp_23 (pc' := 24) rfl kc_1 ?_
    refine kj_iadd dX2_firstStepUp_24 (pc' := 25) rfl ?_
    refine kj_aload_n dX2_firstStepUp_25 (pc' := 26) rfl rfl rfl ?_
    refine kj_iload_n dX2_firstStepUp_26 (pc' := 27) rfl rfl rfl ?_
    obtain ⟨t4, ht4, hT⟩ := bind_some' hT
    refine kcVi (as := [.inl x1]) (st := [.inl (t3 + 1)]) l_RX2_67 (m_X2_riseOf hE σ x1 ht4) rfl (Nat.lt_of_lt_of_le (Nat.le_of_ble_eq_true rfl : 103 < 120) hE.1) rfl ⟨⟨rfl, rfl⟩, Nat.le_of_ble_eq_true rfl, Nat.le_of_ble_eq_true rfl⟩ (Nat.le_of_ble_eq_true rfl) dX2_firstStepUp_27 (pc' := 30) rfl ?_
    refine kj_icmp_ne dX2_firstStepUp_30 (tgt := 37) rfl (pc' := 33) rfl (fun c5 => ?_) (fun c5 => ?_)
    · rw [if_neg c5] at hT
      refine kj_iconst dX2_firstStepUp_37 (pc' := 38) rfl kc_0 ?_
      refine kj_istore_n dX2_firstStepUp_38 (pc' := 39) rfl rfl (Nat.le_of_ble_eq_true rfl) (ls' := [some (.inr 103), some (.inl x1), some (.inl x2), some (.inl 0)]) rfl ?_
      exact hJ39_4 x2 0 hT
    · rw [if_pos c5] at hT
      refine kj_iconst dX2_firstStepUp_33 (pc' := 34) rfl kc_1 ?_
      refine kj_goto dX2_firstStepUp_34 (pc' := 38) rfl ?_
      refine kj_istore_n dX2_firstStepUp_38 (pc' := 39) rfl rfl (Nat.le_of_ble_eq_true rfl) (ls' := [some (.inr 103), some (.inl x1), some (.inl x2), some (.inl 1)]) rfl ?_
      exact hJ39_4 x2 1 hT
def X2_stepOfLongest_B23 (x1 : Int32) (σ1 : Wd) (rec23 : Int32 × Int32 → Option (Int32 × Wd)) : Int32 × Int32 → Option (Int32 × Wd)
  | (x2, x3) => (if x1 ≤ x3 then some (x2, σ1) else (if 7 ≤ x3 then some (x2, σ1) else ((X2_firstStepUp σ1 x2).bind fun t7 => rec23 (t7, x3 + 1))))
def X2_stepOfLongest (σ : Wd) (x1 : Int32) : Option (Int32 × Wd) :=
  ((X2_make σ).bind fun σ1 => (if x1 < 0 then some ((-1), σ1) else ((X2_riseOf σ1 0).bind fun t3 => (if x1 ≤ t3 then (lp (X2_stepOfLongest_B23 x1 σ1) FU (0, 0)) else some ((-1), σ1)))))
set_option maxRecDepth 100000 in
set_option maxHeartbeats 4000000 in
theorem m_X2_stepOfLongest {E : JE} (hE : kOk 120 E) (σ : Wd) (x1 : Int32) {res : Int32 × Wd} (hT : X2_stepOfLongest σ x1 = some res) : kMt E yX2_stepOfLongest mX2_stepOfLongest rmX2_stepOfLongest [.inr 103, .inl x1] σ (kQi res.1 res.2) := by
  refine kMt_of (by decide +kernel) rfl (Nat.le_of_ble_eq_true rfl) ?_
  generalize hQ : (kQi res.1 res.2) = Q
  show KJ E mX2_stepOfLongest rmX2_stepOfLongest 0 [some (.inr 103), some (.inl x1)] [] σ Q
  unfold X2_stepOfLongest at hT
  refine kj_aload_n dX2_stepOfLongest_0 (pc' := 1) rfl rfl rfl ?_
  obtain ⟨σ1, hσ1, hT⟩ := bind_some' hT
  refine kcVv (as := []) (st := []) l_RX2_64 (m_X2_make hE σ hσ1) rfl (Nat.lt_of_lt_of_le (Nat.le_of_ble_eq_true rfl : 103 < 120) hE.1) rfl ⟨⟨rfl, rfl⟩, Nat.le_of_ble_eq_true rfl, Nat.le_of_ble_eq_true rfl⟩ (Nat.le_of_ble_eq_true rfl) dX2_stepOfLongest_1 (pc' := 4) rfl ?_
  refine kj_iload_n dX2_stepOfLongest_4 (pc' := 5) rfl rfl rfl ?_
  refine kj_if_lt dX2_stepOfLongest_5 (tgt := 17) rfl (pc' := 8) rfl (fun c2 => ?_) (fun c2 => ?_)
  · rw [if_pos c2] at hT
    refine kj_iconst dX2_stepOfLongest_17 (pc' := 18) rfl kc_m1 ?_
    have hR := Option.some.inj hT
    subst hR
    exact kj_iret rfl dX2_stepOfLongest_18 (by subst hQ; exact ⟨rfl, rfl⟩)
  · rw [if_neg c2] at hT
    refine kj_iload_n dX2_stepOfLongest_8 (pc' := 9) rfl rfl rfl ?_
    refine kj_aload_n dX2_stepOfLongest_9 (pc' := 10) rfl rfl rfl ?_
    refine kj_iconst dX2_stepOfLongest_10 (pc' := 11) rfl kc_0 ?_
    obtain ⟨t3, ht3, hT⟩ := bind_some' hT
    refine kcVi (as := [.inl 0]) (st := [.inl x1]) l_RX2_67 (m_X2_riseOf hE σ1 0 ht3) rfl (Nat.lt_of_lt_of_le (Nat.le_of_ble_eq_true rfl : 103 < 120) hE.1) rfl ⟨⟨rfl, rfl⟩, Nat.le_of_ble_eq_true rfl, Nat.le_of_ble_eq_true rfl⟩ (Nat.le_of_ble_eq_true rfl) dX2_stepOfLongest_11 (pc' := 14) rfl ?_
    refine kj_icmp_le dX2_stepOfLongest_14 (tgt := 19) rfl (pc' := 17) rfl (fun c4 => ?_) (fun c4 => ?_)
    · rw [if_pos c4] at hT
      refine kj_iconst dX2_stepOfLongest_19 (pc' := 20) rfl kc_0 ?_
      refine kj_istore_n dX2_stepOfLongest_20 (pc' := 21) rfl rfl (Nat.le_of_ble_eq_true rfl) (ls' := [some (.inr 103), some (.inl x1), some (.inl 0)]) rfl ?_
      refine kj_iconst dX2_stepOfLongest_21 (pc' := 22) rfl kc_0 ?_
      refine kj_istore_n dX2_stepOfLongest_22 (pc' := 23) rfl rfl (Nat.le_of_ble_eq_true rfl) (ls' := [some (.inr 103), some (.inl x1), some (.inl 0), some (.inl 0)]) rfl ?_
      refine lp_ind (P := fun s => KJ E mX2_stepOfLongest rmX2_stepOfLongest 23 [some (.inr 103), some (.inl x1), some (.inl s.1), some (.inl s.2)] [] σ1 Q) (fun rec23 s ih23 hT => ?_) FU (0, 0) hT
      obtain ⟨x2, x3⟩ := s
      show KJ E mX2_stepOfLongest rmX2_stepOfLongest 23 [some (.inr 103), some (.inl x1), some (.inl x2), some (.inl x3)] [] σ1 Q
      rw [X2_stepOfLongest_B23] at hT
      refine kj_iload_n dX2_stepOfLongest_23 (pc' := 24) rfl rfl rfl ?_
      refine kj_iload_n dX2_stepOfLongest_24 (pc' := 25) rfl rfl rfl ?_
      refine kj_icmp_ge dX2_stepOfLongest_25 (tgt := 46) rfl (pc' := 28) rfl (fun c5 => ?_) (fun c5 => ?_)
      · rw [if_pos c5] at hT
        refine kj_iload_n dX2_stepOfLongest_46 (pc' := 47) rfl rfl rfl ?_
        have hR := Option.some.inj hT
        subst hR
        exact kj_iret rfl dX2_stepOfLongest_47 (by subst hQ; exact ⟨rfl, rfl⟩)
      · rw [if_neg c5] at hT
        refine kj_iload_n dX2_stepOfLongest_28 (pc' := 29) rfl rfl rfl ?_
        refine kj_bipush dX2_stepOfLongest_29 (pc' := 31) rfl kb_7 ?_
        refine kj_icmp_ge dX2_stepOfLongest_31 (tgt := 46) rfl (pc' := 34) rfl (fun c6 => ?_) (fun c6 => ?_)
        · rw [if_pos c6] at hT
          refine kj_iload_n dX2_stepOfLongest_46 (pc' := 47) rfl rfl rfl ?_
          have hR := Option.some.inj hT
          subst hR
          exact kj_iret rfl dX2_stepOfLongest_47 (by subst hQ; exact ⟨rfl, rfl⟩)
        · rw [if_neg c6] at hT
          refine kj_aload_n dX2_stepOfLongest_34 (pc' := 35) rfl rfl rfl ?_
          refine kj_iload_n dX2_stepOfLongest_35 (pc' := 36) rfl rfl rfl ?_
          obtain ⟨t7, ht7, hT⟩ := bind_some' hT
          refine kcVi (as := [.inl x2]) (st := []) l_RX2_70 (m_X2_firstStepUp hE σ1 x2 ht7) rfl (Nat.lt_of_lt_of_le (Nat.le_of_ble_eq_true rfl : 103 < 120) hE.1) rfl ⟨⟨rfl, rfl⟩, Nat.le_of_ble_eq_true rfl, Nat.le_of_ble_eq_true rfl⟩ (Nat.le_of_ble_eq_true rfl) dX2_stepOfLongest_36 (pc' := 39) rfl ?_
          refine kj_istore_n dX2_stepOfLongest_39 (pc' := 40) rfl rfl (Nat.le_of_ble_eq_true rfl) (ls' := [some (.inr 103), some (.inl x1), some (.inl t7), some (.inl x3)]) rfl ?_
          refine kj_iinc dX2_stepOfLongest_40 (pc' := 43) rfl rfl (congrArg (_ + ·) kc_1) (Nat.le_of_ble_eq_true rfl) (ls' := [some (.inr 103), some (.inl x1), some (.inl t7), some (.inl (x3 + 1))]) rfl ?_
          refine kj_goto dX2_stepOfLongest_43 (pc' := 23) rfl ?_
          exact ih23 (t7, x3 + 1) hT
    · rw [if_neg c4] at hT
      refine kj_iconst dX2_stepOfLongest_17 (pc' := 18) rfl kc_m1 ?_
      have hR := Option.some.inj hT
      subst hR
      exact kj_iret rfl dX2_stepOfLongest_18 (by subst hQ; exact ⟨rfl, rfl⟩)
