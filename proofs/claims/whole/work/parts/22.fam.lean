def X0_init_T133 (rec85 : Int32 × Int32 × Wd → Option (Wd)) (x2 : Int32) (x1 : Int32) (σ : Wd) : Option (Wd) :=
  rec85 (x1, x2 + 1, σ)
def X0_init_J127 (rec93 : Int32 × Int32 × Wd → Option (Wd)) (y1 : Int32) (y3 : Int32) (ς : Wd) : Option (Wd) :=
  rec93 (y1, y3 + 1, ς)
def X0_init_B93 (x2 : Int32) (kx93 : Int32 → Wd → Option (Wd)) (rec93 : Int32 × Int32 × Wd → Option (Wd)) : Int32 × Int32 × Wd → Option (Wd)
  | (x1, x3, σ) => (if 128 ≤ x3 then kx93 x1 σ else (if (J6_bitCount_0f7a4 x3) = x2 then (if 128 ≤ x1 then X0_init_J127 rec93 x1 x3 σ else (ckA x1 128 <| X0_init_J127 rec93 (x1 + 1) x3 (up σ 94 x1.toNatClampNeg x3))) else X0_init_J127 rec93 x1 x3 σ))
def X0_init_B85 (rec85 : Int32 × Int32 × Wd → Option (Wd)) : Int32 × Int32 × Wd → Option (Wd)
  | (x1, x2, σ) => (if 7 < x2 then some σ else (lp (X0_init_B93 x2 (X0_init_T133 rec85 x2)) FU (x1, 0, σ)))
def X0_init_T (σ : Wd) : Option (Wd) :=
  (lp (X0_init_B85) FU (0, 0, σ))
abbrev rI_X0_init : Room := { frames := 2, cells := 9, slots := 779, locals := 42 }
set_option maxRecDepth 100000 in
set_option maxHeartbeats 1000000 in
theorem fam_tail {E0 : JE} {σ res : Wd} (hT : X0_init_T σ = some res) : KG (kEt E0 103 103) mX0_init rI_X0_init "<init>" 94 81 [some (.inr 93)] [] σ 9 779 (kZc E0 103 103 res 9 779) := by
  obtain ⟨Z, hZ⟩ : ∃ Z, Z = kZc E0 103 103 res 9 779 := ⟨_, rfl⟩
  rw [← hZ]
  unfold X0_init_T at hT
  refine kg_iconst dX0_init_81 (pc' := 82) rfl kc_0 ?_
  refine kg_istore_n dX0_init_82 (pc' := 83) rfl rfl (Nat.le_of_ble_eq_true rfl) (ls' := [some (.inr 93), some (.inl 0)]) rfl ?_
  refine kg_iconst dX0_init_83 (pc' := 84) rfl kc_0 ?_
  refine kg_istore_n dX0_init_84 (pc' := 85) rfl rfl (Nat.le_of_ble_eq_true rfl) (ls' := [some (.inr 93), some (.inl 0), some (.inl 0)]) rfl ?_
  refine lp_ind (P := fun (s : Int32 × Int32 × Wd) => KG (kEt E0 103 103) mX0_init rI_X0_init "<init>" 94 85 [some (.inr 93), some (.inl s.1), some (.inl s.2.1)] [] s.2.2 9 779 Z) (fun rec85 s ih85 hT => ?_) FU (0, 0, σ) hT
  obtain ⟨x1, x2, σ⟩ := s
  show KG (kEt E0 103 103) mX0_init rI_X0_init "<init>" 94 85 [some (.inr 93), some (.inl x1), some (.inl x2)] [] σ 9 779 Z
  rw [X0_init_B85] at hT
  refine kg_iload_n dX0_init_85 (pc' := 86) rfl rfl rfl ?_
  refine kg_bipush dX0_init_86 (pc' := 88) rfl kb_7 ?_
  refine kg_icmp_gt dX0_init_88 (tgt := 139) rfl (pc' := 91) rfl (fun c1 => ?_) (fun c1 => ?_)
  · rw [if_pos c1] at hT
    have hR := Option.some.inj hT
    subst hR
    subst hZ; exact kg_vret rfl dX0_init_139
  · rw [if_neg c1] at hT
    refine kg_iconst dX0_init_91 (pc' := 92) rfl kc_0 ?_
    refine kg_istore_n dX0_init_92 (pc' := 93) rfl rfl (Nat.le_of_ble_eq_true rfl) (ls' := [some (.inr 93), some (.inl x1), some (.inl x2), some (.inl 0)]) rfl ?_
    have hX93 : ∀ x1 σ, X0_init_T133 rec85 x2 x1 σ = some res → KG (kEt E0 103 103) mX0_init rI_X0_init "<init>" 94 133 [some (.inr 93), some (.inl x1), some (.inl x2)] [] σ 9 779 Z := by
      intro x1 σ hT
      unfold X0_init_T133 at hT
      refine kg_iinc dX0_init_133 (pc' := 136) rfl rfl (congrArg (_ + ·) kc_1) (Nat.le_of_ble_eq_true rfl) (ls' := [some (.inr 93), some (.inl x1), some (.inl (x2 + 1))]) rfl ?_
      refine kg_goto dX0_init_136 (pc' := 85) rfl ?_
      exact ih85 (x1, x2 + 1, σ) hT
    refine lp_ind (P := fun (s : Int32 × Int32 × Wd) => KG (kEt E0 103 103) mX0_init rI_X0_init "<init>" 94 93 [some (.inr 93), some (.inl s.1), some (.inl x2), some (.inl s.2.1)] [] s.2.2 9 779 Z) (fun rec93 s ih93 hT => ?_) FU (x1, 0, σ) hT
    obtain ⟨x1, x3, σ⟩ := s
    show KG (kEt E0 103 103) mX0_init rI_X0_init "<init>" 94 93 [some (.inr 93), some (.inl x1), some (.inl x2), some (.inl x3)] [] σ 9 779 Z
    rw [X0_init_B93] at hT
    have hJ127_85_93 : ∀ y1 y3 ς, X0_init_J127 rec93 y1 y3 ς = some res → KG (kEt E0 103 103) mX0_init rI_X0_init "<init>" 94 127 [some (.inr 93), some (.inl y1), some (.inl x2), some (.inl y3)] [] ς 9 779 Z := by
      intro y1 y3 ς hT
      unfold X0_init_J127 at hT
      refine kg_iinc dX0_init_127 (pc' := 130) rfl rfl (congrArg (_ + ·) kc_1) (Nat.le_of_ble_eq_true rfl) (ls' := [some (.inr 93), some (.inl y1), some (.inl x2), some (.inl (y3 + 1))]) rfl ?_
      refine kg_goto dX0_init_130 (pc' := 93) rfl ?_
      exact ih93 (y1, y3 + 1, ς) hT
    refine kg_iload_n dX0_init_93 (pc' := 94) rfl rfl rfl ?_
    refine kg_sipush dX0_init_94 (pc' := 97) rfl ks_128 ?_
    refine kg_icmp_ge dX0_init_97 (tgt := 133) rfl (pc' := 100) rfl (fun c2 => ?_) (fun c2 => ?_)
    · rw [if_pos c2] at hT
      refine kg_keep [true, true, true] (ls' := [some (.inr 93), some (.inl x1), some (.inl x2)]) rfl ?_
      exact hX93 x1 σ hT
    · rw [if_neg c2] at hT
      refine kg_iload_n dX0_init_100 (pc' := 101) rfl rfl rfl ?_
      refine kgSi (as := [.inl x3]) (st := []) l_RX0_43 (m_J6_bitCount_0f7a4 (Nat.zero_le _) σ x3 rfl) rfl ⟨⟨rfl, rfl⟩, Nat.le_of_ble_eq_true rfl, Nat.le_of_ble_eq_true rfl⟩ ⟨Nat.le_of_ble_eq_true rfl, Nat.le_of_ble_eq_true rfl⟩ (Nat.le_of_ble_eq_true rfl) dX0_init_101 (pc' := 104) rfl ?_
      refine kg_iload_n dX0_init_104 (pc' := 105) rfl rfl rfl ?_
      refine kg_icmp_ne dX0_init_105 (tgt := 127) rfl (pc' := 108) rfl (fun c3 => ?_) (fun c3 => ?_)
      · rw [if_neg c3] at hT
        exact hJ127_85_93 x1 x3 σ hT
      · rw [if_pos c3] at hT
        refine kg_iload_n dX0_init_108 (pc' := 109) rfl rfl rfl ?_
        refine kg_aload_n dX0_init_109 (pc' := 110) rfl rfl rfl ?_
        refine kg_getR f_RX0_9 rfl (Nat.le_of_ble_eq_true rfl : 93 < 103) (kMt_ok (by decide +kernel)) (q := 94) rfl dX0_init_110 (pc' := 113) rfl ?_
        refine kg_alen (n := 0) (v := 128) 0 (ty := .int) rfl (by decide) rfl (Nat.le_of_ble_eq_true rfl : 94 < 103) (by decide +kernel) dX0_init_113 (pc' := 114) rfl ?_
        refine kg_icmp_ge dX0_init_114 (tgt := 127) rfl (pc' := 117) rfl (fun c4 => ?_) (fun c4 => ?_)
        · rw [if_pos c4] at hT
          exact hJ127_85_93 x1 x3 σ hT
        · rw [if_neg c4] at hT
          refine kg_aload_n dX0_init_117 (pc' := 118) rfl rfl rfl ?_
          refine kg_getR f_RX0_9 rfl (Nat.le_of_ble_eq_true rfl : 93 < 103) (kMt_ok (by decide +kernel)) (q := 94) rfl dX0_init_118 (pc' := 121) rfl ?_
          refine kg_iload_n dX0_init_121 (pc' := 122) rfl rfl rfl ?_
          refine kg_iload_n dX0_init_122 (pc' := 123) rfl rfl rfl ?_
          obtain ⟨hi5, hT⟩ := ckA_some hT
          refine kg_iast rfl (Nat.le_of_ble_eq_true rfl : 94 < 103) hi5 rfl dX0_init_123 (pc' := 124) rfl ?_
          refine kg_iinc dX0_init_124 (pc' := 127) rfl rfl (congrArg (_ + ·) kc_1) (Nat.le_of_ble_eq_true rfl) (ls' := [some (.inr 93), some (.inl (x1 + 1)), some (.inl x2), some (.inl x3)]) rfl ?_
          exact hJ127_85_93 (x1 + 1) x3 (up σ 94 x1.toNatClampNeg x3) hT
def i_X0_init (σ : Wd) : Option Wd :=
  (X0_init_T (up (zr (zr (zr (zr (i_X4 97 (zr (i_X4 95 (zr (zr σ 94) 95)) 97)) 99) 100) 101) 102) 93 7 4))
set_option maxRecDepth 100000 in
set_option maxHeartbeats 1000000 in
theorem c_X0_init {E0 : JE} (σ : Wd) {res : Wd} (hT : i_X0_init σ = some res) : kMc E0 yX0_init mX0_init rI_X0_init [.inr 93] 94 94 σ 103 (103) res 9 779 := by
  refine kMc_of (by decide +kernel) rfl (Nat.le_of_ble_eq_true rfl) ?_
  unfold i_X0_init at hT
  refine kg_aload_n dX0_init_0 (pc' := 1) rfl rfl rfl ?_
  refine kg_objInit (n := 0) oi_RX0_3 (Nat.le_of_ble_eq_true rfl) (Nat.le_of_ble_eq_true rfl) dX0_init_1 (pc' := 4) rfl ?_
  refine kg_aload_n dX0_init_4 (pc' := 5) rfl rfl rfl ?_
  refine kg_sipush dX0_init_5 (pc' := 8) rfl ks_128 ?_
  refine kg_newa (atype := .int) (j := 0) (n := 94) (t := 94) (N := 128) rfl (by decide) (kMem 130 (by decide +kernel) rfl) rfl rfl rfl (by decide +kernel) (by decide +kernel) (by decide) rfl (by decide) (Nat.le_of_ble_eq_true rfl) (Nat.le_of_ble_eq_true rfl) dX0_init_8 (pc' := 10) rfl ?_
  refine kg_putR (n := 95) (t := 94) (q := 94) ff_RX0_9 rfl (by decide) (by decide +kernel) rfl rfl (Nat.le_of_ble_eq_true rfl : 93 < 95) dX0_init_10 (pc' := 13) rfl ?_
  refine kg_aload_n dX0_init_13 (pc' := 14) rfl rfl rfl ?_
  refine kg_new nw_RX0_15 (n := 95) (t := 95) rfl (kTm_all (by decide +kernel) (by decide)) rfl (by decide) (Nat.le_of_ble_eq_true rfl) (Nat.le_of_ble_eq_true rfl) dX0_init_14 (pc' := 17) rfl ?_
  refine kg_dup dX0_init_17 (pc' := 18) rfl ?_
  refine kg_sipush dX0_init_18 (pc' := 21) rfl ks_128 ?_
  refine kg_callI (as := [.inl 128]) (st := [.inr 95, .inr 93]) il_RX0_17 (c_X4_init (E0 := E0) (r := 95) (t := 95) (N := 128) (x1 := 128) rfl (by decide) (by decide +kernel) (by decide) (by decide +kernel) (by decide +kernel) (by decide +kernel) (zr (zr σ 94) 95)) rfl rfl (by decide) (by decide) ⟨⟨rfl, rfl⟩, Nat.le_of_ble_eq_true rfl, Nat.le_of_ble_eq_true rfl⟩ (Nat.le_of_ble_eq_true rfl) ⟨Nat.le_of_ble_eq_true rfl, Nat.le_of_ble_eq_true rfl⟩ dX0_init_21 (pc' := 24) rfl ?_
  refine kg_to (n2 := 97) (t2 := 96) (cl2 := 3) (sl2 := 258) rfl rfl rfl rfl rfl rfl rfl ?_
  refine kg_putR (n := 97) (t := 96) (q := 95) ff_RX0_20 rfl (by decide) (by decide +kernel) rfl rfl (Nat.le_of_ble_eq_true rfl : 93 < 97) dX0_init_24 (pc' := 27) rfl ?_
  refine kg_aload_n dX0_init_27 (pc' := 28) rfl rfl rfl ?_
  refine kg_new nw_RX0_15 (n := 97) (t := 97) rfl (kTm_all (by decide +kernel) (by decide)) rfl (by decide) (Nat.le_of_ble_eq_true rfl) (Nat.le_of_ble_eq_true rfl) dX0_init_28 (pc' := 31) rfl ?_
  refine kg_dup dX0_init_31 (pc' := 32) rfl ?_
  refine kg_sipush dX0_init_32 (pc' := 35) rfl ks_128 ?_
  refine kg_callI (as := [.inl 128]) (st := [.inr 97, .inr 93]) il_RX0_17 (c_X4_init (E0 := E0) (r := 97) (t := 97) (N := 128) (x1 := 128) rfl (by decide) (by decide +kernel) (by decide) (by decide +kernel) (by decide +kernel) (by decide +kernel) (zr (i_X4 95 (zr (zr σ 94) 95)) 97)) rfl rfl (by decide) (by decide) ⟨⟨rfl, rfl⟩, Nat.le_of_ble_eq_true rfl, Nat.le_of_ble_eq_true rfl⟩ (Nat.le_of_ble_eq_true rfl) ⟨Nat.le_of_ble_eq_true rfl, Nat.le_of_ble_eq_true rfl⟩ dX0_init_35 (pc' := 38) rfl ?_
  refine kg_to (n2 := 99) (t2 := 98) (cl2 := 5) (sl2 := 388) rfl rfl rfl rfl rfl rfl rfl ?_
  refine kg_putR (n := 99) (t := 98) (q := 97) ff_RX0_24 rfl (by decide) (by decide +kernel) rfl rfl (Nat.le_of_ble_eq_true rfl : 93 < 99) dX0_init_38 (pc' := 41) rfl ?_
  refine kg_aload_n dX0_init_41 (pc' := 42) rfl rfl rfl ?_
  refine kg_sipush dX0_init_42 (pc' := 45) rfl ks_128 ?_
  refine kg_newa (atype := .int) (j := 0) (n := 99) (t := 99) (N := 128) rfl (by decide) (kMem 130 (by decide +kernel) rfl) rfl rfl rfl (by decide +kernel) (by decide +kernel) (by decide) rfl (by decide) (Nat.le_of_ble_eq_true rfl) (Nat.le_of_ble_eq_true rfl) dX0_init_45 (pc' := 47) rfl ?_
  refine kg_putR (n := 100) (t := 99) (q := 99) ff_RX0_27 rfl (by decide) (by decide +kernel) rfl rfl (Nat.le_of_ble_eq_true rfl : 93 < 100) dX0_init_47 (pc' := 50) rfl ?_
  refine kg_aload_n dX0_init_50 (pc' := 51) rfl rfl rfl ?_
  refine kg_sipush dX0_init_51 (pc' := 54) rfl ks_128 ?_
  refine kg_newa (atype := .int) (j := 0) (n := 100) (t := 100) (N := 128) rfl (by decide) (kMem 130 (by decide +kernel) rfl) rfl rfl rfl (by decide +kernel) (by decide +kernel) (by decide) rfl (by decide) (Nat.le_of_ble_eq_true rfl) (Nat.le_of_ble_eq_true rfl) dX0_init_54 (pc' := 56) rfl ?_
  refine kg_putR (n := 101) (t := 100) (q := 100) ff_RX0_30 rfl (by decide) (by decide +kernel) rfl rfl (Nat.le_of_ble_eq_true rfl : 93 < 101) dX0_init_56 (pc' := 59) rfl ?_
  refine kg_aload_n dX0_init_59 (pc' := 60) rfl rfl rfl ?_
  refine kg_sipush dX0_init_60 (pc' := 63) rfl ks_128 ?_
  refine kg_newa (atype := .int) (j := 0) (n := 101) (t := 101) (N := 128) rfl (by decide) (kMem 130 (by decide +kernel) rfl) rfl rfl rfl (by decide +kernel) (by decide +kernel) (by decide) rfl (by decide) (Nat.le_of_ble_eq_true rfl) (Nat.le_of_ble_eq_true rfl) dX0_init_63 (pc' := 65) rfl ?_
  refine kg_putR (n := 102) (t := 101) (q := 101) ff_RX0_33 rfl (by decide) (by decide +kernel) rfl rfl (Nat.le_of_ble_eq_true rfl : 93 < 102) dX0_init_65 (pc' := 68) rfl ?_
  refine kg_aload_n dX0_init_68 (pc' := 69) rfl rfl rfl ?_
  refine kg_bipush dX0_init_69 (pc' := 71) rfl kb_7 ?_
  refine kg_newa (atype := .int) (j := 0) (n := 102) (t := 102) (N := 7) rfl (by decide) (kMem 130 (by decide +kernel) rfl) rfl rfl rfl (by decide +kernel) (by decide +kernel) (by decide) rfl (by decide) (Nat.le_of_ble_eq_true rfl) (Nat.le_of_ble_eq_true rfl) dX0_init_71 (pc' := 73) rfl ?_
  refine kg_putR (n := 103) (t := 102) (q := 102) ff_RX0_36 rfl (by decide) (by decide +kernel) rfl rfl (Nat.le_of_ble_eq_true rfl : 93 < 103) dX0_init_73 (pc' := 76) rfl ?_
  refine kg_aload_n dX0_init_76 (pc' := 77) rfl rfl rfl ?_
  refine kg_iconst dX0_init_77 (pc' := 78) rfl kc_4 ?_
  refine kg_putI p_RX0_39 rfl rfl rfl (Nat.le_of_ble_eq_true rfl : 93 < 103) dX0_init_78 (pc' := 81) rfl ?_
  exact fam_tail (E0 := E0) hT
def i_X2_init (σ : Wd) : Wd :=
  up (zr (zr (zr σ 104) 105) 106) 103 4 0
abbrev rI_X2_init : Room := { frames := 1, cells := 3, slots := 384, locals := 20 }
set_option maxRecDepth 100000 in
set_option maxHeartbeats 1000000 in
theorem c_X2_init {E0 : JE} (σ : Wd)  : kMc E0 yX2_init mX2_init rI_X2_init [.inr 103, .inr 93] 104 104 σ 107 (108) (i_X2_init σ) 3 384 := by
  refine kMc_of (by decide +kernel) rfl (Nat.le_of_ble_eq_true rfl) ?_
  refine kg_aload_n dX2_init_0 (pc' := 1) rfl rfl rfl ?_
  refine kg_objInit (n := 0) oi_RX2_3 (Nat.le_of_ble_eq_true rfl) (Nat.le_of_ble_eq_true rfl) dX2_init_1 (pc' := 4) rfl ?_
  refine kg_aload_n dX2_init_4 (pc' := 5) rfl rfl rfl ?_
  refine kg_aload_n dX2_init_5 (pc' := 6) rfl rfl rfl ?_
  refine kg_putR (n := 104) (t := 104) (q := 93) ff_RX2_9 rfl (by decide) (by decide +kernel) rfl rfl (Nat.le_of_ble_eq_true rfl : 103 < 104) dX2_init_6 (pc' := 9) rfl ?_
  refine kg_aload_n dX2_init_9 (pc' := 10) rfl rfl rfl ?_
  refine kg_sipush dX2_init_10 (pc' := 13) rfl ks_128 ?_
  refine kg_newa (atype := .int) (j := 0) (n := 104) (t := 105) (N := 128) rfl (by decide) (kMem 130 (by decide +kernel) rfl) rfl rfl rfl (by decide +kernel) (by decide +kernel) (by decide) rfl (by decide) (Nat.le_of_ble_eq_true rfl) (Nat.le_of_ble_eq_true rfl) dX2_init_13 (pc' := 15) rfl ?_
  refine kg_putR (n := 105) (t := 105) (q := 104) ff_RX2_15 rfl (by decide) (by decide +kernel) rfl rfl (Nat.le_of_ble_eq_true rfl : 103 < 105) dX2_init_15 (pc' := 18) rfl ?_
  refine kg_aload_n dX2_init_18 (pc' := 19) rfl rfl rfl ?_
  refine kg_sipush dX2_init_19 (pc' := 22) rfl ks_128 ?_
  refine kg_newa (atype := .int) (j := 0) (n := 105) (t := 106) (N := 128) rfl (by decide) (kMem 130 (by decide +kernel) rfl) rfl rfl rfl (by decide +kernel) (by decide +kernel) (by decide) rfl (by decide) (Nat.le_of_ble_eq_true rfl) (Nat.le_of_ble_eq_true rfl) dX2_init_22 (pc' := 24) rfl ?_
  refine kg_putR (n := 106) (t := 106) (q := 105) ff_RX2_19 rfl (by decide) (by decide +kernel) rfl rfl (Nat.le_of_ble_eq_true rfl : 103 < 106) dX2_init_24 (pc' := 27) rfl ?_
  refine kg_aload_n dX2_init_27 (pc' := 28) rfl rfl rfl ?_
  refine kg_sipush dX2_init_28 (pc' := 31) rfl ks_128 ?_
  refine kg_newa (atype := .int) (j := 0) (n := 106) (t := 107) (N := 128) rfl (by decide) (kMem 130 (by decide +kernel) rfl) rfl rfl rfl (by decide +kernel) (by decide +kernel) (by decide) rfl (by decide) (Nat.le_of_ble_eq_true rfl) (Nat.le_of_ble_eq_true rfl) dX2_init_31 (pc' := 33) rfl ?_
  refine kg_putR (n := 107) (t := 107) (q := 106) ff_RX2_22 rfl (by decide) (by decide +kernel) rfl rfl (Nat.le_of_ble_eq_true rfl : 103 < 107) dX2_init_33 (pc' := 36) rfl ?_
  refine kg_aload_n dX2_init_36 (pc' := 37) rfl rfl rfl ?_
  refine kg_iconst dX2_init_37 (pc' := 38) rfl kc_0 ?_
  refine kg_putI p_RX2_25 (by decide +kernel) (by decide +kernel) rfl (Nat.le_of_ble_eq_true rfl : 103 < 107) dX2_init_38 (pc' := 41) rfl ?_
  exact kg_vret rfl dX2_init_41
def i_X6_init (σ : Wd) : Wd :=
  up (zr (zr (zr (zr σ 108) 109) 110) 111) 107 5 (-1)
abbrev rI_X6_init : Room := { frames := 1, cells := 4, slots := 512, locals := 20 }
set_option maxRecDepth 100000 in
set_option maxHeartbeats 1000000 in
theorem c_X6_init {E0 : JE} (σ : Wd)  : kMc E0 yX6_init mX6_init rI_X6_init [.inr 107, .inr 95] 108 109 σ 112 (114) (i_X6_init σ) 4 512 := by
  refine kMc_of (by decide +kernel) rfl (Nat.le_of_ble_eq_true rfl) ?_
  refine kg_aload_n dX6_init_0 (pc' := 1) rfl rfl rfl ?_
  refine kg_objInit (n := 0) oi_RX6_3 (Nat.le_of_ble_eq_true rfl) (Nat.le_of_ble_eq_true rfl) dX6_init_1 (pc' := 4) rfl ?_
  refine kg_aload_n dX6_init_4 (pc' := 5) rfl rfl rfl ?_
  refine kg_aload_n dX6_init_5 (pc' := 6) rfl rfl rfl ?_
  refine kg_putR (n := 108) (t := 109) (q := 95) ff_RX6_9 rfl (by decide) (by decide +kernel) rfl rfl (Nat.le_of_ble_eq_true rfl : 107 < 108) dX6_init_6 (pc' := 9) rfl ?_
  refine kg_aload_n dX6_init_9 (pc' := 10) rfl rfl rfl ?_
  refine kg_sipush dX6_init_10 (pc' := 13) rfl ks_128 ?_
  refine kg_newa (atype := .int) (j := 0) (n := 108) (t := 110) (N := 128) rfl (by decide) (kMem 130 (by decide +kernel) rfl) rfl rfl rfl (by decide +kernel) (by decide +kernel) (by decide) rfl (by decide) (Nat.le_of_ble_eq_true rfl) (Nat.le_of_ble_eq_true rfl) dX6_init_13 (pc' := 15) rfl ?_
  refine kg_putR (n := 109) (t := 110) (q := 108) ff_RX6_15 rfl (by decide) (by decide +kernel) rfl rfl (Nat.le_of_ble_eq_true rfl : 107 < 109) dX6_init_15 (pc' := 18) rfl ?_
  refine kg_aload_n dX6_init_18 (pc' := 19) rfl rfl rfl ?_
  refine kg_sipush dX6_init_19 (pc' := 22) rfl ks_128 ?_
  refine kg_newa (atype := .int) (j := 0) (n := 109) (t := 111) (N := 128) rfl (by decide) (kMem 130 (by decide +kernel) rfl) rfl rfl rfl (by decide +kernel) (by decide +kernel) (by decide) rfl (by decide) (Nat.le_of_ble_eq_true rfl) (Nat.le_of_ble_eq_true rfl) dX6_init_22 (pc' := 24) rfl ?_
  refine kg_putR (n := 110) (t := 111) (q := 109) ff_RX6_19 rfl (by decide) (by decide +kernel) rfl rfl (Nat.le_of_ble_eq_true rfl : 107 < 110) dX6_init_24 (pc' := 27) rfl ?_
  refine kg_aload_n dX6_init_27 (pc' := 28) rfl rfl rfl ?_
  refine kg_sipush dX6_init_28 (pc' := 31) rfl ks_128 ?_
  refine kg_newa (atype := .int) (j := 0) (n := 110) (t := 112) (N := 128) rfl (by decide) (kMem 130 (by decide +kernel) rfl) rfl rfl rfl (by decide +kernel) (by decide +kernel) (by decide) rfl (by decide) (Nat.le_of_ble_eq_true rfl) (Nat.le_of_ble_eq_true rfl) dX6_init_31 (pc' := 33) rfl ?_
  refine kg_putR (n := 111) (t := 112) (q := 110) ff_RX6_22 rfl (by decide) (by decide +kernel) rfl rfl (Nat.le_of_ble_eq_true rfl : 107 < 111) dX6_init_33 (pc' := 36) rfl ?_
  refine kg_aload_n dX6_init_36 (pc' := 37) rfl rfl rfl ?_
  refine kg_sipush dX6_init_37 (pc' := 40) rfl ks_128 ?_
  refine kg_newa (atype := .int) (j := 0) (n := 111) (t := 113) (N := 128) rfl (by decide) (kMem 130 (by decide +kernel) rfl) rfl rfl rfl (by decide +kernel) (by decide +kernel) (by decide) rfl (by decide) (Nat.le_of_ble_eq_true rfl) (Nat.le_of_ble_eq_true rfl) dX6_init_40 (pc' := 42) rfl ?_
  refine kg_putR (n := 112) (t := 113) (q := 111) ff_RX6_25 rfl (by decide) (by decide +kernel) rfl rfl (Nat.le_of_ble_eq_true rfl : 107 < 112) dX6_init_42 (pc' := 45) rfl ?_
  refine kg_aload_n dX6_init_45 (pc' := 46) rfl rfl rfl ?_
  refine kg_iconst dX6_init_46 (pc' := 47) rfl kc_m1 ?_
  refine kg_putI p_RX6_28 rfl rfl rfl (Nat.le_of_ble_eq_true rfl : 107 < 112) dX6_init_47 (pc' := 50) rfl ?_
  exact kg_vret rfl dX6_init_50
def i_X8_init (σ : Wd) : Wd :=
  zr (i_X4 113 (zr σ 113)) 115
abbrev rI_X8_init : Room := { frames := 2, cells := 3, slots := 258, locals := 42 }
set_option maxRecDepth 100000 in
set_option maxHeartbeats 1000000 in
theorem c_X8_init {E0 : JE} (σ : Wd)  : kMc E0 yX8_init mX8_init rI_X8_init [.inr 112, .inr 93] 113 115 σ 116 (119) (i_X8_init σ) 3 258 := by
  refine kMc_of (by decide +kernel) rfl (Nat.le_of_ble_eq_true rfl) ?_
  refine kg_aload_n dX8_init_0 (pc' := 1) rfl rfl rfl ?_
  refine kg_objInit (n := 0) oi_RX8_3 (Nat.le_of_ble_eq_true rfl) (Nat.le_of_ble_eq_true rfl) dX8_init_1 (pc' := 4) rfl ?_
  refine kg_aload_n dX8_init_4 (pc' := 5) rfl rfl rfl ?_
  refine kg_aload_n dX8_init_5 (pc' := 6) rfl rfl rfl ?_
  refine kg_putR (n := 113) (t := 115) (q := 93) ff_RX8_9 rfl (by decide) (by decide +kernel) rfl rfl (Nat.le_of_ble_eq_true rfl : 112 < 113) dX8_init_6 (pc' := 9) rfl ?_
  refine kg_aload_n dX8_init_9 (pc' := 10) rfl rfl rfl ?_
  refine kg_new nw_RX8_15 (n := 113) (t := 116) rfl (kTm_all (by decide +kernel) (by decide)) rfl (by decide) (Nat.le_of_ble_eq_true rfl) (Nat.le_of_ble_eq_true rfl) dX8_init_10 (pc' := 13) rfl ?_
  refine kg_dup dX8_init_13 (pc' := 14) rfl ?_
  refine kg_sipush dX8_init_14 (pc' := 17) rfl ks_128 ?_
  refine kg_callI (as := [.inl 128]) (st := [.inr 113, .inr 112]) il_RX8_17 (c_X4_init (E0 := E0) (r := 113) (t := 116) (N := 128) (x1 := 128) rfl (by decide) (by decide +kernel) (by decide) (by decide +kernel) (by decide +kernel) (by decide +kernel) (zr σ 113)) rfl rfl (by decide) (by decide) ⟨⟨rfl, rfl⟩, Nat.le_of_ble_eq_true rfl, Nat.le_of_ble_eq_true rfl⟩ (Nat.le_of_ble_eq_true rfl) ⟨Nat.le_of_ble_eq_true rfl, Nat.le_of_ble_eq_true rfl⟩ dX8_init_17 (pc' := 20) rfl ?_
  refine kg_to (n2 := 115) (t2 := 117) (cl2 := 2) (sl2 := 130) rfl rfl rfl rfl rfl rfl rfl ?_
  refine kg_putR (n := 115) (t := 117) (q := 113) ff_RX8_20 rfl (by decide) (by decide +kernel) rfl rfl (Nat.le_of_ble_eq_true rfl : 112 < 115) dX8_init_20 (pc' := 23) rfl ?_
  refine kg_aload_n dX8_init_23 (pc' := 24) rfl rfl rfl ?_
  refine kg_sipush dX8_init_24 (pc' := 27) rfl ks_128 ?_
  refine kg_newa (atype := .int) (j := 0) (n := 115) (t := 118) (N := 128) rfl (by decide) (kMem 130 (by decide +kernel) rfl) rfl rfl rfl (by decide +kernel) (by decide +kernel) (by decide) rfl (by decide) (Nat.le_of_ble_eq_true rfl) (Nat.le_of_ble_eq_true rfl) dX8_init_27 (pc' := 29) rfl ?_
  refine kg_putR (n := 116) (t := 118) (q := 115) ff_RX8_24 rfl (by decide) (by decide +kernel) rfl rfl (Nat.le_of_ble_eq_true rfl : 112 < 116) dX8_init_29 (pc' := 32) rfl ?_
  exact kg_vret rfl dX8_init_32
def i_X9_init (σ : Wd) : Wd :=
  zr (zr σ 117) 118
abbrev rI_X9_init : Room := { frames := 1, cells := 2, slots := 135, locals := 20 }
set_option maxRecDepth 100000 in
set_option maxHeartbeats 1000000 in
theorem c_X9_init {E0 : JE} (σ : Wd)  : kMc E0 yX9_init mX9_init rI_X9_init [.inr 116, .inr 93] 117 120 σ 119 (123) (i_X9_init σ) 2 135 := by
  refine kMc_of (by decide +kernel) rfl (Nat.le_of_ble_eq_true rfl) ?_
  refine kg_aload_n dX9_init_0 (pc' := 1) rfl rfl rfl ?_
  refine kg_objInit (n := 0) oi_RX9_3 (Nat.le_of_ble_eq_true rfl) (Nat.le_of_ble_eq_true rfl) dX9_init_1 (pc' := 4) rfl ?_
  refine kg_aload_n dX9_init_4 (pc' := 5) rfl rfl rfl ?_
  refine kg_aload_n dX9_init_5 (pc' := 6) rfl rfl rfl ?_
  refine kg_putR (n := 117) (t := 120) (q := 93) ff_RX9_9 rfl (by decide) (by decide +kernel) rfl rfl (Nat.le_of_ble_eq_true rfl : 116 < 117) dX9_init_6 (pc' := 9) rfl ?_
  refine kg_aload_n dX9_init_9 (pc' := 10) rfl rfl rfl ?_
  refine kg_sipush dX9_init_10 (pc' := 13) rfl ks_128 ?_
  refine kg_newa (atype := .int) (j := 0) (n := 117) (t := 121) (N := 128) rfl (by decide) (kMem 130 (by decide +kernel) rfl) rfl rfl rfl (by decide +kernel) (by decide +kernel) (by decide) rfl (by decide) (Nat.le_of_ble_eq_true rfl) (Nat.le_of_ble_eq_true rfl) dX9_init_13 (pc' := 15) rfl ?_
  refine kg_putR (n := 118) (t := 121) (q := 117) ff_RX9_15 rfl (by decide) (by decide +kernel) rfl rfl (Nat.le_of_ble_eq_true rfl : 116 < 118) dX9_init_15 (pc' := 18) rfl ?_
  refine kg_aload_n dX9_init_18 (pc' := 19) rfl rfl rfl ?_
  refine kg_bipush dX9_init_19 (pc' := 21) rfl kb_7 ?_
  refine kg_newa (atype := .int) (j := 0) (n := 118) (t := 122) (N := 7) rfl (by decide) (kMem 130 (by decide +kernel) rfl) rfl rfl rfl (by decide +kernel) (by decide +kernel) (by decide) rfl (by decide) (Nat.le_of_ble_eq_true rfl) (Nat.le_of_ble_eq_true rfl) dX9_init_21 (pc' := 23) rfl ?_
  refine kg_putR (n := 119) (t := 122) (q := 118) ff_RX9_19 rfl (by decide) (by decide +kernel) rfl rfl (Nat.le_of_ble_eq_true rfl : 116 < 119) dX9_init_23 (pc' := 26) rfl ?_
  exact kg_vret rfl dX9_init_26
