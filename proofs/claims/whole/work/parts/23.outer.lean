/-! ===== all refs are set ===== -/
def kFu (E : JE) (n : Nat) : JE := (E.1, E.2.1, E.2.2.1, E.2.2.2.1, n, E.2.2.2.2.2.1, E.2.2.2.2.2.2.1, fun _ _ => true)
theorem kTr_fu (E : JE) (n : Nat) : kTr (kFu E n) = kTr E := by funext v; cases v <;> rfl
theorem kLv_fu (E : JE) (n : Nat) : ∀ (ls : List (Option JV)) (i : Nat), kLv (kFu E n) i ls = kLv E i ls
  | [], i => rfl
  | none :: r, i => kLv_fu E n r (i + 1)
  | some v :: r, i => by rw [kLv, kLv, kTr_fu, kLv_fu E n r (i + 1)]
theorem kOk_fu {E : JE} {N n : Nat} (h : N ≤ n) : kOk N (kFu E n) := ⟨h, fun _ _ => rfl⟩
def kIsR (k i : Nat) : Bool := (decide (kKd k < 20) && ((kFk (kKd k))[i]? == some false)) || (decide (kKd k = 23) && decide (i < kLn k))
theorem kFk_len : ∀ c, (kFk c).length ≤ 30 := by
  intro c
  match c with
  | 0 | 1 | 2 | 3 | 4 | 5 | 6 | 7 | 8 | 9 | 10 | 11 => decide
  | n + 12 => exact Nat.zero_le _
theorem arrV_ext {cA : ClassId} {N : Nat} {f g : Nat → Value} (h : ∀ j, j < N → f j = g j) : arrV cA N f = arrV cA N g := by
  unfold arrV
  congr 1
  congr 1
  funext j
  exact h j.val j.isLt
theorem kAt_full {E0 : JE} {n T k : Nat} {σ : Wd} {H : Heap} (hk : k < n) (h : ∀ k, k < n → ∀ i, i < 40 → kIsR k i = true → kTm k i < T) (a : Nat) : va_at E0.2.2.1 vwCl (a, kEl (kEt E0 n T) σ k) H ↔ va_at E0.2.2.1 vwCl (a, kEl (kFu E0 n) σ k) H := by
  by_cases h1 : kKd k < 20
  · have e : kEl (kEt E0 n T) σ k = kEl (kFu E0 n) σ k := by
      rw [kEl_obj rfl h1, kEl_obj rfl h1]
      congr 2
      apply List.ext_getElem?
      intro i
      cases hb : (kFk (kKd k))[i]? with
      | none =>
        rw [List.getElem?_eq_none, List.getElem?_eq_none]
        · rw [kFl_len]; exact List.getElem?_eq_none_iff.mp hb
        · rw [kFl_len]; exact List.getElem?_eq_none_iff.mp hb
      | some b =>
        rw [kFl_at hb, kFl_at hb]
        cases b with
        | true => rfl
        | false =>
          have hi : i < 30 := Nat.lt_of_lt_of_le (List.getElem?_eq_some_iff.mp hb).1 (kFk_len _)
          have := h k hk i (by omega) (by simp [kIsR, h1, hb])
          have e1 : (kEt E0 n T).2.2.2.2.2.2.2 k i = true := kMt_ok this
          simp only [Bool.false_eq_true, if_false]
          rw [if_pos e1, if_pos (show (kFu E0 n).2.2.2.2.2.2.2 k i = true from rfl)]
          rfl
    rw [e]
  · by_cases h2 : kKd k = 23
    · have e1 : kEl (kEt E0 n T) σ k = .inl (E0.2.2.2.1 3, kLn k, .inr (.inr (.inr (.inr (fun j => if (kEt E0 n T).2.2.2.2.2.2.2 k j = true then some (kAd (kEt E0 n T) (kRf k j)) else none))))) := by
        simp [kEl, h2]
        rfl
      have e2 : kEl (kFu E0 n) σ k = .inl (E0.2.2.2.1 3, kLn k, .inr (.inr (.inr (.inr (fun j => if (kFu E0 n).2.2.2.2.2.2.2 k j = true then some (kAd (kFu E0 n) (kRf k j)) else none))))) := by
        simp [kEl, h2]
        rfl
      have hl : kLn k ≤ 12 := by
        have hk2 := kKd_lt h2 (by decide)
        exact (by decide +kernel : ∀ k, k < 140 → kKd k = 23 → kLn k ≤ 12) k hk2 h2
      have ec : vp_cell (E0.2.2.2.1 3) (kLn k, .inr (.inr (.inr (.inr (fun j => if (kEt E0 n T).2.2.2.2.2.2.2 k j = true then some (kAd (kEt E0 n T) (kRf k j)) else none))))) = vp_cell (E0.2.2.2.1 3) (kLn k, .inr (.inr (.inr (.inr (fun j => if (kFu E0 n).2.2.2.2.2.2.2 k j = true then some (kAd (kFu E0 n) (kRf k j)) else none))))) := by
        rw [vp_cell_q, vp_cell_q]
        apply arrV_ext
        intro j hj
        have := h k hk j (by omega) (by simp [kIsR, h2, hj])
        have e3 : (kEt E0 n T).2.2.2.2.2.2.2 k j = true := kMt_ok this
        rw [if_pos e3, if_pos (show (kFu E0 n).2.2.2.2.2.2.2 k j = true from rfl)]
        rfl
      rw [e1, e2]
      show (H[a]? = some (vp_cell _ _)) ↔ (H[a]? = some (vp_cell _ _))
      rw [ec]
    · have e : kEl (kEt E0 n T) σ k = kEl (kFu E0 n) σ k := by
        simp only [kEl, h1, h2, if_false]
        rfl
      rw [e]
theorem kHp_full {E0 : JE} {n T : Nat} {σ : Wd} {H : Heap} (h : ∀ k, k < n → ∀ i, i < 40 → kIsR k i = true → kTm k i < T) : kHp (kEt E0 n T) σ H ↔ kHp (kFu E0 n) σ H := by
  constructor
  · rintro ⟨h1, h2⟩
    refine ⟨fun k q hk => ?_, h2⟩
    obtain ⟨g1, rfl⟩ := kWl_lt hk
    have g1 : k < n := g1
    exact (kAt_full g1 h _).mp (h1 k _ (kWl_at (E := kEt E0 n T) g1))
  · rintro ⟨h1, h2⟩
    refine ⟨fun k q hk => ?_, h2⟩
    obtain ⟨g1, rfl⟩ := kWl_lt hk
    have g1 : k < n := g1
    exact (kAt_full g1 h _).mpr (h1 k _ (kWl_at (E := kFu E0 n) g1))
section KFU
variable {E0 : JE} {M : MI} {rm : Room} {nm : String} {n0 cl sl pc : Nat} {ls : List (Option JV)} {st : List JV} {σ : Wd} {Z : List Frame → Array Value → State → State → Prop}
theorem kg_full {n T : Nat} (h : ∀ k, k < n → ∀ i, i < 40 → kIsR k i = true → kTm k i < T) (kk : KG (kFu E0 n) M rm nm n0 pc ls st σ cl sl Z) : KG (kEt E0 n T) M rm nm n0 pc ls st σ cl sl Z := by
  intro p l e s m args below meth c H locs la C hN hG hP hS hla
  have k2 := kk p l e s m args below meth c H locs la C hN hG ((kHp_full h).mp hP) hS (by rw [kLv_et] at hla; rw [kLv_fu]; exact hla)
  rw [kTr_fu] at k2
  rw [kTr_et]
  exact k2
theorem kg_unfull {n T : Nat} (h : ∀ k, k < n → ∀ i, i < 40 → kIsR k i = true → kTm k i < T) (kk : KG (kEt E0 n T) M rm nm n0 pc ls st σ cl sl Z) : KG (kFu E0 n) M rm nm n0 pc ls st σ cl sl Z := by
  intro p l e s m args below meth c H locs la C hN hG hP hS hla
  have k2 := kk p l e s m args below meth c H locs la C hN hG ((kHp_full h).mpr hP) hS (by rw [kLv_fu] at hla; rw [kLv_et]; exact hla)
  rw [kTr_et] at k2
  rw [kTr_fu]
  exact k2
end KFU
def i_X10_init (σ : Wd) : Option Wd :=
  ((i_X7 1 (zr σ 1)).bind fun σ1 => ((i_X7 7 (zr σ1 7)).bind fun σ2 => ((i_X1_init (zr σ2 13)).bind fun σ3 => ((i_X0_init (zr (i_X5_init (zr (i_X3_init (zr (i_X4 87 (zr σ3 87)) 89)) 90)) 93)).bind fun σ4 => ((X10_refresh (zr (i_X9_init (zr (i_X8_init (zr (i_X6_init (zr (i_X2_init (zr σ4 103)) 107)) 112)) 116)) 119)).bind fun σ5 => some σ5)))))
abbrev rI_X10_init : Room := { frames := 5, cells := 119, slots := 3382, locals := 107 }
set_option maxRecDepth 100000 in
set_option maxHeartbeats 1000000 in
theorem c_X10_init {E0 : JE} (hX : kHX E0) (σ : Wd) {res : Wd} (hT : i_X10_init σ = some res) : kMc E0 yX10_init mX10_init rI_X10_init [.inr 0] 1 0 σ 120 (125) res 119 3382 := by
  refine kMc_of (by decide +kernel) rfl (Nat.le_of_ble_eq_true rfl) ?_
  unfold i_X10_init at hT
  refine kg_aload_n dX10_init_0 (pc' := 1) rfl rfl rfl ?_
  refine kg_objInit (n := 0) oi_RX10_1 (Nat.le_of_ble_eq_true rfl) (Nat.le_of_ble_eq_true rfl) dX10_init_1 (pc' := 4) rfl ?_
  refine kg_aload_n dX10_init_4 (pc' := 5) rfl rfl rfl ?_
  refine kg_new nw_RX10_7 (n := 1) (t := 0) rfl (kTm_all (by decide +kernel) (by decide)) rfl (by decide) (Nat.le_of_ble_eq_true rfl) (Nat.le_of_ble_eq_true rfl) dX10_init_5 (pc' := 8) rfl ?_
  refine kg_dup dX10_init_8 (pc' := 9) rfl ?_
  obtain ⟨σ1, hσ1, hT⟩ := bind_some' hT
  refine kg_callI (as := []) (st := [.inr 1, .inr 0]) il_RX10_9 (c_X7_init (E0 := E0) (s := 1) (t := 0) rfl (by decide) (kTm_all (by decide +kernel) (by decide)) (by decide +kernel) (by decide +kernel) (by decide +kernel) (kTm_all (by decide +kernel) (by decide)) (by decide +kernel) (by decide +kernel) (by decide +kernel) (by decide +kernel) (by decide +kernel) (zr σ 1) hσ1) rfl rfl (by decide) (by decide) ⟨⟨rfl, rfl⟩, Nat.le_of_ble_eq_true rfl, Nat.le_of_ble_eq_true rfl⟩ (Nat.le_of_ble_eq_true rfl) ⟨Nat.le_of_ble_eq_true rfl, Nat.le_of_ble_eq_true rfl⟩ dX10_init_9 (pc' := 12) rfl ?_
  refine kg_to (n2 := 7) (t2 := 5) (cl2 := 6) (sl2 := 47) rfl rfl rfl rfl rfl rfl rfl ?_
  refine kg_putR (n := 7) (t := 5) (q := 1) ff_RX10_10 rfl (by decide) (by decide +kernel) rfl rfl (Nat.le_of_ble_eq_true rfl : 0 < 7) dX10_init_12 (pc' := 15) rfl ?_
  refine kg_aload_n dX10_init_15 (pc' := 16) rfl rfl rfl ?_
  refine kg_new nw_RX10_7 (n := 7) (t := 6) rfl (kTm_all (by decide +kernel) (by decide)) rfl (by decide) (Nat.le_of_ble_eq_true rfl) (Nat.le_of_ble_eq_true rfl) dX10_init_16 (pc' := 19) rfl ?_
  refine kg_dup dX10_init_19 (pc' := 20) rfl ?_
  obtain ⟨σ2, hσ2, hT⟩ := bind_some' hT
  refine kg_callI (as := []) (st := [.inr 7, .inr 0]) il_RX10_9 (c_X7_init (E0 := E0) (s := 7) (t := 6) rfl (by decide) (kTm_all (by decide +kernel) (by decide)) (by decide +kernel) (by decide +kernel) (by decide +kernel) (kTm_all (by decide +kernel) (by decide)) (by decide +kernel) (by decide +kernel) (by decide +kernel) (by decide +kernel) (by decide +kernel) (zr σ1 7) hσ2) rfl rfl (by decide) (by decide) ⟨⟨rfl, rfl⟩, Nat.le_of_ble_eq_true rfl, Nat.le_of_ble_eq_true rfl⟩ (Nat.le_of_ble_eq_true rfl) ⟨Nat.le_of_ble_eq_true rfl, Nat.le_of_ble_eq_true rfl⟩ dX10_init_20 (pc' := 23) rfl ?_
  refine kg_to (n2 := 13) (t2 := 11) (cl2 := 12) (sl2 := 94) rfl rfl rfl rfl rfl rfl rfl ?_
  refine kg_putR (n := 13) (t := 11) (q := 7) ff_RX10_16 rfl (by decide) (by decide +kernel) rfl rfl (Nat.le_of_ble_eq_true rfl : 0 < 13) dX10_init_23 (pc' := 26) rfl ?_
  refine kg_aload_n dX10_init_26 (pc' := 27) rfl rfl rfl ?_
  refine kg_new nw_RX10_19 (n := 13) (t := 12) rfl (kTm_all (by decide +kernel) (by decide)) rfl (by decide) (Nat.le_of_ble_eq_true rfl) (Nat.le_of_ble_eq_true rfl) dX10_init_27 (pc' := 30) rfl ?_
  refine kg_dup dX10_init_30 (pc' := 31) rfl ?_
  obtain ⟨σ3, hσ3, hT⟩ := bind_some' hT
  refine kg_callI (as := []) (st := [.inr 13, .inr 0]) il_RX10_21 (c_X1_init (E0 := E0) hX (zr σ2 13) hσ3) rfl rfl (by decide) (by decide) ⟨⟨rfl, rfl⟩, Nat.le_of_ble_eq_true rfl, Nat.le_of_ble_eq_true rfl⟩ (Nat.le_of_ble_eq_true rfl) ⟨Nat.le_of_ble_eq_true rfl, Nat.le_of_ble_eq_true rfl⟩ dX10_init_31 (pc' := 34) rfl ?_
  refine kg_to (n2 := 87) (t2 := 85) (cl2 := 86) (sl2 := 673) rfl rfl rfl rfl rfl rfl rfl ?_
  refine kg_putR (n := 87) (t := 85) (q := 13) ff_RX10_22 rfl (by decide) (by decide +kernel) rfl rfl (Nat.le_of_ble_eq_true rfl : 0 < 87) dX10_init_34 (pc' := 37) rfl ?_
  refine kg_aload_n dX10_init_37 (pc' := 38) rfl rfl rfl ?_
  refine kg_new nw_RX10_26 (n := 87) (t := 86) rfl (kTm_all (by decide +kernel) (by decide)) rfl (by decide) (Nat.le_of_ble_eq_true rfl) (Nat.le_of_ble_eq_true rfl) dX10_init_38 (pc' := 41) rfl ?_
  refine kg_dup dX10_init_41 (pc' := 42) rfl ?_
  refine kg_sipush dX10_init_42 (pc' := 45) rfl ks_300 ?_
  refine kg_callI (as := [.inl 300]) (st := [.inr 87, .inr 0]) il_RX10_28 (c_X4_init (E0 := E0) (r := 87) (t := 86) (N := 300) (x1 := 300) rfl (by decide) (by decide +kernel) (by decide) (by decide +kernel) (by decide +kernel) (by decide +kernel) (zr σ3 87)) rfl rfl (by decide) (by decide) ⟨⟨rfl, rfl⟩, Nat.le_of_ble_eq_true rfl, Nat.le_of_ble_eq_true rfl⟩ (Nat.le_of_ble_eq_true rfl) ⟨Nat.le_of_ble_eq_true rfl, Nat.le_of_ble_eq_true rfl⟩ dX10_init_45 (pc' := 48) rfl ?_
  refine kg_to (n2 := 89) (t2 := 87) (cl2 := 88) (sl2 := 975) rfl rfl rfl rfl rfl rfl rfl ?_
  refine kg_putR (n := 89) (t := 87) (q := 87) ff_RX10_31 rfl (by decide) (by decide +kernel) rfl rfl (Nat.le_of_ble_eq_true rfl : 0 < 89) dX10_init_48 (pc' := 51) rfl ?_
  refine kg_aload_n dX10_init_51 (pc' := 52) rfl rfl rfl ?_
  refine kg_new nw_RX10_35 (n := 89) (t := 88) rfl (kTm_all (by decide +kernel) (by decide)) rfl (by decide) (Nat.le_of_ble_eq_true rfl) (Nat.le_of_ble_eq_true rfl) dX10_init_52 (pc' := 55) rfl ?_
  refine kg_dup dX10_init_55 (pc' := 56) rfl ?_
  refine kg_aload_n dX10_init_56 (pc' := 57) rfl rfl rfl ?_
  refine kg_getR f_RX10_31 rfl (Nat.le_of_ble_eq_true rfl : 0 < 90) (kMt_ok (by decide +kernel)) (q := 87) rfl dX10_init_57 (pc' := 60) rfl ?_
  refine kg_aload_n dX10_init_60 (pc' := 61) rfl rfl rfl ?_
  refine kg_getR f_RX10_16 rfl (Nat.le_of_ble_eq_true rfl : 0 < 90) (kMt_ok (by decide +kernel)) (q := 7) rfl dX10_init_61 (pc' := 64) rfl ?_
  refine kg_callI (as := [.inr 87, .inr 7]) (st := [.inr 89, .inr 0]) il_RX10_37 (c_X3_init (E0 := E0) (zr (i_X4 87 (zr σ3 87)) 89)) rfl rfl (by decide) (by decide) ⟨⟨rfl, rfl⟩, Nat.le_of_ble_eq_true rfl, Nat.le_of_ble_eq_true rfl⟩ (Nat.le_of_ble_eq_true rfl) ⟨Nat.le_of_ble_eq_true rfl, Nat.le_of_ble_eq_true rfl⟩ dX10_init_64 (pc' := 67) rfl ?_
  refine kg_to (n2 := 90) (t2 := 90) (cl2 := 89) (sl2 := 979) rfl rfl rfl rfl rfl rfl rfl ?_
  refine kg_putR (n := 90) (t := 90) (q := 89) ff_RX10_40 rfl (by decide) (by decide +kernel) rfl rfl (Nat.le_of_ble_eq_true rfl : 0 < 90) dX10_init_67 (pc' := 70) rfl ?_
  refine kg_aload_n dX10_init_70 (pc' := 71) rfl rfl rfl ?_
  refine kg_new nw_RX10_44 (n := 90) (t := 91) rfl (kTm_all (by decide +kernel) (by decide)) rfl (by decide) (Nat.le_of_ble_eq_true rfl) (Nat.le_of_ble_eq_true rfl) dX10_init_71 (pc' := 74) rfl ?_
  refine kg_dup dX10_init_74 (pc' := 75) rfl ?_
  refine kg_callI (as := []) (st := [.inr 90, .inr 0]) il_RX10_46 (c_X5_init (E0 := E0) (zr (i_X3_init (zr (i_X4 87 (zr σ3 87)) 89)) 90)) rfl rfl (by decide) (by decide) ⟨⟨rfl, rfl⟩, Nat.le_of_ble_eq_true rfl, Nat.le_of_ble_eq_true rfl⟩ (Nat.le_of_ble_eq_true rfl) ⟨Nat.le_of_ble_eq_true rfl, Nat.le_of_ble_eq_true rfl⟩ dX10_init_75 (pc' := 78) rfl ?_
  refine kg_to (n2 := 93) (t2 := 93) (cl2 := 92) (sl2 := 1282) rfl rfl rfl rfl rfl rfl rfl ?_
  refine kg_putR (n := 93) (t := 93) (q := 90) ff_RX10_47 rfl (by decide) (by decide +kernel) rfl rfl (Nat.le_of_ble_eq_true rfl : 0 < 93) dX10_init_78 (pc' := 81) rfl ?_
  refine kg_aload_n dX10_init_81 (pc' := 82) rfl rfl rfl ?_
  refine kg_new nw_RX10_51 (n := 93) (t := 94) rfl (kTm_all (by decide +kernel) (by decide)) rfl (by decide) (Nat.le_of_ble_eq_true rfl) (Nat.le_of_ble_eq_true rfl) dX10_init_82 (pc' := 85) rfl ?_
  refine kg_dup dX10_init_85 (pc' := 86) rfl ?_
  obtain ⟨σ4, hσ4, hT⟩ := bind_some' hT
  refine kg_callI (as := []) (st := [.inr 93, .inr 0]) il_RX10_53 (c_X0_init (E0 := E0) (zr (i_X5_init (zr (i_X3_init (zr (i_X4 87 (zr σ3 87)) 89)) 90)) 93) hσ4) rfl rfl (by decide) (by decide) ⟨⟨rfl, rfl⟩, Nat.le_of_ble_eq_true rfl, Nat.le_of_ble_eq_true rfl⟩ (Nat.le_of_ble_eq_true rfl) ⟨Nat.le_of_ble_eq_true rfl, Nat.le_of_ble_eq_true rfl⟩ dX10_init_86 (pc' := 89) rfl ?_
  refine kg_to (n2 := 103) (t2 := 103) (cl2 := 102) (sl2 := 2069) rfl rfl rfl rfl rfl rfl rfl ?_
  refine kg_putR (n := 103) (t := 103) (q := 93) ff_RX10_54 rfl (by decide) (by decide +kernel) rfl rfl (Nat.le_of_ble_eq_true rfl : 0 < 103) dX10_init_89 (pc' := 92) rfl ?_
  refine kg_aload_n dX10_init_92 (pc' := 93) rfl rfl rfl ?_
  refine kg_new nw_RX10_58 (n := 103) (t := 104) rfl (kTm_all (by decide +kernel) (by decide)) rfl (by decide) (Nat.le_of_ble_eq_true rfl) (Nat.le_of_ble_eq_true rfl) dX10_init_93 (pc' := 96) rfl ?_
  refine kg_dup dX10_init_96 (pc' := 97) rfl ?_
  refine kg_aload_n dX10_init_97 (pc' := 98) rfl rfl rfl ?_
  refine kg_getR f_RX10_54 rfl (Nat.le_of_ble_eq_true rfl : 0 < 104) (kMt_ok (by decide +kernel)) (q := 93) rfl dX10_init_98 (pc' := 101) rfl ?_
  refine kg_callI (as := [.inr 93]) (st := [.inr 103, .inr 0]) il_RX10_60 (c_X2_init (E0 := E0) (zr σ4 103)) rfl rfl (by decide) (by decide) ⟨⟨rfl, rfl⟩, Nat.le_of_ble_eq_true rfl, Nat.le_of_ble_eq_true rfl⟩ (Nat.le_of_ble_eq_true rfl) ⟨Nat.le_of_ble_eq_true rfl, Nat.le_of_ble_eq_true rfl⟩ dX10_init_101 (pc' := 104) rfl ?_
  refine kg_to (n2 := 107) (t2 := 108) (cl2 := 106) (sl2 := 2458) rfl rfl rfl rfl rfl rfl rfl ?_
  refine kg_putR (n := 107) (t := 108) (q := 103) ff_RX10_63 rfl (by decide) (by decide +kernel) rfl rfl (Nat.le_of_ble_eq_true rfl : 0 < 107) dX10_init_104 (pc' := 107) rfl ?_
  refine kg_aload_n dX10_init_107 (pc' := 108) rfl rfl rfl ?_
  refine kg_new nw_RX10_67 (n := 107) (t := 109) rfl (kTm_all (by decide +kernel) (by decide)) rfl (by decide) (Nat.le_of_ble_eq_true rfl) (Nat.le_of_ble_eq_true rfl) dX10_init_108 (pc' := 111) rfl ?_
  refine kg_dup dX10_init_111 (pc' := 112) rfl ?_
  refine kg_aload_n dX10_init_112 (pc' := 113) rfl rfl rfl ?_
  refine kg_getR f_RX10_54 rfl (Nat.le_of_ble_eq_true rfl : 0 < 108) (kMt_ok (by decide +kernel)) (q := 93) rfl dX10_init_113 (pc' := 116) rfl ?_
  refine kg_getR f_RX10_69 rfl (Nat.le_of_ble_eq_true rfl : 93 < 108) (kMt_ok (by decide +kernel)) (q := 95) rfl dX10_init_116 (pc' := 119) rfl ?_
  refine kg_callI (as := [.inr 95]) (st := [.inr 107, .inr 0]) il_RX10_72 (c_X6_init (E0 := E0) (zr (i_X2_init (zr σ4 103)) 107)) rfl rfl (by decide) (by decide) ⟨⟨rfl, rfl⟩, Nat.le_of_ble_eq_true rfl, Nat.le_of_ble_eq_true rfl⟩ (Nat.le_of_ble_eq_true rfl) ⟨Nat.le_of_ble_eq_true rfl, Nat.le_of_ble_eq_true rfl⟩ dX10_init_119 (pc' := 122) rfl ?_
  refine kg_to (n2 := 112) (t2 := 114) (cl2 := 111) (sl2 := 2976) rfl rfl rfl rfl rfl rfl rfl ?_
  refine kg_putR (n := 112) (t := 114) (q := 107) ff_RX10_75 rfl (by decide) (by decide +kernel) rfl rfl (Nat.le_of_ble_eq_true rfl : 0 < 112) dX10_init_122 (pc' := 125) rfl ?_
  refine kg_aload_n dX10_init_125 (pc' := 126) rfl rfl rfl ?_
  refine kg_new nw_RX10_79 (n := 112) (t := 115) rfl (kTm_all (by decide +kernel) (by decide)) rfl (by decide) (Nat.le_of_ble_eq_true rfl) (Nat.le_of_ble_eq_true rfl) dX10_init_126 (pc' := 129) rfl ?_
  refine kg_dup dX10_init_129 (pc' := 130) rfl ?_
  refine kg_aload_n dX10_init_130 (pc' := 131) rfl rfl rfl ?_
  refine kg_getR f_RX10_54 rfl (Nat.le_of_ble_eq_true rfl : 0 < 113) (kMt_ok (by decide +kernel)) (q := 93) rfl dX10_init_131 (pc' := 134) rfl ?_
  refine kg_callI (as := [.inr 93]) (st := [.inr 112, .inr 0]) il_RX10_81 (c_X8_init (E0 := E0) (zr (i_X6_init (zr (i_X2_init (zr σ4 103)) 107)) 112)) rfl rfl (by decide) (by decide) ⟨⟨rfl, rfl⟩, Nat.le_of_ble_eq_true rfl, Nat.le_of_ble_eq_true rfl⟩ (Nat.le_of_ble_eq_true rfl) ⟨Nat.le_of_ble_eq_true rfl, Nat.le_of_ble_eq_true rfl⟩ dX10_init_134 (pc' := 137) rfl ?_
  refine kg_to (n2 := 116) (t2 := 119) (cl2 := 115) (sl2 := 3237) rfl rfl rfl rfl rfl rfl rfl ?_
  refine kg_putR (n := 116) (t := 119) (q := 112) ff_RX10_82 rfl (by decide) (by decide +kernel) rfl rfl (Nat.le_of_ble_eq_true rfl : 0 < 116) dX10_init_137 (pc' := 140) rfl ?_
  refine kg_aload_n dX10_init_140 (pc' := 141) rfl rfl rfl ?_
  refine kg_new nw_RX10_86 (n := 116) (t := 120) rfl (kTm_all (by decide +kernel) (by decide)) rfl (by decide) (Nat.le_of_ble_eq_true rfl) (Nat.le_of_ble_eq_true rfl) dX10_init_141 (pc' := 144) rfl ?_
  refine kg_dup dX10_init_144 (pc' := 145) rfl ?_
  refine kg_aload_n dX10_init_145 (pc' := 146) rfl rfl rfl ?_
  refine kg_getR f_RX10_54 rfl (Nat.le_of_ble_eq_true rfl : 0 < 117) (kMt_ok (by decide +kernel)) (q := 93) rfl dX10_init_146 (pc' := 149) rfl ?_
  refine kg_callI (as := [.inr 93]) (st := [.inr 116, .inr 0]) il_RX10_88 (c_X9_init (E0 := E0) (zr (i_X8_init (zr (i_X6_init (zr (i_X2_init (zr σ4 103)) 107)) 112)) 116)) rfl rfl (by decide) (by decide) ⟨⟨rfl, rfl⟩, Nat.le_of_ble_eq_true rfl, Nat.le_of_ble_eq_true rfl⟩ (Nat.le_of_ble_eq_true rfl) ⟨Nat.le_of_ble_eq_true rfl, Nat.le_of_ble_eq_true rfl⟩ dX10_init_149 (pc' := 152) rfl ?_
  refine kg_to (n2 := 119) (t2 := 123) (cl2 := 118) (sl2 := 3375) rfl rfl rfl rfl rfl rfl rfl ?_
  refine kg_putR (n := 119) (t := 123) (q := 116) ff_RX10_89 rfl (by decide) (by decide +kernel) rfl rfl (Nat.le_of_ble_eq_true rfl : 0 < 119) dX10_init_152 (pc' := 155) rfl ?_
  refine kg_aload_n dX10_init_155 (pc' := 156) rfl rfl rfl ?_
  refine kg_bipush dX10_init_156 (pc' := 158) rfl kb_7 ?_
  refine kg_newa (atype := .int) (j := 0) (n := 119) (t := 124) (N := 7) rfl (by decide) (kMem 130 (by decide +kernel) rfl) rfl rfl rfl (by decide +kernel) (by decide +kernel) (by decide) rfl (by decide) (Nat.le_of_ble_eq_true rfl) (Nat.le_of_ble_eq_true rfl) dX10_init_158 (pc' := 160) rfl ?_
  refine kg_putR (n := 120) (t := 124) (q := 119) ff_RX10_93 rfl (by decide) (by decide +kernel) rfl rfl (Nat.le_of_ble_eq_true rfl : 0 < 120) dX10_init_160 (pc' := 163) rfl ?_
  refine kg_aload_n dX10_init_163 (pc' := 164) rfl rfl rfl ?_
  obtain ⟨σ5, hσ5, hT⟩ := bind_some' hT
  refine kg_full (n := 120) (T := 125) (by decide +kernel) ?_
  refine kgVv (as := []) (st := []) l_RX10_97 (m_X10_refresh (kOk_fu (Nat.le_refl _)) (zr (i_X9_init (zr (i_X8_init (zr (i_X6_init (zr (i_X2_init (zr σ4 103)) 107)) 112)) 116)) 119) hσ5) rfl (Nat.le_of_ble_eq_true rfl : 0 < 120) rfl ⟨⟨rfl, rfl⟩, Nat.le_of_ble_eq_true rfl, Nat.le_of_ble_eq_true rfl⟩ ⟨Nat.le_of_ble_eq_true rfl, Nat.le_of_ble_eq_true rfl⟩ (Nat.le_of_ble_eq_true rfl) dX10_init_164 (pc' := 167) rfl ?_
  refine kg_unfull (n := 120) (T := 125) (by decide +kernel) ?_
  have hR := Option.some.inj hT
  subst hR
  exact kg_vret rfl dX10_init_167
def i_X11_init (σ : Wd) : Option Wd :=
  ((X11_starts (up (up (up (up (up (up (up (up (up (up (up (up (up (up (up (up (up (up (zr (zr (zr (zr (zr (zr (zr (zr (zr (zr (zr (zr (zr (zr (zr (zr (zr (zr (zr σ 121) 122) 123) 124) 125) 126) 127) 128) 129) 130) 131) 132) 133) 134) 135) 136) 137) 138) 139) 139 0 112) 139 1 111) 139 2 105) 139 3 110) 139 4 116) 139 5 115) 139 6 0) 139 7 119) 139 8 101) 139 9 105) 139 10 103) 139 11 104) 139 12 116) 139 13 0) 139 14 115) 139 15 101) 139 16 116) 139 17 0) 121).bind fun σ1 => some σ1)
abbrev rI_X11_init : Room := { frames := 1, cells := 19, slots := 2741, locals := 21 }
set_option maxRecDepth 100000 in
set_option maxHeartbeats 1000000 in
theorem c_X11_init {E0 : JE} (σ : Wd) {res : Wd} (hT : i_X11_init σ = some res) : kMc E0 yX11_init mX11_init rI_X11_init [.inr 120] 121 125 σ 140 (144) res 19 2741 := by
  refine kMc_of (by decide +kernel) rfl (Nat.le_of_ble_eq_true rfl) ?_
  unfold i_X11_init at hT
  refine kg_aload_n dX11_init_0 (pc' := 1) rfl rfl rfl ?_
  refine kg_objInit (n := 0) oi_RX11_7 (Nat.le_of_ble_eq_true rfl) (Nat.le_of_ble_eq_true rfl) dX11_init_1 (pc' := 4) rfl ?_
  refine kg_aload_n dX11_init_4 (pc' := 5) rfl rfl rfl ?_
  refine kg_bipush dX11_init_5 (pc' := 7) rfl kb_42 ?_
  refine kg_newa (atype := .int) (j := 0) (n := 121) (t := 125) (N := 42) rfl (by decide) (kMem 130 (by decide +kernel) rfl) rfl rfl rfl (by decide +kernel) (by decide +kernel) (by decide) rfl (by decide) (Nat.le_of_ble_eq_true rfl) (Nat.le_of_ble_eq_true rfl) dX11_init_7 (pc' := 9) rfl ?_
  refine kg_putR (n := 122) (t := 125) (q := 121) ff_RX11_13 rfl (by decide) (by decide +kernel) rfl rfl (Nat.le_of_ble_eq_true rfl : 120 < 122) dX11_init_9 (pc' := 12) rfl ?_
  refine kg_aload_n dX11_init_12 (pc' := 13) rfl rfl rfl ?_
  refine kg_bipush dX11_init_13 (pc' := 15) rfl kb_42 ?_
  refine kg_newa (atype := .int) (j := 0) (n := 122) (t := 126) (N := 42) rfl (by decide) (kMem 130 (by decide +kernel) rfl) rfl rfl rfl (by decide +kernel) (by decide +kernel) (by decide) rfl (by decide) (Nat.le_of_ble_eq_true rfl) (Nat.le_of_ble_eq_true rfl) dX11_init_15 (pc' := 17) rfl ?_
  refine kg_putR (n := 123) (t := 126) (q := 122) ff_RX11_17 rfl (by decide) (by decide +kernel) rfl rfl (Nat.le_of_ble_eq_true rfl : 120 < 123) dX11_init_17 (pc' := 20) rfl ?_
  refine kg_aload_n dX11_init_20 (pc' := 21) rfl rfl rfl ?_
  refine kg_sipush dX11_init_21 (pc' := 24) rfl ks_504 ?_
  refine kg_newa (atype := .int) (j := 0) (n := 123) (t := 127) (N := 504) rfl (by decide) (kMem 130 (by decide +kernel) rfl) rfl rfl rfl (by decide +kernel) (by decide +kernel) (by decide) rfl (by decide) (Nat.le_of_ble_eq_true rfl) (Nat.le_of_ble_eq_true rfl) dX11_init_24 (pc' := 26) rfl ?_
  refine kg_putR (n := 124) (t := 127) (q := 123) ff_RX11_20 rfl (by decide) (by decide +kernel) rfl rfl (Nat.le_of_ble_eq_true rfl : 120 < 124) dX11_init_26 (pc' := 29) rfl ?_
  refine kg_aload_n dX11_init_29 (pc' := 30) rfl rfl rfl ?_
  refine kg_bipush dX11_init_30 (pc' := 32) rfl kb_20 ?_
  refine kg_newa (atype := .int) (j := 0) (n := 124) (t := 128) (N := 20) rfl (by decide) (kMem 130 (by decide +kernel) rfl) rfl rfl rfl (by decide +kernel) (by decide +kernel) (by decide) rfl (by decide) (Nat.le_of_ble_eq_true rfl) (Nat.le_of_ble_eq_true rfl) dX11_init_32 (pc' := 34) rfl ?_
  refine kg_putR (n := 125) (t := 128) (q := 124) ff_RX11_23 rfl (by decide) (by decide +kernel) rfl rfl (Nat.le_of_ble_eq_true rfl : 120 < 125) dX11_init_34 (pc' := 37) rfl ?_
  refine kg_aload_n dX11_init_37 (pc' := 38) rfl rfl rfl ?_
  refine kg_sipush dX11_init_38 (pc' := 41) rfl ks_128 ?_
  refine kg_newa (atype := .boolean) (j := 1) (n := 125) (t := 129) (N := 128) rfl (by decide) (kMem 1250 (by decide +kernel) rfl) rfl rfl rfl (by decide +kernel) (by decide +kernel) (by decide) rfl (by decide) (Nat.le_of_ble_eq_true rfl) (Nat.le_of_ble_eq_true rfl) dX11_init_41 (pc' := 43) rfl ?_
  refine kg_putR (n := 126) (t := 129) (q := 125) ff_RX11_26 rfl (by decide) (by decide +kernel) rfl rfl (Nat.le_of_ble_eq_true rfl : 120 < 126) dX11_init_43 (pc' := 46) rfl ?_
  refine kg_aload_n dX11_init_46 (pc' := 47) rfl rfl rfl ?_
  refine kg_sipush dX11_init_47 (pc' := 50) rfl ks_128 ?_
  refine kg_newa (atype := .int) (j := 0) (n := 126) (t := 130) (N := 128) rfl (by decide) (kMem 130 (by decide +kernel) rfl) rfl rfl rfl (by decide +kernel) (by decide +kernel) (by decide) rfl (by decide) (Nat.le_of_ble_eq_true rfl) (Nat.le_of_ble_eq_true rfl) dX11_init_50 (pc' := 52) rfl ?_
  refine kg_putR (n := 127) (t := 130) (q := 126) ff_RX11_30 rfl (by decide) (by decide +kernel) rfl rfl (Nat.le_of_ble_eq_true rfl : 120 < 127) dX11_init_52 (pc' := 55) rfl ?_
  refine kg_aload_n dX11_init_55 (pc' := 56) rfl rfl rfl ?_
  refine kg_sipush dX11_init_56 (pc' := 59) rfl ks_128 ?_
  refine kg_newa (atype := .int) (j := 0) (n := 127) (t := 131) (N := 128) rfl (by decide) (kMem 130 (by decide +kernel) rfl) rfl rfl rfl (by decide +kernel) (by decide +kernel) (by decide) rfl (by decide) (Nat.le_of_ble_eq_true rfl) (Nat.le_of_ble_eq_true rfl) dX11_init_59 (pc' := 61) rfl ?_
  refine kg_putR (n := 128) (t := 131) (q := 127) ff_RX11_33 rfl (by decide) (by decide +kernel) rfl rfl (Nat.le_of_ble_eq_true rfl : 120 < 128) dX11_init_61 (pc' := 64) rfl ?_
  refine kg_aload_n dX11_init_64 (pc' := 65) rfl rfl rfl ?_
  refine kg_sipush dX11_init_65 (pc' := 68) rfl ks_128 ?_
  refine kg_newa (atype := .boolean) (j := 1) (n := 128) (t := 132) (N := 128) rfl (by decide) (kMem 1250 (by decide +kernel) rfl) rfl rfl rfl (by decide +kernel) (by decide +kernel) (by decide) rfl (by decide) (Nat.le_of_ble_eq_true rfl) (Nat.le_of_ble_eq_true rfl) dX11_init_68 (pc' := 70) rfl ?_
  refine kg_putR (n := 129) (t := 132) (q := 128) ff_RX11_36 rfl (by decide) (by decide +kernel) rfl rfl (Nat.le_of_ble_eq_true rfl : 120 < 129) dX11_init_70 (pc' := 73) rfl ?_
  refine kg_aload_n dX11_init_73 (pc' := 74) rfl rfl rfl ?_
  refine kg_sipush dX11_init_74 (pc' := 77) rfl ks_128 ?_
  refine kg_newa (atype := .int) (j := 0) (n := 129) (t := 133) (N := 128) rfl (by decide) (kMem 130 (by decide +kernel) rfl) rfl rfl rfl (by decide +kernel) (by decide +kernel) (by decide) rfl (by decide) (Nat.le_of_ble_eq_true rfl) (Nat.le_of_ble_eq_true rfl) dX11_init_77 (pc' := 79) rfl ?_
  refine kg_putR (n := 130) (t := 133) (q := 129) ff_RX11_39 rfl (by decide) (by decide +kernel) rfl rfl (Nat.le_of_ble_eq_true rfl : 120 < 130) dX11_init_79 (pc' := 82) rfl ?_
  refine kg_aload_n dX11_init_82 (pc' := 83) rfl rfl rfl ?_
  refine kg_sipush dX11_init_83 (pc' := 86) rfl ks_128 ?_
  refine kg_newa (atype := .int) (j := 0) (n := 130) (t := 134) (N := 128) rfl (by decide) (kMem 130 (by decide +kernel) rfl) rfl rfl rfl (by decide +kernel) (by decide +kernel) (by decide) rfl (by decide) (Nat.le_of_ble_eq_true rfl) (Nat.le_of_ble_eq_true rfl) dX11_init_86 (pc' := 88) rfl ?_
  refine kg_putR (n := 131) (t := 134) (q := 130) ff_RX11_42 rfl (by decide) (by decide +kernel) rfl rfl (Nat.le_of_ble_eq_true rfl : 120 < 131) dX11_init_88 (pc' := 91) rfl ?_
  refine kg_aload_n dX11_init_91 (pc' := 92) rfl rfl rfl ?_
  refine kg_sipush dX11_init_92 (pc' := 95) rfl ks_128 ?_
  refine kg_newa (atype := .int) (j := 0) (n := 131) (t := 135) (N := 128) rfl (by decide) (kMem 130 (by decide +kernel) rfl) rfl rfl rfl (by decide +kernel) (by decide +kernel) (by decide) rfl (by decide) (Nat.le_of_ble_eq_true rfl) (Nat.le_of_ble_eq_true rfl) dX11_init_95 (pc' := 97) rfl ?_
  refine kg_putR (n := 132) (t := 135) (q := 131) ff_RX11_45 rfl (by decide) (by decide +kernel) rfl rfl (Nat.le_of_ble_eq_true rfl : 120 < 132) dX11_init_97 (pc' := 100) rfl ?_
  refine kg_aload_n dX11_init_100 (pc' := 101) rfl rfl rfl ?_
  refine kg_sipush dX11_init_101 (pc' := 104) rfl ks_128 ?_
  refine kg_newa (atype := .int) (j := 0) (n := 132) (t := 136) (N := 128) rfl (by decide) (kMem 130 (by decide +kernel) rfl) rfl rfl rfl (by decide +kernel) (by decide +kernel) (by decide) rfl (by decide) (Nat.le_of_ble_eq_true rfl) (Nat.le_of_ble_eq_true rfl) dX11_init_104 (pc' := 106) rfl ?_
  refine kg_putR (n := 133) (t := 136) (q := 132) ff_RX11_48 rfl (by decide) (by decide +kernel) rfl rfl (Nat.le_of_ble_eq_true rfl : 120 < 133) dX11_init_106 (pc' := 109) rfl ?_
  refine kg_aload_n dX11_init_109 (pc' := 110) rfl rfl rfl ?_
  refine kg_sipush dX11_init_110 (pc' := 113) rfl ks_128 ?_
  refine kg_newa (atype := .int) (j := 0) (n := 133) (t := 137) (N := 128) rfl (by decide) (kMem 130 (by decide +kernel) rfl) rfl rfl rfl (by decide +kernel) (by decide +kernel) (by decide) rfl (by decide) (Nat.le_of_ble_eq_true rfl) (Nat.le_of_ble_eq_true rfl) dX11_init_113 (pc' := 115) rfl ?_
  refine kg_putR (n := 134) (t := 137) (q := 133) ff_RX11_51 rfl (by decide) (by decide +kernel) rfl rfl (Nat.le_of_ble_eq_true rfl : 120 < 134) dX11_init_115 (pc' := 118) rfl ?_
  refine kg_aload_n dX11_init_118 (pc' := 119) rfl rfl rfl ?_
  refine kg_sipush dX11_init_119 (pc' := 122) rfl ks_128 ?_
  refine kg_newa (atype := .boolean) (j := 1) (n := 134) (t := 138) (N := 128) rfl (by decide) (kMem 1250 (by decide +kernel) rfl) rfl rfl rfl (by decide +kernel) (by decide +kernel) (by decide) rfl (by decide) (Nat.le_of_ble_eq_true rfl) (Nat.le_of_ble_eq_true rfl) dX11_init_122 (pc' := 124) rfl ?_
  refine kg_putR (n := 135) (t := 138) (q := 134) ff_RX11_54 rfl (by decide) (by decide +kernel) rfl rfl (Nat.le_of_ble_eq_true rfl : 120 < 135) dX11_init_124 (pc' := 127) rfl ?_
  refine kg_aload_n dX11_init_127 (pc' := 128) rfl rfl rfl ?_
  refine kg_sipush dX11_init_128 (pc' := 131) rfl ks_128 ?_
  refine kg_newa (atype := .int) (j := 0) (n := 135) (t := 139) (N := 128) rfl (by decide) (kMem 130 (by decide +kernel) rfl) rfl rfl rfl (by decide +kernel) (by decide +kernel) (by decide) rfl (by decide) (Nat.le_of_ble_eq_true rfl) (Nat.le_of_ble_eq_true rfl) dX11_init_131 (pc' := 133) rfl ?_
  refine kg_putR (n := 136) (t := 139) (q := 135) ff_RX11_57 rfl (by decide) (by decide +kernel) rfl rfl (Nat.le_of_ble_eq_true rfl : 120 < 136) dX11_init_133 (pc' := 136) rfl ?_
  refine kg_aload_n dX11_init_136 (pc' := 137) rfl rfl rfl ?_
  refine kg_bipush dX11_init_137 (pc' := 139) rfl kb_7 ?_
  refine kg_newa (atype := .int) (j := 0) (n := 136) (t := 140) (N := 7) rfl (by decide) (kMem 130 (by decide +kernel) rfl) rfl rfl rfl (by decide +kernel) (by decide +kernel) (by decide) rfl (by decide) (Nat.le_of_ble_eq_true rfl) (Nat.le_of_ble_eq_true rfl) dX11_init_139 (pc' := 141) rfl ?_
  refine kg_putR (n := 137) (t := 140) (q := 136) ff_RX11_60 rfl (by decide) (by decide +kernel) rfl rfl (Nat.le_of_ble_eq_true rfl : 120 < 137) dX11_init_141 (pc' := 144) rfl ?_
  refine kg_aload_n dX11_init_144 (pc' := 145) rfl rfl rfl ?_
  refine kg_sipush dX11_init_145 (pc' := 148) rfl ks_400 ?_
  refine kg_newa (atype := .int) (j := 0) (n := 137) (t := 141) (N := 400) rfl (by decide) (kMem 130 (by decide +kernel) rfl) rfl rfl rfl (by decide +kernel) (by decide +kernel) (by decide) rfl (by decide) (Nat.le_of_ble_eq_true rfl) (Nat.le_of_ble_eq_true rfl) dX11_init_148 (pc' := 150) rfl ?_
  refine kg_putR (n := 138) (t := 141) (q := 137) ff_RX11_63 rfl (by decide) (by decide +kernel) rfl rfl (Nat.le_of_ble_eq_true rfl : 120 < 138) dX11_init_150 (pc' := 153) rfl ?_
  refine kg_aload_n dX11_init_153 (pc' := 154) rfl rfl rfl ?_
  refine kg_sipush dX11_init_154 (pc' := 157) rfl ks_300 ?_
  refine kg_newa (atype := .int) (j := 0) (n := 138) (t := 142) (N := 300) rfl (by decide) (kMem 130 (by decide +kernel) rfl) rfl rfl rfl (by decide +kernel) (by decide +kernel) (by decide) rfl (by decide) (Nat.le_of_ble_eq_true rfl) (Nat.le_of_ble_eq_true rfl) dX11_init_157 (pc' := 159) rfl ?_
  refine kg_putR (n := 139) (t := 142) (q := 138) ff_RX11_66 rfl (by decide) (by decide +kernel) rfl rfl (Nat.le_of_ble_eq_true rfl : 120 < 139) dX11_init_159 (pc' := 162) rfl ?_
  refine kg_aload_n dX11_init_162 (pc' := 163) rfl rfl rfl ?_
  refine kg_bipush dX11_init_163 (pc' := 165) rfl kb_18 ?_
  refine kg_newa (atype := .byte) (j := 2) (n := 139) (t := 143) (N := 18) rfl (by decide) (kMem 598 (by decide +kernel) rfl) rfl rfl rfl (by decide +kernel) (by decide +kernel) (by decide) rfl (by decide) (Nat.le_of_ble_eq_true rfl) (Nat.le_of_ble_eq_true rfl) dX11_init_165 (pc' := 167) rfl ?_
  refine kg_dup dX11_init_167 (pc' := 168) rfl ?_
  refine kg_iconst dX11_init_168 (pc' := 169) rfl kc_0 ?_
  refine kg_bipush dX11_init_169 (pc' := 171) rfl kb_112 ?_
  refine kg_bast (j := 0) rfl (Nat.le_of_ble_eq_true rfl : 139 < 140) (vp_lit (by decide +kernel)) (y := 112) (by decide +kernel) (by decide +kernel) dX11_init_171 (pc' := 172) rfl ?_
  refine kg_dup dX11_init_172 (pc' := 173) rfl ?_
  refine kg_iconst dX11_init_173 (pc' := 174) rfl kc_1 ?_
  refine kg_bipush dX11_init_174 (pc' := 176) rfl kb_111 ?_
  refine kg_bast (j := 1) rfl (Nat.le_of_ble_eq_true rfl : 139 < 140) (vp_lit (by decide +kernel)) (y := 111) (by decide +kernel) (by decide +kernel) dX11_init_176 (pc' := 177) rfl ?_
  refine kg_dup dX11_init_177 (pc' := 178) rfl ?_
  refine kg_iconst dX11_init_178 (pc' := 179) rfl kc_2 ?_
  refine kg_bipush dX11_init_179 (pc' := 181) rfl kb_105 ?_
  refine kg_bast (j := 2) rfl (Nat.le_of_ble_eq_true rfl : 139 < 140) (vp_lit (by decide +kernel)) (y := 105) (by decide +kernel) (by decide +kernel) dX11_init_181 (pc' := 182) rfl ?_
  refine kg_dup dX11_init_182 (pc' := 183) rfl ?_
  refine kg_iconst dX11_init_183 (pc' := 184) rfl kc_3 ?_
  refine kg_bipush dX11_init_184 (pc' := 186) rfl kb_110 ?_
  refine kg_bast (j := 3) rfl (Nat.le_of_ble_eq_true rfl : 139 < 140) (vp_lit (by decide +kernel)) (y := 110) (by decide +kernel) (by decide +kernel) dX11_init_186 (pc' := 187) rfl ?_
  refine kg_dup dX11_init_187 (pc' := 188) rfl ?_
  refine kg_iconst dX11_init_188 (pc' := 189) rfl kc_4 ?_
  refine kg_bipush dX11_init_189 (pc' := 191) rfl kb_116 ?_
  refine kg_bast (j := 4) rfl (Nat.le_of_ble_eq_true rfl : 139 < 140) (vp_lit (by decide +kernel)) (y := 116) (by decide +kernel) (by decide +kernel) dX11_init_191 (pc' := 192) rfl ?_
  refine kg_dup dX11_init_192 (pc' := 193) rfl ?_
  refine kg_iconst dX11_init_193 (pc' := 194) rfl kc_5 ?_
  refine kg_bipush dX11_init_194 (pc' := 196) rfl kb_115 ?_
  refine kg_bast (j := 5) rfl (Nat.le_of_ble_eq_true rfl : 139 < 140) (vp_lit (by decide +kernel)) (y := 115) (by decide +kernel) (by decide +kernel) dX11_init_196 (pc' := 197) rfl ?_
  refine kg_dup dX11_init_197 (pc' := 198) rfl ?_
  refine kg_bipush dX11_init_198 (pc' := 200) rfl kb_6 ?_
  refine kg_iconst dX11_init_200 (pc' := 201) rfl kc_0 ?_
  refine kg_bast (j := 6) rfl (Nat.le_of_ble_eq_true rfl : 139 < 140) (vp_lit (by decide +kernel)) (y := 0) (by decide +kernel) (by decide +kernel) dX11_init_201 (pc' := 202) rfl ?_
  refine kg_dup dX11_init_202 (pc' := 203) rfl ?_
  refine kg_bipush dX11_init_203 (pc' := 205) rfl kb_7 ?_
  refine kg_bipush dX11_init_205 (pc' := 207) rfl kb_119 ?_
  refine kg_bast (j := 7) rfl (Nat.le_of_ble_eq_true rfl : 139 < 140) (vp_lit (by decide +kernel)) (y := 119) (by decide +kernel) (by decide +kernel) dX11_init_207 (pc' := 208) rfl ?_
  refine kg_dup dX11_init_208 (pc' := 209) rfl ?_
  refine kg_bipush dX11_init_209 (pc' := 211) rfl kb_8 ?_
  refine kg_bipush dX11_init_211 (pc' := 213) rfl kb_101 ?_
  refine kg_bast (j := 8) rfl (Nat.le_of_ble_eq_true rfl : 139 < 140) (vp_lit (by decide +kernel)) (y := 101) (by decide +kernel) (by decide +kernel) dX11_init_213 (pc' := 214) rfl ?_
  refine kg_dup dX11_init_214 (pc' := 215) rfl ?_
  refine kg_bipush dX11_init_215 (pc' := 217) rfl kb_9 ?_
  refine kg_bipush dX11_init_217 (pc' := 219) rfl kb_105 ?_
  refine kg_bast (j := 9) rfl (Nat.le_of_ble_eq_true rfl : 139 < 140) (vp_lit (by decide +kernel)) (y := 105) (by decide +kernel) (by decide +kernel) dX11_init_219 (pc' := 220) rfl ?_
  refine kg_dup dX11_init_220 (pc' := 221) rfl ?_
  refine kg_bipush dX11_init_221 (pc' := 223) rfl kb_10 ?_
  refine kg_bipush dX11_init_223 (pc' := 225) rfl kb_103 ?_
  refine kg_bast (j := 10) rfl (Nat.le_of_ble_eq_true rfl : 139 < 140) (vp_lit (by decide +kernel)) (y := 103) (by decide +kernel) (by decide +kernel) dX11_init_225 (pc' := 226) rfl ?_
  refine kg_dup dX11_init_226 (pc' := 227) rfl ?_
  refine kg_bipush dX11_init_227 (pc' := 229) rfl kb_11 ?_
  refine kg_bipush dX11_init_229 (pc' := 231) rfl kb_104 ?_
  refine kg_bast (j := 11) rfl (Nat.le_of_ble_eq_true rfl : 139 < 140) (vp_lit (by decide +kernel)) (y := 104) (by decide +kernel) (by decide +kernel) dX11_init_231 (pc' := 232) rfl ?_
  refine kg_dup dX11_init_232 (pc' := 233) rfl ?_
  refine kg_bipush dX11_init_233 (pc' := 235) rfl kb_12 ?_
  refine kg_bipush dX11_init_235 (pc' := 237) rfl kb_116 ?_
  refine kg_bast (j := 12) rfl (Nat.le_of_ble_eq_true rfl : 139 < 140) (vp_lit (by decide +kernel)) (y := 116) (by decide +kernel) (by decide +kernel) dX11_init_237 (pc' := 238) rfl ?_
  refine kg_dup dX11_init_238 (pc' := 239) rfl ?_
  refine kg_bipush dX11_init_239 (pc' := 241) rfl kb_13 ?_
  refine kg_iconst dX11_init_241 (pc' := 242) rfl kc_0 ?_
  refine kg_bast (j := 13) rfl (Nat.le_of_ble_eq_true rfl : 139 < 140) (vp_lit (by decide +kernel)) (y := 0) (by decide +kernel) (by decide +kernel) dX11_init_242 (pc' := 243) rfl ?_
  refine kg_dup dX11_init_243 (pc' := 244) rfl ?_
  refine kg_bipush dX11_init_244 (pc' := 246) rfl kb_14 ?_
  refine kg_bipush dX11_init_246 (pc' := 248) rfl kb_115 ?_
  refine kg_bast (j := 14) rfl (Nat.le_of_ble_eq_true rfl : 139 < 140) (vp_lit (by decide +kernel)) (y := 115) (by decide +kernel) (by decide +kernel) dX11_init_248 (pc' := 249) rfl ?_
  refine kg_dup dX11_init_249 (pc' := 250) rfl ?_
  refine kg_bipush dX11_init_250 (pc' := 252) rfl kb_15 ?_
  refine kg_bipush dX11_init_252 (pc' := 254) rfl kb_101 ?_
  refine kg_bast (j := 15) rfl (Nat.le_of_ble_eq_true rfl : 139 < 140) (vp_lit (by decide +kernel)) (y := 101) (by decide +kernel) (by decide +kernel) dX11_init_254 (pc' := 255) rfl ?_
  refine kg_dup dX11_init_255 (pc' := 256) rfl ?_
  refine kg_bipush dX11_init_256 (pc' := 258) rfl kb_16 ?_
  refine kg_bipush dX11_init_258 (pc' := 260) rfl kb_116 ?_
  refine kg_bast (j := 16) rfl (Nat.le_of_ble_eq_true rfl : 139 < 140) (vp_lit (by decide +kernel)) (y := 116) (by decide +kernel) (by decide +kernel) dX11_init_260 (pc' := 261) rfl ?_
  refine kg_dup dX11_init_261 (pc' := 262) rfl ?_
  refine kg_bipush dX11_init_262 (pc' := 264) rfl kb_17 ?_
  refine kg_iconst dX11_init_264 (pc' := 265) rfl kc_0 ?_
  refine kg_bast (j := 17) rfl (Nat.le_of_ble_eq_true rfl : 139 < 140) (vp_lit (by decide +kernel)) (y := 0) (by decide +kernel) (by decide +kernel) dX11_init_265 (pc' := 266) rfl ?_
  refine kg_putR (n := 140) (t := 143) (q := 139) ff_RX11_69 rfl (by decide) (by decide +kernel) rfl rfl (Nat.le_of_ble_eq_true rfl : 120 < 140) dX11_init_266 (pc' := 269) rfl ?_
  refine kg_aload_n dX11_init_269 (pc' := 270) rfl rfl rfl ?_
  refine kg_getR f_RX11_13 rfl (Nat.le_of_ble_eq_true rfl : 120 < 140) (kMt_ok (by decide +kernel)) (q := 121) rfl dX11_init_270 (pc' := 273) rfl ?_
  obtain ⟨σ1, hσ1, hT⟩ := bind_some' hT
  refine kgSv (as := [.inr 121]) (st := []) l_RX11_73 (m_X11_starts (Nat.zero_le _) rfl (Nat.le_of_ble_eq_true rfl : 121 < 140) (up (up (up (up (up (up (up (up (up (up (up (up (up (up (up (up (up (up (zr (zr (zr (zr (zr (zr (zr (zr (zr (zr (zr (zr (zr (zr (zr (zr (zr (zr (zr σ 121) 122) 123) 124) 125) 126) 127) 128) 129) 130) 131) 132) 133) 134) 135) 136) 137) 138) 139) 139 0 112) 139 1 111) 139 2 105) 139 3 110) 139 4 116) 139 5 115) 139 6 0) 139 7 119) 139 8 101) 139 9 105) 139 10 103) 139 11 104) 139 12 116) 139 13 0) 139 14 115) 139 15 101) 139 16 116) 139 17 0) hσ1) rfl ⟨⟨rfl, rfl⟩, Nat.le_of_ble_eq_true rfl, Nat.le_of_ble_eq_true rfl⟩ ⟨Nat.le_of_ble_eq_true rfl, Nat.le_of_ble_eq_true rfl⟩ (Nat.le_of_ble_eq_true rfl) dX11_init_273 (pc' := 276) rfl ?_
  have hR := Option.some.inj hT
  subst hR
  exact kg_vret rfl dX11_init_276
