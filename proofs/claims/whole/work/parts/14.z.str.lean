/-! ===== the three texts ===== -/
def kSB : List (List Int32) := [[112, 111, 105, 110, 116, 115], [119, 101, 105, 103, 104, 116], [115, 101, 116]]
def kSN : List Nat := [6, 6, 3]
abbrev kSa (E : JE) : Nat → Nat := E.2.2.2.2.2.1
def kSX (E : JE) (U : State) : Prop := vk_S 3 kSN kSB (kSa E) (fun i => kSa E (10 + i)) (fun q => E.1 ≤ q) U U.heap ∧ (vk_R RX3 47 "points" (kSa E 0) U ∧ vk_R RX3 56 "weight" (kSa E 1) U ∧ vk_R RX3 61 "set" (kSa E 2) U ∧ vk_R RX5 23 "points" (kSa E 0) U ∧ vk_R RX5 41 "weight" (kSa E 1) U ∧ vk_R RX5 52 "set" (kSa E 2) U) ∧ va_Z "java/lang/String" "COMPACT_STRINGS" "Z" (.int 1) (fun q => E.1 ≤ q) U U.heap ∧ va_Zq "jdk/internal/util/Preconditions" "SIOOBE_FORMATTER" "Ljava/util/function/BiFunction;" (fun q => E.1 ≤ q) U U.heap ∧ va_AO "UnionFamilies$State" U
def kHX (E : JE) : Prop := ∀ U, E.2.2.2.2.2.2.1 U → kSX E U
theorem kAd_s (E : JE) (i : Nat) : kAd E (1000 + i) = kSa E i := by
  rw [kAd, if_neg (by omega), Nat.add_sub_cancel_left]
section KSTR
variable {E : JE} {M : MI} {rm : Room} {pc pc' : Nat} {ls ls' : List (Option JV)} {st : List JV} {σ : Wd} {Q : Option JV → Wd → Prop}
theorem kj_ldcS {index i : Nat} {tx : String} (hX : kHX E) (hs : ∀ U, kSX E U → vk_R M.1 index tx (kSa E i) U) (hd : decode M.2.1 pc = .ok (.ldc index, 2)) (hp : pc + 2 = pc') (kk : KJ E M rm pc' ls (.inr (1000 + i) :: st) σ Q) : KJ E M rm pc ls st σ Q := by
  subst hp
  intro p l e s m args below meth c H locs la C hP hS hla
  have k2 := kk p l e s m args below meth c H locs la C hP hS hla
  rw [List.map_cons, kTr, kAd_s] at k2
  exact va_ldcS C.1 C.2.1 C.2.2.2.2.2.1 (hs s (hX s C.2.2.2.2.2.2.2.2.2.2)) hd k2
theorem kj_getSv {i : Nat} (hX : kHX E) (hi : i < 3) (hM : M.1 = "java/lang/String") (hd : decode M.2.1 pc = .ok (.getfield 9, 3)) (hp : pc + 3 = pc') (kk : KJ E M rm pc' ls (.inr (1000 + (10 + i)) :: st) σ Q) : KJ E M rm pc ls (.inr (1000 + i) :: st) σ Q := by
  subst hp
  intro p l e s m args below meth c H locs la C hP hS hla
  have k2 := kk p l e s m args below meth c H locs la C hP hS hla
  rw [List.map_cons, kTr, kAd_s] at k2
  rw [List.map_cons, kTr, kAd_s]
  exact vk_getf C.1 C.2.1 ((hX s C.2.2.2.2.2.2.2.2.2.2).1.1 i hi).2.2.1 hS (own := "java/lang/String") (by rw [← hM]; exact C.2.2.2.2.2.1) (C.2.2.2.2.2.2.1 _ (kMem 1708 (by decide +kernel) rfl)) (fun _ h => h) hd k2
theorem kj_getSc {i : Nat} (hX : kHX E) (hi : i < 3) (hM : M.1 = "java/lang/String") (hd : decode M.2.1 pc = .ok (.getfield 15, 3)) (hp : pc + 3 = pc') (kk : KJ E M rm pc' ls (.inl 0 :: st) σ Q) : KJ E M rm pc ls (.inr (1000 + i) :: st) σ Q := by
  subst hp
  intro p l e s m args below meth c H locs la C hP hS hla
  have k2 := kk p l e s m args below meth c H locs la C hP hS hla
  rw [List.map_cons, kTr, kAd_s]
  exact vk_getf C.1 C.2.1 ((hX s C.2.2.2.2.2.2.2.2.2.2).1.1 i hi).2.1 hS (own := "java/lang/String") (by rw [← hM]; exact C.2.2.2.2.2.1) (C.2.2.2.2.2.2.1 _ (kMem 1709 (by decide +kernel) rfl)) (fun _ h => h) hd k2
theorem kj_compact (hX : kHX E) (hM : M.1 = "java/lang/String") (hd : decode M.2.1 pc = .ok (.getstatic 38, 3)) (hp : pc + 3 = pc') (kk : KJ E M rm pc' ls (.inl 1 :: st) σ Q) : KJ E M rm pc ls st σ Q := by
  subst hp
  intro p l e s m args below meth c H locs la C hP hS hla
  exact va_gets C.1 C.2.1 (hX s C.2.2.2.2.2.2.2.2.2.2).2.2.1 hS (own := "java/lang/String") (by rw [← hM]; exact C.2.2.2.2.2.1) (C.2.2.2.2.2.2.1 _ (kMem 496 (by decide +kernel) rfl)) (fun _ h => h) hd (kk p l e s m args below meth c H locs la C hP hS hla)
theorem kj_alenS {i : Nat} (hX : kHX E) (hi : i < 3) (hd : decode M.2.1 pc = .ok (.arraylength, 1)) (hp : pc + 1 = pc') (kk : KJ E M rm pc' ls (.inl (nI (kSN.getD i 0)) :: st) σ Q) : KJ E M rm pc ls (.inr (1000 + (10 + i)) :: st) σ Q := by
  subst hp
  intro p l e s m args below meth c H locs la C hP hS hla
  have k2 := kk p l e s m args below meth c H locs la C hP hS hla
  rw [List.map_cons, kTr, kAd_s]
  exact va_tlen C.1 C.2.1 ((hX s C.2.2.2.2.2.2.2.2.2.2).1.1 i hi).2.2.2 hS rfl hd k2
theorem kj_baldS {i : Nat} {k : Int32} (hX : kHX E) (hi : i < 3) (hin : vp_in k (kSN.getD i 0)) (hd : decode M.2.1 pc = .ok (.baload, 1)) (hp : pc + 1 = pc') (kk : KJ E M rm pc' ls (.inl ((kSB.getD i []).getD k.toNatClampNeg 0) :: st) σ Q) : KJ E M rm pc ls (.inl k :: .inr (1000 + (10 + i)) :: st) σ Q := by
  subst hp
  intro p l e s m args below meth c H locs la C hP hS hla
  have k2 := kk p l e s m args below meth c H locs la C hP hS hla
  rw [List.map_cons, List.map_cons, kTr, kTr, kAd_s]
  exact va_tb C.1 C.2.1 ((hX s C.2.2.2.2.2.2.2.2.2.2).1.1 i hi).2.2.2 hS hin rfl hd k2
theorem kj_i2c {x v : Int32} (hv : (x.toUInt32 % 65536).toInt32 = v) (hd : decode M.2.1 pc = .ok (.i2c, 1)) (hp : pc + 1 = pc') (kk : KJ E M rm pc' ls (.inl v :: st) σ Q) : KJ E M rm pc ls (.inl x :: st) σ Q := by
  subst hp
  intro p l e s m args below meth c H locs la C hP hS hla
  exact lv_i2c C.1 C.2.1 hd hv (kk p l e s m args below meth c H locs la C hP hS hla)
theorem kj_nret {v : Int32} {ty : FieldType} (hr : M.2.2.2 = some ty) (hz : narrow ty (.int v) = .int v) (hd : decode M.2.1 pc = .ok (.ireturn, 1)) (hq : Q (some (.inl v)) σ) : KJ E M rm pc ls [.inl v] σ Q := by
  intro p l e s m args below meth c H locs la C hP hS hla
  exact W.zret C.1 C.2.1 (C.2.2.1.trans hr) hz (fun t ht _ => ⟨by rw [ht]; exact hS.1, some (.inl v), σ, rfl, hq, by rw [ht]; exact hP⟩) hS.2.2 hd C.2.2.2.1
/-- a call on a text -/
def kTL (own : String) (index : Nat) (y : MethodName) (My : MI) (n : Nat) : Prop := (∀ w ∈ ([.methodLink own index y, .instanceMethod y, .selects y.cls y y, .initialized y.cls, .code y My.2.1 My.2.2.1 My.2.2.2] : List Cond), w ∈ kTb) ∧ (y.cls ≠ "java/lang/invoke/MethodHandle" ∧ y.cls ≠ "java/lang/invoke/VarHandle" ∧ (parseMethodDescriptor y.desc).map (fun d => d.parameters.length) = some n) ∧ y.cls = "java/lang/String"
theorem kcT {index i : Nat} {y : MethodName} {My : MI} {rmy : Room} {as : List JV} {stk : List JV} {x : Int32} (hX : kHX E) (hi : i < 3) (hw : kTL M.1 index y My as.length) (hM : kMt E y My rmy (.inr (1000 + i) :: as) σ (kQi x σ)) (hstk : as.reverse ++ .inr (1000 + i) :: st = stk) (hroom : (rmy.cells = 0 ∧ rmy.slots = 0) ∧ rmy.frames + 1 ≤ rm.frames ∧ 8 + (My.2.2.1 + 11) + rmy.locals ≤ rm.locals) (hlen : st.length ≤ 8) (hd : decode M.2.1 pc = .ok (.invokevirtual index, 3)) (hp : pc + 3 = pc')
    (kk : KJ E M rm pc' ls (.inl x :: st) σ Q) : KJ E M rm pc ls stk σ Q := by
  subst hp hstk
  intro p l e s m args below meth c H locs la C hP hS hla
  obtain ⟨hw1, hd1, hcl⟩ := hw
  have hG : GoodIn kTb (wsV M.1 index y.cls y (Cond.code y My.2.1 My.2.2.1 My.2.2.2 :: kTb)) := kGood (fun w h => by
    simp only [wsV, List.mem_append, List.mem_cons, List.not_mem_nil, or_false] at h
    rcases h with (rfl | rfl | rfl | rfl) | rfl | h
    · exact hw1 _ (by simp)
    · exact hw1 _ (by simp)
    · exact hw1 _ (by simp)
    · exact hw1 _ (by simp)
    · exact hw1 _ (by simp)
    · exact h)
  have hrec := vk_recv (hX s C.2.2.2.2.2.2.2.2.2.2).1 hi hS
  rw [← kAd_s, ← hcl] at hrec
  refine kj_run C hS hla (va_runV (As := as.map (kTr E)) (b := kAd E (1000 + i)) (rest := st.map (kTr E)) ⟨C.1, C.2.1, C.2.2.2.2.1, C.2.2.2.2.2.1, C.2.2.2.2.2.2.1⟩ (hM l) (cwV as.length C.2.2.2.2.2.2.1 hG rfl hroom.1.1 hroom.1.2 ⟨rfl, hd1⟩ hroom.2) ⟨kPre_blind _, hrec, fun U hU hW => kPre_in (as := .inr (1000 + i) :: as) C hP hS hU hW⟩ rfl (by simp) hla.1 (by simp [kTr]) (lv_room ?_) hd ⟨Nat.zero_le _, Nat.zero_le _⟩) (fun v σ' h => by obtain ⟨rfl, rfl⟩ := h; exact kk)
  have : ∀ st : List JV, ((st.map (kTr E)).map fun v => v.category).sum = st.length := fun st => by
    induction st with
    | nil => rfl
    | cons v t ih => simp only [List.map_cons, List.sum_cons, kTr_cat, List.length_cons, ih]; omega
  rw [this]; exact hlen
end KSTR
theorem lt_RJ0_335 : kTL RJ0 335 yJ0_coder_7d493 mJ0_coder_7d493 0 := ⟨kMemL [492, 493, 494, 87, 495] (by decide +kernel) (by decide +kernel), by decide +kernel, rfl⟩
theorem lt_RJ0_492 : kTL RJ0 492 yJ0_isLatin1_aae02 mJ0_isLatin1_aae02 0 := ⟨kMemL [502, 503, 504, 87, 505] (by decide +kernel) (by decide +kernel), by decide +kernel, rfl⟩
theorem lt_RX3_105 : kTL RX3 105 yJ0_length_8abf5 mJ0_length_8abf5 0 := ⟨kMemL [488, 489, 490, 87, 491] (by decide +kernel) (by decide +kernel), by decide +kernel, rfl⟩
theorem lt_RX3_111 : kTL RX3 111 yJ0_charAt_5068e mJ0_charAt_5068e 1 := ⟨kMemL [498, 499, 500, 87, 501] (by decide +kernel) (by decide +kernel), by decide +kernel, rfl⟩
theorem lt_RX5_60 : kTL RX5 60 yJ0_length_8abf5 mJ0_length_8abf5 0 := ⟨kMemL [1128, 489, 490, 87, 491] (by decide +kernel) (by decide +kernel), by decide +kernel, rfl⟩
theorem lt_RX5_66 : kTL RX5 66 yJ0_charAt_5068e mJ0_charAt_5068e 1 := ⟨kMemL [1129, 499, 500, 87, 501] (by decide +kernel) (by decide +kernel), by decide +kernel, rfl⟩
section KSTM
variable {E : JE} (hX : kHX E) (σ : Wd)
theorem m_J0_coder_7d493 {E : JE} (hX : kHX E) {i : Nat} (hi : i < 3) (σ : Wd) : kMt E yJ0_coder_7d493 mJ0_coder_7d493 rmJ0_coder_7d493 [.inr (1000 + i)] σ (kQi 0 σ) := by
  refine kMt_of (by decide +kernel) rfl (Nat.le_of_ble_eq_true rfl) ?_
  show KJ E _ _ 0 [some (.inr (1000 + i))] [] σ _
  refine kj_compact hX rfl dJ0_coder_7d493_0 (pc' := 3) rfl ?_
  refine kj_if_eq dJ0_coder_7d493_3 (tgt := 13) rfl (pc' := 6) rfl (fun c => absurd c (by decide)) (fun _ => ?_)
  refine kj_aload_n dJ0_coder_7d493_6 (pc' := 7) rfl rfl rfl ?_
  refine kj_getSc hX hi rfl dJ0_coder_7d493_7 (pc' := 10) rfl ?_
  refine kj_goto dJ0_coder_7d493_10 (pc' := 14) rfl ?_
  exact kj_nret (ty := .byte) rfl (by decide +kernel) dJ0_coder_7d493_14 ⟨rfl, rfl⟩
theorem m_J0_isLatin1_aae02 {E : JE} (hX : kHX E) {i : Nat} (hi : i < 3) (σ : Wd) : kMt E yJ0_isLatin1_aae02 mJ0_isLatin1_aae02 rmJ0_isLatin1_aae02 [.inr (1000 + i)] σ (kQi 1 σ) := by
  refine kMt_of (by decide +kernel) rfl (Nat.le_of_ble_eq_true rfl) ?_
  show KJ E _ _ 0 [some (.inr (1000 + i))] [] σ _
  refine kj_compact hX rfl dJ0_isLatin1_aae02_0 (pc' := 3) rfl ?_
  refine kj_if_eq dJ0_isLatin1_aae02_3 (tgt := 17) rfl (pc' := 6) rfl (fun c => absurd c (by decide)) (fun _ => ?_)
  refine kj_aload_n dJ0_isLatin1_aae02_6 (pc' := 7) rfl rfl rfl ?_
  refine kj_getSc hX hi rfl dJ0_isLatin1_aae02_7 (pc' := 10) rfl ?_
  refine kj_if_ne dJ0_isLatin1_aae02_10 (tgt := 17) rfl (pc' := 13) rfl (fun c => absurd rfl c) (fun _ => ?_)
  refine kj_iconst dJ0_isLatin1_aae02_13 (pc' := 14) rfl kc_1 ?_
  refine kj_goto dJ0_isLatin1_aae02_14 (pc' := 18) rfl ?_
  exact kj_zret rfl (Or.inr rfl) dJ0_isLatin1_aae02_18 ⟨rfl, rfl⟩
theorem kShr0 : ∀ i, i < 3 → nI (kSN.getD i 0) >>> ((0 : Int32) &&& 31) = nI (kSN.getD i 0) := by decide +kernel
theorem m_J0_length_8abf5 {E : JE} (hX : kHX E) {i : Nat} (hi : i < 3) (σ : Wd) : kMt E yJ0_length_8abf5 mJ0_length_8abf5 rmJ0_length_8abf5 [.inr (1000 + i)] σ (kQi (nI (kSN.getD i 0)) σ) := by
  refine kMt_of (by decide +kernel) rfl (Nat.le_of_ble_eq_true rfl) ?_
  show KJ E _ _ 0 [some (.inr (1000 + i))] [] σ _
  refine kj_aload_n dJ0_length_8abf5_0 (pc' := 1) rfl rfl rfl ?_
  refine kj_getSv hX hi rfl dJ0_length_8abf5_1 (pc' := 4) rfl ?_
  refine kj_alenS hX hi dJ0_length_8abf5_4 (pc' := 5) rfl ?_
  refine kj_aload_n dJ0_length_8abf5_5 (pc' := 6) rfl rfl rfl ?_
  refine kcT (as := []) (st := [.inl (nI (kSN.getD i 0))]) hX hi lt_RJ0_335 (m_J0_coder_7d493 hX hi σ) rfl ⟨⟨rfl, rfl⟩, Nat.le_of_ble_eq_true rfl, Nat.le_of_ble_eq_true rfl⟩ (Nat.le_of_ble_eq_true rfl) dJ0_length_8abf5_6 (pc' := 9) rfl ?_
  refine kj_ishr dJ0_length_8abf5_9 (pc' := 10) rfl ?_
  rw [kShr0 i hi]
  exact kj_iret rfl dJ0_length_8abf5_10 ⟨rfl, rfl⟩
/-- the check of an index: the third argument is only carried -/
theorem m_J3_checkIndex {E : JE} {σ : Wd} {i n : Int32} {v : Value} (hv : v.category = 1) (h0 : ¬ i < 0) (h1 : i < n) (l : Launch) : Met l yJ3_checkIndex_8e157 (Cond.code yJ3_checkIndex_8e157 mJ3_checkIndex_8e157.2.1 mJ3_checkIndex_8e157.2.2.1 mJ3_checkIndex_8e157.2.2.2 :: kTb) rmJ3_checkIndex_8e157 (va_Pc [.int i, .int n, v] (kPre E σ)) (kQc E (kQi i σ)) 0 0 (fun q => E.1 ≤ q) := by
  refine va_MetF (cc := cJ3_checkIndex_8e157) (maxL := 3) (ret := some .int) (by decide +kernel) rfl ?_
  intro p e s m args below meth c s₁ B hml hvv
  obtain ⟨rfl, hP, hsz, hK, hE, hX⟩ := hvv
  have hx := B.exec
  have hb := B.bytes
  have hr := B.returns
  have hlocks := B.notSynchronized
  have hl := lv_entry [.int i, .int n, v] (n := 3) (by have e1 : (Value.int i).category = 1 := rfl; have e2 : (Value.int n).category = 1 := rfl; simp [lg_sl, hv, e1, e2])
  rw [lg_entry_eq]
  generalize (lg_sl [Value.int i, Value.int n, v] ++ List.replicate (3 - (lg_sl [Value.int i, Value.int n, v]).length) Slot.unset).toArray = la at hl ⊢
  have hl : lv_has la 3 [(0, .int i), (1, .int n), (2, v)] := hl
  refine lv_iload_n hx hb dJ3_checkIndex_8e157_0 rfl (lv_at hl 0 rfl) ?_
  refine lv_if_lt (tgt := 9) hx hb dJ3_checkIndex_8e157_1 (by decide) (fun c => absurd c h0) (fun _ => ?_)
  refine lv_iload_n hx hb dJ3_checkIndex_8e157_4 rfl (lv_at hl 0 rfl) ?_
  refine lv_iload_n hx hb dJ3_checkIndex_8e157_5 rfl (lv_at hl 1 rfl) ?_
  refine lv_icmp_lt (tgt := 16) hx hb dJ3_checkIndex_8e157_6 (by decide) (fun _ => ?_) (fun c => absurd h1 c)
  refine lv_iload_n hx hb dJ3_checkIndex_8e157_16 rfl (lv_at hl 0 rfl) ?_
  exact W.iret (v := i) hx hb hr (fun t ht _ => ⟨by rw [ht]; exact Nat.le_refl _, some (.inl i), σ, rfl, ⟨rfl, rfl⟩, by rw [ht]; exact hP⟩) (fun _ h => by cases h) dJ3_checkIndex_8e157_17 hlocks
theorem kPre_blindV {E : JE} {σ : Wd} (as : List Value) : FrameBlind (va_Pc as (kPre E σ)) := by
  intro a U g mk h
  obtain ⟨h1, h2, h3, h4, h5, h6⟩ := h
  exact ⟨h1, h2, h3, va_K.moved (u := U) (U := U.calling g mk a) (Vm.Alike.refl U.vm) h4, h5, h5.2 U (U.calling g mk a) (State.WarmedH.refl U) (fun _ _ => rfl) h6⟩
theorem m_J0_checkIndex_df160 {E : JE} (hX : kHX E) (σ : Wd) (i n : Int32) (h0 : ¬ i < 0) (h1 : i < n) : kMt E yJ0_checkIndex_df160 mJ0_checkIndex_df160 rmJ0_checkIndex_df160 [.inl i, .inl n] σ (kQv σ) := by
  refine kMt_of (by decide +kernel) rfl (Nat.le_of_ble_eq_true rfl) ?_
  show KJ E _ _ 0 [some (.inl i), some (.inl n)] [] σ _
  refine kj_iload_n dJ0_checkIndex_df160_0 (pc' := 1) rfl rfl rfl ?_
  refine kj_iload_n dJ0_checkIndex_df160_1 (pc' := 2) rfl rfl rfl ?_
  intro p l e s m args below meth c H locs la C hP hS hla
  have hZ := (hX s C.2.2.2.2.2.2.2.2.2.2).2.2.2.1
  obtain ⟨v, hv, hZ⟩ : ∃ v : Value, v.category = 1 ∧ va_Z "jdk/internal/util/Preconditions" "SIOOBE_FORMATTER" "Ljava/util/function/BiFunction;" v (fun q => E.1 ≤ q) s s.heap := by
    rcases hZ with h | ⟨t, h⟩
    · exact ⟨.null, rfl, h⟩
    · exact ⟨.ref t, rfl, h⟩
  refine va_gets C.1 C.2.1 hZ hS (own := "java/lang/String") C.2.2.2.2.2.1 (C.2.2.2.2.2.2.1 _ (kMem 512 (by decide +kernel) rfl)) (fun _ h => h) dJ0_checkIndex_df160_2 ?_
  have hw1 := kMemL (ws := [.methodLink "java/lang/String" 1059 yJ3_checkIndex_8e157, .static yJ3_checkIndex_8e157, .initialized yJ3_checkIndex_8e157.cls, .code yJ3_checkIndex_8e157 mJ3_checkIndex_8e157.2.1 mJ3_checkIndex_8e157.2.2.1 mJ3_checkIndex_8e157.2.2.2]) [514, 515, 89, 516] (by decide +kernel) (by decide +kernel)
  have hG : GoodIn kTb (va_wsS "java/lang/String" 1059 yJ3_checkIndex_8e157 (Cond.code yJ3_checkIndex_8e157 mJ3_checkIndex_8e157.2.1 mJ3_checkIndex_8e157.2.2.1 mJ3_checkIndex_8e157.2.2.2 :: kTb)) := kGood (fun w h => by
    simp only [va_wsS, List.mem_append, List.mem_cons, List.not_mem_nil, or_false] at h
    rcases h with (rfl | rfl | rfl) | rfl | h
    · exact hw1 _ (by simp)
    · exact hw1 _ (by simp)
    · exact hw1 _ (by simp)
    · exact hw1 _ (by simp)
    · exact h)
  refine kj_run (st := []) C hS hla (va_runS (As := [.int i, .int n, v]) (rest := []) ⟨C.1, C.2.1, C.2.2.2.2.1, C.2.2.2.2.2.1, C.2.2.2.2.2.2.1⟩ (m_J3_checkIndex (E := E) (σ := σ) hv h0 h1 l) (va_cwS 3 C.2.2.2.2.2.2.1 hG rfl rfl rfl (by decide +kernel) ⟨Nat.le_of_ble_eq_true rfl, Nat.le_of_ble_eq_true rfl⟩) ⟨kPre_blindV _, fun U hU hW => ⟨rfl, (kPre_in (as := []) C hP hS hU hW).2⟩⟩ rfl rfl hla.1 rfl (lv_room (Nat.le_of_ble_eq_true rfl)) dJ0_checkIndex_df160_5 ⟨Nat.zero_le _, Nat.zero_le _⟩) (fun v σ' h => ?_)
  obtain ⟨rfl, rfl⟩ := h
  show KJ E mJ0_checkIndex_df160 _ 8 [some (.inl i), some (.inl n)] [.inl i] σ' _
  refine kj_pop dJ0_checkIndex_df160_8 (pc' := 9) rfl ?_
  exact kj_vret rfl dJ0_checkIndex_df160_9 ⟨rfl, rfl⟩
theorem kChr : ∀ i, i < 3 → ∀ k, k < kSN.getD i 0 → (((kSB.getD i []).getD k 0 &&& 255).toUInt32 % 65536).toInt32 = (kSB.getD i []).getD k 0 ∧ narrow .char (.int ((kSB.getD i []).getD k 0)) = .int ((kSB.getD i []).getD k 0) := by decide +kernel
theorem kVin {k : Int32} {n : Nat} (h : vp_in k n) (hn : n < 2 ^ 31) : ¬ k < 0 ∧ k < nI n ∧ k.toNatClampNeg < n := by
  have h1 : ¬ k < 0 := fun q => h (Or.inl q)
  have h2 : k.toNatClampNeg < n := Nat.not_le.mp fun q => h (Or.inr q)
  refine ⟨h1, ?_, h2⟩
  rw [Int32.lt_iff_toInt_lt] at h1 ⊢
  rw [nI_toInt hn]
  have e : (0 : Int32).toInt = 0 := rfl
  rw [e] at h1
  have : k.toNatClampNeg = k.toInt.toNat := rfl
  omega
theorem m_J1_charAt_3b067 {E : JE} (hX : kHX E) {i : Nat} (hi : i < 3) (σ : Wd) (k : Int32) (hk : vp_in k (kSN.getD i 0)) : kMt E yJ1_charAt_3b067 mJ1_charAt_3b067 rmJ1_charAt_3b067 [.inr (1000 + (10 + i)), .inl k] σ (kQi ((kSB.getD i []).getD k.toNatClampNeg 0) σ) := by
  have hb := kVin hk ((by decide +kernel : ∀ i, i < 3 → kSN.getD i 0 < 2 ^ 31) i hi)
  obtain ⟨c1, c2⟩ := kChr i hi k.toNatClampNeg hb.2.2
  refine kMt_of (by decide +kernel) rfl (Nat.le_of_ble_eq_true rfl) ?_
  show KJ E _ _ 0 [some (.inr (1000 + (10 + i))), some (.inl k)] [] σ _
  refine kj_iload_n dJ1_charAt_3b067_0 (pc' := 1) rfl rfl rfl ?_
  refine kj_aload_n dJ1_charAt_3b067_1 (pc' := 2) rfl rfl rfl ?_
  refine kj_alenS hX hi dJ1_charAt_3b067_2 (pc' := 3) rfl ?_
  refine kcSv (as := [.inl k, .inl (nI (kSN.getD i 0))]) (st := []) l_RJ1_9 (m_J0_checkIndex_df160 hX σ k (nI (kSN.getD i 0)) hb.1 hb.2.1) rfl ⟨⟨rfl, rfl⟩, Nat.le_of_ble_eq_true rfl, Nat.le_of_ble_eq_true rfl⟩ (Nat.le_of_ble_eq_true rfl) dJ1_charAt_3b067_3 (pc' := 6) rfl ?_
  refine kj_aload_n dJ1_charAt_3b067_6 (pc' := 7) rfl rfl rfl ?_
  refine kj_iload_n dJ1_charAt_3b067_7 (pc' := 8) rfl rfl rfl ?_
  refine kj_baldS hX hi hk dJ1_charAt_3b067_8 (pc' := 9) rfl ?_
  refine kj_sipush dJ1_charAt_3b067_9 (pc' := 12) rfl ks_255 ?_
  refine kj_iand dJ1_charAt_3b067_12 (pc' := 13) rfl ?_
  refine kj_i2c c1 dJ1_charAt_3b067_13 (pc' := 14) rfl ?_
  exact kj_nret (ty := .char) rfl c2 dJ1_charAt_3b067_14 ⟨rfl, rfl⟩
theorem m_J0_charAt_5068e {E : JE} (hX : kHX E) {i : Nat} (hi : i < 3) (σ : Wd) (k : Int32) (hk : vp_in k (kSN.getD i 0)) : kMt E yJ0_charAt_5068e mJ0_charAt_5068e rmJ0_charAt_5068e [.inr (1000 + i), .inl k] σ (kQi ((kSB.getD i []).getD k.toNatClampNeg 0) σ) := by
  have hb := kVin hk ((by decide +kernel : ∀ i, i < 3 → kSN.getD i 0 < 2 ^ 31) i hi)
  obtain ⟨c1, c2⟩ := kChr i hi k.toNatClampNeg hb.2.2
  refine kMt_of (by decide +kernel) rfl (Nat.le_of_ble_eq_true rfl) ?_
  show KJ E _ _ 0 [some (.inr (1000 + i)), some (.inl k)] [] σ _
  refine kj_aload_n dJ0_charAt_5068e_0 (pc' := 1) rfl rfl rfl ?_
  refine kcT (as := []) (st := []) hX hi lt_RJ0_492 (m_J0_isLatin1_aae02 hX hi σ) rfl ⟨⟨rfl, rfl⟩, Nat.le_of_ble_eq_true rfl, Nat.le_of_ble_eq_true rfl⟩ (Nat.le_of_ble_eq_true rfl) dJ0_charAt_5068e_1 (pc' := 4) rfl ?_
  refine kj_if_eq dJ0_charAt_5068e_4 (tgt := 16) rfl (pc' := 7) rfl (fun c => absurd c (by decide)) (fun _ => ?_)
  refine kj_aload_n dJ0_charAt_5068e_7 (pc' := 8) rfl rfl rfl ?_
  refine kj_getSv hX hi rfl dJ0_charAt_5068e_8 (pc' := 11) rfl ?_
  refine kj_iload_n dJ0_charAt_5068e_11 (pc' := 12) rfl rfl rfl ?_
  refine kcSi (as := [.inr (1000 + (10 + i)), .inl k]) (st := []) l_RJ0_495 (m_J1_charAt_3b067 hX hi σ k hk) rfl ⟨⟨rfl, rfl⟩, Nat.le_of_ble_eq_true rfl, Nat.le_of_ble_eq_true rfl⟩ (Nat.le_of_ble_eq_true rfl) dJ0_charAt_5068e_12 (pc' := 15) rfl ?_
  exact kj_nret (ty := .char) rfl c2 dJ0_charAt_5068e_15 ⟨rfl, rfl⟩
end KSTM
