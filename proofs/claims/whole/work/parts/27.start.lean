/-! ===== the start ===== -/
def kSt (σ0 : Wd) : Option Wd := (i_X10_init (zr σ0 0)).bind fun σ1 => i_X11_init (zr σ1 120)
theorem kXok {B : Nat} {sa : Nat → Nat} {b L : Nat} {xs : Nat → Int32} {E : JE} (hE1 : E.1 = B) (hE2 : kSa E = sa) (hbB : b < B) {u U : State} (hW : u.WarmedH U.vm) (hh : ∀ q : Nat, q < B → U.heap[q]? = u.heap[q]?) (h : kSX E u ∧ va_X b L xs u u.heap) : kSX E U ∧ va_X b L xs U U.heap := by
  subst hE1 hE2
  obtain ⟨⟨h1, ⟨r1, r2, r3, r4, r5, r6⟩, h3, h4, h5⟩, h6⟩ := h
  have hk : ∀ a : Nat, a < u.heap.size → ¬ E.1 ≤ a → U.heap[a]? = u.heap[a]? := fun a _ ha => hh a (Nat.not_le.mp ha)
  exact ⟨⟨(h1.kept hk).moved hW.alike, ⟨r1.warm hW, r2.warm hW, r3.warm hW, r4.warm hW, r5.warm hW, r6.warm hW⟩, (h3.kept hk).moved hW.alike, (h4.kept hk).moved hW.alike, va_AO.moved hW.alike h5⟩, (h6.kept (hh b hbB)).moved hW.alike⟩
set_option maxRecDepth 100000 in
set_option maxHeartbeats 4000000 in
/-- the law from its entry, over steps that agree -/
theorem whole_open {p : Program} {e : Env} {s : State} {m : MethodId} {below : List Frame} {meth : Method} {c : Code} (l : Launch) {b L : Nat} {xs : Nat → Int32} (hL : L ≤ 3072) (C0 : lw_At p s m meth c b L xs) {Inv : Wd → Prop} (hS : SAll Inv) {σs : Wd} (hst : kSt (fun _ _ => 0) = some σs) (hI : Inv σs) : W p l e room_1 s m #[Value.ref b] below meth c s.heap [] 0 0 (lw_Z below #[Value.ref b] s) (entryFrame m ([Value.ref b] : List Value).toArray 4) := by
  obtain ⟨hx, hb, hr, hml, hown, hts, hXv, hbl, hlocks, hgv⟩ := id C0
  have htk : ∀ w ∈ kTb, w.before #[Value.ref b] s = true := fun w h => hts w (List.mem_filter.mp h).1
  obtain ⟨c0, i0, k0⟩ := u_known (C := RX0) (T := TX0) (N := 8) (n := 8) htk inX0 (htk (.instantiable RX0 8) (kMem 210 (by decide +kernel) rfl))
  obtain ⟨c1, i1, k1⟩ := u_known (C := RX1) (T := TX1) (N := 3) (n := 3) htk inX1 (htk (.instantiable RX1 3) (kMem 156 (by decide +kernel) rfl))
  obtain ⟨c2, i2, k2⟩ := u_known (C := RX2) (T := TX2) (N := 5) (n := 5) htk inX2 (htk (.instantiable RX2 5) (kMem 255 (by decide +kernel) rfl))
  obtain ⟨c3, i3, k3⟩ := u_known (C := RX3) (T := TX3) (N := 4) (n := 4) htk inX3 (htk (.instantiable RX3 4) (kMem 178 (by decide +kernel) rfl))
  obtain ⟨c4, i4, k4⟩ := u_known (C := RX4) (T := TX4) (N := 2) (n := 2) htk inX4 (htk (.instantiable RX4 2) (kMem 106 (by decide +kernel) rfl))
  obtain ⟨c5, i5, k5⟩ := u_known (C := RX5) (T := TX5) (N := 1) (n := 1) htk inX5 (htk (.instantiable RX5 1) (kMem 197 (by decide +kernel) rfl))
  obtain ⟨c6, i6, k6⟩ := u_known (C := RX6) (T := TX6) (N := 6) (n := 6) htk inX6 (htk (.instantiable RX6 6) (kMem 277 (by decide +kernel) rfl))
  obtain ⟨c7, i7, k7⟩ := u_known (C := RX7) (T := TX7) (N := 4) (n := 4) htk inX7 (htk (.instantiable RX7 4) (kMem 100 (by decide +kernel) rfl))
  obtain ⟨c8, i8, k8⟩ := u_known (C := RX8) (T := TX8) (N := 3) (n := 3) htk inX8 (htk (.instantiable RX8 3) (kMem 302 (by decide +kernel) rfl))
  obtain ⟨c9, i9, k9⟩ := u_known (C := RX9) (T := TX9) (N := 3) (n := 3) htk inX9 (htk (.instantiable RX9 3) (kMem 321 (by decide +kernel) rfl))
  obtain ⟨c10, i10, k10⟩ := u_known (C := RX10) (T := TX10) (N := 12) (n := 12) htk inX10 (htk (.instantiable RX10 12) (kMem 92 (by decide +kernel) rfl))
  obtain ⟨c11, i11, k11⟩ := u_known (C := RX11) (T := TX11) (N := 30) (n := 30) htk inX11 (htk (.instantiable RX11 30) (kMem 1152 (by decide +kernel) rfl))
  obtain ⟨dC, dI, hKc⟩ : ∃ (dC : Nat → ClassId) (dI : Nat → Nat → Nat), ∀ (k : Nat) (q : vw_C), vwCl[k]? = some q → u_Kn s q.1 q.2.1 q.2.2 (dC k) (dI k) := by
    refine ⟨fun k => [c0, c1, c2, c3, c4, c5, c6, c7, c8, c9, c10, c11].getD k c0, fun k => [i0, i1, i2, i3, i4, i5, i6, i7, i8, i9, i10, i11].getD k i0, ?_⟩
    intro k q hq
    match k, hq with
    | 0, hq => cases hq; exact k0
    | 1, hq => cases hq; exact k1
    | 2, hq => cases hq; exact k2
    | 3, hq => cases hq; exact k3
    | 4, hq => cases hq; exact k4
    | 5, hq => cases hq; exact k5
    | 6, hq => cases hq; exact k6
    | 7, hq => cases hq; exact k7
    | 8, hq => cases hq; exact k8
    | 9, hq => cases hq; exact k9
    | 10, hq => cases hq; exact k10
    | 11, hq => cases hq; exact k11
    | k + 12, hq => simp [vwCl] at hq
  obtain ⟨cI, hAcI⟩ : ∃ cA : ClassId, ArrOfT s cA .int ∧ va_RA s cA .int := by
    obtain ⟨cA, kA, comp, f1, f2, f3⟩ := Cond.arrayClass_spec (htk (.arrayClass .int) (kMem 130 (by decide +kernel) rfl))
    exact ⟨cA, fun n z => ⟨(fun k h => by cases h), kA, f2, comp, f3⟩, f1⟩
  obtain ⟨cZ, hAcZ⟩ : ∃ cA : ClassId, ArrOfT s cA .boolean ∧ va_RA s cA .boolean := by
    obtain ⟨cA, kA, comp, f1, f2, f3⟩ := Cond.arrayClass_spec (htk (.arrayClass .boolean) (kMem 1250 (by decide +kernel) rfl))
    exact ⟨cA, fun n z => ⟨(fun k h => by cases h), kA, f2, comp, f3⟩, f1⟩
  obtain ⟨cB, hAcB⟩ : ∃ cA : ClassId, ArrOfT s cA .byte ∧ va_RA s cA .byte := by
    obtain ⟨cA, kA, comp, f1, f2, f3⟩ := Cond.arrayClass_spec (htk (.arrayClass .byte) (kMem 598 (by decide +kernel) rfl))
    exact ⟨cA, fun n z => ⟨(fun k h => by cases h), kA, f2, comp, f3⟩, f1⟩
  obtain ⟨cS, hAS⟩ : ∃ cA : ClassId, ArrOfT s cA (.object "UnionFamilies$State") ∧ va_RA s cA (.object "UnionFamilies$State") := by
    obtain ⟨comp, cA, kA, f1, -, f2, f3, f4⟩ := Cond.arrayOver_spec (hts (.arrayOver (.object "UnionFamilies$State")) (List.mem_of_getElem? (i := 162) (by decide +kernel)))
    exact ⟨cA, fun n z => ⟨(fun k h => by cases h), kA, f2, comp, f3⟩, kA, comp, f2, f3, f1, f4⟩
  have hsz : ∀ a : Nat, a < s.heap.size → ¬ s.heap.size ≤ a := fun a h => Nat.not_le.mpr h
  have hs := flat_of_before _ hgv
  obtain ⟨adK, adV, hSt, hTm⟩ := vk_Sof (args := #[Value.ref b]) (s := s) (N := 3) (tm := fun i => match i with | 0 => .string "UnionFamilies$Reader" 47 | 1 => .string "UnionFamilies$Reader" 56 | _ => .string "UnionFamilies$Reader" 61) (len := kSN) (byt := kSB) (A := fun q => s.heap.size ≤ q)
    (by decide +kernel)
    (fun i hi => by rcases (show i = 0 ∨ i = 1 ∨ i = 2 by omega) with rfl | rfl | rfl <;> exact hs _ (by decide +kernel))
    (fun i hi => by rcases (show i = 0 ∨ i = 1 ∨ i = 2 by omega) with rfl | rfl | rfl <;> exact hs _ (by decide +kernel))
    (fun i hi => by rcases (show i = 0 ∨ i = 1 ∨ i = 2 by omega) with rfl | rfl | rfl <;> exact hs _ (by decide +kernel))
    (fun i hi => by rcases (show i = 0 ∨ i = 1 ∨ i = 2 by omega) with rfl | rfl | rfl <;> exact hs _ (by decide +kernel))
    (fun i hi j hj => by
      rcases (show i = 0 ∨ i = 1 ∨ i = 2 by omega) with rfl | rfl | rfl
      · have hj : j < 6 := hj
        rcases (show j = 0 ∨ j = 1 ∨ j = 2 ∨ j = 3 ∨ j = 4 ∨ j = 5 by omega) with rfl | rfl | rfl | rfl | rfl | rfl <;> exact hs _ (by decide +kernel)
      · have hj : j < 6 := hj
        rcases (show j = 0 ∨ j = 1 ∨ j = 2 ∨ j = 3 ∨ j = 4 ∨ j = 5 by omega) with rfl | rfl | rfl | rfl | rfl | rfl <;> exact hs _ (by decide +kernel)
      · have hj : j < 3 := hj
        rcases (show j = 0 ∨ j = 1 ∨ j = 2 by omega) with rfl | rfl | rfl <;> exact hs _ (by decide +kernel))
    (fun i j hi hj hne => by
      rcases (show i = 0 ∨ i = 1 ∨ i = 2 by omega) with rfl | rfl | rfl <;> rcases (show j = 0 ∨ j = 1 ∨ j = 2 by omega) with rfl | rfl | rfl <;> first | exact absurd rfl hne | exact Or.inl (hs _ (by decide +kernel)) | exact Or.inr (hs _ (by decide +kernel)))
    hsz
  have t0 := hTm 0 (by decide)
  have t1 := hTm 1 (by decide)
  have t2 := hTm 2 (by decide)
  have t3 := va_eqR (t := .string "UnionFamilies$Reader" 47) (u := .string "UnionFamilies$Speller" 23) (hs _ (by decide +kernel)) t0
  have t4 := va_eqR (t := .string "UnionFamilies$Reader" 56) (u := .string "UnionFamilies$Speller" 41) (hs _ (by decide +kernel)) t1
  have t5 := va_eqR (t := .string "UnionFamilies$Reader" 61) (u := .string "UnionFamilies$Speller" 52) (hs _ (by decide +kernel)) t2
  obtain ⟨sa, hsa0, hsa1, hsa2, hsa3⟩ : ∃ sa : Nat → Nat, (∀ i, i < 3 → sa i = adK i) ∧ (∀ i, i < 3 → sa (10 + i) = adV i) ∧ sa 1000 = b ∧ True :=
    ⟨fun k => if k < 3 then adK k else if k < 100 then adV (k - 10) else b, fun i hi => if_pos hi, fun i hi => by
      show (if 10 + i < 3 then _ else if 10 + i < 100 then adV (10 + i - 10) else b) = adV i
      rw [if_neg (by omega), if_pos (by omega), Nat.add_sub_cancel_left], rfl, trivial⟩
  have hbase : ∃ E : JE, E = (s.heap.size, s.heap, (dC, dI), (fun k => [cI, cZ, cB, cS].getD k cI), 0, sa, (fun _ => True), fun _ _ => true) := ⟨_, rfl⟩
  obtain ⟨Eb, hEb⟩ := hbase
  obtain ⟨E0, hE0⟩ : ∃ E : JE, E = (s.heap.size, s.heap, (dC, dI), (fun k => [cI, cZ, cB, cS].getD k cI), 0, sa, (fun U => kSX Eb U ∧ va_X b L xs U U.heap), fun _ _ => true) := ⟨_, rfl⟩
  have hsx : ∀ U, kSX Eb U ↔ kSX E0 U := fun U => by subst hE0 hEb; exact Iff.rfl
  have hXt : kHX E0 := fun U h => by subst hE0; exact (hsx U).mp h.1
  have hXS : kXS (kFu E0 140) b L xs := by
    subst hE0
    exact ⟨hsa2, hbl, fun U h => h.2⟩
  have hEok : kEok E0 := by
    subst hE0
    refine ⟨Nat.zero_le _, fun u U hW hh h => ?_⟩
    exact kXok (E := Eb) (B := s.heap.size) (sa := sa) (by rw [hEb]) (by rw [hEb]) hbl hW hh h
  have hX0 : E0.2.2.2.2.2.2.1 s := by
    subst hE0
    refine ⟨?_, hXv⟩
    rw [hEb]
    refine ⟨?_, ⟨?_, ?_, ?_, ?_, ?_, ?_⟩, va_Zof (hts (.laysStatic "java/lang/String" "COMPACT_STRINGS" "Z") (List.mem_of_getElem? (i := 497) (by decide +kernel))) (htk (.initialized "java/lang/String") (kMem 87 (by decide +kernel) rfl)) (va_eqi (hs _ (by decide +kernel))) hsz, va_Zqof (hts (.laysStatic "jdk/internal/util/Preconditions" "SIOOBE_FORMATTER" "Ljava/util/function/BiFunction;") (List.mem_of_getElem? (i := 513) (by decide +kernel))) (htk (.initialized "jdk/internal/util/Preconditions") (kMem 89 (by decide +kernel) rfl)) (hs _ (by decide +kernel)) hsz, va_AO.of (hts (.arrayOver (.object "UnionFamilies$State")) (List.mem_of_getElem? (i := 162) (by decide +kernel)))⟩
    · refine ⟨fun i hi => ?_, fun i j hi hj hij => ?_⟩
      · show va_O _ (sa i) _ _ _ ∧ va_OF _ _ _ _ (sa i) _ _ _ ∧ va_OF _ _ _ (.ref (sa (10 + i))) (sa i) _ _ _ ∧ va_T _ (sa (10 + i)) _ _ _ _ _
        rw [hsa0 i hi, hsa1 i hi]
        exact hSt.1 i hi
      · have hij : sa i = sa j := hij
        rw [hsa0 i hi, hsa0 j hj] at hij
        exact hSt.2 i j hi hj hij
    · show vk_R RX3 47 "points" (sa 0) s
      rw [hsa0 0 (by decide)]
      exact vk_R.of (hts (.stringRef RX3 47 "points") (List.mem_of_getElem? (i := 483) (by decide +kernel))) t0
    · show vk_R RX3 56 "weight" (sa 1) s
      rw [hsa0 1 (by decide)]
      exact vk_R.of (hts (.stringRef RX3 56 "weight") (List.mem_of_getElem? (i := 552) (by decide +kernel))) t1
    · show vk_R RX3 61 "set" (sa 2) s
      rw [hsa0 2 (by decide)]
      exact vk_R.of (hts (.stringRef RX3 61 "set") (List.mem_of_getElem? (i := 561) (by decide +kernel))) t2
    · show vk_R RX5 23 "points" (sa 0) s
      rw [hsa0 0 (by decide)]
      exact vk_R.of (hts (.stringRef RX5 23 "points") (List.mem_of_getElem? (i := 1123) (by decide +kernel))) t3
    · show vk_R RX5 41 "weight" (sa 1) s
      rw [hsa0 1 (by decide)]
      exact vk_R.of (hts (.stringRef RX5 41 "weight") (List.mem_of_getElem? (i := 1136) (by decide +kernel))) t4
    · show vk_R RX5 52 "set" (sa 2) s
      rw [hsa0 2 (by decide)]
      exact vk_R.of (hts (.stringRef RX5 52 "set") (List.mem_of_getElem? (i := 1137) (by decide +kernel))) t5
  have hK0 : va_K E0.2.2.1 vwCl (kTys E0) s := by
    subst hE0
    refine ⟨hKc, fun k q hq => ?_⟩
    match k, hq with
    | 0, hq => cases hq; exact hAcI
    | 1, hq => cases hq; exact hAcZ
    | 2, hq => cases hq; exact hAcB
    | 3, hq => cases hq; exact hAS
    | k + 4, hq => simp [kTys] at hq
  have hKE : kEt E0 0 0 = kEt E0 0 0 := rfl
  have hmain : KG (kEt E0 0 0) mL_law room_1 meth.name 0 0 [some (.inr 2000)] [] (fun _ _ => 0) 0 0 kZL := by
    obtain ⟨σa, ha, hst2⟩ := bind_some' hst
    refine kg_new nw_RL_7 (n := 0) (t := 0) rfl (fun _ => Nat.zero_le _) rfl (by decide) (Nat.le_of_ble_eq_true rfl) (Nat.le_of_ble_eq_true rfl) dL_law_0 (pc' := 3) rfl ?_
    refine kg_dup dL_law_3 (pc' := 4) rfl ?_
    refine kg_callI (as := []) (st := [.inr 0]) il_RL_9 (c_X10_init (E0 := E0) hXt (zr (fun _ _ => 0) 0) ha) rfl rfl (by decide) (by decide) ⟨⟨rfl, rfl⟩, Nat.le_of_ble_eq_true rfl, Nat.le_of_ble_eq_true rfl⟩ (Nat.le_of_ble_eq_true rfl) ⟨Nat.le_of_ble_eq_true rfl, Nat.le_of_ble_eq_true rfl⟩ dL_law_4 (pc' := 7) rfl ?_
    refine kg_to (n2 := 120) (t2 := 125) (cl2 := 120) (sl2 := 3394) rfl rfl rfl rfl rfl rfl rfl ?_
    refine kg_astore_n dL_law_7 (pc' := 8) rfl rfl (Nat.le_of_ble_eq_true rfl) (ls' := [some (.inr 2000), some (.inr 0)]) rfl ?_
    refine kg_new nw_RL_10 (n := 120) (t := 125) rfl (kTm_all (by decide +kernel) (by decide)) rfl (by decide) (Nat.le_of_ble_eq_true rfl) (Nat.le_of_ble_eq_true rfl) dL_law_8 (pc' := 11) rfl ?_
    refine kg_dup dL_law_11 (pc' := 12) rfl ?_
    refine kg_callI (as := []) (st := [.inr 120]) il_RL_12 (c_X11_init (E0 := E0) (zr σa 120) hst2) rfl rfl (by decide) (by decide) ⟨⟨rfl, rfl⟩, Nat.le_of_ble_eq_true rfl, Nat.le_of_ble_eq_true rfl⟩ (Nat.le_of_ble_eq_true rfl) ⟨Nat.le_of_ble_eq_true rfl, Nat.le_of_ble_eq_true rfl⟩ dL_law_12 (pc' := 15) rfl ?_
    refine kg_to (n2 := 140) (t2 := 144) (cl2 := 140) (sl2 := 6165) rfl rfl rfl rfl rfl rfl rfl ?_
    refine kg_astore_n dL_law_15 (pc' := 16) rfl rfl (Nat.le_of_ble_eq_true rfl) (ls' := [some (.inr 2000), some (.inr 0), some (.inr 120)]) rfl ?_
    refine kg_iconst dL_law_16 (pc' := 17) rfl kc_0 ?_
    refine kg_istore_n dL_law_17 (pc' := 18) rfl rfl (Nat.le_of_ble_eq_true rfl) (ls' := [some (.inr 2000), some (.inr 0), some (.inr 120), some (.inl 0)]) rfl ?_
    refine kg_full (n := 140) (T := 144) (by decide +kernel) ?_
    exact law_loop hXt hXS hL hS (L + 6) 0 σs (by omega) (Nat.zero_le _) hI
  have hl := lv_entry ([.ref b]) (n := 4) (Nat.le_of_ble_eq_true rfl)
  rw [lg_entry_eq]
  have had : kAd E0 2000 = b := by subst hE0; exact hsa2
  have hle : lv_has ((lg_sl [Value.ref b] ++ List.replicate (4 - (lg_sl [Value.ref b]).length) Slot.unset).toArray) 4 (kLv (kEt E0 0 0) 0 [some (.inr 2000)]) := by
    rw [kLv_et]
    show lv_has _ 4 [(0, .ref (kAd E0 2000))]
    rw [had]
    exact hl
  have hE1 : E0.1 = s.heap.size := by subst hE0; rfl
  have hE2 : E0.2.1 = s.heap := by subst hE0; rfl
  exact hmain p l e s m #[Value.ref b] below meth c s.heap [] _ ⟨hx, hb, hr, hlocks, hml, hown, htk, hK0, ⟨Nat.le_of_eq hE1, fun q _ => by show s.heap[q]? = E0.2.1[q]?; rw [hE2]⟩, ⟨Nat.zero_le _, hEok.2⟩, hX0⟩ rfl (by show s.heap.size = E0.1 + 0; rw [hE1]; rfl) ⟨fun k q hk => by simp [kWl, kEt] at hk, fun q _ => by show s.heap[q]? = E0.2.1[q]?; rw [hE2]⟩ va_S.rf hle
