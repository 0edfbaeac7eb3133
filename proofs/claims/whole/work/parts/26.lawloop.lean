/-! THE CLAIM OUT OF ONE WALK OF THE LAW'S BODY. Your part is whole_start (and what it stands on); all else here is the same for every law, but numbers. -/
def R_law : String := "UnionFamiliesLaw"
def lw_P (b : Addr) (xs : List Int32) (args : Array Value) (s : State) : Prop := args = #[.ref b] ∧ s.IntsAt b xs ∧ xs.length ≤ 3072 ∧ (Jvm.Cond.and given_1 narrow_1).before args s = true
def lw_Q (_ : Array Value) (s : State) (o : Outcome) (t : State) : Prop := o = .returned (some (.int 1)) ∧ Framed s o t [] 600000 7302250
def lw_Z (below : List Frame) (a : Array Value) (s : State) : State → Prop := fun t => ∃ o, t.status = .running ∧ Ended t below o ∧ lw_Q a s o t
/-- the law's own end, with 1 on the stack, nothing written that was there before, its room as the claim has it -/
theorem lw_ret {p : Program} {l : Launch} {e : Env} {s : State} {m : MethodId} {below : List Frame} {meth : Method} {c : Code} {b : Nat} (hx : p.tables.exec = Jvm.exec) (hb : c.code = code) (hr : meth.sig.returnType = ret) (hlocks : meth.locks = false) {pc : Nat} {H : Heap} {ls : Array Slot} (hdg : decode code pc = .ok (.ireturn, 1)) : W p l e room_1 s m #[Value.ref b] below meth c H [] 600000 7302250 (lw_Z below #[Value.ref b] s) (F0 m pc ls [.int 1]) := by
  intro T hT X
  obtain ⟨fs, hret, hrun, hended, hW, hframe⟩ := X.leave (v := some (.int 1)) (hlocks := hlocks) (fun h => by rw [hr] at h; cases h)
  have hmeth' : T.vm.method? m = some meth := X.method'
  refine ⟨T.setFrames fs, ?_, .returned (some (.int 1)), hrun, hended, rfl, ⟨_, rfl⟩, hW, hframe⟩
  jvm_step X.here [X.here.top, hx, hb, hdg, hmeth', hr, ret, narrow_b1]
  (try refine ⟨rfl, ?_⟩); (try refine ⟨rfl, ?_⟩)
  first | (intro acts; rw [hret _ acts rfl rfl rfl]) | rw [hret _ _ rfl rfl rfl]
  exact Steps.refl _
/-- what holds at the law's entry: the machine, the code, the tables' words (any of lw_tbl by 'hts w (by decide +kernel)'), the script of L ints xs at the cell b, what the Statement gives of the start (any of its parts by flat_of_before) -/
def lw_At (p : Program) (s : State) (m : MethodId) (meth : Method) (c : Code) (b L : Nat) (xs : Nat → Int32) : Prop :=
  p.tables.exec = Jvm.exec ∧ c.code = code ∧ meth.sig.returnType = ret ∧ c.maxLocals = 4 ∧ s.vm.findClass R_law = some m.cls ∧ (∀ w ∈ lw_tbl, w.before #[Value.ref b] s = true) ∧ va_X b L xs s s.heap ∧ b < s.heap.size ∧ meth.locks = false ∧ (Jvm.Cond.and given_1 narrow_1).before #[Value.ref b] s = true

theorem kb_6L : (Int8.ofInt (6)).toInt32 = 6 := by decide +kernel
theorem kb_63L : (Int8.ofInt (63)).toInt32 = 63 := by decide +kernel
def kZL : List Frame → Array Value → State → State → Prop := fun below args s => lw_Z below args s
theorem lw_retG {p : Program} {l : Launch} {e : Env} {s : State} {m : MethodId} {args : Array Value} {below : List Frame} {meth : Method} {c : Code} (hx : p.tables.exec = Jvm.exec) (hb : c.code = code) (hr : meth.sig.returnType = ret) (hlocks : meth.locks = false) {pc : Nat} {H : Heap} {ls : Array Slot} (hdg : decode code pc = .ok (.ireturn, 1)) : W p l e room_1 s m args below meth c H [] 600000 7302250 (lw_Z below args s) (F0 m pc ls [.int 1]) := by
  intro T hT X
  obtain ⟨fs, hret, hrun, hended, hW, hframe⟩ := X.leave (v := some (.int 1)) (hlocks := hlocks) (fun h => by rw [hr] at h; cases h)
  have hmeth' : T.vm.method? m = some meth := X.method'
  refine ⟨T.setFrames fs, ?_, .returned (some (.int 1)), hrun, hended, rfl, ⟨_, rfl⟩, hW, hframe⟩
  jvm_step X.here [X.here.top, hx, hb, hdg, hmeth', hr, ret, narrow_b1]
  (try refine ⟨rfl, ?_⟩); (try refine ⟨rfl, ?_⟩)
  first | (intro acts; rw [hret _ acts rfl rfl rfl]) | rw [hret _ _ rfl rfl rfl]
  exact Steps.refl _
theorem law_end {E0 : JE} {nm : String} {ls : List (Option JV)} {σ : Wd} : KG (kFu E0 140) mL_law room_1 nm 0 1572 ls [] σ 140 6165 kZL := by
  refine kg_iconst dL_law_1572 (pc' := 1573) rfl kc_1 ?_
  intro p l e s m args below meth c H locs la C hN hG hP hS hla
  refine va_forget (fun q hq => by rw [hG]; exact hS.2.2 q hq) ?_
  refine W.widen (k := 600000) (n := 7302250) (Nat.le_of_ble_eq_true rfl) (Nat.le_of_ble_eq_true rfl) ?_
  exact lw_retG C.1 C.2.1 C.2.2.1 C.2.2.2.1 dL_law_1573
theorem nI_6 (i : Nat) : nI i + Int32.ofInt 6 = nI (i + 6) := by
  rw [← nI_add]
  rfl
set_option maxRecDepth 100000 in
set_option maxHeartbeats 4000000 in
theorem law_loop {E0 : JE} {nm : String} {b L : Nat} {xs : Nat → Int32} {Inv : Wd → Prop} (hXt : kHX E0) (hX : kXS (kFu E0 140) b L xs) (hL : L ≤ 3072) (hS : SAll Inv) : ∀ (n i : Nat) (σ : Wd), L + 6 ≤ i + n → i ≤ L → Inv σ → KG (kFu E0 140) mL_law room_1 nm 0 18 [some (.inr 2000), some (.inr 0), some (.inr 120), some (.inl (nI i))] [] σ 140 6165 kZL := by
  intro n
  induction n with
  | zero => intro i σ h1 h2 _; exact absurd h1 (by omega)
  | succ n ih =>
    intro i σ h1 h2 hI
    refine kg_iload_n dL_law_18 (pc' := 19) rfl rfl rfl ?_
    refine kg_aload_n dL_law_19 (pc' := 20) rfl rfl rfl ?_
    refine kg_slen hX dL_law_20 (pc' := 21) rfl ?_
    refine kg_bipush dL_law_21 (pc' := 23) rfl kb_6L ?_
    refine kg_isub dL_law_23 (pc' := 24) rfl ?_
    refine kg_icmp_gt dL_law_24 (tgt := 1572) rfl (pc' := 27) rfl (fun _ => law_end) (fun c => ?_)
    have hi6 : i + 6 ≤ L := law_tk c (by omega) hL
    have hnext : ∀ σ, Inv σ → KG (kFu E0 140) mL_law room_1 nm 0 1566 [some (.inr 2000), some (.inr 0), some (.inr 120), some (.inl (nI i))] [] σ 140 6165 kZL := by
      intro σ hI
      refine kg_iinc dL_law_1566 (pc' := 1569) rfl rfl (nI_6 i) (Nat.le_of_ble_eq_true rfl) (ls' := [some (.inr 2000), some (.inr 0), some (.inr 120), some (.inl (nI (i + 6)))]) rfl ?_
      refine kg_goto dL_law_1569 (pc' := 18) rfl ?_
      exact ih (i + 6) σ (by omega) hi6 hI
    refine kg_aload_n dL_law_27 (pc' := 28) rfl rfl rfl ?_
    refine kg_iload_n dL_law_28 (pc' := 29) rfl rfl rfl ?_
    refine kg_sld hX (law_in0 hi6 hL) dL_law_29 (pc' := 30) rfl ?_
    refine kg_bipush dL_law_30 (pc' := 32) rfl kb_63L ?_
    refine kg_iand dL_law_32 (pc' := 33) rfl ?_
    by_cases c0 : (xs (nI i).toNatClampNeg &&& 63) = 0
    · refine kg_tableIn (x := xs (nI i).toNatClampNeg &&& 63) (off := 223) (tgt := 256) dL_law_33 (by rw [c0]; decide +kernel) (by rw [c0]; decide +kernel) (by rw [c0]; decide +kernel) rfl ?_
      exact case_0 hXt hX hL hi6 hS.1 hnext σ hI
    by_cases c1 : (xs (nI i).toNatClampNeg &&& 63) = 1
    · refine kg_tableIn (x := xs (nI i).toNatClampNeg &&& 63) (off := 286) (tgt := 319) dL_law_33 (by rw [c1]; decide +kernel) (by rw [c1]; decide +kernel) (by rw [c1]; decide +kernel) rfl ?_
      exact case_1 hXt hX hL hi6 hS.2.1 hnext σ hI
    by_cases c2 : (xs (nI i).toNatClampNeg &&& 63) = 2
    · refine kg_tableIn (x := xs (nI i).toNatClampNeg &&& 63) (off := 309) (tgt := 342) dL_law_33 (by rw [c2]; decide +kernel) (by rw [c2]; decide +kernel) (by rw [c2]; decide +kernel) rfl ?_
      exact case_2 hXt hX hL hi6 hS.2.2.1 hnext σ hI
    by_cases c3 : (xs (nI i).toNatClampNeg &&& 63) = 3
    · refine kg_tableIn (x := xs (nI i).toNatClampNeg &&& 63) (off := 322) (tgt := 355) dL_law_33 (by rw [c3]; decide +kernel) (by rw [c3]; decide +kernel) (by rw [c3]; decide +kernel) rfl ?_
      exact case_3 hXt hX hL hi6 hS.2.2.2.1 hnext σ hI
    by_cases c4 : (xs (nI i).toNatClampNeg &&& 63) = 4
    · refine kg_tableIn (x := xs (nI i).toNatClampNeg &&& 63) (off := 345) (tgt := 378) dL_law_33 (by rw [c4]; decide +kernel) (by rw [c4]; decide +kernel) (by rw [c4]; decide +kernel) rfl ?_
      exact case_4 hXt hX hL hi6 hS.2.2.2.2.1 hnext σ hI
    by_cases c5 : (xs (nI i).toNatClampNeg &&& 63) = 5
    · refine kg_tableIn (x := xs (nI i).toNatClampNeg &&& 63) (off := 368) (tgt := 401) dL_law_33 (by rw [c5]; decide +kernel) (by rw [c5]; decide +kernel) (by rw [c5]; decide +kernel) rfl ?_
      exact case_5 hXt hX hL hi6 hS.2.2.2.2.2.1 hnext σ hI
    by_cases c6 : (xs (nI i).toNatClampNeg &&& 63) = 6
    · refine kg_tableIn (x := xs (nI i).toNatClampNeg &&& 63) (off := 401) (tgt := 434) dL_law_33 (by rw [c6]; decide +kernel) (by rw [c6]; decide +kernel) (by rw [c6]; decide +kernel) rfl ?_
      exact case_6 hXt hX hL hi6 hS.2.2.2.2.2.2.1 hnext σ hI
    by_cases c7 : (xs (nI i).toNatClampNeg &&& 63) = 7
    · refine kg_tableIn (x := xs (nI i).toNatClampNeg &&& 63) (off := 434) (tgt := 467) dL_law_33 (by rw [c7]; decide +kernel) (by rw [c7]; decide +kernel) (by rw [c7]; decide +kernel) rfl ?_
      exact case_7 hXt hX hL hi6 hS.2.2.2.2.2.2.2.1 hnext σ hI
    by_cases c8 : (xs (nI i).toNatClampNeg &&& 63) = 8
    · refine kg_tableIn (x := xs (nI i).toNatClampNeg &&& 63) (off := 467) (tgt := 500) dL_law_33 (by rw [c8]; decide +kernel) (by rw [c8]; decide +kernel) (by rw [c8]; decide +kernel) rfl ?_
      exact case_8 hXt hX hL hi6 hS.2.2.2.2.2.2.2.2.1 hnext σ hI
    by_cases c9 : (xs (nI i).toNatClampNeg &&& 63) = 9
    · refine kg_tableIn (x := xs (nI i).toNatClampNeg &&& 63) (off := 480) (tgt := 513) dL_law_33 (by rw [c9]; decide +kernel) (by rw [c9]; decide +kernel) (by rw [c9]; decide +kernel) rfl ?_
      exact case_9 hXt hX hL hi6 hS.2.2.2.2.2.2.2.2.2.1 hnext σ hI
    by_cases c10 : (xs (nI i).toNatClampNeg &&& 63) = 10
    · refine kg_tableIn (x := xs (nI i).toNatClampNeg &&& 63) (off := 503) (tgt := 536) dL_law_33 (by rw [c10]; decide +kernel) (by rw [c10]; decide +kernel) (by rw [c10]; decide +kernel) rfl ?_
      exact case_10 hXt hX hL hi6 hS.2.2.2.2.2.2.2.2.2.2.1 hnext σ hI
    by_cases c11 : (xs (nI i).toNatClampNeg &&& 63) = 11
    · refine kg_tableIn (x := xs (nI i).toNatClampNeg &&& 63) (off := 516) (tgt := 549) dL_law_33 (by rw [c11]; decide +kernel) (by rw [c11]; decide +kernel) (by rw [c11]; decide +kernel) rfl ?_
      exact case_11 hXt hX hL hi6 hS.2.2.2.2.2.2.2.2.2.2.2.1 hnext σ hI
    by_cases c12 : (xs (nI i).toNatClampNeg &&& 63) = 12
    · refine kg_tableIn (x := xs (nI i).toNatClampNeg &&& 63) (off := 529) (tgt := 562) dL_law_33 (by rw [c12]; decide +kernel) (by rw [c12]; decide +kernel) (by rw [c12]; decide +kernel) rfl ?_
      exact case_12 hXt hX hL hi6 hS.2.2.2.2.2.2.2.2.2.2.2.2.1 hnext σ hI
    by_cases c13 : (xs (nI i).toNatClampNeg &&& 63) = 13
    · refine kg_tableIn (x := xs (nI i).toNatClampNeg &&& 63) (off := 552) (tgt := 585) dL_law_33 (by rw [c13]; decide +kernel) (by rw [c13]; decide +kernel) (by rw [c13]; decide +kernel) rfl ?_
      exact case_13 hXt hX hL hi6 hS.2.2.2.2.2.2.2.2.2.2.2.2.2.1 hnext σ hI
    by_cases c14 : (xs (nI i).toNatClampNeg &&& 63) = 14
    · refine kg_tableIn (x := xs (nI i).toNatClampNeg &&& 63) (off := 575) (tgt := 608) dL_law_33 (by rw [c14]; decide +kernel) (by rw [c14]; decide +kernel) (by rw [c14]; decide +kernel) rfl ?_
      exact case_14 hXt hX hL hi6 hS.2.2.2.2.2.2.2.2.2.2.2.2.2.2.1 hnext σ hI
    by_cases c15 : (xs (nI i).toNatClampNeg &&& 63) = 15
    · refine kg_tableIn (x := xs (nI i).toNatClampNeg &&& 63) (off := 588) (tgt := 621) dL_law_33 (by rw [c15]; decide +kernel) (by rw [c15]; decide +kernel) (by rw [c15]; decide +kernel) rfl ?_
      exact case_15 hXt hX hL hi6 hS.2.2.2.2.2.2.2.2.2.2.2.2.2.2.2.1 hnext σ hI
    by_cases c16 : (xs (nI i).toNatClampNeg &&& 63) = 16
    · refine kg_tableIn (x := xs (nI i).toNatClampNeg &&& 63) (off := 601) (tgt := 634) dL_law_33 (by rw [c16]; decide +kernel) (by rw [c16]; decide +kernel) (by rw [c16]; decide +kernel) rfl ?_
      exact case_16 hXt hX hL hi6 hS.2.2.2.2.2.2.2.2.2.2.2.2.2.2.2.2.1 hnext σ hI
    by_cases c17 : (xs (nI i).toNatClampNeg &&& 63) = 17
    · refine kg_tableIn (x := xs (nI i).toNatClampNeg &&& 63) (off := 634) (tgt := 667) dL_law_33 (by rw [c17]; decide +kernel) (by rw [c17]; decide +kernel) (by rw [c17]; decide +kernel) rfl ?_
      exact case_17 hXt hX hL hi6 hS.2.2.2.2.2.2.2.2.2.2.2.2.2.2.2.2.2.1 hnext σ hI
    by_cases c18 : (xs (nI i).toNatClampNeg &&& 63) = 18
    · refine kg_tableIn (x := xs (nI i).toNatClampNeg &&& 63) (off := 657) (tgt := 690) dL_law_33 (by rw [c18]; decide +kernel) (by rw [c18]; decide +kernel) (by rw [c18]; decide +kernel) rfl ?_
      exact case_18 hXt hX hL hi6 hS.2.2.2.2.2.2.2.2.2.2.2.2.2.2.2.2.2.2.1 hnext σ hI
    by_cases c19 : (xs (nI i).toNatClampNeg &&& 63) = 19
    · refine kg_tableIn (x := xs (nI i).toNatClampNeg &&& 63) (off := 680) (tgt := 713) dL_law_33 (by rw [c19]; decide +kernel) (by rw [c19]; decide +kernel) (by rw [c19]; decide +kernel) rfl ?_
      exact case_19 hXt hX hL hi6 hS.2.2.2.2.2.2.2.2.2.2.2.2.2.2.2.2.2.2.2.1 hnext σ hI
    by_cases c20 : (xs (nI i).toNatClampNeg &&& 63) = 20
    · refine kg_tableIn (x := xs (nI i).toNatClampNeg &&& 63) (off := 703) (tgt := 736) dL_law_33 (by rw [c20]; decide +kernel) (by rw [c20]; decide +kernel) (by rw [c20]; decide +kernel) rfl ?_
      exact case_20 hXt hX hL hi6 hS.2.2.2.2.2.2.2.2.2.2.2.2.2.2.2.2.2.2.2.2.1 hnext σ hI
    by_cases c21 : (xs (nI i).toNatClampNeg &&& 63) = 21
    · refine kg_tableIn (x := xs (nI i).toNatClampNeg &&& 63) (off := 736) (tgt := 769) dL_law_33 (by rw [c21]; decide +kernel) (by rw [c21]; decide +kernel) (by rw [c21]; decide +kernel) rfl ?_
      exact case_21 hXt hX hL hi6 hS.2.2.2.2.2.2.2.2.2.2.2.2.2.2.2.2.2.2.2.2.2.1 hnext σ hI
    by_cases c22 : (xs (nI i).toNatClampNeg &&& 63) = 22
    · refine kg_tableIn (x := xs (nI i).toNatClampNeg &&& 63) (off := 759) (tgt := 792) dL_law_33 (by rw [c22]; decide +kernel) (by rw [c22]; decide +kernel) (by rw [c22]; decide +kernel) rfl ?_
      exact case_22 hXt hX hL hi6 hS.2.2.2.2.2.2.2.2.2.2.2.2.2.2.2.2.2.2.2.2.2.2.1 hnext σ hI
    by_cases c23 : (xs (nI i).toNatClampNeg &&& 63) = 23
    · refine kg_tableIn (x := xs (nI i).toNatClampNeg &&& 63) (off := 782) (tgt := 815) dL_law_33 (by rw [c23]; decide +kernel) (by rw [c23]; decide +kernel) (by rw [c23]; decide +kernel) rfl ?_
      exact case_23 hXt hX hL hi6 hS.2.2.2.2.2.2.2.2.2.2.2.2.2.2.2.2.2.2.2.2.2.2.2.1 hnext σ hI
    by_cases c24 : (xs (nI i).toNatClampNeg &&& 63) = 24
    · refine kg_tableIn (x := xs (nI i).toNatClampNeg &&& 63) (off := 831) (tgt := 864) dL_law_33 (by rw [c24]; decide +kernel) (by rw [c24]; decide +kernel) (by rw [c24]; decide +kernel) rfl ?_
      exact case_24 hXt hX hL hi6 hS.2.2.2.2.2.2.2.2.2.2.2.2.2.2.2.2.2.2.2.2.2.2.2.2.1 hnext σ hI
    by_cases c25 : (xs (nI i).toNatClampNeg &&& 63) = 25
    · refine kg_tableIn (x := xs (nI i).toNatClampNeg &&& 63) (off := 854) (tgt := 887) dL_law_33 (by rw [c25]; decide +kernel) (by rw [c25]; decide +kernel) (by rw [c25]; decide +kernel) rfl ?_
      exact case_25 hXt hX hL hi6 hS.2.2.2.2.2.2.2.2.2.2.2.2.2.2.2.2.2.2.2.2.2.2.2.2.2.1 hnext σ hI
    by_cases c26 : (xs (nI i).toNatClampNeg &&& 63) = 26
    · refine kg_tableIn (x := xs (nI i).toNatClampNeg &&& 63) (off := 877) (tgt := 910) dL_law_33 (by rw [c26]; decide +kernel) (by rw [c26]; decide +kernel) (by rw [c26]; decide +kernel) rfl ?_
      exact case_26 hXt hX hL hi6 hS.2.2.2.2.2.2.2.2.2.2.2.2.2.2.2.2.2.2.2.2.2.2.2.2.2.2.1 hnext σ hI
    by_cases c27 : (xs (nI i).toNatClampNeg &&& 63) = 27
    · refine kg_tableIn (x := xs (nI i).toNatClampNeg &&& 63) (off := 900) (tgt := 933) dL_law_33 (by rw [c27]; decide +kernel) (by rw [c27]; decide +kernel) (by rw [c27]; decide +kernel) rfl ?_
      exact case_27 hXt hX hL hi6 hS.2.2.2.2.2.2.2.2.2.2.2.2.2.2.2.2.2.2.2.2.2.2.2.2.2.2.2.1 hnext σ hI
    by_cases c28 : (xs (nI i).toNatClampNeg &&& 63) = 28
    · refine kg_tableIn (x := xs (nI i).toNatClampNeg &&& 63) (off := 933) (tgt := 966) dL_law_33 (by rw [c28]; decide +kernel) (by rw [c28]; decide +kernel) (by rw [c28]; decide +kernel) rfl ?_
      exact case_28 hXt hX hL hi6 hS.2.2.2.2.2.2.2.2.2.2.2.2.2.2.2.2.2.2.2.2.2.2.2.2.2.2.2.2.1 hnext σ hI
    by_cases c29 : (xs (nI i).toNatClampNeg &&& 63) = 29
    · refine kg_tableIn (x := xs (nI i).toNatClampNeg &&& 63) (off := 992) (tgt := 1025) dL_law_33 (by rw [c29]; decide +kernel) (by rw [c29]; decide +kernel) (by rw [c29]; decide +kernel) rfl ?_
      exact case_29 hXt hX hL hi6 hS.2.2.2.2.2.2.2.2.2.2.2.2.2.2.2.2.2.2.2.2.2.2.2.2.2.2.2.2.2.1 hnext σ hI
    by_cases c30 : (xs (nI i).toNatClampNeg &&& 63) = 30
    · refine kg_tableIn (x := xs (nI i).toNatClampNeg &&& 63) (off := 1025) (tgt := 1058) dL_law_33 (by rw [c30]; decide +kernel) (by rw [c30]; decide +kernel) (by rw [c30]; decide +kernel) rfl ?_
      exact case_30 hXt hX hL hi6 hS.2.2.2.2.2.2.2.2.2.2.2.2.2.2.2.2.2.2.2.2.2.2.2.2.2.2.2.2.2.2.1 hnext σ hI
    by_cases c31 : (xs (nI i).toNatClampNeg &&& 63) = 31
    · refine kg_tableIn (x := xs (nI i).toNatClampNeg &&& 63) (off := 1074) (tgt := 1107) dL_law_33 (by rw [c31]; decide +kernel) (by rw [c31]; decide +kernel) (by rw [c31]; decide +kernel) rfl ?_
      exact case_31 hXt hX hL hi6 hS.2.2.2.2.2.2.2.2.2.2.2.2.2.2.2.2.2.2.2.2.2.2.2.2.2.2.2.2.2.2.2.1 hnext σ hI
    by_cases c32 : (xs (nI i).toNatClampNeg &&& 63) = 32
    · refine kg_tableIn (x := xs (nI i).toNatClampNeg &&& 63) (off := 1087) (tgt := 1120) dL_law_33 (by rw [c32]; decide +kernel) (by rw [c32]; decide +kernel) (by rw [c32]; decide +kernel) rfl ?_
      exact case_32 hXt hX hL hi6 hS.2.2.2.2.2.2.2.2.2.2.2.2.2.2.2.2.2.2.2.2.2.2.2.2.2.2.2.2.2.2.2.2.1 hnext σ hI
    by_cases c33 : (xs (nI i).toNatClampNeg &&& 63) = 33
    · refine kg_tableIn (x := xs (nI i).toNatClampNeg &&& 63) (off := 1130) (tgt := 1163) dL_law_33 (by rw [c33]; decide +kernel) (by rw [c33]; decide +kernel) (by rw [c33]; decide +kernel) rfl ?_
      exact case_33 hXt hX hL hi6 hS.2.2.2.2.2.2.2.2.2.2.2.2.2.2.2.2.2.2.2.2.2.2.2.2.2.2.2.2.2.2.2.2.2.1 hnext σ hI
    by_cases c34 : (xs (nI i).toNatClampNeg &&& 63) = 34
    · refine kg_tableIn (x := xs (nI i).toNatClampNeg &&& 63) (off := 1143) (tgt := 1176) dL_law_33 (by rw [c34]; decide +kernel) (by rw [c34]; decide +kernel) (by rw [c34]; decide +kernel) rfl ?_
      exact case_34 hXt hX hL hi6 hS.2.2.2.2.2.2.2.2.2.2.2.2.2.2.2.2.2.2.2.2.2.2.2.2.2.2.2.2.2.2.2.2.2.2.1 hnext σ hI
    by_cases c35 : (xs (nI i).toNatClampNeg &&& 63) = 35
    · refine kg_tableIn (x := xs (nI i).toNatClampNeg &&& 63) (off := 1166) (tgt := 1199) dL_law_33 (by rw [c35]; decide +kernel) (by rw [c35]; decide +kernel) (by rw [c35]; decide +kernel) rfl ?_
      exact case_35 hXt hX hL hi6 hS.2.2.2.2.2.2.2.2.2.2.2.2.2.2.2.2.2.2.2.2.2.2.2.2.2.2.2.2.2.2.2.2.2.2.2.1 hnext σ hI
    by_cases c36 : (xs (nI i).toNatClampNeg &&& 63) = 36
    · refine kg_tableIn (x := xs (nI i).toNatClampNeg &&& 63) (off := 1199) (tgt := 1232) dL_law_33 (by rw [c36]; decide +kernel) (by rw [c36]; decide +kernel) (by rw [c36]; decide +kernel) rfl ?_
      exact case_36 hXt hX hL hi6 hS.2.2.2.2.2.2.2.2.2.2.2.2.2.2.2.2.2.2.2.2.2.2.2.2.2.2.2.2.2.2.2.2.2.2.2.2.1 hnext σ hI
    by_cases c37 : (xs (nI i).toNatClampNeg &&& 63) = 37
    · refine kg_tableIn (x := xs (nI i).toNatClampNeg &&& 63) (off := 1222) (tgt := 1255) dL_law_33 (by rw [c37]; decide +kernel) (by rw [c37]; decide +kernel) (by rw [c37]; decide +kernel) rfl ?_
      exact case_37 hXt hX hL hi6 hS.2.2.2.2.2.2.2.2.2.2.2.2.2.2.2.2.2.2.2.2.2.2.2.2.2.2.2.2.2.2.2.2.2.2.2.2.2.1 hnext σ hI
    by_cases c38 : (xs (nI i).toNatClampNeg &&& 63) = 38
    · refine kg_tableIn (x := xs (nI i).toNatClampNeg &&& 63) (off := 1271) (tgt := 1304) dL_law_33 (by rw [c38]; decide +kernel) (by rw [c38]; decide +kernel) (by rw [c38]; decide +kernel) rfl ?_
      exact case_38 hXt hX hL hi6 hS.2.2.2.2.2.2.2.2.2.2.2.2.2.2.2.2.2.2.2.2.2.2.2.2.2.2.2.2.2.2.2.2.2.2.2.2.2.2.1 hnext σ hI
    by_cases c39 : (xs (nI i).toNatClampNeg &&& 63) = 39
    · refine kg_tableIn (x := xs (nI i).toNatClampNeg &&& 63) (off := 1284) (tgt := 1317) dL_law_33 (by rw [c39]; decide +kernel) (by rw [c39]; decide +kernel) (by rw [c39]; decide +kernel) rfl ?_
      exact case_39 hXt hX hL hi6 hS.2.2.2.2.2.2.2.2.2.2.2.2.2.2.2.2.2.2.2.2.2.2.2.2.2.2.2.2.2.2.2.2.2.2.2.2.2.2.2.1 hnext σ hI
    by_cases c40 : (xs (nI i).toNatClampNeg &&& 63) = 40
    · refine kg_tableIn (x := xs (nI i).toNatClampNeg &&& 63) (off := 1297) (tgt := 1330) dL_law_33 (by rw [c40]; decide +kernel) (by rw [c40]; decide +kernel) (by rw [c40]; decide +kernel) rfl ?_
      exact case_40 hXt hX hL hi6 hS.2.2.2.2.2.2.2.2.2.2.2.2.2.2.2.2.2.2.2.2.2.2.2.2.2.2.2.2.2.2.2.2.2.2.2.2.2.2.2.2.1 hnext σ hI
    by_cases c41 : (xs (nI i).toNatClampNeg &&& 63) = 41
    · refine kg_tableIn (x := xs (nI i).toNatClampNeg &&& 63) (off := 1320) (tgt := 1353) dL_law_33 (by rw [c41]; decide +kernel) (by rw [c41]; decide +kernel) (by rw [c41]; decide +kernel) rfl ?_
      exact case_41 hXt hX hL hi6 hS.2.2.2.2.2.2.2.2.2.2.2.2.2.2.2.2.2.2.2.2.2.2.2.2.2.2.2.2.2.2.2.2.2.2.2.2.2.2.2.2.2.1 hnext σ hI
    by_cases c42 : (xs (nI i).toNatClampNeg &&& 63) = 42
    · refine kg_tableIn (x := xs (nI i).toNatClampNeg &&& 63) (off := 1343) (tgt := 1376) dL_law_33 (by rw [c42]; decide +kernel) (by rw [c42]; decide +kernel) (by rw [c42]; decide +kernel) rfl ?_
      exact case_42 hXt hX hL hi6 hS.2.2.2.2.2.2.2.2.2.2.2.2.2.2.2.2.2.2.2.2.2.2.2.2.2.2.2.2.2.2.2.2.2.2.2.2.2.2.2.2.2.2.1 hnext σ hI
    by_cases c43 : (xs (nI i).toNatClampNeg &&& 63) = 43
    · refine kg_tableIn (x := xs (nI i).toNatClampNeg &&& 63) (off := 1366) (tgt := 1399) dL_law_33 (by rw [c43]; decide +kernel) (by rw [c43]; decide +kernel) (by rw [c43]; decide +kernel) rfl ?_
      exact case_43 hXt hX hL hi6 hS.2.2.2.2.2.2.2.2.2.2.2.2.2.2.2.2.2.2.2.2.2.2.2.2.2.2.2.2.2.2.2.2.2.2.2.2.2.2.2.2.2.2.2.1 hnext σ hI
    by_cases c44 : (xs (nI i).toNatClampNeg &&& 63) = 44
    · refine kg_tableIn (x := xs (nI i).toNatClampNeg &&& 63) (off := 1389) (tgt := 1422) dL_law_33 (by rw [c44]; decide +kernel) (by rw [c44]; decide +kernel) (by rw [c44]; decide +kernel) rfl ?_
      exact case_44 hXt hX hL hi6 hS.2.2.2.2.2.2.2.2.2.2.2.2.2.2.2.2.2.2.2.2.2.2.2.2.2.2.2.2.2.2.2.2.2.2.2.2.2.2.2.2.2.2.2.2.1 hnext σ hI
    by_cases c45 : (xs (nI i).toNatClampNeg &&& 63) = 45
    · refine kg_tableIn (x := xs (nI i).toNatClampNeg &&& 63) (off := 1402) (tgt := 1435) dL_law_33 (by rw [c45]; decide +kernel) (by rw [c45]; decide +kernel) (by rw [c45]; decide +kernel) rfl ?_
      exact case_45 hXt hX hL hi6 hS.2.2.2.2.2.2.2.2.2.2.2.2.2.2.2.2.2.2.2.2.2.2.2.2.2.2.2.2.2.2.2.2.2.2.2.2.2.2.2.2.2.2.2.2.2.1 hnext σ hI
    by_cases c46 : (xs (nI i).toNatClampNeg &&& 63) = 46
    · refine kg_tableIn (x := xs (nI i).toNatClampNeg &&& 63) (off := 1415) (tgt := 1448) dL_law_33 (by rw [c46]; decide +kernel) (by rw [c46]; decide +kernel) (by rw [c46]; decide +kernel) rfl ?_
      exact case_46 hXt hX hL hi6 hS.2.2.2.2.2.2.2.2.2.2.2.2.2.2.2.2.2.2.2.2.2.2.2.2.2.2.2.2.2.2.2.2.2.2.2.2.2.2.2.2.2.2.2.2.2.2.1 hnext σ hI
    by_cases c47 : (xs (nI i).toNatClampNeg &&& 63) = 47
    · refine kg_tableIn (x := xs (nI i).toNatClampNeg &&& 63) (off := 1428) (tgt := 1461) dL_law_33 (by rw [c47]; decide +kernel) (by rw [c47]; decide +kernel) (by rw [c47]; decide +kernel) rfl ?_
      exact case_47 hXt hX hL hi6 hS.2.2.2.2.2.2.2.2.2.2.2.2.2.2.2.2.2.2.2.2.2.2.2.2.2.2.2.2.2.2.2.2.2.2.2.2.2.2.2.2.2.2.2.2.2.2.2.1 hnext σ hI
    by_cases c48 : (xs (nI i).toNatClampNeg &&& 63) = 48
    · refine kg_tableIn (x := xs (nI i).toNatClampNeg &&& 63) (off := 1451) (tgt := 1484) dL_law_33 (by rw [c48]; decide +kernel) (by rw [c48]; decide +kernel) (by rw [c48]; decide +kernel) rfl ?_
      exact case_48 hXt hX hL hi6 hS.2.2.2.2.2.2.2.2.2.2.2.2.2.2.2.2.2.2.2.2.2.2.2.2.2.2.2.2.2.2.2.2.2.2.2.2.2.2.2.2.2.2.2.2.2.2.2.2.1 hnext σ hI
    by_cases c49 : (xs (nI i).toNatClampNeg &&& 63) = 49
    · refine kg_tableIn (x := xs (nI i).toNatClampNeg &&& 63) (off := 1474) (tgt := 1507) dL_law_33 (by rw [c49]; decide +kernel) (by rw [c49]; decide +kernel) (by rw [c49]; decide +kernel) rfl ?_
      exact case_49 hXt hX hL hi6 hS.2.2.2.2.2.2.2.2.2.2.2.2.2.2.2.2.2.2.2.2.2.2.2.2.2.2.2.2.2.2.2.2.2.2.2.2.2.2.2.2.2.2.2.2.2.2.2.2.2.1 hnext σ hI
    by_cases c50 : (xs (nI i).toNatClampNeg &&& 63) = 50
    · refine kg_tableIn (x := xs (nI i).toNatClampNeg &&& 63) (off := 1487) (tgt := 1520) dL_law_33 (by rw [c50]; decide +kernel) (by rw [c50]; decide +kernel) (by rw [c50]; decide +kernel) rfl ?_
      exact case_50 hXt hX hL hi6 hS.2.2.2.2.2.2.2.2.2.2.2.2.2.2.2.2.2.2.2.2.2.2.2.2.2.2.2.2.2.2.2.2.2.2.2.2.2.2.2.2.2.2.2.2.2.2.2.2.2.2.1 hnext σ hI
    by_cases c51 : (xs (nI i).toNatClampNeg &&& 63) = 51
    · refine kg_tableIn (x := xs (nI i).toNatClampNeg &&& 63) (off := 1510) (tgt := 1543) dL_law_33 (by rw [c51]; decide +kernel) (by rw [c51]; decide +kernel) (by rw [c51]; decide +kernel) rfl ?_
      exact case_51 hXt hX hL hi6 hS.2.2.2.2.2.2.2.2.2.2.2.2.2.2.2.2.2.2.2.2.2.2.2.2.2.2.2.2.2.2.2.2.2.2.2.2.2.2.2.2.2.2.2.2.2.2.2.2.2.2.2 hnext σ hI
    refine kg_tableOut (x := xs (nI i).toNatClampNeg &&& 63) (tgt := 1566) dL_law_33 (tb_out (hi := 51) (fun k hk => by rcases (show k = 0 ∨ k = 1 ∨ k = 2 ∨ k = 3 ∨ k = 4 ∨ k = 5 ∨ k = 6 ∨ k = 7 ∨ k = 8 ∨ k = 9 ∨ k = 10 ∨ k = 11 ∨ k = 12 ∨ k = 13 ∨ k = 14 ∨ k = 15 ∨ k = 16 ∨ k = 17 ∨ k = 18 ∨ k = 19 ∨ k = 20 ∨ k = 21 ∨ k = 22 ∨ k = 23 ∨ k = 24 ∨ k = 25 ∨ k = 26 ∨ k = 27 ∨ k = 28 ∨ k = 29 ∨ k = 30 ∨ k = 31 ∨ k = 32 ∨ k = 33 ∨ k = 34 ∨ k = 35 ∨ k = 36 ∨ k = 37 ∨ k = 38 ∨ k = 39 ∨ k = 40 ∨ k = 41 ∨ k = 42 ∨ k = 43 ∨ k = 44 ∨ k = 45 ∨ k = 46 ∨ k = 47 ∨ k = 48 ∨ k = 49 ∨ k = 50 ∨ k = 51 by omega) with rfl | rfl | rfl | rfl | rfl | rfl | rfl | rfl | rfl | rfl | rfl | rfl | rfl | rfl | rfl | rfl | rfl | rfl | rfl | rfl | rfl | rfl | rfl | rfl | rfl | rfl | rfl | rfl | rfl | rfl | rfl | rfl | rfl | rfl | rfl | rfl | rfl | rfl | rfl | rfl | rfl | rfl | rfl | rfl | rfl | rfl | rfl | rfl | rfl | rfl | rfl | rfl <;> assumption) (by decide)) rfl ?_
    exact hnext σ hI
