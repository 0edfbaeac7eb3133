theorem kMt_ok {E0 : JE} {n t k i : Nat} (h : kTm k i < t) : (kEt E0 n t).2.2.2.2.2.2.2 k i = true := decide_eq_true h
theorem kTm_all {n t : Nat} (h : ((kTmL.getD n []).all (fun x => decide (t ≤ x))) = true) (ht : t ≤ 9999) (i : Nat) : t ≤ kTm n i := by
  rw [kTm, List.getD_eq_getElem?_getD]
  cases hg : (kTmL.getD n [])[i]? with
  | none => exact ht
  | some x => exact of_decide_eq_true (List.all_eq_true.mp h x (List.mem_of_getElem? hg))
section KGS
variable {E E0 : JE} {M : MI} {rm : Room} {nm : String} {n0 cl sl : Nat} {pc pc' : Nat} {ls ls' : List (Option JV)} {st : List JV} {σ σ1 : Wd} {Z : List Frame → Array Value → State → State → Prop} {x : Int32}
theorem kgSi {index : Nat} {y : MethodName} {My : MI} {rmy : Room} {as : List JV} {stk : List JV} (hw : kSL M.1 index y My as.length) (hM : kMt E y My rmy as σ (kQi x σ1)) (hstk : as.reverse ++ st = stk) (hroom : (rmy.cells = 0 ∧ rmy.slots = 0) ∧ rmy.frames + 1 ≤ rm.frames ∧ 8 + (My.2.2.1 + 11) + rmy.locals ≤ rm.locals) (hcl : cl ≤ rm.cells ∧ sl ≤ rm.slots) (hlen : st.length ≤ 8) (hd : decode M.2.1 pc = .ok (.invokestatic index, 3)) (hp : pc + 3 = pc') (kk : KG E M rm nm n0 pc' ls (.inl x :: st) σ1 cl sl Z) : KG E M rm nm n0 pc ls stk σ cl sl Z :=
  kg_callS hw hM hstk hroom hcl hlen hd hp (fun v σ' h => by obtain ⟨rfl, rfl⟩ := h; exact kk)
theorem kgSv {index : Nat} {y : MethodName} {My : MI} {rmy : Room} {as : List JV} {stk : List JV} (hw : kSL M.1 index y My as.length) (hM : kMt E y My rmy as σ (kQv σ1)) (hstk : as.reverse ++ st = stk) (hroom : (rmy.cells = 0 ∧ rmy.slots = 0) ∧ rmy.frames + 1 ≤ rm.frames ∧ 8 + (My.2.2.1 + 11) + rmy.locals ≤ rm.locals) (hcl : cl ≤ rm.cells ∧ sl ≤ rm.slots) (hlen : st.length ≤ 8) (hd : decode M.2.1 pc = .ok (.invokestatic index, 3)) (hp : pc + 3 = pc') (kk : KG E M rm nm n0 pc' ls st σ1 cl sl Z) : KG E M rm nm n0 pc ls stk σ cl sl Z :=
  kg_callS hw hM hstk hroom hcl hlen hd hp (fun v σ' h => by obtain ⟨rfl, rfl⟩ := h; exact kk)
theorem kgVv {index ci r : Nat} {y : MethodName} {My : MI} {rmy : Room} {as : List JV} {stk : List JV} (hw : kVL M.1 index y My as.length ci) (hM : kMt E y My rmy (.inr r :: as) σ (kQv σ1)) (hk : kKd r = ci) (hn : r < E.2.2.2.2.1) (hstk : as.reverse ++ .inr r :: st = stk) (hroom : (rmy.cells = 0 ∧ rmy.slots = 0) ∧ rmy.frames + 1 ≤ rm.frames ∧ 8 + (My.2.2.1 + 11) + rmy.locals ≤ rm.locals) (hcl : cl ≤ rm.cells ∧ sl ≤ rm.slots) (hlen : st.length ≤ 8) (hd : decode M.2.1 pc = .ok (.invokevirtual index, 3)) (hp : pc + 3 = pc') (kk : KG E M rm nm n0 pc' ls st σ1 cl sl Z) : KG E M rm nm n0 pc ls stk σ cl sl Z :=
  kg_callV hw hM hk hn hstk hroom hcl hlen hd hp (fun v σ' h => by obtain ⟨rfl, rfl⟩ := h; exact kk)
theorem kg_alenQ {r : Nat} {v : Int32} (hk : kKd r = 23) (hn : r < E.2.2.2.2.1) (hv : nI (kLn r) = v) (hd : decode M.2.1 pc = .ok (.arraylength, 1)) (hp : pc + 1 = pc') (kk : KG E M rm nm n0 pc' ls (.inl v :: st) σ cl sl Z) : KG E M rm nm n0 pc ls (.inr r :: st) σ cl sl Z := by
  subst hp
  intro p l e s m args below meth c H locs la C hN hG hP hS hla
  have he := kWl_at (σ := σ) hn
  have e1 : kEl E σ r = .inl (E.2.2.2.1 3, kLn r, .inr (.inr (.inr (.inr (fun j => if E.2.2.2.2.2.2.2 r j = true then some (kAd E (kRf r j)) else none))))) := by simp [kEl, hk]
  rw [e1] at he
  exact va_alen C.1 C.2.1 C.2.2.2.2.2.2.2.1 hP.1 r 3 he rfl hv hd (kk p l e s m args below meth c H locs la C hN hG hP hS hla)
theorem kg_to {n t n2 t2 cl2 sl2 : Nat} {σ2 : Wd} {ls2 : List (Option JV)} {st2 : List JV} (hn : n = n2) (ht : t = t2) (hs : σ = σ2) (hc : cl = cl2) (hl : sl = sl2) (h1 : ls = ls2) (h2 : st = st2) (k : KG (kEt E0 n2 t2) M rm nm n0 pc ls2 st2 σ2 cl2 sl2 Z) : KG (kEt E0 n t) M rm nm n0 pc ls st σ cl sl Z := by
  subst hn ht hs hc hl h1 h2
  exact k
end KGS
theorem nw_RX10_7 : kNW RX10 7 7 4 := ⟨_, _, tyX7, rfl, kMemL [99, 100, 73] (by decide +kernel) (by decide +kernel), inX7, tyX7_ok, by decide +kernel, by decide, rfl⟩
theorem nw_RX10_19 : kNW RX10 19 1 3 := ⟨_, _, tyX1, rfl, kMemL [155, 156, 77] (by decide +kernel) (by decide +kernel), inX1, tyX1_ok, by decide +kernel, by decide, rfl⟩
theorem nw_RX10_26 : kNW RX10 26 4 2 := ⟨_, _, tyX4, rfl, kMemL [175, 106, 74] (by decide +kernel) (by decide +kernel), inX4, tyX4_ok, by decide +kernel, by decide, rfl⟩
theorem nw_RX10_35 : kNW RX10 35 3 4 := ⟨_, _, tyX3, rfl, kMemL [177, 178, 78] (by decide +kernel) (by decide +kernel), inX3, tyX3_ok, by decide +kernel, by decide, rfl⟩
theorem nw_RX10_44 : kNW RX10 44 5 1 := ⟨_, _, tyX5, rfl, kMemL [196, 197, 79] (by decide +kernel) (by decide +kernel), inX5, tyX5_ok, by decide +kernel, by decide, rfl⟩
theorem nw_RX10_51 : kNW RX10 51 0 8 := ⟨_, _, tyX0, rfl, kMemL [209, 210, 80] (by decide +kernel) (by decide +kernel), inX0, tyX0_ok, by decide +kernel, by decide, rfl⟩
theorem nw_RX10_58 : kNW RX10 58 2 5 := ⟨_, _, tyX2, rfl, kMemL [254, 255, 82] (by decide +kernel) (by decide +kernel), inX2, tyX2_ok, by decide +kernel, by decide, rfl⟩
theorem nw_RX10_67 : kNW RX10 67 6 6 := ⟨_, _, tyX6, rfl, kMemL [276, 277, 83] (by decide +kernel) (by decide +kernel), inX6, tyX6_ok, by decide +kernel, by decide, rfl⟩
theorem nw_RX10_79 : kNW RX10 79 8 3 := ⟨_, _, tyX8, rfl, kMemL [301, 302, 84] (by decide +kernel) (by decide +kernel), inX8, tyX8_ok, by decide +kernel, by decide, rfl⟩
theorem nw_RX10_86 : kNW RX10 86 9 3 := ⟨_, _, tyX9, rfl, kMemL [320, 321, 85] (by decide +kernel) (by decide +kernel), inX9, tyX9_ok, by decide +kernel, by decide, rfl⟩
theorem nw_RX0_15 : kNW RX0 15 4 2 := ⟨_, _, tyX4, rfl, kMemL [215, 106, 74] (by decide +kernel) (by decide +kernel), inX4, tyX4_ok, by decide +kernel, by decide, rfl⟩
theorem nw_RX1_9 : kNW RX1 9 7 4 := ⟨_, _, tyX7, rfl, kMemL [161, 100, 73] (by decide +kernel) (by decide +kernel), inX7, tyX7_ok, by decide +kernel, by decide, rfl⟩
theorem nw_RX5_9 : kNW RX5 9 4 2 := ⟨_, _, tyX4, rfl, kMemL [202, 106, 74] (by decide +kernel) (by decide +kernel), inX4, tyX4_ok, by decide +kernel, by decide, rfl⟩
theorem nw_RX7_9 : kNW RX7 9 4 2 := ⟨_, _, tyX4, rfl, kMemL [105, 106, 74] (by decide +kernel) (by decide +kernel), inX4, tyX4_ok, by decide +kernel, by decide, rfl⟩
theorem nw_RX8_15 : kNW RX8 15 4 2 := ⟨_, _, tyX4, rfl, kMemL [307, 106, 74] (by decide +kernel) (by decide +kernel), inX4, tyX4_ok, by decide +kernel, by decide, rfl⟩
theorem nw_RL_7 : kNW RL 7 10 12 := ⟨_, _, tyX10, rfl, kMemL [91, 92, 72] (by decide +kernel) (by decide +kernel), inX10, tyX10_ok, by decide +kernel, by decide, rfl⟩
theorem nw_RL_10 : kNW RL 10 11 30 := ⟨_, _, tyX11, rfl, kMemL [1151, 1152, 86] (by decide +kernel) (by decide +kernel), inX11, tyX11_ok, by decide +kernel, by decide, rfl⟩
theorem ff_RX10_10 : kFF RX10 10 10 0 := ⟨_, _, _, tyX10, _, rfl, by decide, kMem 401 (by decide +kernel) rfl, inX10, rfl, by decide, tyX10_ok, nmX10, rfl, rfl, tyX10_ok 0 (by decide), fun _ => rfl, fun _ => rfl⟩
theorem ff_RX10_16 : kFF RX10 16 10 1 := ⟨_, _, _, tyX10, _, rfl, by decide, kMem 402 (by decide +kernel) rfl, inX10, rfl, by decide, tyX10_ok, nmX10, rfl, rfl, tyX10_ok 1 (by decide), fun _ => rfl, fun _ => rfl⟩
theorem ff_RX10_22 : kFF RX10 22 10 2 := ⟨_, _, _, tyX10, _, rfl, by decide, kMem 403 (by decide +kernel) rfl, inX10, rfl, by decide, tyX10_ok, nmX10, rfl, rfl, tyX10_ok 2 (by decide), fun _ => rfl, fun _ => rfl⟩
theorem ff_RX10_31 : kFF RX10 31 10 3 := ⟨_, _, _, tyX10, _, rfl, by decide, kMem 404 (by decide +kernel) rfl, inX10, rfl, by decide, tyX10_ok, nmX10, rfl, rfl, tyX10_ok 3 (by decide), fun _ => rfl, fun _ => rfl⟩
theorem ff_RX10_40 : kFF RX10 40 10 4 := ⟨_, _, _, tyX10, _, rfl, by decide, kMem 405 (by decide +kernel) rfl, inX10, rfl, by decide, tyX10_ok, nmX10, rfl, rfl, tyX10_ok 4 (by decide), fun _ => rfl, fun _ => rfl⟩
theorem ff_RX10_47 : kFF RX10 47 10 5 := ⟨_, _, _, tyX10, _, rfl, by decide, kMem 406 (by decide +kernel) rfl, inX10, rfl, by decide, tyX10_ok, nmX10, rfl, rfl, tyX10_ok 5 (by decide), fun _ => rfl, fun _ => rfl⟩
theorem ff_RX10_54 : kFF RX10 54 10 6 := ⟨_, _, _, tyX10, _, rfl, by decide, kMem 407 (by decide +kernel) rfl, inX10, rfl, by decide, tyX10_ok, nmX10, rfl, rfl, tyX10_ok 6 (by decide), fun _ => rfl, fun _ => rfl⟩
theorem ff_RX10_63 : kFF RX10 63 10 7 := ⟨_, _, _, tyX10, _, rfl, by decide, kMem 408 (by decide +kernel) rfl, inX10, rfl, by decide, tyX10_ok, nmX10, rfl, rfl, tyX10_ok 7 (by decide), fun _ => rfl, fun _ => rfl⟩
theorem ff_RX10_75 : kFF RX10 75 10 8 := ⟨_, _, _, tyX10, _, rfl, by decide, kMem 409 (by decide +kernel) rfl, inX10, rfl, by decide, tyX10_ok, nmX10, rfl, rfl, tyX10_ok 8 (by decide), fun _ => rfl, fun _ => rfl⟩
theorem ff_RX10_82 : kFF RX10 82 10 9 := ⟨_, _, _, tyX10, _, rfl, by decide, kMem 410 (by decide +kernel) rfl, inX10, rfl, by decide, tyX10_ok, nmX10, rfl, rfl, tyX10_ok 9 (by decide), fun _ => rfl, fun _ => rfl⟩
theorem ff_RX10_89 : kFF RX10 89 10 10 := ⟨_, _, _, tyX10, _, rfl, by decide, kMem 411 (by decide +kernel) rfl, inX10, rfl, by decide, tyX10_ok, nmX10, rfl, rfl, tyX10_ok 10 (by decide), fun _ => rfl, fun _ => rfl⟩
theorem ff_RX10_93 : kFF RX10 93 10 11 := ⟨_, _, _, tyX10, _, rfl, by decide, kMem 412 (by decide +kernel) rfl, inX10, rfl, by decide, tyX10_ok, nmX10, rfl, rfl, tyX10_ok 11 (by decide), fun _ => rfl, fun _ => rfl⟩
theorem ff_RX0_9 : kFF RX0 9 0 0 := ⟨_, _, _, tyX0, _, rfl, by decide, kMem 223 (by decide +kernel) rfl, inX0, rfl, by decide, tyX0_ok, nmX0, rfl, rfl, tyX0_ok 0 (by decide), fun _ => rfl, fun _ => rfl⟩
theorem ff_RX0_20 : kFF RX0 20 0 1 := ⟨_, _, _, tyX0, _, rfl, by decide, kMem 224 (by decide +kernel) rfl, inX0, rfl, by decide, tyX0_ok, nmX0, rfl, rfl, tyX0_ok 1 (by decide), fun _ => rfl, fun _ => rfl⟩
theorem ff_RX0_24 : kFF RX0 24 0 2 := ⟨_, _, _, tyX0, _, rfl, by decide, kMem 229 (by decide +kernel) rfl, inX0, rfl, by decide, tyX0_ok, nmX0, rfl, rfl, tyX0_ok 2 (by decide), fun _ => rfl, fun _ => rfl⟩
theorem ff_RX0_27 : kFF RX0 27 0 3 := ⟨_, _, _, tyX0, _, rfl, by decide, kMem 231 (by decide +kernel) rfl, inX0, rfl, by decide, tyX0_ok, nmX0, rfl, rfl, tyX0_ok 3 (by decide), fun _ => rfl, fun _ => rfl⟩
theorem ff_RX0_30 : kFF RX0 30 0 4 := ⟨_, _, _, tyX0, _, rfl, by decide, kMem 232 (by decide +kernel) rfl, inX0, rfl, by decide, tyX0_ok, nmX0, rfl, rfl, tyX0_ok 4 (by decide), fun _ => rfl, fun _ => rfl⟩
theorem ff_RX0_33 : kFF RX0 33 0 5 := ⟨_, _, _, tyX0, _, rfl, by decide, kMem 233 (by decide +kernel) rfl, inX0, rfl, by decide, tyX0_ok, nmX0, rfl, rfl, tyX0_ok 5 (by decide), fun _ => rfl, fun _ => rfl⟩
theorem ff_RX0_36 : kFF RX0 36 0 6 := ⟨_, _, _, tyX0, _, rfl, by decide, kMem 234 (by decide +kernel) rfl, inX0, rfl, by decide, tyX0_ok, nmX0, rfl, rfl, tyX0_ok 6 (by decide), fun _ => rfl, fun _ => rfl⟩
theorem ff_RX1_11 : kFF RX1 11 1 0 := ⟨_, _, _, tyX1, _, rfl, by decide, kMem 164 (by decide +kernel) rfl, inX1, rfl, by decide, tyX1_ok, nmX1, rfl, rfl, tyX1_ok 0 (by decide), fun _ => rfl, fun _ => rfl⟩
theorem ff_RX2_9 : kFF RX2 9 2 0 := ⟨_, _, _, tyX2, _, rfl, by decide, kMem 260 (by decide +kernel) rfl, inX2, rfl, by decide, tyX2_ok, nmX2, rfl, rfl, tyX2_ok 0 (by decide), fun _ => rfl, fun _ => rfl⟩
theorem ff_RX2_15 : kFF RX2 15 2 1 := ⟨_, _, _, tyX2, _, rfl, by decide, kMem 261 (by decide +kernel) rfl, inX2, rfl, by decide, tyX2_ok, nmX2, rfl, rfl, tyX2_ok 1 (by decide), fun _ => rfl, fun _ => rfl⟩
theorem ff_RX2_19 : kFF RX2 19 2 2 := ⟨_, _, _, tyX2, _, rfl, by decide, kMem 262 (by decide +kernel) rfl, inX2, rfl, by decide, tyX2_ok, nmX2, rfl, rfl, tyX2_ok 2 (by decide), fun _ => rfl, fun _ => rfl⟩
theorem ff_RX2_22 : kFF RX2 22 2 3 := ⟨_, _, _, tyX2, _, rfl, by decide, kMem 263 (by decide +kernel) rfl, inX2, rfl, by decide, tyX2_ok, nmX2, rfl, rfl, tyX2_ok 3 (by decide), fun _ => rfl, fun _ => rfl⟩
theorem ff_RX3_9 : kFF RX3 9 3 0 := ⟨_, _, _, tyX3, _, rfl, by decide, kMem 183 (by decide +kernel) rfl, inX3, rfl, by decide, tyX3_ok, nmX3, rfl, rfl, tyX3_ok 0 (by decide), fun _ => rfl, fun _ => rfl⟩
theorem ff_RX3_15 : kFF RX3 15 3 1 := ⟨_, _, _, tyX3, _, rfl, by decide, kMem 184 (by decide +kernel) rfl, inX3, rfl, by decide, tyX3_ok, nmX3, rfl, rfl, tyX3_ok 1 (by decide), fun _ => rfl, fun _ => rfl⟩
theorem ff_RX4_15 : kFF RX4 15 4 0 := ⟨_, _, _, tyX4, _, rfl, by decide, kMem 114 (by decide +kernel) rfl, inX4, rfl, by decide, tyX4_ok, nmX4, rfl, rfl, tyX4_ok 0 (by decide), fun _ => rfl, fun _ => rfl⟩
theorem ff_RX5_14 : kFF RX5 14 5 0 := ⟨_, _, _, tyX5, _, rfl, by decide, kMem 204 (by decide +kernel) rfl, inX5, rfl, by decide, tyX5_ok, nmX5, rfl, rfl, tyX5_ok 0 (by decide), fun _ => rfl, fun _ => rfl⟩
theorem ff_RX6_9 : kFF RX6 9 6 0 := ⟨_, _, _, tyX6, _, rfl, by decide, kMem 282 (by decide +kernel) rfl, inX6, rfl, by decide, tyX6_ok, nmX6, rfl, rfl, tyX6_ok 0 (by decide), fun _ => rfl, fun _ => rfl⟩
theorem ff_RX6_15 : kFF RX6 15 6 1 := ⟨_, _, _, tyX6, _, rfl, by decide, kMem 283 (by decide +kernel) rfl, inX6, rfl, by decide, tyX6_ok, nmX6, rfl, rfl, tyX6_ok 1 (by decide), fun _ => rfl, fun _ => rfl⟩
theorem ff_RX6_19 : kFF RX6 19 6 2 := ⟨_, _, _, tyX6, _, rfl, by decide, kMem 284 (by decide +kernel) rfl, inX6, rfl, by decide, tyX6_ok, nmX6, rfl, rfl, tyX6_ok 2 (by decide), fun _ => rfl, fun _ => rfl⟩
theorem ff_RX6_22 : kFF RX6 22 6 3 := ⟨_, _, _, tyX6, _, rfl, by decide, kMem 285 (by decide +kernel) rfl, inX6, rfl, by decide, tyX6_ok, nmX6, rfl, rfl, tyX6_ok 3 (by decide), fun _ => rfl, fun _ => rfl⟩
theorem ff_RX6_25 : kFF RX6 25 6 4 := ⟨_, _, _, tyX6, _, rfl, by decide, kMem 286 (by decide +kernel) rfl, inX6, rfl, by decide, tyX6_ok, nmX6, rfl, rfl, tyX6_ok 4 (by decide), fun _ => rfl, fun _ => rfl⟩
theorem ff_RX7_14 : kFF RX7 14 7 0 := ⟨_, _, _, tyX7, _, rfl, by decide, kMem 134 (by decide +kernel) rfl, inX7, rfl, by decide, tyX7_ok, nmX7, rfl, rfl, tyX7_ok 0 (by decide), fun _ => rfl, fun _ => rfl⟩
theorem ff_RX7_20 : kFF RX7 20 7 1 := ⟨_, _, _, tyX7, _, rfl, by decide, kMem 138 (by decide +kernel) rfl, inX7, rfl, by decide, tyX7_ok, nmX7, rfl, rfl, tyX7_ok 1 (by decide), fun _ => rfl, fun _ => rfl⟩
theorem ff_RX7_23 : kFF RX7 23 7 2 := ⟨_, _, _, tyX7, _, rfl, by decide, kMem 140 (by decide +kernel) rfl, inX7, rfl, by decide, tyX7_ok, nmX7, rfl, rfl, tyX7_ok 2 (by decide), fun _ => rfl, fun _ => rfl⟩
theorem ff_RX8_9 : kFF RX8 9 8 0 := ⟨_, _, _, tyX8, _, rfl, by decide, kMem 309 (by decide +kernel) rfl, inX8, rfl, by decide, tyX8_ok, nmX8, rfl, rfl, tyX8_ok 0 (by decide), fun _ => rfl, fun _ => rfl⟩
theorem ff_RX8_20 : kFF RX8 20 8 1 := ⟨_, _, _, tyX8, _, rfl, by decide, kMem 310 (by decide +kernel) rfl, inX8, rfl, by decide, tyX8_ok, nmX8, rfl, rfl, tyX8_ok 1 (by decide), fun _ => rfl, fun _ => rfl⟩
theorem ff_RX8_24 : kFF RX8 24 8 2 := ⟨_, _, _, tyX8, _, rfl, by decide, kMem 312 (by decide +kernel) rfl, inX8, rfl, by decide, tyX8_ok, nmX8, rfl, rfl, tyX8_ok 2 (by decide), fun _ => rfl, fun _ => rfl⟩
theorem ff_RX9_9 : kFF RX9 9 9 0 := ⟨_, _, _, tyX9, _, rfl, by decide, kMem 326 (by decide +kernel) rfl, inX9, rfl, by decide, tyX9_ok, nmX9, rfl, rfl, tyX9_ok 0 (by decide), fun _ => rfl, fun _ => rfl⟩
theorem ff_RX9_15 : kFF RX9 15 9 1 := ⟨_, _, _, tyX9, _, rfl, by decide, kMem 327 (by decide +kernel) rfl, inX9, rfl, by decide, tyX9_ok, nmX9, rfl, rfl, tyX9_ok 1 (by decide), fun _ => rfl, fun _ => rfl⟩
theorem ff_RX9_19 : kFF RX9 19 9 2 := ⟨_, _, _, tyX9, _, rfl, by decide, kMem 328 (by decide +kernel) rfl, inX9, rfl, by decide, tyX9_ok, nmX9, rfl, rfl, tyX9_ok 2 (by decide), fun _ => rfl, fun _ => rfl⟩
theorem ff_RX11_13 : kFF RX11 13 11 1 := ⟨_, _, _, tyX11, _, rfl, by decide, kMem 1160 (by decide +kernel) rfl, inX11, rfl, by decide, tyX11_ok, nmX11, rfl, rfl, tyX11_ok 1 (by decide), fun _ => rfl, fun _ => rfl⟩
theorem ff_RX11_17 : kFF RX11 17 11 2 := ⟨_, _, _, tyX11, _, rfl, by decide, kMem 1161 (by decide +kernel) rfl, inX11, rfl, by decide, tyX11_ok, nmX11, rfl, rfl, tyX11_ok 2 (by decide), fun _ => rfl, fun _ => rfl⟩
theorem ff_RX11_20 : kFF RX11 20 11 3 := ⟨_, _, _, tyX11, _, rfl, by decide, kMem 1162 (by decide +kernel) rfl, inX11, rfl, by decide, tyX11_ok, nmX11, rfl, rfl, tyX11_ok 3 (by decide), fun _ => rfl, fun _ => rfl⟩
theorem ff_RX11_23 : kFF RX11 23 11 5 := ⟨_, _, _, tyX11, _, rfl, by decide, kMem 1164 (by decide +kernel) rfl, inX11, rfl, by decide, tyX11_ok, nmX11, rfl, rfl, tyX11_ok 5 (by decide), fun _ => rfl, fun _ => rfl⟩
theorem ff_RX11_26 : kFF RX11 26 11 7 := ⟨_, _, _, tyX11, _, rfl, by decide, kMem 1166 (by decide +kernel) rfl, inX11, rfl, by decide, tyX11_ok, nmX11, rfl, rfl, tyX11_ok 7 (by decide), fun _ => rfl, fun _ => rfl⟩
theorem ff_RX11_30 : kFF RX11 30 11 8 := ⟨_, _, _, tyX11, _, rfl, by decide, kMem 1167 (by decide +kernel) rfl, inX11, rfl, by decide, tyX11_ok, nmX11, rfl, rfl, tyX11_ok 8 (by decide), fun _ => rfl, fun _ => rfl⟩
theorem ff_RX11_33 : kFF RX11 33 11 9 := ⟨_, _, _, tyX11, _, rfl, by decide, kMem 1168 (by decide +kernel) rfl, inX11, rfl, by decide, tyX11_ok, nmX11, rfl, rfl, tyX11_ok 9 (by decide), fun _ => rfl, fun _ => rfl⟩
theorem ff_RX11_36 : kFF RX11 36 11 11 := ⟨_, _, _, tyX11, _, rfl, by decide, kMem 1170 (by decide +kernel) rfl, inX11, rfl, by decide, tyX11_ok, nmX11, rfl, rfl, tyX11_ok 11 (by decide), fun _ => rfl, fun _ => rfl⟩
theorem ff_RX11_39 : kFF RX11 39 11 12 := ⟨_, _, _, tyX11, _, rfl, by decide, kMem 1171 (by decide +kernel) rfl, inX11, rfl, by decide, tyX11_ok, nmX11, rfl, rfl, tyX11_ok 12 (by decide), fun _ => rfl, fun _ => rfl⟩
theorem ff_RX11_42 : kFF RX11 42 11 13 := ⟨_, _, _, tyX11, _, rfl, by decide, kMem 1172 (by decide +kernel) rfl, inX11, rfl, by decide, tyX11_ok, nmX11, rfl, rfl, tyX11_ok 13 (by decide), fun _ => rfl, fun _ => rfl⟩
theorem ff_RX11_45 : kFF RX11 45 11 14 := ⟨_, _, _, tyX11, _, rfl, by decide, kMem 1173 (by decide +kernel) rfl, inX11, rfl, by decide, tyX11_ok, nmX11, rfl, rfl, tyX11_ok 14 (by decide), fun _ => rfl, fun _ => rfl⟩
theorem ff_RX11_48 : kFF RX11 48 11 15 := ⟨_, _, _, tyX11, _, rfl, by decide, kMem 1174 (by decide +kernel) rfl, inX11, rfl, by decide, tyX11_ok, nmX11, rfl, rfl, tyX11_ok 15 (by decide), fun _ => rfl, fun _ => rfl⟩
theorem ff_RX11_51 : kFF RX11 51 11 16 := ⟨_, _, _, tyX11, _, rfl, by decide, kMem 1175 (by decide +kernel) rfl, inX11, rfl, by decide, tyX11_ok, nmX11, rfl, rfl, tyX11_ok 16 (by decide), fun _ => rfl, fun _ => rfl⟩
theorem ff_RX11_54 : kFF RX11 54 11 17 := ⟨_, _, _, tyX11, _, rfl, by decide, kMem 1176 (by decide +kernel) rfl, inX11, rfl, by decide, tyX11_ok, nmX11, rfl, rfl, tyX11_ok 17 (by decide), fun _ => rfl, fun _ => rfl⟩
theorem ff_RX11_57 : kFF RX11 57 11 18 := ⟨_, _, _, tyX11, _, rfl, by decide, kMem 1177 (by decide +kernel) rfl, inX11, rfl, by decide, tyX11_ok, nmX11, rfl, rfl, tyX11_ok 18 (by decide), fun _ => rfl, fun _ => rfl⟩
theorem ff_RX11_60 : kFF RX11 60 11 19 := ⟨_, _, _, tyX11, _, rfl, by decide, kMem 1178 (by decide +kernel) rfl, inX11, rfl, by decide, tyX11_ok, nmX11, rfl, rfl, tyX11_ok 19 (by decide), fun _ => rfl, fun _ => rfl⟩
theorem ff_RX11_63 : kFF RX11 63 11 20 := ⟨_, _, _, tyX11, _, rfl, by decide, kMem 1179 (by decide +kernel) rfl, inX11, rfl, by decide, tyX11_ok, nmX11, rfl, rfl, tyX11_ok 20 (by decide), fun _ => rfl, fun _ => rfl⟩
theorem ff_RX11_66 : kFF RX11 66 11 22 := ⟨_, _, _, tyX11, _, rfl, by decide, kMem 1181 (by decide +kernel) rfl, inX11, rfl, by decide, tyX11_ok, nmX11, rfl, rfl, tyX11_ok 22 (by decide), fun _ => rfl, fun _ => rfl⟩
theorem ff_RX11_69 : kFF RX11 69 11 24 := ⟨_, _, _, tyX11, _, rfl, by decide, kMem 1183 (by decide +kernel) rfl, inX11, rfl, by decide, tyX11_ok, nmX11, rfl, rfl, tyX11_ok 24 (by decide), fun _ => rfl, fun _ => rfl⟩
theorem il_RX10_9 : kIL RX10 9 yX7_init mX7_init 0 := ⟨kMemL [101, 102, 73, 103] (by decide +kernel) (by decide +kernel), by decide +kernel, rfl, rfl⟩
theorem il_RX10_21 : kIL RX10 21 yX1_init mX1_init 0 := ⟨kMemL [157, 158, 77, 159] (by decide +kernel) (by decide +kernel), by decide +kernel, rfl, rfl⟩
theorem il_RX10_28 : kIL RX10 28 yX4_init mX4_init 1 := ⟨kMemL [176, 108, 74, 109] (by decide +kernel) (by decide +kernel), by decide +kernel, rfl, rfl⟩
theorem il_RX10_37 : kIL RX10 37 yX3_init mX3_init 2 := ⟨kMemL [179, 180, 78, 181] (by decide +kernel) (by decide +kernel), by decide +kernel, rfl, rfl⟩
theorem il_RX10_46 : kIL RX10 46 yX5_init mX5_init 0 := ⟨kMemL [198, 199, 79, 200] (by decide +kernel) (by decide +kernel), by decide +kernel, rfl, rfl⟩
theorem il_RX10_53 : kIL RX10 53 yX0_init mX0_init 0 := ⟨kMemL [211, 212, 80, 213] (by decide +kernel) (by decide +kernel), by decide +kernel, rfl, rfl⟩
theorem il_RX10_60 : kIL RX10 60 yX2_init mX2_init 1 := ⟨kMemL [256, 257, 82, 258] (by decide +kernel) (by decide +kernel), by decide +kernel, rfl, rfl⟩
theorem il_RX10_72 : kIL RX10 72 yX6_init mX6_init 1 := ⟨kMemL [278, 279, 83, 280] (by decide +kernel) (by decide +kernel), by decide +kernel, rfl, rfl⟩
theorem il_RX10_81 : kIL RX10 81 yX8_init mX8_init 1 := ⟨kMemL [303, 304, 84, 305] (by decide +kernel) (by decide +kernel), by decide +kernel, rfl, rfl⟩
theorem il_RX10_88 : kIL RX10 88 yX9_init mX9_init 1 := ⟨kMemL [322, 323, 85, 324] (by decide +kernel) (by decide +kernel), by decide +kernel, rfl, rfl⟩
theorem il_RX0_17 : kIL RX0 17 yX4_init mX4_init 1 := ⟨kMemL [216, 108, 74, 109] (by decide +kernel) (by decide +kernel), by decide +kernel, rfl, rfl⟩
theorem il_RX1_17 : kIL RX1 17 yX7_init mX7_init 0 := ⟨kMemL [163, 102, 73, 103] (by decide +kernel) (by decide +kernel), by decide +kernel, rfl, rfl⟩
theorem il_RX5_11 : kIL RX5 11 yX4_init mX4_init 1 := ⟨kMemL [203, 108, 74, 109] (by decide +kernel) (by decide +kernel), by decide +kernel, rfl, rfl⟩
theorem il_RX7_11 : kIL RX7 11 yX4_init mX4_init 1 := ⟨kMemL [107, 108, 74, 109] (by decide +kernel) (by decide +kernel), by decide +kernel, rfl, rfl⟩
theorem il_RX8_17 : kIL RX8 17 yX4_init mX4_init 1 := ⟨kMemL [308, 108, 74, 109] (by decide +kernel) (by decide +kernel), by decide +kernel, rfl, rfl⟩
theorem il_RL_9 : kIL RL 9 yX10_init mX10_init 0 := ⟨kMemL [93, 94, 72, 95] (by decide +kernel) (by decide +kernel), by decide +kernel, rfl, rfl⟩
theorem il_RL_12 : kIL RL 12 yX11_init mX11_init 0 := ⟨kMemL [1153, 1154, 86, 1155] (by decide +kernel) (by decide +kernel), by decide +kernel, rfl, rfl⟩
theorem oi_RX10_1 : ∀ w ∈ ([.methodLink RX10 1 objectInit, .instanceMethod objectInit, .code objectInit ⟨#[0xb1]⟩ 1 none] : List Cond), w ∈ kTb := kMemL [96, 97, 98] (by decide +kernel) (by decide +kernel)
theorem oi_RX0_3 : ∀ w ∈ ([.methodLink RX0 3 objectInit, .instanceMethod objectInit, .code objectInit ⟨#[0xb1]⟩ 1 none] : List Cond), w ∈ kTb := kMemL [214, 97, 98] (by decide +kernel) (by decide +kernel)
theorem oi_RX1_3 : ∀ w ∈ ([.methodLink RX1 3 objectInit, .instanceMethod objectInit, .code objectInit ⟨#[0xb1]⟩ 1 none] : List Cond), w ∈ kTb := kMemL [160, 97, 98] (by decide +kernel) (by decide +kernel)
theorem oi_RX2_3 : ∀ w ∈ ([.methodLink RX2 3 objectInit, .instanceMethod objectInit, .code objectInit ⟨#[0xb1]⟩ 1 none] : List Cond), w ∈ kTb := kMemL [259, 97, 98] (by decide +kernel) (by decide +kernel)
theorem oi_RX3_3 : ∀ w ∈ ([.methodLink RX3 3 objectInit, .instanceMethod objectInit, .code objectInit ⟨#[0xb1]⟩ 1 none] : List Cond), w ∈ kTb := kMemL [182, 97, 98] (by decide +kernel) (by decide +kernel)
theorem oi_RX4_3 : ∀ w ∈ ([.methodLink RX4 3 objectInit, .instanceMethod objectInit, .code objectInit ⟨#[0xb1]⟩ 1 none] : List Cond), w ∈ kTb := kMemL [110, 97, 98] (by decide +kernel) (by decide +kernel)
theorem oi_RX5_3 : ∀ w ∈ ([.methodLink RX5 3 objectInit, .instanceMethod objectInit, .code objectInit ⟨#[0xb1]⟩ 1 none] : List Cond), w ∈ kTb := kMemL [201, 97, 98] (by decide +kernel) (by decide +kernel)
theorem oi_RX6_3 : ∀ w ∈ ([.methodLink RX6 3 objectInit, .instanceMethod objectInit, .code objectInit ⟨#[0xb1]⟩ 1 none] : List Cond), w ∈ kTb := kMemL [281, 97, 98] (by decide +kernel) (by decide +kernel)
theorem oi_RX7_3 : ∀ w ∈ ([.methodLink RX7 3 objectInit, .instanceMethod objectInit, .code objectInit ⟨#[0xb1]⟩ 1 none] : List Cond), w ∈ kTb := kMemL [104, 97, 98] (by decide +kernel) (by decide +kernel)
theorem oi_RX8_3 : ∀ w ∈ ([.methodLink RX8 3 objectInit, .instanceMethod objectInit, .code objectInit ⟨#[0xb1]⟩ 1 none] : List Cond), w ∈ kTb := kMemL [306, 97, 98] (by decide +kernel) (by decide +kernel)
theorem oi_RX9_3 : ∀ w ∈ ([.methodLink RX9 3 objectInit, .instanceMethod objectInit, .code objectInit ⟨#[0xb1]⟩ 1 none] : List Cond), w ∈ kTb := kMemL [325, 97, 98] (by decide +kernel) (by decide +kernel)
theorem oi_RX11_7 : ∀ w ∈ ([.methodLink RX11 7 objectInit, .instanceMethod objectInit, .code objectInit ⟨#[0xb1]⟩ 1 none] : List Cond), w ∈ kTb := kMemL [1156, 97, 98] (by decide +kernel) (by decide +kernel)
def i_X4 (r : Nat) (σ : Wd) : Wd :=
  up (zr σ (r + 1)) r 1 0
abbrev rI_X4_init (N : Nat) : Room := { frames := 1, cells := 1, slots := (0 + N), locals := 21 }
set_option maxRecDepth 100000 in
set_option maxHeartbeats 1000000 in
theorem c_X4_init {E0 : JE} {r : Nat} {t : Nat} {N : Nat} {x1 : Int32} (hr : kKd r = 4) (ht : t < 9999) (hl1 : kLn (r + 1) = N) (hb : N ≤ 300) (hx : ¬ J9_max_7cf53 x1 0 < 0) (hN : (J9_max_7cf53 x1 0).toNatClampNeg = N) (ht0 : kTm r 0 = t) (σ : Wd)  : kMc E0 yX4_init mX4_init (rI_X4_init N) [.inr r, .inl x1] (r + 1) t σ (r + 2) (t + 1) (i_X4 r σ) 1 (0 + N) := by
  have hbd := kn4_1 hr
  refine kMc_of (by decide +kernel) rfl (Nat.le_of_ble_eq_true rfl) ?_
  refine kg_aload_n dX4_init_0 (pc' := 1) rfl rfl rfl ?_
  refine kg_objInit (n := 0) oi_RX4_3 (Nat.le_of_ble_eq_true rfl) (Nat.le_of_ble_eq_true rfl) dX4_init_1 (pc' := 4) rfl ?_
  refine kg_aload_n dX4_init_4 (pc' := 5) rfl rfl rfl ?_
  refine kg_iload_n dX4_init_5 (pc' := 6) rfl rfl rfl ?_
  refine kg_iconst dX4_init_6 (pc' := 7) rfl kc_0 ?_
  refine kgSi (as := [.inl x1, .inl 0]) (st := [.inr r]) l_RX4_9 (m_J9_max_7cf53 (Nat.zero_le _) σ x1 0 rfl) rfl ⟨⟨rfl, rfl⟩, Nat.le_of_ble_eq_true rfl, Nat.le_of_ble_eq_true rfl⟩ ⟨Nat.zero_le _, Nat.zero_le _⟩ (Nat.le_of_ble_eq_true rfl) dX4_init_7 (pc' := 10) rfl ?_
  refine kg_newa (atype := .int) (j := 0) (n := (r + 1)) (t := t) (N := N) rfl (by decide) (kMem 130 (by decide +kernel) rfl) rfl (kk4_1 hr) hl1 hx hN (show N * 4 ≤ 536870912 by omega) (by omega) (by omega) (Nat.le_of_ble_eq_true rfl) (by show _ ≤ _; simp) dX4_init_10 (pc' := 12) rfl ?_
  refine kg_putR (n := (r + 2)) (t := t) (q := (r + 1)) ff_RX4_15 rfl (by omega) ht0 (kr4_0_0 hr) hr (show r < (r + 2) by omega) dX4_init_12 (pc' := 15) rfl ?_
  refine kg_aload_n dX4_init_15 (pc' := 16) rfl rfl rfl ?_
  refine kg_iconst dX4_init_16 (pc' := 17) rfl kc_0 ?_
  refine kg_putI p_RX4_21 rfl rfl hr (show r < (r + 2) by omega) dX4_init_17 (pc' := 20) rfl ?_
  exact kg_vret rfl dX4_init_20
def i_X7 (s : Nat) (σ : Wd) : Option Wd :=
  ((J7_fill_53178 (zr (i_X4 (s + 3) (zr (i_X4 (s + 1) (zr σ (s + 1))) (s + 3))) (s + 5)) (s + 5) 1).bind fun σ1 => some (up σ1 s 3 4))
abbrev rI_X7_init : Room := { frames := 2, cells := 5, slots := 43, locals := 42 }
set_option maxRecDepth 100000 in
set_option maxHeartbeats 1000000 in
theorem c_X7_init {E0 : JE} {s : Nat} {t : Nat} (hr : kKd s = 7) (ht : t < 9990) (hm1 : ∀ i, t ≤ kTm (s + 1) i) (htr1 : kTm (s + 1) 0 = t) (hlr1 : kLn ((s + 1) + 1) = 12) (ht1 : kTm s 0 = t + 1) (hm3 : ∀ i, t + 2 ≤ kTm (s + 3) i) (htr3 : kTm (s + 3) 0 = t + 2) (hlr3 : kLn ((s + 3) + 1) = 20) (ht3 : kTm s 1 = t + 3) (hl5 : kLn (s + 5) = 7) (ht4 : kTm s 2 = t + 4) (σ : Wd) {res : Wd} (hT : i_X7 s σ = some res) : kMc E0 yX7_init mX7_init rI_X7_init [.inr s] (s + 1) t σ (s + 6) (t + 5) res 5 43 := by
  have hbd := kn7_5 hr
  refine kMc_of (by decide +kernel) rfl (Nat.le_of_ble_eq_true rfl) ?_
  unfold i_X7 at hT
  refine kg_aload_n dX7_init_0 (pc' := 1) rfl rfl rfl ?_
  refine kg_objInit (n := 0) oi_RX7_3 (Nat.le_of_ble_eq_true rfl) (Nat.le_of_ble_eq_true rfl) dX7_init_1 (pc' := 4) rfl ?_
  refine kg_aload_n dX7_init_4 (pc' := 5) rfl rfl rfl ?_
  refine kg_new nw_RX7_9 (n := (s + 1)) (t := t) (kk7_1 hr) hm1 (by omega) (by omega) (Nat.le_of_ble_eq_true rfl) (Nat.le_of_ble_eq_true rfl) dX7_init_5 (pc' := 8) rfl ?_
  refine kg_dup dX7_init_8 (pc' := 9) rfl ?_
  refine kg_bipush dX7_init_9 (pc' := 11) rfl kb_12 ?_
  refine kg_callI (as := [.inl 12]) (st := [.inr (s + 1), .inr s]) il_RX7_11 (c_X4_init (E0 := E0) (r := (s + 1)) (t := t) (N := 12) (x1 := 12) (kk7_1 hr) (by omega) hlr1 (by decide) (by decide +kernel) (by decide +kernel) htr1 (zr σ (s + 1))) rfl (by omega) (by omega) (by omega) ⟨⟨rfl, rfl⟩, Nat.le_of_ble_eq_true rfl, Nat.le_of_ble_eq_true rfl⟩ (Nat.le_of_ble_eq_true rfl) ⟨Nat.le_of_ble_eq_true rfl, Nat.le_of_ble_eq_true rfl⟩ dX7_init_11 (pc' := 14) rfl ?_
  refine kg_to (n2 := (s + 3)) (t2 := t + 1) (cl2 := 2) (sl2 := 14) rfl rfl rfl rfl rfl rfl rfl ?_
  refine kg_putR (n := (s + 3)) (t := t + 1) (q := (s + 1)) ff_RX7_14 rfl (by omega) ht1 (kr7_0_0 hr) hr (show s < (s + 3) by omega) dX7_init_14 (pc' := 17) rfl ?_
  refine kg_aload_n dX7_init_17 (pc' := 18) rfl rfl rfl ?_
  refine kg_new nw_RX7_9 (n := (s + 3)) (t := t + 2) (kk7_3 hr) hm3 (by omega) (by omega) (Nat.le_of_ble_eq_true rfl) (Nat.le_of_ble_eq_true rfl) dX7_init_18 (pc' := 21) rfl ?_
  refine kg_dup dX7_init_21 (pc' := 22) rfl ?_
  refine kg_bipush dX7_init_22 (pc' := 24) rfl kb_20 ?_
  refine kg_callI (as := [.inl 20]) (st := [.inr (s + 3), .inr s]) il_RX7_11 (c_X4_init (E0 := E0) (r := (s + 3)) (t := t + 2) (N := 20) (x1 := 20) (kk7_3 hr) (by omega) hlr3 (by decide) (by decide +kernel) (by decide +kernel) htr3 (zr (i_X4 (s + 1) (zr σ (s + 1))) (s + 3))) rfl (by omega) (by omega) (by omega) ⟨⟨rfl, rfl⟩, Nat.le_of_ble_eq_true rfl, Nat.le_of_ble_eq_true rfl⟩ (Nat.le_of_ble_eq_true rfl) ⟨Nat.le_of_ble_eq_true rfl, Nat.le_of_ble_eq_true rfl⟩ dX7_init_24 (pc' := 27) rfl ?_
  refine kg_to (n2 := (s + 5)) (t2 := t + 3) (cl2 := 4) (sl2 := 36) rfl rfl rfl rfl rfl rfl rfl ?_
  refine kg_putR (n := (s + 5)) (t := t + 3) (q := (s + 3)) ff_RX7_20 rfl (by omega) ht3 (kr7_0_1 hr) hr (show s < (s + 5) by omega) dX7_init_27 (pc' := 30) rfl ?_
  refine kg_aload_n dX7_init_30 (pc' := 31) rfl rfl rfl ?_
  refine kg_bipush dX7_init_31 (pc' := 33) rfl kb_7 ?_
  refine kg_newa (atype := .int) (j := 0) (n := (s + 5)) (t := t + 4) (N := 7) rfl (by decide) (kMem 130 (by decide +kernel) rfl) rfl (kk7_5 hr) hl5 (by decide +kernel) (by decide +kernel) (by decide) (by omega) (by omega) (Nat.le_of_ble_eq_true rfl) (Nat.le_of_ble_eq_true rfl) dX7_init_33 (pc' := 35) rfl ?_
  refine kg_putR (n := (s + 6)) (t := t + 4) (q := (s + 5)) ff_RX7_23 rfl (by omega) ht4 (kr7_0_2 hr) hr (show s < (s + 6) by omega) dX7_init_35 (pc' := 38) rfl ?_
  refine kg_aload_n dX7_init_38 (pc' := 39) rfl rfl rfl ?_
  refine kg_getR f_RX7_23 hr (show s < (s + 6) by omega) (kMt_ok (by omega)) (q := (s + 5)) (kr7_0_2 hr) dX7_init_39 (pc' := 42) rfl ?_
  refine kg_iconst dX7_init_42 (pc' := 43) rfl kc_1 ?_
  obtain ⟨σ1, hσ1, hT⟩ := bind_some' hT
  refine kgSv (as := [.inr (s + 5), .inl 1]) (st := []) l_RX7_27 (m_J7_fill_53178 (Nat.zero_le _) (kk7_5 hr) (show (s + 5) < (s + 6) by omega) (zr (i_X4 (s + 3) (zr (i_X4 (s + 1) (zr σ (s + 1))) (s + 3))) (s + 5)) 1 hσ1) rfl ⟨⟨rfl, rfl⟩, Nat.le_of_ble_eq_true rfl, Nat.le_of_ble_eq_true rfl⟩ ⟨Nat.le_of_ble_eq_true rfl, Nat.le_of_ble_eq_true rfl⟩ (Nat.le_of_ble_eq_true rfl) dX7_init_43 (pc' := 46) rfl ?_
  refine kg_aload_n dX7_init_46 (pc' := 47) rfl rfl rfl ?_
  refine kg_iconst dX7_init_47 (pc' := 48) rfl kc_4 ?_
  refine kg_putI p_RX7_33 rfl rfl hr (show s < (s + 6) by omega) dX7_init_48 (pc' := 51) rfl ?_
  have hR := Option.some.inj hT
  subst hR
  exact kg_vret rfl dX7_init_51
def i_X1_init (σ : Wd) : Option Wd :=
  ((i_X7 15 (zr (zr σ 14) 15)).bind fun σ1 => ((i_X7 21 (zr σ1 21)).bind fun σ2 => ((i_X7 27 (zr σ2 27)).bind fun σ3 => ((i_X7 33 (zr σ3 33)).bind fun σ4 => ((i_X7 39 (zr σ4 39)).bind fun σ5 => ((i_X7 45 (zr σ5 45)).bind fun σ6 => ((i_X7 51 (zr σ6 51)).bind fun σ7 => ((i_X7 57 (zr σ7 57)).bind fun σ8 => ((i_X7 63 (zr σ8 63)).bind fun σ9 => ((i_X7 69 (zr σ9 69)).bind fun σ10 => ((i_X7 75 (zr σ10 75)).bind fun σ11 => ((i_X7 81 (zr σ11 81)).bind fun σ12 => some (up (up σ12 13 1 0) 13 2 0)))))))))))))
abbrev rI_X1_init : Room := { frames := 3, cells := 73, slots := 576, locals := 62 }
set_option maxRecDepth 100000 in
set_option maxHeartbeats 1000000 in
theorem c_X1_init {E0 : JE} (hX : kHX E0) (σ : Wd) {res : Wd} (hT : i_X1_init σ = some res) : kMc E0 yX1_init mX1_init rI_X1_init [.inr 13] 14 12 σ 87 (85) res 73 576 := by
  refine kMc_of (by decide +kernel) rfl (Nat.le_of_ble_eq_true rfl) ?_
  unfold i_X1_init at hT
  refine kg_aload_n dX1_init_0 (pc' := 1) rfl rfl rfl ?_
  refine kg_objInit (n := 0) oi_RX1_3 (Nat.le_of_ble_eq_true rfl) (Nat.le_of_ble_eq_true rfl) dX1_init_1 (pc' := 4) rfl ?_
  refine kg_aload_n dX1_init_4 (pc' := 5) rfl rfl rfl ?_
  refine kg_bipush dX1_init_5 (pc' := 7) rfl kb_12 ?_
  refine kg_anewa (n := 14) (t := 12) (N := 12) (kMem 161 (by decide +kernel) rfl) hX rfl rfl (kTm_all (by decide +kernel) (by decide)) (by decide +kernel) (by decide +kernel) (by decide) rfl (by decide) (Nat.le_of_ble_eq_true rfl) (Nat.le_of_ble_eq_true rfl) dX1_init_7 (pc' := 10) rfl ?_
  refine kg_putR (n := 15) (t := 12) (q := 14) ff_RX1_11 rfl (by decide) (by decide +kernel) rfl rfl (Nat.le_of_ble_eq_true rfl : 13 < 15) dX1_init_10 (pc' := 13) rfl ?_
  refine kg_iconst dX1_init_13 (pc' := 14) rfl kc_0 ?_
  refine kg_istore_n dX1_init_14 (pc' := 15) rfl rfl (Nat.le_of_ble_eq_true rfl) (ls' := [some (.inr 13), some (.inl 0)]) rfl ?_
  refine kg_iload_n dX1_init_15 (pc' := 16) rfl rfl rfl ?_
  refine kg_aload_n dX1_init_16 (pc' := 17) rfl rfl rfl ?_
  refine kg_getR f_RX1_11 rfl (Nat.le_of_ble_eq_true rfl : 13 < 15) (kMt_ok (by decide +kernel)) (q := 14) rfl dX1_init_17 (pc' := 20) rfl ?_
  refine kg_alenQ (v := 12) rfl (Nat.le_of_ble_eq_true rfl : 14 < 15) (by decide +kernel) dX1_init_20 (pc' := 21) rfl ?_
  refine kg_icmp_ge dX1_init_21 (tgt := 43) rfl (pc' := 24) rfl (fun c => absurd c (by decide +kernel)) (fun _ => ?_)
  refine kg_aload_n dX1_init_24 (pc' := 25) rfl rfl rfl ?_
  refine kg_getR f_RX1_11 rfl (Nat.le_of_ble_eq_true rfl : 13 < 15) (kMt_ok (by decide +kernel)) (q := 14) rfl dX1_init_25 (pc' := 28) rfl ?_
  refine kg_iload_n dX1_init_28 (pc' := 29) rfl rfl rfl ?_
  refine kg_new nw_RX1_9 (n := 15) (t := 13) rfl (kTm_all (by decide +kernel) (by decide)) rfl (by decide) (Nat.le_of_ble_eq_true rfl) (Nat.le_of_ble_eq_true rfl) dX1_init_29 (pc' := 32) rfl ?_
  refine kg_dup dX1_init_32 (pc' := 33) rfl ?_
  obtain ⟨σ1, hσ1, hT⟩ := bind_some' hT
  refine kg_callI (as := []) (st := [.inr 15, .inl 0, .inr 14]) il_RX1_17 (c_X7_init (E0 := E0) (s := 15) (t := 13) rfl (by decide) (kTm_all (by decide +kernel) (by decide)) (by decide +kernel) (by decide +kernel) (by decide +kernel) (kTm_all (by decide +kernel) (by decide)) (by decide +kernel) (by decide +kernel) (by decide +kernel) (by decide +kernel) (by decide +kernel) (zr (zr σ 14) 15) hσ1) rfl rfl (by decide) (by decide) ⟨⟨rfl, rfl⟩, Nat.le_of_ble_eq_true rfl, Nat.le_of_ble_eq_true rfl⟩ (Nat.le_of_ble_eq_true rfl) ⟨Nat.le_of_ble_eq_true rfl, Nat.le_of_ble_eq_true rfl⟩ dX1_init_33 (pc' := 36) rfl ?_
  refine kg_to (n2 := 21) (t2 := 18) (cl2 := 7) (sl2 := 59) rfl rfl rfl rfl rfl rfl rfl ?_
  refine kg_aast (n := 21) (t := 18) (q := 15) (j := 0) (by decide) (by decide +kernel) (by decide +kernel) rfl rfl rfl (Nat.le_of_ble_eq_true rfl : 14 < 21) (Nat.le_of_ble_eq_true rfl : 15 < 21) (vp_lit (by decide +kernel)) dX1_init_36 (pc' := 37) rfl ?_
  refine kg_iinc dX1_init_37 (pc' := 40) rfl rfl (v := 1) (by decide +kernel) (Nat.le_of_ble_eq_true rfl) (ls' := [some (.inr 13), some (.inl 1)]) rfl ?_
  refine kg_goto dX1_init_40 (pc' := 15) rfl ?_
  refine kg_iload_n dX1_init_15 (pc' := 16) rfl rfl rfl ?_
  refine kg_aload_n dX1_init_16 (pc' := 17) rfl rfl rfl ?_
  refine kg_getR f_RX1_11 rfl (Nat.le_of_ble_eq_true rfl : 13 < 21) (kMt_ok (by decide +kernel)) (q := 14) rfl dX1_init_17 (pc' := 20) rfl ?_
  refine kg_alenQ (v := 12) rfl (Nat.le_of_ble_eq_true rfl : 14 < 21) (by decide +kernel) dX1_init_20 (pc' := 21) rfl ?_
  refine kg_icmp_ge dX1_init_21 (tgt := 43) rfl (pc' := 24) rfl (fun c => absurd c (by decide +kernel)) (fun _ => ?_)
  refine kg_aload_n dX1_init_24 (pc' := 25) rfl rfl rfl ?_
  refine kg_getR f_RX1_11 rfl (Nat.le_of_ble_eq_true rfl : 13 < 21) (kMt_ok (by decide +kernel)) (q := 14) rfl dX1_init_25 (pc' := 28) rfl ?_
  refine kg_iload_n dX1_init_28 (pc' := 29) rfl rfl rfl ?_
  refine kg_new nw_RX1_9 (n := 21) (t := 19) rfl (kTm_all (by decide +kernel) (by decide)) rfl (by decide) (Nat.le_of_ble_eq_true rfl) (Nat.le_of_ble_eq_true rfl) dX1_init_29 (pc' := 32) rfl ?_
  refine kg_dup dX1_init_32 (pc' := 33) rfl ?_
  obtain ⟨σ2, hσ2, hT⟩ := bind_some' hT
  refine kg_callI (as := []) (st := [.inr 21, .inl 1, .inr 14]) il_RX1_17 (c_X7_init (E0 := E0) (s := 21) (t := 19) rfl (by decide) (kTm_all (by decide +kernel) (by decide)) (by decide +kernel) (by decide +kernel) (by decide +kernel) (kTm_all (by decide +kernel) (by decide)) (by decide +kernel) (by decide +kernel) (by decide +kernel) (by decide +kernel) (by decide +kernel) (zr σ1 21) hσ2) rfl rfl (by decide) (by decide) ⟨⟨rfl, rfl⟩, Nat.le_of_ble_eq_true rfl, Nat.le_of_ble_eq_true rfl⟩ (Nat.le_of_ble_eq_true rfl) ⟨Nat.le_of_ble_eq_true rfl, Nat.le_of_ble_eq_true rfl⟩ dX1_init_33 (pc' := 36) rfl ?_
  refine kg_to (n2 := 27) (t2 := 24) (cl2 := 13) (sl2 := 106) rfl rfl rfl rfl rfl rfl rfl ?_
  refine kg_aast (n := 27) (t := 24) (q := 21) (j := 1) (by decide) (by decide +kernel) (by decide +kernel) rfl rfl rfl (Nat.le_of_ble_eq_true rfl : 14 < 27) (Nat.le_of_ble_eq_true rfl : 21 < 27) (vp_lit (by decide +kernel)) dX1_init_36 (pc' := 37) rfl ?_
  refine kg_iinc dX1_init_37 (pc' := 40) rfl rfl (v := 2) (by decide +kernel) (Nat.le_of_ble_eq_true rfl) (ls' := [some (.inr 13), some (.inl 2)]) rfl ?_
  refine kg_goto dX1_init_40 (pc' := 15) rfl ?_
  refine kg_iload_n dX1_init_15 (pc' := 16) rfl rfl rfl ?_
  refine kg_aload_n dX1_init_16 (pc' := 17) rfl rfl rfl ?_
  refine kg_getR f_RX1_11 rfl (Nat.le_of_ble_eq_true rfl : 13 < 27) (kMt_ok (by decide +kernel)) (q := 14) rfl dX1_init_17 (pc' := 20) rfl ?_
  refine kg_alenQ (v := 12) rfl (Nat.le_of_ble_eq_true rfl : 14 < 27) (by decide +kernel) dX1_init_20 (pc' := 21) rfl ?_
  refine kg_icmp_ge dX1_init_21 (tgt := 43) rfl (pc' := 24) rfl (fun c => absurd c (by decide +kernel)) (fun _ => ?_)
  refine kg_aload_n dX1_init_24 (pc' := 25) rfl rfl rfl ?_
  refine kg_getR f_RX1_11 rfl (Nat.le_of_ble_eq_true rfl : 13 < 27) (kMt_ok (by decide +kernel)) (q := 14) rfl dX1_init_25 (pc' := 28) rfl ?_
  refine kg_iload_n dX1_init_28 (pc' := 29) rfl rfl rfl ?_
  refine kg_new nw_RX1_9 (n := 27) (t := 25) rfl (kTm_all (by decide +kernel) (by decide)) rfl (by decide) (Nat.le_of_ble_eq_true rfl) (Nat.le_of_ble_eq_true rfl) dX1_init_29 (pc' := 32) rfl ?_
  refine kg_dup dX1_init_32 (pc' := 33) rfl ?_
  obtain ⟨σ3, hσ3, hT⟩ := bind_some' hT
  refine kg_callI (as := []) (st := [.inr 27, .inl 2, .inr 14]) il_RX1_17 (c_X7_init (E0 := E0) (s := 27) (t := 25) rfl (by decide) (kTm_all (by decide +kernel) (by decide)) (by decide +kernel) (by decide +kernel) (by decide +kernel) (kTm_all (by decide +kernel) (by decide)) (by decide +kernel) (by decide +kernel) (by decide +kernel) (by decide +kernel) (by decide +kernel) (zr σ2 27) hσ3) rfl rfl (by decide) (by decide) ⟨⟨rfl, rfl⟩, Nat.le_of_ble_eq_true rfl, Nat.le_of_ble_eq_true rfl⟩ (Nat.le_of_ble_eq_true rfl) ⟨Nat.le_of_ble_eq_true rfl, Nat.le_of_ble_eq_true rfl⟩ dX1_init_33 (pc' := 36) rfl ?_
  refine kg_to (n2 := 33) (t2 := 30) (cl2 := 19) (sl2 := 153) rfl rfl rfl rfl rfl rfl rfl ?_
  refine kg_aast (n := 33) (t := 30) (q := 27) (j := 2) (by decide) (by decide +kernel) (by decide +kernel) rfl rfl rfl (Nat.le_of_ble_eq_true rfl : 14 < 33) (Nat.le_of_ble_eq_true rfl : 27 < 33) (vp_lit (by decide +kernel)) dX1_init_36 (pc' := 37) rfl ?_
  refine kg_iinc dX1_init_37 (pc' := 40) rfl rfl (v := 3) (by decide +kernel) (Nat.le_of_ble_eq_true rfl) (ls' := [some (.inr 13), some (.inl 3)]) rfl ?_
  refine kg_goto dX1_init_40 (pc' := 15) rfl ?_
  refine kg_iload_n dX1_init_15 (pc' := 16) rfl rfl rfl ?_
  refine kg_aload_n dX1_init_16 (pc' := 17) rfl rfl rfl ?_
  refine kg_getR f_RX1_11 rfl (Nat.le_of_ble_eq_true rfl : 13 < 33) (kMt_ok (by decide +kernel)) (q := 14) rfl dX1_init_17 (pc' := 20) rfl ?_
  refine kg_alenQ (v := 12) rfl (Nat.le_of_ble_eq_true rfl : 14 < 33) (by decide +kernel) dX1_init_20 (pc' := 21) rfl ?_
  refine kg_icmp_ge dX1_init_21 (tgt := 43) rfl (pc' := 24) rfl (fun c => absurd c (by decide +kernel)) (fun _ => ?_)
  refine kg_aload_n dX1_init_24 (pc' := 25) rfl rfl rfl ?_
  refine kg_getR f_RX1_11 rfl (Nat.le_of_ble_eq_true rfl : 13 < 33) (kMt_ok (by decide +kernel)) (q := 14) rfl dX1_init_25 (pc' := 28) rfl ?_
  refine kg_iload_n dX1_init_28 (pc' := 29) rfl rfl rfl ?_
  refine kg_new nw_RX1_9 (n := 33) (t := 31) rfl (kTm_all (by decide +kernel) (by decide)) rfl (by decide) (Nat.le_of_ble_eq_true rfl) (Nat.le_of_ble_eq_true rfl) dX1_init_29 (pc' := 32) rfl ?_
  refine kg_dup dX1_init_32 (pc' := 33) rfl ?_
  obtain ⟨σ4, hσ4, hT⟩ := bind_some' hT
  refine kg_callI (as := []) (st := [.inr 33, .inl 3, .inr 14]) il_RX1_17 (c_X7_init (E0 := E0) (s := 33) (t := 31) rfl (by decide) (kTm_all (by decide +kernel) (by decide)) (by decide +kernel) (by decide +kernel) (by decide +kernel) (kTm_all (by decide +kernel) (by decide)) (by decide +kernel) (by decide +kernel) (by decide +kernel) (by decide +kernel) (by decide +kernel) (zr σ3 33) hσ4) rfl rfl (by decide) (by decide) ⟨⟨rfl, rfl⟩, Nat.le_of_ble_eq_true rfl, Nat.le_of_ble_eq_true rfl⟩ (Nat.le_of_ble_eq_true rfl) ⟨Nat.le_of_ble_eq_true rfl, Nat.le_of_ble_eq_true rfl⟩ dX1_init_33 (pc' := 36) rfl ?_
  refine kg_to (n2 := 39) (t2 := 36) (cl2 := 25) (sl2 := 200) rfl rfl rfl rfl rfl rfl rfl ?_
  refine kg_aast (n := 39) (t := 36) (q := 33) (j := 3) (by decide) (by decide +kernel) (by decide +kernel) rfl rfl rfl (Nat.le_of_ble_eq_true rfl : 14 < 39) (Nat.le_of_ble_eq_true rfl : 33 < 39) (vp_lit (by decide +kernel)) dX1_init_36 (pc' := 37) rfl ?_
  refine kg_iinc dX1_init_37 (pc' := 40) rfl rfl (v := 4) (by decide +kernel) (Nat.le_of_ble_eq_true rfl) (ls' := [some (.inr 13), some (.inl 4)]) rfl ?_
  refine kg_goto dX1_init_40 (pc' := 15) rfl ?_
  refine kg_iload_n dX1_init_15 (pc' := 16) rfl rfl rfl ?_
  refine kg_aload_n dX1_init_16 (pc' := 17) rfl rfl rfl ?_
  refine kg_getR f_RX1_11 rfl (Nat.le_of_ble_eq_true rfl : 13 < 39) (kMt_ok (by decide +kernel)) (q := 14) rfl dX1_init_17 (pc' := 20) rfl ?_
  refine kg_alenQ (v := 12) rfl (Nat.le_of_ble_eq_true rfl : 14 < 39) (by decide +kernel) dX1_init_20 (pc' := 21) rfl ?_
  refine kg_icmp_ge dX1_init_21 (tgt := 43) rfl (pc' := 24) rfl (fun c => absurd c (by decide +kernel)) (fun _ => ?_)
  refine kg_aload_n dX1_init_24 (pc' := 25) rfl rfl rfl ?_
  refine kg_getR f_RX1_11 rfl (Nat.le_of_ble_eq_true rfl : 13 < 39) (kMt_ok (by decide +kernel)) (q := 14) rfl dX1_init_25 (pc' := 28) rfl ?_
  refine kg_iload_n dX1_init_28 (pc' := 29) rfl rfl rfl ?_
  refine kg_new nw_RX1_9 (n := 39) (t := 37) rfl (kTm_all (by decide +kernel) (by decide)) rfl (by decide) (Nat.le_of_ble_eq_true rfl) (Nat.le_of_ble_eq_true rfl) dX1_init_29 (pc' := 32) rfl ?_
  refine kg_dup dX1_init_32 (pc' := 33) rfl ?_
  obtain ⟨σ5, hσ5, hT⟩ := bind_some' hT
  refine kg_callI (as := []) (st := [.inr 39, .inl 4, .inr 14]) il_RX1_17 (c_X7_init (E0 := E0) (s := 39) (t := 37) rfl (by decide) (kTm_all (by decide +kernel) (by decide)) (by decide +kernel) (by decide +kernel) (by decide +kernel) (kTm_all (by decide +kernel) (by decide)) (by decide +kernel) (by decide +kernel) (by decide +kernel) (by decide +kernel) (by decide +kernel) (zr σ4 39) hσ5) rfl rfl (by decide) (by decide) ⟨⟨rfl, rfl⟩, Nat.le_of_ble_eq_true rfl, Nat.le_of_ble_eq_true rfl⟩ (Nat.le_of_ble_eq_true rfl) ⟨Nat.le_of_ble_eq_true rfl, Nat.le_of_ble_eq_true rfl⟩ dX1_init_33 (pc' := 36) rfl ?_
  refine kg_to (n2 := 45) (t2 := 42) (cl2 := 31) (sl2 := 247) rfl rfl rfl rfl rfl rfl rfl ?_
  refine kg_aast (n := 45) (t := 42) (q := 39) (j := 4) (by decide) (by decide +kernel) (by decide +kernel) rfl rfl rfl (Nat.le_of_ble_eq_true rfl : 14 < 45) (Nat.le_of_ble_eq_true rfl : 39 < 45) (vp_lit (by decide +kernel)) dX1_init_36 (pc' := 37) rfl ?_
  refine kg_iinc dX1_init_37 (pc' := 40) rfl rfl (v := 5) (by decide +kernel) (Nat.le_of_ble_eq_true rfl) (ls' := [some (.inr 13), some (.inl 5)]) rfl ?_
  refine kg_goto dX1_init_40 (pc' := 15) rfl ?_
  refine kg_iload_n dX1_init_15 (pc' := 16) rfl rfl rfl ?_
  refine kg_aload_n dX1_init_16 (pc' := 17) rfl rfl rfl ?_
  refine kg_getR f_RX1_11 rfl (Nat.le_of_ble_eq_true rfl : 13 < 45) (kMt_ok (by decide +kernel)) (q := 14) rfl dX1_init_17 (pc' := 20) rfl ?_
  refine kg_alenQ (v := 12) rfl (Nat.le_of_ble_eq_true rfl : 14 < 45) (by decide +kernel) dX1_init_20 (pc' := 21) rfl ?_
  refine kg_icmp_ge dX1_init_21 (tgt := 43) rfl (pc' := 24) rfl (fun c => absurd c (by decide +kernel)) (fun _ => ?_)
  refine kg_aload_n dX1_init_24 (pc' := 25) rfl rfl rfl ?_
  refine kg_getR f_RX1_11 rfl (Nat.le_of_ble_eq_true rfl : 13 < 45) (kMt_ok (by decide +kernel)) (q := 14) rfl dX1_init_25 (pc' := 28) rfl ?_
  refine kg_iload_n dX1_init_28 (pc' := 29) rfl rfl rfl ?_
  refine kg_new nw_RX1_9 (n := 45) (t := 43) rfl (kTm_all (by decide +kernel) (by decide)) rfl (by decide) (Nat.le_of_ble_eq_true rfl) (Nat.le_of_ble_eq_true rfl) dX1_init_29 (pc' := 32) rfl ?_
  refine kg_dup dX1_init_32 (pc' := 33) rfl ?_
  obtain ⟨σ6, hσ6, hT⟩ := bind_some' hT
  refine kg_callI (as := []) (st := [.inr 45, .inl 5, .inr 14]) il_RX1_17 (c_X7_init (E0 := E0) (s := 45) (t := 43) rfl (by decide) (kTm_all (by decide +kernel) (by decide)) (by decide +kernel) (by decide +kernel) (by decide +kernel) (kTm_all (by decide +kernel) (by decide)) (by decide +kernel) (by decide +kernel) (by decide +kernel) (by decide +kernel) (by decide +kernel) (zr σ5 45) hσ6) rfl rfl (by decide) (by decide) ⟨⟨rfl, rfl⟩, Nat.le_of_ble_eq_true rfl, Nat.le_of_ble_eq_true rfl⟩ (Nat.le_of_ble_eq_true rfl) ⟨Nat.le_of_ble_eq_true rfl, Nat.le_of_ble_eq_true rfl⟩ dX1_init_33 (pc' := 36) rfl ?_
  refine kg_to (n2 := 51) (t2 := 48) (cl2 := 37) (sl2 := 294) rfl rfl rfl rfl rfl rfl rfl ?_
  refine kg_aast (n := 51) (t := 48) (q := 45) (j := 5) (by decide) (by decide +kernel) (by decide +kernel) rfl rfl rfl (Nat.le_of_ble_eq_true rfl : 14 < 51) (Nat.le_of_ble_eq_true rfl : 45 < 51) (vp_lit (by decide +kernel)) dX1_init_36 (pc' := 37) rfl ?_
  refine kg_iinc dX1_init_37 (pc' := 40) rfl rfl (v := 6) (by decide +kernel) (Nat.le_of_ble_eq_true rfl) (ls' := [some (.inr 13), some (.inl 6)]) rfl ?_
  refine kg_goto dX1_init_40 (pc' := 15) rfl ?_
  refine kg_iload_n dX1_init_15 (pc' := 16) rfl rfl rfl ?_
  refine kg_aload_n dX1_init_16 (pc' := 17) rfl rfl rfl ?_
  refine kg_getR f_RX1_11 rfl (Nat.le_of_ble_eq_true rfl : 13 < 51) (kMt_ok (by decide +kernel)) (q := 14) rfl dX1_init_17 (pc' := 20) rfl ?_
  refine kg_alenQ (v := 12) rfl (Nat.le_of_ble_eq_true rfl : 14 < 51) (by decide +kernel) dX1_init_20 (pc' := 21) rfl ?_
  refine kg_icmp_ge dX1_init_21 (tgt := 43) rfl (pc' := 24) rfl (fun c => absurd c (by decide +kernel)) (fun _ => ?_)
  refine kg_aload_n dX1_init_24 (pc' := 25) rfl rfl rfl ?_
  refine kg_getR f_RX1_11 rfl (Nat.le_of_ble_eq_true rfl : 13 < 51) (kMt_ok (by decide +kernel)) (q := 14) rfl dX1_init_25 (pc' := 28) rfl ?_
  refine kg_iload_n dX1_init_28 (pc' := 29) rfl rfl rfl ?_
  refine kg_new nw_RX1_9 (n := 51) (t := 49) rfl (kTm_all (by decide +kernel) (by decide)) rfl (by decide) (Nat.le_of_ble_eq_true rfl) (Nat.le_of_ble_eq_true rfl) dX1_init_29 (pc' := 32) rfl ?_
  refine kg_dup dX1_init_32 (pc' := 33) rfl ?_
  obtain ⟨σ7, hσ7, hT⟩ := bind_some' hT
  refine kg_callI (as := []) (st := [.inr 51, .inl 6, .inr 14]) il_RX1_17 (c_X7_init (E0 := E0) (s := 51) (t := 49) rfl (by decide) (kTm_all (by decide +kernel) (by decide)) (by decide +kernel) (by decide +kernel) (by decide +kernel) (kTm_all (by decide +kernel) (by decide)) (by decide +kernel) (by decide +kernel) (by decide +kernel) (by decide +kernel) (by decide +kernel) (zr σ6 51) hσ7) rfl rfl (by decide) (by decide) ⟨⟨rfl, rfl⟩, Nat.le_of_ble_eq_true rfl, Nat.le_of_ble_eq_true rfl⟩ (Nat.le_of_ble_eq_true rfl) ⟨Nat.le_of_ble_eq_true rfl, Nat.le_of_ble_eq_true rfl⟩ dX1_init_33 (pc' := 36) rfl ?_
  refine kg_to (n2 := 57) (t2 := 54) (cl2 := 43) (sl2 := 341) rfl rfl rfl rfl rfl rfl rfl ?_
  refine kg_aast (n := 57) (t := 54) (q := 51) (j := 6) (by decide) (by decide +kernel) (by decide +kernel) rfl rfl rfl (Nat.le_of_ble_eq_true rfl : 14 < 57) (Nat.le_of_ble_eq_true rfl : 51 < 57) (vp_lit (by decide +kernel)) dX1_init_36 (pc' := 37) rfl ?_
  refine kg_iinc dX1_init_37 (pc' := 40) rfl rfl (v := 7) (by decide +kernel) (Nat.le_of_ble_eq_true rfl) (ls' := [some (.inr 13), some (.inl 7)]) rfl ?_
  refine kg_goto dX1_init_40 (pc' := 15) rfl ?_
  refine kg_iload_n dX1_init_15 (pc' := 16) rfl rfl rfl ?_
  refine kg_aload_n dX1_init_16 (pc' := 17) rfl rfl rfl ?_
  refine kg_getR f_RX1_11 rfl (Nat.le_of_ble_eq_true rfl : 13 < 57) (kMt_ok (by decide +kernel)) (q := 14) rfl dX1_init_17 (pc' := 20) rfl ?_
  refine kg_alenQ (v := 12) rfl (Nat.le_of_ble_eq_true rfl : 14 < 57) (by decide +kernel) dX1_init_20 (pc' := 21) rfl ?_
  refine kg_icmp_ge dX1_init_21 (tgt := 43) rfl (pc' := 24) rfl (fun c => absurd c (by decide +kernel)) (fun _ => ?_)
  refine kg_aload_n dX1_init_24 (pc' := 25) rfl rfl rfl ?_
  refine kg_getR f_RX1_11 rfl (Nat.le_of_ble_eq_true rfl : 13 < 57) (kMt_ok (by decide +kernel)) (q := 14) rfl dX1_init_25 (pc' := 28) rfl ?_
  refine kg_iload_n dX1_init_28 (pc' := 29) rfl rfl rfl ?_
  refine kg_new nw_RX1_9 (n := 57) (t := 55) rfl (kTm_all (by decide +kernel) (by decide)) rfl (by decide) (Nat.le_of_ble_eq_true rfl) (Nat.le_of_ble_eq_true rfl) dX1_init_29 (pc' := 32) rfl ?_
  refine kg_dup dX1_init_32 (pc' := 33) rfl ?_
  obtain ⟨σ8, hσ8, hT⟩ := bind_some' hT
  refine kg_callI (as := []) (st := [.inr 57, .inl 7, .inr 14]) il_RX1_17 (c_X7_init (E0 := E0) (s := 57) (t := 55) rfl (by decide) (kTm_all (by decide +kernel) (by decide)) (by decide +kernel) (by decide +kernel) (by decide +kernel) (kTm_all (by decide +kernel) (by decide)) (by decide +kernel) (by decide +kernel) (by decide +kernel) (by decide +kernel) (by decide +kernel) (zr σ7 57) hσ8) rfl rfl (by decide) (by decide) ⟨⟨rfl, rfl⟩, Nat.le_of_ble_eq_true rfl, Nat.le_of_ble_eq_true rfl⟩ (Nat.le_of_ble_eq_true rfl) ⟨Nat.le_of_ble_eq_true rfl, Nat.le_of_ble_eq_true rfl⟩ dX1_init_33 (pc' := 36) rfl ?_
  refine kg_to (n2 := 63) (t2 := 60) (cl2 := 49) (sl2 := 388) rfl rfl rfl rfl rfl rfl rfl ?_
  refine kg_aast (n := 63) (t := 60) (q := 57) (j := 7) (by decide) (by decide +kernel) (by decide +kernel) rfl rfl rfl (Nat.le_of_ble_eq_true rfl : 14 < 63) (Nat.le_of_ble_eq_true rfl : 57 < 63) (vp_lit (by decide +kernel)) dX1_init_36 (pc' := 37) rfl ?_
  refine kg_iinc dX1_init_37 (pc' := 40) rfl rfl (v := 8) (by decide +kernel) (Nat.le_of_ble_eq_true rfl) (ls' := [some (.inr 13), some (.inl 8)]) rfl ?_
  refine kg_goto dX1_init_40 (pc' := 15) rfl ?_
  refine kg_iload_n dX1_init_15 (pc' := 16) rfl rfl rfl ?_
  refine kg_aload_n dX1_init_16 (pc' := 17) rfl rfl rfl ?_
  refine kg_getR f_RX1_11 rfl (Nat.le_of_ble_eq_true rfl : 13 < 63) (kMt_ok (by decide +kernel)) (q := 14) rfl dX1_init_17 (pc' := 20) rfl ?_
  refine kg_alenQ (v := 12) rfl (Nat.le_of_ble_eq_true rfl : 14 < 63) (by decide +kernel) dX1_init_20 (pc' := 21) rfl ?_
  refine kg_icmp_ge dX1_init_21 (tgt := 43) rfl (pc' := 24) rfl (fun c => absurd c (by decide +kernel)) (fun _ => ?_)
  refine kg_aload_n dX1_init_24 (pc' := 25) rfl rfl rfl ?_
  refine kg_getR f_RX1_11 rfl (Nat.le_of_ble_eq_true rfl : 13 < 63) (kMt_ok (by decide +kernel)) (q := 14) rfl dX1_init_25 (pc' := 28) rfl ?_
  refine kg_iload_n dX1_init_28 (pc' := 29) rfl rfl rfl ?_
  refine kg_new nw_RX1_9 (n := 63) (t := 61) rfl (kTm_all (by decide +kernel) (by decide)) rfl (by decide) (Nat.le_of_ble_eq_true rfl) (Nat.le_of_ble_eq_true rfl) dX1_init_29 (pc' := 32) rfl ?_
  refine kg_dup dX1_init_32 (pc' := 33) rfl ?_
  obtain ⟨σ9, hσ9, hT⟩ := bind_some' hT
  refine kg_callI (as := []) (st := [.inr 63, .inl 8, .inr 14]) il_RX1_17 (c_X7_init (E0 := E0) (s := 63) (t := 61) rfl (by decide) (kTm_all (by decide +kernel) (by decide)) (by decide +kernel) (by decide +kernel) (by decide +kernel) (kTm_all (by decide +kernel) (by decide)) (by decide +kernel) (by decide +kernel) (by decide +kernel) (by decide +kernel) (by decide +kernel) (zr σ8 63) hσ9) rfl rfl (by decide) (by decide) ⟨⟨rfl, rfl⟩, Nat.le_of_ble_eq_true rfl, Nat.le_of_ble_eq_true rfl⟩ (Nat.le_of_ble_eq_true rfl) ⟨Nat.le_of_ble_eq_true rfl, Nat.le_of_ble_eq_true rfl⟩ dX1_init_33 (pc' := 36) rfl ?_
  refine kg_to (n2 := 69) (t2 := 66) (cl2 := 55) (sl2 := 435) rfl rfl rfl rfl rfl rfl rfl ?_
  refine kg_aast (n := 69) (t := 66) (q := 63) (j := 8) (by decide) (by decide +kernel) (by decide +kernel) rfl rfl rfl (Nat.le_of_ble_eq_true rfl : 14 < 69) (Nat.le_of_ble_eq_true rfl : 63 < 69) (vp_lit (by decide +kernel)) dX1_init_36 (pc' := 37) rfl ?_
  refine kg_iinc dX1_init_37 (pc' := 40) rfl rfl (v := 9) (by decide +kernel) (Nat.le_of_ble_eq_true rfl) (ls' := [some (.inr 13), some (.inl 9)]) rfl ?_
  refine kg_goto dX1_init_40 (pc' := 15) rfl ?_
  refine kg_iload_n dX1_init_15 (pc' := 16) rfl rfl rfl ?_
  refine kg_aload_n dX1_init_16 (pc' := 17) rfl rfl rfl ?_
  refine kg_getR f_RX1_11 rfl (Nat.le_of_ble_eq_true rfl : 13 < 69) (kMt_ok (by decide +kernel)) (q := 14) rfl dX1_init_17 (pc' := 20) rfl ?_
  refine kg_alenQ (v := 12) rfl (Nat.le_of_ble_eq_true rfl : 14 < 69) (by decide +kernel) dX1_init_20 (pc' := 21) rfl ?_
  refine kg_icmp_ge dX1_init_21 (tgt := 43) rfl (pc' := 24) rfl (fun c => absurd c (by decide +kernel)) (fun _ => ?_)
  refine kg_aload_n dX1_init_24 (pc' := 25) rfl rfl rfl ?_
  refine kg_getR f_RX1_11 rfl (Nat.le_of_ble_eq_true rfl : 13 < 69) (kMt_ok (by decide +kernel)) (q := 14) rfl dX1_init_25 (pc' := 28) rfl ?_
  refine kg_iload_n dX1_init_28 (pc' := 29) rfl rfl rfl ?_
  refine kg_new nw_RX1_9 (n := 69) (t := 67) rfl (kTm_all (by decide +kernel) (by decide)) rfl (by decide) (Nat.le_of_ble_eq_true rfl) (Nat.le_of_ble_eq_true rfl) dX1_init_29 (pc' := 32) rfl ?_
  refine kg_dup dX1_init_32 (pc' := 33) rfl ?_
  obtain ⟨σ10, hσ10, hT⟩ := bind_some' hT
  refine kg_callI (as := []) (st := [.inr 69, .inl 9, .inr 14]) il_RX1_17 (c_X7_init (E0 := E0) (s := 69) (t := 67) rfl (by decide) (kTm_all (by decide +kernel) (by decide)) (by decide +kernel) (by decide +kernel) (by decide +kernel) (kTm_all (by decide +kernel) (by decide)) (by decide +kernel) (by decide +kernel) (by decide +kernel) (by decide +kernel) (by decide +kernel) (zr σ9 69) hσ10) rfl rfl (by decide) (by decide) ⟨⟨rfl, rfl⟩, Nat.le_of_ble_eq_true rfl, Nat.le_of_ble_eq_true rfl⟩ (Nat.le_of_ble_eq_true rfl) ⟨Nat.le_of_ble_eq_true rfl, Nat.le_of_ble_eq_true rfl⟩ dX1_init_33 (pc' := 36) rfl ?_
  refine kg_to (n2 := 75) (t2 := 72) (cl2 := 61) (sl2 := 482) rfl rfl rfl rfl rfl rfl rfl ?_
  refine kg_aast (n := 75) (t := 72) (q := 69) (j := 9) (by decide) (by decide +kernel) (by decide +kernel) rfl rfl rfl (Nat.le_of_ble_eq_true rfl : 14 < 75) (Nat.le_of_ble_eq_true rfl : 69 < 75) (vp_lit (by decide +kernel)) dX1_init_36 (pc' := 37) rfl ?_
  refine kg_iinc dX1_init_37 (pc' := 40) rfl rfl (v := 10) (by decide +kernel) (Nat.le_of_ble_eq_true rfl) (ls' := [some (.inr 13), some (.inl 10)]) rfl ?_
  refine kg_goto dX1_init_40 (pc' := 15) rfl ?_
  refine kg_iload_n dX1_init_15 (pc' := 16) rfl rfl rfl ?_
  refine kg_aload_n dX1_init_16 (pc' := 17) rfl rfl rfl ?_
  refine kg_getR f_RX1_11 rfl (Nat.le_of_ble_eq_true rfl : 13 < 75) (kMt_ok (by decide +kernel)) (q := 14) rfl dX1_init_17 (pc' := 20) rfl ?_
  refine kg_alenQ (v := 12) rfl (Nat.le_of_ble_eq_true rfl : 14 < 75) (by decide +kernel) dX1_init_20 (pc' := 21) rfl ?_
  refine kg_icmp_ge dX1_init_21 (tgt := 43) rfl (pc' := 24) rfl (fun c => absurd c (by decide +kernel)) (fun _ => ?_)
  refine kg_aload_n dX1_init_24 (pc' := 25) rfl rfl rfl ?_
  refine kg_getR f_RX1_11 rfl (Nat.le_of_ble_eq_true rfl : 13 < 75) (kMt_ok (by decide +kernel)) (q := 14) rfl dX1_init_25 (pc' := 28) rfl ?_
  refine kg_iload_n dX1_init_28 (pc' := 29) rfl rfl rfl ?_
  refine kg_new nw_RX1_9 (n := 75) (t := 73) rfl (kTm_all (by decide +kernel) (by decide)) rfl (by decide) (Nat.le_of_ble_eq_true rfl) (Nat.le_of_ble_eq_true rfl) dX1_init_29 (pc' := 32) rfl ?_
  refine kg_dup dX1_init_32 (pc' := 33) rfl ?_
  obtain ⟨σ11, hσ11, hT⟩ := bind_some' hT
  refine kg_callI (as := []) (st := [.inr 75, .inl 10, .inr 14]) il_RX1_17 (c_X7_init (E0 := E0) (s := 75) (t := 73) rfl (by decide) (kTm_all (by decide +kernel) (by decide)) (by decide +kernel) (by decide +kernel) (by decide +kernel) (kTm_all (by decide +kernel) (by decide)) (by decide +kernel) (by decide +kernel) (by decide +kernel) (by decide +kernel) (by decide +kernel) (zr σ10 75) hσ11) rfl rfl (by decide) (by decide) ⟨⟨rfl, rfl⟩, Nat.le_of_ble_eq_true rfl, Nat.le_of_ble_eq_true rfl⟩ (Nat.le_of_ble_eq_true rfl) ⟨Nat.le_of_ble_eq_true rfl, Nat.le_of_ble_eq_true rfl⟩ dX1_init_33 (pc' := 36) rfl ?_
  refine kg_to (n2 := 81) (t2 := 78) (cl2 := 67) (sl2 := 529) rfl rfl rfl rfl rfl rfl rfl ?_
  refine kg_aast (n := 81) (t := 78) (q := 75) (j := 10) (by decide) (by decide +kernel) (by decide +kernel) rfl rfl rfl (Nat.le_of_ble_eq_true rfl : 14 < 81) (Nat.le_of_ble_eq_true rfl : 75 < 81) (vp_lit (by decide +kernel)) dX1_init_36 (pc' := 37) rfl ?_
  refine kg_iinc dX1_init_37 (pc' := 40) rfl rfl (v := 11) (by decide +kernel) (Nat.le_of_ble_eq_true rfl) (ls' := [some (.inr 13), some (.inl 11)]) rfl ?_
  refine kg_goto dX1_init_40 (pc' := 15) rfl ?_
  refine kg_iload_n dX1_init_15 (pc' := 16) rfl rfl rfl ?_
  refine kg_aload_n dX1_init_16 (pc' := 17) rfl rfl rfl ?_
  refine kg_getR f_RX1_11 rfl (Nat.le_of_ble_eq_true rfl : 13 < 81) (kMt_ok (by decide +kernel)) (q := 14) rfl dX1_init_17 (pc' := 20) rfl ?_
  refine kg_alenQ (v := 12) rfl (Nat.le_of_ble_eq_true rfl : 14 < 81) (by decide +kernel) dX1_init_20 (pc' := 21) rfl ?_
  refine kg_icmp_ge dX1_init_21 (tgt := 43) rfl (pc' := 24) rfl (fun c => absurd c (by decide +kernel)) (fun _ => ?_)
  refine kg_aload_n dX1_init_24 (pc' := 25) rfl rfl rfl ?_
  refine kg_getR f_RX1_11 rfl (Nat.le_of_ble_eq_true rfl : 13 < 81) (kMt_ok (by decide +kernel)) (q := 14) rfl dX1_init_25 (pc' := 28) rfl ?_
  refine kg_iload_n dX1_init_28 (pc' := 29) rfl rfl rfl ?_
  refine kg_new nw_RX1_9 (n := 81) (t := 79) rfl (kTm_all (by decide +kernel) (by decide)) rfl (by decide) (Nat.le_of_ble_eq_true rfl) (Nat.le_of_ble_eq_true rfl) dX1_init_29 (pc' := 32) rfl ?_
  refine kg_dup dX1_init_32 (pc' := 33) rfl ?_
  obtain ⟨σ12, hσ12, hT⟩ := bind_some' hT
  refine kg_callI (as := []) (st := [.inr 81, .inl 11, .inr 14]) il_RX1_17 (c_X7_init (E0 := E0) (s := 81) (t := 79) rfl (by decide) (kTm_all (by decide +kernel) (by decide)) (by decide +kernel) (by decide +kernel) (by decide +kernel) (kTm_all (by decide +kernel) (by decide)) (by decide +kernel) (by decide +kernel) (by decide +kernel) (by decide +kernel) (by decide +kernel) (zr σ11 81) hσ12) rfl rfl (by decide) (by decide) ⟨⟨rfl, rfl⟩, Nat.le_of_ble_eq_true rfl, Nat.le_of_ble_eq_true rfl⟩ (Nat.le_of_ble_eq_true rfl) ⟨Nat.le_of_ble_eq_true rfl, Nat.le_of_ble_eq_true rfl⟩ dX1_init_33 (pc' := 36) rfl ?_
  refine kg_to (n2 := 87) (t2 := 84) (cl2 := 73) (sl2 := 576) rfl rfl rfl rfl rfl rfl rfl ?_
  refine kg_aast (n := 87) (t := 84) (q := 81) (j := 11) (by decide) (by decide +kernel) (by decide +kernel) rfl rfl rfl (Nat.le_of_ble_eq_true rfl : 14 < 87) (Nat.le_of_ble_eq_true rfl : 81 < 87) (vp_lit (by decide +kernel)) dX1_init_36 (pc' := 37) rfl ?_
  refine kg_iinc dX1_init_37 (pc' := 40) rfl rfl (v := 12) (by decide +kernel) (Nat.le_of_ble_eq_true rfl) (ls' := [some (.inr 13), some (.inl 12)]) rfl ?_
  refine kg_goto dX1_init_40 (pc' := 15) rfl ?_
  refine kg_iload_n dX1_init_15 (pc' := 16) rfl rfl rfl ?_
  refine kg_aload_n dX1_init_16 (pc' := 17) rfl rfl rfl ?_
  refine kg_getR f_RX1_11 rfl (Nat.le_of_ble_eq_true rfl : 13 < 87) (kMt_ok (by decide +kernel)) (q := 14) rfl dX1_init_17 (pc' := 20) rfl ?_
  refine kg_alenQ (v := 12) rfl (Nat.le_of_ble_eq_true rfl : 14 < 87) (by decide +kernel) dX1_init_20 (pc' := 21) rfl ?_
  refine kg_icmp_ge dX1_init_21 (tgt := 43) rfl (pc' := 24) rfl (fun _ => ?_) (fun c => absurd (by decide +kernel) c)
  refine kg_aload_n dX1_init_43 (pc' := 44) rfl rfl rfl ?_
  refine kg_iconst dX1_init_44 (pc' := 45) rfl kc_0 ?_
  refine kg_putI p_RX1_18 rfl rfl rfl (Nat.le_of_ble_eq_true rfl : 13 < 87) dX1_init_45 (pc' := 48) rfl ?_
  refine kg_aload_n dX1_init_48 (pc' := 49) rfl rfl rfl ?_
  refine kg_iconst dX1_init_49 (pc' := 50) rfl kc_0 ?_
  refine kg_putI p_RX1_22 rfl rfl rfl (Nat.le_of_ble_eq_true rfl : 13 < 87) dX1_init_50 (pc' := 53) rfl ?_
  have hR := Option.some.inj hT
  subst hR
  exact kg_vret rfl dX1_init_53
def i_X3_init (σ : Wd) : Wd :=
  up (up σ 89 2 0) 89 3 (-1)
abbrev rI_X3_init : Room := { frames := 1, cells := 0, slots := 0, locals := 20 }
set_option maxRecDepth 100000 in
set_option maxHeartbeats 1000000 in
theorem c_X3_init {E0 : JE} (σ : Wd)  : kMc E0 yX3_init mX3_init rI_X3_init [.inr 89, .inr 87, .inr 7] 90 88 σ 90 (90) (i_X3_init σ) 0 0 := by
  refine kMc_of (by decide +kernel) rfl (Nat.le_of_ble_eq_true rfl) ?_
  refine kg_aload_n dX3_init_0 (pc' := 1) rfl rfl rfl ?_
  refine kg_objInit (n := 0) oi_RX3_3 (Nat.le_of_ble_eq_true rfl) (Nat.le_of_ble_eq_true rfl) dX3_init_1 (pc' := 4) rfl ?_
  refine kg_aload_n dX3_init_4 (pc' := 5) rfl rfl rfl ?_
  refine kg_aload_n dX3_init_5 (pc' := 6) rfl rfl rfl ?_
  refine kg_putR (n := 90) (t := 88) (q := 87) ff_RX3_9 rfl (by decide) (by decide +kernel) rfl rfl (Nat.le_of_ble_eq_true rfl : 89 < 90) dX3_init_6 (pc' := 9) rfl ?_
  refine kg_aload_n dX3_init_9 (pc' := 10) rfl rfl rfl ?_
  refine kg_aload_n dX3_init_10 (pc' := 11) rfl rfl rfl ?_
  refine kg_putR (n := 90) (t := 89) (q := 7) ff_RX3_15 rfl (by decide) (by decide +kernel) rfl rfl (Nat.le_of_ble_eq_true rfl : 89 < 90) dX3_init_11 (pc' := 14) rfl ?_
  refine kg_aload_n dX3_init_14 (pc' := 15) rfl rfl rfl ?_
  refine kg_iconst dX3_init_15 (pc' := 16) rfl kc_0 ?_
  refine kg_putI p_RX3_19 rfl rfl rfl (Nat.le_of_ble_eq_true rfl : 89 < 90) dX3_init_16 (pc' := 19) rfl ?_
  refine kg_aload_n dX3_init_19 (pc' := 20) rfl rfl rfl ?_
  refine kg_iconst dX3_init_20 (pc' := 21) rfl kc_m1 ?_
  refine kg_putI p_RX3_23 rfl rfl rfl (Nat.le_of_ble_eq_true rfl : 89 < 90) dX3_init_21 (pc' := 24) rfl ?_
  exact kg_vret rfl dX3_init_24
def i_X5_init (σ : Wd) : Wd :=
  i_X4 91 (zr σ 91)
abbrev rI_X5_init : Room := { frames := 2, cells := 2, slots := 302, locals := 42 }
set_option maxRecDepth 100000 in
set_option maxHeartbeats 1000000 in
theorem c_X5_init {E0 : JE} (σ : Wd)  : kMc E0 yX5_init mX5_init rI_X5_init [.inr 90] 91 91 σ 93 (93) (i_X5_init σ) 2 302 := by
  refine kMc_of (by decide +kernel) rfl (Nat.le_of_ble_eq_true rfl) ?_
  refine kg_aload_n dX5_init_0 (pc' := 1) rfl rfl rfl ?_
  refine kg_objInit (n := 0) oi_RX5_3 (Nat.le_of_ble_eq_true rfl) (Nat.le_of_ble_eq_true rfl) dX5_init_1 (pc' := 4) rfl ?_
  refine kg_aload_n dX5_init_4 (pc' := 5) rfl rfl rfl ?_
  refine kg_new nw_RX5_9 (n := 91) (t := 91) rfl (kTm_all (by decide +kernel) (by decide)) rfl (by decide) (Nat.le_of_ble_eq_true rfl) (Nat.le_of_ble_eq_true rfl) dX5_init_5 (pc' := 8) rfl ?_
  refine kg_dup dX5_init_8 (pc' := 9) rfl ?_
  refine kg_sipush dX5_init_9 (pc' := 12) rfl ks_300 ?_
  refine kg_callI (as := [.inl 300]) (st := [.inr 91, .inr 90]) il_RX5_11 (c_X4_init (E0 := E0) (r := 91) (t := 91) (N := 300) (x1 := 300) rfl (by decide) (by decide +kernel) (by decide) (by decide +kernel) (by decide +kernel) (by decide +kernel) (zr σ 91)) rfl rfl (by decide) (by decide) ⟨⟨rfl, rfl⟩, Nat.le_of_ble_eq_true rfl, Nat.le_of_ble_eq_true rfl⟩ (Nat.le_of_ble_eq_true rfl) ⟨Nat.le_of_ble_eq_true rfl, Nat.le_of_ble_eq_true rfl⟩ dX5_init_12 (pc' := 15) rfl ?_
  refine kg_to (n2 := 93) (t2 := 92) (cl2 := 2) (sl2 := 302) rfl rfl rfl rfl rfl rfl rfl ?_
  refine kg_putR (n := 93) (t := 92) (q := 91) ff_RX5_14 rfl (by decide) (by decide +kernel) rfl rfl (Nat.le_of_ble_eq_true rfl : 90 < 93) dX5_init_15 (pc' := 18) rfl ?_
  exact kg_vret rfl dX5_init_18
