/-! ===== construction: places come one by one, refs are set one by one ===== -/
def kTmL : List (List Nat) := [[5, 11, 85, 87, 90, 93, 103, 108, 114, 119, 123, 124], [1, 3, 4, 9999], [0, 9999], [], [2, 9999], [], [], [7, 9, 10, 9999], [6, 9999], [], [8, 9999], [], [], [12, 9999, 9999], [18, 24, 30, 36, 42, 48, 54, 60, 66, 72, 78, 84], [14, 16, 17, 9999], [13, 9999], [], [15, 9999], [], [], [20, 22, 23, 9999], [19, 9999], [], [21, 9999], [], [], [26, 28, 29, 9999], [25, 9999], [], [27, 9999], [], [], [32, 34, 35, 9999], [31, 9999], [], [33, 9999], [], [], [38, 40, 41, 9999], [37, 9999], [], [39, 9999], [], [], [44, 46, 47, 9999], [43, 9999], [], [45, 9999], [], [], [50, 52, 53, 9999], [49, 9999], [], [51, 9999], [], [], [56, 58, 59, 9999], [55, 9999], [], [57, 9999], [], [], [62, 64, 65, 9999], [61, 9999], [], [63, 9999], [], [], [68, 70, 71, 9999], [67, 9999], [], [69, 9999], [], [], [74, 76, 77, 9999], [73, 9999], [], [75, 9999], [], [], [80, 82, 83, 9999], [79, 9999], [], [81, 9999], [], [], [86, 9999], [], [88, 89, 9999, 9999], [92], [91, 9999], [], [94, 96, 98, 99, 100, 101, 102, 9999], [], [95, 9999], [], [97, 9999], [], [], [], [], [], [104, 105, 106, 107, 9999], [], [], [], [109, 110, 111, 112, 113, 9999], [], [], [], [], [115, 117, 118], [116, 9999], [], [], [120, 121, 122], [], [], [], [9999, 125, 126, 127, 9999, 128, 9999, 129, 130, 131, 9999, 132, 133, 134, 135, 136, 137, 138, 139, 140, 141, 9999, 142, 9999, 143, 9999, 9999, 9999, 9999, 9999], [], [], [], [], [], [], [], [], [], [], [], [], [], [], [], [], [], [], []]
def kTm (k i : Nat) : Nat := (kTmL.getD k []).getD i 9999
def kTIL : List (Nat × Nat) := [(2, 0), (1, 0), (4, 0), (1, 1), (1, 2), (0, 0), (8, 0), (7, 0), (10, 0), (7, 1), (7, 2), (0, 1), (13, 0), (16, 0), (15, 0), (18, 0), (15, 1), (15, 2), (14, 0), (22, 0), (21, 0), (24, 0), (21, 1), (21, 2), (14, 1), (28, 0), (27, 0), (30, 0), (27, 1), (27, 2), (14, 2), (34, 0), (33, 0), (36, 0), (33, 1), (33, 2), (14, 3), (40, 0), (39, 0), (42, 0), (39, 1), (39, 2), (14, 4), (46, 0), (45, 0), (48, 0), (45, 1), (45, 2), (14, 5), (52, 0), (51, 0), (54, 0), (51, 1), (51, 2), (14, 6), (58, 0), (57, 0), (60, 0), (57, 1), (57, 2), (14, 7), (64, 0), (63, 0), (66, 0), (63, 1), (63, 2), (14, 8), (70, 0), (69, 0), (72, 0), (69, 1), (69, 2), (14, 9), (76, 0), (75, 0), (78, 0), (75, 1), (75, 2), (14, 10), (82, 0), (81, 0), (84, 0), (81, 1), (81, 2), (14, 11), (0, 2), (87, 0), (0, 3), (89, 0), (89, 1), (0, 4), (91, 0), (90, 0), (0, 5), (93, 0), (95, 0), (93, 1), (97, 0), (93, 2), (93, 3), (93, 4), (93, 5), (93, 6), (0, 6), (103, 0), (103, 1), (103, 2), (103, 3), (0, 7), (107, 0), (107, 1), (107, 2), (107, 3), (107, 4), (0, 8), (112, 0), (113, 0), (112, 1), (112, 2), (0, 9), (116, 0), (116, 1), (116, 2), (0, 10), (0, 11), (120, 1), (120, 2), (120, 3), (120, 5), (120, 7), (120, 8), (120, 9), (120, 11), (120, 12), (120, 13), (120, 14), (120, 15), (120, 16), (120, 17), (120, 18), (120, 19), (120, 20), (120, 22), (120, 24)]
theorem kTm_inj : ∀ k, k < 140 → ∀ i, i < 40 → kTm k i < 9999 → kTIL[kTm k i]? = some (k, i) := by decide +kernel
theorem kTm_big : ∀ k, k < 140 → ∀ l, kTmL[k]? = some l → l.length < 40 := by
  have h : kTmL.all (fun l => decide (l.length < 40)) = true := by decide +kernel
  intro k _ l hl
  have := List.all_eq_true.mp h l (List.mem_of_getElem? hl)
  exact of_decide_eq_true this
theorem kTm_lt {k i : Nat} (h : kTm k i < 9999) : k < 140 ∧ i < 40 := by
  have hk : k < 140 := by
    rcases Nat.lt_or_ge k 140 with q | q
    · exact q
    · exfalso
      have e : kTmL.getD k [] = [] := by
        rw [List.getD_eq_getElem?_getD, List.getElem?_eq_none (show kTmL.length ≤ k from q)]
        rfl
      rw [kTm, e] at h
      simp at h
  refine ⟨hk, ?_⟩
  rcases Nat.lt_or_ge i 40 with q | q
  · exact q
  · exfalso
    have hl : k < kTmL.length := hk
    have e : kTmL[k]? = some kTmL[k] := List.getElem?_eq_getElem hl
    have h2 := kTm_big k hk _ e
    have : kTm k i = 9999 := by
      have e3 : kTmL.getD k [] = kTmL[k] := by
        rw [List.getD_eq_getElem?_getD, e]
        rfl
      rw [kTm, e3, List.getD_eq_getElem?_getD, List.getElem?_eq_none (by omega)]
      rfl
    omega
theorem kTm_one {k i k' i' t : Nat} (ht : t < 9999) (h : kTm k i = t) (h' : kTm k' i' = t) : k = k' ∧ i = i' := by
  have a := kTm_lt (k := k) (i := i) (by omega)
  have b := kTm_lt (k := k') (i := i') (by omega)
  have e1 := kTm_inj k a.1 i a.2 (by omega)
  have e2 := kTm_inj k' b.1 i' b.2 (by omega)
  rw [h] at e1
  rw [h'] at e2
  rw [e1] at e2
  have := Option.some.inj e2
  exact ⟨congrArg Prod.fst this, congrArg Prod.snd this⟩
def kEt (E : JE) (n t : Nat) : JE := (E.1, E.2.1, E.2.2.1, E.2.2.2.1, n, E.2.2.2.2.2.1, E.2.2.2.2.2.2.1, fun k i => decide (kTm k i < t))
theorem kTr_et (E : JE) (n t : Nat) : kTr (kEt E n t) = kTr E := by funext v; cases v <;> rfl
theorem kLv_et (E : JE) (n t : Nat) : ∀ (ls : List (Option JV)) (i : Nat), kLv (kEt E n t) i ls = kLv E i ls
  | [], i => rfl
  | none :: r, i => kLv_et E n t r (i + 1)
  | some v :: r, i => by rw [kLv, kLv, kTr_et, kLv_et E n t r (i + 1)]
def zr (σ : Wd) (n : Nat) : Wd := fun q => if q = n then fun _ => 0 else σ q
theorem zr_ne {σ : Wd} {n q : Nat} (h : q ≠ n) : zr σ n q = σ q := if_neg h
theorem zr_at (σ : Wd) (n : Nat) : zr σ n n = fun _ => 0 := if_pos rfl
/-- the judgement with new cells: nm the method's name, n0 how many places there were at its start, cl and sl what is new since -/
def KG (E : JE) (M : MI) (rm : Room) (nm : String) (n0 pc : Nat) (ls : List (Option JV)) (st : List JV) (σ : Wd) (cl sl : Nat) (Z : List Frame → Array Value → State → State → Prop) : Prop :=
  ∀ (p : Program) (l : Launch) (e : Env) (s : State) (m : MethodId) (args : Array Value) (below : List Frame) (meth : Method) (c : Code) (H : Heap) (locs : List Loc) (la : Array Slot),
    kJC E M p s m args meth c → meth.name = nm → s.heap.size = E.1 + n0 → kHp E σ H → va_S (fun q => E.1 ≤ q) s.heap H locs → lv_has la M.2.2.1 (kLv E 0 ls) →
    W p l e rm s m args below meth c H locs cl sl (Z below args s) (F0 m pc la (st.map (kTr E)))
section KGR
variable {E E0 : JE} {M : MI} {rm : Room} {nm : String} {n0 cl sl : Nat} {pc pc' : Nat} {ls ls' : List (Option JV)} {st : List JV} {σ : Wd} {Z : List Frame → Array Value → State → State → Prop}
theorem kg_keep (bs : List Bool) (h : lkeep bs ls = ls') (k : KG E M rm nm n0 pc ls' st σ cl sl Z) : KG E M rm nm n0 pc ls st σ cl sl Z := by
  subst h
  intro p l e s m args below meth c H locs la C hN hG hP hS hl
  refine k p l e s m args below meth c H locs la C hN hG hP hS ⟨hl.1, hl.2.1, fun q hq => ?_⟩
  obtain ⟨j, w, h1, rfl⟩ := (kLv_mem _ _).mp hq
  exact hl.2.2 _ ((kLv_mem _ _).mpr ⟨j, w, lkeep_get bs ls j w h1, rfl⟩)
theorem kg_iload_n {k : Fin 4} {i : Nat} {x : Int32} (hd : decode M.2.1 pc = .ok (.iload_n k, 1)) (hp : pc + 1 = pc') (hi : (k : Nat) = i) (hl : ls[i]? = some (some (.inl x))) (kk : KG E M rm nm n0 pc' ls (.inl x :: st) σ cl sl Z) : KG E M rm nm n0 pc ls st σ cl sl Z := by
  subst hp
  intro p l e s m args below meth c H locs la C hN hG hP hS hla
  exact lv_iload_n C.1 C.2.1 hd hi (kLv_at hla hl) (kk p l e s m args below meth c H locs la C hN hG hP hS hla)
theorem kg_iload {i : Nat} {x : Int32} (hd : decode M.2.1 pc = .ok (.iload i, 2)) (hp : pc + 2 = pc') (hl : ls[i]? = some (some (.inl x))) (kk : KG E M rm nm n0 pc' ls (.inl x :: st) σ cl sl Z) : KG E M rm nm n0 pc ls st σ cl sl Z := by
  subst hp
  intro p l e s m args below meth c H locs la C hN hG hP hS hla
  exact lv_iload C.1 C.2.1 hd (kLv_at hla hl) (kk p l e s m args below meth c H locs la C hN hG hP hS hla)
theorem kg_aload_n {k : Fin 4} {i : Nat} {x : Nat} (hd : decode M.2.1 pc = .ok (.aload_n k, 1)) (hp : pc + 1 = pc') (hi : (k : Nat) = i) (hl : ls[i]? = some (some (.inr x))) (kk : KG E M rm nm n0 pc' ls (.inr x :: st) σ cl sl Z) : KG E M rm nm n0 pc ls st σ cl sl Z := by
  subst hp
  intro p l e s m args below meth c H locs la C hN hG hP hS hla
  exact lv_aload_n C.1 C.2.1 hd hi (kLv_at hla hl) (kk p l e s m args below meth c H locs la C hN hG hP hS hla)
theorem kg_istore_n {k : Fin 4} {i : Nat} {x : Int32} (hd : decode M.2.1 pc = .ok (.istore_n k, 1)) (hp : pc + 1 = pc') (hi : (k : Nat) = i) (hn : i < M.2.2.1) (hl : lput ls i (.inl x) = ls') (kk : KG E M rm nm n0 pc' ls' st σ cl sl Z) : KG E M rm nm n0 pc ls (.inl x :: st) σ cl sl Z := by
  subst hp hl
  intro p l e s m args below meth c H locs la C hN hG hP hS hla
  exact lv_istore_n C.1 C.2.1 hd hi hla hn rfl (fun la' h' => kk p l e s m args below meth c H locs la' C hN hG hP hS (kLv_put (v := .inl x) h'))
theorem kg_istore {i : Nat} {x : Int32} (hd : decode M.2.1 pc = .ok (.istore i, 2)) (hp : pc + 2 = pc') (hn : i < M.2.2.1) (hl : lput ls i (.inl x) = ls') (kk : KG E M rm nm n0 pc' ls' st σ cl sl Z) : KG E M rm nm n0 pc ls (.inl x :: st) σ cl sl Z := by
  subst hp hl
  intro p l e s m args below meth c H locs la C hN hG hP hS hla
  exact lv_istore C.1 C.2.1 hd hla hn rfl (fun la' h' => kk p l e s m args below meth c H locs la' C hN hG hP hS (kLv_put (v := .inl x) h'))
theorem kg_astore_n {k : Fin 4} {i : Nat} {x : Nat} (hd : decode M.2.1 pc = .ok (.astore_n k, 1)) (hp : pc + 1 = pc') (hi : (k : Nat) = i) (hn : i < M.2.2.1) (hl : lput ls i (.inr x) = ls') (kk : KG E M rm nm n0 pc' ls' st σ cl sl Z) : KG E M rm nm n0 pc ls (.inr x :: st) σ cl sl Z := by
  subst hp hl
  intro p l e s m args below meth c H locs la C hN hG hP hS hla
  exact lv_astore_n C.1 C.2.1 hd hi hla hn rfl (fun la' h' => kk p l e s m args below meth c H locs la' C hN hG hP hS (kLv_put (v := .inr x) h'))
theorem kg_iinc {i : Nat} {n : Int} {x v : Int32} (hd : decode M.2.1 pc = .ok (.iinc i n, 3)) (hp : pc + 3 = pc') (hx : ls[i]? = some (some (.inl x))) (hv : x + Int32.ofInt n = v) (hn : i < M.2.2.1) (hl : lput ls i (.inl v) = ls') (kk : KG E M rm nm n0 pc' ls' st σ cl sl Z) : KG E M rm nm n0 pc ls st σ cl sl Z := by
  subst hp hl
  intro p l e s m args below meth c H locs la C hN hG hP hS hla
  obtain ⟨k, hk⟩ := List.getElem?_of_mem ((kLv_mem (E := E) (q := (i, .int x)) ls 0).mpr ⟨i, .inl x, hx, by simp [kTr]⟩)
  exact lv_iinc C.1 C.2.1 hd hla hk hv hn rfl (fun la' h' => kk p l e s m args below meth c H locs la' C hN hG hP hS (kLv_put (v := .inl v) h'))
theorem kg_iconst {n : Int} {v : Int32} (hd : decode M.2.1 pc = .ok (.iconst n, 1)) (hp : pc + 1 = pc') (hv : Int32.ofInt n = v) (kk : KG E M rm nm n0 pc' ls (.inl v :: st) σ cl sl Z) : KG E M rm nm n0 pc ls st σ cl sl Z := by
  subst hp
  intro p l e s m args below meth c H locs la C hN hG hP hS hla
  exact lv_iconst C.1 C.2.1 hd hv (kk p l e s m args below meth c H locs la C hN hG hP hS hla)
theorem kg_bipush {n : Int} {v : Int32} (hd : decode M.2.1 pc = .ok (.bipush n, 2)) (hp : pc + 2 = pc') (hv : (Int8.ofInt n).toInt32 = v) (kk : KG E M rm nm n0 pc' ls (.inl v :: st) σ cl sl Z) : KG E M rm nm n0 pc ls st σ cl sl Z := by
  subst hp
  intro p l e s m args below meth c H locs la C hN hG hP hS hla
  exact lv_bipush C.1 C.2.1 hd hv (kk p l e s m args below meth c H locs la C hN hG hP hS hla)
theorem kg_sipush {n : Int} {v : Int32} (hd : decode M.2.1 pc = .ok (.sipush n, 3)) (hp : pc + 3 = pc') (hv : (Int16.ofInt n).toInt32 = v) (kk : KG E M rm nm n0 pc' ls (.inl v :: st) σ cl sl Z) : KG E M rm nm n0 pc ls st σ cl sl Z := by
  subst hp
  intro p l e s m args below meth c H locs la C hN hG hP hS hla
  exact lv_sipush C.1 C.2.1 hd hv (kk p l e s m args below meth c H locs la C hN hG hP hS hla)
theorem kg_iadd {x y : Int32} (hd : decode M.2.1 pc = .ok (.iadd, 1)) (hp : pc + 1 = pc') (kk : KG E M rm nm n0 pc' ls (.inl (x + y) :: st) σ cl sl Z) : KG E M rm nm n0 pc ls (.inl y :: .inl x :: st) σ cl sl Z := by
  subst hp
  intro p l e s m args below meth c H locs la C hN hG hP hS hla
  exact lv_iadd C.1 C.2.1 hd (kk p l e s m args below meth c H locs la C hN hG hP hS hla)
theorem kg_isub {x y : Int32} (hd : decode M.2.1 pc = .ok (.isub, 1)) (hp : pc + 1 = pc') (kk : KG E M rm nm n0 pc' ls (.inl (x - y) :: st) σ cl sl Z) : KG E M rm nm n0 pc ls (.inl y :: .inl x :: st) σ cl sl Z := by
  subst hp
  intro p l e s m args below meth c H locs la C hN hG hP hS hla
  exact lv_isub C.1 C.2.1 hd (kk p l e s m args below meth c H locs la C hN hG hP hS hla)
theorem kg_iand {x y : Int32} (hd : decode M.2.1 pc = .ok (.iand, 1)) (hp : pc + 1 = pc') (kk : KG E M rm nm n0 pc' ls (.inl (x &&& y) :: st) σ cl sl Z) : KG E M rm nm n0 pc ls (.inl y :: .inl x :: st) σ cl sl Z := by
  subst hp
  intro p l e s m args below meth c H locs la C hN hG hP hS hla
  exact lv_iand C.1 C.2.1 hd (kk p l e s m args below meth c H locs la C hN hG hP hS hla)
theorem kg_dup {v : JV} (hd : decode M.2.1 pc = .ok (.dup, 1)) (hp : pc + 1 = pc') (kk : KG E M rm nm n0 pc' ls (v :: v :: st) σ cl sl Z) : KG E M rm nm n0 pc ls (v :: st) σ cl sl Z := by
  subst hp
  intro p l e s m args below meth c H locs la C hN hG hP hS hla
  exact lv_dup C.1 C.2.1 hd (kTr_cat E v) (kk p l e s m args below meth c H locs la C hN hG hP hS hla)
theorem kg_pop {v : JV} (hd : decode M.2.1 pc = .ok (.pop, 1)) (hp : pc + 1 = pc') (kk : KG E M rm nm n0 pc' ls st σ cl sl Z) : KG E M rm nm n0 pc ls (v :: st) σ cl sl Z := by
  subst hp
  intro p l e s m args below meth c H locs la C hN hG hP hS hla
  exact lv_pop C.1 C.2.1 hd (kTr_cat E v) (kk p l e s m args below meth c H locs la C hN hG hP hS hla)
theorem kg_goto {off : Int} (hd : decode M.2.1 pc = .ok (.goto off, 3)) (hp : (pc : Int) + off = (pc' : Int)) (kk : KG E M rm nm n0 pc' ls st σ cl sl Z) : KG E M rm nm n0 pc ls st σ cl sl Z := by
  intro p l e s m args below meth c H locs la C hN hG hP hS hla
  exact lv_goto C.1 C.2.1 hd hp (kk p l e s m args below meth c H locs la C hN hG hP hS hla)
theorem kg_icmp_eq {x y : Int32} {off : Int} {tgt : Nat} (hd : decode M.2.1 pc = .ok (.if_icmp .eq off, 3)) (ht : (pc : Int) + off = (tgt : Int)) (hp : pc + 3 = pc') (kt : x = y → KG E M rm nm n0 tgt ls st σ cl sl Z) (kf : ¬ x = y → KG E M rm nm n0 pc' ls st σ cl sl Z) : KG E M rm nm n0 pc ls (.inl y :: .inl x :: st) σ cl sl Z := by
  subst hp
  intro p l e s m args below meth c H locs la C hN hG hP hS hla
  exact lv_icmp_eq C.1 C.2.1 hd ht (fun h => kt h p l e s m args below meth c H locs la C hN hG hP hS hla) (fun h => kf h p l e s m args below meth c H locs la C hN hG hP hS hla)
theorem kg_icmp_ne {x y : Int32} {off : Int} {tgt : Nat} (hd : decode M.2.1 pc = .ok (.if_icmp .ne off, 3)) (ht : (pc : Int) + off = (tgt : Int)) (hp : pc + 3 = pc') (kt : ¬ x = y → KG E M rm nm n0 tgt ls st σ cl sl Z) (kf : x = y → KG E M rm nm n0 pc' ls st σ cl sl Z) : KG E M rm nm n0 pc ls (.inl y :: .inl x :: st) σ cl sl Z := by
  subst hp
  intro p l e s m args below meth c H locs la C hN hG hP hS hla
  exact lv_icmp_ne C.1 C.2.1 hd ht (fun h => kt h p l e s m args below meth c H locs la C hN hG hP hS hla) (fun h => kf h p l e s m args below meth c H locs la C hN hG hP hS hla)
theorem kg_icmp_lt {x y : Int32} {off : Int} {tgt : Nat} (hd : decode M.2.1 pc = .ok (.if_icmp .lt off, 3)) (ht : (pc : Int) + off = (tgt : Int)) (hp : pc + 3 = pc') (kt : x < y → KG E M rm nm n0 tgt ls st σ cl sl Z) (kf : ¬ x < y → KG E M rm nm n0 pc' ls st σ cl sl Z) : KG E M rm nm n0 pc ls (.inl y :: .inl x :: st) σ cl sl Z := by
  subst hp
  intro p l e s m args below meth c H locs la C hN hG hP hS hla
  exact lv_icmp_lt C.1 C.2.1 hd ht (fun h => kt h p l e s m args below meth c H locs la C hN hG hP hS hla) (fun h => kf h p l e s m args below meth c H locs la C hN hG hP hS hla)
theorem kg_icmp_le {x y : Int32} {off : Int} {tgt : Nat} (hd : decode M.2.1 pc = .ok (.if_icmp .le off, 3)) (ht : (pc : Int) + off = (tgt : Int)) (hp : pc + 3 = pc') (kt : x ≤ y → KG E M rm nm n0 tgt ls st σ cl sl Z) (kf : ¬ x ≤ y → KG E M rm nm n0 pc' ls st σ cl sl Z) : KG E M rm nm n0 pc ls (.inl y :: .inl x :: st) σ cl sl Z := by
  subst hp
  intro p l e s m args below meth c H locs la C hN hG hP hS hla
  exact lv_icmp_le C.1 C.2.1 hd ht (fun h => kt h p l e s m args below meth c H locs la C hN hG hP hS hla) (fun h => kf h p l e s m args below meth c H locs la C hN hG hP hS hla)
theorem kg_icmp_gt {x y : Int32} {off : Int} {tgt : Nat} (hd : decode M.2.1 pc = .ok (.if_icmp .gt off, 3)) (ht : (pc : Int) + off = (tgt : Int)) (hp : pc + 3 = pc') (kt : y < x → KG E M rm nm n0 tgt ls st σ cl sl Z) (kf : ¬ y < x → KG E M rm nm n0 pc' ls st σ cl sl Z) : KG E M rm nm n0 pc ls (.inl y :: .inl x :: st) σ cl sl Z := by
  subst hp
  intro p l e s m args below meth c H locs la C hN hG hP hS hla
  exact lv_icmp_gt C.1 C.2.1 hd ht (fun h => kt h p l e s m args below meth c H locs la C hN hG hP hS hla) (fun h => kf h p l e s m args below meth c H locs la C hN hG hP hS hla)
theorem kg_icmp_ge {x y : Int32} {off : Int} {tgt : Nat} (hd : decode M.2.1 pc = .ok (.if_icmp .ge off, 3)) (ht : (pc : Int) + off = (tgt : Int)) (hp : pc + 3 = pc') (kt : y ≤ x → KG E M rm nm n0 tgt ls st σ cl sl Z) (kf : ¬ y ≤ x → KG E M rm nm n0 pc' ls st σ cl sl Z) : KG E M rm nm n0 pc ls (.inl y :: .inl x :: st) σ cl sl Z := by
  subst hp
  intro p l e s m args below meth c H locs la C hN hG hP hS hla
  exact lv_icmp_ge C.1 C.2.1 hd ht (fun h => kt h p l e s m args below meth c H locs la C hN hG hP hS hla) (fun h => kf h p l e s m args below meth c H locs la C hN hG hP hS hla)
theorem kg_if_eq {x : Int32} {off : Int} {tgt : Nat} (hd : decode M.2.1 pc = .ok (.ifCond .eq off, 3)) (ht : (pc : Int) + off = (tgt : Int)) (hp : pc + 3 = pc') (kt : x = 0 → KG E M rm nm n0 tgt ls st σ cl sl Z) (kf : ¬ x = 0 → KG E M rm nm n0 pc' ls st σ cl sl Z) : KG E M rm nm n0 pc ls (.inl x :: st) σ cl sl Z := by
  subst hp
  intro p l e s m args below meth c H locs la C hN hG hP hS hla
  exact lv_if_eq C.1 C.2.1 hd ht (fun h => kt h p l e s m args below meth c H locs la C hN hG hP hS hla) (fun h => kf h p l e s m args below meth c H locs la C hN hG hP hS hla)
theorem kg_if_ne {x : Int32} {off : Int} {tgt : Nat} (hd : decode M.2.1 pc = .ok (.ifCond .ne off, 3)) (ht : (pc : Int) + off = (tgt : Int)) (hp : pc + 3 = pc') (kt : ¬ x = 0 → KG E M rm nm n0 tgt ls st σ cl sl Z) (kf : x = 0 → KG E M rm nm n0 pc' ls st σ cl sl Z) : KG E M rm nm n0 pc ls (.inl x :: st) σ cl sl Z := by
  subst hp
  intro p l e s m args below meth c H locs la C hN hG hP hS hla
  exact lv_if_ne C.1 C.2.1 hd ht (fun h => kt h p l e s m args below meth c H locs la C hN hG hP hS hla) (fun h => kf h p l e s m args below meth c H locs la C hN hG hP hS hla)
theorem kg_if_lt {x : Int32} {off : Int} {tgt : Nat} (hd : decode M.2.1 pc = .ok (.ifCond .lt off, 3)) (ht : (pc : Int) + off = (tgt : Int)) (hp : pc + 3 = pc') (kt : x < 0 → KG E M rm nm n0 tgt ls st σ cl sl Z) (kf : ¬ x < 0 → KG E M rm nm n0 pc' ls st σ cl sl Z) : KG E M rm nm n0 pc ls (.inl x :: st) σ cl sl Z := by
  subst hp
  intro p l e s m args below meth c H locs la C hN hG hP hS hla
  exact lv_if_lt C.1 C.2.1 hd ht (fun h => kt h p l e s m args below meth c H locs la C hN hG hP hS hla) (fun h => kf h p l e s m args below meth c H locs la C hN hG hP hS hla)
theorem kg_if_le {x : Int32} {off : Int} {tgt : Nat} (hd : decode M.2.1 pc = .ok (.ifCond .le off, 3)) (ht : (pc : Int) + off = (tgt : Int)) (hp : pc + 3 = pc') (kt : x ≤ 0 → KG E M rm nm n0 tgt ls st σ cl sl Z) (kf : ¬ x ≤ 0 → KG E M rm nm n0 pc' ls st σ cl sl Z) : KG E M rm nm n0 pc ls (.inl x :: st) σ cl sl Z := by
  subst hp
  intro p l e s m args below meth c H locs la C hN hG hP hS hla
  exact lv_if_le C.1 C.2.1 hd ht (fun h => kt h p l e s m args below meth c H locs la C hN hG hP hS hla) (fun h => kf h p l e s m args below meth c H locs la C hN hG hP hS hla)
theorem kg_if_gt {x : Int32} {off : Int} {tgt : Nat} (hd : decode M.2.1 pc = .ok (.ifCond .gt off, 3)) (ht : (pc : Int) + off = (tgt : Int)) (hp : pc + 3 = pc') (kt : 0 < x → KG E M rm nm n0 tgt ls st σ cl sl Z) (kf : ¬ 0 < x → KG E M rm nm n0 pc' ls st σ cl sl Z) : KG E M rm nm n0 pc ls (.inl x :: st) σ cl sl Z := by
  subst hp
  intro p l e s m args below meth c H locs la C hN hG hP hS hla
  exact lv_if_gt C.1 C.2.1 hd ht (fun h => kt h p l e s m args below meth c H locs la C hN hG hP hS hla) (fun h => kf h p l e s m args below meth c H locs la C hN hG hP hS hla)
theorem kg_if_ge {x : Int32} {off : Int} {tgt : Nat} (hd : decode M.2.1 pc = .ok (.ifCond .ge off, 3)) (ht : (pc : Int) + off = (tgt : Int)) (hp : pc + 3 = pc') (kt : 0 ≤ x → KG E M rm nm n0 tgt ls st σ cl sl Z) (kf : ¬ 0 ≤ x → KG E M rm nm n0 pc' ls st σ cl sl Z) : KG E M rm nm n0 pc ls (.inl x :: st) σ cl sl Z := by
  subst hp
  intro p l e s m args below meth c H locs la C hN hG hP hS hla
  exact lv_if_ge C.1 C.2.1 hd ht (fun h => kt h p l e s m args below meth c H locs la C hN hG hP hS hla) (fun h => kf h p l e s m args below meth c H locs la C hN hG hP hS hla)
theorem kg_tableIn {dflt lo hi : Int} {offs : Array Int} {len : Nat} {x : Int32} {off : Int} {tgt : Nat} (hd : decode M.2.1 pc = .ok (.tableswitch dflt lo hi offs, len)) (h1 : ¬ x.toInt < lo) (h2 : ¬ hi < x.toInt) (ho : offs[(x.toInt - lo).toNat]? = some off) (ht : (pc : Int) + off = (tgt : Int)) (kk : KG E M rm nm n0 tgt ls st σ cl sl Z) : KG E M rm nm n0 pc ls (.inl x :: st) σ cl sl Z := by
  intro p l e s m args below meth c H locs la C hN hG hP hS hla
  exact lv_tableIn C.1 C.2.1 hd h1 h2 ho ht (kk p l e s m args below meth c H locs la C hN hG hP hS hla)
theorem kg_tableOut {dflt lo hi : Int} {offs : Array Int} {len : Nat} {x : Int32} {tgt : Nat} (hd : decode M.2.1 pc = .ok (.tableswitch dflt lo hi offs, len)) (h : x.toInt < lo ∨ hi < x.toInt) (ht : (pc : Int) + dflt = (tgt : Int)) (kk : KG E M rm nm n0 tgt ls st σ cl sl Z) : KG E M rm nm n0 pc ls (.inl x :: st) σ cl sl Z := by
  intro p l e s m args below meth c H locs la C hN hG hP hS hla
  exact lv_tableOut C.1 C.2.1 hd h ht (kk p l e s m args below meth c H locs la C hN hG hP hS hla)
theorem kg_getI {index ci k r : Nat} (hf : kFL M.1 index ci k true) (hk : kKd r = ci) (hn : r < E.2.2.2.2.1) (hd : decode M.2.1 pc = .ok (.getfield index, 3)) (hp : pc + 3 = pc') (kk : KG E M rm nm n0 pc' ls (.inl (σ r k) :: st) σ cl sl Z) : KG E M rm nm n0 pc ls (.inr r :: st) σ cl sl Z := by
  subst hp
  intro p l e s m args below meth c H locs la C hN hG hP hS hla
  obtain ⟨C1, T, N, h1, h2, h3, h4, h5, h6⟩ := hf
  have he := kWl_at (σ := σ) hn
  rw [kEl_obj hk h6] at he
  have hv := kFl_at (E := E) (σ := σ) (r := r) (k := k) (b := true) (by rw [hk]; exact h5)
  exact va_get C.1 C.2.1 C.2.2.2.2.2.2.1 h4 C.2.2.2.2.2.1 C.2.2.2.2.2.2.2.1 hP.1 r he h1 k h2 (C.2.2.2.2.2.2.1 _ h3) (fun _ h => h) hv hd (kk p l e s m args below meth c H locs la C hN hG hP hS hla)
theorem kg_getR {index ci k r q : Nat} (hf : kFL M.1 index ci k false) (hk : kKd r = ci) (hn : r < E.2.2.2.2.1) (hm : E.2.2.2.2.2.2.2 r k = true) (hq : kRf r k = q) (hd : decode M.2.1 pc = .ok (.getfield index, 3)) (hp : pc + 3 = pc') (kk : KG E M rm nm n0 pc' ls (.inr q :: st) σ cl sl Z) : KG E M rm nm n0 pc ls (.inr r :: st) σ cl sl Z := by
  subst hp hq
  intro p l e s m args below meth c H locs la C hN hG hP hS hla
  obtain ⟨C1, T, N, h1, h2, h3, h4, h5, h6⟩ := hf
  have he := kWl_at (σ := σ) hn
  rw [kEl_obj hk h6] at he
  have hv := kFl_at (E := E) (σ := σ) (r := r) (k := k) (b := false) (by rw [hk]; exact h5)
  rw [if_neg (by decide), if_pos hm] at hv
  exact va_get C.1 C.2.1 C.2.2.2.2.2.2.1 h4 C.2.2.2.2.2.1 C.2.2.2.2.2.2.2.1 hP.1 r he h1 k h2 (C.2.2.2.2.2.2.1 _ h3) (fun _ h => h) hv hd (kk p l e s m args below meth c H locs la C hN hG hP hS hla)
theorem kg_putI {index ci k r : Nat} {x : Int32} {ty : FieldType} (hf : kFP M.1 index ci k ty) (hty : narrow ty (.int x) = .int x) (hfit : fits ty (.int x) = true) (hk : kKd r = ci) (hn : r < E.2.2.2.2.1) (hd : decode M.2.1 pc = .ok (.putfield index, 3)) (hp : pc + 3 = pc') (kk : KG E M rm nm n0 pc' ls st (up σ r k x) cl sl Z) : KG E M rm nm n0 pc ls (.inl x :: .inr r :: st) σ cl sl Z := by
  subst hp
  intro p l e s m args below meth c H locs la C hN hG hP hS hla
  obtain ⟨C1, T, N, ty0, h1, h2, h3, h4, h5, h6, h7, h8, h9, h10⟩ := hf
  have he := kWl_at (σ := σ) hn
  rw [kEl_obj hk h6] at he
  have h5' : (kFk (kKd r))[k]? = some true := by rw [hk]; exact h5
  refine va_put C.1 C.2.1 C.2.2.2.2.2.2.1 h4 ty0 h7 h8 C.2.2.2.2.2.1 C.2.2.2.2.2.2.2.1 hP.1 (kD C.2.2.2.2.2.2.2.2.2.1.1 σ) hS r he h1 k h2 (C.2.2.2.2.2.2.1 _ h3) (fun _ h => h) h9 h10 hty hfit (by rw [kFl_len]; exact (List.getElem?_eq_some_iff.mp h5').1) hd (fun H1 locs1 hP1 hD1 hS1 => ?_)
  have hws : (kWl E σ).set r (kAd E r, .inr (ci, (kFl E σ r).set k (.int x))) = kWl E (up σ r k x) := by
    rw [← kWl_set (E := E) (σ := σ) (σ' := up σ r k x) (a := r) (fun q hq => up_ne σ k x hq), kEl_obj hk h6, kFl_set h5']
  exact kk p l e s m args below meth c H1 locs1 la C hN hG (kHp_of C.2.2.2.2.2.2.2.2.1 hws hP1 hS1) hS1 hla
theorem kg_alen {r n : Nat} {v : Int32} (t0 : Nat) {ty : FieldType} (hk : kKd r = 20 + n) (h3 : n < 3) (ht : (kTys E)[t0]? = some (E.2.2.2.1 n, ty)) (hn : r < E.2.2.2.2.1) (hv : nI (kLn r) = v) (hd : decode M.2.1 pc = .ok (.arraylength, 1)) (hp : pc + 1 = pc') (kk : KG E M rm nm n0 pc' ls (.inl v :: st) σ cl sl Z) : KG E M rm nm n0 pc ls (.inr r :: st) σ cl sl Z := by
  subst hp
  intro p l e s m args below meth c H locs la C hN hG hP hS hla
  have he := kWl_at (σ := σ) hn
  rw [kEl_arr hk h3] at he
  exact va_alen C.1 C.2.1 C.2.2.2.2.2.2.2.1 hP.1 r t0 he ht hv hd (kk p l e s m args below meth c H locs la C hN hG hP hS hla)
theorem kg_iald {r j : Nat} {i : Int32} (hk : kKd r = 20) (hn : r < E.2.2.2.2.1) (hin : vp_in i (kLn r)) (hj : i.toNatClampNeg = j) (hd : decode M.2.1 pc = .ok (.iaload, 1)) (hp : pc + 1 = pc') (kk : KG E M rm nm n0 pc' ls (.inl (σ r j) :: st) σ cl sl Z) : KG E M rm nm n0 pc ls (.inl i :: .inr r :: st) σ cl sl Z := by
  subst hp hj
  intro p l e s m args below meth c H locs la C hN hG hP hS hla
  have he := kWl_at (σ := σ) hn
  rw [kEl_arr (n := 0) hk (by decide)] at he
  exact va_iald C.1 C.2.1 C.2.2.2.2.2.2.2.1 hP.1 r 0 he rfl hin hd (kk p l e s m args below meth c H locs la C hN hG hP hS hla)
theorem kg_iast {r j : Nat} {i x : Int32} (hk : kKd r = 20) (hn : r < E.2.2.2.2.1) (hin : vp_in i (kLn r)) (hj : i.toNatClampNeg = j) (hd : decode M.2.1 pc = .ok (.iastore, 1)) (hp : pc + 1 = pc') (kk : KG E M rm nm n0 pc' ls st (up σ r j x) cl sl Z) : KG E M rm nm n0 pc ls (.inl x :: .inl i :: .inr r :: st) σ cl sl Z := by
  subst hp hj
  intro p l e s m args below meth c H locs la C hN hG hP hS hla
  have he := kWl_at (σ := σ) hn
  rw [kEl_arr (n := 0) hk (by decide)] at he
  refine va_iast C.1 C.2.1 C.2.2.2.2.2.2.2.1 hP.1 (kD C.2.2.2.2.2.2.2.2.2.1.1 σ) hS r 0 he rfl hin hd (fun H1 locs1 hP1 hD1 hS1 => ?_)
  exact kk p l e s m args below meth c H1 locs1 la C hN hG (kHp_of C.2.2.2.2.2.2.2.2.1 (kWl_up (n := 0) hk (by decide)) hP1 hS1) hS1 hla
theorem kg_zast {r j : Nat} {i x y : Int32} (hk : kKd r = 21) (hn : r < E.2.2.2.2.1) (hin : vp_in i (kLn r)) (hz : vp_nar .boolean x = y) (hj : i.toNatClampNeg = j) (hd : decode M.2.1 pc = .ok (.bastore, 1)) (hp : pc + 1 = pc') (kk : KG E M rm nm n0 pc' ls st (up σ r j y) cl sl Z) : KG E M rm nm n0 pc ls (.inl x :: .inl i :: .inr r :: st) σ cl sl Z := by
  subst hp hz hj
  intro p l e s m args below meth c H locs la C hN hG hP hS hla
  have he := kWl_at (σ := σ) hn
  rw [kEl_arr (n := 1) hk (by decide)] at he
  refine va_zast C.1 C.2.1 C.2.2.2.2.2.2.2.1 hP.1 (kD C.2.2.2.2.2.2.2.2.2.1.1 σ) hS r 1 he rfl hin hd (fun H1 locs1 hP1 hD1 hS1 => ?_)
  exact kk p l e s m args below meth c H1 locs1 la C hN hG (kHp_of C.2.2.2.2.2.2.2.2.1 (kWl_up (n := 1) hk (by decide)) hP1 hS1) hS1 hla
theorem kg_bast {r j : Nat} {i x y : Int32} (hk : kKd r = 22) (hn : r < E.2.2.2.2.1) (hin : vp_in i (kLn r)) (hz : vp_nar .byte x = y) (hj : i.toNatClampNeg = j) (hd : decode M.2.1 pc = .ok (.bastore, 1)) (hp : pc + 1 = pc') (kk : KG E M rm nm n0 pc' ls st (up σ r j y) cl sl Z) : KG E M rm nm n0 pc ls (.inl x :: .inl i :: .inr r :: st) σ cl sl Z := by
  subst hp hz hj
  intro p l e s m args below meth c H locs la C hN hG hP hS hla
  have he := kWl_at (σ := σ) hn
  rw [kEl_arr (n := 2) hk (by decide)] at he
  refine va_bast C.1 C.2.1 C.2.2.2.2.2.2.2.1 hP.1 (kD C.2.2.2.2.2.2.2.2.2.1.1 σ) hS r 2 he rfl hin hd (fun H1 locs1 hP1 hD1 hS1 => ?_)
  exact kk p l e s m args below meth c H1 locs1 la C hN hG (kHp_of C.2.2.2.2.2.2.2.2.1 (kWl_up (n := 2) hk (by decide)) hP1 hS1) hS1 hla
theorem kg_size {σ : Wd} {p : Program} {l : Launch} {e : Env} {s : State} {m : MethodId} {args : Array Value} {below : List Frame} {meth : Method} {c : Code} {T : State} {H : Heap} {locs : List Loc} (X : Stand p l e rm s m args below meth c T locs cl sl) (hT : T.heap = H) (hG : s.heap.size = E.1 + n0) (hn : E.2.2.2.2.1 = n0 + cl) (hE : E.2.2.2.2.1 ≤ 1000) (hP : kHp E σ H) (hS : va_S (fun q => E.1 ≤ q) s.heap H locs) : H.size = E.1 + E.2.2.2.2.1 := by
  have h1 : T.heap.size ≤ s.heap.size + cl := X.same.2.2.1
  rw [hT, hG] at h1
  have h2 : E.1 + E.2.2.2.2.1 ≤ H.size := by
    rcases Nat.eq_zero_or_pos E.2.2.2.2.1 with h0 | h0
    · have := hS.1
      rw [hG] at this
      omega
    · have h3 := (hP.1 (E.2.2.2.2.1 - 1) _ (kWl_at (by omega))).lt
      simp only [kAd] at h3
      rw [if_pos (by omega)] at h3
      omega
  omega
theorem kg_ws {σ : Wd} {p : Program} {l : Launch} {e : Env} {s : State} {m : MethodId} {args : Array Value} {below : List Frame} {meth : Method} {c : Code} {H : Heap} {locs : List Loc} {Q : State → Prop} {g : JFrame} (hG : s.heap.size = E.1 + n0) (hn : E.2.2.2.2.1 = n0 + cl) (hE : E.2.2.2.2.1 ≤ 1000) (hP : kHp E σ H) (hS : va_S (fun q => E.1 ≤ q) s.heap H locs) (k : H.size = E.1 + E.2.2.2.2.1 → W p l e rm s m args below meth c H locs cl sl Q g) : W p l e rm s m args below meth c H locs cl sl Q g :=
  fun T hT X => k (kg_size X hT hG hn hE hP hS) T hT X
theorem kg_grow {n t : Nat} {p : Program} {s : State} {m : MethodId} {args : Array Value} {meth : Method} {c : Code} {H H1 : Heap} {locs : List Loc} (C : kJC (kEt E0 n t) M p s m args meth c) (hP : kHp (kEt E0 n t) σ H) (hS : va_S (fun q => E0.1 ≤ q) s.heap H locs) (hz : H.size = E0.1 + n) (hn1 : n < 1000) (z1 : H1.size = E0.1 + n + 1) (o1 : ∀ q : Nat, q < E0.1 + n → H1[q]? = H[q]?) (hnew : va_at E0.2.2.1 vwCl (E0.1 + n, kEl (kEt E0 (n + 1) t) (zr σ n) n) H1) : kHp (kEt E0 (n + 1) t) (zr σ n) H1 ∧ va_S (fun q => E0.1 ≤ q) s.heap H1 locs ∧ kJC (kEt E0 (n + 1) t) M p s m args meth c := by
  refine ⟨⟨fun k q hk => ?_, fun q hq => ?_⟩, ⟨by rw [z1]; have := hS.1; omega, fun q h1 h2 => ?_, hS.2.2⟩, ?_⟩
  · obtain ⟨h1, rfl⟩ := kWl_lt hk
    have h1 : k < n + 1 := h1
    by_cases hkn : k = n
    · subst hkn
      have e : kAd (kEt E0 (k + 1) t) k = E0.1 + k := by
        show (if k < 1000 then E0.1 + k else _) = _
        rw [if_pos hn1]
      rw [e]
      exact hnew
    · have hlt : k < n := by omega
      have h2 := hP.1 k _ (kWl_at (E := kEt E0 n t) (σ := σ) hlt)
      have e1 : kEl (kEt E0 (n + 1) t) (zr σ n) k = kEl (kEt E0 n t) σ k := by
        have e2 : kEl (kEt E0 (n + 1) t) (zr σ n) k = kEl (kEt E0 (n + 1) t) σ k := kEl_eq (zr_ne hkn)
        rw [e2]
        rfl
      rw [e1]
      have hl := h2.lt
      rw [hz] at hl
      exact h2.kept (o1 _ hl)
  · have hq' : q < E0.1 := hq
    rw [o1 q (by omega)]
    exact hP.2 q hq
  · rw [o1 q (by have := hS.1; omega)]
    exact hS.2.1 q h1 h2
  · obtain ⟨c1, c2, c3, c4, c5, c6, c7, c8, c9, c10, c11⟩ := C
    exact ⟨c1, c2, c3, c4, c5, c6, c7, c8, c9, ⟨by show n + 1 ≤ 1000; omega, c10.2⟩, c11⟩
theorem kTrn {n : Nat} (h : n < 1000) : kTr E0 (.inr n) = .ref (E0.1 + n) := by
  show Value.ref (if n < 1000 then E0.1 + n else _) = _
  rw [if_pos h]
/-- what a class's new object needs -/
def kNW (own : String) (index ci N : Nat) : Prop := ∃ (C : String) (T : u_T) (ty : Nat → FieldType), vwCl[ci]? = some (C, T, N) ∧ (∀ w ∈ ([.classLink own index C, .instantiable C N, .initialized C] : List Cond), w ∈ kTb) ∧ (∀ w ∈ u_ws C T N, w ∈ kTb) ∧ (∀ k, k < N → parseFieldDescriptor (T k).2.2.1 = some (ty k)) ∧ (∀ j, j < N → defaultValue (ty j) = if (kFk ci).getD j false = true then .int 0 else .null) ∧ ci < 20 ∧ (kFk ci).length = N
theorem kg_new {n t ci N index : Nat} (hw : kNW M.1 index ci N) (hk : kKd n = ci) (hm : ∀ i, t ≤ kTm n i) (hnn : n = n0 + cl) (hn1 : n < 1000) (hcl : cl + 1 ≤ rm.cells) (hsl : sl + N ≤ rm.slots) (hd : decode M.2.1 pc = .ok (.new index, 3)) (hp : pc + 3 = pc') (kk : KG (kEt E0 (n + 1) t) M rm nm n0 pc' ls (.inr n :: st) (zr σ n) (cl + 1) (sl + N) Z) : KG (kEt E0 n t) M rm nm n0 pc ls st σ cl sl Z := by
  subst hp
  intro p l e s m args below meth c H locs la C hN hG hP hS hla
  refine kg_ws (E := kEt E0 n t) hG hnn (Nat.le_of_lt hn1) hP hS (fun hz => ?_)
  obtain ⟨C1, T, ty, h1, h2, h3, h4, h5, h6, h7⟩ := hw
  have hKn := C.2.2.2.2.2.2.2.1.1 ci _ h1
  have hz : H.size = E0.1 + n := hz
  have w1 := h2 (Cond.classLink M.1 index C1) (by simp)
  have w2 := h2 (Cond.instantiable C1 N) (by simp)
  have w3 := h2 (Cond.initialized C1) (by simp)
  refine W.newcK C.1 C.2.1 C.2.2.2.2.2.1 (C.2.2.2.2.2.2.1 _ w1) (C.2.2.2.2.2.2.1 _ w2) (C.2.2.2.2.2.2.1 _ w3) rfl hd hcl hsl hKn.2.1 (h := E0.1 + n) hz (fun H1 kC hkC e1 z1 o1 => ?_)
  have hnew : va_at E0.2.2.1 vwCl (E0.1 + n, kEl (kEt E0 (n + 1) t) (zr σ n) n) H1 := by
    rw [kEl_obj hk h6]
    refine ⟨_, h1, (u_born ty C.2.2.2.2.2.2.1 h3 hKn hkC e1 h4).to (fun j hj => ?_)⟩
    rw [h5 j hj]
    obtain ⟨bb, hbb⟩ : ∃ bb, (kFk ci).getD j false = bb := ⟨_, rfl⟩
    have hj' : (kFk (kKd n))[j]? = some bb := by
      rw [hk, ← hbb, List.getD_eq_getElem?_getD, List.getElem?_eq_getElem (by rw [h7]; exact hj)]
      rfl
    have ev : vp_V (kFl (kEt E0 (n + 1) t) (zr σ n) n) j = (if bb = true then Value.int (zr σ n n j) else if (kEt E0 (n + 1) t).2.2.2.2.2.2.2 n j = true then Value.ref (kAd (kEt E0 (n + 1) t) (kRf n j)) else Value.null) := by
      unfold vp_V
      rw [List.getD_eq_getElem?_getD, kFl_at hj']
      rfl
    rw [hbb, ev]
    by_cases hb : bb = true
    · rw [if_pos hb, if_pos hb, zr_at]
    · rw [if_neg hb, if_neg hb, if_neg]
      show ¬ decide (kTm n j < t) = true
      have := hm j
      simp; omega
  obtain ⟨g1, g2, g3⟩ := kg_grow C hP hS hz hn1 z1 o1 hnew
  have hk2 := kk p l e s m args below meth c H1 locs la g3 hN hG g1 g2 (by rw [kLv_et] at hla ⊢; exact hla)
  rw [List.map_cons, kTr_et, kTrn hn1] at hk2
  rw [kTr_et]
  exact hk2
/-- what a new array needs -/
theorem kg_newa {n t j N : Nat} {x : Int32} {atype : ArrayType} (hty : newarray.typeOf atype = [FieldType.int, .boolean, .byte].getD j .int) (hj : j < 3) (hw : Cond.arrayClass (newarray.typeOf atype) ∈ kTb) (hdv : defaultValue (newarray.typeOf atype) = .int 0) (hk : kKd n = 20 + j) (hl : kLn n = N) (hx : ¬ x < 0) (hN : x.toNatClampNeg = N) (hbytes : N * componentBytes (newarray.typeOf atype) ≤ 536870912) (hnn : n = n0 + cl) (hn1 : n < 1000) (hcl : cl + 1 ≤ rm.cells) (hsl : sl + N ≤ rm.slots) (hd : decode M.2.1 pc = .ok (.newarray atype, 2)) (hp : pc + 2 = pc') (kk : KG (kEt E0 (n + 1) t) M rm nm n0 pc' ls (.inr n :: st) (zr σ n) (cl + 1) (sl + N) Z) : KG (kEt E0 n t) M rm nm n0 pc ls (.inl x :: st) σ cl sl Z := by
  subst hp
  intro p l e s m args below meth c H locs la C hNm hG hP hS hla
  refine kg_ws (E := kEt E0 n t) hG hnn (Nat.le_of_lt hn1) hP hS (fun hz => ?_)
  have hz : H.size = E0.1 + n := hz
  refine va_newaK C.1 C.2.1 (C.2.2.2.2.2.2.1 _ hw) rfl hd rfl hx hN hbytes hcl hsl (h := E0.1 + n) hz (fun H1 cA e1 z1 o1 hAr hNm2 => ?_)
  have hcA : cA = E0.2.2.2.1 j := by
    have hT := C.2.2.2.2.2.2.2.1.2 j (E0.2.2.2.1 j, newarray.typeOf atype) (by
      rw [hty]
      match j, hj with
      | 0, _ => rfl
      | 1, _ => rfl
      | 2, _ => rfl)
    have h9 : s.vm.findClass ("[" ++ (newarray.typeOf atype).toString) = some (E0.2.2.2.1 j) := by
      have h8 := hT.2
      rw [hty] at h8 ⊢
      match j, hj with
      | 0, _ => exact h8
      | 1, _ => exact h8
      | 2, _ => exact h8
    exact Option.some.inj (hNm2.symm.trans h9)
  have hnew : va_at E0.2.2.1 vwCl (E0.1 + n, kEl (kEt E0 (n + 1) t) (zr σ n) n) H1 := by
    rw [kEl_arr hk hj, hl, zr_at]
    show H1[E0.1 + n]? = some (vp_cell (E0.2.2.2.1 j) (N, .inl fun _ => 0))
    rw [e1, hcA, hdv]
    rfl
  obtain ⟨g1, g2, g3⟩ := kg_grow C hP hS hz hn1 z1 o1 hnew
  have hk2 := kk p l e s m args below meth c H1 locs la g3 hNm hG g1 g2 (by rw [kLv_et] at hla ⊢; exact hla)
  rw [List.map_cons, kTr_et, kTrn hn1] at hk2
  rw [kTr_et]
  exact hk2
theorem kg_anewa {n t N index : Nat} {x : Int32} (hw : Cond.classLink M.1 index "UnionFamilies$State" ∈ kTb) (hX : kHX E0) (hk : kKd n = 23) (hl : kLn n = N) (hm : ∀ i, t ≤ kTm n i) (hx : ¬ x < 0) (hN : x.toNatClampNeg = N) (hbytes : N * 4 ≤ 536870912) (hnn : n = n0 + cl) (hn1 : n < 1000) (hcl : cl + 1 ≤ rm.cells) (hsl : sl + N ≤ rm.slots) (hd : decode M.2.1 pc = .ok (.anewarray index, 3)) (hp : pc + 3 = pc') (kk : KG (kEt E0 (n + 1) t) M rm nm n0 pc' ls (.inr n :: st) (zr σ n) (cl + 1) (sl + N) Z) : KG (kEt E0 n t) M rm nm n0 pc ls (.inl x :: st) σ cl sl Z := by
  subst hp
  intro p l e s m args below meth c H locs la C hNm hG hP hS hla
  refine kg_ws (E := kEt E0 n t) hG hnn (Nat.le_of_lt hn1) hP hS (fun hz => ?_)
  have hz : H.size = E0.1 + n := hz
  subst hN
  refine W.anew C.1 C.2.1 C.2.2.2.2.2.1 (C.2.2.2.2.2.2.1 _ hw) (hX s C.2.2.2.2.2.2.2.2.2.2).2.2.2.2.use rfl hd rfl hx hbytes hcl hsl (fun cA kA comp f1 f2 f3 f4 => ?_)
  generalize hH1 : H.push ({ cls := cA, slots := Array.replicate x.toNatClampNeg .null, vm := .none } : Cell) = H1
  have z1 : H1.size = E0.1 + n + 1 := by rw [← hH1, Array.size_push, hz]
  have e1 : H1[E0.1 + n]? = some (arrV cA x.toNatClampNeg (fun _ => .null)) := by rw [← hz, ← hH1, Array.getElem?_push_size, ← arrV_new]
  have o1 : ∀ q : Nat, q < E0.1 + n → H1[q]? = H[q]? := fun q hq => by rw [← hH1, Array.getElem?_push, if_neg (Nat.ne_of_lt (by rw [hz]; exact hq))]
  have hcA : cA = E0.2.2.2.1 3 := by
    obtain ⟨kA', comp', k1, k2, k3, k4⟩ := (C.2.2.2.2.2.2.2.1.2 3 (E0.2.2.2.1 3, .object "UnionFamilies$State") rfl).2
    exact Option.some.inj (f1.symm.trans k4)
  have hnew : va_at E0.2.2.1 vwCl (E0.1 + n, kEl (kEt E0 (n + 1) t) (zr σ n) n) H1 := by
    have e2 : kEl (kEt E0 (n + 1) t) (zr σ n) n = .inl (E0.2.2.2.1 3, x.toNatClampNeg, .inr (.inr (.inr (.inr (fun _ => none))))) := by
      have e3 : (fun j => if (kEt E0 (n + 1) t).2.2.2.2.2.2.2 n j = true then some (kAd (kEt E0 (n + 1) t) (kRf n j)) else none) = fun _ => none := by
        funext j
        rw [if_neg]
        show ¬ decide (kTm n j < t) = true
        have := hm j
        simp; omega
      simp only [kEl, hk, hl, e3]
      rfl
    rw [e2]
    show H1[E0.1 + n]? = some (vp_cell (E0.2.2.2.1 3) _)
    rw [e1, hcA]
    rfl
  obtain ⟨g1, g2, g3⟩ := kg_grow C hP hS hz hn1 z1 o1 hnew
  have hk2 := kk p l e s m args below meth c H1 locs la g3 hNm hG g1 g2 (by rw [kLv_et] at hla ⊢; exact hla)
  rw [List.map_cons, kTr_et, kTrn hn1] at hk2
  rw [kTr_et, hz]
  exact hk2
/-- a ref is set: the one whose time it is -/
theorem kHp_time {n t : Nat} {H1 : Heap} {ws : va_W} {r k : Nat} {locs1 : List Loc} {s : State} (h0 : E0.1 ≤ s.heap.size ∧ ∀ q : Nat, q < E0.1 → s.heap[q]? = E0.2.1[q]?) (hw : ws = kWl (kEt E0 n (t + 1)) σ) (h1 : va_P E0.2.2.1 vwCl ws H1) (h2 : va_S (fun q => E0.1 ≤ q) s.heap H1 locs1) : kHp (kEt E0 n (t + 1)) σ H1 := by
  subst hw
  refine ⟨h1, fun q hq => ?_⟩
  have hq' : q < E0.1 := hq
  rw [h2.2.1 q (Nat.lt_of_lt_of_le hq' h0.1) (Nat.not_le.mpr hq')]
  exact h0.2 q hq'
theorem kMk {n t r k : Nat} (ht : t < 9999) (h : kTm r k = t) (k' i' : Nat) (hne : ¬ (k' = r ∧ i' = k)) : (kEt E0 n (t + 1)).2.2.2.2.2.2.2 k' i' = (kEt E0 n t).2.2.2.2.2.2.2 k' i' := by
  show decide (kTm k' i' < t + 1) = decide (kTm k' i' < t)
  have : kTm k' i' ≠ t := fun e => hne (by have := kTm_one ht e h; exact ⟨this.1, this.2⟩)
  by_cases hc : kTm k' i' < t
  · rw [decide_eq_true hc, decide_eq_true (by omega)]
  · rw [decide_eq_false hc, decide_eq_false (by omega)]
theorem kWl_time {n t r k : Nat} (ht : t < 9999) (h : kTm r k = t) (e : va_E) (he : kEl (kEt E0 n (t + 1)) σ r = e) (hr : r < n) : (kWl (kEt E0 n t) σ).set r (kAd E0 r, e) = kWl (kEt E0 n (t + 1)) σ := by
  apply List.ext_getElem?
  intro i
  by_cases hi : i < n
  · rw [kWl_at (E := kEt E0 n (t + 1)) hi]
    by_cases ha : i = r
    · subst ha
      rw [List.getElem?_set_self (by simp [kWl]; exact hi), he]
      rfl
    · rw [List.getElem?_set_ne (Ne.symm ha), kWl_at (E := kEt E0 n t) hi]
      have e1 : kEl (kEt E0 n (t + 1)) σ i = kEl (kEt E0 n t) σ i := by
        have em : ∀ j, (kEt E0 n (t + 1)).2.2.2.2.2.2.2 i j = (kEt E0 n t).2.2.2.2.2.2.2 i j := fun j => kMk ht h i j (fun q => ha q.1)
        simp only [kEl, kFl, em]
        rfl
      rw [e1]
      rfl
  · have e1 : (kWl (kEt E0 n (t + 1)) σ).length ≤ i := by simp [kWl]; exact Nat.not_lt.mp hi
    have e2 : ((kWl (kEt E0 n t) σ).set r (kAd E0 r, e)).length ≤ i := by simp [kWl]; exact Nat.not_lt.mp hi
    rw [List.getElem?_eq_none e1, List.getElem?_eq_none e2]
def kFF (own : String) (index ci k : Nat) : Prop := ∃ (C : String) (T : u_T) (N : Nat) (ty0 : Nat → FieldType) (ty : FieldType), vwCl[ci]? = some (C, T, N) ∧ k < N ∧ Cond.fieldLink own index (T k).1 (T k).2.1 (T k).2.2.1 ∈ kTb ∧ (∀ w ∈ u_ws C T N, w ∈ kTb) ∧ (kFk ci)[k]? = some false ∧ ci < 20 ∧ (∀ k, k < N → parseFieldDescriptor (T k).2.2.1 = some (ty0 k)) ∧ (∀ a, a < N → ∀ b, b < N → a ≠ b → (T a).2.1 ≠ (T b).2.1) ∧ (T k).2.2.2 = true ∧ (T k).1 = own ∧ parseFieldDescriptor (T k).2.2.1 = some ty ∧ (∀ a, narrow ty (.ref a) = .ref a) ∧ ∀ a, fits ty (.ref a) = true
theorem kFl_time {n t r k : Nat} (ht : t < 9999) (h : kTm r k = t) (h5 : (kFk (kKd r))[k]? = some false) : (kFl (kEt E0 n t) σ r).set k (.ref (kAd E0 (kRf r k))) = kFl (kEt E0 n (t + 1)) σ r := by
  apply List.ext_getElem?
  intro i
  by_cases hi : i = k
  · subst hi
    rw [List.getElem?_set_self (by rw [kFl_len]; exact (List.getElem?_eq_some_iff.mp h5).1), kFl_at h5]
    have : (kEt E0 n (t + 1)).2.2.2.2.2.2.2 r i = true := by
      show decide (kTm r i < t + 1) = true
      simp; omega
    rw [if_neg (by decide), if_pos this]
    rfl
  · rw [List.getElem?_set_ne (Ne.symm hi)]
    simp only [kFl, List.getElem?_mapIdx, kMk (E0 := E0) (n := n) ht h r i (fun q => hi q.2)]
    rfl
theorem kg_putR {n t index ci k r q : Nat} (hf : kFF M.1 index ci k) (hnm : nm = "<init>") (ht : t < 9999) (htm : kTm r k = t) (hq : kRf r k = q) (hk : kKd r = ci) (hn : r < n) (hd : decode M.2.1 pc = .ok (.putfield index, 3)) (hp : pc + 3 = pc') (kk : KG (kEt E0 n (t + 1)) M rm nm n0 pc' ls st σ cl sl Z) : KG (kEt E0 n t) M rm nm n0 pc ls (.inr q :: .inr r :: st) σ cl sl Z := by
  subst hp hq
  intro p l e s m args below meth c H locs la C hN hG hP hS hla
  obtain ⟨C1, T, N, ty0, ty, h1, h2, h3, h4, h5, h6, h7, h8, h9, h10, h11, h12, h13⟩ := hf
  have he := kWl_at (E := kEt E0 n t) (σ := σ) hn
  rw [kEl_obj hk h6] at he
  have h5' : (kFk (kKd r))[k]? = some false := by rw [hk]; exact h5
  have hk2 := fun (H1 : Heap) (locs1 : List Loc) (hP1 : kHp (kEt E0 n (t + 1)) σ H1) (hS1 : va_S (fun q => E0.1 ≤ q) s.heap H1 locs1) => kk p l e s m args below meth c H1 locs1 la C hN hG hP1 hS1 (by rw [kLv_et] at hla ⊢; exact hla)
  rw [kTr_et] at hk2 ⊢
  refine va_putF C.1 C.2.1 C.2.2.2.2.2.2.1 h4 ty0 h7 h8 C.2.2.2.2.2.1 C.2.2.2.2.2.2.2.1 hP.1 (kD (E := kEt E0 n t) C.2.2.2.2.2.2.2.2.2.1.1 σ) hS r he h1 k h2 (C.2.2.2.2.2.2.1 _ h3) (fun _ h => h) h9 (by rw [hN]; exact hnm) h10 h11 (h12 _) (h13 _) (by rw [kFl_len]; exact (List.getElem?_eq_some_iff.mp h5').1) hd (fun H1 locs1 hP1 hD1 hS1 => ?_)
  refine hk2 H1 locs1 (kHp_time (r := r) (k := k) C.2.2.2.2.2.2.2.2.1 ?_ hP1 hS1) hS1
  refine kWl_time ht htm _ ?_ hn
  rw [kEl_obj hk h6]
  congr 2
  exact (kFl_time ht htm h5').symm
theorem kg_aast {n t r q j : Nat} {i : Int32} (ht : t < 9999) (htm : kTm r j = t) (hj : i.toNatClampNeg = j) (hq : kRf r j = q) (hk : kKd r = 23) (hk7 : kKd q = 7) (hn : r < n) (hqn : q < n) (hin : vp_in i (kLn r)) (hd : decode M.2.1 pc = .ok (.aastore, 1)) (hp : pc + 1 = pc') (kk : KG (kEt E0 n (t + 1)) M rm nm n0 pc' ls st σ cl sl Z) : KG (kEt E0 n t) M rm nm n0 pc ls (.inr q :: .inl i :: .inr r :: st) σ cl sl Z := by
  subst hp hq hj
  intro p l e s m args below meth c H locs la C hN hG hP hS hla
  have he := kWl_at (E := kEt E0 n t) (σ := σ) hn
  have e1 : kEl (kEt E0 n t) σ r = .inl (E0.2.2.2.1 3, kLn r, .inr (.inr (.inr (.inr (fun j => if (kEt E0 n t).2.2.2.2.2.2.2 r j = true then some (kAd (kEt E0 n t) (kRf r j)) else none))))) := by
    simp [kEl, hk]
    rfl
  rw [e1] at he
  have hv := kWl_at (E := kEt E0 n t) (σ := σ) hqn
  rw [kEl_obj hk7 (by decide)] at hv
  have hk2 := fun (H1 : Heap) (locs1 : List Loc) (hP1 : kHp (kEt E0 n (t + 1)) σ H1) (hS1 : va_S (fun q => E0.1 ≤ q) s.heap H1 locs1) => kk p l e s m args below meth c H1 locs1 la C hN hG hP1 hS1 (by rw [kLv_et] at hla ⊢; exact hla)
  rw [kTr_et] at hk2 ⊢
  refine va_astq (r := (RX7, TX7, 4)) C.1 C.2.1 C.2.2.2.2.2.2.2.1 hP.1 (kD (E := kEt E0 n t) C.2.2.2.2.2.2.2.2.2.1.1 σ) hS r 3 _ 7 he rfl hv rfl hin hd (fun H1 locs1 hP1 hD1 hS1 => ?_)
  refine hk2 H1 locs1 (kHp_time (r := r) (k := i.toNatClampNeg) C.2.2.2.2.2.2.2.2.1 ?_ hP1 hS1) hS1
  refine kWl_time ht htm _ ?_ hn
  have e2 : kEl (kEt E0 n (t + 1)) σ r = .inl (E0.2.2.2.1 3, kLn r, .inr (.inr (.inr (.inr (fun j => if (kEt E0 n (t + 1)).2.2.2.2.2.2.2 r j = true then some (kAd E0 (kRf r j)) else none))))) := by
    simp [kEl, hk]
    exact ⟨rfl, rfl⟩
  rw [e2]
  congr 7
  funext j
  by_cases hji : j = i.toNatClampNeg
  · subst hji
    have : (kEt E0 n (t + 1)).2.2.2.2.2.2.2 r i.toNatClampNeg = true := by
      show decide (kTm r i.toNatClampNeg < t + 1) = true
      simp; omega
    rw [if_pos this]
    simp [va_up]
    rfl
  · rw [kMk (E0 := E0) (n := n) ht htm r j (fun q => hji q.2)]
    simp [va_up, hji]
    rfl
theorem kg_objInit {n index r : Nat} (hw : ∀ w ∈ ([.methodLink M.1 index objectInit, .instanceMethod objectInit, .code objectInit ⟨#[0xb1]⟩ 1 none] : List Cond), w ∈ kTb) (hfr : 1 ≤ rm.frames) (hlo : st.length + 12 ≤ rm.locals) (hd : decode M.2.1 pc = .ok (.invokespecial index, 3)) (hp : pc + 3 = pc') (kk : KG E M rm nm n0 pc' ls st σ cl sl Z) : KG E M rm nm n0 pc ls (.inr r :: st) σ cl sl Z := by
  subst hp
  intro p l e s m args below meth c H locs la C hN hG hP hS hla
  have : ∀ st : List JV, ((st.map (kTr E)).map fun v => v.category).sum = st.length := fun st => by
    induction st with
    | nil => rfl
    | cons v t ih => simp only [List.map_cons, List.sum_cons, kTr_cat, List.length_cons, ih]; omega
  have w1 := hw (Cond.methodLink M.1 index objectInit) (by simp)
  have w2 := hw (Cond.instanceMethod objectInit) (by simp)
  have w3 := hw (Cond.code objectInit ⟨#[0xb1]⟩ 1 none) (by simp)
  refine W.objInit C.1 C.2.1 C.2.2.2.2.2.1 (C.2.2.2.2.2.2.1 _ w1) (C.2.2.2.2.2.2.1 _ w2) (C.2.2.2.2.2.2.1 _ w3) rfl (by rw [C.2.2.2.2.1]; exact hla.1) rfl hd hfr ?_ (kk p l e s m args below meth c H locs la C hN hG hP hS hla)
  show 2 * 0 + ((st.map (kTr E)).map fun v => v.category).sum + 12 ≤ rm.locals
  rw [this]
  omega
/-- a constructor's contract: from (n, t) to (n', t') -/
def kMc (E0 : JE) (y : MethodName) (M : MI) (rm : Room) (as : List JV) (n t : Nat) (σ : Wd) (n' t' : Nat) (σ' : Wd) (mc ms : Nat) : Prop :=
  ∀ l : Launch, Met l y (Cond.code y M.2.1 M.2.2.1 M.2.2.2 :: kTb) rm (va_Pc (as.map (kTr E0)) (fun U => kPre (kEt E0 n t) σ U ∧ U.heap.size = E0.1 + n)) (fun _ st oc u => oc = .returned none ∧ kHp (kEt E0 n' t') σ' u.heap ∧ st.heap.size ≤ u.heap.size) mc ms (fun q => E0.1 ≤ q)
def kZc (E0 : JE) (n' t' : Nat) (σ' : Wd) (mc ms : Nat) : List Frame → Array Value → State → State → Prop := fun below args s => MQ below (fun _ st oc u => oc = .returned none ∧ kHp (kEt E0 n' t') σ' u.heap ∧ st.heap.size ≤ u.heap.size) args s mc ms (fun q => E0.1 ≤ q)
theorem kMc_of {E0 : JE} {y : MethodName} {M : MI} {rm : Room} {as : List JV} {n t n' t' mc ms : Nat} {σ σ' : Wd} (hy : plainFor y = true) (hM : M.1 = y.cls) (hl : as.length ≤ M.2.2.1) (h : KG (kEt E0 n t) M rm y.name n 0 (as.map some) [] σ 0 0 (kZc E0 n' t' σ' mc ms)) : kMc E0 y M rm as n t σ n' t' σ' mc ms := by
  intro l
  refine va_MetF (cc := M.2.1) (maxL := M.2.2.1) (ret := M.2.2.2) hy rfl ?_
  intro p e s m args below meth c s₁ B hml hv
  obtain ⟨rfl, ⟨hP, hsz, hK, hE, hX⟩, hsn⟩ := hv
  have hts : ∀ w ∈ Cond.code y M.2.1 M.2.2.1 M.2.2.2 :: kTb, w.before ((as.map (kTr E0)).toArray) s = true := atoms_spec (ws := Cond.code y M.2.1 M.2.2.1 M.2.2.2 :: kTb) B.pre
  have hown : s.vm.findClass M.1 = some m.cls := by rw [hM]; exact findClass_of_methodNamed B.named
  have hle := lv_entry (as.map (kTr E0)) (n := M.2.2.1) (by rw [kSl]; simpa using hl)
  rw [kArgs, ← kLv_et E0 n t] at hle
  rw [lg_entry_eq]
  exact h p l e s m _ below meth c s.heap [] _ ⟨B.exec, B.bytes, B.returns, B.notSynchronized, hml, hown, fun w hw => hts w (List.mem_cons_of_mem _ hw), hK, ⟨hsz, hP.2⟩, hE, hX⟩ (name_of_methodNamed B.named B.method).1 hsn hP va_S.rf hle
theorem kg_vret {n' t' : Nat} {σ' : Wd} (hr : M.2.2.2 = none) (hd : decode M.2.1 pc = .ok (.return_, 1)) : KG (kEt E0 n' t') M rm nm n0 pc ls [] σ' cl sl (kZc E0 n' t' σ' cl sl) := by
  intro p l e s m args below meth c H locs la C hN hG hP hS hla
  exact W.vret C.1 C.2.1 (C.2.2.1.trans hr) (fun u hu _ => ⟨rfl, by rw [hu]; exact hP, by rw [hu]; exact hS.1⟩) hS.2.2 hd C.2.2.2.1
/-- words of a constructor call -/
def kIL (own : String) (index : Nat) (y : MethodName) (My : MI) (n : Nat) : Prop := (∀ w ∈ ([.methodLink own index y, .instanceMethod y, .initialized y.cls, .code y My.2.1 My.2.2.1 none] : List Cond), w ∈ kTb) ∧ (y.cls ≠ "java/lang/invoke/MethodHandle" ∧ y.cls ≠ "java/lang/invoke/VarHandle" ∧ (parseMethodDescriptor y.desc).map (fun d => d.parameters.length) = some n) ∧ y.name = "<init>" ∧ My.2.2.2 = none
theorem kSum (E : JE) : ∀ st : List JV, ((st.map (kTr E)).map fun v => v.category).sum = st.length := fun st => by
  induction st with
  | nil => rfl
  | cons v t ih => simp only [List.map_cons, List.sum_cons, kTr_cat, List.length_cons, ih]; omega
theorem kg_callI {n t n' t' mc ms index r : Nat} {σ' : Wd} {y : MethodName} {My : MI} {rmy : Room} {as : List JV} {stk : List JV} (hw : kIL M.1 index y My as.length) (hM : kMc E0 y My rmy (.inr r :: as) n t σ n' t' σ' mc ms) (hstk : as.reverse ++ .inr r :: st = stk) (hnn : n = n0 + cl) (hn1 : n ≤ 1000) (hn2 : n' ≤ 1000) (hroom : (rmy.cells = mc ∧ rmy.slots = ms) ∧ rmy.frames + 1 ≤ rm.frames ∧ 8 + (My.2.2.1 + 11) + rmy.locals ≤ rm.locals) (hlen : st.length ≤ 8) (hf : cl + mc ≤ rm.cells ∧ sl + ms ≤ rm.slots) (hd : decode M.2.1 pc = .ok (.invokespecial index, 3)) (hp : pc + 3 = pc')
    (kk : KG (kEt E0 n' t') M rm nm n0 pc' ls st σ' (cl + mc) (sl + ms) Z) : KG (kEt E0 n t) M rm nm n0 pc ls stk σ cl sl Z := by
  subst hp hstk
  intro p l e s m args below meth c H locs la C hN hG hP hS hla
  refine kg_ws (E := kEt E0 n t) hG hnn hn1 hP hS (fun hz => ?_)
  obtain ⟨hw1, hd1, hin, hret⟩ := hw
  have hM' := hM l
  rw [hret] at hM'
  have w1 := hw1 (Cond.methodLink M.1 index y) (by simp)
  have w2 := hw1 (Cond.instanceMethod y) (by simp)
  have w3 := hw1 (Cond.initialized y.cls) (by simp)
  have w4 := hw1 (Cond.code y My.2.1 My.2.2.1 none) (by simp)
  have hts := C.2.2.2.2.2.2.1
  have hk2 := fun (H1 : Heap) (locs1 : List Loc) (hP1 : kHp (kEt E0 n' t') σ' H1) (hS1 : va_S (fun q => E0.1 ≤ q) s.heap H1 locs1) => kk p l e s m args below meth c H1 locs1 la (by obtain ⟨c1, c2, c3, c4, c5, c6, c7, c8, c9, c10, c11⟩ := C; exact ⟨c1, c2, c3, c4, c5, c6, c7, c8, c9, ⟨hn2, c10.2⟩, c11⟩) hN hG hP1 hS1 (by rw [kLv_et] at hla ⊢; exact hla)
  rw [kTr_et] at hk2 ⊢
  have hrun := va_runI (p := p) (l := l) (e := e) (R := rm) (s := s) (m := m) (args := args) (below := below) (meth := meth) (c := c) (H := H) (locs := locs) (cells := cl) (slots := sl) (g := F0 m pc la ((as.reverse ++ .inr r :: st).map (kTr E0))) (As := as.map (kTr E0)) (b := kAd E0 r) (rest := st.map (kTr E0)) ⟨C.1, C.2.1, C.2.2.2.2.1, C.2.2.2.2.2.1, hts⟩ hM' (cwI as.length hts (kGoodC w4) rfl hroom.1.1 hroom.1.2 (hts _ w3) (hts _ w1) (hts _ w2) hin hd1 hroom.2) ⟨fun a U g mk h => by
      obtain ⟨h0, ⟨h1, h2, h3, h4, h5⟩, h6⟩ := h
      exact ⟨h0, ⟨h1, h2, va_K.moved (u := U) (U := U.calling g mk a) (Vm.Alike.refl U.vm) h3, h4, h4.2 U (U.calling g mk a) (State.WarmedH.refl U) (fun _ _ => rfl) h5⟩, h6⟩, fun U hU hW => ⟨rfl, (kPre_in (E := kEt E0 n t) (as := []) C hP hS hU hW).2, by rw [hU]; exact hz⟩⟩ rfl (by simp) hla.1 (by simp [kTr]) (lv_room (by rw [kSum]; exact hlen)) hd hf
  intro T hT X
  obtain ⟨v, st₀, u, T', L, g0, X', hL, e1, e2, ⟨hv, hP', hsz⟩, go⟩ := hrun T hT X
  have hv' : v = none := Outcome.returned.inj hv
  subst hv'
  have hS' : va_S (fun q => E0.1 ≤ q) s.heap T'.heap (locs ++ L) := by
    refine ⟨Nat.le_trans hS.1 (by rw [e1, ← g0]; exact hsz), fun q h1 h2 => ?_, fun q hq => ?_⟩
    · rw [e1, hP'.2 q (Nat.not_le.mp h2)]
      exact (C.2.2.2.2.2.2.2.2.1.2 q (Nat.not_le.mp h2)).symm
    · rcases List.mem_append.mp hq with h | h
      · exact hS.2.2 q h
      · exact hL q h
  obtain ⟨t2, a1, b1⟩ := hk2 T'.heap (locs ++ L) (by rw [e1]; exact hP') hS' T' rfl X'
  exact ⟨t2, go t2 a1, b1⟩
/-- a call of a method that makes no cell -/
theorem kg_run {Qc : Option JV → Wd → Prop} {p : Program} {l : Launch} {e : Env} {s : State} {m : MethodId} {args : Array Value} {below : List Frame} {meth : Method} {c : Code} {H : Heap} {locs : List Loc} {la : Array Slot} {st0 : List Value} {a : Array Value}
    (C : kJC E M p s m args meth c) (hN : meth.name = nm) (hG : s.heap.size = E.1 + n0) (hS : va_S (fun q => E.1 ≤ q) s.heap H locs) (hla : lv_has la M.2.2.1 (kLv E 0 ls))
    (hr : va_Run p l e rm s m args below meth c H locs cl sl 0 0 (F0 m pc la st0) (st.map (kTr E)) (kQc E Qc a) (fun q => E.1 ≤ q))
    (kk : ∀ r σ', Qc r σ' → KG E M rm nm n0 (pc + 3) ls (r.toList ++ st) σ' cl sl Z) : W p l e rm s m args below meth c H locs cl sl (Z below args s) (F0 m pc la st0) := by
  intro T hT X
  obtain ⟨v, st₀, t, T', L, h0, X', hL, e1, e2, ⟨hsz, r, σ', hv, hq, hP'⟩, go⟩ := hr T hT X
  have hv' : v = r.map (kTr E) := Outcome.returned.inj hv
  subst hv'
  have hS' : va_S (fun q => E.1 ≤ q) s.heap T'.heap (locs ++ L) := by
    refine ⟨Nat.le_trans hS.1 (by rw [e1, ← h0]; exact hsz), fun q h1 h2 => ?_, fun q hq => ?_⟩
    · rw [e1, hP'.2 q (Nat.not_le.mp h2), C.2.2.2.2.2.2.2.2.1.2 q (Nat.not_le.mp h2)]
    · rcases List.mem_append.mp hq with h | h
      · exact hS.2.2 q h
      · exact hL q h
  have hst : (r.map (kTr E)).toList ++ st.map (kTr E) = (r.toList ++ st).map (kTr E) := by cases r <;> rfl
  rw [hst] at go
  obtain ⟨t2, a1, b1⟩ := kk r σ' hq p l e s m args below meth c T'.heap (locs ++ L) la C hN hG (by rw [e1]; exact hP') hS' hla T' rfl X'
  exact ⟨t2, go t2 a1, b1⟩
theorem kg_callV {index ci r : Nat} {y : MethodName} {My : MI} {rmy : Room} {as : List JV} {stk : List JV} {Qc : Option JV → Wd → Prop} (hw : kVL M.1 index y My as.length ci) (hM : kMt E y My rmy (.inr r :: as) σ Qc) (hk : kKd r = ci) (hn : r < E.2.2.2.2.1) (hstk : as.reverse ++ .inr r :: st = stk) (hroom : (rmy.cells = 0 ∧ rmy.slots = 0) ∧ rmy.frames + 1 ≤ rm.frames ∧ 8 + (My.2.2.1 + 11) + rmy.locals ≤ rm.locals) (hcl : cl ≤ rm.cells ∧ sl ≤ rm.slots) (hlen : st.length ≤ 8) (hd : decode M.2.1 pc = .ok (.invokevirtual index, 3)) (hp : pc + 3 = pc')
    (kk : ∀ v σ', Qc v σ' → KG E M rm nm n0 pc' ls (v.toList ++ st) σ' cl sl Z) : KG E M rm nm n0 pc ls stk σ cl sl Z := by
  subst hp hstk
  intro p l e s m args below meth c H locs la C hN hG hP hS hla
  obtain ⟨hw1, hd1, ⟨q, hq1, hq2⟩, hci⟩ := hw
  have he := kWl_at (σ := σ) hn
  rw [kEl_obj hk hci] at he
  have hG' : GoodIn kTb (wsV M.1 index y.cls y (Cond.code y My.2.1 My.2.2.1 My.2.2.2 :: kTb)) := kGood (fun w h => by
    simp only [wsV, List.mem_append, List.mem_cons, List.not_mem_nil, or_false] at h
    rcases h with (rfl | rfl | rfl | rfl) | rfl | h
    · exact hw1 _ (by simp)
    · exact hw1 _ (by simp)
    · exact hw1 _ (by simp)
    · exact hw1 _ (by simp)
    · exact hw1 _ (by simp)
    · exact h)
  have hrec := va_recv C.2.2.2.2.2.2.2.1 hP.1 hq1 he
  rw [hq2] at hrec
  refine kg_run C hN hG hS hla (va_runV (As := as.map (kTr E)) (b := kAd E r) (rest := st.map (kTr E)) ⟨C.1, C.2.1, C.2.2.2.2.1, C.2.2.2.2.2.1, C.2.2.2.2.2.2.1⟩ (hM l) (cwV as.length C.2.2.2.2.2.2.1 hG' rfl hroom.1.1 hroom.1.2 ⟨rfl, hd1⟩ hroom.2) ⟨kPre_blind _, hrec, fun U hU hW => kPre_in (as := .inr r :: as) C hP hS hU hW⟩ rfl (by simp) hla.1 (by simp [kTr]) (lv_room (by rw [kSum]; exact hlen)) hd ⟨hcl.1, hcl.2⟩) kk
theorem kg_callS {index : Nat} {y : MethodName} {My : MI} {rmy : Room} {as : List JV} {stk : List JV} {Qc : Option JV → Wd → Prop} (hw : kSL M.1 index y My as.length) (hM : kMt E y My rmy as σ Qc) (hstk : as.reverse ++ st = stk) (hroom : (rmy.cells = 0 ∧ rmy.slots = 0) ∧ rmy.frames + 1 ≤ rm.frames ∧ 8 + (My.2.2.1 + 11) + rmy.locals ≤ rm.locals) (hcl : cl ≤ rm.cells ∧ sl ≤ rm.slots) (hlen : st.length ≤ 8) (hd : decode M.2.1 pc = .ok (.invokestatic index, 3)) (hp : pc + 3 = pc')
    (kk : ∀ v σ', Qc v σ' → KG E M rm nm n0 pc' ls (v.toList ++ st) σ' cl sl Z) : KG E M rm nm n0 pc ls stk σ cl sl Z := by
  subst hp hstk
  intro p l e s m args below meth c H locs la C hN hG hP hS hla
  obtain ⟨hw1, hd1⟩ := hw
  have hG' : GoodIn kTb (va_wsS M.1 index y (Cond.code y My.2.1 My.2.2.1 My.2.2.2 :: kTb)) := kGood (fun w h => by
    simp only [va_wsS, List.mem_append, List.mem_cons, List.not_mem_nil, or_false] at h
    rcases h with (rfl | rfl | rfl) | rfl | h
    · exact hw1 _ (by simp)
    · exact hw1 _ (by simp)
    · exact hw1 _ (by simp)
    · exact hw1 _ (by simp)
    · exact h)
  refine kg_run C hN hG hS hla (va_runS (As := as.map (kTr E)) (rest := st.map (kTr E)) ⟨C.1, C.2.1, C.2.2.2.2.1, C.2.2.2.2.2.1, C.2.2.2.2.2.2.1⟩ (hM l) (va_cwS as.length C.2.2.2.2.2.2.1 hG' rfl hroom.1.1 hroom.1.2 hd1 hroom.2) ⟨kPre_blind _, fun U hU hW => kPre_in (as := as) C hP hS hU hW⟩ rfl (by simp) hla.1 (by simp) (lv_room (by rw [kSum]; exact hlen)) hd ⟨hcl.1, hcl.2⟩) kk
end KGR
