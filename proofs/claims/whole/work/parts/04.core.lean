/-! ===== one world of places: kinds (0 .. 11 a class of vwCl; 20 int[], 21 boolean[], 22 byte[], 23 State[]), lengths, refs; what varies are ints alone ===== -/
abbrev Wd : Type := Nat → Nat → Int32
abbrev JV : Type := Int32 ⊕ Nat
def ushr (x y : Int32) : Int32 := (x.toUInt32 >>> (y.toUInt32 &&& Int32.toUInt32 31)).toInt32
/-- base, heap below it, class numbers and slots, array classes, how many places, addresses of texts, what else is known, which refs are set -/
abbrev JE : Type := Nat × Heap × va_G × (Nat → ClassId) × Nat × (Nat → Nat) × (State → Prop) × (Nat → Nat → Bool)
abbrev MI : Type := String × ByteArray × Nat × Option FieldType
def kKdL : List Nat := [10, 7, 4, 20, 4, 20, 20, 7, 4, 20, 4, 20, 20, 1, 23, 7, 4, 20, 4, 20, 20, 7, 4, 20, 4, 20, 20, 7, 4, 20, 4, 20, 20, 7, 4, 20, 4, 20, 20, 7, 4, 20, 4, 20, 20, 7, 4, 20, 4, 20, 20, 7, 4, 20, 4, 20, 20, 7, 4, 20, 4, 20, 20, 7, 4, 20, 4, 20, 20, 7, 4, 20, 4, 20, 20, 7, 4, 20, 4, 20, 20, 7, 4, 20, 4, 20, 20, 4, 20, 3, 5, 4, 20, 0, 20, 4, 20, 4, 20, 20, 20, 20, 20, 2, 20, 20, 20, 6, 20, 20, 20, 20, 8, 4, 20, 20, 9, 20, 20, 20, 11, 20, 20, 20, 20, 21, 20, 20, 21, 20, 20, 20, 20, 20, 21, 20, 20, 20, 20, 22]
def kLnL : List Nat := [0, 0, 0, 12, 0, 20, 7, 0, 0, 12, 0, 20, 7, 0, 12, 0, 0, 12, 0, 20, 7, 0, 0, 12, 0, 20, 7, 0, 0, 12, 0, 20, 7, 0, 0, 12, 0, 20, 7, 0, 0, 12, 0, 20, 7, 0, 0, 12, 0, 20, 7, 0, 0, 12, 0, 20, 7, 0, 0, 12, 0, 20, 7, 0, 0, 12, 0, 20, 7, 0, 0, 12, 0, 20, 7, 0, 0, 12, 0, 20, 7, 0, 0, 12, 0, 20, 7, 0, 300, 0, 0, 0, 300, 0, 128, 0, 128, 0, 128, 128, 128, 128, 7, 0, 128, 128, 128, 0, 128, 128, 128, 128, 0, 0, 128, 128, 0, 128, 7, 7, 0, 42, 42, 504, 20, 128, 128, 128, 128, 128, 128, 128, 128, 128, 128, 128, 7, 400, 300, 18]
def kRfL : List (List Nat) := [[1, 7, 13, 87, 89, 90, 93, 103, 107, 112, 116, 119], [2, 4, 6, 0], [3, 0], [], [5, 0], [], [], [8, 10, 12, 0], [9, 0], [], [11, 0], [], [], [14, 0, 0], [15, 21, 27, 33, 39, 45, 51, 57, 63, 69, 75, 81], [16, 18, 20, 0], [17, 0], [], [19, 0], [], [], [22, 24, 26, 0], [23, 0], [], [25, 0], [], [], [28, 30, 32, 0], [29, 0], [], [31, 0], [], [], [34, 36, 38, 0], [35, 0], [], [37, 0], [], [], [40, 42, 44, 0], [41, 0], [], [43, 0], [], [], [46, 48, 50, 0], [47, 0], [], [49, 0], [], [], [52, 54, 56, 0], [53, 0], [], [55, 0], [], [], [58, 60, 62, 0], [59, 0], [], [61, 0], [], [], [64, 66, 68, 0], [65, 0], [], [67, 0], [], [], [70, 72, 74, 0], [71, 0], [], [73, 0], [], [], [76, 78, 80, 0], [77, 0], [], [79, 0], [], [], [82, 84, 86, 0], [83, 0], [], [85, 0], [], [], [88, 0], [], [87, 7, 0, 0], [91], [92, 0], [], [94, 95, 97, 99, 100, 101, 102, 0], [], [96, 0], [], [98, 0], [], [], [], [], [], [93, 104, 105, 106, 0], [], [], [], [95, 108, 109, 110, 111, 0], [], [], [], [], [93, 113, 115], [114, 0], [], [], [93, 117, 118], [], [], [], [0, 121, 122, 123, 0, 124, 0, 125, 126, 127, 0, 128, 129, 130, 131, 132, 133, 134, 135, 136, 137, 0, 138, 0, 139, 0, 0, 0, 0, 0], [], [], [], [], [], [], [], [], [], [], [], [], [], [], [], [], [], [], []]
def kKd (k : Nat) : Nat := kKdL.getD k 99
def kLn (k : Nat) : Nat := kLnL.getD k 0
def kRf (k i : Nat) : Nat := (kRfL.getD k []).getD i 0
def kFk (ci : Nat) : List Bool := match ci with
  | 0 => [false, false, false, false, false, false, false, true]
  | 1 => [false, true, true]
  | 2 => [false, false, false, false, true]
  | 3 => [false, false, true, true]
  | 4 => [false, true]
  | 5 => [false]
  | 6 => [false, false, false, false, false, true]
  | 7 => [false, false, false, true]
  | 8 => [false, false, false]
  | 9 => [false, false, false]
  | 10 => [false, false, false, false, false, false, false, false, false, false, false, false]
  | 11 => [true, false, false, false, true, false, true, false, false, false, true, false, false, false, false, false, false, false, false, false, false, true, false, true, false, true, true, true, true, true]
  | _ => []
def kAd (E : JE) (k : Nat) : Nat := if k < 1000 then E.1 + k else E.2.2.2.2.2.1 (k - 1000)
def kTr (E : JE) (v : JV) : Value := match v with
  | .inl x => .int x
  | .inr k => .ref (kAd E k)
theorem kTr_cat (E : JE) (v : JV) : (kTr E v).category = 1 := by cases v <;> rfl
def kFl (E : JE) (σ : Wd) (k : Nat) : List Value := (kFk (kKd k)).mapIdx (fun i b => if b = true then Value.int (σ k i) else if E.2.2.2.2.2.2.2 k i = true then Value.ref (kAd E (kRf k i)) else Value.null)
def kEl (E : JE) (σ : Wd) (k : Nat) : va_E :=
  if kKd k < 20 then .inr (kKd k, kFl E σ k)
  else if kKd k = 23 then .inl (E.2.2.2.1 3, kLn k, .inr (.inr (.inr (.inr (fun j => if E.2.2.2.2.2.2.2 k j = true then some (kAd E (kRf k j)) else none)))))
  else .inl (E.2.2.2.1 (kKd k - 20), kLn k, .inl (σ k))
def kWl (E : JE) (σ : Wd) : va_W := (List.range E.2.2.2.2.1).map (fun k => (kAd E k, kEl E σ k))
def kTys (E : JE) : List (ClassId × FieldType) := [(E.2.2.2.1 0, .int), (E.2.2.2.1 1, .boolean), (E.2.2.2.1 2, .byte), (E.2.2.2.1 3, .object "UnionFamilies$State")]
def kHp (E : JE) (σ : Wd) (H : Heap) : Prop := va_P E.2.2.1 vwCl (kWl E σ) H ∧ ∀ q : Nat, q < E.1 → H[q]? = E.2.1[q]?
def kEok (E : JE) : Prop := E.2.2.2.2.1 ≤ 1000 ∧ ∀ (u U : State), u.WarmedH U.vm → (∀ q : Nat, q < E.1 → U.heap[q]? = u.heap[q]?) → E.2.2.2.2.2.2.1 u → E.2.2.2.2.2.2.1 U
def up (σ : Wd) (a i : Nat) (x : Int32) : Wd := fun q => if q = a then upd (σ a) i x else σ q
theorem up_at (σ : Wd) (a i : Nat) (x : Int32) : up σ a i x a = upd (σ a) i x := if_pos rfl
theorem up_ne (σ : Wd) {a q : Nat} (i : Nat) (x : Int32) (h : q ≠ a) : up σ a i x q = σ q := if_neg h
theorem kWl_at {E : JE} {σ : Wd} {k : Nat} (h : k < E.2.2.2.2.1) : (kWl E σ)[k]? = some (kAd E k, kEl E σ k) := by
  simp [kWl, h]
theorem kWl_lt {E : JE} {σ : Wd} {k : Nat} {q : Nat × va_E} (h : (kWl E σ)[k]? = some q) : k < E.2.2.2.2.1 ∧ q = (kAd E k, kEl E σ k) := by
  by_cases hk : k < E.2.2.2.2.1
  · rw [kWl_at hk] at h
    exact ⟨hk, (Option.some.inj h).symm⟩
  · simp [kWl, hk] at h
theorem kEl_eq {E : JE} {σ σ' : Wd} {k : Nat} (h : σ' k = σ k) : kEl E σ' k = kEl E σ k := by
  simp only [kEl, kFl, h]
theorem kWl_set {E : JE} {σ σ' : Wd} {a : Nat} (h : ∀ q, q ≠ a → σ' q = σ q) : (kWl E σ).set a (kAd E a, kEl E σ' a) = kWl E σ' := by
  apply List.ext_getElem?
  intro i
  by_cases hi : i < E.2.2.2.2.1
  · rw [kWl_at hi]
    by_cases ha : i = a
    · subst ha
      rw [List.getElem?_set_self (by simp [kWl, hi])]
    · rw [List.getElem?_set_ne (Ne.symm ha), kWl_at hi, kEl_eq (h i ha)]
  · have e1 : (kWl E σ').length ≤ i := by simp [kWl]; omega
    have e2 : ((kWl E σ).set a (kAd E a, kEl E σ' a)).length ≤ i := by simp [kWl]; omega
    rw [List.getElem?_eq_none e1, List.getElem?_eq_none e2]
theorem kD {E : JE} (h : E.2.2.2.2.1 ≤ 1000) (σ : Wd) : va_D (fun q => E.1 ≤ q) (kWl E σ) := by
  refine ⟨fun i j p q hi hj hpq => ?_, fun k q hk => ?_⟩
  · obtain ⟨h1, rfl⟩ := kWl_lt hi
    obtain ⟨h2, rfl⟩ := kWl_lt hj
    simp only [kAd] at hpq
    rw [if_pos (by omega), if_pos (by omega)] at hpq
    omega
  · obtain ⟨h1, rfl⟩ := kWl_lt hk
    show E.1 ≤ kAd E k
    simp only [kAd]
    rw [if_pos (by omega)]
    omega
/-! locals by their places -/
def kLv (E : JE) : Nat → List (Option JV) → List (Nat × Value)
  | _, [] => []
  | i, none :: r => kLv E (i + 1) r
  | i, some v :: r => (i, kTr E v) :: kLv E (i + 1) r
def lput : List (Option JV) → Nat → JV → List (Option JV)
  | [], 0, v => [some v]
  | [], n + 1, v => none :: lput [] n v
  | _ :: r, 0, v => some v :: r
  | x :: r, n + 1, v => x :: lput r n v
theorem kLv_mem {E : JE} {q : Nat × Value} : ∀ (ls : List (Option JV)) (i : Nat), q ∈ kLv E i ls ↔ ∃ j v, ls[j]? = some (some v) ∧ q = (i + j, kTr E v)
  | [], i => by simp [kLv]
  | none :: r, i => by
    rw [kLv, kLv_mem r (i + 1)]
    constructor
    · rintro ⟨j, v, h1, h2⟩
      exact ⟨j + 1, v, by simpa using h1, by rw [h2]; congr 1; omega⟩
    · rintro ⟨j, v, h1, h2⟩
      cases j with
      | zero => simp at h1
      | succ j => exact ⟨j, v, by simpa using h1, by rw [h2]; congr 1; omega⟩
  | some w :: r, i => by
    rw [kLv, List.mem_cons, kLv_mem r (i + 1)]
    constructor
    · rintro (h | ⟨j, v, h1, h2⟩)
      · exact ⟨0, w, by simp, by rw [h]; rfl⟩
      · exact ⟨j + 1, v, by simpa using h1, by rw [h2]; congr 1; omega⟩
    · rintro ⟨j, v, h1, h2⟩
      cases j with
      | zero =>
        simp at h1
        exact Or.inl (by rw [h2, h1]; rfl)
      | succ j => exact Or.inr ⟨j, v, by simpa using h1, by rw [h2]; congr 1; omega⟩
theorem lput_get : ∀ (ls : List (Option JV)) (i : Nat) (v : JV) (j : Nat) (w : JV), (lput ls i v)[j]? = some (some w) → (j = i ∧ w = v) ∨ (j ≠ i ∧ ls[j]? = some (some w))
  | [], 0, v, 0, w, h => by simp [lput] at h; exact Or.inl ⟨rfl, h.symm⟩
  | [], 0, v, j + 1, w, h => by simp [lput] at h
  | [], n + 1, v, 0, w, h => by simp [lput] at h
  | [], n + 1, v, j + 1, w, h => by
    rw [lput, List.getElem?_cons_succ] at h
    rcases lput_get [] n v j w h with ⟨h1, h2⟩ | ⟨h1, h2⟩
    · exact Or.inl ⟨by omega, h2⟩
    · simp at h2
  | x :: r, 0, v, 0, w, h => by simp [lput] at h; exact Or.inl ⟨rfl, h.symm⟩
  | x :: r, 0, v, j + 1, w, h => by
    rw [lput, List.getElem?_cons_succ] at h
    exact Or.inr ⟨by omega, by rw [List.getElem?_cons_succ]; exact h⟩
  | x :: r, n + 1, v, 0, w, h => by
    rw [lput, List.getElem?_cons_zero] at h
    exact Or.inr ⟨by omega, by rw [List.getElem?_cons_zero]; exact h⟩
  | x :: r, n + 1, v, j + 1, w, h => by
    rw [lput, List.getElem?_cons_succ] at h
    rcases lput_get r n v j w h with ⟨h1, h2⟩ | ⟨h1, h2⟩
    · exact Or.inl ⟨by omega, h2⟩
    · exact Or.inr ⟨by omega, by rw [List.getElem?_cons_succ]; exact h2⟩
theorem kLv_put {E : JE} {la : Array Slot} {nL i : Nat} {ls : List (Option JV)} {v : JV} (h : lv_has la nL ((i, kTr E v) :: (kLv E 0 ls).filter (fun q => !(q.1 == i) && !(q.1 + 1 == i && q.2.category == 2)))) : lv_has la nL (kLv E 0 (lput ls i v)) := by
  refine ⟨h.1, h.2.1, fun q hq => ?_⟩
  obtain ⟨j, w, h1, rfl⟩ := (kLv_mem _ _).mp hq
  rcases lput_get ls i v j w h1 with ⟨rfl, rfl⟩ | ⟨h2, h3⟩
  · exact h.2.2 _ (by simp)
  · refine h.2.2 _ (List.mem_cons_of_mem _ (List.mem_filter.mpr ⟨(kLv_mem _ _).mpr ⟨j, w, h3, rfl⟩, ?_⟩))
    simp [kTr_cat, h2]
theorem kLv_at {E : JE} {la : Array Slot} {nL : Nat} {ls : List (Option JV)} {i : Nat} {v : JV} (h : lv_has la nL (kLv E 0 ls)) (hi : ls[i]? = some (some v)) : la[i]? = some (.val (kTr E v)) :=
  h.2.2 (i, kTr E v) ((kLv_mem _ _).mpr ⟨i, v, hi, by simp⟩)
/-- fewer locals -/
def lkeep : List Bool → List (Option JV) → List (Option JV)
  | true :: bs, x :: r => x :: lkeep bs r
  | false :: bs, _ :: r => none :: lkeep bs r
  | _, _ => []
theorem lkeep_get : ∀ (bs : List Bool) (ls : List (Option JV)) (j : Nat) (w : JV), (lkeep bs ls)[j]? = some (some w) → ls[j]? = some (some w)
  | [], ls, j, w, h => by simp [lkeep] at h
  | b :: bs, [], j, w, h => by cases b <;> simp [lkeep] at h
  | true :: bs, x :: r, 0, w, h => by simpa [lkeep] using h
  | false :: bs, x :: r, 0, w, h => by simp [lkeep] at h
  | true :: bs, x :: r, j + 1, w, h => by
    rw [lkeep, List.getElem?_cons_succ] at h
    rw [List.getElem?_cons_succ]
    exact lkeep_get bs r j w h
  | false :: bs, x :: r, j + 1, w, h => by
    rw [lkeep, List.getElem?_cons_succ] at h
    rw [List.getElem?_cons_succ]
    exact lkeep_get bs r j w h
/-! the judgement -/
def kJC (E : JE) (M : MI) (p : Program) (s : State) (m : MethodId) (args : Array Value) (meth : Method) (c : Code) : Prop :=
  p.tables.exec = Jvm.exec ∧ c.code = M.2.1 ∧ meth.sig.returnType = M.2.2.2 ∧ meth.locks = false ∧ c.maxLocals = M.2.2.1 ∧ s.vm.findClass M.1 = some m.cls ∧ (∀ w ∈ kTb, w.before args s = true) ∧ va_K E.2.2.1 vwCl (kTys E) s ∧ (E.1 ≤ s.heap.size ∧ ∀ q : Nat, q < E.1 → s.heap[q]? = E.2.1[q]?) ∧ kEok E ∧ E.2.2.2.2.2.2.1 s
def kQc (E : JE) (Q : Option JV → Wd → Prop) : Array Value → State → Outcome → State → Prop := fun _ st oc t => st.heap.size ≤ t.heap.size ∧ ∃ (r : Option JV) (σ : Wd), oc = .returned (r.map (kTr E)) ∧ Q r σ ∧ kHp E σ t.heap
def KJ (E : JE) (M : MI) (rm : Room) (pc : Nat) (ls : List (Option JV)) (st : List JV) (σ : Wd) (Q : Option JV → Wd → Prop) : Prop :=
  ∀ (p : Program) (l : Launch) (e : Env) (s : State) (m : MethodId) (args : Array Value) (below : List Frame) (meth : Method) (c : Code) (H : Heap) (locs : List Loc) (la : Array Slot),
    kJC E M p s m args meth c → kHp E σ H → va_S (fun q => E.1 ≤ q) s.heap H locs → lv_has la M.2.2.1 (kLv E 0 ls) →
    W p l e rm s m args below meth c H locs 0 0 (MQ below (kQc E Q) args s 0 0 (fun q => E.1 ≤ q)) (F0 m pc la (st.map (kTr E)))
def kPre (E : JE) (σ : Wd) (U : State) : Prop := kHp E σ U.heap ∧ E.1 ≤ U.heap.size ∧ va_K E.2.2.1 vwCl (kTys E) U ∧ kEok E ∧ E.2.2.2.2.2.2.1 U
/-- a method's contract -/
def kMt (E : JE) (y : MethodName) (M : MI) (rm : Room) (as : List JV) (σ : Wd) (Q : Option JV → Wd → Prop) : Prop :=
  ∀ l : Launch, Met l y (Cond.code y M.2.1 M.2.2.1 M.2.2.2 :: kTb) rm (va_Pc (as.map (kTr E)) (kPre E σ)) (kQc E Q) 0 0 (fun q => E.1 ≤ q)
theorem kSl (E : JE) : ∀ as : List JV, lg_sl (as.map (kTr E)) = (as.map (kTr E)).map Slot.val
  | [] => rfl
  | v :: r => by
    have h := kSl E r
    have hc := kTr_cat E v
    simp only [lg_sl, List.map_cons, List.flatMap_cons] at h ⊢
    rw [h, hc]
    simp
theorem kArgs (E : JE) : ∀ (as : List JV) (i : Nat), lv_args i (as.map (kTr E)) = kLv E i (as.map some)
  | [], i => rfl
  | v :: r, i => by
    have h := kArgs E r (i + 1)
    have hc := kTr_cat E v
    simp only [List.map_cons, lv_args, kLv, hc]
    rw [if_neg (by decide), h]
theorem kMt_of {E : JE} {y : MethodName} {M : MI} {rm : Room} {as : List JV} {σ : Wd} {Q : Option JV → Wd → Prop} (hy : plainFor y = true) (hM : M.1 = y.cls) (hl : as.length ≤ M.2.2.1) (h : KJ E M rm 0 (as.map some) [] σ Q) : kMt E y M rm as σ Q := by
  intro l
  refine va_MetF (cc := M.2.1) (maxL := M.2.2.1) (ret := M.2.2.2) hy rfl ?_
  intro p e s m args below meth c s₁ B hml hv
  obtain ⟨rfl, hP, hsz, hK, hE, hX⟩ := hv
  have hts : ∀ w ∈ Cond.code y M.2.1 M.2.2.1 M.2.2.2 :: kTb, w.before ((as.map (kTr E)).toArray) s = true := atoms_spec (ws := Cond.code y M.2.1 M.2.2.1 M.2.2.2 :: kTb) B.pre
  have hown : s.vm.findClass M.1 = some m.cls := by rw [hM]; exact findClass_of_methodNamed B.named
  have hle := lv_entry (as.map (kTr E)) (n := M.2.2.1) (by rw [kSl]; simpa using hl)
  rw [kArgs] at hle
  rw [lg_entry_eq]
  exact h p l e s m _ below meth c s.heap [] _ ⟨B.exec, B.bytes, B.returns, B.notSynchronized, hml, hown, fun w hw => hts w (List.mem_cons_of_mem _ hw), hK, ⟨hsz, hP.2⟩, hE, hX⟩ hP va_S.rf hle
/-! rows that read and write no cell -/
section KROWS
variable {E : JE} {M : MI} {rm : Room} {pc pc' : Nat} {ls ls' : List (Option JV)} {st : List JV} {σ : Wd} {Q : Option JV → Wd → Prop}
theorem kj_keep (bs : List Bool) (h : lkeep bs ls = ls') (k : KJ E M rm pc ls' st σ Q) : KJ E M rm pc ls st σ Q := by
  subst h
  intro p l e s m args below meth c H locs la C hP hS hl
  refine k p l e s m args below meth c H locs la C hP hS ⟨hl.1, hl.2.1, fun q hq => ?_⟩
  obtain ⟨j, w, h1, rfl⟩ := (kLv_mem _ _).mp hq
  exact hl.2.2 _ ((kLv_mem _ _).mpr ⟨j, w, lkeep_get bs ls j w h1, rfl⟩)
theorem kj_iload_n {k : Fin 4} {i : Nat} {x : Int32} (hd : decode M.2.1 pc = .ok (.iload_n k, 1)) (hp : pc + 1 = pc') (hi : (k : Nat) = i) (hl : ls[i]? = some (some (.inl x))) (kk : KJ E M rm pc' ls (.inl x :: st) σ Q) : KJ E M rm pc ls st σ Q := by
  subst hp
  intro p l e s m args below meth c H locs la C hP hS hla
  exact lv_iload_n C.1 C.2.1 hd hi (kLv_at hla hl) (kk p l e s m args below meth c H locs la C hP hS hla)
theorem kj_iload {i : Nat} {x : Int32} (hd : decode M.2.1 pc = .ok (.iload i, 2)) (hp : pc + 2 = pc') (hl : ls[i]? = some (some (.inl x))) (kk : KJ E M rm pc' ls (.inl x :: st) σ Q) : KJ E M rm pc ls st σ Q := by
  subst hp
  intro p l e s m args below meth c H locs la C hP hS hla
  exact lv_iload C.1 C.2.1 hd (kLv_at hla hl) (kk p l e s m args below meth c H locs la C hP hS hla)
theorem kj_aload_n {k : Fin 4} {i : Nat} {x : Nat} (hd : decode M.2.1 pc = .ok (.aload_n k, 1)) (hp : pc + 1 = pc') (hi : (k : Nat) = i) (hl : ls[i]? = some (some (.inr x))) (kk : KJ E M rm pc' ls (.inr x :: st) σ Q) : KJ E M rm pc ls st σ Q := by
  subst hp
  intro p l e s m args below meth c H locs la C hP hS hla
  exact lv_aload_n C.1 C.2.1 hd hi (kLv_at hla hl) (kk p l e s m args below meth c H locs la C hP hS hla)
theorem kj_istore_n {k : Fin 4} {i : Nat} {x : Int32} (hd : decode M.2.1 pc = .ok (.istore_n k, 1)) (hp : pc + 1 = pc') (hi : (k : Nat) = i) (hn : i < M.2.2.1) (hl : lput ls i (.inl x) = ls') (kk : KJ E M rm pc' ls' st σ Q) : KJ E M rm pc ls (.inl x :: st) σ Q := by
  subst hp hl
  intro p l e s m args below meth c H locs la C hP hS hla
  exact lv_istore_n C.1 C.2.1 hd hi hla hn rfl (fun la' h' => kk p l e s m args below meth c H locs la' C hP hS (kLv_put (v := .inl x) h'))
theorem kj_istore {i : Nat} {x : Int32} (hd : decode M.2.1 pc = .ok (.istore i, 2)) (hp : pc + 2 = pc') (hn : i < M.2.2.1) (hl : lput ls i (.inl x) = ls') (kk : KJ E M rm pc' ls' st σ Q) : KJ E M rm pc ls (.inl x :: st) σ Q := by
  subst hp hl
  intro p l e s m args below meth c H locs la C hP hS hla
  exact lv_istore C.1 C.2.1 hd hla hn rfl (fun la' h' => kk p l e s m args below meth c H locs la' C hP hS (kLv_put (v := .inl x) h'))
theorem kj_astore_n {k : Fin 4} {i : Nat} {x : Nat} (hd : decode M.2.1 pc = .ok (.astore_n k, 1)) (hp : pc + 1 = pc') (hi : (k : Nat) = i) (hn : i < M.2.2.1) (hl : lput ls i (.inr x) = ls') (kk : KJ E M rm pc' ls' st σ Q) : KJ E M rm pc ls (.inr x :: st) σ Q := by
  subst hp hl
  intro p l e s m args below meth c H locs la C hP hS hla
  exact lv_astore_n C.1 C.2.1 hd hi hla hn rfl (fun la' h' => kk p l e s m args below meth c H locs la' C hP hS (kLv_put (v := .inr x) h'))
theorem kj_iinc {i : Nat} {n : Int} {x v : Int32} (hd : decode M.2.1 pc = .ok (.iinc i n, 3)) (hp : pc + 3 = pc') (hx : ls[i]? = some (some (.inl x))) (hv : x + Int32.ofInt n = v) (hn : i < M.2.2.1) (hl : lput ls i (.inl v) = ls') (kk : KJ E M rm pc' ls' st σ Q) : KJ E M rm pc ls st σ Q := by
  subst hp hl
  intro p l e s m args below meth c H locs la C hP hS hla
  obtain ⟨k, hk⟩ := List.getElem?_of_mem ((kLv_mem (E := E) (q := (i, .int x)) ls 0).mpr ⟨i, .inl x, hx, by simp [kTr]⟩)
  exact lv_iinc C.1 C.2.1 hd hla hk hv hn rfl (fun la' h' => kk p l e s m args below meth c H locs la' C hP hS (kLv_put (v := .inl v) h'))
theorem kj_iconst {n : Int} {v : Int32} (hd : decode M.2.1 pc = .ok (.iconst n, 1)) (hp : pc + 1 = pc') (hv : Int32.ofInt n = v) (kk : KJ E M rm pc' ls (.inl v :: st) σ Q) : KJ E M rm pc ls st σ Q := by
  subst hp
  intro p l e s m args below meth c H locs la C hP hS hla
  exact lv_iconst C.1 C.2.1 hd hv (kk p l e s m args below meth c H locs la C hP hS hla)
theorem kj_bipush {n : Int} {v : Int32} (hd : decode M.2.1 pc = .ok (.bipush n, 2)) (hp : pc + 2 = pc') (hv : (Int8.ofInt n).toInt32 = v) (kk : KJ E M rm pc' ls (.inl v :: st) σ Q) : KJ E M rm pc ls st σ Q := by
  subst hp
  intro p l e s m args below meth c H locs la C hP hS hla
  exact lv_bipush C.1 C.2.1 hd hv (kk p l e s m args below meth c H locs la C hP hS hla)
theorem kj_sipush {n : Int} {v : Int32} (hd : decode M.2.1 pc = .ok (.sipush n, 3)) (hp : pc + 3 = pc') (hv : (Int16.ofInt n).toInt32 = v) (kk : KJ E M rm pc' ls (.inl v :: st) σ Q) : KJ E M rm pc ls st σ Q := by
  subst hp
  intro p l e s m args below meth c H locs la C hP hS hla
  exact lv_sipush C.1 C.2.1 hd hv (kk p l e s m args below meth c H locs la C hP hS hla)
theorem kj_ldc {index : Nat} {v : Int32} (hw : Cond.constant M.1 index v ∈ kTb) (hd : decode M.2.1 pc = .ok (.ldc index, 2)) (hp : pc + 2 = pc') (kk : KJ E M rm pc' ls (.inl v :: st) σ Q) : KJ E M rm pc ls st σ Q := by
  subst hp
  intro p l e s m args below meth c H locs la C hP hS hla
  exact lv_ldc C.1 C.2.1 C.2.2.2.2.2.1 (C.2.2.2.2.2.2.1 _ hw) hd (kk p l e s m args below meth c H locs la C hP hS hla)
theorem kj_ldc_w {index : Nat} {v : Int32} (hw : Cond.constant M.1 index v ∈ kTb) (hd : decode M.2.1 pc = .ok (.ldc_w index, 3)) (hp : pc + 3 = pc') (kk : KJ E M rm pc' ls (.inl v :: st) σ Q) : KJ E M rm pc ls st σ Q := by
  subst hp
  intro p l e s m args below meth c H locs la C hP hS hla
  exact lv_ldcw C.1 C.2.1 C.2.2.2.2.2.1 (C.2.2.2.2.2.2.1 _ hw) hd (kk p l e s m args below meth c H locs la C hP hS hla)
theorem kj_iadd {x y : Int32} (hd : decode M.2.1 pc = .ok (.iadd, 1)) (hp : pc + 1 = pc') (kk : KJ E M rm pc' ls (.inl (x + y) :: st) σ Q) : KJ E M rm pc ls (.inl y :: .inl x :: st) σ Q := by
  subst hp
  intro p l e s m args below meth c H locs la C hP hS hla
  exact lv_iadd C.1 C.2.1 hd (kk p l e s m args below meth c H locs la C hP hS hla)
theorem kj_isub {x y : Int32} (hd : decode M.2.1 pc = .ok (.isub, 1)) (hp : pc + 1 = pc') (kk : KJ E M rm pc' ls (.inl (x - y) :: st) σ Q) : KJ E M rm pc ls (.inl y :: .inl x :: st) σ Q := by
  subst hp
  intro p l e s m args below meth c H locs la C hP hS hla
  exact lv_isub C.1 C.2.1 hd (kk p l e s m args below meth c H locs la C hP hS hla)
theorem kj_imul {x y : Int32} (hd : decode M.2.1 pc = .ok (.imul, 1)) (hp : pc + 1 = pc') (kk : KJ E M rm pc' ls (.inl (x * y) :: st) σ Q) : KJ E M rm pc ls (.inl y :: .inl x :: st) σ Q := by
  subst hp
  intro p l e s m args below meth c H locs la C hP hS hla
  exact lv_imul C.1 C.2.1 hd (kk p l e s m args below meth c H locs la C hP hS hla)
theorem kj_iand {x y : Int32} (hd : decode M.2.1 pc = .ok (.iand, 1)) (hp : pc + 1 = pc') (kk : KJ E M rm pc' ls (.inl (x &&& y) :: st) σ Q) : KJ E M rm pc ls (.inl y :: .inl x :: st) σ Q := by
  subst hp
  intro p l e s m args below meth c H locs la C hP hS hla
  exact lv_iand C.1 C.2.1 hd (kk p l e s m args below meth c H locs la C hP hS hla)
theorem kj_ior {x y : Int32} (hd : decode M.2.1 pc = .ok (.ior, 1)) (hp : pc + 1 = pc') (kk : KJ E M rm pc' ls (.inl (x ||| y) :: st) σ Q) : KJ E M rm pc ls (.inl y :: .inl x :: st) σ Q := by
  subst hp
  intro p l e s m args below meth c H locs la C hP hS hla
  exact lv_ior C.1 C.2.1 hd (kk p l e s m args below meth c H locs la C hP hS hla)
theorem kj_ixor {x y : Int32} (hd : decode M.2.1 pc = .ok (.ixor, 1)) (hp : pc + 1 = pc') (kk : KJ E M rm pc' ls (.inl (x ^^^ y) :: st) σ Q) : KJ E M rm pc ls (.inl y :: .inl x :: st) σ Q := by
  subst hp
  intro p l e s m args below meth c H locs la C hP hS hla
  exact lv_ixor C.1 C.2.1 hd (kk p l e s m args below meth c H locs la C hP hS hla)
theorem kj_ishl {x y : Int32} (hd : decode M.2.1 pc = .ok (.ishl, 1)) (hp : pc + 1 = pc') (kk : KJ E M rm pc' ls (.inl (x <<< (y &&& 31)) :: st) σ Q) : KJ E M rm pc ls (.inl y :: .inl x :: st) σ Q := by
  subst hp
  intro p l e s m args below meth c H locs la C hP hS hla
  exact lv_ishl C.1 C.2.1 hd (kk p l e s m args below meth c H locs la C hP hS hla)
theorem kj_ishr {x y : Int32} (hd : decode M.2.1 pc = .ok (.ishr, 1)) (hp : pc + 1 = pc') (kk : KJ E M rm pc' ls (.inl (x >>> (y &&& 31)) :: st) σ Q) : KJ E M rm pc ls (.inl y :: .inl x :: st) σ Q := by
  subst hp
  intro p l e s m args below meth c H locs la C hP hS hla
  exact lv_ishr C.1 C.2.1 hd (kk p l e s m args below meth c H locs la C hP hS hla)
theorem kj_iushr {x y : Int32} (hd : decode M.2.1 pc = .ok (.iushr, 1)) (hp : pc + 1 = pc') (kk : KJ E M rm pc' ls (.inl (ushr x y) :: st) σ Q) : KJ E M rm pc ls (.inl y :: .inl x :: st) σ Q := by
  subst hp
  intro p l e s m args below meth c H locs la C hP hS hla
  exact lv_iushr C.1 C.2.1 hd rfl (kk p l e s m args below meth c H locs la C hP hS hla)
theorem kj_ineg {x : Int32} (hd : decode M.2.1 pc = .ok (.ineg, 1)) (hp : pc + 1 = pc') (kk : KJ E M rm pc' ls (.inl (-x) :: st) σ Q) : KJ E M rm pc ls (.inl x :: st) σ Q := by
  subst hp
  intro p l e s m args below meth c H locs la C hP hS hla
  exact lv_ineg C.1 C.2.1 hd (kk p l e s m args below meth c H locs la C hP hS hla)
theorem kj_idiv {x y : Int32} (hd : decode M.2.1 pc = .ok (.idiv, 1)) (hp : pc + 1 = pc') (hne : ¬ y = 0) (kk : KJ E M rm pc' ls (.inl (x / y) :: st) σ Q) : KJ E M rm pc ls (.inl y :: .inl x :: st) σ Q := by
  subst hp
  intro p l e s m args below meth c H locs la C hP hS hla
  exact lv_idiv C.1 C.2.1 hd hne (kk p l e s m args below meth c H locs la C hP hS hla)
theorem kj_irem {x y : Int32} (hd : decode M.2.1 pc = .ok (.irem, 1)) (hp : pc + 1 = pc') (hne : ¬ y = 0) (kk : KJ E M rm pc' ls (.inl (x % y) :: st) σ Q) : KJ E M rm pc ls (.inl y :: .inl x :: st) σ Q := by
  subst hp
  intro p l e s m args below meth c H locs la C hP hS hla
  refine lv_irem C.1 C.2.1 hd hne ?_
  rw [irem_eq_mod]
  exact (kk p l e s m args below meth c H locs la C hP hS hla)
theorem kj_dup {v : JV} (hd : decode M.2.1 pc = .ok (.dup, 1)) (hp : pc + 1 = pc') (kk : KJ E M rm pc' ls (v :: v :: st) σ Q) : KJ E M rm pc ls (v :: st) σ Q := by
  subst hp
  intro p l e s m args below meth c H locs la C hP hS hla
  exact lv_dup C.1 C.2.1 hd (kTr_cat E v) (kk p l e s m args below meth c H locs la C hP hS hla)
theorem kj_dup2 {v w : JV} (hd : decode M.2.1 pc = .ok (.dup2, 1)) (hp : pc + 1 = pc') (kk : KJ E M rm pc' ls (v :: w :: v :: w :: st) σ Q) : KJ E M rm pc ls (v :: w :: st) σ Q := by
  subst hp
  intro p l e s m args below meth c H locs la C hP hS hla
  exact lv_dup2_11 C.1 C.2.1 hd (kTr_cat E v) (kTr_cat E w) (kk p l e s m args below meth c H locs la C hP hS hla)
theorem kj_pop {v : JV} (hd : decode M.2.1 pc = .ok (.pop, 1)) (hp : pc + 1 = pc') (kk : KJ E M rm pc' ls st σ Q) : KJ E M rm pc ls (v :: st) σ Q := by
  subst hp
  intro p l e s m args below meth c H locs la C hP hS hla
  exact lv_pop C.1 C.2.1 hd (kTr_cat E v) (kk p l e s m args below meth c H locs la C hP hS hla)
theorem kj_goto {off : Int} (hd : decode M.2.1 pc = .ok (.goto off, 3)) (hp : (pc : Int) + off = (pc' : Int)) (kk : KJ E M rm pc' ls st σ Q) : KJ E M rm pc ls st σ Q := by
  intro p l e s m args below meth c H locs la C hP hS hla
  exact lv_goto C.1 C.2.1 hd hp (kk p l e s m args below meth c H locs la C hP hS hla)
theorem kj_icmp_eq {x y : Int32} {off : Int} {tgt : Nat} (hd : decode M.2.1 pc = .ok (.if_icmp .eq off, 3)) (ht : (pc : Int) + off = (tgt : Int)) (hp : pc + 3 = pc') (kt : x = y → KJ E M rm tgt ls st σ Q) (kf : ¬ x = y → KJ E M rm pc' ls st σ Q) : KJ E M rm pc ls (.inl y :: .inl x :: st) σ Q := by
  subst hp
  intro p l e s m args below meth c H locs la C hP hS hla
  exact lv_icmp_eq C.1 C.2.1 hd ht (fun h => kt h p l e s m args below meth c H locs la C hP hS hla) (fun h => kf h p l e s m args below meth c H locs la C hP hS hla)
theorem kj_if_eq {x : Int32} {off : Int} {tgt : Nat} (hd : decode M.2.1 pc = .ok (.ifCond .eq off, 3)) (ht : (pc : Int) + off = (tgt : Int)) (hp : pc + 3 = pc') (kt : x = 0 → KJ E M rm tgt ls st σ Q) (kf : ¬ x = 0 → KJ E M rm pc' ls st σ Q) : KJ E M rm pc ls (.inl x :: st) σ Q := by
  subst hp
  intro p l e s m args below meth c H locs la C hP hS hla
  exact lv_if_eq C.1 C.2.1 hd ht (fun h => kt h p l e s m args below meth c H locs la C hP hS hla) (fun h => kf h p l e s m args below meth c H locs la C hP hS hla)
theorem kj_icmp_ne {x y : Int32} {off : Int} {tgt : Nat} (hd : decode M.2.1 pc = .ok (.if_icmp .ne off, 3)) (ht : (pc : Int) + off = (tgt : Int)) (hp : pc + 3 = pc') (kt : ¬ x = y → KJ E M rm tgt ls st σ Q) (kf : x = y → KJ E M rm pc' ls st σ Q) : KJ E M rm pc ls (.inl y :: .inl x :: st) σ Q := by
  subst hp
  intro p l e s m args below meth c H locs la C hP hS hla
  exact lv_icmp_ne C.1 C.2.1 hd ht (fun h => kt h p l e s m args below meth c H locs la C hP hS hla) (fun h => kf h p l e s m args below meth c H locs la C hP hS hla)
theorem kj_if_ne {x : Int32} {off : Int} {tgt : Nat} (hd : decode M.2.1 pc = .ok (.ifCond .ne off, 3)) (ht : (pc : Int) + off = (tgt : Int)) (hp : pc + 3 = pc') (kt : ¬ x = 0 → KJ E M rm tgt ls st σ Q) (kf : x = 0 → KJ E M rm pc' ls st σ Q) : KJ E M rm pc ls (.inl x :: st) σ Q := by
  subst hp
  intro p l e s m args below meth c H locs la C hP hS hla
  exact lv_if_ne C.1 C.2.1 hd ht (fun h => kt h p l e s m args below meth c H locs la C hP hS hla) (fun h => kf h p l e s m args below meth c H locs la C hP hS hla)
theorem kj_icmp_lt {x y : Int32} {off : Int} {tgt : Nat} (hd : decode M.2.1 pc = .ok (.if_icmp .lt off, 3)) (ht : (pc : Int) + off = (tgt : Int)) (hp : pc + 3 = pc') (kt : x < y → KJ E M rm tgt ls st σ Q) (kf : ¬ x < y → KJ E M rm pc' ls st σ Q) : KJ E M rm pc ls (.inl y :: .inl x :: st) σ Q := by
  subst hp
  intro p l e s m args below meth c H locs la C hP hS hla
  exact lv_icmp_lt C.1 C.2.1 hd ht (fun h => kt h p l e s m args below meth c H locs la C hP hS hla) (fun h => kf h p l e s m args below meth c H locs la C hP hS hla)
theorem kj_if_lt {x : Int32} {off : Int} {tgt : Nat} (hd : decode M.2.1 pc = .ok (.ifCond .lt off, 3)) (ht : (pc : Int) + off = (tgt : Int)) (hp : pc + 3 = pc') (kt : x < 0 → KJ E M rm tgt ls st σ Q) (kf : ¬ x < 0 → KJ E M rm pc' ls st σ Q) : KJ E M rm pc ls (.inl x :: st) σ Q := by
  subst hp
  intro p l e s m args below meth c H locs la C hP hS hla
  exact lv_if_lt C.1 C.2.1 hd ht (fun h => kt h p l e s m args below meth c H locs la C hP hS hla) (fun h => kf h p l e s m args below meth c H locs la C hP hS hla)
theorem kj_icmp_le {x y : Int32} {off : Int} {tgt : Nat} (hd : decode M.2.1 pc = .ok (.if_icmp .le off, 3)) (ht : (pc : Int) + off = (tgt : Int)) (hp : pc + 3 = pc') (kt : x ≤ y → KJ E M rm tgt ls st σ Q) (kf : ¬ x ≤ y → KJ E M rm pc' ls st σ Q) : KJ E M rm pc ls (.inl y :: .inl x :: st) σ Q := by
  subst hp
  intro p l e s m args below meth c H locs la C hP hS hla
  exact lv_icmp_le C.1 C.2.1 hd ht (fun h => kt h p l e s m args below meth c H locs la C hP hS hla) (fun h => kf h p l e s m args below meth c H locs la C hP hS hla)
theorem kj_if_le {x : Int32} {off : Int} {tgt : Nat} (hd : decode M.2.1 pc = .ok (.ifCond .le off, 3)) (ht : (pc : Int) + off = (tgt : Int)) (hp : pc + 3 = pc') (kt : x ≤ 0 → KJ E M rm tgt ls st σ Q) (kf : ¬ x ≤ 0 → KJ E M rm pc' ls st σ Q) : KJ E M rm pc ls (.inl x :: st) σ Q := by
  subst hp
  intro p l e s m args below meth c H locs la C hP hS hla
  exact lv_if_le C.1 C.2.1 hd ht (fun h => kt h p l e s m args below meth c H locs la C hP hS hla) (fun h => kf h p l e s m args below meth c H locs la C hP hS hla)
theorem kj_icmp_gt {x y : Int32} {off : Int} {tgt : Nat} (hd : decode M.2.1 pc = .ok (.if_icmp .gt off, 3)) (ht : (pc : Int) + off = (tgt : Int)) (hp : pc + 3 = pc') (kt : y < x → KJ E M rm tgt ls st σ Q) (kf : ¬ y < x → KJ E M rm pc' ls st σ Q) : KJ E M rm pc ls (.inl y :: .inl x :: st) σ Q := by
  subst hp
  intro p l e s m args below meth c H locs la C hP hS hla
  exact lv_icmp_gt C.1 C.2.1 hd ht (fun h => kt h p l e s m args below meth c H locs la C hP hS hla) (fun h => kf h p l e s m args below meth c H locs la C hP hS hla)
theorem kj_if_gt {x : Int32} {off : Int} {tgt : Nat} (hd : decode M.2.1 pc = .ok (.ifCond .gt off, 3)) (ht : (pc : Int) + off = (tgt : Int)) (hp : pc + 3 = pc') (kt : 0 < x → KJ E M rm tgt ls st σ Q) (kf : ¬ 0 < x → KJ E M rm pc' ls st σ Q) : KJ E M rm pc ls (.inl x :: st) σ Q := by
  subst hp
  intro p l e s m args below meth c H locs la C hP hS hla
  exact lv_if_gt C.1 C.2.1 hd ht (fun h => kt h p l e s m args below meth c H locs la C hP hS hla) (fun h => kf h p l e s m args below meth c H locs la C hP hS hla)
theorem kj_icmp_ge {x y : Int32} {off : Int} {tgt : Nat} (hd : decode M.2.1 pc = .ok (.if_icmp .ge off, 3)) (ht : (pc : Int) + off = (tgt : Int)) (hp : pc + 3 = pc') (kt : y ≤ x → KJ E M rm tgt ls st σ Q) (kf : ¬ y ≤ x → KJ E M rm pc' ls st σ Q) : KJ E M rm pc ls (.inl y :: .inl x :: st) σ Q := by
  subst hp
  intro p l e s m args below meth c H locs la C hP hS hla
  exact lv_icmp_ge C.1 C.2.1 hd ht (fun h => kt h p l e s m args below meth c H locs la C hP hS hla) (fun h => kf h p l e s m args below meth c H locs la C hP hS hla)
theorem kj_if_ge {x : Int32} {off : Int} {tgt : Nat} (hd : decode M.2.1 pc = .ok (.ifCond .ge off, 3)) (ht : (pc : Int) + off = (tgt : Int)) (hp : pc + 3 = pc') (kt : 0 ≤ x → KJ E M rm tgt ls st σ Q) (kf : ¬ 0 ≤ x → KJ E M rm pc' ls st σ Q) : KJ E M rm pc ls (.inl x :: st) σ Q := by
  subst hp
  intro p l e s m args below meth c H locs la C hP hS hla
  exact lv_if_ge C.1 C.2.1 hd ht (fun h => kt h p l e s m args below meth c H locs la C hP hS hla) (fun h => kf h p l e s m args below meth c H locs la C hP hS hla)
theorem kj_tableIn {dflt lo hi : Int} {offs : Array Int} {len : Nat} {x : Int32} {off : Int} {tgt : Nat} (hd : decode M.2.1 pc = .ok (.tableswitch dflt lo hi offs, len)) (h1 : ¬ x.toInt < lo) (h2 : ¬ hi < x.toInt) (ho : offs[(x.toInt - lo).toNat]? = some off) (ht : (pc : Int) + off = (tgt : Int)) (kk : KJ E M rm tgt ls st σ Q) : KJ E M rm pc ls (.inl x :: st) σ Q := by
  intro p l e s m args below meth c H locs la C hP hS hla
  exact lv_tableIn C.1 C.2.1 hd h1 h2 ho ht (kk p l e s m args below meth c H locs la C hP hS hla)
theorem kj_tableOut {dflt lo hi : Int} {offs : Array Int} {len : Nat} {x : Int32} {tgt : Nat} (hd : decode M.2.1 pc = .ok (.tableswitch dflt lo hi offs, len)) (h : x.toInt < lo ∨ hi < x.toInt) (ht : (pc : Int) + dflt = (tgt : Int)) (kk : KJ E M rm tgt ls st σ Q) : KJ E M rm pc ls (.inl x :: st) σ Q := by
  intro p l e s m args below meth c H locs la C hP hS hla
  exact lv_tableOut C.1 C.2.1 hd h ht (kk p l e s m args below meth c H locs la C hP hS hla)
theorem kj_lookup {dflt : Int} {ps : Array (Int × Int)} {len : Nat} {x : Int32} {off : Int} {tgt : Nat} (hd : decode M.2.1 pc = .ok (.lookupswitch dflt ps, len)) (hps : (ps.toList.zip (ps.toList.drop 1)).all (fun (a, next) => a.1 < next.1) = true) (ho : Op.lookupswitch.offset ps.toList dflt x.toInt = off) (ht : (pc : Int) + off = (tgt : Int)) (kk : KJ E M rm tgt ls st σ Q) : KJ E M rm pc ls (.inl x :: st) σ Q := by
  intro p l e s m args below meth c H locs la C hP hS hla
  exact lv_lookup C.1 C.2.1 hd hps ho ht (kk p l e s m args below meth c H locs la C hP hS hla)
theorem kj_ifnull {x : Nat} {off : Int} (hd : decode M.2.1 pc = .ok (.ifnull off, 3)) (hp : pc + 3 = pc') (kk : KJ E M rm pc' ls st σ Q) : KJ E M rm pc ls (.inr x :: st) σ Q := by
  subst hp
  intro p l e s m args below meth c H locs la C hP hS hla
  exact lv_ifnull C.1 C.2.1 hd (kk p l e s m args below meth c H locs la C hP hS hla)
theorem kj_iret {v : Int32} (hr : M.2.2.2 = some .int) (hd : decode M.2.1 pc = .ok (.ireturn, 1)) (hq : Q (some (.inl v)) σ) : KJ E M rm pc ls [.inl v] σ Q := by
  intro p l e s m args below meth c H locs la C hP hS hla
  exact W.iret C.1 C.2.1 (C.2.2.1.trans hr) (fun t ht _ => ⟨by rw [ht]; exact hS.1, some (.inl v), σ, rfl, hq, by rw [ht]; exact hP⟩) hS.2.2 hd C.2.2.2.1
theorem kj_zret {v : Int32} (hr : M.2.2.2 = some .boolean) (hz : v = 0 ∨ v = 1) (hd : decode M.2.1 pc = .ok (.ireturn, 1)) (hq : Q (some (.inl v)) σ) : KJ E M rm pc ls [.inl v] σ Q := by
  intro p l e s m args below meth c H locs la C hP hS hla
  exact W.zret C.1 C.2.1 (C.2.2.1.trans hr) (by rcases hz with rfl | rfl <;> decide +kernel) (fun t ht _ => ⟨by rw [ht]; exact hS.1, some (.inl v), σ, rfl, hq, by rw [ht]; exact hP⟩) hS.2.2 hd C.2.2.2.1
theorem kj_vret (hr : M.2.2.2 = none) (hd : decode M.2.1 pc = .ok (.return_, 1)) (hq : Q none σ) : KJ E M rm pc ls [] σ Q := by
  intro p l e s m args below meth c H locs la C hP hS hla
  exact W.vret C.1 C.2.1 (C.2.2.1.trans hr) (fun t ht _ => ⟨by rw [ht]; exact hS.1, none, σ, rfl, hq, by rw [ht]; exact hP⟩) hS.2.2 hd C.2.2.2.1
end KROWS
/-! rows that read and write cells; calls -/
/-- what a field's number in a class's pool stands for: field k of class ci, an int or a ref -/
def kFL (own : String) (index ci k : Nat) (b : Bool) : Prop := ∃ (C : String) (T : u_T) (N : Nat), vwCl[ci]? = some (C, T, N) ∧ k < N ∧ Cond.fieldLink own index (T k).1 (T k).2.1 (T k).2.2.1 ∈ kTb ∧ (∀ w ∈ u_ws C T N, w ∈ kTb) ∧ (kFk ci)[k]? = some b ∧ ci < 20
/-- and may be written: of a type -/
def kFP (own : String) (index ci k : Nat) (ty : FieldType) : Prop := ∃ (C : String) (T : u_T) (N : Nat) (ty0 : Nat → FieldType), vwCl[ci]? = some (C, T, N) ∧ k < N ∧ Cond.fieldLink own index (T k).1 (T k).2.1 (T k).2.2.1 ∈ kTb ∧ (∀ w ∈ u_ws C T N, w ∈ kTb) ∧ (kFk ci)[k]? = some true ∧ ci < 20 ∧ (∀ k, k < N → parseFieldDescriptor (T k).2.2.1 = some (ty0 k)) ∧ (∀ a, a < N → ∀ b, b < N → a ≠ b → (T a).2.1 ≠ (T b).2.1) ∧ (T k).2.2.2 = false ∧ parseFieldDescriptor (T k).2.2.1 = some ty
theorem kFl_len (E : JE) (σ : Wd) (k : Nat) : (kFl E σ k).length = (kFk (kKd k)).length := by simp [kFl]
theorem kFl_at {E : JE} {σ : Wd} {r k : Nat} {b : Bool} (h : (kFk (kKd r))[k]? = some b) : (kFl E σ r)[k]? = some (if b = true then Value.int (σ r k) else if E.2.2.2.2.2.2.2 r k = true then Value.ref (kAd E (kRf r k)) else Value.null) := by
  simp [kFl, h]
theorem kFl_set {E : JE} {σ : Wd} {r k : Nat} {x : Int32} (h : (kFk (kKd r))[k]? = some true) : (kFl E σ r).set k (.int x) = kFl E (up σ r k x) r := by
  apply List.ext_getElem?
  intro i
  by_cases hi : i = k
  · subst hi
    rw [List.getElem?_set_self (by rw [kFl_len]; exact (List.getElem?_eq_some_iff.mp h).1), kFl_at h]
    simp [up_at, upd]
  · rw [List.getElem?_set_ne (Ne.symm hi)]
    simp only [kFl, List.getElem?_mapIdx, up_at, upd, if_neg hi]
section KCELLS
variable {E : JE} {M : MI} {rm : Room} {pc pc' : Nat} {ls ls' : List (Option JV)} {st : List JV} {σ : Wd} {Q : Option JV → Wd → Prop}
theorem kEl_obj {σ : Wd} {r ci : Nat} (hk : kKd r = ci) (h : ci < 20) : kEl E σ r = .inr (ci, kFl E σ r) := by
  subst hk
  simp [kEl, h]
theorem kj_getI {index ci k r : Nat} (hf : kFL M.1 index ci k true) (hk : kKd r = ci) (hn : r < E.2.2.2.2.1) (hd : decode M.2.1 pc = .ok (.getfield index, 3)) (hp : pc + 3 = pc') (kk : KJ E M rm pc' ls (.inl (σ r k) :: st) σ Q) : KJ E M rm pc ls (.inr r :: st) σ Q := by
  subst hp
  intro p l e s m args below meth c H locs la C hP hS hla
  obtain ⟨C1, T, N, h1, h2, h3, h4, h5, h6⟩ := hf
  have he := kWl_at (σ := σ) hn
  rw [kEl_obj hk h6] at he
  have hv := kFl_at (E := E) (σ := σ) (r := r) (k := k) (b := true) (by rw [hk]; exact h5)
  exact va_get C.1 C.2.1 C.2.2.2.2.2.2.1 h4 C.2.2.2.2.2.1 C.2.2.2.2.2.2.2.1 hP.1 r he h1 k h2 (C.2.2.2.2.2.2.1 _ h3) (fun _ h => h) hv hd (kk p l e s m args below meth c H locs la C hP hS hla)
theorem kj_getR {index ci k r q : Nat} (hf : kFL M.1 index ci k false) (hk : kKd r = ci) (hn : r < E.2.2.2.2.1) (hm : E.2.2.2.2.2.2.2 r k = true) (hq : kRf r k = q) (hd : decode M.2.1 pc = .ok (.getfield index, 3)) (hp : pc + 3 = pc') (kk : KJ E M rm pc' ls (.inr q :: st) σ Q) : KJ E M rm pc ls (.inr r :: st) σ Q := by
  subst hp hq
  intro p l e s m args below meth c H locs la C hP hS hla
  obtain ⟨C1, T, N, h1, h2, h3, h4, h5, h6⟩ := hf
  have he := kWl_at (σ := σ) hn
  rw [kEl_obj hk h6] at he
  have hv := kFl_at (E := E) (σ := σ) (r := r) (k := k) (b := false) (by rw [hk]; exact h5)
  rw [if_neg (by decide), if_pos hm] at hv
  exact va_get C.1 C.2.1 C.2.2.2.2.2.2.1 h4 C.2.2.2.2.2.1 C.2.2.2.2.2.2.2.1 hP.1 r he h1 k h2 (C.2.2.2.2.2.2.1 _ h3) (fun _ h => h) hv hd (kk p l e s m args below meth c H locs la C hP hS hla)
theorem kHp_of {H1 : Heap} {ws : va_W} {σ' : Wd} {locs1 : List Loc} {s : State} (h0 : E.1 ≤ s.heap.size ∧ ∀ q : Nat, q < E.1 → s.heap[q]? = E.2.1[q]?) (hw : ws = kWl E σ') (h1 : va_P E.2.2.1 vwCl ws H1) (h2 : va_S (fun q => E.1 ≤ q) s.heap H1 locs1) : kHp E σ' H1 := by
  subst hw
  refine ⟨h1, fun q hq => ?_⟩
  rw [h2.2.1 q (Nat.lt_of_lt_of_le hq h0.1) (Nat.not_le.mpr hq), h0.2 q hq]
theorem kj_putI {index ci k r : Nat} {x : Int32} {ty : FieldType} (hf : kFP M.1 index ci k ty) (hty : narrow ty (.int x) = .int x) (hfit : fits ty (.int x) = true) (hk : kKd r = ci) (hn : r < E.2.2.2.2.1) (hd : decode M.2.1 pc = .ok (.putfield index, 3)) (hp : pc + 3 = pc') (kk : KJ E M rm pc' ls st (up σ r k x) Q) : KJ E M rm pc ls (.inl x :: .inr r :: st) σ Q := by
  subst hp
  intro p l e s m args below meth c H locs la C hP hS hla
  obtain ⟨C1, T, N, ty0, h1, h2, h3, h4, h5, h6, h7, h8, h9, h10⟩ := hf
  have he := kWl_at (σ := σ) hn
  rw [kEl_obj hk h6] at he
  have h5' : (kFk (kKd r))[k]? = some true := by rw [hk]; exact h5
  refine va_put C.1 C.2.1 C.2.2.2.2.2.2.1 h4 ty0 h7 h8 C.2.2.2.2.2.1 C.2.2.2.2.2.2.2.1 hP.1 (kD C.2.2.2.2.2.2.2.2.2.1.1 σ) hS r he h1 k h2 (C.2.2.2.2.2.2.1 _ h3) (fun _ h => h) h9 h10 hty hfit (by rw [kFl_len]; exact (List.getElem?_eq_some_iff.mp h5').1) hd (fun H1 locs1 hP1 hD1 hS1 => ?_)
  have hws : (kWl E σ).set r (kAd E r, .inr (ci, (kFl E σ r).set k (.int x))) = kWl E (up σ r k x) := by
    rw [← kWl_set (E := E) (σ := σ) (σ' := up σ r k x) (a := r) (fun q hq => up_ne σ k x hq), kEl_obj hk h6, kFl_set h5']
  exact kk p l e s m args below meth c H1 locs1 la C (kHp_of C.2.2.2.2.2.2.2.2.1 hws hP1 hS1) hS1 hla
theorem kEl_arr {σ : Wd} {r n : Nat} (hk : kKd r = 20 + n) (h : n < 3) : kEl E σ r = .inl (E.2.2.2.1 n, kLn r, .inl (σ r)) := by
  have h1 : ¬ kKd r < 20 := by omega
  have h2 : ¬ kKd r = 23 := by omega
  have h3 : kKd r - 20 = n := by omega
  simp [kEl, h1, h2, h3]
theorem kj_alen {r n : Nat} {v : Int32} (t0 : Nat) {ty : FieldType} (hk : kKd r = 20 + n) (h3 : n < 3) (ht : (kTys E)[t0]? = some (E.2.2.2.1 n, ty)) (hn : r < E.2.2.2.2.1) (hv : nI (kLn r) = v) (hd : decode M.2.1 pc = .ok (.arraylength, 1)) (hp : pc + 1 = pc') (kk : KJ E M rm pc' ls (.inl v :: st) σ Q) : KJ E M rm pc ls (.inr r :: st) σ Q := by
  subst hp
  intro p l e s m args below meth c H locs la C hP hS hla
  have he := kWl_at (σ := σ) hn
  rw [kEl_arr hk h3] at he
  exact va_alen C.1 C.2.1 C.2.2.2.2.2.2.2.1 hP.1 r t0 he ht hv hd (kk p l e s m args below meth c H locs la C hP hS hla)
theorem kj_iald {r j : Nat} {i : Int32} (hk : kKd r = 20) (hn : r < E.2.2.2.2.1) (hin : vp_in i (kLn r)) (hj : i.toNatClampNeg = j) (hd : decode M.2.1 pc = .ok (.iaload, 1)) (hp : pc + 1 = pc') (kk : KJ E M rm pc' ls (.inl (σ r j) :: st) σ Q) : KJ E M rm pc ls (.inl i :: .inr r :: st) σ Q := by
  subst hp hj
  intro p l e s m args below meth c H locs la C hP hS hla
  have he := kWl_at (σ := σ) hn
  rw [kEl_arr (n := 0) hk (by decide)] at he
  exact va_iald C.1 C.2.1 C.2.2.2.2.2.2.2.1 hP.1 r 0 he rfl hin hd (kk p l e s m args below meth c H locs la C hP hS hla)
theorem kj_zald {r j : Nat} {i : Int32} (hk : kKd r = 21) (hn : r < E.2.2.2.2.1) (hin : vp_in i (kLn r)) (hj : i.toNatClampNeg = j) (hd : decode M.2.1 pc = .ok (.baload, 1)) (hp : pc + 1 = pc') (kk : KJ E M rm pc' ls (.inl (σ r j) :: st) σ Q) : KJ E M rm pc ls (.inl i :: .inr r :: st) σ Q := by
  subst hp hj
  intro p l e s m args below meth c H locs la C hP hS hla
  have he := kWl_at (σ := σ) hn
  rw [kEl_arr (n := 1) hk (by decide)] at he
  exact va_zald C.1 C.2.1 C.2.2.2.2.2.2.2.1 hP.1 r 1 he rfl hin hd (kk p l e s m args below meth c H locs la C hP hS hla)
theorem kj_bald {r j : Nat} {i : Int32} (hk : kKd r = 22) (hn : r < E.2.2.2.2.1) (hin : vp_in i (kLn r)) (hj : i.toNatClampNeg = j) (hd : decode M.2.1 pc = .ok (.baload, 1)) (hp : pc + 1 = pc') (kk : KJ E M rm pc' ls (.inl (σ r j) :: st) σ Q) : KJ E M rm pc ls (.inl i :: .inr r :: st) σ Q := by
  subst hp hj
  intro p l e s m args below meth c H locs la C hP hS hla
  have he := kWl_at (σ := σ) hn
  rw [kEl_arr (n := 2) hk (by decide)] at he
  exact va_bald C.1 C.2.1 C.2.2.2.2.2.2.2.1 hP.1 r 2 he rfl hin hd (kk p l e s m args below meth c H locs la C hP hS hla)
theorem kj_aald {i : Int32} {r j : Nat} (hk : kKd r = 23) (hn : r < E.2.2.2.2.1) (hm : E.2.2.2.2.2.2.2 r j = true) (hin : vp_in i (kLn r)) (hj : i.toNatClampNeg = j) (hd : decode M.2.1 pc = .ok (.aaload, 1)) (hp : pc + 1 = pc') (kk : KJ E M rm pc' ls (.inr (kRf r j) :: st) σ Q) : KJ E M rm pc ls (.inl i :: .inr r :: st) σ Q := by
  subst hp hj
  intro p l e s m args below meth c H locs la C hP hS hla
  have he := kWl_at (σ := σ) hn
  have e1 : kEl E σ r = .inl (E.2.2.2.1 3, kLn r, .inr (.inr (.inr (.inr (fun j => if E.2.2.2.2.2.2.2 r j = true then some (kAd E (kRf r j)) else none))))) := by simp [kEl, hk]
  rw [e1] at he
  have k2 := kk p l e s m args below meth c H locs la C hP hS hla
  refine va_aldq C.1 C.2.1 C.2.2.2.2.2.2.2.1 hP.1 r 3 he rfl hin hd ?_
  rw [if_pos hm]
  exact k2
theorem kWl_up {r i n : Nat} {x : Int32} (hk : kKd r = 20 + n) (h : n < 3) : (kWl E σ).set r (kAd E r, .inl (E.2.2.2.1 n, kLn r, .inl (upd (σ r) i x))) = kWl E (up σ r i x) := by
  rw [← kWl_set (E := E) (σ := σ) (σ' := up σ r i x) (a := r) (fun q hq => up_ne σ i x hq), kEl_arr hk h, up_at]
theorem kj_iast {r j : Nat} {i x : Int32} (hk : kKd r = 20) (hn : r < E.2.2.2.2.1) (hin : vp_in i (kLn r)) (hj : i.toNatClampNeg = j) (hd : decode M.2.1 pc = .ok (.iastore, 1)) (hp : pc + 1 = pc') (kk : KJ E M rm pc' ls st (up σ r j x) Q) : KJ E M rm pc ls (.inl x :: .inl i :: .inr r :: st) σ Q := by
  subst hp hj
  intro p l e s m args below meth c H locs la C hP hS hla
  have he := kWl_at (σ := σ) hn
  rw [kEl_arr (n := 0) hk (by decide)] at he
  refine va_iast C.1 C.2.1 C.2.2.2.2.2.2.2.1 hP.1 (kD C.2.2.2.2.2.2.2.2.2.1.1 σ) hS r 0 he rfl hin hd (fun H1 locs1 hP1 hD1 hS1 => ?_)
  exact kk p l e s m args below meth c H1 locs1 la C (kHp_of C.2.2.2.2.2.2.2.2.1 (kWl_up (n := 0) hk (by decide)) hP1 hS1) hS1 hla
theorem kj_zast {r j : Nat} {i x y : Int32} (hk : kKd r = 21) (hn : r < E.2.2.2.2.1) (hin : vp_in i (kLn r)) (hz : vp_nar .boolean x = y) (hj : i.toNatClampNeg = j) (hd : decode M.2.1 pc = .ok (.bastore, 1)) (hp : pc + 1 = pc') (kk : KJ E M rm pc' ls st (up σ r j y) Q) : KJ E M rm pc ls (.inl x :: .inl i :: .inr r :: st) σ Q := by
  subst hp hz hj
  intro p l e s m args below meth c H locs la C hP hS hla
  have he := kWl_at (σ := σ) hn
  rw [kEl_arr (n := 1) hk (by decide)] at he
  refine va_zast C.1 C.2.1 C.2.2.2.2.2.2.2.1 hP.1 (kD C.2.2.2.2.2.2.2.2.2.1.1 σ) hS r 1 he rfl hin hd (fun H1 locs1 hP1 hD1 hS1 => ?_)
  exact kk p l e s m args below meth c H1 locs1 la C (kHp_of C.2.2.2.2.2.2.2.2.1 (kWl_up (n := 1) hk (by decide)) hP1 hS1) hS1 hla
/-! calls -/
theorem kPre_blind (as : List JV) : FrameBlind (va_Pc (as.map (kTr E)) (kPre E σ)) := by
  intro a U g mk h
  obtain ⟨h1, h2, h3, h4, h5, h6⟩ := h
  exact ⟨h1, h2, h3, va_K.moved (u := U) (U := U.calling g mk a) (Vm.Alike.refl U.vm) h4, h5, h5.2 U (U.calling g mk a) (State.WarmedH.refl U) (fun _ _ => rfl) h6⟩
theorem kj_run {Qc : Option JV → Wd → Prop} {p : Program} {l : Launch} {e : Env} {s : State} {m : MethodId} {args : Array Value} {below : List Frame} {meth : Method} {c : Code} {H : Heap} {locs : List Loc} {la : Array Slot} {st0 : List Value} {a : Array Value}
    (C : kJC E M p s m args meth c) (hS : va_S (fun q => E.1 ≤ q) s.heap H locs) (hla : lv_has la M.2.2.1 (kLv E 0 ls))
    (hr : va_Run p l e rm s m args below meth c H locs 0 0 0 0 (F0 m pc la st0) (st.map (kTr E)) (kQc E Qc a) (fun q => E.1 ≤ q))
    (kk : ∀ r σ', Qc r σ' → KJ E M rm (pc + 3) ls (r.toList ++ st) σ' Q) : W p l e rm s m args below meth c H locs 0 0 (MQ below (kQc E Q) args s 0 0 (fun q => E.1 ≤ q)) (F0 m pc la st0) := by
  intro T hT X
  obtain ⟨v, st₀, t, T', L, h0, X', hL, e1, e2, ⟨hsz, r, σ', hv, hq, hP'⟩, go⟩ := hr T hT X
  have hv' : v = r.map (kTr E) := Outcome.returned.inj hv
  subst hv'
  have hS' : va_S (fun q => E.1 ≤ q) s.heap T'.heap (locs ++ L) := by
    refine ⟨Nat.le_trans hS.1 (by rw [e1, ← h0]; exact hsz), fun q h1 h2 => ?_, fun q hq => ?_⟩
    · rw [e1, hP'.2 q (Nat.not_le.mp h2), C.2.2.2.2.2.2.2.2.1.2 q (Nat.not_le.mp h2)]
    · rcases List.mem_append.mp hq with h | h
      · exact hS.2.2 q h
      · exact hL q h
  have hst : (r.map (kTr E)).toList ++ st.map (kTr E) = (r.toList ++ st).map (kTr E) := by cases r <;> rfl
  rw [hst] at go
  obtain ⟨t2, a1, b1⟩ := kk r σ' hq p l e s m args below meth c T'.heap (locs ++ L) la C (by rw [e1]; exact hP') hS' hla T' rfl X'
  exact ⟨t2, go t2 a1, b1⟩
theorem kPre_in {as : List JV} {p : Program} {s U : State} {m : MethodId} {args : Array Value} {meth : Method} {c : Code} {H : Heap} {locs : List Loc} (C : kJC E M p s m args meth c) (hP : kHp E σ H) (hS : va_S (fun q => E.1 ≤ q) s.heap H locs) (hU : U.heap = H) (hW : s.WarmedH U.vm) : va_Pc (as.map (kTr E)) (kPre E σ) (as.map (kTr E)).toArray U :=
  ⟨rfl, by rw [hU]; exact hP, by rw [hU]; exact Nat.le_trans C.2.2.2.2.2.2.2.2.1.1 hS.1, va_K.moved hW.alike C.2.2.2.2.2.2.2.1, C.2.2.2.2.2.2.2.2.2.1, C.2.2.2.2.2.2.2.2.2.1.2 s U hW (fun q hq => by rw [hU, hP.2 q hq, C.2.2.2.2.2.2.2.2.1.2 q hq]) C.2.2.2.2.2.2.2.2.2.2⟩
theorem kGoodC {y : MethodName} {b : ByteArray} {n : Nat} {r : Option FieldType} (h : Cond.code y b n r ∈ kTb) : GoodIn kTb (Cond.code y b n r :: kTb) := kGood (fun w hw => by rcases List.mem_cons.mp hw with rfl | h' <;> assumption)
/-- words of a virtual call -/
def kVL (own : String) (index : Nat) (y : MethodName) (My : MI) (n ci : Nat) : Prop := (∀ w ∈ ([.methodLink own index y, .instanceMethod y, .selects y.cls y y, .initialized y.cls, .code y My.2.1 My.2.2.1 My.2.2.2] : List Cond), w ∈ kTb) ∧ (y.cls ≠ "java/lang/invoke/MethodHandle" ∧ y.cls ≠ "java/lang/invoke/VarHandle" ∧ (parseMethodDescriptor y.desc).map (fun d => d.parameters.length) = some n) ∧ (∃ q : vw_C, vwCl[ci]? = some q ∧ q.1 = y.cls) ∧ ci < 20
def kSL (own : String) (index : Nat) (y : MethodName) (My : MI) (n : Nat) : Prop := (∀ w ∈ ([.methodLink own index y, .static y, .initialized y.cls, .code y My.2.1 My.2.2.1 My.2.2.2] : List Cond), w ∈ kTb) ∧ (y.cls ≠ "java/lang/invoke/MethodHandle" ∧ y.cls ≠ "java/lang/invoke/VarHandle" ∧ (parseMethodDescriptor y.desc).map (fun d => d.parameters.length) = some n)
theorem kj_callV {index ci r : Nat} {y : MethodName} {My : MI} {rmy : Room} {as : List JV} {stk : List JV} {Qc : Option JV → Wd → Prop} (hw : kVL M.1 index y My as.length ci) (hM : kMt E y My rmy (.inr r :: as) σ Qc) (hk : kKd r = ci) (hn : r < E.2.2.2.2.1) (hstk : as.reverse ++ .inr r :: st = stk) (hroom : (rmy.cells = 0 ∧ rmy.slots = 0) ∧ rmy.frames + 1 ≤ rm.frames ∧ 8 + (My.2.2.1 + 11) + rmy.locals ≤ rm.locals) (hlen : st.length ≤ 8) (hd : decode M.2.1 pc = .ok (.invokevirtual index, 3)) (hp : pc + 3 = pc')
    (kk : ∀ v σ', Qc v σ' → KJ E M rm pc' ls (v.toList ++ st) σ' Q) : KJ E M rm pc ls stk σ Q := by
  subst hp hstk
  intro p l e s m args below meth c H locs la C hP hS hla
  obtain ⟨hw1, hd1, ⟨q, hq1, hq2⟩, hci⟩ := hw
  have he := kWl_at (σ := σ) hn
  rw [kEl_obj hk hci] at he
  have hG : GoodIn kTb (wsV M.1 index y.cls y (Cond.code y My.2.1 My.2.2.1 My.2.2.2 :: kTb)) := kGood (fun w h => by
    simp only [wsV, List.mem_append, List.mem_cons, List.not_mem_nil, or_false] at h
    rcases h with (rfl | rfl | rfl | rfl) | rfl | h
    · exact hw1 _ (by simp)
    · exact hw1 _ (by simp)
    · exact hw1 _ (by simp)
    · exact hw1 _ (by simp)
    · exact hw1 _ (by simp)
    · exact h)
  have hrec := va_recv C.2.2.2.2.2.2.2.1 hP.1 hq1 he
  rw [hq2] at hrec
  refine kj_run C hS hla (va_runV (As := as.map (kTr E)) (b := kAd E r) (rest := st.map (kTr E)) ⟨C.1, C.2.1, C.2.2.2.2.1, C.2.2.2.2.2.1, C.2.2.2.2.2.2.1⟩ (hM l) (cwV as.length C.2.2.2.2.2.2.1 hG rfl hroom.1.1 hroom.1.2 ⟨rfl, hd1⟩ hroom.2) ⟨kPre_blind _, hrec, fun U hU hW => kPre_in (as := .inr r :: as) C hP hS hU hW⟩ rfl (by simp) hla.1 (by simp [kTr]) (lv_room ?_) hd ⟨Nat.zero_le _, Nat.zero_le _⟩) kk
  have : ∀ st : List JV, ((st.map (kTr E)).map fun v => v.category).sum = st.length := fun st => by
    induction st with
    | nil => rfl
    | cons v t ih => simp only [List.map_cons, List.sum_cons, kTr_cat, List.length_cons, ih]; omega
  rw [this]; exact hlen
theorem kj_callS {index : Nat} {y : MethodName} {My : MI} {rmy : Room} {as : List JV} {stk : List JV} {Qc : Option JV → Wd → Prop} (hw : kSL M.1 index y My as.length) (hM : kMt E y My rmy as σ Qc) (hstk : as.reverse ++ st = stk) (hroom : (rmy.cells = 0 ∧ rmy.slots = 0) ∧ rmy.frames + 1 ≤ rm.frames ∧ 8 + (My.2.2.1 + 11) + rmy.locals ≤ rm.locals) (hlen : st.length ≤ 8) (hd : decode M.2.1 pc = .ok (.invokestatic index, 3)) (hp : pc + 3 = pc')
    (kk : ∀ v σ', Qc v σ' → KJ E M rm pc' ls (v.toList ++ st) σ' Q) : KJ E M rm pc ls stk σ Q := by
  subst hp hstk
  intro p l e s m args below meth c H locs la C hP hS hla
  obtain ⟨hw1, hd1⟩ := hw
  have hG : GoodIn kTb (va_wsS M.1 index y (Cond.code y My.2.1 My.2.2.1 My.2.2.2 :: kTb)) := kGood (fun w h => by
    simp only [va_wsS, List.mem_append, List.mem_cons, List.not_mem_nil, or_false] at h
    rcases h with (rfl | rfl | rfl) | rfl | h
    · exact hw1 _ (by simp)
    · exact hw1 _ (by simp)
    · exact hw1 _ (by simp)
    · exact hw1 _ (by simp)
    · exact h)
  refine kj_run C hS hla (va_runS (As := as.map (kTr E)) (rest := st.map (kTr E)) ⟨C.1, C.2.1, C.2.2.2.2.1, C.2.2.2.2.2.1, C.2.2.2.2.2.2.1⟩ (hM l) (va_cwS as.length C.2.2.2.2.2.2.1 hG rfl hroom.1.1 hroom.1.2 hd1 hroom.2) ⟨kPre_blind _, fun U hU hW => kPre_in (as := as) C hP hS hU hW⟩ rfl (by simp) hla.1 (by simp) (lv_room ?_) hd ⟨Nat.zero_le _, Nat.zero_le _⟩) kk
  have : ∀ st : List JV, ((st.map (kTr E)).map fun v => v.category).sum = st.length := fun st => by
    induction st with
    | nil => rfl
    | cons v t ih => simp only [List.map_cons, List.sum_cons, kTr_cat, List.length_cons, ih]; omega
  rw [this]; exact hlen
end KCELLS
/-! loops, with fuel -/
def lp {S C : Type} (body : (S → Option C) → S → Option C) : Nat → S → Option C
  | 0, _ => none
  | n + 1, s => body (lp body n) s
theorem lp_ind {S C : Type} {body : (S → Option C) → S → Option C} {res : C} {P : S → Prop} (h : ∀ (rec : S → Option C) (s : S), (∀ s', rec s' = some res → P s') → body rec s = some res → P s) : ∀ (n : Nat) (s : S), lp body n s = some res → P s
  | 0, _, hs => by simp [lp] at hs
  | n + 1, s, hs => h (lp body n) s (fun s' => lp_ind h n s') hs
def lett {α β : Type} (v : α) (f : α → β) : β := f v
theorem lett_i {α β : Type} {v : α} {f : α → β} {r : β} (h : lett v f = r) : ∃ z, z = v ∧ f z = r := ⟨v, rfl, h⟩
/-- an index that is looked at -/
def ckA {α : Type} (i : Int32) (n : Nat) (t : Option α) : Option α := if i < 0 ∨ n ≤ i.toNatClampNeg then none else t
theorem ckA_some {α : Type} {i : Int32} {n : Nat} {t : Option α} {r : α} (h : ckA i n t = some r) : vp_in i n ∧ t = some r := by
  unfold ckA at h
  by_cases hc : i < 0 ∨ n ≤ i.toNatClampNeg
  · rw [if_pos hc] at h; cases h
  · rw [if_neg hc] at h; exact ⟨hc, h⟩
def ckZ {α : Type} (y : Int32) (t : Option α) : Option α := if y = 0 then none else t
theorem ckZ_some {α : Type} {y : Int32} {t : Option α} {r : α} (h : ckZ y t = some r) : ¬ y = 0 ∧ t = some r := by
  unfold ckZ at h
  by_cases hc : y = 0
  · rw [if_pos hc] at h; cases h
  · rw [if_neg hc] at h; exact ⟨hc, h⟩
theorem bind_some' {α β : Type} {o : Option α} {f : α → Option β} {r : β} (h : o.bind f = some r) : ∃ a, o = some a ∧ f a = some r := by
  cases o with
  | none => cases h
  | some a => exact ⟨a, rfl, h⟩
def kOk (N : Nat) (E : JE) : Prop := N ≤ E.2.2.2.2.1 ∧ ∀ k i, E.2.2.2.2.2.2.2 k i = true
/-! the ends of methods, and calls by them -/
def kQi (x : Int32) (σ1 : Wd) : Option JV → Wd → Prop := fun v σ' => v = some (.inl x) ∧ σ' = σ1
def kQz (x : Int32) (σ1 : Wd) : Option JV → Wd → Prop := fun v σ' => v = some (.inl x) ∧ σ' = σ1 ∧ (x = 0 ∨ x = 1)
def kQv (σ1 : Wd) : Option JV → Wd → Prop := fun v σ' => v = none ∧ σ' = σ1
section KCALLS
variable {E : JE} {M : MI} {rm : Room} {pc pc' : Nat} {ls ls' : List (Option JV)} {st : List JV} {σ σ1 : Wd} {Q : Option JV → Wd → Prop} {x : Int32}
theorem kcVi {index ci r : Nat} {y : MethodName} {My : MI} {rmy : Room} {as : List JV} {stk : List JV} (hw : kVL M.1 index y My as.length ci) (hM : kMt E y My rmy (.inr r :: as) σ (kQi x σ1)) (hk : kKd r = ci) (hn : r < E.2.2.2.2.1) (hstk : as.reverse ++ .inr r :: st = stk) (hroom : (rmy.cells = 0 ∧ rmy.slots = 0) ∧ rmy.frames + 1 ≤ rm.frames ∧ 8 + (My.2.2.1 + 11) + rmy.locals ≤ rm.locals) (hlen : st.length ≤ 8) (hd : decode M.2.1 pc = .ok (.invokevirtual index, 3)) (hp : pc + 3 = pc') (kk : KJ E M rm pc' ls (.inl x :: st) σ1 Q) : KJ E M rm pc ls stk σ Q :=
  kj_callV hw hM hk hn hstk hroom hlen hd hp (fun v σ' h => by obtain ⟨rfl, rfl⟩ := h; exact kk)
theorem kcVz {index ci r : Nat} {y : MethodName} {My : MI} {rmy : Room} {as : List JV} {stk : List JV} (hw : kVL M.1 index y My as.length ci) (hM : kMt E y My rmy (.inr r :: as) σ (kQz x σ1)) (hk : kKd r = ci) (hn : r < E.2.2.2.2.1) (hstk : as.reverse ++ .inr r :: st = stk) (hroom : (rmy.cells = 0 ∧ rmy.slots = 0) ∧ rmy.frames + 1 ≤ rm.frames ∧ 8 + (My.2.2.1 + 11) + rmy.locals ≤ rm.locals) (hlen : st.length ≤ 8) (hd : decode M.2.1 pc = .ok (.invokevirtual index, 3)) (hp : pc + 3 = pc') (kk : (x = 0 ∨ x = 1) → KJ E M rm pc' ls (.inl x :: st) σ1 Q) : KJ E M rm pc ls stk σ Q :=
  kj_callV hw hM hk hn hstk hroom hlen hd hp (fun v σ' h => by obtain ⟨rfl, rfl, hz⟩ := h; exact kk hz)
theorem kcVv {index ci r : Nat} {y : MethodName} {My : MI} {rmy : Room} {as : List JV} {stk : List JV} (hw : kVL M.1 index y My as.length ci) (hM : kMt E y My rmy (.inr r :: as) σ (kQv σ1)) (hk : kKd r = ci) (hn : r < E.2.2.2.2.1) (hstk : as.reverse ++ .inr r :: st = stk) (hroom : (rmy.cells = 0 ∧ rmy.slots = 0) ∧ rmy.frames + 1 ≤ rm.frames ∧ 8 + (My.2.2.1 + 11) + rmy.locals ≤ rm.locals) (hlen : st.length ≤ 8) (hd : decode M.2.1 pc = .ok (.invokevirtual index, 3)) (hp : pc + 3 = pc') (kk : KJ E M rm pc' ls st σ1 Q) : KJ E M rm pc ls stk σ Q :=
  kj_callV hw hM hk hn hstk hroom hlen hd hp (fun v σ' h => by obtain ⟨rfl, rfl⟩ := h; exact kk)
theorem kcSi {index : Nat} {y : MethodName} {My : MI} {rmy : Room} {as : List JV} {stk : List JV} (hw : kSL M.1 index y My as.length) (hM : kMt E y My rmy as σ (kQi x σ1)) (hstk : as.reverse ++ st = stk) (hroom : (rmy.cells = 0 ∧ rmy.slots = 0) ∧ rmy.frames + 1 ≤ rm.frames ∧ 8 + (My.2.2.1 + 11) + rmy.locals ≤ rm.locals) (hlen : st.length ≤ 8) (hd : decode M.2.1 pc = .ok (.invokestatic index, 3)) (hp : pc + 3 = pc') (kk : KJ E M rm pc' ls (.inl x :: st) σ1 Q) : KJ E M rm pc ls stk σ Q :=
  kj_callS hw hM hstk hroom hlen hd hp (fun v σ' h => by obtain ⟨rfl, rfl⟩ := h; exact kk)
theorem kcSz {index : Nat} {y : MethodName} {My : MI} {rmy : Room} {as : List JV} {stk : List JV} (hw : kSL M.1 index y My as.length) (hM : kMt E y My rmy as σ (kQz x σ1)) (hstk : as.reverse ++ st = stk) (hroom : (rmy.cells = 0 ∧ rmy.slots = 0) ∧ rmy.frames + 1 ≤ rm.frames ∧ 8 + (My.2.2.1 + 11) + rmy.locals ≤ rm.locals) (hlen : st.length ≤ 8) (hd : decode M.2.1 pc = .ok (.invokestatic index, 3)) (hp : pc + 3 = pc') (kk : (x = 0 ∨ x = 1) → KJ E M rm pc' ls (.inl x :: st) σ1 Q) : KJ E M rm pc ls stk σ Q :=
  kj_callS hw hM hstk hroom hlen hd hp (fun v σ' h => by obtain ⟨rfl, rfl, hz⟩ := h; exact kk hz)
theorem kcSv {index : Nat} {y : MethodName} {My : MI} {rmy : Room} {as : List JV} {stk : List JV} (hw : kSL M.1 index y My as.length) (hM : kMt E y My rmy as σ (kQv σ1)) (hstk : as.reverse ++ st = stk) (hroom : (rmy.cells = 0 ∧ rmy.slots = 0) ∧ rmy.frames + 1 ≤ rm.frames ∧ 8 + (My.2.2.1 + 11) + rmy.locals ≤ rm.locals) (hlen : st.length ≤ 8) (hd : decode M.2.1 pc = .ok (.invokestatic index, 3)) (hp : pc + 3 = pc') (kk : KJ E M rm pc' ls st σ1 Q) : KJ E M rm pc ls stk σ Q :=
  kj_callS hw hM hstk hroom hlen hd hp (fun v σ' h => by obtain ⟨rfl, rfl⟩ := h; exact kk)
end KCALLS
/-- fuel: more than any loop here takes -/
def FU : Nat := 4096
theorem vp_lit {i : Int32} {n : Nat} (h : (decide (0 ≤ i) && decide (i.toNatClampNeg < n)) = true) : vp_in i n := by
  simp only [Bool.and_eq_true, decide_eq_true_eq] at h
  rintro (h1 | h1)
  · have h0 := h.1
    rw [Int32.le_iff_toInt_le] at h0
    rw [Int32.lt_iff_toInt_lt] at h1
    omega
  · omega
theorem zN {x : Int32} (h : x = 0 ∨ x = 1) : narrow .boolean (.int x) = .int x := by rcases h with rfl | rfl <;> decide +kernel
theorem tb_out {x : Int32} {hi : Nat} (h : ∀ k : Nat, k ≤ hi → ¬ x = Int32.ofNat k) (hb : hi < 2 ^ 31) : x.toInt < 0 ∨ (hi : Int) < x.toInt := by
  rcases Int.lt_or_le x.toInt 0 with h1 | h1
  · exact Or.inl h1
  · rcases Int.lt_or_le (hi : Int) x.toInt with h2 | h2
    · exact Or.inr h2
    · refine absurd ?_ (h x.toInt.toNat (by omega))
      apply Int32.toInt_inj.mp
      have e := nI_toInt (n := x.toInt.toNat) (by omega)
      rw [show Int32.ofNat x.toInt.toNat = nI x.toInt.toNat from rfl, e]
      omega
theorem lk_out {x : Int32} (h0 : ¬ x = 0) (h1 : ¬ x = 1) : Op.lookupswitch.offset (#[((0 : Int), (27 : Int)), (1, 40)] : Array (Int × Int)).toList 60 x.toInt = 60 := by
  have e0 : ¬ (0 : Int) = x.toInt := fun h => h0 (Int32.toInt_inj.mp (by rw [← h]; rfl))
  have e1 : ¬ (1 : Int) = x.toInt := fun h => h1 (Int32.toInt_inj.mp (by rw [← h]; rfl))
  have e0' : ¬ x.toInt = 0 := fun h => e0 h.symm
  have e1' : ¬ x.toInt = 1 := fun h => e1 h.symm
  simp [Op.lookupswitch.offset, e0, e1, e0', e1']
theorem kKd_lt {r k : Nat} (h : kKd r = k) (hk : k ≠ 99) : r < 140 := by
  rcases Nat.lt_or_ge r 140 with q | q
  · exact q
  · exfalso
    apply hk
    rw [← h, kKd, List.getD_eq_getElem?_getD, List.getElem?_eq_none (show kKdL.length ≤ r from q)]
    rfl
theorem kRow {r : Nat} (h : kKd r = 4) : kKd (r + 1) = 20 ∧ kRf r 0 = r + 1 ∧ r + 1 < 120 := (by decide +kernel : ∀ r, r < 140 → kKd r = 4 → (kKd (r + 1) = 20 ∧ kRf r 0 = r + 1 ∧ r + 1 < 120)) r (kKd_lt h (by decide)) h
theorem kSta {r : Nat} (h : kKd r = 7) : (kKd (r + 1) = 4 ∧ kKd (r + 2) = 20 ∧ kKd (r + 3) = 4 ∧ kKd (r + 4) = 20 ∧ kKd (r + 5) = 20) ∧ (kRf r 0 = r + 1 ∧ kRf r 1 = r + 3 ∧ kRf r 2 = r + 5 ∧ kRf (r + 1) 0 = r + 2 ∧ kRf (r + 3) 0 = r + 4) ∧ r + 5 < 120 := (by decide +kernel : ∀ r, r < 140 → kKd r = 7 → ((kKd (r + 1) = 4 ∧ kKd (r + 2) = 20 ∧ kKd (r + 3) = 4 ∧ kKd (r + 4) = 20 ∧ kKd (r + 5) = 20) ∧ (kRf r 0 = r + 1 ∧ kRf r 1 = r + 3 ∧ kRf r 2 = r + 5 ∧ kRf (r + 1) 0 = r + 2 ∧ kRf (r + 3) 0 = r + 4) ∧ r + 5 < 120)) r (kKd_lt h (by decide)) h
theorem kk4_1 {r : Nat} (h : kKd r = 4) : kKd (r + 1) = 20 := (kRow h).1
theorem kr4_0_0 {r : Nat} (h : kKd r = 4) : kRf r 0 = r + 1 := (kRow h).2.1
theorem kn4_0 {r : Nat} (h : kKd r = 4) : r < 120 := Nat.lt_of_succ_lt (kRow h).2.2
theorem kn4_1 {r : Nat} (h : kKd r = 4) : r + 1 < 120 := (kRow h).2.2
theorem kk7_1 {r : Nat} (h : kKd r = 7) : kKd (r + 1) = 4 := (kSta h).1.1
theorem kk7_2 {r : Nat} (h : kKd r = 7) : kKd (r + 2) = 20 := (kSta h).1.2.1
theorem kk7_3 {r : Nat} (h : kKd r = 7) : kKd (r + 3) = 4 := (kSta h).1.2.2.1
theorem kk7_4 {r : Nat} (h : kKd r = 7) : kKd (r + 4) = 20 := (kSta h).1.2.2.2.1
theorem kk7_5 {r : Nat} (h : kKd r = 7) : kKd (r + 5) = 20 := (kSta h).1.2.2.2.2
theorem kr7_0_0 {r : Nat} (h : kKd r = 7) : kRf r 0 = r + 1 := (kSta h).2.1.1
theorem kr7_0_1 {r : Nat} (h : kKd r = 7) : kRf r 1 = r + 3 := (kSta h).2.1.2.1
theorem kr7_0_2 {r : Nat} (h : kKd r = 7) : kRf r 2 = r + 5 := (kSta h).2.1.2.2.1
theorem kr7_1_0 {r : Nat} (h : kKd r = 7) : kRf (r + 1) 0 = r + 2 := (kSta h).2.1.2.2.2.1
theorem kr7_3_0 {r : Nat} (h : kKd r = 7) : kRf (r + 3) 0 = r + 4 := (kSta h).2.1.2.2.2.2
theorem kn7_0 {r : Nat} (h : kKd r = 7) : r < 120 := by have := (kSta h).2.2; omega
theorem kn7_1 {r : Nat} (h : kKd r = 7) : r + 1 < 120 := by have := (kSta h).2.2; omega
theorem kn7_2 {r : Nat} (h : kKd r = 7) : r + 2 < 120 := by have := (kSta h).2.2; omega
theorem kn7_3 {r : Nat} (h : kKd r = 7) : r + 3 < 120 := by have := (kSta h).2.2; omega
theorem kn7_4 {r : Nat} (h : kKd r = 7) : r + 4 < 120 := by have := (kSta h).2.2; omega
theorem kn7_5 {r : Nat} (h : kKd r = 7) : r + 5 < 120 := (kSta h).2.2
theorem kPast {i : Int32} (h : vp_in i (kLn 14)) : kKd (kRf 14 i.toNatClampNeg) = 7 := (by decide +kernel : ∀ j, j < 12 → kKd (kRf 14 j) = 7) _ (Nat.not_le.mp fun q => h (Or.inr q))
theorem kMemL {ws : List Cond} (ps : List Nat) (hp : ws = ps.filterMap (fun i => lw_tbl[i]?)) (hg : ws.all goodWord = true) : ∀ w ∈ ws, w ∈ kTb := fun w h => List.mem_filter.mpr ⟨(goodIn_r ws ps hp hg w h).1, List.all_eq_true.mp hg w h⟩
