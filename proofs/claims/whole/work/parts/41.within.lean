/-! inner unions and the base -/
theorem testBit_un {S : List Nat} {i : Nat} : (un S).testBit i = true ↔ ∃ x ∈ S, x.testBit i = true := by
  induction S with
  | nil => simp [un]
  | cons x r ih => rw [un_cons, Nat.testBit_or, Bool.or_eq_true, ih]; simp
theorem nat_ext {a b : Nat} (h : ∀ i, a.testBit i = true ↔ b.testBit i = true) : a = b :=
  Nat.eq_of_testBit_eq (fun i => Bool.eq_iff_iff.mpr (h i))
theorem un_ext {S T : List Nat} (h : ∀ x, x ∈ S ↔ x ∈ T) : un S = un T := nat_ext (fun i => by
  rw [testBit_un, testBit_un]
  constructor
  · rintro ⟨x, h1, h2⟩; exact ⟨x, (h x).mp h1, h2⟩
  · rintro ⟨x, h1, h2⟩; exact ⟨x, (h x).mpr h1, h2⟩)
def subB (a b : Nat) : Bool := a &&& b == a
theorem subB_iff {a b : Nat} : subB a b = true ↔ a &&& b = a := by simp [subB]
theorem sub_bit {a b : Nat} : a &&& b = a ↔ ∀ i, a.testBit i = true → b.testBit i = true := by
  constructor
  · intro h i hi
    rw [← h, Nat.testBit_and, Bool.and_eq_true] at hi
    exact hi.2
  · intro h
    refine nat_ext (fun i => ?_)
    rw [Nat.testBit_and, Bool.and_eq_true]
    exact ⟨fun hh => hh.1, fun hh => ⟨hh, h i hh⟩⟩
def inn (gs : List Nat) (t : Nat) : Nat := un ((mems gs).filter (fun m => subB m t))
def innA (gs : List Nat) (t : Nat) : Nat := un ((mems gs).filter (fun m => subB m t && m != t))
theorem inn_lt (gs : List Nat) (t : Nat) : inn gs t < 128 := un_lt (fun x hx => mems_lt (List.mem_filter.mp hx).1)
theorem innA_lt (gs : List Nat) (t : Nat) : innA gs t < 128 := un_lt (fun x hx => mems_lt (List.mem_filter.mp hx).1)
theorem inn_bit {gs : List Nat} {t i : Nat} : (inn gs t).testBit i = true ↔ ∃ m ∈ mems gs, m &&& t = m ∧ m.testBit i = true := by
  unfold inn; rw [testBit_un]
  simp only [List.mem_filter, subB_iff]
  constructor
  · rintro ⟨x, ⟨h1, h2⟩, h3⟩; exact ⟨x, h1, h2, h3⟩
  · rintro ⟨x, h1, h2, h3⟩; exact ⟨x, ⟨h1, h2⟩, h3⟩
theorem innA_bit {gs : List Nat} {t i : Nat} : (innA gs t).testBit i = true ↔ ∃ m ∈ mems gs, m &&& t = m ∧ m ≠ t ∧ m.testBit i = true := by
  unfold innA; rw [testBit_un]
  simp only [List.mem_filter, Bool.and_eq_true, subB_iff, bne_iff_ne]
  constructor
  · rintro ⟨x, ⟨h1, h2, h4⟩, h3⟩; exact ⟨x, h1, h2, h4, h3⟩
  · rintro ⟨x, h1, h2, h4, h3⟩; exact ⟨x, ⟨h1, h2, h4⟩, h3⟩
theorem inn_sub (gs : List Nat) (t : Nat) : inn gs t &&& t = inn gs t := sub_bit.mpr (fun i hi => by
  obtain ⟨m, h1, h2, h3⟩ := inn_bit.mp hi
  exact sub_bit.mp h2 i h3)
theorem mem_iff_famB {gs : List Nat} {t : Nat} (ht : t < 128) : t ∈ mems gs ↔ famB gs t = true :=
  ⟨fun h => (List.mem_filter.mp h).2, fun h => List.mem_filter.mpr ⟨ordS_all t ht, h⟩⟩
theorem inn_in {gs : List Nat} {t : Nat} (h : t ∈ mems gs) : inn gs t = t := nat_ext (fun i => by
  constructor
  · intro hi; exact sub_bit.mp (inn_sub gs t) i hi
  · intro hi; exact inn_bit.mpr ⟨t, h, Nat.and_self t, hi⟩)
theorem inn_out {gs : List Nat} {t : Nat} (h : t ∉ mems gs) : inn gs t = innA gs t := nat_ext (fun i => by
  rw [inn_bit, innA_bit]
  constructor
  · rintro ⟨m, h1, h2, h3⟩; exact ⟨m, h1, h2, fun e => h (e ▸ h1), h3⟩
  · rintro ⟨m, h1, h2, -, h3⟩; exact ⟨m, h1, h2, h3⟩)
theorem f_proper : ∀ m, m < 128 → ∀ t, t < 128 → (decide (m &&& t = m ∧ m ≠ t)) = (List.range 7).any (fun p => t.testBit p && decide (m &&& (t &&& (127 ^^^ 2 ^ p)) = m)) := by decide +kernel
theorem f_less : ∀ t, t < 128 → ∀ p, p < 7 → ((t &&& (127 ^^^ 2 ^ p) = t ↔ t.testBit p = false) ∧ (t.testBit p = true → t &&& (127 ^^^ 2 ^ p) < t)) := by decide +kernel
theorem f_pow_lt {p : Nat} (hp : p < 7) : 2 ^ p < 128 := (by decide : ∀ p, p < 7 → 2 ^ p < 128) p hp
