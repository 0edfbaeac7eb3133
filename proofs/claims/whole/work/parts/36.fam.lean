/-! ===== families: unions of generators ===== -/
def un (S : List Nat) : Nat := S.foldl (· ||| ·) 0
theorem foldl_or (S : List Nat) : ∀ a, S.foldl (· ||| ·) a = a ||| un S := by
  unfold un
  induction S with
  | nil => intro a; simp
  | cons x t ih =>
    intro a
    simp only [List.foldl_cons]
    rw [ih (a ||| x), ih (0 ||| x), Nat.zero_or, Nat.or_assoc]
theorem un_cons (x : Nat) (S : List Nat) : un (x :: S) = x ||| un S := by
  unfold un
  rw [List.foldl_cons, Nat.zero_or]
  exact foldl_or S x
theorem un_app (S T : List Nat) : un (S ++ T) = un S ||| un T := by
  unfold un
  rw [List.foldl_append]
  exact foldl_or T _
theorem un_one (x : Nat) : un [x] = x := by simp [un]
theorem or_lt {a b : Nat} (ha : a < 128) (hb : b < 128) : a ||| b < 128 := Nat.or_lt_two_pow (n := 7) ha hb
theorem un_lt {S : List Nat} (h : ∀ x ∈ S, x < 128) : un S < 128 := by
  induction S with
  | nil => decide
  | cons x t ih =>
    rw [un_cons]
    exact or_lt (h x (by simp)) (ih (fun y hy => h y (by simp [hy])))
/-- a set is a union of c of them (one may be taken again) -/
def Rch (gs : List Nat) (c t : Nat) : Prop := ∃ S : List Nat, (∀ x ∈ S, x ∈ gs) ∧ S.length = c ∧ un S = t
def Mem (gs : List Nat) (t : Nat) : Prop := ∃ S : List Nat, (∀ x ∈ S, x ∈ gs) ∧ un S = t
theorem Mem.zero (gs : List Nat) : Mem gs 0 := ⟨[], by simp, rfl⟩
theorem Mem.or {gs : List Nat} {s t : Nat} (h : Mem gs s) (h' : Mem gs t) : Mem gs (s ||| t) := by
  obtain ⟨S, h1, h2⟩ := h
  obtain ⟨T, h3, h4⟩ := h'
  refine ⟨S ++ T, fun x hx => ?_, by rw [un_app, h2, h4]⟩
  rcases List.mem_append.mp hx with h | h
  · exact h1 x h
  · exact h3 x h
theorem Mem.gen {gs : List Nat} {g : Nat} (h : g ∈ gs) : Mem gs g := ⟨[g], by simpa using h, un_one g⟩
theorem Mem.mono {gs hs : List Nat} {t : Nat} (h : Mem gs t) (hs' : ∀ x ∈ gs, x ∈ hs) : Mem hs t := by
  obtain ⟨S, h1, h2⟩ := h
  exact ⟨S, fun x hx => hs' x (h1 x hx), h2⟩
theorem Mem.lt {gs : List Nat} {t : Nat} (h : Mem gs t) (hg : ∀ x ∈ gs, x < 128) : t < 128 := by
  obtain ⟨S, h1, rfl⟩ := h
  exact un_lt (fun x hx => hg x (h1 x hx))
theorem mem_iff_rch {gs : List Nat} {t : Nat} : Mem gs t ↔ ∃ c, Rch gs c t := ⟨fun ⟨S, h1, h2⟩ => ⟨S.length, S, h1, rfl, h2⟩, fun ⟨_, S, h1, _, h2⟩ => ⟨S, h1, h2⟩⟩
/-- one more generator -/
theorem mem_snoc {gs : List Nat} {g t : Nat} : Mem (gs ++ [g]) t ↔ Mem gs t ∨ ∃ s, Mem gs s ∧ s ||| g = t := by
  constructor
  · rintro ⟨S, h1, h2⟩
    have key : ∀ S : List Nat, (∀ x ∈ S, x ∈ gs ++ [g]) → Mem gs (un S) ∨ ∃ s, Mem gs s ∧ s ||| g = un S := by
      intro S
      induction S with
      | nil => intro _; exact Or.inl (Mem.zero gs)
      | cons x r ih =>
        intro h
        have hx := h x (by simp)
        have hr := ih (fun y hy => h y (by simp [hy]))
        rw [un_cons]
        simp only [List.mem_append, List.mem_cons, List.not_mem_nil, or_false] at hx
        rcases hx with hx | rfl
        · rcases hr with hr | ⟨s, hs, he⟩
          · exact Or.inl ((Mem.gen hx).or hr)
          · exact Or.inr ⟨x ||| s, (Mem.gen hx).or hs, by rw [Nat.or_assoc, he]⟩
        · rcases hr with hr | ⟨s, hs, he⟩
          · exact Or.inr ⟨un r, hr, Nat.or_comm _ _⟩
          · refine Or.inr ⟨s, hs, ?_⟩
            rw [← he, Nat.or_comm x (s ||| x), Nat.or_assoc, Nat.or_self]
    rw [← h2]
    exact key S h1
  · rintro (h | ⟨s, hs, rfl⟩)
    · exact h.mono (fun x hx => by simp [hx])
    · exact (hs.mono (fun x hx => by simp [hx])).or (Mem.gen (by simp))
/-! the reference's marks -/
def mstep (own : Nat) (g : Nat → Int32) (k : Nat) : Nat → Int32 := if g k = 0 then g else upd g (k ||| own) 1
def mpass (g : Nat → Int32) (own : Nat) : Nat → Int32 := (List.range 128).foldl (mstep own) g
theorem mpass_spec {g : Nat → Int32} {own : Nat} (ho : own < 128) (hb : ∀ t, t < 128 → g t = 0 ∨ g t = 1) : (∀ t, t < 128 → mpass g own t = 0 ∨ mpass g own t = 1) ∧ ∀ t, t < 128 → (mpass g own t ≠ 0 ↔ g t ≠ 0 ∨ ∃ s, s < 128 ∧ g s ≠ 0 ∧ s ||| own = t) := by
  have key : ∀ k, k ≤ 128 → ∀ G, G = (List.range k).foldl (mstep own) g → (∀ t, t < 128 → G t = 0 ∨ G t = 1) ∧ (∀ t, t < 128 → G t ≠ 0 → g t ≠ 0 ∨ ∃ s, s < 128 ∧ g s ≠ 0 ∧ s ||| own = t) ∧ (∀ t, g t ≠ 0 → G t ≠ 0) ∧ ∀ s, s < k → g s ≠ 0 → G (s ||| own) ≠ 0 := by
    intro k
    induction k with
    | zero =>
      intro _ G hG
      subst hG
      exact ⟨hb, fun t _ h => Or.inl h, fun t h => h, fun s hs => by omega⟩
    | succ k ih =>
      intro hk G hG
      rw [List.range_succ, List.foldl_append] at hG
      obtain ⟨i1, i2, i3, i4⟩ := ih (by omega) _ rfl
      generalize (List.range k).foldl (mstep own) g = G0 at hG i1 i2 i3 i4
      simp only [List.foldl_cons, List.foldl_nil] at hG
      unfold mstep at hG
      by_cases hz : G0 k = 0
      · rw [if_pos hz] at hG
        subst hG
        refine ⟨i1, i2, i3, fun s hs hgs => ?_⟩
        rcases Nat.lt_or_ge s k with h | h
        · exact i4 s h hgs
        · have : s = k := by omega
          subst this
          exact absurd hz (i3 s hgs)
      · rw [if_neg hz] at hG
        subst hG
        refine ⟨fun t ht => ?_, fun t ht h => ?_, fun t h => ?_, fun s hs hgs => ?_⟩
        · unfold upd
          by_cases e : t = k ||| own
          · rw [if_pos e]; exact Or.inr rfl
          · rw [if_neg e]; exact i1 t ht
        · unfold upd at h
          by_cases e : t = k ||| own
          · right
            rcases i2 k (by omega) hz with h' | ⟨s, h1, h2, h3⟩
            · exact ⟨k, by omega, h', e.symm⟩
            · refine ⟨s, h1, h2, ?_⟩
              rw [e, ← h3, Nat.or_assoc, Nat.or_self]
          · rw [if_neg e] at h
            exact i2 t ht h
        · unfold upd
          by_cases e : t = k ||| own
          · rw [if_pos e]; decide
          · rw [if_neg e]; exact i3 t h
        · unfold upd
          by_cases e : s ||| own = k ||| own
          · rw [if_pos e]; decide
          · rw [if_neg e]
            rcases Nat.lt_or_ge s k with h | h
            · exact i4 s h hgs
            · have : s = k := by omega
              subst this
              exact absurd rfl e
  obtain ⟨h1, h2, h3, h4⟩ := key 128 (Nat.le_refl _) _ rfl
  refine ⟨h1, fun t ht => ⟨h2 t ht, ?_⟩⟩
  rintro (h | ⟨s, hs, hg, rfl⟩)
  · exact h3 t h
  · exact h4 s hs hg
theorem mpass_mem : ∀ (owns gs : List Nat) (g : Nat → Int32), (∀ x ∈ owns, x < 128) → (∀ x ∈ gs, x < 128) → (∀ t, t < 128 → g t = 0 ∨ g t = 1) → (∀ t, t < 128 → (g t ≠ 0 ↔ Mem gs t)) → (∀ t, t < 128 → owns.foldl mpass g t = 0 ∨ owns.foldl mpass g t = 1) ∧ ∀ t, t < 128 → (owns.foldl mpass g t ≠ 0 ↔ Mem (gs ++ owns) t)
  | [], gs, g, _, _, hb, hm => by simpa using ⟨hb, hm⟩
  | o :: owns, gs, g, ho, hg, hb, hm => by
    have h1 := mpass_spec (ho o (by simp)) hb
    have := mpass_mem owns (gs ++ [o]) (mpass g o) (fun x hx => ho x (by simp [hx])) (fun x hx => by
      simp only [List.mem_append, List.mem_cons, List.not_mem_nil, or_false] at hx
      rcases hx with h | rfl
      · exact hg x h
      · exact ho x (by simp)) h1.1 (fun t ht => by
        rw [h1.2 t ht, mem_snoc, hm t ht]
        constructor
        · rintro (h | ⟨s, hs, hgs, e⟩)
          · exact Or.inl h
          · exact Or.inr ⟨s, (hm s hs).mp hgs, e⟩
        · rintro (h | ⟨s, hs, e⟩)
          · exact Or.inl h
          · exact Or.inr ⟨s, hs.lt hg, (hm s (hs.lt hg)).mpr hs, e⟩)
    simpa using this
