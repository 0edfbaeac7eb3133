/-! ===== rows ===== -/
def RowR (σ : Wd) (r : Nat) (xs : List Nat) : Prop := σ r 1 = nI xs.length ∧ ∀ i, i < xs.length → σ (r + 1) i = nI (xs.getD i 0)
theorem RowR.cg {σ σ' : Wd} {r : Nat} {xs : List Nat} (h : RowR σ r xs) (h1 : σ' r = σ r) (h2 : σ' (r + 1) = σ (r + 1)) : RowR σ' r xs := by
  refine ⟨by rw [h1]; exact h.1, fun i hi => by rw [h2]; exact h.2 i hi⟩
/-- σ' is σ but for the places of a list -/
def Fr (σ σ' : Wd) (ps : List Nat) : Prop := ∀ q, q ∉ ps → σ' q = σ q
theorem Fr.rf (σ : Wd) (ps : List Nat) : Fr σ σ ps := fun _ _ => rfl
theorem Fr.tr {σ σ1 σ2 : Wd} {ps qs : List Nat} (h1 : Fr σ σ1 ps) (h2 : Fr σ1 σ2 qs) : Fr σ σ2 (ps ++ qs) := fun q hq => by
  rw [h2 q (fun h => hq (List.mem_append_right _ h)), h1 q (fun h => hq (List.mem_append_left _ h))]
theorem Fr.mono {σ σ1 : Wd} {ps qs : List Nat} (h1 : Fr σ σ1 ps) (h : ∀ q ∈ ps, q ∈ qs) : Fr σ σ1 qs := fun q hq => h1 q (fun z => hq (h q z))
theorem Fr.up {σ : Wd} {a i : Nat} {x : Int32} {ps : List Nat} (h : a ∈ ps) : Fr σ (up σ a i x) ps := fun q hq => up_ne σ i x (fun e => hq (e ▸ h))
def atv (xs : List Nat) (x : Int32) : Int32 := if x < 0 ∨ nI xs.length ≤ x then -1 else nI (xs.getD x.toNatClampNeg 0)
theorem atv_in {xs : List Nat} {i : Nat} (h : i < xs.length) (hl : xs.length < 2 ^ 31) : atv xs (nI i) = nI (xs.getD i 0) := by
  unfold atv
  rw [if_neg, ncl (by omega)]
  rintro (q | q)
  · exact nneg (by omega) q
  · rw [nle hl (by omega)] at q; omega
theorem row_at {σ : Wd} {r : Nat} {xs : List Nat} (h : RowR σ r xs) (hl : xs.length ≤ kLn (r + 1)) (hk : kLn (r + 1) ≤ 512) (x : Int32) : X4_at σ r x = some (atv xs x) := by
  unfold X4_at atv
  rcases pk_ix x (n := xs.length) (by omega) with h1 | h1 | ⟨j, hj, rfl⟩
  · rw [if_pos h1, if_pos (Or.inl h1)]
  · by_cases h0 : x < 0
    · rw [if_pos h0, if_pos (Or.inl h0)]
    · rw [if_neg h0, h.1, if_pos h1, if_pos (Or.inr h1)]
  · have a1 : ¬ nI j < 0 := nneg (by omega)
    have a2 : ¬ nI xs.length ≤ nI j := by rw [nle (by omega) (by omega)]; omega
    have a3 : ¬ nI (kLn (r + 1)) ≤ nI j := by rw [nle (by omega) (by omega)]; omega
    rw [if_neg a1, h.1, if_neg a2, if_neg a3, ckA_n (by omega) (by omega), ncl (by omega), h.2 j hj, if_neg]
    rintro (q | q)
    · exact a1 q
    · exact a2 q
theorem row_at_in {σ : Wd} {r : Nat} {xs : List Nat} (h : RowR σ r xs) (hl : xs.length ≤ kLn (r + 1)) (hk : kLn (r + 1) ≤ 512) {i : Nat} (hi : i < xs.length) : X4_at σ r (nI i) = some (nI (xs.getD i 0)) := by
  rw [row_at h hl hk, atv_in hi (by omega)]
theorem row_find {σ : Wd} {r : Nat} {xs : List Nat} (h : RowR σ r xs) (hl : xs.length ≤ kLn (r + 1)) (hk : kLn (r + 1) ≤ 512) (hb : ∀ x ∈ xs, x < 2 ^ 31) {s : Nat} (hs : s < 2 ^ 31) : ∃ v, X4_find σ r (nI s) = some v ∧ (v = -1 ↔ s ∉ xs) := by
  unfold X4_find
  have hg : ∀ k, k < xs.length → xs.getD k 0 < 2 ^ 31 := fun k hk => hb _ (by rw [List.getD_eq_getElem?_getD, List.getElem?_eq_getElem hk]; exact List.getElem_mem hk)
  -- the first place
  have step : ∀ k, k < xs.length → ∀ rec, X4_find_B2 σ r (nI s) rec (nI k) = if xs.getD k 0 = s then some (nI k) else rec (nI (k + 1)) := by
    intro k hk' rec
    rw [X4_find_B2, h.1]
    have a2 : ¬ nI xs.length ≤ nI k := by rw [nle (by omega) (by omega)]; omega
    have a3 : ¬ nI (kLn (r + 1)) ≤ nI k := by rw [nle (by omega) (by omega)]; omega
    rw [if_neg a2, if_neg a3, ckA_n (by omega) (by omega), ncl (by omega), h.2 k hk', nI_1]
    by_cases e : xs.getD k 0 = s
    · rw [if_pos e, e, if_pos rfl]
    · rw [if_neg e, if_neg (fun q => e ((neq (hg k hk') hs).mp q))]
  have exit : ∀ rec, X4_find_B2 σ r (nI s) rec (nI xs.length) = some (-1) := by
    intro rec
    rw [X4_find_B2, h.1, if_pos ((nle (by omega) (by omega)).mpr (Nat.le_refl _))]
  by_cases hm : s ∈ xs
  · obtain ⟨i, hi, he⟩ := List.getElem_of_mem hm
    -- least index
    have : ∃ N, N < xs.length ∧ xs.getD N 0 = s ∧ ∀ k, k < N → xs.getD k 0 ≠ s := by
      have hex : ∃ N, N < xs.length ∧ xs.getD N 0 = s := ⟨i, hi, by rw [List.getD_eq_getElem?_getD, List.getElem?_eq_getElem hi]; exact he⟩
      have : ∀ n, (∃ N, N < n ∧ N < xs.length ∧ xs.getD N 0 = s) → ∃ N, N < xs.length ∧ xs.getD N 0 = s ∧ ∀ k, k < N → xs.getD k 0 ≠ s := by
        intro n
        induction n with
        | zero => rintro ⟨N, h1, -⟩; omega
        | succ n ih =>
          rintro ⟨N, h1, h2, h3⟩
          by_cases hx : ∃ N, N < n ∧ N < xs.length ∧ xs.getD N 0 = s
          · exact ih hx
          · refine ⟨N, h2, h3, fun k hk e => hx ⟨k, by omega, by omega, e⟩⟩
      obtain ⟨N, h1, h2⟩ := hex
      exact this (N + 1) ⟨N, by omega, h1, h2⟩
    obtain ⟨N, h1, h2, h3⟩ := this
    refine ⟨nI N, ?_, ?_⟩
    · refine lp_tr (fun k => nI k) N _ rfl (by omega) (fun k hk' rec => ?_) (fun rec => ?_)
      · rw [step k (by omega), if_neg (h3 k hk')]
      · rw [step N h1, if_pos h2]
    · constructor
      · intro e
        exfalso
        have : nI N < 0 := by rw [e]; decide
        exact nneg (by omega) this
      · intro e; exact absurd hm e
  · refine ⟨-1, ?_, by simp [hm]⟩
    refine lp_tr (fun k => nI k) xs.length _ rfl (by omega) (fun k hk' rec => ?_) exit
    rw [step k hk', if_neg]
    intro e
    apply hm
    rw [← e, List.getD_eq_getElem?_getD, List.getElem?_eq_getElem hk']
    exact List.getElem_mem hk'
theorem row_append {σ : Wd} {r : Nat} {xs : List Nat} (h : RowR σ r xs) (hl : xs.length < kLn (r + 1)) (hk : kLn (r + 1) ≤ 512) (x : Nat) : ∃ σ', X4_append σ r (nI x) = some σ' ∧ RowR σ' r (xs ++ [x]) ∧ Fr σ σ' [r, r + 1] := by
  refine ⟨up (up σ (r + 1) xs.length (nI x)) r 1 (nI (xs.length + 1)), ?_, ⟨?_, ?_⟩, ?_⟩
  · unfold X4_append
    have e1 : ∀ v, (up σ (r + 1) xs.length v) r 1 = nI xs.length := fun v => by rw [up_ne σ _ _ (by omega)]; exact h.1
    rw [h.1, if_neg (nneg (by omega)), if_neg (by rw [nle (by omega) (by omega)]; omega), ckA_n hl (by omega), ncl (by omega), e1, nI_1]
  · rw [up_get]; simp
  · intro i hi
    rw [up_ne _ _ _ (by omega), up_get]
    simp only [List.length_append, List.length_cons, List.length_nil] at hi
    by_cases e : i = xs.length
    · subst e; simp
    · rw [if_neg (by simp [e]), h.2 i (by omega)]
      simp [List.getD_eq_getElem?_getD, List.getElem?_append_left (show i < xs.length by omega)]
  · exact fun q hq => by
      simp only [List.mem_cons, List.not_mem_nil, or_false, not_or] at hq
      rw [up_ne _ _ _ hq.1, up_ne _ _ _ hq.2]
theorem row_full {σ : Wd} {r : Nat} {xs : List Nat} (h : RowR σ r xs) (hl : xs.length = kLn (r + 1)) (hk : kLn (r + 1) ≤ 512) (x : Int32) : X4_append σ r x = some σ := by
  unfold X4_append
  rw [h.1, if_neg (nneg (by omega)), if_pos (by rw [nle (by omega) (by omega)]; omega)]
theorem row_clear {σ : Wd} {r : Nat} : RowR (X4_clear σ r) r [] ∧ Fr σ (X4_clear σ r) [r] := by
  refine ⟨⟨by rw [X4_clear, up_get]; simp; rfl, fun i hi => by simp at hi⟩, Fr.up (by simp)⟩
theorem row_replace {σ : Wd} {r : Nat} {xs : List Nat} (h : RowR σ r xs) (hl : xs.length ≤ kLn (r + 1)) (hk : kLn (r + 1) ≤ 512) {i : Nat} (hi : i < xs.length) (x : Nat) : ∃ σ', X4_replace σ r (nI i) (nI x) = some σ' ∧ RowR σ' r (xs.set i x) ∧ Fr σ σ' [r + 1] := by
  refine ⟨up σ (r + 1) i (nI x), ?_, ⟨?_, ?_⟩, Fr.up (by simp)⟩
  · unfold X4_replace
    rw [if_neg (nneg (by omega)), h.1, if_neg (by rw [nle (by omega) (by omega)]; omega), if_neg (by rw [nle (by omega) (by omega)]; omega), ckA_n (by omega) (by omega), ncl (by omega)]
  · rw [up_ne _ _ _ (by omega), h.1]; simp
  · intro j hj
    simp only [List.length_set] at hj
    rw [up_get]
    by_cases e : j = i
    · subst e; simp [List.getD_eq_getElem?_getD, List.getElem?_set_self hj]
    · rw [if_neg (by simp [e]), h.2 j hj]
      simp [List.getD_eq_getElem?_getD, List.getElem?_set_ne (Ne.symm e)]
