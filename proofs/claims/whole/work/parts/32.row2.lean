theorem at_raw {σ : Wd} {r len j : Nat} (h : σ r 1 = nI len) (hj : j < len) (hl : len ≤ kLn (r + 1)) (hk : kLn (r + 1) ≤ 512) : X4_at σ r (nI j) = some (σ (r + 1) j) := by
  unfold X4_at
  rw [if_neg (nneg (by omega)), h, if_neg (by rw [nle (by omega) (by omega)]; omega), if_neg (by rw [nle (by omega) (by omega)]; omega), ckA_n (by omega) (by omega), ncl (by omega)]
theorem rep_raw {σ : Wd} {r len j : Nat} {x : Int32} (h : σ r 1 = nI len) (hj : j < len) (hl : len ≤ kLn (r + 1)) (hk : kLn (r + 1) ≤ 512) : X4_replace σ r (nI j) x = some (up σ (r + 1) j x) := by
  unfold X4_replace
  rw [if_neg (nneg (by omega)), h, if_neg (by rw [nle (by omega) (by omega)]; omega), if_neg (by rw [nle (by omega) (by omega)]; omega), ckA_n (by omega) (by omega), ncl (by omega)]
theorem app_raw {σ : Wd} {r len : Nat} {x : Int32} (h : σ r 1 = nI len) (hl : len < kLn (r + 1)) (hk : kLn (r + 1) ≤ 512) : X4_append σ r x = some (up (up σ (r + 1) len x) r 1 (nI (len + 1))) := by
  unfold X4_append
  have e1 : ∀ v, (up σ (r + 1) len v) r 1 = nI len := fun v => by rw [up_ne σ _ _ (by omega)]; exact h
  rw [h, if_neg (nneg (by omega)), if_neg (by rw [nle (by omega) (by omega)]; omega), ckA_n hl (by omega), ncl (by omega), e1, nI_1]
theorem getD_eraseIdx (xs : List Nat) (i j : Nat) : (xs.eraseIdx i).getD j 0 = if j < i then xs.getD j 0 else xs.getD (j + 1) 0 := by
  simp only [List.getD_eq_getElem?_getD, List.getElem?_eraseIdx]
  by_cases h : j < i <;> simp [h]
theorem row_cutOut {σ : Wd} {r : Nat} {xs : List Nat} (h : RowR σ r xs) (hl : xs.length ≤ kLn (r + 1)) (hk : kLn (r + 1) ≤ 512) {i : Nat} (hi : i < xs.length) : ∃ σ', X4_cutOut σ r (nI i) = some σ' ∧ RowR σ' r (xs.eraseIdx i) ∧ Fr σ σ' [r, r + 1] := by
  obtain ⟨f, hf⟩ : ∃ f : Nat → Wd, ∀ k q t, f k q t = if q = r + 1 ∧ i ≤ t ∧ t < i + k then nI (xs.getD (t + 1) 0) else σ q t := ⟨fun k q t => if q = r + 1 ∧ i ≤ t ∧ t < i + k then nI (xs.getD (t + 1) 0) else σ q t, fun _ _ _ => rfl⟩
  have hfr : ∀ k, f k r = σ r := fun k => by
    funext t; rw [hf, if_neg (by omega)]
  have hN : ∀ k, f k r 1 = nI xs.length := fun k => by rw [hfr]; exact h.1
  refine ⟨up (f (xs.length - 1 - i)) r 1 (nI (xs.length - 1)), ?_, ⟨?_, ?_⟩, ?_⟩
  · unfold X4_cutOut
    rw [if_neg (nneg (by omega)), h.1, if_pos (by rw [nlt (by omega) (by omega)]; exact hi)]
    refine lp_tr (fun k => (nI (i + k), f k)) (xs.length - 1 - i) _ ?_ (by omega) (fun k hk' rec => ?_) (fun rec => ?_)
    · show (nI i, σ) = (nI (i + 0), f 0)
      congr 1
      funext q t
      rw [hf, if_neg (by omega)]
    · show X4_cutOut_B15 r rec (nI (i + k), f k) = _
      rw [X4_cutOut_B15, hN, nI_1, if_neg (by rw [nle (by omega) (by omega)]; omega), at_raw (hN k) (by omega) hl hk]
      show (X4_replace (f k) r (nI (i + k)) (f k (r + 1) (i + k + 1))).bind _ = _
      rw [rep_raw (hN k) (by omega) hl hk]
      show rec (nI (i + k + 1), _) = rec (nI (i + (k + 1)), f (k + 1))
      congr 2
      funext q t
      have hv : f k (r + 1) (i + k + 1) = nI (xs.getD (i + k + 1) 0) := by rw [hf, if_neg (by omega), h.2 _ (by omega)]
      rw [up_get, hv, hf, hf]
      by_cases ht : q = r + 1 ∧ t = i + k
      · rw [if_pos ht, if_pos (by omega), ht.2]
      · rw [if_neg ht]
        by_cases h2 : q = r + 1 ∧ i ≤ t ∧ t < i + k
        · rw [if_pos h2, if_pos (by omega)]
        · rw [if_neg h2, if_neg (by omega)]
    · show X4_cutOut_B15 r rec (nI (i + (xs.length - 1 - i)), f (xs.length - 1 - i)) = _
      rw [X4_cutOut_B15, hN, nI_1, if_pos (by rw [nle (by omega) (by omega)]; omega)]
      congr 2
      exact nsub (a := xs.length) (b := 1) (by omega)
  · rw [up_get]
    simp [List.length_eraseIdx, hi]
  · intro j hj
    simp only [List.length_eraseIdx, hi, if_true] at hj
    rw [up_ne _ _ _ (by omega), getD_eraseIdx, hf]
    by_cases h2 : j < i
    · rw [if_pos h2, if_neg (by omega), h.2 j (by omega)]
    · rw [if_neg h2, if_pos (by omega)]
  · intro q hq
    simp only [List.mem_cons, List.not_mem_nil, or_false, not_or] at hq
    rw [up_ne _ _ _ hq.1]
    funext t
    rw [hf, if_neg (by omega)]
theorem row_copy {σ : Wd} {r q : Nat} {ys : List Nat} (h : RowR σ q ys) (hlq : ys.length ≤ kLn (q + 1)) (hkq : kLn (q + 1) ≤ 512) (hl : ys.length ≤ kLn (r + 1)) (hk : kLn (r + 1) ≤ 512) (h1 : q ≠ r) (h2 : q ≠ r + 1) (h3 : q + 1 ≠ r) : ∃ σ', X4_copy σ r q = some σ' ∧ RowR σ' r ys ∧ Fr σ σ' [r, r + 1] := by
  obtain ⟨f, hf⟩ : ∃ f : Nat → Wd, ∀ k p t, f k p t = if p = r ∧ t = 1 then nI k else if p = r + 1 ∧ t < k then nI (ys.getD t 0) else σ p t := ⟨fun k p t => if p = r ∧ t = 1 then nI k else if p = r + 1 ∧ t < k then nI (ys.getD t 0) else σ p t, fun _ _ _ => rfl⟩
  have hq1 : ∀ k, f k q 1 = nI ys.length := fun k => by
    rw [hf, if_neg (by omega), if_neg (by omega)]; exact h.1
  have hq2 : ∀ k j, j < ys.length → f k (q + 1) j = nI (ys.getD j 0) := fun k j hj => by
    rw [hf, if_neg (by omega), if_neg (by omega)]; exact h.2 j hj
  have hr1 : ∀ k, f k r 1 = nI k := fun k => by rw [hf]; simp
  refine ⟨f ys.length, ?_, ⟨hr1 _, ?_⟩, ?_⟩
  · unfold X4_copy
    refine lp_tr (fun k => (nI k, f k)) ys.length _ ?_ (by omega) (fun k hk' rec => ?_) (fun rec => ?_)
    · show ((0 : Int32), up σ r 1 0) = (nI 0, f 0)
      rw [nI_0]
      congr 1
      funext p t
      rw [up_get, hf]
      by_cases e : p = r ∧ t = 1
      · rw [if_pos e, if_pos e, nI_0]
      · rw [if_neg e, if_neg e, if_neg (by omega)]
    · show X4_copy_B7 q r rec (nI k, f k) = _
      rw [X4_copy_B7, hq1, if_neg (by rw [nle (by omega) (by omega)]; omega), at_raw (hq1 k) hk' hlq hkq]
      show (X4_append (f k) r (f k (q + 1) k)).bind _ = _
      rw [app_raw (hr1 k) (by omega) hk]
      show rec (nI k + 1, _) = rec (nI (k + 1), f (k + 1))
      rw [nI_1]
      congr 2
      funext p t
      rw [up_get, up_get, hq2 k k hk', hf, hf]
      by_cases e : p = r ∧ t = 1
      · rw [if_pos e, if_pos e]
      · simp only [if_neg e]
        by_cases e3 : p = r + 1 ∧ t = k
        · rw [if_pos e3, if_pos (by omega), e3.2]
        · rw [if_neg e3]
          by_cases e4 : p = r + 1 ∧ t < k
          · rw [if_pos e4, if_pos (by omega)]
          · rw [if_neg e4, if_neg (by omega)]
    · show X4_copy_B7 q r rec (nI ys.length, f ys.length) = _
      rw [X4_copy_B7, hq1, if_pos (by rw [nle (by omega) (by omega)]; omega)]
  · intro j hj
    rw [hf, if_neg (by omega), if_pos (by omega)]
  · intro p hp
    simp only [List.mem_cons, List.not_mem_nil, or_false, not_or] at hp
    funext t
    rw [hf, if_neg (by omega), if_neg (by omega)]
theorem row_same {σ : Wd} {r q : Nat} {xs ys : List Nat} (h : RowR σ r xs) (h' : RowR σ q ys) (hl : xs.length ≤ kLn (r + 1)) (hk : kLn (r + 1) ≤ 512) (hlq : ys.length ≤ kLn (q + 1)) (hkq : kLn (q + 1) ≤ 512) (hb : ∀ x ∈ xs, x < 2 ^ 31) (hb' : ∀ x ∈ ys, x < 2 ^ 31) : X4_isSame σ r q = some (if xs = ys then 1 else 0) := by
  unfold X4_isSame
  rw [h.1, h'.1]
  by_cases hlen : xs.length = ys.length
  · rw [if_pos (by rw [hlen])]
    have hg : ∀ k, k < xs.length → xs.getD k 0 < 2 ^ 31 := fun k hk => hb _ (by rw [List.getD_eq_getElem?_getD, List.getElem?_eq_getElem hk]; exact List.getElem_mem hk)
    have hg' : ∀ k, k < ys.length → ys.getD k 0 < 2 ^ 31 := fun k hk => hb' _ (by rw [List.getD_eq_getElem?_getD, List.getElem?_eq_getElem hk]; exact List.getElem_mem hk)
    have step : ∀ k, k < xs.length → ∀ rec, X4_isSame_B15 σ r q rec (nI k) = if xs.getD k 0 = ys.getD k 0 then rec (nI (k + 1)) else some 0 := by
      intro k hk' rec
      rw [X4_isSame_B15, h.1, if_neg (by rw [nle (by omega) (by omega)]; omega), row_at_in h hl hk hk']
      show (X4_at σ q (nI k)).bind _ = _
      rw [row_at_in h' hlq hkq (by omega)]
      show (if nI _ = nI _ then _ else _) = _
      rw [nI_1]
      by_cases e : xs.getD k 0 = ys.getD k 0
      · rw [if_pos e, e, if_pos rfl]
      · rw [if_neg e, if_neg (fun z => e ((neq (hg k hk') (hg' k (by omega))).mp z))]
    by_cases he : xs = ys
    · rw [if_pos he]
      refine lp_tr (fun k => nI k) xs.length _ rfl (by omega) (fun k hk' rec => ?_) (fun rec => ?_)
      · rw [step k hk', he, if_pos rfl]
      · rw [X4_isSame_B15, h.1, if_pos (by rw [nle (by omega) (by omega)]; omega)]
    · rw [if_neg he]
      have hex : ∃ N, N < xs.length ∧ xs.getD N 0 ≠ ys.getD N 0 ∧ ∀ k, k < N → xs.getD k 0 = ys.getD k 0 := by
        have h0 : ∃ N, N < xs.length ∧ xs.getD N 0 ≠ ys.getD N 0 := by
          apply Classical.byContradiction
          intro hc
          apply he
          apply List.ext_getElem hlen
          intro i h1 h2
          apply Classical.byContradiction
          intro hne
          apply hc
          refine ⟨i, h1, ?_⟩
          rw [List.getD_eq_getElem?_getD, List.getD_eq_getElem?_getD, List.getElem?_eq_getElem h1, List.getElem?_eq_getElem h2]
          exact hne
        have key : ∀ n, (∃ N, N < n ∧ N < xs.length ∧ xs.getD N 0 ≠ ys.getD N 0) → ∃ N, N < xs.length ∧ xs.getD N 0 ≠ ys.getD N 0 ∧ ∀ k, k < N → xs.getD k 0 = ys.getD k 0 := by
          intro n
          induction n with
          | zero => rintro ⟨N, h1, -⟩; omega
          | succ n ih =>
            rintro ⟨N, h1, h2, h3⟩
            by_cases hx : ∃ N, N < n ∧ N < xs.length ∧ xs.getD N 0 ≠ ys.getD N 0
            · exact ih hx
            · refine ⟨N, h2, h3, fun k hk => Classical.byContradiction fun e => hx ⟨k, by omega, by omega, e⟩⟩
        obtain ⟨N, h1, h2⟩ := h0
        exact key (N + 1) ⟨N, by omega, h1, h2⟩
      obtain ⟨N, h1, h2, h3⟩ := hex
      refine lp_tr (fun k => nI k) N _ rfl (by omega) (fun k hk' rec => ?_) (fun rec => ?_)
      · rw [step k (by omega), if_pos (h3 k hk')]
      · rw [step N h1, if_neg h2]
  · rw [if_neg (fun z => hlen ((neq (by omega) (by omega)).mp z)), if_neg (fun z => hlen (by rw [z]))]
