/-! ===== one place replaced whole ===== -/
def sA (σ : Wd) (q : Nat) (g : Nat → Int32) : Wd := fun p => if p = q then g else σ p
theorem sA_at (σ : Wd) (q : Nat) (g : Nat → Int32) : sA σ q g q = g := if_pos rfl
theorem sA_ne (σ : Wd) {q p : Nat} (g : Nat → Int32) (h : p ≠ q) : sA σ q g p = σ p := if_neg h
theorem up_sA (σ : Wd) (q : Nat) (g : Nat → Int32) (i : Nat) (x : Int32) : up (sA σ q g) q i x = sA σ q (upd g i x) := by
  funext p
  unfold up sA
  by_cases h : p = q
  · simp [h]
  · simp [h]
theorem up_eq_sA (σ : Wd) (q i : Nat) (x : Int32) : up σ q i x = sA σ q (upd (σ q) i x) := rfl
theorem sA_self (σ : Wd) (q : Nat) : sA σ q (σ q) = σ := by
  funext p
  unfold sA
  by_cases h : p = q
  · simp [h]
  · simp [h]
theorem sA_sA (σ : Wd) (q : Nat) (g g' : Nat → Int32) : sA (sA σ q g) q g' = sA σ q g' := by
  funext p
  unfold sA
  by_cases h : p = q <;> simp [h]
theorem Fr.sA {σ : Wd} {q : Nat} {g : Nat → Int32} {ps : List Nat} (h : q ∈ ps) : Fr σ (sA σ q g) ps := fun p hp => sA_ne σ g (fun e => hp (e ▸ h))
theorem L128 : (128 : Int32) = nI 128 := rfl
theorem le128 {k : Nat} (h : k < 128) : ¬ (128 : Int32) ≤ nI k := by rw [L128, nle (by omega) (by omega)]; omega
theorem ge128 : (128 : Int32) ≤ nI 128 := by rw [L128, nle (by omega) (by omega)]; omega
theorem unite_step {σ : Wd} {q i g : Nat} {gs : List Nat} {kx : Wd → Option Wd} (hq : q ≠ 100) (hq1 : q + 1 ≠ 100) (hr : RowR σ q gs) (hl : gs.length ≤ kLn (q + 1)) (hk : kLn (q + 1) ≤ 512) (hi : i < gs.length) (hg : gs.getD i 0 = g) (hg128 : g < 128) {f : Nat → Int32} {k : Nat} (hk' : k < 128) (rec : Int32 × Wd → Option Wd) : X0_unite_B28 q (nI i) kx rec (nI k, sA σ 100 f) = rec (nI (k + 1), sA σ 100 (ustep g f k)) := by
  have hr' : RowR (sA σ 100 f) q gs := hr.cg (sA_ne _ _ hq) (sA_ne _ _ hq1)
  have hu : k ||| g < 128 := or_lt hk' hg128
  rw [X0_unite_B28, if_neg (le128 hk'), row_at_in hr' hl hk hi, hg]
  show ckA (nI k) 128 _ = _
  rw [ckA_n hk' (by omega), ncl (by omega), sA_at, f_or k hk' g hg128, ncl (by omega)]
  unfold ustep X0_unite_J98
  by_cases h1 : f k < 0
  · rw [if_pos h1, if_pos h1, X0_unite_J113, nI_1]
  · rw [if_neg h1, if_neg h1, if_neg (nneg (by omega)), if_neg (le128 hu), ckA_n hu (by omega)]
    by_cases h2 : f (k ||| g) < 0
    · rw [if_pos h2, if_pos h2, ckA_n hk' (by omega), ckA_n hu (by omega), ncl (by omega), ncl (by omega), sA_at, up_sA, X0_unite_J113, nI_1]
    · rw [if_neg h2, if_neg h2, ckA_n hu (by omega), ckA_n hk' (by omega)]
      by_cases h3 : f (k ||| g) ≤ f k + 1
      · rw [if_pos h3, if_pos h3, X0_unite_J113, nI_1]
      · rw [if_neg h3, if_neg h3, ckA_n hk' (by omega), ckA_n hu (by omega), ncl (by omega), ncl (by omega), sA_at, up_sA, X0_unite_J113, nI_1]
theorem unite_ok {σ : Wd} {q : Nat} {gs : List Nat} (hq : q ≠ 100) (hq1 : q + 1 ≠ 100) (hr : RowR σ q gs) (hl : gs.length ≤ kLn (q + 1)) (hk : kLn (q + 1) ≤ 512) (hg : ∀ x ∈ gs, x < 128) (h12 : gs.length ≤ 20) : ∃ f, X0_unite σ q = some (sA σ 100 f) ∧ FwR gs 20 f := by
  obtain ⟨σ1, e1, v1, f1⟩ := fill_ok (σ := σ) (q := 100) (by decide) (-2)
  have hl100 : kLn 100 = 128 := rfl
  obtain ⟨f0, hf0⟩ : ∃ f0, f0 = upd (σ1 100) 0 0 := ⟨_, rfl⟩
  have hs1 : up σ1 100 0 0 = sA σ 100 f0 := by
    funext p
    unfold sA
    by_cases h : p = 100
    · subst h; rw [if_pos rfl, hf0, up_at]
    · rw [if_neg h, up_ne _ _ _ h]
      exact f1 p (by simp [h])
  have hF0 : FwR [] 0 f0 := by
    refine ⟨fun t ht => ?_, fun S hS => ?_⟩
    · rw [hf0]; unfold upd
      by_cases e : t = 0
      · rw [if_pos e]; exact Or.inr ⟨0, rfl, Nat.le_refl _, [], by simp, rfl, by rw [e]; rfl⟩
      · rw [if_neg e, v1, hl100, if_pos ht]; exact Or.inl rfl
    · have : S = [] := by
        cases S with
        | nil => rfl
        | cons x r => exact absurd (hS x (by simp)) (by simp)
      subst this
      refine ⟨0, ?_, Nat.le_refl _, Nat.le_refl _⟩
      rw [hf0]; rfl
  refine ⟨gs.foldl upass f0, ?_, ?_⟩
  · unfold X0_unite
    rw [e1]
    show lp (X0_unite_B18 q) FU (0, up σ1 100 0 0) = _
    rw [hs1]
    refine lp_fold gs upass (fun f i => (nI i, sA σ 100 f)) f0 (fun f => some (sA σ 100 f)) (fun _ _ => True) trivial (fun _ _ _ _ => trivial) (by rw [nI_0]) (by omega) (fun i f hi _ rec => ?_) (fun f _ rec => ?_)
    · show X0_unite_B18 q rec (nI i, sA σ 100 f) = _
      rw [X0_unite_B18, sA_ne _ _ hq, hr.1, if_neg (by rw [nle (by omega) (by omega)]; omega)]
      have hgi : gs.getD i 0 = gs[i] := by rw [List.getD_eq_getElem?_getD, List.getElem?_eq_getElem hi]; rfl
      have h128 : gs[i] < 128 := hg _ (List.getElem_mem hi)
      have := lp_fold (List.range 128) (ustep gs[i]) (fun f k => (nI k, sA σ 100 f)) f (fun f => X0_unite_T119 rec (nI i) (sA σ 100 f)) (fun _ _ => True) trivial (fun _ _ _ _ => trivial) (body := X0_unite_B28 q (nI i) (X0_unite_T119 rec (nI i))) (s := (0, sA σ 100 f)) (by rw [nI_0]) (by simp) (fun k f' hk' _ rec' => by
        simp only [List.length_range] at hk'
        rw [List.getElem_range]
        exact unite_step hq hq1 hr hl hk hi hgi h128 hk' rec') (fun f' _ rec' => by
        rw [List.length_range, X0_unite_B28, if_pos ge128])
      rw [this]
      show rec (nI i + 1, _) = _
      rw [nI_1]
      rfl
    · show X0_unite_B18 q rec (nI gs.length, sA σ 100 f) = _
      rw [X0_unite_B18, sA_ne _ _ hq, hr.1, if_pos (by rw [nle (by omega) (by omega)]; omega)]
  · have := upass_all gs [] 0 f0 hg (by simp) (by omega) hF0
    simp only [List.nil_append, Nat.zero_add] at this
    refine ⟨fun t ht => ?_, fun S hS => ?_⟩
    · rcases this.1 t ht with h | ⟨c, h1, h2, h3⟩
      · exact Or.inl h
      · exact Or.inr ⟨c, h1, by omega, h3⟩
    · obtain ⟨c, h1, h2, h3⟩ := this.2 S hS
      exact ⟨c, h1, h2, by omega⟩
