/-! the reference lays the family out -/
theorem lp_qrn {S C : Type} {body : (S → Option C) → S → Option C} (I : Nat → S → Prop) (N : Nat) (Q : Option C → Prop)
    (hstep : ∀ k s rec, k < N → I k s → (∃ s', I (k + 1) s' ∧ body rec s = rec s') ∨ Q (body rec s)) (hexit : ∀ s rec, I N s → Q (body rec s)) : ∀ (d k fuel : Nat) (s : S), k + d = N → d < fuel → I k s → Q (lp body fuel s) := by
  intro d
  induction d with
  | zero =>
    intro k fuel s hk hf hi
    cases fuel with
    | zero => omega
    | succ f =>
      have : k = N := by omega
      subst this
      exact hexit s _ hi
  | succ d ih =>
    intro k fuel s hk hf hi
    cases fuel with
    | zero => omega
    | succ f =>
      show Q (body (lp body f) s)
      rcases hstep k s (lp body f) (by omega) hi with ⟨s', h1, h2⟩ | h1
      · rw [h2]; exact ih (k + 1) f s' (by omega) (by omega) h1
      · exact h1
/-- a loop by what holds at each round; it may end early -/
theorem lp_qr {S C : Type} {body : (S → Option C) → S → Option C} (I : Nat → S → Prop) (N : Nat) (Q : Option C → Prop) {s : S} (h0 : I 0 s) (hN : N < 4096)
    (hstep : ∀ k s rec, k < N → I k s → (∃ s', I (k + 1) s' ∧ body rec s = rec s') ∨ Q (body rec s)) (hexit : ∀ s rec, I N s → Q (body rec s)) : Q (lp body FU s) :=
  lp_qrn I N Q hstep hexit N 0 FU s (by omega) hN h0
theorem lp_cr {S C : Type} {G : Prop} {body : (S → Option C) → S → Option C} (s : S) (I : Nat → S → Prop) (N : Nat) (X : S → Option C) (h0 : I 0 s) (hN : N < 4096)
    (hstep : ∀ k s rec, k < N → I k s → ∃ s', I (k + 1) s' ∧ body rec s = rec s') (hexit : ∀ s rec, I N s → body rec s = X s) (hG : ∀ s', I N s' → lp body FU s = X s' → G) : G := by
  obtain ⟨s', h1, h2⟩ := lp_qr I N (fun r => ∃ s', I N s' ∧ r = X s') h0 hN (fun k s rec hk hi => Or.inl (hstep k s rec hk hi)) (fun s rec hi => ⟨s, hi, hexit s rec hi⟩)
  exact hG s' h1 h2
def LayR (σ : Wd) (gs : List Nat) : Prop := (∀ t, t < 128 → σ 125 t = if famB gs t then 1 else 0) ∧ σ 120 10 = nI (mems gs).length ∧ (∀ k, k < (mems gs).length → σ 126 k = nI ((mems gs).getD k 0)) ∧ ∀ t, t ∈ mems gs → σ 127 t = nI ((mems gs).idxOf t)
def lq (k j : Nat) : List Nat := (List.range k).flatMap (fun k => (List.range 128).filter (fun s => pc s == k)) ++ (List.range j).filter (fun s => pc s == k)
theorem lq_len : ∀ j, j < 128 → (lq (pc j) j).length < 128 := by decide +kernel
theorem lq_next (k : Nat) : lq k 128 = lq (k + 1) 0 := by
  unfold lq
  rw [List.range_succ (n := k), List.flatMap_append]
  simp
theorem lq_all : lq 8 0 = ordS := by
  unfold lq ordS
  simp
theorem lq_succ (k j : Nat) : lq k (j + 1) = lq k j ++ if pc j = k then [j] else [] := by
  unfold lq
  rw [List.range_succ (n := j), List.filter_append, List.append_assoc]
  congr 2
  by_cases e : pc j = k
  · rw [if_pos e]; simp [e]
  · rw [if_neg e]; simp [e]
theorem lq_nin (j : Nat) : j ∉ lq (pc j) j := by
  unfold lq
  simp only [List.mem_append, List.mem_flatMap, List.mem_range, List.mem_filter, beq_iff_eq, not_or, not_exists, not_and]
  exact ⟨fun k hk _ h => by omega, fun h => by omega⟩
def lp_ (gs : List Nat) (k j : Nat) : List Nat := (lq k j).filter (famB gs)
theorem lp_succ (gs : List Nat) (k j : Nat) : lp_ gs k (j + 1) = lp_ gs k j ++ if pc j = k ∧ famB gs j = true then [j] else [] := by
  unfold lp_
  rw [lq_succ, List.filter_append]
  congr 1
  by_cases e : pc j = k
  · rw [if_pos e]
    by_cases e2 : famB gs j = true
    · rw [if_pos ⟨e, e2⟩]; simp [e2]
    · rw [if_neg (fun h => e2 h.2)]; simp [e2]
  · rw [if_neg e, if_neg (fun h => e h.1)]; rfl
theorem mem_zero_iff {gs : List Nat} {t : Nat} : Mem (gs ++ [0]) t ↔ Mem gs t := by
  rw [mem_snoc]
  constructor
  · rintro (h | ⟨s, h1, h2⟩)
    · exact h
    · rw [Nat.or_zero] at h2; exact h2 ▸ h1
  · exact Or.inl
theorem m1_ne (j : Nat) (hj : j < 2 ^ 31) : nI j ≠ -1 := fun h => by
  have h1 : ¬ nI j < 0 := nneg hj
  rw [h] at h1
  exact h1 (by decide)
theorem owns_all {gs : List Nat} {more : Nat} (hl : gs.length ≤ 100) : ownsOf gs (-1) more = gs ++ [more] := by
  unfold ownsOf
  have hfil : (List.range (gs.length + 1)).filter (fun j => decide (nI j ≠ -1)) = List.range (gs.length + 1) := by
    rw [List.filter_eq_self]
    intro j hj
    exact decide_eq_true (m1_ne j (by have := List.mem_range.mp hj; omega))
  rw [hfil]
  apply List.ext_getElem
  · simp
  · intro i h1 h2
    simp only [List.length_map, List.length_range] at h1
    rw [List.getElem_map, List.getElem_range]
    by_cases e : i < gs.length
    · rw [if_pos e, getD_lt e, List.getElem_append_left e]
    · rw [if_neg e, List.getElem_append_right (by omega)]
      simp
theorem lays_in {σ : Wd} {gs : List Nat} {k : Nat} (hk : k ≤ 7) {kx : Wd → Option Wd} (h125 : ∀ t, t < 128 → σ 125 t = if famB gs t then 1 else 0) (hc : σ 120 10 = nI (lp_ gs k 0).length) (hm : ∀ i, i < (lp_ gs k 0).length → σ 126 i = nI ((lp_ gs k 0).getD i 0)) (hn : ∀ t, t ∈ lp_ gs k 0 → σ 127 t = nI ((lp_ gs k 0).idxOf t)) :
    ∃ σ', lp (X11_lays_B25 (nI k) kx) FU (0, σ) = kx σ' ∧ σ' 120 10 = nI (lp_ gs (k + 1) 0).length ∧ (∀ i, i < (lp_ gs (k + 1) 0).length → σ' 126 i = nI ((lp_ gs (k + 1) 0).getD i 0)) ∧ (∀ t, t ∈ lp_ gs (k + 1) 0 → σ' 127 t = nI ((lp_ gs (k + 1) 0).idxOf t)) ∧ (∀ j, j ≠ 10 → σ' 120 j = σ 120 j) ∧ ∀ q, q ≠ 120 → q ≠ 126 → q ≠ 127 → σ' q = σ q := by
  have hend : lp_ gs k 128 = lp_ gs (k + 1) 0 := by unfold lp_; rw [lq_next]
  refine lp_c (body := X11_lays_B25 (nI k) kx) (0, σ) (fun j s => s.1 = nI j ∧ s.2 120 10 = nI (lp_ gs k j).length ∧ (∀ i, i < (lp_ gs k j).length → s.2 126 i = nI ((lp_ gs k j).getD i 0)) ∧ (∀ t, t ∈ lp_ gs k j → s.2 127 t = nI ((lp_ gs k j).idxOf t)) ∧ (∀ j, j ≠ 10 → s.2 120 j = σ 120 j) ∧ ∀ q, q ≠ 120 → q ≠ 126 → q ≠ 127 → s.2 q = σ q) 128 (fun s => kx s.2) ⟨nI_0.symm, hc, hm, hn, fun _ _ => rfl, fun _ _ _ _ => rfl⟩ (by omega) (fun j s hj hi => ?_) (fun s hi rec => ?_) (fun s' hI he => ?_)
  · obtain ⟨x, τ⟩ := s
    obtain ⟨h1, h2, h3, h4, h5, h6⟩ := hi
    simp only at h1 h2 h3 h4 h5 h6
    subst h1
    have hfam : τ 125 j = if famB gs j then 1 else 0 := by rw [h6 125 (by decide) (by decide) (by decide)]; exact h125 j hj
    by_cases e : pc j = k ∧ famB gs j = true
    · have hs := lp_succ gs k j
      rw [if_pos e] at hs
      have hlen : (lp_ gs k j).length < 128 := by
        have h1 := lq_len j hj
        rw [e.1] at h1
        exact Nat.lt_of_le_of_lt (List.length_filter_le _ _) h1
      have hnin : j ∉ lp_ gs k j := fun h => lq_nin j (by rw [e.1]; exact (List.mem_filter.mp h).1)
      obtain ⟨τ1, ht1⟩ : ∃ τ1, τ1 = up τ 127 j (nI (lp_ gs k j).length) := ⟨_, rfl⟩
      have a1 : τ1 120 10 = nI (lp_ gs k j).length := by rw [ht1, up_ne _ _ _ (by decide)]; exact h2
      obtain ⟨τ2, ht2⟩ : ∃ τ2, τ2 = up τ1 126 (lp_ gs k j).length (nI j) := ⟨_, rfl⟩
      have a2 : τ2 120 10 = nI (lp_ gs k j).length := by rw [ht2, up_ne _ _ _ (by decide)]; exact a1
      refine ⟨(nI (j + 1), up τ2 120 10 (nI ((lp_ gs k j).length + 1))), ⟨rfl, ?_, fun i hi => ?_, fun t ht => ?_, fun i hi => ?_, fun q q1 q2 q3 => ?_⟩, fun rec => ?_⟩
      · show up τ2 120 10 (nI ((lp_ gs k j).length + 1)) 120 10 = _
        rw [hs, List.length_append, List.length_singleton, up_at]
        exact if_pos rfl
      · show up τ2 120 10 (nI ((lp_ gs k j).length + 1)) 126 i = _
        rw [hs] at hi ⊢
        simp only [List.length_append, List.length_singleton] at hi
        rw [up_ne _ _ _ (by decide), ht2, up_at, getD_app _ _ _ hi]
        unfold upd
        by_cases ei : i = (lp_ gs k j).length
        · rw [if_pos ei, if_pos ei]
        · rw [if_neg ei, if_neg ei, ht1, up_ne _ _ _ (by decide)]; exact h3 i (by omega)
      · show up τ2 120 10 (nI ((lp_ gs k j).length + 1)) 127 t = _
        rw [hs] at ht ⊢
        rw [up_ne _ _ _ (by decide), ht2, up_ne _ _ _ (by decide), ht1, up_at]
        unfold upd
        by_cases et : t = j
        · rw [if_pos et, et, List.idxOf_append, if_neg hnin]; simp
        · rw [if_neg et]
          have : t ∈ lp_ gs k j := by
            rcases List.mem_append.mp ht with h | h
            · exact h
            · exact absurd (by simpa using h) et
          rw [List.idxOf_append, if_pos this]; exact h4 t this
      · show up τ2 120 10 (nI ((lp_ gs k j).length + 1)) 120 i = _
        rw [up_at]; unfold upd; rw [if_neg hi, ht2, up_ne _ _ _ (by decide), ht1, up_ne _ _ _ (by decide)]; exact h5 i hi
      · show up τ2 120 10 (nI ((lp_ gs k j).length + 1)) q = _
        rw [up_ne _ _ _ q1, ht2, up_ne _ _ _ q2, ht1, up_ne _ _ _ q3]; exact h6 q q1 q2 q3
      · rw [X11_lays_B25, if_neg (le128 hj), ckA_n hj (by omega), ncl (by omega), hfam, if_pos e.2, if_neg (by decide), f_ones j hj, sbind, e.1, if_pos rfl, ckA_n hj (by omega), h2, ← ht1, a1, ckA_n hlen (by omega), ncl (by omega), ← ht2, a2, X11_lays_J82, nI_1, nI_1]
    · have hs := lp_succ gs k j
      rw [if_neg e, List.append_nil] at hs
      refine ⟨(nI (j + 1), τ), ⟨rfl, by rw [hs]; exact h2, by rw [hs]; exact h3, by rw [hs]; exact h4, h5, h6⟩, fun rec => ?_⟩
      rw [X11_lays_B25, if_neg (le128 hj), ckA_n hj (by omega), ncl (by omega), hfam]
      by_cases e2 : famB gs j = true
      · have hpc : pc j < 8 := (by decide +kernel : ∀ j, j < 128 → pc j < 8) j hj
        rw [if_pos e2, if_neg (by decide), f_ones j hj, sbind, if_neg (by rw [neq (by omega) (by omega)]; exact fun h => e ⟨h, e2⟩), X11_lays_J82, nI_1]
      · rw [if_neg e2, if_pos rfl, X11_lays_J82, nI_1]
  · obtain ⟨x, τ⟩ := s
    have h1 : x = nI 128 := hi.1
    subst h1
    show X11_lays_B25 (nI k) kx rec (nI 128, τ) = kx τ
    rw [X11_lays_B25, if_pos ge128]
  · have := hI.2
    rw [hend] at this
    exact ⟨s'.2, he, this⟩
theorem lays_ok {σ : Wd} {a : St} (ha : MRow (σ 121) a) (hw : wf a) : ∃ σ', X11_lays σ = some σ' ∧ LayR σ' a.2.2.1 ∧ (∀ j, j ≠ 10 → σ' 120 j = σ 120 j) ∧ ∀ q, q ≠ 120 → q ≠ 125 → q ≠ 126 → q ≠ 127 → σ' q = σ q := by
  have h12 := hw.2.2.1.1
  obtain ⟨g, e1, b1, m1⟩ := spans_ok (q := 125) (x := -1) (more := 0) ha rfl (by decide) (wf_lt hw) (by decide)
  rw [owns_all (by omega)] at m1
  have h125 : ∀ t, t < 128 → g t = if famB a.2.2.1 t then 1 else 0 := by
    intro t ht
    have hm := m1 t ht
    rw [mem_zero_iff, ← famB_iff (wf_lt hw) ht] at hm
    by_cases e : famB a.2.2.1 t = true
    · rw [if_pos e]
      rcases b1 t ht with h | h
      · exact absurd h (hm.mpr e)
      · exact h
    · rw [if_neg e]
      exact Decidable.not_not.mp (fun h => e (hm.mp h))
  obtain ⟨σ1, hσ1⟩ : ∃ σ1, σ1 = up (sA σ 125 g) 120 10 0 := ⟨_, rfl⟩
  unfold X11_lays
  rw [show (0 : Int32) = nI 0 from rfl, e1, sbind, show nI 0 = (0 : Int32) from rfl, ← hσ1]
  refine lp_cr (body := X11_lays_B17) (0, σ1) (fun k s => s.1 = nI k ∧ s.2 120 10 = nI (lp_ a.2.2.1 k 0).length ∧ (∀ i, i < (lp_ a.2.2.1 k 0).length → s.2 126 i = nI ((lp_ a.2.2.1 k 0).getD i 0)) ∧ (∀ t, t ∈ lp_ a.2.2.1 k 0 → s.2 127 t = nI ((lp_ a.2.2.1 k 0).idxOf t)) ∧ (∀ j, j ≠ 10 → s.2 120 j = σ1 120 j) ∧ ∀ q, q ≠ 120 → q ≠ 126 → q ≠ 127 → s.2 q = σ1 q) 8 (fun s => some s.2) ⟨nI_0.symm, ?_, fun i hi => ?_, fun t ht => ?_, fun _ _ => rfl, fun _ _ _ _ => rfl⟩ (by omega) (fun k s rec hk hi => ?_) (fun s rec hi => ?_) (fun s' hI he => ?_)
  · show σ1 120 10 = _
    rw [hσ1, up_at]; unfold upd; rw [if_pos rfl]; rfl
  · exact absurd hi (by simp [lp_, lq])
  · exact absurd ht (by simp [lp_, lq])
  · obtain ⟨x, τ⟩ := s
    obtain ⟨h1, h2, h3, h4, h5, h6⟩ := hi
    simp only at h1 h2 h3 h4 h5 h6
    subst h1
    have ht125 : ∀ t, t < 128 → τ 125 t = if famB a.2.2.1 t then 1 else 0 := fun t ht => by
      rw [h6 125 (by decide) (by decide) (by decide), hσ1, up_ne _ _ _ (by decide), sA_at]; exact h125 t ht
    obtain ⟨τ', q0, q1, q2, q3, q4, q5⟩ := lays_in (σ := τ) (gs := a.2.2.1) (k := k) (kx := X11_lays_T88 rec (nI k)) (by omega) ht125 h2 h3 h4
    refine ⟨(nI (k + 1), τ'), ⟨rfl, q1, q2, q3, fun j hj => by rw [← h5 j hj]; exact q4 j hj, fun q a1 a2 a3 => by rw [← h6 q a1 a2 a3]; exact q5 q a1 a2 a3⟩, ?_⟩
    rw [X11_lays_B17, if_neg (by rw [L7, nlt (by omega) (by omega)]; omega), q0, X11_lays_T88, nI_1]
  · obtain ⟨x, τ⟩ := s
    have h1 : x = nI 8 := hi.1
    subst h1
    show X11_lays_B17 rec (nI 8, τ) = some τ
    rw [X11_lays_B17, if_pos (by rw [L7, nlt (by omega) (by omega)]; omega)]
  · refine ⟨s'.2, he, ⟨fun t ht => ?_, ?_, ?_, ?_⟩, fun j hj => ?_, fun q q1 q2 q3 q4 => ?_⟩
    · rw [hI.2.2.2.2.2 125 (by decide) (by decide) (by decide), hσ1, up_ne _ _ _ (by decide), sA_at]; exact h125 t ht
    · have := hI.2.1; unfold lp_ at this; rw [lq_all] at this; exact this
    · have := hI.2.2.1; unfold lp_ at this; rw [lq_all] at this; exact this
    · have := hI.2.2.2.1; unfold lp_ at this; rw [lq_all] at this; exact this
    · rw [hI.2.2.2.2.1 j hj, hσ1, up_at]; unfold upd; rw [if_neg hj, sA_ne _ _ (by decide)]
    · rw [hI.2.2.2.2.2 q q1 q3 q4, hσ1, up_ne _ _ _ q1, sA_ne _ _ q2]
