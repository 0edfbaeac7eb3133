/-! the class's order, made once -/
def cU (gs : List Nat) (t : Nat) : Nat := (mems gs).countP (fun m => covB gs m t)
def cD (gs : List Nat) (t : Nat) : Nat := (mems gs).countP (fun m => covB gs t m)
theorem cU_le (gs : List Nat) (t : Nat) : cU gs t ≤ 128 := Nat.le_trans List.countP_le_length (mems_len gs)
theorem cD_le (gs : List Nat) (t : Nat) : cD gs t ≤ 128 := Nat.le_trans List.countP_le_length (mems_len gs)
theorem cnt_idx (l : List Nat) (p : Nat → Bool) : (List.range l.length).countP (fun j => p (l.getD j 0)) = l.countP p := by
  have : l = (List.range l.length).map (fun j => l.getD j 0) := by
    apply List.ext_getElem
    · simp
    · intro i h1 h2
      rw [List.getElem_map, List.getElem_range, getD_lt h1]
  conv => rhs; rw [this, List.countP_map]
  rfl
theorem cnt_st1 (p : Nat → Bool) {N hi : Nat} (h : hi < N) : (List.range N).countP (fun j => decide (j < hi + 1) && p j) = (List.range N).countP (fun j => decide (j < hi) && p j) + if p hi then 1 else 0 := by
  by_cases e : p hi = true
  · rw [if_pos e, countP_upd (p := fun j => decide (j < hi) && p j) (p' := fun j => decide (j < hi + 1) && p j) (u := hi) (by simp) (by simp [e]) (fun t ht => ?_), if_pos h]
    have : decide (t < hi + 1) = decide (t < hi) := by
      apply decide_eq_decide.mpr; omega
    rw [this]
  · rw [if_neg e, Nat.add_zero]
    apply List.countP_congr
    intro t _
    by_cases et : t = hi
    · rw [et]; simp [e]
    · have : decide (t < hi + 1) = decide (t < hi) := by
        apply decide_eq_decide.mpr; omega
      rw [this]
theorem cnt_st2 (p : Nat → Bool) {N lo : Nat} (h : lo < N) : (List.range N).countP (fun j => decide (lo ≤ j) && p j) = (List.range N).countP (fun j => decide (lo + 1 ≤ j) && p j) + if p lo then 1 else 0 := by
  by_cases e : p lo = true
  · rw [if_pos e, countP_upd (p := fun j => decide (lo + 1 ≤ j) && p j) (p' := fun j => decide (lo ≤ j) && p j) (u := lo) (by simp; intro h; omega) (by simp [e]) (fun t ht => ?_), if_pos h]
    have : decide (lo ≤ t) = decide (lo + 1 ≤ t) := by
      apply decide_eq_decide.mpr; omega
    rw [this]
  · rw [if_neg e, Nat.add_zero]
    apply List.countP_congr
    intro t _
    by_cases et : t = lo
    · rw [et]; simp [e]
    · have : decide (lo ≤ t) = decide (lo + 1 ≤ t) := by
        apply decide_eq_decide.mpr; omega
      rw [this]
def mg (gs : List Nat) (k : Nat) : Nat := (mems gs).getD k 0
theorem mg_eq {gs : List Nat} {k : Nat} (hk : k < (mems gs).length) : mg gs k = (mems gs)[k] := getD_lt hk
theorem cov_idx {gs : List Nat} {i j : Nat} (hi : i < (mems gs).length) (hj : j < (mems gs).length) (h : covB gs (mg gs j) (mg gs i) = true) : i < j := by
  rw [mg_eq hi, mg_eq hj] at h
  exact idx_order hi hj (cov_lt h)
def pU (gs : List Nat) (lo hi : Nat) : Nat := (List.range (mems gs).length).countP (fun j => decide (j < hi) && covB gs (mg gs j) (mg gs lo))
def pD (gs : List Nat) (j b : Nat) : Nat := (List.range (mems gs).length).countP (fun i => decide (b ≤ i) && covB gs (mg gs j) (mg gs i))
theorem pU_0 {gs : List Nat} {lo : Nat} (hlo : lo < (mems gs).length) : pU gs lo (lo + 1) = 0 := by
  unfold pU
  rw [List.countP_eq_zero]
  intro j hj hh
  rw [Bool.and_eq_true, decide_eq_true_eq] at hh
  have := cov_idx hlo (List.mem_range.mp hj) hh.2
  omega
theorem pU_all {gs : List Nat} {lo : Nat} : pU gs lo (mems gs).length = cU gs (mg gs lo) := by
  unfold pU cU
  rw [← cnt_idx (mems gs)]
  apply List.countP_congr
  intro j hj
  rw [decide_eq_true (List.mem_range.mp hj), Bool.true_and]; rfl
theorem pD_all {gs : List Nat} {j : Nat} : pD gs j 0 = cD gs (mg gs j) := by
  unfold pD cD
  rw [← cnt_idx (mems gs)]
  apply List.countP_congr
  intro i _
  simp [mg]
theorem pD_0 {gs : List Nat} {j : Nat} : pD gs j (mems gs).length = 0 := by
  unfold pD
  rw [List.countP_eq_zero]
  intro i hi hh
  rw [Bool.and_eq_true, decide_eq_true_eq] at hh
  have := List.mem_range.mp hi
  omega
theorem p_le {l : List Nat} {p : Nat → Bool} (h : l.length ≤ 128) : (List.range l.length).countP p ≤ 128 := Nat.le_trans List.countP_le_length (by simpa using h)
theorem f_max : ∀ a, a < 16 → ∀ b, b < 16 → J9_max_7cf53 (nI a) (nI b) = nI (max a b) := by decide +kernel
theorem f_min : ∀ a, a ≤ 128 → J9_min_7cf53 (nI a) 128 = nI a := by decide +kernel
def MkI (gs : List Nat) (σ : Wd) (b : Nat) (τ : Wd) : Prop := (∀ k, k < 128 → τ 104 k = if b ≤ k ∧ k < (mems gs).length then nI (cU gs (mg gs k)) else 0) ∧ (∀ j, j < (mems gs).length → τ 105 j = nI (pD gs j b)) ∧ (∀ k, b ≤ k → k < (mems gs).length → ∃ v, τ 106 k = nI v ∧ Mx (fun n => Up gs n (mg gs k)) v) ∧ (∀ k, k < b → τ 106 k = 0) ∧ ∀ q, q ≠ 104 → q ≠ 105 → q ≠ 106 → τ q = σ q
theorem mx7 {gs : List Nat} {a v : Nat} (h : Mx (fun n => Up gs n a) v) : v ≤ 7 := by
  have := Up.bd h.1; omega
theorem make_in {σ τ : Wd} {n : Nat} {gs : List Nat} (hg : ∀ x ∈ gs, x < 128) (hfam : FamR σ n gs) {lo : Nat} (hlo : lo < (mems gs).length) (hI0 : MkI gs σ (lo + 1) τ) (kx : Wd → Option Wd) : ∃ τ', lp (X2_make_B66 (nI (mems gs).length) (nI lo) kx) FU (nI lo + 1, τ) = kx τ' ∧ MkI gs σ lo τ' := by
  have hl := mems_len gs
  have hlo8 := k128 hlo
  obtain ⟨a1, a2, a3, a4, a5⟩ := hI0
  have hex : ∀ j, ∃ v, lo + 1 ≤ j → j < (mems gs).length → (τ 106 j = nI v ∧ Mx (fun n => Up gs n (mg gs j)) v) := by
    intro j
    by_cases h : lo + 1 ≤ j ∧ j < (mems gs).length
    · obtain ⟨v, v1⟩ := a3 j h.1 h.2
      exact ⟨v, fun _ _ => v1⟩
    · exact ⟨0, fun p q => absurd ⟨p, q⟩ h⟩
  obtain ⟨V, hV⟩ : ∃ V : Nat → Nat, ∀ j, lo + 1 ≤ j → j < (mems gs).length → (τ 106 j = nI (V j) ∧ Mx (fun n => Up gs n (mg gs j)) (V j)) := ⟨fun j => Classical.choose (hex j), fun j => Classical.choose_spec (hex j)⟩
  rw [nI_1]
  refine lp_c (body := X2_make_B66 (nI (mems gs).length) (nI lo) kx) (nI (lo + 1), τ) (fun e st => st.1 = nI (lo + 1 + e) ∧ (∀ k, k < 128 → st.2 104 k = if k = lo then nI (pU gs lo (lo + 1 + e)) else τ 104 k) ∧ (∀ j, j < (mems gs).length → st.2 105 j = nI (pD gs j (lo + 1) + if (decide (j < lo + 1 + e) && covB gs (mg gs j) (mg gs lo)) = true then 1 else 0)) ∧ (∀ k, k ≠ lo → st.2 106 k = τ 106 k) ∧ (∃ v, st.2 106 lo = nI v ∧ v ≤ 8 ∧ (v = 0 ∨ ∃ j, lo < j ∧ j < (mems gs).length ∧ covB gs (mg gs j) (mg gs lo) = true ∧ v = V j + 1) ∧ ∀ j, lo < j → j < lo + 1 + e → covB gs (mg gs j) (mg gs lo) = true → V j + 1 ≤ v) ∧ ∀ q, q ≠ 104 → q ≠ 105 → q ≠ 106 → st.2 q = σ q) ((mems gs).length - (lo + 1)) (fun st => kx st.2) ⟨rfl, fun k hk => ?_, fun j hj => ?_, fun k hk => rfl, ⟨0, ?_, by omega, Or.inl rfl, fun j h1 h2 => by omega⟩, a5⟩ (by omega) (fun e st he hi => ?_) (fun st hi rec => ?_) (fun s' hI he => ?_)
  · show τ 104 k = _
    by_cases ek : k = lo
    · rw [if_pos ek, ek, a1 lo hlo8, if_neg (by omega), Nat.add_zero, pU_0 hlo]; rfl
    · rw [if_neg ek]
  · show τ 105 j = _
    rw [if_neg, Nat.add_zero]
    · exact a2 j hj
    · intro hh
      rw [Bool.and_eq_true, decide_eq_true_eq] at hh
      have := cov_idx hlo hj hh.2
      omega
  · show τ 106 lo = _
    rw [a4 lo (by omega)]; rfl
  · obtain ⟨x, ρ⟩ := st
    obtain ⟨g1, g2, g3, g4, ⟨v, g5, g6, g7, g8⟩, g9⟩ := hi
    simp only at g1 g2 g3 g4 g5 g9
    subst g1
    obtain ⟨hi, hhi⟩ : ∃ hi, hi = lo + 1 + e := ⟨_, rfl⟩
    have hh : hi < (mems gs).length := by omega
    have hh8 := k128 hh
    rw [show lo + 1 + (e + 1) = hi + 1 by omega]
    rw [← hhi] at g2 g3 g8 ⊢
    have fam : FamR ρ n gs := hfam.cg (fun q q1 q2 => g9 q (by omega) (by omega) (by omega))
    have hB : ∀ rec, X2_make_B66 (nI (mems gs).length) (nI lo) kx rec (nI hi, ρ) = (if bI (covB gs (mg gs hi) (mg gs lo)) = 0 then rec (nI (hi + 1), ρ) else rec (nI (hi + 1), up (up (up ρ 104 lo (nI (pU gs lo hi + 1))) 105 hi (nI (pD gs hi (lo + 1) + 1))) 106 lo (J9_max_7cf53 (nI v) (nI (V hi + 1))))) := by
      intro rec
      have c0 : ρ 104 lo = nI (pU gs lo hi) := by rw [g2 lo hlo8, if_pos rfl]
      have c1 : up ρ 104 lo (nI (pU gs lo hi + 1)) 105 hi = nI (pD gs hi (lo + 1)) := by
        rw [up_ne _ _ _ (by decide), g3 hi hh, if_neg (by simp), Nat.add_zero]
      have c2 : up (up ρ 104 lo (nI (pU gs lo hi + 1))) 105 hi (nI (pD gs hi (lo + 1) + 1)) 106 lo = nI v := by
        rw [up_ne _ _ _ (by decide), up_ne _ _ _ (by decide), g5]
      have c3 : up (up ρ 104 lo (nI (pU gs lo hi + 1))) 105 hi (nI (pD gs hi (lo + 1) + 1)) 106 hi = nI (V hi) := by
        rw [up_ne _ _ _ (by decide), up_ne _ _ _ (by decide), g4 hi (by omega), (hV hi (by omega) hh).1]
      rw [X2_make_B66, if_neg (by rw [nle (by omega) (by omega)]; omega), mem_at fam.mem hh, sbind, mem_at fam.mem hlo, sbind, covC_ok hg fam (List.getElem_mem hh) (List.getElem_mem hlo), sbind, ckA_n hlo8 (by omega), ckA_n hlo8 (by omega), ckA_n hh8 (by omega), ckA_n hh8 (by omega), ckA_n hlo8 (by omega), ckA_n hh8 (by omega), ckA_n hlo8 (by omega), ncl (by omega), ncl (by omega), c0, nI_1, c1, nI_1, c2, c3, nI_1, X2_make_J146, X2_make_J146, nI_1, mg_eq hh, mg_eq hlo]
    by_cases ec : covB gs (mg gs hi) (mg gs lo) = true
    · have hV7 := mx7 (hV hi (by omega) hh).2
      obtain ⟨ρ', hρ'⟩ : ∃ ρ', ρ' = up (up (up ρ 104 lo (nI (pU gs lo hi + 1))) 105 hi (nI (pD gs hi (lo + 1) + 1))) 106 lo (nI (max v (V hi + 1))) := ⟨_, rfl⟩
      refine ⟨(nI (hi + 1), ρ'), ⟨rfl, fun k hk => ?_, fun j hj => ?_, fun k hk => ?_, ⟨max v (V hi + 1), ?_, by omega, ?_, fun j h1 h2 h3 => ?_⟩, fun q q1 q2 q3 => ?_⟩, fun rec => ?_⟩
      · show ρ' 104 k = _
        rw [hρ', up_ne _ _ _ (by decide), up_ne _ _ _ (by decide), up_at]; unfold upd
        by_cases ek : k = lo
        · rw [if_pos ek, if_pos ek]
          unfold pU
          rw [cnt_st1 (fun j => covB gs (mg gs j) (mg gs lo)) hh, if_pos ec]
        · rw [if_neg ek, if_neg ek, g2 k hk, if_neg ek]
      · show ρ' 105 j = _
        rw [hρ', up_ne _ _ _ (by decide), up_at]; unfold upd
        by_cases ej : j = hi
        · rw [if_pos ej, ej, if_pos (by rw [ec]; simp)]
        · rw [if_neg ej, up_ne _ _ _ (by decide), g3 j hj]
          have : decide (j < hi + 1) = decide (j < hi) := by apply decide_eq_decide.mpr; omega
          rw [this]
      · show ρ' 106 k = _
        rw [hρ', up_at]; unfold upd; rw [if_neg hk, up_ne _ _ _ (by decide), up_ne _ _ _ (by decide), g4 k hk]
      · show ρ' 106 lo = _
        rw [hρ', up_at]; exact if_pos rfl
      · rcases Nat.le_total v (V hi + 1) with hm | hm
        · rw [Nat.max_eq_right hm]
          exact Or.inr ⟨hi, by omega, hh, ec, rfl⟩
        · rw [Nat.max_eq_left hm]; exact g7
      · by_cases ej : j = hi
        · rw [ej]; exact Nat.le_max_right _ _
        · have := g8 j h1 (by omega) h3
          exact Nat.le_trans this (Nat.le_max_left _ _)
      · show ρ' q = _
        rw [hρ', up_ne _ _ _ q3, up_ne _ _ _ q2, up_ne _ _ _ q1]; exact g9 q q1 q2 q3
      · rw [hB, if_neg (by rw [ec]; decide), f_max v (by omega) _ (by omega), hρ']
    · have ec' : covB gs (mg gs hi) (mg gs lo) = false := by simpa using ec
      refine ⟨(nI (hi + 1), ρ), ⟨rfl, fun k hk => ?_, fun j hj => ?_, g4, ⟨v, g5, g6, g7, fun j h1 h2 h3 => ?_⟩, g9⟩, fun rec => by rw [hB, if_pos ((bI_0 _).mpr ec')]⟩
      · show ρ 104 k = _
        rw [g2 k hk]
        by_cases ek : k = lo
        · rw [if_pos ek, if_pos ek]
          unfold pU
          rw [cnt_st1 (fun j => covB gs (mg gs j) (mg gs lo)) hh, if_neg ec]; rfl
        · rw [if_neg ek, if_neg ek]
      · show ρ 105 j = _
        rw [g3 j hj]
        by_cases ej : j = hi
        · rw [ej, ec']; simp
        · have : decide (j < hi + 1) = decide (j < hi) := by apply decide_eq_decide.mpr; omega
          rw [this]
      · by_cases ej : j = hi
        · rw [ej] at h3; exact absurd h3 ec
        · exact g8 j h1 (by omega) h3
  · obtain ⟨x, ρ⟩ := st
    have g1 : x = nI (lo + 1 + ((mems gs).length - (lo + 1))) := hi.1
    rw [show lo + 1 + ((mems gs).length - (lo + 1)) = (mems gs).length by omega] at g1
    subst g1
    show X2_make_B66 (nI (mems gs).length) (nI lo) kx rec (nI (mems gs).length, ρ) = _
    rw [X2_make_B66, if_pos (by rw [nle (by omega) (by omega)]; omega)]
  · obtain ⟨g1, g2, g3, g4, ⟨v, g5, g6, g7, g8⟩, g9⟩ := hI
    rw [show lo + 1 + ((mems gs).length - (lo + 1)) = (mems gs).length by omega] at g2 g3 g8
    refine ⟨s'.2, he, fun k hk => ?_, fun j hj => ?_, fun k h1 h2 => ?_, fun k hk => ?_, g9⟩
    · rw [g2 k hk]
      by_cases ek : k = lo
      · rw [if_pos ek, ek, if_pos ⟨Nat.le_refl _, hlo⟩, pU_all]
      · rw [if_neg ek, a1 k hk]
        by_cases e2 : lo + 1 ≤ k ∧ k < (mems gs).length
        · rw [if_pos e2, if_pos ⟨by omega, e2.2⟩]
        · rw [if_neg e2, if_neg (by omega)]
    · rw [g3 j hj, decide_eq_true hj, Bool.true_and]
      unfold pD
      rw [cnt_st2 (fun i => covB gs (mg gs j) (mg gs i)) hlo]
    · by_cases ek : k = lo
      · subst ek
        refine ⟨v, g5, ?_⟩
        have hmk : mg gs k ∈ mems gs := mems_getD hlo
        refine mx_up (V := fun b => V ((mems gs).idxOf b)) hmk (fun b hb hlt => ?_) ?_ (fun b hb hc => ?_)
        · obtain ⟨k1, k2⟩ := idx_get hb
          have hbm : mg gs ((mems gs).idxOf b) = b := by rw [mg_eq k1, k2]
          have hlt' : k < (mems gs).idxOf b := idx_order hlo k1 (by rw [k2, ← mg_eq hlo]; exact hlt)
          have := (hV _ hlt' k1).2
          rwa [hbm] at this
        · rcases g7 with h | ⟨j, j1, j2, j3, j4⟩
          · exact Or.inl h
          · refine Or.inr ⟨mg gs j, mems_getD j2, cov_lt j3, ?_⟩
            rw [mg_eq j2, (mems_nd gs).idxOf_getElem]; exact j4
        · obtain ⟨k1, k2⟩ := idx_get hb
          have hbm : mg gs ((mems gs).idxOf b) = b := by rw [mg_eq k1, k2]
          have hc' : covB gs (mg gs ((mems gs).idxOf b)) (mg gs k) = true := by rw [hbm]; exact hc
          exact g8 _ (cov_idx hlo k1 hc') k1 hc'
      · obtain ⟨w, w1, w2⟩ := a3 k (by omega) h2
        exact ⟨w, by rw [g4 k ek, w1], w2⟩
    · rw [g4 k (by omega)]; exact a4 k (by omega)
def OrdV (gs : List Nat) (τ : Wd) : Prop := (∀ k, k < 128 → τ 104 k = if k < (mems gs).length then nI (cU gs (mg gs k)) else 0) ∧ (∀ j, j < (mems gs).length → τ 105 j = nI (cD gs (mg gs j))) ∧ ∀ k, k < (mems gs).length → ∃ v, τ 106 k = nI v ∧ Mx (fun n => Up gs n (mg gs k)) v
def OrdC (gs : List Nat) (σ : Wd) : Prop := σ 103 4 = 0 ∨ OrdV gs σ
theorem OrdC.cg {gs : List Nat} {σ σ' : Wd} (h : OrdC gs σ) (h1 : σ' 103 = σ 103) (h2 : σ' 104 = σ 104) (h3 : σ' 105 = σ 105) (h4 : σ' 106 = σ 106) : OrdC gs σ' := by
  unfold OrdC OrdV at *
  rw [h1, h2, h3, h4]; exact h
theorem make_ok {σ : Wd} {n : Nat} {gs : List Nat} (hg : ∀ x ∈ gs, x < 128) (hfam : FamR σ n gs) (hO : OrdC gs σ) : ∃ τ, X2_make σ = some τ ∧ OrdV gs τ ∧ Fr σ τ [103, 104, 105, 106] := by
  have hl := mems_len gs
  by_cases h0 : σ 103 4 = 0
  · obtain ⟨σ2, e2, v2, f2⟩ := fill_ok (σ := up σ 103 4 1) (q := 104) (by decide) 0
    obtain ⟨σ3, e3, v3, f3⟩ := fill_ok (σ := σ2) (q := 105) (by decide) 0
    obtain ⟨σ4, e4, v4, f4⟩ := fill_ok (σ := σ3) (q := 106) (by decide) 0
    have f1 : Fr σ (up σ 103 4 1) [103] := Fr.up (by simp)
    have fr : Fr σ σ4 [103, 104, 105, 106] := (((f1.tr f2).tr f3).tr f4).mono (by simp)
    have fam : FamR σ4 n gs := hfam.cg (fun q q1 q2 => fr q (by simp; omega))
    have key : ∃ τ, lp (X2_make_B58 (nI (mems gs).length)) FU (nI (mems gs).length - 1, σ4) = some τ ∧ MkI gs σ4 0 τ := by
      refine lp_cr (body := X2_make_B58 (nI (mems gs).length)) (nI (mems gs).length - 1, σ4) (fun k st => st.1 = nI ((mems gs).length - k) - 1 ∧ MkI gs σ4 ((mems gs).length - k) st.2) (mems gs).length (fun st => some st.2) ⟨rfl, ⟨fun k hk => ?_, fun j hj => ?_, fun k h1 h2 => by omega, fun k hk => ?_, fun _ _ _ _ => rfl⟩⟩ (mems_4096 gs) (fun k st rec hk hi => ?_) (fun st rec hi => ?_) (fun s' hI he => ?_)
      · show σ4 104 k = _
        rw [f4 104 (by simp), f3 104 (by simp), v2, if_pos (by rw [show kLn 104 = 128 from rfl]; exact hk), if_neg (by omega)]
      · show σ4 105 j = _
        rw [f4 105 (by simp), v3, if_pos (by rw [show kLn 105 = 128 from rfl]; omega), Nat.sub_zero, pD_0]; rfl
      · show σ4 106 k = _
        rw [v4, if_pos (by rw [show kLn 106 = 128 from rfl]; omega)]
      · obtain ⟨x, ρ⟩ := st
        obtain ⟨g1, g2⟩ := hi
        simp only at g1 g2
        obtain ⟨lo, hlo⟩ : ∃ lo, lo = (mems gs).length - (k + 1) := ⟨_, rfl⟩
        have hlo1 : (mems gs).length - k = lo + 1 := by omega
        rw [hlo1] at g1 g2
        rw [nI_dn] at g1
        subst g1
        rw [← hlo]
        obtain ⟨τ', t1, t2⟩ := make_in hg fam (lo := lo) (by omega) g2 (X2_make_T152 rec (nI lo))
        refine ⟨(nI lo - 1, τ'), ⟨rfl, t2⟩, ?_⟩
        rw [X2_make_B58, if_neg (nneg (by omega)), t1, X2_make_T152, nI_dn2]
      · obtain ⟨x, ρ⟩ := st
        have g1 : x = nI ((mems gs).length - (mems gs).length) - 1 := hi.1
        rw [Nat.sub_self] at g1
        subst g1
        show X2_make_B58 (nI (mems gs).length) rec (nI 0 - 1, ρ) = _
        rw [X2_make_B58, if_pos nI_m1]
      · have := hI.2
        rw [Nat.sub_self] at this
        exact ⟨s'.2, he, this⟩
    obtain ⟨τ, t1, a1, a2, a3, a4, a5⟩ := key
    refine ⟨τ, ?_, ⟨fun k hk => ?_, fun j hj => ?_, fun k hk => a3 k (by omega) hk⟩, fun q hq => ?_⟩
    · rw [X2_make, if_pos h0, e2, sbind, e3, sbind, e4, sbind, fam.mem.1, f_min _ hl]
      exact t1
    · rw [a1 k hk]
      by_cases e : k < (mems gs).length
      · rw [if_pos ⟨by omega, e⟩, if_pos e]
      · rw [if_neg (by omega), if_neg e]
    · rw [a2 j hj, pD_all]
    · simp only [List.mem_cons, List.not_mem_nil, or_false, not_or] at hq
      rw [a5 q hq.2.1 hq.2.2.1 hq.2.2.2]
      exact fr q (by simp; omega)
  · have hv : OrdV gs σ := by
      rcases hO with h | h
      · exact absurd h h0
      · exact h
    exact ⟨σ, by rw [X2_make, if_neg h0], hv, Fr.rf _ _⟩
