/-! refused: both loops step alike -/
theorem lp_eq {S C : Type} {b1 b2 : (S → Option C) → S → Option C} (P : S → Prop) (h : ∀ s rec1 rec2, P s → (∀ s', P s' → rec1 s' = rec2 s') → b1 rec1 s = b2 rec2 s) : ∀ f s, P s → lp b1 f s = lp b2 f s
  | 0, s, _ => rfl
  | f + 1, s, hs => h s _ _ hs (fun s' hs' => lp_eq P h f s' hs')
theorem q_refused {σ : Wd} {a : St} {hs : List St} {tp : List Nat} (hC : CR σ a hs tp) (hM : MR σ a hs tp) (hw : wf a) (x : Int32) : ∃ r, X10_refused σ x = some r ∧ X11_refused σ x = some r := by
  have h20 := hw.2.2.2.1
  have r4 : RowR σ 4 a.2.2.2 := hC.st.2.1
  have hlm : X11_listMany σ = nI a.2.2.2.length := hM.row.2.2.2.1
  rcases pk_ix x (n := 3) (by decide) with hx | hx | ⟨k, hk, rfl⟩
  · exact ⟨-1, by rw [X10_refused, if_pos hx], by rw [X11_refused, lit_2, in_no (by decide) (Or.inl hx), if_pos rfl]⟩
  · refine ⟨-1, ?_, by rw [X11_refused, lit_2, in_no (by decide) (Or.inr hx), if_pos rfl]⟩
    have h1 : ¬ x ≤ 2 := by
      rw [Int32.le_iff_toInt_le] at hx ⊢
      have e1 : (nI 3).toInt = 3 := by decide
      have e2 : (2 : Int32).toInt = 2 := by decide
      omega
    rw [X10_refused]
    by_cases h0 : x < 0
    · rw [if_pos h0]
    · rw [if_neg h0, if_neg h1]
  have hsm : X10_refused σ (nI k) = X11_refused σ (nI k) := by
    rw [X10_refused, if_neg (nneg (by omega)), if_pos (by rw [show (2 : Int32) = nI 2 from rfl, nle (by omega) (by omega)]; omega), X11_refused, show X11_in (nI k) 0 2 = 1 by rw [lit_2]; exact in_in (by decide) hk, if_neg (by decide)]
    refine lp_eq (fun s => ∃ i, s = nI i ∧ i ≤ a.2.2.2.length) (fun s rec1 rec2 hs hrec => ?_) FU 0 ⟨0, nI_0.symm, by omega⟩
    obtain ⟨i, rfl, hi⟩ := hs
    rw [X10_refused_B13, X11_refused_B13, r4.1, hlm]
    by_cases e : a.2.2.2.length ≤ i
    · rw [if_pos (by rw [nle (by omega) (by omega)]; exact e), if_pos (by rw [nle (by omega) (by omega)]; exact e)]
    · rw [if_neg (by rw [nle (by omega) (by omega)]; exact e), if_neg (by rw [nle (by omega) (by omega)]; exact e), X10_refused_T112, X11_refused_T89, nI_1, hrec (nI (i + 1)) ⟨i + 1, rfl, by omega⟩]
      refine lp_eq (fun s => ∃ j, s = nI j ∧ j ≤ a.2.2.2.length) (fun s rec1' rec2' hs hrec' => ?_) FU _ ⟨i + 1, rfl, by omega⟩
      obtain ⟨j, rfl, hj⟩ := hs
      rw [X10_refused_B31, X11_refused_B25, r4.1, hlm]
      by_cases e2 : a.2.2.2.length ≤ j
      · rw [if_pos (by rw [nle (by omega) (by omega)]; exact e2), if_pos (by rw [nle (by omega) (by omega)]; exact e2)]
      · have hi' : i < a.2.2.2.length := by omega
        have hj' : j < a.2.2.2.length := by omega
        have b1 : a.2.2.2.getD i 0 < 128 := by rw [getD_lt hi']; exact wf_lt' hw _ (List.getElem_mem hi')
        have b2 : a.2.2.2.getD j 0 < 128 := by rw [getD_lt hj']; exact wf_lt' hw _ (List.getElem_mem hj')
        have b3 := or_lt b1 b2
        obtain ⟨v, v1, v2⟩ := c_findL hC.st hw b3
        rw [if_neg (by rw [nle (by omega) (by omega)]; exact e2), if_neg (by rw [nle (by omega) (by omega)]; exact e2), row_at_in r4 (by exact h20) (by decide) hi', sbind, row_at_in r4 (by exact h20) (by decide) hj', sbind, f_or _ b1 _ b2, v1, sbind, show (22 : Int32) = nI 22 from rfl, nI_add, nI_add, ckA_n (by omega) (by omega), ckA_n (by omega) (by omega), ncl (by omega), ncl (by omega), hM.row.2.2.2.2.2.2 i hi', hM.row.2.2.2.2.2.2 j hj', f_or _ b1 _ b2]
        dsimp only [lett]
        rw [listed_ok hM.row hw b3, sbind]
        by_cases e3 : a.2.2.2.getD i 0 ||| a.2.2.2.getD j 0 ∈ a.2.2.2
        · rw [if_neg (fun h => v2.mp h e3), if_pos e3, if_neg (by decide), nI_1, hrec' (nI (j + 1)) ⟨j + 1, rfl, by omega⟩]
        · rw [if_pos (v2.mpr e3), if_neg e3, if_pos rfl]
  have hr : ∃ r, X10_refused σ (nI k) = some r := by
    rw [X10_refused, if_neg (nneg (by omega)), if_pos (by rw [show (2 : Int32) = nI 2 from rfl, nle (by omega) (by omega)]; omega)]
    refine lp_qr (body := X10_refused_B13 σ (nI k)) (fun i s => s = nI i) a.2.2.2.length (fun r => ∃ v, r = some v) nI_0.symm (by omega) (fun i s rec hi hs => ?_) (fun s rec hs => ?_)
    · subst hs
      rw [X10_refused_B13, r4.1, if_neg (by rw [nle (by omega) (by omega)]; omega), X10_refused_T112, nI_1]
      have := lp_q (body := X10_refused_B31 σ (nI i) (nI k) (rec (nI (i + 1)))) (fun j s => s = nI (i + 1 + j) ∧ i + 1 + j ≤ a.2.2.2.length) (a.2.2.2.length - (i + 1)) (fun r => r = rec (nI (i + 1)) ∨ ∃ v, r = some v) (s := nI (i + 1)) ⟨rfl, by omega⟩ (by omega) (fun j s hj hi' => ?_) (fun s hi' => ?_)
      · rcases this with h | ⟨v, h⟩
        · left; exact ⟨nI (i + 1), rfl, h⟩
        · right; exact ⟨v, h⟩
      · obtain ⟨rfl, hj2⟩ := hi'
        have hi' : i < a.2.2.2.length := by omega
        have hj' : i + 1 + j < a.2.2.2.length := by omega
        have b1 : a.2.2.2.getD i 0 < 128 := by rw [getD_lt hi']; exact wf_lt' hw _ (List.getElem_mem hi')
        have b2 : a.2.2.2.getD (i + 1 + j) 0 < 128 := by rw [getD_lt hj']; exact wf_lt' hw _ (List.getElem_mem hj')
        obtain ⟨v, v1, v2⟩ := c_findL hC.st hw (or_lt b1 b2)
        have hB : ∀ rec', X10_refused_B31 σ (nI i) (nI k) (rec (nI (i + 1))) rec' (nI (i + 1 + j)) = if v = -1 then (if nI k = 0 then some (nI i) else (if nI k = 1 then some (nI (i + 1 + j)) else some (nI (a.2.2.2.getD i 0 ||| a.2.2.2.getD (i + 1 + j) 0)))) else rec' (nI (i + 1 + j + 1)) := by
          intro rec'
          rw [X10_refused_B31, r4.1, if_neg (by rw [nle (by omega) (by omega)]; omega), row_at_in r4 (by exact h20) (by decide) hi', sbind, row_at_in r4 (by exact h20) (by decide) hj', sbind, f_or _ b1 _ b2, v1, sbind, nI_1]
        by_cases e : v = -1
        · right
          refine ⟨_, Or.inr ?_, fun rec' => by rw [hB, if_pos e]⟩
          by_cases e0 : nI k = 0
          · exact ⟨_, by rw [if_pos e0]⟩
          · by_cases e1 : nI k = 1
            · exact ⟨_, by rw [if_neg e0, if_pos e1]⟩
            · exact ⟨_, by rw [if_neg e0, if_neg e1]⟩
        · left
          exact ⟨nI (i + 1 + (j + 1)), ⟨rfl, by omega⟩, fun rec' => by rw [hB, if_neg e]; rfl⟩
      · obtain ⟨rfl, hj2⟩ := hi'
        refine ⟨_, Or.inl rfl, fun rec' => ?_⟩
        rw [X10_refused_B31, r4.1, if_pos (by rw [nle (by omega) (by omega)]; omega)]
    · subst hs
      exact ⟨-2, by rw [X10_refused_B13, r4.1, if_pos (by rw [nle (by omega) (by omega)]; omega)]⟩
  obtain ⟨r, h⟩ := hr
  exact ⟨r, h, by rw [← hsm]; exact h⟩
/-! what one more set would bring -/
def nw (gs : List Nat) (s k t : Nat) : Bool := !famB gs t && ((mems gs).take k).any (fun m => m ||| s == t)
theorem nw_succ {gs : List Nat} {s k : Nat} (hk : k < (mems gs).length) (t : Nat) : nw gs s (k + 1) t = (nw gs s k t || (!famB gs t && ((mems gs)[k] ||| s == t))) := by
  unfold nw
  rw [List.take_succ_eq_append_getElem hk, List.any_append]
  simp only [List.any_cons, List.any_nil, Bool.or_false]
  cases famB gs t <;> simp
def gn (gs : List Nat) (s : Nat) : Nat := (List.range 128).countP (nw gs s (mems gs).length)
def ex (gs : List Nat) (s p : Nat) : Nat := (List.range 128).countP (fun t => nw gs s (mems gs).length t && t.testBit p)
theorem addPts_ok {σ : Wd} {u : Nat} (hu : u < 128) : ∃ σ', X9_addPoints σ (nI u) = some σ' ∧ (∀ p, p < 7 → σ' 118 p = σ 118 p + nI (if u.testBit p then 1 else 0)) ∧ Fr σ σ' [118] := by
  unfold X9_addPoints
  refine lp_c (body := X9_addPoints_B2 (nI u)) (0, σ) (fun k s => s.1 = nI k ∧ (∀ p, p < 7 → s.2 118 p = if p < k then σ 118 p + nI (if u.testBit p then 1 else 0) else σ 118 p) ∧ Fr σ s.2 [118]) 7 (fun s => some s.2) ⟨nI_0.symm, fun p hp => by simp, Fr.rf _ _⟩ (by omega) (fun k s hk hi => ?_) (fun s hi rec => ?_) (fun s' hI he => ?_)
  · obtain ⟨x, τ⟩ := s
    obtain ⟨h1, h2, h3⟩ := hi
    simp only at h1 h2 h3
    subst h1
    refine ⟨(nI (k + 1), up τ 118 k (σ 118 k + nI (if u.testBit k then 1 else 0))), ⟨rfl, fun p hp => ?_, (h3.tr (Fr.up (ps := [118]) (by simp))).mono (by simp)⟩, fun rec => ?_⟩
    · show up τ 118 k (σ 118 k + nI (if u.testBit k then 1 else 0)) 118 p = _
      rw [up_at]; unfold upd
      by_cases e : p = k
      · rw [if_pos e, if_pos (show p < k + 1 by omega), e]
      · rw [if_neg e, h2 p hp]
        by_cases e2 : p < k
        · rw [if_pos e2, if_pos (show p < k + 1 by omega)]
        · rw [if_neg e2, if_neg (show ¬ p < k + 1 by omega)]
    · rw [X9_addPoints_B2, if_neg (by rw [L7, nle (by omega) (by omega)]; omega), ckA_n hk (by omega), ckA_n hk (by omega), ncl (by omega), f_bit u hu k hk, h2 k hk, if_neg (Nat.lt_irrefl _), nI_1]
  · obtain ⟨x, τ⟩ := s
    have h1 : x = nI 7 := hi.1
    subst h1
    show X9_addPoints_B2 (nI u) rec (nI 7, τ) = _
    rw [X9_addPoints_B2, if_pos (by rw [L7, nle (by omega) (by omega)]; omega)]
  · exact ⟨s'.2, he, fun p hp => by rw [hI.2.1 p hp, if_pos hp], hI.2.2⟩
theorem gain_ok {σ : Wd} {n : Nat} {gs : List Nat} (h : FamR σ n gs) {s : Nat} (hs : s < 128) : ∃ σ', X9_gain σ (nI s) = some (nI (gn gs s), σ') ∧ (∀ p, p < 7 → σ' 118 p = nI (ex gs s p)) ∧ Fr σ σ' [117, 118] := by
  obtain ⟨σ1, e1, v1, f1⟩ := fill_ok (σ := σ) (q := 117) (by decide) 0
  obtain ⟨σ2, e2, v2, f2⟩ := fill_ok (σ := σ1) (q := 118) (by decide) 0
  have f12 : Fr σ σ2 [117, 118] := (f1.tr f2).mono (by simp)
  have z : ∀ t, nw gs s 0 t = false := fun t => by simp [nw]
  unfold X9_gain
  rw [e1, sbind, e2, sbind]
  refine lp_c (body := X9_gain_B20 (nI s)) (0, 0, σ2) (fun k st => st.1 = nI ((List.range 128).countP (nw gs s k)) ∧ st.2.1 = nI k ∧ (∀ t, t < 128 → st.2.2 117 t = if nw gs s k t then 1 else 0) ∧ (∀ p, p < 7 → st.2.2 118 p = nI ((List.range 128).countP (fun t => nw gs s k t && t.testBit p))) ∧ Fr σ st.2.2 [117, 118]) (mems gs).length (fun st => some (nI (gn gs s), st.2.2)) ⟨?_, nI_0.symm, fun t ht => ?_, fun p hp => ?_, f12⟩ (mems_4096 gs) (fun k st hk hi => ?_) (fun st hi rec => ?_) (fun s' hI he => ?_)
  · show (0 : Int32) = nI ((List.range 128).countP (nw gs s 0))
    rw [List.countP_eq_zero.mpr (fun t _ => by simp [z])]; rfl
  · show σ2 117 t = _
    rw [f2 117 (by simp), v1, if_pos (by rw [show kLn 117 = 128 from rfl]; exact ht), z]; rfl
  · show σ2 118 p = _
    rw [v2, if_pos (by rw [show kLn 118 = 7 from rfl]; exact hp), List.countP_eq_zero.mpr (fun t _ => by simp [z])]; rfl
  · obtain ⟨x2, x3, τ⟩ := st
    obtain ⟨g1, g2, g3, g4, g5⟩ := hi
    simp only at g1 g2 g3 g4 g5
    subst g1 g2
    have hm8 := mem_at_lt hk
    obtain ⟨u, hu⟩ : ∃ u, u = (mems gs)[k] ||| s := ⟨_, rfl⟩
    have hu8 : u < 128 := hu ▸ or_lt hm8 hs
    have rm : RowR τ 95 (mems gs) := h.mem.cg (g5 95 (by simp)) (g5 96 (by simp))
    have rn : ∀ t, t < 128 → τ 99 t = numB gs t := fun t ht => by rw [g5 99 (by simp)]; exact h.num t ht
    have hsucc := fun t => nw_succ (gs := gs) (s := s) hk t
    rw [← hu] at hsucc
    have hB : ∀ rec, X9_gain_B20 (nI s) rec (nI ((List.range 128).countP (nw gs s k)), nI k, τ) = (if 0 ≤ numB gs u then X9_gain_J68 rec (nI ((List.range 128).countP (nw gs s k))) (nI k) (nI u) 0 τ else X9_gain_J68 rec (nI ((List.range 128).countP (nw gs s k))) (nI k) (nI u) 1 τ) := by
      intro rec
      rw [X9_gain_B20, if_neg (mem_go rm hk), mem_at rm hk, sbind, f_or _ hm8 s hs, ← hu, num_ok rn hu8, sbind]
    have keep : (∀ t, nw gs s (k + 1) t = nw gs s k t) → (∀ rec, X9_gain_B20 (nI s) rec (nI ((List.range 128).countP (nw gs s k)), nI k, τ) = rec (nI ((List.range 128).countP (nw gs s k)), nI (k + 1), τ)) → ∃ s', (s'.1 = nI ((List.range 128).countP (nw gs s (k + 1))) ∧ s'.2.1 = nI (k + 1) ∧ (∀ t, t < 128 → s'.2.2 117 t = if nw gs s (k + 1) t then 1 else 0) ∧ (∀ p, p < 7 → s'.2.2 118 p = nI ((List.range 128).countP (fun t => nw gs s (k + 1) t && t.testBit p))) ∧ Fr σ s'.2.2 [117, 118]) ∧ ∀ rec, X9_gain_B20 (nI s) rec (nI ((List.range 128).countP (nw gs s k)), nI k, τ) = rec s' := by
      intro hn hr
      have hn' : nw gs s (k + 1) = nw gs s k := funext hn
      exact ⟨(nI ((List.range 128).countP (nw gs s k)), nI (k + 1), τ), ⟨by rw [hn'], rfl, by rw [hn']; exact g3, by rw [hn']; exact g4, g5⟩, hr⟩
    by_cases em : u ∈ mems gs
    · have hf : famB gs u = true := (mem_iff_famB hu8).mp em
      refine keep (fun t => ?_) (fun rec => ?_)
      · rw [hsucc]
        by_cases e : t = u
        · rw [e, hf]; simp
        · have : (u == t) = false := by simpa using fun h => e h.symm
          rw [this]; simp
      · have h0 : 0 ≤ numB gs u := by
          have h1 : ¬ numB gs u < 0 := fun h => (numB_neg hu8).mp h em
          rw [Int32.lt_iff_toInt_lt] at h1
          rw [Int32.le_iff_toInt_le]; omega
        rw [hB, if_pos h0, X9_gain_J68, if_pos rfl, X9_gain_J115, nI_1]
    · have hf : famB gs u = false := by
        cases hh : famB gs u
        · rfl
        · exact absurd ((mem_iff_famB hu8).mpr hh) em
      have h0 : ¬ 0 ≤ numB gs u := by
        have h1 : numB gs u < 0 := (numB_neg hu8).mpr em
        rw [Int32.lt_iff_toInt_lt] at h1
        rw [Int32.le_iff_toInt_le]; omega
      have hJ : ∀ rec, X9_gain_J68 rec (nI ((List.range 128).countP (nw gs s k))) (nI k) (nI u) 1 τ = (if (if nw gs s k u then (1 : Int32) else 0) = 0 then ((X9_addPoints (up τ 117 u 1) (nI u)).bind fun σ13 => rec (nI ((List.range 128).countP (nw gs s k) + 1), nI (k + 1), σ13)) else rec (nI ((List.range 128).countP (nw gs s k)), nI (k + 1), τ)) := by
        intro rec
        rw [X9_gain_J68, if_neg (by decide), if_neg (nneg (by omega)), if_neg (le128 hu8), ckA_n hu8 (by omega), ckA_n hu8 (by omega), ncl (by omega), g3 u hu8]
        simp only [X9_gain_J115, nI_1]
      by_cases e : nw gs s k u = true
      · refine keep (fun t => ?_) (fun rec => by rw [hB, if_neg h0, hJ, if_pos e, if_neg (by decide)])
        rw [hsucc]
        by_cases e' : t = u
        · rw [e', e]; rfl
        · have : (u == t) = false := by simpa using fun h => e' h.symm
          rw [this]; simp
      · have e' : nw gs s k u = false := by simpa using e
        have hu1 : nw gs s (k + 1) u = true := by rw [hsucc, hf]; simp
        have hne : ∀ t, t ≠ u → nw gs s (k + 1) t = nw gs s k t := fun t ht => by
          rw [hsucc]
          have : (u == t) = false := by simpa using fun h => ht h.symm
          rw [this]; simp
        obtain ⟨τ1, q1, q2, q3⟩ := addPts_ok (σ := up τ 117 u 1) hu8
        have fr : Fr σ τ1 [117, 118] := ((g5.tr (Fr.up (ps := [117]) (by simp))).tr q3).mono (by simp)
        refine ⟨(nI ((List.range 128).countP (nw gs s k) + 1), nI (k + 1), τ1), ⟨?_, rfl, fun t ht => ?_, fun p hp => ?_, fr⟩, fun rec => ?_⟩
        · rw [countP_upd e' hu1 hne, if_pos hu8]
        · show τ1 117 t = _
          rw [q3 117 (by simp), up_at]; unfold upd
          by_cases et : t = u
          · rw [if_pos et, et, hu1]; rfl
          · rw [if_neg et, g3 t ht, hne t et]
        · show τ1 118 p = _
          rw [q2 p hp, up_ne _ _ _ (by decide), g4 p hp, nI_add]
          suffices hh : (List.range 128).countP (fun t => nw gs s k t && t.testBit p) + (if u.testBit p = true then 1 else 0) = (List.range 128).countP (fun t => nw gs s (k + 1) t && t.testBit p) by rw [hh]
          by_cases eb : u.testBit p = true
          · rw [if_pos eb, countP_upd (p := fun t => nw gs s k t && t.testBit p) (p' := fun t => nw gs s (k + 1) t && t.testBit p) (u := u) (by simp [e']) (by simp [hu1, eb]) (fun t ht => by rw [hne t ht]), if_pos hu8]
          · rw [if_neg eb, Nat.add_zero]
            apply List.countP_congr
            intro t _
            by_cases et : t = u
            · rw [et]; simp [eb]
            · rw [hne t et]
        · rw [hB, if_neg h0, hJ, e', if_pos (by decide), q1, sbind]
  · obtain ⟨x2, x3, τ⟩ := st
    obtain ⟨g1, g2, g3, g4, g5⟩ := hi
    simp only at g1 g2 g3 g4 g5
    subst g1 g2
    have rm : RowR τ 95 (mems gs) := h.mem.cg (g5 95 (by simp)) (g5 96 (by simp))
    show X9_gain_B20 (nI s) rec (_, nI (mems gs).length, τ) = _
    rw [X9_gain_B20, if_pos (mem_stop rm)]; rfl
  · exact ⟨s'.2.2, he, hI.2.2.2.1, hI.2.2.2.2⟩
theorem fam_snoc {gs : List Nat} (hg : ∀ x ∈ gs, x < 128) {s : Nat} (hs : s < 128) {t : Nat} (ht : t < 128) : famB (gs ++ [s]) t = (famB gs t || nw gs s (mems gs).length t) := by
  have hg' : ∀ x ∈ gs ++ [s], x < 128 := fun x hx => by
    rcases List.mem_append.mp hx with h | h
    · exact hg x h
    · simp at h; omega
  apply Bool.eq_iff_iff.mpr
  rw [famB_iff hg' ht, mem_snoc, Bool.or_eq_true, famB_iff hg ht, nw, List.take_length, Bool.and_eq_true, List.any_eq_true]
  by_cases e : Mem gs t
  · simp [e]
  · have : famB gs t = false := by
      cases hh : famB gs t
      · rfl
      · exact absurd ((famB_iff hg ht).mp hh) e
    rw [this]
    constructor
    · rintro (h | ⟨m, m1, m2⟩)
      · exact absurd h e
      · exact Or.inr ⟨rfl, m, (mems_mem hg).mpr m1, by simpa using m2⟩
    · rintro (h | ⟨-, m, m1, m2⟩)
      · exact absurd h e
      · exact Or.inr ⟨m, (mems_mem hg).mp m1, by simpa using m2⟩
theorem countP_or {A N : Nat → Bool} (h : ∀ t, A t = true → N t = false) (l : List Nat) : l.countP (fun t => A t || N t) = l.countP A + l.countP N := by
  induction l with
  | nil => rfl
  | cons x r ih =>
    rw [List.countP_cons, List.countP_cons, List.countP_cons, ih]
    cases ha : A x
    · simp; omega
    · rw [h x ha]; simp; omega
theorem nw_dis {gs : List Nat} {s k : Nat} : ∀ t, famB gs t = true → nw gs s k t = false := fun t h => by simp [nw, h]
theorem many_snoc {gs : List Nat} (hg : ∀ x ∈ gs, x < 128) {s : Nat} (hs : s < 128) : (List.range 128).countP (famB (gs ++ [s])) = (mems gs).length + gn gs s := by
  rw [← many_range, gn, ← countP_or nw_dis]
  apply List.countP_congr
  intro t ht
  rw [fam_snoc hg hs (List.mem_range.mp ht)]
theorem freq_snoc {gs : List Nat} (hg : ∀ x ∈ gs, x < 128) {s : Nat} (hs : s < 128) (p : Nat) : (List.range 128).countP (fun t => famB (gs ++ [s]) t && t.testBit p) = cntA gs (2 ^ p) + ex gs s p := by
  rw [← cnt_bit, ← cnt_range, ex, ← countP_or (fun t h => by rw [nw_dis t (by rw [Bool.and_eq_true] at h; exact h.1)]; rfl)]
  apply List.countP_congr
  intro t ht
  rw [fam_snoc hg hs (List.mem_range.mp ht), Bool.and_or_distrib_right]
theorem gn_le {gs : List Nat} (hg : ∀ x ∈ gs, x < 128) {s : Nat} (hs : s < 128) : (mems gs).length + gn gs s ≤ 128 := by
  rw [← many_snoc hg hs]; exact cnt128 _
theorem withOne_ok {σ : Wd} {a : St} (hr : MRow (σ 121) a) (hw : wf a) {s : Nat} (hs : s < 128) : ∃ g, X11_withOne σ (nI s) = some (nI ((mems a.2.2.1).length + gn a.2.2.1 s), sA σ 128 g) := by
  have h12 := hw.2.2.1.1
  obtain ⟨g, d1, d2⟩ := spans_mk (q := 128) (x := -1) (more := s) (L := a.2.2.1 ++ [s]) hr rfl (by decide) (wf_lt hw) hs (fun x hx => by
    rcases List.mem_append.mp hx with h | h
    · exact wf_lt hw x h
    · simp at h; omega) (fun t => by rw [owns_all (by omega)])
  exact ⟨g, by rw [X11_withOne, d1, sbind, manyOf_ok rfl d2, sbind, many_snoc (wf_lt hw) hs]⟩
theorem q_withSet {σ : Wd} {a : St} {hs : List St} {tp : List Nat} (hC : CR σ a hs tp) (hM : MR σ a hs tp) (hw : wf a) (x : Int32) : ∃ r σ1 σ2, X10_withSet σ x = some (r, σ1) ∧ X11_withSet σ1 x = some (r, σ2) ∧ Fr σ σ1 [117, 118] ∧ QO σ1 σ2 a hs tp := by
  have h2 := p2_le hw.1.2
  rcases pk_ix x (n := 2 ^ a.1) (by omega) with hx | hx | ⟨t, ht, rfl⟩
  · exact ⟨-1, σ, σ, by rw [X10_withSet, c_fsetN hC.st hw (Or.inl hx)]; rfl, by rw [X11_withSet, m_setN hM.row hw (Or.inl hx)]; rfl, Fr.rf _ _, QO.no hM⟩
  · exact ⟨-1, σ, σ, by rw [X10_withSet, c_fsetN hC.st hw (Or.inr hx)]; rfl, by rw [X11_withSet, m_setN hM.row hw (Or.inr hx)]; rfl, Fr.rf _ _, QO.no hM⟩
  by_cases h0 : t = 0
  · subst h0
    exact ⟨-1, σ, σ, by rw [X10_withSet, c_fset0]; rfl, by rw [X11_withSet, m_set hM.row hw ht, if_neg (by decide), if_pos nI_0], Fr.rf _ _, QO.no hM⟩
  obtain ⟨σ1, c1, -, c2⟩ := gain_ok hC.fam (s := t) (by omega)
  have hM1 : MR σ1 a hs tp := hM.hi (fun q hq => c2 q (by simp; omega))
  obtain ⟨g, d1⟩ := withOne_ok hM1.row hw (s := t) (by omega)
  refine ⟨nI ((mems a.2.2.1).length + gn a.2.2.1 t), σ1, sA σ1 128 g, ?_, ?_, c2, QO.one hM1 (by decide) (by decide) (by decide) (by decide) (by decide) g⟩
  · rw [X10_withSet, c_fset hC.st hw ht h0, if_neg (by decide), c1, sbind, hC.fam.mem.1]
    show some (nI (mems a.2.2.1).length + nI (gn a.2.2.1 t), σ1) = _
    rw [nI_add]
  · rw [X11_withSet, m_set hM1.row hw ht, if_neg (by decide), if_neg (nI_ne0 (by omega) (by omega)), d1, sbind]
