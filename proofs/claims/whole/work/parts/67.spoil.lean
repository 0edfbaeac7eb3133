/-! spoiler -/
def fn (gs : List Nat) (n s : Nat) : Nat := (List.range n).countP (fun p => decide ((mems gs).length + gn gs s ≤ 2 * (cntA gs (2 ^ p) + ex gs s p)))
theorem fn_le (gs : List Nat) (n s : Nat) : fn gs n s ≤ n := Nat.le_trans List.countP_le_length (by simp)
theorem ex_le (gs : List Nat) (s p : Nat) : ex gs s p ≤ 128 := cnt128 _
theorem pc_frq (F : Nat → Bool) {n : Nat} (hn : n ≤ 7) : pc (frq F n) = (List.range n).countP F := by
  unfold pc
  have key : ∀ m, n ≤ m → (List.range m).countP (fun p => (frq F n).testBit p) = (List.range n).countP F := by
    intro m
    induction m with
    | zero =>
      intro h
      have : n = 0 := by omega
      subst this; rfl
    | succ m ih =>
      intro h
      by_cases e : n = m + 1
      · subst e
        apply List.countP_congr
        intro p hp
        have := List.mem_range.mp hp
        rw [frq_bit]; simp [this]
      · rw [List.range_succ, List.countP_append, ih (by omega), List.countP_singleton, if_neg]
        · rfl
        · intro hh
          have := (frq_bit _ _ _).mp hh
          omega
  exact key 7 hn
theorem cfw_ok {σ : Wd} {n : Nat} {gs : List Nat} (hg : ∀ x ∈ gs, x < 128) (hn : n ≤ 7) (h : FamR σ n gs) {s : Nat} (hs : s < 128) : ∃ σ', X9_countFrequentWith σ (nI s) = some (nI (fn gs n s), σ') ∧ Fr σ σ' [117, 118] := by
  obtain ⟨σ1, c1, c2, c3⟩ := gain_ok h hs
  have fam : FamR σ1 n gs := h.cg (fun q q1 q2 => c3 q (by simp; omega))
  have hgl := gn_le hg hs
  refine ⟨σ1, ?_, c3⟩
  rw [X9_countFrequentWith, c1, sbind]
  dsimp only [lett]
  rw [h.mem.1, nI_add]
  unfold fn
  refine lp_cnt (List.range n) _ (fun n k => (nI n, nI k)) (fun n => some (nI n, σ1)) (by rw [nI_0]) (by simp; omega) (fun k c hk hc rec => ?_) (fun c hc rec => ?_)
  · simp only [List.length_range] at hk
    rw [List.getElem_range]
    have b1 := cntA_le gs (2 ^ k)
    have b2 := ex_le gs s k
    show X9_countFrequentWith_B22 σ1 _ rec (nI c, nI k) = rec (nI _, nI (k + 1))
    rw [X9_countFrequentWith_B22, fam.pts, if_neg (by rw [nle (by omega) (by omega)]; omega), if_neg (by rw [L7, nle (by omega) (by omega)]; omega), often_ok fam (by omega), sbind, ckA_n (by omega) (by omega), ncl (by omega), c2 k (by omega), nI_add, show (2 : Int32) = nI 2 from rfl, nmul]
    by_cases e : (mems gs).length + gn gs s ≤ 2 * (cntA gs (2 ^ k) + ex gs s k)
    · rw [if_neg (by rw [nlt (by omega) (by omega)]; omega), X9_countFrequentWith_J70, nI_1, nI_1, if_pos (by simpa using e)]
    · rw [if_pos (by rw [nlt (by omega) (by omega)]; omega), X9_countFrequentWith_J70, nI_1, if_neg (by simpa using e)]
  · rw [List.length_range]
    show X9_countFrequentWith_B22 σ1 _ rec (nI c, nI n) = _
    rw [X9_countFrequentWith_B22, fam.pts, if_pos (by rw [nle (by omega) (by omega)]; omega)]
def sst (gs : List Nat) (n : Nat) (s : Int32 × Nat) (t : Nat) : Int32 × Nat := if (0 < t ∧ t < 2 ^ n) ∧ fn gs n t < s.2 then (nI t, fn gs n t) else s
def sres (gs : List Nat) (n : Nat) : Int32 × Nat := ordS.foldl (sst gs n) (-2, 8)
theorem sst_id {gs : List Nat} {n : Nat} (s : Int32 × Nat) (t : Nat) (h : t = 0 ∨ 2 ^ n ≤ t) : sst gs n s t = s := if_neg (by omega)
def okS (s : Int32 × Nat) : Prop := s.2 ≤ 8
theorem sst_ok {gs : List Nat} {n : Nat} (hn : n ≤ 7) {s : Int32 × Nat} (h : okS s) (t : Nat) : okS (sst gs n s t) := by
  unfold sst
  by_cases e : (0 < t ∧ t < 2 ^ n) ∧ fn gs n t < s.2
  · rw [if_pos e]
    have := fn_le gs n t
    show fn gs n t ≤ 8
    omega
  · rw [if_neg e]; exact h
def cS (s : Int32 × Nat) : Int32 := if s.2 = 8 then nI 1000000 else nI s.2
theorem spoilC_ok {σ : Wd} {n : Nat} {gs : List Nat} (hg : ∀ x ∈ gs, x < 128) (hn : n ≤ 7) (h : FamR σ n gs) : ∃ σ', X9_leastFrequent σ = some ((sres gs n).1, σ') ∧ Fr σ σ' [117, 118] := by
  have h2 := p2_le hn
  have hp := p2_pos n
  have hl := ordS_len
  unfold X9_leastFrequent
  refine lp_c (body := X9_leastFrequent_B8) (-2, 1000000, 1, σ) (fun k s => ∃ S : Int32 × Nat, S = (ordS.take (k + 1)).foldl (sst gs n) (-2, 8) ∧ okS S ∧ s.1 = S.1 ∧ s.2.1 = cS S ∧ s.2.2.1 = nI (k + 1) ∧ Fr σ s.2.2.2 [117, 118]) 127 (fun s => some ((sres gs n).1, s.2.2.2)) ⟨(-2, 8), ?_, Nat.le_refl _, rfl, rfl, rfl, Fr.rf _ _⟩ (by omega) (fun k s hk hi => ?_) (fun s hi rec => ?_) (fun s' hI he => ?_)
  · rw [ordS_0, List.foldl_cons, List.foldl_nil, sst_id _ 0 (Or.inl rfl)]
  · obtain ⟨x1, x2, x3, τ⟩ := s
    obtain ⟨S, S0, S1, g1, g2, g3, g4⟩ := hi
    simp only at g1 g2 g3 g4
    subst g1 g2 g3
    have fam : FamR τ n gs := h.cg (fun q q1 q2 => g4 q (by simp; omega))
    obtain ⟨t, ht⟩ : ∃ t, t = ordS.getD (k + 1) 0 := ⟨_, rfl⟩
    have ht8 : t < 128 := ht ▸ ordS_get_lt (by omega)
    have ht0 : 0 < t := ht ▸ ordS_pos (k + 1) (by omega) (by omega)
    have hS : (ordS.take (k + 1 + 1)).foldl (sst gs n) (-2, 8) = sst gs n S t := by
      rw [foldl_take_succ _ _ _ _ (by omega), ← S0, ht, getD_lt (by omega)]
    have hB : ∀ rec, X9_leastFrequent_B8 rec (S.1, cS S, nI (k + 1), τ) = (if nI (2 ^ n - 1) < nI t then rec (S.1, cS S, nI (k + 1 + 1), τ) else ((X9_countFrequentWith τ (nI t)).bind fun (t6, σ7) => (if cS S ≤ t6 then rec (S.1, cS S, nI (k + 1 + 1), σ7) else rec (nI t, t6, nI (k + 1 + 1), σ7)))) := by
      intro rec
      rw [X9_leastFrequent_B8, if_neg (le128 (by omega)), ord_c fam.ord (by omega), sbind, ← ht, X0_allPoints, fam.pts, f_all n hn]
      simp only [X9_leastFrequent_J57, nI_1]
    have stay : sst gs n S t = S → ∀ τ', Fr σ τ' [117, 118] → (∀ rec, X9_leastFrequent_B8 rec (S.1, cS S, nI (k + 1), τ) = rec (S.1, cS S, nI (k + 1 + 1), τ')) → ∃ s', (∃ S', S' = (ordS.take (k + 1 + 1)).foldl (sst gs n) (-2, 8) ∧ okS S' ∧ s'.1 = S'.1 ∧ s'.2.1 = cS S' ∧ s'.2.2.1 = nI (k + 1 + 1) ∧ Fr σ s'.2.2.2 [117, 118]) ∧ ∀ rec, X9_leastFrequent_B8 rec (S.1, cS S, nI (k + 1), τ) = rec s' := by
      intro hs τ' f' hr
      exact ⟨(S.1, cS S, nI (k + 1 + 1), τ'), ⟨S, by rw [hS, hs], S1, rfl, rfl, rfl, f'⟩, hr⟩
    by_cases e1 : 2 ^ n ≤ t
    · exact stay (sst_id _ _ (Or.inr e1)) τ g4 (fun rec => by rw [hB, if_pos (by rw [nlt (by omega) (by omega)]; omega)])
    obtain ⟨τ1, c1, c2⟩ := cfw_ok hg hn fam ht8
    have fr := (g4.tr c2).mono (qs := [117, 118]) (by simp)
    have hgl := fn_le gs n t
    have hcmp : cS S ≤ nI (fn gs n t) ↔ ¬ fn gs n t < S.2 := by
      have hS8 : S.2 ≤ 8 := S1
      unfold cS
      by_cases h : S.2 = 8
      · rw [if_pos h, nle (by omega) (by omega)]; omega
      · rw [if_neg h, nle (by omega) (by omega)]; omega
    have hB2 : ∀ rec, X9_leastFrequent_B8 rec (S.1, cS S, nI (k + 1), τ) = if fn gs n t < S.2 then rec (nI t, nI (fn gs n t), nI (k + 1 + 1), τ1) else rec (S.1, cS S, nI (k + 1 + 1), τ1) := by
      intro rec
      rw [hB, if_neg (by rw [nlt (by omega) (by omega)]; omega), c1, sbind]
      dsimp only
      by_cases e : fn gs n t < S.2
      · rw [if_pos e, if_neg (fun h => (hcmp.mp h) e)]
      · rw [if_neg e, if_pos (hcmp.mpr e)]
    by_cases e3 : fn gs n t < S.2
    · refine ⟨(nI t, nI (fn gs n t), nI (k + 1 + 1), τ1), ⟨(nI t, fn gs n t), ?_, show fn gs n t ≤ 8 by omega, rfl, ?_, rfl, fr⟩, fun rec => by rw [hB2, if_pos e3]⟩
      · rw [hS, sst, if_pos ⟨⟨ht0, by omega⟩, e3⟩]
      · show nI (fn gs n t) = if fn gs n t = 8 then _ else _
        rw [if_neg (by omega)]
    · exact stay (if_neg (fun h => e3 h.2)) τ1 fr (fun rec => by rw [hB2, if_neg e3])
  · obtain ⟨x1, x2, x3, τ⟩ := s
    obtain ⟨S, S0, S1, g1, g2, g3, g4⟩ := hi
    simp only at g1 g2 g3 g4
    rw [List.take_of_length_le (by omega)] at S0
    subst g1 g3
    show X9_leastFrequent_B8 rec (S.1, x2, nI 128, τ) = _
    rw [X9_leastFrequent_B8, if_pos ge128, S0]; rfl
  · obtain ⟨S, S0, S1, g1, g2, g3, g4⟩ := hI
    exact ⟨s'.2.2.2, he, g4⟩
theorem frqOne_ok {σ : Wd} {a : St} (hr : MRow (σ 121) a) (hw : wf a) {s : Nat} (hs : s < 128) : ∃ g v, X11_spans σ 128 (-1) (nI s) = some (sA σ 128 g) ∧ X11_frequentIn (sA σ 128 g) 128 = some (nI v) ∧ X11_ones (nI v) = some (nI (fn a.2.2.1 a.1 s)) := by
  have h12 := hw.2.2.1.1
  obtain ⟨g, d1, d2⟩ := spans_mk (q := 128) (x := -1) (more := s) (L := a.2.2.1 ++ [s]) hr rfl (by decide) (wf_lt hw) hs (fun x hx => by
    rcases List.mem_append.mp hx with h | h
    · exact wf_lt hw x h
    · simp at h; omega) (fun t => by rw [owns_all (by omega)])
  refine ⟨g, _, d1, freqSet_ok rfl d2 hw.1.2 (by rw [sA_ne _ _ (by decide)]; exact hr.2.1), ?_⟩
  rw [f_ones _ (frq_lt _ hw.1.2), pc_frq _ hw.1.2]
  simp only [many_snoc (wf_lt hw) hs, freq_snoc (wf_lt hw) hs]
  rfl
theorem spoilM_in {σ : Wd} {a : St} (hw : wf a) (hr : MRow (σ 121) a) {k : Nat} (hk : k < 7) {kx : Int32 → Int32 → Wd → Option (Int32 × Wd)} {S : Int32 × Nat} (hS : okS S) : ∃ S' σ', S' = (List.range (2 ^ a.1 - 1)).foldl (fun s j => if pc (j + 1) = k + 1 then sst a.2.2.1 a.1 s (j + 1) else s) S ∧ okS S' ∧ lp (X11_spoiler_B17 (nI (k + 1)) kx) FU (S.1, nI S.2, 1, σ) = kx S'.1 (nI S'.2) σ' ∧ Fr σ σ' [128] := by
  have h7 := hw.1.2
  have h2 := p2_le h7
  have hp := p2_pos a.1
  obtain ⟨F, hF⟩ : ∃ F : Int32 × Nat → Nat → Int32 × Nat, F = fun s j => if pc (j + 1) = k + 1 then sst a.2.2.1 a.1 s (j + 1) else s := ⟨_, rfl⟩
  rw [← hF]
  refine lp_c (body := X11_spoiler_B17 (nI (k + 1)) kx) (S.1, nI S.2, 1, σ) (fun j s => ∃ T : Int32 × Nat, T = (List.range j).foldl F S ∧ okS T ∧ s.1 = T.1 ∧ s.2.1 = nI T.2 ∧ s.2.2.1 = nI (j + 1) ∧ Fr σ s.2.2.2 [128]) (2 ^ a.1 - 1) (fun s => kx s.1 s.2.1 s.2.2.2) ⟨S, rfl, hS, rfl, rfl, rfl, Fr.rf _ _⟩ (by omega) (fun j s hj hi => ?_) (fun s hi rec => ?_) (fun s' hI he => ?_)
  · obtain ⟨x1, x2, x3, τ⟩ := s
    obtain ⟨T, T0, T1, g1, g2, g3, g4⟩ := hi
    simp only at g1 g2 g3 g4
    subst g1 g2 g3
    have hrτ : MRow (τ 121) a := by rw [g4 121 (by simp)]; exact hr
    have ht8 : j + 1 < 128 := by omega
    have hpc := f_pc8 (j + 1) ht8
    have hT8 : T.2 ≤ 8 := T1
    have hfl := fn_le a.2.2.1 a.1 (j + 1)
    have hnext : (List.range (j + 1)).foldl F S = F T j := by rw [fold_rs, ← T0]
    obtain ⟨g, v, d1, d2, d3⟩ := frqOne_ok hrτ hw ht8
    have fr : Fr σ (sA τ 128 g) [128] := (g4.tr (Fr.sA (ps := [128]) (by simp))).mono (by simp)
    have hB : ∀ rec, X11_spoiler_B17 (nI (k + 1)) kx rec (T.1, nI T.2, nI (j + 1), τ) = (if pc (j + 1) = k + 1 then (if fn a.2.2.1 a.1 (j + 1) < T.2 then rec (nI (j + 1), nI (fn a.2.2.1 a.1 (j + 1)), nI (j + 1 + 1), sA τ 128 g) else rec (T.1, nI T.2, nI (j + 1 + 1), sA τ 128 g)) else rec (T.1, nI T.2, nI (j + 1 + 1), τ)) := by
      intro rec
      rw [X11_spoiler_B17, X11_allPoints, hrτ.2.1, f_all a.1 h7, if_neg (by rw [nlt (by omega) (by omega)]; omega), f_ones _ ht8, sbind, d1, sbind, d2, sbind, d3, sbind]
      simp only [X11_spoiler_J77, nI_1, neq (show pc (j + 1) < 2 ^ 31 by omega) (show k + 1 < 2 ^ 31 by omega), nlt (show fn a.2.2.1 a.1 (j + 1) < 2 ^ 31 by omega) (show T.2 < 2 ^ 31 by omega)]
    have stay : F T j = T → ∀ τ', Fr σ τ' [128] → (∀ rec, X11_spoiler_B17 (nI (k + 1)) kx rec (T.1, nI T.2, nI (j + 1), τ) = rec (T.1, nI T.2, nI (j + 1 + 1), τ')) → ∃ s', (∃ T', T' = (List.range (j + 1)).foldl F S ∧ okS T' ∧ s'.1 = T'.1 ∧ s'.2.1 = nI T'.2 ∧ s'.2.2.1 = nI (j + 1 + 1) ∧ Fr σ s'.2.2.2 [128]) ∧ ∀ rec, X11_spoiler_B17 (nI (k + 1)) kx rec (T.1, nI T.2, nI (j + 1), τ) = rec s' := by
      intro hs τ' f' hr'
      exact ⟨(T.1, nI T.2, nI (j + 1 + 1), τ'), ⟨T, by rw [hnext, hs], T1, rfl, rfl, rfl, f'⟩, hr'⟩
    by_cases e1 : pc (j + 1) = k + 1
    · have hFT : F T j = sst a.2.2.1 a.1 T (j + 1) := by rw [hF]; show (if _ then _ else _) = _; rw [if_pos e1]
      by_cases e3 : fn a.2.2.1 a.1 (j + 1) < T.2
      · refine ⟨(nI (j + 1), nI (fn a.2.2.1 a.1 (j + 1)), nI (j + 1 + 1), sA τ 128 g), ⟨(nI (j + 1), fn a.2.2.1 a.1 (j + 1)), ?_, show fn a.2.2.1 a.1 (j + 1) ≤ 8 by omega, rfl, rfl, rfl, fr⟩, fun rec => by rw [hB, if_pos e1, if_pos e3]⟩
        rw [hnext, hFT, sst, if_pos ⟨⟨by omega, by omega⟩, e3⟩]
      · exact stay (by rw [hFT]; exact if_neg (fun h => e3 h.2)) _ fr (fun rec => by rw [hB, if_pos e1, if_neg e3])
    · have hFT : F T j = T := by rw [hF]; show (if _ then _ else _) = _; rw [if_neg e1]
      exact stay hFT τ g4 (fun rec => by rw [hB, if_neg e1])
  · obtain ⟨x1, x2, x3, τ⟩ := s
    obtain ⟨T, T0, T1, g1, g2, g3, g4⟩ := hi
    simp only at g1 g2 g3 g4
    subst g3
    have hrτ : MRow (τ 121) a := by rw [g4 121 (by simp)]; exact hr
    show X11_spoiler_B17 (nI (k + 1)) kx rec (x1, x2, nI (2 ^ a.1 - 1 + 1), τ) = _
    rw [X11_spoiler_B17, X11_allPoints, hrτ.2.1, f_all a.1 h7, if_pos (by rw [nlt (by omega) (by omega)]; omega)]
  · obtain ⟨T, T0, T1, g1, g2, g3, g4⟩ := hI
    exact ⟨T, s'.2.2.2, T0, T1, by rw [he, g1, g2], g4⟩
theorem q_spoiler {σ : Wd} {a : St} {hs : List St} {tp : List Nat} (hC : CR σ a hs tp) (hM : MR σ a hs tp) (hw : wf a) : ∃ r σ1 σ2, X10_spoiler σ = some (r, σ1) ∧ X11_spoiler σ1 = some (r, σ2) ∧ Fr σ σ1 [117, 118] ∧ QO σ1 σ2 a hs tp := by
  have h7 := hw.1.2
  obtain ⟨σ1, c1, c2⟩ := spoilC_ok (wf_lt hw) h7 hC.fam
  have hM1 : MR σ1 a hs tp := hM.hi (fun q hq => c2 q (by simp; omega))
  have key : ∃ σ2, lp X11_spoiler_B8 FU (-2, 8, 1, σ1) = some ((sres a.2.2.1 a.1).1, σ2) ∧ Fr σ1 σ2 [128] := by
    refine lp_cr (body := X11_spoiler_B8) (-2, 8, 1, σ1) (fun k s => ∃ T : Int32 × Nat, T = (List.range k).foldl (fun s k => (List.range (2 ^ a.1 - 1)).foldl (fun s j => if pc (j + 1) = k + 1 then sst a.2.2.1 a.1 s (j + 1) else s) s) (-2, 8) ∧ okS T ∧ s.1 = T.1 ∧ s.2.1 = nI T.2 ∧ s.2.2.1 = nI (k + 1) ∧ Fr σ1 s.2.2.2 [128]) 7 (fun s => some ((sres a.2.2.1 a.1).1, s.2.2.2)) ⟨(-2, 8), rfl, Nat.le_refl _, rfl, rfl, rfl, Fr.rf _ _⟩ (by omega) (fun k s rec hk hi => ?_) (fun s rec hi => ?_) (fun s' hI he => ?_)
    · obtain ⟨x1, x2, x3, ρ⟩ := s
      obtain ⟨T, T0, T1, g1, g2, g3, g4⟩ := hi
      simp only at g1 g2 g3 g4
      subst g1 g2 g3
      obtain ⟨T', ρ', q1, q2, q3, q4⟩ := spoilM_in (σ := ρ) hw (by rw [g4 121 (by simp)]; exact hM1.row) hk (kx := X11_spoiler_T83 rec (nI (k + 1))) T1
      refine ⟨(T'.1, nI T'.2, nI (k + 1 + 1), ρ'), ⟨T', ?_, q2, rfl, rfl, rfl, (g4.tr q4).mono (by simp)⟩, ?_⟩
      · rw [q1, fold_rs, ← T0]
      · rw [X11_spoiler_B8, if_neg (by rw [L7, nlt (by omega) (by omega)]; omega), q3, X11_spoiler_T83, nI_1]
    · obtain ⟨x1, x2, x3, ρ⟩ := s
      obtain ⟨T, T0, T1, g1, g2, g3, g4⟩ := hi
      simp only at g1 g2 g3 g4
      subst g1 g3
      show X11_spoiler_B8 rec (T.1, x2, nI (7 + 1), ρ) = _
      rw [X11_spoiler_B8, if_pos (by rw [L7, nlt (by omega) (by omega)]; omega), sres, scan _ h7 sst_id, T0]
    · obtain ⟨T, T0, T1, g1, g2, g3, g4⟩ := hI
      exact ⟨s'.2.2.2, he, g4⟩
  obtain ⟨σ2, d1, d2⟩ := key
  exact ⟨(sres a.2.2.1 a.1).1, σ1, σ2, by rw [X10_spoiler, c1, sbind], by rw [X11_spoiler, d1], c2, fun q hq => d2 q (by simp; omega), hM1.cg (d2 _ (by simp)) (d2 _ (by simp)) (d2 _ (by simp)) (d2 _ (by simp)) (by rw [d2 _ (by simp)]) (by rw [d2 _ (by simp)])⟩
