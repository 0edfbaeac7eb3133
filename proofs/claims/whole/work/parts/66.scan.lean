/-! gentlest and spoiler: all sets in their order -/
theorem foldl_id {S : Type} {f : S → Nat → S} (l : List Nat) (h : ∀ s, ∀ t ∈ l, f s t = s) (s : S) : l.foldl f s = s := by
  induction l generalizing s with
  | nil => rfl
  | cons x t ih => rw [List.foldl_cons, h s x (by simp)]; exact ih (fun s t ht => h s t (by simp [ht])) s
theorem fold_cut {S : Type} {f : S → Nat → S} {m : Nat} (h0 : ∀ s, f s 0 = s) (h : ∀ s t, m < t → f s t = s) (s : S) : ∀ d, (List.range (m + 1 + d)).foldl f s = (List.range m).foldl (fun s j => f s (j + 1)) s
  | 0 => by
    rw [Nat.add_zero, List.range_succ_eq_map, List.foldl_cons, h0, List.foldl_map]
  | d + 1 => by
    rw [← Nat.add_assoc, List.range_succ, List.foldl_append, fold_cut h0 h s d]
    simp only [List.foldl_cons, List.foldl_nil]
    exact h _ _ (by omega)
theorem pc0 : (List.range 128).filter (fun s => pc s == 0) = [0] := by decide +kernel
theorem scan {S : Type} (st : S → Nat → S) {n : Nat} (hn : n ≤ 7) (hid : ∀ s t, (t = 0 ∨ 2 ^ n ≤ t) → st s t = s) (s0 : S) : ordS.foldl st s0 = (List.range 7).foldl (fun s k => (List.range (2 ^ n - 1)).foldl (fun s j => if pc (j + 1) = k + 1 then st s (j + 1) else s) s) s0 := by
  have hp := p2_pos n
  have h2 := p2_le hn
  unfold ordS
  rw [List.foldl_flatMap, List.range_succ_eq_map (n := 7), List.foldl_cons, List.foldl_map, pc0]
  have e0 : List.foldl st s0 [0] = s0 := by simp only [List.foldl_cons, List.foldl_nil]; exact hid s0 0 (Or.inl rfl)
  rw [e0]
  have : ∀ s k, List.foldl st s ((List.range 128).filter (fun s => pc s == k.succ)) = (List.range (2 ^ n - 1)).foldl (fun s j => if pc (j + 1) = k + 1 then st s (j + 1) else s) s := by
    intro s k
    rw [List.foldl_filter]
    have := fold_cut (f := fun s t => if (pc t == k.succ) = true then st s t else s) (m := 2 ^ n - 1) (fun s => by rw [hid s 0 (Or.inl rfl)]; simp) (fun s t ht => by rw [hid s t (Or.inr (by omega))]; simp) s (128 - 2 ^ n)
    rw [show 2 ^ n - 1 + 1 + (128 - 2 ^ n) = 128 by omega] at this
    rw [this]
    simp only [beq_iff_eq]
  simp only [this]
theorem fold_rs {S : Type} (f : S → Nat → S) (s : S) (k : Nat) : (List.range (k + 1)).foldl f s = f ((List.range k).foldl f s) k := by
  rw [List.range_succ, List.foldl_append]; rfl
def gst (gs : List Nat) (n : Nat) (s : Int32 × Nat) (t : Nat) : Int32 × Nat := if ((0 < t ∧ t < 2 ^ n) ∧ famB gs t = false) ∧ gn gs t < s.2 then (nI t, gn gs t) else s
def gres (gs : List Nat) (n : Nat) : Int32 × Nat := ordS.foldl (gst gs n) (-2, 1000)
theorem gst_id {gs : List Nat} {n : Nat} (s : Int32 × Nat) (t : Nat) (h : t = 0 ∨ 2 ^ n ≤ t) : gst gs n s t = s := if_neg (by omega)
def okG (s : Int32 × Nat) : Prop := s.2 = 1000 ∨ s.2 ≤ 128
theorem gst_ok {gs : List Nat} (hg : ∀ x ∈ gs, x < 128) {n : Nat} (hn : n ≤ 7) {s : Int32 × Nat} (h : okG s) (t : Nat) : okG (gst gs n s t) := by
  have h2 := p2_le hn
  unfold gst
  by_cases e : ((0 < t ∧ t < 2 ^ n) ∧ famB gs t = false) ∧ gn gs t < s.2
  · rw [if_pos e]; right
    have := gn_le hg (s := t) (by omega)
    show gn gs t ≤ 128
    omega
  · rw [if_neg e]; exact h
theorem ord_c {σ : Wd} (h : OrdR σ) {i : Nat} (hi : i < 128) : X0_orderedSet σ (nI i) = some (nI (ordS.getD i 0)) := by
  rw [X0_orderedSet, if_neg (nneg (by omega)), if_neg (le128 hi), ckA_n hi (by omega), ncl (by omega), h i hi]
theorem ordS_0 : ordS.take 1 = [0] := by decide +kernel
theorem ordS_pos : ∀ i, i < 128 → 0 < i → 0 < ordS.getD i 0 := by decide +kernel
def cG (s : Int32 × Nat) : Int32 := if s.2 = 1000 then nI 1000000 else nI s.2
theorem gentC_ok {σ : Wd} {n : Nat} {gs : List Nat} (hg : ∀ x ∈ gs, x < 128) (hn : n ≤ 7) (h : FamR σ n gs) : ∃ σ', X9_leastGain σ = some ((gres gs n).1, σ') ∧ Fr σ σ' [117, 118] := by
  have h2 := p2_le hn
  have hp := p2_pos n
  have hl := ordS_len
  unfold X9_leastGain
  refine lp_c (body := X9_leastGain_B8) (-2, 1000000, 1, σ) (fun k s => ∃ S : Int32 × Nat, S = (ordS.take (k + 1)).foldl (gst gs n) (-2, 1000) ∧ okG S ∧ s.1 = S.1 ∧ s.2.1 = cG S ∧ s.2.2.1 = nI (k + 1) ∧ Fr σ s.2.2.2 [117, 118]) 127 (fun s => some ((gres gs n).1, s.2.2.2)) ⟨(-2, 1000), ?_, Or.inl rfl, rfl, rfl, rfl, Fr.rf _ _⟩ (by omega) (fun k s hk hi => ?_) (fun s hi rec => ?_) (fun s' hI he => ?_)
  · rw [ordS_0, List.foldl_cons, List.foldl_nil, gst_id _ 0 (Or.inl rfl)]
  · obtain ⟨x1, x2, x3, τ⟩ := s
    obtain ⟨S, S0, S1, g1, g2, g3, g4⟩ := hi
    simp only at g1 g2 g3 g4
    subst g1 g2 g3
    have fam : FamR τ n gs := h.cg (fun q q1 q2 => g4 q (by simp; omega))
    obtain ⟨t, ht⟩ : ∃ t, t = ordS.getD (k + 1) 0 := ⟨_, rfl⟩
    have ht8 : t < 128 := ht ▸ ordS_get_lt (by omega)
    have ht0 : 0 < t := ht ▸ ordS_pos (k + 1) (by omega) (by omega)
    have hS : (ordS.take (k + 1 + 1)).foldl (gst gs n) (-2, 1000) = gst gs n S t := by
      rw [foldl_take_succ _ _ _ _ (by omega), ← S0, ht, getD_lt (by omega)]
    have hB : ∀ rec, X9_leastGain_B8 rec (S.1, cG S, nI (k + 1), τ) = (if nI (2 ^ n - 1) < nI t then rec (S.1, cG S, nI (k + 1 + 1), τ) else (if 0 ≤ numB gs t then rec (S.1, cG S, nI (k + 1 + 1), τ) else ((X9_gain τ (nI t)).bind fun (t6, σ7) => (if cG S ≤ t6 then rec (S.1, cG S, nI (k + 1 + 1), σ7) else rec (nI t, t6, nI (k + 1 + 1), σ7))))) := by
      intro rec
      rw [X9_leastGain_B8, if_neg (le128 (by omega)), ord_c fam.ord (by omega), sbind, ← ht, X0_allPoints, fam.pts, f_all n hn, num_ok fam.num ht8, sbind]
      simp only [X9_leastGain_J69, nI_1]
    have stay : gst gs n S t = S → ∀ τ', Fr σ τ' [117, 118] → (∀ rec, X9_leastGain_B8 rec (S.1, cG S, nI (k + 1), τ) = rec (S.1, cG S, nI (k + 1 + 1), τ')) → ∃ s', (∃ S', S' = (ordS.take (k + 1 + 1)).foldl (gst gs n) (-2, 1000) ∧ okG S' ∧ s'.1 = S'.1 ∧ s'.2.1 = cG S' ∧ s'.2.2.1 = nI (k + 1 + 1) ∧ Fr σ s'.2.2.2 [117, 118]) ∧ ∀ rec, X9_leastGain_B8 rec (S.1, cG S, nI (k + 1), τ) = rec s' := by
      intro hs τ' f' hr
      exact ⟨(S.1, cG S, nI (k + 1 + 1), τ'), ⟨S, by rw [hS, hs], S1, rfl, rfl, rfl, f'⟩, hr⟩
    by_cases e1 : 2 ^ n ≤ t
    · exact stay (gst_id _ _ (Or.inr e1)) τ g4 (fun rec => by rw [hB, if_pos (by rw [nlt (by omega) (by omega)]; omega)])
    by_cases e2 : famB gs t = true
    · have h0 : 0 ≤ numB gs t := by
        have h1 : ¬ numB gs t < 0 := fun h => (numB_neg ht8).mp h ((mem_iff_famB ht8).mpr e2)
        rw [Int32.lt_iff_toInt_lt] at h1
        rw [Int32.le_iff_toInt_le]; omega
      exact stay (if_neg (by rw [e2]; simp)) τ g4 (fun rec => by rw [hB, if_neg (by rw [nlt (by omega) (by omega)]; omega), if_pos h0])
    have e2' : famB gs t = false := by simpa using e2
    have h0 : ¬ 0 ≤ numB gs t := by
      have h1 : numB gs t < 0 := (numB_neg ht8).mpr (fun h => e2 ((mem_iff_famB ht8).mp h))
      rw [Int32.lt_iff_toInt_lt] at h1
      rw [Int32.le_iff_toInt_le]; omega
    obtain ⟨τ1, c1, -, c2⟩ := gain_ok fam ht8
    have fr := (g4.tr c2).mono (qs := [117, 118]) (by simp)
    have hgl := gn_le hg (s := t) ht8
    have hcmp : cG S ≤ nI (gn gs t) ↔ ¬ gn gs t < S.2 := by
      unfold cG
      rcases S1 with h | h
      · rw [if_pos h, nle (by omega) (by omega)]; omega
      · rw [if_neg (by omega), nle (by omega) (by omega)]; omega
    have hB2 : ∀ rec, X9_leastGain_B8 rec (S.1, cG S, nI (k + 1), τ) = if gn gs t < S.2 then rec (nI t, nI (gn gs t), nI (k + 1 + 1), τ1) else rec (S.1, cG S, nI (k + 1 + 1), τ1) := by
      intro rec
      rw [hB, if_neg (by rw [nlt (by omega) (by omega)]; omega), if_neg h0, c1, sbind]
      dsimp only
      by_cases e : gn gs t < S.2
      · rw [if_pos e, if_neg (fun h => (hcmp.mp h) e)]
      · rw [if_neg e, if_pos (hcmp.mpr e)]
    by_cases e3 : gn gs t < S.2
    · refine ⟨(nI t, nI (gn gs t), nI (k + 1 + 1), τ1), ⟨(nI t, gn gs t), ?_, Or.inr (show gn gs t ≤ 128 by omega), rfl, ?_, rfl, fr⟩, fun rec => by rw [hB2, if_pos e3]⟩
      · rw [hS, gst, if_pos ⟨⟨⟨ht0, by omega⟩, e2'⟩, e3⟩]
      · show nI (gn gs t) = if gn gs t = 1000 then _ else _
        rw [if_neg (by omega)]
    · exact stay (if_neg (fun h => e3 h.2)) τ1 fr (fun rec => by rw [hB2, if_neg e3])
  · obtain ⟨x1, x2, x3, τ⟩ := s
    obtain ⟨S, S0, S1, g1, g2, g3, g4⟩ := hi
    simp only at g1 g2 g3 g4
    rw [List.take_of_length_le (by omega)] at S0
    subst g1 g3
    show X9_leastGain_B8 rec (S.1, x2, nI 128, τ) = _
    rw [X9_leastGain_B8, if_pos ge128, S0]; rfl
  · obtain ⟨S, S0, S1, g1, g2, g3, g4⟩ := hI
    exact ⟨s'.2.2.2, he, g4⟩
def mG (gs : List Nat) (s : Int32 × Nat) : Int32 := if s.2 = 1000 then nI 129 else nI ((mems gs).length + s.2)
theorem gentM_in {σ : Wd} {a : St} (hw : wf a) (hr : MRow (σ 121) a) (hl : LayR σ a.2.2.1) {k : Nat} (hk : k < 7) {kx : Int32 → Int32 → Wd → Option (Int32 × Wd)} {S : Int32 × Nat} (hS : okG S) : ∃ S' σ', S' = (List.range (2 ^ a.1 - 1)).foldl (fun s j => if pc (j + 1) = k + 1 then gst a.2.2.1 a.1 s (j + 1) else s) S ∧ okG S' ∧ lp (X11_gentlest_B22 (nI (k + 1)) kx) FU (S.1, mG a.2.2.1 S, 1, σ) = kx S'.1 (mG a.2.2.1 S') σ' ∧ Fr σ σ' [128] := by
  have h7 := hw.1.2
  have h2 := p2_le h7
  have hp := p2_pos a.1
  have hg := wf_lt hw
  obtain ⟨F, hF⟩ : ∃ F : Int32 × Nat → Nat → Int32 × Nat, F = fun s j => if pc (j + 1) = k + 1 then gst a.2.2.1 a.1 s (j + 1) else s := ⟨_, rfl⟩
  rw [← hF]
  have hFok : ∀ s j, okG s → okG (F s j) := fun s j h => by
    rw [hF]
    show okG (if _ then _ else _)
    by_cases e : pc (j + 1) = k + 1
    · rw [if_pos e]; exact gst_ok hg h7 h _
    · rw [if_neg e]; exact h
  refine lp_c (body := X11_gentlest_B22 (nI (k + 1)) kx) (S.1, mG a.2.2.1 S, 1, σ) (fun j s => ∃ T : Int32 × Nat, T = (List.range j).foldl F S ∧ okG T ∧ s.1 = T.1 ∧ s.2.1 = mG a.2.2.1 T ∧ s.2.2.1 = nI (j + 1) ∧ Fr σ s.2.2.2 [128]) (2 ^ a.1 - 1) (fun s => kx s.1 s.2.1 s.2.2.2) ⟨S, rfl, hS, rfl, rfl, rfl, Fr.rf _ _⟩ (by omega) (fun j s hj hi => ?_) (fun s hi rec => ?_) (fun s' hI he => ?_)
  · obtain ⟨x1, x2, x3, τ⟩ := s
    obtain ⟨T, T0, T1, g1, g2, g3, g4⟩ := hi
    simp only at g1 g2 g3 g4
    subst g1 g2 g3
    have hrτ : MRow (τ 121) a := by rw [g4 121 (by simp)]; exact hr
    have lτ : LayR τ a.2.2.1 := hl.cg (g4 125 (by simp)) (g4 126 (by simp)) (g4 127 (by simp)) (by rw [g4 120 (by simp)])
    have ht8 : j + 1 < 128 := by omega
    have hpc := f_pc8 (j + 1) ht8
    have hnext : (List.range (j + 1)).foldl F S = F T j := by rw [fold_rs, ← T0]
    have hB : ∀ rec, X11_gentlest_B22 (nI (k + 1)) kx rec (T.1, mG a.2.2.1 T, nI (j + 1), τ) = (if nI (pc (j + 1)) = nI (k + 1) then (if τ 125 (j + 1) = 0 then ((X11_withOne τ (nI (j + 1))).bind fun (t8, σ9) => (if t8 < mG a.2.2.1 T then rec (nI (j + 1), t8, nI (j + 1 + 1), σ9) else rec (T.1, mG a.2.2.1 T, nI (j + 1 + 1), σ9))) else rec (T.1, mG a.2.2.1 T, nI (j + 1 + 1), τ)) else rec (T.1, mG a.2.2.1 T, nI (j + 1 + 1), τ)) := by
      intro rec
      rw [X11_gentlest_B22, X11_allPoints, hrτ.2.1, f_all a.1 h7, if_neg (by rw [nlt (by omega) (by omega)]; omega), f_ones _ ht8, sbind, ckA_n ht8 (by omega), ncl (by omega)]
      simp only [X11_gentlest_J76, nI_1]
    have stay : F T j = T → ∀ τ', Fr σ τ' [128] → (∀ rec, X11_gentlest_B22 (nI (k + 1)) kx rec (T.1, mG a.2.2.1 T, nI (j + 1), τ) = rec (T.1, mG a.2.2.1 T, nI (j + 1 + 1), τ')) → ∃ s', (∃ T', T' = (List.range (j + 1)).foldl F S ∧ okG T' ∧ s'.1 = T'.1 ∧ s'.2.1 = mG a.2.2.1 T' ∧ s'.2.2.1 = nI (j + 1 + 1) ∧ Fr σ s'.2.2.2 [128]) ∧ ∀ rec, X11_gentlest_B22 (nI (k + 1)) kx rec (T.1, mG a.2.2.1 T, nI (j + 1), τ) = rec s' := by
      intro hs τ' f' hr'
      exact ⟨(T.1, mG a.2.2.1 T, nI (j + 1 + 1), τ'), ⟨T, by rw [hnext, hs], T1, rfl, rfl, rfl, f'⟩, hr'⟩
    by_cases e1 : pc (j + 1) = k + 1
    · have hFT : F T j = gst a.2.2.1 a.1 T (j + 1) := by rw [hF]; show (if _ then _ else _) = _; rw [if_pos e1]
      by_cases e2 : famB a.2.2.1 (j + 1) = true
      · refine stay (by rw [hFT]; exact if_neg (by rw [e2]; simp)) τ g4 (fun rec => ?_)
        rw [hB, if_pos (by rw [e1]), lτ.1 _ ht8, if_pos e2, if_neg (by decide)]
      · have e2' : famB a.2.2.1 (j + 1) = false := by simpa using e2
        obtain ⟨g, d1⟩ := withOne_ok hrτ hw ht8
        have fr : Fr σ (sA τ 128 g) [128] := (g4.tr (Fr.sA (ps := [128]) (by simp))).mono (by simp)
        have hgl := gn_le hg ht8
        have hcmp : nI ((mems a.2.2.1).length + gn a.2.2.1 (j + 1)) < mG a.2.2.1 T ↔ gn a.2.2.1 (j + 1) < T.2 := by
          have hml := mems_len a.2.2.1
          unfold mG
          rcases T1 with h | h
          · rw [if_pos h, nlt (by omega) (by omega)]; omega
          · rw [if_neg (by omega), nlt (by omega) (by omega)]; omega
        have hB2 : ∀ rec, X11_gentlest_B22 (nI (k + 1)) kx rec (T.1, mG a.2.2.1 T, nI (j + 1), τ) = if gn a.2.2.1 (j + 1) < T.2 then rec (nI (j + 1), nI ((mems a.2.2.1).length + gn a.2.2.1 (j + 1)), nI (j + 1 + 1), sA τ 128 g) else rec (T.1, mG a.2.2.1 T, nI (j + 1 + 1), sA τ 128 g) := by
          intro rec
          rw [hB, if_pos (by rw [e1]), lτ.1 _ ht8, if_neg e2, if_pos rfl, d1, sbind]
          dsimp only
          by_cases e : gn a.2.2.1 (j + 1) < T.2
          · rw [if_pos e, if_pos (hcmp.mpr e)]
          · rw [if_neg e, if_neg (fun h => e (hcmp.mp h))]
        by_cases e3 : gn a.2.2.1 (j + 1) < T.2
        · refine ⟨(nI (j + 1), nI ((mems a.2.2.1).length + gn a.2.2.1 (j + 1)), nI (j + 1 + 1), sA τ 128 g), ⟨(nI (j + 1), gn a.2.2.1 (j + 1)), ?_, Or.inr (show gn a.2.2.1 (j + 1) ≤ 128 by omega), rfl, ?_, rfl, fr⟩, fun rec => by rw [hB2, if_pos e3]⟩
          · rw [hnext, hFT, gst, if_pos ⟨⟨⟨by omega, by omega⟩, e2'⟩, e3⟩]
          · show _ = if gn a.2.2.1 (j + 1) = 1000 then _ else _
            rw [if_neg (by omega)]
        · exact stay (by rw [hFT]; exact if_neg (fun h => e3 h.2)) _ fr (fun rec => by rw [hB2, if_neg e3])
    · have hFT : F T j = T := by rw [hF]; show (if _ then _ else _) = _; rw [if_neg e1]
      exact stay hFT τ g4 (fun rec => by rw [hB, if_neg (by rw [neq (by omega) (by omega)]; exact e1)])
  · obtain ⟨x1, x2, x3, τ⟩ := s
    obtain ⟨T, T0, T1, g1, g2, g3, g4⟩ := hi
    simp only at g1 g2 g3 g4
    subst g3
    have hrτ : MRow (τ 121) a := by rw [g4 121 (by simp)]; exact hr
    show X11_gentlest_B22 (nI (k + 1)) kx rec (x1, x2, nI (2 ^ a.1 - 1 + 1), τ) = _
    rw [X11_gentlest_B22, X11_allPoints, hrτ.2.1, f_all a.1 h7, if_pos (by rw [nlt (by omega) (by omega)]; omega)]
  · obtain ⟨T, T0, T1, g1, g2, g3, g4⟩ := hI
    exact ⟨T, s'.2.2.2, T0, T1, by rw [he, g1, g2], g4⟩
theorem q_gentlest {σ : Wd} {a : St} {hs : List St} {tp : List Nat} (hC : CR σ a hs tp) (hM : MR σ a hs tp) (hw : wf a) : ∃ r σ1 σ2, X10_gentlest σ = some (r, σ1) ∧ X11_gentlest σ1 = some (r, σ2) ∧ Fr σ σ1 [117, 118] ∧ QO σ1 σ2 a hs tp := by
  have h7 := hw.1.2
  obtain ⟨σ1, c1, c2⟩ := gentC_ok (wf_lt hw) h7 hC.fam
  have hM1 : MR σ1 a hs tp := hM.hi (fun q hq => c2 q (by simp; omega))
  obtain ⟨τ, e1, l1, m1, s1, f1⟩ := lays_MR hM1 hw
  have key : ∃ σ2, lp X11_gentlest_B13 FU (-2, 129, 1, τ) = some ((gres a.2.2.1 a.1).1, σ2) ∧ Fr τ σ2 [128] := by
    refine lp_cr (body := X11_gentlest_B13) (-2, 129, 1, τ) (fun k s => ∃ T : Int32 × Nat, T = (List.range k).foldl (fun s k => (List.range (2 ^ a.1 - 1)).foldl (fun s j => if pc (j + 1) = k + 1 then gst a.2.2.1 a.1 s (j + 1) else s) s) (-2, 1000) ∧ okG T ∧ s.1 = T.1 ∧ s.2.1 = mG a.2.2.1 T ∧ s.2.2.1 = nI (k + 1) ∧ Fr τ s.2.2.2 [128]) 7 (fun s => some ((gres a.2.2.1 a.1).1, s.2.2.2)) ⟨(-2, 1000), rfl, Or.inl rfl, rfl, rfl, rfl, Fr.rf _ _⟩ (by omega) (fun k s rec hk hi => ?_) (fun s rec hi => ?_) (fun s' hI he => ?_)
    · obtain ⟨x1, x2, x3, ρ⟩ := s
      obtain ⟨T, T0, T1, g1, g2, g3, g4⟩ := hi
      simp only at g1 g2 g3 g4
      subst g1 g2 g3
      obtain ⟨T', ρ', q1, q2, q3, q4⟩ := gentM_in hw (by rw [g4 121 (by simp)]; exact m1.row) (l1.cg (g4 125 (by simp)) (g4 126 (by simp)) (g4 127 (by simp)) (by rw [g4 120 (by simp)])) hk (kx := X11_gentlest_T82 rec (nI (k + 1))) T1
      refine ⟨(T'.1, mG a.2.2.1 T', nI (k + 1 + 1), ρ'), ⟨T', ?_, q2, rfl, rfl, rfl, (g4.tr q4).mono (by simp)⟩, ?_⟩
      · rw [q1, fold_rs, ← T0]
      · rw [X11_gentlest_B13, if_neg (by rw [L7, nlt (by omega) (by omega)]; omega), q3, X11_gentlest_T82, nI_1]
    · obtain ⟨x1, x2, x3, ρ⟩ := s
      obtain ⟨T, T0, T1, g1, g2, g3, g4⟩ := hi
      simp only at g1 g2 g3 g4
      subst g1 g3
      show X11_gentlest_B13 rec (T.1, x2, nI (7 + 1), ρ) = _
      rw [X11_gentlest_B13, if_pos (by rw [L7, nlt (by omega) (by omega)]; omega), gres, scan _ h7 gst_id, T0]
    · obtain ⟨T, T0, T1, g1, g2, g3, g4⟩ := hI
      exact ⟨s'.2.2.2, he, g4⟩
  obtain ⟨σ2, d1, d2⟩ := key
  exact ⟨(gres a.2.2.1 a.1).1, σ1, σ2, by rw [X10_gentlest, c1, sbind], by rw [X11_gentlest, e1, sbind, d1], c2, s1.tr (fun q hq => d2 q (by simp; omega)), m1.cg (d2 _ (by simp)) (d2 _ (by simp)) (d2 _ (by simp)) (d2 _ (by simp)) (by rw [d2 _ (by simp)]) (by rw [d2 _ (by simp)])⟩
