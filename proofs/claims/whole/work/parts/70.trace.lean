/-! traces -/
def trK (gs : List Nat) (s k t : Nat) : Bool := ((mems gs).take k).any (fun m => m &&& s == t)
def trB (gs : List Nat) (s t : Nat) : Bool := trK gs s (mems gs).length t
theorem trK_succ {gs : List Nat} {s k : Nat} (hk : k < (mems gs).length) (t : Nat) : trK gs s (k + 1) t = (trK gs s k t || ((mems gs)[k] &&& s == t)) := by
  unfold trK
  rw [List.take_succ_eq_append_getElem hk, List.any_append]
  simp
def trN (gs : List Nat) (s : Nat) : Nat := (List.range 128).countP (trB gs s)
theorem trK_case {gs : List Nat} {s k : Nat} (hk : k < (mems gs).length) : (trK gs s k ((mems gs)[k] &&& s) = true → ∀ t, trK gs s (k + 1) t = trK gs s k t) ∧ (∀ t, t ≠ (mems gs)[k] &&& s → trK gs s (k + 1) t = trK gs s k t) ∧ trK gs s (k + 1) ((mems gs)[k] &&& s) = true := by
  refine ⟨fun h t => ?_, fun t ht => ?_, ?_⟩
  · rw [trK_succ hk]
    by_cases e : (mems gs)[k] &&& s = t
    · rw [← e, h]; rfl
    · have : ((mems gs)[k] &&& s == t) = false := by simpa using e
      rw [this, Bool.or_false]
  · rw [trK_succ hk]
    have : ((mems gs)[k] &&& s == t) = false := by simpa using fun h => ht h.symm
    rw [this, Bool.or_false]
  · rw [trK_succ hk]; simp
theorem mark_ok {σ : Wd} {gs : List Nat} (h : RowR σ 95 (mems gs)) {s : Nat} (hs : s < 128) : ∃ σ', X8_mark σ (nI s) = some (nI (trN gs s), σ') ∧ Mk σ' 115 (trB gs s) ∧ Fr σ σ' [115] := by
  obtain ⟨σ1, e1, v1, f1⟩ := fill_ok (σ := σ) (q := 115) (by decide) 0
  unfold X8_mark
  rw [e1, sbind]
  have z : ∀ t, trK gs s 0 t = false := fun t => by simp [trK]
  refine lp_c (body := X8_mark_B12 (nI s)) (0, 0, σ1) (fun k st => st.1 = nI ((List.range 128).countP (trK gs s k)) ∧ st.2.1 = nI k ∧ Mk st.2.2 115 (trK gs s k) ∧ Fr σ st.2.2 [115]) (mems gs).length (fun st => some (nI (trN gs s), st.2.2)) ⟨?_, nI_0.symm, fun t ht => ?_, f1⟩ (mems_4096 gs) (fun k st hk hi => ?_) (fun st hi rec => ?_) (fun s' hI he => ?_)
  · show (0 : Int32) = nI ((List.range 128).countP (trK gs s 0))
    rw [List.countP_eq_zero.mpr (fun t _ => by simp [z])]; rfl
  · show σ1 115 t = _
    rw [v1, if_pos (by rw [show kLn 115 = 128 from rfl]; exact ht), z]; rfl
  · obtain ⟨x2, x3, τ⟩ := st
    obtain ⟨g1, g2, g3, g4⟩ := hi
    simp only at g1 g2 g3 g4
    subst g1 g2
    obtain ⟨u, hu⟩ : ∃ u, u = (mems gs)[k] &&& s := ⟨_, rfl⟩
    have hu8 : u < 128 := hu ▸ and_lt8 (mem_at_lt hk)
    obtain ⟨c1, c2, c3⟩ := trK_case (s := s) hk
    rw [← hu] at c1 c2 c3
    have rm : RowR τ 95 (mems gs) := h.cg (g4 95 (by simp)) (g4 96 (by simp))
    have hB : ∀ rec, X8_mark_B12 (nI s) rec (nI ((List.range 128).countP (trK gs s k)), nI k, τ) = if trK gs s k u = true then rec (nI ((List.range 128).countP (trK gs s k)), nI (k + 1), τ) else rec (nI ((List.range 128).countP (trK gs s k) + 1), nI (k + 1), up τ 115 u 1) := by
      intro rec
      rw [X8_mark_B12, if_neg (mem_go rm hk), mem_at rm hk, sbind, f_and _ (mem_at_lt hk) s hs, ← hu, if_neg (nneg (by omega)), if_neg (le128 hu8), ckA_n hu8 (by omega), ckA_n hu8 (by omega), ncl (by omega), g3 u hu8]
      simp only [X8_mark_J77, nI_1]
      by_cases e : trK gs s k u = true
      · rw [if_pos e, if_neg (by decide), if_pos e]
      · rw [if_neg e, if_pos rfl, if_neg e]
    by_cases e : trK gs s k u = true
    · have hn : trK gs s (k + 1) = trK gs s k := funext (c1 e)
      exact ⟨(nI ((List.range 128).countP (trK gs s k)), nI (k + 1), τ), ⟨by rw [hn], rfl, by rw [hn]; exact g3, g4⟩, fun rec => by rw [hB, if_pos e]⟩
    · refine ⟨(nI ((List.range 128).countP (trK gs s k) + 1), nI (k + 1), up τ 115 u 1), ⟨?_, rfl, fun t ht => ?_, (g4.tr (Fr.up (ps := [115]) (by simp))).mono (by simp)⟩, fun rec => by rw [hB, if_neg e]⟩
      · rw [countP_upd (by simpa using e) c3 c2, if_pos hu8]
      · show up τ 115 u 1 115 t = _
        rw [up_at]; unfold upd
        by_cases et : t = u
        · rw [if_pos et, et, c3]; rfl
        · rw [if_neg et, g3 t ht, c2 t et]
  · obtain ⟨x2, x3, τ⟩ := st
    obtain ⟨g1, g2, g3, g4⟩ := hi
    simp only at g1 g2 g3 g4
    subst g1 g2
    have rm : RowR τ 95 (mems gs) := h.cg (g4 95 (by simp)) (g4 96 (by simp))
    show X8_mark_B12 (nI s) rec (_, nI (mems gs).length, τ) = _
    rw [X8_mark_B12, if_pos (mem_stop rm)]; rfl
  · exact ⟨s'.2.2, he, hI.2.2.1, hI.2.2.2⟩
theorem traces_ok {σ : Wd} {gs : List Nat} (h : LayR σ gs) {s : Nat} (hs : s < 128) : ∃ σ', X11_traces σ (nI s) = some (nI (trN gs s), σ') ∧ Mk σ' 134 (trB gs s) ∧ Fr σ σ' [134] := by
  have i1 : ∃ σ1, lp (X11_traces_B2 (X11_traces_T22 (nI s))) FU (0, σ) = X11_traces_T22 (nI s) σ1 ∧ (∀ t, t < 128 → σ1 134 t = 0) ∧ Fr σ σ1 [134] := by
    refine lp_c (body := X11_traces_B2 (X11_traces_T22 (nI s))) (0, σ) (fun k st => st.1 = nI k ∧ (∀ t, t < k → st.2 134 t = 0) ∧ Fr σ st.2 [134]) 128 (fun st => X11_traces_T22 (nI s) st.2) ⟨nI_0.symm, fun t ht => by omega, Fr.rf _ _⟩ (by omega) (fun k st hk hi => ?_) (fun st hi rec => ?_) (fun s' hI he => ?_)
    · obtain ⟨x, τ⟩ := st
      obtain ⟨g1, g2, g3⟩ := hi
      simp only at g1 g2 g3
      subst g1
      refine ⟨(nI (k + 1), up τ 134 k 0), ⟨rfl, fun t ht => ?_, (g3.tr (Fr.up (ps := [134]) (by simp))).mono (by simp)⟩, fun rec => ?_⟩
      · show up τ 134 k 0 134 t = _
        rw [up_at]; unfold upd
        by_cases e : t = k
        · rw [if_pos e]
        · rw [if_neg e]; exact g2 t (by omega)
      · rw [X11_traces_B2, if_neg (le128 hk), ckA_n hk (by omega), ncl (by omega), nI_1]
    · obtain ⟨x, τ⟩ := st
      have g1 : x = nI 128 := hi.1
      subst g1
      show X11_traces_B2 _ rec (nI 128, τ) = _
      rw [X11_traces_B2, if_pos ge128]
    · exact ⟨s'.2, he, hI.2.1, hI.2.2⟩
  obtain ⟨σ1, e1, v1, f1⟩ := i1
  unfold X11_traces
  rw [e1, X11_traces_T22]
  have z : ∀ t, trK gs s 0 t = false := fun t => by simp [trK]
  refine lp_c (body := X11_traces_B24 (nI s)) (0, σ1) (fun k st => st.1 = nI k ∧ Mk st.2 134 (trK gs s k) ∧ Fr σ st.2 [134]) (mems gs).length (fun st => some (nI (trN gs s), st.2)) ⟨nI_0.symm, fun t ht => ?_, f1⟩ (mems_4096 gs) (fun k st hk hi => ?_) (fun st hi rec => ?_) (fun s' hI he => ?_)
  · show σ1 134 t = _
    rw [v1 t ht, z]; rfl
  · obtain ⟨x, τ⟩ := st
    obtain ⟨g1, g2, g3⟩ := hi
    simp only at g1 g2 g3
    subst g1
    have hk8 := k128 hk
    obtain ⟨u, hu⟩ : ∃ u, u = (mems gs)[k] &&& s := ⟨_, rfl⟩
    have hu8 : u < 128 := hu ▸ and_lt8 (mem_at_lt hk)
    obtain ⟨c1, c2, c3⟩ := trK_case (s := s) hk
    rw [← hu] at c1 c2 c3
    have lτ : LayR τ gs := h.cg (g3 125 (by simp)) (g3 126 (by simp)) (g3 127 (by simp)) (by rw [g3 120 (by simp)])
    refine ⟨(nI (k + 1), up τ 134 u 1), ⟨rfl, fun t ht => ?_, (g3.tr (Fr.up (ps := [134]) (by simp))).mono (by simp)⟩, fun rec => ?_⟩
    · show up τ 134 u 1 134 t = _
      rw [up_at]; unfold upd
      by_cases et : t = u
      · rw [if_pos et, et, c3]; rfl
      · rw [if_neg et, g2 t ht, c2 t et]
    · rw [X11_traces_B24, if_neg (lay_go lτ hk), ckA_n hk8 (by omega), ncl (by omega), lay_at lτ hk, f_and _ (mem_at_lt hk) s hs, ← hu, ckA_n hu8 (by omega), ncl (by omega), nI_1]
  · obtain ⟨x, τ⟩ := st
    obtain ⟨g1, g2, g3⟩ := hi
    simp only at g1 g2 g3
    subst g1
    have lτ : LayR τ gs := h.cg (g3 125 (by simp)) (g3 126 (by simp)) (g3 127 (by simp)) (by rw [g3 120 (by simp)])
    show X11_traces_B24 (nI s) rec (nI (mems gs).length, τ) = _
    rw [X11_traces_B24, if_pos (lay_stop lτ), manyOf_ok rfl g2, sbind]; rfl
  · exact ⟨s'.2, he, hI.2.1, hI.2.2⟩
def shB (gs : List Nat) (s : Nat) : Bool := trN gs s == 2 ^ pc s
theorem trN_le (gs : List Nat) (s : Nat) : trN gs s ≤ 128 := cnt128 _
theorem p8_le {s : Nat} (hs : s < 128) : 2 ^ pc s ≤ 128 := Nat.pow_le_pow_right (n := 2) (j := 7) (by decide) (by have := f_pc8 s hs; omega)
theorem shC_ok {σ : Wd} {gs : List Nat} (h : RowR σ 95 (mems gs)) {s : Nat} (hs : s < 128) : ∃ σ', X8_isShattered σ (nI s) = some (bI (shB gs s), σ') ∧ Fr σ σ' [115] := by
  obtain ⟨σ', e1, -, e3⟩ := mark_ok h hs
  have h1 := trN_le gs s
  have h2 := p8_le hs
  have h3 := f_pc8 s hs
  refine ⟨σ', ?_, e3⟩
  rw [X8_isShattered, e1, sbind]
  dsimp only
  rw [f_bc s hs, f_shl _ (by omega)]
  unfold shB bI
  by_cases e : trN gs s = 2 ^ pc s
  · rw [if_pos (by rw [e]), if_pos (by simpa using e)]
  · rw [if_neg (by rw [neq (by omega) (by omega)]; exact e), if_neg (by simpa using e)]
theorem shM_ok {σ : Wd} {gs : List Nat} (h : LayR σ gs) {s : Nat} (hs : s < 128) : ∃ σ', X11_isShattered σ (nI s) = some (bI (shB gs s), σ') ∧ Fr σ σ' [134] := by
  obtain ⟨σ', e1, -, e3⟩ := traces_ok h hs
  have h1 := trN_le gs s
  have h2 := p8_le hs
  have h3 := f_pc8 s hs
  refine ⟨σ', ?_, e3⟩
  rw [X11_isShattered, e1, sbind]
  dsimp only
  rw [f_ones s hs, sbind, f_shl _ (by omega)]
  unfold shB bI
  by_cases e : trN gs s = 2 ^ pc s
  · rw [if_pos (by rw [e]), if_pos (by simpa using e)]
  · rw [if_neg (by rw [neq (by omega) (by omega)]; exact e), if_neg (by simpa using e)]
theorem QO.fr {σ τ σ2 : Wd} {a : St} {hs : List St} {tp : List Nat} {ps : List Nat} (s1 : Same σ τ) (m1 : MR τ a hs tp) (f : Fr τ σ2 ps) (hp : ∀ q ∈ ps, 120 < q ∧ q ≠ 121 ∧ q ≠ 123 ∧ q ≠ 138 ∧ q ≠ 139) : QO σ σ2 a hs tp := by
  have g : ∀ q, (q ≤ 121 ∨ q = 123 ∨ q = 138 ∨ q = 139) → σ2 q = τ q := fun q hq => f q (fun hm => by have := hp q hm; omega)
  exact ⟨s1.tr (fun q hq => g q (by omega)), m1.cg (g _ (by omega)) (g _ (by omega)) (g _ (by omega)) (g _ (by omega)) (by rw [g _ (by omega)]) (by rw [g _ (by omega)])⟩
theorem q_shattered {σ : Wd} {a : St} {hs : List St} {tp : List Nat} (hC : CR σ a hs tp) (hM : MR σ a hs tp) (hw : wf a) (x : Int32) : ∃ r σ1 σ2, X10_shattered σ x = some (r, σ1) ∧ X11_shattered σ1 x = some (r, σ2) ∧ Fr σ σ1 [115] ∧ QO σ1 σ2 a hs tp := by
  have h2 := p2_le hw.1.2
  rcases pk_ix x (n := 2 ^ a.1) (by omega) with hx | hx | ⟨t, ht, rfl⟩
  · exact ⟨-1, σ, σ, by rw [X10_shattered, c_setN hC.st hw (Or.inl hx)]; rfl, by rw [X11_shattered, m_setN hM.row hw (Or.inl hx)]; rfl, Fr.rf _ _, QO.no hM⟩
  · exact ⟨-1, σ, σ, by rw [X10_shattered, c_setN hC.st hw (Or.inr hx)]; rfl, by rw [X11_shattered, m_setN hM.row hw (Or.inr hx)]; rfl, Fr.rf _ _, QO.no hM⟩
  have ht8 : t < 128 := by omega
  obtain ⟨σ1, c1, c2⟩ := shC_ok hC.fam.mem ht8
  have hM1 : MR σ1 a hs tp := hM.hi (fun q hq => c2 q (by simp; omega))
  obtain ⟨τ, e1, l1, m1, s1, f1⟩ := lays_MR hM1 hw
  obtain ⟨σ2, d1, d2⟩ := shM_ok l1 ht8
  refine ⟨bI (shB a.2.2.1 t), σ1, σ2, ?_, ?_, c2, QO.fr s1 m1 d2 (by simp)⟩
  · rw [X10_shattered, c_set hC.st hw ht, if_neg (by decide), c1, sbind]
    cases shB a.2.2.1 t <;> rfl
  · rw [X11_shattered, m_set hM1.row hw ht, if_neg (by decide), e1, sbind, d1, sbind]
    cases shB a.2.2.1 t <;> rfl
/-! the greatest that is shattered -/
def dst (gs : List Nat) (b s : Nat) : Nat := if b < pc s ∧ shB gs s = true then pc s else b
def dres (gs : List Nat) (k : Nat) : Nat := (List.range k).foldl (dst gs) 0
theorem dres_le (gs : List Nat) : ∀ k, k ≤ 128 → dres gs k ≤ 7
  | 0, _ => Nat.zero_le _
  | k + 1, h => by
    have ih := dres_le gs k (by omega)
    have := f_pc8 k (by omega)
    unfold dres at ih ⊢
    rw [fold_rs, dst]
    by_cases e : (List.range k).foldl (dst gs) 0 < pc k ∧ shB gs k = true
    · rw [if_pos e]; omega
    · rw [if_neg e]; exact ih
theorem dres_succ (gs : List Nat) (k : Nat) : dres gs (k + 1) = dst gs (dres gs k) k := fold_rs _ _ _
theorem depthC_ok {σ : Wd} {n : Nat} {gs : List Nat} (hn : n ≤ 7) (h : FamR σ n gs) : ∃ σ', X8_depth σ = some (nI (dres gs (2 ^ n)), σ') ∧ Fr σ σ' [115] := by
  have h2 := p2_le hn
  have hp := p2_pos n
  unfold X8_depth
  refine lp_c (body := X8_depth_B4) (0, 0, σ) (fun k s => s.1 = nI (dres gs k) ∧ s.2.1 = nI k ∧ Fr σ s.2.2 [115]) (2 ^ n) (fun s => some (nI (dres gs (2 ^ n)), s.2.2)) ⟨nI_0.symm, nI_0.symm, Fr.rf _ _⟩ (by omega) (fun k s hk hi => ?_) (fun s hi rec => ?_) (fun s' hI he => ?_)
  · obtain ⟨x1, x2, τ⟩ := s
    obtain ⟨g1, g2, g3⟩ := hi
    simp only at g1 g2 g3
    subst g1 g2
    have fam : FamR τ n gs := h.cg (fun q q1 q2 => g3 q (by simp; omega))
    have hk8 : k < 128 := by omega
    have hb := dres_le gs k (by omega)
    have hpc := f_pc8 k hk8
    obtain ⟨τ1, c1, c2⟩ := shC_ok fam.mem hk8
    have fr := (g3.tr c2).mono (qs := [115]) (by simp)
    have hs := dres_succ gs k
    rw [dst] at hs
    have hB : ∀ rec, X8_depth_B4 rec (nI (dres gs k), nI k, τ) = if pc k ≤ dres gs k then rec (nI (dres gs k), nI (k + 1), τ) else if shB gs k = true then rec (nI (pc k), nI (k + 1), τ1) else rec (nI (dres gs k), nI (k + 1), τ1) := by
      intro rec
      rw [X8_depth_B4, X0_allPoints, fam.pts, f_all n hn, if_neg (by rw [nlt (by omega) (by omega)]; omega), f_bc k hk8, c1, sbind]
      simp only [X8_depth_J35, nI_1, nle (show pc k < 2 ^ 31 by omega) (show dres gs k < 2 ^ 31 by omega)]
      cases shB gs k <;> rfl
    by_cases e1 : pc k ≤ dres gs k
    · rw [if_neg (by omega)] at hs
      exact ⟨(nI (dres gs k), nI (k + 1), τ), ⟨by rw [hs], rfl, g3⟩, fun rec => by rw [hB, if_pos e1]⟩
    · by_cases e2 : shB gs k = true
      · rw [if_pos ⟨by omega, e2⟩] at hs
        exact ⟨(nI (pc k), nI (k + 1), τ1), ⟨by rw [hs], rfl, fr⟩, fun rec => by rw [hB, if_neg e1, if_pos e2]⟩
      · rw [if_neg (fun h => e2 h.2)] at hs
        exact ⟨(nI (dres gs k), nI (k + 1), τ1), ⟨by rw [hs], rfl, fr⟩, fun rec => by rw [hB, if_neg e1, if_neg e2]⟩
  · obtain ⟨x1, x2, τ⟩ := s
    obtain ⟨g1, g2, g3⟩ := hi
    simp only at g1 g2 g3
    subst g1 g2
    have fam : FamR τ n gs := h.cg (fun q q1 q2 => g3 q (by simp; omega))
    show X8_depth_B4 rec (_, nI (2 ^ n), τ) = _
    rw [X8_depth_B4, X0_allPoints, fam.pts, f_all n hn, if_pos (by rw [nlt (by omega) (by omega)]; omega)]
  · exact ⟨s'.2.2, he, hI.2.2⟩
theorem depthM_ok {σ : Wd} {n : Nat} {gs : List Nat} (hn : n ≤ 7) (h : LayR σ gs) (h0 : σ 121 0 = nI n) : ∃ σ', X11_depth σ = some (nI (dres gs (2 ^ n)), σ') ∧ Fr σ σ' [134] := by
  have h2 := p2_le hn
  have hp := p2_pos n
  unfold X11_depth
  refine lp_c (body := X11_depth_B4) (0, 0, σ) (fun k s => s.1 = nI (dres gs k) ∧ s.2.1 = nI k ∧ Fr σ s.2.2 [134]) (2 ^ n) (fun s => some (nI (dres gs (2 ^ n)), s.2.2)) ⟨nI_0.symm, nI_0.symm, Fr.rf _ _⟩ (by omega) (fun k s hk hi => ?_) (fun s hi rec => ?_) (fun s' hI he => ?_)
  · obtain ⟨x1, x2, τ⟩ := s
    obtain ⟨g1, g2, g3⟩ := hi
    simp only at g1 g2 g3
    subst g1 g2
    have lτ : LayR τ gs := h.cg (g3 125 (by simp)) (g3 126 (by simp)) (g3 127 (by simp)) (by rw [g3 120 (by simp)])
    have t0 : τ 121 0 = nI n := by rw [g3 121 (by simp)]; exact h0
    have hk8 : k < 128 := by omega
    have hb := dres_le gs k (by omega)
    have hpc := f_pc8 k hk8
    obtain ⟨τ1, c1, c2⟩ := shM_ok lτ hk8
    have fr := (g3.tr c2).mono (qs := [134]) (by simp)
    have hs := dres_succ gs k
    rw [dst] at hs
    have hB : ∀ rec, X11_depth_B4 rec (nI (dres gs k), nI k, τ) = if pc k ≤ dres gs k then rec (nI (dres gs k), nI (k + 1), τ) else if shB gs k = true then rec (nI (pc k), nI (k + 1), τ1) else rec (nI (dres gs k), nI (k + 1), τ1) := by
      intro rec
      rw [X11_depth_B4, X11_allPoints, t0, f_all n hn, if_neg (by rw [nlt (by omega) (by omega)]; omega), f_ones k hk8, sbind, c1, sbind]
      simp only [X11_depth_J33, nI_1, nle (show pc k < 2 ^ 31 by omega) (show dres gs k < 2 ^ 31 by omega)]
      cases shB gs k <;> rfl
    by_cases e1 : pc k ≤ dres gs k
    · rw [if_neg (by omega)] at hs
      exact ⟨(nI (dres gs k), nI (k + 1), τ), ⟨by rw [hs], rfl, g3⟩, fun rec => by rw [hB, if_pos e1]⟩
    · by_cases e2 : shB gs k = true
      · rw [if_pos ⟨by omega, e2⟩] at hs
        exact ⟨(nI (pc k), nI (k + 1), τ1), ⟨by rw [hs], rfl, fr⟩, fun rec => by rw [hB, if_neg e1, if_pos e2]⟩
      · rw [if_neg (fun h => e2 h.2)] at hs
        exact ⟨(nI (dres gs k), nI (k + 1), τ1), ⟨by rw [hs], rfl, fr⟩, fun rec => by rw [hB, if_neg e1, if_neg e2]⟩
  · obtain ⟨x1, x2, τ⟩ := s
    obtain ⟨g1, g2, g3⟩ := hi
    simp only at g1 g2 g3
    subst g1 g2
    have t0 : τ 121 0 = nI n := by rw [g3 121 (by simp)]; exact h0
    show X11_depth_B4 rec (_, nI (2 ^ n), τ) = _
    rw [X11_depth_B4, X11_allPoints, t0, f_all n hn, if_pos (by rw [nlt (by omega) (by omega)]; omega)]
  · exact ⟨s'.2.2, he, hI.2.2⟩
/-! trace -/
def trL (gs : List Nat) (s : Nat) : List Nat := ordS.filter (trB gs s)
theorem trL_len (gs : List Nat) (s : Nat) : (trL gs s).length = trN gs s := by
  unfold trL trN
  rw [← List.countP_eq_length_filter, ordS_perm.countP_eq]
theorem take_ok {σ : Wd} {n : Nat} {gs : List Nat} (h : FamR σ n gs) {s : Nat} (hs : s < 128) : ∃ σ', X8_take σ (nI s) = some σ' ∧ RowR σ' 113 (trL gs s) ∧ Fr σ σ' [113, 114, 115] := by
  obtain ⟨σ1, e1, e2, e3⟩ := mark_ok h.mem hs
  have hc := row_clear (σ := σ1) (r := 113)
  have hl := ordS_len
  unfold X8_take
  rw [e1, sbind]
  dsimp only
  refine lp_c (body := X8_take_B15) (0, X4_clear σ1 113) (fun k st => st.1 = nI k ∧ RowR st.2 113 ((ordS.take k).filter (trB gs s)) ∧ Mk st.2 115 (trB gs s) ∧ Fr σ st.2 [113, 114, 115]) 128 (fun st => some st.2) ⟨nI_0.symm, hc.1, fun t ht => ?_, (e3.tr hc.2).mono (by simp)⟩ (by omega) (fun k st hk hi => ?_) (fun st hi rec => ?_) (fun s' hI he => ?_)
  · show X4_clear σ1 113 115 t = _
    rw [hc.2 115 (by simp)]; exact e2 t ht
  · obtain ⟨x, τ⟩ := st
    obtain ⟨g1, g2, g3, g4⟩ := hi
    simp only at g1 g2 g3 g4
    subst g1
    have ord : OrdR τ := fun i hi => by rw [g4 94 (by simp)]; exact h.ord i hi
    have hk' : k < ordS.length := by omega
    obtain ⟨t, ht⟩ : ∃ t, t = ordS.getD k 0 := ⟨_, rfl⟩
    have ht8 : t < 128 := ht ▸ ordS_get_lt hk
    have hs' := filter_take_succ (trB gs s) ordS k hk'
    rw [← getD_lt hk', ← ht] at hs'
    have hlen : ((ordS.take k).filter (trB gs s)).length ≤ k := by
      have := List.length_filter_le (trB gs s) (ordS.take k)
      rw [List.length_take] at this; omega
    have hB : ∀ rec, X8_take_B15 rec (nI k, τ) = if trB gs s t = true then ((X4_append τ 113 (nI t)).bind fun σ9 => rec (nI (k + 1), σ9)) else rec (nI (k + 1), τ) := by
      intro rec
      rw [X8_take_B15, if_neg (le128 hk), ord_c ord hk, sbind, ← ht, if_neg (le128 ht8), if_neg (nneg (by omega)), ckA_n ht8 (by omega), ncl (by omega), g3 t ht8]
      simp only [X8_take_J62, nI_1]
      by_cases e : trB gs s t = true
      · rw [if_pos e, if_pos rfl, if_pos e]
      · rw [if_neg e, if_neg (by decide), if_neg e]
    by_cases e : trB gs s t = true
    · rw [if_pos e] at hs'
      obtain ⟨τ1, a1, a2, a3⟩ := row_append (r := 113) g2 (by rw [show kLn (113 + 1) = 128 from rfl]; omega) (by decide) t
      refine ⟨(nI (k + 1), τ1), ⟨rfl, by rw [hs']; exact a2, fun u hu => ?_, (g4.tr a3).mono (by simp)⟩, fun rec => by rw [hB, if_pos e, a1, sbind]⟩
      show τ1 115 u = _
      rw [a3 115 (by simp)]; exact g3 u hu
    · rw [if_neg e, List.append_nil] at hs'
      exact ⟨(nI (k + 1), τ), ⟨rfl, by rw [hs']; exact g2, g3, g4⟩, fun rec => by rw [hB, if_neg e]⟩
  · obtain ⟨x, τ⟩ := st
    have g1 : x = nI 128 := hi.1
    subst g1
    show X8_take_B15 rec (nI 128, τ) = _
    rw [X8_take_B15, if_pos ge128]
  · refine ⟨s'.2, he, ?_, hI.2.2.2⟩
    have := hI.2.1
    rw [List.take_of_length_le (by omega)] at this
    exact this
theorem lq_pre {k : Nat} (hk : k ≤ 8) : lq k 0 <+: ordS := by
  have key : ∀ d k, k + d = 8 → lq k 0 <+: ordS := by
    intro d
    induction d with
    | zero => intro k hk; have : k = 8 := by omega
              subst this; rw [lq_all]; exact List.prefix_refl _
    | succ d ih =>
      intro k hk
      have h1 : lq k 0 <+: lq k 128 := by unfold lq; simp
      rw [lq_next] at h1
      exact h1.trans (ih (k + 1) (by omega))
  exact key (8 - k) k (by omega)
theorem lq_pre2 {k j : Nat} (hk : k ≤ 7) (hj : j ≤ 128) : lq k j <+: ordS := by
  have key : ∀ d j, j + d = 128 → lq k j <+: ordS := by
    intro d
    induction d with
    | zero => intro j hj; have : j = 128 := by omega
              subst this; rw [lq_next]; exact lq_pre (by omega)
    | succ d ih =>
      intro j hj
      have h1 : lq k j <+: lq k (j + 1) := by rw [lq_succ]; exact List.prefix_append _ _
      exact h1.trans (ih (j + 1) (by omega))
  exact key (128 - j) j (by omega)
def tp_ (B : Nat → Bool) (k j : Nat) : List Nat := (lq k j).filter B
theorem tp_succ (B : Nat → Bool) (k j : Nat) : tp_ B k (j + 1) = tp_ B k j ++ if pc j = k ∧ B j = true then [j] else [] := by
  unfold tp_
  rw [lq_succ, List.filter_append]
  by_cases e : pc j = k
  · rw [if_pos e]
    by_cases e2 : B j = true
    · rw [if_pos ⟨e, e2⟩, List.filter_cons_of_pos e2]; rfl
    · rw [if_neg (fun h => e2 h.2), List.filter_cons_of_neg e2]; rfl
  · rw [if_neg e, if_neg (fun h => e h.1)]; rfl
theorem tp_at {B : Nat → Bool} {k j : Nat} (hk : k ≤ 7) (hj : j < 128) (h : pc j = k ∧ B j = true) : (ordS.filter B).getD (tp_ B k j).length 0 = j ∧ (tp_ B k j).length < (ordS.filter B).length := by
  have h1 : tp_ B k (j + 1) <+: ordS.filter B := List.IsPrefix.filter _ (lq_pre2 hk (by omega))
  rw [tp_succ, if_pos h] at h1
  obtain ⟨r, hr⟩ := h1
  rw [← hr]
  simp
theorem tp_end (B : Nat → Bool) : tp_ B 8 0 = ordS.filter B := by unfold tp_; rw [lq_all]
theorem tp_next (B : Nat → Bool) (k : Nat) : tp_ B k 128 = tp_ B (k + 1) 0 := by unfold tp_; rw [lq_next]
theorem nI_prd {k : Nat} (h : 0 < k) : nI k + (-1) = nI (k - 1) := by
  rw [nI_dn2, show nI k = nI (k - 1 + 1) by rw [Nat.sub_add_cancel h], nI_dn]
theorem trM_ok {σ : Wd} {B : Nat → Bool} (h : Mk σ 134 B) {x : Nat} (hx : x < 2 ^ 31) : lp (X11_trace_B38 σ) FU (nI x, 0) = some (if x < (ordS.filter B).length then nI ((ordS.filter B).getD x 0) else -2, σ) := by
  refine lp_qr (body := X11_trace_B38 σ) (fun k s => s = (nI (x - (tp_ B k 0).length), nI k) ∧ (tp_ B k 0).length ≤ x) 8 (fun r => r = some (if x < (ordS.filter B).length then nI ((ordS.filter B).getD x 0) else -2, σ)) ⟨?_, ?_⟩ (by omega) (fun k s rec hk hi => ?_) (fun s rec hi => ?_)
  · have : tp_ B 0 0 = [] := by unfold tp_ lq; simp
    rw [this]; rfl
  · have : tp_ B 0 0 = [] := by unfold tp_ lq; simp
    rw [this]; exact Nat.zero_le _
  · obtain ⟨rfl, hle⟩ := hi
    rw [X11_trace_B38, if_neg (by rw [L7, nlt (by omega) (by omega)]; omega)]
    have inner := lp_q (body := X11_trace_B48 σ (nI k) (X11_trace_T96 rec (nI k))) (fun j s => s = (nI (x - (tp_ B k j).length), nI j) ∧ (tp_ B k j).length ≤ x) 128 (fun r => (r = rec (nI (x - (tp_ B k 128).length), nI (k + 1)) ∧ (tp_ B k 128).length ≤ x) ∨ r = some (if x < (ordS.filter B).length then nI ((ordS.filter B).getD x 0) else -2, σ)) (s := (nI (x - (tp_ B k 0).length), 0)) ⟨by rw [nI_0], hle⟩ (by omega) (fun j s hj hi => ?_) (fun s hi => ?_)
    · rcases inner with ⟨h1, h2⟩ | h1
      · left
        rw [tp_next] at h1 h2
        exact ⟨_, ⟨rfl, h2⟩, h1⟩
      · right; exact h1
    · obtain ⟨rfl, hle'⟩ := hi
      have hpc := f_pc8 j hj
      have hs' := tp_succ B k j
      have hB : ∀ rec', X11_trace_B48 σ (nI k) (X11_trace_T96 rec (nI k)) rec' (nI (x - (tp_ B k j).length), nI j) = if pc j = k ∧ B j = true then (if nI (x - (tp_ B k j).length) = 0 then some (nI j, σ) else rec' (nI (x - (tp_ B k j).length) + (-1), nI (j + 1))) else rec' (nI (x - (tp_ B k j).length), nI (j + 1)) := by
        intro rec'
        rw [X11_trace_B48, if_neg (le128 hj), ckA_n hj (by omega), ncl (by omega), h j hj, f_ones j hj, sbind]
        simp only [X11_trace_J90, nI_1]
        by_cases e2 : B j = true
        · rw [if_pos e2, if_neg (by decide)]
          by_cases e1 : pc j = k
          · rw [if_pos (show nI (pc j) = nI k by rw [e1]), if_pos (show pc j = k ∧ B j = true from ⟨e1, e2⟩)]
          · rw [if_neg (by rw [neq (by omega) (by omega)]; exact e1), if_neg (fun h => e1 h.1)]
        · rw [if_neg e2, if_pos rfl, if_neg (fun h => e2 h.2)]
      by_cases e : pc j = k ∧ B j = true
      · rw [if_pos e] at hs'
        by_cases e0 : x = (tp_ B k j).length
        · right
          obtain ⟨t1, t2⟩ := tp_at (by omega) hj e
          refine ⟨_, Or.inr ?_, fun rec' => by rw [hB, if_pos e, if_pos (by rw [← e0, Nat.sub_self]; exact nI_0)]⟩
          rw [if_pos (by omega), e0, t1]
        · left
          refine ⟨(nI (x - (tp_ B k j).length - 1), nI (j + 1)), ⟨?_, ?_⟩, fun rec' => ?_⟩
          · rw [hs', List.length_append, List.length_singleton, Nat.sub_sub]
          · rw [hs', List.length_append, List.length_singleton]; omega
          · rw [hB, if_pos e, if_neg (nI_ne0 (by omega) (by omega)), nI_prd (by omega)]
      · rw [if_neg e, List.append_nil] at hs'
        left
        exact ⟨(nI (x - (tp_ B k j).length), nI (j + 1)), ⟨by rw [hs'], by rw [hs']; exact hle'⟩, fun rec' => by rw [hB, if_neg e]⟩
    · obtain ⟨rfl, hle'⟩ := hi
      exact ⟨_, Or.inl ⟨rfl, hle'⟩, fun rec' => by rw [X11_trace_B48, if_pos ge128, X11_trace_T96, nI_1]⟩
  · obtain ⟨rfl, hle⟩ := hi
    rw [tp_end] at hle
    rw [X11_trace_B38, if_pos (by rw [L7, nlt (by omega) (by omega)]; omega), if_neg (by omega)]
theorem q_trace {σ : Wd} {a : St} {hs : List St} {tp : List Nat} (hC : CR σ a hs tp) (hM : MR σ a hs tp) (hw : wf a) (x y : Int32) : ∃ r σ1 σ2, X10_trace σ x y = some (r, σ1) ∧ X11_trace σ1 x y = some (r, σ2) ∧ Fr σ σ1 [113, 114, 115] ∧ QO σ1 σ2 a hs tp := by
  have h2 := p2_le hw.1.2
  rcases pk_ix x (n := 2 ^ a.1) (by omega) with hx | hx | ⟨t, ht, rfl⟩
  · exact ⟨-1, σ, σ, by rw [X10_trace, c_setN hC.st hw (Or.inl hx)]; rfl, by rw [X11_trace, m_setN hM.row hw (Or.inl hx)]; rfl, Fr.rf _ _, QO.no hM⟩
  · exact ⟨-1, σ, σ, by rw [X10_trace, c_setN hC.st hw (Or.inr hx)]; rfl, by rw [X11_trace, m_setN hM.row hw (Or.inr hx)]; rfl, Fr.rf _ _, QO.no hM⟩
  have ht8 : t < 128 := by omega
  by_cases hy : -1 ≤ y
  · obtain ⟨σ1, c1, c2, c3⟩ := take_ok hC.fam ht8
    have hM1 : MR σ1 a hs tp := hM.hi (fun q hq => c3 q (by simp; omega))
    obtain ⟨τ, e1, l1, m1, s1, f1⟩ := lays_MR hM1 hw
    obtain ⟨σ2, d1, d2, d3⟩ := traces_ok l1 ht8
    have hlen := trL_len a.2.2.1 t
    have hN := trN_le a.2.2.1 t
    have hcls : X10_trace σ (nI t) y = (if y = (-1) then some (σ1 113 1, σ1) else (if (σ1 113 1) ≤ y then some ((-2), σ1) else ((X4_at σ1 113 y).bind fun t7 => some (t7, σ1)))) := by
      rw [X10_trace, c_set hC.st hw ht, if_neg (by decide), if_pos hy, c1, sbind]
    have hmod : X11_trace σ1 (nI t) y = (if y = (-1) then some (nI (trN a.2.2.1 t), σ2) else (lp (X11_trace_B38 σ2) FU (y, 0))) := by
      rw [X11_trace, m_set hM1.row hw ht, if_neg (by decide), if_pos hy, e1, sbind, d1, sbind]
    have qo : QO σ1 σ2 a hs tp := QO.fr s1 m1 d3 (by simp)
    by_cases e1' : y = -1
    · exact ⟨nI (trN a.2.2.1 t), σ1, σ2, by rw [hcls, if_pos e1', c2.1, hlen], by rw [hmod, if_pos e1'], c3, qo⟩
    · rcases nn_ix y with hn | ⟨j, hj, rfl⟩
      · exfalso
        rw [Int32.lt_iff_toInt_lt] at hn
        rw [Int32.le_iff_toInt_le] at hy
        have h0 : (0 : Int32).toInt = 0 := by decide
        have h1 : (-1 : Int32).toInt = -1 := by decide
        exact e1' (Int32.toInt_inj.mp (by omega))
      · refine ⟨if j < (ordS.filter (trB a.2.2.1 t)).length then nI ((ordS.filter (trB a.2.2.1 t)).getD j 0) else -2, σ1, σ2, ?_, by rw [hmod, if_neg e1', trM_ok d2 hj], c3, qo⟩
        rw [hcls, if_neg e1', c2.1]
        have hl' : (ordS.filter (trB a.2.2.1 t)).length = (trL a.2.2.1 t).length := rfl
        by_cases e : j < (trL a.2.2.1 t).length
        · rw [if_neg (by rw [nle (by omega) hj]; omega), row_at_in c2 (by rw [show kLn (113 + 1) = 128 from rfl]; omega) (by decide) e, sbind, if_pos (by rw [hl']; exact e)]; rfl
        · rw [if_pos (by rw [nle (by omega) hj]; omega), if_neg (by rw [hl']; exact e)]
  · exact ⟨-1, σ, σ, by rw [X10_trace, c_set hC.st hw ht, if_neg (by decide), if_neg hy], by rw [X11_trace, m_set hM.row hw ht, if_neg (by decide), if_neg hy], Fr.rf _ _, QO.no hM⟩
