/-! swap and turn -/
def mvd (F : Nat → Nat) (gs : List Nat) (k : Nat) : List Nat := (gs.take k).map F ++ gs.drop k
theorem mvd_len (F : Nat → Nat) (gs : List Nat) {k : Nat} (hk : k ≤ gs.length) : (mvd F gs k).length = gs.length := by
  unfold mvd; simp; omega
theorem mvd_get (F : Nat → Nat) (gs : List Nat) {k j : Nat} (hk : k ≤ gs.length) (hj : j < gs.length) : (mvd F gs k).getD j 0 = if j < k then F (gs.getD j 0) else gs.getD j 0 := by
  unfold mvd
  rw [List.getD_eq_getElem?_getD, List.getD_eq_getElem?_getD]
  by_cases e : j < k
  · rw [if_pos e, List.getElem?_append_left (by simp; omega), List.getElem?_map, List.getElem?_take_of_lt e, List.getElem?_eq_getElem hj]; rfl
  · rw [if_neg e, List.getElem?_append_right (by simp; omega), List.getElem?_drop, List.length_map, List.length_take, Nat.min_eq_left hk, show k + (j - k) = j by omega]
theorem getD_ext {xs ys : List Nat} (hl : xs.length = ys.length) (h : ∀ j, j < xs.length → xs.getD j 0 = ys.getD j 0) : xs = ys := by
  apply List.ext_getElem hl
  intro i h1 h2
  rw [← getD_lt h1, ← getD_lt h2]; exact h i h1
theorem mvd_set (F : Nat → Nat) (gs : List Nat) {k : Nat} (hk : k < gs.length) : (mvd F gs k).set k (F (gs.getD k 0)) = mvd F gs (k + 1) := by
  have hl := mvd_len F gs (k := k) (by omega)
  have hl' := mvd_len F gs (k := k + 1) (by omega)
  apply getD_ext
  · rw [List.length_set, hl, hl']
  · intro j hj
    rw [List.length_set, hl] at hj
    rw [getD_set _ _ _ _ (by omega), mvd_get F gs (by omega) hj, mvd_get F gs (by omega) hj]
    by_cases e : j = k
    · rw [if_pos e, if_pos (by omega), e]
    · rw [if_neg e]
      by_cases e2 : j < k
      · rw [if_pos e2, if_pos (by omega)]
      · rw [if_neg e2, if_neg (by omega)]
theorem mvd_same (F : Nat → Nat) (gs : List Nat) {k : Nat} (hk : k < gs.length) (h : F (gs.getD k 0) = gs.getD k 0) : mvd F gs (k + 1) = mvd F gs k := by
  have hl := mvd_len F gs (k := k) (by omega)
  have hl' := mvd_len F gs (k := k + 1) (by omega)
  apply getD_ext (by omega)
  intro j hj
  rw [hl'] at hj
  rw [mvd_get F gs (by omega) hj, mvd_get F gs (by omega) hj]
  by_cases e : j = k
  · rw [e, if_pos (by omega), if_neg (by omega), h]
  · by_cases e2 : j < k
    · rw [if_pos e2, if_pos (by omega)]
    · rw [if_neg e2, if_neg (by omega)]
theorem mvd_all (F : Nat → Nat) (gs : List Nat) : mvd F gs gs.length = gs.map F := by
  unfold mvd; simp
def unlK (F : Nat → Nat) (gs : List Nat) (k : Nat) : Nat := (List.range k).countP (fun i => (gs.map F).getD i 0 != gs.getD i 0)
theorem map_get (F : Nat → Nat) (gs : List Nat) {j : Nat} (hj : j < gs.length) : (gs.map F).getD j 0 = F (gs.getD j 0) := by
  rw [← mvd_all, mvd_get F gs (Nat.le_refl _) hj, if_pos hj]
theorem unlK_succ (F : Nat → Nat) (gs : List Nat) {k : Nat} (hk : k < gs.length) : unlK F gs (k + 1) = if F (gs.getD k 0) = gs.getD k 0 then unlK F gs k else unlK F gs k + 1 := by
  unfold unlK
  rw [List.range_succ, List.countP_append, List.countP_singleton, map_get F gs hk]
  by_cases e : F (gs.getD k 0) = gs.getD k 0
  · rw [if_pos e, if_neg (by simpa using e)]; rfl
  · rw [if_neg e, if_pos (by simpa using e)]
/-- the class moves its generators -/
theorem mv_c {σ : Wd} {gs : List Nat} (F : Nat → Nat) {body : (Int32 × Int32 × Wd → Option (Int32 × Wd)) → Int32 × Int32 × Wd → Option (Int32 × Wd)} (h12 : gs.length ≤ 12) (hr : RowR σ 8 gs)
    (hgo : ∀ rec x3 k (τ : Wd), (∀ q, q ≠ 8 → q ≠ 9 → τ q = σ q) → k < gs.length → body rec (x3, nI k, τ) = if F (gs.getD k 0) = gs.getD k 0 then rec (x3, nI (k + 1), τ) else (X4_replace τ 8 (nI k) (nI (F (gs.getD k 0)))).bind fun σ' => rec (x3 + 1, nI (k + 1), σ'))
    (hend : ∀ rec x3 (τ : Wd), (∀ q, q ≠ 8 → q ≠ 9 → τ q = σ q) → body rec (x3, nI gs.length, τ) = (X10_settleChanged τ x3).bind fun (t8, σ9) => some (t8, σ9)) : ∃ τ, lp body FU (0, 0, σ) = ((X10_settleChanged τ (nI (unl (gs.map F) gs))).bind fun (t8, σ9) => some (t8, σ9)) ∧ RowR τ 8 (gs.map F) ∧ Fr σ τ [8, 9] := by
  refine lp_c (body := body) (0, 0, σ) (fun k s => s.1 = nI (unlK F gs k) ∧ s.2.1 = nI k ∧ RowR s.2.2 8 (mvd F gs k) ∧ Fr σ s.2.2 [8, 9]) gs.length (fun s => (X10_settleChanged s.2.2 (nI (unl (gs.map F) gs))).bind fun (t8, σ9) => some (t8, σ9)) ⟨nI_0.symm, nI_0.symm, ?_, Fr.rf _ _⟩ (by omega) (fun k s hk hi => ?_) (fun s hi rec => ?_) (fun s' hI he => ?_)
  · show RowR σ 8 (mvd F gs 0)
    have : mvd F gs 0 = gs := by unfold mvd; simp
    rw [this]; exact hr
  · obtain ⟨c, x, τ⟩ := s
    obtain ⟨h1, h2, h3, h4⟩ := hi
    simp only at h1 h2 h3 h4
    subst h1 h2
    have hf : ∀ q, q ≠ 8 → q ≠ 9 → τ q = σ q := fun q a b => h4 q (by simp [a, b])
    by_cases e : F (gs.getD k 0) = gs.getD k 0
    · refine ⟨(nI (unlK F gs k), nI (k + 1), τ), ⟨?_, rfl, ?_, h4⟩, fun rec => ?_⟩
      · rw [unlK_succ F gs hk, if_pos e]
      · rw [mvd_same F gs hk e]; exact h3
      · rw [hgo rec _ k τ hf hk, if_pos e]
    · have hl := mvd_len F gs (k := k) (by omega)
      obtain ⟨σ', r1, r2, r3⟩ := row_replace (r := 8) h3 (by rw [hl]; exact h12) (by decide) (i := k) (by omega) (F (gs.getD k 0))
      refine ⟨(nI (unlK F gs k + 1), nI (k + 1), σ'), ⟨?_, rfl, ?_, (h4.tr r3).mono (by simp)⟩, fun rec => ?_⟩
      · rw [unlK_succ F gs hk, if_neg e]
      · rw [← mvd_set F gs hk]; exact r2
      · rw [hgo rec _ k τ hf hk, if_neg e, r1, sbind, nI_1]
  · obtain ⟨c, x, τ⟩ := s
    have h1 : c = nI (unlK F gs gs.length) := hi.1
    have h2 : x = nI gs.length := hi.2.1
    subst h1 h2
    exact hend rec _ τ (fun q a b => hi.2.2.2 q (by simp [a, b]))
  · refine ⟨s'.2.2, he, ?_, hI.2.2.2⟩
    have := hI.2.2.1
    rw [mvd_all] at this; exact this
/-- the reference moves its generators -/
theorem mv_m {σ : Wd} {gs : List Nat} (F : Nat → Nat) {body : (Int32 × Wd → Option (Int32 × Wd)) → Int32 × Wd → Option (Int32 × Wd)} (h12 : gs.length ≤ 12)
    (hgo : ∀ rec k (τ : Wd), (∀ q, q ≠ 124 → τ q = σ q) → k < gs.length → body rec (nI k, τ) = rec (nI (k + 1), up τ 124 k (nI (F (gs.getD k 0)))))
    (hend : ∀ rec (τ : Wd), (∀ q, q ≠ 124 → τ q = σ q) → body rec (nI gs.length, τ) = (X11_changes τ).bind fun (t8, σ9) => some (t8, σ9)) : ∃ τ, lp body FU (0, σ) = ((X11_changes τ).bind fun (t8, σ9) => some (t8, σ9)) ∧ WouldR τ (gs.map F) ∧ ∀ q, q ≠ 124 → τ q = σ q := by
  refine lp_c (body := body) (0, σ) (fun k s => s.1 = nI k ∧ (∀ i, i < k → s.2 124 i = nI (F (gs.getD i 0))) ∧ ∀ q, q ≠ 124 → s.2 q = σ q) gs.length (fun s => (X11_changes s.2).bind fun (t8, σ9) => some (t8, σ9)) ⟨nI_0.symm, fun i hi => by omega, fun _ _ => rfl⟩ (by omega) (fun k s hk hi => ?_) (fun s hi rec => ?_) (fun s' hI he => ?_)
  · obtain ⟨x, τ⟩ := s
    obtain ⟨h1, h2, h3⟩ := hi
    simp only at h1 h2 h3
    subst h1
    refine ⟨(nI (k + 1), up τ 124 k (nI (F (gs.getD k 0)))), ⟨rfl, fun i hi => ?_, fun q hq => ?_⟩, fun rec => hgo rec k τ h3 hk⟩
    · show up τ 124 k (nI (F (gs.getD k 0))) 124 i = _
      rw [up_at]; unfold upd
      by_cases e : i = k
      · rw [if_pos e, e]
      · rw [if_neg e]; exact h2 i (by omega)
    · show up τ 124 k (nI (F (gs.getD k 0))) q = _
      rw [up_ne _ _ _ hq]; exact h3 q hq
  · obtain ⟨x, τ⟩ := s
    have h1 : x = nI gs.length := hi.1
    subst h1
    exact hend rec τ hi.2.2
  · refine ⟨s'.2, he, fun i hi => ?_, hI.2.2⟩
    rw [List.length_map] at hi
    rw [map_get F gs hi]; exact hI.2.1 i hi
theorem changes_ok {σ : Wd} {a : St} {hs : List St} {tp xs : List Nat} (h : MR σ a hs tp) (hw : wf a) (hx : WouldR σ xs) (hl : xs.length = a.2.2.1.length) (hb : ∀ x ∈ xs, x < 128) : unl xs a.2.2.1 = 0 ∧ (∃ σ', X11_changes σ = some (-1, σ') ∧ MR σ' a hs tp ∧ Same σ σ') ∨ unl xs a.2.2.1 ≠ 0 ∧ ∃ σ', X11_changes σ = some (nI (unl xs a.2.2.1), σ') ∧ MR σ' (a.1, a.2.1, xs, a.2.2.2) (pushH hs a) tp ∧ Same σ σ' := by
  have h12 := hw.2.2.1.1
  have hmany : X11_many σ = nI a.2.2.1.length := h.row.2.2.1
  obtain ⟨σ1, hσ1⟩ : ∃ σ1, σ1 = up σ 120 6 (nI xs.length) := ⟨_, rfl⟩
  have q1 : ∀ q, q ≠ 120 → σ1 q = σ q := fun q hq => by rw [hσ1, up_ne _ _ _ hq]
  have j1 : ∀ j, j ≠ 6 → σ1 120 j = σ 120 j := fun j hj => by rw [hσ1, up_at]; exact if_neg hj
  have j6 : σ1 120 6 = nI xs.length := by rw [hσ1, up_at]; exact if_pos rfl
  have m1 : MR σ1 a hs tp := h.cg (q1 _ (by decide)) (q1 _ (by decide)) (q1 _ (by decide)) (q1 _ (by decide)) (j1 _ (by decide)) (j1 _ (by decide))
  have x1 : WouldR σ1 xs := fun i hi => by rw [q1 124 (by decide)]; exact hx i hi
  have s1 : Same σ σ1 := fun q hq => q1 q (by omega)
  have hul := unl_le xs a.2.2.1
  unfold X11_changes
  rw [hmany, ← hl, ← hσ1, unlike_ok m1.row x1 (by omega) hb (wf_lt hw), sbind]
  by_cases e : unl xs a.2.2.1 = 0
  · left
    exact ⟨e, σ1, by rw [e, if_pos nI_0], m1, s1⟩
  · right
    obtain ⟨σ', e1, e2, e3⟩ := becomes_ok m1 x1 j6 (by omega)
    exact ⟨e, σ', by rw [if_neg (nI_ne0 (by omega) (by omega)), e1, sbind], e2, s1.tr e3⟩
/-- both move -/
theorem mv_both {σ σ1 τ : Wd} {a : St} {hs : List St} {tp : List Nat} (F : Nat → Nat) (hC : CR σ a hs tp) (hM : MR σ a hs tp) (hw : wf a) (c1 : CR σ1 a hs tp) (s1 : StR σ1 7 a) (f1 : ∀ q, (q < 7 ∨ 12 < q) → σ1 q = σ q) (r1 : RowR τ 8 (a.2.2.1.map F)) (ft : Fr σ1 τ [8, 9]) (hF : ∀ x ∈ a.2.2.1, 0 < F x ∧ F x < 2 ^ a.1) (hj : ∀ x ∈ a.2.2.1, ∀ y ∈ a.2.2.1, F x = F y → x = y)
    {M : Wd → Option (Int32 × Wd)} (hm : ∀ ρ, MR ρ a hs tp → ∃ ρ', M ρ = ((X11_changes ρ').bind fun (t8, σ9) => some (t8, σ9)) ∧ WouldR ρ' (a.2.2.1.map F) ∧ ∀ q, q ≠ 124 → ρ' q = ρ q) :
    ∃ r σ2 σ3, ((X10_settleChanged τ (nI (unl (a.2.2.1.map F) a.2.2.1))).bind fun (t8, σ9) => some (t8, σ9)) = some (r, σ2) ∧ M σ2 = some (r, σ3) ∧ AO σ σ3 a hs tp := by
  have h12 := hw.2.2.1.1
  have h2 := p2_le hw.1.2
  have hb : ∀ x ∈ a.2.2.1.map F, x < 128 := by
    intro x hx
    obtain ⟨y, y1, rfl⟩ := List.mem_map.mp hx
    have := hF y y1
    omega
  have hw' : wf (a.1, a.2.1, a.2.2.1.map F, a.2.2.2) := by
    refine ⟨hw.1, hw.2.1, ⟨by simpa using h12, fun g hg => ?_, ?_⟩, hw.2.2.2⟩
    · obtain ⟨y, y1, rfl⟩ := List.mem_map.mp hg
      exact hF y y1
    · show (a.2.2.1.map F).Nodup
      have hn := hw.2.2.1.2.2
      generalize a.2.2.1 = l at hn hj
      induction l with
      | nil => simp
      | cons x t ih =>
        rw [List.map_cons, List.nodup_cons]
        rw [List.nodup_cons] at hn
        refine ⟨fun hx => ?_, ih hn.2 (fun u hu v hv => hj u (by simp [hu]) v (by simp [hv]))⟩
        obtain ⟨y, y1, y2⟩ := List.mem_map.mp hx
        have := hj y (by simp [y1]) x (by simp) y2
        exact hn.1 (this ▸ y1)
  have hul := unl_le (a.2.2.1.map F) a.2.2.1
  unfold X10_settleChanged
  by_cases e : unl (a.2.2.1.map F) a.2.2.1 = 0
  · rw [if_pos (by rw [e]; exact nI_0), sbind]
    have gt : ∀ q, (q < 7 ∨ 12 < q) → τ q = σ q := fun q hq => by rw [ft q (by simp; omega), f1 q hq]
    have mt : MR τ a hs tp := hM.hi (fun q hq => gt q (by omega))
    obtain ⟨ρ', m1, m2, m3⟩ := hm τ mt
    have mρ : MR ρ' a hs tp := mt.cg (m3 _ (by decide)) (m3 _ (by decide)) (m3 _ (by decide)) (m3 _ (by decide)) (by rw [m3 _ (by decide)]) (by rw [m3 _ (by decide)])
    rcases changes_ok mρ hw m2 (by simp) hb with ⟨-, σ', d1, d2, d3⟩ | ⟨d0, -⟩
    · refine ⟨-1, τ, σ', rfl, by rw [m1, d1, sbind], Or.inl ⟨fun q hq => ?_, d2⟩⟩
      rw [d3 q (by omega), m3 q (by omega), gt q (by omega)]
    · exact absurd e d0
  · obtain ⟨σ8, e8, c8, n8, f8⟩ := act_g c1 hw s1 r1 ft hw'
    rw [if_neg (nI_ne0 (by omega) (by omega)), e8, sbind, sbind]
    have mt : MR σ8 a hs tp := hM.hi (fun q hq => by rw [f8 q (by omega), f1 q (by omega)])
    obtain ⟨ρ', m1, m2, m3⟩ := hm σ8 mt
    have mρ : MR ρ' a hs tp := mt.cg (m3 _ (by decide)) (m3 _ (by decide)) (m3 _ (by decide)) (m3 _ (by decide)) (by rw [m3 _ (by decide)]) (by rw [m3 _ (by decide)])
    rcases changes_ok mρ hw m2 (by simp) hb with ⟨d0, -⟩ | ⟨-, σ', d1, d2, d3⟩
    · exact absurd d0 e
    · refine ⟨_, σ8, σ', rfl, by rw [m1, d1, sbind], ao_do hw' c8 n8 (fun q hq => ?_) d2⟩
      rw [d3 q hq, m3 q (by omega)]
theorem o_swap {σ : Wd} {a : St} {hs : List St} {tp : List Nat} (hC : CR σ a hs tp) (hM : MR σ a hs tp) (hw : wf a) (x y : Int32) : ∃ r σ1 σ2, X10_swap σ x y = some (r, σ1) ∧ X11_swap σ1 x y = some (r, σ2) ∧ AO σ σ2 a hs tp := by
  have h7 := hw.1.2
  have h12 := hw.2.2.1.1
  have hcN : ∀ z, (z < 0 ∨ nI a.1 ≤ z) → X10_isPoint σ z = 0 := fun z hz => c_ixN hC.st.2.2.2 hz
  have hmN : ∀ z, (z < 0 ∨ nI a.1 ≤ z) → X11_isPoint σ z = 0 := fun z hz => by rw [X11_isPoint, hM.row.2.1]; exact in_no (by omega) hz
  have hcY : ∀ p, p < a.1 → X10_isPoint σ (nI p) = 1 := fun p hp => c_ix hC.st.2.2.2 (by omega) hp
  have hmY : ∀ τ, MR τ a hs tp → ∀ p, p < a.1 → X11_isPoint τ (nI p) = 1 := fun τ hτ p hp => by rw [X11_isPoint, hτ.row.2.1]; exact in_in (by omega) hp
  rcases pk_ix x (n := a.1) (by omega) with hx | hx | ⟨p, hp, rfl⟩
  · exact ⟨-1, σ, σ, by rw [X10_swap, hcN _ (Or.inl hx)]; rfl, by rw [X11_swap, hmN _ (Or.inl hx)]; rfl, AO.no hM⟩
  · exact ⟨-1, σ, σ, by rw [X10_swap, hcN _ (Or.inr hx)]; rfl, by rw [X11_swap, hmN _ (Or.inr hx)]; rfl, AO.no hM⟩
  rcases pk_ix y (n := a.1) (by omega) with hx | hx | ⟨q, hq, rfl⟩
  · exact ⟨-1, σ, σ, by rw [X10_swap, hcY p hp, hcN _ (Or.inl hx)]; rfl, by rw [X11_swap, hmY σ hM p hp, hmN _ (Or.inl hx)]; rfl, AO.no hM⟩
  · exact ⟨-1, σ, σ, by rw [X10_swap, hcY p hp, hcN _ (Or.inr hx)]; rfl, by rw [X11_swap, hmY σ hM p hp, hmN _ (Or.inr hx)]; rfl, AO.no hM⟩
  by_cases e : p = q
  · subst e
    exact ⟨-1, σ, σ, by rw [X10_swap, hcY p hp, if_neg (by decide), if_neg (by decide), if_pos rfl], by rw [X11_swap, hmY σ hM p hp, if_neg (by decide), if_neg (by decide), if_pos rfl], AO.no hM⟩
  have hne : ¬ nI p = nI q := by rw [neq (by omega) (by omega)]; exact e
  have hlt : ∀ k, k < a.2.2.1.length → a.2.2.1.getD k 0 < 128 := fun k hk => by rw [getD_lt hk]; exact wf_lt hw _ (List.getElem_mem hk)
  obtain ⟨σ6, e6, c6, s6, f6⟩ := c_begin hC hw
  obtain ⟨τ, t1, t2, t3⟩ := mv_c (σ := σ6) (gs := a.2.2.1) (fun s => swp s p q) (body := X10_swap_B39 (nI p) (nI q)) h12 s6.1 (fun rec x3 k τ hf hk => by
      have h8 := hlt k hk
      have hs := f_swp _ h8 p (by omega) q (by omega) e
      have hs7 : swp (a.2.2.1.getD k 0) p q < 128 := by
        by_cases h0 : 0 < a.2.2.1.getD k 0
        · exact (f_swpn (n := 7) (by omega) h8 (by omega) (by omega) h8 h0).2
        · have : a.2.2.1.getD k 0 = 0 := by omega
          rw [this]; unfold swp; simp
      have r2 : RowR τ 2 a.2.2.1 := c6.st.1.cg (hf 2 (by decide) (by decide)) (hf 3 (by decide) (by decide))
      rw [X10_swap_B39, r2.1, if_neg (by rw [nle (by omega) (by omega)]; omega), row_at_in r2 (by exact h12) (by decide) hk, sbind, hs.1]
      by_cases e2 : swp (a.2.2.1.getD k 0) p q = a.2.2.1.getD k 0
      · rw [if_pos (by rw [e2]), if_pos e2, X10_swap_J101, nI_1]
      · rw [if_neg (by rw [neq (by omega) (by omega)]; exact e2), if_neg e2]
        simp only [X10_swap_J101, nI_1]) (fun rec x3 τ hf => by
      have r2 : RowR τ 2 a.2.2.1 := c6.st.1.cg (hf 2 (by decide) (by decide)) (hf 3 (by decide) (by decide))
      rw [X10_swap_B39, r2.1, if_pos (by rw [nle (by omega) (by omega)]; omega)])
  have hF : ∀ x ∈ a.2.2.1, 0 < swp x p q ∧ swp x p q < 2 ^ a.1 := fun x hx => f_swpn (by omega) (wf_lt hw x hx) hp hq (hw.2.2.1.2.1 x hx).2 (hw.2.2.1.2.1 x hx).1
  have hj : ∀ x ∈ a.2.2.1, ∀ y ∈ a.2.2.1, swp x p q = swp y p q → x = y := fun x hx y hy h => by
    rw [← (f_swp x (wf_lt hw x hx) p (by omega) q (by omega) e).2.2, h, (f_swp y (wf_lt hw y hy) p (by omega) q (by omega) e).2.2]
  obtain ⟨r, σ2, σ3, b1, b2, b3⟩ := mv_both (M := fun ρ => X11_swap ρ (nI p) (nI q)) (fun s => swp s p q) hC hM hw c6 s6 f6 t2 t3 hF hj (fun ρ hρ => by
    rw [X11_swap, hmY ρ hρ p hp, hmY ρ hρ q hq, if_neg (by decide), if_neg (by decide), if_neg hne]
    refine mv_m (gs := a.2.2.1) (fun s => swp s p q) (body := X11_swap_B25 (nI p) (nI q)) h12 (fun rec k τ hf hk => ?_) (fun rec τ hf => ?_)
    · have h8 := hlt k hk
      have hs := f_swp _ h8 p (by omega) q (by omega) e
      have hτ : MRow (τ 121) a := by rw [hf 121 (by decide)]; exact hρ.row
      have hmany : X11_many τ = nI a.2.2.1.length := hτ.2.2.1
      rw [X11_swap_B25, hmany, if_neg (by rw [nle (by omega) (by omega)]; omega), gen_ok hτ hk, sbind, ← hs.2.1]
      by_cases e2 : X11_has (nI (a.2.2.1.getD k 0)) (nI p) = X11_has (nI (a.2.2.1.getD k 0)) (nI q)
      · rw [if_pos e2, if_pos e2, ckA_n (by omega) (by omega), ncl (by omega), X11_swap_J76, nI_1]
      · rw [if_neg e2, if_neg e2, ckA_n (by omega) (by omega), ncl (by omega), X11_swap_J76, nI_1]
    · have hτ : MRow (τ 121) a := by rw [hf 121 (by decide)]; exact hρ.row
      have hmany : X11_many τ = nI a.2.2.1.length := hτ.2.2.1
      rw [X11_swap_B25, hmany, if_pos (by rw [nle (by omega) (by omega)]; omega)])
  refine ⟨r, σ2, σ3, ?_, b2, b3⟩
  rw [X10_swap, hcY p hp, hcY q hq, if_neg (by decide), if_neg (by decide), if_neg hne, e6, sbind, t1, b1]
theorem o_turn {σ : Wd} {a : St} {hs : List St} {tp : List Nat} (hC : CR σ a hs tp) (hM : MR σ a hs tp) (hw : wf a) : ∃ r σ1 σ2, X10_turn σ = some (r, σ1) ∧ X11_turn σ1 = some (r, σ2) ∧ AO σ σ2 a hs tp := by
  have h7 := hw.1.2
  have h1 := hw.1.1
  have h12 := hw.2.2.1.1
  have hlt : ∀ k, k < a.2.2.1.length → a.2.2.1.getD k 0 < 128 ∧ a.2.2.1.getD k 0 < 2 ^ a.1 := fun k hk => by rw [getD_lt hk]; exact ⟨wf_lt hw _ (List.getElem_mem hk), (hw.2.2.1.2.1 _ (List.getElem_mem hk)).2⟩
  have hp2 := p2_le h7
  obtain ⟨σ6, e6, c6, s6, f6⟩ := c_begin hC hw
  obtain ⟨τ, t1, t2, t3⟩ := mv_c (σ := σ6) (gs := a.2.2.1) (fun s => rot a.1 s) (body := X10_turn_B15) h12 s6.1 (fun rec x3 k τ hf hk => by
      obtain ⟨h8, h8'⟩ := hlt k hk
      have hs7 := (f_rotn a.1 (by omega) _ h8 (by omega) h8').2
      have r2 : RowR τ 2 a.2.2.1 := c6.st.1.cg (hf 2 (by decide) (by decide)) (hf 3 (by decide) (by decide))
      have r3 : τ 1 3 = nI a.1 := by rw [hf 1 (by decide) (by decide)]; exact c6.st.2.2.2
      rw [X10_turn_B15, r2.1, if_neg (by rw [nle (by omega) (by omega)]; omega), row_at_in r2 (by exact h12) (by decide) hk, sbind, r3, f_rotc a.1 (by omega) _ h8 (by omega) h8']
      by_cases e2 : rot a.1 (a.2.2.1.getD k 0) = a.2.2.1.getD k 0
      · rw [if_pos (by rw [e2]), if_pos e2, X10_turn_J76, nI_1]
      · rw [if_neg (by rw [neq (by omega) (by omega)]; exact e2), if_neg e2]
        simp only [X10_turn_J76, nI_1]) (fun rec x3 τ hf => by
      have r2 : RowR τ 2 a.2.2.1 := c6.st.1.cg (hf 2 (by decide) (by decide)) (hf 3 (by decide) (by decide))
      rw [X10_turn_B15, r2.1, if_pos (by rw [nle (by omega) (by omega)]; omega)])
  have hF : ∀ x ∈ a.2.2.1, 0 < rot a.1 x ∧ rot a.1 x < 2 ^ a.1 := fun x hx => by
    obtain ⟨g1, g2⟩ := hw.2.2.1.2.1 x hx
    obtain ⟨k1, k2⟩ := f_rotn a.1 (by omega) x (wf_lt hw x hx) (by omega) g2
    exact ⟨k1 g1, k2⟩
  have hj : ∀ x ∈ a.2.2.1, ∀ y ∈ a.2.2.1, rot a.1 x = rot a.1 y → x = y := fun x hx y hy h => by
    rw [← f_roti a.1 (by omega) x (wf_lt hw x hx) (by omega) (hw.2.2.1.2.1 x hx).2, h, f_roti a.1 (by omega) y (wf_lt hw y hy) (by omega) (hw.2.2.1.2.1 y hy).2]
  obtain ⟨r, σ2, σ3, b1, b2, b3⟩ := mv_both (M := fun ρ => X11_turn ρ) (fun s => rot a.1 s) hC hM hw c6 s6 f6 t2 t3 hF hj (fun ρ hρ => by
    rw [X11_turn]
    refine mv_m (gs := a.2.2.1) (fun s => rot a.1 s) (body := X11_turn_B2) h12 (fun rec k τ hf hk => ?_) (fun rec τ hf => ?_)
    · obtain ⟨h8, h8'⟩ := hlt k hk
      have hτ : MRow (τ 121) a := by rw [hf 121 (by decide)]; exact hρ.row
      have hmany : X11_many τ = nI a.2.2.1.length := hτ.2.2.1
      rw [X11_turn_B2, hmany, if_neg (by rw [nle (by omega) (by omega)]; omega), gen_ok hτ hk, sbind, X11_allPoints, hτ.2.1, f_rotm a.1 (by omega) _ h8 (by omega) h8', ckA_n (by omega) (by omega), ncl (by omega), nI_1]
    · have hτ : MRow (τ 121) a := by rw [hf 121 (by decide)]; exact hρ.row
      have hmany : X11_many τ = nI a.2.2.1.length := hτ.2.2.1
      rw [X11_turn_B2, hmany, if_pos (by rw [nle (by omega) (by omega)]; omega)])
  refine ⟨r, σ2, σ3, ?_, b2, b3⟩
  rw [X10_turn, e6, sbind, t1, b1]
