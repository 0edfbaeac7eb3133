/-! without and lean -/
def WS (τ ρ : Wd) (L : List Nat) : Prop := WouldR ρ L ∧ ρ 120 6 = nI L.length ∧ (∀ j, j ≠ 6 → ρ 120 j = τ 120 j) ∧ ∀ q, q ≠ 120 → q ≠ 124 → ρ q = τ q
theorem WS.start (τ : Wd) : WS τ (up τ 120 6 0) [] :=
  ⟨fun i hi => absurd hi (by simp), by rw [up_at]; exact if_pos rfl, fun j hj => by rw [up_at]; exact if_neg hj, fun q h1 _ => up_ne _ _ _ h1⟩
theorem WS.push {τ ρ : Wd} {L : List Nat} (h : WS τ ρ L) (c : Nat) : WS τ (up (up ρ 124 L.length (nI c)) 120 6 (nI (L.length + 1))) (L ++ [c]) := by
  obtain ⟨h1, h2, h3, h4⟩ := h
  refine ⟨fun i hi => ?_, ?_, fun j hj => ?_, fun q q1 q2 => ?_⟩
  · simp only [List.length_append, List.length_singleton] at hi
    rw [up_ne _ _ _ (by decide), up_at, getD_app _ _ _ hi]; unfold upd
    by_cases ei : i = L.length
    · rw [if_pos ei, if_pos ei]
    · rw [if_neg ei, if_neg ei]; exact h1 i (by omega)
  · rw [List.length_append, List.length_singleton, up_at]; exact if_pos rfl
  · rw [up_at]; unfold upd; rw [if_neg hj, up_ne _ _ _ (by decide)]; exact h3 j hj
  · rw [up_ne _ _ _ q1, up_ne _ _ _ q2]; exact h4 q q1 q2
theorem WS.six {τ ρ : Wd} {L : List Nat} (h : WS τ ρ L) (c : Nat) : up ρ 124 L.length (nI c) 120 6 = nI L.length := by
  rw [up_ne _ _ _ (by decide)]; exact h.2.1
theorem WS.mr {τ ρ : Wd} {L tp : List Nat} {a : St} {hs : List St} (h : WS τ ρ L) (hm : MR τ a hs tp) : MR ρ a hs tp :=
  hm.cg (h.2.2.2 121 (by decide) (by decide)) (h.2.2.2 123 (by decide) (by decide)) (h.2.2.2 138 (by decide) (by decide)) (h.2.2.2 139 (by decide) (by decide)) (h.2.2.1 4 (by decide)) (h.2.2.1 23 (by decide))
theorem WS.lay {τ ρ : Wd} {L gs : List Nat} (h : WS τ ρ L) (hm : LayR τ gs) : LayR ρ gs :=
  hm.cg (h.2.2.2 125 (by decide) (by decide)) (h.2.2.2 126 (by decide) (by decide)) (h.2.2.2 127 (by decide) (by decide)) (h.2.2.1 10 (by decide))
theorem WS.same {τ ρ : Wd} {L : List Nat} (h : WS τ ρ L) : Same τ ρ := fun q hq => h.2.2.2 q (by omega) (by omega)
def woS (p : Nat) (L : List Nat) (g : Nat) : List Nat := if g &&& (127 ^^^ 2 ^ p) = 0 ∨ g &&& (127 ^^^ 2 ^ p) ∈ L then L else L ++ [g &&& (127 ^^^ 2 ^ p)]
def wo (p : Nat) (gs : List Nat) : List Nat := gs.foldl (woS p) []
theorem wo_take {p : Nat} {gs : List Nat} {k : Nat} (hk : k < gs.length) : wo p (gs.take (k + 1)) = woS p (wo p (gs.take k)) (gs.getD k 0) := by
  unfold wo; rw [foldl_take_succ _ _ _ _ hk, getD_lt hk]
theorem wo_spec (p : Nat) (gs : List Nat) : (wo p gs).length ≤ gs.length ∧ (wo p gs).Nodup ∧ ∀ x ∈ wo p gs, 0 < x ∧ ∃ g ∈ gs, x = g &&& (127 ^^^ 2 ^ p) := by
  have key : ∀ gs L : List Nat, L.Nodup → (∀ x ∈ L, 0 < x) → (gs.foldl (woS p) L).length ≤ gs.length + L.length ∧ (gs.foldl (woS p) L).Nodup ∧ ∀ x ∈ gs.foldl (woS p) L, 0 < x ∧ (x ∈ L ∨ ∃ g ∈ gs, x = g &&& (127 ^^^ 2 ^ p)) := by
    intro gs
    induction gs with
    | nil => intro L h1 h2; exact ⟨by simp, h1, fun x hx => ⟨h2 x hx, Or.inl hx⟩⟩
    | cons g r ih =>
      intro L h1 h2
      rw [List.foldl_cons]
      by_cases e : g &&& (127 ^^^ 2 ^ p) = 0 ∨ g &&& (127 ^^^ 2 ^ p) ∈ L
      · have : woS p L g = L := if_pos e
        rw [this]
        obtain ⟨k1, k2, k3⟩ := ih L h1 h2
        refine ⟨by simp; omega, k2, fun x hx => ⟨(k3 x hx).1, ?_⟩⟩
        rcases (k3 x hx).2 with h | ⟨y, y1, y2⟩
        · exact Or.inl h
        · exact Or.inr ⟨y, by simp [y1], y2⟩
      · have : woS p L g = L ++ [g &&& (127 ^^^ 2 ^ p)] := if_neg e
        rw [this]
        rw [not_or] at e
        obtain ⟨k1, k2, k3⟩ := ih (L ++ [g &&& (127 ^^^ 2 ^ p)]) (by
          rw [List.nodup_append]
          exact ⟨h1, by simp, fun x hx y hy e' => by simp at hy; subst hy; exact e.2 (e' ▸ hx)⟩) (fun x hx => by
          rcases List.mem_append.mp hx with h | h
          · exact h2 x h
          · simp at h; subst h; exact Nat.pos_of_ne_zero e.1)
        refine ⟨by simp at k1 ⊢; omega, k2, fun x hx => ⟨(k3 x hx).1, ?_⟩⟩
        rcases (k3 x hx).2 with h | ⟨y, y1, y2⟩
        · rcases List.mem_append.mp h with h | h
          · exact Or.inl h
          · simp at h; exact Or.inr ⟨g, by simp, h⟩
        · exact Or.inr ⟨y, by simp [y1], y2⟩
  obtain ⟨k1, k2, k3⟩ := key gs [] (by simp) (by simp)
  refine ⟨by simpa [wo] using k1, k2, fun x hx => ⟨(k3 x hx).1, ?_⟩⟩
  rcases (k3 x hx).2 with h | h
  · simp at h
  · exact h
theorem gwith_ok {σ : Wd} {a : St} (h : StR σ 1 a) (hw : wf a) {p : Nat} (hp : p < 7) : X10_generatorsWith σ (nI p) = some (nI (a.2.2.1.countP (fun g => g.testBit p))) := by
  have h12 := hw.2.2.1.1
  unfold X10_generatorsWith
  refine lp_cnt a.2.2.1 _ (fun n k => (nI n, nI k)) (fun n => some (nI n)) (by rw [nI_0]) (by omega) (fun k n hk hn rec => ?_) (fun n hn rec => ?_)
  · have hg := wf_lt hw _ (List.getElem_mem hk)
    show X10_generatorsWith_B4 σ (nI p) rec (nI n, nI k) = rec (nI _, nI (k + 1))
    have hr : RowR σ 2 a.2.2.1 := h.1
    rw [X10_generatorsWith_B4, hr.1, if_neg (by rw [nle (by omega) (by omega)]; omega), row_at_in hr (by exact h12) (by decide) hk, sbind, getD_lt hk, f_bit _ hg p hp]
    dsimp only [lett]
    rw [nI_add, nI_1]
    by_cases e : a.2.2.1[k].testBit p = true
    · rw [if_pos e, if_pos e]
    · rw [if_neg e, if_neg e]; rfl
  · show X10_generatorsWith_B4 σ (nI p) rec (nI n, nI a.2.2.1.length) = _
    have hr : RowR σ 2 a.2.2.1 := h.1
    rw [X10_generatorsWith_B4, hr.1, if_pos (by rw [nle (by omega) (by omega)]; omega)]
theorem and_lt8 {a b : Nat} (h : a < 128) : a &&& b < 128 := Nat.lt_of_le_of_lt Nat.and_le_left h
theorem o_without {σ : Wd} {a : St} {hs : List St} {tp : List Nat} (hC : CR σ a hs tp) (hM : MR σ a hs tp) (hw : wf a) (x : Int32) : ∃ r σ1 σ2, X10_without σ x = some (r, σ1) ∧ X11_without σ1 x = some (r, σ2) ∧ AO σ σ2 a hs tp := by
  have h7 := hw.1.2
  have h12 := hw.2.2.1.1
  have hp2 := p2_le h7
  rcases pk_ix x (n := a.1) (by omega) with hx | hx | ⟨p, hp, rfl⟩
  · exact ⟨-1, σ, σ, by rw [X10_without, X10_isPoint, c_ixN hC.st.2.2.2 (Or.inl hx)]; rfl, by rw [X11_without, X11_isPoint, hM.row.2.1, in_no (by omega) (Or.inl hx)]; rfl, AO.no hM⟩
  · exact ⟨-1, σ, σ, by rw [X10_without, X10_isPoint, c_ixN hC.st.2.2.2 (Or.inr hx)]; rfl, by rw [X11_without, X11_isPoint, hM.row.2.1, in_no (by omega) (Or.inr hx)]; rfl, AO.no hM⟩
  have hp7 : p < 7 := by omega
  have hpp := f_pow_lt hp7
  obtain ⟨hlW, hnW, hxW⟩ := wo_spec p a.2.2.1
  have hw' : wf (a.1, a.2.1, wo p a.2.2.1, a.2.2.2) := ⟨hw.1, hw.2.1, ⟨Nat.le_trans hlW h12, fun g hg => by
    obtain ⟨y1, z, z1, z2⟩ := hxW g hg
    refine ⟨y1, ?_⟩
    rw [z2]
    exact Nat.lt_of_le_of_lt Nat.and_le_left (hw.2.2.1.2.1 z z1).2, hnW⟩, hw.2.2.2⟩
  have hlt : ∀ k, k < a.2.2.1.length → a.2.2.1.getD k 0 < 128 := fun k hk => by rw [getD_lt hk]; exact wf_lt hw _ (List.getElem_mem hk)
  have htk : ∀ k, k ≤ a.2.2.1.length → (wo p (a.2.2.1.take k)).length ≤ 12 ∧ ∀ x ∈ wo p (a.2.2.1.take k), x < 128 := fun k hk => by
    obtain ⟨q1, -, q3⟩ := wo_spec p (a.2.2.1.take k)
    refine ⟨by rw [List.length_take] at q1; omega, fun x hx => ?_⟩
    obtain ⟨-, z, z1, rfl⟩ := q3 x hx
    exact and_lt8 (wf_lt hw z (List.mem_of_mem_take z1))
  -- the reference
  have hmod : ∀ τ, MR τ a hs tp → ∃ ρ, X11_without τ (nI p) = X11_without_T114 (if a.2.2.1.any (fun g => g.testBit p) then 1 else 0) ρ ∧ WS τ ρ (wo p a.2.2.1) := by
    intro τ hτ
    rw [X11_without, X11_isPoint, hτ.row.2.1, in_in (by omega) hp, if_neg (by decide)]
    refine lp_c (body := X11_without_B19 (nI p) X11_without_T114) (0, 0, up τ 120 6 0) (fun k s => s.1 = (if (a.2.2.1.take k).any (fun g => g.testBit p) then 1 else 0) ∧ s.2.1 = nI k ∧ WS τ s.2.2 (wo p (a.2.2.1.take k))) a.2.2.1.length (fun s => X11_without_T114 (if a.2.2.1.any (fun g => g.testBit p) then 1 else 0) s.2.2) ⟨by simp, nI_0.symm, WS.start τ⟩ (by omega) (fun k s hk hi => ?_) (fun s hi rec => ?_) (fun s' hI he => ?_)
    · obtain ⟨c, x, ρ⟩ := s
      obtain ⟨h1, h2, h3⟩ := hi
      simp only at h1 h2 h3
      have hρ : MR ρ a hs tp := h3.mr hτ
      have hmany : X11_many ρ = nI a.2.2.1.length := hρ.row.2.2.1
      have hg8 := hlt k hk
      have hany : (a.2.2.1.take (k + 1)).any (fun g => g.testBit p) = ((a.2.2.1.take k).any (fun g => g.testBit p) || (a.2.2.1.getD k 0).testBit p) := by
        rw [List.take_succ_eq_append_getElem hk, List.any_append, getD_lt hk]; simp
      obtain ⟨L, hL⟩ : ∃ L, L = wo p (a.2.2.1.take k) := ⟨_, rfl⟩
      obtain ⟨G, hG⟩ : ∃ G, G = a.2.2.1.getD k 0 := ⟨_, rfl⟩
      have hLb := htk k (by omega)
      have hs := wo_take (p := p) hk
      rw [← hL] at h3 hLb hs
      rw [← hG] at hg8 hany hs
      have hx8 : G &&& (127 ^^^ 2 ^ p) < 128 := and_lt8 hg8
      -- behind the mark
      have hJ : ∀ c', ∃ ρ', WS τ ρ' (woS p L G) ∧ ∀ rec, X11_without_J49 (nI p) rec c' (nI k) ρ = rec (c', nI (k + 1), ρ') := by
        intro c'
        have hj : ∀ rec, X11_without_J49 (nI p) rec c' (nI k) ρ = (if nI (G &&& (127 ^^^ 2 ^ p)) = 0 then X11_without_J108 rec c' (nI k) ρ else ((X11_isThere ρ 124 0 (ρ 120 6) (nI (G &&& (127 ^^^ 2 ^ p)))).bind fun t9 => (if t9 = 0 then (ckA (ρ 120 6) 20 <| X11_without_J108 rec c' (nI k) (up (up ρ 124 ((ρ 120 6).toNatClampNeg) (nI (G &&& (127 ^^^ 2 ^ p)))) 120 6 (((up ρ 124 ((ρ 120 6).toNatClampNeg) (nI (G &&& (127 ^^^ 2 ^ p)))) 120 6) + 1))) else X11_without_J108 rec c' (nI k) ρ))) := by
          intro rec
          rw [X11_without_J49, gen_ok hρ.row hk, sbind, ← hG, f_shl p (by omega), f_andn G hg8 _ hpp]
          rfl
        by_cases e0 : G &&& (127 ^^^ 2 ^ p) = 0
        · refine ⟨ρ, ?_, fun rec => ?_⟩
          · rw [woS, if_pos (Or.inl e0)]; exact h3
          · rw [hj, if_pos (by rw [e0]; exact nI_0), X11_without_J108, nI_1]
        · have hth : X11_isThere ρ 124 0 (ρ 120 6) (nI (G &&& (127 ^^^ 2 ^ p))) = some (if G &&& (127 ^^^ 2 ^ p) ∈ L then 1 else 0) := by
            rw [h3.2.1, show (0 : Int32) = nI 0 from rfl]
            rw [there_ok (fun i hi => by rw [Nat.zero_add]; exact h3.1 i hi) (by rw [show kLn 124 = 20 from rfl]; omega) (by decide) (fun x hx => Nat.lt_trans (hLb.2 x hx) (by decide)) (by omega)]
            rfl
          by_cases e1 : G &&& (127 ^^^ 2 ^ p) ∈ L
          · refine ⟨ρ, ?_, fun rec => ?_⟩
            · rw [woS, if_pos (Or.inr e1)]; exact h3
            · rw [hj, if_neg (nI_ne0 (by omega) (by omega)), hth, sbind, if_pos e1, if_neg (by decide), X11_without_J108, nI_1]
          · refine ⟨up (up ρ 124 L.length (nI (G &&& (127 ^^^ 2 ^ p)))) 120 6 (nI (L.length + 1)), ?_, fun rec => ?_⟩
            · rw [woS, if_neg (not_or.mpr ⟨e0, e1⟩)]; exact h3.push _
            · rw [hj, if_neg (nI_ne0 (by omega) (by omega)), hth, sbind, if_neg e1, if_pos rfl, h3.2.1, ckA_n (by omega) (by omega), ncl (by omega), h3.six, X11_without_J108, nI_1, nI_1]
      subst h2
      by_cases e1 : (a.2.2.1.take k).any (fun g => g.testBit p) = true
      · rw [if_pos e1] at h1
        subst h1
        obtain ⟨ρ', j1, j2⟩ := hJ 1
        refine ⟨(1, nI (k + 1), ρ'), ⟨?_, rfl, ?_⟩, fun rec => ?_⟩
        · rw [hany, e1]; rfl
        · rw [hs]; exact j1
        · rw [X11_without_B19, hmany, if_neg (by rw [nle (by omega) (by omega)]; omega), if_neg (by decide), X11_without_J43, j2]
      · rw [if_neg e1] at h1
        subst h1
        have e1' : (a.2.2.1.take k).any (fun g => g.testBit p) = false := by simpa using e1
        by_cases e2 : G.testBit p = true
        · obtain ⟨ρ', j1, j2⟩ := hJ 1
          refine ⟨(1, nI (k + 1), ρ'), ⟨?_, rfl, ?_⟩, fun rec => ?_⟩
          · rw [hany, e2, Bool.or_true]; rfl
          · rw [hs]; exact j1
          · rw [X11_without_B19, hmany, if_neg (by rw [nle (by omega) (by omega)]; omega), if_pos rfl, gen_ok hρ.row hk, sbind, ← hG, f_has G hg8 p hp7, if_pos e2, if_neg (by decide), X11_without_J43, j2]
        · obtain ⟨ρ', j1, j2⟩ := hJ 0
          refine ⟨(0, nI (k + 1), ρ'), ⟨?_, rfl, ?_⟩, fun rec => ?_⟩
          · rw [hany, e1', show G.testBit p = false by simpa using e2]; rfl
          · rw [hs]; exact j1
          · rw [X11_without_B19, hmany, if_neg (by rw [nle (by omega) (by omega)]; omega), if_pos rfl, gen_ok hρ.row hk, sbind, ← hG, f_has G hg8 p hp7, if_neg e2, if_pos rfl, j2]
    · obtain ⟨c, x, ρ⟩ := s
      have h1 : c = _ := hi.1
      have h2 : x = nI a.2.2.1.length := hi.2.1
      rw [List.take_length] at h1
      subst h1 h2
      have hρ : MR ρ a hs tp := hi.2.2.mr hτ
      have hmany : X11_many ρ = nI a.2.2.1.length := hρ.row.2.2.1
      show X11_without_B19 (nI p) X11_without_T114 rec (_, nI a.2.2.1.length, ρ) = _
      rw [X11_without_B19, hmany, if_pos (by rw [nle (by omega) (by omega)]; omega)]
    · refine ⟨s'.2.2, he, ?_⟩
      have := hI.2.2
      rw [List.take_length] at this; exact this
  have hanyc : a.2.2.1.any (fun g => g.testBit p) = true ↔ a.2.2.1.countP (fun g => g.testBit p) ≠ 0 := by
    rw [ne_eq, List.countP_eq_zero, List.any_eq_true]
    simp
  have hcle : a.2.2.1.countP (fun g => g.testBit p) ≤ 12 := Nat.le_trans List.countP_le_length h12
  have hpt : X10_isPoint σ (nI p) = 1 := c_ix hC.st.2.2.2 (by omega) hp
  by_cases e : a.2.2.1.any (fun g => g.testBit p) = true
  · obtain ⟨σ5, e5, c5, s5, f5⟩ := c_begin hC hw
    have hc8 := row_clear (σ := σ5) (r := 8)
    -- the class
    have hcl : ∃ τ, lp (X10_without_B41 (nI p)) FU (0, X4_clear σ5 8) = ((X10_settle τ).bind fun σ7 => some (σ7 2 1, σ7)) ∧ RowR τ 8 (wo p a.2.2.1) ∧ Fr σ5 τ [8, 9] := by
      refine lp_c (body := X10_without_B41 (nI p)) (0, X4_clear σ5 8) (fun k s => s.1 = nI k ∧ RowR s.2 8 (wo p (a.2.2.1.take k)) ∧ Fr σ5 s.2 [8, 9]) a.2.2.1.length (fun s => (X10_settle s.2).bind fun σ7 => some (σ7 2 1, σ7)) ⟨nI_0.symm, hc8.1, hc8.2.mono (by simp)⟩ (by omega) (fun k s hk hi => ?_) (fun s hi rec => ?_) (fun s' hI he => ?_)
      · obtain ⟨x, τ⟩ := s
        obtain ⟨h1, h2, h3⟩ := hi
        simp only at h1 h2 h3
        subst h1
        have r2 : RowR τ 2 a.2.2.1 := c5.st.1.cg (h3 2 (by simp)) (h3 3 (by simp))
        have hg8 := hlt k hk
        obtain ⟨L, hL⟩ : ∃ L, L = wo p (a.2.2.1.take k) := ⟨_, rfl⟩
        obtain ⟨G, hG⟩ : ∃ G, G = a.2.2.1.getD k 0 := ⟨_, rfl⟩
        have hLb := htk k (by omega)
        have hs := wo_take (p := p) hk
        have hLk : L.length ≤ k := by
          have := (wo_spec p (a.2.2.1.take k)).1
          rw [List.length_take, ← hL] at this; omega
        rw [← hL] at h2 hLb hs
        rw [← hG] at hg8 hs
        have hx8 : G &&& (127 ^^^ 2 ^ p) < 128 := and_lt8 hg8
        have hj : ∀ rec, X10_without_B41 (nI p) rec (nI k, τ) = (if nI (G &&& (127 ^^^ 2 ^ p)) = 0 then X10_without_J103 rec (nI k) τ else ((X4_find τ 8 (nI (G &&& (127 ^^^ 2 ^ p)))).bind fun t10 => (if t10 = (-1) then ((X4_append τ 8 (nI (G &&& (127 ^^^ 2 ^ p)))).bind fun σ12 => X10_without_J103 rec (nI k) σ12) else X10_without_J103 rec (nI k) τ))) := by
          intro rec
          rw [X10_without_B41, r2.1, if_neg (by rw [nle (by omega) (by omega)]; omega), row_at_in r2 (by exact h12) (by decide) hk, sbind, ← hG, f_shl p (by omega), f_andn G hg8 _ hpp]
          rfl
        by_cases e0 : G &&& (127 ^^^ 2 ^ p) = 0
        · refine ⟨(nI (k + 1), τ), ⟨rfl, ?_, h3⟩, fun rec => ?_⟩
          · rw [hs, woS, if_pos (Or.inl e0)]; exact h2
          · rw [hj, if_pos (by rw [e0]; exact nI_0), X10_without_J103, nI_1]
        · obtain ⟨v, v1, v2⟩ := row_find (r := 8) h2 (by exact hLb.1) (by decide) (fun x hx => Nat.lt_trans (hLb.2 x hx) (by decide)) (s := G &&& (127 ^^^ 2 ^ p)) (by omega)
          by_cases e1 : G &&& (127 ^^^ 2 ^ p) ∈ L
          · refine ⟨(nI (k + 1), τ), ⟨rfl, ?_, h3⟩, fun rec => ?_⟩
            · rw [hs, woS, if_pos (Or.inr e1)]; exact h2
            · rw [hj, if_neg (nI_ne0 (by omega) (by omega)), v1, sbind, if_neg (fun h => v2.mp h e1), X10_without_J103, nI_1]
          · obtain ⟨σ', q1, q2, q3⟩ := row_append (r := 8) h2 (by rw [show kLn (8 + 1) = 12 from rfl]; omega) (by decide) (G &&& (127 ^^^ 2 ^ p))
            refine ⟨(nI (k + 1), σ'), ⟨rfl, ?_, (h3.tr q3).mono (by simp)⟩, fun rec => ?_⟩
            · rw [hs, woS, if_neg (not_or.mpr ⟨e0, e1⟩)]; exact q2
            · rw [hj, if_neg (nI_ne0 (by omega) (by omega)), v1, sbind, if_pos (v2.mpr e1), q1, sbind, X10_without_J103, nI_1]
      · obtain ⟨x, τ⟩ := s
        have h1 : x = nI a.2.2.1.length := hi.1
        subst h1
        have h3 : Fr σ5 τ [8, 9] := hi.2.2
        have r2 : RowR τ 2 a.2.2.1 := c5.st.1.cg (h3 2 (by simp)) (h3 3 (by simp))
        show X10_without_B41 (nI p) rec (nI a.2.2.1.length, τ) = _
        rw [X10_without_B41, r2.1, if_pos (by rw [nle (by omega) (by omega)]; omega)]
      · refine ⟨s'.2, he, ?_, hI.2.2⟩
        have := hI.2.1
        rw [List.take_length] at this; exact this
    obtain ⟨τ, t1, t2, t3⟩ := hcl
    obtain ⟨σ8, e8, c8, n8, f8⟩ := act_g c5 hw s5 t2 t3 hw'
    have mt : MR σ8 a hs tp := hM.hi (fun q hq => by rw [f8 q (by omega), f5 q (by omega)])
    obtain ⟨ρ, m1, m2⟩ := hmod σ8 mt
    obtain ⟨σ', b1, b2, b3⟩ := becomes_ok (m2.mr mt) m2.1 m2.2.1 (Nat.le_trans hlW h12)
    have hmany : X11_many σ' = nI (wo p a.2.2.1).length := b2.row.2.2.1
    refine ⟨nI (wo p a.2.2.1).length, σ8, σ', ?_, ?_, ao_do hw' c8 n8 (m2.same.tr b3) b2⟩
    · have h21 : σ8 2 1 = nI (wo p a.2.2.1).length := c8.st.1.1
      rw [X10_without, hpt, if_neg (by decide), gwith_ok hC.st hw hp7, sbind, if_neg (nI_ne0 (Nat.pos_of_ne_zero (hanyc.mp e)) (by omega)), e5, sbind, t1, e8, sbind, h21]
    · rw [m1, X11_without_T114, if_pos e, if_neg (by decide), b1, sbind, hmany]
  · have h0 : a.2.2.1.countP (fun g => g.testBit p) = 0 := Decidable.not_not.mp (fun h => e (hanyc.mpr h))
    obtain ⟨ρ, m1, m2⟩ := hmod σ hM
    refine ⟨-1, σ, ρ, ?_, ?_, Or.inl ⟨m2.same.keep, m2.mr hM⟩⟩
    · rw [X10_without, hpt, if_neg (by decide), gwith_ok hC.st hw hp7, sbind, h0, if_pos nI_0]
    · rw [m1, X11_without_T114, if_neg e, if_pos rfl]
