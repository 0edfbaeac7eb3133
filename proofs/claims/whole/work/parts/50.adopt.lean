/-! adopt -/
theorem o_adopt {σ : Wd} {a : St} {hs : List St} {tp : List Nat} (hC : CR σ a hs tp) (hM : MR σ a hs tp) (hw : wf a) : ∃ r σ1 σ2, X10_adopt σ = some (r, σ1) ∧ X11_adopt σ1 = some (r, σ2) ∧ AO σ σ2 a hs tp := by
  have h20 := hw.2.2.2.1
  by_cases e0 : a.2.2.2.length = 0
  · refine ⟨-1, σ, σ, ?_, ?_, AO.no hM⟩
    · rw [X10_adopt, hC.st.2.1.1, e0]; rfl
    · rw [X11_adopt, X11_listMany, hM.row.2.2.2.1, e0]; rfl
  have hw' : a.2.2.2.length ≤ 12 → wf (a.1, a.2.1, a.2.2.2, a.2.2.2) := fun h => ⟨hw.1, hw.2.1, ⟨h, hw.2.2.2.2⟩, hw.2.2.2⟩
  -- what the reference does
  have hmod : ∀ τ, MR τ a hs tp → ∃ ρ, X11_adopt τ = (X11_replaces ρ).bind (fun (t3, σ4) => some (t3, σ4)) ∧ MR ρ a hs tp ∧ Same τ ρ ∧ WouldR ρ a.2.2.2 ∧ ρ 120 6 = nI a.2.2.2.length := by
    intro τ hτ
    have hlm : X11_listMany τ = nI a.2.2.2.length := hτ.row.2.2.2.1
    rw [X11_adopt, hlm, if_neg (nI_ne0 (by omega) (by omega))]
    refine lp_c (body := X11_adopt_B19) (0, up τ 120 6 (nI a.2.2.2.length)) (fun k s => s.1 = nI k ∧ (∀ i, i < k → s.2 124 i = nI (a.2.2.2.getD i 0)) ∧ s.2 120 6 = nI a.2.2.2.length ∧ (∀ j, j ≠ 6 → s.2 120 j = τ 120 j) ∧ ∀ q, q ≠ 120 → q ≠ 124 → s.2 q = τ q) a.2.2.2.length (fun s => (X11_replaces s.2).bind (fun (t3, σ4) => some (t3, σ4))) ⟨nI_0.symm, fun i hi => by omega, ?_, fun j hj => ?_, fun q h1 h2 => up_ne _ _ _ h1⟩ (by omega) (fun k s hk hi => ?_) (fun s hi rec => ?_) (fun s' hI he => ?_)
    · show up τ 120 6 (nI a.2.2.2.length) 120 6 = _
      rw [up_at]; exact if_pos rfl
    · show up τ 120 6 (nI a.2.2.2.length) 120 j = _
      rw [up_at]; exact if_neg hj
    · obtain ⟨x, ρ⟩ := s
      obtain ⟨h1, h2, h3, h4, h5⟩ := hi
      simp only at h1 h2 h3 h4 h5
      subst h1
      have w : ρ 121 (22 + k) = nI (a.2.2.2.getD k 0) := by rw [h5 121 (by decide) (by decide)]; exact hτ.row.2.2.2.2.2.2 k hk
      refine ⟨(nI (k + 1), up ρ 124 k (nI (a.2.2.2.getD k 0))), ⟨rfl, fun i hi => ?_, ?_, fun j hj => ?_, fun q q1 q2 => ?_⟩, fun rec => ?_⟩
      · show up ρ 124 k (nI (a.2.2.2.getD k 0)) 124 i = _
        rw [up_at]; unfold upd
        by_cases e : i = k
        · rw [if_pos e, e]
        · rw [if_neg e]; exact h2 i (by omega)
      · show up ρ 124 k (nI (a.2.2.2.getD k 0)) 120 6 = _
        rw [up_ne _ _ _ (by decide)]; exact h3
      · show up ρ 124 k (nI (a.2.2.2.getD k 0)) 120 j = _
        rw [up_ne _ _ _ (by decide)]; exact h4 j hj
      · show up ρ 124 k (nI (a.2.2.2.getD k 0)) q = _
        rw [up_ne _ _ _ q2]; exact h5 q q1 q2
      · rw [X11_adopt_B19, h3, if_neg (by rw [nle (by omega) (by omega)]; omega), show (22 : Int32) = nI 22 from rfl, nI_add, ckA_n (by omega) (by omega), ckA_n (by omega) (by omega), ncl (by omega), ncl (by omega), w, nI_1]
    · obtain ⟨x, ρ⟩ := s
      have h1 : x = nI a.2.2.2.length := hi.1
      have h3 : ρ 120 6 = nI a.2.2.2.length := hi.2.2.1
      subst h1
      show X11_adopt_B19 rec (nI a.2.2.2.length, ρ) = _
      rw [X11_adopt_B19, h3, if_pos (by rw [nle (by omega) (by omega)]; omega)]
    · obtain ⟨-, i1, i2, i3, i4⟩ := hI
      exact ⟨s'.2, he, hτ.cg (i4 121 (by decide) (by decide)) (i4 123 (by decide) (by decide)) (i4 138 (by decide) (by decide)) (i4 139 (by decide) (by decide)) (i3 4 (by decide)) (i3 23 (by decide)), fun q hq => i4 q (by omega) (by omega), i1, i2⟩
  have hcls : X10_adopt σ = (X10_replaceGenerators σ 4).bind (fun (t2, σ3) => some (t2, σ3)) := by
    rw [X10_adopt, hC.st.2.1.1, if_neg (nI_ne0 (by omega) (by omega))]
  rcases replC_ok (q := 4) hC hw hC.st.2.1 (Or.inr rfl) h20 (by decide) (wf_lt' hw) hw' with ⟨c1, c2⟩ | ⟨c1, σ', c2, c3, c4, c5⟩
  · obtain ⟨ρ, r1, r2, r3, r4, r5⟩ := hmod σ hM
    rcases replaces_ok r2 hw r4 r5 h20 (wf_lt' hw) with ⟨-, d2⟩ | ⟨d1, -⟩
    · exact ⟨-1, σ, ρ, by rw [hcls, c2]; rfl, by rw [r1, d2]; rfl, Or.inl ⟨r3.keep, r2⟩⟩
    · exfalso
      rcases c1 with h | h
      · omega
      · exact d1.2 h
  · have hM' : MR σ' a hs tp := hM.hi (fun q hq => c5 q (by omega))
    obtain ⟨ρ, r1, r2, r3, r4, r5⟩ := hmod σ' hM'
    rcases replaces_ok r2 hw r4 r5 h20 (wf_lt' hw) with ⟨d1, -⟩ | ⟨-, τ, d2, d3, d4⟩
    · exfalso
      rcases d1 with h | h
      · omega
      · exact c1.2 h
    · exact ⟨nI a.2.2.2.length, σ', τ, by rw [hcls, c2]; rfl, by rw [r1, d2]; rfl, ao_do (hw' c1.1) c3 c4 (r3.tr d4) d3⟩
