/-! lean -/
theorem based_find {σ : Wd} {gs : List Nat} (h : RowR σ 97 (bas gs)) {t : Nat} (ht : t < 128) : ∃ v, X4_find σ 97 (nI t) = some v ∧ (v = -1 ↔ ¬ (famB gs t && basB gs t) = true) := by
  obtain ⟨v, h1, h2⟩ := row_find h (bas_len gs) (by decide) (fun x hx => Nat.lt_trans (bas_lt hx) (by decide)) (s := t) (by omega)
  exact ⟨v, h1, by rw [h2, bas_mem ht]⟩
theorem idle_ok {σ : Wd} {a : St} (hr : RowR σ 2 a.2.2.1) (hb : RowR σ 97 (bas a.2.2.1)) (hw : wf a) {k : Nat} (hk : k < a.2.2.1.length) : X10_isIdle σ (nI k) = some (if (famB a.2.2.1 (a.2.2.1.getD k 0) && basB a.2.2.1 (a.2.2.1.getD k 0)) = true then 0 else 1) := by
  have h12 := hw.2.2.1.1
  have h8 : a.2.2.1.getD k 0 < 128 := by rw [getD_lt hk]; exact wf_lt hw _ (List.getElem_mem hk)
  obtain ⟨v, v1, v2⟩ := based_find hb h8
  rw [X10_isIdle, row_at_in hr (by exact h12) (by decide) hk, sbind, v1, sbind]
  by_cases e : (famB a.2.2.1 (a.2.2.1.getD k 0) && basB a.2.2.1 (a.2.2.1.getD k 0)) = true
  · rw [if_pos e, if_neg (fun h => v2.mp h e)]
  · rw [if_neg e, if_pos (v2.mpr e)]
def ln (gs : List Nat) (k : Nat) : List Nat := (gs.take k).filter (fun g => famB gs g && basB gs g)
theorem ln_succ {gs : List Nat} {k : Nat} (hk : k < gs.length) : ln gs (k + 1) = ln gs k ++ if (famB gs (gs.getD k 0) && basB gs (gs.getD k 0)) = true then [gs.getD k 0] else [] := by
  unfold ln; rw [filter_take_succ _ _ _ hk, getD_lt hk]
theorem ln_len (gs : List Nat) (k : Nat) : (ln gs k).length ≤ k := by
  have := List.length_filter_le (fun g => famB gs g && basB gs g) (gs.take k)
  rw [List.length_take] at this
  unfold ln; omega
theorem ln_sub (gs : List Nat) (k : Nat) : (ln gs k).Sublist gs := List.filter_sublist.trans (List.take_sublist k gs)
theorem o_lean {σ : Wd} {a : St} {hs : List St} {tp : List Nat} (hC : CR σ a hs tp) (hM : MR σ a hs tp) (hw : wf a) : ∃ r σ1 σ2, X10_lean σ = some (r, σ1) ∧ X11_lean σ1 = some (r, σ2) ∧ AO σ σ2 a hs tp := by
  have h12 := hw.2.2.1.1
  have hsub := ln_sub a.2.2.1 a.2.2.1.length
  have hlL := ln_len a.2.2.1 a.2.2.1.length
  have hw' : wf (a.1, a.2.1, ln a.2.2.1 a.2.2.1.length, a.2.2.2) := ⟨hw.1, hw.2.1, ⟨by show (ln a.2.2.1 a.2.2.1.length).length ≤ 12; omega, fun g hg => hw.2.2.1.2.1 g (hsub.subset hg), List.Pairwise.sublist hsub hw.2.2.1.2.2⟩, hw.2.2.2⟩
  have hlt : ∀ k, k < a.2.2.1.length → a.2.2.1.getD k 0 < 128 := fun k hk => by rw [getD_lt hk]; exact wf_lt hw _ (List.getElem_mem hk)
  have hmod : ∀ τ, MR τ a hs tp → ∃ τ1 ρ, X11_lean τ = X11_lean_T69 (nI (a.2.2.1.length - (ln a.2.2.1 a.2.2.1.length).length)) ρ ∧ MR τ1 a hs tp ∧ Same τ τ1 ∧ WS τ1 ρ (ln a.2.2.1 a.2.2.1.length) := by
    intro τ hτ
    obtain ⟨τ1, e1, l1, m1, s1, f1⟩ := lays_MR hτ hw
    refine ⟨τ1, ?_⟩
    rw [X11_lean, e1, sbind]
    refine lp_c (body := X11_lean_B13 X11_lean_T69) (0, 0, up τ1 120 6 0) (fun k s => s.1 = nI (k - (ln a.2.2.1 k).length) ∧ s.2.1 = nI k ∧ WS τ1 s.2.2 (ln a.2.2.1 k)) a.2.2.1.length (fun s => X11_lean_T69 (nI (a.2.2.1.length - (ln a.2.2.1 a.2.2.1.length).length)) s.2.2) ⟨by simp; exact nI_0.symm, nI_0.symm, WS.start τ1⟩ (by omega) (fun k s hk hi => ?_) (fun s hi rec => ?_) (fun s' hI he => ?_)
    · obtain ⟨c, x, ρ⟩ := s
      obtain ⟨h1, h2, h3⟩ := hi
      simp only at h1 h2 h3
      subst h1 h2
      have hρ : MR ρ a hs tp := h3.mr m1
      have lρ := h3.lay l1
      have hmany : X11_many ρ = nI a.2.2.1.length := hρ.row.2.2.1
      have hs' := ln_succ hk
      have hg8 := hlt k hk
      have hk' := ln_len a.2.2.1 k
      by_cases e : (famB a.2.2.1 (a.2.2.1.getD k 0) && basB a.2.2.1 (a.2.2.1.getD k 0)) = true
      · rw [if_pos e] at hs'
        refine ⟨(nI (k - (ln a.2.2.1 k).length), nI (k + 1), up (up ρ 124 (ln a.2.2.1 k).length (nI (a.2.2.1.getD k 0))) 120 6 (nI ((ln a.2.2.1 k).length + 1))), ⟨?_, rfl, ?_⟩, fun rec => ?_⟩
        · show _ = nI (k + 1 - (ln a.2.2.1 (k + 1)).length)
          rw [hs', List.length_append, List.length_singleton]
          rw [show k + 1 - ((ln a.2.2.1 k).length + 1) = k - (ln a.2.2.1 k).length by omega]
        · rw [hs']; exact h3.push _
        · rw [X11_lean_B13, hmany, if_neg (by rw [nle (by omega) (by omega)]; omega), gen_ok hρ.row hk, sbind, based_ok lρ hg8, sbind, if_pos e, if_neg (by decide), sbind, h3.2.1, ckA_n (by omega) (by omega), ncl (by omega), h3.six, X11_lean_J63, nI_1, nI_1]
      · rw [if_neg e, List.append_nil] at hs'
        refine ⟨(nI (k - (ln a.2.2.1 k).length + 1), nI (k + 1), ρ), ⟨?_, rfl, ?_⟩, fun rec => ?_⟩
        · show _ = nI (k + 1 - (ln a.2.2.1 (k + 1)).length)
          rw [hs', show k + 1 - (ln a.2.2.1 k).length = k - (ln a.2.2.1 k).length + 1 by omega]
        · rw [hs']; exact h3
        · rw [X11_lean_B13, hmany, if_neg (by rw [nle (by omega) (by omega)]; omega), gen_ok hρ.row hk, sbind, based_ok lρ hg8, sbind, if_neg e, if_pos rfl, X11_lean_J63, nI_1, nI_1]
    · obtain ⟨c, x, ρ⟩ := s
      have h1 : c = _ := hi.1
      have h2 : x = nI a.2.2.1.length := hi.2.1
      subst h1 h2
      have hρ : MR ρ a hs tp := hi.2.2.mr m1
      have hmany : X11_many ρ = nI a.2.2.1.length := hρ.row.2.2.1
      show X11_lean_B13 X11_lean_T69 rec (_, nI a.2.2.1.length, ρ) = _
      rw [X11_lean_B13, hmany, if_pos (by rw [nle (by omega) (by omega)]; omega)]
    · exact ⟨s'.2.2, he, m1, s1, hI.2.2⟩
  obtain ⟨σ5, e5, c5, s5, f5⟩ := c_begin hC hw
  have hc8 := row_clear (σ := σ5) (r := 8)
  have hcl : ∃ τ, lp (X10_lean_B23 X10_lean_T72) FU (0, X4_clear σ5 8) = X10_lean_T72 τ ∧ RowR τ 8 (ln a.2.2.1 a.2.2.1.length) ∧ Fr σ5 τ [8, 9] := by
    refine lp_c (body := X10_lean_B23 X10_lean_T72) (0, X4_clear σ5 8) (fun k s => s.1 = nI k ∧ RowR s.2 8 (ln a.2.2.1 k) ∧ Fr σ5 s.2 [8, 9]) a.2.2.1.length (fun s => X10_lean_T72 s.2) ⟨nI_0.symm, hc8.1, hc8.2.mono (by simp)⟩ (by omega) (fun k s hk hi => ?_) (fun s hi rec => ?_) (fun s' hI he => ?_)
    · obtain ⟨x, τ⟩ := s
      obtain ⟨h1, h2, h3⟩ := hi
      simp only at h1 h2 h3
      subst h1
      have r2 : RowR τ 2 a.2.2.1 := c5.st.1.cg (h3 2 (by simp)) (h3 3 (by simp))
      have rb : RowR τ 97 (bas a.2.2.1) := c5.fam.bas.cg (h3 97 (by simp)) (h3 98 (by simp))
      have hs' := ln_succ hk
      have hk' := ln_len a.2.2.1 k
      by_cases e : (famB a.2.2.1 (a.2.2.1.getD k 0) && basB a.2.2.1 (a.2.2.1.getD k 0)) = true
      · rw [if_pos e] at hs'
        obtain ⟨σ', q1, q2, q3⟩ := row_append (r := 8) h2 (by rw [show kLn (8 + 1) = 12 from rfl]; omega) (by decide) (a.2.2.1.getD k 0)
        refine ⟨(nI (k + 1), σ'), ⟨rfl, ?_, (h3.tr q3).mono (by simp)⟩, fun rec => ?_⟩
        · rw [hs']; exact q2
        · rw [X10_lean_B23, r2.1, if_neg (by rw [nle (by omega) (by omega)]; omega), idle_ok r2 rb hw hk, sbind, if_pos e, if_pos rfl, row_at_in r2 (by exact h12) (by decide) hk, sbind, q1, sbind, X10_lean_J66, nI_1]
      · rw [if_neg e, List.append_nil] at hs'
        refine ⟨(nI (k + 1), τ), ⟨rfl, ?_, h3⟩, fun rec => ?_⟩
        · rw [hs']; exact h2
        · rw [X10_lean_B23, r2.1, if_neg (by rw [nle (by omega) (by omega)]; omega), idle_ok r2 rb hw hk, sbind, if_neg e, if_neg (by decide), X10_lean_J66, nI_1]
    · obtain ⟨x, τ⟩ := s
      have h1 : x = nI a.2.2.1.length := hi.1
      subst h1
      have h3 : Fr σ5 τ [8, 9] := hi.2.2
      have r2 : RowR τ 2 a.2.2.1 := c5.st.1.cg (h3 2 (by simp)) (h3 3 (by simp))
      show X10_lean_B23 X10_lean_T72 rec (nI a.2.2.1.length, τ) = _
      rw [X10_lean_B23, r2.1, if_pos (by rw [nle (by omega) (by omega)]; omega)]
    · exact ⟨s'.2, he, hI.2.1, hI.2.2⟩
  obtain ⟨τ, t1, t2, t3⟩ := hcl
  have hd : τ 2 1 - τ 8 1 = nI (a.2.2.1.length - (ln a.2.2.1 a.2.2.1.length).length) := by
    have r2 : RowR τ 2 a.2.2.1 := c5.st.1.cg (t3 2 (by simp)) (t3 3 (by simp))
    rw [r2.1, t2.1]; exact nsub hlL
  have hcls : X10_lean σ = (X10_settleChanged τ (nI (a.2.2.1.length - (ln a.2.2.1 a.2.2.1.length).length))).bind fun (t2, σ3) => some (t2, σ3) := by
    rw [X10_lean, e5, sbind, t1, X10_lean_T72, hd]
  by_cases e : a.2.2.1.length - (ln a.2.2.1 a.2.2.1.length).length = 0
  · have gt : ∀ q, (q < 7 ∨ 12 < q) → τ q = σ q := fun q hq => by rw [t3 q (by simp; omega), f5 q hq]
    have mt : MR τ a hs tp := hM.hi (fun q hq => gt q (by omega))
    obtain ⟨τ1, ρ, m1, m2, m3, m4⟩ := hmod τ mt
    refine ⟨-1, τ, ρ, ?_, ?_, Or.inl ⟨fun q hq => ?_, m4.mr m2⟩⟩
    · rw [hcls, X10_settleChanged, if_pos (by rw [e]; exact nI_0), sbind]
    · rw [m1, X11_lean_T69, if_pos (by rw [e]; exact nI_0)]
    · rw [m4.same q (by omega), m3 q (by omega), gt q (by omega)]
  · obtain ⟨σ8, e8, c8, n8, f8⟩ := act_g c5 hw s5 t2 t3 hw'
    have mt : MR σ8 a hs tp := hM.hi (fun q hq => by rw [f8 q (by omega), f5 q (by omega)])
    obtain ⟨τ1, ρ, m1, m2, m3, m4⟩ := hmod σ8 mt
    obtain ⟨σ', b1, b2, b3⟩ := becomes_ok (m4.mr m2) m4.1 m4.2.1 (by omega)
    refine ⟨nI (a.2.2.1.length - (ln a.2.2.1 a.2.2.1.length).length), σ8, σ', ?_, ?_, ao_do hw' c8 n8 ((m3.tr m4.same).tr b3) b2⟩
    · rw [hcls, X10_settleChanged, if_neg (nI_ne0 (by omega) (by omega)), e8, sbind, sbind]
    · rw [m1, X11_lean_T69, if_neg (nI_ne0 (by omega) (by omega)), b1, sbind]
