/-! change, weigh, undo -/
theorem mem_set_or {xs : List Nat} {i x y : Nat} (h : y ∈ xs.set i x) : y = x ∨ y ∈ xs := by
  rcases List.mem_or_eq_of_mem_set h with h | h
  · exact Or.inr h
  · exact Or.inl h
theorem nodup_set {xs : List Nat} {i x : Nat} (hn : xs.Nodup) (hx : x ∉ xs) : (xs.set i x).Nodup := by
  induction xs generalizing i with
  | nil => simp
  | cons y r ih =>
    rw [List.nodup_cons] at hn
    rw [List.mem_cons, not_or] at hx
    cases i with
    | zero => rw [List.set_cons_zero, List.nodup_cons]; exact ⟨hx.2, hn.2⟩
    | succ i =>
      rw [List.set_cons_succ, List.nodup_cons]
      refine ⟨fun h => ?_, ih hn.2 hx.2⟩
      rcases mem_set_or h with h | h
      · exact hx.1 h.symm
      · exact hn.1 h
theorem wf_gset {a : St} {t i : Nat} (h : wf a) (h0 : t ≠ 0) (ht : t < 2 ^ a.1) (hn : t ∉ a.2.2.1) : wf (a.1, a.2.1, a.2.2.1.set i t, a.2.2.2) := by
  refine ⟨h.1, h.2.1, ⟨by simpa using h.2.2.1.1, fun g hg => ?_, nodup_set h.2.2.1.2.2 hn⟩, h.2.2.2⟩
  rcases mem_set_or hg with h' | h'
  · subst h'; exact ⟨by omega, ht⟩
  · exact h.2.2.1.2.1 g h'
theorem wf_wset {a : St} {p v : Nat} (h : wf a) (hv : v ≤ 9) : wf (a.1, a.2.1.set p v, a.2.2.1, a.2.2.2) := by
  refine ⟨h.1, ⟨by simpa using h.2.1.1, fun g hg => ?_⟩, h.2.2⟩
  rcases mem_set_or hg with h' | h'
  · omega
  · exact h.2.1.2 g h'
theorem o_change {σ : Wd} {a : St} {hs : List St} {tp : List Nat} (hC : CR σ a hs tp) (hM : MR σ a hs tp) (hw : wf a) (y x : Int32) : ∃ r σ1 σ2, X10_change σ y x = some (r, σ1) ∧ X11_change σ1 y x = some (r, σ2) ∧ AO σ σ2 a hs tp := by
  have h2 := p2_le hw.1.2
  have h12 := hw.2.2.1.1
  have hno : (y < 0 ∨ nI a.2.2.1.length ≤ y) → ∃ r σ1 σ2, X10_change σ y x = some (r, σ1) ∧ X11_change σ1 y x = some (r, σ2) ∧ AO σ σ2 a hs tp := fun hx =>
    ⟨-1, σ, σ, by rw [X10_change, X10_isGenerator, c_ixN hC.st.1.1 hx]; rfl, by rw [X11_change, X11_isGenerator, X11_many, hM.row.2.2.1, in_no (by omega) hx]; rfl, AO.no hM⟩
  rcases pk_ix y (n := a.2.2.1.length) (by omega) with hx | hx | ⟨i, hi, rfl⟩
  · exact hno (Or.inl hx)
  · exact hno (Or.inr hx)
  have hcG : X10_isGenerator σ (nI i) = 1 := by rw [X10_isGenerator, c_ix hC.st.1.1 (by omega) hi]
  have hmG : ∀ τ, MRow (τ 121) a → X11_isGenerator τ (nI i) = 1 := fun τ h => by rw [X11_isGenerator, X11_many, h.2.2.1, in_in (by omega) hi]
  have hnoS : (x < 0 ∨ nI (2 ^ a.1) ≤ x) → ∃ r σ1 σ2, X10_change σ (nI i) x = some (r, σ1) ∧ X11_change σ1 (nI i) x = some (r, σ2) ∧ AO σ σ2 a hs tp := fun hx =>
    ⟨-1, σ, σ, by rw [X10_change, hcG, c_fsetN hC.st hw hx]; rfl, by rw [X11_change, hmG σ hM.row, m_setN hM.row hw hx]; rfl, AO.no hM⟩
  rcases pk_ix x (n := 2 ^ a.1) (by omega) with hx | hx | ⟨t, ht, rfl⟩
  · exact hnoS (Or.inl hx)
  · exact hnoS (Or.inr hx)
  by_cases h0 : t = 0
  · subst h0
    exact ⟨-1, σ, σ, by rw [X10_change, hcG, c_fset0]; rfl, by rw [X11_change, hmG σ hM.row, if_neg (by decide), m_set hM.row hw ht, if_neg (by decide), if_pos nI_0], AO.no hM⟩
  obtain ⟨v, ev, hv⟩ := c_findG hC.st hw (t := t) (by omega)
  by_cases e : t ∈ a.2.2.1
  · refine ⟨-1, σ, σ, ?_, ?_, AO.no hM⟩
    · rw [X10_change, hcG, if_neg (by decide), c_fset hC.st hw ht h0, if_neg (by decide), ev, sbind, if_neg (fun h => (hv.mp h) e)]
    · rw [X11_change, hmG σ hM.row, if_neg (by decide), m_set hM.row hw ht, if_neg (by decide), if_neg (nI_ne0 (by omega) (by omega)), told_ok hM.row hw (by omega), sbind, if_pos e, if_neg (by decide)]
  · obtain ⟨σ6, e6, c6, s6, f6⟩ := c_begin hC hw
    obtain ⟨σ7, e7, r7, f7⟩ := row_replace s6.1 (show a.2.2.1.length ≤ kLn (7 + 1 + 1) from h12) (by decide) hi t
    have hw' := wf_gset (i := i) hw h0 ht e
    obtain ⟨σ8, e8, c8, n8, f8⟩ := act_g c6 hw s6 r7 (f7.mono (by simp)) hw'
    have hM8 : MR σ8 a hs tp := hM.hi (fun q hq => by rw [f8 q (by omega), f6 q (by omega)])
    obtain ⟨τ, et, mt, ft, gt⟩ := mk_keep hM8
    have hat : X4_at σ 2 (nI i) = some (nI (a.2.2.1.getD i 0)) := row_at_in hC.st.1 (show a.2.2.1.length ≤ kLn (1 + 1 + 1) from h12) (by decide) hi
    refine ⟨nI (a.2.2.1.getD i 0), σ8, up τ 121 (10 + i) (nI t), ?_, ?_, ao_do hw' c8 n8 (fun q hq => by rw [up_ne _ _ _ (by omega), gt q (by omega) (by omega)]) (mk_put mt (by rw [up_at]; exact mrow_gset mt.row hi) (fun q hq => up_ne _ _ _ hq))⟩
    · rw [X10_change, hcG, if_neg (by decide), c_fset hC.st hw ht h0, if_neg (by decide), ev, sbind, if_pos (hv.mpr e), hat, sbind, e6, sbind, show (8 : Nat) = 7 + 1 from rfl, e7, sbind, e8, sbind]
    · rw [X11_change, hmG σ8 hM8.row, if_neg (by decide), m_set hM8.row hw ht, if_neg (by decide), if_neg (nI_ne0 (by omega) (by omega)), told_ok hM8.row hw (by omega), sbind, if_neg e, if_pos rfl, et, sbind, gen_ok mt.row hi, sbind, show (10 : Int32) = nI 10 from rfl, nI_add, ckA_n (by omega) (by omega), ncl (by omega)]
theorem o_weigh {σ : Wd} {a : St} {hs : List St} {tp : List Nat} (hC : CR σ a hs tp) (hM : MR σ a hs tp) (hw : wf a) (y x : Int32) : ∃ r σ1 σ2, X10_weigh σ y x = some (r, σ1) ∧ X11_weigh σ1 y x = some (r, σ2) ∧ AO σ σ2 a hs tp := by
  have h7 := hw.1.2
  have hno : (y < 0 ∨ nI a.1 ≤ y) → ∃ r σ1 σ2, X10_weigh σ y x = some (r, σ1) ∧ X11_weigh σ1 y x = some (r, σ2) ∧ AO σ σ2 a hs tp := fun hx =>
    ⟨-1, σ, σ, by rw [X10_weigh, X10_isPoint, c_ixN hC.st.2.2.2 hx]; rfl, by rw [X11_weigh, X11_isPoint, hM.row.2.1, in_no (by omega) hx]; rfl, AO.no hM⟩
  rcases pk_ix y (n := a.1) (by omega) with hx | hx | ⟨p, hp, rfl⟩
  · exact hno (Or.inl hx)
  · exact hno (Or.inr hx)
  have hcP : X10_isPoint σ (nI p) = 1 := by rw [X10_isPoint, c_ix hC.st.2.2.2 (by omega) hp]
  have hmP : ∀ τ, MRow (τ 121) a → X11_isPoint τ (nI p) = 1 := fun τ h => by rw [X11_isPoint, h.2.1, in_in (by omega) hp]
  have hnoS : (x < 0 ∨ nI 10 ≤ x) → ∃ r σ1 σ2, X10_weigh σ (nI p) x = some (r, σ1) ∧ X11_weigh σ1 (nI p) x = some (r, σ2) ∧ AO σ σ2 a hs tp := fun hx => by
    refine ⟨-1, σ, σ, ?_, by rw [X11_weigh, hmP σ hM.row, show (9 : Int32) = nI 10 - 1 from rfl, in_no (n := 10) (by omega) hx]; rfl, AO.no hM⟩
    rw [X10_weigh, hcP, if_neg (by decide)]
    by_cases h0 : x < 0
    · rw [if_pos h0]
    · rw [if_neg h0, if_neg]
      rcases hx with h | h
      · exact absurd h h0
      · intro h'
        have e10 : (nI 10).toInt = 10 := by decide
        have e9 : (9 : Int32).toInt = 9 := by decide
        rw [Int32.le_iff_toInt_le] at h h'
        omega
  rcases pk_ix x (n := 10) (by omega) with hx | hx | ⟨v, hv, rfl⟩
  · exact hnoS (Or.inl hx)
  · exact hnoS (Or.inr hx)
  have hwt := st_weightOf (σ := σ) (r := 1) rfl hC.st (p := p) (by omega)
  have hmw : ∀ τ : Wd, MRow (τ 121) a → τ 121 (3 + p) = nI (a.2.1.getD p 0) := fun τ h => h.2.2.2.2.1 p (by omega)
  have hin : X11_in (nI v) 0 9 = 1 := in_in (n := 10) (by omega) hv
  have hle : nI v ≤ (9 : Int32) := by rw [show (9 : Int32) = nI 9 from rfl, nle (by omega) (by omega)]; omega
  by_cases e : nI (a.2.1.getD p 0) = nI v
  · refine ⟨-1, σ, σ, ?_, ?_, AO.no hM⟩
    · rw [X10_weigh, hcP, if_neg (by decide), if_neg (nneg (by omega)), if_pos hle, hwt, sbind, if_pos e]
    · rw [X11_weigh, hmP σ hM.row, if_neg (by decide), hin, if_neg (by decide), show (3 : Int32) = nI 3 from rfl, nI_add, ckA_n (by omega) (by omega), ncl (by omega), hmw σ hM.row, if_pos e]
  · obtain ⟨σ6, e6, c6, s6, f6⟩ := c_begin hC hw
    obtain ⟨σ7, e7, r7, f7⟩ := st_setWeight (r := 7) rfl s6 hw.2.1.1 (p := p) (by omega) v
    have hw' := wf_wset (p := p) (v := v) hw (by omega)
    have g7 : ∀ q, q ≠ 12 → σ7 q = σ6 q := fun q hq => f7 q (by simp [hq])
    obtain ⟨σ8, e8, c8, n8, f8⟩ := settle_ok (c6.cg (σ' := σ7) (fun q hq => g7 q (by omega))) hw r7 hw'
    have hM8 : MR σ8 a hs tp := hM.hi (fun q hq => by rw [f8 q (by omega), g7 q (by omega), f6 q (by omega)])
    obtain ⟨τ, et, mt, ft, gt⟩ := mk_keep hM8
    refine ⟨nI (a.2.1.getD p 0), σ8, up τ 121 (3 + p) (nI v), ?_, ?_, ao_do hw' c8 n8 (fun q hq => by rw [up_ne _ _ _ (by omega), gt q (by omega) (by omega)]) (mk_put mt (by rw [up_at]; exact mrow_wset mt.row (by omega) hw.2.1.1) (fun q hq => up_ne _ _ _ hq))⟩
    · rw [X10_weigh, hcP, if_neg (by decide), if_neg (nneg (by omega)), if_pos hle, hwt, sbind, if_neg e, e6, sbind, e7, sbind, e8, sbind]
    · rw [X11_weigh, hmP σ8 hM8.row, if_neg (by decide), hin, if_neg (by decide), show (3 : Int32) = nI 3 from rfl, nI_add, ckA_n (by omega) (by omega), ncl (by omega), hmw σ8 hM8.row, if_neg e, et, sbind, ckA_n (by omega) (by omega), hmw τ mt.row]
      dsimp only [lett]
      rw [ckA_n (by omega) (by omega)]
theorem o_undo {σ : Wd} {a : St} {hs : List St} {tp : List Nat} (hC : CR σ a hs tp) (hM : MR σ a hs tp) (hh : ∀ h ∈ hs, wf h) : ∃ r σ1 σ2, X10_undo σ = some (r, σ1) ∧ X11_undo σ1 = some (r, σ2) ∧ ((Same σ σ2 ∧ MR σ2 a hs tp) ∨ ∃ a' hs', wf a' ∧ (∀ h ∈ hs', h ∈ hs) ∧ CR σ2 a' hs' tp ∧ CN σ2 ∧ MR σ2 a' hs' tp) := by
  obtain ⟨o, h1, h2, h3, h4, h5⟩ := id hC.hist
  have h4' := hM.hist.2.1
  by_cases h0 : hs = []
  · subst h0
    exact ⟨-1, σ, σ, by rw [X10_undo, h3]; rfl, by rw [X11_undo, h4']; rfl, Or.inl ⟨Same.rf σ, hM⟩⟩
  · have hpos : 0 < hs.length := List.length_pos_iff.mpr h0
    obtain ⟨σ1, e1, r1, s1, f1⟩ := hist_pop hC.hist h0 (fun b hb => ⟨(hh b hb).2.2.1.1, (hh b hb).2.2.2.1⟩)
    have hwl : wf (hs.getLast h0) := hh _ (List.getLast_mem h0)
    have ho : OrdR σ1 := fun i hi => by rw [f1 94 (by decide) (by decide)]; exact hC.fam.ord i hi
    obtain ⟨σ2, e2, r2, c2, f2⟩ := refresh_ok ho s1 hwl
    have hH2 : HistR σ2 hs.dropLast := r1.cg (fun q a b => f2 q (by omega))
    have hM2 : MR σ2 a hs tp := hM.hi (fun q hq => by rw [f2 q (by omega), f1 q (by omega) (by omega)])
    obtain ⟨τ, et, mt, rt, ft, gt⟩ := m_undo hM2.hist h0
    have hsame : Same σ2 τ := fun q hq => gt q (by omega) (by omega)
    have hCR : CR σ2 (hs.getLast h0) hs.dropLast tp := ⟨s1.cg (fun q hq => f2 q (by simp only [stP, List.mem_cons, List.not_mem_nil, or_false] at hq; omega)), hH2, hC.tape.cg (by rw [f2 87 (by omega), f1 87 (by omega) (by omega)]) (by rw [f2 88 (by omega), f1 88 (by omega) (by omega)]), r2⟩
    refine ⟨nI (hs.length - 1), σ2, τ, ?_, et, Or.inr ⟨hs.getLast h0, hs.dropLast, hwl, fun h hh' => List.dropLast_subset _ hh', hCR.same hsame, c2.same hsame, ⟨rt, mt, ⟨by rw [ft 23 (by decide)]; exact hM2.2.2.1.1, fun i hi => by rw [gt 138 (by decide) (by decide)]; exact hM2.2.2.1.2 i hi⟩, fun i hi => by rw [gt 139 (by decide) (by decide)]; exact hM2.2.2.2 i hi⟩⟩⟩
    obtain ⟨o', k1, k2, k3, k4, k5⟩ := id hH2
    rw [X10_undo, h3, if_neg (nI_ne0 (by omega) (by omega)), e1, sbind, e2, sbind, k3, List.length_dropLast]
