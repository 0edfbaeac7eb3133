/-! drop, change, weigh, list, strike, undo -/
theorem mrow_gcut {g g' : Nat → Int32} {a : St} {i : Nat} (h : MRow g a) (hi : i < a.2.2.1.length) (h1' : g' 1 = nI (a.2.2.1.length - 1)) (hg : ∀ j, j ≠ 1 → g' j = if 10 + i ≤ j ∧ j < 10 + (a.2.2.1.length - 1) then g (j + 1) else g j) : MRow g' (a.1, a.2.1, a.2.2.1.eraseIdx i, a.2.2.2) := by
  obtain ⟨h0, h1, h2, h3, h4, h5, h6⟩ := h
  have h12 := h0.1
  have hlen : (a.2.2.1.eraseIdx i).length = a.2.2.1.length - 1 := by rw [List.length_eraseIdx, if_pos hi]
  refine ⟨⟨by show (a.2.2.1.eraseIdx i).length ≤ 12; omega, h0.2⟩, ?_, ?_, ?_, fun p hp => ?_, fun k hk => ?_, fun k hk => ?_⟩
  · rw [hg _ (by omega), if_neg (by omega)]; exact h1
  · show g' 1 = nI (a.2.2.1.eraseIdx i).length
    rw [hlen]; exact h1'
  · rw [hg _ (by omega), if_neg (by omega)]; exact h3
  · rw [hg _ (by omega), if_neg (by omega)]; exact h4 p hp
  · have hk' : k < a.2.2.1.length - 1 := by rw [← hlen]; exact hk
    show _ = nI ((a.2.2.1.eraseIdx i).getD k 0)
    rw [hg _ (by omega), getD_eraseIdx]
    by_cases e : k < i
    · rw [if_neg (by omega), if_pos e]; exact h5 k (by omega)
    · rw [if_pos (by omega), if_neg e]; exact h5 (k + 1) (by omega)
  · have : k < a.2.2.2.length := hk
    rw [hg _ (by omega), if_neg (by omega)]; exact h6 k hk
theorem mrow_lcut {g g' : Nat → Int32} {a : St} {i : Nat} (h : MRow g a) (hi : i < a.2.2.2.length) (h1' : g' 2 = nI (a.2.2.2.length - 1)) (hg : ∀ j, j ≠ 2 → g' j = if 22 + i ≤ j ∧ j < 22 + (a.2.2.2.length - 1) then g (j + 1) else g j) : MRow g' (a.1, a.2.1, a.2.2.1, a.2.2.2.eraseIdx i) := by
  obtain ⟨h0, h1, h2, h3, h4, h5, h6⟩ := h
  have h12 := h0.1
  have h20 := h0.2
  have hlen : (a.2.2.2.eraseIdx i).length = a.2.2.2.length - 1 := by rw [List.length_eraseIdx, if_pos hi]
  refine ⟨⟨h0.1, by show (a.2.2.2.eraseIdx i).length ≤ 20; omega⟩, ?_, ?_, ?_, fun p hp => ?_, fun k hk => ?_, fun k hk => ?_⟩
  · rw [hg _ (by omega), if_neg (by omega)]; exact h1
  · rw [hg _ (by omega), if_neg (by omega)]; exact h2
  · show g' 2 = nI (a.2.2.2.eraseIdx i).length
    rw [hlen]; exact h1'
  · rw [hg _ (by omega), if_neg (by omega)]; exact h4 p hp
  · have : k < a.2.2.1.length := hk
    rw [hg _ (by omega), if_neg (by omega)]; exact h5 k hk
  · have hk' : k < a.2.2.2.length - 1 := by rw [← hlen]; exact hk
    show _ = nI ((a.2.2.2.eraseIdx i).getD k 0)
    rw [hg _ (by omega), getD_eraseIdx]
    by_cases e : k < i
    · rw [if_neg (by omega), if_pos e]; exact h6 k (by omega)
    · rw [if_pos (by omega), if_neg e]; exact h6 (k + 1) (by omega)
/-- moving down by one from a place on -/
theorem shift_step {g : Nat → Int32} {f : Nat → Nat → Int32} {o i : Nat} (hf : ∀ k j, f k j = if o + i ≤ j ∧ j < o + i + k then g (j + 1) else g j) (k : Nat) : upd (f k) (o + (i + k)) (f k (o + (i + k) + 1)) = f (k + 1) := by
  funext j
  unfold upd
  rw [hf, hf, hf]
  by_cases e : j = o + (i + k)
  · rw [if_pos e, if_neg (by omega), if_pos (by omega), e]
  · rw [if_neg e]
    by_cases e2 : o + i ≤ j ∧ j < o + i + k
    · rw [if_pos e2, if_pos (by omega)]
    · rw [if_neg e2, if_neg (by omega)]
theorem takes_ok {σ : Wd} {a : St} {i : Nat} (h : MRow (σ 121) a) (hi : i < a.2.2.1.length) : ∃ σ', X11_takesOut σ (nI i) = some σ' ∧ MRow (σ' 121) (a.1, a.2.1, a.2.2.1.eraseIdx i, a.2.2.2) ∧ ∀ q, q ≠ 121 → σ' q = σ q := by
  have h12 := h.1.1
  obtain ⟨f, hf⟩ : ∃ f : Nat → Nat → Int32, ∀ k j, f k j = if 10 + i ≤ j ∧ j < 10 + i + k then σ 121 (j + 1) else σ 121 j := ⟨fun k j => if 10 + i ≤ j ∧ j < 10 + i + k then σ 121 (j + 1) else σ 121 j, fun _ _ => rfl⟩
  have f1 : ∀ k, f k 1 = nI a.2.2.1.length := fun k => by rw [hf, if_neg (by omega)]; exact h.2.2.1
  obtain ⟨N, hN⟩ : ∃ N, N = a.2.2.1.length - 1 - i := ⟨_, rfl⟩
  refine ⟨up (sA σ 121 (f N)) 121 1 (nI (a.2.2.1.length - 1)), ?_, ?_, fun q hq => by rw [up_ne _ _ _ hq, sA_ne _ _ hq]⟩
  · unfold X11_takesOut
    refine lp_tr (fun k => (nI (i + k), sA σ 121 (f k))) N _ ?_ (by omega) (fun k hk rec => ?_) (fun rec => ?_)
    · show (nI i, σ) = (nI (i + 0), sA σ 121 (f 0))
      congr 1
      have : f 0 = σ 121 := by funext j; rw [hf, if_neg (by omega)]
      rw [this, sA_self]
    · show X11_takesOut_B2 rec (nI (i + k), sA σ 121 (f k)) = rec (nI (i + (k + 1)), sA σ 121 (f (k + 1)))
      rw [X11_takesOut_B2, X11_many, sA_at, f1, nI_1, if_neg (by rw [nle (by omega) (by omega)]; omega), show (10 : Int32) = nI 10 from rfl, nI_add, nI_1, ckA_n (by omega) (by omega), ckA_n (by omega) (by omega), ncl (by omega), ncl (by omega), up_sA, shift_step hf k]
      rfl
    · show X11_takesOut_B2 rec (nI (i + N), sA σ 121 (f N)) = _
      rw [X11_takesOut_B2, X11_many, sA_at, f1, nI_1, if_pos (by rw [nle (by omega) (by omega)]; omega)]
      have : nI a.2.2.1.length - 1 = nI (a.2.2.1.length - 1) := nsub (a := a.2.2.1.length) (b := 1) (by omega)
      rw [this]
  · rw [up_at, sA_at]
    refine mrow_gcut h hi (by unfold upd; rw [if_pos rfl]) (fun j hj => ?_)
    unfold upd
    rw [if_neg hj, hf]
    by_cases e : 10 + i ≤ j ∧ j < 10 + i + N
    · rw [if_pos e, if_pos (by omega)]
    · rw [if_neg e, if_neg (by omega)]
theorem strike_lp {σ : Wd} {a : St} {i : Nat} (h : MRow (σ 121) a) (hi : i < a.2.2.2.length) : ∃ σ', lp (X11_strike_B22 X11_strike_T58) FU (nI i, σ) = some (nI (a.2.2.2.length - 1), σ') ∧ MRow (σ' 121) (a.1, a.2.1, a.2.2.1, a.2.2.2.eraseIdx i) ∧ ∀ q, q ≠ 121 → σ' q = σ q := by
  have h12 := h.1.2
  obtain ⟨f, hf⟩ : ∃ f : Nat → Nat → Int32, ∀ k j, f k j = if 22 + i ≤ j ∧ j < 22 + i + k then σ 121 (j + 1) else σ 121 j := ⟨fun k j => if 22 + i ≤ j ∧ j < 22 + i + k then σ 121 (j + 1) else σ 121 j, fun _ _ => rfl⟩
  have f1 : ∀ k, f k 2 = nI a.2.2.2.length := fun k => by rw [hf, if_neg (by omega)]; exact h.2.2.2.1
  obtain ⟨N, hN⟩ : ∃ N, N = a.2.2.2.length - 1 - i := ⟨_, rfl⟩
  refine ⟨up (sA σ 121 (f N)) 121 2 (nI (a.2.2.2.length - 1)), ?_, ?_, fun q hq => by rw [up_ne _ _ _ hq, sA_ne _ _ hq]⟩
  · refine lp_tr (fun k => (nI (i + k), sA σ 121 (f k))) N _ ?_ (by omega) (fun k hk rec => ?_) (fun rec => ?_)
    · show (nI i, σ) = (nI (i + 0), sA σ 121 (f 0))
      congr 1
      have : f 0 = σ 121 := by funext j; rw [hf, if_neg (by omega)]
      rw [this, sA_self]
    · show X11_strike_B22 X11_strike_T58 rec (nI (i + k), sA σ 121 (f k)) = rec (nI (i + (k + 1)), sA σ 121 (f (k + 1)))
      rw [X11_strike_B22, X11_listMany, sA_at, f1, nI_1, if_neg (by rw [nle (by omega) (by omega)]; omega), show (22 : Int32) = nI 22 from rfl, nI_add, nI_1, ckA_n (by omega) (by omega), ckA_n (by omega) (by omega), ncl (by omega), ncl (by omega), up_sA, shift_step hf k]
      rfl
    · show X11_strike_B22 X11_strike_T58 rec (nI (i + N), sA σ 121 (f N)) = _
      have hsub : nI a.2.2.2.length - 1 = nI (a.2.2.2.length - 1) := nsub (a := a.2.2.2.length) (b := 1) (by omega)
      rw [X11_strike_B22, X11_listMany, sA_at, f1, nI_1, if_pos (by rw [nle (by omega) (by omega)]; omega), X11_strike_T58, sA_at, f1, hsub, X11_listMany, up_at]
      rfl
  · rw [up_at, sA_at]
    refine mrow_lcut h hi (by unfold upd; rw [if_pos rfl]) (fun j hj => ?_)
    unfold upd
    rw [if_neg hj, hf]
    by_cases e : 22 + i ≤ j ∧ j < 22 + i + N
    · rw [if_pos e, if_pos (by omega)]
    · rw [if_neg e, if_neg (by omega)]
theorem wf_gcut {a : St} {i : Nat} (h : wf a) : wf (a.1, a.2.1, a.2.2.1.eraseIdx i, a.2.2.2) := by
  have hsub := List.eraseIdx_sublist a.2.2.1 i
  exact ⟨h.1, h.2.1, ⟨Nat.le_trans hsub.length_le h.2.2.1.1, fun g hg => h.2.2.1.2.1 g (hsub.subset hg), List.Pairwise.sublist hsub h.2.2.1.2.2⟩, h.2.2.2⟩
theorem wf_lcut {a : St} {i : Nat} (h : wf a) : wf (a.1, a.2.1, a.2.2.1, a.2.2.2.eraseIdx i) := by
  have hsub := List.eraseIdx_sublist a.2.2.2 i
  exact ⟨h.1, h.2.1, h.2.2.1, ⟨Nat.le_trans hsub.length_le h.2.2.2.1, fun g hg => h.2.2.2.2.1 g (hsub.subset hg), List.Pairwise.sublist hsub h.2.2.2.2.2⟩⟩
theorem o_drop {σ : Wd} {a : St} {hs : List St} {tp : List Nat} (hC : CR σ a hs tp) (hM : MR σ a hs tp) (hw : wf a) (x : Int32) : ∃ r σ1 σ2, X10_drop σ x = some (r, σ1) ∧ X11_drop σ1 x = some (r, σ2) ∧ AO σ σ2 a hs tp := by
  have h12 := hw.2.2.1.1
  have hno : (x < 0 ∨ nI a.2.2.1.length ≤ x) → ∃ r σ1 σ2, X10_drop σ x = some (r, σ1) ∧ X11_drop σ1 x = some (r, σ2) ∧ AO σ σ2 a hs tp := fun hx =>
    ⟨0, σ, σ, by rw [X10_drop, X10_isGenerator, c_ixN hC.st.1.1 hx]; rfl, by rw [X11_drop, X11_isGenerator, X11_many, hM.row.2.2.1, in_no (by omega) hx]; rfl, AO.no hM⟩
  rcases pk_ix x (n := a.2.2.1.length) (by omega) with hx | hx | ⟨i, hi, rfl⟩
  · exact hno (Or.inl hx)
  · exact hno (Or.inr hx)
  · obtain ⟨σ6, e6, c6, s6, f6⟩ := c_begin hC hw
    obtain ⟨σ7, e7, r7, f7⟩ := row_cutOut s6.1 (show a.2.2.1.length ≤ kLn (7 + 1 + 1) from h12) (by decide) hi
    have hw' := wf_gcut (i := i) hw
    obtain ⟨σ8, e8, c8, n8, f8⟩ := act_g c6 hw s6 r7 f7 hw'
    have hM8 : MR σ8 a hs tp := hM.hi (fun q hq => by rw [f8 q (by omega), f6 q (by omega)])
    obtain ⟨τ, et, mt, ft, gt⟩ := mk_keep hM8
    obtain ⟨τ', et', mt', ft'⟩ := takes_ok mt.row hi
    refine ⟨1, σ8, τ', ?_, ?_, ao_do hw' c8 n8 (fun q hq => by rw [ft' q (by omega), gt q (by omega) (by omega)]) (mk_put mt mt' ft')⟩
    · rw [X10_drop, X10_isGenerator, c_ix hC.st.1.1 (by omega) hi, if_neg (by decide), e6, sbind, show (8 : Nat) = 7 + 1 from rfl, e7, sbind, e8, sbind]
    · rw [X11_drop, X11_isGenerator, X11_many, hM8.row.2.2.1, in_in (by omega) hi, if_neg (by decide), et, sbind, et', sbind]
theorem o_strike {σ : Wd} {a : St} {hs : List St} {tp : List Nat} (hC : CR σ a hs tp) (hM : MR σ a hs tp) (hw : wf a) (x : Int32) : ∃ r σ1 σ2, X10_strike σ x = some (r, σ1) ∧ X11_strike σ1 x = some (r, σ2) ∧ AO σ σ2 a hs tp := by
  have h12 := hw.2.2.2.1
  have hlt : ∀ y : Int32, ¬ y < 0 → nI a.2.2.2.length ≤ y → ¬ y < nI a.2.2.2.length := fun y _ h h' => by
    rw [Int32.lt_iff_toInt_lt] at h'
    rw [Int32.le_iff_toInt_le] at h
    omega
  have hno : (x < 0 ∨ nI a.2.2.2.length ≤ x) → ∃ r σ1 σ2, X10_strike σ x = some (r, σ1) ∧ X11_strike σ1 x = some (r, σ2) ∧ AO σ σ2 a hs tp := fun hx => by
    refine ⟨-1, σ, σ, ?_, by rw [X11_strike, X11_listMany, hM.row.2.2.2.1, in_no (by omega) hx]; rfl, AO.no hM⟩
    rw [X10_strike]
    by_cases h0 : x < 0
    · rw [if_pos h0]
    · rw [if_neg h0, hC.st.2.1.1, if_neg]
      rcases hx with h | h
      · exact absurd h h0
      · exact hlt x h0 h
  rcases pk_ix x (n := a.2.2.2.length) (by omega) with hx | hx | ⟨i, hi, rfl⟩
  · exact hno (Or.inl hx)
  · exact hno (Or.inr hx)
  · obtain ⟨σ6, e6, c6, s6, f6⟩ := c_begin hC hw
    obtain ⟨σ7, e7, r7, f7⟩ := row_cutOut s6.2.1 (show a.2.2.2.length ≤ kLn (7 + 3 + 1) from h12) (by decide) hi
    have hw' := wf_lcut (i := i) hw
    obtain ⟨σ8, e8, c8, n8, f8⟩ := act_l c6 hw s6 r7 f7 hw'
    have hM8 : MR σ8 a hs tp := hM.hi (fun q hq => by rw [f8 q (by omega), f6 q (by omega)])
    obtain ⟨τ, et, mt, ft, gt⟩ := mk_keep hM8
    obtain ⟨τ', et', mt', ft'⟩ := strike_lp mt.row hi
    have hlen : (a.2.2.2.eraseIdx i).length = a.2.2.2.length - 1 := by rw [List.length_eraseIdx, if_pos hi]
    refine ⟨nI (a.2.2.2.length - 1), σ8, τ', ?_, ?_, ao_do hw' c8 n8 (fun q hq => by rw [ft' q (by omega), gt q (by omega) (by omega)]) (mk_put mt mt' ft')⟩
    · rw [X10_strike, if_neg (nneg (by omega)), hC.st.2.1.1, if_pos (by rw [nlt (by omega) (by omega)]; exact hi), e6, sbind, show (10 : Nat) = 7 + 3 from rfl, e7, sbind, e8, sbind, c8.st.2.1.1]
      show some (nI (a.2.2.2.eraseIdx i).length, σ8) = _
      rw [hlen]
    · rw [X11_strike, X11_listMany, hM8.row.2.2.2.1, in_in (by omega) hi, if_neg (by decide), et, sbind, et']
theorem o_list {σ : Wd} {a : St} {hs : List St} {tp : List Nat} (hC : CR σ a hs tp) (hM : MR σ a hs tp) (hw : wf a) (x : Int32) : ∃ r σ1 σ2, X10_list σ x = some (r, σ1) ∧ X11_list σ1 x = some (r, σ2) ∧ AO σ σ2 a hs tp := by
  have h2 := p2_le hw.1.2
  have h12 := hw.2.2.2.1
  have hmany : X11_listMany σ = nI a.2.2.2.length := hM.row.2.2.2.1
  rcases pk_ix x (n := 2 ^ a.1) (by omega) with hx | hx | ⟨t, ht, rfl⟩
  · exact ⟨-1, σ, σ, by rw [X10_list, c_fsetN hC.st hw (Or.inl hx)]; rfl, by rw [X11_list, m_setN hM.row hw (Or.inl hx)]; rfl, AO.no hM⟩
  · exact ⟨-1, σ, σ, by rw [X10_list, c_fsetN hC.st hw (Or.inr hx)]; rfl, by rw [X11_list, m_setN hM.row hw (Or.inr hx)]; rfl, AO.no hM⟩
  · by_cases h0 : t = 0
    · subst h0
      exact ⟨-1, σ, σ, by rw [X10_list, c_fset0]; rfl, by rw [X11_list, m_set hM.row hw ht, if_neg (by decide), if_pos nI_0], AO.no hM⟩
    obtain ⟨v, ev, hv⟩ := c_findL hC.st hw (t := t) (by omega)
    have hc0 : X10_list σ (nI t) = (X4_find σ 4 (nI t)).bind fun t3 => (if t3 = (-1) then (if (σ 4 1) < 20 then ((X7_copy σ 7 1).bind fun σ6 => ((X4_append σ6 10 (nI t)).bind fun σ7 => ((X10_settle σ7).bind fun σ8 => some (σ8 4 1, σ8)))) else some ((-1), σ)) else some ((-1), σ)) := by
      rw [X10_list, c_fset hC.st hw ht h0]; rfl
    rw [ev, sbind] at hc0
    have hm0 : ∀ τ, MR τ a hs tp → X11_list τ (nI t) = if t ∈ a.2.2.2 then some (-1, τ) else (if (X11_listMany τ) = 20 then some ((-1), τ) else ((X11_keeps τ).bind fun σ8 => (ckA (22 + (X11_listMany σ8)) 42 <| some (X11_listMany (up (up σ8 121 ((22 + (X11_listMany σ8)).toNatClampNeg) (nI t)) 121 2 (((up σ8 121 ((22 + (X11_listMany σ8)).toNatClampNeg) (nI t)) 121 2) + 1)), up (up σ8 121 ((22 + (X11_listMany σ8)).toNatClampNeg) (nI t)) 121 2 (((up σ8 121 ((22 + (X11_listMany σ8)).toNatClampNeg) (nI t)) 121 2) + 1))))) := by
      intro τ hτ
      rw [X11_list, m_set hτ.row hw ht, if_neg (by decide), if_neg (nI_ne0 (by omega) (by omega)), listed_ok hτ.row hw (by omega), sbind]
      by_cases e : t ∈ a.2.2.2
      · rw [if_pos e, if_pos e]; rfl
      · rw [if_neg e, if_neg e]; rfl
    by_cases e : t ∈ a.2.2.2
    · exact ⟨-1, σ, σ, by rw [hc0, if_neg (fun h => (hv.mp h) e)], by rw [hm0 σ hM, if_pos e], AO.no hM⟩
    by_cases el : a.2.2.2.length = 20
    · exact ⟨-1, σ, σ, by rw [hc0, if_pos (hv.mpr e), hC.st.2.1.1, if_neg (by rw [show (20 : Int32) = nI 20 from rfl, nlt (by omega) (by omega)]; omega)], by rw [hm0 σ hM, if_neg e, hmany, el]; rfl, AO.no hM⟩
    obtain ⟨σ6, e6, c6, s6, f6⟩ := c_begin hC hw
    obtain ⟨σ7, e7, r7, f7⟩ := row_append s6.2.1 (show a.2.2.2.length < kLn (7 + 3 + 1) by rw [show kLn (7 + 3 + 1) = 20 from rfl]; omega) (by decide) t
    have hw' := wf_lapp hw h0 ht e (by omega)
    obtain ⟨σ8, e8, c8, n8, f8⟩ := act_l c6 hw s6 r7 f7 hw'
    have hM8 : MR σ8 a hs tp := hM.hi (fun q hq => by rw [f8 q (by omega), f6 q (by omega)])
    obtain ⟨τ, et, mt, ft, gt⟩ := mk_keep hM8
    have hmt : X11_listMany τ = nI a.2.2.2.length := mt.row.2.2.2.1
    refine ⟨nI (a.2.2.2.length + 1), σ8, up (up τ 121 (22 + a.2.2.2.length) (nI t)) 121 2 (nI (a.2.2.2.length + 1)), ?_, ?_, ao_do hw' c8 n8 (fun q hq => ?_) (mk_put mt ?_ (fun q hq => ?_))⟩
    · rw [hc0, if_pos (hv.mpr e), hC.st.2.1.1, if_pos (by rw [show (20 : Int32) = nI 20 from rfl, nlt (by omega) (by omega)]; omega), e6, sbind]
      rw [show (10 : Nat) = 7 + 3 from rfl, e7, sbind, e8, sbind, c8.st.2.1.1]
      show some (nI (a.2.2.2 ++ [t]).length, σ8) = _
      rw [List.length_append, List.length_singleton]
    · have hone : X11_listMany σ8 = nI a.2.2.2.length := hM8.row.2.2.2.1
      rw [hm0 σ8 hM8, if_neg e, hone, if_neg (by rw [show (20 : Int32) = nI 20 from rfl, neq (by omega) (by omega)]; exact el), et, sbind, hmt, show (22 : Int32) = nI 22 from rfl, nI_add, ckA_n (by omega) (by omega), ncl (by omega)]
      have e1 : up τ 121 (22 + a.2.2.2.length) (nI t) 121 2 = nI a.2.2.2.length := by
        rw [up_at]; unfold upd; rw [if_neg (by omega)]; exact mt.row.2.2.2.1
      rw [e1, nI_1]
      have e2 : X11_listMany (up (up τ 121 (22 + a.2.2.2.length) (nI t)) 121 2 (nI (a.2.2.2.length + 1))) = nI (a.2.2.2.length + 1) := by
        unfold X11_listMany
        rw [up_at]; unfold upd; rw [if_pos rfl]
      rw [e2]
    · rw [up_ne _ _ _ (by omega), up_ne _ _ _ (by omega), gt q (by omega) (by omega)]
    · rw [up_at, up_at]; exact mrow_lapp mt.row (by omega)
    · rw [up_ne _ _ _ hq, up_ne _ _ _ hq]
