/-! acts: the class prepares, then settles -/
theorem c_begin {σ : Wd} {a : St} {hs : List St} {tp : List Nat} (h : CR σ a hs tp) (hw : wf a) : ∃ σ1, X7_copy σ 7 1 = some σ1 ∧ CR σ1 a hs tp ∧ StR σ1 7 a ∧ ∀ q, (q < 7 ∨ 12 < q) → σ1 q = σ q := by
  obtain ⟨σ1, e1, r1, f1⟩ := st_copy (r := 7) (q := 1) rfl rfl h.st hw.2.2.1.1 hw.2.2.2.1 (by decide)
  have g : ∀ q, (q < 7 ∨ 12 < q) → σ1 q = σ q := fun q hq => f1 q (by simp only [stP, List.mem_cons, List.not_mem_nil, or_false]; omega)
  exact ⟨σ1, e1, h.cg (fun q hq => g q (by omega)), r1, g⟩
theorem act_g {σ τ : Wd} {a : St} {hs : List St} {tp gs : List Nat} (h : CR σ a hs tp) (hw : wf a) (h7 : StR σ 7 a) (hr : RowR τ 8 gs) (hf : Fr σ τ [8, 9]) (hw' : wf (a.1, a.2.1, gs, a.2.2.2)) : ∃ σ', X10_settle τ = some σ' ∧ CR σ' (a.1, a.2.1, gs, a.2.2.2) (pushH hs a) tp ∧ CN σ' ∧ ∀ q, 108 ≤ q → σ' q = σ q := by
  have g : ∀ q, q ≠ 8 → q ≠ 9 → τ q = σ q := fun q h1 h2 => hf q (by simp [h1, h2])
  have h7' : StR τ 7 (a.1, a.2.1, gs, a.2.2.2) := ⟨hr, h7.2.1.cg (g 10 (by decide) (by decide)) (g 11 (by decide) (by decide)), fun p hp => by rw [g 12 (by decide) (by decide)]; exact h7.2.2.1 p hp, by rw [g 7 (by decide) (by decide)]; exact h7.2.2.2⟩
  obtain ⟨σ', e, r, c, f⟩ := settle_ok (h.cg (σ' := τ) (fun q hq => g q (by omega) (by omega))) hw h7' hw'
  exact ⟨σ', e, r, c, fun q hq => by rw [f q hq]; exact g q (by omega) (by omega)⟩
theorem act_l {σ τ : Wd} {a : St} {hs : List St} {tp ls : List Nat} (h : CR σ a hs tp) (hw : wf a) (h7 : StR σ 7 a) (hr : RowR τ 10 ls) (hf : Fr σ τ [10, 11]) (hw' : wf (a.1, a.2.1, a.2.2.1, ls)) : ∃ σ', X10_settle τ = some σ' ∧ CR σ' (a.1, a.2.1, a.2.2.1, ls) (pushH hs a) tp ∧ CN σ' ∧ ∀ q, 108 ≤ q → σ' q = σ q := by
  have g : ∀ q, q ≠ 10 → q ≠ 11 → τ q = σ q := fun q h1 h2 => hf q (by simp [h1, h2])
  have h7' : StR τ 7 (a.1, a.2.1, a.2.2.1, ls) := ⟨h7.1.cg (g 8 (by decide) (by decide)) (g 9 (by decide) (by decide)), hr, fun p hp => by rw [g 12 (by decide) (by decide)]; exact h7.2.2.1 p hp, by rw [g 7 (by decide) (by decide)]; exact h7.2.2.2⟩
  obtain ⟨σ', e, r, c, f⟩ := settle_ok (h.cg (σ' := τ) (fun q hq => g q (by omega) (by omega))) hw h7' hw'
  exact ⟨σ', e, r, c, fun q hq => by rw [f q hq]; exact g q (by omega) (by omega)⟩
/-! the reference keeps, then writes -/
theorem mk_keep {σ : Wd} {a : St} {hs : List St} {tp : List Nat} (h : MR σ a hs tp) : ∃ σ', X11_keeps σ = some σ' ∧ MR σ' a (pushH hs a) tp ∧ (∀ j, j ≠ 4 → σ' 120 j = σ 120 j) ∧ ∀ q, q ≠ 120 → q ≠ 123 → σ' q = σ q := by
  obtain ⟨σ', e, r, f, g⟩ := m_keeps h.row h.hist
  exact ⟨σ', e, ⟨by rw [g 121 (by decide) (by decide)]; exact h.1, r, ⟨by rw [f 23 (by decide)]; exact h.2.2.1.1, fun i hi => by rw [g 138 (by decide) (by decide)]; exact h.2.2.1.2 i hi⟩, fun i hi => by rw [g 139 (by decide) (by decide)]; exact h.2.2.2 i hi⟩, f, g⟩
theorem mk_put {σ τ : Wd} {a a' : St} {hs : List St} {tp : List Nat} (h : MR σ a hs tp) (hr : MRow (τ 121) a') (hf : ∀ q, q ≠ 121 → τ q = σ q) : MR τ a' hs tp :=
  ⟨hr, h.2.1.cg (by rw [hf 120 (by decide)]) (hf 123 (by decide)), ⟨by rw [hf 120 (by decide)]; exact h.2.2.1.1, fun i hi => by rw [hf 138 (by decide)]; exact h.2.2.1.2 i hi⟩, fun i hi => by rw [hf 139 (by decide)]; exact h.2.2.2 i hi⟩
theorem ao_do {σ σ1 σ2 : Wd} {a a' : St} {hs : List St} {tp : List Nat} (hw : wf a') (hc : CR σ1 a' (pushH hs a) tp) (hn : CN σ1) (hs2 : Same σ1 σ2) (hm : MR σ2 a' (pushH hs a) tp) : AO σ σ2 a hs tp := Or.inr ⟨a', hw, hc.same hs2, hn.same hs2, hm⟩
theorem getD_app (xs : List Nat) (x i : Nat) (hi : i < xs.length + 1) : (xs ++ [x]).getD i 0 = if i = xs.length then x else xs.getD i 0 := by
  by_cases e : i = xs.length
  · subst e; simp
  · rw [if_neg e]; simp [List.getElem?_append, show i < xs.length by omega]
theorem mrow_gapp {g : Nat → Int32} {a : St} {x : Nat} (h : MRow g a) (hl : a.2.2.1.length < 12) : MRow (upd (upd g (10 + a.2.2.1.length) (nI x)) 1 (nI (a.2.2.1.length + 1))) (a.1, a.2.1, a.2.2.1 ++ [x], a.2.2.2) := by
  obtain ⟨h0, h1, h2, h3, h4, h5, h6⟩ := h
  have ev : ∀ j, upd (upd g (10 + a.2.2.1.length) (nI x)) 1 (nI (a.2.2.1.length + 1)) j = if j = 1 then nI (a.2.2.1.length + 1) else if j = 10 + a.2.2.1.length then nI x else g j := fun j => rfl
  refine ⟨⟨by simp; omega, h0.2⟩, ?_, ?_, ?_, fun p hp => ?_, fun i hi => ?_, fun i hi => ?_⟩
  · rw [ev, if_neg (by omega), if_neg (by omega)]; exact h1
  · rw [ev, if_pos rfl]; simp
  · rw [ev, if_neg (by omega), if_neg (by omega)]; exact h3
  · rw [ev, if_neg (by omega), if_neg (by omega)]; exact h4 p hp
  · simp only [List.length_append, List.length_singleton] at hi
    rw [ev, if_neg (by omega)]
    show _ = nI ((a.2.2.1 ++ [x]).getD i 0)
    rw [getD_app _ _ _ hi]
    by_cases e : i = a.2.2.1.length
    · rw [if_pos (by omega), if_pos e]
    · rw [if_neg (by omega), if_neg e]; exact h5 i (by omega)
  · have : i < a.2.2.2.length := hi
    rw [ev, if_neg (by omega), if_neg (by omega)]; exact h6 i hi
theorem mrow_lapp {g : Nat → Int32} {a : St} {x : Nat} (h : MRow g a) (hl : a.2.2.2.length < 20) : MRow (upd (upd g (22 + a.2.2.2.length) (nI x)) 2 (nI (a.2.2.2.length + 1))) (a.1, a.2.1, a.2.2.1, a.2.2.2 ++ [x]) := by
  obtain ⟨h0, h1, h2, h3, h4, h5, h6⟩ := h
  have h12 := h0.1
  have ev : ∀ j, upd (upd g (22 + a.2.2.2.length) (nI x)) 2 (nI (a.2.2.2.length + 1)) j = if j = 2 then nI (a.2.2.2.length + 1) else if j = 22 + a.2.2.2.length then nI x else g j := fun j => rfl
  refine ⟨⟨h0.1, by simp; omega⟩, ?_, ?_, ?_, fun p hp => ?_, fun i hi => ?_, fun i hi => ?_⟩
  · rw [ev, if_neg (by omega), if_neg (by omega)]; exact h1
  · rw [ev, if_neg (by omega), if_neg (by omega)]; exact h2
  · rw [ev, if_pos rfl]; simp
  · rw [ev, if_neg (by omega), if_neg (by omega)]; exact h4 p hp
  · have : i < a.2.2.1.length := hi
    rw [ev, if_neg (by omega), if_neg (by omega)]; exact h5 i hi
  · simp only [List.length_append, List.length_singleton] at hi
    rw [ev, if_neg (by omega)]
    show _ = nI ((a.2.2.2 ++ [x]).getD i 0)
    rw [getD_app _ _ _ hi]
    by_cases e : i = a.2.2.2.length
    · rw [if_pos (by omega), if_pos e]
    · rw [if_neg (by omega), if_neg e]; exact h6 i (by omega)
theorem getD_set (xs : List Nat) (i x j : Nat) (hi : i < xs.length) : (xs.set i x).getD j 0 = if j = i then x else xs.getD j 0 := by
  by_cases e : j = i
  · subst e; rw [if_pos rfl]; simp [hi]
  · rw [if_neg e]; simp [List.getElem?_set, Ne.symm e]
theorem mrow_gset {g : Nat → Int32} {a : St} {x i : Nat} (h : MRow g a) (hi : i < a.2.2.1.length) : MRow (upd g (10 + i) (nI x)) (a.1, a.2.1, a.2.2.1.set i x, a.2.2.2) := by
  obtain ⟨h0, h1, h2, h3, h4, h5, h6⟩ := h
  have h12 := h0.1
  have ev : ∀ j, upd g (10 + i) (nI x) j = if j = 10 + i then nI x else g j := fun j => rfl
  refine ⟨⟨by simpa using h0.1, h0.2⟩, ?_, ?_, ?_, fun p hp => ?_, fun k hk => ?_, fun k hk => ?_⟩
  · rw [ev, if_neg (by omega)]; exact h1
  · rw [ev, if_neg (by omega)]; simpa using h2
  · rw [ev, if_neg (by omega)]; exact h3
  · rw [ev, if_neg (by omega)]; exact h4 p hp
  · simp only [List.length_set] at hk
    rw [ev]
    show _ = nI ((a.2.2.1.set i x).getD k 0)
    rw [getD_set _ _ _ _ hi]
    by_cases e : k = i
    · rw [if_pos (by omega), if_pos e]
    · rw [if_neg (by omega), if_neg e]; exact h5 k hk
  · rw [ev, if_neg (by omega)]; exact h6 k hk
theorem mrow_wset {g : Nat → Int32} {a : St} {x p : Nat} (h : MRow g a) (hp : p < 7) (hw : a.2.1.length = 7) : MRow (upd g (3 + p) (nI x)) (a.1, a.2.1.set p x, a.2.2.1, a.2.2.2) := by
  obtain ⟨h0, h1, h2, h3, h4, h5, h6⟩ := h
  have ev : ∀ j, upd g (3 + p) (nI x) j = if j = 3 + p then nI x else g j := fun j => rfl
  refine ⟨h0, ?_, ?_, ?_, fun k hk => ?_, fun k hk => ?_, fun k hk => ?_⟩
  · rw [ev, if_neg (by omega)]; exact h1
  · rw [ev, if_neg (by omega)]; exact h2
  · rw [ev, if_neg (by omega)]; exact h3
  · rw [ev]
    show _ = nI ((a.2.1.set p x).getD k 0)
    rw [getD_set _ _ _ _ (by omega)]
    by_cases e : k = p
    · rw [if_pos (by omega), if_pos e]
    · rw [if_neg (by omega), if_neg e]; exact h4 k hk
  · rw [ev, if_neg (by omega)]; exact h5 k hk
  · rw [ev, if_neg (by omega)]; exact h6 k hk
theorem wf_gapp {a : St} {t : Nat} (h : wf a) (h0 : t ≠ 0) (ht : t < 2 ^ a.1) (hn : t ∉ a.2.2.1) (hl : a.2.2.1.length < 12) : wf (a.1, a.2.1, a.2.2.1 ++ [t], a.2.2.2) := by
  refine ⟨h.1, h.2.1, ⟨by simp; omega, fun g hg => ?_, ?_⟩, h.2.2.2⟩
  · rcases List.mem_append.mp hg with h' | h'
    · exact h.2.2.1.2.1 g h'
    · simp at h'; subst h'; exact ⟨by omega, ht⟩
  · show (a.2.2.1 ++ [t]).Nodup
    rw [List.nodup_append]
    exact ⟨h.2.2.1.2.2, by simp, fun x hx y hy e => by simp at hy; subst hy; exact hn (e ▸ hx)⟩
theorem wf_lapp {a : St} {t : Nat} (h : wf a) (h0 : t ≠ 0) (ht : t < 2 ^ a.1) (hn : t ∉ a.2.2.2) (hl : a.2.2.2.length < 20) : wf (a.1, a.2.1, a.2.2.1, a.2.2.2 ++ [t]) := by
  refine ⟨h.1, h.2.1, h.2.2.1, ⟨by simp; omega, fun g hg => ?_, ?_⟩⟩
  · rcases List.mem_append.mp hg with h' | h'
    · exact h.2.2.2.2.1 g h'
    · simp at h'; subst h'; exact ⟨by omega, ht⟩
  · show (a.2.2.2 ++ [t]).Nodup
    rw [List.nodup_append]
    exact ⟨h.2.2.2.2.2, by simp, fun x hx y hy e => by simp at hy; subst hy; exact hn (e ▸ hx)⟩
theorem c_findG {σ : Wd} {a : St} (h : StR σ 1 a) (hw : wf a) {t : Nat} (ht : t < 128) : ∃ v, X4_find σ 2 (nI t) = some v ∧ (v = -1 ↔ t ∉ a.2.2.1) :=
  row_find h.1 (by rw [show kLn (1 + 1 + 1) = 12 from rfl]; exact hw.2.2.1.1) (by decide) (fun x hx => Nat.lt_trans (wf_lt hw x hx) (by decide)) (by omega)
theorem c_findL {σ : Wd} {a : St} (h : StR σ 1 a) (hw : wf a) {t : Nat} (ht : t < 128) : ∃ v, X4_find σ 4 (nI t) = some v ∧ (v = -1 ↔ t ∉ a.2.2.2) :=
  row_find h.2.1 (by rw [show kLn (1 + 3 + 1) = 20 from rfl]; exact hw.2.2.2.1) (by decide) (fun x hx => Nat.lt_trans (wf_lt' hw x hx) (by decide)) (by omega)
theorem o_generate {σ : Wd} {a : St} {hs : List St} {tp : List Nat} (hC : CR σ a hs tp) (hM : MR σ a hs tp) (hw : wf a) (x : Int32) : ∃ r σ1 σ2, X10_generate σ x = some (r, σ1) ∧ X11_generate σ1 x = some (r, σ2) ∧ AO σ σ2 a hs tp := by
  have h2 := p2_le hw.1.2
  have h12 := hw.2.2.1.1
  have hmany : X11_many σ = nI a.2.2.1.length := hM.row.2.2.1
  rcases pk_ix x (n := 2 ^ a.1) (by omega) with hx | hx | ⟨t, ht, rfl⟩
  · exact ⟨-1, σ, σ, by rw [X10_generate, c_fsetN hC.st hw (Or.inl hx)]; rfl, by rw [X11_generate, m_setN hM.row hw (Or.inl hx)]; rfl, AO.no hM⟩
  · exact ⟨-1, σ, σ, by rw [X10_generate, c_fsetN hC.st hw (Or.inr hx)]; rfl, by rw [X11_generate, m_setN hM.row hw (Or.inr hx)]; rfl, AO.no hM⟩
  · by_cases h0 : t = 0
    · subst h0
      exact ⟨-1, σ, σ, by rw [X10_generate, c_fset0]; rfl, by rw [X11_generate, m_set hM.row hw ht, if_neg (by decide), if_pos nI_0], AO.no hM⟩
    obtain ⟨v, ev, hv⟩ := c_findG hC.st hw (t := t) (by omega)
    have hc0 : X10_generate σ (nI t) = (X4_find σ 2 (nI t)).bind fun t3 => (if t3 = (-1) then (if (σ 2 1) < 12 then ((X7_copy σ 7 1).bind fun σ6 => ((X4_append σ6 8 (nI t)).bind fun σ7 => ((X10_settle σ7).bind fun σ8 => some ((σ8 2 1) - 1, σ8)))) else some ((-1), σ)) else some ((-1), σ)) := by
      rw [X10_generate, c_fset hC.st hw ht h0]; rfl
    rw [ev, sbind] at hc0
    have hm0 : ∀ τ, MR τ a hs tp → X11_generate τ (nI t) = if t ∈ a.2.2.1 then some (-1, τ) else (if (X11_many τ) = 12 then some ((-1), τ) else ((X11_keeps τ).bind fun σ8 => (ckA (10 + (X11_many σ8)) 42 <| some ((X11_many (up (up σ8 121 ((10 + (X11_many σ8)).toNatClampNeg) (nI t)) 121 1 (((up σ8 121 ((10 + (X11_many σ8)).toNatClampNeg) (nI t)) 121 1) + 1))) - 1, up (up σ8 121 ((10 + (X11_many σ8)).toNatClampNeg) (nI t)) 121 1 (((up σ8 121 ((10 + (X11_many σ8)).toNatClampNeg) (nI t)) 121 1) + 1))))) := by
      intro τ hτ
      rw [X11_generate, m_set hτ.row hw ht, if_neg (by decide), if_neg (nI_ne0 (by omega) (by omega)), told_ok hτ.row hw (by omega), sbind]
      by_cases e : t ∈ a.2.2.1
      · rw [if_pos e, if_pos e]; rfl
      · rw [if_neg e, if_neg e]; rfl
    by_cases e : t ∈ a.2.2.1
    · exact ⟨-1, σ, σ, by rw [hc0, if_neg (fun h => (hv.mp h) e)], by rw [hm0 σ hM, if_pos e], AO.no hM⟩
    by_cases el : a.2.2.1.length = 12
    · exact ⟨-1, σ, σ, by rw [hc0, if_pos (hv.mpr e), hC.st.1.1, if_neg (by rw [show (12 : Int32) = nI 12 from rfl, nlt (by omega) (by omega)]; omega)], by rw [hm0 σ hM, if_neg e, hmany, el]; rfl, AO.no hM⟩
    obtain ⟨σ6, e6, c6, s6, f6⟩ := c_begin hC hw
    obtain ⟨σ7, e7, r7, f7⟩ := row_append s6.1 (show a.2.2.1.length < kLn (7 + 1 + 1) by rw [show kLn (7 + 1 + 1) = 12 from rfl]; omega) (by decide) t
    have hw' := wf_gapp hw h0 ht e (by omega)
    obtain ⟨σ8, e8, c8, n8, f8⟩ := act_g c6 hw s6 r7 f7 hw'
    have hM8 : MR σ8 a hs tp := hM.hi (fun q hq => by rw [f8 q (by omega), f6 q (by omega)])
    obtain ⟨τ, et, mt, ft, gt⟩ := mk_keep hM8
    have hmt : X11_many τ = nI a.2.2.1.length := mt.row.2.2.1
    refine ⟨nI a.2.2.1.length, σ8, up (up τ 121 (10 + a.2.2.1.length) (nI t)) 121 1 (nI (a.2.2.1.length + 1)), ?_, ?_, ao_do hw' c8 n8 (fun q hq => ?_) (mk_put mt ?_ (fun q hq => ?_))⟩
    · rw [hc0, if_pos (hv.mpr e), hC.st.1.1, if_pos (by rw [show (12 : Int32) = nI 12 from rfl, nlt (by omega) (by omega)]; omega), e6, sbind]
      rw [show (8 : Nat) = 7 + 1 from rfl, e7, sbind, e8, sbind, c8.st.1.1]
      have : nI (a.2.2.1 ++ [t]).length - 1 = nI a.2.2.1.length := by
        rw [List.length_append, List.length_singleton]
        exact nsub (a := a.2.2.1.length + 1) (b := 1) (by omega)
      rw [this]
    · have hone : X11_many σ8 = nI a.2.2.1.length := hM8.row.2.2.1
      rw [hm0 σ8 hM8, if_neg e, hone, if_neg (by rw [show (12 : Int32) = nI 12 from rfl, neq (by omega) (by omega)]; exact el), et, sbind, hmt, show (10 : Int32) = nI 10 from rfl, nI_add, ckA_n (by omega) (by omega), ncl (by omega)]
      have e1 : up τ 121 (10 + a.2.2.1.length) (nI t) 121 1 = nI a.2.2.1.length := by
        rw [up_at]; unfold upd; rw [if_neg (by omega)]; exact mt.row.2.2.1
      rw [e1, nI_1]
      have e2 : X11_many (up (up τ 121 (10 + a.2.2.1.length) (nI t)) 121 1 (nI (a.2.2.1.length + 1))) - 1 = nI a.2.2.1.length := by
        unfold X11_many
        rw [up_at]; unfold upd; rw [if_pos rfl]
        exact nsub (a := a.2.2.1.length + 1) (b := 1) (by omega)
      rw [e2]
    · rw [up_ne _ _ _ (by omega), up_ne _ _ _ (by omega), gt q (by omega) (by omega)]
    · rw [up_at, up_at]; exact mrow_gapp mt.row (by omega)
    · rw [up_ne _ _ _ hq, up_ne _ _ _ hq]
