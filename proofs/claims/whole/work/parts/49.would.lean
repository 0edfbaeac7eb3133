/-! what generators would be -/
def WouldR (σ : Wd) (xs : List Nat) : Prop := ∀ i, i < xs.length → σ 124 i = nI (xs.getD i 0)
theorem mrow_gens {g g' : Nat → Int32} {a : St} {xs : List Nat} (h : MRow g a) (hl : xs.length ≤ 12) (h1 : g' 1 = nI xs.length) (hx : ∀ i, i < xs.length → g' (10 + i) = nI (xs.getD i 0)) (ho : ∀ j, j ≠ 1 → (j < 10 ∨ 10 + xs.length ≤ j) → g' j = g j) : MRow g' (a.1, a.2.1, xs, a.2.2.2) := by
  obtain ⟨k0, k1, k2, k3, k4, k5, k6⟩ := h
  exact ⟨⟨hl, k0.2⟩, by rw [ho 0 (by omega) (by omega)]; exact k1, h1, by rw [ho 2 (by omega) (by omega)]; exact k3, fun p hp => by rw [ho _ (by omega) (by omega)]; exact k4 p hp, hx, fun i hi => by rw [ho _ (by omega) (by omega)]; exact k6 i hi⟩
theorem becomes_ok {σ : Wd} {a : St} {hs : List St} {tp xs : List Nat} (h : MR σ a hs tp) (hx : WouldR σ xs) (hn : σ 120 6 = nI xs.length) (hl : xs.length ≤ 12) : ∃ σ', X11_becomes σ = some σ' ∧ MR σ' (a.1, a.2.1, xs, a.2.2.2) (pushH hs a) tp ∧ Same σ σ' := by
  obtain ⟨τ, et, mt, ft, gt⟩ := mk_keep h
  unfold X11_becomes
  rw [et, sbind]
  refine lp_c (body := X11_becomes_B6) (0, τ) (fun k s => s.1 = nI k ∧ (∀ i, i < k → s.2 121 (10 + i) = nI (xs.getD i 0)) ∧ (∀ j, (j < 10 ∨ 10 + k ≤ j) → s.2 121 j = τ 121 j) ∧ ∀ q, q ≠ 121 → s.2 q = τ q) xs.length (fun s => some (up s.2 121 1 (nI xs.length))) ⟨nI_0.symm, fun i hi => by omega, fun _ _ => rfl, fun _ _ => rfl⟩ (by omega) (fun k s hk hi => ?_) (fun s hi rec => ?_) (fun s' hI he => ?_)
  · obtain ⟨x, ρ⟩ := s
    obtain ⟨h1, h2, h3, h4⟩ := hi
    simp only at h1 h2 h3 h4
    subst h1
    refine ⟨(nI (k + 1), up ρ 121 (10 + k) (nI (xs.getD k 0))), ⟨rfl, fun i hi => ?_, fun j hj => ?_, fun q hq => ?_⟩, fun rec => ?_⟩
    · show up ρ 121 (10 + k) (nI (xs.getD k 0)) 121 (10 + i) = _
      rw [up_at]; unfold upd
      by_cases e : i = k
      · rw [if_pos (by omega), e]
      · rw [if_neg (by omega)]; exact h2 i (by omega)
    · show up ρ 121 (10 + k) (nI (xs.getD k 0)) 121 j = _
      rw [up_at]; unfold upd; rw [if_neg (by omega)]; exact h3 j (by omega)
    · show up ρ 121 (10 + k) (nI (xs.getD k 0)) q = _
      rw [up_ne _ _ _ hq]; exact h4 q hq
    · have w1 : ρ 120 6 = nI xs.length := by rw [h4 120 (by decide), ft 6 (by decide)]; exact hn
      have w2 : ρ 124 k = nI (xs.getD k 0) := by rw [h4 124 (by decide), gt 124 (by decide) (by decide)]; exact hx k hk
      rw [X11_becomes_B6, w1, if_neg (by rw [nle (by omega) (by omega)]; omega), ckA_n (by omega) (by omega), show (10 : Int32) = nI 10 from rfl, nI_add, ckA_n (by omega) (by omega), ncl (by omega), ncl (by omega), w2, nI_1]
  · obtain ⟨x, ρ⟩ := s
    have h1 : x = nI xs.length := hi.1
    subst h1
    have w0 : ρ 120 = τ 120 := hi.2.2.2 120 (by decide)
    have w1 : ρ 120 6 = nI xs.length := by rw [w0, ft 6 (by decide)]; exact hn
    show X11_becomes_B6 rec (nI xs.length, ρ) = _
    rw [X11_becomes_B6, w1, if_pos (by rw [nle (by omega) (by omega)]; omega)]
  · refine ⟨_, he, mk_put mt ?_ (fun q hq => by rw [up_ne _ _ _ hq]; exact hI.2.2.2 q hq), fun q hq => by rw [up_ne _ _ _ (by omega), hI.2.2.2 q (by omega), gt q (by omega) (by omega)]⟩
    rw [up_at]
    refine mrow_gens mt.row hl ?_ (fun i hi => ?_) (fun j hj1 hj => ?_)
    · unfold upd; rw [if_pos rfl]
    · unfold upd; rw [if_neg (by omega)]; exact hI.2.1 i hi
    · unfold upd; rw [if_neg hj1]; exact hI.2.2.1 j hj
def unl (xs gs : List Nat) : Nat := (List.range gs.length).countP (fun i => xs.getD i 0 != gs.getD i 0)
theorem unlike_ok {σ : Wd} {a : St} {xs : List Nat} (h : MRow (σ 121) a) (hx : WouldR σ xs) (hl : a.2.2.1.length ≤ xs.length) (hb : ∀ x ∈ xs, x < 128) (hg : ∀ x ∈ a.2.2.1, x < 128) : X11_unlike σ = some (nI (unl xs a.2.2.1)) := by
  have h12 := h.1.1
  unfold X11_unlike unl
  refine lp_cnt (List.range a.2.2.1.length) _ (fun n k => (nI n, nI k)) (fun n => some (nI n)) (by rw [nI_0]) (by simp; omega) (fun k n hk hn rec => ?_) (fun n hn rec => ?_)
  · simp only [List.length_range] at hk
    rw [List.getElem_range]
    have b1 : xs.getD k 0 < 128 := by rw [getD_lt (by omega)]; exact hb _ (List.getElem_mem _)
    have b2 : a.2.2.1.getD k 0 < 128 := by rw [getD_lt (by omega)]; exact hg _ (List.getElem_mem _)
    show X11_unlike_B4 σ rec (nI n, nI k) = rec (nI _, nI (k + 1))
    rw [X11_unlike_B4, X11_many, h.2.2.1, if_neg (by rw [nle (by omega) (by omega)]; omega), ckA_n (by omega) (by omega), gen_ok h hk, sbind, ncl (by omega), hx k (by omega)]
    by_cases e : xs.getD k 0 = a.2.2.1.getD k 0
    · rw [if_pos (by rw [e]), X11_unlike_J29, nI_1, if_neg (by rw [e]; simp)]
    · rw [if_neg (by rw [neq (by omega) (by omega)]; exact e), X11_unlike_J29, nI_1, nI_1, if_pos (by simpa using e)]
  · rw [List.length_range]
    show X11_unlike_B4 σ rec (nI n, nI a.2.2.1.length) = _
    rw [X11_unlike_B4, X11_many, h.2.2.1, if_pos (by rw [nle (by omega) (by omega)]; omega)]
theorem unl_zero {xs gs : List Nat} (hl : xs.length = gs.length) : unl xs gs = 0 ↔ xs = gs := by
  unfold unl
  rw [List.countP_eq_zero]
  constructor
  · intro h
    apply List.ext_getElem hl
    intro i h1 h2
    have := h i (List.mem_range.mpr h2)
    simp only [bne_iff_ne, ne_eq, Decidable.not_not] at this
    rw [getD_lt h1, getD_lt h2] at this
    exact this
  · intro h i _
    rw [h]; simp
theorem unl_le (xs gs : List Nat) : unl xs gs ≤ gs.length := by
  unfold unl
  have := List.countP_le_length (p := fun i => xs.getD i 0 != gs.getD i 0) (l := List.range gs.length)
  rwa [List.length_range] at this
/-- the reference replaces generators -/
theorem replaces_ok {σ : Wd} {a : St} {hs : List St} {tp xs : List Nat} (h : MR σ a hs tp) (hw : wf a) (hx : WouldR σ xs) (hn : σ 120 6 = nI xs.length) (hl : xs.length ≤ 20) (hb : ∀ x ∈ xs, x < 128) : (12 < xs.length ∨ xs = a.2.2.1) ∧ X11_replaces σ = some (-1, σ) ∨ (xs.length ≤ 12 ∧ xs ≠ a.2.2.1) ∧ ∃ σ', X11_replaces σ = some (nI xs.length, σ') ∧ MR σ' (a.1, a.2.1, xs, a.2.2.2) (pushH hs a) tp ∧ Same σ σ' := by
  have h12 := hw.2.2.1.1
  have hmany : X11_many σ = nI a.2.2.1.length := h.row.2.2.1
  unfold X11_replaces
  rw [hn, hmany]
  by_cases e : 12 < xs.length
  · left
    exact ⟨Or.inl e, by rw [if_pos (by rw [show (12 : Int32) = nI 12 from rfl, nlt (by omega) (by omega)]; exact e)]⟩
  · rw [if_neg (by rw [show (12 : Int32) = nI 12 from rfl, nlt (by omega) (by omega)]; exact e)]
    obtain ⟨σ', e1, m1, s1⟩ := becomes_ok h hx hn (by omega)
    have hm' : X11_many σ' = nI xs.length := m1.row.2.2.1
    by_cases e2 : xs.length = a.2.2.1.length
    · rw [if_pos (by rw [e2]), unlike_ok h.row hx (by omega) hb (wf_lt hw), sbind]
      have hul := unl_le xs a.2.2.1
      by_cases e3 : xs = a.2.2.1
      · left
        refine ⟨Or.inr e3, ?_⟩
        rw [(unl_zero e2).mpr e3, if_pos nI_0]
      · right
        refine ⟨⟨by omega, e3⟩, σ', ?_, m1, s1⟩
        have hne : unl xs a.2.2.1 ≠ 0 := fun h => e3 ((unl_zero e2).mp h)
        rw [if_neg (nI_ne0 (by omega) (by omega)), e1, sbind, hm']
    · right
      refine ⟨⟨by omega, fun h => e2 (by rw [h])⟩, σ', ?_, m1, s1⟩
      rw [if_neg (by rw [neq (by omega) (by omega)]; exact e2), e1, sbind, hm']
/-- the class replaces generators -/
theorem replC_ok {σ : Wd} {a : St} {hs : List St} {tp xs : List Nat} {q : Nat} (hC : CR σ a hs tp) (hw : wf a) (hr : RowR σ q xs) (hq : q = 97 ∨ q = 4) (hl : xs.length ≤ kLn (q + 1)) (hk : kLn (q + 1) ≤ 128) (hb : ∀ x ∈ xs, x < 128) (hw' : xs.length ≤ 12 → wf (a.1, a.2.1, xs, a.2.2.2)) : (12 < xs.length ∨ xs = a.2.2.1) ∧ X10_replaceGenerators σ q = some (-1, σ) ∨ (xs.length ≤ 12 ∧ xs ≠ a.2.2.1) ∧ ∃ σ', X10_replaceGenerators σ q = some (nI xs.length, σ') ∧ CR σ' (a.1, a.2.1, xs, a.2.2.2) (pushH hs a) tp ∧ CN σ' ∧ ∀ p, 108 ≤ p → σ' p = σ p := by
  have h12 := hw.2.2.1.1
  unfold X10_replaceGenerators
  rw [hr.1]
  by_cases e : 12 < xs.length
  · left
    exact ⟨Or.inl e, by rw [if_pos (by rw [show (12 : Int32) = nI 12 from rfl, nlt (by omega) (by omega)]; exact e)]⟩
  · rw [if_neg (by rw [show (12 : Int32) = nI 12 from rfl, nlt (by omega) (by omega)]; exact e)]
    have hsame := row_same (r := 2) (q := q) hC.st.1 hr (show a.2.2.1.length ≤ kLn (2 + 1) from h12) (by decide) hl (by omega) (fun x hx => Nat.lt_trans (wf_lt hw x hx) (by decide)) (fun x hx => Nat.lt_trans (hb x hx) (by decide))
    rw [hsame, sbind]
    by_cases e2 : a.2.2.1 = xs
    · left
      exact ⟨Or.inr e2.symm, by rw [if_pos e2, if_neg (by decide)]⟩
    · right
      refine ⟨⟨by omega, fun h => e2 h.symm⟩, ?_⟩
      obtain ⟨σ5, e5, c5, s5, f5⟩ := c_begin hC hw
      have hr5 : RowR σ5 q xs := hr.cg (f5 q (by omega)) (f5 (q + 1) (by omega))
      obtain ⟨σ6, e6, r6, f6⟩ := row_copy (r := 8) (q := q) hr5 hl (by omega) (show xs.length ≤ kLn (8 + 1) by rw [show kLn (8 + 1) = 12 from rfl]; omega) (by decide) (by omega) (by omega) (by omega)
      obtain ⟨σ7, e7, c7, n7, f7⟩ := act_g c5 hw s5 r6 f6 (hw' (by omega))
      refine ⟨σ7, ?_, c7, n7, fun p hp => by rw [f7 p hp, f5 p (by omega)]⟩
      rw [if_neg e2, if_pos rfl, e5, sbind, e6, sbind, e7, sbind]
      have : σ7 2 1 = nI xs.length := c7.st.1.1
      rw [this]
