/-! unions counted -/
theorem countP_upd {p p' : Nat → Bool} {u : Nat} (h1 : p u = false) (h2 : p' u = true) (h3 : ∀ t, t ≠ u → p' t = p t) : ∀ n, (List.range n).countP p' = (List.range n).countP p + if u < n then 1 else 0
  | 0 => by simp
  | n + 1 => by
    rw [List.range_succ, List.countP_append, List.countP_append, countP_upd h1 h2 h3 n, List.countP_singleton, List.countP_singleton]
    by_cases e : u = n
    · subst e
      rw [if_neg (Nat.lt_irrefl _), if_pos (show u < u + 1 by omega), if_pos h2, h1]
      simp
    · rw [h3 n (fun h => e h.symm)]
      by_cases e2 : u < n
      · rw [if_pos e2, if_pos (show u < n + 1 by omega)]; omega
      · rw [if_neg e2, if_neg (show ¬ u < n + 1 by omega)]; omega
def mcnt (g : Nat → Int32) : Nat := (List.range 128).countP (fun t => decide (g t ≠ 0))
theorem mcnt_upd {g : Nat → Int32} {u : Nat} (hu : u < 128) (h : g u = 0) : mcnt (upd g u 1) = mcnt g + 1 := by
  unfold mcnt
  rw [countP_upd (p := fun t => decide (g t ≠ 0)) (p' := fun t => decide (upd g u 1 t ≠ 0)) (u := u) (by simp [h]) (by simp [upd]) (fun t ht => by simp [upd, ht]), if_pos hu]
theorem upd_same {g : Nat → Int32} {u : Nat} (h : g u = 1) : upd g u 1 = g := by
  funext t
  unfold upd
  by_cases e : t = u
  · rw [if_pos e, e, h]
  · rw [if_neg e]
theorem mstep_bits {own : Nat} {g : Nat → Int32} {k : Nat} (h : ∀ t, t < 128 → g t = 0 ∨ g t = 1) : ∀ t, t < 128 → mstep own g k t = 0 ∨ mstep own g k t = 1 := by
  intro t ht
  unfold mstep
  by_cases e : g k = 0
  · rw [if_pos e]; exact h t ht
  · rw [if_neg e]; unfold upd
    by_cases e2 : t = k ||| own
    · rw [if_pos e2]; exact Or.inr rfl
    · rw [if_neg e2]; exact h t ht
theorem cU_pass {σ : Wd} {q i own : Nat} {xs : List Nat} {skip : Int32} {kx : Int32 → Wd → Option (Int32 × Wd)} (hq : q ≠ 117) (hq1 : q + 1 ≠ 117) (hr : RowR σ q xs) (hl : xs.length ≤ kLn (q + 1)) (hk : kLn (q + 1) ≤ 512) (hi : i < xs.length) (hown : xs.getD i 0 = own) (ho : own < 128) (hs : ¬ nI i = skip) (g : Nat → Int32) (hb : ∀ t, t < 128 → g t = 0 ∨ g t = 1) : lp (X9_countUnions_B32 (nI i) skip q kx) FU (nI (mcnt g), 0, sA σ 117 g) = kx (nI (mcnt (mpass g own))) (sA σ 117 (mpass g own)) := by
  unfold mpass
  refine lp_fold (List.range 128) (mstep own) (fun g k => (nI (mcnt g), nI k, sA σ 117 g)) g (fun g => kx (nI (mcnt g)) (sA σ 117 g)) (fun _ g => ∀ t, t < 128 → g t = 0 ∨ g t = 1) hb (fun k g' _ h => mstep_bits h) (by rw [nI_0]) (by simp) (fun k g' hk' hb' rec => ?_) (fun g' _ rec => ?_)
  · simp only [List.length_range] at hk'
    rw [List.getElem_range]
    show X9_countUnions_B32 (nI i) skip q kx rec (nI (mcnt g'), nI k, sA σ 117 g') = rec (nI (mcnt (mstep own g' k)), nI (k + 1), sA σ 117 (mstep own g' k))
    have hu : k ||| own < 128 := or_lt hk' ho
    have hr' : RowR (sA σ 117 g') q xs := hr.cg (sA_ne _ _ hq) (sA_ne _ _ hq1)
    rw [X9_countUnions_B32, if_neg (le128 hk'), if_neg hs, row_at_in hr' hl hk hi, sbind, hown, ckA_n hk' (by omega), ncl (by omega), sA_at, f_or k hk' own ho, if_neg (nneg (by omega)), if_neg (le128 hu), ckA_n hu (by omega), ckA_n hu (by omega), ncl (by omega)]
    rcases hb' k hk' with h | h
    · rw [if_neg (by rw [h]; decide), X9_countUnions_J106, nI_1]
      have : mstep own g' k = g' := by unfold mstep; rw [if_pos h]
      rw [this]
    · have hm : mstep own g' k = upd g' (k ||| own) 1 := by unfold mstep; rw [if_neg (by rw [h]; decide)]
      rw [if_pos h, hm]
      rcases hb' _ hu with h2 | h2
      · rw [if_pos h2, X9_countUnions_J106, nI_1, nI_1, up_sA, mcnt_upd hu h2]
      · rw [if_neg (by rw [h2]; decide), X9_countUnions_J106, nI_1, upd_same h2]
  · rw [List.length_range]
    show X9_countUnions_B32 (nI i) skip q kx rec (nI (mcnt g'), nI 128, sA σ 117 g') = _
    rw [X9_countUnions_B32, if_pos ge128]
def oL (xs : List Nat) (skip : Int32) (i : Nat) : List Nat := ((List.range i).filter (fun j => decide (nI j ≠ skip))).map (fun j => xs.getD j 0)
theorem oL_succ (xs : List Nat) (skip : Int32) (i : Nat) : oL xs skip (i + 1) = oL xs skip i ++ if nI i = skip then [] else [xs.getD i 0] := by
  unfold oL
  rw [List.range_succ, List.filter_append, List.map_append]
  congr 1
  by_cases e : nI i = skip
  · rw [if_pos e, List.filter_cons_of_neg (by simpa using e)]; rfl
  · rw [if_neg e, List.filter_cons_of_pos (by simpa using e)]; rfl
theorem oL_lt {xs : List Nat} {skip : Int32} {i : Nat} (h : ∀ x ∈ xs, x < 128) (hi : i ≤ xs.length) : ∀ x ∈ oL xs skip i, x < 128 := by
  intro x hx
  obtain ⟨j, j1, rfl⟩ := List.mem_map.mp hx
  have := List.mem_range.mp (List.mem_filter.mp j1).1
  rw [getD_lt (by omega)]
  exact h _ (List.getElem_mem _)
theorem mcnt_fam {g : Nat → Int32} {L : List Nat} (hL : ∀ x ∈ L, x < 128) (h : ∀ t, t < 128 → (g t ≠ 0 ↔ Mem L t)) : mcnt g = (mems L).length := by
  rw [← many_range]
  unfold mcnt
  apply List.countP_congr
  intro t ht
  have ht' := List.mem_range.mp ht
  simp only [decide_eq_true_eq]
  rw [h t ht', famB_iff hL ht']
theorem cU_ok {σ : Wd} {q : Nat} {xs : List Nat} {skip : Int32} (hq : q ≠ 117) (hq1 : q + 1 ≠ 117) (hr : RowR σ q xs) (hl : xs.length ≤ kLn (q + 1)) (hk : kLn (q + 1) ≤ 512) (hx : ∀ x ∈ xs, x < 128) : ∃ σ', X9_countUnions σ q skip = some (nI (mems (oL xs skip xs.length)).length, σ') ∧ Fr σ σ' [117] := by
  obtain ⟨σ1, e1, v1, f1⟩ := fill_ok (σ := σ) (q := 117) (by decide) 0
  obtain ⟨g0, hg0⟩ : ∃ g0, g0 = upd (σ1 117) 0 1 := ⟨_, rfl⟩
  have b0 : ∀ t, t < 128 → g0 t = g00 t := by
    intro t ht
    rw [hg0]; unfold upd g00
    by_cases e : t = 0
    · rw [if_pos e, if_pos e]
    · rw [if_neg e, if_neg e, v1, if_pos (by rw [show kLn 117 = 128 from rfl]; exact ht)]
  have hr1 : RowR σ1 q xs := hr.cg (f1 q (by simpa using hq)) (f1 (q + 1) (by simpa using hq1))
  have key : ∀ i, i ≤ xs.length → (∀ t, t < 128 → (oL xs skip i).foldl mpass g0 t = 0 ∨ (oL xs skip i).foldl mpass g0 t = 1) ∧ ∀ t, t < 128 → ((oL xs skip i).foldl mpass g0 t ≠ 0 ↔ Mem (oL xs skip i) t) := by
    intro i hi
    have := mpass_mem (oL xs skip i) [] g0 (oL_lt hx hi) (by simp) (fun t ht => by rw [b0 t ht]; unfold g00; by_cases e : t = 0 <;> simp [e]) (fun t ht => by rw [b0 t ht]; exact g00_mem t ht)
    simpa using this
  have h1 : mcnt g0 = 1 := by
    have := mcnt_fam (g := g0) (L := []) (by simp) (fun t ht => by rw [b0 t ht]; exact g00_mem t ht)
    rw [this]
    decide +kernel
  refine ⟨sA σ1 117 ((oL xs skip xs.length).foldl mpass g0), ?_, (f1.tr (Fr.sA (ps := [117]) (by simp))).mono (by simp)⟩
  rw [X9_countUnions, e1, sbind, up_eq_sA, ← hg0, ← mcnt_fam (oL_lt hx (Nat.le_refl _)) (key _ (Nat.le_refl _)).2]
  refine lp_tr (fun i => (nI (mcnt ((oL xs skip i).foldl mpass g0)), nI i, sA σ1 117 ((oL xs skip i).foldl mpass g0))) xs.length _ ?_ (by omega) (fun i hi rec => ?_) (fun rec => ?_)
  · show ((1 : Int32), (0 : Int32), sA σ1 117 g0) = (nI (mcnt g0), nI 0, sA σ1 117 g0)
    rw [h1]; rfl
  · obtain ⟨G, hG⟩ : ∃ G, G = (oL xs skip i).foldl mpass g0 := ⟨_, rfl⟩
    have hrG : RowR (sA σ1 117 G) q xs := hr1.cg (sA_ne _ _ hq) (sA_ne _ _ hq1)
    have hkey := (key i (by omega)).1
    show X9_countUnions_B20 q skip rec (nI (mcnt ((oL xs skip i).foldl mpass g0)), nI i, sA σ1 117 ((oL xs skip i).foldl mpass g0)) = rec (nI (mcnt ((oL xs skip (i + 1)).foldl mpass g0)), nI (i + 1), sA σ1 117 ((oL xs skip (i + 1)).foldl mpass g0))
    rw [oL_succ, List.foldl_append]
    rw [← hG] at hkey ⊢
    rw [X9_countUnions_B20, hrG.1, if_neg (by rw [nle (by omega) (by omega)]; omega)]
    by_cases e : nI i = skip
    · rw [if_pos e]
      show X9_countUnions_B32 (nI i) skip q _ _ (nI (mcnt G), 0, sA σ1 117 G) = _
      rw [X9_countUnions_B32, if_neg (by decide), if_pos e, X9_countUnions_T112, X9_countUnions_J112, nI_1]; rfl
    · rw [if_neg e, List.foldl_cons, List.foldl_nil, cU_pass hq hq1 hr1 hl hk hi rfl (by rw [getD_lt hi]; exact hx _ (List.getElem_mem hi)) e G hkey, X9_countUnions_T112, X9_countUnions_J112, nI_1]
  · show X9_countUnions_B20 q skip rec (_, nI xs.length, sA σ1 117 _) = _
    have hrG : RowR (sA σ1 117 ((oL xs skip xs.length).foldl mpass g0)) q xs := hr1.cg (sA_ne _ _ hq) (sA_ne _ _ hq1)
    rw [X9_countUnions_B20, hrG.1, if_pos (by rw [nle (by omega) (by omega)]; omega)]
theorem spans_mk {σ : Wd} {a : St} {q : Nat} {x : Int32} {more : Nat} {L : List Nat} (ha : MRow (σ 121) a) (hl : kLn q = 128) (hq : q ≠ 121) (hg : ∀ g ∈ a.2.2.1, g < 128) (hm : more < 128) (hL : ∀ x ∈ L, x < 128) (he : ∀ t, Mem (ownsOf a.2.2.1 x more) t ↔ Mem L t) : ∃ g, X11_spans σ q x (nI more) = some (sA σ q g) ∧ Mk (sA σ q g) q (famB L) := by
  obtain ⟨g, e1, b1, m1⟩ := spans_ok (x := x) ha hl hq hg hm
  refine ⟨g, e1, fun t ht => ?_⟩
  rw [sA_at]
  have h := m1 t ht
  rw [he, ← famB_iff hL ht] at h
  by_cases e : famB L t = true
  · rw [if_pos e]
    rcases b1 t ht with h' | h'
    · exact absurd h' (h.mpr e)
    · exact h'
  · rw [if_neg e]
    exact Decidable.not_not.mp (fun h' => e (h.mp h'))
theorem QO.one {σ : Wd} {a : St} {hs : List St} {tp : List Nat} (h : MR σ a hs tp) {q : Nat} (hq : 120 < q) (h1 : q ≠ 121) (h2 : q ≠ 123) (h3 : q ≠ 138) (h4 : q ≠ 139) (g : Nat → Int32) : QO σ (sA σ q g) a hs tp :=
  ⟨fun p hp => sA_ne _ _ (by omega), h.cg (sA_ne _ _ (Ne.symm h1)) (sA_ne _ _ (Ne.symm h2)) (sA_ne _ _ (Ne.symm h3)) (sA_ne _ _ (Ne.symm h4)) (by rw [sA_ne _ _ (by omega)]) (by rw [sA_ne _ _ (by omega)])⟩
theorem owns_but {gs : List Nat} {j : Nat} (hj : j < gs.length) (hl : gs.length < 2 ^ 31) : ownsOf gs (nI j) 0 = oL gs (nI j) gs.length ++ [0] := by
  unfold ownsOf oL
  rw [List.range_succ, List.filter_append, List.map_append, List.filter_cons_of_pos (by rw [decide_eq_true_eq, ne_eq, neq (by omega) (by omega)]; omega)]
  congr 1
  · apply List.map_congr_left
    intro i hi
    have := List.mem_range.mp (List.mem_filter.mp hi).1
    rw [if_pos this]
  · simp
theorem q_withoutGenerator {σ : Wd} {a : St} {hs : List St} {tp : List Nat} (hC : CR σ a hs tp) (hM : MR σ a hs tp) (hw : wf a) (x : Int32) : ∃ r σ1 σ2, X10_withoutGenerator σ x = some (r, σ1) ∧ X11_withoutGenerator σ1 x = some (r, σ2) ∧ Fr σ σ1 [117] ∧ QO σ1 σ2 a hs tp := by
  have h12 := hw.2.2.1.1
  rcases pk_ix x (n := a.2.2.1.length) (by omega) with hx | hx | ⟨j, hj, rfl⟩
  · exact ⟨-1, σ, σ, by rw [X10_withoutGenerator, c_genN hC.st (Or.inl hx)]; rfl, by rw [X11_withoutGenerator, m_genN hM.row hw (Or.inl hx)]; rfl, Fr.rf _ _, QO.no hM⟩
  · exact ⟨-1, σ, σ, by rw [X10_withoutGenerator, c_genN hC.st (Or.inr hx)]; rfl, by rw [X11_withoutGenerator, m_genN hM.row hw (Or.inr hx)]; rfl, Fr.rf _ _, QO.no hM⟩
  have r2 : RowR σ 2 a.2.2.1 := hC.st.1
  obtain ⟨σ1, c1, c2⟩ := cU_ok (skip := nI j) (by decide) (by decide) r2 (by exact h12) (by decide) (wf_lt hw)
  have hM1 : MR σ1 a hs tp := hM.hi (fun q hq => c2 q (by simp; omega))
  obtain ⟨g, d1, d2⟩ := spans_mk (q := 128) (x := nI j) (more := 0) (L := oL a.2.2.1 (nI j) a.2.2.1.length) hM1.row rfl (by decide) (wf_lt hw) (by decide) (oL_lt (wf_lt hw) (Nat.le_refl _)) (fun t => by rw [owns_but hj (by omega), mem_zero_iff])
  rw [nI_0] at d1
  exact ⟨_, σ1, sA σ1 128 g, by rw [X10_withoutGenerator, c_gen hC.st hw hj, if_neg (by decide), c1, sbind], by rw [X11_withoutGenerator, m_gen hM1.row hw hj, if_neg (by decide), d1, sbind, manyOf_ok rfl d2, sbind, many_range], c2, QO.one hM1 (by decide) (by decide) (by decide) (by decide) (by decide) g⟩
/-! the list -/
theorem q_listed {σ : Wd} {a : St} {hs : List St} {tp : List Nat} (hC : CR σ a hs tp) (hM : MR σ a hs tp) (hw : wf a) (x : Int32) : ∃ r, X10_listed σ x = some r ∧ X11_listed σ x = some r := by
  have h20 := hw.2.2.2.1
  have r4 : RowR σ 4 a.2.2.2 := hC.st.2.1
  refine ⟨atv a.2.2.2 x, by rw [X10_listed, row_at r4 (by exact h20) (by decide), sbind], ?_⟩
  have hlm : X11_listMany σ = nI a.2.2.2.length := hM.row.2.2.2.1
  rw [X11_listed, hlm]
  rcases pk_ix x (n := a.2.2.2.length) (by omega) with hx | hx | ⟨j, hj, rfl⟩
  · rw [in_no (by omega) (Or.inl hx), if_pos rfl, atv_out (Or.inl hx)]
  · rw [in_no (by omega) (Or.inr hx), if_pos rfl, atv_out (Or.inr hx)]
  · rw [in_in (by omega) hj, if_neg (by decide), show (22 : Int32) = nI 22 from rfl, nI_add, ckA_n (by omega) (by omega), ncl (by omega), hM.row.2.2.2.2.2.2 j hj, atv_in hj (by omega)]
theorem oL_all {xs : List Nat} (hl : xs.length < 2 ^ 31) : oL xs (-1) xs.length = xs := by
  unfold oL
  rw [List.filter_eq_self.mpr (fun j hj => decide_eq_true (m1_ne j (by have := List.mem_range.mp hj; omega)))]
  apply List.ext_getElem
  · simp
  · intro i h1 h2
    rw [List.getElem_map, List.getElem_range, getD_lt h2]
theorem needs_pass {σ : Wd} {i own : Nat} {kx : Wd → Option (Int32 × Wd)} (hi : i < 20) (ho : own < 128) (h121 : σ 121 (22 + i) = nI own) (g : Nat → Int32) : lp (X11_needs_B42 (nI i) kx) FU (0, sA σ 128 g) = kx (sA σ 128 (mpass g own)) := by
  unfold mpass
  refine lp_fold (List.range 128) (mstep own) (fun g k => (nI k, sA σ 128 g)) g (fun g => kx (sA σ 128 g)) (fun _ _ => True) trivial (fun _ _ _ _ => trivial) (by rw [nI_0]) (by simp) (fun k g' hk _ rec => ?_) (fun g' _ rec => ?_)
  · simp only [List.length_range] at hk
    rw [List.getElem_range]
    show X11_needs_B42 (nI i) kx rec (nI k, sA σ 128 g') = rec (nI (k + 1), sA σ 128 (mstep own g' k))
    have hu : k ||| own < 128 := or_lt hk ho
    have h1 : sA σ 128 g' 121 (22 + i) = nI own := by rw [sA_ne _ _ (by decide)]; exact h121
    rw [X11_needs_B42, if_neg (le128 hk), ckA_n hk (by omega), ncl (by omega), sA_at, show (22 : Int32) = nI 22 from rfl, nI_add, ckA_n (by omega) (by omega), ncl (by omega), h1, f_or k hk own ho, ncl (by omega)]
    unfold mstep
    by_cases h : g' k = 0
    · rw [if_pos h, if_pos h, X11_needs_J75, nI_1]
    · rw [if_neg h, if_neg h, ckA_n hu (by omega), X11_needs_J75, nI_1, up_sA]
  · rw [List.length_range]
    show X11_needs_B42 (nI i) kx rec (nI 128, sA σ 128 g') = _
    rw [X11_needs_B42, if_pos ge128]
theorem needs_init {σ : Wd} {kx : Wd → Option (Int32 × Wd)} : ∃ g, lp (X11_needs_B2 kx) FU (0, σ) = kx (sA σ 128 g) ∧ (∀ t, t < 128 → g t = g00 t) := by
  obtain ⟨f, hf⟩ : ∃ f : Nat → Nat → Int32, ∀ k t, f k t = if t < k then g00 t else σ 128 t := ⟨fun k t => if t < k then g00 t else σ 128 t, fun _ _ => rfl⟩
  refine ⟨f 128, ?_, fun t ht => by rw [hf, if_pos ht]⟩
  refine lp_tr (fun k => (nI k, sA σ 128 (f k))) 128 _ ?_ (by omega) (fun k hk rec => ?_) (fun rec => ?_)
  · show ((0 : Int32), σ) = (nI 0, sA σ 128 (f 0))
    rw [nI_0]
    congr 1
    have : f 0 = σ 128 := by funext t; rw [hf, if_neg (by omega)]
    rw [this, sA_self]
  · show X11_needs_B2 kx rec (nI k, sA σ 128 (f k)) = rec (nI (k + 1), sA σ 128 (f (k + 1)))
    have hn : ∀ x, x = g00 k → upd (f k) k x = f (k + 1) := by
      intro x hx
      funext t
      unfold upd
      rw [hf, hf]
      by_cases e : t = k
      · rw [if_pos e, if_pos (by omega), hx, e]
      · rw [if_neg e]
        by_cases e2 : t < k
        · rw [if_pos e2, if_pos (by omega)]
        · rw [if_neg e2, if_neg (by omega)]
    rw [X11_needs_B2, if_neg (le128 hk), ckA_n hk (by omega), ckA_n hk (by omega), ncl (by omega)]
    by_cases e : k = 0
    · subst e
      rw [if_pos nI_0, X11_needs_J24, nI_1, up_sA, hn 1 rfl]
    · rw [if_neg (nI_ne0 (by omega) (by omega)), X11_needs_J24, nI_1, up_sA, hn 0 (by unfold g00; rw [if_neg e])]
  · show X11_needs_B2 kx rec (nI 128, sA σ 128 (f 128)) = _
    rw [X11_needs_B2, if_pos ge128]
theorem q_needs {σ : Wd} {a : St} {hs : List St} {tp : List Nat} (hC : CR σ a hs tp) (hM : MR σ a hs tp) (hw : wf a) : ∃ r σ1 σ2, X10_needs σ = some (r, σ1) ∧ X11_needs σ1 = some (r, σ2) ∧ Fr σ σ1 [117] ∧ QO σ1 σ2 a hs tp := by
  have h20 := hw.2.2.2.1
  have r4 : RowR σ 4 a.2.2.2 := hC.st.2.1
  obtain ⟨σ1, c1, c2⟩ := cU_ok (skip := -1) (by decide) (by decide) r4 (by exact h20) (by decide) (wf_lt' hw)
  rw [oL_all (by omega)] at c1
  have hM1 : MR σ1 a hs tp := hM.hi (fun q hq => c2 q (by simp; omega))
  obtain ⟨g0, g1, g2⟩ := needs_init (σ := σ1) (kx := X11_needs_T30)
  have hlm : ∀ g, X11_listMany (sA σ1 128 g) = nI a.2.2.2.length := fun g => by
    rw [X11_listMany, sA_ne _ _ (by decide)]; exact hM1.row.2.2.2.1
  have hlp : lp (X11_needs_B32 X11_needs_T87) FU (0, sA σ1 128 g0) = X11_needs_T87 (sA σ1 128 (a.2.2.2.foldl mpass g0)) := by
    refine lp_fold a.2.2.2 mpass (fun g k => (nI k, sA σ1 128 g)) g0 (fun g => X11_needs_T87 (sA σ1 128 g)) (fun _ _ => True) trivial (fun _ _ _ _ => trivial) (by rw [nI_0]) (by omega) (fun k g' hk _ rec => ?_) (fun g' _ rec => ?_)
    · show X11_needs_B32 X11_needs_T87 rec (nI k, sA σ1 128 g') = rec (nI (k + 1), sA σ1 128 (mpass g' a.2.2.2[k]))
      rw [X11_needs_B32, hlm, if_neg (by rw [nle (by omega) (by omega)]; omega), needs_pass (by omega) (wf_lt' hw _ (List.getElem_mem hk)) (by rw [hM1.row.2.2.2.2.2.2 k hk, getD_lt hk]) g', X11_needs_T81, nI_1]
    · show X11_needs_B32 X11_needs_T87 rec (nI a.2.2.2.length, sA σ1 128 g') = _
      rw [X11_needs_B32, hlm, if_pos (by rw [nle (by omega) (by omega)]; omega)]
  have hmm := mpass_mem a.2.2.2 [] g0 (wf_lt' hw) (by simp) (fun t ht => by rw [g2 t ht]; unfold g00; by_cases e : t = 0 <;> simp [e]) (fun t ht => by rw [g2 t ht]; exact g00_mem t ht)
  have hmk : Mk (sA σ1 128 (a.2.2.2.foldl mpass g0)) 128 (famB a.2.2.2) := by
    intro t ht
    rw [sA_at]
    have h := hmm.2 t ht
    rw [List.nil_append, ← famB_iff (wf_lt' hw) ht] at h
    by_cases e : famB a.2.2.2 t = true
    · rw [if_pos e]
      rcases hmm.1 t ht with h' | h'
      · exact absurd h' (h.mpr e)
      · exact h'
    · rw [if_neg e]
      exact Decidable.not_not.mp (fun h' => e (h.mp h'))
  have h41 : σ1 4 1 = nI a.2.2.2.length := by rw [c2 4 (by simp)]; exact r4.1
  refine ⟨nI (mems a.2.2.2).length - 1 - nI a.2.2.2.length, σ1, sA σ1 128 (a.2.2.2.foldl mpass g0), ?_, ?_, c2, QO.one hM1 (by decide) (by decide) (by decide) (by decide) (by decide) _⟩
  · rw [X10_needs, c1, sbind]
    show some (nI (mems a.2.2.2).length - 1 - σ1 4 1, σ1) = _
    rw [h41]
  · rw [X11_needs, g1, X11_needs_T30, hlp, X11_needs_T87, manyOf_ok rfl hmk, sbind, many_range, hlm]
