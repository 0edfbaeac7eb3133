/-! sized, common, nested, inner, hull, ranked -/
theorem szC_ok {σ : Wd} {gs : List Nat} (h : RowR σ 95 (mems gs)) {z : Nat} (hz : z ≤ 7) : lp (X10_sized_B16 σ (nI z)) FU (0, 0) = some (nI ((mems gs).countP (fun m => pc m == z))) := by
  refine lp_cnt (mems gs) (fun m => pc m == z) (fun n k => (nI n, nI k)) (fun n => some (nI n)) (by rw [nI_0]) (mems_4096 gs) (fun k n hk hn rec => ?_) (fun n hn rec => ?_)
  · have hm := mem_at_lt hk
    have h8 := f_pc8 _ hm
    show X10_sized_B16 σ (nI z) rec (nI n, nI k) = rec (nI _, nI (k + 1))
    rw [X10_sized_B16, if_neg (mem_go h hk), mem_at h hk, sbind, f_bc _ hm]
    by_cases e : pc (mems gs)[k] = z
    · rw [if_pos (by rw [e]), if_pos (by simpa using e), X10_sized_J51, nI_1, nI_1]
    · rw [if_neg (by rw [neq (by omega) (by omega)]; exact e), if_neg (by simpa using e), X10_sized_J51, nI_1]
  · show X10_sized_B16 σ (nI z) rec (nI n, nI (mems gs).length) = _
    rw [X10_sized_B16, if_pos (mem_stop h)]
theorem szM_ok {σ : Wd} {gs : List Nat} (h : LayR σ gs) {z : Nat} (hz : z ≤ 7) : X11_sizedMany σ (nI z) = some (nI ((mems gs).countP (fun m => pc m == z))) := by
  unfold X11_sizedMany
  refine lp_cnt (mems gs) (fun m => pc m == z) (fun n k => (nI n, nI k)) (fun n => some (nI n)) (by rw [nI_0]) (mems_4096 gs) (fun k n hk hn rec => ?_) (fun n hn rec => ?_)
  · have hm := mem_at_lt hk
    have h8 := f_pc8 _ hm
    have hk8 := k128 hk
    show X11_sizedMany_B4 σ (nI z) rec (nI n, nI k) = rec (nI _, nI (k + 1))
    rw [X11_sizedMany_B4, if_neg (lay_go h hk), ckA_n hk8 (by omega), ncl (by omega), lay_at h hk, f_ones _ hm, sbind]
    by_cases e : pc (mems gs)[k] = z
    · rw [if_pos (by rw [e]), if_pos (by simpa using e), X11_sizedMany_J28, nI_1, nI_1]
    · rw [if_neg (by rw [neq (by omega) (by omega)]; exact e), if_neg (by simpa using e), X11_sizedMany_J28, nI_1]
  · show X11_sizedMany_B4 σ (nI z) rec (nI n, nI (mems gs).length) = _
    rw [X11_sizedMany_B4, if_pos (lay_stop h)]
theorem lit_7 : (7 : Int32) = nI 8 - 1 := by decide
theorem q_sized {σ : Wd} {a : St} {hs : List St} {tp : List Nat} (hC : CR σ a hs tp) (hM : MR σ a hs tp) (hw : wf a) (x : Int32) : ∃ r σ2, X10_sized σ x = some r ∧ X11_sized σ x = some (r, σ2) ∧ QO σ σ2 a hs tp := by
  rcases pk_ix x (n := 8) (by omega) with hx | hx | ⟨z, hz, rfl⟩
  · exact ⟨-1, σ, by rw [X10_sized, if_pos hx], by rw [X11_sized, lit_7, in_no (by decide) (Or.inl hx)]; rfl, QO.no hM⟩
  · refine ⟨-1, σ, ?_, by rw [X11_sized, lit_7, in_no (by decide) (Or.inr hx)]; rfl, QO.no hM⟩
    have h1 : ¬ x ≤ 7 := by
      rw [Int32.le_iff_toInt_le] at hx ⊢
      have e1 : (nI 8).toInt = 8 := by decide
      have e2 : (7 : Int32).toInt = 7 := by decide
      omega
    by_cases h0 : x < 0
    · rw [X10_sized, if_pos h0]
    · rw [X10_sized, if_neg h0, if_neg h1]
  · obtain ⟨τ, e1, l1, m1, s1, f1⟩ := lays_MR hM hw
    exact ⟨_, τ, by rw [X10_sized, if_neg (nneg (by omega)), if_pos (by rw [L7, nle (by omega) (by omega)]; omega), szC_ok hC.fam.mem (by omega)], by rw [X11_sized, show X11_in (nI z) 0 7 = 1 by rw [lit_7]; exact in_in (by decide) hz, if_neg (by decide), e1, sbind, szM_ok l1 (by omega), sbind], s1, m1⟩
theorem q_common {σ : Wd} {a : St} {hs : List St} {tp : List Nat} (hC : CR σ a hs tp) (hM : MR σ a hs tp) (hw : wf a) (x y : Int32) : ∃ r σ2, X10_common σ x y = some r ∧ X11_common σ x y = some (r, σ2) ∧ QO σ σ2 a hs tp := by
  have h7 := hw.1.2
  rcases pk_ix x (n := a.1) (by omega) with hx | hx | ⟨p, hp, rfl⟩
  · exact ⟨-1, σ, by rw [X10_common, c_ptN hC.st (Or.inl hx)]; rfl, by rw [X11_common, m_ptN hM.row hw (Or.inl hx)]; rfl, QO.no hM⟩
  · exact ⟨-1, σ, by rw [X10_common, c_ptN hC.st (Or.inr hx)]; rfl, by rw [X11_common, m_ptN hM.row hw (Or.inr hx)]; rfl, QO.no hM⟩
  rcases pk_ix y (n := a.1) (by omega) with hx | hx | ⟨q, hq, rfl⟩
  · exact ⟨-1, σ, by rw [X10_common, c_pt hC.st hw hp, c_ptN hC.st (Or.inl hx)]; rfl, by rw [X11_common, m_pt hM.row hw hp, m_ptN hM.row hw (Or.inl hx)]; rfl, QO.no hM⟩
  · exact ⟨-1, σ, by rw [X10_common, c_pt hC.st hw hp, c_ptN hC.st (Or.inr hx)]; rfl, by rw [X11_common, m_pt hM.row hw hp, m_ptN hM.row hw (Or.inr hx)]; rfl, QO.no hM⟩
  obtain ⟨τ, e1, l1, m1, s1, f1⟩ := lays_MR hM hw
  exact ⟨_, τ, by rw [X10_common, c_pt hC.st hw hp, c_pt hC.st hw hq, if_neg (by decide), if_neg (by decide), f_shl p (by omega), f_shl q (by omega), f_or _ (f_pow_lt (by omega)) _ (f_pow_lt (by omega)), around_ok hC.fam.mem (or_lt (f_pow_lt (by omega)) (f_pow_lt (by omega))), sbind], by rw [X11_common, m_pt hM.row hw hp, m_pt hM.row hw hq, if_neg (by decide), if_neg (by decide), e1, sbind, together_ok l1 (by omega) (by omega), sbind], s1, m1⟩
theorem f_out : ∀ a, a < 128 → ∀ b, b < 128 → (a &&& (127 ^^^ b) = 0 ↔ a &&& b = a) := by decide +kernel
def cntW (gs : List Nat) (t : Nat) : Nat := (mems gs).countP (fun m => subB m t)
theorem within_c {σ : Wd} {gs : List Nat} (h : RowR σ 95 (mems gs)) {t : Nat} (ht : t < 128) : X0_countWithin σ (nI t) = some (nI (cntW gs t)) := by
  unfold X0_countWithin cntW
  refine lp_cnt (mems gs) (fun m => subB m t) (fun n k => (nI n, nI k)) (fun n => some (nI n)) (by rw [nI_0]) (mems_4096 gs) (fun k n hk hn rec => ?_) (fun n hn rec => ?_)
  · have hm := mem_at_lt hk
    have hx := and_lt8 (b := 127 ^^^ t) hm
    show X0_countWithin_B4 σ (nI t) rec (nI n, nI k) = rec (nI _, nI (k + 1))
    rw [X0_countWithin_B4, if_neg (mem_go h hk), mem_at h hk, sbind, f_andn _ hm t ht]
    by_cases e : (mems gs)[k] &&& t = (mems gs)[k]
    · rw [if_pos (by rw [(f_out _ hm t ht).mpr e]; exact nI_0), if_pos (subB_iff.mpr e), X0_countWithin_J33, nI_1, nI_1]
    · rw [if_neg (nI_ne0 (Nat.pos_of_ne_zero (fun h => e ((f_out _ hm t ht).mp h))) (by omega)), if_neg (fun h => e (subB_iff.mp h)), X0_countWithin_J33, nI_1]
  · show X0_countWithin_B4 σ (nI t) rec (nI n, nI (mems gs).length) = _
    rw [X0_countWithin_B4, if_pos (mem_stop h)]
theorem q_nested {σ : Wd} {a : St} {hs : List St} {tp : List Nat} (hC : CR σ a hs tp) (hM : MR σ a hs tp) (hw : wf a) (x y : Int32) : ∃ r σ2, X10_nested σ x y = some r ∧ X11_nested σ x y = some (r, σ2) ∧ QO σ σ2 a hs tp := by
  have h2 := p2_le hw.1.2
  rcases pk_ix x (n := 2 ^ a.1) (by omega) with hx | hx | ⟨t, ht, rfl⟩
  · exact ⟨-1, σ, by rw [X10_nested, c_setN hC.st hw (Or.inl hx)]; rfl, by rw [X11_nested, m_setN hM.row hw (Or.inl hx)]; rfl, QO.no hM⟩
  · exact ⟨-1, σ, by rw [X10_nested, c_setN hC.st hw (Or.inr hx)]; rfl, by rw [X11_nested, m_setN hM.row hw (Or.inr hx)]; rfl, QO.no hM⟩
  have ht8 : t < 128 := by omega
  obtain ⟨τ, e1, l1, m1, s1, f1⟩ := lays_MR hM hw
  have key : X11_nested σ (nI t) y = some (nI ((mems a.2.2.1).countP (fun m => if y = 0 then subB m t else subB t m)), τ) := by
    rw [X11_nested, m_set hM.row hw ht, if_neg (by decide), e1, sbind]
    refine lp_cnt (mems a.2.2.1) (fun m => if y = 0 then subB m t else subB t m) (fun n k => (nI n, nI k)) (fun n => some (nI n, τ)) (by rw [nI_0]) (mems_4096 _) (fun k n hk hn rec => ?_) (fun n hn rec => ?_)
    · have hm := mem_at_lt hk
      have hk8 := k128 hk
      show X11_nested_B19 τ y (nI t) rec (nI n, nI k) = rec (nI _, nI (k + 1))
      rw [X11_nested_B19, if_neg (lay_go l1 hk), ckA_n hk8 (by omega), ckA_n hk8 (by omega), ncl (by omega), lay_at l1 hk, f_within _ hm t ht8, f_within t ht8 _ hm]
      by_cases hy : y = 0
      · rw [if_pos hy, if_pos hy]
        by_cases e : (mems a.2.2.1)[k] &&& t = (mems a.2.2.1)[k]
        · rw [if_pos e, if_neg (by decide), if_pos (subB_iff.mpr e), X11_nested_J63, X11_nested_J66, nI_1, nI_1]
        · rw [if_neg e, if_pos rfl, if_neg (fun h => e (subB_iff.mp h)), X11_nested_J66, nI_1]
      · rw [if_neg hy, if_neg hy]
        by_cases e : t &&& (mems a.2.2.1)[k] = t
        · rw [if_pos e, if_neg (by decide), if_pos (subB_iff.mpr e), X11_nested_J63, X11_nested_J66, nI_1, nI_1]
        · rw [if_neg e, if_pos rfl, if_neg (fun h => e (subB_iff.mp h)), X11_nested_J66, nI_1]
    · show X11_nested_B19 τ y (nI t) rec (nI n, nI (mems a.2.2.1).length) = _
      rw [X11_nested_B19, if_pos (lay_stop l1)]
  refine ⟨_, τ, ?_, key, s1, m1⟩
  rw [X10_nested, c_set hC.st hw ht, if_neg (by decide)]
  by_cases hy : y = 0
  · simp only [if_pos hy]
    rw [within_c hC.fam.mem ht8, sbind]; rfl
  · simp only [if_neg hy]
    rw [around_ok hC.fam.mem ht8, sbind]; rfl
theorem innC_ok {σ : Wd} {n : Nat} {gs : List Nat} (h : FamR σ n gs) {t : Nat} (ht : t < 128) : X0_innerOf σ (nI t) = some (nI (inn gs t)) := by
  rw [X0_innerOf, if_neg (nneg (by omega)), if_neg (le128 ht), ckA_n ht (by omega), ncl (by omega), h.inn t ht]
theorem q_inner {σ : Wd} {a : St} {hs : List St} {tp : List Nat} (hC : CR σ a hs tp) (hM : MR σ a hs tp) (hw : wf a) (x : Int32) : ∃ r σ2, X10_inner σ x = some r ∧ X11_inner σ x = some (r, σ2) ∧ QO σ σ2 a hs tp := by
  have h2 := p2_le hw.1.2
  rcases pk_ix x (n := 2 ^ a.1) (by omega) with hx | hx | ⟨t, ht, rfl⟩
  · exact ⟨-1, σ, by rw [X10_inner, c_setN hC.st hw (Or.inl hx)]; rfl, by rw [X11_inner, m_setN hM.row hw (Or.inl hx)]; rfl, QO.no hM⟩
  · exact ⟨-1, σ, by rw [X10_inner, c_setN hC.st hw (Or.inr hx)]; rfl, by rw [X11_inner, m_setN hM.row hw (Or.inr hx)]; rfl, QO.no hM⟩
  obtain ⟨τ, e1, l1, m1, s1, f1⟩ := lays_MR hM hw
  exact ⟨_, τ, by rw [X10_inner, c_set hC.st hw ht, if_neg (by decide), innC_ok hC.fam (by omega), sbind], by rw [X11_inner, m_set hM.row hw ht, if_neg (by decide), e1, sbind, (innerOf_ok l1 (by omega)).1, sbind], s1, m1⟩
def hullF (t x m : Nat) : Nat := if subB t m then x &&& m else x
theorem q_hull {σ : Wd} {a : St} {hs : List St} {tp : List Nat} (hC : CR σ a hs tp) (hM : MR σ a hs tp) (hw : wf a) (x : Int32) : ∃ r σ2, X10_hull σ x = some r ∧ X11_hull σ x = some (r, σ2) ∧ QO σ σ2 a hs tp := by
  have h7 := hw.1.2
  have h2 := p2_le hw.1.2
  rcases pk_ix x (n := 2 ^ a.1) (by omega) with hx | hx | ⟨t, ht, rfl⟩
  · exact ⟨-1, σ, by rw [X10_hull, c_setN hC.st hw (Or.inl hx)]; rfl, by rw [X11_hull, m_setN hM.row hw (Or.inl hx)]; rfl, QO.no hM⟩
  · exact ⟨-1, σ, by rw [X10_hull, c_setN hC.st hw (Or.inr hx)]; rfl, by rw [X11_hull, m_setN hM.row hw (Or.inr hx)]; rfl, QO.no hM⟩
  have ht8 : t < 128 := by omega
  have hp := p2_pos a.1
  obtain ⟨τ, e1, l1, m1, s1, f1⟩ := lays_MR hM hw
  refine ⟨nI ((mems a.2.2.1).foldl (hullF t) (2 ^ a.1 - 1)), τ, ?_, ?_, s1, m1⟩
  · rw [X10_hull, c_set hC.st hw ht, if_neg (by decide), X0_hullOf, X0_allPoints, hC.fam.pts, f_all a.1 h7]
    rw [lp_fold (mems a.2.2.1) (hullF t) (fun x k => (nI x, nI k)) (2 ^ a.1 - 1) (fun x => some (nI x)) (fun _ x => x < 128) (by omega) (fun k x hk hx => ?_) (by rw [nI_0]) (mems_4096 _) (fun k x hk hx rec => ?_) (fun x hx rec => ?_), sbind]
    · unfold hullF
      by_cases e : subB t (mems a.2.2.1)[k] = true
      · rw [if_pos e]; exact and_lt8 hx
      · rw [if_neg e]; exact hx
    · have hm := mem_at_lt hk
      show X0_hullOf_B7 σ (nI t) rec (nI x, nI k) = rec (nI _, nI (k + 1))
      rw [X0_hullOf_B7, if_neg (mem_go hC.fam.mem hk), mem_at hC.fam.mem hk, sbind, f_and _ hm t ht8, hullF]
      by_cases e : t &&& (mems a.2.2.1)[k] = t
      · rw [if_pos (by rw [Nat.and_comm, e]), X0_hullOf_J41, nI_1, f_and _ hx _ hm, if_pos (subB_iff.mpr e)]
      · rw [if_neg (by rw [neq (by have := and_lt8 (b := t) hm; omega) (by omega), Nat.and_comm]; exact e), X0_hullOf_J41, nI_1, if_neg (fun h => e (subB_iff.mp h))]
    · show X0_hullOf_B7 σ (nI t) rec (nI x, nI (mems a.2.2.1).length) = _
      rw [X0_hullOf_B7, if_pos (mem_stop hC.fam.mem)]
  · rw [X11_hull, m_set hM.row hw ht, if_neg (by decide), e1, sbind, X11_allPoints, m1.row.2.1, f_all a.1 h7]
    refine lp_fold (mems a.2.2.1) (hullF t) (fun x k => (nI x, nI k)) (2 ^ a.1 - 1) (fun x => some (nI x, τ)) (fun _ x => x < 128) (by omega) (fun k x hk hx => ?_) (by rw [nI_0]) (mems_4096 _) (fun k x hk hx rec => ?_) (fun x hx rec => ?_)
    · unfold hullF
      by_cases e : subB t (mems a.2.2.1)[k] = true
      · rw [if_pos e]; exact and_lt8 hx
      · rw [if_neg e]; exact hx
    · have hm := mem_at_lt hk
      have hk8 := k128 hk
      show X11_hull_B21 τ (nI t) rec (nI x, nI k) = rec (nI _, nI (k + 1))
      rw [X11_hull_B21, if_neg (lay_go l1 hk), ckA_n hk8 (by omega), ncl (by omega), lay_at l1 hk, f_within t ht8 _ hm, ckA_n hk8 (by omega), hullF]
      by_cases e : t &&& (mems a.2.2.1)[k] = t
      · rw [if_pos e, if_neg (by decide), f_and _ hx _ hm, if_pos (subB_iff.mpr e)]
        dsimp only [lett]
        rw [X11_hull_J51, nI_1]
      · rw [if_neg e, if_pos rfl, X11_hull_J51, nI_1, if_neg (fun h => e (subB_iff.mp h))]
    · show X11_hull_B21 τ (nI t) rec (nI x, nI (mems a.2.2.1).length) = _
      rw [X11_hull_B21, if_pos (lay_stop l1)]
/-! ranked -/
def ahd (gs : List Nat) (n p : Nat) : Nat := (List.range n).countP (fun q => decide (cntA gs (2 ^ p) < cntA gs (2 ^ q)) || (cntA gs (2 ^ q) == cntA gs (2 ^ p) && decide (q < p)))
theorem ahd_le (gs : List Nat) (n p : Nat) : ahd gs n p ≤ n := Nat.le_trans List.countP_le_length (by simp)
theorem rank_c {σ : Wd} {n : Nat} {gs : List Nat} (h : FamR σ n gs) (hn : n ≤ 7) {p : Nat} (hp : p < 7) : X0_rankOf σ (nI p) = some (nI (ahd gs n p)) := by
  unfold X0_rankOf ahd
  refine lp_cnt (List.range n) _ (fun n k => (nI n, nI k)) (fun n => some (nI n)) (by rw [nI_0]) (by simp; omega) (fun k c hk hc rec => ?_) (fun c hc rec => ?_)
  · simp only [List.length_range] at hk
    rw [List.getElem_range]
    have c1 := cntA_le gs (2 ^ p)
    have c2 := cntA_le gs (2 ^ k)
    show X0_rankOf_B4 σ (nI p) rec (nI c, nI k) = rec (nI _, nI (k + 1))
    rw [X0_rankOf_B4, h.pts, if_neg (by rw [nle (by omega) (by omega)]; omega), often_ok h (by omega), sbind, often_ok h hp, sbind]
    have hJ : ∀ y4, X0_rankOf_J32 σ (nI p) rec (nI c) (nI k) y4 = (if cntA gs (2 ^ p) < cntA gs (2 ^ k) then rec (nI (c + 1), nI (k + 1)) else (if y4 = 0 then rec (nI c, nI (k + 1)) else (if p ≤ k then rec (nI c, nI (k + 1)) else rec (nI (c + 1), nI (k + 1))))) := by
      intro y4
      rw [X0_rankOf_J32, often_ok h (by omega), sbind, often_ok h hp, sbind]
      simp only [X0_rankOf_J55, X0_rankOf_J58, nI_1, nlt (show cntA gs (2 ^ p) < 2 ^ 31 by omega) (show cntA gs (2 ^ k) < 2 ^ 31 by omega), nle (show p < 2 ^ 31 by omega) (show k < 2 ^ 31 by omega)]
    by_cases e1 : cntA gs (2 ^ k) = cntA gs (2 ^ p)
    · rw [if_pos (by rw [e1]), hJ, if_neg (by omega), if_neg (by decide)]
      by_cases e2 : p ≤ k
      · rw [if_pos e2, if_neg (by simp; omega)]
      · rw [if_neg e2, if_pos (by simp [e1]; omega)]
    · rw [if_neg (by rw [neq (by omega) (by omega)]; exact e1), hJ]
      by_cases e2 : cntA gs (2 ^ p) < cntA gs (2 ^ k)
      · rw [if_pos e2, if_pos (by simp [e2])]
      · rw [if_neg e2, if_pos rfl, if_neg (by simp [e1]; omega)]
  · rw [List.length_range]
    show X0_rankOf_B4 σ (nI p) rec (nI c, nI n) = _
    rw [X0_rankOf_B4, h.pts, if_pos (by rw [nle (by omega) (by omega)]; omega)]
def rkv (gs : List Nat) (n : Nat) (x : Int32) : Int32 := ((List.range n).findIdx? (fun p => nI (ahd gs n p) == x)).elim (-1) (fun k => nI k)
theorem rankC_ok {σ : Wd} {n : Nat} {gs : List Nat} (h : FamR σ n gs) (hn : n ≤ 7) (x : Int32) : X0_pointRanked σ x = some (rkv gs n x) := by
  rw [X0_pointRanked]
  have := lp_find (body := X0_pointRanked_B2 σ x) (List.range n) (fun p => nI (ahd gs n p) == x) (fun k => nI k) (some (-1)) (fun k => some (nI k)) (s := 0) nI_0.symm (by simp; omega) (fun k hk hb rec => ?_) (fun k hk hb rec => ?_) (fun rec => ?_)
  · rw [this, rkv]; cases (List.range n).findIdx? (fun p => nI (ahd gs n p) == x) <;> rfl
  · simp only [List.length_range] at hk
    rw [List.getElem_range] at hb
    rw [X0_pointRanked_B2, h.pts, if_neg (by rw [nle (by omega) (by omega)]; omega), rank_c h hn (by omega), sbind, if_pos (by simpa using hb)]
  · simp only [List.length_range] at hk
    rw [List.getElem_range] at hb
    rw [X0_pointRanked_B2, h.pts, if_neg (by rw [nle (by omega) (by omega)]; omega), rank_c h hn (by omega), sbind, if_neg (by simpa using hb), nI_1]
  · rw [List.length_range, X0_pointRanked_B2, h.pts, if_pos (by rw [nle (by omega) (by omega)]; omega)]
theorem rankM_in {σ : Wd} {n : Nat} {gs : List Nat} (h : LayR σ gs) (h0 : σ 121 0 = nI n) (hn : n ≤ 7) {p : Nat} (hp : p < 7) (kx : Int32 → Option Int32) : lp (X11_byFrequency_B27 σ (nI (cntA gs (2 ^ p))) (nI p) kx) FU (0, 0) = kx (nI (ahd gs n p)) := by
  unfold ahd
  refine lp_cnt (List.range n) _ (fun n k => (nI n, nI k)) (fun n => kx (nI n)) (by rw [nI_0]) (by simp; omega) (fun k c hk hc rec => ?_) (fun c hc rec => ?_)
  · simp only [List.length_range] at hk
    rw [List.getElem_range]
    have c1 := cntA_le gs (2 ^ p)
    have c2 := cntA_le gs (2 ^ k)
    show X11_byFrequency_B27 σ (nI (cntA gs (2 ^ p))) (nI p) kx rec (nI c, nI k) = rec (nI _, nI (k + 1))
    rw [X11_byFrequency_B27, h0, if_neg (by rw [nle (by omega) (by omega)]; omega), freq_lay h (by omega), sbind]
    simp only [X11_byFrequency_J69, X11_byFrequency_J72, nI_1]
    by_cases e2 : cntA gs (2 ^ p) < cntA gs (2 ^ k)
    · rw [if_pos (by rw [nlt (by omega) (by omega)]; exact e2), if_pos (by simp [e2])]
    · rw [if_neg (by rw [nlt (by omega) (by omega)]; exact e2)]
      by_cases e1 : cntA gs (2 ^ k) = cntA gs (2 ^ p)
      · rw [if_pos (by rw [e1])]
        by_cases e3 : p ≤ k
        · rw [if_pos (by rw [nle (by omega) (by omega)]; exact e3), if_neg (by simp; omega)]
        · rw [if_neg (by rw [nle (by omega) (by omega)]; exact e3), if_pos (by simp [e1]; omega)]
      · rw [if_neg (by rw [neq (by omega) (by omega)]; exact e1), if_neg (by simp [e1]; omega)]
  · rw [List.length_range]
    show X11_byFrequency_B27 σ (nI (cntA gs (2 ^ p))) (nI p) kx rec (nI c, nI n) = _
    rw [X11_byFrequency_B27, h0, if_pos (by rw [nle (by omega) (by omega)]; omega)]
theorem rankM_ok {σ : Wd} {n : Nat} {gs : List Nat} (h : LayR σ gs) (h0 : σ 121 0 = nI n) (hn : n ≤ 7) (x : Int32) : X11_byFrequency σ x = some (rkv gs n x) := by
  rw [X11_byFrequency]
  have := lp_find (body := X11_byFrequency_B2 σ x) (List.range n) (fun p => nI (ahd gs n p) == x) (fun k => nI k) (some (-1)) (fun k => some (nI k)) (s := 0) nI_0.symm (by simp; omega) (fun k hk hb rec => ?_) (fun k hk hb rec => ?_) (fun rec => ?_)
  · rw [this, rkv]; cases (List.range n).findIdx? (fun p => nI (ahd gs n p) == x) <;> rfl
  · simp only [List.length_range] at hk
    rw [List.getElem_range] at hb
    rw [X11_byFrequency_B2, h0, if_neg (by rw [nle (by omega) (by omega)]; omega), freq_lay h (by omega), sbind, rankM_in h h0 hn (by omega), X11_byFrequency_T78, if_pos (by simpa using hb)]
  · simp only [List.length_range] at hk
    rw [List.getElem_range] at hb
    rw [X11_byFrequency_B2, h0, if_neg (by rw [nle (by omega) (by omega)]; omega), freq_lay h (by omega), sbind, rankM_in h h0 hn (by omega), X11_byFrequency_T78, if_neg (by simpa using hb), nI_1]
  · rw [List.length_range, X11_byFrequency_B2, h0, if_pos (by rw [nle (by omega) (by omega)]; omega)]
theorem q_ranked {σ : Wd} {a : St} {hs : List St} {tp : List Nat} (hC : CR σ a hs tp) (hM : MR σ a hs tp) (hw : wf a) (x : Int32) : ∃ r σ2, X10_ranked σ x = some r ∧ X11_ranked σ x = some (r, σ2) ∧ QO σ σ2 a hs tp := by
  obtain ⟨τ, e1, l1, m1, s1, f1⟩ := lays_MR hM hw
  exact ⟨_, τ, by rw [X10_ranked, rankC_ok hC.fam hw.1.2, sbind], by rw [X11_ranked, e1, sbind, rankM_ok l1 m1.row.2.1 hw.1.2, sbind], s1, m1⟩
