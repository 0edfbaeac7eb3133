/-! both, crossing, unshared -/
theorem inn_mem {gs : List Nat} (hg : ∀ x ∈ gs, x < 128) (t : Nat) : inn gs t ∈ mems gs := by
  have key : ∀ l : List Nat, (∀ m ∈ l, m ∈ mems gs) → un l ∈ mems gs := by
    intro l
    induction l with
    | nil => intro _; exact mems_zero hg
    | cons x r ih =>
      intro h
      rw [un_cons]
      exact mems_or hg (h x (by simp)) (ih (fun m hm => h m (by simp [hm])))
  exact key _ (fun m hm => (List.mem_filter.mp hm).1)
theorem c_memN {σ : Wd} {gs : List Nat} (h : RowR σ 95 (mems gs)) {x : Int32} (hx : x < 0 ∨ nI (mems gs).length ≤ x) : X10_isMember σ x = 0 := c_ixN h.1 hx
theorem c_mem {σ : Wd} {gs : List Nat} (h : RowR σ 95 (mems gs)) {j : Nat} (hj : j < (mems gs).length) : X10_isMember σ (nI j) = 1 := by
  have := mems_len gs
  exact c_ix h.1 (by omega) hj
theorem q_both {σ : Wd} {a : St} {hs : List St} {tp : List Nat} (hC : CR σ a hs tp) (hM : MR σ a hs tp) (hw : wf a) (x y z : Int32) : ∃ r σ2, X10_both σ x y z = some r ∧ X11_both σ x y z = some (r, σ2) ∧ QO σ σ2 a hs tp := by
  have hg := wf_lt hw
  have hl := mems_len a.2.2.1
  have hm := hC.fam.mem
  obtain ⟨τ, e1, l1, m1, s1, f1⟩ := lays_MR hM hw
  have hx' : (x < 0 ∨ nI (mems a.2.2.1).length ≤ x) → ∃ r σ2, X10_both σ x y z = some r ∧ X11_both σ x y z = some (r, σ2) ∧ QO σ σ2 a hs tp := fun hx => ⟨-1, τ, by rw [X10_both, c_memN hm hx]; rfl, by rw [X11_both, e1, sbind, m_memN l1 hx]; rfl, s1, m1⟩
  rcases pk_ix x (n := (mems a.2.2.1).length) (by omega) with hx | hx | ⟨i, hi, rfl⟩
  · exact hx' (Or.inl hx)
  · exact hx' (Or.inr hx)
  clear hx'
  have hy' : (y < 0 ∨ nI (mems a.2.2.1).length ≤ y) → ∃ r σ2, X10_both σ (nI i) y z = some r ∧ X11_both σ (nI i) y z = some (r, σ2) ∧ QO σ σ2 a hs tp := fun hy => ⟨-1, τ, by rw [X10_both, c_mem hm hi, c_memN hm hy]; rfl, by rw [X11_both, e1, sbind, m_mem l1 hi, m_memN l1 hy]; rfl, s1, m1⟩
  rcases pk_ix y (n := (mems a.2.2.1).length) (by omega) with hy | hy | ⟨j, hj, rfl⟩
  · exact hy' (Or.inl hy)
  · exact hy' (Or.inr hy)
  clear hy'
  have hi8 := k128 hi
  have hj8 := k128 hj
  have hor := mems_or hg (List.getElem_mem hi) (List.getElem_mem hj)
  have hor8 := mems_lt hor
  have han8 : (mems a.2.2.1)[i] &&& (mems a.2.2.1)[j] < 128 := and_lt8 (mem_at_lt hi)
  have hin := inn_mem hg ((mems a.2.2.1)[i] &&& (mems a.2.2.1)[j])
  have hin8 := mems_lt hin
  have hcls : X10_both σ (nI i) (nI j) z = (if z = 0 then some (nI ((mems a.2.2.1).idxOf ((mems a.2.2.1)[i] ||| (mems a.2.2.1)[j]))) else (if z = 1 then some (nI ((mems a.2.2.1).idxOf (inn a.2.2.1 ((mems a.2.2.1)[i] &&& (mems a.2.2.1)[j])))) else some (-1))) := by
    rw [X10_both, c_mem hm hi, c_mem hm hj, if_neg (by decide), if_neg (by decide), mem_at hm hi, sbind, mem_at hm hj, sbind, f_or _ (mem_at_lt hi) _ (mem_at_lt hj), num_ok hC.fam.num hor8, sbind, numB_in hor, f_and _ (mem_at_lt hi) _ (mem_at_lt hj), innC_ok hC.fam han8, sbind, num_ok hC.fam.num hin8, sbind, numB_in hin]
  have hmod : X11_both σ (nI i) (nI j) z = (if X11_in z 0 1 = 0 then some (-1, τ) else (if z = 0 then some (nI ((mems a.2.2.1).idxOf ((mems a.2.2.1)[i] ||| (mems a.2.2.1)[j])), τ) else some (nI ((mems a.2.2.1).idxOf (inn a.2.2.1 ((mems a.2.2.1)[i] &&& (mems a.2.2.1)[j]))), τ))) := by
    rw [X11_both, e1, sbind, m_mem l1 hi, m_mem l1 hj, if_neg (by decide), if_neg (by decide), ckA_n hi8 (by omega), ckA_n hj8 (by omega), ncl (by omega), ncl (by omega), lay_at l1 hi, lay_at l1 hj, f_or _ (mem_at_lt hi) _ (mem_at_lt hj), ckA_n hor8 (by omega), ncl (by omega), l1.2.2.2 _ hor, ckA_n hi8 (by omega), ckA_n hj8 (by omega), f_and _ (mem_at_lt hi) _ (mem_at_lt hj), (innerOf_ok l1 han8).1, sbind, ckA_n hin8 (by omega), ncl (by omega), l1.2.2.2 _ hin]
  have hout : (z < 0 ∨ nI 2 ≤ z) → ∃ r σ2, X10_both σ (nI i) (nI j) z = some r ∧ X11_both σ (nI i) (nI j) z = some (r, σ2) ∧ QO σ σ2 a hs tp := fun hz =>
    ⟨-1, τ, by rw [hcls, if_neg (show ¬ z = 0 from out_ne (k := 0) (by decide) hz (by decide)), if_neg (show ¬ z = 1 from out_ne (k := 1) (by decide) hz (by decide))], by rw [hmod, if_pos (by rw [lit_1]; exact in_no (by decide) hz)], s1, m1⟩
  rcases pk_ix z (n := 2) (by decide) with hz | hz | ⟨k, hk, rfl⟩
  · exact hout (Or.inl hz)
  · exact hout (Or.inr hz)
  have hin1 : ¬ X11_in (nI k) 0 1 = 0 := by rw [show X11_in (nI k) 0 1 = 1 by rw [lit_1]; exact in_in (by decide) hk]; decide
  rcases (by omega : k = 0 ∨ k = 1) with rfl | rfl
  · exact ⟨_, τ, by rw [hcls, if_pos nI_0], by rw [hmod, if_neg hin1, if_pos nI_0], s1, m1⟩
  · exact ⟨_, τ, by rw [hcls, if_neg (by decide), if_pos (by decide)], by rw [hmod, if_neg hin1, if_neg (by decide)], s1, m1⟩
def okX (gs : List Nat) (i j : Nat) : Prop := (mems gs).getD i 0 &&& (mems gs).getD j 0 ∈ mems gs
theorem okX_cm {gs : List Nat} {i j : Nat} : okX gs i j ↔ okX gs j i := by unfold okX; rw [Nat.and_comm]
def allX (gs : List Nat) : Prop := ∀ i j, i < (mems gs).length → j < (mems gs).length → okX gs i j
theorem okX_self {gs : List Nat} {i : Nat} (hi : i < (mems gs).length) : okX gs i i := by
  unfold okX; rw [Nat.and_self]; exact mems_getD hi
theorem crossC_ok {σ : Wd} {n : Nat} {gs : List Nat} (h : FamR σ n gs) : (X0_hasAllIntersections σ = some 1 ∧ allX gs) ∨ (X0_hasAllIntersections σ = some 0 ∧ ¬ allX gs) := by
  have hl := mems_len gs
  unfold X0_hasAllIntersections
  refine lp_qr (body := X0_hasAllIntersections_B2 σ) (fun i s => s = nI i ∧ ∀ i' j, i' < i → i' < j → j < (mems gs).length → okX gs i' j) (mems gs).length (fun r => (r = some 1 ∧ allX gs) ∨ (r = some 0 ∧ ¬ allX gs)) ⟨nI_0.symm, fun i' j h => by omega⟩ (mems_4096 gs) (fun i s rec hi hs => ?_) (fun s rec hs => ?_)
  · obtain ⟨rfl, hprev⟩ := hs
    have inner := lp_q (body := X0_hasAllIntersections_B17 σ (nI i) (rec (nI (i + 1)))) (fun j s => s = nI (i + 1 + j) ∧ ∀ j', i < j' → j' < i + 1 + j → okX gs i j') ((mems gs).length - (i + 1)) (fun r => (r = rec (nI (i + 1)) ∧ ∀ j', i < j' → j' < (mems gs).length → okX gs i j') ∨ (r = some 0 ∧ ¬ allX gs)) (s := nI (i + 1)) ⟨rfl, fun j' h1 h2 => by omega⟩ (by omega) (fun j s hj hs => ?_) (fun s hs => ?_)
    · rw [X0_hasAllIntersections_B2, if_neg (mem_go h.mem hi), X0_hasAllIntersections_T60, nI_1]
      rcases inner with ⟨h1, h2⟩ | ⟨h1, h2⟩
      · left
        refine ⟨nI (i + 1), ⟨rfl, fun i' j hi' hij hj => ?_⟩, h1⟩
        by_cases e : i' = i
        · rw [e]; exact h2 j (by omega) hj
        · exact hprev i' j (by omega) hij hj
      · right; right; exact ⟨h1, h2⟩
    · obtain ⟨rfl, hpj⟩ := hs
      have hj' : i + 1 + j < (mems gs).length := by omega
      have han8 : (mems gs)[i] &&& (mems gs)[i + 1 + j] < 128 := and_lt8 (mem_at_lt hi)
      have hB : ∀ rec', X0_hasAllIntersections_B17 σ (nI i) (rec (nI (i + 1))) rec' (nI (i + 1 + j)) = if 0 ≤ numB gs ((mems gs)[i] &&& (mems gs)[i + 1 + j]) then rec' (nI (i + 1 + j + 1)) else some 0 := by
        intro rec'
        rw [X0_hasAllIntersections_B17, if_neg (mem_go h.mem hj'), mem_at h.mem hi, sbind, mem_at h.mem hj', sbind, f_and _ (mem_at_lt hi) _ (mem_at_lt hj'), num_ok h.num han8, sbind, nI_1]
      have hok : okX gs i (i + 1 + j) ↔ 0 ≤ numB gs ((mems gs)[i] &&& (mems gs)[i + 1 + j]) := by
        unfold okX
        rw [getD_lt hi, getD_lt hj']
        have := numB_neg (gs := gs) han8
        rw [Int32.lt_iff_toInt_lt] at this
        rw [Int32.le_iff_toInt_le]
        constructor
        · intro h1
          have h2 : ¬ (numB gs ((mems gs)[i] &&& (mems gs)[i + 1 + j])).toInt < (0 : Int32).toInt := fun h => (this.mp h) h1
          omega
        · intro h1
          exact Decidable.not_not.mp (fun h => absurd (this.mpr h) (by omega))
      by_cases e : okX gs i (i + 1 + j)
      · left
        refine ⟨nI (i + 1 + j + 1), ⟨rfl, fun j' h1 h2 => ?_⟩, fun rec' => by rw [hB, if_pos (hok.mp e)]⟩
        by_cases ej : j' = i + 1 + j
        · rw [ej]; exact e
        · exact hpj j' h1 (by omega)
      · right
        exact ⟨_, Or.inr ⟨rfl, fun ha => e (ha i _ hi hj')⟩, fun rec' => by rw [hB, if_neg (fun h => e (hok.mpr h))]⟩
    · obtain ⟨rfl, hpj⟩ := hs
      refine ⟨_, Or.inl ⟨rfl, fun j' h1 h2 => hpj j' h1 (by omega)⟩, fun rec' => ?_⟩
      rw [X0_hasAllIntersections_B17, show i + 1 + ((mems gs).length - (i + 1)) = (mems gs).length by omega, if_pos (mem_stop h.mem)]
  · obtain ⟨rfl, hprev⟩ := hs
    left
    refine ⟨by rw [X0_hasAllIntersections_B2, if_pos (mem_stop h.mem)], fun i j hi hj => ?_⟩
    rcases Nat.lt_trichotomy i j with hh | hh | hh
    · exact hprev i j hi hh hj
    · rw [hh]; exact okX_self hj
    · exact okX_cm.mp (hprev j i hj hh hi)
theorem crossM_ok {σ : Wd} {gs : List Nat} (h : LayR σ gs) : (lp (X11_crossing_B6 σ) FU 0 = some (1, σ) ∧ allX gs) ∨ (lp (X11_crossing_B6 σ) FU 0 = some (0, σ) ∧ ¬ allX gs) := by
  have hl := mems_len gs
  refine lp_qr (body := X11_crossing_B6 σ) (fun i s => s = nI i ∧ ∀ i' j, i' < i → j < i' → okX gs i' j) (mems gs).length (fun r => (r = some (1, σ) ∧ allX gs) ∨ (r = some (0, σ) ∧ ¬ allX gs)) ⟨nI_0.symm, fun i' j h => by omega⟩ (mems_4096 gs) (fun i s rec hi hs => ?_) (fun s rec hs => ?_)
  · obtain ⟨rfl, hprev⟩ := hs
    have hi8 := k128 hi
    have inner := lp_q (body := X11_crossing_B16 (nI i) σ (rec (nI (i + 1)))) (fun j s => s = nI j ∧ ∀ j', j' < j → okX gs i j') i (fun r => (r = rec (nI (i + 1)) ∧ ∀ j', j' < i → okX gs i j') ∨ (r = some (0, σ) ∧ ¬ allX gs)) (s := 0) ⟨nI_0.symm, fun j' h1 => by omega⟩ (by omega) (fun j s hj hs => ?_) (fun s hs => ?_)
    · rw [X11_crossing_B6, if_neg (lay_go h hi), X11_crossing_T50, nI_1]
      rcases inner with ⟨h1, h2⟩ | ⟨h1, h2⟩
      · left
        refine ⟨nI (i + 1), ⟨rfl, fun i' j hi' hij => ?_⟩, h1⟩
        by_cases e : i' = i
        · rw [e]; exact h2 j (by omega)
        · exact hprev i' j (by omega) hij
      · right; right; exact ⟨h1, h2⟩
    · obtain ⟨rfl, hpj⟩ := hs
      have hj' : j < (mems gs).length := by omega
      have hj8 := k128 hj'
      have han8 : (mems gs)[i] &&& (mems gs)[j] < 128 := and_lt8 (mem_at_lt hi)
      have hok : okX gs i j ↔ famB gs ((mems gs)[i] &&& (mems gs)[j]) = true := by
        unfold okX
        rw [getD_lt hi, getD_lt hj', mem_iff_famB han8]
      have hB : ∀ rec', X11_crossing_B16 (nI i) σ (rec (nI (i + 1))) rec' (nI j) = if famB gs ((mems gs)[i] &&& (mems gs)[j]) = true then rec' (nI (j + 1)) else some (0, σ) := by
        intro rec'
        rw [X11_crossing_B16, if_neg (by rw [nle (by omega) (by omega)]; omega), ckA_n hi8 (by omega), ckA_n hj8 (by omega), ncl (by omega), ncl (by omega), lay_at h hi, lay_at h hj', f_and _ (mem_at_lt hi) _ (mem_at_lt hj'), ckA_n han8 (by omega), ncl (by omega), h.1 _ han8, nI_1]
        by_cases e : famB gs ((mems gs)[i] &&& (mems gs)[j]) = true
        · rw [if_pos e, if_neg (by decide), if_pos e]
        · rw [if_neg e, if_pos rfl, if_neg e]
      by_cases e : okX gs i j
      · left
        refine ⟨nI (j + 1), ⟨rfl, fun j' h1 => ?_⟩, fun rec' => by rw [hB, if_pos (hok.mp e)]⟩
        by_cases ej : j' = j
        · rw [ej]; exact e
        · exact hpj j' (by omega)
      · right
        exact ⟨_, Or.inr ⟨rfl, fun ha => e (ha i _ hi hj')⟩, fun rec' => by rw [hB, if_neg (fun h => e (hok.mpr h))]⟩
    · obtain ⟨rfl, hpj⟩ := hs
      refine ⟨_, Or.inl ⟨rfl, fun j' h1 => hpj j' h1⟩, fun rec' => ?_⟩
      rw [X11_crossing_B16, if_pos (by rw [nle (by omega) (by omega)]; omega)]
  · obtain ⟨rfl, hprev⟩ := hs
    left
    refine ⟨by rw [X11_crossing_B6, if_pos (lay_stop h)], fun i j hi hj => ?_⟩
    rcases Nat.lt_trichotomy i j with hh | hh | hh
    · exact okX_cm.mp (hprev j i hj hh)
    · rw [hh]; exact okX_self hj
    · exact hprev i j hi hh
theorem q_crossing {σ : Wd} {a : St} {hs : List St} {tp : List Nat} (hC : CR σ a hs tp) (hM : MR σ a hs tp) (hw : wf a) : ∃ r σ2, X10_crossing σ = some r ∧ X11_crossing σ = some (r, σ2) ∧ QO σ σ2 a hs tp := by
  obtain ⟨τ, e1, l1, m1, s1, f1⟩ := lays_MR hM hw
  rcases crossC_ok hC.fam with ⟨c1, c2⟩ | ⟨c1, c2⟩
  · rcases crossM_ok l1 with ⟨d1, -⟩ | ⟨-, d2⟩
    · exact ⟨1, τ, by rw [X10_crossing, c1]; rfl, by rw [X11_crossing, e1, sbind, d1], s1, m1⟩
    · exact absurd c2 d2
  · rcases crossM_ok l1 with ⟨-, d2⟩ | ⟨d1, -⟩
    · exact absurd d2 c2
    · exact ⟨0, τ, by rw [X10_crossing, c1]; rfl, by rw [X11_crossing, e1, sbind, d1], s1, m1⟩
/-! unshared: in step -/
def RQ (τ : Wd) (o1 : Option Int32) (o2 : Option (Int32 × Wd)) : Prop := ∃ r, o1 = some r ∧ o2 = some (r, τ)
theorem q_unshared {σ : Wd} {a : St} {hs : List St} {tp : List Nat} (hC : CR σ a hs tp) (hM : MR σ a hs tp) (hw : wf a) : ∃ r σ2, X10_unshared σ = some r ∧ X11_unshared σ = some (r, σ2) ∧ QO σ σ2 a hs tp := by
  obtain ⟨τ, e1, l1, m1, s1, f1⟩ := lays_MR hM hw
  have hl := mems_len a.2.2.1
  have hm := hC.fam.mem
  have key : RQ τ (X10_unshared σ) (X11_unshared σ) := by
    rw [X10_unshared, X11_unshared, e1, sbind, hm.1, l1.2.1]
    by_cases e40 : nI (mems a.2.2.1).length ≤ 40
    · rw [if_pos e40, if_pos e40]
      dsimp only [lett]
      refine lpp (fun i x1 x2 => x1 = nI i ∧ x2 = nI i) (mems a.2.2.1).length (RQ τ) ⟨nI_0.symm, nI_0.symm⟩ (mems_4096 _) (fun i x1 x2 rec1 rec2 hi hs => ?_) (fun x1 x2 rec1 rec2 hs => ?_)
      · obtain ⟨rfl, rfl⟩ := hs
        have hi8 := k128 hi
        rw [X10_unshared_B22, if_neg (by rw [nle (by omega) (by omega)]; omega), X11_unshared_B18, if_neg (lay_go l1 hi), X10_unshared_T113, X11_unshared_T147, nI_1]
        have inner := lpp (b1 := X10_unshared_B29 (nI (mems a.2.2.1).length) σ (nI i) (rec1 (nI (i + 1)))) (b2 := X11_unshared_B28 τ (nI i) (rec2 (nI (i + 1)))) (fun j x1 x2 => x1 = nI j ∧ x2 = nI j) (mems a.2.2.1).length (fun o1 o2 => (o1 = rec1 (nI (i + 1)) ∧ o2 = rec2 (nI (i + 1))) ∨ RQ τ o1 o2) (s1 := 0) (s2 := 0) ⟨nI_0.symm, nI_0.symm⟩ (mems_4096 _) (fun j x1 x2 rec1' rec2' hj hs => ?_) (fun x1 x2 rec1' rec2' hs => ?_)
        · rcases inner with ⟨g1, g2⟩ | h
          · left; exact ⟨_, _, ⟨rfl, rfl⟩, g1, g2⟩
          · right; exact h
        · obtain ⟨rfl, rfl⟩ := hs
          have hj8 := k128 hj
          have han8 : (mems a.2.2.1)[i] &&& (mems a.2.2.1)[j] < 128 := and_lt8 (mem_at_lt hi)
          rw [X10_unshared_B29, if_neg (by rw [nle (by omega) (by omega)]; omega), X11_unshared_B28, if_neg (lay_go l1 hj), X10_unshared_T107, X11_unshared_T141, nI_1, ckA_n hi8 (by omega), ckA_n hj8 (by omega), ncl (by omega), ncl (by omega), lay_at l1 hi, lay_at l1 hj, f_and _ (mem_at_lt hi) _ (mem_at_lt hj), (innerOf_ok l1 han8).1, sbind]
          have inner2 := lpp (b1 := X10_unshared_B37 (nI (mems a.2.2.1).length) σ (nI i) (nI j) (rec1' (nI (j + 1)))) (b2 := X11_unshared_B58 τ (nI i) (nI j) (nI (inn a.2.2.1 ((mems a.2.2.1)[i] &&& (mems a.2.2.1)[j]))) (rec2' (nI (j + 1)))) (fun c x1 x2 => x1 = nI c ∧ x2 = nI c) (mems a.2.2.1).length (fun o1 o2 => (o1 = rec1' (nI (j + 1)) ∧ o2 = rec2' (nI (j + 1))) ∨ RQ τ o1 o2) (s1 := 0) (s2 := 0) ⟨nI_0.symm, nI_0.symm⟩ (mems_4096 _) (fun c x1 x2 rec1'' rec2'' hc hs => ?_) (fun x1 x2 rec1'' rec2'' hs => ?_)
          · rcases inner2 with ⟨g1, g2⟩ | h
            · left; exact ⟨_, _, ⟨rfl, rfl⟩, g1, g2⟩
            · right; right; exact h
          · obtain ⟨rfl, rfl⟩ := hs
            have hc8 := k128 hc
            have hA := mem_at_lt hi
            have hB := mem_at_lt hj
            have hCm := mem_at_lt hc
            have t1 : (mems a.2.2.1)[i] &&& ((mems a.2.2.1)[j] ||| (mems a.2.2.1)[c]) < 128 := and_lt8 hA
            have t2 : (mems a.2.2.1)[i] &&& (mems a.2.2.1)[c] < 128 := and_lt8 hA
            rw [X10_unshared_B37, if_neg (by rw [nle (by omega) (by omega)]; omega), mem_at hm hi, sbind, mem_at hm hj, sbind, mem_at hm hc, sbind, X0_sharesOut, f_or _ hB _ hCm, f_and _ hA _ (or_lt hB hCm), f_and _ hA _ hB, f_and _ hA _ hCm, innC_ok hC.fam t1, sbind, innC_ok hC.fam han8, sbind, innC_ok hC.fam t2, sbind, X11_unshared_B58, if_neg (lay_go l1 hc), ckA_n hi8 (by omega), ckA_n hj8 (by omega), ckA_n hc8 (by omega), ncl (by omega), ncl (by omega), ncl (by omega), lay_at l1 hi, lay_at l1 hj, lay_at l1 hc, f_or _ hB _ hCm, f_and _ hA _ (or_lt hB hCm), (innerOf_ok l1 t1).1, sbind, ckA_n hi8 (by omega), ckA_n hc8 (by omega), f_and _ hA _ hCm, (innerOf_ok l1 t2).1, sbind, nI_1]
            by_cases e : nI (inn a.2.2.1 ((mems a.2.2.1)[i] &&& ((mems a.2.2.1)[j] ||| (mems a.2.2.1)[c]))) = nI (inn a.2.2.1 ((mems a.2.2.1)[i] &&& (mems a.2.2.1)[j])) ||| nI (inn a.2.2.1 ((mems a.2.2.1)[i] &&& (mems a.2.2.1)[c]))
            · left
              exact ⟨nI (c + 1), nI (c + 1), ⟨rfl, rfl⟩, by rw [if_pos e, sbind, if_neg (by decide)], by rw [if_pos e]⟩
            · right; right
              exact ⟨_, by rw [if_neg e, sbind, if_pos rfl], by rw [if_neg e]⟩
          · obtain ⟨rfl, rfl⟩ := hs
            left
            exact ⟨by rw [X10_unshared_B37, if_pos (by rw [nle (by omega) (by omega)]; omega)], by rw [X11_unshared_B58, if_pos (lay_stop l1)]⟩
        · obtain ⟨rfl, rfl⟩ := hs
          left
          exact ⟨by rw [X10_unshared_B29, if_pos (by rw [nle (by omega) (by omega)]; omega)], by rw [X11_unshared_B28, if_pos (lay_stop l1)]⟩
      · obtain ⟨rfl, rfl⟩ := hs
        exact ⟨-2, by rw [X10_unshared_B22, if_pos (by rw [nle (by omega) (by omega)]; omega)], by rw [X11_unshared_B18, if_pos (lay_stop l1)]⟩
    · rw [if_neg e40, if_neg e40]
      exact ⟨-2, rfl, rfl⟩
  obtain ⟨r, h1, h2⟩ := key
  exact ⟨r, τ, h1, h2, s1, m1⟩
