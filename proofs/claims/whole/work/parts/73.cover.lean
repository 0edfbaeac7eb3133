/-! which members cover which -/
def covB (gs : List Nat) (hi lo : Nat) : Bool := hi != lo && subB lo hi && (mems gs).all (fun c => c == hi || c == lo || !(subB lo c && subB c hi))
theorem covB_iff {gs : List Nat} {hi lo : Nat} : covB gs hi lo = true ↔ (hi ≠ lo ∧ lo &&& hi = lo) ∧ ∀ c ∈ mems gs, c ≠ hi → c ≠ lo → ¬ (lo &&& c = lo ∧ c &&& hi = c) := by
  unfold covB
  rw [Bool.and_eq_true, Bool.and_eq_true, List.all_eq_true, bne_iff_ne, subB_iff]
  constructor
  · rintro ⟨h1, h2⟩
    refine ⟨h1, fun c hc e1 e2 h => ?_⟩
    have := h2 c hc
    simp [e1, e2, subB_iff.mpr h.1, subB_iff.mpr h.2] at this
  · rintro ⟨h1, h2⟩
    refine ⟨h1, fun c hc => ?_⟩
    by_cases e1 : c = hi
    · simp [e1]
    · by_cases e2 : c = lo
      · simp [e2]
      · have := h2 c hc e1 e2
        cases h3 : subB lo c
        · simp
        · cases h4 : subB c hi
          · simp
          · exact absurd ⟨subB_iff.mp h3, subB_iff.mp h4⟩ this
theorem covM_ok {σ : Wd} {gs : List Nat} (h : LayR σ gs) {hi lo : Nat} (h1 : hi < 128) (h2 : lo < 128) : X11_isCovered σ (nI hi) (nI lo) = some (bI (covB gs hi lo)) := by
  rw [X11_isCovered, f_within lo h2 hi h1]
  unfold covB
  by_cases e1 : hi = lo
  · rw [if_pos (by rw [e1]), e1]; simp [bI]
  · rw [if_neg (by rw [neq (by omega) (by omega)]; exact e1)]
    by_cases e2 : lo &&& hi = lo
    · rw [if_pos e2, if_neg (by decide)]
      have := lp_find (body := X11_isCovered_B17 σ (nI hi) (nI lo)) (mems gs) (fun c => !(c == hi || c == lo || !(subB lo c && subB c hi))) (fun k => nI k) (some 1) (fun _ => some 0) (s := 0) nI_0.symm (mems_4096 gs) (fun k hk hb rec => ?_) (fun k hk hb rec => ?_) (fun rec => ?_)
      · rw [this]
        cases hf : (mems gs).findIdx? (fun c => !(c == hi || c == lo || !(subB lo c && subB c hi))) with
        | none =>
          rw [List.findIdx?_eq_none_iff] at hf
          have ha : (mems gs).all (fun c => c == hi || c == lo || !(subB lo c && subB c hi)) = true := by
            rw [List.all_eq_true]
            intro c hc
            have := hf c hc
            simpa only [Bool.not_eq_false'] using this
          rw [ha]; simp [e1, subB_iff.mpr e2, bI]
        | some k =>
          rw [List.findIdx?_eq_some_iff_getElem] at hf
          obtain ⟨hk, hp, -⟩ := hf
          have ha : (mems gs).all (fun c => c == hi || c == lo || !(subB lo c && subB c hi)) = false := by
            rw [List.all_eq_false]
            exact ⟨_, List.getElem_mem hk, by simpa using hp⟩
          rw [ha]; simp [bI]
      · have hm := mem_at_lt hk
        have hk8 := k128 hk
        simp only [Bool.not_eq_true', Bool.or_eq_false_iff, Bool.not_eq_false', Bool.and_eq_true, beq_eq_false_iff_ne] at hb
        obtain ⟨⟨b1, b2⟩, b3, b4⟩ := hb
        rw [X11_isCovered_B17, if_neg (lay_go h hk), ckA_n hk8 (by omega), ncl (by omega), lay_at h hk, if_neg (by rw [neq (by omega) (by omega)]; exact b1), if_neg (by rw [neq (by omega) (by omega)]; exact b2), f_within lo h2 _ hm, if_pos (subB_iff.mp b3), if_neg (by decide), f_within _ hm hi h1, if_pos (subB_iff.mp b4), if_neg (by decide)]
      · have hm := mem_at_lt hk
        have hk8 := k128 hk
        rw [X11_isCovered_B17, if_neg (lay_go h hk), ckA_n hk8 (by omega), ncl (by omega), lay_at h hk, X11_isCovered_J65, nI_1, f_within lo h2 _ hm, f_within _ hm hi h1]
        by_cases b1 : (mems gs)[k] = hi
        · rw [if_pos (by rw [b1])]
        · rw [if_neg (by rw [neq (by omega) (by omega)]; exact b1)]
          by_cases b2 : (mems gs)[k] = lo
          · rw [if_pos (by rw [b2])]
          · rw [if_neg (by rw [neq (by omega) (by omega)]; exact b2)]
            by_cases b3 : lo &&& (mems gs)[k] = lo
            · rw [if_pos b3, if_neg (by decide)]
              by_cases b4 : (mems gs)[k] &&& hi = (mems gs)[k]
              · simp [b1, b2, subB_iff.mpr b3, subB_iff.mpr b4] at hb
              · rw [if_neg b4, if_pos rfl]
            · rw [if_neg b3, if_pos rfl]
      · rw [X11_isCovered_B17, if_pos (lay_stop h)]
    · rw [if_neg e2, if_pos rfl]
      have : subB lo hi = false := by
        cases hh : subB lo hi
        · rfl
        · exact absurd (subB_iff.mp hh) e2
      rw [this]; simp [bI]
/-- members are unions of the base -/
theorem base_gen {gs : List Nat} : ∀ c, c ∈ mems gs → ∀ i, c.testBit i = true → ∃ b ∈ bas gs, b &&& c = b ∧ b.testBit i = true := by
  intro c
  induction c using Nat.strongRecOn with
  | _ c ih =>
    intro hc i hi
    by_cases e : basB gs c = true
    · exact ⟨c, List.mem_filter.mpr ⟨hc, e⟩, Nat.and_self _, hi⟩
    · have h1 : innA gs c = c := by simpa [basB] using e
      rw [← h1] at hi
      obtain ⟨m, m1, m2, m3, m4⟩ := innA_bit.mp hi
      have hle : m ≤ c := by rw [← m2]; exact Nat.and_le_right
      obtain ⟨b, b1, b2, b3⟩ := ih m (by omega) m1 i m4
      exact ⟨b, b1, sub_tr b2 m2, b3⟩
theorem not_sub {a b : Nat} (h : ¬ a &&& b = a) : ∃ i, a.testBit i = true ∧ b.testBit i = false := by
  apply Classical.byContradiction
  intro hn
  apply h
  refine sub_bit.mpr (fun i hi => ?_)
  cases hb : b.testBit i
  · exact absurd ⟨i, hi, hb⟩ hn
  · rfl
theorem or_sub {a b c : Nat} (h1 : a &&& c = a) (h2 : b &&& c = b) : (a ||| b) &&& c = a ||| b := sub_bit.mpr (fun i hi => by
  rw [Nat.testBit_or, Bool.or_eq_true] at hi
  rcases hi with h | h
  · exact sub_bit.mp h1 i h
  · exact sub_bit.mp h2 i h)
theorem sub_or {a b : Nat} : a &&& (a ||| b) = a := sub_bit.mpr (fun i hi => by rw [Nat.testBit_or, hi]; rfl)
theorem sub_or' {a b : Nat} : b &&& (a ||| b) = b := sub_bit.mpr (fun i hi => by rw [Nat.testBit_or, hi, Bool.or_true])
theorem sub_anti {a b : Nat} (h1 : a &&& b = a) (h2 : b &&& a = b) : a = b := by rw [← h1, Nat.and_comm, h2]
def stepB (hi lo b : Nat) : Bool := subB b hi && !subB b lo && (lo ||| b != hi)
theorem cov_base {gs : List Nat} (hg : ∀ x ∈ gs, x < 128) {hi lo : Nat} (h1 : hi ∈ mems gs) (h2 : lo ∈ mems gs) (hne : hi ≠ lo) (hs : lo &&& hi = lo) : covB gs hi lo = !(bas gs).any (stepB hi lo) := by
  apply Bool.eq_iff_iff.mpr
  rw [covB_iff, Bool.not_eq_true', List.any_eq_false]
  constructor
  · rintro ⟨-, h⟩ b hb hst
    simp only [stepB, Bool.and_eq_true, Bool.not_eq_true', bne_iff_ne] at hst
    obtain ⟨⟨s1, s2⟩, s3⟩ := hst
    have hbm : b ∈ mems gs := (List.mem_filter.mp hb).1
    refine h (lo ||| b) (mems_or hg h2 hbm) s3 (fun e => ?_) ⟨sub_or, or_sub hs (subB_iff.mp s1)⟩
    have : b &&& lo = b := by
      have := sub_or' (a := lo) (b := b)
      rwa [e] at this
    rw [subB_iff.mpr this] at s2
    exact absurd s2 (by decide)
  · intro h
    refine ⟨⟨hne, hs⟩, fun c hc e1 e2 hb => ?_⟩
    have hnc : ¬ c &&& lo = c := fun hh => e2 (sub_anti hh hb.1)
    obtain ⟨i, i1, i2⟩ := not_sub hnc
    obtain ⟨b, b1, b2, b3⟩ := base_gen c hc i i1
    apply h b b1
    have hbl : subB b lo = false := by
      cases hh : subB b lo
      · rfl
      · have := sub_bit.mp (subB_iff.mp hh) i b3
        rw [i2] at this; exact absurd this (by decide)
    have hor : lo ||| b ≠ hi := fun e => by
      have : (lo ||| b) &&& c = lo ||| b := or_sub hb.1 b2
      rw [e] at this
      exact e1 (sub_anti hb.2 this)
    simp [stepB, subB_iff.mpr (sub_tr b2 hb.2), hbl, hor]
theorem covC_ok {σ : Wd} {n : Nat} {gs : List Nat} (hg : ∀ x ∈ gs, x < 128) (h : FamR σ n gs) {hi lo : Nat} (h1 : hi ∈ mems gs) (h2 : lo ∈ mems gs) : X0_isCover σ (nI hi) (nI lo) = some (bI (covB gs hi lo)) := by
  have b1 := mems_lt h1
  have b2 := mems_lt h2
  have hbl := bas_len gs
  rw [X0_isCover, f_and hi b1 lo b2]
  by_cases e1 : hi = lo
  · rw [if_pos (by rw [e1]), e1]
    have : covB gs lo lo = false := by simp [covB]
    rw [this]; rfl
  · rw [if_neg (by rw [neq (by omega) (by omega)]; exact e1)]
    by_cases e2 : lo &&& hi = lo
    · rw [if_pos (by rw [Nat.and_comm, e2]), cov_base hg h1 h2 e1 e2]
      have := lp_find (body := X0_isCover_B16 σ (nI hi) (nI lo)) (bas gs) (stepB hi lo) (fun k => nI k) (some 1) (fun _ => some 0) (s := 0) nI_0.symm (by omega) (fun k hk hb rec => ?_) (fun k hk hb rec => ?_) (fun rec => ?_)
      · rw [this]
        cases hf : (bas gs).findIdx? (stepB hi lo) with
        | none =>
          rw [List.findIdx?_eq_none_iff] at hf
          have ha : (bas gs).any (stepB hi lo) = false := by
            rw [List.any_eq_false]
            intro c hc; rw [hf c hc]; decide
          rw [ha]; rfl
        | some k =>
          rw [List.findIdx?_eq_some_iff_getElem] at hf
          obtain ⟨hk, hp, -⟩ := hf
          have ha : (bas gs).any (stepB hi lo) = true := List.any_eq_true.mpr ⟨_, List.getElem_mem hk, hp⟩
          rw [ha]; rfl
      · have hm := bas_lt (List.getElem_mem hk)
        simp only [stepB, Bool.and_eq_true, Bool.not_eq_true', bne_iff_ne] at hb
        obtain ⟨⟨s1, s2⟩, s3⟩ := hb
        have s2' : ¬ (bas gs)[k] &&& lo = (bas gs)[k] := fun hh => by rw [subB_iff.mpr hh] at s2; exact absurd s2 (by decide)
        have q1 := and_lt8 (b := 127 ^^^ hi) hm
        have q2 := and_lt8 (b := 127 ^^^ lo) hm
        have q3 := or_lt b2 hm
        rw [X0_isCover_B16, h.bas.1, if_neg (by rw [nle (by omega) (by omega)]; omega), row_at_in h.bas hbl (by decide) hk, sbind, getD_lt hk, f_andn _ hm hi b1, f_andn _ hm lo b2, if_pos (by rw [(f_out _ hm hi b1).mpr (subB_iff.mp s1)]; exact nI_0), if_neg (nI_ne0 (Nat.pos_of_ne_zero (fun hh => s2' ((f_out _ hm lo b2).mp hh))) (by omega)), X0_isCover_J62, if_neg (by decide), f_or lo b2 _ hm, if_neg (by rw [neq (by omega) (by omega)]; exact s3)]
      · have hm := bas_lt (List.getElem_mem hk)
        have q1 := and_lt8 (b := 127 ^^^ hi) hm
        have q2 := and_lt8 (b := 127 ^^^ lo) hm
        have q3 := or_lt b2 hm
        rw [X0_isCover_B16, h.bas.1, if_neg (by rw [nle (by omega) (by omega)]; omega), row_at_in h.bas hbl (by decide) hk, sbind, getD_lt hk, f_andn _ hm hi b1, f_andn _ hm lo b2]
        have hJ : X0_isCover_J59 rec (nI lo) (nI hi) (nI k) (nI (bas gs)[k]) = rec (nI (k + 1)) := by
          rw [X0_isCover_J59, X0_isCover_J62, if_pos rfl, X0_isCover_J77, nI_1]
        by_cases s1 : (bas gs)[k] &&& hi = (bas gs)[k]
        · rw [if_pos (by rw [(f_out _ hm hi b1).mpr s1]; exact nI_0)]
          by_cases s2 : (bas gs)[k] &&& lo = (bas gs)[k]
          · rw [if_pos (by rw [(f_out _ hm lo b2).mpr s2]; exact nI_0), hJ]
          · have s2' : subB (bas gs)[k] lo = false := by
              cases hh : subB (bas gs)[k] lo
              · rfl
              · exact absurd (subB_iff.mp hh) s2
            rw [if_neg (nI_ne0 (Nat.pos_of_ne_zero (fun hh => s2 ((f_out _ hm lo b2).mp hh))) (by omega)), X0_isCover_J62, if_neg (by decide), f_or lo b2 _ hm]
            by_cases s3 : lo ||| (bas gs)[k] = hi
            · rw [if_pos (by rw [s3]), X0_isCover_J77, nI_1]
            · simp [stepB, subB_iff.mpr s1, s2', s3] at hb
        · rw [if_neg (nI_ne0 (Nat.pos_of_ne_zero (fun hh => s1 ((f_out _ hm hi b1).mp hh))) (by omega)), hJ]
      · rw [X0_isCover_B16, h.bas.1, if_pos (by rw [nle (by omega) (by omega)]; omega)]
    · rw [if_neg (by rw [neq (by have := and_lt8 (b := lo) b1; omega) (by omega), Nat.and_comm]; exact e2)]
      have : subB lo hi = false := by
        cases hh : subB lo hi
        · rfl
        · exact absurd (subB_iff.mp hh) e2
      have : covB gs hi lo = false := by simp [covB, this]
      rw [this]; rfl
theorem q_covers {σ : Wd} {a : St} {hs : List St} {tp : List Nat} (hC : CR σ a hs tp) (hM : MR σ a hs tp) (hw : wf a) (x y : Int32) : ∃ r σ2, X10_covers σ x y = some r ∧ X11_covers σ x y = some (r, σ2) ∧ QO σ σ2 a hs tp := by
  have hg := wf_lt hw
  have hl := mems_len a.2.2.1
  have hm := hC.fam.mem
  obtain ⟨τ, e1, l1, m1, s1, f1⟩ := lays_MR hM hw
  have hx' : (x < 0 ∨ nI (mems a.2.2.1).length ≤ x) → ∃ r σ2, X10_covers σ x y = some r ∧ X11_covers σ x y = some (r, σ2) ∧ QO σ σ2 a hs tp := fun hx => ⟨-1, τ, by rw [X10_covers, c_memN hm hx]; rfl, by rw [X11_covers, e1, sbind, m_memN l1 hx]; rfl, s1, m1⟩
  rcases pk_ix x (n := (mems a.2.2.1).length) (by omega) with hx | hx | ⟨i, hi, rfl⟩
  · exact hx' (Or.inl hx)
  · exact hx' (Or.inr hx)
  clear hx'
  have hy' : (y < 0 ∨ nI (mems a.2.2.1).length ≤ y) → ∃ r σ2, X10_covers σ (nI i) y = some r ∧ X11_covers σ (nI i) y = some (r, σ2) ∧ QO σ σ2 a hs tp := fun hy => ⟨-1, τ, by rw [X10_covers, c_mem hm hi, c_memN hm hy]; rfl, by rw [X11_covers, e1, sbind, m_mem l1 hi, m_memN l1 hy]; rfl, s1, m1⟩
  rcases pk_ix y (n := (mems a.2.2.1).length) (by omega) with hy | hy | ⟨j, hj, rfl⟩
  · exact hy' (Or.inl hy)
  · exact hy' (Or.inr hy)
  clear hy'
  have hi8 := k128 hi
  have hj8 := k128 hj
  refine ⟨bI (covB a.2.2.1 (mems a.2.2.1)[i] (mems a.2.2.1)[j]), τ, ?_, ?_, s1, m1⟩
  · rw [X10_covers, c_mem hm hi, c_mem hm hj, if_neg (by decide), if_neg (by decide), mem_at hm hi, sbind, mem_at hm hj, sbind, covC_ok hg hC.fam (List.getElem_mem hi) (List.getElem_mem hj), sbind]
    cases covB a.2.2.1 (mems a.2.2.1)[i] (mems a.2.2.1)[j] <;> rfl
  · rw [X11_covers, e1, sbind, m_mem l1 hi, m_mem l1 hj, if_neg (by decide), if_neg (by decide), ckA_n hi8 (by omega), ckA_n hj8 (by omega), ncl (by omega), ncl (by omega), lay_at l1 hi, lay_at l1 hj, covM_ok l1 (mem_at_lt hi) (mem_at_lt hj), sbind]
    cases covB a.2.2.1 (mems a.2.2.1)[i] (mems a.2.2.1)[j] <;> rfl
