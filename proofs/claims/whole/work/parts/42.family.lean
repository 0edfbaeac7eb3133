/-! the tables of the family -/
theorem lt_100 {k : Nat} (h : k < 512) : k < 2 ^ 31 := Nat.lt_of_lt_of_le h (by decide)
theorem L7 : (7 : Int32) = nI 7 := rfl
theorem below_ok {σ : Wd} {gs : List Nat} {t : Nat} (ht : t < 128) (hw : ∀ s, s < t → σ 101 s = nI (inn gs s)) : X0_unionBelow σ (nI t) = some (nI (innA gs t)) := by
  unfold X0_unionBelow
  obtain ⟨f, hf⟩ : ∃ f : Nat → Nat → Nat, ∀ x p, f x p = if t.testBit p then x ||| inn gs (t &&& (127 ^^^ 2 ^ p)) else x := ⟨fun x p => if t.testBit p then x ||| inn gs (t &&& (127 ^^^ 2 ^ p)) else x, fun _ _ => rfl⟩
  have hbit : ∀ (l : List Nat) (x i : Nat), (l.foldl f x).testBit i = true ↔ x.testBit i = true ∨ ∃ p ∈ l, t.testBit p = true ∧ (inn gs (t &&& (127 ^^^ 2 ^ p))).testBit i = true := by
    intro l
    induction l with
    | nil => intro x i; simp
    | cons p r ih =>
      intro x i
      rw [List.foldl_cons, ih, hf]
      by_cases e : t.testBit p = true
      · rw [if_pos e, Nat.testBit_or, Bool.or_eq_true]
        simp only [List.mem_cons, exists_eq_or_imp, e, true_and, or_assoc]
      · rw [if_neg e]
        simp only [List.mem_cons, exists_eq_or_imp, e, false_and, false_or]
        simp
  have hres : (List.range 7).foldl f 0 = innA gs t := by
    refine nat_ext (fun i => ?_)
    rw [hbit, innA_bit]
    simp only [Nat.zero_testBit, Bool.false_eq_true, false_or, List.mem_range]
    constructor
    · rintro ⟨p, hp, h1, h2⟩
      obtain ⟨m, m1, m2, m3⟩ := inn_bit.mp h2
      have := f_proper m (mems_lt m1) t ht
      have hd : decide (m &&& t = m ∧ m ≠ t) = true := by
        rw [this, List.any_eq_true]
        exact ⟨p, List.mem_range.mpr hp, by simp [h1, m2]⟩
      have hd := of_decide_eq_true hd
      exact ⟨m, m1, hd.1, hd.2, m3⟩
    · rintro ⟨m, m1, m2, m3, m4⟩
      have := f_proper m (mems_lt m1) t ht
      rw [decide_eq_true (show m &&& t = m ∧ m ≠ t from ⟨m2, m3⟩)] at this
      obtain ⟨p, hp, h⟩ := List.any_eq_true.mp this.symm
      rw [Bool.and_eq_true] at h
      exact ⟨p, List.mem_range.mp hp, h.1, inn_bit.mpr ⟨m, m1, of_decide_eq_true h.2, m4⟩⟩
  rw [← hres]
  refine lp_fold (List.range 7) f (fun x p => (nI x, nI p)) 0 (fun x => some (nI x)) (fun _ x => x < 128) (by decide) (fun p x hp hx => ?_) (by rw [nI_0]) (by simp) (fun p x hp hx rec => ?_) (fun x hx rec => ?_)
  · rw [hf]
    by_cases e : t.testBit (List.range 7)[p] = true
    · rw [if_pos e]; exact or_lt hx (inn_lt _ _)
    · rw [if_neg e]; exact hx
  · simp only [List.length_range] at hp
    rw [List.getElem_range]
    show X0_unionBelow_B4 (nI t) σ rec (nI x, nI p) = rec (nI (f x p), nI (p + 1))
    have h1 := (f_less t ht p hp)
    have hlt : t &&& (127 ^^^ 2 ^ p) < 128 := Nat.lt_of_le_of_lt Nat.and_le_left ht
    rw [X0_unionBelow_B4, if_neg (by rw [L7, nle (by omega) (by omega)]; omega), f_shl p (by omega), f_andn t ht _ (f_pow_lt hp)]
    dsimp only [lett]
    rw [hf]
    by_cases e : t.testBit p = true
    · rw [if_neg (by rw [neq (by omega) (by omega), h1.1, e]; decide), if_neg (nneg (by omega)), if_neg (le128 hlt), ckA_n hlt (by omega), ncl (by omega), hw _ (h1.2 e), f_or x hx _ (inn_lt _ _), X0_unionBelow_J50, nI_1, if_pos e]
    · rw [if_pos (by rw [neq (by omega) (by omega), h1.1]; simpa using e), X0_unionBelow_J50, nI_1, if_neg e]
  · rw [List.length_range]
    show X0_unionBelow_B4 (nI t) σ rec (nI x, nI 7) = _
    rw [X0_unionBelow_B4, if_pos (by rw [L7, nle (by omega) (by omega)]; omega)]
theorem num_ok {σ : Wd} {gs : List Nat} (hn : ∀ t, t < 128 → σ 99 t = numB gs t) {t : Nat} (ht : t < 128) : X0_numberOf σ (nI t) = some (numB gs t) := by
  rw [X0_numberOf, if_neg (nneg (by omega)), if_neg (le128 ht), ckA_n ht (by omega), ncl (by omega), hn t ht]
theorem idx_lt {gs : List Nat} {t : Nat} (h : t ∈ mems gs) : (mems gs).idxOf t < 128 := Nat.lt_of_lt_of_le (List.idxOf_lt_length_of_mem h) (mems_len gs)
theorem numB_neg {gs : List Nat} {t : Nat} (ht : t < 128) : numB gs t < 0 ↔ t ∉ mems gs := by
  rw [mem_iff_famB ht]
  unfold numB
  by_cases e : famB gs t = true
  · rw [if_pos e]
    have := idx_lt ((mem_iff_famB ht).mpr e)
    constructor
    · intro h; exact absurd h (nneg (by omega))
    · intro h; exact absurd e h
  · rw [if_neg e]
    exact ⟨fun _ => e, fun _ => m2_lt⟩
theorem within_ok {σ : Wd} {gs : List Nat} (hn : ∀ t, t < 128 → σ 99 t = numB gs t) : ∃ σ', X0_fillWithin σ = some σ' ∧ (∀ t, t < 128 → σ' 101 t = nI (inn gs t)) ∧ Fr σ σ' [101] := by
  unfold X0_fillWithin
  refine lp_c (body := X0_fillWithin_B2) (0, σ) (fun k s => s.1 = nI k ∧ (∀ t, t < k → s.2 101 t = nI (inn gs t)) ∧ Fr σ s.2 [101]) 128 (fun s => some s.2) ⟨nI_0.symm, fun t h => by omega, Fr.rf _ _⟩ (by omega) (fun k s hk hi => ?_) (fun s hi rec => ?_) (fun s' hI he => ⟨s'.2, he, hI.2.1, hI.2.2⟩)
  · obtain ⟨x, τ⟩ := s
    obtain ⟨h1, h2, h3⟩ := hi
    simp only at h1 h2 h3
    subst h1
    have hnum : X0_numberOf τ (nI k) = some (numB gs k) := num_ok (fun t ht => by rw [h3 99 (by simp)]; exact hn t ht) hk
    refine ⟨(nI (k + 1), up τ 101 k (nI (inn gs k))), ⟨rfl, fun t ht => ?_, ?_⟩, fun rec => ?_⟩
    · show up τ 101 k (nI (inn gs k)) 101 t = _
      rw [up_at]; unfold upd
      by_cases e : t = k
      · rw [if_pos e, e]
      · rw [if_neg e]; exact h2 t (by omega)
    · exact ((h3.tr (Fr.up (a := 101) (i := k) (x := nI (inn gs k)) (ps := [101]) (by simp))).mono (by simp))
    · rw [X0_fillWithin_B2, if_neg (le128 hk), hnum]
      show (if numB gs k < 0 then _ else _) = _
      by_cases e : k ∈ mems gs
      · rw [if_neg (fun h => (numB_neg hk).mp h e), ckA_n hk (by omega), ncl (by omega), inn_in e, X0_fillWithin_J34, nI_1]
      · rw [if_pos ((numB_neg hk).mpr e), below_ok hk h2]
        show ckA _ _ _ = _
        rw [ckA_n hk (by omega), ncl (by omega), inn_out e, X0_fillWithin_J34, nI_1]
  · obtain ⟨x, τ⟩ := s
    have h1 : x = nI 128 := hi.1
    subst h1
    show X0_fillWithin_B2 rec (nI 128, τ) = some τ
    rw [X0_fillWithin_B2, if_pos ge128]
/-! the base -/
def basB (gs : List Nat) (t : Nat) : Bool := innA gs t != t
def bas (gs : List Nat) : List Nat := (mems gs).filter (basB gs)
theorem mems_cons {gs : List Nat} (hg : ∀ x ∈ gs, x < 128) : ∃ r, mems gs = 0 :: r := by
  have h0 := (mem_iff_famB (gs := gs) (by decide : 0 < 128)).mp (mems_zero hg)
  have ho : ordS = 0 :: ordS.tail := by decide +kernel
  unfold mems
  rw [ho, List.filter_cons_of_pos h0]
  exact ⟨_, rfl⟩
theorem innA_zero (gs : List Nat) : innA gs 0 = 0 := nat_ext (fun i => by
  rw [innA_bit]
  constructor
  · rintro ⟨m, -, h2, h3, -⟩
    rw [Nat.and_zero] at h2
    exact absurd h2.symm h3
  · intro h; simp at h)
theorem bas_len (gs : List Nat) : (bas gs).length ≤ 128 := Nat.le_trans (List.length_filter_le _ _) (mems_len gs)
theorem base_ok {σ : Wd} {gs : List Nat} (hg : ∀ x ∈ gs, x < 128) (hm : RowR σ 95 (mems gs)) (hw : ∀ t, t < 128 → σ 101 t = nI (inn gs t)) : ∃ σ', X0_pickBase σ = some σ' ∧ RowR σ' 97 (bas gs) ∧ Fr σ σ' [97, 98] := by
  have hc := row_clear (σ := σ) (r := 97)
  have hlen := mems_len gs
  obtain ⟨r0, hr0⟩ := mems_cons hg
  have hpos : 1 ≤ (mems gs).length := by rw [hr0]; simp
  have fr1 : Fr σ (X4_clear σ 97) [97, 98] := hc.2.mono (by simp)
  unfold X0_pickBase
  refine lp_c (body := X0_pickBase_B9) (1, X4_clear σ 97) (fun k s => s.1 = nI (k + 1) ∧ RowR s.2 97 (((mems gs).take (k + 1)).filter (basB gs)) ∧ Fr σ s.2 [97, 98]) ((mems gs).length - 1) (fun s => some s.2) ⟨rfl, ?_, fr1⟩ (by omega) (fun k s hk hi => ?_) (fun s hi rec => ?_) (fun s' hI he => ⟨s'.2, he, ?_, hI.2.2⟩)
  · have : ((mems gs).take (0 + 1)).filter (basB gs) = [] := by
      rw [hr0]
      simp [basB, innA_zero]
    rw [this]
    exact hc.1
  · obtain ⟨x, τ⟩ := s
    obtain ⟨h1, h2, h3⟩ := hi
    simp only at h1 h2 h3
    subst h1
    have hk1 : k + 1 < (mems gs).length := by omega
    have hm' : RowR τ 95 (mems gs) := hm.cg (h3 95 (by simp)) (h3 96 (by simp))
    obtain ⟨c, hc'⟩ : ∃ c, c = (mems gs).getD (k + 1) 0 := ⟨_, rfl⟩
    have hc128 : c < 128 := hc' ▸ mems_getD_lt hk1
    have hat : X4_at τ 95 (nI (k + 1)) = some (nI c) := by
      rw [hc']; exact row_at_in hm' (by rw [show kLn (95 + 1) = 128 from rfl]; exact hlen) (by decide) hk1
    have hun : X0_unionBelow τ (nI c) = some (nI (innA gs c)) := below_ok hc128 (fun s hs => by rw [h3 101 (by simp)]; exact hw s (by omega))
    have htk : ((mems gs).take (k + 1 + 1)).filter (basB gs) = ((mems gs).take (k + 1)).filter (basB gs) ++ if basB gs c then [c] else [] := by
      rw [List.take_succ_eq_append_getElem hk1, List.filter_append, ← getD_lt hk1, ← hc']
      congr 1
      by_cases e : basB gs c = true
      · rw [if_pos e]; simp [e]
      · rw [if_neg e]; simp [e]
    have hl97 : (((mems gs).take (k + 1)).filter (basB gs)).length < 128 := by
      have := List.length_filter_le (basB gs) ((mems gs).take (k + 1))
      rw [List.length_take] at this
      omega
    have hib : innA gs c < 128 := innA_lt _ _
    by_cases e : basB gs c = true
    · obtain ⟨σ9, a1, a2, a3⟩ := row_append h2 (show _ < kLn (97 + 1) by rw [show kLn (97 + 1) = 128 from rfl]; exact hl97) (by decide) c
      rw [if_pos e] at htk
      refine ⟨(nI (k + 1 + 1), σ9), ⟨rfl, ?_, (h3.tr a3).mono (by simp)⟩, fun rec => ?_⟩
      · rw [htk]; exact a2
      · rw [X0_pickBase_B9, hm'.1, if_neg (by rw [nle (by omega) (by omega)]; omega), hat]
        show (X0_unionBelow τ (nI c)).bind _ = _
        rw [hun]
        show (if nI (innA gs c) = nI c then _ else _) = _
        rw [if_neg (by rw [neq (by omega) (by omega)]; simpa [basB] using e), a1]
        show X0_pickBase_J46 rec (nI (k + 1)) σ9 = _
        rw [X0_pickBase_J46, nI_1]
    · rw [if_neg e, List.append_nil] at htk
      refine ⟨(nI (k + 1 + 1), τ), ⟨rfl, ?_, h3⟩, fun rec => ?_⟩
      · rw [htk]; exact h2
      · rw [X0_pickBase_B9, hm'.1, if_neg (by rw [nle (by omega) (by omega)]; omega), hat]
        show (X0_unionBelow τ (nI c)).bind _ = _
        rw [hun]
        show (if nI (innA gs c) = nI c then _ else _) = _
        rw [if_pos (by rw [neq (by omega) (by omega)]; simpa [basB] using e), X0_pickBase_J46, nI_1]
  · obtain ⟨x, τ⟩ := s
    have h1 : x = nI ((mems gs).length - 1 + 1) := hi.1
    subst h1
    have h3 : Fr σ τ [97, 98] := hi.2.2
    show X0_pickBase_B9 rec (nI ((mems gs).length - 1 + 1), τ) = some τ
    rw [X0_pickBase_B9, h3 95 (by simp), hm.1, if_pos (by rw [nle (by omega) (by omega)]; omega)]
  · have := hI.2.1
    rw [Nat.sub_add_cancel hpos, List.take_length] at this
    exact this
/-! counting members -/
theorem mem_at {σ : Wd} {gs : List Nat} (hm : RowR σ 95 (mems gs)) {k : Nat} (hk : k < (mems gs).length) : X4_at σ 95 (nI k) = some (nI (mems gs)[k]) := by
  have hlen := mems_len gs
  rw [← getD_lt hk]
  exact row_at_in hm (by rw [show kLn (95 + 1) = 128 from rfl]; exact hlen) (by decide) hk
theorem mem_at_lt {gs : List Nat} {k : Nat} (hk : k < (mems gs).length) : (mems gs)[k] < 128 := mems_lt (List.getElem_mem hk)
theorem mem_go {σ : Wd} {gs : List Nat} (hm : RowR σ 95 (mems gs)) {k : Nat} (hk : k < (mems gs).length) : ¬ σ 95 1 ≤ nI k := by
  have hlen := mems_len gs
  rw [hm.1, nle (by omega) (by omega)]; omega
theorem mem_stop {σ : Wd} {gs : List Nat} (hm : RowR σ 95 (mems gs)) : σ 95 1 ≤ nI (mems gs).length := by
  have hlen := mems_len gs
  rw [hm.1, nle (by omega) (by omega)]; omega
theorem mems_4096 (gs : List Nat) : (mems gs).length < 4096 := Nat.lt_of_le_of_lt (mems_len gs) (by decide)
def cntA (gs : List Nat) (x : Nat) : Nat := (mems gs).countP (fun m => subB x m)
theorem and_c (a b : Nat) : a &&& b = b ↔ b &&& a = b := by rw [Nat.and_comm]
theorem around_ok {σ : Wd} {gs : List Nat} (hm : RowR σ 95 (mems gs)) {x : Nat} (hx : x < 128) : X0_countAround σ (nI x) = some (nI (cntA gs x)) := by
  unfold X0_countAround cntA
  refine lp_cnt (mems gs) _ (fun n k => (nI n, nI k)) (fun n => some (nI n)) (by rw [nI_0]) (mems_4096 gs) (fun k n hk hn rec => ?_) (fun n hn rec => ?_)
  · have h128 := mem_at_lt hk
    have hand : (mems gs)[k] &&& x < 128 := Nat.lt_of_le_of_lt Nat.and_le_left h128
    show X0_countAround_B4 σ (nI x) rec (nI n, nI k) = rec (nI _, nI (k + 1))
    rw [X0_countAround_B4, if_neg (mem_go hm hk), mem_at hm hk]
    show (if nI (mems gs)[k] &&& nI x = nI x then _ else _) = _
    rw [f_and _ h128 _ hx]
    by_cases e : subB x (mems gs)[k] = true
    · rw [if_pos (by rw [neq (by omega) (by omega), and_c]; exact subB_iff.mp e), X0_countAround_J32, nI_1, nI_1, if_pos e]
    · rw [if_neg (by rw [neq (by omega) (by omega), and_c]; exact fun h => e (subB_iff.mpr h)), X0_countAround_J32, nI_1, if_neg e]
  · show X0_countAround_B4 σ (nI x) rec (nI n, nI (mems gs).length) = _
    rw [X0_countAround_B4, if_pos (mem_stop hm)]
theorem cntA_le (gs : List Nat) (x : Nat) : cntA gs x ≤ 128 := Nat.le_trans List.countP_le_length (mems_len gs)
theorem points_ok {σ : Wd} {gs : List Nat} (hm : RowR σ 95 (mems gs)) : ∃ σ', X0_countPoints σ = some σ' ∧ (∀ p, p < 7 → σ' 102 p = nI (cntA gs (2 ^ p))) ∧ Fr σ σ' [102] := by
  unfold X0_countPoints
  refine lp_c (body := X0_countPoints_B2) (0, σ) (fun k s => s.1 = nI k ∧ (∀ p, p < k → s.2 102 p = nI (cntA gs (2 ^ p))) ∧ Fr σ s.2 [102]) 7 (fun s => some s.2) ⟨nI_0.symm, fun t h => by omega, Fr.rf _ _⟩ (by omega) (fun k s hk hi => ?_) (fun s hi rec => ?_) (fun s' hI he => ⟨s'.2, he, hI.2.1, hI.2.2⟩)
  · obtain ⟨x, τ⟩ := s
    obtain ⟨h1, h2, h3⟩ := hi
    simp only at h1 h2 h3
    subst h1
    have hm' : RowR τ 95 (mems gs) := hm.cg (h3 95 (by simp)) (h3 96 (by simp))
    refine ⟨(nI (k + 1), up τ 102 k (nI (cntA gs (2 ^ k)))), ⟨rfl, fun t ht => ?_, ?_⟩, fun rec => ?_⟩
    · show up τ 102 k _ 102 t = _
      rw [up_at]; unfold upd
      by_cases e : t = k
      · rw [if_pos e, e]
      · rw [if_neg e]; exact h2 t (by omega)
    · exact ((h3.tr (Fr.up (a := 102) (i := k) (x := nI (cntA gs (2 ^ k))) (ps := [102]) (by simp))).mono (by simp))
    · rw [X0_countPoints_B2, if_neg (by rw [L7, nle (by omega) (by omega)]; omega), f_shl k (by omega), around_ok hm' (f_pow_lt hk)]
      show ckA _ _ _ = _
      rw [ckA_n hk (by omega), ncl (by omega), nI_1]
  · obtain ⟨x, τ⟩ := s
    have h1 : x = nI 7 := hi.1
    subst h1
    show X0_countPoints_B2 rec (nI 7, τ) = some τ
    rw [X0_countPoints_B2, if_pos (by rw [L7, nle (by omega) (by omega)]; omega)]
