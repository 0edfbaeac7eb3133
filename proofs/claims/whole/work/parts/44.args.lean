/-! what both sides stand for -/
def wordL : List Nat := [112, 111, 105, 110, 116, 115, 0, 119, 101, 105, 103, 104, 116, 0, 115, 101, 116, 0]
def MR (σ : Wd) (a : St) (hs : List St) (tp : List Nat) : Prop := MRow (σ 121) a ∧ ModH σ hs ∧ (σ 120 23 = nI tp.length ∧ ∀ i, i < tp.length → σ 138 i = nI (tp.getD i 0)) ∧ ∀ i, i < 18 → σ 139 i = nI (wordL.getD i 0)
theorem MR.row {σ : Wd} {a : St} {hs : List St} {tp : List Nat} (h : MR σ a hs tp) : MRow (σ 121) a := h.1
theorem MR.hist {σ : Wd} {a : St} {hs : List St} {tp : List Nat} (h : MR σ a hs tp) : ModH σ hs := h.2.1
theorem ModH.cg {σ σ' : Wd} {hs : List St} (h : ModH σ hs) (h4 : σ' 120 4 = σ 120 4) (hq : σ' 123 = σ 123) : ModH σ' hs := by
  obtain ⟨h1, h2, h3⟩ := h
  exact ⟨h1, by rw [h4]; exact h2, fun i hi => by rw [hq]; exact h3 i hi⟩
theorem MR.cg {σ σ' : Wd} {a : St} {hs : List St} {tp : List Nat} (h : MR σ a hs tp) (h121 : σ' 121 = σ 121) (h123 : σ' 123 = σ 123) (h138 : σ' 138 = σ 138) (h139 : σ' 139 = σ 139) (h4 : σ' 120 4 = σ 120 4) (h23 : σ' 120 23 = σ 120 23) : MR σ' a hs tp :=
  ⟨by rw [h121]; exact h.1, h.2.1.cg h4 h123, ⟨by rw [h23]; exact h.2.2.1.1, fun i hi => by rw [h138]; exact h.2.2.1.2 i hi⟩, fun i hi => by rw [h139]; exact h.2.2.2 i hi⟩
theorem MR.hi {σ σ' : Wd} {a : St} {hs : List St} {tp : List Nat} (h : MR σ a hs tp) (hq : ∀ q, 120 ≤ q → σ' q = σ q) : MR σ' a hs tp :=
  h.cg (hq _ (by decide)) (hq _ (by decide)) (hq _ (by decide)) (hq _ (by decide)) (by rw [hq _ (by decide)]) (by rw [hq _ (by decide)])
def Same (σ σ' : Wd) : Prop := ∀ q, q < 120 → σ' q = σ q
theorem Same.rf (σ : Wd) : Same σ σ := fun _ _ => rfl
theorem Same.tr {σ σ1 σ2 : Wd} (h : Same σ σ1) (h' : Same σ1 σ2) : Same σ σ2 := fun q hq => by rw [h' q hq, h q hq]
theorem CR.same {σ σ' : Wd} {a : St} {hs : List St} {tp : List Nat} (h : CR σ a hs tp) (hq : Same σ σ') : CR σ' a hs tp := h.cg (fun q hh => hq q (by omega))
theorem CN.same {σ σ' : Wd} (h : CN σ) (hq : Same σ σ') : CN σ' := ⟨by rw [hq 103 (by decide)]; exact h.1, by rw [hq 107 (by decide)]; exact h.2⟩
/-- all that counts of the class is as it was -/
def Keep (σ σ' : Wd) : Prop := ∀ q, ((1 ≤ q ∧ q ≤ 6) ∨ (13 ≤ q ∧ q ≤ 88) ∨ (93 ≤ q ∧ q ≤ 107)) → σ' q = σ q
theorem Same.keep {σ σ' : Wd} (h : Same σ σ') : Keep σ σ' := fun q hq => h q (by omega)
theorem Keep.tr {σ σ1 σ2 : Wd} (h : Keep σ σ1) (h' : Keep σ1 σ2) : Keep σ σ2 := fun q hq => by rw [h' q hq, h q hq]
theorem CR.keep {σ σ' : Wd} {a : St} {hs : List St} {tp : List Nat} (h : CR σ a hs tp) (hq : Keep σ σ') : CR σ' a hs tp := h.cg (fun q hh => hq q (by omega))
/-- what an act leaves -/
def AO (σ σ' : Wd) (a : St) (hs : List St) (tp : List Nat) : Prop := (Keep σ σ' ∧ MR σ' a hs tp) ∨ ∃ a', wf a' ∧ CR σ' a' (pushH hs a) tp ∧ CN σ' ∧ MR σ' a' (pushH hs a) tp
theorem AO.no {σ : Wd} {a : St} {hs : List St} {tp : List Nat} (h : MR σ a hs tp) : AO σ σ a hs tp := Or.inl ⟨(Same.rf σ).keep, h⟩
/-! sets, points, generators as they are asked -/
theorem p2_le {n : Nat} (h : n ≤ 7) : 2 ^ n ≤ 128 := Nat.pow_le_pow_right (n := 2) (by decide) h
theorem f_all : ∀ n, n ≤ 7 → ((1 : Int32) <<< (nI n &&& 31)) - 1 = nI (2 ^ n - 1) := by decide +kernel
theorem p2_pos (n : Nat) : 0 < 2 ^ n := Nat.two_pow_pos n
theorem c_set {σ : Wd} {a : St} (h : StR σ 1 a) (hw : wf a) {t : Nat} (ht : t < 2 ^ a.1) : X10_isSet σ (nI t) = 1 := by
  have := p2_le hw.1.2
  have := hw.1.2
  rw [X10_isSet, h.2.2.2, f_shl _ (by omega), if_neg (nneg (by omega)), if_neg (by rw [nle (by omega) (by omega)]; omega)]
theorem c_setN {σ : Wd} {a : St} (h : StR σ 1 a) (hw : wf a) {x : Int32} (hx : x < 0 ∨ nI (2 ^ a.1) ≤ x) : X10_isSet σ x = 0 := by
  have := hw.1.2
  rw [X10_isSet, h.2.2.2, f_shl _ (by omega)]
  rcases hx with h | h
  · rw [if_pos h]
  · by_cases h0 : x < 0
    · rw [if_pos h0]
    · rw [if_neg h0, if_pos h]
theorem in_yes {lo hi x : Nat} (h1 : lo ≤ x) (h2 : x ≤ hi) (h3 : hi < 2 ^ 31) : X11_in (nI x) (nI lo) (nI hi) = 1 := by
  rw [X11_in, if_neg (by rw [nlt (by omega) (by omega)]; omega), if_neg (by rw [nlt (by omega) (by omega)]; omega)]
theorem i32_le_lt {n : Nat} {x : Int32} (hn : n < 2 ^ 31) (h : nI (n + 1) ≤ x) (hn' : n + 1 < 2 ^ 31) : nI n < x := by
  rcases pk_ix x (n := n + 1) hn' with h0 | h0 | ⟨j, hj, rfl⟩
  · exfalso
    have h1 : ¬ nI (n + 1) < 0 := nneg hn'
    rw [Int32.lt_iff_toInt_lt] at h0 h1
    rw [Int32.le_iff_toInt_le] at h
    omega
  · rw [Int32.le_iff_toInt_le] at h
    have h2 : nI n < nI (n + 1) := by rw [nlt hn hn']; omega
    rw [Int32.lt_iff_toInt_lt] at h2 ⊢
    omega
  · rw [nle hn' (by omega)] at h; omega
theorem in_no {n : Nat} {x : Int32} (hn : n < 2 ^ 30) (hx : x < 0 ∨ nI n ≤ x) : X11_in x 0 (nI n - 1) = 0 := by
  rw [X11_in]
  by_cases h0 : x < 0
  · rw [if_pos h0]
  · rw [if_neg h0, if_pos]
    rcases hx with h | h
    · exact absurd h h0
    · cases n with
      | zero =>
        have e : nI 0 - 1 = -1 := by decide
        rw [e]
        rw [Int32.lt_iff_toInt_lt] at h0 ⊢
        have : (-1 : Int32).toInt = -1 := by decide
        have : (0 : Int32).toInt = 0 := by decide
        omega
      | succ m =>
        have e : nI (m + 1) - 1 = nI m := nsub (a := m + 1) (b := 1) (by omega)
        rw [e]
        exact i32_le_lt (by omega) h (by omega)
theorem in_in {n j : Nat} (hn : n < 2 ^ 30) (hj : j < n) : X11_in (nI j) 0 (nI n - 1) = 1 := by
  have e : nI n - 1 = nI (n - 1) := nsub (a := n) (b := 1) (by omega)
  rw [e]
  exact in_yes (lo := 0) (by omega) (by omega) (by omega)
theorem m_set {σ : Wd} {a : St} (h : MRow (σ 121) a) (hw : wf a) {t : Nat} (ht : t < 2 ^ a.1) : X11_isSet σ (nI t) = 1 := by
  have := p2_le hw.1.2
  have h7 := hw.1.2
  rw [X11_isSet, X11_allPoints, h.2.1, f_shl _ (by omega)]
  exact in_in (by omega) ht
theorem m_setN {σ : Wd} {a : St} (h : MRow (σ 121) a) (hw : wf a) {x : Int32} (hx : x < 0 ∨ nI (2 ^ a.1) ≤ x) : X11_isSet σ x = 0 := by
  have := p2_le hw.1.2
  have h7 := hw.1.2
  rw [X11_isSet, X11_allPoints, h.2.1, f_shl _ (by omega)]
  exact in_no (by omega) hx
theorem c_ix {y : Int32} {n : Nat} (h : y = nI n) (hn : n < 2 ^ 31) {j : Nat} (hj : j < n) : (if nI j < 0 then (0 : Int32) else if y ≤ nI j then 0 else 1) = 1 := by
  rw [h, if_neg (nneg (by omega)), if_neg (by rw [nle (by omega) (by omega)]; omega)]
theorem c_ixN {x y : Int32} {n : Nat} (h : y = nI n) (hx : x < 0 ∨ nI n ≤ x) : (if x < 0 then (0 : Int32) else if y ≤ x then 0 else 1) = 0 := by
  rw [h]
  rcases hx with h | h
  · rw [if_pos h]
  · by_cases h0 : x < 0
    · rw [if_pos h0]
    · rw [if_neg h0, if_pos h]
theorem c_fset {σ : Wd} {a : St} (h : StR σ 1 a) (hw : wf a) {t : Nat} (ht : t < 2 ^ a.1) (h0 : t ≠ 0) : X10_isFilledSet σ (nI t) = 1 := by
  have := p2_le hw.1.2
  rw [X10_isFilledSet, if_neg (nI_ne0 (by omega) (by omega)), c_set h hw ht]; rfl
theorem c_fset0 {σ : Wd} : X10_isFilledSet σ (nI 0) = 0 := by rw [X10_isFilledSet, if_pos nI_0]
theorem c_fsetN {σ : Wd} {a : St} (h : StR σ 1 a) (hw : wf a) {x : Int32} (hx : x < 0 ∨ nI (2 ^ a.1) ≤ x) : X10_isFilledSet σ x = 0 := by
  rw [X10_isFilledSet, c_setN h hw hx]
  by_cases e : x = 0
  · rw [if_pos e]
  · rw [if_neg e]; rfl
theorem there_ok {σ : Wd} {q f : Nat} {xs : List Nat} (hv : ∀ i, i < xs.length → σ q (f + i) = nI (xs.getD i 0)) (hl : f + xs.length ≤ kLn q) (hk : kLn q ≤ 512) (hb : ∀ x ∈ xs, x < 2 ^ 31) {t : Nat} (ht : t < 2 ^ 31) : X11_isThere σ q (nI f) (nI xs.length) (nI t) = some (if t ∈ xs then 1 else 0) := by
  unfold X11_isThere
  have := lp_find (body := X11_isThere_B3 (nI xs.length) (nI f) q σ (nI t)) xs (fun x => x == t) (fun k => nI k) (some 0) (fun _ => some 1) (s := 0) nI_0.symm (by omega) (fun k hk' hp rec => ?_) (fun k hk' hp rec => ?_) (fun rec => ?_)
  · rw [this]
    by_cases e : t ∈ xs
    · rw [if_pos e]
      cases h : xs.findIdx? (fun x => x == t) with
      | some k => rfl
      | none =>
        rw [List.findIdx?_eq_none_iff] at h
        have := h t e
        simp at this
    · rw [if_neg e]
      have : xs.findIdx? (fun x => x == t) = none := by
        rw [List.findIdx?_eq_none_iff]
        intro x hx
        simp only [beq_eq_false_iff_ne, ne_eq]
        exact fun h => e (h ▸ hx)
      rw [this]; rfl
  · have hb' := hb xs[k] (List.getElem_mem hk')
    rw [X11_isThere_B3, if_neg (by rw [nle (by omega) (by omega)]; omega), nI_add, ckA_n (by omega) (by omega), ncl (by omega), hv k hk', getD_lt hk', if_pos]
    rw [neq hb' ht]; simpa using hp
  · have hb' := hb xs[k] (List.getElem_mem hk')
    rw [X11_isThere_B3, if_neg (by rw [nle (by omega) (by omega)]; omega), nI_add, ckA_n (by omega) (by omega), ncl (by omega), hv k hk', getD_lt hk', if_neg, nI_1]
    rw [neq hb' ht]; simpa using hp
  · rw [X11_isThere_B3, if_pos (by rw [nle (by omega) (by omega)]; omega)]
theorem told_ok {σ : Wd} {a : St} (h : MRow (σ 121) a) (hw : wf a) {t : Nat} (ht : t < 128) : X11_isTold σ (nI t) = some (if t ∈ a.2.2.1 then 1 else 0) := by
  have h12 := hw.2.2.1.1
  rw [X11_isTold, X11_many, h.2.2.1, show (10 : Int32) = nI 10 from rfl, there_ok (fun i hi => h.2.2.2.2.2.1 i hi) (by rw [show kLn 121 = 42 from rfl]; omega) (by decide) (fun x hx => Nat.lt_trans (wf_lt hw x hx) (by decide)) (by omega)]
  rfl
theorem listed_ok {σ : Wd} {a : St} (h : MRow (σ 121) a) (hw : wf a) {t : Nat} (ht : t < 128) : X11_isListed σ (nI t) = some (if t ∈ a.2.2.2 then 1 else 0) := by
  have h12 := hw.2.2.2.1
  rw [X11_isListed, X11_listMany, h.2.2.2.1, show (22 : Int32) = nI 22 from rfl, there_ok (fun i hi => h.2.2.2.2.2.2 i hi) (by rw [show kLn 121 = 42 from rfl]; omega) (by decide) (fun x hx => Nat.lt_trans (wf_lt' hw x hx) (by decide)) (by omega)]
  rfl
