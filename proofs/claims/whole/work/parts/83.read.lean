/-! texts: what is read, as lists -/
def blk (c : Nat) : Bool := c == 32 || c == 10
def ltr (c : Nat) : Bool := decide (97 ≤ c) && decide (c ≤ 122)
def runP (P : Nat → Bool) (tp : List Nat) (i : Nat) : Nat := i + ((tp.drop i).takeWhile P).length
theorem run_go {P : Nat → Bool} {tp : List Nat} {i : Nat} (h : i < tp.length) (hp : P (tp.getD i 0) = true) : runP P tp i = runP P tp (i + 1) := by
  unfold runP
  rw [getD_lt h] at hp
  rw [List.drop_eq_getElem_cons h, List.takeWhile_cons_of_pos hp, List.length_cons]; omega
theorem run_st {P : Nat → Bool} {tp : List Nat} {i : Nat} (h : ¬ (i < tp.length ∧ P (tp.getD i 0) = true)) : runP P tp i = i := by
  unfold runP
  by_cases e : i < tp.length
  · have hp : ¬ P tp[i] = true := fun hh => h ⟨e, by rw [getD_lt e]; exact hh⟩
    rw [List.drop_eq_getElem_cons e, List.takeWhile_cons_of_neg hp]; rfl
  · rw [List.drop_eq_nil_of_le (by omega)]; rfl
theorem run_ge (P : Nat → Bool) (tp : List Nat) (i : Nat) : i ≤ runP P tp i := Nat.le_add_right _ _
theorem run_le (P : Nat → Bool) (tp : List Nat) (i : Nat) : runP P tp i ≤ i ∨ runP P tp i ≤ tp.length := by
  unfold runP
  have h1 : ((tp.drop i).takeWhile P).length ≤ (tp.drop i).length := (List.takeWhile_prefix P).length_le
  rw [List.length_drop] at h1
  omega
theorem run_end {P : Nat → Bool} {tp : List Nat} : ∀ (d i : Nat), tp.length - i ≤ d → ¬ (runP P tp i < tp.length ∧ P (tp.getD (runP P tp i) 0) = true)
  | 0, i, h => by
    rw [run_st (by omega)]; omega
  | d + 1, i, h => by
    by_cases e : i < tp.length ∧ P (tp.getD i 0) = true
    · rw [run_go e.1 e.2]; exact run_end d (i + 1) (by omega)
    · rw [run_st e]; exact e
theorem run_in {P : Nat → Bool} {tp : List Nat} : ∀ (d i j : Nat), tp.length - i ≤ d → i ≤ j → j < runP P tp i → j < tp.length ∧ P (tp.getD j 0) = true
  | 0, i, j, h, h1, h2 => by
    rw [run_st (by omega)] at h2; omega
  | d + 1, i, j, h, h1, h2 => by
    by_cases e : i < tp.length ∧ P (tp.getD i 0) = true
    · by_cases ej : j = i
      · rw [ej]; exact e
      · rw [run_go e.1 e.2] at h2
        exact run_in d (i + 1) j (by omega) (by omega) h2
    · rw [run_st e] at h2; omega
def skp (tp : List Nat) (i : Nat) : Nat := runP blk tp i
def lnd (tp : List Nat) (i : Nat) : Nat := runP ltr tp i
def blkAt (tp : List Nat) (i : Nat) : Bool := decide (i < tp.length) && blk (tp.getD i 0)
def ltrAt (tp : List Nat) (i : Nat) : Bool := decide (i < tp.length) && ltr (tp.getD i 0)
theorem f_blk : ∀ c, c < 256 → X3_isBlank (nI c) = bI (blk c) := by decide +kernel
theorem f_ltr : ∀ c, c < 256 → X3_isLetter (nI c) = bI (ltr c) := by decide +kernel
theorem atv_i {tp : List Nat} {i : Nat} (hl : tp.length ≤ 300) (hi : i < 2 ^ 31) : atv tp (nI i) = if i < tp.length then nI (tp.getD i 0) else -1 := by
  by_cases e : i < tp.length
  · rw [if_pos e, atv_in e (by omega)]
  · rw [if_neg e, atv_out (Or.inr (by rw [nle (by omega) hi]; omega))]
theorem byte_at {tp : List Nat} (hb : ∀ x ∈ tp, x < 256) {i : Nat} (hi : i < tp.length) : tp.getD i 0 < 256 := by
  rw [getD_lt hi]; exact hb _ (List.getElem_mem hi)
theorem at_blk {tp : List Nat} (hl : tp.length ≤ 300) (hb : ∀ x ∈ tp, x < 256) {i : Nat} (hi : i < 2 ^ 31) : X3_isBlank (atv tp (nI i)) = bI (blkAt tp i) := by
  rw [atv_i hl hi, blkAt]
  by_cases e : i < tp.length
  · rw [if_pos e, f_blk _ (byte_at hb e), decide_eq_true e, Bool.true_and]
  · rw [if_neg e, decide_eq_false e, Bool.false_and]; rfl
theorem at_ltr {tp : List Nat} (hl : tp.length ≤ 300) (hb : ∀ x ∈ tp, x < 256) {i : Nat} (hi : i < 2 ^ 31) : X3_isLetter (atv tp (nI i)) = bI (ltrAt tp i) := by
  rw [atv_i hl hi, ltrAt]
  by_cases e : i < tp.length
  · rw [if_pos e, f_ltr _ (byte_at hb e), decide_eq_true e, Bool.true_and]
  · rw [if_neg e, decide_eq_false e, Bool.false_and]; rfl
theorem up_up (σ : Wd) (a i : Nat) (x y : Int32) : up (up σ a i x) a i y = up σ a i y := by
  funext q j
  rw [up_get, up_get, up_get]
  by_cases e : q = a ∧ j = i
  · rw [if_pos e, if_pos e]
  · rw [if_neg e, if_neg e, if_neg e]
theorem up_self {σ : Wd} {a i : Nat} {x : Int32} (h : σ a i = x) : up σ a i x = σ := by
  funext q j
  rw [up_get]
  by_cases e : q = a ∧ j = i
  · rw [if_pos e, e.1, e.2, h]
  · rw [if_neg e]
theorem row87 {τ : Wd} {tp : List Nat} (h : RowR τ 87 tp) (hl : tp.length ≤ 300) (x : Int32) : X4_at τ 87 x = some (atv tp x) := row_at h hl (by decide) x
theorem skip_n {tp : List Nat} (hl : tp.length ≤ 300) (hb : ∀ x ∈ tp, x < 256) : ∀ (d i f : Nat) (τ : Wd), tp.length - i ≤ d → d < f → i < 1000 → RowR τ 87 tp → τ 89 2 = nI i → lp X3_skipGap_B0 f τ = some (up τ 89 2 (nI (skp tp i)))
  | d, i, 0, τ, h1, h2, h3, hr, hp => by omega
  | d, i, f + 1, τ, h1, h2, h3, hr, hp => by
    show X3_skipGap_B0 (lp X3_skipGap_B0 f) τ = _
    rw [X3_skipGap_B0, hr.1, hp]
    by_cases e : i < tp.length
    · rw [if_neg (by rw [nle (by omega) (by omega)]; omega), row87 hr hl, sbind, at_blk hl hb (by omega)]
      by_cases e2 : blk (tp.getD i 0) = true
      · rw [blkAt, decide_eq_true e, e2, if_neg (by decide), nI_1]
        cases d with
        | zero => omega
        | succ d =>
          rw [skip_n hl hb d (i + 1) f (up τ 89 2 (nI (i + 1))) (by omega) (by omega) (by omega) (hr.cg (up_ne _ _ _ (by decide)) (up_ne _ _ _ (by decide))) (by rw [up_at]; exact if_pos rfl), up_up, skp, skp, run_go e e2]
      · rw [blkAt, decide_eq_true e, show blk (tp.getD i 0) = false by simpa using e2, if_pos (by decide), skp, run_st (fun h => e2 h.2), up_self hp]
    · rw [if_pos (by rw [nle (by omega) (by omega)]; omega), skp, run_st (fun h => e h.1), up_self hp]
theorem skipC {τ : Wd} {tp : List Nat} (hl : tp.length ≤ 300) (hb : ∀ x ∈ tp, x < 256) {i : Nat} (hi : i < 1000) (hr : RowR τ 87 tp) (hp : τ 89 2 = nI i) : X3_skipGap τ = some (up τ 89 2 (nI (skp tp i))) :=
  skip_n hl hb tp.length i FU τ (by omega) (by show tp.length < 4096; omega) hi hr hp
theorem lend_n {tp : List Nat} (hl : tp.length ≤ 300) (hb : ∀ x ∈ tp, x < 256) {τ : Wd} (hr : RowR τ 87 tp) : ∀ (d i f : Nat), tp.length - i ≤ d → d < f → i < 1000 → lp (X3_lettersEnd_B2 τ) f (nI i) = some (nI (lnd tp i))
  | d, i, 0, h1, h2, h3 => by omega
  | d, i, f + 1, h1, h2, h3 => by
    show X3_lettersEnd_B2 τ (lp (X3_lettersEnd_B2 τ) f) (nI i) = _
    rw [X3_lettersEnd_B2, hr.1]
    by_cases e : i < tp.length
    · rw [if_neg (by rw [nle (by omega) (by omega)]; omega), row87 hr hl, sbind, at_ltr hl hb (by omega)]
      by_cases e2 : ltr (tp.getD i 0) = true
      · rw [ltrAt, decide_eq_true e, e2, if_neg (by decide), nI_1]
        cases d with
        | zero => omega
        | succ d => rw [lend_n hl hb hr d (i + 1) f (by omega) (by omega) (by omega), lnd, lnd, run_go e e2]
      · rw [ltrAt, decide_eq_true e, show ltr (tp.getD i 0) = false by simpa using e2, if_pos (by decide), lnd, run_st (fun h => e2 h.2)]
    · rw [if_pos (by rw [nle (by omega) (by omega)]; omega), lnd, run_st (fun h => e h.1)]
theorem lendC {τ : Wd} {tp : List Nat} (hl : tp.length ≤ 300) (hb : ∀ x ∈ tp, x < 256) {i : Nat} (hi : i < 1000) (hr : RowR τ 87 tp) : X3_lettersEnd τ (nI i) = some (nI (lnd tp i)) :=
  lend_n hl hb hr tp.length i FU (by omega) (by show tp.length < 4096; omega) hi
/-! words -/
def isW (tp : List Nat) (w s e : Nat) : Bool := decide (e - s = (Wd_ w).length) && (List.range (Wd_ w).length).all (fun i => tp.getD (s + i) 0 == (Wd_ w).getD i 0)
theorem W_lt : ∀ w, w < 3 → ∀ i, i < (Wd_ w).length → (Wd_ w).getD i 0 < 128 := by decide
theorem isWC {τ : Wd} {tp : List Nat} (hl : tp.length ≤ 300) (hb : ∀ x ∈ tp, x < 256) (hr : RowR τ 87 tp) {w s e : Nat} (hw : w < 3) (hse : s ≤ e) (he : e ≤ tp.length) : X3_isWord τ (nI s) (nI e) w = some (bI (isW tp w s e)) := by
  obtain ⟨wl, wn⟩ := W_len w hw
  rw [X3_isWord, wn, nsub hse, isW]
  by_cases h : e - s = (Wd_ w).length
  · rw [if_pos (by rw [h]), decide_eq_true h, Bool.true_and]
    have := lp_find (body := X3_isWord_B15 w τ (nI s)) (List.range (Wd_ w).length) (fun i => !(tp.getD (s + i) 0 == (Wd_ w).getD i 0)) (fun k => nI k) (some 1) (fun _ => some 0) (s := 0) nI_0.symm (by simp; omega) (fun k hk hb' rec => ?_) (fun k hk hb' rec => ?_) (fun rec => ?_)
    · rw [this]
      cases hf : (List.range (Wd_ w).length).findIdx? (fun i => !(tp.getD (s + i) 0 == (Wd_ w).getD i 0)) with
      | none =>
        rw [List.findIdx?_eq_none_iff] at hf
        have ha : (List.range (Wd_ w).length).all (fun i => tp.getD (s + i) 0 == (Wd_ w).getD i 0) = true := by
          rw [List.all_eq_true]
          intro c hc
          have := hf c hc
          simpa only [Bool.not_eq_false'] using this
        rw [ha]; rfl
      | some k =>
        rw [List.findIdx?_eq_some_iff_getElem] at hf
        obtain ⟨hk, hp, -⟩ := hf
        have ha : (List.range (Wd_ w).length).all (fun i => tp.getD (s + i) 0 == (Wd_ w).getD i 0) = false := by
          rw [List.all_eq_false]
          exact ⟨_, List.getElem_mem hk, by simpa using hp⟩
        rw [ha]; rfl
    · simp only [List.length_range] at hk
      rw [List.getElem_range] at hb'
      have h1 : s + k < tp.length := by omega
      have b1 := byte_at hb h1
      have b2 := W_lt w hw k hk
      have hne : tp.getD (s + k) 0 ≠ (Wd_ w).getD k 0 := by simpa using hb'
      rw [X3_isWord_B15, wn, if_neg (by rw [nle (by omega) (by omega)]; omega), nI_add, row87 hr hl, sbind, atv_i hl (by omega), if_pos h1, ckA_n hk (by omega), ncl (by omega), W_sb w hw k hk, if_neg (by rw [neq (by omega) (by omega)]; exact hne)]
    · simp only [List.length_range] at hk
      rw [List.getElem_range] at hb'
      have h1 : s + k < tp.length := by omega
      have heq : tp.getD (s + k) 0 = (Wd_ w).getD k 0 := by simpa using hb'
      rw [X3_isWord_B15, wn, if_neg (by rw [nle (by omega) (by omega)]; omega), nI_add, row87 hr hl, sbind, atv_i hl (by omega), if_pos h1, ckA_n hk (by omega), ncl (by omega), W_sb w hw k hk, if_pos (by rw [heq]), nI_1]
    · rw [List.length_range, X3_isWord_B15, wn, if_pos (by rw [nle (by omega) (by omega)]; omega)]
  · rw [if_neg (by rw [neq (by omega) (by omega)]; exact h), decide_eq_false h, Bool.false_and]; rfl
/-! the reader's places -/
def RP : List Nat := [7, 8, 9, 10, 11, 12, 89]
def RS (σ : Wd) (tp : List Nat) (a : St) (p : Nat) (τ : Wd) : Prop := τ 89 2 = nI p ∧ τ 89 3 = -1 ∧ StR τ 7 a ∧ RowR τ 87 tp ∧ Fr σ τ RP
def WK (σ : Wd) (tp : List Nat) (f K : Nat) (τ : Wd) : Prop := (∃ p, p ≤ K ∧ τ 89 2 = nI p) ∧ τ 89 3 = nI f ∧ (∃ L, L ≤ 12 ∧ τ 8 1 = nI L) ∧ RowR τ 87 tp ∧ Fr σ τ RP
theorem fr_up89 {σ τ : Wd} (h : Fr σ τ RP) (i : Nat) (x : Int32) : Fr σ (up τ 89 i x) RP := (h.tr (Fr.up (ps := RP) (by simp [RP]))).mono (by simp [RP])
theorem RS.pos {σ τ : Wd} {tp : List Nat} {a : St} {p : Nat} (h : RS σ tp a p τ) (p' : Nat) : RS σ tp a p' (up τ 89 2 (nI p')) := by
  obtain ⟨h1, h2, h3, h4, h5⟩ := h
  refine ⟨by rw [up_at]; exact if_pos rfl, by rw [up_at]; unfold upd; rw [if_neg (by decide)]; exact h2, h3.cg (fun q hq => up_ne _ _ _ (by simp only [stP, List.mem_cons, List.not_mem_nil, or_false] at hq; omega)), h4.cg (up_ne _ _ _ (by decide)) (up_ne _ _ _ (by decide)), fr_up89 h5 _ _⟩
theorem WK.pos {σ τ : Wd} {tp : List Nat} {f K : Nat} (h : WK σ tp f K τ) {p' K' : Nat} (hp : p' ≤ K') : WK σ tp f K' (up τ 89 2 (nI p')) := by
  obtain ⟨h1, h2, ⟨L, l1, l2⟩, h4, h5⟩ := h
  exact ⟨⟨p', hp, by rw [up_at]; exact if_pos rfl⟩, by rw [up_at]; unfold upd; rw [if_neg (by decide)]; exact h2, ⟨L, l1, by rw [up_ne _ _ _ (by decide)]; exact l2⟩, h4.cg (up_ne _ _ _ (by decide)) (up_ne _ _ _ (by decide)), fr_up89 h5 _ _⟩
theorem WK.mono {σ τ : Wd} {tp : List Nat} {f K K' : Nat} (h : WK σ tp f K τ) (hk : K ≤ K') : WK σ tp f K' τ := by
  obtain ⟨⟨p, p1, p2⟩, h2⟩ := h
  exact ⟨⟨p, by omega, p2⟩, h2⟩
theorem RS.fail {σ τ : Wd} {tp : List Nat} {a : St} {p : Nat} (h : RS σ tp a p τ) (hg : a.2.2.1.length ≤ 12) (f : Nat) : X3_fail τ (nI f) = up τ 89 3 (nI f) ∧ WK σ tp f p (up τ 89 3 (nI f)) := by
  obtain ⟨h1, h2, h3, h4, h5⟩ := h
  refine ⟨by rw [X3_fail, if_pos h2], ⟨p, Nat.le_refl _, by rw [up_at]; unfold upd; rw [if_neg (by decide)]; exact h1⟩, by rw [up_at]; exact if_pos rfl, ⟨_, hg, by rw [up_ne _ _ _ (by decide)]; exact h3.1.1⟩, h4.cg (up_ne _ _ _ (by decide)) (up_ne _ _ _ (by decide)), fr_up89 h5 _ _⟩
theorem WK.fail {σ τ : Wd} {tp : List Nat} {f K : Nat} (h : WK σ tp f K τ) (hf : f < 1000) (x : Int32) : X3_fail τ x = τ := by
  rw [X3_fail, if_neg (by rw [h.2.1]; exact m1_ne f (by omega))]
theorem wk_skip {σ τ : Wd} {tp : List Nat} (hl : tp.length ≤ 300) (hb : ∀ x ∈ tp, x < 256) {f K : Nat} (h : WK σ tp f K τ) (hK : 300 ≤ K) (hK' : K < 900) : ∃ τ', X3_skipGap τ = some τ' ∧ WK σ tp f K τ' := by
  obtain ⟨p, p1, p2⟩ := h.1
  have := run_le blk tp p
  exact ⟨_, skipC hl hb (by omega) h.2.2.2.1 p2, h.pos (by unfold skp; omega)⟩
theorem wk_gap {σ τ : Wd} {tp : List Nat} (hl : tp.length ≤ 300) (hb : ∀ x ∈ tp, x < 256) {f K : Nat} (hf : f < 1000) (h : WK σ tp f K τ) (hK : 300 ≤ K) (hK' : K < 900) : ∃ τ', X3_expectGap τ = some τ' ∧ WK σ tp f K τ' := by
  obtain ⟨τ', t1, t2⟩ := wk_skip hl hb h hK hK'
  refine ⟨τ', ?_, t2⟩
  rw [X3_expectGap, row87 h.2.2.2.1 hl, sbind, h.fail hf, t1, sbind]
  by_cases e : X3_isBlank (atv tp (τ 89 2)) = 0
  · rw [if_pos e]
  · rw [if_neg e]
theorem wk_dig {σ τ : Wd} {tp : List Nat} (hl : tp.length ≤ 300) {f K : Nat} (hf : f < 1000) (h : WK σ tp f K τ) (x y : Int32) : ∃ d τ', X3_readDigit τ x y = some (d, τ') ∧ WK σ tp f (K + 1) τ' := by
  obtain ⟨p, p1, p2⟩ := h.1
  rw [X3_readDigit, row87 h.2.2.2.1 hl, sbind, h.fail hf]
  by_cases e : atv tp (τ 89 2) - 48 < x
  · exact ⟨_, _, by rw [if_pos e], h.mono (by omega)⟩
  · by_cases e2 : atv tp (τ 89 2) - 48 ≤ y
    · exact ⟨_, _, by rw [if_neg e, if_pos e2, p2, nI_1], h.pos (by omega)⟩
    · exact ⟨_, _, by rw [if_neg e, if_neg e2], h.mono (by omega)⟩
theorem wk_end {σ τ : Wd} {tp : List Nat} (hl : tp.length ≤ 300) (hb : ∀ x ∈ tp, x < 256) {f K : Nat} (hf : f < 1000) (h : WK σ tp f K τ) (hK : 300 ≤ K) (hK' : K < 900) : ∃ τ', X3_expectEnd τ = some τ' ∧ WK σ tp f (K + 1) τ' := by
  obtain ⟨τ1, t1, t2⟩ := wk_skip hl hb h hK hK'
  obtain ⟨p, p1, p2⟩ := t2.1
  refine ⟨up τ1 89 2 (nI (p + 1)), ?_, t2.pos (by omega)⟩
  rw [X3_expectEnd, t1, sbind, row87 t2.2.2.2.1 hl, sbind, t2.fail hf, p2, nI_1]
  by_cases e : atv tp (nI p) = 59
  · rw [if_pos e]
  · rw [if_neg e]
