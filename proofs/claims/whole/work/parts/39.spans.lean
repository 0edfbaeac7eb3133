/-! ===== which sets are members ===== -/
def g00 : Nat → Int32 := fun t => if t = 0 then 1 else 0
def famB (gs : List Nat) (t : Nat) : Bool := decide (gs.foldl mpass g00 t ≠ 0)
theorem g00_mem : ∀ t, t < 128 → (g00 t ≠ 0 ↔ Mem [] t) := by
  intro t _
  constructor
  · intro h
    unfold g00 at h
    by_cases e : t = 0
    · subst e; exact Mem.zero _
    · rw [if_neg e] at h; exact absurd rfl h
  · rintro ⟨S, h1, h2⟩
    have : S = [] := by
      cases S with
      | nil => rfl
      | cons x r => exact absurd (h1 x (by simp)) (by simp)
    subst this
    rw [← h2]
    decide
theorem famB_iff {gs : List Nat} (hg : ∀ x ∈ gs, x < 128) {t : Nat} (ht : t < 128) : famB gs t = true ↔ Mem gs t := by
  unfold famB
  rw [decide_eq_true_iff]
  have := (mpass_mem gs [] g00 hg (by simp) (fun t _ => by unfold g00; by_cases e : t = 0 <;> simp [e]) g00_mem).2 t ht
  simpa using this
theorem famB_eq {gs hs : List Nat} (hg : ∀ x ∈ gs, x < 128) (hh : ∀ x ∈ hs, x < 128) (h : ∀ t, Mem gs t ↔ Mem hs t) {t : Nat} (ht : t < 128) : famB gs t = famB hs t := by
  have a := famB_iff hg ht
  have b := famB_iff hh ht
  have c := h t
  cases h1 : famB gs t <;> cases h2 : famB hs t <;> simp_all
/-- the sets in their order -/
def ordS : List Nat := (List.range 8).flatMap (fun k => (List.range 128).filter (fun s => pc s == k))
theorem ordS_len : ordS.length = 128 := by decide +kernel
theorem ordS_lt : ∀ x ∈ ordS, x < 128 := by decide +kernel
theorem ordS_all : ∀ x, x < 128 → x ∈ ordS := by decide +kernel
theorem ordS_nd : ordS.Nodup := by decide +kernel
def mems (gs : List Nat) : List Nat := ordS.filter (famB gs)
theorem mems_mem {gs : List Nat} (hg : ∀ x ∈ gs, x < 128) {t : Nat} : t ∈ mems gs ↔ Mem gs t := by
  unfold mems
  rw [List.mem_filter]
  constructor
  · rintro ⟨h1, h2⟩; exact (famB_iff hg (ordS_lt t h1)).mp h2
  · intro h
    have := h.lt hg
    exact ⟨ordS_all t this, (famB_iff hg this).mpr h⟩
theorem mems_lt {gs : List Nat} {t : Nat} (h : t ∈ mems gs) : t < 128 := ordS_lt t (List.mem_filter.mp h).1
theorem mems_len (gs : List Nat) : (mems gs).length ≤ 128 := by
  unfold mems
  have := List.length_filter_le (famB gs) ordS
  rw [ordS_len] at this
  exact this
theorem mems_nd (gs : List Nat) : (mems gs).Nodup := List.Pairwise.filter _ ordS_nd
theorem mems_getD {gs : List Nat} {k : Nat} (hk : k < (mems gs).length) : (mems gs).getD k 0 ∈ mems gs := by
  rw [List.getD_eq_getElem?_getD, List.getElem?_eq_getElem hk]
  exact List.getElem_mem hk
theorem mems_getD_lt {gs : List Nat} {k : Nat} (hk : k < (mems gs).length) : (mems gs).getD k 0 < 128 := mems_lt (mems_getD hk)
theorem mems_zero {gs : List Nat} (hg : ∀ x ∈ gs, x < 128) : 0 ∈ mems gs := (mems_mem hg).mpr (Mem.zero gs)
/-! the reference's spans -/
theorem spans_pass {σ : Wd} {q own : Nat} {kx : Wd → Option Wd} (hl : kLn q = 128) (ho : own < 128) (g : Nat → Int32) : lp (X11_spans_B76 q (nI own) kx) FU (0, sA σ q g) = kx (sA σ q (mpass g own)) := by
  unfold mpass
  refine lp_fold (List.range 128) (mstep own) (fun g k => (nI k, sA σ q g)) g (fun g => kx (sA σ q g)) (fun _ _ => True) trivial (fun _ _ _ _ => trivial) (by rw [nI_0]) (by simp) (fun k g' hk _ rec => ?_) (fun g' _ rec => ?_)
  · simp only [List.length_range] at hk
    rw [List.getElem_range]
    show X11_spans_B76 q (nI own) kx rec (nI k, sA σ q g') = rec (nI (k + 1), sA σ q (mstep own g' k))
    have hu : k ||| own < 128 := or_lt hk ho
    rw [X11_spans_B76, if_neg (le128 hk), hl, ckA_n hk (by omega), ncl (by omega), sA_at, f_or k hk own ho, ncl (by omega)]
    unfold mstep
    by_cases h : g' k = 0
    · rw [if_pos h, if_pos h, X11_spans_J99, nI_1]
    · rw [if_neg h, if_neg h, ckA_n hu (by omega), X11_spans_J99, nI_1, up_sA]
  · rw [List.length_range]
    show X11_spans_B76 q (nI own) kx rec (nI 128, sA σ q g') = _
    rw [X11_spans_B76, if_pos ge128]
theorem spans_init {σ : Wd} {q : Nat} {kx : Wd → Option Wd} (hl : kLn q = 128) : ∃ g, lp (X11_spans_B3 q kx) FU (0, σ) = kx (sA σ q g) ∧ (∀ t, t < 128 → g t = g00 t) ∧ ∀ t, 128 ≤ t → g t = σ q t := by
  obtain ⟨f, hf⟩ : ∃ f : Nat → Nat → Int32, ∀ k t, f k t = if t < k then g00 t else σ q t := ⟨fun k t => if t < k then g00 t else σ q t, fun _ _ => rfl⟩
  refine ⟨f 128, ?_, fun t ht => by rw [hf, if_pos ht], fun t ht => by rw [hf, if_neg (by omega)]⟩
  refine lp_tr (fun k => (nI k, sA σ q (f k))) 128 _ ?_ (by omega) (fun k hk rec => ?_) (fun rec => ?_)
  · show ((0 : Int32), σ) = (nI 0, sA σ q (f 0))
    rw [nI_0]
    congr 1
    have : f 0 = σ q := by funext t; rw [hf, if_neg (by omega)]
    rw [this, sA_self]
  · show X11_spans_B3 q kx rec (nI k, sA σ q (f k)) = rec (nI (k + 1), sA σ q (f (k + 1)))
    have hn : ∀ x, x = g00 k → upd (f k) k x = f (k + 1) := by
      intro x hx
      funext t
      unfold upd
      rw [hf, hf]
      by_cases e : t = k
      · rw [if_pos e, if_pos (by omega), hx, e]
      · rw [if_neg e]
        by_cases e2 : t < k
        · rw [if_pos e2, if_pos (by omega)]
        · rw [if_neg e2, if_neg (by omega)]
    rw [X11_spans_B3, if_neg (le128 hk), hl, ckA_n hk (by omega), ckA_n hk (by omega), ncl (by omega)]
    by_cases e : k = 0
    · subst e
      rw [if_pos nI_0, X11_spans_J25, nI_1, up_sA, hn 1 rfl]
    · rw [if_neg (nI_ne0 (by omega) (by omega)), X11_spans_J25, nI_1, up_sA, hn 0 (by unfold g00; rw [if_neg e])]
  · show X11_spans_B3 q kx rec (nI 128, sA σ q (f 128)) = _
    rw [X11_spans_B3, if_pos ge128]
theorem gen_ok {σ : Wd} {a : St} (h : MRow (σ 121) a) {i : Nat} (hi : i < a.2.2.1.length) : X11_gen σ (nI i) = some (nI (a.2.2.1.getD i 0)) := by
  obtain ⟨h0, h1, h2, h3, h4, h5, h6⟩ := h
  unfold X11_gen
  rw [show (10 : Int32) = nI 10 from rfl, nI_add, ckA_n (by omega) (by omega), ncl (by omega), h5 i hi]
/-- the generators that take part: all but one (told by x), and one more -/
def ownsOf (gs : List Nat) (x : Int32) (more : Nat) : List Nat := ((List.range (gs.length + 1)).filter (fun j => decide (nI j ≠ x))).map (fun j => if j < gs.length then gs.getD j 0 else more)
theorem spans_ok {σ : Wd} {a : St} {q : Nat} {x : Int32} {more : Nat} (ha : MRow (σ 121) a) (hl : kLn q = 128) (hq : q ≠ 121) (hg : ∀ g ∈ a.2.2.1, g < 128) (hm : more < 128) : ∃ g, X11_spans σ q x (nI more) = some (sA σ q g) ∧ (∀ t, t < 128 → g t = 0 ∨ g t = 1) ∧ ∀ t, t < 128 → (g t ≠ 0 ↔ Mem (ownsOf a.2.2.1 x more) t) := by
  obtain ⟨g0, e0, h0, -⟩ := spans_init (σ := σ) (q := q) (kx := X11_spans_T31 x q (nI more)) hl
  have hown : ∀ j, (if j < a.2.2.1.length then a.2.2.1.getD j 0 else more) < 128 := by
    intro j
    by_cases h : j < a.2.2.1.length
    · rw [if_pos h]
      apply hg
      rw [List.getD_eq_getElem?_getD, List.getElem?_eq_getElem h]
      exact List.getElem_mem h
    · rw [if_neg h]; exact hm
  refine ⟨(ownsOf a.2.2.1 x more).foldl mpass g0, ?_, ?_⟩
  · unfold X11_spans
    rw [e0]
    unfold X11_spans_T31
    have hfold : (ownsOf a.2.2.1 x more).foldl mpass g0 = (List.range (a.2.2.1.length + 1)).foldl (fun g j => if nI j = x then g else mpass g (if j < a.2.2.1.length then a.2.2.1.getD j 0 else more)) g0 := by
      unfold ownsOf
      rw [List.foldl_map, List.foldl_filter]
      congr 1
      funext g j
      by_cases h : nI j = x
      · simp [h]
      · simp [h]
    rw [hfold]
    refine lp_fold (List.range (a.2.2.1.length + 1)) _ (fun g j => (nI j, sA σ q g)) g0 (fun g => some (sA σ q g)) (fun _ _ => True) trivial (fun _ _ _ _ => trivial) (by rw [nI_0]) (by have := ha.1.1; simp; omega) (fun j g hj _ rec => ?_) (fun g _ rec => ?_)
    · simp only [List.length_range] at hj
      rw [List.getElem_range]
      show X11_spans_B34 x q (nI more) rec (nI j, sA σ q g) = rec (nI (j + 1), sA σ q (if nI j = x then g else mpass g (if j < a.2.2.1.length then a.2.2.1.getD j 0 else more)))
      have hmany : X11_many (sA σ q g) = nI a.2.2.1.length := by
        unfold X11_many
        rw [sA_ne _ _ (Ne.symm hq)]
        exact ha.2.2.1
      have h12 := ha.1.1
      have ha' : MRow (sA σ q g 121) a := by rw [sA_ne _ _ (Ne.symm hq)]; exact ha
      rw [X11_spans_B34, hmany, if_neg (by rw [nlt (by omega) (by omega)]; omega)]
      by_cases hx : nI j = x
      · rw [if_pos hx, if_pos hx, X11_spans_J105, nI_1]
      · rw [if_neg hx, if_neg hx]
        by_cases hlt : j < a.2.2.1.length
        · rw [if_neg (by rw [nle (by omega) (by omega)]; omega), gen_ok ha' hlt, if_pos hlt]
          show X11_spans_J73 q rec (nI j) (nI (a.2.2.1.getD j 0)) (sA σ q g) = _
          have := hown j
          rw [if_pos hlt] at this
          unfold X11_spans_J73
          rw [spans_pass hl this, X11_spans_T105, X11_spans_J105, nI_1]
        · rw [if_pos (by rw [nle (by omega) (by omega)]; omega), if_neg hlt]
          unfold X11_spans_J73
          rw [spans_pass hl hm, X11_spans_T105, X11_spans_J105, nI_1]
    · rw [List.length_range]
      show X11_spans_B34 x q (nI more) rec (nI (a.2.2.1.length + 1), sA σ q g) = _
      have hmany : X11_many (sA σ q g) = nI a.2.2.1.length := by
        unfold X11_many
        rw [sA_ne _ _ (Ne.symm hq)]
        exact ha.2.2.1
      have h12 := ha.1.1
      rw [X11_spans_B34, hmany, if_pos (by rw [nlt (by omega) (by omega)]; omega)]
  · have hb : ∀ t, t < 128 → g0 t = 0 ∨ g0 t = 1 := fun t ht => by
      rw [h0 t ht]; unfold g00; by_cases e : t = 0 <;> simp [e]
    have := mpass_mem (ownsOf a.2.2.1 x more) [] g0 (fun y hy => by
      unfold ownsOf at hy
      obtain ⟨j, -, rfl⟩ := List.mem_map.mp hy
      exact hown j) (by simp) hb (fun t ht => by rw [h0 t ht]; exact g00_mem t ht)
    simpa using this
