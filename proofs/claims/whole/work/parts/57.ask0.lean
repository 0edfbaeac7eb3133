/-! what is asked: small facts -/
def QO (σ σ2 : Wd) (a : St) (hs : List St) (tp : List Nat) : Prop := Same σ σ2 ∧ MR σ2 a hs tp
theorem QO.no {σ : Wd} {a : St} {hs : List St} {tp : List Nat} (h : MR σ a hs tp) : QO σ σ a hs tp := ⟨Same.rf σ, h⟩
theorem nn_ix (x : Int32) : x < 0 ∨ ∃ j, j < 2 ^ 31 ∧ x = nI j := by
  by_cases h : x < 0
  · exact Or.inl h
  · right
    rw [Int32.lt_iff_toInt_lt] at h
    have h0 : (0 : Int32).toInt = 0 := by decide
    have h1 := x.toInt_lt
    refine ⟨x.toInt.toNat, by omega, ?_⟩
    apply Int32.toInt_inj.mp
    rw [nI_toInt (by omega)]
    omega
theorem out_ne {x : Int32} {n k : Nat} (hn : n < 2 ^ 31) (h : x < 0 ∨ nI n ≤ x) (hk : k < n) : x ≠ nI k := by
  intro e
  subst e
  rcases h with h | h
  · exact nneg (by omega) h
  · rw [nle hn (by omega)] at h; omega
theorem atv_out {xs : List Nat} {x : Int32} (h : x < 0 ∨ nI xs.length ≤ x) : atv xs x = -1 := if_pos h
theorem ordS_perm : ordS.Perm (List.range 128) := by
  apply (List.isPerm_iff).mp
  decide +kernel
theorem ordS_pc : ordS.Pairwise (fun a b => pc a ≤ pc b) := by decide +kernel
theorem mems_pc (gs : List Nat) : (mems gs).Pairwise (fun a b => pc a ≤ pc b) := List.Pairwise.filter _ ordS_pc
theorem f_sub_pc : ∀ a, a < 128 → ∀ b, b < 128 → a &&& b = a → pc b ≤ pc a → a = b := by decide +kernel
theorem f_pc_sub : ∀ a, a < 128 → ∀ b, b < 128 → a &&& b = a → pc a ≤ pc b := by decide +kernel
theorem f_pc8 : ∀ a, a < 128 → pc a < 8 := by decide +kernel
theorem cnt_range (gs : List Nat) (q : Nat → Bool) : (List.range 128).countP (fun t => famB gs t && q t) = (mems gs).countP q := by
  rw [mems, List.countP_filter, ← ordS_perm.countP_eq]
  congr 1
  funext t
  exact Bool.and_comm _ _
theorem many_range (gs : List Nat) : (List.range 128).countP (fun t => famB gs t) = (mems gs).length := by
  have := cnt_range gs (fun _ => true)
  simpa using this
theorem mems_pos {gs : List Nat} (hg : ∀ x ∈ gs, x < 128) : 0 < (mems gs).length := List.length_pos_of_mem (mems_zero hg)
/-- the greatest member -/
theorem top_un {gs : List Nat} (hg : ∀ x ∈ gs, x < 128) {t : Nat} (ht : t = (mems gs).getD ((mems gs).length - 1) 0) : ∀ m ∈ mems gs, m &&& t = m := by
  have hp := mems_pos hg
  have hl : (mems gs).length - 1 < (mems gs).length := by omega
  rw [getD_lt hl] at ht
  have hU : Mem gs (un gs) := ⟨gs, fun _ h => h, rfl⟩
  have hUm := (mems_mem hg).mpr hU
  have hsub : ∀ m, m ∈ mems gs → m &&& un gs = m := by
    intro m hm
    obtain ⟨S, s1, s2⟩ := (mems_mem hg).mp hm
    rw [← s2]
    exact sub_bit.mpr (fun i hi => by
      obtain ⟨x, x1, x2⟩ := testBit_un.mp hi
      exact testBit_un.mpr ⟨x, s1 x x1, x2⟩)
  have htm : t ∈ mems gs := ht ▸ List.getElem_mem hl
  have hte : t = un gs := by
    refine f_sub_pc t (mems_lt htm) _ (mems_lt hUm) (hsub t htm) ?_
    obtain ⟨i, hi, e⟩ := List.getElem_of_mem hUm
    rw [← e, ht]
    rcases Nat.lt_or_ge i ((mems gs).length - 1) with h | h
    · exact List.pairwise_iff_getElem.mp (mems_pc gs) i _ hi hl h
    · have : i = (mems gs).length - 1 := by omega
      subst this
      exact Nat.le_refl _
  intro m hm
  rw [hte]; exact hsub m hm
def topv (gs : List Nat) : Nat := (mems gs).getD ((mems gs).length - 1) 0
theorem topv_mem {gs : List Nat} (hg : ∀ x ∈ gs, x < 128) : topv gs ∈ mems gs := mems_getD (by have := mems_pos hg; omega)
theorem topv_lt {gs : List Nat} (hg : ∀ x ∈ gs, x < 128) : topv gs < 128 := mems_lt (topv_mem hg)
theorem topv_bit {gs : List Nat} (hg : ∀ x ∈ gs, x < 128) (p : Nat) : (topv gs).testBit p = true ↔ ∃ m ∈ mems gs, m.testBit p = true :=
  ⟨fun h => ⟨_, topv_mem hg, h⟩, fun ⟨m, m1, m2⟩ => sub_bit.mp (top_un hg rfl m m1) p m2⟩
theorem sub_pow {p m : Nat} : subB (2 ^ p) m = m.testBit p := by
  cases h : m.testBit p
  · cases h2 : subB (2 ^ p) m
    · rfl
    · have := sub_bit.mp (subB_iff.mp h2) p (by simp [Nat.testBit_two_pow])
      rw [h] at this; exact absurd this (by simp)
  · apply subB_iff.mpr
    refine sub_bit.mpr (fun i hi => ?_)
    rw [Nat.testBit_two_pow] at hi
    have : p = i := by simpa using hi
    rw [← this]; exact h
theorem sub_pow2 {p q m : Nat} : subB (2 ^ p ||| 2 ^ q) m = (m.testBit p && m.testBit q) := by
  apply Bool.eq_iff_iff.mpr
  rw [subB_iff, sub_bit, Bool.and_eq_true]
  constructor
  · intro h
    exact ⟨h p (by simp [Nat.testBit_two_pow]), h q (by simp [Nat.testBit_two_pow])⟩
  · rintro ⟨h1, h2⟩ i hi
    rw [Nat.testBit_or, Nat.testBit_two_pow, Nat.testBit_two_pow] at hi
    simp only [Bool.or_eq_true, decide_eq_true_eq] at hi
    rcases hi with rfl | rfl
    · exact h1
    · exact h2
theorem cntA_top {gs : List Nat} (hg : ∀ x ∈ gs, x < 128) (p : Nat) : 0 < cntA gs (2 ^ p) ↔ (topv gs).testBit p = true := by
  rw [topv_bit hg, cntA, List.countP_pos_iff]
  constructor
  · rintro ⟨m, m1, m2⟩; exact ⟨m, m1, by rw [← sub_pow]; exact m2⟩
  · rintro ⟨m, m1, m2⟩; exact ⟨m, m1, by rw [sub_pow]; exact m2⟩
theorem top_m {σ : Wd} {gs : List Nat} (hg : ∀ x ∈ gs, x < 128) (h : LayR σ gs) : X11_top σ = some (nI (topv gs)) := by
  have hp := mems_pos hg
  have hl := mems_len gs
  rw [X11_top, h.2.1, show (1 : Int32) = nI 1 from rfl, nsub (by omega), ckA_n (by omega) (by omega), ncl (by omega), h.2.2.1 _ (by omega)]
  rfl
theorem top_c {σ : Wd} {gs : List Nat} (hg : ∀ x ∈ gs, x < 128) (h : RowR σ 95 (mems gs)) : X0_top σ = some (nI (topv gs)) := by
  have hp := mems_pos hg
  have hl := mems_len gs
  rw [X0_top, h.1, show (1 : Int32) = nI 1 from rfl, nsub (by omega), row_at_in h hl (by decide) (by omega)]
  rfl
/-! marks -/
def Mk (σ : Wd) (q : Nat) (B : Nat → Bool) : Prop := ∀ t, t < 128 → σ q t = if B t then 1 else 0
theorem manyOf_ok {σ : Wd} {q : Nat} {B : Nat → Bool} (hl : kLn q = 128) (h : Mk σ q B) : X11_manyOf σ q = some (nI ((List.range 128).countP B)) := by
  unfold X11_manyOf
  refine lp_cnt (List.range 128) B (fun n k => (nI n, nI k)) (fun n => some (nI n)) (by rw [nI_0]) (by simp) (fun k n hk hn rec => ?_) (fun n hn rec => ?_)
  · simp only [List.length_range] at hk
    rw [List.getElem_range]
    show X11_manyOf_B4 q σ rec (nI n, nI k) = rec (nI _, nI (k + 1))
    rw [X11_manyOf_B4, if_neg (le128 hk), hl, ckA_n hk (by omega), ncl (by omega), h k hk]
    by_cases e : B k = true
    · rw [if_pos e, if_neg (by decide), X11_manyOf_J20, nI_1, nI_1, if_pos e]
    · rw [if_neg e, if_pos rfl, X11_manyOf_J20, nI_1, if_neg e]
  · rw [List.length_range]
    show X11_manyOf_B4 q σ rec (nI n, nI 128) = _
    rw [X11_manyOf_B4, if_pos ge128]
theorem freqIn_ok {σ : Wd} {q : Nat} {B : Nat → Bool} (hl : kLn q = 128) (h : Mk σ q B) {p : Nat} (hp : p < 7) : X11_frequencyIn σ q (nI p) = some (nI ((List.range 128).countP (fun t => B t && t.testBit p))) := by
  unfold X11_frequencyIn
  refine lp_cnt (List.range 128) (fun t => B t && t.testBit p) (fun n k => (nI n, nI k)) (fun n => some (nI n)) (by rw [nI_0]) (by simp) (fun k n hk hn rec => ?_) (fun n hn rec => ?_)
  · simp only [List.length_range] at hk
    rw [List.getElem_range]
    show X11_frequencyIn_B4 q σ (nI p) rec (nI n, nI k) = rec (nI _, nI (k + 1))
    rw [X11_frequencyIn_B4, if_neg (le128 hk), hl, ckA_n hk (by omega), ncl (by omega), h k hk, f_has k hk p hp]
    by_cases e : B k = true
    · rw [if_pos e, if_neg (by decide)]
      by_cases e2 : k.testBit p = true
      · rw [if_pos e2, if_neg (by decide), X11_frequencyIn_J28, nI_1, nI_1, if_pos (by rw [e, e2]; rfl)]
      · rw [if_neg e2, if_pos rfl, X11_frequencyIn_J28, nI_1, if_neg (by rw [Bool.and_eq_true]; exact fun h => e2 h.2)]
    · rw [if_neg e, if_pos rfl, X11_frequencyIn_J28, nI_1, if_neg (by rw [Bool.and_eq_true]; exact fun h => e h.1)]
  · rw [List.length_range]
    show X11_frequencyIn_B4 q σ (nI p) rec (nI n, nI 128) = _
    rw [X11_frequencyIn_B4, if_pos ge128]
theorem cnt128 (B : Nat → Bool) : (List.range 128).countP B ≤ 128 := Nat.le_trans List.countP_le_length (by simp)
/-! frequent points -/
def frq (F : Nat → Bool) (n : Nat) : Nat := (List.range n).foldl (fun x p => if F p then x ||| 2 ^ p else x) 0
theorem frq_bit (F : Nat → Bool) (n i : Nat) : (frq F n).testBit i = true ↔ i < n ∧ F i = true := by
  unfold frq
  induction n with
  | zero => simp
  | succ n ih =>
    rw [List.range_succ, List.foldl_append]
    simp only [List.foldl_cons, List.foldl_nil]
    by_cases e : F n = true
    · rw [if_pos e, Nat.testBit_or, Bool.or_eq_true, ih, Nat.testBit_two_pow]
      constructor
      · rintro (h | h)
        · exact ⟨by omega, h.2⟩
        · have : n = i := by simpa using h
          subst this; exact ⟨by omega, e⟩
      · rintro ⟨h1, h2⟩
        by_cases e2 : n = i
        · right; simp [e2]
        · left; exact ⟨by omega, h2⟩
    · rw [if_neg e, ih]
      constructor
      · rintro ⟨h1, h2⟩; exact ⟨by omega, h2⟩
      · rintro ⟨h1, h2⟩
        refine ⟨?_, h2⟩
        rcases Nat.lt_or_ge i n with h | h
        · exact h
        · have : i = n := by omega
          subst this; exact absurd h2 e
theorem frq_lt (F : Nat → Bool) {n : Nat} (hn : n ≤ 7) : frq F n < 128 := by
  apply Nat.lt_pow_two_of_testBit (n := 7)
  intro i hi
  cases h : (frq F n).testBit i
  · rfl
  · have := (frq_bit F n i).mp h; omega
theorem frq_step (F : Nat → Bool) (k : Nat) : (if F k = true then frq F k ||| 2 ^ k else frq F k) = frq F (k + 1) := by
  unfold frq; rw [List.range_succ, List.foldl_append]; rfl
theorem freqSet_ok {σ : Wd} {q n : Nat} {B : Nat → Bool} (hl : kLn q = 128) (h : Mk σ q B) (hn : n ≤ 7) (h0 : σ 121 0 = nI n) : X11_frequentIn σ q = some (nI (frq (fun p => decide ((List.range 128).countP B ≤ 2 * (List.range 128).countP (fun t => B t && t.testBit p))) n)) := by
  obtain ⟨F, hF⟩ : ∃ F : Nat → Bool, F = fun p => decide ((List.range 128).countP B ≤ 2 * (List.range 128).countP (fun t => B t && t.testBit p)) := ⟨_, rfl⟩
  have c1 := cnt128 B
  unfold X11_frequentIn
  rw [manyOf_ok hl h, sbind, ← hF]
  refine lp_tr (fun k => (nI (frq F k), nI k)) n _ (by simp [frq, nI_0]) (by omega) (fun k hk rec => ?_) (fun rec => ?_)
  · show X11_frequentIn_B10 σ q _ rec (nI (frq F k), nI k) = rec (nI (frq F (k + 1)), nI (k + 1))
    have c2 := cnt128 (fun t => B t && t.testBit k)
    rw [X11_frequentIn_B10, h0, if_neg (by rw [nle (by omega) (by omega)]; omega), freqIn_ok hl h (by omega), sbind, show (2 : Int32) = nI 2 from rfl, nmul, ← frq_step]
    by_cases e : F k = true
    · have e' := e
      rw [hF] at e'
      simp only [decide_eq_true_eq] at e'
      rw [if_neg (by rw [nlt (by omega) (by omega)]; omega), X11_frequentIn_J40, nI_1, f_shl k (by omega), f_or _ (frq_lt F (by omega)) _ (f_pow_lt (by omega)), if_pos e]
    · have e' := e
      rw [hF] at e'
      simp only [decide_eq_true_eq] at e'
      rw [if_pos (by rw [nlt (by omega) (by omega)]; omega), X11_frequentIn_J40, nI_1, if_neg e]
  · show X11_frequentIn_B10 σ q _ rec (nI (frq F n), nI n) = _
    rw [X11_frequentIn_B10, h0, if_pos (by rw [nle (by omega) (by omega)]; omega)]
theorem LayR.mk {σ : Wd} {gs : List Nat} (h : LayR σ gs) : Mk σ 125 (famB gs) := h.1
theorem freq_lay {σ : Wd} {gs : List Nat} (h : LayR σ gs) {p : Nat} (hp : p < 7) : X11_frequencyIn σ 125 (nI p) = some (nI (cntA gs (2 ^ p))) := by
  rw [freqIn_ok rfl h.mk hp, cnt_range gs (fun t => t.testBit p), cntA]
  simp only [sub_pow]
def frqG (gs : List Nat) (n : Nat) : Nat := frq (fun p => decide ((mems gs).length ≤ 2 * cntA gs (2 ^ p))) n
theorem freqSet_lay {σ : Wd} {gs : List Nat} (h : LayR σ gs) {n : Nat} (hn : n ≤ 7) (h0 : σ 121 0 = nI n) : X11_frequentIn σ 125 = some (nI (frqG gs n)) := by
  rw [freqSet_ok rfl h.mk hn h0, many_range]
  unfold frqG cntA
  simp only [cnt_range, sub_pow]
theorem often_ok {σ : Wd} {n : Nat} {gs : List Nat} (h : FamR σ n gs) {p : Nat} (hp : p < 7) : X0_oftenOf σ (nI p) = some (nI (cntA gs (2 ^ p))) := by
  rw [X0_oftenOf, if_neg (nneg (by omega)), if_neg (by rw [L7, nle (by omega) (by omega)]; omega), ckA_n hp (by omega), ncl (by omega), h.oft p hp]
theorem isFreq_ok {σ : Wd} {n : Nat} {gs : List Nat} (h : FamR σ n gs) {p : Nat} (hp : p < 7) : X0_isFrequent σ (nI p) = some (if (mems gs).length ≤ 2 * cntA gs (2 ^ p) then 1 else 0) := by
  have h1 := cntA_le gs (2 ^ p)
  have h2 := mems_len gs
  rw [X0_isFrequent, often_ok h hp, sbind, h.mem.1, show (2 : Int32) = nI 2 from rfl, nmul]
  by_cases e : (mems gs).length ≤ 2 * cntA gs (2 ^ p)
  · rw [if_neg (by rw [nlt (by omega) (by omega)]; omega), if_pos e]
  · rw [if_pos (by rw [nlt (by omega) (by omega)]; omega), if_neg e]
theorem frqC_ok {σ : Wd} {n : Nat} {gs : List Nat} (h : FamR σ n gs) (hn : n ≤ 7) : X0_frequentPoints σ = some (nI (frqG gs n)) := by
  unfold X0_frequentPoints frqG
  obtain ⟨F, hF⟩ : ∃ F : Nat → Bool, F = fun p => decide ((mems gs).length ≤ 2 * cntA gs (2 ^ p)) := ⟨_, rfl⟩
  rw [← hF]
  refine lp_tr (fun k => (nI (frq F k), nI k)) n _ (by simp [frq, nI_0]) (by omega) (fun k hk rec => ?_) (fun rec => ?_)
  · show X0_frequentPoints_B4 σ rec (nI (frq F k), nI k) = rec (nI (frq F (k + 1)), nI (k + 1))
    rw [X0_frequentPoints_B4, h.pts, if_neg (by rw [nle (by omega) (by omega)]; omega), isFreq_ok h (by omega), sbind, ← frq_step]
    by_cases e : F k = true
    · have e' := e
      rw [hF] at e'
      simp only [decide_eq_true_eq] at e'
      rw [if_pos e', if_neg (by decide), X0_frequentPoints_J26, nI_1, f_shl k (by omega), f_or _ (frq_lt F (by omega)) _ (f_pow_lt (by omega)), if_pos e]
    · have e' := e
      rw [hF] at e'
      simp only [decide_eq_true_eq] at e'
      rw [if_neg e', if_pos rfl, X0_frequentPoints_J26, nI_1, if_neg e]
  · show X0_frequentPoints_B4 σ rec (nI (frq F n), nI n) = _
    rw [X0_frequentPoints_B4, h.pts, if_pos (by rw [nle (by omega) (by omega)]; omega)]
