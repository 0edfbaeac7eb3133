/-! loops, by what holds at each round -/
theorem lp_qn {S C : Type} {body : (S → Option C) → S → Option C} (I : Nat → S → Prop) (N : Nat) (Q : Option C → Prop)
    (hstep : ∀ k s, k < N → I k s → (∃ s', I (k + 1) s' ∧ ∀ rec, body rec s = rec s') ∨ ∃ r, Q r ∧ ∀ rec, body rec s = r) (hexit : ∀ s, I N s → ∃ r, Q r ∧ ∀ rec, body rec s = r) : ∀ (d k fuel : Nat) (s : S), k + d = N → d < fuel → I k s → Q (lp body fuel s) := by
  intro d
  induction d with
  | zero =>
    intro k fuel s hk hf hi
    cases fuel with
    | zero => omega
    | succ f =>
      have : k = N := by omega
      subst this
      obtain ⟨r, h1, h2⟩ := hexit s hi
      show Q (body (lp body f) s)
      rw [h2]; exact h1
  | succ d ih =>
    intro k fuel s hk hf hi
    cases fuel with
    | zero => omega
    | succ f =>
      show Q (body (lp body f) s)
      rcases hstep k s (by omega) hi with ⟨s', h1, h2⟩ | ⟨r, h1, h2⟩
      · rw [h2]; exact ih (k + 1) f s' (by omega) (by omega) h1
      · rw [h2]; exact h1
theorem lp_q {S C : Type} {body : (S → Option C) → S → Option C} (I : Nat → S → Prop) (N : Nat) (Q : Option C → Prop) {s : S} (h0 : I 0 s) (hN : N < 4096)
    (hstep : ∀ k s, k < N → I k s → (∃ s', I (k + 1) s' ∧ ∀ rec, body rec s = rec s') ∨ ∃ r, Q r ∧ ∀ rec, body rec s = r) (hexit : ∀ s, I N s → ∃ r, Q r ∧ ∀ rec, body rec s = r) : Q (lp body FU s) :=
  lp_qn I N Q hstep hexit N 0 FU s (by omega) hN h0
/-- a loop that goes to its end -/
theorem lp_w {S C : Type} {body : (S → Option C) → S → Option C} (I : Nat → S → Prop) (N : Nat) (X : S → Option C) {s : S} (h0 : I 0 s) (hN : N < 4096)
    (hstep : ∀ k s, k < N → I k s → ∃ s', I (k + 1) s' ∧ ∀ rec, body rec s = rec s') (hexit : ∀ s, I N s → ∀ rec, body rec s = X s) : ∃ s', I N s' ∧ lp body FU s = X s' :=
  lp_q I N (fun r => ∃ s', I N s' ∧ r = X s') h0 hN (fun k s hk hi => Or.inl (hstep k s hk hi)) (fun s hi => ⟨X s, ⟨s, hi, rfl⟩, hexit s hi⟩)
theorem lp_c {S C : Type} {G : Prop} {body : (S → Option C) → S → Option C} (s : S) (I : Nat → S → Prop) (N : Nat) (X : S → Option C) (h0 : I 0 s) (hN : N < 4096)
    (hstep : ∀ k s, k < N → I k s → ∃ s', I (k + 1) s' ∧ ∀ rec, body rec s = rec s') (hexit : ∀ s, I N s → ∀ rec, body rec s = X s) (hG : ∀ s', I N s' → lp body FU s = X s' → G) : G := by
  obtain ⟨s', h1, h2⟩ := lp_w I N X h0 hN hstep hexit
  exact hG s' h1 h2
theorem countP_take_succ {B : Type} (p : B → Bool) (xs : List B) (k : Nat) (h : k < xs.length) : (xs.take (k + 1)).countP p = (xs.take k).countP p + if p xs[k] then 1 else 0 := by
  rw [List.take_succ_eq_append_getElem h, List.countP_append, List.countP_singleton]
/-- a loop that counts -/
theorem lp_cnt {S C B : Type} {body : (S → Option C) → S → Option C} (xs : List B) (p : B → Bool) (enc : Nat → Nat → S) (X : Nat → Option C) {s : S} (hs : s = enc 0 0) (hN : xs.length < 4096)
    (hstep : ∀ k n (h : k < xs.length), n ≤ k → ∀ rec, body rec (enc n k) = rec (enc (if p xs[k] then n + 1 else n) (k + 1))) (hexit : ∀ n, n ≤ xs.length → ∀ rec, body rec (enc n xs.length) = X n) : lp body FU s = X (xs.countP p) := by
  have hle : ∀ k, k ≤ xs.length → (xs.take k).countP p ≤ k := fun k hk => Nat.le_trans List.countP_le_length (by simp; omega)
  refine lp_tr (fun k => enc ((xs.take k).countP p) k) xs.length _ ?_ hN (fun k hk rec => ?_) (fun rec => ?_)
  · simpa using hs
  · rw [hstep k _ hk (hle k (by omega)), countP_take_succ p xs k hk]
    by_cases e : p xs[k] = true
    · rw [if_pos e, if_pos e]
    · rw [if_neg e, if_neg e]; rfl
  · rw [List.take_length]; exact hexit _ List.countP_le_length rec
/-- a loop that searches -/
theorem lp_find {S C B : Type} {body : (S → Option C) → S → Option C} (xs : List B) (p : B → Bool) (enc : Nat → S) (X : Option C) (Y : Nat → Option C) {s : S} (hs : s = enc 0) (hN : xs.length < 4096)
    (hyes : ∀ k (h : k < xs.length), p xs[k] = true → ∀ rec, body rec (enc k) = Y k) (hno : ∀ k (h : k < xs.length), p xs[k] = false → ∀ rec, body rec (enc k) = rec (enc (k + 1))) (hexit : ∀ rec, body rec (enc xs.length) = X) : lp body FU s = (xs.findIdx? p).elim X Y := by
  refine lp_q (fun k s => s = enc k ∧ ∀ j (h : j < xs.length), j < k → p xs[j] = false) xs.length (fun r => r = (xs.findIdx? p).elim X Y) ⟨hs, fun j _ h => by omega⟩ hN (fun k s hk hi => ?_) (fun s hi => ?_)
  · obtain ⟨rfl, hb⟩ := hi
    by_cases e : p xs[k] = true
    · right
      refine ⟨Y k, ?_, hyes k hk e⟩
      have : xs.findIdx? p = some k := by
        rw [List.findIdx?_eq_some_iff_getElem]
        exact ⟨hk, e, fun j hj => by simp [hb j (by omega) hj]⟩
      rw [this]; rfl
    · left
      have e' : p xs[k] = false := by simpa using e
      refine ⟨enc (k + 1), ⟨rfl, fun j h hj => ?_⟩, hno k hk e'⟩
      by_cases hjk : j = k
      · subst hjk; exact e'
      · exact hb j h (by omega)
  · obtain ⟨rfl, hb⟩ := hi
    refine ⟨X, ?_, hexit⟩
    have : xs.findIdx? p = none := by
      rw [List.findIdx?_eq_none_iff]
      intro x hx
      obtain ⟨j, hj, rfl⟩ := List.getElem_of_mem hx
      exact hb j hj hj
    rw [this]; rfl
theorem getD_lt {xs : List Nat} {i : Nat} (h : i < xs.length) : xs.getD i 0 = xs[i] := by
  rw [List.getD_eq_getElem?_getD, List.getElem?_eq_getElem h]; rfl
/-! the order of the sets, and the numbers -/
def OrdR (σ : Wd) : Prop := ∀ i, i < 128 → σ 94 i = nI (ordS.getD i 0)
def numB (gs : List Nat) (t : Nat) : Int32 := if famB gs t then nI ((mems gs).idxOf t) else -2
theorem ordS_get_lt {i : Nat} (h : i < 128) : ordS.getD i 0 < 128 := by
  rw [getD_lt (by rw [ordS_len]; exact h)]
  exact ordS_lt _ (List.getElem_mem _)
def pre (gs : List Nat) (k : Nat) : List Nat := (ordS.take k).filter (famB gs)
theorem pre_all (gs : List Nat) : pre gs 128 = mems gs := by
  unfold pre mems
  rw [List.take_of_length_le (by rw [ordS_len]; exact Nat.le_refl _)]
theorem pre_succ {gs : List Nat} {k : Nat} (hk : k < 128) : pre gs (k + 1) = pre gs k ++ if famB gs (ordS.getD k 0) then [ordS.getD k 0] else [] := by
  unfold pre
  have h : k < ordS.length := by rw [ordS_len]; exact hk
  rw [List.take_succ_eq_append_getElem h, List.filter_append, getD_lt h]
  congr 1
  by_cases e : famB gs ordS[k] = true
  · rw [if_pos e]; simp [e]
  · rw [if_neg e]; simp [e]
theorem pre_len {gs : List Nat} {k : Nat} (hk : k ≤ 128) : (pre gs k).length ≤ k := by
  unfold pre
  have := List.length_filter_le (famB gs) (ordS.take k)
  rw [List.length_take, ordS_len] at this
  omega
theorem pre_nin {gs : List Nat} {k : Nat} (hk : k < 128) : ordS.getD k 0 ∉ pre gs k := by
  unfold pre
  have h : k < ordS.length := by rw [ordS_len]; exact hk
  intro hm
  have hm := (List.mem_filter.mp hm).1
  rw [getD_lt h] at hm
  obtain ⟨j, hj, e⟩ := List.mem_take_iff_getElem.mp hm
  have := (List.getElem_inj ordS_nd).mp e
  omega
theorem numbers_ok {σ : Wd} {gs : List Nat} (hg : ∀ x ∈ gs, x < 128) (ho : OrdR σ) (hf : FwR gs 20 (σ 100)) : ∃ σ', X0_numberMembers σ = some σ' ∧ RowR σ' 95 (mems gs) ∧ (∀ t, t < 128 → σ' 99 t = numB gs t) ∧ Fr σ σ' [95, 96, 99] := by
  obtain ⟨σ1, e1, v1, f1⟩ := fill_ok (σ := X4_clear σ 95) (q := 99) (by decide) (-2)
  have hc := row_clear (σ := σ) (r := 95)
  have hl99 : kLn 99 = 128 := rfl
  have fr1 : Fr σ σ1 [95, 96, 99] := ((hc.2.tr f1).mono (by simp))
  unfold X0_numberMembers
  rw [e1]
  show ∃ σ', lp X0_numberMembers_B18 FU (0, σ1) = some σ' ∧ _
  refine lp_c (body := X0_numberMembers_B18) (0, σ1) (fun k s => s.1 = nI k ∧ RowR s.2 95 (pre gs k) ∧ (∀ t, t < 128 → s.2 99 t = if t ∈ pre gs k then nI ((pre gs k).idxOf t) else -2) ∧ Fr σ s.2 [95, 96, 99]) 128 (fun s => some s.2) ⟨nI_0.symm, ?_, ?_, fr1⟩ (by omega) (fun k s hk hi => ?_) (fun s hi rec => ?_) (fun s' hI he => ?_)
  rotate_left 4
  · refine ⟨s'.2, he, ?_, fun t ht => ?_, hI.2.2.2⟩
    · have := hI.2.1; rw [pre_all] at this; exact this
    · have := hI.2.2.1 t ht
      rw [pre_all] at this
      rw [this]
      unfold numB
      by_cases e : famB gs t = true
      · rw [if_pos e, if_pos (show t ∈ mems gs from List.mem_filter.mpr ⟨ordS_all t ht, e⟩)]
      · rw [if_neg e, if_neg (fun h : t ∈ mems gs => e (List.mem_filter.mp h).2)]
  · refine hc.1.cg (f1 95 (by simp)) (f1 96 (by simp))
  · intro t ht
    show σ1 99 t = _
    rw [v1, hl99, if_pos ht]
    simp [pre]
  · obtain ⟨x, τ⟩ := s
    obtain ⟨h1, h2, h3, h4⟩ := hi
    simp only at h1 h2 h3 h4
    subst h1
    obtain ⟨c, hc'⟩ : ∃ c, c = ordS.getD k 0 := ⟨_, rfl⟩
    have hc128 : c < 128 := hc' ▸ ordS_get_lt hk
    have h94 : τ 94 k = nI c := by rw [h4 94 (by simp), ho k hk, hc']
    have h100 : τ 100 = σ 100 := h4 100 (by simp)
    have hfew : X0_fewestFor τ (nI c) = some (σ 100 c) := by
      rw [X0_fewestFor, if_neg (nneg (by omega)), if_neg (le128 hc128), ckA_n hc128 (by omega), ncl (by omega), h100]
    have hmem : famB gs c = true ↔ ¬ σ 100 c < 0 := by rw [famB_iff hg hc128, hf.mem (by omega) hc128]
    by_cases e : famB gs c = true
    · have hp := pre_succ (gs := gs) hk
      rw [← hc', if_pos e] at hp
      have hlen := pre_len (gs := gs) (k := k) (by omega)
      have hnin := pre_nin (gs := gs) hk
      rw [← hc'] at hnin
      have hr : RowR (up τ 99 c (τ 95 1)) 95 (pre gs k) := h2.cg (up_ne _ _ _ (by decide)) (up_ne _ _ _ (by decide))
      obtain ⟨σ9, a1, a2, a3⟩ := row_append hr (show (pre gs k).length < kLn 96 by rw [show kLn 96 = 128 from rfl]; omega) (by decide) c
      refine ⟨(nI (k + 1), σ9), ⟨rfl, ?_, fun t ht => ?_, ?_⟩, fun rec => ?_⟩
      · rw [hp]; exact a2
      · show σ9 99 t = _
        rw [a3 99 (by simp), up_at]
        unfold upd
        rw [hp]
        by_cases et : t = c
        · subst et
          rw [if_pos rfl, if_pos (by simp), h2.1, List.idxOf_append, if_neg hnin]
          simp
        · rw [if_neg et, h3 t ht]
          by_cases em : t ∈ pre gs k
          · rw [if_pos em, if_pos (by simp [em]), List.idxOf_append, if_pos em]
          · rw [if_neg em, if_neg (by simp [em, et])]
      · have f2 : Fr τ (up τ 99 c (τ 95 1)) [99] := Fr.up (by simp)
        exact ((h4.tr f2).tr a3).mono (by simp)
      · rw [X0_numberMembers_B18, if_neg (le128 hk), ckA_n hk (by omega), ncl (by omega), h94, hfew]
        show (if σ 100 c < 0 then _ else _) = _
        rw [if_neg (hmem.mp e), if_neg (nneg (by omega)), if_neg (le128 hc128), ckA_n hc128 (by omega), ncl (by omega), a1]
        show X0_numberMembers_J76 rec (nI k) σ9 = _
        rw [X0_numberMembers_J76, nI_1]
    · have hp := pre_succ (gs := gs) hk
      rw [← hc', if_neg e, List.append_nil] at hp
      refine ⟨(nI (k + 1), τ), ⟨rfl, ?_, fun t ht => ?_, h4⟩, fun rec => ?_⟩
      · rw [hp]; exact h2
      · rw [hp]; exact h3 t ht
      · rw [X0_numberMembers_B18, if_neg (le128 hk), ckA_n hk (by omega), ncl (by omega), h94, hfew]
        show (if σ 100 c < 0 then _ else _) = _
        rw [if_pos (Decidable.not_not.mp (fun h => e (hmem.mpr h))), X0_numberMembers_J76, nI_1]
  · obtain ⟨x, τ⟩ := s
    have h1 : x = nI 128 := hi.1
    subst h1
    show X0_numberMembers_B18 rec (nI 128, τ) = some τ
    rw [X0_numberMembers_B18, if_pos ge128]
