/-! inner unions and the base, as the reference finds them -/
theorem LayR.cg {σ σ' : Wd} {gs : List Nat} (h : LayR σ gs) (h1 : σ' 125 = σ 125) (h2 : σ' 126 = σ 126) (h3 : σ' 127 = σ 127) (h4 : σ' 120 10 = σ 120 10) : LayR σ' gs :=
  ⟨fun t ht => by rw [h1]; exact h.1 t ht, by rw [h4]; exact h.2.1, fun k hk => by rw [h2]; exact h.2.2.1 k hk, fun t ht => by rw [h3]; exact h.2.2.2 t ht⟩
theorem lay_at {σ : Wd} {gs : List Nat} (h : LayR σ gs) {k : Nat} (hk : k < (mems gs).length) : σ 126 k = nI (mems gs)[k] := by
  rw [← getD_lt hk]; exact h.2.2.1 k hk
theorem lay_go {σ : Wd} {gs : List Nat} (h : LayR σ gs) {k : Nat} (hk : k < (mems gs).length) : ¬ σ 120 10 ≤ nI k := by
  have hlen := mems_len gs
  rw [h.2.1, nle (by omega) (by omega)]; omega
theorem lay_stop {σ : Wd} {gs : List Nat} (h : LayR σ gs) : σ 120 10 ≤ nI (mems gs).length := by
  have hlen := mems_len gs
  rw [h.2.1, nle (by omega) (by omega)]; omega
theorem k128 {gs : List Nat} {k : Nat} (hk : k < (mems gs).length) : k < 128 := Nat.lt_of_lt_of_le hk (mems_len gs)
theorem foldl_filter_or (p : Nat → Bool) (l : List Nat) (x : Nat) : l.foldl (fun x m => if p m then x ||| m else x) x = x ||| un (l.filter p) := by
  induction l generalizing x with
  | nil => simp [un]
  | cons m r ih =>
    rw [List.foldl_cons, ih]
    by_cases e : p m = true
    · rw [if_pos e, List.filter_cons_of_pos e, un_cons, Nat.or_assoc]
    · rw [if_neg e, List.filter_cons_of_neg e]
theorem innerOf_ok {σ : Wd} {gs : List Nat} (h : LayR σ gs) {t : Nat} (ht : t < 128) : X11_innerOf σ (nI t) 0 = some (nI (inn gs t)) ∧ X11_innerOf σ (nI t) 1 = some (nI (innA gs t)) := by
  have key : ∀ (x2 : Int32) (p : Nat → Bool), (x2 = 0 ∧ (∀ m, p m = subB m t) ∨ x2 ≠ 0 ∧ ∀ m, p m = (subB m t && m != t)) → X11_innerOf σ (nI t) x2 = some (nI (un ((mems gs).filter p))) := by
    intro x2 p hp
    have hun : un ((mems gs).filter p) = (mems gs).foldl (fun x m => if p m then x ||| m else x) 0 := by rw [foldl_filter_or]; simp
    rw [hun]
    unfold X11_innerOf
    refine lp_fold (mems gs) _ (fun x k => (nI x, nI k)) 0 (fun x => some (nI x)) (fun _ x => x < 128) (by decide) (fun k x hk hx => ?_) (by rw [nI_0]) (mems_4096 gs) (fun k x hk hx rec => ?_) (fun x hx rec => ?_)
    · by_cases e : p (mems gs)[k] = true
      · rw [if_pos e]; exact or_lt hx (mem_at_lt hk)
      · rw [if_neg e]; exact hx
    · have hk8 := k128 hk
      have hm := mem_at_lt hk
      show X11_innerOf_B5 σ (nI t) x2 rec (nI x, nI k) = rec (nI _, nI (k + 1))
      have hJ : X11_innerOf_J43 σ rec (nI x) (nI k) = rec (nI (x ||| (mems gs)[k]), nI (k + 1)) := by
        rw [X11_innerOf_J43, ckA_n hk8 (by omega), ncl (by omega), lay_at h hk, f_or x hx _ hm]
        dsimp only [lett]
        rw [X11_innerOf_J53, nI_1]
      rw [X11_innerOf_B5, if_neg (lay_go h hk), ckA_n hk8 (by omega), ncl (by omega), lay_at h hk, f_within _ hm t ht]
      by_cases e1 : (mems gs)[k] &&& t = (mems gs)[k]
      · rw [if_pos e1, if_neg (by decide)]
        have s1 : subB (mems gs)[k] t = true := subB_iff.mpr e1
        rcases hp with ⟨h0, hp⟩ | ⟨h0, hp⟩
        · rw [if_pos h0, hJ, hp, if_pos s1]
        · rw [if_neg h0, ckA_n hk8 (by omega)]
          by_cases e2 : (mems gs)[k] = t
          · rw [if_pos (by rw [e2]), X11_innerOf_J53, nI_1, hp, if_neg (by simp [e2])]
          · rw [if_neg (by rw [neq (by omega) (by omega)]; exact e2), hJ, hp, if_pos (by simp [s1, e2])]
      · rw [if_neg e1, if_pos rfl, X11_innerOf_J53, nI_1]
        have s1 : subB (mems gs)[k] t = false := by
          cases hh : subB (mems gs)[k] t
          · rfl
          · exact absurd (subB_iff.mp hh) e1
        rcases hp with ⟨h0, hp⟩ | ⟨h0, hp⟩
        · rw [hp, s1]; rfl
        · rw [hp, s1]; rfl
    · show X11_innerOf_B5 σ (nI t) x2 rec (nI x, nI (mems gs).length) = _
      rw [X11_innerOf_B5, if_pos (lay_stop h)]
  exact ⟨key 0 _ (Or.inl ⟨rfl, fun m => rfl⟩), key 1 _ (Or.inr ⟨by decide, fun m => rfl⟩)⟩
theorem based_ok {σ : Wd} {gs : List Nat} (h : LayR σ gs) {t : Nat} (ht : t < 128) : X11_isBased σ (nI t) = some (if famB gs t && basB gs t then 1 else 0) := by
  have hi := innA_lt gs t
  rw [X11_isBased]
  by_cases h0 : t = 0
  · subst h0
    rw [if_pos nI_0, if_neg (by simp [basB, innA_zero])]
  · rw [if_neg (nI_ne0 (by omega) (by omega)), ckA_n ht (by omega), ncl (by omega), h.1 t ht]
    by_cases e : famB gs t = true
    · rw [if_pos e, if_neg (by decide), (innerOf_ok h ht).2, sbind]
      by_cases e2 : innA gs t = t
      · rw [if_pos (by rw [e2]), if_neg (by simp [basB, e2])]
      · rw [if_neg (by rw [neq (by omega) (by omega)]; exact e2), if_pos (by simp [basB, e2, e])]
    · rw [if_neg e, if_pos rfl, if_neg (by simp [e])]
theorem bas_mem {gs : List Nat} {t : Nat} (ht : t < 128) : t ∈ bas gs ↔ (famB gs t && basB gs t) = true := by
  unfold bas
  rw [List.mem_filter, mem_iff_famB ht, Bool.and_eq_true]
/-- what is in the base is a generator -/
theorem bas_gen {gs : List Nat} (hg : ∀ x ∈ gs, x < 128) {t : Nat} (h : t ∈ bas gs) : t ∈ gs := by
  obtain ⟨h1, h2⟩ := List.mem_filter.mp h
  obtain ⟨S, s1, s2⟩ := (mems_mem hg).mp h1
  by_cases hn : t ∈ gs
  · exact hn
  · exfalso
    have : innA gs t = t := nat_ext (fun i => by
      rw [innA_bit]
      constructor
      · rintro ⟨m, -, m2, -, m4⟩; exact sub_bit.mp m2 i m4
      · intro hi
        rw [← s2] at hi
        obtain ⟨x, x1, x2⟩ := testBit_un.mp hi
        refine ⟨x, (mems_mem hg).mpr (Mem.gen (s1 x x1)), sub_bit.mpr (fun j hj => ?_), fun e => hn (e ▸ s1 x x1), x2⟩
        rw [← s2]
        exact testBit_un.mpr ⟨x, x1, hj⟩)
    simp [basB, this] at h2
