/-! ===== states ===== -/
/-- points, weights, generators, the list -/
abbrev St : Type := Nat × List Nat × List Nat × List Nat
def StR (σ : Wd) (s : Nat) (a : St) : Prop := RowR σ (s + 1) a.2.2.1 ∧ RowR σ (s + 3) a.2.2.2 ∧ (∀ p, p < 7 → σ (s + 5) p = nI (a.2.1.getD p 0)) ∧ σ s 3 = nI a.1
def wf (a : St) : Prop := (1 ≤ a.1 ∧ a.1 ≤ 7) ∧ (a.2.1.length = 7 ∧ ∀ w ∈ a.2.1, w ≤ 9) ∧ (a.2.2.1.length ≤ 12 ∧ (∀ g ∈ a.2.2.1, 0 < g ∧ g < 2 ^ a.1) ∧ a.2.2.1.Nodup) ∧ (a.2.2.2.length ≤ 20 ∧ (∀ g ∈ a.2.2.2, 0 < g ∧ g < 2 ^ a.1) ∧ a.2.2.2.Nodup)
def stP (s : Nat) : List Nat := [s, s + 1, s + 2, s + 3, s + 4, s + 5]
theorem StR.cg {σ σ' : Wd} {s : Nat} {a : St} (h : StR σ s a) (hq : ∀ q ∈ stP s, σ' q = σ q) : StR σ' s a := by
  have e : ∀ j, j < 6 → σ' (s + j) = σ (s + j) := by
    intro j hj
    apply hq
    rcases (show j = 0 ∨ j = 1 ∨ j = 2 ∨ j = 3 ∨ j = 4 ∨ j = 5 by omega) with rfl | rfl | rfl | rfl | rfl | rfl <;> simp [stP]
  refine ⟨h.1.cg (e 1 (by omega)) (e 2 (by omega)), h.2.1.cg (e 3 (by omega)) (e 4 (by omega)), fun p hp => ?_, ?_⟩
  · rw [e 5 (by omega)]; exact h.2.2.1 p hp
  · have := e 0 (by omega)
    rw [show s + 0 = s from rfl] at this
    rw [this]; exact h.2.2.2
theorem kStLn {s : Nat} (h : kKd s = 7) : kLn (s + 1 + 1) = 12 ∧ kLn (s + 3 + 1) = 20 ∧ kLn (s + 5) = 7 := (by decide +kernel : ∀ s, s < 140 → kKd s = 7 → (kLn (s + 1 + 1) = 12 ∧ kLn (s + 3 + 1) = 20 ∧ kLn (s + 5) = 7)) s (kKd_lt h (by decide)) h
theorem fill_ok {σ : Wd} {q : Nat} (hk : kLn q ≤ 512) (x : Int32) : ∃ σ', J7_fill_53178 σ q x = some σ' ∧ (∀ i, σ' q i = if i < kLn q then x else σ q i) ∧ Fr σ σ' [q] := by
  obtain ⟨f, hf⟩ : ∃ f : Nat → Wd, ∀ k p t, f k p t = if p = q ∧ t < k then x else σ p t := ⟨fun k p t => if p = q ∧ t < k then x else σ p t, fun _ _ _ => rfl⟩
  refine ⟨f (kLn q), ?_, fun i => ?_, fun p hp => ?_⟩
  · unfold J7_fill_53178 lett
    refine lp_tr (fun k => (nI k, f k)) (kLn q) _ ?_ (by omega) (fun k hk' rec => ?_) (fun rec => ?_)
    · show ((0 : Int32), σ) = (nI 0, f 0)
      rw [nI_0]
      congr 1
      funext p t
      rw [hf, if_neg (by omega)]
    · show J7_fill_53178_B5 _ q x rec (nI k, f k) = _
      rw [J7_fill_53178_B5, if_neg (by rw [nle (by omega) (by omega)]; omega), ckA_n hk' (by omega), ncl (by omega), nI_1]
      show rec (nI (k + 1), _) = rec (nI (k + 1), f (k + 1))
      congr 2
      funext p t
      rw [up_get, hf, hf]
      by_cases e : p = q ∧ t = k
      · rw [if_pos e, if_pos (by omega)]
      · rw [if_neg e]
        by_cases e2 : p = q ∧ t < k
        · rw [if_pos e2, if_pos (by omega)]
        · rw [if_neg e2, if_neg (by omega)]
    · show J7_fill_53178_B5 _ q x rec (nI (kLn q), f (kLn q)) = _
      rw [J7_fill_53178_B5, if_pos (by rw [nle (by omega) (by omega)]; omega)]
  · rw [hf]
    by_cases e : i < kLn q
    · rw [if_pos ⟨rfl, e⟩, if_pos e]
    · rw [if_neg (by omega), if_neg e]
  · simp only [List.mem_cons, List.not_mem_nil, or_false] at hp
    funext t
    rw [hf, if_neg (by omega)]
theorem st_weightOf {σ : Wd} {r : Nat} {a : St} (hr : kKd r = 7) (h : StR σ r a) {p : Nat} (hp : p < 7) : X7_weightOf σ r (nI p) = some (nI (a.2.1.getD p 0)) := by
  obtain ⟨-, -, l3⟩ := kStLn hr
  unfold X7_weightOf
  rw [if_neg (nneg (by omega)), l3, if_neg (by rw [nle (by omega) (by omega)]; omega), ckA_n hp (by omega), ncl (by omega), h.2.2.1 p hp]
theorem st_setWeight {σ : Wd} {r : Nat} {a : St} (hr : kKd r = 7) (h : StR σ r a) (hw : a.2.1.length = 7) {p : Nat} (hp : p < 7) (x : Nat) : ∃ σ', X7_setWeight σ r (nI p) (nI x) = some σ' ∧ StR σ' r (a.1, a.2.1.set p x, a.2.2.1, a.2.2.2) ∧ Fr σ σ' [r + 5] := by
  obtain ⟨-, -, l3⟩ := kStLn hr
  refine ⟨up σ (r + 5) p (nI x), ?_, ⟨?_, ?_, ?_, ?_⟩, Fr.up (by simp)⟩
  · unfold X7_setWeight
    rw [if_neg (nneg (by omega)), l3, if_neg (by rw [nle (by omega) (by omega)]; omega), ckA_n hp (by omega), ncl (by omega)]
  · exact h.1.cg (up_ne _ _ _ (by omega)) (up_ne _ _ _ (by omega))
  · exact h.2.1.cg (up_ne _ _ _ (by omega)) (up_ne _ _ _ (by omega))
  · intro j hj
    rw [up_get]
    by_cases e : j = p
    · subst e; simp [List.getD_eq_getElem?_getD, List.getElem?_set_self (show j < a.2.1.length by omega)]
    · rw [if_neg (by simp [e]), h.2.2.1 j hj]
      simp [List.getD_eq_getElem?_getD, List.getElem?_set_ne (Ne.symm e)]
  · rw [up_ne _ _ _ (by omega)]; exact h.2.2.2
theorem st_copy {σ : Wd} {r q : Nat} {a : St} (hr : kKd r = 7) (hq : kKd q = 7) (h : StR σ q a) (hg : a.2.2.1.length ≤ 12) (hl : a.2.2.2.length ≤ 20) (hd : r + 6 ≤ q ∨ q + 6 ≤ r) : ∃ σ', X7_copy σ r q = some σ' ∧ StR σ' r a ∧ Fr σ σ' (stP r) := by
  obtain ⟨l1, l2, l3⟩ := kStLn hr
  obtain ⟨m1, m2, m3⟩ := kStLn hq
  obtain ⟨σ1, e1, r1, f1⟩ := row_copy (σ := σ) (r := r + 1) (q := q + 1) h.1 (by omega) (by omega) (by omega) (by omega) (by omega) (by omega) (by omega)
  have k1 : ∀ j, j < 6 → σ1 (q + j) = σ (q + j) := fun j hj => f1 _ (by simp; omega)
  obtain ⟨σ2, e2, r2, f2⟩ := row_copy (σ := σ1) (r := r + 3) (q := q + 3) (h.2.1.cg (k1 3 (by omega)) (k1 4 (by omega))) (by omega) (by omega) (by omega) (by omega) (by omega) (by omega) (by omega)
  have k2 : ∀ j, j < 6 → σ2 (q + j) = σ (q + j) := fun j hj => by rw [f2 _ (by simp; omega)]; exact k1 j hj
  obtain ⟨f, hf⟩ : ∃ f : Nat → Wd, ∀ k p t, f k p t = if p = r + 5 ∧ t < k then nI (a.2.1.getD t 0) else σ2 p t := ⟨fun k p t => if p = r + 5 ∧ t < k then nI (a.2.1.getD t 0) else σ2 p t, fun _ _ _ => rfl⟩
  have hfq : ∀ k j, j < 6 → f k (q + j) = σ (q + j) := fun k j hj => by
    funext t
    rw [hf, if_neg (by omega), k2 j hj]
  have hfr : ∀ k j, j < 5 → f k (r + j) = σ2 (r + j) := fun k j hj => by
    funext t
    rw [hf, if_neg (by omega)]
  have hS : ∀ k, StR (f k) q a := fun k => h.cg (fun p hp => by
    simp only [stP, List.mem_cons, List.not_mem_nil, or_false] at hp
    rcases hp with rfl | rfl | rfl | rfl | rfl | rfl
    · exact hfq k 0 (by omega)
    · exact hfq k 1 (by omega)
    · exact hfq k 2 (by omega)
    · exact hfq k 3 (by omega)
    · exact hfq k 4 (by omega)
    · exact hfq k 5 (by omega))
  refine ⟨up (f 7) r 3 (nI a.1), ?_, ⟨?_, ?_, ?_, ?_⟩, ?_⟩
  · unfold X7_copy
    rw [e1]
    show (X4_copy σ1 (r + 3) (q + 3)).bind _ = _
    rw [e2]
    show lp (X7_copy_B24 r q) FU (0, σ2) = _
    refine lp_tr (fun k => (nI k, f k)) 7 _ ?_ (by omega) (fun k hk' rec => ?_) (fun rec => ?_)
    · show ((0 : Int32), σ2) = (nI 0, f 0)
      rw [nI_0]
      congr 1
      funext p t
      rw [hf, if_neg (by omega)]
    · show X7_copy_B24 r q rec (nI k, f k) = _
      rw [X7_copy_B24, l3, if_neg (by rw [nle (by omega) (by omega)]; omega), st_weightOf hq (hS k) hk']
      show ckA (nI k) 7 (rec (nI k + 1, up (f k) (r + 5) (nI k).toNatClampNeg (nI (a.2.1.getD k 0)))) = _
      rw [ckA_n hk' (by omega), ncl (by omega), nI_1]
      show rec (nI (k + 1), _) = rec (nI (k + 1), f (k + 1))
      congr 2
      funext p t
      rw [up_get, hf, hf]
      by_cases e : p = r + 5 ∧ t = k
      · rw [if_pos e, if_pos (by omega), e.2]
      · rw [if_neg e]
        by_cases e2 : p = r + 5 ∧ t < k
        · rw [if_pos e2, if_pos (by omega)]
        · rw [if_neg e2, if_neg (by omega)]
    · show X7_copy_B24 r q rec (nI 7, f 7) = _
      rw [X7_copy_B24, l3, if_pos (by rw [nle (by omega) (by omega)]; omega), (hS 7).2.2.2]
  · refine r1.cg ?_ ?_
    · rw [up_ne _ _ _ (by omega), hfr 7 1 (by omega), f2 _ (by simp)]
    · rw [up_ne _ _ _ (by omega)]
      have := hfr 7 2 (by omega)
      rw [show r + 1 + 1 = r + 2 from rfl, this, f2 _ (by simp)]
  · refine r2.cg ?_ ?_
    · rw [up_ne _ _ _ (by omega), hfr 7 3 (by omega)]
    · rw [up_ne _ _ _ (by omega)]
      exact hfr 7 4 (by omega)
  · intro p hp
    rw [up_ne _ _ _ (by omega), hf, if_pos ⟨rfl, hp⟩]
  · rw [up_get, if_pos ⟨rfl, rfl⟩]
  · intro p hp
    simp only [stP, List.mem_cons, List.not_mem_nil, or_false, not_or] at hp
    rw [up_ne _ _ _ hp.1]
    funext t
    rw [hf, if_neg (by omega), f2 _ (by simp; omega), f1 _ (by simp; omega)]
theorem st_reset {σ : Wd} {r : Nat} (hr : kKd r = 7) : ∃ σ', X7_reset σ r = some σ' ∧ StR σ' r (4, [1, 1, 1, 1, 1, 1, 1], [], []) ∧ Fr σ σ' (stP r) := by
  obtain ⟨l1, l2, l3⟩ := kStLn hr
  obtain ⟨σ1, e1, v1, f1⟩ := fill_ok (σ := X4_clear (X4_clear σ (r + 1)) (r + 3)) (q := r + 5) (by omega) 1
  have c1 := row_clear (σ := σ) (r := r + 1)
  have c2 := row_clear (σ := X4_clear σ (r + 1)) (r := r + 3)
  refine ⟨up σ1 r 3 4, ?_, ⟨?_, ?_, ?_, ?_⟩, ?_⟩
  · unfold X7_reset
    rw [e1]
    rfl
  · refine c1.1.cg ?_ ?_
    · rw [up_ne _ _ _ (by omega), f1 _ (by simp), c2.2 _ (by simp)]
    · rw [up_ne _ _ _ (by omega), f1 _ (by simp), c2.2 _ (by simp)]
  · refine c2.1.cg ?_ ?_
    · rw [up_ne _ _ _ (by omega), f1 _ (by simp)]
    · rw [up_ne _ _ _ (by omega), f1 _ (by simp)]
  · intro p hp
    rw [up_ne _ _ _ (by omega), v1, if_pos (by omega)]
    rcases (show p = 0 ∨ p = 1 ∨ p = 2 ∨ p = 3 ∨ p = 4 ∨ p = 5 ∨ p = 6 by omega) with rfl | rfl | rfl | rfl | rfl | rfl | rfl <;> rfl
  · rw [up_get, if_pos ⟨rfl, rfl⟩]; rfl
  · intro p hp
    simp only [stP, List.mem_cons, List.not_mem_nil, or_false, not_or] at hp
    rw [up_ne _ _ _ hp.1, f1 _ (by simp; omega), c2.2 _ (by simp; omega), c1.2 _ (by simp; omega)]
