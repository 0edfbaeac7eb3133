/-! the family stands -/
theorem sbind {α β : Type} (a : α) (f : α → Option β) : (some a).bind f = f a := rfl
def FamR (σ : Wd) (n : Nat) (gs : List Nat) : Prop := OrdR σ ∧ RowR σ 95 (mems gs) ∧ (∀ t, t < 128 → σ 99 t = numB gs t) ∧ FwR gs 20 (σ 100) ∧ (∀ t, t < 128 → σ 101 t = nI (inn gs t)) ∧ RowR σ 97 (bas gs) ∧ (∀ p, p < 7 → σ 102 p = nI (cntA gs (2 ^ p))) ∧ σ 93 7 = nI n
theorem FamR.ord {σ : Wd} {n : Nat} {gs : List Nat} (h : FamR σ n gs) : OrdR σ := h.1
theorem FamR.mem {σ : Wd} {n : Nat} {gs : List Nat} (h : FamR σ n gs) : RowR σ 95 (mems gs) := h.2.1
theorem FamR.num {σ : Wd} {n : Nat} {gs : List Nat} (h : FamR σ n gs) : ∀ t, t < 128 → σ 99 t = numB gs t := h.2.2.1
theorem FamR.few {σ : Wd} {n : Nat} {gs : List Nat} (h : FamR σ n gs) : FwR gs 20 (σ 100) := h.2.2.2.1
theorem FamR.inn {σ : Wd} {n : Nat} {gs : List Nat} (h : FamR σ n gs) : ∀ t, t < 128 → σ 101 t = nI (inn gs t) := h.2.2.2.2.1
theorem FamR.bas {σ : Wd} {n : Nat} {gs : List Nat} (h : FamR σ n gs) : RowR σ 97 (bas gs) := h.2.2.2.2.2.1
theorem FamR.oft {σ : Wd} {n : Nat} {gs : List Nat} (h : FamR σ n gs) : ∀ p, p < 7 → σ 102 p = nI (cntA gs (2 ^ p)) := h.2.2.2.2.2.2.1
theorem FamR.pts {σ : Wd} {n : Nat} {gs : List Nat} (h : FamR σ n gs) : σ 93 7 = nI n := h.2.2.2.2.2.2.2
theorem FamR.cg {σ σ' : Wd} {n : Nat} {gs : List Nat} (h : FamR σ n gs) (hq : ∀ q, 93 ≤ q → q ≤ 102 → σ' q = σ q) : FamR σ' n gs :=
  ⟨fun i hi => by rw [hq 94 (by omega) (by omega)]; exact h.ord i hi, h.mem.cg (hq 95 (by omega) (by omega)) (hq 96 (by omega) (by omega)),
  fun t ht => by rw [hq 99 (by omega) (by omega)]; exact h.num t ht, by rw [hq 100 (by omega) (by omega)]; exact h.few,
  fun t ht => by rw [hq 101 (by omega) (by omega)]; exact h.inn t ht, h.bas.cg (hq 97 (by omega) (by omega)) (hq 98 (by omega) (by omega)),
  fun t ht => by rw [hq 102 (by omega) (by omega)]; exact h.oft t ht, by rw [hq 93 (by omega) (by omega)]; exact h.pts⟩
theorem rebuild_ok {σ : Wd} {n : Nat} {gs : List Nat} (ho : OrdR σ) (hr : RowR σ 2 gs) (hl : gs.length ≤ 12) (hg : ∀ x ∈ gs, x < 128) : ∃ σ', X0_rebuild σ (nI n) 2 = some σ' ∧ FamR σ' n gs ∧ ∀ q, (q < 93 ∨ 102 < q) → σ' q = σ q := by
  have hr1 : RowR (up σ 93 7 (nI n)) 2 gs := hr.cg (up_ne _ _ _ (by decide)) (up_ne _ _ _ (by decide))
  obtain ⟨f, e1, w1⟩ := unite_ok (by decide) (by decide) hr1 (by rw [show kLn (2 + 1) = 12 from rfl]; exact hl) (by decide) hg (by omega)
  obtain ⟨σ1, hσ1⟩ : ∃ σ1, σ1 = sA (up σ 93 7 (nI n)) 100 f := ⟨_, rfl⟩
  rw [← hσ1] at e1
  have a1 : ∀ q, q ≠ 93 → q ≠ 100 → σ1 q = σ q := fun q h h' => by rw [hσ1, sA_ne _ _ h', up_ne _ _ _ h]
  have ho1 : OrdR σ1 := fun i hi => by rw [a1 94 (by decide) (by decide)]; exact ho i hi
  have hf1 : FwR gs 20 (σ1 100) := by rw [hσ1, sA_at]; exact w1
  have hp1 : σ1 93 7 = nI n := by rw [hσ1, sA_ne _ _ (by decide), up_at]; rfl
  obtain ⟨σ2, e2, m2, n2, f2⟩ := numbers_ok hg ho1 hf1
  obtain ⟨σ3, e3, w3, f3⟩ := within_ok (σ := σ2) n2
  obtain ⟨σ4, e4, b4, f4⟩ := base_ok (σ := σ3) hg (m2.cg (f3 95 (by simp)) (f3 96 (by simp))) w3
  obtain ⟨σ5, e5, p5, f5⟩ := points_ok (σ := σ4) (gs := gs) ((m2.cg (f3 95 (by simp)) (f3 96 (by simp))).cg (f4 95 (by simp)) (f4 96 (by simp)))
  refine ⟨σ5, ?_, ⟨fun i hi => ?_, ?_, fun t ht => ?_, ?_, fun t ht => ?_, ?_, p5, ?_⟩, fun q hq => ?_⟩
  · unfold X0_rebuild
    rw [e1, sbind, e2, sbind, e3, sbind, e4, sbind, e5, sbind]
  · rw [f5 94 (by simp), f4 94 (by simp), f3 94 (by simp), f2 94 (by simp)]; exact ho1 i hi
  · exact ((m2.cg (f3 95 (by simp)) (f3 96 (by simp))).cg (f4 95 (by simp)) (f4 96 (by simp))).cg (f5 95 (by simp)) (f5 96 (by simp))
  · rw [f5 99 (by simp), f4 99 (by simp), f3 99 (by simp)]; exact n2 t ht
  · rw [f5 100 (by simp), f4 100 (by simp), f3 100 (by simp), f2 100 (by simp)]; exact hf1
  · rw [f5 101 (by simp), f4 101 (by simp)]; exact w3 t ht
  · exact b4.cg (f5 97 (by simp)) (f5 98 (by simp))
  · rw [f5 93 (by simp), f4 93 (by simp), f3 93 (by simp), f2 93 (by simp)]; exact hp1
  · have h1 : q ≠ 93 := by omega
    have h2 : q ≠ 100 := by omega
    rw [f5 q (by simp; omega), f4 q (by simp; omega), f3 q (by simp; omega), f2 q (by simp; omega)]
    exact a1 q h1 h2
theorem wf_lt {a : St} (h : wf a) : ∀ x ∈ a.2.2.1, x < 128 := fun x hx => by
  have h1 := (h.2.2.1.2.1 x hx).2
  have h2 : 2 ^ a.1 ≤ 2 ^ 7 := Nat.pow_le_pow_right (by decide) h.1.2
  omega
theorem wf_lt' {a : St} (h : wf a) : ∀ x ∈ a.2.2.2, x < 128 := fun x hx => by
  have h1 := (h.2.2.2.2.1 x hx).2
  have h2 : 2 ^ a.1 ≤ 2 ^ 7 := Nat.pow_le_pow_right (by decide) h.1.2
  omega
/-- what is kept for later questions is forgotten -/
def CN (σ : Wd) : Prop := σ 103 4 = 0 ∧ σ 107 5 = -1
theorem refresh_ok {σ : Wd} {a : St} (ho : OrdR σ) (h : StR σ 1 a) (hw : wf a) : ∃ σ', X10_refresh σ = some σ' ∧ FamR σ' a.1 a.2.2.1 ∧ CN σ' ∧ ∀ q, (q < 93 ∨ 107 < q) → σ' q = σ q := by
  obtain ⟨σ1, e1, f1, g1⟩ := rebuild_ok (n := a.1) ho h.1 hw.2.2.1.1 (wf_lt hw)
  refine ⟨X6_forget (X2_forget σ1), ?_, ?_, ⟨?_, ?_⟩, fun q hq => ?_⟩
  · unfold X10_refresh
    rw [h.2.2.2, e1]
    rfl
  · refine f1.cg (fun q h1 h2 => ?_)
    unfold X6_forget X2_forget
    rw [up_ne _ _ _ (by omega), up_ne _ _ _ (by omega)]
  · unfold X6_forget X2_forget
    rw [up_ne _ _ _ (by omega), up_at]; rfl
  · unfold X6_forget
    rw [up_at]; rfl
  · unfold X6_forget X2_forget
    rw [up_ne _ _ _ (by omega), up_ne _ _ _ (by omega)]
    exact g1 q (by omega)
/-- the class stands for a state, its past and a tape -/
def CR (σ : Wd) (a : St) (hs : List St) (tp : List Nat) : Prop := StR σ 1 a ∧ HistR σ hs ∧ RowR σ 87 tp ∧ FamR σ a.1 a.2.2.1
theorem CR.st {σ : Wd} {a : St} {hs : List St} {tp : List Nat} (h : CR σ a hs tp) : StR σ 1 a := h.1
theorem CR.hist {σ : Wd} {a : St} {hs : List St} {tp : List Nat} (h : CR σ a hs tp) : HistR σ hs := h.2.1
theorem CR.tape {σ : Wd} {a : St} {hs : List St} {tp : List Nat} (h : CR σ a hs tp) : RowR σ 87 tp := h.2.2.1
theorem CR.fam {σ : Wd} {a : St} {hs : List St} {tp : List Nat} (h : CR σ a hs tp) : FamR σ a.1 a.2.2.1 := h.2.2.2
theorem CR.cg {σ σ' : Wd} {a : St} {hs : List St} {tp : List Nat} (h : CR σ a hs tp) (hq : ∀ q, ((1 ≤ q ∧ q ≤ 6) ∨ (13 ≤ q ∧ q ≤ 88) ∨ (93 ≤ q ∧ q ≤ 102)) → σ' q = σ q) : CR σ' a hs tp :=
  ⟨h.st.cg (fun q h => hq q (by simp only [stP, List.mem_cons, List.not_mem_nil, or_false] at h; omega)), h.hist.cg (fun q h1 h2 => hq q (by omega)),
  h.tape.cg (hq 87 (by omega)) (hq 88 (by omega)), h.fam.cg (fun q h1 h2 => hq q (by omega))⟩
theorem settle_ok {σ : Wd} {a b : St} {hs : List St} {tp : List Nat} (h : CR σ a hs tp) (ha : wf a) (hb : StR σ 7 b) (hwb : wf b) : ∃ σ', X10_settle σ = some σ' ∧ CR σ' b (pushH hs a) tp ∧ CN σ' ∧ ∀ q, 108 ≤ q → σ' q = σ q := by
  obtain ⟨σ1, e1, r1, f1⟩ := hist_push (q := 1) h.hist rfl (by decide) h.st ha.2.2.1.1 ha.2.2.2.1
  have hb1 : StR σ1 7 b := hb.cg (fun q hq => f1 q (by simp only [stP, List.mem_cons, List.not_mem_nil, or_false] at hq; omega))
  obtain ⟨σ2, e2, r2, f2⟩ := st_copy (r := 1) (q := 7) rfl rfl hb1 hwb.2.2.1.1 hwb.2.2.2.1 (by decide)
  have g2 : ∀ q, 7 ≤ q → σ2 q = σ1 q := fun q hq => f2 q (by simp only [stP, List.mem_cons, List.not_mem_nil, or_false]; omega)
  have ho : OrdR σ2 := fun i hi => by rw [g2 94 (by omega), f1 94 (by omega)]; exact h.fam.ord i hi
  obtain ⟨σ3, e3, r3, c3, f3⟩ := refresh_ok ho r2 hwb
  refine ⟨σ3, ?_, ⟨?_, ?_, ?_, r3⟩, c3, fun q hq => ?_⟩
  · unfold X10_settle
    rw [e1, sbind, e2, sbind, e3, sbind]
  · exact r2.cg (fun q hq => f3 q (by simp only [stP, List.mem_cons, List.not_mem_nil, or_false] at hq; omega))
  · exact r1.cg (fun q h1 h2 => by rw [f3 q (by omega), g2 q (by omega)])
  · exact h.tape.cg (by rw [f3 87 (by omega), g2 87 (by omega), f1 87 (by omega)]) (by rw [f3 88 (by omega), g2 88 (by omega), f1 88 (by omega)])
  · rw [f3 q (by omega), g2 q (by omega), f1 q (by omega)]
