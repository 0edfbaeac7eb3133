/-! ===== history of the class: a ring of twelve states ===== -/
def slot (j : Nat) : Nat := 15 + 6 * (j % 12)
def HistR (σ : Wd) (hs : List St) : Prop := ∃ o, o < 12 ∧ σ 13 1 = nI o ∧ σ 13 2 = nI hs.length ∧ hs.length ≤ 12 ∧ ∀ i (h : i < hs.length), StR σ (slot (o + i)) hs[i]
def pushH (hs : List St) (a : St) : List St := if hs.length < 12 then hs ++ [a] else hs.tail ++ [a]
theorem f_fm : ∀ a, a < 64 → J9_floorMod_7cf53 (nI a) 12 = some (nI (a % 12)) := by decide +kernel
theorem slot_lt (j : Nat) : slot j + 6 ≤ 87 ∧ 15 ≤ slot j := by unfold slot; omega
theorem slot_kd (j : Nat) : kKd (slot j) = 7 := (by decide +kernel : ∀ m, m < 12 → kKd (15 + 6 * m) = 7) (j % 12) (Nat.mod_lt _ (by decide))
theorem slot_rf (j : Nat) : kRf 14 (j % 12) = slot j := (by decide +kernel : ∀ m, m < 12 → kRf 14 m = 15 + 6 * m) (j % 12) (Nat.mod_lt _ (by decide))
theorem hslot_ne {i j : Nat} (h : i % 12 ≠ j % 12) : slot i + 6 ≤ slot j ∨ slot j + 6 ≤ slot i := by unfold slot; omega
theorem hslot_off {s q k : Nat} (h : s + 6 ≤ k ∨ k + 6 ≤ s) (hq : q ∈ stP k) : q ∉ stP s := by
  simp only [stP, List.mem_cons, List.not_mem_nil, or_false] at hq ⊢
  omega
def histP : List Nat := (List.range 74).map (· + 13)
theorem histP_mem {q : Nat} : q ∈ histP ↔ 13 ≤ q ∧ q < 87 := by
  simp only [histP, List.mem_map, List.mem_range]
  constructor
  · rintro ⟨a, h1, rfl⟩; omega
  · rintro ⟨h1, h2⟩; exact ⟨q - 13, by omega, by omega⟩
theorem HistR.cg {σ σ' : Wd} {hs : List St} (h : HistR σ hs) (hq : ∀ q, 13 ≤ q → q < 87 → σ' q = σ q) : HistR σ' hs := by
  obtain ⟨o, h1, h2, h3, h4, h5⟩ := h
  refine ⟨o, h1, by rw [hq 13 (by omega) (by omega)]; exact h2, by rw [hq 13 (by omega) (by omega)]; exact h3, h4, fun i hi => (h5 i hi).cg (fun q hm => ?_)⟩
  have := slot_lt (o + i)
  simp only [stP, List.mem_cons, List.not_mem_nil, or_false] at hm
  exact hq q (by omega) (by omega)
theorem hist_push {σ : Wd} {hs : List St} {a : St} {q : Nat} (h : HistR σ hs) (hq : kKd q = 7) (hd : q + 6 ≤ 13) (ha : StR σ q a) (hg : a.2.2.1.length ≤ 12) (hl : a.2.2.2.length ≤ 20) : ∃ σ', X1_push σ q = some σ' ∧ HistR σ' (pushH hs a) ∧ (∀ p, (p < 13 ∨ 87 ≤ p) → σ' p = σ p) := by
  obtain ⟨o, h1, h2, h3, h4, h5⟩ := h
  have hsl := slot_lt (o + hs.length)
  obtain ⟨σ1, e1, r1, f1⟩ := st_copy (σ := σ) (r := slot (o + hs.length)) (q := q) (slot_kd _) hq ha hg hl (by omega)
  have k13 : σ1 13 = σ 13 := f1 13 (by simp only [stP, List.mem_cons, List.not_mem_nil, or_false]; omega)
  have run : X1_push σ q = X1_push_J29 σ1 := by
    unfold X1_push
    rw [h2, h3, nI_add, f_fm _ (by omega)]
    show ckA (nI ((o + hs.length) % 12)) 12 _ = _
    have hm : (o + hs.length) % 12 < 12 := Nat.mod_lt _ (by decide)
    rw [ckA_n hm (by decide), ncl (by omega)]
    show (X7_copy σ (kRf 14 ((o + hs.length) % 12)) q).bind _ = _
    rw [slot_rf, e1]
    rfl
  rw [run]
  unfold X1_push_J29
  rw [k13, h2, h3]
  by_cases hc : hs.length < 12
  · have hp : pushH hs a = hs ++ [a] := if_pos hc
    rw [show (12 : Int32) = nI 12 from rfl, if_neg (by rw [nle (by omega) (by omega)]; omega), nI_1]
    refine ⟨_, rfl, ⟨o, h1, ?_, ?_, by rw [hp]; simp; omega, fun i hi => ?_⟩, fun p hp' => ?_⟩
    · rw [up_get, if_neg (by decide), k13]; exact h2
    · rw [up_get, if_pos ⟨rfl, rfl⟩, hp]; simp
    · have hup : ∀ t ∈ stP (slot (o + i)), up σ1 13 2 (nI (hs.length + 1)) t = σ1 t := fun t ht => up_ne _ _ _ (by
        have := slot_lt (o + i)
        simp only [stP, List.mem_cons, List.not_mem_nil, or_false] at ht
        omega)
      have hi' : i < hs.length + 1 := by rw [hp] at hi; simpa using hi
      by_cases e : i = hs.length
      · subst e
        have : (pushH hs a)[hs.length] = a := by simp [hp]
        rw [this]
        exact r1.cg hup
      · have hil : i < hs.length := by omega
        have : (pushH hs a)[i] = hs[i] := by simp [hp, List.getElem_append_left hil]
        rw [this]
        refine ((h5 i hil).cg (fun t ht => ?_))
        rw [hup t ht]
        exact f1 t (hslot_off (hslot_ne (by omega)) ht)
    · rw [up_ne _ _ _ (by omega)]
      exact f1 p (by simp only [stP, List.mem_cons, List.not_mem_nil, or_false]; omega)
  · have h12 : hs.length = 12 := by omega
    have hp : pushH hs a = hs.tail ++ [a] := if_neg hc
    rw [show (12 : Int32) = nI 12 from rfl, if_pos (by rw [nle (by omega) (by omega)]; omega), nI_1, show (nI 12) = (12 : Int32) from rfl, f_fm _ (by omega)]
    refine ⟨_, rfl, ⟨(o + 1) % 12, Nat.mod_lt _ (by decide), ?_, ?_, by rw [hp]; simp; omega, fun i hi => ?_⟩, fun p hp' => ?_⟩
    · rw [up_get, if_pos ⟨rfl, rfl⟩]
    · rw [up_get, if_neg (by decide), k13, h3, hp]
      simp [h12]
    · have hup : ∀ k, ∀ t ∈ stP (slot k), up σ1 13 1 (nI ((o + 1) % 12)) t = σ1 t := fun k t ht => up_ne _ _ _ (by
        have := slot_lt k
        simp only [stP, List.mem_cons, List.not_mem_nil, or_false] at ht
        omega)
      have hi' : i < 12 := by rw [hp] at hi; simp at hi; omega
      have hsl2 : slot ((o + 1) % 12 + i) = slot (o + (i + 1)) := by unfold slot; omega
      rw [hsl2]
      by_cases e : i = 11
      · subst e
        have : (pushH hs a)[11] = a := by
          simp only [hp]
          rw [List.getElem_append_right (by simp; omega)]
          simp
        rw [this]
        have : slot (o + (11 + 1)) = slot (o + hs.length) := by rw [h12]
        rw [this]
        exact r1.cg (hup _)
      · have hil : i + 1 < hs.length := by omega
        have : (pushH hs a)[i] = hs[i + 1] := by
          simp only [hp]
          rw [List.getElem_append_left (by simp; omega)]
          simp
        rw [this]
        refine ((h5 (i + 1) hil).cg (fun t ht => ?_))
        rw [hup _ t ht]
        exact f1 t (hslot_off (hslot_ne (by omega)) ht)
    · rw [up_ne _ _ _ (by omega)]
      exact f1 p (by simp only [stP, List.mem_cons, List.not_mem_nil, or_false]; omega)
theorem hist_pop {σ : Wd} {hs : List St} (h : HistR σ hs) (h0 : hs ≠ []) (hw : ∀ a ∈ hs, a.2.2.1.length ≤ 12 ∧ a.2.2.2.length ≤ 20) : ∃ σ', X1_pop σ 1 = some σ' ∧ HistR σ' hs.dropLast ∧ StR σ' 1 (hs.getLast h0) ∧ (∀ p, 7 ≤ p → p ≠ 13 → σ' p = σ p) := by
  obtain ⟨o, h1, h2, h3, h4, h5⟩ := h
  have hpos : 0 < hs.length := List.length_pos_iff.mpr h0
  have hlast : hs.getLast h0 = hs[hs.length - 1] := List.getLast_eq_getElem h0
  have hsl := slot_lt (o + (hs.length - 1))
  have hu : ∀ p, p ≠ 13 → up σ 13 2 (nI (hs.length - 1)) p = σ p := fun p hp => up_ne _ _ _ hp
  have hS : StR (up σ 13 2 (nI (hs.length - 1))) (slot (o + (hs.length - 1))) (hs.getLast h0) := by
    rw [hlast]
    exact (h5 (hs.length - 1) (by omega)).cg (fun t ht => hu t (by
      simp only [stP, List.mem_cons, List.not_mem_nil, or_false] at ht
      omega))
  have hwl := hw _ (List.getLast_mem h0)
  obtain ⟨σ1, e1, r1, f1⟩ := st_copy (r := 1) (q := slot (o + (hs.length - 1))) rfl (slot_kd _) hS hwl.1 hwl.2 (by omega)
  refine ⟨σ1, ?_, ⟨o, h1, ?_, ?_, by simp; omega, fun i hi => ?_⟩, r1, fun p hp hp2 => ?_⟩
  · unfold X1_pop
    rw [h3, if_pos (by rw [show (0 : Int32) = nI 0 from rfl, nlt (by omega) (by omega)]; exact hpos)]
    rw [show nI hs.length - 1 = nI (hs.length - 1) from nsub (a := hs.length) (b := 1) (by omega)]
    have g1 : (up σ 13 2 (nI (hs.length - 1))) 13 1 = nI o := by rw [up_get, if_neg (by decide)]; exact h2
    have g2 : (up σ 13 2 (nI (hs.length - 1))) 13 2 = nI (hs.length - 1) := by rw [up_get, if_pos ⟨rfl, rfl⟩]
    rw [g1, g2, nI_add, f_fm _ (by omega)]
    show ckA (nI ((o + (hs.length - 1)) % 12)) 12 _ = _
    have hm : (o + (hs.length - 1)) % 12 < 12 := Nat.mod_lt _ (by decide)
    rw [ckA_n hm (by decide), ncl (by omega)]
    show (X7_copy _ 1 (kRf 14 ((o + (hs.length - 1)) % 12))).bind _ = _
    rw [slot_rf, e1]
    rfl
  · rw [f1 13 (by decide), up_get, if_neg (by decide)]; exact h2
  · rw [f1 13 (by decide), up_get, if_pos ⟨rfl, rfl⟩]; simp
  · have hil : i < hs.length := by simp at hi; omega
    have : hs.dropLast[i] = hs[i] := List.getElem_dropLast hi
    rw [this]
    refine ((h5 i hil).cg (fun t ht => ?_))
    have := slot_lt (o + i)
    simp only [stP, List.mem_cons, List.not_mem_nil, or_false] at ht
    rw [f1 t (by simp only [stP, List.mem_cons, List.not_mem_nil, or_false]; omega), hu t (by omega)]
  · rw [f1 p (by simp only [stP, List.mem_cons, List.not_mem_nil, or_false]; omega), hu p hp2]
