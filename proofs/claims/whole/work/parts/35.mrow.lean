/-! ===== rows of the reference ===== -/
def MRow (g : Nat → Int32) (a : St) : Prop := (a.2.2.1.length ≤ 12 ∧ a.2.2.2.length ≤ 20) ∧ g 0 = nI a.1 ∧ g 1 = nI a.2.2.1.length ∧ g 2 = nI a.2.2.2.length ∧ (∀ p, p < 7 → g (3 + p) = nI (a.2.1.getD p 0)) ∧ (∀ i, i < a.2.2.1.length → g (10 + i) = nI (a.2.2.1.getD i 0)) ∧ ∀ i, i < a.2.2.2.length → g (22 + i) = nI (a.2.2.2.getD i 0)
theorem MRow.cg {g g' : Nat → Int32} {a : St} (h : MRow g a) (hq : ∀ j, j < 42 → g' j = g j) : MRow g' a := by
  obtain ⟨h0, h1, h2, h3, h4, h5, h6⟩ := h
  exact ⟨h0, by rw [hq 0 (by omega)]; exact h1, by rw [hq 1 (by omega)]; exact h2, by rw [hq 2 (by omega)]; exact h3, fun p hp => by rw [hq _ (by omega)]; exact h4 p hp, fun i hi => by rw [hq _ (by omega)]; exact h5 i hi, fun i hi => by rw [hq _ (by omega)]; exact h6 i hi⟩
def ModH (σ : Wd) (hs : List St) : Prop := hs.length ≤ 12 ∧ σ 120 4 = nI hs.length ∧ ∀ i (h : i < hs.length), MRow (fun j => σ 123 (42 * i + j)) hs[i]
theorem keeps_J {σ : Wd} {k : Nat} (hk : k < 12) (h4 : σ 120 4 = nI k) : ∃ σ', X11_keeps_J50 σ = some σ' ∧ σ' 120 4 = nI (k + 1) ∧ (∀ j, j ≠ 4 → σ' 120 j = σ 120 j) ∧ (∀ j, σ' 123 j = if 42 * k ≤ j ∧ j < 42 * k + 42 then σ 121 (j - 42 * k) else σ 123 j) ∧ ∀ q, q ≠ 120 → q ≠ 123 → σ' q = σ q := by
  obtain ⟨f, hf⟩ : ∃ f : Nat → Wd, ∀ n p t, f n p t = if p = 123 ∧ 42 * k ≤ t ∧ t < 42 * k + n then σ 121 (t - 42 * k) else σ p t := ⟨fun n p t => if p = 123 ∧ 42 * k ≤ t ∧ t < 42 * k + n then σ 121 (t - 42 * k) else σ p t, fun _ _ _ => rfl⟩
  have f4 : ∀ n, f n 120 4 = nI k := fun n => by rw [hf, if_neg (by omega)]; exact h4
  have f1 : ∀ n, f n 121 = σ 121 := fun n => by funext t; rw [hf, if_neg (by omega)]
  refine ⟨up (f 42) 120 4 (nI (k + 1)), ?_, ?_, fun j hj => ?_, fun j => ?_, fun q h1 h2 => ?_⟩
  · unfold X11_keeps_J50
    refine lp_tr (fun n => (nI n, f n)) 42 _ ?_ (by omega) (fun n hn rec => ?_) (fun rec => ?_)
    · show ((0 : Int32), σ) = (nI 0, f 0)
      rw [nI_0]
      congr 1
      funext p t
      rw [hf, if_neg (by omega)]
    · show X11_keeps_B52 rec (nI n, f n) = _
      rw [X11_keeps_B52, show (42 : Int32) = nI 42 from rfl, if_neg (by rw [nle (by omega) (by omega)]; omega), ckA_n hn (by omega), f4, nmul, nI_add, ckA_n (by omega) (by omega), ncl (by omega), ncl (by omega), nI_1, f1]
      show rec (nI (n + 1), _) = rec (nI (n + 1), f (n + 1))
      congr 2
      funext p t
      rw [up_get, hf, hf]
      by_cases e : p = 123 ∧ t = 42 * k + n
      · rw [if_pos e, if_pos (by omega), e.2, Nat.add_sub_cancel_left]
      · rw [if_neg e]
        by_cases e2 : p = 123 ∧ 42 * k ≤ t ∧ t < 42 * k + n
        · rw [if_pos e2, if_pos (by omega)]
        · rw [if_neg e2, if_neg (by omega)]
    · show X11_keeps_B52 rec (nI 42, f 42) = _
      rw [X11_keeps_B52, show (42 : Int32) = nI 42 from rfl, if_pos (by rw [nle (by omega) (by omega)]; omega), f4, nI_1]
  · rw [up_get, if_pos ⟨rfl, rfl⟩]
  · rw [up_get, if_neg (by omega), hf, if_neg (by omega)]
  · rw [up_ne _ _ _ (by omega), hf]
    by_cases e : 42 * k ≤ j ∧ j < 42 * k + 42
    · rw [if_pos ⟨rfl, e⟩, if_pos e]
    · rw [if_neg (by omega), if_neg e]
  · rw [up_ne _ _ _ h1]
    funext t
    rw [hf, if_neg (by omega)]
theorem keeps_B {σ : Wd} {kx : Wd → Option Wd} : ∃ σ', lp (X11_keeps_B12 kx) FU (42, σ) = kx σ' ∧ (∀ j, σ' 123 j = if j < 462 then σ 123 (j + 42) else σ 123 j) ∧ ∀ q, q ≠ 123 → σ' q = σ q := by
  obtain ⟨f, hf⟩ : ∃ f : Nat → Wd, ∀ n p t, f n p t = if p = 123 ∧ t < n then σ 123 (t + 42) else σ p t := ⟨fun n p t => if p = 123 ∧ t < n then σ 123 (t + 42) else σ p t, fun _ _ _ => rfl⟩
  refine ⟨f 462, ?_, fun j => ?_, fun q hq => ?_⟩
  · refine lp_tr (fun n => (nI (42 + n), f n)) 462 _ ?_ (by omega) (fun n hn rec => ?_) (fun rec => ?_)
    · show ((42 : Int32), σ) = (nI 42, f 0)
      congr 1
      funext p t
      rw [hf, if_neg (by omega)]
    · show X11_keeps_B12 kx rec (nI (42 + n), f n) = _
      have e0 : nI (42 + n) - 42 = nI n := by
        rw [show (42 : Int32) = nI 42 from rfl, nsub (by omega)]
        congr 1; omega
      rw [X11_keeps_B12, show (504 : Int32) = nI 504 from rfl, if_neg (by rw [nle (by omega) (by omega)]; omega), ckA_n (by omega) (by omega), e0, ckA_n (by omega) (by omega), ncl (by omega), ncl (by omega), nI_1]
      show rec (nI (42 + n + 1), _) = rec (nI (42 + (n + 1)), f (n + 1))
      congr 2
      funext p t
      rw [up_get, hf, hf, hf]
      by_cases e : p = 123 ∧ t = n
      · rw [if_pos e, if_neg (by omega), if_pos (by omega), e.2]
        congr 1; omega
      · rw [if_neg e]
        by_cases e2 : p = 123 ∧ t < n
        · rw [if_pos e2, if_pos (by omega)]
        · rw [if_neg e2, if_neg (by omega)]
    · show X11_keeps_B12 kx rec (nI (42 + 462), f 462) = _
      rw [X11_keeps_B12, show (504 : Int32) = nI 504 from rfl, if_pos (by rw [nle (by omega) (by omega)]; omega)]
  · rw [hf]
    by_cases e : j < 462
    · rw [if_pos ⟨rfl, e⟩, if_pos e]
    · rw [if_neg (by omega), if_neg e]
  · funext t
    rw [hf, if_neg (by omega)]
theorem m_keeps {σ : Wd} {hs : List St} {a : St} (ha : MRow (σ 121) a) (h : ModH σ hs) : ∃ σ', X11_keeps σ = some σ' ∧ ModH σ' (pushH hs a) ∧ (∀ j, j ≠ 4 → σ' 120 j = σ 120 j) ∧ ∀ q, q ≠ 120 → q ≠ 123 → σ' q = σ q := by
  obtain ⟨hl, h4, hm⟩ := h
  unfold X11_keeps
  rw [h4, show (12 : Int32) = nI 12 from rfl]
  by_cases hc : hs.length < 12
  · have hp : pushH hs a = hs ++ [a] := if_pos hc
    rw [if_neg (fun e => absurd ((neq (by omega) (by omega)).mp e) (by omega))]
    obtain ⟨σ', e1, e2, e3, e4, e5⟩ := keeps_J hc h4
    refine ⟨σ', e1, ⟨by rw [hp]; simp; omega, by rw [e2, hp]; simp, fun i hi => ?_⟩, e3, e5⟩
    have hi' : i < hs.length + 1 := by rw [hp] at hi; simpa using hi
    by_cases e : i = hs.length
    · subst e
      have : (pushH hs a)[hs.length] = a := by simp [hp]
      rw [this]
      refine ha.cg (fun j hj => ?_)
      rw [e4, if_pos (by omega), Nat.add_sub_cancel_left]
    · have hil : i < hs.length := by omega
      have : (pushH hs a)[i] = hs[i] := by simp [hp, List.getElem_append_left hil]
      rw [this]
      refine (hm i hil).cg (fun j hj => ?_)
      rw [e4, if_neg (by omega)]
  · have h12 : hs.length = 12 := by omega
    have hp : pushH hs a = hs.tail ++ [a] := if_neg hc
    rw [if_pos (by rw [h12])]
    obtain ⟨σ1, b1, b2, b3⟩ := keeps_B (σ := σ) (kx := X11_keeps_T40)
    rw [b1]
    unfold X11_keeps_T40
    rw [b3 120 (by omega), h4, h12, show nI 12 - 1 = nI 11 from nsub (a := 12) (b := 1) (by omega)]
    obtain ⟨σ', e1, e2, e3, e4, e5⟩ := keeps_J (σ := up σ1 120 4 (nI 11)) (k := 11) (by omega) (by rw [up_get, if_pos ⟨rfl, rfl⟩])
    refine ⟨σ', e1, ⟨by rw [hp]; simp; omega, by rw [e2, hp]; simp [h12], fun i hi => ?_⟩, fun j hj => ?_, fun q h1 h2 => ?_⟩
    · have hi' : i < 12 := by rw [hp] at hi; simp at hi; omega
      by_cases e : i = 11
      · subst e
        have : (pushH hs a)[11] = a := by
          simp only [hp]
          rw [List.getElem_append_right (by simp; omega)]
          simp
        rw [this]
        refine ha.cg (fun j hj => ?_)
        rw [e4, if_pos (by omega), up_ne _ _ _ (by omega), b3 121 (by omega), Nat.add_sub_cancel_left]
      · have hil : i + 1 < hs.length := by omega
        have : (pushH hs a)[i] = hs[i + 1] := by
          simp only [hp]
          rw [List.getElem_append_left (by simp; omega)]
          simp
        rw [this]
        refine (hm (i + 1) hil).cg (fun j hj => ?_)
        rw [e4, if_neg (by omega), up_ne _ _ _ (by omega), b2, if_pos (by omega), show 42 * i + j + 42 = 42 * (i + 1) + j by omega]
    · rw [e3 j hj, up_get, if_neg (by omega), b3 120 (by omega)]
    · rw [e5 q h1 h2, up_ne _ _ _ h1, b3 q h2]
theorem m_undo {σ : Wd} {hs : List St} (h : ModH σ hs) (h0 : hs ≠ []) : ∃ σ', X11_undo σ = some (nI (hs.length - 1), σ') ∧ ModH σ' hs.dropLast ∧ MRow (σ' 121) (hs.getLast h0) ∧ (∀ j, j ≠ 4 → σ' 120 j = σ 120 j) ∧ ∀ q, q ≠ 120 → q ≠ 121 → σ' q = σ q := by
  obtain ⟨hl, h4, hm⟩ := h
  have hpos : 0 < hs.length := List.length_pos_iff.mpr h0
  obtain ⟨k, hk⟩ : ∃ k, hs.length = k + 1 := ⟨hs.length - 1, by omega⟩
  have hlast : hs.getLast h0 = hs[hs.length - 1] := List.getLast_eq_getElem h0
  obtain ⟨f, hf⟩ : ∃ f : Nat → Wd, ∀ n p t, f n p t = if p = 121 ∧ t < n then σ 123 (42 * k + t) else up σ 120 4 (nI k) p t := ⟨fun n p t => if p = 121 ∧ t < n then σ 123 (42 * k + t) else up σ 120 4 (nI k) p t, fun _ _ _ => rfl⟩
  have f4 : ∀ n, f n 120 4 = nI k := fun n => by rw [hf, if_neg (by omega), up_get, if_pos ⟨rfl, rfl⟩]
  have f3 : ∀ n, f n 123 = σ 123 := fun n => by funext t; rw [hf, if_neg (by omega), up_ne _ _ _ (by omega)]
  refine ⟨f 42, ?_, ⟨by simp; omega, by rw [f4]; simp [hk], fun i hi => ?_⟩, ?_, fun j hj => ?_, fun q h1 h2 => ?_⟩
  · unfold X11_undo
    rw [h4, show (0 : Int32) = nI 0 from rfl, if_neg (fun e => absurd ((neq (by omega) (by omega)).mp e) (by omega)), hk, show nI (k + 1) - 1 = nI k from nsub (a := k + 1) (b := 1) (by omega)]
    refine lp_tr (fun n => (nI n, f n)) 42 _ ?_ (by omega) (fun n hn rec => ?_) (fun rec => ?_)
    · show (nI 0, up σ 120 4 (nI k)) = (nI 0, f 0)
      congr 1
      funext p t
      rw [hf, if_neg (by omega)]
    · show X11_undo_B21 rec (nI n, f n) = _
      rw [X11_undo_B21, show (42 : Int32) = nI 42 from rfl, if_neg (by rw [nle (by omega) (by omega)]; omega), f4, nmul, nI_add, ckA_n (by omega) (by omega), ckA_n (by omega) (by omega), ncl (by omega), ncl (by omega), nI_1, f3]
      show rec (nI (n + 1), _) = rec (nI (n + 1), f (n + 1))
      congr 2
      funext p t
      rw [up_get, hf, hf]
      by_cases e : p = 121 ∧ t = n
      · rw [if_pos e, if_pos (by omega), e.2]
      · rw [if_neg e]
        by_cases e2 : p = 121 ∧ t < n
        · rw [if_pos e2, if_pos (by omega)]
        · rw [if_neg e2, if_neg (by omega)]
    · show X11_undo_B21 rec (nI 42, f 42) = _
      rw [X11_undo_B21, show (42 : Int32) = nI 42 from rfl, if_pos (by rw [nle (by omega) (by omega)]; omega), f4]
      rfl
  · have hil : i < hs.length := by simp at hi; omega
    have : hs.dropLast[i] = hs[i] := List.getElem_dropLast hi
    rw [this]
    exact (hm i hil).cg (fun j _ => by rw [f3])
  · rw [hlast]
    have := hm (hs.length - 1) (by omega)
    refine this.cg (fun j hj => ?_)
    rw [hf, if_pos ⟨rfl, hj⟩]
    congr 2; omega
  · rw [hf, if_neg (by omega), up_get, if_neg (by omega)]
  · funext t
    rw [hf, if_neg (by omega), up_ne _ _ _ h1]
