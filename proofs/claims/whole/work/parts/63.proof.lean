/-! proof: rows of small weights -/
theorem ndiv {a b : Nat} (ha : a < 2 ^ 31) (hb : b < 2 ^ 31) : nI a / nI b = nI (a / b) := by
  apply Int32.toInt_inj.mp
  have h1 : a / b ≤ a := Nat.div_le_self _ _
  rw [Int32.toInt_div, nI_toInt ha, nI_toInt hb, nI_toInt (by omega), Int.tdiv_eq_ediv_of_nonneg (by omega)]
  have : ((a : Int) / (b : Int)) = ((a / b : Nat) : Int) := rfl
  rw [this]
  generalize a / b = c at h1
  apply Int.bmod_eq_of_le <;> omega
def dg (r n p : Nat) : Nat := r / 3 ^ (n - 1 - p) % 3
def sumD (r : Nat) : Nat → Nat
  | 0 => 0
  | k + 1 => sumD r k + r / 3 ^ k % 3
theorem sumD_le (r : Nat) : ∀ k, sumD r k ≤ 2 * k
  | 0 => Nat.le_refl _
  | k + 1 => by
    have := sumD_le r k
    have : r / 3 ^ k % 3 < 3 := Nat.mod_lt _ (by decide)
    rw [sumD]; omega
theorem dg_le (r n p : Nat) : dg r n p ≤ 2 := by
  have : dg r n p < 3 := Nat.mod_lt _ (by decide)
  omega
theorem nI_m1 : nI 0 - 1 < 0 := by decide
theorem nI_dn {k : Nat} : nI (k + 1) - 1 = nI k := nsub (a := k + 1) (b := 1) (by omega)
theorem nI_dn2 {k : Nat} : nI k + (-1) = nI k - 1 := by rw [Int32.sub_eq_add_neg]
theorem fillC_ok {σ : Wd} {n r : Nat} (hn : n ≤ 7) (h1 : 1 ≤ n) (h0 : σ 1 3 = nI n) (hr : r < 2 ^ 31) : ∃ σ', X10_fillTrial σ (nI r) = some (nI (sumD r n), σ') ∧ (∀ p, p < n → σ' 119 p = nI (dg r n p)) ∧ Fr σ σ' [119] := by
  have hmin : J9_min_7cf53 (nI n) 7 = nI n := by
    have : ∀ n, n ≤ 7 → J9_min_7cf53 (nI n) 7 = nI n := by decide +kernel
    exact this n hn
  unfold X10_fillTrial
  rw [h0, hmin]
  refine lp_c (body := X10_fillTrial_B23) (0, nI r, nI n - 1, σ) (fun k s => s.1 = nI (sumD r k) ∧ s.2.1 = nI (r / 3 ^ k) ∧ s.2.2.1 = nI (n - k) - 1 ∧ (∀ p, p < n → n - k ≤ p → s.2.2.2 119 p = nI (dg r n p)) ∧ Fr σ s.2.2.2 [119]) n (fun s => some (nI (sumD r n), s.2.2.2)) ⟨nI_0.symm, by simp, rfl, fun p hp h => by omega, Fr.rf _ _⟩ (by omega) (fun k s hk hi => ?_) (fun s hi rec => ?_) (fun s' hI he => ?_)
  · obtain ⟨x2, x3, x4, τ⟩ := s
    obtain ⟨g1, g2, g3, g4, g5⟩ := hi
    simp only at g1 g2 g3 g4 g5
    have hd : nI (n - k) - 1 = nI (n - k - 1) := by rw [show n - k = n - k - 1 + 1 by omega, nI_dn]; rfl
    rw [hd] at g3
    subst g1 g2 g3
    have hb : r / 3 ^ k < 2 ^ 31 := Nat.lt_of_le_of_lt (Nat.div_le_self _ _) hr
    refine ⟨(nI (sumD r (k + 1)), nI (r / 3 ^ (k + 1)), nI (n - k - 1) - 1, up τ 119 (n - k - 1) (nI (r / 3 ^ k % 3))), ⟨rfl, rfl, ?_, fun p hp h => ?_, (g5.tr (Fr.up (ps := [119]) (by simp))).mono (by simp)⟩, fun rec => ?_⟩
    · show nI (n - k - 1) - 1 = nI (n - (k + 1)) - 1
      rw [Nat.sub_sub]
    · show up τ 119 (n - k - 1) (nI (r / 3 ^ k % 3)) 119 p = _
      rw [up_at]; unfold upd
      by_cases e : p = n - k - 1
      · rw [if_pos e, dg, show n - 1 - p = k by omega]
      · rw [if_neg e]; exact g4 p hp (by omega)
    · rw [X10_fillTrial_B23, if_neg (nneg (by omega)), ckA_n (by omega) (by omega), ckA_n (by omega) (by omega), ncl (by omega), show (3 : Int32) = nI 3 from rfl, nmod hb (by decide), ndiv hb (by decide), Nat.div_div_eq_div_mul, ← Nat.pow_succ]
      have e : up τ 119 (n - k - 1) (nI (r / 3 ^ k % 3)) 119 (n - k - 1) = nI (r / 3 ^ k % 3) := by rw [up_at]; exact if_pos rfl
      rw [e]
      dsimp only [lett]
      rw [nI_add, nI_dn2]; rfl
  · obtain ⟨x2, x3, x4, τ⟩ := s
    have g1 : x2 = nI (sumD r n) := hi.1
    have g3 : x4 = nI (n - n) - 1 := hi.2.2.1
    rw [Nat.sub_self] at g3
    subst g1 g3
    show X10_fillTrial_B23 rec (nI (sumD r n), x3, nI 0 - 1, τ) = _
    rw [X10_fillTrial_B23, if_pos nI_m1]
  · exact ⟨s'.2.2.2, he, fun p hp => hI.2.2.2.1 p hp (by omega), hI.2.2.2.2⟩
theorem fillM_ok {σ : Wd} {n r : Nat} (hn : n ≤ 7) (h1 : 1 ≤ n) (h0 : σ 121 0 = nI n) (hr : r < 2 ^ 31) : ∃ σ', X11_sumOf σ (nI r) = some (nI (sumD r n), σ') ∧ (∀ p, p < n → σ' 136 p = nI (dg r n p)) ∧ Fr σ σ' [136] := by
  unfold X11_sumOf
  rw [h0]
  refine lp_c (body := X11_sumOf_B14) (nI r, 0, nI n - 1, σ) (fun k s => s.2.1 = nI (sumD r k) ∧ s.1 = nI (r / 3 ^ k) ∧ s.2.2.1 = nI (n - k) - 1 ∧ (∀ p, p < n → n - k ≤ p → s.2.2.2 136 p = nI (dg r n p)) ∧ Fr σ s.2.2.2 [136]) n (fun s => some (nI (sumD r n), s.2.2.2)) ⟨nI_0.symm, by simp, rfl, fun p hp h => by omega, Fr.rf _ _⟩ (by omega) (fun k s hk hi => ?_) (fun s hi rec => ?_) (fun s' hI he => ?_)
  · obtain ⟨x3, x2, x4, τ⟩ := s
    obtain ⟨g1, g2, g3, g4, g5⟩ := hi
    simp only at g1 g2 g3 g4 g5
    have hd : nI (n - k) - 1 = nI (n - k - 1) := by rw [show n - k = n - k - 1 + 1 by omega, nI_dn]; rfl
    rw [hd] at g3
    subst g1 g2 g3
    have hb : r / 3 ^ k < 2 ^ 31 := Nat.lt_of_le_of_lt (Nat.div_le_self _ _) hr
    refine ⟨(nI (r / 3 ^ (k + 1)), nI (sumD r (k + 1)), nI (n - k - 1) - 1, up τ 136 (n - k - 1) (nI (r / 3 ^ k % 3))), ⟨rfl, rfl, ?_, fun p hp h => ?_, (g5.tr (Fr.up (ps := [136]) (by simp))).mono (by simp)⟩, fun rec => ?_⟩
    · show nI (n - k - 1) - 1 = nI (n - (k + 1)) - 1
      rw [Nat.sub_sub]
    · show up τ 136 (n - k - 1) (nI (r / 3 ^ k % 3)) 136 p = _
      rw [up_at]; unfold upd
      by_cases e : p = n - k - 1
      · rw [if_pos e, dg, show n - 1 - p = k by omega]
      · rw [if_neg e]; exact g4 p hp (by omega)
    · rw [X11_sumOf_B14, if_neg (nneg (by omega)), ckA_n (by omega) (by omega), ckA_n (by omega) (by omega), ncl (by omega), show (3 : Int32) = nI 3 from rfl, nmod hb (by decide), ndiv hb (by decide), Nat.div_div_eq_div_mul, ← Nat.pow_succ]
      have e : up τ 136 (n - k - 1) (nI (r / 3 ^ k % 3)) 136 (n - k - 1) = nI (r / 3 ^ k % 3) := by rw [up_at]; exact if_pos rfl
      rw [e]
      dsimp only [lett]
      rw [nI_add, nI_dn2]; rfl
  · obtain ⟨x3, x2, x4, τ⟩ := s
    have g1 : x2 = nI (sumD r n) := hi.1
    have g3 : x4 = nI (n - n) - 1 := hi.2.2.1
    rw [Nat.sub_self] at g3
    subst g1 g3
    show X11_sumOf_B14 rec (x3, nI (sumD r n), nI 0 - 1, τ) = _
    rw [X11_sumOf_B14, if_pos nI_m1]
  · exact ⟨s'.2.2.2, he, fun p hp => hI.2.2.2.1 p hp (by omega), hI.2.2.2.2⟩
def dval (d : Nat → Nat) : Nat → Nat
  | 0 => 0
  | k + 1 => 10 * dval d k + d k
theorem digC_ok {σ : Wd} {n : Nat} {d : Nat → Nat} (hn : n ≤ 7) (h0 : σ 1 3 = nI n) (hd : ∀ p, p < n → σ 119 p = nI (d p)) : X10_trialDigits σ = some (nI (dval d n)) := by
  unfold X10_trialDigits
  refine lp_tr (fun k => (nI (dval d k), nI k)) n _ (by simp [dval, nI_0]) (by omega) (fun k hk rec => ?_) (fun rec => ?_)
  · show X10_trialDigits_B4 σ rec (nI (dval d k), nI k) = rec (nI (dval d (k + 1)), nI (k + 1))
    rw [X10_trialDigits_B4, h0, if_neg (by rw [nle (by omega) (by omega)]; omega), if_neg (by rw [L7, nle (by omega) (by omega)]; omega), ckA_n (by omega) (by omega), ncl (by omega), hd k hk, show (10 : Int32) = nI 10 from rfl, nmul, nI_add, nI_1]; rfl
  · show X10_trialDigits_B4 σ rec (nI (dval d n), nI n) = _
    rw [X10_trialDigits_B4, h0, if_pos (by rw [nle (by omega) (by omega)]; omega)]
theorem digM_ok {σ : Wd} {n : Nat} {d : Nat → Nat} {kx : Int32 → Option (Int32 × Wd)} (hn : n ≤ 7) (h0 : σ 121 0 = nI n) (hd : ∀ p, p < n → σ 136 p = nI (d p)) : lp (X11_proof_B76 σ kx) FU (0, 0) = kx (nI (dval d n)) := by
  refine lp_tr (fun k => (nI (dval d k), nI k)) n _ (by simp [dval, nI_0]) (by omega) (fun k hk rec => ?_) (fun rec => ?_)
  · show X11_proof_B76 σ kx rec (nI (dval d k), nI k) = rec (nI (dval d (k + 1)), nI (k + 1))
    rw [X11_proof_B76, h0, if_neg (by rw [nle (by omega) (by omega)]; omega), ckA_n (by omega) (by omega), ncl (by omega), hd k hk, show (10 : Int32) = nI 10 from rfl, nmul, nI_add, nI_1]; rfl
  · show X11_proof_B76 σ kx rec (nI (dval d n), nI n) = _
    rw [X11_proof_B76, h0, if_pos (by rw [nle (by omega) (by omega)]; omega)]
def pstep (gs : List Nat) (n : Nat) (s : Int32 × Nat) (r : Nat) : Int32 × Nat := if s.2 ≤ sumD r n then s else if prfB (dg r n) gs n then (nI (dval (dg r n) n), sumD r n) else s
def pres (gs : List Nat) (n k : Nat) : Int32 × Nat := ((List.range k).map (· + 1)).foldl (pstep gs n) (-2, 128)
theorem pres_succ (gs : List Nat) (n k : Nat) : pres gs n (k + 1) = pstep gs n (pres gs n k) (k + 1) := by
  unfold pres; rw [List.range_succ, List.map_append, List.foldl_append]; rfl
theorem pres_le (gs : List Nat) {n : Nat} (hn : n ≤ 7) : ∀ k, (pres gs n k).2 = 128 ∨ (pres gs n k).2 ≤ 14
  | 0 => Or.inl rfl
  | k + 1 => by
    have ih := pres_le gs hn k
    have := sumD_le (k + 1) n
    rw [pres_succ, pstep]
    by_cases e : (pres gs n k).2 ≤ sumD (k + 1) n
    · rw [if_pos e]; exact ih
    · rw [if_neg e]
      by_cases e2 : prfB (dg (k + 1) n) gs n = true
      · rw [if_pos e2]; right; show sumD (k + 1) n ≤ 14; omega
      · rw [if_neg e2]; exact ih
theorem p3_le : ∀ n, n ≤ 7 → 3 ^ n ≤ 2187 ∧ 1 ≤ 3 ^ n := by decide
theorem q_proof {σ : Wd} {a : St} {hs : List St} {tp : List Nat} (hC : CR σ a hs tp) (hM : MR σ a hs tp) (hw : wf a) : ∃ r σ1 σ2, X10_proof σ = some (r, σ1) ∧ X11_proof σ1 = some (r, σ2) ∧ Fr σ σ1 [119] ∧ QO σ1 σ2 a hs tp := by
  have h7 := hw.1.2
  have h1 := hw.1.1
  have hg := wf_lt hw
  obtain ⟨h3, h3'⟩ := p3_le a.1 h7
  have h0 : σ 1 3 = nI a.1 := hC.st.2.2.2
  have lt3 : ∀ k, k < a.1 → nI (3 ^ k) * 3 = nI (3 ^ (k + 1)) := fun k _ => by rw [show (3 : Int32) = nI 3 from rfl, nmul, Nat.pow_succ]
  have cls : ∃ σ1, X10_proof σ = some ((pres a.2.2.1 a.1 (3 ^ a.1 - 1)).1, σ1) ∧ Fr σ σ1 [119] := by
    have hrow : X10_proof σ = X10_proof_T25 σ (nI (3 ^ a.1)) := by
      unfold X10_proof
      refine lp_tr (fun k => (nI (3 ^ k), nI k)) a.1 _ (by simp [nI_0]; rfl) (by omega) (fun k hk rec => ?_) (fun rec => ?_)
      · show X10_proof_B4 σ _ rec (nI (3 ^ k), nI k) = rec (nI (3 ^ (k + 1)), nI (k + 1))
        rw [X10_proof_B4, h0, if_neg (by rw [nle (by omega) (by omega)]; omega), lt3 k hk, nI_1]
      · show X10_proof_B4 σ _ rec (nI (3 ^ a.1), nI a.1) = _
        rw [X10_proof_B4, h0, if_pos (by rw [nle (by omega) (by omega)]; omega)]
    rw [hrow, X10_proof_T25]
    refine lp_c (body := X10_proof_B35 (nI (3 ^ a.1))) (-2, 1000000, 1, σ) (fun k s => s.1 = (pres a.2.2.1 a.1 k).1 ∧ s.2.1 = (if (pres a.2.2.1 a.1 k).2 = 128 then nI 1000000 else nI (pres a.2.2.1 a.1 k).2) ∧ s.2.2.1 = nI (k + 1) ∧ Fr σ s.2.2.2 [119]) (3 ^ a.1 - 1) (fun s => some ((pres a.2.2.1 a.1 (3 ^ a.1 - 1)).1, s.2.2.2)) ⟨rfl, rfl, rfl, Fr.rf _ _⟩ (by omega) (fun k s hk hi => ?_) (fun s hi rec => ?_) (fun s' hI he => ?_)
    · obtain ⟨x2, x3, x4, τ⟩ := s
      obtain ⟨g1, g2, g3, g4⟩ := hi
      simp only at g1 g2 g3 g4
      subst g1 g2 g3
      have t0 : τ 1 3 = nI a.1 := by rw [g4 1 (by simp)]; exact h0
      obtain ⟨τ1, f1, f2, f3⟩ := fillC_ok h7 h1 t0 (r := k + 1) (by omega)
      have fr := (g4.tr f3).mono (qs := [119]) (by simp)
      have fam : FamR τ1 a.1 a.2.2.1 := hC.fam.cg (fun q q1 q2 => fr q (by simp; omega))
      have t1 : τ1 1 3 = nI a.1 := by rw [fr 1 (by simp)]; exact h0
      have hsl := sumD_le (k + 1) a.1
      have hpl := pres_le a.2.2.1 h7 k
      have hp := pres_succ a.2.2.1 a.1 k
      rw [pstep] at hp
      have hcmp : (if (pres a.2.2.1 a.1 k).2 = 128 then nI 1000000 else nI (pres a.2.2.1 a.1 k).2) ≤ nI (sumD (k + 1) a.1) ↔ (pres a.2.2.1 a.1 k).2 ≤ sumD (k + 1) a.1 := by
        rcases hpl with h | h
        · rw [if_pos h, nle (by omega) (by omega)]; omega
        · rw [if_neg (by omega), nle (by omega) (by omega)]
      have hB : ∀ rec, X10_proof_B35 (nI (3 ^ a.1)) rec ((pres a.2.2.1 a.1 k).1, (if (pres a.2.2.1 a.1 k).2 = 128 then nI 1000000 else nI (pres a.2.2.1 a.1 k).2), nI (k + 1), τ) = (if (pres a.2.2.1 a.1 k).2 ≤ sumD (k + 1) a.1 then rec ((pres a.2.2.1 a.1 k).1, (if (pres a.2.2.1 a.1 k).2 = 128 then nI 1000000 else nI (pres a.2.2.1 a.1 k).2), nI (k + 1 + 1), τ1) else if prfB (dg (k + 1) a.1) a.2.2.1 a.1 = true then rec (nI (dval (dg (k + 1) a.1) a.1), nI (sumD (k + 1) a.1), nI (k + 1 + 1), τ1) else rec ((pres a.2.2.1 a.1 k).1, (if (pres a.2.2.1 a.1 k).2 = 128 then nI 1000000 else nI (pres a.2.2.1 a.1 k).2), nI (k + 1 + 1), τ1)) := by
        intro rec
        rw [X10_proof_B35, if_neg (by rw [nle (by omega) (by omega)]; omega), f1, sbind]
        by_cases e : (pres a.2.2.1 a.1 k).2 ≤ sumD (k + 1) a.1
        · rw [if_pos e]
          dsimp only
          rw [if_pos (hcmp.mpr e), X10_proof_J77, nI_1]
        · rw [if_neg e]
          dsimp only
          rw [if_neg (fun h => e (hcmp.mp h)), prfC_ok hg fam h7 rfl f2 (fun p _ => Nat.le_trans (dg_le _ _ _) (by decide)), sbind]
          by_cases e2 : prfB (dg (k + 1) a.1) a.2.2.1 a.1 = true
          · rw [if_pos e2, if_pos e2, if_neg (by decide), digC_ok h7 t1 f2, sbind, X10_proof_J77, nI_1]
          · rw [if_neg e2, if_neg e2, if_pos rfl, X10_proof_J77, nI_1]
      by_cases e : (pres a.2.2.1 a.1 k).2 ≤ sumD (k + 1) a.1
      · rw [if_pos e] at hp
        refine ⟨((pres a.2.2.1 a.1 k).1, (if (pres a.2.2.1 a.1 k).2 = 128 then nI 1000000 else nI (pres a.2.2.1 a.1 k).2), nI (k + 1 + 1), τ1), ⟨by rw [hp], by rw [hp], rfl, fr⟩, fun rec => by rw [hB, if_pos e]⟩
      · rw [if_neg e] at hp
        by_cases e2 : prfB (dg (k + 1) a.1) a.2.2.1 a.1 = true
        · rw [if_pos e2] at hp
          refine ⟨(nI (dval (dg (k + 1) a.1) a.1), nI (sumD (k + 1) a.1), nI (k + 1 + 1), τ1), ⟨by rw [hp], ?_, rfl, fr⟩, fun rec => by rw [hB, if_neg e, if_pos e2]⟩
          rw [hp]
          show _ = if sumD (k + 1) a.1 = 128 then _ else _
          rw [if_neg (by omega)]
        · rw [if_neg e2] at hp
          refine ⟨((pres a.2.2.1 a.1 k).1, (if (pres a.2.2.1 a.1 k).2 = 128 then nI 1000000 else nI (pres a.2.2.1 a.1 k).2), nI (k + 1 + 1), τ1), ⟨by rw [hp], by rw [hp], rfl, fr⟩, fun rec => by rw [hB, if_neg e, if_neg e2]⟩
    · obtain ⟨x2, x3, x4, τ⟩ := s
      have g1 : x2 = _ := hi.1
      have g3 : x4 = nI (3 ^ a.1 - 1 + 1) := hi.2.2.1
      rw [show 3 ^ a.1 - 1 + 1 = 3 ^ a.1 by omega] at g3
      subst g1 g3
      show X10_proof_B35 (nI (3 ^ a.1)) rec (_, x3, nI (3 ^ a.1), τ) = _
      rw [X10_proof_B35, if_pos (by rw [nle (by omega) (by omega)]; omega)]
    · exact ⟨s'.2.2.2, he, hI.2.2.2⟩
  obtain ⟨σ1, c1, c2⟩ := cls
  have hM1 : MR σ1 a hs tp := hM.hi (fun q hq => c2 q (by simp; omega))
  obtain ⟨τ0, e1, l1, m1, s1, f1⟩ := lays_MR hM1 hw
  have mdl : ∃ σ2, X11_proof σ1 = some ((pres a.2.2.1 a.1 (3 ^ a.1 - 1)).1, σ2) ∧ Fr τ0 σ2 [136] := by
    have h0 : τ0 121 0 = nI a.1 := m1.row.2.1
    rw [X11_proof, e1, sbind]
    have hrow : lp (X11_proof_B8 τ0 (X11_proof_T28 τ0)) FU (1, 0) = X11_proof_T28 τ0 (nI (3 ^ a.1)) := by
      refine lp_tr (fun k => (nI (3 ^ k), nI k)) a.1 _ (by simp [nI_0]; rfl) (by omega) (fun k hk rec => ?_) (fun rec => ?_)
      · show X11_proof_B8 τ0 _ rec (nI (3 ^ k), nI k) = rec (nI (3 ^ (k + 1)), nI (k + 1))
        rw [X11_proof_B8, h0, if_neg (by rw [nle (by omega) (by omega)]; omega), lt3 k hk, nI_1]
      · show X11_proof_B8 τ0 _ rec (nI (3 ^ a.1), nI a.1) = _
        rw [X11_proof_B8, h0, if_pos (by rw [nle (by omega) (by omega)]; omega)]
    rw [hrow, X11_proof_T28]
    refine lp_c (body := X11_proof_B38 (nI (3 ^ a.1))) (128, -2, 1, τ0) (fun k s => s.2.1 = (pres a.2.2.1 a.1 k).1 ∧ s.1 = nI (pres a.2.2.1 a.1 k).2 ∧ s.2.2.1 = nI (k + 1) ∧ Fr τ0 s.2.2.2 [136]) (3 ^ a.1 - 1) (fun s => some ((pres a.2.2.1 a.1 (3 ^ a.1 - 1)).1, s.2.2.2)) ⟨rfl, rfl, rfl, Fr.rf _ _⟩ (by omega) (fun k s hk hi => ?_) (fun s hi rec => ?_) (fun s' hI he => ?_)
    · obtain ⟨x3, x2, x4, τ⟩ := s
      obtain ⟨g1, g2, g3, g4⟩ := hi
      simp only at g1 g2 g3 g4
      subst g1 g2 g3
      have t0 : τ 121 0 = nI a.1 := by rw [g4 121 (by simp)]; exact h0
      obtain ⟨τ1, f1, f2, f3⟩ := fillM_ok h7 h1 t0 (r := k + 1) (by omega)
      have fr := (g4.tr f3).mono (qs := [136]) (by simp)
      have lay : LayR τ1 a.2.2.1 := l1.cg (fr 125 (by simp)) (fr 126 (by simp)) (fr 127 (by simp)) (by rw [fr 120 (by simp)])
      have t1 : τ1 121 0 = nI a.1 := by rw [fr 121 (by simp)]; exact h0
      have hsl := sumD_le (k + 1) a.1
      have hpl := pres_le a.2.2.1 h7 k
      have hp := pres_succ a.2.2.1 a.1 k
      rw [pstep] at hp
      have hB : ∀ rec, X11_proof_B38 (nI (3 ^ a.1)) rec (nI (pres a.2.2.1 a.1 k).2, (pres a.2.2.1 a.1 k).1, nI (k + 1), τ) = (if (pres a.2.2.1 a.1 k).2 ≤ sumD (k + 1) a.1 then rec (nI (pres a.2.2.1 a.1 k).2, (pres a.2.2.1 a.1 k).1, nI (k + 1 + 1), τ1) else if prfB (dg (k + 1) a.1) a.2.2.1 a.1 = true then rec (nI (sumD (k + 1) a.1), nI (dval (dg (k + 1) a.1) a.1), nI (k + 1 + 1), τ1) else rec (nI (pres a.2.2.1 a.1 k).2, (pres a.2.2.1 a.1 k).1, nI (k + 1 + 1), τ1)) := by
        intro rec
        rw [X11_proof_B38, if_neg (by rw [nle (by omega) (by omega)]; omega), f1, sbind]
        by_cases e : (pres a.2.2.1 a.1 k).2 ≤ sumD (k + 1) a.1
        · rw [if_pos e]
          dsimp only
          rw [if_pos (by rw [nle (by omega) (by omega)]; exact e), X11_proof_J106, nI_1]
        · rw [if_neg e]
          dsimp only
          rw [if_neg (by rw [nle (by omega) (by omega)]; exact e), prfM_ok hg lay t1 h7 f2 (fun p _ => Nat.le_trans (dg_le _ _ _) (by decide)), sbind]
          by_cases e2 : prfB (dg (k + 1) a.1) a.2.2.1 a.1 = true
          · rw [if_pos e2, if_pos e2, if_neg (by decide), digM_ok h7 t1 f2, X11_proof_T106, X11_proof_J106, nI_1]
          · rw [if_neg e2, if_neg e2, if_pos rfl, X11_proof_J106, nI_1]
      by_cases e : (pres a.2.2.1 a.1 k).2 ≤ sumD (k + 1) a.1
      · rw [if_pos e] at hp
        refine ⟨(nI (pres a.2.2.1 a.1 k).2, (pres a.2.2.1 a.1 k).1, nI (k + 1 + 1), τ1), ⟨by rw [hp], by rw [hp], rfl, fr⟩, fun rec => by rw [hB, if_pos e]⟩
      · rw [if_neg e] at hp
        by_cases e2 : prfB (dg (k + 1) a.1) a.2.2.1 a.1 = true
        · rw [if_pos e2] at hp
          refine ⟨(nI (sumD (k + 1) a.1), nI (dval (dg (k + 1) a.1) a.1), nI (k + 1 + 1), τ1), ⟨by rw [hp], by rw [hp], rfl, fr⟩, fun rec => by rw [hB, if_neg e, if_pos e2]⟩
        · rw [if_neg e2] at hp
          refine ⟨(nI (pres a.2.2.1 a.1 k).2, (pres a.2.2.1 a.1 k).1, nI (k + 1 + 1), τ1), ⟨by rw [hp], by rw [hp], rfl, fr⟩, fun rec => by rw [hB, if_neg e, if_neg e2]⟩
    · obtain ⟨x3, x2, x4, τ⟩ := s
      have g1 : x2 = _ := hi.1
      have g3 : x4 = nI (3 ^ a.1 - 1 + 1) := hi.2.2.1
      rw [show 3 ^ a.1 - 1 + 1 = 3 ^ a.1 by omega] at g3
      subst g1 g3
      show X11_proof_B38 (nI (3 ^ a.1)) rec (x3, _, nI (3 ^ a.1), τ) = _
      rw [X11_proof_B38, if_pos (by rw [nle (by omega) (by omega)]; omega)]
    · exact ⟨s'.2.2.2, he, hI.2.2.2⟩
  obtain ⟨σ2, d1, d2⟩ := mdl
  refine ⟨_, σ1, σ2, c1, d1, c2, s1.tr (fun q hq => d2 q (by simp; omega)), m1.cg (d2 _ (by simp)) (d2 _ (by simp)) (d2 _ (by simp)) (d2 _ (by simp)) (by rw [d2 _ (by simp)]) (by rw [d2 _ (by simp)])⟩
