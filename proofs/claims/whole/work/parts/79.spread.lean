/-! the spread -/
theorem AG.cg {N : Nat} {G L : Nat → Int32} {σ π τ ρ : Wd} (h : AG N G L σ π) (f1 : Fr σ τ [110, 111]) (f2 : Fr π ρ [132, 133]) : AG N G L τ ρ := fun k hk => by
  rw [f1 108 (by simp), f1 109 (by simp), f2 130 (by simp), f2 131 (by simp)]; exact h k hk
theorem step_sim {gs : List Nat} {σ π : Wd} (hrow : RowR σ 95 (mems gs)) (hlay : LayR π gs) {G L : Nat → Int32} (hW : WM (mems gs).length G L) {k : Nat} (hk : k < (mems gs).length) (hG : ∀ j, k ≤ j → j < (mems gs).length → G j = -1) (hA : AG (mems gs).length G L σ π) :
    ∃ G' L' τ ρ, WM (mems gs).length G' L' ∧ (∀ j, k < j → j < (mems gs).length → G' j = -1) ∧ AG (mems gs).length G' L' τ ρ ∧ Fr σ τ [108, 109, 110, 111] ∧ Fr π ρ [130, 131, 132, 133] ∧ ((X6_searchFrom σ (nI k) = some (-1, τ) ∧ X11_couples π (nI k) = some (0, ρ)) ∨ (∃ b τ0, b < (mems gs).length ∧ X6_searchFrom σ (nI k) = some (nI b, τ0) ∧ X6_turnPath τ0 (nI b) = some τ ∧ X11_couples π (nI k) = some (1, ρ))) := by
  have hl := mems_len gs
  have hp : 0 < (mems gs).length := by omega
  obtain ⟨σ1, e1, v1, f1⟩ := fill_ok (σ := σ) (q := 110) (by decide) (-1)
  -- the reference clears
  have hini : ∃ π1, lp (X11_couples_B2 (X11_couples_T23 (nI k))) FU (0, π) = X11_couples_T23 (nI k) π1 ∧ (∀ t, t < (mems gs).length → π1 132 t = -1) ∧ Fr π π1 [132] := by
    refine lp_c (body := X11_couples_B2 (X11_couples_T23 (nI k))) (0, π) (fun i st => st.1 = nI i ∧ (∀ t, t < i → st.2 132 t = -1) ∧ Fr π st.2 [132]) (mems gs).length (fun st => X11_couples_T23 (nI k) st.2) ⟨nI_0.symm, fun t ht => by omega, Fr.rf _ _⟩ (by omega) (fun i st hi hinv => ?_) (fun st hinv rec => ?_) (fun s' hI he => ?_)
    · obtain ⟨x, τ⟩ := st
      obtain ⟨g1, g2, g3⟩ := hinv
      simp only at g1 g2 g3
      subst g1
      have h10 : τ 120 10 = nI (mems gs).length := by rw [g3 120 (by simp)]; exact hlay.2.1
      refine ⟨(nI (i + 1), up τ 132 i (-1)), ⟨rfl, fun t ht => ?_, (g3.tr (Fr.up (ps := [132]) (by simp))).mono (by simp)⟩, fun rec => ?_⟩
      · show up τ 132 i (-1) 132 t = _
        rw [up_at]; unfold upd
        by_cases e : t = i
        · rw [if_pos e]
        · rw [if_neg e]; exact g2 t (by omega)
      · rw [X11_couples_B2, h10, if_neg (by rw [nle (by omega) (by omega)]; omega), ckA_n (by omega) (by omega), ncl (by omega), nI_1]
    · obtain ⟨x, τ⟩ := st
      obtain ⟨g1, g2, g3⟩ := hinv
      simp only at g1 g2 g3
      subst g1
      have h10 : τ 120 10 = nI (mems gs).length := by rw [g3 120 (by simp)]; exact hlay.2.1
      show X11_couples_B2 _ rec (nI (mems gs).length, τ) = _
      rw [X11_couples_B2, h10, if_pos (by rw [nle (by omega) (by omega)]; omega)]
    · exact ⟨s'.2, he, hI.2.1, hI.2.2⟩
  obtain ⟨π1, i1, i2, i3⟩ := hini
  have hS : SIq gs L k σ π (fun _ => -1) (fun _ => k) (fun _ => 0) 1 (up σ1 111 0 (nI k)) (up π1 133 0 (nI k)) := by
    refine ⟨⟨⟨Nat.le_refl _, rfl⟩, fun i _ => hk, fun i h1 h2 => by omega, fun b _ h => absurd rfl h, fun i j hij hj => by omega⟩, fun j hj => ⟨?_, ?_⟩, fun i hi => ⟨?_, ?_⟩, ?_, rfl, (f1.tr (Fr.up (ps := [111]) (by simp))).mono (by simp), (i3.tr (Fr.up (ps := [133]) (by simp))).mono (by simp)⟩
    · rw [up_ne _ _ _ (by decide), v1, if_pos (by rw [show kLn 110 = 128 from rfl]; omega)]
    · rw [up_ne _ _ _ (by decide)]; exact i2 j hj
    · rw [up_at]; unfold upd; rw [if_pos (by omega)]
    · rw [up_at]; unfold upd; rw [if_pos (by omega)]
    · rw [List.countP_eq_zero.mpr (fun t _ => by simp)]
  have hcs : X6_searchFrom σ (nI k) = lp X6_searchFrom_B19 FU (1, 0, up σ1 111 0 (nI k)) := by rw [X6_searchFrom, e1, sbind]
  have hms : X11_couples π (nI k) = lp X11_couples_B34 FU (0, 1, up π1 133 0 (nI k)) := by rw [X11_couples, i1, X11_couples_T23]
  rcases search_out hrow hlay hW (hG k (Nat.le_refl _) hk) hA hp hS with ⟨τ', ρ', g1, g2, g3, g4⟩ | ⟨b, C, qa, d, Q, τ', ρ', g1, g2, g3, g4, g5, g6, g7, g8, g9, g10⟩
  · exact ⟨G, L, τ', ρ', hW, fun j h1 h2 => hG j (by omega) h2, hA.cg g3 g4, g3.mono (by simp), g4.mono (by simp), Or.inl ⟨by rw [hcs, g1], by rw [hms, g2]⟩⟩
  · obtain ⟨τ2, ρ2, G', L', t1, t2, t3, t4, t5, t6, t7⟩ := turn_sim hl g7 hW (hG k (Nat.le_refl _) hk) g6 g3 g4 g5 (hA.cg g9 g10) (fun j hj => (g8 j hj).1) (fun j hj => (g8 j hj).2)
    refine ⟨G', L', τ2, ρ2, t3, fun j h1 h2 => ?_, t4, (g9.tr t6).mono (by simp), (g10.tr t7).mono (by simp), Or.inr ⟨b, τ', g3, by rw [hcs, g1], t1, by rw [hms, g2, t2, sbind]⟩⟩
    rw [t5 j h2 (fun i hi he => ?_)]
    · exact hG j (by omega) h2
    · obtain ⟨⟨s1, s1'⟩, s2, s3, s4, s5⟩ := g6
      rcases Nat.eq_zero_or_pos i with hz | hz
      · rw [hz, s1'] at he; omega
      · obtain ⟨b', b1, b2, b3, b4⟩ := s3 i hz hi
        rw [he] at b4
        rcases hW.2 b' b1 with gg | ⟨a', w1, w2, w3⟩
        · rw [b4] at gg; exact m1_ne j (by omega) gg
        · rw [b4] at w2
          have : j = a' := (neq (by omega) (by omega)).mp w2
          rw [← this, hG j (by omega) h2] at w3
          exact m1_ne b' (by omega) w3.symm
theorem match_sim {gs : List Nat} (hg : ∀ x ∈ gs, x < 128) {σ π : Wd} (hrow : RowR σ 95 (mems gs)) (hlay : LayR π gs) : ∃ m τ ρ, m ≤ (mems gs).length ∧ X6_matchAll σ = some (nI m, τ) ∧ Fr σ τ [108, 109, 110, 111] ∧ X11_spread π = some (nI ((mems gs).length - m), ρ) ∧ Fr π ρ [130, 131, 132, 133] := by
  have hl := mems_len gs
  obtain ⟨σ1, e1, v1, f1⟩ := fill_ok (σ := σ) (q := 108) (by decide) (-1)
  obtain ⟨σ2, e2, v2, f2⟩ := fill_ok (σ := σ1) (q := 109) (by decide) (-1)
  have hini : ∃ π1, lp (X11_spread_B2 X11_spread_T30) FU (0, π) = X11_spread_T30 π1 ∧ (∀ t, t < (mems gs).length → π1 130 t = -1 ∧ π1 131 t = -1) ∧ Fr π π1 [130, 131] := by
    refine lp_c (body := X11_spread_B2 X11_spread_T30) (0, π) (fun i st => st.1 = nI i ∧ (∀ t, t < i → st.2 130 t = -1 ∧ st.2 131 t = -1) ∧ Fr π st.2 [130, 131]) (mems gs).length (fun st => X11_spread_T30 st.2) ⟨nI_0.symm, fun t ht => by omega, Fr.rf _ _⟩ (by omega) (fun i st hi hinv => ?_) (fun st hinv rec => ?_) (fun s' hI he => ?_)
    · obtain ⟨x, τ⟩ := st
      obtain ⟨g1, g2, g3⟩ := hinv
      simp only at g1 g2 g3
      subst g1
      have h10 : τ 120 10 = nI (mems gs).length := by rw [g3 120 (by simp)]; exact hlay.2.1
      refine ⟨(nI (i + 1), up (up τ 130 i (-1)) 131 i (-1)), ⟨rfl, fun t ht => ?_, ((g3.tr (Fr.up (ps := [130]) (by simp))).tr (Fr.up (ps := [131]) (by simp))).mono (by simp)⟩, fun rec => ?_⟩
      · show up (up τ 130 i (-1)) 131 i (-1) 130 t = _ ∧ up (up τ 130 i (-1)) 131 i (-1) 131 t = _
        rw [up_ne _ _ _ (by decide), up_at, up_at]; unfold upd
        by_cases e : t = i
        · rw [if_pos e, if_pos e]; exact ⟨rfl, rfl⟩
        · rw [if_neg e, if_neg e, up_ne _ _ _ (by decide)]; exact g2 t (by omega)
      · rw [X11_spread_B2, h10, if_neg (by rw [nle (by omega) (by omega)]; omega), ckA_n (by omega) (by omega), ckA_n (by omega) (by omega), ncl (by omega), nI_1]
    · obtain ⟨x, τ⟩ := st
      obtain ⟨g1, g2, g3⟩ := hinv
      simp only at g1 g2 g3
      subst g1
      have h10 : τ 120 10 = nI (mems gs).length := by rw [g3 120 (by simp)]; exact hlay.2.1
      show X11_spread_B2 _ rec (nI (mems gs).length, τ) = _
      rw [X11_spread_B2, h10, if_pos (by rw [nle (by omega) (by omega)]; omega)]
    · exact ⟨s'.2, he, hI.2.1, hI.2.2⟩
  obtain ⟨π1, i1, i2, i3⟩ := hini
  have h10 : π1 120 10 = nI (mems gs).length := by rw [i3 120 (by simp)]; exact hlay.2.1
  unfold X6_matchAll X11_spread
  rw [e1, sbind, e2, sbind, i1, X11_spread_T30, h10]
  have f12 : Fr σ σ2 [108, 109, 110, 111] := (f1.tr f2).mono (by simp)
  refine lpp (b1 := X6_matchAll_B20) (b2 := X11_spread_B37) (fun k x1 x2 => ∃ m G L τ ρ, m ≤ k ∧ x1 = (nI m, nI k, τ) ∧ x2 = (nI ((mems gs).length - m), nI k, ρ) ∧ WM (mems gs).length G L ∧ (∀ j, k ≤ j → j < (mems gs).length → G j = -1) ∧ AG (mems gs).length G L τ ρ ∧ Fr σ τ [108, 109, 110, 111] ∧ Fr π ρ [130, 131, 132, 133]) (mems gs).length (fun o1 o2 => ∃ m τ ρ, m ≤ (mems gs).length ∧ o1 = some (nI m, τ) ∧ Fr σ τ [108, 109, 110, 111] ∧ o2 = some (nI ((mems gs).length - m), ρ) ∧ Fr π ρ [130, 131, 132, 133]) ⟨0, fun _ => -1, fun _ => -1, σ2, π1, Nat.le_refl _, by rw [nI_0], by rw [nI_0]; rfl, ⟨fun a _ => Or.inl rfl, fun b _ => Or.inl rfl⟩, fun _ _ _ => rfl, fun k hk => ⟨?_, ?_, (i2 k hk).1, (i2 k hk).2⟩, f12, i3.mono (by simp)⟩ (mems_4096 gs) (fun k x1 x2 rec1 rec2 hk hi => ?_) (fun x1 x2 rec1 rec2 hi => ?_)
  · rw [f2 108 (by simp), v1, if_pos (by rw [show kLn 108 = 128 from rfl]; omega)]
  · rw [v2, if_pos (by rw [show kLn 109 = 128 from rfl]; omega)]
  · obtain ⟨m, G, L, τ, ρ, hm, rfl, rfl, w1, w2, w3, w4, w5⟩ := hi
    left
    have rτ : RowR τ 95 (mems gs) := hrow.cg (w4 95 (by simp)) (w4 96 (by simp))
    have lρ : LayR ρ gs := hlay.cg (w5 125 (by simp)) (w5 126 (by simp)) (w5 127 (by simp)) (by rw [w5 120 (by simp)])
    obtain ⟨G', L', τ', ρ', u1, u2, u3, u4, u5, u6⟩ := step_sim rτ lρ w1 hk w2 w3
    have fr1 : Fr σ τ' [108, 109, 110, 111] := (w4.tr u4).mono (by simp)
    have fr2 : Fr π ρ' [130, 131, 132, 133] := (w5.tr u5).mono (by simp)
    rcases u6 with ⟨p1, p2⟩ | ⟨b, τ0, pb, p1, p2, p3⟩
    · refine ⟨(nI m, nI (k + 1), τ'), (nI ((mems gs).length - m), nI (k + 1), ρ'), ⟨m, G', L', τ', ρ', by omega, rfl, rfl, u1, fun j h1 h2 => u2 j (by omega) h2, u3, fr1, fr2⟩, ?_, ?_⟩
      · rw [X6_matchAll_B20, if_neg (mem_go rτ hk), p1, sbind]
        dsimp only
        rw [if_pos rfl, X6_matchAll_J50, nI_1]
      · rw [X11_spread_B37, if_neg (lay_go lρ hk), p2, sbind]
        dsimp only
        rw [if_pos rfl, X11_spread_J56, nI_1]
    · refine ⟨(nI (m + 1), nI (k + 1), τ'), (nI ((mems gs).length - (m + 1)), nI (k + 1), ρ'), ⟨m + 1, G', L', τ', ρ', by omega, rfl, rfl, u1, fun j h1 h2 => u2 j (by omega) h2, u3, fr1, fr2⟩, ?_, ?_⟩
      · rw [X6_matchAll_B20, if_neg (mem_go rτ hk), p1, sbind]
        dsimp only
        rw [if_neg (m1_ne b (by omega)), p2, sbind, X6_matchAll_J50, nI_1, nI_1]
      · rw [X11_spread_B37, if_neg (lay_go lρ hk), p3, sbind]
        dsimp only
        rw [if_neg (by decide), X11_spread_J56, nI_1, nI_prd (by omega), Nat.sub_sub]
  · obtain ⟨m, G, L, τ, ρ, hm, rfl, rfl, w1, w2, w3, w4, w5⟩ := hi
    have rτ : RowR τ 95 (mems gs) := hrow.cg (w4 95 (by simp)) (w4 96 (by simp))
    have lρ : LayR ρ gs := hlay.cg (w5 125 (by simp)) (w5 126 (by simp)) (w5 127 (by simp)) (by rw [w5 120 (by simp)])
    exact ⟨m, τ, ρ, hm, by rw [X6_matchAll_B20, if_pos (mem_stop rτ)], w4, by rw [X11_spread_B37, if_pos (lay_stop lρ)], w5⟩
def SprV (gs : List Nat) (v : Int32) : Prop := ∀ ρ, LayR ρ gs → ∃ ρ', X11_spread ρ = some (v, ρ') ∧ Fr ρ ρ' [130, 131, 132, 133]
def SprC (gs : List Nat) (σ : Wd) : Prop := σ 107 5 = -1 ∨ SprV gs (σ 107 5)
theorem most_ok {gs : List Nat} (hg : ∀ x ∈ gs, x < 128) {σ π : Wd} (hrow : RowR σ 95 (mems gs)) (hlay : LayR π gs) (hc : SprC gs σ) : ∃ v τ, X6_most σ = some (v, τ) ∧ SprV gs v ∧ τ 107 5 = v ∧ Fr σ τ [107, 108, 109, 110, 111] := by
  have hl := mems_len gs
  by_cases e : σ 107 5 = -1
  · obtain ⟨m, τ, ρ, h1, h2, h3, h4, h5⟩ := match_sim hg hrow hlay
    refine ⟨nI ((mems gs).length - m), up τ 107 5 (nI ((mems gs).length - m)), ?_, fun ρ' hρ' => ?_, ?_, (h3.tr (Fr.up (ps := [107]) (by simp))).mono (by simp)⟩
    · rw [X6_most, if_pos e, h2, sbind]
      dsimp only
      rw [hrow.1, nsub h1]
      have : up τ 107 5 (nI ((mems gs).length - m)) 107 5 = nI ((mems gs).length - m) := by rw [up_at]; exact if_pos rfl
      rw [this]
    · obtain ⟨m', τ', ρ'', k1, k2, k3, k4, k5⟩ := match_sim hg hrow hρ'
      rw [h2] at k2
      have : m = m' := by
        have := (Prod.mk.inj (Option.some.inj k2)).1
        exact (neq (by omega) (by omega)).mp this
      subst this
      exact ⟨ρ'', k4, k5⟩
    · rw [up_at]; exact if_pos rfl
  · have hv : SprV gs (σ 107 5) := by
      rcases hc with h | h
      · exact absurd h e
      · exact h
    exact ⟨σ 107 5, σ, by rw [X6_most, if_neg e], hv, rfl, Fr.rf _ _⟩
