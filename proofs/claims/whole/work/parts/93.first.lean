/-! the first state -/
theorem fr_zr (σ : Wd) (n : Nat) {ps : List Nat} (h : n ∈ ps) : Fr σ (zr σ n) ps := fun q hq => by
  unfold zr
  rw [if_neg (fun e : q = n => hq (e ▸ h))]
theorem fr_X4 {σ : Wd} {r : Nat} : RowR (i_X4 r σ) r [] ∧ Fr σ (i_X4 r σ) [r, r + 1] := by
  refine ⟨⟨by rw [i_X4, up_at]; exact if_pos rfl, fun i hi => absurd hi (by simp)⟩, ?_⟩
  unfold i_X4
  exact ((fr_zr σ (r + 1) (ps := [r + 1]) (by simp)).tr (Fr.up (ps := [r]) (by simp))).mono (by simp)
theorem fr_X7 {σ : Wd} {s : Nat} (hk : kKd s = 7) : ∃ σ', i_X7 s σ = some σ' ∧ StR σ' s a0 ∧ Fr σ σ' (stP s) := by
  obtain ⟨-, -, k5⟩ := kStLn hk
  obtain ⟨u1, hu1⟩ : ∃ u1, u1 = i_X4 (s + 1) (zr σ (s + 1)) := ⟨_, rfl⟩
  obtain ⟨u2, hu2⟩ : ∃ u2, u2 = i_X4 (s + 3) (zr u1 (s + 3)) := ⟨_, rfl⟩
  obtain ⟨u3, e3, v3, f3⟩ := fill_ok (σ := zr u2 (s + 5)) (q := s + 5) (by rw [k5]; decide) 1
  have r1 : RowR u1 (s + 1) [] := by rw [hu1]; exact fr_X4.1
  have r2 : RowR u2 (s + 3) [] := by rw [hu2]; exact fr_X4.1
  have g2 : ∀ q, q ≠ s + 3 → q ≠ s + 4 → u2 q = u1 q := fun q h1 h2 => by
    rw [hu2, fr_X4.2 q (by simp; omega), fr_zr u1 (s + 3) (ps := [s + 3]) (by simp) q (by simpa using h1)]
  have g1 : ∀ q, q ≠ s + 1 → q ≠ s + 2 → u1 q = σ q := fun q h1 h2 => by
    rw [hu1, fr_X4.2 q (by simp; omega), fr_zr σ (s + 1) (ps := [s + 1]) (by simp) q (by simpa using h1)]
  have g3 : ∀ q, q ≠ s + 5 → u3 q = u2 q := fun q h => by
    rw [f3 q (by simpa using h), fr_zr u2 (s + 5) (ps := [s + 5]) (by simp) q (by simpa using h)]
  refine ⟨up u3 s 3 4, ?_, ⟨?_, ?_, fun p hp => ?_, ?_⟩, fun q hq => ?_⟩
  · rw [i_X7, ← hu1, ← hu2, e3, sbind]
  · exact r1.cg (by rw [up_ne _ _ _ (by omega), g3 _ (by omega), g2 _ (by omega) (by omega)]) (by rw [up_ne _ _ _ (by omega), g3 _ (by omega), g2 _ (by omega) (by omega)])
  · exact r2.cg (by rw [up_ne _ _ _ (by omega), g3 _ (by omega)]) (by rw [up_ne _ _ _ (by omega), g3 _ (by omega)])
  · rw [up_ne _ _ _ (by omega), v3, if_pos (by rw [k5]; exact hp)]
    exact (by decide : ∀ p, p < 7 → (1 : Int32) = nI (a0.2.1.getD p 0)) p hp
  · rw [up_at]; exact if_pos rfl
  · simp only [stP, List.mem_cons, List.not_mem_nil, or_false, not_or] at hq
    rw [up_ne _ _ _ (by omega), g3 q (by omega), g2 q (by omega) (by omega), g1 q (by omega) (by omega)]
theorem fr_slot {σ : Wd} {s : Nat} (hk : kKd s = 7) (h1 : 13 < s) (h2 : s + 5 < 87) {σa : Wd} (hf : ∀ q, (q < 13 ∨ 87 ≤ q) → σa q = σ q) : ∃ σ', i_X7 s (zr σa s) = some σ' ∧ ∀ q, (q < 13 ∨ 87 ≤ q) → σ' q = σ q := by
  obtain ⟨σ', e, -, f⟩ := fr_X7 (σ := zr σa s) hk
  refine ⟨σ', e, fun q hq => ?_⟩
  rw [f q (by simp only [stP, List.mem_cons, List.not_mem_nil, or_false]; omega), fr_zr σa s (ps := [s]) (by simp) q (by simp; omega), hf q hq]
theorem fr_X1 {σ : Wd} : ∃ σ', i_X1_init σ = some σ' ∧ HistR σ' [] ∧ ∀ q, (q < 13 ∨ 87 ≤ q) → σ' q = σ q := by
  obtain ⟨s1, e1, f1⟩ := fr_slot (σ := σ) (s := 15) rfl (by decide) (by decide) (σa := zr σ 14) (fun q hq => fr_zr σ 14 (ps := [14]) (by simp) q (by simp; omega))
  obtain ⟨s2, e2, f2⟩ := fr_slot (σ := σ) (s := 21) rfl (by decide) (by decide) f1
  obtain ⟨s3, e3, f3⟩ := fr_slot (σ := σ) (s := 27) rfl (by decide) (by decide) f2
  obtain ⟨s4, e4, f4⟩ := fr_slot (σ := σ) (s := 33) rfl (by decide) (by decide) f3
  obtain ⟨s5, e5, f5⟩ := fr_slot (σ := σ) (s := 39) rfl (by decide) (by decide) f4
  obtain ⟨s6, e6, f6⟩ := fr_slot (σ := σ) (s := 45) rfl (by decide) (by decide) f5
  obtain ⟨s7, e7, f7⟩ := fr_slot (σ := σ) (s := 51) rfl (by decide) (by decide) f6
  obtain ⟨s8, e8, f8⟩ := fr_slot (σ := σ) (s := 57) rfl (by decide) (by decide) f7
  obtain ⟨s9, e9, f9⟩ := fr_slot (σ := σ) (s := 63) rfl (by decide) (by decide) f8
  obtain ⟨s10, e10, f10⟩ := fr_slot (σ := σ) (s := 69) rfl (by decide) (by decide) f9
  obtain ⟨s11, e11, f11⟩ := fr_slot (σ := σ) (s := 75) rfl (by decide) (by decide) f10
  obtain ⟨s12, e12, f12⟩ := fr_slot (σ := σ) (s := 81) rfl (by decide) (by decide) f11
  refine ⟨up (up s12 13 1 0) 13 2 0, ?_, ⟨0, by decide, ?_, ?_, by decide, fun i hi => absurd hi (by simp)⟩, fun q hq => ?_⟩
  · rw [i_X1_init, e1, sbind, e2, sbind, e3, sbind, e4, sbind, e5, sbind, e6, sbind, e7, sbind, e8, sbind, e9, sbind, e10, sbind, e11, sbind, e12, sbind]
  · rw [up_at]; unfold upd; rw [if_neg (by decide), up_at]; exact if_pos rfl
  · rw [up_at]; exact if_pos rfl
  · rw [up_ne _ _ _ (by omega), up_ne _ _ _ (by omega), f12 q hq]
theorem ordFill_in {σ : Wd} {k : Nat} (hk : k ≤ 7) {kx : Int32 → Wd → Option Wd} (hv : ∀ i, i < (lq k 0).length → σ 94 i = nI ((lq k 0).getD i 0)) : ∃ σ', lp (X0_init_B93 (nI k) kx) FU (nI (lq k 0).length, 0, σ) = kx (nI (lq (k + 1) 0).length) σ' ∧ (∀ i, i < (lq (k + 1) 0).length → σ' 94 i = nI ((lq (k + 1) 0).getD i 0)) ∧ Fr σ σ' [94] := by
  refine lp_c (body := X0_init_B93 (nI k) kx) (nI (lq k 0).length, 0, σ) (fun j s => s.1 = nI (lq k j).length ∧ s.2.1 = nI j ∧ (∀ i, i < (lq k j).length → s.2.2 94 i = nI ((lq k j).getD i 0)) ∧ Fr σ s.2.2 [94]) 128 (fun s => kx (nI (lq (k + 1) 0).length) s.2.2) ⟨rfl, nI_0.symm, hv, Fr.rf _ _⟩ (by omega) (fun j s hj hi => ?_) (fun s hi rec => ?_) (fun s' hI he => ?_)
  · obtain ⟨x1, x3, τ⟩ := s
    obtain ⟨g1, g2, g3, g4⟩ := hi
    simp only at g1 g2 g3 g4
    subst g1 g2
    have hs := lq_succ k j
    have hpc := f_pc8 j hj
    by_cases e : pc j = k
    · rw [if_pos e] at hs
      have hlen : (lq k j).length < 128 := by have := lq_len j hj; rwa [e] at this
      refine ⟨(nI ((lq k j).length + 1), nI (j + 1), up τ 94 (lq k j).length (nI j)), ⟨by rw [hs]; simp, rfl, fun i hi => ?_, (g4.tr (Fr.up (ps := [94]) (by simp))).mono (by simp)⟩, fun rec => ?_⟩
      · show up τ 94 (lq k j).length (nI j) 94 i = _
        rw [hs] at hi ⊢
        simp only [List.length_append, List.length_singleton] at hi
        rw [up_at, getD_app _ _ _ hi]; unfold upd
        by_cases ei : i = (lq k j).length
        · rw [if_pos ei, if_pos ei]
        · rw [if_neg ei, if_neg ei]; exact g3 i (by omega)
      · rw [X0_init_B93, if_neg (le128 hj), f_bc j hj, if_pos (by rw [e]), if_neg (le128 hlen), ckA_n hlen (by omega), ncl (by omega), X0_init_J127, nI_1, nI_1]
    · rw [if_neg e, List.append_nil] at hs
      refine ⟨(nI (lq k j).length, nI (j + 1), τ), ⟨by rw [hs], rfl, by rw [hs]; exact g3, g4⟩, fun rec => ?_⟩
      rw [X0_init_B93, if_neg (le128 hj), f_bc j hj, if_neg (by rw [neq (by omega) (by omega)]; exact e), X0_init_J127, nI_1]
  · obtain ⟨x1, x3, τ⟩ := s
    obtain ⟨g1, g2, g3, g4⟩ := hi
    simp only at g1 g2 g3 g4
    subst g1 g2
    show X0_init_B93 (nI k) kx rec (nI (lq k 128).length, nI 128, τ) = _
    rw [X0_init_B93, if_pos ge128, lq_next]
  · obtain ⟨g1, g2, g3, g4⟩ := hI
    rw [lq_next] at g3
    exact ⟨s'.2.2, he, g3, g4⟩
theorem ordFill {σ : Wd} : ∃ σ', X0_init_T σ = some σ' ∧ OrdR σ' ∧ Fr σ σ' [94] := by
  unfold X0_init_T
  refine lp_cr (body := X0_init_B85) (0, 0, σ) (fun k s => s.1 = nI (lq k 0).length ∧ s.2.1 = nI k ∧ (∀ i, i < (lq k 0).length → s.2.2 94 i = nI ((lq k 0).getD i 0)) ∧ Fr σ s.2.2 [94]) 8 (fun s => some s.2.2) ⟨by simp [lq, nI_0], nI_0.symm, fun i hi => absurd hi (by simp [lq]), Fr.rf _ _⟩ (by omega) (fun k s rec hk hi => ?_) (fun s rec hi => ?_) (fun s' hI he => ?_)
  · obtain ⟨x1, x2, τ⟩ := s
    obtain ⟨g1, g2, g3, g4⟩ := hi
    simp only at g1 g2 g3 g4
    subst g1 g2
    obtain ⟨τ', t1, t2, t3⟩ := ordFill_in (σ := τ) (k := k) (by omega) (kx := X0_init_T133 rec (nI k)) g3
    refine ⟨(nI (lq (k + 1) 0).length, nI (k + 1), τ'), ⟨rfl, rfl, t2, (g4.tr t3).mono (by simp)⟩, ?_⟩
    rw [X0_init_B85, if_neg (by rw [L7, nlt (by omega) (by omega)]; omega), t1, X0_init_T133, nI_1]
  · obtain ⟨x1, x2, τ⟩ := s
    obtain ⟨g1, g2, g3, g4⟩ := hi
    simp only at g1 g2 g3 g4
    subst g1 g2
    show X0_init_B85 rec (_, nI 8, τ) = _
    rw [X0_init_B85, if_pos (by decide)]
  · obtain ⟨g1, g2, g3, g4⟩ := hI
    refine ⟨s'.2.2, he, fun i hi => ?_, g4⟩
    rw [lq_all] at g3
    exact g3 i (by rw [ordS_len]; exact hi)
theorem fr_X0 {σ : Wd} : ∃ σ', i_X0_init σ = some σ' ∧ OrdR σ' ∧ ∀ q, (q < 93 ∨ 102 < q) → σ' q = σ q := by
  unfold i_X0_init
  obtain ⟨u, hu⟩ : ∃ u, u = up (zr (zr (zr (zr (i_X4 97 (zr (i_X4 95 (zr (zr σ 94) 95)) 97)) 99) 100) 101) 102) 93 7 4 := ⟨_, rfl⟩
  obtain ⟨σ', e1, e2, e3⟩ := ordFill (σ := u)
  refine ⟨σ', by rw [← hu]; exact e1, e2, fun q hq => ?_⟩
  rw [e3 q (by simp; omega), hu, up_ne _ _ _ (by omega)]
  have z : ∀ (s : Wd) (n : Nat), 93 ≤ n → n ≤ 102 → zr s n q = s q := fun s n h1 h2 => if_neg (by omega)
  rw [z _ 102 (by omega) (by omega), z _ 101 (by omega) (by omega), z _ 100 (by omega) (by omega), z _ 99 (by omega) (by omega), fr_X4.2 q (by simp; omega), z _ 97 (by omega) (by omega), fr_X4.2 q (by simp; omega), z _ 95 (by omega) (by omega), z _ 94 (by omega) (by omega)]
theorem first_c (σ0 : Wd) : ∃ σ1, i_X10_init σ0 = some σ1 ∧ CR σ1 a0 [] [] ∧ CN σ1 := by
  obtain ⟨s1, e1, r1, f1⟩ := fr_X7 (σ := zr σ0 1) (s := 1) rfl
  obtain ⟨s2, e2, r2, f2⟩ := fr_X7 (σ := zr s1 7) (s := 7) rfl
  obtain ⟨s3, e3, h3, f3⟩ := fr_X1 (σ := zr s2 13)
  obtain ⟨t1, ht1⟩ : ∃ t1, t1 = i_X4 87 (zr s3 87) := ⟨_, rfl⟩
  have rt : RowR t1 87 [] := by rw [ht1]; exact fr_X4.1
  obtain ⟨t2, ht2⟩ : ∃ t2, t2 = zr (i_X5_init (zr (i_X3_init (zr t1 89)) 90)) 93 := ⟨_, rfl⟩
  have ft1 : ∀ q, q ≠ 87 → q ≠ 88 → t1 q = s3 q := fun q h1 h2 => by
    rw [ht1, fr_X4.2 q (by simp; omega)]; exact if_neg h1
  have ft2 : ∀ q, q < 89 → t2 q = t1 q := fun q hq => by
    have z : ∀ (s : Wd) (n : Nat), 89 ≤ n → zr s n q = s q := fun s n h1 => if_neg (by omega)
    rw [ht2, z _ 93 (by omega), i_X5_init, fr_X4.2 q (by simp; omega), z _ 91 (by omega), z _ 90 (by omega), i_X3_init, up_ne _ _ _ (by omega), up_ne _ _ _ (by omega), z _ 89 (by omega)]
  obtain ⟨s4, e4, o4, f4⟩ := fr_X0 (σ := t2)
  obtain ⟨t3, ht3⟩ : ∃ t3, t3 = zr (i_X9_init (zr (i_X8_init (zr (i_X6_init (zr (i_X2_init (zr s4 103)) 107)) 112)) 116)) 119 := ⟨_, rfl⟩
  have ft3 : ∀ q, q < 103 → t3 q = s4 q := fun q hq => by
    have z : ∀ (s : Wd) (n : Nat), 103 ≤ n → zr s n q = s q := fun s n h1 => if_neg (by omega)
    rw [ht3, z _ 119 (by omega), i_X9_init, z _ 118 (by omega), z _ 117 (by omega), z _ 116 (by omega), i_X8_init, z _ 115 (by omega), fr_X4.2 q (by simp; omega), z _ 113 (by omega), z _ 112 (by omega), i_X6_init, up_ne _ _ _ (by omega), z _ 111 (by omega), z _ 110 (by omega), z _ 109 (by omega), z _ 108 (by omega), z _ 107 (by omega), i_X2_init, up_ne _ _ _ (by omega), z _ 106 (by omega), z _ 105 (by omega), z _ 104 (by omega), z _ 103 (by omega)]
  have st1 : StR t3 1 a0 := r1.cg (fun q hq => by
    simp only [stP, List.mem_cons, List.not_mem_nil, or_false] at hq
    rw [ft3 q (by omega), f4 q (by omega), ft2 q (by omega), ft1 q (by omega) (by omega), f3 q (by omega)]
    show zr s2 13 q = s1 q
    rw [show zr s2 13 q = s2 q from if_neg (by omega), f2 q (by simp only [stP, List.mem_cons, List.not_mem_nil, or_false]; omega)]
    exact if_neg (by omega))
  have ho : OrdR t3 := fun i hi => by rw [ft3 94 (by decide)]; exact o4 i hi
  obtain ⟨s6, m1, m2, m3, m4⟩ := refresh_ok ho st1 wf_a0
  refine ⟨s6, ?_, ⟨?_, ?_, ?_, m2⟩, m3⟩
  · rw [i_X10_init, e1, sbind, e2, sbind, e3, sbind, ← ht1, ← ht2, e4, sbind, ← ht3, m1, sbind]
  · exact st1.cg (fun q hq => m4 q (by simp only [stP, List.mem_cons, List.not_mem_nil, or_false] at hq; omega))
  · exact h3.cg (fun q h1 h2 => by rw [m4 q (by omega), ft3 q (by omega), f4 q (by omega), ft2 q (by omega), ft1 q (by omega) (by omega)])
  · exact rt.cg (by rw [m4 87 (by omega), ft3 87 (by omega), f4 87 (by omega), ft2 87 (by omega)]) (by rw [m4 88 (by omega), ft3 88 (by omega), f4 88 (by omega), ft2 88 (by omega)])
theorem first_all : ∃ σs, kSt (fun _ _ => 0) = some σs ∧ Inv σs := by
  obtain ⟨s1, e1, c1, n1⟩ := first_c (zr (fun _ _ => 0) 0)
  obtain ⟨u, hu⟩ : ∃ u, u = up (up (up (up (up (up (up (up (up (up (up (up (up (up (up (up (up (up (zr (zr (zr (zr (zr (zr (zr (zr (zr (zr (zr (zr (zr (zr (zr (zr (zr (zr (zr (zr s1 120) 121) 122) 123) 124) 125) 126) 127) 128) 129) 130) 131) 132) 133) 134) 135) 136) 137) 138) 139) 139 0 112) 139 1 111) 139 2 105) 139 3 110) 139 4 116) 139 5 115) 139 6 0) 139 7 119) 139 8 101) 139 9 105) 139 10 103) 139 11 104) 139 12 116) 139 13 0) 139 14 115) 139 15 101) 139 16 116) 139 17 0 := ⟨_, rfl⟩
  have u120 : ∀ j, u 120 j = 0 := fun j => by rw [hu]; rfl
  have u139 : ∀ i, i < 18 → u 139 i = nI (wordL.getD i 0) := fun i hi => by
    rw [hu]
    rcases (by omega : i = 0 ∨ i = 1 ∨ i = 2 ∨ i = 3 ∨ i = 4 ∨ i = 5 ∨ i = 6 ∨ i = 7 ∨ i = 8 ∨ i = 9 ∨ i = 10 ∨ i = 11 ∨ i = 12 ∨ i = 13 ∨ i = 14 ∨ i = 15 ∨ i = 16 ∨ i = 17) with rfl | rfl | rfl | rfl | rfl | rfl | rfl | rfl | rfl | rfl | rfl | rfl | rfl | rfl | rfl | rfl | rfl | rfl <;> rfl
  have ulow : ∀ q, q < 120 → u q = s1 q := fun q hq => by
    have z : ∀ (s : Wd) (n : Nat), 120 ≤ n → zr s n q = s q := fun s n h1 => if_neg (by omega)
    have y : ∀ (s : Wd) (i : Nat) (x : Int32), up s 139 i x q = s q := fun s i x => up_ne _ _ _ (by omega)
    rw [hu]
    simp only [y]
    rw [z _ 139 (by omega), z _ 138 (by omega), z _ 137 (by omega), z _ 136 (by omega), z _ 135 (by omega), z _ 134 (by omega), z _ 133 (by omega), z _ 132 (by omega), z _ 131 (by omega), z _ 130 (by omega), z _ 129 (by omega), z _ 128 (by omega), z _ 127 (by omega), z _ 126 (by omega), z _ 125 (by omega), z _ 124 (by omega), z _ 123 (by omega), z _ 122 (by omega), z _ 121 (by omega), z _ 120 (by omega)]
  obtain ⟨s2, e2, r2, f2⟩ := starts_ok (σ := u) (q := 121) rfl
  have same : ∀ q, q < 120 → s2 q = s1 q := fun q hq => by rw [f2 q (by simp; omega), ulow q hq]
  refine ⟨s2, ?_, a0, [], [], wf_a0, by simp, by simp, by simp, c1.same same, (n1.same same).ord _, (n1.same same).spr _, r2, ⟨by decide, ?_, fun i hi => absurd hi (by simp)⟩, ⟨?_, fun i hi => absurd hi (by simp)⟩, fun i hi => ?_⟩
  · rw [kSt, e1, sbind, i_X11_init, ← hu, e2, sbind]
  · rw [f2 120 (by simp), u120]; rfl
  · rw [f2 120 (by simp), u120]; rfl
  · rw [f2 139 (by simp)]; exact u139 i hi
