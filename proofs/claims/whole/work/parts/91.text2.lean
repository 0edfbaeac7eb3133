/-! text, both sides -/
theorem o_text {σ : Wd} {a : St} {hs : List St} {tp : List Nat} (hC : CR σ a hs tp) (hM : MR σ a hs tp) (hw : wf a) (hl : tp.length ≤ 300) (hb : ∀ x ∈ tp, x < 256) : ∃ r σ1 σ2, X10_text σ = some (r, σ1) ∧ X11_text σ1 = some (r, σ2) ∧ ((CR σ2 a hs [] ∧ MR σ2 a hs [] ∧ ∀ q, 103 ≤ q → q ≤ 107 → σ2 q = σ q) ∨ ∃ a', wf a' ∧ CR σ2 a' [] [] ∧ CN σ2 ∧ MR σ2 a' [] []) := by
  -- the class reads
  obtain ⟨s0, hs0⟩ : ∃ s0, s0 = up (up σ 89 2 0) 89 3 (-1) := ⟨_, rfl⟩
  have f0 : Fr σ s0 [89] := by rw [hs0]; exact ((Fr.up (ps := [89]) (by simp)).tr (Fr.up (ps := [89]) (by simp))).mono (by simp)
  obtain ⟨s1, e1, r1, f1⟩ := st_reset (σ := s0) (r := 7) rfl
  have f01 : Fr σ s1 RP := (f0.tr f1).mono (by simp [RP, stP])
  have hrs : RS σ tp a0 0 s1 := by
    refine ⟨?_, ?_, r1, hC.tape.cg (f01 87 (by simp [RP])) (f01 88 (by simp [RP])), f01⟩
    · rw [f1 89 (by simp [stP]), hs0, up_at]; unfold upd; rw [if_neg (by decide), up_at]; exact if_pos rfl
    · rw [f1 89 (by simp [stP]), hs0, up_at]; exact if_pos rfl
  have hsk := skp_le hl (i := 0) (by omega)
  have hrd : X3_read σ = lp X3_read_B25 FU (bI true, nI 0, up s1 89 2 (nI (skp tp 0))) := by
    rw [X3_read, ← hs0, e1, sbind, skipC hl hb (by omega) hrs.2.2.2.1 hrs.1, sbind]; rfl
  have hcr := read_n (σ := σ) hl hb 302 FU 0 (skp tp 0) true a0 (up s1 89 2 (nI (skp tp 0))) (by omega) (by show 302 < 4096; omega) (by omega) (by omega) wf_a0 (fun _ => ⟨rfl, rfl⟩) rfl (hrs.pos _)
  rw [← hrd] at hcr
  -- the reference reads, at any world that stands for the same
  have hmd : ∀ π, MR π a hs tp → ∃ π1, TF π π1 ∧ ((∃ f ρ', rdO tp 302 true a0 (skp tp 0) = Sum.inl f ∧ X11_text π = X11_text_J52 ρ' ∧ ρ' 120 29 = 1 ∧ ρ' 120 27 = nI f ∧ TF π ρ') ∨ (∃ a' ρ', rdO tp 302 true a0 (skp tp 0) = Sum.inr a' ∧ X11_text π = X11_text_J52 ρ' ∧ ρ' 120 29 = 0 ∧ MRow (ρ' 122) a' ∧ TF π ρ')) := by
    intro π hπ
    obtain ⟨p1, d1, d2, d3⟩ := starts_ok (σ := π) (q := 122) rfl
    have t1 : TF π p1 := ⟨fun j _ => by rw [d3 120 (by simp)], fun q _ q2 => d3 q (by simpa using q2)⟩
    obtain ⟨p2, hp2⟩ : ∃ p2, p2 = up (up (up p1 120 25 0) 120 26 3) 120 29 0 := ⟨_, rfl⟩
    have t2 : TF π p2 := by rw [hp2]; exact ((t1.tr (tf_up (by omega) _)).tr (tf_up (by omega) _)).tr (tf_up (by omega) _)
    have htm : TM π tp := hπ.2.2.1
    obtain ⟨p3, g1, g2, g3, g4, g5⟩ := goes_ok hl hb (t2.tm htm) (i := 0) (was := 3) (by omega) (by decide) (by rw [hp2, up120, if_neg (by decide), up120, if_neg (by decide), up120, if_pos rfl]; rfl) (by rw [hp2, up120, if_neg (by decide), up120, if_pos rfl]; rfl)
    have hg : glu 3 0 (skp tp 0) = false := by unfold glu; simp
    rw [hg] at g2
    have h29 : p3 120 29 = 0 := by rw [g3, hp2, up120, if_pos rfl]
    have h122 : MRow (p3 122) a0 := by rw [g4, hp2, up_ne _ _ _ (by decide), up_ne _ _ _ (by decide), up_ne _ _ _ (by decide)]; exact d2
    have hlp : X11_text π = lp (X11_text_B28 X11_text_T52) FU (bI true, p3) := by rw [X11_text, d1, sbind, ← hp2, g1, sbind]; rfl
    have hm := read_m hl hb hπ.2.2.2 htm X11_text_T52 302 FU (skp tp 0) true a0 p3 (by omega) (by show 302 < 4096; omega) wf_a0 (fun _ => ⟨rfl, rfl⟩) rfl (t2.tr g5) g2 h29 h122
    rw [← hlp] at hm
    refine ⟨π, TF.rf π, ?_⟩
    rcases hm with ⟨f, ρ', m1, m2, m3⟩ | ⟨a', ρ', m1, m2, m3⟩
    · exact Or.inl ⟨f, ρ', m1, by rw [m2, X11_text_T52], m3⟩
    · exact Or.inr ⟨a', ρ', m1, by rw [m2, X11_text_T52], m3⟩
  rcases hcr with ⟨f, τ, c1, c2, c3, c4, c5⟩ | ⟨a', p', τ, c1, c2, c3, c4, c5⟩
  · -- a fault
    have hcl := row_clear (σ := τ) (r := 87)
    have fr : Fr σ (X4_clear τ 87) (RP ++ [87]) := c5.tr hcl.2
    have hM1 : MR (X4_clear τ 87) a hs tp := hM.hi (fun q hq => fr q (by simp [RP]; omega))
    obtain ⟨-, -, hm⟩ := hmd _ hM1
    rcases hm with ⟨f', ρ, m1, m2, m3, m4, m5⟩ | ⟨a', ρ, m1, -⟩
    · rw [c1] at m1
      have hff : f = f' := Sum.inl.inj m1
      obtain ⟨ρ1, hρ1⟩ : ∃ ρ1, ρ1 = up ρ 120 23 0 := ⟨_, rfl⟩
      have h29 : ρ1 120 29 = 1 := by rw [hρ1, up120, if_neg (by decide)]; exact m3
      have h27 : ρ1 120 27 = nI f := by rw [hρ1, up120, if_neg (by decide), m4, hff]
      have q120 : ∀ q, q < 120 → ρ1 q = X4_clear τ 87 q := fun q hq => by rw [hρ1, up_ne _ _ _ (by omega), m5.2 q (by omega) (by omega)]
      refine ⟨-4 - nI f, X4_clear τ 87, ρ1, ?_, ?_, Or.inl ⟨?_, ?_, fun q q1 q2 => ?_⟩⟩
      · rw [X10_text, c3, sbind]
        dsimp only
        rw [if_neg (m1_ne f (by omega))]
      · rw [m2, X11_text_J52, ← hρ1, h29, if_neg (by decide), h27]
      · refine ⟨hC.st.cg (fun q hq => ?_), hC.hist.cg (fun q h1 h2 => ?_), hcl.1.cg (q120 87 (by decide)) (q120 88 (by decide)), hC.fam.cg (fun q h1 h2 => ?_)⟩
        · simp only [stP, List.mem_cons, List.not_mem_nil, or_false] at hq
          rw [q120 q (by omega), fr q (by simp [RP]; omega)]
        · rw [q120 q (by omega), fr q (by simp [RP]; omega)]
        · rw [q120 q (by omega), fr q (by simp [RP]; omega)]
      · have h121 : ρ1 121 = X4_clear τ 87 121 := by rw [hρ1, up_ne _ _ _ (by decide), m5.2 121 (by decide) (by decide)]
        have h123 : ρ1 123 = X4_clear τ 87 123 := by rw [hρ1, up_ne _ _ _ (by decide), m5.2 123 (by decide) (by decide)]
        have h139 : ρ1 139 = X4_clear τ 87 139 := by rw [hρ1, up_ne _ _ _ (by decide), m5.2 139 (by decide) (by decide)]
        have h4 : ρ1 120 4 = X4_clear τ 87 120 4 := by rw [hρ1, up120, if_neg (by decide), m5.1 4 (by omega)]
        exact ⟨by rw [h121]; exact hM1.row, hM1.hist.cg h4 h123, ⟨by rw [hρ1, up120, if_pos rfl]; rfl, fun i hi => absurd hi (by simp)⟩, fun i hi => by rw [h139]; exact hM1.2.2.2 i hi⟩
      · rw [q120 q (by omega), fr q (by simp [RP]; omega)]
    · rw [c1] at m1; exact absurd m1 (by simp)
  · -- all is read
    have hcl := row_clear (σ := τ) (r := 87)
    obtain ⟨cl, hcl0⟩ : ∃ cl, cl = X4_clear τ 87 := ⟨_, rfl⟩
    rw [← hcl0] at hcl
    have fcl : Fr σ cl (RP ++ [87]) := c5.2.2.2.2.tr hcl.2
    have st7 : StR cl 7 a' := c5.2.2.1.cg (fun q hq => hcl.2 q (by simp only [stP, List.mem_cons, List.not_mem_nil, or_false] at hq; simp; omega))
    have r4 : RowR cl 4 a.2.2.2 := hC.st.2.1.cg (fcl 4 (by simp [RP])) (fcl 5 (by simp [RP]))
    have hw' := wf_kept (a := a') (b := a) c2 hw
    obtain ⟨s4, k1, k2, k3⟩ := keepC st7 c2 hw r4
    obtain ⟨a2, ha2⟩ : ∃ a2 : St, a2 = (a'.1, a'.2.1, a'.2.2.1, kept a'.1 a.2.2.2) := ⟨_, rfl⟩
    rw [← ha2] at hw' k2
    obtain ⟨s5, l1, l2, l3⟩ := st_copy (r := 1) (q := 7) rfl rfl k2 hw'.2.2.1.1 hw'.2.2.2.1 (by decide)
    have f5 : ∀ q, 7 < q → q ≠ 8 → q ≠ 9 → q ≠ 10 → q ≠ 11 → q ≠ 12 → q ≠ 87 → q ≠ 89 → s5 q = σ q := fun q h1 h2 h3 h4 h5 h6 h7 h8 => by
      rw [l3 q (by simp only [stP, List.mem_cons, List.not_mem_nil, or_false]; omega), k3 q (by simp; omega), fcl q (by simp [RP]; omega)]
    obtain ⟨s5', hs5'⟩ : ∃ s5', s5' = X1_clear s5 := ⟨_, rfl⟩
    have f5' : ∀ q, q ≠ 13 → s5' q = s5 q := fun q hq => by rw [hs5', X1_clear, up_ne _ _ _ hq]
    have ho : OrdR s5' := fun i hi => by rw [f5' 94 (by decide), f5 94 (by omega) (by omega) (by omega) (by omega) (by omega) (by omega) (by omega) (by omega)]; exact hC.fam.ord i hi
    have st1 : StR s5' 1 a2 := l2.cg (fun q hq => f5' q (by simp only [stP, List.mem_cons, List.not_mem_nil, or_false] at hq; omega))
    obtain ⟨s6, m1, m2, m3, m4⟩ := refresh_ok ho st1 hw'
    have st6 : StR s6 1 a2 := st1.cg (fun q hq => m4 q (by simp only [stP, List.mem_cons, List.not_mem_nil, or_false] at hq; omega))
    have h21 : s6 2 1 = nI a2.2.2.1.length := st6.1.1
    have hCR : CR s6 a2 [] [] := by
      refine ⟨st6, ?_, ?_, m2⟩
      · obtain ⟨o, o1, o2, -, -, -⟩ := hC.hist
        refine ⟨o, o1, ?_, ?_, by decide, fun i hi => absurd hi (by simp)⟩
        · rw [m4 13 (by omega), hs5', X1_clear, up_at]; unfold upd; rw [if_neg (by decide), f5 13 (by omega) (by omega) (by omega) (by omega) (by omega) (by omega) (by omega) (by omega)]; exact o2
        · rw [m4 13 (by omega), hs5', X1_clear, up_at]; exact if_pos rfl
      · have e87 : s6 87 = cl 87 := by
          rw [m4 87 (by omega), f5' 87 (by decide), l3 87 (by simp [stP]), k3 87 (by simp)]
        have e88 : s6 88 = cl 88 := by
          rw [m4 88 (by omega), f5' 88 (by decide), l3 88 (by simp [stP]), k3 88 (by simp)]
        exact hcl.1.cg e87 e88
    have hM1 : MR s6 a hs tp := hM.hi (fun q hq => by rw [m4 q (by omega), f5' q (by omega), f5 q (by omega) (by omega) (by omega) (by omega) (by omega) (by omega) (by omega) (by omega)])
    obtain ⟨-, -, hm⟩ := hmd _ hM1
    rcases hm with ⟨f', ρ, n1, -⟩ | ⟨a'', ρ, n1, n2, n3, n4, n5⟩
    · rw [c1] at n1; exact absurd n1 (by simp)
    · rw [c1] at n1
      have haa : a' = a'' := Sum.inr.inj n1
      subst haa
      obtain ⟨ρ1, hρ1⟩ : ∃ ρ1, ρ1 = up ρ 120 23 0 := ⟨_, rfl⟩
      have h29 : ρ1 120 29 = 0 := by rw [hρ1, up120, if_neg (by decide)]; exact n3
      have h122 : MRow (ρ1 122) a' := by rw [hρ1, up_ne _ _ _ (by decide)]; exact n4
      have h121 : MRow (ρ1 121) a := by rw [hρ1, up_ne _ _ _ (by decide), n5.2 121 (by decide) (by decide)]; exact hM1.row
      obtain ⟨ρ2, p1, p2, p3⟩ := keepM h122 c2 c3 hw h121
      rw [← ha2] at p2
      have hcp : ∃ ρ3, lp X11_text_B78 FU (0, ρ2) = some (X11_many (up ρ3 120 4 0), up ρ3 120 4 0) ∧ (∀ j, j < 42 → ρ3 121 j = ρ2 122 j) ∧ Fr ρ2 ρ3 [121] := by
        refine lp_c (body := X11_text_B78) (0, ρ2) (fun k s => s.1 = nI k ∧ (∀ j, j < k → s.2 121 j = ρ2 122 j) ∧ Fr ρ2 s.2 [121]) 42 (fun s => some (X11_many (up s.2 120 4 0), up s.2 120 4 0)) ⟨nI_0.symm, fun j hj => by omega, Fr.rf _ _⟩ (by omega) (fun k s hk hi => ?_) (fun s hi rec => ?_) (fun s' hI he => ?_)
        · obtain ⟨x, υ⟩ := s
          obtain ⟨g1, g2, g3⟩ := hi
          simp only at g1 g2 g3
          subst g1
          have hv : υ 122 k = ρ2 122 k := by rw [g3 122 (by simp)]
          refine ⟨(nI (k + 1), up υ 121 k (ρ2 122 k)), ⟨rfl, fun j hj => ?_, (g3.tr (Fr.up (ps := [121]) (by simp))).mono (by simp)⟩, fun rec => ?_⟩
          · show up υ 121 k (ρ2 122 k) 121 j = _
            rw [up_at]; unfold upd
            by_cases e : j = k
            · rw [if_pos e, e]
            · rw [if_neg e]; exact g2 j (by omega)
          · rw [X11_text_B78, if_neg (by rw [show (42 : Int32) = nI 42 from rfl, nle (by omega) (by omega)]; omega), ckA_n hk (by omega), ckA_n hk (by omega), ncl (by omega), hv, nI_1]
        · obtain ⟨x, υ⟩ := s
          have g1 : x = nI 42 := hi.1
          subst g1
          show X11_text_B78 rec (nI 42, υ) = _
          rw [X11_text_B78, if_pos (by decide)]
        · exact ⟨s'.2, he, hI.2.1, hI.2.2⟩
      obtain ⟨ρ3, v1, v2, v3⟩ := hcp
      obtain ⟨ρ4, hρ4⟩ : ∃ ρ4, ρ4 = up ρ3 120 4 0 := ⟨_, rfl⟩
      have hrow4 : MRow (ρ4 121) a2 := by
        rw [hρ4, up_ne _ _ _ (by decide)]; exact p2.cg v2
      have q4 : ∀ q, q ≠ 120 → q ≠ 121 → q ≠ 122 → ρ4 q = s6 q := fun q h1 h2 h3 => by
        rw [hρ4, up_ne _ _ _ h1, v3 q (by simpa using h2), p3 q (by simpa using h3), hρ1, up_ne _ _ _ h1, n5.2 q h1 h3]
      have hmany : X11_many ρ4 = nI a2.2.2.1.length := hrow4.2.2.1
      have h423 : ρ4 120 23 = nI 0 := by
        rw [hρ4, up120, if_neg (by decide), v3 120 (by simp), p3 120 (by simp), hρ1, up120, if_pos rfl]; rfl
      refine ⟨nI a2.2.2.1.length, s6, ρ4, ?_, ?_, Or.inr ⟨a2, hw', hCR.same (fun q hq => q4 q (by omega) (by omega) (by omega)), m3.same (fun q hq => q4 q (by omega) (by omega) (by omega)), hrow4, ⟨by decide, by rw [hρ4, up120, if_pos rfl]; rfl, fun i hi => absurd hi (by simp)⟩, ⟨h423, fun i hi => absurd hi (by simp)⟩, fun i hi => ?_⟩⟩
      · rw [X10_text, c4, sbind]
        dsimp only
        rw [if_pos rfl, ← hcl0, k1, sbind, l1, sbind, ← hs5', m1, sbind, h21]
      · rw [n2, X11_text_J52, ← hρ1, h29, if_pos rfl, p1, sbind, v1, ← hρ4, hmany]
      · rw [q4 139 (by decide) (by decide) (by decide)]; exact hM1.2.2.2 i hi
