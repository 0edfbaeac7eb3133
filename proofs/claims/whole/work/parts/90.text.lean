/-! text -/
theorem ttok_0 {tp : List Nat} {g : Bool} {b : Nat} : ttok tp g b = 0 ↔ tp.length ≤ b := by
  unfold ttok
  by_cases e : b < tp.length
  · rw [if_pos e]
    refine ⟨fun h => ?_, fun h => by omega⟩
    exfalso
    by_cases e1 : ltr (tp.getD b 0) = true
    · rw [if_pos e1] at h; cases g <;> exact absurd h (by decide)
    · rw [if_neg e1] at h
      by_cases e2 : tp.getD b 0 = 59
      · rw [if_pos e2] at h; exact absurd h (by decide)
      · rw [if_neg e2] at h
        by_cases e3 : (decide (48 ≤ tp.getD b 0) && decide (tp.getD b 0 ≤ 57)) = true
        · rw [if_pos e3] at h; cases g <;> exact absurd h (by decide)
        · rw [if_neg e3] at h; exact absurd h (by decide)
  · rw [if_neg e]; exact ⟨fun _ => by omega, fun _ => rfl⟩
theorem read_m {π : Wd} {tp : List Nat} (hl : tp.length ≤ 300) (hb : ∀ x ∈ tp, x < 256) (hwl : WL π) (hp : TM π tp) (kx : Wd → Option (Int32 × Wd)) : ∀ (k g p : Nat) (first : Bool) (a : St) (ρ : Wd), tp.length - p < k → k < g → wf a → (first = true → a.2.2.1 = [] ∧ a.2.2.2 = []) → a.2.2.2 = [] → TF π ρ → TK tp false p ρ → ρ 120 29 = 0 → MRow (ρ 122) a → (∃ f ρ', rdO tp k first a p = Sum.inl f ∧ lp (X11_text_B28 kx) g (bI first, ρ) = kx ρ' ∧ ρ' 120 29 = 1 ∧ ρ' 120 27 = nI f ∧ TF π ρ') ∨ (∃ a' ρ', rdO tp k first a p = Sum.inr a' ∧ lp (X11_text_B28 kx) g (bI first, ρ) = kx ρ' ∧ ρ' 120 29 = 0 ∧ MRow (ρ' 122) a' ∧ TF π ρ')
  | 0, g, p, first, a, ρ, h1, h2, hw, hf, ht, tf, tk, h29, hr => by omega
  | k + 1, 0, p, first, a, ρ, h1, h2, hw, hf, ht, tf, tk, h29, hr => by omega
  | k + 1, g + 1, p, first, a, ρ, h1, h2, hw, hf, ht, tf, tk, h29, hr => by
    rw [rdO]
    have hlp : lp (X11_text_B28 kx) (g + 1) (bI first, ρ) = X11_text_B28 kx (lp (X11_text_B28 kx) g) (bI first, ρ) := rfl
    have htl := ttok_lt tp false p
    by_cases e : tp.length ≤ p
    · right
      refine ⟨a, ρ, by rw [if_pos e], ?_, h29, hr, tf⟩
      rw [hlp, X11_text_B28, h29, if_pos rfl, tk.2.1, ttok_0.mpr e, if_pos nI_0]
    · rw [if_neg e]
      obtain ⟨ρ1, c1, c2⟩ := clause_m hl hb hw (by omega) hwl hp tf tk h29 hr first
      have hne : ¬ nI (ttok tp false p) = 0 := by
        intro h
        have h' : nI (ttok tp false p) = nI 0 := h
        exact e (ttok_0.mp ((neq (by omega) (by omega)).mp h'))
      have hbody : lp (X11_text_B28 kx) (g + 1) (bI first, ρ) = lp (X11_text_B28 kx) g (0, ρ1) := by
        rw [hlp, X11_text_B28, h29, if_pos rfl, tk.2.1, if_neg hne, c1, sbind]
      rw [hbody]
      rcases c2 with ⟨f, d1, d2, d3, d4⟩ | ⟨p', a', d1, d2, d3, d4, d5⟩
      · left
        refine ⟨f, ρ1, by rw [d1], ?_, d2, d3, d4⟩
        obtain ⟨g', rfl⟩ : ∃ g', g = g' + 1 := ⟨g - 1, by omega⟩
        show X11_text_B28 kx _ (0, ρ1) = _
        rw [X11_text_B28, d2, if_neg (by decide)]
      · obtain ⟨q1, q2, q3⟩ := clO_ok hb hw hf ht d1
        have hsk := run_ge blk tp p'
        have := read_m hl hb hwl hp kx k g (skp tp p') false a' ρ1 (by unfold skp at *; omega) (by omega) q2 (by simp) q3 d5 d2 d3 d4
        rw [d1]; exact this
def a0 : St := (4, [1, 1, 1, 1, 1, 1, 1], [], [])
theorem wf_a0 : wf a0 := ⟨⟨by decide, by decide⟩, ⟨rfl, by decide⟩, ⟨by decide, by simp [a0], by simp [a0]⟩, ⟨by decide, by simp [a0], by simp [a0]⟩⟩
theorem starts_ok {σ : Wd} {q : Nat} (hq : kLn q = 42) : ∃ σ', X11_starts σ q = some σ' ∧ MRow (σ' q) a0 ∧ Fr σ σ' [q] := by
  have i1 : ∃ σ1, lp (X11_starts_B2 q (X11_starts_T18 q)) FU (0, σ) = X11_starts_T18 q σ1 ∧ (∀ j, j < 42 → σ1 q j = 0) ∧ Fr σ σ1 [q] := by
    refine lp_c (body := X11_starts_B2 q (X11_starts_T18 q)) (0, σ) (fun k s => s.1 = nI k ∧ (∀ j, j < k → s.2 q j = 0) ∧ Fr σ s.2 [q]) 42 (fun s => X11_starts_T18 q s.2) ⟨nI_0.symm, fun j hj => by omega, Fr.rf _ _⟩ (by omega) (fun k s hk hi => ?_) (fun s hi rec => ?_) (fun s' hI he => ?_)
    · obtain ⟨x, τ⟩ := s
      obtain ⟨g1, g2, g3⟩ := hi
      simp only at g1 g2 g3
      subst g1
      refine ⟨(nI (k + 1), up τ q k 0), ⟨rfl, fun j hj => ?_, (g3.tr (Fr.up (ps := [q]) (by simp))).mono (by simp)⟩, fun rec => ?_⟩
      · show up τ q k 0 q j = _
        rw [up_at]; unfold upd
        by_cases e : j = k
        · rw [if_pos e]
        · rw [if_neg e]; exact g2 j (by omega)
      · rw [X11_starts_B2, if_neg (by rw [show (42 : Int32) = nI 42 from rfl, nle (by omega) (by omega)]; omega), hq, ckA_n hk (by omega), ncl (by omega), nI_1]
    · obtain ⟨x, τ⟩ := s
      have g1 : x = nI 42 := hi.1
      subst g1
      show X11_starts_B2 q _ rec (nI 42, τ) = _
      rw [X11_starts_B2, if_pos (by decide)]
    · exact ⟨s'.2, he, hI.2.1, hI.2.2⟩
  obtain ⟨σ1, e1, v1, f1⟩ := i1
  unfold X11_starts
  rw [e1, X11_starts_T18, hq, show (0 : Int32) = nI 0 from rfl, ckA_n (by decide) (by decide), show nI 0 = (0 : Int32) from rfl]
  refine lp_c (body := X11_starts_B24 q) (0, up σ1 q 0 4) (fun k s => s.1 = nI k ∧ (∀ j, j < 42 → s.2 q j = if j = 0 then 4 else if 3 ≤ j ∧ j < 3 + k then 1 else 0) ∧ Fr σ s.2 [q]) 7 (fun s => some s.2) ⟨nI_0.symm, fun j hj => ?_, (f1.tr (Fr.up (ps := [q]) (by simp))).mono (by simp)⟩ (by omega) (fun k s hk hi => ?_) (fun s hi rec => ?_) (fun s' hI he => ?_)
  · show up σ1 q 0 4 q j = _
    rw [up_at]; unfold upd
    by_cases e : j = 0
    · rw [if_pos e, if_pos e]
    · rw [if_neg e, if_neg e, if_neg (by omega)]; exact v1 j hj
  · obtain ⟨x, τ⟩ := s
    obtain ⟨g1, g2, g3⟩ := hi
    simp only at g1 g2 g3
    subst g1
    refine ⟨(nI (k + 1), up τ q (3 + k) 1), ⟨rfl, fun j hj => ?_, (g3.tr (Fr.up (ps := [q]) (by simp))).mono (by simp)⟩, fun rec => ?_⟩
    · show up τ q (3 + k) 1 q j = _
      rw [up_at]; unfold upd
      by_cases e : j = 3 + k
      · rw [if_pos e, if_neg (by omega), if_pos (by omega)]
      · rw [if_neg e, g2 j hj]
        by_cases e0 : j = 0
        · rw [if_pos e0, if_pos e0]
        · rw [if_neg e0, if_neg e0]
          by_cases e1 : 3 ≤ j ∧ j < 3 + k
          · rw [if_pos e1, if_pos (show 3 ≤ j ∧ j < 3 + (k + 1) by omega)]
          · rw [if_neg e1, if_neg (show ¬ (3 ≤ j ∧ j < 3 + (k + 1)) by omega)]
    · rw [X11_starts_B24, if_neg (by rw [L7, nle (by omega) (by omega)]; omega), hq, show (3 : Int32) = nI 3 from rfl, nI_add, ckA_n (by omega) (by omega), ncl (by omega), nI_1]
  · obtain ⟨x, τ⟩ := s
    have g1 : x = nI 7 := hi.1
    subst g1
    show X11_starts_B24 q rec (nI 7, τ) = _
    rw [X11_starts_B24, if_pos (by decide)]
  · obtain ⟨g1, g2, g3⟩ := hI
    refine ⟨s'.2, he, ⟨⟨by decide, by decide⟩, ?_, ?_, ?_, fun p hp => ?_, fun i hi => absurd hi (by simp [a0]), fun i hi => absurd hi (by simp [a0])⟩, g3⟩
    · rw [g2 0 (by decide), if_pos rfl]; rfl
    · rw [g2 1 (by decide), if_neg (by decide), if_neg (by decide)]; rfl
    · rw [g2 2 (by decide), if_neg (by decide), if_neg (by decide)]; rfl
    · rw [g2 (3 + p) (by omega), if_neg (by omega), if_pos (by omega)]
      exact (by decide : ∀ p, p < 7 → (1 : Int32) = nI (a0.2.1.getD p 0)) p hp
/-! the list comes along -/
def kept (n : Nat) (told : List Nat) : List Nat := if told.all (fun x => decide (x < 2 ^ n)) then told else []
theorem keepC {σ : Wd} {a b : St} (h7 : StR σ 7 a) (hw : wf a) (hwb : wf b) (h4 : RowR σ 4 b.2.2.2) : ∃ σ', X7_keepList σ 7 4 = some σ' ∧ StR σ' 7 (a.1, a.2.1, a.2.2.1, kept a.1 b.2.2.2) ∧ Fr σ σ' [10, 11] := by
  have h20 := hwb.2.2.2.1
  have hn := hw.1.2
  have hp2 := p2_le hn
  have hcl := row_clear (σ := σ) (r := 10)
  have r4 : RowR (X4_clear σ 10) 4 b.2.2.2 := h4.cg (hcl.2 4 (by simp)) (hcl.2 5 (by simp))
  have h73 : X4_clear σ 10 7 3 = nI a.1 := by rw [hcl.2 7 (by simp)]; exact h7.2.2.2
  have mk : ∀ (σ' : Wd) (L : List Nat), RowR σ' 10 L → Fr σ σ' [10, 11] → StR σ' 7 (a.1, a.2.1, a.2.2.1, L) := fun σ' L hr f => ⟨h7.1.cg (f 8 (by simp)) (f 9 (by simp)), hr, fun p hp => by rw [f 12 (by simp)]; exact h7.2.2.1 p hp, by rw [f 7 (by simp)]; exact h7.2.2.2⟩
  unfold X7_keepList
  dsimp only [lett]
  have key := lp_find (body := X7_keepList_B9 (X4_clear σ 10) 4 7) b.2.2.2 (fun x => !decide (x < 2 ^ a.1)) (fun k => nI k) ((X4_copy (X4_clear σ 10) 10 4).bind fun σ3 => some σ3) (fun _ => some (X4_clear σ 10)) (s := 0) nI_0.symm (by omega) (fun k hk hb' rec => ?_) (fun k hk hb' rec => ?_) (fun rec => ?_)
  · rw [show (7 : Nat) + 3 = 10 from rfl, key]
    cases hf : b.2.2.2.findIdx? (fun x => !decide (x < 2 ^ a.1)) with
    | none =>
      rw [List.findIdx?_eq_none_iff] at hf
      have ha : b.2.2.2.all (fun x => decide (x < 2 ^ a.1)) = true := by
        rw [List.all_eq_true]
        intro c hc
        have := hf c hc
        simpa only [Bool.not_eq_false'] using this
      obtain ⟨σ3, g1, g2, g3⟩ := row_copy (r := 10) (q := 4) r4 (by exact h20) (by decide) (by exact h20) (by decide) (by decide) (by decide) (by decide)
      have fr : Fr σ σ3 [10, 11] := (hcl.2.tr g3).mono (by simp)
      refine ⟨σ3, by show (X4_copy (X4_clear σ 10) 10 4).bind _ = _; rw [g1, sbind], ?_, fr⟩
      rw [kept, if_pos ha]; exact mk _ _ g2 fr
    | some k =>
      rw [List.findIdx?_eq_some_iff_getElem] at hf
      obtain ⟨hk, hp, -⟩ := hf
      have ha : ¬ b.2.2.2.all (fun x => decide (x < 2 ^ a.1)) = true := by
        intro hh
        have := List.all_eq_true.mp hh _ (List.getElem_mem hk)
        rw [this] at hp; exact absurd hp (by decide)
      have fr : Fr σ (X4_clear σ 10) [10, 11] := hcl.2.mono (by simp)
      refine ⟨X4_clear σ 10, rfl, ?_, fr⟩
      rw [kept, if_neg ha]; exact mk _ _ hcl.1 fr
  · have hlt := wf_lt' hwb _ (List.getElem_mem hk)
    have hnl : ¬ b.2.2.2[k] < 2 ^ a.1 := by simpa using hb'
    rw [X7_keepList_B9, r4.1, if_neg (by rw [nle (by omega) (by omega)]; omega), row_at_in r4 (by exact h20) (by decide) hk, sbind, getD_lt hk, h73, f_shl _ (by omega), if_neg (by rw [nlt (by omega) (by omega)]; exact hnl)]
  · have hlt := wf_lt' hwb _ (List.getElem_mem hk)
    have hyl : b.2.2.2[k] < 2 ^ a.1 := by simpa using hb'
    rw [X7_keepList_B9, r4.1, if_neg (by rw [nle (by omega) (by omega)]; omega), row_at_in r4 (by exact h20) (by decide) hk, sbind, getD_lt hk, h73, f_shl _ (by omega), if_pos (by rw [nlt (by omega) (by omega)]; exact hyl), nI_1]
  · rw [X7_keepList_B9, r4.1, if_pos (by rw [nle (by omega) (by omega)]; omega)]
theorem keepM {ρ : Wd} {a b : St} (h122 : MRow (ρ 122) a) (hw : wf a) (ht : a.2.2.2 = []) (hwb : wf b) (h121 : MRow (ρ 121) b) : ∃ ρ', X11_keepsList ρ = some ρ' ∧ MRow (ρ' 122) (a.1, a.2.1, a.2.2.1, kept a.1 b.2.2.2) ∧ Fr ρ ρ' [122] := by
  have h20 := hwb.2.2.2.1
  have h12 := hw.2.2.1.1
  have hn := hw.1.2
  have hp2 := p2_le hn
  have hlm : X11_listMany ρ = nI b.2.2.2.length := h121.2.2.2.1
  have h1220 : ρ 122 0 = nI a.1 := h122.2.1
  have hflag : X11_keepsList ρ = X11_keepsList_T48 ρ (bI (b.2.2.2.all (fun x => decide (x < 2 ^ a.1)))) := by
    unfold X11_keepsList
    have key : ∀ k, k ≤ b.2.2.2.length → (b.2.2.2.take (k + 1)).all (fun x => decide (x < 2 ^ a.1)) = ((b.2.2.2.take k).all (fun x => decide (x < 2 ^ a.1)) && (decide (¬ k < b.2.2.2.length) || decide (b.2.2.2.getD k 0 < 2 ^ a.1))) := by
      intro k hk
      by_cases e : k < b.2.2.2.length
      · rw [List.take_succ_eq_append_getElem e, List.all_append, getD_lt e]
        simp [e]
      · rw [List.take_of_length_le (by omega), List.take_of_length_le (by omega)]; simp [e]
    refine lp_tr (fun k => (bI ((b.2.2.2.take k).all (fun x => decide (x < 2 ^ a.1))), nI k)) b.2.2.2.length _ (by rw [nI_0]; rfl) (by omega) (fun k hk rec => ?_) (fun rec => ?_)
    · have hb1 : b.2.2.2.getD k 0 < 128 := by rw [getD_lt hk]; exact wf_lt' hwb _ (List.getElem_mem hk)
      show X11_keepsList_B4 ρ _ rec (bI ((b.2.2.2.take k).all (fun x => decide (x < 2 ^ a.1))), nI k) = rec (bI ((b.2.2.2.take (k + 1)).all (fun x => decide (x < 2 ^ a.1))), nI (k + 1))
      rw [X11_keepsList_B4, hlm, if_neg (by rw [nle (by omega) (by omega)]; omega), h1220, f_shl _ (by omega), show (22 : Int32) = nI 22 from rfl, nI_add, ckA_n (by omega) (by omega), ncl (by omega), h121.2.2.2.2.2.2 k hk, key k (by omega), X11_keepsList_J40, X11_keepsList_J42, X11_keepsList_J42, nI_1]
      cases e1 : (b.2.2.2.take k).all (fun x => decide (x < 2 ^ a.1))
      · rw [if_pos (show bI false = 0 from rfl), Bool.false_and]; rfl
      · rw [if_neg (show ¬ bI true = 0 by decide), Bool.true_and, decide_eq_false (by omega), Bool.false_or]
        by_cases e2 : b.2.2.2.getD k 0 < 2 ^ a.1
        · rw [if_neg (by rw [nle (by omega) (by omega)]; omega), decide_eq_true e2]; rfl
        · rw [if_pos (by rw [nle (by omega) (by omega)]; omega), decide_eq_false e2]; rfl
    · show X11_keepsList_B4 ρ _ rec (bI ((b.2.2.2.take b.2.2.2.length).all (fun x => decide (x < 2 ^ a.1))), nI b.2.2.2.length) = _
      rw [X11_keepsList_B4, hlm, if_pos (by rw [nle (by omega) (by omega)]; omega), List.take_length]
  rw [hflag, X11_keepsList_T48]
  cases ha : b.2.2.2.all (fun x => decide (x < 2 ^ a.1))
  · refine ⟨ρ, by rw [if_pos (show bI false = 0 from rfl)], ?_, Fr.rf _ _⟩
    rw [kept, ha, if_neg (show ¬ (false = true) by decide)]
    obtain ⟨k0, k1, k2, k3, k4, k5, k6⟩ := h122
    exact ⟨⟨k0.1, by show (0 : Nat) ≤ 20; decide⟩, k1, k2, by rw [k3, ht], k4, k5, fun i hi => absurd hi (by simp)⟩
  · rw [if_neg (show ¬ bI true = 0 by decide), hlm]
    refine lp_c (body := X11_keepsList_B65) (0, up ρ 122 2 (nI b.2.2.2.length)) (fun k s => s.1 = nI k ∧ (∀ j, s.2 122 j = if j = 2 then nI b.2.2.2.length else if 22 ≤ j ∧ j < 22 + k then ρ 121 j else ρ 122 j) ∧ Fr ρ s.2 [122]) b.2.2.2.length (fun s => some s.2) ⟨nI_0.symm, fun j => ?_, Fr.up (by simp)⟩ (by omega) (fun k s hk hi => ?_) (fun s hi rec => ?_) (fun s' hI he => ?_)
    · show up ρ 122 2 (nI b.2.2.2.length) 122 j = _
      rw [up_at]; unfold upd
      by_cases e : j = 2
      · rw [if_pos e, if_pos e]
      · rw [if_neg e, if_neg e, if_neg (by omega)]
    · obtain ⟨x, τ⟩ := s
      obtain ⟨g1, g2, g3⟩ := hi
      simp only at g1 g2 g3
      subst g1
      have hlm' : X11_listMany τ = nI b.2.2.2.length := by rw [X11_listMany, g3 121 (by simp)]; exact hlm
      have hv : τ 121 (22 + k) = ρ 121 (22 + k) := by rw [g3 121 (by simp)]
      refine ⟨(nI (k + 1), up τ 122 (22 + k) (ρ 121 (22 + k))), ⟨rfl, fun j => ?_, (g3.tr (Fr.up (ps := [122]) (by simp))).mono (by simp)⟩, fun rec => ?_⟩
      · show up τ 122 (22 + k) (ρ 121 (22 + k)) 122 j = _
        rw [up_at]; unfold upd
        by_cases e : j = 22 + k
        · rw [if_pos e, if_neg (by omega), if_pos (by omega), e]
        · rw [if_neg e, g2 j]
          by_cases e2 : j = 2
          · rw [if_pos e2, if_pos e2]
          · rw [if_neg e2, if_neg e2]
            by_cases e3 : 22 ≤ j ∧ j < 22 + k
            · rw [if_pos e3, if_pos (show 22 ≤ j ∧ j < 22 + (k + 1) by omega)]
            · rw [if_neg e3, if_neg (show ¬ (22 ≤ j ∧ j < 22 + (k + 1)) by omega)]
      · rw [X11_keepsList_B65, hlm', if_neg (by rw [nle (by omega) (by omega)]; omega), show (22 : Int32) = nI 22 from rfl, nI_add, ckA_n (by omega) (by omega), ckA_n (by omega) (by omega), ncl (by omega), hv, nI_1]
    · obtain ⟨x, τ⟩ := s
      obtain ⟨g1, g2, g3⟩ := hi
      simp only at g1 g2 g3
      subst g1
      have hlm' : X11_listMany τ = nI b.2.2.2.length := by rw [X11_listMany, g3 121 (by simp)]; exact hlm
      show X11_keepsList_B65 rec (nI b.2.2.2.length, τ) = _
      rw [X11_keepsList_B65, hlm', if_pos (by rw [nle (by omega) (by omega)]; omega)]
    · obtain ⟨g1, g2, g3⟩ := hI
      refine ⟨s'.2, he, ?_, g3⟩
      rw [kept, ha, if_pos rfl]
      obtain ⟨k0, k1, k2, k3, k4, k5, k6⟩ := h122
      have q : ∀ j, j ≠ 2 → (j < 22 ∨ 22 + b.2.2.2.length ≤ j) → s'.2 122 j = ρ 122 j := fun j h1 h2 => by rw [g2 j, if_neg h1, if_neg (by omega)]
      refine ⟨⟨k0.1, h20⟩, by rw [q 0 (by omega) (by omega)]; exact k1, by rw [q 1 (by omega) (by omega)]; exact k2, by rw [g2 2, if_pos rfl], fun p hp => by rw [q _ (by omega) (by omega)]; exact k4 p hp, fun i hi => ?_, fun i hi => ?_⟩
      · have : i < a.2.2.1.length := hi
        rw [q _ (by omega) (by omega)]; exact k5 i hi
      · have hi' : i < b.2.2.2.length := hi
        rw [g2 (22 + i), if_neg (by omega), if_pos (by omega)]; exact h121.2.2.2.2.2.2 i hi'
theorem wf_kept {a b : St} (hw : wf a) (hwb : wf b) : wf (a.1, a.2.1, a.2.2.1, kept a.1 b.2.2.2) := by
  refine ⟨hw.1, hw.2.1, hw.2.2.1, ?_⟩
  unfold kept
  by_cases e : b.2.2.2.all (fun x => decide (x < 2 ^ a.1)) = true
  · rw [if_pos e]
    exact ⟨hwb.2.2.2.1, fun g hg => ⟨(hwb.2.2.2.2.1 g hg).1, by simpa using List.all_eq_true.mp e g hg⟩, hwb.2.2.2.2.2⟩
  · rw [if_neg e]
    exact ⟨by simp, by simp, by simp⟩
