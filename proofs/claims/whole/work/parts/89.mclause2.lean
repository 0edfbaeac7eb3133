/-! letters, weights and sets, as the reference reads them -/
theorem let_wrong {ρ : Wd} (h29 : ρ 120 29 = 1) (y : Int32) : X11_needsLetters_T86 y ρ = some (y, ρ) := by
  rw [X11_needsLetters_T86, X11_needsLetters_J86, h29, if_neg (by decide), up_self h29]
theorem let_n {ρ : Wd} {tp : List Nat} (hl : tp.length ≤ 300) (hb : ∀ x ∈ tp, x < 256) (ht : TM ρ tp) {n s : Nat} (hn : n ≤ 7) (hs : s ≤ 310) (h0 : ρ 122 0 = nI n) (h25 : ρ 120 25 = nI (lnd tp s)) (h26 : ρ 120 26 = 1) (h29 : ρ 120 29 = 0) : ∀ (d k g t : Nat), lnd tp s - s = k + d → d + 2 < g → lsetK tp n s k = some t → (∃ t', lsetK tp n s (lnd tp s - s) = some t' ∧ lp (X11_needsLetters_B7 X11_needsLetters_T86) g (nI t, nI (s + k), ρ) = X11_needsLetters_T86 (nI t') ρ) ∨ (lsetK tp n s (lnd tp s - s) = none ∧ ∃ y, lp (X11_needsLetters_B7 X11_needsLetters_T86) g (nI t, nI (s + k), ρ) = some (y, up ρ 120 29 1))
  | d, k, 0, t, h1, h2, h3 => by omega
  | 0, k, g + 1, t, h1, h2, h3 => by
    have hge := run_ge ltr tp s
    have hle := lnd_le hl hs
    left
    refine ⟨t, by rw [h1]; exact h3, ?_⟩
    show X11_needsLetters_B7 X11_needsLetters_T86 _ (nI t, nI (s + k), ρ) = _
    rw [X11_needsLetters_B7, h25, if_pos (by rw [nle (by omega) (by omega)]; unfold lnd at *; omega)]
  | d + 1, k, g + 1, t, h1, h2, h3 => by
    have hge := run_ge ltr tp s
    have hle := lnd_le hl hs
    have hi : s + k < lnd tp s := by unfold lnd at *; omega
    obtain ⟨i1, i2, i3⟩ := ltr_in (tp := tp) (s := s) (j := s + k) (by omega) hi
    have htn := lset_lt k t h3
    have ht8 : t < 128 := by have := p2_le hn; omega
    have hsucc : lsetK tp n s (k + 1) = if n ≤ tp.getD (s + k) 0 - 97 ∨ t.testBit (tp.getD (s + k) 0 - 97) = true then none else some (t ||| 2 ^ (tp.getD (s + k) 0 - 97)) := by rw [lsetK, h3]
    have w29 : up ρ 120 29 1 120 29 = 1 := by rw [up120, if_pos rfl]
    have hbad : lsetK tp n s (k + 1) = none → (lsetK tp n s (lnd tp s - s) = none ∧ ∃ y, X11_needsLetters_J67 (lp (X11_needsLetters_B7 X11_needsLetters_T86) g) (nI t) (nI (s + k)) (nI (tp.getD (s + k) 0 - 97)) (up ρ 120 29 1) = some (y, up ρ 120 29 1)) := by
      intro hn'
      refine ⟨by rw [h1, show k + (d + 1) = k + 1 + d by omega]; exact lset_none hn' d, nI t, ?_⟩
      rw [X11_needsLetters_J67, w29, if_neg (by decide), X11_needsLetters_J80, nI_1]
      obtain ⟨g', rfl⟩ : ∃ g', g = g' + 1 := ⟨g - 1, by omega⟩
      show X11_needsLetters_B7 X11_needsLetters_T86 _ (nI t, nI (s + k + 1), up ρ 120 29 1) = _
      rw [X11_needsLetters_B7, w29, if_neg (show ¬ (1 : Int32) = 0 by decide), let_wrong w29]
      by_cases c : up ρ 120 29 1 120 25 ≤ nI (s + k + 1)
      · rw [if_pos c]
      · rw [if_neg c]
        by_cases c2 : up ρ 120 29 1 120 26 = 1
        · rw [if_pos c2]
        · rw [if_neg c2]
    have hB : lp (X11_needsLetters_B7 X11_needsLetters_T86) (g + 1) (nI t, nI (s + k), ρ) = (if n ≤ tp.getD (s + k) 0 - 97 then X11_needsLetters_J67 (lp (X11_needsLetters_B7 X11_needsLetters_T86) g) (nI t) (nI (s + k)) (nI (tp.getD (s + k) 0 - 97)) (up ρ 120 29 1) else (if X11_has (nI t) (nI (tp.getD (s + k) 0 - 97)) = 0 then X11_needsLetters_J67 (lp (X11_needsLetters_B7 X11_needsLetters_T86) g) (nI t) (nI (s + k)) (nI (tp.getD (s + k) 0 - 97)) ρ else X11_needsLetters_J67 (lp (X11_needsLetters_B7 X11_needsLetters_T86) g) (nI t) (nI (s + k)) (nI (tp.getD (s + k) 0 - 97)) (up ρ 120 29 1))) := by
      show X11_needsLetters_B7 X11_needsLetters_T86 _ (nI t, nI (s + k), ρ) = _
      rw [X11_needsLetters_B7, h25, if_neg (by rw [nle (by omega) (by omega)]; omega), h26, if_pos rfl, h29, if_pos rfl, ckA_n (by omega) (by omega), ncl (by omega), ht.2 _ i1, let_c _ (by omega) i2, h0, up_self h29]
      by_cases c1 : n ≤ tp.getD (s + k) 0 - 97
      · rw [if_pos (by rw [nle (by omega) (by omega)]; exact c1), if_pos c1]
      · rw [if_neg (by rw [nle (by omega) (by omega)]; exact c1), if_neg c1]
    rw [hB]
    by_cases c1 : n ≤ tp.getD (s + k) 0 - 97
    · rw [if_pos c1]
      exact Or.inr (hbad (by rw [hsucc, if_pos (Or.inl c1)]))
    · rw [if_neg c1, f_has t ht8 _ (by omega)]
      by_cases c2 : t.testBit (tp.getD (s + k) 0 - 97) = true
      · rw [if_pos c2, if_neg (by decide)]
        exact Or.inr (hbad (by rw [hsucc, if_pos (Or.inr c2)]))
      · rw [if_neg c2, if_pos rfl, X11_needsLetters_J67, h29, if_pos rfl, X11_needsLetters_J80, nI_1, f_shl _ (by omega), f_or t ht8 _ (f_pow_lt (by omega))]
        exact let_n hl hb ht hn hs h0 h25 h26 h29 d (k + 1) g _ (by omega) (by omega) (by rw [hsucc, if_neg (by rw [not_or]; exact ⟨c1, c2⟩)])
theorem letters_m {ρ : Wd} {tp : List Nat} (hl : tp.length ≤ 300) (hb : ∀ x ∈ tp, x < 256) (ht : TM ρ tp) {n s : Nat} {g : Bool} (hn : n ≤ 7) (hs : s ≤ 310) (h0 : ρ 122 0 = nI n) (hk : TK tp g s ρ) (h29 : ρ 120 29 = 0) : (∃ t, g = false ∧ lsetK tp n s (lnd tp s - s) = some t ∧ t ≠ 0 ∧ ρ 120 25 = nI (lnd tp s) ∧ ρ 120 26 = 1 ∧ X11_needsLetters ρ = some (nI t, ρ)) ∨ ((g = true ∨ lsetK tp n s (lnd tp s - s) = none ∨ lsetK tp n s (lnd tp s - s) = some 0) ∧ ∃ y, X11_needsLetters ρ = some (y, up ρ 120 29 1)) := by
  have htl := ttok_lt tp g s
  by_cases e : ttok tp g s = 1
  · obtain ⟨⟨e1, e2⟩, e3⟩ := ttok_1.mp e
    have h25 : ρ 120 25 = nI (lnd tp s) := by rw [hk.1, tspot, if_pos e1, if_pos e2]
    have h26 : ρ 120 26 = 1 := by rw [hk.2.1, e]; rfl
    have hle := lnd_le hl hs
    have hge := run_ge ltr tp s
    have hrw : X11_needsLetters ρ = lp (X11_needsLetters_B7 X11_needsLetters_T86) FU (nI 0, nI (s + 0), ρ) := by rw [X11_needsLetters, hk.2.2.1]; rfl
    rcases let_n hl hb ht hn hs h0 h25 h26 h29 (lnd tp s - s) 0 FU 0 (by omega) (by show _ < 4096; omega) rfl with ⟨t, t1, t2⟩ | ⟨t1, y, t2⟩
    · have ht8 := lset_lt _ t t1
      have hp2 := p2_le hn
      rw [X11_needsLetters_T86, X11_needsLetters_J86, h29, if_pos rfl] at t2
      by_cases e0 : t = 0
      · right
        refine ⟨Or.inr (Or.inr (by rw [t1, e0])), nI t, ?_⟩
        rw [hrw, t2, if_pos (by rw [e0]; exact nI_0)]
      · left
        refine ⟨t, e3, t1, e0, h25, h26, ?_⟩
        rw [hrw, t2, if_neg (nI_ne0 (by omega) (by omega)), up_self h29]
    · right
      exact ⟨Or.inr (Or.inl t1), y, by rw [hrw, t2]⟩
  · right
    have h26 : ¬ ρ 120 26 = 1 := by rw [hk.2.1, show (1 : Int32) = nI 1 from rfl, neq (by omega) (by omega)]; exact e
    have hres : X11_needsLetters ρ = some (0, up ρ 120 29 1) := by
      rw [X11_needsLetters]
      show X11_needsLetters_B7 X11_needsLetters_T86 _ (0, ρ 120 27, ρ) = _
      rw [X11_needsLetters_B7, if_neg h26, X11_needsLetters_T86, X11_needsLetters_J86, h29, if_pos rfl, if_pos rfl]
      by_cases c : ρ 120 25 ≤ ρ 120 27
      · rw [if_pos c]
      · rw [if_neg c]
    refine ⟨?_, 0, hres⟩
    cases g
    · right; right
      have hnl : ¬ (s < tp.length ∧ ltr (tp.getD s 0) = true) := fun h => e (ttok_1.mpr ⟨h, rfl⟩)
      have : lnd tp s = s := run_st hnl
      rw [this, Nat.sub_self]; rfl
    · exact Or.inl rfl
theorem f_pcor : ∀ t, t < 128 → ∀ b, b < 7 → t.testBit b = false → pc (t ||| 2 ^ b) = pc t + 1 := by decide +kernel
theorem lset_pc {tp : List Nat} {n s : Nat} (hn : n ≤ 7) : ∀ (k t : Nat), lsetK tp n s k = some t → pc t = k
  | 0, t, h => by
    simp only [lsetK, Option.some.injEq] at h
    rw [← h]; rfl
  | k + 1, t, h => by
    rw [lsetK] at h
    cases hk : lsetK tp n s k with
    | none => rw [hk] at h; exact absurd h (by simp)
    | some t0 =>
      rw [hk] at h
      dsimp only at h
      by_cases e : n ≤ tp.getD (s + k) 0 - 97 ∨ t0.testBit (tp.getD (s + k) 0 - 97) = true
      · rw [if_pos e] at h; exact absurd h (by simp)
      · rw [if_neg e] at h
        rw [not_or] at e
        have h1 := lset_lt k t0 hk
        have hp := p2_le hn
        rw [← Option.some.inj h, f_pcor t0 (by omega) _ (by omega) (by simpa using e.2), lset_pc hn k t0 hk]
theorem wloop {ρ : Wd} {p : Nat} (hp : p < 7) (v : Int32) : lp (X11_readsWeight_B51 (nI (2 ^ p)) v) FU (0, ρ) = some (up ρ 122 (3 + p) v) := by
  have hp2 := f_pow_lt hp
  refine lp_tr (fun k => (nI k, if p < k then up ρ 122 (3 + p) v else ρ)) 7 _ (by rw [nI_0]; rfl) (by omega) (fun k hk rec => ?_) (fun rec => ?_)
  · show X11_readsWeight_B51 (nI (2 ^ p)) v rec (nI k, _) = rec (nI (k + 1), _)
    rw [X11_readsWeight_B51, if_neg (by rw [L7, nle (by omega) (by omega)]; omega), f_has _ hp2 k hk, Nat.testBit_two_pow, show (3 : Int32) = nI 3 from rfl, nI_add, ckA_n (by omega) (by omega), ncl (by omega), X11_readsWeight_J74, X11_readsWeight_J74, nI_1]
    by_cases e : p = k
    · rw [decide_eq_true e, if_pos rfl, if_neg (by decide), if_neg (by omega), if_pos (show p < k + 1 by omega), e]
    · rw [decide_eq_false e, if_pos (show (if false = true then (1 : Int32) else 0) = 0 from rfl)]
      by_cases e2 : p < k
      · rw [if_pos e2, if_pos (show p < k + 1 by omega)]
      · rw [if_neg e2, if_neg (show ¬ p < k + 1 by omega)]
  · show X11_readsWeight_B51 (nI (2 ^ p)) v rec (nI 7, _) = _
    rw [X11_readsWeight_B51, if_pos (by rw [L7, nle (by omega) (by omega)]; omega), if_pos hp]
theorem tf_122 {ρ : Wd} (i : Nat) (x : Int32) : TF ρ (up ρ 122 i x) := ⟨fun j _ => by rw [up_ne _ _ _ (by decide)], fun q _ q2 => up_ne _ _ _ q2⟩
theorem tk_122 {tp : List Nat} {g : Bool} {b : Nat} {ρ : Wd} (h : TK tp g b ρ) (i : Nat) (x : Int32) : TK tp g b (up ρ 122 i x) := by
  unfold TK at *
  rw [up_ne _ _ _ (by decide)]; exact h
theorem wgt_m {π ρ : Wd} {tp : List Nat} (hl : tp.length ≤ 300) (hb : ∀ x ∈ tp, x < 256) {a : St} (hw : wf a) {e : Nat} (he : e ≤ 300) (hp : TM π tp) (hf : TF π ρ) (hk : TK tp (!blkAt tp e) (skp tp e) ρ) (h29 : ρ 120 29 = 0) (hr : MRow (ρ 122) a) : ∃ ρ1 ρ2, X11_readsWeight ρ = some ρ1 ∧ X11_readsOne_J69 ρ1 = some ρ2 ∧ MO π tp (wgtO tp a e) ρ2 := by
  have h7 := hw.1.2
  have hp2 := p2_le h7
  have hs := skp_le hl (i := e) (by omega)
  have he2 := lnd_le hl hs
  have hge := run_ge ltr tp (skp tp e)
  have w29 : up ρ 120 29 1 120 29 = 1 := by rw [up120, if_pos rfl]
  -- a fault here
  have bad : ∃ ρ1 ρ2, X11_readsWeight_J29 0 (up ρ 120 29 1) = some ρ1 ∧ X11_readsOne_J69 ρ1 = some ρ2 ∧ MO π tp (Sum.inl (skp tp e)) ρ2 := by
    refine ⟨up ρ 120 29 1, ?_⟩
    obtain ⟨ρ2, r1, r2⟩ := wrong_m (tp := tp) (f := skp tp e) (hf.tr (tf_up (by omega) 1)) w29 (by rw [up120, if_neg (by decide)]; exact hk.2.2.1)
    exact ⟨ρ2, by rw [X11_readsWeight_J29, w29, if_neg (by decide)], r1, r2⟩
  have badJ : ∀ y, X11_readsWeight_J29 y (up ρ 120 29 1) = X11_readsWeight_J29 0 (up ρ 120 29 1) := fun y => by rw [X11_readsWeight_J29, X11_readsWeight_J29, w29, if_neg (by decide), if_neg (by decide)]
  unfold wgtO
  rcases letters_m hl hb (hf.tm hp) h7 hs hr.2.1 hk h29 with ⟨t, g0, t1, t2, t3, t4, t5⟩ | ⟨g0, y, t5⟩
  · have hblk : blkAt tp e = true := by simpa using g0
    have ht := lset_lt _ t t1
    have hpc := lset_pc h7 _ t t1
    have hpc8 := f_pc8 t (by omega)
    rw [if_pos hblk]
    have hrw : X11_readsWeight ρ = if nI (pc t) = 1 then X11_readsWeight_J29 (nI t) ρ else X11_readsWeight_J29 (nI t) (up ρ 120 29 1) := by
      rw [X11_readsWeight, t5, sbind]
      dsimp only
      rw [h29, if_pos rfl, f_ones t (by omega), sbind, up_self h29]
    by_cases e1 : lnd tp (skp tp e) = skp tp e + 1
    · have hm1 : lnd tp (skp tp e) - skp tp e = 1 := by omega
      rw [hm1] at t1 hpc
      -- the one letter
      have hl1 : lsetK tp a.1 (skp tp e) 1 = if a.1 ≤ tp.getD (skp tp e) 0 - 97 ∨ (0 : Nat).testBit (tp.getD (skp tp e) 0 - 97) = true then none else some (0 ||| 2 ^ (tp.getD (skp tp e) 0 - 97)) := rfl
      by_cases e2 : tp.getD (skp tp e) 0 - 97 < a.1
      · rw [if_pos ⟨e1, e2⟩]
        have htp : t = 2 ^ (tp.getD (skp tp e) 0 - 97) := by
          rw [hl1, if_neg (by rw [Nat.zero_testBit]; simp only [not_or]; exact ⟨by omega, by decide⟩), Nat.zero_or] at t1
          exact (Option.some.inj t1).symm
        obtain ⟨P, hP⟩ : ∃ P, P = tp.getD (skp tp e) 0 - 97 := ⟨_, rfl⟩
        rw [← hP] at htp e2 ⊢
        rw [if_pos (by rw [hpc]; rfl), htp] at hrw
        obtain ⟨ρ5, q1, q2, q3, q4, q5⟩ := goes_ok hl hb (hf.tm hp) (i := lnd tp (skp tp e)) (was := 1) (by omega) (by decide) t3 (by rw [t4]; rfl)
        rw [glu_blk (Or.inl rfl)] at q2
        have h295 : ρ5 120 29 = 0 := by rw [q3, h29]
        have hnum := num_m hb q2 h295 (lo := 0) (hi := 9) (by omega) (by omega)
        have hr5 : MRow (ρ5 122) a := by rw [q4]; exact hr
        rw [Bool.not_not] at hnum
        have hJ : X11_readsWeight ρ = (X11_needsNumber ρ5 (nI 0) (nI 9)).bind fun (t6, σ7) => (lp (X11_readsWeight_B51 (nI (2 ^ P)) t6) FU (0, σ7)) := by
          rw [hrw, X11_readsWeight_J29, h29, if_pos rfl, q1, sbind]; rfl
        have hs2 := skp_le hl he2
        by_cases b1 : blkAt tp (lnd tp (skp tp e)) = true
        · rw [if_pos b1]
          by_cases b2 : digAt tp 0 9 (skp tp (lnd tp (skp tp e))) = true
          · rw [if_pos b2]
            have b2' := b2
            simp only [digAt, Bool.and_eq_true, decide_eq_true_eq] at b2'
            have hsp : tspot tp (skp tp (lnd tp (skp tp e))) = skp tp (lnd tp (skp tp e)) + 1 := by
              have hnl : ltr (tp.getD (skp tp (lnd tp (skp tp e))) 0) = false := by
                cases hh : ltr (tp.getD (skp tp (lnd tp (skp tp e))) 0)
                · rfl
                · simp only [ltr, Bool.and_eq_true, decide_eq_true_eq] at hh; omega
              rw [tspot, if_pos b2'.1, hnl, if_neg (by decide)]
            have htk : ttok tp (!blkAt tp (lnd tp (skp tp e))) (skp tp (lnd tp (skp tp e))) = 2 := ttok_2.mpr ⟨b2, by rw [b1]; rfl⟩
            obtain ⟨ρ7, u1, u2, u3, u4, u5⟩ := goes_ok hl hb ((hf.tr q5).tm hp) (i := skp tp (lnd tp (skp tp e)) + 1) (was := 2) (by omega) (by decide) (by rw [q2.1, hsp]) (by rw [q2.2.1, htk])
            rw [b2, b1, if_pos (by decide), u1, sbind] at hnum
            rw [hnum, sbind] at hJ
            dsimp only at hJ
            rw [wloop (by omega)] at hJ
            have hr7 : MRow (up ρ7 122 (3 + P) (nI (tp.getD (skp tp (lnd tp (skp tp e))) 0 - 48)) 122) (a.1, a.2.1.set P (tp.getD (skp tp (lnd tp (skp tp e))) 0 - 48), a.2.2.1, a.2.2.2) := by
              rw [up_at, u4, q4]; exact mrow_wset hr (by omega) hw.2.1.1
            obtain ⟨ρ9, v1, v2⟩ := end_m hl hb (x := skp tp (lnd tp (skp tp e)) + 1) (by omega) hp (((hf.tr q5).tr u5).tr (tf_122 _ _)) (tk_122 u2 _ _) (by rw [up_ne _ _ _ (by decide), u3, h295]) hr7
            exact ⟨_, ρ9, hJ, v1, v2⟩
          · have b2' : digAt tp 0 9 (skp tp (lnd tp (skp tp e))) = false := by simpa using b2
            rw [if_neg b2]
            rw [b2', Bool.false_and, if_neg (by decide)] at hnum
            rw [hnum, sbind] at hJ
            dsimp only at hJ
            rw [wloop (by omega)] at hJ
            obtain ⟨ρ9, v1, v2⟩ := wrong_m (tp := tp) (f := skp tp (lnd tp (skp tp e))) (((hf.tr q5).tr (tf_up (i := 29) (by omega) 1)).tr (tf_122 (3 + P) (nI 0))) (by rw [up_ne _ _ _ (by decide), up120, if_pos rfl]) (by rw [up_ne _ _ _ (by decide), up120, if_neg (by decide)]; exact q2.2.2.1)
            exact ⟨_, ρ9, hJ, v1, v2⟩
        · have b1' : blkAt tp (lnd tp (skp tp e)) = false := by simpa using b1
          rw [if_neg b1]
          rw [b1', Bool.and_false, if_neg (by decide)] at hnum
          rw [hnum, sbind] at hJ
          dsimp only at hJ
          rw [wloop (by omega)] at hJ
          have hsk : skp tp (lnd tp (skp tp e)) = lnd tp (skp tp e) := by
            apply Classical.byContradiction
            intro hn
            exact b1 (blk_skp.mpr hn)
          obtain ⟨ρ9, v1, v2⟩ := wrong_m (tp := tp) (f := lnd tp (skp tp e)) (((hf.tr q5).tr (tf_up (i := 29) (by omega) 1)).tr (tf_122 (3 + P) (nI 0))) (by rw [up_ne _ _ _ (by decide), up120, if_pos rfl]) (by rw [up_ne _ _ _ (by decide), up120, if_neg (by decide), q2.2.2.1, hsk])
          exact ⟨_, ρ9, hJ, v1, v2⟩
      · exfalso
        rw [hl1, if_pos (Or.inl (by omega))] at t1
        exact absurd t1 (by simp)
    · rw [if_neg (fun h => e1 h.1)]
      rw [if_neg (by rw [show (1 : Int32) = nI 1 from rfl, neq (by omega) (by omega)]; omega), badJ] at hrw
      rw [hrw]; exact bad
  · have hrw : X11_readsWeight ρ = X11_readsWeight_J29 0 (up ρ 120 29 1) := by
      rw [X11_readsWeight, t5, sbind]
      dsimp only
      rw [w29, if_neg (by decide), up_up, badJ]
    rw [hrw]
    by_cases hblk : blkAt tp e = true
    · rw [if_pos hblk]
      have hno : ¬ (lnd tp (skp tp e) = skp tp e + 1 ∧ tp.getD (skp tp e) 0 - 97 < a.1) := by
        rintro ⟨e1, e2⟩
        have hl1 : lsetK tp a.1 (skp tp e) 1 = if a.1 ≤ tp.getD (skp tp e) 0 - 97 ∨ (0 : Nat).testBit (tp.getD (skp tp e) 0 - 97) = true then none else some (0 ||| 2 ^ (tp.getD (skp tp e) 0 - 97)) := rfl
        rw [if_neg (by rw [Nat.zero_testBit]; simp only [not_or]; exact ⟨by omega, by decide⟩), Nat.zero_or] at hl1
        rw [show lnd tp (skp tp e) - skp tp e = 1 by omega, hl1] at g0
        rcases g0 with g | g | g
        · rw [hblk] at g; exact absurd g (by decide)
        · exact absurd g (by simp)
        · have := Option.some.inj g
          have hpos := p2_pos (tp.getD (skp tp e) 0 - 97)
          omega
      rw [if_neg hno]; exact bad
    · have hsk : skp tp e = e := by
        apply Classical.byContradiction
        intro hn
        exact hblk (blk_skp.mpr hn)
      rw [if_neg hblk]
      rw [hsk] at bad
      exact bad
theorem set_m {π ρ : Wd} {tp : List Nat} (hl : tp.length ≤ 300) (hb : ∀ x ∈ tp, x < 256) {a : St} (hw : wf a) (h12 : a.2.2.1.length < 12) {e : Nat} (he : e ≤ 300) (x1 : Int32) (hp : TM π tp) (hf : TF π ρ) (hk : TK tp (!blkAt tp e) (skp tp e) ρ) (h29 : ρ 120 29 = 0) (hr : MRow (ρ 122) a) : ∃ ρ1 ρ2, X11_readsSet ρ x1 = some ρ1 ∧ X11_readsOne_J69 ρ1 = some ρ2 ∧ MO π tp (setO tp a e) ρ2 := by
  have h7 := hw.1.2
  have hp2 := p2_le h7
  have hs := skp_le hl (i := e) (by omega)
  have he2 := lnd_le hl hs
  have hge := run_ge ltr tp (skp tp e)
  have w29 : up ρ 120 29 1 120 29 = 1 := by rw [up120, if_pos rfl]
  have h1221 : ρ 122 1 = nI a.2.2.1.length := hr.2.2.1
  have bad : ∀ y, ∃ ρ1 ρ2, X11_readsSet_J62 y (up ρ 120 29 1) = some ρ1 ∧ X11_readsOne_J69 ρ1 = some ρ2 ∧ MO π tp (Sum.inl (skp tp e)) ρ2 := fun y => by
    obtain ⟨ρ2, r1, r2⟩ := wrong_m (tp := tp) (f := skp tp e) (hf.tr (tf_up (by omega) 1)) w29 (by rw [up120, if_neg (by decide)]; exact hk.2.2.1)
    exact ⟨_, ρ2, by rw [X11_readsSet_J62, w29, if_neg (by decide)], r1, r2⟩
  have hstart : X11_readsSet ρ x1 = (X11_needsLetters ρ).bind fun (t2, σ3) => (if (σ3 120 29) = 0 then ((X11_isThere σ3 122 10 (σ3 122 1) t2).bind fun t8 => (if t8 = 0 then X11_readsSet_J62 t2 (up σ3 120 29 0) else X11_readsSet_J62 t2 (up σ3 120 29 1))) else X11_readsSet_J62 t2 (up σ3 120 29 1)) := by
    rw [X11_readsSet, h1221, if_neg (by rw [show (12 : Int32) = nI 12 from rfl, neq (by omega) (by omega)]; omega)]
  unfold setO
  rcases letters_m hl hb (hf.tm hp) h7 hs hr.2.1 hk h29 with ⟨t, g0, t1, t2, t3, t4, t5⟩ | ⟨g0, y, t5⟩
  · have hblk : blkAt tp e = true := by simpa using g0
    have ht := lset_lt _ t t1
    rw [if_pos hblk, t1]
    dsimp only
    rw [t5, sbind] at hstart
    dsimp only at hstart
    have hth : X11_isThere ρ 122 10 (ρ 122 1) (nI t) = some (if t ∈ a.2.2.1 then 1 else 0) := by
      rw [h1221, show (10 : Int32) = nI 10 from rfl, there_ok (fun i hi => hr.2.2.2.2.2.1 i hi) (by rw [show kLn 122 = 42 from rfl]; omega) (by decide) (fun x hx => Nat.lt_trans (wf_lt hw x hx) (by decide)) (by omega)]
    rw [h29, if_pos rfl, hth, sbind] at hstart
    by_cases em : t ∈ a.2.2.1
    · rw [if_pos em, if_neg (by decide)] at hstart
      rw [hstart, if_pos (Or.inr em)]; exact bad _
    · rw [if_neg em, if_pos rfl, up_self h29] at hstart
      rw [if_neg (by rw [not_or]; exact ⟨t2, em⟩)]
      obtain ⟨ρ3, hρ3⟩ : ∃ ρ3, ρ3 = up (up ρ 122 (10 + a.2.2.1.length) (nI t)) 122 1 (nI (a.2.2.1.length + 1)) := ⟨_, rfl⟩
      have f3 : TF ρ ρ3 := by rw [hρ3]; exact (tf_122 _ _).tr (tf_122 _ _)
      have h120 : ρ3 120 = ρ 120 := by rw [hρ3, up_ne _ _ _ (by decide), up_ne _ _ _ (by decide)]
      have hr3 : MRow (ρ3 122) (a.1, a.2.1, a.2.2.1 ++ [t], a.2.2.2) := by
        rw [hρ3, up_at, up_at]; exact mrow_gapp hr h12
      obtain ⟨ρ5, q1, q2, q3, q4, q5⟩ := goes_ok hl hb ((hf.tr f3).tm hp) (i := lnd tp (skp tp e)) (was := 1) (by omega) (by decide) (by rw [h120]; exact t3) (by rw [h120, t4]; rfl)
      have hset : X11_readsSet ρ x1 = some ρ5 := by
        have hv : up ρ 122 (10 + a.2.2.1.length) (nI t) 122 1 = nI a.2.2.1.length := by
          rw [up_at]; unfold upd; rw [if_neg (by omega)]; exact h1221
        rw [hstart, X11_readsSet_J62, h29, if_pos rfl, h1221, show (10 : Int32) = nI 10 from rfl, nI_add, ckA_n (by omega) (by omega), ncl (by omega), hv, nI_1, ← hρ3, q1, sbind]
      obtain ⟨ρ6, v1, v2⟩ := end_m hl hb (x := lnd tp (skp tp e)) he2 hp ((hf.tr f3).tr q5) q2 (by rw [q3, h120, h29]) (by rw [q4]; exact hr3)
      exact ⟨ρ5, ρ6, hset, v1, v2⟩
  · rw [t5, sbind] at hstart
    dsimp only at hstart
    rw [w29, if_neg (by decide), up_up] at hstart
    rw [hstart]
    by_cases hblk : blkAt tp e = true
    · rw [if_pos hblk]
      rcases g0 with g | g | g
      · rw [hblk] at g; exact absurd g (by decide)
      · rw [g]; exact bad y
      · rw [g]
        dsimp only
        rw [if_pos (Or.inl rfl)]; exact bad y
    · have hsk : skp tp e = e := by
        apply Classical.byContradiction
        intro hn
        exact hblk (blk_skp.mpr hn)
      rw [if_neg hblk]
      have := bad y
      rw [hsk] at this
      exact this
theorem pts_m {π ρ : Wd} {tp : List Nat} (hl : tp.length ≤ 300) (hb : ∀ x ∈ tp, x < 256) {a : St} {e : Nat} (he : e ≤ 300) (hp : TM π tp) (hf : TF π ρ) (hk : TK tp (!blkAt tp e) (skp tp e) ρ) (h29 : ρ 120 29 = 0) (hr : MRow (ρ 122) a) : ∃ ρ2, ((X11_needsNumber ρ 1 7).bind fun (t19, σ20) => X11_readsOne_J69 (up σ20 122 0 t19)) = some ρ2 ∧ MO π tp (ptsO tp a e) ρ2 := by
  have hs := skp_le hl (i := e) (by omega)
  have hnum := num_m hb hk h29 (lo := 1) (hi := 7) (by omega) (by omega)
  rw [Bool.not_not] at hnum
  rw [show (1 : Int32) = nI 1 from rfl, show (7 : Int32) = nI 7 from rfl]
  unfold ptsO
  by_cases b1 : blkAt tp e = true
  · rw [if_pos b1]
    by_cases b2 : digAt tp 1 7 (skp tp e) = true
    · rw [if_pos b2]
      have b2' := b2
      simp only [digAt, Bool.and_eq_true, decide_eq_true_eq] at b2'
      have hsp : tspot tp (skp tp e) = skp tp e + 1 := by
        have hnl : ltr (tp.getD (skp tp e) 0) = false := by
          cases hh : ltr (tp.getD (skp tp e) 0)
          · rfl
          · simp only [ltr, Bool.and_eq_true, decide_eq_true_eq] at hh; omega
        rw [tspot, if_pos b2'.1, hnl, if_neg (by decide)]
      have htk : ttok tp (!blkAt tp e) (skp tp e) = 2 := ttok_2.mpr ⟨by simp only [digAt, Bool.and_eq_true, decide_eq_true_eq]; omega, by rw [b1]; rfl⟩
      obtain ⟨ρ7, u1, u2, u3, u4, u5⟩ := goes_ok hl hb (hf.tm hp) (i := skp tp e + 1) (was := 2) (by omega) (by decide) (by rw [hk.1, hsp]) (by rw [hk.2.1, htk])
      rw [b2, b1, if_pos (by decide), u1, sbind] at hnum
      rw [hnum, sbind]
      dsimp only
      have hr7 : MRow (up ρ7 122 0 (nI (tp.getD (skp tp e) 0 - 48)) 122) (tp.getD (skp tp e) 0 - 48, a.2.1, a.2.2.1, a.2.2.2) := by
        rw [up_at, u4]
        obtain ⟨k0, k1, k2, k3, k4, k5, k6⟩ := hr
        have ev : ∀ j, j ≠ 0 → upd (ρ 122) 0 (nI (tp.getD (skp tp e) 0 - 48)) j = ρ 122 j := fun j hj => if_neg hj
        exact ⟨k0, if_pos rfl, by rw [ev _ (by decide)]; exact k2, by rw [ev _ (by decide)]; exact k3, fun p hp => by rw [ev _ (by omega)]; exact k4 p hp, fun i hi => by rw [ev _ (by omega)]; exact k5 i hi, fun i hi => by rw [ev _ (by omega)]; exact k6 i hi⟩
      exact end_m hl hb (x := skp tp e + 1) (by omega) hp ((hf.tr u5).tr (tf_122 _ _)) (tk_122 u2 _ _) (by rw [up_ne _ _ _ (by decide), u3, h29]) hr7
    · have b2' : digAt tp 1 7 (skp tp e) = false := by simpa using b2
      rw [if_neg b2]
      rw [b2', Bool.false_and, if_neg (by decide)] at hnum
      rw [hnum, sbind]
      dsimp only
      exact wrong_m (tp := tp) (f := skp tp e) ((hf.tr (tf_up (i := 29) (by omega) 1)).tr (tf_122 0 (nI 1))) (by rw [up_ne _ _ _ (by decide), up120, if_pos rfl]) (by rw [up_ne _ _ _ (by decide), up120, if_neg (by decide)]; exact hk.2.2.1)
  · have b1' : blkAt tp e = false := by simpa using b1
    rw [if_neg b1]
    rw [b1', Bool.and_false, if_neg (by decide)] at hnum
    have hsk : skp tp e = e := by
      apply Classical.byContradiction
      intro hn
      exact b1 (blk_skp.mpr hn)
    rw [hnum, sbind]
    dsimp only
    exact wrong_m (tp := tp) (f := e) ((hf.tr (tf_up (i := 29) (by omega) 1)).tr (tf_122 0 (nI 1))) (by rw [up_ne _ _ _ (by decide), up120, if_pos rfl]) (by rw [up_ne _ _ _ (by decide), up120, if_neg (by decide), hk.2.2.1, hsk])
theorem clause_m {π ρ : Wd} {tp : List Nat} (hl : tp.length ≤ 300) (hb : ∀ x ∈ tp, x < 256) {a : St} (hw : wf a) {p : Nat} (hpl : p < tp.length) (hwl : WL π) (hp : TM π tp) (hf : TF π ρ) (hk : TK tp false p ρ) (h29 : ρ 120 29 = 0) (hr : MRow (ρ 122) a) (first : Bool) : ∃ ρ', X11_readsOne ρ (bI first) = some ρ' ∧ MO π tp (clO tp first a p) ρ' := by
  have he := lnd_T (tp := tp) (p := p) (by omega)
  have hge := run_ge ltr tp p
  have h27 := hk.2.2.1
  have hgo : ∀ w, w < 3 → isW tp w p (lnd tp p) = true → ∃ ρ1, X11_goesOn ρ = some ρ1 ∧ TK tp (!blkAt tp (lnd tp p)) (skp tp (lnd tp p)) ρ1 ∧ ρ1 120 29 = 0 ∧ MRow (ρ1 122) a ∧ TF π ρ1 := by
    intro w hw' hisw
    have hwpos : 0 < (Wd_ w).length := (by decide : ∀ w, w < 3 → 0 < (Wd_ w).length) w hw'
    rw [isW, Bool.and_eq_true, decide_eq_true_eq] at hisw
    have e1 : ltr (tp.getD p 0) = true := (ltr_in (tp := tp) (s := p) (Nat.le_refl _) (by omega)).2 |> fun h => by
      unfold ltr; rw [decide_eq_true h.1, decide_eq_true h.2]; rfl
    obtain ⟨ρ1, q1, q2, q3, q4, q5⟩ := goes_ok hl hb (hf.tm hp) (i := lnd tp p) (was := 1) (by omega) (by decide) (by rw [hk.1, tspot, if_pos hpl, if_pos e1]) (by rw [hk.2.1, ttok_1.mpr ⟨⟨hpl, e1⟩, rfl⟩])
    rw [glu_blk (Or.inl rfl)] at q2
    exact ⟨ρ1, q1, q2, by rw [q3, h29], by rw [q4]; exact hr, hf.tr q5⟩
  have hT : ∀ w, w < 3 → X11_takesWord ρ (nI w) = if isW tp w p (lnd tp p) = true then ((X11_goesOn ρ).bind fun σ8 => some (1, σ8)) else some (0, ρ) := fun w hw' => takesW_ok hl hb (hf.wl hwl) (hf.tm hp) hpl hk h29 hw'
  have hrest : ∃ ρ', X11_readsOne_J33 (nI p) ρ = some ρ' ∧ MO π tp (if isW tp 1 p (lnd tp p) = true then wgtO tp a (lnd tp p) else if (isW tp 2 p (lnd tp p) && decide (a.2.2.1.length < 12)) = true then setO tp a (lnd tp p) else Sum.inl p) ρ' := by
    rw [X11_readsOne_J33, show (1 : Int32) = nI 1 from rfl, hT 1 (by decide)]
    by_cases e1 : isW tp 1 p (lnd tp p) = true
    · obtain ⟨ρ1, q1, q2, q3, q4, q5⟩ := hgo 1 (by decide) e1
      obtain ⟨ρ2, ρ3, c1, c2, c3⟩ := wgt_m hl hb hw (by omega) hp q5 q2 q3 q4
      rw [if_pos e1, if_pos e1, q1, sbind, sbind]
      dsimp only
      exact ⟨ρ3, by rw [if_neg (by decide), c1, sbind, c2], c3⟩
    · rw [if_neg e1, if_neg e1, sbind]
      dsimp only
      rw [if_pos rfl, show (2 : Int32) = nI 2 from rfl, hT 2 (by decide)]
      by_cases e2 : isW tp 2 p (lnd tp p) = true
      · obtain ⟨ρ1, q1, q2, q3, q4, q5⟩ := hgo 2 (by decide) e2
        rw [if_pos e2, q1, sbind, sbind, e2, Bool.true_and]
        dsimp only
        rw [if_neg (show ¬ (1 : Int32) = 0 by decide)]
        by_cases e3 : a.2.2.1.length < 12
        · obtain ⟨ρ2, ρ3, c1, c2, c3⟩ := set_m hl hb hw e3 (by omega) (nI p) hp q5 q2 q3 q4
          rw [if_pos (show decide (a.2.2.1.length < 12) = true by simpa using e3)]
          exact ⟨ρ3, by rw [c1, sbind, c2], c3⟩
        · have h12 : a.2.2.1.length = 12 := by have := hw.2.2.1.1; omega
          have hs : X11_readsSet ρ1 (nI p) = some (up (up ρ1 120 27 (nI p)) 120 29 1) := by
            have : ρ1 122 1 = nI 12 := by rw [q4.2.2.1, h12]
            rw [X11_readsSet, this, if_pos (by decide)]
          rw [if_neg (show ¬ decide (a.2.2.1.length < 12) = true by simpa using e3), hs, sbind]
          exact wrong_m (tp := tp) (f := p) ((q5.tr (tf_up (by omega) _)).tr (tf_up (by omega) _)) (by rw [up120, if_pos rfl]) (by rw [up120, if_neg (by decide), up120, if_pos rfl])
      · have e2' : isW tp 2 p (lnd tp p) = false := by simpa using e2
        rw [if_neg e2, sbind, e2', Bool.false_and, if_neg (show ¬ (false = true) by decide)]
        dsimp only
        rw [if_pos rfl]
        exact wrong_m (tp := tp) (f := p) (hf.tr (tf_up (i := 29) (by omega) (nI 1))) (by rw [up120, if_pos rfl]; rfl) (by rw [up120, if_neg (by decide)]; exact h27)
  unfold clO
  rw [X11_readsOne, h27]
  cases first
  · rw [if_pos (show bI false = 0 from rfl), Bool.and_false, if_neg (show ¬ (false = true) by decide)]; exact hrest
  · rw [if_neg (show ¬ bI true = 0 by decide), Bool.and_true, show (0 : Int32) = nI 0 from rfl, hT 0 (by decide)]
    by_cases e0 : isW tp 0 p (lnd tp p) = true
    · obtain ⟨ρ1, q1, q2, q3, q4, q5⟩ := hgo 0 (by decide) e0
      rw [if_pos e0, if_pos e0, q1, sbind, sbind]
      dsimp only
      rw [if_neg (by decide)]
      exact pts_m hl hb (by omega) hp q5 q2 q3 q4
    · rw [if_neg e0, if_neg e0, sbind]
      dsimp only
      rw [if_pos nI_0.symm]; exact hrest
