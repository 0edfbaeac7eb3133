/-! weights and sets, as the class reads them -/
theorem ltr_in {tp : List Nat} {s j : Nat} (h1 : s ≤ j) (h2 : j < lnd tp s) : j < tp.length ∧ 97 ≤ tp.getD j 0 ∧ tp.getD j 0 ≤ 122 := by
  have := run_in (P := ltr) tp.length s j (by omega) h1 h2
  simp only [ltr, Bool.and_eq_true, decide_eq_true_eq] at this
  exact ⟨this.1, this.2.1, this.2.2⟩
theorem let_c : ∀ c, c < 256 → 97 ≤ c → nI c - 97 = nI (c - 97) := by decide +kernel
theorem wgt_c {σ τ : Wd} {tp : List Nat} (hl : tp.length ≤ 300) (hb : ∀ x ∈ tp, x < 256) {a : St} (hw : wf a) {e : Nat} (he : e ≤ 300) (h : RS σ tp a e τ) : ∃ τ1 τ2, X3_readWeight τ = some τ1 ∧ X3_expectEnd τ1 = some τ2 ∧ CO σ tp (wgtO tp a e) τ2 := by
  have hg := hw.2.2.1.1
  have h7 := hw.1.2
  unfold wgtO
  have hs := skp_le hl (i := e) (by omega)
  have he2 := lnd_le hl hs
  have hge := run_ge ltr tp (skp tp e)
  -- a weak rest
  have weak : ∀ (f : Nat) (y2 : Nat) (y3 : Int32) (ς : Wd), f < 1000 → y2 ≤ 310 → WK σ tp f 400 ς → ∃ τ1 τ2, X3_readWeight_J50 (nI y2) y3 ς = some τ1 ∧ X3_expectEnd τ1 = some τ2 ∧ CO σ tp (Sum.inl f) τ2 := by
    intro f y2 y3 ς hf hy hwk
    obtain ⟨τ5, g1, g2⟩ := wk_gap hl hb hf (hwk.pos (p' := y2) (K' := 400) (by omega)) (by omega) (by omega)
    obtain ⟨d, τ7, g3, g4⟩ := wk_dig hl hf g2 0 9
    obtain ⟨τ8, g5, g6⟩ := wk_setW g4 y3 d
    obtain ⟨τ9, g7, g8⟩ := wkend_c hl hb hf g6 (by omega)
    exact ⟨τ8, τ9, by rw [X3_readWeight_J50, g1, sbind, g3, sbind]; show (X7_setWeight τ7 7 y3 d).bind _ = _; rw [g5, sbind], g7, g8⟩
  rcases rs_gap hl hb hg (by omega) h with ⟨b1, τ1, t1, t2⟩ | ⟨b1, τ1, t1, t2⟩
  · rw [if_pos b1]
    have hend := lendC hl hb (i := skp tp e) (by omega) t2.2.2.2.1
    have hat := row87 t2.2.2.2.1 hl (nI (skp tp e))
    have h73 : τ1 7 3 = nI a.1 := t2.2.2.1.2.2.2
    have hrw : X3_readWeight τ = (if nI (lnd tp (skp tp e)) = nI (skp tp e + 1) then (if (atv tp (nI (skp tp e)) - 97) < nI a.1 then X3_readWeight_J50 (nI (lnd tp (skp tp e))) (atv tp (nI (skp tp e)) - 97) τ1 else X3_readWeight_J45 (nI (skp tp e)) (nI (lnd tp (skp tp e))) (atv tp (nI (skp tp e)) - 97) τ1) else X3_readWeight_J45 (nI (skp tp e)) (nI (lnd tp (skp tp e))) (atv tp (nI (skp tp e)) - 97) τ1) := by
      rw [X3_readWeight, t1, sbind, t2.1, hend, sbind, hat, sbind, nI_1, h73]
    have bad : ∃ τ1' τ2, X3_readWeight_J45 (nI (skp tp e)) (nI (lnd tp (skp tp e))) (atv tp (nI (skp tp e)) - 97) τ1 = some τ1' ∧ X3_expectEnd τ1' = some τ2 ∧ CO σ tp (Sum.inl (skp tp e)) τ2 := by
      obtain ⟨f1, f2⟩ := t2.fail hg (skp tp e)
      rw [X3_readWeight_J45, f1]
      exact weak _ _ _ _ (by omega) he2 (f2.mono (by omega))
    by_cases e1 : lnd tp (skp tp e) = skp tp e + 1
    · have hin := ltr_in (tp := tp) (s := skp tp e) (Nat.le_refl _) (by omega)
      have hpt : atv tp (nI (skp tp e)) - 97 = nI (tp.getD (skp tp e) 0 - 97) := by
        rw [atv_i hl (by omega), if_pos hin.1, let_c _ (by omega) hin.2.1]
      rw [if_pos (by rw [e1]), hpt] at hrw
      by_cases e2 : tp.getD (skp tp e) 0 - 97 < a.1
      · rw [if_pos (by rw [nlt (by omega) (by omega)]; exact e2)] at hrw
        rw [if_pos ⟨e1, e2⟩]
        have t3 := t2.pos (lnd tp (skp tp e))
        rcases rs_gap hl hb hg he2 t3 with ⟨c1, τ5, u1, u2⟩ | ⟨c1, τ5, u1, u2⟩
        · rw [if_pos c1]
          have hs2 := skp_le hl he2
          rcases rs_dig hl hb hg hs2 u2 (Or.inr ⟨rfl, rfl⟩) with ⟨d1, τ7, v1, v2⟩ | ⟨d1, d, τ7, v1, v2⟩
          · rw [if_pos d1]
            obtain ⟨r1, r2, r3, r4, r5⟩ := v2
            obtain ⟨τ8, w1, w2, w3⟩ := st_setWeight rfl r3 hw.2.1.1 (p := tp.getD (skp tp e) 0 - 97) (by omega) (tp.getD (skp tp (lnd tp (skp tp e))) 0 - 48)
            have hle : skp tp (lnd tp (skp tp e)) < tp.length := by unfold digAt at d1; simp at d1; exact d1.1
            have h3 : RS σ tp (a.1, a.2.1.set (tp.getD (skp tp e) 0 - 97) (tp.getD (skp tp (lnd tp (skp tp e))) 0 - 48), a.2.2.1, a.2.2.2) (skp tp (lnd tp (skp tp e)) + 1) τ8 := ⟨by rw [w3 89 (by simp)]; exact r1, by rw [w3 89 (by simp)]; exact r2, w2, r4.cg (w3 87 (by simp)) (w3 88 (by simp)), (r5.tr w3).mono (by simp [RP])⟩
            obtain ⟨τ9, x1, x2⟩ := end_c (a := (a.1, a.2.1.set (tp.getD (skp tp e) 0 - 97) (tp.getD (skp tp (lnd tp (skp tp e))) 0 - 48), a.2.2.1, a.2.2.2)) (p := skp tp (lnd tp (skp tp e)) + 1) hl hb hg (by omega) h3
            refine ⟨τ8, τ9, ?_, x1, x2⟩
            rw [hrw, X3_readWeight_J50, u1, sbind, show (0 : Int32) = nI 0 from rfl, show (9 : Int32) = nI 9 from rfl, v1, sbind]
            show (X7_setWeight τ7 7 _ _).bind _ = _
            rw [w1, sbind]
          · rw [d1, if_neg (by decide)]
            obtain ⟨τ8, g5, g6⟩ := wk_setW v2 (nI (tp.getD (skp tp e) 0 - 97)) d
            obtain ⟨τ9, g7, g8⟩ := wkend_c hl hb (by omega) g6 (by omega)
            refine ⟨τ8, τ9, ?_, g7, g8⟩
            rw [hrw, X3_readWeight_J50, u1, sbind, show (0 : Int32) = nI 0 from rfl, show (9 : Int32) = nI 9 from rfl, v1, sbind]
            show (X7_setWeight τ7 7 _ _).bind _ = _
            rw [g5, sbind]
        · rw [c1, if_neg (by decide)]
          obtain ⟨d, τ7, g3, g4⟩ := wk_dig hl (by omega) u2 0 9
          obtain ⟨τ8, g5, g6⟩ := wk_setW g4 (nI (tp.getD (skp tp e) 0 - 97)) d
          obtain ⟨τ9, g7, g8⟩ := wkend_c hl hb (by omega) g6 (by omega)
          refine ⟨τ8, τ9, ?_, g7, g8⟩
          rw [hrw, X3_readWeight_J50, u1, sbind, g3, sbind]
          show (X7_setWeight τ7 7 _ _).bind _ = _
          rw [g5, sbind]
      · rw [if_neg (by rw [nlt (by omega) (by omega)]; exact e2), ← hpt] at hrw
        rw [if_neg (fun hh => e2 hh.2), hrw]; exact bad
    · rw [if_neg (by rw [neq (by omega) (by omega)]; exact e1)] at hrw
      rw [if_neg (fun hh => e1 hh.1), hrw]; exact bad
  · rw [b1, if_neg (by decide)]
    obtain ⟨p, p1, p2⟩ := t2.1
    have hend := lendC hl hb (i := p) (by omega) t2.2.2.2.1
    have hle := run_le ltr tp p
    have hat := row87 t2.2.2.2.1 hl (nI p)
    have hJ : ∃ τ1' τ2, X3_readWeight_J50 (nI (lnd tp p)) (atv tp (nI p) - 97) τ1 = some τ1' ∧ X3_expectEnd τ1' = some τ2 ∧ CO σ tp (Sum.inl e) τ2 := by
      obtain ⟨τ5, g1, g2⟩ := wk_gap hl hb (by omega) (t2.pos (p' := lnd tp p) (K' := 400) (by unfold lnd; omega)) (by omega) (by omega)
      obtain ⟨d, τ7, g3, g4⟩ := wk_dig hl (by omega) g2 0 9
      obtain ⟨τ8, g5, g6⟩ := wk_setW g4 (atv tp (nI p) - 97) d
      obtain ⟨τ9, g7, g8⟩ := wkend_c hl hb (by omega) g6 (by omega)
      exact ⟨τ8, τ9, by rw [X3_readWeight_J50, g1, sbind, g3, sbind]; show (X7_setWeight τ7 7 _ d).bind _ = _; rw [g5, sbind], g7, g8⟩
    rw [X3_readWeight, t1, sbind, p2, hend, sbind, hat, sbind, X3_readWeight_J45, t2.fail (by omega)]
    by_cases c1 : nI (lnd tp p) = nI p + 1
    · rw [if_pos c1]
      by_cases c2 : atv tp (nI p) - 97 < τ1 7 3
      · rw [if_pos c2]; exact hJ
      · rw [if_neg c2]; exact hJ
    · rw [if_neg c1]; exact hJ
theorem find_tot {τ : Wd} {L : Nat} (h : τ 8 1 = nI L) (hL : L ≤ 12) (x : Int32) : ∃ v, X4_find τ 8 x = some v := by
  unfold X4_find
  refine lp_q (body := X4_find_B2 τ 8 x) (fun k s => s = nI k) L (fun r => ∃ v, r = some v) nI_0.symm (by omega) (fun k s hk hi => ?_) (fun s hi => ?_)
  · subst hi
    have hB : ∀ rec, X4_find_B2 τ 8 x rec (nI k) = if τ 9 k = x then some (nI k) else rec (nI (k + 1)) := fun rec => by
      rw [X4_find_B2, h, if_neg (by rw [nle (by omega) (by omega)]; omega), show kLn (8 + 1) = 12 from rfl, if_neg (by rw [nle (by omega) (by omega)]; omega), ckA_n (by omega) (by omega), ncl (by omega), nI_1]
    by_cases e : τ 9 k = x
    · right; exact ⟨_, ⟨_, rfl⟩, fun rec => by rw [hB, if_pos e]⟩
    · left; exact ⟨_, rfl, fun rec => by rw [hB, if_neg e]⟩
  · subst hi
    exact ⟨_, ⟨-1, rfl⟩, fun rec => by rw [X4_find_B2, h, if_pos (by rw [nle (by omega) (by omega)]; omega)]⟩
theorem wk_app {σ τ : Wd} {tp : List Nat} {f K : Nat} (h : WK σ tp f K τ) (x : Int32) : ∃ τ', X4_append τ 8 x = some τ' ∧ WK σ tp f K τ' := by
  obtain ⟨⟨p, p1, p2⟩, h2, ⟨L, l1, l2⟩, h4, h5⟩ := h
  have hk : kLn (8 + 1) = 12 := rfl
  rw [X4_append, l2, if_neg (nneg (by omega)), hk]
  by_cases e : 12 ≤ L
  · exact ⟨τ, by rw [if_pos (by rw [nle (by omega) (by omega)]; exact e)], ⟨p, p1, p2⟩, h2, ⟨L, l1, l2⟩, h4, h5⟩
  · have h81 : up τ (8 + 1) L x 8 1 = nI L := by rw [up_ne _ _ _ (by decide)]; exact l2
    refine ⟨_, by rw [if_neg (by rw [nle (by omega) (by omega)]; exact e), ckA_n (by omega) (by omega), ncl (by omega), h81, nI_1], ⟨p, p1, ?_⟩, ?_, ⟨L + 1, by omega, ?_⟩, h4.cg ?_ ?_, ((h5.tr (Fr.up (ps := RP) (by simp [RP]))).tr (Fr.up (ps := RP) (by simp [RP]))).mono (by simp [RP])⟩
    · rw [up_ne _ _ _ (by decide), up_ne _ _ _ (by decide)]; exact p2
    · rw [up_ne _ _ _ (by decide), up_ne _ _ _ (by decide)]; exact h2
    · rw [up_at]; exact if_pos rfl
    · rw [up_ne _ _ _ (by decide), up_ne _ _ _ (by decide)]
    · rw [up_ne _ _ _ (by decide), up_ne _ _ _ (by decide)]
theorem lset_lt {tp : List Nat} {n s : Nat} : ∀ (k t : Nat), lsetK tp n s k = some t → t < 2 ^ n
  | 0, t, h => by
    simp only [lsetK, Option.some.injEq] at h
    rw [← h]; exact p2_pos n
  | k + 1, t, h => by
    rw [lsetK] at h
    cases hk : lsetK tp n s k with
    | none => rw [hk] at h; exact absurd h (by simp)
    | some t0 =>
      rw [hk] at h
      dsimp only at h
      by_cases e : n ≤ tp.getD (s + k) 0 - 97 ∨ t0.testBit (tp.getD (s + k) 0 - 97) = true
      · rw [if_pos e] at h; exact absurd h (by simp)
      · rw [if_neg e] at h
        have h1 := lset_lt k t0 hk
        rw [← Option.some.inj h]
        exact Nat.or_lt_two_pow h1 (Nat.pow_lt_pow_right (by decide) (by omega))
theorem wset_tail {σ τ : Wd} {tp : List Nat} (hl : tp.length ≤ 300) (hb : ∀ x ∈ tp, x < 256) {f : Nat} (hf : f < 1000) {t2 t3 : Nat} (ht2 : t2 ≤ 400) (x : Int32) (h : WK σ tp f 400 τ) : ∃ τ1 τ2, X3_readSet_T83 (nI t3) (nI t2) x τ = some τ1 ∧ X3_expectEnd τ1 = some τ2 ∧ CO σ tp (Sum.inl f) τ2 := by
  obtain ⟨L, l1, l2⟩ := h.2.2.1
  obtain ⟨v, v1⟩ := find_tot l2 l1 x
  obtain ⟨τ5, g1, g2⟩ := wk_app (h.pos (p' := t2) (K' := 400) ht2) x
  obtain ⟨τ6, g3, g4⟩ := wkend_c hl hb hf g2 (by omega)
  have hJ : X3_readSet_J107 (nI t2) x τ = some τ5 := by rw [X3_readSet_J107, g1, sbind]
  have hJ2 : X3_readSet_J102 (nI t3) (nI t2) x τ = some τ5 := by rw [X3_readSet_J102, h.fail hf, hJ]
  refine ⟨τ5, τ6, ?_, g3, g4⟩
  rw [X3_readSet_T83, v1, sbind, hJ, hJ2]
  by_cases e : x = 0
  · rw [if_pos e]
  · rw [if_neg e]
    by_cases e2 : v = -1
    · rw [if_pos e2]
    · rw [if_neg e2]
theorem wset_loop {σ : Wd} {tp : List Nat} (hl : tp.length ≤ 300) {f : Nat} (hf : f < 1000) {t2 : Nat} (ht2 : t2 ≤ 400) (t3 : Int32) (kx : Int32 → Wd → Option Wd) : ∀ (d i g : Nat) (x : Int32) (τ : Wd), t2 - i ≤ d → d < g → i ≤ 400 → WK σ tp f 400 τ → ∃ x', lp (X3_readSet_B20 (nI t2) t3 kx) g (x, nI i, τ) = kx x' τ
  | d, i, 0, x, τ, h1, h2, h3, h => by omega
  | d, i, g + 1, x, τ, h1, h2, h3, h => by
    show ∃ x', X3_readSet_B20 (nI t2) t3 kx (lp (X3_readSet_B20 (nI t2) t3 kx) g) (x, nI i, τ) = kx x' τ
    rw [X3_readSet_B20]
    by_cases e : t2 ≤ i
    · exact ⟨x, by rw [if_pos (by rw [nle (by omega) (by omega)]; exact e)]⟩
    · rw [if_neg (by rw [nle (by omega) (by omega)]; exact e), row87 h.2.2.2.1 hl, sbind, X3_readSet_J62, h.fail hf, X3_readSet_J77, nI_1]
      dsimp only [lett]
      rw [X3_readSet_J77, nI_1]
      have ih := fun y => wset_loop hl hf ht2 t3 kx (d - 1) (i + 1) g y τ (by omega) (by omega) (by omega) h
      by_cases c1 : τ 7 3 ≤ atv tp (nI i) - 97
      · rw [if_pos c1]; exact ih x
      · rw [if_neg c1]
        by_cases c2 : ((x >>> ((atv tp (nI i) - 97) &&& 31)) &&& 1) = 1
        · rw [if_pos c2]; exact ih x
        · rw [if_neg c2]; exact ih _
