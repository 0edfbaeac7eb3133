/-! sets and whole texts, as the class reads them -/
theorem lset_none {tp : List Nat} {n s k : Nat} (h : lsetK tp n s k = none) : ∀ d, lsetK tp n s (k + d) = none
  | 0 => h
  | d + 1 => by rw [← Nat.add_assoc, lsetK, lset_none h d]
theorem set_loop {σ τ : Wd} {tp : List Nat} (hl : tp.length ≤ 300) (hb : ∀ x ∈ tp, x < 256) {a : St} (hw : wf a) {s p : Nat} (hp : p ≤ 310) (h : RS σ tp a p τ) (hs : s ≤ 310) (kx : Int32 → Wd → Option Wd) : ∀ (d k g t : Nat), lnd tp s - s = k + d → d + 400 < g → lsetK tp a.1 s k = some t → (∃ t', lsetK tp a.1 s (lnd tp s - s) = some t' ∧ lp (X3_readSet_B20 (nI (lnd tp s)) (nI s) kx) g (nI t, nI (s + k), τ) = kx (nI t') τ) ∨ (lsetK tp a.1 s (lnd tp s - s) = none ∧ ∃ x τ', WK σ tp s 400 τ' ∧ lp (X3_readSet_B20 (nI (lnd tp s)) (nI s) kx) g (nI t, nI (s + k), τ) = kx x τ')
  | d, k, 0, t, h1, h2, h3 => by omega
  | 0, k, g + 1, t, h1, h2, h3 => by
    have hge := run_ge ltr tp s
    have hle := lnd_le hl hs
    left
    refine ⟨t, by rw [h1]; exact h3, ?_⟩
    show X3_readSet_B20 (nI (lnd tp s)) (nI s) kx _ (nI t, nI (s + k), τ) = _
    rw [X3_readSet_B20, if_pos (by rw [nle (by omega) (by omega)]; unfold lnd at *; omega)]
  | d + 1, k, g + 1, t, h1, h2, h3 => by
    have hge := run_ge ltr tp s
    have hle := lnd_le hl hs
    have h7 := hw.1.2
    have hg := hw.2.2.1.1
    have hi : s + k < lnd tp s := by unfold lnd at *; omega
    obtain ⟨i1, i2, i3⟩ := ltr_in (tp := tp) (s := s) (j := s + k) (by omega) hi
    have ht := lset_lt k t h3
    have ht8 : t < 128 := by have := p2_le h7; omega
    have h73 : τ 7 3 = nI a.1 := h.2.2.1.2.2.2
    obtain ⟨f1, f2⟩ := h.fail hg s
    have hsucc : lsetK tp a.1 s (k + 1) = if a.1 ≤ tp.getD (s + k) 0 - 97 ∨ t.testBit (tp.getD (s + k) 0 - 97) = true then none else some (t ||| 2 ^ (tp.getD (s + k) 0 - 97)) := by rw [lsetK, h3]
    have hbad : lsetK tp a.1 s (k + 1) = none → (lsetK tp a.1 s (lnd tp s - s) = none ∧ ∃ x τ', WK σ tp s 400 τ' ∧ X3_readSet_J62 (lp (X3_readSet_B20 (nI (lnd tp s)) (nI s) kx) g) (nI s) (nI t) (nI (s + k)) τ = kx x τ') := by
      intro hn
      refine ⟨by rw [h1, show k + (d + 1) = k + 1 + d by omega]; exact lset_none hn d, ?_⟩
      obtain ⟨x', hx'⟩ := wset_loop (σ := σ) (tp := tp) hl (f := s) (by omega) (t2 := lnd tp s) (by omega) (nI s) kx 400 (s + k + 1) g (nI t) (up τ 89 3 (nI s)) (by omega) (by omega) (by omega) (f2.mono (by omega))
      exact ⟨x', _, f2.mono (by omega), by rw [X3_readSet_J62, f1, X3_readSet_J77, nI_1, hx']⟩
    have hB : lp (X3_readSet_B20 (nI (lnd tp s)) (nI s) kx) (g + 1) (nI t, nI (s + k), τ) = (if a.1 ≤ tp.getD (s + k) 0 - 97 then X3_readSet_J62 (lp (X3_readSet_B20 (nI (lnd tp s)) (nI s) kx) g) (nI s) (nI t) (nI (s + k)) τ else (if ((nI t >>> (nI (tp.getD (s + k) 0 - 97) &&& 31)) &&& 1) = 1 then X3_readSet_J62 (lp (X3_readSet_B20 (nI (lnd tp s)) (nI s) kx) g) (nI s) (nI t) (nI (s + k)) τ else (lp (X3_readSet_B20 (nI (lnd tp s)) (nI s) kx) g) (nI t ||| (1 <<< (nI (tp.getD (s + k) 0 - 97) &&& 31)), nI (s + (k + 1)), τ))) := by
      show X3_readSet_B20 (nI (lnd tp s)) (nI s) kx _ (nI t, nI (s + k), τ) = _
      rw [X3_readSet_B20, if_neg (by rw [nle (by omega) (by omega)]; omega), row87 h.2.2.2.1 hl, sbind, atv_i hl (by omega), if_pos i1, let_c _ (by omega) i2, h73]
      dsimp only [lett]
      rw [X3_readSet_J77, nI_1]
      by_cases c1 : a.1 ≤ tp.getD (s + k) 0 - 97
      · rw [if_pos (by rw [nle (by omega) (by omega)]; exact c1), if_pos c1]
      · rw [if_neg (by rw [nle (by omega) (by omega)]; exact c1), if_neg c1]; rfl
    rw [hB]
    by_cases c1 : a.1 ≤ tp.getD (s + k) 0 - 97
    · rw [if_pos c1]
      exact Or.inr (hbad (by rw [hsucc, if_pos (Or.inl c1)]))
    · rw [if_neg c1, f_bit t ht8 _ (by omega)]
      by_cases c2 : t.testBit (tp.getD (s + k) 0 - 97) = true
      · rw [if_pos c2, if_pos (by decide)]
        exact Or.inr (hbad (by rw [hsucc, if_pos (Or.inr c2)]))
      · rw [if_neg c2, if_neg (by decide), f_shl _ (by omega), f_or t ht8 _ (f_pow_lt (by omega))]
        exact set_loop hl hb hw hp h hs kx d (k + 1) g _ (by omega) (by omega) (by rw [hsucc, if_neg (by rw [not_or]; exact ⟨c1, c2⟩)])
theorem set_c {σ τ : Wd} {tp : List Nat} (hl : tp.length ≤ 300) (hb : ∀ x ∈ tp, x < 256) {a : St} (hw : wf a) (h12 : a.2.2.1.length < 12) {e : Nat} (he : e ≤ 300) (h : RS σ tp a e τ) : ∃ τ1 τ2, X3_readSet τ = some τ1 ∧ X3_expectEnd τ1 = some τ2 ∧ CO σ tp (setO tp a e) τ2 := by
  have hg := hw.2.2.1.1
  have h7 := hw.1.2
  have hp2 := p2_le h7
  unfold setO
  have hs := skp_le hl (i := e) (by omega)
  have he2 := lnd_le hl hs
  have hge := run_ge ltr tp (skp tp e)
  rcases rs_gap hl hb hg (by omega) h with ⟨b1, τ1, t1, t2⟩ | ⟨b1, τ1, t1, t2⟩
  · rw [if_pos b1]
    have hend := lendC hl hb (i := skp tp e) (by omega) t2.2.2.2.1
    have hrw : X3_readSet τ = lp (X3_readSet_B20 (nI (lnd tp (skp tp e))) (nI (skp tp e)) (X3_readSet_T83 (nI (skp tp e)) (nI (lnd tp (skp tp e))))) FU (0, nI (skp tp e), τ1) := by
      rw [X3_readSet, t1, sbind, t2.1, hend, sbind]; rfl
    rcases set_loop hl hb hw hs t2 hs (X3_readSet_T83 (nI (skp tp e)) (nI (lnd tp (skp tp e)))) (lnd tp (skp tp e) - skp tp e) 0 FU 0 (by omega) (by show _ < 4096; unfold lnd at *; omega) rfl with ⟨t, d1, d2⟩ | ⟨d1, x, τ', d2, d3⟩
    · rw [Nat.add_zero, nI_0] at d2
      rw [hrw, d2, d1]
      dsimp only
      have ht := lset_lt _ t d1
      obtain ⟨f1, f2⟩ := t2.fail hg (skp tp e)
      have hbad : ∃ τ1' τ2, X3_readSet_J102 (nI (skp tp e)) (nI (lnd tp (skp tp e))) (nI t) τ1 = some τ1' ∧ X3_expectEnd τ1' = some τ2 ∧ CO σ tp (Sum.inl (skp tp e)) τ2 := by
        obtain ⟨τ5, g1, g2⟩ := wk_app ((f2.mono (K' := 400) (by omega)).pos (p' := lnd tp (skp tp e)) (K' := 400) (by omega)) (nI t)
        obtain ⟨τ6, g3, g4⟩ := wkend_c hl hb (by omega) g2 (by omega)
        exact ⟨τ5, τ6, by rw [X3_readSet_J102, f1, X3_readSet_J107, g1, sbind], g3, g4⟩
      rw [X3_readSet_T83]
      by_cases e0 : t = 0
      · rw [if_pos (by rw [e0]; exact nI_0), if_pos (Or.inl e0)]; exact hbad
      · obtain ⟨v, v1, v2⟩ := row_find (r := 8) t2.2.2.1.1 (by exact hg) (by decide) (fun x hx => Nat.lt_trans (wf_lt hw x hx) (by decide)) (s := t) (by omega)
        rw [if_neg (nI_ne0 (by omega) (by omega)), v1, sbind]
        by_cases e1 : t ∈ a.2.2.1
        · rw [if_neg (fun hh => v2.mp hh e1), if_pos (Or.inr e1)]; exact hbad
        · rw [if_pos (v2.mpr e1), if_neg (by rw [not_or]; exact ⟨e0, e1⟩), X3_readSet_J107]
          have t3 := t2.pos (lnd tp (skp tp e))
          obtain ⟨r1, r2, r3, r4, r5⟩ := t3
          obtain ⟨τ5, g1, g2, g3⟩ := row_append (r := 8) r3.1 (by rw [show kLn (8 + 1) = 12 from rfl]; exact h12) (by decide) t
          have h3 : RS σ tp (a.1, a.2.1, a.2.2.1 ++ [t], a.2.2.2) (lnd tp (skp tp e)) τ5 := ⟨by rw [g3 89 (by simp)]; exact r1, by rw [g3 89 (by simp)]; exact r2, ⟨g2, r3.2.1.cg (g3 10 (by simp)) (g3 11 (by simp)), fun p hp => by rw [g3 12 (by simp)]; exact r3.2.2.1 p hp, by rw [g3 7 (by simp)]; exact r3.2.2.2⟩, r4.cg (g3 87 (by simp)) (g3 88 (by simp)), (r5.tr g3).mono (by simp [RP])⟩
          obtain ⟨τ6, x1, x2⟩ := end_c (a := (a.1, a.2.1, a.2.2.1 ++ [t], a.2.2.2)) (p := lnd tp (skp tp e)) hl hb (by simp; omega) he2 h3
          exact ⟨τ5, τ6, by rw [g1, sbind], x1, x2⟩
    · rw [Nat.add_zero, nI_0] at d3
      rw [hrw, d3, d1]
      dsimp only
      exact wset_tail hl hb (by omega) (by omega) x d2
  · rw [b1, if_neg (by decide)]
    obtain ⟨p, p1, p2⟩ := t2.1
    have hend := lendC hl hb (i := p) (by omega) t2.2.2.2.1
    have hle := run_le ltr tp p
    obtain ⟨x', hx'⟩ := wset_loop (σ := σ) (tp := tp) hl (f := e) (by omega) (t2 := lnd tp p) (by unfold lnd; omega) (nI p) (X3_readSet_T83 (nI p) (nI (lnd tp p))) 400 p FU 0 τ1 (by unfold lnd; omega) (by show 400 < 4096; omega) p1 t2
    have hrw : X3_readSet τ = X3_readSet_T83 (nI p) (nI (lnd tp p)) x' τ1 := by
      rw [X3_readSet, t1, sbind, p2, hend, sbind]
      exact hx'
    rw [hrw]
    exact wset_tail hl hb (by omega) (by unfold lnd; omega) x' t2
theorem lnd_T {tp : List Nat} {p : Nat} (h : p ≤ tp.length) : lnd tp p ≤ tp.length := by
  have := run_le ltr tp p; unfold lnd; omega
theorem clause_c {σ τ : Wd} {tp : List Nat} (hl : tp.length ≤ 300) (hb : ∀ x ∈ tp, x < 256) {a : St} (hw : wf a) {p : Nat} (hp : p ≤ tp.length) (h : RS σ tp a p τ) (first : Bool) : ∃ τ', X3_readClause τ (bI first) = some τ' ∧ CO σ tp (clO tp first a p) τ' := by
  have hg := hw.2.2.1.1
  have he := lnd_T hp
  have hge := run_ge ltr tp p
  have h1 := h.pos (lnd tp p)
  have hW : ∀ w, w < 3 → X3_isWord (up τ 89 2 (nI (lnd tp p))) (nI p) (nI (lnd tp p)) w = some (bI (isW tp w p (lnd tp p))) := fun w hw => isWC hl hb h1.2.2.2.1 hw hge he
  have h81 : up τ 89 2 (nI (lnd tp p)) 8 1 = nI a.2.2.1.length := h1.2.2.1.1.1
  rw [X3_readClause, h.1, lendC hl hb (by omega) h.2.2.2.1, sbind, hW 0 (by decide), sbind]
  have hrest : ∃ τ', X3_readClause_J38 (nI p) (nI (lnd tp p)) (up τ 89 2 (nI (lnd tp p))) = some τ' ∧ CO σ tp (if isW tp 1 p (lnd tp p) = true then wgtO tp a (lnd tp p) else if (isW tp 2 p (lnd tp p) && decide (a.2.2.1.length < 12)) = true then setO tp a (lnd tp p) else Sum.inl p) τ' := by
    rw [X3_readClause_J38, hW 1 (by decide), sbind, hW 2 (by decide), sbind, h81]
    have t0 : bI false = 0 := rfl
    have t1 : ¬ bI true = 0 := by decide
    have tf : ¬ (false = true) := by decide
    cases e1 : isW tp 1 p (lnd tp p)
    · rw [if_pos t0, if_neg tf]
      obtain ⟨f1, f2⟩ := h1.fail hg p
      have hbad : ∃ τ', X3_readClause_J89 (nI p) (up τ 89 2 (nI (lnd tp p))) = some τ' ∧ CO σ tp (Sum.inl p) τ' := by
        obtain ⟨τ6, g3, g4⟩ := wkend_c hl hb (by omega) f2 (by omega)
        exact ⟨τ6, by rw [X3_readClause_J89, f1, g3, sbind], g4⟩
      cases e2 : isW tp 2 p (lnd tp p)
      · rw [if_pos t0, Bool.false_and, if_neg tf]; exact hbad
      · rw [if_neg t1, Bool.true_and]
        have hc : (12 : Int32) ≤ nI a.2.2.1.length ↔ 12 ≤ a.2.2.1.length := by rw [show (12 : Int32) = nI 12 from rfl, nle (by omega) (by omega)]
        by_cases e3 : a.2.2.1.length < 12
        · rw [if_neg (show ¬ (12 : Int32) ≤ nI a.2.2.1.length from fun hh => by have := hc.mp hh; omega), if_pos (show decide (a.2.2.1.length < 12) = true by simpa using e3)]
          obtain ⟨τ1, τ2, c1, c2, c3⟩ := set_c hl hb hw e3 (by omega) h1
          exact ⟨τ2, by rw [c1, sbind, c2, sbind], c3⟩
        · rw [if_pos (show (12 : Int32) ≤ nI a.2.2.1.length from hc.mpr (by omega)), if_neg (show ¬ decide (a.2.2.1.length < 12) = true by simpa using e3)]; exact hbad
    · rw [if_neg t1, if_pos rfl]
      obtain ⟨τ1, τ2, c1, c2, c3⟩ := wgt_c hl hb hw (by omega) h1
      exact ⟨τ2, by rw [c1, sbind, c2, sbind], c3⟩
  have t0 : bI false = 0 := rfl
  have t1 : ¬ bI true = 0 := by decide
  have tf : ¬ (false = true) := by decide
  unfold clO
  cases e0 : isW tp 0 p (lnd tp p)
  · rw [if_pos t0, Bool.false_and, if_neg tf]; exact hrest
  · rw [if_neg t1, Bool.true_and]
    cases first
    · rw [if_pos t0, if_neg tf]; exact hrest
    · rw [if_neg t1, if_pos rfl]
      obtain ⟨τ1, τ2, c1, c2, c3⟩ := pts_c hl hb hg (by omega) h1
      exact ⟨τ2, by rw [c1, sbind, c2, sbind], c3⟩
/-! all clauses -/
theorem endO_gt {tp : List Nat} {a a' : St} {p p' : Nat} (h : endO tp a p = Sum.inr (p', a')) : p < p' ∧ a' = a := by
  unfold endO at h
  have := run_ge blk tp p
  by_cases e : endAt tp (skp tp p) = true
  · rw [if_pos e] at h
    have := Sum.inr.inj h
    have h1 := (Prod.mk.inj this).1
    have h2 := (Prod.mk.inj this).2
    unfold skp at h1
    exact ⟨by omega, h2.symm⟩
  · rw [if_neg e] at h; exact absurd h (by simp)
theorem clO_ok {tp : List Nat} (hb : ∀ x ∈ tp, x < 256) {first : Bool} {a a' : St} {p p' : Nat} (hw : wf a) (hf : first = true → a.2.2.1 = [] ∧ a.2.2.2 = []) (ht : a.2.2.2 = []) (h : clO tp first a p = Sum.inr (p', a')) : p < p' ∧ wf a' ∧ a'.2.2.2 = [] := by
  have g1 := run_ge ltr tp p
  have g2 := run_ge blk tp (lnd tp p)
  have g3 := run_ge ltr tp (skp tp (lnd tp p))
  have g4 := run_ge blk tp (lnd tp (skp tp (lnd tp p)))
  unfold clO at h
  by_cases e0 : (isW tp 0 p (lnd tp p) && first) = true
  · rw [if_pos e0, ptsO] at h
    rw [Bool.and_eq_true] at e0
    obtain ⟨hg0, ht0⟩ := hf e0.2
    by_cases b1 : blkAt tp (lnd tp p) = true
    · rw [if_pos b1] at h
      by_cases b2 : digAt tp 1 7 (skp tp (lnd tp p)) = true
      · rw [if_pos b2] at h
        obtain ⟨h1, h2⟩ := endO_gt h
        simp only [digAt, Bool.and_eq_true, decide_eq_true_eq] at b2
        refine ⟨by unfold lnd skp at *; omega, ?_, by rw [h2]; exact ht0⟩
        rw [h2]
        exact ⟨⟨by show 1 ≤ tp.getD (skp tp (lnd tp p)) 0 - 48; omega, by show tp.getD (skp tp (lnd tp p)) 0 - 48 ≤ 7; omega⟩, hw.2.1, ⟨by show a.2.2.1.length ≤ 12; rw [hg0]; decide, by show ∀ g ∈ a.2.2.1, _; rw [hg0]; simp, hw.2.2.1.2.2⟩, ⟨hw.2.2.2.1, by show ∀ g ∈ a.2.2.2, _; rw [ht0]; simp, hw.2.2.2.2.2⟩⟩
      · rw [if_neg b2] at h; exact absurd h (by simp)
    · rw [if_neg b1] at h; exact absurd h (by simp)
  · rw [if_neg e0] at h
    by_cases e1 : isW tp 1 p (lnd tp p) = true
    · rw [if_pos e1, wgtO] at h
      by_cases b1 : blkAt tp (lnd tp p) = true
      · rw [if_pos b1] at h
        by_cases b2 : lnd tp (skp tp (lnd tp p)) = skp tp (lnd tp p) + 1 ∧ tp.getD (skp tp (lnd tp p)) 0 - 97 < a.1
        · rw [if_pos b2] at h
          by_cases b3 : blkAt tp (lnd tp (skp tp (lnd tp p))) = true
          · rw [if_pos b3] at h
            by_cases b4 : digAt tp 0 9 (skp tp (lnd tp (skp tp (lnd tp p)))) = true
            · rw [if_pos b4] at h
              obtain ⟨h1, h2⟩ := endO_gt h
              simp only [digAt, Bool.and_eq_true, decide_eq_true_eq] at b4
              refine ⟨by unfold lnd skp at *; omega, ?_, by rw [h2]; exact ht⟩
              rw [h2]
              refine ⟨hw.1, ⟨by simpa using hw.2.1.1, fun w hwm => ?_⟩, hw.2.2.1, hw.2.2.2⟩
              rcases List.mem_or_eq_of_mem_set hwm with hm | hm
              · exact hw.2.1.2 w hm
              · rw [hm]; omega
            · rw [if_neg b4] at h; exact absurd h (by simp)
          · rw [if_neg b3] at h; exact absurd h (by simp)
        · rw [if_neg b2] at h; exact absurd h (by simp)
      · rw [if_neg b1] at h; exact absurd h (by simp)
    · rw [if_neg e1] at h
      by_cases e2 : (isW tp 2 p (lnd tp p) && decide (a.2.2.1.length < 12)) = true
      · rw [if_pos e2, setO] at h
        rw [Bool.and_eq_true, decide_eq_true_eq] at e2
        by_cases b1 : blkAt tp (lnd tp p) = true
        · rw [if_pos b1] at h
          cases hk : lsetK tp a.1 (skp tp (lnd tp p)) (lnd tp (skp tp (lnd tp p)) - skp tp (lnd tp p)) with
          | none => rw [hk] at h; exact absurd h (by simp)
          | some t =>
            rw [hk] at h
            dsimp only at h
            have ht2 := lset_lt _ t hk
            by_cases b2 : t = 0 ∨ t ∈ a.2.2.1
            · rw [if_pos b2] at h; exact absurd h (by simp)
            · rw [if_neg b2] at h
              rw [not_or] at b2
              obtain ⟨h1, h2⟩ := endO_gt h
              refine ⟨by unfold lnd skp at *; omega, ?_, by rw [h2]; exact ht⟩
              rw [h2]
              exact wf_gapp hw b2.1 ht2 b2.2 e2.2
        · rw [if_neg b1] at h; exact absurd h (by simp)
      · rw [if_neg e2] at h; exact absurd h (by simp)
def rdO (tp : List Nat) : Nat → Bool → St → Nat → Sum Nat St
  | 0, _, a, _ => Sum.inr a
  | k + 1, first, a, p => if tp.length ≤ p then Sum.inr a else match clO tp first a p with
    | Sum.inl f => Sum.inl f
    | Sum.inr (p', a') => rdO tp k false a' (skp tp p')
theorem read_n {σ : Wd} {tp : List Nat} (hl : tp.length ≤ 300) (hb : ∀ x ∈ tp, x < 256) : ∀ (k g c p : Nat) (first : Bool) (a : St) (τ : Wd), tp.length - p < k → k < g → c ≤ p → p ≤ 400 → wf a → (first = true → a.2.2.1 = [] ∧ a.2.2.2 = []) → a.2.2.2 = [] → RS σ tp a p τ → (∃ f τ', rdO tp k first a p = Sum.inl f ∧ f < 1000 ∧ lp X3_read_B25 g (bI first, nI c, τ) = some (nI f, τ') ∧ RowR τ' 87 tp ∧ Fr σ τ' RP) ∨ (∃ a' p' τ', rdO tp k first a p = Sum.inr a' ∧ wf a' ∧ a'.2.2.2 = [] ∧ lp X3_read_B25 g (bI first, nI c, τ) = some (-1, τ') ∧ RS σ tp a' p' τ')
  | 0, g, c, p, first, a, τ, h1, h2, h3, h4, hw, hf, ht, h => by omega
  | k + 1, 0, c, p, first, a, τ, h1, h2, h3, h4, hw, hf, ht, h => by omega
  | k + 1, g + 1, c, p, first, a, τ, h1, h2, h3, h4, hw, hf, ht, h => by
    rw [rdO]
    have hlp : lp X3_read_B25 (g + 1) (bI first, nI c, τ) = X3_read_B25 (lp X3_read_B25 g) (bI first, nI c, τ) := rfl
    by_cases e : tp.length ≤ p
    · right
      refine ⟨a, p, τ, by rw [if_pos e], hw, ht, ?_, h⟩
      rw [hlp, X3_read_B25, h.2.1, if_pos rfl, h.1, h.2.2.2.1.1, if_pos (show nI tp.length ≤ nI p by rw [nle (by omega) (by omega)]; exact e)]
      by_cases e2 : (300 : Int32) ≤ nI c
      · rw [if_pos e2]
      · rw [if_neg e2]
    · rw [if_neg e]
      obtain ⟨τ6, c1, c2⟩ := clause_c hl hb hw (by omega) h first
      have hbody : lp X3_read_B25 (g + 1) (bI first, nI c, τ) = (X3_skipGap τ6).bind fun σ7 => lp X3_read_B25 g (0, nI (c + 1), σ7) := by
        rw [hlp, X3_read_B25, if_neg (by rw [show (300 : Int32) = nI 300 from rfl, nle (by omega) (by omega)]; omega), h.2.1, if_pos rfl, h.1, h.2.2.2.1.1, if_neg (by rw [nle (by omega) (by omega)]; exact e), c1, sbind, nI_1]
      rcases c2 with ⟨f, d1, d2, d3⟩ | ⟨p', a', d1, d2⟩
      · left
        obtain ⟨τ7, s1, s2⟩ := wk_skip hl hb d3 (by omega) (by omega)
        refine ⟨f, τ7, by rw [d1], d2, ?_, s2.2.2.2.1, s2.2.2.2.2⟩
        rw [hbody, s1, sbind]
        obtain ⟨g', rfl⟩ : ∃ g', g = g' + 1 := ⟨g - 1, by omega⟩
        show X3_read_B25 _ (0, nI (c + 1), τ7) = _
        rw [X3_read_B25, s2.2.1, if_neg (m1_ne f (by omega))]
        by_cases e2 : (300 : Int32) ≤ nI (c + 1)
        · rw [if_pos e2]
        · rw [if_neg e2]
      · obtain ⟨q1, q2, q3⟩ := clO_ok hb hw hf ht d1
        have hp' : p' ≤ 310 := by
          -- no further than one behind the end
          unfold clO at d1
          have hend : ∀ (x : St) (y : Nat), endO tp x y = Sum.inr (p', a') → p' ≤ 310 := fun x y hh => by
            unfold endO at hh
            by_cases e3 : endAt tp (skp tp y) = true
            · rw [if_pos e3] at hh
              have := (Prod.mk.inj (Sum.inr.inj hh)).1
              simp only [endAt, Bool.and_eq_true, decide_eq_true_eq] at e3
              omega
            · rw [if_neg e3] at hh; exact absurd hh (by simp)
          by_cases b0 : (isW tp 0 p (lnd tp p) && first) = true
          · rw [if_pos b0, ptsO] at d1
            by_cases b1 : blkAt tp (lnd tp p) = true
            · rw [if_pos b1] at d1
              by_cases b2 : digAt tp 1 7 (skp tp (lnd tp p)) = true
              · rw [if_pos b2] at d1; exact hend _ _ d1
              · rw [if_neg b2] at d1; exact absurd d1 (by simp)
            · rw [if_neg b1] at d1; exact absurd d1 (by simp)
          · rw [if_neg b0] at d1
            by_cases b3 : isW tp 1 p (lnd tp p) = true
            · rw [if_pos b3, wgtO] at d1
              by_cases b1 : blkAt tp (lnd tp p) = true
              · rw [if_pos b1] at d1
                by_cases b2 : lnd tp (skp tp (lnd tp p)) = skp tp (lnd tp p) + 1 ∧ tp.getD (skp tp (lnd tp p)) 0 - 97 < a.1
                · rw [if_pos b2] at d1
                  by_cases b4 : blkAt tp (lnd tp (skp tp (lnd tp p))) = true
                  · rw [if_pos b4] at d1
                    by_cases b5 : digAt tp 0 9 (skp tp (lnd tp (skp tp (lnd tp p)))) = true
                    · rw [if_pos b5] at d1; exact hend _ _ d1
                    · rw [if_neg b5] at d1; exact absurd d1 (by simp)
                  · rw [if_neg b4] at d1; exact absurd d1 (by simp)
                · rw [if_neg b2] at d1; exact absurd d1 (by simp)
              · rw [if_neg b1] at d1; exact absurd d1 (by simp)
            · rw [if_neg b3] at d1
              by_cases b6 : (isW tp 2 p (lnd tp p) && decide (a.2.2.1.length < 12)) = true
              · rw [if_pos b6, setO] at d1
                by_cases b1 : blkAt tp (lnd tp p) = true
                · rw [if_pos b1] at d1
                  cases hk : lsetK tp a.1 (skp tp (lnd tp p)) (lnd tp (skp tp (lnd tp p)) - skp tp (lnd tp p)) with
                  | none => rw [hk] at d1; exact absurd d1 (by simp)
                  | some t =>
                    rw [hk] at d1
                    dsimp only at d1
                    by_cases b2 : t = 0 ∨ t ∈ a.2.2.1
                    · rw [if_pos b2] at d1; exact absurd d1 (by simp)
                    · rw [if_neg b2] at d1; exact hend _ _ d1
                · rw [if_neg b1] at d1; exact absurd d1 (by simp)
              · rw [if_neg b6] at d1; exact absurd d1 (by simp)
        have hsk := run_ge blk tp p'
        have hsl := skp_le hl hp'
        have hih := read_n (σ := σ) hl hb k g (c + 1) (skp tp p') false a' (up τ6 89 2 (nI (skp tp p'))) (by unfold skp at *; omega) (by omega) (by unfold skp at *; omega) (by omega) q2 (by simp) q3 (d2.pos _)
        rw [hbody, skipC hl hb (by omega) d2.2.2.2.1 d2.1, sbind, d1]
        exact hih
