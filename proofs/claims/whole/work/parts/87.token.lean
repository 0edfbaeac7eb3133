/-! the reference's tokens -/
def ttok (tp : List Nat) (g : Bool) (b : Nat) : Nat := if b < tp.length then (if ltr (tp.getD b 0) then (if g then 4 else 1) else if tp.getD b 0 = 59 then 3 else if (decide (48 ≤ tp.getD b 0) && decide (tp.getD b 0 ≤ 57)) = true then (if g then 4 else 2) else 4) else 0
def tspot (tp : List Nat) (b : Nat) : Nat := if b < tp.length then (if ltr (tp.getD b 0) then lnd tp b else b + 1) else b
def TM (ρ : Wd) (tp : List Nat) : Prop := ρ 120 23 = nI tp.length ∧ ∀ i, i < tp.length → ρ 138 i = nI (tp.getD i 0)
def TF (ρ ρ' : Wd) : Prop := (∀ j, (j < 25 ∨ 29 < j) → ρ' 120 j = ρ 120 j) ∧ ∀ q, q ≠ 120 → q ≠ 122 → ρ' q = ρ q
theorem TF.rf (ρ : Wd) : TF ρ ρ := ⟨fun _ _ => rfl, fun _ _ _ => rfl⟩
theorem TF.tr {ρ ρ1 ρ2 : Wd} (h : TF ρ ρ1) (h' : TF ρ1 ρ2) : TF ρ ρ2 := ⟨fun j hj => by rw [h'.1 j hj, h.1 j hj], fun q q1 q2 => by rw [h'.2 q q1 q2, h.2 q q1 q2]⟩
theorem TF.tm {ρ ρ' : Wd} {tp : List Nat} (h : TF ρ ρ') (ht : TM ρ tp) : TM ρ' tp := ⟨by rw [h.1 23 (by omega)]; exact ht.1, fun i hi => by rw [h.2 138 (by decide) (by decide)]; exact ht.2 i hi⟩
theorem TF.wl {ρ ρ' : Wd} (h : TF ρ ρ') (ht : WL ρ) : WL ρ' := fun i hi => by rw [h.2 139 (by decide) (by decide)]; exact ht i hi
theorem tf_up {ρ : Wd} {i : Nat} (hi : 25 ≤ i ∧ i ≤ 29) (x : Int32) : TF ρ (up ρ 120 i x) := ⟨fun j hj => by rw [up_at]; exact if_neg (by omega), fun q q1 _ => up_ne _ _ _ q1⟩
theorem here_ok {ρ : Wd} {tp : List Nat} (hl : tp.length ≤ 300) (ht : TM ρ tp) {i : Nat} (hi : i < 1000) (hs : ρ 120 25 = nI i) : X11_here ρ = some (if i < tp.length then nI (tp.getD i 0) else -1) := by
  rw [X11_here, ht.1, hs]
  by_cases e : i < tp.length
  · rw [if_neg (by rw [nle (by omega) (by omega)]; omega), ckA_n (by omega) (by omega), ncl (by omega), ht.2 i e, if_pos e]
  · rw [if_pos (by rw [nle (by omega) (by omega)]; omega), if_neg e]
theorem f_in1 : ∀ c, c < 256 → X11_in (nI c) 97 122 = bI (ltr c) ∧ X11_in (nI c) 48 57 = bI (decide (48 ≤ c) && decide (c ≤ 57)) ∧ (nI c = 32 ↔ c = 32) ∧ (nI c = 10 ↔ c = 10) ∧ (nI c = 59 ↔ c = 59) := by decide +kernel
theorem gskip_n {tp : List Nat} (hl : tp.length ≤ 300) (hb : ∀ x ∈ tp, x < 256) (kx : Wd → Option Wd) : ∀ (d i f : Nat) (ρ : Wd), tp.length - i ≤ d → d < f → i < 900 → TM ρ tp → ρ 120 25 = nI i → lp (X11_goesOn_B10 kx) f ρ = kx (up ρ 120 25 (nI (skp tp i)))
  | d, i, 0, ρ, h1, h2, h3, ht, hs => by omega
  | d, i, f + 1, ρ, h1, h2, h3, ht, hs => by
    show X11_goesOn_B10 kx (lp (X11_goesOn_B10 kx) f) ρ = _
    rw [X11_goesOn_B10, here_ok hl ht (by omega) hs, sbind, sbind, X11_goesOn_J28, hs, nI_1]
    by_cases e : i < tp.length
    · obtain ⟨-, -, c32, c10, -⟩ := f_in1 _ (byte_at hb e)
      rw [if_pos e]
      have hgo : blk (tp.getD i 0) = true → lp (X11_goesOn_B10 kx) f (up ρ 120 25 (nI (i + 1))) = kx (up ρ 120 25 (nI (skp tp i))) := fun hbk => by
        have tf := tf_up (ρ := ρ) (i := 25) (by omega) (nI (i + 1))
        cases d with
        | zero => omega
        | succ d => rw [gskip_n hl hb kx d (i + 1) f (up ρ 120 25 (nI (i + 1))) (by omega) (by omega) (by omega) (tf.tm ht) (by rw [up_at]; exact if_pos rfl), up_up, skp, skp, run_go e hbk]
      by_cases e1 : tp.getD i 0 = 32
      · rw [if_pos (c32.mpr e1), hgo (by rw [e1]; rfl)]
      · rw [if_neg (fun h => e1 (c32.mp h))]
        by_cases e2 : tp.getD i 0 = 10
        · rw [if_pos (c10.mpr e2), hgo (by rw [e2]; rfl)]
        · rw [if_neg (fun h => e2 (c10.mp h)), skp, run_st (fun h => by
            have h2 := h.2
            rw [blk, Bool.or_eq_true, beq_iff_eq, beq_iff_eq] at h2
            rcases h2 with h | h
            · exact e1 h
            · exact e2 h), up_self hs]
    · rw [if_neg e, if_neg (by decide), if_neg (by decide), skp, run_st (fun h => e h.1), up_self hs]
theorem glet_n {tp : List Nat} (hl : tp.length ≤ 300) (hb : ∀ x ∈ tp, x < 256) (kx : Wd → Option Wd) : ∀ (d i f : Nat) (ρ : Wd), tp.length - i ≤ d → d < f → i < 900 → TM ρ tp → ρ 120 25 = nI i → lp (X11_goesOn_B105 kx) f ρ = kx (up ρ 120 25 (nI (lnd tp i)))
  | d, i, 0, ρ, h1, h2, h3, ht, hs => by omega
  | d, i, f + 1, ρ, h1, h2, h3, ht, hs => by
    show X11_goesOn_B105 kx (lp (X11_goesOn_B105 kx) f) ρ = _
    rw [X11_goesOn_B105, here_ok hl ht (by omega) hs, sbind, hs, nI_1]
    by_cases e : i < tp.length
    · obtain ⟨cl, -⟩ := f_in1 _ (byte_at hb e)
      rw [if_pos e, cl]
      by_cases e1 : ltr (tp.getD i 0) = true
      · rw [e1, if_neg (by decide)]
        have tf := tf_up (ρ := ρ) (i := 25) (by omega) (nI (i + 1))
        cases d with
        | zero => omega
        | succ d => rw [glet_n hl hb kx d (i + 1) f (up ρ 120 25 (nI (i + 1))) (by omega) (by omega) (by omega) (tf.tm ht) (by rw [up_at]; exact if_pos rfl), up_up, lnd, lnd, run_go e e1]
      · rw [show ltr (tp.getD i 0) = false by simpa using e1, if_pos (by decide), lnd, run_st (fun h => e1 h.2), up_self hs]
    · rw [if_neg e, if_pos (by decide), lnd, run_st (fun h => e h.1), up_self hs]
/-- the next token stands -/
def TK (tp : List Nat) (g : Bool) (b : Nat) (ρ : Wd) : Prop := ρ 120 25 = nI (tspot tp b) ∧ ρ 120 26 = nI (ttok tp g b) ∧ ρ 120 27 = nI b ∧ ((b < tp.length ∧ ltr (tp.getD b 0) = false) → ρ 120 28 = nI (tp.getD b 0) - 48)
def glu (was i b : Nat) : Bool := decide (b = i) && (decide (was = 1) || decide (was = 2))
theorem up120 (ρ : Wd) (i : Nat) (x : Int32) (j : Nat) : up ρ 120 i x 120 j = if j = i then x else ρ 120 j := by rw [up_at]; rfl
theorem goes_ok {ρ : Wd} {tp : List Nat} (hl : tp.length ≤ 300) (hb : ∀ x ∈ tp, x < 256) (ht : TM ρ tp) {i was : Nat} (hi : i < 800) (hw : was < 5) (hs : ρ 120 25 = nI i) (h26 : ρ 120 26 = nI was) : ∃ ρ', X11_goesOn ρ = some ρ' ∧ TK tp (glu was i (skp tp i)) (skp tp i) ρ' ∧ ρ' 120 29 = ρ 120 29 ∧ ρ' 122 = ρ 122 ∧ TF ρ ρ' := by
  obtain ⟨b, hbd⟩ : ∃ b, b = skp tp i := ⟨_, rfl⟩
  have hble : b ≤ 800 := by have := run_le blk tp i; rw [hbd]; unfold skp; omega
  rw [← hbd]
  obtain ⟨ρ1, hρ1⟩ : ∃ ρ1, ρ1 = up (up ρ 120 25 (nI b)) 120 27 (nI b) := ⟨_, rfl⟩
  have f1 : TF ρ ρ1 := by rw [hρ1]; exact (tf_up (by omega) _).tr (tf_up (by omega) _)
  have s25 : ρ1 120 25 = nI b := by rw [hρ1, up120, if_neg (by decide), up120, if_pos rfl]
  have s27 : ρ1 120 27 = nI b := by rw [hρ1, up120, if_pos rfl]
  have s29 : ρ1 120 29 = ρ 120 29 := by rw [hρ1, up120, if_neg (by decide), up120, if_neg (by decide)]
  have s122 : ρ1 122 = ρ 122 := by rw [hρ1, up_ne _ _ _ (by decide), up_ne _ _ _ (by decide)]
  have hJ : ∀ g : Bool, ∃ ρ', X11_goesOn_J73 (bI g) ρ1 = some ρ' ∧ TK tp g b ρ' ∧ ρ' 120 29 = ρ 120 29 ∧ ρ' 122 = ρ 122 ∧ TF ρ ρ' := by
    intro g
    rw [X11_goesOn_J73, here_ok hl (f1.tm ht) (by omega) s25, sbind]
    by_cases e : b < tp.length
    · obtain ⟨cl, cd, -, -, c59⟩ := f_in1 _ (byte_at hb e)
      rw [if_pos e, if_neg (m1_ne _ (by have := byte_at hb e; omega)), cl]
      by_cases e1 : ltr (tp.getD b 0) = true
      · rw [e1, if_neg (by decide), glet_n hl hb _ tp.length b FU ρ1 (by omega) (by show _ < 4096; omega) (by omega) (f1.tm ht) s25, X11_goesOn_T132]
        refine ⟨up (up ρ1 120 25 (nI (lnd tp b))) 120 26 (nI (if g then 4 else 1)), ?_, ⟨?_, ?_, ?_, fun hh => by rw [e1] at hh; exact absurd hh.2 (by decide)⟩, ?_, ?_, (f1.tr (tf_up (by omega) _)).tr (tf_up (by omega) _)⟩
        · cases g <;> rfl
        · rw [up120, if_neg (by decide), up120, if_pos rfl, tspot, if_pos e, if_pos e1]
        · rw [up120, if_pos rfl, ttok, if_pos e, if_pos e1]
        · rw [up120, if_neg (by decide), up120, if_neg (by decide), s27]
        · rw [up120, if_neg (by decide), up120, if_neg (by decide), s29]
        · rw [up_ne _ _ _ (by decide), up_ne _ _ _ (by decide), s122]
      · have e1' : ltr (tp.getD b 0) = false := by simpa using e1
        rw [e1', if_pos (by decide), s25, nI_1]
        -- any token that is one sign
        have one : ∀ k : Nat, ttok tp g b = k → TK tp g b (up (up (up ρ1 120 25 (nI (b + 1))) 120 28 (nI (tp.getD b 0) - 48)) 120 26 (nI k)) ∧ up (up (up ρ1 120 25 (nI (b + 1))) 120 28 (nI (tp.getD b 0) - 48)) 120 26 (nI k) 120 29 = ρ 120 29 ∧ up (up (up ρ1 120 25 (nI (b + 1))) 120 28 (nI (tp.getD b 0) - 48)) 120 26 (nI k) 122 = ρ 122 ∧ TF ρ (up (up (up ρ1 120 25 (nI (b + 1))) 120 28 (nI (tp.getD b 0) - 48)) 120 26 (nI k)) := by
          intro k hk
          refine ⟨⟨?_, ?_, ?_, fun _ => ?_⟩, ?_, ?_, ((f1.tr (tf_up (by omega) _)).tr (tf_up (by omega) _)).tr (tf_up (by omega) _)⟩
          · rw [up120, if_neg (by decide), up120, if_neg (by decide), up120, if_pos rfl, tspot, if_pos e, e1', if_neg (by decide)]
          · rw [up120, if_pos rfl, hk]
          · rw [up120, if_neg (by decide), up120, if_neg (by decide), up120, if_neg (by decide), s27]
          · rw [up120, if_neg (by decide), up120, if_pos rfl]
          · rw [up120, if_neg (by decide), up120, if_neg (by decide), up120, if_neg (by decide), s29]
          · rw [up_ne _ _ _ (by decide), up_ne _ _ _ (by decide), up_ne _ _ _ (by decide), s122]
        by_cases e2 : tp.getD b 0 = 59
        · rw [if_pos (c59.mpr e2)]
          exact ⟨_, rfl, one 3 (by rw [ttok, if_pos e, e1', if_neg (by decide), if_pos e2])⟩
        · rw [if_neg (fun h => e2 (c59.mp h)), cd]
          cases e3 : decide (48 ≤ tp.getD b 0) && decide (tp.getD b 0 ≤ 57)
          · rw [if_pos (show bI false = 0 from rfl)]
            exact ⟨_, rfl, one 4 (by rw [ttok, if_pos e, e1', if_neg (by decide), if_neg e2, e3, if_neg (by decide)])⟩
          · rw [if_neg (show ¬ bI true = 0 by decide)]
            cases g
            · rw [if_pos (show bI false = 0 from rfl)]
              exact ⟨_, rfl, one 2 (by rw [ttok, if_pos e, e1', if_neg (by decide), if_neg e2, e3, if_pos rfl, if_neg (by decide)])⟩
            · rw [if_neg (show ¬ bI true = 0 by decide)]
              exact ⟨_, rfl, one 4 (by rw [ttok, if_pos e, e1', if_neg (by decide), if_neg e2, e3, if_pos rfl, if_pos rfl])⟩
    · rw [if_neg e, if_pos rfl]
      refine ⟨up ρ1 120 26 0, rfl, ⟨?_, ?_, ?_, fun hh => absurd hh.1 e⟩, ?_, ?_, f1.tr (tf_up (by omega) _)⟩
      · rw [up120, if_neg (by decide), s25, tspot, if_neg e]
      · rw [up120, if_pos rfl, ttok, if_neg e]; rfl
      · rw [up120, if_neg (by decide), s27]
      · rw [up120, if_neg (by decide), s29]
      · rw [up_ne _ _ _ (by decide), s122]
  have hgo : X11_goesOn ρ = X11_goesOn_T41 (nI i) (nI was) (up ρ 120 25 (nI b)) := by
    rw [X11_goesOn, h26, hs]
    dsimp only [lett]
    rw [gskip_n hl hb _ tp.length i FU ρ (by omega) (by show _ < 4096; omega) (by omega) ht hs, ← hbd]
  have h25 : up ρ 120 25 (nI b) 120 25 = nI b := by rw [up120, if_pos rfl]
  rw [hgo, X11_goesOn_T41, h25, ← hρ1, s27, glu]
  by_cases e : b = i
  · rw [if_pos (by rw [e]), decide_eq_true e, Bool.true_and]
    by_cases e1 : was = 1
    · rw [if_pos (by rw [e1]; rfl), e1]
      exact hJ true
    · rw [if_neg (by rw [show (1 : Int32) = nI 1 from rfl, neq (by omega) (by omega)]; exact e1), decide_eq_false e1]
      by_cases e2 : was = 2
      · rw [if_pos (by rw [e2]; rfl), e2]
        exact hJ true
      · rw [if_neg (by rw [show (2 : Int32) = nI 2 from rfl, neq (by omega) (by omega)]; exact e2), decide_eq_false e2]
        exact hJ false
  · rw [if_neg (by rw [neq (by omega) (by omega)]; exact e), decide_eq_false e, Bool.false_and]
    exact hJ false
