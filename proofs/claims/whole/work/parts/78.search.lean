/-! couples: the search -/
theorem lp_skip {S C : Type} {body : (S → Option C) → S → Option C} (at_ : Nat → S) : ∀ m, (∀ k, k < m → ∀ rec, body rec (at_ k) = rec (at_ (k + 1))) → ∀ f, lp body (f + m) (at_ 0) = lp body f (at_ m)
  | 0, _, _ => rfl
  | m + 1, h, f => by
    rw [show f + (m + 1) = (f + 1) + m by omega, lp_skip at_ m (fun k hk => h k (by omega)) (f + 1)]
    show body (lp body f) (at_ m) = _
    rw [h m (by omega)]
theorem cnt2 {p : Nat → Bool} {N u : Nat} (h0 : p 0 = false) (hu : p u = false) (h1 : 0 < u) (h2 : u < N) : (List.range N).countP p + 2 ≤ N := by
  have e1 := countP_upd (p := p) (p' := fun t => if t = u then true else p t) (u := u) hu (by simp) (fun t ht => by simp [ht]) N
  have e2 := countP_upd (p := fun t => if t = u then true else p t) (p' := fun t => if t = 0 then true else if t = u then true else p t) (u := 0) (by rw [if_neg (by omega)]; exact h0) (by simp) (fun t ht => by simp [ht]) N
  rw [if_pos h2] at e1
  rw [if_pos (show 0 < N by omega)] at e2
  have := List.countP_le_length (p := fun t => if t = 0 then true else if t = u then true else p t) (l := List.range N)
  rw [List.length_range] at this
  omega
def SIq (gs : List Nat) (L : Nat → Int32) (first : Nat) (σ π : Wd) (C : Nat → Int32) (qa d : Nat → Nat) (Q : Nat) (τ ρ : Wd) : Prop := SR (mems gs).length L C first Q qa d ∧ (∀ k, k < (mems gs).length → τ 110 k = C k ∧ ρ 132 k = C k) ∧ (∀ i, i < Q → τ 111 i = nI (qa i) ∧ ρ 133 i = nI (qa i)) ∧ Q = 1 + (List.range (mems gs).length).countP (fun b => decide (C b ≠ -1)) ∧ C 0 = -1 ∧ Fr σ τ [110, 111] ∧ Fr π ρ [132, 133]
def FoundQ (gs : List Nat) (L : Nat → Int32) (first : Nat) (σ π : Wd) (o1 o2 : Option (Int32 × Wd)) : Prop := ∃ b C qa d Q τ' ρ', o1 = some (nI b, τ') ∧ o2 = ((X11_turnsOver ρ' (nI b)).bind fun σ18 => some (1, σ18)) ∧ b < (mems gs).length ∧ C b ≠ -1 ∧ L b = -1 ∧ SR (mems gs).length L C first Q qa d ∧ Q ≤ 128 ∧ (∀ k, k < (mems gs).length → τ' 110 k = C k ∧ ρ' 132 k = C k) ∧ Fr σ τ' [110, 111] ∧ Fr π ρ' [132, 133]
theorem SIq.le {gs : List Nat} {L : Nat → Int32} {first : Nat} {σ π : Wd} {C : Nat → Int32} {qa d : Nat → Nat} {Q : Nat} {τ ρ : Wd} (h : SIq gs L first σ π C qa d Q τ ρ) (hp : 0 < (mems gs).length) : Q ≤ (mems gs).length := by
  obtain ⟨-, -, -, h4, h5, -⟩ := h
  have e1 := countP_upd (p := fun b => decide (C b ≠ -1)) (p' := fun t => if t = 0 then true else decide (C t ≠ -1)) (u := 0) (by simp [h5]) (by simp) (fun t ht => by simp [ht]) (mems gs).length
  rw [if_pos hp] at e1
  have := List.countP_le_length (p := fun t => if t = 0 then true else decide (C t ≠ -1)) (l := List.range (mems gs).length)
  rw [List.length_range] at this
  omega
theorem f_ins {gs : List Nat} {σ : Wd} (h : RowR σ 95 (mems gs)) {i j : Nat} (hi : i < (mems gs).length) (hj : j < (mems gs).length) : X6_isInside σ (nI i) (nI j) = some (if (mems gs)[i] &&& (mems gs)[j] = (mems gs)[i] then 1 else 0) := by
  have b1 := mem_at_lt hi
  have b2 := mem_at_lt hj
  have b3 := and_lt8 (b := 127 ^^^ (mems gs)[j]) b1
  rw [X6_isInside, mem_at h hi, sbind, mem_at h hj, sbind, f_andn _ b1 _ b2]
  by_cases e : (mems gs)[i] &&& (mems gs)[j] = (mems gs)[i]
  · rw [if_pos (by rw [(f_out _ b1 _ b2).mpr e]; exact nI_0), if_pos e]
  · rw [if_neg (nI_ne0 (Nat.pos_of_ne_zero (fun hh => e ((f_out _ b1 _ b2).mp hh))) (by omega)), if_neg e]
theorem search_in {gs : List Nat} {σ π : Wd} (hrow : RowR σ 95 (mems gs)) (hlay : LayR π gs) {G L : Nat → Int32} (hW : WM (mems gs).length G L) {first : Nat} (hf : G first = -1) (hA : AG (mems gs).length G L σ π) {C : Nat → Int32} {qa d : Nat → Nat} {Q h : Nat} {τ ρ : Wd} (hS : SIq gs L first σ π C qa d Q τ ρ) (hh : h < Q) {a : Nat} (ha : qa h = a) (kx1 kx2 : Int32 → Wd → Option (Int32 × Wd)) :
    (∃ C' qa' d' Q' τ' ρ', lp (X6_searchFrom_B47 (nI a) kx1) FU (nI Q, nI a + 1, τ) = kx1 (nI Q') τ' ∧ lp (X11_couples_B53 (nI a) kx2) FU (nI Q, 0, ρ) = kx2 (nI Q') ρ' ∧ SIq gs L first σ π C' qa' d' Q' τ' ρ' ∧ Q ≤ Q') ∨ FoundQ gs L first σ π (lp (X6_searchFrom_B47 (nI a) kx1) FU (nI Q, nI a + 1, τ)) (lp (X11_couples_B53 (nI a) kx2) FU (nI Q, 0, ρ)) := by
  have hl := mems_len gs
  have haN : a < (mems gs).length := ha ▸ hS.1.2.1 h hh
  have ha8 := k128 haN
  have hp : 0 < (mems gs).length := by omega
  -- the reference passes over what comes before
  have hlayρ : ∀ ρ', Fr π ρ' [132, 133] → LayR ρ' gs := fun ρ' f => hlay.cg (f 125 (by simp)) (f 126 (by simp)) (f 127 (by simp)) (by rw [f 120 (by simp)])
  have hpre : lp (X11_couples_B53 (nI a) kx2) FU (nI Q, 0, ρ) = lp (X11_couples_B53 (nI a) kx2) (FU - (a + 1)) (nI Q, nI (a + 1), ρ) := by
    have := lp_skip (body := X11_couples_B53 (nI a) kx2) (fun b => (nI Q, nI b, ρ)) (a + 1) (fun b hb rec => ?_) (FU - (a + 1))
    · rw [show FU - (a + 1) + (a + 1) = FU by unfold FU; omega] at this
      rw [← this, nI_0]
    · have lρ := hlayρ ρ hS.2.2.2.2.2.2
      have hbN : b < (mems gs).length := by omega
      have hb8 := k128 hbN
      rw [X11_couples_B53, if_neg (lay_go lρ hbN), X11_couples_J147, nI_1]
      by_cases e : a = b
      · rw [if_pos (by rw [e])]
      · rw [if_neg (by rw [neq (by omega) (by omega)]; exact e), ckA_n hb8 (by omega), ckA_n ha8 (by omega), ckA_n hb8 (by omega), ncl (by omega), ncl (by omega), lay_at lρ haN, lay_at lρ hbN, f_within _ (mem_at_lt haN) _ (mem_at_lt hbN)]
        have hnot : ¬ (mems gs)[a] &&& (mems gs)[b] = (mems gs)[a] := fun hin => by
          have := idx_order haN hbN ⟨hin, fun h => e ((List.getElem_inj (mems_nd gs)).mp h)⟩
          omega
        rw [if_neg hnot, if_pos rfl]
        by_cases e2 : ρ 132 b = -1
        · rw [if_pos e2]
        · rw [if_neg e2]
  rw [hpre, nI_1]
  refine lpp_n (b1 := X6_searchFrom_B47 (nI a) kx1) (b2 := X11_couples_B53 (nI a) kx2) (fun e x1 x2 => ∃ C qa d Q' τ ρ, x1 = (nI Q', nI (a + 1 + e), τ) ∧ x2 = (nI Q', nI (a + 1 + e), ρ) ∧ SIq gs L first σ π C qa d Q' τ ρ ∧ h < Q' ∧ qa h = a ∧ Q ≤ Q') ((mems gs).length - (a + 1)) (fun o1 o2 => (∃ C' qa' d' Q' τ' ρ', o1 = kx1 (nI Q') τ' ∧ o2 = kx2 (nI Q') ρ' ∧ SIq gs L first σ π C' qa' d' Q' τ' ρ' ∧ Q ≤ Q') ∨ FoundQ gs L first σ π o1 o2) (fun e x1 x2 rec1 rec2 he hi => ?_) (fun x1 x2 rec1 rec2 hi => ?_) ((mems gs).length - (a + 1)) 0 FU (FU - (a + 1)) _ _ (by omega) (by unfold FU; omega) (by unfold FU; omega) ⟨C, qa, d, Q, τ, ρ, rfl, rfl, hS, hh, ha, Nat.le_refl _⟩
  · obtain ⟨C, qa, d, Q', τ, ρ, rfl, rfl, hS, hh, ha, hQQ⟩ := hi
    obtain ⟨hi, hhi⟩ : ∃ hi, hi = a + 1 + e := ⟨_, rfl⟩
    rw [← hhi, show a + 1 + (e + 1) = hi + 1 by omega]
    have hiN : hi < (mems gs).length := by omega
    have hi8 := k128 hiN
    have hQ8 := hS.le hp
    obtain ⟨sr, sc, sq, s4, s5, f1, f2⟩ := hS
    have lρ := hlayρ ρ f2
    have rτ : RowR τ 95 (mems gs) := hrow.cg (f1 95 (by simp)) (f1 96 (by simp))
    obtain ⟨c1, c2⟩ := sc hi hiN
    obtain ⟨a1, a2, a3, a4⟩ := hA hi hiN
    have hcl : ∀ rec, X6_searchFrom_B47 (nI a) kx1 rec (nI Q', nI hi, τ) = if C hi = -1 then (if (mems gs)[a] &&& (mems gs)[hi] = (mems gs)[a] then (if L hi = -1 then some (nI hi, up τ 110 hi (nI a)) else (if 128 ≤ nI Q' then rec (nI Q', nI (hi + 1), up τ 110 hi (nI a)) else (ckA (nI Q') 128 <| rec (nI (Q' + 1), nI (hi + 1), up (up τ 110 hi (nI a)) 111 Q' (L hi))))) else rec (nI Q', nI (hi + 1), τ)) else rec (nI Q', nI (hi + 1), τ) := by
      intro rec
      have t109 : up τ 110 hi (nI a) 109 hi = L hi := by rw [up_ne _ _ _ (by decide), f1 109 (by simp), a2]
      rw [X6_searchFrom_B47, if_neg (mem_go rτ hiN), if_neg (le128 hi8), if_neg (nneg (by omega)), ckA_n hi8 (by omega), ncl (by omega), c1, f_ins rτ haN hiN, sbind, ckA_n hi8 (by omega), ckA_n hi8 (by omega), ckA_n hi8 (by omega), t109, ncl (by omega)]
      simp only [X6_searchFrom_J144, nI_1]
      by_cases e1 : C hi = -1
      · rw [if_pos e1, if_pos e1]
        by_cases e2 : (mems gs)[a] &&& (mems gs)[hi] = (mems gs)[a]
        · rw [if_pos e2, if_pos e2, if_neg (by decide)]
        · rw [if_neg e2, if_neg e2, if_pos rfl]
      · rw [if_neg e1, if_neg e1]
    have hml : ∀ rec, X11_couples_B53 (nI a) kx2 rec (nI Q', nI hi, ρ) = if C hi = -1 then (if (mems gs)[a] &&& (mems gs)[hi] = (mems gs)[a] then (if L hi = -1 then ((X11_turnsOver (up ρ 132 hi (nI a)) (nI hi)).bind fun σ18 => some (1, σ18)) else (ckA (nI Q') 128 <| rec (nI (Q' + 1), nI (hi + 1), up (up ρ 132 hi (nI a)) 133 Q' (L hi)))) else rec (nI Q', nI (hi + 1), ρ)) else rec (nI Q', nI (hi + 1), ρ) := by
      intro rec
      have r131 : up ρ 132 hi (nI a) 131 hi = L hi := by rw [up_ne _ _ _ (by decide), f2 131 (by simp), a4]
      rw [X11_couples_B53, if_neg (lay_go lρ hiN), if_neg (by rw [neq (by omega) (by omega)]; omega), ckA_n hi8 (by omega), ckA_n ha8 (by omega), ckA_n hi8 (by omega), ckA_n hi8 (by omega), ckA_n hi8 (by omega), ckA_n hi8 (by omega), ncl (by omega), ncl (by omega), ncl (by omega), c2, lay_at lρ haN, lay_at lρ hiN, f_within _ (mem_at_lt haN) _ (mem_at_lt hiN), r131]
      simp only [X11_couples_J147, nI_1]
      by_cases e1 : C hi = -1
      · rw [if_pos e1, if_pos e1]
        by_cases e2 : (mems gs)[a] &&& (mems gs)[hi] = (mems gs)[a]
        · rw [if_pos e2, if_pos e2, if_neg (by decide)]
        · rw [if_neg e2, if_neg e2, if_pos rfl]
      · rw [if_neg e1, if_neg e1]
    have hskip : ∃ x1' x2', (∃ C qa d Q' τ ρ, x1' = (nI Q', nI (hi + 1), τ) ∧ x2' = (nI Q', nI (hi + 1), ρ) ∧ SIq gs L first σ π C qa d Q' τ ρ ∧ h < Q' ∧ qa h = a ∧ Q ≤ Q') ∧ rec1 (nI Q', nI (hi + 1), τ) = rec1 x1' ∧ rec2 (nI Q', nI (hi + 1), ρ) = rec2 x2' := ⟨_, _, ⟨C, qa, d, Q', τ, ρ, rfl, rfl, ⟨sr, sc, sq, s4, s5, f1, f2⟩, hh, ha, hQQ⟩, rfl, rfl⟩
    by_cases e1 : C hi = -1
    · by_cases e2 : (mems gs)[a] &&& (mems gs)[hi] = (mems gs)[a]
      · obtain ⟨⟨t1, t1'⟩, t2, t3, t4, t5⟩ := sr
        obtain ⟨C', hC'⟩ : ∃ C' : Nat → Int32, ∀ t, C' t = if t = hi then nI a else C t := ⟨fun t => if t = hi then nI a else C t, fun _ => rfl⟩
        obtain ⟨d', hd'⟩ : ∃ d' : Nat → Nat, ∀ t, d' t = if t = hi then h else d t := ⟨fun t => if t = hi then h else d t, fun _ => rfl⟩
        have hChi : C' hi ≠ -1 := by rw [hC', if_pos rfl]; exact m1_ne a (by omega)
        have hold : ∀ b, C b ≠ -1 → b ≠ hi := fun b hb he => hb (he ▸ e1)
        have sc' : ∀ k, k < (mems gs).length → up τ 110 hi (nI a) 110 k = C' k ∧ up ρ 132 hi (nI a) 132 k = C' k := fun k hk => by
          rw [up_at, up_at, hC']; unfold upd
          by_cases ek : k = hi
          · rw [if_pos ek, if_pos ek, if_pos ek]; exact ⟨rfl, rfl⟩
          · rw [if_neg ek, if_neg ek, if_neg ek]; exact sc k hk
        have fr1 : Fr σ (up τ 110 hi (nI a)) [110, 111] := (f1.tr (Fr.up (ps := [110]) (by simp))).mono (by simp)
        have fr2 : Fr π (up ρ 132 hi (nI a)) [132, 133] := (f2.tr (Fr.up (ps := [132]) (by simp))).mono (by simp)
        have u3 : ∀ i, 1 ≤ i → i < Q' → ∃ b, b < (mems gs).length ∧ C' b ≠ -1 ∧ d' b < i ∧ L b = nI (qa i) := fun i h1 h2 => by
          obtain ⟨b, b1, b2, b3, b4⟩ := t3 i h1 h2
          have := hold b b2
          exact ⟨b, b1, by rw [hC', if_neg this]; exact b2, by rw [hd', if_neg this]; exact b3, b4⟩
        have u4 : ∀ b, b < (mems gs).length → C' b ≠ -1 → d' b < Q' ∧ C' b = nI (qa (d' b)) := fun b b1 b2 => by
          by_cases eb : b = hi
          · rw [hC', hd', if_pos eb, if_pos eb, ha]; exact ⟨hh, rfl⟩
          · rw [hC', if_neg eb] at b2
            rw [hC', hd', if_neg eb, if_neg eb]; exact t4 b b1 b2
        by_cases e3 : L hi = -1
        · right; right
          exact ⟨hi, C', qa, d', Q', _, _, by rw [hcl, if_pos e1, if_pos e2, if_pos e3], by rw [hml, if_pos e1, if_pos e2, if_pos e3], hiN, hChi, e3, ⟨⟨t1, t1'⟩, t2, u3, u4, t5⟩, by omega, sc', fr1, fr2⟩
        · left
          obtain ⟨as, as1, as2, as3⟩ : ∃ as, as < (mems gs).length ∧ L hi = nI as ∧ G as = nI hi := by
            rcases hW.2 hi hiN with g | g
            · exact absurd g e3
            · exact g
          have hcnt := cnt2 (p := fun b => decide (C b ≠ -1)) (N := (mems gs).length) (u := hi) (by simp [s5]) (by simp [e1]) (by omega) hiN
          have hQ1 : Q' < 128 := by omega
          obtain ⟨qa', hqa'⟩ : ∃ qa' : Nat → Nat, ∀ i, qa' i = if i = Q' then as else qa i := ⟨fun i => if i = Q' then as else qa i, fun _ => rfl⟩
          have hqo : ∀ i, i < Q' → qa' i = qa i := fun i hi => by rw [hqa', if_neg (by omega)]
          have hne : ∀ i, i < Q' → qa i ≠ as := fun i hi' he => by
            rcases Nat.eq_zero_or_pos i with hz | hz
            · rw [hz, t1'] at he
              rw [← he, hf] at as3
              exact m1_ne hi (by omega) as3.symm
            · obtain ⟨b, b1, b2, b3, b4⟩ := t3 i hz hi'
              rw [he] at b4
              rcases hW.2 b b1 with g | ⟨a', g1, g2, g3⟩
              · rw [b4] at g; exact m1_ne as (by omega) g
              · rw [b4] at g2
                have : as = a' := (neq (by omega) (by omega)).mp g2
                rw [← this, as3] at g3
                have : hi = b := (neq (by omega) (by omega)).mp g3
                exact hold b b2 this.symm
          refine ⟨(nI (Q' + 1), nI (hi + 1), up (up τ 110 hi (nI a)) 111 Q' (L hi)), (nI (Q' + 1), nI (hi + 1), up (up ρ 132 hi (nI a)) 133 Q' (L hi)), ⟨C', qa', d', Q' + 1, _, _, rfl, rfl, ⟨⟨⟨by omega, by rw [hqo 0 (by omega), t1']⟩, fun i hi' => ?_, fun i h1 h2 => ?_, fun b b1 b2 => ?_, fun i j hij hj => ?_⟩, fun k hk => ?_, fun i hi' => ?_, ?_, ?_, (fr1.tr (Fr.up (ps := [111]) (by simp))).mono (by simp), (fr2.tr (Fr.up (ps := [133]) (by simp))).mono (by simp)⟩, by omega, by rw [hqo h hh]; exact ha, by omega⟩, ?_, ?_⟩
          · rw [hqa']
            by_cases ei : i = Q'
            · rw [if_pos ei]; exact as1
            · rw [if_neg ei]; exact t2 i (by omega)
          · by_cases ei : i = Q'
            · exact ⟨hi, hiN, hChi, by rw [hd', if_pos rfl, ei]; exact hh, by rw [hqa', if_pos ei]; exact as2⟩
            · rw [hqo i (by omega)]; exact u3 i h1 (by omega)
          · obtain ⟨v1, v2⟩ := u4 b b1 b2
            exact ⟨by omega, by rw [hqo _ v1]; exact v2⟩
          · by_cases ej : j = Q'
            · rw [hqo i (by omega), hqa', if_pos ej]; exact hne i (by omega)
            · rw [hqo i (by omega), hqo j (by omega)]; exact t5 i j hij (by omega)
          · exact ⟨by rw [up_ne _ _ _ (by decide)]; exact (sc' k hk).1, by rw [up_ne _ _ _ (by decide)]; exact (sc' k hk).2⟩
          · rw [up_at, up_at, hqa']; unfold upd
            by_cases ei : i = Q'
            · rw [if_pos ei, if_pos ei, if_pos ei]; exact ⟨as2, as2⟩
            · rw [if_neg ei, if_neg ei, if_neg ei, up_ne _ _ _ (by decide), up_ne _ _ _ (by decide)]; exact sq i (by omega)
          · rw [countP_upd (p := fun b => decide (C b ≠ -1)) (p' := fun b => decide (C' b ≠ -1)) (u := hi) (by simp [e1]) (by simp [hChi]) (fun t ht => by rw [hC', if_neg ht]), if_pos hiN]; omega
          · rw [hC', if_neg (by omega)]; exact s5
          · rw [hcl, if_pos e1, if_pos e2, if_neg e3, if_neg (le128 hQ1), ckA_n hQ1 (by omega)]
          · rw [hml, if_pos e1, if_pos e2, if_neg e3, ckA_n hQ1 (by omega)]
      · left
        rw [hcl, if_pos e1, if_neg e2, hml, if_pos e1, if_neg e2]; exact hskip
    · left
      rw [hcl, if_neg e1, hml, if_neg e1]; exact hskip
  · obtain ⟨C, qa, d, Q', τ, ρ, rfl, rfl, hS, hh, ha, hQQ⟩ := hi
    left
    refine ⟨C, qa, d, Q', τ, ρ, ?_, ?_, hS, hQQ⟩
    · have rτ : RowR τ 95 (mems gs) := hrow.cg (hS.2.2.2.2.2.1 95 (by simp)) (hS.2.2.2.2.2.1 96 (by simp))
      rw [X6_searchFrom_B47, show a + 1 + ((mems gs).length - (a + 1)) = (mems gs).length by omega, if_pos (mem_stop rτ)]
    · have lρ := hlayρ ρ hS.2.2.2.2.2.2
      rw [X11_couples_B53, show a + 1 + ((mems gs).length - (a + 1)) = (mems gs).length by omega, if_pos (lay_stop lρ)]
theorem search_out {gs : List Nat} {σ π : Wd} (hrow : RowR σ 95 (mems gs)) (hlay : LayR π gs) {G L : Nat → Int32} (hW : WM (mems gs).length G L) {first : Nat} (hf : G first = -1) (hA : AG (mems gs).length G L σ π) (hp : 0 < (mems gs).length) {C : Nat → Int32} {qa d : Nat → Nat} {τ ρ : Wd} (hS : SIq gs L first σ π C qa d 1 τ ρ) : (∃ τ' ρ', lp X6_searchFrom_B19 FU (1, 0, τ) = some (-1, τ') ∧ lp X11_couples_B34 FU (0, 1, ρ) = some (0, ρ') ∧ Fr σ τ' [110, 111] ∧ Fr π ρ' [132, 133]) ∨ FoundQ gs L first σ π (lp X6_searchFrom_B19 FU (1, 0, τ)) (lp X11_couples_B34 FU (0, 1, ρ)) := by
  have hl := mems_len gs
  refine lpp (b1 := X6_searchFrom_B19) (b2 := X11_couples_B34) (fun h x1 x2 => ∃ C qa d Q τ ρ, x1 = (nI Q, nI h, τ) ∧ x2 = (nI h, nI Q, ρ) ∧ SIq gs L first σ π C qa d Q τ ρ ∧ h ≤ Q) 128 (fun o1 o2 => (∃ τ' ρ', o1 = some (-1, τ') ∧ o2 = some (0, ρ') ∧ Fr σ τ' [110, 111] ∧ Fr π ρ' [132, 133]) ∨ FoundQ gs L first σ π o1 o2) ⟨C, qa, d, 1, τ, ρ, rfl, rfl, hS, by omega⟩ (by omega) (fun h x1 x2 rec1 rec2 hh hi => ?_) (fun x1 x2 rec1 rec2 hi => ?_)
  · obtain ⟨C, qa, d, Q, τ, ρ, rfl, rfl, hS, hQ⟩ := hi
    have hQ8 := hS.le hp
    by_cases e : Q ≤ h
    · right; left
      exact ⟨τ, ρ, by rw [X6_searchFrom_B19, if_pos (by rw [nle (by omega) (by omega)]; exact e)], by rw [X11_couples_B34, if_pos (by rw [nle (by omega) (by omega)]; exact e)], hS.2.2.2.2.2.1, hS.2.2.2.2.2.2⟩
    · obtain ⟨q1, q2⟩ := hS.2.2.1 h (by omega)
      have hc : X6_searchFrom_B19 rec1 (nI Q, nI h, τ) = lp (X6_searchFrom_B47 (nI (qa h)) (X6_searchFrom_T150 rec1 (nI h))) FU (nI Q, nI (qa h) + 1, τ) := by
        rw [X6_searchFrom_B19, if_neg (by rw [nle (by omega) (by omega)]; exact e), if_neg (le128 (by omega)), ckA_n (by omega) (by omega), ncl (by omega), q1]; rfl
      have hm : X11_couples_B34 rec2 (nI h, nI Q, ρ) = lp (X11_couples_B53 (nI (qa h)) (X11_couples_T153 rec2 (nI (h + 1)))) FU (nI Q, 0, ρ) := by
        rw [X11_couples_B34, if_neg (by rw [nle (by omega) (by omega)]; exact e), ckA_n (by omega) (by omega), ncl (by omega), q2, nI_1]; rfl
      rw [hc, hm]
      rcases search_in (h := h) hrow hlay hW hf hA hS (by omega) rfl (X6_searchFrom_T150 rec1 (nI h)) (X11_couples_T153 rec2 (nI (h + 1))) with ⟨C', qa', d', Q', τ', ρ', g1, g2, g3, g4⟩ | g
      · left
        exact ⟨(nI Q', nI (h + 1), τ'), (nI (h + 1), nI Q', ρ'), ⟨C', qa', d', Q', τ', ρ', rfl, rfl, g3, by omega⟩, by rw [g1, X6_searchFrom_T150, X6_searchFrom_J150, nI_1], by rw [g2, X11_couples_T153]⟩
      · right; right; exact g
  · obtain ⟨C, qa, d, Q, τ, ρ, rfl, rfl, hS, hQ⟩ := hi
    have hQ8 := hS.le hp
    left
    exact ⟨τ, ρ, by rw [X6_searchFrom_B19, if_pos (by rw [nle (by omega) (by omega)]; omega)], by rw [X11_couples_B34, if_pos (by rw [nle (by omega) (by omega)]; omega)], hS.2.2.2.2.2.1, hS.2.2.2.2.2.2⟩
