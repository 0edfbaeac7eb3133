/-! couples: the path turned -/
def WM (N : Nat) (G L : Nat → Int32) : Prop := (∀ a, a < N → G a = -1 ∨ ∃ b, b < N ∧ G a = nI b ∧ L b = nI a) ∧ ∀ b, b < N → L b = -1 ∨ ∃ a, a < N ∧ L b = nI a ∧ G a = nI b
def WX (N : Nat) (G L : Nat → Int32) (b : Nat) : Prop := (∀ a, a < N → G a = -1 ∨ ∃ b', b' < N ∧ G a = nI b' ∧ L b' = nI a) ∧ (∀ b', b' < N → b' ≠ b → L b' = -1 ∨ ∃ a, a < N ∧ L b' = nI a ∧ G a = nI b') ∧ ∀ a, a < N → G a ≠ nI b
theorem wx_start {N b : Nat} {G L : Nat → Int32} (h : WM N G L) (hN : N ≤ 128) (hb : b < N) (hL : L b = -1) : WX N G L b := by
  refine ⟨h.1, fun b' hb' _ => h.2 b' hb', fun a ha he => ?_⟩
  rcases h.1 a ha with h1 | ⟨b', b1, b2, b3⟩
  · rw [he] at h1; exact m1_ne b (by omega) h1
  · rw [he] at b2
    have : b = b' := (neq (by omega) (by omega)).mp b2
    subst this
    rw [hL] at b3
    exact m1_ne a (by omega) b3.symm
theorem wx_step {N b a : Nat} {G L : Nat → Int32} (h : WX N G L b) (hN : N ≤ 128) (hb : b < N) (ha : a < N) : (G a = -1 → WM N (upd G a (nI b)) (upd L b (nI a))) ∧ ∀ c, c < N → G a = nI c → WX N (upd G a (nI b)) (upd L b (nI a)) c := by
  obtain ⟨h1, h2, h3⟩ := h
  have g1 : ∀ a', a' < N → upd G a (nI b) a' = -1 ∨ ∃ b', b' < N ∧ upd G a (nI b) a' = nI b' ∧ upd L b (nI a) b' = nI a' := by
    intro a' ha'
    by_cases e : a' = a
    · right
      exact ⟨b, hb, by unfold upd; rw [if_pos e], by unfold upd; rw [if_pos rfl, e]⟩
    · rcases h1 a' ha' with g | ⟨b', c1, c2, c3⟩
      · left; unfold upd; rw [if_neg e]; exact g
      · right
        have hne : b' ≠ b := fun hh => h3 a' ha' (hh ▸ c2)
        exact ⟨b', c1, by unfold upd; rw [if_neg e]; exact c2, by unfold upd; rw [if_neg hne]; exact c3⟩
  constructor
  · intro hG
    refine ⟨g1, fun b' hb' => ?_⟩
    by_cases e : b' = b
    · right
      exact ⟨a, ha, by unfold upd; rw [if_pos e], by unfold upd; rw [if_pos rfl, e]⟩
    · rcases h2 b' hb' e with g | ⟨a', c1, c2, c3⟩
      · left; unfold upd; rw [if_neg e]; exact g
      · right
        have hne : a' ≠ a := fun hh => by
          rw [hh, hG] at c3
          exact m1_ne b' (by omega) c3.symm
        exact ⟨a', c1, by unfold upd; rw [if_neg e]; exact c2, by unfold upd; rw [if_neg hne]; exact c3⟩
  · intro c hc hG
    refine ⟨g1, fun b' hb' hbc => ?_, fun a' ha' he => ?_⟩
    · by_cases e : b' = b
      · right
        exact ⟨a, ha, by unfold upd; rw [if_pos e], by unfold upd; rw [if_pos rfl, e]⟩
      · rcases h2 b' hb' e with g | ⟨a', c1, c2, c3⟩
        · left; unfold upd; rw [if_neg e]; exact g
        · right
          have hne : a' ≠ a := fun hh => by
            rw [hh, hG] at c3
            exact hbc ((neq (by omega) (by omega)).mp c3).symm
          exact ⟨a', c1, by unfold upd; rw [if_neg e]; exact c2, by unfold upd; rw [if_neg hne]; exact c3⟩
    · unfold upd at he
      by_cases e : a' = a
      · rw [if_pos e] at he
        have : b = c := (neq (by omega) (by omega)).mp he
        exact h3 a ha (this ▸ hG)
      · rw [if_neg e] at he
        rcases h1 a' ha' with g | ⟨b1, c1, c2, c3⟩
        · rw [he] at g; exact m1_ne c (by omega) g
        · rw [he] at c2
          have e1 : c = b1 := (neq (by omega) (by omega)).mp c2
          subst e1
          rcases h1 a ha with g | ⟨b2, d1, d2, d3⟩
          · rw [hG] at g; exact m1_ne c (by omega) g
          · rw [hG] at d2
            have e2 : c = b2 := (neq (by omega) (by omega)).mp d2
            subst e2
            rw [c3] at d3
            exact e ((neq (by omega) (by omega)).mp d3)
def SR (N : Nat) (L C : Nat → Int32) (first Q : Nat) (qa d : Nat → Nat) : Prop := (1 ≤ Q ∧ qa 0 = first) ∧ (∀ i, i < Q → qa i < N) ∧ (∀ i, 1 ≤ i → i < Q → ∃ b, b < N ∧ C b ≠ -1 ∧ d b < i ∧ L b = nI (qa i)) ∧ (∀ b, b < N → C b ≠ -1 → d b < Q ∧ C b = nI (qa (d b))) ∧ ∀ i j, i < j → j < Q → qa i ≠ qa j
def AG (N : Nat) (G L : Nat → Int32) (τ ρ : Wd) : Prop := ∀ k, k < N → τ 108 k = G k ∧ τ 109 k = L k ∧ ρ 130 k = G k ∧ ρ 131 k = L k
theorem AG.up {N a b : Nat} {G L : Nat → Int32} {τ ρ : Wd} (h : AG N G L τ ρ) (x y : Int32) : AG N (upd G a x) (upd L b y) (up (up τ 108 a x) 109 b y) (up (up ρ 130 a x) 131 b y) := by
  intro k hk
  obtain ⟨h1, h2, h3, h4⟩ := h k hk
  refine ⟨?_, ?_, ?_, ?_⟩
  · rw [up_ne _ _ _ (by decide), up_at]; unfold upd
    by_cases e : k = a
    · rw [if_pos e, if_pos e]
    · rw [if_neg e, if_neg e]; exact h1
  · rw [up_at]; unfold upd
    by_cases e : k = b
    · rw [if_pos e, if_pos e]
    · rw [if_neg e, if_neg e, up_ne _ _ _ (by decide)]; exact h2
  · rw [up_ne _ _ _ (by decide), up_at]; unfold upd
    by_cases e : k = a
    · rw [if_pos e, if_pos e]
    · rw [if_neg e, if_neg e]; exact h3
  · rw [up_at]; unfold upd
    by_cases e : k = b
    · rw [if_pos e, if_pos e]
    · rw [if_neg e, if_neg e, up_ne _ _ _ (by decide)]; exact h4
theorem neg1 : (-1 : Int32) < 0 := by decide
theorem turn_sim {N first Q b0 : Nat} {G L C : Nat → Int32} {qa d : Nat → Nat} (hN : N ≤ 128) (hQ : Q ≤ 128) (hW : WM N G L) (hf : G first = -1) (hS : SR N L C first Q qa d) (hb0 : b0 < N) (hC0 : C b0 ≠ -1) (hL0 : L b0 = -1) {τ ρ : Wd} (hA : AG N G L τ ρ) (hc1 : ∀ k, k < N → τ 110 k = C k) (hc2 : ∀ k, k < N → ρ 132 k = C k) : ∃ τ' ρ' G' L', X6_turnPath τ (nI b0) = some τ' ∧ X11_turnsOver ρ (nI b0) = some ρ' ∧ WM N G' L' ∧ AG N G' L' τ' ρ' ∧ (∀ a, a < N → (∀ i, i < Q → qa i ≠ a) → G' a = G a) ∧ Fr τ τ' [108, 109] ∧ Fr ρ ρ' [130, 131] := by
  obtain ⟨⟨s1, s1'⟩, s2, s3, s4, s5⟩ := hS
  have hD := (s4 b0 hb0 hC0).1
  unfold X6_turnPath X11_turnsOver
  refine lpp (b1 := X6_turnPath_B4) (b2 := X11_turnsOver_B2) (fun k x1 x2 => ∃ G1 L1 τ1 ρ1, AG N G1 L1 τ1 ρ1 ∧ Fr τ τ1 [108, 109] ∧ Fr ρ ρ1 [130, 131] ∧ (∀ a, a < N → (∀ i, i < Q → qa i ≠ a) → G1 a = G a) ∧ ((∃ b, b < N ∧ C b ≠ -1 ∧ d b + k ≤ d b0 ∧ x1 = (nI b, nI k, τ1) ∧ x2 = (nI b, ρ1) ∧ WX N G1 L1 b ∧ ∀ i, i ≤ d b → G1 (qa i) = G (qa i)) ∨ (x1 = (-1, nI k, τ1) ∧ x2 = (-1, ρ1) ∧ WM N G1 L1))) (d b0 + 1) (fun o1 o2 => ∃ τ' ρ' G' L', o1 = some τ' ∧ o2 = some ρ' ∧ WM N G' L' ∧ AG N G' L' τ' ρ' ∧ (∀ a, a < N → (∀ i, i < Q → qa i ≠ a) → G' a = G a) ∧ Fr τ τ' [108, 109] ∧ Fr ρ ρ' [130, 131]) ⟨G, L, τ, ρ, hA, Fr.rf _ _, Fr.rf _ _, fun _ _ _ => rfl, Or.inl ⟨b0, hb0, hC0, by omega, by rw [nI_0], rfl, wx_start hW hN hb0 hL0, fun _ _ => rfl⟩⟩ (by omega) (fun k x1 x2 rec1 rec2 hk hi => ?_) (fun x1 x2 rec1 rec2 hi => ?_)
  · obtain ⟨G1, L1, τ1, ρ1, i1, i2, i3, i4, i5⟩ := hi
    rcases i5 with ⟨b, b1, b2, b3, rfl, rfl, b4, b5⟩ | ⟨rfl, rfl, b4⟩
    · left
      obtain ⟨q1, q2⟩ := s4 b b1 b2
      have ha := s2 _ q1
      obtain ⟨a, haa⟩ : ∃ a, a = qa (d b) := ⟨_, rfl⟩
      rw [← haa] at ha q2
      have t110 : τ1 110 b = nI a := by rw [i2 110 (by simp), hc1 b b1, q2]
      have r132 : ρ1 132 b = nI a := by rw [i3 132 (by simp), hc2 b b1, q2]
      obtain ⟨j1, j2, j3, j4⟩ := i1 a ha
      have hGa : G1 a = G a := by rw [haa]; exact b5 _ (Nat.le_refl _)
      have hcl : ∀ rec, X6_turnPath_B4 rec (nI b, nI k, τ1) = rec (G1 a, nI (k + 1), up (up τ1 108 a (nI b)) 109 b (nI a)) := by
        intro rec
        rw [X6_turnPath_B4, if_neg (le128 (by omega)), if_neg (nneg (by omega)), if_neg (le128 (by omega)), ckA_n (by omega) (by omega), ncl (by omega), t110, if_neg (nneg (by omega)), if_pos (by rw [L128, nlt (by omega) (by omega)]; omega), ckA_n (by omega) (by omega), ncl (by omega), j1]
        dsimp only [lett]
        rw [ckA_n (by omega) (by omega), ckA_n (by omega) (by omega), nI_1]
      have hml : ∀ rec, X11_turnsOver_B2 rec (nI b, ρ1) = rec (G1 a, up (up ρ1 130 a (nI b)) 131 b (nI a)) := by
        intro rec
        rw [X11_turnsOver_B2, if_neg (m1_ne b (by omega)), ckA_n (by omega) (by omega), ncl (by omega), r132, ckA_n (by omega) (by omega), ncl (by omega), j3]
        dsimp only [lett]
        rw [ckA_n (by omega) (by omega), ckA_n (by omega) (by omega)]
      have fr1 : Fr τ (up (up τ1 108 a (nI b)) 109 b (nI a)) [108, 109] := ((i2.tr (Fr.up (ps := [108]) (by simp))).tr (Fr.up (ps := [109]) (by simp))).mono (by simp)
      have fr2 : Fr ρ (up (up ρ1 130 a (nI b)) 131 b (nI a)) [130, 131] := ((i3.tr (Fr.up (ps := [130]) (by simp))).tr (Fr.up (ps := [131]) (by simp))).mono (by simp)
      have keep : ∀ a', a' < N → (∀ i, i < Q → qa i ≠ a') → upd G1 a (nI b) a' = G a' := fun a' h1 h2 => by
        unfold upd
        rw [if_neg (fun e => h2 (d b) q1 (by rw [← haa, e])), i4 a' h1 h2]
      have st := wx_step b4 hN b1 ha
      rcases Nat.eq_zero_or_pos (d b) with hz | hz
      · have haf : a = first := by rw [haa, hz, s1']
        have hG : G1 a = -1 := by rw [hGa, haf, hf]
        refine ⟨(-1, nI (k + 1), _), (-1, _), ⟨_, _, _, _, i1.up (nI b) (nI a), fr1, fr2, keep, Or.inr ⟨rfl, rfl, st.1 hG⟩⟩, by rw [hcl, hG], by rw [hml, hG]⟩
      · obtain ⟨c, c1, c2, c3, c4⟩ := s3 (d b) (by omega) q1
        rw [← haa] at c4
        have hGc : G a = nI c := by
          rcases hW.2 c c1 with g | ⟨a', e1, e2, e3⟩
          · rw [c4] at g; exact absurd g (m1_ne a (by omega))
          · rw [c4] at e2
            have : a = a' := (neq (by omega) (by omega)).mp e2
            rw [this]; exact e3
        have hG : G1 a = nI c := by rw [hGa, hGc]
        refine ⟨(nI c, nI (k + 1), _), (nI c, _), ⟨_, _, _, _, i1.up (nI b) (nI a), fr1, fr2, keep, Or.inl ⟨c, c1, c2, by omega, rfl, rfl, st.2 c c1 hG, fun i hi => ?_⟩⟩, by rw [hcl, hG], by rw [hml, hG]⟩
        unfold upd
        rw [if_neg (fun e => s5 i (d b) (by omega) q1 (by rw [e, haa])), b5 i (by omega)]
    · right
      refine ⟨τ1, ρ1, G1, L1, ?_, ?_, b4, i1, i4, i2, i3⟩
      · rw [X6_turnPath_B4]
        by_cases e : (128 : Int32) ≤ nI k
        · rw [if_pos e]
        · rw [if_neg e, if_pos neg1]
      · rw [X11_turnsOver_B2, if_pos rfl]
  · obtain ⟨G1, L1, τ1, ρ1, i1, i2, i3, i4, i5⟩ := hi
    rcases i5 with ⟨b, b1, b2, b3, -⟩ | ⟨rfl, rfl, b4⟩
    · omega
    · refine ⟨τ1, ρ1, G1, L1, ?_, ?_, b4, i1, i4, i2, i3⟩
      · rw [X6_turnPath_B4]
        by_cases e : (128 : Int32) ≤ nI (d b0 + 1)
        · rw [if_pos e]
        · rw [if_neg e, if_pos neg1]
      · rw [X11_turnsOver_B2, if_pos rfl]
