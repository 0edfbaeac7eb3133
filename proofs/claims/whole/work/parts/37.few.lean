/-! the fewest generators, as the class counts them -/
theorem lt0_nI {c : Nat} (h : c < 2 ^ 31) : ¬ nI c < 0 := nneg h
theorem m2_lt : (-2 : Int32) < 0 := by decide +kernel
def ustep (own : Nat) (f : Nat → Int32) (k : Nat) : Nat → Int32 := if f k < 0 then f else if f (k ||| own) < 0 then upd f (k ||| own) (f k + 1) else if f (k ||| own) ≤ f k + 1 then f else upd f (k ||| own) (f k + 1)
def upass (f : Nat → Int32) (own : Nat) : Nat → Int32 := (List.range 128).foldl (ustep own) f
/-- f tells the fewest: sound, and no more than any way -/
def FwR (gs : List Nat) (M : Nat) (f : Nat → Int32) : Prop := (∀ t, t < 128 → f t = -2 ∨ ∃ c, f t = nI c ∧ c ≤ M ∧ Rch gs c t) ∧ ∀ S : List Nat, (∀ x ∈ S, x ∈ gs) → ∃ c, f (un S) = nI c ∧ c ≤ S.length ∧ c ≤ M
theorem rch_mono {gs hs : List Nat} {c t : Nat} (h : Rch gs c t) (hs' : ∀ x ∈ gs, x ∈ hs) : Rch hs c t := by
  obtain ⟨S, h1, h2⟩ := h
  exact ⟨S, fun x hx => hs' x (h1 x hx), h2⟩
theorem rch_snoc {gs : List Nat} {c t g : Nat} (h : Rch gs c t) (hg : g ∈ gs) : Rch gs (c + 1) (t ||| g) := by
  obtain ⟨S, h1, h2, h3⟩ := h
  refine ⟨S ++ [g], fun x hx => ?_, by simp [h2], by rw [un_app, h3, un_one]⟩
  simp only [List.mem_append, List.mem_cons, List.not_mem_nil, or_false] at hx
  rcases hx with h | rfl
  · exact h1 x h
  · exact hg
theorem upass_spec {gs : List Nat} {own M : Nat} {f : Nat → Int32} (ho : own < 128) (hgs : ∀ x ∈ gs, x < 128) (hM : M < 100) (h : FwR gs M f) : FwR (gs ++ [own]) (M + 1) (upass f own) := by
  obtain ⟨s1, s2⟩ := h
  have hin : own ∈ gs ++ [own] := by simp
  have key : ∀ k, k ≤ 128 → ∀ F, F = (List.range k).foldl (ustep own) f →
      (∀ t, t < 128 → F t = -2 ∨ ∃ c, F t = nI c ∧ c ≤ (if t ||| own = t then M + 1 else M) ∧ Rch (gs ++ [own]) c t) ∧
      (∀ t c, c ≤ M → f t = nI c → ∃ c', F t = nI c' ∧ c' ≤ c) ∧
      ∀ s c, c ≤ M → s < k → f s = nI c → ∃ c', F (s ||| own) = nI c' ∧ c' ≤ c + 1 := by
    intro k
    induction k with
    | zero =>
      intro _ F hF
      subst hF
      refine ⟨fun t ht => ?_, fun t c _ h => ⟨c, h, Nat.le_refl _⟩, fun s c _ hs => by omega⟩
      rcases s1 t ht with h | ⟨c, h1, h2, h3⟩
      · exact Or.inl h
      · refine Or.inr ⟨c, h1, ?_, rch_mono h3 (fun x hx => by simp [hx])⟩
        split <;> omega
    | succ k ih =>
      intro hk F hF
      rw [List.range_succ, List.foldl_append] at hF
      obtain ⟨i1, i2, i3⟩ := ih (by omega) _ rfl
      generalize (List.range k).foldl (ustep own) f = F0 at hF i1 i2 i3
      simp only [List.foldl_cons, List.foldl_nil] at hF
      have hu : k ||| own < 128 := or_lt (by omega) ho
      have huu : (k ||| own) ||| own = k ||| own := by rw [Nat.or_assoc, Nat.or_self]
      -- what the step does
      have step : F = F0 ∧ (∀ c, F0 k = nI c → c ≤ M + 1 → ∃ c', F0 (k ||| own) = nI c' ∧ c' ≤ c + 1) ∨ ∃ c, c ≤ M ∧ F0 k = nI c ∧ Rch (gs ++ [own]) c k ∧ F = upd F0 (k ||| own) (nI (c + 1)) ∧ ∀ c', F0 (k ||| own) = nI c' → c' ≤ M + 1 → c + 1 < c' := by
        unfold ustep at hF
        rcases i1 k (by omega) with hk2 | ⟨c, hc, hcM, hcR⟩
        · rw [if_pos (by rw [hk2]; exact m2_lt)] at hF
          refine Or.inl ⟨hF, fun c hc hcM => ?_⟩
          rw [hk2] at hc
          exact absurd (hc ▸ m2_lt) (lt0_nI (by omega))
        · have hcM1 : c ≤ M + 1 := by
            by_cases e : k ||| own = k
            · rw [if_pos e] at hcM; exact hcM
            · rw [if_neg e] at hcM; omega
          rw [if_neg (by rw [hc]; exact lt0_nI (by omega)), hc, nI_1] at hF
          rcases i1 (k ||| own) hu with hu2 | ⟨d, hd, hdM, -⟩
          · rw [if_pos (by rw [hu2]; exact m2_lt)] at hF
            have hne : ¬ k ||| own = k := fun e => by
              rw [e, hc] at hu2
              exact absurd (hu2 ▸ m2_lt) (lt0_nI (by omega))
            rw [if_neg hne] at hcM
            refine Or.inr ⟨c, hcM, hc, hcR, hF, fun c' hc' h' => ?_⟩
            rw [hu2] at hc'
            exact absurd (hc' ▸ m2_lt) (lt0_nI (by omega))
          · rw [huu, if_pos rfl] at hdM
            rw [if_neg (by rw [hd]; exact lt0_nI (by omega)), hd] at hF
            by_cases hle : d ≤ c + 1
            · rw [if_pos ((nle (by omega) (by omega)).mpr hle)] at hF
              refine Or.inl ⟨hF, fun c2 hc2 h2 => ?_⟩
              rw [hc] at hc2
              have := (neq (by omega) (by omega)).mp hc2
              exact ⟨d, hd, by omega⟩
            · rw [if_neg (fun q => hle ((nle (by omega) (by omega)).mp q))] at hF
              have hne : ¬ k ||| own = k := fun e => by
                rw [e, hc] at hd
                have := (neq (by omega) (by omega)).mp hd
                omega
              rw [if_neg hne] at hcM
              refine Or.inr ⟨c, hcM, hc, hcR, hF, fun c' hc' h' => ?_⟩
              rw [hd] at hc'
              have := (neq (by omega) (by omega)).mp hc'
              omega
      rcases step with ⟨hFe, hfin⟩ | ⟨c, hcM, hc, hcR, hFe, hlow⟩
      · subst hFe
        refine ⟨i1, i2, fun s c2 hcM hs hfs => ?_⟩
        rcases Nat.lt_or_ge s k with h | h
        · exact i3 s c2 hcM h hfs
        · have : s = k := by omega
          subst this
          obtain ⟨c', h1, h2⟩ := i2 s c2 hcM hfs
          obtain ⟨c'', h3, h4⟩ := hfin c' h1 (by omega)
          exact ⟨c'', h3, by omega⟩
      · subst hFe
        refine ⟨fun t ht => ?_, fun t c2 hcM2 hft => ?_, fun s c2 hcM2 hs hfs => ?_⟩
        · unfold upd
          by_cases e : t = k ||| own
          · rw [if_pos e]
            refine Or.inr ⟨c + 1, rfl, ?_, ?_⟩
            · rw [e, if_pos huu]; omega
            · rw [e]; exact rch_snoc hcR hin
          · rw [if_neg e]; exact i1 t ht
        · obtain ⟨c', h1, h2⟩ := i2 t c2 hcM2 hft
          unfold upd
          by_cases e : t = k ||| own
          · rw [if_pos e]
            subst e
            have := hlow c' h1 (by omega)
            exact ⟨c + 1, rfl, by omega⟩
          · rw [if_neg e]; exact ⟨c', h1, h2⟩
        · unfold upd
          by_cases e : s ||| own = k ||| own
          · rw [if_pos e]
            refine ⟨c + 1, rfl, ?_⟩
            rcases Nat.lt_or_ge s k with h | h
            · obtain ⟨c', h1, h2⟩ := i3 s c2 hcM2 h hfs
              rw [e] at h1
              have := hlow c' h1 (by omega)
              omega
            · have : s = k := by omega
              subst this
              obtain ⟨c', h1, h2⟩ := i2 s c2 hcM2 hfs
              rw [hc] at h1
              have := (neq (by omega) (by omega)).mp h1
              omega
          · rw [if_neg e]
            rcases Nat.lt_or_ge s k with h | h
            · exact i3 s c2 hcM2 h hfs
            · have : s = k := by omega
              subst this
              exact absurd rfl e
  obtain ⟨k1, k2, k3⟩ := key 128 (Nat.le_refl _) _ rfl
  refine ⟨fun t ht => ?_, ?_⟩
  · rcases k1 t ht with h | ⟨c, h1, h2, h3⟩
    · exact Or.inl h
    · refine Or.inr ⟨c, h1, ?_, h3⟩
      split at h2 <;> omega
  · -- completeness
    have comp : ∀ S : List Nat, (∀ x ∈ S, x ∈ gs ++ [own]) → ∃ S1 : List Nat, (∀ x ∈ S1, x ∈ gs) ∧ ((un S = un S1 ∧ S1.length ≤ S.length) ∨ (un S = un S1 ||| own ∧ S1.length + 1 ≤ S.length)) := by
      intro S
      induction S with
      | nil => intro _; exact ⟨[], by simp, Or.inl ⟨rfl, Nat.le_refl _⟩⟩
      | cons x r ih =>
        intro hS
        obtain ⟨S1, g1, g2⟩ := ih (fun y hy => hS y (by simp [hy]))
        have hx := hS x (by simp)
        simp only [List.mem_append, List.mem_cons, List.not_mem_nil, or_false] at hx
        rcases hx with hx | rfl
        · refine ⟨x :: S1, fun y hy => ?_, ?_⟩
          · rcases List.mem_cons.mp hy with rfl | h
            · exact hx
            · exact g1 y h
          · rcases g2 with ⟨e, hl⟩ | ⟨e, hl⟩
            · exact Or.inl ⟨by rw [un_cons, un_cons, e], by simp; omega⟩
            · exact Or.inr ⟨by rw [un_cons, un_cons, e, Nat.or_assoc], by simp; omega⟩
        · refine ⟨S1, g1, Or.inr ?_⟩
          rcases g2 with ⟨e, hl⟩ | ⟨e, hl⟩
          · exact ⟨by rw [un_cons, e, Nat.or_comm], by simp; omega⟩
          · exact ⟨by rw [un_cons, e, Nat.or_comm x, Nat.or_assoc, Nat.or_self], by simp; omega⟩
    intro S hS
    obtain ⟨S1, g1, g2⟩ := comp S hS
    obtain ⟨c1, e1, hc1, hc1M⟩ := s2 S1 g1
    have hlt : un S1 < 128 := un_lt (fun x hx => hgs x (g1 x hx))
    rcases g2 with ⟨e, hl⟩ | ⟨e, hl⟩
    · obtain ⟨c', h1, h2⟩ := k2 _ c1 hc1M e1
      exact ⟨c', by rw [e]; exact h1, by omega, by omega⟩
    · obtain ⟨c', h1, h2⟩ := k3 _ c1 hc1M hlt e1
      exact ⟨c', by rw [e]; exact h1, by omega, by omega⟩
theorem upass_all : ∀ (owns gs : List Nat) (M : Nat) (f : Nat → Int32), (∀ x ∈ owns, x < 128) → (∀ x ∈ gs, x < 128) → M + owns.length ≤ 100 → FwR gs M f → FwR (gs ++ owns) (M + owns.length) (owns.foldl upass f)
  | [], gs, M, f, _, _, _, h => by simpa using h
  | o :: owns, gs, M, f, ho, hg, hM, h => by
    have h1 := upass_spec (ho o (by simp)) hg (by simp at hM; omega) h
    have := upass_all owns (gs ++ [o]) (M + 1) (upass f o) (fun x hx => ho x (by simp [hx])) (fun x hx => by
      simp only [List.mem_append, List.mem_cons, List.not_mem_nil, or_false] at hx
      rcases hx with h | rfl
      · exact hg x h
      · exact ho x (by simp)) (by simp at hM; omega) h1
    simp only [List.append_assoc, List.cons_append, List.nil_append] at this
    rw [List.foldl_cons, List.length_cons, show M + (owns.length + 1) = M + 1 + owns.length by omega]
    exact this
theorem FwR.mem {gs : List Nat} {M : Nat} {f : Nat → Int32} (hM : M < 100) (h : FwR gs M f) {t : Nat} (ht : t < 128) : (¬ f t < 0 ↔ Mem gs t) := by
  constructor
  · intro hn
    rcases h.1 t ht with h' | ⟨c, -, -, h3⟩
    · exact absurd (by rw [h']; exact m2_lt) hn
    · exact mem_iff_rch.mpr ⟨c, h3⟩
  · rintro ⟨S, h1, rfl⟩
    obtain ⟨c, e, -, hc⟩ := h.2 S h1
    rw [e]
    exact lt0_nI (by omega)
