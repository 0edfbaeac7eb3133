/-! rows of members, each within the next -/
def Lt (a b : Nat) : Prop := a &&& b = a ∧ a ≠ b
def Up (gs : List Nat) : Nat → Nat → Prop
  | 0, a => a ∈ mems gs
  | n + 1, a => a ∈ mems gs ∧ ∃ b, b ∈ mems gs ∧ Lt a b ∧ Up gs n b
def Dn (gs : List Nat) : Nat → Nat → Prop
  | 0, a => a ∈ mems gs
  | n + 1, a => a ∈ mems gs ∧ ∃ b, b ∈ mems gs ∧ Lt b a ∧ Dn gs n b
def Chn (gs : List Nat) : Nat → Nat → Nat → Prop
  | 0, a, b => a = b ∧ a ∈ mems gs
  | n + 1, a, b => a ∈ mems gs ∧ ∃ c, c ∈ mems gs ∧ Lt a c ∧ Chn gs n c b
theorem Up.mem {gs : List Nat} {n a : Nat} (h : Up gs n a) : a ∈ mems gs := by
  cases n with
  | zero => exact h
  | succ n => exact h.1
theorem Up.less {gs : List Nat} : ∀ {n a : Nat}, Up gs (n + 1) a → Up gs n a
  | 0, _, h => h.1
  | n + 1, _, ⟨h1, b, b1, b2, b3⟩ => ⟨h1, b, b1, b2, b3.less⟩
theorem Lt.inc {a b : Nat} (ha : a < 128) (hb : b < 128) (h : Lt a b) : pc a < pc b := by
  have h1 := f_pc_sub a ha b hb h.1
  have h2 : ¬ pc b ≤ pc a := fun hh => h.2 (f_sub_pc a ha b hb h.1 hh)
  omega
theorem Up.bd {gs : List Nat} : ∀ {n a : Nat}, Up gs n a → n + pc a ≤ 7
  | 0, a, h => by have := f_pc8 a (mems_lt h); omega
  | n + 1, a, ⟨h1, b, b1, b2, b3⟩ => by
    have := b3.bd
    have := b2.inc (mems_lt h1) (mems_lt b1)
    omega
theorem Dn.bd {gs : List Nat} : ∀ {n a : Nat}, Dn gs n a → n ≤ pc a
  | 0, a, h => Nat.zero_le _
  | n + 1, a, ⟨h1, b, b1, b2, b3⟩ => by
    have := b3.bd
    have := b2.inc (mems_lt b1) (mems_lt h1)
    omega
theorem up_chn {gs : List Nat} : ∀ {n a : Nat}, Up gs n a ↔ ∃ b, Chn gs n a b
  | 0, a => ⟨fun h => ⟨a, rfl, h⟩, fun ⟨_, _, h⟩ => h⟩
  | n + 1, a => ⟨fun ⟨h1, b, b1, b2, b3⟩ => by
      obtain ⟨c, hc⟩ := up_chn.mp b3
      exact ⟨c, h1, b, b1, b2, hc⟩, fun ⟨c, h1, b, b1, b2, b3⟩ => ⟨h1, b, b1, b2, up_chn.mpr ⟨c, b3⟩⟩⟩
theorem Chn.snoc {gs : List Nat} : ∀ {n a b c : Nat}, Chn gs n a b → c ∈ mems gs → Lt b c → Chn gs (n + 1) a c
  | 0, a, b, c, ⟨h1, h2⟩, hc, hl => ⟨h2, c, hc, h1 ▸ hl, rfl, hc⟩
  | n + 1, a, b, c, ⟨h1, d, d1, d2, d3⟩, hc, hl => ⟨h1, d, d1, d2, d3.snoc hc hl⟩
theorem Chn.last {gs : List Nat} : ∀ {n a b : Nat}, Chn gs n a b → b ∈ mems gs
  | 0, _, _, ⟨h1, h2⟩ => h1 ▸ h2
  | n + 1, _, _, ⟨_, d, _, _, d3⟩ => d3.last
theorem Chn.unsnoc {gs : List Nat} : ∀ {n a b : Nat}, Chn gs (n + 1) a b → ∃ c, Chn gs n a c ∧ Lt c b
  | 0, a, b, ⟨h1, d, d1, d2, d3, d4⟩ => ⟨a, ⟨rfl, h1⟩, d3 ▸ d2⟩
  | n + 1, a, b, ⟨h1, d, d1, d2, d3⟩ => by
    obtain ⟨c, c1, c2⟩ := d3.unsnoc
    exact ⟨c, ⟨h1, d, d1, d2, c1⟩, c2⟩
theorem dn_chn {gs : List Nat} : ∀ {n b : Nat}, Dn gs n b ↔ ∃ a, Chn gs n a b
  | 0, b => ⟨fun h => ⟨b, rfl, h⟩, fun ⟨_, h1, h2⟩ => (h1 ▸ h2 : b ∈ mems gs)⟩
  | n + 1, b => ⟨fun ⟨h1, c, c1, c2, c3⟩ => by
      obtain ⟨a, ha⟩ := dn_chn.mp c3
      exact ⟨a, ha.snoc h1 c2⟩, fun ⟨a, ha⟩ => by
      obtain ⟨c, c1, c2⟩ := ha.unsnoc
      exact ⟨ha.last, c, c1.last, c2, dn_chn.mpr ⟨a, c1⟩⟩⟩
def Mx (P : Nat → Prop) (v : Nat) : Prop := P v ∧ ∀ n, P n → n ≤ v
theorem Mx.uq {P : Nat → Prop} {v w : Nat} (h1 : Mx P v) (h2 : Mx P w) : v = w := Nat.le_antisymm (h2.2 v h1.1) (h1.2 w h2.1)
theorem Lt.tr {a b c : Nat} (h1 : Lt a b) (h2 : Lt b c) : Lt a c := ⟨sub_tr h1.1 h2.1, fun e => by
  subst e
  exact h1.2 (sub_anti h1.1 h2.1)⟩
/-- from none up is as far as from all down -/
theorem up_dn {gs : List Nat} (hg : ∀ x ∈ gs, x < 128) {v w : Nat} (h1 : Mx (fun n => Up gs n 0) v) (h2 : Mx (fun n => Dn gs n (topv gs)) w) : v = w := by
  have hz := mems_zero hg
  have ht := topv_mem hg
  apply Nat.le_antisymm
  · obtain ⟨b, hb⟩ := up_chn.mp h1.1
    by_cases e : b = topv gs
    · exact h2.2 v (dn_chn.mpr ⟨0, e ▸ hb⟩)
    · have : Dn gs (v + 1) (topv gs) := dn_chn.mpr ⟨0, hb.snoc ht ⟨top_un hg rfl b hb.last, e⟩⟩
      have := h2.2 _ this
      omega
  · obtain ⟨a, ha⟩ := dn_chn.mp h2.1
    by_cases e : a = 0
    · exact h1.2 w (up_chn.mpr ⟨topv gs, e ▸ ha⟩)
    · have hm : a ∈ mems gs := (up_chn.mpr ⟨_, ha⟩ : Up gs w a).mem
      have : Up gs (w + 1) 0 := ⟨hz, a, hm, ⟨Nat.zero_and _, fun h => e h.symm⟩, up_chn.mpr ⟨_, ha⟩⟩
      have := h1.2 _ this
      omega
/-- what is above has one that covers between -/
theorem cov_between {gs : List Nat} {a : Nat} (ha : a ∈ mems gs) : ∀ (k b : Nat), pc b ≤ k → b ∈ mems gs → Lt a b → ∃ c, c ∈ mems gs ∧ covB gs c a = true ∧ (c = b ∨ Lt c b)
  | 0, b, hk, hb, hl => by have := hl.inc (mems_lt ha) (mems_lt hb); omega
  | k + 1, b, hk, hb, hl => by
    by_cases e : covB gs b a = true
    · exact ⟨b, hb, e, Or.inl rfl⟩
    · have hn : ¬ ((b ≠ a ∧ a &&& b = a) ∧ ∀ c ∈ mems gs, c ≠ b → c ≠ a → ¬ (a &&& c = a ∧ c &&& b = c)) := fun h => e (covB_iff.mpr h)
      have : ∃ c, c ∈ mems gs ∧ c ≠ b ∧ c ≠ a ∧ a &&& c = a ∧ c &&& b = c := by
        apply Classical.byContradiction
        intro hh
        exact hn ⟨⟨fun h => hl.2 h.symm, hl.1⟩, fun c c1 c2 c3 c4 => hh ⟨c, c1, c2, c3, c4⟩⟩
      obtain ⟨c, c1, c2, c3, c4, c5⟩ := this
      have hcb : Lt c b := ⟨c5, c2⟩
      have hpc := hcb.inc (mems_lt c1) (mems_lt hb)
      obtain ⟨d, d1, d2, d3⟩ := cov_between ha k c (by omega) c1 ⟨c4, fun h => c3 h.symm⟩
      refine ⟨d, d1, d2, Or.inr ?_⟩
      rcases d3 with rfl | d3
      · exact hcb
      · exact d3.tr hcb
theorem up_cov {gs : List Nat} {n a : Nat} (h : Up gs (n + 1) a) : ∃ c, c ∈ mems gs ∧ covB gs c a = true ∧ Up gs n c := by
  obtain ⟨h1, b, b1, b2, b3⟩ := h
  obtain ⟨c, c1, c2, c3⟩ := cov_between h1 (pc b) b (Nat.le_refl _) b1 b2
  refine ⟨c, c1, c2, ?_⟩
  rcases c3 with rfl | c3
  · exact b3
  · have : Up gs (n + 1) c := ⟨c1, b, b1, c3, b3⟩
    exact this.less
theorem cov_lt {gs : List Nat} {hi lo : Nat} (h : covB gs hi lo = true) : Lt lo hi := by
  obtain ⟨⟨h1, h2⟩, -⟩ := covB_iff.mp h
  exact ⟨h2, fun e => h1 e.symm⟩
/-- indices: what lies within comes first -/
theorem idx_order {gs : List Nat} {i j : Nat} (hi : i < (mems gs).length) (hj : j < (mems gs).length) (h : Lt (mems gs)[i] (mems gs)[j]) : i < j := by
  have hp := h.inc (mem_at_lt hi) (mem_at_lt hj)
  rcases Nat.lt_trichotomy i j with hh | hh | hh
  · exact hh
  · subst hh; omega
  · have := List.pairwise_iff_getElem.mp (mems_pc gs) j i hj hi hh
    omega
theorem mx_up {gs : List Nat} {a v : Nat} {V : Nat → Nat} (ha : a ∈ mems gs) (hV : ∀ b, b ∈ mems gs → Lt a b → Mx (fun n => Up gs n b) (V b)) (h1 : v = 0 ∨ ∃ b, b ∈ mems gs ∧ Lt a b ∧ v = V b + 1) (h2 : ∀ b, b ∈ mems gs → covB gs b a = true → V b + 1 ≤ v) : Mx (fun n => Up gs n a) v := by
  constructor
  · rcases h1 with rfl | ⟨b, b1, b2, rfl⟩
    · exact ha
    · exact ⟨ha, b, b1, b2, (hV b b1 b2).1⟩
  · intro n hn
    cases n with
    | zero => exact Nat.zero_le _
    | succ n =>
      obtain ⟨c, c1, c2, c3⟩ := up_cov hn
      have := (hV c c1 (cov_lt c2)).2 n c3
      have := h2 c c1 c2
      omega
theorem mx_dn {gs : List Nat} {a v : Nat} {V : Nat → Nat} (ha : a ∈ mems gs) (hV : ∀ b, b ∈ mems gs → Lt b a → Mx (fun n => Dn gs n b) (V b)) (h1 : v = 0 ∨ ∃ b, b ∈ mems gs ∧ Lt b a ∧ v = V b + 1) (h2 : ∀ b, b ∈ mems gs → Lt b a → V b + 1 ≤ v) : Mx (fun n => Dn gs n a) v := by
  constructor
  · rcases h1 with rfl | ⟨b, b1, b2, rfl⟩
    · exact ha
    · exact ⟨ha, b, b1, b2, (hV b b1 b2).1⟩
  · intro n hn
    cases n with
    | zero => exact Nat.zero_le _
    | succ n =>
      obtain ⟨-, b, b1, b2, b3⟩ := hn
      have := (hV b b1 b2).2 n b3
      have := h2 b b1 b2
      omega
/-! the reference measures -/
def ltB (x1 : Int32) (a b : Nat) : Prop := if x1 = 0 then Lt b a else Lt a b
def MxX (gs : List Nat) (x1 : Int32) (a v : Nat) : Prop := if x1 = 0 then Mx (fun n => Dn gs n a) v else Mx (fun n => Up gs n a) v
theorem MxX.le {gs : List Nat} {x1 : Int32} {a v : Nat} (ha : a < 128) (h : MxX gs x1 a v) : v ≤ 7 := by
  unfold MxX at h
  by_cases e : x1 = 0
  · rw [if_pos e] at h
    have := Dn.bd h.1
    have := f_pc8 a ha
    omega
  · rw [if_neg e] at h
    have := Up.bd h.1
    omega
theorem mx_x {gs : List Nat} {x1 : Int32} {a v : Nat} {V : Nat → Nat} (ha : a ∈ mems gs) (hV : ∀ b, b ∈ mems gs → ltB x1 a b → MxX gs x1 b (V b)) (h1 : v = 0 ∨ ∃ b, b ∈ mems gs ∧ ltB x1 a b ∧ v = V b + 1) (h2 : ∀ b, b ∈ mems gs → ltB x1 a b → V b + 1 ≤ v) : MxX gs x1 a v := by
  unfold MxX ltB at *
  by_cases e : x1 = 0
  · simp only [if_pos e] at *
    exact mx_dn ha hV h1 h2
  · simp only [if_neg e] at *
    exact mx_up ha hV h1 (fun b b1 b2 => h2 b b1 (cov_lt b2))
theorem meas_in {σ : Wd} {gs : List Nat} (h : LayR σ gs) {x1 : Int32} {k : Nat} (hk : k < (mems gs).length) {V : Nat → Nat} (hV : ∀ o, o < (mems gs).length → ltB x1 (mems gs)[k] ((mems gs).getD o 0) → σ 129 o = nI (V o) ∧ V o ≤ 7) (kx : Wd → Option Wd) : ∃ τ v, lp (X11_measures_B37 x1 (nI k) kx) FU (0, up σ 129 k 0) = kx τ ∧ τ 129 k = nI v ∧ v ≤ 8 ∧ (v = 0 ∨ ∃ o, o < (mems gs).length ∧ ltB x1 (mems gs)[k] ((mems gs).getD o 0) ∧ v = V o + 1) ∧ (∀ o, o < (mems gs).length → ltB x1 (mems gs)[k] ((mems gs).getD o 0) → V o + 1 ≤ v) ∧ (∀ o, o ≠ k → τ 129 o = σ 129 o) ∧ ∀ q, q ≠ 129 → τ q = σ q := by
  have hk8 := k128 hk
  have hmk := mem_at_lt hk
  refine lp_c (body := X11_measures_B37 x1 (nI k) kx) (0, up σ 129 k 0) (fun o st => st.1 = nI o ∧ (∀ q, q ≠ 129 → st.2 q = σ q) ∧ (∀ o, o ≠ k → st.2 129 o = σ 129 o) ∧ ∃ v, st.2 129 k = nI v ∧ v ≤ 8 ∧ (v = 0 ∨ ∃ o, o < (mems gs).length ∧ ltB x1 (mems gs)[k] ((mems gs).getD o 0) ∧ v = V o + 1) ∧ (∀ o', o' < o → ltB x1 (mems gs)[k] ((mems gs).getD o' 0) → V o' + 1 ≤ v)) (mems gs).length (fun st => kx st.2) ⟨nI_0.symm, fun q hq => up_ne _ _ _ hq, fun o ho => ?_, 0, ?_, by omega, Or.inl rfl, fun o ho => by omega⟩ (mems_4096 gs) (fun o st ho hi => ?_) (fun st hi rec => ?_) (fun s' hI he => ?_)
  · show up σ 129 k 0 129 o = _
    rw [up_at]; exact if_neg ho
  · show up σ 129 k 0 129 k = _
    rw [up_at]; exact if_pos rfl
  · obtain ⟨x, τ⟩ := st
    obtain ⟨g1, g2, g3, v, g4, g5, g6, g7⟩ := hi
    simp only at g1 g2 g3 g4
    subst g1
    have lτ : LayR τ gs := h.cg (g2 125 (by decide)) (g2 126 (by decide)) (g2 127 (by decide)) (by rw [g2 120 (by decide)])
    have ho8 := k128 ho
    have hmo := mem_at_lt ho
    have hgo := getD_lt ho
    -- the test
    obtain ⟨y5, hy5, hB⟩ : ∃ y5 : Int32, (y5 = 0 ∨ (y5 = 1 ∧ (o ≠ k → ltB x1 (mems gs)[k] ((mems gs).getD o 0)))) ∧ (y5 = 0 → ¬ ltB x1 (mems gs)[k] ((mems gs).getD o 0)) ∧ ∀ rec, X11_measures_B37 x1 (nI k) kx rec (nI o, τ) = X11_measures_J87 (nI k) rec (nI o) y5 τ := by
      have hne : o ≠ k → (mems gs)[o] ≠ (mems gs)[k] := fun h e => h ((List.getElem_inj (mems_nd gs)).mp e)
      unfold ltB
      by_cases e : x1 = 0
      · refine ⟨if (mems gs)[o] &&& (mems gs)[k] = (mems gs)[o] then 1 else 0, ?_, ?_, fun rec => ?_⟩
        · by_cases e2 : (mems gs)[o] &&& (mems gs)[k] = (mems gs)[o]
          · right; rw [if_pos e2]; exact ⟨rfl, fun h => by rw [if_pos e, hgo]; exact ⟨e2, hne h⟩⟩
          · left; rw [if_neg e2]
        · intro h hlt
          rw [if_pos e, hgo] at hlt
          rw [if_pos hlt.1] at h
          exact absurd h (by decide)
        · rw [X11_measures_B37, if_neg (lay_go lτ ho), if_pos e, ckA_n ho8 (by omega), ckA_n hk8 (by omega), ncl (by omega), ncl (by omega), lay_at lτ ho, lay_at lτ hk, f_within _ hmo _ hmk]; rfl
      · refine ⟨if (mems gs)[k] &&& (mems gs)[o] = (mems gs)[k] then 1 else 0, ?_, ?_, fun rec => ?_⟩
        · by_cases e2 : (mems gs)[k] &&& (mems gs)[o] = (mems gs)[k]
          · right; rw [if_pos e2]; exact ⟨rfl, fun h => by rw [if_neg e, hgo]; exact ⟨e2, fun h' => hne h h'.symm⟩⟩
          · left; rw [if_neg e2]
        · intro h hlt
          rw [if_neg e, hgo] at hlt
          rw [if_pos hlt.1] at h
          exact absurd h (by decide)
        · rw [X11_measures_B37, if_neg (lay_go lτ ho), if_neg e, ckA_n hk8 (by omega), ckA_n ho8 (by omega), ncl (by omega), ncl (by omega), lay_at lτ ho, lay_at lτ hk, f_within _ hmk _ hmo]; rfl
    have stay : (∀ rec, X11_measures_J87 (nI k) rec (nI o) y5 τ = rec (nI (o + 1), τ)) → (ltB x1 (mems gs)[k] ((mems gs).getD o 0) → V o + 1 ≤ v) → ∃ s', (s'.1 = nI (o + 1) ∧ (∀ q, q ≠ 129 → s'.2 q = σ q) ∧ (∀ o, o ≠ k → s'.2 129 o = σ 129 o) ∧ ∃ v, s'.2 129 k = nI v ∧ v ≤ 8 ∧ (v = 0 ∨ ∃ o, o < (mems gs).length ∧ ltB x1 (mems gs)[k] ((mems gs).getD o 0) ∧ v = V o + 1) ∧ (∀ o', o' < o + 1 → ltB x1 (mems gs)[k] ((mems gs).getD o' 0) → V o' + 1 ≤ v)) ∧ ∀ rec, X11_measures_B37 x1 (nI k) kx rec (nI o, τ) = rec s' := by
      intro hJ hle
      refine ⟨(nI (o + 1), τ), ⟨rfl, g2, g3, v, g4, g5, g6, fun o' ho' hl => ?_⟩, fun rec => by rw [hB.2, hJ]⟩
      by_cases e : o' = o
      · subst e; exact hle hl
      · exact g7 o' (by omega) hl
    have nself : ¬ ltB x1 (mems gs)[k] ((mems gs).getD k 0) := by
      unfold ltB
      rw [getD_lt hk]
      by_cases e : x1 = 0
      · rw [if_pos e]; exact fun h => h.2 rfl
      · rw [if_neg e]; exact fun h => h.2 rfl
    by_cases eo : o = k
    · subst eo
      exact stay (fun rec => by rw [X11_measures_J87, if_pos rfl, X11_measures_J131, nI_1]) (fun h => absurd h nself)
    · have hno : ¬ nI o = nI k := by rw [neq (by omega) (by omega)]; exact eo
      rcases hy5 with hy | ⟨hy, hlt⟩
      · exact stay (fun rec => by rw [X11_measures_J87, if_neg hno, if_pos hy, X11_measures_J131, nI_1]) (fun h => absurd h (hB.1 hy))
      · have hlt' := hlt eo
        obtain ⟨w1, w2⟩ := hV o ho hlt'
        have w3 : τ 129 o = nI (V o) := by rw [g3 o eo, w1]
        have hJ : ∀ rec, X11_measures_J87 (nI k) rec (nI o) y5 τ = if V o + 1 ≤ v then rec (nI (o + 1), τ) else rec (nI (o + 1), up τ 129 k (nI (V o + 1))) := by
          intro rec
          rw [X11_measures_J87, if_neg hno, if_neg (by rw [hy]; decide), ckA_n ho8 (by omega), ckA_n hk8 (by omega), ncl (by omega), ncl (by omega), w3, g4, nI_1, X11_measures_J131, X11_measures_J131, nI_1, ckA_n ho8 (by omega), ckA_n hk8 (by omega)]
          by_cases e : V o + 1 ≤ v
          · rw [if_pos (by rw [nle (by omega) (by omega)]; exact e), if_pos e]
          · rw [if_neg (by rw [nle (by omega) (by omega)]; exact e), if_neg e]
        by_cases e : V o + 1 ≤ v
        · exact stay (fun rec => by rw [hJ, if_pos e]) (fun _ => e)
        · refine ⟨(nI (o + 1), up τ 129 k (nI (V o + 1))), ⟨rfl, fun q hq => ?_, fun o' ho' => ?_, V o + 1, ?_, by omega, Or.inr ⟨o, ho, hlt', rfl⟩, fun o' ho' hl => ?_⟩, fun rec => by rw [hB.2, hJ, if_neg e]⟩
          · show up τ 129 k (nI (V o + 1)) q = _
            rw [up_ne _ _ _ hq]; exact g2 q hq
          · show up τ 129 k (nI (V o + 1)) 129 o' = _
            rw [up_at]; unfold upd; rw [if_neg ho']; exact g3 o' ho'
          · show up τ 129 k (nI (V o + 1)) 129 k = _
            rw [up_at]; exact if_pos rfl
          · by_cases e' : o' = o
            · subst e'; exact Nat.le_refl _
            · have := g7 o' (by omega) hl; omega
  · obtain ⟨x, τ⟩ := st
    obtain ⟨g1, g2, g3, v, g4, g5, g6, g7⟩ := hi
    simp only at g1 g2 g3 g4
    subst g1
    have lτ : LayR τ gs := h.cg (g2 125 (by decide)) (g2 126 (by decide)) (g2 127 (by decide)) (by rw [g2 120 (by decide)])
    show X11_measures_B37 x1 (nI k) kx rec (nI (mems gs).length, τ) = _
    rw [X11_measures_B37, if_pos (lay_stop lτ)]
  · obtain ⟨g1, g2, g3, v, g4, g5, g6, g7⟩ := hI
    exact ⟨s'.2, v, he, g4, g5, g6, g7, g3, g2⟩
def mpos (x1 : Int32) (N i : Nat) : Nat := if x1 = 0 then i else N - 1 - i
theorem meas_ok {σ : Wd} {gs : List Nat} (h : LayR σ gs) (x1 : Int32) : ∃ τ, X11_measures σ x1 = some τ ∧ (∀ k, k < (mems gs).length → ∃ v, τ 129 k = nI v ∧ MxX gs x1 ((mems gs).getD k 0) v) ∧ ∀ q, q ≠ 129 → τ q = σ q := by
  have hl := mems_len gs
  unfold X11_measures
  refine lp_cr (body := X11_measures_B2 x1) (0, σ) (fun i st => st.1 = nI i ∧ (∀ q, q ≠ 129 → st.2 q = σ q) ∧ ∀ j, j < i → ∃ v, st.2 129 (mpos x1 (mems gs).length j) = nI v ∧ MxX gs x1 ((mems gs).getD (mpos x1 (mems gs).length j) 0) v) (mems gs).length (fun st => some st.2) ⟨nI_0.symm, fun _ _ => rfl, fun j hj => by omega⟩ (mems_4096 gs) (fun i st rec hi hinv => ?_) (fun st rec hinv => ?_) (fun s' hI he => ?_)
  · obtain ⟨x, τ⟩ := st
    obtain ⟨g1, g2, g3⟩ := hinv
    simp only at g1 g2 g3
    subst g1
    have lτ : LayR τ gs := h.cg (g2 125 (by decide)) (g2 126 (by decide)) (g2 127 (by decide)) (by rw [g2 120 (by decide)])
    obtain ⟨k, hkd⟩ : ∃ k, k = mpos x1 (mems gs).length i := ⟨_, rfl⟩
    have hk : k < (mems gs).length := by rw [hkd]; unfold mpos; by_cases e : x1 = 0 <;> simp only [e, if_true, if_false] <;> omega
    have hk8 := k128 hk
    -- what is compared stands
    have hdone : ∀ o, o < (mems gs).length → ltB x1 (mems gs)[k] ((mems gs).getD o 0) → ∃ j, j < i ∧ mpos x1 (mems gs).length j = o := by
      intro o ho hlt
      unfold ltB at hlt
      rw [getD_lt ho] at hlt
      unfold mpos at hkd ⊢
      by_cases e : x1 = 0
      · simp only [if_pos e] at hlt hkd ⊢
        have := idx_order ho hk hlt
        exact ⟨o, by omega, rfl⟩
      · simp only [if_neg e] at hlt hkd ⊢
        have := idx_order hk ho hlt
        exact ⟨(mems gs).length - 1 - o, by omega, by omega⟩
    have hex : ∀ o, ∃ v, o < (mems gs).length → ltB x1 (mems gs)[k] ((mems gs).getD o 0) → (τ 129 o = nI v ∧ MxX gs x1 ((mems gs).getD o 0) v) := by
      intro o
      by_cases h1 : o < (mems gs).length ∧ ltB x1 (mems gs)[k] ((mems gs).getD o 0)
      · obtain ⟨j, j1, j2⟩ := hdone o h1.1 h1.2
        obtain ⟨v, v1, v2⟩ := g3 j j1
        rw [j2] at v1 v2
        exact ⟨v, fun _ _ => ⟨v1, v2⟩⟩
      · exact ⟨0, fun a b => absurd ⟨a, b⟩ h1⟩
    obtain ⟨V, hVV⟩ : ∃ V : Nat → Nat, ∀ o, o < (mems gs).length → ltB x1 (mems gs)[k] ((mems gs).getD o 0) → (τ 129 o = nI (V o) ∧ MxX gs x1 ((mems gs).getD o 0) (V o)) := ⟨fun o => Classical.choose (hex o), fun o => Classical.choose_spec (hex o)⟩
    obtain ⟨τ', v, q1, q2, q3, q4, q5, q6, q7⟩ := meas_in lτ (x1 := x1) hk (V := V) (fun o ho hlt => ⟨(hVV o ho hlt).1, (hVV o ho hlt).2.le (mems_getD_lt ho)⟩) (X11_measures_T137 rec (nI i))
    have hmx : MxX gs x1 (mems gs)[k] v := by
      refine mx_x (V := fun b => V ((mems gs).idxOf b)) (List.getElem_mem hk) (fun b hb hlt => ?_) ?_ (fun b hb hlt => ?_)
      · obtain ⟨k1, k2⟩ := idx_get hb
        have : (mems gs).getD ((mems gs).idxOf b) 0 = b := by rw [getD_lt k1, k2]
        have := (hVV _ k1 (by rw [this]; exact hlt)).2
        rwa [getD_lt k1, k2] at this
      · rcases q4 with h | ⟨o, o1, o2, o3⟩
        · exact Or.inl h
        · refine Or.inr ⟨(mems gs).getD o 0, mems_getD o1, o2, ?_⟩
          rw [getD_lt o1, (mems_nd gs).idxOf_getElem]; exact o3
      · obtain ⟨k1, k2⟩ := idx_get hb
        exact q5 _ k1 (by rw [getD_lt k1, k2]; exact hlt)
    refine ⟨(nI (i + 1), τ'), ⟨rfl, fun q hq => by rw [← g2 q hq]; exact q7 q hq, fun j hj => ?_⟩, ?_⟩
    · by_cases e : j = i
      · rw [e, ← hkd]
        exact ⟨v, q2, by rw [getD_lt hk]; exact hmx⟩
      · obtain ⟨w, w1, w2⟩ := g3 j (by omega)
        refine ⟨w, ?_, w2⟩
        show τ' 129 (mpos x1 (mems gs).length j) = nI w
        rw [q6 _ ?_]
        · exact w1
        · rw [hkd]; unfold mpos
          by_cases e2 : x1 = 0
          · simp only [if_pos e2]; exact e
          · simp only [if_neg e2]; omega
    · have hJ : X11_measures_J27 x1 rec (nI i) (nI k) τ = rec (nI (i + 1), τ') := by
        rw [X11_measures_J27, ckA_n hk8 (by omega), ncl (by omega), q1, X11_measures_T137, nI_1]
      rw [X11_measures_B2, if_neg (lay_go lτ hi)]
      by_cases e : x1 = 0
      · have : k = i := by rw [hkd, mpos, if_pos e]
        rw [if_pos e, ← hJ, this]
      · have hk' : k = (mems gs).length - 1 - i := by rw [hkd, mpos, if_neg e]
        rw [if_neg e, lτ.2.1, show (1 : Int32) = nI 1 from rfl, nsub (by omega), nsub (by omega), ← hk', hJ]
  · obtain ⟨x, τ⟩ := st
    obtain ⟨g1, g2, g3⟩ := hinv
    simp only at g1 g2 g3
    subst g1
    have lτ : LayR τ gs := h.cg (g2 125 (by decide)) (g2 126 (by decide)) (g2 127 (by decide)) (by rw [g2 120 (by decide)])
    show X11_measures_B2 x1 rec (nI (mems gs).length, τ) = _
    rw [X11_measures_B2, if_pos (lay_stop lτ)]
  · refine ⟨s'.2, he, fun k hk => ?_, hI.2.1⟩
    obtain ⟨j, j1, j2⟩ : ∃ j, j < (mems gs).length ∧ mpos x1 (mems gs).length j = k := by
      unfold mpos
      by_cases e : x1 = 0
      · simp only [if_pos e]; exact ⟨k, hk, rfl⟩
      · simp only [if_neg e]; exact ⟨(mems gs).length - 1 - k, by omega, by omega⟩
    have := hI.2.2 j j1
    rwa [j2] at this
