/-! a clause, as the class reads it -/
def digAt (tp : List Nat) (lo hi i : Nat) : Bool := decide (i < tp.length) && (decide (48 + lo ≤ tp.getD i 0) && decide (tp.getD i 0 ≤ 48 + hi))
def endAt (tp : List Nat) (i : Nat) : Bool := decide (i < tp.length) && (tp.getD i 0 == 59)
def endO (tp : List Nat) (a : St) (p : Nat) : Sum Nat (Nat × St) := if endAt tp (skp tp p) then Sum.inr (skp tp p + 1, a) else Sum.inl (skp tp p)
def ptsO (tp : List Nat) (a : St) (e : Nat) : Sum Nat (Nat × St) := if blkAt tp e then (if digAt tp 1 7 (skp tp e) then endO tp (tp.getD (skp tp e) 0 - 48, a.2.1, a.2.2.1, a.2.2.2) (skp tp e + 1) else Sum.inl (skp tp e)) else Sum.inl e
def wgtO (tp : List Nat) (a : St) (e : Nat) : Sum Nat (Nat × St) := if blkAt tp e then (if lnd tp (skp tp e) = skp tp e + 1 ∧ tp.getD (skp tp e) 0 - 97 < a.1 then (if blkAt tp (lnd tp (skp tp e)) then (if digAt tp 0 9 (skp tp (lnd tp (skp tp e))) then endO tp (a.1, a.2.1.set (tp.getD (skp tp e) 0 - 97) (tp.getD (skp tp (lnd tp (skp tp e))) 0 - 48), a.2.2.1, a.2.2.2) (skp tp (lnd tp (skp tp e)) + 1) else Sum.inl (skp tp (lnd tp (skp tp e)))) else Sum.inl (lnd tp (skp tp e))) else Sum.inl (skp tp e)) else Sum.inl e
def lsetK (tp : List Nat) (n s : Nat) : Nat → Option Nat
  | 0 => some 0
  | k + 1 => match lsetK tp n s k with
    | none => none
    | some t => if n ≤ tp.getD (s + k) 0 - 97 ∨ t.testBit (tp.getD (s + k) 0 - 97) = true then none else some (t ||| 2 ^ (tp.getD (s + k) 0 - 97))
def setO (tp : List Nat) (a : St) (e : Nat) : Sum Nat (Nat × St) := if blkAt tp e then (match lsetK tp a.1 (skp tp e) (lnd tp (skp tp e) - skp tp e) with
  | none => Sum.inl (skp tp e)
  | some t => if t = 0 ∨ t ∈ a.2.2.1 then Sum.inl (skp tp e) else endO tp (a.1, a.2.1, a.2.2.1 ++ [t], a.2.2.2) (lnd tp (skp tp e))) else Sum.inl e
def clO (tp : List Nat) (first : Bool) (a : St) (p : Nat) : Sum Nat (Nat × St) := if (isW tp 0 p (lnd tp p) && first) = true then ptsO tp a (lnd tp p) else if isW tp 1 p (lnd tp p) = true then wgtO tp a (lnd tp p) else if (isW tp 2 p (lnd tp p) && decide (a.2.2.1.length < 12)) = true then setO tp a (lnd tp p) else Sum.inl p
def CO (σ : Wd) (tp : List Nat) (o : Sum Nat (Nat × St)) (τ : Wd) : Prop := (∃ f, o = Sum.inl f ∧ f < 1000 ∧ WK σ tp f 890 τ) ∨ ∃ p a, o = Sum.inr (p, a) ∧ RS σ tp a p τ
theorem skp_le {tp : List Nat} (hl : tp.length ≤ 300) {i : Nat} (hi : i ≤ 310) : skp tp i ≤ 310 := by
  have := run_le blk tp i; unfold skp; omega
theorem lnd_le {tp : List Nat} (hl : tp.length ≤ 300) {i : Nat} (hi : i ≤ 310) : lnd tp i ≤ 310 := by
  have := run_le ltr tp i; unfold lnd; omega
theorem dig_c {lo hi : Nat} (h : (lo = 1 ∧ hi = 7) ∨ (lo = 0 ∧ hi = 9)) : ∀ c, c < 256 → (nI c - 48 < nI lo ↔ c < 48 + lo) ∧ (nI c - 48 ≤ nI hi ↔ c ≤ 48 + hi ∨ c < 48 + lo) ∧ (48 ≤ c → nI c - 48 = nI (c - 48)) ∧ (-1 - 48 : Int32) < nI lo := by
  have f1 : ∀ c, c < 256 → (nI c - 48 < nI 1 ↔ c < 48 + 1) ∧ (nI c - 48 ≤ nI 7 ↔ c ≤ 48 + 7 ∨ c < 48 + 1) ∧ (48 ≤ c → nI c - 48 = nI (c - 48)) ∧ (-1 - 48 : Int32) < nI 1 := by decide +kernel
  have f2 : ∀ c, c < 256 → (nI c - 48 < nI 0 ↔ c < 48 + 0) ∧ (nI c - 48 ≤ nI 9 ↔ c ≤ 48 + 9 ∨ c < 48 + 0) ∧ (48 ≤ c → nI c - 48 = nI (c - 48)) ∧ (-1 - 48 : Int32) < nI 0 := by decide +kernel
  rcases h with ⟨rfl, rfl⟩ | ⟨rfl, rfl⟩
  · exact f1
  · exact f2
theorem rs_gap {σ τ : Wd} {tp : List Nat} (hl : tp.length ≤ 300) (hb : ∀ x ∈ tp, x < 256) {a : St} (hg : a.2.2.1.length ≤ 12) {p : Nat} (hp : p ≤ 310) (h : RS σ tp a p τ) : (blkAt tp p = true ∧ ∃ τ', X3_expectGap τ = some τ' ∧ RS σ tp a (skp tp p) τ') ∨ (blkAt tp p = false ∧ ∃ τ', X3_expectGap τ = some τ' ∧ WK σ tp p 400 τ') := by
  rw [X3_expectGap, h.1, row87 h.2.2.2.1 hl, sbind, at_blk hl hb (by omega)]
  cases e : blkAt tp p
  · right
    refine ⟨rfl, ?_⟩
    obtain ⟨f1, f2⟩ := h.fail hg p
    obtain ⟨τ', t1, t2⟩ := wk_skip hl hb (f2.mono (K' := 400) (by omega)) (by omega) (by omega)
    exact ⟨τ', by rw [if_pos (by decide), f1, t1, sbind], t2⟩
  · left
    exact ⟨rfl, _, by rw [if_neg (by decide), skipC hl hb (by omega) h.2.2.2.1 h.1, sbind], h.pos _⟩
theorem rs_dig {σ τ : Wd} {tp : List Nat} (hl : tp.length ≤ 300) (hb : ∀ x ∈ tp, x < 256) {a : St} (hg : a.2.2.1.length ≤ 12) {p : Nat} (hp : p ≤ 310) (h : RS σ tp a p τ) {lo hi : Nat} (hlh : (lo = 1 ∧ hi = 7) ∨ (lo = 0 ∧ hi = 9)) : (digAt tp lo hi p = true ∧ ∃ τ', X3_readDigit τ (nI lo) (nI hi) = some (nI (tp.getD p 0 - 48), τ') ∧ RS σ tp a (p + 1) τ') ∨ (digAt tp lo hi p = false ∧ ∃ d τ', X3_readDigit τ (nI lo) (nI hi) = some (d, τ') ∧ WK σ tp p 400 τ') := by
  obtain ⟨f1, f2⟩ := h.fail hg p
  rw [X3_readDigit, h.1, row87 h.2.2.2.1 hl, sbind, atv_i hl (by omega), digAt]
  by_cases e : p < tp.length
  · obtain ⟨d1, d2, d3, d4⟩ := dig_c hlh _ (byte_at hb e)
    rw [if_pos e, decide_eq_true e, Bool.true_and]
    by_cases e1 : tp.getD p 0 < 48 + lo
    · right
      refine ⟨by rw [decide_eq_false (by omega)]; rfl, nI lo, _, by rw [if_pos (d1.mpr e1), f1], f2.mono (by omega)⟩
    · by_cases e2 : tp.getD p 0 ≤ 48 + hi
      · left
        refine ⟨by rw [decide_eq_true (by omega), decide_eq_true e2]; rfl, up τ 89 2 (nI (p + 1)), ?_, h.pos _⟩
        rw [if_neg (fun hh => e1 (d1.mp hh)), if_pos (d2.mpr (Or.inl e2)), nI_1, d3 (by omega)]
      · right
        refine ⟨by rw [decide_eq_false e2, Bool.and_false], nI lo, _, ?_, f2.mono (by omega)⟩
        rw [if_neg (fun hh => e1 (d1.mp hh)), if_neg (fun hh => by rcases d2.mp hh with g | g <;> omega), f1]
  · right
    obtain ⟨-, -, -, d4⟩ := dig_c hlh 0 (by decide)
    refine ⟨by rw [decide_eq_false e]; rfl, nI lo, _, by rw [if_neg e, if_pos d4, f1], f2.mono (by omega)⟩
theorem end_c {σ τ : Wd} {tp : List Nat} (hl : tp.length ≤ 300) (hb : ∀ x ∈ tp, x < 256) {a : St} (hg : a.2.2.1.length ≤ 12) {p : Nat} (hp : p ≤ 310) (h : RS σ tp a p τ) : ∃ τ', X3_expectEnd τ = some τ' ∧ CO σ tp (endO tp a p) τ' := by
  have hs := skp_le hl hp
  have h1 := h.pos (skp tp p)
  obtain ⟨f1, f2⟩ := h1.fail hg (skp tp p)
  rw [X3_expectEnd, skipC hl hb (by omega) h.2.2.2.1 h.1, sbind, row87 h1.2.2.2.1 hl, sbind, h1.1, atv_i hl (by omega), endO, endAt]
  by_cases e : skp tp p < tp.length
  · have hc := byte_at hb e
    rw [if_pos e, decide_eq_true e, Bool.true_and, f1]
    by_cases e2 : tp.getD (skp tp p) 0 = 59
    · refine ⟨_, by rw [if_pos (by rw [e2]; rfl), nI_1], Or.inr ⟨skp tp p + 1, a, by rw [if_pos (by simpa using e2)], h1.pos _⟩⟩
    · have hp2 : up (up τ 89 2 (nI (skp tp p))) 89 3 (nI (skp tp p)) 89 2 = nI (skp tp p) := by
        rw [up_at]; unfold upd; rw [if_neg (by decide)]; exact h1.1
      refine ⟨_, by rw [if_neg (by rw [show (59 : Int32) = nI 59 from rfl, neq (by omega) (by omega)]; exact e2), hp2, nI_1], Or.inl ⟨skp tp p, by rw [if_neg (by simpa using e2)], by omega, f2.pos (by omega)⟩⟩
  · rw [if_neg e, decide_eq_false e, Bool.false_and, f1]
    have hp2 : up (up τ 89 2 (nI (skp tp p))) 89 3 (nI (skp tp p)) 89 2 = nI (skp tp p) := by
      rw [up_at]; unfold upd; rw [if_neg (by decide)]; exact h1.1
    refine ⟨_, by rw [if_neg (by decide), hp2, nI_1], Or.inl ⟨skp tp p, by rw [if_neg (by decide)], by omega, f2.pos (by omega)⟩⟩
theorem wkend_c {σ τ : Wd} {tp : List Nat} (hl : tp.length ≤ 300) (hb : ∀ x ∈ tp, x < 256) {f K : Nat} (hf : f < 1000) (h : WK σ tp f K τ) (hK : K ≤ 700) : ∃ τ', X3_expectEnd τ = some τ' ∧ CO σ tp (Sum.inl f) τ' := by
  obtain ⟨τ', t1, t2⟩ := wk_end hl hb hf (h.mono (K' := 700) hK) (by omega) (by omega)
  exact ⟨τ', t1, Or.inl ⟨f, rfl, hf, t2.mono (by omega)⟩⟩
theorem wk_up7 {σ τ : Wd} {tp : List Nat} {f K : Nat} (h : WK σ tp f K τ) {q : Nat} (hq : q = 7 ∨ q = 12) (i : Nat) (x : Int32) : WK σ tp f K (up τ q i x) := by
  obtain ⟨⟨p, p1, p2⟩, h2, ⟨L, l1, l2⟩, h4, h5⟩ := h
  refine ⟨⟨p, p1, by rw [up_ne _ _ _ (by omega)]; exact p2⟩, by rw [up_ne _ _ _ (by omega)]; exact h2, ⟨L, l1, by rw [up_ne _ _ _ (by omega)]; exact l2⟩, h4.cg (up_ne _ _ _ (by omega)) (up_ne _ _ _ (by omega)), (h5.tr (Fr.up (ps := RP) (by rcases hq with rfl | rfl <;> simp [RP]))).mono (by simp [RP])⟩
theorem pts_c {σ τ : Wd} {tp : List Nat} (hl : tp.length ≤ 300) (hb : ∀ x ∈ tp, x < 256) {a : St} (hg : a.2.2.1.length ≤ 12) {e : Nat} (he : e ≤ 300) (h : RS σ tp a e τ) : ∃ τ1 τ2, X3_readPoints τ = some τ1 ∧ X3_expectEnd τ1 = some τ2 ∧ CO σ tp (ptsO tp a e) τ2 := by
  unfold ptsO
  have hs := skp_le hl (i := e) (by omega)
  rcases rs_gap hl hb hg (by omega) h with ⟨b1, τ1, t1, t2⟩ | ⟨b1, τ1, t1, t2⟩
  · rw [if_pos b1]
    rcases rs_dig hl hb hg (by omega) t2 (Or.inl ⟨rfl, rfl⟩) with ⟨c1, τ2, u1, u2⟩ | ⟨c1, d, τ2, u1, u2⟩
    · rw [if_pos c1]
      have hle : skp tp e < tp.length := by unfold digAt at c1; simp at c1; exact c1.1
      have h3 : RS σ tp (tp.getD (skp tp e) 0 - 48, a.2.1, a.2.2.1, a.2.2.2) (skp tp e + 1) (up τ2 7 3 (nI (tp.getD (skp tp e) 0 - 48))) := by
        obtain ⟨r1, r2, r3, r4, r5⟩ := u2
        refine ⟨by rw [up_ne _ _ _ (by decide)]; exact r1, by rw [up_ne _ _ _ (by decide)]; exact r2, ⟨r3.1.cg (up_ne _ _ _ (by decide)) (up_ne _ _ _ (by decide)), r3.2.1.cg (up_ne _ _ _ (by decide)) (up_ne _ _ _ (by decide)), fun p hp => by rw [up_ne _ _ _ (by decide)]; exact r3.2.2.1 p hp, by rw [up_at]; exact if_pos rfl⟩, r4.cg (up_ne _ _ _ (by decide)) (up_ne _ _ _ (by decide)), (r5.tr (Fr.up (ps := RP) (by simp [RP]))).mono (by simp [RP])⟩
      obtain ⟨τ4, v1, v2⟩ := end_c (a := (tp.getD (skp tp e) 0 - 48, a.2.1, a.2.2.1, a.2.2.2)) (p := skp tp e + 1) hl hb hg (by omega) h3
      exact ⟨_, τ4, by rw [X3_readPoints, t1, sbind, show (1 : Int32) = nI 1 from rfl, show (7 : Int32) = nI 7 from rfl, u1, sbind], v1, v2⟩
    · rw [c1, if_neg (by decide)]
      obtain ⟨τ4, v1, v2⟩ := wkend_c hl hb (by omega) (wk_up7 u2 (Or.inl rfl) 3 d) (by omega)
      exact ⟨_, τ4, by rw [X3_readPoints, t1, sbind, show (1 : Int32) = nI 1 from rfl, show (7 : Int32) = nI 7 from rfl, u1, sbind], v1, v2⟩
  · rw [b1, if_neg (by decide)]
    obtain ⟨d, τ2, u1, u2⟩ := wk_dig hl (by omega) t2 1 7
    obtain ⟨τ4, v1, v2⟩ := wkend_c hl hb (by omega) (wk_up7 u2 (Or.inl rfl) 3 d) (by omega)
    exact ⟨_, τ4, by rw [X3_readPoints, t1, sbind, u1, sbind], v1, v2⟩
theorem wk_setW {σ τ : Wd} {tp : List Nat} {f K : Nat} (h : WK σ tp f K τ) (x y : Int32) : ∃ τ', X7_setWeight τ 7 x y = some τ' ∧ WK σ tp f K τ' := by
  rcases pk_ix x (n := 7) (by decide) with hx | hx | ⟨p, hp, rfl⟩
  · exact ⟨τ, by rw [X7_setWeight, if_pos hx], h⟩
  · refine ⟨τ, ?_, h⟩
    rw [X7_setWeight]
    by_cases e : x < 0
    · rw [if_pos e]
    · rw [if_neg e, show kLn (7 + 5) = 7 from rfl, if_pos hx]
  · refine ⟨up τ 12 p y, ?_, wk_up7 h (Or.inr rfl) p y⟩
    rw [X7_setWeight, if_neg (nneg (by omega)), show kLn (7 + 5) = 7 from rfl, if_neg (by rw [nle (by omega) (by omega)]; omega), ckA_n hp (by omega), ncl (by omega)]
