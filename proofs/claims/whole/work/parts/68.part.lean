/-! two loops side by side -/
theorem lpp_n {S1 C1 S2 C2 : Type} {b1 : (S1 → Option C1) → S1 → Option C1} {b2 : (S2 → Option C2) → S2 → Option C2} (I : Nat → S1 → S2 → Prop) (N : Nat) (Q : Option C1 → Option C2 → Prop)
    (hstep : ∀ k s1 s2 rec1 rec2, k < N → I k s1 s2 → (∃ s1' s2', I (k + 1) s1' s2' ∧ b1 rec1 s1 = rec1 s1' ∧ b2 rec2 s2 = rec2 s2') ∨ Q (b1 rec1 s1) (b2 rec2 s2)) (hexit : ∀ s1 s2 rec1 rec2, I N s1 s2 → Q (b1 rec1 s1) (b2 rec2 s2)) : ∀ (d k f1 f2 : Nat) (s1 : S1) (s2 : S2), k + d = N → d < f1 → d < f2 → I k s1 s2 → Q (lp b1 f1 s1) (lp b2 f2 s2)
  | 0, k, f1, f2, s1, s2, hk, h1, h2, hi => by
    obtain ⟨g1, rfl⟩ : ∃ g, f1 = g + 1 := ⟨f1 - 1, by omega⟩
    obtain ⟨g2, rfl⟩ : ∃ g, f2 = g + 1 := ⟨f2 - 1, by omega⟩
    have : k = N := by omega
    subst this
    exact hexit s1 s2 _ _ hi
  | d + 1, k, f1, f2, s1, s2, hk, h1, h2, hi => by
    obtain ⟨g1, rfl⟩ : ∃ g, f1 = g + 1 := ⟨f1 - 1, by omega⟩
    obtain ⟨g2, rfl⟩ : ∃ g, f2 = g + 1 := ⟨f2 - 1, by omega⟩
    rcases hstep k s1 s2 (lp b1 g1) (lp b2 g2) (by omega) hi with ⟨s1', s2', hi', e1, e2⟩ | h
    · show Q (b1 (lp b1 g1) s1) (b2 (lp b2 g2) s2)
      rw [e1, e2]
      exact lpp_n I N Q hstep hexit d (k + 1) g1 g2 s1' s2' (by omega) (by omega) (by omega) hi'
    · exact h
theorem lpp {S1 C1 S2 C2 : Type} {b1 : (S1 → Option C1) → S1 → Option C1} {b2 : (S2 → Option C2) → S2 → Option C2} (I : Nat → S1 → S2 → Prop) (N : Nat) (Q : Option C1 → Option C2 → Prop) {s1 : S1} {s2 : S2} (h0 : I 0 s1 s2) (hN : N < 4096)
    (hstep : ∀ k s1 s2 rec1 rec2, k < N → I k s1 s2 → (∃ s1' s2', I (k + 1) s1' s2' ∧ b1 rec1 s1 = rec1 s1' ∧ b2 rec2 s2 = rec2 s2') ∨ Q (b1 rec1 s1) (b2 rec2 s2)) (hexit : ∀ s1 s2 rec1 rec2, I N s1 s2 → Q (b1 rec1 s1) (b2 rec2 s2)) : Q (lp b1 FU s1) (lp b2 FU s2) :=
  lpp_n I N Q hstep hexit N 0 FU FU s1 s2 (by omega) hN hN h0
/-! part -/
def bI (b : Bool) : Int32 := if b then 1 else 0
def inP (p : Nat) (b : Bool) (m : Nat) : Bool := m.testBit p == b
theorem inP_bit {m p : Nat} {b : Bool} : (if m.testBit p = true then (if (1 : Int32) = bI b then some (1 : Int32) else some 0) else (if (0 : Int32) = bI b then some 1 else some 0)) = some (bI (inP p b m)) := by
  unfold inP bI
  cases m.testBit p <;> cases b <;> decide
theorem inP_c {σ : Wd} {gs : List Nat} (h : RowR σ 95 (mems gs)) {k p : Nat} (hk : k < (mems gs).length) (hp : p < 7) (b : Bool) : X0_isInPart σ (nI k) (nI p) (bI b) = some (bI (inP p b (mems gs)[k])) := by
  rw [X0_isInPart, mem_at h hk, sbind, f_bit _ (mem_at_lt hk) p hp, ← inP_bit]
  by_cases e : (mems gs)[k].testBit p = true
  · rw [if_pos e, if_pos (by decide), if_pos e]
  · rw [if_neg e, if_neg (by decide), if_neg e]
theorem inP_m {t p : Nat} (ht : t < 128) (hp : p < 7) (b : Bool) : X11_has (nI t) (nI p) = bI b ↔ inP p b t = true := by
  rw [f_has t ht p hp]
  unfold inP bI
  cases t.testBit p <;> cases b <;> decide
theorem bI_0 (b : Bool) : bI b = 0 ↔ b = false := by cases b <;> decide
def cntP (gs : List Nat) (p : Nat) (b : Bool) : Nat := (mems gs).countP (inP p b)
theorem cntP_c {σ : Wd} {n : Nat} {gs : List Nat} (h : FamR σ n gs) {p : Nat} (hp : p < 7) (b : Bool) : X0_countPart σ (nI p) (bI b) = some (nI (cntP gs p b)) := by
  have ht : cntP gs p true = cntA gs (2 ^ p) := by
    rw [← cnt_bit]; unfold cntP inP
    apply List.countP_congr
    intro m _; simp
  have hf : cntP gs p false = (mems gs).length - cntA gs (2 ^ p) := by
    have := List.length_eq_countP_add_countP (fun m : Nat => m.testBit p) (l := mems gs)
    rw [← cnt_bit, this]
    have e : cntP gs p false = (mems gs).countP (fun m => decide ¬ m.testBit p = true) := by
      unfold cntP inP
      apply List.countP_congr
      intro m _; simp
    rw [e]; omega
  rw [X0_countPart, often_ok h hp]
  have hle : cntA gs (2 ^ p) ≤ (mems gs).length := List.countP_le_length
  cases b
  · rw [if_pos (by decide), sbind, h.mem.1, nsub hle, hf]
  · rw [if_neg (by decide), sbind, ht]
def unP (p : Nat) (b : Bool) (x m : Nat) : Nat := if inP p b m then x ||| m else x
def coP (p : Nat) (b : Bool) (x m : Nat) : Nat := if inP p b m then x &&& m else x
theorem unP_lt {p : Nat} {b : Bool} {x m : Nat} (hx : x < 128) (hm : m < 128) : unP p b x m < 128 := by
  unfold unP
  by_cases e : inP p b m = true
  · rw [if_pos e]; exact or_lt hx hm
  · rw [if_neg e]; exact hx
theorem coP_lt {p : Nat} {b : Bool} {x m : Nat} (hx : x < 128) : coP p b x m < 128 := by
  unfold coP
  by_cases e : inP p b m = true
  · rw [if_pos e]; exact and_lt8 hx
  · rw [if_neg e]; exact hx
theorem unionP_c {σ : Wd} {n : Nat} {gs : List Nat} (h : FamR σ n gs) {p : Nat} (hp : p < 7) (b : Bool) : X0_unionOfPart σ (nI p) (bI b) = some (if cntP gs p b = 0 then -2 else nI ((mems gs).foldl (unP p b) 0)) := by
  have hc : cntP gs p b ≤ 128 := Nat.le_trans List.countP_le_length (mems_len gs)
  unfold X0_unionOfPart
  rw [lp_fold (mems gs) (unP p b) (fun x k => (nI x, nI k)) 0 (fun x => X0_unionOfPart_T46 σ (nI p) (bI b) (nI x)) (fun _ x => x < 128) (by decide) (fun k x hk hx => unP_lt hx (mem_at_lt hk)) (by rw [nI_0]) (mems_4096 gs) (fun k x hk hx rec => ?_) (fun x hx rec => ?_)]
  · rw [X0_unionOfPart_T46, cntP_c h hp, sbind]
    by_cases e : cntP gs p b = 0
    · rw [if_pos (by rw [e]; exact nI_0), if_pos e]
    · rw [if_neg (nI_ne0 (by omega) (by omega)), if_neg e]
  · show X0_unionOfPart_B5 σ (nI p) (bI b) _ rec (nI x, nI k) = rec (nI (unP p b x (mems gs)[k]), nI (k + 1))
    rw [X0_unionOfPart_B5, if_neg (mem_go h.mem hk), inP_c h.mem hk hp, sbind, unP]
    by_cases e : inP p b (mems gs)[k] = true
    · rw [if_neg (fun h => by rw [bI_0, e] at h; exact absurd h (by decide)), mem_at h.mem hk, sbind, f_or x hx _ (mem_at_lt hk), X0_unionOfPart_J40, nI_1, if_pos e]
    · rw [if_pos ((bI_0 _).mpr (by simpa using e)), X0_unionOfPart_J40, nI_1, if_neg e]
  · show X0_unionOfPart_B5 σ (nI p) (bI b) _ rec (nI x, nI (mems gs).length) = _
    rw [X0_unionOfPart_B5, if_pos (mem_stop h.mem)]
theorem commonP_c {σ : Wd} {n : Nat} {gs : List Nat} (h : FamR σ n gs) (hn : n ≤ 7) {p : Nat} (hp : p < 7) (b : Bool) : X0_commonOfPart σ (nI p) (bI b) = some (if cntP gs p b = 0 then -2 else nI ((mems gs).foldl (coP p b) (2 ^ n - 1))) := by
  have hc : cntP gs p b ≤ 128 := Nat.le_trans List.countP_le_length (mems_len gs)
  have h2 := p2_le hn
  have hpp := p2_pos n
  unfold X0_commonOfPart
  rw [X0_allPoints, h.pts, f_all n hn, lp_fold (mems gs) (coP p b) (fun x k => (nI x, nI k)) (2 ^ n - 1) (fun x => X0_commonOfPart_T49 σ (nI p) (bI b) (nI x)) (fun _ x => x < 128) (by omega) (fun k x hk hx => coP_lt hx) (by rw [nI_0]) (mems_4096 gs) (fun k x hk hx rec => ?_) (fun x hx rec => ?_)]
  · rw [X0_commonOfPart_T49, cntP_c h hp, sbind]
    by_cases e : cntP gs p b = 0
    · rw [if_pos (by rw [e]; exact nI_0), if_pos e]
    · rw [if_neg (nI_ne0 (by omega) (by omega)), if_neg e]
  · show X0_commonOfPart_B8 σ (nI p) (bI b) _ rec (nI x, nI k) = rec (nI (coP p b x (mems gs)[k]), nI (k + 1))
    rw [X0_commonOfPart_B8, if_neg (mem_go h.mem hk), inP_c h.mem hk hp, sbind, coP]
    by_cases e : inP p b (mems gs)[k] = true
    · rw [if_neg (fun h => by rw [bI_0, e] at h; exact absurd h (by decide)), mem_at h.mem hk, sbind, f_and x hx _ (mem_at_lt hk), X0_commonOfPart_J43, nI_1, if_pos e]
    · rw [if_pos ((bI_0 _).mpr (by simpa using e)), X0_commonOfPart_J43, nI_1, if_neg e]
  · show X0_commonOfPart_B8 σ (nI p) (bI b) _ rec (nI x, nI (mems gs).length) = _
    rw [X0_commonOfPart_B8, if_pos (mem_stop h.mem)]
theorem mems_or {gs : List Nat} (hg : ∀ x ∈ gs, x < 128) {s t : Nat} (h1 : s ∈ mems gs) (h2 : t ∈ mems gs) : s ||| t ∈ mems gs := (mems_mem hg).mpr (((mems_mem hg).mp h1).or ((mems_mem hg).mp h2))
theorem inP_or {p : Nat} {b : Bool} {s t : Nat} (h1 : inP p b s = true) (h2 : inP p b t = true) : inP p b (s ||| t) = true := by
  unfold inP at *
  rw [Nat.testBit_or]
  rw [beq_iff_eq] at *
  rw [h1, h2, Bool.or_self]
theorem idx_get {gs : List Nat} {t : Nat} (h : t ∈ mems gs) : ∃ hk : (mems gs).idxOf t < (mems gs).length, (mems gs)[(mems gs).idxOf t] = t := ⟨List.idxOf_lt_length_of_mem h, List.getElem_idxOf _⟩
theorem closedC_ok {σ : Wd} {n : Nat} {gs : List Nat} (hg : ∀ x ∈ gs, x < 128) (h : FamR σ n gs) {p : Nat} (hp : p < 7) (b : Bool) : X0_isPartClosed σ (nI p) (bI b) = some 1 := by
  have hl := mems_len gs
  unfold X0_isPartClosed
  refine lp_tr (fun k => nI k) (mems gs).length _ nI_0.symm (mems_4096 gs) (fun i hi rec => ?_) (fun rec => ?_)
  · rw [X0_isPartClosed_B2, if_neg (mem_go h.mem hi), nI_1, lp_tr (body := X0_isPartClosed_B18 σ (nI i) (nI p) (bI b) (X0_isPartClosed_T102 rec (nI i))) (fun j => nI (i + 1 + j)) ((mems gs).length - (i + 1)) (rec (nI (i + 1))) rfl (by omega) (fun j hj rec' => ?_) (fun rec' => ?_)]
    · have hj' : i + 1 + j < (mems gs).length := by omega
      rw [X0_isPartClosed_B18, if_neg (mem_go h.mem hj'), inP_c h.mem hi hp, sbind, inP_c h.mem hj' hp, sbind]
      have hJ0 : X0_isPartClosed_J55 rec' σ (nI i) (nI p) (bI b) (nI (i + 1 + j)) = rec' (nI (i + 1 + j + 1)) := by
        rw [X0_isPartClosed_J55, X0_isPartClosed_J58, if_pos rfl, X0_isPartClosed_J96, nI_1]
      show _ = rec' (nI (i + 1 + j + 1))
      by_cases e1 : inP p b (mems gs)[i] = true
      · rw [if_neg (fun h => by rw [bI_0, e1] at h; exact absurd h (by decide))]
        by_cases e2 : inP p b (mems gs)[i + 1 + j] = true
        · have hor := mems_or hg (List.getElem_mem hi) (List.getElem_mem hj')
          obtain ⟨k1, k2⟩ := idx_get hor
          rw [if_neg (fun h => by rw [bI_0, e2] at h; exact absurd h (by decide)), X0_isPartClosed_J58, if_neg (by decide), mem_at h.mem hi, sbind, mem_at h.mem hj', sbind, f_or _ (mem_at_lt hi) _ (mem_at_lt hj'), num_ok h.num (mems_lt hor), sbind, numB_in hor, inP_c h.mem k1 hp, sbind, k2, inP_or e1 e2, if_neg (by decide), X0_isPartClosed_J96, nI_1]
        · rw [if_pos ((bI_0 _).mpr (by simpa using e2)), hJ0]
      · rw [if_pos ((bI_0 _).mpr (by simpa using e1)), hJ0]
    · rw [X0_isPartClosed_B18, show i + 1 + ((mems gs).length - (i + 1)) = (mems gs).length by omega, if_pos (mem_stop h.mem), X0_isPartClosed_T102, nI_1]
  · rw [X0_isPartClosed_B2, if_pos (mem_stop h.mem)]
theorem closedM_ok {σ : Wd} {gs : List Nat} (hg : ∀ x ∈ gs, x < 128) (h : LayR σ gs) {p : Nat} (hp : p < 7) (b : Bool) : X11_isClosed σ (nI p) (bI b) = some 1 := by
  have hl := mems_len gs
  unfold X11_isClosed
  refine lp_tr (fun k => nI k) (mems gs).length _ nI_0.symm (mems_4096 gs) (fun i hi rec => ?_) (fun rec => ?_)
  · rw [X11_isClosed_B2, if_neg (lay_go h hi), lp_tr (body := X11_isClosed_B13 σ (nI i) (nI p) (bI b) (X11_isClosed_T95 rec (nI i))) (fun j => nI j) (mems gs).length (rec (nI (i + 1))) nI_0.symm (mems_4096 gs) (fun j hj rec' => ?_) (fun rec' => ?_)]
    · have hor := mems_or hg (List.getElem_mem hi) (List.getElem_mem hj)
      have hi8 := k128 hi
      have hj8 := k128 hj
      rw [X11_isClosed_B13, if_neg (lay_go h hj), ckA_n hi8 (by omega), ckA_n hj8 (by omega), ncl (by omega), ncl (by omega), lay_at h hi, lay_at h hj, f_or _ (mem_at_lt hi) _ (mem_at_lt hj)]
      dsimp only [lett]
      rw [ckA_n hi8 (by omega), ckA_n hj8 (by omega), ckA_n (mems_lt hor) (by omega), ncl (by have := mems_lt hor; omega), h.1 _ (mems_lt hor), if_pos ((mem_iff_famB (mems_lt hor)).mp hor), X11_isClosed_J89, nI_1]
      by_cases e1 : inP p b (mems gs)[i] = true
      · rw [if_pos ((inP_m (mem_at_lt hi) hp b).mpr e1)]
        by_cases e2 : inP p b (mems gs)[j] = true
        · rw [if_pos ((inP_m (mem_at_lt hj) hp b).mpr e2), if_neg (by decide), if_pos ((inP_m (mems_lt hor) hp b).mpr (inP_or e1 e2))]
        · rw [if_neg (fun h => e2 ((inP_m (mem_at_lt hj) hp b).mp h))]
      · rw [if_neg (fun h => e1 ((inP_m (mem_at_lt hi) hp b).mp h))]
    · rw [X11_isClosed_B13, if_pos (lay_stop h), X11_isClosed_T95, nI_1]
  · rw [X11_isClosed_B2, if_pos (lay_stop h)]
theorem partM_ok {σ : Wd} {gs : List Nat} (h : LayR σ gs) {n p : Nat} (hp : p < 7) (hn : n ≤ 7) (b : Bool) (kx : Int32 → Int32 → Int32 → Option (Int32 × Wd)) : lp (X11_part_B38 σ (nI p) (bI b) kx) FU (0, 0, nI (2 ^ n - 1), 0) = kx (nI (cntP gs p b)) (nI ((mems gs).foldl (unP p b) 0)) (nI ((mems gs).foldl (coP p b) (2 ^ n - 1))) := by
  have h2 := p2_le hn
  have hpp := p2_pos n
  have hall : (cntP gs p b, (mems gs).foldl (unP p b) 0, (mems gs).foldl (coP p b) (2 ^ n - 1)) = (mems gs).foldl (fun (s : Nat × Nat × Nat) m => (if inP p b m then s.1 + 1 else s.1, unP p b s.2.1 m, coP p b s.2.2 m)) (0, 0, 2 ^ n - 1) := by
    unfold cntP
    have key : ∀ (l : List Nat) (c x y : Nat), l.foldl (fun (s : Nat × Nat × Nat) m => (if inP p b m then s.1 + 1 else s.1, unP p b s.2.1 m, coP p b s.2.2 m)) (c, x, y) = (c + l.countP (inP p b), l.foldl (unP p b) x, l.foldl (coP p b) y) := by
      intro l
      induction l with
      | nil => intro c x y; rfl
      | cons m r ih =>
        intro c x y
        rw [List.foldl_cons, ih, List.foldl_cons, List.foldl_cons, List.countP_cons]
        by_cases e : inP p b m = true
        · rw [if_pos e, if_pos e]; congr 1; omega
        · rw [if_neg e, if_neg e]; rfl
    rw [key, Nat.zero_add]
  have h1 := congrArg Prod.fst hall
  have h3 := congrArg (fun s => s.2.1) hall
  have h4 := congrArg (fun s => s.2.2) hall
  dsimp only at h1 h3 h4
  rw [h1, h3, h4]
  refine lp_fold (mems gs) (fun (s : Nat × Nat × Nat) m => (if inP p b m then s.1 + 1 else s.1, unP p b s.2.1 m, coP p b s.2.2 m)) (fun s k => (nI s.1, nI s.2.1, nI s.2.2, nI k)) (0, 0, 2 ^ n - 1) (fun s => kx (nI s.1) (nI s.2.1) (nI s.2.2)) (fun _ s => s.2.1 < 128 ∧ s.2.2 < 128) ⟨by show 0 < 128; decide, by show 2 ^ n - 1 < 128; omega⟩ (fun k s hk hs => ⟨unP_lt hs.1 (mem_at_lt hk), coP_lt hs.2⟩) rfl (mems_4096 gs) (fun k s hk hs rec => ?_) (fun s hs rec => ?_)
  · have hk8 := k128 hk
    show X11_part_B38 σ (nI p) (bI b) kx rec (nI s.1, nI s.2.1, nI s.2.2, nI k) = rec (nI (if inP p b (mems gs)[k] then s.1 + 1 else s.1), nI (unP p b s.2.1 (mems gs)[k]), nI (coP p b s.2.2 (mems gs)[k]), nI (k + 1))
    rw [X11_part_B38, if_neg (lay_go h hk), ckA_n hk8 (by omega), ncl (by omega), lay_at h hk, ckA_n hk8 (by omega), f_or _ hs.1 _ (mem_at_lt hk), f_and _ hs.2 _ (mem_at_lt hk)]
    dsimp only [lett]
    rw [ckA_n hk8 (by omega), X11_part_J92, X11_part_J92, nI_1, nI_1, unP, coP]
    by_cases e : inP p b (mems gs)[k] = true
    · rw [if_pos ((inP_m (mem_at_lt hk) hp b).mpr e), if_pos e, if_pos e, if_pos e]
    · rw [if_neg (fun h => e ((inP_m (mem_at_lt hk) hp b).mp h)), if_neg e, if_neg e, if_neg e]
  · show X11_part_B38 σ (nI p) (bI b) kx rec (nI s.1, nI s.2.1, nI s.2.2, nI (mems gs).length) = _
    rw [X11_part_B38, if_pos (lay_stop h)]
theorem q_part {σ : Wd} {a : St} {hs : List St} {tp : List Nat} (hC : CR σ a hs tp) (hM : MR σ a hs tp) (hw : wf a) (x : Int32) (b : Bool) (y : Int32) : ∃ r σ2, X10_part σ x (bI b) y = some r ∧ X11_part σ x (bI b) y = some (r, σ2) ∧ QO σ σ2 a hs tp := by
  have h7 := hw.1.2
  have hg := wf_lt hw
  rcases pk_ix x (n := a.1) (by omega) with hx | hx | ⟨p, hp, rfl⟩
  · exact ⟨-1, σ, by rw [X10_part, c_ptN hC.st (Or.inl hx)]; rfl, by rw [X11_part, m_ptN hM.row hw (Or.inl hx)]; rfl, QO.no hM⟩
  · exact ⟨-1, σ, by rw [X10_part, c_ptN hC.st (Or.inr hx)]; rfl, by rw [X11_part, m_ptN hM.row hw (Or.inr hx)]; rfl, QO.no hM⟩
  have hp7 : p < 7 := by omega
  have hout : (y < 0 ∨ nI 4 ≤ y) → ∃ r σ2, X10_part σ (nI p) (bI b) y = some r ∧ X11_part σ (nI p) (bI b) y = some (r, σ2) ∧ QO σ σ2 a hs tp := by
    intro hy
    refine ⟨-1, σ, ?_, ?_, QO.no hM⟩
    · rw [X10_part, c_pt hC.st hw hp, if_neg (by decide), if_neg (show ¬ y = 0 from out_ne (k := 0) (by decide) hy (by decide)), if_neg (show ¬ y = 1 from out_ne (k := 1) (by decide) hy (by decide)), if_neg (show ¬ y = 2 from out_ne (k := 2) (by decide) hy (by decide)), if_neg (show ¬ y = 3 from out_ne (k := 3) (by decide) hy (by decide))]
    · rw [X11_part, m_pt hM.row hw hp, if_neg (by decide), lit_3, in_no (by decide) hy, if_pos rfl]
  rcases pk_ix y (n := 4) (by decide) with hy | hy | ⟨k, hk, rfl⟩
  · exact hout (Or.inl hy)
  · exact hout (Or.inr hy)
  clear hout
  obtain ⟨τ, e1, l1, m1, s1, f1⟩ := lays_MR hM hw
  have hc : cntP a.2.2.1 p b ≤ 128 := Nat.le_trans List.countP_le_length (mems_len _)
  have hmod : X11_part σ (nI p) (bI b) (nI k) = X11_part_T98 (nI k) τ (nI p) (bI b) (nI (cntP a.2.2.1 p b)) (nI ((mems a.2.2.1).foldl (unP p b) 0)) (nI ((mems a.2.2.1).foldl (coP p b) (2 ^ a.1 - 1))) := by
    rw [X11_part, m_pt hM.row hw hp, if_neg (by decide), show X11_in (nI k) 0 3 = 1 by rw [lit_3]; exact in_in (by decide) hk, if_neg (by decide), e1, sbind, X11_allPoints, m1.row.2.1, f_all a.1 h7, partM_ok l1 hp7 h7]
  have hcls : X10_part σ (nI p) (bI b) (nI k) = (if nI k = 0 then ((X0_countPart σ (nI p) (bI b)).bind fun t4 => some t4) else (if nI k = 1 then ((X0_unionOfPart σ (nI p) (bI b)).bind fun t6 => some t6) else (if nI k = 2 then ((X0_commonOfPart σ (nI p) (bI b)).bind fun t8 => some t8) else (if nI k = 3 then ((X0_isPartClosed σ (nI p) (bI b)).bind fun t10 => some (X10_bit t10)) else some (-1))))) := by
    rw [X10_part, c_pt hC.st hw hp, if_neg (by decide)]
  have hz : nI (cntP a.2.2.1 p b) = 0 ↔ cntP a.2.2.1 p b = 0 := neq (b := 0) (by omega) (by omega)
  rcases (by omega : k = 0 ∨ k = 1 ∨ k = 2 ∨ k = 3) with rfl | rfl | rfl | rfl
  · exact ⟨_, τ, by rw [hcls, if_pos (by decide), cntP_c hC.fam hp7, sbind], by rw [hmod, X11_part_T98, if_pos (by decide)], s1, m1⟩
  · refine ⟨_, τ, by rw [hcls, if_neg (by decide), if_pos (by decide), unionP_c hC.fam hp7, sbind], ?_, s1, m1⟩
    rw [hmod, X11_part_T98, if_neg (by decide), if_pos (by decide)]
    by_cases e : cntP a.2.2.1 p b = 0
    · rw [if_pos (hz.mpr e), if_pos e]
    · rw [if_neg (fun h => e (hz.mp h)), if_neg e]
  · refine ⟨_, τ, by rw [hcls, if_neg (by decide), if_neg (by decide), if_pos (by decide), commonP_c hC.fam h7 hp7, sbind], ?_, s1, m1⟩
    rw [hmod, X11_part_T98, if_neg (by decide), if_neg (by decide), if_pos (by decide)]
    by_cases e : cntP a.2.2.1 p b = 0
    · rw [if_pos (hz.mpr e), if_pos e]
    · rw [if_neg (fun h => e (hz.mp h)), if_neg e]
  · exact ⟨1, τ, by rw [hcls, if_neg (by decide), if_neg (by decide), if_neg (by decide), if_pos (by decide), closedC_ok hg hC.fam hp7, sbind]; rfl, by rw [hmod, X11_part_T98, if_neg (by decide), if_neg (by decide), if_neg (by decide), closedM_ok hg l1 hp7, sbind, if_neg (by decide)], s1, m1⟩
