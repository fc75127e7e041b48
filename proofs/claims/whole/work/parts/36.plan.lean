/-! the totals that both sides choose are the same -/
section Totals
variable {fe mo : Nat → Int32} {F M : Nat → Nat} {nl : Nat}
/-- of all lines with more than la minutes at least, v is the least of the most minutes -/
def NxS (F M : Nat → Nat) (la n v : Nat) : Prop := v ≤ 99 ∧ (∃ k, k < n ∧ la < F k ∧ M k = v) ∧ ∀ k, k < n → la < F k → v ≤ M k
theorem nx_spec (hF : ∀ k, k < nl → fe k = nI (F k)) (hM : ∀ k, k < nl → mo k = nI (M k) ∧ F k ≤ M k ∧ M k ≤ 99) {la : Nat} (hla : la ≤ 99) : ∀ n, n ≤ nl → (nxF fe mo (nI la) n = -1 ∧ ∀ k, k < n → F k ≤ la) ∨ ∃ v, nxF fe mo (nI la) n = nI v ∧ NxS F M la n v
  | 0, _ => Or.inl ⟨rfl, fun k hk => absurd hk (Nat.not_lt_zero k)⟩
  | n + 1, hn => by
    have ih := nx_spec hF hM hla n (by omega)
    obtain ⟨eM, hFM, hM9⟩ := hM n (by omega)
    have eF := hF n (by omega)
    have hcmp : fe n ≤ nI la ↔ F n ≤ la := by rw [eF]; exact nI_leI (by omega) (by omega)
    rw [nxF]
    by_cases h : F n ≤ la
    · rw [if_pos (hcmp.mpr h)]
      rcases ih with ⟨e, ha⟩ | ⟨v, e, hv, ⟨k, hk, h1, h2⟩, h3⟩
      · left
        refine ⟨e, fun k hk => ?_⟩
        by_cases q : k = n
        · subst q; exact h
        · exact ha k (by omega)
      · right
        refine ⟨v, e, hv, ⟨k, by omega, h1, h2⟩, fun k hk hl => ?_⟩
        by_cases q : k = n
        · subst q; omega
        · exact h3 k (by omega) hl
    · rw [if_neg (fun z => h (hcmp.mp z))]
      right
      rcases ih with ⟨e, ha⟩ | ⟨v, e, hv, ⟨k, hk, h1, h2⟩, h3⟩
      · rw [if_pos e]
        refine ⟨M n, eM, hM9, ⟨n, by omega, by omega, rfl⟩, fun k hk hl => ?_⟩
        by_cases q : k = n
        · subst q; exact Nat.le_refl _
        · have := ha k (by omega); omega
      · have hne : ¬ nxF fe mo (nI la) n = -1 := by
          rw [e]
          intro z
          have z2 := congrArg Int32.toInt z
          rw [nI_toInt (by omega)] at z2
          have : (-1 : Int32).toInt = -1 := rfl
          omega
        rw [if_neg hne, e, eM]
        have hc2 : nI v ≤ nI (M n) ↔ v ≤ M n := nI_leI (by omega) (by omega)
        by_cases q : v ≤ M n
        · rw [if_pos (hc2.mpr q)]
          refine ⟨v, rfl, hv, ⟨k, by omega, h1, h2⟩, fun k hk hl => ?_⟩
          by_cases q2 : k = n
          · subst q2; exact q
          · exact h3 k (by omega) hl
        · rw [if_neg (fun z => q (hc2.mp z))]
          refine ⟨M n, rfl, hM9, ⟨n, by omega, by omega, rfl⟩, fun k hk hl => ?_⟩
          by_cases q2 : k = n
          · subst q2; exact Nat.le_refl _
          · have := h3 k (by omega) hl; omega
/-- the class's chain of totals, as numbers -/
def LaN (fe mo : Nat → Int32) (nl j : Nat) : Nat := (chL fe mo nl j).toNatClampNeg
theorem chain (hF : ∀ k, k < nl → fe k = nI (F k)) (hM : ∀ k, k < nl → mo k = nI (M k) ∧ F k ≤ M k ∧ M k ≤ 99) : ∀ n, (∀ j, j < n → ¬ nxF fe mo (chL fe mo nl j) nl = -1) → ∀ j, j ≤ n → chL fe mo nl j = nI (LaN fe mo nl j) ∧ LaN fe mo nl j ≤ 99 ∧ (j < n → NxS F M (LaN fe mo nl j) nl (LaN fe mo nl (j + 1)))
  | n, hc, 0, _ => by
    have e0 : LaN fe mo nl 0 = 0 := rfl
    refine ⟨rfl, by rw [e0]; omega, fun h => ?_⟩
    rcases nx_spec hF hM (la := 0) (by omega) nl (Nat.le_refl _) with ⟨e, _⟩ | ⟨v, e, hv⟩
    · exact absurd e (hc 0 h)
    · have : LaN fe mo nl 1 = v := by
        show (nxF fe mo 0 nl).toNatClampNeg = v
        rw [show nxF fe mo 0 nl = nI v from e, nI_clamp (by have := hv.1; omega)]
      rw [e0, this]; exact hv
  | n, hc, j + 1, hj => by
    obtain ⟨p1, p2, p3⟩ := chain hF hM n hc j (by omega)
    have q := p3 (by omega)
    have e : chL fe mo nl (j + 1) = nI (LaN fe mo nl (j + 1)) := by
      rcases nx_spec hF hM (la := LaN fe mo nl j) p2 nl (Nat.le_refl _) with ⟨e, _⟩ | ⟨v, e, hv⟩
      · rw [← p1] at e; exact absurd e (hc j (by omega))
      · rw [← p1] at e
        have : LaN fe mo nl (j + 1) = v := by
          show (nxF fe mo (chL fe mo nl j) nl).toNatClampNeg = v
          rw [e, nI_clamp (by have := hv.1; omega)]
        rw [this]; exact e
    refine ⟨e, q.1, fun h => ?_⟩
    rcases nx_spec hF hM (la := LaN fe mo nl (j + 1)) q.1 nl (Nat.le_refl _) with ⟨e2, _⟩ | ⟨v, e2, hv⟩
    · rw [← e] at e2; exact absurd e2 (hc (j + 1) h)
    · rw [← e] at e2
      have : LaN fe mo nl (j + 1 + 1) = v := by
        show (nxF fe mo (chL fe mo nl (j + 1)) nl).toNatClampNeg = v
        rw [e2, nI_clamp (by have := hv.1; omega)]
      rw [this]; exact hv
theorem nxs_lt {la n v : Nat} (hM : ∀ k, k < n → F k ≤ M k) (h : NxS F M la n v) : la < v := by
  obtain ⟨-, ⟨k, hk, h1, h2⟩, -⟩ := h
  have := hM k hk
  omega
/-- the reference, while it goes through the minutes mi: w lines of that minute are done -/
def Jn (fe mo : Nat → Int32) (F M : Nat → Nat) (nl mi w : Nat) (st : Nat × (Nat → Int32)) : Prop := (∀ j, j < st.1 → ¬ nxF fe mo (chL fe mo nl j) nl = -1) ∧ (∀ j, j < st.1 → st.2 j = chL fe mo nl (j + 1)) ∧ LaN fe mo nl st.1 ≤ mi ∧ (∀ k, k < nl → (M k < mi ∨ (M k = mi ∧ k < w)) → F k ≤ LaN fe mo nl st.1)
variable {nw tg2 : Nat → Int32}
theorem ub_iff (hF : ∀ k, k < nl → fe k = nI (F k)) (hM : ∀ k, k < nl → mo k = nI (M k) ∧ F k ≤ M k ∧ M k ≤ 99) (hal : ∀ k, k < nl → ∀ m, m ≤ 99 → (¬ alF nw tg2 k (nI m) = 0 ↔ F k ≤ m ∧ m ≤ M k)) {mi w : Nat} {st : Nat × (Nat → Int32)} (hj : Jn fe mo F M nl mi w st) (hw : w < nl) (hmw : M w = mi) : ubF nw tg2 st.2 st.1 w = -1 ↔ LaN fe mo nl st.1 < F w := by
  obtain ⟨c1, c2, c3, c4⟩ := hj
  have ch := chain hF hM st.1 c1
  have hF9 := (hM w hw).2.1
  have hmi : mi ≤ 99 := by have := (hM w hw).2.2; omega
  have mono : ∀ b a, a ≤ b → b ≤ st.1 → LaN fe mo nl a ≤ LaN fe mo nl b := by
    intro b
    induction b with
    | zero => intro a ha _; rw [show a = 0 by omega]; exact Nat.le_refl _
    | succ b ih =>
      intro a ha hb
      by_cases e : a = b + 1
      · subst e; exact Nat.le_refl _
      · have h1 := ih a (by omega) (by omega)
        have h2 := nxs_lt (fun k hk => (hM k hk).2.1) ((ch b (by omega)).2.2 (by omega))
        omega
  have h0 : alF nw tg2 w 0 = 0 ↔ 0 < F w := by
    have := hal w hw 0 (by omega)
    constructor
    · intro z
      rcases Nat.eq_zero_or_pos (F w) with q | q
      · exact absurd z (this.mpr ⟨by omega, by omega⟩)
      · exact q
    · intro z
      by_cases q : alF nw tg2 w 0 = 0
      · exact q
      · have := this.mp q; omega
  constructor
  · intro h
    by_cases q0 : alF nw tg2 w 0 = 0
    · have hpos := h0.mp q0
      rcases Nat.eq_zero_or_pos st.1 with e | e
      · rw [e]; exact hpos
      · by_cases hlt : LaN fe mo nl st.1 < F w
        · exact hlt
        · exfalso
          have hex : ∃ e, e < st.1 ∧ ¬ alF nw tg2 w (st.2 e) = 0 := by
            refine ⟨st.1 - 1, by omega, ?_⟩
            rw [c2 (st.1 - 1) (by omega), show st.1 - 1 + 1 = st.1 by omega, (ch st.1 (Nat.le_refl _)).1]
            exact (hal w hw _ (by omega)).mpr ⟨by omega, by omega⟩
          have hne : ubN nw tg2 st.2 st.1 w < st.1 := by
            unfold ubN
            obtain ⟨e2, he, ha⟩ := hex
            obtain ⟨k, hk1, hk2⟩ := pk_least (fun z => z < st.1 ∧ ¬ alF nw tg2 w (st.2 z) = 0) ⟨e2, he, ha⟩
            rw [fsN_hit (i := k) (by simpa using hk1.2) st.1 0 (Nat.zero_le _) (by omega) (fun z hz => by
              have := hk2 z hz
              simp only [not_and, Classical.not_not] at this
              simpa using this (by omega))]
            exact hk1.1
          rw [ubF, if_pos q0, if_pos hne] at h
          rw [c2 _ hne, (ch _ (show ubN nw tg2 st.2 st.1 w + 1 ≤ st.1 by omega)).1] at h
          have z2 := congrArg Int32.toInt h
          rw [nI_toInt (by have := (ch _ (show ubN nw tg2 st.2 st.1 w + 1 ≤ st.1 by omega)).2.1; omega)] at z2
          have : (-1 : Int32).toInt = -1 := rfl
          omega
    · rw [ub_0 q0] at h
      exact absurd h (by decide)
  · intro h
    refine ub_2 (h0.mpr (by omega)) (fun k hk => ?_)
    rw [c2 k hk, (ch (k + 1) (by omega)).1]
    by_cases q : alF nw tg2 w (nI (LaN fe mo nl (k + 1))) = 0
    · exact q
    · have h1 := (hal w hw _ (ch (k + 1) (by omega)).2.1).mp q
      have h2 := mono st.1 (k + 1) (by omega) (Nat.le_refl _)
      omega
theorem jn_step (hF : ∀ k, k < nl → fe k = nI (F k)) (hM : ∀ k, k < nl → mo k = nI (M k) ∧ F k ≤ M k ∧ M k ≤ 99) (hal : ∀ k, k < nl → ∀ m, m ≤ 99 → (¬ alF nw tg2 k (nI m) = 0 ↔ F k ≤ m ∧ m ≤ M k)) (hgr : ∀ k, k < nl → grF nw tg2 k = nI (M k)) {mi : Nat} (hmi : mi ≤ 100) {st : Nat × (Nat → Int32)} (hj : Jn fe mo F M nl mi 0 st) : ∀ w, w ≤ nl → Jn fe mo F M nl mi w (plI nw tg2 mi st w)
  | 0, _ => hj
  | w + 1, hw => by
    have ih := jn_step hF hM hal hgr hmi hj w (by omega)
    rw [plI]
    generalize plI nw tg2 mi st w = u at ih ⊢
    have hub := fun q => ub_iff (nw := nw) (tg2 := tg2) hF hM hal ih (show w < nl by omega) q
    obtain ⟨c1, c2, c3, c4⟩ := id ih
    have hg : grF nw tg2 w = nI mi ↔ M w = mi := by
      rw [hgr w (by omega)]
      exact nI_eq (by have := (hM w (by omega)).2.2; omega) (by omega)
    have keep : (M w = mi → F w ≤ LaN fe mo nl u.1) → Jn fe mo F M nl mi (w + 1) u := by
      intro hk
      refine ⟨c1, c2, c3, fun k hk2 hq => ?_⟩
      by_cases e : k = w
      · subst e
        rcases hq with q | q
        · exact c4 k hk2 (Or.inl q)
        · exact hk q.1
      · exact c4 k hk2 (by omega)
    by_cases h : M w = mi
    · rw [if_pos (hg.mpr h)]
      by_cases hu : ubF nw tg2 u.2 u.1 w = -1
      · rw [if_pos hu]
        have hl := (hub h).mp hu
        have ch := chain hF hM u.1 c1
        have hM9 := (hM w (by omega)).2.2
        have hcur := ch u.1 (Nat.le_refl _)
        have hnx : nxF fe mo (chL fe mo nl u.1) nl = nI mi := by
          rw [hcur.1]
          rcases nx_spec hF hM (la := LaN fe mo nl u.1) hcur.2.1 nl (Nat.le_refl _) with ⟨e, ha⟩ | ⟨v, e, hv, ⟨k, hk, h1, h2⟩, h3⟩
          · have := ha w (by omega); omega
          · rw [e]
            have hv2 := h3 w (by omega) hl
            rcases Nat.lt_or_ge v mi with q | q
            · have := c4 k hk (Or.inl (by omega)); omega
            · rw [show v = mi by omega]
        have hla : LaN fe mo nl (u.1 + 1) = mi := by
          show (nxF fe mo (chL fe mo nl u.1) nl).toNatClampNeg = mi
          rw [hnx, nI_clamp (by omega)]
        refine ⟨fun j hj2 => ?_, fun j hj2 => ?_, ?_, fun k hk hq => ?_⟩
        · by_cases e : j = u.1
          · subst e
            rw [hnx]
            intro z
            have z2 := congrArg Int32.toInt z
            rw [nI_toInt (by omega)] at z2
            have : (-1 : Int32).toInt = -1 := rfl
            omega
          · exact c1 j (by have : j < u.1 + 1 := hj2; omega)
        · show upd u.2 u.1 (nI mi) j = _
          by_cases e : j = u.1
          · subst e; rw [pk_us]; exact hnx.symm
          · rw [pk_un e]; exact c2 j (by have : j < u.1 + 1 := hj2; omega)
        · show LaN fe mo nl (u.1 + 1) ≤ mi
          omega
        · show F k ≤ LaN fe mo nl (u.1 + 1)
          rw [hla]
          by_cases e : k = w
          · subst e; have := (hM k hk).2.1; omega
          · have := c4 k hk (by omega); omega
      · rw [if_neg hu]
        exact keep (fun _ => by
          by_cases q : LaN fe mo nl u.1 < F w
          · exact absurd ((hub h).mpr q) hu
          · omega)
    · rw [if_neg (fun z => h (hg.mp z))]
      exact keep (fun q => absurd q h)
theorem jn_all (hF : ∀ k, k < nl → fe k = nI (F k)) (hM : ∀ k, k < nl → mo k = nI (M k) ∧ F k ≤ M k ∧ M k ≤ 99) (hal : ∀ k, k < nl → ∀ m, m ≤ 99 → (¬ alF nw tg2 k (nI m) = 0 ↔ F k ≤ m ∧ m ≤ M k)) (hgr : ∀ k, k < nl → grF nw tg2 k = nI (M k)) (tt : Nat → Int32) : ∀ mi, mi ≤ 100 → Jn fe mo F M nl mi 0 (plO nw tg2 tt nl mi)
  | 0, _ => ⟨fun j hj => absurd hj (Nat.not_lt_zero j), fun j hj => absurd hj (Nat.not_lt_zero j), Nat.le_refl _, fun k hk hq => by omega⟩
  | mi + 1, h => by
    obtain ⟨c1, c2, c3, c4⟩ := jn_step hF hM hal hgr (show mi ≤ 100 by omega) (jn_all hF hM hal hgr tt mi (by omega)) nl (Nat.le_refl _)
    exact ⟨c1, c2, Nat.le_succ_of_le c3, fun k hk hq => c4 k hk (by omega)⟩
/-- **the totals of both sides** -/
theorem tot_eq (hF : ∀ k, k < nl → fe k = nI (F k)) (hM : ∀ k, k < nl → mo k = nI (M k) ∧ F k ≤ M k ∧ M k ≤ 99) (hal : ∀ k, k < nl → ∀ m, m ≤ 99 → (¬ alF nw tg2 k (nI m) = 0 ↔ F k ≤ m ∧ m ≤ M k)) (hgr : ∀ k, k < nl → grF nw tg2 k = nI (M k)) (tt : Nat → Int32) : chN fe mo nl = tmF nw tg2 tt nl ∧ (∀ j, j < tmF nw tg2 tt nl → ttF nw tg2 tt nl j = chL fe mo nl (j + 1)) ∧ (∀ j, j < tmF nw tg2 tt nl → ¬ nxF fe mo (chL fe mo nl j) nl = -1) ∧ ∀ k, k < nl → F k ≤ LaN fe mo nl (tmF nw tg2 tt nl) := by
  obtain ⟨c1, c2, c3, c4⟩ := jn_all hF hM hal hgr tt 100 (Nat.le_refl _)
  have hall : ∀ k, k < nl → F k ≤ LaN fe mo nl (plO nw tg2 tt nl 100).1 := fun k hk => c4 k hk (Or.inl (by have := (hM k hk).2.2; omega))
  have ch := chain hF hM _ c1 _ (Nat.le_refl _)
  refine ⟨?_, c2, c1, hall⟩
  have hle := tm_le nw tg2 tt nl
  rcases Nat.lt_or_ge (tmF nw tg2 tt nl) nl with q | q
  · apply ch_hit q c1
    show nxF fe mo (chL fe mo nl (plO nw tg2 tt nl 100).1) nl = -1
    rw [ch.1]
    rcases nx_spec hF hM ch.2.1 nl (Nat.le_refl _) with ⟨e, _⟩ | ⟨v, e, hv, ⟨k, hk, h1, h2⟩, h3⟩
    · exact e
    · have := hall k hk; omega
  · have e : tmF nw tg2 tt nl = nl := by omega
    rw [e]
    apply ch_all
    intro k hk
    exact c1 k (by show k < tmF nw tg2 tt nl; omega)
/-- a line's total, and what is finished before a dip -/
theorem use_iff (hF : ∀ k, k < nl → fe k = nI (F k)) (hM : ∀ k, k < nl → mo k = nI (M k) ∧ F k ≤ M k ∧ M k ≤ 99) (hal : ∀ k, k < nl → ∀ m, m ≤ 99 → (¬ alF nw tg2 k (nI m) = 0 ↔ F k ≤ m ∧ m ≤ M k)) {n : Nat} {tt : Nat → Int32} (c1 : ∀ j, j < n → ¬ nxF fe mo (chL fe mo nl j) nl = -1) (c2 : ∀ j, j < n → tt j = chL fe mo nl (j + 1)) (c4 : ∀ k, k < nl → F k ≤ LaN fe mo nl n) {k dp : Nat} (hk : k < nl) (hd : dp ≤ n) : nI (LaN fe mo nl dp) < ubF nw tg2 tt n k ↔ nI (LaN fe mo nl dp) < fe k := by
  have ch := chain hF hM n c1
  have hdl := (ch dp hd).2.1
  have strict : ∀ b a, a < b → b ≤ n → LaN fe mo nl a < LaN fe mo nl b := by
    intro b
    induction b with
    | zero => intro a ha _; exact absurd ha (Nat.not_lt_zero a)
    | succ b ih =>
      intro a ha hb
      have h2 := nxs_lt (fun k hk => (hM k hk).2.1) ((ch b (by omega)).2.2 (by omega))
      by_cases e : a = b
      · subst e; exact h2
      · have h1 := ih a (by omega) (by omega); omega
  have hM9 := (hM k hk).2.2
  have hFM := (hM k hk).2.1
  rw [hF k hk, nI_ltI (by omega) (by omega)]
  have h0 := hal k hk 0 (by omega)
  by_cases hz : F k = 0
  · rw [ub_0 (h0.mpr ⟨by omega, by omega⟩)]
    have : ¬ nI (LaN fe mo nl dp) < 0 := nI_pos (by omega)
    exact ⟨fun z => absurd z this, fun z => by omega⟩
  · have q0 : alF nw tg2 k 0 = 0 := by
      by_cases q : alF nw tg2 k 0 = 0
      · exact q
      · have := h0.mp q; omega
    obtain ⟨e, he, hmin⟩ := pk_least (fun z => F k ≤ LaN fe mo nl z) ⟨n, c4 k hk⟩
    have hen : e ≤ n := by
      rcases Nat.lt_or_ge n e with q | q
      · exact absurd (c4 k hk) (hmin n q)
      · exact q
    have he0 : e ≠ 0 := by
      intro z
      rw [z] at he
      have : LaN fe mo nl 0 = 0 := rfl
      omega
    obtain ⟨e, rfl⟩ : ∃ e', e = e' + 1 := ⟨e - 1, by omega⟩
    have hprev : LaN fe mo nl e < F k := Nat.lt_of_not_le (hmin e (by omega))
    have hup := ((ch e (by omega)).2.2 (by omega)).2.2 k hk hprev
    have hub : ubF nw tg2 tt n k = nI (LaN fe mo nl (e + 1)) := by
      have g1 : ∀ z, z < e → alF nw tg2 k (tt z) = 0 := by
        intro z hz2
        rw [c2 z (by omega), (ch (z + 1) (by omega)).1]
        by_cases q : alF nw tg2 k (nI (LaN fe mo nl (z + 1))) = 0
        · exact q
        · have h1 := (hal k hk _ (ch (z + 1) (by omega)).2.1).mp q
          exact absurd h1.1 (hmin (z + 1) (by omega))
      have g2 : ¬ alF nw tg2 k (tt e) = 0 := by
        rw [c2 e (by omega), (ch (e + 1) hen).1]
        exact (hal k hk _ (ch (e + 1) hen).2.1).mpr ⟨he, hup⟩
      rw [ub_1 (i := e) q0 g1 (by omega) g2, c2 e (by omega), (ch (e + 1) hen).1]
    rw [hub, nI_ltI (by omega) (by have := (ch (e + 1) hen).2.1; omega)]
    constructor
    · intro z
      rcases Nat.lt_or_ge dp (e + 1) with q | q
      · exact Nat.lt_of_not_le (hmin dp q)
      · rcases Nat.lt_or_ge (e + 1) dp with q2 | q2
        · have := strict dp (e + 1) q2 hd; omega
        · rw [show dp = e + 1 by omega] at z; omega
    · intro z; omega
end Totals
