/-! plans: one line's range of minutes; the totals that both sides choose -/
section Line
theorem mul_nat (c : Nat) (t : Nat) : (nI c : Int32) * nI t = nI (c * t) := pk_mul c t
theorem al_iff {nw tg : Nat → Int32} {li a s t m : Nat} (h6 : nw (6 + li) = nI a) (h1 : nw 1 = nI s) (ht : tg li = nI t) (ha : a ≤ 99) (hs : s ≤ 5) (ht9 : t ≤ 9) (hm : m ≤ 99) : ¬ alF nw tg li (nI m) = 0 ↔ 10 * t ≤ a + s * m ∧ a + s * m ≤ 10 * t + 9 := by
  have hsm : s * m ≤ 5 * 99 := Nat.mul_le_mul hs hm
  have e10 : (10 : Int32) * nI t = nI (10 * t) := pk_mul 10 t
  have e9 : nI (10 * t) + (9 : Int32) = nI (10 * t + 9) := nI_add (10 * t) 9
  unfold alF
  rw [h6, h1, ht, pk_mul, nI_add, e10, e9]
  generalize s * m = q at hsm
  constructor
  · intro h
    obtain ⟨q1, q2⟩ := wi_of h
    have q1' := mt (nI_ltI (a := a + q) (b := 10 * t) (by omega) (by omega)).mpr q1
    have q2' := (nI_leI (a := a + q) (b := 10 * t + 9) (by omega) (by omega)).mp q2
    omega
  · intro h
    exact wi_yes ⟨nI_nlt (by omega) (by omega), nI_le (by omega) (by omega)⟩
/-- the fewest and the most minutes of a line -/
theorem line_fm {d tg : Nat → Int32} {sg : Int32} {i a s t : Nat} (hd : d i = nI a) (hs : sg = nI s) (ht : tg i = nI t) (ha : a ≤ 99) (h1 : 1 ≤ s) (h5 : s ≤ 5) (ht9 : t ≤ 9) : ∃ F, F ≤ 99 ∧ fwF (10 * tg i - d i) sg = nI F ∧ ((∃ M, M ≤ 99 ∧ msF (10 * tg i - d i + 10 - 1) sg = nI M ∧ ∀ m, m ≤ 99 → ((10 * t ≤ a + s * m ∧ a + s * m ≤ 10 * t + 9) ↔ F ≤ m ∧ m ≤ M)) ∨ (msF (10 * tg i - d i + 10 - 1) sg = -1 ∧ ∀ m, m ≤ 99 → ¬ (10 * t ≤ a + s * m ∧ a + s * m ≤ 10 * t + 9))) := by
  have e10 : (10 : Int32) * nI t = nI (10 * t) := pk_mul 10 t
  have hs1 : (1 : Int32) ≤ nI s := nI_le (a := 1) h1 (by omega)
  subst hs
  rw [hd, ht, e10]
  have hg : (nI (10 * t) - nI a).toInt = ((10 * t : Nat) : Int) - (a : Int) := pk_sub_toInt (by omega) (by omega)
  have hroom : nI (10 * t) - nI a + 10 - 1 = nI (10 * t + 9) - nI a := by
    have e : nI (10 * t + 9) = nI (10 * t) + 9 := (nI_add (10 * t) 9).symm
    rw [e]
    generalize nI (10 * t) = x
    generalize nI a = y
    grind
  have hr : (nI (10 * t + 9) - nI a).toInt = ((10 * t + 9 : Nat) : Int) - (a : Int) := pk_sub_toInt (by omega) (by omega)
  have h0 : (0 : Int32).toInt = 0 := rfl
  rw [hroom]
  have fle : ∀ m, (10 * t - a + s - 1) / s ≤ m ↔ 10 * t ≤ a + s * m := by
    intro m
    have e : m.succ * s = s * m + s := by rw [Nat.succ_mul, Nat.mul_comm]
    rw [← Nat.lt_succ_iff, Nat.div_lt_iff_lt_mul (by omega), e]
    omega
  have hF99 : (10 * t - a + s - 1) / s ≤ 99 := by
    rw [fle]
    have : 1 * 99 ≤ s * 99 := Nat.mul_le_mul_right 99 h1
    omega
  refine ⟨(10 * t - a + s - 1) / s, hF99, ?_, ?_⟩
  · unfold fwF
    by_cases h : 10 * t ≤ a
    · rw [if_pos (by rw [i_le, hg, h0]; omega)]
      have : (10 * t - a + s - 1) / s = 0 := Nat.div_eq_of_lt (by omega)
      rw [this]; rfl
    · rw [if_neg (by rw [i_le, hg, h0]; omega), if_pos hs1]
      have e1 : nI (10 * t) - nI a = nI (10 * t - a) := pk_sub (by omega)
      have e2 : nI (10 * t - a + s) - 1 = nI (10 * t - a + s - 1) := pk_sub (b := 1) (by omega)
      rw [e1, nI_add, e2, pk_div (by omega) (by omega) (by omega)]
  · unfold msF
    by_cases h : a ≤ 10 * t + 9
    · left
      have e1 : nI (10 * t + 9) - nI a = nI (10 * t + 9 - a) := pk_sub (by omega)
      rw [if_neg (by rw [i_lt, hr, h0]; omega), if_pos hs1, e1, pk_div (by omega) (by omega) (by omega)]
      have mle : ∀ m, m ≤ (10 * t + 9 - a) / s ↔ a + s * m ≤ 10 * t + 9 := by
        intro m
        rw [Nat.le_div_iff_mul_le (by omega), Nat.mul_comm]
        omega
      have hq : (10 * t + 9 - a) / s ≤ 10 * t + 9 - a := Nat.div_le_self _ _
      have key : ∀ M, (∀ m, m ≤ 99 → (m ≤ M ↔ m ≤ (10 * t + 9 - a) / s)) → ∀ m, m ≤ 99 → ((10 * t ≤ a + s * m ∧ a + s * m ≤ 10 * t + 9) ↔ (10 * t - a + s - 1) / s ≤ m ∧ m ≤ M) := by
        intro M hM m hm
        rw [fle, hM m hm, mle]
      by_cases h9 : (10 * t + 9 - a) / s < 99
      · refine ⟨(10 * t + 9 - a) / s, by omega, ?_, key _ (fun m hm => Iff.rfl)⟩
        rw [if_pos (show nI ((10 * t + 9 - a) / s) < 99 from nI_lt (b := 99) h9 (by omega))]
      · refine ⟨99, by omega, ?_, key _ (fun m hm => ⟨fun _ => by omega, fun _ => hm⟩)⟩
        rw [if_neg (show ¬ nI ((10 * t + 9 - a) / s) < 99 from nI_nlt (b := 99) (by omega) (by omega))]
        rfl
    · right
      rw [if_pos (by rw [i_lt, hr, h0]; omega)]
      exact ⟨rfl, fun m _ q => by omega⟩
theorem gr_of {nw tg : Nat → Int32} {li M : Nat} (hM : M ≤ 99) (h : ¬ alF nw tg li (nI M) = 0) (h2 : ∀ m, M < m → m ≤ 99 → alF nw tg li (nI m) = 0) : grF nw tg li = nI M := by
  have e : ∀ k, k < 100 → (99 : Int32) - nI k = nI (99 - k) := fun k hk => pk_sub (a := 99) (by omega)
  rw [gr_b (i := 99 - M) (fun k hk => by rw [e k (by omega)]; exact h2 _ (by omega) (by omega)) (by omega) (by rw [e _ (by omega), show 99 - (99 - M) = M by omega]; exact h), e _ (by omega), show 99 - (99 - M) = M by omega]
theorem gr_none {nw tg : Nat → Int32} {li : Nat} (h2 : ∀ m, m ≤ 99 → alF nw tg li (nI m) = 0) : grF nw tg li = -1 := by
  have e : ∀ k, k < 100 → (99 : Int32) - nI k = nI (99 - k) := fun k hk => pk_sub (a := 99) (by omega)
  rw [gr_a (i := 100) (Nat.le_refl _) (fun k hk => by rw [e k hk]; exact h2 _ (by omega)) (by decide)]
  decide
/-- a line of both sides: its greatest number of minutes -/
theorem line_gr {d tg nw tg2 : Nat → Int32} {sg : Int32} {i a s t : Nat} (hd : d i = nI a) (hs : sg = nI s) (ht : tg i = nI t) (ha : a ≤ 99) (h1 : 1 ≤ s) (h5 : s ≤ 5) (ht9 : t ≤ 9) (w6 : nw (6 + i) = d i) (w1 : nw 1 = sg) (wt : tg2 i = tg i) :
    (fwF (10 * tg i - d i) sg ≤ msF (10 * tg i - d i + 10 - 1) sg ∧ ∃ F M, F ≤ M ∧ M ≤ 99 ∧ fwF (10 * tg i - d i) sg = nI F ∧ msF (10 * tg i - d i + 10 - 1) sg = nI M ∧ grF nw tg2 i = nI M ∧ ∀ m, m ≤ 99 → (¬ alF nw tg2 i (nI m) = 0 ↔ F ≤ m ∧ m ≤ M)) ∨ (¬ fwF (10 * tg i - d i) sg ≤ msF (10 * tg i - d i + 10 - 1) sg ∧ grF nw tg2 i = -1) := by
  obtain ⟨F, hF, eF, hM⟩ := line_fm hd hs ht ha h1 h5 ht9
  have al : ∀ m, m ≤ 99 → (¬ alF nw tg2 i (nI m) = 0 ↔ 10 * t ≤ a + s * m ∧ a + s * m ≤ 10 * t + 9) := fun m hm => al_iff (w6.trans hd) (w1.trans hs) (wt.trans ht) ha h5 ht9 hm
  rcases hM with ⟨M, hM, eM, hA⟩ | ⟨eM, hA⟩
  · by_cases hFM : F ≤ M
    · left
      refine ⟨by rw [eF, eM]; exact nI_le hFM (by omega), F, M, hFM, hM, eF, eM, ?_, fun m hm => (al m hm).trans (hA m hm)⟩
      refine gr_of hM ((al M hM).mpr ((hA M hM).mpr ⟨hFM, Nat.le_refl _⟩)) (fun m h1 h2 => ?_)
      by_cases q : alF nw tg2 i (nI m) = 0
      · exact q
      · have := (hA m h2).mp ((al m h2).mp q)
        omega
    · right
      refine ⟨by rw [eF, eM]; exact nI_ge (by omega) (by omega), gr_none (fun m hm => ?_)⟩
      by_cases q : alF nw tg2 i (nI m) = 0
      · exact q
      · have := (hA m hm).mp ((al m hm).mp q)
        omega
  · right
    refine ⟨?_, gr_none (fun m hm => ?_)⟩
    · rw [eF, eM, i_le, nI_toInt (by omega)]
      have : (-1 : Int32).toInt = -1 := rfl
      omega
    · by_cases q : alF nw tg2 i (nI m) = 0
      · exact q
      · exact absurd ((al m hm).mp q) (hA m hm)
end Line
theorem or_zero2 {x y : Int32} (h : x ||| y = 0) : x = 0 ∧ y = 0 := by
  rw [← Int32.toBitVec_inj, Int32.toBitVec_or] at h
  have h2 : x.toBitVec ||| y.toBitVec = 0#32 := h
  rw [BitVec.or_eq_zero_iff] at h2
  exact ⟨Int32.toBitVec_inj.mp h2.1, Int32.toBitVec_inj.mp h2.2⟩
section Plan
variable {d tg nw tg2 : Nat → Int32} {sg : Int32} {nl : Nat}
/-- what both sides know of the lines -/
def LinesE (d tg nw tg2 : Nat → Int32) (sg : Int32) (nl : Nat) : Prop := nl ≤ 10 ∧ ∀ i, i < nl → (fwF (10 * tg i - d i) sg ≤ msF (10 * tg i - d i + 10 - 1) sg ∧ ∃ F M, F ≤ M ∧ M ≤ 99 ∧ fwF (10 * tg i - d i) sg = nI F ∧ msF (10 * tg i - d i + 10 - 1) sg = nI M ∧ grF nw tg2 i = nI M ∧ ∀ m, m ≤ 99 → (¬ alF nw tg2 i (nI m) = 0 ↔ F ≤ m ∧ m ≤ M)) ∨ (¬ fwF (10 * tg i - d i) sg ≤ msF (10 * tg i - d i + 10 - 1) sg ∧ grF nw tg2 i = -1)
theorem ob_eq (h : LinesE d tg nw tg2 sg nl) : ∀ i, i ≤ nl → obF nw tg2 i = mkB d tg sg i
  | 0, _ => rfl
  | i + 1, hi => by
    rw [obF, mkB, ob_eq h i (by omega)]
    rcases h.2 i (by omega) with ⟨h1, F, M, -, hM, -, -, hg, -⟩ | ⟨h1, hg⟩
    · rw [if_pos h1, hg, if_pos (nI_pos' (by omega))]
      exact Int32.or_zero
    · rw [if_neg h1, hg, if_neg (by decide)]
theorem mkB_all (hn : nl ≤ 10) : ∀ n, n ≤ nl → mkB d tg sg n = 0 → ∀ i, i < n → fwF (10 * tg i - d i) sg ≤ msF (10 * tg i - d i + 10 - 1) sg
  | 0, _, _, i, hi => absurd hi (Nat.not_lt_zero i)
  | n + 1, hn2, h, i, hi => by
    rw [mkB] at h
    by_cases h1 : fwF (10 * tg n - d n) sg ≤ msF (10 * tg n - d n + 10 - 1) sg
    · rw [if_pos h1] at h
      by_cases e : i = n
      · subst e; exact h1
      · exact mkB_all hn n (by omega) h i (by omega)
    · rw [if_neg h1] at h
      have := (or_zero2 h).2
      rw [sh_one (by omega)] at this
      have hp := p2_le (pr := n) (by omega)
      have hp0 : 0 < 2 ^ n := Nat.pow_pos (by decide)
      exact absurd this (nI_ne0 hp0 (by omega))
theorem mkE_at (fe : Nat → Int32) (k : Nat) : ∀ n, k < n → mkE d tg sg fe n k = fwF (10 * tg k - d k) sg
  | 0, h => absurd h (Nat.not_lt_zero k)
  | n + 1, h => by
    rw [mkE]
    by_cases e : k = n
    · subst e; rw [pk_us]
    · rw [pk_un e]; exact mkE_at fe k n (by omega)
theorem mkM_at (mo : Nat → Int32) (k : Nat) : ∀ n, k < n → mkM d tg sg mo n k = msF (10 * tg k - d k + 10 - 1) sg
  | 0, h => absurd h (Nat.not_lt_zero k)
  | n + 1, h => by
    rw [mkM]
    by_cases e : k = n
    · subst e; rw [pk_us]
    · rw [pk_un e]; exact mkM_at mo k n (by omega)
end Plan
