/-! orders: both sides are that count -/
def leB (tn : Nat → Int32) (nl : Nat) (i j : Nat) : Bool := decide (¬ ndF tn i j nl = 0)
theorem nd_iff (tn : Nat → Int32) {i j n : Nat} : ¬ ndF tn i j n = 0 ↔ ∀ k, k < n → tn (i * 10 + k) ≤ tn (j * 10 + k) := by
  constructor
  · intro h k hk
    by_cases q : tn (i * 10 + k) ≤ tn (j * 10 + k)
    · exact q
    · exact absurd (nd_0 tn hk q) h
  · intro h; rw [nd_1 tn h]; decide
theorem leB_iff {tn : Nat → Int32} {nl i j : Nat} : leB tn nl i j = true ↔ ∀ k, k < nl → tn (i * 10 + k) ≤ tn (j * 10 + k) := by
  unfold leB; rw [decide_eq_true_eq]; exact nd_iff tn
theorem leB_rf (tn : Nat → Int32) (nl a : Nat) : leB tn nl a a = true := leB_iff.mpr (fun k _ => by rw [i_le]; omega)
theorem leB_tr (tn : Nat → Int32) (nl a b c : Nat) (h1 : leB tn nl a b = true) (h2 : leB tn nl b c = true) : leB tn nl a c = true := leB_iff.mpr (fun k hk => by
  have q1 := leB_iff.mp h1 k hk
  have q2 := leB_iff.mp h2 k hk
  rw [i_le] at q1 q2 ⊢
  omega)
theorem ma_iff (nw : Nat → Int32) (i j : Nat) : ∀ n, ¬ maF nw i j n = 0 ↔ ∀ k, k < n → ¬ nw (28 + 10 * j + k) < nw (28 + 10 * i + k)
  | 0 => ⟨fun _ k hk => absurd hk (Nat.not_lt_zero k), fun _ => by show ¬ (1 : Int32) = 0; decide⟩
  | n + 1 => by
    have ih := ma_iff nw i j n
    rw [maF]
    constructor
    · intro h k hk
      by_cases h1 : maF nw i j n = 0
      · rw [if_pos h1] at h; exact absurd rfl h
      · rw [if_neg h1] at h
        by_cases e : k = n
        · subst e
          intro q
          rw [if_pos q] at h
          exact absurd rfl h
        · exact ih.mp h1 k (by omega)
    · intro h
      rw [if_neg (ih.mpr (fun k hk => h k (by omega))), if_neg (h n (by omega))]
      decide
theorem may_iff {tn nw : Nat → Int32} {nl pr i j : Nat} (h8 : ∀ k, k < 120 → nw (28 + k) = tn k) (hp : pr ≤ 12) (hz : ∀ p, p < pr → ∀ k, nl ≤ k → k < 10 → tn (p * 10 + k) = 0) (hi : i < pr) (hj : j < pr) (hn : nl ≤ 10) : mayF nw i j = 0 ↔ leB tn nl i j = false := by
  have key : ¬ mayF nw i j = 0 ↔ leB tn nl i j = true := by
    rw [mayF, ten_eq, ma_iff, leB_iff]
    have e : ∀ p, p < pr → ∀ k, k < 10 → nw (28 + 10 * p + k) = tn (p * 10 + k) := fun p hp2 k hk => by
      rw [show 28 + 10 * p + k = 28 + (p * 10 + k) by omega]; exact h8 _ (by omega)
    constructor
    · intro h k hk
      have := h k (by omega)
      rw [e j hj k (by omega), e i hi k (by omega), i_lt] at this
      rw [i_le]; omega
    · intro h k hk
      rw [e j hj k hk, e i hi k hk, i_lt]
      by_cases q : k < nl
      · have := h k q
        rw [i_le] at this; omega
      · rw [hz i hi k (by omega) hk, hz j hj k (by omega) hk]; omega
  cases hl : leB tn nl i j with
  | true => rw [hl] at key; exact ⟨fun z => absurd z (key.mpr rfl), fun z => by cases z⟩
  | false =>
    rw [hl] at key
    by_cases q : mayF nw i j = 0
    · exact ⟨fun _ => rfl, fun _ => q⟩
    · exact absurd (key.mp q) (by decide)
theorem sh_amt {p : Nat} (h : p < 12) : ((nI p &&& 31).toBitVec.smod 32).toNat = p := by
  rcases (show p = 0 ∨ p = 1 ∨ p = 2 ∨ p = 3 ∨ p = 4 ∨ p = 5 ∨ p = 6 ∨ p = 7 ∨ p = 8 ∨ p = 9 ∨ p = 10 ∨ p = 11 by omega) with rfl | rfl | rfl | rfl | rfl | rfl | rfl | rfl | rfl | rfl | rfl | rfl <;> decide
theorem sh_one {p : Nat} (h : p < 12) : 1 <<< (nI p &&& 31) = nI (2 ^ p) := by
  rcases (show p = 0 ∨ p = 1 ∨ p = 2 ∨ p = 3 ∨ p = 4 ∨ p = 5 ∨ p = 6 ∨ p = 7 ∨ p = 8 ∨ p = 9 ∨ p = 10 ∨ p = 11 by omega) with rfl | rfl | rfl | rfl | rfl | rfl | rfl | rfl | rfl | rfl | rfl | rfl <;> decide
theorem sh_bit {s p : Nat} (hs : s < 2147483648) (hp : p < 12) : nI s >>> (nI p &&& 31) &&& 1 = nI (s / 2 ^ p % 2) := by
  rw [pk_shrN hs _ p (sh_amt hp)]
  have := nI_and (s / 2 ^ p) 1
  rw [Nat.and_one_is_mod] at this
  exact this
theorem bit_lt2 (s p : Nat) : s / 2 ^ p % 2 < 2 := Nat.mod_lt _ (by decide)
theorem ct_test {s p : Nat} (hs : s < 2147483648) (hp : p < 12) : ctF (nI s) (nI p) = 0 ↔ s.testBit p = false := by
  rw [ct_bit, sh_bit hs hp, Nat.testBit_eq_decide_div_mod_eq]
  have hb := bit_lt2 s p
  generalize s / 2 ^ p % 2 = x at hb ⊢
  rcases (show x = 0 ∨ x = 1 by omega) with rfl | rfl
  · exact ⟨fun _ => rfl, fun _ => rfl⟩
  · exact ⟨fun z => absurd z (by decide), fun z => by cases z⟩
section Cls
variable {tn : Nat → Int32} {nl s : Nat}
theorem leB_nd {i j : Nat} : ndF tn i j nl = 0 ↔ leB tn nl i j = false := by
  unfold leB
  by_cases h : ndF tn i j nl = 0
  · exact ⟨fun _ => by simp [h], fun _ => h⟩
  · exact ⟨fun z => absurd z h, fun z => by simp [h] at z⟩
theorem plV_eq (hs : s < 2147483648) {pq : Nat} : ∀ k, k ≤ 12 → plV tn nl (nI s) pq k = nI (1 + cnB (fun e => s.testBit e && leB tn nl e pq && leB tn nl pq e) k)
  | 0, _ => rfl
  | k + 1, hk => by
    rw [plV, plV_eq hs k (by omega), cnB]
    by_cases h1 : ctF (nI s) (nI k) = 0
    · rw [if_pos h1, (ct_test hs (by omega)).mp h1]; simp
    · have h1' : s.testBit k = true := by
        cases h : s.testBit k with
        | true => rfl
        | false => exact absurd ((ct_test hs (by omega)).mpr h) h1
      rw [if_neg h1, h1']
      by_cases h2 : ndF tn k pq nl = 0
      · rw [if_pos h2, leB_nd.mp h2]; simp
      · have h2' : leB tn nl k pq = true := by
          cases h : leB tn nl k pq with
          | true => rfl
          | false => exact absurd (leB_nd.mpr h) h2
        rw [if_neg h2, h2']
        by_cases h3 : ndF tn pq k nl = 0
        · rw [if_pos h3, leB_nd.mp h3]; simp
        · have h3' : leB tn nl pq k = true := by
            cases h : leB tn nl pq k with
            | true => rfl
            | false => exact absurd (leB_nd.mpr h) h3
          rw [if_neg h3, h3', nI_1]; rfl
theorem plX_eq (hs : s < 2147483648) {pq : Nat} : ∀ k, k ≤ 12 → plX tn nl (nI s) pq k = exB (fun e => s.testBit e && !leB tn nl e pq && !leB tn nl pq e) k
  | 0, _ => rfl
  | k + 1, hk => by
    rw [plX, plX_eq hs k (by omega), exB]
    congr 1
    have e1 : decide (ctF (nI s) (nI k) = 0) = !s.testBit k := by
      cases h : s.testBit k with
      | true => simp [ct_test hs (show k < 12 by omega), h]
      | false => simp [ct_test hs (show k < 12 by omega), h]
    have e2 : ∀ a b, decide (ndF tn a b nl = 0) = !leB tn nl a b := by
      intro a b
      cases h : leB tn nl a b with
      | true => simp [leB_nd, h]
      | false => simp [leB_nd, h]
    rw [e1, e2, e2, Bool.not_not]
theorem plF_eq (hs : s < 2147483648) {pq : Nat} (hp : pq ≤ 12) : plF tn nl (nI s) pq = nI (odF (leB tn nl) s.testBit pq) := by
  unfold plF odF
  rw [plX_eq hs pq hp, plV_eq hs pq hp]
  split <;> rfl
theorem coF_eq (hs : s < 2147483648) : ∀ n, n ≤ 12 → coF tn nl (nI s) n = nI (odC (leB tn nl) s.testBit n)
  | 0, _ => rfl
  | n + 1, hn => by
    unfold odC
    rw [coF, coF_eq hs n (by omega), pdB, plF_eq hs (by omega)]
    unfold odC
    by_cases h : ctF (nI s) (nI n) = 0
    · rw [if_pos h, (ct_test hs (by omega)).mp h]; simp
    · have h' : s.testBit n = true := by
        cases q : s.testBit n with
        | true => rfl
        | false => exact absurd ((ct_test hs (by omega)).mpr q) h
      rw [if_neg h, h', pk_mul]; rfl
end Cls
/-- the set of the numbers below n with p -/
def bsN (p : Nat → Bool) : Nat → Nat
  | 0 => 0
  | n + 1 => bsN p n ||| (if p n = true then 2 ^ n else 0)
theorem bsN_test (p : Nat → Bool) (i : Nat) : ∀ n, (bsN p n).testBit i = (decide (i < n) && p i)
  | 0 => by simp [bsN]
  | n + 1 => by
    rw [bsN, Nat.testBit_or, bsN_test p i n]
    by_cases e : i = n
    · subst e
      cases h : p i <;> simp [h, Nat.testBit_two_pow]
    · cases h : p n with
      | true =>
        simp only [if_true, Nat.testBit_two_pow]
        have : decide (n = i) = false := by simp; omega
        rw [this, Bool.or_false]
        congr 1
        simp; omega
      | false =>
        have q : decide (i < n) = decide (i < n + 1) := by rw [decide_eq_decide]; omega
        simp [q]
section Mod
variable {tn nw : Nat → Int32} {nl pr : Nat}
theorem ahW_ne {u : Nat → Int32} {j i : Nat} (h : i ≠ j) : ∀ w, ahW u nw j w i = u i
  | 0 => rfl
  | w + 1 => by rw [ahW, pk_un h, ahW_ne h w]
theorem ahW_at {u : Nat → Int32} {j : Nat} (hu : u j = 0) : ∀ w, w ≤ 12 → ahW u nw j w j = nI (bsN (fun i => !decide (mayF nw i j = 0)) w)
  | 0, _ => hu
  | w + 1, hw => by
    rw [ahW, pk_us, ahW_at hu w (by omega), bsN, sh_one (by omega)]
    by_cases h : mayF nw w j = 0
    · rw [if_pos h]
      simp [h]
    · rw [if_neg h]
      simp [h]
      rw [nI_or]
theorem ahO_at {u : Nat → Int32} (hp : pr ≤ 12) {j : Nat} : ∀ n, j < n → ahO u nw pr n j = nI (bsN (fun i => !decide (mayF nw i j = 0)) pr)
  | 0, h => absurd h (Nat.not_lt_zero j)
  | n + 1, h => by
    rw [ahO]
    by_cases e : j = n
    · subst e; exact ahW_at pk_us pr hp
    · rw [ahW_ne e, pk_un e]; exact ahO_at hp n (by omega)
theorem sub_iff {s b : Nat} (hs : s < 4096) : nI s &&& (nI b ^^^ -1) = 0 ↔ ∀ i, i < 12 → s.testBit i = true → b.testBit i = true := by
  rw [← Int32.toBitVec_inj, Int32.toBitVec_and, Int32.toBitVec_xor, nI_bv, nI_bv]
  show BitVec.ofNat 32 s &&& (BitVec.ofNat 32 b ^^^ BitVec.allOnes 32) = 0#32 ↔ _
  constructor
  · intro h i hi hsi
    have e := congrArg (fun z => z.getLsbD i) h
    simp only [BitVec.getLsbD_and, BitVec.getLsbD_xor, BitVec.getLsbD_ofNat, BitVec.getLsbD_allOnes, show i < 32 by omega, decide_true, Bool.true_and, BitVec.getLsbD_zero, hsi] at e
    cases hb : b.testBit i with
    | true => rfl
    | false => rw [hb] at e; simp at e
  · intro h
    apply BitVec.eq_of_getLsbD_eq
    intro i hi
    simp only [BitVec.getLsbD_and, BitVec.getLsbD_xor, BitVec.getLsbD_ofNat, BitVec.getLsbD_allOnes, hi, decide_true, Bool.true_and, BitVec.getLsbD_zero]
    cases hsi : s.testBit i with
    | false => simp
    | true =>
      have : i < 12 := by
        rcases Nat.lt_or_ge i 12 with q | q
        · exact q
        · rw [Nat.testBit_lt_two_pow (Nat.lt_of_lt_of_le hs (Nat.pow_le_pow_right (n := 2) (by decide) q))] at hsi; cases hsi
      rw [h i this hsi]; simp
theorem ix_test {s w i : Nat} (hs : s < 4096) (hw : w < 12) : (ixF s w).testBit i = (s.testBit i && !decide (i = w)) := by
  have e : ∀ y : Int32, nI s &&& y = nI (s &&& y.toBitVec.toNat) := fun y => by rw [← nI_and, ← i_bv]
  have e2 : ixF s w = s &&& (nI (2 ^ w) ^^^ -1).toBitVec.toNat := by
    rw [ixF, sh_one hw, e, nI_clamp (Nat.lt_of_le_of_lt Nat.and_le_left (by omega))]
  rw [e2, Nat.testBit_and]
  by_cases h32 : i < 32
  · congr 1
    have : (nI (2 ^ w) ^^^ -1).toBitVec.toNat.testBit i = (BitVec.ofNat 32 (2 ^ w) ^^^ BitVec.allOnes 32).getLsbD i := rfl
    rw [this]
    simp only [BitVec.getLsbD_xor, BitVec.getLsbD_ofNat, BitVec.getLsbD_allOnes, h32, decide_true, Bool.true_and, Nat.testBit_two_pow]
    by_cases q : w = i
    · simp [q]
    · have q2 : ¬ i = w := fun z => q z.symm
      simp [q, q2]
  · rw [Nat.testBit_lt_two_pow (Nat.lt_of_lt_of_le hs (show 4096 ≤ 2 ^ i from Nat.le_trans (by decide : 4096 ≤ 2 ^ 12) (Nat.pow_le_pow_right (by decide) (by omega))))]
    simp
theorem la_iff {ah : Nat → Int32} {b s w : Nat} (hs : s < 4096) (hw : w < 12) (hb : ah w = nI b) : laF ah s w = 0 ↔ ¬ (s.testBit w = true ∧ ∀ i, i < 12 → s.testBit i = true → b.testBit i = true) := by
  have e1 : nI s >>> (nI w &&& 31) &&& 1 = 1 ↔ s.testBit w = true := by
    rw [sh_bit (by omega) hw, Nat.testBit_eq_decide_div_mod_eq, decide_eq_true_eq]
    exact nI_eq (b := 1) (by have := bit_lt2 s w; omega) (by omega)
  unfold laF
  rw [hb]
  by_cases h1 : s.testBit w = true
  · rw [if_pos (e1.mpr h1)]
    by_cases h2 : nI s &&& (nI b ^^^ -1) = 0
    · rw [if_pos h2]
      exact ⟨fun z => absurd z (by decide), fun z => absurd ⟨h1, (sub_iff hs).mp h2⟩ z⟩
    · rw [if_neg h2]
      exact ⟨fun _ z => h2 ((sub_iff hs).mpr z.2), fun _ => rfl⟩
  · rw [if_neg (fun z => h1 (e1.mp z))]
    exact ⟨fun _ z => h1 z.1, fun _ => rfl⟩
theorem wyW_ne {ah y : Nat → Int32} {s i : Nat} (h : i ≠ s) : ∀ w, wyW ah y s w i = y i
  | 0 => rfl
  | w + 1 => by rw [wyW, pk_un h, wyW_ne h w]
/-- the reference's table of ways -/
theorem wyO_eq {ah wy : Nat → Int32} (le : Nat → Nat → Bool) (rf : ∀ a, le a a = true) (tr : ∀ a b c, le a b = true → le b c = true → le a c = true) (hp : pr ≤ 12) (hah : ∀ w, w < pr → ∃ b, ah w = nI b ∧ ∀ i, i < pr → b.testBit i = le i w) : ∀ n, n < 2 ^ pr → ∀ s, s ≤ n → wyO ah wy pr n s = nI (odC le s.testBit pr)
  | 0, _, s, hs => by
    have : s = 0 := by omega
    subst this
    rw [wyO, pk_us]
    have : ∀ k, pdB (Nat.testBit 0) (odF le (Nat.testBit 0)) k = 1 := by
      intro k
      induction k with
      | zero => rfl
      | succ k ih => rw [pdB, ih]; simp
    unfold odC
    rw [this]; rfl
  | n + 1, hn, s, hs => by
    have hp2 := p2_le hp
    have ih := wyO_eq (ah := ah) (wy := wy) le rf tr hp hah n (by omega)
    rw [wyO]
    by_cases e : s = n + 1
    · subst e
      have key : ∀ w, w ≤ pr → wyW ah (upd (wyO ah wy pr n) (n + 1) 0) (n + 1) w (n + 1) = nI (smB (mxB le (n + 1).testBit pr) (fun k => odC le (rmB (n + 1).testBit k) pr) w) := by
        intro w
        induction w with
        | zero => intro _; rw [wyW, pk_us]; rfl
        | succ w ihw =>
          intro hw
          rw [wyW, pk_us, ihw (by omega), smB]
          obtain ⟨b, hb, hbt⟩ := hah w (by omega)
          have hl := la_iff (ah := ah) (b := b) (s := n + 1) (w := w) (by omega) (by omega) hb
          have hlow : ∀ i, (n + 1).testBit i = true → i < pr := by
            intro i hi
            rcases Nat.lt_or_ge i pr with q | q
            · exact q
            · rw [Nat.testBit_lt_two_pow (Nat.lt_of_lt_of_le hn (Nat.pow_le_pow_right (by decide) q))] at hi; cases hi
          have hm : laF ah (n + 1) w = 0 ↔ ¬ mxB le (n + 1).testBit pr w = true := by
            rw [hl, mxB_iff]
            constructor
            · intro z q
              exact z ⟨q.1, fun i _ hi => by rw [hbt i (hlow i hi)]; exact q.2 i (hlow i hi) hi⟩
            · intro z q
              exact z ⟨q.1, fun i hi hmi => by rw [← hbt i hi]; exact q.2 i (by omega) hmi⟩
          by_cases h : mxB le (n + 1).testBit pr w = true
          · rw [if_neg (fun z => hm.mp z h), if_pos h]
            have hbw := (mxB_iff.mp h).1
            have hne : ixF (n + 1) w ≠ n + 1 := by
              intro z
              have := ix_test (s := n + 1) (w := w) (i := w) (by omega) (by omega)
              rw [z, hbw] at this
              simp at this
            have hle := ix_le (s := n + 1) (w := w) (by omega)
            rw [wyW_ne hne, pk_un hne, ih _ (by omega), nI_add]
            congr 3
            funext i
            rw [ix_test (by omega) (by omega)]; rfl
          · rw [if_pos (hm.mpr h), if_neg h]
            exact Int32.add_zero _
      rw [key pr (Nat.le_refl _), od_step rf tr]
      obtain ⟨i, hi⟩ := Nat.exists_testBit_of_ne_zero (show n + 1 ≠ 0 by omega)
      refine ⟨i, ?_, hi⟩
      rcases Nat.lt_or_ge i pr with q | q
      · exact q
      · rw [Nat.testBit_lt_two_pow (Nat.lt_of_lt_of_le hn (Nat.pow_le_pow_right (by decide) q))] at hi; cases hi
    · rw [wyW_ne e, pk_un e]
      exact ih s (by omega)
theorem ord_eq (h8 : ∀ k, k < 120 → nw (28 + k) = tn k) (hp : pr ≤ 12) (hz : ∀ p, p < pr → ∀ k, nl ≤ k → k < 10 → tn (p * 10 + k) = 0) (hn : nl ≤ 10) (ah wy : Nat → Int32) {s : Nat} (hs : s < 2 ^ pr) : coF tn nl (nI s) pr = wyO (ahO ah nw pr pr) wy pr s s := by
  have hp2 := p2_le hp
  rw [coF_eq (by omega) pr hp]
  refine (wyO_eq (leB tn nl) (leB_rf tn nl) (leB_tr tn nl) hp (fun w hw => ⟨_, ahO_at hp pr hw, fun i hi => ?_⟩) s hs s (Nat.le_refl _)).symm
  rw [bsN_test]
  have := may_iff (i := i) (j := w) h8 hp hz hi hw hn
  cases h : leB tn nl i w with
  | true =>
    have : ¬ mayF nw i w = 0 := fun z => by rw [this.mp z] at h; cases h
    simp [hi, this]
  | false => simp [hi, this.mpr h]
end Mod
