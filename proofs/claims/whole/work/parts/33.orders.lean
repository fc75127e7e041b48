/-! how many orders a set of prints has: by which one is the last, or by the prints that are alike -/
def cnB (m : Nat → Bool) : Nat → Nat
  | 0 => 0
  | n + 1 => cnB m n + (if m n = true then 1 else 0)
def fcN : Nat → Nat
  | 0 => 1
  | n + 1 => (n + 1) * fcN n
/-- product of f over the members below n -/
def pdB (m : Nat → Bool) (f : Nat → Nat) : Nat → Nat
  | 0 => 1
  | n + 1 => pdB m f n * (if m n = true then f n else 1)
def smB (m : Nat → Bool) (f : Nat → Nat) : Nat → Nat
  | 0 => 0
  | n + 1 => smB m f n + (if m n = true then f n else 0)
def exB (p : Nat → Bool) : Nat → Bool
  | 0 => false
  | n + 1 => exB p n || p n
theorem exB_iff {p : Nat → Bool} : ∀ {n}, exB p n = true ↔ ∃ k, k < n ∧ p k = true
  | 0 => ⟨fun h => (by cases h), fun ⟨k, h, _⟩ => absurd h (Nat.not_lt_zero k)⟩
  | n + 1 => by
    rw [exB, Bool.or_eq_true, exB_iff]
    constructor
    · rintro (⟨k, h1, h2⟩ | h)
      · exact ⟨k, by omega, h2⟩
      · exact ⟨n, by omega, h⟩
    · rintro ⟨k, h1, h2⟩
      by_cases e : k = n
      · subst e; exact Or.inr h2
      · exact Or.inl ⟨k, by omega, h2⟩
theorem pdB_congr {m m' : Nat → Bool} {f g : Nat → Nat} : ∀ {n}, (∀ k, k < n → m k = m' k) → (∀ k, k < n → m k = true → f k = g k) → pdB m f n = pdB m' g n
  | 0, _, _ => rfl
  | n + 1, h1, h2 => by
    rw [pdB, pdB, pdB_congr (fun k hk => h1 k (by omega)) (fun k hk => h2 k (by omega)), ← h1 n (by omega)]
    by_cases e : m n = true
    · rw [if_pos e, if_pos e, h2 n (by omega) e]
    · rw [if_neg e, if_neg e]
theorem cnB_congr {m m' : Nat → Bool} : ∀ {n}, (∀ k, k < n → m k = m' k) → cnB m n = cnB m' n
  | 0, _ => rfl
  | n + 1, h => by rw [cnB, cnB, cnB_congr (fun k hk => h k (by omega)), h n (by omega)]
/-- the product splits by a part of the members -/
theorem pdB_split {m : Nat → Bool} (t : Nat → Bool) (f : Nat → Nat) : ∀ n, pdB m f n = pdB (fun k => m k && t k) f n * pdB (fun k => m k && !t k) f n
  | 0 => rfl
  | n + 1 => by
    rw [pdB, pdB, pdB, pdB_split t f n]
    cases hm : m n <;> cases ht : t n <;> simp [Nat.mul_assoc, Nat.mul_comm, Nat.mul_left_comm]
theorem pdB_rank (m : Nat → Bool) : ∀ n, pdB m (fun p => 1 + cnB m p) n = fcN (cnB m n)
  | 0 => rfl
  | n + 1 => by
    rw [pdB, pdB_rank m n, cnB]
    by_cases e : m n = true
    · rw [if_pos e, if_pos e, fcN, Nat.mul_comm, Nat.add_comm]
    · rw [if_neg e, if_neg e, Nat.mul_one, Nat.add_zero]
theorem cnB_rem {m : Nat → Bool} {w : Nat} (hw : m w = true) : ∀ n, cnB (fun k => m k && !decide (k = w)) n + (if w < n then 1 else 0) = cnB m n
  | 0 => rfl
  | n + 1 => by
    have ih := cnB_rem hw n
    rw [cnB, cnB]
    by_cases e : n = w
    · subst e
      simp [hw] at ih ⊢
      omega
    · have e2 : (w < n + 1) = (w < n) := by apply propext; omega
      simp only [e2, e, decide_false, Bool.not_false, Bool.and_true]
      omega
theorem pdB_zero {m : Nat → Bool} {f : Nat → Nat} {p : Nat} (hm : m p = true) (hf : f p = 0) : ∀ n, p < n → pdB m f n = 0
  | 0, h => absurd h (Nat.not_lt_zero p)
  | n + 1, h => by
    rw [pdB]
    by_cases e : p = n
    · subst e; rw [if_pos hm, hf, Nat.mul_zero]
    · rw [pdB_zero hm hf n (by omega), Nat.zero_mul]
theorem smB_zero {m : Nat → Bool} {f : Nat → Nat} : ∀ {n}, (∀ k, k < n → m k = true → f k = 0) → smB m f n = 0
  | 0, _ => rfl
  | n + 1, h => by
    rw [smB, smB_zero (fun k hk => h k (by omega))]
    by_cases e : m n = true
    · rw [if_pos e, h n (by omega) e]
    · rw [if_neg e]
theorem smB_const {m : Nat → Bool} {f : Nat → Nat} {c : Nat} : ∀ {n}, (∀ k, k < n → m k = true → f k = c) → smB m f n = cnB m n * c
  | 0, _ => (Nat.zero_mul _).symm
  | n + 1, h => by
    rw [smB, cnB, smB_const (fun k hk => h k (by omega)), Nat.add_mul]
    by_cases e : m n = true
    · rw [if_pos e, if_pos e, h n (by omega) e, Nat.one_mul]
    · rw [if_neg e, if_neg e, Nat.zero_mul]
theorem smB_congr {m m' : Nat → Bool} {f g : Nat → Nat} : ∀ {n}, (∀ k, k < n → m k = m' k) → (∀ k, k < n → m k = true → f k = g k) → smB m f n = smB m' g n
  | 0, _, _ => rfl
  | n + 1, h1, h2 => by
    rw [smB, smB, smB_congr (fun k hk => h1 k (by omega)) (fun k hk => h2 k (by omega)), ← h1 n (by omega)]
    by_cases e : m n = true
    · rw [if_pos e, if_pos e, h2 n (by omega) e]
    · rw [if_neg e, if_neg e]
/-- one print's factor: 0 if an earlier member is not comparable, else one more than the earlier members that are alike -/
def odF (le : Nat → Nat → Bool) (m : Nat → Bool) (p : Nat) : Nat := if exB (fun e => m e && !le e p && !le p e) p = true then 0 else 1 + cnB (fun e => m e && le e p && le p e) p
def odC (le : Nat → Nat → Bool) (m : Nat → Bool) (n : Nat) : Nat := pdB m (odF le m) n
def mxB (le : Nat → Nat → Bool) (m : Nat → Bool) (n w : Nat) : Bool := m w && !exB (fun i => m i && !le i w) n
def rmB (m : Nat → Bool) (w : Nat) : Nat → Bool := fun k => m k && !decide (k = w)
theorem mxB_iff {le : Nat → Nat → Bool} {m : Nat → Bool} {n w : Nat} : mxB le m n w = true ↔ m w = true ∧ ∀ i, i < n → m i = true → le i w = true := by
  unfold mxB
  rw [Bool.and_eq_true]
  constructor
  · rintro ⟨h1, h2⟩
    refine ⟨h1, fun i hi hm => ?_⟩
    cases hl : le i w with
    | true => rfl
    | false =>
      have : exB (fun i => m i && !le i w) n = true := exB_iff.mpr ⟨i, hi, by simp [hm, hl]⟩
      rw [this] at h2; cases h2
  · rintro ⟨h1, h2⟩
    refine ⟨h1, ?_⟩
    cases he : exB (fun i => m i && !le i w) n with
    | false => rfl
    | true =>
      obtain ⟨i, hi, hp⟩ := exB_iff.mp he
      simp only [Bool.and_eq_true, Bool.not_eq_true'] at hp
      rw [h2 i hi hp.1] at hp
      cases hp.2
theorem mx_ex {le : Nat → Nat → Bool} {m : Nat → Bool} (rf : ∀ a, le a a = true) (tr : ∀ a b c, le a b = true → le b c = true → le a c = true) : ∀ n, (∀ a b, a < n → b < n → m a = true → m b = true → le a b = true ∨ le b a = true) → (∃ p, p < n ∧ m p = true) → ∃ w, w < n ∧ m w = true ∧ ∀ i, i < n → m i = true → le i w = true
  | 0, _, ⟨p, h, _⟩ => absurd h (Nat.not_lt_zero p)
  | n + 1, ht, ⟨p, hp, hm⟩ => by
    by_cases hx : ∃ q, q < n ∧ m q = true
    · obtain ⟨w, hw, hmw, hall⟩ := mx_ex rf tr n (fun a b ha hb => ht a b (by omega) (by omega)) hx
      by_cases hn : m n = true
      · rcases ht n w (by omega) (by omega) hn hmw with h | h
        · refine ⟨w, by omega, hmw, fun i hi hmi => ?_⟩
          by_cases e : i = n
          · subst e; exact h
          · exact hall i (by omega) hmi
        · refine ⟨n, by omega, hn, fun i hi hmi => ?_⟩
          by_cases e : i = n
          · subst e; exact rf i
          · exact tr _ _ _ (hall i (by omega) hmi) h
      · refine ⟨w, by omega, hmw, fun i hi hmi => ?_⟩
        by_cases e : i = n
        · subst e; exact absurd hmi hn
        · exact hall i (by omega) hmi
    · have e : p = n := by
        rcases Nat.lt_or_ge p n with q | q
        · exact absurd ⟨p, q, hm⟩ hx
        · omega
      subst e
      refine ⟨p, by omega, hm, fun i hi hmi => ?_⟩
      by_cases e : i = p
      · subst e; exact rf i
      · exact absurd ⟨i, by omega, hmi⟩ hx
/-- **the count by the last one is the count by likes** -/
theorem od_step {le : Nat → Nat → Bool} (rf : ∀ a, le a a = true) (tr : ∀ a b c, le a b = true → le b c = true → le a c = true) {m : Nat → Bool} {n : Nat} (hne : ∃ p, p < n ∧ m p = true) : smB (mxB le m n) (fun w => odC le (rmB m w) n) n = odC le m n := by
  by_cases hbad : ∃ e p, e < p ∧ p < n ∧ m e = true ∧ m p = true ∧ le e p = false ∧ le p e = false
  · obtain ⟨e, p, h1, h2, h3, h4, h5, h6⟩ := hbad
    have z : ∀ m' : Nat → Bool, m' e = true → m' p = true → odC le m' n = 0 := by
      intro m' q1 q2
      apply pdB_zero q2 _ n h2
      rw [odF, if_pos (exB_iff.mpr ⟨e, h1, by simp [q1, h5, h6]⟩)]
    rw [z m h3 h4]
    apply smB_zero
    intro w hw hm
    obtain ⟨q1, q2⟩ := mxB_iff.mp hm
    have we : ¬ e = w := by
      rintro rfl
      have := q2 p h2 h4
      rw [h6] at this; cases this
    have wp : ¬ p = w := by
      rintro rfl
      have := q2 e (by omega) h3
      rw [h5] at this; cases this
    exact z _ (by simp [rmB, h3, we]) (by simp [rmB, h4, wp])
  · have tot : ∀ a b, a < n → b < n → m a = true → m b = true → le a b = true ∨ le b a = true := by
      intro a b ha hb h1 h2
      by_cases e : a = b
      · subst e; exact Or.inl (rf a)
      · cases h3 : le a b with
        | true => exact Or.inl rfl
        | false =>
          cases h4 : le b a with
          | true => exact Or.inr rfl
          | false =>
            rcases Nat.lt_or_ge a b with q | q
            · exact absurd ⟨a, b, q, hb, h1, h2, h3, h4⟩ hbad
            · exact absurd ⟨b, a, by omega, ha, h2, h1, h4, h3⟩ hbad
    have fac : ∀ (m' : Nat → Bool), (∀ k, m' k = true → m k = true) → ∀ p, p < n → m' p = true → odF le m' p = 1 + cnB (fun e => m' e && le e p && le p e) p := by
      intro m' hsub p hp hmp
      rw [odF, if_neg]
      intro hx
      obtain ⟨e, he, hq⟩ := exB_iff.mp hx
      simp only [Bool.and_eq_true, Bool.not_eq_true'] at hq
      exact hbad ⟨e, p, he, hp, hsub e hq.1.1, hsub p hmp, hq.1.2, hq.2⟩
    have M : ∀ {w : Nat}, mxB le m n w = true ↔ m w = true ∧ ∀ i, i < n → m i = true → le i w = true := fun {w} => mxB_iff
    obtain ⟨w0, hw0, hmw0, hall0⟩ := mx_ex rf tr n tot hne
    have hM0 : mxB le m n w0 = true := M.mpr ⟨hmw0, hall0⟩
    have like : ∀ p e, p < n → e < n → mxB le m n p = true → (m e && le e p && le p e) = mxB le m n e := by
      intro p e hp he hMp
      obtain ⟨q1, q2⟩ := M.mp hMp
      cases hMe : mxB le m n e with
      | true =>
        obtain ⟨r1, r2⟩ := M.mp hMe
        simp [r1, q2 e he r1, r2 p hp q1]
      | false =>
        cases hme : m e with
        | false => simp
        | true =>
          cases hpe : le p e with
          | false => simp
          | true =>
            have : mxB le m n e = true := M.mpr ⟨hme, fun i hi hmi => tr _ _ _ (q2 i hi hmi) hpe⟩
            rw [this] at hMe; cases hMe
    have top : odC le m n = fcN (cnB (mxB le m n) n) * pdB (fun k => m k && !mxB le m n k) (odF le m) n := by
      unfold odC
      rw [pdB_split (mxB le m n)]
      congr 1
      rw [← pdB_rank]
      apply pdB_congr
      · intro k hk
        cases h : mxB le m n k with
        | true => simp [(M.mp h).1]
        | false => simp
      · intro k hk hmk
        simp only [Bool.and_eq_true] at hmk
        rw [fac m (fun _ h => h) k hk hmk.1]
        congr 1
        exact cnB_congr (fun e he => like k e hk (by omega) hmk.2)
    have rest : ∀ w, w < n → mxB le m n w = true → odC le (rmB m w) n = fcN (cnB (mxB le m n) n - 1) * pdB (fun k => m k && !mxB le m n k) (odF le m) n := by
      intro w hw hMw
      obtain ⟨q1, q2⟩ := M.mp hMw
      have hsub : ∀ k, rmB m w k = true → m k = true := fun k h => by
        simp only [rmB, Bool.and_eq_true] at h; exact h.1
      have hc : cnB (rmB (mxB le m n) w) n = cnB (mxB le m n) n - 1 := by
        have := cnB_rem hMw n
        rw [if_pos hw] at this
        show cnB (fun k => mxB le m n k && !decide (k = w)) n = _
        omega
      unfold odC
      rw [pdB_split (mxB le m n)]
      congr 1
      · rw [← hc, ← pdB_rank]
        apply pdB_congr
        · intro k hk
          unfold rmB
          cases h : mxB le m n k with
          | true => simp [(M.mp h).1]
          | false => simp
        · intro k hk hmk
          simp only [Bool.and_eq_true] at hmk
          rw [fac (rmB m w) hsub k hk hmk.1]
          congr 1
          apply cnB_congr
          intro e he
          have := like k e hk (by omega) hmk.2
          show (m e && !decide (e = w) && le e k && le k e) = (mxB le m n e && !decide (e = w))
          rw [← this]
          cases m e <;> cases le e k <;> cases le k e <;> simp
      · apply pdB_congr
        · intro k hk
          unfold rmB
          by_cases e : k = w
          · subst e; simp [hMw]
          · simp [e]
        · intro k hk hmk
          simp only [Bool.and_eq_true, Bool.not_eq_true'] at hmk
          rw [fac (rmB m w) hsub k hk hmk.1, fac m (fun _ h => h) k hk (hsub k hmk.1)]
          congr 1
          apply cnB_congr
          intro e he
          unfold rmB
          by_cases ew : e = w
          · subst ew
            have hke : le e k = false := by
              cases h : le e k with
              | false => rfl
              | true =>
                have : mxB le m n k = true := M.mpr ⟨hsub k hmk.1, fun i hi hmi => tr _ _ _ (q2 i hi hmi) h⟩
                rw [this] at hmk; cases hmk.2
            simp [hke]
          · simp [ew]
    rw [smB_const rest, top, ← Nat.mul_assoc]
    congr 1
    have hpos : cnB (mxB le m n) n ≠ 0 := by
      have := cnB_rem hM0 n
      rw [if_pos hw0] at this
      omega
    generalize cnB (mxB le m n) n = c at hpos
    obtain ⟨c, rfl⟩ : ∃ c', c = c' + 1 := ⟨c - 1, by omega⟩
    rfl
