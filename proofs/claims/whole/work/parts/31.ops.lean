/-! conditions, and the steps of work -/
theorem i_lt {a b : Int32} : a < b ↔ a.toInt < b.toInt := Int32.lt_iff_toInt_lt
theorem i_le {a b : Int32} : a ≤ b ↔ a.toInt ≤ b.toInt := Int32.le_iff_toInt_le
theorem wi_yes {v a b : Int32} (h : ¬ v < a ∧ v ≤ b) : ¬ wiF v a b = 0 := by
  rw [wiF, if_neg h.1, if_neg (by have := h.2; rw [i_le] at this; rw [i_lt]; omega)]
  decide
theorem wi_no {v a b : Int32} (h : ¬ (¬ v < a ∧ v ≤ b)) : wiF v a b = 0 := by
  rw [wiF]
  split
  · rfl
  · rename_i h1
    rw [if_pos]
    rw [i_lt]
    have : ¬ v ≤ b := fun q => h ⟨h1, q⟩
    rw [i_le] at this
    omega
theorem wi_of {v a b : Int32} (h : ¬ wiF v a b = 0) : ¬ v < a ∧ v ≤ b := by
  by_cases q : ¬ v < a ∧ v ≤ b
  · exact q
  · exact absurd (wi_no q) h
theorem nlm_toInt {n : Nat} (h : n ≤ 12) : (nI n - 1).toInt = (n : Int) - 1 := pk_sub_toInt (a := n) (b := 1) (by omega) (by omega)
theorem il_no {lx : Int32} {n : Nat} (hn : n ≤ 12) (h : ilF lx n = 0) : wiF lx 0 (nI n - 1) = 0 := by
  apply wi_no
  rintro ⟨h1, h2⟩
  rw [ilF, if_neg h1] at h
  have h3 : ¬ nI n ≤ lx := by
    rw [i_le] at h2 ⊢
    rw [nlm_toInt hn] at h2
    rw [nI_toInt (by omega)]
    omega
  rw [if_neg h3] at h
  exact absurd h (by decide)
theorem ix_case (lx : Int32) {n : Nat} (hn : n ≤ 12) : ilF lx n = 0 ∨ ∃ li, li < n ∧ lx = nI li := by
  rcases pk_ix lx (n := n) (by omega) with h | h | h
  · left; rw [ilF, if_pos h]
  · left
    rw [ilF]
    split
    · rfl
    · first | rfl | rw [if_pos h]
  · right; exact h
theorem ix_not {n : Nat} {lx : Int32} {Q : Prop} (hn : n ≤ 12) (h : ¬ (¬ ilF lx n = 0 ∧ Q)) : ¬ (¬ wiF lx 0 (nI n - 1) = 0 ∧ Q) := fun q => h ⟨fun z => q.1 (il_no hn z), q.2⟩
theorem bit01 (x : Int32) : x &&& 1 = 0 ∨ x &&& 1 = 1 := by
  have e : x &&& 1 = nI (x.toBitVec.toNat &&& 1) := by
    conv => lhs; rw [i_bv x]
    exact nI_and _ 1
  rw [e, Nat.and_one_is_mod]
  rcases Nat.mod_two_eq_zero_or_one x.toBitVec.toNat with h | h <;> rw [h]
  · left; rfl
  · right; rfl
theorem ct_bit {va k : Int32} : ctF va k = 0 ↔ va >>> (k &&& 31) &&& 1 = 0 := by
  unfold ctF
  split
  · rename_i h; exact ⟨fun _ => h, fun _ => rfl⟩
  · rename_i h; exact ⟨fun q => absurd q (by decide), fun q => absurd q h⟩
theorem mask_iff (x : BitVec 32) {n : Nat} (hn : n ≤ 12) : x &&& (BitVec.ofNat 32 (2 ^ n - 1) ^^^ BitVec.allOnes 32) = 0#32 ↔ x.toNat < 2 ^ n := by
  constructor
  · intro h
    apply Nat.lt_pow_two_of_testBit
    intro i hi
    by_cases h32 : i < 32
    · have e := congrArg (fun z => z.getLsbD i) h
      simp only [BitVec.getLsbD_and, BitVec.getLsbD_xor, BitVec.getLsbD_ofNat, BitVec.getLsbD_allOnes, Nat.testBit_two_pow_sub_one, h32, decide_true, Bool.true_and, BitVec.getLsbD_zero] at e
      have : decide (i < n) = false := by simp; omega
      rw [this] at e
      have e2 : x.getLsbD i = false := by simpa using e
      exact e2
    · exact Nat.testBit_lt_two_pow (Nat.lt_of_lt_of_le x.isLt (Nat.pow_le_pow_right (by decide) (by omega)))
  · intro h
    apply BitVec.eq_of_getLsbD_eq
    intro i hi
    simp only [BitVec.getLsbD_and, BitVec.getLsbD_xor, BitVec.getLsbD_ofNat, BitVec.getLsbD_allOnes, Nat.testBit_two_pow_sub_one, hi, decide_true, Bool.true_and, BitVec.getLsbD_zero]
    by_cases hin : i < n
    · simp [hin]
    · have : x.getLsbD i = false := Nat.testBit_lt_two_pow (Nat.lt_of_lt_of_le h (Nat.pow_le_pow_right (by decide) (by omega)))
      rw [this]; simp
theorem is_iff {v : Int32} {n : Nat} (hn : n ≤ 12) : ¬ isF v (nI n) = 0 ↔ v.toBitVec.toNat < 2 ^ n := by
  have e : v &&& (abF (nI n) ^^^ -1) = 0 ↔ v.toBitVec.toNat < 2 ^ n := by
    rw [← mask_iff v.toBitVec hn, ← Int32.toBitVec_inj]
    have : abF (nI n) = nI (2 ^ n - 1) := ab_nat hn
    rw [this, Int32.toBitVec_and, Int32.toBitVec_xor]
    exact Iff.rfl
  rw [← e, isF]
  split
  · rename_i h; exact ⟨fun _ => h, fun _ => by decide⟩
  · rename_i h; exact ⟨fun q => absurd rfl q, fun q => absurd q h⟩
theorem wab_iff {v : Int32} {n : Nat} (hn : n ≤ 12) : ¬ wiF v 0 (abF (nI n)) = 0 ↔ v.toBitVec.toNat < 2 ^ n := by
  have hp := p2_lt hn
  have hp0 : 0 < 2 ^ n := Nat.pow_pos (by decide)
  have ha : (abF (nI n)).toInt = ((2 ^ n - 1 : Nat) : Int) := by
    have : abF (nI n) = nI (2 ^ n - 1) := ab_nat hn
    rw [this, nI_toInt (by omega)]
  have hv : v.toInt = if 2 * v.toBitVec.toNat < 2 ^ 32 then (v.toBitVec.toNat : Int) else (v.toBitVec.toNat : Int) - ((2 ^ 32 : Nat) : Int) := BitVec.toInt_eq_toNat_cond v.toBitVec
  have hlt := v.toBitVec.isLt
  have h0 : (0 : Int32).toInt = 0 := rfl
  generalize v.toBitVec.toNat = x at hv hlt ⊢
  generalize 2 ^ n = y at hp hp0 ha ⊢
  constructor
  · intro h
    obtain ⟨h1, h2⟩ := wi_of h
    rw [i_lt, h0] at h1
    rw [i_le, ha] at h2
    split at hv <;> omega
  · intro h
    apply wi_yes
    rw [i_lt, i_le, ha, h0]
    split at hv <;> omega
theorem is_wab {v : Int32} {n : Nat} (hn : n ≤ 12) (h : ¬ isF v (nI n) = 0) : ¬ wiF v 0 (abF (nI n)) = 0 := (wab_iff hn).mpr ((is_iff hn).mp h)
theorem is_wab0 {v : Int32} {n : Nat} (hn : n ≤ 12) (h : isF v (nI n) = 0) : wiF v 0 (abF (nI n)) = 0 := by
  by_cases q : wiF v 0 (abF (nI n)) = 0
  · exact q
  · exact absurd h ((is_iff hn).mpr ((wab_iff hn).mp q))
theorem is_nat {v : Int32} {n : Nat} (hn : n ≤ 12) (h : ¬ isF v (nI n) = 0) : ∃ x, x < 2 ^ n ∧ v = nI x := ⟨v.toBitVec.toNat, (is_iff hn).mp h, i_bv v⟩
theorem ones_all : ((List.range 1024).all fun v => decide (bcF (nI v) = onF (nI v) 12)) = true := by decide +kernel
theorem ones_eq {v : Nat} (h : v < 1024) : bcF (nI v) = onF (nI v) 12 := by
  have := List.all_eq_true.mp ones_all v (List.mem_range.mpr h)
  simpa using this
theorem nI_or (a b : Nat) : nI a ||| nI b = nI (a ||| b) := by
  apply Int32.toBitVec_inj.mp
  rw [Int32.toBitVec_or, nI_bv, nI_bv, nI_bv]
  apply BitVec.eq_of_toNat_eq
  simp
theorem p2_10 {n : Nat} (h : n ≤ 10) : 2 ^ n ≤ 1024 := by
  have := Nat.pow_le_pow_right (n := 2) (by decide) h
  simpa using this
section Ops
variable {d ss tn : Nat → Int32} {nl : Nat} {va sg : Int32} {pr : Nat} {sn wk : Int32} {nw : Nat → Int32}
theorem ones_va (h : GoodE d tn nl va sg pr wk) : bcF va = onF va 12 := by
  obtain ⟨h1, -, -, -, -, ⟨v, hv, rfl⟩, -⟩ := h
  exact ones_eq (Nat.lt_of_lt_of_le hv (p2_10 h1))
theorem draw_rel (hr : RelE d ss tn nl va sg pr sn wk nw) (hn : nl < 10) : RelE (upd d nl 0) ss tn (nl + 1) va sg pr sn 1 (upd (upd (upd nw (6 + nl) 0) 0 (nI (nl + 1))) 3 1) := by
  obtain ⟨h0, h1, h2, h3, h4, h5, h6, h7, h8⟩ := hr
  refine ⟨?_, ?_, ?_, ?_, ?_, ?_, fun k hk => ?_, fun k hk => ?_, fun k hk => ?_⟩
  · rw [pk_un (by decide), pk_us]
  · rw [pk_un (by decide), pk_un (by decide), pk_un (by omega), h1]
  · rw [pk_un (by decide), pk_un (by decide), pk_un (by omega), h2]
  · rw [pk_us]
  · rw [pk_un (by decide), pk_un (by decide), pk_un (by omega), h4]
  · rw [pk_un (by decide), pk_un (by decide), pk_un (by omega), h5]
  · rw [pk_un (by omega), pk_un (by omega)]
    by_cases e : k = nl
    · subst e; rw [pk_us, pk_us]
    · rw [pk_un (by omega), pk_un e, h6 k hk]
  · rw [pk_un (by omega), pk_un (by omega), pk_un (by omega), h7 k hk]
  · rw [pk_un (by omega), pk_un (by omega), pk_un (by omega), h8 k hk]
theorem draw_good (h : GoodE d tn nl va sg pr wk) (hn : nl < 10) : GoodE (upd d nl 0) tn (nl + 1) va sg pr 1 := by
  obtain ⟨h1, h2, h3, h4, h5, ⟨v, hv, e⟩, h7⟩ := h
  refine ⟨by omega, h2, Or.inr rfl, fun k hk => ?_, h5, ⟨v, Nat.lt_of_lt_of_le hv (Nat.pow_le_pow_right (by decide) (by omega)), e⟩, fun p hp k h8 h9 => h7 p hp k (by omega) h9⟩
  by_cases e : k = nl
  · subst e; exact ⟨0, by omega, pk_us⟩
  · rw [pk_un e]; exact h4 k hk
theorem str_rel (hr : RelE d ss tn nl va sg pr sn wk nw) (v : Int32) : RelE d ss tn nl va v pr sn wk (upd nw 1 v) := by
  obtain ⟨h0, h1, h2, h3, h4, h5, h6, h7, h8⟩ := hr
  refine ⟨?_, pk_us, ?_, ?_, ?_, ?_, fun k hk => ?_, fun k hk => ?_, fun k hk => ?_⟩
  · rw [pk_un (by decide), h0]
  · rw [pk_un (by decide), h2]
  · rw [pk_un (by decide), h3]
  · rw [pk_un (by decide), h4]
  · rw [pk_un (by decide), h5]
  · rw [pk_un (by omega), h6 k hk]
  · rw [pk_un (by omega), h7 k hk]
  · rw [pk_un (by omega), h8 k hk]
theorem str_good (h : GoodE d tn nl va sg pr wk) {v : Int32} (hv : ¬ v < 1 ∧ v ≤ 5) : GoodE d tn nl va v pr wk := by
  obtain ⟨h1, h2, h3, h4, h5, h6, h7⟩ := h
  refine ⟨h1, h2, h3, h4, ?_, h6, h7⟩
  obtain ⟨a, b⟩ := hv
  rw [i_lt] at a
  have ha : (1 : Int32).toInt = 1 := rfl
  obtain ⟨j, hj, e⟩ := nI_of2 (x := v) (M := 5) (n := 5) rfl (by rw [i_lt]; have h0 : (0 : Int32).toInt = 0 := rfl; omega) b
  subst e
  rw [nI_toInt (by omega)] at a
  exact ⟨j, by omega, hj, rfl⟩
theorem var_rel (hr : RelE d ss tn nl va sg pr sn wk nw) (v : Int32) : RelE d ss tn nl v sg pr sn wk (upd nw 5 v) := by
  obtain ⟨h0, h1, h2, h3, h4, h5, h6, h7, h8⟩ := hr
  refine ⟨?_, ?_, ?_, ?_, ?_, pk_us, fun k hk => ?_, fun k hk => ?_, fun k hk => ?_⟩
  · rw [pk_un (by decide), h0]
  · rw [pk_un (by decide), h1]
  · rw [pk_un (by decide), h2]
  · rw [pk_un (by decide), h3]
  · rw [pk_un (by decide), h4]
  · rw [pk_un (by omega), h6 k hk]
  · rw [pk_un (by omega), h7 k hk]
  · rw [pk_un (by omega), h8 k hk]
theorem var_good (h : GoodE d tn nl va sg pr wk) {v : Int32} (hv : ¬ isF v (nI nl) = 0) : GoodE d tn nl (va ||| v) sg pr wk := by
  obtain ⟨h1, h2, h3, h4, h5, ⟨a, ha, rfl⟩, h7⟩ := h
  obtain ⟨x, hx, rfl⟩ := is_nat (show nl ≤ 12 by omega) hv
  exact ⟨h1, h2, h3, h4, h5, ⟨a ||| x, Nat.or_lt_two_pow ha hx, nI_or a x⟩, h7⟩
theorem cln_good (h : GoodE d tn nl va sg pr wk) : GoodE d tn nl 0 sg pr wk := by
  obtain ⟨h1, h2, h3, h4, h5, -, h7⟩ := h
  exact ⟨h1, h2, h3, h4, h5, ⟨0, Nat.pow_pos (by decide), rfl⟩, h7⟩
/-- burnishing: what is left -/
theorem bur_eq {a : Nat} (ha : a ≤ 99) {am : Int32} (hv : ¬ am < 1 ∧ am ≤ 99) : (if 0 < nI a - am then nI a - am else 0) = (if nI a ≤ am then 0 else nI a - am) ∧ ∃ b, b ≤ 99 ∧ (if nI a ≤ am then 0 else nI a - am) = nI b := by
  obtain ⟨v1, v2⟩ := hv
  rw [i_lt] at v1
  have h1 : (1 : Int32).toInt = 1 := rfl
  obtain ⟨j, hj, e⟩ := nI_of2 (x := am) (M := 99) (n := 99) rfl (by rw [i_lt]; have h0 : (0 : Int32).toInt = 0 := rfl; omega) v2
  subst e
  by_cases h : a ≤ j
  · have c1 : nI a ≤ nI j := nI_le h (by omega)
    have c2 : ¬ 0 < nI a - nI j := by
      rw [i_lt, pk_sub_toInt (by omega) (by omega)]
      have h0 : (0 : Int32).toInt = 0 := rfl
      omega
    rw [if_neg c2, if_pos c1]
    exact ⟨rfl, 0, by omega, rfl⟩
  · have c1 : ¬ nI a ≤ nI j := nI_ge (by omega) (by omega)
    have c2 : 0 < nI a - nI j := by
      rw [i_lt, pk_sub_toInt (by omega) (by omega)]
      have h0 : (0 : Int32).toInt = 0 := rfl
      omega
    rw [if_pos c2, if_neg c1]
    exact ⟨rfl, a - j, by omega, pk_sub (by omega)⟩
theorem bur_rel (hr : RelE d ss tn nl va sg pr sn wk nw) {li : Nat} (hl : li < 10) (v : Int32) : RelE (upd d li v) ss tn nl va sg pr sn 1 (upd (upd nw (6 + li) v) 3 1) := by
  obtain ⟨h0, h1, h2, h3, h4, h5, h6, h7, h8⟩ := hr
  refine ⟨?_, ?_, ?_, pk_us, ?_, ?_, fun k hk => ?_, fun k hk => ?_, fun k hk => ?_⟩
  · rw [pk_un (by decide), pk_un (by omega), h0]
  · rw [pk_un (by decide), pk_un (by omega), h1]
  · rw [pk_un (by decide), pk_un (by omega), h2]
  · rw [pk_un (by decide), pk_un (by omega), h4]
  · rw [pk_un (by decide), pk_un (by omega), h5]
  · rw [pk_un (by omega)]
    by_cases e : k = li
    · subst e; rw [pk_us, pk_us]
    · rw [pk_un (by omega), pk_un e, h6 k hk]
  · rw [pk_un (by omega), pk_un (by omega), h7 k hk]
  · rw [pk_un (by omega), pk_un (by omega), h8 k hk]
theorem bur_good (h : GoodE d tn nl va sg pr wk) {li : Nat} {v : Int32} (hv : ∃ b, b ≤ 99 ∧ v = nI b) : GoodE (upd d li v) tn nl va sg pr 1 := by
  obtain ⟨h1, h2, h3, h4, h5, h6, h7⟩ := h
  refine ⟨h1, h2, Or.inr rfl, fun k hk => ?_, h5, h6, h7⟩
  by_cases e : k = li
  · subst e; rw [pk_us]; exact hv
  · rw [pk_un e]; exact h4 k hk
end Ops
