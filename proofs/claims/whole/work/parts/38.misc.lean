/-! best state, mean, errors and targets of both sides -/
theorem zsub (x : Int32) : (0 : Int32) - x = -x := by rw [Int32.zero_sub]
theorem df_dm {tn tg nw tg2 : Nat → Int32} {pq : Nat} : ∀ n, (∀ k, k < n → nw (28 + 10 * pq + k) = tn (pq * 10 + k) ∧ tg2 k = tg k) → dfF tn tg pq n = dmF nw tg2 pq n
  | 0, _ => rfl
  | n + 1, h => by rw [dfF, dmF, df_dm n (fun k hk => h k (by omega)), (h n (by omega)).1, (h n (by omega)).2, zsub]
theorem bs_bt {tn tg nw tg2 : Nat → Int32} {nl : Nat} : ∀ n, (∀ p, p < n → dfF tn tg p nl = dmF nw tg2 p nl) → bs2 tn tg nl n = bt2 nw tg2 nl n
  | 0, _ => rfl
  | n + 1, h => by rw [bs2, bt2, bs_bt n (fun k hk => h k (by omega)), h n (by omega)]
section InvQ
variable {d ss tn : Nat → Int32} {nl : Nat} {va sg : Int32} {pr : Nat} {sn wk : Int32} {P : Nat → PSt} {sc : Nat} {tg er nw ps : Nat → Int32} {sv : Nat} {er2 tg2 : Nat → Int32}
theorem Inv.best (h : Inv d ss tn nl va sg pr sn wk P sc tg er nw ps sv er2 tg2) : bsF tn tg ss nl pr = btF nw tg2 nl pr := by
  have hT := fun p hp k hk => h.tone (p := p) (k := k) hp hk
  obtain ⟨⟨r0, r1, r2, r3, r4, r5, r6, r7, r8⟩, ⟨g1, g2, g3, g4, g5, g6, g7⟩, h3, h4, h5, h6, h7, h8, h9⟩ := h
  have e : bsB tn tg nl pr = btB nw tg2 nl pr := by
    unfold bsB btB
    rw [bs_bt pr (fun p hp => df_dm nl (fun k hk => ⟨hT p hp k hk, h8 k (by omega)⟩))]
  unfold bsF btF
  rw [e]
  by_cases q : btB nw tg2 nl pr = -1
  · rw [if_pos q, if_pos q]
  · rw [if_neg q, if_neg q, r7 _ (by have := bt_lt g2 q; omega)]
theorem ds_sm (h6 : ∀ k, k < 10 → nw (6 + k) = d k) (h4 : ∀ k, k < 10 → ∃ a, a ≤ 99 ∧ d k = nI a) : ∀ n, n ≤ 10 → ∃ S, S ≤ 99 * n ∧ dsF d n = nI S ∧ smF nw n = nI S
  | 0, _ => ⟨0, by omega, rfl, rfl⟩
  | n + 1, hn => by
    obtain ⟨S, hS, e1, e2⟩ := ds_sm h6 h4 n (by omega)
    obtain ⟨a, ha, ea⟩ := h4 n (by omega)
    refine ⟨S + a, by omega, ?_, ?_⟩
    · rw [dsF, e1, ea, nI_add]
    · rw [smF, e2, h6 n (by omega), ea, nI_add]
theorem Inv.sum (h : Inv d ss tn nl va sg pr sn wk P sc tg er nw ps sv er2 tg2) : ∃ S, S < 991 ∧ dsF d nl = nI S ∧ smF nw nl = nI S := by
  obtain ⟨S, hS, e1, e2⟩ := ds_sm h.1.2.2.2.2.2.2.1 h.2.1.2.2.2.1 nl h.2.1.1
  have := h.2.1.1
  exact ⟨S, by omega, e1, e2⟩
theorem mean_of {n S : Nat} (h : mnT n = true) (hS : S < 991) : boK (mnF S n) = true ∧ vf_n32 (mnF S n) ∧ cmL (mnF S n) (mnF S n) = 0 ∧ boF (mnF S n) = (mnF S n).toInt32 := by
  have := List.all_eq_true.mp h S (List.mem_range.mpr hS)
  simp only [Bool.and_eq_true, decide_eq_true_eq] at this
  obtain ⟨⟨⟨a, b⟩, c⟩, e⟩ := this
  exact ⟨a, b, c, e⟩
theorem mean_all {n : Nat} (h1 : 1 ≤ n) (h : n ≤ 10) : mnT n = true := by
  have : n = 1 ∨ n = 2 ∨ n = 3 ∨ n = 4 ∨ n = 5 ∨ n = 6 ∨ n = 7 ∨ n = 8 ∨ n = 9 ∨ n = 10 := by omega
  rcases this with e | e | e | e | e | e | e | e | e | e <;> rw [e]
  · exact mn_1
  · exact mn_2
  · exact mn_3
  · exact mn_4
  · exact mn_5
  · exact mn_6
  · exact mn_7
  · exact mn_8
  · exact mn_9
  · exact mn_10
theorem f0_bits : FP.fconst0.toInt32 = 0 := by decide
theorem ec_nat {cx : Int32} (h : ¬ cx < -5 ∧ cx ≤ -2) : ∃ j, j < 4 ∧ -2 - cx = nI j := by
  obtain ⟨h1, h2⟩ := h
  rw [i_lt] at h1
  rw [i_le] at h2
  have a : (-5 : Int32).toInt = -5 := rfl
  have b : (-2 : Int32).toInt = -2 := rfl
  have e := Int32.ofInt_toInt cx
  have : cx.toInt = -2 ∨ cx.toInt = -3 ∨ cx.toInt = -4 ∨ cx.toInt = -5 := by omega
  rcases this with q | q | q | q <;> rw [q] at e <;> rw [← e]
  · exact ⟨0, by omega, by decide⟩
  · exact ⟨1, by omega, by decide⟩
  · exact ⟨2, by omega, by decide⟩
  · exact ⟨3, by omega, by decide⟩
theorem st_case (lx vx : Int32) : (∃ li, li < 10 ∧ lx = nI li ∧ ¬ vx < 0 ∧ vx ≤ 9) ∨ (¬ (¬ lx < 0 ∧ ¬ 10 ≤ lx ∧ ¬ vx < 0 ∧ vx ≤ 9) ∧ ¬ (¬ wiF lx 0 9 = 0 ∧ ¬ wiF vx 0 9 = 0)) := by
  by_cases h : ¬ lx < 0 ∧ ¬ 10 ≤ lx ∧ ¬ vx < 0 ∧ vx ≤ 9
  · left
    obtain ⟨h1, h2, h3⟩ := h
    obtain ⟨j, hj, e⟩ := nI_of h1
    subst e
    refine ⟨j, ?_, rfl, h3⟩
    rw [show (10 : Int32) = nI 10 from rfl, nI_leI (by omega) (by omega)] at h2
    omega
  · right
    refine ⟨h, fun q => h ?_⟩
    have a := wi_of q.1
    have b := wi_of q.2
    refine ⟨a.1, fun z => ?_, b⟩
    have a2 := a.2
    rw [i_le] at z a2
    have c : (10 : Int32).toInt = 10 := rfl
    have c2 : (9 : Int32).toInt = 9 := rfl
    omega
theorem Inv.target (h : Inv d ss tn nl va sg pr sn wk P sc tg er nw ps sv er2 tg2) {li : Nat} {vx : Int32} (hv : ¬ vx < 0 ∧ vx ≤ 9) : Inv d ss tn nl va sg pr sn wk P sc (upd tg li vx) er nw ps sv er2 (upd tg2 li vx) := by
  obtain ⟨h1, h2, h3, h4, h5, h6, h7, h8, h9⟩ := h
  refine ⟨h1, h2, h3, h4, h5, h6, h7, fun k hk => ?_, fun k hk => ?_⟩
  · by_cases e : k = li
    · subst e; rw [pk_us, pk_us]
    · rw [pk_un e, pk_un e]; exact h8 k hk
  · by_cases e : k = li
    · subst e
      obtain ⟨t, ht, et⟩ := nI_of2 (M := 9) (n := 9) rfl hv.1 hv.2
      exact ⟨t, ht, by rw [pk_us]; exact et⟩
    · obtain ⟨t, ht, et⟩ := h9 k hk
      exact ⟨t, ht, by rw [pk_un e]; exact et⟩
/-- the two sides at the start -/
theorem inv_start : Inv (fun _ => 0) (fun _ => 0) (fun _ => 0) 0 0 2 0 1 0 (fun _ => ((fun _ => 0), (fun _ => 0), (fun _ => 0), 0, 0, 2, 0, 1, 0)) 0 (fun _ => 0) (fun _ => 0) (upd (upd (fun _ => 0) 1 2) 2 1) (fun _ => 0) 0 (fun _ => 0) (fun _ => 0) := by
  refine ⟨⟨rfl, rfl, rfl, rfl, rfl, rfl, fun k hk => ?_, fun k hk => ?_, fun k hk => ?_⟩, ⟨by omega, by omega, Or.inl rfl, fun k _ => ⟨0, by omega, rfl⟩, ⟨2, by omega, by omega, rfl⟩, ⟨0, by decide, rfl⟩, fun p hp => absurd hp (Nat.not_lt_zero p)⟩, by omega, rfl, fun k hk => absurd hk (Nat.not_lt_zero k), fun _ => Or.inl rfl, fun _ _ => rfl, fun _ _ => rfl, fun k _ => ⟨0, by omega, rfl⟩⟩
  · rw [pk_un (by omega), pk_un (by omega)]
  · rw [pk_un (by omega), pk_un (by omega)]
  · rw [pk_un (by omega), pk_un (by omega)]
end InvQ
