/-! dipping and pulling -/
section Ops2
variable {d ss tn : Nat → Int32} {nl : Nat} {va sg : Int32} {pr : Nat} {sn wk : Int32} {nw : Nat → Int32}
theorem dip_val {a s m : Nat} (ha : a ≤ 99) (hs : s ≤ 5) (hm : m ≤ 99) (b : Int32) (hb : b = 0 ∨ b = 1) : (if nI a + ((b ^^^ 1) * nI s) * nI m ≤ 99 then nI a + ((b ^^^ 1) * nI s) * nI m else 99) = (if b = 0 then (if nI a + nI s * nI m < 99 then nI a + nI s * nI m else 99) else nI a) ∧ ∃ c, c ≤ 99 ∧ (if b = 0 then (if nI a + nI s * nI m < 99 then nI a + nI s * nI m else 99) else nI a) = nI c := by
  have hsm : s * m ≤ 5 * 99 := Nat.mul_le_mul hs hm
  rcases hb with rfl | rfl
  · rw [if_pos rfl]
    have e : ((0 : Int32) ^^^ 1) * nI s = nI s := by
      rw [show ((0 : Int32) ^^^ 1) = nI 1 from rfl, pk_mul, Nat.one_mul]
    rw [e, pk_mul, nI_add]
    generalize s * m = q at hsm
    have e99 : (99 : Int32) = nI 99 := rfl
    rw [e99]
    by_cases h : a + q < 99
    · rw [if_pos (nI_le (by omega) (by omega)), if_pos (nI_lt h (by omega))]
      exact ⟨rfl, a + q, by omega, rfl⟩
    · rw [if_neg (nI_nlt (by omega) (by omega))]
      by_cases h2 : a + q = 99
      · rw [h2, if_pos (nI_le (by omega) (by omega))]
        exact ⟨rfl, 99, by omega, rfl⟩
      · rw [if_neg (nI_ge (by omega) (by omega))]
        exact ⟨rfl, 99, by omega, rfl⟩
  · rw [if_neg (show ¬ (1 : Int32) = 0 by decide)]
    have e : ((1 : Int32) ^^^ 1) * nI s = nI 0 := by
      rw [show ((1 : Int32) ^^^ 1) = nI 0 from rfl, pk_mul, Nat.zero_mul]
    rw [e, pk_mul, Nat.zero_mul, nI_add, Nat.add_zero, if_pos (show nI a ≤ 99 from nI_le (b := 99) ha (by omega))]
    exact ⟨rfl, a, ha, rfl⟩
theorem dip_all (hr : RelE d ss tn nl va sg pr sn wk nw) (hg : GoodE d tn nl va sg pr wk) {m : Nat} (hm : m ≤ 99) : ∀ i, i ≤ 10 → (∀ k, k < 10 → dpW nw (nI m) i (6 + k) = etD d va sg (nI m) i k) ∧ (∀ j, (j < 6 ∨ 16 ≤ j) → dpW nw (nI m) i j = nw j) ∧ (∀ k, k < 10 → ∃ a, a ≤ 99 ∧ etD d va sg (nI m) i k = nI a) ∧ dpC nw (nI m) i = etC d va sg (nI m) i
  | 0, _ => ⟨fun k hk => hr.2.2.2.2.2.2.1 k hk, fun j _ => rfl, fun k hk => hg.2.2.2.1 k hk, rfl⟩
  | i + 1, hi => by
    obtain ⟨q1, q2, q3, q4⟩ := dip_all hr hg hm i (by omega)
    obtain ⟨s, hs1, hs5, hsg⟩ := hg.2.2.2.2.1
    obtain ⟨a, ha, ea⟩ := q3 i (by omega)
    have f5 : dpW nw (nI m) i 5 = va := (q2 5 (by omega)).trans hr.2.2.2.2.2.1
    have f1 : dpW nw (nI m) i 1 = nI s := ((q2 1 (by omega)).trans hr.2.1).trans hsg
    have fi : dpW nw (nI m) i (6 + i) = nI a := (q1 i (by omega)).trans ea
    have eT : dpT (dpW nw (nI m) i) (nI m) i = etD d va sg (nI m) (i + 1) i ∧ ∃ c, c ≤ 99 ∧ etD d va sg (nI m) (i + 1) i = nI c := by
      have hv := dip_val ha hs5 hm (va >>> (nI i &&& 31) &&& 1) (bit01 _)
      have e1 : dpT (dpW nw (nI m) i) (nI m) i = (if nI a + (((va >>> (nI i &&& 31) &&& 1) ^^^ 1) * nI s) * nI m ≤ 99 then nI a + (((va >>> (nI i &&& 31) &&& 1) ^^^ 1) * nI s) * nI m else 99) := by
        unfold dpT dpV
        rw [f5, f1, fi]
      have e2 : etD d va sg (nI m) (i + 1) i = (if va >>> (nI i &&& 31) &&& 1 = 0 then (if nI a + nI s * nI m < 99 then nI a + nI s * nI m else 99) else nI a) := by
        rw [etD]
        by_cases hc : ctF va (nI i) = 0
        · rw [if_pos hc, if_pos (ct_bit.mp hc), pk_us, ea, hsg]
        · rw [if_neg hc, if_neg (fun z => hc (ct_bit.mpr z)), ea]
      rw [e1, e2]
      exact hv
    obtain ⟨eT, c, hc, ec⟩ := eT
    have eo : ∀ k, k ≠ i → etD d va sg (nI m) (i + 1) k = etD d va sg (nI m) i k := by
      intro k hk
      rw [etD]
      split
      · rw [pk_un hk]
      · rfl
    refine ⟨fun k hk => ?_, fun j hj => ?_, fun k hk => ?_, ?_⟩
    · rw [dpW]
      by_cases e : k = i
      · subst e; rw [pk_us, eT]
      · rw [pk_un (by omega), eo k e, q1 k hk]
    · rw [dpW, pk_un (by omega), q2 j hj]
    · by_cases e : k = i
      · subst e; exact ⟨c, hc, ec⟩
      · rw [eo k e]; exact q3 k hk
    · rw [dpC, etC, q4, eT, q1 i (by omega)]
      split
      · exact Int32.add_zero _
      · rfl
theorem dip_nat {v : Int32} (hv : ¬ v < 0 ∧ v ≤ 99) : ∃ m, m ≤ 99 ∧ v = nI m := nI_of2 (M := 99) (n := 99) rfl hv.1 hv.2
theorem dip_rel (hr : RelE d ss tn nl va sg pr sn wk nw) (hg : GoodE d tn nl va sg pr wk) {v : Int32} (hv : ¬ v < 0 ∧ v ≤ 99) : RelE (etD d va sg v nl) ss tn nl va sg pr sn (if v ≤ 0 then wk else 1) (upd (dpW nw v nl) 3 (if v ≤ 0 then dpW nw v nl 3 else 1)) := by
  obtain ⟨m, hm, rfl⟩ := dip_nat hv
  obtain ⟨q1, q2, q3, q4⟩ := dip_all hr hg hm nl hg.1
  obtain ⟨h0, h1, h2, h3, h4, h5, h6, h7, h8⟩ := hr
  refine ⟨?_, ?_, ?_, ?_, ?_, ?_, fun k hk => ?_, fun k hk => ?_, fun k hk => ?_⟩
  · rw [pk_un (by decide), q2 0 (by omega), h0]
  · rw [pk_un (by decide), q2 1 (by omega), h1]
  · rw [pk_un (by decide), q2 2 (by omega), h2]
  · rw [pk_us, q2 3 (by omega), h3]
  · rw [pk_un (by decide), q2 4 (by omega), h4]
  · rw [pk_un (by decide), q2 5 (by omega), h5]
  · rw [pk_un (by omega), q1 k hk]
  · rw [pk_un (by omega), q2 (16 + k) (by omega), h7 k hk]
  · rw [pk_un (by omega), q2 (28 + k) (by omega), h8 k hk]
theorem dip_good (hr : RelE d ss tn nl va sg pr sn wk nw) (hg : GoodE d tn nl va sg pr wk) {v : Int32} (hv : ¬ v < 0 ∧ v ≤ 99) : GoodE (etD d va sg v nl) tn nl va sg pr (if v ≤ 0 then wk else 1) := by
  obtain ⟨m, hm, rfl⟩ := dip_nat hv
  obtain ⟨q1, q2, q3, q4⟩ := dip_all hr hg hm nl hg.1
  obtain ⟨h1, h2, h3, h4, h5, h6, h7⟩ := hg
  refine ⟨h1, h2, ?_, q3, h5, h6, h7⟩
  split
  · exact h3
  · exact Or.inr rfl
theorem dip_cnt (hr : RelE d ss tn nl va sg pr sn wk nw) (hg : GoodE d tn nl va sg pr wk) {v : Int32} (hv : ¬ v < 0 ∧ v ≤ 99) : etC d va sg v nl = dpC nw v nl := by
  obtain ⟨m, hm, rfl⟩ := dip_nat hv
  exact (dip_all hr hg hm nl hg.1).2.2.2.symm
/-! pulling -/
theorem puT_at (h : Nat → Int32) (nl pr : Nat) : ∀ i, i ≤ 10 → ∀ j, puT h nl pr i j = if 28 + 10 * pr ≤ j ∧ j < 28 + 10 * pr + i then (if nI nl ≤ nI (j - (28 + 10 * pr)) then 0 else h (6 + (j - (28 + 10 * pr))) / 10) else h j
  | 0, _, j => by rw [puT, if_neg (by omega)]
  | i + 1, hi, j => by
    have ih := puT_at h nl pr i (by omega)
    rw [puT, upd]
    by_cases e : j = 28 + 10 * pr + i
    · rw [if_pos e, if_pos (show 28 + 10 * pr ≤ j ∧ j < 28 + 10 * pr + (i + 1) by omega), ih (6 + i), if_neg (show ¬ (28 + 10 * pr ≤ 6 + i ∧ 6 + i < 28 + 10 * pr + i) by omega), show j - (28 + 10 * pr) = i by omega]
    · rw [if_neg e, ih j]
      by_cases e2 : 28 + 10 * pr ≤ j ∧ j < 28 + 10 * pr + i
      · rw [if_pos e2, if_pos (show 28 + 10 * pr ≤ j ∧ j < 28 + 10 * pr + (i + 1) by omega)]
      · rw [if_neg e2, if_neg (show ¬ (28 + 10 * pr ≤ j ∧ j < 28 + 10 * pr + (i + 1)) by omega)]
theorem apT_at (d tn : Nat → Int32) (nl pr : Nat) : ∀ i, ∀ j, apT d tn nl pr i j = if pr * 10 ≤ j ∧ j < pr * 10 + i then (if nI nl ≤ nI (j - pr * 10) then 0 else d (j - pr * 10)) / 10 else tn j
  | 0, j => by rw [apT, if_neg (by omega)]
  | i + 1, j => by
    have ih := apT_at d tn nl pr i
    rw [apT, upd]
    by_cases e : j = pr * 10 + i
    · rw [if_pos e, if_pos (show pr * 10 ≤ j ∧ j < pr * 10 + (i + 1) by omega), show j - pr * 10 = i by omega]
    · rw [if_neg e, ih j]
      by_cases e2 : pr * 10 ≤ j ∧ j < pr * 10 + i
      · rw [if_pos e2, if_pos (show pr * 10 ≤ j ∧ j < pr * 10 + (i + 1) by omega)]
      · rw [if_neg e2, if_neg (show ¬ (pr * 10 ≤ j ∧ j < pr * 10 + (i + 1)) by omega)]
theorem wear_val {a : Nat} (ha : a ≤ 99) : (if 0 < nI a - 1 then nI a - 1 else 0) = nI a - (if nI a ≤ 0 then (0 : Int32) else 1) ∧ ∃ c, c ≤ 99 ∧ (if 0 < nI a - 1 then nI a - 1 else 0) = nI c := by
  have h0 : (0 : Int32).toInt = 0 := rfl
  have e1 : (nI a - 1).toInt = (a : Int) - 1 := pk_sub_toInt (a := a) (b := 1) (by omega) (by omega)
  by_cases h : a = 0
  · subst h
    exact ⟨by decide, 0, by omega, by decide⟩
  · have c1 : ¬ nI a ≤ 0 := nI_nle (by omega) (by omega)
    rw [if_neg c1]
    have e2 : nI a - 1 = nI (a - 1) := pk_sub (b := 1) (by omega)
    by_cases h1 : a = 1
    · subst h1
      exact ⟨by decide, 0, by omega, by decide⟩
    · rw [if_pos (by rw [i_lt, e1, h0]; omega)]
      exact ⟨rfl, a - 1, by omega, e2⟩
theorem wear_all {h d : Nat → Int32} (h6 : ∀ k, k < 10 → h (6 + k) = d k) (h4 : ∀ k, k < 10 → ∃ a, a ≤ 99 ∧ d k = nI a) : ∀ i, i ≤ 10 → (∀ k, k < 10 → puW h i (6 + k) = weD d i k) ∧ (∀ j, (j < 6 ∨ 16 ≤ j) → puW h i j = h j) ∧ ∀ k, k < 10 → ∃ a, a ≤ 99 ∧ weD d i k = nI a
  | 0, _ => ⟨h6, fun _ _ => rfl, h4⟩
  | i + 1, hi => by
    obtain ⟨q1, q2, q3⟩ := wear_all h6 h4 i (by omega)
    obtain ⟨a, ha, ea⟩ := q3 i (by omega)
    obtain ⟨v1, c, hc, v2⟩ := wear_val ha
    have e1 : weD d (i + 1) i = (if 0 < nI a - 1 then nI a - 1 else 0) := by rw [weD, pk_us, ea]
    refine ⟨fun k hk => ?_, fun j hj => ?_, fun k hk => ?_⟩
    · by_cases e : k = i
      · subst e
        rw [e1, puW, pk_us, q1 k hk, ea, v1]
      · rw [puW, pk_un (by omega), weD, pk_un e, q1 k hk]
    · rw [puW, pk_un (by omega), q2 j hj]
    · by_cases e : k = i
      · subst e; rw [e1]; exact ⟨c, hc, v2⟩
      · rw [weD, pk_un e]; exact q3 k hk
theorem pul_sn (hw : wk = 0 ∨ wk = 1) : sn + (if nI pr ≤ 0 then 0 else wk) = apS pr sn wk := by
  unfold apS
  split
  · exact Int32.add_zero _
  · rcases hw with rfl | rfl
    · rw [if_pos rfl]; exact Int32.add_zero _
    · rw [if_neg (by decide)]
theorem pul_all (hr : RelE d ss tn nl va sg pr sn wk nw) (hg : GoodE d tn nl va sg pr wk) (hp : pr < 12) : RelE (apD d nl pr) (upd ss pr (apS pr sn wk)) (apT d tn nl pr 10) nl va sg (pr + 1) (apS pr sn wk) 0 (puF (upd (puT (upd (upd (upd nw 2 (nw 2 + (if nI pr ≤ 0 then 0 else nw 3))) 3 0) (16 + pr) (nw 2 + (if nI pr ≤ 0 then 0 else nw 3))) nl pr 10) 4 (nI (pr + 1))) nl pr) ∧ GoodE (apD d nl pr) (apT d tn nl pr 10) nl va sg (pr + 1) 0 := by
  obtain ⟨h0, h1, h2, h3, h4, h5, h6, h7, h8⟩ := hr
  obtain ⟨g1, g2, g3, g4, g5, g6, g7⟩ := hg
  rw [h2, h3, pul_sn g3]
  generalize hA : upd (upd (upd nw 2 (apS pr sn wk)) 3 0) (16 + pr) (apS pr sn wk) = B
  have b0 : B 0 = nI nl := by rw [← hA, pk_un (by omega), pk_un (by decide), pk_un (by decide), h0]
  have b1 : B 1 = sg := by rw [← hA, pk_un (by omega), pk_un (by decide), pk_un (by decide), h1]
  have b2 : B 2 = apS pr sn wk := by rw [← hA, pk_un (by omega), pk_un (by decide), pk_us]
  have b3 : B 3 = 0 := by rw [← hA, pk_un (by omega), pk_us]
  have b5 : B 5 = va := by rw [← hA, pk_un (by omega), pk_un (by decide), pk_un (by decide), h5]
  have b6 : ∀ k, k < 10 → B (6 + k) = d k := fun k hk => by rw [← hA, pk_un (by omega), pk_un (by omega), pk_un (by omega), h6 k hk]
  have b7 : ∀ k, k < 12 → B (16 + k) = upd ss pr (apS pr sn wk) k := fun k hk => by
    rw [← hA]
    by_cases e : k = pr
    · subst e; rw [pk_us, pk_us]
    · rw [pk_un (by omega), pk_un (by omega), pk_un (by omega), pk_un e, h7 k hk]
  have b8 : ∀ k, k < 120 → B (28 + k) = tn k := fun k hk => by rw [← hA, pk_un (by omega), pk_un (by omega), pk_un (by omega), h8 k hk]
  generalize hC : upd (puT B nl pr 10) 4 (nI (pr + 1)) = C
  have cc : ∀ j, j ≠ 4 → (j < 28 ∨ 148 ≤ j) → C j = B j := fun j e1 e2 => by rw [← hC, pk_un e1, puT_at _ _ _ 10 (by omega), if_neg (by omega)]
  have c4 : C 4 = nI (pr + 1) := by rw [← hC, pk_us]
  have c6 : ∀ k, k < 10 → C (6 + k) = d k := fun k hk => (cc (6 + k) (by omega) (by omega)).trans (b6 k hk)
  have c8 : ∀ k, k < 120 → C (28 + k) = apT d tn nl pr 10 k := fun k hk => by
    rw [← hC, pk_un (by omega), puT_at _ _ _ 10 (by omega), apT_at]
    by_cases e : pr * 10 ≤ k ∧ k < pr * 10 + 10
    · rw [if_pos (show 28 + 10 * pr ≤ 28 + k ∧ 28 + k < 28 + 10 * pr + 10 by omega), if_pos e, show 28 + k - (28 + 10 * pr) = k - pr * 10 by omega]
      split
      · rfl
      · rw [b6 (k - pr * 10) (by omega)]
    · rw [if_neg (show ¬ (28 + 10 * pr ≤ 28 + k ∧ 28 + k < 28 + 10 * pr + 10) by omega), if_neg e, b8 k hk]
  obtain ⟨q1, q2, q3⟩ := wear_all c6 g4 nl g1
  have fo : ∀ j, (j < 6 ∨ 16 ≤ j) → puF C nl pr j = C j := fun j hj => by
    unfold puF; split
    · exact q2 j hj
    · rfl
  have hc3 : nI ((pr + 1) % 3) = 0 ↔ (pr + 1) % 3 = 0 := nI_eq (b := 0) (by omega) (by omega)
  have fd : ∀ k, k < 10 → puF C nl pr (6 + k) = apD d nl pr k := fun k hk => by
    unfold puF apD
    by_cases e : (pr + 1) % 3 = 0
    · rw [if_pos e, if_pos (hc3.mpr e), q1 k hk]
    · rw [if_neg e, if_neg (fun z => e (hc3.mp z)), c6 k hk]
  refine ⟨⟨?_, ?_, ?_, ?_, ?_, ?_, fd, fun k hk => ?_, fun k hk => ?_⟩, g1, by omega, Or.inl rfl, fun k hk => ?_, g5, g6, fun p hp2 k k1 k2 => ?_⟩
  · rw [fo 0 (by omega), cc 0 (by decide) (by omega), b0]
  · rw [fo 1 (by omega), cc 1 (by decide) (by omega), b1]
  · rw [fo 2 (by omega), cc 2 (by decide) (by omega), b2]
  · rw [fo 3 (by omega), cc 3 (by decide) (by omega), b3]
  · rw [fo 4 (by omega), c4]
  · rw [fo 5 (by omega), cc 5 (by decide) (by omega), b5]
  · rw [fo (16 + k) (by omega), cc (16 + k) (by omega) (by omega), b7 k hk]
  · rw [fo (28 + k) (by omega), c8 k hk]
  · unfold apD
    split
    · exact q3 k hk
    · exact g4 k hk
  · rw [apT_at]
    by_cases e : pr * 10 ≤ p * 10 + k ∧ p * 10 + k < pr * 10 + 10
    · have e2 : p = pr := by omega
      subst e2
      rw [if_pos e, show p * 10 + k - p * 10 = k by omega, if_pos (nI_le k1 (by omega))]
      rfl
    · rw [if_neg e]
      exact g7 p (by omega) k k1 k2
end Ops2
