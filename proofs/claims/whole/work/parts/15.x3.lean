/-! the reference EtchedPlateModel: what its methods do, as functions -/
def wiF (vx ax bx : Int32) : Int32 := if vx < ax then 0 else if bx < vx then 0 else 1
theorem wiN {vx ax bx : Int32} : narrow .boolean (.int (wiF vx ax bx)) = .int (wiF vx ax bx) := by unfold wiF; split <;> (try split) <;> rfl
theorem wi_ok {li nl : Nat} (h : li < nl) (hn : nl < 2147483648) : ¬ wiF (nI li) 0 (nI nl - 1) = 0 := by
  have e : nI nl - 1 = nI (nl - 1) := pk_sub (b := 1) (by omega)
  rw [wiF, if_neg (nI_pos (by omega)), e, if_neg (nI_nlt (by omega) (by omega))]
  decide
theorem wi_ok9 {li : Nat} (h : li < 10) : ¬ wiF (nI li) 0 9 = 0 := by
  have e : (9 : Int32) = nI 9 := rfl
  rw [wiF, if_neg (nI_pos (by omega)), e, if_neg (nI_nlt (by omega) (by omega))]
  decide
def onF (vx : Int32) : Nat → Int32
  | 0 => 0
  | i + 1 => onF vx i + ((vx >>> (nI i &&& 31)) &&& 1)
def shQ (ps : Nat → Int32) : Nat → Nat → Int32
  | 0 => ps
  | i + 1 => upd (shQ ps i) i (shQ ps i (i + 148))
def cpQ (ps : Nat → Int32) (sv : Nat) (nw : Nat → Int32) : Nat → Nat → Int32
  | 0 => ps
  | i + 1 => upd (cpQ ps sv nw i) (148 * sv + i) (nw i)
def svQ (sv : Nat) (nw ps : Nat → Int32) : Nat → Int32 := if sv = 5 then cpQ (shQ ps 592) 4 nw 148 else cpQ ps sv nw 148
def unQ (ps : Nat → Int32) (sv : Nat) (nw : Nat → Int32) : Nat → Nat → Int32
  | 0 => nw
  | i + 1 => upd (unQ ps sv nw i) i (ps (148 * sv + i))
def dpV (f : Nat → Int32) (vx : Int32) (i : Nat) : Int32 := f (6 + i) + ((((f 5 >>> (nI i &&& 31)) &&& 1) ^^^ 1) * f 1) * vx
def dpT (f : Nat → Int32) (vx : Int32) (i : Nat) : Int32 := if dpV f vx i ≤ 99 then dpV f vx i else 99
def dpW (nw : Nat → Int32) (vx : Int32) : Nat → Nat → Int32
  | 0 => nw
  | i + 1 => upd (dpW nw vx i) (6 + i) (dpT (dpW nw vx i) vx i)
def dpC (nw : Nat → Int32) (vx : Int32) : Nat → Int32
  | 0 => 0
  | i + 1 => dpC nw vx i + (if dpT (dpW nw vx i) vx i ≤ dpW nw vx i (6 + i) then (0 : Int32) else 1)
def puT (h : Nat → Int32) (nl pr : Nat) : Nat → Nat → Int32
  | 0 => h
  | i + 1 => upd (puT h nl pr i) (28 + 10 * pr + i) (if nI nl ≤ nI i then 0 else puT h nl pr i (6 + i) / 10)
def puW (h : Nat → Int32) : Nat → Nat → Int32
  | 0 => h
  | w + 1 => upd (puW h w) (6 + w) (puW h w (6 + w) - (if puW h w (6 + w) ≤ 0 then (0 : Int32) else 1))
def puF (h : Nat → Int32) (nl pr : Nat) : Nat → Int32 := if (pr + 1) % 3 = 0 then puW h nl else h
theorem pu_end {h g : Nat → Int32} {nl pr w : Nat} (hi : w ≤ nl) (e : g = puW h w) (h0 : w = 0 ∨ (pr + 1) % 3 = 0) (hx : nl ≤ w ∨ ¬ (pr + 1) % 3 = 0) : g = puF h nl pr := by
  subst e
  unfold puF
  by_cases hc : (pr + 1) % 3 = 0
  · rw [if_pos hc]
    have : w = nl := by omega
    rw [this]
  · rw [if_neg hc]
    have : w = 0 := by omega
    rw [this]; rfl
def maF (nw : Nat → Int32) (ii jj : Nat) : Nat → Int32
  | 0 => 1
  | k + 1 => if maF nw ii jj k = 0 then 0 else if nw (28 + 10 * jj + k) < nw (28 + 10 * ii + k) then 0 else 1
theorem ma01 (nw : Nat → Int32) (ii jj : Nat) : ∀ k, maF nw ii jj k = 0 ∨ maF nw ii jj k = 1
  | 0 => Or.inr rfl
  | k + 1 => by
    rw [maF]
    split
    · exact Or.inl rfl
    · split
      · exact Or.inl rfl
      · exact Or.inr rfl
theorem ten_ex : ∃ n : Nat, n = 10 := ⟨10, rfl⟩
/-- ten, as a number that no evaluation unfolds -/
noncomputable def ten : Nat := Classical.choose ten_ex
theorem ten_eq : ten = 10 := Classical.choose_spec ten_ex
noncomputable def mayF (nw : Nat → Int32) (ii jj : Nat) : Int32 := maF nw ii jj ten
noncomputable def ahW (u nw : Nat → Int32) (j : Nat) : Nat → Nat → Int32
  | 0 => u
  | w + 1 => upd (ahW u nw j w) j (ahW u nw j w j ||| (if mayF nw w j = 0 then (0 : Int32) else 1 <<< (nI w &&& 31)))
noncomputable def ahO (u nw : Nat → Int32) (pr : Nat) : Nat → Nat → Int32
  | 0 => u
  | j + 1 => ahW (upd (ahO u nw pr j) j 0) nw j pr
def laF (ah : Nat → Int32) (s w : Nat) : Int32 := if (nI s >>> (nI w &&& 31)) &&& 1 = 1 then (if nI s &&& (ah w ^^^ -1) = 0 then 1 else 0) else 0
def ixF (s w : Nat) : Nat := (nI s &&& ((1 <<< (nI w &&& 31)) ^^^ -1)).toNatClampNeg
def wyW (ah y : Nat → Int32) (s : Nat) : Nat → Nat → Int32
  | 0 => y
  | w + 1 => upd (wyW ah y s w) s (wyW ah y s w s + (if laF ah s w = 0 then (0 : Int32) else wyW ah y s w (ixF s w)))
def wyO (ah wy : Nat → Int32) (pr : Nat) : Nat → Nat → Int32
  | 0 => upd wy 0 1
  | n + 1 => wyW ah (upd (wyO ah wy pr n) (n + 1) 0) (n + 1) pr
theorem i_bv (x : Int32) : x = nI x.toBitVec.toNat := by
  show x = Int32.ofNat x.toBitVec.toNat
  apply Int32.toBitVec_inj.mp
  show x.toBitVec = BitVec.ofNat 32 x.toBitVec.toNat
  simp
theorem nI_bv (n : Nat) : (nI n).toBitVec = BitVec.ofNat 32 n := rfl
theorem nI_and (a b : Nat) : nI a &&& nI b = nI (a &&& b) := by
  apply Int32.toBitVec_inj.mp
  rw [Int32.toBitVec_and, nI_bv, nI_bv, nI_bv]
  apply BitVec.eq_of_toNat_eq
  simp
theorem and_nat {s : Nat} (h : s < 2147483648) (x : Int32) : ∃ j, j ≤ s ∧ nI s &&& x = nI j := by
  refine ⟨s &&& x.toBitVec.toNat, Nat.and_le_left, ?_⟩
  rw [← nI_and, ← i_bv]
theorem ix_eq {s w : Nat} (h : s < 4097) : nI s &&& ((1 <<< (nI w &&& 31)) ^^^ -1) = nI (ixF s w) := by
  obtain ⟨j, hj, e⟩ := and_nat (s := s) (by omega) ((1 <<< (nI w &&& 31)) ^^^ -1)
  rw [ixF, e, nI_clamp (by omega)]
theorem ix_le {s w : Nat} (h : s < 4097) : ixF s w ≤ s := by
  obtain ⟨j, hj, e⟩ := and_nat (s := s) (by omega) ((1 <<< (nI w &&& 31)) ^^^ -1)
  rw [ixF, e, nI_clamp (by omega)]; exact hj
def dmF (nw tg : Nat → Int32) (pq : Nat) : Nat → Int32
  | 0 => 0
  | i + 1 => dmF nw tg pq i + (if 0 ≤ nw (28 + 10 * pq + i) - tg i then nw (28 + 10 * pq + i) - tg i else -(nw (28 + 10 * pq + i) - tg i))
def bt2 (nw tg : Nat → Int32) (nl : Nat) : Nat → Int32 × Int32
  | 0 => (-1, 0)
  | i + 1 => (if (bt2 nw tg nl i).1 = -1 then nI i else if (bt2 nw tg nl i).2 ≤ dmF nw tg i nl then (bt2 nw tg nl i).1 else nI i, if (bt2 nw tg nl i).1 = -1 then dmF nw tg i nl else if (bt2 nw tg nl i).2 ≤ dmF nw tg i nl then (bt2 nw tg nl i).2 else dmF nw tg i nl)
def btB (nw tg : Nat → Int32) (nl i : Nat) : Int32 := (bt2 nw tg nl i).1
def btL (nw tg : Nat → Int32) (nl i : Nat) : Int32 := (bt2 nw tg nl i).2
theorem bt_nat (nw tg : Nat → Int32) (nl : Nat) : ∀ i, btB nw tg nl i = -1 ∨ ∃ j, j < i ∧ btB nw tg nl i = nI j
  | 0 => Or.inl rfl
  | i + 1 => by
    have h : btB nw tg nl (i + 1) = if btB nw tg nl i = -1 then nI i else if btL nw tg nl i ≤ dmF nw tg i nl then btB nw tg nl i else nI i := rfl
    rw [h]
    split
    · exact Or.inr ⟨i, by omega, rfl⟩
    · split
      · rcases bt_nat nw tg nl i with e | ⟨j, hj, e⟩
        · exact Or.inl e
        · exact Or.inr ⟨j, by omega, e⟩
      · exact Or.inr ⟨i, by omega, rfl⟩
theorem bt_eq {nw tg : Nat → Int32} {nl i : Nat} (hi : i ≤ 12) (h : ¬ btB nw tg nl i = -1) : btB nw tg nl i = nI (btB nw tg nl i).toNatClampNeg := by
  rcases bt_nat nw tg nl i with e | ⟨j, hj, e⟩
  · exact absurd e h
  · rw [e, nI_clamp (by omega)]
theorem bt_lt {nw tg : Nat → Int32} {nl i : Nat} (hi : i ≤ 12) (h : ¬ btB nw tg nl i = -1) : (btB nw tg nl i).toNatClampNeg < i := by
  rcases bt_nat nw tg nl i with e | ⟨j, hj, e⟩
  · exact absurd e h
  · rw [e, nI_clamp (by omega)]; exact hj
def btF (nw tg : Nat → Int32) (nl pr : Nat) : Int32 := if btB nw tg nl pr = -1 then -1 else nw (16 + (btB nw tg nl pr).toNatClampNeg)
def alF (nw tg : Nat → Int32) (li : Nat) (mx : Int32) : Int32 := wiF (nw (6 + li) + nw 1 * mx) (10 * tg li) (10 * tg li + 9)
def grF (nw tg : Nat → Int32) (li : Nat) : Int32 := 99 - nI (fsN (fun k => decide (¬ alF nw tg li (99 - nI k) = 0)) 100 0)
theorem gr_step (i : Nat) : 99 - nI i + Int32.ofInt (-1) = 99 - nI (i + 1) := by
  rw [nI_succ]
  show 99 - nI i + -1 = 99 - (nI i + 1)
  generalize nI i = x
  grind
theorem gr_pos {i : Nat} (hi : i < 100) : ¬ (99 - nI i) < 0 := by
  have e : 99 - nI i = nI (99 - i) := pk_sub (a := 99) (by omega)
  rw [e]; exact nI_pos (by omega)
theorem gr_lt {i : Nat} (hi : i ≤ 100) (h : ¬ (99 - nI i) < 0) : i < 100 := by
  rcases Nat.lt_or_ge i 100 with q | q
  · exact q
  · have : i = 100 := by omega
    subst this
    exact absurd (by decide) h
theorem gr_a {nw tg : Nat → Int32} {li i : Nat} (hi : i ≤ 100) (hg : ∀ k, k < i → alF nw tg li (99 - nI k) = 0) (h : (99 - nI i) < 0) : grF nw tg li = 99 - nI i := by
  have e : i = 100 := by
    rcases Nat.lt_or_ge i 100 with q | q
    · exact absurd h (gr_pos q)
    · omega
  subst e
  rw [grF, fsN_all (n := 100) 100 0 (by omega) (fun k hk => by simpa using hg k hk)]
theorem gr_b {nw tg : Nat → Int32} {li i : Nat} (hg : ∀ k, k < i → alF nw tg li (99 - nI k) = 0) (hi : i < 100) (h : ¬ alF nw tg li (99 - nI i) = 0) : grF nw tg li = 99 - nI i := by
  rw [grF, fsN_hit (by simpa using h) 100 0 (Nat.zero_le _) (by omega) (fun k hk => by simpa using hg k hk)]
def obF (nw tg : Nat → Int32) : Nat → Int32
  | 0 => 0
  | i + 1 => obF nw tg i ||| (if 0 ≤ grF nw tg i then (0 : Int32) else 1 <<< (nI i &&& 31))
def ubN (nw tg tt : Nat → Int32) (tn li : Nat) : Nat := fsN (fun e => decide (¬ alF nw tg li (tt e) = 0)) tn 0
def ubF (nw tg tt : Nat → Int32) (tn li : Nat) : Int32 := if alF nw tg li 0 = 0 then (if ubN nw tg tt tn li < tn then tt (ubN nw tg tt tn li) else -1) else 0
theorem ub_0 {nw tg tt : Nat → Int32} {tn li : Nat} (h : ¬ alF nw tg li 0 = 0) : ubF nw tg tt tn li = 0 := by rw [ubF, if_neg h]
theorem ub_1 {nw tg tt : Nat → Int32} {tn li i : Nat} (h : alF nw tg li 0 = 0) (hu : ∀ k, k < i → alF nw tg li (tt k) = 0) (hi : i < tn) (h2 : ¬ alF nw tg li (tt i) = 0) : ubF nw tg tt tn li = tt i := by
  have e : ubN nw tg tt tn li = i := fsN_hit (by simpa using h2) tn 0 (Nat.zero_le _) (by omega) (fun k hk => by simpa using hu k hk)
  rw [ubF, if_pos h, e, if_pos hi]
theorem ub_2 {nw tg tt : Nat → Int32} {tn li : Nat} (h : alF nw tg li 0 = 0) (hu : ∀ k, k < tn → alF nw tg li (tt k) = 0) : ubF nw tg tt tn li = -1 := by
  have e : ubN nw tg tt tn li = tn := fsN_all tn 0 (by omega) (fun k hk => by simpa using hu k hk)
  rw [ubF, if_pos h, e, if_neg (Nat.lt_irrefl _)]
def plI (nw tg : Nat → Int32) (mi : Nat) (s : Nat × (Nat → Int32)) : Nat → Nat × (Nat → Int32)
  | 0 => s
  | w + 1 => if grF nw tg w = nI mi then (if ubF nw tg (plI nw tg mi s w).2 (plI nw tg mi s w).1 w = -1 then ((plI nw tg mi s w).1 + 1, upd (plI nw tg mi s w).2 (plI nw tg mi s w).1 (nI mi)) else plI nw tg mi s w) else plI nw tg mi s w
def plO (nw tg tt : Nat → Int32) (nl : Nat) : Nat → Nat × (Nat → Int32)
  | 0 => (0, tt)
  | mi + 1 => plI nw tg mi (plO nw tg tt nl mi) nl
/-- of a line: its greatest number of minutes is one of those below mi -/
def plB (nw tg : Nat → Int32) (k : Nat) : Nat → Bool
  | 0 => false
  | mi + 1 => plB nw tg k mi || decide (grF nw tg k = nI mi)
def plG (nw tg : Nat → Int32) (mi : Nat) : Nat → Nat
  | 0 => 0
  | k + 1 => plG nw tg mi k + (if plB nw tg k mi = true then 1 else 0)
def plE (nw tg : Nat → Int32) (mi : Nat) : Nat → Nat
  | 0 => 0
  | k + 1 => plE nw tg mi k + (if grF nw tg k = nI mi then 1 else 0)
theorem plB_ne {nw tg : Nat → Int32} {k mi : Nat} (hm : mi < 2147483648) (h : grF nw tg k = nI mi) : ∀ j, j ≤ mi → plB nw tg k j = false
  | 0, _ => rfl
  | j + 1, hj => by
    rw [plB, plB_ne hm h j (by omega), h]
    have : ¬ nI mi = nI j := fun e => absurd ((nI_eq hm (by omega)).mp e) (by omega)
    simp [this]
theorem plGE {nw tg : Nat → Int32} {mi : Nat} (hm : mi < 2147483648) : ∀ n, plG nw tg mi n + plE nw tg mi n = plG nw tg (mi + 1) n
  | 0 => rfl
  | n + 1 => by
    have ih := plGE (nw := nw) (tg := tg) hm n
    rw [plG, plE, plG, plB]
    by_cases h : grF nw tg n = nI mi
    · rw [plB_ne hm h mi (Nat.le_refl _)]
      simp [h]; omega
    · simp [h]; omega
theorem plG_le (nw tg : Nat → Int32) (mi : Nat) : ∀ n, plG nw tg mi n ≤ n
  | 0 => Nat.le_refl _
  | n + 1 => by
    have ih := plG_le nw tg mi n
    rw [plG]
    split <;> omega
theorem plE_mono (nw tg : Nat → Int32) (mi : Nat) {a : Nat} : ∀ n, a ≤ n → plE nw tg mi a ≤ plE nw tg mi n
  | 0, h => by rw [show a = 0 by omega]; exact Nat.le_refl _
  | n + 1, h => by
    by_cases e : a = n + 1
    · rw [e]; exact Nat.le_refl _
    · have ih := plE_mono nw tg mi (a := a) n (by omega)
      have : plE nw tg mi n ≤ plE nw tg mi (n + 1) := by rw [plE]; omega
      omega
theorem pl_s1 {nw tg : Nat → Int32} {mi w t g : Nat} (h : t ≤ g + plE nw tg mi w) (h1 : grF nw tg w = nI mi) : t + 1 ≤ g + plE nw tg mi (w + 1) := by
  rw [plE, if_pos h1]; omega
theorem pl_s0 {nw tg : Nat → Int32} {mi w t g : Nat} (h : t ≤ g + plE nw tg mi w) : t ≤ g + plE nw tg mi (w + 1) := by
  have := plE_mono nw tg mi (a := w) (w + 1) (by omega)
  omega
theorem pl_out {nw tg : Nat → Int32} {mi nl t : Nat} (hm : mi ≤ 100) (h : t ≤ plG nw tg mi nl + plE nw tg mi nl) : t ≤ plG nw tg (mi + 1) nl := by
  rw [← plGE (by omega)]; exact h
theorem pl_tn {nw tg : Nat → Int32} {mi nl w t : Nat} (hn : nl ≤ 10) (hm : mi ≤ 100) (hw : w ≤ nl) (h : t ≤ plG nw tg mi nl + plE nw tg mi w) : t ≤ 10 := by
  have h1 := plE_mono nw tg mi (a := w) nl hw
  have h2 := plGE (nw := nw) (tg := tg) (mi := mi) (by omega) nl
  have h3 := plG_le nw tg (mi + 1) nl
  omega
theorem pl_room {nw tg : Nat → Int32} {mi nl w t : Nat} (hn : nl ≤ 10) (hw : w < nl) (hm : mi ≤ 100) (h1 : grF nw tg w = nI mi) (h : t ≤ plG nw tg mi nl + plE nw tg mi w) : t < 10 := by
  have h4 := pl_tn (t := t + 1) hn hm (show w + 1 ≤ nl by omega) (pl_s1 h h1)
  omega
theorem plI_le (nw tg : Nat → Int32) (mi : Nat) (s : Nat × (Nat → Int32)) : ∀ w, (plI nw tg mi s w).1 ≤ s.1 + plE nw tg mi w
  | 0 => Nat.le_add_right _ _
  | w + 1 => by
    have ih := plI_le nw tg mi s w
    rw [plI]
    split
    · rename_i h1
      split
      · exact pl_s1 ih h1
      · exact pl_s0 ih
    · exact pl_s0 ih
theorem plO_le (nw tg tt : Nat → Int32) (nl : Nat) : ∀ mi, mi ≤ 100 → (plO nw tg tt nl mi).1 ≤ plG nw tg mi nl
  | 0, _ => Nat.zero_le _
  | mi + 1, h => by
    have ih := plO_le nw tg tt nl mi (by omega)
    rw [plO]
    have h2 := plI_le nw tg mi (plO nw tg tt nl mi) nl
    exact pl_out (by omega) (by omega)
def tmF (nw tg tt : Nat → Int32) (nl : Nat) : Nat := (plO nw tg tt nl 100).1
def ttF (nw tg tt : Nat → Int32) (nl : Nat) : Nat → Int32 := (plO nw tg tt nl 100).2
theorem tm_le (nw tg tt : Nat → Int32) (nl : Nat) : tmF nw tg tt nl ≤ nl := Nat.le_trans (plO_le nw tg tt nl 100 (Nat.le_refl _)) (plG_le nw tg 100 nl)
def usW (nw tg tt : Nat → Int32) (tn : Nat) (us : Nat → Int32) : Nat → Nat → Int32
  | 0 => us
  | i + 1 => upd (usW nw tg tt tn us i) i (ubF nw tg tt tn i)
def tb2 (tt : Nat → Int32) (dp : Nat) : Int32 := if nI dp = 0 then 0 else tt (dp - 1)
def dbF (us : Nat → Int32) (re : Int32) : Nat → Int32
  | 0 => 0
  | i + 1 => dbF us re i ||| (if re < us i then (0 : Int32) else 1 <<< (nI i &&& 31))
def nlF (hx : Int64) (nw tg : Nat → Int32) : Nat → Int64
  | 0 => hx
  | i + 1 => mxF (mxF (nlF hx nw tg i) (nw (6 + i))) (tg i)
def ntF (hx : Int64) (nw : Nat → Int32) (pq : Nat) : Nat → Int64
  | 0 => hx
  | w + 1 => mxF (ntF hx nw pq w) (nw (28 + 10 * pq + w))
def npF (hx : Int64) (nw : Nat → Int32) (nl : Nat) : Nat → Int64
  | 0 => hx
  | i + 1 => ntF (mxF (npF hx nw nl i) (nw (16 + i))) nw i nl
def nqF (hx : Int64) (us tt : Nat → Int32) (nl : Nat) : Nat → Int64
  | 0 => hx
  | i + 1 => mxF (mxF (nqF hx us tt nl i) (tt i - tb2 tt i)) (dbF us (tb2 tt i) nl)
theorem ab_nat {pr : Nat} (h : pr ≤ 12) : 1 <<< (nI pr &&& 31) - 1 = nI (2 ^ pr - 1) := by
  rcases (show pr = 0 ∨ pr = 1 ∨ pr = 2 ∨ pr = 3 ∨ pr = 4 ∨ pr = 5 ∨ pr = 6 ∨ pr = 7 ∨ pr = 8 ∨ pr = 9 ∨ pr = 10 ∨ pr = 11 ∨ pr = 12 by omega) with rfl | rfl | rfl | rfl | rfl | rfl | rfl | rfl | rfl | rfl | rfl | rfl | rfl <;> decide
theorem p2_le {pr : Nat} (h : pr ≤ 12) : 2 ^ pr ≤ 4096 := by
  have := Nat.pow_le_pow_right (n := 2) (by decide) h
  simpa using this
theorem p2_lt {pr : Nat} (h : pr ≤ 12) : 2 ^ pr - 1 < 4096 := by
  have h1 := p2_le h
  have h2 : 0 < 2 ^ pr := Nat.pow_pos (by decide)
  generalize 2 ^ pr = x at h1 h2 ⊢
  omega
