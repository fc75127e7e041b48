/-! the two states side by side: what holds between them at the head of the law's loop -/
def RelE (d ss tn : Nat → Int32) (nl : Nat) (va sg : Int32) (pr : Nat) (sn wk : Int32) (f : Nat → Int32) : Prop := f 0 = nI nl ∧ f 1 = sg ∧ f 2 = sn ∧ f 3 = wk ∧ f 4 = nI pr ∧ f 5 = va ∧ (∀ k, k < 10 → f (6 + k) = d k) ∧ (∀ k, k < 12 → f (16 + k) = ss k) ∧ ∀ k, k < 120 → f (28 + k) = tn k
def RelN (X : PSt) (f : Nat → Int32) : Prop := RelE X.1 X.2.1 X.2.2.1 X.2.2.2.1 X.2.2.2.2.1 X.2.2.2.2.2.1 X.2.2.2.2.2.2.1 X.2.2.2.2.2.2.2.1 X.2.2.2.2.2.2.2.2 f
def GoodE (d tn : Nat → Int32) (nl : Nat) (va sg : Int32) (pr : Nat) (wk : Int32) : Prop := nl ≤ 10 ∧ pr ≤ 12 ∧ (wk = 0 ∨ wk = 1) ∧ (∀ k, k < 10 → ∃ a, a ≤ 99 ∧ d k = nI a) ∧ (∃ s, 1 ≤ s ∧ s ≤ 5 ∧ sg = nI s) ∧ (∃ v, v < 2 ^ nl ∧ va = nI v) ∧ ∀ p, p < pr → ∀ k, nl ≤ k → k < 10 → tn (p * 10 + k) = 0
def Good (X : PSt) : Prop := GoodE X.1 X.2.2.1 X.2.2.2.1 X.2.2.2.2.1 X.2.2.2.2.2.1 X.2.2.2.2.2.2.1 X.2.2.2.2.2.2.2.2
def WkP (P : Nat → PSt) : Prop := ∀ k : Nat, (P k).2.2.2.2.2.2.2.2 = 0 ∨ (P k).2.2.2.2.2.2.2.2 = 1
def Sav (sc : Nat) (P : Nat → PSt) (ps : Nat → Int32) : Prop := ∀ k, k < sc → RelN (P k) (fun j => ps (148 * k + j)) ∧ Good (P k)
def TgE (tg : Nat → Int32) : Prop := ∀ k, k < 10 → ∃ t, t ≤ 9 ∧ tg k = nI t
theorem RelN.congr {X : PSt} {f g : Nat → Int32} (h : RelN X f) (e : ∀ j, j < 148 → g j = f j) : RelN X g := by
  obtain ⟨h0, h1, h2, h3, h4, h5, h6, h7, h8⟩ := h
  refine ⟨?_, ?_, ?_, ?_, ?_, ?_, ?_, ?_, ?_⟩
  · rw [e 0 (by decide)]; exact h0
  · rw [e 1 (by decide)]; exact h1
  · rw [e 2 (by decide)]; exact h2
  · rw [e 3 (by decide)]; exact h3
  · rw [e 4 (by decide)]; exact h4
  · rw [e 5 (by decide)]; exact h5
  · intro k hk; rw [e (6 + k) (by omega)]; exact h6 k hk
  · intro k hk; rw [e (16 + k) (by omega)]; exact h7 k hk
  · intro k hk; rw [e (28 + k) (by omega)]; exact h8 k hk
theorem cpy_at {a b : Nat → Int32} {n k : Nat} (h : k < n) : va_cpy a b 0 0 n k = a k := by
  rw [pk_cpy_in (Nat.zero_le k) (by omega)]
  congr 1
  omega
theorem RelN.cp {X Y : PSt} {f : Nat → Int32} (h : RelN X f) : RelN (cpP X Y) f := by
  obtain ⟨h0, h1, h2, h3, h4, h5, h6, h7, h8⟩ := h
  exact ⟨h0, h1, h2, h3, h4, h5, fun k hk => (h6 k hk).trans (cpy_at hk).symm, fun k hk => (h7 k hk).trans (cpy_at hk).symm, fun k hk => (h8 k hk).trans (cpy_at hk).symm⟩
theorem Good.cp {X Y : PSt} (h : Good X) : Good (cpP X Y) := by
  obtain ⟨h1, h2, h3, h4, h5, h6, h7⟩ := h
  refine ⟨h1, h2, h3, fun k hk => ?_, h5, h6, fun p hp k h8 h9 => ?_⟩
  · obtain ⟨a, ha, e⟩ := h4 k hk
    exact ⟨a, ha, (cpy_at hk).trans e⟩
  · have h2' : X.2.2.2.2.2.2.1 ≤ 12 := h2
    have hp' : p < X.2.2.2.2.2.2.1 := hp
    exact (cpy_at (show p * 10 + k < 120 by omega)).trans (h7 p hp k h8 h9)
theorem cpQ_at (ps : Nat → Int32) (sv : Nat) (nw : Nat → Int32) (j : Nat) : ∀ i, cpQ ps sv nw i j = if 148 * sv ≤ j ∧ j < 148 * sv + i then nw (j - 148 * sv) else ps j
  | 0 => by rw [cpQ, if_neg (by omega)]
  | i + 1 => by
    rw [cpQ, upd]
    by_cases h : j = 148 * sv + i
    · rw [if_pos h, if_pos (by omega)]
      congr 1; omega
    · rw [if_neg h, cpQ_at ps sv nw j i]
      by_cases h2 : 148 * sv ≤ j ∧ j < 148 * sv + i
      · rw [if_pos h2, if_pos (by omega)]
      · rw [if_neg h2, if_neg (by omega)]
theorem shQ_at (ps : Nat → Int32) : ∀ i j, shQ ps i j = if j < i then ps (j + 148) else ps j
  | 0, j => by rw [shQ, if_neg (by omega)]
  | i + 1, j => by
    rw [shQ, upd]
    by_cases h : j = i
    · rw [if_pos h, shQ_at ps i, if_neg (by omega), if_pos (by omega), h]
    · rw [if_neg h, shQ_at ps i j]
      by_cases h2 : j < i
      · rw [if_pos h2, if_pos (by omega)]
      · rw [if_neg h2, if_neg (by omega)]
theorem unQ_at (ps : Nat → Int32) (sv : Nat) (nw : Nat → Int32) (j : Nat) : ∀ i, unQ ps sv nw i j = if j < i then ps (148 * sv + j) else nw j
  | 0 => by rw [unQ, if_neg (by omega)]
  | i + 1 => by
    rw [unQ, upd]
    by_cases h : j = i
    · rw [if_pos h, if_pos (by omega), h]
    · rw [if_neg h, unQ_at ps sv nw j i]
      by_cases h2 : j < i
      · rw [if_pos h2, if_pos (by omega)]
      · rw [if_neg h2, if_neg (by omega)]
theorem sav_save {X : PSt} {f ps : Nat → Int32} {P : Nat → PSt} {sc : Nat} (hsc : sc ≤ 5) (hR : RelN X f) (hG : Good X) (hS : Sav sc P ps) : Sav (svC sc) (svP sc X P) (svQ sc f ps) := by
  intro k hk
  unfold svP svQ
  unfold svC at hk
  by_cases h5 : sc = 5
  · rw [if_pos h5] at hk
    rw [if_pos h5, if_pos h5]
    by_cases h4 : k = 4
    · rw [if_pos h4]
      refine ⟨(hR.cp).congr (fun j hj => ?_), hG.cp⟩
      rw [cpQ_at, if_pos (by omega), show 148 * k + j - 148 * 4 = j by omega]
    · rw [if_neg h4]
      have hr : rot k = k + 1 := by unfold rot; rw [if_pos (by omega)]
      rw [hr]
      obtain ⟨a, b⟩ := hS (k + 1) (by omega)
      refine ⟨a.congr (fun j hj => ?_), b⟩
      rw [cpQ_at, if_neg (by omega), shQ_at, if_pos (by omega), show 148 * k + j + 148 = 148 * (k + 1) + j by omega]
  · rw [if_neg h5] at hk
    rw [if_neg h5, if_neg h5]
    by_cases h4 : k = sc
    · rw [if_pos h4]
      refine ⟨(hR.cp).congr (fun j hj => ?_), hG.cp⟩
      rw [cpQ_at, if_pos (by omega), show 148 * k + j - 148 * sc = j by omega]
    · rw [if_neg h4]
      obtain ⟨a, b⟩ := hS k (by omega)
      refine ⟨a.congr (fun j hj => ?_), b⟩
      rw [cpQ_at, if_neg (by omega)]
theorem wk_save {X : PSt} {P : Nat → PSt} {sc : Nat} (hX : X.2.2.2.2.2.2.2.2 = 0 ∨ X.2.2.2.2.2.2.2.2 = 1) (h : WkP P) : WkP (svP sc X P) := by
  intro k
  unfold svP
  split
  · split
    · exact hX
    · exact h _
  · split
    · exact hX
    · exact h _
theorem svC_le {sc : Nat} (h : sc ≤ 5) : svC sc ≤ 5 := by unfold svC; split <;> omega
/-- the whole relation -/
def Inv (d ss tn : Nat → Int32) (nl : Nat) (va sg : Int32) (pr : Nat) (sn wk : Int32) (P : Nat → PSt) (sc : Nat) (tg er nw ps : Nat → Int32) (sv : Nat) (er2 tg2 : Nat → Int32) : Prop :=
  RelE d ss tn nl va sg pr sn wk nw ∧ GoodE d tn nl va sg pr wk ∧ sc ≤ 5 ∧ sv = sc ∧ Sav sc P ps ∧ WkP P ∧ (∀ k, k < 4 → er2 k = er k) ∧ (∀ k, k < 10 → tg2 k = tg k) ∧ TgE tg
section InvS
variable {d ss tn : Nat → Int32} {nl : Nat} {va sg : Int32} {pr : Nat} {sn wk : Int32} {P : Nat → PSt} {sc : Nat} {tg er nw ps : Nat → Int32} {sv : Nat} {er2 tg2 : Nat → Int32}
theorem Inv.err (h : Inv d ss tn nl va sg pr sn wk P sc tg er nw ps sv er2 tg2) (j : Nat) : Inv d ss tn nl va sg pr sn wk P sc tg (upd er j (er j + 1)) nw ps sv (upd er2 j (er2 j + 1)) tg2 := by
  obtain ⟨h1, h2, h3, h4, h5, h6, h7, h8, h9⟩ := h
  refine ⟨h1, h2, h3, h4, h5, h6, fun k hk => ?_, h8, h9⟩
  unfold upd
  by_cases e : k = j
  · subst e; rw [if_pos rfl, if_pos rfl, h7 k hk]
  · rw [if_neg e, if_neg e, h7 k hk]
/-- a step of work that saves: what is left to show is of the two states of the plate alone -/
theorem Inv.saved (h : Inv d ss tn nl va sg pr sn wk P sc tg er nw ps sv er2 tg2) {d' ss' tn' : Nat → Int32} {nl' : Nat} {va' sg' : Int32} {pr' : Nat} {sn' wk' : Int32} {nw' : Nat → Int32} (h1 : RelE d' ss' tn' nl' va' sg' pr' sn' wk' nw') (h2 : GoodE d' tn' nl' va' sg' pr' wk') : Inv d' ss' tn' nl' va' sg' pr' sn' wk' (svP sc (d, ss, tn, nl, va, sg, pr, sn, wk) P) (svC sc) tg er nw' (svQ sv nw ps) (svC sv) er2 tg2 := by
  obtain ⟨g1, g2, g3, g4, g5, g6, g7, g8, g9⟩ := h
  subst g4
  exact ⟨h1, h2, svC_le g3, rfl, sav_save (X := (d, ss, tn, nl, va, sg, pr, sn, wk)) g3 g1 g2 g5, wk_save (X := (d, ss, tn, nl, va, sg, pr, sn, wk)) g2.2.2.1 g6, g7, g8, g9⟩
theorem Inv.undone (h : Inv d ss tn nl va sg pr sn wk P (sc + 1) tg er nw ps (sc + 1) er2 tg2) : Inv (va_cpy (P sc).1 d 0 0 10) (va_cpy (P sc).2.1 ss 0 0 12) (va_cpy (P sc).2.2.1 tn 0 0 120) (P sc).2.2.2.1 (P sc).2.2.2.2.1 (P sc).2.2.2.2.2.1 (P sc).2.2.2.2.2.2.1 (P sc).2.2.2.2.2.2.2.1 (P sc).2.2.2.2.2.2.2.2 P sc tg er (unQ ps sc nw 148) ps sc er2 tg2 := by
  obtain ⟨g1, g2, g3, g4, g5, g6, g7, g8, g9⟩ := h
  obtain ⟨a, b⟩ := g5 sc (by omega)
  refine ⟨(RelN.congr (X := cpP (P sc) (d, ss, tn, nl, va, sg, pr, sn, wk)) (a.cp) (fun j hj => ?_)), Good.cp (Y := (d, ss, tn, nl, va, sg, pr, sn, wk)) b, by omega, rfl, fun k hk => g5 k (by omega), g6, g7, g8, g9⟩
  rw [unQ_at, if_pos hj]
end InvS
