/-! the plan, the bits and the digest of both sides -/
theorem chA_at (fe mo : Nat → Int32) (ml : Nat) (to : Nat → Int32) (j : Nat) : ∀ n, j < n → chA fe mo ml to n j = chL fe mo ml (j + 1)
  | 0, h => absurd h (Nat.not_lt_zero j)
  | n + 1, h => by
    rw [chA]
    by_cases e : j = n
    · subst e; rw [pk_us, chL]
    · rw [pk_un e]; exact chA_at fe mo ml to j n (by omega)
theorem usW_at (nw tg tt : Nat → Int32) (tn : Nat) (us : Nat → Int32) (j : Nat) : ∀ n, j < n → usW nw tg tt tn us n j = ubF nw tg tt tn j
  | 0, h => absurd h (Nat.not_lt_zero j)
  | n + 1, h => by
    rw [usW]
    by_cases e : j = n
    · subst e; rw [pk_us]
    · rw [pk_un e]; exact usW_at nw tg tt tn us j n (by omega)
theorem fb_db {fe us : Nat → Int32} {re : Int32} : ∀ n, (∀ k, k < n → (re < us k ↔ re < fe k)) → fbF fe re n = dbF us re n
  | 0, _ => rfl
  | n + 1, h => by
    rw [fbF, dbF, ← fb_db n (fun k hk => h k (by omega))]
    by_cases q : re < fe n
    · rw [if_pos q, if_pos ((h n (by omega)).mpr q), Int32.or_zero]
    · rw [if_neg q, if_neg (fun z => q ((h n (by omega)).mp z))]
section InvP
variable {d ss tn : Nat → Int32} {nl : Nat} {va sg : Int32} {pr : Nat} {sn wk : Int32} {P : Nat → PSt} {sc : Nat} {tg er nw ps : Nat → Int32} {sv : Nat} {er2 tg2 : Nat → Int32}
theorem Inv.lines (h : Inv d ss tn nl va sg pr sn wk P sc tg er nw ps sv er2 tg2) : LinesE d tg nw tg2 sg nl := by
  obtain ⟨h1, h2, h3, h4, h5, h6, h7, h8, h9⟩ := h
  obtain ⟨g1, g2, g3, g4, ⟨s, s1, s5, es⟩, g6, g7⟩ := h2
  obtain ⟨r0, r1, r2, r3, r4, r5, r6, r7, r8⟩ := h1
  refine ⟨g1, fun i hi => ?_⟩
  obtain ⟨a, ha, ea⟩ := g4 i (by omega)
  obtain ⟨t, ht, et⟩ := h9 i (by omega)
  exact line_gr ea es et ha s1 s5 ht (r6 i (by omega)) r1 (h8 i (by omega))
theorem Inv.ob (h : Inv d ss tn nl va sg pr sn wk P sc tg er nw ps sv er2 tg2) : obF nw tg2 nl = mkB d tg sg nl := ob_eq h.lines nl (Nat.le_refl _)
def fN (d tg : Nat → Int32) (sg : Int32) (k : Nat) : Nat := (fwF (10 * tg k - d k) sg).toNatClampNeg
def mN (d tg : Nat → Int32) (sg : Int32) (k : Nat) : Nat := (msF (10 * tg k - d k + 10 - 1) sg).toNatClampNeg
theorem Inv.one (h : Inv d ss tn nl va sg pr sn wk P sc tg er nw ps sv er2 tg2) (hb : mkB d tg sg nl = 0) {k : Nat} (hk : k < nl) : fwF (10 * tg k - d k) sg = nI (fN d tg sg k) ∧ msF (10 * tg k - d k + 10 - 1) sg = nI (mN d tg sg k) ∧ fN d tg sg k ≤ mN d tg sg k ∧ mN d tg sg k ≤ 99 ∧ grF nw tg2 k = nI (mN d tg sg k) ∧ ∀ m, m ≤ 99 → (¬ alF nw tg2 k (nI m) = 0 ↔ fN d tg sg k ≤ m ∧ m ≤ mN d tg sg k) := by
  obtain ⟨hn, hl⟩ := h.lines
  rcases hl k hk with ⟨_, F, M, h1, h2, h3, h4, h5, h6⟩ | ⟨q, _⟩
  · have eF : fN d tg sg k = F := by unfold fN; rw [h3, nI_clamp (by omega)]
    have eM : mN d tg sg k = M := by unfold mN; rw [h4, nI_clamp (by omega)]
    rw [eF, eM]
    exact ⟨h3, h4, h1, h2, h5, h6⟩
  · exact absurd (mkB_all hn nl (Nat.le_refl _) hb k hk) q
theorem Inv.plan (h : Inv d ss tn nl va sg pr sn wk P sc tg er nw ps sv er2 tg2) (hb : mkB d tg sg nl = 0) (fe mo to tt us : Nat → Int32) :
    mkC d tg sg fe mo nl = tmF nw tg2 tt nl ∧ ∀ j, j < tmF nw tg2 tt nl → mkT d tg sg fe mo to nl j - tbF (mkT d tg sg fe mo to nl) j = ttF nw tg2 tt nl j - tb2 (ttF nw tg2 tt nl) j ∧ fbF (mkE d tg sg fe nl) (tbF (mkT d tg sg fe mo to nl) j) nl = dbF (usW nw tg2 (ttF nw tg2 tt nl) (tmF nw tg2 tt nl) us nl) (tb2 (ttF nw tg2 tt nl) j) nl := by
  have hF : ∀ k, k < nl → mkE d tg sg fe nl k = nI (fN d tg sg k) := fun k hk => by rw [mkE_at fe k nl hk]; exact (h.one hb hk).1
  have hM : ∀ k, k < nl → mkM d tg sg mo nl k = nI (mN d tg sg k) ∧ fN d tg sg k ≤ mN d tg sg k ∧ mN d tg sg k ≤ 99 := fun k hk => by
    rw [mkM_at mo k nl hk]
    obtain ⟨_, q1, q2, q3, _⟩ := h.one hb hk
    exact ⟨q1, q2, q3⟩
  have hal : ∀ k, k < nl → ∀ m, m ≤ 99 → (¬ alF nw tg2 k (nI m) = 0 ↔ fN d tg sg k ≤ m ∧ m ≤ mN d tg sg k) := fun k hk => (h.one hb hk).2.2.2.2.2
  have hgr : ∀ k, k < nl → grF nw tg2 k = nI (mN d tg sg k) := fun k hk => (h.one hb hk).2.2.2.2.1
  obtain ⟨e1, e2, e3, e4⟩ := tot_eq hF hM hal hgr tt
  have hn10 : nl ≤ 10 := h.2.1.1
  have hC : mkC d tg sg fe mo nl = tmF nw tg2 tt nl := by rw [mkC, if_pos hb]; exact e1
  have hT : ∀ j, j < tmF nw tg2 tt nl → mkT d tg sg fe mo to nl j = ttF nw tg2 tt nl j := by
    intro j hj
    rw [mkT, if_pos hb, chA_at _ _ _ _ j _ (by rw [e1]; exact hj), e2 j hj]
  have hle := tm_le nw tg2 tt nl
  have hre : ∀ j, j < tmF nw tg2 tt nl → tb2 (ttF nw tg2 tt nl) j = nI (LaN (mkE d tg sg fe nl) (mkM d tg sg mo nl) nl j) ∧ tbF (mkT d tg sg fe mo to nl) j = tb2 (ttF nw tg2 tt nl) j := by
    intro j hj
    have ch := chain hF hM _ e3
    rcases Nat.eq_zero_or_pos j with q | q
    · subst q
      exact ⟨rfl, rfl⟩
    · obtain ⟨i, rfl⟩ : ∃ i, j = i + 1 := ⟨j - 1, by omega⟩
      have n1 : ¬ nI (i + 1) ≤ 0 := by
        rw [show (0 : Int32) = nI 0 from rfl, nI_leI (by omega) (by omega)]; omega
      have n2 : ¬ nI (i + 1) = 0 := fun z => n1 (by rw [z]; decide)
      refine ⟨?_, ?_⟩
      · rw [tb2, if_neg n2, Nat.add_sub_cancel, e2 i (by omega), (ch (i + 1) (by omega)).1]
      · rw [tb2, if_neg n2, tbF, if_neg n1, Nat.add_sub_cancel, hT i (by omega)]
  refine ⟨hC, fun j hj => ?_⟩
  obtain ⟨r1, r2⟩ := hre j hj
  refine ⟨by rw [hT j hj, r2], ?_⟩
  rw [r2, r1]
  refine fb_db nl (fun k hk => ?_)
  rw [usW_at _ _ _ _ _ k nl hk]
  exact use_iff hF hM hal e3 e2 e4 hk (by omega)
theorem mq_nq {hx : Int64} {fe to us tt : Nat → Int32} {nl : Nat} : ∀ n, (∀ j, j < n → to j - tbF to j = tt j - tb2 tt j ∧ fbF fe (tbF to j) nl = dbF us (tb2 tt j) nl) → mqF hx fe to nl n = nqF hx us tt nl n
  | 0, _ => rfl
  | n + 1, h => by
    obtain ⟨a, b⟩ := h n (by omega)
    rw [mqF, nqF, mq_nq n (fun j hj => h j (by omega)), a, b]
theorem me_eq {er er2 : Nat → Int32} : ∀ n, (∀ k, k < n → er2 k = er k) → meF er n = meF er2 n
  | 0, _ => rfl
  | n + 1, h => by rw [meF, meF, me_eq n (fun k hk => h k (by omega)), h n (by omega)]
theorem ml_nl {hx : Int64} {d tg nw tg2 : Nat → Int32} : ∀ n, (∀ k, k < n → nw (6 + k) = d k ∧ tg2 k = tg k) → mlF hx d tg n = nlF hx nw tg2 n
  | 0, _ => rfl
  | n + 1, h => by rw [mlF, nlF, ml_nl n (fun k hk => h k (by omega)), (h n (by omega)).1, (h n (by omega)).2]
theorem mt_nt {hx : Int64} {tn nw : Nat → Int32} {pq : Nat} : ∀ n, (∀ k, k < n → nw (28 + 10 * pq + k) = tn (pq * 10 + k)) → mtF hx tn pq n = ntF hx nw pq n
  | 0, _ => rfl
  | n + 1, h => by rw [mtF, ntF, mt_nt n (fun k hk => h k (by omega)), h n (by omega)]
theorem mp_np {hx : Int64} {ss tn nw : Nat → Int32} {nl : Nat} : ∀ n, (∀ p, p < n → nw (16 + p) = ss p ∧ ∀ k, k < nl → nw (28 + 10 * p + k) = tn (p * 10 + k)) → mpF hx ss tn nl n = npF hx nw nl n
  | 0, _ => rfl
  | n + 1, h => by rw [mpF, npF, mp_np n (fun k hk => h k (by omega)), (h n (by omega)).1, mt_nt nl (h n (by omega)).2]
theorem Inv.tone (h : Inv d ss tn nl va sg pr sn wk P sc tg er nw ps sv er2 tg2) {p k : Nat} (hp : p < pr) (hk : k < nl) : nw (28 + 10 * p + k) = tn (p * 10 + k) := by
  have h1 := h.2.1.1
  have h2 := h.2.1.2.1
  have := h.1.2.2.2.2.2.2.2.2 (p * 10 + k) (by omega)
  rw [← this]
  congr 1; omega
theorem Inv.dig (h : Inv d ss tn nl va sg pr sn wk P sc tg er nw ps sv er2 tg2) (ah wy : Nat → Int32) :
    mpF (mxF (mxF (mlF (mxF (mxF (meF er 4) sg) (nI nl)) d tg nl) va) (nI pr)) ss tn nl pr = npF (mxF (mxF (nlF (mxF (mxF (meF er2 4) (nw 1)) (nI nl)) nw tg2 nl) (nw 5)) (nI pr)) nw nl pr ∧ coF tn nl (abF (nI pr)) pr = wyO (ahO ah nw pr pr) wy pr (2 ^ pr - 1) (2 ^ pr - 1) := by
  have hT := fun p hp k hk => h.tone (p := p) (k := k) hp hk
  obtain ⟨⟨r0, r1, r2, r3, r4, r5, r6, r7, r8⟩, ⟨g1, g2, g3, g4, g5, g6, g7⟩, h3, h4, h5, h6, h7, h8, h9⟩ := h
  constructor
  · rw [me_eq 4 h7, ml_nl nl (fun k hk => ⟨r6 k (by omega), h8 k (by omega)⟩), r1, r5, mp_np pr (fun p hp => ⟨r7 p (by omega), fun k hk => hT p hp k hk⟩)]
  · rw [show abF (nI pr) = nI (2 ^ pr - 1) from ab_nat g2]
    exact ord_eq r8 g2 g7 g1 ah wy (by have := Nat.two_pow_pos pr; omega)
end InvP
