/-! the class EtchedPlate$Plate: what its methods do, as functions -/
theorem zI01 {c : Prop} [Decidable c] : narrow .boolean (.int (if c then (0 : Int32) else 1)) = .int (if c then (0 : Int32) else 1) := by split <;> rfl
theorem zI10 {c : Prop} [Decidable c] : narrow .boolean (.int (if c then (1 : Int32) else 0)) = .int (if c then (1 : Int32) else 0) := by split <;> rfl
def ctF (sx kx : Int32) : Int32 := if sx >>> (kx &&& 31) &&& 1 = 0 then 0 else 1
def weD (d : Nat → Int32) : Nat → Nat → Int32
  | 0 => d
  | i + 1 => upd (weD d i) i (if 0 < weD d i i - 1 then weD d i i - 1 else 0)
def etD (d : Nat → Int32) (va sg mi : Int32) : Nat → Nat → Int32
  | 0 => d
  | i + 1 => if ctF va (nI i) = 0 then upd (etD d va sg mi i) i (if etD d va sg mi i i + sg * mi < 99 then etD d va sg mi i i + sg * mi else 99) else etD d va sg mi i
def etC (d : Nat → Int32) (va sg mi : Int32) : Nat → Int32
  | 0 => 0
  | i + 1 => if etD d va sg mi (i + 1) i ≤ etD d va sg mi i i then etC d va sg mi i else etC d va sg mi i + 1
theorem zB {w : Int32} (h : w = 0 ∨ w = 1) : narrow .boolean (.int w) = .int w := by rcases h with rfl | rfl <;> rfl
theorem zBf {w : Int32} (h : w = 0 ∨ w = 1) : fits .boolean (.int w) = true := by rcases h with rfl | rfl <;> rfl
def ndF (tn : Nat → Int32) (ii jj : Nat) : Nat → Int32
  | 0 => 1
  | k + 1 => if tn (ii * 10 + k) ≤ tn (jj * 10 + k) then ndF tn ii jj k else 0
theorem nd_1 (tn : Nat → Int32) {ii jj : Nat} : ∀ {n : Nat}, (∀ k, k < n → tn (ii * 10 + k) ≤ tn (jj * 10 + k)) → ndF tn ii jj n = 1
  | 0, _ => rfl
  | n + 1, h => by rw [ndF, if_pos (h n (Nat.lt_succ_self n))]; exact nd_1 tn (fun k hk => h k (Nat.lt_succ_of_lt hk))
theorem nd_0 (tn : Nat → Int32) {ii jj i : Nat} : ∀ {n : Nat}, i < n → ¬ tn (ii * 10 + i) ≤ tn (jj * 10 + i) → ndF tn ii jj n = 0
  | 0, h, _ => absurd h (Nat.not_lt_zero i)
  | n + 1, h, hc => by
    rw [ndF]
    by_cases e : i = n
    · subst e; rw [if_neg hc]
    · rw [nd_0 tn (n := n) (by omega) hc]; split <;> rfl
def plV (tn : Nat → Int32) (nl : Nat) (ps : Int32) (pq : Nat) : Nat → Int32
  | 0 => 1
  | i + 1 => if ctF ps (nI i) = 0 then plV tn nl ps pq i else if ndF tn i pq nl = 0 then plV tn nl ps pq i else if ndF tn pq i nl = 0 then plV tn nl ps pq i else plV tn nl ps pq i + 1
def plX (tn : Nat → Int32) (nl : Nat) (ps : Int32) (pq : Nat) : Nat → Bool
  | 0 => false
  | i + 1 => plX tn nl ps pq i || (!decide (ctF ps (nI i) = 0) && decide (ndF tn i pq nl = 0) && decide (ndF tn pq i nl = 0))
def plF (tn : Nat → Int32) (nl : Nat) (ps : Int32) (pq : Nat) : Int32 := if plX tn nl ps pq pq = true then 0 else plV tn nl ps pq pq
theorem pl_dead {tn : Nat → Int32} {nl : Nat} {ps : Int32} {pq i : Nat} (h : i < pq) (h1 : ¬ ctF ps (nI i) = 0) (h2 : ndF tn i pq nl = 0) (h3 : ndF tn pq i nl = 0) : plF tn nl ps pq = 0 := by
  have key : ∀ n, i < n → plX tn nl ps pq n = true := by
    intro n
    induction n with
    | zero => intro h; exact absurd h (Nat.not_lt_zero i)
    | succ n ih =>
      intro hn
      rw [plX]
      by_cases e : i = n
      · subst e; simp [h1, h2, h3]
      · rw [ih (by omega)]; rfl
  rw [plF, if_pos (key pq h)]
theorem pl_live {tn : Nat → Int32} {nl : Nat} {ps : Int32} {pq : Nat} (h : plX tn nl ps pq pq = false) : plF tn nl ps pq = plV tn nl ps pq pq := by
  rw [plF, if_neg (by rw [h]; decide)]
def coF (tn : Nat → Int32) (nl : Nat) (ps : Int32) : Nat → Int32
  | 0 => 1
  | i + 1 => if ctF ps (nI i) = 0 then coF tn nl ps i else coF tn nl ps i * plF tn nl ps i
def dfF (tn tg : Nat → Int32) (pq : Nat) : Nat → Int32
  | 0 => 0
  | i + 1 => dfF tn tg pq i + (if 0 ≤ tn (pq * 10 + i) - tg i then tn (pq * 10 + i) - tg i else 0 - (tn (pq * 10 + i) - tg i))
def apS (pr : Nat) (sn wk : Int32) : Int32 := if nI pr ≤ 0 then sn else if wk = 0 then sn else sn + 1
def apT (d tn : Nat → Int32) (nl pr : Nat) : Nat → Nat → Int32
  | 0 => tn
  | i + 1 => upd (apT d tn nl pr i) (pr * 10 + i) ((if nI nl ≤ nI i then 0 else d i) / 10)
def apD (d : Nat → Int32) (nl pr : Nat) : Nat → Int32 := if nI ((pr + 1) % 3) = 0 then weD d nl else d
def dsF (d : Nat → Int32) : Nat → Int32
  | 0 => 0
  | i + 1 => dsF d i + d i
set_option maxHeartbeats 4000000 in
set_option maxRecDepth 100000 in
/-- contains(set, member) -/
theorem c_X2_contains (l : Launch) (D : va_G) (cI cR : ClassId) (sx : Int32) (kx : Int32)  : Ctr l D cI cR yX2_contains cX2_contains 2 ((some .boolean)) ({ frames := 0, cells := 0, slots := 0, locals := 0 }) [.int sx, .int kx] [] (rP (some (.int (ctF sx kx))) []) := by
  refine ctr_of (lv0 := [(0, .int sx), (1, .int kx)]) (by decide) (nle rfl) rfl (fun G C E => ?_)
  refine r_iload_n C dX2_contains_0 0 rfl ?_
  refine r_iload_n C dX2_contains_1 1 rfl ?_
  refine r_ishr C dX2_contains_2 ?_
  refine r_iconst C dX2_contains_3 (v := 1) (by decide) ?_
  refine r_iand C dX2_contains_4 ?_
  have J_3 : ∀ (v_2 : Int32), v_2 = (if ((sx >>> (kx &&& 31)) &&& 1) = 0 then (0 : Int32) else 1) → Wr G 0 0 13 [(0, .int sx), (1, .int kx)] [.int v_2] [] := by
    intro v_2 ev_2
    subst ev_2
    exact r_zret C E dX2_contains_13 (nle rfl) (nle rfl) zI01 ⟨rfl, rfl⟩
  refine r_if_eq C dX2_contains_5 (tgt := 12) (by decide) (fun c_1 => ?_) (fun c_1 => ?_)
  · refine r_iconst C dX2_contains_12 (v := 0) (by decide) ?_
    exact J_3 _ (by first | rfl | simp only [if_pos c_1])
  · refine r_iconst C dX2_contains_8 (v := 1) (by decide) ?_
    refine r_goto C dX2_contains_9 (tgt := 13) (by decide) ?_
    exact J_3 _ (by first | rfl | simp only [if_neg c_1])
set_option maxHeartbeats 4000000 in
set_option maxRecDepth 100000 in
/-- addLine() -/
theorem c_X1_addLine (l : Launch) (D : va_G) (cI cR : ClassId) (h0 : Nat) (a1 : Nat) (a2 : Nat) (a3 : Nat) (d : Nat → Int32) (nl : Nat) (va : Int32) (sg : Int32) (pr : Nat) (sn : Int32) (wk : Int32) (hnl : nl < 10) : Ctr l D cI cR yX1_addLine cX1_addLine 2 ((some .int)) ({ frames := 0, cells := 0, slots := 0, locals := 0 }) [.ref h0] [(h0, .inr (1, [.ref a1, .ref a2, .ref a3, .int (nI nl), .int va, .int sg, .int (nI pr), .int sn, .int wk])), (a1, .inl (cI, 10, .inl d))] (rP (some (.int (nI nl))) [(h0, .inr (1, [.ref a1, .ref a2, .ref a3, .int (nI (nl + 1)), .int va, .int sg, .int (nI pr), .int sn, .int 1])), (a1, .inl (cI, 10, .inl (upd d nl 0)))]) := by
  refine ctr_of (lv0 := [(0, .ref h0)]) (by decide) (nle rfl) rfl (fun G C E => ?_)
  refine r_aload_n C dX1_addLine_0 0 rfl ?_
  refine r_get C clX1 dX1_addLine_1 0 3 rfl (by decide) q_61 rfl ?_
  refine r_istore_n C dX1_addLine_4 (lv2 := [(1, .int (nI nl)), (0, .ref h0)]) (by decide) rfl ?_
  refine r_aload_n C dX1_addLine_5 1 rfl ?_
  refine r_get C clX1 dX1_addLine_6 0 0 rfl (by decide) q_55 rfl ?_
  refine r_iload_n C dX1_addLine_9 0 rfl ?_
  refine r_iconst C dX1_addLine_10 (v := 0) (by decide) ?_
  refine r_iast C dX1_addLine_11 1 rfl nl rfl (by omega) (by decide) (ws2 := [(h0, .inr (1, [.ref a1, .ref a2, .ref a3, .int (nI nl), .int va, .int sg, .int (nI pr), .int sn, .int wk])), (a1, .inl (cI, 10, .inl (upd d nl 0)))]) rfl ?_
  refine r_aload_n C dX1_addLine_12 1 rfl ?_
  refine r_dup C dX1_addLine_13 rfl ?_
  refine r_get C clX1 dX1_addLine_14 0 3 rfl (by decide) q_61 rfl ?_
  refine r_iconst C dX1_addLine_17 (v := 1) (by decide) ?_
  refine r_iadd C dX1_addLine_18 ?_
  refine r_top (b := nI (nl + 1)) (nA rfl rfl) ?_
  refine r_put C clX1 dX1_addLine_19 0 3 rfl (by decide) q_61 rfl rfl rfl (nle rfl) (ws2 := [(h0, .inr (1, [.ref a1, .ref a2, .ref a3, .int (nI (nl + 1)), .int va, .int sg, .int (nI pr), .int sn, .int wk])), (a1, .inl (cI, 10, .inl (upd d nl 0)))]) rfl ?_
  refine r_aload_n C dX1_addLine_22 1 rfl ?_
  refine r_iconst C dX1_addLine_23 (v := 1) (by decide) ?_
  refine r_put C clX1 dX1_addLine_24 0 8 rfl (by decide) q_72 rfl (by decide) rfl (nle rfl) (ws2 := [(h0, .inr (1, [.ref a1, .ref a2, .ref a3, .int (nI (nl + 1)), .int va, .int sg, .int (nI pr), .int sn, .int 1])), (a1, .inl (cI, 10, .inl (upd d nl 0)))]) rfl ?_
  refine r_iload_n C dX1_addLine_27 0 rfl ?_
  exact r_iret C E dX1_addLine_28 (nle rfl) (nle rfl) ⟨rfl, rfl⟩
set_option maxHeartbeats 4000000 in
set_option maxRecDepth 100000 in
/-- wear() -/
theorem c_X1_wear (l : Launch) (D : va_G) (cI cR : ClassId) (h0 : Nat) (a1 : Nat) (a2 : Nat) (a3 : Nat) (d : Nat → Int32) (nl : Nat) (va : Int32) (sg : Int32) (pr : Nat) (sn : Int32) (wk : Int32) (hnl : nl ≤ 10) : Ctr l D cI cR yX1_wear cX1_wear 2 none ({ frames := 1, cells := 0, slots := 0, locals := 26 }) [.ref h0] [(h0, .inr (1, [.ref a1, .ref a2, .ref a3, .int (nI nl), .int va, .int sg, .int (nI pr), .int sn, .int wk])), (a1, .inl (cI, 10, .inl d))] (rP none [(h0, .inr (1, [.ref a1, .ref a2, .ref a3, .int (nI nl), .int va, .int sg, .int (nI pr), .int sn, .int wk])), (a1, .inl (cI, 10, .inl (weD d nl)))]) := by
  refine ctr_of (lv0 := [(0, .ref h0)]) (by decide) (nle rfl) rfl (fun G C E => ?_)
  refine r_iconst C dX1_wear_0 (v := 0) (by decide) ?_
  refine r_istore_n C dX1_wear_1 (lv2 := [(1, .int 0), (0, .ref h0)]) (by decide) rfl ?_
  have L_2 : ∀ (z i : Nat), i ≤ nl → nl < i + z → ∀ (f : Nat → Int32), f = weD d i → Wr G 0 0 2 [(1, .int (nI i)), (0, .ref h0)] [] [(h0, .inr (1, [.ref a1, .ref a2, .ref a3, .int (nI nl), .int va, .int sg, .int (nI pr), .int sn, .int wk])), (a1, .inl (cI, 10, .inl f))] := by
    intro z
    induction z with
    | zero => intro i h1 h2; exact absurd h2 (by omega)
    | succ z ih_2 =>
      intro i hi_2 hz_2 f e_f
      refine r_iload_n C dX1_wear_2 0 rfl ?_
      refine r_aload_n C dX1_wear_3 1 rfl ?_
      refine r_get C clX1 dX1_wear_4 0 3 rfl (by decide) q_61 rfl ?_
      refine r_icmp_ge C dX1_wear_7 (tgt := 34) (by decide) (fun c_1 => ?_) (fun c_1 => ?_)
      · have n_2 := (nI_leI (a := nl) (b := i) (by omega) (by omega)).mp c_1
        have ex_2 : nl = i := by omega
        subst ex_2
        subst e_f
        exact r_vret C E dX1_wear_34 (nle rfl) (nle rfl) ⟨rfl, rfl⟩
      · have n_2 := mt (nI_leI (a := nl) (b := i) (by omega) (by omega)).mpr c_1
        refine r_aload_n C dX1_wear_10 1 rfl ?_
        refine r_get C clX1 dX1_wear_11 0 0 rfl (by decide) q_55 rfl ?_
        refine r_iload_n C dX1_wear_14 0 rfl ?_
        refine r_iconst C dX1_wear_15 (v := 0) (by decide) ?_
        refine r_aload_n C dX1_wear_16 1 rfl ?_
        refine r_get C clX1 dX1_wear_17 0 0 rfl (by decide) q_55 rfl ?_
        refine r_iload_n C dX1_wear_20 0 rfl ?_
        refine r_iald C dX1_wear_21 1 rfl i rfl (by omega) (by decide) ?_
        refine r_iconst C dX1_wear_22 (v := 1) (by decide) ?_
        refine r_isub C dX1_wear_23 ?_
        refine r_mmax C dX1_wear_24 q_217 (nle rfl) (nle rfl) (nle rfl) (nle rfl) ?_
        refine r_iast C dX1_wear_27 1 rfl i rfl (by omega) (by decide) (ws2 := [(h0, .inr (1, [.ref a1, .ref a2, .ref a3, .int (nI nl), .int va, .int sg, .int (nI pr), .int sn, .int wk])), (a1, .inl (cI, 10, .inl (upd f i (if 0 < (f i) - 1 then (f i) - 1 else 0))))]) rfl ?_
        refine r_iinc C dX1_wear_28 0 rfl (v := nI (i + 1)) (nI_1 _) (by decide) (lv2 := [(1, .int (nI (i + 1))), (0, .ref h0)]) rfl ?_
        refine r_goto C dX1_wear_31 (tgt := 2) (by decide) ?_
        exact ih_2 (i + 1) (by omega) (by omega) _ (by subst e_f; rfl) 
  exact L_2 (nl + 1) 0 (by omega) (by omega) _ rfl 
set_option maxHeartbeats 4000000 in
set_option maxRecDepth 100000 in
/-- etch(minutes) -/
theorem c_X1_etch (l : Launch) (D : va_G) (cI cR : ClassId) (h0 : Nat) (a1 : Nat) (a2 : Nat) (a3 : Nat) (d : Nat → Int32) (nl : Nat) (va : Int32) (sg : Int32) (pr : Nat) (sn : Int32) (wk : Int32) (mi : Int32) (hnl : nl ≤ 10) : Ctr l D cI cR yX1_etch cX1_etch 5 ((some .int)) ({ frames := 1, cells := 0, slots := 0, locals := 26 }) [.ref h0, .int mi] [(h0, .inr (1, [.ref a1, .ref a2, .ref a3, .int (nI nl), .int va, .int sg, .int (nI pr), .int sn, .int wk])), (a1, .inl (cI, 10, .inl d))] (rP (some (.int (etC d va sg mi nl))) [(h0, .inr (1, [.ref a1, .ref a2, .ref a3, .int (nI nl), .int va, .int sg, .int (nI pr), .int sn, .int (if mi ≤ 0 then wk else 1)])), (a1, .inl (cI, 10, .inl (etD d va sg mi nl)))]) := by
  refine ctr_of (lv0 := [(0, .ref h0), (1, .int mi)]) (by decide) (nle rfl) rfl (fun G C E => ?_)
  refine r_iload_n C dX1_etch_0 1 rfl ?_
  have J_3 : ∀ (v_2 : Int32), v_2 = (if mi ≤ 0 then wk else 1) → Wr G 0 0 9 [(0, .ref h0), (1, .int mi)] [] [(h0, .inr (1, [.ref a1, .ref a2, .ref a3, .int (nI nl), .int va, .int sg, .int (nI pr), .int sn, .int v_2])), (a1, .inl (cI, 10, .inl d))] := by
    intro v_2 ev_2
    subst ev_2
    refine r_iconst C dX1_etch_9 (v := 0) (by decide) ?_
    refine r_istore_n C dX1_etch_10 (lv2 := [(2, .int 0), (0, .ref h0), (1, .int mi)]) (by decide) rfl ?_
    refine r_iconst C dX1_etch_11 (v := 0) (by decide) ?_
    refine r_istore_n C dX1_etch_12 (lv2 := [(3, .int 0), (2, .int 0), (0, .ref h0), (1, .int mi)]) (by decide) rfl ?_
    have L_13 : ∀ (z i : Nat), i ≤ nl → nl < i + z → ∀ (cn : Int32) (f : Nat → Int32), cn = etC d va sg mi i → f = etD d va sg mi i → Wr G 0 0 13 [(3, .int (nI i)), (2, .int cn), (0, .ref h0), (1, .int mi)] [] [(h0, .inr (1, [.ref a1, .ref a2, .ref a3, .int (nI nl), .int va, .int sg, .int (nI pr), .int sn, .int (if mi ≤ 0 then wk else 1)])), (a1, .inl (cI, 10, .inl f))] := by
      intro z
      induction z with
      | zero => intro i h1 h2; exact absurd h2 (by omega)
      | succ z ih_13 =>
        intro i hi_13 hz_13 cn f e_cn e_f
        refine r_iload_n C dX1_etch_13 0 rfl ?_
        refine r_aload_n C dX1_etch_14 2 rfl ?_
        refine r_get C clX1 dX1_etch_15 0 3 rfl (by decide) q_61 rfl ?_
        refine r_icmp_ge C dX1_etch_18 (tgt := 80) (by decide) (fun c_4 => ?_) (fun c_4 => ?_)
        · have n_5 := (nI_leI (a := nl) (b := i) (by omega) (by omega)).mp c_4
          have ex_13 : nl = i := by omega
          subst ex_13
          subst e_cn
          subst e_f
          refine r_iload_n C dX1_etch_80 1 rfl ?_
          exact r_iret C E dX1_etch_81 (nle rfl) (nle rfl) ⟨rfl, rfl⟩
        · have n_5 := mt (nI_leI (a := nl) (b := i) (by omega) (by omega)).mpr c_4
          refine r_aload_n C dX1_etch_21 2 rfl ?_
          refine r_get C clX1 dX1_etch_22 0 0 rfl (by decide) q_55 rfl ?_
          refine r_iload_n C dX1_etch_25 0 rfl ?_
          refine r_iald C dX1_etch_26 1 rfl i rfl (by omega) (by decide) ?_
          refine r_istore C dX1_etch_27 (lv2 := [(4, .int (f i)), (3, .int (nI i)), (2, .int cn), (0, .ref h0), (1, .int mi)]) (by decide) rfl ?_
          refine r_aload_n C dX1_etch_29 3 rfl ?_
          refine r_get C clX1 dX1_etch_30 0 4 rfl (by decide) q_64 rfl ?_
          refine r_iload_n C dX1_etch_33 1 rfl ?_
          refine r_callSN C (As := [.int va, .int (nI i)]) (rest := []) (wr := [(h0, .inr (1, [.ref a1, .ref a2, .ref a3, .int (nI nl), .int va, .int sg, .int (nI pr), .int sn, .int (if mi ≤ 0 then wk else 1)])), (a1, .inl (cI, 10, .inl f))]) (c_X2_contains l D cI cR va (nI i) ) k_X2_contains rfl dX1_etch_34 "EtchedPlate" (fun U h => h.2.2.1) q_180 ⟨nle rfl, nle rfl⟩ [] [0, 1] rfl rfl rfl rfl (by decide) rfl (nle rfl) ⟨nle rfl, nle rfl⟩ (r_fin (st2 := [.int (ctF va (nI i))]) (ws2 := [(h0, .inr (1, [.ref a1, .ref a2, .ref a3, .int (nI nl), .int va, .int sg, .int (nI pr), .int sn, .int (if mi ≤ 0 then wk else 1)])), (a1, .inl (cI, 10, .inl f))]) rfl rfl ?_)
          have J_8 : ∀ (f_7 : Nat → Int32), f_7 = (if (ctF va (nI i)) = 0 then (upd f i (if (f i) + (sg * mi) < 99 then (f i) + (sg * mi) else 99)) else f) → Wr G 0 0 60 [(4, .int (f i)), (3, .int (nI i)), (2, .int cn), (0, .ref h0), (1, .int mi)] [] [(h0, .inr (1, [.ref a1, .ref a2, .ref a3, .int (nI nl), .int va, .int sg, .int (nI pr), .int sn, .int (if mi ≤ 0 then wk else 1)])), (a1, .inl (cI, 10, .inl f_7))] := by
            intro f_7 ef_7
            subst ef_7
            refine r_aload_n C dX1_etch_60 3 rfl ?_
            refine r_get C clX1 dX1_etch_61 0 0 rfl (by decide) q_55 rfl ?_
            refine r_iload_n C dX1_etch_64 1 rfl ?_
            refine r_iald C dX1_etch_65 1 rfl i rfl (by omega) (by decide) ?_
            refine r_iload C dX1_etch_66 0 rfl ?_
            have J_11 : ∀ (v_10 : Int32), v_10 = (if ((if (ctF va (nI i)) = 0 then (upd f i (if (f i) + (sg * mi) < 99 then (f i) + (sg * mi) else 99)) else f) i) ≤ (f i) then cn else (cn + 1)) → Wr G 0 0 74 [(4, .int (f i)), (3, .int (nI i)), (2, .int v_10), (0, .ref h0), (1, .int mi)] [] [(h0, .inr (1, [.ref a1, .ref a2, .ref a3, .int (nI nl), .int va, .int sg, .int (nI pr), .int sn, .int (if mi ≤ 0 then wk else 1)])), (a1, .inl (cI, 10, .inl (if (ctF va (nI i)) = 0 then (upd f i (if (f i) + (sg * mi) < 99 then (f i) + (sg * mi) else 99)) else f)))] := by
              intro v_10 ev_10
              subst ev_10
              refine r_iinc C dX1_etch_74 1 rfl (v := nI (i + 1)) (nI_1 _) (by decide) (lv2 := [(3, .int (nI (i + 1))), (4, .int (f i)), (2, .int (if ((if (ctF va (nI i)) = 0 then (upd f i (if (f i) + (sg * mi) < 99 then (f i) + (sg * mi) else 99)) else f) i) ≤ (f i) then cn else (cn + 1))), (0, .ref h0), (1, .int mi)]) rfl ?_
              refine r_goto C dX1_etch_77 (tgt := 13) (by decide) ?_
              refine r_lv [0, 2, 3, 4] (lv2 := [(3, .int (nI (i + 1))), (2, .int (if ((if (ctF va (nI i)) = 0 then (upd f i (if (f i) + (sg * mi) < 99 then (f i) + (sg * mi) else 99)) else f) i) ≤ (f i) then cn else (cn + 1))), (0, .ref h0), (1, .int mi)]) rfl ?_
              exact ih_13 (i + 1) (by omega) (by omega) _ _ (by subst e_cn; subst e_f; rfl) (by subst e_cn; subst e_f; rfl) 
            refine r_icmp_le C dX1_etch_68 (tgt := 74) (by decide) (fun c_9 => ?_) (fun c_9 => ?_)
            · exact J_11 _ (by first | rfl | simp only [if_pos c_9])
            · refine r_iinc C dX1_etch_71 2 rfl (v := cn + 1) rfl (by decide) (lv2 := [(2, .int (cn + 1)), (4, .int (f i)), (3, .int (nI i)), (0, .ref h0), (1, .int mi)]) rfl ?_
              refine r_lv [1, 2, 0, 3, 4] (lv2 := [(4, .int (f i)), (3, .int (nI i)), (2, .int (cn + 1)), (0, .ref h0), (1, .int mi)]) rfl ?_
              exact J_11 _ (by first | rfl | simp only [if_neg c_9])
          refine r_if_ne C dX1_etch_37 (tgt := 60) (by decide) (fun c_6 => ?_) (fun c_6 => ?_)
          · exact J_8 _ (by first | rfl | simp only [if_neg c_6])
          · refine r_aload_n C dX1_etch_40 3 rfl ?_
            refine r_get C clX1 dX1_etch_41 0 0 rfl (by decide) q_55 rfl ?_
            refine r_iload_n C dX1_etch_44 1 rfl ?_
            refine r_bipush C dX1_etch_45 (v := 99) (by decide) ?_
            refine r_iload C dX1_etch_47 0 rfl ?_
            refine r_aload_n C dX1_etch_49 3 rfl ?_
            refine r_get C clX1 dX1_etch_50 0 5 rfl (by decide) q_66 rfl ?_
            refine r_iload_n C dX1_etch_53 4 rfl ?_
            refine r_imul C dX1_etch_54 ?_
            refine r_iadd C dX1_etch_55 ?_
            refine r_mmin C dX1_etch_56 q_182 (nle rfl) (nle rfl) (nle rfl) (nle rfl) ?_
            refine r_iast C dX1_etch_59 1 rfl i rfl (by omega) (by decide) (ws2 := [(h0, .inr (1, [.ref a1, .ref a2, .ref a3, .int (nI nl), .int va, .int sg, .int (nI pr), .int sn, .int (if mi ≤ 0 then wk else 1)])), (a1, .inl (cI, 10, .inl (upd f i (if (f i) + (sg * mi) < 99 then (f i) + (sg * mi) else 99))))]) rfl ?_
            exact J_8 _ (by first | rfl | simp only [if_pos c_6])
    exact L_13 (nl + 1) 0 (by omega) (by omega) _ _ rfl rfl 
  refine r_if_le C dX1_etch_1 (tgt := 9) (by decide) (fun c_1 => ?_) (fun c_1 => ?_)
  · exact J_3 _ (by first | rfl | simp only [if_pos c_1])
  · refine r_aload_n C dX1_etch_4 0 rfl ?_
    refine r_iconst C dX1_etch_5 (v := 1) (by decide) ?_
    refine r_put C clX1 dX1_etch_6 0 8 rfl (by decide) q_72 rfl (by decide) rfl (nle rfl) (ws2 := [(h0, .inr (1, [.ref a1, .ref a2, .ref a3, .int (nI nl), .int va, .int sg, .int (nI pr), .int sn, .int 1])), (a1, .inl (cI, 10, .inl d))]) rfl ?_
    exact J_3 _ (by first | rfl | simp only [if_neg c_1])
set_option maxHeartbeats 4000000 in
set_option maxRecDepth 100000 in
/-- rubDown(line, amount) -/
theorem c_X1_rubDown (l : Launch) (D : va_G) (cI cR : ClassId) (h0 : Nat) (a1 : Nat) (a2 : Nat) (a3 : Nat) (d : Nat → Int32) (nl : Nat) (va : Int32) (sg : Int32) (pr : Nat) (sn : Int32) (wk : Int32) (li : Nat) (am : Int32) (hli : li < 10) : Ctr l D cI cR yX1_rubDown cX1_rubDown 3 ((some .int)) ({ frames := 1, cells := 0, slots := 0, locals := 26 }) [.ref h0, .int (nI li), .int am] [(h0, .inr (1, [.ref a1, .ref a2, .ref a3, .int (nI nl), .int va, .int sg, .int (nI pr), .int sn, .int wk])), (a1, .inl (cI, 10, .inl d))] (rP (some (.int (if 0 < d li - am then d li - am else 0))) [(h0, .inr (1, [.ref a1, .ref a2, .ref a3, .int (nI nl), .int va, .int sg, .int (nI pr), .int sn, .int 1])), (a1, .inl (cI, 10, .inl (upd d li (if 0 < d li - am then d li - am else 0))))]) := by
  refine ctr_of (lv0 := [(0, .ref h0), (1, .int (nI li)), (2, .int am)]) (by decide) (nle rfl) rfl (fun G C E => ?_)
  refine r_aload_n C dX1_rubDown_0 0 rfl ?_
  refine r_get C clX1 dX1_rubDown_1 0 0 rfl (by decide) q_55 rfl ?_
  refine r_iload_n C dX1_rubDown_4 1 rfl ?_
  refine r_iconst C dX1_rubDown_5 (v := 0) (by decide) ?_
  refine r_aload_n C dX1_rubDown_6 0 rfl ?_
  refine r_get C clX1 dX1_rubDown_7 0 0 rfl (by decide) q_55 rfl ?_
  refine r_iload_n C dX1_rubDown_10 1 rfl ?_
  refine r_iald C dX1_rubDown_11 1 rfl li rfl (by omega) (by decide) ?_
  refine r_iload_n C dX1_rubDown_12 2 rfl ?_
  refine r_isub C dX1_rubDown_13 ?_
  refine r_mmax C dX1_rubDown_14 q_217 (nle rfl) (nle rfl) (nle rfl) (nle rfl) ?_
  refine r_iast C dX1_rubDown_17 1 rfl li rfl (by omega) (by decide) (ws2 := [(h0, .inr (1, [.ref a1, .ref a2, .ref a3, .int (nI nl), .int va, .int sg, .int (nI pr), .int sn, .int wk])), (a1, .inl (cI, 10, .inl (upd d li (if 0 < (d li) - am then (d li) - am else 0))))]) rfl ?_
  refine r_aload_n C dX1_rubDown_18 0 rfl ?_
  refine r_iconst C dX1_rubDown_19 (v := 1) (by decide) ?_
  refine r_put C clX1 dX1_rubDown_20 0 8 rfl (by decide) q_72 rfl (by decide) rfl (nle rfl) (ws2 := [(h0, .inr (1, [.ref a1, .ref a2, .ref a3, .int (nI nl), .int va, .int sg, .int (nI pr), .int sn, .int 1])), (a1, .inl (cI, 10, .inl (upd d li (if 0 < (d li) - am then (d li) - am else 0))))]) rfl ?_
  refine r_aload_n C dX1_rubDown_23 0 rfl ?_
  refine r_get C clX1 dX1_rubDown_24 0 0 rfl (by decide) q_55 rfl ?_
  refine r_iload_n C dX1_rubDown_27 1 rfl ?_
  refine r_iald C dX1_rubDown_28 1 rfl li rfl (by omega) (by decide) ?_
  refine r_top (b := (if 0 < (d li) - am then (d li) - am else 0)) pk_us ?_
  exact r_iret C E dX1_rubDown_29 (nle rfl) (nle rfl) ⟨rfl, rfl⟩
set_option maxHeartbeats 4000000 in
set_option maxRecDepth 100000 in
/-- depthSum() -/
theorem c_X1_depthSum (l : Launch) (D : va_G) (cI cR : ClassId) (h0 : Nat) (a1 : Nat) (a2 : Nat) (a3 : Nat) (d : Nat → Int32) (nl : Nat) (va : Int32) (sg : Int32) (pr : Nat) (sn : Int32) (wk : Int32) (hnl : nl ≤ 10) : Ctr l D cI cR yX1_depthSum cX1_depthSum 3 ((some .int)) ({ frames := 0, cells := 0, slots := 0, locals := 0 }) [.ref h0] [(h0, .inr (1, [.ref a1, .ref a2, .ref a3, .int (nI nl), .int va, .int sg, .int (nI pr), .int sn, .int wk])), (a1, .inl (cI, 10, .inl d))] (rP (some (.int (dsF d nl))) [(h0, .inr (1, [.ref a1, .ref a2, .ref a3, .int (nI nl), .int va, .int sg, .int (nI pr), .int sn, .int wk])), (a1, .inl (cI, 10, .inl d))]) := by
  refine ctr_of (lv0 := [(0, .ref h0)]) (by decide) (nle rfl) rfl (fun G C E => ?_)
  refine r_iconst C dX1_depthSum_0 (v := 0) (by decide) ?_
  refine r_istore_n C dX1_depthSum_1 (lv2 := [(1, .int 0), (0, .ref h0)]) (by decide) rfl ?_
  refine r_iconst C dX1_depthSum_2 (v := 0) (by decide) ?_
  refine r_istore_n C dX1_depthSum_3 (lv2 := [(2, .int 0), (1, .int 0), (0, .ref h0)]) (by decide) rfl ?_
  have L_4 : ∀ (z i : Nat), i ≤ nl → nl < i + z → ∀ (sm : Int32), sm = dsF d i → Wr G 0 0 4 [(2, .int (nI i)), (1, .int sm), (0, .ref h0)] [] [(h0, .inr (1, [.ref a1, .ref a2, .ref a3, .int (nI nl), .int va, .int sg, .int (nI pr), .int sn, .int wk])), (a1, .inl (cI, 10, .inl d))] := by
    intro z
    induction z with
    | zero => intro i h1 h2; exact absurd h2 (by omega)
    | succ z ih_4 =>
      intro i hi_4 hz_4 sm e_sm
      refine r_iload_n C dX1_depthSum_4 0 rfl ?_
      refine r_aload_n C dX1_depthSum_5 2 rfl ?_
      refine r_get C clX1 dX1_depthSum_6 0 3 rfl (by decide) q_61 rfl ?_
      refine r_icmp_ge C dX1_depthSum_9 (tgt := 27) (by decide) (fun c_1 => ?_) (fun c_1 => ?_)
      · have n_2 := (nI_leI (a := nl) (b := i) (by omega) (by omega)).mp c_1
        have ex_4 : nl = i := by omega
        subst ex_4
        subst e_sm
        refine r_iload_n C dX1_depthSum_27 1 rfl ?_
        exact r_iret C E dX1_depthSum_28 (nle rfl) (nle rfl) ⟨rfl, rfl⟩
      · have n_2 := mt (nI_leI (a := nl) (b := i) (by omega) (by omega)).mpr c_1
        refine r_iload_n C dX1_depthSum_12 1 rfl ?_
        refine r_aload_n C dX1_depthSum_13 2 rfl ?_
        refine r_get C clX1 dX1_depthSum_14 0 0 rfl (by decide) q_55 rfl ?_
        refine r_iload_n C dX1_depthSum_17 0 rfl ?_
        refine r_iald C dX1_depthSum_18 1 rfl i rfl (by omega) (by decide) ?_
        refine r_iadd C dX1_depthSum_19 ?_
        refine r_istore_n C dX1_depthSum_20 (lv2 := [(1, .int (sm + (d i))), (2, .int (nI i)), (0, .ref h0)]) (by decide) rfl ?_
        refine r_iinc C dX1_depthSum_21 1 rfl (v := nI (i + 1)) (nI_1 _) (by decide) (lv2 := [(2, .int (nI (i + 1))), (1, .int (sm + (d i))), (0, .ref h0)]) rfl ?_
        refine r_goto C dX1_depthSum_24 (tgt := 4) (by decide) ?_
        exact ih_4 (i + 1) (by omega) (by omega) _ (by subst e_sm; rfl) 
  exact L_4 (nl + 1) 0 (by omega) (by omega) _ rfl 
set_option maxHeartbeats 4000000 in
set_option maxRecDepth 100000 in
/-- printedTone(print, line) -/
theorem c_X1_printedTone (l : Launch) (D : va_G) (cI cR : ClassId) (h0 : Nat) (a1 : Nat) (a2 : Nat) (a3 : Nat) (tn : Nat → Int32) (nl : Nat) (va : Int32) (sg : Int32) (pr : Nat) (sn : Int32) (wk : Int32) (pq : Nat) (li : Nat) (hpq : pq < 12) (hli : li < 10) : Ctr l D cI cR yX1_printedTone cX1_printedTone 3 ((some .int)) ({ frames := 0, cells := 0, slots := 0, locals := 0 }) [.ref h0, .int (nI pq), .int (nI li)] [(h0, .inr (1, [.ref a1, .ref a2, .ref a3, .int (nI nl), .int va, .int sg, .int (nI pr), .int sn, .int wk])), (a3, .inl (cI, 120, .inl tn))] (rP (some (.int (tn (pq * 10 + li)))) [(h0, .inr (1, [.ref a1, .ref a2, .ref a3, .int (nI nl), .int va, .int sg, .int (nI pr), .int sn, .int wk])), (a3, .inl (cI, 120, .inl tn))]) := by
  refine ctr_of (lv0 := [(0, .ref h0), (1, .int (nI pq)), (2, .int (nI li))]) (by decide) (nle rfl) rfl (fun G C E => ?_)
  refine r_aload_n C dX1_printedTone_0 0 rfl ?_
  refine r_get C clX1 dX1_printedTone_1 0 2 rfl (by decide) q_60 rfl ?_
  refine r_iload_n C dX1_printedTone_4 1 rfl ?_
  refine r_bipush C dX1_printedTone_5 (v := 10) (by decide) ?_
  refine r_imul C dX1_printedTone_7 ?_
  refine r_top (b := nI (pq * 10)) (nM rfl rfl) ?_
  refine r_iload_n C dX1_printedTone_8 2 rfl ?_
  refine r_iadd C dX1_printedTone_9 ?_
  refine r_top (b := nI (pq * 10 + li)) (nA rfl rfl) ?_
  refine r_iald C dX1_printedTone_10 1 rfl (pq * 10 + li) rfl (by omega) (by decide) ?_
  exact r_iret C E dX1_printedTone_11 (nle rfl) (nle rfl) ⟨rfl, rfl⟩
set_option maxHeartbeats 4000000 in
set_option maxRecDepth 100000 in
/-- nowhereDarker(i, j) -/
theorem c_X1_nowhereDarker (l : Launch) (D : va_G) (cI cR : ClassId) (h0 : Nat) (a1 : Nat) (a2 : Nat) (a3 : Nat) (tn : Nat → Int32) (nl : Nat) (va : Int32) (sg : Int32) (pr : Nat) (sn : Int32) (wk : Int32) (ii : Nat) (jj : Nat) (hnl : nl ≤ 10) (hii : ii < 12) (hjj : jj < 12) : Ctr l D cI cR yX1_nowhereDarker cX1_nowhereDarker 4 ((some .boolean)) ({ frames := 1, cells := 0, slots := 0, locals := 22 }) [.ref h0, .int (nI ii), .int (nI jj)] [(h0, .inr (1, [.ref a1, .ref a2, .ref a3, .int (nI nl), .int va, .int sg, .int (nI pr), .int sn, .int wk])), (a3, .inl (cI, 120, .inl tn))] (rP (some (.int (ndF tn ii jj nl))) [(h0, .inr (1, [.ref a1, .ref a2, .ref a3, .int (nI nl), .int va, .int sg, .int (nI pr), .int sn, .int wk])), (a3, .inl (cI, 120, .inl tn))]) := by
  refine ctr_of (lv0 := [(0, .ref h0), (1, .int (nI ii)), (2, .int (nI jj))]) (by decide) (nle rfl) rfl (fun G C E => ?_)
  refine r_iconst C dX1_nowhereDarker_0 (v := 0) (by decide) ?_
  refine r_istore_n C dX1_nowhereDarker_1 (lv2 := [(3, .int 0), (0, .ref h0), (1, .int (nI ii)), (2, .int (nI jj))]) (by decide) rfl ?_
  have L_2 : ∀ (z i : Nat), i ≤ nl → nl < i + z → (∀ k, k < i → tn (ii * 10 + k) ≤ tn (jj * 10 + k)) → Wr G 0 0 2 [(3, .int (nI i)), (0, .ref h0), (1, .int (nI ii)), (2, .int (nI jj))] [] [(h0, .inr (1, [.ref a1, .ref a2, .ref a3, .int (nI nl), .int va, .int sg, .int (nI pr), .int sn, .int wk])), (a3, .inl (cI, 120, .inl tn))] := by
    intro z
    induction z with
    | zero => intro i h1 h2; exact absurd h2 (by omega)
    | succ z ih_2 =>
      intro i hi_2 hz_2 hnd
      refine r_iload_n C dX1_nowhereDarker_2 0 rfl ?_
      refine r_aload_n C dX1_nowhereDarker_3 1 rfl ?_
      refine r_get C clX1 dX1_nowhereDarker_4 0 3 rfl (by decide) q_61 rfl ?_
      refine r_icmp_ge C dX1_nowhereDarker_7 (tgt := 33) (by decide) (fun c_1 => ?_) (fun c_1 => ?_)
      · have n_2 := (nI_leI (a := nl) (b := i) (by omega) (by omega)).mp c_1
        have ex_2 : nl = i := by omega
        subst ex_2
        refine r_iconst C dX1_nowhereDarker_33 (v := 1) (by decide) ?_
        exact r_zret C E dX1_nowhereDarker_34 (nle rfl) (nle rfl) (by decide) ⟨by rw [nd_1 tn hnd], rfl⟩
      · have n_2 := mt (nI_leI (a := nl) (b := i) (by omega) (by omega)).mpr c_1
        refine r_aload_n C dX1_nowhereDarker_10 1 rfl ?_
        refine r_iload_n C dX1_nowhereDarker_11 2 rfl ?_
        refine r_iload_n C dX1_nowhereDarker_12 0 rfl ?_
        refine r_callV C (As := [.int (nI ii), .int (nI i)]) (rest := []) (wr := []) (c_X1_printedTone l D cI cR h0 a1 a2 a3 tn nl va sg pr sn wk ii i (by first | assumption | omega) (by first | assumption | omega)) k_X1_printedTone rfl dX1_nowhereDarker_13 q_284 q_273 q_274 ⟨nle rfl, nle rfl⟩ [0, 1] [] rfl rfl rfl rfl (by decide) 0 rfl rfl rfl (nle rfl) ⟨nle rfl, nle rfl⟩ (r_fin (st2 := [.int (tn (ii * 10 + i))]) (ws2 := [(h0, .inr (1, [.ref a1, .ref a2, .ref a3, .int (nI nl), .int va, .int sg, .int (nI pr), .int sn, .int wk])), (a3, .inl (cI, 120, .inl tn))]) rfl rfl ?_)
        refine r_aload_n C dX1_nowhereDarker_16 1 rfl ?_
        refine r_iload_n C dX1_nowhereDarker_17 3 rfl ?_
        refine r_iload_n C dX1_nowhereDarker_18 0 rfl ?_
        refine r_callV C (As := [.int (nI jj), .int (nI i)]) (rest := [.int (tn (ii * 10 + i))]) (wr := []) (c_X1_printedTone l D cI cR h0 a1 a2 a3 tn nl va sg pr sn wk jj i (by first | assumption | omega) (by first | assumption | omega)) k_X1_printedTone rfl dX1_nowhereDarker_19 q_284 q_273 q_274 ⟨nle rfl, nle rfl⟩ [0, 1] [] rfl rfl rfl rfl (by decide) 0 rfl rfl rfl (nle rfl) ⟨nle rfl, nle rfl⟩ (r_fin (st2 := [.int (tn (jj * 10 + i)), .int (tn (ii * 10 + i))]) (ws2 := [(h0, .inr (1, [.ref a1, .ref a2, .ref a3, .int (nI nl), .int va, .int sg, .int (nI pr), .int sn, .int wk])), (a3, .inl (cI, 120, .inl tn))]) rfl rfl ?_)
        refine r_icmp_le C dX1_nowhereDarker_22 (tgt := 27) (by decide) (fun hle => ?_) (fun hle => ?_)
        · refine r_iinc C dX1_nowhereDarker_27 0 rfl (v := nI (i + 1)) (nI_1 _) (by decide) (lv2 := [(3, .int (nI (i + 1))), (0, .ref h0), (1, .int (nI ii)), (2, .int (nI jj))]) rfl ?_
          refine r_goto C dX1_nowhereDarker_30 (tgt := 2) (by decide) ?_
          exact ih_2 (i + 1) (by omega) (by omega)   (lt_s hnd hle)
        · refine r_iconst C dX1_nowhereDarker_25 (v := 0) (by decide) ?_
          exact r_zret C E dX1_nowhereDarker_26 (nle rfl) (nle rfl) (by decide) ⟨by rw [nd_0 tn (show i < nl by omega) hle], rfl⟩
  exact L_2 (nl + 1) 0 (by omega) (by omega)   (fun k h => absurd h (Nat.not_lt_zero k))
set_option maxHeartbeats 4000000 in
set_option maxRecDepth 100000 in
/-- placesAmongLikes(prints, print) -/
theorem c_X1_placesAmongLikes (l : Launch) (D : va_G) (cI cR : ClassId) (h0 : Nat) (a1 : Nat) (a2 : Nat) (a3 : Nat) (tn : Nat → Int32) (nl : Nat) (va : Int32) (sg : Int32) (pr : Nat) (sn : Int32) (wk : Int32) (ps : Int32) (pq : Nat) (hnl : nl ≤ 10) (hpq : pq < 12) : Ctr l D cI cR yX1_placesAmongLikes cX1_placesAmongLikes 7 ((some .int)) ({ frames := 2, cells := 0, slots := 0, locals := 45 }) [.ref h0, .int ps, .int (nI pq)] [(h0, .inr (1, [.ref a1, .ref a2, .ref a3, .int (nI nl), .int va, .int sg, .int (nI pr), .int sn, .int wk])), (a3, .inl (cI, 120, .inl tn))] (rP (some (.int (plF tn nl ps pq))) [(h0, .inr (1, [.ref a1, .ref a2, .ref a3, .int (nI nl), .int va, .int sg, .int (nI pr), .int sn, .int wk])), (a3, .inl (cI, 120, .inl tn))]) := by
  refine ctr_of (lv0 := [(0, .ref h0), (1, .int ps), (2, .int (nI pq))]) (by decide) (nle rfl) rfl (fun G C E => ?_)
  refine r_iconst C dX1_placesAmongLikes_0 (v := 1) (by decide) ?_
  refine r_istore_n C dX1_placesAmongLikes_1 (lv2 := [(3, .int 1), (0, .ref h0), (1, .int ps), (2, .int (nI pq))]) (by decide) rfl ?_
  refine r_iconst C dX1_placesAmongLikes_2 (v := 0) (by decide) ?_
  refine r_istore C dX1_placesAmongLikes_3 (lv2 := [(4, .int 0), (3, .int 1), (0, .ref h0), (1, .int ps), (2, .int (nI pq))]) (by decide) rfl ?_
  have L_5 : ∀ (z i : Nat), i ≤ pq → pq < i + z → ∀ (cn : Int32), cn = plV tn nl ps pq i → plX tn nl ps pq i = false → Wr G 0 0 5 [(4, .int (nI i)), (3, .int cn), (0, .ref h0), (1, .int ps), (2, .int (nI pq))] [] [(h0, .inr (1, [.ref a1, .ref a2, .ref a3, .int (nI nl), .int va, .int sg, .int (nI pr), .int sn, .int wk])), (a3, .inl (cI, 120, .inl tn))] := by
    intro z
    induction z with
    | zero => intro i h1 h2; exact absurd h2 (by omega)
    | succ z ih_5 =>
      intro i hi_5 hz_5 cn e_cn hdx
      refine r_iload C dX1_placesAmongLikes_5 0 rfl ?_
      refine r_iload_n C dX1_placesAmongLikes_7 4 rfl ?_
      refine r_icmp_ge C dX1_placesAmongLikes_8 (tgt := 69) (by decide) (fun c_1 => ?_) (fun c_1 => ?_)
      · have n_2 := (nI_leI (a := pq) (b := i) (by omega) (by omega)).mp c_1
        have ex_5 : pq = i := by omega
        subst ex_5
        subst e_cn
        refine r_iload_n C dX1_placesAmongLikes_69 1 rfl ?_
        exact r_iret C E dX1_placesAmongLikes_70 (nle rfl) (nle rfl) ⟨by rw [pl_live hdx], rfl⟩
      · have n_2 := mt (nI_leI (a := pq) (b := i) (by omega) (by omega)).mpr c_1
        refine r_iload_n C dX1_placesAmongLikes_11 3 rfl ?_
        refine r_iload C dX1_placesAmongLikes_12 0 rfl ?_
        refine r_callSN C (As := [.int ps, .int (nI i)]) (rest := []) (wr := [(h0, .inr (1, [.ref a1, .ref a2, .ref a3, .int (nI nl), .int va, .int sg, .int (nI pr), .int sn, .int wk])), (a3, .inl (cI, 120, .inl tn))]) (c_X2_contains l D cI cR ps (nI i) ) k_X2_contains rfl dX1_placesAmongLikes_14 "EtchedPlate" (fun U h => h.2.2.1) q_180 ⟨nle rfl, nle rfl⟩ [] [0, 1] rfl rfl rfl rfl (by decide) rfl (nle rfl) ⟨nle rfl, nle rfl⟩ (r_fin (st2 := [.int (ctF ps (nI i))]) (ws2 := [(h0, .inr (1, [.ref a1, .ref a2, .ref a3, .int (nI nl), .int va, .int sg, .int (nI pr), .int sn, .int wk])), (a3, .inl (cI, 120, .inl tn))]) rfl rfl ?_)
        refine r_if_eq C dX1_placesAmongLikes_17 (tgt := 63) (by decide) (fun hct => ?_) (fun hct => ?_)
        · refine r_iinc C dX1_placesAmongLikes_63 0 rfl (v := nI (i + 1)) (nI_1 _) (by decide) (lv2 := [(4, .int (nI (i + 1))), (3, .int cn), (0, .ref h0), (1, .int ps), (2, .int (nI pq))]) rfl ?_
          refine r_goto C dX1_placesAmongLikes_66 (tgt := 5) (by decide) ?_
          exact ih_5 (i + 1) (by omega) (by omega) _ (by subst e_cn; simp_all [plV]) (by simp_all [plX])
        · refine r_aload_n C dX1_placesAmongLikes_20 2 rfl ?_
          refine r_iload C dX1_placesAmongLikes_21 0 rfl ?_
          refine r_iload_n C dX1_placesAmongLikes_23 4 rfl ?_
          refine r_callV C (As := [.int (nI i), .int (nI pq)]) (rest := []) (wr := []) (c_X1_nowhereDarker l D cI cR h0 a1 a2 a3 tn nl va sg pr sn wk i pq (by first | assumption | omega) (by first | assumption | omega) (by first | assumption | omega)) k_X1_nowhereDarker rfl dX1_placesAmongLikes_24 q_297 q_281 q_282 ⟨nle rfl, nle rfl⟩ [0, 1] [] rfl rfl rfl rfl (by decide) 0 rfl rfl rfl (nle rfl) ⟨nle rfl, nle rfl⟩ (r_fin (st2 := [.int (ndF tn i pq nl)]) (ws2 := [(h0, .inr (1, [.ref a1, .ref a2, .ref a3, .int (nI nl), .int va, .int sg, .int (nI pr), .int sn, .int wk])), (a3, .inl (cI, 120, .inl tn))]) rfl rfl ?_)
          refine r_istore C dX1_placesAmongLikes_27 (lv2 := [(5, .int (ndF tn i pq nl)), (4, .int (nI i)), (3, .int cn), (0, .ref h0), (1, .int ps), (2, .int (nI pq))]) (by decide) rfl ?_
          refine r_aload_n C dX1_placesAmongLikes_29 3 rfl ?_
          refine r_iload_n C dX1_placesAmongLikes_30 5 rfl ?_
          refine r_iload C dX1_placesAmongLikes_31 1 rfl ?_
          refine r_callV C (As := [.int (nI pq), .int (nI i)]) (rest := []) (wr := []) (c_X1_nowhereDarker l D cI cR h0 a1 a2 a3 tn nl va sg pr sn wk pq i (by first | assumption | omega) (by first | assumption | omega) (by first | assumption | omega)) k_X1_nowhereDarker rfl dX1_placesAmongLikes_33 q_297 q_281 q_282 ⟨nle rfl, nle rfl⟩ [0, 1] [] rfl rfl rfl rfl (by decide) 0 rfl rfl rfl (nle rfl) ⟨nle rfl, nle rfl⟩ (r_fin (st2 := [.int (ndF tn pq i nl)]) (ws2 := [(h0, .inr (1, [.ref a1, .ref a2, .ref a3, .int (nI nl), .int va, .int sg, .int (nI pr), .int sn, .int wk])), (a3, .inl (cI, 120, .inl tn))]) rfl rfl ?_)
          refine r_istore C dX1_placesAmongLikes_36 (lv2 := [(6, .int (ndF tn pq i nl)), (5, .int (ndF tn i pq nl)), (4, .int (nI i)), (3, .int cn), (0, .ref h0), (1, .int ps), (2, .int (nI pq))]) (by decide) rfl ?_
          refine r_iload C dX1_placesAmongLikes_38 1 rfl ?_
          refine r_if_ne C dX1_placesAmongLikes_40 (tgt := 50) (by decide) (fun hbe => ?_) (fun hbe => ?_)
          · refine r_iload C dX1_placesAmongLikes_50 1 rfl ?_
            have J_6 : ∀ (v_5 : Int32), v_5 = (if (ndF tn pq i nl) = 0 then cn else (cn + 1)) → Wr G 0 0 63 [(6, .int (ndF tn pq i nl)), (5, .int (ndF tn i pq nl)), (4, .int (nI i)), (3, .int v_5), (0, .ref h0), (1, .int ps), (2, .int (nI pq))] [] [(h0, .inr (1, [.ref a1, .ref a2, .ref a3, .int (nI nl), .int va, .int sg, .int (nI pr), .int sn, .int wk])), (a3, .inl (cI, 120, .inl tn))] := by
              intro v_5 ev_5
              subst ev_5
              refine r_iinc C dX1_placesAmongLikes_63 2 rfl (v := nI (i + 1)) (nI_1 _) (by decide) (lv2 := [(4, .int (nI (i + 1))), (6, .int (ndF tn pq i nl)), (5, .int (ndF tn i pq nl)), (3, .int (if (ndF tn pq i nl) = 0 then cn else (cn + 1))), (0, .ref h0), (1, .int ps), (2, .int (nI pq))]) rfl ?_
              refine r_goto C dX1_placesAmongLikes_66 (tgt := 5) (by decide) ?_
              refine r_lv [0, 3, 4, 5, 6] (lv2 := [(4, .int (nI (i + 1))), (3, .int (if (ndF tn pq i nl) = 0 then cn else (cn + 1))), (0, .ref h0), (1, .int ps), (2, .int (nI pq))]) rfl ?_
              exact ih_5 (i + 1) (by omega) (by omega) _ (by subst e_cn; simp_all [plV]) (by simp_all [plX])
            refine r_if_eq C dX1_placesAmongLikes_52 (tgt := 63) (by decide) (fun c_3 => ?_) (fun c_3 => ?_)
            · exact absurd c_3 hbe
            · refine r_iload C dX1_placesAmongLikes_55 0 rfl ?_
              refine r_if_eq C dX1_placesAmongLikes_57 (tgt := 63) (by decide) (fun c_4 => ?_) (fun c_4 => ?_)
              · exact J_6 _ (by first | rfl | simp only [if_neg c_3, if_pos c_4])
              · refine r_iinc C dX1_placesAmongLikes_60 3 rfl (v := cn + 1) rfl (by decide) (lv2 := [(3, .int (cn + 1)), (6, .int (ndF tn pq i nl)), (5, .int (ndF tn i pq nl)), (4, .int (nI i)), (0, .ref h0), (1, .int ps), (2, .int (nI pq))]) rfl ?_
                refine r_lv [1, 2, 3, 0, 4, 5, 6] (lv2 := [(6, .int (ndF tn pq i nl)), (5, .int (ndF tn i pq nl)), (4, .int (nI i)), (3, .int (cn + 1)), (0, .ref h0), (1, .int ps), (2, .int (nI pq))]) rfl ?_
                exact J_6 _ (by first | rfl | simp only [if_neg c_3, if_neg c_4])
          · refine r_iload C dX1_placesAmongLikes_43 0 rfl ?_
            refine r_if_ne C dX1_placesAmongLikes_45 (tgt := 50) (by decide) (fun haf => ?_) (fun haf => ?_)
            · refine r_iload C dX1_placesAmongLikes_50 1 rfl ?_
              refine r_if_eq C dX1_placesAmongLikes_52 (tgt := 63) (by decide) (fun c_7 => ?_) (fun c_7 => ?_)
              · refine r_iinc C dX1_placesAmongLikes_63 2 rfl (v := nI (i + 1)) (nI_1 _) (by decide) (lv2 := [(4, .int (nI (i + 1))), (6, .int (ndF tn pq i nl)), (5, .int (ndF tn i pq nl)), (3, .int cn), (0, .ref h0), (1, .int ps), (2, .int (nI pq))]) rfl ?_
                refine r_goto C dX1_placesAmongLikes_66 (tgt := 5) (by decide) ?_
                refine r_lv [0, 3, 4, 5, 6] (lv2 := [(4, .int (nI (i + 1))), (3, .int cn), (0, .ref h0), (1, .int ps), (2, .int (nI pq))]) rfl ?_
                exact ih_5 (i + 1) (by omega) (by omega) _ (by subst e_cn; simp_all [plV]) (by simp_all [plX])
              · exact absurd hbe c_7
            · refine r_iconst C dX1_placesAmongLikes_48 (v := 0) (by decide) ?_
              exact r_iret C E dX1_placesAmongLikes_49 (nle rfl) (nle rfl) ⟨by rw [pl_dead (show i < pq by omega) hct hbe haf], rfl⟩
  exact L_5 (pq + 1) 0 (by omega) (by omega) _ rfl rfl
set_option maxHeartbeats 4000000 in
set_option maxRecDepth 100000 in
/-- countOrders(prints) -/
theorem c_X1_countOrders (l : Launch) (D : va_G) (cI cR : ClassId) (h0 : Nat) (a1 : Nat) (a2 : Nat) (a3 : Nat) (tn : Nat → Int32) (nl : Nat) (va : Int32) (sg : Int32) (pr : Nat) (sn : Int32) (wk : Int32) (ps : Int32) (hnl : nl ≤ 10) (hpr : pr ≤ 12) : Ctr l D cI cR yX1_countOrders cX1_countOrders 4 ((some .int)) ({ frames := 3, cells := 0, slots := 0, locals := 71 }) [.ref h0, .int ps] [(h0, .inr (1, [.ref a1, .ref a2, .ref a3, .int (nI nl), .int va, .int sg, .int (nI pr), .int sn, .int wk])), (a3, .inl (cI, 120, .inl tn))] (rP (some (.int (coF tn nl ps pr))) [(h0, .inr (1, [.ref a1, .ref a2, .ref a3, .int (nI nl), .int va, .int sg, .int (nI pr), .int sn, .int wk])), (a3, .inl (cI, 120, .inl tn))]) := by
  refine ctr_of (lv0 := [(0, .ref h0), (1, .int ps)]) (by decide) (nle rfl) rfl (fun G C E => ?_)
  refine r_iconst C dX1_countOrders_0 (v := 1) (by decide) ?_
  refine r_istore_n C dX1_countOrders_1 (lv2 := [(2, .int 1), (0, .ref h0), (1, .int ps)]) (by decide) rfl ?_
  refine r_iconst C dX1_countOrders_2 (v := 0) (by decide) ?_
  refine r_istore_n C dX1_countOrders_3 (lv2 := [(3, .int 0), (2, .int 1), (0, .ref h0), (1, .int ps)]) (by decide) rfl ?_
  have L_4 : ∀ (z i : Nat), i ≤ pr → pr < i + z → ∀ (cn : Int32), cn = coF tn nl ps i → Wr G 0 0 4 [(3, .int (nI i)), (2, .int cn), (0, .ref h0), (1, .int ps)] [] [(h0, .inr (1, [.ref a1, .ref a2, .ref a3, .int (nI nl), .int va, .int sg, .int (nI pr), .int sn, .int wk])), (a3, .inl (cI, 120, .inl tn))] := by
    intro z
    induction z with
    | zero => intro i h1 h2; exact absurd h2 (by omega)
    | succ z ih_4 =>
      intro i hi_4 hz_4 cn e_cn
      refine r_iload_n C dX1_countOrders_4 0 rfl ?_
      refine r_aload_n C dX1_countOrders_5 2 rfl ?_
      refine r_get C clX1 dX1_countOrders_6 0 6 rfl (by decide) q_69 rfl ?_
      refine r_icmp_ge C dX1_countOrders_9 (tgt := 35) (by decide) (fun c_1 => ?_) (fun c_1 => ?_)
      · have n_2 := (nI_leI (a := pr) (b := i) (by omega) (by omega)).mp c_1
        have ex_4 : pr = i := by omega
        subst ex_4
        subst e_cn
        refine r_iload_n C dX1_countOrders_35 1 rfl ?_
        exact r_iret C E dX1_countOrders_36 (nle rfl) (nle rfl) ⟨rfl, rfl⟩
      · have n_2 := mt (nI_leI (a := pr) (b := i) (by omega) (by omega)).mpr c_1
        refine r_iload_n C dX1_countOrders_12 3 rfl ?_
        refine r_iload_n C dX1_countOrders_13 0 rfl ?_
        refine r_callSN C (As := [.int ps, .int (nI i)]) (rest := []) (wr := [(h0, .inr (1, [.ref a1, .ref a2, .ref a3, .int (nI nl), .int va, .int sg, .int (nI pr), .int sn, .int wk])), (a3, .inl (cI, 120, .inl tn))]) (c_X2_contains l D cI cR ps (nI i) ) k_X2_contains rfl dX1_countOrders_14 "EtchedPlate" (fun U h => h.2.2.1) q_180 ⟨nle rfl, nle rfl⟩ [] [0, 1] rfl rfl rfl rfl (by decide) rfl (nle rfl) ⟨nle rfl, nle rfl⟩ (r_fin (st2 := [.int (ctF ps (nI i))]) (ws2 := [(h0, .inr (1, [.ref a1, .ref a2, .ref a3, .int (nI nl), .int va, .int sg, .int (nI pr), .int sn, .int wk])), (a3, .inl (cI, 120, .inl tn))]) rfl rfl ?_)
        have J_5 : ∀ (v_4 : Int32), v_4 = (if (ctF ps (nI i)) = 0 then cn else (cn * (plF tn nl ps i))) → Wr G 0 0 29 [(3, .int (nI i)), (2, .int v_4), (0, .ref h0), (1, .int ps)] [] [(h0, .inr (1, [.ref a1, .ref a2, .ref a3, .int (nI nl), .int va, .int sg, .int (nI pr), .int sn, .int wk])), (a3, .inl (cI, 120, .inl tn))] := by
          intro v_4 ev_4
          subst ev_4
          refine r_iinc C dX1_countOrders_29 0 rfl (v := nI (i + 1)) (nI_1 _) (by decide) (lv2 := [(3, .int (nI (i + 1))), (2, .int (if (ctF ps (nI i)) = 0 then cn else (cn * (plF tn nl ps i)))), (0, .ref h0), (1, .int ps)]) rfl ?_
          refine r_goto C dX1_countOrders_32 (tgt := 4) (by decide) ?_
          exact ih_4 (i + 1) (by omega) (by omega) _ (by subst e_cn; rfl) 
        refine r_if_eq C dX1_countOrders_17 (tgt := 29) (by decide) (fun c_3 => ?_) (fun c_3 => ?_)
        · exact J_5 _ (by first | rfl | simp only [if_pos c_3])
        · refine r_iload_n C dX1_countOrders_20 1 rfl ?_
          refine r_aload_n C dX1_countOrders_21 2 rfl ?_
          refine r_iload_n C dX1_countOrders_22 3 rfl ?_
          refine r_iload_n C dX1_countOrders_23 0 rfl ?_
          refine r_callV C (As := [.int ps, .int (nI i)]) (rest := [.int cn]) (wr := []) (c_X1_placesAmongLikes l D cI cR h0 a1 a2 a3 tn nl va sg pr sn wk ps i (by first | assumption | omega) (by first | assumption | omega)) k_X1_placesAmongLikes rfl dX1_countOrders_24 q_293 q_295 q_6 ⟨nle rfl, nle rfl⟩ [0, 1] [] rfl rfl rfl rfl (by decide) 0 rfl rfl rfl (nle rfl) ⟨nle rfl, nle rfl⟩ (r_fin (st2 := [.int (plF tn nl ps i), .int cn]) (ws2 := [(h0, .inr (1, [.ref a1, .ref a2, .ref a3, .int (nI nl), .int va, .int sg, .int (nI pr), .int sn, .int wk])), (a3, .inl (cI, 120, .inl tn))]) rfl rfl ?_)
          refine r_imul C dX1_countOrders_27 ?_
          refine r_istore_n C dX1_countOrders_28 (lv2 := [(2, .int (cn * (plF tn nl ps i))), (3, .int (nI i)), (0, .ref h0), (1, .int ps)]) (by decide) rfl ?_
          refine r_lv [1, 0, 2, 3] (lv2 := [(3, .int (nI i)), (2, .int (cn * (plF tn nl ps i))), (0, .ref h0), (1, .int ps)]) rfl ?_
          exact J_5 _ (by first | rfl | simp only [if_neg c_3])
  exact L_4 (pr + 1) 0 (by omega) (by omega) _ rfl 
set_option maxHeartbeats 4000000 in
set_option maxRecDepth 100000 in
/-- differenceFrom(print, tones) -/
theorem c_X1_differenceFrom (l : Launch) (D : va_G) (cI cR : ClassId) (h0 : Nat) (a1 : Nat) (a2 : Nat) (a3 : Nat) (tn : Nat → Int32) (nl : Nat) (va : Int32) (sg : Int32) (pr : Nat) (sn : Int32) (wk : Int32) (pq : Nat) (ag : Nat) (tg : Nat → Int32) (hnl : nl ≤ 10) (hpq : pq < 12) : Ctr l D cI cR yX1_differenceFrom cX1_differenceFrom 5 ((some .int)) ({ frames := 1, cells := 0, slots := 0, locals := 26 }) [.ref h0, .int (nI pq), .ref ag] [(h0, .inr (1, [.ref a1, .ref a2, .ref a3, .int (nI nl), .int va, .int sg, .int (nI pr), .int sn, .int wk])), (a3, .inl (cI, 120, .inl tn)), (ag, .inl (cI, 10, .inl tg))] (rP (some (.int (dfF tn tg pq nl))) [(h0, .inr (1, [.ref a1, .ref a2, .ref a3, .int (nI nl), .int va, .int sg, .int (nI pr), .int sn, .int wk])), (a3, .inl (cI, 120, .inl tn)), (ag, .inl (cI, 10, .inl tg))]) := by
  refine ctr_of (lv0 := [(0, .ref h0), (1, .int (nI pq)), (2, .ref ag)]) (by decide) (nle rfl) rfl (fun G C E => ?_)
  refine r_iconst C dX1_differenceFrom_0 (v := 0) (by decide) ?_
  refine r_istore_n C dX1_differenceFrom_1 (lv2 := [(3, .int 0), (0, .ref h0), (1, .int (nI pq)), (2, .ref ag)]) (by decide) rfl ?_
  refine r_iconst C dX1_differenceFrom_2 (v := 0) (by decide) ?_
  refine r_istore C dX1_differenceFrom_3 (lv2 := [(4, .int 0), (3, .int 0), (0, .ref h0), (1, .int (nI pq)), (2, .ref ag)]) (by decide) rfl ?_
  have L_5 : ∀ (z i : Nat), i ≤ nl → nl < i + z → ∀ (sm : Int32), sm = dfF tn tg pq i → Wr G 0 0 5 [(4, .int (nI i)), (3, .int sm), (0, .ref h0), (1, .int (nI pq)), (2, .ref ag)] [] [(h0, .inr (1, [.ref a1, .ref a2, .ref a3, .int (nI nl), .int va, .int sg, .int (nI pr), .int sn, .int wk])), (a3, .inl (cI, 120, .inl tn)), (ag, .inl (cI, 10, .inl tg))] := by
    intro z
    induction z with
    | zero => intro i h1 h2; exact absurd h2 (by omega)
    | succ z ih_5 =>
      intro i hi_5 hz_5 sm e_sm
      refine r_iload C dX1_differenceFrom_5 0 rfl ?_
      refine r_aload_n C dX1_differenceFrom_7 2 rfl ?_
      refine r_get C clX1 dX1_differenceFrom_8 0 3 rfl (by decide) q_61 rfl ?_
      refine r_icmp_ge C dX1_differenceFrom_11 (tgt := 38) (by decide) (fun c_1 => ?_) (fun c_1 => ?_)
      · have n_2 := (nI_leI (a := nl) (b := i) (by omega) (by omega)).mp c_1
        have ex_5 : nl = i := by omega
        subst ex_5
        subst e_sm
        refine r_iload_n C dX1_differenceFrom_38 1 rfl ?_
        exact r_iret C E dX1_differenceFrom_39 (nle rfl) (nle rfl) ⟨rfl, rfl⟩
      · have n_2 := mt (nI_leI (a := nl) (b := i) (by omega) (by omega)).mpr c_1
        refine r_iload_n C dX1_differenceFrom_14 1 rfl ?_
        refine r_aload_n C dX1_differenceFrom_15 2 rfl ?_
        refine r_iload_n C dX1_differenceFrom_16 3 rfl ?_
        refine r_iload C dX1_differenceFrom_17 0 rfl ?_
        refine r_callV C (As := [.int (nI pq), .int (nI i)]) (rest := [.int sm]) (wr := [(ag, .inl (cI, 10, .inl tg))]) (c_X1_printedTone l D cI cR h0 a1 a2 a3 tn nl va sg pr sn wk pq i (by first | assumption | omega) (by first | assumption | omega)) k_X1_printedTone rfl dX1_differenceFrom_19 q_284 q_273 q_274 ⟨nle rfl, nle rfl⟩ [0, 1] [2] rfl rfl rfl rfl (by decide) 0 rfl rfl rfl (nle rfl) ⟨nle rfl, nle rfl⟩ (r_fin (st2 := [.int (tn (pq * 10 + i)), .int sm]) (ws2 := [(ag, .inl (cI, 10, .inl tg)), (h0, .inr (1, [.ref a1, .ref a2, .ref a3, .int (nI nl), .int va, .int sg, .int (nI pr), .int sn, .int wk])), (a3, .inl (cI, 120, .inl tn))]) rfl rfl ?_)
        refine r_aload_n C dX1_differenceFrom_22 4 rfl ?_
        refine r_iload C dX1_differenceFrom_23 0 rfl ?_
        refine r_iald C dX1_differenceFrom_25 0 rfl i rfl (by omega) (by decide) ?_
        refine r_isub C dX1_differenceFrom_26 ?_
        refine r_mabs C dX1_differenceFrom_27 q_306 (nle rfl) (nle rfl) (nle rfl) (nle rfl) ?_
        refine r_iadd C dX1_differenceFrom_30 ?_
        refine r_istore_n C dX1_differenceFrom_31 (lv2 := [(3, .int (sm + (if 0 ≤ (tn (pq * 10 + i)) - (tg i) then ((tn (pq * 10 + i)) - (tg i)) else 0 - ((tn (pq * 10 + i)) - (tg i))))), (4, .int (nI i)), (0, .ref h0), (1, .int (nI pq)), (2, .ref ag)]) (by decide) rfl ?_
        refine r_iinc C dX1_differenceFrom_32 1 rfl (v := nI (i + 1)) (nI_1 _) (by decide) (lv2 := [(4, .int (nI (i + 1))), (3, .int (sm + (if 0 ≤ (tn (pq * 10 + i)) - (tg i) then ((tn (pq * 10 + i)) - (tg i)) else 0 - ((tn (pq * 10 + i)) - (tg i))))), (0, .ref h0), (1, .int (nI pq)), (2, .ref ag)]) rfl ?_
        refine r_goto C dX1_differenceFrom_35 (tgt := 5) (by decide) ?_
        refine r_ws [1, 2, 0] (ws2 := [(h0, .inr (1, [.ref a1, .ref a2, .ref a3, .int (nI nl), .int va, .int sg, .int (nI pr), .int sn, .int wk])), (a3, .inl (cI, 120, .inl tn)), (ag, .inl (cI, 10, .inl tg))]) rfl rfl ?_
        exact ih_5 (i + 1) (by omega) (by omega) _ (by subst e_sm; rfl) 
  exact L_5 (nl + 1) 0 (by omega) (by omega) _ rfl 
set_option maxHeartbeats 4000000 in
set_option maxRecDepth 100000 in
/-- addPrint() -/
theorem c_X1_addPrint (l : Launch) (D : va_G) (cI cR : ClassId) (h0 : Nat) (a1 : Nat) (a2 : Nat) (a3 : Nat) (d : Nat → Int32) (ss : Nat → Int32) (tn : Nat → Int32) (nl : Nat) (va : Int32) (sg : Int32) (pr : Nat) (sn : Int32) (wk : Int32) (hnl : nl ≤ 10) (hpr : pr < 12) : Ctr l D cI cR yX1_addPrint cX1_addPrint 4 ((some .int)) ({ frames := 2, cells := 0, slots := 0, locals := 47 }) [.ref h0] [(h0, .inr (1, [.ref a1, .ref a2, .ref a3, .int (nI nl), .int va, .int sg, .int (nI pr), .int sn, .int wk])), (a1, .inl (cI, 10, .inl d)), (a2, .inl (cI, 12, .inl ss)), (a3, .inl (cI, 120, .inl tn))] (rP (some (.int (nI pr))) [(h0, .inr (1, [.ref a1, .ref a2, .ref a3, .int (nI nl), .int va, .int sg, .int (nI (pr + 1)), .int (apS pr sn wk), .int 0])), (a1, .inl (cI, 10, .inl (apD d nl pr))), (a2, .inl (cI, 12, .inl (upd ss pr (apS pr sn wk)))), (a3, .inl (cI, 120, .inl (apT d tn nl pr 10)))]) := by
  refine ctr_of (lv0 := [(0, .ref h0)]) (by decide) (nle rfl) rfl (fun G C E => ?_)
  refine r_aload_n C dX1_addPrint_0 0 rfl ?_
  refine r_get C clX1 dX1_addPrint_1 0 6 rfl (by decide) q_69 rfl ?_
  refine r_istore_n C dX1_addPrint_4 (lv2 := [(1, .int (nI pr)), (0, .ref h0)]) (by decide) rfl ?_
  refine r_iload_n C dX1_addPrint_5 0 rfl ?_
  have J_5 : ∀ (v_4 : Int32), v_4 = (if (nI pr) ≤ 0 then sn else (if wk = 0 then sn else (sn + 1))) → Wr G 0 0 26 [(1, .int (nI pr)), (0, .ref h0)] [] [(h0, .inr (1, [.ref a1, .ref a2, .ref a3, .int (nI nl), .int va, .int sg, .int (nI pr), .int v_4, .int wk])), (a1, .inl (cI, 10, .inl d)), (a2, .inl (cI, 12, .inl ss)), (a3, .inl (cI, 120, .inl tn))] := by
    intro v_4 ev_4
    subst ev_4
    refine r_aload_n C dX1_addPrint_26 1 rfl ?_
    refine r_iconst C dX1_addPrint_27 (v := 0) (by decide) ?_
    refine r_put C clX1 dX1_addPrint_28 0 8 rfl (by decide) q_72 rfl (by decide) rfl (nle rfl) (ws2 := [(h0, .inr (1, [.ref a1, .ref a2, .ref a3, .int (nI nl), .int va, .int sg, .int (nI pr), .int (if (nI pr) ≤ 0 then sn else (if wk = 0 then sn else (sn + 1))), .int 0])), (a1, .inl (cI, 10, .inl d)), (a2, .inl (cI, 12, .inl ss)), (a3, .inl (cI, 120, .inl tn))]) rfl ?_
    refine r_aload_n C dX1_addPrint_31 1 rfl ?_
    refine r_get C clX1 dX1_addPrint_32 0 1 rfl (by decide) q_58 rfl ?_
    refine r_iload_n C dX1_addPrint_35 0 rfl ?_
    refine r_aload_n C dX1_addPrint_36 1 rfl ?_
    refine r_get C clX1 dX1_addPrint_37 0 7 rfl (by decide) q_71 rfl ?_
    refine r_iast C dX1_addPrint_40 2 rfl pr rfl (by omega) (by decide) (ws2 := [(h0, .inr (1, [.ref a1, .ref a2, .ref a3, .int (nI nl), .int va, .int sg, .int (nI pr), .int (if (nI pr) ≤ 0 then sn else (if wk = 0 then sn else (sn + 1))), .int 0])), (a1, .inl (cI, 10, .inl d)), (a2, .inl (cI, 12, .inl (upd ss pr (if (nI pr) ≤ 0 then sn else (if wk = 0 then sn else (sn + 1)))))), (a3, .inl (cI, 120, .inl tn))]) rfl ?_
    refine r_iconst C dX1_addPrint_41 (v := 0) (by decide) ?_
    refine r_istore_n C dX1_addPrint_42 (lv2 := [(2, .int 0), (1, .int (nI pr)), (0, .ref h0)]) (by decide) rfl ?_
    have L_43 : ∀ (z i : Nat), i ≤ 10 → 10 < i + z → ∀ (f : Nat → Int32), f = apT d tn nl pr i → Wr G 0 0 43 [(2, .int (nI i)), (1, .int (nI pr)), (0, .ref h0)] [] [(h0, .inr (1, [.ref a1, .ref a2, .ref a3, .int (nI nl), .int va, .int sg, .int (nI pr), .int (if (nI pr) ≤ 0 then sn else (if wk = 0 then sn else (sn + 1))), .int 0])), (a1, .inl (cI, 10, .inl d)), (a2, .inl (cI, 12, .inl (upd ss pr (if (nI pr) ≤ 0 then sn else (if wk = 0 then sn else (sn + 1)))))), (a3, .inl (cI, 120, .inl f))] := by
      intro z
      induction z with
      | zero => intro i h1 h2; exact absurd h2 (by omega)
      | succ z ih_43 =>
        intro i hi_43 hz_43 f e_f
        refine r_iload_n C dX1_addPrint_43 0 rfl ?_
        refine r_bipush C dX1_addPrint_44 (v := 10) (by decide) ?_
        refine r_icmp_ge C dX1_addPrint_46 (tgt := 89) (by decide) (fun c_6 => ?_) (fun c_6 => ?_)
        · have n_7 := (nI_leI (a := 10) (b := i) (by omega) (by omega)).mp c_6
          have ex_43 : i = 10 := by omega
          subst ex_43
          subst e_f
          refine r_aload_n C dX1_addPrint_89 2 rfl ?_
          refine r_dup C dX1_addPrint_90 rfl ?_
          refine r_get C clX1 dX1_addPrint_91 0 6 rfl (by decide) q_69 rfl ?_
          refine r_iconst C dX1_addPrint_94 (v := 1) (by decide) ?_
          refine r_iadd C dX1_addPrint_95 ?_
          refine r_top (b := nI (pr + 1)) (nA rfl rfl) ?_
          refine r_put C clX1 dX1_addPrint_96 0 6 rfl (by decide) q_69 rfl rfl rfl (nle rfl) (ws2 := [(h0, .inr (1, [.ref a1, .ref a2, .ref a3, .int (nI nl), .int va, .int sg, .int (nI (pr + 1)), .int (if (nI pr) ≤ 0 then sn else (if wk = 0 then sn else (sn + 1))), .int 0])), (a1, .inl (cI, 10, .inl d)), (a2, .inl (cI, 12, .inl (upd ss pr (if (nI pr) ≤ 0 then sn else (if wk = 0 then sn else (sn + 1)))))), (a3, .inl (cI, 120, .inl (apT d tn nl pr 10)))]) rfl ?_
          refine r_aload_n C dX1_addPrint_99 2 rfl ?_
          refine r_get C clX1 dX1_addPrint_100 0 6 rfl (by decide) q_69 rfl ?_
          refine r_iconst C dX1_addPrint_103 (v := 3) (by decide) ?_
          refine r_irem C dX1_addPrint_104 (by decide) ?_
          refine r_top (b := nI ((pr + 1) % 3)) (pk_rem (d := 3) (by omega) (by decide) (by decide)) ?_
          have J_11 : ∀ (f_10 : Nat → Int32), f_10 = (if (nI ((pr + 1) % 3)) = 0 then (weD d nl) else d) → Wr G 0 0 112 [(2, .int (nI 10)), (1, .int (nI pr)), (0, .ref h0)] [] [(h0, .inr (1, [.ref a1, .ref a2, .ref a3, .int (nI nl), .int va, .int sg, .int (nI (pr + 1)), .int (if (nI pr) ≤ 0 then sn else (if wk = 0 then sn else (sn + 1))), .int 0])), (a1, .inl (cI, 10, .inl f_10)), (a2, .inl (cI, 12, .inl (upd ss pr (if (nI pr) ≤ 0 then sn else (if wk = 0 then sn else (sn + 1)))))), (a3, .inl (cI, 120, .inl (apT d tn nl pr 10)))] := by
            intro f_10 ef_10
            subst ef_10
            refine r_iload_n C dX1_addPrint_112 1 rfl ?_
            exact r_iret C E dX1_addPrint_113 (nle rfl) (nle rfl) ⟨rfl, rfl⟩
          refine r_if_ne C dX1_addPrint_105 (tgt := 112) (by decide) (fun c_8 => ?_) (fun c_8 => ?_)
          · have n_9 := mt (nI_eq (a := (pr + 1) % 3) (b := 0) (by omega) (by omega)).mpr c_8
            exact J_11 _ (by first | rfl | simp only [if_neg c_8])
          · have n_9 := (nI_eq (a := (pr + 1) % 3) (b := 0) (by omega) (by omega)).mp c_8
            refine r_aload_n C dX1_addPrint_108 2 rfl ?_
            refine r_callV C (As := []) (rest := []) (wr := [(a2, .inl (cI, 12, .inl (upd ss pr (if (nI pr) ≤ 0 then sn else (if wk = 0 then sn else (sn + 1)))))), (a3, .inl (cI, 120, .inl (apT d tn nl pr 10)))]) (c_X1_wear l D cI cR h0 a1 a2 a3 d nl va sg (pr + 1) (if (nI pr) ≤ 0 then sn else (if wk = 0 then sn else (sn + 1))) 0 (by first | assumption | omega)) k_X1_wear rfl dX1_addPrint_109 q_228 q_230 q_4 ⟨nle rfl, nle rfl⟩ [0, 1] [2, 3] rfl rfl rfl rfl (by decide) 0 rfl rfl rfl (nle rfl) ⟨nle rfl, nle rfl⟩ (r_fin (st2 := []) (ws2 := [(a2, .inl (cI, 12, .inl (upd ss pr (if (nI pr) ≤ 0 then sn else (if wk = 0 then sn else (sn + 1)))))), (a3, .inl (cI, 120, .inl (apT d tn nl pr 10))), (h0, .inr (1, [.ref a1, .ref a2, .ref a3, .int (nI nl), .int va, .int sg, .int (nI (pr + 1)), .int (if (nI pr) ≤ 0 then sn else (if wk = 0 then sn else (sn + 1))), .int 0])), (a1, .inl (cI, 10, .inl (weD d nl)))]) rfl rfl ?_)
            refine r_ws [2, 3, 0, 1] (ws2 := [(h0, .inr (1, [.ref a1, .ref a2, .ref a3, .int (nI nl), .int va, .int sg, .int (nI (pr + 1)), .int (if (nI pr) ≤ 0 then sn else (if wk = 0 then sn else (sn + 1))), .int 0])), (a1, .inl (cI, 10, .inl (weD d nl))), (a2, .inl (cI, 12, .inl (upd ss pr (if (nI pr) ≤ 0 then sn else (if wk = 0 then sn else (sn + 1)))))), (a3, .inl (cI, 120, .inl (apT d tn nl pr 10)))]) rfl rfl ?_
            exact J_11 _ (by first | rfl | simp only [if_pos c_8])
        · have n_7 := mt (nI_leI (a := 10) (b := i) (by omega) (by omega)).mpr c_6
          refine r_iload_n C dX1_addPrint_49 0 rfl ?_
          refine r_aload_n C dX1_addPrint_50 2 rfl ?_
          refine r_get C clX1 dX1_addPrint_51 0 3 rfl (by decide) q_61 rfl ?_
          have J_15 : ∀ (v_14 : Int32), v_14 = (if (nI nl) ≤ (nI i) then (0 : Int32) else (d i)) → Wr G 0 0 67 [(2, .int (nI i)), (1, .int (nI pr)), (0, .ref h0)] [.int v_14] [(h0, .inr (1, [.ref a1, .ref a2, .ref a3, .int (nI nl), .int va, .int sg, .int (nI pr), .int (if (nI pr) ≤ 0 then sn else (if wk = 0 then sn else (sn + 1))), .int 0])), (a1, .inl (cI, 10, .inl d)), (a2, .inl (cI, 12, .inl (upd ss pr (if (nI pr) ≤ 0 then sn else (if wk = 0 then sn else (sn + 1)))))), (a3, .inl (cI, 120, .inl f))] := by
            intro v_14 ev_14
            subst ev_14
            refine r_istore_n C dX1_addPrint_67 (lv2 := [(3, .int (if (nI nl) ≤ (nI i) then (0 : Int32) else (d i))), (2, .int (nI i)), (1, .int (nI pr)), (0, .ref h0)]) (by decide) rfl ?_
            refine r_aload_n C dX1_addPrint_68 3 rfl ?_
            refine r_get C clX1 dX1_addPrint_69 0 2 rfl (by decide) q_60 rfl ?_
            refine r_iload_n C dX1_addPrint_72 2 rfl ?_
            refine r_bipush C dX1_addPrint_73 (v := 10) (by decide) ?_
            refine r_imul C dX1_addPrint_75 ?_
            refine r_top (b := nI (pr * 10)) (nM rfl rfl) ?_
            refine r_iload_n C dX1_addPrint_76 1 rfl ?_
            refine r_iadd C dX1_addPrint_77 ?_
            refine r_top (b := nI (pr * 10 + i)) (nA rfl rfl) ?_
            refine r_iload_n C dX1_addPrint_78 0 rfl ?_
            refine r_bipush C dX1_addPrint_79 (v := 10) (by decide) ?_
            refine r_idiv C dX1_addPrint_81 (by decide) ?_
            refine r_iast C dX1_addPrint_82 3 rfl (pr * 10 + i) rfl (by omega) (by decide) (ws2 := [(h0, .inr (1, [.ref a1, .ref a2, .ref a3, .int (nI nl), .int va, .int sg, .int (nI pr), .int (if (nI pr) ≤ 0 then sn else (if wk = 0 then sn else (sn + 1))), .int 0])), (a1, .inl (cI, 10, .inl d)), (a2, .inl (cI, 12, .inl (upd ss pr (if (nI pr) ≤ 0 then sn else (if wk = 0 then sn else (sn + 1)))))), (a3, .inl (cI, 120, .inl (upd f (pr * 10 + i) ((if (nI nl) ≤ (nI i) then (0 : Int32) else (d i)) / 10))))]) rfl ?_
            refine r_iinc C dX1_addPrint_83 1 rfl (v := nI (i + 1)) (nI_1 _) (by decide) (lv2 := [(2, .int (nI (i + 1))), (3, .int (if (nI nl) ≤ (nI i) then (0 : Int32) else (d i))), (1, .int (nI pr)), (0, .ref h0)]) rfl ?_
            refine r_goto C dX1_addPrint_86 (tgt := 43) (by decide) ?_
            refine r_lv [0, 2, 3] (lv2 := [(2, .int (nI (i + 1))), (1, .int (nI pr)), (0, .ref h0)]) rfl ?_
            exact ih_43 (i + 1) (by omega) (by omega) _ (by subst e_f; rfl) 
          refine r_icmp_ge C dX1_addPrint_54 (tgt := 66) (by decide) (fun c_12 => ?_) (fun c_12 => ?_)
          · have n_13 := (nI_leI (a := nl) (b := i) (by omega) (by omega)).mp c_12
            refine r_iconst C dX1_addPrint_66 (v := 0) (by decide) ?_
            exact J_15 _ (by first | rfl | simp only [if_pos c_12])
          · have n_13 := mt (nI_leI (a := nl) (b := i) (by omega) (by omega)).mpr c_12
            refine r_aload_n C dX1_addPrint_57 2 rfl ?_
            refine r_get C clX1 dX1_addPrint_58 0 0 rfl (by decide) q_55 rfl ?_
            refine r_iload_n C dX1_addPrint_61 0 rfl ?_
            refine r_iald C dX1_addPrint_62 1 rfl i rfl (by omega) (by decide) ?_
            refine r_goto C dX1_addPrint_63 (tgt := 67) (by decide) ?_
            exact J_15 _ (by first | rfl | simp only [if_neg c_12])
    exact L_43 (10 + 1) 0 (by omega) (by omega) _ rfl 
  refine r_if_le C dX1_addPrint_6 (tgt := 26) (by decide) (fun c_1 => ?_) (fun c_1 => ?_)
  · have n_2 := (nI_leI (a := pr) (b := 0) (by omega) (by omega)).mp c_1
    exact J_5 _ (by first | rfl | simp only [if_pos c_1])
  · have n_2 := mt (nI_leI (a := pr) (b := 0) (by omega) (by omega)).mpr c_1
    refine r_aload_n C dX1_addPrint_9 1 rfl ?_
    refine r_get C clX1 dX1_addPrint_10 0 8 rfl (by decide) q_72 rfl ?_
    refine r_if_eq C dX1_addPrint_13 (tgt := 26) (by decide) (fun c_3 => ?_) (fun c_3 => ?_)
    · exact J_5 _ (by first | rfl | simp only [if_neg c_1, if_pos c_3])
    · refine r_aload_n C dX1_addPrint_16 1 rfl ?_
      refine r_dup C dX1_addPrint_17 rfl ?_
      refine r_get C clX1 dX1_addPrint_18 0 7 rfl (by decide) q_71 rfl ?_
      refine r_iconst C dX1_addPrint_21 (v := 1) (by decide) ?_
      refine r_iadd C dX1_addPrint_22 ?_
      refine r_put C clX1 dX1_addPrint_23 0 7 rfl (by decide) q_71 rfl rfl rfl (nle rfl) (ws2 := [(h0, .inr (1, [.ref a1, .ref a2, .ref a3, .int (nI nl), .int va, .int sg, .int (nI pr), .int (sn + 1), .int wk])), (a1, .inl (cI, 10, .inl d)), (a2, .inl (cI, 12, .inl ss)), (a3, .inl (cI, 120, .inl tn))]) rfl ?_
      exact J_5 _ (by first | rfl | simp only [if_neg c_1, if_neg c_3])
set_option maxHeartbeats 4000000 in
set_option maxRecDepth 100000 in
/-- copyFrom(other) -/
theorem c_X1_copyFrom (l : Launch) (D : va_G) (cI cR : ClassId) (h0 : Nat) (a1 : Nat) (a2 : Nat) (a3 : Nat) (d : Nat → Int32) (ss : Nat → Int32) (tn : Nat → Int32) (nl : Nat) (va : Int32) (sg : Int32) (pr : Nat) (sn : Int32) (wk : Int32) (b0 : Nat) (b1 : Nat) (b2 : Nat) (b3 : Nat) (d2 : Nat → Int32) (ss2 : Nat → Int32) (tn2 : Nat → Int32) (nl2 : Nat) (va2 : Int32) (sg2 : Int32) (pr2 : Nat) (sn2 : Int32) (wk2 : Int32) (hwk : wk2 = 0 ∨ wk2 = 1) : Ctr l D cI cR yX1_copyFrom cX1_copyFrom 2 none ({ frames := 1, cells := 0, slots := 0, locals := 26 }) [.ref h0, .ref b0] [(h0, .inr (1, [.ref a1, .ref a2, .ref a3, .int (nI nl), .int va, .int sg, .int (nI pr), .int sn, .int wk])), (a1, .inl (cI, 10, .inl d)), (a2, .inl (cI, 12, .inl ss)), (a3, .inl (cI, 120, .inl tn)), (b0, .inr (1, [.ref b1, .ref b2, .ref b3, .int (nI nl2), .int va2, .int sg2, .int (nI pr2), .int sn2, .int wk2])), (b1, .inl (cI, 10, .inl d2)), (b2, .inl (cI, 12, .inl ss2)), (b3, .inl (cI, 120, .inl tn2))] (rP none [(h0, .inr (1, [.ref a1, .ref a2, .ref a3, .int (nI nl2), .int va2, .int sg2, .int (nI pr2), .int sn2, .int wk2])), (a1, .inl (cI, 10, .inl (va_cpy d2 d 0 0 10))), (a2, .inl (cI, 12, .inl (va_cpy ss2 ss 0 0 12))), (a3, .inl (cI, 120, .inl (va_cpy tn2 tn 0 0 120))), (b0, .inr (1, [.ref b1, .ref b2, .ref b3, .int (nI nl2), .int va2, .int sg2, .int (nI pr2), .int sn2, .int wk2])), (b1, .inl (cI, 10, .inl d2)), (b2, .inl (cI, 12, .inl ss2)), (b3, .inl (cI, 120, .inl tn2))]) := by
  refine ctr_of (lv0 := [(0, .ref h0), (1, .ref b0)]) (by decide) (nle rfl) rfl (fun G C E => ?_)
  refine r_aload_n C dX1_copyFrom_0 1 rfl ?_
  refine r_get C clX1 dX1_copyFrom_1 4 0 rfl (by decide) q_55 rfl ?_
  refine r_iconst C dX1_copyFrom_4 (v := 0) (by decide) ?_
  refine r_aload_n C dX1_copyFrom_5 0 rfl ?_
  refine r_get C clX1 dX1_copyFrom_6 0 0 rfl (by decide) q_55 rfl ?_
  refine r_iconst C dX1_copyFrom_9 (v := 0) (by decide) ?_
  refine r_bipush C dX1_copyFrom_10 (v := 10) (by decide) ?_
  refine r_copy C dX1_copyFrom_12 q_160 5 1 rfl rfl rfl (by decide) (nle rfl) (nle rfl) (ws2 := [(h0, .inr (1, [.ref a1, .ref a2, .ref a3, .int (nI nl), .int va, .int sg, .int (nI pr), .int sn, .int wk])), (a1, .inl (cI, 10, .inl (va_cpy d2 d 0 0 10))), (a2, .inl (cI, 12, .inl ss)), (a3, .inl (cI, 120, .inl tn)), (b0, .inr (1, [.ref b1, .ref b2, .ref b3, .int (nI nl2), .int va2, .int sg2, .int (nI pr2), .int sn2, .int wk2])), (b1, .inl (cI, 10, .inl d2)), (b2, .inl (cI, 12, .inl ss2)), (b3, .inl (cI, 120, .inl tn2))]) rfl ?_
  refine r_aload_n C dX1_copyFrom_15 1 rfl ?_
  refine r_get C clX1 dX1_copyFrom_16 4 1 rfl (by decide) q_58 rfl ?_
  refine r_iconst C dX1_copyFrom_19 (v := 0) (by decide) ?_
  refine r_aload_n C dX1_copyFrom_20 0 rfl ?_
  refine r_get C clX1 dX1_copyFrom_21 0 1 rfl (by decide) q_58 rfl ?_
  refine r_iconst C dX1_copyFrom_24 (v := 0) (by decide) ?_
  refine r_bipush C dX1_copyFrom_25 (v := 12) (by decide) ?_
  refine r_copy C dX1_copyFrom_27 q_160 6 2 rfl rfl rfl (by decide) (nle rfl) (nle rfl) (ws2 := [(h0, .inr (1, [.ref a1, .ref a2, .ref a3, .int (nI nl), .int va, .int sg, .int (nI pr), .int sn, .int wk])), (a1, .inl (cI, 10, .inl (va_cpy d2 d 0 0 10))), (a2, .inl (cI, 12, .inl (va_cpy ss2 ss 0 0 12))), (a3, .inl (cI, 120, .inl tn)), (b0, .inr (1, [.ref b1, .ref b2, .ref b3, .int (nI nl2), .int va2, .int sg2, .int (nI pr2), .int sn2, .int wk2])), (b1, .inl (cI, 10, .inl d2)), (b2, .inl (cI, 12, .inl ss2)), (b3, .inl (cI, 120, .inl tn2))]) rfl ?_
  refine r_aload_n C dX1_copyFrom_30 1 rfl ?_
  refine r_get C clX1 dX1_copyFrom_31 4 2 rfl (by decide) q_60 rfl ?_
  refine r_iconst C dX1_copyFrom_34 (v := 0) (by decide) ?_
  refine r_aload_n C dX1_copyFrom_35 0 rfl ?_
  refine r_get C clX1 dX1_copyFrom_36 0 2 rfl (by decide) q_60 rfl ?_
  refine r_iconst C dX1_copyFrom_39 (v := 0) (by decide) ?_
  refine r_bipush C dX1_copyFrom_40 (v := 120) (by decide) ?_
  refine r_copy C dX1_copyFrom_42 q_160 7 3 rfl rfl rfl (by decide) (nle rfl) (nle rfl) (ws2 := [(h0, .inr (1, [.ref a1, .ref a2, .ref a3, .int (nI nl), .int va, .int sg, .int (nI pr), .int sn, .int wk])), (a1, .inl (cI, 10, .inl (va_cpy d2 d 0 0 10))), (a2, .inl (cI, 12, .inl (va_cpy ss2 ss 0 0 12))), (a3, .inl (cI, 120, .inl (va_cpy tn2 tn 0 0 120))), (b0, .inr (1, [.ref b1, .ref b2, .ref b3, .int (nI nl2), .int va2, .int sg2, .int (nI pr2), .int sn2, .int wk2])), (b1, .inl (cI, 10, .inl d2)), (b2, .inl (cI, 12, .inl ss2)), (b3, .inl (cI, 120, .inl tn2))]) rfl ?_
  refine r_aload_n C dX1_copyFrom_45 0 rfl ?_
  refine r_aload_n C dX1_copyFrom_46 1 rfl ?_
  refine r_get C clX1 dX1_copyFrom_47 4 3 rfl (by decide) q_61 rfl ?_
  refine r_put C clX1 dX1_copyFrom_50 0 3 rfl (by decide) q_61 rfl rfl rfl (nle rfl) (ws2 := [(h0, .inr (1, [.ref a1, .ref a2, .ref a3, .int (nI nl2), .int va, .int sg, .int (nI pr), .int sn, .int wk])), (a1, .inl (cI, 10, .inl (va_cpy d2 d 0 0 10))), (a2, .inl (cI, 12, .inl (va_cpy ss2 ss 0 0 12))), (a3, .inl (cI, 120, .inl (va_cpy tn2 tn 0 0 120))), (b0, .inr (1, [.ref b1, .ref b2, .ref b3, .int (nI nl2), .int va2, .int sg2, .int (nI pr2), .int sn2, .int wk2])), (b1, .inl (cI, 10, .inl d2)), (b2, .inl (cI, 12, .inl ss2)), (b3, .inl (cI, 120, .inl tn2))]) rfl ?_
  refine r_aload_n C dX1_copyFrom_53 0 rfl ?_
  refine r_aload_n C dX1_copyFrom_54 1 rfl ?_
  refine r_get C clX1 dX1_copyFrom_55 4 4 rfl (by decide) q_64 rfl ?_
  refine r_put C clX1 dX1_copyFrom_58 0 4 rfl (by decide) q_64 rfl rfl rfl (nle rfl) (ws2 := [(h0, .inr (1, [.ref a1, .ref a2, .ref a3, .int (nI nl2), .int va2, .int sg, .int (nI pr), .int sn, .int wk])), (a1, .inl (cI, 10, .inl (va_cpy d2 d 0 0 10))), (a2, .inl (cI, 12, .inl (va_cpy ss2 ss 0 0 12))), (a3, .inl (cI, 120, .inl (va_cpy tn2 tn 0 0 120))), (b0, .inr (1, [.ref b1, .ref b2, .ref b3, .int (nI nl2), .int va2, .int sg2, .int (nI pr2), .int sn2, .int wk2])), (b1, .inl (cI, 10, .inl d2)), (b2, .inl (cI, 12, .inl ss2)), (b3, .inl (cI, 120, .inl tn2))]) rfl ?_
  refine r_aload_n C dX1_copyFrom_61 0 rfl ?_
  refine r_aload_n C dX1_copyFrom_62 1 rfl ?_
  refine r_get C clX1 dX1_copyFrom_63 4 5 rfl (by decide) q_66 rfl ?_
  refine r_put C clX1 dX1_copyFrom_66 0 5 rfl (by decide) q_66 rfl rfl rfl (nle rfl) (ws2 := [(h0, .inr (1, [.ref a1, .ref a2, .ref a3, .int (nI nl2), .int va2, .int sg2, .int (nI pr), .int sn, .int wk])), (a1, .inl (cI, 10, .inl (va_cpy d2 d 0 0 10))), (a2, .inl (cI, 12, .inl (va_cpy ss2 ss 0 0 12))), (a3, .inl (cI, 120, .inl (va_cpy tn2 tn 0 0 120))), (b0, .inr (1, [.ref b1, .ref b2, .ref b3, .int (nI nl2), .int va2, .int sg2, .int (nI pr2), .int sn2, .int wk2])), (b1, .inl (cI, 10, .inl d2)), (b2, .inl (cI, 12, .inl ss2)), (b3, .inl (cI, 120, .inl tn2))]) rfl ?_
  refine r_aload_n C dX1_copyFrom_69 0 rfl ?_
  refine r_aload_n C dX1_copyFrom_70 1 rfl ?_
  refine r_get C clX1 dX1_copyFrom_71 4 6 rfl (by decide) q_69 rfl ?_
  refine r_put C clX1 dX1_copyFrom_74 0 6 rfl (by decide) q_69 rfl rfl rfl (nle rfl) (ws2 := [(h0, .inr (1, [.ref a1, .ref a2, .ref a3, .int (nI nl2), .int va2, .int sg2, .int (nI pr2), .int sn, .int wk])), (a1, .inl (cI, 10, .inl (va_cpy d2 d 0 0 10))), (a2, .inl (cI, 12, .inl (va_cpy ss2 ss 0 0 12))), (a3, .inl (cI, 120, .inl (va_cpy tn2 tn 0 0 120))), (b0, .inr (1, [.ref b1, .ref b2, .ref b3, .int (nI nl2), .int va2, .int sg2, .int (nI pr2), .int sn2, .int wk2])), (b1, .inl (cI, 10, .inl d2)), (b2, .inl (cI, 12, .inl ss2)), (b3, .inl (cI, 120, .inl tn2))]) rfl ?_
  refine r_aload_n C dX1_copyFrom_77 0 rfl ?_
  refine r_aload_n C dX1_copyFrom_78 1 rfl ?_
  refine r_get C clX1 dX1_copyFrom_79 4 7 rfl (by decide) q_71 rfl ?_
  refine r_put C clX1 dX1_copyFrom_82 0 7 rfl (by decide) q_71 rfl rfl rfl (nle rfl) (ws2 := [(h0, .inr (1, [.ref a1, .ref a2, .ref a3, .int (nI nl2), .int va2, .int sg2, .int (nI pr2), .int sn2, .int wk])), (a1, .inl (cI, 10, .inl (va_cpy d2 d 0 0 10))), (a2, .inl (cI, 12, .inl (va_cpy ss2 ss 0 0 12))), (a3, .inl (cI, 120, .inl (va_cpy tn2 tn 0 0 120))), (b0, .inr (1, [.ref b1, .ref b2, .ref b3, .int (nI nl2), .int va2, .int sg2, .int (nI pr2), .int sn2, .int wk2])), (b1, .inl (cI, 10, .inl d2)), (b2, .inl (cI, 12, .inl ss2)), (b3, .inl (cI, 120, .inl tn2))]) rfl ?_
  refine r_aload_n C dX1_copyFrom_85 0 rfl ?_
  refine r_aload_n C dX1_copyFrom_86 1 rfl ?_
  refine r_get C clX1 dX1_copyFrom_87 4 8 rfl (by decide) q_72 rfl ?_
  refine r_put C clX1 dX1_copyFrom_90 0 8 rfl (by decide) q_72 rfl (zB hwk) (zBf hwk) (nle rfl) (ws2 := [(h0, .inr (1, [.ref a1, .ref a2, .ref a3, .int (nI nl2), .int va2, .int sg2, .int (nI pr2), .int sn2, .int wk2])), (a1, .inl (cI, 10, .inl (va_cpy d2 d 0 0 10))), (a2, .inl (cI, 12, .inl (va_cpy ss2 ss 0 0 12))), (a3, .inl (cI, 120, .inl (va_cpy tn2 tn 0 0 120))), (b0, .inr (1, [.ref b1, .ref b2, .ref b3, .int (nI nl2), .int va2, .int sg2, .int (nI pr2), .int sn2, .int wk2])), (b1, .inl (cI, 10, .inl d2)), (b2, .inl (cI, 12, .inl ss2)), (b3, .inl (cI, 120, .inl tn2))]) rfl ?_
  exact r_vret C E dX1_copyFrom_93 (nle rfl) (nle rfl) ⟨rfl, rfl⟩
