/-! the class EtchedPlate$Plate: what its methods do, as functions -/
theorem zI01 {c : Prop} [Decidable c] : narrow .boolean (.int (if c then (0 : Int32) else 1)) = .int (if c then (0 : Int32) else 1) := by split <;> rfl
theorem zI10 {c : Prop} [Decidable c] : narrow .boolean (.int (if c then (1 : Int32) else 0)) = .int (if c then (1 : Int32) else 0) := by split <;> rfl
def ctF (sx kx : Int32) : Int32 := if sx >>> (kx &&& 31) &&& 1 = 0 then 0 else 1
def weD (d : Nat → Int32) : Nat → Nat → Int32
  | 0 => d
  | i + 1 => upd (weD d i) i (if 0 < weD d i i - 1 then weD d i i - 1 else 0)
def etD (d : Nat → Int32) (va sg mi : Int32) : Nat → Nat → Int32
  | 0 => d
  | i + 1 => if ctF va (nI i) = 0 then upd (etD d va sg mi i) i (if etD d va sg mi i i + sg * mi < 99 then etD d va sg mi i i + sg * mi else 99) else etD d va sg mi i
def etC (d : Nat → Int32) (va sg mi : Int32) : Nat → Int32
  | 0 => 0
  | i + 1 => if etD d va sg mi (i + 1) i ≤ etD d va sg mi i i then etC d va sg mi i else etC d va sg mi i + 1
def dsF (d : Nat → Int32) : Nat → Int32
  | 0 => 0
  | i + 1 => dsF d i + d i
set_option maxHeartbeats 4000000 in
set_option maxRecDepth 100000 in
/-- contains(set, member) -/
theorem c_X2_contains (l : Launch) (D : va_G) (cI cR : ClassId) (sx : Int32) (kx : Int32)  : Ctr l D cI cR yX2_contains cX2_contains 2 ((some .boolean)) ({ frames := 0, cells := 0, slots := 0, locals := 0 }) [.int sx, .int kx] [] (rP (some (.int (ctF sx kx))) []) := by
  refine ctr_of (lv0 := [(0, .int sx), (1, .int kx)]) (by decide) (nle rfl) rfl (fun G C E => ?_)
  refine r_iload_n C dX2_contains_0 0 rfl ?_
  refine r_iload_n C dX2_contains_1 1 rfl ?_
  refine r_ishr C dX2_contains_2 ?_
  refine r_iconst C dX2_contains_3 (v := 1) (by decide) ?_
  refine r_iand C dX2_contains_4 ?_
  have J_3 : ∀ (v_2 : Int32), v_2 = (if ((sx >>> (kx &&& 31)) &&& 1) = 0 then 0 else 1) → Wr G 0 0 13 [(0, .int sx), (1, .int kx)] [.int v_2] [] := by
    intro v_2 ev_2
    subst ev_2
    exact r_zret C E dX2_contains_13 (nle rfl) (nle rfl) zI01 ⟨rfl, rfl⟩
  refine r_if_eq C dX2_contains_5 (tgt := 12) (by decide) (fun c_1 => ?_) (fun c_1 => ?_)
  · refine r_iconst C dX2_contains_12 (v := 0) (by decide) ?_
    exact J_3 _ (by first | rfl | simp only [if_pos c_1])
  · refine r_iconst C dX2_contains_8 (v := 1) (by decide) ?_
    refine r_goto C dX2_contains_9 (tgt := 13) (by decide) ?_
    exact J_3 _ (by first | rfl | simp only [if_neg c_1])
set_option maxHeartbeats 4000000 in
set_option maxRecDepth 100000 in
/-- addLine() -/
theorem c_X1_addLine (l : Launch) (D : va_G) (cI cR : ClassId) (h0 : Nat) (a1 : Nat) (a2 : Nat) (a3 : Nat) (d : Nat → Int32) (nl : Nat) (va : Int32) (sg : Int32) (pr : Nat) (sn : Int32) (wk : Int32) (hnl : nl < 10) : Ctr l D cI cR yX1_addLine cX1_addLine 2 ((some .int)) ({ frames := 0, cells := 0, slots := 0, locals := 0 }) [.ref h0] [(h0, .inr (1, [.ref a1, .ref a2, .ref a3, .int (nI nl), .int va, .int sg, .int (nI pr), .int sn, .int wk])), (a1, .inl (cI, 10, .inl d))] (rP (some (.int (nI nl))) [(h0, .inr (1, [.ref a1, .ref a2, .ref a3, .int (nI (nl + 1)), .int va, .int sg, .int (nI pr), .int sn, .int 1])), (a1, .inl (cI, 10, .inl (upd d nl 0)))]) := by
  refine ctr_of (lv0 := [(0, .ref h0)]) (by decide) (nle rfl) rfl (fun G C E => ?_)
  refine r_aload_n C dX1_addLine_0 0 rfl ?_
  refine r_get C clX1 dX1_addLine_1 0 3 rfl (by decide) q_61 rfl ?_
  refine r_istore_n C dX1_addLine_4 (lv2 := [(1, .int (nI nl)), (0, .ref h0)]) (by decide) rfl ?_
  refine r_aload_n C dX1_addLine_5 1 rfl ?_
  refine r_get C clX1 dX1_addLine_6 0 0 rfl (by decide) q_55 rfl ?_
  refine r_iload_n C dX1_addLine_9 0 rfl ?_
  refine r_iconst C dX1_addLine_10 (v := 0) (by decide) ?_
  refine r_iast C dX1_addLine_11 1 rfl nl rfl (by omega) (by decide) (ws2 := [(h0, .inr (1, [.ref a1, .ref a2, .ref a3, .int (nI nl), .int va, .int sg, .int (nI pr), .int sn, .int wk])), (a1, .inl (cI, 10, .inl (upd d nl 0)))]) rfl ?_
  refine r_aload_n C dX1_addLine_12 1 rfl ?_
  refine r_dup C dX1_addLine_13 rfl ?_
  refine r_get C clX1 dX1_addLine_14 0 3 rfl (by decide) q_61 rfl ?_
  refine r_iconst C dX1_addLine_17 (v := 1) (by decide) ?_
  refine r_iadd C dX1_addLine_18 ?_
  refine r_top (b := nI (nl + 1)) (nA rfl rfl) ?_
  refine r_put C clX1 dX1_addLine_19 0 3 rfl (by decide) q_61 rfl rfl rfl (nle rfl) (ws2 := [(h0, .inr (1, [.ref a1, .ref a2, .ref a3, .int (nI (nl + 1)), .int va, .int sg, .int (nI pr), .int sn, .int wk])), (a1, .inl (cI, 10, .inl (upd d nl 0)))]) rfl ?_
  refine r_aload_n C dX1_addLine_22 1 rfl ?_
  refine r_iconst C dX1_addLine_23 (v := 1) (by decide) ?_
  refine r_put C clX1 dX1_addLine_24 0 8 rfl (by decide) q_72 rfl (by decide) rfl (nle rfl) (ws2 := [(h0, .inr (1, [.ref a1, .ref a2, .ref a3, .int (nI (nl + 1)), .int va, .int sg, .int (nI pr), .int sn, .int 1])), (a1, .inl (cI, 10, .inl (upd d nl 0)))]) rfl ?_
  refine r_iload_n C dX1_addLine_27 0 rfl ?_
  exact r_iret C E dX1_addLine_28 (nle rfl) (nle rfl) ⟨rfl, rfl⟩
set_option maxHeartbeats 4000000 in
set_option maxRecDepth 100000 in
/-- wear() -/
theorem c_X1_wear (l : Launch) (D : va_G) (cI cR : ClassId) (h0 : Nat) (a1 : Nat) (a2 : Nat) (a3 : Nat) (d : Nat → Int32) (nl : Nat) (va : Int32) (sg : Int32) (pr : Nat) (sn : Int32) (wk : Int32) (hnl : nl ≤ 10) : Ctr l D cI cR yX1_wear cX1_wear 2 none ({ frames := 1, cells := 0, slots := 0, locals := 26 }) [.ref h0] [(h0, .inr (1, [.ref a1, .ref a2, .ref a3, .int (nI nl), .int va, .int sg, .int (nI pr), .int sn, .int wk])), (a1, .inl (cI, 10, .inl d))] (rP none [(h0, .inr (1, [.ref a1, .ref a2, .ref a3, .int (nI nl), .int va, .int sg, .int (nI pr), .int sn, .int wk])), (a1, .inl (cI, 10, .inl (weD d nl)))]) := by
  refine ctr_of (lv0 := [(0, .ref h0)]) (by decide) (nle rfl) rfl (fun G C E => ?_)
  refine r_iconst C dX1_wear_0 (v := 0) (by decide) ?_
  refine r_istore_n C dX1_wear_1 (lv2 := [(1, .int 0), (0, .ref h0)]) (by decide) rfl ?_
  have L_2 : ∀ (z i : Nat), i ≤ nl → nl < i + z → ∀ (f : Nat → Int32), f = weD d i → Wr G 0 0 2 [(1, .int (nI i)), (0, .ref h0)] [] [(h0, .inr (1, [.ref a1, .ref a2, .ref a3, .int (nI nl), .int va, .int sg, .int (nI pr), .int sn, .int wk])), (a1, .inl (cI, 10, .inl f))] := by
    intro z
    induction z with
    | zero => intro i h1 h2; exact absurd h2 (by omega)
    | succ z ih_2 =>
      intro i hi_2 hz_2 f e_f
      refine r_iload_n C dX1_wear_2 0 rfl ?_
      refine r_aload_n C dX1_wear_3 1 rfl ?_
      refine r_get C clX1 dX1_wear_4 0 3 rfl (by decide) q_61 rfl ?_
      refine r_icmp_ge C dX1_wear_7 (tgt := 34) (by decide) (fun c_1 => ?_) (fun c_1 => ?_)
      · have n_2 := (nI_leI (a := nl) (b := i) (by omega) (by omega)).mp c_1
        have ex_2 : nl = i := by omega
        subst ex_2
        subst e_f
        exact r_vret C E dX1_wear_34 (nle rfl) (nle rfl) ⟨rfl, rfl⟩
      · have n_2 := mt (nI_leI (a := nl) (b := i) (by omega) (by omega)).mpr c_1
        refine r_aload_n C dX1_wear_10 1 rfl ?_
        refine r_get C clX1 dX1_wear_11 0 0 rfl (by decide) q_55 rfl ?_
        refine r_iload_n C dX1_wear_14 0 rfl ?_
        refine r_iconst C dX1_wear_15 (v := 0) (by decide) ?_
        refine r_aload_n C dX1_wear_16 1 rfl ?_
        refine r_get C clX1 dX1_wear_17 0 0 rfl (by decide) q_55 rfl ?_
        refine r_iload_n C dX1_wear_20 0 rfl ?_
        refine r_iald C dX1_wear_21 1 rfl i rfl (by omega) (by decide) ?_
        refine r_iconst C dX1_wear_22 (v := 1) (by decide) ?_
        refine r_isub C dX1_wear_23 ?_
        refine r_mmax C dX1_wear_24 q_217 (nle rfl) (nle rfl) (nle rfl) (nle rfl) ?_
        refine r_iast C dX1_wear_27 1 rfl i rfl (by omega) (by decide) (ws2 := [(h0, .inr (1, [.ref a1, .ref a2, .ref a3, .int (nI nl), .int va, .int sg, .int (nI pr), .int sn, .int wk])), (a1, .inl (cI, 10, .inl (upd f i (if 0 < (f i) - 1 then (f i) - 1 else 0))))]) rfl ?_
        refine r_iinc C dX1_wear_28 0 rfl (v := nI (i + 1)) (nI_1 _) (by decide) (lv2 := [(1, .int (nI (i + 1))), (0, .ref h0)]) rfl ?_
        refine r_goto C dX1_wear_31 (tgt := 2) (by decide) ?_
        exact ih_2 (i + 1) (by omega) (by omega) _ (by subst e_f; rfl) 
  exact L_2 (nl + 1) 0 (by omega) (by omega) _ rfl 
set_option maxHeartbeats 4000000 in
set_option maxRecDepth 100000 in
/-- etch(minutes) -/
theorem c_X1_etch (l : Launch) (D : va_G) (cI cR : ClassId) (h0 : Nat) (a1 : Nat) (a2 : Nat) (a3 : Nat) (d : Nat → Int32) (nl : Nat) (va : Int32) (sg : Int32) (pr : Nat) (sn : Int32) (wk : Int32) (mi : Int32) (hnl : nl ≤ 10) : Ctr l D cI cR yX1_etch cX1_etch 5 ((some .int)) ({ frames := 1, cells := 0, slots := 0, locals := 26 }) [.ref h0, .int mi] [(h0, .inr (1, [.ref a1, .ref a2, .ref a3, .int (nI nl), .int va, .int sg, .int (nI pr), .int sn, .int wk])), (a1, .inl (cI, 10, .inl d))] (rP (some (.int (etC d va sg mi nl))) [(h0, .inr (1, [.ref a1, .ref a2, .ref a3, .int (nI nl), .int va, .int sg, .int (nI pr), .int sn, .int (if mi ≤ 0 then wk else 1)])), (a1, .inl (cI, 10, .inl (etD d va sg mi nl)))]) := by
  refine ctr_of (lv0 := [(0, .ref h0), (1, .int mi)]) (by decide) (nle rfl) rfl (fun G C E => ?_)
  refine r_iload_n C dX1_etch_0 1 rfl ?_
  have J_3 : ∀ (v_2 : Int32), v_2 = (if mi ≤ 0 then wk else 1) → Wr G 0 0 9 [(0, .ref h0), (1, .int mi)] [] [(h0, .inr (1, [.ref a1, .ref a2, .ref a3, .int (nI nl), .int va, .int sg, .int (nI pr), .int sn, .int v_2])), (a1, .inl (cI, 10, .inl d))] := by
    intro v_2 ev_2
    subst ev_2
    refine r_iconst C dX1_etch_9 (v := 0) (by decide) ?_
    refine r_istore_n C dX1_etch_10 (lv2 := [(2, .int 0), (0, .ref h0), (1, .int mi)]) (by decide) rfl ?_
    refine r_iconst C dX1_etch_11 (v := 0) (by decide) ?_
    refine r_istore_n C dX1_etch_12 (lv2 := [(3, .int 0), (2, .int 0), (0, .ref h0), (1, .int mi)]) (by decide) rfl ?_
    have L_13 : ∀ (z i : Nat), i ≤ nl → nl < i + z → ∀ (cn : Int32) (f : Nat → Int32), cn = etC d va sg mi i → f = etD d va sg mi i → Wr G 0 0 13 [(3, .int (nI i)), (2, .int cn), (0, .ref h0), (1, .int mi)] [] [(h0, .inr (1, [.ref a1, .ref a2, .ref a3, .int (nI nl), .int va, .int sg, .int (nI pr), .int sn, .int (if mi ≤ 0 then wk else 1)])), (a1, .inl (cI, 10, .inl f))] := by
      intro z
      induction z with
      | zero => intro i h1 h2; exact absurd h2 (by omega)
      | succ z ih_13 =>
        intro i hi_13 hz_13 cn f e_cn e_f
        refine r_iload_n C dX1_etch_13 0 rfl ?_
        refine r_aload_n C dX1_etch_14 2 rfl ?_
        refine r_get C clX1 dX1_etch_15 0 3 rfl (by decide) q_61 rfl ?_
        refine r_icmp_ge C dX1_etch_18 (tgt := 80) (by decide) (fun c_4 => ?_) (fun c_4 => ?_)
        · have n_5 := (nI_leI (a := nl) (b := i) (by omega) (by omega)).mp c_4
          have ex_13 : nl = i := by omega
          subst ex_13
          subst e_cn
          subst e_f
          refine r_iload_n C dX1_etch_80 1 rfl ?_
          exact r_iret C E dX1_etch_81 (nle rfl) (nle rfl) ⟨rfl, rfl⟩
        · have n_5 := mt (nI_leI (a := nl) (b := i) (by omega) (by omega)).mpr c_4
          refine r_aload_n C dX1_etch_21 2 rfl ?_
          refine r_get C clX1 dX1_etch_22 0 0 rfl (by decide) q_55 rfl ?_
          refine r_iload_n C dX1_etch_25 0 rfl ?_
          refine r_iald C dX1_etch_26 1 rfl i rfl (by omega) (by decide) ?_
          refine r_istore C dX1_etch_27 (lv2 := [(4, .int (f i)), (3, .int (nI i)), (2, .int cn), (0, .ref h0), (1, .int mi)]) (by decide) rfl ?_
          refine r_aload_n C dX1_etch_29 3 rfl ?_
          refine r_get C clX1 dX1_etch_30 0 4 rfl (by decide) q_64 rfl ?_
          refine r_iload_n C dX1_etch_33 1 rfl ?_
          refine r_callSN C (As := [.int va, .int (nI i)]) (rest := []) (wr := [(h0, .inr (1, [.ref a1, .ref a2, .ref a3, .int (nI nl), .int va, .int sg, .int (nI pr), .int sn, .int (if mi ≤ 0 then wk else 1)])), (a1, .inl (cI, 10, .inl f))]) (c_X2_contains l D cI cR va (nI i) ) k_X2_contains rfl dX1_etch_34 "EtchedPlate" (fun U h => h.2.2.1) q_180 ⟨nle rfl, nle rfl⟩ [] [0, 1] rfl rfl rfl rfl (by decide) rfl (nle rfl) ⟨nle rfl, nle rfl⟩ (r_fin (st2 := [.int (ctF va (nI i))]) (ws2 := [(h0, .inr (1, [.ref a1, .ref a2, .ref a3, .int (nI nl), .int va, .int sg, .int (nI pr), .int sn, .int (if mi ≤ 0 then wk else 1)])), (a1, .inl (cI, 10, .inl f))]) rfl rfl ?_)
          have J_8 : ∀ (f_7 : Nat → Int32), f_7 = (if (ctF va (nI i)) = 0 then (upd f i (if (f i) + (sg * mi) < 99 then (f i) + (sg * mi) else 99)) else f) → Wr G 0 0 60 [(4, .int (f i)), (3, .int (nI i)), (2, .int cn), (0, .ref h0), (1, .int mi)] [] [(h0, .inr (1, [.ref a1, .ref a2, .ref a3, .int (nI nl), .int va, .int sg, .int (nI pr), .int sn, .int (if mi ≤ 0 then wk else 1)])), (a1, .inl (cI, 10, .inl f_7))] := by
            intro f_7 ef_7
            subst ef_7
            refine r_aload_n C dX1_etch_60 3 rfl ?_
            refine r_get C clX1 dX1_etch_61 0 0 rfl (by decide) q_55 rfl ?_
            refine r_iload_n C dX1_etch_64 1 rfl ?_
            refine r_iald C dX1_etch_65 1 rfl i rfl (by omega) (by decide) ?_
            refine r_iload C dX1_etch_66 0 rfl ?_
            have J_11 : ∀ (v_10 : Int32), v_10 = (if ((if (ctF va (nI i)) = 0 then (upd f i (if (f i) + (sg * mi) < 99 then (f i) + (sg * mi) else 99)) else f) i) ≤ (f i) then cn else (cn + 1)) → Wr G 0 0 74 [(4, .int (f i)), (3, .int (nI i)), (2, .int v_10), (0, .ref h0), (1, .int mi)] [] [(h0, .inr (1, [.ref a1, .ref a2, .ref a3, .int (nI nl), .int va, .int sg, .int (nI pr), .int sn, .int (if mi ≤ 0 then wk else 1)])), (a1, .inl (cI, 10, .inl (if (ctF va (nI i)) = 0 then (upd f i (if (f i) + (sg * mi) < 99 then (f i) + (sg * mi) else 99)) else f)))] := by
              intro v_10 ev_10
              subst ev_10
              refine r_iinc C dX1_etch_74 1 rfl (v := nI (i + 1)) (nI_1 _) (by decide) (lv2 := [(3, .int (nI (i + 1))), (4, .int (f i)), (2, .int (if ((if (ctF va (nI i)) = 0 then (upd f i (if (f i) + (sg * mi) < 99 then (f i) + (sg * mi) else 99)) else f) i) ≤ (f i) then cn else (cn + 1))), (0, .ref h0), (1, .int mi)]) rfl ?_
              refine r_goto C dX1_etch_77 (tgt := 13) (by decide) ?_
              refine r_lv [0, 2, 3, 4] (lv2 := [(3, .int (nI (i + 1))), (2, .int (if ((if (ctF va (nI i)) = 0 then (upd f i (if (f i) + (sg * mi) < 99 then (f i) + (sg * mi) else 99)) else f) i) ≤ (f i) then cn else (cn + 1))), (0, .ref h0), (1, .int mi)]) rfl ?_
              exact ih_13 (i + 1) (by omega) (by omega) _ _ (by subst e_cn; subst e_f; rfl) (by subst e_cn; subst e_f; rfl) 
            refine r_icmp_le C dX1_etch_68 (tgt := 74) (by decide) (fun c_9 => ?_) (fun c_9 => ?_)
            · exact J_11 _ (by first | rfl | simp only [if_pos c_9])
            · refine r_iinc C dX1_etch_71 2 rfl (v := cn + 1) rfl (by decide) (lv2 := [(2, .int (cn + 1)), (4, .int (f i)), (3, .int (nI i)), (0, .ref h0), (1, .int mi)]) rfl ?_
              refine r_lv [1, 2, 0, 3, 4] (lv2 := [(4, .int (f i)), (3, .int (nI i)), (2, .int (cn + 1)), (0, .ref h0), (1, .int mi)]) rfl ?_
              exact J_11 _ (by first | rfl | simp only [if_neg c_9])
          refine r_if_ne C dX1_etch_37 (tgt := 60) (by decide) (fun c_6 => ?_) (fun c_6 => ?_)
          · exact J_8 _ (by first | rfl | simp only [if_neg c_6])
          · refine r_aload_n C dX1_etch_40 3 rfl ?_
            refine r_get C clX1 dX1_etch_41 0 0 rfl (by decide) q_55 rfl ?_
            refine r_iload_n C dX1_etch_44 1 rfl ?_
            refine r_bipush C dX1_etch_45 (v := 99) (by decide) ?_
            refine r_iload C dX1_etch_47 0 rfl ?_
            refine r_aload_n C dX1_etch_49 3 rfl ?_
            refine r_get C clX1 dX1_etch_50 0 5 rfl (by decide) q_66 rfl ?_
            refine r_iload_n C dX1_etch_53 4 rfl ?_
            refine r_imul C dX1_etch_54 ?_
            refine r_iadd C dX1_etch_55 ?_
            refine r_mmin C dX1_etch_56 q_182 (nle rfl) (nle rfl) (nle rfl) (nle rfl) ?_
            refine r_iast C dX1_etch_59 1 rfl i rfl (by omega) (by decide) (ws2 := [(h0, .inr (1, [.ref a1, .ref a2, .ref a3, .int (nI nl), .int va, .int sg, .int (nI pr), .int sn, .int (if mi ≤ 0 then wk else 1)])), (a1, .inl (cI, 10, .inl (upd f i (if (f i) + (sg * mi) < 99 then (f i) + (sg * mi) else 99))))]) rfl ?_
            exact J_8 _ (by first | rfl | simp only [if_pos c_6])
    exact L_13 (nl + 1) 0 (by omega) (by omega) _ _ rfl rfl 
  refine r_if_le C dX1_etch_1 (tgt := 9) (by decide) (fun c_1 => ?_) (fun c_1 => ?_)
  · exact J_3 _ (by first | rfl | simp only [if_pos c_1])
  · refine r_aload_n C dX1_etch_4 0 rfl ?_
    refine r_iconst C dX1_etch_5 (v := 1) (by decide) ?_
    refine r_put C clX1 dX1_etch_6 0 8 rfl (by decide) q_72 rfl (by decide) rfl (nle rfl) (ws2 := [(h0, .inr (1, [.ref a1, .ref a2, .ref a3, .int (nI nl), .int va, .int sg, .int (nI pr), .int sn, .int 1])), (a1, .inl (cI, 10, .inl d))]) rfl ?_
    exact J_3 _ (by first | rfl | simp only [if_neg c_1])
set_option maxHeartbeats 4000000 in
set_option maxRecDepth 100000 in
/-- rubDown(line, amount) -/
theorem c_X1_rubDown (l : Launch) (D : va_G) (cI cR : ClassId) (h0 : Nat) (a1 : Nat) (a2 : Nat) (a3 : Nat) (d : Nat → Int32) (nl : Nat) (va : Int32) (sg : Int32) (pr : Nat) (sn : Int32) (wk : Int32) (li : Nat) (am : Int32) (hli : li < 10) : Ctr l D cI cR yX1_rubDown cX1_rubDown 3 ((some .int)) ({ frames := 1, cells := 0, slots := 0, locals := 26 }) [.ref h0, .int (nI li), .int am] [(h0, .inr (1, [.ref a1, .ref a2, .ref a3, .int (nI nl), .int va, .int sg, .int (nI pr), .int sn, .int wk])), (a1, .inl (cI, 10, .inl d))] (rP (some (.int (if 0 < d li - am then d li - am else 0))) [(h0, .inr (1, [.ref a1, .ref a2, .ref a3, .int (nI nl), .int va, .int sg, .int (nI pr), .int sn, .int 1])), (a1, .inl (cI, 10, .inl (upd d li (if 0 < d li - am then d li - am else 0))))]) := by
  refine ctr_of (lv0 := [(0, .ref h0), (1, .int (nI li)), (2, .int am)]) (by decide) (nle rfl) rfl (fun G C E => ?_)
  refine r_aload_n C dX1_rubDown_0 0 rfl ?_
  refine r_get C clX1 dX1_rubDown_1 0 0 rfl (by decide) q_55 rfl ?_
  refine r_iload_n C dX1_rubDown_4 1 rfl ?_
  refine r_iconst C dX1_rubDown_5 (v := 0) (by decide) ?_
  refine r_aload_n C dX1_rubDown_6 0 rfl ?_
  refine r_get C clX1 dX1_rubDown_7 0 0 rfl (by decide) q_55 rfl ?_
  refine r_iload_n C dX1_rubDown_10 1 rfl ?_
  refine r_iald C dX1_rubDown_11 1 rfl li rfl (by omega) (by decide) ?_
  refine r_iload_n C dX1_rubDown_12 2 rfl ?_
  refine r_isub C dX1_rubDown_13 ?_
  refine r_mmax C dX1_rubDown_14 q_217 (nle rfl) (nle rfl) (nle rfl) (nle rfl) ?_
  refine r_iast C dX1_rubDown_17 1 rfl li rfl (by omega) (by decide) (ws2 := [(h0, .inr (1, [.ref a1, .ref a2, .ref a3, .int (nI nl), .int va, .int sg, .int (nI pr), .int sn, .int wk])), (a1, .inl (cI, 10, .inl (upd d li (if 0 < (d li) - am then (d li) - am else 0))))]) rfl ?_
  refine r_aload_n C dX1_rubDown_18 0 rfl ?_
  refine r_iconst C dX1_rubDown_19 (v := 1) (by decide) ?_
  refine r_put C clX1 dX1_rubDown_20 0 8 rfl (by decide) q_72 rfl (by decide) rfl (nle rfl) (ws2 := [(h0, .inr (1, [.ref a1, .ref a2, .ref a3, .int (nI nl), .int va, .int sg, .int (nI pr), .int sn, .int 1])), (a1, .inl (cI, 10, .inl (upd d li (if 0 < (d li) - am then (d li) - am else 0))))]) rfl ?_
  refine r_aload_n C dX1_rubDown_23 0 rfl ?_
  refine r_get C clX1 dX1_rubDown_24 0 0 rfl (by decide) q_55 rfl ?_
  refine r_iload_n C dX1_rubDown_27 1 rfl ?_
  refine r_iald C dX1_rubDown_28 1 rfl li rfl (by omega) (by decide) ?_
  refine r_top (b := (if 0 < (d li) - am then (d li) - am else 0)) pk_us ?_
  exact r_iret C E dX1_rubDown_29 (nle rfl) (nle rfl) ⟨rfl, rfl⟩
set_option maxHeartbeats 4000000 in
set_option maxRecDepth 100000 in
/-- depthSum() -/
theorem c_X1_depthSum (l : Launch) (D : va_G) (cI cR : ClassId) (h0 : Nat) (a1 : Nat) (a2 : Nat) (a3 : Nat) (d : Nat → Int32) (nl : Nat) (va : Int32) (sg : Int32) (pr : Nat) (sn : Int32) (wk : Int32) (hnl : nl ≤ 10) : Ctr l D cI cR yX1_depthSum cX1_depthSum 3 ((some .int)) ({ frames := 0, cells := 0, slots := 0, locals := 0 }) [.ref h0] [(h0, .inr (1, [.ref a1, .ref a2, .ref a3, .int (nI nl), .int va, .int sg, .int (nI pr), .int sn, .int wk])), (a1, .inl (cI, 10, .inl d))] (rP (some (.int (dsF d nl))) [(h0, .inr (1, [.ref a1, .ref a2, .ref a3, .int (nI nl), .int va, .int sg, .int (nI pr), .int sn, .int wk])), (a1, .inl (cI, 10, .inl d))]) := by
  refine ctr_of (lv0 := [(0, .ref h0)]) (by decide) (nle rfl) rfl (fun G C E => ?_)
  refine r_iconst C dX1_depthSum_0 (v := 0) (by decide) ?_
  refine r_istore_n C dX1_depthSum_1 (lv2 := [(1, .int 0), (0, .ref h0)]) (by decide) rfl ?_
  refine r_iconst C dX1_depthSum_2 (v := 0) (by decide) ?_
  refine r_istore_n C dX1_depthSum_3 (lv2 := [(2, .int 0), (1, .int 0), (0, .ref h0)]) (by decide) rfl ?_
  have L_4 : ∀ (z i : Nat), i ≤ nl → nl < i + z → ∀ (sm : Int32), sm = dsF d i → Wr G 0 0 4 [(2, .int (nI i)), (1, .int sm), (0, .ref h0)] [] [(h0, .inr (1, [.ref a1, .ref a2, .ref a3, .int (nI nl), .int va, .int sg, .int (nI pr), .int sn, .int wk])), (a1, .inl (cI, 10, .inl d))] := by
    intro z
    induction z with
    | zero => intro i h1 h2; exact absurd h2 (by omega)
    | succ z ih_4 =>
      intro i hi_4 hz_4 sm e_sm
      refine r_iload_n C dX1_depthSum_4 0 rfl ?_
      refine r_aload_n C dX1_depthSum_5 2 rfl ?_
      refine r_get C clX1 dX1_depthSum_6 0 3 rfl (by decide) q_61 rfl ?_
      refine r_icmp_ge C dX1_depthSum_9 (tgt := 27) (by decide) (fun c_1 => ?_) (fun c_1 => ?_)
      · have n_2 := (nI_leI (a := nl) (b := i) (by omega) (by omega)).mp c_1
        have ex_4 : nl = i := by omega
        subst ex_4
        subst e_sm
        refine r_iload_n C dX1_depthSum_27 1 rfl ?_
        exact r_iret C E dX1_depthSum_28 (nle rfl) (nle rfl) ⟨rfl, rfl⟩
      · have n_2 := mt (nI_leI (a := nl) (b := i) (by omega) (by omega)).mpr c_1
        refine r_iload_n C dX1_depthSum_12 1 rfl ?_
        refine r_aload_n C dX1_depthSum_13 2 rfl ?_
        refine r_get C clX1 dX1_depthSum_14 0 0 rfl (by decide) q_55 rfl ?_
        refine r_iload_n C dX1_depthSum_17 0 rfl ?_
        refine r_iald C dX1_depthSum_18 1 rfl i rfl (by omega) (by decide) ?_
        refine r_iadd C dX1_depthSum_19 ?_
        refine r_istore_n C dX1_depthSum_20 (lv2 := [(1, .int (sm + (d i))), (2, .int (nI i)), (0, .ref h0)]) (by decide) rfl ?_
        refine r_iinc C dX1_depthSum_21 1 rfl (v := nI (i + 1)) (nI_1 _) (by decide) (lv2 := [(2, .int (nI (i + 1))), (1, .int (sm + (d i))), (0, .ref h0)]) rfl ?_
        refine r_goto C dX1_depthSum_24 (tgt := 4) (by decide) ?_
        exact ih_4 (i + 1) (by omega) (by omega) _ (by subst e_sm; rfl) 
  exact L_4 (nl + 1) 0 (by omega) (by omega) _ rfl 
set_option maxHeartbeats 4000000 in
set_option maxRecDepth 100000 in
/-- printedTone(print, line) -/
theorem c_X1_printedTone (l : Launch) (D : va_G) (cI cR : ClassId) (h0 : Nat) (a1 : Nat) (a2 : Nat) (a3 : Nat) (tn : Nat → Int32) (nl : Nat) (va : Int32) (sg : Int32) (pr : Nat) (sn : Int32) (wk : Int32) (pq : Nat) (li : Nat) (hpq : pq < 12) (hli : li < 10) : Ctr l D cI cR yX1_printedTone cX1_printedTone 3 ((some .int)) ({ frames := 0, cells := 0, slots := 0, locals := 0 }) [.ref h0, .int (nI pq), .int (nI li)] [(h0, .inr (1, [.ref a1, .ref a2, .ref a3, .int (nI nl), .int va, .int sg, .int (nI pr), .int sn, .int wk])), (a3, .inl (cI, 120, .inl tn))] (rP (some (.int (tn (pq * 10 + li)))) [(h0, .inr (1, [.ref a1, .ref a2, .ref a3, .int (nI nl), .int va, .int sg, .int (nI pr), .int sn, .int wk])), (a3, .inl (cI, 120, .inl tn))]) := by
  refine ctr_of (lv0 := [(0, .ref h0), (1, .int (nI pq)), (2, .int (nI li))]) (by decide) (nle rfl) rfl (fun G C E => ?_)
  refine r_aload_n C dX1_printedTone_0 0 rfl ?_
  refine r_get C clX1 dX1_printedTone_1 0 2 rfl (by decide) q_60 rfl ?_
  refine r_iload_n C dX1_printedTone_4 1 rfl ?_
  refine r_bipush C dX1_printedTone_5 (v := 10) (by decide) ?_
  refine r_imul C dX1_printedTone_7 ?_
  refine r_top (b := nI (pq * 10)) (nM rfl rfl) ?_
  refine r_iload_n C dX1_printedTone_8 2 rfl ?_
  refine r_iadd C dX1_printedTone_9 ?_
  refine r_top (b := nI (pq * 10 + li)) (nA rfl rfl) ?_
  refine r_iald C dX1_printedTone_10 1 rfl (pq * 10 + li) rfl (by omega) (by decide) ?_
  exact r_iret C E dX1_printedTone_11 (nle rfl) (nle rfl) ⟨rfl, rfl⟩
