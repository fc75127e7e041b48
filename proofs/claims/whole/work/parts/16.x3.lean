set_option maxHeartbeats 4000000 in
set_option maxRecDepth 100000 in
/-- within(v, low, high) -/
theorem c_X3_within (l : Launch) (D : va_G) (cI cR : ClassId) (vx : Int32) (ax : Int32) (bx : Int32)  : Ctr l D cI cR yX3_within cX3_within 3 ((some .boolean)) ({ frames := 0, cells := 0, slots := 0, locals := 0 }) [.int vx, .int ax, .int bx] [] (rP (some (.int (wiF vx ax bx))) []) := by
  refine ctr_of (lv0 := [(0, .int vx), (1, .int ax), (2, .int bx)]) (by decide) (nle rfl) rfl (fun G C E => ?_)
  refine r_iload_n C dX3_within_0 0 rfl ?_
  refine r_iload_n C dX3_within_1 1 rfl ?_
  have J_4 : ∀ (v_3 : Int32), v_3 = (if vx < ax then (0 : Int32) else (if bx < vx then (0 : Int32) else 1)) → Wr G 0 0 15 [(0, .int vx), (1, .int ax), (2, .int bx)] [.int v_3] [] := by
    intro v_3 ev_3
    subst ev_3
    exact r_zret C E dX3_within_15 (nle rfl) (nle rfl) wiN ⟨rfl, rfl⟩
  refine r_icmp_lt C dX3_within_2 (tgt := 14) (by decide) (fun c_1 => ?_) (fun c_1 => ?_)
  · refine r_iconst C dX3_within_14 (v := 0) (by decide) ?_
    exact J_4 _ (by first | rfl | simp only [if_pos c_1])
  · refine r_iload_n C dX3_within_5 0 rfl ?_
    refine r_iload_n C dX3_within_6 2 rfl ?_
    refine r_icmp_gt C dX3_within_7 (tgt := 14) (by decide) (fun c_2 => ?_) (fun c_2 => ?_)
    · refine r_iconst C dX3_within_14 (v := 0) (by decide) ?_
      exact J_4 _ (by first | rfl | simp only [if_neg c_1, if_pos c_2])
    · refine r_iconst C dX3_within_10 (v := 1) (by decide) ?_
      refine r_goto C dX3_within_11 (tgt := 15) (by decide) ?_
      exact J_4 _ (by first | rfl | simp only [if_neg c_1, if_neg c_2])
set_option maxHeartbeats 4000000 in
set_option maxRecDepth 100000 in
/-- ones(set) -/
theorem c_X3_ones (l : Launch) (D : va_G) (cI cR : ClassId) (vx : Int32)  : Ctr l D cI cR yX3_ones cX3_ones 3 ((some .int)) ({ frames := 0, cells := 0, slots := 0, locals := 0 }) [.int vx] [] (rP (some (.int (onF vx 12))) []) := by
  refine ctr_of (lv0 := [(0, .int vx)]) (by decide) (nle rfl) rfl (fun G C E => ?_)
  refine r_iconst C dX3_ones_0 (v := 0) (by decide) ?_
  refine r_istore_n C dX3_ones_1 (lv2 := [(1, .int 0), (0, .int vx)]) (by decide) rfl ?_
  refine r_iconst C dX3_ones_2 (v := 0) (by decide) ?_
  refine r_istore_n C dX3_ones_3 (lv2 := [(2, .int 0), (1, .int 0), (0, .int vx)]) (by decide) rfl ?_
  have L_4 : ∀ (z i : Nat), i ≤ 12 → 12 < i + z → ∀ (cn : Int32), cn = onF vx i → Wr G 0 0 4 [(2, .int (nI i)), (1, .int cn), (0, .int vx)] [] [] := by
    intro z
    induction z with
    | zero => intro i h1 h2; exact absurd h2 (by omega)
    | succ z ih_4 =>
      intro i hi_4 hz_4 cn e_cn
      refine r_iload_n C dX3_ones_4 0 rfl ?_
      refine r_bipush C dX3_ones_5 (v := 12) (by decide) ?_
      refine r_icmp_ge C dX3_ones_7 (tgt := 24) (by decide) (fun c_1 => ?_) (fun c_1 => ?_)
      · have n_2 := (nI_leI (a := 12) (b := i) (by omega) (by omega)).mp c_1
        have ex_4 : i = 12 := by omega
        subst ex_4
        subst e_cn
        refine r_iload_n C dX3_ones_24 1 rfl ?_
        exact r_iret C E dX3_ones_25 (nle rfl) (nle rfl) ⟨rfl, rfl⟩
      · have n_2 := mt (nI_leI (a := 12) (b := i) (by omega) (by omega)).mpr c_1
        refine r_iload_n C dX3_ones_10 1 rfl ?_
        refine r_iload_n C dX3_ones_11 2 rfl ?_
        refine r_iload_n C dX3_ones_12 0 rfl ?_
        refine r_ishr C dX3_ones_13 ?_
        refine r_iconst C dX3_ones_14 (v := 1) (by decide) ?_
        refine r_iand C dX3_ones_15 ?_
        refine r_iadd C dX3_ones_16 ?_
        refine r_istore_n C dX3_ones_17 (lv2 := [(1, .int (cn + ((vx >>> (nI i &&& 31)) &&& 1))), (2, .int (nI i)), (0, .int vx)]) (by decide) rfl ?_
        refine r_iinc C dX3_ones_18 1 rfl (v := nI (i + 1)) (nI_1 _) (by decide) (lv2 := [(2, .int (nI (i + 1))), (1, .int (cn + ((vx >>> (nI i &&& 31)) &&& 1))), (0, .int vx)]) rfl ?_
        refine r_goto C dX3_ones_21 (tgt := 4) (by decide) ?_
        exact ih_4 (i + 1) (by omega) (by omega) _ (by subst e_cn; rfl) 
  exact L_4 (12 + 1) 0 (by omega) (by omega) _ rfl 
set_option maxHeartbeats 4000000 in
set_option maxRecDepth 100000 in
/-- fails(code) -/
theorem c_X3_fails (l : Launch) (D : va_G) (cI cR : ClassId) (m0 : Nat) (n0 : Nat) (q0 : Nat) (sv : Nat) (r0 : Nat) (t0 : Nat) (w0 : Nat) (u0 : Nat) (v0 : Nat) (y0 : Nat) (tm : Int32) (hs : Int64) (er : Nat → Int32) (cx : Int32) (j : Nat) (hj : -2 - cx = nI j) (hj4 : j < 4) : Ctr l D cI cR yX3_fails cX3_fails 2 ((some .int)) ({ frames := 0, cells := 0, slots := 0, locals := 0 }) [.ref m0, .int cx] [(m0, .inr (3, [.ref n0, .ref q0, .int (nI sv), .ref r0, .ref t0, .ref w0, .ref u0, .ref v0, .ref y0, .int tm, .long hs])), (r0, .inl (cI, 4, .inl er))] (rP (some (.int cx)) [(m0, .inr (3, [.ref n0, .ref q0, .int (nI sv), .ref r0, .ref t0, .ref w0, .ref u0, .ref v0, .ref y0, .int tm, .long hs])), (r0, .inl (cI, 4, .inl (upd er j (er j + 1))))]) := by
  refine ctr_of (lv0 := [(0, .ref m0), (1, .int cx)]) (by decide) (nle rfl) rfl (fun G C E => ?_)
  refine r_aload_n C dX3_fails_0 0 rfl ?_
  refine r_get C clX3 dX3_fails_1 0 3 rfl (by decide) q_402 rfl ?_
  refine r_bipush C dX3_fails_4 (v := (-2)) (by decide) ?_
  refine r_iload_n C dX3_fails_6 1 rfl ?_
  refine r_isub C dX3_fails_7 ?_
  refine r_top (b := nI j) hj ?_
  refine r_dup2 C dX3_fails_8 rfl rfl ?_
  refine r_iald C dX3_fails_9 1 rfl j rfl (by omega) (by decide) ?_
  refine r_iconst C dX3_fails_10 (v := 1) (by decide) ?_
  refine r_iadd C dX3_fails_11 ?_
  refine r_iast C dX3_fails_12 1 rfl j rfl (by omega) (by decide) (ws2 := [(m0, .inr (3, [.ref n0, .ref q0, .int (nI sv), .ref r0, .ref t0, .ref w0, .ref u0, .ref v0, .ref y0, .int tm, .long hs])), (r0, .inl (cI, 4, .inl (upd er j ((er j) + 1))))]) rfl ?_
  refine r_iload_n C dX3_fails_13 1 rfl ?_
  exact r_iret C E dX3_fails_14 (nle rfl) (nle rfl) ⟨rfl, rfl⟩
set_option maxHeartbeats 4000000 in
set_option maxRecDepth 100000 in
/-- isLine(line) -/
theorem c_X3_isLine (l : Launch) (D : va_G) (cI cR : ClassId) (m0 : Nat) (n0 : Nat) (q0 : Nat) (sv : Nat) (r0 : Nat) (t0 : Nat) (w0 : Nat) (u0 : Nat) (v0 : Nat) (y0 : Nat) (tm : Int32) (hs : Int64) (nw : Nat → Int32) (nl : Nat) (li : Int32) (e0 : nw 0 = nI nl) : Ctr l D cI cR yX3_isLine cX3_isLine 2 ((some .boolean)) ({ frames := 1, cells := 0, slots := 0, locals := 22 }) [.ref m0, .int li] [(m0, .inr (3, [.ref n0, .ref q0, .int (nI sv), .ref r0, .ref t0, .ref w0, .ref u0, .ref v0, .ref y0, .int tm, .long hs])), (n0, .inl (cI, 148, .inl nw))] (rP (some (.int (wiF li 0 (nI nl - 1)))) [(m0, .inr (3, [.ref n0, .ref q0, .int (nI sv), .ref r0, .ref t0, .ref w0, .ref u0, .ref v0, .ref y0, .int tm, .long hs])), (n0, .inl (cI, 148, .inl nw))]) := by
  refine ctr_of (lv0 := [(0, .ref m0), (1, .int li)]) (by decide) (nle rfl) rfl (fun G C E => ?_)
  refine r_iload_n C dX3_isLine_0 1 rfl ?_
  refine r_iconst C dX3_isLine_1 (v := 0) (by decide) ?_
  refine r_aload_n C dX3_isLine_2 0 rfl ?_
  refine r_get C clX3 dX3_isLine_3 0 0 rfl (by decide) q_399 rfl ?_
  refine r_iconst C dX3_isLine_6 (v := 0) (by decide) ?_
  refine r_iald C dX3_isLine_7 1 rfl 0 rfl (by decide) (by decide) ?_
  refine r_top (b := nI nl) e0 ?_
  refine r_iconst C dX3_isLine_8 (v := 1) (by decide) ?_
  refine r_isub C dX3_isLine_9 ?_
  refine r_callS C (As := [.int li, .int 0, .int ((nI nl) - 1)]) (rest := []) (wr := [(m0, .inr (3, [.ref n0, .ref q0, .int (nI sv), .ref r0, .ref t0, .ref w0, .ref u0, .ref v0, .ref y0, .int tm, .long hs])), (n0, .inl (cI, 148, .inl nw))]) (c_X3_within l D cI cR li 0 ((nI nl) - 1) ) k_X3_within rfl dX3_isLine_10 q_453 q_454 ⟨nle rfl, nle rfl⟩ [] [0, 1] rfl rfl rfl rfl (by decide) rfl (nle rfl) ⟨nle rfl, nle rfl⟩ (r_fin (st2 := [.int (wiF li 0 ((nI nl) - 1))]) (ws2 := [(m0, .inr (3, [.ref n0, .ref q0, .int (nI sv), .ref r0, .ref t0, .ref w0, .ref u0, .ref v0, .ref y0, .int tm, .long hs])), (n0, .inl (cI, 148, .inl nw))]) rfl rfl ?_)
  exact r_zret C E dX3_isLine_13 (nle rfl) (nle rfl) wiN ⟨rfl, rfl⟩
set_option maxHeartbeats 4000000 in
set_option maxRecDepth 100000 in
/-- isPrint(print) -/
theorem c_X3_isPrint (l : Launch) (D : va_G) (cI cR : ClassId) (m0 : Nat) (n0 : Nat) (q0 : Nat) (sv : Nat) (r0 : Nat) (t0 : Nat) (w0 : Nat) (u0 : Nat) (v0 : Nat) (y0 : Nat) (tm : Int32) (hs : Int64) (nw : Nat → Int32) (pr : Nat) (li : Int32) (e4 : nw 4 = nI pr) : Ctr l D cI cR yX3_isPrint cX3_isPrint 2 ((some .boolean)) ({ frames := 1, cells := 0, slots := 0, locals := 22 }) [.ref m0, .int li] [(m0, .inr (3, [.ref n0, .ref q0, .int (nI sv), .ref r0, .ref t0, .ref w0, .ref u0, .ref v0, .ref y0, .int tm, .long hs])), (n0, .inl (cI, 148, .inl nw))] (rP (some (.int (wiF li 0 (nI pr - 1)))) [(m0, .inr (3, [.ref n0, .ref q0, .int (nI sv), .ref r0, .ref t0, .ref w0, .ref u0, .ref v0, .ref y0, .int tm, .long hs])), (n0, .inl (cI, 148, .inl nw))]) := by
  refine ctr_of (lv0 := [(0, .ref m0), (1, .int li)]) (by decide) (nle rfl) rfl (fun G C E => ?_)
  refine r_iload_n C dX3_isPrint_0 1 rfl ?_
  refine r_iconst C dX3_isPrint_1 (v := 0) (by decide) ?_
  refine r_aload_n C dX3_isPrint_2 0 rfl ?_
  refine r_get C clX3 dX3_isPrint_3 0 0 rfl (by decide) q_399 rfl ?_
  refine r_iconst C dX3_isPrint_6 (v := 4) (by decide) ?_
  refine r_iald C dX3_isPrint_7 1 rfl 4 rfl (by decide) (by decide) ?_
  refine r_top (b := nI pr) e4 ?_
  refine r_iconst C dX3_isPrint_8 (v := 1) (by decide) ?_
  refine r_isub C dX3_isPrint_9 ?_
  refine r_callS C (As := [.int li, .int 0, .int ((nI pr) - 1)]) (rest := []) (wr := [(m0, .inr (3, [.ref n0, .ref q0, .int (nI sv), .ref r0, .ref t0, .ref w0, .ref u0, .ref v0, .ref y0, .int tm, .long hs])), (n0, .inl (cI, 148, .inl nw))]) (c_X3_within l D cI cR li 0 ((nI pr) - 1) ) k_X3_within rfl dX3_isPrint_10 q_453 q_454 ⟨nle rfl, nle rfl⟩ [] [0, 1] rfl rfl rfl rfl (by decide) rfl (nle rfl) ⟨nle rfl, nle rfl⟩ (r_fin (st2 := [.int (wiF li 0 ((nI pr) - 1))]) (ws2 := [(m0, .inr (3, [.ref n0, .ref q0, .int (nI sv), .ref r0, .ref t0, .ref w0, .ref u0, .ref v0, .ref y0, .int tm, .long hs])), (n0, .inl (cI, 148, .inl nw))]) rfl rfl ?_)
  exact r_zret C E dX3_isPrint_13 (nle rfl) (nle rfl) wiN ⟨rfl, rfl⟩
set_option maxHeartbeats 4000000 in
set_option maxRecDepth 100000 in
/-- saves() -/
theorem c_X3_saves (l : Launch) (D : va_G) (cI cR : ClassId) (m0 : Nat) (n0 : Nat) (q0 : Nat) (sv : Nat) (r0 : Nat) (t0 : Nat) (w0 : Nat) (u0 : Nat) (v0 : Nat) (y0 : Nat) (tm : Int32) (hs : Int64) (nw : Nat → Int32) (ps : Nat → Int32) (hsv : sv ≤ 5) : Ctr l D cI cR yX3_saves cX3_saves 2 none ({ frames := 0, cells := 0, slots := 0, locals := 0 }) [.ref m0] [(m0, .inr (3, [.ref n0, .ref q0, .int (nI sv), .ref r0, .ref t0, .ref w0, .ref u0, .ref v0, .ref y0, .int tm, .long hs])), (n0, .inl (cI, 148, .inl nw)), (q0, .inl (cI, 740, .inl ps))] (rP none [(m0, .inr (3, [.ref n0, .ref q0, .int (nI (svC sv)), .ref r0, .ref t0, .ref w0, .ref u0, .ref v0, .ref y0, .int tm, .long hs])), (n0, .inl (cI, 148, .inl nw)), (q0, .inl (cI, 740, .inl (svQ sv nw ps)))]) := by
  refine ctr_of (lv0 := [(0, .ref m0)]) (by decide) (nle rfl) rfl (fun G C E => ?_)
  refine r_aload_n C dX3_saves_0 0 rfl ?_
  refine r_get C clX3 dX3_saves_1 0 2 rfl (by decide) q_401 rfl ?_
  refine r_iconst C dX3_saves_4 (v := 5) (by decide) ?_
  refine r_icmp_ne C dX3_saves_5 (tgt := 49) (by decide) (fun h5 => ?_) (fun h5 => ?_)
  · have nh5 := mt (nI_eq (a := sv) (b := 5) (by omega) (by omega)).mpr h5
    refine r_iconst C dX3_saves_49 (v := 0) (by decide) ?_
    refine r_istore_n C dX3_saves_50 (lv2 := [(1, .int 0), (0, .ref m0)]) (by decide) rfl ?_
    have L_51 : ∀ (z i : Nat), i ≤ 148 → 148 < i + z → ∀ (g : Nat → Int32), g = cpQ ps sv nw i → Wr G 0 0 51 [(1, .int (nI i)), (0, .ref m0)] [] [(m0, .inr (3, [.ref n0, .ref q0, .int (nI sv), .ref r0, .ref t0, .ref w0, .ref u0, .ref v0, .ref y0, .int tm, .long hs])), (n0, .inl (cI, 148, .inl nw)), (q0, .inl (cI, 740, .inl g))] := by
      intro z
      induction z with
      | zero => intro i h1 h2; exact absurd h2 (by omega)
      | succ z ih_51 =>
        intro i hi_51 hz_51 g e_g
        refine r_iload_n C dX3_saves_51 0 rfl ?_
        refine r_sipush C dX3_saves_52 (v := 148) (by decide) ?_
        refine r_icmp_ge C dX3_saves_55 (tgt := 85) (by decide) (fun c_1 => ?_) (fun c_1 => ?_)
        · have n_2 := (nI_leI (a := 148) (b := i) (by omega) (by omega)).mp c_1
          have ex_51 : i = 148 := by omega
          subst ex_51
          subst e_g
          refine r_aload_n C dX3_saves_85 1 rfl ?_
          refine r_dup C dX3_saves_86 rfl ?_
          refine r_get C clX3 dX3_saves_87 0 2 rfl (by decide) q_401 rfl ?_
          refine r_iconst C dX3_saves_90 (v := 1) (by decide) ?_
          refine r_iadd C dX3_saves_91 ?_
          refine r_top (b := nI (sv + 1)) (nA rfl rfl) ?_
          refine r_put C clX3 dX3_saves_92 0 2 rfl (by decide) q_401 rfl rfl rfl (nle rfl) (ws2 := [(m0, .inr (3, [.ref n0, .ref q0, .int (nI (sv + 1)), .ref r0, .ref t0, .ref w0, .ref u0, .ref v0, .ref y0, .int tm, .long hs])), (n0, .inl (cI, 148, .inl nw)), (q0, .inl (cI, 740, .inl (cpQ ps sv nw 148)))]) rfl ?_
          exact r_vret C E dX3_saves_95 (nle rfl) (nle rfl) ⟨rfl, by first | rfl | simp only [svQ, svC, if_neg nh5]⟩
        · have n_2 := mt (nI_leI (a := 148) (b := i) (by omega) (by omega)).mpr c_1
          refine r_aload_n C dX3_saves_58 1 rfl ?_
          refine r_get C clX3 dX3_saves_59 0 1 rfl (by decide) q_400 rfl ?_
          refine r_sipush C dX3_saves_62 (v := 148) (by decide) ?_
          refine r_aload_n C dX3_saves_65 1 rfl ?_
          refine r_get C clX3 dX3_saves_66 0 2 rfl (by decide) q_401 rfl ?_
          refine r_imul C dX3_saves_69 ?_
          refine r_top (b := nI (148 * sv)) (nM rfl rfl) ?_
          refine r_iload_n C dX3_saves_70 0 rfl ?_
          refine r_iadd C dX3_saves_71 ?_
          refine r_top (b := nI (148 * sv + i)) (nA rfl rfl) ?_
          refine r_aload_n C dX3_saves_72 1 rfl ?_
          refine r_get C clX3 dX3_saves_73 0 0 rfl (by decide) q_399 rfl ?_
          refine r_iload_n C dX3_saves_76 0 rfl ?_
          refine r_iald C dX3_saves_77 1 rfl i rfl (by omega) (by decide) ?_
          refine r_iast C dX3_saves_78 2 rfl (148 * sv + i) rfl (by omega) (by decide) (ws2 := [(m0, .inr (3, [.ref n0, .ref q0, .int (nI sv), .ref r0, .ref t0, .ref w0, .ref u0, .ref v0, .ref y0, .int tm, .long hs])), (n0, .inl (cI, 148, .inl nw)), (q0, .inl (cI, 740, .inl (upd g (148 * sv + i) (nw i))))]) rfl ?_
          refine r_iinc C dX3_saves_79 0 rfl (v := nI (i + 1)) (nI_1 _) (by decide) (lv2 := [(1, .int (nI (i + 1))), (0, .ref m0)]) rfl ?_
          refine r_goto C dX3_saves_82 (tgt := 51) (by decide) ?_
          exact ih_51 (i + 1) (by omega) (by omega) _ (by subst e_g; rfl) 
    exact L_51 (148 + 1) 0 (by omega) (by omega) _ rfl 
  · have nh5 := (nI_eq (a := sv) (b := 5) (by omega) (by omega)).mp h5
    subst nh5
    refine r_iconst C dX3_saves_8 (v := 0) (by decide) ?_
    refine r_istore_n C dX3_saves_9 (lv2 := [(1, .int 0), (0, .ref m0)]) (by decide) rfl ?_
    have L_10 : ∀ (z i : Nat), i ≤ 592 → 592 < i + z → ∀ (f : Nat → Int32), f = shQ ps i → Wr G 0 0 10 [(1, .int (nI i)), (0, .ref m0)] [] [(m0, .inr (3, [.ref n0, .ref q0, .int (nI 5), .ref r0, .ref t0, .ref w0, .ref u0, .ref v0, .ref y0, .int tm, .long hs])), (n0, .inl (cI, 148, .inl nw)), (q0, .inl (cI, 740, .inl f))] := by
      intro z
      induction z with
      | zero => intro i h1 h2; exact absurd h2 (by omega)
      | succ z ih_10 =>
        intro i hi_10 hz_10 f e_f
        refine r_iload_n C dX3_saves_10 0 rfl ?_
        refine r_sipush C dX3_saves_11 (v := 592) (by decide) ?_
        refine r_icmp_ge C dX3_saves_14 (tgt := 39) (by decide) (fun c_3 => ?_) (fun c_3 => ?_)
        · have n_4 := (nI_leI (a := 592) (b := i) (by omega) (by omega)).mp c_3
          have ex_10 : i = 592 := by omega
          subst ex_10
          subst e_f
          refine r_aload_n C dX3_saves_39 1 rfl ?_
          refine r_dup C dX3_saves_40 rfl ?_
          refine r_get C clX3 dX3_saves_41 0 2 rfl (by decide) q_401 rfl ?_
          refine r_iconst C dX3_saves_44 (v := 1) (by decide) ?_
          refine r_isub C dX3_saves_45 ?_
          refine r_top (b := nI 4) (by decide) ?_
          refine r_put C clX3 dX3_saves_46 0 2 rfl (by decide) q_401 rfl rfl rfl (nle rfl) (ws2 := [(m0, .inr (3, [.ref n0, .ref q0, .int (nI 4), .ref r0, .ref t0, .ref w0, .ref u0, .ref v0, .ref y0, .int tm, .long hs])), (n0, .inl (cI, 148, .inl nw)), (q0, .inl (cI, 740, .inl (shQ ps 592)))]) rfl ?_
          refine r_iconst C dX3_saves_49 (v := 0) (by decide) ?_
          refine r_istore_n C dX3_saves_50 (lv2 := [(1, .int 0), (0, .ref m0)]) (by decide) rfl ?_
          have L_51 : ∀ (z i : Nat), i ≤ 148 → 148 < i + z → ∀ (g : Nat → Int32), g = cpQ (shQ ps 592) 4 nw i → Wr G 0 0 51 [(1, .int (nI i)), (0, .ref m0)] [] [(m0, .inr (3, [.ref n0, .ref q0, .int (nI 4), .ref r0, .ref t0, .ref w0, .ref u0, .ref v0, .ref y0, .int tm, .long hs])), (n0, .inl (cI, 148, .inl nw)), (q0, .inl (cI, 740, .inl g))] := by
            intro z
            induction z with
            | zero => intro i h1 h2; exact absurd h2 (by omega)
            | succ z ih_51 =>
              intro i hi_51 hz_51 g e_g
              refine r_iload_n C dX3_saves_51 0 rfl ?_
              refine r_sipush C dX3_saves_52 (v := 148) (by decide) ?_
              refine r_icmp_ge C dX3_saves_55 (tgt := 85) (by decide) (fun c_5 => ?_) (fun c_5 => ?_)
              · have n_6 := (nI_leI (a := 148) (b := i) (by omega) (by omega)).mp c_5
                have ex_51 : i = 148 := by omega
                subst ex_51
                subst e_g
                refine r_aload_n C dX3_saves_85 1 rfl ?_
                refine r_dup C dX3_saves_86 rfl ?_
                refine r_get C clX3 dX3_saves_87 0 2 rfl (by decide) q_401 rfl ?_
                refine r_iconst C dX3_saves_90 (v := 1) (by decide) ?_
                refine r_iadd C dX3_saves_91 ?_
                refine r_top (b := nI 5) (nA rfl rfl) ?_
                refine r_put C clX3 dX3_saves_92 0 2 rfl (by decide) q_401 rfl rfl rfl (nle rfl) (ws2 := [(m0, .inr (3, [.ref n0, .ref q0, .int (nI 5), .ref r0, .ref t0, .ref w0, .ref u0, .ref v0, .ref y0, .int tm, .long hs])), (n0, .inl (cI, 148, .inl nw)), (q0, .inl (cI, 740, .inl (cpQ (shQ ps 592) 4 nw 148)))]) rfl ?_
                exact r_vret C E dX3_saves_95 (nle rfl) (nle rfl) ⟨rfl, by first | rfl | simp only [svQ, svC, if_neg nh5]⟩
              · have n_6 := mt (nI_leI (a := 148) (b := i) (by omega) (by omega)).mpr c_5
                refine r_aload_n C dX3_saves_58 1 rfl ?_
                refine r_get C clX3 dX3_saves_59 0 1 rfl (by decide) q_400 rfl ?_
                refine r_sipush C dX3_saves_62 (v := 148) (by decide) ?_
                refine r_aload_n C dX3_saves_65 1 rfl ?_
                refine r_get C clX3 dX3_saves_66 0 2 rfl (by decide) q_401 rfl ?_
                refine r_imul C dX3_saves_69 ?_
                refine r_top (b := nI (148 * 4)) (nM rfl rfl) ?_
                refine r_iload_n C dX3_saves_70 0 rfl ?_
                refine r_iadd C dX3_saves_71 ?_
                refine r_top (b := nI (148 * 4 + i)) (nA rfl rfl) ?_
                refine r_aload_n C dX3_saves_72 1 rfl ?_
                refine r_get C clX3 dX3_saves_73 0 0 rfl (by decide) q_399 rfl ?_
                refine r_iload_n C dX3_saves_76 0 rfl ?_
                refine r_iald C dX3_saves_77 1 rfl i rfl (by omega) (by decide) ?_
                refine r_iast C dX3_saves_78 2 rfl (148 * 4 + i) rfl (by omega) (by decide) (ws2 := [(m0, .inr (3, [.ref n0, .ref q0, .int (nI 4), .ref r0, .ref t0, .ref w0, .ref u0, .ref v0, .ref y0, .int tm, .long hs])), (n0, .inl (cI, 148, .inl nw)), (q0, .inl (cI, 740, .inl (upd g (148 * 4 + i) (nw i))))]) rfl ?_
                refine r_iinc C dX3_saves_79 0 rfl (v := nI (i + 1)) (nI_1 _) (by decide) (lv2 := [(1, .int (nI (i + 1))), (0, .ref m0)]) rfl ?_
                refine r_goto C dX3_saves_82 (tgt := 51) (by decide) ?_
                exact ih_51 (i + 1) (by omega) (by omega) _ (by subst e_g; rfl) 
          exact L_51 (148 + 1) 0 (by omega) (by omega) _ rfl 
        · have n_4 := mt (nI_leI (a := 592) (b := i) (by omega) (by omega)).mpr c_3
          refine r_aload_n C dX3_saves_17 1 rfl ?_
          refine r_get C clX3 dX3_saves_18 0 1 rfl (by decide) q_400 rfl ?_
          refine r_iload_n C dX3_saves_21 0 rfl ?_
          refine r_aload_n C dX3_saves_22 1 rfl ?_
          refine r_get C clX3 dX3_saves_23 0 1 rfl (by decide) q_400 rfl ?_
          refine r_iload_n C dX3_saves_26 0 rfl ?_
          refine r_sipush C dX3_saves_27 (v := 148) (by decide) ?_
          refine r_iadd C dX3_saves_30 ?_
          refine r_top (b := nI (i + 148)) (nA rfl rfl) ?_
          refine r_iald C dX3_saves_31 2 rfl (i + 148) rfl (by omega) (by decide) ?_
          refine r_iast C dX3_saves_32 2 rfl i rfl (by omega) (by decide) (ws2 := [(m0, .inr (3, [.ref n0, .ref q0, .int (nI 5), .ref r0, .ref t0, .ref w0, .ref u0, .ref v0, .ref y0, .int tm, .long hs])), (n0, .inl (cI, 148, .inl nw)), (q0, .inl (cI, 740, .inl (upd f i (f (i + 148)))))]) rfl ?_
          refine r_iinc C dX3_saves_33 0 rfl (v := nI (i + 1)) (nI_1 _) (by decide) (lv2 := [(1, .int (nI (i + 1))), (0, .ref m0)]) rfl ?_
          refine r_goto C dX3_saves_36 (tgt := 10) (by decide) ?_
          exact ih_10 (i + 1) (by omega) (by omega) _ (by subst e_f; rfl) 
    exact L_10 (592 + 1) 0 (by omega) (by omega) _ rfl 
set_option maxHeartbeats 4000000 in
set_option maxRecDepth 100000 in
/-- undo(), nothing saved -/
theorem c_X3_undo_no (l : Launch) (D : va_G) (cI cR : ClassId) (m0 : Nat) (n0 : Nat) (q0 : Nat) (sv : Nat) (r0 : Nat) (t0 : Nat) (w0 : Nat) (u0 : Nat) (v0 : Nat) (y0 : Nat) (tm : Int32) (hs : Int64) (er : Nat → Int32) (hsv : sv = 0) : Ctr l D cI cR yX3_undo cX3_undo 2 ((some .int)) ({ frames := 1, cells := 0, slots := 0, locals := 21 }) [.ref m0] [(m0, .inr (3, [.ref n0, .ref q0, .int (nI sv), .ref r0, .ref t0, .ref w0, .ref u0, .ref v0, .ref y0, .int tm, .long hs])), (r0, .inl (cI, 4, .inl er))] (rP (some (.int (-5))) [(m0, .inr (3, [.ref n0, .ref q0, .int (nI sv), .ref r0, .ref t0, .ref w0, .ref u0, .ref v0, .ref y0, .int tm, .long hs])), (r0, .inl (cI, 4, .inl (upd er 3 (er 3 + 1))))]) := by
  refine ctr_of (lv0 := [(0, .ref m0)]) (by decide) (nle rfl) rfl (fun G C E => ?_)
  refine r_aload_n C dX3_undo_0 0 rfl ?_
  refine r_get C clX3 dX3_undo_1 0 2 rfl (by decide) q_401 rfl ?_
  refine r_if_ne C dX3_undo_4 (tgt := 14) (by decide) (fun c_1 => ?_) (fun c_1 => ?_)
  · exact absurd (by rw [hsv]; rfl) c_1
  · refine r_aload_n C dX3_undo_7 0 rfl ?_
    refine r_bipush C dX3_undo_8 (v := (-5)) (by decide) ?_
    refine r_callV C (As := [.int (-5)]) (rest := []) (wr := []) (c_X3_fails l D cI cR m0 n0 q0 sv r0 t0 w0 u0 v0 y0 tm hs er (-5) 3 (by decide) (by decide)) k_X3_fails rfl dX3_undo_10 q_437 q_439 q_14 ⟨nle rfl, nle rfl⟩ [0, 1] [] rfl rfl rfl rfl (by decide) 0 rfl rfl rfl (nle rfl) ⟨nle rfl, nle rfl⟩ (r_fin (st2 := [.int (-5)]) (ws2 := [(m0, .inr (3, [.ref n0, .ref q0, .int (nI sv), .ref r0, .ref t0, .ref w0, .ref u0, .ref v0, .ref y0, .int tm, .long hs])), (r0, .inl (cI, 4, .inl (upd er 3 (er 3 + 1))))]) rfl rfl ?_)
    exact r_iret C E dX3_undo_13 (nle rfl) (nle rfl) ⟨rfl, rfl⟩
set_option maxHeartbeats 4000000 in
set_option maxRecDepth 100000 in
/-- undo() -/
theorem c_X3_undo_ok (l : Launch) (D : va_G) (cI cR : ClassId) (m0 : Nat) (n0 : Nat) (q0 : Nat) (sv : Nat) (r0 : Nat) (t0 : Nat) (w0 : Nat) (u0 : Nat) (v0 : Nat) (y0 : Nat) (tm : Int32) (hs : Int64) (nw : Nat → Int32) (ps : Nat → Int32) (hsv : sv < 5) : Ctr l D cI cR yX3_undo cX3_undo 2 ((some .int)) ({ frames := 1, cells := 0, slots := 0, locals := 21 }) [.ref m0] [(m0, .inr (3, [.ref n0, .ref q0, .int (nI (sv + 1)), .ref r0, .ref t0, .ref w0, .ref u0, .ref v0, .ref y0, .int tm, .long hs])), (n0, .inl (cI, 148, .inl nw)), (q0, .inl (cI, 740, .inl ps))] (rP (some (.int (nI sv))) [(m0, .inr (3, [.ref n0, .ref q0, .int (nI sv), .ref r0, .ref t0, .ref w0, .ref u0, .ref v0, .ref y0, .int tm, .long hs])), (n0, .inl (cI, 148, .inl (unQ ps sv nw 148))), (q0, .inl (cI, 740, .inl ps))]) := by
  refine ctr_of (lv0 := [(0, .ref m0)]) (by decide) (nle rfl) rfl (fun G C E => ?_)
  refine r_aload_n C dX3_undo_0 0 rfl ?_
  refine r_get C clX3 dX3_undo_1 0 2 rfl (by decide) q_401 rfl ?_
  refine r_if_ne C dX3_undo_4 (tgt := 14) (by decide) (fun c_1 => ?_) (fun c_1 => ?_)
  · refine r_aload_n C dX3_undo_14 0 rfl ?_
    refine r_dup C dX3_undo_15 rfl ?_
    refine r_get C clX3 dX3_undo_16 0 2 rfl (by decide) q_401 rfl ?_
    refine r_iconst C dX3_undo_19 (v := 1) (by decide) ?_
    refine r_isub C dX3_undo_20 ?_
    refine r_top (b := nI sv) (nI_pred sv) ?_
    refine r_put C clX3 dX3_undo_21 0 2 rfl (by decide) q_401 rfl rfl rfl (nle rfl) (ws2 := [(m0, .inr (3, [.ref n0, .ref q0, .int (nI sv), .ref r0, .ref t0, .ref w0, .ref u0, .ref v0, .ref y0, .int tm, .long hs])), (n0, .inl (cI, 148, .inl nw)), (q0, .inl (cI, 740, .inl ps))]) rfl ?_
    refine r_iconst C dX3_undo_24 (v := 0) (by decide) ?_
    refine r_istore_n C dX3_undo_25 (lv2 := [(1, .int 0), (0, .ref m0)]) (by decide) rfl ?_
    have L_26 : ∀ (z i : Nat), i ≤ 148 → 148 < i + z → ∀ (f : Nat → Int32), f = unQ ps sv nw i → Wr G 0 0 26 [(1, .int (nI i)), (0, .ref m0)] [] [(m0, .inr (3, [.ref n0, .ref q0, .int (nI sv), .ref r0, .ref t0, .ref w0, .ref u0, .ref v0, .ref y0, .int tm, .long hs])), (n0, .inl (cI, 148, .inl f)), (q0, .inl (cI, 740, .inl ps))] := by
      intro z
      induction z with
      | zero => intro i h1 h2; exact absurd h2 (by omega)
      | succ z ih_26 =>
        intro i hi_26 hz_26 f e_f
        refine r_iload_n C dX3_undo_26 0 rfl ?_
        refine r_sipush C dX3_undo_27 (v := 148) (by decide) ?_
        refine r_icmp_ge C dX3_undo_30 (tgt := 60) (by decide) (fun c_2 => ?_) (fun c_2 => ?_)
        · have n_3 := (nI_leI (a := 148) (b := i) (by omega) (by omega)).mp c_2
          have ex_26 : i = 148 := by omega
          subst ex_26
          subst e_f
          refine r_aload_n C dX3_undo_60 1 rfl ?_
          refine r_get C clX3 dX3_undo_61 0 2 rfl (by decide) q_401 rfl ?_
          exact r_iret C E dX3_undo_64 (nle rfl) (nle rfl) ⟨rfl, rfl⟩
        · have n_3 := mt (nI_leI (a := 148) (b := i) (by omega) (by omega)).mpr c_2
          refine r_aload_n C dX3_undo_33 1 rfl ?_
          refine r_get C clX3 dX3_undo_34 0 0 rfl (by decide) q_399 rfl ?_
          refine r_iload_n C dX3_undo_37 0 rfl ?_
          refine r_aload_n C dX3_undo_38 1 rfl ?_
          refine r_get C clX3 dX3_undo_39 0 1 rfl (by decide) q_400 rfl ?_
          refine r_sipush C dX3_undo_42 (v := 148) (by decide) ?_
          refine r_aload_n C dX3_undo_45 1 rfl ?_
          refine r_get C clX3 dX3_undo_46 0 2 rfl (by decide) q_401 rfl ?_
          refine r_imul C dX3_undo_49 ?_
          refine r_top (b := nI (148 * sv)) (nM rfl rfl) ?_
          refine r_iload_n C dX3_undo_50 0 rfl ?_
          refine r_iadd C dX3_undo_51 ?_
          refine r_top (b := nI (148 * sv + i)) (nA rfl rfl) ?_
          refine r_iald C dX3_undo_52 2 rfl (148 * sv + i) rfl (by omega) (by decide) ?_
          refine r_iast C dX3_undo_53 1 rfl i rfl (by omega) (by decide) (ws2 := [(m0, .inr (3, [.ref n0, .ref q0, .int (nI sv), .ref r0, .ref t0, .ref w0, .ref u0, .ref v0, .ref y0, .int tm, .long hs])), (n0, .inl (cI, 148, .inl (upd f i (ps (148 * sv + i))))), (q0, .inl (cI, 740, .inl ps))]) rfl ?_
          refine r_iinc C dX3_undo_54 0 rfl (v := nI (i + 1)) (nI_1 _) (by decide) (lv2 := [(1, .int (nI (i + 1))), (0, .ref m0)]) rfl ?_
          refine r_goto C dX3_undo_57 (tgt := 26) (by decide) ?_
          exact ih_26 (i + 1) (by omega) (by omega) _ (by subst e_f; rfl) 
    exact L_26 (148 + 1) 0 (by omega) (by omega) _ rfl 
  · exact absurd c_1 (nI_ne0 (by omega) (by omega))
set_option maxHeartbeats 4000000 in
set_option maxRecDepth 100000 in
/-- draw(), with room -/
theorem c_X3_draw_ok (l : Launch) (D : va_G) (cI cR : ClassId) (m0 : Nat) (n0 : Nat) (q0 : Nat) (sv : Nat) (r0 : Nat) (t0 : Nat) (w0 : Nat) (u0 : Nat) (v0 : Nat) (y0 : Nat) (tm : Int32) (hs : Int64) (nw : Nat → Int32) (ps : Nat → Int32) (nl : Nat) (hsv : sv ≤ 5) (e0 : nw 0 = nI nl) (hnl : nl < 10) : Ctr l D cI cR yX3_draw cX3_draw 1 ((some .int)) ({ frames := 1, cells := 0, slots := 0, locals := 21 }) [.ref m0] [(m0, .inr (3, [.ref n0, .ref q0, .int (nI sv), .ref r0, .ref t0, .ref w0, .ref u0, .ref v0, .ref y0, .int tm, .long hs])), (n0, .inl (cI, 148, .inl nw)), (q0, .inl (cI, 740, .inl ps))] (rP (some (.int (nI nl))) [(m0, .inr (3, [.ref n0, .ref q0, .int (nI (svC sv)), .ref r0, .ref t0, .ref w0, .ref u0, .ref v0, .ref y0, .int tm, .long hs])), (n0, .inl (cI, 148, .inl (upd (upd (upd nw (6 + nl) 0) 0 (nI (nl + 1))) 3 1))), (q0, .inl (cI, 740, .inl (svQ sv nw ps)))]) := by
  refine ctr_of (lv0 := [(0, .ref m0)]) (by decide) (nle rfl) rfl (fun G C E => ?_)
  refine r_aload_n C dX3_draw_0 0 rfl ?_
  refine r_get C clX3 dX3_draw_1 0 0 rfl (by decide) q_399 rfl ?_
  refine r_iconst C dX3_draw_4 (v := 0) (by decide) ?_
  refine r_iald C dX3_draw_5 1 rfl 0 rfl (by decide) (by decide) ?_
  refine r_top (b := nI nl) e0 ?_
  refine r_bipush C dX3_draw_6 (v := 10) (by decide) ?_
  refine r_icmp_ne C dX3_draw_8 (tgt := 18) (by decide) (fun c_1 => ?_) (fun c_1 => ?_)
  · have n_2 := mt (nI_eq (a := nl) (b := 10) (by omega) (by omega)).mpr c_1
    refine r_aload_n C dX3_draw_18 0 rfl ?_
    refine r_callV C (As := []) (rest := []) (wr := []) (c_X3_saves l D cI cR m0 n0 q0 sv r0 t0 w0 u0 v0 y0 tm hs nw ps (by first | assumption | omega)) k_X3_saves rfl dX3_draw_19 q_445 q_447 q_15 ⟨nle rfl, nle rfl⟩ [0, 1, 2] [] rfl rfl rfl rfl (by decide) 0 rfl rfl rfl (nle rfl) ⟨nle rfl, nle rfl⟩ (r_fin (st2 := []) (ws2 := [(m0, .inr (3, [.ref n0, .ref q0, .int (nI (svC sv)), .ref r0, .ref t0, .ref w0, .ref u0, .ref v0, .ref y0, .int tm, .long hs])), (n0, .inl (cI, 148, .inl nw)), (q0, .inl (cI, 740, .inl (svQ sv nw ps)))]) rfl rfl ?_)
    refine r_aload_n C dX3_draw_22 0 rfl ?_
    refine r_get C clX3 dX3_draw_23 0 0 rfl (by decide) q_399 rfl ?_
    refine r_bipush C dX3_draw_26 (v := 6) (by decide) ?_
    refine r_aload_n C dX3_draw_28 0 rfl ?_
    refine r_get C clX3 dX3_draw_29 0 0 rfl (by decide) q_399 rfl ?_
    refine r_iconst C dX3_draw_32 (v := 0) (by decide) ?_
    refine r_iald C dX3_draw_33 1 rfl 0 rfl (by decide) (by decide) ?_
    refine r_top (b := nI nl) e0 ?_
    refine r_iadd C dX3_draw_34 ?_
    refine r_top (b := nI (6 + nl)) (nA rfl rfl) ?_
    refine r_iconst C dX3_draw_35 (v := 0) (by decide) ?_
    refine r_iast C dX3_draw_36 1 rfl (6 + nl) rfl (by omega) (by decide) (ws2 := [(m0, .inr (3, [.ref n0, .ref q0, .int (nI (svC sv)), .ref r0, .ref t0, .ref w0, .ref u0, .ref v0, .ref y0, .int tm, .long hs])), (n0, .inl (cI, 148, .inl (upd nw (6 + nl) 0))), (q0, .inl (cI, 740, .inl (svQ sv nw ps)))]) rfl ?_
    refine r_aload_n C dX3_draw_37 0 rfl ?_
    refine r_get C clX3 dX3_draw_38 0 0 rfl (by decide) q_399 rfl ?_
    refine r_iconst C dX3_draw_41 (v := 0) (by decide) ?_
    refine r_dup2 C dX3_draw_42 rfl rfl ?_
    refine r_iald C dX3_draw_43 1 rfl 0 rfl (by decide) (by decide) ?_
    refine r_top (b := nI nl) ((pk_un (by omega)).trans e0) ?_
    refine r_iconst C dX3_draw_44 (v := 1) (by decide) ?_
    refine r_iadd C dX3_draw_45 ?_
    refine r_top (b := nI (nl + 1)) (nA rfl rfl) ?_
    refine r_iast C dX3_draw_46 1 rfl 0 rfl (by decide) (by decide) (ws2 := [(m0, .inr (3, [.ref n0, .ref q0, .int (nI (svC sv)), .ref r0, .ref t0, .ref w0, .ref u0, .ref v0, .ref y0, .int tm, .long hs])), (n0, .inl (cI, 148, .inl (upd (upd nw (6 + nl) 0) 0 (nI (nl + 1))))), (q0, .inl (cI, 740, .inl (svQ sv nw ps)))]) rfl ?_
    refine r_aload_n C dX3_draw_47 0 rfl ?_
    refine r_get C clX3 dX3_draw_48 0 0 rfl (by decide) q_399 rfl ?_
    refine r_iconst C dX3_draw_51 (v := 3) (by decide) ?_
    refine r_iconst C dX3_draw_52 (v := 1) (by decide) ?_
    refine r_iast C dX3_draw_53 1 rfl 3 rfl (by decide) (by decide) (ws2 := [(m0, .inr (3, [.ref n0, .ref q0, .int (nI (svC sv)), .ref r0, .ref t0, .ref w0, .ref u0, .ref v0, .ref y0, .int tm, .long hs])), (n0, .inl (cI, 148, .inl (upd (upd (upd nw (6 + nl) 0) 0 (nI (nl + 1))) 3 1))), (q0, .inl (cI, 740, .inl (svQ sv nw ps)))]) rfl ?_
    refine r_aload_n C dX3_draw_54 0 rfl ?_
    refine r_get C clX3 dX3_draw_55 0 0 rfl (by decide) q_399 rfl ?_
    refine r_iconst C dX3_draw_58 (v := 0) (by decide) ?_
    refine r_iald C dX3_draw_59 1 rfl 0 rfl (by decide) (by decide) ?_
    refine r_top (b := (nI (nl + 1))) ((pk_un (by decide)).trans pk_us) ?_
    refine r_iconst C dX3_draw_60 (v := 1) (by decide) ?_
    refine r_isub C dX3_draw_61 ?_
    refine r_top (b := nI nl) (nI_pred nl) ?_
    exact r_iret C E dX3_draw_62 (nle rfl) (nle rfl) ⟨rfl, rfl⟩
  · have n_2 := (nI_eq (a := nl) (b := 10) (by omega) (by omega)).mp c_1
    omega
set_option maxHeartbeats 4000000 in
set_option maxRecDepth 100000 in
/-- draw(), full -/
theorem c_X3_draw_no (l : Launch) (D : va_G) (cI cR : ClassId) (m0 : Nat) (n0 : Nat) (q0 : Nat) (sv : Nat) (r0 : Nat) (t0 : Nat) (w0 : Nat) (u0 : Nat) (v0 : Nat) (y0 : Nat) (tm : Int32) (hs : Int64) (nw : Nat → Int32) (nl : Nat) (er : Nat → Int32) (e0 : nw 0 = nI nl) (hnl : nl = 10) : Ctr l D cI cR yX3_draw cX3_draw 1 ((some .int)) ({ frames := 1, cells := 0, slots := 0, locals := 21 }) [.ref m0] [(m0, .inr (3, [.ref n0, .ref q0, .int (nI sv), .ref r0, .ref t0, .ref w0, .ref u0, .ref v0, .ref y0, .int tm, .long hs])), (n0, .inl (cI, 148, .inl nw)), (r0, .inl (cI, 4, .inl er))] (rP (some (.int (-4))) [(m0, .inr (3, [.ref n0, .ref q0, .int (nI sv), .ref r0, .ref t0, .ref w0, .ref u0, .ref v0, .ref y0, .int tm, .long hs])), (n0, .inl (cI, 148, .inl nw)), (r0, .inl (cI, 4, .inl (upd er 2 (er 2 + 1))))]) := by
  refine ctr_of (lv0 := [(0, .ref m0)]) (by decide) (nle rfl) rfl (fun G C E => ?_)
  refine r_aload_n C dX3_draw_0 0 rfl ?_
  refine r_get C clX3 dX3_draw_1 0 0 rfl (by decide) q_399 rfl ?_
  refine r_iconst C dX3_draw_4 (v := 0) (by decide) ?_
  refine r_iald C dX3_draw_5 1 rfl 0 rfl (by decide) (by decide) ?_
  refine r_top (b := nI nl) e0 ?_
  refine r_bipush C dX3_draw_6 (v := 10) (by decide) ?_
  refine r_icmp_ne C dX3_draw_8 (tgt := 18) (by decide) (fun c_1 => ?_) (fun c_1 => ?_)
  · have n_2 := mt (nI_eq (a := nl) (b := 10) (by omega) (by omega)).mpr c_1
    omega
  · have n_2 := (nI_eq (a := nl) (b := 10) (by omega) (by omega)).mp c_1
    refine r_aload_n C dX3_draw_11 0 rfl ?_
    refine r_bipush C dX3_draw_12 (v := (-4)) (by decide) ?_
    refine r_callV C (As := [.int (-4)]) (rest := []) (wr := [(n0, .inl (cI, 148, .inl nw))]) (c_X3_fails l D cI cR m0 n0 q0 sv r0 t0 w0 u0 v0 y0 tm hs er (-4) 2 (by decide) (by decide)) k_X3_fails rfl dX3_draw_14 q_437 q_439 q_14 ⟨nle rfl, nle rfl⟩ [0, 2] [1] rfl rfl rfl rfl (by decide) 0 rfl rfl rfl (nle rfl) ⟨nle rfl, nle rfl⟩ (r_fin (st2 := [.int (-4)]) (ws2 := [(n0, .inl (cI, 148, .inl nw)), (m0, .inr (3, [.ref n0, .ref q0, .int (nI sv), .ref r0, .ref t0, .ref w0, .ref u0, .ref v0, .ref y0, .int tm, .long hs])), (r0, .inl (cI, 4, .inl (upd er 2 (er 2 + 1))))]) rfl rfl ?_)
    refine r_ws [1, 0, 2] (ws2 := [(m0, .inr (3, [.ref n0, .ref q0, .int (nI sv), .ref r0, .ref t0, .ref w0, .ref u0, .ref v0, .ref y0, .int tm, .long hs])), (n0, .inl (cI, 148, .inl nw)), (r0, .inl (cI, 4, .inl (upd er 2 (er 2 + 1))))]) rfl rfl ?_
    exact r_iret C E dX3_draw_17 (nle rfl) (nle rfl) ⟨rfl, rfl⟩
set_option maxHeartbeats 4000000 in
set_option maxRecDepth 100000 in
/-- setStrength, in range -/
theorem c_X3_setStrength_ok (l : Launch) (D : va_G) (cI cR : ClassId) (m0 : Nat) (n0 : Nat) (q0 : Nat) (sv : Nat) (r0 : Nat) (t0 : Nat) (w0 : Nat) (u0 : Nat) (v0 : Nat) (y0 : Nat) (tm : Int32) (hs : Int64) (nw : Nat → Int32) (ps : Nat → Int32) (vx : Int32) (hsv : sv ≤ 5) (hv : ¬ wiF vx 1 5 = 0) : Ctr l D cI cR yX3_setStrength cX3_setStrength 3 ((some .int)) ({ frames := 1, cells := 0, slots := 0, locals := 22 }) [.ref m0, .int vx] [(m0, .inr (3, [.ref n0, .ref q0, .int (nI sv), .ref r0, .ref t0, .ref w0, .ref u0, .ref v0, .ref y0, .int tm, .long hs])), (n0, .inl (cI, 148, .inl nw)), (q0, .inl (cI, 740, .inl ps))] (rP (some (.int (nw 1))) [(m0, .inr (3, [.ref n0, .ref q0, .int (nI (svC sv)), .ref r0, .ref t0, .ref w0, .ref u0, .ref v0, .ref y0, .int tm, .long hs])), (n0, .inl (cI, 148, .inl (upd nw 1 vx))), (q0, .inl (cI, 740, .inl (svQ sv nw ps)))]) := by
  refine ctr_of (lv0 := [(0, .ref m0), (1, .int vx)]) (by decide) (nle rfl) rfl (fun G C E => ?_)
  refine r_iload_n C dX3_setStrength_0 1 rfl ?_
  refine r_iconst C dX3_setStrength_1 (v := 1) (by decide) ?_
  refine r_iconst C dX3_setStrength_2 (v := 5) (by decide) ?_
  refine r_callS C (As := [.int vx, .int 1, .int 5]) (rest := []) (wr := [(m0, .inr (3, [.ref n0, .ref q0, .int (nI sv), .ref r0, .ref t0, .ref w0, .ref u0, .ref v0, .ref y0, .int tm, .long hs])), (n0, .inl (cI, 148, .inl nw)), (q0, .inl (cI, 740, .inl ps))]) (c_X3_within l D cI cR vx 1 5 ) k_X3_within rfl dX3_setStrength_3 q_453 q_454 ⟨nle rfl, nle rfl⟩ [] [0, 1, 2] rfl rfl rfl rfl (by decide) rfl (nle rfl) ⟨nle rfl, nle rfl⟩ (r_fin (st2 := [.int (wiF vx 1 5)]) (ws2 := [(m0, .inr (3, [.ref n0, .ref q0, .int (nI sv), .ref r0, .ref t0, .ref w0, .ref u0, .ref v0, .ref y0, .int tm, .long hs])), (n0, .inl (cI, 148, .inl nw)), (q0, .inl (cI, 740, .inl ps))]) rfl rfl ?_)
  refine r_if_ne C dX3_setStrength_6 (tgt := 16) (by decide) (fun c_1 => ?_) (fun c_1 => ?_)
  · refine r_aload_n C dX3_setStrength_16 0 rfl ?_
    refine r_callV C (As := []) (rest := []) (wr := []) (c_X3_saves l D cI cR m0 n0 q0 sv r0 t0 w0 u0 v0 y0 tm hs nw ps (by first | assumption | omega)) k_X3_saves rfl dX3_setStrength_17 q_445 q_447 q_15 ⟨nle rfl, nle rfl⟩ [0, 1, 2] [] rfl rfl rfl rfl (by decide) 0 rfl rfl rfl (nle rfl) ⟨nle rfl, nle rfl⟩ (r_fin (st2 := []) (ws2 := [(m0, .inr (3, [.ref n0, .ref q0, .int (nI (svC sv)), .ref r0, .ref t0, .ref w0, .ref u0, .ref v0, .ref y0, .int tm, .long hs])), (n0, .inl (cI, 148, .inl nw)), (q0, .inl (cI, 740, .inl (svQ sv nw ps)))]) rfl rfl ?_)
    refine r_aload_n C dX3_setStrength_20 0 rfl ?_
    refine r_get C clX3 dX3_setStrength_21 0 0 rfl (by decide) q_399 rfl ?_
    refine r_iconst C dX3_setStrength_24 (v := 1) (by decide) ?_
    refine r_iald C dX3_setStrength_25 1 rfl 1 rfl (by decide) (by decide) ?_
    refine r_istore_n C dX3_setStrength_26 (lv2 := [(2, .int (nw 1)), (0, .ref m0), (1, .int vx)]) (by decide) rfl ?_
    refine r_aload_n C dX3_setStrength_27 1 rfl ?_
    refine r_get C clX3 dX3_setStrength_28 0 0 rfl (by decide) q_399 rfl ?_
    refine r_iconst C dX3_setStrength_31 (v := 1) (by decide) ?_
    refine r_iload_n C dX3_setStrength_32 2 rfl ?_
    refine r_iast C dX3_setStrength_33 1 rfl 1 rfl (by decide) (by decide) (ws2 := [(m0, .inr (3, [.ref n0, .ref q0, .int (nI (svC sv)), .ref r0, .ref t0, .ref w0, .ref u0, .ref v0, .ref y0, .int tm, .long hs])), (n0, .inl (cI, 148, .inl (upd nw 1 vx))), (q0, .inl (cI, 740, .inl (svQ sv nw ps)))]) rfl ?_
    refine r_iload_n C dX3_setStrength_34 0 rfl ?_
    exact r_iret C E dX3_setStrength_35 (nle rfl) (nle rfl) ⟨rfl, rfl⟩
  · exact absurd c_1 hv
set_option maxHeartbeats 4000000 in
set_option maxRecDepth 100000 in
/-- setStrength, out of range -/
theorem c_X3_setStrength_no (l : Launch) (D : va_G) (cI cR : ClassId) (m0 : Nat) (n0 : Nat) (q0 : Nat) (sv : Nat) (r0 : Nat) (t0 : Nat) (w0 : Nat) (u0 : Nat) (v0 : Nat) (y0 : Nat) (tm : Int32) (hs : Int64) (er : Nat → Int32) (vx : Int32) (hv : wiF vx 1 5 = 0) : Ctr l D cI cR yX3_setStrength cX3_setStrength 3 ((some .int)) ({ frames := 1, cells := 0, slots := 0, locals := 22 }) [.ref m0, .int vx] [(m0, .inr (3, [.ref n0, .ref q0, .int (nI sv), .ref r0, .ref t0, .ref w0, .ref u0, .ref v0, .ref y0, .int tm, .long hs])), (r0, .inl (cI, 4, .inl er))] (rP (some (.int (-2))) [(m0, .inr (3, [.ref n0, .ref q0, .int (nI sv), .ref r0, .ref t0, .ref w0, .ref u0, .ref v0, .ref y0, .int tm, .long hs])), (r0, .inl (cI, 4, .inl (upd er 0 (er 0 + 1))))]) := by
  refine ctr_of (lv0 := [(0, .ref m0), (1, .int vx)]) (by decide) (nle rfl) rfl (fun G C E => ?_)
  refine r_iload_n C dX3_setStrength_0 1 rfl ?_
  refine r_iconst C dX3_setStrength_1 (v := 1) (by decide) ?_
  refine r_iconst C dX3_setStrength_2 (v := 5) (by decide) ?_
  refine r_callS C (As := [.int vx, .int 1, .int 5]) (rest := []) (wr := [(m0, .inr (3, [.ref n0, .ref q0, .int (nI sv), .ref r0, .ref t0, .ref w0, .ref u0, .ref v0, .ref y0, .int tm, .long hs])), (r0, .inl (cI, 4, .inl er))]) (c_X3_within l D cI cR vx 1 5 ) k_X3_within rfl dX3_setStrength_3 q_453 q_454 ⟨nle rfl, nle rfl⟩ [] [0, 1] rfl rfl rfl rfl (by decide) rfl (nle rfl) ⟨nle rfl, nle rfl⟩ (r_fin (st2 := [.int (wiF vx 1 5)]) (ws2 := [(m0, .inr (3, [.ref n0, .ref q0, .int (nI sv), .ref r0, .ref t0, .ref w0, .ref u0, .ref v0, .ref y0, .int tm, .long hs])), (r0, .inl (cI, 4, .inl er))]) rfl rfl ?_)
  refine r_if_ne C dX3_setStrength_6 (tgt := 16) (by decide) (fun c_1 => ?_) (fun c_1 => ?_)
  · exact absurd hv c_1
  · refine r_aload_n C dX3_setStrength_9 0 rfl ?_
    refine r_bipush C dX3_setStrength_10 (v := (-2)) (by decide) ?_
    refine r_callV C (As := [.int (-2)]) (rest := []) (wr := []) (c_X3_fails l D cI cR m0 n0 q0 sv r0 t0 w0 u0 v0 y0 tm hs er (-2) 0 (by decide) (by decide)) k_X3_fails rfl dX3_setStrength_12 q_437 q_439 q_14 ⟨nle rfl, nle rfl⟩ [0, 1] [] rfl rfl rfl rfl (by decide) 0 rfl rfl rfl (nle rfl) ⟨nle rfl, nle rfl⟩ (r_fin (st2 := [.int (-2)]) (ws2 := [(m0, .inr (3, [.ref n0, .ref q0, .int (nI sv), .ref r0, .ref t0, .ref w0, .ref u0, .ref v0, .ref y0, .int tm, .long hs])), (r0, .inl (cI, 4, .inl (upd er 0 (er 0 + 1))))]) rfl rfl ?_)
    exact r_iret C E dX3_setStrength_15 (nle rfl) (nle rfl) ⟨rfl, rfl⟩
set_option maxHeartbeats 4000000 in
set_option maxRecDepth 100000 in
/-- dip, in range -/
theorem c_X3_dip_ok (l : Launch) (D : va_G) (cI cR : ClassId) (m0 : Nat) (n0 : Nat) (q0 : Nat) (sv : Nat) (r0 : Nat) (t0 : Nat) (w0 : Nat) (u0 : Nat) (v0 : Nat) (y0 : Nat) (tm : Int32) (hs : Int64) (nw : Nat → Int32) (ps : Nat → Int32) (nl : Nat) (vx : Int32) (hsv : sv ≤ 5) (e0 : nw 0 = nI nl) (hnl : nl ≤ 10) (hv : ¬ wiF vx 0 99 = 0) : Ctr l D cI cR yX3_dip cX3_dip 5 ((some .int)) ({ frames := 1, cells := 0, slots := 0, locals := 22 }) [.ref m0, .int vx] [(m0, .inr (3, [.ref n0, .ref q0, .int (nI sv), .ref r0, .ref t0, .ref w0, .ref u0, .ref v0, .ref y0, .int tm, .long hs])), (n0, .inl (cI, 148, .inl nw)), (q0, .inl (cI, 740, .inl ps))] (rP (some (.int (dpC nw vx nl))) [(m0, .inr (3, [.ref n0, .ref q0, .int (nI (svC sv)), .ref r0, .ref t0, .ref w0, .ref u0, .ref v0, .ref y0, .int tm, .long hs])), (n0, .inl (cI, 148, .inl (upd (dpW nw vx nl) 3 (if vx ≤ 0 then dpW nw vx nl 3 else 1)))), (q0, .inl (cI, 740, .inl (svQ sv nw ps)))]) := by
  refine ctr_of (lv0 := [(0, .ref m0), (1, .int vx)]) (by decide) (nle rfl) rfl (fun G C E => ?_)
  refine r_iload_n C dX3_dip_0 1 rfl ?_
  refine r_iconst C dX3_dip_1 (v := 0) (by decide) ?_
  refine r_bipush C dX3_dip_2 (v := 99) (by decide) ?_
  refine r_callS C (As := [.int vx, .int 0, .int 99]) (rest := []) (wr := [(m0, .inr (3, [.ref n0, .ref q0, .int (nI sv), .ref r0, .ref t0, .ref w0, .ref u0, .ref v0, .ref y0, .int tm, .long hs])), (n0, .inl (cI, 148, .inl nw)), (q0, .inl (cI, 740, .inl ps))]) (c_X3_within l D cI cR vx 0 99 ) k_X3_within rfl dX3_dip_4 q_453 q_454 ⟨nle rfl, nle rfl⟩ [] [0, 1, 2] rfl rfl rfl rfl (by decide) rfl (nle rfl) ⟨nle rfl, nle rfl⟩ (r_fin (st2 := [.int (wiF vx 0 99)]) (ws2 := [(m0, .inr (3, [.ref n0, .ref q0, .int (nI sv), .ref r0, .ref t0, .ref w0, .ref u0, .ref v0, .ref y0, .int tm, .long hs])), (n0, .inl (cI, 148, .inl nw)), (q0, .inl (cI, 740, .inl ps))]) rfl rfl ?_)
  refine r_if_ne C dX3_dip_7 (tgt := 17) (by decide) (fun c_1 => ?_) (fun c_1 => ?_)
  · refine r_aload_n C dX3_dip_17 0 rfl ?_
    refine r_callV C (As := []) (rest := []) (wr := []) (c_X3_saves l D cI cR m0 n0 q0 sv r0 t0 w0 u0 v0 y0 tm hs nw ps (by first | assumption | omega)) k_X3_saves rfl dX3_dip_18 q_445 q_447 q_15 ⟨nle rfl, nle rfl⟩ [0, 1, 2] [] rfl rfl rfl rfl (by decide) 0 rfl rfl rfl (nle rfl) ⟨nle rfl, nle rfl⟩ (r_fin (st2 := []) (ws2 := [(m0, .inr (3, [.ref n0, .ref q0, .int (nI (svC sv)), .ref r0, .ref t0, .ref w0, .ref u0, .ref v0, .ref y0, .int tm, .long hs])), (n0, .inl (cI, 148, .inl nw)), (q0, .inl (cI, 740, .inl (svQ sv nw ps)))]) rfl rfl ?_)
    refine r_iconst C dX3_dip_21 (v := 0) (by decide) ?_
    refine r_istore_n C dX3_dip_22 (lv2 := [(2, .int 0), (0, .ref m0), (1, .int vx)]) (by decide) rfl ?_
    refine r_iconst C dX3_dip_23 (v := 0) (by decide) ?_
    refine r_istore_n C dX3_dip_24 (lv2 := [(3, .int 0), (2, .int 0), (0, .ref m0), (1, .int vx)]) (by decide) rfl ?_
    have L_25 : ∀ (z i : Nat), i ≤ nl → nl < i + z → ∀ (cn : Int32) (f : Nat → Int32), cn = dpC nw vx i → f = dpW nw vx i → f 0 = nI nl → Wr G 0 0 25 [(3, .int (nI i)), (2, .int cn), (0, .ref m0), (1, .int vx)] [] [(m0, .inr (3, [.ref n0, .ref q0, .int (nI (svC sv)), .ref r0, .ref t0, .ref w0, .ref u0, .ref v0, .ref y0, .int tm, .long hs])), (n0, .inl (cI, 148, .inl f)), (q0, .inl (cI, 740, .inl (svQ sv nw ps)))] := by
      intro z
      induction z with
      | zero => intro i h1 h2; exact absurd h2 (by omega)
      | succ z ih_25 =>
        intro i hi_25 hz_25 cn f e_cn e_f hf0
        refine r_iload_n C dX3_dip_25 0 rfl ?_
        refine r_aload_n C dX3_dip_26 2 rfl ?_
        refine r_get C clX3 dX3_dip_27 0 0 rfl (by decide) q_399 rfl ?_
        refine r_iconst C dX3_dip_30 (v := 0) (by decide) ?_
        refine r_iald C dX3_dip_31 1 rfl 0 rfl (by decide) (by decide) ?_
        refine r_top (b := nI nl) hf0 ?_
        refine r_icmp_ge C dX3_dip_32 (tgt := 123) (by decide) (fun c_2 => ?_) (fun c_2 => ?_)
        · have n_3 := (nI_leI (a := nl) (b := i) (by omega) (by omega)).mp c_2
          have ex_25 : nl = i := by omega
          subst ex_25
          subst e_cn
          subst e_f
          refine r_aload_n C dX3_dip_123 2 rfl ?_
          refine r_get C clX3 dX3_dip_124 0 0 rfl (by decide) q_399 rfl ?_
          refine r_iconst C dX3_dip_127 (v := 3) (by decide) ?_
          refine r_iload_n C dX3_dip_128 3 rfl ?_
          have J_6 : ∀ (v_5 : Int32), v_5 = (if vx ≤ 0 then ((dpW nw vx nl) 3) else 1) → Wr G 0 0 142 [(3, .int (nI nl)), (2, .int (dpC nw vx nl)), (0, .ref m0), (1, .int vx)] [.int v_5, .int 3, .ref n0] [(m0, .inr (3, [.ref n0, .ref q0, .int (nI (svC sv)), .ref r0, .ref t0, .ref w0, .ref u0, .ref v0, .ref y0, .int tm, .long hs])), (n0, .inl (cI, 148, .inl (dpW nw vx nl))), (q0, .inl (cI, 740, .inl (svQ sv nw ps)))] := by
            intro v_5 ev_5
            subst ev_5
            refine r_iast C dX3_dip_142 1 rfl 3 rfl (by decide) (by decide) (ws2 := [(m0, .inr (3, [.ref n0, .ref q0, .int (nI (svC sv)), .ref r0, .ref t0, .ref w0, .ref u0, .ref v0, .ref y0, .int tm, .long hs])), (n0, .inl (cI, 148, .inl (upd (dpW nw vx nl) 3 (if vx ≤ 0 then ((dpW nw vx nl) 3) else 1)))), (q0, .inl (cI, 740, .inl (svQ sv nw ps)))]) rfl ?_
            refine r_iload_n C dX3_dip_143 1 rfl ?_
            exact r_iret C E dX3_dip_144 (nle rfl) (nle rfl) ⟨rfl, rfl⟩
          refine r_if_le C dX3_dip_129 (tgt := 136) (by decide) (fun c_4 => ?_) (fun c_4 => ?_)
          · refine r_aload_n C dX3_dip_136 2 rfl ?_
            refine r_get C clX3 dX3_dip_137 0 0 rfl (by decide) q_399 rfl ?_
            refine r_iconst C dX3_dip_140 (v := 3) (by decide) ?_
            refine r_iald C dX3_dip_141 1 rfl 3 rfl (by decide) (by decide) ?_
            exact J_6 _ (by first | rfl | simp only [if_pos c_4])
          · refine r_iconst C dX3_dip_132 (v := 1) (by decide) ?_
            refine r_goto C dX3_dip_133 (tgt := 142) (by decide) ?_
            exact J_6 _ (by first | rfl | simp only [if_neg c_4])
        · have n_3 := mt (nI_leI (a := nl) (b := i) (by omega) (by omega)).mpr c_2
          refine r_aload_n C dX3_dip_35 2 rfl ?_
          refine r_get C clX3 dX3_dip_36 0 0 rfl (by decide) q_399 rfl ?_
          refine r_bipush C dX3_dip_39 (v := 6) (by decide) ?_
          refine r_iload_n C dX3_dip_41 0 rfl ?_
          refine r_iadd C dX3_dip_42 ?_
          refine r_top (b := nI (6 + i)) (nA rfl rfl) ?_
          refine r_iald C dX3_dip_43 1 rfl (6 + i) rfl (by omega) (by decide) ?_
          refine r_aload_n C dX3_dip_44 2 rfl ?_
          refine r_get C clX3 dX3_dip_45 0 0 rfl (by decide) q_399 rfl ?_
          refine r_iconst C dX3_dip_48 (v := 5) (by decide) ?_
          refine r_iald C dX3_dip_49 1 rfl 5 rfl (by decide) (by decide) ?_
          refine r_iload_n C dX3_dip_50 0 rfl ?_
          refine r_ishr C dX3_dip_51 ?_
          refine r_iconst C dX3_dip_52 (v := 1) (by decide) ?_
          refine r_iand C dX3_dip_53 ?_
          refine r_iconst C dX3_dip_54 (v := 1) (by decide) ?_
          refine r_ixor C dX3_dip_55 ?_
          refine r_aload_n C dX3_dip_56 2 rfl ?_
          refine r_get C clX3 dX3_dip_57 0 0 rfl (by decide) q_399 rfl ?_
          refine r_iconst C dX3_dip_60 (v := 1) (by decide) ?_
          refine r_iald C dX3_dip_61 1 rfl 1 rfl (by decide) (by decide) ?_
          refine r_imul C dX3_dip_62 ?_
          refine r_iload_n C dX3_dip_63 3 rfl ?_
          refine r_imul C dX3_dip_64 ?_
          refine r_iadd C dX3_dip_65 ?_
          refine r_istore C dX3_dip_66 (lv2 := [(4, .int ((f (6 + i)) + ((((((f 5) >>> (nI i &&& 31)) &&& 1) ^^^ 1) * (f 1)) * vx))), (3, .int (nI i)), (2, .int cn), (0, .ref m0), (1, .int vx)]) (by decide) rfl ?_
          refine r_iload C dX3_dip_68 0 rfl ?_
          refine r_bipush C dX3_dip_70 (v := 99) (by decide) ?_
          have J_9 : ∀ (v_8 : Int32), v_8 = (if ((f (6 + i)) + ((((((f 5) >>> (nI i &&& 31)) &&& 1) ^^^ 1) * (f 1)) * vx)) ≤ 99 then ((f (6 + i)) + ((((((f 5) >>> (nI i &&& 31)) &&& 1) ^^^ 1) * (f 1)) * vx)) else 99) → Wr G 0 0 82 [(4, .int ((f (6 + i)) + ((((((f 5) >>> (nI i &&& 31)) &&& 1) ^^^ 1) * (f 1)) * vx))), (3, .int (nI i)), (2, .int cn), (0, .ref m0), (1, .int vx)] [.int v_8] [(m0, .inr (3, [.ref n0, .ref q0, .int (nI (svC sv)), .ref r0, .ref t0, .ref w0, .ref u0, .ref v0, .ref y0, .int tm, .long hs])), (n0, .inl (cI, 148, .inl f)), (q0, .inl (cI, 740, .inl (svQ sv nw ps)))] := by
            intro v_8 ev_8
            subst ev_8
            refine r_istore C dX3_dip_82 (lv2 := [(4, .int (if ((f (6 + i)) + ((((((f 5) >>> (nI i &&& 31)) &&& 1) ^^^ 1) * (f 1)) * vx)) ≤ 99 then ((f (6 + i)) + ((((((f 5) >>> (nI i &&& 31)) &&& 1) ^^^ 1) * (f 1)) * vx)) else 99)), (3, .int (nI i)), (2, .int cn), (0, .ref m0), (1, .int vx)]) (by decide) rfl ?_
            refine r_iload_n C dX3_dip_84 2 rfl ?_
            refine r_iload C dX3_dip_85 0 rfl ?_
            refine r_aload_n C dX3_dip_87 3 rfl ?_
            refine r_get C clX3 dX3_dip_88 0 0 rfl (by decide) q_399 rfl ?_
            refine r_bipush C dX3_dip_91 (v := 6) (by decide) ?_
            refine r_iload_n C dX3_dip_93 1 rfl ?_
            refine r_iadd C dX3_dip_94 ?_
            refine r_top (b := nI (6 + i)) (nA rfl rfl) ?_
            refine r_iald C dX3_dip_95 1 rfl (6 + i) rfl (by omega) (by decide) ?_
            have J_12 : ∀ (v_11 : Int32), v_11 = (if (if ((f (6 + i)) + ((((((f 5) >>> (nI i &&& 31)) &&& 1) ^^^ 1) * (f 1)) * vx)) ≤ 99 then ((f (6 + i)) + ((((((f 5) >>> (nI i &&& 31)) &&& 1) ^^^ 1) * (f 1)) * vx)) else 99) ≤ (f (6 + i)) then (0 : Int32) else 1) → Wr G 0 0 104 [(4, .int (if ((f (6 + i)) + ((((((f 5) >>> (nI i &&& 31)) &&& 1) ^^^ 1) * (f 1)) * vx)) ≤ 99 then ((f (6 + i)) + ((((((f 5) >>> (nI i &&& 31)) &&& 1) ^^^ 1) * (f 1)) * vx)) else 99)), (3, .int (nI i)), (2, .int cn), (0, .ref m0), (1, .int vx)] [.int v_11, .int cn] [(m0, .inr (3, [.ref n0, .ref q0, .int (nI (svC sv)), .ref r0, .ref t0, .ref w0, .ref u0, .ref v0, .ref y0, .int tm, .long hs])), (n0, .inl (cI, 148, .inl f)), (q0, .inl (cI, 740, .inl (svQ sv nw ps)))] := by
              intro v_11 ev_11
              subst ev_11
              refine r_iadd C dX3_dip_104 ?_
              refine r_istore_n C dX3_dip_105 (lv2 := [(2, .int (cn + (if (if ((f (6 + i)) + ((((((f 5) >>> (nI i &&& 31)) &&& 1) ^^^ 1) * (f 1)) * vx)) ≤ 99 then ((f (6 + i)) + ((((((f 5) >>> (nI i &&& 31)) &&& 1) ^^^ 1) * (f 1)) * vx)) else 99) ≤ (f (6 + i)) then (0 : Int32) else 1))), (4, .int (if ((f (6 + i)) + ((((((f 5) >>> (nI i &&& 31)) &&& 1) ^^^ 1) * (f 1)) * vx)) ≤ 99 then ((f (6 + i)) + ((((((f 5) >>> (nI i &&& 31)) &&& 1) ^^^ 1) * (f 1)) * vx)) else 99)), (3, .int (nI i)), (0, .ref m0), (1, .int vx)]) (by decide) rfl ?_
              refine r_aload_n C dX3_dip_106 3 rfl ?_
              refine r_get C clX3 dX3_dip_107 0 0 rfl (by decide) q_399 rfl ?_
              refine r_bipush C dX3_dip_110 (v := 6) (by decide) ?_
              refine r_iload_n C dX3_dip_112 2 rfl ?_
              refine r_iadd C dX3_dip_113 ?_
              refine r_top (b := nI (6 + i)) (nA rfl rfl) ?_
              refine r_iload C dX3_dip_114 1 rfl ?_
              refine r_iast C dX3_dip_116 1 rfl (6 + i) rfl (by omega) (by decide) (ws2 := [(m0, .inr (3, [.ref n0, .ref q0, .int (nI (svC sv)), .ref r0, .ref t0, .ref w0, .ref u0, .ref v0, .ref y0, .int tm, .long hs])), (n0, .inl (cI, 148, .inl (upd f (6 + i) (if ((f (6 + i)) + ((((((f 5) >>> (nI i &&& 31)) &&& 1) ^^^ 1) * (f 1)) * vx)) ≤ 99 then ((f (6 + i)) + ((((((f 5) >>> (nI i &&& 31)) &&& 1) ^^^ 1) * (f 1)) * vx)) else 99)))), (q0, .inl (cI, 740, .inl (svQ sv nw ps)))]) rfl ?_
              refine r_iinc C dX3_dip_117 2 rfl (v := nI (i + 1)) (nI_1 _) (by decide) (lv2 := [(3, .int (nI (i + 1))), (2, .int (cn + (if (if ((f (6 + i)) + ((((((f 5) >>> (nI i &&& 31)) &&& 1) ^^^ 1) * (f 1)) * vx)) ≤ 99 then ((f (6 + i)) + ((((((f 5) >>> (nI i &&& 31)) &&& 1) ^^^ 1) * (f 1)) * vx)) else 99) ≤ (f (6 + i)) then (0 : Int32) else 1))), (4, .int (if ((f (6 + i)) + ((((((f 5) >>> (nI i &&& 31)) &&& 1) ^^^ 1) * (f 1)) * vx)) ≤ 99 then ((f (6 + i)) + ((((((f 5) >>> (nI i &&& 31)) &&& 1) ^^^ 1) * (f 1)) * vx)) else 99)), (0, .ref m0), (1, .int vx)]) rfl ?_
              refine r_goto C dX3_dip_120 (tgt := 25) (by decide) ?_
              refine r_lv [0, 1, 3, 4] (lv2 := [(3, .int (nI (i + 1))), (2, .int (cn + (if (if ((f (6 + i)) + ((((((f 5) >>> (nI i &&& 31)) &&& 1) ^^^ 1) * (f 1)) * vx)) ≤ 99 then ((f (6 + i)) + ((((((f 5) >>> (nI i &&& 31)) &&& 1) ^^^ 1) * (f 1)) * vx)) else 99) ≤ (f (6 + i)) then (0 : Int32) else 1))), (0, .ref m0), (1, .int vx)]) rfl ?_
              exact ih_25 (i + 1) (by omega) (by omega) _ _ (by subst e_cn; subst e_f; rfl) (by subst e_cn; subst e_f; rfl) ((pk_un (by omega)).trans hf0)
            refine r_icmp_le C dX3_dip_96 (tgt := 103) (by decide) (fun c_10 => ?_) (fun c_10 => ?_)
            · refine r_iconst C dX3_dip_103 (v := 0) (by decide) ?_
              exact J_12 _ (by first | rfl | simp only [if_pos c_10])
            · refine r_iconst C dX3_dip_99 (v := 1) (by decide) ?_
              refine r_goto C dX3_dip_100 (tgt := 104) (by decide) ?_
              exact J_12 _ (by first | rfl | simp only [if_neg c_10])
          refine r_icmp_le C dX3_dip_72 (tgt := 80) (by decide) (fun c_7 => ?_) (fun c_7 => ?_)
          · refine r_iload C dX3_dip_80 0 rfl ?_
            exact J_9 _ (by first | rfl | simp only [if_pos c_7])
          · refine r_bipush C dX3_dip_75 (v := 99) (by decide) ?_
            refine r_goto C dX3_dip_77 (tgt := 82) (by decide) ?_
            exact J_9 _ (by first | rfl | simp only [if_neg c_7])
    exact L_25 (nl + 1) 0 (by omega) (by omega) _ _ rfl rfl e0
  · exact absurd c_1 hv
set_option maxHeartbeats 4000000 in
set_option maxRecDepth 100000 in
/-- dip, out of range -/
theorem c_X3_dip_no (l : Launch) (D : va_G) (cI cR : ClassId) (m0 : Nat) (n0 : Nat) (q0 : Nat) (sv : Nat) (r0 : Nat) (t0 : Nat) (w0 : Nat) (u0 : Nat) (v0 : Nat) (y0 : Nat) (tm : Int32) (hs : Int64) (er : Nat → Int32) (vx : Int32) (hv : wiF vx 0 99 = 0) : Ctr l D cI cR yX3_dip cX3_dip 5 ((some .int)) ({ frames := 1, cells := 0, slots := 0, locals := 22 }) [.ref m0, .int vx] [(m0, .inr (3, [.ref n0, .ref q0, .int (nI sv), .ref r0, .ref t0, .ref w0, .ref u0, .ref v0, .ref y0, .int tm, .long hs])), (r0, .inl (cI, 4, .inl er))] (rP (some (.int (-2))) [(m0, .inr (3, [.ref n0, .ref q0, .int (nI sv), .ref r0, .ref t0, .ref w0, .ref u0, .ref v0, .ref y0, .int tm, .long hs])), (r0, .inl (cI, 4, .inl (upd er 0 (er 0 + 1))))]) := by
  refine ctr_of (lv0 := [(0, .ref m0), (1, .int vx)]) (by decide) (nle rfl) rfl (fun G C E => ?_)
  refine r_iload_n C dX3_dip_0 1 rfl ?_
  refine r_iconst C dX3_dip_1 (v := 0) (by decide) ?_
  refine r_bipush C dX3_dip_2 (v := 99) (by decide) ?_
  refine r_callS C (As := [.int vx, .int 0, .int 99]) (rest := []) (wr := [(m0, .inr (3, [.ref n0, .ref q0, .int (nI sv), .ref r0, .ref t0, .ref w0, .ref u0, .ref v0, .ref y0, .int tm, .long hs])), (r0, .inl (cI, 4, .inl er))]) (c_X3_within l D cI cR vx 0 99 ) k_X3_within rfl dX3_dip_4 q_453 q_454 ⟨nle rfl, nle rfl⟩ [] [0, 1] rfl rfl rfl rfl (by decide) rfl (nle rfl) ⟨nle rfl, nle rfl⟩ (r_fin (st2 := [.int (wiF vx 0 99)]) (ws2 := [(m0, .inr (3, [.ref n0, .ref q0, .int (nI sv), .ref r0, .ref t0, .ref w0, .ref u0, .ref v0, .ref y0, .int tm, .long hs])), (r0, .inl (cI, 4, .inl er))]) rfl rfl ?_)
  refine r_if_ne C dX3_dip_7 (tgt := 17) (by decide) (fun c_1 => ?_) (fun c_1 => ?_)
  · exact absurd hv c_1
  · refine r_aload_n C dX3_dip_10 0 rfl ?_
    refine r_bipush C dX3_dip_11 (v := (-2)) (by decide) ?_
    refine r_callV C (As := [.int (-2)]) (rest := []) (wr := []) (c_X3_fails l D cI cR m0 n0 q0 sv r0 t0 w0 u0 v0 y0 tm hs er (-2) 0 (by decide) (by decide)) k_X3_fails rfl dX3_dip_13 q_437 q_439 q_14 ⟨nle rfl, nle rfl⟩ [0, 1] [] rfl rfl rfl rfl (by decide) 0 rfl rfl rfl (nle rfl) ⟨nle rfl, nle rfl⟩ (r_fin (st2 := [.int (-2)]) (ws2 := [(m0, .inr (3, [.ref n0, .ref q0, .int (nI sv), .ref r0, .ref t0, .ref w0, .ref u0, .ref v0, .ref y0, .int tm, .long hs])), (r0, .inl (cI, 4, .inl (upd er 0 (er 0 + 1))))]) rfl rfl ?_)
    exact r_iret C E dX3_dip_16 (nle rfl) (nle rfl) ⟨rfl, rfl⟩
set_option maxHeartbeats 4000000 in
set_option maxRecDepth 100000 in
/-- varnish, in range -/
theorem c_X3_varnish_ok (l : Launch) (D : va_G) (cI cR : ClassId) (m0 : Nat) (n0 : Nat) (q0 : Nat) (sv : Nat) (r0 : Nat) (t0 : Nat) (w0 : Nat) (u0 : Nat) (v0 : Nat) (y0 : Nat) (tm : Int32) (hs : Int64) (nw : Nat → Int32) (ps : Nat → Int32) (nl : Nat) (vx : Int32) (hsv : sv ≤ 5) (e0 : nw 0 = nI nl) (hv : ¬ wiF vx 0 (abF (nI nl)) = 0) : Ctr l D cI cR yX3_varnish cX3_varnish 2 ((some .int)) ({ frames := 1, cells := 0, slots := 0, locals := 22 }) [.ref m0, .int vx] [(m0, .inr (3, [.ref n0, .ref q0, .int (nI sv), .ref r0, .ref t0, .ref w0, .ref u0, .ref v0, .ref y0, .int tm, .long hs])), (n0, .inl (cI, 148, .inl nw)), (q0, .inl (cI, 740, .inl ps))] (rP (some (.int (onF (nw 5 ||| vx) 12))) [(m0, .inr (3, [.ref n0, .ref q0, .int (nI (svC sv)), .ref r0, .ref t0, .ref w0, .ref u0, .ref v0, .ref y0, .int tm, .long hs])), (n0, .inl (cI, 148, .inl (upd nw 5 (nw 5 ||| vx)))), (q0, .inl (cI, 740, .inl (svQ sv nw ps)))]) := by
  refine ctr_of (lv0 := [(0, .ref m0), (1, .int vx)]) (by decide) (nle rfl) rfl (fun G C E => ?_)
  refine r_iload_n C dX3_varnish_0 1 rfl ?_
  refine r_iconst C dX3_varnish_1 (v := 0) (by decide) ?_
  refine r_iconst C dX3_varnish_2 (v := 1) (by decide) ?_
  refine r_aload_n C dX3_varnish_3 0 rfl ?_
  refine r_get C clX3 dX3_varnish_4 0 0 rfl (by decide) q_399 rfl ?_
  refine r_iconst C dX3_varnish_7 (v := 0) (by decide) ?_
  refine r_iald C dX3_varnish_8 1 rfl 0 rfl (by decide) (by decide) ?_
  refine r_top (b := nI nl) e0 ?_
  refine r_ishl C dX3_varnish_9 ?_
  refine r_iconst C dX3_varnish_10 (v := 1) (by decide) ?_
  refine r_isub C dX3_varnish_11 ?_
  refine r_callS C (As := [.int vx, .int 0, .int ((1 <<< (nI nl &&& 31)) - 1)]) (rest := []) (wr := [(m0, .inr (3, [.ref n0, .ref q0, .int (nI sv), .ref r0, .ref t0, .ref w0, .ref u0, .ref v0, .ref y0, .int tm, .long hs])), (n0, .inl (cI, 148, .inl nw)), (q0, .inl (cI, 740, .inl ps))]) (c_X3_within l D cI cR vx 0 ((1 <<< (nI nl &&& 31)) - 1) ) k_X3_within rfl dX3_varnish_12 q_453 q_454 ⟨nle rfl, nle rfl⟩ [] [0, 1, 2] rfl rfl rfl rfl (by decide) rfl (nle rfl) ⟨nle rfl, nle rfl⟩ (r_fin (st2 := [.int (wiF vx 0 ((1 <<< (nI nl &&& 31)) - 1))]) (ws2 := [(m0, .inr (3, [.ref n0, .ref q0, .int (nI sv), .ref r0, .ref t0, .ref w0, .ref u0, .ref v0, .ref y0, .int tm, .long hs])), (n0, .inl (cI, 148, .inl nw)), (q0, .inl (cI, 740, .inl ps))]) rfl rfl ?_)
  refine r_if_ne C dX3_varnish_15 (tgt := 25) (by decide) (fun c_1 => ?_) (fun c_1 => ?_)
  · refine r_aload_n C dX3_varnish_25 0 rfl ?_
    refine r_callV C (As := []) (rest := []) (wr := []) (c_X3_saves l D cI cR m0 n0 q0 sv r0 t0 w0 u0 v0 y0 tm hs nw ps (by first | assumption | omega)) k_X3_saves rfl dX3_varnish_26 q_445 q_447 q_15 ⟨nle rfl, nle rfl⟩ [0, 1, 2] [] rfl rfl rfl rfl (by decide) 0 rfl rfl rfl (nle rfl) ⟨nle rfl, nle rfl⟩ (r_fin (st2 := []) (ws2 := [(m0, .inr (3, [.ref n0, .ref q0, .int (nI (svC sv)), .ref r0, .ref t0, .ref w0, .ref u0, .ref v0, .ref y0, .int tm, .long hs])), (n0, .inl (cI, 148, .inl nw)), (q0, .inl (cI, 740, .inl (svQ sv nw ps)))]) rfl rfl ?_)
    refine r_aload_n C dX3_varnish_29 0 rfl ?_
    refine r_get C clX3 dX3_varnish_30 0 0 rfl (by decide) q_399 rfl ?_
    refine r_iconst C dX3_varnish_33 (v := 5) (by decide) ?_
    refine r_dup2 C dX3_varnish_34 rfl rfl ?_
    refine r_iald C dX3_varnish_35 1 rfl 5 rfl (by decide) (by decide) ?_
    refine r_iload_n C dX3_varnish_36 1 rfl ?_
    refine r_ior C dX3_varnish_37 ?_
    refine r_iast C dX3_varnish_38 1 rfl 5 rfl (by decide) (by decide) (ws2 := [(m0, .inr (3, [.ref n0, .ref q0, .int (nI (svC sv)), .ref r0, .ref t0, .ref w0, .ref u0, .ref v0, .ref y0, .int tm, .long hs])), (n0, .inl (cI, 148, .inl (upd nw 5 ((nw 5) ||| vx)))), (q0, .inl (cI, 740, .inl (svQ sv nw ps)))]) rfl ?_
    refine r_aload_n C dX3_varnish_39 0 rfl ?_
    refine r_get C clX3 dX3_varnish_40 0 0 rfl (by decide) q_399 rfl ?_
    refine r_iconst C dX3_varnish_43 (v := 5) (by decide) ?_
    refine r_iald C dX3_varnish_44 1 rfl 5 rfl (by decide) (by decide) ?_
    refine r_top (b := ((nw 5) ||| vx)) pk_us ?_
    refine r_callS C (As := [.int ((nw 5) ||| vx)]) (rest := []) (wr := [(m0, .inr (3, [.ref n0, .ref q0, .int (nI (svC sv)), .ref r0, .ref t0, .ref w0, .ref u0, .ref v0, .ref y0, .int tm, .long hs])), (n0, .inl (cI, 148, .inl (upd nw 5 ((nw 5) ||| vx)))), (q0, .inl (cI, 740, .inl (svQ sv nw ps)))]) (c_X3_ones l D cI cR ((nw 5) ||| vx) ) k_X3_ones rfl dX3_varnish_45 q_464 q_465 ⟨nle rfl, nle rfl⟩ [] [0, 1, 2] rfl rfl rfl rfl (by decide) rfl (nle rfl) ⟨nle rfl, nle rfl⟩ (r_fin (st2 := [.int (onF ((nw 5) ||| vx) 12)]) (ws2 := [(m0, .inr (3, [.ref n0, .ref q0, .int (nI (svC sv)), .ref r0, .ref t0, .ref w0, .ref u0, .ref v0, .ref y0, .int tm, .long hs])), (n0, .inl (cI, 148, .inl (upd nw 5 ((nw 5) ||| vx)))), (q0, .inl (cI, 740, .inl (svQ sv nw ps)))]) rfl rfl ?_)
    exact r_iret C E dX3_varnish_48 (nle rfl) (nle rfl) ⟨rfl, rfl⟩
  · exact absurd c_1 hv
set_option maxHeartbeats 4000000 in
set_option maxRecDepth 100000 in
/-- varnish, out of range -/
theorem c_X3_varnish_no (l : Launch) (D : va_G) (cI cR : ClassId) (m0 : Nat) (n0 : Nat) (q0 : Nat) (sv : Nat) (r0 : Nat) (t0 : Nat) (w0 : Nat) (u0 : Nat) (v0 : Nat) (y0 : Nat) (tm : Int32) (hs : Int64) (nw : Nat → Int32) (nl : Nat) (er : Nat → Int32) (vx : Int32) (e0 : nw 0 = nI nl) (hv : wiF vx 0 (abF (nI nl)) = 0) : Ctr l D cI cR yX3_varnish cX3_varnish 2 ((some .int)) ({ frames := 1, cells := 0, slots := 0, locals := 22 }) [.ref m0, .int vx] [(m0, .inr (3, [.ref n0, .ref q0, .int (nI sv), .ref r0, .ref t0, .ref w0, .ref u0, .ref v0, .ref y0, .int tm, .long hs])), (n0, .inl (cI, 148, .inl nw)), (r0, .inl (cI, 4, .inl er))] (rP (some (.int (-2))) [(m0, .inr (3, [.ref n0, .ref q0, .int (nI sv), .ref r0, .ref t0, .ref w0, .ref u0, .ref v0, .ref y0, .int tm, .long hs])), (n0, .inl (cI, 148, .inl nw)), (r0, .inl (cI, 4, .inl (upd er 0 (er 0 + 1))))]) := by
  refine ctr_of (lv0 := [(0, .ref m0), (1, .int vx)]) (by decide) (nle rfl) rfl (fun G C E => ?_)
  refine r_iload_n C dX3_varnish_0 1 rfl ?_
  refine r_iconst C dX3_varnish_1 (v := 0) (by decide) ?_
  refine r_iconst C dX3_varnish_2 (v := 1) (by decide) ?_
  refine r_aload_n C dX3_varnish_3 0 rfl ?_
  refine r_get C clX3 dX3_varnish_4 0 0 rfl (by decide) q_399 rfl ?_
  refine r_iconst C dX3_varnish_7 (v := 0) (by decide) ?_
  refine r_iald C dX3_varnish_8 1 rfl 0 rfl (by decide) (by decide) ?_
  refine r_top (b := nI nl) e0 ?_
  refine r_ishl C dX3_varnish_9 ?_
  refine r_iconst C dX3_varnish_10 (v := 1) (by decide) ?_
  refine r_isub C dX3_varnish_11 ?_
  refine r_callS C (As := [.int vx, .int 0, .int ((1 <<< (nI nl &&& 31)) - 1)]) (rest := []) (wr := [(m0, .inr (3, [.ref n0, .ref q0, .int (nI sv), .ref r0, .ref t0, .ref w0, .ref u0, .ref v0, .ref y0, .int tm, .long hs])), (n0, .inl (cI, 148, .inl nw)), (r0, .inl (cI, 4, .inl er))]) (c_X3_within l D cI cR vx 0 ((1 <<< (nI nl &&& 31)) - 1) ) k_X3_within rfl dX3_varnish_12 q_453 q_454 ⟨nle rfl, nle rfl⟩ [] [0, 1, 2] rfl rfl rfl rfl (by decide) rfl (nle rfl) ⟨nle rfl, nle rfl⟩ (r_fin (st2 := [.int (wiF vx 0 ((1 <<< (nI nl &&& 31)) - 1))]) (ws2 := [(m0, .inr (3, [.ref n0, .ref q0, .int (nI sv), .ref r0, .ref t0, .ref w0, .ref u0, .ref v0, .ref y0, .int tm, .long hs])), (n0, .inl (cI, 148, .inl nw)), (r0, .inl (cI, 4, .inl er))]) rfl rfl ?_)
  refine r_if_ne C dX3_varnish_15 (tgt := 25) (by decide) (fun c_1 => ?_) (fun c_1 => ?_)
  · exact absurd hv c_1
  · refine r_aload_n C dX3_varnish_18 0 rfl ?_
    refine r_bipush C dX3_varnish_19 (v := (-2)) (by decide) ?_
    refine r_callV C (As := [.int (-2)]) (rest := []) (wr := [(n0, .inl (cI, 148, .inl nw))]) (c_X3_fails l D cI cR m0 n0 q0 sv r0 t0 w0 u0 v0 y0 tm hs er (-2) 0 (by decide) (by decide)) k_X3_fails rfl dX3_varnish_21 q_437 q_439 q_14 ⟨nle rfl, nle rfl⟩ [0, 2] [1] rfl rfl rfl rfl (by decide) 0 rfl rfl rfl (nle rfl) ⟨nle rfl, nle rfl⟩ (r_fin (st2 := [.int (-2)]) (ws2 := [(n0, .inl (cI, 148, .inl nw)), (m0, .inr (3, [.ref n0, .ref q0, .int (nI sv), .ref r0, .ref t0, .ref w0, .ref u0, .ref v0, .ref y0, .int tm, .long hs])), (r0, .inl (cI, 4, .inl (upd er 0 (er 0 + 1))))]) rfl rfl ?_)
    refine r_ws [1, 0, 2] (ws2 := [(m0, .inr (3, [.ref n0, .ref q0, .int (nI sv), .ref r0, .ref t0, .ref w0, .ref u0, .ref v0, .ref y0, .int tm, .long hs])), (n0, .inl (cI, 148, .inl nw)), (r0, .inl (cI, 4, .inl (upd er 0 (er 0 + 1))))]) rfl rfl ?_
    exact r_iret C E dX3_varnish_24 (nle rfl) (nle rfl) ⟨rfl, rfl⟩
set_option maxHeartbeats 4000000 in
set_option maxRecDepth 100000 in
/-- clean() -/
theorem c_X3_clean (l : Launch) (D : va_G) (cI cR : ClassId) (m0 : Nat) (n0 : Nat) (q0 : Nat) (sv : Nat) (r0 : Nat) (t0 : Nat) (w0 : Nat) (u0 : Nat) (v0 : Nat) (y0 : Nat) (tm : Int32) (hs : Int64) (nw : Nat → Int32) (ps : Nat → Int32) (hsv : sv ≤ 5) : Ctr l D cI cR yX3_clean cX3_clean 2 ((some .int)) ({ frames := 1, cells := 0, slots := 0, locals := 22 }) [.ref m0] [(m0, .inr (3, [.ref n0, .ref q0, .int (nI sv), .ref r0, .ref t0, .ref w0, .ref u0, .ref v0, .ref y0, .int tm, .long hs])), (n0, .inl (cI, 148, .inl nw)), (q0, .inl (cI, 740, .inl ps))] (rP (some (.int (onF (nw 5) 12))) [(m0, .inr (3, [.ref n0, .ref q0, .int (nI (svC sv)), .ref r0, .ref t0, .ref w0, .ref u0, .ref v0, .ref y0, .int tm, .long hs])), (n0, .inl (cI, 148, .inl (upd nw 5 0))), (q0, .inl (cI, 740, .inl (svQ sv nw ps)))]) := by
  refine ctr_of (lv0 := [(0, .ref m0)]) (by decide) (nle rfl) rfl (fun G C E => ?_)
  refine r_aload_n C dX3_clean_0 0 rfl ?_
  refine r_callV C (As := []) (rest := []) (wr := []) (c_X3_saves l D cI cR m0 n0 q0 sv r0 t0 w0 u0 v0 y0 tm hs nw ps (by first | assumption | omega)) k_X3_saves rfl dX3_clean_1 q_445 q_447 q_15 ⟨nle rfl, nle rfl⟩ [0, 1, 2] [] rfl rfl rfl rfl (by decide) 0 rfl rfl rfl (nle rfl) ⟨nle rfl, nle rfl⟩ (r_fin (st2 := []) (ws2 := [(m0, .inr (3, [.ref n0, .ref q0, .int (nI (svC sv)), .ref r0, .ref t0, .ref w0, .ref u0, .ref v0, .ref y0, .int tm, .long hs])), (n0, .inl (cI, 148, .inl nw)), (q0, .inl (cI, 740, .inl (svQ sv nw ps)))]) rfl rfl ?_)
  refine r_aload_n C dX3_clean_4 0 rfl ?_
  refine r_get C clX3 dX3_clean_5 0 0 rfl (by decide) q_399 rfl ?_
  refine r_iconst C dX3_clean_8 (v := 5) (by decide) ?_
  refine r_iald C dX3_clean_9 1 rfl 5 rfl (by decide) (by decide) ?_
  refine r_callS C (As := [.int (nw 5)]) (rest := []) (wr := [(m0, .inr (3, [.ref n0, .ref q0, .int (nI (svC sv)), .ref r0, .ref t0, .ref w0, .ref u0, .ref v0, .ref y0, .int tm, .long hs])), (n0, .inl (cI, 148, .inl nw)), (q0, .inl (cI, 740, .inl (svQ sv nw ps)))]) (c_X3_ones l D cI cR (nw 5) ) k_X3_ones rfl dX3_clean_10 q_464 q_465 ⟨nle rfl, nle rfl⟩ [] [0, 1, 2] rfl rfl rfl rfl (by decide) rfl (nle rfl) ⟨nle rfl, nle rfl⟩ (r_fin (st2 := [.int (onF (nw 5) 12)]) (ws2 := [(m0, .inr (3, [.ref n0, .ref q0, .int (nI (svC sv)), .ref r0, .ref t0, .ref w0, .ref u0, .ref v0, .ref y0, .int tm, .long hs])), (n0, .inl (cI, 148, .inl nw)), (q0, .inl (cI, 740, .inl (svQ sv nw ps)))]) rfl rfl ?_)
  refine r_istore_n C dX3_clean_13 (lv2 := [(1, .int (onF (nw 5) 12)), (0, .ref m0)]) (by decide) rfl ?_
  refine r_aload_n C dX3_clean_14 1 rfl ?_
  refine r_get C clX3 dX3_clean_15 0 0 rfl (by decide) q_399 rfl ?_
  refine r_iconst C dX3_clean_18 (v := 5) (by decide) ?_
  refine r_iconst C dX3_clean_19 (v := 0) (by decide) ?_
  refine r_iast C dX3_clean_20 1 rfl 5 rfl (by decide) (by decide) (ws2 := [(m0, .inr (3, [.ref n0, .ref q0, .int (nI (svC sv)), .ref r0, .ref t0, .ref w0, .ref u0, .ref v0, .ref y0, .int tm, .long hs])), (n0, .inl (cI, 148, .inl (upd nw 5 0))), (q0, .inl (cI, 740, .inl (svQ sv nw ps)))]) rfl ?_
  refine r_iload_n C dX3_clean_21 0 rfl ?_
  exact r_iret C E dX3_clean_22 (nle rfl) (nle rfl) ⟨rfl, rfl⟩
set_option maxHeartbeats 4000000 in
set_option maxRecDepth 100000 in
/-- burnish, in range -/
theorem c_X3_burnish_ok (l : Launch) (D : va_G) (cI cR : ClassId) (m0 : Nat) (n0 : Nat) (q0 : Nat) (sv : Nat) (r0 : Nat) (t0 : Nat) (w0 : Nat) (u0 : Nat) (v0 : Nat) (y0 : Nat) (tm : Int32) (hs : Int64) (nw : Nat → Int32) (ps : Nat → Int32) (nl : Nat) (li : Nat) (am : Int32) (hsv : sv ≤ 5) (e0 : nw 0 = nI nl) (hnl : nl ≤ 10) (hli : li < nl) (hv : ¬ wiF am 1 99 = 0) : Ctr l D cI cR yX3_burnish cX3_burnish 3 ((some .int)) ({ frames := 2, cells := 0, slots := 0, locals := 43 }) [.ref m0, .int (nI li), .int am] [(m0, .inr (3, [.ref n0, .ref q0, .int (nI sv), .ref r0, .ref t0, .ref w0, .ref u0, .ref v0, .ref y0, .int tm, .long hs])), (n0, .inl (cI, 148, .inl nw)), (q0, .inl (cI, 740, .inl ps))] (rP (some (.int (if nw (6 + li) ≤ am then 0 else nw (6 + li) - am))) [(m0, .inr (3, [.ref n0, .ref q0, .int (nI (svC sv)), .ref r0, .ref t0, .ref w0, .ref u0, .ref v0, .ref y0, .int tm, .long hs])), (n0, .inl (cI, 148, .inl (upd (upd nw (6 + li) (if nw (6 + li) ≤ am then 0 else nw (6 + li) - am)) 3 1))), (q0, .inl (cI, 740, .inl (svQ sv nw ps)))]) := by
  refine ctr_of (lv0 := [(0, .ref m0), (1, .int (nI li)), (2, .int am)]) (by decide) (nle rfl) rfl (fun G C E => ?_)
  refine r_aload_n C dX3_burnish_0 0 rfl ?_
  refine r_iload_n C dX3_burnish_1 1 rfl ?_
  refine r_callV C (As := [.int (nI li)]) (rest := []) (wr := [(q0, .inl (cI, 740, .inl ps))]) (c_X3_isLine l D cI cR m0 n0 q0 sv r0 t0 w0 u0 v0 y0 tm hs nw nl (nI li) (by first | assumption | omega)) k_X3_isLine rfl dX3_burnish_2 q_475 q_477 q_16 ⟨nle rfl, nle rfl⟩ [0, 1] [2] rfl rfl rfl rfl (by decide) 0 rfl rfl rfl (nle rfl) ⟨nle rfl, nle rfl⟩ (r_fin (st2 := [.int (wiF (nI li) 0 (nI nl - 1))]) (ws2 := [(q0, .inl (cI, 740, .inl ps)), (m0, .inr (3, [.ref n0, .ref q0, .int (nI sv), .ref r0, .ref t0, .ref w0, .ref u0, .ref v0, .ref y0, .int tm, .long hs])), (n0, .inl (cI, 148, .inl nw))]) rfl rfl ?_)
  refine r_if_eq C dX3_burnish_5 (tgt := 18) (by decide) (fun c_1 => ?_) (fun c_1 => ?_)
  · exact absurd c_1 (wi_ok hli (by omega))
  · refine r_iload_n C dX3_burnish_8 2 rfl ?_
    refine r_iconst C dX3_burnish_9 (v := 1) (by decide) ?_
    refine r_bipush C dX3_burnish_10 (v := 99) (by decide) ?_
    refine r_callS C (As := [.int am, .int 1, .int 99]) (rest := []) (wr := [(q0, .inl (cI, 740, .inl ps)), (m0, .inr (3, [.ref n0, .ref q0, .int (nI sv), .ref r0, .ref t0, .ref w0, .ref u0, .ref v0, .ref y0, .int tm, .long hs])), (n0, .inl (cI, 148, .inl nw))]) (c_X3_within l D cI cR am 1 99 ) k_X3_within rfl dX3_burnish_12 q_453 q_454 ⟨nle rfl, nle rfl⟩ [] [0, 1, 2] rfl rfl rfl rfl (by decide) rfl (nle rfl) ⟨nle rfl, nle rfl⟩ (r_fin (st2 := [.int (wiF am 1 99)]) (ws2 := [(q0, .inl (cI, 740, .inl ps)), (m0, .inr (3, [.ref n0, .ref q0, .int (nI sv), .ref r0, .ref t0, .ref w0, .ref u0, .ref v0, .ref y0, .int tm, .long hs])), (n0, .inl (cI, 148, .inl nw))]) rfl rfl ?_)
    refine r_if_ne C dX3_burnish_15 (tgt := 25) (by decide) (fun c_2 => ?_) (fun c_2 => ?_)
    · refine r_aload_n C dX3_burnish_25 0 rfl ?_
      refine r_callV C (As := []) (rest := []) (wr := []) (c_X3_saves l D cI cR m0 n0 q0 sv r0 t0 w0 u0 v0 y0 tm hs nw ps (by first | assumption | omega)) k_X3_saves rfl dX3_burnish_26 q_445 q_447 q_15 ⟨nle rfl, nle rfl⟩ [1, 2, 0] [] rfl rfl rfl rfl (by decide) 0 rfl rfl rfl (nle rfl) ⟨nle rfl, nle rfl⟩ (r_fin (st2 := []) (ws2 := [(m0, .inr (3, [.ref n0, .ref q0, .int (nI (svC sv)), .ref r0, .ref t0, .ref w0, .ref u0, .ref v0, .ref y0, .int tm, .long hs])), (n0, .inl (cI, 148, .inl nw)), (q0, .inl (cI, 740, .inl (svQ sv nw ps)))]) rfl rfl ?_)
      refine r_aload_n C dX3_burnish_29 0 rfl ?_
      refine r_get C clX3 dX3_burnish_30 0 0 rfl (by decide) q_399 rfl ?_
      refine r_bipush C dX3_burnish_33 (v := 6) (by decide) ?_
      refine r_iload_n C dX3_burnish_35 1 rfl ?_
      refine r_iadd C dX3_burnish_36 ?_
      refine r_top (b := nI (6 + li)) (nA rfl rfl) ?_
      refine r_aload_n C dX3_burnish_37 0 rfl ?_
      refine r_get C clX3 dX3_burnish_38 0 0 rfl (by decide) q_399 rfl ?_
      refine r_bipush C dX3_burnish_41 (v := 6) (by decide) ?_
      refine r_iload_n C dX3_burnish_43 1 rfl ?_
      refine r_iadd C dX3_burnish_44 ?_
      refine r_top (b := nI (6 + li)) (nA rfl rfl) ?_
      refine r_iald C dX3_burnish_45 1 rfl (6 + li) rfl (by omega) (by decide) ?_
      refine r_iload_n C dX3_burnish_46 2 rfl ?_
      have J_5 : ∀ (v_4 : Int32), v_4 = (if (nw (6 + li)) ≤ am then (0 : Int32) else ((nw (6 + li)) - am)) → Wr G 0 0 65 [(0, .ref m0), (1, .int (nI li)), (2, .int am)] [.int v_4, .int (nI (6 + li)), .ref n0] [(m0, .inr (3, [.ref n0, .ref q0, .int (nI (svC sv)), .ref r0, .ref t0, .ref w0, .ref u0, .ref v0, .ref y0, .int tm, .long hs])), (n0, .inl (cI, 148, .inl nw)), (q0, .inl (cI, 740, .inl (svQ sv nw ps)))] := by
        intro v_4 ev_4
        subst ev_4
        refine r_iast C dX3_burnish_65 1 rfl (6 + li) rfl (by omega) (by decide) (ws2 := [(m0, .inr (3, [.ref n0, .ref q0, .int (nI (svC sv)), .ref r0, .ref t0, .ref w0, .ref u0, .ref v0, .ref y0, .int tm, .long hs])), (n0, .inl (cI, 148, .inl (upd nw (6 + li) (if (nw (6 + li)) ≤ am then (0 : Int32) else ((nw (6 + li)) - am))))), (q0, .inl (cI, 740, .inl (svQ sv nw ps)))]) rfl ?_
        refine r_aload_n C dX3_burnish_66 0 rfl ?_
        refine r_get C clX3 dX3_burnish_67 0 0 rfl (by decide) q_399 rfl ?_
        refine r_iconst C dX3_burnish_70 (v := 3) (by decide) ?_
        refine r_iconst C dX3_burnish_71 (v := 1) (by decide) ?_
        refine r_iast C dX3_burnish_72 1 rfl 3 rfl (by decide) (by decide) (ws2 := [(m0, .inr (3, [.ref n0, .ref q0, .int (nI (svC sv)), .ref r0, .ref t0, .ref w0, .ref u0, .ref v0, .ref y0, .int tm, .long hs])), (n0, .inl (cI, 148, .inl (upd (upd nw (6 + li) (if (nw (6 + li)) ≤ am then (0 : Int32) else ((nw (6 + li)) - am))) 3 1))), (q0, .inl (cI, 740, .inl (svQ sv nw ps)))]) rfl ?_
        refine r_aload_n C dX3_burnish_73 0 rfl ?_
        refine r_get C clX3 dX3_burnish_74 0 0 rfl (by decide) q_399 rfl ?_
        refine r_bipush C dX3_burnish_77 (v := 6) (by decide) ?_
        refine r_iload_n C dX3_burnish_79 1 rfl ?_
        refine r_iadd C dX3_burnish_80 ?_
        refine r_top (b := nI (6 + li)) (nA rfl rfl) ?_
        refine r_iald C dX3_burnish_81 1 rfl (6 + li) rfl (by omega) (by decide) ?_
        refine r_top (b := (if nw (6 + li) ≤ am then 0 else nw (6 + li) - am)) ((pk_un (by omega)).trans pk_us) ?_
        exact r_iret C E dX3_burnish_82 (nle rfl) (nle rfl) ⟨rfl, rfl⟩
      refine r_icmp_le C dX3_burnish_47 (tgt := 64) (by decide) (fun c_3 => ?_) (fun c_3 => ?_)
      · refine r_iconst C dX3_burnish_64 (v := 0) (by decide) ?_
        exact J_5 _ (by first | rfl | simp only [if_pos c_3])
      · refine r_aload_n C dX3_burnish_50 0 rfl ?_
        refine r_get C clX3 dX3_burnish_51 0 0 rfl (by decide) q_399 rfl ?_
        refine r_bipush C dX3_burnish_54 (v := 6) (by decide) ?_
        refine r_iload_n C dX3_burnish_56 1 rfl ?_
        refine r_iadd C dX3_burnish_57 ?_
        refine r_top (b := nI (6 + li)) (nA rfl rfl) ?_
        refine r_iald C dX3_burnish_58 1 rfl (6 + li) rfl (by omega) (by decide) ?_
        refine r_iload_n C dX3_burnish_59 2 rfl ?_
        refine r_isub C dX3_burnish_60 ?_
        refine r_goto C dX3_burnish_61 (tgt := 65) (by decide) ?_
        exact J_5 _ (by first | rfl | simp only [if_neg c_3])
    · exact absurd c_2 hv
set_option maxHeartbeats 4000000 in
set_option maxRecDepth 100000 in
/-- burnish, out of range -/
theorem c_X3_burnish_no (l : Launch) (D : va_G) (cI cR : ClassId) (m0 : Nat) (n0 : Nat) (q0 : Nat) (sv : Nat) (r0 : Nat) (t0 : Nat) (w0 : Nat) (u0 : Nat) (v0 : Nat) (y0 : Nat) (tm : Int32) (hs : Int64) (nw : Nat → Int32) (nl : Nat) (er : Nat → Int32) (lx : Int32) (am : Int32) (e0 : nw 0 = nI nl) (hv : ¬ (¬ wiF lx 0 (nI nl - 1) = 0 ∧ ¬ wiF am 1 99 = 0)) : Ctr l D cI cR yX3_burnish cX3_burnish 3 ((some .int)) ({ frames := 2, cells := 0, slots := 0, locals := 43 }) [.ref m0, .int lx, .int am] [(m0, .inr (3, [.ref n0, .ref q0, .int (nI sv), .ref r0, .ref t0, .ref w0, .ref u0, .ref v0, .ref y0, .int tm, .long hs])), (n0, .inl (cI, 148, .inl nw)), (r0, .inl (cI, 4, .inl er))] (rP (some (.int (-2))) [(m0, .inr (3, [.ref n0, .ref q0, .int (nI sv), .ref r0, .ref t0, .ref w0, .ref u0, .ref v0, .ref y0, .int tm, .long hs])), (n0, .inl (cI, 148, .inl nw)), (r0, .inl (cI, 4, .inl (upd er 0 (er 0 + 1))))]) := by
  refine ctr_of (lv0 := [(0, .ref m0), (1, .int lx), (2, .int am)]) (by decide) (nle rfl) rfl (fun G C E => ?_)
  refine r_aload_n C dX3_burnish_0 0 rfl ?_
  refine r_iload_n C dX3_burnish_1 1 rfl ?_
  refine r_callV C (As := [.int lx]) (rest := []) (wr := [(r0, .inl (cI, 4, .inl er))]) (c_X3_isLine l D cI cR m0 n0 q0 sv r0 t0 w0 u0 v0 y0 tm hs nw nl lx (by first | assumption | omega)) k_X3_isLine rfl dX3_burnish_2 q_475 q_477 q_16 ⟨nle rfl, nle rfl⟩ [0, 1] [2] rfl rfl rfl rfl (by decide) 0 rfl rfl rfl (nle rfl) ⟨nle rfl, nle rfl⟩ (r_fin (st2 := [.int (wiF lx 0 (nI nl - 1))]) (ws2 := [(r0, .inl (cI, 4, .inl er)), (m0, .inr (3, [.ref n0, .ref q0, .int (nI sv), .ref r0, .ref t0, .ref w0, .ref u0, .ref v0, .ref y0, .int tm, .long hs])), (n0, .inl (cI, 148, .inl nw))]) rfl rfl ?_)
  refine r_if_eq C dX3_burnish_5 (tgt := 18) (by decide) (fun hc5 => ?_) (fun hc5 => ?_)
  · refine r_aload_n C dX3_burnish_18 0 rfl ?_
    refine r_bipush C dX3_burnish_19 (v := (-2)) (by decide) ?_
    refine r_callV C (As := [.int (-2)]) (rest := []) (wr := [(n0, .inl (cI, 148, .inl nw))]) (c_X3_fails l D cI cR m0 n0 q0 sv r0 t0 w0 u0 v0 y0 tm hs er (-2) 0 (by decide) (by decide)) k_X3_fails rfl dX3_burnish_21 q_437 q_439 q_14 ⟨nle rfl, nle rfl⟩ [1, 0] [2] rfl rfl rfl rfl (by decide) 0 rfl rfl rfl (nle rfl) ⟨nle rfl, nle rfl⟩ (r_fin (st2 := [.int (-2)]) (ws2 := [(n0, .inl (cI, 148, .inl nw)), (m0, .inr (3, [.ref n0, .ref q0, .int (nI sv), .ref r0, .ref t0, .ref w0, .ref u0, .ref v0, .ref y0, .int tm, .long hs])), (r0, .inl (cI, 4, .inl (upd er 0 (er 0 + 1))))]) rfl rfl ?_)
    refine r_ws [1, 0, 2] (ws2 := [(m0, .inr (3, [.ref n0, .ref q0, .int (nI sv), .ref r0, .ref t0, .ref w0, .ref u0, .ref v0, .ref y0, .int tm, .long hs])), (n0, .inl (cI, 148, .inl nw)), (r0, .inl (cI, 4, .inl (upd er 0 (er 0 + 1))))]) rfl rfl ?_
    exact r_iret C E dX3_burnish_24 (nle rfl) (nle rfl) ⟨rfl, rfl⟩
  · refine r_iload_n C dX3_burnish_8 2 rfl ?_
    refine r_iconst C dX3_burnish_9 (v := 1) (by decide) ?_
    refine r_bipush C dX3_burnish_10 (v := 99) (by decide) ?_
    refine r_callS C (As := [.int am, .int 1, .int 99]) (rest := []) (wr := [(r0, .inl (cI, 4, .inl er)), (m0, .inr (3, [.ref n0, .ref q0, .int (nI sv), .ref r0, .ref t0, .ref w0, .ref u0, .ref v0, .ref y0, .int tm, .long hs])), (n0, .inl (cI, 148, .inl nw))]) (c_X3_within l D cI cR am 1 99 ) k_X3_within rfl dX3_burnish_12 q_453 q_454 ⟨nle rfl, nle rfl⟩ [] [0, 1, 2] rfl rfl rfl rfl (by decide) rfl (nle rfl) ⟨nle rfl, nle rfl⟩ (r_fin (st2 := [.int (wiF am 1 99)]) (ws2 := [(r0, .inl (cI, 4, .inl er)), (m0, .inr (3, [.ref n0, .ref q0, .int (nI sv), .ref r0, .ref t0, .ref w0, .ref u0, .ref v0, .ref y0, .int tm, .long hs])), (n0, .inl (cI, 148, .inl nw))]) rfl rfl ?_)
    refine r_if_ne C dX3_burnish_15 (tgt := 25) (by decide) (fun c_1 => ?_) (fun c_1 => ?_)
    · exact absurd ⟨hc5, c_1⟩ hv
    · refine r_aload_n C dX3_burnish_18 0 rfl ?_
      refine r_bipush C dX3_burnish_19 (v := (-2)) (by decide) ?_
      refine r_callV C (As := [.int (-2)]) (rest := []) (wr := [(n0, .inl (cI, 148, .inl nw))]) (c_X3_fails l D cI cR m0 n0 q0 sv r0 t0 w0 u0 v0 y0 tm hs er (-2) 0 (by decide) (by decide)) k_X3_fails rfl dX3_burnish_21 q_437 q_439 q_14 ⟨nle rfl, nle rfl⟩ [1, 0] [2] rfl rfl rfl rfl (by decide) 0 rfl rfl rfl (nle rfl) ⟨nle rfl, nle rfl⟩ (r_fin (st2 := [.int (-2)]) (ws2 := [(n0, .inl (cI, 148, .inl nw)), (m0, .inr (3, [.ref n0, .ref q0, .int (nI sv), .ref r0, .ref t0, .ref w0, .ref u0, .ref v0, .ref y0, .int tm, .long hs])), (r0, .inl (cI, 4, .inl (upd er 0 (er 0 + 1))))]) rfl rfl ?_)
      refine r_ws [1, 0, 2] (ws2 := [(m0, .inr (3, [.ref n0, .ref q0, .int (nI sv), .ref r0, .ref t0, .ref w0, .ref u0, .ref v0, .ref y0, .int tm, .long hs])), (n0, .inl (cI, 148, .inl nw)), (r0, .inl (cI, 4, .inl (upd er 0 (er 0 + 1))))]) rfl rfl ?_
      exact r_iret C E dX3_burnish_24 (nle rfl) (nle rfl) ⟨rfl, rfl⟩
set_option maxHeartbeats 4000000 in
set_option maxRecDepth 100000 in
/-- pull(), with room -/
theorem c_X3_pull_ok (l : Launch) (D : va_G) (cI cR : ClassId) (m0 : Nat) (n0 : Nat) (q0 : Nat) (sv : Nat) (r0 : Nat) (t0 : Nat) (w0 : Nat) (u0 : Nat) (v0 : Nat) (y0 : Nat) (tm : Int32) (hs : Int64) (nw : Nat → Int32) (ps : Nat → Int32) (nl : Nat) (pr : Nat) (hsv : sv ≤ 5) (e0 : nw 0 = nI nl) (e4 : nw 4 = nI pr) (hnl : nl ≤ 10) (hpr : pr < 12) : Ctr l D cI cR yX3_pull cX3_pull 3 ((some .int)) ({ frames := 1, cells := 0, slots := 0, locals := 21 }) [.ref m0] [(m0, .inr (3, [.ref n0, .ref q0, .int (nI sv), .ref r0, .ref t0, .ref w0, .ref u0, .ref v0, .ref y0, .int tm, .long hs])), (n0, .inl (cI, 148, .inl nw)), (q0, .inl (cI, 740, .inl ps))] (rP (some (.int (nI pr))) [(m0, .inr (3, [.ref n0, .ref q0, .int (nI (svC sv)), .ref r0, .ref t0, .ref w0, .ref u0, .ref v0, .ref y0, .int tm, .long hs])), (n0, .inl (cI, 148, .inl (puF (upd (puT (upd (upd (upd nw 2 (nw 2 + (if nI pr ≤ 0 then 0 else nw 3))) 3 0) (16 + pr) (nw 2 + (if nI pr ≤ 0 then 0 else nw 3))) nl pr 10) 4 (nI (pr + 1))) nl pr))), (q0, .inl (cI, 740, .inl (svQ sv nw ps)))]) := by
  refine ctr_of (lv0 := [(0, .ref m0)]) (by decide) (nle rfl) rfl (fun G C E => ?_)
  refine r_aload_n C dX3_pull_0 0 rfl ?_
  refine r_get C clX3 dX3_pull_1 0 0 rfl (by decide) q_399 rfl ?_
  refine r_iconst C dX3_pull_4 (v := 4) (by decide) ?_
  refine r_iald C dX3_pull_5 1 rfl 4 rfl (by decide) (by decide) ?_
  refine r_top (b := nI pr) e4 ?_
  refine r_istore_n C dX3_pull_6 (lv2 := [(1, .int (nI pr)), (0, .ref m0)]) (by decide) rfl ?_
  refine r_iload_n C dX3_pull_7 0 rfl ?_
  refine r_bipush C dX3_pull_8 (v := 12) (by decide) ?_
  refine r_icmp_ne C dX3_pull_10 (tgt := 20) (by decide) (fun c_1 => ?_) (fun c_1 => ?_)
  · have n_2 := mt (nI_eq (a := pr) (b := 12) (by omega) (by omega)).mpr c_1
    refine r_aload_n C dX3_pull_20 1 rfl ?_
    refine r_callV C (As := []) (rest := []) (wr := []) (c_X3_saves l D cI cR m0 n0 q0 sv r0 t0 w0 u0 v0 y0 tm hs nw ps (by first | assumption | omega)) k_X3_saves rfl dX3_pull_21 q_445 q_447 q_15 ⟨nle rfl, nle rfl⟩ [0, 1, 2] [] rfl rfl rfl rfl (by decide) 0 rfl rfl rfl (nle rfl) ⟨nle rfl, nle rfl⟩ (r_fin (st2 := []) (ws2 := [(m0, .inr (3, [.ref n0, .ref q0, .int (nI (svC sv)), .ref r0, .ref t0, .ref w0, .ref u0, .ref v0, .ref y0, .int tm, .long hs])), (n0, .inl (cI, 148, .inl nw)), (q0, .inl (cI, 740, .inl (svQ sv nw ps)))]) rfl rfl ?_)
    refine r_aload_n C dX3_pull_24 1 rfl ?_
    refine r_get C clX3 dX3_pull_25 0 0 rfl (by decide) q_399 rfl ?_
    refine r_iconst C dX3_pull_28 (v := 2) (by decide) ?_
    refine r_dup2 C dX3_pull_29 rfl rfl ?_
    refine r_iald C dX3_pull_30 1 rfl 2 rfl (by decide) (by decide) ?_
    refine r_iload_n C dX3_pull_31 0 rfl ?_
    have J_6 : ∀ (v_5 : Int32), v_5 = (if (nI pr) ≤ 0 then (0 : Int32) else (nw 3)) → Wr G 0 0 45 [(1, .int (nI pr)), (0, .ref m0)] [.int v_5, .int (nw 2), .int 2, .ref n0] [(m0, .inr (3, [.ref n0, .ref q0, .int (nI (svC sv)), .ref r0, .ref t0, .ref w0, .ref u0, .ref v0, .ref y0, .int tm, .long hs])), (n0, .inl (cI, 148, .inl nw)), (q0, .inl (cI, 740, .inl (svQ sv nw ps)))] := by
      intro v_5 ev_5
      subst ev_5
      refine r_iadd C dX3_pull_45 ?_
      refine r_iast C dX3_pull_46 1 rfl 2 rfl (by decide) (by decide) (ws2 := [(m0, .inr (3, [.ref n0, .ref q0, .int (nI (svC sv)), .ref r0, .ref t0, .ref w0, .ref u0, .ref v0, .ref y0, .int tm, .long hs])), (n0, .inl (cI, 148, .inl (upd nw 2 ((nw 2) + (if (nI pr) ≤ 0 then (0 : Int32) else (nw 3)))))), (q0, .inl (cI, 740, .inl (svQ sv nw ps)))]) rfl ?_
      refine r_aload_n C dX3_pull_47 1 rfl ?_
      refine r_get C clX3 dX3_pull_48 0 0 rfl (by decide) q_399 rfl ?_
      refine r_iconst C dX3_pull_51 (v := 3) (by decide) ?_
      refine r_iconst C dX3_pull_52 (v := 0) (by decide) ?_
      refine r_iast C dX3_pull_53 1 rfl 3 rfl (by decide) (by decide) (ws2 := [(m0, .inr (3, [.ref n0, .ref q0, .int (nI (svC sv)), .ref r0, .ref t0, .ref w0, .ref u0, .ref v0, .ref y0, .int tm, .long hs])), (n0, .inl (cI, 148, .inl (upd (upd nw 2 ((nw 2) + (if (nI pr) ≤ 0 then (0 : Int32) else (nw 3)))) 3 0))), (q0, .inl (cI, 740, .inl (svQ sv nw ps)))]) rfl ?_
      refine r_aload_n C dX3_pull_54 1 rfl ?_
      refine r_get C clX3 dX3_pull_55 0 0 rfl (by decide) q_399 rfl ?_
      refine r_bipush C dX3_pull_58 (v := 16) (by decide) ?_
      refine r_iload_n C dX3_pull_60 0 rfl ?_
      refine r_iadd C dX3_pull_61 ?_
      refine r_top (b := nI (16 + pr)) (nA rfl rfl) ?_
      refine r_aload_n C dX3_pull_62 1 rfl ?_
      refine r_get C clX3 dX3_pull_63 0 0 rfl (by decide) q_399 rfl ?_
      refine r_iconst C dX3_pull_66 (v := 2) (by decide) ?_
      refine r_iald C dX3_pull_67 1 rfl 2 rfl (by decide) (by decide) ?_
      refine r_top (b := ((nw 2) + (if (nI pr) ≤ 0 then (0 : Int32) else (nw 3)))) ((pk_un (by decide)).trans pk_us) ?_
      refine r_iast C dX3_pull_68 1 rfl (16 + pr) rfl (by omega) (by decide) (ws2 := [(m0, .inr (3, [.ref n0, .ref q0, .int (nI (svC sv)), .ref r0, .ref t0, .ref w0, .ref u0, .ref v0, .ref y0, .int tm, .long hs])), (n0, .inl (cI, 148, .inl (upd (upd (upd nw 2 ((nw 2) + (if (nI pr) ≤ 0 then (0 : Int32) else (nw 3)))) 3 0) (16 + pr) ((nw 2) + (if (nI pr) ≤ 0 then (0 : Int32) else (nw 3)))))), (q0, .inl (cI, 740, .inl (svQ sv nw ps)))]) rfl ?_
      refine r_iconst C dX3_pull_69 (v := 0) (by decide) ?_
      refine r_istore_n C dX3_pull_70 (lv2 := [(2, .int 0), (1, .int (nI pr)), (0, .ref m0)]) (by decide) rfl ?_
      have L_71 : ∀ (z i : Nat), i ≤ 10 → 10 < i + z → ∀ (f : Nat → Int32), f = puT (upd (upd (upd nw 2 (nw 2 + (if nI pr ≤ 0 then 0 else nw 3))) 3 0) (16 + pr) (nw 2 + (if nI pr ≤ 0 then 0 else nw 3))) nl pr i → f 0 = nI nl → f 4 = nI pr → Wr G 0 0 71 [(2, .int (nI i)), (1, .int (nI pr)), (0, .ref m0)] [] [(m0, .inr (3, [.ref n0, .ref q0, .int (nI (svC sv)), .ref r0, .ref t0, .ref w0, .ref u0, .ref v0, .ref y0, .int tm, .long hs])), (n0, .inl (cI, 148, .inl f)), (q0, .inl (cI, 740, .inl (svQ sv nw ps)))] := by
        intro z
        induction z with
        | zero => intro i h1 h2; exact absurd h2 (by omega)
        | succ z ih_71 =>
          intro i hi_71 hz_71 f e_f hf0 hf4
          refine r_iload_n C dX3_pull_71 0 rfl ?_
          refine r_bipush C dX3_pull_72 (v := 10) (by decide) ?_
          refine r_icmp_ge C dX3_pull_74 (tgt := 123) (by decide) (fun c_7 => ?_) (fun c_7 => ?_)
          · have n_8 := (nI_leI (a := 10) (b := i) (by omega) (by omega)).mp c_7
            have ex_71 : i = 10 := by omega
            subst ex_71
            refine r_aload_n C dX3_pull_123 2 rfl ?_
            refine r_get C clX3 dX3_pull_124 0 0 rfl (by decide) q_399 rfl ?_
            refine r_iconst C dX3_pull_127 (v := 4) (by decide) ?_
            refine r_dup2 C dX3_pull_128 rfl rfl ?_
            refine r_iald C dX3_pull_129 1 rfl 4 rfl (by decide) (by decide) ?_
            refine r_top (b := nI pr) hf4 ?_
            refine r_iconst C dX3_pull_130 (v := 1) (by decide) ?_
            refine r_iadd C dX3_pull_131 ?_
            refine r_top (b := nI (pr + 1)) (nA rfl rfl) ?_
            refine r_iast C dX3_pull_132 1 rfl 4 rfl (by decide) (by decide) (ws2 := [(m0, .inr (3, [.ref n0, .ref q0, .int (nI (svC sv)), .ref r0, .ref t0, .ref w0, .ref u0, .ref v0, .ref y0, .int tm, .long hs])), (n0, .inl (cI, 148, .inl (upd f 4 (nI (pr + 1))))), (q0, .inl (cI, 740, .inl (svQ sv nw ps)))]) rfl ?_
            refine r_iconst C dX3_pull_133 (v := 0) (by decide) ?_
            refine r_istore_n C dX3_pull_134 (lv2 := [(2, .int 0), (1, .int (nI pr)), (0, .ref m0)]) (by decide) rfl ?_
            have L_135 : ∀ (z w : Nat), w ≤ nl → nl < w + z → ∀ (g : Nat → Int32), g = puW (upd f 4 (nI (pr + 1))) w → g 0 = nI nl → g 4 = nI (pr + 1) → w = 0 ∨ (pr + 1) % 3 = 0 → Wr G 0 0 135 [(2, .int (nI w)), (1, .int (nI pr)), (0, .ref m0)] [] [(m0, .inr (3, [.ref n0, .ref q0, .int (nI (svC sv)), .ref r0, .ref t0, .ref w0, .ref u0, .ref v0, .ref y0, .int tm, .long hs])), (n0, .inl (cI, 148, .inl g)), (q0, .inl (cI, 740, .inl (svQ sv nw ps)))] := by
              intro z
              induction z with
              | zero => intro w h1 h2; exact absurd h2 (by omega)
              | succ z ih_135 =>
                intro w hi_135 hz_135 g e_g hg0 hg4 hgi
                refine r_iload_n C dX3_pull_135 0 rfl ?_
                refine r_aload_n C dX3_pull_136 2 rfl ?_
                refine r_get C clX3 dX3_pull_137 0 0 rfl (by decide) q_399 rfl ?_
                refine r_iconst C dX3_pull_140 (v := 0) (by decide) ?_
                refine r_iald C dX3_pull_141 1 rfl 0 rfl (by decide) (by decide) ?_
                refine r_top (b := nI nl) hg0 ?_
                refine r_icmp_ge C dX3_pull_142 (tgt := 191) (by decide) (fun h142 => ?_) (fun h142 => ?_)
                · have nh142 := (nI_leI (a := nl) (b := w) (by omega) (by omega)).mp h142
                  refine r_iload_n C dX3_pull_191 1 rfl ?_
                  exact r_iret C E dX3_pull_192 (nle rfl) (nle rfl) ⟨rfl, by rw [pu_end hi_135 e_g hgi (by omega), e_f]⟩
                · have nh142 := mt (nI_leI (a := nl) (b := w) (by omega) (by omega)).mpr h142
                  refine r_aload_n C dX3_pull_145 2 rfl ?_
                  refine r_get C clX3 dX3_pull_146 0 0 rfl (by decide) q_399 rfl ?_
                  refine r_iconst C dX3_pull_149 (v := 4) (by decide) ?_
                  refine r_iald C dX3_pull_150 1 rfl 4 rfl (by decide) (by decide) ?_
                  refine r_top (b := nI (pr + 1)) hg4 ?_
                  refine r_iconst C dX3_pull_151 (v := 3) (by decide) ?_
                  refine r_irem C dX3_pull_152 (by decide) ?_
                  refine r_top (b := nI ((pr + 1) % 3)) (pk_rem (d := 3) (by omega) (by decide) (by decide)) ?_
                  refine r_if_ne C dX3_pull_153 (tgt := 191) (by decide) (fun h153 => ?_) (fun h153 => ?_)
                  · have nh153 := mt (nI_eq (a := (pr + 1) % 3) (b := 0) (by omega) (by omega)).mpr h153
                    refine r_iload_n C dX3_pull_191 1 rfl ?_
                    exact r_iret C E dX3_pull_192 (nle rfl) (nle rfl) ⟨rfl, by rw [pu_end hi_135 e_g hgi (by omega), e_f]⟩
                  · have nh153 := (nI_eq (a := (pr + 1) % 3) (b := 0) (by omega) (by omega)).mp h153
                    refine r_aload_n C dX3_pull_156 2 rfl ?_
                    refine r_get C clX3 dX3_pull_157 0 0 rfl (by decide) q_399 rfl ?_
                    refine r_bipush C dX3_pull_160 (v := 6) (by decide) ?_
                    refine r_iload_n C dX3_pull_162 0 rfl ?_
                    refine r_iadd C dX3_pull_163 ?_
                    refine r_top (b := nI (6 + w)) (nA rfl rfl) ?_
                    refine r_dup2 C dX3_pull_164 rfl rfl ?_
                    refine r_iald C dX3_pull_165 1 rfl (6 + w) rfl (by omega) (by decide) ?_
                    refine r_aload_n C dX3_pull_166 2 rfl ?_
                    refine r_get C clX3 dX3_pull_167 0 0 rfl (by decide) q_399 rfl ?_
                    refine r_bipush C dX3_pull_170 (v := 6) (by decide) ?_
                    refine r_iload_n C dX3_pull_172 0 rfl ?_
                    refine r_iadd C dX3_pull_173 ?_
                    refine r_top (b := nI (6 + w)) (nA rfl rfl) ?_
                    refine r_iald C dX3_pull_174 1 rfl (6 + w) rfl (by omega) (by decide) ?_
                    have J_11 : ∀ (v_10 : Int32), v_10 = (if (g (6 + w)) ≤ 0 then (0 : Int32) else 1) → Wr G 0 0 183 [(2, .int (nI w)), (1, .int (nI pr)), (0, .ref m0)] [.int v_10, .int (g (6 + w)), .int (nI (6 + w)), .ref n0] [(m0, .inr (3, [.ref n0, .ref q0, .int (nI (svC sv)), .ref r0, .ref t0, .ref w0, .ref u0, .ref v0, .ref y0, .int tm, .long hs])), (n0, .inl (cI, 148, .inl g)), (q0, .inl (cI, 740, .inl (svQ sv nw ps)))] := by
                      intro v_10 ev_10
                      subst ev_10
                      refine r_isub C dX3_pull_183 ?_
                      refine r_iast C dX3_pull_184 1 rfl (6 + w) rfl (by omega) (by decide) (ws2 := [(m0, .inr (3, [.ref n0, .ref q0, .int (nI (svC sv)), .ref r0, .ref t0, .ref w0, .ref u0, .ref v0, .ref y0, .int tm, .long hs])), (n0, .inl (cI, 148, .inl (upd g (6 + w) ((g (6 + w)) - (if (g (6 + w)) ≤ 0 then (0 : Int32) else 1))))), (q0, .inl (cI, 740, .inl (svQ sv nw ps)))]) rfl ?_
                      refine r_iinc C dX3_pull_185 0 rfl (v := nI (w + 1)) (nI_1 _) (by decide) (lv2 := [(2, .int (nI (w + 1))), (1, .int (nI pr)), (0, .ref m0)]) rfl ?_
                      refine r_goto C dX3_pull_188 (tgt := 135) (by decide) ?_
                      exact ih_135 (w + 1) (by omega) (by omega) _ (by subst e_g; rfl) ((pk_un (by omega)).trans hg0) ((pk_un (by omega)).trans hg4) (Or.inr nh153)
                    refine r_if_le C dX3_pull_175 (tgt := 182) (by decide) (fun c_9 => ?_) (fun c_9 => ?_)
                    · refine r_iconst C dX3_pull_182 (v := 0) (by decide) ?_
                      exact J_11 _ (by first | rfl | simp only [if_pos c_9])
                    · refine r_iconst C dX3_pull_178 (v := 1) (by decide) ?_
                      refine r_goto C dX3_pull_179 (tgt := 183) (by decide) ?_
                      exact J_11 _ (by first | rfl | simp only [if_neg c_9])
            exact L_135 (nl + 1) 0 (by omega) (by omega) _ rfl ((pk_un (by decide)).trans hf0) pk_us (Or.inl rfl)
          · have n_8 := mt (nI_leI (a := 10) (b := i) (by omega) (by omega)).mpr c_7
            refine r_aload_n C dX3_pull_77 2 rfl ?_
            refine r_get C clX3 dX3_pull_78 0 0 rfl (by decide) q_399 rfl ?_
            refine r_bipush C dX3_pull_81 (v := 28) (by decide) ?_
            refine r_bipush C dX3_pull_83 (v := 10) (by decide) ?_
            refine r_iload_n C dX3_pull_85 1 rfl ?_
            refine r_imul C dX3_pull_86 ?_
            refine r_top (b := nI (10 * pr)) (nM rfl rfl) ?_
            refine r_iadd C dX3_pull_87 ?_
            refine r_top (b := nI (28 + (10 * pr))) (nA rfl rfl) ?_
            refine r_iload_n C dX3_pull_88 0 rfl ?_
            refine r_iadd C dX3_pull_89 ?_
            refine r_top (b := nI (28 + (10 * pr) + i)) (nA rfl rfl) ?_
            refine r_iload_n C dX3_pull_90 0 rfl ?_
            refine r_aload_n C dX3_pull_91 2 rfl ?_
            refine r_get C clX3 dX3_pull_92 0 0 rfl (by decide) q_399 rfl ?_
            refine r_iconst C dX3_pull_95 (v := 0) (by decide) ?_
            refine r_iald C dX3_pull_96 1 rfl 0 rfl (by decide) (by decide) ?_
            refine r_top (b := nI nl) hf0 ?_
            have J_15 : ∀ (v_14 : Int32), v_14 = (if (nI nl) ≤ (nI i) then (0 : Int32) else ((f (6 + i)) / 10)) → Wr G 0 0 116 [(2, .int (nI i)), (1, .int (nI pr)), (0, .ref m0)] [.int v_14, .int (nI (28 + (10 * pr) + i)), .ref n0] [(m0, .inr (3, [.ref n0, .ref q0, .int (nI (svC sv)), .ref r0, .ref t0, .ref w0, .ref u0, .ref v0, .ref y0, .int tm, .long hs])), (n0, .inl (cI, 148, .inl f)), (q0, .inl (cI, 740, .inl (svQ sv nw ps)))] := by
              intro v_14 ev_14
              subst ev_14
              refine r_iast C dX3_pull_116 1 rfl (28 + (10 * pr) + i) rfl (by omega) (by decide) (ws2 := [(m0, .inr (3, [.ref n0, .ref q0, .int (nI (svC sv)), .ref r0, .ref t0, .ref w0, .ref u0, .ref v0, .ref y0, .int tm, .long hs])), (n0, .inl (cI, 148, .inl (upd f (28 + (10 * pr) + i) (if (nI nl) ≤ (nI i) then (0 : Int32) else ((f (6 + i)) / 10))))), (q0, .inl (cI, 740, .inl (svQ sv nw ps)))]) rfl ?_
              refine r_iinc C dX3_pull_117 0 rfl (v := nI (i + 1)) (nI_1 _) (by decide) (lv2 := [(2, .int (nI (i + 1))), (1, .int (nI pr)), (0, .ref m0)]) rfl ?_
              refine r_goto C dX3_pull_120 (tgt := 71) (by decide) ?_
              exact ih_71 (i + 1) (by omega) (by omega) _ (by subst e_f; rfl) ((pk_un (by omega)).trans hf0) ((pk_un (by omega)).trans hf4)
            refine r_icmp_ge C dX3_pull_97 (tgt := 115) (by decide) (fun c_12 => ?_) (fun c_12 => ?_)
            · have n_13 := (nI_leI (a := nl) (b := i) (by omega) (by omega)).mp c_12
              refine r_iconst C dX3_pull_115 (v := 0) (by decide) ?_
              exact J_15 _ (by first | rfl | simp only [if_pos c_12])
            · have n_13 := mt (nI_leI (a := nl) (b := i) (by omega) (by omega)).mpr c_12
              refine r_aload_n C dX3_pull_100 2 rfl ?_
              refine r_get C clX3 dX3_pull_101 0 0 rfl (by decide) q_399 rfl ?_
              refine r_bipush C dX3_pull_104 (v := 6) (by decide) ?_
              refine r_iload_n C dX3_pull_106 0 rfl ?_
              refine r_iadd C dX3_pull_107 ?_
              refine r_top (b := nI (6 + i)) (nA rfl rfl) ?_
              refine r_iald C dX3_pull_108 1 rfl (6 + i) rfl (by omega) (by decide) ?_
              refine r_bipush C dX3_pull_109 (v := 10) (by decide) ?_
              refine r_idiv C dX3_pull_111 (by decide) ?_
              refine r_goto C dX3_pull_112 (tgt := 116) (by decide) ?_
              exact J_15 _ (by first | rfl | simp only [if_neg c_12])
      exact L_71 (10 + 1) 0 (by omega) (by omega) _ rfl ((pk_un (by omega)).trans ((pk_un (by decide)).trans ((pk_un (by decide)).trans e0))) ((pk_un (by omega)).trans ((pk_un (by decide)).trans ((pk_un (by decide)).trans e4)))
    refine r_if_le C dX3_pull_32 (tgt := 44) (by decide) (fun c_3 => ?_) (fun c_3 => ?_)
    · have n_4 := (nI_leI (a := pr) (b := 0) (by omega) (by omega)).mp c_3
      refine r_iconst C dX3_pull_44 (v := 0) (by decide) ?_
      exact J_6 _ (by first | rfl | simp only [if_pos c_3])
    · have n_4 := mt (nI_leI (a := pr) (b := 0) (by omega) (by omega)).mpr c_3
      refine r_aload_n C dX3_pull_35 1 rfl ?_
      refine r_get C clX3 dX3_pull_36 0 0 rfl (by decide) q_399 rfl ?_
      refine r_iconst C dX3_pull_39 (v := 3) (by decide) ?_
      refine r_iald C dX3_pull_40 1 rfl 3 rfl (by decide) (by decide) ?_
      refine r_goto C dX3_pull_41 (tgt := 45) (by decide) ?_
      exact J_6 _ (by first | rfl | simp only [if_neg c_3])
  · have n_2 := (nI_eq (a := pr) (b := 12) (by omega) (by omega)).mp c_1
    omega
set_option maxHeartbeats 4000000 in
set_option maxRecDepth 100000 in
/-- pull(), full -/
theorem c_X3_pull_no (l : Launch) (D : va_G) (cI cR : ClassId) (m0 : Nat) (n0 : Nat) (q0 : Nat) (sv : Nat) (r0 : Nat) (t0 : Nat) (w0 : Nat) (u0 : Nat) (v0 : Nat) (y0 : Nat) (tm : Int32) (hs : Int64) (nw : Nat → Int32) (pr : Nat) (er : Nat → Int32) (e4 : nw 4 = nI pr) (hpr : pr = 12) : Ctr l D cI cR yX3_pull cX3_pull 3 ((some .int)) ({ frames := 1, cells := 0, slots := 0, locals := 21 }) [.ref m0] [(m0, .inr (3, [.ref n0, .ref q0, .int (nI sv), .ref r0, .ref t0, .ref w0, .ref u0, .ref v0, .ref y0, .int tm, .long hs])), (n0, .inl (cI, 148, .inl nw)), (r0, .inl (cI, 4, .inl er))] (rP (some (.int (-4))) [(m0, .inr (3, [.ref n0, .ref q0, .int (nI sv), .ref r0, .ref t0, .ref w0, .ref u0, .ref v0, .ref y0, .int tm, .long hs])), (n0, .inl (cI, 148, .inl nw)), (r0, .inl (cI, 4, .inl (upd er 2 (er 2 + 1))))]) := by
  refine ctr_of (lv0 := [(0, .ref m0)]) (by decide) (nle rfl) rfl (fun G C E => ?_)
  refine r_aload_n C dX3_pull_0 0 rfl ?_
  refine r_get C clX3 dX3_pull_1 0 0 rfl (by decide) q_399 rfl ?_
  refine r_iconst C dX3_pull_4 (v := 4) (by decide) ?_
  refine r_iald C dX3_pull_5 1 rfl 4 rfl (by decide) (by decide) ?_
  refine r_top (b := nI pr) e4 ?_
  refine r_istore_n C dX3_pull_6 (lv2 := [(1, .int (nI pr)), (0, .ref m0)]) (by decide) rfl ?_
  refine r_iload_n C dX3_pull_7 0 rfl ?_
  refine r_bipush C dX3_pull_8 (v := 12) (by decide) ?_
  refine r_icmp_ne C dX3_pull_10 (tgt := 20) (by decide) (fun c_1 => ?_) (fun c_1 => ?_)
  · have n_2 := mt (nI_eq (a := pr) (b := 12) (by omega) (by omega)).mpr c_1
    omega
  · have n_2 := (nI_eq (a := pr) (b := 12) (by omega) (by omega)).mp c_1
    refine r_aload_n C dX3_pull_13 1 rfl ?_
    refine r_bipush C dX3_pull_14 (v := (-4)) (by decide) ?_
    refine r_callV C (As := [.int (-4)]) (rest := []) (wr := [(n0, .inl (cI, 148, .inl nw))]) (c_X3_fails l D cI cR m0 n0 q0 sv r0 t0 w0 u0 v0 y0 tm hs er (-4) 2 (by decide) (by decide)) k_X3_fails rfl dX3_pull_16 q_437 q_439 q_14 ⟨nle rfl, nle rfl⟩ [0, 2] [1] rfl rfl rfl rfl (by decide) 0 rfl rfl rfl (nle rfl) ⟨nle rfl, nle rfl⟩ (r_fin (st2 := [.int (-4)]) (ws2 := [(n0, .inl (cI, 148, .inl nw)), (m0, .inr (3, [.ref n0, .ref q0, .int (nI sv), .ref r0, .ref t0, .ref w0, .ref u0, .ref v0, .ref y0, .int tm, .long hs])), (r0, .inl (cI, 4, .inl (upd er 2 (er 2 + 1))))]) rfl rfl ?_)
    refine r_ws [1, 0, 2] (ws2 := [(m0, .inr (3, [.ref n0, .ref q0, .int (nI sv), .ref r0, .ref t0, .ref w0, .ref u0, .ref v0, .ref y0, .int tm, .long hs])), (n0, .inl (cI, 148, .inl nw)), (r0, .inl (cI, 4, .inl (upd er 2 (er 2 + 1))))]) rfl rfl ?_
    exact r_iret C E dX3_pull_19 (nle rfl) (nle rfl) ⟨rfl, rfl⟩
